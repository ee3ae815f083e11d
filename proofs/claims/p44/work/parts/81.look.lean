/-! both: a text is looked through -/
abbrev tx_Q : Type := Nat × Int32 × Int32 × Int32
theorem tx_c_b {T : Nat → Int32} {n p : Nat} (h : (tx_c T n p).1 = true) : p + 1 ≤ (tx_c T n p).2.1 ∧ (tx_c T n p).2.1 ≤ p + 7 := by
  unfold tx_c at h ⊢
  cases hl : tx_l (tx_h T n p) with
  | none =>
    rw [hl] at h
    exact absurd (show false = true from h) (by decide)
  | some c =>
    obtain ⟨hc, -⟩ := tx_l_8 hl
    have a := tx_f_b (T := T) (n := n) (am_fs (am_ef c)) (p + 1) (0, 0, 0, 0)
    have b := (am_fs_ok c hc).1
    show p + 1 ≤ (tx_f T n (am_fs (am_ef c)) (p + 1) (0, 0, 0, 0)).2.1 ∧ (tx_f T n (am_fs (am_ef c)) (p + 1) (0, 0, 0, 0)).2.1 ≤ p + 7
    omega
theorem tx_r_b {T : Nat → Int32} {n k p : Nat} (h : (tx_r T n k p).1 = true) : p + 1 ≤ (tx_r T n k p).2.1 ∧ (k ≠ 0 → p + 2 ≤ (tx_r T n k p).2.1) ∧ (tx_r T n k p).2.1 ≤ p + 9 := by
  unfold tx_r at h ⊢
  by_cases h0 : k = 0
  · rw [if_pos h0] at h ⊢
    have a := tx_c_b h
    exact ⟨a.1, fun h => absurd h0 h, by omega⟩
  · rw [if_neg h0] at h ⊢
    by_cases hs : tx_h T n p = 59
    · rw [if_pos hs] at h ⊢
      have a := tx_c_b h
      exact ⟨by omega, fun _ => a.1, by omega⟩
    · rw [if_neg hs] at h
      exact absurd (show false = true from h) (by decide)
/-- the further commands: whether all are right, the place behind them, what they say -/
def tx_z (T : Nat → Int32) (n : Nat) : Nat → Nat → Nat → Bool × Nat × List tx_Q
  | 0, _, p => (true, p, [])
  | f + 1, k, p => if n ≤ p then (true, p, []) else if (tx_r T n k p).1 = true then ((tx_z T n f (k + 1) (tx_r T n k p).2.1).1, (tx_z T n f (k + 1) (tx_r T n k p).2.1).2.1, (tx_r T n k p).2.2 :: (tx_z T n f (k + 1) (tx_r T n k p).2.1).2.2) else (false, (tx_r T n k p).2.1, [])
theorem tx_z_s {T : Nat → Int32} {n f k p : Nat} : tx_z T n (f + 1) k p = if n ≤ p then (true, p, []) else if (tx_r T n k p).1 = true then ((tx_z T n f (k + 1) (tx_r T n k p).2.1).1, (tx_z T n f (k + 1) (tx_r T n k p).2.1).2.1, (tx_r T n k p).2.2 :: (tx_z T n f (k + 1) (tx_r T n k p).2.1).2.2) else (false, (tx_r T n k p).2.1, []) := rfl
theorem tx_z_e {T : Nat → Int32} {n f k p : Nat} (h : n ≤ p) : tx_z T n f k p = (true, p, []) := by
  cases f with
  | zero => rfl
  | succ f => rw [tx_z_s, if_pos h]
def tx_t (T : Nat → Int32) (n : Nat) : Bool × Nat × List tx_Q := if (tx_r T n 0 0).1 = true then ((tx_z T n 61 1 (tx_r T n 0 0).2.1).1, (tx_z T n 61 1 (tx_r T n 0 0).2.1).2.1, (tx_r T n 0 0).2.2 :: (tx_z T n 61 1 (tx_r T n 0 0).2.1).2.2) else (false, (tx_r T n 0 0).2.1, [])
/-- what the text's commands say, one after another -/
def tx_y (T : Nat → Int32) (n : Nat) : List tx_Q → Nat → Nat → Prop
  | [], k, p => 1 ≤ k ∧ n ≤ p
  | q :: r, k, p => (tx_r T n k p).1 = true ∧ (tx_r T n k p).2.2 = q ∧ tx_y T n r (k + 1) (tx_r T n k p).2.1
theorem tx_zy {T : Nat → Int32} {n : Nat} : ∀ (f k p : Nat), n < p + f + 1 → 1 ≤ k → (tx_z T n f k p).1 = true → tx_y T n (tx_z T n f k p).2.2 k p := by
  intro f
  induction f with
  | zero =>
    intro k p hf hk _
    exact ⟨hk, by omega⟩
  | succ f ih =>
    intro k p hf hk h
    rw [tx_z_s] at h ⊢
    by_cases hn : n ≤ p
    · rw [if_pos hn]
      exact ⟨hk, hn⟩
    · rw [if_neg hn] at h ⊢
      by_cases hr : (tx_r T n k p).1 = true
      · rw [if_pos hr] at h ⊢
        have b := tx_r_b hr
        exact ⟨hr, rfl, ih (k + 1) (tx_r T n k p).2.1 (by omega) (by omega) h⟩
      · rw [if_neg hr] at h
        exact absurd (show false = true from h) (by decide)
theorem tx_z_n {T : Nat → Int32} {n : Nat} : ∀ (f k p : Nat), 1 ≤ k → (n ≤ p → (tx_z T n f k p).2.2.length = 0) ∧ 2 * (tx_z T n f k p).2.2.length ≤ n - p + 1 := by
  intro f
  induction f with
  | zero =>
    intro k p hk
    exact ⟨fun _ => rfl, Nat.zero_le _⟩
  | succ f ih =>
    intro k p hk
    by_cases hn : n ≤ p
    · rw [tx_z_e hn]
      exact ⟨fun _ => rfl, Nat.zero_le _⟩
    · rw [tx_z_s, if_neg hn]
      refine ⟨fun h => absurd h hn, ?_⟩
      by_cases hr : (tx_r T n k p).1 = true
      · rw [if_pos hr]
        have b := (tx_r_b hr).2.1 (by omega)
        have c := ih (k + 1) (tx_r T n k p).2.1 (by omega)
        show 2 * ((tx_r T n k p).2.2 :: (tx_z T n f (k + 1) (tx_r T n k p).2.1).2.2).length ≤ n - p + 1
        rw [List.length_cons]
        by_cases hn' : n ≤ (tx_r T n k p).2.1
        · have := c.1 hn'
          omega
        · omega
      · rw [if_neg hr]
        exact Nat.zero_le _
theorem tx_ty {T : Nat → Int32} {n : Nat} (hn : n ≤ 60) (h : (tx_t T n).1 = true) : tx_y T n (tx_t T n).2.2 0 0 ∧ (tx_t T n).2.2.length ≤ 31 := by
  unfold tx_t at h ⊢
  by_cases hr : (tx_r T n 0 0).1 = true
  · rw [if_pos hr] at h ⊢
    have b := tx_r_b hr
    have c := (tx_z_n (T := T) (n := n) 61 1 (tx_r T n 0 0).2.1 (Nat.le_refl _)).2
    refine ⟨⟨hr, rfl, tx_zy 61 1 _ (by omega) (Nat.le_refl _) h⟩, ?_⟩
    show ((tx_r T n 0 0).2.2 :: (tx_z T n 61 1 (tx_r T n 0 0).2.1).2.2).length ≤ 31
    rw [List.length_cons]
    omega
  · rw [if_neg hr] at h
    exact absurd (show false = true from h) (by decide)
/-- only the text's places, its count, its fault and the order are changed -/
def av_fl (M X : am_M) : Prop := X.2.2 = M.2.2 ∧ (∀ c k j, k < 64 → c ≠ 248 → X.2.1 (am_c c k) j = M.2.1 (am_c c k) j) ∧ ∀ c k j, k < 64 → c ≠ 248 → ¬ (c = 244 ∧ k = 10 ∧ (j = 2 ∨ j = 3 ∨ j = 4)) → X.1 (am_c c k) j = M.1 (am_c c k) j
theorem av_fl_0 {M : am_M} : av_fl M M := ⟨rfl, fun _ _ _ _ _ => rfl, fun _ _ _ _ _ _ => rfl⟩
theorem av_fl_t {M X Y : am_M} (h : av_fl M X) (h' : av_fl X Y) : av_fl M Y := ⟨h'.1.trans h.1, fun c k j hk a => (h'.2.1 c k j hk a).trans (h.2.1 c k j hk a), fun c k j hk a b => (h'.2.2 c k j hk a b).trans (h.2.2 c k j hk a b)⟩
theorem av_fl_ft {M X : am_M} (h : av_ft M X) : av_fl M X := ⟨h.1, h.2.1, fun c k j hk a b => h.2.2 c k j hk a (fun hh => b ⟨hh.1, hh.2.1, by omega⟩)⟩
theorem av_fl_i {M : am_M} {j : Nat} {x : Int32} (hj : j = 2 ∨ j = 3 ∨ j = 4) : av_fl M (av_i M (am_c 244 10) j x) := ⟨rfl, fun _ _ _ _ _ => rfl, fun c k j' hk _ b => am_up_ak (fun hh => b (by
  have e := hh.1
  rw [am_c_inj hk (by decide)] at e
  exact ⟨e.1, e.2, by omega⟩))⟩
theorem tc_lk {n : Nat} {T : Nat → Int32} : ∀ (f k p : Nat) (M : am_M), n < p + f + 1 → 1 ≤ k → k ≤ p → p < 1000 → av_tx M n T → M.1 (am_c 244 10) 2 = nI p → M.1 (am_c 244 10) 3 = nI k → ∃ M', am_val iX10_lookForFault 12 [some (.ref (am_c 244 10)), some (.ref (am_c 248 5)), some (.int 1), some (.int (nI k))] [] M = some (.inl none, M', 0, 0) ∧ M'.1 (am_c 244 10) 4 = (if (tx_z T n f k p).1 = true then -1 else nI (tx_z T n f k p).2.1) ∧ av_fl M M' := by
  have fin : ∀ (k p : Nat) (M : am_M), n ≤ p → p < 1000 → av_tx M n T → M.1 (am_c 244 10) 2 = nI p → am_val iX10_lookForFault 12 [some (.ref (am_c 244 10)), some (.ref (am_c 248 5)), some (.int 1), some (.int (nI k))] [] M = some (.inl none, av_i M (am_c 244 10) 4 (-1), 0, 0) := fun k p M hn hp hx h2 => by
    have a1 : nI n ≤ nI p := nI_le hn (by omega)
    have x2 := hx.2.2.1
    rw [ae_X10_lookForFault_12, if_neg (show ¬ (1 : Int32) = 0 by decide)]
    simp only [ae_X10_lookForFault_0, ae_X10_lookForFault_4, ae_X10_lookForFault_9, ae_X10_lookForFault_16, ae_X10_lookForFault_27, ae_X10_lookForFault_33, ae_X10_lookForFault_38, ae_X10_lookForFault_45, ae_X10_lookForFault_50, ae_X10_lookForFault_54, am_bnx_v, am_bnx_e, am_tl_s, am_tl_n, am_rv_s, am_add_rx, x2, h2, a1, not_true_eq_false, not_false_eq_true, if_true, if_false, am_1n0, or_true, true_or, eq_self, Bool.true_eq_false, Bool.false_eq_true, cond_true, cond_false]
  intro f
  induction f with
  | zero =>
    intro k p M hf hk hkp hpb hx h2 h3
    have hn : n ≤ p := by omega
    refine ⟨_, fin k p M hn hpb hx h2, ?_, av_fl_i (by decide)⟩
    rw [tx_z_e hn, if_pos rfl, av_jS]
  | succ f ih =>
    intro k p M hf hk hkp hpb hx h2 h3
    by_cases hn : n ≤ p
    · refine ⟨_, fin k p M hn hpb hx h2, ?_, av_fl_i (by decide)⟩
      rw [tx_z_e hn, if_pos rfl, av_jS]
    · have hn60 := hx.2.1
      have a1 : ¬ nI n ≤ nI p := av_hl (by omega) (by omega)
      have a2 : ¬ (60 : Int32) ≤ nI k := nI_ge (b := 60) (by omega) (by decide)
      have x2 := hx.2.2.1
      obtain ⟨M1, e1, p1, k1, -, f1⟩ := tc_read hx h2 (by omega) h3 (by omega)
      rw [tx_z_s, if_neg hn]
      cases hr : (tx_r T n k p).1 with
      | true =>
        rw [if_pos rfl]
        rw [hr, am_bi_t] at e1
        rw [hr, if_pos rfl] at k1
        have b := tx_r_b hr
        obtain ⟨M2, e2, q2, f2⟩ := ih (k + 1) (tx_r T n k p).2.1 M1 (by omega) (by omega) (by omega) (by omega) (av_tx_ft hx f1) p1 k1
        refine ⟨M2, ?_, q2, av_fl_t (av_fl_ft f1) f2⟩
        rw [← e2, ae_X10_lookForFault_12, if_neg (show ¬ (1 : Int32) = 0 by decide)]
        simp only [ae_X10_lookForFault_0, ae_X10_lookForFault_4, ae_X10_lookForFault_9, ae_X10_lookForFault_16, ae_X10_lookForFault_27, ae_X10_lookForFault_33, ae_X10_lookForFault_38, ae_X10_lookForFault_45, ae_X10_lookForFault_50, ae_X10_lookForFault_54, am_bnx_v, am_bnx_e, am_tl_s, am_tl_n, am_rv_s, am_add_rx, x2, h2, a1, a2, e1, not_true_eq_false, not_false_eq_true, if_true, if_false, am_1n0, or_true, true_or, eq_self, Bool.true_eq_false, Bool.false_eq_true, cond_true, cond_false, nI_1]
      | false =>
        rw [if_neg (show ¬ false = true by decide), if_neg (show ¬ false = true by decide)]
        rw [hr, am_bi_f] at e1
        refine ⟨av_i M1 (am_c 244 10) 4 (nI (tx_r T n k p).2.1), ?_, av_jS, av_fl_t (av_fl_ft f1) (av_fl_i (by decide))⟩
        rw [ae_X10_lookForFault_12, if_neg (show ¬ (1 : Int32) = 0 by decide)]
        simp only [ae_X10_lookForFault_0, ae_X10_lookForFault_4, ae_X10_lookForFault_9, ae_X10_lookForFault_16, ae_X10_lookForFault_27, ae_X10_lookForFault_33, ae_X10_lookForFault_38, ae_X10_lookForFault_45, ae_X10_lookForFault_50, ae_X10_lookForFault_54, am_bnx_v, am_bnx_e, am_tl_s, am_tl_n, am_rv_s, am_add_rx, x2, h2, a1, a2, e1, not_true_eq_false, not_false_eq_true, if_true, if_false, am_1n0, or_true, true_or, eq_self, Bool.true_eq_false, Bool.false_eq_true, cond_true, cond_false]
        rw [ae_X10_lookForFault_12, if_pos rfl]
        simp only [ae_X10_lookForFault_0, ae_X10_lookForFault_4, ae_X10_lookForFault_9, ae_X10_lookForFault_16, ae_X10_lookForFault_27, ae_X10_lookForFault_33, ae_X10_lookForFault_38, ae_X10_lookForFault_45, ae_X10_lookForFault_50, ae_X10_lookForFault_54, am_bnx_v, am_bnx_e, am_tl_s, am_tl_n, am_rv_s, am_add_rx, p1, not_true_eq_false, not_false_eq_true, if_true, if_false, am_1n0, or_true, true_or, eq_self, Bool.true_eq_false, Bool.false_eq_true, cond_true, cond_false]
theorem av_tx_fl {M X : am_M} {n : Nat} {T : Nat → Int32} (h : av_tx M n T) (f : av_fl M X) : av_tx X n T :=
  ⟨(f.2.1 _ _ _ (by decide) (by decide)).trans h.1, h.2.1, (f.2.2 _ _ _ (by decide) (by decide) (by decide)).trans h.2.2.1, fun j hj => (f.2.2 _ _ _ (by decide) (by decide) (by omega)).trans (h.2.2.2 j hj)⟩
theorem tc_rewind {M : am_M} : ∃ M', am_val iX10_rewind 0 [some (.ref (am_c 244 10))] [] M = some (.inl none, M', 0, 0) ∧ M'.1 (am_c 244 10) 2 = nI 0 ∧ M'.1 (am_c 244 10) 3 = nI 0 ∧ av_ft M M' := by
  refine ⟨av_i (av_i M (am_c 244 10) 2 0) (am_c 244 10) 3 0, ?_, ?_, av_jS, av_ft_t (av_ft_i (by decide)) (av_ft_i (by decide))⟩
  · simp only [ae_X10_rewind_0]
  · rw [av_jK (by decide), av_jS]
    rfl
theorem tc_look {n : Nat} {T : Nat → Int32} {M : am_M} (hx : av_tx M n T) : ∃ M', am_val iX10_lookForFault 0 [some (.ref (am_c 244 10)), some (.ref (am_c 248 5)), none, none] [] M = some (.inl none, M', 0, 0) ∧ M'.1 (am_c 244 10) 4 = (if (tx_t T n).1 = true then -1 else nI (tx_t T n).2.1) ∧ av_fl M M' := by
  have hn60 := hx.2.1
  obtain ⟨M0, e0, p0, k0, f0⟩ := tc_rewind (M := M)
  have hx0 := av_tx_ft hx f0
  obtain ⟨M1, e1, p1, k1, -, f1⟩ := tc_read hx0 p0 (by decide) k0 (by decide)
  unfold tx_t
  cases hr : (tx_r T n 0 0).1 with
  | true =>
    rw [if_pos rfl]
    rw [hr, am_bi_t] at e1
    rw [hr, if_pos rfl] at k1
    have b := tx_r_b hr
    obtain ⟨M2, e2, q2, f2⟩ := tc_lk 61 1 (tx_r T n 0 0).2.1 M1 (by omega) (by decide) (by omega) (by omega) (av_tx_ft hx0 f1) p1 k1
    have e2 : am_val iX10_lookForFault 12 [some (.ref (am_c 244 10)), some (.ref (am_c 248 5)), some (.int 1), some (.int 1)] [] M1 = some (.inl none, M2, 0, 0) := e2
    refine ⟨M2, ?_, q2, av_fl_t (av_fl_ft f0) (av_fl_t (av_fl_ft f1) f2)⟩
    simp only [ae_X10_lookForFault_0, ae_X10_lookForFault_4, ae_X10_lookForFault_9, ae_X10_lookForFault_16, ae_X10_lookForFault_27, ae_X10_lookForFault_33, ae_X10_lookForFault_38, ae_X10_lookForFault_45, ae_X10_lookForFault_50, ae_X10_lookForFault_54, am_bnx_v, am_bnx_e, am_tl_s, am_tl_n, am_rv_s, am_add_rx, e0, e1, e2, not_true_eq_false, not_false_eq_true, if_true, if_false, am_1n0, or_true, true_or, eq_self, Bool.true_eq_false, Bool.false_eq_true, cond_true, cond_false]
  | false =>
    rw [if_neg (show ¬ false = true by decide), if_neg (show ¬ false = true by decide)]
    rw [hr, am_bi_f] at e1
    refine ⟨av_i M1 (am_c 244 10) 4 (nI (tx_r T n 0 0).2.1), ?_, av_jS, av_fl_t (av_fl_ft f0) (av_fl_t (av_fl_ft f1) (av_fl_i (by decide)))⟩
    simp only [ae_X10_lookForFault_0, ae_X10_lookForFault_4, ae_X10_lookForFault_9, ae_X10_lookForFault_16, ae_X10_lookForFault_27, ae_X10_lookForFault_33, ae_X10_lookForFault_38, ae_X10_lookForFault_45, ae_X10_lookForFault_50, ae_X10_lookForFault_54, am_bnx_v, am_bnx_e, am_tl_s, am_tl_n, am_rv_s, am_add_rx, e0, e1, not_true_eq_false, not_false_eq_true, if_true, if_false, am_1n0, or_true, true_or, eq_self, Bool.true_eq_false, Bool.false_eq_true, cond_true, cond_false]
    rw [ae_X10_lookForFault_12, if_pos rfl]
    simp only [ae_X10_lookForFault_0, ae_X10_lookForFault_4, ae_X10_lookForFault_9, ae_X10_lookForFault_16, ae_X10_lookForFault_27, ae_X10_lookForFault_33, ae_X10_lookForFault_38, ae_X10_lookForFault_45, ae_X10_lookForFault_50, ae_X10_lookForFault_54, am_bnx_v, am_bnx_e, am_tl_s, am_tl_n, am_rv_s, am_add_rx, p1, not_true_eq_false, not_false_eq_true, if_true, if_false, am_1n0, or_true, true_or, eq_self, Bool.true_eq_false, Bool.false_eq_true, cond_true, cond_false]
/-! the second implementation -/
theorem av_td_g {D k i : Nat} {q : tx_Q} {M X : am_M} (h : av_td D M i q) (g : av_mg D k M X) (hi : i < k) : av_td D X i q := by
  have e : ∀ a, a < 4 → X.1 (am_c (D + 6) 21) (4 * i + a) = M.1 (am_c (D + 6) 21) (4 * i + a) := fun a ha => g.2 _ _ _ (by decide) (by omega) (by omega)
  obtain ⟨h1, h2, h3, h4, h5, h6, h7⟩ := h
  refine ⟨h1, (e 0 (by decide)).trans h2, h3, fun h => ?_, fun h => ?_, fun h => ?_, fun h => ?_⟩
  · rw [e 1 (by decide), e 2 (by decide)]; exact h4 h
  · rw [e 3 (by decide)]; exact h5 h
  · rw [e 1 (by decide)]; exact h6 h
  · rw [e 1 (by decide), e 3 (by decide)]; exact h7 h
theorem av_mg_m {D k k' : Nat} {M X : am_M} (h : av_mg D k' M X) (hk : k ≤ k') : av_mg D k M X := ⟨h.1, fun c q j hq a b => h.2 c q j hq a (fun hh => b ⟨hh.1, hh.2.1, by omega⟩)⟩
theorem av_mg_0 {D k : Nat} {M : am_M} : av_mg D k M M := ⟨rfl, fun _ _ _ _ _ _ => rfl⟩
