/-! the class: the commands of a text are carried out in a draft -/
def tx_x : List tx_Q → Nat → (Nat → Int32) → List (Nat → Int32) → Option (Int32 × Int32 × Int32) × av_K
  | [], _, σ, L => (none, σ, L)
  | q :: r, k, σ, L => match av_ref σ L q.1 q.2.1 q.2.2.1 with
    | some xy => (some (xy.1, xy.2, nI k), σ, L)
    | none => tx_x r (k + 1) (av_nσ σ L q.1 q.2.1 q.2.2.1) (av_nL σ L q.1 q.2.1 q.2.2.1 q.2.2.2)
theorem tx_x_r {q : tx_Q} {r : List tx_Q} {k : Nat} {x y : Int32} {σ : Nat → Int32} {L : List (Nat → Int32)} (h : av_ref σ L q.1 q.2.1 q.2.2.1 = some (x, y)) : tx_x (q :: r) k σ L = (some (x, y, nI k), σ, L) := by
  show (match av_ref σ L q.1 q.2.1 q.2.2.1 with
    | some xy => (some (xy.1, xy.2, nI k), σ, L)
    | none => tx_x r (k + 1) (av_nσ σ L q.1 q.2.1 q.2.2.1) (av_nL σ L q.1 q.2.1 q.2.2.1 q.2.2.2)) = _
  rw [h]
theorem tx_x_n {q : tx_Q} {r : List tx_Q} {k : Nat} {σ : Nat → Int32} {L : List (Nat → Int32)} (h : av_ref σ L q.1 q.2.1 q.2.2.1 = none) : tx_x (q :: r) k σ L = tx_x r (k + 1) (av_nσ σ L q.1 q.2.1 q.2.2.1) (av_nL σ L q.1 q.2.1 q.2.2.1 q.2.2.2) := by
  show (match av_ref σ L q.1 q.2.1 q.2.2.1 with
    | some xy => (some (xy.1, xy.2, nI k), σ, L)
    | none => tx_x r (k + 1) (av_nσ σ L q.1 q.2.1 q.2.2.1) (av_nL σ L q.1 q.2.1 q.2.2.1 q.2.2.2)) = _
  rw [h]
theorem tx_f_g {T : Nat → Int32} {n : Nat} : ∀ (r : List Nat) (p : Nat) (o : tx_O), (o.2.2.1 = 0 ∨ o.2.2.1 = 1) → (tx_f T n r p o).2.2.2.2.1 = 0 ∨ (tx_f T n r p o).2.2.2.2.1 = 1 := by
  have h1 : ∀ (ch p : Nat) (o : tx_O), (o.2.2.1 = 0 ∨ o.2.2.1 = 1) → (tx_u ch o (tx_p T n ch p).2.2).2.2.1 = 0 ∨ (tx_u ch o (tx_p T n ch p).2.2).2.2.1 = 1 := fun ch p o h => by
    have ha : ∀ v, (tx_a o v).2.2.1 = o.2.2.1 := fun v => by unfold tx_a; split <;> rfl
    unfold tx_u
    by_cases h1 : ch = 49
    · rw [if_pos h1, ha]; exact h
    · rw [if_neg h1]
      by_cases h2 : ch = 50
      · rw [if_pos h2, ha]; exact h
      · rw [if_neg h2]
        by_cases h3 : ch = 126
        · rw [if_pos h3, h3]; exact tx_g_01
        · rw [if_neg h3]; exact h
  intro r
  induction r with
  | nil => intro p o h; exact h
  | cons ch r ih =>
    intro p o h
    have e : tx_f T n (ch :: r) p o = if (tx_p T n ch p).1 = true then tx_f T n r (tx_p T n ch p).2.1 (tx_u ch o (tx_p T n ch p).2.2) else (false, (tx_p T n ch p).2.1, tx_u ch o (tx_p T n ch p).2.2) := rfl
    rw [e]
    by_cases hq : (tx_p T n ch p).1 = true
    · rw [if_pos hq]; exact ih _ _ (h1 ch p o h)
    · rw [if_neg hq]; exact h1 ch p o h
theorem tx_c_g {T : Nat → Int32} {n p : Nat} : (tx_c T n p).2.2.2.2.2 = 0 ∨ (tx_c T n p).2.2.2.2.2 = 1 := by
  unfold tx_c
  cases tx_l (tx_h T n p) with
  | none => exact Or.inl rfl
  | some c => exact tx_f_g _ _ _ (Or.inl rfl)
theorem tx_r_g {T : Nat → Int32} {n k p : Nat} : (tx_r T n k p).2.2.2.2.2 = 0 ∨ (tx_r T n k p).2.2.2.2.2 = 1 := by
  unfold tx_r
  split
  · exact tx_c_g
  · split
    · exact tx_c_g
    · exact Or.inl rfl
theorem tx_c_u {T : Nat → Int32} {n p : Nat} : (tx_c T n p).2.1 ≤ p + 7 := by
  unfold tx_c
  cases hl : tx_l (tx_h T n p) with
  | none => exact Nat.le_add_right _ _
  | some c =>
    obtain ⟨hc, -⟩ := tx_l_8 hl
    have a := tx_f_b (T := T) (n := n) (am_fs (am_ef c)) (p + 1) (0, 0, 0, 0)
    have b := (am_fs_ok c hc).1
    show (tx_f T n (am_fs (am_ef c)) (p + 1) (0, 0, 0, 0)).2.1 ≤ p + 7
    omega
theorem tx_r_u {T : Nat → Int32} {n k p : Nat} : (tx_r T n k p).2.1 ≤ p + 9 := by
  have a := tx_c_u (T := T) (n := n) (p := p)
  have b := tx_c_u (T := T) (n := n) (p := p + 1)
  unfold tx_r
  split
  · omega
  · split
    · omega
    · exact Nat.le_add_right _ _
theorem tx_z_u {T : Nat → Int32} {n : Nat} : ∀ (f k p : Nat), (tx_z T n f k p).2.1 ≤ p + n + 9 := by
  have key : ∀ (f k p : Nat), (tx_z T n f k p).2.1 ≤ max p (n + 9) := by
    intro f
    induction f with
    | zero => intro k p; exact Nat.le_max_left _ _
    | succ f ih =>
      intro k p
      rw [tx_z_s]
      by_cases hn : n ≤ p
      · rw [if_pos hn]; exact Nat.le_max_left _ _
      · rw [if_neg hn]
        have a := tx_r_u (T := T) (n := n) (k := k) (p := p)
        by_cases hr : (tx_r T n k p).1 = true
        · rw [if_pos hr]
          have b := ih (k + 1) (tx_r T n k p).2.1
          show (tx_z T n f (k + 1) (tx_r T n k p).2.1).2.1 ≤ max p (n + 9)
          omega
        · rw [if_neg hr]
          show (tx_r T n k p).2.1 ≤ max p (n + 9)
          omega
  intro f k p
  have := key f k p
  omega
theorem tx_t_u {T : Nat → Int32} {n : Nat} (hn : n ≤ 60) : (tx_t T n).2.1 < 1000 := by
  unfold tx_t
  have a := tx_r_u (T := T) (n := n) (k := 0) (p := 0)
  by_cases hr : (tx_r T n 0 0).1 = true
  · rw [if_pos hr]
    have b := tx_z_u (T := T) (n := n) 61 1 (tx_r T n 0 0).2.1
    show (tx_z T n 61 1 (tx_r T n 0 0).2.1).2.1 < 1000
    omega
  · rw [if_neg hr]
    show (tx_r T n 0 0).2.1 < 1000
    omega
theorem av_ft_g {M X : am_M} (h : av_ft M X) {lo hi : Nat} (hd : hi ≤ 244 ∨ 249 ≤ lo ∨ (245 ≤ lo ∧ hi ≤ 248)) : av_ag M X lo hi := fun c k j hk a b => ⟨h.2.2 c k j hk (by omega) (by omega), h.2.1 c k j hk (by omega)⟩
theorem av_fl_g {M X : am_M} (h : av_fl M X) {lo hi : Nat} (hd : hi ≤ 244 ∨ 249 ≤ lo ∨ (245 ≤ lo ∧ hi ≤ 248)) : av_ag M X lo hi := fun c k j hk a b => ⟨h.2.2 c k j hk (by omega) (by omega), h.2.1 c k j hk (by omega)⟩
/-- only the text's places, the order, the draft and the refusal are changed -/
def av_gd (M X : am_M) : Prop := X.2.2 = M.2.2 ∧ ∀ c k j, k < 64 → c ≠ 248 → ¬ (249 ≤ c ∧ c < 273) → X.2.1 (am_c c k) j = M.2.1 (am_c c k) j ∧ (c ≠ 243 → ¬ (c = 244 ∧ k = 10 ∧ (j = 2 ∨ j = 3)) → X.1 (am_c c k) j = M.1 (am_c c k) j)
theorem av_gd_t {M X Y : am_M} (h : av_gd M X) (h' : av_gd X Y) : av_gd M Y := ⟨h'.1.trans h.1, fun c k j hk a b => ⟨(h'.2 c k j hk a b).1.trans (h.2 c k j hk a b).1, fun d e => ((h'.2 c k j hk a b).2 d e).trans ((h.2 c k j hk a b).2 d e)⟩⟩
theorem av_gd_ft {M X : am_M} (h : av_ft M X) : av_gd M X := ⟨h.1, fun c k j hk a b => ⟨h.2.1 c k j hk a, fun d e => h.2.2 c k j hk a e⟩⟩
theorem av_gd_f {M X : am_M} (h : av_fr M X 249) : av_gd M X := ⟨h.1, fun c k j hk a b => ⟨(h.2 c k j hk (by omega)).2, fun d e => (h.2 c k j hk (by omega)).1⟩⟩
theorem av_gd_i {M : am_M} {j : Nat} {x : Int32} : av_gd M (av_i M (am_c 243 7) j x) := ⟨rfl, fun c k j' hk a b => ⟨rfl, fun d e => am_up_a (am_c_ne hk (by decide) (fun hh => d hh.1))⟩⟩
theorem av_gd_g {M X : am_M} (h : av_gd M X) {lo hi : Nat} (hd : hi ≤ 243 ∨ 273 ≤ lo ∨ (245 ≤ lo ∧ hi ≤ 248)) : av_ag M X lo hi := fun c k j hk a b => ⟨(h.2 c k j hk (by omega) (by omega)).2 (by omega) (by omega), (h.2 c k j hk (by omega) (by omega)).1⟩
theorem av_tx_fd {M X : am_M} {n : Nat} {T : Nat → Int32} (h : av_tx M n T) (f : av_gd M X) : av_tx X n T :=
  ⟨((f.2 _ _ _ (by decide) (by decide) (by decide)).1).trans h.1, h.2.1, ((f.2 _ _ _ (by decide) (by decide) (by decide)).2 (by decide) (by decide)).trans h.2.2.1, fun j hj => ((f.2 _ _ _ (by decide) (by decide) (by decide)).2 (by decide) (by omega)).trans (h.2.2.2 j hj)⟩
theorem tc_dl {n : Nat} {T : Nat → Int32} {b : Bool} : ∀ (r : List tx_Q) (k p bd : Nat) (σ : Nat → Int32) (L : List (Nat → Int32)) (rm : Nat → Nat) (M : am_M), k + r.length ≤ 31 → p ≤ 10 * k → bd + 40 * r.length < 1000000000 → tx_y T n r k p → av_tx M n T → M.1 (am_c 244 10) 2 = nI p → M.1 (am_c 244 10) 3 = nI k → av_x0 M b → av_C M 249 rm σ L → av_ok bd σ L →
    ∃ M' rm', (∀ z, (tx_x r k σ L).1 = some z → am_val iX12_isRefusedInDraft 9 [some (.ref (am_c 0 12)), some (.int (nI k))] [] M = some (.inl (some (.int 1)), M', 0, 0) ∧ av_x4 M' z) ∧ ((tx_x r k σ L).1 = none → am_val iX12_isRefusedInDraft 9 [some (.ref (am_c 0 12)), some (.int (nI k))] [] M = some (.inl (some (.int 0)), M', 0, 0) ∧ M'.1 (am_c 244 10) 3 = nI (k + r.length) ∧ av_ok (bd + 40 * r.length) (tx_x r k σ L).2.1 (tx_x r k σ L).2.2 ∧ av_ag M M' 243 244) ∧ av_C M' 249 rm' (tx_x r k σ L).2.1 (tx_x r k σ L).2.2 ∧ av_gd M M' := by
  intro r
  induction r with
  | nil =>
    intro k p bd σ L rm M hk hp hbd hy hx h2 h3 h0 hC hok
    obtain ⟨hk1, hn⟩ := hy
    obtain ⟨M1, e1, p1, k1, -, f1⟩ := tc_read hx h2 (by omega) h3 (by omega)
    have hr : tx_r T n k p = (false, p, 0, 0, 0, 0) := by
      unfold tx_r
      rw [if_neg (by omega), if_neg (by rw [tx_h_n (by omega)]; decide)]
    rw [hr] at e1 k1
    have e1 : am_val iX10_readCommand 0 [some (.ref (am_c 244 10)), some (.ref (am_c 248 5)), none, none, none] [] M = some (.inl (some (.int 0)), M1, 0, 0) := e1
    have k1 : M1.1 (am_c 244 10) 3 = nI k := k1
    obtain ⟨⟨p0, p1, p2, p4, p5, p6, p7, p8, p9⟩, p3⟩ := h0
    have hk60 : ¬ (60 : Int32) ≤ nI k := nI_ge (b := 60) (by omega) (by decide)
    refine ⟨M1, rm, fun z hz => ?_, fun _ => ⟨?_, k1, hok, av_ft_g f1 (by decide)⟩, av_C_g hC (av_ft_g f1 (by decide)), av_gd_ft f1⟩
    · cases hz
    · rw [ae_X12_isRefusedInDraft_9, if_neg hk60]
      simp only [ae_X12_isRefusedInDraft_0, ae_X12_isRefusedInDraft_4, ae_X12_isRefusedInDraft_7, ae_X12_isRefusedInDraft_15, ae_X12_isRefusedInDraft_19, ae_X12_isRefusedInDraft_23, ae_X12_isRefusedInDraft_26, ae_X12_isRefusedInDraft_29, ae_X12_isRefusedInDraft_33, ae_X12_isRefusedInDraft_37, ae_X12_isRefusedInDraft_41, ae_X12_isRefusedInDraft_44, ae_X12_isRefusedInDraft_47, ae_X12_isRefusedInDraft_51, ae_X12_isRefusedInDraft_57, ae_X12_isRefusedInDraft_61, ae_X12_isRefusedInDraft_65, ae_X12_isRefusedInDraft_68, ae_X12_isRefusedInDraft_75, am_bnx_v, am_bnx_e, am_tl_s, am_tl_n, am_rv_s, am_add_rx, p5, p7, e1, not_true_eq_false, not_false_eq_true, if_true, if_false, am_1n0, or_true, true_or, eq_self, Bool.true_eq_false, Bool.false_eq_true, cond_true, cond_false]
  | cons q r ih =>
    intro k p bd σ L rm M hk hp hbd hy hx h2 h3 h0 hC hok
    obtain ⟨hr1, hr2, hy⟩ := hy
    rw [List.length_cons] at hk hbd
    obtain ⟨M1, e1, p1, k1, oc, f1⟩ := tc_read hx h2 (by omega) h3 (by omega)
    rw [hr1, am_bi_t] at e1
    rw [hr1, if_pos rfl] at k1
    have oc := oc hr1
    rw [hr2] at oc
    obtain ⟨hc, o0, o1, o2, o3⟩ := oc
    have hg := tx_r_g (T := T) (n := n) (k := k) (p := p)
    rw [hr2] at hg
    have hb := tx_r_u (T := T) (n := n) (k := k) (p := p)
    have hC1 := av_C_g hC (av_ft_g f1 (by decide))
    have h01 := av_x0_g h0 (av_ft_g f1 (by decide))
    have er := ac_isRefused (f := 243) hC1 hc o0 o1 o2
    have p5 : M.2.1 (am_c 0 12) 5 = am_c 244 10 + 1 := h0.1.2.2.2.2.1
    have p7 : M.2.1 (am_c 0 12) 7 = am_c 248 5 + 1 := h0.1.2.2.2.2.2.2.1
    have q4 : M1.2.1 (am_c 0 12) 4 = am_c 243 7 + 1 := h01.1.2.2.2.1
    have q7 : M1.2.1 (am_c 0 12) 7 = am_c 248 5 + 1 := h01.1.2.2.2.2.2.2.1
    have q8 : M1.2.1 (am_c 0 12) 8 = am_c 249 1 + 1 := h01.1.2.2.2.2.2.2.2.1
    have hk60 : ¬ (60 : Int32) ≤ nI k := nI_ge (b := 60) (by omega) (by decide)
    cases hr : av_ref σ L q.1 q.2.1 q.2.2.1 with
    | some xy =>
      obtain ⟨x, y⟩ := xy
      rw [tx_x_r hr]
      rw [hr] at er
      have er : am_val iX1_isRefused 0 [some (.ref (am_c 249 1)), some (.ref (am_c 248 5)), some (.ref (am_c 243 7))] [] M1 = some (.inl (some (.int 1)), av_rf M1 243 x y, 0, 0) := er
      have r4 : (av_rf M1 243 x y).2.1 (am_c 0 12) 4 = am_c 243 7 + 1 := q4
      refine ⟨av_i (av_rf M1 243 x y) (am_c 243 7) 2 (nI k), rm, fun z hz => ⟨?_, ?_⟩, fun hz => ?_, ?_, ?_⟩
      · rw [ae_X12_isRefusedInDraft_9, if_neg hk60]
        simp only [ae_X12_isRefusedInDraft_0, ae_X12_isRefusedInDraft_4, ae_X12_isRefusedInDraft_7, ae_X12_isRefusedInDraft_15, ae_X12_isRefusedInDraft_19, ae_X12_isRefusedInDraft_23, ae_X12_isRefusedInDraft_26, ae_X12_isRefusedInDraft_29, ae_X12_isRefusedInDraft_33, ae_X12_isRefusedInDraft_37, ae_X12_isRefusedInDraft_41, ae_X12_isRefusedInDraft_44, ae_X12_isRefusedInDraft_47, ae_X12_isRefusedInDraft_51, ae_X12_isRefusedInDraft_57, ae_X12_isRefusedInDraft_61, ae_X12_isRefusedInDraft_65, ae_X12_isRefusedInDraft_68, ae_X12_isRefusedInDraft_75, am_bnx_v, am_bnx_e, am_tl_s, am_tl_n, am_rv_s, am_add_rx, p5, p7, e1, q8, q7, q4, er, r4, not_true_eq_false, not_false_eq_true, if_true, if_false, am_1n0, or_true, true_or, eq_self, Bool.true_eq_false, Bool.false_eq_true, cond_true, cond_false]
      · have hz : (x, y, nI k) = z := Option.some.inj hz
        rw [← hz]
        unfold av_rf
        refine ⟨?_, ?_, ?_⟩
        · rw [av_jK (by decide), av_jK (by decide), av_jK (by decide), av_jS]
        · rw [av_jK (by decide), av_jK (by decide), av_jS]
        · rw [av_jS]
      · cases hz
      · unfold av_rf
        exact av_C_g hC1 (av_ag_t (av_ag_t (av_ag_t (av_ag_i (by decide) (by decide)) (av_ag_i (by decide) (by decide))) (av_ag_i (by decide) (by decide))) (av_ag_i (by decide) (by decide)))
      · unfold av_rf
        exact av_gd_t (av_gd_ft f1) (av_gd_t (av_gd_t (av_gd_t av_gd_i av_gd_i) av_gd_i) av_gd_i)
    | none =>
      rw [tx_x_n hr]
      rw [hr] at er
      have er : am_val iX1_isRefused 0 [some (.ref (am_c 249 1)), some (.ref (am_c 248 5)), some (.ref (am_c 243 7))] [] M1 = some (.inl (some (.int 0)), M1, 0, 0) := er
      obtain ⟨M2, rm', e2, c2, f2⟩ := ac_carryOut (g := q.2.2.2) hC1 hok hc hr hg o0 o1 o2 o3
      have okn := av_ok_all hok (by omega) hc hg hr
      have hx2 := av_tx_fd (av_tx_ft hx f1) (av_gd_f f2)
      have h02 := av_x0_g h01 (av_fr_ag f2 (by decide))
      obtain ⟨M', rm2, z1, z2, c3, f3⟩ := ih (k + 1) (tx_r T n k p).2.1 (bd + 40) _ _ rm' M2 (by omega) (by omega) (by omega) hy hx2 (((f2.2 244 10 2 (by decide) (by decide)).1).trans p1) (((f2.2 244 10 3 (by decide) (by decide)).1).trans k1) h02 c2 okn
      have step : am_val iX12_isRefusedInDraft 9 [some (.ref (am_c 0 12)), some (.int (nI k))] [] M = am_val iX12_isRefusedInDraft 9 [some (.ref (am_c 0 12)), some (.int (nI (k + 1)))] [] M2 := by
        rw [ae_X12_isRefusedInDraft_9, if_neg hk60]
        simp only [ae_X12_isRefusedInDraft_0, ae_X12_isRefusedInDraft_4, ae_X12_isRefusedInDraft_7, ae_X12_isRefusedInDraft_15, ae_X12_isRefusedInDraft_19, ae_X12_isRefusedInDraft_23, ae_X12_isRefusedInDraft_26, ae_X12_isRefusedInDraft_29, ae_X12_isRefusedInDraft_33, ae_X12_isRefusedInDraft_37, ae_X12_isRefusedInDraft_41, ae_X12_isRefusedInDraft_44, ae_X12_isRefusedInDraft_47, ae_X12_isRefusedInDraft_51, ae_X12_isRefusedInDraft_57, ae_X12_isRefusedInDraft_61, ae_X12_isRefusedInDraft_65, ae_X12_isRefusedInDraft_68, ae_X12_isRefusedInDraft_75, am_bnx_v, am_bnx_e, am_tl_s, am_tl_n, am_rv_s, am_add_rx, p5, p7, e1, q8, q7, q4, er, e2, not_true_eq_false, not_false_eq_true, if_true, if_false, am_1n0, or_true, true_or, eq_self, Bool.true_eq_false, Bool.false_eq_true, cond_true, cond_false, nI_1]
      refine ⟨M', rm2, fun z hz => ?_, fun hz => ?_, c3, av_gd_t (av_gd_ft f1) (av_gd_t (av_gd_f f2) f3)⟩
      · obtain ⟨y1, y2⟩ := z1 z hz
        exact ⟨step.trans y1, y2⟩
      · obtain ⟨y1, y2, y3, y4⟩ := z2 hz
        refine ⟨step.trans y1, ?_, ?_, av_ag_t (av_ag_t (av_ft_g f1 (by decide)) (av_fr_ag f2 (by decide))) y4⟩
        · rw [List.length_cons, show k + (r.length + 1) = k + 1 + r.length by omega]
          exact y2
        · rw [List.length_cons, show bd + 40 * (r.length + 1) = bd + 40 + 40 * r.length by omega]
          exact y3
