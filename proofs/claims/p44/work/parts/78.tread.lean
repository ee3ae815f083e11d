/-! the class: a command is read, the text is looked through -/
theorem tx_f_b {T : Nat → Int32} {n : Nat} : ∀ (r : List Nat) (p : Nat) (o : tx_O), p ≤ (tx_f T n r p o).2.1 ∧ (tx_f T n r p o).2.1 ≤ p + 2 * r.length := by
  have h1 : ∀ p, p ≤ (tx_1 T n p).2.1 ∧ (tx_1 T n p).2.1 ≤ p + 2 := fun p => by
    unfold tx_1
    split <;> (dsimp only; omega)
  have h2 : ∀ p, p ≤ (tx_2 T n p).2.1 ∧ (tx_2 T n p).2.1 ≤ p + 2 := fun p => by
    unfold tx_2
    split
    · split <;> (dsimp only; omega)
    · dsimp only; omega
  have h3 : ∀ p, p ≤ (tx_g T n p).2.1 ∧ (tx_g T n p).2.1 ≤ p + 2 := fun p => by
    unfold tx_g
    split
    · dsimp only; omega
    · split <;> (dsimp only; omega)
  have h4 : ∀ c p, p ≤ (tx_k T n c p).2.1 ∧ (tx_k T n c p).2.1 ≤ p + 2 := fun c p => by
    unfold tx_k
    split <;> (dsimp only; omega)
  have h5 : ∀ ch p, p ≤ (tx_p T n ch p).2.1 ∧ (tx_p T n ch p).2.1 ≤ p + 2 := fun ch p => by
    unfold tx_p
    split
    · exact h1 p
    · split
      · exact h2 p
      · split
        · exact h3 p
        · exact h4 _ p
  intro r
  induction r with
  | nil => intro p o; exact ⟨Nat.le_refl _, Nat.le_add_right _ _⟩
  | cons ch r ih =>
    intro p o
    have a := h5 ch p
    have e : tx_f T n (ch :: r) p o = if (tx_p T n ch p).1 = true then tx_f T n r (tx_p T n ch p).2.1 (tx_u ch o (tx_p T n ch p).2.2) else (false, (tx_p T n ch p).2.1, tx_u ch o (tx_p T n ch p).2.2) := rfl
    rw [e, List.length_cons]
    by_cases h : (tx_p T n ch p).1 = true
    · rw [if_pos h]
      have b := ih (tx_p T n ch p).2.1 (tx_u ch o (tx_p T n ch p).2.2)
      omega
    · rw [if_neg h]
      show p ≤ (tx_p T n ch p).2.1 ∧ (tx_p T n ch p).2.1 ≤ _
      omega
theorem am_fs_ok : ∀ c, c < 8 → (am_fs (am_ef c)).length ≤ 3 ∧ ∀ k, k < (am_fs (am_ef c)).length → (am_fs (am_ef c)).getD k 0 < 65536 := by decide
theorem tc_form {c n : Nat} {T : Nat → Int32} (hc : c < 8) : ∀ (r : List Nat) (k p : Nat) (o : tx_O) (M : am_M), (am_fs (am_ef c)).drop k = r → k ≤ (am_fs (am_ef c)).length → av_tx M n T → M.1 (am_c 244 10) 2 = nI p → p + 2 * r.length < 2147483000 → av_or M o → ∃ M', am_val iX10_readCommand 75 [some (.ref (am_c 244 10)), some (.ref (am_c 248 5)), some (.ref (am_c c 40)), some (.ref (am_c ((am_ef c)) 41)), some (.int (nI k))] [] M = (if (tx_f T n r p o).1 = true then am_val iX10_readCommand 106 [some (.ref (am_c 244 10)), some (.ref (am_c 248 5)), some (.ref (am_c c 40)), some (.ref (am_c ((am_ef c)) 41)), some (.int (nI (am_fs (am_ef c)).length))] [] (M') else some (.inl (some (.int 0)), M', 0, 0)) ∧ M'.1 (am_c 244 10) 2 = nI (tx_f T n r p o).2.1 ∧ av_or M' (tx_f T n r p o).2.2 ∧ av_fo M M' := by
  intro r
  induction r with
  | nil =>
    intro k p o M hr hk hx hp hpb ho
    have hkl : k = (am_fs (am_ef c)).length := by
      have := congrArg List.length hr
      rw [List.length_drop, List.length_nil] at this
      omega
    refine ⟨M, ?_, hp, ho, av_fo_0⟩
    have hl := (am_fs_ok c hc).1
    rw [if_pos (show (tx_f T n [] p o).1 = true from rfl), hkl, ae_X10_readCommand_75, if_pos (show Int32.ofNat (am_fs (am_ef c)).length ≤ nI (am_fs (am_ef c)).length from av_he (by omega))]
  | cons ch r ih =>
    intro k p o M hr hk hx hp hpb ho
    have hl := (am_fs_ok c hc).1
    have hkl : k < (am_fs (am_ef c)).length := by
      have := congrArg List.length hr
      rw [List.length_drop, List.length_cons] at this
      omega
    have hgd : (am_fs (am_ef c)).getD k 0 = ch := by
      have h1 : ((am_fs (am_ef c)).drop k)[0]? = some ch := by rw [hr]; rfl
      rw [List.getElem?_drop, Nat.add_zero] at h1
      rw [List.getD_eq_getElem?_getD, h1]
      rfl
    have hdr : (am_fs (am_ef c)).drop (k + 1) = r := by
      have h1 : ((am_fs (am_ef c)).drop k).drop 1 = r := by rw [hr]; rfl
      rw [List.drop_drop] at h1
      exact h1
    have hch : ch < 65536 := by rw [← hgd]; exact (am_fs_ok c hc).2 k hkl
    have hin : am_in (nI k) (am_fs (am_ef c)).length = true := am_in_n hkl (by omega)
    have htn := am_tn (show k < 2147483648 by omega)
    have hle : ¬ Int32.ofNat (am_fs (am_ef c)).length ≤ nI k := av_hl hkl (by omega)
    rw [List.length_cons] at hpb
    obtain ⟨M1, e1, p1, o1, f1⟩ := tc_part (ch := ch) hx hp (by omega) hch ho
    have e1 : am_val iX10_readPart 0 [some (.ref (am_c 244 10)), some (.int ((Int32.ofNat ch))), some (.ref (am_c 248 5))] [] M = some (.inl (some (.int (am_bi (tx_p T n ch p).1))), M1, 0, 0) := e1
    have e : tx_f T n (ch :: r) p o = if (tx_p T n ch p).1 = true then tx_f T n r (tx_p T n ch p).2.1 (tx_u ch o (tx_p T n ch p).2.2) else (false, (tx_p T n ch p).2.1, tx_u ch o (tx_p T n ch p).2.2) := rfl
    rw [e]
    have pb := (tx_f_b (T := T) (n := n) [ch] p o)
    cases hq : (tx_p T n ch p).1 with
    | true =>
      rw [if_pos rfl]
      have pb2 : (tx_p T n ch p).2.1 ≤ p + 2 := by
        have e2 : tx_f T n [ch] p o = if (tx_p T n ch p).1 = true then (true, (tx_p T n ch p).2.1, tx_u ch o (tx_p T n ch p).2.2) else (false, (tx_p T n ch p).2.1, tx_u ch o (tx_p T n ch p).2.2) := rfl
        rw [e2, hq, if_pos rfl] at pb
        exact pb.2
      obtain ⟨M2, e2, p2, o2, f2⟩ := ih (k + 1) _ _ M1 hdr (by omega) (av_tx_fo hx f1) p1 (by omega) o1
      refine ⟨M2, ?_, p2, o2, av_fo_t f1 f2⟩
      rw [hq, am_bi_t] at e1
      rw [← e2, ae_X10_readCommand_75, if_neg hle]
      simp only [ae_X10_readCommand_0, ae_X10_readCommand_7, ae_X10_readCommand_13, ae_X10_readCommand_16, ae_X10_readCommand_18, ae_X10_readCommand_29, ae_X10_readCommand_33, ae_X10_readCommand_41n, ae_X10_readCommand_41, ae_X10_readCommand_44, ae_X10_readCommand_67, ae_X10_readCommand_84, ae_X10_readCommand_95, ae_X10_readCommand_98, ae_X10_readCommand_100, ae_X10_readCommand_106, ae_X10_readCommand_113, ae_X10_readCommand_120, ae_X10_readCommand_129, am_bnx_v, am_bnx_e, am_tl_s, am_tl_n, am_rv_s, am_add_rx, hin, htn, hgd, e1, not_true_eq_false, not_false_eq_true, if_true, if_false, am_1n0, or_true, true_or, eq_self, Bool.true_eq_false, Bool.false_eq_true, cond_true, cond_false, nI_1]
    | false =>
      rw [if_neg (by decide)]
      refine ⟨M1, Eq.trans ?_ (if_neg (show ¬ false = true by decide)).symm, p1, o1, f1⟩
      rw [hq, am_bi_f] at e1
      rw [ae_X10_readCommand_75, if_neg hle]
      simp only [ae_X10_readCommand_0, ae_X10_readCommand_7, ae_X10_readCommand_13, ae_X10_readCommand_16, ae_X10_readCommand_18, ae_X10_readCommand_29, ae_X10_readCommand_33, ae_X10_readCommand_41n, ae_X10_readCommand_41, ae_X10_readCommand_44, ae_X10_readCommand_67, ae_X10_readCommand_84, ae_X10_readCommand_95, ae_X10_readCommand_98, ae_X10_readCommand_100, ae_X10_readCommand_106, ae_X10_readCommand_113, ae_X10_readCommand_120, ae_X10_readCommand_129, am_bnx_v, am_bnx_e, am_tl_s, am_tl_n, am_rv_s, am_add_rx, hin, htn, hgd, e1, not_true_eq_false, not_false_eq_true, if_true, if_false, am_1n0, or_true, true_or, eq_self, Bool.true_eq_false, Bool.false_eq_true, cond_true, cond_false]
theorem am_el_e : ∀ k, k < 8 → ∀ j, j < 8 → am_el k = am_el j → k = j := by decide
theorem tx_l_h {T : Nat → Int32} {n p : Nat} (h : ¬ p < n) : tx_l (tx_h T n p) = none := by
  rw [tx_h_n h]
  decide
theorem tc_letter {x : Int32} {M : am_M} : am_val iX2_withLetter 0 [some (.int x), none, none, none, none] [] M = (match tx_l x with
    | some c => some (.inl (some (.ref (am_c c 40))), M, 0, 0)
    | none => some (.inl (some .null), M, 0, 0)) := by
  have key := av_srch (β := Option Value) (H := fun k y => am_val iX2_withLetter 9 [some (.int x), some (.ref (am_c 0 42)), some (.int 8), some (.int (nI k)), y] [] M) (f := fun k => decide (am_el k = x)) (N := 8) (rs := fun c => some (.inl (some (.ref (am_c c 40))), M, 0, 0)) (rn := some (.inl (some .null), M, 0, 0))
    (fun y => by
      rw [ae_X2_withLetter_9, if_pos (show (8 : Int32) ≤ nI 8 by decide)]
      simp only [ae_X2_withLetter_0, ae_X2_withLetter_14, ae_X2_withLetter_28, ae_X2_withLetter_31, ae_X2_withLetter_37])
    (fun k y hk hf => by
      have hf := of_decide_eq_true hf
      have hin := am_in_n hk (show 8 < 2147483648 by decide)
      have htn := am_tn (show k < 2147483648 by omega)
      rw [ae_X2_withLetter_9, if_neg (show ¬ (8 : Int32) ≤ nI k from nI_ge (b := 8) hk (by decide))]
      simp only [ae_X2_withLetter_0, ae_X2_withLetter_14, ae_X2_withLetter_28, ae_X2_withLetter_31, ae_X2_withLetter_37, hin, htn, if_neg (not_not_intro hf)])
    (fun k y hk hf => by
      have hf := of_decide_eq_false hf
      have hin := am_in_n hk (show 8 < 2147483648 by decide)
      have htn := am_tn (show k < 2147483648 by omega)
      refine Or.inl ⟨some (.ref (am_c k 40)), ?_⟩
      show am_val iX2_withLetter 9 [some (.int x), some (.ref (am_c 0 42)), some (.int 8), some (.int (nI k)), y] [] M = am_val iX2_withLetter 9 [some (.int x), some (.ref (am_c 0 42)), some (.int 8), some (.int (nI (k + 1))), some (.ref (am_c k 40))] [] M
      rw [ae_X2_withLetter_9, if_neg (show ¬ (8 : Int32) ≤ nI k from nI_ge (b := 8) hk (by decide))]
      simp only [ae_X2_withLetter_0, ae_X2_withLetter_14, ae_X2_withLetter_28, ae_X2_withLetter_31, ae_X2_withLetter_37, hin, htn, hf, not_true_eq_false, not_false_eq_true, if_true, if_false, am_1n0, or_true, true_or, eq_self, Bool.true_eq_false, Bool.false_eq_true, cond_true, cond_false, nI_1]) none
  have key : am_val iX2_withLetter 9 [some (.int x), some (.ref (am_c 0 42)), some (.int 8), some (.int 0), none] [] M = _ := key
  simp only [ae_X2_withLetter_0, ae_X2_withLetter_14, ae_X2_withLetter_28, ae_X2_withLetter_31, ae_X2_withLetter_37]
  rw [key]
  rfl
/-- only the text's place, its commands' count and the order are changed -/
def av_ft (M X : am_M) : Prop := X.2.2 = M.2.2 ∧ (∀ c k j, k < 64 → c ≠ 248 → X.2.1 (am_c c k) j = M.2.1 (am_c c k) j) ∧ ∀ c k j, k < 64 → c ≠ 248 → ¬ (c = 244 ∧ k = 10 ∧ (j = 2 ∨ j = 3)) → X.1 (am_c c k) j = M.1 (am_c c k) j
theorem av_ft_0 {M : am_M} : av_ft M M := ⟨rfl, fun _ _ _ _ _ => rfl, fun _ _ _ _ _ _ => rfl⟩
theorem av_ft_t {M X Y : am_M} (h : av_ft M X) (h' : av_ft X Y) : av_ft M Y := ⟨h'.1.trans h.1, fun c k j hk a => (h'.2.1 c k j hk a).trans (h.2.1 c k j hk a), fun c k j hk a b => (h'.2.2 c k j hk a b).trans (h.2.2 c k j hk a b)⟩
theorem av_ft_fo {M X : am_M} (h : av_fo M X) : av_ft M X := ⟨by rw [h.1], fun c k j _ _ => by rw [h.1], fun c k j hk a b => h.2 c k j hk (fun hh => b ⟨hh.1, hh.2.1, Or.inl hh.2.2⟩) (fun hh => a hh.1)⟩
theorem av_ft_i {M : am_M} {j : Nat} {x : Int32} (hj : j = 2 ∨ j = 3) : av_ft M (av_i M (am_c 244 10) j x) := ⟨rfl, fun _ _ _ _ _ => rfl, fun c k j' hk _ b => am_up_ak (fun hh => b (by
  have e := hh.1
  rw [am_c_inj hk (by decide)] at e
  exact ⟨e.1, e.2, by omega⟩))⟩
theorem av_ft_ag {M X : am_M} (h1 : X.2.2 = M.2.2) (h : ∀ lo hi, (hi ≤ 248 ∨ 249 ≤ lo) → av_ag M X lo hi) : av_ft M X :=
  ⟨h1, fun c k j hk a => (h c (c + 1) (by omega) c k j hk (Nat.le_refl _) (Nat.lt_succ_self _)).2, fun c k j hk a _ => (h c (c + 1) (by omega) c k j hk (Nat.le_refl _) (Nat.lt_succ_self _)).1⟩
theorem av_tx_ft {M X : am_M} {n : Nat} {T : Nat → Int32} (h : av_tx M n T) (f : av_ft M X) : av_tx X n T :=
  ⟨(f.2.1 _ _ _ (by decide) (by decide)).trans h.1, h.2.1, (f.2.2 _ _ _ (by decide) (by decide) (by decide)).trans h.2.2.1, fun j hj => (f.2.2 _ _ _ (by decide) (by decide) (by omega)).trans (h.2.2.2 j hj)⟩
/-- the order's cell holds a command -/
def av_oc (M : am_M) (q : Nat × Int32 × Int32 × Int32) : Prop := q.1 < 8 ∧ M.2.1 (am_c 248 5) 0 = am_c q.1 40 + 1 ∧ M.1 (am_c 248 5) 1 = q.2.1 ∧ M.1 (am_c 248 5) 2 = q.2.2.1 ∧ M.1 (am_c 248 5) 3 = q.2.2.2
theorem tx_l_8 {x : Int32} {c : Nat} (h : tx_l x = some c) : c < 8 ∧ am_el c = x := by
  unfold tx_l at h
  rcases av_fst_c (f := fun k => decide (am_el k = x)) 8 with ⟨e, -⟩ | ⟨j, hj, e, e3, -⟩
  · rw [e] at h; cases h
  · rw [e] at h
    cases h
    exact ⟨hj, of_decide_eq_true e3⟩
/-- behind the ';' -/
theorem tc_cmd {n p k : Nat} {T : Nat → Int32} {M : am_M} (hx : av_tx M n T) (hp : M.1 (am_c 244 10) 2 = nI p) (hpb : p < 2147480000) (hk : M.1 (am_c 244 10) 3 = nI k) (hkb : k < 1000) : ∃ M', am_val iX10_readCommand 18 [some (.ref (am_c 244 10)), some (.ref (am_c 248 5)), none, none, none] [] M = some (.inl (some (.int (am_bi (tx_c T n p).1))), M', 0, 0) ∧ M'.1 (am_c 244 10) 2 = nI (tx_c T n p).2.1 ∧ M'.1 (am_c 244 10) 3 = nI (if (tx_c T n p).1 = true then k + 1 else k) ∧ ((tx_c T n p).1 = true → av_oc M' (tx_c T n p).2.2) ∧ av_ft M M' := by
  have hx0 := hx
  obtain ⟨x0, x1, x2, x3⟩ := hx
  unfold tx_c
  by_cases hpn : p < n
  · have a1 : ¬ nI n ≤ nI p := av_hl hpn (by omega)
    have hin := am_in_n (show p < 60 by omega) (by decide)
    have htn := am_tn (show p < 2147483648 by omega)
    have el := tc_letter (x := T p) (M := M)
    rw [tx_h_y hpn]
    cases hl : tx_l (T p) with
    | none =>
      rw [hl] at el
      have el : am_val iX2_withLetter 0 [some (.int (T p)), none, none, none, none] [] M = some (.inl (some .null), M, 0, 0) := el
      refine ⟨M, ?_, hp, hk, fun h => absurd (show false = true from h) (by decide), av_ft_0⟩
      simp only [ae_X10_readCommand_0, ae_X10_readCommand_7, ae_X10_readCommand_13, ae_X10_readCommand_16, ae_X10_readCommand_18, ae_X10_readCommand_29, ae_X10_readCommand_33, ae_X10_readCommand_41n, ae_X10_readCommand_41, ae_X10_readCommand_44, ae_X10_readCommand_67, ae_X10_readCommand_84, ae_X10_readCommand_95, ae_X10_readCommand_98, ae_X10_readCommand_100, ae_X10_readCommand_106, ae_X10_readCommand_113, ae_X10_readCommand_120, ae_X10_readCommand_129, am_bnx_v, am_bnx_e, am_tl_s, am_tl_n, am_rv_s, am_add_rx, x0, x2, hp, a1, hin, htn, x3 p hpn, el, not_true_eq_false, not_false_eq_true, if_true, if_false, am_1n0, or_true, true_or, eq_self, Bool.true_eq_false, Bool.false_eq_true, cond_true, cond_false] <;> rfl
    | some c =>
      rw [hl] at el
      have el : am_val iX2_withLetter 0 [some (.int (T p)), none, none, none, none] [] M = some (.inl (some (.ref (am_c c 40))), M, 0, 0) := el
      obtain ⟨hc, -⟩ := tx_l_8 hl
      obtain ⟨M0, hM0⟩ : ∃ M0, M0 = av_i M (am_c 244 10) 2 (nI (p + 1)) := ⟨_, rfl⟩
      have f0 : av_ft M M0 := by rw [hM0]; exact av_ft_i (Or.inl rfl)
      obtain ⟨M1, e1, b0, ⟨b1, b2, b3, b4⟩, v1, g1⟩ := ac_begin (c := c) (M := M0)
      have f1 : av_ft M0 M1 := av_ft_ag v1 g1
      have xM1 := av_tx_ft (av_tx_ft hx0 f0) f1
      have pM1 : M1.1 (am_c 244 10) 2 = nI (p + 1) := by
        rw [(g1 244 245 (by decide) 244 10 2 (by decide) (by decide) (by decide)).1, hM0, av_jS]
      have kM1 : M1.1 (am_c 244 10) 3 = nI k := by
        rw [(g1 244 245 (by decide) 244 10 3 (by decide) (by decide) (by decide)).1, hM0, av_jK (by decide)]
        exact hk
      have hlen := (am_fs_ok c hc).1
      obtain ⟨M2, e2, p2, o2, f2⟩ := tc_form hc _ 0 (p + 1) (0, 0, 0, 0) M1 rfl (Nat.zero_le _) xM1 pM1 (by rw [List.drop_zero]; omega) ⟨b1, b2, b3, b4⟩
      rw [List.drop_zero] at e2 p2 o2
      rw [nI_0] at e2
      have fM2 := av_ft_t f0 (av_ft_t f1 (av_ft_fo f2))
      have kM2 : M2.1 (am_c 244 10) 3 = nI k := (f2.2 244 10 3 (by decide) (by decide) (by decide)).trans kM1
      have rM2 : M2.2.1 (am_c 248 5) 0 = am_c c 40 + 1 := by rw [f2.1]; exact b0
      show ∃ M', am_val iX10_readCommand 18 [some (.ref (am_c 244 10)), some (.ref (am_c 248 5)), none, none, none] [] M = some (.inl (some (.int (am_bi (tx_f T n (am_fs (am_ef c)) (p + 1) (0, 0, 0, 0)).1))), M', 0, 0) ∧ M'.1 (am_c 244 10) 2 = nI (tx_f T n (am_fs (am_ef c)) (p + 1) (0, 0, 0, 0)).2.1 ∧ M'.1 (am_c 244 10) 3 = nI (if (tx_f T n (am_fs (am_ef c)) (p + 1) (0, 0, 0, 0)).1 = true then k + 1 else k) ∧ ((tx_f T n (am_fs (am_ef c)) (p + 1) (0, 0, 0, 0)).1 = true → av_oc M' (tx_e c (tx_f T n (am_fs (am_ef c)) (p + 1) (0, 0, 0, 0))).2.2) ∧ av_ft M M'
      revert e2 p2 o2
      obtain ⟨ok, p', a, b, g, hf⟩ := tx_f T n (am_fs (am_ef c)) (p + 1) (0, 0, 0, 0)
      intro e2 p2 o2
      obtain ⟨o1, o2, o3, o4⟩ := o2
      cases ok with
      | false =>
        have e2 : am_val iX10_readCommand 75 [some (.ref (am_c 244 10)), some (.ref (am_c 248 5)), some (.ref (am_c c 40)), some (.ref (am_c ((am_ef c)) 41)), some (.int 0)] [] M1 = some (.inl (some (.int 0)), M2, 0, 0) := e2
        refine ⟨M2, ?_, p2, kM2, fun h => absurd (show false = true from h) (by decide), fM2⟩
        simp only [ae_X10_readCommand_0, ae_X10_readCommand_7, ae_X10_readCommand_13, ae_X10_readCommand_16, ae_X10_readCommand_18, ae_X10_readCommand_29, ae_X10_readCommand_33, ae_X10_readCommand_41n, ae_X10_readCommand_41, ae_X10_readCommand_44, ae_X10_readCommand_67, ae_X10_readCommand_84, ae_X10_readCommand_95, ae_X10_readCommand_98, ae_X10_readCommand_100, ae_X10_readCommand_106, ae_X10_readCommand_113, ae_X10_readCommand_120, ae_X10_readCommand_129, am_bnx_v, am_bnx_e, am_tl_s, am_tl_n, am_rv_s, am_add_rx, x0, x2, hp, a1, hin, htn, x3 p hpn, el, nI_1, ← hM0, e1, e2, not_true_eq_false, not_false_eq_true, if_true, if_false, am_1n0, or_true, true_or, eq_self, Bool.true_eq_false, Bool.false_eq_true, cond_true, cond_false] <;> rfl
      | true =>
        have e2 : am_val iX10_readCommand 75 [some (.ref (am_c 244 10)), some (.ref (am_c 248 5)), some (.ref (am_c c 40)), some (.ref (am_c ((am_ef c)) 41)), some (.int 0)] [] M1 = am_val iX10_readCommand 106 [some (.ref (am_c 244 10)), some (.ref (am_c 248 5)), some (.ref (am_c c 40)), some (.ref (am_c ((am_ef c)) 41)), some (.int (nI (am_fs (am_ef c)).length))] [] M2 := e2
        have o1 : M2.1 (am_c 248 5) 1 = a := o1
        have o2 : M2.1 (am_c 248 5) 2 = b := o2
        have o3 : M2.1 (am_c 248 5) 3 = g := o3
        by_cases h7 : c = 7
        · have h7' : ¬ ¬ am_c c 40 = am_c 7 40 := not_not_intro (by rw [h7])
          by_cases hg : g = 0
          · obtain ⟨X, hX⟩ : ∃ X, X = av_i M2 (am_c 248 5) 1 (-a) := ⟨_, rfl⟩
            have kX : X.1 (am_c 244 10) 3 = nI k := by
              rw [hX]
              exact av_t4.trans kM2
            refine ⟨av_i X (am_c 244 10) 3 (nI (k + 1)), ?_, ?_, av_jS, fun _ => ⟨hc, ?_, ?_, ?_, ?_⟩, av_ft_t fM2 (av_ft_t ?_ (av_ft_i (Or.inr rfl)))⟩
            · simp only [ae_X10_readCommand_0, ae_X10_readCommand_7, ae_X10_readCommand_13, ae_X10_readCommand_16, ae_X10_readCommand_18, ae_X10_readCommand_29, ae_X10_readCommand_33, ae_X10_readCommand_41n, ae_X10_readCommand_41, ae_X10_readCommand_44, ae_X10_readCommand_67, ae_X10_readCommand_84, ae_X10_readCommand_95, ae_X10_readCommand_98, ae_X10_readCommand_100, ae_X10_readCommand_106, ae_X10_readCommand_113, ae_X10_readCommand_120, ae_X10_readCommand_129, am_bnx_v, am_bnx_e, am_tl_s, am_tl_n, am_rv_s, am_add_rx, x0, x2, hp, a1, hin, htn, x3 p hpn, el, nI_1, ← hM0, e1, e2, if_neg h7', o3, hg, o1, ← hX, kX, not_true_eq_false, not_false_eq_true, if_true, if_false, am_1n0, or_true, true_or, eq_self, Bool.true_eq_false, Bool.false_eq_true, cond_true, cond_false] <;> rfl
            · rw [av_jK (by decide), hX]
              exact av_t4.trans p2
            · rw [hX]; exact rM2
            · show (av_i X (am_c 244 10) 3 (nI (k + 1))).1 (am_c 248 5) 1 = if c = 7 then (if g = 0 then -a else a) else a
              rw [if_pos h7, if_pos hg]
              refine av_t5.trans ?_
              rw [hX, av_jS]
            · refine av_t5.trans ?_
              rw [hX, av_jK (by decide)]
              exact o2
            · refine av_t5.trans ?_
              rw [hX, av_jK (by decide)]
              exact o3
            · rw [hX]
              exact av_ft_fo av_fo_o
          · refine ⟨av_i M2 (am_c 244 10) 3 (nI (k + 1)), ?_, ?_, av_jS, fun _ => ⟨hc, rM2, ?_, ?_, ?_⟩, av_ft_t fM2 (av_ft_i (Or.inr rfl))⟩
            · simp only [ae_X10_readCommand_0, ae_X10_readCommand_7, ae_X10_readCommand_13, ae_X10_readCommand_16, ae_X10_readCommand_18, ae_X10_readCommand_29, ae_X10_readCommand_33, ae_X10_readCommand_41n, ae_X10_readCommand_41, ae_X10_readCommand_44, ae_X10_readCommand_67, ae_X10_readCommand_84, ae_X10_readCommand_95, ae_X10_readCommand_98, ae_X10_readCommand_100, ae_X10_readCommand_106, ae_X10_readCommand_113, ae_X10_readCommand_120, ae_X10_readCommand_129, am_bnx_v, am_bnx_e, am_tl_s, am_tl_n, am_rv_s, am_add_rx, x0, x2, hp, a1, hin, htn, x3 p hpn, el, nI_1, ← hM0, e1, e2, if_neg h7', o3, hg, kM2, not_true_eq_false, not_false_eq_true, if_true, if_false, am_1n0, or_true, true_or, eq_self, Bool.true_eq_false, Bool.false_eq_true, cond_true, cond_false] <;> rfl
            · rw [av_jK (by decide)]; exact p2
            · show (av_i M2 (am_c 244 10) 3 (nI (k + 1))).1 (am_c 248 5) 1 = if c = 7 then (if g = 0 then -a else a) else a
              rw [if_pos h7, if_neg hg]
              exact av_t5.trans o1
            · exact av_t5.trans o2
            · exact av_t5.trans o3
        · have h7' : ¬ am_c c 40 = am_c 7 40 := fun h => h7 (by rw [am_c_inj (by decide) (by decide)] at h; exact h.1)
          refine ⟨av_i M2 (am_c 244 10) 3 (nI (k + 1)), ?_, ?_, av_jS, fun _ => ⟨hc, rM2, ?_, ?_, ?_⟩, av_ft_t fM2 (av_ft_i (Or.inr rfl))⟩
          · simp only [ae_X10_readCommand_0, ae_X10_readCommand_7, ae_X10_readCommand_13, ae_X10_readCommand_16, ae_X10_readCommand_18, ae_X10_readCommand_29, ae_X10_readCommand_33, ae_X10_readCommand_41n, ae_X10_readCommand_41, ae_X10_readCommand_44, ae_X10_readCommand_67, ae_X10_readCommand_84, ae_X10_readCommand_95, ae_X10_readCommand_98, ae_X10_readCommand_100, ae_X10_readCommand_106, ae_X10_readCommand_113, ae_X10_readCommand_120, ae_X10_readCommand_129, am_bnx_v, am_bnx_e, am_tl_s, am_tl_n, am_rv_s, am_add_rx, x0, x2, hp, a1, hin, htn, x3 p hpn, el, nI_1, ← hM0, e1, e2, h7', kM2, not_true_eq_false, not_false_eq_true, if_true, if_false, am_1n0, or_true, true_or, eq_self, Bool.true_eq_false, Bool.false_eq_true, cond_true, cond_false] <;> rfl
          · rw [av_jK (by decide)]; exact p2
          · show (av_i M2 (am_c 244 10) 3 (nI (k + 1))).1 (am_c 248 5) 1 = if c = 7 then (if g = 0 then -a else a) else a
            rw [if_neg h7]
            exact av_t5.trans o1
          · exact av_t5.trans o2
          · exact av_t5.trans o3
  · have a1 : nI n ≤ nI p := nI_le (by omega) (by omega)
    rw [tx_l_h hpn]
    refine ⟨M, ?_, hp, hk, fun h => absurd (show false = true from h) (by decide), av_ft_0⟩
    simp only [ae_X10_readCommand_0, ae_X10_readCommand_7, ae_X10_readCommand_13, ae_X10_readCommand_16, ae_X10_readCommand_18, ae_X10_readCommand_29, ae_X10_readCommand_33, ae_X10_readCommand_41n, ae_X10_readCommand_41, ae_X10_readCommand_44, ae_X10_readCommand_67, ae_X10_readCommand_84, ae_X10_readCommand_95, ae_X10_readCommand_98, ae_X10_readCommand_100, ae_X10_readCommand_106, ae_X10_readCommand_113, ae_X10_readCommand_120, ae_X10_readCommand_129, am_bnx_v, am_bnx_e, am_tl_s, am_tl_n, am_rv_s, am_add_rx, x2, hp, a1, not_true_eq_false, not_false_eq_true, if_true, if_false, am_1n0, or_true, true_or, eq_self, Bool.true_eq_false, Bool.false_eq_true, cond_true, cond_false] <;> rfl
theorem tc_read {n p k : Nat} {T : Nat → Int32} {M : am_M} (hx : av_tx M n T) (hp : M.1 (am_c 244 10) 2 = nI p) (hpb : p < 2147480000 - 1) (hk : M.1 (am_c 244 10) 3 = nI k) (hkb : k < 1000) : ∃ M', am_val iX10_readCommand 0 [some (.ref (am_c 244 10)), some (.ref (am_c 248 5)), none, none, none] [] M = some (.inl (some (.int (am_bi (tx_r T n k p).1))), M', 0, 0) ∧ M'.1 (am_c 244 10) 2 = nI (tx_r T n k p).2.1 ∧ M'.1 (am_c 244 10) 3 = nI (if (tx_r T n k p).1 = true then k + 1 else k) ∧ ((tx_r T n k p).1 = true → av_oc M' (tx_r T n k p).2.2) ∧ av_ft M M' := by
  unfold tx_r
  by_cases h0 : k = 0
  · rw [if_pos h0]
    have hk0 : nI k ≤ 0 := by rw [h0]; decide
    obtain ⟨M', e, a, b, c, d⟩ := tc_cmd hx hp (by omega) hk hkb
    refine ⟨M', ?_, a, b, c, d⟩
    rw [ae_X10_readCommand_0, hk, if_pos hk0]
    exact e
  · rw [if_neg h0]
    have hk0 : ¬ nI k ≤ 0 := nI_nle (by omega) (by omega)
    obtain ⟨M1, e1, p1, f1, g1⟩ := tc_skip (ch := 59) hx hp (by omega) (by decide)
    unfold tx_k at e1 p1
    by_cases hs : tx_h T n p = 59
    · rw [if_pos hs]
      rw [if_pos hs] at e1 p1
      have p1 : M1.1 (am_c 244 10) 2 = nI (p + 1) := p1
      rw [am_bi_t] at e1
      have k1 : M1.1 (am_c 244 10) 3 = nI k := (f1.2 244 10 3 (by decide) (by decide) (by decide)).trans hk
      obtain ⟨M', e, a, b, c, d⟩ := tc_cmd (av_tx_fo hx f1) p1 (by omega) k1 hkb
      refine ⟨M', ?_, a, b, c, av_ft_t (av_ft_fo f1) d⟩
      rw [ae_X10_readCommand_0, hk, if_neg hk0, ae_X10_readCommand_7, e1, am_bnx_v, am_tl_s, ae_X10_readCommand_13, if_pos (show ¬ (1 : Int32) = 0 by decide)]
      exact e
    · rw [if_neg hs]
      rw [if_neg hs] at e1 p1
      rw [am_bi_f] at e1
      have k1 : M1.1 (am_c 244 10) 3 = nI k := (f1.2 244 10 3 (by decide) (by decide) (by decide)).trans hk
      refine ⟨M1, ?_, p1, k1, fun h => absurd (show false = true from h) (by decide), av_ft_fo f1⟩
      rw [ae_X10_readCommand_0, hk, if_neg hk0, ae_X10_readCommand_7, e1, am_bnx_v, am_tl_s, ae_X10_readCommand_13, if_neg (show ¬ ¬ (0 : Int32) = 0 by decide), ae_X10_readCommand_16]
      rfl
