/-! lines: characters are put one behind another -/
theorem tl_ga {l : List Int32} {x : Int32} {j : Nat} (h : j < l.length) : (l ++ [x]).getD j 0 = l.getD j 0 := by
  rw [List.getD_eq_getElem?_getD, List.getD_eq_getElem?_getD, List.getElem?_append_left h]
theorem tl_gb {l : List Int32} {x : Int32} : (l ++ [x]).getD l.length 0 = x := by
  rw [List.getD_eq_getElem?_getD, List.getElem?_append_right (Nat.le_refl _), Nat.sub_self]; rfl
theorem tl_gl {l : List Int32} {x : Int32} : (l ++ [x]).length = l.length + 1 := by rw [List.length_append]; rfl
/-- only the line's cells are changed -/
def av_ll (M X : am_M) : Prop := X.2 = M.2 ∧ ∀ lo hi, (hi ≤ 246 ∨ 248 ≤ lo) → av_ag M X lo hi
theorem av_ll_0 {M : am_M} : av_ll M M := ⟨rfl, fun _ _ _ => av_ag_0⟩
theorem av_ll_t {M X Y : am_M} (h : av_ll M X) (h' : av_ll X Y) : av_ll M Y := ⟨h'.1.trans h.1, fun lo hi hd => av_ag_t (h.2 lo hi hd) (h'.2 lo hi hd)⟩
theorem cl_put {x : Int32} {l : List Int32} {M : am_M} (h6 : av_x6 M l) (hl : l.length < 32) (hx : (x.toUInt32 % 65536).toInt32 = x) : ∃ M', am_val iX4_put 0 [some (.ref (am_c 246 4)), some (.int x)] [] M = some (.inl none, M', 0, 0) ∧ av_x6 M' (l ++ [x]) ∧ av_ll M M' := by
  obtain ⟨k0, k1, k2, k3, k4⟩ := h6
  have a2 : ¬ (32 : Int32) ≤ nI l.length := nI_ge (b := 32) hl (by decide)
  have hin := am_in_n hl (show 32 < 2147483648 by decide)
  have htn := am_tn (show l.length < 2147483648 by omega)
  have g1 : (av_i M (am_c 247 23) l.length x).1 (am_c 246 4) 1 = nI l.length := (am_up_a (am_c_ne (by decide) (by decide) (by decide))).trans k2
  have hag : ∀ lo hi, (hi ≤ 246 ∨ 248 ≤ lo) → av_ag M (av_i (av_i M (am_c 247 23) l.length x) (am_c 246 4) 1 (nI (l.length + 1))) lo hi := fun lo hi hd => av_ag_t (av_ag_i (by decide) (by omega)) (av_ag_i (by decide) (by omega))
  have gj : ∀ j, (av_i (av_i M (am_c 247 23) l.length x) (am_c 246 4) 1 (nI (l.length + 1))).1 (am_c 247 23) j = (av_i M (am_c 247 23) l.length x).1 (am_c 247 23) j := fun j => am_up_a (am_c_ne (by decide) (by decide) (by decide))
  refine ⟨av_i (av_i M (am_c 247 23) l.length x) (am_c 246 4) 1 (nI (l.length + 1)), ?_, ⟨k0, by rw [tl_gl]; omega, by rw [tl_gl, av_jS], fun j hj => ?_, fun j hj => ?_⟩, rfl, hag⟩
  · simp only [ae_X4_put_0, ae_X4_put_9, ae_X4_put_13, ae_X4_put_29, am_bnx_v, am_bnx_e, am_tl_s, am_tl_n, am_rv_s, am_add_rx, k0, k2, a2, hin, htn, hx, g1, nI_1, not_true_eq_false, not_false_eq_true, if_true, if_false, am_1n0, or_true, true_or, eq_self, Bool.true_eq_false, Bool.false_eq_true, cond_true, cond_false]
  · rw [gj, av_is]
    rw [tl_gl] at hj
    by_cases hjn : j = l.length
    · rw [hjn, av_up_s, tl_gb]
    · rw [av_up_n hjn, tl_ga (by omega)]
      exact k3 j (by omega)
  · rw [tl_gl] at hj
    by_cases hjn : j = l.length
    · rw [hjn, tl_gb]; exact hx
    · rw [tl_ga (by omega)]
      exact k4 j (by omega)
theorem tl_k : ∀ k, k < 100 → ((48 + (nI k - nI k / 10 * 10)).toUInt32 % 65536).toInt32 = 48 + (nI k - nI k / 10 * 10) ∧ ((48 + (nI k / 10)).toUInt32 % 65536).toInt32 = 48 + nI k / 10 ∧ ((97 + nI k).toUInt32 % 65536).toInt32 = 97 + nI k ∧ ((48 + nI k).toUInt32 % 65536).toInt32 = 48 + nI k := by decide +kernel
theorem tl_k1 : ∀ k, k < 10 → 48 + (nI k - nI k / 10 * 10) = 48 + nI k := by decide +kernel
/-- a number's digits -/
def tl_d (x : Int32) : List Int32 := if x < 10 then [48 + (x - x / 10 * 10)] else [48 + x / 10, 48 + (x - x / 10 * 10)]
theorem tl_d_l {x : Int32} : (tl_d x).length ≤ 2 := by
  unfold tl_d
  split
  · exact Nat.le_succ _
  · exact Nat.le_refl _
theorem cl_num {k : Nat} {l : List Int32} {M : am_M} (h6 : av_x6 M l) (hk : k < 100) (hl : l.length + 2 ≤ 32) : ∃ M', am_val iX4_putNumber 0 [some (.ref (am_c 246 4)), some (.int (nI k))] [] M = some (.inl none, M', 0, 0) ∧ av_x6 M' (l ++ tl_d (nI k)) ∧ av_ll M M' := by
  obtain ⟨a1, a2, -, -⟩ := tl_k k hk
  unfold tl_d
  by_cases h : nI k < 10
  · rw [if_pos h]
    obtain ⟨M1, e1, x1, g1⟩ := cl_put h6 (by omega) a1
    refine ⟨M1, ?_, x1, g1⟩
    simp only [ae_X4_putNumber_0, ae_X4_putNumber_6, ae_X4_putNumber_18, ae_X4_putNumber_30, am_bnx_v, am_bnx_e, am_tl_s, am_tl_n, am_rv_s, am_add_rx, h, not_true_eq_false, not_false_eq_true, if_true, if_false, am_1n0, or_true, true_or, eq_self, Bool.true_eq_false, Bool.false_eq_true, cond_true, cond_false, a1, e1]
  · rw [if_neg h]
    obtain ⟨M1, e1, x1, g1⟩ := cl_put h6 (by omega) a2
    obtain ⟨M2, e2, x2, g2⟩ := cl_put x1 (by rw [tl_gl]; omega) a1
    rw [List.append_assoc] at x2
    refine ⟨M2, ?_, x2, av_ll_t g1 g2⟩
    simp only [ae_X4_putNumber_0, ae_X4_putNumber_6, ae_X4_putNumber_18, ae_X4_putNumber_30, am_bnx_v, am_bnx_e, am_tl_s, am_tl_n, am_rv_s, am_add_rx, h, not_true_eq_false, not_false_eq_true, if_true, if_false, am_1n0, or_true, true_or, eq_self, Bool.true_eq_false, Bool.false_eq_true, cond_true, cond_false, a1, a2, e1, e2]
theorem cl_team {t : Nat} {l : List Int32} {M : am_M} (h6 : av_x6 M l) (ht : t < 3) (hl : l.length < 32) : ∃ M', am_val iX4_putTeam 0 [some (.ref (am_c 246 4)), some (.int (nI t))] [] M = some (.inl none, M', 0, 0) ∧ av_x6 M' (l ++ [97 + nI t]) ∧ av_ll M M' := by
  obtain ⟨-, -, a3, -⟩ := tl_k t (by omega)
  have hn : ¬ nI t = -1 := av_bi_nI (by omega)
  obtain ⟨M1, e1, x1, g1⟩ := cl_put h6 hl a3
  refine ⟨M1, ?_, x1, g1⟩
  simp only [ae_X4_putTeam_0, ae_X4_putTeam_5, ae_X4_putTeam_14, am_bnx_v, am_bnx_e, am_tl_s, am_tl_n, am_rv_s, am_add_rx, hn, not_true_eq_false, not_false_eq_true, if_true, if_false, am_1n0, or_true, true_or, eq_self, Bool.true_eq_false, Bool.false_eq_true, cond_true, cond_false, a3, e1]
theorem cl_noteam {M : am_M} : am_val iX4_putTeam 0 [some (.ref (am_c 246 4)), some (.int (-1))] [] M = some (.inl none, M, 0, 0) := by
  simp only [ae_X4_putTeam_0, ae_X4_putTeam_5, ae_X4_putTeam_14, not_true_eq_false, not_false_eq_true, if_true, if_false, am_1n0, or_true, true_or, eq_self, Bool.true_eq_false, Bool.false_eq_true, cond_true, cond_false]
theorem cl_clear {l : List Int32} {M : am_M} (h6 : av_x6 M l) : ∃ M', am_val iX4_clear 0 [some (.ref (am_c 246 4))] [] M = some (.inl none, M', 0, 0) ∧ av_x6 M' [] ∧ av_ll M M' := by
  refine ⟨av_i M (am_c 246 4) 1 0, by simp only [ae_X4_clear_0], ⟨h6.1, by decide, av_jS, fun j hj => absurd hj (Nat.not_lt_zero _), fun j hj => absurd hj (Nat.not_lt_zero _)⟩, rfl, fun lo hi hd => av_ag_i (by decide) (by omega)⟩
/-! the second implementation -/
def av_lm (D : Nat) (M X : am_M) : Prop := X.2 = M.2 ∧ ∀ c k j, k < 64 → ¬ (c = D ∧ k = 13 ∧ j = 11) → ¬ (c = D + 7 ∧ k = 20) → X.1 (am_c c k) j = M.1 (am_c c k) j
theorem av_lm_0 {D : Nat} {M : am_M} : av_lm D M M := ⟨rfl, fun _ _ _ _ _ _ => rfl⟩
theorem av_lm_t {D : Nat} {M X Y : am_M} (h : av_lm D M X) (h' : av_lm D X Y) : av_lm D M Y := ⟨h'.1.trans h.1, fun c k j hk a b => (h'.2 c k j hk a b).trans (h.2 c k j hk a b)⟩
theorem av_lm_y {D : Nat} {M X : am_M} {σ : Nat → Int32} {L : List (Nat → Int32)} (h : av_lm D M X) (y : av_y0 D M σ L) : av_y0 D X σ L :=
  av_y0_f y h.1 (funext fun j => h.2 _ _ _ (by decide) (by omega) (by omega))
theorem ml_put {D : Nat} {x : Int32} {l : List Int32} {M : am_M} (hm : av_msh M.2.1 D) (h6 : av_y6 D M l) (hl : l.length < 32) : ∃ M', am_val iX13_writes 0 [some (.ref (am_c D 13)), some (.int x)] [] M = some (.inl none, M', 0, 0) ∧ av_y6 D M' (l ++ [x]) ∧ av_lm D M M' := by
  obtain ⟨e0, e1, e2⟩ := h6
  have m9 : M.2.1 (am_c D 13) 9 = am_c (D + 7) 20 + 1 := hm.2.2.2.2.2.2
  have hin := am_in_n (show l.length < 60 by omega) (show 60 < 2147483648 by decide)
  have htn := am_tn (show l.length < 2147483648 by omega)
  have hn : ¬ am_c D 13 = am_c (D + 7) 20 := am_c_ne (by decide) (by decide) (by omega)
  have g1 : (av_i M (am_c (D + 7) 20) l.length x).1 (am_c D 13) 11 = nI l.length := (am_up_a hn).trans e1
  have gj : ∀ j, (av_i (av_i M (am_c (D + 7) 20) l.length x) (am_c D 13) 11 (nI (l.length + 1))).1 (am_c (D + 7) 20) j = (av_i M (am_c (D + 7) 20) l.length x).1 (am_c (D + 7) 20) j := fun j => am_up_a (fun h => hn h.symm)
  refine ⟨av_i (av_i M (am_c (D + 7) 20) l.length x) (am_c D 13) 11 (nI (l.length + 1)), ?_, ⟨by rw [tl_gl]; omega, by rw [tl_gl, av_jS], fun j hj => ?_⟩, rfl, fun c k j hk a b => ?_⟩
  · simp only [ae_X13_writes_0, ae_X13_writes_4, am_bnx_v, am_bnx_e, am_tl_s, am_tl_n, am_rv_s, am_add_rx, m9, e1, hin, htn, g1, nI_1, not_true_eq_false, not_false_eq_true, if_true, if_false, am_1n0, or_true, true_or, eq_self, Bool.true_eq_false, Bool.false_eq_true, cond_true, cond_false]
  · rw [gj, av_is]
    rw [tl_gl] at hj
    by_cases hjn : j = l.length
    · rw [hjn, av_up_s, tl_gb]
    · rw [av_up_n hjn, tl_ga (by omega)]
      exact e2 j (by omega)
  · have s1 : (av_i (av_i M (am_c (D + 7) 20) l.length x) (am_c D 13) 11 (nI (l.length + 1))).1 (am_c c k) j = (av_i M (am_c (D + 7) 20) l.length x).1 (am_c c k) j := am_up_ak (fun hh => a (by
      have e := hh.1
      rw [am_c_inj hk (by decide)] at e
      exact ⟨e.1, e.2, hh.2⟩))
    have s2 : (av_i M (am_c (D + 7) 20) l.length x).1 (am_c c k) j = M.1 (am_c c k) j := am_up_a (am_c_ne hk (by decide) b)
    exact s1.trans s2
theorem ml_num {D k : Nat} {l : List Int32} {M : am_M} (hm : av_msh M.2.1 D) (h6 : av_y6 D M l) (hk : k < 100) (hl : l.length + 2 ≤ 32) : ∃ M', am_val iX13_writesNumber 0 [some (.ref (am_c D 13)), some (.int (nI k))] [] M = some (.inl none, M', 0, 0) ∧ av_y6 D M' (l ++ tl_d (nI k)) ∧ av_lm D M M' := by
  unfold tl_d
  by_cases h : k < 10
  · have h1 : nI k < 10 := nI_lt (b := 10) h (by decide)
    have h2 : nI k ≤ 9 := nI_le (b := 9) (by omega) (by decide)
    rw [if_pos h1]
    obtain ⟨M1, e1, x1, g1⟩ := ml_put (x := 48 + (nI k - nI k / 10 * 10)) hm h6 (by omega)
    refine ⟨M1, ?_, x1, g1⟩
    simp only [ae_X13_writesNumber_0, ae_X13_writesNumber_6, ae_X13_writesNumber_17, ae_X13_writesNumber_28, am_bnx_v, am_bnx_e, am_tl_s, am_tl_n, am_rv_s, am_add_rx, h2, not_true_eq_false, not_false_eq_true, if_true, if_false, am_1n0, or_true, true_or, eq_self, Bool.true_eq_false, Bool.false_eq_true, cond_true, cond_false, e1]
  · have h1 : ¬ nI k < 10 := nI_nlt (b := 10) (by omega) (by omega)
    have h2 : ¬ nI k ≤ 9 := nI_ge (a := 9) (b := k) (by omega) (by omega)
    rw [if_neg h1]
    obtain ⟨M1, e1, x1, g1⟩ := ml_put (x := 48 + nI k / 10) hm h6 (by omega)
    obtain ⟨M2, e2, x2, g2⟩ := ml_put (x := 48 + (nI k - nI k / 10 * 10)) (by rw [g1.1]; exact hm) x1 (by rw [tl_gl]; omega)
    rw [List.append_assoc] at x2
    refine ⟨M2, ?_, x2, av_lm_t g1 g2⟩
    simp only [ae_X13_writesNumber_0, ae_X13_writesNumber_6, ae_X13_writesNumber_17, ae_X13_writesNumber_28, am_bnx_v, am_bnx_e, am_tl_s, am_tl_n, am_rv_s, am_add_rx, h2, not_true_eq_false, not_false_eq_true, if_true, if_false, am_1n0, or_true, true_or, eq_self, Bool.true_eq_false, Bool.false_eq_true, cond_true, cond_false, e1, e2]
