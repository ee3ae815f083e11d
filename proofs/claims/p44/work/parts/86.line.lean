/-! lines: characters are put one behind another -/
theorem tl_ga {l : List Int32} {x : Int32} {j : Nat} (h : j < l.length) : (l ++ [x]).getD j 0 = l.getD j 0 := by
  rw [List.getD_eq_getElem?_getD, List.getD_eq_getElem?_getD, List.getElem?_append_left h]
theorem tl_gb {l : List Int32} {x : Int32} : (l ++ [x]).getD l.length 0 = x := by
  rw [List.getD_eq_getElem?_getD, List.getElem?_append_right (Nat.le_refl _), Nat.sub_self]; rfl
theorem tl_gl {l : List Int32} {x : Int32} : (l ++ [x]).length = l.length + 1 := by rw [List.length_append]; rfl
/-- only the line's cells are changed -/
def av_ll (M X : am_M) : Prop := X.2 = M.2 ∧ ∀ lo hi, (hi ≤ 246 ∨ 248 ≤ lo) → av_ag M X lo hi
theorem av_ll_0 {M : am_M} : av_ll M M := ⟨rfl, fun _ _ _ => av_ag_0⟩
theorem av_ll_t {M X Y : am_M} (h : av_ll M X) (h' : av_ll X Y) : av_ll M Y := ⟨h'.1.trans h.1, fun lo hi hd => av_ag_t (h.2 lo hi hd) (h'.2 lo hi hd)⟩
theorem cl_put {x : Int32} {l : List Int32} {M : am_M} (h6 : av_x6 M l) (hl : l.length < 32) (hx : (x.toUInt32 % 65536).toInt32 = x) : ∃ M', am_val iX4_put 0 [some (.ref (am_c 246 4)), some (.int x)] [] M = some (.inl none, M', 0, 0) ∧ av_x6 M' (l ++ [x]) ∧ av_ll M M' := by
  obtain ⟨k0, k1, k2, k3, k4⟩ := h6
  have a2 : ¬ (32 : Int32) ≤ nI l.length := nI_ge (b := 32) hl (by decide)
  have hin := am_in_n hl (show 32 < 2147483648 by decide)
  have htn := am_tn (show l.length < 2147483648 by omega)
  have g1 : (av_i M (am_c 247 23) l.length x).1 (am_c 246 4) 1 = nI l.length := (am_up_a (am_c_ne (by decide) (by decide) (by decide))).trans k2
  have hag : ∀ lo hi, (hi ≤ 246 ∨ 248 ≤ lo) → av_ag M (av_i (av_i M (am_c 247 23) l.length x) (am_c 246 4) 1 (nI (l.length + 1))) lo hi := fun lo hi hd => av_ag_t (av_ag_i (by decide) (by omega)) (av_ag_i (by decide) (by omega))
  have gj : ∀ j, (av_i (av_i M (am_c 247 23) l.length x) (am_c 246 4) 1 (nI (l.length + 1))).1 (am_c 247 23) j = (av_i M (am_c 247 23) l.length x).1 (am_c 247 23) j := fun j => am_up_a (am_c_ne (by decide) (by decide) (by decide))
  refine ⟨av_i (av_i M (am_c 247 23) l.length x) (am_c 246 4) 1 (nI (l.length + 1)), ?_, ⟨k0, by rw [tl_gl]; omega, by rw [tl_gl, av_jS], fun j hj => ?_, fun j hj => ?_⟩, rfl, hag⟩
  · simp only [ae_X4_put_0, ae_X4_put_9, ae_X4_put_13, ae_X4_put_29, am_bnx_v, am_bnx_e, am_tl_s, am_tl_n, am_rv_s, am_add_rx, k0, k2, a2, hin, htn, hx, g1, nI_1, not_true_eq_false, not_false_eq_true, if_true, if_false, am_1n0, or_true, true_or, eq_self, Bool.true_eq_false, Bool.false_eq_true, cond_true, cond_false]
  · rw [gj, av_is]
    rw [tl_gl] at hj
    by_cases hjn : j = l.length
    · rw [hjn, av_up_s, tl_gb]
    · rw [av_up_n hjn, tl_ga (by omega)]
      exact k3 j (by omega)
  · rw [tl_gl] at hj
    by_cases hjn : j = l.length
    · rw [hjn, tl_gb]; exact hx
    · rw [tl_ga (by omega)]
      exact k4 j (by omega)
theorem tl_k : ∀ k, k < 100 → ((48 + (nI k - nI k / 10 * 10)).toUInt32 % 65536).toInt32 = 48 + (nI k - nI k / 10 * 10) ∧ ((48 + (nI k / 10)).toUInt32 % 65536).toInt32 = 48 + nI k / 10 ∧ ((97 + nI k).toUInt32 % 65536).toInt32 = 97 + nI k ∧ ((48 + nI k).toUInt32 % 65536).toInt32 = 48 + nI k := by decide +kernel
theorem tl_k1 : ∀ k, k < 10 → 48 + (nI k - nI k / 10 * 10) = 48 + nI k := by decide +kernel
/-- a number's digits -/
def tl_d (x : Int32) : List Int32 := if x < 10 then [48 + (x - x / 10 * 10)] else [48 + x / 10, 48 + (x - x / 10 * 10)]
theorem tl_d_l {x : Int32} : (tl_d x).length ≤ 2 := by
  unfold tl_d
  split
  · exact Nat.le_succ _
  · exact Nat.le_refl _
theorem cl_num {k : Nat} {l : List Int32} {M : am_M} (h6 : av_x6 M l) (hk : k < 100) (hl : l.length + 2 ≤ 32) : ∃ M', am_val iX4_putNumber 0 [some (.ref (am_c 246 4)), some (.int (nI k))] [] M = some (.inl none, M', 0, 0) ∧ av_x6 M' (l ++ tl_d (nI k)) ∧ av_ll M M' := by
  obtain ⟨a1, a2, -, -⟩ := tl_k k hk
  unfold tl_d
  by_cases h : nI k < 10
  · rw [if_pos h]
    obtain ⟨M1, e1, x1, g1⟩ := cl_put h6 (by omega) a1
    refine ⟨M1, ?_, x1, g1⟩
    simp only [ae_X4_putNumber_0, ae_X4_putNumber_6, ae_X4_putNumber_18, ae_X4_putNumber_30, am_bnx_v, am_bnx_e, am_tl_s, am_tl_n, am_rv_s, am_add_rx, h, not_true_eq_false, not_false_eq_true, if_true, if_false, am_1n0, or_true, true_or, eq_self, Bool.true_eq_false, Bool.false_eq_true, cond_true, cond_false, a1, e1]
  · rw [if_neg h]
    obtain ⟨M1, e1, x1, g1⟩ := cl_put h6 (by omega) a2
    obtain ⟨M2, e2, x2, g2⟩ := cl_put x1 (by rw [tl_gl]; omega) a1
    rw [List.append_assoc] at x2
    refine ⟨M2, ?_, x2, av_ll_t g1 g2⟩
    simp only [ae_X4_putNumber_0, ae_X4_putNumber_6, ae_X4_putNumber_18, ae_X4_putNumber_30, am_bnx_v, am_bnx_e, am_tl_s, am_tl_n, am_rv_s, am_add_rx, h, not_true_eq_false, not_false_eq_true, if_true, if_false, am_1n0, or_true, true_or, eq_self, Bool.true_eq_false, Bool.false_eq_true, cond_true, cond_false, a1, a2, e1, e2]
theorem cl_team {t : Nat} {l : List Int32} {M : am_M} (h6 : av_x6 M l) (ht : t < 3) (hl : l.length < 32) : ∃ M', am_val iX4_putTeam 0 [some (.ref (am_c 246 4)), some (.int (nI t))] [] M = some (.inl none, M', 0, 0) ∧ av_x6 M' (l ++ [97 + nI t]) ∧ av_ll M M' := by
  obtain ⟨-, -, a3, -⟩ := tl_k t (by omega)
  have hn : ¬ nI t = -1 := av_bi_nI (by omega)
  obtain ⟨M1, e1, x1, g1⟩ := cl_put h6 hl a3
  refine ⟨M1, ?_, x1, g1⟩
  simp only [ae_X4_putTeam_0, ae_X4_putTeam_5, ae_X4_putTeam_14, am_bnx_v, am_bnx_e, am_tl_s, am_tl_n, am_rv_s, am_add_rx, hn, not_true_eq_false, not_false_eq_true, if_true, if_false, am_1n0, or_true, true_or, eq_self, Bool.true_eq_false, Bool.false_eq_true, cond_true, cond_false, a3, e1]
theorem cl_noteam {M : am_M} : am_val iX4_putTeam 0 [some (.ref (am_c 246 4)), some (.int (-1))] [] M = some (.inl none, M, 0, 0) := by
  simp only [ae_X4_putTeam_0, ae_X4_putTeam_5, ae_X4_putTeam_14, not_true_eq_false, not_false_eq_true, if_true, if_false, am_1n0, or_true, true_or, eq_self, Bool.true_eq_false, Bool.false_eq_true, cond_true, cond_false]
theorem cl_clear {l : List Int32} {M : am_M} (h6 : av_x6 M l) : ∃ M', am_val iX4_clear 0 [some (.ref (am_c 246 4))] [] M = some (.inl none, M', 0, 0) ∧ av_x6 M' [] ∧ av_ll M M' := by
  refine ⟨av_i M (am_c 246 4) 1 0, by simp only [ae_X4_clear_0], ⟨h6.1, by decide, av_jS, fun j hj => absurd hj (Nat.not_lt_zero _), fun j hj => absurd hj (Nat.not_lt_zero _)⟩, rfl, fun lo hi hd => av_ag_i (by decide) (by omega)⟩
/-! the second implementation -/
def av_lm (D : Nat) (M X : am_M) : Prop := X.2 = M.2 ∧ ∀ c k j, k < 64 → ¬ (c = D ∧ k = 13 ∧ j = 11) → ¬ (c = D + 7 ∧ k = 20) → X.1 (am_c c k) j = M.1 (am_c c k) j
theorem av_lm_0 {D : Nat} {M : am_M} : av_lm D M M := ⟨rfl, fun _ _ _ _ _ _ => rfl⟩
theorem av_lm_t {D : Nat} {M X Y : am_M} (h : av_lm D M X) (h' : av_lm D X Y) : av_lm D M Y := ⟨h'.1.trans h.1, fun c k j hk a b => (h'.2 c k j hk a b).trans (h.2 c k j hk a b)⟩
