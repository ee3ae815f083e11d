/-! the law: one step -/
theorem am_bnx_k {v : Option Value} {M : am_M} {a b : Nat} {c : Option Value → am_M → am_T} {x : Nat → am_M → am_T} : am_bnx (some (.inl v, M, a, b)) c x = am_add (c v M) a b := rfl
theorem am_add_00 {t : am_T} : am_add t 0 0 = t := by
  cases t with
  | none => rfl
  | some q => obtain ⟨o, M1, k, s⟩ := q; show some (o, M1, 0 + k, 0 + s) = _; rw [Nat.zero_add, Nat.zero_add]
theorem lg_z {x : Int64} : lg_cmp x x = 0 := by
  unfold lg_cmp
  simp
def lw_S (bd Lx : Nat) (xs : Nat → Int32) (j : Nat) (t : am_T) : Prop := ∃ M' o6 o7 o8 a b, a ≤ 1 ∧ b ≤ 6 ∧ av_I (bd + 1240) Lx xs M' ∧ t = am_add (am_val iL_law 28 [some (.ref (am_c 0 44)), some (.ref (am_c 0 12)), some (.ref (am_c 274 13)), some (.ref (am_c 282 27)), some (.ref (am_c 283 28)), some (.int (nI (j + 4))), o6, o7, o8] [] (M')) a b
theorem av_I_m {b b' Lx : Nat} {xs : Nat → Int32} {M : am_M} (h : av_I b Lx xs M) (hb : b ≤ b') : av_I b' Lx xs M := by
  obtain ⟨⟨σ, L, H, P, q, n, T, f, l, hx, hy, hS⟩, hs⟩ := h
  exact ⟨⟨σ, L, H, P, q, n, T, f, l, hx, hy, av_okS_m hS hb⟩, hs⟩
theorem lw_x {Lx j : Nat} (hj : j + 4 ≤ Lx) (hL : Lx ≤ 2048) : nI j + 1 = nI (j + 1) ∧ nI j + 2 = nI (j + 2) ∧ nI j + 3 = nI (j + 3) ∧ nI j + 4 = nI (j + 4) ∧ am_in (nI (j + 1)) Lx = true ∧ am_in (nI (j + 2)) Lx = true ∧ am_in (nI (j + 3)) Lx = true ∧ (nI (j + 1)).toNatClampNeg = j + 1 ∧ (nI (j + 2)).toNatClampNeg = j + 2 ∧ (nI (j + 3)).toNatClampNeg = j + 3 :=
  ⟨nI_add (a := j) (b := 1), nI_add (a := j) (b := 2), nI_add (a := j) (b := 3), nI_add (a := j) (b := 4), am_in_n (by omega) (by omega), am_in_n (by omega) (by omega), am_in_n (by omega) (by omega), am_tn (by omega), am_tn (by omega), am_tn (by omega)⟩
theorem op_isEcho2 {a : Int32} {bd Lx : Nat} {xs : Nat → Int32} {M : am_M} (hI : av_I bd Lx xs M) : ∃ (k : Int32) (M1 : am_M) (a' b' : Nat) (w : Int32) (M2 : am_M), am_val iL_isEcho 0 [some (.ref (am_c 0 12)), some (.int a), some (.ref (am_c 282 27)), none] [] M = some (.inl (some (.int k)), M1, a', b') ∧ a' ≤ 1 ∧ b' ≤ 6 ∧ am_val iX13_isEcho 0 [some (.ref (am_c 274 13)), some (.int a)] [] M1 = some (.inl (some (.int w)), M2, 0, 0) ∧ M2.1 (am_c 274 13) 0 = k ∧ (k = 0 → M2.2.2.1 (am_c 282 27) 0 = w.toInt64 ∧ (w = 0 ∨ w = 1)) ∧ av_I bd Lx xs M2 ∧ M1.2.2.2.2.2 = (Lx, xs) := by
  obtain ⟨k, M1, a', b', w, M2, e1, ha, hb, e2, ht, hv, hI2, hs1⟩ := op_isEcho (a := a) hI
  have e2 : am_val iX13_isEcho 0 [some (.ref (am_c 274 13)), some (.int a)] [] M1 = some (.inl (some (.int w)), M2, 0, 0) := e2
  refine ⟨k, M1, a', b', w, M2, e1, ha, hb, e2, ht, fun hk => ⟨hv hk, ?_⟩, hI2, hs1⟩
  obtain ⟨⟨σ, L, H, P, q, n, T, f, l, hx, hy, hS⟩, hs⟩ := hI
  have p0 := hx.1.1.1
  obtain ⟨rm, hC⟩ := hx.2.1
  have c := cq_isEcho (p := a) p0 hC
  unfold aq_isEcho at c
  have hm := fun X (yX : av_y 274 X σ L H P q n T f l) => mq_isEcho (p := a) yX hS.1
  unfold aq_isEcho at hm
  have h01 : ∀ b, am_bi b = 0 ∨ am_bi b = 1 := by decide
  by_cases hp : am_lt a L.length = false
  · rw [if_pos hp] at c
    have c : am_val iX12_isEcho 0 [some (.ref (am_c 0 12)), some (.int a)] [] M = some (.inr 1, M, 1, 6) := c
    rw [al_isEcho_e1 c] at e1
    have e3 := congrArg (fun t : am_T => match t with | some (.inl (some (.int x)), _, _, _) => x | _ => 0) e1
    have e3 : (1 : Int32) = k := e3
    rw [hk] at e3
    exact absurd e3 (by decide)
  · rw [if_neg hp] at c
    have c : am_val iX12_isEcho 0 [some (.ref (am_c 0 12)), some (.int a)] [] M = some (.inl (some (.int (am_bi (decide (0 < av_s L (av_ix a) 3))))), M, 0, 0) := c
    rw [al_isEcho_v c] at e1
    have e3 := congrArg (fun t : am_T => match t with | some (_, X, _, _) => X | _ => M) e1
    have e3 : av_l M (am_c 282 27) 0 (am_bi (decide (0 < av_s L (av_ix a) 3))).toInt64 = M1 := e3
    obtain ⟨X2, m, -⟩ := hm _ (av_y_l (a := am_c 282 27) (j := 0) (x := (am_bi (decide (0 < av_s L (av_ix a) 3))).toInt64) hy)
    rw [if_neg hp, e3] at m
    have m1 : am_val iX13_isEcho 0 [some (.ref (am_c 274 13)), some (.int a)] [] M1 = some (.inl (some (.int (am_bi (decide (0 < av_s L (av_ix a) 3))))), X2, 0, 0) := m.1
    rw [m1] at e2
    have e4 := congrArg (fun t : am_T => match t with | some (.inl (some (.int x)), _, _, _) => x | _ => 0) e2
    have e4 : am_bi (decide (0 < av_s L (av_ix a) 3)) = w := e4
    rw [← e4]
    exact h01 _
theorem ls_wall {bd Lx j : Nat} {xs : Nat → Int32} {M : am_M} {o6 o7 o8 : Option Value} (hI : av_I bd Lx xs M) (hbd : bd + 1240 < 1000000000) (hj : j + 4 ≤ Lx) (hL : Lx ≤ 2048) : lw_S bd Lx xs j (am_val iL_law 224 [some (.ref (am_c 0 44)), some (.ref (am_c 0 12)), some (.ref (am_c 274 13)), some (.ref (am_c 282 27)), some (.ref (am_c 283 28)), some (.int (nI j)), o6, o7, o8] [] M) := by
  obtain ⟨x1, x2, x3, x4, i1, i2, i3, n1, n2, n3⟩ := lw_x hj hL
  have s1 : M.2.2.2.2.2.1 = Lx := by rw [hI.2]
  have s2 : M.2.2.2.2.2.2 = xs := by rw [hI.2]
  obtain ⟨k, M1, a, b, w, M2, e1, ha, hb, e2, ht, hv, hI2, hs1⟩ := op_wall (a := xs (j + 1)) (b := xs (j + 2)) hI (by omega)
  have T1 : M1.2.2.2.2.2.1 = Lx := by rw [hs1]
  have T2 : M1.2.2.2.2.2.2 = xs := by rw [hs1]
  refine ⟨M2, some (.int k), some (.int w), o8, a, b, ha, hb, av_I_m hI2 (by omega), ?_⟩
  by_cases hk : k = 0
  · have hv := hv hk
    simp only [ae_L_law_224, ae_L_law_241, ae_L_law_259, ae_L_law_265, ae_L_law_270, ae_L_law_272, ae_L_law_277, ae_L_law_287, ae_L_law_289, s1, s2, T1, T2, x1, x2, x3, x4, i1, i2, i3, n1, n2, n3, e1, am_bnx_k, am_add_00, am_bnx_v, am_tl_s, am_tl_n, am_rv_s, e2, mc_thrown, ht, not_true_eq_false, not_false_eq_true, if_true, if_false, am_1n0, or_true, true_or, eq_self, Bool.true_eq_false, Bool.false_eq_true, cond_true, cond_false, hk, hv, lg_z]
  · simp only [ae_L_law_224, ae_L_law_241, ae_L_law_259, ae_L_law_265, ae_L_law_270, ae_L_law_272, ae_L_law_277, ae_L_law_287, ae_L_law_289, s1, s2, T1, T2, x1, x2, x3, x4, i1, i2, i3, n1, n2, n3, e1, am_bnx_k, am_add_00, am_bnx_v, am_tl_s, am_tl_n, am_rv_s, e2, mc_thrown, ht, not_true_eq_false, not_false_eq_true, if_true, if_false, am_1n0, or_true, true_or, eq_self, Bool.true_eq_false, Bool.false_eq_true, cond_true, cond_false, hk]
theorem ls_own {bd Lx j : Nat} {xs : Nat → Int32} {M : am_M} {o6 o7 o8 : Option Value} (hI : av_I bd Lx xs M) (hbd : bd + 1240 < 1000000000) (hj : j + 4 ≤ Lx) (hL : Lx ≤ 2048) : lw_S bd Lx xs j (am_val iL_law 292 [some (.ref (am_c 0 44)), some (.ref (am_c 0 12)), some (.ref (am_c 274 13)), some (.ref (am_c 282 27)), some (.ref (am_c 283 28)), some (.int (nI j)), o6, o7, o8] [] M) := by
  obtain ⟨x1, x2, x3, x4, i1, i2, i3, n1, n2, n3⟩ := lw_x hj hL
  have s1 : M.2.2.2.2.2.1 = Lx := by rw [hI.2]
  have s2 : M.2.2.2.2.2.2 = xs := by rw [hI.2]
  obtain ⟨k, M1, a, b, w, M2, e1, ha, hb, e2, ht, hv, hI2, hs1⟩ := op_own (a := xs (j + 1)) (b := xs (j + 2)) hI (by omega)
  have T1 : M1.2.2.2.2.2.1 = Lx := by rw [hs1]
  have T2 : M1.2.2.2.2.2.2 = xs := by rw [hs1]
  refine ⟨M2, some (.int k), some (.int w), o8, a, b, ha, hb, av_I_m hI2 (by omega), ?_⟩
  by_cases hk : k = 0
  · have hv := hv hk
    simp only [ae_L_law_292, ae_L_law_309, ae_L_law_327, ae_L_law_333, ae_L_law_338, ae_L_law_340, ae_L_law_345, ae_L_law_355, ae_L_law_357, s1, s2, T1, T2, x1, x2, x3, x4, i1, i2, i3, n1, n2, n3, e1, am_bnx_k, am_add_00, am_bnx_v, am_tl_s, am_tl_n, am_rv_s, e2, mc_thrown, ht, not_true_eq_false, not_false_eq_true, if_true, if_false, am_1n0, or_true, true_or, eq_self, Bool.true_eq_false, Bool.false_eq_true, cond_true, cond_false, hk, hv, lg_z]
  · simp only [ae_L_law_292, ae_L_law_309, ae_L_law_327, ae_L_law_333, ae_L_law_338, ae_L_law_340, ae_L_law_345, ae_L_law_355, ae_L_law_357, s1, s2, T1, T2, x1, x2, x3, x4, i1, i2, i3, n1, n2, n3, e1, am_bnx_k, am_add_00, am_bnx_v, am_tl_s, am_tl_n, am_rv_s, e2, mc_thrown, ht, not_true_eq_false, not_false_eq_true, if_true, if_false, am_1n0, or_true, true_or, eq_self, Bool.true_eq_false, Bool.false_eq_true, cond_true, cond_false, hk]
theorem ls_player {bd Lx j : Nat} {xs : Nat → Int32} {M : am_M} {o6 o7 o8 : Option Value} (hI : av_I bd Lx xs M) (hbd : bd + 1240 < 1000000000) (hj : j + 4 ≤ Lx) (hL : Lx ≤ 2048) : lw_S bd Lx xs j (am_val iL_law 360 [some (.ref (am_c 0 44)), some (.ref (am_c 0 12)), some (.ref (am_c 274 13)), some (.ref (am_c 282 27)), some (.ref (am_c 283 28)), some (.int (nI j)), o6, o7, o8] [] M) := by
  obtain ⟨x1, x2, x3, x4, i1, i2, i3, n1, n2, n3⟩ := lw_x hj hL
  have s1 : M.2.2.2.2.2.1 = Lx := by rw [hI.2]
  have s2 : M.2.2.2.2.2.2 = xs := by rw [hI.2]
  obtain ⟨k, M1, a, b, w, M2, e1, ha, hb, e2, ht, hv, hI2, hs1⟩ := op_player (a := xs (j + 1)) (b := xs (j + 2)) hI (by omega)
  have T1 : M1.2.2.2.2.2.1 = Lx := by rw [hs1]
  have T2 : M1.2.2.2.2.2.2 = xs := by rw [hs1]
  refine ⟨M2, some (.int k), some (.int w), o8, a, b, ha, hb, av_I_m hI2 (by omega), ?_⟩
  by_cases hk : k = 0
  · have hv := hv hk
    simp only [ae_L_law_360, ae_L_law_377, ae_L_law_395, ae_L_law_401, ae_L_law_406, ae_L_law_408, ae_L_law_413, ae_L_law_423, ae_L_law_425, s1, s2, T1, T2, x1, x2, x3, x4, i1, i2, i3, n1, n2, n3, e1, am_bnx_k, am_add_00, am_bnx_v, am_tl_s, am_tl_n, am_rv_s, e2, mc_thrown, ht, not_true_eq_false, not_false_eq_true, if_true, if_false, am_1n0, or_true, true_or, eq_self, Bool.true_eq_false, Bool.false_eq_true, cond_true, cond_false, hk, hv, lg_z]
  · simp only [ae_L_law_360, ae_L_law_377, ae_L_law_395, ae_L_law_401, ae_L_law_406, ae_L_law_408, ae_L_law_413, ae_L_law_423, ae_L_law_425, s1, s2, T1, T2, x1, x2, x3, x4, i1, i2, i3, n1, n2, n3, e1, am_bnx_k, am_add_00, am_bnx_v, am_tl_s, am_tl_n, am_rv_s, e2, mc_thrown, ht, not_true_eq_false, not_false_eq_true, if_true, if_false, am_1n0, or_true, true_or, eq_self, Bool.true_eq_false, Bool.false_eq_true, cond_true, cond_false, hk]
theorem ls_move {bd Lx j : Nat} {xs : Nat → Int32} {M : am_M} {o6 o7 o8 : Option Value} (hI : av_I bd Lx xs M) (hbd : bd + 1240 < 1000000000) (hj : j + 4 ≤ Lx) (hL : Lx ≤ 2048) : lw_S bd Lx xs j (am_val iL_law 428 [some (.ref (am_c 0 44)), some (.ref (am_c 0 12)), some (.ref (am_c 274 13)), some (.ref (am_c 282 27)), some (.ref (am_c 283 28)), some (.int (nI j)), o6, o7, o8] [] M) := by
  obtain ⟨x1, x2, x3, x4, i1, i2, i3, n1, n2, n3⟩ := lw_x hj hL
  have s1 : M.2.2.2.2.2.1 = Lx := by rw [hI.2]
  have s2 : M.2.2.2.2.2.2 = xs := by rw [hI.2]
  obtain ⟨k, M1, a, b, w, M2, e1, ha, hb, e2, ht, hv, hI2, hs1⟩ := op_move (a := xs (j + 1)) (b := xs (j + 2)) hI (by omega)
  have T1 : M1.2.2.2.2.2.1 = Lx := by rw [hs1]
  have T2 : M1.2.2.2.2.2.2 = xs := by rw [hs1]
  refine ⟨M2, some (.int k), some (.int w), o8, a, b, ha, hb, av_I_m hI2 (by omega), ?_⟩
  by_cases hk : k = 0
  · have hv := hv hk
    simp only [ae_L_law_428, ae_L_law_445, ae_L_law_463, ae_L_law_469, ae_L_law_474, ae_L_law_476, ae_L_law_481, ae_L_law_491, ae_L_law_493, s1, s2, T1, T2, x1, x2, x3, x4, i1, i2, i3, n1, n2, n3, e1, am_bnx_k, am_add_00, am_bnx_v, am_tl_s, am_tl_n, am_rv_s, e2, mc_thrown, ht, not_true_eq_false, not_false_eq_true, if_true, if_false, am_1n0, or_true, true_or, eq_self, Bool.true_eq_false, Bool.false_eq_true, cond_true, cond_false, hk, hv, lg_z]
  · simp only [ae_L_law_428, ae_L_law_445, ae_L_law_463, ae_L_law_469, ae_L_law_474, ae_L_law_476, ae_L_law_481, ae_L_law_491, ae_L_law_493, s1, s2, T1, T2, x1, x2, x3, x4, i1, i2, i3, n1, n2, n3, e1, am_bnx_k, am_add_00, am_bnx_v, am_tl_s, am_tl_n, am_rv_s, e2, mc_thrown, ht, not_true_eq_false, not_false_eq_true, if_true, if_false, am_1n0, or_true, true_or, eq_self, Bool.true_eq_false, Bool.false_eq_true, cond_true, cond_false, hk]
theorem ls_shout {bd Lx j : Nat} {xs : Nat → Int32} {M : am_M} {o6 o7 o8 : Option Value} (hI : av_I bd Lx xs M) (hbd : bd + 1240 < 1000000000) (hj : j + 4 ≤ Lx) (hL : Lx ≤ 2048) : lw_S bd Lx xs j (am_val iL_law 496 [some (.ref (am_c 0 44)), some (.ref (am_c 0 12)), some (.ref (am_c 274 13)), some (.ref (am_c 282 27)), some (.ref (am_c 283 28)), some (.int (nI j)), o6, o7, o8] [] M) := by
  obtain ⟨x1, x2, x3, x4, i1, i2, i3, n1, n2, n3⟩ := lw_x hj hL
  have s1 : M.2.2.2.2.2.1 = Lx := by rw [hI.2]
  have s2 : M.2.2.2.2.2.2 = xs := by rw [hI.2]
  by_cases hz : xs (j + 2) = 0
  · obtain ⟨k, M1, a, b, w, M2, e1, ha, hb, e2, ht, hv, hI2, hs1⟩ := op_shout (a := xs (j + 1)) (g := 0) (b := xs (j + 3)) hI (by omega) (by decide)
    have T1 : M1.2.2.2.2.2.1 = Lx := by rw [hs1]
    have T2 : M1.2.2.2.2.2.2 = xs := by rw [hs1]
    refine ⟨M2, some (.int k), some (.int w), o8, a, b, ha, hb, av_I_m hI2 (by omega), ?_⟩
    by_cases hk : k = 0
    · have hv := hv hk
      simp only [ae_L_law_496, ae_L_law_512, ae_L_law_516, ae_L_law_527, ae_L_law_545, ae_L_law_549, ae_L_law_559, ae_L_law_565, ae_L_law_570, ae_L_law_572, ae_L_law_577, ae_L_law_587, ae_L_law_589, s1, s2, T1, T2, x1, x2, x3, x4, i1, i2, i3, n1, n2, n3, e1, am_bnx_k, am_add_00, am_bnx_v, am_tl_s, am_tl_n, am_rv_s, e2, mc_thrown, ht, not_true_eq_false, not_false_eq_true, if_true, if_false, am_1n0, or_true, true_or, eq_self, Bool.true_eq_false, Bool.false_eq_true, cond_true, cond_false, hk, hv, lg_z, hz]
    · simp only [ae_L_law_496, ae_L_law_512, ae_L_law_516, ae_L_law_527, ae_L_law_545, ae_L_law_549, ae_L_law_559, ae_L_law_565, ae_L_law_570, ae_L_law_572, ae_L_law_577, ae_L_law_587, ae_L_law_589, s1, s2, T1, T2, x1, x2, x3, x4, i1, i2, i3, n1, n2, n3, e1, am_bnx_k, am_add_00, am_bnx_v, am_tl_s, am_tl_n, am_rv_s, e2, mc_thrown, ht, not_true_eq_false, not_false_eq_true, if_true, if_false, am_1n0, or_true, true_or, eq_self, Bool.true_eq_false, Bool.false_eq_true, cond_true, cond_false, hk, hz]
  · obtain ⟨k, M1, a, b, w, M2, e1, ha, hb, e2, ht, hv, hI2, hs1⟩ := op_shout (a := xs (j + 1)) (g := 1) (b := xs (j + 3)) hI (by omega) (by decide)
    have T1 : M1.2.2.2.2.2.1 = Lx := by rw [hs1]
    have T2 : M1.2.2.2.2.2.2 = xs := by rw [hs1]
    refine ⟨M2, some (.int k), some (.int w), o8, a, b, ha, hb, av_I_m hI2 (by omega), ?_⟩
    by_cases hk : k = 0
    · have hv := hv hk
      simp only [ae_L_law_496, ae_L_law_512, ae_L_law_516, ae_L_law_527, ae_L_law_545, ae_L_law_549, ae_L_law_559, ae_L_law_565, ae_L_law_570, ae_L_law_572, ae_L_law_577, ae_L_law_587, ae_L_law_589, s1, s2, T1, T2, x1, x2, x3, x4, i1, i2, i3, n1, n2, n3, e1, am_bnx_k, am_add_00, am_bnx_v, am_tl_s, am_tl_n, am_rv_s, e2, mc_thrown, ht, not_true_eq_false, not_false_eq_true, if_true, if_false, am_1n0, or_true, true_or, eq_self, Bool.true_eq_false, Bool.false_eq_true, cond_true, cond_false, hk, hv, lg_z, hz]
    · simp only [ae_L_law_496, ae_L_law_512, ae_L_law_516, ae_L_law_527, ae_L_law_545, ae_L_law_549, ae_L_law_559, ae_L_law_565, ae_L_law_570, ae_L_law_572, ae_L_law_577, ae_L_law_587, ae_L_law_589, s1, s2, T1, T2, x1, x2, x3, x4, i1, i2, i3, n1, n2, n3, e1, am_bnx_k, am_add_00, am_bnx_v, am_tl_s, am_tl_n, am_rv_s, e2, mc_thrown, ht, not_true_eq_false, not_false_eq_true, if_true, if_false, am_1n0, or_true, true_or, eq_self, Bool.true_eq_false, Bool.false_eq_true, cond_true, cond_false, hk, hz]
theorem ls_beat {bd Lx j : Nat} {xs : Nat → Int32} {M : am_M} {o6 o7 o8 : Option Value} (hI : av_I bd Lx xs M) (hbd : bd + 1240 < 1000000000) (hj : j + 4 ≤ Lx) (hL : Lx ≤ 2048) : lw_S bd Lx xs j (am_val iL_law 592 [some (.ref (am_c 0 44)), some (.ref (am_c 0 12)), some (.ref (am_c 274 13)), some (.ref (am_c 282 27)), some (.ref (am_c 283 28)), some (.int (nI j)), o6, o7, o8] [] M) := by
  obtain ⟨x1, x2, x3, x4, i1, i2, i3, n1, n2, n3⟩ := lw_x hj hL
  have s1 : M.2.2.2.2.2.1 = Lx := by rw [hI.2]
  have s2 : M.2.2.2.2.2.2 = xs := by rw [hI.2]
  obtain ⟨k, M1, a, b, w, M2, e1, ha, hb, e2, ht, hv, hI2, hs1⟩ := op_beat  hI (by omega)
  have T1 : M1.2.2.2.2.2.1 = Lx := by rw [hs1]
  have T2 : M1.2.2.2.2.2.2 = xs := by rw [hs1]
  refine ⟨M2, some (.int k), some (.int w), o8, a, b, ha, hb, av_I_m hI2 (by omega), ?_⟩
  by_cases hk : k = 0
  · have hv := hv hk
    simp only [ae_L_law_592, ae_L_law_597, ae_L_law_603, ae_L_law_609, ae_L_law_614, ae_L_law_616, ae_L_law_621, ae_L_law_631, ae_L_law_633, s1, s2, T1, T2, x1, x2, x3, x4, i1, i2, i3, n1, n2, n3, e1, am_bnx_k, am_add_00, am_bnx_v, am_tl_s, am_tl_n, am_rv_s, e2, mc_thrown, ht, not_true_eq_false, not_false_eq_true, if_true, if_false, am_1n0, or_true, true_or, eq_self, Bool.true_eq_false, Bool.false_eq_true, cond_true, cond_false, hk, hv, lg_z]
  · simp only [ae_L_law_592, ae_L_law_597, ae_L_law_603, ae_L_law_609, ae_L_law_614, ae_L_law_616, ae_L_law_621, ae_L_law_631, ae_L_law_633, s1, s2, T1, T2, x1, x2, x3, x4, i1, i2, i3, n1, n2, n3, e1, am_bnx_k, am_add_00, am_bnx_v, am_tl_s, am_tl_n, am_rv_s, e2, mc_thrown, ht, not_true_eq_false, not_false_eq_true, if_true, if_false, am_1n0, or_true, true_or, eq_self, Bool.true_eq_false, Bool.false_eq_true, cond_true, cond_false, hk]
theorem ls_catchEcho {bd Lx j : Nat} {xs : Nat → Int32} {M : am_M} {o6 o7 o8 : Option Value} (hI : av_I bd Lx xs M) (hbd : bd + 1240 < 1000000000) (hj : j + 4 ≤ Lx) (hL : Lx ≤ 2048) : lw_S bd Lx xs j (am_val iL_law 636 [some (.ref (am_c 0 44)), some (.ref (am_c 0 12)), some (.ref (am_c 274 13)), some (.ref (am_c 282 27)), some (.ref (am_c 283 28)), some (.int (nI j)), o6, o7, o8] [] M) := by
  obtain ⟨x1, x2, x3, x4, i1, i2, i3, n1, n2, n3⟩ := lw_x hj hL
  have s1 : M.2.2.2.2.2.1 = Lx := by rw [hI.2]
  have s2 : M.2.2.2.2.2.2 = xs := by rw [hI.2]
  obtain ⟨k, M1, a, b, w, M2, e1, ha, hb, e2, ht, hv, hI2, hs1⟩ := op_catchEcho (a := xs (j + 1)) hI (by omega)
  have T1 : M1.2.2.2.2.2.1 = Lx := by rw [hs1]
  have T2 : M1.2.2.2.2.2.2 = xs := by rw [hs1]
  refine ⟨M2, some (.int k), some (.int w), o8, a, b, ha, hb, av_I_m hI2 (by omega), ?_⟩
  by_cases hk : k = 0
  · have hv := hv hk
    simp only [ae_L_law_636, ae_L_law_647, ae_L_law_659, ae_L_law_665, ae_L_law_670, ae_L_law_672, ae_L_law_677, ae_L_law_687, ae_L_law_689, s1, s2, T1, T2, x1, x2, x3, x4, i1, i2, i3, n1, n2, n3, e1, am_bnx_k, am_add_00, am_bnx_v, am_tl_s, am_tl_n, am_rv_s, e2, mc_thrown, ht, not_true_eq_false, not_false_eq_true, if_true, if_false, am_1n0, or_true, true_or, eq_self, Bool.true_eq_false, Bool.false_eq_true, cond_true, cond_false, hk, hv, lg_z]
  · simp only [ae_L_law_636, ae_L_law_647, ae_L_law_659, ae_L_law_665, ae_L_law_670, ae_L_law_672, ae_L_law_677, ae_L_law_687, ae_L_law_689, s1, s2, T1, T2, x1, x2, x3, x4, i1, i2, i3, n1, n2, n3, e1, am_bnx_k, am_add_00, am_bnx_v, am_tl_s, am_tl_n, am_rv_s, e2, mc_thrown, ht, not_true_eq_false, not_false_eq_true, if_true, if_false, am_1n0, or_true, true_or, eq_self, Bool.true_eq_false, Bool.false_eq_true, cond_true, cond_false, hk]
theorem ls_wind {bd Lx j : Nat} {xs : Nat → Int32} {M : am_M} {o6 o7 o8 : Option Value} (hI : av_I bd Lx xs M) (hbd : bd + 1240 < 1000000000) (hj : j + 4 ≤ Lx) (hL : Lx ≤ 2048) : lw_S bd Lx xs j (am_val iL_law 692 [some (.ref (am_c 0 44)), some (.ref (am_c 0 12)), some (.ref (am_c 274 13)), some (.ref (am_c 282 27)), some (.ref (am_c 283 28)), some (.int (nI j)), o6, o7, o8] [] M) := by
  obtain ⟨x1, x2, x3, x4, i1, i2, i3, n1, n2, n3⟩ := lw_x hj hL
  have s1 : M.2.2.2.2.2.1 = Lx := by rw [hI.2]
  have s2 : M.2.2.2.2.2.2 = xs := by rw [hI.2]
  obtain ⟨k, M1, a, b, w, M2, e1, ha, hb, e2, ht, hv, hI2, hs1⟩ := op_wind (a := xs (j + 1)) hI (by omega)
  have T1 : M1.2.2.2.2.2.1 = Lx := by rw [hs1]
  have T2 : M1.2.2.2.2.2.2 = xs := by rw [hs1]
  refine ⟨M2, some (.int k), some (.int w), o8, a, b, ha, hb, av_I_m hI2 (by omega), ?_⟩
  by_cases hk : k = 0
  · have hv := hv hk
    simp only [ae_L_law_692, ae_L_law_703, ae_L_law_715, ae_L_law_721, ae_L_law_726, ae_L_law_728, ae_L_law_733, ae_L_law_743, ae_L_law_745, s1, s2, T1, T2, x1, x2, x3, x4, i1, i2, i3, n1, n2, n3, e1, am_bnx_k, am_add_00, am_bnx_v, am_tl_s, am_tl_n, am_rv_s, e2, mc_thrown, ht, not_true_eq_false, not_false_eq_true, if_true, if_false, am_1n0, or_true, true_or, eq_self, Bool.true_eq_false, Bool.false_eq_true, cond_true, cond_false, hk, hv, lg_z]
  · simp only [ae_L_law_692, ae_L_law_703, ae_L_law_715, ae_L_law_721, ae_L_law_726, ae_L_law_728, ae_L_law_733, ae_L_law_743, ae_L_law_745, s1, s2, T1, T2, x1, x2, x3, x4, i1, i2, i3, n1, n2, n3, e1, am_bnx_k, am_add_00, am_bnx_v, am_tl_s, am_tl_n, am_rv_s, e2, mc_thrown, ht, not_true_eq_false, not_false_eq_true, if_true, if_false, am_1n0, or_true, true_or, eq_self, Bool.true_eq_false, Bool.false_eq_true, cond_true, cond_false, hk]
theorem ls_wallOf {bd Lx j : Nat} {xs : Nat → Int32} {M : am_M} {o6 o7 o8 : Option Value} (hI : av_I bd Lx xs M) (hbd : bd + 1240 < 1000000000) (hj : j + 4 ≤ Lx) (hL : Lx ≤ 2048) : lw_S bd Lx xs j (am_val iL_law 748 [some (.ref (am_c 0 44)), some (.ref (am_c 0 12)), some (.ref (am_c 274 13)), some (.ref (am_c 282 27)), some (.ref (am_c 283 28)), some (.int (nI j)), o6, o7, o8] [] M) := by
  obtain ⟨x1, x2, x3, x4, i1, i2, i3, n1, n2, n3⟩ := lw_x hj hL
  have s1 : M.2.2.2.2.2.1 = Lx := by rw [hI.2]
  have s2 : M.2.2.2.2.2.2 = xs := by rw [hI.2]
  by_cases hz : xs (j + 2) = 0
  · obtain ⟨k, M1, a, b, w, M2, e1, ha, hb, e2, ht, hv, hI2, hs1⟩ := op_wallOf (a := xs (j + 1)) (b := 0) hI
    have T1 : M1.2.2.2.2.2.1 = Lx := by rw [hs1]
    have T2 : M1.2.2.2.2.2.2 = xs := by rw [hs1]
    refine ⟨M2, some (.int k), some (.int w), o8, a, b, ha, hb, av_I_m hI2 (by omega), ?_⟩
    by_cases hk : k = 0
    · have hv := hv hk
      simp only [ae_L_law_748, ae_L_law_764, ae_L_law_768, ae_L_law_773, ae_L_law_791, ae_L_law_795, ae_L_law_799, ae_L_law_805, ae_L_law_810, ae_L_law_812, ae_L_law_817, ae_L_law_827, ae_L_law_829, s1, s2, T1, T2, x1, x2, x3, x4, i1, i2, i3, n1, n2, n3, e1, am_bnx_k, am_add_00, am_bnx_v, am_tl_s, am_tl_n, am_rv_s, e2, mc_thrown, ht, not_true_eq_false, not_false_eq_true, if_true, if_false, am_1n0, or_true, true_or, eq_self, Bool.true_eq_false, Bool.false_eq_true, cond_true, cond_false, hk, hv, lg_z, hz]
    · simp only [ae_L_law_748, ae_L_law_764, ae_L_law_768, ae_L_law_773, ae_L_law_791, ae_L_law_795, ae_L_law_799, ae_L_law_805, ae_L_law_810, ae_L_law_812, ae_L_law_817, ae_L_law_827, ae_L_law_829, s1, s2, T1, T2, x1, x2, x3, x4, i1, i2, i3, n1, n2, n3, e1, am_bnx_k, am_add_00, am_bnx_v, am_tl_s, am_tl_n, am_rv_s, e2, mc_thrown, ht, not_true_eq_false, not_false_eq_true, if_true, if_false, am_1n0, or_true, true_or, eq_self, Bool.true_eq_false, Bool.false_eq_true, cond_true, cond_false, hk, hz]
  · obtain ⟨k, M1, a, b, w, M2, e1, ha, hb, e2, ht, hv, hI2, hs1⟩ := op_wallOf (a := xs (j + 1)) (b := 1) hI
    have T1 : M1.2.2.2.2.2.1 = Lx := by rw [hs1]
    have T2 : M1.2.2.2.2.2.2 = xs := by rw [hs1]
    refine ⟨M2, some (.int k), some (.int w), o8, a, b, ha, hb, av_I_m hI2 (by omega), ?_⟩
    by_cases hk : k = 0
    · have hv := hv hk
      simp only [ae_L_law_748, ae_L_law_764, ae_L_law_768, ae_L_law_773, ae_L_law_791, ae_L_law_795, ae_L_law_799, ae_L_law_805, ae_L_law_810, ae_L_law_812, ae_L_law_817, ae_L_law_827, ae_L_law_829, s1, s2, T1, T2, x1, x2, x3, x4, i1, i2, i3, n1, n2, n3, e1, am_bnx_k, am_add_00, am_bnx_v, am_tl_s, am_tl_n, am_rv_s, e2, mc_thrown, ht, not_true_eq_false, not_false_eq_true, if_true, if_false, am_1n0, or_true, true_or, eq_self, Bool.true_eq_false, Bool.false_eq_true, cond_true, cond_false, hk, hv, lg_z, hz]
    · simp only [ae_L_law_748, ae_L_law_764, ae_L_law_768, ae_L_law_773, ae_L_law_791, ae_L_law_795, ae_L_law_799, ae_L_law_805, ae_L_law_810, ae_L_law_812, ae_L_law_817, ae_L_law_827, ae_L_law_829, s1, s2, T1, T2, x1, x2, x3, x4, i1, i2, i3, n1, n2, n3, e1, am_bnx_k, am_add_00, am_bnx_v, am_tl_s, am_tl_n, am_rv_s, e2, mc_thrown, ht, not_true_eq_false, not_false_eq_true, if_true, if_false, am_1n0, or_true, true_or, eq_self, Bool.true_eq_false, Bool.false_eq_true, cond_true, cond_false, hk, hz]
theorem ls_teamOf {bd Lx j : Nat} {xs : Nat → Int32} {M : am_M} {o6 o7 o8 : Option Value} (hI : av_I bd Lx xs M) (hbd : bd + 1240 < 1000000000) (hj : j + 4 ≤ Lx) (hL : Lx ≤ 2048) : lw_S bd Lx xs j (am_val iL_law 832 [some (.ref (am_c 0 44)), some (.ref (am_c 0 12)), some (.ref (am_c 274 13)), some (.ref (am_c 282 27)), some (.ref (am_c 283 28)), some (.int (nI j)), o6, o7, o8] [] M) := by
  obtain ⟨x1, x2, x3, x4, i1, i2, i3, n1, n2, n3⟩ := lw_x hj hL
  have s1 : M.2.2.2.2.2.1 = Lx := by rw [hI.2]
  have s2 : M.2.2.2.2.2.2 = xs := by rw [hI.2]
  obtain ⟨k, M1, a, b, w, M2, e1, ha, hb, e2, ht, hv, hI2, hs1⟩ := op_teamOf (a := xs (j + 1)) (b := xs (j + 2)) hI
  have T1 : M1.2.2.2.2.2.1 = Lx := by rw [hs1]
  have T2 : M1.2.2.2.2.2.2 = xs := by rw [hs1]
  refine ⟨M2, some (.int k), some (.int w), o8, a, b, ha, hb, av_I_m hI2 (by omega), ?_⟩
  by_cases hk : k = 0
  · have hv := hv hk
    simp only [ae_L_law_832, ae_L_law_849, ae_L_law_867, ae_L_law_873, ae_L_law_878, ae_L_law_880, ae_L_law_885, ae_L_law_895, ae_L_law_897, s1, s2, T1, T2, x1, x2, x3, x4, i1, i2, i3, n1, n2, n3, e1, am_bnx_k, am_add_00, am_bnx_v, am_tl_s, am_tl_n, am_rv_s, e2, mc_thrown, ht, not_true_eq_false, not_false_eq_true, if_true, if_false, am_1n0, or_true, true_or, eq_self, Bool.true_eq_false, Bool.false_eq_true, cond_true, cond_false, hk, hv, lg_z]
  · simp only [ae_L_law_832, ae_L_law_849, ae_L_law_867, ae_L_law_873, ae_L_law_878, ae_L_law_880, ae_L_law_885, ae_L_law_895, ae_L_law_897, s1, s2, T1, T2, x1, x2, x3, x4, i1, i2, i3, n1, n2, n3, e1, am_bnx_k, am_add_00, am_bnx_v, am_tl_s, am_tl_n, am_rv_s, e2, mc_thrown, ht, not_true_eq_false, not_false_eq_true, if_true, if_false, am_1n0, or_true, true_or, eq_self, Bool.true_eq_false, Bool.false_eq_true, cond_true, cond_false, hk]
theorem ls_playerOf {bd Lx j : Nat} {xs : Nat → Int32} {M : am_M} {o6 o7 o8 : Option Value} (hI : av_I bd Lx xs M) (hbd : bd + 1240 < 1000000000) (hj : j + 4 ≤ Lx) (hL : Lx ≤ 2048) : lw_S bd Lx xs j (am_val iL_law 900 [some (.ref (am_c 0 44)), some (.ref (am_c 0 12)), some (.ref (am_c 274 13)), some (.ref (am_c 282 27)), some (.ref (am_c 283 28)), some (.int (nI j)), o6, o7, o8] [] M) := by
  obtain ⟨x1, x2, x3, x4, i1, i2, i3, n1, n2, n3⟩ := lw_x hj hL
  have s1 : M.2.2.2.2.2.1 = Lx := by rw [hI.2]
  have s2 : M.2.2.2.2.2.2 = xs := by rw [hI.2]
  obtain ⟨k, M1, a, b, w, M2, e1, ha, hb, e2, ht, hv, hI2, hs1⟩ := op_playerOf (a := xs (j + 1)) (b := xs (j + 2)) hI
  have T1 : M1.2.2.2.2.2.1 = Lx := by rw [hs1]
  have T2 : M1.2.2.2.2.2.2 = xs := by rw [hs1]
  refine ⟨M2, some (.int k), some (.int w), o8, a, b, ha, hb, av_I_m hI2 (by omega), ?_⟩
  by_cases hk : k = 0
  · have hv := hv hk
    simp only [ae_L_law_900, ae_L_law_917, ae_L_law_935, ae_L_law_941, ae_L_law_946, ae_L_law_948, ae_L_law_953, ae_L_law_963, ae_L_law_965, s1, s2, T1, T2, x1, x2, x3, x4, i1, i2, i3, n1, n2, n3, e1, am_bnx_k, am_add_00, am_bnx_v, am_tl_s, am_tl_n, am_rv_s, e2, mc_thrown, ht, not_true_eq_false, not_false_eq_true, if_true, if_false, am_1n0, or_true, true_or, eq_self, Bool.true_eq_false, Bool.false_eq_true, cond_true, cond_false, hk, hv, lg_z]
  · simp only [ae_L_law_900, ae_L_law_917, ae_L_law_935, ae_L_law_941, ae_L_law_946, ae_L_law_948, ae_L_law_953, ae_L_law_963, ae_L_law_965, s1, s2, T1, T2, x1, x2, x3, x4, i1, i2, i3, n1, n2, n3, e1, am_bnx_k, am_add_00, am_bnx_v, am_tl_s, am_tl_n, am_rv_s, e2, mc_thrown, ht, not_true_eq_false, not_false_eq_true, if_true, if_false, am_1n0, or_true, true_or, eq_self, Bool.true_eq_false, Bool.false_eq_true, cond_true, cond_false, hk]
theorem ls_soundOf {bd Lx j : Nat} {xs : Nat → Int32} {M : am_M} {o6 o7 o8 : Option Value} (hI : av_I bd Lx xs M) (hbd : bd + 1240 < 1000000000) (hj : j + 4 ≤ Lx) (hL : Lx ≤ 2048) : lw_S bd Lx xs j (am_val iL_law 968 [some (.ref (am_c 0 44)), some (.ref (am_c 0 12)), some (.ref (am_c 274 13)), some (.ref (am_c 282 27)), some (.ref (am_c 283 28)), some (.int (nI j)), o6, o7, o8] [] M) := by
  obtain ⟨x1, x2, x3, x4, i1, i2, i3, n1, n2, n3⟩ := lw_x hj hL
  have s1 : M.2.2.2.2.2.1 = Lx := by rw [hI.2]
  have s2 : M.2.2.2.2.2.2 = xs := by rw [hI.2]
  obtain ⟨k, M1, a, b, w, M2, e1, ha, hb, e2, ht, hv, hI2, hs1⟩ := op_soundOf (a := xs (j + 1)) (b := xs (j + 2)) hI
  have T1 : M1.2.2.2.2.2.1 = Lx := by rw [hs1]
  have T2 : M1.2.2.2.2.2.2 = xs := by rw [hs1]
  refine ⟨M2, some (.int k), some (.int w), o8, a, b, ha, hb, av_I_m hI2 (by omega), ?_⟩
  by_cases hk : k = 0
  · have hv := hv hk
    simp only [ae_L_law_968, ae_L_law_985, ae_L_law_1003, ae_L_law_1009, ae_L_law_1014, ae_L_law_1016, ae_L_law_1021, ae_L_law_1031, ae_L_law_1033, s1, s2, T1, T2, x1, x2, x3, x4, i1, i2, i3, n1, n2, n3, e1, am_bnx_k, am_add_00, am_bnx_v, am_tl_s, am_tl_n, am_rv_s, e2, mc_thrown, ht, not_true_eq_false, not_false_eq_true, if_true, if_false, am_1n0, or_true, true_or, eq_self, Bool.true_eq_false, Bool.false_eq_true, cond_true, cond_false, hk, hv, lg_z]
  · simp only [ae_L_law_968, ae_L_law_985, ae_L_law_1003, ae_L_law_1009, ae_L_law_1014, ae_L_law_1016, ae_L_law_1021, ae_L_law_1031, ae_L_law_1033, s1, s2, T1, T2, x1, x2, x3, x4, i1, i2, i3, n1, n2, n3, e1, am_bnx_k, am_add_00, am_bnx_v, am_tl_s, am_tl_n, am_rv_s, e2, mc_thrown, ht, not_true_eq_false, not_false_eq_true, if_true, if_false, am_1n0, or_true, true_or, eq_self, Bool.true_eq_false, Bool.false_eq_true, cond_true, cond_false, hk]
theorem ls_isEcho {bd Lx j : Nat} {xs : Nat → Int32} {M : am_M} {o6 o7 o8 : Option Value} (hI : av_I bd Lx xs M) (hbd : bd + 1240 < 1000000000) (hj : j + 4 ≤ Lx) (hL : Lx ≤ 2048) : lw_S bd Lx xs j (am_val iL_law 1036 [some (.ref (am_c 0 44)), some (.ref (am_c 0 12)), some (.ref (am_c 274 13)), some (.ref (am_c 282 27)), some (.ref (am_c 283 28)), some (.int (nI j)), o6, o7, o8] [] M) := by
  obtain ⟨x1, x2, x3, x4, i1, i2, i3, n1, n2, n3⟩ := lw_x hj hL
  have s1 : M.2.2.2.2.2.1 = Lx := by rw [hI.2]
  have s2 : M.2.2.2.2.2.2 = xs := by rw [hI.2]
  obtain ⟨k, M1, a, b, w, M2, e1, ha, hb, e2, ht, hv, hI2, hs1⟩ := op_isEcho2 (a := xs (j + 1)) hI
  have T1 : M1.2.2.2.2.2.1 = Lx := by rw [hs1]
  have T2 : M1.2.2.2.2.2.2 = xs := by rw [hs1]
  refine ⟨M2, some (.int k), some (.int w), o8, a, b, ha, hb, av_I_m hI2 (by omega), ?_⟩
  by_cases hk : k = 0
  · obtain ⟨hv, hw⟩ := hv hk
    rcases hw with hw | hw
    · have hv : M2.2.2.1 (am_c 282 27) 0 = Int64.ofNat 0 := by rw [hv, hw]; rfl
      simp only [ae_L_law_1036, ae_L_law_1047, ae_L_law_1059, ae_L_law_1065, ae_L_law_1070, ae_L_law_1072, ae_L_law_1077, ae_L_law_1085, ae_L_law_1089, ae_L_law_1094, ae_L_law_1096, s1, s2, T1, T2, x1, x2, x3, x4, i1, i2, i3, n1, n2, n3, e1, am_bnx_k, am_add_00, am_bnx_v, am_tl_s, am_tl_n, am_rv_s, e2, mc_thrown, ht, not_true_eq_false, not_false_eq_true, if_true, if_false, am_1n0, or_true, true_or, eq_self, Bool.true_eq_false, Bool.false_eq_true, cond_true, cond_false, hk, hv, hw, lg_z]
    · have hv : M2.2.2.1 (am_c 282 27) 0 = Int64.ofNat 1 := by rw [hv, hw]; rfl
      simp only [ae_L_law_1036, ae_L_law_1047, ae_L_law_1059, ae_L_law_1065, ae_L_law_1070, ae_L_law_1072, ae_L_law_1077, ae_L_law_1085, ae_L_law_1089, ae_L_law_1094, ae_L_law_1096, s1, s2, T1, T2, x1, x2, x3, x4, i1, i2, i3, n1, n2, n3, e1, am_bnx_k, am_add_00, am_bnx_v, am_tl_s, am_tl_n, am_rv_s, e2, mc_thrown, ht, not_true_eq_false, not_false_eq_true, if_true, if_false, am_1n0, or_true, true_or, eq_self, Bool.true_eq_false, Bool.false_eq_true, cond_true, cond_false, hk, hv, hw, lg_z]
  · simp only [ae_L_law_1036, ae_L_law_1047, ae_L_law_1059, ae_L_law_1065, ae_L_law_1070, ae_L_law_1072, ae_L_law_1077, ae_L_law_1085, ae_L_law_1089, ae_L_law_1094, ae_L_law_1096, s1, s2, T1, T2, x1, x2, x3, x4, i1, i2, i3, n1, n2, n3, e1, am_bnx_k, am_add_00, am_bnx_v, am_tl_s, am_tl_n, am_rv_s, e2, mc_thrown, ht, not_true_eq_false, not_false_eq_true, if_true, if_false, am_1n0, or_true, true_or, eq_self, Bool.true_eq_false, Bool.false_eq_true, cond_true, cond_false, hk]
theorem ls_echoesAt {bd Lx j : Nat} {xs : Nat → Int32} {M : am_M} {o6 o7 o8 : Option Value} (hI : av_I bd Lx xs M) (hbd : bd + 1240 < 1000000000) (hj : j + 4 ≤ Lx) (hL : Lx ≤ 2048) : lw_S bd Lx xs j (am_val iL_law 1099 [some (.ref (am_c 0 44)), some (.ref (am_c 0 12)), some (.ref (am_c 274 13)), some (.ref (am_c 282 27)), some (.ref (am_c 283 28)), some (.int (nI j)), o6, o7, o8] [] M) := by
  obtain ⟨x1, x2, x3, x4, i1, i2, i3, n1, n2, n3⟩ := lw_x hj hL
  have s1 : M.2.2.2.2.2.1 = Lx := by rw [hI.2]
  have s2 : M.2.2.2.2.2.2 = xs := by rw [hI.2]
  obtain ⟨k, M1, a, b, w, M2, e1, ha, hb, e2, ht, hv, hI2, hs1⟩ := op_echoesAt (a := xs (j + 1)) hI
  have T1 : M1.2.2.2.2.2.1 = Lx := by rw [hs1]
  have T2 : M1.2.2.2.2.2.2 = xs := by rw [hs1]
  refine ⟨M2, some (.int k), some (.int w), o8, a, b, ha, hb, av_I_m hI2 (by omega), ?_⟩
  by_cases hk : k = 0
  · have hv := hv hk
    simp only [ae_L_law_1099, ae_L_law_1110, ae_L_law_1122, ae_L_law_1128, ae_L_law_1133, ae_L_law_1135, ae_L_law_1140, ae_L_law_1150, ae_L_law_1152, s1, s2, T1, T2, x1, x2, x3, x4, i1, i2, i3, n1, n2, n3, e1, am_bnx_k, am_add_00, am_bnx_v, am_tl_s, am_tl_n, am_rv_s, e2, mc_thrown, ht, not_true_eq_false, not_false_eq_true, if_true, if_false, am_1n0, or_true, true_or, eq_self, Bool.true_eq_false, Bool.false_eq_true, cond_true, cond_false, hk, hv, lg_z]
  · simp only [ae_L_law_1099, ae_L_law_1110, ae_L_law_1122, ae_L_law_1128, ae_L_law_1133, ae_L_law_1135, ae_L_law_1140, ae_L_law_1150, ae_L_law_1152, s1, s2, T1, T2, x1, x2, x3, x4, i1, i2, i3, n1, n2, n3, e1, am_bnx_k, am_add_00, am_bnx_v, am_tl_s, am_tl_n, am_rv_s, e2, mc_thrown, ht, not_true_eq_false, not_false_eq_true, if_true, if_false, am_1n0, or_true, true_or, eq_self, Bool.true_eq_false, Bool.false_eq_true, cond_true, cond_false, hk]
theorem ls_where {bd Lx j : Nat} {xs : Nat → Int32} {M : am_M} {o6 o7 o8 : Option Value} (hI : av_I bd Lx xs M) (hbd : bd + 1240 < 1000000000) (hj : j + 4 ≤ Lx) (hL : Lx ≤ 2048) : lw_S bd Lx xs j (am_val iL_law 1155 [some (.ref (am_c 0 44)), some (.ref (am_c 0 12)), some (.ref (am_c 274 13)), some (.ref (am_c 282 27)), some (.ref (am_c 283 28)), some (.int (nI j)), o6, o7, o8] [] M) := by
  obtain ⟨x1, x2, x3, x4, i1, i2, i3, n1, n2, n3⟩ := lw_x hj hL
  have s1 : M.2.2.2.2.2.1 = Lx := by rw [hI.2]
  have s2 : M.2.2.2.2.2.2 = xs := by rw [hI.2]
  obtain ⟨k, M1, a, b, w, M2, e1, ha, hb, e2, ht, hv, hI2, hs1⟩ := op_where (a := xs (j + 1)) (b := xs (j + 2)) hI
  have T1 : M1.2.2.2.2.2.1 = Lx := by rw [hs1]
  have T2 : M1.2.2.2.2.2.2 = xs := by rw [hs1]
  refine ⟨M2, some (.int k), some (.int w), o8, a, b, ha, hb, av_I_m hI2 (by omega), ?_⟩
  by_cases hk : k = 0
  · have hv := hv hk
    simp only [ae_L_law_1155, ae_L_law_1172, ae_L_law_1190, ae_L_law_1196, ae_L_law_1201, ae_L_law_1203, ae_L_law_1208, ae_L_law_1218, ae_L_law_1220, s1, s2, T1, T2, x1, x2, x3, x4, i1, i2, i3, n1, n2, n3, e1, am_bnx_k, am_add_00, am_bnx_v, am_tl_s, am_tl_n, am_rv_s, e2, mc_thrown, ht, not_true_eq_false, not_false_eq_true, if_true, if_false, am_1n0, or_true, true_or, eq_self, Bool.true_eq_false, Bool.false_eq_true, cond_true, cond_false, hk, hv, lg_z]
  · simp only [ae_L_law_1155, ae_L_law_1172, ae_L_law_1190, ae_L_law_1196, ae_L_law_1201, ae_L_law_1203, ae_L_law_1208, ae_L_law_1218, ae_L_law_1220, s1, s2, T1, T2, x1, x2, x3, x4, i1, i2, i3, n1, n2, n3, e1, am_bnx_k, am_add_00, am_bnx_v, am_tl_s, am_tl_n, am_rv_s, e2, mc_thrown, ht, not_true_eq_false, not_false_eq_true, if_true, if_false, am_1n0, or_true, true_or, eq_self, Bool.true_eq_false, Bool.false_eq_true, cond_true, cond_false, hk]
theorem ls_loudIn {bd Lx j : Nat} {xs : Nat → Int32} {M : am_M} {o6 o7 o8 : Option Value} (hI : av_I bd Lx xs M) (hbd : bd + 1240 < 1000000000) (hj : j + 4 ≤ Lx) (hL : Lx ≤ 2048) : lw_S bd Lx xs j (am_val iL_law 1223 [some (.ref (am_c 0 44)), some (.ref (am_c 0 12)), some (.ref (am_c 274 13)), some (.ref (am_c 282 27)), some (.ref (am_c 283 28)), some (.int (nI j)), o6, o7, o8] [] M) := by
  obtain ⟨x1, x2, x3, x4, i1, i2, i3, n1, n2, n3⟩ := lw_x hj hL
  have s1 : M.2.2.2.2.2.1 = Lx := by rw [hI.2]
  have s2 : M.2.2.2.2.2.2 = xs := by rw [hI.2]
  obtain ⟨k, M1, a, b, w, M2, e1, ha, hb, e2, ht, hv, hI2, hs1⟩ := op_loudIn (a := xs (j + 1)) (b := xs (j + 2)) hI
  have T1 : M1.2.2.2.2.2.1 = Lx := by rw [hs1]
  have T2 : M1.2.2.2.2.2.2 = xs := by rw [hs1]
  refine ⟨M2, some (.int k), some (.int w), o8, a, b, ha, hb, av_I_m hI2 (by omega), ?_⟩
  by_cases hk : k = 0
  · have hv := hv hk
    simp only [ae_L_law_1223, ae_L_law_1240, ae_L_law_1258, ae_L_law_1264, ae_L_law_1269, ae_L_law_1271, ae_L_law_1276, ae_L_law_1286, ae_L_law_1288, s1, s2, T1, T2, x1, x2, x3, x4, i1, i2, i3, n1, n2, n3, e1, am_bnx_k, am_add_00, am_bnx_v, am_tl_s, am_tl_n, am_rv_s, e2, mc_thrown, ht, not_true_eq_false, not_false_eq_true, if_true, if_false, am_1n0, or_true, true_or, eq_self, Bool.true_eq_false, Bool.false_eq_true, cond_true, cond_false, hk, hv, lg_z]
  · simp only [ae_L_law_1223, ae_L_law_1240, ae_L_law_1258, ae_L_law_1264, ae_L_law_1269, ae_L_law_1271, ae_L_law_1276, ae_L_law_1286, ae_L_law_1288, s1, s2, T1, T2, x1, x2, x3, x4, i1, i2, i3, n1, n2, n3, e1, am_bnx_k, am_add_00, am_bnx_v, am_tl_s, am_tl_n, am_rv_s, e2, mc_thrown, ht, not_true_eq_false, not_false_eq_true, if_true, if_false, am_1n0, or_true, true_or, eq_self, Bool.true_eq_false, Bool.false_eq_true, cond_true, cond_false, hk]
theorem ls_goneIn {bd Lx j : Nat} {xs : Nat → Int32} {M : am_M} {o6 o7 o8 : Option Value} (hI : av_I bd Lx xs M) (hbd : bd + 1240 < 1000000000) (hj : j + 4 ≤ Lx) (hL : Lx ≤ 2048) : lw_S bd Lx xs j (am_val iL_law 1291 [some (.ref (am_c 0 44)), some (.ref (am_c 0 12)), some (.ref (am_c 274 13)), some (.ref (am_c 282 27)), some (.ref (am_c 283 28)), some (.int (nI j)), o6, o7, o8] [] M) := by
  obtain ⟨x1, x2, x3, x4, i1, i2, i3, n1, n2, n3⟩ := lw_x hj hL
  have s1 : M.2.2.2.2.2.1 = Lx := by rw [hI.2]
  have s2 : M.2.2.2.2.2.2 = xs := by rw [hI.2]
  obtain ⟨k, M1, a, b, w, M2, e1, ha, hb, e2, ht, hv, hI2, hs1⟩ := op_goneIn (a := xs (j + 1)) hI
  have T1 : M1.2.2.2.2.2.1 = Lx := by rw [hs1]
  have T2 : M1.2.2.2.2.2.2 = xs := by rw [hs1]
  refine ⟨M2, some (.int k), some (.int w), o8, a, b, ha, hb, av_I_m hI2 (by omega), ?_⟩
  by_cases hk : k = 0
  · have hv := hv hk
    simp only [ae_L_law_1291, ae_L_law_1302, ae_L_law_1314, ae_L_law_1320, ae_L_law_1325, ae_L_law_1327, ae_L_law_1332, ae_L_law_1342, ae_L_law_1344, s1, s2, T1, T2, x1, x2, x3, x4, i1, i2, i3, n1, n2, n3, e1, am_bnx_k, am_add_00, am_bnx_v, am_tl_s, am_tl_n, am_rv_s, e2, mc_thrown, ht, not_true_eq_false, not_false_eq_true, if_true, if_false, am_1n0, or_true, true_or, eq_self, Bool.true_eq_false, Bool.false_eq_true, cond_true, cond_false, hk, hv, lg_z]
  · simp only [ae_L_law_1291, ae_L_law_1302, ae_L_law_1314, ae_L_law_1320, ae_L_law_1325, ae_L_law_1327, ae_L_law_1332, ae_L_law_1342, ae_L_law_1344, s1, s2, T1, T2, x1, x2, x3, x4, i1, i2, i3, n1, n2, n3, e1, am_bnx_k, am_add_00, am_bnx_v, am_tl_s, am_tl_n, am_rv_s, e2, mc_thrown, ht, not_true_eq_false, not_false_eq_true, if_true, if_false, am_1n0, or_true, true_or, eq_self, Bool.true_eq_false, Bool.false_eq_true, cond_true, cond_false, hk]
theorem ls_goneInAgain {bd Lx j : Nat} {xs : Nat → Int32} {M : am_M} {o6 o7 o8 : Option Value} (hI : av_I bd Lx xs M) (hbd : bd + 1240 < 1000000000) (hj : j + 4 ≤ Lx) (hL : Lx ≤ 2048) : lw_S bd Lx xs j (am_val iL_law 1347 [some (.ref (am_c 0 44)), some (.ref (am_c 0 12)), some (.ref (am_c 274 13)), some (.ref (am_c 282 27)), some (.ref (am_c 283 28)), some (.int (nI j)), o6, o7, o8] [] M) := by
  obtain ⟨x1, x2, x3, x4, i1, i2, i3, n1, n2, n3⟩ := lw_x hj hL
  have s1 : M.2.2.2.2.2.1 = Lx := by rw [hI.2]
  have s2 : M.2.2.2.2.2.2 = xs := by rw [hI.2]
  obtain ⟨k, M1, a, b, w, M2, e1, ha, hb, e2, ht, hv, hI2, hs1⟩ := op_goneInAgain (a := xs (j + 1)) hI
  have T1 : M1.2.2.2.2.2.1 = Lx := by rw [hs1]
  have T2 : M1.2.2.2.2.2.2 = xs := by rw [hs1]
  refine ⟨M2, some (.int k), some (.int w), o8, a, b, ha, hb, av_I_m hI2 (by omega), ?_⟩
  by_cases hk : k = 0
  · have hv := hv hk
    simp only [ae_L_law_1347, ae_L_law_1358, ae_L_law_1370, ae_L_law_1376, ae_L_law_1381, ae_L_law_1383, ae_L_law_1388, ae_L_law_1398, ae_L_law_1400, s1, s2, T1, T2, x1, x2, x3, x4, i1, i2, i3, n1, n2, n3, e1, am_bnx_k, am_add_00, am_bnx_v, am_tl_s, am_tl_n, am_rv_s, e2, mc_thrown, ht, not_true_eq_false, not_false_eq_true, if_true, if_false, am_1n0, or_true, true_or, eq_self, Bool.true_eq_false, Bool.false_eq_true, cond_true, cond_false, hk, hv, lg_z]
  · simp only [ae_L_law_1347, ae_L_law_1358, ae_L_law_1370, ae_L_law_1376, ae_L_law_1381, ae_L_law_1383, ae_L_law_1388, ae_L_law_1398, ae_L_law_1400, s1, s2, T1, T2, x1, x2, x3, x4, i1, i2, i3, n1, n2, n3, e1, am_bnx_k, am_add_00, am_bnx_v, am_tl_s, am_tl_n, am_rv_s, e2, mc_thrown, ht, not_true_eq_false, not_false_eq_true, if_true, if_false, am_1n0, or_true, true_or, eq_self, Bool.true_eq_false, Bool.false_eq_true, cond_true, cond_false, hk]
theorem ls_comes {bd Lx j : Nat} {xs : Nat → Int32} {M : am_M} {o6 o7 o8 : Option Value} (hI : av_I bd Lx xs M) (hbd : bd + 1240 < 1000000000) (hj : j + 4 ≤ Lx) (hL : Lx ≤ 2048) : lw_S bd Lx xs j (am_val iL_law 1403 [some (.ref (am_c 0 44)), some (.ref (am_c 0 12)), some (.ref (am_c 274 13)), some (.ref (am_c 282 27)), some (.ref (am_c 283 28)), some (.int (nI j)), o6, o7, o8] [] M) := by
  obtain ⟨x1, x2, x3, x4, i1, i2, i3, n1, n2, n3⟩ := lw_x hj hL
  have s1 : M.2.2.2.2.2.1 = Lx := by rw [hI.2]
  have s2 : M.2.2.2.2.2.2 = xs := by rw [hI.2]
  obtain ⟨k, M1, a, b, w, M2, e1, ha, hb, e2, ht, hv, hI2, hs1⟩ := op_comes (a := xs (j + 1)) hI
  have T1 : M1.2.2.2.2.2.1 = Lx := by rw [hs1]
  have T2 : M1.2.2.2.2.2.2 = xs := by rw [hs1]
  refine ⟨M2, some (.int k), some (.int w), o8, a, b, ha, hb, av_I_m hI2 (by omega), ?_⟩
  by_cases hk : k = 0
  · have hv := hv hk
    simp only [ae_L_law_1403, ae_L_law_1414, ae_L_law_1426, ae_L_law_1432, ae_L_law_1437, ae_L_law_1439, ae_L_law_1444, ae_L_law_1454, ae_L_law_1456, s1, s2, T1, T2, x1, x2, x3, x4, i1, i2, i3, n1, n2, n3, e1, am_bnx_k, am_add_00, am_bnx_v, am_tl_s, am_tl_n, am_rv_s, e2, mc_thrown, ht, not_true_eq_false, not_false_eq_true, if_true, if_false, am_1n0, or_true, true_or, eq_self, Bool.true_eq_false, Bool.false_eq_true, cond_true, cond_false, hk, hv, lg_z]
  · simp only [ae_L_law_1403, ae_L_law_1414, ae_L_law_1426, ae_L_law_1432, ae_L_law_1437, ae_L_law_1439, ae_L_law_1444, ae_L_law_1454, ae_L_law_1456, s1, s2, T1, T2, x1, x2, x3, x4, i1, i2, i3, n1, n2, n3, e1, am_bnx_k, am_add_00, am_bnx_v, am_tl_s, am_tl_n, am_rv_s, e2, mc_thrown, ht, not_true_eq_false, not_false_eq_true, if_true, if_false, am_1n0, or_true, true_or, eq_self, Bool.true_eq_false, Bool.false_eq_true, cond_true, cond_false, hk]
theorem ls_comesAgain {bd Lx j : Nat} {xs : Nat → Int32} {M : am_M} {o6 o7 o8 : Option Value} (hI : av_I bd Lx xs M) (hbd : bd + 1240 < 1000000000) (hj : j + 4 ≤ Lx) (hL : Lx ≤ 2048) : lw_S bd Lx xs j (am_val iL_law 1459 [some (.ref (am_c 0 44)), some (.ref (am_c 0 12)), some (.ref (am_c 274 13)), some (.ref (am_c 282 27)), some (.ref (am_c 283 28)), some (.int (nI j)), o6, o7, o8] [] M) := by
  obtain ⟨x1, x2, x3, x4, i1, i2, i3, n1, n2, n3⟩ := lw_x hj hL
  have s1 : M.2.2.2.2.2.1 = Lx := by rw [hI.2]
  have s2 : M.2.2.2.2.2.2 = xs := by rw [hI.2]
  obtain ⟨k, M1, a, b, w, M2, e1, ha, hb, e2, ht, hv, hI2, hs1⟩ := op_comesAgain (a := xs (j + 1)) hI
  have T1 : M1.2.2.2.2.2.1 = Lx := by rw [hs1]
  have T2 : M1.2.2.2.2.2.2 = xs := by rw [hs1]
  refine ⟨M2, some (.int k), some (.int w), o8, a, b, ha, hb, av_I_m hI2 (by omega), ?_⟩
  by_cases hk : k = 0
  · have hv := hv hk
    simp only [ae_L_law_1459, ae_L_law_1470, ae_L_law_1482, ae_L_law_1488, ae_L_law_1493, ae_L_law_1495, ae_L_law_1500, ae_L_law_1510, ae_L_law_1512, s1, s2, T1, T2, x1, x2, x3, x4, i1, i2, i3, n1, n2, n3, e1, am_bnx_k, am_add_00, am_bnx_v, am_tl_s, am_tl_n, am_rv_s, e2, mc_thrown, ht, not_true_eq_false, not_false_eq_true, if_true, if_false, am_1n0, or_true, true_or, eq_self, Bool.true_eq_false, Bool.false_eq_true, cond_true, cond_false, hk, hv, lg_z]
  · simp only [ae_L_law_1459, ae_L_law_1470, ae_L_law_1482, ae_L_law_1488, ae_L_law_1493, ae_L_law_1495, ae_L_law_1500, ae_L_law_1510, ae_L_law_1512, s1, s2, T1, T2, x1, x2, x3, x4, i1, i2, i3, n1, n2, n3, e1, am_bnx_k, am_add_00, am_bnx_v, am_tl_s, am_tl_n, am_rv_s, e2, mc_thrown, ht, not_true_eq_false, not_false_eq_true, if_true, if_false, am_1n0, or_true, true_or, eq_self, Bool.true_eq_false, Bool.false_eq_true, cond_true, cond_false, hk]
theorem ls_returns {bd Lx j : Nat} {xs : Nat → Int32} {M : am_M} {o6 o7 o8 : Option Value} (hI : av_I bd Lx xs M) (hbd : bd + 1240 < 1000000000) (hj : j + 4 ≤ Lx) (hL : Lx ≤ 2048) : lw_S bd Lx xs j (am_val iL_law 1515 [some (.ref (am_c 0 44)), some (.ref (am_c 0 12)), some (.ref (am_c 274 13)), some (.ref (am_c 282 27)), some (.ref (am_c 283 28)), some (.int (nI j)), o6, o7, o8] [] M) := by
  obtain ⟨x1, x2, x3, x4, i1, i2, i3, n1, n2, n3⟩ := lw_x hj hL
  have s1 : M.2.2.2.2.2.1 = Lx := by rw [hI.2]
  have s2 : M.2.2.2.2.2.2 = xs := by rw [hI.2]
  by_cases hz : xs (j + 2) = 0
  · obtain ⟨k, M1, a, b, w, M2, e1, ha, hb, e2, ht, hv, hI2, hs1⟩ := op_returns (a := xs (j + 1)) (b := 0) (g := xs (j + 3)) (by decide) hI
    have T1 : M1.2.2.2.2.2.1 = Lx := by rw [hs1]
    have T2 : M1.2.2.2.2.2.2 = xs := by rw [hs1]
    refine ⟨M2, some (.int k), some (.int w), o8, a, b, ha, hb, av_I_m hI2 (by omega), ?_⟩
    by_cases hk : k = 0
    · have hv := hv hk
      simp only [ae_L_law_1515, ae_L_law_1531, ae_L_law_1535, ae_L_law_1546, ae_L_law_1564, ae_L_law_1568, ae_L_law_1578, ae_L_law_1584, ae_L_law_1589, ae_L_law_1591, ae_L_law_1596, ae_L_law_1606, ae_L_law_1608, s1, s2, T1, T2, x1, x2, x3, x4, i1, i2, i3, n1, n2, n3, e1, am_bnx_k, am_add_00, am_bnx_v, am_tl_s, am_tl_n, am_rv_s, e2, mc_thrown, ht, not_true_eq_false, not_false_eq_true, if_true, if_false, am_1n0, or_true, true_or, eq_self, Bool.true_eq_false, Bool.false_eq_true, cond_true, cond_false, hk, hv, lg_z, hz]
    · simp only [ae_L_law_1515, ae_L_law_1531, ae_L_law_1535, ae_L_law_1546, ae_L_law_1564, ae_L_law_1568, ae_L_law_1578, ae_L_law_1584, ae_L_law_1589, ae_L_law_1591, ae_L_law_1596, ae_L_law_1606, ae_L_law_1608, s1, s2, T1, T2, x1, x2, x3, x4, i1, i2, i3, n1, n2, n3, e1, am_bnx_k, am_add_00, am_bnx_v, am_tl_s, am_tl_n, am_rv_s, e2, mc_thrown, ht, not_true_eq_false, not_false_eq_true, if_true, if_false, am_1n0, or_true, true_or, eq_self, Bool.true_eq_false, Bool.false_eq_true, cond_true, cond_false, hk, hz]
  · obtain ⟨k, M1, a, b, w, M2, e1, ha, hb, e2, ht, hv, hI2, hs1⟩ := op_returns (a := xs (j + 1)) (b := 1) (g := xs (j + 3)) (by decide) hI
    have T1 : M1.2.2.2.2.2.1 = Lx := by rw [hs1]
    have T2 : M1.2.2.2.2.2.2 = xs := by rw [hs1]
    refine ⟨M2, some (.int k), some (.int w), o8, a, b, ha, hb, av_I_m hI2 (by omega), ?_⟩
    by_cases hk : k = 0
    · have hv := hv hk
      simp only [ae_L_law_1515, ae_L_law_1531, ae_L_law_1535, ae_L_law_1546, ae_L_law_1564, ae_L_law_1568, ae_L_law_1578, ae_L_law_1584, ae_L_law_1589, ae_L_law_1591, ae_L_law_1596, ae_L_law_1606, ae_L_law_1608, s1, s2, T1, T2, x1, x2, x3, x4, i1, i2, i3, n1, n2, n3, e1, am_bnx_k, am_add_00, am_bnx_v, am_tl_s, am_tl_n, am_rv_s, e2, mc_thrown, ht, not_true_eq_false, not_false_eq_true, if_true, if_false, am_1n0, or_true, true_or, eq_self, Bool.true_eq_false, Bool.false_eq_true, cond_true, cond_false, hk, hv, lg_z, hz]
    · simp only [ae_L_law_1515, ae_L_law_1531, ae_L_law_1535, ae_L_law_1546, ae_L_law_1564, ae_L_law_1568, ae_L_law_1578, ae_L_law_1584, ae_L_law_1589, ae_L_law_1591, ae_L_law_1596, ae_L_law_1606, ae_L_law_1608, s1, s2, T1, T2, x1, x2, x3, x4, i1, i2, i3, n1, n2, n3, e1, am_bnx_k, am_add_00, am_bnx_v, am_tl_s, am_tl_n, am_rv_s, e2, mc_thrown, ht, not_true_eq_false, not_false_eq_true, if_true, if_false, am_1n0, or_true, true_or, eq_self, Bool.true_eq_false, Bool.false_eq_true, cond_true, cond_false, hk, hz]
theorem ls_bestLoudness {bd Lx j : Nat} {xs : Nat → Int32} {M : am_M} {o6 o7 o8 : Option Value} (hI : av_I bd Lx xs M) (hbd : bd + 1240 < 1000000000) (hj : j + 4 ≤ Lx) (hL : Lx ≤ 2048) : lw_S bd Lx xs j (am_val iL_law 1611 [some (.ref (am_c 0 44)), some (.ref (am_c 0 12)), some (.ref (am_c 274 13)), some (.ref (am_c 282 27)), some (.ref (am_c 283 28)), some (.int (nI j)), o6, o7, o8] [] M) := by
  obtain ⟨x1, x2, x3, x4, i1, i2, i3, n1, n2, n3⟩ := lw_x hj hL
  have s1 : M.2.2.2.2.2.1 = Lx := by rw [hI.2]
  have s2 : M.2.2.2.2.2.2 = xs := by rw [hI.2]
  by_cases hz : xs (j + 2) = 0
  · obtain ⟨k, M1, a, b, w, M2, e1, ha, hb, e2, ht, hv, hI2, hs1⟩ := op_bestLoudness (a := xs (j + 1)) (b := 0) (by decide) hI
    have T1 : M1.2.2.2.2.2.1 = Lx := by rw [hs1]
    have T2 : M1.2.2.2.2.2.2 = xs := by rw [hs1]
    refine ⟨M2, some (.int k), some (.int w), o8, a, b, ha, hb, av_I_m hI2 (by omega), ?_⟩
    by_cases hk : k = 0
    · have hv := hv hk
      simp only [ae_L_law_1611, ae_L_law_1627, ae_L_law_1631, ae_L_law_1636, ae_L_law_1654, ae_L_law_1658, ae_L_law_1662, ae_L_law_1668, ae_L_law_1673, ae_L_law_1675, ae_L_law_1680, ae_L_law_1690, ae_L_law_1692, s1, s2, T1, T2, x1, x2, x3, x4, i1, i2, i3, n1, n2, n3, e1, am_bnx_k, am_add_00, am_bnx_v, am_tl_s, am_tl_n, am_rv_s, e2, mc_thrown, ht, not_true_eq_false, not_false_eq_true, if_true, if_false, am_1n0, or_true, true_or, eq_self, Bool.true_eq_false, Bool.false_eq_true, cond_true, cond_false, hk, hv, lg_z, hz]
    · simp only [ae_L_law_1611, ae_L_law_1627, ae_L_law_1631, ae_L_law_1636, ae_L_law_1654, ae_L_law_1658, ae_L_law_1662, ae_L_law_1668, ae_L_law_1673, ae_L_law_1675, ae_L_law_1680, ae_L_law_1690, ae_L_law_1692, s1, s2, T1, T2, x1, x2, x3, x4, i1, i2, i3, n1, n2, n3, e1, am_bnx_k, am_add_00, am_bnx_v, am_tl_s, am_tl_n, am_rv_s, e2, mc_thrown, ht, not_true_eq_false, not_false_eq_true, if_true, if_false, am_1n0, or_true, true_or, eq_self, Bool.true_eq_false, Bool.false_eq_true, cond_true, cond_false, hk, hz]
  · obtain ⟨k, M1, a, b, w, M2, e1, ha, hb, e2, ht, hv, hI2, hs1⟩ := op_bestLoudness (a := xs (j + 1)) (b := 1) (by decide) hI
    have T1 : M1.2.2.2.2.2.1 = Lx := by rw [hs1]
    have T2 : M1.2.2.2.2.2.2 = xs := by rw [hs1]
    refine ⟨M2, some (.int k), some (.int w), o8, a, b, ha, hb, av_I_m hI2 (by omega), ?_⟩
    by_cases hk : k = 0
    · have hv := hv hk
      simp only [ae_L_law_1611, ae_L_law_1627, ae_L_law_1631, ae_L_law_1636, ae_L_law_1654, ae_L_law_1658, ae_L_law_1662, ae_L_law_1668, ae_L_law_1673, ae_L_law_1675, ae_L_law_1680, ae_L_law_1690, ae_L_law_1692, s1, s2, T1, T2, x1, x2, x3, x4, i1, i2, i3, n1, n2, n3, e1, am_bnx_k, am_add_00, am_bnx_v, am_tl_s, am_tl_n, am_rv_s, e2, mc_thrown, ht, not_true_eq_false, not_false_eq_true, if_true, if_false, am_1n0, or_true, true_or, eq_self, Bool.true_eq_false, Bool.false_eq_true, cond_true, cond_false, hk, hv, lg_z, hz]
    · simp only [ae_L_law_1611, ae_L_law_1627, ae_L_law_1631, ae_L_law_1636, ae_L_law_1654, ae_L_law_1658, ae_L_law_1662, ae_L_law_1668, ae_L_law_1673, ae_L_law_1675, ae_L_law_1680, ae_L_law_1690, ae_L_law_1692, s1, s2, T1, T2, x1, x2, x3, x4, i1, i2, i3, n1, n2, n3, e1, am_bnx_k, am_add_00, am_bnx_v, am_tl_s, am_tl_n, am_rv_s, e2, mc_thrown, ht, not_true_eq_false, not_false_eq_true, if_true, if_false, am_1n0, or_true, true_or, eq_self, Bool.true_eq_false, Bool.false_eq_true, cond_true, cond_false, hk, hz]
theorem ls_bestTeam {bd Lx j : Nat} {xs : Nat → Int32} {M : am_M} {o6 o7 o8 : Option Value} (hI : av_I bd Lx xs M) (hbd : bd + 1240 < 1000000000) (hj : j + 4 ≤ Lx) (hL : Lx ≤ 2048) : lw_S bd Lx xs j (am_val iL_law 1695 [some (.ref (am_c 0 44)), some (.ref (am_c 0 12)), some (.ref (am_c 274 13)), some (.ref (am_c 282 27)), some (.ref (am_c 283 28)), some (.int (nI j)), o6, o7, o8] [] M) := by
  obtain ⟨x1, x2, x3, x4, i1, i2, i3, n1, n2, n3⟩ := lw_x hj hL
  have s1 : M.2.2.2.2.2.1 = Lx := by rw [hI.2]
  have s2 : M.2.2.2.2.2.2 = xs := by rw [hI.2]
  obtain ⟨k, M1, a, b, w, M2, e1, ha, hb, e2, ht, hv, hI2, hs1⟩ := op_bestTeam (a := xs (j + 1)) hI
  have T1 : M1.2.2.2.2.2.1 = Lx := by rw [hs1]
  have T2 : M1.2.2.2.2.2.2 = xs := by rw [hs1]
  refine ⟨M2, some (.int k), some (.int w), o8, a, b, ha, hb, av_I_m hI2 (by omega), ?_⟩
  by_cases hk : k = 0
  · have hv := hv hk
    simp only [ae_L_law_1695, ae_L_law_1706, ae_L_law_1718, ae_L_law_1724, ae_L_law_1729, ae_L_law_1731, ae_L_law_1736, ae_L_law_1746, ae_L_law_1748, s1, s2, T1, T2, x1, x2, x3, x4, i1, i2, i3, n1, n2, n3, e1, am_bnx_k, am_add_00, am_bnx_v, am_tl_s, am_tl_n, am_rv_s, e2, mc_thrown, ht, not_true_eq_false, not_false_eq_true, if_true, if_false, am_1n0, or_true, true_or, eq_self, Bool.true_eq_false, Bool.false_eq_true, cond_true, cond_false, hk, hv, lg_z]
  · simp only [ae_L_law_1695, ae_L_law_1706, ae_L_law_1718, ae_L_law_1724, ae_L_law_1729, ae_L_law_1731, ae_L_law_1736, ae_L_law_1746, ae_L_law_1748, s1, s2, T1, T2, x1, x2, x3, x4, i1, i2, i3, n1, n2, n3, e1, am_bnx_k, am_add_00, am_bnx_v, am_tl_s, am_tl_n, am_rv_s, e2, mc_thrown, ht, not_true_eq_false, not_false_eq_true, if_true, if_false, am_1n0, or_true, true_or, eq_self, Bool.true_eq_false, Bool.false_eq_true, cond_true, cond_false, hk]
theorem ls_price {bd Lx j : Nat} {xs : Nat → Int32} {M : am_M} {o6 o7 o8 : Option Value} (hI : av_I bd Lx xs M) (hbd : bd + 1240 < 1000000000) (hj : j + 4 ≤ Lx) (hL : Lx ≤ 2048) : lw_S bd Lx xs j (am_val iL_law 1751 [some (.ref (am_c 0 44)), some (.ref (am_c 0 12)), some (.ref (am_c 274 13)), some (.ref (am_c 282 27)), some (.ref (am_c 283 28)), some (.int (nI j)), o6, o7, o8] [] M) := by
  obtain ⟨x1, x2, x3, x4, i1, i2, i3, n1, n2, n3⟩ := lw_x hj hL
  have s1 : M.2.2.2.2.2.1 = Lx := by rw [hI.2]
  have s2 : M.2.2.2.2.2.2 = xs := by rw [hI.2]
  obtain ⟨k, M1, a, b, w, M2, e1, ha, hb, e2, ht, hv, hI2, hs1⟩ := op_price (a := xs (j + 1)) (b := xs (j + 2)) hI
  have T1 : M1.2.2.2.2.2.1 = Lx := by rw [hs1]
  have T2 : M1.2.2.2.2.2.2 = xs := by rw [hs1]
  refine ⟨M2, some (.int k), some (.int w), o8, a, b, ha, hb, av_I_m hI2 (by omega), ?_⟩
  by_cases hk : k = 0
  · have hv := hv hk
    simp only [ae_L_law_1751, ae_L_law_1768, ae_L_law_1786, ae_L_law_1792, ae_L_law_1797, ae_L_law_1799, ae_L_law_1804, ae_L_law_1814, ae_L_law_1816, s1, s2, T1, T2, x1, x2, x3, x4, i1, i2, i3, n1, n2, n3, e1, am_bnx_k, am_add_00, am_bnx_v, am_tl_s, am_tl_n, am_rv_s, e2, mc_thrown, ht, not_true_eq_false, not_false_eq_true, if_true, if_false, am_1n0, or_true, true_or, eq_self, Bool.true_eq_false, Bool.false_eq_true, cond_true, cond_false, hk, hv, lg_z]
  · simp only [ae_L_law_1751, ae_L_law_1768, ae_L_law_1786, ae_L_law_1792, ae_L_law_1797, ae_L_law_1799, ae_L_law_1804, ae_L_law_1814, ae_L_law_1816, s1, s2, T1, T2, x1, x2, x3, x4, i1, i2, i3, n1, n2, n3, e1, am_bnx_k, am_add_00, am_bnx_v, am_tl_s, am_tl_n, am_rv_s, e2, mc_thrown, ht, not_true_eq_false, not_false_eq_true, if_true, if_false, am_1n0, or_true, true_or, eq_self, Bool.true_eq_false, Bool.false_eq_true, cond_true, cond_false, hk]
theorem ls_nextWall {bd Lx j : Nat} {xs : Nat → Int32} {M : am_M} {o6 o7 o8 : Option Value} (hI : av_I bd Lx xs M) (hbd : bd + 1240 < 1000000000) (hj : j + 4 ≤ Lx) (hL : Lx ≤ 2048) : lw_S bd Lx xs j (am_val iL_law 1819 [some (.ref (am_c 0 44)), some (.ref (am_c 0 12)), some (.ref (am_c 274 13)), some (.ref (am_c 282 27)), some (.ref (am_c 283 28)), some (.int (nI j)), o6, o7, o8] [] M) := by
  obtain ⟨x1, x2, x3, x4, i1, i2, i3, n1, n2, n3⟩ := lw_x hj hL
  have s1 : M.2.2.2.2.2.1 = Lx := by rw [hI.2]
  have s2 : M.2.2.2.2.2.2 = xs := by rw [hI.2]
  by_cases hz : xs (j + 2) = 0
  · obtain ⟨k, M1, a, b, w, M2, e1, ha, hb, e2, ht, hv, hI2, hs1⟩ := op_nextWall (a := xs (j + 1)) (b := 0) hI
    have T1 : M1.2.2.2.2.2.1 = Lx := by rw [hs1]
    have T2 : M1.2.2.2.2.2.2 = xs := by rw [hs1]
    refine ⟨M2, some (.int k), some (.int w), o8, a, b, ha, hb, av_I_m hI2 (by omega), ?_⟩
    by_cases hk : k = 0
    · have hv := hv hk
      simp only [ae_L_law_1819, ae_L_law_1835, ae_L_law_1839, ae_L_law_1844, ae_L_law_1862, ae_L_law_1866, ae_L_law_1870, ae_L_law_1876, ae_L_law_1881, ae_L_law_1883, ae_L_law_1888, ae_L_law_1898, ae_L_law_1900, s1, s2, T1, T2, x1, x2, x3, x4, i1, i2, i3, n1, n2, n3, e1, am_bnx_k, am_add_00, am_bnx_v, am_tl_s, am_tl_n, am_rv_s, e2, mc_thrown, ht, not_true_eq_false, not_false_eq_true, if_true, if_false, am_1n0, or_true, true_or, eq_self, Bool.true_eq_false, Bool.false_eq_true, cond_true, cond_false, hk, hv, lg_z, hz]
    · simp only [ae_L_law_1819, ae_L_law_1835, ae_L_law_1839, ae_L_law_1844, ae_L_law_1862, ae_L_law_1866, ae_L_law_1870, ae_L_law_1876, ae_L_law_1881, ae_L_law_1883, ae_L_law_1888, ae_L_law_1898, ae_L_law_1900, s1, s2, T1, T2, x1, x2, x3, x4, i1, i2, i3, n1, n2, n3, e1, am_bnx_k, am_add_00, am_bnx_v, am_tl_s, am_tl_n, am_rv_s, e2, mc_thrown, ht, not_true_eq_false, not_false_eq_true, if_true, if_false, am_1n0, or_true, true_or, eq_self, Bool.true_eq_false, Bool.false_eq_true, cond_true, cond_false, hk, hz]
  · obtain ⟨k, M1, a, b, w, M2, e1, ha, hb, e2, ht, hv, hI2, hs1⟩ := op_nextWall (a := xs (j + 1)) (b := 1) hI
    have T1 : M1.2.2.2.2.2.1 = Lx := by rw [hs1]
    have T2 : M1.2.2.2.2.2.2 = xs := by rw [hs1]
    refine ⟨M2, some (.int k), some (.int w), o8, a, b, ha, hb, av_I_m hI2 (by omega), ?_⟩
    by_cases hk : k = 0
    · have hv := hv hk
      simp only [ae_L_law_1819, ae_L_law_1835, ae_L_law_1839, ae_L_law_1844, ae_L_law_1862, ae_L_law_1866, ae_L_law_1870, ae_L_law_1876, ae_L_law_1881, ae_L_law_1883, ae_L_law_1888, ae_L_law_1898, ae_L_law_1900, s1, s2, T1, T2, x1, x2, x3, x4, i1, i2, i3, n1, n2, n3, e1, am_bnx_k, am_add_00, am_bnx_v, am_tl_s, am_tl_n, am_rv_s, e2, mc_thrown, ht, not_true_eq_false, not_false_eq_true, if_true, if_false, am_1n0, or_true, true_or, eq_self, Bool.true_eq_false, Bool.false_eq_true, cond_true, cond_false, hk, hv, lg_z, hz]
    · simp only [ae_L_law_1819, ae_L_law_1835, ae_L_law_1839, ae_L_law_1844, ae_L_law_1862, ae_L_law_1866, ae_L_law_1870, ae_L_law_1876, ae_L_law_1881, ae_L_law_1883, ae_L_law_1888, ae_L_law_1898, ae_L_law_1900, s1, s2, T1, T2, x1, x2, x3, x4, i1, i2, i3, n1, n2, n3, e1, am_bnx_k, am_add_00, am_bnx_v, am_tl_s, am_tl_n, am_rv_s, e2, mc_thrown, ht, not_true_eq_false, not_false_eq_true, if_true, if_false, am_1n0, or_true, true_or, eq_self, Bool.true_eq_false, Bool.false_eq_true, cond_true, cond_false, hk, hz]
theorem ls_ranked {bd Lx j : Nat} {xs : Nat → Int32} {M : am_M} {o6 o7 o8 : Option Value} (hI : av_I bd Lx xs M) (hbd : bd + 1240 < 1000000000) (hj : j + 4 ≤ Lx) (hL : Lx ≤ 2048) : lw_S bd Lx xs j (am_val iL_law 1903 [some (.ref (am_c 0 44)), some (.ref (am_c 0 12)), some (.ref (am_c 274 13)), some (.ref (am_c 282 27)), some (.ref (am_c 283 28)), some (.int (nI j)), o6, o7, o8] [] M) := by
  obtain ⟨x1, x2, x3, x4, i1, i2, i3, n1, n2, n3⟩ := lw_x hj hL
  have s1 : M.2.2.2.2.2.1 = Lx := by rw [hI.2]
  have s2 : M.2.2.2.2.2.2 = xs := by rw [hI.2]
  obtain ⟨k, M1, a, b, w, M2, e1, ha, hb, e2, ht, hv, hI2, hs1⟩ := op_ranked (a := xs (j + 1)) (b := xs (j + 2)) hI
  have T1 : M1.2.2.2.2.2.1 = Lx := by rw [hs1]
  have T2 : M1.2.2.2.2.2.2 = xs := by rw [hs1]
  refine ⟨M2, some (.int k), some (.int w), o8, a, b, ha, hb, av_I_m hI2 (by omega), ?_⟩
  by_cases hk : k = 0
  · have hv := hv hk
    simp only [ae_L_law_1903, ae_L_law_1920, ae_L_law_1938, ae_L_law_1944, ae_L_law_1949, ae_L_law_1951, ae_L_law_1956, ae_L_law_1966, ae_L_law_1968, s1, s2, T1, T2, x1, x2, x3, x4, i1, i2, i3, n1, n2, n3, e1, am_bnx_k, am_add_00, am_bnx_v, am_tl_s, am_tl_n, am_rv_s, e2, mc_thrown, ht, not_true_eq_false, not_false_eq_true, if_true, if_false, am_1n0, or_true, true_or, eq_self, Bool.true_eq_false, Bool.false_eq_true, cond_true, cond_false, hk, hv, lg_z]
  · simp only [ae_L_law_1903, ae_L_law_1920, ae_L_law_1938, ae_L_law_1944, ae_L_law_1949, ae_L_law_1951, ae_L_law_1956, ae_L_law_1966, ae_L_law_1968, s1, s2, T1, T2, x1, x2, x3, x4, i1, i2, i3, n1, n2, n3, e1, am_bnx_k, am_add_00, am_bnx_v, am_tl_s, am_tl_n, am_rv_s, e2, mc_thrown, ht, not_true_eq_false, not_false_eq_true, if_true, if_false, am_1n0, or_true, true_or, eq_self, Bool.true_eq_false, Bool.false_eq_true, cond_true, cond_false, hk]
theorem ls_loudest {bd Lx j : Nat} {xs : Nat → Int32} {M : am_M} {o6 o7 o8 : Option Value} (hI : av_I bd Lx xs M) (hbd : bd + 1240 < 1000000000) (hj : j + 4 ≤ Lx) (hL : Lx ≤ 2048) : lw_S bd Lx xs j (am_val iL_law 1971 [some (.ref (am_c 0 44)), some (.ref (am_c 0 12)), some (.ref (am_c 274 13)), some (.ref (am_c 282 27)), some (.ref (am_c 283 28)), some (.int (nI j)), o6, o7, o8] [] M) := by
  obtain ⟨x1, x2, x3, x4, i1, i2, i3, n1, n2, n3⟩ := lw_x hj hL
  have s1 : M.2.2.2.2.2.1 = Lx := by rw [hI.2]
  have s2 : M.2.2.2.2.2.2 = xs := by rw [hI.2]
  obtain ⟨k, M1, a, b, w, M2, e1, ha, hb, e2, ht, hv, hI2, hs1⟩ := op_loudest (a := xs (j + 1)) hI
  have T1 : M1.2.2.2.2.2.1 = Lx := by rw [hs1]
  have T2 : M1.2.2.2.2.2.2 = xs := by rw [hs1]
  refine ⟨M2, some (.int k), some (.int w), o8, a, b, ha, hb, av_I_m hI2 (by omega), ?_⟩
  by_cases hk : k = 0
  · have hv := hv hk
    simp only [ae_L_law_1971, ae_L_law_1982, ae_L_law_1994, ae_L_law_2000, ae_L_law_2005, ae_L_law_2007, ae_L_law_2012, ae_L_law_2022, ae_L_law_2024, s1, s2, T1, T2, x1, x2, x3, x4, i1, i2, i3, n1, n2, n3, e1, am_bnx_k, am_add_00, am_bnx_v, am_tl_s, am_tl_n, am_rv_s, e2, mc_thrown, ht, not_true_eq_false, not_false_eq_true, if_true, if_false, am_1n0, or_true, true_or, eq_self, Bool.true_eq_false, Bool.false_eq_true, cond_true, cond_false, hk, hv, lg_z]
  · simp only [ae_L_law_1971, ae_L_law_1982, ae_L_law_1994, ae_L_law_2000, ae_L_law_2005, ae_L_law_2007, ae_L_law_2012, ae_L_law_2022, ae_L_law_2024, s1, s2, T1, T2, x1, x2, x3, x4, i1, i2, i3, n1, n2, n3, e1, am_bnx_k, am_add_00, am_bnx_v, am_tl_s, am_tl_n, am_rv_s, e2, mc_thrown, ht, not_true_eq_false, not_false_eq_true, if_true, if_false, am_1n0, or_true, true_or, eq_self, Bool.true_eq_false, Bool.false_eq_true, cond_true, cond_false, hk]
theorem ls_isEven {bd Lx j : Nat} {xs : Nat → Int32} {M : am_M} {o6 o7 o8 : Option Value} (hI : av_I bd Lx xs M) (hbd : bd + 1240 < 1000000000) (hj : j + 4 ≤ Lx) (hL : Lx ≤ 2048) : lw_S bd Lx xs j (am_val iL_law 2027 [some (.ref (am_c 0 44)), some (.ref (am_c 0 12)), some (.ref (am_c 274 13)), some (.ref (am_c 282 27)), some (.ref (am_c 283 28)), some (.int (nI j)), o6, o7, o8] [] M) := by
  obtain ⟨x1, x2, x3, x4, i1, i2, i3, n1, n2, n3⟩ := lw_x hj hL
  have s1 : M.2.2.2.2.2.1 = Lx := by rw [hI.2]
  have s2 : M.2.2.2.2.2.2 = xs := by rw [hI.2]
  obtain ⟨w, M1, M2, e1, e2, hI2, hs1⟩ := op_isEven  hI
  have T1 : M1.2.2.2.2.2.1 = Lx := by rw [hs1]
  have T2 : M1.2.2.2.2.2.2 = xs := by rw [hs1]
  refine ⟨M2, o6, o7, o8, 0, 0, Nat.zero_le _, Nat.zero_le _, av_I_m hI2 (by omega), ?_⟩
  rw [am_add_00]
  simp only [ae_L_law_2027, ae_L_law_2031, ae_L_law_2035, ae_L_law_2038, ae_L_law_2624, s1, s2, T1, T2, x1, x2, x3, x4, i1, i2, i3, n1, n2, n3, e1, am_bnx_k, am_add_00, am_bnx_v, am_tl_s, am_tl_n, am_rv_s, e2, not_true_eq_false, not_false_eq_true, if_true, if_false, am_1n0, or_true, true_or, eq_self, Bool.true_eq_false, Bool.false_eq_true, cond_true, cond_false]
theorem ls_append {bd Lx j : Nat} {xs : Nat → Int32} {M : am_M} {o6 o7 o8 : Option Value} (hI : av_I bd Lx xs M) (hbd : bd + 1240 < 1000000000) (hj : j + 4 ≤ Lx) (hL : Lx ≤ 2048) : lw_S bd Lx xs j (am_val iL_law 2040 [some (.ref (am_c 0 44)), some (.ref (am_c 0 12)), some (.ref (am_c 274 13)), some (.ref (am_c 282 27)), some (.ref (am_c 283 28)), some (.int (nI j)), o6, o7, o8] [] M) := by
  obtain ⟨x1, x2, x3, x4, i1, i2, i3, n1, n2, n3⟩ := lw_x hj hL
  have s1 : M.2.2.2.2.2.1 = Lx := by rw [hI.2]
  have s2 : M.2.2.2.2.2.2 = xs := by rw [hI.2]
  obtain ⟨k, M1, a, b, w, M2, e1, ha, hb, e2, ht, hv, hI2, hs1⟩ := op_append (x := ((xs (j + 1)).toUInt32 % 65536).toInt32) am_ch_ch hI
  have T1 : M1.2.2.2.2.2.1 = Lx := by rw [hs1]
  have T2 : M1.2.2.2.2.2.2 = xs := by rw [hs1]
  refine ⟨M2, some (.int k), some (.int w), o8, a, b, ha, hb, av_I_m hI2 (by omega), ?_⟩
  by_cases hk : k = 0
  · have hv := hv hk
    simp only [ae_L_law_2040, ae_L_law_2052, ae_L_law_2065, ae_L_law_2071, ae_L_law_2076, ae_L_law_2078, ae_L_law_2083, ae_L_law_2093, ae_L_law_2095, s1, s2, T1, T2, x1, x2, x3, x4, i1, i2, i3, n1, n2, n3, e1, am_bnx_k, am_add_00, am_bnx_v, am_tl_s, am_tl_n, am_rv_s, e2, mc_thrown, ht, not_true_eq_false, not_false_eq_true, if_true, if_false, am_1n0, or_true, true_or, eq_self, Bool.true_eq_false, Bool.false_eq_true, cond_true, cond_false, hk, hv, lg_z]
  · simp only [ae_L_law_2040, ae_L_law_2052, ae_L_law_2065, ae_L_law_2071, ae_L_law_2076, ae_L_law_2078, ae_L_law_2083, ae_L_law_2093, ae_L_law_2095, s1, s2, T1, T2, x1, x2, x3, x4, i1, i2, i3, n1, n2, n3, e1, am_bnx_k, am_add_00, am_bnx_v, am_tl_s, am_tl_n, am_rv_s, e2, mc_thrown, ht, not_true_eq_false, not_false_eq_true, if_true, if_false, am_1n0, or_true, true_or, eq_self, Bool.true_eq_false, Bool.false_eq_true, cond_true, cond_false, hk]
theorem ls_commands {bd Lx j : Nat} {xs : Nat → Int32} {M : am_M} {o6 o7 o8 : Option Value} (hI : av_I bd Lx xs M) (hbd : bd + 1240 < 1000000000) (hj : j + 4 ≤ Lx) (hL : Lx ≤ 2048) : lw_S bd Lx xs j (am_val iL_law 2098 [some (.ref (am_c 0 44)), some (.ref (am_c 0 12)), some (.ref (am_c 274 13)), some (.ref (am_c 282 27)), some (.ref (am_c 283 28)), some (.int (nI j)), o6, o7, o8] [] M) := by
  obtain ⟨x1, x2, x3, x4, i1, i2, i3, n1, n2, n3⟩ := lw_x hj hL
  have s1 : M.2.2.2.2.2.1 = Lx := by rw [hI.2]
  have s2 : M.2.2.2.2.2.2 = xs := by rw [hI.2]
  obtain ⟨k, M1, a, b, w, M2, e1, ha, hb, e2, ht, hv, hI2, hs1⟩ := op_commands  hI (by omega)
  have T1 : M1.2.2.2.2.2.1 = Lx := by rw [hs1]
  have T2 : M1.2.2.2.2.2.2 = xs := by rw [hs1]
  refine ⟨M2, some (.int k), some (.int w), o8, a, b, ha, hb, av_I_m hI2 (by omega), ?_⟩
  by_cases hk : k = 0
  · have hv := hv hk
    simp only [ae_L_law_2098, ae_L_law_2103, ae_L_law_2109, ae_L_law_2115, ae_L_law_2120, ae_L_law_2122, ae_L_law_2127, ae_L_law_2137, ae_L_law_2139, s1, s2, T1, T2, x1, x2, x3, x4, i1, i2, i3, n1, n2, n3, e1, am_bnx_k, am_add_00, am_bnx_v, am_tl_s, am_tl_n, am_rv_s, e2, mc_thrown, ht, not_true_eq_false, not_false_eq_true, if_true, if_false, am_1n0, or_true, true_or, eq_self, Bool.true_eq_false, Bool.false_eq_true, cond_true, cond_false, hk, hv, lg_z]
  · simp only [ae_L_law_2098, ae_L_law_2103, ae_L_law_2109, ae_L_law_2115, ae_L_law_2120, ae_L_law_2122, ae_L_law_2127, ae_L_law_2137, ae_L_law_2139, s1, s2, T1, T2, x1, x2, x3, x4, i1, i2, i3, n1, n2, n3, e1, am_bnx_k, am_add_00, am_bnx_v, am_tl_s, am_tl_n, am_rv_s, e2, mc_thrown, ht, not_true_eq_false, not_false_eq_true, if_true, if_false, am_1n0, or_true, true_or, eq_self, Bool.true_eq_false, Bool.false_eq_true, cond_true, cond_false, hk]
theorem ls_faultPosition {bd Lx j : Nat} {xs : Nat → Int32} {M : am_M} {o6 o7 o8 : Option Value} (hI : av_I bd Lx xs M) (hbd : bd + 1240 < 1000000000) (hj : j + 4 ≤ Lx) (hL : Lx ≤ 2048) : lw_S bd Lx xs j (am_val iL_law 2142 [some (.ref (am_c 0 44)), some (.ref (am_c 0 12)), some (.ref (am_c 274 13)), some (.ref (am_c 282 27)), some (.ref (am_c 283 28)), some (.int (nI j)), o6, o7, o8] [] M) := by
  obtain ⟨x1, x2, x3, x4, i1, i2, i3, n1, n2, n3⟩ := lw_x hj hL
  have s1 : M.2.2.2.2.2.1 = Lx := by rw [hI.2]
  have s2 : M.2.2.2.2.2.2 = xs := by rw [hI.2]
  obtain ⟨w, M1, M2, e1, e2, hI2, hs1⟩ := op_faultPosition  hI
  have T1 : M1.2.2.2.2.2.1 = Lx := by rw [hs1]
  have T2 : M1.2.2.2.2.2.2 = xs := by rw [hs1]
  refine ⟨M2, o6, o7, o8, 0, 0, Nat.zero_le _, Nat.zero_le _, av_I_m hI2 (by omega), ?_⟩
  rw [am_add_00]
  simp only [ae_L_law_2142, ae_L_law_2146, ae_L_law_2150, ae_L_law_2153, ae_L_law_2624, s1, s2, T1, T2, x1, x2, x3, x4, i1, i2, i3, n1, n2, n3, e1, am_bnx_k, am_add_00, am_bnx_v, am_tl_s, am_tl_n, am_rv_s, e2, not_true_eq_false, not_false_eq_true, if_true, if_false, am_1n0, or_true, true_or, eq_self, Bool.true_eq_false, Bool.false_eq_true, cond_true, cond_false]
theorem ls_reason {bd Lx j : Nat} {xs : Nat → Int32} {M : am_M} {o6 o7 o8 : Option Value} (hI : av_I bd Lx xs M) (hbd : bd + 1240 < 1000000000) (hj : j + 4 ≤ Lx) (hL : Lx ≤ 2048) : lw_S bd Lx xs j (am_val iL_law 2155 [some (.ref (am_c 0 44)), some (.ref (am_c 0 12)), some (.ref (am_c 274 13)), some (.ref (am_c 282 27)), some (.ref (am_c 283 28)), some (.int (nI j)), o6, o7, o8] [] M) := by
  obtain ⟨x1, x2, x3, x4, i1, i2, i3, n1, n2, n3⟩ := lw_x hj hL
  have s1 : M.2.2.2.2.2.1 = Lx := by rw [hI.2]
  have s2 : M.2.2.2.2.2.2 = xs := by rw [hI.2]
  obtain ⟨k, M1, a, b, w, M2, e1, ha, hb, e2, ht, hv, hI2, hs1⟩ := op_reason (a := xs (j + 1)) hI
  have T1 : M1.2.2.2.2.2.1 = Lx := by rw [hs1]
  have T2 : M1.2.2.2.2.2.2 = xs := by rw [hs1]
  refine ⟨M2, some (.int k), some (.int w), o8, a, b, ha, hb, av_I_m hI2 (by omega), ?_⟩
  by_cases hk : k = 0
  · have hv := hv hk
    simp only [ae_L_law_2155, ae_L_law_2166, ae_L_law_2178, ae_L_law_2184, ae_L_law_2189, ae_L_law_2191, ae_L_law_2196, ae_L_law_2206, ae_L_law_2208, s1, s2, T1, T2, x1, x2, x3, x4, i1, i2, i3, n1, n2, n3, e1, am_bnx_k, am_add_00, am_bnx_v, am_tl_s, am_tl_n, am_rv_s, e2, mc_thrown, ht, not_true_eq_false, not_false_eq_true, if_true, if_false, am_1n0, or_true, true_or, eq_self, Bool.true_eq_false, Bool.false_eq_true, cond_true, cond_false, hk, hv, lg_z]
  · simp only [ae_L_law_2155, ae_L_law_2166, ae_L_law_2178, ae_L_law_2184, ae_L_law_2189, ae_L_law_2191, ae_L_law_2196, ae_L_law_2206, ae_L_law_2208, s1, s2, T1, T2, x1, x2, x3, x4, i1, i2, i3, n1, n2, n3, e1, am_bnx_k, am_add_00, am_bnx_v, am_tl_s, am_tl_n, am_rv_s, e2, mc_thrown, ht, not_true_eq_false, not_false_eq_true, if_true, if_false, am_1n0, or_true, true_or, eq_self, Bool.true_eq_false, Bool.false_eq_true, cond_true, cond_false, hk]
theorem ls_line {bd Lx j : Nat} {xs : Nat → Int32} {M : am_M} {o6 o7 o8 : Option Value} (hI : av_I bd Lx xs M) (hbd : bd + 1240 < 1000000000) (hj : j + 4 ≤ Lx) (hL : Lx ≤ 2048) : lw_S bd Lx xs j (am_val iL_law 2211 [some (.ref (am_c 0 44)), some (.ref (am_c 0 12)), some (.ref (am_c 274 13)), some (.ref (am_c 282 27)), some (.ref (am_c 283 28)), some (.int (nI j)), o6, o7, o8] [] M) := by
  obtain ⟨x1, x2, x3, x4, i1, i2, i3, n1, n2, n3⟩ := lw_x hj hL
  have s1 : M.2.2.2.2.2.1 = Lx := by rw [hI.2]
  have s2 : M.2.2.2.2.2.2 = xs := by rw [hI.2]
  obtain ⟨w, M1, M2, e1, e2, hI2, hs1⟩ := op_line  hI
  have T1 : M1.2.2.2.2.2.1 = Lx := by rw [hs1]
  have T2 : M1.2.2.2.2.2.2 = xs := by rw [hs1]
  refine ⟨M2, o6, o7, o8, 0, 0, Nat.zero_le _, Nat.zero_le _, av_I_m hI2 (by omega), ?_⟩
  rw [am_add_00]
  simp only [ae_L_law_2211, ae_L_law_2215, ae_L_law_2219, ae_L_law_2222, ae_L_law_2624, s1, s2, T1, T2, x1, x2, x3, x4, i1, i2, i3, n1, n2, n3, e1, am_bnx_k, am_add_00, am_bnx_v, am_tl_s, am_tl_n, am_rv_s, e2, not_true_eq_false, not_false_eq_true, if_true, if_false, am_1n0, or_true, true_or, eq_self, Bool.true_eq_false, Bool.false_eq_true, cond_true, cond_false]
theorem ls_soundLine {bd Lx j : Nat} {xs : Nat → Int32} {M : am_M} {o6 o7 o8 : Option Value} (hI : av_I bd Lx xs M) (hbd : bd + 1240 < 1000000000) (hj : j + 4 ≤ Lx) (hL : Lx ≤ 2048) : lw_S bd Lx xs j (am_val iL_law 2224 [some (.ref (am_c 0 44)), some (.ref (am_c 0 12)), some (.ref (am_c 274 13)), some (.ref (am_c 282 27)), some (.ref (am_c 283 28)), some (.int (nI j)), o6, o7, o8] [] M) := by
  obtain ⟨x1, x2, x3, x4, i1, i2, i3, n1, n2, n3⟩ := lw_x hj hL
  have s1 : M.2.2.2.2.2.1 = Lx := by rw [hI.2]
  have s2 : M.2.2.2.2.2.2 = xs := by rw [hI.2]
  obtain ⟨k, M1, a, b, w, M2, e1, ha, hb, e2, ht, hv, hI2, hs1⟩ := op_soundLine (a := xs (j + 1)) hI
  have T1 : M1.2.2.2.2.2.1 = Lx := by rw [hs1]
  have T2 : M1.2.2.2.2.2.2 = xs := by rw [hs1]
  refine ⟨M2, some (.int k), some (.int w), o8, a, b, ha, hb, av_I_m hI2 (by omega), ?_⟩
  by_cases hk : k = 0
  · have hv := hv hk
    simp only [ae_L_law_2224, ae_L_law_2235, ae_L_law_2247, ae_L_law_2253, ae_L_law_2258, ae_L_law_2260, ae_L_law_2265, ae_L_law_2275, ae_L_law_2277, s1, s2, T1, T2, x1, x2, x3, x4, i1, i2, i3, n1, n2, n3, e1, am_bnx_k, am_add_00, am_bnx_v, am_tl_s, am_tl_n, am_rv_s, e2, mc_thrown, ht, not_true_eq_false, not_false_eq_true, if_true, if_false, am_1n0, or_true, true_or, eq_self, Bool.true_eq_false, Bool.false_eq_true, cond_true, cond_false, hk, hv, lg_z]
  · simp only [ae_L_law_2224, ae_L_law_2235, ae_L_law_2247, ae_L_law_2253, ae_L_law_2258, ae_L_law_2260, ae_L_law_2265, ae_L_law_2275, ae_L_law_2277, s1, s2, T1, T2, x1, x2, x3, x4, i1, i2, i3, n1, n2, n3, e1, am_bnx_k, am_add_00, am_bnx_v, am_tl_s, am_tl_n, am_rv_s, e2, mc_thrown, ht, not_true_eq_false, not_false_eq_true, if_true, if_false, am_1n0, or_true, true_or, eq_self, Bool.true_eq_false, Bool.false_eq_true, cond_true, cond_false, hk]
theorem ls_character {bd Lx j : Nat} {xs : Nat → Int32} {M : am_M} {o6 o7 o8 : Option Value} (hI : av_I bd Lx xs M) (hbd : bd + 1240 < 1000000000) (hj : j + 4 ≤ Lx) (hL : Lx ≤ 2048) : lw_S bd Lx xs j (am_val iL_law 2280 [some (.ref (am_c 0 44)), some (.ref (am_c 0 12)), some (.ref (am_c 274 13)), some (.ref (am_c 282 27)), some (.ref (am_c 283 28)), some (.int (nI j)), o6, o7, o8] [] M) := by
  obtain ⟨x1, x2, x3, x4, i1, i2, i3, n1, n2, n3⟩ := lw_x hj hL
  have s1 : M.2.2.2.2.2.1 = Lx := by rw [hI.2]
  have s2 : M.2.2.2.2.2.2 = xs := by rw [hI.2]
  obtain ⟨k, M1, a, b, w, M2, e1, ha, hb, e2, ht, hv, hI2, hs1⟩ := op_character (a := xs (j + 1)) hI
  have T1 : M1.2.2.2.2.2.1 = Lx := by rw [hs1]
  have T2 : M1.2.2.2.2.2.2 = xs := by rw [hs1]
  refine ⟨M2, some (.int k), some (.int w), o8, a, b, ha, hb, av_I_m hI2 (by omega), ?_⟩
  by_cases hk : k = 0
  · have hv := hv hk
    simp only [ae_L_law_2280, ae_L_law_2291, ae_L_law_2303, ae_L_law_2309, ae_L_law_2314, ae_L_law_2316, ae_L_law_2321, ae_L_law_2331, ae_L_law_2333, s1, s2, T1, T2, x1, x2, x3, x4, i1, i2, i3, n1, n2, n3, e1, am_bnx_k, am_add_00, am_bnx_v, am_tl_s, am_tl_n, am_rv_s, e2, mc_thrown, ht, not_true_eq_false, not_false_eq_true, if_true, if_false, am_1n0, or_true, true_or, eq_self, Bool.true_eq_false, Bool.false_eq_true, cond_true, cond_false, hk, hv, lg_z]
  · simp only [ae_L_law_2280, ae_L_law_2291, ae_L_law_2303, ae_L_law_2309, ae_L_law_2314, ae_L_law_2316, ae_L_law_2321, ae_L_law_2331, ae_L_law_2333, s1, s2, T1, T2, x1, x2, x3, x4, i1, i2, i3, n1, n2, n3, e1, am_bnx_k, am_add_00, am_bnx_v, am_tl_s, am_tl_n, am_rv_s, e2, mc_thrown, ht, not_true_eq_false, not_false_eq_true, if_true, if_false, am_1n0, or_true, true_or, eq_self, Bool.true_eq_false, Bool.false_eq_true, cond_true, cond_false, hk]
theorem ls_meanLoudness {bd Lx j : Nat} {xs : Nat → Int32} {M : am_M} {o6 o7 o8 : Option Value} (hI : av_I bd Lx xs M) (hbd : bd + 1240 < 1000000000) (hj : j + 4 ≤ Lx) (hL : Lx ≤ 2048) : lw_S bd Lx xs j (am_val iL_law 2336 [some (.ref (am_c 0 44)), some (.ref (am_c 0 12)), some (.ref (am_c 274 13)), some (.ref (am_c 282 27)), some (.ref (am_c 283 28)), some (.int (nI j)), o6, o7, o8] [] M) := by
  obtain ⟨x1, x2, x3, x4, i1, i2, i3, n1, n2, n3⟩ := lw_x hj hL
  have s1 : M.2.2.2.2.2.1 = Lx := by rw [hI.2]
  have s2 : M.2.2.2.2.2.2 = xs := by rw [hI.2]
  obtain ⟨k, M1, a, b, w, M2, e1, ha, hb, e2, ht, hv, hI2, hs1⟩ := op_meanLoudness  hI
  have T1 : M1.2.2.2.2.2.1 = Lx := by rw [hs1]
  have T2 : M1.2.2.2.2.2.2 = xs := by rw [hs1]
  refine ⟨M2, some (.int k), some (.double w), none, a, b, ha, hb, av_I_m hI2 (by omega), ?_⟩
  by_cases hk : k = 0
  · obtain ⟨v1, v2⟩ := hv hk
    simp only [ae_L_law_2336, ae_L_law_2342, ae_L_law_2348, ae_L_law_2354, ae_L_law_2359, ae_L_law_2361, ae_L_law_2366, ae_L_law_2376, ae_L_law_2388, ae_L_law_2396, ae_L_law_2398, s1, s2, T1, T2, x1, x2, x3, x4, i1, i2, i3, n1, n2, n3, e1, am_bnx_k, am_add_00, am_bnx_v, am_tl_s, am_tl_n, am_rv_s, e2, mc_thrown, ht, not_true_eq_false, not_false_eq_true, if_true, if_false, am_1n0, or_true, true_or, eq_self, Bool.true_eq_false, Bool.false_eq_true, cond_true, cond_false, hk, v1, v2]
  · simp only [ae_L_law_2336, ae_L_law_2342, ae_L_law_2348, ae_L_law_2354, ae_L_law_2359, ae_L_law_2361, ae_L_law_2366, ae_L_law_2376, ae_L_law_2388, ae_L_law_2396, ae_L_law_2398, s1, s2, T1, T2, x1, x2, x3, x4, i1, i2, i3, n1, n2, n3, e1, am_bnx_k, am_add_00, am_bnx_v, am_tl_s, am_tl_n, am_rv_s, e2, mc_thrown, ht, not_true_eq_false, not_false_eq_true, if_true, if_false, am_1n0, or_true, true_or, eq_self, Bool.true_eq_false, Bool.false_eq_true, cond_true, cond_false, hk]
theorem ls_echoShare {bd Lx j : Nat} {xs : Nat → Int32} {M : am_M} {o6 o7 o8 : Option Value} (hI : av_I bd Lx xs M) (hbd : bd + 1240 < 1000000000) (hj : j + 4 ≤ Lx) (hL : Lx ≤ 2048) : lw_S bd Lx xs j (am_val iL_law 2401 [some (.ref (am_c 0 44)), some (.ref (am_c 0 12)), some (.ref (am_c 274 13)), some (.ref (am_c 282 27)), some (.ref (am_c 283 28)), some (.int (nI j)), o6, o7, o8] [] M) := by
  obtain ⟨x1, x2, x3, x4, i1, i2, i3, n1, n2, n3⟩ := lw_x hj hL
  have s1 : M.2.2.2.2.2.1 = Lx := by rw [hI.2]
  have s2 : M.2.2.2.2.2.2 = xs := by rw [hI.2]
  obtain ⟨k, M1, a, b, w, M2, e1, ha, hb, e2, ht, hv, hI2, hs1⟩ := op_echoShare  hI
  have T1 : M1.2.2.2.2.2.1 = Lx := by rw [hs1]
  have T2 : M1.2.2.2.2.2.2 = xs := by rw [hs1]
  refine ⟨M2, some (.int k), some (.float w), o8, a, b, ha, hb, av_I_m hI2 (by omega), ?_⟩
  by_cases hk : k = 0
  · obtain ⟨v1, v2, v3⟩ := hv hk
    simp only [ae_L_law_2401, ae_L_law_2407, ae_L_law_2413, ae_L_law_2419, ae_L_law_2424, ae_L_law_2426, ae_L_law_2431, ae_L_law_2442, ae_L_law_2454, ae_L_law_2462, ae_L_law_2464, s1, s2, T1, T2, x1, x2, x3, x4, i1, i2, i3, n1, n2, n3, e1, am_bnx_k, am_add_00, am_bnx_v, am_tl_s, am_tl_n, am_rv_s, e2, mc_thrown, ht, not_true_eq_false, not_false_eq_true, if_true, if_false, am_1n0, or_true, true_or, eq_self, Bool.true_eq_false, Bool.false_eq_true, cond_true, cond_false, hk, v1, v2, v3]
  · simp only [ae_L_law_2401, ae_L_law_2407, ae_L_law_2413, ae_L_law_2419, ae_L_law_2424, ae_L_law_2426, ae_L_law_2431, ae_L_law_2442, ae_L_law_2454, ae_L_law_2462, ae_L_law_2464, s1, s2, T1, T2, x1, x2, x3, x4, i1, i2, i3, n1, n2, n3, e1, am_bnx_k, am_add_00, am_bnx_v, am_tl_s, am_tl_n, am_rv_s, e2, mc_thrown, ht, not_true_eq_false, not_false_eq_true, if_true, if_false, am_1n0, or_true, true_or, eq_self, Bool.true_eq_false, Bool.false_eq_true, cond_true, cond_false, hk]
theorem ls_account {bd Lx j : Nat} {xs : Nat → Int32} {M : am_M} {o6 o7 o8 : Option Value} (hI : av_I bd Lx xs M) (hbd : bd + 1240 < 1000000000) (hj : j + 4 ≤ Lx) (hL : Lx ≤ 2048) : lw_S bd Lx xs j (am_val iL_law 2467 [some (.ref (am_c 0 44)), some (.ref (am_c 0 12)), some (.ref (am_c 274 13)), some (.ref (am_c 282 27)), some (.ref (am_c 283 28)), some (.int (nI j)), o6, o7, o8] [] M) := by
  obtain ⟨x1, x2, x3, x4, i1, i2, i3, n1, n2, n3⟩ := lw_x hj hL
  have s1 : M.2.2.2.2.2.1 = Lx := by rw [hI.2]
  have s2 : M.2.2.2.2.2.2 = xs := by rw [hI.2]
  obtain ⟨k, M1, a, b, w, M2, e1, ha, hb, e2, ht, hv, hI2, hs1⟩ := op_account (a := xs (j + 1)) hI
  have T1 : M1.2.2.2.2.2.1 = Lx := by rw [hs1]
  have T2 : M1.2.2.2.2.2.2 = xs := by rw [hs1]
  refine ⟨M2, some (.int k), some (.int w), o8, a, b, ha, hb, av_I_m hI2 (by omega), ?_⟩
  by_cases hk : k = 0
  · have hv := hv hk
    simp only [ae_L_law_2467, ae_L_law_2478, ae_L_law_2490, ae_L_law_2496, ae_L_law_2501, ae_L_law_2503, ae_L_law_2508, ae_L_law_2518, ae_L_law_2520, s1, s2, T1, T2, x1, x2, x3, x4, i1, i2, i3, n1, n2, n3, e1, am_bnx_k, am_add_00, am_bnx_v, am_tl_s, am_tl_n, am_rv_s, e2, mc_thrown, ht, not_true_eq_false, not_false_eq_true, if_true, if_false, am_1n0, or_true, true_or, eq_self, Bool.true_eq_false, Bool.false_eq_true, cond_true, cond_false, hk, hv, lg_z]
  · simp only [ae_L_law_2467, ae_L_law_2478, ae_L_law_2490, ae_L_law_2496, ae_L_law_2501, ae_L_law_2503, ae_L_law_2508, ae_L_law_2518, ae_L_law_2520, s1, s2, T1, T2, x1, x2, x3, x4, i1, i2, i3, n1, n2, n3, e1, am_bnx_k, am_add_00, am_bnx_v, am_tl_s, am_tl_n, am_rv_s, e2, mc_thrown, ht, not_true_eq_false, not_false_eq_true, if_true, if_false, am_1n0, or_true, true_or, eq_self, Bool.true_eq_false, Bool.false_eq_true, cond_true, cond_false, hk]
theorem ls_undo {bd Lx j : Nat} {xs : Nat → Int32} {M : am_M} {o6 o7 o8 : Option Value} (hI : av_I bd Lx xs M) (hbd : bd + 1240 < 1000000000) (hj : j + 4 ≤ Lx) (hL : Lx ≤ 2048) : lw_S bd Lx xs j (am_val iL_law 2523 [some (.ref (am_c 0 44)), some (.ref (am_c 0 12)), some (.ref (am_c 274 13)), some (.ref (am_c 282 27)), some (.ref (am_c 283 28)), some (.int (nI j)), o6, o7, o8] [] M) := by
  obtain ⟨x1, x2, x3, x4, i1, i2, i3, n1, n2, n3⟩ := lw_x hj hL
  have s1 : M.2.2.2.2.2.1 = Lx := by rw [hI.2]
  have s2 : M.2.2.2.2.2.2 = xs := by rw [hI.2]
  obtain ⟨k, M1, a, b, w, M2, e1, ha, hb, e2, ht, hv, hI2, hs1⟩ := op_undo  hI
  have T1 : M1.2.2.2.2.2.1 = Lx := by rw [hs1]
  have T2 : M1.2.2.2.2.2.2 = xs := by rw [hs1]
  refine ⟨M2, some (.int k), some (.int w), o8, a, b, ha, hb, av_I_m hI2 (by omega), ?_⟩
  by_cases hk : k = 0
  · have hv := hv hk
    simp only [ae_L_law_2523, ae_L_law_2528, ae_L_law_2534, ae_L_law_2540, ae_L_law_2545, ae_L_law_2547, ae_L_law_2552, ae_L_law_2562, ae_L_law_2564, s1, s2, T1, T2, x1, x2, x3, x4, i1, i2, i3, n1, n2, n3, e1, am_bnx_k, am_add_00, am_bnx_v, am_tl_s, am_tl_n, am_rv_s, e2, mc_thrown, ht, not_true_eq_false, not_false_eq_true, if_true, if_false, am_1n0, or_true, true_or, eq_self, Bool.true_eq_false, Bool.false_eq_true, cond_true, cond_false, hk, hv, lg_z]
  · simp only [ae_L_law_2523, ae_L_law_2528, ae_L_law_2534, ae_L_law_2540, ae_L_law_2545, ae_L_law_2547, ae_L_law_2552, ae_L_law_2562, ae_L_law_2564, s1, s2, T1, T2, x1, x2, x3, x4, i1, i2, i3, n1, n2, n3, e1, am_bnx_k, am_add_00, am_bnx_v, am_tl_s, am_tl_n, am_rv_s, e2, mc_thrown, ht, not_true_eq_false, not_false_eq_true, if_true, if_false, am_1n0, or_true, true_or, eq_self, Bool.true_eq_false, Bool.false_eq_true, cond_true, cond_false, hk]
theorem ls_save {bd Lx j : Nat} {xs : Nat → Int32} {M : am_M} {o6 o7 o8 : Option Value} (hI : av_I bd Lx xs M) (hbd : bd + 1240 < 1000000000) (hj : j + 4 ≤ Lx) (hL : Lx ≤ 2048) : lw_S bd Lx xs j (am_val iL_law 2567 [some (.ref (am_c 0 44)), some (.ref (am_c 0 12)), some (.ref (am_c 274 13)), some (.ref (am_c 282 27)), some (.ref (am_c 283 28)), some (.int (nI j)), o6, o7, o8] [] M) := by
  obtain ⟨x1, x2, x3, x4, i1, i2, i3, n1, n2, n3⟩ := lw_x hj hL
  have s1 : M.2.2.2.2.2.1 = Lx := by rw [hI.2]
  have s2 : M.2.2.2.2.2.2 = xs := by rw [hI.2]
  obtain ⟨w, M1, M2, e1, e2, hI2, hs1⟩ := op_save  hI
  have T1 : M1.2.2.2.2.2.1 = Lx := by rw [hs1]
  have T2 : M1.2.2.2.2.2.2 = xs := by rw [hs1]
  refine ⟨M2, o6, o7, o8, 0, 0, Nat.zero_le _, Nat.zero_le _, av_I_m hI2 (by omega), ?_⟩
  rw [am_add_00]
  simp only [ae_L_law_2567, ae_L_law_2571, ae_L_law_2575, ae_L_law_2578, ae_L_law_2624, s1, s2, T1, T2, x1, x2, x3, x4, i1, i2, i3, n1, n2, n3, e1, am_bnx_k, am_add_00, am_bnx_v, am_tl_s, am_tl_n, am_rv_s, e2, not_true_eq_false, not_false_eq_true, if_true, if_false, am_1n0, or_true, true_or, eq_self, Bool.true_eq_false, Bool.false_eq_true, cond_true, cond_false]
theorem ls_restore {bd Lx j : Nat} {xs : Nat → Int32} {M : am_M} {o6 o7 o8 : Option Value} (hI : av_I bd Lx xs M) (hbd : bd + 1240 < 1000000000) (hj : j + 4 ≤ Lx) (hL : Lx ≤ 2048) : lw_S bd Lx xs j (am_val iL_law 2580 [some (.ref (am_c 0 44)), some (.ref (am_c 0 12)), some (.ref (am_c 274 13)), some (.ref (am_c 282 27)), some (.ref (am_c 283 28)), some (.int (nI j)), o6, o7, o8] [] M) := by
  obtain ⟨x1, x2, x3, x4, i1, i2, i3, n1, n2, n3⟩ := lw_x hj hL
  have s1 : M.2.2.2.2.2.1 = Lx := by rw [hI.2]
  have s2 : M.2.2.2.2.2.2 = xs := by rw [hI.2]
  obtain ⟨k, M1, a, b, w, M2, e1, ha, hb, e2, ht, hv, hI2, hs1⟩ := op_restore  hI
  have T1 : M1.2.2.2.2.2.1 = Lx := by rw [hs1]
  have T2 : M1.2.2.2.2.2.2 = xs := by rw [hs1]
  refine ⟨M2, some (.int k), some (.int w), o8, a, b, ha, hb, av_I_m hI2 (by omega), ?_⟩
  by_cases hk : k = 0
  · have hv := hv hk
    simp only [ae_L_law_2580, ae_L_law_2585, ae_L_law_2591, ae_L_law_2597, ae_L_law_2602, ae_L_law_2604, ae_L_law_2609, ae_L_law_2619, ae_L_law_2621, s1, s2, T1, T2, x1, x2, x3, x4, i1, i2, i3, n1, n2, n3, e1, am_bnx_k, am_add_00, am_bnx_v, am_tl_s, am_tl_n, am_rv_s, e2, mc_thrown, ht, not_true_eq_false, not_false_eq_true, if_true, if_false, am_1n0, or_true, true_or, eq_self, Bool.true_eq_false, Bool.false_eq_true, cond_true, cond_false, hk, hv, lg_z]
  · simp only [ae_L_law_2580, ae_L_law_2585, ae_L_law_2591, ae_L_law_2597, ae_L_law_2602, ae_L_law_2604, ae_L_law_2609, ae_L_law_2619, ae_L_law_2621, s1, s2, T1, T2, x1, x2, x3, x4, i1, i2, i3, n1, n2, n3, e1, am_bnx_k, am_add_00, am_bnx_v, am_tl_s, am_tl_n, am_rv_s, e2, mc_thrown, ht, not_true_eq_false, not_false_eq_true, if_true, if_false, am_1n0, or_true, true_or, eq_self, Bool.true_eq_false, Bool.false_eq_true, cond_true, cond_false, hk]
