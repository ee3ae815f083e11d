/-! the second implementation: a change is kept -/
theorem mc_chgB {D κ : Nat} {x : Int32} {M : am_M} (hm : av_msh M.2.1 D) (h0 : 0 < κ) (h8 : κ ≤ 8) (hk : M.1 (am_c D 13) 5 = nI κ) : ∃ M', am_val iX13_changed 54 [some (.ref (am_c D 13)), some (.int x), some (.int 0)] [] M = some (.inl (some (.int x)), M', 0, 0) ∧ M'.2 = M.2 ∧ (∀ i, M'.1 (am_c (D + 4) 19) i = if 120 * (κ - 1) ≤ i ∧ i < 120 * (κ - 1) + 120 then M.1 (am_c (D + 2) 18) (i - 120 * (κ - 1)) else M.1 (am_c (D + 4) 19) i) ∧ ∀ c k j, k < 64 → ¬ (c = D + 4 ∧ k = 19) → M'.1 (am_c c k) j = M.1 (am_c c k) j := by
  obtain ⟨n, rfl⟩ : ∃ n, κ = n + 1 := ⟨κ - 1, by omega⟩
  rw [Nat.add_sub_cancel]
  have x120 : (120 : Int32) * (nI (n + 1) - 1) = nI (120 * n) := by rw [nI_pred, show (120 : Int32) = nI 120 from rfl, pk_mul]
  have key := av_lpr (H := fun k (X : am_M) _ => am_val iX13_changed 54 [some (.ref (am_c D 13)), some (.int x), some (.int (nI k))] [] X)
    (P := fun k X => X.2 = M.2 ∧ (∀ i, X.1 (am_c (D + 4) 19) i = if 120 * n ≤ i ∧ i < 120 * n + k then M.1 (am_c (D + 2) 18) (i - 120 * n) else M.1 (am_c (D + 4) 19) i) ∧ ∀ c k j, k < 64 → ¬ (c = D + 4 ∧ k = 19) → X.1 (am_c c k) j = M.1 (am_c c k) j) (N := 120)
    (Q := fun t => ∃ M', t = some (.inl (some (.int x)), M', 0, 0) ∧ M'.2 = M.2 ∧ (∀ i, M'.1 (am_c (D + 4) 19) i = if 120 * n ≤ i ∧ i < 120 * n + 120 then M.1 (am_c (D + 2) 18) (i - 120 * n) else M.1 (am_c (D + 4) 19) i) ∧ ∀ c k j, k < 64 → ¬ (c = D + 4 ∧ k = 19) → M'.1 (am_c c k) j = M.1 (am_c c k) j)
    (fun X o hP => by
      refine ⟨X, ?_, hP⟩
      rw [ae_X13_changed_54, if_pos (show (120 : Int32) ≤ nI 120 by decide)]
      simp only [ae_X13_changed_0, ae_X13_changed_9, ae_X13_changed_18, ae_X13_changed_22, ae_X13_changed_27, ae_X13_changed_39, ae_X13_changed_42, ae_X13_changed_60, ae_X13_changed_64, ae_X13_changed_79, ae_X13_changed_88])
    (fun k X o hkk hP => by
      obtain ⟨p1, p2, p3⟩ := hP
      have m4 : X.2.1 (am_c D 13) 4 = am_c (D + 4) 19 + 1 := by rw [p1]; exact hm.2.2.2.1
      have m2 : X.2.1 (am_c D 13) 2 = am_c (D + 2) 18 + 1 := by rw [p1]; exact hm.2.1
      have k5 : X.1 (am_c D 13) 5 = nI (n + 1) := by rw [p3 _ _ _ (by decide) (by omega)]; exact hk
      have r2 := p3 (D + 2) 18 k (by decide) (by omega)
      have y0 : nI (120 * n) + nI k = nI (120 * n + k) := by rw [nI_add]
      have i0 := am_in_n hkk (show 120 < 2147483648 by decide)
      have t0 := am_tn (show k < 2147483648 by omega)
      have i1 := am_in_n (show 120 * n + k < 960 by omega) (by decide)
      have t1 := am_tn (show 120 * n + k < 2147483648 by omega)
      refine ⟨av_i X (am_c (D + 4) 19) (120 * n + k) (M.1 (am_c (D + 2) 18) k), none, ⟨p1, ?_, ?_⟩, ?_⟩
      · intro i
        rw [av_is]
        by_cases hi : i = 120 * n + k
        · rw [hi, av_up_s, if_pos (by omega), show 120 * n + k - 120 * n = k by omega]
        · rw [av_up_n hi, p2]
          by_cases ha : 120 * n ≤ i ∧ i < 120 * n + k
          · rw [if_pos ha, if_pos (by omega)]
          · rw [if_neg ha, if_neg (by omega)]
      · intro c q j hq h1
        rw [← p3 c q j hq h1]
        exact am_up_a (am_c_ne hq (by decide) h1)
      · rw [ae_X13_changed_54, if_neg (show ¬ (120 : Int32) ≤ nI k from nI_ge (b := 120) hkk (by decide))]
        simp only [ae_X13_changed_0, ae_X13_changed_9, ae_X13_changed_18, ae_X13_changed_22, ae_X13_changed_27, ae_X13_changed_39, ae_X13_changed_42, ae_X13_changed_60, ae_X13_changed_64, ae_X13_changed_79, ae_X13_changed_88, am_bnx_v, am_bnx_e, am_tl_s, am_tl_n, am_rv_s, am_add_rx, m4, m2, k5, x120, y0, i0, t0, i1, t1, r2, nI_1])
    120 0 M none (by omega) ⟨rfl, fun i => by rw [if_neg (by omega)], fun _ _ _ _ _ => rfl⟩
  exact key
theorem mc_chgA {D : Nat} {x : Int32} {M : am_M} (hm : av_msh M.2.1 D) : ∃ M', am_val iX13_changed 11 [some (.ref (am_c D 13)), some (.int x), some (.int 0)] [] M = am_val iX13_changed 54 [some (.ref (am_c D 13)), some (.int x), some (.int 0)] [] (M') ∧ M'.2 = M.2 ∧ (∀ i, M'.1 (am_c (D + 4) 19) i = if i < 840 then M.1 (am_c (D + 4) 19) (i + 120) else M.1 (am_c (D + 4) 19) i) ∧ ∀ c k j, k < 64 → ¬ (c = D + 4 ∧ k = 19) → M'.1 (am_c c k) j = M.1 (am_c c k) j := by
  have key := av_lpr (H := fun k (X : am_M) _ => am_val iX13_changed 11 [some (.ref (am_c D 13)), some (.int x), some (.int (nI k))] [] X)
    (P := fun k X => X.2 = M.2 ∧ (∀ i, X.1 (am_c (D + 4) 19) i = if i < k then M.1 (am_c (D + 4) 19) (i + 120) else M.1 (am_c (D + 4) 19) i) ∧ ∀ c k j, k < 64 → ¬ (c = D + 4 ∧ k = 19) → X.1 (am_c c k) j = M.1 (am_c c k) j) (N := 840)
    (Q := fun t => ∃ M', t = am_val iX13_changed 54 [some (.ref (am_c D 13)), some (.int x), some (.int 0)] [] (M') ∧ M'.2 = M.2 ∧ (∀ i, M'.1 (am_c (D + 4) 19) i = if i < 840 then M.1 (am_c (D + 4) 19) (i + 120) else M.1 (am_c (D + 4) 19) i) ∧ ∀ c k j, k < 64 → ¬ (c = D + 4 ∧ k = 19) → M'.1 (am_c c k) j = M.1 (am_c c k) j)
    (fun X o hP => by
      refine ⟨X, ?_, hP⟩
      rw [ae_X13_changed_11, if_pos (show (840 : Int32) ≤ nI 840 by decide)]
      simp only [ae_X13_changed_0, ae_X13_changed_9, ae_X13_changed_18, ae_X13_changed_22, ae_X13_changed_27, ae_X13_changed_39, ae_X13_changed_42, ae_X13_changed_60, ae_X13_changed_64, ae_X13_changed_79, ae_X13_changed_88])
    (fun k X o hkk hP => by
      obtain ⟨p1, p2, p3⟩ := hP
      have m4 : X.2.1 (am_c D 13) 4 = am_c (D + 4) 19 + 1 := by rw [p1]; exact hm.2.2.2.1
      have y0 : nI k + 120 = nI (k + 120) := by rw [show (120 : Int32) = nI 120 from rfl, nI_add]
      have i0 := am_in_n (show k < 960 by omega) (by decide)
      have t0 := am_tn (show k < 2147483648 by omega)
      have i1 := am_in_n (show k + 120 < 960 by omega) (by decide)
      have t1 := am_tn (show k + 120 < 2147483648 by omega)
      have r1 : X.1 (am_c (D + 4) 19) (k + 120) = M.1 (am_c (D + 4) 19) (k + 120) := by rw [p2, if_neg (by omega)]
      refine ⟨av_i X (am_c (D + 4) 19) k (M.1 (am_c (D + 4) 19) (k + 120)), none, ⟨p1, ?_, ?_⟩, ?_⟩
      · intro i
        rw [av_is]
        by_cases hi : i = k
        · rw [hi, av_up_s, if_pos (by omega)]
        · rw [av_up_n hi, p2]
          by_cases ha : i < k
          · rw [if_pos ha, if_pos (by omega)]
          · rw [if_neg ha, if_neg (by omega)]
      · intro c q j hq h1
        rw [← p3 c q j hq h1]
        exact am_up_a (am_c_ne hq (by decide) h1)
      · rw [ae_X13_changed_11, if_neg (show ¬ (840 : Int32) ≤ nI k from nI_ge (b := 840) hkk (by decide))]
        simp only [ae_X13_changed_0, ae_X13_changed_9, ae_X13_changed_18, ae_X13_changed_22, ae_X13_changed_27, ae_X13_changed_39, ae_X13_changed_42, ae_X13_changed_60, ae_X13_changed_64, ae_X13_changed_79, ae_X13_changed_88, am_bnx_v, am_bnx_e, am_tl_s, am_tl_n, am_rv_s, am_add_rx, m4, y0, i0, t0, i1, t1, r1, nI_1])
    840 0 M none (by omega) ⟨rfl, fun i => by rw [if_neg (by omega)], fun _ _ _ _ _ => rfl⟩
  exact key
/-- the rows of what is kept: row q of kept -/
theorem mc_changed {D κ : Nat} {x : Int32} {M : am_M} (hm : av_msh M.2.1 D) (h8 : κ ≤ 8) (hk : M.1 (am_c D 13) 5 = nI κ) : ∃ M' κ', am_val iX13_changed 0 [some (.ref (am_c D 13)), some (.int x), none] [] M = some (.inl (some (.int x)), M', 0, 0) ∧ M'.2 = M.2 ∧ κ' = (if κ = 8 then 8 else κ + 1) ∧ M'.1 (am_c D 13) 5 = nI κ' ∧ (∀ j, j < 120 → M'.1 (am_c (D + 4) 19) (120 * (κ' - 1) + j) = M.1 (am_c (D + 2) 18) j) ∧ (∀ i, i < 120 * (κ' - 1) → M'.1 (am_c (D + 4) 19) i = M.1 (am_c (D + 4) 19) (if κ = 8 then i + 120 else i)) ∧
    ∀ c k j, k < 64 → ¬ (c = D + 4 ∧ k = 19) → ¬ (c = D ∧ k = 13 ∧ j = 5) → M'.1 (am_c c k) j = M.1 (am_c c k) j := by
  by_cases h : κ = 8
  · obtain ⟨M1, a1, a2, a3, a4⟩ := mc_chgA (x := x) hm
    have hk1 : M1.1 (am_c D 13) 5 = nI 8 := by rw [a4 _ _ _ (by decide) (by omega), hk, h]
    obtain ⟨M2, b1, b2, b3, b4⟩ := mc_chgB (κ := 8) (x := x) (by rw [a2]; exact hm) (by decide) (by decide) hk1
    refine ⟨M2, 8, ?_, b2.trans a2, by rw [if_pos h], ?_, ?_, ?_, fun c k j hc h1 _ => (b4 c k j hc h1).trans (a4 c k j hc h1)⟩
    · have e8 : nI κ = 8 := by rw [h]; rfl
      simp only [ae_X13_changed_0, ae_X13_changed_9, ae_X13_changed_18, ae_X13_changed_22, ae_X13_changed_27, ae_X13_changed_39, ae_X13_changed_42, ae_X13_changed_60, ae_X13_changed_64, ae_X13_changed_79, ae_X13_changed_88, hk, e8, not_true_eq_false, not_false_eq_true, if_true, if_false, am_1n0, or_true, true_or, eq_self, Bool.true_eq_false, Bool.false_eq_true, cond_true, cond_false, a1, b1]
    · rw [b4 _ _ _ (by decide) (by omega)]; exact hk1
    · intro j hj
      rw [b3, if_pos (by omega), show 120 * (8 - 1) + j - 120 * (8 - 1) = j by omega]
      exact a4 _ _ _ (by decide) (by omega)
    · intro i hi
      rw [b3, if_neg (by omega), a3, if_pos (by omega), if_pos h]
  · have hne : ¬ nI κ = 8 := fun hc => h ((nI_eq (b := 8) (by omega) (by decide)).mp hc)
    obtain ⟨M2, b1, b2, b3, b4⟩ := mc_chgB (κ := κ + 1) (x := x) (M := av_i M (am_c D 13) 5 (nI (κ + 1))) hm (by omega) (by omega) av_iff
    have e19 : ∀ i, (av_i M (am_c D 13) 5 (nI (κ + 1))).1 (am_c (D + 4) 19) i = M.1 (am_c (D + 4) 19) i := fun i => am_up_a (am_c_ne (by decide) (by decide) (by omega))
    have e18 : ∀ i, (av_i M (am_c D 13) 5 (nI (κ + 1))).1 (am_c (D + 2) 18) i = M.1 (am_c (D + 2) 18) i := fun i => am_up_a (am_c_ne (by decide) (by decide) (by omega))
    refine ⟨M2, κ + 1, ?_, b2, by rw [if_neg h], ?_, ?_, ?_, fun c k j hc h1 h2 => ?_⟩
    · simp only [ae_X13_changed_0, ae_X13_changed_9, ae_X13_changed_18, ae_X13_changed_22, ae_X13_changed_27, ae_X13_changed_39, ae_X13_changed_42, ae_X13_changed_60, ae_X13_changed_64, ae_X13_changed_79, ae_X13_changed_88, hk, hne, not_true_eq_false, not_false_eq_true, if_true, if_false, am_1n0, or_true, true_or, eq_self, Bool.true_eq_false, Bool.false_eq_true, cond_true, cond_false, nI_1, b1]
    · rw [b4 _ _ _ (by decide) (by omega)]; exact av_iff
    · intro j hj
      rw [b3, if_pos (by omega), e18, show 120 * (κ + 1 - 1) + j - 120 * (κ + 1 - 1) = j by omega]
    · intro i hi
      rw [b3, if_neg (by omega), e19, if_neg h]
    · rw [b4 c k j hc h1]
      show am_up M.1 (am_c D 13) 5 (nI (κ + 1)) (am_c c k) j = _
      refine am_up_ak (fun hh => h2 ?_)
      have e := hh.1
      rw [am_c_inj hc (by decide)] at e
      exact ⟨e.1, e.2, hh.2⟩
