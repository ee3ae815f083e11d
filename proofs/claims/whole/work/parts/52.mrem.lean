/-! the second implementation: what it remembers -/
theorem mc_remembers {D : Nat} {M : am_M} (hm : av_msh M.2.1 D) : ∃ M', am_val iX13_remembers 0 [some (.ref (am_c D 13)), none] [] M = some (.inl none, M', 0, 0) ∧ M'.2 = M.2 ∧ M'.1 (am_c D 13) 0 = 0 ∧ (∀ j, j < 120 → M'.1 (am_c (D + 2) 18) j = M.1 (am_c (D + 1) 18) j) ∧ ∀ x k j, k < 64 → ¬ (x = D ∧ k = 13 ∧ j = 0) → ¬ (x = D + 2 ∧ k = 18) → M'.1 (am_c x k) j = M.1 (am_c x k) j := by
  have key := av_lpr (H := fun k (X : am_M) _ => am_val iX13_remembers 7 [some (.ref (am_c D 13)), some (.int (nI k))] [] X)
    (P := fun k X => X.2 = M.2 ∧ X.1 (am_c D 13) 0 = 0 ∧ (∀ j, j < k → X.1 (am_c (D + 2) 18) j = M.1 (am_c (D + 1) 18) j) ∧ ∀ x q j, q < 64 → ¬ (x = D ∧ q = 13 ∧ j = 0) → ¬ (x = D + 2 ∧ q = 18) → X.1 (am_c x q) j = M.1 (am_c x q) j) (N := 120)
    (Q := fun t => ∃ M', t = some (.inl none, M', 0, 0) ∧ M'.2 = M.2 ∧ M'.1 (am_c D 13) 0 = 0 ∧ (∀ j, j < 120 → M'.1 (am_c (D + 2) 18) j = M.1 (am_c (D + 1) 18) j) ∧ ∀ x k j, k < 64 → ¬ (x = D ∧ k = 13 ∧ j = 0) → ¬ (x = D + 2 ∧ k = 18) → M'.1 (am_c x k) j = M.1 (am_c x k) j)
    (fun X o hP => by
      refine ⟨X, ?_, hP⟩
      rw [ae_X13_remembers_7, if_pos (show (120 : Int32) ≤ nI 120 by decide)]
      simp only [ae_X13_remembers_0, ae_X13_remembers_13, ae_X13_remembers_17, ae_X13_remembers_22, ae_X13_remembers_31])
    (fun k X o hk hP => by
      obtain ⟨p1, p2, p3, p4⟩ := hP
      have m1 : X.2.1 (am_c D 13) 1 = am_c (D + 1) 18 + 1 := by rw [p1]; exact hm.1
      have m2 : X.2.1 (am_c D 13) 2 = am_c (D + 2) 18 + 1 := by rw [p1]; exact hm.2.1
      have i0 := am_in_n hk (show 120 < 2147483648 by decide)
      have t0 := am_tn (show k < 2147483648 by omega)
      have r0 := p4 (D + 1) 18 k (by decide) (by omega) (by omega)
      refine ⟨av_i X (am_c (D + 2) 18) k (M.1 (am_c (D + 1) 18) k), none, ⟨p1, ?_, ?_, ?_⟩, ?_⟩
      · rw [← p2]
        exact am_up_a (am_c_ne (by decide) (by decide) (by omega))
      · intro j hj
        rw [av_is]
        by_cases hjk : j = k
        · rw [hjk, av_up_s]
        · rw [av_up_n hjk]; exact p3 j (by omega)
      · intro x q j hq h1 h2
        rw [← p4 x q j hq h1 h2]
        exact am_up_a (am_c_ne hq (by decide) (by omega))
      · rw [ae_X13_remembers_7, if_neg (show ¬ (120 : Int32) ≤ nI k from nI_ge (b := 120) hk (by decide))]
        simp only [ae_X13_remembers_0, ae_X13_remembers_13, ae_X13_remembers_17, ae_X13_remembers_22, ae_X13_remembers_31, am_bnx_v, am_bnx_e, am_tl_s, am_tl_n, am_rv_s, am_add_rx, m1, m2, i0, t0, r0, nI_1])
    120 0 (av_i M (am_c D 13) 0 0) none (by omega) ⟨rfl, av_iff, fun j hj => absurd hj (Nat.not_lt_zero _), fun x q j hq h1 _ => by
      show am_up M.1 (am_c D 13) 0 0 (am_c x q) j = _
      refine am_up_ak (fun hh => h1 ?_)
      have e := hh.1
      rw [am_c_inj hq (by decide)] at e
      exact ⟨e.1, e.2, hh.2⟩⟩
  obtain ⟨M', k1, k2⟩ := key
  have k1 : am_val iX13_remembers 7 [some (.ref (am_c D 13)), some (.int (nI 0))] [] (av_i M (am_c D 13) 0 0) = some (.inl none, M', 0, 0) := k1
  rw [nI_0] at k1
  exact ⟨M', by simp only [ae_X13_remembers_0, ae_X13_remembers_13, ae_X13_remembers_17, ae_X13_remembers_22, ae_X13_remembers_31, k1], k2⟩
