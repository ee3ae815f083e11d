/-! the second implementation: restore -/
theorem mc_restore {D : Nat} {M : am_M} (hm : av_msh M.2.1 D) (h6 : M.1 (am_c D 13) 6 = 1) : ∃ M', am_val iX13_restore 0 [some (.ref (am_c D 13)), none] [] M = some (.inl (some (.int (M.1 (am_c (D + 3) 18) 0))), M', 0, 0) ∧ M'.2 = M.2 ∧ M'.1 (am_c D 13) 0 = 0 ∧ M'.1 (am_c D 13) 5 = 0 ∧ (∀ j, j < 120 → M'.1 (am_c (D + 1) 18) j = M.1 (am_c (D + 3) 18) j) ∧ ∀ c k j, k < 64 → ¬ (c = D ∧ k = 13 ∧ (j = 0 ∨ j = 5)) → ¬ (c = D + 1 ∧ k = 18) → M'.1 (am_c c k) j = M.1 (am_c c k) j := by
  obtain ⟨M0, hM0⟩ : ∃ M0, M0 = av_i M (am_c D 13) 0 0 := ⟨_, rfl⟩
  obtain ⟨h02, hfr⟩ := mc_f0 hM0
  have k6 : M0.1 (am_c D 13) 6 = 1 := by rw [hfr _ _ _ (by decide) (by omega)]; exact h6
  obtain ⟨X, k1, k2, k3, k4⟩ := av_cp (H := fun k X => am_val iX13_restore 20 [some (.ref (am_c D 13)), some (.int (nI k))] [] X) (N := 120) (D1 := D + 1) (K1 := 18) (M := M0) (f := fun j => M.1 (am_c (D + 3) 18) j) (by decide) (by
    intro k X hk p1 p3
    have m1 : X.2.1 (am_c D 13) 1 = am_c (D + 1) 18 + 1 := by rw [p1, h02]; exact hm.1
    have m3 : X.2.1 (am_c D 13) 3 = am_c (D + 3) 18 + 1 := by rw [p1, h02]; exact hm.2.2.1
    have i0 := am_in_n hk (show 120 < 2147483648 by decide)
    have t0 := am_tn (show k < 2147483648 by omega)
    have r0 : X.1 (am_c (D + 3) 18) k = M.1 (am_c (D + 3) 18) k := by rw [p3 _ _ _ (by decide) (by omega), hfr _ _ _ (by decide) (by omega)]
    rw [ae_X13_restore_20, if_neg (show ¬ (120 : Int32) ≤ nI k from nI_ge (b := 120) hk (by decide))]
    simp only [ae_X13_restore_0, ae_X13_restore_12, ae_X13_restore_17, ae_X13_restore_18, ae_X13_restore_26, ae_X13_restore_30, ae_X13_restore_35, ae_X13_restore_44, ae_X13_restore_53, am_bnx_v, am_bnx_e, am_tl_s, am_tl_n, am_rv_s, am_add_rx, m1, m3, i0, t0, r0, nI_1])
  have k1 : am_val iX13_restore 20 [some (.ref (am_c D 13)), some (.int (nI 0))] [] M0 = am_val iX13_restore 20 [some (.ref (am_c D 13)), some (.int (nI 120))] [] X := k1
  have m1 : X.2.1 (am_c D 13) 1 = am_c (D + 1) 18 + 1 := by rw [k2, h02]; exact hm.1
  have s0 : (av_i X (am_c D 13) 5 0).1 (am_c (D + 1) 18) 0 = M.1 (am_c (D + 3) 18) 0 := by rw [av_isf, k3, if_pos (by decide)]
  refine ⟨av_i X (am_c D 13) 5 0, ?_, k2.trans h02, ?_, av_jS, fun j hj => by rw [av_isf, k3, if_pos hj], fun c k j hk hn1 hn2 => ?_⟩
  · rw [nI_0, ae_X13_restore_20 (x1 := nI 120), if_pos (show (120 : Int32) ≤ nI 120 by decide)] at k1
    simp only [ae_X13_restore_0, ae_X13_restore_12, ae_X13_restore_17, ae_X13_restore_18, ae_X13_restore_26, ae_X13_restore_30, ae_X13_restore_35, ae_X13_restore_44, ae_X13_restore_53, ← hM0, k6, not_true_eq_false, not_false_eq_true, if_true, if_false, am_1n0, or_true, true_or, eq_self, Bool.true_eq_false, Bool.false_eq_true, cond_true, cond_false, k1]
    simp only [am_bnx_v, am_bnx_e, am_tl_s, am_tl_n, am_rv_s, am_add_rx, av_i2, m1, ae_X13_restore_0, ae_X13_restore_12, ae_X13_restore_17, ae_X13_restore_18, ae_X13_restore_26, ae_X13_restore_30, ae_X13_restore_35, ae_X13_restore_44, ae_X13_restore_53, s0]
  · rw [av_jK (by decide), k4 _ _ _ (by decide) (by omega), hM0, av_jS]
  · rw [show (av_i X (am_c D 13) 5 0).1 (am_c c k) j = X.1 (am_c c k) j from am_up_ak (fun hh => hn1 (by
      have e := hh.1
      rw [am_c_inj hk (by decide)] at e
      exact ⟨e.1, e.2, Or.inr hh.2⟩)), k4 c k j hk hn2, hfr c k j hk (fun hh => hn1 ⟨hh.1, hh.2.1, Or.inl hh.2.2⟩)]
