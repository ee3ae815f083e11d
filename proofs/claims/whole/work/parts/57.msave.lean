/-! the second implementation: the snapshot -/
theorem mc_save {D : Nat} {M : am_M} (hm : av_msh M.2.1 D) : ∃ M', am_val iX13_save 0 [some (.ref (am_c D 13)), none] [] M = some (.inl (some (.int (M.1 (am_c (D + 1) 18) 0))), M', 0, 0) ∧ M'.2 = M.2 ∧ M'.1 (am_c D 13) 0 = 0 ∧ M'.1 (am_c D 13) 6 = 1 ∧ (∀ j, j < 120 → M'.1 (am_c (D + 3) 18) j = M.1 (am_c (D + 1) 18) j) ∧ ∀ c k j, k < 64 → ¬ (c = D ∧ k = 13 ∧ (j = 0 ∨ j = 6)) → ¬ (c = D + 3 ∧ k = 18) → M'.1 (am_c c k) j = M.1 (am_c c k) j := by
  obtain ⟨M0, hM0⟩ : ∃ M0, M0 = av_i M (am_c D 13) 0 0 := ⟨_, rfl⟩
  have h02 : M0.2 = M.2 := by rw [hM0]; rfl
  have hfr : ∀ c k j, k < 64 → ¬ (c = D ∧ k = 13 ∧ j = 0) → M0.1 (am_c c k) j = M.1 (am_c c k) j := by
    intro c k j hk hn
    rw [hM0]
    show am_up M.1 (am_c D 13) 0 0 (am_c c k) j = _
    refine am_up_ak (fun hh => hn ?_)
    have e := hh.1
    rw [am_c_inj hk (by decide)] at e
    exact ⟨e.1, e.2, hh.2⟩
  obtain ⟨X, k1, k2, k3, k4⟩ := av_cp (H := fun k X => am_val iX13_save 7 [some (.ref (am_c D 13)), some (.int (nI k))] [] X) (N := 120) (D1 := D + 3) (K1 := 18) (M := M0) (f := fun j => M.1 (am_c (D + 1) 18) j) (by decide) (by
    intro k X hk p1 p3
    have m1 : X.2.1 (am_c D 13) 1 = am_c (D + 1) 18 + 1 := by rw [p1, h02]; exact hm.1
    have m3 : X.2.1 (am_c D 13) 3 = am_c (D + 3) 18 + 1 := by rw [p1, h02]; exact hm.2.2.1
    have i0 := am_in_n hk (show 120 < 2147483648 by decide)
    have t0 := am_tn (show k < 2147483648 by omega)
    have r0 : X.1 (am_c (D + 1) 18) k = M.1 (am_c (D + 1) 18) k := by rw [p3 _ _ _ (by decide) (by omega), hfr _ _ _ (by decide) (by omega)]
    rw [ae_X13_save_7, if_neg (show ¬ (120 : Int32) ≤ nI k from nI_ge (b := 120) hk (by decide))]
    simp only [ae_X13_save_0, ae_X13_save_13, ae_X13_save_17, ae_X13_save_22, ae_X13_save_31, ae_X13_save_40, am_bnx_v, am_bnx_e, am_tl_s, am_tl_n, am_rv_s, am_add_rx, m1, m3, i0, t0, r0, nI_1])
  have k1 : am_val iX13_save 7 [some (.ref (am_c D 13)), some (.int (nI 0))] [] M0 = am_val iX13_save 7 [some (.ref (am_c D 13)), some (.int (nI 120))] [] X := k1
  have m1 : X.2.1 (am_c D 13) 1 = am_c (D + 1) 18 + 1 := by rw [k2, h02]; exact hm.1
  have s0 : (av_i X (am_c D 13) 6 1).1 (am_c (D + 1) 18) 0 = M.1 (am_c (D + 1) 18) 0 := by rw [av_isf, k4 _ _ _ (by decide) (by omega), hfr _ _ _ (by decide) (by omega)]
  refine ⟨av_i X (am_c D 13) 6 1, ?_, k2.trans h02, ?_, av_jS, fun j hj => ?_, fun c k j hk hn1 hn2 => ?_⟩
  · rw [nI_0, ae_X13_save_7 (x1 := nI 120), if_pos (show (120 : Int32) ≤ nI 120 by decide)] at k1
    simp only [ae_X13_save_0, ae_X13_save_13, ae_X13_save_17, ae_X13_save_22, ae_X13_save_31, ae_X13_save_40, ← hM0, k1]
    simp only [am_bnx_v, am_bnx_e, am_tl_s, am_tl_n, am_rv_s, am_add_rx, av_i2, m1, ae_X13_save_0, ae_X13_save_13, ae_X13_save_17, ae_X13_save_22, ae_X13_save_31, ae_X13_save_40, s0]
  · rw [av_jK (by decide), k4 _ _ _ (by decide) (by omega), hM0, av_jS]
  · rw [show (av_i X (am_c D 13) 6 1).1 (am_c (D + 3) 18) j = X.1 (am_c (D + 3) 18) j from am_up_a (am_c_ne (by decide) (by decide) (by omega)), k3, if_pos hj]
  · rw [show (av_i X (am_c D 13) 6 1).1 (am_c c k) j = X.1 (am_c c k) j from am_up_ak (fun hh => hn1 (by
      have e := hh.1
      rw [am_c_inj hk (by decide)] at e
      exact ⟨e.1, e.2, Or.inr hh.2⟩)), k4 c k j hk hn2, hfr c k j hk (fun hh => hn1 ⟨hh.1, hh.2.1, Or.inl hh.2.2⟩)]
