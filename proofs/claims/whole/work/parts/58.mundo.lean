/-! the second implementation: undo, restore -/
theorem mc_f0 {D : Nat} {M M0 : am_M} (hM0 : M0 = av_i M (am_c D 13) 0 0) : M0.2 = M.2 ∧ ∀ c k j, k < 64 → ¬ (c = D ∧ k = 13 ∧ j = 0) → M0.1 (am_c c k) j = M.1 (am_c c k) j := by
  refine ⟨by rw [hM0]; rfl, fun c k j hk hn => ?_⟩
  rw [hM0]
  show am_up M.1 (am_c D 13) 0 0 (am_c c k) j = _
  refine am_up_ak (fun hh => hn ?_)
  have e := hh.1
  rw [am_c_inj hk (by decide)] at e
  exact ⟨e.1, e.2, hh.2⟩
theorem mc_undo {D κ : Nat} {M : am_M} (hm : av_msh M.2.1 D) (hκ : κ < 8) (hk : M.1 (am_c D 13) 5 = nI (κ + 1)) : ∃ M', am_val iX13_undo 0 [some (.ref (am_c D 13)), none] [] M = some (.inl (some (.int (nI κ))), M', 0, 0) ∧ M'.2 = M.2 ∧ M'.1 (am_c D 13) 0 = 0 ∧ M'.1 (am_c D 13) 5 = nI κ ∧ (∀ j, j < 120 → M'.1 (am_c (D + 1) 18) j = M.1 (am_c (D + 4) 19) (120 * κ + j)) ∧ ∀ c k j, k < 64 → ¬ (c = D ∧ k = 13 ∧ (j = 0 ∨ j = 5)) → ¬ (c = D + 1 ∧ k = 18) → M'.1 (am_c c k) j = M.1 (am_c c k) j := by
  obtain ⟨M0, hM0⟩ : ∃ M0, M0 = av_i M (am_c D 13) 0 0 := ⟨_, rfl⟩
  obtain ⟨h02, hfr⟩ := mc_f0 hM0
  have k5 : M0.1 (am_c D 13) 5 = nI (κ + 1) := by rw [hfr _ _ _ (by decide) (by omega)]; exact hk
  obtain ⟨M1, hM1⟩ : ∃ M1, M1 = av_i M0 (am_c D 13) 5 (nI κ) := ⟨_, rfl⟩
  have h12 : M1.2 = M.2 := by rw [hM1]; exact h02
  have hfr1 : ∀ c k j, k < 64 → ¬ (c = D ∧ k = 13 ∧ (j = 0 ∨ j = 5)) → M1.1 (am_c c k) j = M.1 (am_c c k) j := by
    intro c k j hk hn
    rw [hM1, show (av_i M0 (am_c D 13) 5 (nI κ)).1 (am_c c k) j = M0.1 (am_c c k) j from am_up_ak (fun hh => hn (by
      have e := hh.1
      rw [am_c_inj hk (by decide)] at e
      exact ⟨e.1, e.2, Or.inr hh.2⟩))]
    exact hfr c k j hk (fun hh => hn ⟨hh.1, hh.2.1, Or.inl hh.2.2⟩)
  have x120 : (120 : Int32) * nI κ = nI (120 * κ) := by rw [show (120 : Int32) = nI 120 from rfl, pk_mul]
  obtain ⟨X, k1, k2, k3, k4⟩ := av_cp (H := fun k X => am_val iX13_undo 30 [some (.ref (am_c D 13)), some (.int (nI k))] [] X) (N := 120) (D1 := D + 1) (K1 := 18) (M := M1) (f := fun j => M.1 (am_c (D + 4) 19) (120 * κ + j)) (by decide) (by
    intro k X hk p1 p3
    have m1 : X.2.1 (am_c D 13) 1 = am_c (D + 1) 18 + 1 := by rw [p1, h12]; exact hm.1
    have m4 : X.2.1 (am_c D 13) 4 = am_c (D + 4) 19 + 1 := by rw [p1, h12]; exact hm.2.2.2.1
    have i0 := am_in_n hk (show 120 < 2147483648 by decide)
    have t0 := am_tn (show k < 2147483648 by omega)
    have y0 : nI (120 * κ) + nI k = nI (120 * κ + k) := by rw [nI_add]
    have i1 := am_in_n (show 120 * κ + k < 960 by omega) (by decide)
    have t1 := am_tn (show 120 * κ + k < 2147483648 by omega)
    have kx : X.1 (am_c D 13) 5 = nI κ := by rw [p3 _ _ _ (by decide) (by omega), hM1, av_jS]
    have r0 : X.1 (am_c (D + 4) 19) (120 * κ + k) = M.1 (am_c (D + 4) 19) (120 * κ + k) := by rw [p3 _ _ _ (by decide) (by omega), hfr1 _ _ _ (by decide) (by omega)]
    rw [ae_X13_undo_30, if_neg (show ¬ (120 : Int32) ≤ nI k from nI_ge (b := 120) hk (by decide))]
    simp only [ae_X13_undo_0, ae_X13_undo_12, ae_X13_undo_17, ae_X13_undo_18, ae_X13_undo_36, ae_X13_undo_40, ae_X13_undo_45, ae_X13_undo_62, am_bnx_v, am_bnx_e, am_tl_s, am_tl_n, am_rv_s, am_add_rx, m1, m4, kx, x120, y0, i0, t0, i1, t1, r0, nI_1])
  have k1 : am_val iX13_undo 30 [some (.ref (am_c D 13)), some (.int (nI 0))] [] M1 = am_val iX13_undo 30 [some (.ref (am_c D 13)), some (.int (nI 120))] [] X := k1
  have kX : X.1 (am_c D 13) 5 = nI κ := by rw [k4 _ _ _ (by decide) (by omega), hM1, av_jS]
  have hne : ¬ nI (κ + 1) = 0 := nI_ne0 (by omega) (by omega)
  have hpr : nI (κ + 1) - 1 = nI κ := nI_pred κ
  refine ⟨X, ?_, k2.trans h12, ?_, kX, fun j hj => by rw [k3, if_pos hj], fun c k j hk hn1 hn2 => by rw [k4 c k j hk hn2, hfr1 c k j hk hn1]⟩
  · rw [nI_0, ae_X13_undo_30 (x1 := nI 120), if_pos (show (120 : Int32) ≤ nI 120 by decide)] at k1
    simp only [ae_X13_undo_0, ae_X13_undo_12, ae_X13_undo_17, ae_X13_undo_18, ae_X13_undo_36, ae_X13_undo_40, ae_X13_undo_45, ae_X13_undo_62, ← hM0, k5, hne, not_true_eq_false, not_false_eq_true, if_true, if_false, am_1n0, or_true, true_or, eq_self, Bool.true_eq_false, Bool.false_eq_true, cond_true, cond_false, hpr, ← hM1, k1, kX]
  · rw [k4 _ _ _ (by decide) (by omega), hM1, av_jK (by decide), hM0, av_jS]
