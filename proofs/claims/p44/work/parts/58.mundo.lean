/-! the second implementation: undo, restore -/
theorem mc_f0 {D : Nat} {M M0 : am_M} (hM0 : M0 = av_i M (am_c D 13) 0 0) : M0.2 = M.2 ∧ ∀ c k j, k < 64 → ¬ (c = D ∧ k = 13 ∧ j = 0) → M0.1 (am_c c k) j = M.1 (am_c c k) j := by
  refine ⟨by rw [hM0]; rfl, fun c k j hk hn => ?_⟩
  rw [hM0]
  show am_up M.1 (am_c D 13) 0 0 (am_c c k) j = _
  refine am_up_ak (fun hh => hn ?_)
  have e := hh.1
  rw [am_c_inj hk (by decide)] at e
  exact ⟨e.1, e.2, hh.2⟩
