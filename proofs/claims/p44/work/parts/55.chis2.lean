/-! the class's history: giving back -/
theorem av_C_c {B : Nat} {rm : Nat → Nat} {σ : Nat → Int32} {L : List (Nat → Int32)} {M X : am_M} (hC : av_C M B rm σ L) (h2 : X.2 = M.2) (h1 : ∀ c k j, k < 64 → B ≤ c → c < B + 24 → X.1 (am_c c k) j = M.1 (am_c c k) j) : av_C X B rm σ L := by
  obtain ⟨⟨w, hrm, hpr⟩, ⟨n1, n2, n3, n4⟩, hW, hT, hN, hP, hS, hBo⟩ := hC
  refine ⟨⟨by rw [h2]; exact w, by rw [h2]; exact hrm, hpr⟩, ⟨n1, n2, n3, by rw [h1 _ _ _ (by decide) (by omega) (by omega)]; exact n4⟩, fun p hp => ?_, fun t ht => ?_, ?_, fun p hp w hw => ?_, fun k hk => ?_, fun a a1 a2 => ?_⟩
  · rw [h1 _ _ _ (by decide) (by omega) (by omega), h1 _ _ _ (by decide) (by omega) (by omega)]; exact hW p hp
  · rw [h1 _ _ _ (by decide) (by omega) (by omega), h1 _ _ _ (by decide) (by omega) (by omega), h1 _ _ _ (by decide) (by omega) (by omega)]; exact hT t ht
  · have e : ∀ f, X.1 (am_c B 1) f = M.1 (am_c B 1) f := fun f => h1 _ _ _ (by decide) (by omega) (by omega)
    obtain ⟨b0, b1, b2, b3, b4, b5, b6, b7⟩ := hN
    exact ⟨(e _).trans b0, (e _).trans b1, (e _).trans b2, (e _).trans b3, (e _).trans b4, (e _).trans b5, (e _).trans b6, (e _).trans b7⟩
  · rw [h1 _ _ _ (by decide) (by omega) (by omega)]; exact hP p hp w hw
  · have q := hpr.1 k (by omega)
    have e : ∀ f, X.1 (am_c (rm k) 8) f = M.1 (am_c (rm k) 8) f := fun f => h1 _ _ _ (by decide) (by omega) (by omega)
    obtain ⟨b0, b1, b2, b3, b4⟩ := hS k hk
    exact ⟨(e _).trans b0, (e _).trans b1, (e _).trans b2, (e _).trans b3, (e _).trans b4⟩
  · rw [h1 _ _ _ (by decide) (by omega) (by omega)]; exact hBo a a1 a2
theorem ac_giveBack {h B ν κ : Nat} {rm rm' : Nat → Nat} {σ σ' : Nat → Int32} {L L' : List (Nat → Int32)} {M : am_M} (hs : av_hsh M.2.1 h) (hν : ν < 8) (hκ : κ < 8) (h1 : M.1 (am_c h 3) 1 = nI ν) (h2 : M.1 (am_c h 3) 2 = nI (κ + 1)) (hB : B + 24 ≤ h ∨ h + 194 ≤ B) (hC : av_C M B rm σ L) (hC' : av_C M (h + 2 + 24 * ((ν + 7) % 8)) rm' σ' L') :
    ∃ M', am_val iX3_giveBack 0 [some (.ref (am_c h 3)), some (.ref (am_c B 1))] [] M = some (.inl none, M', 0, 0) ∧ av_C M' B rm σ' L' ∧ M'.2 = M.2 ∧ M'.1 (am_c h 3) 1 = nI ((ν + 7) % 8) ∧ M'.1 (am_c h 3) 2 = nI κ ∧ ∀ c k j, k < 64 → (c < B ∨ B + 24 ≤ c) → ¬ (c = h ∧ k = 3) → M'.1 (am_c c k) j = M.1 (am_c c k) j := by
  obtain ⟨X, hX⟩ : ∃ X, X = av_i (av_i M (am_c h 3) 1 (nI ((ν + 7) % 8))) (am_c h 3) 2 (nI κ) := ⟨_, rfl⟩
  have hX2 : X.2 = M.2 := by rw [hX]; rfl
  have hne : ∀ c k f v, k < 64 → ¬ (c = h ∧ k = 3) → ∀ (Y : am_M) j, (av_i Y (am_c h 3) f v).1 (am_c c k) j = Y.1 (am_c c k) j := fun c k f v hk hn Y j => am_up_a (am_c_ne hk (by decide) hn)
  have fX : ∀ c k j, k < 64 → ¬ (c = h ∧ k = 3) → X.1 (am_c c k) j = M.1 (am_c c k) j := fun c k j hk hn => by rw [hX, hne c k _ _ hk hn, hne c k _ _ hk hn]
  have cX := av_C_c hC hX2 (fun c k j hk a1 a2 => fX c k j hk (by omega))
  have cX' := av_C_c hC' hX2 (fun c k j hk a1 a2 => fX c k j hk (by omega))
  obtain ⟨M1, e1, c1, f1, r1⟩ := ac_take (by omega) cX cX'
  have x1 : X.1 (am_c h 3) 1 = nI ((ν + 7) % 8) := by rw [hX, av_jK (by decide), av_jS]
  have x2 : X.1 (am_c h 3) 2 = nI κ := by rw [hX, av_jS]
  have hin := am_in_n (show (ν + 7) % 8 < 8 by omega) (by decide)
  have htn := am_tn (show (ν + 7) % 8 < 2147483648 by omega)
  have y8 : nI ν + 8 = nI (ν + 7 + 1) := by rw [show (8 : Int32) = nI 8 from rfl, nI_add]
  have y7 : nI (ν + 7 + 1) - 1 = nI (ν + 7) := nI_pred _
  have yk : nI (κ + 1) - 1 = nI κ := nI_pred _
  have hne0 : ¬ nI (κ + 1) = 0 := nI_ne0 (by omega) (by omega)
  have g3 : ∀ v, (av_i M (am_c h 3) 1 v).1 (am_c h 3) 2 = nI (κ + 1) := fun v => by rw [av_jK (by decide)]; exact h2
  have xr : X.2.1 (am_c h 3) 0 = am_c (h + 1) 24 + 1 := by rw [hX2]; exact hs.1
  have xk : X.2.1 (am_c (h + 1) 24) ((ν + 7) % 8) = am_c (h + 2 + 24 * ((ν + 7) % 8)) 1 + 1 := by rw [hX2]; exact hs.2 _ (by omega)
  refine ⟨M1, ?_, c1, r1.trans hX2, ?_, ?_, fun c k j hk hc hn => ?_⟩
  · simp only [ae_X3_giveBack_0, ae_X3_giveBack_7, ae_X3_giveBack_8, ae_X3_giveBack_39, ae_X3_giveBack_44, ae_X3_giveBack_47, am_bnx_v, am_bnx_e, am_tl_s, am_tl_n, am_rv_s, am_add_rx, h1, h2, hne0, not_true_eq_false, not_false_eq_true, if_true, if_false, am_1n0, or_true, true_or, eq_self, Bool.true_eq_false, Bool.false_eq_true, cond_true, cond_false, y8, y7, av_rem8 (show ν + 7 < 2147483648 by omega), g3, yk, ← hX, xr, x1, hin, htn, xk, e1]
  · rw [(f1.2 h 3 1 (by decide) (by omega)).1]; exact x1
  · rw [(f1.2 h 3 2 (by decide) (by omega)).1]; exact x2
  · rw [(f1.2 c k j hk hc).1]; exact fX c k j hk hn
