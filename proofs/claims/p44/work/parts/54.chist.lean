/-! the class's history: a ring of eight canyons -/
theorem av_jS {M : am_M} {a j : Nat} {v : Int32} : (av_i M a j v).1 a j = v := by
  show am_up M.1 a j v a j = v
  exact am_up_s
theorem av_jK {M : am_M} {a j k : Nat} {v : Int32} (h : ¬ k = j) : (av_i M a j v).1 a k = M.1 a k := by
  show am_up M.1 a j v a k = M.1 a k
  exact am_up_k h
def av_hsh (R : Nat → Nat → Nat) (h : Nat) : Prop := R (am_c h 3) 0 = am_c (h + 1) 24 + 1 ∧ ∀ j, j < 8 → R (am_c (h + 1) 24) j = am_c (h + 2 + 24 * j) 1 + 1
theorem av_rem8 {n : Nat} (h : n < 2147483648) : nI n - nI n / 8 * 8 = nI (n % 8) := pk_rem (d := 8) (by omega) (by decide) (by decide)
theorem ac_keep {h B ν κ : Nat} {rm rm' : Nat → Nat} {σ σ' : Nat → Int32} {L L' : List (Nat → Int32)} {M : am_M} (hs : av_hsh M.2.1 h) (hν : ν < 8) (hκ : κ ≤ 8) (h1 : M.1 (am_c h 3) 1 = nI ν) (h2 : M.1 (am_c h 3) 2 = nI κ) (hB : B + 24 ≤ h ∨ h + 194 ≤ B) (hC : av_C M (h + 2 + 24 * ν) rm σ L) (hC' : av_C M B rm' σ' L') :
    ∃ M', am_val iX3_keep 0 [some (.ref (am_c h 3)), some (.ref (am_c B 1))] [] M = some (.inl none, M', 0, 0) ∧ av_C M' (h + 2 + 24 * ν) rm σ' L' ∧ M'.2 = M.2 ∧ M'.1 (am_c h 3) 1 = nI ((ν + 1) % 8) ∧ M'.1 (am_c h 3) 2 = nI (if κ = 8 then 8 else κ + 1) ∧ ∀ c k j, k < 64 → (c < h + 2 + 24 * ν ∨ h + 2 + 24 * ν + 24 ≤ c) → ¬ (c = h ∧ k = 3) → M'.1 (am_c c k) j = M.1 (am_c c k) j := by
  obtain ⟨M1, e1, c1, f1, r1⟩ := ac_take (by omega) hC hC'
  have g1 : M1.1 (am_c h 3) 1 = nI ν := by rw [(f1.2 h 3 1 (by decide) (by omega)).1]; exact h1
  have g2 : M1.1 (am_c h 3) 2 = nI κ := by rw [(f1.2 h 3 2 (by decide) (by omega)).1]; exact h2
  have hin := am_in_n hν (by decide)
  have htn := am_tn (show ν < 2147483648 by omega)
  have hne : ∀ c k f v, k < 64 → ¬ (c = h ∧ k = 3) → ∀ (X : am_M) j, (av_i X (am_c h 3) f v).1 (am_c c k) j = X.1 (am_c c k) j := fun c k f v hk hn X j => am_up_a (am_c_ne hk (by decide) hn)
  have g3 : ∀ v, (av_i M1 (am_c h 3) 1 v).1 (am_c h 3) 2 = nI κ := fun v => by
    rw [← g2]
    show am_up M1.1 (am_c h 3) 1 v (am_c h 3) 2 = _
    exact am_up_k (by decide)
  have hcnt : (if (8 : Int32) < nI (κ + 1) then 8 else nI (κ + 1)) = nI (if κ = 8 then 8 else κ + 1) := by
    by_cases hk8 : κ = 8
    · rw [if_pos hk8, if_pos (show (8 : Int32) < nI (κ + 1) from nI_lt (a := 8) (by omega) (by omega))]; rfl
    · rw [if_neg hk8, if_neg (show ¬ (8 : Int32) < nI (κ + 1) from nI_nlt (a := 8) (by omega) (by decide))]
  obtain ⟨X, hX⟩ : ∃ X, X = av_i (av_i M1 (am_c h 3) 1 (nI ((ν + 1) % 8))) (am_c h 3) 2 (nI (if κ = 8 then 8 else κ + 1)) := ⟨_, rfl⟩
  have fX : ∀ c k j, k < 64 → ¬ (c = h ∧ k = 3) → X.1 (am_c c k) j = M1.1 (am_c c k) j := fun c k j hk hn => by rw [hX, hne c k _ _ hk hn, hne c k _ _ hk hn]
  refine ⟨X, ?_, ?_, by rw [hX]; exact r1, ?_, ?_, fun c k j hk hc hn => ?_⟩
  · simp only [ae_X3_keep_0, ae_X3_keep_4, ae_X3_keep_9, ae_X3_keep_13, am_bnx_v, am_bnx_e, am_tl_s, am_tl_n, am_rv_s, am_add_rx, hs.1, h1, hin, htn, hs.2 ν hν, e1, g1, nI_1, av_rem8 (show ν + 1 < 2147483648 by omega), g3, hcnt, ← hX]
  · obtain ⟨⟨w, hrm, hpr⟩, ⟨n1, n2, n3, n4⟩, hW, hT, hN, hP, hS, hBo⟩ := c1
    have hX2 : X.2 = M1.2 := by rw [hX]; rfl
    refine ⟨⟨by rw [hX2]; exact w, by rw [hX2]; exact hrm, hpr⟩, ⟨n1, n2, n3, by rw [fX _ _ _ (by decide) (by omega)]; exact n4⟩, fun p hp => ?_, fun t ht => ?_, ?_, fun p hp w hw => ?_, fun k hk => ?_, fun a a1 a2 => ?_⟩
    · rw [fX _ _ _ (by decide) (by omega), fX _ _ _ (by decide) (by omega)]; exact hW p hp
    · rw [fX _ _ _ (by decide) (by omega), fX _ _ _ (by decide) (by omega), fX _ _ _ (by decide) (by omega)]; exact hT t ht
    · have e : ∀ f, X.1 (am_c (h + 2 + 24 * ν) 1) f = M1.1 (am_c (h + 2 + 24 * ν) 1) f := fun f => fX _ _ _ (by decide) (by omega)
      obtain ⟨b0, b1, b2, b3, b4, b5, b6, b7⟩ := hN
      exact ⟨(e _).trans b0, (e _).trans b1, (e _).trans b2, (e _).trans b3, (e _).trans b4, (e _).trans b5, (e _).trans b6, (e _).trans b7⟩
    · rw [fX _ _ _ (by decide) (by omega)]; exact hP p hp w hw
    · have e : ∀ f, X.1 (am_c (rm k) 8) f = M1.1 (am_c (rm k) 8) f := fun f => fX _ _ _ (by decide) (by omega)
      obtain ⟨b0, b1, b2, b3, b4⟩ := hS k hk
      exact ⟨(e _).trans b0, (e _).trans b1, (e _).trans b2, (e _).trans b3, (e _).trans b4⟩
    · rw [fX _ _ _ (by decide) (by omega)]; exact hBo a a1 a2
  · rw [hX, av_jK (by decide), av_jS]
  · rw [hX, av_jS]
  · rw [fX c k j hk hn]
    exact (f1.2 c k j hk hc).1
