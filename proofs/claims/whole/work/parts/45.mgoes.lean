/-! the second implementation: a sound goes -/
def av_fS (D : Nat) (M M' : am_M) : Prop := M'.2 = M.2 ∧ ∀ x k j, k < 64 → ¬ (x = D + 1 ∧ k = 18) → M'.1 (am_c x k) j = M.1 (am_c x k) j
theorem av_fS_0 {D : Nat} {M : am_M} : av_fS D M M := ⟨rfl, fun _ _ _ _ _ => rfl⟩
theorem av_fS_t {D : Nat} {M x y : am_M} (h : av_fS D M x) (h' : av_fS D x y) : av_fS D M y := ⟨h'.1.trans h.1, fun a k j h1 h2 => (h'.2 a k j h1 h2).trans (h.2 a k j h1 h2)⟩
theorem av_fS_s {D a : Nat} {x : Int32} {M : am_M} : av_fS D M (av_i M (am_c (D + 1) 18) a x) := ⟨rfl, fun _ _ _ hk h3 => am_up_a (am_c_ne hk (by decide) h3)⟩
theorem av_fS_fm {D : Nat} {M x : am_M} (h : av_fS D M x) : av_fm D M x := ⟨h.1, fun a k j h1 _ h3 => h.2 a k j h1 h3⟩
theorem av_fS_f {D f : Nat} {M x : am_M} (h : av_fS D M x) : x.1 (am_c D 13) f = M.1 (am_c D 13) f := h.2 _ _ _ (by decide) (by omega)
theorem mc_goes {D k : Nat} {σ : Nat → Int32} {L : List (Nat → Int32)} {M : am_M} (hm : av_msh M.2.1 D) (hr : av_mr (M.1 (am_c (D + 1) 18)) σ L) (hk : k < L.length) (hl : L.length ≤ 8) :
    ∃ M', am_val iX13_goes 0 [some (.ref (am_c D 13)), some (.int (nI k)), none, none] [] M = some (.inl none, M', 0, 0) ∧ av_mr (M'.1 (am_c (D + 1) 18)) σ (L.eraseIdx k) ∧ av_fS D M M' := by
  obtain ⟨m, hm1⟩ : ∃ m, L.length = m + 1 := ⟨L.length - 1, by omega⟩
  obtain ⟨s, hs⟩ : ∃ s, s = M.1 (am_c (D + 1) 18) := ⟨_, rfl⟩
  have x5 : ∀ q, (5 : Int32) * nI q = nI (5 * q) := fun q => by rw [show (5 : Int32) = nI 5 from rfl, pk_mul]
  have key1 := av_lpr (H := fun j (X : am_M) _ => am_val iX13_goes 13 [some (.ref (am_c D 13)), some (.int (nI k)), some (.int (nI m)), some (.int (nI j))] [] X)
    (P := fun j X => 5 * k ≤ j ∧ av_fS D M X ∧ ∀ i, X.1 (am_c (D + 1) 18) i = if 80 + 5 * k ≤ i ∧ i < 80 + j then s (i + 5) else s i) (N := 5 * m)
    (Q := fun t => ∃ X, t = am_val iX13_goes 48 [some (.ref (am_c D 13)), some (.int (nI k)), some (.int (nI m)), some (.int 0)] [] X ∧ av_fS D M X ∧ ∀ i, X.1 (am_c (D + 1) 18) i = if 80 + 5 * k ≤ i ∧ i < 80 + 5 * m then s (i + 5) else s i)
    (fun X o hP => by
      obtain ⟨_, g1, g2⟩ := hP
      refine ⟨X, ?_, g1, g2⟩
      rw [ae_X13_goes_13, x5, if_pos (av_he (by omega))]
      simp only [ae_X13_goes_0, ae_X13_goes_4, ae_X13_goes_20, ae_X13_goes_24, ae_X13_goes_32, ae_X13_goes_46, ae_X13_goes_53, ae_X13_goes_57, ae_X13_goes_73, ae_X13_goes_77])
    (fun j X o hj hP => by
      obtain ⟨g0, g1, g2⟩ := hP
      have m1 : X.2.1 (am_c D 13) 1 = am_c (D + 1) 18 + 1 := by rw [g1.1]; exact hm.1
      have y0 : (80 : Int32) + nI j = nI (80 + j) := by rw [show (80 : Int32) = nI 80 from rfl, nI_add]
      have y5 : nI (80 + j) + 5 = nI (80 + j + 5) := by rw [show (5 : Int32) = nI 5 from rfl, nI_add]
      have i0 := am_in_n (show 80 + j < 120 by omega) (by decide)
      have t0 := am_tn (show 80 + j < 2147483648 by omega)
      have i5 := am_in_n (show 80 + j + 5 < 120 by omega) (by decide)
      have t5 := am_tn (show 80 + j + 5 < 2147483648 by omega)
      refine ⟨av_i X (am_c (D + 1) 18) (80 + j) (X.1 (am_c (D + 1) 18) (80 + j + 5)), none, ⟨by omega, av_fS_t g1 av_fS_s, ?_⟩, ?_⟩
      · intro i
        rw [av_is]
        by_cases hi : i = 80 + j
        · rw [hi, av_up_s, g2, if_neg (by omega), if_pos (by omega)]
        · rw [av_up_n hi, g2]
          by_cases ha : 80 + 5 * k ≤ i ∧ i < 80 + j
          · rw [if_pos ha, if_pos (by omega)]
          · rw [if_neg ha, if_neg (by omega)]
      · rw [ae_X13_goes_13, x5, if_neg (av_hl hj (by omega))]
        simp only [ae_X13_goes_0, ae_X13_goes_4, ae_X13_goes_20, ae_X13_goes_24, ae_X13_goes_32, ae_X13_goes_46, ae_X13_goes_53, ae_X13_goes_57, ae_X13_goes_73, ae_X13_goes_77, am_bnx_v, am_bnx_e, am_tl_s, am_tl_n, am_rv_s, am_add_rx, m1, y0, y5, i0, t0, i5, t5, nI_1])
    (5 * m - 5 * k) (5 * k) M none (by omega) ⟨Nat.le_refl _, av_fS_0, fun i => by rw [if_neg (by omega), hs]⟩
  obtain ⟨X1, k1, g1, g2⟩ := key1
  have k1 : am_val iX13_goes 13 [some (.ref (am_c D 13)), some (.int (nI k)), some (.int (nI m)), some (.int (nI (5 * k)))] [] M = am_val iX13_goes 48 [some (.ref (am_c D 13)), some (.int (nI k)), some (.int (nI m)), some (.int 0)] [] X1 := k1
  have key2 := av_lpr (H := fun j (X : am_M) _ => am_val iX13_goes 48 [some (.ref (am_c D 13)), some (.int (nI k)), some (.int (nI m)), some (.int (nI j))] [] X)
    (P := fun j X => av_fS D M X ∧ ∀ i, X.1 (am_c (D + 1) 18) i = if 80 + 5 * m ≤ i ∧ i < 80 + 5 * m + j then 0 else X1.1 (am_c (D + 1) 18) i) (N := 5)
    (Q := fun t => ∃ X, t = some (.inl none, av_i X (am_c (D + 1) 18) 1 (nI m), 0, 0) ∧ av_fS D M X ∧ ∀ i, X.1 (am_c (D + 1) 18) i = if 80 + 5 * m ≤ i ∧ i < 80 + 5 * m + 5 then 0 else X1.1 (am_c (D + 1) 18) i)
    (fun X o hP => by
      obtain ⟨g3, g4⟩ := hP
      have m1 : X.2.1 (am_c D 13) 1 = am_c (D + 1) 18 + 1 := by rw [g3.1]; exact hm.1
      refine ⟨X, ?_, g3, g4⟩
      rw [ae_X13_goes_48, if_pos (show (5 : Int32) ≤ nI 5 by decide)]
      simp only [ae_X13_goes_0, ae_X13_goes_4, ae_X13_goes_20, ae_X13_goes_24, ae_X13_goes_32, ae_X13_goes_46, ae_X13_goes_53, ae_X13_goes_57, ae_X13_goes_73, ae_X13_goes_77, am_bnx_v, am_bnx_e, am_tl_s, am_tl_n, am_rv_s, am_add_rx, m1])
    (fun j X o hj hP => by
      obtain ⟨g3, g4⟩ := hP
      have m1 : X.2.1 (am_c D 13) 1 = am_c (D + 1) 18 + 1 := by rw [g3.1]; exact hm.1
      have y0 : nI (80 + 5 * m) + nI j = nI (80 + 5 * m + j) := by rw [nI_add]
      have i0 := am_in_n (show 80 + 5 * m + j < 120 by omega) (by decide)
      have t0 := am_tn (show 80 + 5 * m + j < 2147483648 by omega)
      refine ⟨av_i X (am_c (D + 1) 18) (80 + 5 * m + j) 0, none, ⟨av_fS_t g3 av_fS_s, ?_⟩, ?_⟩
      · intro i
        rw [av_is]
        by_cases hi : i = 80 + 5 * m + j
        · rw [hi, av_up_s, if_pos (by omega)]
        · rw [av_up_n hi, g4]
          by_cases ha : 80 + 5 * m ≤ i ∧ i < 80 + 5 * m + j
          · rw [if_pos ha, if_pos (by omega)]
          · rw [if_neg ha, if_neg (by omega)]
      · rw [ae_X13_goes_48, if_neg (show ¬ (5 : Int32) ≤ nI j from nI_ge (b := 5) hj (by decide))]
        simp only [ae_X13_goes_0, ae_X13_goes_4, ae_X13_goes_20, ae_X13_goes_24, ae_X13_goes_32, ae_X13_goes_46, ae_X13_goes_53, ae_X13_goes_57, ae_X13_goes_73, ae_X13_goes_77, am_bnx_v, am_bnx_e, am_tl_s, am_tl_n, am_rv_s, am_add_rx, m1, av_x80, y0, i0, t0, nI_1])
    5 0 X1 none (by omega) ⟨g1, fun i => by rw [if_neg (by omega)]⟩
  obtain ⟨X2, k2, g3, g4⟩ := key2
  have k2 : am_val iX13_goes 48 [some (.ref (am_c D 13)), some (.int (nI k)), some (.int (nI m)), some (.int (nI 0))] [] X1 = some (.inl none, av_i X2 (am_c (D + 1) 18) 1 (nI m), 0, 0) := k2
  rw [nI_0] at k2
  have hlen : (L.eraseIdx k).length = m := by rw [List.length_eraseIdx_of_lt hk]; omega
  refine ⟨av_i X2 (am_c (D + 1) 18) 1 (nI m), ?_, ⟨fun j hj hj1 => ?_, ?_, fun q hq w hw => ?_⟩, av_fS_t g3 av_fS_s⟩
  · have e1 : nI (m + 1) - 1 = nI m := nI_pred m
    simp only [ae_X13_goes_0, ae_X13_goes_4, ae_X13_goes_20, ae_X13_goes_24, ae_X13_goes_32, ae_X13_goes_46, ae_X13_goes_53, ae_X13_goes_57, ae_X13_goes_73, ae_X13_goes_77, am_bnx_v, am_bnx_e, am_tl_s, am_tl_n, am_rv_s, am_add_rx, hm.1, hr.2.1, hm1, e1, x5, k1, k2]
  · rw [av_is, av_up_n hj1, g4, if_neg (by omega), g2, if_neg (by omega), hs]
    exact hr.1 j hj hj1
  · rw [av_is, av_up_s, hlen]
  · rw [hlen] at hq
    rw [av_is, av_up_n (by omega), g4, if_neg (by omega), g2, av_s_er, hs]
    by_cases hqk : q < k
    · rw [if_pos hqk, if_neg (by omega)]
      exact hr.2.2 q (by omega) w hw
    · rw [if_neg hqk, if_pos (by omega), ← hr.2.2 (q + 1) (by omega) w hw, show 80 + 5 * q + w + 5 = 80 + 5 * (q + 1) + w by omega]
