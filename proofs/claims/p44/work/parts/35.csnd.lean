/-! rooms that change places, sounds that go -/
theorem av_s_set {L : List (Nat → Int32)} {s : Nat → Int32} {k q : Nat} (h : k < L.length) : av_s (L.set k s) q = if q = k then s else av_s L q := by
  unfold av_s
  simp only [List.getD_eq_getElem?_getD, List.getElem?_set]
  by_cases hq : q = k
  · subst hq
    simp [h]
  · rw [if_neg hq, if_neg (fun h => hq h.symm)]
theorem av_s_er {L : List (Nat → Int32)} {j q : Nat} : av_s (L.eraseIdx j) q = if q < j then av_s L q else av_s L (q + 1) := by
  unfold av_s
  simp only [List.getD_eq_getElem?_getD, List.getElem?_eraseIdx]
  by_cases hq : q < j
  · rw [if_pos hq, if_pos hq]
  · rw [if_neg hq, if_neg hq]
theorem av_shp_r {R : Nat → Nat → Nat} {B c k j x : Nat} (hk : k < 64) (h1 : k ≠ 1) (h2 : k ≠ 11) (h3 : k ≠ 9) (h4 : k ≠ 25) (h : av_shp R B) : av_shp (am_up R (am_c c k) j x) B := by
  obtain ⟨w0, w1, w2, w3, w4, w5, w6, w7, w8, w9⟩ := h
  have e : ∀ i k', k' < 64 → k' ≠ k → ∀ q, am_up R (am_c c k) j x (am_c i k') q = R (am_c i k') q := fun i k' hk' hn q => am_up_a (am_c_ne hk' hk (by omega))
  have e1 := fun i => e i 1 (by decide) (Ne.symm h1)
  have e2 := fun i => e i 11 (by decide) (Ne.symm h2)
  have e3 := fun i => e i 9 (by decide) (Ne.symm h3)
  have e4 := fun i => e i 25 (by decide) (Ne.symm h4)
  exact ⟨(e1 _ _).trans w0, (e1 _ _).trans w1, (e1 _ _).trans w2, (e1 _ _).trans w3, (e2 _ _).trans w4, (e2 _ _).trans w5, (e3 _ _).trans w6, (e3 _ _).trans w7, (e3 _ _).trans w8, fun p hp => (e4 _ _).trans (w9 p hp)⟩
/-- removeSound's loop -/
def av_sh (rm : Nat → Nat) (j k q : Nat) : Nat := if j ≤ q ∧ q < k then rm (q + 1) else rm q
def av_rm2 (rm : Nat → Nat) (j n q : Nat) : Nat := if j ≤ q ∧ q + 1 < n then rm (q + 1) else if q + 1 = n then rm j else rm q
def av_pi (j n q : Nat) : Nat := if j ≤ q ∧ q + 1 < n then q + 1 else if q + 1 = n then j else q
theorem av_pi_s (j n q : Nat) : (j ≤ q ∧ q + 1 < n ∧ av_pi j n q = q + 1) ∨ (¬ (j ≤ q ∧ q + 1 < n) ∧ q + 1 = n ∧ av_pi j n q = j) ∨ (¬ (j ≤ q ∧ q + 1 < n) ∧ ¬ q + 1 = n ∧ av_pi j n q = q) := by
  unfold av_pi
  by_cases h : j ≤ q ∧ q + 1 < n
  · rw [if_pos h]; exact Or.inl ⟨h.1, h.2, rfl⟩
  · rw [if_neg h]
    by_cases h2 : q + 1 = n
    · rw [if_pos h2]; exact Or.inr (Or.inl ⟨h, h2, rfl⟩)
    · rw [if_neg h2]; exact Or.inr (Or.inr ⟨h, h2, rfl⟩)
theorem av_rm2_pi (rm : Nat → Nat) (j n q : Nat) : av_rm2 rm j n q = rm (av_pi j n q) := by
  unfold av_rm2 av_pi
  by_cases h : j ≤ q ∧ q + 1 < n
  · rw [if_pos h, if_pos h]
  · rw [if_neg h, if_neg h]
    by_cases h2 : q + 1 = n
    · rw [if_pos h2, if_pos h2]
    · rw [if_neg h2, if_neg h2]
theorem ac_removeSound {B : Nat} {rm : Nat → Nat} {σ : Nat → Int32} {L : List (Nat → Int32)} {j : Nat} {M : am_M} (hj : j < L.length) (hC : av_C M B rm σ L) : ∃ M', am_val iX1_removeSound 0 [some (.ref (am_c B 1)), some (.int (nI j)), none, none] [] M = some (.inl none, M', 0, 0) ∧ av_C M' B (av_rm2 rm j L.length) σ (L.eraseIdx j) ∧ av_fr M M' B := by
  have hC0 := hC
  obtain ⟨⟨⟨w0, w1, w2, w3, w4, w5, w6, w7, w8, w9⟩, hrm, hpr⟩, ⟨hnp, hs0, hln, hct⟩, hW, hT, hN, hP, hS, hB⟩ := hC
  have hin := am_in_n (show j < 8 by omega) (by decide)
  have htn := am_tn (show j < 2147483648 by omega)
  have key := av_lpr (H := fun k (x : am_M) _ => am_val iX1_removeSound 9 [some (.ref (am_c B 1)), some (.int (nI j)), some (.ref (am_c (rm j) 8)), some (.int (nI k))] [] x)
    (P := fun k x => j ≤ k ∧ x.1 = M.1 ∧ x.2.2 = M.2.2 ∧ av_shp x.2.1 B ∧ (∀ q, q < 8 → x.2.1 (am_c (B + 9) 26) q = am_c (av_sh rm j k q) 8 + 1) ∧ av_fr M x B) (N := L.length - 1)
    (Q := fun t => ∃ M', t = some (.inl none, M', 0, 0) ∧ M'.1 = am_up M.1 (am_c B 1) 5 (nI (L.length - 1)) ∧ av_shp M'.2.1 B ∧ av_rms M'.2.1 B (av_rm2 rm j L.length) ∧ av_fr M M' B)
    (fun x o hP => by
      obtain ⟨p0, p1, p2, p3, p4, p5⟩ := hP
      have hc5 : x.1 (am_c B 1) 5 = nI L.length := by rw [p1]; exact hct
      have hn1 : nI L.length - 1 = nI (L.length - 1) := by
        obtain ⟨n, hn⟩ : ∃ n, L.length = n + 1 := ⟨L.length - 1, by omega⟩
        rw [hn]; exact nI_pred n
      have hle : nI L.length ≤ nI (L.length - 1) + 1 := by
        rw [nI_1, show L.length - 1 + 1 = L.length by omega]; exact av_he (by omega)
      refine ⟨av_r (av_i x (am_c B 1) 5 (nI (L.length - 1))) (am_c (B + 9) 26) (L.length - 1) (am_c (rm j) 8 + 1), ?_, ?_, ?_, ?_, ?_⟩
      · rw [ae_X1_removeSound_9, hc5, if_pos hle]
        have hc6 : (av_i x (am_c B 1) 5 (nI (L.length - 1))).1 (am_c B 1) 5 = nI (L.length - 1) := by
          show am_up x.1 (am_c B 1) 5 (nI (L.length - 1)) (am_c B 1) 5 = _
          exact am_up_s
        have hs4 : x.2.1 (am_c B 1) 4 = am_c (B + 9) 26 + 1 := p3.2.2.2.1
        simp only [ae_X1_removeSound_0, ae_X1_removeSound_4, ae_X1_removeSound_6, ae_X1_removeSound_19, ae_X1_removeSound_23, ae_X1_removeSound_28, ae_X1_removeSound_32, ae_X1_removeSound_39, ae_X1_removeSound_53, am_bnx_v, am_bnx_e, am_tl_s, am_tl_n, am_rv_s, am_add_rx, hc5, hn1, av_i2, hs4, hc6, am_in_n (show L.length - 1 < 8 by omega) (by decide), am_tn (show L.length - 1 < 2147483648 by omega)]
      · show am_up x.1 _ _ _ = _
        rw [p1]
      · exact av_shp_r (by decide) (by decide) (by decide) (by decide) (by decide) p3
      · intro q hq
        show am_up x.2.1 (am_c (B + 9) 26) (L.length - 1) (am_c (rm j) 8 + 1) (am_c (B + 9) 26) q = _
        by_cases hq2 : q = L.length - 1
        · subst hq2
          rw [am_up_s]
          unfold av_rm2
          rw [if_neg (by omega), if_pos (by omega)]
        · rw [am_up_k hq2, p4 q hq]
          unfold av_rm2 av_sh
          by_cases ha : j ≤ q ∧ q < L.length - 1
          · rw [if_pos ha, if_pos (by omega)]
          · rw [if_neg ha, if_neg (by omega), if_neg (by omega)]
      · exact av_fr_t p5 (av_fr_t (av_fr_i (by decide) (by omega) (by omega)) (av_fr_r (by decide) (by omega) (by omega))))
    (fun k x o hk hP => by
      obtain ⟨p0, p1, p2, p3, p4, p5⟩ := hP
      have hc5 : x.1 (am_c B 1) 5 = nI L.length := by rw [p1]; exact hct
      have hs4 : x.2.1 (am_c B 1) 4 = am_c (B + 9) 26 + 1 := p3.2.2.2.1
      have hq := p4 (k + 1) (by omega)
      unfold av_sh at hq
      rw [if_neg (by omega)] at hq
      have hnle : ¬ nI L.length ≤ nI (k + 1) := av_hl (by omega) (by omega)
      refine ⟨av_r x (am_c (B + 9) 26) k (am_c (rm (k + 1)) 8 + 1), none, ⟨by omega, p1, p2, av_shp_r (by decide) (by decide) (by decide) (by decide) (by decide) p3, ?_, av_fr_t p5 (av_fr_r (by decide) (by omega) (by omega))⟩, ?_⟩
      · intro q hq
        show am_up x.2.1 (am_c (B + 9) 26) k (am_c (rm (k + 1)) 8 + 1) (am_c (B + 9) 26) q = _
        by_cases hq2 : q = k
        · subst hq2
          rw [am_up_s]
          unfold av_sh
          rw [if_pos (by omega)]
        · rw [am_up_k hq2, p4 q hq]
          unfold av_sh
          by_cases ha : j ≤ q ∧ q < k
          · rw [if_pos ha, if_pos (by omega)]
          · rw [if_neg ha, if_neg (by omega)]
      · rw [ae_X1_removeSound_9, hc5, nI_1, if_neg hnle]
        simp only [ae_X1_removeSound_0, ae_X1_removeSound_4, ae_X1_removeSound_6, ae_X1_removeSound_19, ae_X1_removeSound_23, ae_X1_removeSound_28, ae_X1_removeSound_32, ae_X1_removeSound_39, ae_X1_removeSound_53, am_bnx_v, am_bnx_e, am_tl_s, am_tl_n, am_rv_s, am_add_rx, hs4, nI_1, am_in_n (show k < 8 by omega) (by decide), am_tn (show k < 2147483648 by omega), am_in_n (show k + 1 < 8 by omega) (by decide), am_tn (show k + 1 < 2147483648 by omega), hq])
    (L.length - 1 - j) j M none (by omega) ?_
  · obtain ⟨M', k1, k2, k3, k4, k5⟩ := key
    have k6 : M'.1 = am_up M.1 (am_c B 1) 5 (nI (L.length - 1)) := k2
    refine ⟨M', ?_, ?_, k5⟩
    · have : am_val iX1_removeSound 9 [some (.ref (am_c B 1)), some (.int (nI j)), some (.ref (am_c (rm j) 8)), some (.int (nI j))] [] M = some (.inl none, M', 0, 0) := k1
      simp only [ae_X1_removeSound_0, ae_X1_removeSound_4, ae_X1_removeSound_6, ae_X1_removeSound_19, ae_X1_removeSound_23, ae_X1_removeSound_28, ae_X1_removeSound_32, ae_X1_removeSound_39, ae_X1_removeSound_53, am_bnx_v, am_bnx_e, am_tl_s, am_tl_n, am_rv_s, am_add_rx, w3, hin, htn, hrm j (by omega), this]
    · have hlen : (L.eraseIdx j).length = L.length - 1 := List.length_eraseIdx_of_lt hj
      have hroom : ∀ a f, M'.1 (am_c a 8) f = M.1 (am_c a 8) f := fun a f => by rw [k6]; exact am_up_a (am_c_ne (by decide) (by decide) (by omega))
      refine av_C_sl hC0 k3 k4 ⟨?_, ?_⟩ (by omega) (by rw [k6, hlen]; exact am_up_s) ?_ ?_ ?_
      · intro k hk
        unfold av_rm2
        by_cases ha : j ≤ k ∧ k + 1 < L.length
        · rw [if_pos ha]; exact hpr.1 _ (by omega)
        · rw [if_neg ha]
          by_cases hb : k + 1 = L.length
          · rw [if_pos hb]; exact hpr.1 _ (by omega)
          · rw [if_neg hb]; exact hpr.1 _ hk
      · intro k l hk hl hkl
        rw [av_rm2_pi, av_rm2_pi] at hkl
        have a := av_pi_s j L.length k
        have b := av_pi_s j L.length l
        have := hpr.2 _ _ (by omega) (by omega) hkl
        omega
      · intro c k q hk h8 hn
        rw [k6, am_up_ak (fun hh => hn ?_)]
        have := hh.1
        rw [am_c_inj hk (by decide)] at this
        exact ⟨this.1, this.2, hh.2⟩
      · intro q hq
        rw [hlen] at hq
        rw [av_s_er]
        unfold av_rm2
        by_cases hqj : q < j
        · rw [if_pos hqj, if_neg (by omega), if_neg (by omega)]
          obtain ⟨a0, a1, a2, a3, a4⟩ := hS q (by omega)
          exact ⟨(hroom _ _).trans a0, (hroom _ _).trans a1, (hroom _ _).trans a2, (hroom _ _).trans a3, (hroom _ _).trans a4⟩
        · rw [if_neg hqj, if_pos (by omega)]
          obtain ⟨a0, a1, a2, a3, a4⟩ := hS (q + 1) (by omega)
          exact ⟨(hroom _ _).trans a0, (hroom _ _).trans a1, (hroom _ _).trans a2, (hroom _ _).trans a3, (hroom _ _).trans a4⟩
      · intro a h1 h2
        rw [hroom]
        exact hB a h1 h2
  · refine ⟨Nat.le_refl _, rfl, rfl, ⟨w0, w1, w2, w3, w4, w5, w6, w7, w8, w9⟩, fun q hq => ?_, av_fr_0⟩
    unfold av_sh
    rw [if_neg (by omega)]
    exact hrm q hq
