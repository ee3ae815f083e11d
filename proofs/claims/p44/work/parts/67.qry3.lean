/-! questions: points, faults, reasons, accounts -/
def aq_isEven (σ : Nat → Int32) : av_A := .inl (am_bi (decide (σ 9 + σ 12 + σ 15 = 30 + σ 6 + σ 8 - σ 7)))
theorem av_sum3 {σ : Nat → Int32} : av_sum (fun k => σ (9 + 3 * k)) 3 = σ 9 + σ 12 + σ 15 := by
  show ((0 + σ 9) + σ 12) + σ 15 = _
  rw [Int32.zero_add]
theorem cq_isEven {B : Nat} {rm : Nat → Nat} {σ : Nat → Int32} {L : List (Nat → Int32)} {M : am_M} (p0 : M.2.1 (am_c 0 12) 0 = am_c B 1 + 1) (hC : av_C M B rm σ L) : av_qc (am_val iX12_isEven 0 [some (.ref (am_c 0 12)), none] [] M) (aq_isEven σ) M := by
  have e := ac_bpointsAll hC
  rw [av_sum3] at e
  obtain ⟨⟨⟨w0, w1, w2, w3, w4, w5, w6, w7, w8, w9⟩, hrm, hpr⟩, ⟨hnp, hs0, hln, hct⟩, hW, hT, hN, hP, hS, hB⟩ := hC
  obtain ⟨n0, n2, n3, n4, n5, n6, n8, n7⟩ := hN
  show (_ : am_T) = some (.inl (some (.int (am_bi (decide (σ 9 + σ 12 + σ 15 = 30 + σ 6 + σ 8 - σ 7))))), M, 0, 0)
  by_cases h : σ 9 + σ 12 + σ 15 = 30 + σ 6 + σ 8 - σ 7
  · rw [decide_eq_true h]
    simp only [ae_X12_isEven_0, ae_X12_isEven_6, ae_X12_isEven_14, ae_X12_isEven_22, ae_X12_isEven_31, ae_X12_isEven_34, ae_X12_isEven_37, ae_X12_isEven_41, ae_X12_isEven_45, am_bnx_v, am_bnx_e, am_tl_s, am_tl_n, am_rv_s, am_add_rx, p0, w1, e, n6, n8, n7, h, not_true_eq_false, not_false_eq_true, if_true, if_false, am_1n0, or_true, true_or, eq_self, Bool.true_eq_false, Bool.false_eq_true, cond_true, cond_false]
    rfl
  · rw [decide_eq_false h]
    simp only [ae_X12_isEven_0, ae_X12_isEven_6, ae_X12_isEven_14, ae_X12_isEven_22, ae_X12_isEven_31, ae_X12_isEven_34, ae_X12_isEven_37, ae_X12_isEven_41, ae_X12_isEven_45, am_bnx_v, am_bnx_e, am_tl_s, am_tl_n, am_rv_s, am_add_rx, p0, w1, e, n6, n8, n7, h, not_true_eq_false, not_false_eq_true, if_true, if_false, am_1n0, or_true, true_or, eq_self, Bool.true_eq_false, Bool.false_eq_true, cond_true, cond_false]
    rfl
def aq_reason (q : Int32 × Int32 × Int32) (w : Int32) : av_A := if am_wt w 0 2 = false then .inr (2, 1) else if q.1 = 0 then .inr (3, 2) else .inl (if w = 0 then q.1 else if w = 1 then q.2.1 else q.2.2)
/-! accounts -/
def av_cnw (σ : Nat → Int32) : Int32 := am_cnt (fun p => decide (0 < σ (18 + 2 * p))) 16
def av_cne (L : List (Nat → Int32)) : Int32 := am_cnt (fun k => decide (0 < av_s L k 3)) L.length
def aq_account (σ : Nat → Int32) (L : List (Nat → Int32)) (h n : Nat) (w : Int32) : av_A := if w = 0 then .inl (av_cnw σ) else if w = 1 then .inl (σ 0) else if w = 2 then .inl (nI L.length) else if w = 3 then .inl (av_cne L) else if w = 4 then .inl (σ 2) else if w = 5 then .inl (σ 3) else if w = 6 then .inl (σ 4) else if w = 7 then .inl (σ 5) else if w = 8 then .inl (σ 6) else if w = 9 then .inl (σ 7) else if w = 10 then .inl (nI h) else if w = 11 then .inl (nI n) else .inr (2, 1)
theorem cq_account {B : Nat} {rm : Nat → Nat} {σ : Nat → Int32} {L : List (Nat → Int32)} {H : List av_K} {n : Nat} {T : Nat → Int32} {f w : Int32} {M : am_M} (p0 : M.2.1 (am_c 0 12) 0 = am_c B 1 + 1) (p1 : M.2.1 (am_c 0 12) 1 = am_c 25 3 + 1) (p5 : M.2.1 (am_c 0 12) 5 = am_c 244 10 + 1) (hC : av_C M B rm σ L) (h2 : av_x2 M H) (h5 : av_x5 M n T f) : av_qc (am_val iX12_account 0 [some (.ref (am_c 0 12)), some (.int w)] [] M) (aq_account σ L H.length n w) M := by
  have b0 := ac_bcount hC
  have b3 := ac_countEchoes hC
  obtain ⟨-, -, ν, g, -, -, b10, -, -⟩ := h2
  have b11 := h5.2.2.1
  obtain ⟨⟨⟨w0, w1, w2, w3, w4, w5, w6, w7, w8, w9⟩, hrm, hpr⟩, ⟨hnp, hs0, hln, hct⟩, hW, hT, hN, hP, hS, hB⟩ := hC
  obtain ⟨n0, n2, n3, n4, n5, n6, n8, n7⟩ := hN
  unfold aq_account
  by_cases h0 : w = 0
  · rw [if_pos h0]
    show (_ : am_T) = some (.inl (some (.int (av_cnw σ))), M, 0, 0)
    simp only [ae_X12_account_0, ae_X12_account_64, ae_X12_account_68, ae_X12_account_71, ae_X12_account_74, ae_X12_account_75, ae_X12_account_79, ae_X12_account_83, ae_X12_account_87, ae_X12_account_91, ae_X12_account_95, ae_X12_account_98, ae_X12_account_99, ae_X12_account_103, ae_X12_account_107, ae_X12_account_111, ae_X12_account_115, ae_X12_account_119, ae_X12_account_123, ae_X12_account_127, ae_X12_account_131, ae_X12_account_135, ae_X12_account_139, ae_X12_account_143, ae_X12_account_147, ae_X12_account_151, ae_X12_account_155, ae_X12_account_159, ae_X12_account_163, am_bnx_v, am_bnx_e, am_tl_s, am_tl_n, am_rv_s, am_add_rx, am_sw_y h0, p0, w0, b0]
    rfl
  · rw [if_neg h0]
    by_cases h1 : w = 1
    · rw [if_pos h1]
      show (_ : am_T) = some (.inl (some (.int (σ 0))), M, 0, 0)
      simp only [ae_X12_account_0, ae_X12_account_64, ae_X12_account_68, ae_X12_account_71, ae_X12_account_74, ae_X12_account_75, ae_X12_account_79, ae_X12_account_83, ae_X12_account_87, ae_X12_account_91, ae_X12_account_95, ae_X12_account_98, ae_X12_account_99, ae_X12_account_103, ae_X12_account_107, ae_X12_account_111, ae_X12_account_115, ae_X12_account_119, ae_X12_account_123, ae_X12_account_127, ae_X12_account_131, ae_X12_account_135, ae_X12_account_139, ae_X12_account_143, ae_X12_account_147, ae_X12_account_151, ae_X12_account_155, ae_X12_account_159, ae_X12_account_163, am_bnx_v, am_bnx_e, am_tl_s, am_tl_n, am_rv_s, am_add_rx, am_sw_n h0, am_sw_y h1, p0, n0]
    · rw [if_neg h1]
      by_cases h2 : w = 2
      · rw [if_pos h2]
        show (_ : am_T) = some (.inl (some (.int (nI L.length))), M, 0, 0)
        simp only [ae_X12_account_0, ae_X12_account_64, ae_X12_account_68, ae_X12_account_71, ae_X12_account_74, ae_X12_account_75, ae_X12_account_79, ae_X12_account_83, ae_X12_account_87, ae_X12_account_91, ae_X12_account_95, ae_X12_account_98, ae_X12_account_99, ae_X12_account_103, ae_X12_account_107, ae_X12_account_111, ae_X12_account_115, ae_X12_account_119, ae_X12_account_123, ae_X12_account_127, ae_X12_account_131, ae_X12_account_135, ae_X12_account_139, ae_X12_account_143, ae_X12_account_147, ae_X12_account_151, ae_X12_account_155, ae_X12_account_159, ae_X12_account_163, am_bnx_v, am_bnx_e, am_tl_s, am_tl_n, am_rv_s, am_add_rx, am_sw_n h0, am_sw_n h1, am_sw_y h2, p0, hct]
      · rw [if_neg h2]
        by_cases h3 : w = 3
        · rw [if_pos h3]
          show (_ : am_T) = some (.inl (some (.int (av_cne L))), M, 0, 0)
          simp only [ae_X12_account_0, ae_X12_account_64, ae_X12_account_68, ae_X12_account_71, ae_X12_account_74, ae_X12_account_75, ae_X12_account_79, ae_X12_account_83, ae_X12_account_87, ae_X12_account_91, ae_X12_account_95, ae_X12_account_98, ae_X12_account_99, ae_X12_account_103, ae_X12_account_107, ae_X12_account_111, ae_X12_account_115, ae_X12_account_119, ae_X12_account_123, ae_X12_account_127, ae_X12_account_131, ae_X12_account_135, ae_X12_account_139, ae_X12_account_143, ae_X12_account_147, ae_X12_account_151, ae_X12_account_155, ae_X12_account_159, ae_X12_account_163, am_bnx_v, am_bnx_e, am_tl_s, am_tl_n, am_rv_s, am_add_rx, am_sw_n h0, am_sw_n h1, am_sw_n h2, am_sw_y h3, p0, b3]
          rfl
        · rw [if_neg h3]
          by_cases h4 : w = 4
          · rw [if_pos h4]
            show (_ : am_T) = some (.inl (some (.int (σ 2))), M, 0, 0)
            simp only [ae_X12_account_0, ae_X12_account_64, ae_X12_account_68, ae_X12_account_71, ae_X12_account_74, ae_X12_account_75, ae_X12_account_79, ae_X12_account_83, ae_X12_account_87, ae_X12_account_91, ae_X12_account_95, ae_X12_account_98, ae_X12_account_99, ae_X12_account_103, ae_X12_account_107, ae_X12_account_111, ae_X12_account_115, ae_X12_account_119, ae_X12_account_123, ae_X12_account_127, ae_X12_account_131, ae_X12_account_135, ae_X12_account_139, ae_X12_account_143, ae_X12_account_147, ae_X12_account_151, ae_X12_account_155, ae_X12_account_159, ae_X12_account_163, am_bnx_v, am_bnx_e, am_tl_s, am_tl_n, am_rv_s, am_add_rx, am_sw_n h0, am_sw_n h1, am_sw_n h2, am_sw_n h3, am_sw_y h4, p0, n2]
          · rw [if_neg h4]
            by_cases h5 : w = 5
            · rw [if_pos h5]
              show (_ : am_T) = some (.inl (some (.int (σ 3))), M, 0, 0)
              simp only [ae_X12_account_0, ae_X12_account_64, ae_X12_account_68, ae_X12_account_71, ae_X12_account_74, ae_X12_account_75, ae_X12_account_79, ae_X12_account_83, ae_X12_account_87, ae_X12_account_91, ae_X12_account_95, ae_X12_account_98, ae_X12_account_99, ae_X12_account_103, ae_X12_account_107, ae_X12_account_111, ae_X12_account_115, ae_X12_account_119, ae_X12_account_123, ae_X12_account_127, ae_X12_account_131, ae_X12_account_135, ae_X12_account_139, ae_X12_account_143, ae_X12_account_147, ae_X12_account_151, ae_X12_account_155, ae_X12_account_159, ae_X12_account_163, am_bnx_v, am_bnx_e, am_tl_s, am_tl_n, am_rv_s, am_add_rx, am_sw_n h0, am_sw_n h1, am_sw_n h2, am_sw_n h3, am_sw_n h4, am_sw_y h5, p0, n3]
            · rw [if_neg h5]
              by_cases h6 : w = 6
              · rw [if_pos h6]
                show (_ : am_T) = some (.inl (some (.int (σ 4))), M, 0, 0)
                simp only [ae_X12_account_0, ae_X12_account_64, ae_X12_account_68, ae_X12_account_71, ae_X12_account_74, ae_X12_account_75, ae_X12_account_79, ae_X12_account_83, ae_X12_account_87, ae_X12_account_91, ae_X12_account_95, ae_X12_account_98, ae_X12_account_99, ae_X12_account_103, ae_X12_account_107, ae_X12_account_111, ae_X12_account_115, ae_X12_account_119, ae_X12_account_123, ae_X12_account_127, ae_X12_account_131, ae_X12_account_135, ae_X12_account_139, ae_X12_account_143, ae_X12_account_147, ae_X12_account_151, ae_X12_account_155, ae_X12_account_159, ae_X12_account_163, am_bnx_v, am_bnx_e, am_tl_s, am_tl_n, am_rv_s, am_add_rx, am_sw_n h0, am_sw_n h1, am_sw_n h2, am_sw_n h3, am_sw_n h4, am_sw_n h5, am_sw_y h6, p0, n4]
              · rw [if_neg h6]
                by_cases h7 : w = 7
                · rw [if_pos h7]
                  show (_ : am_T) = some (.inl (some (.int (σ 5))), M, 0, 0)
                  simp only [ae_X12_account_0, ae_X12_account_64, ae_X12_account_68, ae_X12_account_71, ae_X12_account_74, ae_X12_account_75, ae_X12_account_79, ae_X12_account_83, ae_X12_account_87, ae_X12_account_91, ae_X12_account_95, ae_X12_account_98, ae_X12_account_99, ae_X12_account_103, ae_X12_account_107, ae_X12_account_111, ae_X12_account_115, ae_X12_account_119, ae_X12_account_123, ae_X12_account_127, ae_X12_account_131, ae_X12_account_135, ae_X12_account_139, ae_X12_account_143, ae_X12_account_147, ae_X12_account_151, ae_X12_account_155, ae_X12_account_159, ae_X12_account_163, am_bnx_v, am_bnx_e, am_tl_s, am_tl_n, am_rv_s, am_add_rx, am_sw_n h0, am_sw_n h1, am_sw_n h2, am_sw_n h3, am_sw_n h4, am_sw_n h5, am_sw_n h6, am_sw_y h7, p0, n5]
                · rw [if_neg h7]
                  by_cases h8 : w = 8
                  · rw [if_pos h8]
                    show (_ : am_T) = some (.inl (some (.int (σ 6))), M, 0, 0)
                    simp only [ae_X12_account_0, ae_X12_account_64, ae_X12_account_68, ae_X12_account_71, ae_X12_account_74, ae_X12_account_75, ae_X12_account_79, ae_X12_account_83, ae_X12_account_87, ae_X12_account_91, ae_X12_account_95, ae_X12_account_98, ae_X12_account_99, ae_X12_account_103, ae_X12_account_107, ae_X12_account_111, ae_X12_account_115, ae_X12_account_119, ae_X12_account_123, ae_X12_account_127, ae_X12_account_131, ae_X12_account_135, ae_X12_account_139, ae_X12_account_143, ae_X12_account_147, ae_X12_account_151, ae_X12_account_155, ae_X12_account_159, ae_X12_account_163, am_bnx_v, am_bnx_e, am_tl_s, am_tl_n, am_rv_s, am_add_rx, am_sw_n h0, am_sw_n h1, am_sw_n h2, am_sw_n h3, am_sw_n h4, am_sw_n h5, am_sw_n h6, am_sw_n h7, am_sw_y h8, p0, n6]
                  · rw [if_neg h8]
                    by_cases h9 : w = 9
                    · rw [if_pos h9]
                      show (_ : am_T) = some (.inl (some (.int (σ 7))), M, 0, 0)
                      simp only [ae_X12_account_0, ae_X12_account_64, ae_X12_account_68, ae_X12_account_71, ae_X12_account_74, ae_X12_account_75, ae_X12_account_79, ae_X12_account_83, ae_X12_account_87, ae_X12_account_91, ae_X12_account_95, ae_X12_account_98, ae_X12_account_99, ae_X12_account_103, ae_X12_account_107, ae_X12_account_111, ae_X12_account_115, ae_X12_account_119, ae_X12_account_123, ae_X12_account_127, ae_X12_account_131, ae_X12_account_135, ae_X12_account_139, ae_X12_account_143, ae_X12_account_147, ae_X12_account_151, ae_X12_account_155, ae_X12_account_159, ae_X12_account_163, am_bnx_v, am_bnx_e, am_tl_s, am_tl_n, am_rv_s, am_add_rx, am_sw_n h0, am_sw_n h1, am_sw_n h2, am_sw_n h3, am_sw_n h4, am_sw_n h5, am_sw_n h6, am_sw_n h7, am_sw_n h8, am_sw_y h9, p0, n7]
                    · rw [if_neg h9]
                      by_cases h10 : w = 10
                      · rw [if_pos h10]
                        show (_ : am_T) = some (.inl (some (.int (nI H.length))), M, 0, 0)
                        simp only [ae_X12_account_0, ae_X12_account_64, ae_X12_account_68, ae_X12_account_71, ae_X12_account_74, ae_X12_account_75, ae_X12_account_79, ae_X12_account_83, ae_X12_account_87, ae_X12_account_91, ae_X12_account_95, ae_X12_account_98, ae_X12_account_99, ae_X12_account_103, ae_X12_account_107, ae_X12_account_111, ae_X12_account_115, ae_X12_account_119, ae_X12_account_123, ae_X12_account_127, ae_X12_account_131, ae_X12_account_135, ae_X12_account_139, ae_X12_account_143, ae_X12_account_147, ae_X12_account_151, ae_X12_account_155, ae_X12_account_159, ae_X12_account_163, am_bnx_v, am_bnx_e, am_tl_s, am_tl_n, am_rv_s, am_add_rx, am_sw_n h0, am_sw_n h1, am_sw_n h2, am_sw_n h3, am_sw_n h4, am_sw_n h5, am_sw_n h6, am_sw_n h7, am_sw_n h8, am_sw_n h9, am_sw_y h10, p0, p1, b10]
                      · rw [if_neg h10]
                        by_cases h11 : w = 11
                        · rw [if_pos h11]
                          show (_ : am_T) = some (.inl (some (.int (nI n))), M, 0, 0)
                          simp only [ae_X12_account_0, ae_X12_account_64, ae_X12_account_68, ae_X12_account_71, ae_X12_account_74, ae_X12_account_75, ae_X12_account_79, ae_X12_account_83, ae_X12_account_87, ae_X12_account_91, ae_X12_account_95, ae_X12_account_98, ae_X12_account_99, ae_X12_account_103, ae_X12_account_107, ae_X12_account_111, ae_X12_account_115, ae_X12_account_119, ae_X12_account_123, ae_X12_account_127, ae_X12_account_131, ae_X12_account_135, ae_X12_account_139, ae_X12_account_143, ae_X12_account_147, ae_X12_account_151, ae_X12_account_155, ae_X12_account_159, ae_X12_account_163, am_bnx_v, am_bnx_e, am_tl_s, am_tl_n, am_rv_s, am_add_rx, am_sw_n h0, am_sw_n h1, am_sw_n h2, am_sw_n h3, am_sw_n h4, am_sw_n h5, am_sw_n h6, am_sw_n h7, am_sw_n h8, am_sw_n h9, am_sw_n h10, am_sw_y h11, p0, p5, b11]
                        · rw [if_neg h11]
                          show (_ : am_T) = some (.inr 2, M, 1, 6)
                          simp only [ae_X12_account_0, ae_X12_account_64, ae_X12_account_68, ae_X12_account_71, ae_X12_account_74, ae_X12_account_75, ae_X12_account_79, ae_X12_account_83, ae_X12_account_87, ae_X12_account_91, ae_X12_account_95, ae_X12_account_98, ae_X12_account_99, ae_X12_account_103, ae_X12_account_107, ae_X12_account_111, ae_X12_account_115, ae_X12_account_119, ae_X12_account_123, ae_X12_account_127, ae_X12_account_131, ae_X12_account_135, ae_X12_account_139, ae_X12_account_143, ae_X12_account_147, ae_X12_account_151, ae_X12_account_155, ae_X12_account_159, ae_X12_account_163, am_bnx_v, am_bnx_e, am_tl_s, am_tl_n, am_rv_s, am_add_rx, am_sw_n h0, am_sw_n h1, am_sw_n h2, am_sw_n h3, am_sw_n h4, am_sw_n h5, am_sw_n h6, am_sw_n h7, am_sw_n h8, am_sw_n h9, am_sw_n h10, am_sw_n h11, am_sw_0]
/-! character -/
def aq_char (l : List Int32) (i : Int32) : av_A := if am_ltb i l.length = false then .inr (1, 1) else .inl (l.getD (av_ix i) 0)
