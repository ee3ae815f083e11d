/-! questions: points, faults, reasons, accounts -/
def aq_isEven (σ : Nat → Int32) : av_A := .inl (am_bi (decide (σ 9 + σ 12 + σ 15 = 30 + σ 6 + σ 8 - σ 7)))
theorem av_sum3 {σ : Nat → Int32} : av_sum (fun k => σ (9 + 3 * k)) 3 = σ 9 + σ 12 + σ 15 := by
  show ((0 + σ 9) + σ 12) + σ 15 = _
  rw [Int32.zero_add]
theorem cq_isEven {B : Nat} {rm : Nat → Nat} {σ : Nat → Int32} {L : List (Nat → Int32)} {M : am_M} (p0 : M.2.1 (am_c 0 12) 0 = am_c B 1 + 1) (hC : av_C M B rm σ L) : av_qc (am_val iX12_isEven 0 [some (.ref (am_c 0 12)), none] [] M) (aq_isEven σ) M := by
  have e := ac_bpointsAll hC
  rw [av_sum3] at e
  obtain ⟨⟨⟨w0, w1, w2, w3, w4, w5, w6, w7, w8, w9⟩, hrm, hpr⟩, ⟨hnp, hs0, hln, hct⟩, hW, hT, hN, hP, hS, hB⟩ := hC
  obtain ⟨n0, n2, n3, n4, n5, n6, n8, n7⟩ := hN
  show (_ : am_T) = some (.inl (some (.int (am_bi (decide (σ 9 + σ 12 + σ 15 = 30 + σ 6 + σ 8 - σ 7))))), M, 0, 0)
  by_cases h : σ 9 + σ 12 + σ 15 = 30 + σ 6 + σ 8 - σ 7
  · rw [decide_eq_true h]
    simp only [ae_X12_isEven_0, ae_X12_isEven_6, ae_X12_isEven_14, ae_X12_isEven_22, ae_X12_isEven_31, ae_X12_isEven_34, ae_X12_isEven_37, ae_X12_isEven_41, ae_X12_isEven_45, am_bnx_v, am_bnx_e, am_tl_s, am_tl_n, am_rv_s, am_add_rx, p0, w1, e, n6, n8, n7, h, not_true_eq_false, not_false_eq_true, if_true, if_false, am_1n0, or_true, true_or, eq_self, Bool.true_eq_false, Bool.false_eq_true, cond_true, cond_false]
    rfl
  · rw [decide_eq_false h]
    simp only [ae_X12_isEven_0, ae_X12_isEven_6, ae_X12_isEven_14, ae_X12_isEven_22, ae_X12_isEven_31, ae_X12_isEven_34, ae_X12_isEven_37, ae_X12_isEven_41, ae_X12_isEven_45, am_bnx_v, am_bnx_e, am_tl_s, am_tl_n, am_rv_s, am_add_rx, p0, w1, e, n6, n8, n7, h, not_true_eq_false, not_false_eq_true, if_true, if_false, am_1n0, or_true, true_or, eq_self, Bool.true_eq_false, Bool.false_eq_true, cond_true, cond_false]
    rfl
theorem mq_isEven {σ : Nat → Int32} {L : List (Nat → Int32)} {H : List av_K} {P : Option av_K} {q : Int32 × Int32 × Int32} {n : Nat} {T : Nat → Int32} {f : Int32} {l : List Int32} {D : Nat} {M : am_M} (hy : av_y D M σ L H P q n T f l) : ∃ M2, av_qm D (am_val iX13_isEven 0 [some (.ref (am_c D 13))] [] M) (aq_isEven σ) M2 ∧ av_ys D M M2 := by
  obtain ⟨⟨hm, hr⟩, hs, -⟩ := av_yq (x := 0) hy
  have e0 := mc_points (k := 0) hm (by decide)
  have e1 := mc_points (k := 1) hm (by decide)
  have e2 := mc_points (k := 2) hm (by decide)
  rw [hr.1 (9 + 3 * 0) (by decide) (by decide)] at e0
  rw [hr.1 (9 + 3 * 1) (by decide) (by decide)] at e1
  rw [hr.1 (9 + 3 * 2) (by decide) (by decide)] at e2
  have e0 : am_val iX13_points 0 [some (.ref (am_c D 13)), some (.int 0)] [] (av_i M (am_c D 13) 0 0) = some (.inl (some (.int (σ 9))), av_i M (am_c D 13) 0 0, 0, 0) := e0
  have e1 : am_val iX13_points 0 [some (.ref (am_c D 13)), some (.int 1)] [] (av_i M (am_c D 13) 0 0) = some (.inl (some (.int (σ 12))), av_i M (am_c D 13) 0 0, 0, 0) := e1
  have e2 : am_val iX13_points 0 [some (.ref (am_c D 13)), some (.int 2)] [] (av_i M (am_c D 13) 0 0) = some (.inl (some (.int (σ 15))), av_i M (am_c D 13) 0 0, 0, 0) := e2
  have m1 : M.2.1 (am_c D 13) 1 = am_c (D + 1) 18 + 1 := hm.1
  have g6 := hr.1 6 (by decide) (by decide)
  have g7 := hr.1 7 (by decide) (by decide)
  have g8 := hr.1 8 (by decide) (by decide)
  refine ⟨av_i M (am_c D 13) 0 0, ⟨?_, av_jS⟩, hs⟩
  by_cases h : σ 9 + σ 12 + σ 15 = 30 + σ 6 + σ 8 - σ 7
  · rw [decide_eq_true h]
    simp only [ae_X13_isEven_0, ae_X13_isEven_10, ae_X13_isEven_15, ae_X13_isEven_21, ae_X13_isEven_28, ae_X13_isEven_36, ae_X13_isEven_44, ae_X13_isEven_51, ae_X13_isEven_55, am_bnx_v, am_bnx_e, am_tl_s, am_tl_n, am_rv_s, am_add_rx, e0, e1, e2, av_i2, m1, g6, g8, g7, h, not_true_eq_false, not_false_eq_true, if_true, if_false, am_1n0, or_true, true_or, eq_self, Bool.true_eq_false, Bool.false_eq_true, cond_true, cond_false]
    rfl
  · rw [decide_eq_false h]
    simp only [ae_X13_isEven_0, ae_X13_isEven_10, ae_X13_isEven_15, ae_X13_isEven_21, ae_X13_isEven_28, ae_X13_isEven_36, ae_X13_isEven_44, ae_X13_isEven_51, ae_X13_isEven_55, am_bnx_v, am_bnx_e, am_tl_s, am_tl_n, am_rv_s, am_add_rx, e0, e1, e2, av_i2, m1, g6, g8, g7, h, not_true_eq_false, not_false_eq_true, if_true, if_false, am_1n0, or_true, true_or, eq_self, Bool.true_eq_false, Bool.false_eq_true, cond_true, cond_false]
    rfl
theorem cq_fault {n : Nat} {T : Nat → Int32} {f : Int32} {M : am_M} (p5 : M.2.1 (am_c 0 12) 5 = am_c 244 10 + 1) (h5 : av_x5 M n T f) : av_qc (am_val iX12_faultPosition 0 [some (.ref (am_c 0 12))] [] M) (.inl f) M := by
  show (_ : am_T) = some (.inl (some (.int f)), M, 0, 0)
  simp only [ae_X12_faultPosition_0, ae_X12_faultPosition_4, am_bnx_v, am_bnx_e, am_tl_s, am_tl_n, am_rv_s, am_add_rx, p5, h5.2.2.2.1]
theorem mq_fault {σ : Nat → Int32} {L : List (Nat → Int32)} {H : List av_K} {P : Option av_K} {q : Int32 × Int32 × Int32} {n : Nat} {T : Nat → Int32} {f : Int32} {l : List Int32} {D : Nat} {M : am_M} (hy : av_y D M σ L H P q n T f l) : ∃ M2, av_qm D (am_val iX13_faultPosition 0 [some (.ref (am_c D 13))] [] M) (.inl f) M2 ∧ av_ys D M M2 := by
  refine ⟨av_i M (am_c D 13) 0 0, ⟨?_, av_jS⟩, av_ys_i (Or.inl rfl)⟩
  have h : (av_i M (am_c D 13) 0 0).1 (am_c D 13) 12 = f := by rw [av_jK (by decide)]; exact hy.2.2.2.2.1.2.2.1
  simp only [ae_X13_faultPosition_0, h]
def aq_reason (q : Int32 × Int32 × Int32) (w : Int32) : av_A := if am_wt w 0 2 = false then .inr (2, 1) else if q.1 = 0 then .inr (3, 2) else .inl (if w = 0 then q.1 else if w = 1 then q.2.1 else q.2.2)
theorem cq_reason {q : Int32 × Int32 × Int32} {w : Int32} {M : am_M} (p4 : M.2.1 (am_c 0 12) 4 = am_c 243 7 + 1) (h4 : av_x4 M q) : av_qc (am_val iX12_reason 0 [some (.ref (am_c 0 12)), some (.int w)] [] M) (aq_reason q w) M := by
  obtain ⟨a0, a1, a2⟩ := h4
  unfold aq_reason
  cases hw : am_wt w 0 2 with
  | false =>
    rw [if_pos rfl]
    show (_ : am_T) = some (.inr 2, M, 1, 6)
    simp only [ae_X12_reason_0, ae_X12_reason_6, ae_X12_reason_9, ae_X12_reason_20, ae_X12_reason_24, ae_X12_reason_30, ae_X12_reason_41, ae_X12_reason_68, ae_X12_reason_72, ae_X12_reason_76, ae_X12_reason_80, ae_X12_reason_84, ae_X12_reason_88, am_bnx_v, am_bnx_e, am_tl_s, am_tl_n, am_rv_s, am_add_rx, ac_isWithin, hw, am_bi_f, not_true_eq_false, not_false_eq_true, if_true, if_false, am_1n0, or_true, true_or, eq_self, Bool.true_eq_false, Bool.false_eq_true, cond_true, cond_false]
  | true =>
    rw [if_neg (by decide)]
    by_cases hq : q.1 = 0
    · rw [if_pos hq]
      show (_ : am_T) = some (.inr 3, M, 1, 6)
      simp only [ae_X12_reason_0, ae_X12_reason_6, ae_X12_reason_9, ae_X12_reason_20, ae_X12_reason_24, ae_X12_reason_30, ae_X12_reason_41, ae_X12_reason_68, ae_X12_reason_72, ae_X12_reason_76, ae_X12_reason_80, ae_X12_reason_84, ae_X12_reason_88, am_bnx_v, am_bnx_e, am_tl_s, am_tl_n, am_rv_s, am_add_rx, ac_isWithin, hw, am_bi_t, not_true_eq_false, not_false_eq_true, if_true, if_false, am_1n0, or_true, true_or, eq_self, Bool.true_eq_false, Bool.false_eq_true, cond_true, cond_false, p4, a0, hq]
    · rw [if_neg hq]
      show (_ : am_T) = some (.inl (some (.int (if w = 0 then q.1 else if w = 1 then q.2.1 else q.2.2))), M, 0, 0)
      by_cases h0 : w = 0
      · rw [if_pos h0]
        simp only [ae_X12_reason_0, ae_X12_reason_6, ae_X12_reason_9, ae_X12_reason_20, ae_X12_reason_24, ae_X12_reason_30, ae_X12_reason_41, ae_X12_reason_68, ae_X12_reason_72, ae_X12_reason_76, ae_X12_reason_80, ae_X12_reason_84, ae_X12_reason_88, am_bnx_v, am_bnx_e, am_tl_s, am_tl_n, am_rv_s, am_add_rx, ac_isWithin, hw, am_bi_t, not_true_eq_false, not_false_eq_true, if_true, if_false, am_1n0, or_true, true_or, eq_self, Bool.true_eq_false, Bool.false_eq_true, cond_true, cond_false, p4, a0, hq, am_sw_y h0]
      · rw [if_neg h0]
        by_cases h1 : w = 1
        · rw [if_pos h1]
          simp only [ae_X12_reason_0, ae_X12_reason_6, ae_X12_reason_9, ae_X12_reason_20, ae_X12_reason_24, ae_X12_reason_30, ae_X12_reason_41, ae_X12_reason_68, ae_X12_reason_72, ae_X12_reason_76, ae_X12_reason_80, ae_X12_reason_84, ae_X12_reason_88, am_bnx_v, am_bnx_e, am_tl_s, am_tl_n, am_rv_s, am_add_rx, ac_isWithin, hw, am_bi_t, not_true_eq_false, not_false_eq_true, if_true, if_false, am_1n0, or_true, true_or, eq_self, Bool.true_eq_false, Bool.false_eq_true, cond_true, cond_false, p4, a0, a1, hq, am_sw_n h0, am_sw_y h1]
        · rw [if_neg h1]
          simp only [ae_X12_reason_0, ae_X12_reason_6, ae_X12_reason_9, ae_X12_reason_20, ae_X12_reason_24, ae_X12_reason_30, ae_X12_reason_41, ae_X12_reason_68, ae_X12_reason_72, ae_X12_reason_76, ae_X12_reason_80, ae_X12_reason_84, ae_X12_reason_88, am_bnx_v, am_bnx_e, am_tl_s, am_tl_n, am_rv_s, am_add_rx, ac_isWithin, hw, am_bi_t, not_true_eq_false, not_false_eq_true, if_true, if_false, am_1n0, or_true, true_or, eq_self, Bool.true_eq_false, Bool.false_eq_true, cond_true, cond_false, p4, a0, a2, hq, am_sw_n h0, am_sw_n h1, am_sw_0]
theorem mq_reason {σ : Nat → Int32} {L : List (Nat → Int32)} {H : List av_K} {P : Option av_K} {q : Int32 × Int32 × Int32} {n : Nat} {T : Nat → Int32} {f : Int32} {l : List Int32} {D : Nat} {w : Int32} {M : am_M} (hy : av_y D M σ L H P q n T f l) : ∃ M2, av_qm D (am_val iX13_reason 0 [some (.ref (am_c D 13)), some (.int w)] [] M) (aq_reason q w) M2 ∧ av_ys D M M2 := by
  obtain ⟨a0, a1, a2⟩ := hy.2.2.2.1
  unfold aq_reason
  cases hw : am_wt w 0 2 with
  | false =>
    rw [if_pos rfl]
    refine ⟨av_i M (am_c D 13) 0 1, ⟨0, ?_, av_jS⟩, (av_yq hy).2.1⟩
    simp only [ae_X13_reason_0, ae_X13_reason_7, ae_X13_reason_10, ae_X13_reason_14, ae_X13_reason_21, ae_X13_reason_25, ae_X13_reason_36, ae_X13_reason_40, ae_X13_reason_44, ae_X13_reason_51, ae_X13_reason_56, ae_X13_reason_63, am_bnx_v, am_bnx_e, am_tl_s, am_tl_n, am_rv_s, am_add_rx, mc_in, hw, am_bi_f, not_true_eq_false, not_false_eq_true, if_true, if_false, am_1n0, or_true, true_or, eq_self, Bool.true_eq_false, Bool.false_eq_true, cond_true, cond_false, av_jS, am_l1]
  | true =>
    rw [if_neg (by decide)]
    by_cases hq : q.1 = 0
    · rw [if_pos hq]
      refine ⟨av_i M (am_c D 13) 0 2, ⟨0, ?_, av_jS⟩, (av_yq hy).2.1⟩
      simp only [ae_X13_reason_0, ae_X13_reason_7, ae_X13_reason_10, ae_X13_reason_14, ae_X13_reason_21, ae_X13_reason_25, ae_X13_reason_36, ae_X13_reason_40, ae_X13_reason_44, ae_X13_reason_51, ae_X13_reason_56, ae_X13_reason_63, am_bnx_v, am_bnx_e, am_tl_s, am_tl_n, am_rv_s, am_add_rx, mc_in, hw, am_bi_t, not_true_eq_false, not_false_eq_true, if_true, if_false, am_1n0, or_true, true_or, eq_self, Bool.true_eq_false, Bool.false_eq_true, cond_true, cond_false, a0, hq, av_jS, am_l2]
    · rw [if_neg hq]
      obtain ⟨-, hs, y1⟩ := av_yq (x := 0) hy
      obtain ⟨b0, b1, b2⟩ := y1.2.2.2.1
      refine ⟨av_i M (am_c D 13) 0 0, ⟨?_, av_jS⟩, hs⟩
      by_cases h0 : w = 0
      · rw [if_pos h0]
        simp only [ae_X13_reason_0, ae_X13_reason_7, ae_X13_reason_10, ae_X13_reason_14, ae_X13_reason_21, ae_X13_reason_25, ae_X13_reason_36, ae_X13_reason_40, ae_X13_reason_44, ae_X13_reason_51, ae_X13_reason_56, ae_X13_reason_63, am_bnx_v, am_bnx_e, am_tl_s, am_tl_n, am_rv_s, am_add_rx, mc_in, hw, am_bi_t, not_true_eq_false, not_false_eq_true, if_true, if_false, am_1n0, or_true, true_or, eq_self, Bool.true_eq_false, Bool.false_eq_true, cond_true, cond_false, a0, hq, av_jS, am_l0, if_neg (not_not_intro h0), b0]
      · rw [if_neg h0]
        by_cases h1 : w = 1
        · rw [if_pos h1]
          simp only [ae_X13_reason_0, ae_X13_reason_7, ae_X13_reason_10, ae_X13_reason_14, ae_X13_reason_21, ae_X13_reason_25, ae_X13_reason_36, ae_X13_reason_40, ae_X13_reason_44, ae_X13_reason_51, ae_X13_reason_56, ae_X13_reason_63, am_bnx_v, am_bnx_e, am_tl_s, am_tl_n, am_rv_s, am_add_rx, mc_in, hw, am_bi_t, not_true_eq_false, not_false_eq_true, if_true, if_false, am_1n0, or_true, true_or, eq_self, Bool.true_eq_false, Bool.false_eq_true, cond_true, cond_false, a0, hq, av_jS, am_l0, h0, if_pos h1, if_neg (not_not_intro h1), b1]
        · rw [if_neg h1]
          simp only [ae_X13_reason_0, ae_X13_reason_7, ae_X13_reason_10, ae_X13_reason_14, ae_X13_reason_21, ae_X13_reason_25, ae_X13_reason_36, ae_X13_reason_40, ae_X13_reason_44, ae_X13_reason_51, ae_X13_reason_56, ae_X13_reason_63, am_bnx_v, am_bnx_e, am_tl_s, am_tl_n, am_rv_s, am_add_rx, mc_in, hw, am_bi_t, not_true_eq_false, not_false_eq_true, if_true, if_false, am_1n0, or_true, true_or, eq_self, Bool.true_eq_false, Bool.false_eq_true, cond_true, cond_false, a0, hq, av_jS, am_l0, h0, h1, b2]
/-! accounts -/
def av_cnw (σ : Nat → Int32) : Int32 := am_cnt (fun p => decide (0 < σ (18 + 2 * p))) 16
def av_cne (L : List (Nat → Int32)) : Int32 := am_cnt (fun k => decide (0 < av_s L k 3)) L.length
theorem mc_walls {D : Nat} {σ : Nat → Int32} {L : List (Nat → Int32)} {M : am_M} (hy : av_y0 D M σ L) : am_val iX13_walls 0 [some (.ref (am_c D 13)), none, none] [] M = some (.inl (some (.int (av_cnw σ))), M, 0, 0) := by
  obtain ⟨hm, hr⟩ := hy
  have hl := av_lp (H := fun k x _ => am_val iX13_walls 4 [some (.ref (am_c D 13)), some (.int x), some (.int (nI k))] [] M) (g := am_cg (fun p => decide (0 < σ (18 + 2 * p)))) (N := 16) (r := fun x => some (.inl (some (.int x)), M, 0, 0)) 0 none
    (fun x o => by
      rw [ae_X13_walls_4, if_pos (show (16 : Int32) ≤ nI 16 by decide)]
      simp only [ae_X13_walls_0, ae_X13_walls_10, ae_X13_walls_16, ae_X13_walls_19, ae_X13_walls_23, ae_X13_walls_32])
    (fun k x o hk => by
      refine ⟨none, ?_⟩
      have e1 := mc_height hm hk
      rw [hr.1 (18 + 2 * k) (by omega) (by omega)] at e1
      rw [ae_X13_walls_4, if_neg (show ¬ (16 : Int32) ≤ nI k from nI_ge (b := 16) hk (by decide))]
      by_cases hx : σ (18 + 2 * k) ≤ 0
      · have hn : ¬ 0 < σ (18 + 2 * k) := by rw [am_nlt]; exact hx
        rw [am_cg_f (by simp [hn])]
        simp only [ae_X13_walls_0, ae_X13_walls_10, ae_X13_walls_16, ae_X13_walls_19, ae_X13_walls_23, ae_X13_walls_32, am_bnx_v, am_bnx_e, am_tl_s, am_tl_n, am_rv_s, am_add_rx, e1, hx, not_true_eq_false, not_false_eq_true, if_true, if_false, am_1n0, or_true, true_or, eq_self, Bool.true_eq_false, Bool.false_eq_true, cond_true, cond_false, Int32.add_zero, nI_1]
      · have hn : 0 < σ (18 + 2 * k) := by rw [am_nle] at hx; exact hx
        rw [am_cg_t (by simp [hn])]
        simp only [ae_X13_walls_0, ae_X13_walls_10, ae_X13_walls_16, ae_X13_walls_19, ae_X13_walls_23, ae_X13_walls_32, am_bnx_v, am_bnx_e, am_tl_s, am_tl_n, am_rv_s, am_add_rx, e1, hx, not_true_eq_false, not_false_eq_true, if_true, if_false, am_1n0, or_true, true_or, eq_self, Bool.true_eq_false, Bool.false_eq_true, cond_true, cond_false, nI_1])
  simp only [nI_0] at hl
  simp only [ae_X13_walls_0, ae_X13_walls_10, ae_X13_walls_16, ae_X13_walls_19, ae_X13_walls_23, ae_X13_walls_32, hl]
  rfl
theorem mc_echoes {D : Nat} {σ : Nat → Int32} {L : List (Nat → Int32)} {M : am_M} (hy : av_y0 D M σ L) (hl8 : L.length ≤ 8) : am_val iX13_echoes 0 [some (.ref (am_c D 13)), none, none] [] M = some (.inl (some (.int (av_cne L))), M, 0, 0) := by
  obtain ⟨hm, hr⟩ := hy
  have hl := av_lp (H := fun k x _ => am_val iX13_echoes 4 [some (.ref (am_c D 13)), some (.int x), some (.int (nI k))] [] M) (g := am_cg (fun k => decide (0 < av_s L k 3))) (N := L.length) (r := fun x => some (.inl (some (.int x)), M, 0, 0)) 0 none
    (fun x o => by
      rw [ae_X13_echoes_4, hm.1, am_rv_s]
      simp only [ae_X13_echoes_0, ae_X13_echoes_9, ae_X13_echoes_14, ae_X13_echoes_21, ae_X13_echoes_24, ae_X13_echoes_28, ae_X13_echoes_37, hr.2.1, av_he (show L.length < 2147483648 by omega), if_true])
    (fun k x o hk => by
      refine ⟨none, ?_⟩
      have e1 := mc_s3 (k := k) hm (by omega)
      rw [(av_mr_s hr hk).2.2.2.1] at e1
      rw [ae_X13_echoes_4, hm.1, am_rv_s]
      by_cases hx : av_s L k 3 ≤ 0
      · have hn : ¬ 0 < av_s L k 3 := by rw [am_nlt]; exact hx
        rw [am_cg_f (by simp [hn])]
        simp only [ae_X13_echoes_0, ae_X13_echoes_9, ae_X13_echoes_14, ae_X13_echoes_21, ae_X13_echoes_24, ae_X13_echoes_28, ae_X13_echoes_37, am_bnx_v, am_bnx_e, am_tl_s, am_tl_n, am_rv_s, am_add_rx, hr.2.1, av_hl hk (show L.length < 2147483648 by omega), e1, hx, not_true_eq_false, not_false_eq_true, if_true, if_false, am_1n0, or_true, true_or, eq_self, Bool.true_eq_false, Bool.false_eq_true, cond_true, cond_false, Int32.add_zero, nI_1]
      · have hn : 0 < av_s L k 3 := by rw [am_nle] at hx; exact hx
        rw [am_cg_t (by simp [hn])]
        simp only [ae_X13_echoes_0, ae_X13_echoes_9, ae_X13_echoes_14, ae_X13_echoes_21, ae_X13_echoes_24, ae_X13_echoes_28, ae_X13_echoes_37, am_bnx_v, am_bnx_e, am_tl_s, am_tl_n, am_rv_s, am_add_rx, hr.2.1, av_hl hk (show L.length < 2147483648 by omega), e1, hx, not_true_eq_false, not_false_eq_true, if_true, if_false, am_1n0, or_true, true_or, eq_self, Bool.true_eq_false, Bool.false_eq_true, cond_true, cond_false, nI_1])
  simp only [nI_0] at hl
  simp only [ae_X13_echoes_0, ae_X13_echoes_9, ae_X13_echoes_14, ae_X13_echoes_21, ae_X13_echoes_24, ae_X13_echoes_28, ae_X13_echoes_37, hl]
  rfl
def aq_account (σ : Nat → Int32) (L : List (Nat → Int32)) (h n : Nat) (w : Int32) : av_A := if w = 0 then .inl (av_cnw σ) else if w = 1 then .inl (σ 0) else if w = 2 then .inl (nI L.length) else if w = 3 then .inl (av_cne L) else if w = 4 then .inl (σ 2) else if w = 5 then .inl (σ 3) else if w = 6 then .inl (σ 4) else if w = 7 then .inl (σ 5) else if w = 8 then .inl (σ 6) else if w = 9 then .inl (σ 7) else if w = 10 then .inl (nI h) else if w = 11 then .inl (nI n) else .inr (2, 1)
theorem cq_account {B : Nat} {rm : Nat → Nat} {σ : Nat → Int32} {L : List (Nat → Int32)} {H : List av_K} {n : Nat} {T : Nat → Int32} {f w : Int32} {M : am_M} (p0 : M.2.1 (am_c 0 12) 0 = am_c B 1 + 1) (p1 : M.2.1 (am_c 0 12) 1 = am_c 25 3 + 1) (p5 : M.2.1 (am_c 0 12) 5 = am_c 244 10 + 1) (hC : av_C M B rm σ L) (h2 : av_x2 M H) (h5 : av_x5 M n T f) : av_qc (am_val iX12_account 0 [some (.ref (am_c 0 12)), some (.int w)] [] M) (aq_account σ L H.length n w) M := by
  have b0 := ac_bcount hC
  have b3 := ac_countEchoes hC
  obtain ⟨-, -, ν, g, -, -, b10, -, -⟩ := h2
  have b11 := h5.2.2.1
  obtain ⟨⟨⟨w0, w1, w2, w3, w4, w5, w6, w7, w8, w9⟩, hrm, hpr⟩, ⟨hnp, hs0, hln, hct⟩, hW, hT, hN, hP, hS, hB⟩ := hC
  obtain ⟨n0, n2, n3, n4, n5, n6, n8, n7⟩ := hN
  unfold aq_account
  by_cases h0 : w = 0
  · rw [if_pos h0]
    show (_ : am_T) = some (.inl (some (.int (av_cnw σ))), M, 0, 0)
    simp only [ae_X12_account_0, ae_X12_account_64, ae_X12_account_68, ae_X12_account_71, ae_X12_account_74, ae_X12_account_75, ae_X12_account_79, ae_X12_account_83, ae_X12_account_87, ae_X12_account_91, ae_X12_account_95, ae_X12_account_98, ae_X12_account_99, ae_X12_account_103, ae_X12_account_107, ae_X12_account_111, ae_X12_account_115, ae_X12_account_119, ae_X12_account_123, ae_X12_account_127, ae_X12_account_131, ae_X12_account_135, ae_X12_account_139, ae_X12_account_143, ae_X12_account_147, ae_X12_account_151, ae_X12_account_155, ae_X12_account_159, ae_X12_account_163, am_bnx_v, am_bnx_e, am_tl_s, am_tl_n, am_rv_s, am_add_rx, am_sw_y h0, p0, w0, b0]
    rfl
  · rw [if_neg h0]
    by_cases h1 : w = 1
    · rw [if_pos h1]
      show (_ : am_T) = some (.inl (some (.int (σ 0))), M, 0, 0)
      simp only [ae_X12_account_0, ae_X12_account_64, ae_X12_account_68, ae_X12_account_71, ae_X12_account_74, ae_X12_account_75, ae_X12_account_79, ae_X12_account_83, ae_X12_account_87, ae_X12_account_91, ae_X12_account_95, ae_X12_account_98, ae_X12_account_99, ae_X12_account_103, ae_X12_account_107, ae_X12_account_111, ae_X12_account_115, ae_X12_account_119, ae_X12_account_123, ae_X12_account_127, ae_X12_account_131, ae_X12_account_135, ae_X12_account_139, ae_X12_account_143, ae_X12_account_147, ae_X12_account_151, ae_X12_account_155, ae_X12_account_159, ae_X12_account_163, am_bnx_v, am_bnx_e, am_tl_s, am_tl_n, am_rv_s, am_add_rx, am_sw_n h0, am_sw_y h1, p0, n0]
    · rw [if_neg h1]
      by_cases h2 : w = 2
      · rw [if_pos h2]
        show (_ : am_T) = some (.inl (some (.int (nI L.length))), M, 0, 0)
        simp only [ae_X12_account_0, ae_X12_account_64, ae_X12_account_68, ae_X12_account_71, ae_X12_account_74, ae_X12_account_75, ae_X12_account_79, ae_X12_account_83, ae_X12_account_87, ae_X12_account_91, ae_X12_account_95, ae_X12_account_98, ae_X12_account_99, ae_X12_account_103, ae_X12_account_107, ae_X12_account_111, ae_X12_account_115, ae_X12_account_119, ae_X12_account_123, ae_X12_account_127, ae_X12_account_131, ae_X12_account_135, ae_X12_account_139, ae_X12_account_143, ae_X12_account_147, ae_X12_account_151, ae_X12_account_155, ae_X12_account_159, ae_X12_account_163, am_bnx_v, am_bnx_e, am_tl_s, am_tl_n, am_rv_s, am_add_rx, am_sw_n h0, am_sw_n h1, am_sw_y h2, p0, hct]
      · rw [if_neg h2]
        by_cases h3 : w = 3
        · rw [if_pos h3]
          show (_ : am_T) = some (.inl (some (.int (av_cne L))), M, 0, 0)
          simp only [ae_X12_account_0, ae_X12_account_64, ae_X12_account_68, ae_X12_account_71, ae_X12_account_74, ae_X12_account_75, ae_X12_account_79, ae_X12_account_83, ae_X12_account_87, ae_X12_account_91, ae_X12_account_95, ae_X12_account_98, ae_X12_account_99, ae_X12_account_103, ae_X12_account_107, ae_X12_account_111, ae_X12_account_115, ae_X12_account_119, ae_X12_account_123, ae_X12_account_127, ae_X12_account_131, ae_X12_account_135, ae_X12_account_139, ae_X12_account_143, ae_X12_account_147, ae_X12_account_151, ae_X12_account_155, ae_X12_account_159, ae_X12_account_163, am_bnx_v, am_bnx_e, am_tl_s, am_tl_n, am_rv_s, am_add_rx, am_sw_n h0, am_sw_n h1, am_sw_n h2, am_sw_y h3, p0, b3]
          rfl
        · rw [if_neg h3]
          by_cases h4 : w = 4
          · rw [if_pos h4]
            show (_ : am_T) = some (.inl (some (.int (σ 2))), M, 0, 0)
            simp only [ae_X12_account_0, ae_X12_account_64, ae_X12_account_68, ae_X12_account_71, ae_X12_account_74, ae_X12_account_75, ae_X12_account_79, ae_X12_account_83, ae_X12_account_87, ae_X12_account_91, ae_X12_account_95, ae_X12_account_98, ae_X12_account_99, ae_X12_account_103, ae_X12_account_107, ae_X12_account_111, ae_X12_account_115, ae_X12_account_119, ae_X12_account_123, ae_X12_account_127, ae_X12_account_131, ae_X12_account_135, ae_X12_account_139, ae_X12_account_143, ae_X12_account_147, ae_X12_account_151, ae_X12_account_155, ae_X12_account_159, ae_X12_account_163, am_bnx_v, am_bnx_e, am_tl_s, am_tl_n, am_rv_s, am_add_rx, am_sw_n h0, am_sw_n h1, am_sw_n h2, am_sw_n h3, am_sw_y h4, p0, n2]
          · rw [if_neg h4]
            by_cases h5 : w = 5
            · rw [if_pos h5]
              show (_ : am_T) = some (.inl (some (.int (σ 3))), M, 0, 0)
              simp only [ae_X12_account_0, ae_X12_account_64, ae_X12_account_68, ae_X12_account_71, ae_X12_account_74, ae_X12_account_75, ae_X12_account_79, ae_X12_account_83, ae_X12_account_87, ae_X12_account_91, ae_X12_account_95, ae_X12_account_98, ae_X12_account_99, ae_X12_account_103, ae_X12_account_107, ae_X12_account_111, ae_X12_account_115, ae_X12_account_119, ae_X12_account_123, ae_X12_account_127, ae_X12_account_131, ae_X12_account_135, ae_X12_account_139, ae_X12_account_143, ae_X12_account_147, ae_X12_account_151, ae_X12_account_155, ae_X12_account_159, ae_X12_account_163, am_bnx_v, am_bnx_e, am_tl_s, am_tl_n, am_rv_s, am_add_rx, am_sw_n h0, am_sw_n h1, am_sw_n h2, am_sw_n h3, am_sw_n h4, am_sw_y h5, p0, n3]
            · rw [if_neg h5]
              by_cases h6 : w = 6
              · rw [if_pos h6]
                show (_ : am_T) = some (.inl (some (.int (σ 4))), M, 0, 0)
                simp only [ae_X12_account_0, ae_X12_account_64, ae_X12_account_68, ae_X12_account_71, ae_X12_account_74, ae_X12_account_75, ae_X12_account_79, ae_X12_account_83, ae_X12_account_87, ae_X12_account_91, ae_X12_account_95, ae_X12_account_98, ae_X12_account_99, ae_X12_account_103, ae_X12_account_107, ae_X12_account_111, ae_X12_account_115, ae_X12_account_119, ae_X12_account_123, ae_X12_account_127, ae_X12_account_131, ae_X12_account_135, ae_X12_account_139, ae_X12_account_143, ae_X12_account_147, ae_X12_account_151, ae_X12_account_155, ae_X12_account_159, ae_X12_account_163, am_bnx_v, am_bnx_e, am_tl_s, am_tl_n, am_rv_s, am_add_rx, am_sw_n h0, am_sw_n h1, am_sw_n h2, am_sw_n h3, am_sw_n h4, am_sw_n h5, am_sw_y h6, p0, n4]
              · rw [if_neg h6]
                by_cases h7 : w = 7
                · rw [if_pos h7]
                  show (_ : am_T) = some (.inl (some (.int (σ 5))), M, 0, 0)
                  simp only [ae_X12_account_0, ae_X12_account_64, ae_X12_account_68, ae_X12_account_71, ae_X12_account_74, ae_X12_account_75, ae_X12_account_79, ae_X12_account_83, ae_X12_account_87, ae_X12_account_91, ae_X12_account_95, ae_X12_account_98, ae_X12_account_99, ae_X12_account_103, ae_X12_account_107, ae_X12_account_111, ae_X12_account_115, ae_X12_account_119, ae_X12_account_123, ae_X12_account_127, ae_X12_account_131, ae_X12_account_135, ae_X12_account_139, ae_X12_account_143, ae_X12_account_147, ae_X12_account_151, ae_X12_account_155, ae_X12_account_159, ae_X12_account_163, am_bnx_v, am_bnx_e, am_tl_s, am_tl_n, am_rv_s, am_add_rx, am_sw_n h0, am_sw_n h1, am_sw_n h2, am_sw_n h3, am_sw_n h4, am_sw_n h5, am_sw_n h6, am_sw_y h7, p0, n5]
                · rw [if_neg h7]
                  by_cases h8 : w = 8
                  · rw [if_pos h8]
                    show (_ : am_T) = some (.inl (some (.int (σ 6))), M, 0, 0)
                    simp only [ae_X12_account_0, ae_X12_account_64, ae_X12_account_68, ae_X12_account_71, ae_X12_account_74, ae_X12_account_75, ae_X12_account_79, ae_X12_account_83, ae_X12_account_87, ae_X12_account_91, ae_X12_account_95, ae_X12_account_98, ae_X12_account_99, ae_X12_account_103, ae_X12_account_107, ae_X12_account_111, ae_X12_account_115, ae_X12_account_119, ae_X12_account_123, ae_X12_account_127, ae_X12_account_131, ae_X12_account_135, ae_X12_account_139, ae_X12_account_143, ae_X12_account_147, ae_X12_account_151, ae_X12_account_155, ae_X12_account_159, ae_X12_account_163, am_bnx_v, am_bnx_e, am_tl_s, am_tl_n, am_rv_s, am_add_rx, am_sw_n h0, am_sw_n h1, am_sw_n h2, am_sw_n h3, am_sw_n h4, am_sw_n h5, am_sw_n h6, am_sw_n h7, am_sw_y h8, p0, n6]
                  · rw [if_neg h8]
                    by_cases h9 : w = 9
                    · rw [if_pos h9]
                      show (_ : am_T) = some (.inl (some (.int (σ 7))), M, 0, 0)
                      simp only [ae_X12_account_0, ae_X12_account_64, ae_X12_account_68, ae_X12_account_71, ae_X12_account_74, ae_X12_account_75, ae_X12_account_79, ae_X12_account_83, ae_X12_account_87, ae_X12_account_91, ae_X12_account_95, ae_X12_account_98, ae_X12_account_99, ae_X12_account_103, ae_X12_account_107, ae_X12_account_111, ae_X12_account_115, ae_X12_account_119, ae_X12_account_123, ae_X12_account_127, ae_X12_account_131, ae_X12_account_135, ae_X12_account_139, ae_X12_account_143, ae_X12_account_147, ae_X12_account_151, ae_X12_account_155, ae_X12_account_159, ae_X12_account_163, am_bnx_v, am_bnx_e, am_tl_s, am_tl_n, am_rv_s, am_add_rx, am_sw_n h0, am_sw_n h1, am_sw_n h2, am_sw_n h3, am_sw_n h4, am_sw_n h5, am_sw_n h6, am_sw_n h7, am_sw_n h8, am_sw_y h9, p0, n7]
                    · rw [if_neg h9]
                      by_cases h10 : w = 10
                      · rw [if_pos h10]
                        show (_ : am_T) = some (.inl (some (.int (nI H.length))), M, 0, 0)
                        simp only [ae_X12_account_0, ae_X12_account_64, ae_X12_account_68, ae_X12_account_71, ae_X12_account_74, ae_X12_account_75, ae_X12_account_79, ae_X12_account_83, ae_X12_account_87, ae_X12_account_91, ae_X12_account_95, ae_X12_account_98, ae_X12_account_99, ae_X12_account_103, ae_X12_account_107, ae_X12_account_111, ae_X12_account_115, ae_X12_account_119, ae_X12_account_123, ae_X12_account_127, ae_X12_account_131, ae_X12_account_135, ae_X12_account_139, ae_X12_account_143, ae_X12_account_147, ae_X12_account_151, ae_X12_account_155, ae_X12_account_159, ae_X12_account_163, am_bnx_v, am_bnx_e, am_tl_s, am_tl_n, am_rv_s, am_add_rx, am_sw_n h0, am_sw_n h1, am_sw_n h2, am_sw_n h3, am_sw_n h4, am_sw_n h5, am_sw_n h6, am_sw_n h7, am_sw_n h8, am_sw_n h9, am_sw_y h10, p0, p1, b10]
                      · rw [if_neg h10]
                        by_cases h11 : w = 11
                        · rw [if_pos h11]
                          show (_ : am_T) = some (.inl (some (.int (nI n))), M, 0, 0)
                          simp only [ae_X12_account_0, ae_X12_account_64, ae_X12_account_68, ae_X12_account_71, ae_X12_account_74, ae_X12_account_75, ae_X12_account_79, ae_X12_account_83, ae_X12_account_87, ae_X12_account_91, ae_X12_account_95, ae_X12_account_98, ae_X12_account_99, ae_X12_account_103, ae_X12_account_107, ae_X12_account_111, ae_X12_account_115, ae_X12_account_119, ae_X12_account_123, ae_X12_account_127, ae_X12_account_131, ae_X12_account_135, ae_X12_account_139, ae_X12_account_143, ae_X12_account_147, ae_X12_account_151, ae_X12_account_155, ae_X12_account_159, ae_X12_account_163, am_bnx_v, am_bnx_e, am_tl_s, am_tl_n, am_rv_s, am_add_rx, am_sw_n h0, am_sw_n h1, am_sw_n h2, am_sw_n h3, am_sw_n h4, am_sw_n h5, am_sw_n h6, am_sw_n h7, am_sw_n h8, am_sw_n h9, am_sw_n h10, am_sw_y h11, p0, p5, b11]
                        · rw [if_neg h11]
                          show (_ : am_T) = some (.inr 2, M, 1, 6)
                          simp only [ae_X12_account_0, ae_X12_account_64, ae_X12_account_68, ae_X12_account_71, ae_X12_account_74, ae_X12_account_75, ae_X12_account_79, ae_X12_account_83, ae_X12_account_87, ae_X12_account_91, ae_X12_account_95, ae_X12_account_98, ae_X12_account_99, ae_X12_account_103, ae_X12_account_107, ae_X12_account_111, ae_X12_account_115, ae_X12_account_119, ae_X12_account_123, ae_X12_account_127, ae_X12_account_131, ae_X12_account_135, ae_X12_account_139, ae_X12_account_143, ae_X12_account_147, ae_X12_account_151, ae_X12_account_155, ae_X12_account_159, ae_X12_account_163, am_bnx_v, am_bnx_e, am_tl_s, am_tl_n, am_rv_s, am_add_rx, am_sw_n h0, am_sw_n h1, am_sw_n h2, am_sw_n h3, am_sw_n h4, am_sw_n h5, am_sw_n h6, am_sw_n h7, am_sw_n h8, am_sw_n h9, am_sw_n h10, am_sw_n h11, am_sw_0]
theorem mq_account {σ : Nat → Int32} {L : List (Nat → Int32)} {H : List av_K} {P : Option av_K} {q : Int32 × Int32 × Int32} {n : Nat} {T : Nat → Int32} {f : Int32} {l : List Int32} {D : Nat} {w : Int32} {M : am_M} (hy : av_y D M σ L H P q n T f l) (hl8 : L.length ≤ 8) : ∃ M2, av_qm D (am_val iX13_account 0 [some (.ref (am_c D 13)), some (.int w)] [] M) (aq_account σ L H.length n w) M2 ∧ av_ys D M M2 := by
  obtain ⟨y0, hs, y1⟩ := av_yq (x := 0) hy
  have b0 := mc_walls y0
  have b3 := mc_echoes y0 hl8
  have m1 : (av_i M (am_c D 13) 0 0).2.1 (am_c D 13) 1 = am_c (D + 1) 18 + 1 := y0.1.1
  have b10 := y1.2.1.2.1
  have b11 := y1.2.2.2.2.1.2.1
  have g0 := y0.2.1 0 (by decide) (by decide)
  have g1 := y0.2.2.1
  have g2 := y0.2.1 2 (by decide) (by decide)
  have g3 := y0.2.1 3 (by decide) (by decide)
  have g4 := y0.2.1 4 (by decide) (by decide)
  have g5 := y0.2.1 5 (by decide) (by decide)
  have g6 := y0.2.1 6 (by decide) (by decide)
  have g7 := y0.2.1 7 (by decide) (by decide)
  unfold aq_account
  by_cases h0 : w = 0
  · rw [if_pos h0]
    refine ⟨av_i M (am_c D 13) 0 0, ⟨?_, av_jS⟩, hs⟩
    simp only [ae_X13_account_0, ae_X13_account_68, ae_X13_account_72, ae_X13_account_73, ae_X13_account_77, ae_X13_account_80, ae_X13_account_84, ae_X13_account_87, ae_X13_account_91, ae_X13_account_92, ae_X13_account_96, ae_X13_account_99, ae_X13_account_103, ae_X13_account_106, ae_X13_account_110, ae_X13_account_113, ae_X13_account_117, ae_X13_account_120, ae_X13_account_124, ae_X13_account_128, ae_X13_account_132, ae_X13_account_136, ae_X13_account_141, ae_X13_account_146, ae_X13_account_151, am_bnx_v, am_bnx_e, am_tl_s, am_tl_n, am_rv_s, am_add_rx, am_sw_y h0, b0]
  · rw [if_neg h0]
    by_cases h1 : w = 1
    · rw [if_pos h1]
      refine ⟨av_i M (am_c D 13) 0 0, ⟨?_, av_jS⟩, hs⟩
      simp only [ae_X13_account_0, ae_X13_account_68, ae_X13_account_72, ae_X13_account_73, ae_X13_account_77, ae_X13_account_80, ae_X13_account_84, ae_X13_account_87, ae_X13_account_91, ae_X13_account_92, ae_X13_account_96, ae_X13_account_99, ae_X13_account_103, ae_X13_account_106, ae_X13_account_110, ae_X13_account_113, ae_X13_account_117, ae_X13_account_120, ae_X13_account_124, ae_X13_account_128, ae_X13_account_132, ae_X13_account_136, ae_X13_account_141, ae_X13_account_146, ae_X13_account_151, am_bnx_v, am_bnx_e, am_tl_s, am_tl_n, am_rv_s, am_add_rx, am_sw_n h0, am_sw_y h1, m1, g0]
    · rw [if_neg h1]
      by_cases h2 : w = 2
      · rw [if_pos h2]
        refine ⟨av_i M (am_c D 13) 0 0, ⟨?_, av_jS⟩, hs⟩
        simp only [ae_X13_account_0, ae_X13_account_68, ae_X13_account_72, ae_X13_account_73, ae_X13_account_77, ae_X13_account_80, ae_X13_account_84, ae_X13_account_87, ae_X13_account_91, ae_X13_account_92, ae_X13_account_96, ae_X13_account_99, ae_X13_account_103, ae_X13_account_106, ae_X13_account_110, ae_X13_account_113, ae_X13_account_117, ae_X13_account_120, ae_X13_account_124, ae_X13_account_128, ae_X13_account_132, ae_X13_account_136, ae_X13_account_141, ae_X13_account_146, ae_X13_account_151, am_bnx_v, am_bnx_e, am_tl_s, am_tl_n, am_rv_s, am_add_rx, am_sw_n h0, am_sw_n h1, am_sw_y h2, m1, g1]
      · rw [if_neg h2]
        by_cases h3 : w = 3
        · rw [if_pos h3]
          refine ⟨av_i M (am_c D 13) 0 0, ⟨?_, av_jS⟩, hs⟩
          simp only [ae_X13_account_0, ae_X13_account_68, ae_X13_account_72, ae_X13_account_73, ae_X13_account_77, ae_X13_account_80, ae_X13_account_84, ae_X13_account_87, ae_X13_account_91, ae_X13_account_92, ae_X13_account_96, ae_X13_account_99, ae_X13_account_103, ae_X13_account_106, ae_X13_account_110, ae_X13_account_113, ae_X13_account_117, ae_X13_account_120, ae_X13_account_124, ae_X13_account_128, ae_X13_account_132, ae_X13_account_136, ae_X13_account_141, ae_X13_account_146, ae_X13_account_151, am_bnx_v, am_bnx_e, am_tl_s, am_tl_n, am_rv_s, am_add_rx, am_sw_n h0, am_sw_n h1, am_sw_n h2, am_sw_y h3, b3]
        · rw [if_neg h3]
          by_cases h4 : w = 4
          · rw [if_pos h4]
            refine ⟨av_i M (am_c D 13) 0 0, ⟨?_, av_jS⟩, hs⟩
            simp only [ae_X13_account_0, ae_X13_account_68, ae_X13_account_72, ae_X13_account_73, ae_X13_account_77, ae_X13_account_80, ae_X13_account_84, ae_X13_account_87, ae_X13_account_91, ae_X13_account_92, ae_X13_account_96, ae_X13_account_99, ae_X13_account_103, ae_X13_account_106, ae_X13_account_110, ae_X13_account_113, ae_X13_account_117, ae_X13_account_120, ae_X13_account_124, ae_X13_account_128, ae_X13_account_132, ae_X13_account_136, ae_X13_account_141, ae_X13_account_146, ae_X13_account_151, am_bnx_v, am_bnx_e, am_tl_s, am_tl_n, am_rv_s, am_add_rx, am_sw_n h0, am_sw_n h1, am_sw_n h2, am_sw_n h3, am_sw_y h4, m1, g2]
          · rw [if_neg h4]
            by_cases h5 : w = 5
            · rw [if_pos h5]
              refine ⟨av_i M (am_c D 13) 0 0, ⟨?_, av_jS⟩, hs⟩
              simp only [ae_X13_account_0, ae_X13_account_68, ae_X13_account_72, ae_X13_account_73, ae_X13_account_77, ae_X13_account_80, ae_X13_account_84, ae_X13_account_87, ae_X13_account_91, ae_X13_account_92, ae_X13_account_96, ae_X13_account_99, ae_X13_account_103, ae_X13_account_106, ae_X13_account_110, ae_X13_account_113, ae_X13_account_117, ae_X13_account_120, ae_X13_account_124, ae_X13_account_128, ae_X13_account_132, ae_X13_account_136, ae_X13_account_141, ae_X13_account_146, ae_X13_account_151, am_bnx_v, am_bnx_e, am_tl_s, am_tl_n, am_rv_s, am_add_rx, am_sw_n h0, am_sw_n h1, am_sw_n h2, am_sw_n h3, am_sw_n h4, am_sw_y h5, m1, g3]
            · rw [if_neg h5]
              by_cases h6 : w = 6
              · rw [if_pos h6]
                refine ⟨av_i M (am_c D 13) 0 0, ⟨?_, av_jS⟩, hs⟩
                simp only [ae_X13_account_0, ae_X13_account_68, ae_X13_account_72, ae_X13_account_73, ae_X13_account_77, ae_X13_account_80, ae_X13_account_84, ae_X13_account_87, ae_X13_account_91, ae_X13_account_92, ae_X13_account_96, ae_X13_account_99, ae_X13_account_103, ae_X13_account_106, ae_X13_account_110, ae_X13_account_113, ae_X13_account_117, ae_X13_account_120, ae_X13_account_124, ae_X13_account_128, ae_X13_account_132, ae_X13_account_136, ae_X13_account_141, ae_X13_account_146, ae_X13_account_151, am_bnx_v, am_bnx_e, am_tl_s, am_tl_n, am_rv_s, am_add_rx, am_sw_n h0, am_sw_n h1, am_sw_n h2, am_sw_n h3, am_sw_n h4, am_sw_n h5, am_sw_y h6, m1, g4]
              · rw [if_neg h6]
                by_cases h7 : w = 7
                · rw [if_pos h7]
                  refine ⟨av_i M (am_c D 13) 0 0, ⟨?_, av_jS⟩, hs⟩
                  simp only [ae_X13_account_0, ae_X13_account_68, ae_X13_account_72, ae_X13_account_73, ae_X13_account_77, ae_X13_account_80, ae_X13_account_84, ae_X13_account_87, ae_X13_account_91, ae_X13_account_92, ae_X13_account_96, ae_X13_account_99, ae_X13_account_103, ae_X13_account_106, ae_X13_account_110, ae_X13_account_113, ae_X13_account_117, ae_X13_account_120, ae_X13_account_124, ae_X13_account_128, ae_X13_account_132, ae_X13_account_136, ae_X13_account_141, ae_X13_account_146, ae_X13_account_151, am_bnx_v, am_bnx_e, am_tl_s, am_tl_n, am_rv_s, am_add_rx, am_sw_n h0, am_sw_n h1, am_sw_n h2, am_sw_n h3, am_sw_n h4, am_sw_n h5, am_sw_n h6, am_sw_y h7, m1, g5]
                · rw [if_neg h7]
                  by_cases h8 : w = 8
                  · rw [if_pos h8]
                    refine ⟨av_i M (am_c D 13) 0 0, ⟨?_, av_jS⟩, hs⟩
                    simp only [ae_X13_account_0, ae_X13_account_68, ae_X13_account_72, ae_X13_account_73, ae_X13_account_77, ae_X13_account_80, ae_X13_account_84, ae_X13_account_87, ae_X13_account_91, ae_X13_account_92, ae_X13_account_96, ae_X13_account_99, ae_X13_account_103, ae_X13_account_106, ae_X13_account_110, ae_X13_account_113, ae_X13_account_117, ae_X13_account_120, ae_X13_account_124, ae_X13_account_128, ae_X13_account_132, ae_X13_account_136, ae_X13_account_141, ae_X13_account_146, ae_X13_account_151, am_bnx_v, am_bnx_e, am_tl_s, am_tl_n, am_rv_s, am_add_rx, am_sw_n h0, am_sw_n h1, am_sw_n h2, am_sw_n h3, am_sw_n h4, am_sw_n h5, am_sw_n h6, am_sw_n h7, am_sw_y h8, m1, g6]
                  · rw [if_neg h8]
                    by_cases h9 : w = 9
                    · rw [if_pos h9]
                      refine ⟨av_i M (am_c D 13) 0 0, ⟨?_, av_jS⟩, hs⟩
                      simp only [ae_X13_account_0, ae_X13_account_68, ae_X13_account_72, ae_X13_account_73, ae_X13_account_77, ae_X13_account_80, ae_X13_account_84, ae_X13_account_87, ae_X13_account_91, ae_X13_account_92, ae_X13_account_96, ae_X13_account_99, ae_X13_account_103, ae_X13_account_106, ae_X13_account_110, ae_X13_account_113, ae_X13_account_117, ae_X13_account_120, ae_X13_account_124, ae_X13_account_128, ae_X13_account_132, ae_X13_account_136, ae_X13_account_141, ae_X13_account_146, ae_X13_account_151, am_bnx_v, am_bnx_e, am_tl_s, am_tl_n, am_rv_s, am_add_rx, am_sw_n h0, am_sw_n h1, am_sw_n h2, am_sw_n h3, am_sw_n h4, am_sw_n h5, am_sw_n h6, am_sw_n h7, am_sw_n h8, am_sw_y h9, m1, g7]
                    · rw [if_neg h9]
                      by_cases h10 : w = 10
                      · rw [if_pos h10]
                        refine ⟨av_i M (am_c D 13) 0 0, ⟨?_, av_jS⟩, hs⟩
                        simp only [ae_X13_account_0, ae_X13_account_68, ae_X13_account_72, ae_X13_account_73, ae_X13_account_77, ae_X13_account_80, ae_X13_account_84, ae_X13_account_87, ae_X13_account_91, ae_X13_account_92, ae_X13_account_96, ae_X13_account_99, ae_X13_account_103, ae_X13_account_106, ae_X13_account_110, ae_X13_account_113, ae_X13_account_117, ae_X13_account_120, ae_X13_account_124, ae_X13_account_128, ae_X13_account_132, ae_X13_account_136, ae_X13_account_141, ae_X13_account_146, ae_X13_account_151, am_bnx_v, am_bnx_e, am_tl_s, am_tl_n, am_rv_s, am_add_rx, am_sw_n h0, am_sw_n h1, am_sw_n h2, am_sw_n h3, am_sw_n h4, am_sw_n h5, am_sw_n h6, am_sw_n h7, am_sw_n h8, am_sw_n h9, am_sw_y h10, b10]
                      · rw [if_neg h10]
                        by_cases h11 : w = 11
                        · rw [if_pos h11]
                          refine ⟨av_i M (am_c D 13) 0 0, ⟨?_, av_jS⟩, hs⟩
                          simp only [ae_X13_account_0, ae_X13_account_68, ae_X13_account_72, ae_X13_account_73, ae_X13_account_77, ae_X13_account_80, ae_X13_account_84, ae_X13_account_87, ae_X13_account_91, ae_X13_account_92, ae_X13_account_96, ae_X13_account_99, ae_X13_account_103, ae_X13_account_106, ae_X13_account_110, ae_X13_account_113, ae_X13_account_117, ae_X13_account_120, ae_X13_account_124, ae_X13_account_128, ae_X13_account_132, ae_X13_account_136, ae_X13_account_141, ae_X13_account_146, ae_X13_account_151, am_bnx_v, am_bnx_e, am_tl_s, am_tl_n, am_rv_s, am_add_rx, am_sw_n h0, am_sw_n h1, am_sw_n h2, am_sw_n h3, am_sw_n h4, am_sw_n h5, am_sw_n h6, am_sw_n h7, am_sw_n h8, am_sw_n h9, am_sw_n h10, am_sw_y h11, b11]
                        · rw [if_neg h11]
                          refine ⟨av_i (av_i M (am_c D 13) 0 0) (am_c D 13) 0 1, ⟨0, ?_, av_jS⟩, av_ys_t hs (av_ys_i (Or.inl rfl))⟩
                          simp only [ae_X13_account_0, ae_X13_account_68, ae_X13_account_72, ae_X13_account_73, ae_X13_account_77, ae_X13_account_80, ae_X13_account_84, ae_X13_account_87, ae_X13_account_91, ae_X13_account_92, ae_X13_account_96, ae_X13_account_99, ae_X13_account_103, ae_X13_account_106, ae_X13_account_110, ae_X13_account_113, ae_X13_account_117, ae_X13_account_120, ae_X13_account_124, ae_X13_account_128, ae_X13_account_132, ae_X13_account_136, ae_X13_account_141, ae_X13_account_146, ae_X13_account_151, am_bnx_v, am_bnx_e, am_tl_s, am_tl_n, am_rv_s, am_add_rx, am_sw_n h0, am_sw_n h1, am_sw_n h2, am_sw_n h3, am_sw_n h4, am_sw_n h5, am_sw_n h6, am_sw_n h7, am_sw_n h8, am_sw_n h9, am_sw_n h10, am_sw_n h11, am_sw_0, mc_fails]
/-! character -/
def aq_char (l : List Int32) (i : Int32) : av_A := if am_lt i l.length = false then .inr (1, 1) else .inl (l.getD (av_ix i) 0)
theorem cq_char {l : List Int32} {a : Int32} {M : am_M} (p6 : M.2.1 (am_c 0 12) 6 = am_c 246 4 + 1) (h6 : av_x6 M l) : av_qc (am_val iX12_character 0 [some (.ref (am_c 0 12)), some (.int a)] [] M) (aq_char l a) M := by
  obtain ⟨k0, k1, k2, k3, k4⟩ := h6
  have hw := am_wt_lt (x := a) (show l.length < 2147483648 by omega)
  unfold aq_char
  cases hp : am_lt a l.length with
  | false =>
    rw [if_pos rfl]
    rw [hp] at hw
    show (_ : am_T) = some (.inr 1, M, 1, 6)
    simp only [ae_X12_character_0, ae_X12_character_6, ae_X12_character_14, ae_X12_character_17, ae_X12_character_28, ae_X12_character_32, ae_X12_character_35, am_bnx_v, am_bnx_e, am_tl_s, am_tl_n, am_rv_s, am_add_rx, p6, k2, ac_isWithin, hw, am_bi_f, not_true_eq_false, not_false_eq_true, if_true, if_false, am_1n0, or_true, true_or, eq_self, Bool.true_eq_false, Bool.false_eq_true, cond_true, cond_false]
  | true =>
    rw [if_neg (by decide)]
    rw [hp] at hw
    obtain ⟨j, hj, rfl⟩ := am_lt_n (by omega) hp
    have hin := am_in_n (show j < 32 by omega) (by decide)
    have htn := am_tn (show j < 2147483648 by omega)
    have h4 := k4 j hj
    rw [av_ix_n (by omega)]
    show (_ : am_T) = some (.inl (some (.int (l.getD j 0))), M, 0, 0)
    simp only [ae_X12_character_0, ae_X12_character_6, ae_X12_character_14, ae_X12_character_17, ae_X12_character_28, ae_X12_character_32, ae_X12_character_35, am_bnx_v, am_bnx_e, am_tl_s, am_tl_n, am_rv_s, am_add_rx, p6, k0, k2, ac_isWithin, hw, am_bi_t, not_true_eq_false, not_false_eq_true, if_true, if_false, am_1n0, or_true, true_or, eq_self, Bool.true_eq_false, Bool.false_eq_true, cond_true, cond_false, hin, htn, k3 j hj, h4]
theorem mq_char {σ : Nat → Int32} {L : List (Nat → Int32)} {H : List av_K} {P : Option av_K} {q : Int32 × Int32 × Int32} {n : Nat} {T : Nat → Int32} {f : Int32} {l : List Int32} {D : Nat} {a : Int32} {M : am_M} (hy : av_y D M σ L H P q n T f l) (h4 : ∀ j, j < l.length → ((l.getD j 0).toUInt32 % 65536).toInt32 = l.getD j 0) : ∃ M2, av_qm D (am_val iX13_character 0 [some (.ref (am_c D 13)), some (.int a)] [] M) (aq_char l a) M2 ∧ av_ys D M M2 := by
  obtain ⟨k1, k2, k3⟩ := hy.2.2.2.2.2
  have hw := am_wt_lt (x := a) (show l.length < 2147483648 by omega)
  unfold aq_char
  cases hp : am_lt a l.length with
  | false =>
    rw [if_pos rfl]
    rw [hp] at hw
    refine ⟨av_i M (am_c D 13) 0 1, ⟨0, ?_, av_jS⟩, (av_yq hy).2.1⟩
    simp only [ae_X13_character_0, ae_X13_character_12, ae_X13_character_15, ae_X13_character_19, ae_X13_character_30, ae_X13_character_34, ae_X13_character_38, am_bnx_v, am_bnx_e, am_tl_s, am_tl_n, am_rv_s, am_add_rx, k2, mc_in, hw, am_bi_f, not_true_eq_false, not_false_eq_true, if_true, if_false, am_1n0, or_true, true_or, eq_self, Bool.true_eq_false, Bool.false_eq_true, cond_true, cond_false, av_jS, am_l1]
  | true =>
    rw [if_neg (by decide)]
    rw [hp] at hw
    obtain ⟨j, hj, rfl⟩ := am_lt_n (by omega) hp
    have hin := am_in_n (show j < 60 by omega) (by decide)
    have htn := am_tn (show j < 2147483648 by omega)
    obtain ⟨-, hs, y1⟩ := av_yq (x := 0) hy
    have m9 : (av_i M (am_c D 13) 0 0).2.1 (am_c D 13) 9 = am_c (D + 7) 20 + 1 := y1.1.1.2.2.2.2.2.2
    have g := y1.2.2.2.2.2.2.2 j hj
    rw [av_ix_n (by omega)]
    refine ⟨av_i M (am_c D 13) 0 0, ⟨?_, av_jS⟩, hs⟩
    simp only [ae_X13_character_0, ae_X13_character_12, ae_X13_character_15, ae_X13_character_19, ae_X13_character_30, ae_X13_character_34, ae_X13_character_38, am_bnx_v, am_bnx_e, am_tl_s, am_tl_n, am_rv_s, am_add_rx, k2, mc_in, hw, am_bi_t, not_true_eq_false, not_false_eq_true, if_true, if_false, am_1n0, or_true, true_or, eq_self, Bool.true_eq_false, Bool.false_eq_true, cond_true, cond_false, av_jS, am_l0, m9, hin, htn, g, h4 j hj]
