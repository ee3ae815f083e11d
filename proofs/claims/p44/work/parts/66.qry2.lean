/-! questions: players, sounds, echoes, prices -/
theorem am_d_1_0 : ¬ (1 : Int32) = 0 := by decide
theorem am_d_2_0 : ¬ (2 : Int32) = 0 := by decide
theorem am_d_2_1 : ¬ (2 : Int32) = 1 := by decide
theorem am_d_3_0 : ¬ (3 : Int32) = 0 := by decide
theorem am_d_3_1 : ¬ (3 : Int32) = 1 := by decide
theorem am_d_3_2 : ¬ (3 : Int32) = 2 := by decide
theorem am_d_4_0 : ¬ (4 : Int32) = 0 := by decide
theorem am_d_4_1 : ¬ (4 : Int32) = 1 := by decide
theorem am_d_4_2 : ¬ (4 : Int32) = 2 := by decide
theorem am_d_4_3 : ¬ (4 : Int32) = 3 := by decide
theorem am_d_5_0 : ¬ (5 : Int32) = 0 := by decide
theorem am_d_5_1 : ¬ (5 : Int32) = 1 := by decide
theorem am_d_5_2 : ¬ (5 : Int32) = 2 := by decide
theorem am_d_5_3 : ¬ (5 : Int32) = 3 := by decide
theorem am_d_5_4 : ¬ (5 : Int32) = 4 := by decide
theorem am_d_6_0 : ¬ (6 : Int32) = 0 := by decide
theorem am_d_6_1 : ¬ (6 : Int32) = 1 := by decide
theorem am_d_6_2 : ¬ (6 : Int32) = 2 := by decide
theorem am_d_6_3 : ¬ (6 : Int32) = 3 := by decide
theorem am_d_6_4 : ¬ (6 : Int32) = 4 := by decide
theorem am_d_6_5 : ¬ (6 : Int32) = 5 := by decide
theorem am_d_7_0 : ¬ (7 : Int32) = 0 := by decide
theorem am_d_7_1 : ¬ (7 : Int32) = 1 := by decide
theorem am_d_7_2 : ¬ (7 : Int32) = 2 := by decide
theorem am_d_7_3 : ¬ (7 : Int32) = 3 := by decide
theorem am_d_7_4 : ¬ (7 : Int32) = 4 := by decide
theorem am_d_7_5 : ¬ (7 : Int32) = 5 := by decide
theorem am_d_7_6 : ¬ (7 : Int32) = 6 := by decide
theorem am_d_8_0 : ¬ (8 : Int32) = 0 := by decide
theorem am_d_8_1 : ¬ (8 : Int32) = 1 := by decide
theorem am_d_8_2 : ¬ (8 : Int32) = 2 := by decide
theorem am_d_8_3 : ¬ (8 : Int32) = 3 := by decide
theorem am_d_8_4 : ¬ (8 : Int32) = 4 := by decide
theorem am_d_8_5 : ¬ (8 : Int32) = 5 := by decide
theorem am_d_8_6 : ¬ (8 : Int32) = 6 := by decide
theorem am_d_8_7 : ¬ (8 : Int32) = 7 := by decide
theorem am_d_9_0 : ¬ (9 : Int32) = 0 := by decide
theorem am_d_9_1 : ¬ (9 : Int32) = 1 := by decide
theorem am_d_9_2 : ¬ (9 : Int32) = 2 := by decide
theorem am_d_9_3 : ¬ (9 : Int32) = 3 := by decide
theorem am_d_9_4 : ¬ (9 : Int32) = 4 := by decide
theorem am_d_9_5 : ¬ (9 : Int32) = 5 := by decide
theorem am_d_9_6 : ¬ (9 : Int32) = 6 := by decide
theorem am_d_9_7 : ¬ (9 : Int32) = 7 := by decide
theorem am_d_9_8 : ¬ (9 : Int32) = 8 := by decide
theorem am_d_10_0 : ¬ (10 : Int32) = 0 := by decide
theorem am_d_10_1 : ¬ (10 : Int32) = 1 := by decide
theorem am_d_10_2 : ¬ (10 : Int32) = 2 := by decide
theorem am_d_10_3 : ¬ (10 : Int32) = 3 := by decide
theorem am_d_10_4 : ¬ (10 : Int32) = 4 := by decide
theorem am_d_10_5 : ¬ (10 : Int32) = 5 := by decide
theorem am_d_10_6 : ¬ (10 : Int32) = 6 := by decide
theorem am_d_10_7 : ¬ (10 : Int32) = 7 := by decide
theorem am_d_10_8 : ¬ (10 : Int32) = 8 := by decide
theorem am_d_10_9 : ¬ (10 : Int32) = 9 := by decide
theorem am_d_11_0 : ¬ (11 : Int32) = 0 := by decide
theorem am_d_11_1 : ¬ (11 : Int32) = 1 := by decide
theorem am_d_11_2 : ¬ (11 : Int32) = 2 := by decide
theorem am_d_11_3 : ¬ (11 : Int32) = 3 := by decide
theorem am_d_11_4 : ¬ (11 : Int32) = 4 := by decide
theorem am_d_11_5 : ¬ (11 : Int32) = 5 := by decide
theorem am_d_11_6 : ¬ (11 : Int32) = 6 := by decide
theorem am_d_11_7 : ¬ (11 : Int32) = 7 := by decide
theorem am_d_11_8 : ¬ (11 : Int32) = 8 := by decide
theorem am_d_11_9 : ¬ (11 : Int32) = 9 := by decide
theorem am_d_11_10 : ¬ (11 : Int32) = 10 := by decide
theorem av_w4 {w : Int32} (h : am_wt w 0 4 = true) : w = 0 ∨ w = 1 ∨ w = 2 ∨ w = 3 ∨ w = 4 := by
  obtain ⟨k, h0, h1, rfl⟩ := av_wt_n (a := 0) (b := 4) (by decide) (by decide) h
  rcases (show k = 0 ∨ k = 1 ∨ k = 2 ∨ k = 3 ∨ k = 4 by omega) with rfl | rfl | rfl | rfl | rfl
  · exact Or.inl rfl
  · exact Or.inr (Or.inl rfl)
  · exact Or.inr (Or.inr (Or.inl rfl))
  · exact Or.inr (Or.inr (Or.inr (Or.inl rfl)))
  · exact Or.inr (Or.inr (Or.inr (Or.inr rfl)))
theorem av_w4n {w v : Int32} (h : am_wt w 0 4 = false) (hv : am_wt v 0 4 = true) : ¬ w = v := fun e => by rw [e, hv] at h; cases h
def aq_playerOf (σ : Nat → Int32) (p w : Int32) : av_A := if am_ltb p (av_np σ) = false then .inr (1, 1) else if am_wt w 0 4 = false then .inr (2, 2) else .inl (σ (50 + 5 * av_ix p + av_ix w))
theorem cq_playerOf {B : Nat} {rm : Nat → Nat} {σ : Nat → Int32} {L : List (Nat → Int32)} {p w : Int32} {M : am_M} (p0 : M.2.1 (am_c 0 12) 0 = am_c B 1 + 1) (hC : av_C M B rm σ L) : av_qc (am_val iX12_playerOf 0 [some (.ref (am_c 0 12)), some (.int p), some (.int w), none] [] M) (aq_playerOf σ p w) M := by
  unfold aq_playerOf
  cases hp : am_ltb p (av_np σ) with
  | false =>
    rw [if_pos rfl]
    show (_ : am_T) = some (.inr 1, M, 1, 6)
    simp only [ae_X12_playerOf_0, ae_X12_playerOf_5, ae_X12_playerOf_9, ae_X12_playerOf_12, ae_X12_playerOf_14, ae_X12_playerOf_52, ae_X12_playerOf_57, ae_X12_playerOf_62, ae_X12_playerOf_67, ae_X12_playerOf_72, ae_X12_playerOf_77, am_bnx_v, am_bnx_e, am_tl_s, am_tl_n, am_rv_s, am_add_rx, ac_ckPlayer_f p0 hC hp]
  | true =>
    rw [if_neg (by decide)]
    have c0 := ac_ckPlayer_t p0 hC hp
    obtain ⟨⟨⟨w0, w1, w2, w3, w4, w5, w6, w7, w8, w9⟩, hrm, hpr⟩, ⟨hnp, hs0, hln, hct⟩, hW, hT, hN, hP, hS, hB⟩ := hC
    obtain ⟨k, hk, rfl⟩ := am_lt_n (by omega) hp
    have hin := am_in_n (show k < 6 by omega) (by decide)
    have htn := am_tn (show k < 2147483648 by omega)
    have hq := w9 k (by omega)
    have hx := hP k (by omega)
    rw [av_ix_n (by omega)]
    cases hw : am_wt w 0 4 with
    | false =>
      rw [if_pos rfl]
      show (_ : am_T) = some (.inr 2, M, 1, 6)
      simp only [ae_X12_playerOf_0, ae_X12_playerOf_5, ae_X12_playerOf_9, ae_X12_playerOf_12, ae_X12_playerOf_14, ae_X12_playerOf_52, ae_X12_playerOf_57, ae_X12_playerOf_62, ae_X12_playerOf_67, ae_X12_playerOf_72, ae_X12_playerOf_77, am_bnx_v, am_bnx_e, am_tl_s, am_tl_n, am_rv_s, am_add_rx, c0, p0, w2, hq, hin, htn, am_sw_n (av_w4n hw (show am_wt 0 0 4 = true by decide)), am_sw_n (av_w4n hw (show am_wt 1 0 4 = true by decide)), am_sw_n (av_w4n hw (show am_wt 2 0 4 = true by decide)), am_sw_n (av_w4n hw (show am_wt 3 0 4 = true by decide)), am_sw_n (av_w4n hw (show am_wt 4 0 4 = true by decide)), am_sw_0]
    | true =>
      rw [if_neg (by decide)]
      rcases av_w4 hw with rfl | rfl | rfl | rfl | rfl
      · show (_ : am_T) = some (.inl (some (.int (σ (50 + 5 * k + 0)))), M, 0, 0)
        simp only [ae_X12_playerOf_0, ae_X12_playerOf_5, ae_X12_playerOf_9, ae_X12_playerOf_12, ae_X12_playerOf_14, ae_X12_playerOf_52, ae_X12_playerOf_57, ae_X12_playerOf_62, ae_X12_playerOf_67, ae_X12_playerOf_72, ae_X12_playerOf_77, am_bnx_v, am_bnx_e, am_tl_s, am_tl_n, am_rv_s, am_add_rx, c0, p0, w2, hq, hin, htn, am_sw_y (show (0 : Int32) = 0 from rfl), hx 0 (by decide)]
      · show (_ : am_T) = some (.inl (some (.int (σ (50 + 5 * k + 1)))), M, 0, 0)
        simp only [ae_X12_playerOf_0, ae_X12_playerOf_5, ae_X12_playerOf_9, ae_X12_playerOf_12, ae_X12_playerOf_14, ae_X12_playerOf_52, ae_X12_playerOf_57, ae_X12_playerOf_62, ae_X12_playerOf_67, ae_X12_playerOf_72, ae_X12_playerOf_77, am_bnx_v, am_bnx_e, am_tl_s, am_tl_n, am_rv_s, am_add_rx, c0, p0, w2, hq, hin, htn, am_sw_n am_d_1_0, am_sw_y (show (1 : Int32) = 1 from rfl), hx 1 (by decide)]
      · show (_ : am_T) = some (.inl (some (.int (σ (50 + 5 * k + 2)))), M, 0, 0)
        simp only [ae_X12_playerOf_0, ae_X12_playerOf_5, ae_X12_playerOf_9, ae_X12_playerOf_12, ae_X12_playerOf_14, ae_X12_playerOf_52, ae_X12_playerOf_57, ae_X12_playerOf_62, ae_X12_playerOf_67, ae_X12_playerOf_72, ae_X12_playerOf_77, am_bnx_v, am_bnx_e, am_tl_s, am_tl_n, am_rv_s, am_add_rx, c0, p0, w2, hq, hin, htn, am_sw_n am_d_2_0, am_sw_n am_d_2_1, am_sw_y (show (2 : Int32) = 2 from rfl), hx 2 (by decide)]
      · show (_ : am_T) = some (.inl (some (.int (σ (50 + 5 * k + 3)))), M, 0, 0)
        simp only [ae_X12_playerOf_0, ae_X12_playerOf_5, ae_X12_playerOf_9, ae_X12_playerOf_12, ae_X12_playerOf_14, ae_X12_playerOf_52, ae_X12_playerOf_57, ae_X12_playerOf_62, ae_X12_playerOf_67, ae_X12_playerOf_72, ae_X12_playerOf_77, am_bnx_v, am_bnx_e, am_tl_s, am_tl_n, am_rv_s, am_add_rx, c0, p0, w2, hq, hin, htn, am_sw_n am_d_3_0, am_sw_n am_d_3_1, am_sw_n am_d_3_2, am_sw_y (show (3 : Int32) = 3 from rfl), hx 3 (by decide)]
      · show (_ : am_T) = some (.inl (some (.int (σ (50 + 5 * k + 4)))), M, 0, 0)
        simp only [ae_X12_playerOf_0, ae_X12_playerOf_5, ae_X12_playerOf_9, ae_X12_playerOf_12, ae_X12_playerOf_14, ae_X12_playerOf_52, ae_X12_playerOf_57, ae_X12_playerOf_62, ae_X12_playerOf_67, ae_X12_playerOf_72, ae_X12_playerOf_77, am_bnx_v, am_bnx_e, am_tl_s, am_tl_n, am_rv_s, am_add_rx, c0, p0, w2, hq, hin, htn, am_sw_n am_d_4_0, am_sw_n am_d_4_1, am_sw_n am_d_4_2, am_sw_n am_d_4_3, am_sw_y (show (4 : Int32) = 4 from rfl), hx 4 (by decide)]
/-! soundOf -/
def aq_soundOf (L : List (Nat → Int32)) (p w : Int32) : av_A := if am_ltb p L.length = false then .inr (1, 1) else if am_wt w 0 4 = false then .inr (2, 2) else .inl (av_s L (av_ix p) (av_ix w))
theorem cq_soundOf {B : Nat} {rm : Nat → Nat} {σ : Nat → Int32} {L : List (Nat → Int32)} {bd : Nat} {p w : Int32} {M : am_M} (p0 : M.2.1 (am_c 0 12) 0 = am_c B 1 + 1) (hC : av_C M B rm σ L) (hok : av_ok bd σ L) : av_qc (am_val iX12_soundOf 0 [some (.ref (am_c 0 12)), some (.int p), some (.int w), none] [] M) (aq_soundOf L p w) M := by
  unfold aq_soundOf
  cases hp : am_ltb p L.length with
  | false =>
    rw [if_pos rfl]
    show (_ : am_T) = some (.inr 1, M, 1, 6)
    simp only [ae_X12_soundOf_0, ae_X12_soundOf_5, ae_X12_soundOf_9, ae_X12_soundOf_12, ae_X12_soundOf_14, ae_X12_soundOf_52, ae_X12_soundOf_57, ae_X12_soundOf_62, ae_X12_soundOf_67, ae_X12_soundOf_72, ae_X12_soundOf_79, ae_X12_soundOf_83, ae_X12_soundOf_85, am_bnx_v, am_bnx_e, am_tl_s, am_tl_n, am_rv_s, am_add_rx, ac_ckSound_f p0 hC hp]
  | true =>
    rw [if_neg (by decide)]
    have c0 := ac_ckSound_t p0 hC hp
    obtain ⟨⟨⟨w0, w1, w2, w3, w4, w5, w6, w7, w8, w9⟩, hrm, hpr⟩, ⟨hnp, hs0, hln, hct⟩, hW, hT, hN, hP, hS, hB⟩ := hC
    obtain ⟨k, hk, rfl⟩ := am_lt_n (by omega) hp
    have hin := am_in_n (show k < 8 by omega) (by decide)
    have htn := am_tn (show k < 2147483648 by omega)
    have hq := hrm k (by omega)
    obtain ⟨r0, r1, r2, r3, r4⟩ := hS k hk
    rw [av_ix_n (by omega)]
    cases hw : am_wt w 0 4 with
    | false =>
      rw [if_pos rfl]
      show (_ : am_T) = some (.inr 2, M, 1, 6)
      simp only [ae_X12_soundOf_0, ae_X12_soundOf_5, ae_X12_soundOf_9, ae_X12_soundOf_12, ae_X12_soundOf_14, ae_X12_soundOf_52, ae_X12_soundOf_57, ae_X12_soundOf_62, ae_X12_soundOf_67, ae_X12_soundOf_72, ae_X12_soundOf_79, ae_X12_soundOf_83, ae_X12_soundOf_85, am_bnx_v, am_bnx_e, am_tl_s, am_tl_n, am_rv_s, am_add_rx, c0, p0, w3, hq, hin, htn, am_sw_n (av_w4n hw (show am_wt 0 0 4 = true by decide)), am_sw_n (av_w4n hw (show am_wt 1 0 4 = true by decide)), am_sw_n (av_w4n hw (show am_wt 2 0 4 = true by decide)), am_sw_n (av_w4n hw (show am_wt 3 0 4 = true by decide)), am_sw_n (av_w4n hw (show am_wt 4 0 4 = true by decide)), am_sw_0]
    | true =>
      rw [if_neg (by decide)]
      rcases av_w4 hw with rfl | rfl | rfl | rfl | rfl
      · show (_ : am_T) = some (.inl (some (.int (av_s L k 0))), M, 0, 0)
        simp only [ae_X12_soundOf_0, ae_X12_soundOf_5, ae_X12_soundOf_9, ae_X12_soundOf_12, ae_X12_soundOf_14, ae_X12_soundOf_52, ae_X12_soundOf_57, ae_X12_soundOf_62, ae_X12_soundOf_67, ae_X12_soundOf_72, ae_X12_soundOf_79, ae_X12_soundOf_83, ae_X12_soundOf_85, am_bnx_v, am_bnx_e, am_tl_s, am_tl_n, am_rv_s, am_add_rx, c0, p0, w3, hq, hin, htn, am_sw_y (show (0 : Int32) = 0 from rfl), r0]
      · show (_ : am_T) = some (.inl (some (.int (av_s L k 1))), M, 0, 0)
        simp only [ae_X12_soundOf_0, ae_X12_soundOf_5, ae_X12_soundOf_9, ae_X12_soundOf_12, ae_X12_soundOf_14, ae_X12_soundOf_52, ae_X12_soundOf_57, ae_X12_soundOf_62, ae_X12_soundOf_67, ae_X12_soundOf_72, ae_X12_soundOf_79, ae_X12_soundOf_83, ae_X12_soundOf_85, am_bnx_v, am_bnx_e, am_tl_s, am_tl_n, am_rv_s, am_add_rx, c0, p0, w3, hq, hin, htn, am_sw_n am_d_1_0, am_sw_y (show (1 : Int32) = 1 from rfl), r1]
      · show (_ : am_T) = some (.inl (some (.int (av_s L k 2))), M, 0, 0)
        simp only [ae_X12_soundOf_0, ae_X12_soundOf_5, ae_X12_soundOf_9, ae_X12_soundOf_12, ae_X12_soundOf_14, ae_X12_soundOf_52, ae_X12_soundOf_57, ae_X12_soundOf_62, ae_X12_soundOf_67, ae_X12_soundOf_72, ae_X12_soundOf_79, ae_X12_soundOf_83, ae_X12_soundOf_85, am_bnx_v, am_bnx_e, am_tl_s, am_tl_n, am_rv_s, am_add_rx, c0, p0, w3, hq, hin, htn, am_sw_n am_d_2_0, am_sw_n am_d_2_1, am_sw_y (show (2 : Int32) = 2 from rfl), r2]
      · show (_ : am_T) = some (.inl (some (.int (av_s L k 3))), M, 0, 0)
        simp only [ae_X12_soundOf_0, ae_X12_soundOf_5, ae_X12_soundOf_9, ae_X12_soundOf_12, ae_X12_soundOf_14, ae_X12_soundOf_52, ae_X12_soundOf_57, ae_X12_soundOf_62, ae_X12_soundOf_67, ae_X12_soundOf_72, ae_X12_soundOf_79, ae_X12_soundOf_83, ae_X12_soundOf_85, am_bnx_v, am_bnx_e, am_tl_s, am_tl_n, am_rv_s, am_add_rx, c0, p0, w3, hq, hin, htn, am_sw_n am_d_3_0, am_sw_n am_d_3_1, am_sw_n am_d_3_2, am_sw_y (show (3 : Int32) = 3 from rfl), r3]
      · show (_ : am_T) = some (.inl (some (.int (av_s L k 4))), M, 0, 0)
        rcases (hok.2.2.2.2.1 k hk).2.2.2 with h | h
        · rw [h] at r4
          simp only [ae_X12_soundOf_0, ae_X12_soundOf_5, ae_X12_soundOf_9, ae_X12_soundOf_12, ae_X12_soundOf_14, ae_X12_soundOf_52, ae_X12_soundOf_57, ae_X12_soundOf_62, ae_X12_soundOf_67, ae_X12_soundOf_72, ae_X12_soundOf_79, ae_X12_soundOf_83, ae_X12_soundOf_85, am_bnx_v, am_bnx_e, am_tl_s, am_tl_n, am_rv_s, am_add_rx, c0, p0, w3, hq, hin, htn, am_sw_n am_d_4_0, am_sw_n am_d_4_1, am_sw_n am_d_4_2, am_sw_n am_d_4_3, am_sw_y (show (4 : Int32) = 4 from rfl), r4, not_true_eq_false, not_false_eq_true, if_true, if_false, am_1n0, or_true, true_or, eq_self, Bool.true_eq_false, Bool.false_eq_true, cond_true, cond_false, h]
        · rw [h] at r4
          simp only [ae_X12_soundOf_0, ae_X12_soundOf_5, ae_X12_soundOf_9, ae_X12_soundOf_12, ae_X12_soundOf_14, ae_X12_soundOf_52, ae_X12_soundOf_57, ae_X12_soundOf_62, ae_X12_soundOf_67, ae_X12_soundOf_72, ae_X12_soundOf_79, ae_X12_soundOf_83, ae_X12_soundOf_85, am_bnx_v, am_bnx_e, am_tl_s, am_tl_n, am_rv_s, am_add_rx, c0, p0, w3, hq, hin, htn, am_sw_n am_d_4_0, am_sw_n am_d_4_1, am_sw_n am_d_4_2, am_sw_n am_d_4_3, am_sw_y (show (4 : Int32) = 4 from rfl), r4, not_true_eq_false, not_false_eq_true, if_true, if_false, am_1n0, or_true, true_or, eq_self, Bool.true_eq_false, Bool.false_eq_true, cond_true, cond_false, h]
/-! isEcho, echoesAt -/
def aq_isEcho (L : List (Nat → Int32)) (p : Int32) : av_A := if am_ltb p L.length = false then .inr (1, 1) else .inl (am_bi (decide (0 < av_s L (av_ix p) 3)))
theorem cq_isEcho {B : Nat} {rm : Nat → Nat} {σ : Nat → Int32} {L : List (Nat → Int32)} {p : Int32} {M : am_M} (p0 : M.2.1 (am_c 0 12) 0 = am_c B 1 + 1) (hC : av_C M B rm σ L) : av_qc (am_val iX12_isEcho 0 [some (.ref (am_c 0 12)), some (.int p)] [] M) (aq_isEcho L p) M := by
  unfold aq_isEcho
  cases hp : am_ltb p L.length with
  | false =>
    rw [if_pos rfl]
    show (_ : am_T) = some (.inr 1, M, 1, 6)
    simp only [ae_X12_isEcho_0, ae_X12_isEcho_5, ae_X12_isEcho_9, ae_X12_isEcho_12, ae_X12_isEcho_14, ae_X12_isEcho_17, am_bnx_v, am_bnx_e, am_tl_s, am_tl_n, am_rv_s, am_add_rx, ac_ckSound_f p0 hC hp]
  | true =>
    rw [if_neg (by decide)]
    have c0 := ac_ckSound_t p0 hC hp
    obtain ⟨⟨⟨w0, w1, w2, w3, w4, w5, w6, w7, w8, w9⟩, hrm, hpr⟩, ⟨hnp, hs0, hln, hct⟩, hW, hT, hN, hP, hS, hB⟩ := hC
    obtain ⟨k, hk, rfl⟩ := am_lt_n (by omega) hp
    have hin := am_in_n (show k < 8 by omega) (by decide)
    have htn := am_tn (show k < 2147483648 by omega)
    have hq := hrm k (by omega)
    obtain ⟨r0, r1, r2, r3, r4⟩ := hS k hk
    rw [av_ix_n (by omega)]
    show (_ : am_T) = some (.inl (some (.int (am_bi (decide (0 < av_s L k 3))))), M, 0, 0)
    simp only [ae_X12_isEcho_0, ae_X12_isEcho_5, ae_X12_isEcho_9, ae_X12_isEcho_12, ae_X12_isEcho_14, ae_X12_isEcho_17, am_bnx_v, am_bnx_e, am_tl_s, am_tl_n, am_rv_s, am_add_rx, c0, p0, w3, hq, hin, htn, ac_wasThrownBack, r3, am_bi_01]
def aq_echoesAt (L : List (Nat → Int32)) (p : Int32) : av_A := if am_pl p = false then .inr (1, 1) else .inl (am_it (av_es L p) L.length 0)
theorem cq_echoesAt {B : Nat} {rm : Nat → Nat} {σ : Nat → Int32} {L : List (Nat → Int32)} {p : Int32} {M : am_M} (p0 : M.2.1 (am_c 0 12) 0 = am_c B 1 + 1) (hC : av_C M B rm σ L) : av_qc (am_val iX12_echoesAt 0 [some (.ref (am_c 0 12)), some (.int p)] [] M) (aq_echoesAt L p) M := by
  unfold aq_echoesAt
  cases hp : am_pl p with
  | false =>
    rw [if_pos rfl]
    show (_ : am_T) = some (.inr 1, M, 1, 6)
    simp only [ae_X12_echoesAt_0, ae_X12_echoesAt_4, ae_X12_echoesAt_8, ae_X12_echoesAt_12, am_bnx_v, am_bnx_e, am_tl_s, am_tl_n, am_rv_s, am_add_rx, ac_ckPlace_f hp]
  | true =>
    rw [if_neg (by decide)]
    show (_ : am_T) = some (.inl (some (.int (am_it (av_es L p) L.length 0))), M, 0, 0)
    simp only [ae_X12_echoesAt_0, ae_X12_echoesAt_4, ae_X12_echoesAt_8, ae_X12_echoesAt_12, am_bnx_v, am_bnx_e, am_tl_s, am_tl_n, am_rv_s, am_add_rx, ac_ckPlace_t hp, p0, ac_echoSetAt hC]
/-! price -/
def aq_price (σ : Nat → Int32) (t p : Int32) : av_A := if am_tm t = false then .inr (1, 1) else if am_pl p = false then .inr (1, 1) else if av_hf σ p = 0 then .inr (3, 2) else .inl (av_price σ t p)
theorem av_hf_0 {bd : Nat} {σ : Nat → Int32} {L : List (Nat → Int32)} {p : Nat} (hok : av_ok bd σ L) (hp : p < 16) : decide (0 < av_hf σ (nI p)) = !decide (av_hf σ (nI p) = 0) := by
  rw [av_hf_n hp]
  obtain ⟨h, hh, hσ, -⟩ := hok.1 p hp
  rw [hσ]
  have : ∀ h, h < 10 → decide ((0 : Int32) < nI h) = !decide (nI h = 0) := by decide
  exact this h (by omega)
theorem cq_price {B : Nat} {rm : Nat → Nat} {σ : Nat → Int32} {L : List (Nat → Int32)} {bd : Nat} {t p : Int32} {M : am_M} (p0 : M.2.1 (am_c 0 12) 0 = am_c B 1 + 1) (hC : av_C M B rm σ L) (hok : av_ok bd σ L) : av_qc (am_val iX12_price 0 [some (.ref (am_c 0 12)), some (.int t), some (.int p)] [] M) (aq_price σ t p) M := by
  have w0 := hC.1.1.1
  unfold aq_price
  cases ht : am_tm t with
  | false =>
    rw [if_pos rfl]
    show (_ : am_T) = some (.inr 1, M, 1, 6)
    simp only [ae_X12_price_0, ae_X12_price_4, ae_X12_price_8, ae_X12_price_12, ae_X12_price_15, ae_X12_price_19, ae_X12_price_22, ae_X12_price_33, ae_X12_price_37, ae_X12_price_40, ae_X12_price_45, am_bnx_v, am_bnx_e, am_tl_s, am_tl_n, am_rv_s, am_add_rx, ac_ckTeam_f ht]
  | true =>
    rw [if_neg (by decide)]
    cases hp : am_pl p with
    | false =>
      rw [if_pos rfl]
      show (_ : am_T) = some (.inr 1, M, 1, 6)
      simp only [ae_X12_price_0, ae_X12_price_4, ae_X12_price_8, ae_X12_price_12, ae_X12_price_15, ae_X12_price_19, ae_X12_price_22, ae_X12_price_33, ae_X12_price_37, ae_X12_price_40, ae_X12_price_45, am_bnx_v, am_bnx_e, am_tl_s, am_tl_n, am_rv_s, am_add_rx, ac_ckTeam_t ht, ac_ckPlace_f hp]
    | true =>
      rw [if_neg (by decide)]
      have c2 := ac_ckPlace_t (M := M) hp
      have e1 := ac_bisAt (p := p) hC
      have e2 := ac_bprice (t := t) (p := p) hC
      obtain ⟨k, hk, rfl⟩ := am_pl_n hp
      rw [av_hf_0 hok hk] at e1
      by_cases h : av_hf σ (nI k) = 0
      · rw [if_pos h]
        rw [h] at e1
        have e1 : am_val iX11_isAt 0 [some (.ref (am_c (B + 1) 11)), some (.int (nI k))] [] M = some (.inl (some (.int 0)), M, 0, 0) := e1
        show (_ : am_T) = some (.inr 3, M, 1, 6)
        simp only [ae_X12_price_0, ae_X12_price_4, ae_X12_price_8, ae_X12_price_12, ae_X12_price_15, ae_X12_price_19, ae_X12_price_22, ae_X12_price_33, ae_X12_price_37, ae_X12_price_40, ae_X12_price_45, am_bnx_v, am_bnx_e, am_tl_s, am_tl_n, am_rv_s, am_add_rx, ac_ckTeam_t ht, c2, p0, w0, e1, not_true_eq_false, not_false_eq_true, if_true, if_false, am_1n0, or_true, true_or, eq_self, Bool.true_eq_false, Bool.false_eq_true, cond_true, cond_false]
      · rw [if_neg h]
        rw [decide_eq_false h] at e1
        have e1 : am_val iX11_isAt 0 [some (.ref (am_c (B + 1) 11)), some (.int (nI k))] [] M = some (.inl (some (.int 1)), M, 0, 0) := e1
        show (_ : am_T) = some (.inl (some (.int (av_price σ t (nI k)))), M, 0, 0)
        simp only [ae_X12_price_0, ae_X12_price_4, ae_X12_price_8, ae_X12_price_12, ae_X12_price_15, ae_X12_price_19, ae_X12_price_22, ae_X12_price_33, ae_X12_price_37, ae_X12_price_40, ae_X12_price_45, am_bnx_v, am_bnx_e, am_tl_s, am_tl_n, am_rv_s, am_add_rx, ac_ckTeam_t ht, c2, p0, w0, e1, e2, not_true_eq_false, not_false_eq_true, if_true, if_false, am_1n0, or_true, true_or, eq_self, Bool.true_eq_false, Bool.false_eq_true, cond_true, cond_false]
