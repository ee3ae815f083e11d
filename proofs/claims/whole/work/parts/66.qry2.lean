/-! questions: players, sounds, echoes, prices -/
theorem am_d_1_0 : ¬ (1 : Int32) = 0 := by decide
theorem am_d_2_0 : ¬ (2 : Int32) = 0 := by decide
theorem am_d_2_1 : ¬ (2 : Int32) = 1 := by decide
theorem am_d_3_0 : ¬ (3 : Int32) = 0 := by decide
theorem am_d_3_1 : ¬ (3 : Int32) = 1 := by decide
theorem am_d_3_2 : ¬ (3 : Int32) = 2 := by decide
theorem am_d_4_0 : ¬ (4 : Int32) = 0 := by decide
theorem am_d_4_1 : ¬ (4 : Int32) = 1 := by decide
theorem am_d_4_2 : ¬ (4 : Int32) = 2 := by decide
theorem am_d_4_3 : ¬ (4 : Int32) = 3 := by decide
theorem am_d_5_0 : ¬ (5 : Int32) = 0 := by decide
theorem am_d_5_1 : ¬ (5 : Int32) = 1 := by decide
theorem am_d_5_2 : ¬ (5 : Int32) = 2 := by decide
theorem am_d_5_3 : ¬ (5 : Int32) = 3 := by decide
theorem am_d_5_4 : ¬ (5 : Int32) = 4 := by decide
theorem am_d_6_0 : ¬ (6 : Int32) = 0 := by decide
theorem am_d_6_1 : ¬ (6 : Int32) = 1 := by decide
theorem am_d_6_2 : ¬ (6 : Int32) = 2 := by decide
theorem am_d_6_3 : ¬ (6 : Int32) = 3 := by decide
theorem am_d_6_4 : ¬ (6 : Int32) = 4 := by decide
theorem am_d_6_5 : ¬ (6 : Int32) = 5 := by decide
theorem am_d_7_0 : ¬ (7 : Int32) = 0 := by decide
theorem am_d_7_1 : ¬ (7 : Int32) = 1 := by decide
theorem am_d_7_2 : ¬ (7 : Int32) = 2 := by decide
theorem am_d_7_3 : ¬ (7 : Int32) = 3 := by decide
theorem am_d_7_4 : ¬ (7 : Int32) = 4 := by decide
theorem am_d_7_5 : ¬ (7 : Int32) = 5 := by decide
theorem am_d_7_6 : ¬ (7 : Int32) = 6 := by decide
theorem am_d_8_0 : ¬ (8 : Int32) = 0 := by decide
theorem am_d_8_1 : ¬ (8 : Int32) = 1 := by decide
theorem am_d_8_2 : ¬ (8 : Int32) = 2 := by decide
theorem am_d_8_3 : ¬ (8 : Int32) = 3 := by decide
theorem am_d_8_4 : ¬ (8 : Int32) = 4 := by decide
theorem am_d_8_5 : ¬ (8 : Int32) = 5 := by decide
theorem am_d_8_6 : ¬ (8 : Int32) = 6 := by decide
theorem am_d_8_7 : ¬ (8 : Int32) = 7 := by decide
theorem am_d_9_0 : ¬ (9 : Int32) = 0 := by decide
theorem am_d_9_1 : ¬ (9 : Int32) = 1 := by decide
theorem am_d_9_2 : ¬ (9 : Int32) = 2 := by decide
theorem am_d_9_3 : ¬ (9 : Int32) = 3 := by decide
theorem am_d_9_4 : ¬ (9 : Int32) = 4 := by decide
theorem am_d_9_5 : ¬ (9 : Int32) = 5 := by decide
theorem am_d_9_6 : ¬ (9 : Int32) = 6 := by decide
theorem am_d_9_7 : ¬ (9 : Int32) = 7 := by decide
theorem am_d_9_8 : ¬ (9 : Int32) = 8 := by decide
theorem am_d_10_0 : ¬ (10 : Int32) = 0 := by decide
theorem am_d_10_1 : ¬ (10 : Int32) = 1 := by decide
theorem am_d_10_2 : ¬ (10 : Int32) = 2 := by decide
theorem am_d_10_3 : ¬ (10 : Int32) = 3 := by decide
theorem am_d_10_4 : ¬ (10 : Int32) = 4 := by decide
theorem am_d_10_5 : ¬ (10 : Int32) = 5 := by decide
theorem am_d_10_6 : ¬ (10 : Int32) = 6 := by decide
theorem am_d_10_7 : ¬ (10 : Int32) = 7 := by decide
theorem am_d_10_8 : ¬ (10 : Int32) = 8 := by decide
theorem am_d_10_9 : ¬ (10 : Int32) = 9 := by decide
theorem am_d_11_0 : ¬ (11 : Int32) = 0 := by decide
theorem am_d_11_1 : ¬ (11 : Int32) = 1 := by decide
theorem am_d_11_2 : ¬ (11 : Int32) = 2 := by decide
theorem am_d_11_3 : ¬ (11 : Int32) = 3 := by decide
theorem am_d_11_4 : ¬ (11 : Int32) = 4 := by decide
theorem am_d_11_5 : ¬ (11 : Int32) = 5 := by decide
theorem am_d_11_6 : ¬ (11 : Int32) = 6 := by decide
theorem am_d_11_7 : ¬ (11 : Int32) = 7 := by decide
theorem am_d_11_8 : ¬ (11 : Int32) = 8 := by decide
theorem am_d_11_9 : ¬ (11 : Int32) = 9 := by decide
theorem am_d_11_10 : ¬ (11 : Int32) = 10 := by decide
theorem av_w4 {w : Int32} (h : am_wt w 0 4 = true) : w = 0 ∨ w = 1 ∨ w = 2 ∨ w = 3 ∨ w = 4 := by
  obtain ⟨k, h0, h1, rfl⟩ := av_wt_n (a := 0) (b := 4) (by decide) (by decide) h
  rcases (show k = 0 ∨ k = 1 ∨ k = 2 ∨ k = 3 ∨ k = 4 by omega) with rfl | rfl | rfl | rfl | rfl
  · exact Or.inl rfl
  · exact Or.inr (Or.inl rfl)
  · exact Or.inr (Or.inr (Or.inl rfl))
  · exact Or.inr (Or.inr (Or.inr (Or.inl rfl)))
  · exact Or.inr (Or.inr (Or.inr (Or.inr rfl)))
theorem av_w4n {w v : Int32} (h : am_wt w 0 4 = false) (hv : am_wt v 0 4 = true) : ¬ w = v := fun e => by rw [e, hv] at h; cases h
def aq_playerOf (σ : Nat → Int32) (p w : Int32) : av_A := if am_lt p (av_np σ) = false then .inr (1, 1) else if am_wt w 0 4 = false then .inr (2, 2) else .inl (σ (50 + 5 * av_ix p + av_ix w))
theorem cq_playerOf {B : Nat} {rm : Nat → Nat} {σ : Nat → Int32} {L : List (Nat → Int32)} {p w : Int32} {M : am_M} (p0 : M.2.1 (am_c 0 12) 0 = am_c B 1 + 1) (hC : av_C M B rm σ L) : av_qc (am_val iX12_playerOf 0 [some (.ref (am_c 0 12)), some (.int p), some (.int w), none] [] M) (aq_playerOf σ p w) M := by
  unfold aq_playerOf
  cases hp : am_lt p (av_np σ) with
  | false =>
    rw [if_pos rfl]
    show (_ : am_T) = some (.inr 1, M, 1, 6)
    simp only [ae_X12_playerOf_0, ae_X12_playerOf_5, ae_X12_playerOf_9, ae_X12_playerOf_12, ae_X12_playerOf_14, ae_X12_playerOf_52, ae_X12_playerOf_57, ae_X12_playerOf_62, ae_X12_playerOf_67, ae_X12_playerOf_72, ae_X12_playerOf_77, am_bnx_v, am_bnx_e, am_tl_s, am_tl_n, am_rv_s, am_add_rx, ac_ckPlayer_f p0 hC hp]
  | true =>
    rw [if_neg (by decide)]
    have c0 := ac_ckPlayer_t p0 hC hp
    obtain ⟨⟨⟨w0, w1, w2, w3, w4, w5, w6, w7, w8, w9⟩, hrm, hpr⟩, ⟨hnp, hs0, hln, hct⟩, hW, hT, hN, hP, hS, hB⟩ := hC
    obtain ⟨k, hk, rfl⟩ := am_lt_n (by omega) hp
    have hin := am_in_n (show k < 6 by omega) (by decide)
    have htn := am_tn (show k < 2147483648 by omega)
    have hq := w9 k (by omega)
    have hx := hP k (by omega)
    rw [av_ix_n (by omega)]
    cases hw : am_wt w 0 4 with
    | false =>
      rw [if_pos rfl]
      show (_ : am_T) = some (.inr 2, M, 1, 6)
      simp only [ae_X12_playerOf_0, ae_X12_playerOf_5, ae_X12_playerOf_9, ae_X12_playerOf_12, ae_X12_playerOf_14, ae_X12_playerOf_52, ae_X12_playerOf_57, ae_X12_playerOf_62, ae_X12_playerOf_67, ae_X12_playerOf_72, ae_X12_playerOf_77, am_bnx_v, am_bnx_e, am_tl_s, am_tl_n, am_rv_s, am_add_rx, c0, p0, w2, hq, hin, htn, am_sw_n (av_w4n hw (show am_wt 0 0 4 = true by decide)), am_sw_n (av_w4n hw (show am_wt 1 0 4 = true by decide)), am_sw_n (av_w4n hw (show am_wt 2 0 4 = true by decide)), am_sw_n (av_w4n hw (show am_wt 3 0 4 = true by decide)), am_sw_n (av_w4n hw (show am_wt 4 0 4 = true by decide)), am_sw_0]
    | true =>
      rw [if_neg (by decide)]
      rcases av_w4 hw with rfl | rfl | rfl | rfl | rfl
      · show (_ : am_T) = some (.inl (some (.int (σ (50 + 5 * k + 0)))), M, 0, 0)
        simp only [ae_X12_playerOf_0, ae_X12_playerOf_5, ae_X12_playerOf_9, ae_X12_playerOf_12, ae_X12_playerOf_14, ae_X12_playerOf_52, ae_X12_playerOf_57, ae_X12_playerOf_62, ae_X12_playerOf_67, ae_X12_playerOf_72, ae_X12_playerOf_77, am_bnx_v, am_bnx_e, am_tl_s, am_tl_n, am_rv_s, am_add_rx, c0, p0, w2, hq, hin, htn, am_sw_y (show (0 : Int32) = 0 from rfl), hx 0 (by decide)]
      · show (_ : am_T) = some (.inl (some (.int (σ (50 + 5 * k + 1)))), M, 0, 0)
        simp only [ae_X12_playerOf_0, ae_X12_playerOf_5, ae_X12_playerOf_9, ae_X12_playerOf_12, ae_X12_playerOf_14, ae_X12_playerOf_52, ae_X12_playerOf_57, ae_X12_playerOf_62, ae_X12_playerOf_67, ae_X12_playerOf_72, ae_X12_playerOf_77, am_bnx_v, am_bnx_e, am_tl_s, am_tl_n, am_rv_s, am_add_rx, c0, p0, w2, hq, hin, htn, am_sw_n am_d_1_0, am_sw_y (show (1 : Int32) = 1 from rfl), hx 1 (by decide)]
      · show (_ : am_T) = some (.inl (some (.int (σ (50 + 5 * k + 2)))), M, 0, 0)
        simp only [ae_X12_playerOf_0, ae_X12_playerOf_5, ae_X12_playerOf_9, ae_X12_playerOf_12, ae_X12_playerOf_14, ae_X12_playerOf_52, ae_X12_playerOf_57, ae_X12_playerOf_62, ae_X12_playerOf_67, ae_X12_playerOf_72, ae_X12_playerOf_77, am_bnx_v, am_bnx_e, am_tl_s, am_tl_n, am_rv_s, am_add_rx, c0, p0, w2, hq, hin, htn, am_sw_n am_d_2_0, am_sw_n am_d_2_1, am_sw_y (show (2 : Int32) = 2 from rfl), hx 2 (by decide)]
      · show (_ : am_T) = some (.inl (some (.int (σ (50 + 5 * k + 3)))), M, 0, 0)
        simp only [ae_X12_playerOf_0, ae_X12_playerOf_5, ae_X12_playerOf_9, ae_X12_playerOf_12, ae_X12_playerOf_14, ae_X12_playerOf_52, ae_X12_playerOf_57, ae_X12_playerOf_62, ae_X12_playerOf_67, ae_X12_playerOf_72, ae_X12_playerOf_77, am_bnx_v, am_bnx_e, am_tl_s, am_tl_n, am_rv_s, am_add_rx, c0, p0, w2, hq, hin, htn, am_sw_n am_d_3_0, am_sw_n am_d_3_1, am_sw_n am_d_3_2, am_sw_y (show (3 : Int32) = 3 from rfl), hx 3 (by decide)]
      · show (_ : am_T) = some (.inl (some (.int (σ (50 + 5 * k + 4)))), M, 0, 0)
        simp only [ae_X12_playerOf_0, ae_X12_playerOf_5, ae_X12_playerOf_9, ae_X12_playerOf_12, ae_X12_playerOf_14, ae_X12_playerOf_52, ae_X12_playerOf_57, ae_X12_playerOf_62, ae_X12_playerOf_67, ae_X12_playerOf_72, ae_X12_playerOf_77, am_bnx_v, am_bnx_e, am_tl_s, am_tl_n, am_rv_s, am_add_rx, c0, p0, w2, hq, hin, htn, am_sw_n am_d_4_0, am_sw_n am_d_4_1, am_sw_n am_d_4_2, am_sw_n am_d_4_3, am_sw_y (show (4 : Int32) = 4 from rfl), hx 4 (by decide)]
theorem mq_playerOf {σ : Nat → Int32} {L : List (Nat → Int32)} {H : List av_K} {P : Option av_K} {q : Int32 × Int32 × Int32} {n : Nat} {T : Nat → Int32} {f : Int32} {l : List Int32} {D bd : Nat} {p w : Int32} {M : am_M} (hy : av_y D M σ L H P q n T f l) (hok : av_ok bd σ L) : ∃ M2, av_qm D (am_val iX13_playerOf 0 [some (.ref (am_c D 13)), some (.int p), some (.int w)] [] M) (aq_playerOf σ p w) M2 ∧ av_ys D M M2 := by
  unfold aq_playerOf
  have hn6 := hok.2.2.2.2.2.1
  have z0 := mc_isPlayer (x := p) (n := av_np σ) hy.1.1 ((hy.1.2.1 0 (by decide) (by decide)).trans hok.2.2.2.2.2.2.1) (by omega)
  cases hp : am_lt p (av_np σ) with
  | false =>
    rw [if_pos rfl]
    rw [hp] at z0
    refine ⟨av_i M (am_c D 13) 0 1, ⟨0, ?_, av_jS⟩, (av_yq hy).2.1⟩
    simp only [ae_X13_playerOf_0, ae_X13_playerOf_6, ae_X13_playerOf_9, ae_X13_playerOf_13, ae_X13_playerOf_19, ae_X13_playerOf_22, ae_X13_playerOf_26, ae_X13_playerOf_37, ae_X13_playerOf_41, ae_X13_playerOf_47, am_bnx_v, am_bnx_e, am_tl_s, am_tl_n, am_rv_s, am_add_rx, z0, am_bi_f, not_true_eq_false, not_false_eq_true, if_true, if_false, am_1n0, or_true, true_or, eq_self, Bool.true_eq_false, Bool.false_eq_true, cond_true, cond_false, av_jS, am_l1]
  | true =>
    rw [if_neg (by decide)]
    rw [hp] at z0
    obtain ⟨k, hk, rfl⟩ := am_lt_n (by omega) hp
    rw [av_ix_n (by omega)]
    cases hw : am_wt w 0 4 with
    | false =>
      rw [if_pos rfl]
      refine ⟨av_i M (am_c D 13) 0 2, ⟨0, ?_, av_jS⟩, (av_yq hy).2.1⟩
      simp only [ae_X13_playerOf_0, ae_X13_playerOf_6, ae_X13_playerOf_9, ae_X13_playerOf_13, ae_X13_playerOf_19, ae_X13_playerOf_22, ae_X13_playerOf_26, ae_X13_playerOf_37, ae_X13_playerOf_41, ae_X13_playerOf_47, am_bnx_v, am_bnx_e, am_tl_s, am_tl_n, am_rv_s, am_add_rx, z0, mc_in, hw, am_bi_t, am_bi_f, not_true_eq_false, not_false_eq_true, if_true, if_false, am_1n0, or_true, true_or, eq_self, Bool.true_eq_false, Bool.false_eq_true, cond_true, cond_false, av_jS, am_l2]
    | true =>
      rw [if_neg (by decide)]
      obtain ⟨⟨hm, hr⟩, hs, -⟩ := av_yq (x := 0) hy
      refine ⟨av_i M (am_c D 13) 0 0, ⟨?_, av_jS⟩, hs⟩
      rcases av_w4 hw with rfl | rfl | rfl | rfl | rfl
      · have e := mc_p0 (k := k) hm (by omega)
        rw [hr.1 (50 + 5 * k) (by omega) (by omega)] at e
        rw [show σ (50 + 5 * k + av_ix 0) = σ (50 + 5 * k) from congrArg σ (show 50 + 5 * k + 0 = 50 + 5 * k by omega)]
        simp only [ae_X13_playerOf_0, ae_X13_playerOf_6, ae_X13_playerOf_9, ae_X13_playerOf_13, ae_X13_playerOf_19, ae_X13_playerOf_22, ae_X13_playerOf_26, ae_X13_playerOf_37, ae_X13_playerOf_41, ae_X13_playerOf_47, am_bnx_v, am_bnx_e, am_tl_s, am_tl_n, am_rv_s, am_add_rx, z0, mc_in, hw, am_bi_t, not_true_eq_false, not_false_eq_true, if_true, if_false, am_1n0, or_true, true_or, eq_self, Bool.true_eq_false, Bool.false_eq_true, cond_true, cond_false, av_jS, am_l0, e]
      · have e := mc_p1 (k := k) hm (by omega)
        rw [hr.1 (51 + 5 * k) (by omega) (by omega)] at e
        rw [show σ (50 + 5 * k + av_ix 1) = σ (51 + 5 * k) from congrArg σ (show 50 + 5 * k + 1 = 51 + 5 * k by omega)]
        simp only [ae_X13_playerOf_0, ae_X13_playerOf_6, ae_X13_playerOf_9, ae_X13_playerOf_13, ae_X13_playerOf_19, ae_X13_playerOf_22, ae_X13_playerOf_26, ae_X13_playerOf_37, ae_X13_playerOf_41, ae_X13_playerOf_47, am_bnx_v, am_bnx_e, am_tl_s, am_tl_n, am_rv_s, am_add_rx, z0, mc_in, hw, am_bi_t, not_true_eq_false, not_false_eq_true, if_true, if_false, am_1n0, or_true, true_or, eq_self, Bool.true_eq_false, Bool.false_eq_true, cond_true, cond_false, av_jS, am_l0, e]
      · have e := mc_p2 (k := k) hm (by omega)
        rw [hr.1 (52 + 5 * k) (by omega) (by omega)] at e
        rw [show σ (50 + 5 * k + av_ix 2) = σ (52 + 5 * k) from congrArg σ (show 50 + 5 * k + 2 = 52 + 5 * k by omega)]
        simp only [ae_X13_playerOf_0, ae_X13_playerOf_6, ae_X13_playerOf_9, ae_X13_playerOf_13, ae_X13_playerOf_19, ae_X13_playerOf_22, ae_X13_playerOf_26, ae_X13_playerOf_37, ae_X13_playerOf_41, ae_X13_playerOf_47, am_bnx_v, am_bnx_e, am_tl_s, am_tl_n, am_rv_s, am_add_rx, z0, mc_in, hw, am_bi_t, not_true_eq_false, not_false_eq_true, if_true, if_false, am_1n0, or_true, true_or, eq_self, Bool.true_eq_false, Bool.false_eq_true, cond_true, cond_false, av_jS, am_l0, e]
      · have e := mc_p3 (k := k) hm (by omega)
        rw [hr.1 (53 + 5 * k) (by omega) (by omega)] at e
        rw [show σ (50 + 5 * k + av_ix 3) = σ (53 + 5 * k) from congrArg σ (show 50 + 5 * k + 3 = 53 + 5 * k by omega)]
        simp only [ae_X13_playerOf_0, ae_X13_playerOf_6, ae_X13_playerOf_9, ae_X13_playerOf_13, ae_X13_playerOf_19, ae_X13_playerOf_22, ae_X13_playerOf_26, ae_X13_playerOf_37, ae_X13_playerOf_41, ae_X13_playerOf_47, am_bnx_v, am_bnx_e, am_tl_s, am_tl_n, am_rv_s, am_add_rx, z0, mc_in, hw, am_bi_t, not_true_eq_false, not_false_eq_true, if_true, if_false, am_1n0, or_true, true_or, eq_self, Bool.true_eq_false, Bool.false_eq_true, cond_true, cond_false, av_jS, am_l0, e]
      · have e := mc_p4 (k := k) hm (by omega)
        rw [hr.1 (54 + 5 * k) (by omega) (by omega)] at e
        rw [show σ (50 + 5 * k + av_ix 4) = σ (54 + 5 * k) from congrArg σ (show 50 + 5 * k + 4 = 54 + 5 * k by omega)]
        simp only [ae_X13_playerOf_0, ae_X13_playerOf_6, ae_X13_playerOf_9, ae_X13_playerOf_13, ae_X13_playerOf_19, ae_X13_playerOf_22, ae_X13_playerOf_26, ae_X13_playerOf_37, ae_X13_playerOf_41, ae_X13_playerOf_47, am_bnx_v, am_bnx_e, am_tl_s, am_tl_n, am_rv_s, am_add_rx, z0, mc_in, hw, am_bi_t, not_true_eq_false, not_false_eq_true, if_true, if_false, am_1n0, or_true, true_or, eq_self, Bool.true_eq_false, Bool.false_eq_true, cond_true, cond_false, av_jS, am_l0, e]
/-! soundOf -/
def aq_soundOf (L : List (Nat → Int32)) (p w : Int32) : av_A := if am_lt p L.length = false then .inr (1, 1) else if am_wt w 0 4 = false then .inr (2, 2) else .inl (av_s L (av_ix p) (av_ix w))
theorem cq_soundOf {B : Nat} {rm : Nat → Nat} {σ : Nat → Int32} {L : List (Nat → Int32)} {bd : Nat} {p w : Int32} {M : am_M} (p0 : M.2.1 (am_c 0 12) 0 = am_c B 1 + 1) (hC : av_C M B rm σ L) (hok : av_ok bd σ L) : av_qc (am_val iX12_soundOf 0 [some (.ref (am_c 0 12)), some (.int p), some (.int w), none] [] M) (aq_soundOf L p w) M := by
  unfold aq_soundOf
  cases hp : am_lt p L.length with
  | false =>
    rw [if_pos rfl]
    show (_ : am_T) = some (.inr 1, M, 1, 6)
    simp only [ae_X12_soundOf_0, ae_X12_soundOf_5, ae_X12_soundOf_9, ae_X12_soundOf_12, ae_X12_soundOf_14, ae_X12_soundOf_52, ae_X12_soundOf_57, ae_X12_soundOf_62, ae_X12_soundOf_67, ae_X12_soundOf_72, ae_X12_soundOf_79, ae_X12_soundOf_83, ae_X12_soundOf_85, am_bnx_v, am_bnx_e, am_tl_s, am_tl_n, am_rv_s, am_add_rx, ac_ckSound_f p0 hC hp]
  | true =>
    rw [if_neg (by decide)]
    have c0 := ac_ckSound_t p0 hC hp
    obtain ⟨⟨⟨w0, w1, w2, w3, w4, w5, w6, w7, w8, w9⟩, hrm, hpr⟩, ⟨hnp, hs0, hln, hct⟩, hW, hT, hN, hP, hS, hB⟩ := hC
    obtain ⟨k, hk, rfl⟩ := am_lt_n (by omega) hp
    have hin := am_in_n (show k < 8 by omega) (by decide)
    have htn := am_tn (show k < 2147483648 by omega)
    have hq := hrm k (by omega)
    obtain ⟨r0, r1, r2, r3, r4⟩ := hS k hk
    rw [av_ix_n (by omega)]
    cases hw : am_wt w 0 4 with
    | false =>
      rw [if_pos rfl]
      show (_ : am_T) = some (.inr 2, M, 1, 6)
      simp only [ae_X12_soundOf_0, ae_X12_soundOf_5, ae_X12_soundOf_9, ae_X12_soundOf_12, ae_X12_soundOf_14, ae_X12_soundOf_52, ae_X12_soundOf_57, ae_X12_soundOf_62, ae_X12_soundOf_67, ae_X12_soundOf_72, ae_X12_soundOf_79, ae_X12_soundOf_83, ae_X12_soundOf_85, am_bnx_v, am_bnx_e, am_tl_s, am_tl_n, am_rv_s, am_add_rx, c0, p0, w3, hq, hin, htn, am_sw_n (av_w4n hw (show am_wt 0 0 4 = true by decide)), am_sw_n (av_w4n hw (show am_wt 1 0 4 = true by decide)), am_sw_n (av_w4n hw (show am_wt 2 0 4 = true by decide)), am_sw_n (av_w4n hw (show am_wt 3 0 4 = true by decide)), am_sw_n (av_w4n hw (show am_wt 4 0 4 = true by decide)), am_sw_0]
    | true =>
      rw [if_neg (by decide)]
      rcases av_w4 hw with rfl | rfl | rfl | rfl | rfl
      · show (_ : am_T) = some (.inl (some (.int (av_s L k 0))), M, 0, 0)
        simp only [ae_X12_soundOf_0, ae_X12_soundOf_5, ae_X12_soundOf_9, ae_X12_soundOf_12, ae_X12_soundOf_14, ae_X12_soundOf_52, ae_X12_soundOf_57, ae_X12_soundOf_62, ae_X12_soundOf_67, ae_X12_soundOf_72, ae_X12_soundOf_79, ae_X12_soundOf_83, ae_X12_soundOf_85, am_bnx_v, am_bnx_e, am_tl_s, am_tl_n, am_rv_s, am_add_rx, c0, p0, w3, hq, hin, htn, am_sw_y (show (0 : Int32) = 0 from rfl), r0]
      · show (_ : am_T) = some (.inl (some (.int (av_s L k 1))), M, 0, 0)
        simp only [ae_X12_soundOf_0, ae_X12_soundOf_5, ae_X12_soundOf_9, ae_X12_soundOf_12, ae_X12_soundOf_14, ae_X12_soundOf_52, ae_X12_soundOf_57, ae_X12_soundOf_62, ae_X12_soundOf_67, ae_X12_soundOf_72, ae_X12_soundOf_79, ae_X12_soundOf_83, ae_X12_soundOf_85, am_bnx_v, am_bnx_e, am_tl_s, am_tl_n, am_rv_s, am_add_rx, c0, p0, w3, hq, hin, htn, am_sw_n am_d_1_0, am_sw_y (show (1 : Int32) = 1 from rfl), r1]
      · show (_ : am_T) = some (.inl (some (.int (av_s L k 2))), M, 0, 0)
        simp only [ae_X12_soundOf_0, ae_X12_soundOf_5, ae_X12_soundOf_9, ae_X12_soundOf_12, ae_X12_soundOf_14, ae_X12_soundOf_52, ae_X12_soundOf_57, ae_X12_soundOf_62, ae_X12_soundOf_67, ae_X12_soundOf_72, ae_X12_soundOf_79, ae_X12_soundOf_83, ae_X12_soundOf_85, am_bnx_v, am_bnx_e, am_tl_s, am_tl_n, am_rv_s, am_add_rx, c0, p0, w3, hq, hin, htn, am_sw_n am_d_2_0, am_sw_n am_d_2_1, am_sw_y (show (2 : Int32) = 2 from rfl), r2]
      · show (_ : am_T) = some (.inl (some (.int (av_s L k 3))), M, 0, 0)
        simp only [ae_X12_soundOf_0, ae_X12_soundOf_5, ae_X12_soundOf_9, ae_X12_soundOf_12, ae_X12_soundOf_14, ae_X12_soundOf_52, ae_X12_soundOf_57, ae_X12_soundOf_62, ae_X12_soundOf_67, ae_X12_soundOf_72, ae_X12_soundOf_79, ae_X12_soundOf_83, ae_X12_soundOf_85, am_bnx_v, am_bnx_e, am_tl_s, am_tl_n, am_rv_s, am_add_rx, c0, p0, w3, hq, hin, htn, am_sw_n am_d_3_0, am_sw_n am_d_3_1, am_sw_n am_d_3_2, am_sw_y (show (3 : Int32) = 3 from rfl), r3]
      · show (_ : am_T) = some (.inl (some (.int (av_s L k 4))), M, 0, 0)
        rcases (hok.2.2.2.2.1 k hk).2.2.2 with h | h
        · rw [h] at r4
          simp only [ae_X12_soundOf_0, ae_X12_soundOf_5, ae_X12_soundOf_9, ae_X12_soundOf_12, ae_X12_soundOf_14, ae_X12_soundOf_52, ae_X12_soundOf_57, ae_X12_soundOf_62, ae_X12_soundOf_67, ae_X12_soundOf_72, ae_X12_soundOf_79, ae_X12_soundOf_83, ae_X12_soundOf_85, am_bnx_v, am_bnx_e, am_tl_s, am_tl_n, am_rv_s, am_add_rx, c0, p0, w3, hq, hin, htn, am_sw_n am_d_4_0, am_sw_n am_d_4_1, am_sw_n am_d_4_2, am_sw_n am_d_4_3, am_sw_y (show (4 : Int32) = 4 from rfl), r4, not_true_eq_false, not_false_eq_true, if_true, if_false, am_1n0, or_true, true_or, eq_self, Bool.true_eq_false, Bool.false_eq_true, cond_true, cond_false, h]
        · rw [h] at r4
          simp only [ae_X12_soundOf_0, ae_X12_soundOf_5, ae_X12_soundOf_9, ae_X12_soundOf_12, ae_X12_soundOf_14, ae_X12_soundOf_52, ae_X12_soundOf_57, ae_X12_soundOf_62, ae_X12_soundOf_67, ae_X12_soundOf_72, ae_X12_soundOf_79, ae_X12_soundOf_83, ae_X12_soundOf_85, am_bnx_v, am_bnx_e, am_tl_s, am_tl_n, am_rv_s, am_add_rx, c0, p0, w3, hq, hin, htn, am_sw_n am_d_4_0, am_sw_n am_d_4_1, am_sw_n am_d_4_2, am_sw_n am_d_4_3, am_sw_y (show (4 : Int32) = 4 from rfl), r4, not_true_eq_false, not_false_eq_true, if_true, if_false, am_1n0, or_true, true_or, eq_self, Bool.true_eq_false, Bool.false_eq_true, cond_true, cond_false, h]
theorem mq_soundOf {σ : Nat → Int32} {L : List (Nat → Int32)} {H : List av_K} {P : Option av_K} {q : Int32 × Int32 × Int32} {n : Nat} {T : Nat → Int32} {f : Int32} {l : List Int32} {D bd : Nat} {p w : Int32} {M : am_M} (hy : av_y D M σ L H P q n T f l) (hok : av_ok bd σ L) : ∃ M2, av_qm D (am_val iX13_soundOf 0 [some (.ref (am_c D 13)), some (.int p), some (.int w)] [] M) (aq_soundOf L p w) M2 ∧ av_ys D M M2 := by
  unfold aq_soundOf
  have hl8 := hok.2.2.2.2.2.2.2
  have z0 := mc_isSound (x := p) hy.1.1 hy.1.2.2.1 (by omega)
  cases hp : am_lt p L.length with
  | false =>
    rw [if_pos rfl]
    rw [hp] at z0
    refine ⟨av_i M (am_c D 13) 0 1, ⟨0, ?_, av_jS⟩, (av_yq hy).2.1⟩
    simp only [ae_X13_soundOf_0, ae_X13_soundOf_6, ae_X13_soundOf_9, ae_X13_soundOf_13, ae_X13_soundOf_19, ae_X13_soundOf_22, ae_X13_soundOf_26, ae_X13_soundOf_37, ae_X13_soundOf_41, ae_X13_soundOf_47, am_bnx_v, am_bnx_e, am_tl_s, am_tl_n, am_rv_s, am_add_rx, z0, am_bi_f, not_true_eq_false, not_false_eq_true, if_true, if_false, am_1n0, or_true, true_or, eq_self, Bool.true_eq_false, Bool.false_eq_true, cond_true, cond_false, av_jS, am_l1]
  | true =>
    rw [if_neg (by decide)]
    rw [hp] at z0
    obtain ⟨k, hk, rfl⟩ := am_lt_n (by omega) hp
    rw [av_ix_n (by omega)]
    cases hw : am_wt w 0 4 with
    | false =>
      rw [if_pos rfl]
      refine ⟨av_i M (am_c D 13) 0 2, ⟨0, ?_, av_jS⟩, (av_yq hy).2.1⟩
      simp only [ae_X13_soundOf_0, ae_X13_soundOf_6, ae_X13_soundOf_9, ae_X13_soundOf_13, ae_X13_soundOf_19, ae_X13_soundOf_22, ae_X13_soundOf_26, ae_X13_soundOf_37, ae_X13_soundOf_41, ae_X13_soundOf_47, am_bnx_v, am_bnx_e, am_tl_s, am_tl_n, am_rv_s, am_add_rx, z0, mc_in, hw, am_bi_t, am_bi_f, not_true_eq_false, not_false_eq_true, if_true, if_false, am_1n0, or_true, true_or, eq_self, Bool.true_eq_false, Bool.false_eq_true, cond_true, cond_false, av_jS, am_l2]
    | true =>
      rw [if_neg (by decide)]
      obtain ⟨⟨hm, hr⟩, hs, -⟩ := av_yq (x := 0) hy
      obtain ⟨g0, g1, g2, g3, g4⟩ := av_mr_s hr hk
      refine ⟨av_i M (am_c D 13) 0 0, ⟨?_, av_jS⟩, hs⟩
      rcases av_w4 hw with rfl | rfl | rfl | rfl | rfl
      · have e := mc_s0 (k := k) hm (by omega)
        rw [g0] at e
        show (_ : am_T) = some (.inl (some (.int (av_s L k 0))), av_i M (am_c D 13) 0 0, 0, 0)
        simp only [ae_X13_soundOf_0, ae_X13_soundOf_6, ae_X13_soundOf_9, ae_X13_soundOf_13, ae_X13_soundOf_19, ae_X13_soundOf_22, ae_X13_soundOf_26, ae_X13_soundOf_37, ae_X13_soundOf_41, ae_X13_soundOf_47, am_bnx_v, am_bnx_e, am_tl_s, am_tl_n, am_rv_s, am_add_rx, z0, mc_in, hw, am_bi_t, not_true_eq_false, not_false_eq_true, if_true, if_false, am_1n0, or_true, true_or, eq_self, Bool.true_eq_false, Bool.false_eq_true, cond_true, cond_false, av_jS, am_l0, e]
      · have e := mc_s1 (k := k) hm (by omega)
        rw [g1] at e
        show (_ : am_T) = some (.inl (some (.int (av_s L k 1))), av_i M (am_c D 13) 0 0, 0, 0)
        simp only [ae_X13_soundOf_0, ae_X13_soundOf_6, ae_X13_soundOf_9, ae_X13_soundOf_13, ae_X13_soundOf_19, ae_X13_soundOf_22, ae_X13_soundOf_26, ae_X13_soundOf_37, ae_X13_soundOf_41, ae_X13_soundOf_47, am_bnx_v, am_bnx_e, am_tl_s, am_tl_n, am_rv_s, am_add_rx, z0, mc_in, hw, am_bi_t, not_true_eq_false, not_false_eq_true, if_true, if_false, am_1n0, or_true, true_or, eq_self, Bool.true_eq_false, Bool.false_eq_true, cond_true, cond_false, av_jS, am_l0, e]
      · have e := mc_s2 (k := k) hm (by omega)
        rw [g2] at e
        show (_ : am_T) = some (.inl (some (.int (av_s L k 2))), av_i M (am_c D 13) 0 0, 0, 0)
        simp only [ae_X13_soundOf_0, ae_X13_soundOf_6, ae_X13_soundOf_9, ae_X13_soundOf_13, ae_X13_soundOf_19, ae_X13_soundOf_22, ae_X13_soundOf_26, ae_X13_soundOf_37, ae_X13_soundOf_41, ae_X13_soundOf_47, am_bnx_v, am_bnx_e, am_tl_s, am_tl_n, am_rv_s, am_add_rx, z0, mc_in, hw, am_bi_t, not_true_eq_false, not_false_eq_true, if_true, if_false, am_1n0, or_true, true_or, eq_self, Bool.true_eq_false, Bool.false_eq_true, cond_true, cond_false, av_jS, am_l0, e]
      · have e := mc_s3 (k := k) hm (by omega)
        rw [g3] at e
        show (_ : am_T) = some (.inl (some (.int (av_s L k 3))), av_i M (am_c D 13) 0 0, 0, 0)
        simp only [ae_X13_soundOf_0, ae_X13_soundOf_6, ae_X13_soundOf_9, ae_X13_soundOf_13, ae_X13_soundOf_19, ae_X13_soundOf_22, ae_X13_soundOf_26, ae_X13_soundOf_37, ae_X13_soundOf_41, ae_X13_soundOf_47, am_bnx_v, am_bnx_e, am_tl_s, am_tl_n, am_rv_s, am_add_rx, z0, mc_in, hw, am_bi_t, not_true_eq_false, not_false_eq_true, if_true, if_false, am_1n0, or_true, true_or, eq_self, Bool.true_eq_false, Bool.false_eq_true, cond_true, cond_false, av_jS, am_l0, e]
      · have e := mc_s4 (k := k) hm (by omega)
        rw [g4] at e
        show (_ : am_T) = some (.inl (some (.int (av_s L k 4))), av_i M (am_c D 13) 0 0, 0, 0)
        simp only [ae_X13_soundOf_0, ae_X13_soundOf_6, ae_X13_soundOf_9, ae_X13_soundOf_13, ae_X13_soundOf_19, ae_X13_soundOf_22, ae_X13_soundOf_26, ae_X13_soundOf_37, ae_X13_soundOf_41, ae_X13_soundOf_47, am_bnx_v, am_bnx_e, am_tl_s, am_tl_n, am_rv_s, am_add_rx, z0, mc_in, hw, am_bi_t, not_true_eq_false, not_false_eq_true, if_true, if_false, am_1n0, or_true, true_or, eq_self, Bool.true_eq_false, Bool.false_eq_true, cond_true, cond_false, av_jS, am_l0, e]
/-! isEcho, echoesAt -/
def aq_isEcho (L : List (Nat → Int32)) (p : Int32) : av_A := if am_lt p L.length = false then .inr (1, 1) else .inl (am_bi (decide (0 < av_s L (av_ix p) 3)))
theorem cq_isEcho {B : Nat} {rm : Nat → Nat} {σ : Nat → Int32} {L : List (Nat → Int32)} {p : Int32} {M : am_M} (p0 : M.2.1 (am_c 0 12) 0 = am_c B 1 + 1) (hC : av_C M B rm σ L) : av_qc (am_val iX12_isEcho 0 [some (.ref (am_c 0 12)), some (.int p)] [] M) (aq_isEcho L p) M := by
  unfold aq_isEcho
  cases hp : am_lt p L.length with
  | false =>
    rw [if_pos rfl]
    show (_ : am_T) = some (.inr 1, M, 1, 6)
    simp only [ae_X12_isEcho_0, ae_X12_isEcho_5, ae_X12_isEcho_9, ae_X12_isEcho_12, ae_X12_isEcho_14, ae_X12_isEcho_17, am_bnx_v, am_bnx_e, am_tl_s, am_tl_n, am_rv_s, am_add_rx, ac_ckSound_f p0 hC hp]
  | true =>
    rw [if_neg (by decide)]
    have c0 := ac_ckSound_t p0 hC hp
    obtain ⟨⟨⟨w0, w1, w2, w3, w4, w5, w6, w7, w8, w9⟩, hrm, hpr⟩, ⟨hnp, hs0, hln, hct⟩, hW, hT, hN, hP, hS, hB⟩ := hC
    obtain ⟨k, hk, rfl⟩ := am_lt_n (by omega) hp
    have hin := am_in_n (show k < 8 by omega) (by decide)
    have htn := am_tn (show k < 2147483648 by omega)
    have hq := hrm k (by omega)
    obtain ⟨r0, r1, r2, r3, r4⟩ := hS k hk
    rw [av_ix_n (by omega)]
    show (_ : am_T) = some (.inl (some (.int (am_bi (decide (0 < av_s L k 3))))), M, 0, 0)
    simp only [ae_X12_isEcho_0, ae_X12_isEcho_5, ae_X12_isEcho_9, ae_X12_isEcho_12, ae_X12_isEcho_14, ae_X12_isEcho_17, am_bnx_v, am_bnx_e, am_tl_s, am_tl_n, am_rv_s, am_add_rx, c0, p0, w3, hq, hin, htn, ac_wasThrownBack, r3, am_bi_01]
theorem mq_isEcho {σ : Nat → Int32} {L : List (Nat → Int32)} {H : List av_K} {P : Option av_K} {q : Int32 × Int32 × Int32} {n : Nat} {T : Nat → Int32} {f : Int32} {l : List Int32} {D bd : Nat} {p : Int32} {M : am_M} (hy : av_y D M σ L H P q n T f l) (hok : av_ok bd σ L) : ∃ M2, av_qm D (am_val iX13_isEcho 0 [some (.ref (am_c D 13)), some (.int p)] [] M) (aq_isEcho L p) M2 ∧ av_ys D M M2 := by
  unfold aq_isEcho
  have hl8 := hok.2.2.2.2.2.2.2
  have z0 := mc_isSound (x := p) hy.1.1 hy.1.2.2.1 (by omega)
  cases hp : am_lt p L.length with
  | false =>
    rw [if_pos rfl]
    rw [hp] at z0
    refine ⟨av_i M (am_c D 13) 0 1, ⟨0, ?_, av_jS⟩, (av_yq hy).2.1⟩
    simp only [ae_X13_isEcho_0, ae_X13_isEcho_6, ae_X13_isEcho_9, ae_X13_isEcho_13, ae_X13_isEcho_24, ae_X13_isEcho_30, ae_X13_isEcho_33, ae_X13_isEcho_37, am_bnx_v, am_bnx_e, am_tl_s, am_tl_n, am_rv_s, am_add_rx, z0, am_bi_f, not_true_eq_false, not_false_eq_true, if_true, if_false, am_1n0, or_true, true_or, eq_self, Bool.true_eq_false, Bool.false_eq_true, cond_true, cond_false, av_jS]
  | true =>
    rw [if_neg (by decide)]
    rw [hp] at z0
    obtain ⟨k, hk, rfl⟩ := am_lt_n (by omega) hp
    rw [av_ix_n (by omega)]
    obtain ⟨⟨hm, hr⟩, hs, -⟩ := av_yq (x := 0) hy
    have e := mc_s3 (k := k) hm (by omega)
    rw [(av_mr_s hr hk).2.2.2.1] at e
    refine ⟨av_i M (am_c D 13) 0 0, ⟨?_, av_jS⟩, hs⟩
    by_cases h : av_s L k 3 ≤ 0
    · have h' : ¬ 0 < av_s L k 3 := by rw [am_nlt]; exact h
      rw [decide_eq_false h']
      simp only [ae_X13_isEcho_0, ae_X13_isEcho_6, ae_X13_isEcho_9, ae_X13_isEcho_13, ae_X13_isEcho_24, ae_X13_isEcho_30, ae_X13_isEcho_33, ae_X13_isEcho_37, am_bnx_v, am_bnx_e, am_tl_s, am_tl_n, am_rv_s, am_add_rx, z0, am_bi_t, am_bi_f, not_true_eq_false, not_false_eq_true, if_true, if_false, am_1n0, or_true, true_or, eq_self, Bool.true_eq_false, Bool.false_eq_true, cond_true, cond_false, av_jS, e, h]
    · have h' : 0 < av_s L k 3 := by rw [am_nle] at h; exact h
      rw [decide_eq_true h']
      simp only [ae_X13_isEcho_0, ae_X13_isEcho_6, ae_X13_isEcho_9, ae_X13_isEcho_13, ae_X13_isEcho_24, ae_X13_isEcho_30, ae_X13_isEcho_33, ae_X13_isEcho_37, am_bnx_v, am_bnx_e, am_tl_s, am_tl_n, am_rv_s, am_add_rx, z0, am_bi_t, not_true_eq_false, not_false_eq_true, if_true, if_false, am_1n0, or_true, true_or, eq_self, Bool.true_eq_false, Bool.false_eq_true, cond_true, cond_false, av_jS, e, h]
def aq_echoesAt (L : List (Nat → Int32)) (p : Int32) : av_A := if am_pl p = false then .inr (1, 1) else .inl (am_it (av_es L p) L.length 0)
theorem cq_echoesAt {B : Nat} {rm : Nat → Nat} {σ : Nat → Int32} {L : List (Nat → Int32)} {p : Int32} {M : am_M} (p0 : M.2.1 (am_c 0 12) 0 = am_c B 1 + 1) (hC : av_C M B rm σ L) : av_qc (am_val iX12_echoesAt 0 [some (.ref (am_c 0 12)), some (.int p)] [] M) (aq_echoesAt L p) M := by
  unfold aq_echoesAt
  cases hp : am_pl p with
  | false =>
    rw [if_pos rfl]
    show (_ : am_T) = some (.inr 1, M, 1, 6)
    simp only [ae_X12_echoesAt_0, ae_X12_echoesAt_4, ae_X12_echoesAt_8, ae_X12_echoesAt_12, am_bnx_v, am_bnx_e, am_tl_s, am_tl_n, am_rv_s, am_add_rx, ac_ckPlace_f hp]
  | true =>
    rw [if_neg (by decide)]
    show (_ : am_T) = some (.inl (some (.int (am_it (av_es L p) L.length 0))), M, 0, 0)
    simp only [ae_X12_echoesAt_0, ae_X12_echoesAt_4, ae_X12_echoesAt_8, ae_X12_echoesAt_12, am_bnx_v, am_bnx_e, am_tl_s, am_tl_n, am_rv_s, am_add_rx, ac_ckPlace_t hp, p0, ac_echoSetAt hC]
theorem mq_echoesAt {σ : Nat → Int32} {L : List (Nat → Int32)} {H : List av_K} {P : Option av_K} {q : Int32 × Int32 × Int32} {n : Nat} {T : Nat → Int32} {f : Int32} {l : List Int32} {D bd : Nat} {p : Int32} {M : am_M} (hy : av_y D M σ L H P q n T f l) (hok : av_ok bd σ L) : ∃ M2, av_qm D (am_val iX13_echoesAt 0 [some (.ref (am_c D 13)), some (.int p), none, none] [] M) (aq_echoesAt L p) M2 ∧ av_ys D M M2 := by
  unfold aq_echoesAt
  cases hp : am_pl p with
  | false =>
    rw [if_pos rfl]
    refine ⟨av_i M (am_c D 13) 0 1, ⟨0, ?_, av_jS⟩, (av_yq hy).2.1⟩
    simp only [ae_X13_echoesAt_0, ae_X13_echoesAt_5, ae_X13_echoesAt_8, ae_X13_echoesAt_12, ae_X13_echoesAt_23, ae_X13_echoesAt_25, ae_X13_echoesAt_34, ae_X13_echoesAt_39, ae_X13_echoesAt_46, ae_X13_echoesAt_49, ae_X13_echoesAt_55, ae_X13_echoesAt_64, am_bnx_v, am_bnx_e, am_tl_s, am_tl_n, am_rv_s, am_add_rx, mc_isPlace, hp, am_bi_f, not_true_eq_false, not_false_eq_true, if_true, if_false, am_1n0, or_true, true_or, eq_self, Bool.true_eq_false, Bool.false_eq_true, cond_true, cond_false, av_jS, am_l1]
  | true =>
    rw [if_neg (by decide)]
    have hl8 := hok.2.2.2.2.2.2.2
    obtain ⟨M0, hM0⟩ : ∃ M0, M0 = av_i M (am_c D 13) 0 0 := ⟨_, rfl⟩
    obtain ⟨⟨hm, hr⟩, hs, -⟩ := av_yq (x := 0) hy
    have t0 : (av_i M (am_c D 13) 0 0).1 (am_c D 13) 0 = 0 := av_jS
    rw [← hM0] at hm hr hs t0
    have hl := av_lp (H := fun k x _ => am_val iX13_echoesAt 29 [some (.ref (am_c D 13)), some (.int p), some (.int x), some (.int (nI k))] [] M0) (g := av_es L p) (N := L.length) (r := fun x => some (.inl (some (.int x)), M0, 0, 0)) 0 none
      (fun x o => by
        rw [ae_X13_echoesAt_29, hm.1, am_rv_s]
        simp only [ae_X13_echoesAt_0, ae_X13_echoesAt_5, ae_X13_echoesAt_8, ae_X13_echoesAt_12, ae_X13_echoesAt_23, ae_X13_echoesAt_25, ae_X13_echoesAt_34, ae_X13_echoesAt_39, ae_X13_echoesAt_46, ae_X13_echoesAt_49, ae_X13_echoesAt_55, ae_X13_echoesAt_64, hr.2.1, av_he (show L.length < 2147483648 by omega), if_true])
      (fun k x o hk => by
        refine ⟨none, ?_⟩
        have e1 := mc_isEchoAt (p := p) hm hr hk hl8 (av_ok_pos hok k hk)
        rw [ae_X13_echoesAt_29, hm.1, am_rv_s]
        unfold av_es
        cases hx : av_ec (av_s L k) p with
        | true =>
          rw [hx] at e1
          simp only [ae_X13_echoesAt_0, ae_X13_echoesAt_5, ae_X13_echoesAt_8, ae_X13_echoesAt_12, ae_X13_echoesAt_23, ae_X13_echoesAt_25, ae_X13_echoesAt_34, ae_X13_echoesAt_39, ae_X13_echoesAt_46, ae_X13_echoesAt_49, ae_X13_echoesAt_55, ae_X13_echoesAt_64, am_bnx_v, am_bnx_e, am_tl_s, am_tl_n, am_rv_s, am_add_rx, hr.2.1, av_hl hk (show L.length < 2147483648 by omega), e1, am_bi_t, not_true_eq_false, not_false_eq_true, if_true, if_false, am_1n0, or_true, true_or, eq_self, Bool.true_eq_false, Bool.false_eq_true, cond_true, cond_false, nI_1]
        | false =>
          rw [hx] at e1
          simp only [ae_X13_echoesAt_0, ae_X13_echoesAt_5, ae_X13_echoesAt_8, ae_X13_echoesAt_12, ae_X13_echoesAt_23, ae_X13_echoesAt_25, ae_X13_echoesAt_34, ae_X13_echoesAt_39, ae_X13_echoesAt_46, ae_X13_echoesAt_49, ae_X13_echoesAt_55, ae_X13_echoesAt_64, am_bnx_v, am_bnx_e, am_tl_s, am_tl_n, am_rv_s, am_add_rx, hr.2.1, av_hl hk (show L.length < 2147483648 by omega), e1, am_bi_f, not_true_eq_false, not_false_eq_true, if_true, if_false, am_1n0, or_true, true_or, eq_self, Bool.true_eq_false, Bool.false_eq_true, cond_true, cond_false, Int32.or_zero, nI_1])
    simp only [nI_0] at hl
    refine ⟨M0, ⟨?_, t0⟩, hs⟩
    simp only [ae_X13_echoesAt_0, ae_X13_echoesAt_5, ae_X13_echoesAt_8, ae_X13_echoesAt_12, ae_X13_echoesAt_23, ae_X13_echoesAt_25, ae_X13_echoesAt_34, ae_X13_echoesAt_39, ae_X13_echoesAt_46, ae_X13_echoesAt_49, ae_X13_echoesAt_55, ae_X13_echoesAt_64, am_bnx_v, am_bnx_e, am_tl_s, am_tl_n, am_rv_s, am_add_rx, mc_isPlace, hp, am_bi_t, not_true_eq_false, not_false_eq_true, if_true, if_false, am_1n0, or_true, true_or, eq_self, Bool.true_eq_false, Bool.false_eq_true, cond_true, cond_false, ← hM0, t0, am_l0, hl]
/-! price -/
def aq_price (σ : Nat → Int32) (t p : Int32) : av_A := if am_tm t = false then .inr (1, 1) else if am_pl p = false then .inr (1, 1) else if av_hf σ p = 0 then .inr (3, 2) else .inl (av_price σ t p)
theorem av_hf_0 {bd : Nat} {σ : Nat → Int32} {L : List (Nat → Int32)} {p : Nat} (hok : av_ok bd σ L) (hp : p < 16) : decide (0 < av_hf σ (nI p)) = !decide (av_hf σ (nI p) = 0) := by
  rw [av_hf_n hp]
  obtain ⟨h, hh, hσ, -⟩ := hok.1 p hp
  rw [hσ]
  have : ∀ h, h < 10 → decide ((0 : Int32) < nI h) = !decide (nI h = 0) := by decide
  exact this h (by omega)
theorem cq_price {B : Nat} {rm : Nat → Nat} {σ : Nat → Int32} {L : List (Nat → Int32)} {bd : Nat} {t p : Int32} {M : am_M} (p0 : M.2.1 (am_c 0 12) 0 = am_c B 1 + 1) (hC : av_C M B rm σ L) (hok : av_ok bd σ L) : av_qc (am_val iX12_price 0 [some (.ref (am_c 0 12)), some (.int t), some (.int p)] [] M) (aq_price σ t p) M := by
  have w0 := hC.1.1.1
  unfold aq_price
  cases ht : am_tm t with
  | false =>
    rw [if_pos rfl]
    show (_ : am_T) = some (.inr 1, M, 1, 6)
    simp only [ae_X12_price_0, ae_X12_price_4, ae_X12_price_8, ae_X12_price_12, ae_X12_price_15, ae_X12_price_19, ae_X12_price_22, ae_X12_price_33, ae_X12_price_37, ae_X12_price_40, ae_X12_price_45, am_bnx_v, am_bnx_e, am_tl_s, am_tl_n, am_rv_s, am_add_rx, ac_ckTeam_f ht]
  | true =>
    rw [if_neg (by decide)]
    cases hp : am_pl p with
    | false =>
      rw [if_pos rfl]
      show (_ : am_T) = some (.inr 1, M, 1, 6)
      simp only [ae_X12_price_0, ae_X12_price_4, ae_X12_price_8, ae_X12_price_12, ae_X12_price_15, ae_X12_price_19, ae_X12_price_22, ae_X12_price_33, ae_X12_price_37, ae_X12_price_40, ae_X12_price_45, am_bnx_v, am_bnx_e, am_tl_s, am_tl_n, am_rv_s, am_add_rx, ac_ckTeam_t ht, ac_ckPlace_f hp]
    | true =>
      rw [if_neg (by decide)]
      have c2 := ac_ckPlace_t (M := M) hp
      have e1 := ac_bisAt (p := p) hC
      have e2 := ac_bprice (t := t) (p := p) hC
      obtain ⟨k, hk, rfl⟩ := am_pl_n hp
      rw [av_hf_0 hok hk] at e1
      by_cases h : av_hf σ (nI k) = 0
      · rw [if_pos h]
        rw [h] at e1
        have e1 : am_val iX11_isAt 0 [some (.ref (am_c (B + 1) 11)), some (.int (nI k))] [] M = some (.inl (some (.int 0)), M, 0, 0) := e1
        show (_ : am_T) = some (.inr 3, M, 1, 6)
        simp only [ae_X12_price_0, ae_X12_price_4, ae_X12_price_8, ae_X12_price_12, ae_X12_price_15, ae_X12_price_19, ae_X12_price_22, ae_X12_price_33, ae_X12_price_37, ae_X12_price_40, ae_X12_price_45, am_bnx_v, am_bnx_e, am_tl_s, am_tl_n, am_rv_s, am_add_rx, ac_ckTeam_t ht, c2, p0, w0, e1, not_true_eq_false, not_false_eq_true, if_true, if_false, am_1n0, or_true, true_or, eq_self, Bool.true_eq_false, Bool.false_eq_true, cond_true, cond_false]
      · rw [if_neg h]
        rw [decide_eq_false h] at e1
        have e1 : am_val iX11_isAt 0 [some (.ref (am_c (B + 1) 11)), some (.int (nI k))] [] M = some (.inl (some (.int 1)), M, 0, 0) := e1
        show (_ : am_T) = some (.inl (some (.int (av_price σ t (nI k)))), M, 0, 0)
        simp only [ae_X12_price_0, ae_X12_price_4, ae_X12_price_8, ae_X12_price_12, ae_X12_price_15, ae_X12_price_19, ae_X12_price_22, ae_X12_price_33, ae_X12_price_37, ae_X12_price_40, ae_X12_price_45, am_bnx_v, am_bnx_e, am_tl_s, am_tl_n, am_rv_s, am_add_rx, ac_ckTeam_t ht, c2, p0, w0, e1, e2, not_true_eq_false, not_false_eq_true, if_true, if_false, am_1n0, or_true, true_or, eq_self, Bool.true_eq_false, Bool.false_eq_true, cond_true, cond_false]
theorem mq_price {σ : Nat → Int32} {L : List (Nat → Int32)} {H : List av_K} {P : Option av_K} {q : Int32 × Int32 × Int32} {n : Nat} {T : Nat → Int32} {f : Int32} {l : List Int32} {D bd : Nat} {t p : Int32} {M : am_M} (hy : av_y D M σ L H P q n T f l) (hok : av_ok bd σ L) : ∃ M2, av_qm D (am_val iX13_price 0 [some (.ref (am_c D 13)), some (.int t), some (.int p)] [] M) (aq_price σ t p) M2 ∧ av_ys D M M2 := by
  unfold aq_price
  cases ht : am_tm t with
  | false =>
    rw [if_pos rfl]
    refine ⟨av_i M (am_c D 13) 0 1, ⟨0, ?_, av_jS⟩, (av_yq hy).2.1⟩
    simp only [ae_X13_price_0, ae_X13_price_5, ae_X13_price_8, ae_X13_price_12, ae_X13_price_15, ae_X13_price_19, ae_X13_price_24, ae_X13_price_27, ae_X13_price_31, ae_X13_price_42, ae_X13_price_46, ae_X13_price_52, am_bnx_v, am_bnx_e, am_tl_s, am_tl_n, am_rv_s, am_add_rx, mc_isTeam, ht, am_bi_f, not_true_eq_false, not_false_eq_true, if_true, if_false, am_1n0, or_true, true_or, eq_self, Bool.true_eq_false, Bool.false_eq_true, cond_true, cond_false, av_jS, am_l1]
  | true =>
    rw [if_neg (by decide)]
    cases hp : am_pl p with
    | false =>
      rw [if_pos rfl]
      refine ⟨av_i M (am_c D 13) 0 1, ⟨0, ?_, av_jS⟩, (av_yq hy).2.1⟩
      simp only [ae_X13_price_0, ae_X13_price_5, ae_X13_price_8, ae_X13_price_12, ae_X13_price_15, ae_X13_price_19, ae_X13_price_24, ae_X13_price_27, ae_X13_price_31, ae_X13_price_42, ae_X13_price_46, ae_X13_price_52, am_bnx_v, am_bnx_e, am_tl_s, am_tl_n, am_rv_s, am_add_rx, mc_isTeam, mc_isPlace, ht, hp, am_bi_t, am_bi_f, not_true_eq_false, not_false_eq_true, if_true, if_false, am_1n0, or_true, true_or, eq_self, Bool.true_eq_false, Bool.false_eq_true, cond_true, cond_false, av_jS, am_l1]
    | true =>
      rw [if_neg (by decide)]
      obtain ⟨k, hk, rfl⟩ := am_pl_n hp
      obtain ⟨j, hj, rfl⟩ := am_tm_n ht
      have e1 := mc_height hy.1.1 hk
      rw [hy.1.2.1 (18 + 2 * k) (by omega) (by omega)] at e1
      rw [av_hf_n hk]
      by_cases h : σ (18 + 2 * k) = 0
      · rw [if_pos h]
        rw [h] at e1
        refine ⟨av_i M (am_c D 13) 0 2, ⟨0, ?_, av_jS⟩, (av_yq hy).2.1⟩
        simp only [ae_X13_price_0, ae_X13_price_5, ae_X13_price_8, ae_X13_price_12, ae_X13_price_15, ae_X13_price_19, ae_X13_price_24, ae_X13_price_27, ae_X13_price_31, ae_X13_price_42, ae_X13_price_46, ae_X13_price_52, am_bnx_v, am_bnx_e, am_tl_s, am_tl_n, am_rv_s, am_add_rx, mc_isTeam, mc_isPlace, ht, hp, am_bi_t, not_true_eq_false, not_false_eq_true, if_true, if_false, am_1n0, or_true, true_or, eq_self, Bool.true_eq_false, Bool.false_eq_true, cond_true, cond_false, e1, av_jS, am_l2]
      · rw [if_neg h]
        obtain ⟨⟨hm, hr⟩, hs, -⟩ := av_yq (x := 0) hy
        have e2 := mc_cost (t := j) hm hk (hr.1 (18 + 2 * k) (by omega) (by omega)) (hr.1 (19 + 2 * k) (by omega) (by omega))
        refine ⟨av_i M (am_c D 13) 0 0, ⟨?_, av_jS⟩, hs⟩
        simp only [ae_X13_price_0, ae_X13_price_5, ae_X13_price_8, ae_X13_price_12, ae_X13_price_15, ae_X13_price_19, ae_X13_price_24, ae_X13_price_27, ae_X13_price_31, ae_X13_price_42, ae_X13_price_46, ae_X13_price_52, am_bnx_v, am_bnx_e, am_tl_s, am_tl_n, am_rv_s, am_add_rx, mc_isTeam, mc_isPlace, ht, hp, am_bi_t, not_true_eq_false, not_false_eq_true, if_true, if_false, am_1n0, or_true, true_or, eq_self, Bool.true_eq_false, Bool.false_eq_true, cond_true, cond_false, e1, h, av_jS, am_l0, e2]
