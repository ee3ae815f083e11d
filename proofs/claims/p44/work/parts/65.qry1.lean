/-! questions: what is checked, walls, teams, players, sounds -/
theorem am_l0 : ((0 : Int32) ≤ 0) = True := by decide
theorem am_l1 : ((1 : Int32) ≤ 0) = False := by decide
theorem am_l2 : ((2 : Int32) ≤ 0) = False := by decide
theorem am_l3 : ((3 : Int32) ≤ 0) = False := by decide
theorem am_2n0 : ((2 : Int32) = 0) = False := by decide
theorem am_sw_n {x v : Int32} {t : am_T} {r : List (Int32 × am_T)} {d : am_T} (h : ¬ x = v) : am_sw x ((v, t) :: r) d = am_sw x r d := if_neg h
theorem am_sw_y {x v : Int32} {t : am_T} {r : List (Int32 × am_T)} {d : am_T} (h : x = v) : am_sw x ((v, t) :: r) d = t := if_pos h
theorem am_sw_0 {x : Int32} {d : am_T} : am_sw x [] d = d := rfl
theorem ac_ckPlace_t {p : Int32} {M : am_M} (h : am_pl p = true) : am_val iX12_checkPlace 0 [some (.int p)] [] M = some (.inl none, M, 0, 0) := by
  simp only [ae_X12_checkPlace_0, ae_X12_checkPlace_4, ae_X12_checkPlace_7, ae_X12_checkPlace_18, am_bnx_v, am_bnx_e, am_tl_s, am_tl_n, am_rv_s, am_add_rx, ac_isPlace, h, am_bi_t, not_true_eq_false, not_false_eq_true, if_true, if_false, am_1n0, or_true, true_or, eq_self, Bool.true_eq_false, Bool.false_eq_true, cond_true, cond_false]
theorem ac_ckPlace_f {p : Int32} {M : am_M} (h : am_pl p = false) : am_val iX12_checkPlace 0 [some (.int p)] [] M = some (.inr 1, M, 1, 6) := by
  simp only [ae_X12_checkPlace_0, ae_X12_checkPlace_4, ae_X12_checkPlace_7, ae_X12_checkPlace_18, am_bnx_v, am_bnx_e, am_tl_s, am_tl_n, am_rv_s, am_add_rx, ac_isPlace, h, am_bi_f, not_true_eq_false, not_false_eq_true, if_true, if_false, am_1n0, or_true, true_or, eq_self, Bool.true_eq_false, Bool.false_eq_true, cond_true, cond_false]
theorem ac_ckTeam_t {p : Int32} {M : am_M} (h : am_tm p = true) : am_val iX12_checkTeam 0 [some (.int p)] [] M = some (.inl none, M, 0, 0) := by
  simp only [ae_X12_checkTeam_0, ae_X12_checkTeam_4, ae_X12_checkTeam_7, ae_X12_checkTeam_18, am_bnx_v, am_bnx_e, am_tl_s, am_tl_n, am_rv_s, am_add_rx, ac_isTeam, h, am_bi_t, not_true_eq_false, not_false_eq_true, if_true, if_false, am_1n0, or_true, true_or, eq_self, Bool.true_eq_false, Bool.false_eq_true, cond_true, cond_false]
theorem ac_ckTeam_f {p : Int32} {M : am_M} (h : am_tm p = false) : am_val iX12_checkTeam 0 [some (.int p)] [] M = some (.inr 1, M, 1, 6) := by
  simp only [ae_X12_checkTeam_0, ae_X12_checkTeam_4, ae_X12_checkTeam_7, ae_X12_checkTeam_18, am_bnx_v, am_bnx_e, am_tl_s, am_tl_n, am_rv_s, am_add_rx, ac_isTeam, h, am_bi_f, not_true_eq_false, not_false_eq_true, if_true, if_false, am_1n0, or_true, true_or, eq_self, Bool.true_eq_false, Bool.false_eq_true, cond_true, cond_false]
theorem av_C_np {B : Nat} {rm : Nat → Nat} {σ : Nat → Int32} {L : List (Nat → Int32)} {M : am_M} (hC : av_C M B rm σ L) : M.1 (am_c B 1) 3 = nI (av_np σ) ∧ av_np σ < 2147483648 := by
  obtain ⟨⟨⟨w0, w1, w2, w3, w4, w5, w6, w7, w8, w9⟩, hrm, hpr⟩, ⟨hnp, hs0, hln, hct⟩, hW, hT, hN, hP, hS, hB⟩ := hC
  exact ⟨hN.1.trans hs0, by omega⟩
theorem av_C_ns {B : Nat} {rm : Nat → Nat} {σ : Nat → Int32} {L : List (Nat → Int32)} {M : am_M} (hC : av_C M B rm σ L) : M.1 (am_c B 1) 5 = nI L.length ∧ L.length < 2147483648 := by
  obtain ⟨⟨⟨w0, w1, w2, w3, w4, w5, w6, w7, w8, w9⟩, hrm, hpr⟩, ⟨hnp, hs0, hln, hct⟩, hW, hT, hN, hP, hS, hB⟩ := hC
  exact ⟨hct, by omega⟩
theorem ac_ckPlayer_t {B : Nat} {rm : Nat → Nat} {σ : Nat → Int32} {L : List (Nat → Int32)} {p : Int32} {M : am_M} (p0 : M.2.1 (am_c 0 12) 0 = am_c B 1 + 1) (hC : av_C M B rm σ L) (h : am_ltb p (av_np σ) = true) : am_val iX12_checkPlayer 0 [some (.ref (am_c 0 12)), some (.int p)] [] M = some (.inl none, M, 0, 0) := by
  simp only [ae_X12_checkPlayer_0, ae_X12_checkPlayer_4, ae_X12_checkPlayer_8, ae_X12_checkPlayer_11, ae_X12_checkPlayer_22, am_bnx_v, am_bnx_e, am_tl_s, am_tl_n, am_rv_s, am_add_rx, p0, ac_hasPlayer (av_C_np hC).1 (av_C_np hC).2, h, am_bi_t, not_true_eq_false, not_false_eq_true, if_true, if_false, am_1n0, or_true, true_or, eq_self, Bool.true_eq_false, Bool.false_eq_true, cond_true, cond_false]
theorem ac_ckPlayer_f {B : Nat} {rm : Nat → Nat} {σ : Nat → Int32} {L : List (Nat → Int32)} {p : Int32} {M : am_M} (p0 : M.2.1 (am_c 0 12) 0 = am_c B 1 + 1) (hC : av_C M B rm σ L) (h : am_ltb p (av_np σ) = false) : am_val iX12_checkPlayer 0 [some (.ref (am_c 0 12)), some (.int p)] [] M = some (.inr 1, M, 1, 6) := by
  simp only [ae_X12_checkPlayer_0, ae_X12_checkPlayer_4, ae_X12_checkPlayer_8, ae_X12_checkPlayer_11, ae_X12_checkPlayer_22, am_bnx_v, am_bnx_e, am_tl_s, am_tl_n, am_rv_s, am_add_rx, p0, ac_hasPlayer (av_C_np hC).1 (av_C_np hC).2, h, am_bi_f, not_true_eq_false, not_false_eq_true, if_true, if_false, am_1n0, or_true, true_or, eq_self, Bool.true_eq_false, Bool.false_eq_true, cond_true, cond_false]
theorem ac_ckSound_t {B : Nat} {rm : Nat → Nat} {σ : Nat → Int32} {L : List (Nat → Int32)} {p : Int32} {M : am_M} (p0 : M.2.1 (am_c 0 12) 0 = am_c B 1 + 1) (hC : av_C M B rm σ L) (h : am_ltb p L.length = true) : am_val iX12_checkSound 0 [some (.ref (am_c 0 12)), some (.int p)] [] M = some (.inl none, M, 0, 0) := by
  simp only [ae_X12_checkSound_0, ae_X12_checkSound_4, ae_X12_checkSound_8, ae_X12_checkSound_11, ae_X12_checkSound_22, am_bnx_v, am_bnx_e, am_tl_s, am_tl_n, am_rv_s, am_add_rx, p0, ac_hasSound (av_C_ns hC).1 (av_C_ns hC).2, h, am_bi_t, not_true_eq_false, not_false_eq_true, if_true, if_false, am_1n0, or_true, true_or, eq_self, Bool.true_eq_false, Bool.false_eq_true, cond_true, cond_false]
theorem ac_ckSound_f {B : Nat} {rm : Nat → Nat} {σ : Nat → Int32} {L : List (Nat → Int32)} {p : Int32} {M : am_M} (p0 : M.2.1 (am_c 0 12) 0 = am_c B 1 + 1) (hC : av_C M B rm σ L) (h : am_ltb p L.length = false) : am_val iX12_checkSound 0 [some (.ref (am_c 0 12)), some (.int p)] [] M = some (.inr 1, M, 1, 6) := by
  simp only [ae_X12_checkSound_0, ae_X12_checkSound_4, ae_X12_checkSound_8, ae_X12_checkSound_11, ae_X12_checkSound_22, am_bnx_v, am_bnx_e, am_tl_s, am_tl_n, am_rv_s, am_add_rx, p0, ac_hasSound (av_C_ns hC).1 (av_C_ns hC).2, h, am_bi_f, not_true_eq_false, not_false_eq_true, if_true, if_false, am_1n0, or_true, true_or, eq_self, Bool.true_eq_false, Bool.false_eq_true, cond_true, cond_false]
theorem ac_ckBeats_t {p : Int32} {M : am_M} (h : am_wt p 0 20 = true) : am_val iX12_checkBeatsAhead 0 [some (.int p)] [] M = some (.inl none, M, 0, 0) := by
  simp only [ae_X12_checkBeatsAhead_0, ae_X12_checkBeatsAhead_7, ae_X12_checkBeatsAhead_10, ae_X12_checkBeatsAhead_21, am_bnx_v, am_bnx_e, am_tl_s, am_tl_n, am_rv_s, am_add_rx, ac_isWithin, h, am_bi_t, not_true_eq_false, not_false_eq_true, if_true, if_false, am_1n0, or_true, true_or, eq_self, Bool.true_eq_false, Bool.false_eq_true, cond_true, cond_false]
theorem ac_ckBeats_f {p : Int32} {M : am_M} (h : am_wt p 0 20 = false) : am_val iX12_checkBeatsAhead 0 [some (.int p)] [] M = some (.inr 2, M, 1, 6) := by
  simp only [ae_X12_checkBeatsAhead_0, ae_X12_checkBeatsAhead_7, ae_X12_checkBeatsAhead_10, ae_X12_checkBeatsAhead_21, am_bnx_v, am_bnx_e, am_tl_s, am_tl_n, am_rv_s, am_add_rx, ac_isWithin, h, am_bi_f, not_true_eq_false, not_false_eq_true, if_true, if_false, am_1n0, or_true, true_or, eq_self, Bool.true_eq_false, Bool.false_eq_true, cond_true, cond_false]
/-! wallOf -/
def aq_wallOf (σ : Nat → Int32) (p t : Int32) : av_A := if am_pl p = false then .inr (1, 1) else .inl (if t = 0 then av_hf σ p else av_of σ p)
theorem cq_wallOf {B : Nat} {rm : Nat → Nat} {σ : Nat → Int32} {L : List (Nat → Int32)} {p t : Int32} {M : am_M} (p0 : M.2.1 (am_c 0 12) 0 = am_c B 1 + 1) (hC : av_C M B rm σ L) : av_qc (am_val iX12_wallOf 0 [some (.ref (am_c 0 12)), some (.int p), some (.int t)] [] M) (aq_wallOf σ p t) M := by
  have w0 := hC.1.1.1
  unfold aq_wallOf
  cases hp : am_pl p with
  | false =>
    rw [if_pos rfl]
    show am_val iX12_wallOf 0 [some (.ref (am_c 0 12)), some (.int p), some (.int t)] [] M = some (.inr 1, M, 1, 6)
    simp only [ae_X12_wallOf_0, ae_X12_wallOf_4, ae_X12_wallOf_8, ae_X12_wallOf_12, ae_X12_wallOf_15, ae_X12_wallOf_19, ae_X12_wallOf_22, ae_X12_wallOf_26, ae_X12_wallOf_29, ae_X12_wallOf_33, am_bnx_v, am_bnx_e, am_tl_s, am_tl_n, am_rv_s, am_add_rx, ac_ckPlace_f hp]
  | true =>
    rw [if_neg (by decide)]
    show am_val iX12_wallOf 0 [some (.ref (am_c 0 12)), some (.int p), some (.int t)] [] M = some (.inl (some (.int (if t = 0 then av_hf σ p else av_of σ p))), M, 0, 0)
    by_cases ht : t = 0
    · rw [if_pos ht]
      simp only [ae_X12_wallOf_0, ae_X12_wallOf_4, ae_X12_wallOf_8, ae_X12_wallOf_12, ae_X12_wallOf_15, ae_X12_wallOf_19, ae_X12_wallOf_22, ae_X12_wallOf_26, ae_X12_wallOf_29, ae_X12_wallOf_33, am_bnx_v, am_bnx_e, am_tl_s, am_tl_n, am_rv_s, am_add_rx, ac_ckPlace_t hp, ht, not_true_eq_false, not_false_eq_true, if_true, if_false, am_1n0, or_true, true_or, eq_self, Bool.true_eq_false, Bool.false_eq_true, cond_true, cond_false, p0, w0, ac_bheight hC]
    · rw [if_neg ht]
      simp only [ae_X12_wallOf_0, ae_X12_wallOf_4, ae_X12_wallOf_8, ae_X12_wallOf_12, ae_X12_wallOf_15, ae_X12_wallOf_19, ae_X12_wallOf_22, ae_X12_wallOf_26, ae_X12_wallOf_29, ae_X12_wallOf_33, am_bnx_v, am_bnx_e, am_tl_s, am_tl_n, am_rv_s, am_add_rx, ac_ckPlace_t hp, ht, not_true_eq_false, not_false_eq_true, if_true, if_false, am_1n0, or_true, true_or, eq_self, Bool.true_eq_false, Bool.false_eq_true, cond_true, cond_false, p0, w0, ac_bowner hC]
/-! teamOf -/
def av_cw (σ : Nat → Int32) (t : Int32) : Int32 := am_cnt (fun p => decide (σ (19 + 2 * p) = t)) 16
def av_cpl (σ : Nat → Int32) (t : Int32) : Int32 := am_cnt (fun p => decide (σ (50 + 5 * p) = t)) (av_np σ)
def av_cs (L : List (Nat → Int32)) (t : Int32) : Int32 := am_cnt (fun k => decide (av_s L k 2 = t)) L.length
def av_ch (σ : Nat → Int32) (t : Int32) : Int32 := am_it (fun k x => if σ (19 + 2 * k) = t then x + σ (18 + 2 * k) else x) 16 0
def av_tc (σ : Nat → Int32) (t : Int32) : Int32 := av_tt (fun k => σ (10 + 3 * k)) t
def av_tf5 (σ : Nat → Int32) (t : Int32) : Int32 := av_tt (fun k => σ (11 + 3 * k)) t
theorem av_own_pos {bd k : Nat} {σ : Nat → Int32} {L : List (Nat → Int32)} {t : Nat} (hok : av_ok bd σ L) (hk : k < 16) (ht : t < 3) (hx : σ (19 + 2 * k) = nI t) : ¬ σ (18 + 2 * k) = 0 := by
  obtain ⟨h, hh, hσ, ho⟩ := hok.1 k hk
  rw [hσ]
  rcases ho with ho | ⟨h0, -⟩
  · rw [hx] at ho
    rcases (show t = 0 ∨ t = 1 ∨ t = 2 by omega) with rfl | rfl | rfl <;> exact absurd ho (by decide)
  · exact nI_ne0 h0 (by omega)
def aq_teamOf (σ : Nat → Int32) (L : List (Nat → Int32)) (t w : Int32) : av_A := if am_tm t = false then .inr (1, 1) else if w = 0 then .inl (av_pt σ t) else if w = 1 then .inl (av_cw σ t) else if w = 2 then .inl (av_cpl σ t) else if w = 3 then .inl (av_cs L t) else if w = 4 then .inl (av_tc σ t) else if w = 5 then .inl (av_tf5 σ t) else .inr (2, 2)
theorem cq_teamOf {B : Nat} {rm : Nat → Nat} {σ : Nat → Int32} {L : List (Nat → Int32)} {t w : Int32} {M : am_M} (p0 : M.2.1 (am_c 0 12) 0 = am_c B 1 + 1) (hC : av_C M B rm σ L) : av_qc (am_val iX12_teamOf 0 [some (.ref (am_c 0 12)), some (.int t), some (.int w)] [] M) (aq_teamOf σ L t w) M := by
  have w0 := hC.1.1.1
  have w1 := hC.1.1.2.1
  unfold aq_teamOf
  cases hp : am_tm t with
  | false =>
    rw [if_pos rfl]
    show am_val iX12_teamOf 0 [some (.ref (am_c 0 12)), some (.int t), some (.int w)] [] M = some (.inr 1, M, 1, 6)
    simp only [ae_X12_teamOf_0, ae_X12_teamOf_4, ae_X12_teamOf_44, ae_X12_teamOf_48, ae_X12_teamOf_51, ae_X12_teamOf_55, ae_X12_teamOf_56, ae_X12_teamOf_60, ae_X12_teamOf_63, ae_X12_teamOf_67, ae_X12_teamOf_68, ae_X12_teamOf_72, ae_X12_teamOf_76, ae_X12_teamOf_77, ae_X12_teamOf_81, ae_X12_teamOf_85, ae_X12_teamOf_86, ae_X12_teamOf_90, ae_X12_teamOf_93, ae_X12_teamOf_97, ae_X12_teamOf_98, ae_X12_teamOf_102, ae_X12_teamOf_105, ae_X12_teamOf_109, ae_X12_teamOf_110, am_bnx_v, am_bnx_e, am_tl_s, am_tl_n, am_rv_s, am_add_rx, ac_ckTeam_f hp]
  | true =>
    rw [if_neg (by decide)]
    have c0 := ac_ckTeam_t (M := M) hp
    by_cases h0 : w = 0
    · rw [if_pos h0]
      show (_ : am_T) = some (.inl (some (.int (av_pt σ t))), M, 0, 0)
      simp only [ae_X12_teamOf_0, ae_X12_teamOf_4, ae_X12_teamOf_44, ae_X12_teamOf_48, ae_X12_teamOf_51, ae_X12_teamOf_55, ae_X12_teamOf_56, ae_X12_teamOf_60, ae_X12_teamOf_63, ae_X12_teamOf_67, ae_X12_teamOf_68, ae_X12_teamOf_72, ae_X12_teamOf_76, ae_X12_teamOf_77, ae_X12_teamOf_81, ae_X12_teamOf_85, ae_X12_teamOf_86, ae_X12_teamOf_90, ae_X12_teamOf_93, ae_X12_teamOf_97, ae_X12_teamOf_98, ae_X12_teamOf_102, ae_X12_teamOf_105, ae_X12_teamOf_109, ae_X12_teamOf_110, am_bnx_v, am_bnx_e, am_tl_s, am_tl_n, am_rv_s, am_add_rx, c0, am_sw_y h0, p0, w1, ac_bpoints hC]
    · rw [if_neg h0]
      by_cases h1 : w = 1
      · rw [if_pos h1]
        show (_ : am_T) = some (.inl (some (.int (av_cw σ t))), M, 0, 0)
        simp only [ae_X12_teamOf_0, ae_X12_teamOf_4, ae_X12_teamOf_44, ae_X12_teamOf_48, ae_X12_teamOf_51, ae_X12_teamOf_55, ae_X12_teamOf_56, ae_X12_teamOf_60, ae_X12_teamOf_63, ae_X12_teamOf_67, ae_X12_teamOf_68, ae_X12_teamOf_72, ae_X12_teamOf_76, ae_X12_teamOf_77, ae_X12_teamOf_81, ae_X12_teamOf_85, ae_X12_teamOf_86, ae_X12_teamOf_90, ae_X12_teamOf_93, ae_X12_teamOf_97, ae_X12_teamOf_98, ae_X12_teamOf_102, ae_X12_teamOf_105, ae_X12_teamOf_109, ae_X12_teamOf_110, am_bnx_v, am_bnx_e, am_tl_s, am_tl_n, am_rv_s, am_add_rx, c0, am_sw_n h0, am_sw_y h1, p0, w0, ac_bcountOf hC]
        rfl
      · rw [if_neg h1]
        by_cases h2 : w = 2
        · rw [if_pos h2]
          show (_ : am_T) = some (.inl (some (.int (av_cpl σ t))), M, 0, 0)
          simp only [ae_X12_teamOf_0, ae_X12_teamOf_4, ae_X12_teamOf_44, ae_X12_teamOf_48, ae_X12_teamOf_51, ae_X12_teamOf_55, ae_X12_teamOf_56, ae_X12_teamOf_60, ae_X12_teamOf_63, ae_X12_teamOf_67, ae_X12_teamOf_68, ae_X12_teamOf_72, ae_X12_teamOf_76, ae_X12_teamOf_77, ae_X12_teamOf_81, ae_X12_teamOf_85, ae_X12_teamOf_86, ae_X12_teamOf_90, ae_X12_teamOf_93, ae_X12_teamOf_97, ae_X12_teamOf_98, ae_X12_teamOf_102, ae_X12_teamOf_105, ae_X12_teamOf_109, ae_X12_teamOf_110, am_bnx_v, am_bnx_e, am_tl_s, am_tl_n, am_rv_s, am_add_rx, c0, am_sw_n h0, am_sw_n h1, am_sw_y h2, p0, ac_countPlayersOf hC]
          rfl
        · rw [if_neg h2]
          by_cases h3 : w = 3
          · rw [if_pos h3]
            show (_ : am_T) = some (.inl (some (.int (av_cs L t))), M, 0, 0)
            simp only [ae_X12_teamOf_0, ae_X12_teamOf_4, ae_X12_teamOf_44, ae_X12_teamOf_48, ae_X12_teamOf_51, ae_X12_teamOf_55, ae_X12_teamOf_56, ae_X12_teamOf_60, ae_X12_teamOf_63, ae_X12_teamOf_67, ae_X12_teamOf_68, ae_X12_teamOf_72, ae_X12_teamOf_76, ae_X12_teamOf_77, ae_X12_teamOf_81, ae_X12_teamOf_85, ae_X12_teamOf_86, ae_X12_teamOf_90, ae_X12_teamOf_93, ae_X12_teamOf_97, ae_X12_teamOf_98, ae_X12_teamOf_102, ae_X12_teamOf_105, ae_X12_teamOf_109, ae_X12_teamOf_110, am_bnx_v, am_bnx_e, am_tl_s, am_tl_n, am_rv_s, am_add_rx, c0, am_sw_n h0, am_sw_n h1, am_sw_n h2, am_sw_y h3, p0, ac_countSoundsOf hC]
            rfl
          · rw [if_neg h3]
            by_cases h4 : w = 4
            · rw [if_pos h4]
              show (_ : am_T) = some (.inl (some (.int (av_tc σ t))), M, 0, 0)
              simp only [ae_X12_teamOf_0, ae_X12_teamOf_4, ae_X12_teamOf_44, ae_X12_teamOf_48, ae_X12_teamOf_51, ae_X12_teamOf_55, ae_X12_teamOf_56, ae_X12_teamOf_60, ae_X12_teamOf_63, ae_X12_teamOf_67, ae_X12_teamOf_68, ae_X12_teamOf_72, ae_X12_teamOf_76, ae_X12_teamOf_77, ae_X12_teamOf_81, ae_X12_teamOf_85, ae_X12_teamOf_86, ae_X12_teamOf_90, ae_X12_teamOf_93, ae_X12_teamOf_97, ae_X12_teamOf_98, ae_X12_teamOf_102, ae_X12_teamOf_105, ae_X12_teamOf_109, ae_X12_teamOf_110, am_bnx_v, am_bnx_e, am_tl_s, am_tl_n, am_rv_s, am_add_rx, c0, am_sw_n h0, am_sw_n h1, am_sw_n h2, am_sw_n h3, am_sw_y h4, p0, w1, ac_bcatches hC]
              rfl
            · rw [if_neg h4]
              by_cases h5 : w = 5
              · rw [if_pos h5]
                show (_ : am_T) = some (.inl (some (.int (av_tf5 σ t))), M, 0, 0)
                simp only [ae_X12_teamOf_0, ae_X12_teamOf_4, ae_X12_teamOf_44, ae_X12_teamOf_48, ae_X12_teamOf_51, ae_X12_teamOf_55, ae_X12_teamOf_56, ae_X12_teamOf_60, ae_X12_teamOf_63, ae_X12_teamOf_67, ae_X12_teamOf_68, ae_X12_teamOf_72, ae_X12_teamOf_76, ae_X12_teamOf_77, ae_X12_teamOf_81, ae_X12_teamOf_85, ae_X12_teamOf_86, ae_X12_teamOf_90, ae_X12_teamOf_93, ae_X12_teamOf_97, ae_X12_teamOf_98, ae_X12_teamOf_102, ae_X12_teamOf_105, ae_X12_teamOf_109, ae_X12_teamOf_110, am_bnx_v, am_bnx_e, am_tl_s, am_tl_n, am_rv_s, am_add_rx, c0, am_sw_n h0, am_sw_n h1, am_sw_n h2, am_sw_n h3, am_sw_n h4, am_sw_y h5, p0, w1, ac_binter hC]
                rfl
              · rw [if_neg h5]
                show (_ : am_T) = some (.inr 2, M, 1, 6)
                simp only [ae_X12_teamOf_0, ae_X12_teamOf_4, ae_X12_teamOf_44, ae_X12_teamOf_48, ae_X12_teamOf_51, ae_X12_teamOf_55, ae_X12_teamOf_56, ae_X12_teamOf_60, ae_X12_teamOf_63, ae_X12_teamOf_67, ae_X12_teamOf_68, ae_X12_teamOf_72, ae_X12_teamOf_76, ae_X12_teamOf_77, ae_X12_teamOf_81, ae_X12_teamOf_85, ae_X12_teamOf_86, ae_X12_teamOf_90, ae_X12_teamOf_93, ae_X12_teamOf_97, ae_X12_teamOf_98, ae_X12_teamOf_102, ae_X12_teamOf_105, ae_X12_teamOf_109, ae_X12_teamOf_110, am_bnx_v, am_bnx_e, am_tl_s, am_tl_n, am_rv_s, am_add_rx, c0, am_sw_n h0, am_sw_n h1, am_sw_n h2, am_sw_n h3, am_sw_n h4, am_sw_n h5, am_sw_0]
