/-! questions: what is checked, walls, teams, players, sounds -/
theorem am_l0 : ((0 : Int32) ≤ 0) = True := by decide
theorem am_l1 : ((1 : Int32) ≤ 0) = False := by decide
theorem am_l2 : ((2 : Int32) ≤ 0) = False := by decide
theorem am_l3 : ((3 : Int32) ≤ 0) = False := by decide
theorem am_2n0 : ((2 : Int32) = 0) = False := by decide
theorem am_sw_n {x v : Int32} {t : am_T} {r : List (Int32 × am_T)} {d : am_T} (h : ¬ x = v) : am_sw x ((v, t) :: r) d = am_sw x r d := if_neg h
theorem am_sw_y {x v : Int32} {t : am_T} {r : List (Int32 × am_T)} {d : am_T} (h : x = v) : am_sw x ((v, t) :: r) d = t := if_pos h
theorem am_sw_0 {x : Int32} {d : am_T} : am_sw x [] d = d := rfl
theorem ac_ckPlace_t {p : Int32} {M : am_M} (h : am_pl p = true) : am_val iX12_checkPlace 0 [some (.int p)] [] M = some (.inl none, M, 0, 0) := by
  simp only [ae_X12_checkPlace_0, ae_X12_checkPlace_4, ae_X12_checkPlace_7, ae_X12_checkPlace_18, am_bnx_v, am_bnx_e, am_tl_s, am_tl_n, am_rv_s, am_add_rx, ac_isPlace, h, am_bi_t, not_true_eq_false, not_false_eq_true, if_true, if_false, am_1n0, or_true, true_or, eq_self, Bool.true_eq_false, Bool.false_eq_true, cond_true, cond_false]
theorem ac_ckPlace_f {p : Int32} {M : am_M} (h : am_pl p = false) : am_val iX12_checkPlace 0 [some (.int p)] [] M = some (.inr 1, M, 1, 6) := by
  simp only [ae_X12_checkPlace_0, ae_X12_checkPlace_4, ae_X12_checkPlace_7, ae_X12_checkPlace_18, am_bnx_v, am_bnx_e, am_tl_s, am_tl_n, am_rv_s, am_add_rx, ac_isPlace, h, am_bi_f, not_true_eq_false, not_false_eq_true, if_true, if_false, am_1n0, or_true, true_or, eq_self, Bool.true_eq_false, Bool.false_eq_true, cond_true, cond_false]
theorem ac_ckTeam_t {p : Int32} {M : am_M} (h : am_tm p = true) : am_val iX12_checkTeam 0 [some (.int p)] [] M = some (.inl none, M, 0, 0) := by
  simp only [ae_X12_checkTeam_0, ae_X12_checkTeam_4, ae_X12_checkTeam_7, ae_X12_checkTeam_18, am_bnx_v, am_bnx_e, am_tl_s, am_tl_n, am_rv_s, am_add_rx, ac_isTeam, h, am_bi_t, not_true_eq_false, not_false_eq_true, if_true, if_false, am_1n0, or_true, true_or, eq_self, Bool.true_eq_false, Bool.false_eq_true, cond_true, cond_false]
theorem ac_ckTeam_f {p : Int32} {M : am_M} (h : am_tm p = false) : am_val iX12_checkTeam 0 [some (.int p)] [] M = some (.inr 1, M, 1, 6) := by
  simp only [ae_X12_checkTeam_0, ae_X12_checkTeam_4, ae_X12_checkTeam_7, ae_X12_checkTeam_18, am_bnx_v, am_bnx_e, am_tl_s, am_tl_n, am_rv_s, am_add_rx, ac_isTeam, h, am_bi_f, not_true_eq_false, not_false_eq_true, if_true, if_false, am_1n0, or_true, true_or, eq_self, Bool.true_eq_false, Bool.false_eq_true, cond_true, cond_false]
theorem av_C_np {B : Nat} {rm : Nat → Nat} {σ : Nat → Int32} {L : List (Nat → Int32)} {M : am_M} (hC : av_C M B rm σ L) : M.1 (am_c B 1) 3 = nI (av_np σ) ∧ av_np σ < 2147483648 := by
  obtain ⟨⟨⟨w0, w1, w2, w3, w4, w5, w6, w7, w8, w9⟩, hrm, hpr⟩, ⟨hnp, hs0, hln, hct⟩, hW, hT, hN, hP, hS, hB⟩ := hC
  exact ⟨hN.1.trans hs0, by omega⟩
theorem av_C_ns {B : Nat} {rm : Nat → Nat} {σ : Nat → Int32} {L : List (Nat → Int32)} {M : am_M} (hC : av_C M B rm σ L) : M.1 (am_c B 1) 5 = nI L.length ∧ L.length < 2147483648 := by
  obtain ⟨⟨⟨w0, w1, w2, w3, w4, w5, w6, w7, w8, w9⟩, hrm, hpr⟩, ⟨hnp, hs0, hln, hct⟩, hW, hT, hN, hP, hS, hB⟩ := hC
  exact ⟨hct, by omega⟩
theorem ac_ckPlayer_t {B : Nat} {rm : Nat → Nat} {σ : Nat → Int32} {L : List (Nat → Int32)} {p : Int32} {M : am_M} (p0 : M.2.1 (am_c 0 12) 0 = am_c B 1 + 1) (hC : av_C M B rm σ L) (h : am_lt p (av_np σ) = true) : am_val iX12_checkPlayer 0 [some (.ref (am_c 0 12)), some (.int p)] [] M = some (.inl none, M, 0, 0) := by
  simp only [ae_X12_checkPlayer_0, ae_X12_checkPlayer_4, ae_X12_checkPlayer_8, ae_X12_checkPlayer_11, ae_X12_checkPlayer_22, am_bnx_v, am_bnx_e, am_tl_s, am_tl_n, am_rv_s, am_add_rx, p0, ac_hasPlayer (av_C_np hC).1 (av_C_np hC).2, h, am_bi_t, not_true_eq_false, not_false_eq_true, if_true, if_false, am_1n0, or_true, true_or, eq_self, Bool.true_eq_false, Bool.false_eq_true, cond_true, cond_false]
theorem ac_ckPlayer_f {B : Nat} {rm : Nat → Nat} {σ : Nat → Int32} {L : List (Nat → Int32)} {p : Int32} {M : am_M} (p0 : M.2.1 (am_c 0 12) 0 = am_c B 1 + 1) (hC : av_C M B rm σ L) (h : am_lt p (av_np σ) = false) : am_val iX12_checkPlayer 0 [some (.ref (am_c 0 12)), some (.int p)] [] M = some (.inr 1, M, 1, 6) := by
  simp only [ae_X12_checkPlayer_0, ae_X12_checkPlayer_4, ae_X12_checkPlayer_8, ae_X12_checkPlayer_11, ae_X12_checkPlayer_22, am_bnx_v, am_bnx_e, am_tl_s, am_tl_n, am_rv_s, am_add_rx, p0, ac_hasPlayer (av_C_np hC).1 (av_C_np hC).2, h, am_bi_f, not_true_eq_false, not_false_eq_true, if_true, if_false, am_1n0, or_true, true_or, eq_self, Bool.true_eq_false, Bool.false_eq_true, cond_true, cond_false]
theorem ac_ckSound_t {B : Nat} {rm : Nat → Nat} {σ : Nat → Int32} {L : List (Nat → Int32)} {p : Int32} {M : am_M} (p0 : M.2.1 (am_c 0 12) 0 = am_c B 1 + 1) (hC : av_C M B rm σ L) (h : am_lt p L.length = true) : am_val iX12_checkSound 0 [some (.ref (am_c 0 12)), some (.int p)] [] M = some (.inl none, M, 0, 0) := by
  simp only [ae_X12_checkSound_0, ae_X12_checkSound_4, ae_X12_checkSound_8, ae_X12_checkSound_11, ae_X12_checkSound_22, am_bnx_v, am_bnx_e, am_tl_s, am_tl_n, am_rv_s, am_add_rx, p0, ac_hasSound (av_C_ns hC).1 (av_C_ns hC).2, h, am_bi_t, not_true_eq_false, not_false_eq_true, if_true, if_false, am_1n0, or_true, true_or, eq_self, Bool.true_eq_false, Bool.false_eq_true, cond_true, cond_false]
theorem ac_ckSound_f {B : Nat} {rm : Nat → Nat} {σ : Nat → Int32} {L : List (Nat → Int32)} {p : Int32} {M : am_M} (p0 : M.2.1 (am_c 0 12) 0 = am_c B 1 + 1) (hC : av_C M B rm σ L) (h : am_lt p L.length = false) : am_val iX12_checkSound 0 [some (.ref (am_c 0 12)), some (.int p)] [] M = some (.inr 1, M, 1, 6) := by
  simp only [ae_X12_checkSound_0, ae_X12_checkSound_4, ae_X12_checkSound_8, ae_X12_checkSound_11, ae_X12_checkSound_22, am_bnx_v, am_bnx_e, am_tl_s, am_tl_n, am_rv_s, am_add_rx, p0, ac_hasSound (av_C_ns hC).1 (av_C_ns hC).2, h, am_bi_f, not_true_eq_false, not_false_eq_true, if_true, if_false, am_1n0, or_true, true_or, eq_self, Bool.true_eq_false, Bool.false_eq_true, cond_true, cond_false]
theorem ac_ckBeats_t {p : Int32} {M : am_M} (h : am_wt p 0 20 = true) : am_val iX12_checkBeatsAhead 0 [some (.int p)] [] M = some (.inl none, M, 0, 0) := by
  simp only [ae_X12_checkBeatsAhead_0, ae_X12_checkBeatsAhead_7, ae_X12_checkBeatsAhead_10, ae_X12_checkBeatsAhead_21, am_bnx_v, am_bnx_e, am_tl_s, am_tl_n, am_rv_s, am_add_rx, ac_isWithin, h, am_bi_t, not_true_eq_false, not_false_eq_true, if_true, if_false, am_1n0, or_true, true_or, eq_self, Bool.true_eq_false, Bool.false_eq_true, cond_true, cond_false]
theorem ac_ckBeats_f {p : Int32} {M : am_M} (h : am_wt p 0 20 = false) : am_val iX12_checkBeatsAhead 0 [some (.int p)] [] M = some (.inr 2, M, 1, 6) := by
  simp only [ae_X12_checkBeatsAhead_0, ae_X12_checkBeatsAhead_7, ae_X12_checkBeatsAhead_10, ae_X12_checkBeatsAhead_21, am_bnx_v, am_bnx_e, am_tl_s, am_tl_n, am_rv_s, am_add_rx, ac_isWithin, h, am_bi_f, not_true_eq_false, not_false_eq_true, if_true, if_false, am_1n0, or_true, true_or, eq_self, Bool.true_eq_false, Bool.false_eq_true, cond_true, cond_false]
/-- what is asked of the second implementation's state -/
theorem av_yq {σ : Nat → Int32} {L : List (Nat → Int32)} {H : List av_K} {P : Option av_K} {q : Int32 × Int32 × Int32} {n : Nat} {T : Nat → Int32} {f : Int32} {l : List Int32} {D : Nat} {x : Int32} {M : am_M} (hy : av_y D M σ L H P q n T f l) : av_y0 D (av_i M (am_c D 13) 0 x) σ L ∧ av_ys D M (av_i M (am_c D 13) 0 x) ∧ av_y D (av_i M (am_c D 13) 0 x) σ L H P q n T f l :=
  ⟨(av_y_s hy (av_ys_i (Or.inl rfl))).1, av_ys_i (Or.inl rfl), av_y_s hy (av_ys_i (Or.inl rfl))⟩
/-! wallOf -/
def aq_wallOf (σ : Nat → Int32) (p t : Int32) : av_A := if am_pl p = false then .inr (1, 1) else .inl (if t = 0 then av_hf σ p else av_of σ p)
theorem cq_wallOf {B : Nat} {rm : Nat → Nat} {σ : Nat → Int32} {L : List (Nat → Int32)} {p t : Int32} {M : am_M} (p0 : M.2.1 (am_c 0 12) 0 = am_c B 1 + 1) (hC : av_C M B rm σ L) : av_qc (am_val iX12_wallOf 0 [some (.ref (am_c 0 12)), some (.int p), some (.int t)] [] M) (aq_wallOf σ p t) M := by
  have w0 := hC.1.1.1
  unfold aq_wallOf
  cases hp : am_pl p with
  | false =>
    rw [if_pos rfl]
    show am_val iX12_wallOf 0 [some (.ref (am_c 0 12)), some (.int p), some (.int t)] [] M = some (.inr 1, M, 1, 6)
    simp only [ae_X12_wallOf_0, ae_X12_wallOf_4, ae_X12_wallOf_8, ae_X12_wallOf_12, ae_X12_wallOf_15, ae_X12_wallOf_19, ae_X12_wallOf_22, ae_X12_wallOf_26, ae_X12_wallOf_29, ae_X12_wallOf_33, am_bnx_v, am_bnx_e, am_tl_s, am_tl_n, am_rv_s, am_add_rx, ac_ckPlace_f hp]
  | true =>
    rw [if_neg (by decide)]
    show am_val iX12_wallOf 0 [some (.ref (am_c 0 12)), some (.int p), some (.int t)] [] M = some (.inl (some (.int (if t = 0 then av_hf σ p else av_of σ p))), M, 0, 0)
    by_cases ht : t = 0
    · rw [if_pos ht]
      simp only [ae_X12_wallOf_0, ae_X12_wallOf_4, ae_X12_wallOf_8, ae_X12_wallOf_12, ae_X12_wallOf_15, ae_X12_wallOf_19, ae_X12_wallOf_22, ae_X12_wallOf_26, ae_X12_wallOf_29, ae_X12_wallOf_33, am_bnx_v, am_bnx_e, am_tl_s, am_tl_n, am_rv_s, am_add_rx, ac_ckPlace_t hp, ht, not_true_eq_false, not_false_eq_true, if_true, if_false, am_1n0, or_true, true_or, eq_self, Bool.true_eq_false, Bool.false_eq_true, cond_true, cond_false, p0, w0, ac_bheight hC]
    · rw [if_neg ht]
      simp only [ae_X12_wallOf_0, ae_X12_wallOf_4, ae_X12_wallOf_8, ae_X12_wallOf_12, ae_X12_wallOf_15, ae_X12_wallOf_19, ae_X12_wallOf_22, ae_X12_wallOf_26, ae_X12_wallOf_29, ae_X12_wallOf_33, am_bnx_v, am_bnx_e, am_tl_s, am_tl_n, am_rv_s, am_add_rx, ac_ckPlace_t hp, ht, not_true_eq_false, not_false_eq_true, if_true, if_false, am_1n0, or_true, true_or, eq_self, Bool.true_eq_false, Bool.false_eq_true, cond_true, cond_false, p0, w0, ac_bowner hC]
theorem mq_wallOf {σ : Nat → Int32} {L : List (Nat → Int32)} {H : List av_K} {P : Option av_K} {q : Int32 × Int32 × Int32} {n : Nat} {T : Nat → Int32} {f : Int32} {l : List Int32} {D : Nat} {p t : Int32} {M : am_M} (hy : av_y D M σ L H P q n T f l) : ∃ M2, av_qm D (am_val iX13_wallOf 0 [some (.ref (am_c D 13)), some (.int p), some (.int t)] [] M) (aq_wallOf σ p t) M2 ∧ av_ys D M M2 := by
  unfold aq_wallOf
  cases hp : am_pl p with
  | false =>
    rw [if_pos rfl]
    refine ⟨av_i M (am_c D 13) 0 1, ⟨0, ?_, av_jS⟩, (av_yq hy).2.1⟩
    simp only [ae_X13_wallOf_0, ae_X13_wallOf_5, ae_X13_wallOf_8, ae_X13_wallOf_12, ae_X13_wallOf_23, ae_X13_wallOf_27, ae_X13_wallOf_31, ae_X13_wallOf_36, ae_X13_wallOf_39, ae_X13_wallOf_44, am_bnx_v, am_bnx_e, am_tl_s, am_tl_n, am_rv_s, am_add_rx, mc_isPlace, hp, am_bi_f, not_true_eq_false, not_false_eq_true, if_true, if_false, am_1n0, or_true, true_or, eq_self, Bool.true_eq_false, Bool.false_eq_true, cond_true, cond_false, av_jS, am_l1]
  | true =>
    rw [if_neg (by decide)]
    obtain ⟨k, hk, rfl⟩ := am_pl_n hp
    obtain ⟨⟨hm, hr⟩, hs, -⟩ := av_yq (x := 0) hy
    have e1 := mc_height hm hk
    have e2 := mc_owner hm hk
    rw [hr.1 (18 + 2 * k) (by omega) (by omega)] at e1
    rw [hr.1 (19 + 2 * k) (by omega) (by omega)] at e2
    refine ⟨av_i M (am_c D 13) 0 0, ⟨?_, av_jS⟩, hs⟩
    by_cases ht : t = 0
    · rw [if_pos ht, av_hf_n hk]
      simp only [ae_X13_wallOf_0, ae_X13_wallOf_5, ae_X13_wallOf_8, ae_X13_wallOf_12, ae_X13_wallOf_23, ae_X13_wallOf_27, ae_X13_wallOf_31, ae_X13_wallOf_36, ae_X13_wallOf_39, ae_X13_wallOf_44, am_bnx_v, am_bnx_e, am_tl_s, am_tl_n, am_rv_s, am_add_rx, mc_isPlace, hp, am_bi_t, not_true_eq_false, not_false_eq_true, if_true, if_false, am_1n0, or_true, true_or, eq_self, Bool.true_eq_false, Bool.false_eq_true, cond_true, cond_false, av_jS, am_l0, ht, e1]
    · rw [if_neg ht, av_of_n hk]
      simp only [ae_X13_wallOf_0, ae_X13_wallOf_5, ae_X13_wallOf_8, ae_X13_wallOf_12, ae_X13_wallOf_23, ae_X13_wallOf_27, ae_X13_wallOf_31, ae_X13_wallOf_36, ae_X13_wallOf_39, ae_X13_wallOf_44, am_bnx_v, am_bnx_e, am_tl_s, am_tl_n, am_rv_s, am_add_rx, mc_isPlace, hp, am_bi_t, not_true_eq_false, not_false_eq_true, if_true, if_false, am_1n0, or_true, true_or, eq_self, Bool.true_eq_false, Bool.false_eq_true, cond_true, cond_false, av_jS, am_l0, ht, e2]
/-! teamOf -/
def av_cw (σ : Nat → Int32) (t : Int32) : Int32 := am_cnt (fun p => decide (σ (19 + 2 * p) = t)) 16
def av_cpl (σ : Nat → Int32) (t : Int32) : Int32 := am_cnt (fun p => decide (σ (50 + 5 * p) = t)) (av_np σ)
def av_cs (L : List (Nat → Int32)) (t : Int32) : Int32 := am_cnt (fun k => decide (av_s L k 2 = t)) L.length
def av_ch (σ : Nat → Int32) (t : Int32) : Int32 := am_it (fun k x => if σ (19 + 2 * k) = t then x + σ (18 + 2 * k) else x) 16 0
def av_tc (σ : Nat → Int32) (t : Int32) : Int32 := av_tt (fun k => σ (10 + 3 * k)) t
def av_tf5 (σ : Nat → Int32) (t : Int32) : Int32 := av_tt (fun k => σ (11 + 3 * k)) t
theorem av_own_pos {bd k : Nat} {σ : Nat → Int32} {L : List (Nat → Int32)} {t : Nat} (hok : av_ok bd σ L) (hk : k < 16) (ht : t < 3) (hx : σ (19 + 2 * k) = nI t) : ¬ σ (18 + 2 * k) = 0 := by
  obtain ⟨h, hh, hσ, ho⟩ := hok.1 k hk
  rw [hσ]
  rcases ho with ho | ⟨h0, -⟩
  · rw [hx] at ho
    rcases (show t = 0 ∨ t = 1 ∨ t = 2 by omega) with rfl | rfl | rfl <;> exact absurd ho (by decide)
  · exact nI_ne0 h0 (by omega)
theorem mc_wallsOf0 {D bd t : Nat} {σ : Nat → Int32} {L : List (Nat → Int32)} {M : am_M} (hy : av_y0 D M σ L) (hok : av_ok bd σ L) (ht : t < 3) : am_val iX13_wallsOf 0 [some (.ref (am_c D 13)), some (.int (nI t)), some (.int 0), none, none] [] M = some (.inl (some (.int (av_cw σ (nI t)))), M, 0, 0) := by
  obtain ⟨hm, hr⟩ := hy
  have hl := av_lp (H := fun k x _ => am_val iX13_wallsOf 5 [some (.ref (am_c D 13)), some (.int (nI t)), some (.int 0), some (.int x), some (.int (nI k))] [] M) (g := am_cg (fun p => decide (σ (19 + 2 * p) = nI t))) (N := 16) (r := fun x => some (.inl (some (.int x)), M, 0, 0)) 0 none
    (fun x o => by
      rw [ae_X13_wallsOf_5, if_pos (show (16 : Int32) ≤ nI 16 by decide)]
      simp only [ae_X13_wallsOf_0, ae_X13_wallsOf_12, ae_X13_wallsOf_19, ae_X13_wallsOf_22, ae_X13_wallsOf_28, ae_X13_wallsOf_32, ae_X13_wallsOf_36, ae_X13_wallsOf_40, ae_X13_wallsOf_46, ae_X13_wallsOf_49, ae_X13_wallsOf_58])
    (fun k x o hk => by
      refine ⟨none, ?_⟩
      have e1 := mc_height hm hk
      have e2 := mc_owner hm hk
      rw [hr.1 (18 + 2 * k) (by omega) (by omega)] at e1
      rw [hr.1 (19 + 2 * k) (by omega) (by omega)] at e2
      rw [ae_X13_wallsOf_5, if_neg (show ¬ (16 : Int32) ≤ nI k from nI_ge (b := 16) hk (by decide))]
      by_cases hx : σ (19 + 2 * k) = nI t
      · rw [am_cg_t (by simp [hx])]
        simp only [ae_X13_wallsOf_0, ae_X13_wallsOf_12, ae_X13_wallsOf_19, ae_X13_wallsOf_22, ae_X13_wallsOf_28, ae_X13_wallsOf_32, ae_X13_wallsOf_36, ae_X13_wallsOf_40, ae_X13_wallsOf_46, ae_X13_wallsOf_49, ae_X13_wallsOf_58, am_bnx_v, am_bnx_e, am_tl_s, am_tl_n, am_rv_s, am_add_rx, e1, e2, av_own_pos hok hk ht hx, hx, not_true_eq_false, not_false_eq_true, if_true, if_false, am_1n0, or_true, true_or, eq_self, Bool.true_eq_false, Bool.false_eq_true, cond_true, cond_false, nI_1]
      · rw [am_cg_f (by simp [hx])]
        by_cases hz : σ (18 + 2 * k) = 0
        · simp only [ae_X13_wallsOf_0, ae_X13_wallsOf_12, ae_X13_wallsOf_19, ae_X13_wallsOf_22, ae_X13_wallsOf_28, ae_X13_wallsOf_32, ae_X13_wallsOf_36, ae_X13_wallsOf_40, ae_X13_wallsOf_46, ae_X13_wallsOf_49, ae_X13_wallsOf_58, am_bnx_v, am_bnx_e, am_tl_s, am_tl_n, am_rv_s, am_add_rx, e1, hz, not_true_eq_false, not_false_eq_true, if_true, if_false, am_1n0, or_true, true_or, eq_self, Bool.true_eq_false, Bool.false_eq_true, cond_true, cond_false, Int32.add_zero, nI_1]
        · simp only [ae_X13_wallsOf_0, ae_X13_wallsOf_12, ae_X13_wallsOf_19, ae_X13_wallsOf_22, ae_X13_wallsOf_28, ae_X13_wallsOf_32, ae_X13_wallsOf_36, ae_X13_wallsOf_40, ae_X13_wallsOf_46, ae_X13_wallsOf_49, ae_X13_wallsOf_58, am_bnx_v, am_bnx_e, am_tl_s, am_tl_n, am_rv_s, am_add_rx, e1, e2, hz, hx, not_true_eq_false, not_false_eq_true, if_true, if_false, am_1n0, or_true, true_or, eq_self, Bool.true_eq_false, Bool.false_eq_true, cond_true, cond_false, Int32.add_zero, nI_1])
  simp only [nI_0] at hl
  simp only [ae_X13_wallsOf_0, ae_X13_wallsOf_12, ae_X13_wallsOf_19, ae_X13_wallsOf_22, ae_X13_wallsOf_28, ae_X13_wallsOf_32, ae_X13_wallsOf_36, ae_X13_wallsOf_40, ae_X13_wallsOf_46, ae_X13_wallsOf_49, ae_X13_wallsOf_58, hl]
  rfl
theorem mc_wallsOf1 {D bd t : Nat} {σ : Nat → Int32} {L : List (Nat → Int32)} {M : am_M} (hy : av_y0 D M σ L) (hok : av_ok bd σ L) (ht : t < 3) : am_val iX13_wallsOf 0 [some (.ref (am_c D 13)), some (.int (nI t)), some (.int 1), none, none] [] M = some (.inl (some (.int (av_ch σ (nI t)))), M, 0, 0) := by
  obtain ⟨hm, hr⟩ := hy
  have hl := av_lp (H := fun k x _ => am_val iX13_wallsOf 5 [some (.ref (am_c D 13)), some (.int (nI t)), some (.int 1), some (.int x), some (.int (nI k))] [] M) (g := fun k x => if σ (19 + 2 * k) = nI t then x + σ (18 + 2 * k) else x) (N := 16) (r := fun x => some (.inl (some (.int x)), M, 0, 0)) 0 none
    (fun x o => by
      rw [ae_X13_wallsOf_5, if_pos (show (16 : Int32) ≤ nI 16 by decide)]
      simp only [ae_X13_wallsOf_0, ae_X13_wallsOf_12, ae_X13_wallsOf_19, ae_X13_wallsOf_22, ae_X13_wallsOf_28, ae_X13_wallsOf_32, ae_X13_wallsOf_36, ae_X13_wallsOf_40, ae_X13_wallsOf_46, ae_X13_wallsOf_49, ae_X13_wallsOf_58])
    (fun k x o hk => by
      refine ⟨none, ?_⟩
      have e1 := mc_height hm hk
      have e2 := mc_owner hm hk
      rw [hr.1 (18 + 2 * k) (by omega) (by omega)] at e1
      rw [hr.1 (19 + 2 * k) (by omega) (by omega)] at e2
      rw [ae_X13_wallsOf_5, if_neg (show ¬ (16 : Int32) ≤ nI k from nI_ge (b := 16) hk (by decide))]
      by_cases hx : σ (19 + 2 * k) = nI t
      · simp only [ae_X13_wallsOf_0, ae_X13_wallsOf_12, ae_X13_wallsOf_19, ae_X13_wallsOf_22, ae_X13_wallsOf_28, ae_X13_wallsOf_32, ae_X13_wallsOf_36, ae_X13_wallsOf_40, ae_X13_wallsOf_46, ae_X13_wallsOf_49, ae_X13_wallsOf_58, am_bnx_v, am_bnx_e, am_tl_s, am_tl_n, am_rv_s, am_add_rx, e1, e2, av_own_pos hok hk ht hx, hx, not_true_eq_false, not_false_eq_true, if_true, if_false, am_1n0, or_true, true_or, eq_self, Bool.true_eq_false, Bool.false_eq_true, cond_true, cond_false, nI_1]
      · by_cases hz : σ (18 + 2 * k) = 0
        · simp only [ae_X13_wallsOf_0, ae_X13_wallsOf_12, ae_X13_wallsOf_19, ae_X13_wallsOf_22, ae_X13_wallsOf_28, ae_X13_wallsOf_32, ae_X13_wallsOf_36, ae_X13_wallsOf_40, ae_X13_wallsOf_46, ae_X13_wallsOf_49, ae_X13_wallsOf_58, am_bnx_v, am_bnx_e, am_tl_s, am_tl_n, am_rv_s, am_add_rx, e1, hz, hx, not_true_eq_false, not_false_eq_true, if_true, if_false, am_1n0, or_true, true_or, eq_self, Bool.true_eq_false, Bool.false_eq_true, cond_true, cond_false, Int32.add_zero, nI_1]
        · simp only [ae_X13_wallsOf_0, ae_X13_wallsOf_12, ae_X13_wallsOf_19, ae_X13_wallsOf_22, ae_X13_wallsOf_28, ae_X13_wallsOf_32, ae_X13_wallsOf_36, ae_X13_wallsOf_40, ae_X13_wallsOf_46, ae_X13_wallsOf_49, ae_X13_wallsOf_58, am_bnx_v, am_bnx_e, am_tl_s, am_tl_n, am_rv_s, am_add_rx, e1, e2, hz, hx, not_true_eq_false, not_false_eq_true, if_true, if_false, am_1n0, or_true, true_or, eq_self, Bool.true_eq_false, Bool.false_eq_true, cond_true, cond_false, Int32.add_zero, nI_1])
  simp only [nI_0] at hl
  simp only [ae_X13_wallsOf_0, ae_X13_wallsOf_12, ae_X13_wallsOf_19, ae_X13_wallsOf_22, ae_X13_wallsOf_28, ae_X13_wallsOf_32, ae_X13_wallsOf_36, ae_X13_wallsOf_40, ae_X13_wallsOf_46, ae_X13_wallsOf_49, ae_X13_wallsOf_58, hl]
  rfl
def aq_teamOf (σ : Nat → Int32) (L : List (Nat → Int32)) (t w : Int32) : av_A := if am_tm t = false then .inr (1, 1) else if w = 0 then .inl (av_pt σ t) else if w = 1 then .inl (av_cw σ t) else if w = 2 then .inl (av_cpl σ t) else if w = 3 then .inl (av_cs L t) else if w = 4 then .inl (av_tc σ t) else if w = 5 then .inl (av_tf5 σ t) else .inr (2, 2)
theorem cq_teamOf {B : Nat} {rm : Nat → Nat} {σ : Nat → Int32} {L : List (Nat → Int32)} {t w : Int32} {M : am_M} (p0 : M.2.1 (am_c 0 12) 0 = am_c B 1 + 1) (hC : av_C M B rm σ L) : av_qc (am_val iX12_teamOf 0 [some (.ref (am_c 0 12)), some (.int t), some (.int w)] [] M) (aq_teamOf σ L t w) M := by
  have w0 := hC.1.1.1
  have w1 := hC.1.1.2.1
  unfold aq_teamOf
  cases hp : am_tm t with
  | false =>
    rw [if_pos rfl]
    show am_val iX12_teamOf 0 [some (.ref (am_c 0 12)), some (.int t), some (.int w)] [] M = some (.inr 1, M, 1, 6)
    simp only [ae_X12_teamOf_0, ae_X12_teamOf_4, ae_X12_teamOf_44, ae_X12_teamOf_48, ae_X12_teamOf_51, ae_X12_teamOf_55, ae_X12_teamOf_56, ae_X12_teamOf_60, ae_X12_teamOf_63, ae_X12_teamOf_67, ae_X12_teamOf_68, ae_X12_teamOf_72, ae_X12_teamOf_76, ae_X12_teamOf_77, ae_X12_teamOf_81, ae_X12_teamOf_85, ae_X12_teamOf_86, ae_X12_teamOf_90, ae_X12_teamOf_93, ae_X12_teamOf_97, ae_X12_teamOf_98, ae_X12_teamOf_102, ae_X12_teamOf_105, ae_X12_teamOf_109, ae_X12_teamOf_110, am_bnx_v, am_bnx_e, am_tl_s, am_tl_n, am_rv_s, am_add_rx, ac_ckTeam_f hp]
  | true =>
    rw [if_neg (by decide)]
    have c0 := ac_ckTeam_t (M := M) hp
    by_cases h0 : w = 0
    · rw [if_pos h0]
      show (_ : am_T) = some (.inl (some (.int (av_pt σ t))), M, 0, 0)
      simp only [ae_X12_teamOf_0, ae_X12_teamOf_4, ae_X12_teamOf_44, ae_X12_teamOf_48, ae_X12_teamOf_51, ae_X12_teamOf_55, ae_X12_teamOf_56, ae_X12_teamOf_60, ae_X12_teamOf_63, ae_X12_teamOf_67, ae_X12_teamOf_68, ae_X12_teamOf_72, ae_X12_teamOf_76, ae_X12_teamOf_77, ae_X12_teamOf_81, ae_X12_teamOf_85, ae_X12_teamOf_86, ae_X12_teamOf_90, ae_X12_teamOf_93, ae_X12_teamOf_97, ae_X12_teamOf_98, ae_X12_teamOf_102, ae_X12_teamOf_105, ae_X12_teamOf_109, ae_X12_teamOf_110, am_bnx_v, am_bnx_e, am_tl_s, am_tl_n, am_rv_s, am_add_rx, c0, am_sw_y h0, p0, w1, ac_bpoints hC]
    · rw [if_neg h0]
      by_cases h1 : w = 1
      · rw [if_pos h1]
        show (_ : am_T) = some (.inl (some (.int (av_cw σ t))), M, 0, 0)
        simp only [ae_X12_teamOf_0, ae_X12_teamOf_4, ae_X12_teamOf_44, ae_X12_teamOf_48, ae_X12_teamOf_51, ae_X12_teamOf_55, ae_X12_teamOf_56, ae_X12_teamOf_60, ae_X12_teamOf_63, ae_X12_teamOf_67, ae_X12_teamOf_68, ae_X12_teamOf_72, ae_X12_teamOf_76, ae_X12_teamOf_77, ae_X12_teamOf_81, ae_X12_teamOf_85, ae_X12_teamOf_86, ae_X12_teamOf_90, ae_X12_teamOf_93, ae_X12_teamOf_97, ae_X12_teamOf_98, ae_X12_teamOf_102, ae_X12_teamOf_105, ae_X12_teamOf_109, ae_X12_teamOf_110, am_bnx_v, am_bnx_e, am_tl_s, am_tl_n, am_rv_s, am_add_rx, c0, am_sw_n h0, am_sw_y h1, p0, w0, ac_bcountOf hC]
        rfl
      · rw [if_neg h1]
        by_cases h2 : w = 2
        · rw [if_pos h2]
          show (_ : am_T) = some (.inl (some (.int (av_cpl σ t))), M, 0, 0)
          simp only [ae_X12_teamOf_0, ae_X12_teamOf_4, ae_X12_teamOf_44, ae_X12_teamOf_48, ae_X12_teamOf_51, ae_X12_teamOf_55, ae_X12_teamOf_56, ae_X12_teamOf_60, ae_X12_teamOf_63, ae_X12_teamOf_67, ae_X12_teamOf_68, ae_X12_teamOf_72, ae_X12_teamOf_76, ae_X12_teamOf_77, ae_X12_teamOf_81, ae_X12_teamOf_85, ae_X12_teamOf_86, ae_X12_teamOf_90, ae_X12_teamOf_93, ae_X12_teamOf_97, ae_X12_teamOf_98, ae_X12_teamOf_102, ae_X12_teamOf_105, ae_X12_teamOf_109, ae_X12_teamOf_110, am_bnx_v, am_bnx_e, am_tl_s, am_tl_n, am_rv_s, am_add_rx, c0, am_sw_n h0, am_sw_n h1, am_sw_y h2, p0, ac_countPlayersOf hC]
          rfl
        · rw [if_neg h2]
          by_cases h3 : w = 3
          · rw [if_pos h3]
            show (_ : am_T) = some (.inl (some (.int (av_cs L t))), M, 0, 0)
            simp only [ae_X12_teamOf_0, ae_X12_teamOf_4, ae_X12_teamOf_44, ae_X12_teamOf_48, ae_X12_teamOf_51, ae_X12_teamOf_55, ae_X12_teamOf_56, ae_X12_teamOf_60, ae_X12_teamOf_63, ae_X12_teamOf_67, ae_X12_teamOf_68, ae_X12_teamOf_72, ae_X12_teamOf_76, ae_X12_teamOf_77, ae_X12_teamOf_81, ae_X12_teamOf_85, ae_X12_teamOf_86, ae_X12_teamOf_90, ae_X12_teamOf_93, ae_X12_teamOf_97, ae_X12_teamOf_98, ae_X12_teamOf_102, ae_X12_teamOf_105, ae_X12_teamOf_109, ae_X12_teamOf_110, am_bnx_v, am_bnx_e, am_tl_s, am_tl_n, am_rv_s, am_add_rx, c0, am_sw_n h0, am_sw_n h1, am_sw_n h2, am_sw_y h3, p0, ac_countSoundsOf hC]
            rfl
          · rw [if_neg h3]
            by_cases h4 : w = 4
            · rw [if_pos h4]
              show (_ : am_T) = some (.inl (some (.int (av_tc σ t))), M, 0, 0)
              simp only [ae_X12_teamOf_0, ae_X12_teamOf_4, ae_X12_teamOf_44, ae_X12_teamOf_48, ae_X12_teamOf_51, ae_X12_teamOf_55, ae_X12_teamOf_56, ae_X12_teamOf_60, ae_X12_teamOf_63, ae_X12_teamOf_67, ae_X12_teamOf_68, ae_X12_teamOf_72, ae_X12_teamOf_76, ae_X12_teamOf_77, ae_X12_teamOf_81, ae_X12_teamOf_85, ae_X12_teamOf_86, ae_X12_teamOf_90, ae_X12_teamOf_93, ae_X12_teamOf_97, ae_X12_teamOf_98, ae_X12_teamOf_102, ae_X12_teamOf_105, ae_X12_teamOf_109, ae_X12_teamOf_110, am_bnx_v, am_bnx_e, am_tl_s, am_tl_n, am_rv_s, am_add_rx, c0, am_sw_n h0, am_sw_n h1, am_sw_n h2, am_sw_n h3, am_sw_y h4, p0, w1, ac_bcatches hC]
              rfl
            · rw [if_neg h4]
              by_cases h5 : w = 5
              · rw [if_pos h5]
                show (_ : am_T) = some (.inl (some (.int (av_tf5 σ t))), M, 0, 0)
                simp only [ae_X12_teamOf_0, ae_X12_teamOf_4, ae_X12_teamOf_44, ae_X12_teamOf_48, ae_X12_teamOf_51, ae_X12_teamOf_55, ae_X12_teamOf_56, ae_X12_teamOf_60, ae_X12_teamOf_63, ae_X12_teamOf_67, ae_X12_teamOf_68, ae_X12_teamOf_72, ae_X12_teamOf_76, ae_X12_teamOf_77, ae_X12_teamOf_81, ae_X12_teamOf_85, ae_X12_teamOf_86, ae_X12_teamOf_90, ae_X12_teamOf_93, ae_X12_teamOf_97, ae_X12_teamOf_98, ae_X12_teamOf_102, ae_X12_teamOf_105, ae_X12_teamOf_109, ae_X12_teamOf_110, am_bnx_v, am_bnx_e, am_tl_s, am_tl_n, am_rv_s, am_add_rx, c0, am_sw_n h0, am_sw_n h1, am_sw_n h2, am_sw_n h3, am_sw_n h4, am_sw_y h5, p0, w1, ac_binter hC]
                rfl
              · rw [if_neg h5]
                show (_ : am_T) = some (.inr 2, M, 1, 6)
                simp only [ae_X12_teamOf_0, ae_X12_teamOf_4, ae_X12_teamOf_44, ae_X12_teamOf_48, ae_X12_teamOf_51, ae_X12_teamOf_55, ae_X12_teamOf_56, ae_X12_teamOf_60, ae_X12_teamOf_63, ae_X12_teamOf_67, ae_X12_teamOf_68, ae_X12_teamOf_72, ae_X12_teamOf_76, ae_X12_teamOf_77, ae_X12_teamOf_81, ae_X12_teamOf_85, ae_X12_teamOf_86, ae_X12_teamOf_90, ae_X12_teamOf_93, ae_X12_teamOf_97, ae_X12_teamOf_98, ae_X12_teamOf_102, ae_X12_teamOf_105, ae_X12_teamOf_109, ae_X12_teamOf_110, am_bnx_v, am_bnx_e, am_tl_s, am_tl_n, am_rv_s, am_add_rx, c0, am_sw_n h0, am_sw_n h1, am_sw_n h2, am_sw_n h3, am_sw_n h4, am_sw_n h5, am_sw_0]
theorem mq_teamOf {σ : Nat → Int32} {L : List (Nat → Int32)} {H : List av_K} {P : Option av_K} {q : Int32 × Int32 × Int32} {n : Nat} {T : Nat → Int32} {f : Int32} {l : List Int32} {D bd : Nat} {t w : Int32} {M : am_M} (hy : av_y D M σ L H P q n T f l) (hok : av_ok bd σ L) : ∃ M2, av_qm D (am_val iX13_teamOf 0 [some (.ref (am_c D 13)), some (.int t), some (.int w)] [] M) (aq_teamOf σ L t w) M2 ∧ av_ys D M M2 := by
  unfold aq_teamOf
  cases hp : am_tm t with
  | false =>
    rw [if_pos rfl]
    refine ⟨av_i M (am_c D 13) 0 1, ⟨0, ?_, av_jS⟩, (av_yq hy).2.1⟩
    simp only [ae_X13_teamOf_0, ae_X13_teamOf_5, ae_X13_teamOf_8, ae_X13_teamOf_12, ae_X13_teamOf_23, ae_X13_teamOf_25, ae_X13_teamOf_64, ae_X13_teamOf_69, ae_X13_teamOf_70, ae_X13_teamOf_76, ae_X13_teamOf_77, ae_X13_teamOf_82, ae_X13_teamOf_83, ae_X13_teamOf_88, ae_X13_teamOf_89, ae_X13_teamOf_93, ae_X13_teamOf_103, ae_X13_teamOf_107, ae_X13_teamOf_117, ae_X13_teamOf_122, am_bnx_v, am_bnx_e, am_tl_s, am_tl_n, am_rv_s, am_add_rx, mc_isTeam, hp, am_bi_f, not_true_eq_false, not_false_eq_true, if_true, if_false, am_1n0, or_true, true_or, eq_self, Bool.true_eq_false, Bool.false_eq_true, cond_true, cond_false, av_jS, am_l1]
  | true =>
    rw [if_neg (by decide)]
    obtain ⟨k, hk, rfl⟩ := am_tm_n hp
    obtain ⟨y0, hs, -⟩ := av_yq (x := 0) hy
    have hm := y0.1
    have hr := y0.2
    have e0 := mc_points hm hk
    rw [hr.1 (9 + 3 * k) (by omega) (by omega)] at e0
    have e1 := mc_wallsOf0 y0 hok hk
    have e2 := mc_playersOf (t := nI k) hm hr hok.2.2.2.2.2.1 hok.2.2.2.2.2.2.1 hok.2.2.2.2.2.2.2
    have e3 := mc_soundsOf (t := nI k) hm hr hok.2.2.2.2.2.1 hok.2.2.2.2.2.2.1 hok.2.2.2.2.2.2.2
    have m1 : (av_i M (am_c D 13) 0 0).2.1 (am_c D 13) 1 = am_c (D + 1) 18 + 1 := hm.1
    have x1 : nI (9 + 3 * k) + 1 = nI (10 + 3 * k) := by rw [nI_1]; congr 1; omega
    have x2 : nI (9 + 3 * k) + 2 = nI (11 + 3 * k) := by rw [show (2 : Int32) = nI 2 from rfl, nI_add]; congr 1; omega
    have i1 := am_in_n (show 10 + 3 * k < 120 by omega) (by decide)
    have i2 := am_in_n (show 11 + 3 * k < 120 by omega) (by decide)
    have t1 := am_tn (show 10 + 3 * k < 2147483648 by omega)
    have t2 := am_tn (show 11 + 3 * k < 2147483648 by omega)
    have q4 := hr.1 (10 + 3 * k) (by omega) (by omega)
    have q5 := hr.1 (11 + 3 * k) (by omega) (by omega)
    have b0 : am_val iX13_isTeam 0 [some (.int (nI k))] [] M = some (.inl (some (.int 1)), M, 0, 0) := by rw [mc_isTeam, hp]; rfl
    by_cases h0 : w = 0
    · rw [if_pos h0, av_pt_n hk]
      refine ⟨av_i M (am_c D 13) 0 0, ⟨?_, av_jS⟩, hs⟩
      simp only [ae_X13_teamOf_0, ae_X13_teamOf_5, ae_X13_teamOf_8, ae_X13_teamOf_12, ae_X13_teamOf_23, ae_X13_teamOf_25, ae_X13_teamOf_64, ae_X13_teamOf_69, ae_X13_teamOf_70, ae_X13_teamOf_76, ae_X13_teamOf_77, ae_X13_teamOf_82, ae_X13_teamOf_83, ae_X13_teamOf_88, ae_X13_teamOf_89, ae_X13_teamOf_93, ae_X13_teamOf_103, ae_X13_teamOf_107, ae_X13_teamOf_117, ae_X13_teamOf_122, am_bnx_v, am_bnx_e, am_tl_s, am_tl_n, am_rv_s, am_add_rx, b0, not_true_eq_false, not_false_eq_true, if_true, if_false, am_1n0, or_true, true_or, eq_self, Bool.true_eq_false, Bool.false_eq_true, cond_true, cond_false, av_jS, am_l0, am_sw_y h0, e0]
    · rw [if_neg h0]
      by_cases h1 : w = 1
      · rw [if_pos h1]
        refine ⟨av_i M (am_c D 13) 0 0, ⟨?_, av_jS⟩, hs⟩
        simp only [ae_X13_teamOf_0, ae_X13_teamOf_5, ae_X13_teamOf_8, ae_X13_teamOf_12, ae_X13_teamOf_23, ae_X13_teamOf_25, ae_X13_teamOf_64, ae_X13_teamOf_69, ae_X13_teamOf_70, ae_X13_teamOf_76, ae_X13_teamOf_77, ae_X13_teamOf_82, ae_X13_teamOf_83, ae_X13_teamOf_88, ae_X13_teamOf_89, ae_X13_teamOf_93, ae_X13_teamOf_103, ae_X13_teamOf_107, ae_X13_teamOf_117, ae_X13_teamOf_122, am_bnx_v, am_bnx_e, am_tl_s, am_tl_n, am_rv_s, am_add_rx, b0, not_true_eq_false, not_false_eq_true, if_true, if_false, am_1n0, or_true, true_or, eq_self, Bool.true_eq_false, Bool.false_eq_true, cond_true, cond_false, av_jS, am_l0, am_sw_n h0, am_sw_y h1, e1]
      · rw [if_neg h1]
        by_cases h2 : w = 2
        · rw [if_pos h2]
          refine ⟨av_i M (am_c D 13) 0 0, ⟨?_, av_jS⟩, hs⟩
          simp only [ae_X13_teamOf_0, ae_X13_teamOf_5, ae_X13_teamOf_8, ae_X13_teamOf_12, ae_X13_teamOf_23, ae_X13_teamOf_25, ae_X13_teamOf_64, ae_X13_teamOf_69, ae_X13_teamOf_70, ae_X13_teamOf_76, ae_X13_teamOf_77, ae_X13_teamOf_82, ae_X13_teamOf_83, ae_X13_teamOf_88, ae_X13_teamOf_89, ae_X13_teamOf_93, ae_X13_teamOf_103, ae_X13_teamOf_107, ae_X13_teamOf_117, ae_X13_teamOf_122, am_bnx_v, am_bnx_e, am_tl_s, am_tl_n, am_rv_s, am_add_rx, b0, not_true_eq_false, not_false_eq_true, if_true, if_false, am_1n0, or_true, true_or, eq_self, Bool.true_eq_false, Bool.false_eq_true, cond_true, cond_false, av_jS, am_l0, am_sw_n h0, am_sw_n h1, am_sw_y h2, e2]
          rfl
        · rw [if_neg h2]
          by_cases h3 : w = 3
          · rw [if_pos h3]
            refine ⟨av_i M (am_c D 13) 0 0, ⟨?_, av_jS⟩, hs⟩
            simp only [ae_X13_teamOf_0, ae_X13_teamOf_5, ae_X13_teamOf_8, ae_X13_teamOf_12, ae_X13_teamOf_23, ae_X13_teamOf_25, ae_X13_teamOf_64, ae_X13_teamOf_69, ae_X13_teamOf_70, ae_X13_teamOf_76, ae_X13_teamOf_77, ae_X13_teamOf_82, ae_X13_teamOf_83, ae_X13_teamOf_88, ae_X13_teamOf_89, ae_X13_teamOf_93, ae_X13_teamOf_103, ae_X13_teamOf_107, ae_X13_teamOf_117, ae_X13_teamOf_122, am_bnx_v, am_bnx_e, am_tl_s, am_tl_n, am_rv_s, am_add_rx, b0, not_true_eq_false, not_false_eq_true, if_true, if_false, am_1n0, or_true, true_or, eq_self, Bool.true_eq_false, Bool.false_eq_true, cond_true, cond_false, av_jS, am_l0, am_sw_n h0, am_sw_n h1, am_sw_n h2, am_sw_y h3, e3]
            rfl
          · rw [if_neg h3]
            by_cases h4 : w = 4
            · rw [if_pos h4]
              refine ⟨av_i M (am_c D 13) 0 0, ⟨?_, av_jS⟩, hs⟩
              unfold av_tc
              rw [av_tt_n hk]
              simp only [ae_X13_teamOf_0, ae_X13_teamOf_5, ae_X13_teamOf_8, ae_X13_teamOf_12, ae_X13_teamOf_23, ae_X13_teamOf_25, ae_X13_teamOf_64, ae_X13_teamOf_69, ae_X13_teamOf_70, ae_X13_teamOf_76, ae_X13_teamOf_77, ae_X13_teamOf_82, ae_X13_teamOf_83, ae_X13_teamOf_88, ae_X13_teamOf_89, ae_X13_teamOf_93, ae_X13_teamOf_103, ae_X13_teamOf_107, ae_X13_teamOf_117, ae_X13_teamOf_122, am_bnx_v, am_bnx_e, am_tl_s, am_tl_n, am_rv_s, am_add_rx, b0, not_true_eq_false, not_false_eq_true, if_true, if_false, am_1n0, or_true, true_or, eq_self, Bool.true_eq_false, Bool.false_eq_true, cond_true, cond_false, av_jS, am_l0, am_sw_n h0, am_sw_n h1, am_sw_n h2, am_sw_n h3, am_sw_y h4, m1, av_x9, x1, i1, t1, q4]
            · rw [if_neg h4]
              by_cases h5 : w = 5
              · rw [if_pos h5]
                refine ⟨av_i M (am_c D 13) 0 0, ⟨?_, av_jS⟩, hs⟩
                unfold av_tf5
                rw [av_tt_n hk]
                simp only [ae_X13_teamOf_0, ae_X13_teamOf_5, ae_X13_teamOf_8, ae_X13_teamOf_12, ae_X13_teamOf_23, ae_X13_teamOf_25, ae_X13_teamOf_64, ae_X13_teamOf_69, ae_X13_teamOf_70, ae_X13_teamOf_76, ae_X13_teamOf_77, ae_X13_teamOf_82, ae_X13_teamOf_83, ae_X13_teamOf_88, ae_X13_teamOf_89, ae_X13_teamOf_93, ae_X13_teamOf_103, ae_X13_teamOf_107, ae_X13_teamOf_117, ae_X13_teamOf_122, am_bnx_v, am_bnx_e, am_tl_s, am_tl_n, am_rv_s, am_add_rx, b0, not_true_eq_false, not_false_eq_true, if_true, if_false, am_1n0, or_true, true_or, eq_self, Bool.true_eq_false, Bool.false_eq_true, cond_true, cond_false, av_jS, am_l0, am_sw_n h0, am_sw_n h1, am_sw_n h2, am_sw_n h3, am_sw_n h4, am_sw_y h5, m1, av_x9, x2, i2, t2, q5]
              · rw [if_neg h5]
                refine ⟨av_i (av_i M (am_c D 13) 0 0) (am_c D 13) 0 2, ⟨0, ?_, av_jS⟩, av_ys_t hs (av_ys_i (Or.inl rfl))⟩
                simp only [ae_X13_teamOf_0, ae_X13_teamOf_5, ae_X13_teamOf_8, ae_X13_teamOf_12, ae_X13_teamOf_23, ae_X13_teamOf_25, ae_X13_teamOf_64, ae_X13_teamOf_69, ae_X13_teamOf_70, ae_X13_teamOf_76, ae_X13_teamOf_77, ae_X13_teamOf_82, ae_X13_teamOf_83, ae_X13_teamOf_88, ae_X13_teamOf_89, ae_X13_teamOf_93, ae_X13_teamOf_103, ae_X13_teamOf_107, ae_X13_teamOf_117, ae_X13_teamOf_122, am_bnx_v, am_bnx_e, am_tl_s, am_tl_n, am_rv_s, am_add_rx, b0, not_true_eq_false, not_false_eq_true, if_true, if_false, am_1n0, or_true, true_or, eq_self, Bool.true_eq_false, Bool.false_eq_true, cond_true, cond_false, av_jS, am_l0, am_sw_n h0, am_sw_n h1, am_sw_n h2, am_sw_n h3, am_sw_n h4, am_sw_n h5, am_sw_0, mc_fails]
