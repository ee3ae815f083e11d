/-! a sound's line -/
def tl_s (s : Nat → Int32) : List Int32 := tl_d (s 0) ++ [if s 4 = 0 then 60 else 62] ++ tl_d (s 1) ++ [97 + s 2] ++ (if 0 < s 3 then [33] else [])
theorem am_0n1 : ((0 : Int32) = 1) = False := by decide
theorem ac_soundLine {σ : Nat → Int32} {L : List (Nat → Int32)} {H : List av_K} {P : Option av_K} {q : Int32 × Int32 × Int32} {n : Nat} {T : Nat → Int32} {f : Int32} {l : List Int32} {bd : Nat} {p : Int32} {M : am_M} (hx : av_x M σ L H P q n T f l) (hok : av_ok bd σ L) : (am_lt p L.length = false → am_val iX12_soundLine 0 [some (.ref (am_c 0 12)), some (.int p), none] [] M = some (.inr 1, M, 1, 6)) ∧ (am_lt p L.length = true → ∃ M', am_val iX12_soundLine 0 [some (.ref (am_c 0 12)), some (.int p), none] [] M = some (.inl (some (.int (nI (tl_s (av_s L (av_ix p))).length))), M', 0, 0) ∧ av_fx M M' ∧ av_x M' σ L H P q n T f (tl_s (av_s L (av_ix p)))) := by
  obtain ⟨rm, hC⟩ := hx.2.1
  have p0 := hx.1.1.1
  have p6 : M.2.1 (am_c 0 12) 6 = am_c 246 4 + 1 := hx.1.1.2.2.2.2.2.1
  have hl8 := hok.2.2.2.2.2.2.2
  refine ⟨fun hp => ?_, fun hp => ?_⟩
  · simp only [ae_X12_soundLine_0, ae_X12_soundLine_5, ae_X12_soundLine_9, ae_X12_soundLine_12, ae_X12_soundLine_14, ae_X12_soundLine_19, ae_X12_soundLine_22, ae_X12_soundLine_26, ae_X12_soundLine_33, ae_X12_soundLine_37, ae_X12_soundLine_44, ae_X12_soundLine_49, ae_X12_soundLine_54, ae_X12_soundLine_58, ae_X12_soundLine_65, ae_X12_soundLine_69, ae_X12_soundLine_76, ae_X12_soundLine_80, ae_X12_soundLine_83, ae_X12_soundLine_87, ae_X12_soundLine_92, ae_X12_soundLine_96, am_bnx_v, am_bnx_e, am_tl_s, am_tl_n, am_rv_s, am_add_rx, ac_ckSound_f p0 hC hp]
  · have c0 := ac_ckSound_t p0 hC hp
    obtain ⟨k, hk, rfl⟩ := am_lt_n (by omega) hp
    rw [av_ix_n (by omega)]
    have hin := am_in_n (show k < 8 by omega) (by decide)
    have htn := am_tn (show k < 2147483648 by omega)
    have w3 := hC.1.1.2.2.2.1
    have hq := hC.1.2.1 k (by omega)
    obtain ⟨⟨a, ha, s0⟩, ⟨v, t, hv, hvt, s1, s3⟩, ⟨b, hb, s2⟩, s4⟩ := hok.2.2.2.2.1 k hk
    obtain ⟨M1, e1, x1, g1⟩ := cl_clear hx.2.2.2.2.2.2.1
    have F : ∀ X, av_ll M X → X.2.1 (am_c 0 12) 6 = am_c 246 4 + 1 ∧ am_rs X.1 (rm k) (av_s L k) := fun X g => ⟨by rw [g.1]; exact p6, (av_C_g hC (g.2 1 (1 + 24) (by decide))).2.2.2.2.2.2.1 k hk⟩
    obtain ⟨M2, e2, x2, g2⟩ := cl_num x1 (k := a) (by omega) (by decide)
    have G2 := av_ll_t g1 g2
    have l2 := tl_d_l (x := nI a)
    obtain ⟨M3, e3, x3, g3⟩ := cl_put (x := if av_s L k 4 = 0 then 60 else 62) x2 (by rw [List.nil_append]; omega) (by rcases s4 with h | h <;> rw [h] <;> decide)
    have G3 := av_ll_t G2 g3
    have l3 := tl_d_l (x := nI v)
    obtain ⟨M4, e4, x4, g4⟩ := cl_num x3 (k := v) (by omega) (by rw [tl_gl, List.nil_append]; omega)
    have G4 := av_ll_t G3 g4
    obtain ⟨M5, e5, x5, g5⟩ := cl_team x4 hb (by rw [List.length_append, tl_gl, List.nil_append]; omega)
    have G5 := av_ll_t G4 g5
    have l5 : (((([] ++ tl_d (nI a)) ++ [if av_s L k 4 = 0 then 60 else 62]) ++ tl_d (nI v)) ++ [97 + nI b]).length ≤ 6 := by
      rw [tl_gl, List.length_append, tl_gl, List.nil_append]
      omega
    have hs : tl_s (av_s L k) = (((([] ++ tl_d (nI a)) ++ [if av_s L k 4 = 0 then 60 else 62]) ++ tl_d (nI v)) ++ [97 + nI b]) ++ (if 0 < nI t then [33] else []) := by
      unfold tl_s
      rw [s0, s1, s2, s3]
      rfl
    obtain ⟨q1, f1⟩ := F M1 g1
    obtain ⟨q2, f2⟩ := F M2 G2
    obtain ⟨q3, f3⟩ := F M3 G3
    obtain ⟨q4, f4⟩ := F M4 G4
    obtain ⟨q5, f5⟩ := F M5 G5
    have a1 : M1.1 (am_c (rm k) 8) 0 = nI a := f1.1.trans s0
    have a2 : M2.1 (am_c (rm k) 8) 1 = av_s L k 4 := f2.2.2.2.2
    have a3 : M3.1 (am_c (rm k) 8) 2 = nI v := f3.2.1.trans s1
    have a4 : M4.1 (am_c (rm k) 8) 3 = nI b := f4.2.2.1.trans s2
    have a5 := ac_wasThrownBack (i := rm k) (M := M5)
    rw [f5.2.2.2.1.trans s3] at a5
    rw [hs]
    by_cases ht : 0 < nI t
    · rw [decide_eq_true ht, am_bi_t] at a5
      rw [if_pos ht]
      obtain ⟨M6, e6, x6, g6⟩ := cl_put (x := 33) x5 (by omega) (by decide)
      have G6 := av_ll_t G5 g6
      obtain ⟨q6, -⟩ := F M6 G6
      have n6 := x6.2.2.1
      refine ⟨M6, ?_, av_fx_ll G6, av_x_ll hx G6 x6⟩
      rw [← n6]
      rcases s4 with h | h
      · rw [h, if_pos rfl] at e3
        rw [h] at a2
        simp only [ae_X12_soundLine_0, ae_X12_soundLine_5, ae_X12_soundLine_9, ae_X12_soundLine_12, ae_X12_soundLine_14, ae_X12_soundLine_19, ae_X12_soundLine_22, ae_X12_soundLine_26, ae_X12_soundLine_33, ae_X12_soundLine_37, ae_X12_soundLine_44, ae_X12_soundLine_49, ae_X12_soundLine_54, ae_X12_soundLine_58, ae_X12_soundLine_65, ae_X12_soundLine_69, ae_X12_soundLine_76, ae_X12_soundLine_80, ae_X12_soundLine_83, ae_X12_soundLine_87, ae_X12_soundLine_92, ae_X12_soundLine_96, am_bnx_v, am_bnx_e, am_tl_s, am_tl_n, am_rv_s, am_add_rx, c0, p0, w3, hin, htn, hq, p6, e1, q1, a1, e2, q2, a2, e3, q3, a3, e4, q4, a4, e5, a5, q5, e6, q6, not_true_eq_false, not_false_eq_true, if_true, if_false, am_1n0, or_true, true_or, eq_self, Bool.true_eq_false, Bool.false_eq_true, cond_true, cond_false]
      · rw [h, if_neg (show ¬ (1 : Int32) = 0 by decide)] at e3
        rw [h] at a2
        simp only [ae_X12_soundLine_0, ae_X12_soundLine_5, ae_X12_soundLine_9, ae_X12_soundLine_12, ae_X12_soundLine_14, ae_X12_soundLine_19, ae_X12_soundLine_22, ae_X12_soundLine_26, ae_X12_soundLine_33, ae_X12_soundLine_37, ae_X12_soundLine_44, ae_X12_soundLine_49, ae_X12_soundLine_54, ae_X12_soundLine_58, ae_X12_soundLine_65, ae_X12_soundLine_69, ae_X12_soundLine_76, ae_X12_soundLine_80, ae_X12_soundLine_83, ae_X12_soundLine_87, ae_X12_soundLine_92, ae_X12_soundLine_96, am_bnx_v, am_bnx_e, am_tl_s, am_tl_n, am_rv_s, am_add_rx, c0, p0, w3, hin, htn, hq, p6, e1, q1, a1, e2, q2, a2, e3, q3, a3, e4, q4, a4, e5, a5, q5, e6, q6, not_true_eq_false, not_false_eq_true, if_true, if_false, am_1n0, or_true, true_or, eq_self, Bool.true_eq_false, Bool.false_eq_true, cond_true, cond_false]
    · rw [decide_eq_false ht, am_bi_f] at a5
      rw [if_neg ht, List.append_nil]
      have n5 := x5.2.2.1
      refine ⟨M5, ?_, av_fx_ll G5, av_x_ll hx G5 x5⟩
      rw [← n5]
      rcases s4 with h | h
      · rw [h, if_pos rfl] at e3
        rw [h] at a2
        simp only [ae_X12_soundLine_0, ae_X12_soundLine_5, ae_X12_soundLine_9, ae_X12_soundLine_12, ae_X12_soundLine_14, ae_X12_soundLine_19, ae_X12_soundLine_22, ae_X12_soundLine_26, ae_X12_soundLine_33, ae_X12_soundLine_37, ae_X12_soundLine_44, ae_X12_soundLine_49, ae_X12_soundLine_54, ae_X12_soundLine_58, ae_X12_soundLine_65, ae_X12_soundLine_69, ae_X12_soundLine_76, ae_X12_soundLine_80, ae_X12_soundLine_83, ae_X12_soundLine_87, ae_X12_soundLine_92, ae_X12_soundLine_96, am_bnx_v, am_bnx_e, am_tl_s, am_tl_n, am_rv_s, am_add_rx, c0, p0, w3, hin, htn, hq, p6, e1, q1, a1, e2, q2, a2, e3, q3, a3, e4, q4, a4, e5, a5, q5, not_true_eq_false, not_false_eq_true, if_true, if_false, am_1n0, or_true, true_or, eq_self, Bool.true_eq_false, Bool.false_eq_true, cond_true, cond_false]
      · rw [h, if_neg (show ¬ (1 : Int32) = 0 by decide)] at e3
        rw [h] at a2
        simp only [ae_X12_soundLine_0, ae_X12_soundLine_5, ae_X12_soundLine_9, ae_X12_soundLine_12, ae_X12_soundLine_14, ae_X12_soundLine_19, ae_X12_soundLine_22, ae_X12_soundLine_26, ae_X12_soundLine_33, ae_X12_soundLine_37, ae_X12_soundLine_44, ae_X12_soundLine_49, ae_X12_soundLine_54, ae_X12_soundLine_58, ae_X12_soundLine_65, ae_X12_soundLine_69, ae_X12_soundLine_76, ae_X12_soundLine_80, ae_X12_soundLine_83, ae_X12_soundLine_87, ae_X12_soundLine_92, ae_X12_soundLine_96, am_bnx_v, am_bnx_e, am_tl_s, am_tl_n, am_rv_s, am_add_rx, c0, p0, w3, hin, htn, hq, p6, e1, q1, a1, e2, q2, a2, e3, q3, a3, e4, q4, a4, e5, a5, q5, not_true_eq_false, not_false_eq_true, if_true, if_false, am_1n0, or_true, true_or, eq_self, Bool.true_eq_false, Bool.false_eq_true, cond_true, cond_false]
theorem mc_soundLine {σ : Nat → Int32} {L : List (Nat → Int32)} {H : List av_K} {P : Option av_K} {q : Int32 × Int32 × Int32} {n : Nat} {T : Nat → Int32} {f : Int32} {l : List Int32} {D bd : Nat} {p : Int32} {M : am_M} (hy : av_y D M σ L H P q n T f l) (hok : av_ok bd σ L) : (am_lt p L.length = false → ∃ M', am_val iX13_soundLine 0 [some (.ref (am_c D 13)), some (.int p)] [] M = some (.inl (some (.int 0)), M', 0, 0) ∧ M'.1 (am_c D 13) 0 = 1 ∧ av_ys D M M') ∧ (am_lt p L.length = true → ∃ M', am_val iX13_soundLine 0 [some (.ref (am_c D 13)), some (.int p)] [] M = some (.inl (some (.int (nI (tl_s (av_s L (av_ix p))).length))), M', 0, 0) ∧ av_lz D M M' ∧ M'.1 (am_c D 13) 0 = 0 ∧ av_y D M' σ L H P q n T f (tl_s (av_s L (av_ix p)))) := by
  have hl8 := hok.2.2.2.2.2.2.2
  have z0 := mc_isSound (x := p) hy.1.1 hy.1.2.2.1 (by omega)
  refine ⟨fun hp => ?_, fun hp => ?_⟩
  · rw [hp] at z0
    refine ⟨av_i M (am_c D 13) 0 1, ?_, av_jS, av_ys_i (Or.inl rfl)⟩
    simp only [ae_X13_soundLine_0, ae_X13_soundLine_6, ae_X13_soundLine_9, ae_X13_soundLine_13, ae_X13_soundLine_24, ae_X13_soundLine_26, ae_X13_soundLine_38, ae_X13_soundLine_41, ae_X13_soundLine_48, ae_X13_soundLine_52, ae_X13_soundLine_57, ae_X13_soundLine_62, ae_X13_soundLine_69, ae_X13_soundLine_72, ae_X13_soundLine_81, ae_X13_soundLine_85, ae_X13_soundLine_91, ae_X13_soundLine_94, ae_X13_soundLine_100, am_bnx_v, am_bnx_e, am_tl_s, am_tl_n, am_rv_s, am_add_rx, z0, am_bi_f, not_true_eq_false, not_false_eq_true, if_true, if_false, am_1n0, or_true, true_or, eq_self, Bool.true_eq_false, Bool.false_eq_true, cond_true, cond_false, av_jS, am_l1]
  · rw [hp] at z0
    obtain ⟨k, hk, rfl⟩ := am_lt_n (by omega) hp
    rw [av_ix_n (by omega)]
    obtain ⟨⟨a, ha, s0⟩, ⟨v, t, hv, hvt, s1, s3⟩, ⟨b, hb, s2⟩, s4⟩ := hok.2.2.2.2.1 k hk
    obtain ⟨M1, hM1⟩ : ∃ M1, M1 = av_i (av_i M (am_c D 13) 0 0) (am_c D 13) 11 0 := ⟨_, rfl⟩
    have g1 : av_lz D M M1 := by rw [hM1]; exact av_lz_t (av_lz_i (Or.inl rfl)) (av_lz_i (Or.inr rfl))
    have x1 : av_y6 D M1 [] := by rw [hM1]; exact ml_0
    have t1 : M1.1 (am_c D 13) 0 = 0 := by rw [hM1, av_jK (by decide), av_jS]
    have F : ∀ X, av_lm D M1 X → av_y0 D X σ L ∧ am_val iX13_ofSound 0 [some (.ref (am_c D 13)), some (.int (nI k)), some (.int 0)] [] X = some (.inl (some (.int (nI a))), X, 0, 0) ∧ am_val iX13_ofSound 0 [some (.ref (am_c D 13)), some (.int (nI k)), some (.int 1)] [] X = some (.inl (some (.int (nI v))), X, 0, 0) ∧ am_val iX13_ofSound 0 [some (.ref (am_c D 13)), some (.int (nI k)), some (.int 2)] [] X = some (.inl (some (.int (nI b))), X, 0, 0) ∧ am_val iX13_ofSound 0 [some (.ref (am_c D 13)), some (.int (nI k)), some (.int 3)] [] X = some (.inl (some (.int (nI t))), X, 0, 0) ∧ am_val iX13_ofSound 0 [some (.ref (am_c D 13)), some (.int (nI k)), some (.int 4)] [] X = some (.inl (some (.int (av_s L k 4))), X, 0, 0) := fun X g => by
      have y0 : av_y0 D X σ L := av_lm_y g (av_y_lz hy g1 x1).1
      obtain ⟨r0, r1, r2, r3, r4⟩ := av_mr_s y0.2 hk
      refine ⟨y0, ?_, ?_, ?_, ?_, ?_⟩
      · rw [mc_s0 y0.1 (by omega), r0, s0]
      · rw [mc_s1 y0.1 (by omega), r1, s1]
      · rw [mc_s2 y0.1 (by omega), r2, s2]
      · rw [mc_s3 y0.1 (by omega), r3, s3]
      · rw [mc_s4 y0.1 (by omega), r4]
    obtain ⟨y1, o1, -⟩ := F M1 av_lm_0
    obtain ⟨M2, e2, x2, g2⟩ := ml_num y1.1 x1 (k := a) (by omega) (by decide)
    have l2 := tl_d_l (x := nI a)
    obtain ⟨y2, -, -, -, -, o2⟩ := F M2 g2
    obtain ⟨M3, e3, x3, g3⟩ := ml_put (x := if av_s L k 4 = 0 then 60 else 62) y2.1 x2 (by rw [List.nil_append]; omega)
    have G3 := av_lm_t g2 g3
    have l3 := tl_d_l (x := nI v)
    obtain ⟨y3, -, o3, -⟩ := F M3 G3
    obtain ⟨M4, e4, x4, g4⟩ := ml_num y3.1 x3 (k := v) (by omega) (by rw [tl_gl, List.nil_append]; omega)
    have G4 := av_lm_t G3 g4
    obtain ⟨y4, -, -, o4, -⟩ := F M4 G4
    obtain ⟨M5, e5, x5, g5⟩ := ml_put (x := 97 + nI b) y4.1 x4 (by rw [List.length_append, tl_gl, List.nil_append]; omega)
    have G5 := av_lm_t G4 g5
    obtain ⟨y5, -, -, -, o5, -⟩ := F M5 G5
    have l5 : (((([] ++ tl_d (nI a)) ++ [if av_s L k 4 = 0 then 60 else 62]) ++ tl_d (nI v)) ++ [97 + nI b]).length ≤ 6 := by
      rw [tl_gl, List.length_append, tl_gl, List.nil_append]
      omega
    have hs : tl_s (av_s L k) = (((([] ++ tl_d (nI a)) ++ [if av_s L k 4 = 0 then 60 else 62]) ++ tl_d (nI v)) ++ [97 + nI b]) ++ (if 0 < nI t then [33] else []) := by
      unfold tl_s
      rw [s0, s1, s2, s3]
      rfl
    rw [hs]
    have z : ∀ X, av_lm D M1 X → X.1 (am_c D 13) 0 = 0 := fun X g => (g.2 D 13 0 (by decide) (by omega) (by omega)).trans t1
    by_cases ht : 0 < nI t
    · have ht' : ¬ nI t ≤ 0 := by rw [am_nle]; exact ht
      rw [if_pos ht]
      obtain ⟨M6, e6, x6, g6⟩ := ml_put (x := 33) y5.1 x5 (by omega)
      have G6 := av_lm_t G5 g6
      have n6 := x6.2.1
      refine ⟨M6, ?_, av_lz_t g1 (av_lz_m G6), z _ G6, av_y_lz hy (av_lz_t g1 (av_lz_m G6)) x6⟩
      rw [← n6]
      rcases s4 with h | h
      · rw [h, if_pos rfl] at e3
        rw [h] at o2
        simp only [ae_X13_soundLine_0, ae_X13_soundLine_6, ae_X13_soundLine_9, ae_X13_soundLine_13, ae_X13_soundLine_24, ae_X13_soundLine_26, ae_X13_soundLine_38, ae_X13_soundLine_41, ae_X13_soundLine_48, ae_X13_soundLine_52, ae_X13_soundLine_57, ae_X13_soundLine_62, ae_X13_soundLine_69, ae_X13_soundLine_72, ae_X13_soundLine_81, ae_X13_soundLine_85, ae_X13_soundLine_91, ae_X13_soundLine_94, ae_X13_soundLine_100, am_bnx_v, am_bnx_e, am_tl_s, am_tl_n, am_rv_s, am_add_rx, z0, am_bi_t, not_true_eq_false, not_false_eq_true, if_true, if_false, am_1n0, or_true, true_or, eq_self, Bool.true_eq_false, Bool.false_eq_true, cond_true, cond_false, av_jS, am_l0, ← hM1, o1, e2, o2, am_0n1, e3, o3, e4, o4, e5, o5, ht', e6]
      · rw [h, if_neg (show ¬ (1 : Int32) = 0 by decide)] at e3
        rw [h] at o2
        simp only [ae_X13_soundLine_0, ae_X13_soundLine_6, ae_X13_soundLine_9, ae_X13_soundLine_13, ae_X13_soundLine_24, ae_X13_soundLine_26, ae_X13_soundLine_38, ae_X13_soundLine_41, ae_X13_soundLine_48, ae_X13_soundLine_52, ae_X13_soundLine_57, ae_X13_soundLine_62, ae_X13_soundLine_69, ae_X13_soundLine_72, ae_X13_soundLine_81, ae_X13_soundLine_85, ae_X13_soundLine_91, ae_X13_soundLine_94, ae_X13_soundLine_100, am_bnx_v, am_bnx_e, am_tl_s, am_tl_n, am_rv_s, am_add_rx, z0, am_bi_t, not_true_eq_false, not_false_eq_true, if_true, if_false, am_1n0, or_true, true_or, eq_self, Bool.true_eq_false, Bool.false_eq_true, cond_true, cond_false, av_jS, am_l0, ← hM1, o1, e2, o2, e3, o3, e4, o4, e5, o5, ht', e6]
    · have ht' : nI t ≤ 0 := by rw [am_nlt] at ht; exact ht
      rw [if_neg ht, List.append_nil]
      have n5 := x5.2.1
      refine ⟨M5, ?_, av_lz_t g1 (av_lz_m G5), z _ G5, av_y_lz hy (av_lz_t g1 (av_lz_m G5)) x5⟩
      rw [← n5]
      rcases s4 with h | h
      · rw [h, if_pos rfl] at e3
        rw [h] at o2
        simp only [ae_X13_soundLine_0, ae_X13_soundLine_6, ae_X13_soundLine_9, ae_X13_soundLine_13, ae_X13_soundLine_24, ae_X13_soundLine_26, ae_X13_soundLine_38, ae_X13_soundLine_41, ae_X13_soundLine_48, ae_X13_soundLine_52, ae_X13_soundLine_57, ae_X13_soundLine_62, ae_X13_soundLine_69, ae_X13_soundLine_72, ae_X13_soundLine_81, ae_X13_soundLine_85, ae_X13_soundLine_91, ae_X13_soundLine_94, ae_X13_soundLine_100, am_bnx_v, am_bnx_e, am_tl_s, am_tl_n, am_rv_s, am_add_rx, z0, am_bi_t, not_true_eq_false, not_false_eq_true, if_true, if_false, am_1n0, or_true, true_or, eq_self, Bool.true_eq_false, Bool.false_eq_true, cond_true, cond_false, av_jS, am_l0, ← hM1, o1, e2, o2, am_0n1, e3, o3, e4, o4, e5, o5, ht']
      · rw [h, if_neg (show ¬ (1 : Int32) = 0 by decide)] at e3
        rw [h] at o2
        simp only [ae_X13_soundLine_0, ae_X13_soundLine_6, ae_X13_soundLine_9, ae_X13_soundLine_13, ae_X13_soundLine_24, ae_X13_soundLine_26, ae_X13_soundLine_38, ae_X13_soundLine_41, ae_X13_soundLine_48, ae_X13_soundLine_52, ae_X13_soundLine_57, ae_X13_soundLine_62, ae_X13_soundLine_69, ae_X13_soundLine_72, ae_X13_soundLine_81, ae_X13_soundLine_85, ae_X13_soundLine_91, ae_X13_soundLine_94, ae_X13_soundLine_100, am_bnx_v, am_bnx_e, am_tl_s, am_tl_n, am_rv_s, am_add_rx, z0, am_bi_t, not_true_eq_false, not_false_eq_true, if_true, if_false, am_1n0, or_true, true_or, eq_self, Bool.true_eq_false, Bool.false_eq_true, cond_true, cond_false, av_jS, am_l0, ← hM1, o1, e2, o2, e3, o3, e4, o4, e5, o5, ht']
theorem op_soundLine {a : Int32} {bd Lx : Nat} {xs : Nat → Int32} {M : am_M} (hI : av_I bd Lx xs M) : av_OP bd Lx xs (am_val iL_soundLine 0 [some (.ref (am_c 0 12)), some (.int a), some (.ref (am_c 282 27)), none] [] M) (fun M1 => am_val iX13_soundLine 0 [some (.ref (am_c 274 13)), some (.int a)] [] M1) := by
  obtain ⟨⟨σ, L, H, P, q, n, T, f, l, hx, hy, hS⟩, hs⟩ := hI
  cases hp : am_lt a L.length with
  | false =>
    have e := (ac_soundLine (p := a) hx hS.1).1 hp
    obtain ⟨M2, e2, t, s2⟩ := (mc_soundLine (p := a) hy hS.1).1 hp
    exact av_op_e hs (al_soundLine_e1 e) (by decide) av_fx_0 hx e2 (av_ys_fy (Nat.le_refl _) s2) t (av_y_s hy s2) hS
  | true =>
    obtain ⟨M1, e, fx, x1⟩ := (ac_soundLine (p := a) hx hS.1).2 hp
    obtain ⟨M2, e2, g, t, y2⟩ := (mc_soundLine (p := a) (av_y_l (a := am_c 282 27) (j := 0) (x := (nI (tl_s (av_s L (av_ix a))).length).toInt64) (av_y_fx hy fx)) hS.1).2 hp
    exact av_op_v hs (al_soundLine_v e) fx x1 e2 (av_lz_fy (Nat.le_refl _) g) t y2 hS
