/-! the second implementation: what is caught -/
theorem mc_isEchoAt {D k : Nat} {p : Int32} {σ : Nat → Int32} {L : List (Nat → Int32)} {M : am_M} (hm : av_msh M.2.1 D) (hr : av_mr (M.1 (am_c (D + 1) 18)) σ L) (hk : k < L.length) (hl : L.length ≤ 8) (hpos : ¬ av_s L k 1 ≤ 0) : am_val iX13_isEchoAt 0 [some (.ref (am_c D 13)), some (.int (nI k)), some (.int p)] [] M = some (.inl (some (.int (am_bi (av_ec (av_s L k) p)))), M, 0, 0) := by
  have hs := av_mr_s hr hk
  have e3 := mc_s3 (k := k) hm (by omega)
  rw [hs.2.2.2.1] at e3
  have e0 := mc_s0 (k := k) hm (by omega)
  rw [hs.1] at e0
  have h1 : ¬ av_s L k 1 = 0 := fun h => hpos (by rw [h]; decide)
  unfold av_ec
  rw [decide_eq_false h1]
  by_cases a : av_s L k 3 ≤ 0
  · have a' : ¬ 0 < av_s L k 3 := by rw [am_nlt]; exact a
    rw [decide_eq_false a']
    simp only [ae_X13_isEchoAt_0, ae_X13_isEchoAt_6, ae_X13_isEchoAt_9, ae_X13_isEchoAt_15, ae_X13_isEchoAt_19, ae_X13_isEchoAt_23, am_bnx_v, am_bnx_e, am_tl_s, am_tl_n, am_rv_s, am_add_rx, e3, a, not_true_eq_false, not_false_eq_true, if_true, if_false, am_1n0, or_true, true_or, eq_self, Bool.true_eq_false, Bool.false_eq_true, cond_true, cond_false]
    rfl
  · have a' : 0 < av_s L k 3 := by rw [am_nle] at a; exact a
    rw [decide_eq_true a']
    by_cases b : av_s L k 0 = p
    · rw [decide_eq_true b]
      simp only [ae_X13_isEchoAt_0, ae_X13_isEchoAt_6, ae_X13_isEchoAt_9, ae_X13_isEchoAt_15, ae_X13_isEchoAt_19, ae_X13_isEchoAt_23, am_bnx_v, am_bnx_e, am_tl_s, am_tl_n, am_rv_s, am_add_rx, e3, a, e0, b, not_true_eq_false, not_false_eq_true, if_true, if_false, am_1n0, or_true, true_or, eq_self, Bool.true_eq_false, Bool.false_eq_true, cond_true, cond_false]
      rfl
    · rw [decide_eq_false b]
      simp only [ae_X13_isEchoAt_0, ae_X13_isEchoAt_6, ae_X13_isEchoAt_9, ae_X13_isEchoAt_15, ae_X13_isEchoAt_19, ae_X13_isEchoAt_23, am_bnx_v, am_bnx_e, am_tl_s, am_tl_n, am_rv_s, am_add_rx, e3, a, e0, b, not_true_eq_false, not_false_eq_true, if_true, if_false, am_1n0, or_true, true_or, eq_self, Bool.true_eq_false, Bool.false_eq_true, cond_true, cond_false]
      rfl
def av_bi (q : Option Nat) : Int32 := match q with
  | none => -1
  | some b => nI b
theorem mc_catches {D bd : Nat} {σ : Nat → Int32} {L : List (Nat → Int32)} {x : Int32} {M : am_M} (hM : av_MD D M σ L) (hok : av_ok bd σ L) : ∃ M' code, am_val iX13_catches 0 [some (.ref (am_c D 13)), some (.int x), none, none, none, none, none] [] M = some (.inl (some (.int code)), M', 0, 0) ∧ av_MO D M M' code (av_q6 σ L x) (av_pts σ (av_ix x) (av_s L (av_bst σ L (av_ix x)))) (av_o6 σ (av_ix x) (av_ix (σ (50 + 5 * av_ix x))) (av_s L (av_bst σ L (av_ix x)))) (L.eraseIdx (av_bst σ L (av_ix x))) := by
  have hok0 := hok
  obtain ⟨hm, hr⟩ := hM
  obtain ⟨_, _, _, hpl, _, hn1, hn2, hl8⟩ := hok
  have s0 := (hr.1 0 (by decide) (by decide))
  have hp := mc_isPlayer (x := x) (n := av_np σ) hm (s0.trans hn2) (by omega)
  cases a : am_lt x (av_np σ) with
  | false =>
    refine ⟨_, _, ?_, av_MO_r (by unfold av_q6; rw [if_pos a])⟩
    simp only [ae_X13_catches_0, ae_X13_catches_5, ae_X13_catches_8, ae_X13_catches_14, ae_X13_catches_19, ae_X13_catches_20, ae_X13_catches_26, ae_X13_catches_38, ae_X13_catches_43, ae_X13_catches_50, ae_X13_catches_53, ae_X13_catches_58, ae_X13_catches_65, ae_X13_catches_71, ae_X13_catches_74, ae_X13_catches_77, ae_X13_catches_83, ae_X13_catches_88, ae_X13_catches_96, ae_X13_catches_99, ae_X13_catches_100, ae_X13_catches_106, ae_X13_catches_114, ae_X13_catches_119, ae_X13_catches_123, ae_X13_catches_131, ae_X13_catches_138, ae_X13_catches_142, ae_X13_catches_148, ae_X13_catches_154, ae_X13_catches_173, ae_X13_catches_191, ae_X13_catches_207, ae_X13_catches_211, ae_X13_catches_218, ae_X13_catches_235, ae_X13_catches_248, ae_X13_catches_254, am_bnx_v, am_bnx_e, am_tl_s, am_tl_n, am_rv_s, am_add_rx, hp, mc_refused, a, am_bi_f, not_true_eq_false, not_false_eq_true, if_true, if_false, am_1n0, or_true, true_or, eq_self, Bool.true_eq_false, Bool.false_eq_true, cond_true, cond_false, hm.1, s0]
  | true =>
    obtain ⟨k, hk, rfl⟩ := am_lt_n (by omega) a
    have hix : av_ix (nI k) = k := av_ix_n (by omega)
    have htn := am_tn (show k < 2147483648 by omega)
    obtain ⟨t, ht, hkt⟩ := (hpl k hk).1
    have hixt : av_ix (nI t) = t := av_ix_n (by omega)
    obtain ⟨p, hpp⟩ : ∃ p, p = σ (51 + 5 * k) := ⟨_, rfl⟩
    have e1 := mc_p1 (k := k) hm (by omega)
    rw [hr.1 _ (by omega) (by omega), ← hpp] at e1
    have e0 := mc_p0 (k := k) hm (by omega)
    rw [hr.1 _ (by omega) (by omega), hkt] at e0
    have hq : av_q6 σ L (nI k) = if am_it (av_es L p) L.length 0 = 0 then some (10, av_sa L p) else none := by
      unfold av_q6
      rw [if_neg (by rw [a]; decide), htn, ← hpp]
    have pos := av_ok_pos hok0
    have hl := av_lpr (H := fun q (y : Int32) _ => am_val iX13_catches 32 [some (.ref (am_c D 13)), some (.int (nI k)), some (.int p), some (.int y), some (.int (nI q)), none, none] [] M)
      (P := fun q y => y = av_bi (av_lb L p q)) (N := L.length)
      (Q := fun z => z = am_val iX13_catches 83 [some (.ref (am_c D 13)), some (.int (nI k)), some (.int p), some (.int (av_bi (av_lb L p L.length))), some (.int (nI L.length)), none, none] [] M)
      (fun y o hP => by
        rw [hP, ae_X13_catches_32, hm.1, am_rv_s, ae_X13_catches_38, hr.2.1, if_pos (av_he (by omega))])
      (fun q y o hq hP => by
        refine ⟨av_bi (av_lb L p (q + 1)), none, rfl, ?_⟩
        have he := mc_isEchoAt (p := p) hm hr hq hl8 (pos q hq)
        have es := mc_s1 (k := q) hm (by omega)
        rw [(av_mr_s hr hq).2.1] at es
        have hnl : ¬ nI L.length ≤ nI q := av_hl hq (by omega)
        rw [hP, ae_X13_catches_32, hm.1, am_rv_s]
        rw [av_lb]
        cases hb : av_lb L p q with
        | none =>
          cases hc : av_ec (av_s L q) p with
          | false => simp only [ae_X13_catches_0, ae_X13_catches_5, ae_X13_catches_8, ae_X13_catches_14, ae_X13_catches_19, ae_X13_catches_20, ae_X13_catches_26, ae_X13_catches_38, ae_X13_catches_43, ae_X13_catches_50, ae_X13_catches_53, ae_X13_catches_58, ae_X13_catches_65, ae_X13_catches_71, ae_X13_catches_74, ae_X13_catches_77, ae_X13_catches_83, ae_X13_catches_88, ae_X13_catches_96, ae_X13_catches_99, ae_X13_catches_100, ae_X13_catches_106, ae_X13_catches_114, ae_X13_catches_119, ae_X13_catches_123, ae_X13_catches_131, ae_X13_catches_138, ae_X13_catches_142, ae_X13_catches_148, ae_X13_catches_154, ae_X13_catches_173, ae_X13_catches_191, ae_X13_catches_207, ae_X13_catches_211, ae_X13_catches_218, ae_X13_catches_235, ae_X13_catches_248, ae_X13_catches_254, am_bnx_v, am_bnx_e, am_tl_s, am_tl_n, am_rv_s, am_add_rx, hr.2.1, hnl, he, hc, am_bi_f, not_true_eq_false, not_false_eq_true, if_true, if_false, am_1n0, or_true, true_or, eq_self, Bool.true_eq_false, Bool.false_eq_true, cond_true, cond_false, av_bi, nI_1]
          | true => simp only [ae_X13_catches_0, ae_X13_catches_5, ae_X13_catches_8, ae_X13_catches_14, ae_X13_catches_19, ae_X13_catches_20, ae_X13_catches_26, ae_X13_catches_38, ae_X13_catches_43, ae_X13_catches_50, ae_X13_catches_53, ae_X13_catches_58, ae_X13_catches_65, ae_X13_catches_71, ae_X13_catches_74, ae_X13_catches_77, ae_X13_catches_83, ae_X13_catches_88, ae_X13_catches_96, ae_X13_catches_99, ae_X13_catches_100, ae_X13_catches_106, ae_X13_catches_114, ae_X13_catches_119, ae_X13_catches_123, ae_X13_catches_131, ae_X13_catches_138, ae_X13_catches_142, ae_X13_catches_148, ae_X13_catches_154, ae_X13_catches_173, ae_X13_catches_191, ae_X13_catches_207, ae_X13_catches_211, ae_X13_catches_218, ae_X13_catches_235, ae_X13_catches_248, ae_X13_catches_254, am_bnx_v, am_bnx_e, am_tl_s, am_tl_n, am_rv_s, am_add_rx, hr.2.1, hnl, he, hc, am_bi_t, not_true_eq_false, not_false_eq_true, if_true, if_false, am_1n0, or_true, true_or, eq_self, Bool.true_eq_false, Bool.false_eq_true, cond_true, cond_false, av_bi, nI_1]
        | some b =>
          have hbq := (av_lb_in _ _ hb).1
          have eb := mc_s1 (k := b) hm (by omega)
          rw [(av_mr_s hr (by omega)).2.1] at eb
          have hb1 : ¬ nI b = -1 := fun h => by
            have hp0 := nI_pos' (show b < 2 ^ 31 by omega)
            rw [h] at hp0
            exact absurd hp0 (by decide)
          cases hc : av_ec (av_s L q) p with
          | false => simp only [ae_X13_catches_0, ae_X13_catches_5, ae_X13_catches_8, ae_X13_catches_14, ae_X13_catches_19, ae_X13_catches_20, ae_X13_catches_26, ae_X13_catches_38, ae_X13_catches_43, ae_X13_catches_50, ae_X13_catches_53, ae_X13_catches_58, ae_X13_catches_65, ae_X13_catches_71, ae_X13_catches_74, ae_X13_catches_77, ae_X13_catches_83, ae_X13_catches_88, ae_X13_catches_96, ae_X13_catches_99, ae_X13_catches_100, ae_X13_catches_106, ae_X13_catches_114, ae_X13_catches_119, ae_X13_catches_123, ae_X13_catches_131, ae_X13_catches_138, ae_X13_catches_142, ae_X13_catches_148, ae_X13_catches_154, ae_X13_catches_173, ae_X13_catches_191, ae_X13_catches_207, ae_X13_catches_211, ae_X13_catches_218, ae_X13_catches_235, ae_X13_catches_248, ae_X13_catches_254, am_bnx_v, am_bnx_e, am_tl_s, am_tl_n, am_rv_s, am_add_rx, hr.2.1, hnl, he, hc, am_bi_f, not_true_eq_false, not_false_eq_true, if_true, if_false, am_1n0, or_true, true_or, eq_self, Bool.true_eq_false, Bool.false_eq_true, cond_true, cond_false, Bool.false_and, av_bi, nI_1]
          | true =>
            by_cases hd : av_s L q 1 ≤ av_s L b 1
            · have hd' : ¬ av_s L b 1 < av_s L q 1 := by rw [am_nlt]; exact hd
              simp only [ae_X13_catches_0, ae_X13_catches_5, ae_X13_catches_8, ae_X13_catches_14, ae_X13_catches_19, ae_X13_catches_20, ae_X13_catches_26, ae_X13_catches_38, ae_X13_catches_43, ae_X13_catches_50, ae_X13_catches_53, ae_X13_catches_58, ae_X13_catches_65, ae_X13_catches_71, ae_X13_catches_74, ae_X13_catches_77, ae_X13_catches_83, ae_X13_catches_88, ae_X13_catches_96, ae_X13_catches_99, ae_X13_catches_100, ae_X13_catches_106, ae_X13_catches_114, ae_X13_catches_119, ae_X13_catches_123, ae_X13_catches_131, ae_X13_catches_138, ae_X13_catches_142, ae_X13_catches_148, ae_X13_catches_154, ae_X13_catches_173, ae_X13_catches_191, ae_X13_catches_207, ae_X13_catches_211, ae_X13_catches_218, ae_X13_catches_235, ae_X13_catches_248, ae_X13_catches_254, am_bnx_v, am_bnx_e, am_tl_s, am_tl_n, am_rv_s, am_add_rx, hr.2.1, hnl, he, hc, am_bi_t, not_true_eq_false, not_false_eq_true, if_true, if_false, am_1n0, or_true, true_or, eq_self, Bool.true_eq_false, Bool.false_eq_true, cond_true, cond_false, Bool.true_and, hb1, es, eb, hd, hd', decide_false, av_bi, nI_1]
            · have hd' : av_s L b 1 < av_s L q 1 := by rw [am_nle] at hd; exact hd
              simp only [ae_X13_catches_0, ae_X13_catches_5, ae_X13_catches_8, ae_X13_catches_14, ae_X13_catches_19, ae_X13_catches_20, ae_X13_catches_26, ae_X13_catches_38, ae_X13_catches_43, ae_X13_catches_50, ae_X13_catches_53, ae_X13_catches_58, ae_X13_catches_65, ae_X13_catches_71, ae_X13_catches_74, ae_X13_catches_77, ae_X13_catches_83, ae_X13_catches_88, ae_X13_catches_96, ae_X13_catches_99, ae_X13_catches_100, ae_X13_catches_106, ae_X13_catches_114, ae_X13_catches_119, ae_X13_catches_123, ae_X13_catches_131, ae_X13_catches_138, ae_X13_catches_142, ae_X13_catches_148, ae_X13_catches_154, ae_X13_catches_173, ae_X13_catches_191, ae_X13_catches_207, ae_X13_catches_211, ae_X13_catches_218, ae_X13_catches_235, ae_X13_catches_248, ae_X13_catches_254, am_bnx_v, am_bnx_e, am_tl_s, am_tl_n, am_rv_s, am_add_rx, hr.2.1, hnl, he, hc, am_bi_t, not_true_eq_false, not_false_eq_true, if_true, if_false, am_1n0, or_true, true_or, eq_self, Bool.true_eq_false, Bool.false_eq_true, cond_true, cond_false, Bool.true_and, hb1, es, eb, hd, hd', decide_true, av_bi, nI_1])
      L.length 0 (-1) none (by omega) rfl
    have hl : am_val iX13_catches 32 [some (.ref (am_c D 13)), some (.int (nI k)), some (.int p), some (.int ((-1))), some (.int (nI 0)), none, none] [] M = am_val iX13_catches 83 [some (.ref (am_c D 13)), some (.int (nI k)), some (.int p), some (.int (av_bi (av_lb L p L.length))), some (.int (nI L.length)), none, none] [] M := hl
    rw [nI_0] at hl
    cases hb : av_lb L p L.length with
    | none =>
      rw [hb] at hl
      have e3 : am_val iX13_soundsAt 0 [some (.ref (am_c D 13)), some (.int p), none, none] [] M = some (.inl (some (.int (av_sa L p))), M, 0, 0) := mc_soundsAt (t := p) hm hr hn1 hn2 hl8
      refine ⟨_, _, ?_, av_MO_r (by rw [hq, if_pos ((av_lb_es L.length hl8).mpr hb)])⟩
      simp only [ae_X13_catches_0, ae_X13_catches_5, ae_X13_catches_8, ae_X13_catches_14, ae_X13_catches_19, ae_X13_catches_20, ae_X13_catches_26, ae_X13_catches_38, ae_X13_catches_43, ae_X13_catches_50, ae_X13_catches_53, ae_X13_catches_58, ae_X13_catches_65, ae_X13_catches_71, ae_X13_catches_74, ae_X13_catches_77, ae_X13_catches_83, ae_X13_catches_88, ae_X13_catches_96, ae_X13_catches_99, ae_X13_catches_100, ae_X13_catches_106, ae_X13_catches_114, ae_X13_catches_119, ae_X13_catches_123, ae_X13_catches_131, ae_X13_catches_138, ae_X13_catches_142, ae_X13_catches_148, ae_X13_catches_154, ae_X13_catches_173, ae_X13_catches_191, ae_X13_catches_207, ae_X13_catches_211, ae_X13_catches_218, ae_X13_catches_235, ae_X13_catches_248, ae_X13_catches_254, am_bnx_v, am_bnx_e, am_tl_s, am_tl_n, am_rv_s, am_add_rx, hp, a, am_bi_t, not_true_eq_false, not_false_eq_true, if_true, if_false, am_1n0, or_true, true_or, eq_self, Bool.true_eq_false, Bool.false_eq_true, cond_true, cond_false, e1, hl, av_bi, e3, mc_refused]
    | some b =>
      rw [hb] at hl
      have hbn := (av_lb_in _ _ hb).1
      have hb1 : ¬ nI b = -1 := fun h => by
        have hp0 := nI_pos' (show b < 2 ^ 31 by omega)
        rw [h] at hp0
        exact absurd hp0 (by decide)
      have hq' : av_q6 σ L (nI k) = none := by
        rw [hq, if_neg (fun h => by rw [(av_lb_es L.length hl8).mp h] at hb; cases hb)]
      have hbst : av_bst σ L k = b := by unfold av_bst; rw [← hpp, hb]; rfl
      rw [hix, hbst, hkt, hixt]
      have hsb := av_mr_s hr hbn
      have eb1 := mc_s1 (k := b) hm (by omega)
      rw [hsb.2.1] at eb1
      have eb2 := mc_s2 (k := b) hm (by omega)
      rw [hsb.2.2.1] at eb2
      have rd := fun j (h1 : j < 80) (h2 : j ≠ 1) => hr.1 j h1 h2
      have y0 : nI (9 + 3 * t) + 0 = nI (9 + 3 * t) := Int32.add_zero _
      have y1 : nI (9 + 3 * t) + 1 = nI (10 + 3 * t) := by rw [nI_1]; congr 1; omega
      have y2 : nI (9 + 3 * t) + 2 = nI (11 + 3 * t) := by rw [av_xa (show (2 : Int32) = nI 2 from rfl)]; congr 1; omega
      have y4 : nI (50 + 5 * k) + 4 = nI (54 + 5 * k) := by rw [av_xa (show (4 : Int32) = nI 4 from rfl)]; congr 1; omega
      have i0 := am_in_n (show 9 + 3 * t < 120 by omega) (by decide)
      have t0 := am_tn (show 9 + 3 * t < 2147483648 by omega)
      have i1 := am_in_n (show 10 + 3 * t < 120 by omega) (by decide)
      have t1 := am_tn (show 10 + 3 * t < 2147483648 by omega)
      have i2 := am_in_n (show 11 + 3 * t < 120 by omega) (by decide)
      have t2 := am_tn (show 11 + 3 * t < 2147483648 by omega)
      have i4 := am_in_n (show 54 + 5 * k < 120 by omega) (by decide)
      have t4 := am_tn (show 54 + 5 * k < 2147483648 by omega)
      obtain ⟨w, hw⟩ : ∃ w, w = av_pts σ k (av_s L b) := ⟨_, rfl⟩
      obtain ⟨g, hg⟩ : ∃ g : Int32, g = if av_s L b 2 = nI t then 0 else 1 := ⟨_, rfl⟩
      obtain ⟨A1, hA1⟩ : ∃ A, A = av_i M (am_c (D + 1) 18) (9 + 3 * t) (σ (9 + 3 * t) + w) := ⟨_, rfl⟩
      obtain ⟨A2, hA2⟩ : ∃ A, A = av_i A1 (am_c (D + 1) 18) (10 + 3 * t) (σ (10 + 3 * t) + 1) := ⟨_, rfl⟩
      obtain ⟨A3, hA3⟩ : ∃ A, A = av_i A2 (am_c (D + 1) 18) (11 + 3 * t) (σ (11 + 3 * t) + g) := ⟨_, rfl⟩
      obtain ⟨A4, hA4⟩ : ∃ A, A = av_i A3 (am_c (D + 1) 18) (54 + 5 * k) (σ (54 + 5 * k) + 1) := ⟨_, rfl⟩
      obtain ⟨A5, hA5⟩ : ∃ A, A = av_i A4 (am_c (D + 1) 18) 6 (σ 6 + w) := ⟨_, rfl⟩
      have r0 := rd (9 + 3 * t) (by omega) (by omega)
      have r1 : A1.1 (am_c (D + 1) 18) (10 + 3 * t) = σ (10 + 3 * t) := by rw [hA1, av_is, av_up_n (by omega)]; exact rd _ (by omega) (by omega)
      have r2 : A2.1 (am_c (D + 1) 18) (11 + 3 * t) = σ (11 + 3 * t) := by rw [hA2, av_is, av_up_n (by omega), hA1, av_is, av_up_n (by omega)]; exact rd _ (by omega) (by omega)
      have r4 : A3.1 (am_c (D + 1) 18) (54 + 5 * k) = σ (54 + 5 * k) := by rw [hA3, av_is, av_up_n (by omega), hA2, av_is, av_up_n (by omega), hA1, av_is, av_up_n (by omega)]; exact rd _ (by omega) (by omega)
      have r6 : A4.1 (am_c (D + 1) 18) 6 = σ 6 := by rw [hA4, av_is, av_up_n (by omega), hA3, av_is, av_up_n (by omega), hA2, av_is, av_up_n (by omega), hA1, av_is, av_up_n (by omega)]; exact rd _ (by omega) (by omega)
      have m1 : A1.2.1 (am_c D 13) 1 = am_c (D + 1) 18 + 1 := by rw [hA1]; exact hm.1
      have m2 : A2.2.1 (am_c D 13) 1 = am_c (D + 1) 18 + 1 := by rw [hA2]; exact m1
      have m3 : A3.2.1 (am_c D 13) 1 = am_c (D + 1) 18 + 1 := by rw [hA3]; exact m2
      have m4 : A4.2.1 (am_c D 13) 1 = am_c (D + 1) 18 + 1 := by rw [hA4]; exact m3
      have f5 : av_fm D M A5 := by
        rw [hA5, hA4, hA3, hA2, hA1]
        exact av_fm_t av_fm_s (av_fm_t av_fm_s (av_fm_t av_fm_s (av_fm_t av_fm_s av_fm_s)))
      have mr5 : av_mr (A5.1 (am_c (D + 1) 18)) (av_o6 σ k t (av_s L b)) L := by
        rw [hA5, hA4, hA3, hA2, hA1]
        simp only [av_is]
        refine av_mr_c (av_mr_up (av_mr_up (av_mr_up (av_mr_up (av_mr_up hr (by omega) (by omega)) (by omega) (by omega)) (by omega) (by omega)) (by omega) (by omega)) (by decide) (by decide)) ?_
        intro j hj _
        unfold av_o6 av_o6b av_o6a
        rw [← hw]
        by_cases j6 : j = 6
        · rw [j6, av_up_s, av_up_s]
        · rw [av_up_n j6, av_up_n j6]
          by_cases j9 : j = 9 + 3 * t
          · rw [j9, av_up_n (by omega), av_up_n (by omega), av_up_n (by omega), av_up_s, av_up_s]
          · by_cases j54 : j = 54 + 5 * k
            · rw [j54, av_up_s, av_up_n (by omega)]
              by_cases hh : av_s L b 2 = σ (50 + 5 * k)
              · rw [if_pos hh, av_up_n (by omega), av_up_s]
              · rw [if_neg hh, av_up_n (by omega), av_up_n (by omega), av_up_s]
            · rw [av_up_n j54, av_up_n (σ := ite _ _ _) j9]
              by_cases j11 : j = 11 + 3 * t
              · rw [j11, av_up_s, hg, ← hkt]
                by_cases hh : av_s L b 2 = σ (50 + 5 * k)
                · rw [if_pos hh, if_pos hh, av_up_n (by omega), av_up_n (by omega), Int32.add_zero]
                · rw [if_neg hh, if_neg hh, av_up_s]
              · rw [av_up_n j11]
                by_cases hh : av_s L b 2 = σ (50 + 5 * k)
                · rw [if_pos hh]
                  by_cases j10 : j = 10 + 3 * t
                  · rw [j10, av_up_s, av_up_s]
                  · rw [av_up_n j10, av_up_n j10, av_up_n j9, av_up_n j54]
                · rw [if_neg hh, av_up_n (σ := av_up (av_up σ _ _) _ _) j11]
                  by_cases j10 : j = 10 + 3 * t
                  · rw [j10, av_up_s, av_up_s]
                  · rw [av_up_n j10, av_up_n j10, av_up_n j9, av_up_n j54]
      obtain ⟨X, eX, mrX, fX⟩ := mc_goes (k := b) (by rw [f5.1]; exact hm) mr5 hbn hl8
      refine ⟨_, _, ?_, av_MO_d hq' (av_fm_t f5 (av_fS_fm fX)) mrX⟩
      rw [← hw]
      by_cases hh : av_s L b 2 = nI t
      · rw [if_pos hh] at hg
        have hw' : av_s L b 1 = w := by rw [hw]; unfold av_pts; rw [hkt, if_pos hh]
        rw [hg] at hA3
        simp only [ae_X13_catches_0, ae_X13_catches_5, ae_X13_catches_8, ae_X13_catches_14, ae_X13_catches_19, ae_X13_catches_20, ae_X13_catches_26, ae_X13_catches_38, ae_X13_catches_43, ae_X13_catches_50, ae_X13_catches_53, ae_X13_catches_58, ae_X13_catches_65, ae_X13_catches_71, ae_X13_catches_74, ae_X13_catches_77, ae_X13_catches_83, ae_X13_catches_88, ae_X13_catches_96, ae_X13_catches_99, ae_X13_catches_100, ae_X13_catches_106, ae_X13_catches_114, ae_X13_catches_119, ae_X13_catches_123, ae_X13_catches_131, ae_X13_catches_138, ae_X13_catches_142, ae_X13_catches_148, ae_X13_catches_154, ae_X13_catches_173, ae_X13_catches_191, ae_X13_catches_207, ae_X13_catches_211, ae_X13_catches_218, ae_X13_catches_235, ae_X13_catches_248, ae_X13_catches_254, am_bnx_v, am_bnx_e, am_tl_s, am_tl_n, am_rv_s, am_add_rx, hp, a, am_bi_t, not_true_eq_false, not_false_eq_true, if_true, if_false, am_1n0, or_true, true_or, eq_self, Bool.true_eq_false, Bool.false_eq_true, cond_true, cond_false, e1, hl, av_bi, hb1, e0, eb2, hh, eb1, hw', hm.1, av_x9, y0, i0, t0, r0, av_i2, ← hA1, m1, y1, i1, t1, r1, ← hA2, m2, y2, i2, t2, r2, ← hA3, m3, av_x50, y4, i4, t4, r4, ← hA4, m4, r6, ← hA5, eX, mc_done]
      · rw [if_neg hh] at hg
        have hw' : 2 * av_s L b 1 = w := by rw [hw]; unfold av_pts; rw [hkt, if_neg hh]
        rw [hg] at hA3
        simp only [ae_X13_catches_0, ae_X13_catches_5, ae_X13_catches_8, ae_X13_catches_14, ae_X13_catches_19, ae_X13_catches_20, ae_X13_catches_26, ae_X13_catches_38, ae_X13_catches_43, ae_X13_catches_50, ae_X13_catches_53, ae_X13_catches_58, ae_X13_catches_65, ae_X13_catches_71, ae_X13_catches_74, ae_X13_catches_77, ae_X13_catches_83, ae_X13_catches_88, ae_X13_catches_96, ae_X13_catches_99, ae_X13_catches_100, ae_X13_catches_106, ae_X13_catches_114, ae_X13_catches_119, ae_X13_catches_123, ae_X13_catches_131, ae_X13_catches_138, ae_X13_catches_142, ae_X13_catches_148, ae_X13_catches_154, ae_X13_catches_173, ae_X13_catches_191, ae_X13_catches_207, ae_X13_catches_211, ae_X13_catches_218, ae_X13_catches_235, ae_X13_catches_248, ae_X13_catches_254, am_bnx_v, am_bnx_e, am_tl_s, am_tl_n, am_rv_s, am_add_rx, hp, a, am_bi_t, not_true_eq_false, not_false_eq_true, if_true, if_false, am_1n0, or_true, true_or, eq_self, Bool.true_eq_false, Bool.false_eq_true, cond_true, cond_false, e1, hl, av_bi, hb1, e0, eb2, hh, eb1, hw', hm.1, av_x9, y0, i0, t0, r0, av_i2, ← hA1, m1, y1, i1, t1, r1, ← hA2, m2, y2, i2, t2, r2, ← hA3, m3, av_x50, y4, i4, t4, r4, ← hA4, m4, r6, ← hA5, eX, mc_done]
