/-! the second implementation: players come, shouts -/
theorem av_mr_c {s σ σ' : Nat → Int32} {L : List (Nat → Int32)} (h : av_mr s σ L) (he : ∀ j, j < 80 → j ≠ 1 → σ j = σ' j) : av_mr s σ' L :=
  ⟨fun j h1 h2 => (h.1 j h1 h2).trans (he j h1 h2), h.2.1, h.2.2⟩
theorem mc_comesTo {D bd : Nat} {σ : Nat → Int32} {L : List (Nat → Int32)} {x y : Int32} {M : am_M} (hM : av_MD D M σ L) (hok : av_ok bd σ L) : ∃ M' code, am_val iX13_comesTo 0 [some (.ref (am_c D 13)), some (.int x), some (.int y), none, none] [] M = some (.inl (some (.int code)), M', 0, 0) ∧ av_MO D M M' code (av_q2 σ x y) (σ 0) (av_o2 σ x y) L := by
  obtain ⟨hm, hr⟩ := hM
  obtain ⟨hw, hpt, _, hpl, _, hn1, hn2, hl8⟩ := hok
  cases a : am_tm x with
  | false =>
    refine ⟨_, _, ?_, av_MO_r (by unfold av_q2; rw [if_pos a])⟩
    simp only [ae_X13_comesTo_0, ae_X13_comesTo_4, ae_X13_comesTo_7, ae_X13_comesTo_11, ae_X13_comesTo_14, ae_X13_comesTo_20, ae_X13_comesTo_21, ae_X13_comesTo_25, ae_X13_comesTo_34, ae_X13_comesTo_41, ae_X13_comesTo_42, ae_X13_comesTo_47, ae_X13_comesTo_50, ae_X13_comesTo_57, ae_X13_comesTo_60, ae_X13_comesTo_61, ae_X13_comesTo_70, ae_X13_comesTo_74, ae_X13_comesTo_91, ae_X13_comesTo_95, ae_X13_comesTo_109, ae_X13_comesTo_123, ae_X13_comesTo_133, am_bnx_v, am_bnx_e, am_tl_s, am_tl_n, am_rv_s, am_add_rx, mc_isTeam, mc_refused, a, am_bi_f, not_true_eq_false, not_false_eq_true, if_true, if_false, am_1n0, or_true, true_or, eq_self, Bool.true_eq_false, Bool.false_eq_true, cond_true, cond_false]
  | true =>
    cases b : am_pl y with
    | false =>
      refine ⟨_, _, ?_, av_MO_r (by unfold av_q2; rw [if_neg (by rw [a]; decide), if_pos b])⟩
      simp only [ae_X13_comesTo_0, ae_X13_comesTo_4, ae_X13_comesTo_7, ae_X13_comesTo_11, ae_X13_comesTo_14, ae_X13_comesTo_20, ae_X13_comesTo_21, ae_X13_comesTo_25, ae_X13_comesTo_34, ae_X13_comesTo_41, ae_X13_comesTo_42, ae_X13_comesTo_47, ae_X13_comesTo_50, ae_X13_comesTo_57, ae_X13_comesTo_60, ae_X13_comesTo_61, ae_X13_comesTo_70, ae_X13_comesTo_74, ae_X13_comesTo_91, ae_X13_comesTo_95, ae_X13_comesTo_109, ae_X13_comesTo_123, ae_X13_comesTo_133, am_bnx_v, am_bnx_e, am_tl_s, am_tl_n, am_rv_s, am_add_rx, mc_isTeam, mc_isPlace, mc_refused, a, b, am_bi_f, am_bi_t, not_true_eq_false, not_false_eq_true, if_true, if_false, am_1n0, or_true, true_or, eq_self, Bool.true_eq_false, Bool.false_eq_true, cond_true, cond_false]
    | true =>
      have hq : av_q2 σ x y = if σ 0 < 6 then (if decide (0 < av_hf σ y) = false then none else some (4, av_hf σ y)) else some (2, 6) := by
        unfold av_q2
        rw [if_neg (by rw [a]; decide), if_neg (by rw [b]; decide)]
      obtain ⟨p, hp, rfl⟩ := am_pl_n b
      obtain ⟨h, hh9, hhe, -⟩ := hw p hp
      obtain ⟨z1, z2⟩ := av_h0 h (by omega)
      have e1 := mc_height hm hp
      rw [hr.1 _ (by omega) (by omega), hhe] at e1
      rw [av_hf_n hp, hhe] at hq
      have s0 := (hr.1 0 (by decide) (by decide)).trans hn2
      obtain ⟨n, hn⟩ : ∃ n, n = av_np σ := ⟨_, rfl⟩
      rw [← hn] at s0 hn1 hn2
      by_cases c : n = 6
      · have c1 : nI n = 6 := by rw [c]; rfl
        have c2 : ¬ σ 0 < 6 := by rw [hn2, c1]; decide
        refine ⟨_, _, ?_, av_MO_r (by rw [hq, if_neg c2])⟩
        simp only [ae_X13_comesTo_0, ae_X13_comesTo_4, ae_X13_comesTo_7, ae_X13_comesTo_11, ae_X13_comesTo_14, ae_X13_comesTo_20, ae_X13_comesTo_21, ae_X13_comesTo_25, ae_X13_comesTo_34, ae_X13_comesTo_41, ae_X13_comesTo_42, ae_X13_comesTo_47, ae_X13_comesTo_50, ae_X13_comesTo_57, ae_X13_comesTo_60, ae_X13_comesTo_61, ae_X13_comesTo_70, ae_X13_comesTo_74, ae_X13_comesTo_91, ae_X13_comesTo_95, ae_X13_comesTo_109, ae_X13_comesTo_123, ae_X13_comesTo_133, am_bnx_v, am_bnx_e, am_tl_s, am_tl_n, am_rv_s, am_add_rx, mc_isTeam, mc_isPlace, mc_refused, a, b, am_bi_t, not_true_eq_false, not_false_eq_true, if_true, if_false, am_1n0, or_true, true_or, eq_self, Bool.true_eq_false, Bool.false_eq_true, cond_true, cond_false, hm.1, s0, c1]
      · have c1 : ¬ nI n = 6 := fun hc => c ((nI_eq (b := 6) (by omega) (by decide)).mp hc)
        have c2 : σ 0 < 6 := by rw [hn2]; exact nI_lt (b := 6) (by omega) (by decide)
        by_cases ch : nI h ≤ 0
        · have hq' : av_q2 σ x (nI p) = none := by rw [hq, if_pos c2, if_pos (z1.mpr ch)]
          have key := av_lpr (H := fun k (X : am_M) _ => am_val iX13_comesTo 64 [some (.ref (am_c D 13)), some (.int x), some (.int (nI p)), some (.int (nI n)), some (.int (nI k))] [] X)
            (P := fun k X => av_fm D M X ∧ av_mr (X.1 (am_c (D + 1) 18)) (am_it (fun q τ => av_up τ (50 + 5 * n + q) 0) k σ) L) (N := 5)
            (Q := fun t => ∃ X, t = some (.inl (some (.int 0)), av_i X (am_c D 13) 17 (nI n), 0, 0) ∧ av_fm D M X ∧ av_mr (X.1 (am_c (D + 1) 18)) (av_o2 σ x (nI p)) L)
            (fun X o hP => by
              obtain ⟨g1, g2⟩ := hP
              have m1 : X.2.1 (am_c D 13) 1 = am_c (D + 1) 18 + 1 := by rw [g1.1]; exact hm.1
              have y0 : nI (50 + 5 * n) + 0 = nI (50 + 5 * n + 0) := by rw [Int32.add_zero]; rfl
              have y1 : nI (50 + 5 * n) + 1 = nI (50 + 5 * n + 1) := by rw [nI_1]
              have i0 := am_in_n (show 50 + 5 * n + 0 < 120 by omega) (by decide)
              have t0 := am_tn (show 50 + 5 * n + 0 < 2147483648 by omega)
              have i1 := am_in_n (show 50 + 5 * n + 1 < 120 by omega) (by decide)
              have t1 := am_tn (show 50 + 5 * n + 1 < 2147483648 by omega)
              refine ⟨av_i (av_i (av_i X (am_c (D + 1) 18) (50 + 5 * n + 0) x) (am_c (D + 1) 18) (50 + 5 * n + 1) (nI p)) (am_c (D + 1) 18) 0 (nI (n + 1)), ?_, av_fm_t g1 (av_fm_t av_fm_s (av_fm_t av_fm_s av_fm_s)), ?_⟩
              · rw [ae_X13_comesTo_64, if_pos (show (5 : Int32) ≤ nI 5 by decide)]
                simp only [ae_X13_comesTo_0, ae_X13_comesTo_4, ae_X13_comesTo_7, ae_X13_comesTo_11, ae_X13_comesTo_14, ae_X13_comesTo_20, ae_X13_comesTo_21, ae_X13_comesTo_25, ae_X13_comesTo_34, ae_X13_comesTo_41, ae_X13_comesTo_42, ae_X13_comesTo_47, ae_X13_comesTo_50, ae_X13_comesTo_57, ae_X13_comesTo_60, ae_X13_comesTo_61, ae_X13_comesTo_70, ae_X13_comesTo_74, ae_X13_comesTo_91, ae_X13_comesTo_95, ae_X13_comesTo_109, ae_X13_comesTo_123, ae_X13_comesTo_133, am_bnx_v, am_bnx_e, am_tl_s, am_tl_n, am_rv_s, am_add_rx, mc_done, m1, av_i2, av_x50, y0, i0, t0, y1, i1, t1, nI_1]
              · rw [av_is, av_is, av_is]
                refine av_mr_c (av_mr_up (av_mr_up (av_mr_up g2 (by omega) (by omega)) (by omega) (by omega)) (by decide) (by decide)) ?_
                intro j hj _
                unfold av_o2
                rw [← hn]
                simp only [am_it]
                by_cases j0 : j = 0
                · rw [j0, av_up_s, av_up_s]
                · rw [av_up_n j0, av_up_n (σ := av_up _ _ _) j0]
                  by_cases jr : 50 + 5 * n ≤ j ∧ j < 55 + 5 * n
                  · obtain ⟨w, hw, rfl⟩ : ∃ w, w < 5 ∧ j = 50 + 5 * n + w := ⟨j - (50 + 5 * n), by omega, by omega⟩
                    rcases (show w = 0 ∨ w = 1 ∨ w = 2 ∨ w = 3 ∨ w = 4 by omega) with rfl | rfl | rfl | rfl | rfl <;> simp [av_up]
                  · repeat rw [av_up_n (by omega)])
            (fun k X o hk hP => by
              obtain ⟨g1, g2⟩ := hP
              have m1 : X.2.1 (am_c D 13) 1 = am_c (D + 1) 18 + 1 := by rw [g1.1]; exact hm.1
              have y0 : nI (50 + 5 * n) + nI k = nI (50 + 5 * n + k) := by rw [nI_add]
              have i0 := am_in_n (show 50 + 5 * n + k < 120 by omega) (by decide)
              have t0 := am_tn (show 50 + 5 * n + k < 2147483648 by omega)
              refine ⟨av_i X (am_c (D + 1) 18) (50 + 5 * n + k) 0, none, ⟨av_fm_t g1 av_fm_s, by rw [av_is]; exact av_mr_up g2 (by omega) (by omega)⟩, ?_⟩
              rw [ae_X13_comesTo_64, if_neg (show ¬ (5 : Int32) ≤ nI k from nI_ge (b := 5) hk (by decide))]
              simp only [ae_X13_comesTo_0, ae_X13_comesTo_4, ae_X13_comesTo_7, ae_X13_comesTo_11, ae_X13_comesTo_14, ae_X13_comesTo_20, ae_X13_comesTo_21, ae_X13_comesTo_25, ae_X13_comesTo_34, ae_X13_comesTo_41, ae_X13_comesTo_42, ae_X13_comesTo_47, ae_X13_comesTo_50, ae_X13_comesTo_57, ae_X13_comesTo_60, ae_X13_comesTo_61, ae_X13_comesTo_70, ae_X13_comesTo_74, ae_X13_comesTo_91, ae_X13_comesTo_95, ae_X13_comesTo_109, ae_X13_comesTo_123, ae_X13_comesTo_133, am_bnx_v, am_bnx_e, am_tl_s, am_tl_n, am_rv_s, am_add_rx, m1, av_x50, y0, i0, t0, nI_1])
            5 0 M none (by omega) ⟨av_fm_0, hr⟩
          obtain ⟨X, k1, k2, k3⟩ := key
          have k1 : am_val iX13_comesTo 64 [some (.ref (am_c D 13)), some (.int x), some (.int (nI p)), some (.int (nI n)), some (.int (nI 0))] [] M = some (.inl (some (.int 0)), av_i X (am_c D 13) 17 (nI n), 0, 0) := k1
          rw [nI_0] at k1
          refine ⟨_, _, ?_, av_MO_d hq' k2 k3⟩
          simp only [ae_X13_comesTo_0, ae_X13_comesTo_4, ae_X13_comesTo_7, ae_X13_comesTo_11, ae_X13_comesTo_14, ae_X13_comesTo_20, ae_X13_comesTo_21, ae_X13_comesTo_25, ae_X13_comesTo_34, ae_X13_comesTo_41, ae_X13_comesTo_42, ae_X13_comesTo_47, ae_X13_comesTo_50, ae_X13_comesTo_57, ae_X13_comesTo_60, ae_X13_comesTo_61, ae_X13_comesTo_70, ae_X13_comesTo_74, ae_X13_comesTo_91, ae_X13_comesTo_95, ae_X13_comesTo_109, ae_X13_comesTo_123, ae_X13_comesTo_133, am_bnx_v, am_bnx_e, am_tl_s, am_tl_n, am_rv_s, am_add_rx, mc_isTeam, mc_isPlace, a, b, am_bi_t, not_true_eq_false, not_false_eq_true, if_true, if_false, am_1n0, or_true, true_or, eq_self, Bool.true_eq_false, Bool.false_eq_true, cond_true, cond_false, hm.1, s0, c1, e1, ch, k1, hn2]
        · refine ⟨_, _, ?_, av_MO_r (by rw [hq, if_pos c2, if_neg (fun hc => ch (z1.mp hc))])⟩
          simp only [ae_X13_comesTo_0, ae_X13_comesTo_4, ae_X13_comesTo_7, ae_X13_comesTo_11, ae_X13_comesTo_14, ae_X13_comesTo_20, ae_X13_comesTo_21, ae_X13_comesTo_25, ae_X13_comesTo_34, ae_X13_comesTo_41, ae_X13_comesTo_42, ae_X13_comesTo_47, ae_X13_comesTo_50, ae_X13_comesTo_57, ae_X13_comesTo_60, ae_X13_comesTo_61, ae_X13_comesTo_70, ae_X13_comesTo_74, ae_X13_comesTo_91, ae_X13_comesTo_95, ae_X13_comesTo_109, ae_X13_comesTo_123, ae_X13_comesTo_133, am_bnx_v, am_bnx_e, am_tl_s, am_tl_n, am_rv_s, am_add_rx, mc_isTeam, mc_isPlace, mc_refused, a, b, am_bi_t, not_true_eq_false, not_false_eq_true, if_true, if_false, am_1n0, or_true, true_or, eq_self, Bool.true_eq_false, Bool.false_eq_true, cond_true, cond_false, hm.1, s0, c1, e1, ch]
theorem mc_shouts {D bd : Nat} {σ : Nat → Int32} {L : List (Nat → Int32)} {x g l : Int32} {M : am_M} (hM : av_MD D M σ L) (hok : av_ok bd σ L) : ∃ M' code, am_val iX13_shouts 0 [some (.ref (am_c D 13)), some (.int x), some (.int g), some (.int l), none] [] M = some (.inl (some (.int code)), M', 0, 0) ∧ av_MO D M M' code (av_q4 σ L.length x l) (nI L.length) (av_o4 σ (av_ix x) l) (L ++ [av_new σ (av_ix x) l g]) := by
  obtain ⟨hm, hr⟩ := hM
  obtain ⟨hw, hpt, _, hpl, _, hn1, hn2, hl8⟩ := hok
  have s0 := (hr.1 0 (by decide) (by decide))
  have hp := mc_isPlayer (x := x) (n := av_np σ) hm (s0.trans hn2) (by omega)
  cases a : am_lt x (av_np σ) with
  | false =>
    refine ⟨_, _, ?_, av_MO_r (by unfold av_q4; rw [if_pos a])⟩
    simp only [ae_X13_shouts_0, ae_X13_shouts_5, ae_X13_shouts_8, ae_X13_shouts_14, ae_X13_shouts_19, ae_X13_shouts_20, ae_X13_shouts_27, ae_X13_shouts_30, ae_X13_shouts_36, ae_X13_shouts_37, ae_X13_shouts_43, ae_X13_shouts_46, ae_X13_shouts_55, ae_X13_shouts_58, ae_X13_shouts_59, ae_X13_shouts_63, ae_X13_shouts_74, ae_X13_shouts_81, ae_X13_shouts_82, ae_X13_shouts_86, ae_X13_shouts_101, ae_X13_shouts_106, ae_X13_shouts_121, ae_X13_shouts_136, ae_X13_shouts_141, ae_X13_shouts_156, ae_X13_shouts_171, ae_X13_shouts_181, ae_X13_shouts_191, ae_X13_shouts_207, ae_X13_shouts_226, am_bnx_v, am_bnx_e, am_tl_s, am_tl_n, am_rv_s, am_add_rx, hp, mc_refused, a, am_bi_f, not_true_eq_false, not_false_eq_true, if_true, if_false, am_1n0, or_true, true_or, eq_self, Bool.true_eq_false, Bool.false_eq_true, cond_true, cond_false, hm.1, s0]
  | true =>
    cases b : am_wt l 1 20 with
    | false =>
      refine ⟨_, _, ?_, av_MO_r (by unfold av_q4; rw [if_neg (by rw [a]; decide), if_pos b])⟩
      simp only [ae_X13_shouts_0, ae_X13_shouts_5, ae_X13_shouts_8, ae_X13_shouts_14, ae_X13_shouts_19, ae_X13_shouts_20, ae_X13_shouts_27, ae_X13_shouts_30, ae_X13_shouts_36, ae_X13_shouts_37, ae_X13_shouts_43, ae_X13_shouts_46, ae_X13_shouts_55, ae_X13_shouts_58, ae_X13_shouts_59, ae_X13_shouts_63, ae_X13_shouts_74, ae_X13_shouts_81, ae_X13_shouts_82, ae_X13_shouts_86, ae_X13_shouts_101, ae_X13_shouts_106, ae_X13_shouts_121, ae_X13_shouts_136, ae_X13_shouts_141, ae_X13_shouts_156, ae_X13_shouts_171, ae_X13_shouts_181, ae_X13_shouts_191, ae_X13_shouts_207, ae_X13_shouts_226, am_bnx_v, am_bnx_e, am_tl_s, am_tl_n, am_rv_s, am_add_rx, hp, mc_in, mc_refused, a, b, am_bi_f, am_bi_t, not_true_eq_false, not_false_eq_true, if_true, if_false, am_1n0, or_true, true_or, eq_self, Bool.true_eq_false, Bool.false_eq_true, cond_true, cond_false]
    | true =>
      obtain ⟨k, hk, rfl⟩ := am_lt_n (by omega) a
      have hix : av_ix (nI k) = k := av_ix_n (by omega)
      have htn := am_tn (show k < 2147483648 by omega)
      have hq : av_q4 σ L.length (nI k) l = if σ (52 + 5 * k) ≤ 0 then (if L.length < 8 then none else some (2, 8)) else some (9, σ (52 + 5 * k)) := by
        unfold av_q4
        rw [if_neg (by rw [a]; decide), if_neg (by rw [b]; decide), htn]
      have e2 := mc_p2 (k := k) hm (by omega)
      rw [hr.1 _ (by omega) (by omega)] at e2
      by_cases c : σ (52 + 5 * k) ≤ 0
      · have s1 := hr.2.1
        by_cases d : L.length < 8
        · have d' : ¬ nI L.length = 8 := fun hc => by have := (nI_eq (b := 8) (by omega) (by decide)).mp hc; omega
          have hq' : av_q4 σ L.length (nI k) l = none := by rw [hq, if_pos c, if_pos d]
          obtain ⟨n, hn⟩ : ∃ n, n = L.length := ⟨_, rfl⟩
          rw [← hn] at s1 d d'
          have rd := fun j (h1 : j < 80) (h2 : j ≠ 1) => hr.1 j h1 h2
          obtain ⟨A2, hA2⟩ : ∃ A, A = av_i (av_i M (am_c (D + 1) 18) (80 + 5 * n + 0) (σ (51 + 5 * k))) (am_c (D + 1) 18) (80 + 5 * n + 1) l := ⟨_, rfl⟩
          obtain ⟨A5, hA5⟩ : ∃ A, A = av_i (av_i (av_i A2 (am_c (D + 1) 18) (80 + 5 * n + 2) (σ (50 + 5 * k))) (am_c (D + 1) 18) (80 + 5 * n + 3) 0) (am_c (D + 1) 18) (80 + 5 * n + 4) g := ⟨_, rfl⟩
          obtain ⟨A6, hA6⟩ : ∃ A, A = av_i A5 (am_c (D + 1) 18) 1 (nI (n + 1)) := ⟨_, rfl⟩
          obtain ⟨A8, hA8⟩ : ∃ A, A = av_i (av_i A6 (am_c (D + 1) 18) 4 (σ 4 + 1)) (am_c (D + 1) 18) (50 + 5 * k + 2) (l / 4) := ⟨_, rfl⟩
          obtain ⟨X, hX⟩ : ∃ X, X = av_i A8 (am_c (D + 1) 18) (50 + 5 * k + 3) (σ (53 + 5 * k) + 1) := ⟨_, rfl⟩
          have fX : av_fm D M X := by
            rw [hX, hA8, hA6, hA5, hA2]
            iterate 8 refine av_fm_t ?_ av_fm_s
            exact av_fm_s
          have mrX : av_mr (X.1 (am_c (D + 1) 18)) (av_o4 σ k l) (L ++ [av_new σ k l g]) := by
            rw [hX, hA8, hA6, hA5, hA2]
            simp only [av_is]
            refine ⟨fun j hj hj1 => ?_, ?_, fun q hq w hw => ?_⟩
            · unfold av_o4
              by_cases j1 : j = 4
              · rw [j1, av_up_s, av_up_n (by omega), av_up_n (by omega), av_up_s]
              · rw [av_up_n (σ := av_up (av_up σ _ _) _ _) j1]
                by_cases j2 : j = 53 + 5 * k
                · rw [j2, av_up_s, show 53 + 5 * k = 50 + 5 * k + 3 by omega, av_up_s]
                · by_cases j3 : j = 52 + 5 * k
                  · rw [j3, av_up_n (by omega), show 52 + 5 * k = 50 + 5 * k + 2 by omega, av_up_s, av_up_n (by omega), show 50 + 5 * k + 2 = 52 + 5 * k by omega, av_up_s]
                  · rw [av_up_n (σ := av_up σ _ _) j2, av_up_n j3]
                    repeat rw [av_up_n (by omega)]
                    exact rd j hj hj1
            · rw [av_up_n (by omega), av_up_n (by omega), av_up_n (by omega), av_up_s, hn]
              simp
            · by_cases hqn : q < L.length
              · rw [av_s_l hqn]
                repeat rw [av_up_n (by omega)]
                exact hr.2.2 q hqn w hw
              · have hqe : q = L.length := by simp at hq; omega
                rw [hqe, av_s_e, ← hn]
                rcases (show w = 0 ∨ w = 1 ∨ w = 2 ∨ w = 3 ∨ w = 4 by omega) with rfl | rfl | rfl | rfl | rfl
                · repeat rw [av_up_n (show ¬ 80 + 5 * n + 0 = _ by omega)]
                  rw [av_up_s]; rfl
                · repeat rw [av_up_n (show ¬ 80 + 5 * n + 1 = _ by omega)]
                  rw [av_up_s]; rfl
                · repeat rw [av_up_n (show ¬ 80 + 5 * n + 2 = _ by omega)]
                  rw [av_up_s]; rfl
                · repeat rw [av_up_n (show ¬ 80 + 5 * n + 3 = _ by omega)]
                  rw [av_up_s]; rfl
                · repeat rw [av_up_n (show ¬ 80 + 5 * n + 4 = _ by omega)]
                  rw [av_up_s]; rfl
          refine ⟨_, _, ?_, av_MO_d hq' fX (by rw [hix]; exact mrX)⟩
          have y0 : nI (80 + 5 * n) + 0 = nI (80 + 5 * n + 0) := by rw [av_xa (show (0 : Int32) = nI 0 from rfl)]; congr 1; omega
          have i0 := am_in_n (show 80 + 5 * n + 0 < 120 by omega) (by decide)
          have t0 := am_tn (show 80 + 5 * n + 0 < 2147483648 by omega)
          have y1 : nI (80 + 5 * n) + 1 = nI (80 + 5 * n + 1) := by rw [av_xa (show (1 : Int32) = nI 1 from rfl)]; congr 1; omega
          have i1 := am_in_n (show 80 + 5 * n + 1 < 120 by omega) (by decide)
          have t1 := am_tn (show 80 + 5 * n + 1 < 2147483648 by omega)
          have y2 : nI (80 + 5 * n) + 2 = nI (80 + 5 * n + 2) := by rw [av_xa (show (2 : Int32) = nI 2 from rfl)]; congr 1; omega
          have i2 := am_in_n (show 80 + 5 * n + 2 < 120 by omega) (by decide)
          have t2 := am_tn (show 80 + 5 * n + 2 < 2147483648 by omega)
          have y3 : nI (80 + 5 * n) + 3 = nI (80 + 5 * n + 3) := by rw [av_xa (show (3 : Int32) = nI 3 from rfl)]; congr 1; omega
          have i3 := am_in_n (show 80 + 5 * n + 3 < 120 by omega) (by decide)
          have t3 := am_tn (show 80 + 5 * n + 3 < 2147483648 by omega)
          have y4 : nI (80 + 5 * n) + 4 = nI (80 + 5 * n + 4) := by rw [av_xa (show (4 : Int32) = nI 4 from rfl)]; congr 1; omega
          have i4 := am_in_n (show 80 + 5 * n + 4 < 120 by omega) (by decide)
          have t4 := am_tn (show 80 + 5 * n + 4 < 2147483648 by omega)
          have y5 : nI (50 + 5 * k) + 2 = nI (50 + 5 * k + 2) := by rw [av_xa (show (2 : Int32) = nI 2 from rfl)]; congr 1; omega
          have i5 := am_in_n (show 50 + 5 * k + 2 < 120 by omega) (by decide)
          have t5 := am_tn (show 50 + 5 * k + 2 < 2147483648 by omega)
          have y6 : nI (50 + 5 * k) + 3 = nI (50 + 5 * k + 3) := by rw [av_xa (show (3 : Int32) = nI 3 from rfl)]; congr 1; omega
          have i6 := am_in_n (show 50 + 5 * k + 3 < 120 by omega) (by decide)
          have t6 := am_tn (show 50 + 5 * k + 3 < 2147483648 by omega)
          have m2 : A2.2.1 (am_c D 13) 1 = am_c (D + 1) 18 + 1 := by rw [hA2]; exact hm.1
          have m5 : A5.2.1 (am_c D 13) 1 = am_c (D + 1) 18 + 1 := by rw [hA5]; exact m2
          have m6 : A6.2.1 (am_c D 13) 1 = am_c (D + 1) 18 + 1 := by rw [hA6]; exact m5
          have e1 : am_val iX13_ofPlayer 0 [some (.ref (am_c D 13)), some (.int (nI k)), some (.int 1)] [] M = some (.inl (some (.int (σ (51 + 5 * k)))), M, 0, 0) := by rw [mc_p1 hm (by omega), rd _ (by omega) (by omega)]
          have e0 : am_val iX13_ofPlayer 0 [some (.ref (am_c D 13)), some (.int (nI k)), some (.int 0)] [] A2 = some (.inl (some (.int (σ (50 + 5 * k)))), A2, 0, 0) := by
            have hv : A2.1 (am_c (D + 1) 18) (50 + 5 * k) = σ (50 + 5 * k) := by rw [hA2, av_is, av_is, av_up_n (by omega), av_up_n (by omega)]; exact rd _ (by omega) (by omega)
            rw [mc_p0 (by rw [hA2]; exact hm) (by omega), hv]
          have v4 : A6.1 (am_c (D + 1) 18) 4 = σ 4 := by
            rw [hA6, hA5, hA2]
            simp only [av_is]
            repeat rw [av_up_n (by omega)]
            exact rd _ (by omega) (by omega)
          have v53 : A8.1 (am_c (D + 1) 18) (50 + 5 * k + 3) = σ (53 + 5 * k) := by
            rw [hA8, hA6, hA5, hA2]
            simp only [av_is]
            repeat rw [av_up_n (by omega)]
            rw [rd _ (by omega) (by omega)]
            congr 1
            omega
          have m8 : A8.2.1 (am_c D 13) 1 = am_c (D + 1) 18 + 1 := by rw [hA8]; exact m6
          rw [← hn]
          simp only [ae_X13_shouts_0, ae_X13_shouts_5, ae_X13_shouts_8, ae_X13_shouts_14, ae_X13_shouts_19, ae_X13_shouts_20, ae_X13_shouts_27, ae_X13_shouts_30, ae_X13_shouts_36, ae_X13_shouts_37, ae_X13_shouts_43, ae_X13_shouts_46, ae_X13_shouts_55, ae_X13_shouts_58, ae_X13_shouts_59, ae_X13_shouts_63, ae_X13_shouts_74, ae_X13_shouts_81, ae_X13_shouts_82, ae_X13_shouts_86, ae_X13_shouts_101, ae_X13_shouts_106, ae_X13_shouts_121, ae_X13_shouts_136, ae_X13_shouts_141, ae_X13_shouts_156, ae_X13_shouts_171, ae_X13_shouts_181, ae_X13_shouts_191, ae_X13_shouts_207, ae_X13_shouts_226, am_bnx_v, am_bnx_e, am_tl_s, am_tl_n, am_rv_s, am_add_rx, hp, mc_in, mc_done, a, b, am_bi_t, not_true_eq_false, not_false_eq_true, if_true, if_false, am_1n0, or_true, true_or, eq_self, Bool.true_eq_false, Bool.false_eq_true, cond_true, cond_false, e2, c, hm.1, s1, d', av_x80, av_x50, e1, y0, i0, t0, av_i2, y1, i1, t1, ← hA2, m2, e0, y2, i2, t2, y3, i3, t3, y4, i4, t4, ← hA5, m5, nI_1, ← hA6, m6, v4, y5, i5, t5, ← hA8, m8, y6, i6, t6, v53, ← hX]
        · have d' : nI L.length = 8 := by rw [show L.length = 8 by omega]; rfl
          refine ⟨_, _, ?_, av_MO_r (by rw [hq, if_pos c, if_neg d])⟩
          simp only [ae_X13_shouts_0, ae_X13_shouts_5, ae_X13_shouts_8, ae_X13_shouts_14, ae_X13_shouts_19, ae_X13_shouts_20, ae_X13_shouts_27, ae_X13_shouts_30, ae_X13_shouts_36, ae_X13_shouts_37, ae_X13_shouts_43, ae_X13_shouts_46, ae_X13_shouts_55, ae_X13_shouts_58, ae_X13_shouts_59, ae_X13_shouts_63, ae_X13_shouts_74, ae_X13_shouts_81, ae_X13_shouts_82, ae_X13_shouts_86, ae_X13_shouts_101, ae_X13_shouts_106, ae_X13_shouts_121, ae_X13_shouts_136, ae_X13_shouts_141, ae_X13_shouts_156, ae_X13_shouts_171, ae_X13_shouts_181, ae_X13_shouts_191, ae_X13_shouts_207, ae_X13_shouts_226, am_bnx_v, am_bnx_e, am_tl_s, am_tl_n, am_rv_s, am_add_rx, hp, mc_in, mc_refused, a, b, am_bi_t, not_true_eq_false, not_false_eq_true, if_true, if_false, am_1n0, or_true, true_or, eq_self, Bool.true_eq_false, Bool.false_eq_true, cond_true, cond_false, e2, c, hm.1, s1, d']
      · refine ⟨_, _, ?_, av_MO_r (by rw [hq, if_neg c])⟩
        simp only [ae_X13_shouts_0, ae_X13_shouts_5, ae_X13_shouts_8, ae_X13_shouts_14, ae_X13_shouts_19, ae_X13_shouts_20, ae_X13_shouts_27, ae_X13_shouts_30, ae_X13_shouts_36, ae_X13_shouts_37, ae_X13_shouts_43, ae_X13_shouts_46, ae_X13_shouts_55, ae_X13_shouts_58, ae_X13_shouts_59, ae_X13_shouts_63, ae_X13_shouts_74, ae_X13_shouts_81, ae_X13_shouts_82, ae_X13_shouts_86, ae_X13_shouts_101, ae_X13_shouts_106, ae_X13_shouts_121, ae_X13_shouts_136, ae_X13_shouts_141, ae_X13_shouts_156, ae_X13_shouts_171, ae_X13_shouts_181, ae_X13_shouts_191, ae_X13_shouts_207, ae_X13_shouts_226, am_bnx_v, am_bnx_e, am_tl_s, am_tl_n, am_rv_s, am_add_rx, hp, mc_in, mc_refused, a, b, am_bi_t, not_true_eq_false, not_false_eq_true, if_true, if_false, am_1n0, or_true, true_or, eq_self, Bool.true_eq_false, Bool.false_eq_true, cond_true, cond_false, e2, c]
