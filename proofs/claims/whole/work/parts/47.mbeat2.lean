/-! the second implementation: a beat, the whole -/
theorem mc_beats {D bd : Nat} {σ : Nat → Int32} {L : List (Nat → Int32)} {M : am_M} (hM : av_MD D M σ L) (hok : av_ok bd σ L) : ∃ M', am_val iX13_beats 0 [some (.ref (am_c D 13)), none, none, none] [] M = some (.inl (some (.int (nI (L.length - (av_kf σ L L.length).length)))), M', 0, 0) ∧ av_fm D M M' ∧ av_mr (M'.1 (am_c (D + 1) 18)) (av_o5 σ L) (av_kf σ L L.length) := by
  obtain ⟨hm, hr⟩ := hM
  have hl8 := hok.2.2.2.2.2.2.2
  have hn1 := hok.2.2.2.2.2.1
  have hn2 := hok.2.2.2.2.2.2.1
  obtain ⟨n, hn⟩ : ∃ n, n = L.length := ⟨_, rfl⟩
  obtain ⟨T, hT⟩ : ∃ T, T = (List.range n).map (fun q => av_a1 σ (av_s L q)) := ⟨_, rfl⟩
  have hTl : T.length = n := by rw [hT]; simp
  have hTs : ∀ q, q < n → av_s T q = av_a1 σ (av_s L q) := fun q hq => by rw [hT]; exact av_s_map hq
  have hK : T.take 0 ++ (T.drop 0).filter av_al = av_kf σ L n := by rw [av_kf_f, ← hT]; rfl
  have kA := av_lpr (H := fun k (X : am_M) o => am_val iX13_beats 9 [some (.ref (am_c D 13)), some (.int (nI L.length)), some (.int (nI k)), o] [] X)
    (P := fun k X => av_bA D M X σ L k) (N := L.length)
    (Q := fun t => ∃ X, t = am_val iX13_beats 173 [some (.ref (am_c D 13)), some (.int (nI L.length)), some (.int 0), some (.int (nI L.length - 1))] [] X ∧ av_bA D M X σ L L.length)
    (fun X o hP => by
      refine ⟨X, ?_, hP⟩
      rw [ae_X13_beats_9, if_pos (av_he (by omega))]
      simp only [ae_X13_beats_0, ae_X13_beats_4, ae_X13_beats_14, ae_X13_beats_19, ae_X13_beats_23, ae_X13_beats_28, ae_X13_beats_45, ae_X13_beats_62, ae_X13_beats_79, ae_X13_beats_100, ae_X13_beats_103, ae_X13_beats_107, ae_X13_beats_121, ae_X13_beats_125, ae_X13_beats_128, ae_X13_beats_132, ae_X13_beats_143, ae_X13_beats_154, ae_X13_beats_167, ae_X13_beats_177, ae_X13_beats_183, ae_X13_beats_186, ae_X13_beats_189, ae_X13_beats_194, ae_X13_beats_203, ae_X13_beats_210, ae_X13_beats_215, ae_X13_beats_221, ae_X13_beats_224, ae_X13_beats_228, ae_X13_beats_241, ae_X13_beats_247, ae_X13_beats_251])
    (fun k X o hk hP => by
      obtain ⟨X', o', h1, h2⟩ := mc_beatsA (o := o) hm hok hk hP
      exact ⟨X', o', h2, h1⟩)
    L.length 0 M none (by omega) ⟨av_fm_0, fun j hj hj1 => hr.1 j hj hj1, hr.2.1, fun q hq w hw => by rw [if_neg (Nat.not_lt_zero _)]; exact hr.2.2 q hq w hw, ⟨fun _ _ _ => rfl, rfl, rfl⟩⟩
  obtain ⟨XA, eA, hA⟩ := kA
  have eA : am_val iX13_beats 9 [some (.ref (am_c D 13)), some (.int (nI L.length)), some (.int (nI 0)), none] [] M = am_val iX13_beats 173 [some (.ref (am_c D 13)), some (.int (nI L.length)), some (.int 0), some (.int (nI L.length - 1))] [] XA := eA
  obtain ⟨g1, g2, g3, g4, g5⟩ := hA
  have mrA : av_mr (XA.1 (am_c (D + 1) 18)) (av_tf σ L n) T := by
    refine ⟨fun j hj hj1 => by rw [hn]; exact g2 j hj hj1, by rw [hTl, hn]; exact g3, fun q hq w hw => ?_⟩
    rw [hTl] at hq
    rw [g4 q (by omega) w hw, if_pos (by omega), hTs q hq]
  have kB := av_lpr (H := fun j (x : am_M × Int32) _ => am_val iX13_beats 173 [some (.ref (am_c D 13)), some (.int (nI n)), some (.int (x.2)), some (.int (nI (n - j) - 1))] [] (x.1))
    (P := fun j x => av_fm D M x.1 ∧ av_mr (x.1.1 (am_c (D + 1) 18)) (av_tf σ L n) (T.take (n - j) ++ (T.drop (n - j)).filter av_al) ∧ (T.take (n - j) ++ (T.drop (n - j)).filter av_al).length ≤ n ∧ x.2 = nI (n - (T.take (n - j) ++ (T.drop (n - j)).filter av_al).length)) (N := n)
    (Q := fun t => ∃ X, t = am_val iX13_beats 205 [some (.ref (am_c D 13)), some (.int (nI n)), some (.int (nI (n - (av_kf σ L n).length))), some (.int 0)] [] X ∧ av_fm D M X ∧ av_mr (X.1 (am_c (D + 1) 18)) (av_tf σ L n) (av_kf σ L n))
    (fun x o hP => by
      obtain ⟨p1, p2, p3, p4⟩ := hP
      rw [Nat.sub_self, hK] at p2 p4
      refine ⟨x.1, ?_, p1, p2⟩
      rw [ae_X13_beats_173, if_pos (show nI (n - n) - 1 < 0 by rw [Nat.sub_self]; decide)]
      simp only [ae_X13_beats_0, ae_X13_beats_4, ae_X13_beats_14, ae_X13_beats_19, ae_X13_beats_23, ae_X13_beats_28, ae_X13_beats_45, ae_X13_beats_62, ae_X13_beats_79, ae_X13_beats_100, ae_X13_beats_103, ae_X13_beats_107, ae_X13_beats_121, ae_X13_beats_125, ae_X13_beats_128, ae_X13_beats_132, ae_X13_beats_143, ae_X13_beats_154, ae_X13_beats_167, ae_X13_beats_177, ae_X13_beats_183, ae_X13_beats_186, ae_X13_beats_189, ae_X13_beats_194, ae_X13_beats_203, ae_X13_beats_210, ae_X13_beats_215, ae_X13_beats_221, ae_X13_beats_224, ae_X13_beats_228, ae_X13_beats_241, ae_X13_beats_247, ae_X13_beats_251, p4])
    (fun j x o hj hP => by
      obtain ⟨p1, p2, p3, p4⟩ := hP
      obtain ⟨kk, hkk⟩ : ∃ kk, n - j = kk + 1 := ⟨n - j - 1, by omega⟩
      have hkk2 : n - (j + 1) = kk := by omega
      obtain ⟨Y, B, y1, y2, y3⟩ := av_AK T kk (by omega)
      rw [hkk] at p2 p3 p4
      rw [y1] at p2 p3 p4
      have hmx : av_msh x.1.2.1 D := by rw [p1.1]; exact hm
      have hlen : (Y ++ av_s T kk :: B).length = Y.length + B.length + 1 := by simp; omega
      have hsk := av_mr_s p2 (k := kk) (by rw [hlen]; omega)
      rw [show av_s (Y ++ av_s T kk :: B) kk = av_s T kk by rw [← y2]; exact av_s_mid] at hsk
      have e1 : am_val iX13_ofSound 0 [some (.ref (am_c D 13)), some (.int (nI kk)), some (.int 1)] [] (x.1) = some (.inl (some (.int (av_s T kk 1))), x.1, 0, 0) := by rw [mc_s1 hmx (by omega), hsk.2.1]
      have hx3 : nI (kk + 1) - 1 = nI kk := nI_pred kk
      have hx4 : nI kk + (-1) = nI kk - 1 := (Int32.sub_eq_add_neg _ _).symm
      have hnl : ¬ nI kk < 0 := nI_pos (by omega)
      rw [hkk2]
      by_cases hd : av_s T kk 1 = 0
      · rw [if_pos hd] at y3
        obtain ⟨M', k1, k2, k3⟩ := mc_goes (k := kk) hmx p2 (by rw [hlen]; omega) (by omega)
        rw [← y2, av_er] at k2
        have hle : av_s T kk 1 ≤ 0 := by rw [hd]; decide
        refine ⟨(M', nI (n - (Y ++ B).length)), none, ⟨av_fm_t p1 (av_fS_fm k3), by rw [y3]; exact k2, by rw [y3]; rw [hlen] at p3; simp; omega, by rw [y3]⟩, ?_⟩
        have hg : nI (n - (Y ++ av_s T kk :: B).length) + 1 = nI (n - (Y ++ B).length) := by
          rw [nI_1]
          congr 1
          rw [hlen] at p3 ⊢
          simp
          omega
        rw [hkk, hx3, ae_X13_beats_173, if_neg hnl]
        simp only [ae_X13_beats_0, ae_X13_beats_4, ae_X13_beats_14, ae_X13_beats_19, ae_X13_beats_23, ae_X13_beats_28, ae_X13_beats_45, ae_X13_beats_62, ae_X13_beats_79, ae_X13_beats_100, ae_X13_beats_103, ae_X13_beats_107, ae_X13_beats_121, ae_X13_beats_125, ae_X13_beats_128, ae_X13_beats_132, ae_X13_beats_143, ae_X13_beats_154, ae_X13_beats_167, ae_X13_beats_177, ae_X13_beats_183, ae_X13_beats_186, ae_X13_beats_189, ae_X13_beats_194, ae_X13_beats_203, ae_X13_beats_210, ae_X13_beats_215, ae_X13_beats_221, ae_X13_beats_224, ae_X13_beats_228, ae_X13_beats_241, ae_X13_beats_247, ae_X13_beats_251, am_bnx_v, am_bnx_e, am_tl_s, am_tl_n, am_rv_s, am_add_rx, e1, hle, not_true_eq_false, not_false_eq_true, if_true, if_false, am_1n0, or_true, true_or, eq_self, Bool.true_eq_false, Bool.false_eq_true, cond_true, cond_false, k1, p4, hg, hx4]
      · rw [if_neg hd] at y3
        have hle : ¬ av_s T kk 1 ≤ 0 := by
          rw [hTs kk (by omega)] at hd ⊢
          obtain ⟨_, ⟨l, t, hl, hlt, h1, _⟩, _⟩ := (av_a1_ok hok (hok.2.2.2.2.1 kk (by omega))).1.resolve_left hd
          rw [h1]
          exact nI_nle hl (by omega)
        refine ⟨(x.1, nI (n - (Y ++ av_s T kk :: B).length)), none, ⟨p1, by rw [y3]; exact p2, by rw [y3]; exact p3, by rw [y3]⟩, ?_⟩
        rw [hkk, hx3, ae_X13_beats_173, if_neg hnl]
        simp only [ae_X13_beats_0, ae_X13_beats_4, ae_X13_beats_14, ae_X13_beats_19, ae_X13_beats_23, ae_X13_beats_28, ae_X13_beats_45, ae_X13_beats_62, ae_X13_beats_79, ae_X13_beats_100, ae_X13_beats_103, ae_X13_beats_107, ae_X13_beats_121, ae_X13_beats_125, ae_X13_beats_128, ae_X13_beats_132, ae_X13_beats_143, ae_X13_beats_154, ae_X13_beats_167, ae_X13_beats_177, ae_X13_beats_183, ae_X13_beats_186, ae_X13_beats_189, ae_X13_beats_194, ae_X13_beats_203, ae_X13_beats_210, ae_X13_beats_215, ae_X13_beats_221, ae_X13_beats_224, ae_X13_beats_228, ae_X13_beats_241, ae_X13_beats_247, ae_X13_beats_251, am_bnx_v, am_bnx_e, am_tl_s, am_tl_n, am_rv_s, am_add_rx, e1, hle, not_true_eq_false, not_false_eq_true, if_true, if_false, am_1n0, or_true, true_or, eq_self, Bool.true_eq_false, Bool.false_eq_true, cond_true, cond_false, p4, hx4])
    n 0 (XA, 0) none (by omega) ⟨g1, by rw [Nat.sub_zero, List.take_of_length_le (by omega), List.drop_eq_nil_of_le (by omega)]; simpa using mrA, by rw [Nat.sub_zero, List.take_of_length_le (by omega), List.drop_eq_nil_of_le (by omega)]; simp [hTl], by rw [Nat.sub_zero, List.take_of_length_le (by omega), List.drop_eq_nil_of_le (by omega)]; simp [hTl, nI_0]⟩
  obtain ⟨XB, eB, b1, b2⟩ := kB
  have eB : am_val iX13_beats 173 [some (.ref (am_c D 13)), some (.int (nI n)), some (.int 0), some (.int (nI (n - 0) - 1))] [] XA = am_val iX13_beats 205 [some (.ref (am_c D 13)), some (.int (nI n)), some (.int (nI (n - (av_kf σ L n).length))), some (.int 0)] [] XB := eB
  rw [Nat.sub_zero] at eB
  have eqw : av_eqw (av_tf σ L n) σ := by rw [hn]; exact g5
  have kC := av_lpr (H := fun k (X : am_M) _ => am_val iX13_beats 205 [some (.ref (am_c D 13)), some (.int (nI n)), some (.int (nI (n - (av_kf σ L n).length))), some (.int (nI k))] [] X)
    (P := fun k X => av_fm D M X ∧ av_mr (X.1 (am_c (D + 1) 18)) (am_it av_rg k (av_tf σ L n)) (av_kf σ L n) ∧ am_it av_rg k (av_tf σ L n) 0 = σ 0) (N := av_np σ)
    (Q := fun t => ∃ X, t = some (.inl (some (.int (nI (n - (av_kf σ L n).length)))), X, 0, 0) ∧ av_fm D M X ∧ av_mr (X.1 (am_c (D + 1) 18)) (av_up (am_it av_rg (av_np σ) (av_tf σ L n)) 3 (am_it av_rg (av_np σ) (av_tf σ L n) 3 + 1)) (av_kf σ L n))
    (fun X o hP => by
      obtain ⟨p1, p2, p3⟩ := hP
      have mX : X.2.1 (am_c D 13) 1 = am_c (D + 1) 18 + 1 := by rw [p1.1]; exact hm.1
      have r0 : X.1 (am_c (D + 1) 18) 0 = nI (av_np σ) := by rw [p2.1 0 (by decide) (by decide), p3]; exact hn2
      have r3 := p2.1 3 (by decide) (by decide)
      refine ⟨av_i X (am_c (D + 1) 18) 3 (am_it av_rg (av_np σ) (av_tf σ L n) 3 + 1), ?_, av_fm_t p1 av_fm_s, by rw [av_is]; exact av_mr_up p2 (by decide) (by decide)⟩
      rw [ae_X13_beats_205, mX, am_rv_s]
      simp only [ae_X13_beats_0, ae_X13_beats_4, ae_X13_beats_14, ae_X13_beats_19, ae_X13_beats_23, ae_X13_beats_28, ae_X13_beats_45, ae_X13_beats_62, ae_X13_beats_79, ae_X13_beats_100, ae_X13_beats_103, ae_X13_beats_107, ae_X13_beats_121, ae_X13_beats_125, ae_X13_beats_128, ae_X13_beats_132, ae_X13_beats_143, ae_X13_beats_154, ae_X13_beats_167, ae_X13_beats_177, ae_X13_beats_183, ae_X13_beats_186, ae_X13_beats_189, ae_X13_beats_194, ae_X13_beats_203, ae_X13_beats_210, ae_X13_beats_215, ae_X13_beats_221, ae_X13_beats_224, ae_X13_beats_228, ae_X13_beats_241, ae_X13_beats_247, ae_X13_beats_251, am_bnx_v, am_bnx_e, am_tl_s, am_tl_n, am_rv_s, am_add_rx, mX, r0, av_he (show av_np σ < 2147483648 by omega), not_true_eq_false, not_false_eq_true, if_true, if_false, am_1n0, or_true, true_or, eq_self, Bool.true_eq_false, Bool.false_eq_true, cond_true, cond_false, r3])
    (fun k X o hk hP => by
      obtain ⟨p1, p2, p3⟩ := hP
      have hmX : av_msh X.2.1 D := by rw [p1.1]; exact hm
      have mX : X.2.1 (am_c D 13) 1 = am_c (D + 1) 18 + 1 := hmX.1
      have r0 : X.1 (am_c (D + 1) 18) 0 = nI (av_np σ) := by rw [p2.1 0 (by decide) (by decide), p3]; exact hn2
      have r52 := p2.1 (52 + 5 * k) (by omega) (by omega)
      have e1 : am_val iX13_ofPlayer 0 [some (.ref (am_c D 13)), some (.int (nI k)), some (.int 2)] [] X = some (.inl (some (.int (am_it av_rg k (av_tf σ L n) (52 + 5 * k)))), X, 0, 0) := by rw [mc_p2 hmX (by omega), r52]
      have hnle : ¬ nI (av_np σ) ≤ nI k := av_hl hk (by omega)
      by_cases hh : am_it av_rg k (av_tf σ L n) (52 + 5 * k) ≤ 0
      · have hg : am_it av_rg (k + 1) (av_tf σ L n) = am_it av_rg k (av_tf σ L n) := by show (if am_it av_rg k (av_tf σ L n) (52 + 5 * k) ≤ 0 then am_it av_rg k (av_tf σ L n) else av_up (am_it av_rg k (av_tf σ L n)) (52 + 5 * k) (am_it av_rg k (av_tf σ L n) (52 + 5 * k) - 1)) = _; rw [if_pos hh]
        refine ⟨X, none, ⟨p1, by rw [hg]; exact p2, by rw [hg]; exact p3⟩, ?_⟩
        rw [ae_X13_beats_205, mX, am_rv_s]
        simp only [ae_X13_beats_0, ae_X13_beats_4, ae_X13_beats_14, ae_X13_beats_19, ae_X13_beats_23, ae_X13_beats_28, ae_X13_beats_45, ae_X13_beats_62, ae_X13_beats_79, ae_X13_beats_100, ae_X13_beats_103, ae_X13_beats_107, ae_X13_beats_121, ae_X13_beats_125, ae_X13_beats_128, ae_X13_beats_132, ae_X13_beats_143, ae_X13_beats_154, ae_X13_beats_167, ae_X13_beats_177, ae_X13_beats_183, ae_X13_beats_186, ae_X13_beats_189, ae_X13_beats_194, ae_X13_beats_203, ae_X13_beats_210, ae_X13_beats_215, ae_X13_beats_221, ae_X13_beats_224, ae_X13_beats_228, ae_X13_beats_241, ae_X13_beats_247, ae_X13_beats_251, am_bnx_v, am_bnx_e, am_tl_s, am_tl_n, am_rv_s, am_add_rx, mX, r0, hnle, not_true_eq_false, not_false_eq_true, if_true, if_false, am_1n0, or_true, true_or, eq_self, Bool.true_eq_false, Bool.false_eq_true, cond_true, cond_false, e1, hh, nI_1]
      · have hg : am_it av_rg (k + 1) (av_tf σ L n) = av_up (am_it av_rg k (av_tf σ L n)) (52 + 5 * k) (am_it av_rg k (av_tf σ L n) (52 + 5 * k) - 1) := by show (if am_it av_rg k (av_tf σ L n) (52 + 5 * k) ≤ 0 then am_it av_rg k (av_tf σ L n) else av_up (am_it av_rg k (av_tf σ L n)) (52 + 5 * k) (am_it av_rg k (av_tf σ L n) (52 + 5 * k) - 1)) = _; rw [if_neg hh]
        have y2 : nI (50 + 5 * k) + 2 = nI (52 + 5 * k) := by rw [av_xa (show (2 : Int32) = nI 2 from rfl)]; congr 1; omega
        have i2 := am_in_n (show 52 + 5 * k < 120 by omega) (by decide)
        have t2 := am_tn (show 52 + 5 * k < 2147483648 by omega)
        refine ⟨av_i X (am_c (D + 1) 18) (52 + 5 * k) (am_it av_rg k (av_tf σ L n) (52 + 5 * k) - 1), none, ⟨av_fm_t p1 av_fm_s, by rw [hg, av_is]; exact av_mr_up p2 (by omega) (by omega), by rw [hg, av_up_n (by omega)]; exact p3⟩, ?_⟩
        rw [ae_X13_beats_205, mX, am_rv_s]
        simp only [ae_X13_beats_0, ae_X13_beats_4, ae_X13_beats_14, ae_X13_beats_19, ae_X13_beats_23, ae_X13_beats_28, ae_X13_beats_45, ae_X13_beats_62, ae_X13_beats_79, ae_X13_beats_100, ae_X13_beats_103, ae_X13_beats_107, ae_X13_beats_121, ae_X13_beats_125, ae_X13_beats_128, ae_X13_beats_132, ae_X13_beats_143, ae_X13_beats_154, ae_X13_beats_167, ae_X13_beats_177, ae_X13_beats_183, ae_X13_beats_186, ae_X13_beats_189, ae_X13_beats_194, ae_X13_beats_203, ae_X13_beats_210, ae_X13_beats_215, ae_X13_beats_221, ae_X13_beats_224, ae_X13_beats_228, ae_X13_beats_241, ae_X13_beats_247, ae_X13_beats_251, am_bnx_v, am_bnx_e, am_tl_s, am_tl_n, am_rv_s, am_add_rx, mX, r0, hnle, not_true_eq_false, not_false_eq_true, if_true, if_false, am_1n0, or_true, true_or, eq_self, Bool.true_eq_false, Bool.false_eq_true, cond_true, cond_false, e1, hh, av_x50, y2, i2, t2, r52, nI_1])
    (av_np σ) 0 XB none (by omega) ⟨b1, b2, eqw.2.2⟩
  obtain ⟨XC, eC, c1, c2⟩ := kC
  have eC : am_val iX13_beats 205 [some (.ref (am_c D 13)), some (.int (nI n)), some (.int (nI (n - (av_kf σ L n).length))), some (.int (nI 0))] [] XB = some (.inl (some (.int (nI (n - (av_kf σ L n).length)))), XC, 0, 0) := eC
  rw [nI_0] at eA eC
  rw [← hn] at eA ⊢
  refine ⟨XC, ?_, c1, by unfold av_o5; rw [← hn]; exact c2⟩
  simp only [ae_X13_beats_0, ae_X13_beats_4, ae_X13_beats_14, ae_X13_beats_19, ae_X13_beats_23, ae_X13_beats_28, ae_X13_beats_45, ae_X13_beats_62, ae_X13_beats_79, ae_X13_beats_100, ae_X13_beats_103, ae_X13_beats_107, ae_X13_beats_121, ae_X13_beats_125, ae_X13_beats_128, ae_X13_beats_132, ae_X13_beats_143, ae_X13_beats_154, ae_X13_beats_167, ae_X13_beats_177, ae_X13_beats_183, ae_X13_beats_186, ae_X13_beats_189, ae_X13_beats_194, ae_X13_beats_203, ae_X13_beats_210, ae_X13_beats_215, ae_X13_beats_221, ae_X13_beats_224, ae_X13_beats_228, ae_X13_beats_241, ae_X13_beats_247, ae_X13_beats_251, am_bnx_v, am_bnx_e, am_tl_s, am_tl_n, am_rv_s, am_add_rx, hm.1, hr.2.1, ← hn, eA, eB, eC]
