/-! the second implementation: the orders of a text are done -/
theorem mc_does {D bd k : Nat} {q : tx_Q} {σ : Nat → Int32} {L : List (Nat → Int32)} {M : am_M} (hM : av_MD D M σ L) (hok : av_ok bd σ L) (hbd : bd < 1000000000) (hk : k < 60) (td : av_td D M k q) : ∃ M' code ans, am_val iX13_does 0 [some (.ref (am_c D 13)), some (.int (nI k)), none, none, none] [] M = some (.inl (some (.int code)), M', 0, 0) ∧ av_MO D M M' code (av_ref σ L q.1 q.2.1 q.2.2.1) ans (av_nσ σ L q.1 q.2.1 q.2.2.1) (av_nL σ L q.1 q.2.1 q.2.2.1 q.2.2.2) := by
  obtain ⟨c, a, b, g⟩ := q
  have m8 : M.2.1 (am_c D 13) 8 = am_c (D + 6) 21 + 1 := hM.1.2.2.2.2.2.1
  obtain ⟨hc, t1, t2, t3, t4, t5, t6⟩ := td
  have hc : c < 8 := hc
  have t1 : M.1 (am_c (D + 6) 21) (4 * k + 0) = am_el c := t1
  have t3 : c ≤ 4 → M.1 (am_c (D + 6) 21) (4 * k + 1) = a ∧ M.1 (am_c (D + 6) 21) (4 * k + 2) = b := t3
  have t4 : c = 4 → M.1 (am_c (D + 6) 21) (4 * k + 3) = g := t4
  have t5 : c = 6 → M.1 (am_c (D + 6) 21) (4 * k + 1) = a := t5
  have t6 : c = 7 → (if M.1 (am_c (D + 6) 21) (4 * k + 3) = 1 then M.1 (am_c (D + 6) 21) (4 * k + 1) else -M.1 (am_c (D + 6) 21) (4 * k + 1)) = a := t6
  obtain ⟨i0, n0⟩ := av_x4k (a := 0) (by decide) hk
  obtain ⟨i1, n1⟩ := av_x4k (a := 1) (by decide) hk
  obtain ⟨i2, n2⟩ := av_x4k (a := 2) (by decide) hk
  obtain ⟨i3, n3⟩ := av_x4k (a := 3) (by decide) hk
  have x1 : nI (4 * k + 0) + 1 = nI (4 * k + 1) := av_x4a (a := 1)
  have x2 : nI (4 * k + 0) + 2 = nI (4 * k + 2) := av_x4a (a := 2)
  have x3 : nI (4 * k + 0) + 3 = nI (4 * k + 3) := av_x4a (a := 3)
  rcases (show c = 0 ∨ c = 1 ∨ c = 2 ∨ c = 3 ∨ c = 4 ∨ c = 5 ∨ c = 6 ∨ c = 7 by omega) with rfl | rfl | rfl | rfl | rfl | rfl | rfl | rfl
  · have hx : M.1 (am_c (D + 6) 21) (4 * k + 0) = 119 := t1
    obtain ⟨y1, y2⟩ := t3 (by decide)
    obtain ⟨M', code, e, mo⟩ := mc_tellsWall (x := a) (h := b) hM hok
    refine ⟨M', code, _, ?_, mo⟩
    simp only [ae_X13_does_0, ae_X13_does_4, ae_X13_does_15, ae_X13_does_26, ae_X13_does_38, ae_X13_does_144, ae_X13_does_150, ae_X13_does_151, ae_X13_does_157, ae_X13_does_158, ae_X13_does_164, ae_X13_does_165, ae_X13_does_171, ae_X13_does_172, ae_X13_does_180, ae_X13_does_181, ae_X13_does_185, ae_X13_does_186, ae_X13_does_191, ae_X13_does_192, ae_X13_does_199, ae_X13_does_203, ae_X13_does_208, am_bnx_v, am_bnx_e, am_tl_s, am_tl_n, am_rv_s, am_add_rx, m8, av_xq4, x1, x2, x3, i0, n0, i1, n1, i2, n2, i3, n3, hx, y1, y2, am_sw_n (show ¬ (119 : Int32) = 98 by decide), am_sw_n (show ¬ (119 : Int32) = 99 by decide), am_sw_n (show ¬ (119 : Int32) = 100 by decide), am_sw_n (show ¬ (119 : Int32) = 101 by decide), am_sw_n (show ¬ (119 : Int32) = 102 by decide), am_sw_n (show ¬ (119 : Int32) = 103 by decide), am_sw_n (show ¬ (119 : Int32) = 104 by decide), am_sw_n (show ¬ (119 : Int32) = 105 by decide), am_sw_n (show ¬ (119 : Int32) = 106 by decide), am_sw_n (show ¬ (119 : Int32) = 107 by decide), am_sw_n (show ¬ (119 : Int32) = 108 by decide), am_sw_n (show ¬ (119 : Int32) = 109 by decide), am_sw_n (show ¬ (119 : Int32) = 110 by decide), am_sw_n (show ¬ (119 : Int32) = 111 by decide), am_sw_n (show ¬ (119 : Int32) = 112 by decide), am_sw_n (show ¬ (119 : Int32) = 113 by decide), am_sw_n (show ¬ (119 : Int32) = 114 by decide), am_sw_n (show ¬ (119 : Int32) = 115 by decide), am_sw_n (show ¬ (119 : Int32) = 116 by decide), am_sw_n (show ¬ (119 : Int32) = 117 by decide), am_sw_n (show ¬ (119 : Int32) = 118 by decide), am_sw_y (show (119 : Int32) = 119 from rfl), e]
  · have hx : M.1 (am_c (D + 6) 21) (4 * k + 0) = 111 := t1
    obtain ⟨y1, y2⟩ := t3 (by decide)
    obtain ⟨M', code, e, mo⟩ := mc_buys (x := a) (y := b) hM hok hbd
    refine ⟨M', code, _, ?_, mo⟩
    simp only [ae_X13_does_0, ae_X13_does_4, ae_X13_does_15, ae_X13_does_26, ae_X13_does_38, ae_X13_does_144, ae_X13_does_150, ae_X13_does_151, ae_X13_does_157, ae_X13_does_158, ae_X13_does_164, ae_X13_does_165, ae_X13_does_171, ae_X13_does_172, ae_X13_does_180, ae_X13_does_181, ae_X13_does_185, ae_X13_does_186, ae_X13_does_191, ae_X13_does_192, ae_X13_does_199, ae_X13_does_203, ae_X13_does_208, am_bnx_v, am_bnx_e, am_tl_s, am_tl_n, am_rv_s, am_add_rx, m8, av_xq4, x1, x2, x3, i0, n0, i1, n1, i2, n2, i3, n3, hx, y1, y2, am_sw_n (show ¬ (111 : Int32) = 98 by decide), am_sw_n (show ¬ (111 : Int32) = 99 by decide), am_sw_n (show ¬ (111 : Int32) = 100 by decide), am_sw_n (show ¬ (111 : Int32) = 101 by decide), am_sw_n (show ¬ (111 : Int32) = 102 by decide), am_sw_n (show ¬ (111 : Int32) = 103 by decide), am_sw_n (show ¬ (111 : Int32) = 104 by decide), am_sw_n (show ¬ (111 : Int32) = 105 by decide), am_sw_n (show ¬ (111 : Int32) = 106 by decide), am_sw_n (show ¬ (111 : Int32) = 107 by decide), am_sw_n (show ¬ (111 : Int32) = 108 by decide), am_sw_n (show ¬ (111 : Int32) = 109 by decide), am_sw_n (show ¬ (111 : Int32) = 110 by decide), am_sw_y (show (111 : Int32) = 111 from rfl), e]
  · have hx : M.1 (am_c (D + 6) 21) (4 * k + 0) = 112 := t1
    obtain ⟨y1, y2⟩ := t3 (by decide)
    obtain ⟨M', code, e, mo⟩ := mc_comesTo (x := a) (y := b) hM hok
    refine ⟨M', code, _, ?_, mo⟩
    simp only [ae_X13_does_0, ae_X13_does_4, ae_X13_does_15, ae_X13_does_26, ae_X13_does_38, ae_X13_does_144, ae_X13_does_150, ae_X13_does_151, ae_X13_does_157, ae_X13_does_158, ae_X13_does_164, ae_X13_does_165, ae_X13_does_171, ae_X13_does_172, ae_X13_does_180, ae_X13_does_181, ae_X13_does_185, ae_X13_does_186, ae_X13_does_191, ae_X13_does_192, ae_X13_does_199, ae_X13_does_203, ae_X13_does_208, am_bnx_v, am_bnx_e, am_tl_s, am_tl_n, am_rv_s, am_add_rx, m8, av_xq4, x1, x2, x3, i0, n0, i1, n1, i2, n2, i3, n3, hx, y1, y2, am_sw_n (show ¬ (112 : Int32) = 98 by decide), am_sw_n (show ¬ (112 : Int32) = 99 by decide), am_sw_n (show ¬ (112 : Int32) = 100 by decide), am_sw_n (show ¬ (112 : Int32) = 101 by decide), am_sw_n (show ¬ (112 : Int32) = 102 by decide), am_sw_n (show ¬ (112 : Int32) = 103 by decide), am_sw_n (show ¬ (112 : Int32) = 104 by decide), am_sw_n (show ¬ (112 : Int32) = 105 by decide), am_sw_n (show ¬ (112 : Int32) = 106 by decide), am_sw_n (show ¬ (112 : Int32) = 107 by decide), am_sw_n (show ¬ (112 : Int32) = 108 by decide), am_sw_n (show ¬ (112 : Int32) = 109 by decide), am_sw_n (show ¬ (112 : Int32) = 110 by decide), am_sw_n (show ¬ (112 : Int32) = 111 by decide), am_sw_y (show (112 : Int32) = 112 from rfl), e]
  · have hx : M.1 (am_c (D + 6) 21) (4 * k + 0) = 109 := t1
    obtain ⟨y1, y2⟩ := t3 (by decide)
    obtain ⟨M', code, e, mo⟩ := mc_moves (x := a) (p := b) hM hok
    refine ⟨M', code, _, ?_, mo⟩
    simp only [ae_X13_does_0, ae_X13_does_4, ae_X13_does_15, ae_X13_does_26, ae_X13_does_38, ae_X13_does_144, ae_X13_does_150, ae_X13_does_151, ae_X13_does_157, ae_X13_does_158, ae_X13_does_164, ae_X13_does_165, ae_X13_does_171, ae_X13_does_172, ae_X13_does_180, ae_X13_does_181, ae_X13_does_185, ae_X13_does_186, ae_X13_does_191, ae_X13_does_192, ae_X13_does_199, ae_X13_does_203, ae_X13_does_208, am_bnx_v, am_bnx_e, am_tl_s, am_tl_n, am_rv_s, am_add_rx, m8, av_xq4, x1, x2, x3, i0, n0, i1, n1, i2, n2, i3, n3, hx, y1, y2, am_sw_n (show ¬ (109 : Int32) = 98 by decide), am_sw_n (show ¬ (109 : Int32) = 99 by decide), am_sw_n (show ¬ (109 : Int32) = 100 by decide), am_sw_n (show ¬ (109 : Int32) = 101 by decide), am_sw_n (show ¬ (109 : Int32) = 102 by decide), am_sw_n (show ¬ (109 : Int32) = 103 by decide), am_sw_n (show ¬ (109 : Int32) = 104 by decide), am_sw_n (show ¬ (109 : Int32) = 105 by decide), am_sw_n (show ¬ (109 : Int32) = 106 by decide), am_sw_n (show ¬ (109 : Int32) = 107 by decide), am_sw_n (show ¬ (109 : Int32) = 108 by decide), am_sw_y (show (109 : Int32) = 109 from rfl), e]
  · have hx : M.1 (am_c (D + 6) 21) (4 * k + 0) = 115 := t1
    obtain ⟨y1, y2⟩ := t3 (by decide)
    have y3 := t4 rfl
    obtain ⟨M', code, e, mo⟩ := mc_shouts (x := a) (g := g) (l := b) hM hok
    refine ⟨M', code, _, ?_, mo⟩
    simp only [ae_X13_does_0, ae_X13_does_4, ae_X13_does_15, ae_X13_does_26, ae_X13_does_38, ae_X13_does_144, ae_X13_does_150, ae_X13_does_151, ae_X13_does_157, ae_X13_does_158, ae_X13_does_164, ae_X13_does_165, ae_X13_does_171, ae_X13_does_172, ae_X13_does_180, ae_X13_does_181, ae_X13_does_185, ae_X13_does_186, ae_X13_does_191, ae_X13_does_192, ae_X13_does_199, ae_X13_does_203, ae_X13_does_208, am_bnx_v, am_bnx_e, am_tl_s, am_tl_n, am_rv_s, am_add_rx, m8, av_xq4, x1, x2, x3, i0, n0, i1, n1, i2, n2, i3, n3, hx, y1, y2, y3, am_sw_n (show ¬ (115 : Int32) = 98 by decide), am_sw_n (show ¬ (115 : Int32) = 99 by decide), am_sw_n (show ¬ (115 : Int32) = 100 by decide), am_sw_n (show ¬ (115 : Int32) = 101 by decide), am_sw_n (show ¬ (115 : Int32) = 102 by decide), am_sw_n (show ¬ (115 : Int32) = 103 by decide), am_sw_n (show ¬ (115 : Int32) = 104 by decide), am_sw_n (show ¬ (115 : Int32) = 105 by decide), am_sw_n (show ¬ (115 : Int32) = 106 by decide), am_sw_n (show ¬ (115 : Int32) = 107 by decide), am_sw_n (show ¬ (115 : Int32) = 108 by decide), am_sw_n (show ¬ (115 : Int32) = 109 by decide), am_sw_n (show ¬ (115 : Int32) = 110 by decide), am_sw_n (show ¬ (115 : Int32) = 111 by decide), am_sw_n (show ¬ (115 : Int32) = 112 by decide), am_sw_n (show ¬ (115 : Int32) = 113 by decide), am_sw_n (show ¬ (115 : Int32) = 114 by decide), am_sw_y (show (115 : Int32) = 115 from rfl), e]
  · have hx : M.1 (am_c (D + 6) 21) (4 * k + 0) = 98 := t1
    obtain ⟨M', code, e, mo⟩ := mc_beatsOnce hM hok
    refine ⟨M', code, _, ?_, mo⟩
    simp only [ae_X13_does_0, ae_X13_does_4, ae_X13_does_15, ae_X13_does_26, ae_X13_does_38, ae_X13_does_144, ae_X13_does_150, ae_X13_does_151, ae_X13_does_157, ae_X13_does_158, ae_X13_does_164, ae_X13_does_165, ae_X13_does_171, ae_X13_does_172, ae_X13_does_180, ae_X13_does_181, ae_X13_does_185, ae_X13_does_186, ae_X13_does_191, ae_X13_does_192, ae_X13_does_199, ae_X13_does_203, ae_X13_does_208, am_bnx_v, am_bnx_e, am_tl_s, am_tl_n, am_rv_s, am_add_rx, m8, av_xq4, x1, x2, x3, i0, n0, i1, n1, i2, n2, i3, n3, hx, am_sw_y (show (98 : Int32) = 98 from rfl), e]
  · have hx : M.1 (am_c (D + 6) 21) (4 * k + 0) = 99 := t1
    have y1 := t5 rfl
    obtain ⟨M', code, e, mo⟩ := mc_catches (x := a) hM hok
    refine ⟨M', code, _, ?_, mo⟩
    simp only [ae_X13_does_0, ae_X13_does_4, ae_X13_does_15, ae_X13_does_26, ae_X13_does_38, ae_X13_does_144, ae_X13_does_150, ae_X13_does_151, ae_X13_does_157, ae_X13_does_158, ae_X13_does_164, ae_X13_does_165, ae_X13_does_171, ae_X13_does_172, ae_X13_does_180, ae_X13_does_181, ae_X13_does_185, ae_X13_does_186, ae_X13_does_191, ae_X13_does_192, ae_X13_does_199, ae_X13_does_203, ae_X13_does_208, am_bnx_v, am_bnx_e, am_tl_s, am_tl_n, am_rv_s, am_add_rx, m8, av_xq4, x1, x2, x3, i0, n0, i1, n1, i2, n2, i3, n3, hx, y1, am_sw_n (show ¬ (99 : Int32) = 98 by decide), am_sw_y (show (99 : Int32) = 99 from rfl), e]
  · have hx : M.1 (am_c (D + 6) 21) (4 * k + 0) = 118 := t1
    have t6 := t6 rfl
    obtain ⟨M', code, e, mo⟩ := mc_blows (x := a) hM hok
    refine ⟨M', code, _, ?_, mo⟩
    by_cases h3 : M.1 (am_c (D + 6) 21) (4 * k + 3) = 1
    · rw [if_pos h3] at t6
      simp only [ae_X13_does_0, ae_X13_does_4, ae_X13_does_15, ae_X13_does_26, ae_X13_does_38, ae_X13_does_144, ae_X13_does_150, ae_X13_does_151, ae_X13_does_157, ae_X13_does_158, ae_X13_does_164, ae_X13_does_165, ae_X13_does_171, ae_X13_does_172, ae_X13_does_180, ae_X13_does_181, ae_X13_does_185, ae_X13_does_186, ae_X13_does_191, ae_X13_does_192, ae_X13_does_199, ae_X13_does_203, ae_X13_does_208, am_bnx_v, am_bnx_e, am_tl_s, am_tl_n, am_rv_s, am_add_rx, m8, av_xq4, x1, x2, x3, i0, n0, i1, n1, i2, n2, i3, n3, hx, am_sw_n (show ¬ (118 : Int32) = 98 by decide), am_sw_n (show ¬ (118 : Int32) = 99 by decide), am_sw_n (show ¬ (118 : Int32) = 100 by decide), am_sw_n (show ¬ (118 : Int32) = 101 by decide), am_sw_n (show ¬ (118 : Int32) = 102 by decide), am_sw_n (show ¬ (118 : Int32) = 103 by decide), am_sw_n (show ¬ (118 : Int32) = 104 by decide), am_sw_n (show ¬ (118 : Int32) = 105 by decide), am_sw_n (show ¬ (118 : Int32) = 106 by decide), am_sw_n (show ¬ (118 : Int32) = 107 by decide), am_sw_n (show ¬ (118 : Int32) = 108 by decide), am_sw_n (show ¬ (118 : Int32) = 109 by decide), am_sw_n (show ¬ (118 : Int32) = 110 by decide), am_sw_n (show ¬ (118 : Int32) = 111 by decide), am_sw_n (show ¬ (118 : Int32) = 112 by decide), am_sw_n (show ¬ (118 : Int32) = 113 by decide), am_sw_n (show ¬ (118 : Int32) = 114 by decide), am_sw_n (show ¬ (118 : Int32) = 115 by decide), am_sw_n (show ¬ (118 : Int32) = 116 by decide), am_sw_n (show ¬ (118 : Int32) = 117 by decide), am_sw_y (show (118 : Int32) = 118 from rfl), h3, not_true_eq_false, not_false_eq_true, if_true, if_false, am_1n0, or_true, true_or, eq_self, Bool.true_eq_false, Bool.false_eq_true, cond_true, cond_false, t6, e]
    · rw [if_neg h3] at t6
      simp only [ae_X13_does_0, ae_X13_does_4, ae_X13_does_15, ae_X13_does_26, ae_X13_does_38, ae_X13_does_144, ae_X13_does_150, ae_X13_does_151, ae_X13_does_157, ae_X13_does_158, ae_X13_does_164, ae_X13_does_165, ae_X13_does_171, ae_X13_does_172, ae_X13_does_180, ae_X13_does_181, ae_X13_does_185, ae_X13_does_186, ae_X13_does_191, ae_X13_does_192, ae_X13_does_199, ae_X13_does_203, ae_X13_does_208, am_bnx_v, am_bnx_e, am_tl_s, am_tl_n, am_rv_s, am_add_rx, m8, av_xq4, x1, x2, x3, i0, n0, i1, n1, i2, n2, i3, n3, hx, am_sw_n (show ¬ (118 : Int32) = 98 by decide), am_sw_n (show ¬ (118 : Int32) = 99 by decide), am_sw_n (show ¬ (118 : Int32) = 100 by decide), am_sw_n (show ¬ (118 : Int32) = 101 by decide), am_sw_n (show ¬ (118 : Int32) = 102 by decide), am_sw_n (show ¬ (118 : Int32) = 103 by decide), am_sw_n (show ¬ (118 : Int32) = 104 by decide), am_sw_n (show ¬ (118 : Int32) = 105 by decide), am_sw_n (show ¬ (118 : Int32) = 106 by decide), am_sw_n (show ¬ (118 : Int32) = 107 by decide), am_sw_n (show ¬ (118 : Int32) = 108 by decide), am_sw_n (show ¬ (118 : Int32) = 109 by decide), am_sw_n (show ¬ (118 : Int32) = 110 by decide), am_sw_n (show ¬ (118 : Int32) = 111 by decide), am_sw_n (show ¬ (118 : Int32) = 112 by decide), am_sw_n (show ¬ (118 : Int32) = 113 by decide), am_sw_n (show ¬ (118 : Int32) = 114 by decide), am_sw_n (show ¬ (118 : Int32) = 115 by decide), am_sw_n (show ¬ (118 : Int32) = 116 by decide), am_sw_n (show ¬ (118 : Int32) = 117 by decide), am_sw_y (show (118 : Int32) = 118 from rfl), h3, not_true_eq_false, not_false_eq_true, if_true, if_false, am_1n0, or_true, true_or, eq_self, Bool.true_eq_false, Bool.false_eq_true, cond_true, cond_false, t6, e]
theorem av_td_fm {D i : Nat} {q : tx_Q} {M X : am_M} (h : av_td D M i q) (g : av_fm D M X) : av_td D X i q := by
  have e : ∀ j, X.1 (am_c (D + 6) 21) j = M.1 (am_c (D + 6) 21) j := fun j => g.2 _ _ _ (by decide) (by omega) (by omega)
  unfold av_td
  rw [e, e, e, e]
  exact h
theorem av_fm_d {D j : Nat} {M X : am_M} (g : av_fm D M X) (hj : j < 16 ∨ 22 < j) : X.1 (am_c D 13) j = M.1 (am_c D 13) j := g.2 D 13 j (by decide) (by omega) (by omega)
theorem av_fm_r {D a k : Nat} {M X : am_M} (g : av_fm D M X) (hk : k < 64) (h1 : ¬ (a = D ∧ k = 13)) (h2 : ¬ (a = D + 1 ∧ k = 18)) : X.1 (am_c a k) = M.1 (am_c a k) := funext fun j => g.2 a k j hk (fun hh => h1 ⟨hh.1, hh.2.1⟩) h2
theorem mc_dl {D : Nat} : ∀ (r : List tx_Q) (k bd : Nat) (σ : Nat → Int32) (L : List (Nat → Int32)) (o : Option Value) (M : am_M), k + r.length ≤ 31 → bd + 40 * r.length < 1000000000 → (∀ i q, r[i]? = some q → av_td D M (k + i) q ∧ (q.2.2.2 = 0 ∨ q.2.2.2 = 1)) → M.1 (am_c D 13) 25 = nI (k + r.length) → av_MD D M σ L → av_ok bd σ L →
    ∃ M', (∀ z, (tx_x r k σ L).1 = some z → am_val iX13_commands 108 [some (.ref (am_c D 13)), some (.int (nI k)), o, none] [] M = am_val iX13_commands 131 [some (.ref (am_c D 13)), some (.int (z.2.2)), some (.int (z.1)), some (.int 0)] [] (M') ∧ M'.1 (am_c D 13) 16 = z.2.1) ∧ ((tx_x r k σ L).1 = none → (∀ x M3, am_val iX13_changed 0 [some (.ref (am_c D 13)), some (.int (nI (k + r.length))), none] [] (M') = some (.inl (some (.int x)), M3, 0, 0) → am_val iX13_commands 108 [some (.ref (am_c D 13)), some (.int (nI k)), o, none] [] M = some (.inl (some (.int x)), M3, 0, 0)) ∧ av_mr (M'.1 (am_c (D + 1) 18)) (tx_x r k σ L).2.1 (tx_x r k σ L).2.2) ∧ av_fm D M M' := by
  intro r
  induction r with
  | nil =>
    intro k bd σ L o M hk hbd ht h25 hM hok
    refine ⟨M, fun z hz => ?_, fun _ => ⟨?_, hM.2⟩, av_fm_0⟩
    · cases hz
    · intro x M3 e
      have h25 : M.1 (am_c D 13) 25 = nI k := h25
      have e : am_val iX13_changed 0 [some (.ref (am_c D 13)), some (.int (nI k)), none] [] M = some (.inl (some (.int x)), M3, 0, 0) := e
      rw [ae_X13_commands_108, h25, if_pos (Int32.le_refl _)]
      simp only [ae_X13_commands_0, ae_X13_commands_4, ae_X13_commands_48, ae_X13_commands_52, ae_X13_commands_57, ae_X13_commands_71, ae_X13_commands_74, ae_X13_commands_81, ae_X13_commands_92, ae_X13_commands_105, ae_X13_commands_106, ae_X13_commands_116, ae_X13_commands_121, ae_X13_commands_126, ae_X13_commands_129, ae_X13_commands_137, ae_X13_commands_141, ae_X13_commands_146, ae_X13_commands_155, ae_X13_commands_178, ae_X13_commands_185, ae_X13_commands_193, am_bnx_v, am_bnx_e, am_tl_s, am_tl_n, am_rv_s, am_add_rx, h25, e]
  | cons q r ih =>
    intro k bd σ L o M hk hbd ht h25 hM hok
    rw [List.length_cons] at hk hbd h25
    obtain ⟨td, hg⟩ := ht 0 q rfl
    rw [Nat.add_zero] at td
    obtain ⟨M1, code, ans, e1, fm, hq⟩ := mc_does hM hok (by omega) (by omega) td
    have hle : ¬ nI (k + (r.length + 1)) ≤ nI k := av_hl (by omega) (by omega)
    cases hr : av_ref σ L q.1 q.2.1 q.2.2.1 with
    | some xy =>
      obtain ⟨x, y⟩ := xy
      rw [tx_x_r hr]
      rw [hr] at hq
      obtain ⟨hcx, ha, -⟩ := hq
      have hx := av_ref_ne hr
      rw [hcx] at e1
      refine ⟨M1, fun z hz => ?_, fun hz => ?_, fm⟩
      · have hz : (x, y, nI k) = z := Option.some.inj hz
        rw [← hz]
        refine ⟨?_, ha⟩
        rw [ae_X13_commands_108, h25, if_neg hle]
        simp only [ae_X13_commands_0, ae_X13_commands_4, ae_X13_commands_48, ae_X13_commands_52, ae_X13_commands_57, ae_X13_commands_71, ae_X13_commands_74, ae_X13_commands_81, ae_X13_commands_92, ae_X13_commands_105, ae_X13_commands_106, ae_X13_commands_116, ae_X13_commands_121, ae_X13_commands_126, ae_X13_commands_129, ae_X13_commands_137, ae_X13_commands_141, ae_X13_commands_146, ae_X13_commands_155, ae_X13_commands_178, ae_X13_commands_185, ae_X13_commands_193, am_bnx_v, am_bnx_e, am_tl_s, am_tl_n, am_rv_s, am_add_rx, e1, hx, not_true_eq_false, not_false_eq_true, if_true, if_false, am_1n0, or_true, true_or, eq_self, Bool.true_eq_false, Bool.false_eq_true, cond_true, cond_false]
      · cases hz
    | none =>
      rw [tx_x_n hr]
      rw [hr] at hq
      obtain ⟨hcx, ha, hmr⟩ := hq
      rw [hcx] at e1
      have okn := av_ok_all hok (by omega) td.1 hg hr
      have h25' : M1.1 (am_c D 13) 25 = nI (k + 1 + r.length) := by
        rw [av_fm_d fm (by decide), h25]
        congr 1
        omega
      obtain ⟨M', z1, z2, f2⟩ := ih (k + 1) (bd + 40) _ _ (some (.int 0)) M1 (by omega) (by omega) (fun i q' hq' => by
        obtain ⟨a, b⟩ := ht (i + 1) q' hq'
        rw [show k + (i + 1) = k + 1 + i by omega] at a
        exact ⟨av_td_fm a fm, b⟩) h25' ⟨by rw [fm.1]; exact hM.1, hmr⟩ okn
      have step : am_val iX13_commands 108 [some (.ref (am_c D 13)), some (.int (nI k)), o, none] [] M = am_val iX13_commands 108 [some (.ref (am_c D 13)), some (.int (nI (k + 1))), some (.int 0), none] [] M1 := by
        rw [ae_X13_commands_108, h25, if_neg hle]
        simp only [ae_X13_commands_0, ae_X13_commands_4, ae_X13_commands_48, ae_X13_commands_52, ae_X13_commands_57, ae_X13_commands_71, ae_X13_commands_74, ae_X13_commands_81, ae_X13_commands_92, ae_X13_commands_105, ae_X13_commands_106, ae_X13_commands_116, ae_X13_commands_121, ae_X13_commands_126, ae_X13_commands_129, ae_X13_commands_137, ae_X13_commands_141, ae_X13_commands_146, ae_X13_commands_155, ae_X13_commands_178, ae_X13_commands_185, ae_X13_commands_193, am_bnx_v, am_bnx_e, am_tl_s, am_tl_n, am_rv_s, am_add_rx, e1, not_true_eq_false, not_false_eq_true, if_true, if_false, am_1n0, or_true, true_or, eq_self, Bool.true_eq_false, Bool.false_eq_true, cond_true, cond_false, nI_1]
      refine ⟨M', fun z hz => ?_, fun hz => ?_, av_fm_t fm f2⟩
      · obtain ⟨y1, y2⟩ := z1 z hz
        exact ⟨step.trans y1, y2⟩
      · obtain ⟨y1, y2⟩ := z2 hz
        rw [List.length_cons, show k + (r.length + 1) = k + 1 + r.length by omega]
        exact ⟨fun x M3 e => step.trans (y1 x M3 e), y2⟩
