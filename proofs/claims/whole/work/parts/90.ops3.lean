/-! questions on both sides: beats ahead, searches, ranks -/
theorem op_where {a b : Int32} {bd Lx : Nat} {xs : Nat → Int32} {M : am_M} (hI : av_I bd Lx xs M) : av_OP bd Lx xs (am_val iL_where 0 [some (.ref (am_c 0 12)), some (.int a), some (.int b), some (.ref (am_c 282 27)), none] [] M) (fun M1 => am_val iX13_where 0 [some (.ref (am_c 274 13)), some (.int a), some (.int b)] [] M1) := by
  obtain ⟨⟨σ, L, H, P, q, n, T, f, l, hx, hy, hS⟩, hs⟩ := hI
  have p0 := hx.1.1.1
  have p8 := hx.1.1.2.2.2.2.2.2.2.1
  have p9 := hx.1.1.2.2.2.2.2.2.2.2
  obtain ⟨rm, hC⟩ := hx.2.1
  obtain ⟨M1, c1, g1, h91⟩ := cq_where (a := a) (b := b) p0 p9 hC (by decide) hS.1 hx.2.2.2.2.2.2.2.2
  refine av_op_q (A := aq_where σ L a b) hs hy hS ⟨M1, c1, av_fp_fx g1, av_x_fp hx g1 h91⟩ (fun X yX => mq_where yX hS.1) (fun v M1 _ h => al_where_v h) (fun e k M1 hA h => ?_)
  unfold aq_where at hA
  repeat' split at hA
  all_goals first | (cases hA; done) | (cases hA; exact ⟨by decide, al_where_e1 h⟩) | (cases hA; exact ⟨by decide, al_where_e2 h⟩) | (cases hA; exact ⟨by decide, al_where_e3 h⟩)
theorem op_loudIn {a b : Int32} {bd Lx : Nat} {xs : Nat → Int32} {M : am_M} (hI : av_I bd Lx xs M) : av_OP bd Lx xs (am_val iL_loudIn 0 [some (.ref (am_c 0 12)), some (.int a), some (.int b), some (.ref (am_c 282 27)), none] [] M) (fun M1 => am_val iX13_loudIn 0 [some (.ref (am_c 274 13)), some (.int a), some (.int b)] [] M1) := by
  obtain ⟨⟨σ, L, H, P, q, n, T, f, l, hx, hy, hS⟩, hs⟩ := hI
  have p0 := hx.1.1.1
  have p8 := hx.1.1.2.2.2.2.2.2.2.1
  have p9 := hx.1.1.2.2.2.2.2.2.2.2
  obtain ⟨rm, hC⟩ := hx.2.1
  obtain ⟨M1, c1, g1, h91⟩ := cq_loudIn (a := a) (b := b) p0 p9 hC (by decide) hS.1 hx.2.2.2.2.2.2.2.2
  refine av_op_q (A := aq_loudIn σ L a b) hs hy hS ⟨M1, c1, av_fp_fx g1, av_x_fp hx g1 h91⟩ (fun X yX => mq_loudIn yX hS.1) (fun v M1 _ h => al_loudIn_v h) (fun e k M1 hA h => ?_)
  unfold aq_loudIn at hA
  repeat' split at hA
  all_goals first | (cases hA; done) | (cases hA; exact ⟨by decide, al_loudIn_e1 h⟩) | (cases hA; exact ⟨by decide, al_loudIn_e2 h⟩)
theorem op_goneIn {a : Int32} {bd Lx : Nat} {xs : Nat → Int32} {M : am_M} (hI : av_I bd Lx xs M) : av_OP bd Lx xs (am_val iL_goneIn 0 [some (.ref (am_c 0 12)), some (.int a), some (.ref (am_c 282 27)), none] [] M) (fun M1 => am_val iX13_goneIn 0 [some (.ref (am_c 274 13)), some (.int a), none] [] M1) := by
  obtain ⟨⟨σ, L, H, P, q, n, T, f, l, hx, hy, hS⟩, hs⟩ := hI
  have p0 := hx.1.1.1
  have p8 := hx.1.1.2.2.2.2.2.2.2.1
  have p9 := hx.1.1.2.2.2.2.2.2.2.2
  obtain ⟨rm, hC⟩ := hx.2.1
  obtain ⟨M1, c1, g1, h91⟩ := cq_goneIn (a := a) p0 p9 hC (by decide) hS.1 hx.2.2.2.2.2.2.2.2
  refine av_op_q (A := aq_goneIn σ L a) hs hy hS ⟨M1, c1, av_fp_fx g1, av_x_fp hx g1 h91⟩ (fun X yX => mq_goneIn yX hS.1) (fun v M1 _ h => al_goneIn_v h) (fun e k M1 hA h => ?_)
  unfold aq_goneIn at hA
  repeat' split at hA
  all_goals first | (cases hA; done) | (cases hA; exact ⟨by decide, al_goneIn_e1 h⟩)
theorem op_comesAgain {a : Int32} {bd Lx : Nat} {xs : Nat → Int32} {M : am_M} (hI : av_I bd Lx xs M) : av_OP bd Lx xs (am_val iL_comesAgain 0 [some (.ref (am_c 0 12)), some (.int a), some (.ref (am_c 282 27)), none] [] M) (fun M1 => am_val iX13_comesAgain 0 [some (.ref (am_c 274 13)), some (.int a)] [] M1) := by
  obtain ⟨⟨σ, L, H, P, q, n, T, f, l, hx, hy, hS⟩, hs⟩ := hI
  have p0 := hx.1.1.1
  have p8 := hx.1.1.2.2.2.2.2.2.2.1
  have p9 := hx.1.1.2.2.2.2.2.2.2.2
  obtain ⟨rm, hC⟩ := hx.2.1
  obtain ⟨M1, c1, g1, h91⟩ := cq_comesAgain (a := a) p0 p9 hC (by decide) hS.1 hx.2.2.2.2.2.2.2.2
  refine av_op_q (A := aq_comes σ L a) hs hy hS ⟨M1, c1, av_fp_fx g1, av_x_fp hx g1 h91⟩ (fun X yX => mq_comesAgain yX hS.1) (fun v M1 _ h => al_comesAgain_v h) (fun e k M1 hA h => ?_)
  unfold aq_comes at hA
  repeat' split at hA
  all_goals first | (cases hA; done) | (cases hA; exact ⟨by decide, al_comesAgain_e1 h⟩) | (cases hA; exact ⟨by decide, al_comesAgain_e3 h⟩)
theorem op_goneInAgain {a : Int32} {bd Lx : Nat} {xs : Nat → Int32} {M : am_M} (hI : av_I bd Lx xs M) : av_OP bd Lx xs (am_val iL_goneInAgain 0 [some (.ref (am_c 0 12)), some (.int a), some (.ref (am_c 282 27)), none] [] M) (fun M1 => am_val iX13_goneInAgain 0 [some (.ref (am_c 274 13)), some (.int a)] [] M1) := by
  obtain ⟨⟨σ, L, H, P, q, n, T, f, l, hx, hy, hS⟩, hs⟩ := hI
  have p0 := hx.1.1.1
  have p8 := hx.1.1.2.2.2.2.2.2.2.1
  have p9 := hx.1.1.2.2.2.2.2.2.2.2
  obtain ⟨rm, hC⟩ := hx.2.1
  obtain ⟨rm8, τ, K, hD⟩ := hx.2.2.2.2.2.2.2.1
  obtain ⟨M1, c1, g1, x8⟩ := cq_goneAg (a := a) p0 p8 hC hD (by decide) hS.1
  have hX : av_x M1 σ L H P q n T f l := by
    obtain ⟨h0, h1, h2, h3, h4, h5, h6, h8, h9⟩ := hx
    exact ⟨av_x0_g h0 (av_fr_ag g1 (by decide)), av_x1_g h1 (av_fr_ag g1 (by decide)), av_x2_g h2 (av_fr_ag g1 (by decide)), av_x3_g h3 (av_fr_ag g1 (by decide)), av_x4_g h4 (av_fr_ag g1 (by decide)), av_x5_g h5 (av_fr_ag g1 (by decide)), av_x6_g h6 (av_fr_ag g1 (by decide)), x8, av_xp_g h9 (av_fr_ag g1 (by decide))⟩
  refine av_op_q (A := aq_goneIn σ L a) hs hy hS ⟨M1, c1, av_fx_f g1 (by decide), hX⟩ (fun X yX => mq_goneInAgain yX hS.1) (fun v M1 _ h => al_goneInAgain_v h) (fun e k M1 hA h => ?_)
  unfold aq_goneIn at hA
  repeat' split at hA
  all_goals first | (cases hA; done) | (cases hA; exact ⟨by decide, al_goneInAgain_e1 h⟩)
theorem op_comes {a : Int32} {bd Lx : Nat} {xs : Nat → Int32} {M : am_M} (hI : av_I bd Lx xs M) : av_OP bd Lx xs (am_val iL_comes 0 [some (.ref (am_c 0 12)), some (.int a), some (.ref (am_c 282 27)), none] [] M) (fun M1 => am_val iX13_comes 0 [some (.ref (am_c 274 13)), some (.int a), none, none, none] [] M1) := by
  obtain ⟨⟨σ, L, H, P, q, n, T, f, l, hx, hy, hS⟩, hs⟩ := hI
  have p0 := hx.1.1.1
  have p8 := hx.1.1.2.2.2.2.2.2.2.1
  have p9 := hx.1.1.2.2.2.2.2.2.2.2
  obtain ⟨rm, hC⟩ := hx.2.1
  obtain ⟨rm8, τ, K, hD⟩ := hx.2.2.2.2.2.2.2.1
  obtain ⟨M1, c1, g1, x8⟩ := cq_comes (a := a) p0 p8 hC hD (by decide) hS.1
  have hX : av_x M1 σ L H P q n T f l := by
    obtain ⟨h0, h1, h2, h3, h4, h5, h6, h8, h9⟩ := hx
    exact ⟨av_x0_g h0 (av_fr_ag g1 (by decide)), av_x1_g h1 (av_fr_ag g1 (by decide)), av_x2_g h2 (av_fr_ag g1 (by decide)), av_x3_g h3 (av_fr_ag g1 (by decide)), av_x4_g h4 (av_fr_ag g1 (by decide)), av_x5_g h5 (av_fr_ag g1 (by decide)), av_x6_g h6 (av_fr_ag g1 (by decide)), x8, av_xp_g h9 (av_fr_ag g1 (by decide))⟩
  refine av_op_q (A := aq_comes σ L a) hs hy hS ⟨M1, c1, av_fx_f g1 (by decide), hX⟩ (fun X yX => mq_comes yX hS.1) (fun v M1 _ h => al_comes_v h) (fun e k M1 hA h => ?_)
  unfold aq_comes at hA
  repeat' split at hA
  all_goals first | (cases hA; done) | (cases hA; exact ⟨by decide, al_comes_e1 h⟩) | (cases hA; exact ⟨by decide, al_comes_e3 h⟩)
theorem op_returns {a b g : Int32} {bd Lx : Nat} {xs : Nat → Int32} {M : am_M} (hb : b = 0 ∨ b = 1) (hI : av_I bd Lx xs M) : av_OP bd Lx xs (am_val iL_returns 0 [some (.ref (am_c 0 12)), some (.int a), some (.int b), some (.int g), some (.ref (am_c 282 27)), none] [] M) (fun M1 => am_val iX13_returns 0 [some (.ref (am_c 274 13)), some (.int a), some (.int b), some (.int g)] [] M1) := by
  obtain ⟨⟨σ, L, H, P, q, n, T, f, l, hx, hy, hS⟩, hs⟩ := hI
  have p0 := hx.1.1.1
  have p8 := hx.1.1.2.2.2.2.2.2.2.1
  have p9 := hx.1.1.2.2.2.2.2.2.2.2
  obtain ⟨rm, hC⟩ := hx.2.1
  obtain ⟨M1, c1, g1, h91⟩ := cq_returns (a := a) (g := b) (l := g) p0 p9 hC (by decide) hb hx.2.2.2.2.2.2.2.2
  refine av_op_q (A := aq_returns σ a b g) hs hy hS ⟨M1, c1, av_fp_fx g1, av_x_fp hx g1 h91⟩ (fun X yX => mq_returns yX hS.1 hb) (fun v M1 _ h => al_returns_v h) (fun e k M1 hA h => ?_)
  unfold aq_returns at hA
  repeat' split at hA
  all_goals first | (cases hA; done) | (cases hA; exact ⟨by decide, al_returns_e1 h⟩) | (cases hA; exact ⟨by decide, al_returns_e2 h⟩)
theorem op_bestLoudness {a b : Int32} {bd Lx : Nat} {xs : Nat → Int32} {M : am_M} (hb : b = 0 ∨ b = 1) (hI : av_I bd Lx xs M) : av_OP bd Lx xs (am_val iL_bestLoudness 0 [some (.ref (am_c 0 12)), some (.int a), some (.int b), some (.ref (am_c 282 27)), none] [] M) (fun M1 => am_val iX13_bestLoudness 0 [some (.ref (am_c 274 13)), some (.int a), some (.int b), none, none, none, none] [] M1) := by
  obtain ⟨⟨σ, L, H, P, q, n, T, f, l, hx, hy, hS⟩, hs⟩ := hI
  have p0 := hx.1.1.1
  have p8 := hx.1.1.2.2.2.2.2.2.2.1
  have p9 := hx.1.1.2.2.2.2.2.2.2.2
  obtain ⟨rm, hC⟩ := hx.2.1
  obtain ⟨M1, c1, g1, h91⟩ := cq_best (a := a) (g := b) p0 p9 hC (by decide) hb hx.2.2.2.2.2.2.2.2
  refine av_op_q (A := aq_best σ a b) hs hy hS ⟨M1, c1, av_fp_fx g1, av_x_fp hx g1 h91⟩ (fun X yX => mq_best yX hS.1 hb) (fun v M1 _ h => al_bestLoudness_v h) (fun e k M1 hA h => ?_)
  unfold aq_best at hA
  repeat' split at hA
  all_goals first | (cases hA; done) | (cases hA; exact ⟨by decide, al_bestLoudness_e1 h⟩) | (cases hA; exact ⟨by decide, al_bestLoudness_e3 h⟩)
theorem op_nextWall {a b : Int32} {bd Lx : Nat} {xs : Nat → Int32} {M : am_M} (hI : av_I bd Lx xs M) : av_OP bd Lx xs (am_val iL_nextWall 0 [some (.ref (am_c 0 12)), some (.int a), some (.int b), some (.ref (am_c 282 27)), none] [] M) (fun M1 => am_val iX13_nextWall 0 [some (.ref (am_c 274 13)), some (.int a), some (.int b), none] [] M1) := by
  obtain ⟨⟨σ, L, H, P, q, n, T, f, l, hx, hy, hS⟩, hs⟩ := hI
  have p0 := hx.1.1.1
  have p8 := hx.1.1.2.2.2.2.2.2.2.1
  have p9 := hx.1.1.2.2.2.2.2.2.2.2
  obtain ⟨rm, hC⟩ := hx.2.1
  refine av_op_q (A := aq_next σ a b) hs hy hS ⟨M, cq_next p0 hC, av_fx_0, hx⟩ (fun X yX => mq_next yX hS.1) (fun v M1 _ h => al_nextWall_v h) (fun e k M1 hA h => ?_)
  unfold aq_next at hA
  repeat' split at hA
  all_goals first | (cases hA; done) | (cases hA; exact ⟨by decide, al_nextWall_e1 h⟩) | (cases hA; exact ⟨by decide, al_nextWall_e3 h⟩)
theorem op_bestTeam {a : Int32} {bd Lx : Nat} {xs : Nat → Int32} {M : am_M} (hI : av_I bd Lx xs M) : av_OP bd Lx xs (am_val iL_bestTeam 0 [some (.ref (am_c 0 12)), some (.int a), some (.ref (am_c 282 27)), none] [] M) (fun M1 => am_val iX13_bestTeam 0 [some (.ref (am_c 274 13)), some (.int a), none, none, none, none] [] M1) := by
  obtain ⟨⟨σ, L, H, P, q, n, T, f, l, hx, hy, hS⟩, hs⟩ := hI
  have p0 := hx.1.1.1
  have p8 := hx.1.1.2.2.2.2.2.2.2.1
  have p9 := hx.1.1.2.2.2.2.2.2.2.2
  obtain ⟨rm, hC⟩ := hx.2.1
  refine av_op_q (A := aq_bestTeam σ a) hs hy hS ⟨M, cq_bestTeam p0 hC hS.1, av_fx_0, hx⟩ (fun X yX => mq_bestTeam yX hS.1) (fun v M1 _ h => al_bestTeam_v h) (fun e k M1 hA h => ?_)
  unfold aq_bestTeam at hA
  repeat' split at hA
  all_goals first | (cases hA; done) | (cases hA; exact ⟨by decide, al_bestTeam_e1 h⟩) | (cases hA; exact ⟨by decide, al_bestTeam_e3 h⟩)
theorem op_ranked {a b : Int32} {bd Lx : Nat} {xs : Nat → Int32} {M : am_M} (hI : av_I bd Lx xs M) : av_OP bd Lx xs (am_val iL_ranked 0 [some (.ref (am_c 0 12)), some (.int a), some (.int b), some (.ref (am_c 282 27)), none] [] M) (fun M1 => am_val iX13_ranked 0 [some (.ref (am_c 274 13)), some (.int a), some (.int b), none, none, none, none] [] M1) := by
  obtain ⟨⟨σ, L, H, P, q, n, T, f, l, hx, hy, hS⟩, hs⟩ := hI
  have p0 := hx.1.1.1
  have p8 := hx.1.1.2.2.2.2.2.2.2.1
  have p9 := hx.1.1.2.2.2.2.2.2.2.2
  obtain ⟨rm, hC⟩ := hx.2.1
  refine av_op_q (A := aq_ranked σ a b) hs hy hS ⟨M, cq_ranked p0 hC, av_fx_0, hx⟩ (fun X yX => mq_ranked yX hS.1) (fun v M1 _ h => al_ranked_v h) (fun e k M1 hA h => ?_)
  unfold aq_ranked at hA
  repeat' split at hA
  all_goals first | (cases hA; done) | (cases hA; exact ⟨by decide, al_ranked_e2 h⟩) | (cases hA; exact ⟨by decide, al_ranked_e3 h⟩)
theorem op_loudest {a : Int32} {bd Lx : Nat} {xs : Nat → Int32} {M : am_M} (hI : av_I bd Lx xs M) : av_OP bd Lx xs (am_val iL_loudest 0 [some (.ref (am_c 0 12)), some (.int a), some (.ref (am_c 282 27)), none] [] M) (fun M1 => am_val iX13_loudest 0 [some (.ref (am_c 274 13)), some (.int a), none, none, none] [] M1) := by
  obtain ⟨⟨σ, L, H, P, q, n, T, f, l, hx, hy, hS⟩, hs⟩ := hI
  have p0 := hx.1.1.1
  have p8 := hx.1.1.2.2.2.2.2.2.2.1
  have p9 := hx.1.1.2.2.2.2.2.2.2.2
  obtain ⟨rm, hC⟩ := hx.2.1
  refine av_op_q (A := aq_loudest L a) hs hy hS ⟨M, cq_loudest p0 hC, av_fx_0, hx⟩ (fun X yX => mq_loudest yX hS.1) (fun v M1 _ h => al_loudest_v h) (fun e k M1 hA h => ?_)
  unfold aq_loudest at hA
  repeat' split at hA
  all_goals first | (cases hA; done) | (cases hA; exact ⟨by decide, al_loudest_e3 h⟩)
