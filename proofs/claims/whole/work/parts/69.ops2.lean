/-! questions on both sides -/
theorem op_wallOf {a b : Int32} {bd Lx : Nat} {xs : Nat → Int32} {M : am_M} (hI : av_I bd Lx xs M) : av_OP bd Lx xs (am_val iL_wallOf 0 [some (.ref (am_c 0 12)), some (.int a), some (.int b), some (.ref (am_c 282 27)), none] [] M) (fun M1 => am_val iX13_wallOf 0 [some (.ref (am_c 274 13)), some (.int a), some (.int b)] [] M1) := by
  obtain ⟨⟨σ, L, H, P, q, n, T, f, l, hx, hy, hS⟩, hs⟩ := hI
  have p0 := hx.1.1.1
  obtain ⟨rm, hC⟩ := hx.2.1
  refine av_op_q (A := aq_wallOf σ a b) hs hy hS ⟨M, cq_wallOf p0 hC, av_fx_0, hx⟩ (fun X yX => mq_wallOf yX) (fun v M1 _ h => al_wallOf_v h) (fun e k M1 hA h => ?_)
  unfold aq_wallOf at hA
  repeat' split at hA
  all_goals first | (cases hA; done) | (cases hA; exact ⟨by decide, al_wallOf_e1 h⟩)
theorem op_teamOf {a b : Int32} {bd Lx : Nat} {xs : Nat → Int32} {M : am_M} (hI : av_I bd Lx xs M) : av_OP bd Lx xs (am_val iL_teamOf 0 [some (.ref (am_c 0 12)), some (.int a), some (.int b), some (.ref (am_c 282 27)), none] [] M) (fun M1 => am_val iX13_teamOf 0 [some (.ref (am_c 274 13)), some (.int a), some (.int b)] [] M1) := by
  obtain ⟨⟨σ, L, H, P, q, n, T, f, l, hx, hy, hS⟩, hs⟩ := hI
  have p0 := hx.1.1.1
  obtain ⟨rm, hC⟩ := hx.2.1
  refine av_op_q (A := aq_teamOf σ L a b) hs hy hS ⟨M, cq_teamOf p0 hC, av_fx_0, hx⟩ (fun X yX => mq_teamOf yX hS.1) (fun v M1 _ h => al_teamOf_v h) (fun e k M1 hA h => ?_)
  unfold aq_teamOf at hA
  repeat' split at hA
  all_goals first | (cases hA; done) | (cases hA; exact ⟨by decide, al_teamOf_e1 h⟩) | (cases hA; exact ⟨by decide, al_teamOf_e2 h⟩)
theorem op_playerOf {a b : Int32} {bd Lx : Nat} {xs : Nat → Int32} {M : am_M} (hI : av_I bd Lx xs M) : av_OP bd Lx xs (am_val iL_playerOf 0 [some (.ref (am_c 0 12)), some (.int a), some (.int b), some (.ref (am_c 282 27)), none] [] M) (fun M1 => am_val iX13_playerOf 0 [some (.ref (am_c 274 13)), some (.int a), some (.int b)] [] M1) := by
  obtain ⟨⟨σ, L, H, P, q, n, T, f, l, hx, hy, hS⟩, hs⟩ := hI
  have p0 := hx.1.1.1
  obtain ⟨rm, hC⟩ := hx.2.1
  refine av_op_q (A := aq_playerOf σ a b) hs hy hS ⟨M, cq_playerOf p0 hC, av_fx_0, hx⟩ (fun X yX => mq_playerOf yX hS.1) (fun v M1 _ h => al_playerOf_v h) (fun e k M1 hA h => ?_)
  unfold aq_playerOf at hA
  repeat' split at hA
  all_goals first | (cases hA; done) | (cases hA; exact ⟨by decide, al_playerOf_e1 h⟩) | (cases hA; exact ⟨by decide, al_playerOf_e2 h⟩)
theorem op_soundOf {a b : Int32} {bd Lx : Nat} {xs : Nat → Int32} {M : am_M} (hI : av_I bd Lx xs M) : av_OP bd Lx xs (am_val iL_soundOf 0 [some (.ref (am_c 0 12)), some (.int a), some (.int b), some (.ref (am_c 282 27)), none] [] M) (fun M1 => am_val iX13_soundOf 0 [some (.ref (am_c 274 13)), some (.int a), some (.int b)] [] M1) := by
  obtain ⟨⟨σ, L, H, P, q, n, T, f, l, hx, hy, hS⟩, hs⟩ := hI
  have p0 := hx.1.1.1
  obtain ⟨rm, hC⟩ := hx.2.1
  refine av_op_q (A := aq_soundOf L a b) hs hy hS ⟨M, cq_soundOf p0 hC hS.1, av_fx_0, hx⟩ (fun X yX => mq_soundOf yX hS.1) (fun v M1 _ h => al_soundOf_v h) (fun e k M1 hA h => ?_)
  unfold aq_soundOf at hA
  repeat' split at hA
  all_goals first | (cases hA; done) | (cases hA; exact ⟨by decide, al_soundOf_e1 h⟩) | (cases hA; exact ⟨by decide, al_soundOf_e2 h⟩)
theorem op_isEcho {a : Int32} {bd Lx : Nat} {xs : Nat → Int32} {M : am_M} (hI : av_I bd Lx xs M) : av_OP bd Lx xs (am_val iL_isEcho 0 [some (.ref (am_c 0 12)), some (.int a), some (.ref (am_c 282 27)), none] [] M) (fun M1 => am_val iX13_isEcho 0 [some (.ref (am_c 274 13)), some (.int a)] [] M1) := by
  obtain ⟨⟨σ, L, H, P, q, n, T, f, l, hx, hy, hS⟩, hs⟩ := hI
  have p0 := hx.1.1.1
  obtain ⟨rm, hC⟩ := hx.2.1
  refine av_op_q (A := aq_isEcho L a) hs hy hS ⟨M, cq_isEcho p0 hC, av_fx_0, hx⟩ (fun X yX => mq_isEcho yX hS.1) (fun v M1 hA h => by
    unfold aq_isEcho at hA
    split at hA
    · cases hA
    · cases hA
      exact al_isEcho_v h) (fun e k M1 hA h => ?_)
  unfold aq_isEcho at hA
  repeat' split at hA
  all_goals first | (cases hA; done) | (cases hA; exact ⟨by decide, al_isEcho_e1 h⟩)
theorem op_echoesAt {a : Int32} {bd Lx : Nat} {xs : Nat → Int32} {M : am_M} (hI : av_I bd Lx xs M) : av_OP bd Lx xs (am_val iL_echoesAt 0 [some (.ref (am_c 0 12)), some (.int a), some (.ref (am_c 282 27)), none] [] M) (fun M1 => am_val iX13_echoesAt 0 [some (.ref (am_c 274 13)), some (.int a), none, none] [] M1) := by
  obtain ⟨⟨σ, L, H, P, q, n, T, f, l, hx, hy, hS⟩, hs⟩ := hI
  have p0 := hx.1.1.1
  obtain ⟨rm, hC⟩ := hx.2.1
  refine av_op_q (A := aq_echoesAt L a) hs hy hS ⟨M, cq_echoesAt p0 hC, av_fx_0, hx⟩ (fun X yX => mq_echoesAt yX hS.1) (fun v M1 _ h => al_echoesAt_v h) (fun e k M1 hA h => ?_)
  unfold aq_echoesAt at hA
  repeat' split at hA
  all_goals first | (cases hA; done) | (cases hA; exact ⟨by decide, al_echoesAt_e1 h⟩)
theorem op_price {a b : Int32} {bd Lx : Nat} {xs : Nat → Int32} {M : am_M} (hI : av_I bd Lx xs M) : av_OP bd Lx xs (am_val iL_price 0 [some (.ref (am_c 0 12)), some (.int a), some (.int b), some (.ref (am_c 282 27)), none] [] M) (fun M1 => am_val iX13_price 0 [some (.ref (am_c 274 13)), some (.int a), some (.int b)] [] M1) := by
  obtain ⟨⟨σ, L, H, P, q, n, T, f, l, hx, hy, hS⟩, hs⟩ := hI
  have p0 := hx.1.1.1
  obtain ⟨rm, hC⟩ := hx.2.1
  refine av_op_q (A := aq_price σ a b) hs hy hS ⟨M, cq_price p0 hC hS.1, av_fx_0, hx⟩ (fun X yX => mq_price yX hS.1) (fun v M1 _ h => al_price_v h) (fun e k M1 hA h => ?_)
  unfold aq_price at hA
  repeat' split at hA
  all_goals first | (cases hA; done) | (cases hA; exact ⟨by decide, al_price_e1 h⟩) | (cases hA; exact ⟨by decide, al_price_e3 h⟩)
theorem op_reason {a : Int32} {bd Lx : Nat} {xs : Nat → Int32} {M : am_M} (hI : av_I bd Lx xs M) : av_OP bd Lx xs (am_val iL_reason 0 [some (.ref (am_c 0 12)), some (.int a), some (.ref (am_c 282 27)), none] [] M) (fun M1 => am_val iX13_reason 0 [some (.ref (am_c 274 13)), some (.int a)] [] M1) := by
  obtain ⟨⟨σ, L, H, P, q, n, T, f, l, hx, hy, hS⟩, hs⟩ := hI
  have p4 := hx.1.1.2.2.2.1
  have h4 := hx.2.2.2.2.1
  refine av_op_q (A := aq_reason q a) hs hy hS ⟨M, cq_reason p4 h4, av_fx_0, hx⟩ (fun X yX => mq_reason yX) (fun v M1 _ h => al_reason_v h) (fun e k M1 hA h => ?_)
  unfold aq_reason at hA
  repeat' split at hA
  all_goals first | (cases hA; done) | (cases hA; exact ⟨by decide, al_reason_e2 h⟩) | (cases hA; exact ⟨by decide, al_reason_e3 h⟩)
theorem op_account {a : Int32} {bd Lx : Nat} {xs : Nat → Int32} {M : am_M} (hI : av_I bd Lx xs M) : av_OP bd Lx xs (am_val iL_account 0 [some (.ref (am_c 0 12)), some (.int a), some (.ref (am_c 282 27)), none] [] M) (fun M1 => am_val iX13_account 0 [some (.ref (am_c 274 13)), some (.int a)] [] M1) := by
  obtain ⟨⟨σ, L, H, P, q, n, T, f, l, hx, hy, hS⟩, hs⟩ := hI
  have p0 := hx.1.1.1
  have p1 := hx.1.1.2.1
  have p5 := hx.1.1.2.2.2.2.1
  have h2 := hx.2.2.1
  have h5 := hx.2.2.2.2.2.1
  obtain ⟨rm, hC⟩ := hx.2.1
  refine av_op_q (A := aq_account σ L H.length n a) hs hy hS ⟨M, cq_account p0 p1 p5 hC h2 h5, av_fx_0, hx⟩ (fun X yX => mq_account yX hS.1.2.2.2.2.2.2.2) (fun v M1 _ h => al_account_v h) (fun e k M1 hA h => ?_)
  unfold aq_account at hA
  by_cases h0 : a = 0
  · rw [if_pos h0] at hA
    cases hA
  rw [if_neg h0] at hA
  by_cases h1 : a = 1
  · rw [if_pos h1] at hA
    cases hA
  rw [if_neg h1] at hA
  by_cases h2 : a = 2
  · rw [if_pos h2] at hA
    cases hA
  rw [if_neg h2] at hA
  by_cases h3 : a = 3
  · rw [if_pos h3] at hA
    cases hA
  rw [if_neg h3] at hA
  by_cases h4 : a = 4
  · rw [if_pos h4] at hA
    cases hA
  rw [if_neg h4] at hA
  by_cases h5 : a = 5
  · rw [if_pos h5] at hA
    cases hA
  rw [if_neg h5] at hA
  by_cases h6 : a = 6
  · rw [if_pos h6] at hA
    cases hA
  rw [if_neg h6] at hA
  by_cases h7 : a = 7
  · rw [if_pos h7] at hA
    cases hA
  rw [if_neg h7] at hA
  by_cases h8 : a = 8
  · rw [if_pos h8] at hA
    cases hA
  rw [if_neg h8] at hA
  by_cases h9 : a = 9
  · rw [if_pos h9] at hA
    cases hA
  rw [if_neg h9] at hA
  by_cases h10 : a = 10
  · rw [if_pos h10] at hA
    cases hA
  rw [if_neg h10] at hA
  by_cases h11 : a = 11
  · rw [if_pos h11] at hA
    cases hA
  rw [if_neg h11] at hA
  all_goals first | (cases hA; done) | (cases hA; exact ⟨by decide, al_account_e2 h⟩)
theorem op_character {a : Int32} {bd Lx : Nat} {xs : Nat → Int32} {M : am_M} (hI : av_I bd Lx xs M) : av_OP bd Lx xs (am_val iL_character 0 [some (.ref (am_c 0 12)), some (.int a), some (.ref (am_c 282 27)), none] [] M) (fun M1 => am_val iX13_character 0 [some (.ref (am_c 274 13)), some (.int a)] [] M1) := by
  obtain ⟨⟨σ, L, H, P, q, n, T, f, l, hx, hy, hS⟩, hs⟩ := hI
  have p6 := hx.1.1.2.2.2.2.2.1
  have h6 := hx.2.2.2.2.2.2.1
  refine av_op_q (A := aq_char l a) hs hy hS ⟨M, cq_char p6 h6, av_fx_0, hx⟩ (fun X yX => mq_char yX h6.2.2.2.2) (fun v M1 _ h => al_character_v h) (fun e k M1 hA h => ?_)
  unfold aq_char at hA
  repeat' split at hA
  all_goals first | (cases hA; done) | (cases hA; exact ⟨by decide, al_character_e1 h⟩)
theorem op_isEven {bd Lx : Nat} {xs : Nat → Int32} {M : am_M} (hI : av_I bd Lx xs M) : av_OD bd Lx xs (am_val iX12_isEven 0 [some (.ref (am_c 0 12)), none] [] M) (fun M1 => am_val iX13_isEven 0 [some (.ref (am_c 274 13))] [] M1) := by
  obtain ⟨⟨σ, L, H, P, q, n, T, f, l, hx, hy, hS⟩, hs⟩ := hI
  have p0 := hx.1.1.1
  obtain ⟨rm, hC⟩ := hx.2.1
  obtain ⟨M2, m, s2⟩ := mq_isEven hy
  obtain ⟨m1, -⟩ := m
  exact av_od_v hs (cq_isEven p0 hC) av_fx_0 hx m1 (av_ys_fy (Nat.le_refl _) s2) (av_y_s hy s2) hS
theorem op_faultPosition {bd Lx : Nat} {xs : Nat → Int32} {M : am_M} (hI : av_I bd Lx xs M) : av_OD bd Lx xs (am_val iX12_faultPosition 0 [some (.ref (am_c 0 12))] [] M) (fun M1 => am_val iX13_faultPosition 0 [some (.ref (am_c 274 13))] [] M1) := by
  obtain ⟨⟨σ, L, H, P, q, n, T, f, l, hx, hy, hS⟩, hs⟩ := hI
  have p5 := hx.1.1.2.2.2.2.1
  have h5 := hx.2.2.2.2.2.1
  obtain ⟨M2, m, s2⟩ := mq_fault hy
  obtain ⟨m1, -⟩ := m
  exact av_od_v hs (cq_fault p5 h5) av_fx_0 hx m1 (av_ys_fy (Nat.le_refl _) s2) (av_y_s hy s2) hS
theorem op_save {bd Lx : Nat} {xs : Nat → Int32} {M : am_M} (hI : av_I bd Lx xs M) : av_OD bd Lx xs (am_val iX12_save 0 [some (.ref (am_c 0 12))] [] M) (fun M1 => am_val iX13_save 0 [some (.ref (am_c 274 13)), none] [] M1) := by
  obtain ⟨⟨σ, L, H, P, q, n, T, f, l, hx, hy, hS⟩, hs⟩ := hI
  obtain ⟨M1, e1, fx, x1⟩ := ac_save hx
  obtain ⟨M2, e2, fy, y2⟩ := mc_save2 (Nat.le_refl 274) (av_y_fx hy fx) hS.1.2.2.2.2.2.2.2
  exact av_od_v hs e1 fx x1 e2 fy y2 ⟨hS.1, hS.2.1, fun p hp => by cases hp; exact hS.1⟩
theorem op_append {x : Int32} {bd Lx : Nat} {xs : Nat → Int32} {M : am_M} (hc : (x.toUInt32 % 65536).toInt32 = x) (hI : av_I bd Lx xs M) : av_OP bd Lx xs (am_val iL_append 0 [some (.ref (am_c 0 12)), some (.int x), some (.ref (am_c 282 27)), none] [] M) (fun M1 => am_val iX13_append 0 [some (.ref (am_c 274 13)), some (.int x)] [] M1) := by
  obtain ⟨⟨σ, L, H, P, q, n, T, f, l, hx, hy, hS⟩, hs⟩ := hI
  by_cases hn : n < 60
  · obtain ⟨M1, e1, fx, x1⟩ := (ac_append hc hx).1 hn
    obtain ⟨M2, e2, fy, t, y2⟩ := (mc_append (x := x) (Nat.le_refl 274) (av_y_l (a := am_c 282 27) (j := 0) (x := (nI (n + 1)).toInt64) (av_y_fx hy fx))).1 hn
    exact av_op_v hs (al_append_v e1) fx x1 e2 fy t y2 hS
  · have e1 := (ac_append hc hx).2 hn
    obtain ⟨M2, e2, t, s2⟩ := (mc_append (x := x) (Nat.le_refl 274) hy).2 hn
    exact av_op_e hs (al_append_e4 e1) (by decide) av_fx_0 hx e2 (av_ys_fy (Nat.le_refl _) s2) t (av_y_s hy s2) hS
theorem op_undo {bd Lx : Nat} {xs : Nat → Int32} {M : am_M} (hI : av_I bd Lx xs M) : av_OP bd Lx xs (am_val iL_undo 0 [some (.ref (am_c 0 12)), some (.ref (am_c 282 27)), none] [] M) (fun M1 => am_val iX13_undo 0 [some (.ref (am_c 274 13)), none] [] M1) := by
  obtain ⟨⟨σ, L, H, P, q, n, T, f, l, hx, hy, hS⟩, hs⟩ := hI
  by_cases hn : H.length = 0
  · have e1 := (ac_undo hx).2 hn
    obtain ⟨M2, e2, t, s2⟩ := (mc_undo2 (Nat.le_refl 274) hy hS).2 hn
    exact av_op_e hs (al_undo_e4 e1) (by decide) av_fx_0 hx e2 (av_ys_fy (Nat.le_refl _) s2) t (av_y_s hy s2) hS
  · obtain ⟨m, hm⟩ : ∃ m, H.length = m + 1 := ⟨H.length - 1, by omega⟩
    obtain ⟨M1, e1, fx, x1⟩ := (ac_undo hx).1 m hm
    obtain ⟨M2, e2, fy, t, y2⟩ := (mc_undo2 (Nat.le_refl 274) (av_y_l (a := am_c 282 27) (j := 0) (x := (nI m).toInt64) (av_y_fx hy fx)) hS).1 m hm
    refine av_op_v hs (al_undo_v e1) fx x1 e2 fy t y2 ⟨hS.2.1 m (by omega), fun j hj => ?_, hS.2.2⟩
    rw [List.length_take] at hj
    rw [av_h_tk (by omega)]
    exact hS.2.1 j (by omega)
theorem op_restore {bd Lx : Nat} {xs : Nat → Int32} {M : am_M} (hI : av_I bd Lx xs M) : av_OP bd Lx xs (am_val iL_restore 0 [some (.ref (am_c 0 12)), some (.ref (am_c 282 27)), none] [] M) (fun M1 => am_val iX13_restore 0 [some (.ref (am_c 274 13)), none] [] M1) := by
  obtain ⟨⟨σ, L, H, P, q, n, T, f, l, hx, hy, hS⟩, hs⟩ := hI
  cases hP : P with
  | none =>
    have e1 := (ac_restore hx).2 hP
    obtain ⟨M2, e2, t, s2⟩ := (mc_restore2 (Nat.le_refl 274) hy hS).2 hP
    exact av_op_e hs (al_restore_e4 e1) (by decide) av_fx_0 hx e2 (av_ys_fy (Nat.le_refl _) s2) t (av_y_s hy s2) hS
  | some p =>
    obtain ⟨M1, e1, fx, x1⟩ := (ac_restore hx).1 p hP
    obtain ⟨M2, e2, fy, t, y2⟩ := (mc_restore2 (Nat.le_refl 274) (av_y_l (a := am_c 282 27) (j := 0) (x := (p.1 0).toInt64) (av_y_fx hy fx)) hS).1 p hP
    exact av_op_v hs (al_restore_v e1) fx x1 e2 fy t y2 ⟨hS.2.2 p hP, fun j hj => absurd hj (Nat.not_lt_zero _), hS.2.2⟩
