/-! the law's helpers around the class' methods -/
theorem lx_wallOf_1 {a g : Int32} {M1 : am_M} : am_hx iL_wallOf 3 0 [some (.ref (am_c 0 12)), some (.int a), some (.int g), none] 1 M1 = some (.inl (some (.int (ax 1))), M1, 0, 0) := by
  rw [show am_hx iL_wallOf 3 0 [some (.ref (am_c 0 12)), some (.int a), some (.int g), none] 1 M1 = am_val iL_wallOf 8 [some (.ref (am_c 0 12)), some (.int a), some (.int g), none] [] M1 from rfl, ae_L_wallOf_8]
  rfl
theorem lq_wallOf {a g : Int32} {Lx bd : Nat} {xs : Nat → Int32} {S : Nat → Int64} {σ : Nat → Int32} {L : List (Nat → Int32)} {H : List av_K} {P : Option av_K} {M : am_M} (hZ : pZ Lx xs S bd σ L H P M) : wq (am_val iL_wallOf 0 [some (.ref (am_c 0 12)), some (.int a), some (.int g), none] [] M) 1 (qi (pZ Lx xs S bd σ L H P) (aw (aq_wallOf σ a g))) := by
  obtain ⟨hL, hS, q, T, f, l, hx⟩ := hZ
  have p0 := hx.1.1.1
  obtain ⟨rm, hC⟩ := hx.2.1
  have c1 := cq_wallOf (p := a) (t := g) p0 hC
  have Z1 : pZ Lx xs S bd σ L H P M := ⟨hL, hS, q, T, f, l, hx⟩
  rw [ae_L_wallOf_0]
  refine lq_of c1 Z1 (fun v hv => by simp only [ae_L_wallOf_0, ae_L_wallOf_6, ae_L_wallOf_8, am_bnx_v, am_bnx_e, am_tl_s, am_tl_n, am_rv_s, am_add_rx]) (fun e k hA => ?_)
  · unfold aq_wallOf at hA
    repeat' split at hA
    all_goals first | (cases hA; done) | (cases hA; exact lx_wallOf_1)
theorem lx_teamOf_2 {a b : Int32} {M1 : am_M} : am_hx iL_teamOf 3 0 [some (.ref (am_c 0 12)), some (.int a), some (.int b), none] 2 M1 = some (.inl (some (.int (ax 2))), M1, 0, 0) := by
  rw [show am_hx iL_teamOf 3 0 [some (.ref (am_c 0 12)), some (.int a), some (.int b), none] 2 M1 = am_val iL_teamOf 12 [some (.ref (am_c 0 12)), some (.int a), some (.int b), none] [] M1 from rfl, ae_L_teamOf_12]
  rfl
theorem lx_teamOf_1 {a b : Int32} {M1 : am_M} : am_hx iL_teamOf 3 0 [some (.ref (am_c 0 12)), some (.int a), some (.int b), none] 1 M1 = some (.inl (some (.int (ax 1))), M1, 0, 0) := by
  rw [show am_hx iL_teamOf 3 0 [some (.ref (am_c 0 12)), some (.int a), some (.int b), none] 1 M1 = am_val iL_teamOf 8 [some (.ref (am_c 0 12)), some (.int a), some (.int b), none] [] M1 from rfl, ae_L_teamOf_8]
  rfl
theorem lq_teamOf {a b : Int32} {Lx bd : Nat} {xs : Nat → Int32} {S : Nat → Int64} {σ : Nat → Int32} {L : List (Nat → Int32)} {H : List av_K} {P : Option av_K} {M : am_M} (hZ : pZ Lx xs S bd σ L H P M) : wq (am_val iL_teamOf 0 [some (.ref (am_c 0 12)), some (.int a), some (.int b), none] [] M) 1 (qi (pZ Lx xs S bd σ L H P) (aw (aq_teamOf σ L a b))) := by
  obtain ⟨hL, hS, q, T, f, l, hx⟩ := hZ
  have p0 := hx.1.1.1
  obtain ⟨rm, hC⟩ := hx.2.1
  have c1 := cq_teamOf (t := a) (w := b) p0 hC
  have Z1 : pZ Lx xs S bd σ L H P M := ⟨hL, hS, q, T, f, l, hx⟩
  rw [ae_L_teamOf_0]
  refine lq_of c1 Z1 (fun v hv => by simp only [ae_L_teamOf_0, ae_L_teamOf_6, ae_L_teamOf_8, ae_L_teamOf_12, am_bnx_v, am_bnx_e, am_tl_s, am_tl_n, am_rv_s, am_add_rx]) (fun e k hA => ?_)
  · unfold aq_teamOf at hA
    repeat' split at hA
    all_goals first | (cases hA; done) | (cases hA; exact lx_teamOf_1) | (cases hA; exact lx_teamOf_2)
theorem lx_playerOf_2 {a b : Int32} {M1 : am_M} : am_hx iL_playerOf 3 0 [some (.ref (am_c 0 12)), some (.int a), some (.int b), none] 2 M1 = some (.inl (some (.int (ax 2))), M1, 0, 0) := by
  rw [show am_hx iL_playerOf 3 0 [some (.ref (am_c 0 12)), some (.int a), some (.int b), none] 2 M1 = am_val iL_playerOf 12 [some (.ref (am_c 0 12)), some (.int a), some (.int b), none] [] M1 from rfl, ae_L_playerOf_12]
  rfl
theorem lx_playerOf_1 {a b : Int32} {M1 : am_M} : am_hx iL_playerOf 3 0 [some (.ref (am_c 0 12)), some (.int a), some (.int b), none] 1 M1 = some (.inl (some (.int (ax 1))), M1, 0, 0) := by
  rw [show am_hx iL_playerOf 3 0 [some (.ref (am_c 0 12)), some (.int a), some (.int b), none] 1 M1 = am_val iL_playerOf 8 [some (.ref (am_c 0 12)), some (.int a), some (.int b), none] [] M1 from rfl, ae_L_playerOf_8]
  rfl
theorem lq_playerOf {a b : Int32} {Lx bd : Nat} {xs : Nat → Int32} {S : Nat → Int64} {σ : Nat → Int32} {L : List (Nat → Int32)} {H : List av_K} {P : Option av_K} {M : am_M} (hZ : pZ Lx xs S bd σ L H P M) : wq (am_val iL_playerOf 0 [some (.ref (am_c 0 12)), some (.int a), some (.int b), none] [] M) 1 (qi (pZ Lx xs S bd σ L H P) (aw (aq_playerOf σ a b))) := by
  obtain ⟨hL, hS, q, T, f, l, hx⟩ := hZ
  have p0 := hx.1.1.1
  obtain ⟨rm, hC⟩ := hx.2.1
  have c1 := cq_playerOf (p := a) (w := b) p0 hC
  have Z1 : pZ Lx xs S bd σ L H P M := ⟨hL, hS, q, T, f, l, hx⟩
  rw [ae_L_playerOf_0]
  refine lq_of c1 Z1 (fun v hv => by simp only [ae_L_playerOf_0, ae_L_playerOf_6, ae_L_playerOf_8, ae_L_playerOf_12, am_bnx_v, am_bnx_e, am_tl_s, am_tl_n, am_rv_s, am_add_rx]) (fun e k hA => ?_)
  · unfold aq_playerOf at hA
    repeat' split at hA
    all_goals first | (cases hA; done) | (cases hA; exact lx_playerOf_1) | (cases hA; exact lx_playerOf_2)
theorem lx_soundOf_2 {a b : Int32} {M1 : am_M} : am_hx iL_soundOf 3 0 [some (.ref (am_c 0 12)), some (.int a), some (.int b), none] 2 M1 = some (.inl (some (.int (ax 2))), M1, 0, 0) := by
  rw [show am_hx iL_soundOf 3 0 [some (.ref (am_c 0 12)), some (.int a), some (.int b), none] 2 M1 = am_val iL_soundOf 12 [some (.ref (am_c 0 12)), some (.int a), some (.int b), none] [] M1 from rfl, ae_L_soundOf_12]
  rfl
theorem lx_soundOf_1 {a b : Int32} {M1 : am_M} : am_hx iL_soundOf 3 0 [some (.ref (am_c 0 12)), some (.int a), some (.int b), none] 1 M1 = some (.inl (some (.int (ax 1))), M1, 0, 0) := by
  rw [show am_hx iL_soundOf 3 0 [some (.ref (am_c 0 12)), some (.int a), some (.int b), none] 1 M1 = am_val iL_soundOf 8 [some (.ref (am_c 0 12)), some (.int a), some (.int b), none] [] M1 from rfl, ae_L_soundOf_8]
  rfl
theorem lq_soundOf {a b : Int32} {Lx bd : Nat} {xs : Nat → Int32} {S : Nat → Int64} {σ : Nat → Int32} {L : List (Nat → Int32)} {H : List av_K} {P : Option av_K} {M : am_M} (hZ : pZ Lx xs S bd σ L H P M) : wq (am_val iL_soundOf 0 [some (.ref (am_c 0 12)), some (.int a), some (.int b), none] [] M) 1 (qi (pZ Lx xs S bd σ L H P) (aw (aq_soundOf L a b))) := by
  obtain ⟨hL, hS, q, T, f, l, hx⟩ := hZ
  have p0 := hx.1.1.1
  obtain ⟨rm, hC⟩ := hx.2.1
  have c1 := cq_soundOf (p := a) (w := b) p0 hC hS.1
  have Z1 : pZ Lx xs S bd σ L H P M := ⟨hL, hS, q, T, f, l, hx⟩
  rw [ae_L_soundOf_0]
  refine lq_of c1 Z1 (fun v hv => by simp only [ae_L_soundOf_0, ae_L_soundOf_6, ae_L_soundOf_8, ae_L_soundOf_12, am_bnx_v, am_bnx_e, am_tl_s, am_tl_n, am_rv_s, am_add_rx]) (fun e k hA => ?_)
  · unfold aq_soundOf at hA
    repeat' split at hA
    all_goals first | (cases hA; done) | (cases hA; exact lx_soundOf_1) | (cases hA; exact lx_soundOf_2)
theorem lx_isEcho_1 {a : Int32} {M1 : am_M} : am_hx iL_isEcho 2 0 [some (.ref (am_c 0 12)), some (.int a), none] 1 M1 = some (.inl (some (.int (ax 1))), M1, 0, 0) := by
  rw [show am_hx iL_isEcho 2 0 [some (.ref (am_c 0 12)), some (.int a), none] 1 M1 = am_val iL_isEcho 15 [some (.ref (am_c 0 12)), some (.int a), none] [] M1 from rfl, ae_L_isEcho_15]
  rfl
theorem lq_isEcho {a : Int32} {Lx bd : Nat} {xs : Nat → Int32} {S : Nat → Int64} {σ : Nat → Int32} {L : List (Nat → Int32)} {H : List av_K} {P : Option av_K} {M : am_M} (hZ : pZ Lx xs S bd σ L H P M) : wq (am_val iL_isEcho 0 [some (.ref (am_c 0 12)), some (.int a), none] [] M) 1 (qi (pZ Lx xs S bd σ L H P) (aw (aq_isEcho L a))) := by
  obtain ⟨hL, hS, q, T, f, l, hx⟩ := hZ
  have p0 := hx.1.1.1
  obtain ⟨rm, hC⟩ := hx.2.1
  have c1 := cq_isEcho (p := a) p0 hC
  have Z1 : pZ Lx xs S bd σ L H P M := ⟨hL, hS, q, T, f, l, hx⟩
  rw [ae_L_isEcho_0]
  refine lq_of c1 Z1 (fun v hv => ?_) (fun e k hA => ?_)
  · have hb : v = 0 ∨ v = 1 := by
      unfold aq_isEcho at hv
      split at hv
      · cases hv
      · cases hv
        cases decide (0 < av_s L (av_ix a) 3) <;> simp [am_bi_f, am_bi_t]
    rcases hb with rfl | rfl
    · simp only [ae_L_isEcho_0, ae_L_isEcho_5, ae_L_isEcho_8, ae_L_isEcho_12, ae_L_isEcho_15, am_bnx_v, am_bnx_e, am_tl_s, am_tl_n, am_rv_s, am_add_rx, not_true_eq_false, not_false_eq_true, if_true, if_false, am_1n0, or_true, true_or, eq_self, Bool.true_eq_false, Bool.false_eq_true, cond_true, cond_false]
    · simp only [ae_L_isEcho_0, ae_L_isEcho_5, ae_L_isEcho_8, ae_L_isEcho_12, ae_L_isEcho_15, am_bnx_v, am_bnx_e, am_tl_s, am_tl_n, am_rv_s, am_add_rx, not_true_eq_false, not_false_eq_true, if_true, if_false, am_1n0, or_true, true_or, eq_self, Bool.true_eq_false, Bool.false_eq_true, cond_true, cond_false]
  · unfold aq_isEcho at hA
    repeat' split at hA
    all_goals first | (cases hA; done) | (cases hA; exact lx_isEcho_1)
theorem lx_echoesAt_1 {a : Int32} {M1 : am_M} : am_hx iL_echoesAt 2 0 [some (.ref (am_c 0 12)), some (.int a), none] 1 M1 = some (.inl (some (.int (ax 1))), M1, 0, 0) := by
  rw [show am_hx iL_echoesAt 2 0 [some (.ref (am_c 0 12)), some (.int a), none] 1 M1 = am_val iL_echoesAt 7 [some (.ref (am_c 0 12)), some (.int a), none] [] M1 from rfl, ae_L_echoesAt_7]
  rfl
theorem lq_echoesAt {a : Int32} {Lx bd : Nat} {xs : Nat → Int32} {S : Nat → Int64} {σ : Nat → Int32} {L : List (Nat → Int32)} {H : List av_K} {P : Option av_K} {M : am_M} (hZ : pZ Lx xs S bd σ L H P M) : wq (am_val iL_echoesAt 0 [some (.ref (am_c 0 12)), some (.int a), none] [] M) 1 (qi (pZ Lx xs S bd σ L H P) (aw (aq_echoesAt L a))) := by
  obtain ⟨hL, hS, q, T, f, l, hx⟩ := hZ
  have p0 := hx.1.1.1
  obtain ⟨rm, hC⟩ := hx.2.1
  have c1 := cq_echoesAt (p := a) p0 hC
  have Z1 : pZ Lx xs S bd σ L H P M := ⟨hL, hS, q, T, f, l, hx⟩
  rw [ae_L_echoesAt_0]
  refine lq_of c1 Z1 (fun v hv => by simp only [ae_L_echoesAt_0, ae_L_echoesAt_5, ae_L_echoesAt_7, am_bnx_v, am_bnx_e, am_tl_s, am_tl_n, am_rv_s, am_add_rx]) (fun e k hA => ?_)
  · unfold aq_echoesAt at hA
    repeat' split at hA
    all_goals first | (cases hA; done) | (cases hA; exact lx_echoesAt_1)
theorem lx_where_2 {a b : Int32} {M1 : am_M} : am_hx iL_where 3 0 [some (.ref (am_c 0 12)), some (.int a), some (.int b), none] 2 M1 = some (.inl (some (.int (ax 2))), M1, 0, 0) := by
  rw [show am_hx iL_where 3 0 [some (.ref (am_c 0 12)), some (.int a), some (.int b), none] 2 M1 = am_val iL_where 12 [some (.ref (am_c 0 12)), some (.int a), some (.int b), none] [] M1 from rfl, ae_L_where_12]
  rfl
theorem lx_where_1 {a b : Int32} {M1 : am_M} : am_hx iL_where 3 0 [some (.ref (am_c 0 12)), some (.int a), some (.int b), none] 1 M1 = some (.inl (some (.int (ax 1))), M1, 0, 0) := by
  rw [show am_hx iL_where 3 0 [some (.ref (am_c 0 12)), some (.int a), some (.int b), none] 1 M1 = am_val iL_where 8 [some (.ref (am_c 0 12)), some (.int a), some (.int b), none] [] M1 from rfl, ae_L_where_8]
  rfl
theorem lx_where_3 {a b : Int32} {M1 : am_M} : am_hx iL_where 3 0 [some (.ref (am_c 0 12)), some (.int a), some (.int b), none] 3 M1 = some (.inl (some (.int (ax 3))), M1, 0, 0) := by
  rw [show am_hx iL_where 3 0 [some (.ref (am_c 0 12)), some (.int a), some (.int b), none] 3 M1 = am_val iL_where 16 [some (.ref (am_c 0 12)), some (.int a), some (.int b), none] [] M1 from rfl, ae_L_where_16]
  rfl
theorem lq_where {a b : Int32} {Lx bd : Nat} {xs : Nat → Int32} {S : Nat → Int64} {σ : Nat → Int32} {L : List (Nat → Int32)} {H : List av_K} {P : Option av_K} {M : am_M} (hZ : pZ Lx xs S bd σ L H P M) : wq (am_val iL_where 0 [some (.ref (am_c 0 12)), some (.int a), some (.int b), none] [] M) 1 (qi (pZ Lx xs S bd σ L H P) (aw (aq_where σ L a b))) := by
  obtain ⟨hL, hS, q, T, f, l, hx⟩ := hZ
  have p0 := hx.1.1.1
  have p9 := hx.1.1.2.2.2.2.2.2.2.2
  obtain ⟨rm, hC⟩ := hx.2.1
  obtain ⟨M1, c1, g1, h91⟩ := cq_where (a := a) (b := b) p0 p9 hC (by decide) hS.1 hx.2.2.2.2.2.2.2.2
  have Z1 : pZ Lx xs S bd σ L H P M1 := ⟨pL_fx hL (av_fp_fx g1), hS, q, T, f, l, av_x_fp hx g1 h91⟩
  rw [ae_L_where_0]
  refine lq_of c1 Z1 (fun v hv => by simp only [ae_L_where_0, ae_L_where_6, ae_L_where_8, ae_L_where_12, ae_L_where_16, am_bnx_v, am_bnx_e, am_tl_s, am_tl_n, am_rv_s, am_add_rx]) (fun e k hA => ?_)
  · unfold aq_where at hA
    repeat' split at hA
    all_goals first | (cases hA; done) | (cases hA; exact lx_where_1) | (cases hA; exact lx_where_2) | (cases hA; exact lx_where_3)
theorem lx_loudIn_2 {a b : Int32} {M1 : am_M} : am_hx iL_loudIn 3 0 [some (.ref (am_c 0 12)), some (.int a), some (.int b), none] 2 M1 = some (.inl (some (.int (ax 2))), M1, 0, 0) := by
  rw [show am_hx iL_loudIn 3 0 [some (.ref (am_c 0 12)), some (.int a), some (.int b), none] 2 M1 = am_val iL_loudIn 12 [some (.ref (am_c 0 12)), some (.int a), some (.int b), none] [] M1 from rfl, ae_L_loudIn_12]
  rfl
theorem lx_loudIn_1 {a b : Int32} {M1 : am_M} : am_hx iL_loudIn 3 0 [some (.ref (am_c 0 12)), some (.int a), some (.int b), none] 1 M1 = some (.inl (some (.int (ax 1))), M1, 0, 0) := by
  rw [show am_hx iL_loudIn 3 0 [some (.ref (am_c 0 12)), some (.int a), some (.int b), none] 1 M1 = am_val iL_loudIn 8 [some (.ref (am_c 0 12)), some (.int a), some (.int b), none] [] M1 from rfl, ae_L_loudIn_8]
  rfl
theorem lq_loudIn {a b : Int32} {Lx bd : Nat} {xs : Nat → Int32} {S : Nat → Int64} {σ : Nat → Int32} {L : List (Nat → Int32)} {H : List av_K} {P : Option av_K} {M : am_M} (hZ : pZ Lx xs S bd σ L H P M) : wq (am_val iL_loudIn 0 [some (.ref (am_c 0 12)), some (.int a), some (.int b), none] [] M) 1 (qi (pZ Lx xs S bd σ L H P) (aw (aq_loudIn σ L a b))) := by
  obtain ⟨hL, hS, q, T, f, l, hx⟩ := hZ
  have p0 := hx.1.1.1
  have p9 := hx.1.1.2.2.2.2.2.2.2.2
  obtain ⟨rm, hC⟩ := hx.2.1
  obtain ⟨M1, c1, g1, h91⟩ := cq_loudIn (a := a) (b := b) p0 p9 hC (by decide) hS.1 hx.2.2.2.2.2.2.2.2
  have Z1 : pZ Lx xs S bd σ L H P M1 := ⟨pL_fx hL (av_fp_fx g1), hS, q, T, f, l, av_x_fp hx g1 h91⟩
  rw [ae_L_loudIn_0]
  refine lq_of c1 Z1 (fun v hv => by simp only [ae_L_loudIn_0, ae_L_loudIn_6, ae_L_loudIn_8, ae_L_loudIn_12, am_bnx_v, am_bnx_e, am_tl_s, am_tl_n, am_rv_s, am_add_rx]) (fun e k hA => ?_)
  · unfold aq_loudIn at hA
    repeat' split at hA
    all_goals first | (cases hA; done) | (cases hA; exact lx_loudIn_1) | (cases hA; exact lx_loudIn_2)
theorem lx_goneIn_1 {a : Int32} {M1 : am_M} : am_hx iL_goneIn 2 0 [some (.ref (am_c 0 12)), some (.int a), none] 1 M1 = some (.inl (some (.int (ax 1))), M1, 0, 0) := by
  rw [show am_hx iL_goneIn 2 0 [some (.ref (am_c 0 12)), some (.int a), none] 1 M1 = am_val iL_goneIn 7 [some (.ref (am_c 0 12)), some (.int a), none] [] M1 from rfl, ae_L_goneIn_7]
  rfl
theorem lq_goneIn {a : Int32} {Lx bd : Nat} {xs : Nat → Int32} {S : Nat → Int64} {σ : Nat → Int32} {L : List (Nat → Int32)} {H : List av_K} {P : Option av_K} {M : am_M} (hZ : pZ Lx xs S bd σ L H P M) : wq (am_val iL_goneIn 0 [some (.ref (am_c 0 12)), some (.int a), none] [] M) 1 (qi (pZ Lx xs S bd σ L H P) (aw (aq_goneIn σ L a))) := by
  obtain ⟨hL, hS, q, T, f, l, hx⟩ := hZ
  have p0 := hx.1.1.1
  have p9 := hx.1.1.2.2.2.2.2.2.2.2
  obtain ⟨rm, hC⟩ := hx.2.1
  obtain ⟨M1, c1, g1, h91⟩ := cq_goneIn (a := a) p0 p9 hC (by decide) hS.1 hx.2.2.2.2.2.2.2.2
  have Z1 : pZ Lx xs S bd σ L H P M1 := ⟨pL_fx hL (av_fp_fx g1), hS, q, T, f, l, av_x_fp hx g1 h91⟩
  rw [ae_L_goneIn_0]
  refine lq_of c1 Z1 (fun v hv => by simp only [ae_L_goneIn_0, ae_L_goneIn_5, ae_L_goneIn_7, am_bnx_v, am_bnx_e, am_tl_s, am_tl_n, am_rv_s, am_add_rx]) (fun e k hA => ?_)
  · unfold aq_goneIn at hA
    repeat' split at hA
    all_goals first | (cases hA; done) | (cases hA; exact lx_goneIn_1)
theorem lx_goneInAgain_1 {a : Int32} {M1 : am_M} : am_hx iL_goneInAgain 2 0 [some (.ref (am_c 0 12)), some (.int a), none] 1 M1 = some (.inl (some (.int (ax 1))), M1, 0, 0) := by
  rw [show am_hx iL_goneInAgain 2 0 [some (.ref (am_c 0 12)), some (.int a), none] 1 M1 = am_val iL_goneInAgain 7 [some (.ref (am_c 0 12)), some (.int a), none] [] M1 from rfl, ae_L_goneInAgain_7]
  rfl
theorem lq_goneInAgain {a : Int32} {Lx bd : Nat} {xs : Nat → Int32} {S : Nat → Int64} {σ : Nat → Int32} {L : List (Nat → Int32)} {H : List av_K} {P : Option av_K} {M : am_M} (hZ : pZ Lx xs S bd σ L H P M) : wq (am_val iL_goneInAgain 0 [some (.ref (am_c 0 12)), some (.int a), none] [] M) 1 (qi (pZ Lx xs S bd σ L H P) (aw (aq_goneIn σ L a))) := by
  obtain ⟨hL, hS, q, T, f, l, hx⟩ := hZ
  have p0 := hx.1.1.1
  have p8 := hx.1.1.2.2.2.2.2.2.2.1
  obtain ⟨rm, hC⟩ := hx.2.1
  obtain ⟨rm8, τ, K, hD⟩ := hx.2.2.2.2.2.2.2.1
  obtain ⟨M1, c1, g1, x8⟩ := cq_goneAg (a := a) p0 p8 hC hD (by decide) hS.1
  have hX : av_x M1 σ L H P q 0 T f l := by
    obtain ⟨h0, h1, h2, h3, h4, h5, h6, h8, h9⟩ := hx
    exact ⟨av_x0_g h0 (av_fr_ag g1 (by decide)), av_x1_g h1 (av_fr_ag g1 (by decide)), av_x2_g h2 (av_fr_ag g1 (by decide)), av_x3_g h3 (av_fr_ag g1 (by decide)), av_x4_g h4 (av_fr_ag g1 (by decide)), av_x5_g h5 (av_fr_ag g1 (by decide)), av_x6_g h6 (av_fr_ag g1 (by decide)), x8, av_xp_g h9 (av_fr_ag g1 (by decide))⟩
  have Z1 : pZ Lx xs S bd σ L H P M1 := ⟨pL_fx hL (av_fx_f g1 (by decide)), hS, q, T, f, l, hX⟩
  rw [ae_L_goneInAgain_0]
  refine lq_of c1 Z1 (fun v hv => by simp only [ae_L_goneInAgain_0, ae_L_goneInAgain_5, ae_L_goneInAgain_7, am_bnx_v, am_bnx_e, am_tl_s, am_tl_n, am_rv_s, am_add_rx]) (fun e k hA => ?_)
  · unfold aq_goneIn at hA
    repeat' split at hA
    all_goals first | (cases hA; done) | (cases hA; exact lx_goneInAgain_1)
theorem lx_comes_1 {a : Int32} {M1 : am_M} : am_hx iL_comes 2 0 [some (.ref (am_c 0 12)), some (.int a), none] 1 M1 = some (.inl (some (.int (ax 1))), M1, 0, 0) := by
  rw [show am_hx iL_comes 2 0 [some (.ref (am_c 0 12)), some (.int a), none] 1 M1 = am_val iL_comes 7 [some (.ref (am_c 0 12)), some (.int a), none] [] M1 from rfl, ae_L_comes_7]
  rfl
theorem lx_comes_3 {a : Int32} {M1 : am_M} : am_hx iL_comes 2 0 [some (.ref (am_c 0 12)), some (.int a), none] 3 M1 = some (.inl (some (.int (ax 3))), M1, 0, 0) := by
  rw [show am_hx iL_comes 2 0 [some (.ref (am_c 0 12)), some (.int a), none] 3 M1 = am_val iL_comes 11 [some (.ref (am_c 0 12)), some (.int a), none] [] M1 from rfl, ae_L_comes_11]
  rfl
theorem lq_comes {a : Int32} {Lx bd : Nat} {xs : Nat → Int32} {S : Nat → Int64} {σ : Nat → Int32} {L : List (Nat → Int32)} {H : List av_K} {P : Option av_K} {M : am_M} (hZ : pZ Lx xs S bd σ L H P M) : wq (am_val iL_comes 0 [some (.ref (am_c 0 12)), some (.int a), none] [] M) 1 (qi (pZ Lx xs S bd σ L H P) (aw (aq_comes σ L a))) := by
  obtain ⟨hL, hS, q, T, f, l, hx⟩ := hZ
  have p0 := hx.1.1.1
  have p8 := hx.1.1.2.2.2.2.2.2.2.1
  obtain ⟨rm, hC⟩ := hx.2.1
  obtain ⟨rm8, τ, K, hD⟩ := hx.2.2.2.2.2.2.2.1
  obtain ⟨M1, c1, g1, x8⟩ := cq_comes (a := a) p0 p8 hC hD (by decide) hS.1
  have hX : av_x M1 σ L H P q 0 T f l := by
    obtain ⟨h0, h1, h2, h3, h4, h5, h6, h8, h9⟩ := hx
    exact ⟨av_x0_g h0 (av_fr_ag g1 (by decide)), av_x1_g h1 (av_fr_ag g1 (by decide)), av_x2_g h2 (av_fr_ag g1 (by decide)), av_x3_g h3 (av_fr_ag g1 (by decide)), av_x4_g h4 (av_fr_ag g1 (by decide)), av_x5_g h5 (av_fr_ag g1 (by decide)), av_x6_g h6 (av_fr_ag g1 (by decide)), x8, av_xp_g h9 (av_fr_ag g1 (by decide))⟩
  have Z1 : pZ Lx xs S bd σ L H P M1 := ⟨pL_fx hL (av_fx_f g1 (by decide)), hS, q, T, f, l, hX⟩
  rw [ae_L_comes_0]
  refine lq_of c1 Z1 (fun v hv => by simp only [ae_L_comes_0, ae_L_comes_5, ae_L_comes_7, ae_L_comes_11, am_bnx_v, am_bnx_e, am_tl_s, am_tl_n, am_rv_s, am_add_rx]) (fun e k hA => ?_)
  · unfold aq_comes at hA
    repeat' split at hA
    all_goals first | (cases hA; done) | (cases hA; exact lx_comes_1) | (cases hA; exact lx_comes_3)
theorem lx_comesAgain_1 {a : Int32} {M1 : am_M} : am_hx iL_comesAgain 2 0 [some (.ref (am_c 0 12)), some (.int a), none] 1 M1 = some (.inl (some (.int (ax 1))), M1, 0, 0) := by
  rw [show am_hx iL_comesAgain 2 0 [some (.ref (am_c 0 12)), some (.int a), none] 1 M1 = am_val iL_comesAgain 7 [some (.ref (am_c 0 12)), some (.int a), none] [] M1 from rfl, ae_L_comesAgain_7]
  rfl
theorem lx_comesAgain_3 {a : Int32} {M1 : am_M} : am_hx iL_comesAgain 2 0 [some (.ref (am_c 0 12)), some (.int a), none] 3 M1 = some (.inl (some (.int (ax 3))), M1, 0, 0) := by
  rw [show am_hx iL_comesAgain 2 0 [some (.ref (am_c 0 12)), some (.int a), none] 3 M1 = am_val iL_comesAgain 11 [some (.ref (am_c 0 12)), some (.int a), none] [] M1 from rfl, ae_L_comesAgain_11]
  rfl
theorem lq_comesAgain {a : Int32} {Lx bd : Nat} {xs : Nat → Int32} {S : Nat → Int64} {σ : Nat → Int32} {L : List (Nat → Int32)} {H : List av_K} {P : Option av_K} {M : am_M} (hZ : pZ Lx xs S bd σ L H P M) : wq (am_val iL_comesAgain 0 [some (.ref (am_c 0 12)), some (.int a), none] [] M) 1 (qi (pZ Lx xs S bd σ L H P) (aw (aq_comes σ L a))) := by
  obtain ⟨hL, hS, q, T, f, l, hx⟩ := hZ
  have p0 := hx.1.1.1
  have p9 := hx.1.1.2.2.2.2.2.2.2.2
  obtain ⟨rm, hC⟩ := hx.2.1
  obtain ⟨M1, c1, g1, h91⟩ := cq_comesAgain (a := a) p0 p9 hC (by decide) hS.1 hx.2.2.2.2.2.2.2.2
  have Z1 : pZ Lx xs S bd σ L H P M1 := ⟨pL_fx hL (av_fp_fx g1), hS, q, T, f, l, av_x_fp hx g1 h91⟩
  rw [ae_L_comesAgain_0]
  refine lq_of c1 Z1 (fun v hv => by simp only [ae_L_comesAgain_0, ae_L_comesAgain_5, ae_L_comesAgain_7, ae_L_comesAgain_11, am_bnx_v, am_bnx_e, am_tl_s, am_tl_n, am_rv_s, am_add_rx]) (fun e k hA => ?_)
  · unfold aq_comes at hA
    repeat' split at hA
    all_goals first | (cases hA; done) | (cases hA; exact lx_comesAgain_1) | (cases hA; exact lx_comesAgain_3)
theorem lx_returns_2 {a g b : Int32} {M1 : am_M} : am_hx iL_returns 4 0 [some (.ref (am_c 0 12)), some (.int a), some (.int g), some (.int b), none] 2 M1 = some (.inl (some (.int (ax 2))), M1, 0, 0) := by
  rw [show am_hx iL_returns 4 0 [some (.ref (am_c 0 12)), some (.int a), some (.int g), some (.int b), none] 2 M1 = am_val iL_returns 15 [some (.ref (am_c 0 12)), some (.int a), some (.int g), some (.int b), none] [] M1 from rfl, ae_L_returns_15]
  rfl
theorem lx_returns_1 {a g b : Int32} {M1 : am_M} : am_hx iL_returns 4 0 [some (.ref (am_c 0 12)), some (.int a), some (.int g), some (.int b), none] 1 M1 = some (.inl (some (.int (ax 1))), M1, 0, 0) := by
  rw [show am_hx iL_returns 4 0 [some (.ref (am_c 0 12)), some (.int a), some (.int g), some (.int b), none] 1 M1 = am_val iL_returns 10 [some (.ref (am_c 0 12)), some (.int a), some (.int g), some (.int b), none] [] M1 from rfl, ae_L_returns_10]
  rfl
theorem lq_returns {a g b : Int32} {Lx bd : Nat} {xs : Nat → Int32} {S : Nat → Int64} {σ : Nat → Int32} {L : List (Nat → Int32)} {H : List av_K} {P : Option av_K} {M : am_M} (hg : g = 0 ∨ g = 1) (hZ : pZ Lx xs S bd σ L H P M) : wq (am_val iL_returns 0 [some (.ref (am_c 0 12)), some (.int a), some (.int g), some (.int b), none] [] M) 1 (qi (pZ Lx xs S bd σ L H P) (aw (aq_returns σ a g b))) := by
  obtain ⟨hL, hS, q, T, f, l, hx⟩ := hZ
  have p0 := hx.1.1.1
  have p9 := hx.1.1.2.2.2.2.2.2.2.2
  obtain ⟨rm, hC⟩ := hx.2.1
  obtain ⟨M1, c1, g1, h91⟩ := cq_returns (a := a) (g := g) (l := b) p0 p9 hC (by decide) hg hx.2.2.2.2.2.2.2.2
  have Z1 : pZ Lx xs S bd σ L H P M1 := ⟨pL_fx hL (av_fp_fx g1), hS, q, T, f, l, av_x_fp hx g1 h91⟩
  rw [ae_L_returns_0]
  refine lq_of c1 Z1 (fun v hv => by simp only [ae_L_returns_0, ae_L_returns_7, ae_L_returns_10, ae_L_returns_15, am_bnx_v, am_bnx_e, am_tl_s, am_tl_n, am_rv_s, am_add_rx]) (fun e k hA => ?_)
  · unfold aq_returns at hA
    repeat' split at hA
    all_goals first | (cases hA; done) | (cases hA; exact lx_returns_1) | (cases hA; exact lx_returns_2)
theorem lx_bestLoudness_1 {a g : Int32} {M1 : am_M} : am_hx iL_bestLoudness 3 0 [some (.ref (am_c 0 12)), some (.int a), some (.int g), none] 1 M1 = some (.inl (some (.int (ax 1))), M1, 0, 0) := by
  rw [show am_hx iL_bestLoudness 3 0 [some (.ref (am_c 0 12)), some (.int a), some (.int g), none] 1 M1 = am_val iL_bestLoudness 8 [some (.ref (am_c 0 12)), some (.int a), some (.int g), none] [] M1 from rfl, ae_L_bestLoudness_8]
  rfl
theorem lx_bestLoudness_3 {a g : Int32} {M1 : am_M} : am_hx iL_bestLoudness 3 0 [some (.ref (am_c 0 12)), some (.int a), some (.int g), none] 3 M1 = some (.inl (some (.int (ax 3))), M1, 0, 0) := by
  rw [show am_hx iL_bestLoudness 3 0 [some (.ref (am_c 0 12)), some (.int a), some (.int g), none] 3 M1 = am_val iL_bestLoudness 12 [some (.ref (am_c 0 12)), some (.int a), some (.int g), none] [] M1 from rfl, ae_L_bestLoudness_12]
  rfl
theorem lq_bestLoudness {a g : Int32} {Lx bd : Nat} {xs : Nat → Int32} {S : Nat → Int64} {σ : Nat → Int32} {L : List (Nat → Int32)} {H : List av_K} {P : Option av_K} {M : am_M} (hg : g = 0 ∨ g = 1) (hZ : pZ Lx xs S bd σ L H P M) : wq (am_val iL_bestLoudness 0 [some (.ref (am_c 0 12)), some (.int a), some (.int g), none] [] M) 1 (qi (pZ Lx xs S bd σ L H P) (aw (aq_best σ a g))) := by
  obtain ⟨hL, hS, q, T, f, l, hx⟩ := hZ
  have p0 := hx.1.1.1
  have p9 := hx.1.1.2.2.2.2.2.2.2.2
  obtain ⟨rm, hC⟩ := hx.2.1
  obtain ⟨M1, c1, g1, h91⟩ := cq_best (a := a) (g := g) p0 p9 hC (by decide) hg hx.2.2.2.2.2.2.2.2
  have Z1 : pZ Lx xs S bd σ L H P M1 := ⟨pL_fx hL (av_fp_fx g1), hS, q, T, f, l, av_x_fp hx g1 h91⟩
  rw [ae_L_bestLoudness_0]
  refine lq_of c1 Z1 (fun v hv => by simp only [ae_L_bestLoudness_0, ae_L_bestLoudness_6, ae_L_bestLoudness_8, ae_L_bestLoudness_12, am_bnx_v, am_bnx_e, am_tl_s, am_tl_n, am_rv_s, am_add_rx]) (fun e k hA => ?_)
  · unfold aq_best at hA
    repeat' split at hA
    all_goals first | (cases hA; done) | (cases hA; exact lx_bestLoudness_1) | (cases hA; exact lx_bestLoudness_3)
theorem lx_bestTeam_1 {a : Int32} {M1 : am_M} : am_hx iL_bestTeam 2 0 [some (.ref (am_c 0 12)), some (.int a), none] 1 M1 = some (.inl (some (.int (ax 1))), M1, 0, 0) := by
  rw [show am_hx iL_bestTeam 2 0 [some (.ref (am_c 0 12)), some (.int a), none] 1 M1 = am_val iL_bestTeam 7 [some (.ref (am_c 0 12)), some (.int a), none] [] M1 from rfl, ae_L_bestTeam_7]
  rfl
theorem lx_bestTeam_3 {a : Int32} {M1 : am_M} : am_hx iL_bestTeam 2 0 [some (.ref (am_c 0 12)), some (.int a), none] 3 M1 = some (.inl (some (.int (ax 3))), M1, 0, 0) := by
  rw [show am_hx iL_bestTeam 2 0 [some (.ref (am_c 0 12)), some (.int a), none] 3 M1 = am_val iL_bestTeam 11 [some (.ref (am_c 0 12)), some (.int a), none] [] M1 from rfl, ae_L_bestTeam_11]
  rfl
theorem lq_bestTeam {a : Int32} {Lx bd : Nat} {xs : Nat → Int32} {S : Nat → Int64} {σ : Nat → Int32} {L : List (Nat → Int32)} {H : List av_K} {P : Option av_K} {M : am_M} (hZ : pZ Lx xs S bd σ L H P M) : wq (am_val iL_bestTeam 0 [some (.ref (am_c 0 12)), some (.int a), none] [] M) 1 (qi (pZ Lx xs S bd σ L H P) (aw (aq_bestTeam σ a))) := by
  obtain ⟨hL, hS, q, T, f, l, hx⟩ := hZ
  have p0 := hx.1.1.1
  obtain ⟨rm, hC⟩ := hx.2.1
  have c1 := cq_bestTeam (a := a) p0 hC hS.1
  have Z1 : pZ Lx xs S bd σ L H P M := ⟨hL, hS, q, T, f, l, hx⟩
  rw [ae_L_bestTeam_0]
  refine lq_of c1 Z1 (fun v hv => by simp only [ae_L_bestTeam_0, ae_L_bestTeam_5, ae_L_bestTeam_7, ae_L_bestTeam_11, am_bnx_v, am_bnx_e, am_tl_s, am_tl_n, am_rv_s, am_add_rx]) (fun e k hA => ?_)
  · unfold aq_bestTeam at hA
    repeat' split at hA
    all_goals first | (cases hA; done) | (cases hA; exact lx_bestTeam_1) | (cases hA; exact lx_bestTeam_3)
theorem lx_price_1 {a b : Int32} {M1 : am_M} : am_hx iL_price 3 0 [some (.ref (am_c 0 12)), some (.int a), some (.int b), none] 1 M1 = some (.inl (some (.int (ax 1))), M1, 0, 0) := by
  rw [show am_hx iL_price 3 0 [some (.ref (am_c 0 12)), some (.int a), some (.int b), none] 1 M1 = am_val iL_price 8 [some (.ref (am_c 0 12)), some (.int a), some (.int b), none] [] M1 from rfl, ae_L_price_8]
  rfl
theorem lx_price_3 {a b : Int32} {M1 : am_M} : am_hx iL_price 3 0 [some (.ref (am_c 0 12)), some (.int a), some (.int b), none] 3 M1 = some (.inl (some (.int (ax 3))), M1, 0, 0) := by
  rw [show am_hx iL_price 3 0 [some (.ref (am_c 0 12)), some (.int a), some (.int b), none] 3 M1 = am_val iL_price 12 [some (.ref (am_c 0 12)), some (.int a), some (.int b), none] [] M1 from rfl, ae_L_price_12]
  rfl
theorem lq_price {a b : Int32} {Lx bd : Nat} {xs : Nat → Int32} {S : Nat → Int64} {σ : Nat → Int32} {L : List (Nat → Int32)} {H : List av_K} {P : Option av_K} {M : am_M} (hZ : pZ Lx xs S bd σ L H P M) : wq (am_val iL_price 0 [some (.ref (am_c 0 12)), some (.int a), some (.int b), none] [] M) 1 (qi (pZ Lx xs S bd σ L H P) (aw (aq_price σ a b))) := by
  obtain ⟨hL, hS, q, T, f, l, hx⟩ := hZ
  have p0 := hx.1.1.1
  obtain ⟨rm, hC⟩ := hx.2.1
  have c1 := cq_price (t := a) (p := b) p0 hC hS.1
  have Z1 : pZ Lx xs S bd σ L H P M := ⟨hL, hS, q, T, f, l, hx⟩
  rw [ae_L_price_0]
  refine lq_of c1 Z1 (fun v hv => by simp only [ae_L_price_0, ae_L_price_6, ae_L_price_8, ae_L_price_12, am_bnx_v, am_bnx_e, am_tl_s, am_tl_n, am_rv_s, am_add_rx]) (fun e k hA => ?_)
  · unfold aq_price at hA
    repeat' split at hA
    all_goals first | (cases hA; done) | (cases hA; exact lx_price_1) | (cases hA; exact lx_price_3)
theorem lx_nextWall_1 {a g : Int32} {M1 : am_M} : am_hx iL_nextWall 3 0 [some (.ref (am_c 0 12)), some (.int a), some (.int g), none] 1 M1 = some (.inl (some (.int (ax 1))), M1, 0, 0) := by
  rw [show am_hx iL_nextWall 3 0 [some (.ref (am_c 0 12)), some (.int a), some (.int g), none] 1 M1 = am_val iL_nextWall 8 [some (.ref (am_c 0 12)), some (.int a), some (.int g), none] [] M1 from rfl, ae_L_nextWall_8]
  rfl
theorem lx_nextWall_3 {a g : Int32} {M1 : am_M} : am_hx iL_nextWall 3 0 [some (.ref (am_c 0 12)), some (.int a), some (.int g), none] 3 M1 = some (.inl (some (.int (ax 3))), M1, 0, 0) := by
  rw [show am_hx iL_nextWall 3 0 [some (.ref (am_c 0 12)), some (.int a), some (.int g), none] 3 M1 = am_val iL_nextWall 12 [some (.ref (am_c 0 12)), some (.int a), some (.int g), none] [] M1 from rfl, ae_L_nextWall_12]
  rfl
theorem lq_nextWall {a g : Int32} {Lx bd : Nat} {xs : Nat → Int32} {S : Nat → Int64} {σ : Nat → Int32} {L : List (Nat → Int32)} {H : List av_K} {P : Option av_K} {M : am_M} (hZ : pZ Lx xs S bd σ L H P M) : wq (am_val iL_nextWall 0 [some (.ref (am_c 0 12)), some (.int a), some (.int g), none] [] M) 1 (qi (pZ Lx xs S bd σ L H P) (aw (aq_next σ a g))) := by
  obtain ⟨hL, hS, q, T, f, l, hx⟩ := hZ
  have p0 := hx.1.1.1
  obtain ⟨rm, hC⟩ := hx.2.1
  have c1 := cq_next (a := a) (g := g) p0 hC
  have Z1 : pZ Lx xs S bd σ L H P M := ⟨hL, hS, q, T, f, l, hx⟩
  rw [ae_L_nextWall_0]
  refine lq_of c1 Z1 (fun v hv => by simp only [ae_L_nextWall_0, ae_L_nextWall_6, ae_L_nextWall_8, ae_L_nextWall_12, am_bnx_v, am_bnx_e, am_tl_s, am_tl_n, am_rv_s, am_add_rx]) (fun e k hA => ?_)
  · unfold aq_next at hA
    repeat' split at hA
    all_goals first | (cases hA; done) | (cases hA; exact lx_nextWall_1) | (cases hA; exact lx_nextWall_3)
theorem lx_ranked_2 {a b : Int32} {M1 : am_M} : am_hx iL_ranked 3 0 [some (.ref (am_c 0 12)), some (.int a), some (.int b), none] 2 M1 = some (.inl (some (.int (ax 2))), M1, 0, 0) := by
  rw [show am_hx iL_ranked 3 0 [some (.ref (am_c 0 12)), some (.int a), some (.int b), none] 2 M1 = am_val iL_ranked 8 [some (.ref (am_c 0 12)), some (.int a), some (.int b), none] [] M1 from rfl, ae_L_ranked_8]
  rfl
theorem lx_ranked_3 {a b : Int32} {M1 : am_M} : am_hx iL_ranked 3 0 [some (.ref (am_c 0 12)), some (.int a), some (.int b), none] 3 M1 = some (.inl (some (.int (ax 3))), M1, 0, 0) := by
  rw [show am_hx iL_ranked 3 0 [some (.ref (am_c 0 12)), some (.int a), some (.int b), none] 3 M1 = am_val iL_ranked 12 [some (.ref (am_c 0 12)), some (.int a), some (.int b), none] [] M1 from rfl, ae_L_ranked_12]
  rfl
theorem lq_ranked {a b : Int32} {Lx bd : Nat} {xs : Nat → Int32} {S : Nat → Int64} {σ : Nat → Int32} {L : List (Nat → Int32)} {H : List av_K} {P : Option av_K} {M : am_M} (hZ : pZ Lx xs S bd σ L H P M) : wq (am_val iL_ranked 0 [some (.ref (am_c 0 12)), some (.int a), some (.int b), none] [] M) 1 (qi (pZ Lx xs S bd σ L H P) (aw (aq_ranked σ a b))) := by
  obtain ⟨hL, hS, q, T, f, l, hx⟩ := hZ
  have p0 := hx.1.1.1
  obtain ⟨rm, hC⟩ := hx.2.1
  have c1 := cq_ranked (w := a) (a := b) p0 hC
  have Z1 : pZ Lx xs S bd σ L H P M := ⟨hL, hS, q, T, f, l, hx⟩
  rw [ae_L_ranked_0]
  refine lq_of c1 Z1 (fun v hv => by simp only [ae_L_ranked_0, ae_L_ranked_6, ae_L_ranked_8, ae_L_ranked_12, am_bnx_v, am_bnx_e, am_tl_s, am_tl_n, am_rv_s, am_add_rx]) (fun e k hA => ?_)
  · unfold aq_ranked at hA
    repeat' split at hA
    all_goals first | (cases hA; done) | (cases hA; exact lx_ranked_2) | (cases hA; exact lx_ranked_3)
theorem lx_loudest_3 {a : Int32} {M1 : am_M} : am_hx iL_loudest 2 0 [some (.ref (am_c 0 12)), some (.int a), none] 3 M1 = some (.inl (some (.int (ax 3))), M1, 0, 0) := by
  rw [show am_hx iL_loudest 2 0 [some (.ref (am_c 0 12)), some (.int a), none] 3 M1 = am_val iL_loudest 7 [some (.ref (am_c 0 12)), some (.int a), none] [] M1 from rfl, ae_L_loudest_7]
  rfl
theorem lq_loudest {a : Int32} {Lx bd : Nat} {xs : Nat → Int32} {S : Nat → Int64} {σ : Nat → Int32} {L : List (Nat → Int32)} {H : List av_K} {P : Option av_K} {M : am_M} (hZ : pZ Lx xs S bd σ L H P M) : wq (am_val iL_loudest 0 [some (.ref (am_c 0 12)), some (.int a), none] [] M) 1 (qi (pZ Lx xs S bd σ L H P) (aw (aq_loudest L a))) := by
  obtain ⟨hL, hS, q, T, f, l, hx⟩ := hZ
  have p0 := hx.1.1.1
  obtain ⟨rm, hC⟩ := hx.2.1
  have c1 := cq_loudest (a := a) p0 hC
  have Z1 : pZ Lx xs S bd σ L H P M := ⟨hL, hS, q, T, f, l, hx⟩
  rw [ae_L_loudest_0]
  refine lq_of c1 Z1 (fun v hv => by simp only [ae_L_loudest_0, ae_L_loudest_5, ae_L_loudest_7, am_bnx_v, am_bnx_e, am_tl_s, am_tl_n, am_rv_s, am_add_rx]) (fun e k hA => ?_)
  · unfold aq_loudest at hA
    repeat' split at hA
    all_goals first | (cases hA; done) | (cases hA; exact lx_loudest_3)
theorem lx_account_2 {a : Int32} {M1 : am_M} : am_hx iL_account 2 0 [some (.ref (am_c 0 12)), some (.int a), none] 2 M1 = some (.inl (some (.int (ax 2))), M1, 0, 0) := by
  rw [show am_hx iL_account 2 0 [some (.ref (am_c 0 12)), some (.int a), none] 2 M1 = am_val iL_account 7 [some (.ref (am_c 0 12)), some (.int a), none] [] M1 from rfl, ae_L_account_7]
  rfl
theorem lq_account {a : Int32} {Lx bd : Nat} {xs : Nat → Int32} {S : Nat → Int64} {σ : Nat → Int32} {L : List (Nat → Int32)} {H : List av_K} {P : Option av_K} {M : am_M} (hZ : pZ Lx xs S bd σ L H P M) : wq (am_val iL_account 0 [some (.ref (am_c 0 12)), some (.int a), none] [] M) 1 (qi (pZ Lx xs S bd σ L H P) (aw (aq_account σ L H.length 0 a))) := by
  obtain ⟨hL, hS, q, T, f, l, hx⟩ := hZ
  have p0 := hx.1.1.1
  obtain ⟨rm, hC⟩ := hx.2.1
  have c1 := cq_account (w := a) p0 hx.1.1.2.1 hx.1.1.2.2.2.2.1 hC hx.2.2.1 hx.2.2.2.2.2.1
  have Z1 : pZ Lx xs S bd σ L H P M := ⟨hL, hS, q, T, f, l, hx⟩
  rw [ae_L_account_0]
  refine lq_of c1 Z1 (fun v hv => by simp only [ae_L_account_0, ae_L_account_5, ae_L_account_7, am_bnx_v, am_bnx_e, am_tl_s, am_tl_n, am_rv_s, am_add_rx]) (fun e k hA => ?_)
  · unfold aq_account at hA
    by_cases h0 : a = 0
    · rw [if_pos h0] at hA
      cases hA
    rw [if_neg h0] at hA
    by_cases h1 : a = 1
    · rw [if_pos h1] at hA
      cases hA
    rw [if_neg h1] at hA
    by_cases h2 : a = 2
    · rw [if_pos h2] at hA
      cases hA
    rw [if_neg h2] at hA
    by_cases h3 : a = 3
    · rw [if_pos h3] at hA
      cases hA
    rw [if_neg h3] at hA
    by_cases h4 : a = 4
    · rw [if_pos h4] at hA
      cases hA
    rw [if_neg h4] at hA
    by_cases h5 : a = 5
    · rw [if_pos h5] at hA
      cases hA
    rw [if_neg h5] at hA
    by_cases h6 : a = 6
    · rw [if_pos h6] at hA
      cases hA
    rw [if_neg h6] at hA
    by_cases h7 : a = 7
    · rw [if_pos h7] at hA
      cases hA
    rw [if_neg h7] at hA
    by_cases h8 : a = 8
    · rw [if_pos h8] at hA
      cases hA
    rw [if_neg h8] at hA
    by_cases h9 : a = 9
    · rw [if_pos h9] at hA
      cases hA
    rw [if_neg h9] at hA
    by_cases h10 : a = 10
    · rw [if_pos h10] at hA
      cases hA
    rw [if_neg h10] at hA
    by_cases h11 : a = 11
    · rw [if_pos h11] at hA
      cases hA
    rw [if_neg h11] at hA
    cases hA
    exact lx_account_2
theorem lx_wall_0 {a b : Int32} {M1 : am_M} : am_hx iL_wall 3 0 [some (.ref (am_c 0 12)), some (.int a), some (.int b), none] 0 M1 = some (.inl (some (.int (ax 0))), M1, 0, 0) := by
  rw [show am_hx iL_wall 3 0 [some (.ref (am_c 0 12)), some (.int a), some (.int b), none] 0 M1 = am_val iL_wall 8 [some (.ref (am_c 0 12)), some (.int a), some (.int b), none] [] M1 from rfl, ae_L_wall_8]
  rfl
theorem lo_wall {a b : Int32} {Lx bd : Nat} {xs : Nat → Int32} {S : Nat → Int64} {σ : Nat → Int32} {L : List (Nat → Int32)} {H : List av_K} {P : Option av_K} {M : am_M} (hZ : pZ Lx xs S bd σ L H P M) (hbd : bd < 1000000000) : match av_ref σ L 0 a b with
    | some _ => wq (am_val iL_wall 0 [some (.ref (am_c 0 12)), some (.int a), some (.int b), none] [] M) 1 (qi (pZ Lx xs S bd σ L H P) (-76))
    | none => wq (am_val iL_wall 0 [some (.ref (am_c 0 12)), some (.int a), some (.int b), none] [] M) 1 (qi (pZ Lx xs S (bd + 40) (av_nσ σ L 0 a b) (av_nL σ L 0 a b 0) (av_pu H (σ, L)) P) (av_ans σ L 0 a b)) := by
  obtain ⟨hL, hS, q, T, f, l, hx⟩ := hZ
  obtain ⟨M1, fx, h⟩ := ac_change (c := 0) (a := a) (b := b) (g := 0) hx hS.1 (by decide) (Or.inl rfl)
  cases hr : av_ref σ L 0 a b with
  | none =>
    rw [hr] at h
    obtain ⟨e, x1⟩ := h
    have e0 : am_val iX12_wall 0 [some (.ref (am_c 0 12)), some (.int a), some (.int b)] [] M = some (.inl (some (.int (av_ans σ L 0 a b))), M1, 0, 0) := by simp only [ae_X12_wall_0, ae_X12_wall_10, am_bnx_v, am_bnx_e, am_tl_s, am_tl_n, am_rv_s, am_add_rx, e]
    show wq (am_val iL_wall 0 [some (.ref (am_c 0 12)), some (.int a), some (.int b), none] [] M) 1 (qi (pZ Lx xs S (bd + 40) (av_nσ σ L 0 a b) (av_nL σ L 0 a b 0) (av_pu H (σ, L)) P) (av_ans σ L 0 a b))
    rw [ae_L_wall_0, e0, am_bnx_v]
    simp only [ae_L_wall_0, ae_L_wall_6, ae_L_wall_8, am_bnx_v, am_bnx_e, am_tl_s, am_tl_n, am_rv_s, am_add_rx]
    exact wq_e ⟨rfl, pL_fx hL fx, av_okS_pu hS hx.2.2.1.2.1 (av_ok_all hS.1 hbd (by decide) (Or.inl rfl) hr) (by omega), _, _, _, _, x1⟩
  | some xy =>
    obtain ⟨x, y⟩ := xy
    rw [hr] at h
    obtain ⟨e, x1⟩ := h
    have e0 : am_val iX12_wall 0 [some (.ref (am_c 0 12)), some (.int a), some (.int b)] [] M = some (.inr 0, M1, 1, 6) := by simp only [ae_X12_wall_0, ae_X12_wall_10, am_bnx_v, am_bnx_e, am_tl_s, am_tl_n, am_rv_s, am_add_rx, e]
    show wq (am_val iL_wall 0 [some (.ref (am_c 0 12)), some (.int a), some (.int b), none] [] M) 1 (qi (pZ Lx xs S bd σ L H P) (-76))
    rw [ae_L_wall_0, e0, am_bnx_e, lx_wall_0]
    exact wq_add (k := 1) (K := 0) (wq_e ⟨rfl, pL_fx hL fx, hS, _, _, _, _, x1⟩) (by decide) (by decide)
theorem lx_own_0 {a b : Int32} {M1 : am_M} : am_hx iL_own 3 0 [some (.ref (am_c 0 12)), some (.int a), some (.int b), none] 0 M1 = some (.inl (some (.int (ax 0))), M1, 0, 0) := by
  rw [show am_hx iL_own 3 0 [some (.ref (am_c 0 12)), some (.int a), some (.int b), none] 0 M1 = am_val iL_own 8 [some (.ref (am_c 0 12)), some (.int a), some (.int b), none] [] M1 from rfl, ae_L_own_8]
  rfl
theorem lo_own {a b : Int32} {Lx bd : Nat} {xs : Nat → Int32} {S : Nat → Int64} {σ : Nat → Int32} {L : List (Nat → Int32)} {H : List av_K} {P : Option av_K} {M : am_M} (hZ : pZ Lx xs S bd σ L H P M) (hbd : bd < 1000000000) : match av_ref σ L 1 a b with
    | some _ => wq (am_val iL_own 0 [some (.ref (am_c 0 12)), some (.int a), some (.int b), none] [] M) 1 (qi (pZ Lx xs S bd σ L H P) (-76))
    | none => wq (am_val iL_own 0 [some (.ref (am_c 0 12)), some (.int a), some (.int b), none] [] M) 1 (qi (pZ Lx xs S (bd + 40) (av_nσ σ L 1 a b) (av_nL σ L 1 a b 0) (av_pu H (σ, L)) P) (av_ans σ L 1 a b)) := by
  obtain ⟨hL, hS, q, T, f, l, hx⟩ := hZ
  obtain ⟨M1, fx, h⟩ := ac_change (c := 1) (a := a) (b := b) (g := 0) hx hS.1 (by decide) (Or.inl rfl)
  cases hr : av_ref σ L 1 a b with
  | none =>
    rw [hr] at h
    obtain ⟨e, x1⟩ := h
    have e0 : am_val iX12_own 0 [some (.ref (am_c 0 12)), some (.int a), some (.int b)] [] M = some (.inl (some (.int (av_ans σ L 1 a b))), M1, 0, 0) := by simp only [ae_X12_own_0, ae_X12_own_10, am_bnx_v, am_bnx_e, am_tl_s, am_tl_n, am_rv_s, am_add_rx, e]
    show wq (am_val iL_own 0 [some (.ref (am_c 0 12)), some (.int a), some (.int b), none] [] M) 1 (qi (pZ Lx xs S (bd + 40) (av_nσ σ L 1 a b) (av_nL σ L 1 a b 0) (av_pu H (σ, L)) P) (av_ans σ L 1 a b))
    rw [ae_L_own_0, e0, am_bnx_v]
    simp only [ae_L_own_0, ae_L_own_6, ae_L_own_8, am_bnx_v, am_bnx_e, am_tl_s, am_tl_n, am_rv_s, am_add_rx]
    exact wq_e ⟨rfl, pL_fx hL fx, av_okS_pu hS hx.2.2.1.2.1 (av_ok_all hS.1 hbd (by decide) (Or.inl rfl) hr) (by omega), _, _, _, _, x1⟩
  | some xy =>
    obtain ⟨x, y⟩ := xy
    rw [hr] at h
    obtain ⟨e, x1⟩ := h
    have e0 : am_val iX12_own 0 [some (.ref (am_c 0 12)), some (.int a), some (.int b)] [] M = some (.inr 0, M1, 1, 6) := by simp only [ae_X12_own_0, ae_X12_own_10, am_bnx_v, am_bnx_e, am_tl_s, am_tl_n, am_rv_s, am_add_rx, e]
    show wq (am_val iL_own 0 [some (.ref (am_c 0 12)), some (.int a), some (.int b), none] [] M) 1 (qi (pZ Lx xs S bd σ L H P) (-76))
    rw [ae_L_own_0, e0, am_bnx_e, lx_own_0]
    exact wq_add (k := 1) (K := 0) (wq_e ⟨rfl, pL_fx hL fx, hS, _, _, _, _, x1⟩) (by decide) (by decide)
theorem lx_player_0 {a b : Int32} {M1 : am_M} : am_hx iL_player 3 0 [some (.ref (am_c 0 12)), some (.int a), some (.int b), none] 0 M1 = some (.inl (some (.int (ax 0))), M1, 0, 0) := by
  rw [show am_hx iL_player 3 0 [some (.ref (am_c 0 12)), some (.int a), some (.int b), none] 0 M1 = am_val iL_player 8 [some (.ref (am_c 0 12)), some (.int a), some (.int b), none] [] M1 from rfl, ae_L_player_8]
  rfl
theorem lo_player {a b : Int32} {Lx bd : Nat} {xs : Nat → Int32} {S : Nat → Int64} {σ : Nat → Int32} {L : List (Nat → Int32)} {H : List av_K} {P : Option av_K} {M : am_M} (hZ : pZ Lx xs S bd σ L H P M) (hbd : bd < 1000000000) : match av_ref σ L 2 a b with
    | some _ => wq (am_val iL_player 0 [some (.ref (am_c 0 12)), some (.int a), some (.int b), none] [] M) 1 (qi (pZ Lx xs S bd σ L H P) (-76))
    | none => wq (am_val iL_player 0 [some (.ref (am_c 0 12)), some (.int a), some (.int b), none] [] M) 1 (qi (pZ Lx xs S (bd + 40) (av_nσ σ L 2 a b) (av_nL σ L 2 a b 0) (av_pu H (σ, L)) P) (av_ans σ L 2 a b)) := by
  obtain ⟨hL, hS, q, T, f, l, hx⟩ := hZ
  obtain ⟨M1, fx, h⟩ := ac_change (c := 2) (a := a) (b := b) (g := 0) hx hS.1 (by decide) (Or.inl rfl)
  cases hr : av_ref σ L 2 a b with
  | none =>
    rw [hr] at h
    obtain ⟨e, x1⟩ := h
    have e0 : am_val iX12_player 0 [some (.ref (am_c 0 12)), some (.int a), some (.int b)] [] M = some (.inl (some (.int (av_ans σ L 2 a b))), M1, 0, 0) := by simp only [ae_X12_player_0, ae_X12_player_10, am_bnx_v, am_bnx_e, am_tl_s, am_tl_n, am_rv_s, am_add_rx, e]
    show wq (am_val iL_player 0 [some (.ref (am_c 0 12)), some (.int a), some (.int b), none] [] M) 1 (qi (pZ Lx xs S (bd + 40) (av_nσ σ L 2 a b) (av_nL σ L 2 a b 0) (av_pu H (σ, L)) P) (av_ans σ L 2 a b))
    rw [ae_L_player_0, e0, am_bnx_v]
    simp only [ae_L_player_0, ae_L_player_6, ae_L_player_8, am_bnx_v, am_bnx_e, am_tl_s, am_tl_n, am_rv_s, am_add_rx]
    exact wq_e ⟨rfl, pL_fx hL fx, av_okS_pu hS hx.2.2.1.2.1 (av_ok_all hS.1 hbd (by decide) (Or.inl rfl) hr) (by omega), _, _, _, _, x1⟩
  | some xy =>
    obtain ⟨x, y⟩ := xy
    rw [hr] at h
    obtain ⟨e, x1⟩ := h
    have e0 : am_val iX12_player 0 [some (.ref (am_c 0 12)), some (.int a), some (.int b)] [] M = some (.inr 0, M1, 1, 6) := by simp only [ae_X12_player_0, ae_X12_player_10, am_bnx_v, am_bnx_e, am_tl_s, am_tl_n, am_rv_s, am_add_rx, e]
    show wq (am_val iL_player 0 [some (.ref (am_c 0 12)), some (.int a), some (.int b), none] [] M) 1 (qi (pZ Lx xs S bd σ L H P) (-76))
    rw [ae_L_player_0, e0, am_bnx_e, lx_player_0]
    exact wq_add (k := 1) (K := 0) (wq_e ⟨rfl, pL_fx hL fx, hS, _, _, _, _, x1⟩) (by decide) (by decide)
theorem lx_move_0 {a b : Int32} {M1 : am_M} : am_hx iL_move 3 0 [some (.ref (am_c 0 12)), some (.int a), some (.int b), none] 0 M1 = some (.inl (some (.int (ax 0))), M1, 0, 0) := by
  rw [show am_hx iL_move 3 0 [some (.ref (am_c 0 12)), some (.int a), some (.int b), none] 0 M1 = am_val iL_move 8 [some (.ref (am_c 0 12)), some (.int a), some (.int b), none] [] M1 from rfl, ae_L_move_8]
  rfl
theorem lo_move {a b : Int32} {Lx bd : Nat} {xs : Nat → Int32} {S : Nat → Int64} {σ : Nat → Int32} {L : List (Nat → Int32)} {H : List av_K} {P : Option av_K} {M : am_M} (hZ : pZ Lx xs S bd σ L H P M) (hbd : bd < 1000000000) : match av_ref σ L 3 a b with
    | some _ => wq (am_val iL_move 0 [some (.ref (am_c 0 12)), some (.int a), some (.int b), none] [] M) 1 (qi (pZ Lx xs S bd σ L H P) (-76))
    | none => wq (am_val iL_move 0 [some (.ref (am_c 0 12)), some (.int a), some (.int b), none] [] M) 1 (qi (pZ Lx xs S (bd + 40) (av_nσ σ L 3 a b) (av_nL σ L 3 a b 0) (av_pu H (σ, L)) P) (av_ans σ L 3 a b)) := by
  obtain ⟨hL, hS, q, T, f, l, hx⟩ := hZ
  obtain ⟨M1, fx, h⟩ := ac_change (c := 3) (a := a) (b := b) (g := 0) hx hS.1 (by decide) (Or.inl rfl)
  cases hr : av_ref σ L 3 a b with
  | none =>
    rw [hr] at h
    obtain ⟨e, x1⟩ := h
    have e0 : am_val iX12_move 0 [some (.ref (am_c 0 12)), some (.int a), some (.int b)] [] M = some (.inl (some (.int (av_ans σ L 3 a b))), M1, 0, 0) := by simp only [ae_X12_move_0, ae_X12_move_10, am_bnx_v, am_bnx_e, am_tl_s, am_tl_n, am_rv_s, am_add_rx, e]
    show wq (am_val iL_move 0 [some (.ref (am_c 0 12)), some (.int a), some (.int b), none] [] M) 1 (qi (pZ Lx xs S (bd + 40) (av_nσ σ L 3 a b) (av_nL σ L 3 a b 0) (av_pu H (σ, L)) P) (av_ans σ L 3 a b))
    rw [ae_L_move_0, e0, am_bnx_v]
    simp only [ae_L_move_0, ae_L_move_6, ae_L_move_8, am_bnx_v, am_bnx_e, am_tl_s, am_tl_n, am_rv_s, am_add_rx]
    exact wq_e ⟨rfl, pL_fx hL fx, av_okS_pu hS hx.2.2.1.2.1 (av_ok_all hS.1 hbd (by decide) (Or.inl rfl) hr) (by omega), _, _, _, _, x1⟩
  | some xy =>
    obtain ⟨x, y⟩ := xy
    rw [hr] at h
    obtain ⟨e, x1⟩ := h
    have e0 : am_val iX12_move 0 [some (.ref (am_c 0 12)), some (.int a), some (.int b)] [] M = some (.inr 0, M1, 1, 6) := by simp only [ae_X12_move_0, ae_X12_move_10, am_bnx_v, am_bnx_e, am_tl_s, am_tl_n, am_rv_s, am_add_rx, e]
    show wq (am_val iL_move 0 [some (.ref (am_c 0 12)), some (.int a), some (.int b), none] [] M) 1 (qi (pZ Lx xs S bd σ L H P) (-76))
    rw [ae_L_move_0, e0, am_bnx_e, lx_move_0]
    exact wq_add (k := 1) (K := 0) (wq_e ⟨rfl, pL_fx hL fx, hS, _, _, _, _, x1⟩) (by decide) (by decide)
theorem lx_shout_0 {a g b : Int32} {M1 : am_M} : am_hx iL_shout 4 0 [some (.ref (am_c 0 12)), some (.int a), some (.int g), some (.int b), none] 0 M1 = some (.inl (some (.int (ax 0))), M1, 0, 0) := by
  rw [show am_hx iL_shout 4 0 [some (.ref (am_c 0 12)), some (.int a), some (.int g), some (.int b), none] 0 M1 = am_val iL_shout 10 [some (.ref (am_c 0 12)), some (.int a), some (.int g), some (.int b), none] [] M1 from rfl, ae_L_shout_10]
  rfl
theorem lo_shout {a g b : Int32} {Lx bd : Nat} {xs : Nat → Int32} {S : Nat → Int64} {σ : Nat → Int32} {L : List (Nat → Int32)} {H : List av_K} {P : Option av_K} {M : am_M} (hg : g = 0 ∨ g = 1) (hZ : pZ Lx xs S bd σ L H P M) (hbd : bd < 1000000000) : match av_ref σ L 4 a b with
    | some _ => wq (am_val iL_shout 0 [some (.ref (am_c 0 12)), some (.int a), some (.int g), some (.int b), none] [] M) 1 (qi (pZ Lx xs S bd σ L H P) (-76))
    | none => wq (am_val iL_shout 0 [some (.ref (am_c 0 12)), some (.int a), some (.int g), some (.int b), none] [] M) 1 (qi (pZ Lx xs S (bd + 40) (av_nσ σ L 4 a b) (av_nL σ L 4 a b g) (av_pu H (σ, L)) P) (av_ans σ L 4 a b)) := by
  obtain ⟨hL, hS, q, T, f, l, hx⟩ := hZ
  obtain ⟨M1, fx, h⟩ := ac_change (c := 4) (a := a) (b := b) (g := g) hx hS.1 (by decide) hg
  cases hr : av_ref σ L 4 a b with
  | none =>
    rw [hr] at h
    obtain ⟨e, x1⟩ := h
    have e0 : am_val iX12_shout 0 [some (.ref (am_c 0 12)), some (.int a), some (.int g), some (.int b)] [] M = some (.inl (some (.int (av_ans σ L 4 a b))), M1, 0, 0) := by simp only [ae_X12_shout_0, ae_X12_shout_10, am_bnx_v, am_bnx_e, am_tl_s, am_tl_n, am_rv_s, am_add_rx, e]
    show wq (am_val iL_shout 0 [some (.ref (am_c 0 12)), some (.int a), some (.int g), some (.int b), none] [] M) 1 (qi (pZ Lx xs S (bd + 40) (av_nσ σ L 4 a b) (av_nL σ L 4 a b g) (av_pu H (σ, L)) P) (av_ans σ L 4 a b))
    rw [ae_L_shout_0, e0, am_bnx_v]
    simp only [ae_L_shout_0, ae_L_shout_7, ae_L_shout_10, am_bnx_v, am_bnx_e, am_tl_s, am_tl_n, am_rv_s, am_add_rx]
    exact wq_e ⟨rfl, pL_fx hL fx, av_okS_pu hS hx.2.2.1.2.1 (av_ok_all hS.1 hbd (by decide) hg hr) (by omega), _, _, _, _, x1⟩
  | some xy =>
    obtain ⟨x, y⟩ := xy
    rw [hr] at h
    obtain ⟨e, x1⟩ := h
    have e0 : am_val iX12_shout 0 [some (.ref (am_c 0 12)), some (.int a), some (.int g), some (.int b)] [] M = some (.inr 0, M1, 1, 6) := by simp only [ae_X12_shout_0, ae_X12_shout_10, am_bnx_v, am_bnx_e, am_tl_s, am_tl_n, am_rv_s, am_add_rx, e]
    show wq (am_val iL_shout 0 [some (.ref (am_c 0 12)), some (.int a), some (.int g), some (.int b), none] [] M) 1 (qi (pZ Lx xs S bd σ L H P) (-76))
    rw [ae_L_shout_0, e0, am_bnx_e, lx_shout_0]
    exact wq_add (k := 1) (K := 0) (wq_e ⟨rfl, pL_fx hL fx, hS, _, _, _, _, x1⟩) (by decide) (by decide)
theorem lx_beat_0 {M1 : am_M} : am_hx iL_beat 1 0 [some (.ref (am_c 0 12)), none] 0 M1 = some (.inl (some (.int (ax 0))), M1, 0, 0) := by
  rw [show am_hx iL_beat 1 0 [some (.ref (am_c 0 12)), none] 0 M1 = am_val iL_beat 6 [some (.ref (am_c 0 12)), none] [] M1 from rfl, ae_L_beat_6]
  rfl
theorem lo_beat {Lx bd : Nat} {xs : Nat → Int32} {S : Nat → Int64} {σ : Nat → Int32} {L : List (Nat → Int32)} {H : List av_K} {P : Option av_K} {M : am_M} (hZ : pZ Lx xs S bd σ L H P M) (hbd : bd < 1000000000) : match av_ref σ L 5 0 0 with
    | some _ => wq (am_val iL_beat 0 [some (.ref (am_c 0 12)), none] [] M) 1 (qi (pZ Lx xs S bd σ L H P) (-76))
    | none => wq (am_val iL_beat 0 [some (.ref (am_c 0 12)), none] [] M) 1 (qi (pZ Lx xs S (bd + 40) (av_nσ σ L 5 0 0) (av_nL σ L 5 0 0 0) (av_pu H (σ, L)) P) (av_ans σ L 5 0 0)) := by
  obtain ⟨hL, hS, q, T, f, l, hx⟩ := hZ
  obtain ⟨M1, fx, h⟩ := ac_change (c := 5) (a := 0) (b := 0) (g := 0) hx hS.1 (by decide) (Or.inl rfl)
  cases hr : av_ref σ L 5 0 0 with
  | none =>
    rw [hr] at h
    obtain ⟨e, x1⟩ := h
    have e0 : am_val iX12_beat 0 [some (.ref (am_c 0 12))] [] M = some (.inl (some (.int (av_ans σ L 5 0 0))), M1, 0, 0) := by simp only [ae_X12_beat_0, ae_X12_beat_10, am_bnx_v, am_bnx_e, am_tl_s, am_tl_n, am_rv_s, am_add_rx, e]
    show wq (am_val iL_beat 0 [some (.ref (am_c 0 12)), none] [] M) 1 (qi (pZ Lx xs S (bd + 40) (av_nσ σ L 5 0 0) (av_nL σ L 5 0 0 0) (av_pu H (σ, L)) P) (av_ans σ L 5 0 0))
    rw [ae_L_beat_0, e0, am_bnx_v]
    simp only [ae_L_beat_0, ae_L_beat_4, ae_L_beat_6, am_bnx_v, am_bnx_e, am_tl_s, am_tl_n, am_rv_s, am_add_rx]
    exact wq_e ⟨rfl, pL_fx hL fx, av_okS_pu hS hx.2.2.1.2.1 (av_ok_all hS.1 hbd (by decide) (Or.inl rfl) hr) (by omega), _, _, _, _, x1⟩
  | some xy =>
    obtain ⟨x, y⟩ := xy
    rw [hr] at h
    obtain ⟨e, x1⟩ := h
    have e0 : am_val iX12_beat 0 [some (.ref (am_c 0 12))] [] M = some (.inr 0, M1, 1, 6) := by simp only [ae_X12_beat_0, ae_X12_beat_10, am_bnx_v, am_bnx_e, am_tl_s, am_tl_n, am_rv_s, am_add_rx, e]
    show wq (am_val iL_beat 0 [some (.ref (am_c 0 12)), none] [] M) 1 (qi (pZ Lx xs S bd σ L H P) (-76))
    rw [ae_L_beat_0, e0, am_bnx_e, lx_beat_0]
    exact wq_add (k := 1) (K := 0) (wq_e ⟨rfl, pL_fx hL fx, hS, _, _, _, _, x1⟩) (by decide) (by decide)
theorem lx_catchEcho_0 {a : Int32} {M1 : am_M} : am_hx iL_catchEcho 2 0 [some (.ref (am_c 0 12)), some (.int a), none] 0 M1 = some (.inl (some (.int (ax 0))), M1, 0, 0) := by
  rw [show am_hx iL_catchEcho 2 0 [some (.ref (am_c 0 12)), some (.int a), none] 0 M1 = am_val iL_catchEcho 7 [some (.ref (am_c 0 12)), some (.int a), none] [] M1 from rfl, ae_L_catchEcho_7]
  rfl
theorem lo_catchEcho {a : Int32} {Lx bd : Nat} {xs : Nat → Int32} {S : Nat → Int64} {σ : Nat → Int32} {L : List (Nat → Int32)} {H : List av_K} {P : Option av_K} {M : am_M} (hZ : pZ Lx xs S bd σ L H P M) (hbd : bd < 1000000000) : match av_ref σ L 6 a 0 with
    | some _ => wq (am_val iL_catchEcho 0 [some (.ref (am_c 0 12)), some (.int a), none] [] M) 1 (qi (pZ Lx xs S bd σ L H P) (-76))
    | none => wq (am_val iL_catchEcho 0 [some (.ref (am_c 0 12)), some (.int a), none] [] M) 1 (qi (pZ Lx xs S (bd + 40) (av_nσ σ L 6 a 0) (av_nL σ L 6 a 0 0) (av_pu H (σ, L)) P) (av_ans σ L 6 a 0)) := by
  obtain ⟨hL, hS, q, T, f, l, hx⟩ := hZ
  obtain ⟨M1, fx, h⟩ := ac_change (c := 6) (a := a) (b := 0) (g := 0) hx hS.1 (by decide) (Or.inl rfl)
  cases hr : av_ref σ L 6 a 0 with
  | none =>
    rw [hr] at h
    obtain ⟨e, x1⟩ := h
    have e0 : am_val iX12_catchEcho 0 [some (.ref (am_c 0 12)), some (.int a)] [] M = some (.inl (some (.int (av_ans σ L 6 a 0))), M1, 0, 0) := by simp only [ae_X12_catchEcho_0, ae_X12_catchEcho_10, am_bnx_v, am_bnx_e, am_tl_s, am_tl_n, am_rv_s, am_add_rx, e]
    show wq (am_val iL_catchEcho 0 [some (.ref (am_c 0 12)), some (.int a), none] [] M) 1 (qi (pZ Lx xs S (bd + 40) (av_nσ σ L 6 a 0) (av_nL σ L 6 a 0 0) (av_pu H (σ, L)) P) (av_ans σ L 6 a 0))
    rw [ae_L_catchEcho_0, e0, am_bnx_v]
    simp only [ae_L_catchEcho_0, ae_L_catchEcho_5, ae_L_catchEcho_7, am_bnx_v, am_bnx_e, am_tl_s, am_tl_n, am_rv_s, am_add_rx]
    exact wq_e ⟨rfl, pL_fx hL fx, av_okS_pu hS hx.2.2.1.2.1 (av_ok_all hS.1 hbd (by decide) (Or.inl rfl) hr) (by omega), _, _, _, _, x1⟩
  | some xy =>
    obtain ⟨x, y⟩ := xy
    rw [hr] at h
    obtain ⟨e, x1⟩ := h
    have e0 : am_val iX12_catchEcho 0 [some (.ref (am_c 0 12)), some (.int a)] [] M = some (.inr 0, M1, 1, 6) := by simp only [ae_X12_catchEcho_0, ae_X12_catchEcho_10, am_bnx_v, am_bnx_e, am_tl_s, am_tl_n, am_rv_s, am_add_rx, e]
    show wq (am_val iL_catchEcho 0 [some (.ref (am_c 0 12)), some (.int a), none] [] M) 1 (qi (pZ Lx xs S bd σ L H P) (-76))
    rw [ae_L_catchEcho_0, e0, am_bnx_e, lx_catchEcho_0]
    exact wq_add (k := 1) (K := 0) (wq_e ⟨rfl, pL_fx hL fx, hS, _, _, _, _, x1⟩) (by decide) (by decide)
theorem lx_wind_0 {a : Int32} {M1 : am_M} : am_hx iL_wind 2 0 [some (.ref (am_c 0 12)), some (.int a), none] 0 M1 = some (.inl (some (.int (ax 0))), M1, 0, 0) := by
  rw [show am_hx iL_wind 2 0 [some (.ref (am_c 0 12)), some (.int a), none] 0 M1 = am_val iL_wind 7 [some (.ref (am_c 0 12)), some (.int a), none] [] M1 from rfl, ae_L_wind_7]
  rfl
theorem lo_wind {a : Int32} {Lx bd : Nat} {xs : Nat → Int32} {S : Nat → Int64} {σ : Nat → Int32} {L : List (Nat → Int32)} {H : List av_K} {P : Option av_K} {M : am_M} (hZ : pZ Lx xs S bd σ L H P M) (hbd : bd < 1000000000) : match av_ref σ L 7 a 0 with
    | some _ => wq (am_val iL_wind 0 [some (.ref (am_c 0 12)), some (.int a), none] [] M) 1 (qi (pZ Lx xs S bd σ L H P) (-76))
    | none => wq (am_val iL_wind 0 [some (.ref (am_c 0 12)), some (.int a), none] [] M) 1 (qi (pZ Lx xs S (bd + 40) (av_nσ σ L 7 a 0) (av_nL σ L 7 a 0 0) (av_pu H (σ, L)) P) (av_ans σ L 7 a 0)) := by
  obtain ⟨hL, hS, q, T, f, l, hx⟩ := hZ
  obtain ⟨M1, fx, h⟩ := ac_change (c := 7) (a := a) (b := 0) (g := 0) hx hS.1 (by decide) (Or.inl rfl)
  cases hr : av_ref σ L 7 a 0 with
  | none =>
    rw [hr] at h
    obtain ⟨e, x1⟩ := h
    have e0 : am_val iX12_wind 0 [some (.ref (am_c 0 12)), some (.int a)] [] M = some (.inl (some (.int (av_ans σ L 7 a 0))), M1, 0, 0) := by simp only [ae_X12_wind_0, ae_X12_wind_10, am_bnx_v, am_bnx_e, am_tl_s, am_tl_n, am_rv_s, am_add_rx, e]
    show wq (am_val iL_wind 0 [some (.ref (am_c 0 12)), some (.int a), none] [] M) 1 (qi (pZ Lx xs S (bd + 40) (av_nσ σ L 7 a 0) (av_nL σ L 7 a 0 0) (av_pu H (σ, L)) P) (av_ans σ L 7 a 0))
    rw [ae_L_wind_0, e0, am_bnx_v]
    simp only [ae_L_wind_0, ae_L_wind_5, ae_L_wind_7, am_bnx_v, am_bnx_e, am_tl_s, am_tl_n, am_rv_s, am_add_rx]
    exact wq_e ⟨rfl, pL_fx hL fx, av_okS_pu hS hx.2.2.1.2.1 (av_ok_all hS.1 hbd (by decide) (Or.inl rfl) hr) (by omega), _, _, _, _, x1⟩
  | some xy =>
    obtain ⟨x, y⟩ := xy
    rw [hr] at h
    obtain ⟨e, x1⟩ := h
    have e0 : am_val iX12_wind 0 [some (.ref (am_c 0 12)), some (.int a)] [] M = some (.inr 0, M1, 1, 6) := by simp only [ae_X12_wind_0, ae_X12_wind_10, am_bnx_v, am_bnx_e, am_tl_s, am_tl_n, am_rv_s, am_add_rx, e]
    show wq (am_val iL_wind 0 [some (.ref (am_c 0 12)), some (.int a), none] [] M) 1 (qi (pZ Lx xs S bd σ L H P) (-76))
    rw [ae_L_wind_0, e0, am_bnx_e, lx_wind_0]
    exact wq_add (k := 1) (K := 0) (wq_e ⟨rfl, pL_fx hL fx, hS, _, _, _, _, x1⟩) (by decide) (by decide)
