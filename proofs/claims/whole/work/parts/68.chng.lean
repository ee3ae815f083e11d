/-! what changes the state but by orders: append, undo, save, restore -/
def av_OD (bd Lx : Nat) (xs : Nat → Int32) (r1 : am_T) (r2 : am_M → am_T) : Prop := ∃ (w : Int32) (M1 M2 : am_M), r1 = some (.inl (some (.int w)), M1, 0, 0) ∧ r2 M1 = some (.inl (some (.int w)), M2, 0, 0) ∧ av_I bd Lx xs M2 ∧ M1.2.2.2.2.2 = (Lx, xs)
theorem av_od_v {σ : Nat → Int32} {L : List (Nat → Int32)} {H : List av_K} {P : Option av_K} {q : Int32 × Int32 × Int32} {n : Nat} {T : Nat → Int32} {f : Int32} {l : List Int32} {bd Lx : Nat} {xs : Nat → Int32} {r1 : am_T} {r2 : am_M → am_T} {v : Int32} {M M1 M2 : am_M} (hs : M.2.2.2.2.2 = (Lx, xs)) (e1 : r1 = some (.inl (some (.int v)), M1, 0, 0)) (f1 : av_fx M M1) (x1 : av_x M1 σ L H P q n T f l) (e2 : r2 M1 = some (.inl (some (.int v)), M2, 0, 0)) (f2 : av_fy M1 M2) (y2 : av_y 274 M2 σ L H P q n T f l) (ok : av_okS bd σ L H P) : av_OD bd Lx xs r1 r2 := by
  have s1 : M1.2.2.2.2.2 = (Lx, xs) := by
    rw [f1.1]
    exact hs
  exact ⟨v, M1, M2, e1, e2, ⟨⟨σ, L, H, P, q, n, T, f, l, av_x_g x1 (av_fy_ag f2), y2, ok⟩, by rw [f2.1]; exact s1⟩, s1⟩
/-- a model's step that writes the fields J and the row r alone -/
def av_yw (D : Nat) (J : Nat → Prop) (r k0 : Nat) (M X : am_M) : Prop := X.2 = M.2 ∧ ∀ c k j, k < 64 → ¬ (c = D ∧ k = 13 ∧ J j) → ¬ (c = D + r ∧ k = k0) → X.1 (am_c c k) j = M.1 (am_c c k) j
theorem av_yw_fy {D r k0 : Nat} {J : Nat → Prop} {M X : am_M} (hD : 274 ≤ D) (h : av_yw D J r k0 M X) : av_fy M X := ⟨h.1, fun c k j hk a => h.2 c k j hk (by omega) (by omega)⟩
theorem av_yw_d {D r k0 : Nat} {J : Nat → Prop} {M X : am_M} (h : av_yw D J r k0 M X) (hr : 0 < r) {j : Nat} (hj : ¬ J j) : X.1 (am_c D 13) j = M.1 (am_c D 13) j := h.2 D 13 j (by decide) (fun hh => hj hh.2.2) (by omega)
theorem av_yw_r {D r k0 : Nat} {J : Nat → Prop} {M X : am_M} (h : av_yw D J r k0 M X) {a k : Nat} (hk : k < 64) (h1 : ¬ (a = D ∧ k = 13)) (h2 : ¬ (a = D + r ∧ k = k0)) : X.1 (am_c a k) = M.1 (am_c a k) := funext fun j => h.2 a k j hk (fun hh => h1 ⟨hh.1, hh.2.1⟩) h2
/-! append -/
theorem ac_append {σ : Nat → Int32} {L : List (Nat → Int32)} {H : List av_K} {P : Option av_K} {q : Int32 × Int32 × Int32} {n : Nat} {T : Nat → Int32} {f : Int32} {l : List Int32} {x : Int32} {M : am_M} (hc : (x.toUInt32 % 65536).toInt32 = x) (hx : av_x M σ L H P q n T f l) : (n < 60 → ∃ M1, am_val iX12_append 0 [some (.ref (am_c 0 12)), some (.int x)] [] M = some (.inl (some (.int (nI (n + 1)))), M1, 0, 0) ∧ av_fx M M1 ∧ av_x M1 σ L H P q (n + 1) (av_up T n x) f l) ∧ (¬ n < 60 → am_val iX12_append 0 [some (.ref (am_c 0 12)), some (.int x)] [] M = some (.inr 4, M, 1, 6)) := by
  have p5 : M.2.1 (am_c 0 12) 5 = am_c 244 10 + 1 := hx.1.1.2.2.2.2.1
  obtain ⟨k0, k1, k2, k3, k4⟩ := hx.2.2.2.2.2.1
  refine ⟨fun hn => ?_, fun hn => ?_⟩
  · have a1 : nI n < 60 := nI_lt (b := 60) hn (by decide)
    have a2 : ¬ (60 : Int32) ≤ nI n := nI_ge (b := 60) hn (by decide)
    have hin := am_in_n hn (show 60 < 2147483648 by decide)
    have htn := am_tn (show n < 2147483648 by omega)
    have g1 : (av_i M (am_c 245 22) n x).1 (am_c 244 10) 1 = nI n := (am_up_a (am_c_ne (by decide) (by decide) (by decide))).trans k2
    have hag : ∀ lo hi, (hi ≤ 244 ∨ 246 ≤ lo) → av_ag M (av_i (av_i M (am_c 245 22) n x) (am_c 244 10) 1 (nI (n + 1))) lo hi := fun lo hi hd => av_ag_t (av_ag_i (by decide) (by omega)) (av_ag_i (by decide) (by omega))
    obtain ⟨h0, h1, h2, h3, h4, h5, h6, h8, h9⟩ := hx
    refine ⟨av_i (av_i M (am_c 245 22) n x) (am_c 244 10) 1 (nI (n + 1)), ?_, av_fx_t (av_fx_i (by decide) (by decide)) (av_fx_i (by decide) (by decide)), av_x0_g h0 (hag _ _ (by decide)), av_x1_g h1 (hag _ _ (by decide)), av_x2_g h2 (hag _ _ (by decide)), av_x3_g h3 (hag _ _ (by decide)), av_x4_g h4 (hag _ _ (by decide)), ⟨k0, by omega, av_jS, ?_, fun j hj => ?_⟩, av_x6_g h6 (hag _ _ (by decide)), av_x8_g h8 (hag _ _ (by decide)), av_xp_g h9 (hag _ _ (by decide))⟩
    · simp only [ae_X12_append_0, ae_X12_append_4, ae_X12_append_12, ae_X12_append_23, ae_X12_append_27, ae_X12_append_31, ae_X12_append_35, ae_X10_add_0, ae_X10_add_9, ae_X10_add_13, ae_X10_add_29, am_bnx_v, am_bnx_e, am_tl_s, am_tl_n, am_rv_s, am_add_rx, p5, k0, k2, a1, a2, hin, htn, hc, g1, nI_1, av_i2, av_jS, not_true_eq_false, not_false_eq_true, if_true, if_false, am_1n0, or_true, true_or, eq_self, Bool.true_eq_false, Bool.false_eq_true, cond_true, cond_false]
    · rw [av_jK (by decide)]
      exact (am_up_a (am_c_ne (by decide) (by decide) (by decide))).trans k3
    · have e : (av_i (av_i M (am_c 245 22) n x) (am_c 244 10) 1 (nI (n + 1))).1 (am_c 245 22) j = (av_i M (am_c 245 22) n x).1 (am_c 245 22) j := am_up_a (am_c_ne (by decide) (by decide) (by decide))
      rw [e, av_is]
      by_cases hjn : j = n
      · rw [hjn, av_up_s, av_up_s]
      · rw [av_up_n hjn, av_up_n hjn]
        exact k4 j (by omega)
  · have a1 : ¬ nI n < 60 := nI_nlt (b := 60) (by omega) (by omega)
    simp only [ae_X12_append_0, ae_X12_append_4, ae_X12_append_12, ae_X12_append_23, ae_X12_append_27, ae_X12_append_31, ae_X12_append_35, am_bnx_v, am_bnx_e, am_tl_s, am_tl_n, am_rv_s, am_add_rx, p5, k2, a1, not_true_eq_false, not_false_eq_true, if_true, if_false, am_1n0, or_true, true_or, eq_self, Bool.true_eq_false, Bool.false_eq_true, cond_true, cond_false]
theorem mc_append {σ : Nat → Int32} {L : List (Nat → Int32)} {H : List av_K} {P : Option av_K} {q : Int32 × Int32 × Int32} {n : Nat} {T : Nat → Int32} {f : Int32} {l : List Int32} {D : Nat} {x : Int32} {M : am_M} (hD : 274 ≤ D) (hy : av_y D M σ L H P q n T f l) : (n < 60 → ∃ M1, am_val iX13_append 0 [some (.ref (am_c D 13)), some (.int x)] [] M = some (.inl (some (.int (nI (n + 1)))), M1, 0, 0) ∧ av_fy M M1 ∧ M1.1 (am_c D 13) 0 = 0 ∧ av_y D M1 σ L H P q (n + 1) (av_up T n x) f l) ∧ (¬ n < 60 → ∃ M1, am_val iX13_append 0 [some (.ref (am_c D 13)), some (.int x)] [] M = some (.inl (some (.int 0)), M1, 0, 0) ∧ M1.1 (am_c D 13) 0 = 1 ∧ av_ys D M M1) := by
  obtain ⟨d0, d1, d2, d3⟩ := hy.2.2.2.2.1
  refine ⟨fun hn => ?_, fun hn => ?_⟩
  · have hne : ¬ nI n = 60 := fun h => absurd ((nI_eq (a := n) (b := 60) (by omega) (by decide)).mp h) (by omega)
    have hin := am_in_n hn (show 60 < 2147483648 by decide)
    have htn := am_tn (show n < 2147483648 by omega)
    obtain ⟨M0, hM0⟩ : ∃ M0, M0 = av_i M (am_c D 13) 0 0 := ⟨_, rfl⟩
    have t0 : M0.1 (am_c D 13) 0 = 0 := by rw [hM0, av_jS]
    have t10 : M0.1 (am_c D 13) 10 = nI n := by rw [hM0, av_jK (by decide)]; exact d1
    have m7 : M0.2.1 (am_c D 13) 7 = am_c (D + 5) 20 + 1 := by rw [hM0]; exact hy.1.1.2.2.2.2.1
    have g1 : (av_i M0 (am_c (D + 5) 20) n x).1 (am_c D 13) 10 = nI n := (am_up_a (am_c_ne (by decide) (by decide) (by omega))).trans t10
    obtain ⟨M1, hM1⟩ : ∃ M1, M1 = av_i (av_i M0 (am_c (D + 5) 20) n x) (am_c D 13) 10 (nI (n + 1)) := ⟨_, rfl⟩
    have w : av_yw D (fun j => j = 0 ∨ j = 10) 5 20 M M1 := ⟨by rw [hM1, hM0]; rfl, fun c k j hk a b => by
      rw [hM1, hM0]
      refine (am_up_ak (fun hh => a ?_)).trans ((am_up_a (am_c_ne hk (by decide) b)).trans (am_up_ak (fun hh => a ?_)))
      · have e := hh.1
        rw [am_c_inj hk (by decide)] at e
        exact ⟨e.1, e.2, Or.inr hh.2⟩
      · have e := hh.1
        rw [am_c_inj hk (by decide)] at e
        exact ⟨e.1, e.2, Or.inl hh.2⟩⟩
    obtain ⟨y0, y2, y3, y4, y5, y6⟩ := hy
    refine ⟨M1, ?_, av_yw_fy hD w, ?_, av_y0_f y0 w.1 (av_yw_r w (by decide) (by omega) (by omega)), av_y2_f y2 (av_yw_d w (by decide) (by decide)) (av_yw_r w (by decide) (by omega) (by omega)), av_y3_f y3 (av_yw_d w (by decide) (by decide)) (av_yw_r w (by decide) (by omega) (by omega)), av_y4_f y4 (av_yw_d w (by decide) (by decide)) (av_yw_d w (by decide) (by decide)) (av_yw_d w (by decide) (by decide)), ⟨by omega, by rw [hM1, av_jS], (av_yw_d w (by decide) (by decide)).trans d2, fun j hj => ?_⟩, av_y6_f y6 (av_yw_d w (by decide) (by decide)) (av_yw_r w (by decide) (by omega) (by omega))⟩
    · simp only [ae_X13_append_0, ae_X13_append_10, ae_X13_append_14, ae_X13_append_25, ae_X13_append_27, ae_X13_append_31, am_bnx_v, am_bnx_e, am_tl_s, am_tl_n, am_rv_s, am_add_rx, d1, hne, not_true_eq_false, not_false_eq_true, if_true, if_false, am_1n0, or_true, true_or, eq_self, Bool.true_eq_false, Bool.false_eq_true, cond_true, cond_false, ← hM0, t0, am_l0, m7, t10, hin, htn, g1, nI_1, av_jS, ← hM1]
      rw [hM1, av_jS]
    · rw [hM1, av_jK (by decide)]
      exact (am_up_a (am_c_ne (by decide) (by decide) (by omega))).trans t0
    · have e : M1.1 (am_c (D + 5) 20) j = (av_i M0 (am_c (D + 5) 20) n x).1 (am_c (D + 5) 20) j := by
        rw [hM1]
        exact am_up_a (am_c_ne (by decide) (by decide) (by omega))
      rw [e, av_is]
      by_cases hjn : j = n
      · rw [hjn, av_up_s, av_up_s]
      · rw [av_up_n hjn, av_up_n hjn, hM0, show (av_i M (am_c D 13) 0 0).1 (am_c (D + 5) 20) j = M.1 (am_c (D + 5) 20) j from am_up_a (am_c_ne (by decide) (by decide) (by omega))]
        exact d3 j (by omega)
  · have hn60 : n = 60 := by omega
    have he : nI n = 60 := by rw [hn60]; rfl
    refine ⟨av_i M (am_c D 13) 0 1, ?_, av_jS, av_ys_i (Or.inl rfl)⟩
    simp only [ae_X13_append_0, ae_X13_append_10, ae_X13_append_14, ae_X13_append_25, ae_X13_append_27, ae_X13_append_31, am_bnx_v, am_bnx_e, am_tl_s, am_tl_n, am_rv_s, am_add_rx, d1, he, not_true_eq_false, not_false_eq_true, if_true, if_false, am_1n0, or_true, true_or, eq_self, Bool.true_eq_false, Bool.false_eq_true, cond_true, cond_false, av_jS, am_l1]
/-! undo -/
theorem av_x2_len {M : am_M} {H : List av_K} (h : av_x2 M H) : M.1 (am_c 25 3) 2 = nI H.length := by
  obtain ⟨-, -, ν, g, -, -, k, -, -⟩ := h
  exact k
theorem ac_undo {σ : Nat → Int32} {L : List (Nat → Int32)} {H : List av_K} {P : Option av_K} {q : Int32 × Int32 × Int32} {n : Nat} {T : Nat → Int32} {f : Int32} {l : List Int32} {M : am_M} (hx : av_x M σ L H P q n T f l) : (∀ m, H.length = m + 1 → ∃ M1, am_val iX12_undo 0 [some (.ref (am_c 0 12))] [] M = some (.inl (some (.int (nI m))), M1, 0, 0) ∧ av_fx M M1 ∧ av_x M1 (av_h H m).1 (av_h H m).2 (H.take m) P q n T f l) ∧ (H.length = 0 → am_val iX12_undo 0 [some (.ref (am_c 0 12))] [] M = some (.inr 4, M, 1, 6)) := by
  obtain ⟨⟨⟨p0, p1, p2, p4, p5, p6, p7, p8, p9⟩, p3⟩, ⟨rm, hC⟩, h2, h3, h4, h5, h6, h8, h9⟩ := hx
  have k2 := av_x2_len h2
  have l8 := h2.2.1
  refine ⟨fun m hm => ?_, fun hm => ?_⟩
  · obtain ⟨M1, e, x2, x1, v, g⟩ := ac_hgive h2 hm hC
    have hne : ¬ nI (m + 1) = 0 := nI_ne0 (by omega) (by omega)
    rw [hm] at k2
    have k2' := av_x2_len x2
    rw [List.length_take, Nat.min_eq_left (by omega)] at k2'
    have h0 : av_x0 M P.isSome := ⟨⟨p0, p1, p2, p4, p5, p6, p7, p8, p9⟩, p3⟩
    refine ⟨M1, ?_, av_fx_of (by rw [v]) (fun hi => g 274 hi (Or.inr (by decide))), av_x0_g h0 (g _ _ (by decide)), x1, x2, av_x3_g h3 (g _ _ (by decide)), av_x4_g h4 (g _ _ (by decide)), av_x5_g h5 (g _ _ (by decide)), av_x6_g h6 (g _ _ (by decide)), av_x8_g h8 (g _ _ (by decide)), av_xp_g h9 (g _ _ (by decide))⟩
    simp only [ae_X12_undo_0, ae_X12_undo_4, ae_X12_undo_10, ae_X12_undo_21, ae_X12_undo_25, ae_X12_undo_29, ae_X12_undo_32, ae_X12_undo_36, am_bnx_v, am_bnx_e, am_tl_s, am_tl_n, am_rv_s, am_add_rx, p0, p1, k2, hne, not_true_eq_false, not_false_eq_true, if_true, if_false, am_1n0, or_true, true_or, eq_self, Bool.true_eq_false, Bool.false_eq_true, cond_true, cond_false, e, v, k2']
  · rw [hm] at k2
    simp only [ae_X12_undo_0, ae_X12_undo_4, ae_X12_undo_10, ae_X12_undo_21, ae_X12_undo_25, ae_X12_undo_29, ae_X12_undo_32, ae_X12_undo_36, am_bnx_v, am_bnx_e, am_tl_s, am_tl_n, am_rv_s, am_add_rx, p1, k2, nI_0, not_true_eq_false, not_false_eq_true, if_true, if_false, am_1n0, or_true, true_or, eq_self, Bool.true_eq_false, Bool.false_eq_true, cond_true, cond_false]
theorem av_h_mr {D : Nat} {M : am_M} {H : List av_K} (hy : av_y2 D M H) {m : Nat} (hm : H.length = m + 1) : av_y2 D M H ∧ av_mr (fun i => M.1 (am_c (D + 4) 19) (120 * m + i)) (av_h H m).1 (av_h H m).2 := ⟨hy, hy.2.2 m (by omega)⟩
theorem mc_undo2 {σ : Nat → Int32} {L : List (Nat → Int32)} {H : List av_K} {P : Option av_K} {q : Int32 × Int32 × Int32} {n : Nat} {T : Nat → Int32} {f : Int32} {l : List Int32} {D bd : Nat} {M : am_M} (hD : 274 ≤ D) (hy : av_y D M σ L H P q n T f l) (hS : av_okS bd σ L H P) : (∀ m, H.length = m + 1 → ∃ M1, am_val iX13_undo 0 [some (.ref (am_c D 13)), none] [] M = some (.inl (some (.int (nI m))), M1, 0, 0) ∧ av_fy M M1 ∧ M1.1 (am_c D 13) 0 = 0 ∧ av_y D M1 (av_h H m).1 (av_h H m).2 (H.take m) P q n T f l) ∧ (H.length = 0 → ∃ M1, am_val iX13_undo 0 [some (.ref (am_c D 13)), none] [] M = some (.inl (some (.int 0)), M1, 0, 0) ∧ M1.1 (am_c D 13) 0 = 1 ∧ av_ys D M M1) := by
  obtain ⟨l8, k5, hh⟩ := hy.2.1
  refine ⟨fun m hm => ?_, fun hm => ?_⟩
  · rw [hm] at k5
    obtain ⟨M1, e, v, t0, t5, r1, fr⟩ := mc_undo hy.1.1 (show m < 8 by omega) k5
    have w : av_yw D (fun j => j = 0 ∨ j = 5) 1 18 M M1 := ⟨v, fr⟩
    have hl := (hS.2.1 m (by omega)).2.2.2.2.2.2.2
    obtain ⟨y0, y2, y3, y4, y5, y6⟩ := hy
    refine ⟨M1, e, av_yw_fy hD w, t0, ⟨by rw [v]; exact y0.1, av_mr_e (hh m (by omega)) hl (fun j hj => r1 j hj)⟩, ⟨by rw [List.length_take]; omega, by rw [List.length_take, Nat.min_eq_left (by omega)]; exact t5, fun j hj => ?_⟩, av_y3_f y3 (av_yw_d w (by decide) (by decide)) (av_yw_r w (by decide) (by omega) (by omega)), av_y4_f y4 (av_yw_d w (by decide) (by decide)) (av_yw_d w (by decide) (by decide)) (av_yw_d w (by decide) (by decide)), av_y5_f y5 (av_yw_d w (by decide) (by decide)) (av_yw_d w (by decide) (by decide)) (av_yw_r w (by decide) (by omega) (by omega)), av_y6_f y6 (av_yw_d w (by decide) (by decide)) (av_yw_r w (by decide) (by omega) (by omega))⟩
    rw [List.length_take, Nat.min_eq_left (by omega)] at hj
    rw [av_h_tk hj, av_yw_r w (a := D + 4) (k := 19) (by decide) (by omega) (by omega)]
    exact hh j (by omega)
  · rw [hm] at k5
    obtain ⟨M0, hM0⟩ : ∃ M0, M0 = av_i M (am_c D 13) 0 0 := ⟨_, rfl⟩
    have k5' : M0.1 (am_c D 13) 5 = 0 := by rw [hM0, av_jK (by decide)]; exact k5
    refine ⟨av_i M0 (am_c D 13) 0 1, ?_, av_jS, ?_⟩
    · simp only [ae_X13_undo_0, ae_X13_undo_12, ae_X13_undo_17, ae_X13_undo_18, ae_X13_undo_36, ae_X13_undo_40, ae_X13_undo_45, ae_X13_undo_62, am_bnx_v, am_bnx_e, am_tl_s, am_tl_n, am_rv_s, am_add_rx, ← hM0, k5', not_true_eq_false, not_false_eq_true, if_true, if_false, am_1n0, or_true, true_or, eq_self, Bool.true_eq_false, Bool.false_eq_true, cond_true, cond_false, mc_fails]
    · rw [hM0]
      exact av_ys_t (av_ys_i (Or.inl rfl)) (av_ys_i (Or.inl rfl))
/-! save, restore -/
theorem ac_save {σ : Nat → Int32} {L : List (Nat → Int32)} {H : List av_K} {P : Option av_K} {q : Int32 × Int32 × Int32} {n : Nat} {T : Nat → Int32} {f : Int32} {l : List Int32} {M : am_M} (hx : av_x M σ L H P q n T f l) : ∃ M1, am_val iX12_save 0 [some (.ref (am_c 0 12))] [] M = some (.inl (some (.int (σ 0))), M1, 0, 0) ∧ av_fx M M1 ∧ av_x M1 σ L H (some (σ, L)) q n T f l := by
  obtain ⟨⟨⟨p0, p1, p2, p4, p5, p6, p7, p8, p9⟩, p3⟩, ⟨rm, hC⟩, h2, ⟨rm3, τ, K, hC3, -⟩, h4, h5, h6, h8, h9⟩ := hx
  obtain ⟨M1, e, c1, fr, v⟩ := ac_take (Or.inr (by decide)) hC3 hC
  obtain ⟨X, hX⟩ : ∃ X, X = av_i M1 (am_c 0 12) 3 1 := ⟨_, rfl⟩
  have vX : X.2 = M.2 := by rw [hX]; exact v
  have gX : ∀ lo hi, 1 ≤ lo → av_ag M1 X lo hi := fun lo hi h => by rw [hX]; exact av_ag_i (by decide) (Or.inr (by omega))
  have G : ∀ lo hi, 1 ≤ lo → (hi ≤ 219 ∨ 219 + 24 ≤ lo) → av_ag M X lo hi := fun lo hi h h' => av_ag_t (av_fr_ag fr h') (gX lo hi h)
  have hCX := av_C_g hC (G 1 (1 + 24) (by decide) (by decide))
  have nX : X.1 (am_c 1 1) 3 = σ 0 := hCX.2.2.2.2.1.1
  refine ⟨X, ?_, av_fx_of (by rw [vX]) (fun hi => G 274 hi (by decide) (Or.inr (by decide))), ⟨by rw [vX]; exact ⟨p0, p1, p2, p4, p5, p6, p7, p8, p9⟩, by rw [hX, av_jS]; rfl⟩, ⟨rm, hCX⟩, av_x2_g h2 (G _ _ (by decide) (by decide)), ⟨rm3, σ, L, av_C_g c1 (gX _ _ (by decide)), fun p hp => (Option.some.inj hp).symm⟩, av_x4_g h4 (G _ _ (by decide) (by decide)), av_x5_g h5 (G _ _ (by decide) (by decide)), av_x6_g h6 (G _ _ (by decide) (by decide)), av_x8_g h8 (G _ _ (by decide) (by decide)), av_xp_g h9 (G _ _ (by decide) (by decide))⟩
  have v1 : M1.2.1 (am_c 0 12) 0 = am_c 1 1 + 1 := by rw [v]; exact p0
  have vX0 : X.2.1 (am_c 0 12) 0 = am_c 1 1 + 1 := by rw [vX]; exact p0
  simp only [ae_X12_save_0, ae_X12_save_4, ae_X12_save_8, ae_X12_save_11, ae_X12_save_20, am_bnx_v, am_bnx_e, am_tl_s, am_tl_n, am_rv_s, am_add_rx, p0, p2, e, av_i2, v1, ← hX, vX0, nX]
theorem mc_save2 {σ : Nat → Int32} {L : List (Nat → Int32)} {H : List av_K} {P : Option av_K} {q : Int32 × Int32 × Int32} {n : Nat} {T : Nat → Int32} {f : Int32} {l : List Int32} {D : Nat} {M : am_M} (hD : 274 ≤ D) (hy : av_y D M σ L H P q n T f l) (hl8 : L.length ≤ 8) : ∃ M1, am_val iX13_save 0 [some (.ref (am_c D 13)), none] [] M = some (.inl (some (.int (σ 0))), M1, 0, 0) ∧ av_fy M M1 ∧ av_y D M1 σ L H (some (σ, L)) q n T f l := by
  obtain ⟨M1, e, v, t0, t6, r1, fr⟩ := mc_save hy.1.1
  rw [hy.1.2.1 0 (by decide) (by decide)] at e
  have w : av_yw D (fun j => j = 0 ∨ j = 6) 3 18 M M1 := ⟨v, fr⟩
  obtain ⟨y0, y2, y3, y4, y5, y6⟩ := hy
  exact ⟨M1, e, av_yw_fy hD w, av_y0_f y0 v (av_yw_r w (by decide) (by omega) (by omega)), av_y2_f y2 (av_yw_d w (by decide) (by decide)) (av_yw_r w (by decide) (by omega) (by omega)), ⟨t6, fun p hp => by cases hp; exact av_mr_e y0.2 hl8 (fun j hj => r1 j hj)⟩, av_y4_f y4 (av_yw_d w (by decide) (by decide)) (av_yw_d w (by decide) (by decide)) (av_yw_d w (by decide) (by decide)), av_y5_f y5 (av_yw_d w (by decide) (by decide)) (av_yw_d w (by decide) (by decide)) (av_yw_r w (by decide) (by omega) (by omega)), av_y6_f y6 (av_yw_d w (by decide) (by decide)) (av_yw_r w (by decide) (by omega) (by omega))⟩
theorem ac_restore {σ : Nat → Int32} {L : List (Nat → Int32)} {H : List av_K} {P : Option av_K} {q : Int32 × Int32 × Int32} {n : Nat} {T : Nat → Int32} {f : Int32} {l : List Int32} {M : am_M} (hx : av_x M σ L H P q n T f l) : (∀ p, P = some p → ∃ M1, am_val iX12_restore 0 [some (.ref (am_c 0 12))] [] M = some (.inl (some (.int (p.1 0))), M1, 0, 0) ∧ av_fx M M1 ∧ av_x M1 p.1 p.2 [] P q n T f l) ∧ (P = none → am_val iX12_restore 0 [some (.ref (am_c 0 12))] [] M = some (.inr 4, M, 1, 6)) := by
  obtain ⟨⟨⟨p0, p1, p2, p4, p5, p6, p7, p8, p9⟩, p3⟩, ⟨rm, hC⟩, h2, ⟨rm3, τ, K, hC3, hp3⟩, h4, h5, h6, h8, h9⟩ := hx
  refine ⟨fun p hp => ?_, fun hp => ?_⟩
  · have e1 := hp3 p hp
    subst e1
    rw [hp] at p3
    have p3 : M.1 (am_c 0 12) 3 = 1 := p3
    obtain ⟨M1, e, c1, fr, v⟩ := ac_take (Or.inl (by decide)) hC hC3
    obtain ⟨X, hX⟩ : ∃ X, X = av_i M1 (am_c 25 3) 2 0 := ⟨_, rfl⟩
    have vX : X.2 = M.2 := by rw [hX]; exact v
    have gX : ∀ lo hi, (hi ≤ 25 ∨ 26 ≤ lo) → av_ag M1 X lo hi := fun lo hi h => by rw [hX]; exact av_ag_i (by decide) (by omega)
    have G : ∀ lo hi, (hi ≤ 25 ∨ 26 ≤ lo) → (hi ≤ 1 ∨ 1 + 24 ≤ lo) → av_ag M X lo hi := fun lo hi h h' => av_ag_t (av_fr_ag fr h') (gX lo hi h)
    have hCX := av_C_g c1 (gX 1 (1 + 24) (by decide))
    have nX : X.1 (am_c 1 1) 3 = τ 0 := hCX.2.2.2.2.1.1
    obtain ⟨hs, hl, ν, g, hν, k1, k2, k3, k4⟩ := h2
    have x2 : av_x2 X [] := by
      refine ⟨by rw [vX]; exact hs, by decide, ν, g, hν, ?_, ?_, fun i hi => ?_, fun j hj => absurd hj (Nat.not_lt_zero _)⟩
      · rw [hX, av_jK (by decide), (fr.2 25 3 1 (by decide) (by decide)).1]
        exact k1
      · rw [hX, av_jS]
        rfl
      · obtain ⟨rm2, c2⟩ := k3 i hi
        exact ⟨rm2, av_C_g c2 (G _ _ (by omega) (by omega))⟩
    refine ⟨X, ?_, av_fx_of (by rw [vX]) (fun hi => G 274 hi (Or.inr (by decide)) (Or.inr (by decide))), ⟨by rw [vX]; exact ⟨p0, p1, p2, p4, p5, p6, p7, p8, p9⟩, ?_⟩, ⟨rm, hCX⟩, x2, ⟨rm3, τ, K, av_C_g hC3 (G _ _ (by decide) (by decide)), hp3⟩, av_x4_g h4 (G _ _ (by decide) (by decide)), av_x5_g h5 (G _ _ (by decide) (by decide)), av_x6_g h6 (G _ _ (by decide) (by decide)), av_x8_g h8 (G _ _ (by decide) (by decide)), av_xp_g h9 (G _ _ (by decide) (by decide))⟩
    · have v0 : M1.2.1 (am_c 0 12) 0 = am_c 1 1 + 1 := by rw [v]; exact p0
      have v1 : M1.2.1 (am_c 0 12) 1 = am_c 25 3 + 1 := by rw [v]; exact p1
      have vX0 : X.2.1 (am_c 0 12) 0 = am_c 1 1 + 1 := by rw [vX]; exact p0
      simp only [ae_X12_restore_0, ae_X12_restore_7, ae_X12_restore_18, ae_X12_restore_22, ae_X12_restore_26, ae_X12_restore_29, ae_X12_restore_33, ae_X12_restore_36, ae_X12_restore_40, ae_X3_forget_0, am_bnx_v, am_bnx_e, am_tl_s, am_tl_n, am_rv_s, am_add_rx, p0, p2, p3, e, av_i2, v0, v1, ← hX, vX0, nX, not_true_eq_false, not_false_eq_true, if_true, if_false, am_1n0, or_true, true_or, eq_self, Bool.true_eq_false, Bool.false_eq_true, cond_true, cond_false]
    · rw [(G 0 1 (by decide) (by decide) 0 12 3 (by decide) (by decide) (by decide)).1, hp]
      exact p3
  · rw [hp] at p3
    have p3 : M.1 (am_c 0 12) 3 = 0 := p3
    simp only [ae_X12_restore_0, ae_X12_restore_7, ae_X12_restore_18, ae_X12_restore_22, ae_X12_restore_26, ae_X12_restore_29, ae_X12_restore_33, ae_X12_restore_36, ae_X12_restore_40, am_bnx_v, am_bnx_e, am_tl_s, am_tl_n, am_rv_s, am_add_rx, p3, not_true_eq_false, not_false_eq_true, if_true, if_false, am_1n0, or_true, true_or, eq_self, Bool.true_eq_false, Bool.false_eq_true, cond_true, cond_false]
theorem mc_restore2 {σ : Nat → Int32} {L : List (Nat → Int32)} {H : List av_K} {P : Option av_K} {q : Int32 × Int32 × Int32} {n : Nat} {T : Nat → Int32} {f : Int32} {l : List Int32} {D bd : Nat} {M : am_M} (hD : 274 ≤ D) (hy : av_y D M σ L H P q n T f l) (hS : av_okS bd σ L H P) : (∀ p, P = some p → ∃ M1, am_val iX13_restore 0 [some (.ref (am_c D 13)), none] [] M = some (.inl (some (.int (p.1 0))), M1, 0, 0) ∧ av_fy M M1 ∧ M1.1 (am_c D 13) 0 = 0 ∧ av_y D M1 p.1 p.2 [] P q n T f l) ∧ (P = none → ∃ M1, am_val iX13_restore 0 [some (.ref (am_c D 13)), none] [] M = some (.inl (some (.int 0)), M1, 0, 0) ∧ M1.1 (am_c D 13) 0 = 1 ∧ av_ys D M M1) := by
  obtain ⟨k6, kp⟩ := hy.2.2.1
  refine ⟨fun p hp => ?_, fun hp => ?_⟩
  · have mp := kp p hp
    rw [hp] at k6
    obtain ⟨M1, e, v, t0, t5, r1, fr⟩ := mc_restore hy.1.1 k6
    rw [mp.1 0 (by decide) (by decide)] at e
    have w : av_yw D (fun j => j = 0 ∨ j = 5) 1 18 M M1 := ⟨v, fr⟩
    have hl := (hS.2.2 p hp).2.2.2.2.2.2.2
    obtain ⟨y0, y2, y3, y4, y5, y6⟩ := hy
    exact ⟨M1, e, av_yw_fy hD w, t0, ⟨by rw [v]; exact y0.1, av_mr_e mp hl (fun j hj => r1 j hj)⟩, ⟨by decide, t5, fun j hj => absurd hj (Nat.not_lt_zero _)⟩, av_y3_f y3 (av_yw_d w (by decide) (by decide)) (av_yw_r w (by decide) (by omega) (by omega)), av_y4_f y4 (av_yw_d w (by decide) (by decide)) (av_yw_d w (by decide) (by decide)) (av_yw_d w (by decide) (by decide)), av_y5_f y5 (av_yw_d w (by decide) (by decide)) (av_yw_d w (by decide) (by decide)) (av_yw_r w (by decide) (by omega) (by omega)), av_y6_f y6 (av_yw_d w (by decide) (by decide)) (av_yw_r w (by decide) (by omega) (by omega))⟩
  · rw [hp] at k6
    have k6 : M.1 (am_c D 13) 6 = 0 := k6
    obtain ⟨M0, hM0⟩ : ∃ M0, M0 = av_i M (am_c D 13) 0 0 := ⟨_, rfl⟩
    have k6' : M0.1 (am_c D 13) 6 = 0 := by rw [hM0, av_jK (by decide)]; exact k6
    refine ⟨av_i M0 (am_c D 13) 0 1, ?_, av_jS, ?_⟩
    · simp only [ae_X13_restore_0, ae_X13_restore_12, ae_X13_restore_17, ae_X13_restore_18, ae_X13_restore_26, ae_X13_restore_30, ae_X13_restore_35, ae_X13_restore_44, ae_X13_restore_53, am_bnx_v, am_bnx_e, am_tl_s, am_tl_n, am_rv_s, am_add_rx, ← hM0, k6', not_true_eq_false, not_false_eq_true, if_true, if_false, am_1n0, or_true, true_or, eq_self, Bool.true_eq_false, Bool.false_eq_true, cond_true, cond_false, mc_fails]
    · rw [hM0]
      exact av_ys_t (av_ys_i (Or.inl rfl)) (av_ys_i (Or.inl rfl))
