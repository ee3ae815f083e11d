/-! commands on both sides -/
theorem av_y_w {σ : Nat → Int32} {L : List (Nat → Int32)} {H : List av_K} {P : Option av_K} {q : Int32 × Int32 × Int32} {n : Nat} {T : Nat → Int32} {f : Int32} {l : List Int32} {D n' : Nat} {M X : am_M} {σ' : Nat → Int32} {L' : List (Nat → Int32)} {q' : Int32 × Int32 × Int32} {g : Int32} (hy : av_y D M σ L H P q n T f l) (h2 : X.2 = M.2) (hd : ∀ j, (j = 5 ∨ j = 6 ∨ j = 11) → X.1 (am_c D 13) j = M.1 (am_c D 13) j) (hr : ∀ a k j, k < 64 → (a = D + 3 ∨ a = D + 4 ∨ a = D + 7) → X.1 (am_c a k) j = M.1 (am_c a k) j) (hm : av_mr (X.1 (am_c (D + 1) 18)) σ' L') (h4 : av_y4 D X q') (h5 : av_y5 D X n' T g) : av_y D X σ' L' H P q' n' T g l :=
  ⟨⟨by rw [h2]; exact hy.1.1, hm⟩, av_y2_f hy.2.1 (hd _ (by decide)) (funext fun j => hr _ _ _ (by decide) (by omega)), av_y3_f hy.2.2.1 (hd _ (by decide)) (funext fun j => hr _ _ _ (by decide) (by omega)), h4, h5, av_y6_f hy.2.2.2.2.2 (hd _ (by decide)) (funext fun j => hr _ _ _ (by decide) (by omega))⟩
theorem mc_back {D : Nat} {x y : Int32} {M : am_M} (hm : av_msh M.2.1 D) : ∃ X, am_val iX13_commands 131 [some (.ref (am_c D 13)), some (.int y), some (.int x), some (.int 0)] [] M = am_val iX13_commands 131 [some (.ref (am_c D 13)), some (.int y), some (.int x), some (.int (nI 120))] [] X ∧ X.2 = M.2 ∧ (∀ j, j < 120 → X.1 (am_c (D + 1) 18) j = M.1 (am_c (D + 2) 18) j) ∧ ∀ c k j, k < 64 → ¬ (c = D + 1 ∧ k = 18) → X.1 (am_c c k) j = M.1 (am_c c k) j := by
  obtain ⟨X, k1, k2, k3, k4⟩ := av_cp (H := fun k X => am_val iX13_commands 131 [some (.ref (am_c D 13)), some (.int y), some (.int x), some (.int (nI k))] [] X) (N := 120) (D1 := D + 1) (K1 := 18) (M := M) (f := fun j => M.1 (am_c (D + 2) 18) j) (by decide) (by
    intro k X hk p1 p3
    have m1 : X.2.1 (am_c D 13) 1 = am_c (D + 1) 18 + 1 := by rw [p1]; exact hm.1
    have m2 : X.2.1 (am_c D 13) 2 = am_c (D + 2) 18 + 1 := by rw [p1]; exact hm.2.1
    have i0 := am_in_n hk (show 120 < 2147483648 by decide)
    have t0 := am_tn (show k < 2147483648 by omega)
    have r0 : X.1 (am_c (D + 2) 18) k = M.1 (am_c (D + 2) 18) k := p3 _ _ _ (by decide) (by omega)
    rw [ae_X13_commands_131, if_neg (show ¬ (120 : Int32) ≤ nI k from nI_ge (b := 120) hk (by decide))]
    simp only [ae_X13_commands_0, ae_X13_commands_4, ae_X13_commands_48, ae_X13_commands_52, ae_X13_commands_57, ae_X13_commands_71, ae_X13_commands_74, ae_X13_commands_81, ae_X13_commands_92, ae_X13_commands_105, ae_X13_commands_106, ae_X13_commands_116, ae_X13_commands_121, ae_X13_commands_126, ae_X13_commands_129, ae_X13_commands_137, ae_X13_commands_141, ae_X13_commands_146, ae_X13_commands_155, ae_X13_commands_178, ae_X13_commands_185, ae_X13_commands_193, am_bnx_v, am_bnx_e, am_tl_s, am_tl_n, am_rv_s, am_add_rx, m1, m2, i0, t0, r0, nI_1])
  have k1 : am_val iX13_commands 131 [some (.ref (am_c D 13)), some (.int y), some (.int x), some (.int (nI 0))] [] M = am_val iX13_commands 131 [some (.ref (am_c D 13)), some (.int y), some (.int x), some (.int (nI 120))] [] X := k1
  rw [nI_0] at k1
  exact ⟨X, k1, k2, fun j hj => by rw [k3, if_pos hj], fun c k j hk h => k4 c k j hk h⟩
theorem mc_cmds {σ : Nat → Int32} {L : List (Nat → Int32)} {H : List av_K} {P : Option av_K} {q : Int32 × Int32 × Int32} {n : Nat} {T : Nat → Int32} {f : Int32} {l : List Int32} {D bd : Nat} {M : am_M} (hD : 274 ≤ D) (hy : av_y D M σ L H P q n T f l) (hS : av_okS bd σ L H P) (hbd : bd + 1240 < 1000000000) : ∃ M' w, am_val iX13_commands 0 [some (.ref (am_c D 13)), none, none, none] [] M = some (.inl (some (.int w)), M', 0, 0) ∧ av_fy M M' ∧
    ((tx_t T n).1 = false → M'.1 (am_c D 13) 0 = 1 ∧ av_y D M' σ L H P q 0 T (nI (tx_t T n).2.1) l) ∧
    ((tx_t T n).1 = true → (∀ z, (tx_x (tx_t T n).2.2 0 σ L).1 = some z → M'.1 (am_c D 13) 0 = 2 ∧ av_y D M' σ L H P z 0 T (-1) l) ∧ ((tx_x (tx_t T n).2.2 0 σ L).1 = none → w = nI (tx_t T n).2.2.length ∧ M'.1 (am_c D 13) 0 = 0 ∧ av_y D M' (tx_x (tx_t T n).2.2 0 σ L).2.1 (tx_x (tx_t T n).2.2 0 σ L).2.2 (av_pu H (σ, L)) P q 0 T (-1) l)) := by
  have hy0 := hy
  obtain ⟨⟨hm, hr0⟩, y2, y3, y4, ⟨d0, d1, d2, d3⟩, y6⟩ := hy
  have hL := hS.1.2.2.2.2.2.2.2
  obtain ⟨M1, e1, v1, t1, r1, f1⟩ := mc_remembers hm
  have n1 : M1.1 (am_c D 13) 10 = nI n := (f1 _ _ _ (by decide) (by omega) (by omega)).trans d1
  have n2 : (av_i M1 (am_c D 13) 23 0).1 (am_c D 13) 10 = nI n := by rw [av_jK (by decide)]; exact n1
  obtain ⟨M2, hM2⟩ : ∃ M2, M2 = av_i (av_i (av_i (av_i (av_i (av_i M1 (am_c D 13) 23 0) (am_c D 13) 24 (nI n)) (am_c D 13) 10 0) (am_c D 13) 25 0) (am_c D 13) 26 0) (am_c D 13) 12 (-1) := ⟨_, rfl⟩
  have v2 : M2.2 = M.2 := by rw [hM2]; exact v1
  have w2 : ∀ c k j, k < 64 → ¬ (c = D ∧ k = 13) → M2.1 (am_c c k) j = M1.1 (am_c c k) j := fun c k j hk h => by
    have hn : ¬ am_c c k = am_c D 13 := am_c_ne hk (by decide) h
    rw [hM2]
    exact (am_up_a hn).trans ((am_up_a hn).trans ((am_up_a hn).trans ((am_up_a hn).trans ((am_up_a hn).trans (am_up_a hn)))))
  have u2 : ∀ j, j ≠ 23 → j ≠ 24 → j ≠ 10 → j ≠ 25 → j ≠ 26 → j ≠ 12 → M2.1 (am_c D 13) j = M1.1 (am_c D 13) j := fun j a1 a2 a3 a4 a5 a6 => by
    rw [hM2, av_jK a6, av_jK a5, av_jK a4, av_jK a3, av_jK a2, av_jK a1]
  have mt : av_mt D M2 n T 0 false 0 := by
    refine ⟨by rw [v2]; exact ⟨hm.2.2.2.2.1, hm.2.2.2.2.2.1⟩, d0, fun j hj => ?_, ?_, ?_, ?_, ?_⟩
    · rw [w2 _ _ _ (by decide) (by omega), f1 _ _ _ (by decide) (by omega) (by omega)]; exact d3 j hj
    · rw [hM2, av_jK (by decide), av_jK (by decide), av_jK (by decide), av_jK (by decide), av_jS]
    · rw [hM2, av_jK (by decide), av_jK (by decide), av_jK (by decide), av_jK (by decide), av_jK (by decide), av_jS]; rfl
    · rw [hM2, av_jK (by decide), av_jS]; rfl
    · rw [hM2, av_jK (by decide), av_jK (by decide), av_jS]; rfl
  obtain ⟨M3, M4, e3, z1, z2, g4⟩ := mt_all d0 mt
  have v4 : M4.2 = M.2 := g4.1.trans v2
  have dd : ∀ j, j ≠ 0 → j < 16 → j ≠ 10 → j ≠ 12 → M4.1 (am_c D 13) j = M.1 (am_c D 13) j := fun j a1 a2 a3 a4 => by
    rw [g4.2 D 13 j (by decide) (by omega) (by omega), u2 j (by omega) (by omega) a3 (by omega) (by omega) a4, f1 D 13 j (by decide) (by omega) (by omega)]
  have rr : ∀ a k j, k < 64 → ¬ (a = D ∧ k = 13) → ¬ (a = D + 2 ∧ k = 18) → ¬ (a = D + 6 ∧ k = 21) → M4.1 (am_c a k) j = M.1 (am_c a k) j := fun a k j hk h1 h2 h3 => by
    rw [g4.2 a k j hk (fun hh => h1 ⟨hh.1, hh.2.1⟩) (fun hh => h3 ⟨hh.1, hh.2.1⟩), w2 a k j hk h1, f1 a k j hk (fun hh => h1 ⟨hh.1, hh.2.1⟩) h2]
  have fr : ∀ j, j < 120 → M4.1 (am_c (D + 2) 18) j = M.1 (am_c (D + 1) 18) j := fun j hj => by
    rw [g4.2 _ _ _ (by decide) (by omega) (by omega), w2 _ _ _ (by decide) (by omega)]; exact r1 j hj
  have s4 : M4.1 (am_c (D + 1) 18) = M.1 (am_c (D + 1) 18) := funext fun j => rr _ _ _ (by decide) (by omega) (by omega) (by omega)
  have a0 : M4.1 (am_c D 13) 0 = 0 := by rw [g4.2 D 13 0 (by decide) (by omega) (by omega), u2 0 (by decide) (by decide) (by decide) (by decide) (by decide) (by decide)]; exact t1
  have a10 : M4.1 (am_c D 13) 10 = 0 := by rw [g4.2 D 13 10 (by decide) (by omega) (by omega), hM2, av_jK (by decide), av_jK (by decide), av_jK (by decide), av_jS]
  have a12 : M4.1 (am_c D 13) 12 = -1 := by rw [g4.2 D 13 12 (by decide) (by omega) (by omega), hM2, av_jS]
  have fy4 : av_fy M M4 := ⟨v4, fun c k j hk h => rr c k j hk (by omega) (by omega) (by omega)⟩
  have q4 : av_y4 D M4 q := ⟨(dd 13 (by decide) (by decide) (by decide) (by decide)).trans y4.1, (dd 14 (by decide) (by decide) (by decide) (by decide)).trans y4.2.1, (dd 15 (by decide) (by decide) (by decide) (by decide)).trans y4.2.2⟩
  have Y4 : av_y D M4 σ L H P q 0 T (-1) l := av_y_w hy0 v4 (fun j hj => dd j (by omega) (by omega) (by omega) (by omega)) (fun a k j hk h => rr a k j hk (by omega) (by omega) (by omega)) (by rw [s4]; exact hr0) q4 ⟨Nat.zero_le _, a10, a12, fun j hj => absurd hj (Nat.not_lt_zero _)⟩
  have main : ∀ {w : Int32} {X : am_M}, am_val iX13_commands 41 [some (.ref (am_c D 13)), none, none, none] [] M3 = some (.inl (some (.int w)), X, 0, 0) → am_val iX13_commands 0 [some (.ref (am_c D 13)), none, none, none] [] M = some (.inl (some (.int w)), X, 0, 0) := fun tail => by
    simp only [ae_X13_commands_0, ae_X13_commands_4, ae_X13_commands_48, ae_X13_commands_52, ae_X13_commands_57, ae_X13_commands_71, ae_X13_commands_74, ae_X13_commands_81, ae_X13_commands_92, ae_X13_commands_105, ae_X13_commands_106, ae_X13_commands_116, ae_X13_commands_121, ae_X13_commands_126, ae_X13_commands_129, ae_X13_commands_137, ae_X13_commands_141, ae_X13_commands_146, ae_X13_commands_155, ae_X13_commands_178, ae_X13_commands_185, ae_X13_commands_193, am_bnx_v, am_bnx_e, am_tl_s, am_tl_n, am_rv_s, am_add_rx, e1, n2, ← hM2, e3, tail]
  cases ho : (tx_t T n).1 with
  | false =>
    obtain ⟨p1, p2⟩ := z2 ho
    obtain ⟨M5, hM5⟩ : ∃ M5, M5 = av_i (av_i M4 (am_c D 13) 12 (nI (tx_t T n).2.1)) (am_c D 13) 0 1 := ⟨_, rfl⟩
    have rw5 : ∀ a k j, k < 64 → ¬ (a = D ∧ k = 13) → M5.1 (am_c a k) j = M4.1 (am_c a k) j := fun a k j hk h => by
      have hn : ¬ am_c a k = am_c D 13 := am_c_ne hk (by decide) h
      rw [hM5]
      exact (am_up_a hn).trans (am_up_a hn)
    have d5 : ∀ j, j ≠ 0 → j ≠ 12 → M5.1 (am_c D 13) j = M4.1 (am_c D 13) j := fun j a b => by rw [hM5, av_jK a, av_jK b]
    refine ⟨M5, 0, main (p1.trans (by simp only [ae_X13_commands_0, ae_X13_commands_4, ae_X13_commands_48, ae_X13_commands_52, ae_X13_commands_57, ae_X13_commands_71, ae_X13_commands_74, ae_X13_commands_81, ae_X13_commands_92, ae_X13_commands_105, ae_X13_commands_106, ae_X13_commands_116, ae_X13_commands_121, ae_X13_commands_126, ae_X13_commands_129, ae_X13_commands_137, ae_X13_commands_141, ae_X13_commands_146, ae_X13_commands_155, ae_X13_commands_178, ae_X13_commands_185, ae_X13_commands_193, am_bnx_v, am_bnx_e, am_tl_s, am_tl_n, am_rv_s, am_add_rx, p2, mc_fails, ← hM5])), av_fy_t fy4 ⟨by rw [hM5]; rfl, fun c k j hk h => rw5 c k j hk (by omega)⟩, fun _ => ⟨by rw [hM5, av_jS], ?_⟩, fun hh => absurd hh (by decide)⟩
    refine av_y_w Y4 (by rw [hM5]; rfl) (fun j hj => d5 j (by omega) (by omega)) (fun a k j hk h => rw5 a k j hk (by omega)) ?_ ⟨(d5 13 (by decide) (by decide)).trans q4.1, (d5 14 (by decide) (by decide)).trans q4.2.1, (d5 15 (by decide) (by decide)).trans q4.2.2⟩ ⟨Nat.zero_le _, (d5 10 (by decide) (by decide)).trans a10, by rw [hM5, av_jK (by decide), av_jS], fun j hj => absurd hj (Nat.not_lt_zero _)⟩
    rw [show M5.1 (am_c (D + 1) 18) = M4.1 (am_c (D + 1) 18) from funext fun j => rw5 _ _ _ (by decide) (by omega), s4]
    exact hr0
  | true =>
    obtain ⟨p1, mt4, tds⟩ := z1 ho
    obtain ⟨-, hlen⟩ := tx_ty d0 ho
    have h25 : M4.1 (am_c D 13) 25 = nI (tx_t T n).2.2.length := mt4.2.2.2.2.2.2
    obtain ⟨M5, c1, c2, fm⟩ := mc_dl (tx_t T n).2.2 0 bd σ L none M4 (by omega) (by omega) (fun i q hq => by rw [Nat.zero_add]; exact ⟨tds i q hq, (tds i q hq).2.2.1⟩) (by rw [Nat.zero_add]; exact h25) ⟨by rw [v4]; exact hm, by rw [s4]; exact hr0⟩ hS.1
    rw [nI_0] at c1 c2
    rw [Nat.zero_add] at c2
    have fr5 : ∀ j, j < 120 → M5.1 (am_c (D + 2) 18) j = M.1 (am_c (D + 1) 18) j := fun j hj => by rw [av_fm_r fm (a := D + 2) (k := 18) (by decide) (by omega) (by omega)]; exact fr j hj
    cases hz : (tx_x (tx_t T n).2.2 0 σ L).1 with
    | some z =>
      obtain ⟨w1, w2⟩ := c1 z hz
      obtain ⟨M6, b1, b2, b3, b4⟩ := mc_back (y := z.2.2) (x := z.1) (M := M5) (D := D) (by rw [fm.1, v4]; exact hm)
      obtain ⟨M7, hM7⟩ : ∃ M7, M7 = av_i (av_i (av_i (av_i M6 (am_c D 13) 13 z.1) (am_c D 13) 14 z.2.1) (am_c D 13) 15 z.2.2) (am_c D 13) 0 2 := ⟨_, rfl⟩
      have e16 : (av_i M6 (am_c D 13) 13 z.1).1 (am_c D 13) 16 = z.2.1 := by rw [av_jK (by decide), b4 _ _ _ (by decide) (by omega)]; exact w2
      have en : am_val iX13_commands 131 [some (.ref (am_c D 13)), some (.int (z.2.2)), some (.int (z.1)), some (.int (nI 120))] [] M6 = some (.inl (some (.int 0)), M7, 0, 0) := by
        rw [ae_X13_commands_131, if_pos (show (120 : Int32) ≤ nI 120 by decide)]
        simp only [ae_X13_commands_0, ae_X13_commands_4, ae_X13_commands_48, ae_X13_commands_52, ae_X13_commands_57, ae_X13_commands_71, ae_X13_commands_74, ae_X13_commands_81, ae_X13_commands_92, ae_X13_commands_105, ae_X13_commands_106, ae_X13_commands_116, ae_X13_commands_121, ae_X13_commands_126, ae_X13_commands_129, ae_X13_commands_137, ae_X13_commands_141, ae_X13_commands_146, ae_X13_commands_155, ae_X13_commands_178, ae_X13_commands_185, ae_X13_commands_193, am_bnx_v, am_bnx_e, am_tl_s, am_tl_n, am_rv_s, am_add_rx, e16, mc_fails, ← hM7]
      have rw7 : ∀ a k j, k < 64 → ¬ (a = D ∧ k = 13) → M7.1 (am_c a k) j = M6.1 (am_c a k) j := fun a k j hk h => by
        have hn : ¬ am_c a k = am_c D 13 := am_c_ne hk (by decide) h
        rw [hM7]
        exact (am_up_a hn).trans ((am_up_a hn).trans ((am_up_a hn).trans (am_up_a hn)))
      have d7 : ∀ j, j ≠ 0 → j < 13 → M7.1 (am_c D 13) j = M4.1 (am_c D 13) j := fun j a b => by rw [hM7, av_jK a, av_jK (by omega), av_jK (by omega), av_jK (by omega), b4 _ _ _ (by decide) (by omega), av_fm_d fm (by omega)]
      have v7 : M7.2 = M4.2 := by rw [hM7]; exact b2.trans fm.1
      have r7 : ∀ a k j, k < 64 → ¬ (a = D ∧ k = 13) → ¬ (a = D + 1 ∧ k = 18) → M7.1 (am_c a k) j = M4.1 (am_c a k) j := fun a k j hk h1 h2 => by rw [rw7 a k j hk h1, b4 a k j hk h2, av_fm_r fm hk h1 h2]
      refine ⟨M7, 0, main (p1.trans (w1.trans (b1.trans en))), av_fy_t fy4 ⟨v7, fun c k j hk h => r7 c k j hk (by omega) (by omega)⟩, fun hh => absurd hh (by decide), fun _ => ⟨fun z' hz' => ⟨by rw [hM7, av_jS], ?_⟩, fun hz' => absurd hz' (by simp)⟩⟩
      rw [← Option.some.inj hz']
      refine av_y_w Y4 v7 (fun j hj => d7 j (by omega) (by omega)) (fun a k j hk h => r7 a k j hk (by omega) (by omega)) ?_ ⟨by rw [hM7, av_jK (by decide), av_jK (by decide), av_jK (by decide), av_jS], by rw [hM7, av_jK (by decide), av_jK (by decide), av_jS], by rw [hM7, av_jK (by decide), av_jS]⟩ ⟨Nat.zero_le _, (d7 10 (by decide) (by decide)).trans a10, (d7 12 (by decide) (by decide)).trans a12, fun j hj => absurd hj (Nat.not_lt_zero _)⟩
      refine av_mr_e hr0 hL (fun j hj => ?_)
      rw [rw7 _ _ _ (by decide) (by omega), b3 j hj]
      exact fr5 j hj
    | none =>
      obtain ⟨w1, w2⟩ := c2 hz
      obtain ⟨M6, e6, fy6, t6, yy⟩ := mc_chg (x := nI (tx_t T n).2.2.length) hD Y4 (fun j hj => by rw [fr5 j hj, s4]) hS fm.1 w2 (fun c k j hk a b _ _ => fm.2 c k j hk (by omega) b)
      refine ⟨M6, nI (tx_t T n).2.2.length, main (p1.trans (w1 _ _ e6)), av_fy_t fy4 (av_fy_t ⟨fm.1, fun c k j hk h => fm.2 c k j hk (by omega) (by omega)⟩ fy6), fun hh => absurd hh (by decide), fun _ => ⟨fun z' hz' => absurd hz' (by simp), fun _ => ⟨rfl, ?_, yy⟩⟩⟩
      rw [t6, av_fm_d fm (by decide)]
      exact a0
theorem op_commands {bd Lx : Nat} {xs : Nat → Int32} {M : am_M} (hI : av_I bd Lx xs M) (hbd : bd + 1240 < 1000000000) : av_OP (bd + 1240) Lx xs (am_val iL_commands 0 [some (.ref (am_c 0 12)), some (.ref (am_c 282 27)), none] [] M) (fun M1 => am_val iX13_commands 0 [some (.ref (am_c 274 13)), none, none, none] [] M1) := by
  obtain ⟨⟨σ, L, H, P, q, n, T, f, l, hx, hy, hS⟩, hs⟩ := hI
  obtain ⟨M1, fx, c1, c2⟩ := tc_cmds hx hS.1 hbd
  have ok2 : av_okS (bd + 1240) σ L H P := av_okS_m hS (by omega)
  cases ho : (tx_t T n).1 with
  | false =>
    obtain ⟨e, x1⟩ := c1 ho
    obtain ⟨M2, w, e2, fy, m1, m2⟩ := mc_cmds (Nat.le_refl 274) (av_y_fx hy fx) hS hbd
    obtain ⟨t, y⟩ := m1 ho
    exact av_op_e hs (al_commands_e2 e) (by decide) fx x1 e2 fy t y ok2
  | true =>
    obtain ⟨c3, c4⟩ := c2 ho
    cases hz : (tx_x (tx_t T n).2.2 0 σ L).1 with
    | some z =>
      obtain ⟨e, x1⟩ := c3 z hz
      obtain ⟨M2, w, e2, fy, m1, m2⟩ := mc_cmds (Nat.le_refl 274) (av_y_fx hy fx) hS hbd
      obtain ⟨t, y⟩ := (m2 ho).1 z hz
      exact av_op_e hs (al_commands_e0 e) (by decide) fx x1 e2 fy t y ok2
    | none =>
      obtain ⟨e, x1, okn⟩ := c4 hz
      obtain ⟨M2, w, e2, fy, m1, m2⟩ := mc_cmds (Nat.le_refl 274) (av_y_l (a := am_c 282 27) (j := 0) (x := (nI (tx_t T n).2.2.length).toInt64) (av_y_fx hy fx)) hS hbd
      obtain ⟨hw, t, y⟩ := (m2 ho).2 hz
      rw [hw] at e2
      exact av_op_v hs (al_commands_v e) fx x1 e2 fy t y (av_okS_pu hS hx.2.2.1.2.1 okn (by omega))
