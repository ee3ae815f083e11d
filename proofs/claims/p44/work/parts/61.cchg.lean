/-! the class: the history, a change -/
theorem av_h_tk {H : List av_K} {m j : Nat} (h : j < m) : av_h (H.take m) j = av_h H j := by
  unfold av_h
  rw [List.getD_eq_getElem?_getD, List.getD_eq_getElem?_getD, List.getElem?_take_of_lt h]
theorem ac_hkeep {rm : Nat → Nat} {σ : Nat → Int32} {L : List (Nat → Int32)} {H : List av_K} {M : am_M} (hx : av_x2 M H) (hC : av_C M 1 rm σ L) : ∃ M', am_val iX3_keep 0 [some (.ref (am_c 25 3)), some (.ref (am_c 1 1))] [] M = some (.inl none, M', 0, 0) ∧ av_x2 M' (av_pu H (σ, L)) ∧ M'.2 = M.2 ∧ ∀ lo hi, (hi ≤ 25 ∨ 219 ≤ lo) → av_ag M M' lo hi := by
  obtain ⟨hs, hl, ν, g, hν, h1, h2, h3, h4⟩ := hx
  obtain ⟨rm1, c1⟩ := h3 ν hν
  obtain ⟨M', e, c2, v, k1, k2, fr⟩ := ac_keep hs hν hl h1 h2 (Or.inl (by decide)) c1 hC
  have ln := av_pu_l (s := (σ, L)) hl
  refine ⟨M', e, ⟨by rw [v]; exact hs, ?_, (ν + 1) % 8, fun i => if i = ν then (σ, L) else g i, by omega, k1, ?_, fun i hi => ?_, fun j hj => ?_⟩, v, fun lo hi hd c k j hk a b => ⟨fr c k j hk (by omega) (by omega), by rw [v]⟩⟩
  · rw [ln]; split <;> omega
  · rw [k2, ln]
  · show ∃ rm, av_C M' (25 + 2 + 24 * i) rm (if i = ν then (σ, L) else g i).1 (if i = ν then (σ, L) else g i).2
    by_cases hiν : i = ν
    · subst hiν
      rw [if_pos rfl]
      exact ⟨rm1, c2⟩
    · obtain ⟨rm2, c3⟩ := h3 i hi
      rw [if_neg hiν]
      exact ⟨rm2, av_C_g c3 (fun c k j hk a b => ⟨fr c k j hk (by omega) (by omega), by rw [v]⟩)⟩
  · show (if ((ν + 1) % 8 + 8 - (av_pu H (σ, L)).length + j) % 8 = ν then (σ, L) else g (((ν + 1) % 8 + 8 - (av_pu H (σ, L)).length + j) % 8)) = av_h (av_pu H (σ, L)) j
    by_cases he : j = (av_pu H (σ, L)).length - 1
    · have hpos : 0 < (av_pu H (σ, L)).length ∧ (av_pu H (σ, L)).length ≤ 8 := by rw [ln]; split <;> omega
      rw [if_pos (by omega), he, av_pu_e hl]
    · rw [av_pu_o hl (by omega)]
      by_cases h8 : H.length = 8
      · rw [ln, if_pos h8] at hj he ⊢
        rw [if_pos h8, if_neg (by omega), ← h4 (j + 1) (by omega)]
        congr 1
        omega
      · rw [ln, if_neg h8] at hj he ⊢
        rw [if_neg h8, if_neg (by omega), ← h4 j (by omega)]
        congr 1
        omega
theorem ac_hgive {rm : Nat → Nat} {σ : Nat → Int32} {L : List (Nat → Int32)} {m : Nat} {H : List av_K} {M : am_M} (hx : av_x2 M H) (hm : H.length = m + 1) (hC : av_C M 1 rm σ L) : ∃ M', am_val iX3_giveBack 0 [some (.ref (am_c 25 3)), some (.ref (am_c 1 1))] [] M = some (.inl none, M', 0, 0) ∧ av_x2 M' (H.take m) ∧ av_x1 M' (av_h H m).1 (av_h H m).2 ∧ M'.2 = M.2 ∧ ∀ lo hi, (hi ≤ 1 ∨ 219 ≤ lo) → av_ag M M' lo hi := by
  obtain ⟨hs, hl, ν, g, hν, h1, h2, h3, h4⟩ := hx
  rw [hm] at h2
  obtain ⟨rm1, c1⟩ := h3 ((ν + 7) % 8) (by omega)
  obtain ⟨M', e, c2, v, k1, k2, fr⟩ := ac_giveBack hs hν (show m < 8 by omega) h1 h2 (Or.inl (by decide)) hC c1
  have hgm := h4 m (by omega)
  rw [show (ν + 8 - H.length + m) % 8 = (ν + 7) % 8 by omega] at hgm
  rw [hgm] at c2
  refine ⟨M', e, ⟨by rw [v]; exact hs, by rw [List.length_take]; omega, (ν + 7) % 8, g, by omega, k1, by rw [k2, List.length_take, Nat.min_eq_left (by omega)], fun i hi => ?_, fun j hj => ?_⟩, ⟨rm, c2⟩, v, fun lo hi hd c k j hk a b => ⟨fr c k j hk (by omega) (by omega), by rw [v]⟩⟩
  · obtain ⟨rm2, c3⟩ := h3 i hi
    exact ⟨rm2, av_C_g c3 (fun c k j hk a b => ⟨fr c k j hk (by omega) (by omega), by rw [v]⟩)⟩
  · rw [List.length_take, Nat.min_eq_left (by omega)] at hj ⊢
    rw [av_h_tk hj, ← h4 j (by omega)]
    congr 1
    omega
theorem av_fx_of {M X : am_M} (h1 : X.2.2 = M.2.2) (h : ∀ hi, av_ag M X 274 hi) : av_fx M X := ⟨h1, fun c k j hk hc => h (c + 1) c k j hk hc (by omega)⟩
theorem ac_begin {c : Nat} {M : am_M} : ∃ M1, am_val iX5_begin 0 [some (.ref (am_c 248 5)), some (.ref (am_c c 40))] [] M = some (.inl none, M1, 0, 0) ∧ M1.2.1 (am_c 248 5) 0 = am_c c 40 + 1 ∧ (M1.1 (am_c 248 5) 1 = 0 ∧ M1.1 (am_c 248 5) 2 = 0 ∧ M1.1 (am_c 248 5) 3 = 0 ∧ M1.1 (am_c 248 5) 4 = 0) ∧ M1.2.2 = M.2.2 ∧ ∀ lo hi, (hi ≤ 248 ∨ 249 ≤ lo) → av_ag M M1 lo hi := by
  refine ⟨av_i (av_i (av_i (av_i (av_r M (am_c 248 5) 0 (am_c c 40 + 1)) (am_c 248 5) 1 0) (am_c 248 5) 2 0) (am_c 248 5) 3 0) (am_c 248 5) 4 0, by simp only [ae_X5_begin_0], ?_, ⟨?_, ?_, ?_, ?_⟩, rfl, fun lo hi hd => ?_⟩
  · show am_up M.2.1 (am_c 248 5) 0 (am_c c 40 + 1) (am_c 248 5) 0 = _
    exact am_up_s
  · rw [av_jK (by decide), av_jK (by decide), av_jK (by decide), av_jS]
  · rw [av_jK (by decide), av_jK (by decide), av_jS]
  · rw [av_jK (by decide), av_jS]
  · rw [av_jS]
  · refine av_ag_t (av_ag_t (av_ag_t (av_ag_t (av_ag_r (by decide) (by omega)) (av_ag_i (by decide) (by omega))) (av_ag_i (by decide) (by omega))) (av_ag_i (by decide) (by omega))) (av_ag_i (by decide) (by omega))
theorem av_rf_f {M : am_M} {x y : Int32} : av_x4 (av_rf M 243 x y) (x, y, 0) ∧ (av_rf M 243 x y).2 = M.2 ∧ ∀ lo hi, (hi ≤ 243 ∨ 244 ≤ lo) → av_ag M (av_rf M 243 x y) lo hi := by
  unfold av_rf
  refine ⟨⟨?_, ?_, ?_⟩, rfl, fun lo hi hd => ?_⟩
  · rw [av_jK (by decide), av_jK (by decide), av_jS]
  · rw [av_jK (by decide), av_jS]
  · rw [av_jS]
  · exact av_ag_t (av_ag_t (av_ag_i (by decide) (by omega)) (av_ag_i (by decide) (by omega))) (av_ag_i (by decide) (by omega))
theorem ac_change {σ : Nat → Int32} {L : List (Nat → Int32)} {H : List av_K} {P : Option av_K} {q : Int32 × Int32 × Int32} {n : Nat} {T : Nat → Int32} {f : Int32} {l : List Int32} {bd c : Nat} {a b g : Int32} {M : am_M} (hx : av_x M σ L H P q n T f l) (hok : av_ok bd σ L) (hc : c < 8) (hg : g = 0 ∨ g = 1) : ∃ M', av_fx M M' ∧ (match av_ref σ L c a b with
  | some (x, y) => am_val iX12_change 0 [some (.ref (am_c 0 12)), some (.ref (am_c c 40)), some (.int a), some (.int b), some (.int g)] [] M = some (.inr 0, M', 1, 6) ∧ av_x M' σ L H P (x, y, 0) n T f l
  | none => am_val iX12_change 0 [some (.ref (am_c 0 12)), some (.ref (am_c c 40)), some (.int a), some (.int b), some (.int g)] [] M = some (.inl (some (.int (av_ans σ L c a b))), M', 0, 0) ∧ av_x M' (av_nσ σ L c a b) (av_nL σ L c a b g) (av_pu H (σ, L)) P q n T f l) := by
  obtain ⟨h0, ⟨rm, hC⟩, h2, h3, h4, h5, h6, h8, h9⟩ := hx
  obtain ⟨M1, e1, o0, -, v1, g1⟩ := ac_begin (c := c) (M := M)
  obtain ⟨M2, hM2⟩ : ∃ M2, M2 = av_i (av_i (av_i M1 (am_c 248 5) 1 a) (am_c 248 5) 2 b) (am_c 248 5) 3 g := ⟨_, rfl⟩
  have v2 : M2.2 = M1.2 := by rw [hM2]; rfl
  have o1 : M2.1 (am_c 248 5) 1 = a := by rw [hM2, av_jK (by decide), av_jK (by decide), av_jS]
  have o2 : M2.1 (am_c 248 5) 2 = b := by rw [hM2, av_jK (by decide), av_jS]
  have o3 : M2.1 (am_c 248 5) 3 = g := by rw [hM2, av_jS]
  have o0' : M2.2.1 (am_c 248 5) 0 = am_c c 40 + 1 := by rw [v2]; exact o0
  have g2 : ∀ lo hi, (hi ≤ 248 ∨ 249 ≤ lo) → av_ag M M2 lo hi := fun lo hi hd => by
    rw [hM2]
    exact av_ag_t (av_ag_t (av_ag_t (g1 lo hi hd) (av_ag_i (by decide) (by omega))) (av_ag_i (by decide) (by omega))) (av_ag_i (by decide) (by omega))
  have w2 : M2.2.2 = M.2.2 := by rw [v2]; exact v1
  have hC2 := av_C_g hC (g2 1 (1 + 24) (by decide))
  obtain ⟨⟨p0, p1, p2, p4, p5, p6, p7, p8, p9⟩, p3⟩ := av_x0_g h0 (g2 0 1 (by decide))
  have p7' : M.2.1 (am_c 0 12) 7 = am_c 248 5 + 1 := h0.1.2.2.2.2.2.2.1
  have r7 : M1.2.1 (am_c 0 12) 7 = am_c 248 5 + 1 := by rw [← v2]; exact p7
  have r0 : M1.2.1 (am_c 0 12) 0 = am_c 1 1 + 1 := by rw [← v2]; exact p0
  have er := ac_isRefused (f := 243) hC2 hc o0' o1 o2
  cases hr : av_ref σ L c a b with
  | some xy =>
    obtain ⟨x, y⟩ := xy
    rw [hr] at er
    have er : am_val iX1_isRefused 0 [some (.ref (am_c 1 1)), some (.ref (am_c 248 5)), some (.ref (am_c 243 7))] [] M2 = some (.inl (some (.int 1)), av_rf M2 243 x y, 0, 0) := er
    obtain ⟨k4, kv, kg⟩ := av_rf_f (M := M2) (x := x) (y := y)
    have G : ∀ lo hi, (hi ≤ 248 ∨ 249 ≤ lo) → (hi ≤ 243 ∨ 244 ≤ lo) → av_ag M (av_rf M2 243 x y) lo hi := fun lo hi a b => av_ag_t (g2 lo hi a) (kg lo hi b)
    refine ⟨av_rf M2 243 x y, av_fx_of (by rw [kv]; exact w2) (fun hi => G 274 hi (Or.inr (by decide)) (Or.inr (by decide))), ?_, av_x0_g h0 (G 0 1 (by decide) (by decide)), ⟨rm, av_C_g hC (G 1 (1 + 24) (by decide) (by decide))⟩, av_x2_g h2 (G _ _ (by decide) (by decide)), av_x3_g h3 (G _ _ (by decide) (by decide)), k4, av_x5_g h5 (G _ _ (by decide) (by decide)), av_x6_g h6 (G _ _ (by decide) (by decide)), av_x8_g h8 (G _ _ (by decide) (by decide)), av_xp_g h9 (G _ _ (by decide) (by decide))⟩
    simp only [ae_X12_change_0, ae_X12_change_4, ae_X12_change_8, ae_X12_change_12, ae_X12_change_20, ae_X12_change_28, ae_X12_change_37, ae_X12_change_41, ae_X12_change_45, ae_X12_change_48, ae_X12_change_51, ae_X12_change_61, ae_X12_change_65, ae_X12_change_69, ae_X12_change_72, ae_X12_change_76, ae_X12_change_80, ae_X12_change_83, am_bnx_v, am_bnx_e, am_tl_s, am_tl_n, am_rv_s, am_add_rx, p7', e1, r7, r0, av_i2, hg, ← hM2, p0, p7, p4, er, not_true_eq_false, not_false_eq_true, if_true, if_false, am_1n0, or_true, true_or, eq_self, Bool.true_eq_false, Bool.false_eq_true, cond_true, cond_false]
  | none =>
    rw [hr] at er
    have er : am_val iX1_isRefused 0 [some (.ref (am_c 1 1)), some (.ref (am_c 248 5)), some (.ref (am_c 243 7))] [] M2 = some (.inl (some (.int 0)), M2, 0, 0) := er
    obtain ⟨M3, e3, x3, v3, g3⟩ := ac_hkeep (av_x2_g h2 (g2 _ _ (by decide))) hC2
    have hC3 := av_C_g hC2 (g3 1 (1 + 24) (by decide))
    have s0 : M3.2.1 (am_c 248 5) 0 = am_c c 40 + 1 := by rw [v3]; exact o0'
    have s1 : M3.1 (am_c 248 5) 1 = a := (g3 248 249 (by decide) 248 5 1 (by decide) (by decide) (by decide)).1.trans o1
    have s2 : M3.1 (am_c 248 5) 2 = b := (g3 248 249 (by decide) 248 5 2 (by decide) (by decide) (by decide)).1.trans o2
    have s3 : M3.1 (am_c 248 5) 3 = g := (g3 248 249 (by decide) 248 5 3 (by decide) (by decide) (by decide)).1.trans o3
    obtain ⟨M4, rm', e4, c4, f4⟩ := ac_carryOut (g := g) hC3 hok hc hr hg s0 s1 s2 s3
    have G : ∀ lo hi, (hi ≤ 248 ∨ 249 ≤ lo) → (hi ≤ 25 ∨ 219 ≤ lo) → (hi ≤ 1 ∨ 1 + 24 ≤ lo) → av_ag M M4 lo hi := fun lo hi a b c => av_ag_t (av_ag_t (g2 lo hi a) (g3 lo hi b)) (av_fr_ag f4 c)
    have w4 : M4.2.2 = M.2.2 := by rw [f4.1, v3]; exact w2
    refine ⟨M4, av_fx_of w4 (fun hi => G 274 hi (Or.inr (by decide)) (Or.inr (by decide)) (Or.inr (by decide))), ?_, av_x0_g h0 (G 0 1 (by decide) (by decide) (by decide)), ⟨rm', c4⟩, av_x2_g x3 (av_fr_ag f4 (by decide)), av_x3_g h3 (G _ _ (by decide) (by decide) (by decide)), av_x4_g h4 (G _ _ (by decide) (by decide) (by decide)), av_x5_g h5 (G _ _ (by decide) (by decide) (by decide)), av_x6_g h6 (G _ _ (by decide) (by decide) (by decide)), av_x8_g h8 (G _ _ (by decide) (by decide) (by decide)), av_xp_g h9 (G _ _ (by decide) (by decide) (by decide))⟩
    simp only [ae_X12_change_0, ae_X12_change_4, ae_X12_change_8, ae_X12_change_12, ae_X12_change_20, ae_X12_change_28, ae_X12_change_37, ae_X12_change_41, ae_X12_change_45, ae_X12_change_48, ae_X12_change_51, ae_X12_change_61, ae_X12_change_65, ae_X12_change_69, ae_X12_change_72, ae_X12_change_76, ae_X12_change_80, ae_X12_change_83, am_bnx_v, am_bnx_e, am_tl_s, am_tl_n, am_rv_s, am_add_rx, p7', e1, r7, r0, av_i2, hg, ← hM2, p0, p1, p7, p4, er, e3, v3, e4, not_true_eq_false, not_false_eq_true, if_true, if_false, am_1n0, or_true, true_or, eq_self, Bool.true_eq_false, Bool.false_eq_true, cond_true, cond_false]
