/-! lines of walls -/
def tl_w (σ : Nat → Int32) (p : Nat) : List Int32 := if σ (18 + 2 * p) = 0 then [46] else if σ (19 + 2 * p) = -1 then [48 + σ (18 + 2 * p)] else [48 + σ (18 + 2 * p)] ++ [97 + σ (19 + 2 * p)]
def tl_n (σ : Nat → Int32) : Nat → List Int32
  | 0 => []
  | p + 1 => tl_n σ p ++ tl_w σ p
theorem tl_w_l {σ : Nat → Int32} {p : Nat} : (tl_w σ p).length ≤ 2 := by
  unfold tl_w
  split
  · exact Nat.le_succ _
  · split
    · exact Nat.le_succ _
    · exact Nat.le_refl _
theorem tl_n_l {σ : Nat → Int32} : ∀ p, (tl_n σ p).length ≤ 2 * p := by
  intro p
  induction p with
  | zero => exact Nat.le_refl _
  | succ p ih =>
    have h := tl_w_l (σ := σ) (p := p)
    show (tl_n σ p ++ tl_w σ p).length ≤ 2 * (p + 1)
    rw [List.length_append]
    omega
theorem cl_wall {σ : Nat → Int32} {p k : Nat} {l : List Int32} {rm : Nat → Nat} {L : List (Nat → Int32)} {M : am_M} (p0 : M.2.1 (am_c 0 12) 0 = am_c 1 1 + 1) (p6 : M.2.1 (am_c 0 12) 6 = am_c 246 4 + 1) (hC : av_C M 1 rm σ L) (hw : av_wok σ p) (hp : p < 16) (h6 : av_x6 M l) (hl : l.length + 2 ≤ 32) : ∃ M', am_val iX12_line 9 [some (.ref (am_c 0 12)), some (.int (nI p))] [] M = am_val iX12_line 9 [some (.ref (am_c 0 12)), some (.int (nI (p + 1)))] [] (M') ∧ av_x6 M' (l ++ tl_w σ p) ∧ av_ll M M' := by
  obtain ⟨h, hh, eh, ho⟩ := hw
  have w0 := hC.1.1.1
  have ea := ac_bisAt (p := nI p) hC
  have e1 := ac_bheight (p := nI p) hC
  rw [av_hf_n (σ := σ) hp] at ea e1
  have h16 : ¬ (16 : Int32) ≤ nI p := nI_ge (b := 16) hp (by decide)
  unfold tl_w
  by_cases h0 : h = 0
  · subst h0
    have hz : σ (18 + 2 * p) = 0 := eh
    rw [if_pos hz]
    rw [hz, show decide ((0 : Int32) < 0) = false by decide, am_bi_f] at ea
    obtain ⟨M1, e, x, g⟩ := cl_put (x := 46) h6 (by omega) (by decide)
    refine ⟨M1, ?_, x, g⟩
    rw [ae_X12_line_9, if_neg h16]
    simp only [ae_X12_line_0, ae_X12_line_4, ae_X12_line_7, ae_X12_line_15, ae_X12_line_19, ae_X12_line_22, ae_X12_line_26, ae_X12_line_29, ae_X12_line_33, ae_X12_line_37, ae_X12_line_40, ae_X12_line_44, ae_X12_line_47, ae_X12_line_51, ae_X12_line_55, ae_X12_line_58, ae_X12_line_62, ae_X12_line_65, ae_X12_line_68, ae_X12_line_72, ae_X12_line_77, ae_X12_line_83, ae_X12_line_87, am_bnx_v, am_bnx_e, am_tl_s, am_tl_n, am_rv_s, am_add_rx, p0, w0, ea, p6, e, not_true_eq_false, not_false_eq_true, if_true, if_false, am_1n0, or_true, true_or, eq_self, Bool.true_eq_false, Bool.false_eq_true, cond_true, cond_false, nI_1]
  · have hz : ¬ σ (18 + 2 * p) = 0 := by rw [eh]; exact nI_ne0 (by omega) (by omega)
    have hpos : 0 < σ (18 + 2 * p) := by rw [eh]; exact nI_lt (a := 0) (b := h) (by omega) (by omega)
    rw [if_neg hz]
    rw [decide_eq_true hpos, am_bi_t] at ea
    obtain ⟨-, -, -, a4⟩ := tl_k h (by omega)
    have a5 := tl_k1 h (by omega)
    obtain ⟨M1, e, x, g⟩ := cl_num h6 (k := h) (by omega) (by omega)
    have hd : tl_d (nI h) = [48 + nI h] := by
      unfold tl_d
      rw [if_pos (show nI h < 10 from nI_lt (b := 10) (by omega) (by decide)), a5]
    rw [hd] at x
    rw [eh] at e1
    have hC1 := av_C_g hC (g.2 1 (1 + 24) (by decide))
    have q0 : M1.2.1 (am_c 0 12) 0 = am_c 1 1 + 1 := by rw [g.1]; exact p0
    have q6 : M1.2.1 (am_c 0 12) 6 = am_c 246 4 + 1 := by rw [g.1]; exact p6
    have w1 := hC1.1.1.1
    have e2 := ac_bowner (p := nI p) hC1
    rw [av_of_n (σ := σ) hp] at e2
    rcases ho with hm | ⟨-, t, ht, et⟩
    · rw [if_pos hm, eh]
      rw [hm] at e2
      refine ⟨M1, ?_, x, g⟩
      rw [ae_X12_line_9, if_neg h16]
      simp only [ae_X12_line_0, ae_X12_line_4, ae_X12_line_7, ae_X12_line_15, ae_X12_line_19, ae_X12_line_22, ae_X12_line_26, ae_X12_line_29, ae_X12_line_33, ae_X12_line_37, ae_X12_line_40, ae_X12_line_44, ae_X12_line_47, ae_X12_line_51, ae_X12_line_55, ae_X12_line_58, ae_X12_line_62, ae_X12_line_65, ae_X12_line_68, ae_X12_line_72, ae_X12_line_77, ae_X12_line_83, ae_X12_line_87, am_bnx_v, am_bnx_e, am_tl_s, am_tl_n, am_rv_s, am_add_rx, p0, w0, ea, p6, e1, e, q0, q6, w1, e2, cl_noteam, not_true_eq_false, not_false_eq_true, if_true, if_false, am_1n0, or_true, true_or, eq_self, Bool.true_eq_false, Bool.false_eq_true, cond_true, cond_false, nI_1]
    · have hm : ¬ σ (19 + 2 * p) = -1 := by rw [et]; exact av_bi_nI (by omega)
      rw [if_neg hm, eh, et]
      rw [et] at e2
      obtain ⟨M2, e3, x2, g2⟩ := cl_team x ht (by rw [tl_gl]; omega)
      rw [List.append_assoc] at x2
      refine ⟨M2, ?_, x2, av_ll_t g g2⟩
      rw [ae_X12_line_9, if_neg h16]
      simp only [ae_X12_line_0, ae_X12_line_4, ae_X12_line_7, ae_X12_line_15, ae_X12_line_19, ae_X12_line_22, ae_X12_line_26, ae_X12_line_29, ae_X12_line_33, ae_X12_line_37, ae_X12_line_40, ae_X12_line_44, ae_X12_line_47, ae_X12_line_51, ae_X12_line_55, ae_X12_line_58, ae_X12_line_62, ae_X12_line_65, ae_X12_line_68, ae_X12_line_72, ae_X12_line_77, ae_X12_line_83, ae_X12_line_87, am_bnx_v, am_bnx_e, am_tl_s, am_tl_n, am_rv_s, am_add_rx, p0, w0, ea, p6, e1, e, q0, q6, w1, e2, e3, not_true_eq_false, not_false_eq_true, if_true, if_false, am_1n0, or_true, true_or, eq_self, Bool.true_eq_false, Bool.false_eq_true, cond_true, cond_false, nI_1]
theorem cl_lp {σ : Nat → Int32} {rm : Nat → Nat} {L : List (Nat → Int32)} (hw : ∀ p, p < 16 → av_wok σ p) : ∀ (m p : Nat) (M : am_M), p + m = 16 → M.2.1 (am_c 0 12) 0 = am_c 1 1 + 1 → M.2.1 (am_c 0 12) 6 = am_c 246 4 + 1 → av_C M 1 rm σ L → av_x6 M (tl_n σ p) → ∃ M', am_val iX12_line 9 [some (.ref (am_c 0 12)), some (.int (nI p))] [] M = some (.inl (some (.int (nI (tl_n σ 16).length))), M', 0, 0) ∧ av_x6 M' (tl_n σ 16) ∧ av_ll M M' := by
  intro m
  induction m with
  | zero =>
    intro p M hp p0 p6 hC h6
    obtain rfl : p = 16 := by omega
    have e := h6.2.2.1
    refine ⟨M, ?_, h6, av_ll_0⟩
    rw [ae_X12_line_9, if_pos (show (16 : Int32) ≤ nI 16 by decide)]
    simp only [ae_X12_line_0, ae_X12_line_4, ae_X12_line_7, ae_X12_line_15, ae_X12_line_19, ae_X12_line_22, ae_X12_line_26, ae_X12_line_29, ae_X12_line_33, ae_X12_line_37, ae_X12_line_40, ae_X12_line_44, ae_X12_line_47, ae_X12_line_51, ae_X12_line_55, ae_X12_line_58, ae_X12_line_62, ae_X12_line_65, ae_X12_line_68, ae_X12_line_72, ae_X12_line_77, ae_X12_line_83, ae_X12_line_87, am_bnx_v, am_bnx_e, am_tl_s, am_tl_n, am_rv_s, am_add_rx, p6, e]
  | succ m ih =>
    intro p M hp p0 p6 hC h6
    have hl := tl_n_l (σ := σ) p
    obtain ⟨M1, e, x, g⟩ := cl_wall (k := 0) p0 p6 hC (hw p (by omega)) (by omega) h6 (by omega)
    obtain ⟨M', e', x', g'⟩ := ih (p + 1) M1 (by omega) (by rw [g.1]; exact p0) (by rw [g.1]; exact p6) (av_C_g hC (g.2 1 (1 + 24) (by decide))) x
    exact ⟨M', e.trans e', x', av_ll_t g g'⟩
theorem av_x_ll {σ : Nat → Int32} {L : List (Nat → Int32)} {H : List av_K} {P : Option av_K} {q : Int32 × Int32 × Int32} {n : Nat} {T : Nat → Int32} {f : Int32} {l : List Int32} {M X : am_M} {l' : List Int32} (hx : av_x M σ L H P q n T f l) (g : av_ll M X) (h6 : av_x6 X l') : av_x X σ L H P q n T f l' := by
  obtain ⟨h0, h1, h2, h3, h4, h5, -, h8, h9⟩ := hx
  exact ⟨av_x0_g h0 (g.2 _ _ (by decide)), av_x1_g h1 (g.2 _ _ (by decide)), av_x2_g h2 (g.2 _ _ (by decide)), av_x3_g h3 (g.2 _ _ (by decide)), av_x4_g h4 (g.2 _ _ (by decide)), av_x5_g h5 (g.2 _ _ (by decide)), h6, av_x8_g h8 (g.2 _ _ (by decide)), av_xp_g h9 (g.2 _ _ (by decide))⟩
theorem av_fx_ll {M X : am_M} (g : av_ll M X) : av_fx M X := av_fx_of (by rw [g.1]) (fun hi => g.2 274 hi (Or.inr (by decide)))
theorem ac_line {σ : Nat → Int32} {L : List (Nat → Int32)} {H : List av_K} {P : Option av_K} {q : Int32 × Int32 × Int32} {n : Nat} {T : Nat → Int32} {f : Int32} {l : List Int32} {bd : Nat} {M : am_M} (hx : av_x M σ L H P q n T f l) (hok : av_ok bd σ L) : ∃ M', am_val iX12_line 0 [some (.ref (am_c 0 12)), none] [] M = some (.inl (some (.int (nI (tl_n σ 16).length))), M', 0, 0) ∧ av_fx M M' ∧ av_x M' σ L H P q n T f (tl_n σ 16) := by
  obtain ⟨rm, hC⟩ := hx.2.1
  have p0 := hx.1.1.1
  have p6 : M.2.1 (am_c 0 12) 6 = am_c 246 4 + 1 := hx.1.1.2.2.2.2.2.1
  obtain ⟨M1, e1, x1, g1⟩ := cl_clear hx.2.2.2.2.2.2.1
  obtain ⟨M', e, x', g⟩ := cl_lp hok.1 16 0 M1 (by decide) (by rw [g1.1]; exact p0) (by rw [g1.1]; exact p6) (av_C_g hC (g1.2 1 (1 + 24) (by decide))) x1
  rw [nI_0] at e
  exact ⟨M', by simp only [ae_X12_line_0, ae_X12_line_4, ae_X12_line_7, ae_X12_line_15, ae_X12_line_19, ae_X12_line_22, ae_X12_line_26, ae_X12_line_29, ae_X12_line_33, ae_X12_line_37, ae_X12_line_40, ae_X12_line_44, ae_X12_line_47, ae_X12_line_51, ae_X12_line_55, ae_X12_line_58, ae_X12_line_62, ae_X12_line_65, ae_X12_line_68, ae_X12_line_72, ae_X12_line_77, ae_X12_line_83, ae_X12_line_87, am_bnx_v, am_bnx_e, am_tl_s, am_tl_n, am_rv_s, am_add_rx, p6, e1, e], av_fx_ll (av_ll_t g1 g), av_x_ll hx (av_ll_t g1 g) x'⟩
/-! the second implementation -/
theorem ml_wall {D p : Nat} {σ : Nat → Int32} {L : List (Nat → Int32)} {l : List Int32} {M : am_M} (y0 : av_y0 D M σ L) (hw : av_wok σ p) (hp : p < 16) (h6 : av_y6 D M l) (hl : l.length + 2 ≤ 32) : ∃ M', am_val iX13_line 12 [some (.ref (am_c D 13)), some (.int (nI p))] [] M = am_val iX13_line 12 [some (.ref (am_c D 13)), some (.int (nI (p + 1)))] [] (M') ∧ av_y6 D M' (l ++ tl_w σ p) ∧ av_lm D M M' := by
  obtain ⟨h, hh, eh, ho⟩ := hw
  have e1 := mc_height y0.1 hp
  rw [y0.2.1 (18 + 2 * p) (by omega) (by omega), eh] at e1
  have h16 : ¬ (16 : Int32) ≤ nI p := nI_ge (b := 16) hp (by decide)
  unfold tl_w
  by_cases h0 : h = 0
  · subst h0
    have hz : σ (18 + 2 * p) = 0 := eh
    rw [if_pos hz]
    have ho : σ (19 + 2 * p) = -1 := ho.resolve_right (fun hh => absurd hh.1 (by decide))
    obtain ⟨M1, e, x, g⟩ := ml_put (x := 46) y0.1 h6 (by omega)
    have y1 := av_lm_y g y0
    have e2 := mc_owner y1.1 hp
    rw [y1.2.1 (19 + 2 * p) (by omega) (by omega), ho] at e2
    refine ⟨M1, ?_, x, g⟩
    have e1 : am_val iX13_height 0 [some (.ref (am_c D 13)), some (.int (nI p))] [] M = some (.inl (some (.int 0)), M, 0, 0) := e1
    rw [ae_X13_line_12, if_neg h16]
    simp only [ae_X13_line_0, ae_X13_line_18, ae_X13_line_24, ae_X13_line_27, ae_X13_line_32, ae_X13_line_39, ae_X13_line_43, ae_X13_line_48, ae_X13_line_52, ae_X13_line_60, ae_X13_line_64, ae_X13_line_70, am_bnx_v, am_bnx_e, am_tl_s, am_tl_n, am_rv_s, am_add_rx, e1, e, e2, not_true_eq_false, not_false_eq_true, if_true, if_false, am_1n0, or_true, true_or, eq_self, Bool.true_eq_false, Bool.false_eq_true, cond_true, cond_false, nI_1]
  · have hn : ¬ nI h = 0 := nI_ne0 (by omega) (by omega)
    have hz : ¬ σ (18 + 2 * p) = 0 := by rw [eh]; exact hn
    rw [if_neg hz]
    obtain ⟨M1, e, x, g⟩ := ml_put (x := 48 + nI h) y0.1 h6 (by omega)
    have y1 := av_lm_y g y0
    have e2 := mc_owner y1.1 hp
    rw [y1.2.1 (19 + 2 * p) (by omega) (by omega)] at e2
    rcases ho with hm | ⟨-, t, ht, et⟩
    · rw [if_pos hm, eh]
      rw [hm] at e2
      refine ⟨M1, ?_, x, g⟩
      rw [ae_X13_line_12, if_neg h16]
      simp only [ae_X13_line_0, ae_X13_line_18, ae_X13_line_24, ae_X13_line_27, ae_X13_line_32, ae_X13_line_39, ae_X13_line_43, ae_X13_line_48, ae_X13_line_52, ae_X13_line_60, ae_X13_line_64, ae_X13_line_70, am_bnx_v, am_bnx_e, am_tl_s, am_tl_n, am_rv_s, am_add_rx, e1, hn, e, e2, not_true_eq_false, not_false_eq_true, if_true, if_false, am_1n0, or_true, true_or, eq_self, Bool.true_eq_false, Bool.false_eq_true, cond_true, cond_false, nI_1]
    · have hq : ¬ nI t = -1 := av_bi_nI (by omega)
      have hm : ¬ σ (19 + 2 * p) = -1 := by rw [et]; exact hq
      rw [if_neg hm, eh, et]
      rw [et] at e2
      obtain ⟨M2, e3, x2, g2⟩ := ml_put (x := 97 + nI t) y1.1 x (by rw [tl_gl]; omega)
      rw [List.append_assoc] at x2
      refine ⟨M2, ?_, x2, av_lm_t g g2⟩
      rw [ae_X13_line_12, if_neg h16]
      simp only [ae_X13_line_0, ae_X13_line_18, ae_X13_line_24, ae_X13_line_27, ae_X13_line_32, ae_X13_line_39, ae_X13_line_43, ae_X13_line_48, ae_X13_line_52, ae_X13_line_60, ae_X13_line_64, ae_X13_line_70, am_bnx_v, am_bnx_e, am_tl_s, am_tl_n, am_rv_s, am_add_rx, e1, hn, e, e2, hq, e3, not_true_eq_false, not_false_eq_true, if_true, if_false, am_1n0, or_true, true_or, eq_self, Bool.true_eq_false, Bool.false_eq_true, cond_true, cond_false, nI_1]
theorem ml_lp {D : Nat} {σ : Nat → Int32} {L : List (Nat → Int32)} (hw : ∀ p, p < 16 → av_wok σ p) : ∀ (m p : Nat) (M : am_M), p + m = 16 → av_y0 D M σ L → av_y6 D M (tl_n σ p) → ∃ M', am_val iX13_line 12 [some (.ref (am_c D 13)), some (.int (nI p))] [] M = some (.inl (some (.int (nI (tl_n σ 16).length))), M', 0, 0) ∧ av_y6 D M' (tl_n σ 16) ∧ av_lm D M M' := by
  intro m
  induction m with
  | zero =>
    intro p M hp y0 h6
    obtain rfl : p = 16 := by omega
    have e := h6.2.1
    refine ⟨M, ?_, h6, av_lm_0⟩
    rw [ae_X13_line_12, if_pos (show (16 : Int32) ≤ nI 16 by decide)]
    simp only [ae_X13_line_0, ae_X13_line_18, ae_X13_line_24, ae_X13_line_27, ae_X13_line_32, ae_X13_line_39, ae_X13_line_43, ae_X13_line_48, ae_X13_line_52, ae_X13_line_60, ae_X13_line_64, ae_X13_line_70, am_bnx_v, am_bnx_e, am_tl_s, am_tl_n, am_rv_s, am_add_rx, e]
  | succ m ih =>
    intro p M hp y0 h6
    have hl := tl_n_l (σ := σ) p
    obtain ⟨M1, e, x, g⟩ := ml_wall y0 (hw p (by omega)) (by omega) h6 (by omega)
    obtain ⟨M', e', x', g'⟩ := ih (p + 1) M1 (by omega) (av_lm_y g y0) x
    exact ⟨M', e.trans e', x', av_lm_t g g'⟩
/-- the line's cells and what is thrown -/
def av_lz (D : Nat) (M X : am_M) : Prop := X.2 = M.2 ∧ ∀ c k j, k < 64 → ¬ (c = D ∧ k = 13 ∧ (j = 0 ∨ j = 11)) → ¬ (c = D + 7 ∧ k = 20) → X.1 (am_c c k) j = M.1 (am_c c k) j
theorem av_lz_t {D : Nat} {M X Y : am_M} (h : av_lz D M X) (h' : av_lz D X Y) : av_lz D M Y := ⟨h'.1.trans h.1, fun c k j hk a b => (h'.2 c k j hk a b).trans (h.2 c k j hk a b)⟩
theorem av_lz_m {D : Nat} {M X : am_M} (h : av_lm D M X) : av_lz D M X := ⟨h.1, fun c k j hk a b => h.2 c k j hk (fun hh => a ⟨hh.1, hh.2.1, Or.inr hh.2.2⟩) b⟩
theorem av_lz_i {D j : Nat} {x : Int32} {M : am_M} (hj : j = 0 ∨ j = 11) : av_lz D M (av_i M (am_c D 13) j x) := ⟨rfl, fun c k j' hk a _ => am_up_ak (fun hh => a (by
  have e := hh.1
  rw [am_c_inj hk (by decide)] at e
  exact ⟨e.1, e.2, by omega⟩))⟩
theorem av_lz_fy {D : Nat} {M X : am_M} (hD : 274 ≤ D) (h : av_lz D M X) : av_fy M X := ⟨h.1, fun c k j hk a => h.2 c k j hk (by omega) (by omega)⟩
theorem av_y_lz {σ : Nat → Int32} {L : List (Nat → Int32)} {H : List av_K} {P : Option av_K} {q : Int32 × Int32 × Int32} {n : Nat} {T : Nat → Int32} {f : Int32} {l : List Int32} {D : Nat} {M X : am_M} {l' : List Int32} (hy : av_y D M σ L H P q n T f l) (g : av_lz D M X) (h6 : av_y6 D X l') : av_y D X σ L H P q n T f l' := by
  obtain ⟨y0, y2, y3, y4, y5, -⟩ := hy
  have rr : ∀ a k, k < 64 → ¬ (a = D ∧ k = 13) → ¬ (a = D + 7 ∧ k = 20) → X.1 (am_c a k) = M.1 (am_c a k) := fun a k hk h1 h2 => funext fun j => g.2 a k j hk (fun hh => h1 ⟨hh.1, hh.2.1⟩) h2
  have dd : ∀ j, j ≠ 0 → j ≠ 11 → X.1 (am_c D 13) j = M.1 (am_c D 13) j := fun j a b => g.2 D 13 j (by decide) (by omega) (by omega)
  exact ⟨av_y0_f y0 g.1 (rr _ _ (by decide) (by omega) (by omega)), av_y2_f y2 (dd _ (by decide) (by decide)) (rr _ _ (by decide) (by omega) (by omega)), av_y3_f y3 (dd _ (by decide) (by decide)) (rr _ _ (by decide) (by omega) (by omega)), av_y4_f y4 (dd _ (by decide) (by decide)) (dd _ (by decide) (by decide)) (dd _ (by decide) (by decide)), av_y5_f y5 (dd _ (by decide) (by decide)) (dd _ (by decide) (by decide)) (rr _ _ (by decide) (by omega) (by omega)), h6⟩
theorem ml_0 {D : Nat} {M : am_M} : av_y6 D (av_i M (am_c D 13) 11 0) [] := ⟨by decide, av_jS, fun j hj => absurd hj (Nat.not_lt_zero _)⟩
theorem mc_line {σ : Nat → Int32} {L : List (Nat → Int32)} {H : List av_K} {P : Option av_K} {q : Int32 × Int32 × Int32} {n : Nat} {T : Nat → Int32} {f : Int32} {l : List Int32} {D bd : Nat} {M : am_M} (hy : av_y D M σ L H P q n T f l) (hok : av_ok bd σ L) : ∃ M', am_val iX13_line 0 [some (.ref (am_c D 13)), none] [] M = some (.inl (some (.int (nI (tl_n σ 16).length))), M', 0, 0) ∧ av_lz D M M' ∧ M'.1 (am_c D 13) 0 = 0 ∧ av_y D M' σ L H P q n T f (tl_n σ 16) := by
  obtain ⟨M0, hM0⟩ : ∃ M0, M0 = av_i (av_i M (am_c D 13) 0 0) (am_c D 13) 11 0 := ⟨_, rfl⟩
  have g0 : av_lz D M M0 := by rw [hM0]; exact av_lz_t (av_lz_i (Or.inl rfl)) (av_lz_i (Or.inr rfl))
  have h6 : av_y6 D M0 [] := by rw [hM0]; exact ml_0
  have y0 := (av_y_lz hy g0 h6).1
  obtain ⟨M', e, x', g⟩ := ml_lp hok.1 16 0 M0 (by decide) y0 h6
  rw [nI_0] at e
  have t : M0.1 (am_c D 13) 0 = 0 := by rw [hM0, av_jK (by decide), av_jS]
  exact ⟨M', by simp only [ae_X13_line_0, ae_X13_line_18, ae_X13_line_24, ae_X13_line_27, ae_X13_line_32, ae_X13_line_39, ae_X13_line_43, ae_X13_line_48, ae_X13_line_52, ae_X13_line_60, ae_X13_line_64, ae_X13_line_70, am_bnx_v, am_bnx_e, am_tl_s, am_tl_n, am_rv_s, am_add_rx, ← hM0, e], av_lz_t g0 (av_lz_m g), (g.2 D 13 0 (by decide) (by omega) (by omega)).trans t, av_y_lz hy (av_lz_t g0 (av_lz_m g)) x'⟩
theorem op_line {bd Lx : Nat} {xs : Nat → Int32} {M : am_M} (hI : av_I bd Lx xs M) : av_OD bd Lx xs (am_val iX12_line 0 [some (.ref (am_c 0 12)), none] [] M) (fun M1 => am_val iX13_line 0 [some (.ref (am_c 274 13)), none] [] M1) := by
  obtain ⟨⟨σ, L, H, P, q, n, T, f, l, hx, hy, hS⟩, hs⟩ := hI
  obtain ⟨M1, e1, fx, x1⟩ := ac_line hx hS.1
  obtain ⟨M2, e2, g, -, y2⟩ := mc_line (av_y_fx hy fx) hS.1
  exact av_od_v hs e1 fx x1 e2 (av_lz_fy (Nat.le_refl _) g) y2 hS
