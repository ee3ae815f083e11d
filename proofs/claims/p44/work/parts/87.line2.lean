/-! lines of walls -/
def tl_w (σ : Nat → Int32) (p : Nat) : List Int32 := if σ (18 + 2 * p) = 0 then [46] else if σ (19 + 2 * p) = -1 then [48 + σ (18 + 2 * p)] else [48 + σ (18 + 2 * p)] ++ [97 + σ (19 + 2 * p)]
def tl_n (σ : Nat → Int32) : Nat → List Int32
  | 0 => []
  | p + 1 => tl_n σ p ++ tl_w σ p
theorem tl_w_l {σ : Nat → Int32} {p : Nat} : (tl_w σ p).length ≤ 2 := by
  unfold tl_w
  split
  · exact Nat.le_succ _
  · split
    · exact Nat.le_succ _
    · exact Nat.le_refl _
theorem tl_n_l {σ : Nat → Int32} : ∀ p, (tl_n σ p).length ≤ 2 * p := by
  intro p
  induction p with
  | zero => exact Nat.le_refl _
  | succ p ih =>
    have h := tl_w_l (σ := σ) (p := p)
    show (tl_n σ p ++ tl_w σ p).length ≤ 2 * (p + 1)
    rw [List.length_append]
    omega
theorem cl_wall {σ : Nat → Int32} {p k : Nat} {l : List Int32} {rm : Nat → Nat} {L : List (Nat → Int32)} {M : am_M} (p0 : M.2.1 (am_c 0 12) 0 = am_c 1 1 + 1) (p6 : M.2.1 (am_c 0 12) 6 = am_c 246 4 + 1) (hC : av_C M 1 rm σ L) (hw : av_wok σ p) (hp : p < 16) (h6 : av_x6 M l) (hl : l.length + 2 ≤ 32) : ∃ M', am_val iX12_line 9 [some (.ref (am_c 0 12)), some (.int (nI p))] [] M = am_val iX12_line 9 [some (.ref (am_c 0 12)), some (.int (nI (p + 1)))] [] (M') ∧ av_x6 M' (l ++ tl_w σ p) ∧ av_ll M M' := by
  obtain ⟨h, hh, eh, ho⟩ := hw
  have w0 := hC.1.1.1
  have ea := ac_bisAt (p := nI p) hC
  have e1 := ac_bheight (p := nI p) hC
  rw [av_hf_n (σ := σ) hp] at ea e1
  have h16 : ¬ (16 : Int32) ≤ nI p := nI_ge (b := 16) hp (by decide)
  unfold tl_w
  by_cases h0 : h = 0
  · subst h0
    have hz : σ (18 + 2 * p) = 0 := eh
    rw [if_pos hz]
    rw [hz, show decide ((0 : Int32) < 0) = false by decide, am_bi_f] at ea
    obtain ⟨M1, e, x, g⟩ := cl_put (x := 46) h6 (by omega) (by decide)
    refine ⟨M1, ?_, x, g⟩
    rw [ae_X12_line_9, if_neg h16]
    simp only [ae_X12_line_0, ae_X12_line_4, ae_X12_line_7, ae_X12_line_15, ae_X12_line_19, ae_X12_line_22, ae_X12_line_26, ae_X12_line_29, ae_X12_line_33, ae_X12_line_37, ae_X12_line_40, ae_X12_line_44, ae_X12_line_47, ae_X12_line_51, ae_X12_line_55, ae_X12_line_58, ae_X12_line_62, ae_X12_line_65, ae_X12_line_68, ae_X12_line_72, ae_X12_line_77, ae_X12_line_83, ae_X12_line_87, am_bnx_v, am_bnx_e, am_tl_s, am_tl_n, am_rv_s, am_add_rx, p0, w0, ea, p6, e, not_true_eq_false, not_false_eq_true, if_true, if_false, am_1n0, or_true, true_or, eq_self, Bool.true_eq_false, Bool.false_eq_true, cond_true, cond_false, nI_1]
  · have hz : ¬ σ (18 + 2 * p) = 0 := by rw [eh]; exact nI_ne0 (by omega) (by omega)
    have hpos : 0 < σ (18 + 2 * p) := by rw [eh]; exact nI_lt (a := 0) (b := h) (by omega) (by omega)
    rw [if_neg hz]
    rw [decide_eq_true hpos, am_bi_t] at ea
    obtain ⟨-, -, -, a4⟩ := tl_k h (by omega)
    have a5 := tl_k1 h (by omega)
    obtain ⟨M1, e, x, g⟩ := cl_num h6 (k := h) (by omega) (by omega)
    have hd : tl_d (nI h) = [48 + nI h] := by
      unfold tl_d
      rw [if_pos (show nI h < 10 from nI_lt (b := 10) (by omega) (by decide)), a5]
    rw [hd] at x
    rw [eh] at e1
    have hC1 := av_C_g hC (g.2 1 (1 + 24) (by decide))
    have q0 : M1.2.1 (am_c 0 12) 0 = am_c 1 1 + 1 := by rw [g.1]; exact p0
    have q6 : M1.2.1 (am_c 0 12) 6 = am_c 246 4 + 1 := by rw [g.1]; exact p6
    have w1 := hC1.1.1.1
    have e2 := ac_bowner (p := nI p) hC1
    rw [av_of_n (σ := σ) hp] at e2
    rcases ho with hm | ⟨-, t, ht, et⟩
    · rw [if_pos hm, eh]
      rw [hm] at e2
      refine ⟨M1, ?_, x, g⟩
      rw [ae_X12_line_9, if_neg h16]
      simp only [ae_X12_line_0, ae_X12_line_4, ae_X12_line_7, ae_X12_line_15, ae_X12_line_19, ae_X12_line_22, ae_X12_line_26, ae_X12_line_29, ae_X12_line_33, ae_X12_line_37, ae_X12_line_40, ae_X12_line_44, ae_X12_line_47, ae_X12_line_51, ae_X12_line_55, ae_X12_line_58, ae_X12_line_62, ae_X12_line_65, ae_X12_line_68, ae_X12_line_72, ae_X12_line_77, ae_X12_line_83, ae_X12_line_87, am_bnx_v, am_bnx_e, am_tl_s, am_tl_n, am_rv_s, am_add_rx, p0, w0, ea, p6, e1, e, q0, q6, w1, e2, cl_noteam, not_true_eq_false, not_false_eq_true, if_true, if_false, am_1n0, or_true, true_or, eq_self, Bool.true_eq_false, Bool.false_eq_true, cond_true, cond_false, nI_1]
    · have hm : ¬ σ (19 + 2 * p) = -1 := by rw [et]; exact av_bi_nI (by omega)
      rw [if_neg hm, eh, et]
      rw [et] at e2
      obtain ⟨M2, e3, x2, g2⟩ := cl_team x ht (by rw [tl_gl]; omega)
      rw [List.append_assoc] at x2
      refine ⟨M2, ?_, x2, av_ll_t g g2⟩
      rw [ae_X12_line_9, if_neg h16]
      simp only [ae_X12_line_0, ae_X12_line_4, ae_X12_line_7, ae_X12_line_15, ae_X12_line_19, ae_X12_line_22, ae_X12_line_26, ae_X12_line_29, ae_X12_line_33, ae_X12_line_37, ae_X12_line_40, ae_X12_line_44, ae_X12_line_47, ae_X12_line_51, ae_X12_line_55, ae_X12_line_58, ae_X12_line_62, ae_X12_line_65, ae_X12_line_68, ae_X12_line_72, ae_X12_line_77, ae_X12_line_83, ae_X12_line_87, am_bnx_v, am_bnx_e, am_tl_s, am_tl_n, am_rv_s, am_add_rx, p0, w0, ea, p6, e1, e, q0, q6, w1, e2, e3, not_true_eq_false, not_false_eq_true, if_true, if_false, am_1n0, or_true, true_or, eq_self, Bool.true_eq_false, Bool.false_eq_true, cond_true, cond_false, nI_1]
theorem cl_lp {σ : Nat → Int32} {rm : Nat → Nat} {L : List (Nat → Int32)} (hw : ∀ p, p < 16 → av_wok σ p) : ∀ (m p : Nat) (M : am_M), p + m = 16 → M.2.1 (am_c 0 12) 0 = am_c 1 1 + 1 → M.2.1 (am_c 0 12) 6 = am_c 246 4 + 1 → av_C M 1 rm σ L → av_x6 M (tl_n σ p) → ∃ M', am_val iX12_line 9 [some (.ref (am_c 0 12)), some (.int (nI p))] [] M = some (.inl (some (.int (nI (tl_n σ 16).length))), M', 0, 0) ∧ av_x6 M' (tl_n σ 16) ∧ av_ll M M' := by
  intro m
  induction m with
  | zero =>
    intro p M hp p0 p6 hC h6
    obtain rfl : p = 16 := by omega
    have e := h6.2.2.1
    refine ⟨M, ?_, h6, av_ll_0⟩
    rw [ae_X12_line_9, if_pos (show (16 : Int32) ≤ nI 16 by decide)]
    simp only [ae_X12_line_0, ae_X12_line_4, ae_X12_line_7, ae_X12_line_15, ae_X12_line_19, ae_X12_line_22, ae_X12_line_26, ae_X12_line_29, ae_X12_line_33, ae_X12_line_37, ae_X12_line_40, ae_X12_line_44, ae_X12_line_47, ae_X12_line_51, ae_X12_line_55, ae_X12_line_58, ae_X12_line_62, ae_X12_line_65, ae_X12_line_68, ae_X12_line_72, ae_X12_line_77, ae_X12_line_83, ae_X12_line_87, am_bnx_v, am_bnx_e, am_tl_s, am_tl_n, am_rv_s, am_add_rx, p6, e]
  | succ m ih =>
    intro p M hp p0 p6 hC h6
    have hl := tl_n_l (σ := σ) p
    obtain ⟨M1, e, x, g⟩ := cl_wall (k := 0) p0 p6 hC (hw p (by omega)) (by omega) h6 (by omega)
    obtain ⟨M', e', x', g'⟩ := ih (p + 1) M1 (by omega) (by rw [g.1]; exact p0) (by rw [g.1]; exact p6) (av_C_g hC (g.2 1 (1 + 24) (by decide))) x
    exact ⟨M', e.trans e', x', av_ll_t g g'⟩
theorem av_x_ll {σ : Nat → Int32} {L : List (Nat → Int32)} {H : List av_K} {P : Option av_K} {q : Int32 × Int32 × Int32} {n : Nat} {T : Nat → Int32} {f : Int32} {l : List Int32} {M X : am_M} {l' : List Int32} (hx : av_x M σ L H P q n T f l) (g : av_ll M X) (h6 : av_x6 X l') : av_x X σ L H P q n T f l' := by
  obtain ⟨h0, h1, h2, h3, h4, h5, -, h8, h9⟩ := hx
  exact ⟨av_x0_g h0 (g.2 _ _ (by decide)), av_x1_g h1 (g.2 _ _ (by decide)), av_x2_g h2 (g.2 _ _ (by decide)), av_x3_g h3 (g.2 _ _ (by decide)), av_x4_g h4 (g.2 _ _ (by decide)), av_x5_g h5 (g.2 _ _ (by decide)), h6, av_x8_g h8 (g.2 _ _ (by decide)), av_xp_g h9 (g.2 _ _ (by decide))⟩
theorem av_fx_ll {M X : am_M} (g : av_ll M X) : av_fx M X := av_fx_of (by rw [g.1]) (fun hi => g.2 274 hi (Or.inr (by decide)))
theorem ac_line {σ : Nat → Int32} {L : List (Nat → Int32)} {H : List av_K} {P : Option av_K} {q : Int32 × Int32 × Int32} {n : Nat} {T : Nat → Int32} {f : Int32} {l : List Int32} {bd : Nat} {M : am_M} (hx : av_x M σ L H P q n T f l) (hok : av_ok bd σ L) : ∃ M', am_val iX12_line 0 [some (.ref (am_c 0 12)), none] [] M = some (.inl (some (.int (nI (tl_n σ 16).length))), M', 0, 0) ∧ av_fx M M' ∧ av_x M' σ L H P q n T f (tl_n σ 16) := by
  obtain ⟨rm, hC⟩ := hx.2.1
  have p0 := hx.1.1.1
  have p6 : M.2.1 (am_c 0 12) 6 = am_c 246 4 + 1 := hx.1.1.2.2.2.2.2.1
  obtain ⟨M1, e1, x1, g1⟩ := cl_clear hx.2.2.2.2.2.2.1
  obtain ⟨M', e, x', g⟩ := cl_lp hok.1 16 0 M1 (by decide) (by rw [g1.1]; exact p0) (by rw [g1.1]; exact p6) (av_C_g hC (g1.2 1 (1 + 24) (by decide))) x1
  rw [nI_0] at e
  exact ⟨M', by simp only [ae_X12_line_0, ae_X12_line_4, ae_X12_line_7, ae_X12_line_15, ae_X12_line_19, ae_X12_line_22, ae_X12_line_26, ae_X12_line_29, ae_X12_line_33, ae_X12_line_37, ae_X12_line_40, ae_X12_line_44, ae_X12_line_47, ae_X12_line_51, ae_X12_line_55, ae_X12_line_58, ae_X12_line_62, ae_X12_line_65, ae_X12_line_68, ae_X12_line_72, ae_X12_line_77, ae_X12_line_83, ae_X12_line_87, am_bnx_v, am_bnx_e, am_tl_s, am_tl_n, am_rv_s, am_add_rx, p6, e1, e], av_fx_ll (av_ll_t g1 g), av_x_ll hx (av_ll_t g1 g) x'⟩
/-! the second implementation -/
/-- the line's cells and what is thrown -/
def av_lz (D : Nat) (M X : am_M) : Prop := X.2 = M.2 ∧ ∀ c k j, k < 64 → ¬ (c = D ∧ k = 13 ∧ (j = 0 ∨ j = 11)) → ¬ (c = D + 7 ∧ k = 20) → X.1 (am_c c k) j = M.1 (am_c c k) j
theorem av_lz_t {D : Nat} {M X Y : am_M} (h : av_lz D M X) (h' : av_lz D X Y) : av_lz D M Y := ⟨h'.1.trans h.1, fun c k j hk a b => (h'.2 c k j hk a b).trans (h.2 c k j hk a b)⟩
theorem av_lz_m {D : Nat} {M X : am_M} (h : av_lm D M X) : av_lz D M X := ⟨h.1, fun c k j hk a b => h.2 c k j hk (fun hh => a ⟨hh.1, hh.2.1, Or.inr hh.2.2⟩) b⟩
theorem av_lz_i {D j : Nat} {x : Int32} {M : am_M} (hj : j = 0 ∨ j = 11) : av_lz D M (av_i M (am_c D 13) j x) := ⟨rfl, fun c k j' hk a _ => am_up_ak (fun hh => a (by
  have e := hh.1
  rw [am_c_inj hk (by decide)] at e
  exact ⟨e.1, e.2, by omega⟩))⟩
theorem av_lz_fy {D : Nat} {M X : am_M} (hD : 274 ≤ D) (h : av_lz D M X) : av_fy M X := ⟨h.1, fun c k j hk a => h.2 c k j hk (by omega) (by omega)⟩
theorem ml_0 {D : Nat} {M : am_M} : av_y6 D (av_i M (am_c D 13) 11 0) [] := ⟨by decide, av_jS, fun j hj => absurd hj (Nat.not_lt_zero _)⟩
