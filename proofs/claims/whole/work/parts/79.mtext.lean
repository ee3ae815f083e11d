/-! the second implementation: a text is read -/
def av_mt (D : Nat) (M : am_M) (n : Nat) (T : Nat → Int32) (p : Nat) (w : Bool) (k : Nat) : Prop := (M.2.1 (am_c D 13) 7 = am_c (D + 5) 20 + 1 ∧ M.2.1 (am_c D 13) 8 = am_c (D + 6) 21 + 1) ∧ n ≤ 60 ∧ (∀ j, j < n → M.1 (am_c (D + 5) 20) j = T j) ∧ M.1 (am_c D 13) 24 = nI n ∧ M.1 (am_c D 13) 23 = nI p ∧ M.1 (am_c D 13) 26 = am_bi w ∧ M.1 (am_c D 13) 25 = nI k
/-- only the place and whether it is wrong are changed -/
def av_mf (D : Nat) (M X : am_M) : Prop := X.2 = M.2 ∧ ∀ c k j, k < 64 → ¬ (c = D ∧ k = 13 ∧ (j = 23 ∨ j = 26)) → X.1 (am_c c k) j = M.1 (am_c c k) j
theorem av_mf_0 {D : Nat} {M : am_M} : av_mf D M M := ⟨rfl, fun _ _ _ _ _ => rfl⟩
theorem av_mf_t {D : Nat} {M X Y : am_M} (h : av_mf D M X) (h' : av_mf D X Y) : av_mf D M Y := ⟨h'.1.trans h.1, fun c k j hk a => (h'.2 c k j hk a).trans (h.2 c k j hk a)⟩
theorem av_mf_i {D j : Nat} {M : am_M} {x : Int32} (hj : j = 23 ∨ j = 26) : av_mf D M (av_i M (am_c D 13) j x) := ⟨rfl, fun c k j' hk a => am_up_ak (fun hh => a (by
  have e := hh.1
  rw [am_c_inj hk (by decide)] at e
  exact ⟨e.1, e.2, by omega⟩))⟩
theorem av_mt_f {D n p p' k : Nat} {T : Nat → Int32} {w w' : Bool} {M X : am_M} (h : av_mt D M n T p w k) (f : av_mf D M X) (hp : X.1 (am_c D 13) 23 = nI p') (hw : X.1 (am_c D 13) 26 = am_bi w') : av_mt D X n T p' w' k := by
  obtain ⟨⟨h1, h2⟩, h3, h4, h5, h6, h7, h8⟩ := h
  exact ⟨⟨by rw [f.1]; exact h1, by rw [f.1]; exact h2⟩, h3, fun j hj => (f.2 _ _ _ (by decide) (by omega)).trans (h4 j hj), (f.2 _ _ _ (by decide) (by omega)).trans h5, hp, hw, (f.2 _ _ _ (by decide) (by omega)).trans h8⟩
theorem mt_here {D n p k : Nat} {T : Nat → Int32} {w : Bool} {M : am_M} (h : av_mt D M n T p w k) (hpb : p < 2147483648) : am_val iX13_here 0 [some (.ref (am_c D 13))] [] M = some (.inl (some (.int (tx_h T n p))), M, 0, 0) := by
  obtain ⟨⟨h1, h2⟩, h3, h4, h5, h6, h7, h8⟩ := h
  by_cases hpn : p < n
  · have a1 : ¬ nI n ≤ nI p := av_hl hpn (by omega)
    have hin := am_in_n (show p < 60 by omega) (by decide)
    have htn := am_tn (show p < 2147483648 by omega)
    rw [tx_h_y hpn]
    simp only [ae_X13_here_0, ae_X13_here_11, ae_X13_here_15, ae_X13_here_23, am_bnx_v, am_bnx_e, am_tl_s, am_tl_n, am_rv_s, am_add_rx, h1, h5, h6, a1, hin, htn, h4 p hpn, not_true_eq_false, not_false_eq_true, if_true, if_false, am_1n0, or_true, true_or, eq_self, Bool.true_eq_false, Bool.false_eq_true, cond_true, cond_false]
  · have a1 : nI n ≤ nI p := nI_le (by omega) (by omega)
    rw [tx_h_n hpn]
    simp only [ae_X13_here_0, ae_X13_here_11, ae_X13_here_15, ae_X13_here_23, am_bnx_v, am_bnx_e, am_tl_s, am_tl_n, am_rv_s, am_add_rx, h5, h6, a1, not_true_eq_false, not_false_eq_true, if_true, if_false, am_1n0, or_true, true_or, eq_self, Bool.true_eq_false, Bool.false_eq_true, cond_true, cond_false]
theorem av_mt_i {D n p k : Nat} {T : Nat → Int32} {w w' : Bool} {M : am_M} (h : av_mt D M n T p w k) : av_mt D (av_i M (am_c D 13) 26 (am_bi w')) n T p w' k :=
  av_mt_f h (av_mf_i (Or.inr rfl)) (by rw [av_jK (by decide)]; exact h.2.2.2.2.1) av_jS
theorem mt_sign {D n p k : Nat} {T : Nat → Int32} {ch : Int32} {w : Bool} {M : am_M} (h : av_mt D M n T p w k) (hpb : p < 2147483640) (hc : ¬ ch = -1) : ∃ M', am_val iX13_sign 0 [some (.ref (am_c D 13)), some (.int ch)] [] M = some (.inl none, M', 0, 0) ∧ av_mt D M' n T (if w = true then p else (tx_k T n ch p).2.1) (w || !(tx_k T n ch p).1) k ∧ av_mf D M M' := by
  have e := mt_here h (by omega)
  have h6 := h.2.2.2.2.1
  have h7 := h.2.2.2.2.2.1
  have wr : ∀ {X : am_M}, X = av_i M (am_c D 13) 26 1 → (X.1 (am_c D 13) 26 = 1 ∧ X.1 (am_c D 13) 23 = nI p) := fun hX => by rw [hX]; exact ⟨av_jS, by rw [av_jK (by decide)]; exact h6⟩
  cases w with
  | true =>
    rw [am_bi_t] at h7
    rw [if_pos rfl]
    refine ⟨av_i (av_i M (am_c D 13) 26 1) (am_c D 13) 23 (nI p), ?_, av_mt_f h (av_mf_t (av_mf_i (Or.inr rfl)) (av_mf_i (Or.inl rfl))) av_jS (by rw [av_jK (by decide), av_jS]; rfl), av_mf_t (av_mf_i (Or.inr rfl)) (av_mf_i (Or.inl rfl))⟩
    obtain ⟨a1, a2⟩ := wr rfl
    simp only [ae_X13_sign_0, ae_X13_sign_8, ae_X13_sign_12, ae_X13_sign_16, ae_X13_sign_20, ae_X13_sign_36, ae_X13_sign_40, am_bnx_v, am_bnx_e, am_tl_s, am_tl_n, am_rv_s, am_add_rx, h7, a1, a2, not_true_eq_false, not_false_eq_true, if_true, if_false, am_1n0, or_true, true_or, eq_self, Bool.true_eq_false, Bool.false_eq_true, cond_true, cond_false, Int32.add_zero]
  | false =>
    rw [am_bi_f] at h7
    rw [if_neg (by decide)]
    unfold tx_k
    by_cases hs : tx_h T n p = ch
    · rw [if_pos hs]
      refine ⟨av_i (av_i M (am_c D 13) 26 0) (am_c D 13) 23 (nI (p + 1)), ?_, av_mt_f h (av_mf_t (av_mf_i (Or.inr rfl)) (av_mf_i (Or.inl rfl))) av_jS (by rw [av_jK (by decide), av_jS]; rfl), av_mf_t (av_mf_i (Or.inr rfl)) (av_mf_i (Or.inl rfl))⟩
      have b1 : (av_i M (am_c D 13) 26 0).1 (am_c D 13) 26 = 0 := av_jS
      have b2 : (av_i M (am_c D 13) 26 0).1 (am_c D 13) 23 = nI p := by rw [av_jK (by decide)]; exact h6
      simp only [ae_X13_sign_0, ae_X13_sign_8, ae_X13_sign_12, ae_X13_sign_16, ae_X13_sign_20, ae_X13_sign_36, ae_X13_sign_40, am_bnx_v, am_bnx_e, am_tl_s, am_tl_n, am_rv_s, am_add_rx, h7, e, if_pos hs, b1, b2, not_true_eq_false, not_false_eq_true, if_true, if_false, am_1n0, or_true, true_or, eq_self, Bool.true_eq_false, Bool.false_eq_true, cond_true, cond_false, nI_1]
    · rw [if_neg hs]
      refine ⟨av_i (av_i M (am_c D 13) 26 1) (am_c D 13) 23 (nI p), ?_, av_mt_f h (av_mf_t (av_mf_i (Or.inr rfl)) (av_mf_i (Or.inl rfl))) av_jS (by rw [av_jK (by decide), av_jS]; rfl), av_mf_t (av_mf_i (Or.inr rfl)) (av_mf_i (Or.inl rfl))⟩
      obtain ⟨a1, a2⟩ := wr rfl
      simp only [ae_X13_sign_0, ae_X13_sign_8, ae_X13_sign_12, ae_X13_sign_16, ae_X13_sign_20, ae_X13_sign_36, ae_X13_sign_40, am_bnx_v, am_bnx_e, am_tl_s, am_tl_n, am_rv_s, am_add_rx, h7, e, hs, a1, a2, not_true_eq_false, not_false_eq_true, if_true, if_false, am_1n0, or_true, true_or, eq_self, Bool.true_eq_false, Bool.false_eq_true, cond_true, cond_false, Int32.add_zero]
theorem mt_side {D n p k : Nat} {T : Nat → Int32} {w : Bool} {M : am_M} (h : av_mt D M n T p w k) (hpb : p < 2147483640) : ∃ M' v, am_val iX13_side 0 [some (.ref (am_c D 13)), none] [] M = some (.inl (some (.int v)), M', 0, 0) ∧ av_mt D M' n T (if w = true then p else (tx_g T n p).2.1) (w || !(tx_g T n p).1) k ∧ (w = false → v = (tx_g T n p).2.2) ∧ av_mf D M M' := by
  have e := mt_here h (by omega)
  have h6 := h.2.2.2.2.1
  have h7 := h.2.2.2.2.2.1
  obtain ⟨X1, hX1⟩ : ∃ X1, X1 = av_i M (am_c D 13) 26 1 := ⟨_, rfl⟩
  obtain ⟨X0, hX0⟩ : ∃ X0, X0 = av_i M (am_c D 13) 26 0 := ⟨_, rfl⟩
  have m1 : av_mt D X1 n T p true k := by rw [hX1]; exact av_mt_i (w' := true) h
  have m0 : av_mt D X0 n T p false k := by rw [hX0]; exact av_mt_i (w' := false) h
  have f1 : av_mf D M X1 := by rw [hX1]; exact av_mf_i (Or.inr rfl)
  have f0 : av_mf D M X0 := by rw [hX0]; exact av_mf_i (Or.inr rfl)
  have e1 := mt_here m1 (by omega)
  have e0 := mt_here m0 (by omega)
  have p1 := m1.2.2.2.2.1
  have p0 := m0.2.2.2.2.1
  have q1 : X1.1 (am_c D 13) 26 = 1 := m1.2.2.2.2.2.1
  have q0 : X0.1 (am_c D 13) 26 = 0 := m0.2.2.2.2.2.1
  have fin1 : av_mt D (av_i X1 (am_c D 13) 23 (nI p)) n T p true k ∧ av_mf D M (av_i X1 (am_c D 13) 23 (nI p)) := ⟨av_mt_f m1 (av_mf_i (Or.inl rfl)) av_jS (by rw [av_jK (by decide)]; exact q1), av_mf_t f1 (av_mf_i (Or.inl rfl))⟩
  have fin0 : av_mt D (av_i X0 (am_c D 13) 23 (nI (p + 1))) n T (p + 1) false k ∧ av_mf D M (av_i X0 (am_c D 13) 23 (nI (p + 1))) := ⟨av_mt_f m0 (av_mf_i (Or.inl rfl)) av_jS (by rw [av_jK (by decide)]; exact q0), av_mf_t f0 (av_mf_i (Or.inl rfl))⟩
  cases w with
  | true =>
    rw [am_bi_t] at h7
    rw [if_pos rfl]
    by_cases hs : tx_h T n p = 43
    · refine ⟨av_i X1 (am_c D 13) 23 (nI p), 1, ?_, fin1.1, fun h => absurd h (by decide), fin1.2⟩
      simp only [ae_X13_side_0, ae_X13_side_8, ae_X13_side_12, ae_X13_side_17, ae_X13_side_21, ae_X13_side_26, ae_X13_side_30, ae_X13_side_38, ae_X13_side_43, ae_X13_side_47, ae_X13_side_61, ae_X13_side_65, am_bnx_v, am_bnx_e, am_tl_s, am_tl_n, am_rv_s, am_add_rx, h7, ← hX1, e1, if_neg (not_not_intro hs), q1, p1, not_true_eq_false, not_false_eq_true, if_true, if_false, am_1n0, or_true, true_or, eq_self, Bool.true_eq_false, Bool.false_eq_true, cond_true, cond_false, Int32.add_zero]
    · refine ⟨av_i X1 (am_c D 13) 23 (nI p), 0, ?_, fin1.1, fun h => absurd h (by decide), fin1.2⟩
      simp only [ae_X13_side_0, ae_X13_side_8, ae_X13_side_12, ae_X13_side_17, ae_X13_side_21, ae_X13_side_26, ae_X13_side_30, ae_X13_side_38, ae_X13_side_43, ae_X13_side_47, ae_X13_side_61, ae_X13_side_65, am_bnx_v, am_bnx_e, am_tl_s, am_tl_n, am_rv_s, am_add_rx, h7, ← hX1, e1, hs, q1, p1, not_true_eq_false, not_false_eq_true, if_true, if_false, am_1n0, or_true, true_or, eq_self, Bool.true_eq_false, Bool.false_eq_true, cond_true, cond_false, Int32.add_zero]
  | false =>
    rw [am_bi_f] at h7
    rw [if_neg (by decide)]
    unfold tx_g
    by_cases hs : tx_h T n p = 43
    · rw [if_pos hs]
      refine ⟨av_i X0 (am_c D 13) 23 (nI (p + 1)), 1, ?_, fin0.1, fun _ => rfl, fin0.2⟩
      simp only [ae_X13_side_0, ae_X13_side_8, ae_X13_side_12, ae_X13_side_17, ae_X13_side_21, ae_X13_side_26, ae_X13_side_30, ae_X13_side_38, ae_X13_side_43, ae_X13_side_47, ae_X13_side_61, ae_X13_side_65, am_bnx_v, am_bnx_e, am_tl_s, am_tl_n, am_rv_s, am_add_rx, h7, e, if_pos hs, ← hX0, e0, if_neg (not_not_intro hs), q0, p0, not_true_eq_false, not_false_eq_true, if_true, if_false, am_1n0, or_true, true_or, eq_self, Bool.true_eq_false, Bool.false_eq_true, cond_true, cond_false, nI_1]
    · rw [if_neg hs]
      by_cases hs2 : tx_h T n p = 45
      · rw [if_pos hs2]
        refine ⟨av_i X0 (am_c D 13) 23 (nI (p + 1)), 0, ?_, fin0.1, fun _ => rfl, fin0.2⟩
        simp only [ae_X13_side_0, ae_X13_side_8, ae_X13_side_12, ae_X13_side_17, ae_X13_side_21, ae_X13_side_26, ae_X13_side_30, ae_X13_side_38, ae_X13_side_43, ae_X13_side_47, ae_X13_side_61, ae_X13_side_65, am_bnx_v, am_bnx_e, am_tl_s, am_tl_n, am_rv_s, am_add_rx, h7, e, hs, if_pos hs2, ← hX0, e0, q0, p0, not_true_eq_false, not_false_eq_true, if_true, if_false, am_1n0, or_true, true_or, eq_self, Bool.true_eq_false, Bool.false_eq_true, cond_true, cond_false, nI_1]
      · rw [if_neg hs2]
        refine ⟨av_i X1 (am_c D 13) 23 (nI p), 0, ?_, fin1.1, fun _ => rfl, fin1.2⟩
        simp only [ae_X13_side_0, ae_X13_side_8, ae_X13_side_12, ae_X13_side_17, ae_X13_side_21, ae_X13_side_26, ae_X13_side_30, ae_X13_side_38, ae_X13_side_43, ae_X13_side_47, ae_X13_side_61, ae_X13_side_65, am_bnx_v, am_bnx_e, am_tl_s, am_tl_n, am_rv_s, am_add_rx, h7, e, hs, hs2, ← hX1, e1, q1, p1, not_true_eq_false, not_false_eq_true, if_true, if_false, am_1n0, or_true, true_or, eq_self, Bool.true_eq_false, Bool.false_eq_true, cond_true, cond_false, Int32.add_zero]
theorem mt_dg {D n p k : Nat} {T : Nat → Int32} {m v d : Int32} {M : am_M} (h : av_mt D M n T p false k) (hpb : p < 2147483640) (hk : ¬ m ≤ d) (hd : tx_d (tx_h T n p) = true) : ∃ M', am_val iX13_figure 4 [some (.ref (am_c D 13)), some (.int m), some (.int v), some (.int d)] [] M = am_val iX13_figure 4 [some (.ref (am_c D 13)), some (.int m), some (.int ((10 * v + tx_h T n p - 48))), some (.int ((d + 1)))] [] (M') ∧ av_mt D M' n T (p + 1) false k ∧ av_mf D M M' := by
  have e := mt_here h (by omega)
  have h6 := h.2.2.2.2.1
  have h7 : M.1 (am_c D 13) 26 = 0 := h.2.2.2.2.2.1
  have hw : am_wt (tx_h T n p) 48 57 = true := hd
  refine ⟨av_i M (am_c D 13) 23 (nI (p + 1)), ?_, av_mt_f h (av_mf_i (Or.inl rfl)) av_jS (by rw [av_jK (by decide)]; exact h7), av_mf_i (Or.inl rfl)⟩
  rw [ae_X13_figure_4, h7, if_neg (show ¬ ¬ (0 : Int32) = 0 by decide)]
  simp only [ae_X13_figure_0, ae_X13_figure_11, ae_X13_figure_16, ae_X13_figure_20, ae_X13_figure_27, ae_X13_figure_30, ae_X13_figure_38, ae_X13_figure_59, ae_X13_figure_67, ae_X13_figure_71, ae_X13_figure_75, am_bnx_v, am_bnx_e, am_tl_s, am_tl_n, am_rv_s, am_add_rx, hk, e, mc_in, hw, am_bi_t, not_true_eq_false, not_false_eq_true, if_true, if_false, am_1n0, or_true, true_or, eq_self, Bool.true_eq_false, Bool.false_eq_true, cond_true, cond_false, h6, nI_1]
theorem mt_nd {D n p k : Nat} {T : Nat → Int32} {m v d : Int32} {M : am_M} (h : av_mt D M n T p false k) (hpb : p < 2147483640) (hk : m ≤ d ∨ tx_d (tx_h T n p) = false) : ∃ M', am_val iX13_figure 4 [some (.ref (am_c D 13)), some (.int m), some (.int v), some (.int d)] [] M = some (.inl (some (.int v)), M', 0, 0) ∧ av_mt D M' n T p (decide (d = 0)) k ∧ av_mf D M M' := by
  have e := mt_here h (by omega)
  have h7 : M.1 (am_c D 13) 26 = 0 := h.2.2.2.2.2.1
  refine ⟨av_i M (am_c D 13) 26 (am_bi (decide (d = 0))), ?_, av_mt_i h, av_mf_i (Or.inr rfl)⟩
  have fin : am_val iX13_figure 59 [some (.ref (am_c D 13)), some (.int m), some (.int v), some (.int d)] [] M = some (.inl (some (.int v)), av_i M (am_c D 13) 26 (am_bi (decide (d = 0))), 0, 0) := by
    by_cases h0 : d = 0
    · rw [decide_eq_true h0, am_bi_t]
      simp only [ae_X13_figure_0, ae_X13_figure_11, ae_X13_figure_16, ae_X13_figure_20, ae_X13_figure_27, ae_X13_figure_30, ae_X13_figure_38, ae_X13_figure_59, ae_X13_figure_67, ae_X13_figure_71, ae_X13_figure_75, am_bnx_v, am_bnx_e, am_tl_s, am_tl_n, am_rv_s, am_add_rx, h7, if_neg (not_not_intro h0), not_true_eq_false, not_false_eq_true, if_true, if_false, am_1n0, or_true, true_or, eq_self, Bool.true_eq_false, Bool.false_eq_true, cond_true, cond_false]
    · rw [decide_eq_false h0, am_bi_f]
      simp only [ae_X13_figure_0, ae_X13_figure_11, ae_X13_figure_16, ae_X13_figure_20, ae_X13_figure_27, ae_X13_figure_30, ae_X13_figure_38, ae_X13_figure_59, ae_X13_figure_67, ae_X13_figure_71, ae_X13_figure_75, am_bnx_v, am_bnx_e, am_tl_s, am_tl_n, am_rv_s, am_add_rx, h7, h0, not_true_eq_false, not_false_eq_true, if_true, if_false, am_1n0, or_true, true_or, eq_self, Bool.true_eq_false, Bool.false_eq_true, cond_true, cond_false]
  rw [ae_X13_figure_4, h7, if_neg (show ¬ ¬ (0 : Int32) = 0 by decide)]
  by_cases hmk : m ≤ d
  · rw [ae_X13_figure_11, if_pos hmk]
    exact fin
  · have hw : am_wt (tx_h T n p) 48 57 = false := hk.resolve_left hmk
    rw [ae_X13_figure_11, if_neg hmk, ae_X13_figure_16, e, am_bnx_v, am_tl_s, ae_X13_figure_20, mc_in, am_bnx_v, am_tl_s, hw, am_bi_f, ae_X13_figure_27, if_pos rfl]
    exact fin
theorem mt_wr {D n p k : Nat} {T : Nat → Int32} {m : Int32} {M : am_M} (h : av_mt D M n T p true k) : ∃ M', am_val iX13_figure 0 [some (.ref (am_c D 13)), some (.int m), none, none] [] M = some (.inl (some (.int 0)), M', 0, 0) ∧ av_mt D M' n T p true k ∧ av_mf D M M' := by
  have h7 : M.1 (am_c D 13) 26 = 1 := h.2.2.2.2.2.1
  refine ⟨av_i M (am_c D 13) 26 1, ?_, av_mt_i (w' := true) h, av_mf_i (Or.inr rfl)⟩
  rw [ae_X13_figure_0, ae_X13_figure_4, h7, if_pos (show ¬ (1 : Int32) = 0 by decide)]
  simp only [ae_X13_figure_0, ae_X13_figure_11, ae_X13_figure_16, ae_X13_figure_20, ae_X13_figure_27, ae_X13_figure_30, ae_X13_figure_38, ae_X13_figure_59, ae_X13_figure_67, ae_X13_figure_71, ae_X13_figure_75, am_bnx_v, am_bnx_e, am_tl_s, am_tl_n, am_rv_s, am_add_rx, h7, not_true_eq_false, not_false_eq_true, if_true, if_false, am_1n0, or_true, true_or, eq_self, Bool.true_eq_false, Bool.false_eq_true, cond_true, cond_false]
theorem mt_fig1 {D n p k : Nat} {T : Nat → Int32} {w : Bool} {M : am_M} (h : av_mt D M n T p w k) (hpb : p < 2147483600) : ∃ M' v, am_val iX13_figure 0 [some (.ref (am_c D 13)), some (.int 1), none, none] [] M = some (.inl (some (.int v)), M', 0, 0) ∧ av_mt D M' n T (if w = true then p else (tx_1 T n p).2.1) (w || !(tx_1 T n p).1) k ∧ (w = false → v = (tx_1 T n p).2.2) ∧ av_mf D M M' := by
  cases w with
  | true =>
    obtain ⟨M', e, m, f⟩ := mt_wr (m := 1) h
    exact ⟨M', 0, e, m, fun h => absurd h (by decide), f⟩
  | false =>
    rw [if_neg (by decide)]
    unfold tx_1
    cases hd : tx_d (tx_h T n p) with
    | true =>
      rw [if_pos rfl]
      obtain ⟨M1, e1, m1, f1⟩ := mt_dg (m := 1) (v := 0) (d := 0) h (by omega) (by decide) hd
      obtain ⟨M2, e2, m2, f2⟩ := mt_nd (m := 1) (v := 10 * 0 + tx_h T n p - 48) (d := 0 + 1) m1 (by omega) (Or.inl (by decide))
      rw [show decide ((0 : Int32) + 1 = 0) = false by decide] at m2
      refine ⟨M2, tx_h T n p - 48, ?_, m2, fun _ => rfl, av_mf_t f1 f2⟩
      rw [tx_n3] at e1 e2
      rw [ae_X13_figure_0, e1, e2]
    | false =>
      rw [if_neg (by decide)]
      obtain ⟨M2, e2, m2, f2⟩ := mt_nd (m := 1) (v := 0) (d := 0) h (by omega) (Or.inr hd)
      rw [show decide ((0 : Int32) = 0) = true by decide] at m2
      refine ⟨M2, 0, ?_, m2, fun _ => rfl, f2⟩
      rw [ae_X13_figure_0, e2]
theorem mt_fig2 {D n p k : Nat} {T : Nat → Int32} {w : Bool} {M : am_M} (h : av_mt D M n T p w k) (hpb : p < 2147483600) : ∃ M' v, am_val iX13_figure 0 [some (.ref (am_c D 13)), some (.int 2), none, none] [] M = some (.inl (some (.int v)), M', 0, 0) ∧ av_mt D M' n T (if w = true then p else (tx_2 T n p).2.1) (w || !(tx_2 T n p).1) k ∧ (w = false → v = (tx_2 T n p).2.2) ∧ av_mf D M M' := by
  cases w with
  | true =>
    obtain ⟨M', e, m, f⟩ := mt_wr (m := 2) h
    exact ⟨M', 0, e, m, fun h => absurd h (by decide), f⟩
  | false =>
    rw [if_neg (by decide)]
    unfold tx_2
    cases hd : tx_d (tx_h T n p) with
    | true =>
      rw [if_pos rfl]
      obtain ⟨M1, e1, m1, f1⟩ := mt_dg (m := 2) (v := 0) (d := 0) h (by omega) (by decide) hd
      rw [tx_n3] at e1
      cases hd2 : tx_d (tx_h T n (p + 1)) with
      | true =>
        rw [if_pos rfl]
        obtain ⟨M2, e2, m2, f2⟩ := mt_dg (m := 2) (v := tx_h T n p - 48) (d := 0 + 1) m1 (by omega) (by decide) hd2
        obtain ⟨M3, e3, m3, f3⟩ := mt_nd (m := 2) (v := 10 * (tx_h T n p - 48) + tx_h T n (p + 1) - 48) (d := 0 + 1 + 1) m2 (by omega) (Or.inl (by decide))
        rw [show decide ((0 : Int32) + 1 + 1 = 0) = false by decide] at m3
        refine ⟨M3, 10 * (tx_h T n p - 48) + tx_h T n (p + 1) - 48, ?_, m3, fun _ => rfl, av_mf_t f1 (av_mf_t f2 f3)⟩
        rw [ae_X13_figure_0, e1, e2, e3]
      | false =>
        rw [if_neg (by decide)]
        obtain ⟨M2, e2, m2, f2⟩ := mt_nd (m := 2) (v := tx_h T n p - 48) (d := 0 + 1) m1 (by omega) (Or.inr hd2)
        rw [show decide ((0 : Int32) + 1 = 0) = false by decide] at m2
        refine ⟨M2, tx_h T n p - 48, ?_, m2, fun _ => rfl, av_mf_t f1 f2⟩
        rw [ae_X13_figure_0, e1, e2]
    | false =>
      rw [if_neg (by decide)]
      obtain ⟨M2, e2, m2, f2⟩ := mt_nd (m := 2) (v := 0) (d := 0) h (by omega) (Or.inr hd)
      rw [show decide ((0 : Int32) = 0) = true by decide] at m2
      refine ⟨M2, 0, ?_, m2, fun _ => rfl, f2⟩
      rw [ae_X13_figure_0, e2]
