/-! the second implementation: a sound led ahead -/
theorem av_fs_ys {D : Nat} {M X : am_M} (h : av_fs D M X) : av_ys D M X := av_ys_fs h
theorem av_fs_0 {D : Nat} {M : am_M} : av_fs D M M := ⟨rfl, fun _ _ _ _ _ => rfl⟩
theorem av_y0_fs {D : Nat} {M X : am_M} {σ : Nat → Int32} {L : List (Nat → Int32)} (h : av_y0 D M σ L) (f : av_fs D M X) : av_y0 D X σ L := av_y0_f h f.1 (funext fun j => f.2 _ _ _ (by decide) (by omega))
theorem mc_go {D bd : Nat} {σ s : Nat → Int32} {L : List (Nat → Int32)} {M : am_M} (y0 : av_y0 D M σ L) (hok : av_ok bd σ L) (hs : am_ms M.1 D s) (hk : av_sok s) : ∃ M', am_val iX13_goesOn 0 [some (.ref (am_c D 13)), none, none] [] M = some (.inl (some (.int (am_bi (decide (av_a1 σ s 1 = 0))))), M', 0, 0) ∧ am_ms M'.1 D (av_a1 σ s) ∧ av_fs D M M' ∧ av_y0 D M' σ L := by
  obtain ⟨M', e, m, -, f⟩ := mc_goesOn y0.1 (y0.2.1 2 (by decide) (by decide)) (fun p hp => y0.2.1 (18 + 2 * p) (by omega) (by omega)) hok hs (av_sok_g hk)
  exact ⟨M', e, m, f, av_y0_fs y0 f⟩
theorem mc_tk {D k : Nat} {σ : Nat → Int32} {L : List (Nat → Int32)} {M : am_M} (y0 : av_y0 D M σ L) (hk : k < L.length) (hl8 : L.length ≤ 8) : ∃ M', am_val iX13_takes 0 [some (.ref (am_c D 13)), some (.int (nI k))] [] M = some (.inl none, M', 0, 0) ∧ am_ms M'.1 D (av_s L k) ∧ av_fs D M M' ∧ av_y0 D M' σ L := by
  obtain ⟨g0, g1, g2, g3, g4⟩ := av_mr_s y0.2 hk
  obtain ⟨M', e, m, f⟩ := mc_takes y0.1 (show k < 8 by omega) g0 g1 g3 g4
  exact ⟨M', e, m, f, av_y0_fs y0 f⟩
theorem mc_isGoneIn {D bd k b : Nat} {σ : Nat → Int32} {L : List (Nat → Int32)} {M : am_M} (y0 : av_y0 D M σ L) (hok : av_ok bd σ L) (hk : k < L.length) (hb : b ≤ 20) : ∃ M', am_val iX13_isGoneIn 0 [some (.ref (am_c D 13)), some (.int (nI k)), some (.int (nI b)), none, none] [] M = some (.inl (some (.int (am_bi (decide (av_n σ (av_s L k) b 1 = 0))))), M', 0, 0) ∧ (¬ av_n σ (av_s L k) b 1 = 0 → am_ms M'.1 D (av_n σ (av_s L k) b)) ∧ av_fs D M M' := by
  have hl8 := hok.2.2.2.2.2.2.2
  obtain ⟨g1, g2, g3, g4⟩ := av_gn_e hok (hok.2.2.2.2.1 k hk)
  obtain ⟨M1, e1, m1, f1, y1⟩ := mc_tk y0 hk hl8
  have key : ∀ (m j : Nat) (X : am_M), j + m = b → j < av_gn σ (av_s L k) → am_ms X.1 D (av_n σ (av_s L k) j) → av_fs D M X → av_y0 D X σ L → ∃ M', am_val iX13_isGoneIn 10 [some (.ref (am_c D 13)), some (.int (nI k)), some (.int (nI b)), some (.int 0), some (.int (nI j))] [] X = some (.inl (some (.int (am_bi (decide (av_n σ (av_s L k) b 1 = 0))))), M', 0, 0) ∧ (¬ av_n σ (av_s L k) b 1 = 0 → am_ms M'.1 D (av_n σ (av_s L k) b)) ∧ av_fs D M M' := by
    intro m
    induction m with
    | zero =>
      intro j X hj hg a1 a2 a3
      obtain rfl : j = b := by omega
      refine ⟨X, ?_, fun _ => a1, a2⟩
      rw [decide_eq_false (g3 j hg).1, ae_X13_isGoneIn_10, if_pos (av_he (by omega))]
      simp only [ae_X13_isGoneIn_0, ae_X13_isGoneIn_5, ae_X13_isGoneIn_16, ae_X13_isGoneIn_20, ae_X13_isGoneIn_24, ae_X13_isGoneIn_31, eq_self, true_or]
      rfl
    | succ m ih =>
      intro j X hj hg a1 a2 a3
      obtain ⟨X', e, r, f, y⟩ := mc_go a3 hok a1 (g3 j hg).2
      rw [← av_n_s] at e r
      by_cases hz : av_n σ (av_s L k) (j + 1) 1 = 0
      · have hgj : av_gn σ (av_s L k) ≤ j + 1 := Nat.not_lt.mp (fun h => (g3 _ h).1 hz)
        have hzb : av_n σ (av_s L k) b 1 = 0 := g4 b (by omega)
        rw [decide_eq_true hz, am_bi_t] at e
        refine ⟨X', ?_, fun h => absurd hzb h, av_fs_t a2 f⟩
        rw [decide_eq_true hzb, ae_X13_isGoneIn_10, if_neg (av_hl (show j < b by omega) (by omega))]
        simp only [ae_X13_isGoneIn_0, ae_X13_isGoneIn_5, ae_X13_isGoneIn_16, ae_X13_isGoneIn_20, ae_X13_isGoneIn_24, ae_X13_isGoneIn_31, am_bnx_v, am_bnx_e, am_tl_s, am_tl_n, am_rv_s, am_add_rx, e, not_true_eq_false, not_false_eq_true, if_true, if_false, am_1n0, or_true, true_or, eq_self, Bool.true_eq_false, Bool.false_eq_true, cond_true, cond_false, nI_1]
        rw [ae_X13_isGoneIn_10]
        by_cases hbj : nI b ≤ nI (j + 1)
        · rw [if_pos hbj]
          simp only [ae_X13_isGoneIn_0, ae_X13_isGoneIn_5, ae_X13_isGoneIn_16, ae_X13_isGoneIn_20, ae_X13_isGoneIn_24, ae_X13_isGoneIn_31, eq_self, or_true]
          rfl
        · rw [if_neg hbj]
          simp only [ae_X13_isGoneIn_0, ae_X13_isGoneIn_5, ae_X13_isGoneIn_16, ae_X13_isGoneIn_20, ae_X13_isGoneIn_24, ae_X13_isGoneIn_31, not_true_eq_false, not_false_eq_true, if_true, if_false, am_1n0, or_true, true_or, eq_self, Bool.true_eq_false, Bool.false_eq_true, cond_true, cond_false]
          rfl
      · rw [decide_eq_false hz, am_bi_f] at e
        have hgj : j + 1 < av_gn σ (av_s L k) := Nat.lt_of_not_le (fun h => hz (g4 _ h))
        obtain ⟨M', h1, h2, h3⟩ := ih (j + 1) X' (by omega) hgj r (av_fs_t a2 f) y
        refine ⟨M', ?_, h2, h3⟩
        rw [ae_X13_isGoneIn_10, if_neg (av_hl (show j < b by omega) (by omega))]
        simp only [ae_X13_isGoneIn_0, ae_X13_isGoneIn_5, ae_X13_isGoneIn_16, ae_X13_isGoneIn_20, ae_X13_isGoneIn_24, ae_X13_isGoneIn_31, am_bnx_v, am_bnx_e, am_tl_s, am_tl_n, am_rv_s, am_add_rx, e, not_true_eq_false, not_false_eq_true, if_true, if_false, am_1n0, or_true, true_or, eq_self, Bool.true_eq_false, Bool.false_eq_true, cond_true, cond_false, nI_1, h1]
  obtain ⟨M', h1, h2, h3⟩ := key b 0 M1 (by omega) g1 m1 f1 y1
  rw [nI_0] at h1
  refine ⟨M', ?_, h2, h3⟩
  simp only [ae_X13_isGoneIn_0, ae_X13_isGoneIn_5, ae_X13_isGoneIn_16, ae_X13_isGoneIn_20, ae_X13_isGoneIn_24, ae_X13_isGoneIn_31, am_bnx_v, am_bnx_e, am_tl_s, am_tl_n, am_rv_s, am_add_rx, e1, h1]
theorem mq_where {σ : Nat → Int32} {L : List (Nat → Int32)} {H : List av_K} {P : Option av_K} {q : Int32 × Int32 × Int32} {n : Nat} {T : Nat → Int32} {f : Int32} {l : List Int32} {D bd : Nat} {a b : Int32} {M : am_M} (hy : av_y D M σ L H P q n T f l) (hok : av_ok bd σ L) : ∃ M2, av_qm D (am_val iX13_where 0 [some (.ref (am_c D 13)), some (.int a), some (.int b)] [] M) (aq_where σ L a b) M2 ∧ av_ys D M M2 := by
  unfold aq_where
  have hl8 := hok.2.2.2.2.2.2.2
  have z0 := mc_isSound (x := a) hy.1.1 hy.1.2.2.1 (by omega)
  cases hp : am_lt a L.length with
  | false =>
    rw [if_pos rfl]
    rw [hp] at z0
    refine ⟨av_i M (am_c D 13) 0 1, ⟨0, ?_, av_jS⟩, (av_yq hy).2.1⟩
    simp only [ae_X13_where_0, ae_X13_where_6, ae_X13_where_9, ae_X13_where_13, ae_X13_where_20, ae_X13_where_23, ae_X13_where_27, ae_X13_where_33, ae_X13_where_36, ae_X13_where_40, ae_X13_where_51, ae_X13_where_55, am_bnx_v, am_bnx_e, am_tl_s, am_tl_n, am_rv_s, am_add_rx, z0, am_bi_f, not_true_eq_false, not_false_eq_true, if_true, if_false, am_1n0, or_true, true_or, eq_self, Bool.true_eq_false, Bool.false_eq_true, cond_true, cond_false, av_jS, am_l1]
  | true =>
    rw [if_neg (by decide)]
    rw [hp] at z0
    obtain ⟨k, hk, rfl⟩ := am_lt_n (by omega) hp
    cases hb : am_wt b 0 20 with
    | false =>
      rw [if_pos rfl]
      refine ⟨av_i M (am_c D 13) 0 2, ⟨0, ?_, av_jS⟩, (av_yq hy).2.1⟩
      simp only [ae_X13_where_0, ae_X13_where_6, ae_X13_where_9, ae_X13_where_13, ae_X13_where_20, ae_X13_where_23, ae_X13_where_27, ae_X13_where_33, ae_X13_where_36, ae_X13_where_40, ae_X13_where_51, ae_X13_where_55, am_bnx_v, am_bnx_e, am_tl_s, am_tl_n, am_rv_s, am_add_rx, z0, mc_in, hb, am_bi_t, am_bi_f, not_true_eq_false, not_false_eq_true, if_true, if_false, am_1n0, or_true, true_or, eq_self, Bool.true_eq_false, Bool.false_eq_true, cond_true, cond_false, av_jS, am_l2]
    | true =>
      rw [if_neg (by decide)]
      have zb : am_val iX13_in 0 [some (.int b), some (.int 0), some (.int 20)] [] M = some (.inl (some (.int 1)), M, 0, 0) := by rw [mc_in, hb]; rfl
      obtain ⟨m, -, hm, rfl⟩ := av_wt_n (a := 0) (b := 20) (by decide) (by decide) hb
      rw [av_ix_n (by omega), av_ix_n (by omega)]
      obtain ⟨M1, e1, r1, f1⟩ := mc_isGoneIn hy.1 hok hk hm
      by_cases hz : av_n σ (av_s L k) m 1 = 0
      · rw [if_pos hz]
        rw [decide_eq_true hz] at e1
        refine ⟨av_i M1 (am_c D 13) 0 3, ⟨0, ?_, av_jS⟩, av_ys_t (av_fs_ys f1) (av_ys_i (Or.inl rfl))⟩
        simp only [ae_X13_where_0, ae_X13_where_6, ae_X13_where_9, ae_X13_where_13, ae_X13_where_20, ae_X13_where_23, ae_X13_where_27, ae_X13_where_33, ae_X13_where_36, ae_X13_where_40, ae_X13_where_51, ae_X13_where_55, am_bnx_v, am_bnx_e, am_tl_s, am_tl_n, am_rv_s, am_add_rx, z0, zb, e1, am_bi_t, not_true_eq_false, not_false_eq_true, if_true, if_false, am_1n0, or_true, true_or, eq_self, Bool.true_eq_false, Bool.false_eq_true, cond_true, cond_false, av_jS, am_l3]
      · rw [if_neg hz]
        rw [decide_eq_false hz] at e1
        refine ⟨av_i M1 (am_c D 13) 0 0, ⟨?_, av_jS⟩, av_ys_t (av_fs_ys f1) (av_ys_i (Or.inl rfl))⟩
        have g : (av_i M1 (am_c D 13) 0 0).1 (am_c D 13) 18 = av_n σ (av_s L k) m 0 := by rw [av_jK (by decide)]; exact (r1 hz).1
        simp only [ae_X13_where_0, ae_X13_where_6, ae_X13_where_9, ae_X13_where_13, ae_X13_where_20, ae_X13_where_23, ae_X13_where_27, ae_X13_where_33, ae_X13_where_36, ae_X13_where_40, ae_X13_where_51, ae_X13_where_55, am_bnx_v, am_bnx_e, am_tl_s, am_tl_n, am_rv_s, am_add_rx, z0, zb, e1, am_bi_t, am_bi_f, not_true_eq_false, not_false_eq_true, if_true, if_false, am_1n0, or_true, true_or, eq_self, Bool.true_eq_false, Bool.false_eq_true, cond_true, cond_false, av_jS, am_l0, g]
theorem mq_loudIn {σ : Nat → Int32} {L : List (Nat → Int32)} {H : List av_K} {P : Option av_K} {q : Int32 × Int32 × Int32} {n : Nat} {T : Nat → Int32} {f : Int32} {l : List Int32} {D bd : Nat} {a b : Int32} {M : am_M} (hy : av_y D M σ L H P q n T f l) (hok : av_ok bd σ L) : ∃ M2, av_qm D (am_val iX13_loudIn 0 [some (.ref (am_c D 13)), some (.int a), some (.int b)] [] M) (aq_loudIn σ L a b) M2 ∧ av_ys D M M2 := by
  unfold aq_loudIn
  have hl8 := hok.2.2.2.2.2.2.2
  have z0 := mc_isSound (x := a) hy.1.1 hy.1.2.2.1 (by omega)
  cases hp : am_lt a L.length with
  | false =>
    rw [if_pos rfl]
    rw [hp] at z0
    refine ⟨av_i M (am_c D 13) 0 1, ⟨0, ?_, av_jS⟩, (av_yq hy).2.1⟩
    simp only [ae_X13_loudIn_0, ae_X13_loudIn_6, ae_X13_loudIn_9, ae_X13_loudIn_13, ae_X13_loudIn_20, ae_X13_loudIn_23, ae_X13_loudIn_27, ae_X13_loudIn_38, ae_X13_loudIn_40, ae_X13_loudIn_46, ae_X13_loudIn_49, ae_X13_loudIn_53, am_bnx_v, am_bnx_e, am_tl_s, am_tl_n, am_rv_s, am_add_rx, z0, am_bi_f, not_true_eq_false, not_false_eq_true, if_true, if_false, am_1n0, or_true, true_or, eq_self, Bool.true_eq_false, Bool.false_eq_true, cond_true, cond_false, av_jS, am_l1]
  | true =>
    rw [if_neg (by decide)]
    rw [hp] at z0
    obtain ⟨k, hk, rfl⟩ := am_lt_n (by omega) hp
    cases hb : am_wt b 0 20 with
    | false =>
      rw [if_pos rfl]
      refine ⟨av_i M (am_c D 13) 0 2, ⟨0, ?_, av_jS⟩, (av_yq hy).2.1⟩
      simp only [ae_X13_loudIn_0, ae_X13_loudIn_6, ae_X13_loudIn_9, ae_X13_loudIn_13, ae_X13_loudIn_20, ae_X13_loudIn_23, ae_X13_loudIn_27, ae_X13_loudIn_38, ae_X13_loudIn_40, ae_X13_loudIn_46, ae_X13_loudIn_49, ae_X13_loudIn_53, am_bnx_v, am_bnx_e, am_tl_s, am_tl_n, am_rv_s, am_add_rx, z0, mc_in, hb, am_bi_t, am_bi_f, not_true_eq_false, not_false_eq_true, if_true, if_false, am_1n0, or_true, true_or, eq_self, Bool.true_eq_false, Bool.false_eq_true, cond_true, cond_false, av_jS, am_l2]
    | true =>
      rw [if_neg (by decide)]
      have zb : am_val iX13_in 0 [some (.int b), some (.int 0), some (.int 20)] [] M = some (.inl (some (.int 1)), M, 0, 0) := by rw [mc_in, hb]; rfl
      obtain ⟨m, -, hm, rfl⟩ := av_wt_n (a := 0) (b := 20) (by decide) (by decide) hb
      rw [av_ix_n (by omega), av_ix_n (by omega)]
      obtain ⟨y0, hs, -⟩ := av_yq (x := 0) hy
      obtain ⟨M1, e1, r1, f1⟩ := mc_isGoneIn y0 hok hk hm
      have t1 : M1.1 (am_c D 13) 0 = 0 := (f1.2 D 13 0 (by decide) (by omega)).trans av_jS
      by_cases hz : av_n σ (av_s L k) m 1 = 0
      · rw [decide_eq_true hz] at e1
        rw [hz]
        refine ⟨M1, ⟨?_, t1⟩, av_ys_t hs (av_fs_ys f1)⟩
        simp only [ae_X13_loudIn_0, ae_X13_loudIn_6, ae_X13_loudIn_9, ae_X13_loudIn_13, ae_X13_loudIn_20, ae_X13_loudIn_23, ae_X13_loudIn_27, ae_X13_loudIn_38, ae_X13_loudIn_40, ae_X13_loudIn_46, ae_X13_loudIn_49, ae_X13_loudIn_53, am_bnx_v, am_bnx_e, am_tl_s, am_tl_n, am_rv_s, am_add_rx, z0, zb, e1, am_bi_t, not_true_eq_false, not_false_eq_true, if_true, if_false, am_1n0, or_true, true_or, eq_self, Bool.true_eq_false, Bool.false_eq_true, cond_true, cond_false, av_jS, am_l0]
      · rw [decide_eq_false hz] at e1
        refine ⟨M1, ⟨?_, t1⟩, av_ys_t hs (av_fs_ys f1)⟩
        simp only [ae_X13_loudIn_0, ae_X13_loudIn_6, ae_X13_loudIn_9, ae_X13_loudIn_13, ae_X13_loudIn_20, ae_X13_loudIn_23, ae_X13_loudIn_27, ae_X13_loudIn_38, ae_X13_loudIn_40, ae_X13_loudIn_46, ae_X13_loudIn_49, ae_X13_loudIn_53, am_bnx_v, am_bnx_e, am_tl_s, am_tl_n, am_rv_s, am_add_rx, z0, zb, e1, am_bi_t, am_bi_f, not_true_eq_false, not_false_eq_true, if_true, if_false, am_1n0, or_true, true_or, eq_self, Bool.true_eq_false, Bool.false_eq_true, cond_true, cond_false, av_jS, am_l0, (r1 hz).2.1]
theorem mq_goneIn {σ : Nat → Int32} {L : List (Nat → Int32)} {H : List av_K} {P : Option av_K} {q : Int32 × Int32 × Int32} {n : Nat} {T : Nat → Int32} {f : Int32} {l : List Int32} {D bd : Nat} {a : Int32} {M : am_M} (hy : av_y D M σ L H P q n T f l) (hok : av_ok bd σ L) : ∃ M2, av_qm D (am_val iX13_goneIn 0 [some (.ref (am_c D 13)), some (.int a), none] [] M) (aq_goneIn σ L a) M2 ∧ av_ys D M M2 := by
  unfold aq_goneIn
  have hl8 := hok.2.2.2.2.2.2.2
  have z0 := mc_isSound (x := a) hy.1.1 hy.1.2.2.1 (by omega)
  cases hp : am_lt a L.length with
  | false =>
    rw [if_pos rfl]
    rw [hp] at z0
    refine ⟨av_i M (am_c D 13) 0 1, ⟨0, ?_, av_jS⟩, (av_yq hy).2.1⟩
    simp only [ae_X13_goneIn_0, ae_X13_goneIn_6, ae_X13_goneIn_9, ae_X13_goneIn_13, ae_X13_goneIn_24, ae_X13_goneIn_26, ae_X13_goneIn_31, ae_X13_goneIn_37, ae_X13_goneIn_40, ae_X13_goneIn_46, am_bnx_v, am_bnx_e, am_tl_s, am_tl_n, am_rv_s, am_add_rx, z0, am_bi_f, not_true_eq_false, not_false_eq_true, if_true, if_false, am_1n0, or_true, true_or, eq_self, Bool.true_eq_false, Bool.false_eq_true, cond_true, cond_false, av_jS, am_l1]
  | true =>
    rw [if_neg (by decide)]
    rw [hp] at z0
    obtain ⟨k, hk, rfl⟩ := am_lt_n (by omega) hp
    rw [av_ix_n (by omega)]
    obtain ⟨g1, g2, g3, g4⟩ := av_gn_e hok (hok.2.2.2.2.1 k hk)
    obtain ⟨y0, hs, -⟩ := av_yq (x := 0) hy
    obtain ⟨M1, e1, m1, f1, y1⟩ := mc_tk y0 hk hl8
    have key : ∀ (m j : Nat) (X : am_M), j + m + 1 = av_gn σ (av_s L k) → am_ms X.1 D (av_n σ (av_s L k) j) → av_fs D (av_i M (am_c D 13) 0 0) X → av_y0 D X σ L → ∃ M', am_val iX13_goneIn 33 [some (.ref (am_c D 13)), some (.int (nI k)), some (.int (nI (j + 1)))] [] X = some (.inl (some (.int (nI (av_gn σ (av_s L k))))), M', 0, 0) ∧ av_fs D (av_i M (am_c D 13) 0 0) M' := by
      intro m
      induction m with
      | zero =>
        intro j X hj a1 a2 a3
        obtain ⟨X', e, r, f, y⟩ := mc_go a3 hok a1 (g3 j (by omega)).2
        rw [← av_n_s] at e r
        have hz := g4 (j + 1) (by omega)
        rw [decide_eq_true hz, am_bi_t] at e
        refine ⟨X', ?_, av_fs_t a2 f⟩
        rw [ae_X13_goneIn_33, e, ← hj]
        simp only [ae_X13_goneIn_0, ae_X13_goneIn_6, ae_X13_goneIn_9, ae_X13_goneIn_13, ae_X13_goneIn_24, ae_X13_goneIn_26, ae_X13_goneIn_31, ae_X13_goneIn_37, ae_X13_goneIn_40, ae_X13_goneIn_46, am_bnx_v, am_bnx_e, am_tl_s, am_tl_n, am_rv_s, am_add_rx, not_true_eq_false, not_false_eq_true, if_true, if_false, am_1n0, or_true, true_or, eq_self, Bool.true_eq_false, Bool.false_eq_true, cond_true, cond_false]
      | succ m ih =>
        intro j X hj a1 a2 a3
        obtain ⟨X', e, r, f, y⟩ := mc_go a3 hok a1 (g3 j (by omega)).2
        rw [← av_n_s] at e r
        have hz := (g3 (j + 1) (by omega)).1
        rw [decide_eq_false hz, am_bi_f] at e
        obtain ⟨M', h1, h2⟩ := ih (j + 1) X' (by omega) r (av_fs_t a2 f) y
        refine ⟨M', ?_, h2⟩
        rw [ae_X13_goneIn_33, e]
        simp only [ae_X13_goneIn_0, ae_X13_goneIn_6, ae_X13_goneIn_9, ae_X13_goneIn_13, ae_X13_goneIn_24, ae_X13_goneIn_26, ae_X13_goneIn_31, ae_X13_goneIn_37, ae_X13_goneIn_40, ae_X13_goneIn_46, am_bnx_v, am_bnx_e, am_tl_s, am_tl_n, am_rv_s, am_add_rx, not_true_eq_false, not_false_eq_true, if_true, if_false, am_1n0, or_true, true_or, eq_self, Bool.true_eq_false, Bool.false_eq_true, cond_true, cond_false, nI_1, h1]
    obtain ⟨M2, h1, h2⟩ := key (av_gn σ (av_s L k) - 1) 0 M1 (by omega) m1 f1 y1
    have t1 : M2.1 (am_c D 13) 0 = 0 := (h2.2 D 13 0 (by decide) (by omega)).trans av_jS
    have h1 : am_val iX13_goneIn 33 [some (.ref (am_c D 13)), some (.int (nI k)), some (.int 1)] [] M1 = some (.inl (some (.int (nI (av_gn σ (av_s L k))))), M2, 0, 0) := h1
    refine ⟨M2, ⟨?_, t1⟩, av_ys_t hs (av_fs_ys h2)⟩
    simp only [ae_X13_goneIn_0, ae_X13_goneIn_6, ae_X13_goneIn_9, ae_X13_goneIn_13, ae_X13_goneIn_24, ae_X13_goneIn_26, ae_X13_goneIn_31, ae_X13_goneIn_37, ae_X13_goneIn_40, ae_X13_goneIn_46, am_bnx_v, am_bnx_e, am_tl_s, am_tl_n, am_rv_s, am_add_rx, z0, am_bi_t, not_true_eq_false, not_false_eq_true, if_true, if_false, am_1n0, or_true, true_or, eq_self, Bool.true_eq_false, Bool.false_eq_true, cond_true, cond_false, av_jS, am_l0, e1, h1]
theorem mq_goneInAgain {σ : Nat → Int32} {L : List (Nat → Int32)} {H : List av_K} {P : Option av_K} {q : Int32 × Int32 × Int32} {n : Nat} {T : Nat → Int32} {f : Int32} {l : List Int32} {D bd : Nat} {a : Int32} {M : am_M} (hy : av_y D M σ L H P q n T f l) (hok : av_ok bd σ L) : ∃ M2, av_qm D (am_val iX13_goneInAgain 0 [some (.ref (am_c D 13)), some (.int a)] [] M) (aq_goneIn σ L a) M2 ∧ av_ys D M M2 := by
  obtain ⟨M2, h, s⟩ := mq_goneIn (a := a) hy hok
  refine ⟨M2, ?_, s⟩
  revert h
  cases aq_goneIn σ L a with
  | inl v =>
    intro h
    obtain ⟨h1, h2⟩ := h
    exact ⟨by simp only [ae_X13_goneInAgain_0, ae_X13_goneInAgain_5, am_bnx_v, am_bnx_e, am_tl_s, am_tl_n, am_rv_s, am_add_rx, h1], h2⟩
  | inr ek =>
    obtain ⟨e, k⟩ := ek
    intro h
    obtain ⟨w, h1, h2⟩ := h
    exact ⟨w, by simp only [ae_X13_goneInAgain_0, ae_X13_goneInAgain_5, am_bnx_v, am_bnx_e, am_tl_s, am_tl_n, am_rv_s, am_add_rx, h1], h2⟩
/-! echoIn, comes -/
theorem mc_echoIn {D bd k : Nat} {p : Int32} {σ : Nat → Int32} {L : List (Nat → Int32)} {M : am_M} (y0 : av_y0 D M σ L) (hok : av_ok bd σ L) (hk : k < L.length) : ∃ M', am_val iX13_echoIn 0 [some (.ref (am_c D 13)), some (.int (nI k)), some (.int p), none] [] M = some (.inl (some (.int (av_bi (av_et σ (av_s L k) p)))), M', 0, 0) ∧ av_fs D M M' ∧ av_y0 D M' σ L := by
  have hl8 := hok.2.2.2.2.2.2.2
  obtain ⟨g1, g2, g3, g4⟩ := av_gn_e hok (hok.2.2.2.2.1 k hk)
  obtain ⟨M1, e1, m1, f1, y1⟩ := mc_tk y0 hk hl8
  have hec : ∀ j, j < av_gn σ (av_s L k) → av_ef σ (av_s L k) p j = (decide (0 < av_n σ (av_s L k) j 3) && decide (av_n σ (av_s L k) j 0 = p)) := by
    intro j hj
    unfold av_ef av_ec
    rw [decide_eq_false (g3 j hj).1]
    rfl
  have key : ∀ (m j : Nat) (X : am_M), j + m + 1 = av_gn σ (av_s L k) → (∀ i, i ≤ j → av_ef σ (av_s L k) p i = false) → am_ms X.1 D (av_n σ (av_s L k) j) → av_fs D M X → av_y0 D X σ L → ∃ M', am_val iX13_echoIn 24 [some (.ref (am_c D 13)), some (.int (nI k)), some (.int p), some (.int (nI (j + 1)))] [] X = some (.inl (some (.int (av_bi (av_et σ (av_s L k) p)))), M', 0, 0) ∧ av_fs D M M' ∧ av_y0 D M' σ L := by
    intro m
    induction m with
    | zero =>
      intro j X hj hf a1 a2 a3
      obtain ⟨X', e, r, f, y⟩ := mc_go a3 hok a1 (g3 j (by omega)).2
      rw [← av_n_s] at e r
      have hz := g4 (j + 1) (by omega)
      rw [decide_eq_true hz, am_bi_t] at e
      have he : av_et σ (av_s L k) p = none := av_fst_n (fun i hi => by
        by_cases hij : i ≤ j
        · exact hf i hij
        · exact av_ef_z (g4 i (by omega)))
      refine ⟨X', ?_, av_fs_t a2 f, y⟩
      rw [he, ae_X13_echoIn_24, e]
      simp only [ae_X13_echoIn_0, ae_X13_echoIn_5, ae_X13_echoIn_12, ae_X13_echoIn_20, ae_X13_echoIn_22, ae_X13_echoIn_28, ae_X13_echoIn_31, ae_X13_echoIn_38, ae_X13_echoIn_46, ae_X13_echoIn_48, ae_X13_echoIn_54, am_bnx_v, am_bnx_e, am_tl_s, am_tl_n, am_rv_s, am_add_rx, not_true_eq_false, not_false_eq_true, if_true, if_false, am_1n0, or_true, true_or, eq_self, Bool.true_eq_false, Bool.false_eq_true, cond_true, cond_false, av_bi_n]
    | succ m ih =>
      intro j X hj hf a1 a2 a3
      obtain ⟨X', e, r, f, y⟩ := mc_go a3 hok a1 (g3 j (by omega)).2
      rw [← av_n_s] at e r
      have hz := (g3 (j + 1) (by omega)).1
      rw [decide_eq_false hz, am_bi_f] at e
      have hj1 := hec (j + 1) (by omega)
      cases hx : av_ef σ (av_s L k) p (j + 1) with
      | true =>
        have he : av_et σ (av_s L k) p = some (j + 1) := av_fst_s (fun i hi => hf i (by omega)) hx (by omega)
        rw [hx] at hj1
        have hj2 := hj1.symm
        simp only [Bool.and_eq_true, decide_eq_true_eq] at hj2
        have hn : ¬ av_n σ (av_s L k) (j + 1) 3 ≤ 0 := by rw [am_nle]; exact hj2.1
        refine ⟨X', ?_, av_fs_t a2 f, y⟩
        rw [he, ae_X13_echoIn_24, e]
        simp only [ae_X13_echoIn_0, ae_X13_echoIn_5, ae_X13_echoIn_12, ae_X13_echoIn_20, ae_X13_echoIn_22, ae_X13_echoIn_28, ae_X13_echoIn_31, ae_X13_echoIn_38, ae_X13_echoIn_46, ae_X13_echoIn_48, ae_X13_echoIn_54, am_bnx_v, am_bnx_e, am_tl_s, am_tl_n, am_rv_s, am_add_rx, not_true_eq_false, not_false_eq_true, if_true, if_false, am_1n0, or_true, true_or, eq_self, Bool.true_eq_false, Bool.false_eq_true, cond_true, cond_false, r.2.2.2, r.1, hn, hj2.2, av_bi_s]
      | false =>
        obtain ⟨M', h1, h2, h3⟩ := ih (j + 1) X' (by omega) (fun i hi => by
          by_cases hij : i = j + 1
          · rw [hij]; exact hx
          · exact hf i (by omega)) r (av_fs_t a2 f) y
        rw [hx] at hj1
        refine ⟨M', ?_, h2, h3⟩
        rw [ae_X13_echoIn_24, e]
        by_cases hn : av_n σ (av_s L k) (j + 1) 3 ≤ 0
        · simp only [ae_X13_echoIn_0, ae_X13_echoIn_5, ae_X13_echoIn_12, ae_X13_echoIn_20, ae_X13_echoIn_22, ae_X13_echoIn_28, ae_X13_echoIn_31, ae_X13_echoIn_38, ae_X13_echoIn_46, ae_X13_echoIn_48, ae_X13_echoIn_54, am_bnx_v, am_bnx_e, am_tl_s, am_tl_n, am_rv_s, am_add_rx, not_true_eq_false, not_false_eq_true, if_true, if_false, am_1n0, or_true, true_or, eq_self, Bool.true_eq_false, Bool.false_eq_true, cond_true, cond_false, r.2.2.2, hn, nI_1, h1]
        · have hq : ¬ av_n σ (av_s L k) (j + 1) 0 = p := fun hq => by
            rw [decide_eq_true (show 0 < av_n σ (av_s L k) (j + 1) 3 by rw [am_nle] at hn; exact hn), decide_eq_true hq] at hj1
            cases hj1
          simp only [ae_X13_echoIn_0, ae_X13_echoIn_5, ae_X13_echoIn_12, ae_X13_echoIn_20, ae_X13_echoIn_22, ae_X13_echoIn_28, ae_X13_echoIn_31, ae_X13_echoIn_38, ae_X13_echoIn_46, ae_X13_echoIn_48, ae_X13_echoIn_54, am_bnx_v, am_bnx_e, am_tl_s, am_tl_n, am_rv_s, am_add_rx, not_true_eq_false, not_false_eq_true, if_true, if_false, am_1n0, or_true, true_or, eq_self, Bool.true_eq_false, Bool.false_eq_true, cond_true, cond_false, r.2.2.2, r.1, hn, hq, nI_1, h1]
  have h0 : av_ef σ (av_s L k) p 0 = (decide (0 < av_s L k 3) && decide (av_s L k 0 = p)) := hec 0 g1
  cases hx : av_ef σ (av_s L k) p 0 with
  | true =>
    have he : av_et σ (av_s L k) p = some 0 := av_fst_s (fun i hi => absurd hi (Nat.not_lt_zero _)) hx (by decide)
    rw [hx] at h0
    have hj2 := h0.symm
    simp only [Bool.and_eq_true, decide_eq_true_eq] at hj2
    have hn : ¬ av_s L k 3 ≤ 0 := by rw [am_nle]; exact hj2.1
    refine ⟨M1, ?_, f1, y1⟩
    rw [he]
    simp only [ae_X13_echoIn_0, ae_X13_echoIn_5, ae_X13_echoIn_12, ae_X13_echoIn_20, ae_X13_echoIn_22, ae_X13_echoIn_28, ae_X13_echoIn_31, ae_X13_echoIn_38, ae_X13_echoIn_46, ae_X13_echoIn_48, ae_X13_echoIn_54, am_bnx_v, am_bnx_e, am_tl_s, am_tl_n, am_rv_s, am_add_rx, e1, not_true_eq_false, not_false_eq_true, if_true, if_false, am_1n0, or_true, true_or, eq_self, Bool.true_eq_false, Bool.false_eq_true, cond_true, cond_false, m1.2.2.2, m1.1, hn, hj2.2, av_bi_s, nI_0]
  | false =>
    obtain ⟨M', h1, h2, h3⟩ := key (av_gn σ (av_s L k) - 1) 0 M1 (by omega) (fun i hi => by
      obtain rfl : i = 0 := by omega
      exact hx) m1 f1 y1
    have h1 : am_val iX13_echoIn 24 [some (.ref (am_c D 13)), some (.int (nI k)), some (.int p), some (.int 1)] [] M1 = some (.inl (some (.int (av_bi (av_et σ (av_s L k) p)))), M', 0, 0) := h1
    rw [hx] at h0
    refine ⟨M', ?_, h2, h3⟩
    by_cases hn : av_s L k 3 ≤ 0
    · simp only [ae_X13_echoIn_0, ae_X13_echoIn_5, ae_X13_echoIn_12, ae_X13_echoIn_20, ae_X13_echoIn_22, ae_X13_echoIn_28, ae_X13_echoIn_31, ae_X13_echoIn_38, ae_X13_echoIn_46, ae_X13_echoIn_48, ae_X13_echoIn_54, am_bnx_v, am_bnx_e, am_tl_s, am_tl_n, am_rv_s, am_add_rx, e1, not_true_eq_false, not_false_eq_true, if_true, if_false, am_1n0, or_true, true_or, eq_self, Bool.true_eq_false, Bool.false_eq_true, cond_true, cond_false, m1.2.2.2, hn, h1]
    · have hq : ¬ av_s L k 0 = p := fun hq => by
        rw [decide_eq_true (show 0 < av_s L k 3 by rw [am_nle] at hn; exact hn), decide_eq_true hq] at h0
        cases h0
      simp only [ae_X13_echoIn_0, ae_X13_echoIn_5, ae_X13_echoIn_12, ae_X13_echoIn_20, ae_X13_echoIn_22, ae_X13_echoIn_28, ae_X13_echoIn_31, ae_X13_echoIn_38, ae_X13_echoIn_46, ae_X13_echoIn_48, ae_X13_echoIn_54, am_bnx_v, am_bnx_e, am_tl_s, am_tl_n, am_rv_s, am_add_rx, e1, not_true_eq_false, not_false_eq_true, if_true, if_false, am_1n0, or_true, true_or, eq_self, Bool.true_eq_false, Bool.false_eq_true, cond_true, cond_false, m1.2.2.2, m1.1, hn, hq, h1]
/-- the least of them, or -1 -/
def av_cg (σ : Nat → Int32) (L : List (Nat → Int32)) (p : Int32) (k : Nat) (x : Int32) : Int32 := if av_bi (av_et σ (av_s L k) p) = -1 then x else if x = -1 then av_bi (av_et σ (av_s L k) p) else if x ≤ av_bi (av_et σ (av_s L k) p) then x else av_bi (av_et σ (av_s L k) p)
def av_cm (σ : Nat → Int32) (L : List (Nat → Int32)) (p : Int32) : Int32 := am_it (av_cg σ L p) L.length (-1)
def aq_comes (σ : Nat → Int32) (L : List (Nat → Int32)) (a : Int32) : av_A := if am_lt a (av_np σ) = false then .inr (1, 1) else if av_cm σ L (σ (51 + 5 * av_ix a)) = -1 then .inr (3, 2) else .inl (av_cm σ L (σ (51 + 5 * av_ix a)))
theorem mq_comes {σ : Nat → Int32} {L : List (Nat → Int32)} {H : List av_K} {P : Option av_K} {q : Int32 × Int32 × Int32} {n : Nat} {T : Nat → Int32} {f : Int32} {l : List Int32} {D bd : Nat} {a : Int32} {M : am_M} (hy : av_y D M σ L H P q n T f l) (hok : av_ok bd σ L) : ∃ M2, av_qm D (am_val iX13_comes 0 [some (.ref (am_c D 13)), some (.int a), none, none, none] [] M) (aq_comes σ L a) M2 ∧ av_ys D M M2 := by
  unfold aq_comes
  have hn6 := hok.2.2.2.2.2.1
  have hl8 := hok.2.2.2.2.2.2.2
  have z0 := mc_isPlayer (x := a) (n := av_np σ) hy.1.1 ((hy.1.2.1 0 (by decide) (by decide)).trans hok.2.2.2.2.2.2.1) (by omega)
  cases hp : am_lt a (av_np σ) with
  | false =>
    rw [if_pos rfl]
    rw [hp] at z0
    refine ⟨av_i M (am_c D 13) 0 1, ⟨0, ?_, av_jS⟩, (av_yq hy).2.1⟩
    simp only [ae_X13_comes_0, ae_X13_comes_6, ae_X13_comes_9, ae_X13_comes_13, ae_X13_comes_24, ae_X13_comes_26, ae_X13_comes_35, ae_X13_comes_40, ae_X13_comes_48, ae_X13_comes_51, ae_X13_comes_59, ae_X13_comes_64, ae_X13_comes_70, ae_X13_comes_73, ae_X13_comes_79, ae_X13_comes_84, ae_X13_comes_89, ae_X13_comes_92, am_bnx_v, am_bnx_e, am_tl_s, am_tl_n, am_rv_s, am_add_rx, z0, am_bi_f, not_true_eq_false, not_false_eq_true, if_true, if_false, am_1n0, or_true, true_or, eq_self, Bool.true_eq_false, Bool.false_eq_true, cond_true, cond_false, av_jS, am_l1]
  | true =>
    rw [if_neg (by decide)]
    rw [hp] at z0
    obtain ⟨k, hk, rfl⟩ := am_lt_n (by omega) hp
    rw [av_ix_n (by omega)]
    obtain ⟨y0, hs, -⟩ := av_yq (x := 0) hy
    have key := av_lpr (H := fun j (X : am_M × Int32) o => am_val iX13_comes 30 [some (.ref (am_c D 13)), some (.int (nI k)), some (.int (X.2)), some (.int (nI j)), o] [] (X.1))
      (P := fun j X => X.2 = am_it (av_cg σ L (σ (51 + 5 * k))) j (-1) ∧ av_fs D (av_i M (am_c D 13) 0 0) X.1 ∧ av_y0 D X.1 σ L) (N := L.length)
      (Q := fun t => ∃ X o, t = am_val iX13_comes 79 [some (.ref (am_c D 13)), some (.int (nI k)), some (.int (av_cm σ L (σ (51 + 5 * k)))), some (.int (nI L.length)), o] [] X ∧ av_fs D (av_i M (am_c D 13) 0 0) X)
      (fun X o hP => by
        obtain ⟨a1, a2, a3⟩ := hP
        obtain ⟨X, x⟩ := X
        have a2 : av_fs D (av_i M (am_c D 13) 0 0) X := a2
        have a3 : av_y0 D X σ L := a3
        refine ⟨X, o, ?_, a2⟩
        have a1 : x = av_cm σ L (σ (51 + 5 * k)) := a1
        rw [← a1]
        show am_val iX13_comes 30 [some (.ref (am_c D 13)), some (.int (nI k)), some (.int x), some (.int (nI L.length)), o] [] X = _
        rw [ae_X13_comes_30, a3.1.1, am_rv_s]
        simp only [ae_X13_comes_0, ae_X13_comes_6, ae_X13_comes_9, ae_X13_comes_13, ae_X13_comes_24, ae_X13_comes_26, ae_X13_comes_35, ae_X13_comes_40, ae_X13_comes_48, ae_X13_comes_51, ae_X13_comes_59, ae_X13_comes_64, ae_X13_comes_70, ae_X13_comes_73, ae_X13_comes_79, ae_X13_comes_84, ae_X13_comes_89, ae_X13_comes_92, a3.2.2.1, av_he (show L.length < 2147483648 by omega), if_true])
      (fun j X o hj hP => by
        obtain ⟨a1, a2, a3⟩ := hP
        obtain ⟨X, x⟩ := X
        have a2 : av_fs D (av_i M (am_c D 13) 0 0) X := a2
        have a3 : av_y0 D X σ L := a3
        have ep := mc_p1 (k := k) a3.1 (by omega)
        rw [a3.2.1 (51 + 5 * k) (by omega) (by omega)] at ep
        obtain ⟨X', e, f, y⟩ := mc_echoIn (p := σ (51 + 5 * k)) a3 hok hj
        refine ⟨(X', av_cg σ L (σ (51 + 5 * k)) j x), some (.int (av_bi (av_et σ (av_s L j) (σ (51 + 5 * k))))), ⟨?_, av_fs_t a2 f, y⟩, ?_⟩
        · show av_cg σ L (σ (51 + 5 * k)) j x = av_cg σ L (σ (51 + 5 * k)) j (am_it (av_cg σ L (σ (51 + 5 * k))) j (-1))
          rw [← show x = am_it (av_cg σ L (σ (51 + 5 * k))) j (-1) from a1]
        · show am_val iX13_comes 30 [some (.ref (am_c D 13)), some (.int (nI k)), some (.int x), some (.int (nI j)), o] [] X = _
          rw [ae_X13_comes_30, a3.1.1, am_rv_s]
          unfold av_cg
          by_cases c1 : av_bi (av_et σ (av_s L j) (σ (51 + 5 * k))) = -1
          · simp only [ae_X13_comes_0, ae_X13_comes_6, ae_X13_comes_9, ae_X13_comes_13, ae_X13_comes_24, ae_X13_comes_26, ae_X13_comes_35, ae_X13_comes_40, ae_X13_comes_48, ae_X13_comes_51, ae_X13_comes_59, ae_X13_comes_64, ae_X13_comes_70, ae_X13_comes_73, ae_X13_comes_79, ae_X13_comes_84, ae_X13_comes_89, ae_X13_comes_92, am_bnx_v, am_bnx_e, am_tl_s, am_tl_n, am_rv_s, am_add_rx, a3.2.2.1, av_hl hj (show L.length < 2147483648 by omega), ep, e, c1, not_true_eq_false, not_false_eq_true, if_true, if_false, am_1n0, or_true, true_or, eq_self, Bool.true_eq_false, Bool.false_eq_true, cond_true, cond_false, nI_1]
          · by_cases c2 : x = -1
            · simp only [ae_X13_comes_0, ae_X13_comes_6, ae_X13_comes_9, ae_X13_comes_13, ae_X13_comes_24, ae_X13_comes_26, ae_X13_comes_35, ae_X13_comes_40, ae_X13_comes_48, ae_X13_comes_51, ae_X13_comes_59, ae_X13_comes_64, ae_X13_comes_70, ae_X13_comes_73, ae_X13_comes_79, ae_X13_comes_84, ae_X13_comes_89, ae_X13_comes_92, am_bnx_v, am_bnx_e, am_tl_s, am_tl_n, am_rv_s, am_add_rx, a3.2.2.1, av_hl hj (show L.length < 2147483648 by omega), ep, e, c1, c2, not_true_eq_false, not_false_eq_true, if_true, if_false, am_1n0, or_true, true_or, eq_self, Bool.true_eq_false, Bool.false_eq_true, cond_true, cond_false, nI_1]
            · by_cases c3 : x ≤ av_bi (av_et σ (av_s L j) (σ (51 + 5 * k)))
              · simp only [ae_X13_comes_0, ae_X13_comes_6, ae_X13_comes_9, ae_X13_comes_13, ae_X13_comes_24, ae_X13_comes_26, ae_X13_comes_35, ae_X13_comes_40, ae_X13_comes_48, ae_X13_comes_51, ae_X13_comes_59, ae_X13_comes_64, ae_X13_comes_70, ae_X13_comes_73, ae_X13_comes_79, ae_X13_comes_84, ae_X13_comes_89, ae_X13_comes_92, am_bnx_v, am_bnx_e, am_tl_s, am_tl_n, am_rv_s, am_add_rx, a3.2.2.1, av_hl hj (show L.length < 2147483648 by omega), ep, e, c1, c2, c3, not_true_eq_false, not_false_eq_true, if_true, if_false, am_1n0, or_true, true_or, eq_self, Bool.true_eq_false, Bool.false_eq_true, cond_true, cond_false, nI_1]
              · simp only [ae_X13_comes_0, ae_X13_comes_6, ae_X13_comes_9, ae_X13_comes_13, ae_X13_comes_24, ae_X13_comes_26, ae_X13_comes_35, ae_X13_comes_40, ae_X13_comes_48, ae_X13_comes_51, ae_X13_comes_59, ae_X13_comes_64, ae_X13_comes_70, ae_X13_comes_73, ae_X13_comes_79, ae_X13_comes_84, ae_X13_comes_89, ae_X13_comes_92, am_bnx_v, am_bnx_e, am_tl_s, am_tl_n, am_rv_s, am_add_rx, a3.2.2.1, av_hl hj (show L.length < 2147483648 by omega), ep, e, c1, c2, c3, not_true_eq_false, not_false_eq_true, if_true, if_false, am_1n0, or_true, true_or, eq_self, Bool.true_eq_false, Bool.false_eq_true, cond_true, cond_false, nI_1])
      L.length 0 (av_i M (am_c D 13) 0 0, -1) none (by omega) ⟨rfl, av_fs_0, y0⟩
    obtain ⟨X, o, k1, k2⟩ := key
    have k1 : am_val iX13_comes 30 [some (.ref (am_c D 13)), some (.int (nI k)), some (.int (-1)), some (.int (nI 0)), none] [] (av_i M (am_c D 13) 0 0) = am_val iX13_comes 79 [some (.ref (am_c D 13)), some (.int (nI k)), some (.int (av_cm σ L (σ (51 + 5 * k)))), some (.int (nI L.length)), o] [] X := k1
    rw [nI_0] at k1
    have t1 : X.1 (am_c D 13) 0 = 0 := (k2.2 D 13 0 (by decide) (by omega)).trans av_jS
    by_cases c : av_cm σ L (σ (51 + 5 * k)) = -1
    · rw [if_pos c]
      rw [c] at k1
      refine ⟨av_i X (am_c D 13) 0 2, ⟨0, ?_, av_jS⟩, av_ys_t hs (av_ys_t (av_fs_ys k2) (av_ys_i (Or.inl rfl)))⟩
      simp only [ae_X13_comes_0, ae_X13_comes_6, ae_X13_comes_9, ae_X13_comes_13, ae_X13_comes_24, ae_X13_comes_26, ae_X13_comes_35, ae_X13_comes_40, ae_X13_comes_48, ae_X13_comes_51, ae_X13_comes_59, ae_X13_comes_64, ae_X13_comes_70, ae_X13_comes_73, ae_X13_comes_79, ae_X13_comes_84, ae_X13_comes_89, ae_X13_comes_92, am_bnx_v, am_bnx_e, am_tl_s, am_tl_n, am_rv_s, am_add_rx, z0, am_bi_t, not_true_eq_false, not_false_eq_true, if_true, if_false, am_1n0, or_true, true_or, eq_self, Bool.true_eq_false, Bool.false_eq_true, cond_true, cond_false, av_jS, am_l0, k1, mc_fails]
    · rw [if_neg c]
      refine ⟨X, ⟨?_, t1⟩, av_ys_t hs (av_fs_ys k2)⟩
      simp only [ae_X13_comes_0, ae_X13_comes_6, ae_X13_comes_9, ae_X13_comes_13, ae_X13_comes_24, ae_X13_comes_26, ae_X13_comes_35, ae_X13_comes_40, ae_X13_comes_48, ae_X13_comes_51, ae_X13_comes_59, ae_X13_comes_64, ae_X13_comes_70, ae_X13_comes_73, ae_X13_comes_79, ae_X13_comes_84, ae_X13_comes_89, ae_X13_comes_92, am_bnx_v, am_bnx_e, am_tl_s, am_tl_n, am_rv_s, am_add_rx, z0, am_bi_t, not_true_eq_false, not_false_eq_true, if_true, if_false, am_1n0, or_true, true_or, eq_self, Bool.true_eq_false, Bool.false_eq_true, cond_true, cond_false, av_jS, am_l0, k1, c]
theorem mq_comesAgain {σ : Nat → Int32} {L : List (Nat → Int32)} {H : List av_K} {P : Option av_K} {q : Int32 × Int32 × Int32} {n : Nat} {T : Nat → Int32} {f : Int32} {l : List Int32} {D bd : Nat} {a : Int32} {M : am_M} (hy : av_y D M σ L H P q n T f l) (hok : av_ok bd σ L) : ∃ M2, av_qm D (am_val iX13_comesAgain 0 [some (.ref (am_c D 13)), some (.int a)] [] M) (aq_comes σ L a) M2 ∧ av_ys D M M2 := by
  obtain ⟨M2, h, s⟩ := mq_comes (a := a) hy hok
  refine ⟨M2, ?_, s⟩
  revert h
  cases aq_comes σ L a with
  | inl v =>
    intro h
    obtain ⟨h1, h2⟩ := h
    exact ⟨by simp only [ae_X13_comesAgain_0, ae_X13_comesAgain_5, am_bnx_v, am_bnx_e, am_tl_s, am_tl_n, am_rv_s, am_add_rx, h1], h2⟩
  | inr ek =>
    obtain ⟨e, k⟩ := ek
    intro h
    obtain ⟨w, h1, h2⟩ := h
    exact ⟨w, by simp only [ae_X13_comesAgain_0, ae_X13_comesAgain_5, am_bnx_v, am_bnx_e, am_tl_s, am_tl_n, am_rv_s, am_add_rx, h1], h2⟩
