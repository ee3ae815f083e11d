/-! the second implementation: its row of numbers -/
/-- model D holds its rows: s D+1, frame D+2, saved D+3, history D+4, text D+5, told D+6, out D+7 -/
def av_msh (R : Nat → Nat → Nat) (D : Nat) : Prop := R (am_c D 13) 1 = am_c (D + 1) 18 + 1 ∧ R (am_c D 13) 2 = am_c (D + 2) 18 + 1 ∧ R (am_c D 13) 3 = am_c (D + 3) 18 + 1 ∧ R (am_c D 13) 4 = am_c (D + 4) 19 + 1 ∧ R (am_c D 13) 7 = am_c (D + 5) 20 + 1 ∧ R (am_c D 13) 8 = am_c (D + 6) 21 + 1 ∧ R (am_c D 13) 9 = am_c (D + 7) 20 + 1
theorem av_x18 {k : Nat} : (18 : Int32) + 2 * nI k = nI (18 + 2 * k) := by
  rw [show (2 : Int32) = nI 2 from rfl, pk_mul, show (18 : Int32) = nI 18 from rfl, nI_add]
theorem av_x9 {k : Nat} : (9 : Int32) + 3 * nI k = nI (9 + 3 * k) := by
  rw [show (3 : Int32) = nI 3 from rfl, pk_mul, show (9 : Int32) = nI 9 from rfl, nI_add]
theorem av_x50 {k : Nat} : (50 : Int32) + 5 * nI k = nI (50 + 5 * k) := by
  rw [show (5 : Int32) = nI 5 from rfl, pk_mul, show (50 : Int32) = nI 50 from rfl, nI_add]
theorem av_x80 {k : Nat} : (80 : Int32) + 5 * nI k = nI (80 + 5 * k) := by
  rw [show (5 : Int32) = nI 5 from rfl, pk_mul, show (80 : Int32) = nI 80 from rfl, nI_add]
theorem av_xa {a k : Nat} {x : Int32} (h : x = nI k) : nI a + x = nI (k + a) := by rw [h, nI_add, Nat.add_comm]
theorem mc_in {x a b : Int32} {M : am_M} : am_val iX13_in 0 [some (.int x), some (.int a), some (.int b)] [] M = some (.inl (some (.int (am_bi (am_wt x a b)))), M, 0, 0) := by
  by_cases h1 : x < a
  · have h2 : ¬ a ≤ x := by rw [am_nle]; exact h1
    simp [ae_X13_in_0, ae_X13_in_5, ae_X13_in_10, ae_X13_in_14, am_wt, h1, h2, am_bi]
  · have h2 : a ≤ x := by rw [am_nlt] at h1; exact h1
    by_cases h3 : b < x
    · have h4 : ¬ x ≤ b := by rw [am_nle]; exact h3
      simp [ae_X13_in_0, ae_X13_in_5, ae_X13_in_10, ae_X13_in_14, am_wt, h1, h2, h3, h4, am_bi]
    · have h4 : x ≤ b := by rw [am_nlt] at h3; exact h3
      simp [ae_X13_in_0, ae_X13_in_5, ae_X13_in_10, ae_X13_in_14, am_wt, h1, h2, h3, h4, am_bi]
theorem av_le15 {x : Int32} : (x ≤ 15) = (x < 16) := by
  rw [Int32.le_iff_toInt_le, Int32.lt_iff_toInt_lt, show (15 : Int32).toInt = 15 by decide, show (16 : Int32).toInt = 16 by decide]
  apply propext
  omega
theorem av_le2 {x : Int32} : (x ≤ 2) = (x < 3) := by
  rw [Int32.le_iff_toInt_le, Int32.lt_iff_toInt_lt, show (2 : Int32).toInt = 2 by decide, show (3 : Int32).toInt = 3 by decide]
  apply propext
  omega
theorem mc_isPlace {x : Int32} {M : am_M} : am_val iX13_isPlace 0 [some (.int x)] [] M = some (.inl (some (.int (am_bi (am_pl x)))), M, 0, 0) := by
  have h : am_wt x 0 15 = am_pl x := by simp only [am_wt, am_pl, av_le15]
  simp only [ae_X13_isPlace_0, ae_X13_isPlace_7, am_bnx_v, am_bnx_e, am_tl_s, am_tl_n, am_rv_s, am_add_rx, mc_in, h, am_bi_01]
theorem mc_isTeam {x : Int32} {M : am_M} : am_val iX13_isTeam 0 [some (.int x)] [] M = some (.inl (some (.int (am_bi (am_tm x)))), M, 0, 0) := by
  have h : am_wt x 0 2 = am_tm x := by simp only [am_wt, am_tm, av_le2]
  simp only [ae_X13_isTeam_0, ae_X13_isTeam_6, am_bnx_v, am_bnx_e, am_tl_s, am_tl_n, am_rv_s, am_add_rx, mc_in, h, am_bi_01]
theorem mc_height {D k : Nat} {M : am_M} (hm : av_msh M.2.1 D) (hk : k < 16) : am_val iX13_height 0 [some (.ref (am_c D 13)), some (.int (nI k))] [] M = some (.inl (some (.int (M.1 (am_c (D + 1) 18) (18 + 2 * k)))), M, 0, 0) := by
  simp only [ae_X13_height_0, ae_X13_height_4, am_bnx_v, am_bnx_e, am_tl_s, am_tl_n, am_rv_s, am_add_rx, hm.1, av_x18, am_in_n (show 18 + 2 * k < 120 by omega) (by decide), am_tn (show 18 + 2 * k < 2147483648 by omega)]
theorem mc_owner {D k : Nat} {M : am_M} (hm : av_msh M.2.1 D) (hk : k < 16) : am_val iX13_owner 0 [some (.ref (am_c D 13)), some (.int (nI k))] [] M = some (.inl (some (.int (M.1 (am_c (D + 1) 18) (19 + 2 * k)))), M, 0, 0) := by
  have e : nI (18 + 2 * k) + 1 = nI (19 + 2 * k) := by rw [nI_1]; congr 1; omega
  simp only [ae_X13_owner_0, ae_X13_owner_4, am_bnx_v, am_bnx_e, am_tl_s, am_tl_n, am_rv_s, am_add_rx, hm.1, av_x18, e, am_in_n (show 19 + 2 * k < 120 by omega) (by decide), am_tn (show 19 + 2 * k < 2147483648 by omega)]
theorem mc_points {D k : Nat} {M : am_M} (hm : av_msh M.2.1 D) (hk : k < 3) : am_val iX13_points 0 [some (.ref (am_c D 13)), some (.int (nI k))] [] M = some (.inl (some (.int (M.1 (am_c (D + 1) 18) (9 + 3 * k)))), M, 0, 0) := by
  simp only [ae_X13_points_0, ae_X13_points_4, am_bnx_v, am_bnx_e, am_tl_s, am_tl_n, am_rv_s, am_add_rx, hm.1, av_x9, am_in_n (show 9 + 3 * k < 120 by omega) (by decide), am_tn (show 9 + 3 * k < 2147483648 by omega)]
theorem mc_p0 {D k : Nat} {M : am_M} (hm : av_msh M.2.1 D) (hk : k < 6) : am_val iX13_ofPlayer 0 [some (.ref (am_c D 13)), some (.int (nI k)), some (.int 0)] [] M = some (.inl (some (.int (M.1 (am_c (D + 1) 18) (50 + 5 * k)))), M, 0, 0) := by
  have e : nI (50 + 5 * k) + 0 = nI (50 + 5 * k) := by rw [av_xa (show (0 : Int32) = nI 0 from rfl)]; congr 1; omega
  simp only [ae_X13_ofPlayer_0, ae_X13_ofPlayer_4, am_bnx_v, am_bnx_e, am_tl_s, am_tl_n, am_rv_s, am_add_rx, hm.1, av_x50, e, am_in_n (show 50 + 5 * k < 120 by omega) (by decide), am_tn (show 50 + 5 * k < 2147483648 by omega)]
theorem mc_s0 {D k : Nat} {M : am_M} (hm : av_msh M.2.1 D) (hk : k < 8) : am_val iX13_ofSound 0 [some (.ref (am_c D 13)), some (.int (nI k)), some (.int 0)] [] M = some (.inl (some (.int (M.1 (am_c (D + 1) 18) (80 + 5 * k)))), M, 0, 0) := by
  have e : nI (80 + 5 * k) + 0 = nI (80 + 5 * k) := by rw [av_xa (show (0 : Int32) = nI 0 from rfl)]; congr 1; omega
  simp only [ae_X13_ofSound_0, ae_X13_ofSound_4, am_bnx_v, am_bnx_e, am_tl_s, am_tl_n, am_rv_s, am_add_rx, hm.1, av_x80, e, am_in_n (show 80 + 5 * k < 120 by omega) (by decide), am_tn (show 80 + 5 * k < 2147483648 by omega)]
theorem mc_p1 {D k : Nat} {M : am_M} (hm : av_msh M.2.1 D) (hk : k < 6) : am_val iX13_ofPlayer 0 [some (.ref (am_c D 13)), some (.int (nI k)), some (.int 1)] [] M = some (.inl (some (.int (M.1 (am_c (D + 1) 18) (51 + 5 * k)))), M, 0, 0) := by
  have e : nI (50 + 5 * k) + 1 = nI (51 + 5 * k) := by rw [av_xa (show (1 : Int32) = nI 1 from rfl)]; congr 1; omega
  simp only [ae_X13_ofPlayer_0, ae_X13_ofPlayer_4, am_bnx_v, am_bnx_e, am_tl_s, am_tl_n, am_rv_s, am_add_rx, hm.1, av_x50, e, am_in_n (show 51 + 5 * k < 120 by omega) (by decide), am_tn (show 51 + 5 * k < 2147483648 by omega)]
theorem mc_s1 {D k : Nat} {M : am_M} (hm : av_msh M.2.1 D) (hk : k < 8) : am_val iX13_ofSound 0 [some (.ref (am_c D 13)), some (.int (nI k)), some (.int 1)] [] M = some (.inl (some (.int (M.1 (am_c (D + 1) 18) (81 + 5 * k)))), M, 0, 0) := by
  have e : nI (80 + 5 * k) + 1 = nI (81 + 5 * k) := by rw [av_xa (show (1 : Int32) = nI 1 from rfl)]; congr 1; omega
  simp only [ae_X13_ofSound_0, ae_X13_ofSound_4, am_bnx_v, am_bnx_e, am_tl_s, am_tl_n, am_rv_s, am_add_rx, hm.1, av_x80, e, am_in_n (show 81 + 5 * k < 120 by omega) (by decide), am_tn (show 81 + 5 * k < 2147483648 by omega)]
theorem mc_p2 {D k : Nat} {M : am_M} (hm : av_msh M.2.1 D) (hk : k < 6) : am_val iX13_ofPlayer 0 [some (.ref (am_c D 13)), some (.int (nI k)), some (.int 2)] [] M = some (.inl (some (.int (M.1 (am_c (D + 1) 18) (52 + 5 * k)))), M, 0, 0) := by
  have e : nI (50 + 5 * k) + 2 = nI (52 + 5 * k) := by rw [av_xa (show (2 : Int32) = nI 2 from rfl)]; congr 1; omega
  simp only [ae_X13_ofPlayer_0, ae_X13_ofPlayer_4, am_bnx_v, am_bnx_e, am_tl_s, am_tl_n, am_rv_s, am_add_rx, hm.1, av_x50, e, am_in_n (show 52 + 5 * k < 120 by omega) (by decide), am_tn (show 52 + 5 * k < 2147483648 by omega)]
theorem mc_s2 {D k : Nat} {M : am_M} (hm : av_msh M.2.1 D) (hk : k < 8) : am_val iX13_ofSound 0 [some (.ref (am_c D 13)), some (.int (nI k)), some (.int 2)] [] M = some (.inl (some (.int (M.1 (am_c (D + 1) 18) (82 + 5 * k)))), M, 0, 0) := by
  have e : nI (80 + 5 * k) + 2 = nI (82 + 5 * k) := by rw [av_xa (show (2 : Int32) = nI 2 from rfl)]; congr 1; omega
  simp only [ae_X13_ofSound_0, ae_X13_ofSound_4, am_bnx_v, am_bnx_e, am_tl_s, am_tl_n, am_rv_s, am_add_rx, hm.1, av_x80, e, am_in_n (show 82 + 5 * k < 120 by omega) (by decide), am_tn (show 82 + 5 * k < 2147483648 by omega)]
theorem mc_p3 {D k : Nat} {M : am_M} (hm : av_msh M.2.1 D) (hk : k < 6) : am_val iX13_ofPlayer 0 [some (.ref (am_c D 13)), some (.int (nI k)), some (.int 3)] [] M = some (.inl (some (.int (M.1 (am_c (D + 1) 18) (53 + 5 * k)))), M, 0, 0) := by
  have e : nI (50 + 5 * k) + 3 = nI (53 + 5 * k) := by rw [av_xa (show (3 : Int32) = nI 3 from rfl)]; congr 1; omega
  simp only [ae_X13_ofPlayer_0, ae_X13_ofPlayer_4, am_bnx_v, am_bnx_e, am_tl_s, am_tl_n, am_rv_s, am_add_rx, hm.1, av_x50, e, am_in_n (show 53 + 5 * k < 120 by omega) (by decide), am_tn (show 53 + 5 * k < 2147483648 by omega)]
theorem mc_s3 {D k : Nat} {M : am_M} (hm : av_msh M.2.1 D) (hk : k < 8) : am_val iX13_ofSound 0 [some (.ref (am_c D 13)), some (.int (nI k)), some (.int 3)] [] M = some (.inl (some (.int (M.1 (am_c (D + 1) 18) (83 + 5 * k)))), M, 0, 0) := by
  have e : nI (80 + 5 * k) + 3 = nI (83 + 5 * k) := by rw [av_xa (show (3 : Int32) = nI 3 from rfl)]; congr 1; omega
  simp only [ae_X13_ofSound_0, ae_X13_ofSound_4, am_bnx_v, am_bnx_e, am_tl_s, am_tl_n, am_rv_s, am_add_rx, hm.1, av_x80, e, am_in_n (show 83 + 5 * k < 120 by omega) (by decide), am_tn (show 83 + 5 * k < 2147483648 by omega)]
theorem mc_p4 {D k : Nat} {M : am_M} (hm : av_msh M.2.1 D) (hk : k < 6) : am_val iX13_ofPlayer 0 [some (.ref (am_c D 13)), some (.int (nI k)), some (.int 4)] [] M = some (.inl (some (.int (M.1 (am_c (D + 1) 18) (54 + 5 * k)))), M, 0, 0) := by
  have e : nI (50 + 5 * k) + 4 = nI (54 + 5 * k) := by rw [av_xa (show (4 : Int32) = nI 4 from rfl)]; congr 1; omega
  simp only [ae_X13_ofPlayer_0, ae_X13_ofPlayer_4, am_bnx_v, am_bnx_e, am_tl_s, am_tl_n, am_rv_s, am_add_rx, hm.1, av_x50, e, am_in_n (show 54 + 5 * k < 120 by omega) (by decide), am_tn (show 54 + 5 * k < 2147483648 by omega)]
theorem mc_s4 {D k : Nat} {M : am_M} (hm : av_msh M.2.1 D) (hk : k < 8) : am_val iX13_ofSound 0 [some (.ref (am_c D 13)), some (.int (nI k)), some (.int 4)] [] M = some (.inl (some (.int (M.1 (am_c (D + 1) 18) (84 + 5 * k)))), M, 0, 0) := by
  have e : nI (80 + 5 * k) + 4 = nI (84 + 5 * k) := by rw [av_xa (show (4 : Int32) = nI 4 from rfl)]; congr 1; omega
  simp only [ae_X13_ofSound_0, ae_X13_ofSound_4, am_bnx_v, am_bnx_e, am_tl_s, am_tl_n, am_rv_s, am_add_rx, hm.1, av_x80, e, am_in_n (show 84 + 5 * k < 120 by omega) (by decide), am_tn (show 84 + 5 * k < 2147483648 by omega)]
/-- the row holds the canyon -/
def av_mr (s σ : Nat → Int32) (L : List (Nat → Int32)) : Prop := (∀ j, j < 80 → j ≠ 1 → s j = σ j) ∧ s 1 = nI L.length ∧ ∀ k, k < L.length → ∀ w, w < 5 → s (80 + 5 * k + w) = av_s L k w
theorem av_mr_s {s σ : Nat → Int32} {L : List (Nat → Int32)} (h : av_mr s σ L) {k : Nat} (hk : k < L.length) : s (80 + 5 * k) = av_s L k 0 ∧ s (81 + 5 * k) = av_s L k 1 ∧ s (82 + 5 * k) = av_s L k 2 ∧ s (83 + 5 * k) = av_s L k 3 ∧ s (84 + 5 * k) = av_s L k 4 := by
  refine ⟨?_, ?_, ?_, ?_, ?_⟩
  · rw [← h.2.2 k hk 0 (by decide)]; congr 1 <;> omega
  · rw [← h.2.2 k hk 1 (by decide)]; congr 1 <;> omega
  · rw [← h.2.2 k hk 2 (by decide)]; congr 1 <;> omega
  · rw [← h.2.2 k hk 3 (by decide)]; congr 1 <;> omega
  · rw [← h.2.2 k hk 4 (by decide)]; congr 1 <;> omega
theorem mc_isPlayer {D n : Nat} {x : Int32} {M : am_M} (hm : av_msh M.2.1 D) (h : M.1 (am_c (D + 1) 18) 0 = nI n) (hn : n < 2147483648) : am_val iX13_isPlayer 0 [some (.ref (am_c D 13)), some (.int x)] [] M = some (.inl (some (.int (am_bi (am_lt x n)))), M, 0, 0) := by
  simp only [ae_X13_isPlayer_0, ae_X13_isPlayer_6, ae_X13_isPlayer_13, am_bnx_v, am_bnx_e, am_tl_s, am_tl_n, am_rv_s, am_add_rx, hm.1, mc_in, h, am_wt_lt hn, am_bi_01]
theorem mc_isSound {D n : Nat} {x : Int32} {M : am_M} (hm : av_msh M.2.1 D) (h : M.1 (am_c (D + 1) 18) 1 = nI n) (hn : n < 2147483648) : am_val iX13_isSound 0 [some (.ref (am_c D 13)), some (.int x)] [] M = some (.inl (some (.int (am_bi (am_lt x n)))), M, 0, 0) := by
  simp only [ae_X13_isSound_0, ae_X13_isSound_6, ae_X13_isSound_13, am_bnx_v, am_bnx_e, am_tl_s, am_tl_n, am_rv_s, am_add_rx, hm.1, mc_in, h, am_wt_lt hn, am_bi_01]
theorem mc_refused {D : Nat} {x y : Int32} {M : am_M} : am_val iX13_refused 0 [some (.ref (am_c D 13)), some (.int x), some (.int y)] [] M = some (.inl (some (.int x)), av_i M (am_c D 13) 16 y, 0, 0) := by
  simp only [ae_X13_refused_0]
theorem mc_done {D : Nat} {x : Int32} {M : am_M} : am_val iX13_done 0 [some (.ref (am_c D 13)), some (.int x)] [] M = some (.inl (some (.int 0)), av_i M (am_c D 13) 17 x, 0, 0) := by
  simp only [ae_X13_done_0]
theorem mc_fails {D : Nat} {x : Int32} {M : am_M} : am_val iX13_fails 0 [some (.ref (am_c D 13)), some (.int x)] [] M = some (.inl (some (.int 0)), av_i M (am_c D 13) 0 x, 0, 0) := by
  simp only [ae_X13_fails_0]
theorem mc_thrown {D : Nat} {M : am_M} : am_val iX13_thrown 0 [some (.ref (am_c D 13))] [] M = some (.inl (some (.int (M.1 (am_c D 13) 0))), M, 0, 0) := by
  simp only [ae_X13_thrown_0]
theorem mc_cost {D t p : Nat} {M : am_M} (hm : av_msh M.2.1 D) (hp : p < 16) {σ : Nat → Int32} (h0 : M.1 (am_c (D + 1) 18) (18 + 2 * p) = σ (18 + 2 * p)) (h1 : M.1 (am_c (D + 1) 18) (19 + 2 * p) = σ (19 + 2 * p)) : am_val iX13_cost 0 [some (.ref (am_c D 13)), some (.int (nI t)), some (.int (nI p))] [] M = some (.inl (some (.int (av_price σ (nI t) (nI p)))), M, 0, 0) := by
  have e1 := mc_height hm hp
  have e2 := mc_owner hm hp
  rw [h0] at e1
  rw [h1] at e2
  unfold av_price
  rw [av_hf_n hp, av_of_n hp]
  by_cases a : σ (19 + 2 * p) = nI t
  · rw [if_pos a]
    simp only [ae_X13_cost_0, ae_X13_cost_5, ae_X13_cost_9, ae_X13_cost_13, ae_X13_cost_18, ae_X13_cost_22, ae_X13_cost_27, ae_X13_cost_30, ae_X13_cost_36, am_bnx_v, am_bnx_e, am_tl_s, am_tl_n, am_rv_s, am_add_rx, e1, e2, a, not_true_eq_false, not_false_eq_true, if_true, if_false, am_1n0, or_true, true_or, eq_self, Bool.true_eq_false, Bool.false_eq_true, cond_true, cond_false]
  · rw [if_neg a]
    by_cases b : σ (19 + 2 * p) = -1
    · rw [if_pos b]
      simp only [ae_X13_cost_0, ae_X13_cost_5, ae_X13_cost_9, ae_X13_cost_13, ae_X13_cost_18, ae_X13_cost_22, ae_X13_cost_27, ae_X13_cost_30, ae_X13_cost_36, am_bnx_v, am_bnx_e, am_tl_s, am_tl_n, am_rv_s, am_add_rx, e1, e2, a, b, not_true_eq_false, not_false_eq_true, if_true, if_false, am_1n0, or_true, true_or, eq_self, Bool.true_eq_false, Bool.false_eq_true, cond_true, cond_false]
      rw [b] at a
      simp only [a, not_true_eq_false, not_false_eq_true, if_true, if_false, am_1n0, or_true, true_or, eq_self, Bool.true_eq_false, Bool.false_eq_true, cond_true, cond_false]
    · rw [if_neg b]
      simp only [ae_X13_cost_0, ae_X13_cost_5, ae_X13_cost_9, ae_X13_cost_13, ae_X13_cost_18, ae_X13_cost_22, ae_X13_cost_27, ae_X13_cost_30, ae_X13_cost_36, am_bnx_v, am_bnx_e, am_tl_s, am_tl_n, am_rv_s, am_add_rx, e1, e2, a, b, not_true_eq_false, not_false_eq_true, if_true, if_false, am_1n0, or_true, true_or, eq_self, Bool.true_eq_false, Bool.false_eq_true, cond_true, cond_false]
theorem mc_playersAt {D : Nat} {σ : Nat → Int32} {L : List (Nat → Int32)} {t : Int32} {M : am_M} (hm : av_msh M.2.1 D) (hr : av_mr (M.1 (am_c (D + 1) 18)) σ L) (hnp1 : av_np σ ≤ 6) (hnp2 : σ 0 = nI (av_np σ)) (hln : L.length ≤ 8) : am_val iX13_playersAt 0 [some (.ref (am_c D 13)), some (.int t), none, none] [] M = some (.inl (some (.int (am_cnt (fun k => decide (σ (51 + 5 * k) = t)) (av_np σ)))), M, 0, 0) := by
  have hct := (hr.1 0 (by decide) (by decide)).trans hnp2
  have hl := av_lp (H := fun k x _ => am_val iX13_playersAt 4 [some (.ref (am_c D 13)), some (.int t), some (.int x), some (.int (nI k))] [] M) (g := am_cg (fun k => decide (σ (51 + 5 * k) = t))) (N := av_np σ) (r := fun x => some (.inl (some (.int x)), M, 0, 0)) 0 none
    (fun x o => by
      rw [ae_X13_playersAt_4, hm.1, am_rv_s]
      simp only [ae_X13_playersAt_0, ae_X13_playersAt_9, ae_X13_playersAt_14, ae_X13_playersAt_21, ae_X13_playersAt_25, ae_X13_playersAt_29, ae_X13_playersAt_38, hct, av_he (show av_np σ < 2147483648 by omega), if_true])
    (fun k x o hk => by
      refine ⟨none, ?_⟩
      have e1 := mc_p1 (k := k) hm (by omega)
      rw [hr.1 (51 + 5 * k) (by omega) (by omega)] at e1
      rw [ae_X13_playersAt_4, hm.1, am_rv_s]
      by_cases hx : σ (51 + 5 * k) = t
      · rw [am_cg_t (by simp [hx])]
        simp only [ae_X13_playersAt_0, ae_X13_playersAt_9, ae_X13_playersAt_14, ae_X13_playersAt_21, ae_X13_playersAt_25, ae_X13_playersAt_29, ae_X13_playersAt_38, am_bnx_v, am_bnx_e, am_tl_s, am_tl_n, am_rv_s, am_add_rx, hct, av_hl hk (by omega), if_false, e1, hx, not_true_eq_false, nI_1]
      · rw [am_cg_f (by simp [hx])]
        simp only [ae_X13_playersAt_0, ae_X13_playersAt_9, ae_X13_playersAt_14, ae_X13_playersAt_21, ae_X13_playersAt_25, ae_X13_playersAt_29, ae_X13_playersAt_38, am_bnx_v, am_bnx_e, am_tl_s, am_tl_n, am_rv_s, am_add_rx, hct, av_hl hk (by omega), if_false, if_true, e1, hx, not_false_eq_true, Int32.add_zero, nI_1])
  simp only [nI_0] at hl
  simp only [ae_X13_playersAt_0, ae_X13_playersAt_9, ae_X13_playersAt_14, ae_X13_playersAt_21, ae_X13_playersAt_25, ae_X13_playersAt_29, ae_X13_playersAt_38, hl]
  rfl
theorem mc_playersOf {D : Nat} {σ : Nat → Int32} {L : List (Nat → Int32)} {t : Int32} {M : am_M} (hm : av_msh M.2.1 D) (hr : av_mr (M.1 (am_c (D + 1) 18)) σ L) (hnp1 : av_np σ ≤ 6) (hnp2 : σ 0 = nI (av_np σ)) (hln : L.length ≤ 8) : am_val iX13_playersOf 0 [some (.ref (am_c D 13)), some (.int t), none, none] [] M = some (.inl (some (.int (am_cnt (fun k => decide (σ (50 + 5 * k) = t)) (av_np σ)))), M, 0, 0) := by
  have hct := (hr.1 0 (by decide) (by decide)).trans hnp2
  have hl := av_lp (H := fun k x _ => am_val iX13_playersOf 4 [some (.ref (am_c D 13)), some (.int t), some (.int x), some (.int (nI k))] [] M) (g := am_cg (fun k => decide (σ (50 + 5 * k) = t))) (N := av_np σ) (r := fun x => some (.inl (some (.int x)), M, 0, 0)) 0 none
    (fun x o => by
      rw [ae_X13_playersOf_4, hm.1, am_rv_s]
      simp only [ae_X13_playersOf_0, ae_X13_playersOf_9, ae_X13_playersOf_14, ae_X13_playersOf_21, ae_X13_playersOf_25, ae_X13_playersOf_29, ae_X13_playersOf_38, hct, av_he (show av_np σ < 2147483648 by omega), if_true])
    (fun k x o hk => by
      refine ⟨none, ?_⟩
      have e1 := mc_p0 (k := k) hm (by omega)
      rw [hr.1 (50 + 5 * k) (by omega) (by omega)] at e1
      rw [ae_X13_playersOf_4, hm.1, am_rv_s]
      by_cases hx : σ (50 + 5 * k) = t
      · rw [am_cg_t (by simp [hx])]
        simp only [ae_X13_playersOf_0, ae_X13_playersOf_9, ae_X13_playersOf_14, ae_X13_playersOf_21, ae_X13_playersOf_25, ae_X13_playersOf_29, ae_X13_playersOf_38, am_bnx_v, am_bnx_e, am_tl_s, am_tl_n, am_rv_s, am_add_rx, hct, av_hl hk (by omega), if_false, e1, hx, not_true_eq_false, nI_1]
      · rw [am_cg_f (by simp [hx])]
        simp only [ae_X13_playersOf_0, ae_X13_playersOf_9, ae_X13_playersOf_14, ae_X13_playersOf_21, ae_X13_playersOf_25, ae_X13_playersOf_29, ae_X13_playersOf_38, am_bnx_v, am_bnx_e, am_tl_s, am_tl_n, am_rv_s, am_add_rx, hct, av_hl hk (by omega), if_false, if_true, e1, hx, not_false_eq_true, Int32.add_zero, nI_1])
  simp only [nI_0] at hl
  simp only [ae_X13_playersOf_0, ae_X13_playersOf_9, ae_X13_playersOf_14, ae_X13_playersOf_21, ae_X13_playersOf_25, ae_X13_playersOf_29, ae_X13_playersOf_38, hl]
  rfl
theorem mc_soundsAt {D : Nat} {σ : Nat → Int32} {L : List (Nat → Int32)} {t : Int32} {M : am_M} (hm : av_msh M.2.1 D) (hr : av_mr (M.1 (am_c (D + 1) 18)) σ L) (hnp1 : av_np σ ≤ 6) (hnp2 : σ 0 = nI (av_np σ)) (hln : L.length ≤ 8) : am_val iX13_soundsAt 0 [some (.ref (am_c D 13)), some (.int t), none, none] [] M = some (.inl (some (.int (am_cnt (fun k => decide (av_s L k 0 = t)) (L.length)))), M, 0, 0) := by
  have hct := hr.2.1
  have hl := av_lp (H := fun k x _ => am_val iX13_soundsAt 4 [some (.ref (am_c D 13)), some (.int t), some (.int x), some (.int (nI k))] [] M) (g := am_cg (fun k => decide (av_s L k 0 = t))) (N := L.length) (r := fun x => some (.inl (some (.int x)), M, 0, 0)) 0 none
    (fun x o => by
      rw [ae_X13_soundsAt_4, hm.1, am_rv_s]
      simp only [ae_X13_soundsAt_0, ae_X13_soundsAt_9, ae_X13_soundsAt_14, ae_X13_soundsAt_21, ae_X13_soundsAt_25, ae_X13_soundsAt_29, ae_X13_soundsAt_38, hct, av_he (show L.length < 2147483648 by omega), if_true])
    (fun k x o hk => by
      refine ⟨none, ?_⟩
      have e1 := mc_s0 (k := k) hm (by omega)
      rw [(av_mr_s hr hk).1] at e1
      rw [ae_X13_soundsAt_4, hm.1, am_rv_s]
      by_cases hx : av_s L k 0 = t
      · rw [am_cg_t (by simp [hx])]
        simp only [ae_X13_soundsAt_0, ae_X13_soundsAt_9, ae_X13_soundsAt_14, ae_X13_soundsAt_21, ae_X13_soundsAt_25, ae_X13_soundsAt_29, ae_X13_soundsAt_38, am_bnx_v, am_bnx_e, am_tl_s, am_tl_n, am_rv_s, am_add_rx, hct, av_hl hk (by omega), if_false, e1, hx, not_true_eq_false, nI_1]
      · rw [am_cg_f (by simp [hx])]
        simp only [ae_X13_soundsAt_0, ae_X13_soundsAt_9, ae_X13_soundsAt_14, ae_X13_soundsAt_21, ae_X13_soundsAt_25, ae_X13_soundsAt_29, ae_X13_soundsAt_38, am_bnx_v, am_bnx_e, am_tl_s, am_tl_n, am_rv_s, am_add_rx, hct, av_hl hk (by omega), if_false, if_true, e1, hx, not_false_eq_true, Int32.add_zero, nI_1])
  simp only [nI_0] at hl
  simp only [ae_X13_soundsAt_0, ae_X13_soundsAt_9, ae_X13_soundsAt_14, ae_X13_soundsAt_21, ae_X13_soundsAt_25, ae_X13_soundsAt_29, ae_X13_soundsAt_38, hl]
  rfl
theorem mc_soundsOf {D : Nat} {σ : Nat → Int32} {L : List (Nat → Int32)} {t : Int32} {M : am_M} (hm : av_msh M.2.1 D) (hr : av_mr (M.1 (am_c (D + 1) 18)) σ L) (hnp1 : av_np σ ≤ 6) (hnp2 : σ 0 = nI (av_np σ)) (hln : L.length ≤ 8) : am_val iX13_soundsOf 0 [some (.ref (am_c D 13)), some (.int t), none, none] [] M = some (.inl (some (.int (am_cnt (fun k => decide (av_s L k 2 = t)) (L.length)))), M, 0, 0) := by
  have hct := hr.2.1
  have hl := av_lp (H := fun k x _ => am_val iX13_soundsOf 4 [some (.ref (am_c D 13)), some (.int t), some (.int x), some (.int (nI k))] [] M) (g := am_cg (fun k => decide (av_s L k 2 = t))) (N := L.length) (r := fun x => some (.inl (some (.int x)), M, 0, 0)) 0 none
    (fun x o => by
      rw [ae_X13_soundsOf_4, hm.1, am_rv_s]
      simp only [ae_X13_soundsOf_0, ae_X13_soundsOf_9, ae_X13_soundsOf_14, ae_X13_soundsOf_21, ae_X13_soundsOf_25, ae_X13_soundsOf_29, ae_X13_soundsOf_38, hct, av_he (show L.length < 2147483648 by omega), if_true])
    (fun k x o hk => by
      refine ⟨none, ?_⟩
      have e1 := mc_s2 (k := k) hm (by omega)
      rw [(av_mr_s hr hk).2.2.1] at e1
      rw [ae_X13_soundsOf_4, hm.1, am_rv_s]
      by_cases hx : av_s L k 2 = t
      · rw [am_cg_t (by simp [hx])]
        simp only [ae_X13_soundsOf_0, ae_X13_soundsOf_9, ae_X13_soundsOf_14, ae_X13_soundsOf_21, ae_X13_soundsOf_25, ae_X13_soundsOf_29, ae_X13_soundsOf_38, am_bnx_v, am_bnx_e, am_tl_s, am_tl_n, am_rv_s, am_add_rx, hct, av_hl hk (by omega), if_false, e1, hx, not_true_eq_false, nI_1]
      · rw [am_cg_f (by simp [hx])]
        simp only [ae_X13_soundsOf_0, ae_X13_soundsOf_9, ae_X13_soundsOf_14, ae_X13_soundsOf_21, ae_X13_soundsOf_25, ae_X13_soundsOf_29, ae_X13_soundsOf_38, am_bnx_v, am_bnx_e, am_tl_s, am_tl_n, am_rv_s, am_add_rx, hct, av_hl hk (by omega), if_false, if_true, e1, hx, not_false_eq_true, Int32.add_zero, nI_1])
  simp only [nI_0] at hl
  simp only [ae_X13_soundsOf_0, ae_X13_soundsOf_9, ae_X13_soundsOf_14, ae_X13_soundsOf_21, ae_X13_soundsOf_25, ae_X13_soundsOf_29, ae_X13_soundsOf_38, hl]
  rfl
