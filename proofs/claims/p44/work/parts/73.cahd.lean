/-! the class: comesAgain, returns, bestLoudness -/
theorem cq_comesAgain {B : Nat} {rm : Nat → Nat} {σ : Nat → Int32} {L : List (Nat → Int32)} {bd : Nat} {a : Int32} {M : am_M} (p0 : M.2.1 (am_c 0 12) 0 = am_c B 1 + 1) (p9 : M.2.1 (am_c 0 12) 9 = am_c 273 8 + 1) (hC : av_C M B rm σ L) (hB : B + 24 ≤ 273) (hok : av_ok bd σ L) (h9 : av_xp M) : ∃ M1, av_qc (am_val iX12_comesAgain 0 [some (.ref (am_c 0 12)), some (.int a), none, none, none, none] [] M) (aq_comes σ L a) M1 ∧ av_fp M M1 ∧ av_xp M1 := by
  have l8 := hC.2.1.2.2.1
  have n6 := hC.2.1.1
  unfold aq_comes
  cases hp : am_ltb a (av_np σ) with
  | false =>
    rw [if_pos rfl]
    refine ⟨M, ?_, av_fp_0, h9⟩
    show (_ : am_T) = some (.inr 1, M, 1, 6)
    simp only [ae_X12_comesAgain_0, ae_X12_comesAgain_5, ae_X12_comesAgain_9, ae_X12_comesAgain_12, ae_X12_comesAgain_14, ae_X12_comesAgain_29, ae_X12_comesAgain_35, ae_X12_comesAgain_39, ae_X12_comesAgain_43, ae_X12_comesAgain_46, ae_X12_comesAgain_49, ae_X12_comesAgain_52, ae_X12_comesAgain_57, ae_X12_comesAgain_65, ae_X12_comesAgain_70, ae_X12_comesAgain_76, ae_X12_comesAgain_79, ae_X12_comesAgain_85, ae_X12_comesAgain_90, ae_X12_comesAgain_101, am_bnx_v, am_bnx_e, am_tl_s, am_tl_n, am_rv_s, am_add_rx, ac_ckPlayer_f p0 hC hp]
  | true =>
    rw [if_neg (by decide)]
    have c0 := ac_ckPlayer_t p0 hC hp
    obtain ⟨k, hk, rfl⟩ := am_lt_n (by omega) hp
    rw [av_ix_n (by omega)]
    have hin := am_in_n (show k < 6 by omega) (by decide)
    have htn := am_tn (show k < 2147483648 by omega)
    have w2 := hC.1.1.2.2.1
    have w9 := hC.1.1.2.2.2.2.2.2.2.2.2 k (by omega)
    have e1 : M.1 (am_c (B + 10 + k) 6) 1 = σ (51 + 5 * k) := (hC.2.2.2.2.2.1 k (by omega) 1 (by decide)).trans (congrArg σ (by omega))
    have key := av_lpr (H := fun j (X : am_M × Int32) o => am_val iX12_comesAgain 23 [some (.ref (am_c 0 12)), some (.int (nI k)), some (.int (σ (51 + 5 * k))), some (.int (X.2)), some (.int (nI j)), o] [] (X.1))
      (P := fun j X => X.2 = am_it (av_cg σ L (σ (51 + 5 * k))) j (-1) ∧ av_fp M X.1 ∧ av_xp X.1) (N := L.length)
      (Q := fun t => ∃ X o, t = am_val iX12_comesAgain 85 [some (.ref (am_c 0 12)), some (.int (nI k)), some (.int (σ (51 + 5 * k))), some (.int (av_cm σ L (σ (51 + 5 * k)))), some (.int (nI L.length)), o] [] X ∧ av_fp M X ∧ av_xp X)
      (fun X o hP => by
        obtain ⟨a1, a2, a3⟩ := hP
        obtain ⟨X, x⟩ := X
        have a2 : av_fp M X := a2
        have a3 : av_xp X := a3
        refine ⟨X, o, ?_, a2, a3⟩
        have a1 : x = av_cm σ L (σ (51 + 5 * k)) := a1
        rw [← a1]
        show am_val iX12_comesAgain 23 [some (.ref (am_c 0 12)), some (.int (nI k)), some (.int (σ (51 + 5 * k))), some (.int x), some (.int (nI L.length)), o] [] X = _
        have q0 : X.2.1 (am_c 0 12) 0 = am_c B 1 + 1 := by rw [show X.2 = M.2 from a2.1]; exact p0
        have cX := av_C_g hC (av_fp_ag a2 (Or.inl hB))
        rw [ae_X12_comesAgain_23, q0, am_rv_s]
        simp only [ae_X12_comesAgain_0, ae_X12_comesAgain_5, ae_X12_comesAgain_9, ae_X12_comesAgain_12, ae_X12_comesAgain_14, ae_X12_comesAgain_29, ae_X12_comesAgain_35, ae_X12_comesAgain_39, ae_X12_comesAgain_43, ae_X12_comesAgain_46, ae_X12_comesAgain_49, ae_X12_comesAgain_52, ae_X12_comesAgain_57, ae_X12_comesAgain_65, ae_X12_comesAgain_70, ae_X12_comesAgain_76, ae_X12_comesAgain_79, ae_X12_comesAgain_85, ae_X12_comesAgain_90, ae_X12_comesAgain_101, (av_C_ns cX).1, av_he (show L.length < 2147483648 by omega), if_true])
      (fun j X o hj hP => by
        obtain ⟨a1, a2, a3⟩ := hP
        obtain ⟨X, x⟩ := X
        have a2 : av_fp M X := a2
        have a3 : av_xp X := a3
        have q0 : X.2.1 (am_c 0 12) 0 = am_c B 1 + 1 := by rw [show X.2 = M.2 from a2.1]; exact p0
        have q9 : X.2.1 (am_c 0 12) 9 = am_c 273 8 + 1 := by rw [show X.2 = M.2 from a2.1]; exact p9
        have cX := av_C_g hC (av_fp_ag a2 (Or.inl hB))
        have x3 := cX.1.1.2.2.2.1
        have hrj := cX.1.2.1 j (by omega)
        have hij := am_in_n (show j < 8 by omega) (by decide)
        have htj := am_tn (show j < 2147483648 by omega)
        obtain ⟨M1, f1e, r1, f1, c1⟩ := ac_ptk cX hB hj
        have s0 : M1.2.1 (am_c 0 12) 0 = am_c B 1 + 1 := by rw [f1.1]; exact q0
        have s9 : M1.2.1 (am_c 0 12) 9 = am_c 273 8 + 1 := by rw [f1.1]; exact q9
        obtain ⟨M2, i, h1, h2, -, h4⟩ := ac_sendTo (p := σ (51 + 5 * k)) s0 s9 c1 hB r1
        refine ⟨(M2, av_cg σ L (σ (51 + 5 * k)) j x), some (.int (av_bi (av_et σ (av_s L j) (σ (51 + 5 * k))))), ⟨?_, av_fp_t a2 (av_fp_t f1 h4), av_xp_rs h2 (av_n_4 (hok.2.2.2.2.1 j hj).2.2.2 i)⟩, ?_⟩
        · show av_cg σ L (σ (51 + 5 * k)) j x = av_cg σ L (σ (51 + 5 * k)) j (am_it (av_cg σ L (σ (51 + 5 * k))) j (-1))
          rw [← show x = am_it (av_cg σ L (σ (51 + 5 * k))) j (-1) from a1]
        · show am_val iX12_comesAgain 23 [some (.ref (am_c 0 12)), some (.int (nI k)), some (.int (σ (51 + 5 * k))), some (.int x), some (.int (nI j)), o] [] X = _
          rw [ae_X12_comesAgain_23, q0, am_rv_s]
          unfold av_cg
          by_cases d1 : av_bi (av_et σ (av_s L j) (σ (51 + 5 * k))) = -1
          · simp only [ae_X12_comesAgain_0, ae_X12_comesAgain_5, ae_X12_comesAgain_9, ae_X12_comesAgain_12, ae_X12_comesAgain_14, ae_X12_comesAgain_29, ae_X12_comesAgain_35, ae_X12_comesAgain_39, ae_X12_comesAgain_43, ae_X12_comesAgain_46, ae_X12_comesAgain_49, ae_X12_comesAgain_52, ae_X12_comesAgain_57, ae_X12_comesAgain_65, ae_X12_comesAgain_70, ae_X12_comesAgain_76, ae_X12_comesAgain_79, ae_X12_comesAgain_85, ae_X12_comesAgain_90, ae_X12_comesAgain_101, am_bnx_v, am_bnx_e, am_tl_s, am_tl_n, am_rv_s, am_add_rx, (av_C_ns cX).1, av_hl hj (show L.length < 2147483648 by omega), q0, q9, x3, hij, htj, hrj, f1e, h1, d1, not_true_eq_false, not_false_eq_true, if_true, if_false, am_1n0, or_true, true_or, eq_self, Bool.true_eq_false, Bool.false_eq_true, cond_true, cond_false, nI_1]
          · by_cases d2 : x = -1
            · simp only [ae_X12_comesAgain_0, ae_X12_comesAgain_5, ae_X12_comesAgain_9, ae_X12_comesAgain_12, ae_X12_comesAgain_14, ae_X12_comesAgain_29, ae_X12_comesAgain_35, ae_X12_comesAgain_39, ae_X12_comesAgain_43, ae_X12_comesAgain_46, ae_X12_comesAgain_49, ae_X12_comesAgain_52, ae_X12_comesAgain_57, ae_X12_comesAgain_65, ae_X12_comesAgain_70, ae_X12_comesAgain_76, ae_X12_comesAgain_79, ae_X12_comesAgain_85, ae_X12_comesAgain_90, ae_X12_comesAgain_101, am_bnx_v, am_bnx_e, am_tl_s, am_tl_n, am_rv_s, am_add_rx, (av_C_ns cX).1, av_hl hj (show L.length < 2147483648 by omega), q0, q9, x3, hij, htj, hrj, f1e, h1, d1, d2, not_true_eq_false, not_false_eq_true, if_true, if_false, am_1n0, or_true, true_or, eq_self, Bool.true_eq_false, Bool.false_eq_true, cond_true, cond_false, nI_1]
            · by_cases d3 : x ≤ av_bi (av_et σ (av_s L j) (σ (51 + 5 * k)))
              · simp only [ae_X12_comesAgain_0, ae_X12_comesAgain_5, ae_X12_comesAgain_9, ae_X12_comesAgain_12, ae_X12_comesAgain_14, ae_X12_comesAgain_29, ae_X12_comesAgain_35, ae_X12_comesAgain_39, ae_X12_comesAgain_43, ae_X12_comesAgain_46, ae_X12_comesAgain_49, ae_X12_comesAgain_52, ae_X12_comesAgain_57, ae_X12_comesAgain_65, ae_X12_comesAgain_70, ae_X12_comesAgain_76, ae_X12_comesAgain_79, ae_X12_comesAgain_85, ae_X12_comesAgain_90, ae_X12_comesAgain_101, am_bnx_v, am_bnx_e, am_tl_s, am_tl_n, am_rv_s, am_add_rx, (av_C_ns cX).1, av_hl hj (show L.length < 2147483648 by omega), q0, q9, x3, hij, htj, hrj, f1e, h1, d1, d2, d3, not_true_eq_false, not_false_eq_true, if_true, if_false, am_1n0, or_true, true_or, eq_self, Bool.true_eq_false, Bool.false_eq_true, cond_true, cond_false, nI_1]
              · simp only [ae_X12_comesAgain_0, ae_X12_comesAgain_5, ae_X12_comesAgain_9, ae_X12_comesAgain_12, ae_X12_comesAgain_14, ae_X12_comesAgain_29, ae_X12_comesAgain_35, ae_X12_comesAgain_39, ae_X12_comesAgain_43, ae_X12_comesAgain_46, ae_X12_comesAgain_49, ae_X12_comesAgain_52, ae_X12_comesAgain_57, ae_X12_comesAgain_65, ae_X12_comesAgain_70, ae_X12_comesAgain_76, ae_X12_comesAgain_79, ae_X12_comesAgain_85, ae_X12_comesAgain_90, ae_X12_comesAgain_101, am_bnx_v, am_bnx_e, am_tl_s, am_tl_n, am_rv_s, am_add_rx, (av_C_ns cX).1, av_hl hj (show L.length < 2147483648 by omega), q0, q9, x3, hij, htj, hrj, f1e, h1, d1, d2, d3, not_true_eq_false, not_false_eq_true, if_true, if_false, am_1n0, or_true, true_or, eq_self, Bool.true_eq_false, Bool.false_eq_true, cond_true, cond_false, nI_1])
      L.length 0 (M, -1) none (by omega) ⟨rfl, av_fp_0, h9⟩
    obtain ⟨X, o, k1, k2, k3⟩ := key
    have k1 : am_val iX12_comesAgain 23 [some (.ref (am_c 0 12)), some (.int (nI k)), some (.int (σ (51 + 5 * k))), some (.int (-1)), some (.int (nI 0)), none] [] M = am_val iX12_comesAgain 85 [some (.ref (am_c 0 12)), some (.int (nI k)), some (.int (σ (51 + 5 * k))), some (.int (av_cm σ L (σ (51 + 5 * k)))), some (.int (nI L.length)), o] [] X := k1
    rw [nI_0] at k1
    refine ⟨X, ?_, k2, k3⟩
    by_cases c : av_cm σ L (σ (51 + 5 * k)) = -1
    · rw [if_pos c]
      rw [c] at k1
      show (_ : am_T) = some (.inr 3, X, 1, 6)
      simp only [ae_X12_comesAgain_0, ae_X12_comesAgain_5, ae_X12_comesAgain_9, ae_X12_comesAgain_12, ae_X12_comesAgain_14, ae_X12_comesAgain_29, ae_X12_comesAgain_35, ae_X12_comesAgain_39, ae_X12_comesAgain_43, ae_X12_comesAgain_46, ae_X12_comesAgain_49, ae_X12_comesAgain_52, ae_X12_comesAgain_57, ae_X12_comesAgain_65, ae_X12_comesAgain_70, ae_X12_comesAgain_76, ae_X12_comesAgain_79, ae_X12_comesAgain_85, ae_X12_comesAgain_90, ae_X12_comesAgain_101, am_bnx_v, am_bnx_e, am_tl_s, am_tl_n, am_rv_s, am_add_rx, c0, p0, w2, hin, htn, w9, e1, k1, not_true_eq_false, not_false_eq_true, if_true, if_false, am_1n0, or_true, true_or, eq_self, Bool.true_eq_false, Bool.false_eq_true, cond_true, cond_false]
    · rw [if_neg c]
      show (_ : am_T) = some (.inl (some (.int (av_cm σ L (σ (51 + 5 * k))))), X, 0, 0)
      simp only [ae_X12_comesAgain_0, ae_X12_comesAgain_5, ae_X12_comesAgain_9, ae_X12_comesAgain_12, ae_X12_comesAgain_14, ae_X12_comesAgain_29, ae_X12_comesAgain_35, ae_X12_comesAgain_39, ae_X12_comesAgain_43, ae_X12_comesAgain_46, ae_X12_comesAgain_49, ae_X12_comesAgain_52, ae_X12_comesAgain_57, ae_X12_comesAgain_65, ae_X12_comesAgain_70, ae_X12_comesAgain_76, ae_X12_comesAgain_79, ae_X12_comesAgain_85, ae_X12_comesAgain_90, ae_X12_comesAgain_101, am_bnx_v, am_bnx_e, am_tl_s, am_tl_n, am_rv_s, am_add_rx, c0, p0, w2, hin, htn, w9, e1, k1, c, not_true_eq_false, not_false_eq_true, if_true, if_false, am_1n0, or_true, true_or, eq_self, Bool.true_eq_false, Bool.false_eq_true, cond_true, cond_false]
/-! returns, bestLoudness -/
def aq_returns (σ : Nat → Int32) (a g l : Int32) : av_A := if am_ltb a (av_np σ) = false then .inr (1, 1) else if am_wt l 1 20 = false then .inr (2, 2) else .inl (av_ret σ (σ (51 + 5 * av_ix a)) (σ (50 + 5 * av_ix a)) g l)
theorem cq_returns {B : Nat} {rm : Nat → Nat} {σ : Nat → Int32} {L : List (Nat → Int32)} {a g l : Int32} {M : am_M} (p0 : M.2.1 (am_c 0 12) 0 = am_c B 1 + 1) (p9 : M.2.1 (am_c 0 12) 9 = am_c 273 8 + 1) (hC : av_C M B rm σ L) (hB : B + 24 ≤ 273) (hg : g = 0 ∨ g = 1) (h9 : av_xp M) : ∃ M1, av_qc (am_val iX12_returns 0 [some (.ref (am_c 0 12)), some (.int a), some (.int g), some (.int l)] [] M) (aq_returns σ a g l) M1 ∧ av_fp M M1 ∧ av_xp M1 := by
  have n6 := hC.2.1.1
  unfold aq_returns
  cases hp : am_ltb a (av_np σ) with
  | false =>
    rw [if_pos rfl]
    refine ⟨M, ?_, av_fp_0, h9⟩
    show (_ : am_T) = some (.inr 1, M, 1, 6)
    simp only [ae_X12_returns_0, ae_X12_returns_5, ae_X12_returns_12, ae_X12_returns_15, ae_X12_returns_26, ae_X12_returns_33, am_bnx_v, am_bnx_e, am_tl_s, am_tl_n, am_rv_s, am_add_rx, ac_ckPlayer_f p0 hC hp]
  | true =>
    rw [if_neg (by decide)]
    have c0 := ac_ckPlayer_t p0 hC hp
    cases hl : am_wt l 1 20 with
    | false =>
      rw [if_pos rfl]
      refine ⟨M, ?_, av_fp_0, h9⟩
      show (_ : am_T) = some (.inr 2, M, 1, 6)
      simp only [ae_X12_returns_0, ae_X12_returns_5, ae_X12_returns_12, ae_X12_returns_15, ae_X12_returns_26, ae_X12_returns_33, am_bnx_v, am_bnx_e, am_tl_s, am_tl_n, am_rv_s, am_add_rx, c0, ac_isWithin, hl, am_bi_f, not_true_eq_false, not_false_eq_true, if_true, if_false, am_1n0, or_true, true_or, eq_self, Bool.true_eq_false, Bool.false_eq_true, cond_true, cond_false]
    | true =>
      rw [if_neg (by decide)]
      obtain ⟨k, hk, rfl⟩ := am_lt_n (by omega) hp
      rw [av_ix_n (by omega)]
      obtain ⟨M1, e1, f1, x1⟩ := ac_ret (l := l) p0 p9 hC hB hk hg
      refine ⟨M1, ?_, f1, x1⟩
      show (_ : am_T) = some (.inl (some (.int (av_ret σ (σ (51 + 5 * k)) (σ (50 + 5 * k)) g l))), M1, 0, 0)
      simp only [ae_X12_returns_0, ae_X12_returns_5, ae_X12_returns_12, ae_X12_returns_15, ae_X12_returns_26, ae_X12_returns_33, am_bnx_v, am_bnx_e, am_tl_s, am_tl_n, am_rv_s, am_add_rx, c0, ac_isWithin, hl, am_bi_t, e1, not_true_eq_false, not_false_eq_true, if_true, if_false, am_1n0, or_true, true_or, eq_self, Bool.true_eq_false, Bool.false_eq_true, cond_true, cond_false]
def av_bg (σ : Nat → Int32) (p t g : Int32) (k : Nat) (x : Int32 × Int32) : Int32 × Int32 := if av_ret σ p t g (nI (k + 1)) ≤ x.2 then x else (nI (k + 1), av_ret σ p t g (nI (k + 1)))
def av_bl (σ : Nat → Int32) (p t g : Int32) : Int32 := (am_it (av_bg σ p t g) 20 (0, 0)).1
def aq_best (σ : Nat → Int32) (a g : Int32) : av_A := if am_ltb a (av_np σ) = false then .inr (1, 1) else if av_bl σ (σ (51 + 5 * av_ix a)) (σ (50 + 5 * av_ix a)) g = 0 then .inr (3, 2) else .inl (av_bl σ (σ (51 + 5 * av_ix a)) (σ (50 + 5 * av_ix a)) g)
theorem cq_best {B : Nat} {rm : Nat → Nat} {σ : Nat → Int32} {L : List (Nat → Int32)} {a g : Int32} {M : am_M} (p0 : M.2.1 (am_c 0 12) 0 = am_c B 1 + 1) (p9 : M.2.1 (am_c 0 12) 9 = am_c 273 8 + 1) (hC : av_C M B rm σ L) (hB : B + 24 ≤ 273) (hg : g = 0 ∨ g = 1) (h9 : av_xp M) : ∃ M1, av_qc (am_val iX12_bestLoudness 0 [some (.ref (am_c 0 12)), some (.int a), some (.int g), none, none, none, none] [] M) (aq_best σ a g) M1 ∧ av_fp M M1 ∧ av_xp M1 := by
  have n6 := hC.2.1.1
  unfold aq_best
  cases hp : am_ltb a (av_np σ) with
  | false =>
    rw [if_pos rfl]
    refine ⟨M, ?_, av_fp_0, h9⟩
    show (_ : am_T) = some (.inr 1, M, 1, 6)
    simp only [ae_X12_bestLoudness_0, ae_X12_bestLoudness_5, ae_X12_bestLoudness_20, ae_X12_bestLoudness_28, ae_X12_bestLoudness_37, ae_X12_bestLoudness_44, ae_X12_bestLoudness_50, ae_X12_bestLoudness_54, ae_X12_bestLoudness_65, am_bnx_v, am_bnx_e, am_tl_s, am_tl_n, am_rv_s, am_add_rx, ac_ckPlayer_f p0 hC hp]
  | true =>
    rw [if_neg (by decide)]
    have c0 := ac_ckPlayer_t p0 hC hp
    obtain ⟨k, hk, rfl⟩ := am_lt_n (by omega) hp
    rw [av_ix_n (by omega)]
    have key := av_lpr (H := fun j (X : am_M × (Int32 × Int32)) o => am_val iX12_bestLoudness 13 [some (.ref (am_c 0 12)), some (.int (nI k)), some (.int g), some (.int (X.2.1)), some (.int (X.2.2)), some (.int (nI (j + 1))), o] [] (X.1))
      (P := fun j X => X.2 = am_it (av_bg σ (σ (51 + 5 * k)) (σ (50 + 5 * k)) g) j (0, 0) ∧ av_fp M X.1 ∧ av_xp X.1) (N := 20)
      (Q := fun t => ∃ X o y, t = am_val iX12_bestLoudness 50 [some (.ref (am_c 0 12)), some (.int (nI k)), some (.int g), some (.int (av_bl σ (σ (51 + 5 * k)) (σ (50 + 5 * k)) g)), some (.int y), some (.int (nI 21)), o] [] X ∧ av_fp M X ∧ av_xp X)
      (fun X o hP => by
        obtain ⟨a1, a2, a3⟩ := hP
        obtain ⟨X, x, y⟩ := X
        have a2 : av_fp M X := a2
        have a3 : av_xp X := a3
        refine ⟨X, o, y, ?_, a2, a3⟩
        have a1 : x = av_bl σ (σ (51 + 5 * k)) (σ (50 + 5 * k)) g := congrArg Prod.fst a1
        rw [← a1]
        show am_val iX12_bestLoudness 13 [some (.ref (am_c 0 12)), some (.int (nI k)), some (.int g), some (.int x), some (.int y), some (.int (nI (20 + 1))), o] [] X = _
        rw [ae_X12_bestLoudness_13, if_pos (show (20 : Int32) < nI (20 + 1) by decide), show nI (20 + 1) = nI 21 from rfl])
      (fun j X o hj hP => by
        obtain ⟨a1, a2, a3⟩ := hP
        obtain ⟨X, x, y⟩ := X
        have a2 : av_fp M X := a2
        have a3 : av_xp X := a3
        have q0 : X.2.1 (am_c 0 12) 0 = am_c B 1 + 1 := by rw [show X.2 = M.2 from a2.1]; exact p0
        have q9 : X.2.1 (am_c 0 12) 9 = am_c 273 8 + 1 := by rw [show X.2 = M.2 from a2.1]; exact p9
        have cX := av_C_g hC (av_fp_ag a2 (Or.inl hB))
        obtain ⟨M1, e1, f1, x1⟩ := ac_ret (l := nI (j + 1)) q0 q9 cX hB hk hg
        refine ⟨(M1, av_bg σ (σ (51 + 5 * k)) (σ (50 + 5 * k)) g j (x, y)), some (.int (av_ret σ (σ (51 + 5 * k)) (σ (50 + 5 * k)) g (nI (j + 1)))), ⟨?_, av_fp_t a2 f1, x1⟩, ?_⟩
        · show av_bg σ (σ (51 + 5 * k)) (σ (50 + 5 * k)) g j (x, y) = av_bg σ (σ (51 + 5 * k)) (σ (50 + 5 * k)) g j (am_it (av_bg σ (σ (51 + 5 * k)) (σ (50 + 5 * k)) g) j (0, 0))
          rw [← show (x, y) = am_it (av_bg σ (σ (51 + 5 * k)) (σ (50 + 5 * k)) g) j (0, 0) from a1]
        · show am_val iX12_bestLoudness 13 [some (.ref (am_c 0 12)), some (.int (nI k)), some (.int g), some (.int x), some (.int y), some (.int (nI (j + 1))), o] [] X = _
          rw [ae_X12_bestLoudness_13, if_neg (show ¬ (20 : Int32) < nI (j + 1) from nI_nlt (a := 20) (by omega) (by decide))]
          unfold av_bg
          by_cases d : av_ret σ (σ (51 + 5 * k)) (σ (50 + 5 * k)) g (nI (j + 1)) ≤ y
          · simp only [ae_X12_bestLoudness_0, ae_X12_bestLoudness_5, ae_X12_bestLoudness_20, ae_X12_bestLoudness_28, ae_X12_bestLoudness_37, ae_X12_bestLoudness_44, ae_X12_bestLoudness_50, ae_X12_bestLoudness_54, ae_X12_bestLoudness_65, am_bnx_v, am_bnx_e, am_tl_s, am_tl_n, am_rv_s, am_add_rx, e1, d, not_true_eq_false, not_false_eq_true, if_true, if_false, am_1n0, or_true, true_or, eq_self, Bool.true_eq_false, Bool.false_eq_true, cond_true, cond_false, nI_1]
          · simp only [ae_X12_bestLoudness_0, ae_X12_bestLoudness_5, ae_X12_bestLoudness_20, ae_X12_bestLoudness_28, ae_X12_bestLoudness_37, ae_X12_bestLoudness_44, ae_X12_bestLoudness_50, ae_X12_bestLoudness_54, ae_X12_bestLoudness_65, am_bnx_v, am_bnx_e, am_tl_s, am_tl_n, am_rv_s, am_add_rx, e1, d, not_true_eq_false, not_false_eq_true, if_true, if_false, am_1n0, or_true, true_or, eq_self, Bool.true_eq_false, Bool.false_eq_true, cond_true, cond_false, nI_1])
      20 0 (M, (0, 0)) none (by omega) ⟨rfl, av_fp_0, h9⟩
    obtain ⟨X, o, y, k1, k2, k3⟩ := key
    have k1 : am_val iX12_bestLoudness 13 [some (.ref (am_c 0 12)), some (.int (nI k)), some (.int g), some (.int 0), some (.int 0), some (.int 1), none] [] M = am_val iX12_bestLoudness 50 [some (.ref (am_c 0 12)), some (.int (nI k)), some (.int g), some (.int (av_bl σ (σ (51 + 5 * k)) (σ (50 + 5 * k)) g)), some (.int y), some (.int (nI 21)), o] [] X := k1
    revert k1
    generalize av_bl σ (σ (51 + 5 * k)) (σ (50 + 5 * k)) g = bl
    intro k1
    by_cases c : bl = 0
    · rw [if_pos c]
      rw [c] at k1
      refine ⟨X, ?_, k2, k3⟩
      show (_ : am_T) = some (.inr 3, X, 1, 6)
      simp only [ae_X12_bestLoudness_0, ae_X12_bestLoudness_5, ae_X12_bestLoudness_20, ae_X12_bestLoudness_28, ae_X12_bestLoudness_37, ae_X12_bestLoudness_44, ae_X12_bestLoudness_50, ae_X12_bestLoudness_54, ae_X12_bestLoudness_65, am_bnx_v, am_bnx_e, am_tl_s, am_tl_n, am_rv_s, am_add_rx, c0, k1, not_true_eq_false, not_false_eq_true, if_true, if_false, am_1n0, or_true, true_or, eq_self, Bool.true_eq_false, Bool.false_eq_true, cond_true, cond_false]
    · rw [if_neg c]
      refine ⟨X, ?_, k2, k3⟩
      show (_ : am_T) = some (.inl (some (.int bl)), X, 0, 0)
      simp only [ae_X12_bestLoudness_0, ae_X12_bestLoudness_5, ae_X12_bestLoudness_20, ae_X12_bestLoudness_28, ae_X12_bestLoudness_37, ae_X12_bestLoudness_44, ae_X12_bestLoudness_50, ae_X12_bestLoudness_54, ae_X12_bestLoudness_65, am_bnx_v, am_bnx_e, am_tl_s, am_tl_n, am_rv_s, am_add_rx, c0, k1, c, not_true_eq_false, not_false_eq_true, if_true, if_false, am_1n0, or_true, true_or, eq_self, Bool.true_eq_false, Bool.false_eq_true, cond_true, cond_false]
/-! the second implementation: loudnessBack, returns, bestLoudness -/
theorem av_mk_ok {p t g l : Int32} (hp : ∃ a, a < 16 ∧ p = nI a) (ht : ∃ b, b < 3 ∧ t = nI b) (hg : g = 0 ∨ g = 1) (hl : am_wt l 1 20 = true) : av_sok (av_mk p l t 0 g) := by
  obtain ⟨m, h1, h2, rfl⟩ := av_wt_n (a := 1) (b := 20) (by decide) (by decide) hl
  exact ⟨hp, ⟨m, 0, h1, by omega, rfl, rfl⟩, ht, hg⟩
