/-! the class: a sound sent ahead -/
def av_fp (M X : am_M) : Prop := X.2 = M.2 ∧ ∀ c k j, k < 64 → ¬ (c = 273 ∧ k = 8) → X.1 (am_c c k) j = M.1 (am_c c k) j
theorem av_fp_0 {M : am_M} : av_fp M M := ⟨rfl, fun _ _ _ _ _ => rfl⟩
theorem av_fp_t {M X Y : am_M} (h : av_fp M X) (h' : av_fp X Y) : av_fp M Y := ⟨h'.1.trans h.1, fun c k j hk a => (h'.2 c k j hk a).trans (h.2 c k j hk a)⟩
theorem av_fp_ag {M X : am_M} {lo hi : Nat} (h : av_fp M X) (hd : hi ≤ 273 ∨ 274 ≤ lo) : av_ag M X lo hi := fun c k j hk a b => ⟨h.2 c k j hk (by omega), by rw [h.1]⟩
theorem av_fp_fx {M X : am_M} (h : av_fp M X) : av_fx M X := av_fx_of (by rw [h.1]) (fun hi => av_fp_ag h (Or.inr (by decide)))
theorem av_fp_I {M : am_M} {I : Nat → Nat → Int32} (h : ∀ c j, ¬ c = am_c 273 8 → I c j = M.1 c j) : av_fp M (I, M.2) := ⟨rfl, fun c k j hk a => h _ _ (am_c_ne hk (by decide) a)⟩
theorem av_x_fp {σ : Nat → Int32} {L : List (Nat → Int32)} {H : List av_K} {P : Option av_K} {q : Int32 × Int32 × Int32} {n : Nat} {T : Nat → Int32} {f : Int32} {l : List Int32} {M X : am_M} (hx : av_x M σ L H P q n T f l) (h : av_fp M X) (h9 : av_xp X) : av_x X σ L H P q n T f l := by
  obtain ⟨h0, h1, h2, h3, h4, h5, h6, h8, -⟩ := hx
  exact ⟨av_x0_g h0 (av_fp_ag h (by decide)), av_x1_g h1 (av_fp_ag h (by decide)), av_x2_g h2 (av_fp_ag h (by decide)), av_x3_g h3 (av_fp_ag h (by decide)), av_x4_g h4 (av_fp_ag h (by decide)), av_x5_g h5 (av_fp_ag h (by decide)), av_x6_g h6 (av_fp_ag h (by decide)), av_x8_g h8 (av_fp_ag h (by decide)), h9⟩
theorem av_xp_rs {M : am_M} {s : Nat → Int32} (h : am_rs M.1 273 s) (h4 : s 4 = 0 ∨ s 4 = 1) : av_xp M := by
  unfold av_xp
  rw [h.2.2.2.2]
  exact h4
theorem av_C_hf {B : Nat} {rm : Nat → Nat} {σ : Nat → Int32} {L : List (Nat → Int32)} {M : am_M} (hC : av_C M B rm σ L) : av_at (M.1 (am_c (B + 2) 16)) 0 = av_hf σ ∧ M.1 (am_c B 1) 6 = σ 2 ∧ M.2.1 (am_c (B + 1) 11) 0 = am_c (B + 2) 16 + 1 := by
  obtain ⟨⟨⟨w0, w1, w2, w3, w4, w5, w6, w7, w8, w9⟩, hrm, hpr⟩, ⟨hnp, hs0, hln, hct⟩, hW, hT, hN, hP, hS, hB⟩ := hC
  exact ⟨funext fun p => av_at_c (fun k hk => (hW k hk).1), hN.2.1, w4⟩
theorem ac_pgo {B : Nat} {rm : Nat → Nat} {σ : Nat → Int32} {L : List (Nat → Int32)} {s : Nat → Int32} {M : am_M} (hC : av_C M B rm σ L) (hB : B + 24 ≤ 273) (h : am_rs M.1 273 s) : ∃ M', am_val iX8_goOn 0 [some (.ref (am_c 273 8)), some (.ref (am_c (B + 1) 11)), some (.int (σ 2)), none, none, none] [] M = some (.inl none, M', 0, 0) ∧ am_rs M'.1 273 (av_a1 σ s) ∧ av_fp M M' ∧ av_C M' B rm σ L := by
  obtain ⟨k1, k2, k3⟩ := av_C_hf hC
  obtain ⟨I, e, r, fr⟩ := ac_goOn (w := σ 2) h k3
  rw [k1] at r
  have f := av_fp_I fr
  exact ⟨(I, M.2), e, r, f, av_C_g hC (av_fp_ag f (Or.inl hB))⟩
theorem ac_ptk {B : Nat} {rm : Nat → Nat} {σ : Nat → Int32} {L : List (Nat → Int32)} {k : Nat} {M : am_M} (hC : av_C M B rm σ L) (hB : B + 24 ≤ 273) (hk : k < L.length) : ∃ M', am_val iX8_take 0 [some (.ref (am_c 273 8)), some (.ref (am_c (rm k) 8))] [] M = some (.inl none, M', 0, 0) ∧ am_rs M'.1 273 (av_s L k) ∧ av_fp M M' ∧ av_C M' B rm σ L := by
  have hC0 := hC
  obtain ⟨⟨w, hrm, hpr⟩, ⟨n1, n2, n3, n4⟩, hW, hT, hN, hP, hS, hBo⟩ := hC
  have hr := hpr.1 k (by omega)
  obtain ⟨I, e, r, fr⟩ := ac_stake (i := 273) (i' := rm k) (M := M) (by omega) (hBo _ hr.1 hr.2)
  have f := av_fp_I fr
  obtain ⟨r0, r1, r2, r3, r4⟩ := hS k hk
  exact ⟨(I, M.2), e, ⟨(r 0 (by decide)).trans r0, (r 2 (by decide)).trans r1, (r 3 (by decide)).trans r2, (r 4 (by decide)).trans r3, (r 1 (by decide)).trans r4⟩, f, av_C_g hC0 (av_fp_ag f (Or.inl hB))⟩
theorem ac_sendProbe {B : Nat} {rm : Nat → Nat} {σ : Nat → Int32} {L : List (Nat → Int32)} {k b : Nat} {M : am_M} (p0 : M.2.1 (am_c 0 12) 0 = am_c B 1 + 1) (p9 : M.2.1 (am_c 0 12) 9 = am_c 273 8 + 1) (hC : av_C M B rm σ L) (hB : B + 24 ≤ 273) (hk : k < L.length) (hb : b ≤ 20) : ∃ M', am_val iX12_sendProbe 0 [some (.ref (am_c 0 12)), some (.int (nI k)), some (.int (nI b)), none] [] M = some (.inl none, M', 0, 0) ∧ am_rs M'.1 273 (av_n σ (av_s L k) b) ∧ av_fp M M' := by
  obtain ⟨M1, e1, r1, f1, c1⟩ := ac_ptk hC hB hk
  have w0 := hC.1.1.1
  have w3 := hC.1.1.2.2.2.1
  have l8 := hC.2.1.2.2.1
  have hrk := hC.1.2.1 k (by omega)
  have hin := am_in_n (show k < 8 by omega) (by decide)
  have htn := am_tn (show k < 2147483648 by omega)
  have key := av_lpr (H := fun j (X : am_M) _ => am_val iX12_sendProbe 18 [some (.ref (am_c 0 12)), some (.int (nI k)), some (.int (nI b)), some (.int (nI j))] [] X)
    (P := fun j X => am_rs X.1 273 (av_n σ (av_s L k) j) ∧ av_fp M1 X ∧ av_C X B rm σ L) (N := b)
    (Q := fun t => ∃ X, t = some (.inl none, X, 0, 0) ∧ am_rs X.1 273 (av_n σ (av_s L k) b) ∧ av_fp M1 X)
    (fun X o hP => ⟨X, by
      rw [ae_X12_sendProbe_18, if_pos (av_he (by omega))]
      simp only [ae_X12_sendProbe_0, ae_X12_sendProbe_4, ae_X12_sendProbe_8, ae_X12_sendProbe_11, ae_X12_sendProbe_13, ae_X12_sendProbe_16, ae_X12_sendProbe_23, ae_X12_sendProbe_27, ae_X12_sendProbe_31, ae_X12_sendProbe_34, ae_X12_sendProbe_38, ae_X12_sendProbe_44, ae_X12_sendProbe_50], hP.1, hP.2.1⟩)
    (fun j X o hj hP => by
      obtain ⟨a1, a2, a3⟩ := hP
      obtain ⟨X', e, r, f, c⟩ := ac_pgo a3 hB a1
      have q0 : X.2.1 (am_c 0 12) 0 = am_c B 1 + 1 := by rw [a2.1, f1.1]; exact p0
      have q9 : X.2.1 (am_c 0 12) 9 = am_c 273 8 + 1 := by rw [a2.1, f1.1]; exact p9
      have qw : X.2.1 (am_c B 1) 0 = am_c (B + 1) 11 + 1 := a3.1.1.1
      have q6 := (av_C_hf a3).2.1
      refine ⟨X', none, ⟨r, av_fp_t a2 f, c⟩, ?_⟩
      rw [ae_X12_sendProbe_18, if_neg (av_hl hj (by omega))]
      simp only [ae_X12_sendProbe_0, ae_X12_sendProbe_4, ae_X12_sendProbe_8, ae_X12_sendProbe_11, ae_X12_sendProbe_13, ae_X12_sendProbe_16, ae_X12_sendProbe_23, ae_X12_sendProbe_27, ae_X12_sendProbe_31, ae_X12_sendProbe_34, ae_X12_sendProbe_38, ae_X12_sendProbe_44, ae_X12_sendProbe_50, am_bnx_v, am_bnx_e, am_tl_s, am_tl_n, am_rv_s, am_add_rx, q0, q9, qw, q6, e, nI_1])
    b 0 M1 none (by omega) ⟨r1, av_fp_0, c1⟩
  obtain ⟨X, k1, k2, k3⟩ := key
  have k1 : am_val iX12_sendProbe 18 [some (.ref (am_c 0 12)), some (.int (nI k)), some (.int (nI b)), some (.int (nI 0))] [] M1 = some (.inl none, X, 0, 0) := k1
  rw [nI_0] at k1
  refine ⟨X, ?_, k2, av_fp_t f1 k3⟩
  simp only [ae_X12_sendProbe_0, ae_X12_sendProbe_4, ae_X12_sendProbe_8, ae_X12_sendProbe_11, ae_X12_sendProbe_13, ae_X12_sendProbe_16, ae_X12_sendProbe_23, ae_X12_sendProbe_27, ae_X12_sendProbe_31, ae_X12_sendProbe_34, ae_X12_sendProbe_38, ae_X12_sendProbe_44, ae_X12_sendProbe_50, am_bnx_v, am_bnx_e, am_tl_s, am_tl_n, am_rv_s, am_add_rx, p0, p9, w3, hin, htn, hrk, e1, k1]
/-! where, loudIn -/
def aq_where (σ : Nat → Int32) (L : List (Nat → Int32)) (a b : Int32) : av_A := if am_ltb a L.length = false then .inr (1, 1) else if am_wt b 0 20 = false then .inr (2, 2) else if av_n σ (av_s L (av_ix a)) (av_ix b) 1 = 0 then .inr (3, 3) else .inl (av_n σ (av_s L (av_ix a)) (av_ix b) 0)
def aq_loudIn (σ : Nat → Int32) (L : List (Nat → Int32)) (a b : Int32) : av_A := if am_ltb a L.length = false then .inr (1, 1) else if am_wt b 0 20 = false then .inr (2, 2) else .inl (av_n σ (av_s L (av_ix a)) (av_ix b) 1)
theorem cq_where {B : Nat} {rm : Nat → Nat} {σ : Nat → Int32} {L : List (Nat → Int32)} {bd : Nat} {a b : Int32} {M : am_M} (p0 : M.2.1 (am_c 0 12) 0 = am_c B 1 + 1) (p9 : M.2.1 (am_c 0 12) 9 = am_c 273 8 + 1) (hC : av_C M B rm σ L) (hB : B + 24 ≤ 273) (hok : av_ok bd σ L) (h9 : av_xp M) : ∃ M1, av_qc (am_val iX12_where 0 [some (.ref (am_c 0 12)), some (.int a), some (.int b)] [] M) (aq_where σ L a b) M1 ∧ av_fp M M1 ∧ av_xp M1 := by
  have l8 := hC.2.1.2.2.1
  unfold aq_where
  cases hp : am_ltb a L.length with
  | false =>
    rw [if_pos rfl]
    refine ⟨M, ?_, av_fp_0, h9⟩
    show (_ : am_T) = some (.inr 1, M, 1, 6)
    simp only [ae_X12_where_0, ae_X12_where_5, ae_X12_where_9, ae_X12_where_15, ae_X12_where_19, ae_X12_where_22, ae_X12_where_25, ae_X12_where_35, ae_X12_where_39, am_bnx_v, am_bnx_e, am_tl_s, am_tl_n, am_rv_s, am_add_rx, ac_ckSound_f p0 hC hp]
  | true =>
    rw [if_neg (by decide)]
    have c0 := ac_ckSound_t p0 hC hp
    cases hb : am_wt b 0 20 with
    | false =>
      rw [if_pos rfl]
      refine ⟨M, ?_, av_fp_0, h9⟩
      show (_ : am_T) = some (.inr 2, M, 1, 6)
      simp only [ae_X12_where_0, ae_X12_where_5, ae_X12_where_9, ae_X12_where_15, ae_X12_where_19, ae_X12_where_22, ae_X12_where_25, ae_X12_where_35, ae_X12_where_39, am_bnx_v, am_bnx_e, am_tl_s, am_tl_n, am_rv_s, am_add_rx, c0, ac_ckBeats_f hb]
    | true =>
      rw [if_neg (by decide)]
      obtain ⟨k, hk, rfl⟩ := am_lt_n (by omega) hp
      have cb := ac_ckBeats_t (M := M) hb
      obtain ⟨m, -, hm, rfl⟩ := av_wt_n (a := 0) (b := 20) (by decide) (by decide) hb
      rw [av_ix_n (by omega), av_ix_n (by omega)]
      obtain ⟨M1, e1, r1, f1⟩ := ac_sendProbe p0 p9 hC hB hk hm
      have q9 : M1.2.1 (am_c 0 12) 9 = am_c 273 8 + 1 := by rw [f1.1]; exact p9
      refine ⟨M1, ?_, f1, av_xp_rs r1 (av_n_4 (hok.2.2.2.2.1 k hk).2.2.2 m)⟩
      by_cases hz : av_n σ (av_s L k) m 1 = 0
      · rw [if_pos hz]
        show (_ : am_T) = some (.inr 3, M1, 1, 6)
        simp only [ae_X12_where_0, ae_X12_where_5, ae_X12_where_9, ae_X12_where_15, ae_X12_where_19, ae_X12_where_22, ae_X12_where_25, ae_X12_where_35, ae_X12_where_39, am_bnx_v, am_bnx_e, am_tl_s, am_tl_n, am_rv_s, am_add_rx, c0, cb, e1, q9, ac_isGone, r1.2.1, decide_eq_true hz, am_bi_t, not_true_eq_false, not_false_eq_true, if_true, if_false, am_1n0, or_true, true_or, eq_self, Bool.true_eq_false, Bool.false_eq_true, cond_true, cond_false]
      · rw [if_neg hz]
        show (_ : am_T) = some (.inl (some (.int (av_n σ (av_s L k) m 0))), M1, 0, 0)
        simp only [ae_X12_where_0, ae_X12_where_5, ae_X12_where_9, ae_X12_where_15, ae_X12_where_19, ae_X12_where_22, ae_X12_where_25, ae_X12_where_35, ae_X12_where_39, am_bnx_v, am_bnx_e, am_tl_s, am_tl_n, am_rv_s, am_add_rx, c0, cb, e1, q9, ac_isGone, r1.2.1, decide_eq_false hz, am_bi_f, r1.1, not_true_eq_false, not_false_eq_true, if_true, if_false, am_1n0, or_true, true_or, eq_self, Bool.true_eq_false, Bool.false_eq_true, cond_true, cond_false]
theorem cq_loudIn {B : Nat} {rm : Nat → Nat} {σ : Nat → Int32} {L : List (Nat → Int32)} {bd : Nat} {a b : Int32} {M : am_M} (p0 : M.2.1 (am_c 0 12) 0 = am_c B 1 + 1) (p9 : M.2.1 (am_c 0 12) 9 = am_c 273 8 + 1) (hC : av_C M B rm σ L) (hB : B + 24 ≤ 273) (hok : av_ok bd σ L) (h9 : av_xp M) : ∃ M1, av_qc (am_val iX12_loudIn 0 [some (.ref (am_c 0 12)), some (.int a), some (.int b)] [] M) (aq_loudIn σ L a b) M1 ∧ av_fp M M1 ∧ av_xp M1 := by
  have l8 := hC.2.1.2.2.1
  unfold aq_loudIn
  cases hp : am_ltb a L.length with
  | false =>
    rw [if_pos rfl]
    refine ⟨M, ?_, av_fp_0, h9⟩
    show (_ : am_T) = some (.inr 1, M, 1, 6)
    simp only [ae_X12_loudIn_0, ae_X12_loudIn_5, ae_X12_loudIn_9, ae_X12_loudIn_15, ae_X12_loudIn_19, am_bnx_v, am_bnx_e, am_tl_s, am_tl_n, am_rv_s, am_add_rx, ac_ckSound_f p0 hC hp]
  | true =>
    rw [if_neg (by decide)]
    have c0 := ac_ckSound_t p0 hC hp
    cases hb : am_wt b 0 20 with
    | false =>
      rw [if_pos rfl]
      refine ⟨M, ?_, av_fp_0, h9⟩
      show (_ : am_T) = some (.inr 2, M, 1, 6)
      simp only [ae_X12_loudIn_0, ae_X12_loudIn_5, ae_X12_loudIn_9, ae_X12_loudIn_15, ae_X12_loudIn_19, am_bnx_v, am_bnx_e, am_tl_s, am_tl_n, am_rv_s, am_add_rx, c0, ac_ckBeats_f hb]
    | true =>
      rw [if_neg (by decide)]
      obtain ⟨k, hk, rfl⟩ := am_lt_n (by omega) hp
      have cb := ac_ckBeats_t (M := M) hb
      obtain ⟨m, -, hm, rfl⟩ := av_wt_n (a := 0) (b := 20) (by decide) (by decide) hb
      rw [av_ix_n (by omega), av_ix_n (by omega)]
      obtain ⟨M1, e1, r1, f1⟩ := ac_sendProbe p0 p9 hC hB hk hm
      have q9 : M1.2.1 (am_c 0 12) 9 = am_c 273 8 + 1 := by rw [f1.1]; exact p9
      refine ⟨M1, ?_, f1, av_xp_rs r1 (av_n_4 (hok.2.2.2.2.1 k hk).2.2.2 m)⟩
      show (_ : am_T) = some (.inl (some (.int (av_n σ (av_s L k) m 1))), M1, 0, 0)
      simp only [ae_X12_loudIn_0, ae_X12_loudIn_5, ae_X12_loudIn_9, ae_X12_loudIn_15, ae_X12_loudIn_19, am_bnx_v, am_bnx_e, am_tl_s, am_tl_n, am_rv_s, am_add_rx, c0, cb, e1, q9, r1.2.1]
/-! goneIn -/
/-- behind how many beats it is gone -/
def av_gn (σ s : Nat → Int32) : Nat := (av_fst (fun j => decide (av_n σ s j 1 = 0)) 21).getD 0
theorem av_gn_e {bd : Nat} {σ s : Nat → Int32} {L : List (Nat → Int32)} (hok : av_ok bd σ L) (hs : av_sok s) : 0 < av_gn σ s ∧ av_gn σ s ≤ 20 ∧ (∀ j, j < av_gn σ s → ¬ av_n σ s j 1 = 0 ∧ av_sok (av_n σ s j)) ∧ ∀ j, av_gn σ s ≤ j → av_n σ s j 1 = 0 := by
  obtain ⟨g, g1, g2, g3, g4⟩ := av_dies hok hs
  have h : av_fst (fun j => decide (av_n σ s j 1 = 0)) 21 = some g := av_fst_s (fun i hi => decide_eq_false (g3 i hi).1) (decide_eq_true (g4 g (Nat.le_refl _))) (by omega)
  have he : av_gn σ s = g := by unfold av_gn; rw [h]; rfl
  rw [he]
  exact ⟨g1, g2, g3, g4⟩
def aq_goneIn (σ : Nat → Int32) (L : List (Nat → Int32)) (a : Int32) : av_A := if am_ltb a L.length = false then .inr (1, 1) else .inl (nI (av_gn σ (av_s L (av_ix a))))
theorem cq_goneIn {B : Nat} {rm : Nat → Nat} {σ : Nat → Int32} {L : List (Nat → Int32)} {bd : Nat} {a : Int32} {M : am_M} (p0 : M.2.1 (am_c 0 12) 0 = am_c B 1 + 1) (p9 : M.2.1 (am_c 0 12) 9 = am_c 273 8 + 1) (hC : av_C M B rm σ L) (hB : B + 24 ≤ 273) (hok : av_ok bd σ L) (h9 : av_xp M) : ∃ M1, av_qc (am_val iX12_goneIn 0 [some (.ref (am_c 0 12)), some (.int a), none] [] M) (aq_goneIn σ L a) M1 ∧ av_fp M M1 ∧ av_xp M1 := by
  have l8 := hC.2.1.2.2.1
  unfold aq_goneIn
  cases hp : am_ltb a L.length with
  | false =>
    rw [if_pos rfl]
    refine ⟨M, ?_, av_fp_0, h9⟩
    show (_ : am_T) = some (.inr 1, M, 1, 6)
    simp only [ae_X12_goneIn_0, ae_X12_goneIn_5, ae_X12_goneIn_9, ae_X12_goneIn_13, ae_X12_goneIn_16, ae_X12_goneIn_18, ae_X12_goneIn_21, ae_X12_goneIn_29, ae_X12_goneIn_33, ae_X12_goneIn_36, ae_X12_goneIn_39, ae_X12_goneIn_43, ae_X12_goneIn_47, ae_X12_goneIn_50, ae_X12_goneIn_54, ae_X12_goneIn_60, ae_X12_goneIn_66, am_bnx_v, am_bnx_e, am_tl_s, am_tl_n, am_rv_s, am_add_rx, ac_ckSound_f p0 hC hp]
  | true =>
    rw [if_neg (by decide)]
    have c0 := ac_ckSound_t p0 hC hp
    obtain ⟨k, hk, rfl⟩ := am_lt_n (by omega) hp
    rw [av_ix_n (by omega)]
    have hsk := hok.2.2.2.2.1 k hk
    obtain ⟨g1, g2, g3, g4⟩ := av_gn_e hok hsk
    obtain ⟨M1, e1, r1, f1, c1⟩ := ac_ptk hC hB hk
    have w3 := hC.1.1.2.2.2.1
    have hrk := hC.1.2.1 k (by omega)
    have hin := am_in_n (show k < 8 by omega) (by decide)
    have htn := am_tn (show k < 2147483648 by omega)
    have key := av_lpr (H := fun j (X : am_M) _ => am_val iX12_goneIn 23 [some (.ref (am_c 0 12)), some (.int (nI k)), some (.int (nI j))] [] X)
      (P := fun j X => am_rs X.1 273 (av_n σ (av_s L k) j) ∧ av_fp M1 X ∧ av_C X B rm σ L) (N := av_gn σ (av_s L k))
      (Q := fun t => ∃ X, t = some (.inl (some (.int (nI (av_gn σ (av_s L k))))), X, 0, 0) ∧ am_rs X.1 273 (av_n σ (av_s L k) (av_gn σ (av_s L k))) ∧ av_fp M1 X)
      (fun X o hP => by
        obtain ⟨a1, a2, a3⟩ := hP
        refine ⟨X, ?_, a1, a2⟩
        have q9 : X.2.1 (am_c 0 12) 9 = am_c 273 8 + 1 := by rw [a2.1, f1.1]; exact p9
        have hz := g4 _ (Nat.le_refl _)
        rw [ae_X12_goneIn_23]
        by_cases h20 : (20 : Int32) ≤ nI (av_gn σ (av_s L k))
        · rw [if_pos h20]
          simp only [ae_X12_goneIn_0, ae_X12_goneIn_5, ae_X12_goneIn_9, ae_X12_goneIn_13, ae_X12_goneIn_16, ae_X12_goneIn_18, ae_X12_goneIn_21, ae_X12_goneIn_29, ae_X12_goneIn_33, ae_X12_goneIn_36, ae_X12_goneIn_39, ae_X12_goneIn_43, ae_X12_goneIn_47, ae_X12_goneIn_50, ae_X12_goneIn_54, ae_X12_goneIn_60, ae_X12_goneIn_66]
        · rw [if_neg h20]
          simp only [ae_X12_goneIn_0, ae_X12_goneIn_5, ae_X12_goneIn_9, ae_X12_goneIn_13, ae_X12_goneIn_16, ae_X12_goneIn_18, ae_X12_goneIn_21, ae_X12_goneIn_29, ae_X12_goneIn_33, ae_X12_goneIn_36, ae_X12_goneIn_39, ae_X12_goneIn_43, ae_X12_goneIn_47, ae_X12_goneIn_50, ae_X12_goneIn_54, ae_X12_goneIn_60, ae_X12_goneIn_66, am_bnx_v, am_bnx_e, am_tl_s, am_tl_n, am_rv_s, am_add_rx, q9, ac_isGone, a1.2.1, decide_eq_true hz, am_bi_t, not_true_eq_false, not_false_eq_true, if_true, if_false, am_1n0, or_true, true_or, eq_self, Bool.true_eq_false, Bool.false_eq_true, cond_true, cond_false])
      (fun j X o hj hP => by
        obtain ⟨a1, a2, a3⟩ := hP
        obtain ⟨X', e, r, f, c⟩ := ac_pgo a3 hB a1
        have q0 : X.2.1 (am_c 0 12) 0 = am_c B 1 + 1 := by rw [a2.1, f1.1]; exact p0
        have q9 : X.2.1 (am_c 0 12) 9 = am_c 273 8 + 1 := by rw [a2.1, f1.1]; exact p9
        have qw : X.2.1 (am_c B 1) 0 = am_c (B + 1) 11 + 1 := a3.1.1.1
        have q6 := (av_C_hf a3).2.1
        have hz := (g3 j hj).1
        refine ⟨X', none, ⟨r, av_fp_t a2 f, c⟩, ?_⟩
        rw [ae_X12_goneIn_23, if_neg (show ¬ (20 : Int32) ≤ nI j from nI_ge (b := 20) (by omega) (by decide))]
        simp only [ae_X12_goneIn_0, ae_X12_goneIn_5, ae_X12_goneIn_9, ae_X12_goneIn_13, ae_X12_goneIn_16, ae_X12_goneIn_18, ae_X12_goneIn_21, ae_X12_goneIn_29, ae_X12_goneIn_33, ae_X12_goneIn_36, ae_X12_goneIn_39, ae_X12_goneIn_43, ae_X12_goneIn_47, ae_X12_goneIn_50, ae_X12_goneIn_54, ae_X12_goneIn_60, ae_X12_goneIn_66, am_bnx_v, am_bnx_e, am_tl_s, am_tl_n, am_rv_s, am_add_rx, q0, q9, qw, q6, e, ac_isGone, a1.2.1, decide_eq_false hz, am_bi_f, not_true_eq_false, not_false_eq_true, if_true, if_false, am_1n0, or_true, true_or, eq_self, Bool.true_eq_false, Bool.false_eq_true, cond_true, cond_false, nI_1])
      (av_gn σ (av_s L k)) 0 M1 none (by omega) ⟨r1, av_fp_0, c1⟩
    obtain ⟨X, k1, k2, k3⟩ := key
    have k1 : am_val iX12_goneIn 23 [some (.ref (am_c 0 12)), some (.int (nI k)), some (.int (nI 0))] [] M1 = some (.inl (some (.int (nI (av_gn σ (av_s L k))))), X, 0, 0) := k1
    rw [nI_0] at k1
    refine ⟨X, ?_, av_fp_t f1 k3, av_xp_rs k2 (av_n_4 hsk.2.2.2 _)⟩
    show (_ : am_T) = some (.inl (some (.int (nI (av_gn σ (av_s L k))))), X, 0, 0)
    simp only [ae_X12_goneIn_0, ae_X12_goneIn_5, ae_X12_goneIn_9, ae_X12_goneIn_13, ae_X12_goneIn_16, ae_X12_goneIn_18, ae_X12_goneIn_21, ae_X12_goneIn_29, ae_X12_goneIn_33, ae_X12_goneIn_36, ae_X12_goneIn_39, ae_X12_goneIn_43, ae_X12_goneIn_47, ae_X12_goneIn_50, ae_X12_goneIn_54, ae_X12_goneIn_60, ae_X12_goneIn_66, am_bnx_v, am_bnx_e, am_tl_s, am_tl_n, am_rv_s, am_add_rx, c0, p0, p9, w3, hin, htn, hrk, e1, k1]
/-! sendProbeTo, loudnessOfReturn -/
theorem ac_sendTo {B : Nat} {rm : Nat → Nat} {σ : Nat → Int32} {L : List (Nat → Int32)} {s : Nat → Int32} {p : Int32} {M : am_M} (p0 : M.2.1 (am_c 0 12) 0 = am_c B 1 + 1) (p9 : M.2.1 (am_c 0 12) 9 = am_c 273 8 + 1) (hC : av_C M B rm σ L) (hB : B + 24 ≤ 273) (hs : am_rs M.1 273 s) : ∃ M' j, am_val iX12_sendProbeTo 0 [some (.ref (am_c 0 12)), some (.int p), none] [] M = some (.inl (some (.int (av_bi (av_et σ s p)))), M', 0, 0) ∧ am_rs M'.1 273 (av_n σ s j) ∧ (∀ i, av_et σ s p = some i → i = j) ∧ av_fp M M' := by
  have key : ∀ (m k : Nat) (X : am_M), k + m = 21 → (∀ i, i < k → av_ef σ s p i = false) → am_rs X.1 273 (av_n σ s k) → av_fp M X → av_C X B rm σ L → ∃ M' j, am_val iX12_sendProbeTo 2 [some (.ref (am_c 0 12)), some (.int p), some (.int (nI k))] [] X = some (.inl (some (.int (av_bi (av_et σ s p)))), M', 0, 0) ∧ am_rs M'.1 273 (av_n σ s j) ∧ (∀ i, av_et σ s p = some i → i = j) ∧ av_fp M M' := by
    intro m
    induction m with
    | zero =>
      intro k X hk hf a1 a2 a3
      obtain rfl : k = 21 := by omega
      have he : av_et σ s p = none := av_fst_n hf
      refine ⟨X, 21, ?_, a1, fun i hi => (by rw [he] at hi; cases hi), a2⟩
      rw [he, ae_X12_sendProbeTo_2, if_pos (show (20 : Int32) < nI 21 by decide)]
      simp only [ae_X12_sendProbeTo_0, ae_X12_sendProbeTo_8, ae_X12_sendProbeTo_12, ae_X12_sendProbeTo_16, ae_X12_sendProbeTo_19, ae_X12_sendProbeTo_21, ae_X12_sendProbeTo_25, ae_X12_sendProbeTo_29, ae_X12_sendProbeTo_32, ae_X12_sendProbeTo_36, ae_X12_sendProbeTo_42, ae_X12_sendProbeTo_48, av_bi_n]
    | succ m ih =>
      intro k X hk hf a1 a2 a3
      have q0 : X.2.1 (am_c 0 12) 0 = am_c B 1 + 1 := by rw [a2.1]; exact p0
      have q9 : X.2.1 (am_c 0 12) 9 = am_c 273 8 + 1 := by rw [a2.1]; exact p9
      have qw : X.2.1 (am_c B 1) 0 = am_c (B + 1) 11 + 1 := a3.1.1.1
      have q6 := (av_C_hf a3).2.1
      have hk20 : ¬ (20 : Int32) < nI k := nI_nlt (a := 20) (by omega) (by decide)
      have hec := ac_isEchoAt (p := p) a1
      cases hx : av_ef σ s p k with
      | true =>
        have he : av_et σ s p = some k := av_fst_s hf hx (by omega)
        have hec : am_val iX8_isEchoAt 0 [some (.ref (am_c 273 8)), some (.int p)] [] X = some (.inl (some (.int 1)), X, 0, 0) := by rw [hec, show av_ec (av_n σ s k) p = true from hx]; rfl
        refine ⟨X, k, ?_, a1, fun i hi => (by rw [he] at hi; exact (Option.some.inj hi).symm), a2⟩
        rw [he, ae_X12_sendProbeTo_2, if_neg hk20]
        simp only [ae_X12_sendProbeTo_0, ae_X12_sendProbeTo_8, ae_X12_sendProbeTo_12, ae_X12_sendProbeTo_16, ae_X12_sendProbeTo_19, ae_X12_sendProbeTo_21, ae_X12_sendProbeTo_25, ae_X12_sendProbeTo_29, ae_X12_sendProbeTo_32, ae_X12_sendProbeTo_36, ae_X12_sendProbeTo_42, ae_X12_sendProbeTo_48, am_bnx_v, am_bnx_e, am_tl_s, am_tl_n, am_rv_s, am_add_rx, q9, hec, not_true_eq_false, not_false_eq_true, if_true, if_false, am_1n0, or_true, true_or, eq_self, Bool.true_eq_false, Bool.false_eq_true, cond_true, cond_false, av_bi_s]
      | false =>
        have hec : am_val iX8_isEchoAt 0 [some (.ref (am_c 273 8)), some (.int p)] [] X = some (.inl (some (.int 0)), X, 0, 0) := by rw [hec, show av_ec (av_n σ s k) p = false from hx]; rfl
        obtain ⟨X', e, r, f, c⟩ := ac_pgo a3 hB a1
        obtain ⟨M', j, h1, h2, h3, h4⟩ := ih (k + 1) X' (by omega) (fun i hi => by
          by_cases hik : i = k
          · rw [hik]; exact hx
          · exact hf i (by omega)) r (av_fp_t a2 f) c
        refine ⟨M', j, ?_, h2, h3, h4⟩
        rw [ae_X12_sendProbeTo_2, if_neg hk20]
        simp only [ae_X12_sendProbeTo_0, ae_X12_sendProbeTo_8, ae_X12_sendProbeTo_12, ae_X12_sendProbeTo_16, ae_X12_sendProbeTo_19, ae_X12_sendProbeTo_21, ae_X12_sendProbeTo_25, ae_X12_sendProbeTo_29, ae_X12_sendProbeTo_32, ae_X12_sendProbeTo_36, ae_X12_sendProbeTo_42, ae_X12_sendProbeTo_48, am_bnx_v, am_bnx_e, am_tl_s, am_tl_n, am_rv_s, am_add_rx, q0, q9, qw, q6, hec, e, not_true_eq_false, not_false_eq_true, if_true, if_false, am_1n0, or_true, true_or, eq_self, Bool.true_eq_false, Bool.false_eq_true, cond_true, cond_false, nI_1, h1]
  obtain ⟨M', j, h1, h2, h3, h4⟩ := key 21 0 M (by omega) (fun i hi => absurd hi (Nat.not_lt_zero _)) hs av_fp_0 hC
  rw [nI_0] at h1
  exact ⟨M', j, by simp only [ae_X12_sendProbeTo_0, ae_X12_sendProbeTo_8, ae_X12_sendProbeTo_12, ae_X12_sendProbeTo_16, ae_X12_sendProbeTo_19, ae_X12_sendProbeTo_21, ae_X12_sendProbeTo_25, ae_X12_sendProbeTo_29, ae_X12_sendProbeTo_32, ae_X12_sendProbeTo_36, ae_X12_sendProbeTo_42, ae_X12_sendProbeTo_48, h1], h2, h3, h4⟩
/-- how loud a shout is that returns -/
def av_ret (σ : Nat → Int32) (p t g l : Int32) : Int32 := match av_et σ (av_mk p l t 0 g) p with
  | none => 0
  | some j => av_n σ (av_mk p l t 0 g) j 1
theorem ac_ret {B : Nat} {rm : Nat → Nat} {σ : Nat → Int32} {L : List (Nat → Int32)} {k : Nat} {g l : Int32} {M : am_M} (p0 : M.2.1 (am_c 0 12) 0 = am_c B 1 + 1) (p9 : M.2.1 (am_c 0 12) 9 = am_c 273 8 + 1) (hC : av_C M B rm σ L) (hB : B + 24 ≤ 273) (hk : k < av_np σ) (hg : g = 0 ∨ g = 1) : ∃ M', am_val iX12_loudnessOfReturn 0 [some (.ref (am_c 0 12)), some (.int (nI k)), some (.int g), some (.int l), none] [] M = some (.inl (some (.int (av_ret σ (σ (51 + 5 * k)) (σ (50 + 5 * k)) g l))), M', 0, 0) ∧ av_fp M M' ∧ av_xp M' := by
  have n6 := hC.2.1.1
  have hin := am_in_n (show k < 6 by omega) (by decide)
  have htn := am_tn (show k < 2147483648 by omega)
  have w2 := hC.1.1.2.2.1
  have w9 := hC.1.1.2.2.2.2.2.2.2.2.2 k (by omega)
  have e0 : M.1 (am_c (B + 10 + k) 6) 0 = σ (50 + 5 * k) := hC.2.2.2.2.2.1 k (by omega) 0 (by decide)
  have e1 : M.1 (am_c (B + 10 + k) 6) 1 = σ (51 + 5 * k) := (hC.2.2.2.2.2.1 k (by omega) 1 (by decide)).trans (congrArg σ (by omega))
  obtain ⟨I, es, rs, fr⟩ := ac_sstart2 (i := 273) (p := σ (51 + 5 * k)) (l := l) (b := σ (50 + 5 * k)) (M := M) hg
  have f1 := av_fp_I fr
  obtain ⟨M1, hM1⟩ : ∃ M1 : am_M, M1 = (I, M.2) := ⟨_, rfl⟩
  rw [← hM1] at es f1
  have rs : am_rs M1.1 273 (av_mk (σ (51 + 5 * k)) l (σ (50 + 5 * k)) 0 g) := by rw [hM1]; exact rs
  have c1 := av_C_g hC (av_fp_ag f1 (Or.inl hB))
  have q0 : M1.2.1 (am_c 0 12) 0 = am_c B 1 + 1 := by rw [f1.1]; exact p0
  have q9 : M1.2.1 (am_c 0 12) 9 = am_c 273 8 + 1 := by rw [f1.1]; exact p9
  have q1 : M1.1 (am_c (B + 10 + k) 6) 1 = σ (51 + 5 * k) := (f1.2 _ _ _ (by decide) (by omega)).trans e1
  obtain ⟨M2, j, h1, h2, h3, h4⟩ := ac_sendTo (p := σ (51 + 5 * k)) q0 q9 c1 hB rs
  have r9 : M2.2.1 (am_c 0 12) 9 = am_c 273 8 + 1 := by rw [h4.1]; exact q9
  refine ⟨M2, ?_, av_fp_t f1 h4, av_xp_rs h2 (av_n_4 hg j)⟩
  unfold av_ret
  rcases av_fst_c (f := av_ef σ (av_mk (σ (51 + 5 * k)) l (σ (50 + 5 * k)) 0 g) (σ (51 + 5 * k))) 21 with ⟨he, -⟩ | ⟨i, hi, he, -, -⟩
  · have he : av_et σ (av_mk (σ (51 + 5 * k)) l (σ (50 + 5 * k)) 0 g) (σ (51 + 5 * k)) = none := he
    rw [he] at h1 ⊢
    simp only [ae_X12_loudnessOfReturn_0, ae_X12_loudnessOfReturn_4, ae_X12_loudnessOfReturn_7, ae_X12_loudnessOfReturn_9, ae_X12_loudnessOfReturn_15, ae_X12_loudnessOfReturn_30, ae_X12_loudnessOfReturn_39, ae_X12_loudnessOfReturn_43, ae_X12_loudnessOfReturn_47, ae_X12_loudnessOfReturn_51, am_bnx_v, am_bnx_e, am_tl_s, am_tl_n, am_rv_s, am_add_rx, p0, w2, hin, htn, w9, p9, e0, e1, es, q1, h1, av_bi_n, not_true_eq_false, not_false_eq_true, if_true, if_false, am_1n0, or_true, true_or, eq_self, Bool.true_eq_false, Bool.false_eq_true, cond_true, cond_false]
  · have he : av_et σ (av_mk (σ (51 + 5 * k)) l (σ (50 + 5 * k)) 0 g) (σ (51 + 5 * k)) = some i := he
    have hij := h3 i he
    rw [he] at h1 ⊢
    subst hij
    have hne := av_bi_nI (j := i) (by omega)
    simp only [ae_X12_loudnessOfReturn_0, ae_X12_loudnessOfReturn_4, ae_X12_loudnessOfReturn_7, ae_X12_loudnessOfReturn_9, ae_X12_loudnessOfReturn_15, ae_X12_loudnessOfReturn_30, ae_X12_loudnessOfReturn_39, ae_X12_loudnessOfReturn_43, ae_X12_loudnessOfReturn_47, ae_X12_loudnessOfReturn_51, am_bnx_v, am_bnx_e, am_tl_s, am_tl_n, am_rv_s, am_add_rx, p0, w2, hin, htn, w9, p9, e0, e1, es, q1, h1, av_bi_s, hne, not_true_eq_false, not_false_eq_true, if_true, if_false, am_1n0, or_true, true_or, eq_self, Bool.true_eq_false, Bool.false_eq_true, cond_true, cond_false, r9, h2.2.1]
