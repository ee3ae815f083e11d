/-! mean loudness, the share of echoes -/
theorem fp_d : ∀ c, c < 8 → ∀ s, s < 161 → (FP.ddiv (FP.i2d (nI s)) (FP.i2d (nI (c + 1))) &&& 0x7fffffffffffffff ≤ 0x7ff0000000000000) ∧ (Op.cmpValue (FP.dcmp (FP.ddiv (FP.i2d (nI s)) (FP.i2d (nI (c + 1)))) (FP.ddiv (FP.i2d (nI s)) (FP.i2d (nI (c + 1))))) .l) = 0 := by decide +kernel
theorem fp_f : ∀ c, c < 8 → ∀ s, s < 9 → (FP.fdiv (FP.i2f (nI s)) (FP.i2f (nI (c + 1))) &&& 0x7fffffff ≤ 0x7f800000) ∧ (FP.f2d (FP.fdiv (FP.i2f (nI s)) (FP.i2f (nI (c + 1)))) &&& 0x7fffffffffffffff ≤ 0x7ff0000000000000) ∧ (Op.cmpValue (FP.dcmp (FP.f2d (FP.fdiv (FP.i2f (nI s)) (FP.i2f (nI (c + 1))))) (FP.f2d (FP.fdiv (FP.i2f (nI s)) (FP.i2f (nI (c + 1)))))) .l) = 0 := by decide +kernel
theorem tl_sum {g : Nat → Int32} : ∀ n, (∀ k, k < n → ∃ v, v ≤ 20 ∧ g k = nI v) → ∃ s, s ≤ 20 * n ∧ av_sum g n = nI s := by
  intro n
  induction n with
  | zero => intro _; exact ⟨0, Nat.le_refl _, rfl⟩
  | succ n ih =>
    intro h
    obtain ⟨s, hs, e⟩ := ih (fun k hk => h k (by omega))
    obtain ⟨v, hv, ev⟩ := h n (Nat.lt_succ_self _)
    refine ⟨s + v, by omega, ?_⟩
    show av_sum g n + g n = nI (s + v)
    rw [e, ev, nI_add]
theorem tl_cnt {g : Nat → Bool} : ∀ n, ∃ s, s ≤ n ∧ am_cnt g n = nI s := by
  intro n
  induction n with
  | zero => exact ⟨0, Nat.le_refl _, rfl⟩
  | succ n ih =>
    obtain ⟨s, hs, e⟩ := ih
    have h : am_cnt g (n + 1) = am_cg g n (am_cnt g n) := rfl
    cases hg : g n with
    | true => exact ⟨s + 1, by omega, by rw [h, am_cg_t hg, e, nI_1]⟩
    | false => exact ⟨s, by omega, by rw [h, am_cg_f hg, e]⟩
def af_d (L : List (Nat → Int32)) : UInt64 := FP.ddiv (FP.i2d (av_sum (fun k => av_s L k 1) L.length)) (FP.i2d (nI L.length))
def af_f (L : List (Nat → Int32)) : UInt32 := FP.fdiv (FP.i2f (av_cne L)) (FP.i2f (nI L.length))
theorem af_d_ok {bd : Nat} {σ : Nat → Int32} {L : List (Nat → Int32)} (hok : av_ok bd σ L) (h0 : ¬ L.length = 0) : (FP.ddiv (FP.i2d (av_sum (fun k => av_s L k 1) L.length)) (FP.i2d (nI L.length)) &&& 0x7fffffffffffffff ≤ 0x7ff0000000000000) ∧ (Op.cmpValue (FP.dcmp (af_d L) (af_d L)) .l) = 0 := by
  have hl8 := hok.2.2.2.2.2.2.2
  obtain ⟨s, hs, e⟩ := tl_sum (g := fun k => av_s L k 1) L.length (fun k hk => by
    obtain ⟨-, ⟨v, t, hv, hvt, s1, -⟩, -⟩ := hok.2.2.2.2.1 k hk
    exact ⟨v, by omega, s1⟩)
  have h := fp_d (L.length - 1) (by omega) s (by omega)
  rw [show L.length - 1 + 1 = L.length by omega] at h
  unfold af_d
  rw [e]
  exact h
theorem af_f_ok {bd : Nat} {σ : Nat → Int32} {L : List (Nat → Int32)} (hok : av_ok bd σ L) (h0 : ¬ L.length = 0) : (FP.fdiv (FP.i2f (av_cne L)) (FP.i2f (nI L.length)) &&& 0x7fffffff ≤ 0x7f800000) ∧ (FP.f2d (af_f L) &&& 0x7fffffffffffffff ≤ 0x7ff0000000000000) ∧ (Op.cmpValue (FP.dcmp (FP.f2d (af_f L)) (FP.f2d (af_f L))) .l) = 0 := by
  have hl8 := hok.2.2.2.2.2.2.2
  obtain ⟨s, hs, e⟩ := tl_cnt (g := fun k => decide (0 < av_s L k 3)) L.length
  have h := fp_f (L.length - 1) (by omega) s (by omega)
  rw [show L.length - 1 + 1 = L.length by omega] at h
  unfold af_f av_cne
  rw [e]
  exact h
theorem cq_mean {bd : Nat} {rm : Nat → Nat} {σ : Nat → Int32} {L : List (Nat → Int32)} {M : am_M} (p0 : M.2.1 (am_c 0 12) 0 = am_c 1 1 + 1) (hC : av_C M 1 rm σ L) (hok : av_ok bd σ L) : (L.length = 0 → am_val iX12_meanLoudness 0 [some (.ref (am_c 0 12))] [] M = some (.inr 5, M, 1, 6)) ∧ (¬ L.length = 0 → am_val iX12_meanLoudness 0 [some (.ref (am_c 0 12))] [] M = some (.inl (some (.double (af_d L))), M, 0, 0)) := by
  have n5 := (av_C_ns hC).1
  have hl8 := hok.2.2.2.2.2.2.2
  refine ⟨fun h0 => ?_, fun h0 => ?_⟩
  · have e : nI L.length = 0 := by rw [h0]; rfl
    simp only [ae_X12_meanLoudness_0, ae_X12_meanLoudness_4, ae_X12_meanLoudness_10, ae_X12_meanLoudness_21, ae_X12_meanLoudness_25, ae_X12_meanLoudness_28, ae_X12_meanLoudness_33, am_bnx_v, am_bnx_e, am_tl_s, am_tl_n, am_rv_s, am_add_rx, p0, n5, e, not_true_eq_false, not_false_eq_true, if_true, if_false, am_1n0, or_true, true_or, eq_self, Bool.true_eq_false, Bool.false_eq_true, cond_true, cond_false]
  · have e : ¬ nI L.length = 0 := nI_ne0 (by omega) (by omega)
    have hf := (af_d_ok hok h0).1
    simp only [ae_X12_meanLoudness_0, ae_X12_meanLoudness_4, ae_X12_meanLoudness_10, ae_X12_meanLoudness_21, ae_X12_meanLoudness_25, ae_X12_meanLoudness_28, ae_X12_meanLoudness_33, am_bnx_v, am_bnx_e, am_tl_s, am_tl_n, am_rv_s, am_add_rx, p0, n5, e, not_true_eq_false, not_false_eq_true, if_true, if_false, am_1n0, or_true, true_or, eq_self, Bool.true_eq_false, Bool.false_eq_true, cond_true, cond_false, ac_sumLoudness hC, hf]
    rfl
theorem cq_share {bd : Nat} {rm : Nat → Nat} {σ : Nat → Int32} {L : List (Nat → Int32)} {M : am_M} (p0 : M.2.1 (am_c 0 12) 0 = am_c 1 1 + 1) (hC : av_C M 1 rm σ L) (hok : av_ok bd σ L) : (L.length = 0 → am_val iX12_echoShare 0 [some (.ref (am_c 0 12))] [] M = some (.inr 5, M, 1, 6)) ∧ (¬ L.length = 0 → am_val iX12_echoShare 0 [some (.ref (am_c 0 12))] [] M = some (.inl (some (.float (af_f L))), M, 0, 0)) := by
  have n5 := (av_C_ns hC).1
  have hl8 := hok.2.2.2.2.2.2.2
  have ec : am_val iX1_countEchoes 0 [some (.ref (am_c 1 1)), none, none] [] M = some (.inl (some (.int (av_cne L))), M, 0, 0) := ac_countEchoes hC
  refine ⟨fun h0 => ?_, fun h0 => ?_⟩
  · have e : nI L.length = 0 := by rw [h0]; rfl
    simp only [ae_X12_echoShare_0, ae_X12_echoShare_4, ae_X12_echoShare_10, ae_X12_echoShare_21, ae_X12_echoShare_25, ae_X12_echoShare_28, ae_X12_echoShare_33, am_bnx_v, am_bnx_e, am_tl_s, am_tl_n, am_rv_s, am_add_rx, p0, n5, e, not_true_eq_false, not_false_eq_true, if_true, if_false, am_1n0, or_true, true_or, eq_self, Bool.true_eq_false, Bool.false_eq_true, cond_true, cond_false]
  · have e : ¬ nI L.length = 0 := nI_ne0 (by omega) (by omega)
    have hf := (af_f_ok hok h0).1
    simp only [ae_X12_echoShare_0, ae_X12_echoShare_4, ae_X12_echoShare_10, ae_X12_echoShare_21, ae_X12_echoShare_25, ae_X12_echoShare_28, ae_X12_echoShare_33, am_bnx_v, am_bnx_e, am_tl_s, am_tl_n, am_rv_s, am_add_rx, p0, n5, e, not_true_eq_false, not_false_eq_true, if_true, if_false, am_1n0, or_true, true_or, eq_self, Bool.true_eq_false, Bool.false_eq_true, cond_true, cond_false, ec, hf]
    rfl
theorem mq_mean {σ : Nat → Int32} {L : List (Nat → Int32)} {H : List av_K} {P : Option av_K} {q : Int32 × Int32 × Int32} {n : Nat} {T : Nat → Int32} {f : Int32} {l : List Int32} {D bd : Nat} {M : am_M} (hy : av_y D M σ L H P q n T f l) (hok : av_ok bd σ L) : (L.length = 0 → ∃ M' v, am_val iX13_meanLoudness 0 [some (.ref (am_c D 13)), none, none] [] M = some (.inl (some (.double v)), M', 0, 0) ∧ M'.1 (am_c D 13) 0 = 1 ∧ av_ys D M M') ∧ (¬ L.length = 0 → ∃ M', am_val iX13_meanLoudness 0 [some (.ref (am_c D 13)), none, none] [] M = some (.inl (some (.double (af_d L))), M', 0, 0) ∧ M'.1 (am_c D 13) 0 = 0 ∧ av_ys D M M') := by
  have hl8 := hok.2.2.2.2.2.2.2
  have m1 : M.2.1 (am_c D 13) 1 = am_c (D + 1) 18 + 1 := hy.1.1.1
  have n5 := hy.1.2.2.1
  refine ⟨fun h0 => ?_, fun h0 => ?_⟩
  · have e : nI L.length = 0 := by rw [h0]; rfl
    refine ⟨av_i M (am_c D 13) 0 1, FP.dconst0, ?_, av_jS, av_ys_i (Or.inl rfl)⟩
    simp only [ae_X13_meanLoudness_0, ae_X13_meanLoudness_5, ae_X13_meanLoudness_10, ae_X13_meanLoudness_14, ae_X13_meanLoudness_25, ae_X13_meanLoudness_27, ae_X13_meanLoudness_36, ae_X13_meanLoudness_41, ae_X13_meanLoudness_48, ae_X13_meanLoudness_56, ae_X13_meanLoudness_62, am_bnx_v, am_bnx_e, am_tl_s, am_tl_n, am_rv_s, am_add_rx, m1, n5, e, not_true_eq_false, not_false_eq_true, if_true, if_false, am_1n0, or_true, true_or, eq_self, Bool.true_eq_false, Bool.false_eq_true, cond_true, cond_false, av_jS, am_l1]
  · have e : ¬ nI L.length = 0 := nI_ne0 (by omega) (by omega)
    obtain ⟨⟨hm, hr⟩, hs, -⟩ := av_yq (x := 0) hy
    have hf : FP.ddiv (FP.i2d (am_it (am_sg (fun k => av_s L k 1)) L.length 0)) (FP.i2d (nI L.length)) &&& 0x7fffffffffffffff ≤ 0x7ff0000000000000 := (af_d_ok hok h0).1
    have hl := av_lp (H := fun k x _ => am_val iX13_meanLoudness 31 [some (.ref (am_c D 13)), some (.int x), some (.int (nI k))] [] (av_i M (am_c D 13) 0 0)) (g := am_sg (fun k => av_s L k 1)) (N := L.length) (r := fun x => am_val iX13_meanLoudness 56 [some (.ref (am_c D 13)), some (.int x), some (.int (nI L.length))] [] (av_i M (am_c D 13) 0 0)) 0 none
      (fun x o => by
        rw [ae_X13_meanLoudness_31, hm.1, am_rv_s, ae_X13_meanLoudness_36, hr.2.1, if_pos (Int32.le_refl _)])
      (fun k x o hk => by
        refine ⟨none, ?_⟩
        have e1 := mc_s1 (k := k) hm (by omega)
        rw [(av_mr_s hr hk).2.1] at e1
        rw [ae_X13_meanLoudness_31, hm.1, am_rv_s]
        simp only [ae_X13_meanLoudness_0, ae_X13_meanLoudness_5, ae_X13_meanLoudness_10, ae_X13_meanLoudness_14, ae_X13_meanLoudness_25, ae_X13_meanLoudness_27, ae_X13_meanLoudness_36, ae_X13_meanLoudness_41, ae_X13_meanLoudness_48, ae_X13_meanLoudness_56, ae_X13_meanLoudness_62, am_bnx_v, am_bnx_e, am_tl_s, am_tl_n, am_rv_s, am_add_rx, hr.2.1, av_hl hk (show L.length < 2147483648 by omega), e1, not_true_eq_false, not_false_eq_true, if_true, if_false, am_1n0, or_true, true_or, eq_self, Bool.true_eq_false, Bool.false_eq_true, cond_true, cond_false, nI_1]
        rfl)
    simp only [nI_0] at hl
    refine ⟨av_i M (am_c D 13) 0 0, ?_, av_jS, hs⟩
    have r1 := hr.2.1
    simp only [ae_X13_meanLoudness_0, ae_X13_meanLoudness_5, ae_X13_meanLoudness_10, ae_X13_meanLoudness_14, ae_X13_meanLoudness_25, ae_X13_meanLoudness_27, ae_X13_meanLoudness_36, ae_X13_meanLoudness_41, ae_X13_meanLoudness_48, ae_X13_meanLoudness_56, ae_X13_meanLoudness_62, am_bnx_v, am_bnx_e, am_tl_s, am_tl_n, am_rv_s, am_add_rx, m1, n5, e, not_true_eq_false, not_false_eq_true, if_true, if_false, am_1n0, or_true, true_or, eq_self, Bool.true_eq_false, Bool.false_eq_true, cond_true, cond_false, av_jS, am_l0, hl, av_i2, r1, hf]
    rfl
theorem mq_share {σ : Nat → Int32} {L : List (Nat → Int32)} {H : List av_K} {P : Option av_K} {q : Int32 × Int32 × Int32} {n : Nat} {T : Nat → Int32} {f : Int32} {l : List Int32} {D bd : Nat} {M : am_M} (hy : av_y D M σ L H P q n T f l) (hok : av_ok bd σ L) : (L.length = 0 → ∃ M' v, am_val iX13_echoShare 0 [some (.ref (am_c D 13))] [] M = some (.inl (some (.float v)), M', 0, 0) ∧ M'.1 (am_c D 13) 0 = 1 ∧ av_ys D M M') ∧ (¬ L.length = 0 → ∃ M', am_val iX13_echoShare 0 [some (.ref (am_c D 13))] [] M = some (.inl (some (.float (af_f L))), M', 0, 0) ∧ M'.1 (am_c D 13) 0 = 0 ∧ av_ys D M M') := by
  have hl8 := hok.2.2.2.2.2.2.2
  have m1 : M.2.1 (am_c D 13) 1 = am_c (D + 1) 18 + 1 := hy.1.1.1
  have n5 := hy.1.2.2.1
  refine ⟨fun h0 => ?_, fun h0 => ?_⟩
  · have e : nI L.length = 0 := by rw [h0]; rfl
    refine ⟨av_i M (am_c D 13) 0 1, FP.fconst0, ?_, av_jS, av_ys_i (Or.inl rfl)⟩
    simp only [ae_X13_echoShare_0, ae_X13_echoShare_5, ae_X13_echoShare_10, ae_X13_echoShare_14, ae_X13_echoShare_25, ae_X13_echoShare_29, ae_X13_echoShare_33, ae_X13_echoShare_38, am_bnx_v, am_bnx_e, am_tl_s, am_tl_n, am_rv_s, am_add_rx, m1, n5, e, not_true_eq_false, not_false_eq_true, if_true, if_false, am_1n0, or_true, true_or, eq_self, Bool.true_eq_false, Bool.false_eq_true, cond_true, cond_false, av_jS, am_l1]
  · have e : ¬ nI L.length = 0 := nI_ne0 (by omega) (by omega)
    obtain ⟨y0, hs, -⟩ := av_yq (x := 0) hy
    have hf := (af_f_ok hok h0).1
    have ec := mc_echoes y0 hl8
    have r1 := y0.2.2.1
    refine ⟨av_i M (am_c D 13) 0 0, ?_, av_jS, hs⟩
    simp only [ae_X13_echoShare_0, ae_X13_echoShare_5, ae_X13_echoShare_10, ae_X13_echoShare_14, ae_X13_echoShare_25, ae_X13_echoShare_29, ae_X13_echoShare_33, ae_X13_echoShare_38, am_bnx_v, am_bnx_e, am_tl_s, am_tl_n, am_rv_s, am_add_rx, m1, n5, e, not_true_eq_false, not_false_eq_true, if_true, if_false, am_1n0, or_true, true_or, eq_self, Bool.true_eq_false, Bool.false_eq_true, cond_true, cond_false, av_jS, am_l0, ec, av_i2, r1, hf]
    rfl
/-- a helper that gives a double, and the call behind it -/
def av_OF (bd Lx : Nat) (xs : Nat → Int32) (r1 : am_T) (r2 : am_M → am_T) : Prop := ∃ (k : Int32) (M1 : am_M) (a b : Nat) (v : UInt64) (M2 : am_M), r1 = some (.inl (some (.int k)), M1, a, b) ∧ a ≤ 1 ∧ b ≤ 6 ∧ r2 M1 = some (.inl (some (.double v)), M2, 0, 0) ∧ M2.1 (am_c 274 13) 0 = k ∧ (k = 0 → M2.2.2.2.1 (am_c 283 28) 0 = v ∧ Op.cmpValue (FP.dcmp v v) .l = 0) ∧ av_I bd Lx xs M2 ∧ M1.2.2.2.2.2 = (Lx, xs)
def av_OG (bd Lx : Nat) (xs : Nat → Int32) (r1 : am_T) (r2 : am_M → am_T) : Prop := ∃ (k : Int32) (M1 : am_M) (a b : Nat) (v : UInt32) (M2 : am_M), r1 = some (.inl (some (.int k)), M1, a, b) ∧ a ≤ 1 ∧ b ≤ 6 ∧ r2 M1 = some (.inl (some (.float v)), M2, 0, 0) ∧ M2.1 (am_c 274 13) 0 = k ∧ (k = 0 → M2.2.2.2.1 (am_c 283 28) 0 = FP.f2d v ∧ (FP.f2d v &&& 0x7fffffffffffffff ≤ 0x7ff0000000000000) ∧ Op.cmpValue (FP.dcmp (FP.f2d v) (FP.f2d v)) .l = 0) ∧ av_I bd Lx xs M2 ∧ M1.2.2.2.2.2 = (Lx, xs)
theorem al_meanLoudness_v {v : UInt64} {M M1 : am_M} (h : am_val iX12_meanLoudness 0 [some (.ref (am_c 0 12))] [] M = some (.inl (some (.double v)), M1, 0, 0)) : am_val iL_meanLoudness 0 [some (.ref (am_c 0 12)), some (.ref (am_c 283 28)), none] [] M = some (.inl (some (.int 0)), av_d M1 (am_c 283 28) 0 v, 0, 0) := by simp only [ae_L_meanLoudness_0, ae_L_meanLoudness_6, ae_L_meanLoudness_11, am_bnx_v, am_bnx_e, am_tl_s, am_tl_n, am_rv_s, am_add_rx, h]
theorem al_echoShare_v {v : UInt32} {M M1 : am_M} (hf : FP.f2d v &&& 0x7fffffffffffffff ≤ 0x7ff0000000000000) (h : am_val iX12_echoShare 0 [some (.ref (am_c 0 12))] [] M = some (.inl (some (.float v)), M1, 0, 0)) : am_val iL_echoShare 0 [some (.ref (am_c 0 12)), some (.ref (am_c 283 28)), none] [] M = some (.inl (some (.int 0)), av_d M1 (am_c 283 28) 0 (FP.f2d v), 0, 0) := by simp only [ae_L_echoShare_0, ae_L_echoShare_6, ae_L_echoShare_12, am_bnx_v, am_bnx_e, am_tl_s, am_tl_n, am_rv_s, am_add_rx, h, hf]
theorem av_y_d2 {σ : Nat → Int32} {L : List (Nat → Int32)} {H : List av_K} {P : Option av_K} {q : Int32 × Int32 × Int32} {n : Nat} {T : Nat → Int32} {f : Int32} {l : List Int32} {D a j : Nat} {x : UInt64} {M : am_M} (hy : av_y D M σ L H P q n T f l) : av_y D (av_d M a j x) σ L H P q n T f l := hy
theorem av_x_d2 {σ : Nat → Int32} {L : List (Nat → Int32)} {H : List av_K} {P : Option av_K} {q : Int32 × Int32 × Int32} {n : Nat} {T : Nat → Int32} {f : Int32} {l : List Int32} {a j : Nat} {x : UInt64} {M : am_M} (hx : av_x M σ L H P q n T f l) : av_x (av_d M a j x) σ L H P q n T f l := hx
theorem op_meanLoudness {bd Lx : Nat} {xs : Nat → Int32} {M : am_M} (hI : av_I bd Lx xs M) : av_OF bd Lx xs (am_val iL_meanLoudness 0 [some (.ref (am_c 0 12)), some (.ref (am_c 283 28)), none] [] M) (fun M1 => am_val iX13_meanLoudness 0 [some (.ref (am_c 274 13)), none, none] [] M1) := by
  obtain ⟨⟨σ, L, H, P, q, n, T, f, l, hx, hy, hS⟩, hs⟩ := hI
  have p0 := hx.1.1.1
  obtain ⟨rm, hC⟩ := hx.2.1
  by_cases h0 : L.length = 0
  · have e := (cq_mean p0 hC hS.1).1 h0
    obtain ⟨M2, v, e2, t, s2⟩ := (mq_mean hy hS.1).1 h0
    exact ⟨1, M, 1, 6, v, M2, al_meanLoudness_e5 e, Nat.le_refl _, Nat.le_refl _, e2, t, fun h => absurd h (by decide), ⟨⟨σ, L, H, P, q, n, T, f, l, av_x_g hx (av_fy_ag (av_ys_fy (Nat.le_refl _) s2)), av_y_s hy s2, hS⟩, by rw [s2.1]; exact hs⟩, hs⟩
  · have e := (cq_mean p0 hC hS.1).2 h0
    obtain ⟨M2, e2, t, s2⟩ := (mq_mean (av_y_d2 (a := am_c 283 28) (j := 0) (x := af_d L) hy) hS.1).2 h0
    exact ⟨0, av_d M (am_c 283 28) 0 (af_d L), 0, 0, af_d L, M2, al_meanLoudness_v e, Nat.zero_le _, Nat.zero_le _, e2, t, fun _ => ⟨by
      rw [s2.1]
      show am_up M.2.2.2.1 (am_c 283 28) 0 (af_d L) (am_c 283 28) 0 = _
      exact am_up_s, (af_d_ok hS.1 h0).2⟩, ⟨⟨σ, L, H, P, q, n, T, f, l, av_x_g (av_x_d2 hx) (av_fy_ag (av_ys_fy (Nat.le_refl _) s2)), av_y_s (av_y_d2 hy) s2, hS⟩, by rw [s2.1]; exact hs⟩, hs⟩
theorem op_echoShare {bd Lx : Nat} {xs : Nat → Int32} {M : am_M} (hI : av_I bd Lx xs M) : av_OG bd Lx xs (am_val iL_echoShare 0 [some (.ref (am_c 0 12)), some (.ref (am_c 283 28)), none] [] M) (fun M1 => am_val iX13_echoShare 0 [some (.ref (am_c 274 13))] [] M1) := by
  obtain ⟨⟨σ, L, H, P, q, n, T, f, l, hx, hy, hS⟩, hs⟩ := hI
  have p0 := hx.1.1.1
  obtain ⟨rm, hC⟩ := hx.2.1
  by_cases h0 : L.length = 0
  · have e := (cq_share p0 hC hS.1).1 h0
    obtain ⟨M2, v, e2, t, s2⟩ := (mq_share hy hS.1).1 h0
    exact ⟨1, M, 1, 6, v, M2, al_echoShare_e5 e, Nat.le_refl _, Nat.le_refl _, e2, t, fun h => absurd h (by decide), ⟨⟨σ, L, H, P, q, n, T, f, l, av_x_g hx (av_fy_ag (av_ys_fy (Nat.le_refl _) s2)), av_y_s hy s2, hS⟩, by rw [s2.1]; exact hs⟩, hs⟩
  · have e := (cq_share p0 hC hS.1).2 h0
    obtain ⟨-, hf, hc⟩ := af_f_ok hS.1 h0
    obtain ⟨M2, e2, t, s2⟩ := (mq_share (av_y_d2 (a := am_c 283 28) (j := 0) (x := FP.f2d (af_f L)) hy) hS.1).2 h0
    exact ⟨0, av_d M (am_c 283 28) 0 (FP.f2d (af_f L)), 0, 0, af_f L, M2, al_echoShare_v hf e, Nat.zero_le _, Nat.zero_le _, e2, t, fun _ => ⟨by
      rw [s2.1]
      show am_up M.2.2.2.1 (am_c 283 28) 0 (FP.f2d (af_f L)) (am_c 283 28) 0 = _
      exact am_up_s, hf, hc⟩, ⟨⟨σ, L, H, P, q, n, T, f, l, av_x_g (av_x_d2 hx) (av_fy_ag (av_ys_fy (Nat.le_refl _) s2)), av_y_s (av_y_d2 hy) s2, hS⟩, by rw [s2.1]; exact hs⟩, hs⟩
