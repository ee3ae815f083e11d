/-! mean loudness, the share of echoes -/
theorem fp_d : ∀ c, c < 8 → ∀ s, s < 161 → (FP.ddiv (FP.i2d (nI s)) (FP.i2d (nI (c + 1))) &&& 0x7fffffffffffffff ≤ 0x7ff0000000000000) ∧ (Op.cmpValue (FP.dcmp (FP.ddiv (FP.i2d (nI s)) (FP.i2d (nI (c + 1)))) (FP.ddiv (FP.i2d (nI s)) (FP.i2d (nI (c + 1))))) .l) = 0 := by decide +kernel
theorem fp_f : ∀ c, c < 8 → ∀ s, s < 9 → (FP.fdiv (FP.i2f (nI s)) (FP.i2f (nI (c + 1))) &&& 0x7fffffff ≤ 0x7f800000) ∧ (FP.f2d (FP.fdiv (FP.i2f (nI s)) (FP.i2f (nI (c + 1)))) &&& 0x7fffffffffffffff ≤ 0x7ff0000000000000) ∧ (Op.cmpValue (FP.dcmp (FP.f2d (FP.fdiv (FP.i2f (nI s)) (FP.i2f (nI (c + 1))))) (FP.f2d (FP.fdiv (FP.i2f (nI s)) (FP.i2f (nI (c + 1)))))) .l) = 0 := by decide +kernel
theorem tl_sum {g : Nat → Int32} : ∀ n, (∀ k, k < n → ∃ v, v ≤ 20 ∧ g k = nI v) → ∃ s, s ≤ 20 * n ∧ av_sum g n = nI s := by
  intro n
  induction n with
  | zero => intro _; exact ⟨0, Nat.le_refl _, rfl⟩
  | succ n ih =>
    intro h
    obtain ⟨s, hs, e⟩ := ih (fun k hk => h k (by omega))
    obtain ⟨v, hv, ev⟩ := h n (Nat.lt_succ_self _)
    refine ⟨s + v, by omega, ?_⟩
    show av_sum g n + g n = nI (s + v)
    rw [e, ev, nI_add]
theorem tl_cnt {g : Nat → Bool} : ∀ n, ∃ s, s ≤ n ∧ am_cnt g n = nI s := by
  intro n
  induction n with
  | zero => exact ⟨0, Nat.le_refl _, rfl⟩
  | succ n ih =>
    obtain ⟨s, hs, e⟩ := ih
    have h : am_cnt g (n + 1) = am_cg g n (am_cnt g n) := rfl
    cases hg : g n with
    | true => exact ⟨s + 1, by omega, by rw [h, am_cg_t hg, e, nI_1]⟩
    | false => exact ⟨s, by omega, by rw [h, am_cg_f hg, e]⟩
def af_d (L : List (Nat → Int32)) : UInt64 := FP.ddiv (FP.i2d (av_sum (fun k => av_s L k 1) L.length)) (FP.i2d (nI L.length))
def af_f (L : List (Nat → Int32)) : UInt32 := FP.fdiv (FP.i2f (av_cne L)) (FP.i2f (nI L.length))
theorem af_d_ok {bd : Nat} {σ : Nat → Int32} {L : List (Nat → Int32)} (hok : av_ok bd σ L) (h0 : ¬ L.length = 0) : (FP.ddiv (FP.i2d (av_sum (fun k => av_s L k 1) L.length)) (FP.i2d (nI L.length)) &&& 0x7fffffffffffffff ≤ 0x7ff0000000000000) ∧ (Op.cmpValue (FP.dcmp (af_d L) (af_d L)) .l) = 0 := by
  have hl8 := hok.2.2.2.2.2.2.2
  obtain ⟨s, hs, e⟩ := tl_sum (g := fun k => av_s L k 1) L.length (fun k hk => by
    obtain ⟨-, ⟨v, t, hv, hvt, s1, -⟩, -⟩ := hok.2.2.2.2.1 k hk
    exact ⟨v, by omega, s1⟩)
  have h := fp_d (L.length - 1) (by omega) s (by omega)
  rw [show L.length - 1 + 1 = L.length by omega] at h
  unfold af_d
  rw [e]
  exact h
theorem af_f_ok {bd : Nat} {σ : Nat → Int32} {L : List (Nat → Int32)} (hok : av_ok bd σ L) (h0 : ¬ L.length = 0) : (FP.fdiv (FP.i2f (av_cne L)) (FP.i2f (nI L.length)) &&& 0x7fffffff ≤ 0x7f800000) ∧ (FP.f2d (af_f L) &&& 0x7fffffffffffffff ≤ 0x7ff0000000000000) ∧ (Op.cmpValue (FP.dcmp (FP.f2d (af_f L)) (FP.f2d (af_f L))) .l) = 0 := by
  have hl8 := hok.2.2.2.2.2.2.2
  obtain ⟨s, hs, e⟩ := tl_cnt (g := fun k => decide (0 < av_s L k 3)) L.length
  have h := fp_f (L.length - 1) (by omega) s (by omega)
  rw [show L.length - 1 + 1 = L.length by omega] at h
  unfold af_f av_cne
  rw [e]
  exact h
theorem cq_mean {bd : Nat} {rm : Nat → Nat} {σ : Nat → Int32} {L : List (Nat → Int32)} {M : am_M} (p0 : M.2.1 (am_c 0 12) 0 = am_c 1 1 + 1) (hC : av_C M 1 rm σ L) (hok : av_ok bd σ L) : (L.length = 0 → am_val iX12_meanLoudness 0 [some (.ref (am_c 0 12))] [] M = some (.inr 5, M, 1, 6)) ∧ (¬ L.length = 0 → am_val iX12_meanLoudness 0 [some (.ref (am_c 0 12))] [] M = some (.inl (some (.double (af_d L))), M, 0, 0)) := by
  have n5 := (av_C_ns hC).1
  have hl8 := hok.2.2.2.2.2.2.2
  refine ⟨fun h0 => ?_, fun h0 => ?_⟩
  · have e : nI L.length = 0 := by rw [h0]; rfl
    simp only [ae_X12_meanLoudness_0, ae_X12_meanLoudness_4, ae_X12_meanLoudness_10, ae_X12_meanLoudness_21, ae_X12_meanLoudness_25, ae_X12_meanLoudness_28, ae_X12_meanLoudness_33, am_bnx_v, am_bnx_e, am_tl_s, am_tl_n, am_rv_s, am_add_rx, p0, n5, e, not_true_eq_false, not_false_eq_true, if_true, if_false, am_1n0, or_true, true_or, eq_self, Bool.true_eq_false, Bool.false_eq_true, cond_true, cond_false]
  · have e : ¬ nI L.length = 0 := nI_ne0 (by omega) (by omega)
    have hf := (af_d_ok hok h0).1
    simp only [ae_X12_meanLoudness_0, ae_X12_meanLoudness_4, ae_X12_meanLoudness_10, ae_X12_meanLoudness_21, ae_X12_meanLoudness_25, ae_X12_meanLoudness_28, ae_X12_meanLoudness_33, am_bnx_v, am_bnx_e, am_tl_s, am_tl_n, am_rv_s, am_add_rx, p0, n5, e, not_true_eq_false, not_false_eq_true, if_true, if_false, am_1n0, or_true, true_or, eq_self, Bool.true_eq_false, Bool.false_eq_true, cond_true, cond_false, ac_sumLoudness hC, hf]
    rfl
theorem cq_share {bd : Nat} {rm : Nat → Nat} {σ : Nat → Int32} {L : List (Nat → Int32)} {M : am_M} (p0 : M.2.1 (am_c 0 12) 0 = am_c 1 1 + 1) (hC : av_C M 1 rm σ L) (hok : av_ok bd σ L) : (L.length = 0 → am_val iX12_echoShare 0 [some (.ref (am_c 0 12))] [] M = some (.inr 5, M, 1, 6)) ∧ (¬ L.length = 0 → am_val iX12_echoShare 0 [some (.ref (am_c 0 12))] [] M = some (.inl (some (.float (af_f L))), M, 0, 0)) := by
  have n5 := (av_C_ns hC).1
  have hl8 := hok.2.2.2.2.2.2.2
  have ec : am_val iX1_countEchoes 0 [some (.ref (am_c 1 1)), none, none] [] M = some (.inl (some (.int (av_cne L))), M, 0, 0) := ac_countEchoes hC
  refine ⟨fun h0 => ?_, fun h0 => ?_⟩
  · have e : nI L.length = 0 := by rw [h0]; rfl
    simp only [ae_X12_echoShare_0, ae_X12_echoShare_4, ae_X12_echoShare_10, ae_X12_echoShare_21, ae_X12_echoShare_25, ae_X12_echoShare_28, ae_X12_echoShare_33, am_bnx_v, am_bnx_e, am_tl_s, am_tl_n, am_rv_s, am_add_rx, p0, n5, e, not_true_eq_false, not_false_eq_true, if_true, if_false, am_1n0, or_true, true_or, eq_self, Bool.true_eq_false, Bool.false_eq_true, cond_true, cond_false]
  · have e : ¬ nI L.length = 0 := nI_ne0 (by omega) (by omega)
    have hf := (af_f_ok hok h0).1
    simp only [ae_X12_echoShare_0, ae_X12_echoShare_4, ae_X12_echoShare_10, ae_X12_echoShare_21, ae_X12_echoShare_25, ae_X12_echoShare_28, ae_X12_echoShare_33, am_bnx_v, am_bnx_e, am_tl_s, am_tl_n, am_rv_s, am_add_rx, p0, n5, e, not_true_eq_false, not_false_eq_true, if_true, if_false, am_1n0, or_true, true_or, eq_self, Bool.true_eq_false, Bool.false_eq_true, cond_true, cond_false, ec, hf]
    rfl
theorem av_x_d2 {σ : Nat → Int32} {L : List (Nat → Int32)} {H : List av_K} {P : Option av_K} {q : Int32 × Int32 × Int32} {n : Nat} {T : Nat → Int32} {f : Int32} {l : List Int32} {a j : Nat} {x : UInt64} {M : am_M} (hx : av_x M σ L H P q n T f l) : av_x (av_d M a j x) σ L H P q n T f l := hx
