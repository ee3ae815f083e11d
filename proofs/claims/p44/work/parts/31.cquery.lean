/-! a canyon's block of 24 cells: canyon B, walls B+1 (heights B+2, owners B+3), teams B+4 (5, 6, 7), players' row B+8, sounds' row B+9, players B+10 .., rooms B+16 .. -/
def av_shp (R : Nat → Nat → Nat) (B : Nat) : Prop := R (am_c B 1) 0 = am_c (B + 1) 11 + 1 ∧ R (am_c B 1) 1 = am_c (B + 4) 9 + 1 ∧ R (am_c B 1) 2 = am_c (B + 8) 25 + 1 ∧ R (am_c B 1) 4 = am_c (B + 9) 26 + 1 ∧
  R (am_c (B + 1) 11) 0 = am_c (B + 2) 16 + 1 ∧ R (am_c (B + 1) 11) 1 = am_c (B + 3) 16 + 1 ∧ R (am_c (B + 4) 9) 0 = am_c (B + 5) 17 + 1 ∧ R (am_c (B + 4) 9) 1 = am_c (B + 6) 17 + 1 ∧ R (am_c (B + 4) 9) 2 = am_c (B + 7) 17 + 1 ∧
  ∀ p, p < 6 → R (am_c (B + 8) 25) p = am_c (B + 10 + p) 6 + 1
def av_rms (R : Nat → Nat → Nat) (B : Nat) (rm : Nat → Nat) : Prop := ∀ k, k < 8 → R (am_c (B + 9) 26) k = am_c (rm k) 8 + 1
def av_prm (B : Nat) (rm : Nat → Nat) : Prop := (∀ k, k < 8 → B + 16 ≤ rm k ∧ rm k < B + 24) ∧ ∀ k l, k < 8 → l < 8 → rm k = rm l → k = l
def av_s (L : List (Nat → Int32)) (k : Nat) : Nat → Int32 := L.getD k (fun _ => 0)
def av_rw (I : Nat → Nat → Int32) (B : Nat) (σ : Nat → Int32) : Prop := ∀ p, p < 16 → I (am_c (B + 2) 16) p = σ (18 + 2 * p) ∧ I (am_c (B + 3) 16) p = σ (19 + 2 * p)
def av_rt (I : Nat → Nat → Int32) (B : Nat) (σ : Nat → Int32) : Prop := ∀ t, t < 3 → I (am_c (B + 5) 17) t = σ (9 + 3 * t) ∧ I (am_c (B + 6) 17) t = σ (10 + 3 * t) ∧ I (am_c (B + 7) 17) t = σ (11 + 3 * t)
def av_rn (I : Nat → Nat → Int32) (B : Nat) (σ : Nat → Int32) : Prop := I (am_c B 1) 3 = σ 0 ∧ I (am_c B 1) 6 = σ 2 ∧ I (am_c B 1) 7 = σ 3 ∧ I (am_c B 1) 8 = σ 4 ∧ I (am_c B 1) 9 = σ 5 ∧ I (am_c B 1) 10 = σ 6 ∧ I (am_c B 1) 11 = σ 8 ∧ I (am_c B 1) 12 = σ 7
def av_rp (I : Nat → Nat → Int32) (B : Nat) (σ : Nat → Int32) : Prop := ∀ p, p < 6 → ∀ w, w < 5 → I (am_c (B + 10 + p) 6) w = σ (50 + 5 * p + w)
def av_rs (I : Nat → Nat → Int32) (rm : Nat → Nat) (L : List (Nat → Int32)) : Prop := ∀ k, k < L.length → am_rs I (rm k) (av_s L k)
def av_rb (I : Nat → Nat → Int32) (B : Nat) : Prop := ∀ i, B + 16 ≤ i → i < B + 24 → I (am_c i 8) 1 = 0 ∨ I (am_c i 8) 1 = 1
def av_np (σ : Nat → Int32) : Nat := (σ 0).toNatClampNeg
/-- the block holds the canyon (σ, L), its rooms are rm -/
def av_C (M : am_M) (B : Nat) (rm : Nat → Nat) (σ : Nat → Int32) (L : List (Nat → Int32)) : Prop :=
  (av_shp M.2.1 B ∧ av_rms M.2.1 B rm ∧ av_prm B rm) ∧ (av_np σ ≤ 6 ∧ σ 0 = nI (av_np σ) ∧ L.length ≤ 8 ∧ M.1 (am_c B 1) 5 = nI L.length) ∧ av_rw M.1 B σ ∧ av_rt M.1 B σ ∧ av_rn M.1 B σ ∧ av_rp M.1 B σ ∧ av_rs M.1 rm L ∧ av_rb M.1 B
def am_ltb (x : Int32) (n : Nat) : Bool := decide (0 ≤ x) && decide (x < nI n)
theorem am_lt_n {x : Int32} {n : Nat} (hn : n < 2147483648) (h : am_ltb x n = true) : ∃ k, k < n ∧ x = nI k := by
  simp only [am_ltb, Bool.and_eq_true, decide_eq_true_eq] at h
  exact nI_ex n h.1 h.2 hn
theorem am_n_lt {k n : Nat} (hn : n < 2147483648) (h : k < n) : am_ltb (nI k) n = true := by
  simp only [am_ltb, Bool.and_eq_true, decide_eq_true_eq]
  exact ⟨nI_pos' (by omega), nI_lt h (by omega)⟩
theorem am_wt_lt {x : Int32} {n : Nat} (hn : n < 2147483648) : am_wt x 0 (nI n - 1) = am_ltb x n := by
  unfold am_wt am_ltb
  congr 1
  cases n with
  | zero =>
    apply decide_eq_decide.mpr
    rw [Int32.le_iff_toInt_le, Int32.lt_iff_toInt_lt]
    rw [show (nI 0 - 1).toInt = -1 by decide, show (nI 0).toInt = 0 by decide]
    omega
  | succ n =>
    apply decide_eq_decide.mpr
    rw [nI_pred, Int32.le_iff_toInt_le, Int32.lt_iff_toInt_lt, nI_toInt (by omega), nI_toInt (by omega)]
    omega
theorem ac_hasPlayer {B : Nat} {x : Int32} {M : am_M} {n : Nat} (h : M.1 (am_c B 1) 3 = nI n) (hn : n < 2147483648) : am_val iX1_hasPlayer 0 [some (.ref (am_c B 1)), some (.int x)] [] M = some (.inl (some (.int (am_bi (am_ltb x n)))), M, 0, 0) := by
  simp only [ae_X1_hasPlayer_0, ae_X1_hasPlayer_11, am_bnx_v, am_bnx_e, am_tl_s, am_tl_n, am_rv_s, am_add_rx, ac_isWithin, h, am_wt_lt hn, am_bi_01]
theorem ac_hasSound {B : Nat} {x : Int32} {M : am_M} {n : Nat} (h : M.1 (am_c B 1) 5 = nI n) (hn : n < 2147483648) : am_val iX1_hasSound 0 [some (.ref (am_c B 1)), some (.int x)] [] M = some (.inl (some (.int (am_bi (am_ltb x n)))), M, 0, 0) := by
  simp only [ae_X1_hasSound_0, ae_X1_hasSound_11, am_bnx_v, am_bnx_e, am_tl_s, am_tl_n, am_rv_s, am_add_rx, ac_isWithin, h, am_wt_lt hn, am_bi_01]
theorem av_hl {k n : Nat} (h : k < n) (hn : n < 2147483648) : ¬ nI n ≤ nI k := nI_ge h (by omega)
theorem av_he {n : Nat} (hn : n < 2147483648) : nI n ≤ nI n := nI_le (Nat.le_refl _) (by omega)
theorem av_02 : (0 : Int32) = nI 0 := rfl
/-- isAhead -/
def av_ha (L : List (Nat → Int32)) (j k : Nat) : Bool := if av_s L j 1 = av_s L k 1 then (if decide (0 < av_s L j 3) = decide (0 < av_s L k 3) then decide (j < k) else decide (0 < av_s L j 3)) else decide (av_s L k 1 < av_s L j 1)

theorem ac_countPlayersOf {B : Nat} {rm : Nat → Nat} {σ : Nat → Int32} {L : List (Nat → Int32)} {t : Int32} {M : am_M} (hC : av_C M B rm σ L) : am_val iX1_countPlayersOf 0 [some (.ref (am_c B 1)), some (.int t), none, none] [] M = some (.inl (some (.int (am_cnt (fun p => decide (σ (50 + 5 * p) = t)) (av_np σ)))), M, 0, 0) := by
  obtain ⟨⟨⟨w0, w1, w2, w3, w4, w5, w6, w7, w8, w9⟩, hrm, hpr⟩, ⟨hnp, hs0, hln, hct⟩, hW, hT, hN, hP, hS, hB⟩ := hC
  have hl := av_lp (H := fun k x _ => am_val iX1_countPlayersOf 4 [some (.ref (am_c B 1)), some (.int t), some (.int x), some (.int (nI k))] [] M) (g := am_cg (fun p => decide (σ (50 + 5 * p) = t))) (N := av_np σ) (r := fun x => some (.inl (some (.int x)), M, 0, 0)) 0 none
    (fun x o => by
      rw [ae_X1_countPlayersOf_4, hN.1, hs0, if_pos (av_he (by omega))]
      simp only [ae_X1_countPlayersOf_0, ae_X1_countPlayersOf_12, ae_X1_countPlayersOf_16, ae_X1_countPlayersOf_18, ae_X1_countPlayersOf_25, ae_X1_countPlayersOf_28, ae_X1_countPlayersOf_34])
    (fun k x o hk => by
      refine ⟨none, ?_⟩
      rw [ae_X1_countPlayersOf_4, hN.1, hs0, if_neg (av_hl hk (by omega))]
      have hin := am_in_n (show k < 6 by omega) (by decide)
      have htn := am_tn (show k < 2147483648 by omega)
      have hq := w9 k (by omega)
      have hp : M.1 (am_c (B + 10 + k) 6) 0 = σ (50 + 5 * k) := by rw [hP k (by omega) 0 (by decide)]; congr 1 <;> omega
      by_cases hx : σ (50 + 5 * k) = t
      · rw [am_cg_t (by simp [hx])]
        simp only [ae_X1_countPlayersOf_0, ae_X1_countPlayersOf_12, ae_X1_countPlayersOf_16, ae_X1_countPlayersOf_18, ae_X1_countPlayersOf_25, ae_X1_countPlayersOf_28, ae_X1_countPlayersOf_34, am_bnx_v, am_bnx_e, am_tl_s, am_tl_n, am_rv_s, am_add_rx, w2, hq, hp, hin, htn, hx, not_true, if_false, nI_1]
      · rw [am_cg_f (by simp [hx])]
        simp only [ae_X1_countPlayersOf_0, ae_X1_countPlayersOf_12, ae_X1_countPlayersOf_16, ae_X1_countPlayersOf_18, ae_X1_countPlayersOf_25, ae_X1_countPlayersOf_28, ae_X1_countPlayersOf_34, am_bnx_v, am_bnx_e, am_tl_s, am_tl_n, am_rv_s, am_add_rx, w2, hq, hp, hin, htn, hx, not_false_iff, if_true, nI_1])
  simp only [nI_0] at hl
  simp only [ae_X1_countPlayersOf_0, ae_X1_countPlayersOf_12, ae_X1_countPlayersOf_16, ae_X1_countPlayersOf_18, ae_X1_countPlayersOf_25, ae_X1_countPlayersOf_28, ae_X1_countPlayersOf_34, hl]
  rfl
theorem ac_countPlayersAt {B : Nat} {rm : Nat → Nat} {σ : Nat → Int32} {L : List (Nat → Int32)} {t : Int32} {M : am_M} (hC : av_C M B rm σ L) : am_val iX1_countPlayersAt 0 [some (.ref (am_c B 1)), some (.int t), none, none] [] M = some (.inl (some (.int (am_cnt (fun p => decide (σ (51 + 5 * p) = t)) (av_np σ)))), M, 0, 0) := by
  obtain ⟨⟨⟨w0, w1, w2, w3, w4, w5, w6, w7, w8, w9⟩, hrm, hpr⟩, ⟨hnp, hs0, hln, hct⟩, hW, hT, hN, hP, hS, hB⟩ := hC
  have hl := av_lp (H := fun k x _ => am_val iX1_countPlayersAt 4 [some (.ref (am_c B 1)), some (.int t), some (.int x), some (.int (nI k))] [] M) (g := am_cg (fun p => decide (σ (51 + 5 * p) = t))) (N := av_np σ) (r := fun x => some (.inl (some (.int x)), M, 0, 0)) 0 none
    (fun x o => by
      rw [ae_X1_countPlayersAt_4, hN.1, hs0, if_pos (av_he (by omega))]
      simp only [ae_X1_countPlayersAt_0, ae_X1_countPlayersAt_12, ae_X1_countPlayersAt_16, ae_X1_countPlayersAt_18, ae_X1_countPlayersAt_25, ae_X1_countPlayersAt_28, ae_X1_countPlayersAt_34])
    (fun k x o hk => by
      refine ⟨none, ?_⟩
      rw [ae_X1_countPlayersAt_4, hN.1, hs0, if_neg (av_hl hk (by omega))]
      have hin := am_in_n (show k < 6 by omega) (by decide)
      have htn := am_tn (show k < 2147483648 by omega)
      have hq := w9 k (by omega)
      have hp : M.1 (am_c (B + 10 + k) 6) 1 = σ (51 + 5 * k) := by rw [hP k (by omega) 1 (by decide)]; congr 1 <;> omega
      by_cases hx : σ (51 + 5 * k) = t
      · rw [am_cg_t (by simp [hx])]
        simp only [ae_X1_countPlayersAt_0, ae_X1_countPlayersAt_12, ae_X1_countPlayersAt_16, ae_X1_countPlayersAt_18, ae_X1_countPlayersAt_25, ae_X1_countPlayersAt_28, ae_X1_countPlayersAt_34, am_bnx_v, am_bnx_e, am_tl_s, am_tl_n, am_rv_s, am_add_rx, w2, hq, hp, hin, htn, hx, not_true, if_false, nI_1]
      · rw [am_cg_f (by simp [hx])]
        simp only [ae_X1_countPlayersAt_0, ae_X1_countPlayersAt_12, ae_X1_countPlayersAt_16, ae_X1_countPlayersAt_18, ae_X1_countPlayersAt_25, ae_X1_countPlayersAt_28, ae_X1_countPlayersAt_34, am_bnx_v, am_bnx_e, am_tl_s, am_tl_n, am_rv_s, am_add_rx, w2, hq, hp, hin, htn, hx, not_false_iff, if_true, nI_1])
  simp only [nI_0] at hl
  simp only [ae_X1_countPlayersAt_0, ae_X1_countPlayersAt_12, ae_X1_countPlayersAt_16, ae_X1_countPlayersAt_18, ae_X1_countPlayersAt_25, ae_X1_countPlayersAt_28, ae_X1_countPlayersAt_34, hl]
  rfl
theorem ac_countSoundsOf {B : Nat} {rm : Nat → Nat} {σ : Nat → Int32} {L : List (Nat → Int32)} {t : Int32} {M : am_M} (hC : av_C M B rm σ L) : am_val iX1_countSoundsOf 0 [some (.ref (am_c B 1)), some (.int t), none, none] [] M = some (.inl (some (.int (am_cnt (fun k => decide (av_s L k 2 = t)) L.length))), M, 0, 0) := by
  obtain ⟨⟨⟨w0, w1, w2, w3, w4, w5, w6, w7, w8, w9⟩, hrm, hpr⟩, ⟨hnp, hs0, hln, hct⟩, hW, hT, hN, hP, hS, hB⟩ := hC
  have hl := av_lp (H := fun k x _ => am_val iX1_countSoundsOf 4 [some (.ref (am_c B 1)), some (.int t), some (.int x), some (.int (nI k))] [] M) (g := am_cg (fun k => decide (av_s L k 2 = t))) (N := L.length) (r := fun x => some (.inl (some (.int x)), M, 0, 0)) 0 none
    (fun x o => by
      rw [ae_X1_countSoundsOf_4, hct, if_pos (av_he (by omega))]
      simp only [ae_X1_countSoundsOf_0, ae_X1_countSoundsOf_12, ae_X1_countSoundsOf_16, ae_X1_countSoundsOf_18, ae_X1_countSoundsOf_25, ae_X1_countSoundsOf_28, ae_X1_countSoundsOf_34])
    (fun k x o hk => by
      refine ⟨none, ?_⟩
      rw [ae_X1_countSoundsOf_4, hct, if_neg (av_hl hk (by omega))]
      have hin := am_in_n (show k < 8 by omega) (by decide)
      have htn := am_tn (show k < 2147483648 by omega)
      have hq := hrm k (by omega)
      obtain ⟨r0, r1, r2, r3, r4⟩ := hS k hk
      by_cases hx : av_s L k 2 = t
      · rw [am_cg_t (by simp [hx])]
        simp only [ae_X1_countSoundsOf_0, ae_X1_countSoundsOf_12, ae_X1_countSoundsOf_16, ae_X1_countSoundsOf_18, ae_X1_countSoundsOf_25, ae_X1_countSoundsOf_28, ae_X1_countSoundsOf_34, am_bnx_v, am_bnx_e, am_tl_s, am_tl_n, am_rv_s, am_add_rx, w3, hq, r0, r2, hin, htn, hx, not_true, if_false, nI_1]
      · rw [am_cg_f (by simp [hx])]
        simp only [ae_X1_countSoundsOf_0, ae_X1_countSoundsOf_12, ae_X1_countSoundsOf_16, ae_X1_countSoundsOf_18, ae_X1_countSoundsOf_25, ae_X1_countSoundsOf_28, ae_X1_countSoundsOf_34, am_bnx_v, am_bnx_e, am_tl_s, am_tl_n, am_rv_s, am_add_rx, w3, hq, r0, r2, hin, htn, hx, not_false_iff, if_true, nI_1])
  simp only [nI_0] at hl
  simp only [ae_X1_countSoundsOf_0, ae_X1_countSoundsOf_12, ae_X1_countSoundsOf_16, ae_X1_countSoundsOf_18, ae_X1_countSoundsOf_25, ae_X1_countSoundsOf_28, ae_X1_countSoundsOf_34, hl]
  rfl
theorem ac_countSoundsAt {B : Nat} {rm : Nat → Nat} {σ : Nat → Int32} {L : List (Nat → Int32)} {t : Int32} {M : am_M} (hC : av_C M B rm σ L) : am_val iX1_countSoundsAt 0 [some (.ref (am_c B 1)), some (.int t), none, none] [] M = some (.inl (some (.int (am_cnt (fun k => decide (av_s L k 0 = t)) L.length))), M, 0, 0) := by
  obtain ⟨⟨⟨w0, w1, w2, w3, w4, w5, w6, w7, w8, w9⟩, hrm, hpr⟩, ⟨hnp, hs0, hln, hct⟩, hW, hT, hN, hP, hS, hB⟩ := hC
  have hl := av_lp (H := fun k x _ => am_val iX1_countSoundsAt 4 [some (.ref (am_c B 1)), some (.int t), some (.int x), some (.int (nI k))] [] M) (g := am_cg (fun k => decide (av_s L k 0 = t))) (N := L.length) (r := fun x => some (.inl (some (.int x)), M, 0, 0)) 0 none
    (fun x o => by
      rw [ae_X1_countSoundsAt_4, hct, if_pos (av_he (by omega))]
      simp only [ae_X1_countSoundsAt_0, ae_X1_countSoundsAt_12, ae_X1_countSoundsAt_16, ae_X1_countSoundsAt_18, ae_X1_countSoundsAt_25, ae_X1_countSoundsAt_28, ae_X1_countSoundsAt_34])
    (fun k x o hk => by
      refine ⟨none, ?_⟩
      rw [ae_X1_countSoundsAt_4, hct, if_neg (av_hl hk (by omega))]
      have hin := am_in_n (show k < 8 by omega) (by decide)
      have htn := am_tn (show k < 2147483648 by omega)
      have hq := hrm k (by omega)
      obtain ⟨r0, r1, r2, r3, r4⟩ := hS k hk
      by_cases hx : av_s L k 0 = t
      · rw [am_cg_t (by simp [hx])]
        simp only [ae_X1_countSoundsAt_0, ae_X1_countSoundsAt_12, ae_X1_countSoundsAt_16, ae_X1_countSoundsAt_18, ae_X1_countSoundsAt_25, ae_X1_countSoundsAt_28, ae_X1_countSoundsAt_34, am_bnx_v, am_bnx_e, am_tl_s, am_tl_n, am_rv_s, am_add_rx, w3, hq, r0, r2, hin, htn, hx, not_true, if_false, nI_1]
      · rw [am_cg_f (by simp [hx])]
        simp only [ae_X1_countSoundsAt_0, ae_X1_countSoundsAt_12, ae_X1_countSoundsAt_16, ae_X1_countSoundsAt_18, ae_X1_countSoundsAt_25, ae_X1_countSoundsAt_28, ae_X1_countSoundsAt_34, am_bnx_v, am_bnx_e, am_tl_s, am_tl_n, am_rv_s, am_add_rx, w3, hq, r0, r2, hin, htn, hx, not_false_iff, if_true, nI_1])
  simp only [nI_0] at hl
  simp only [ae_X1_countSoundsAt_0, ae_X1_countSoundsAt_12, ae_X1_countSoundsAt_16, ae_X1_countSoundsAt_18, ae_X1_countSoundsAt_25, ae_X1_countSoundsAt_28, ae_X1_countSoundsAt_34, hl]
  rfl
theorem ac_countEchoes {B : Nat} {rm : Nat → Nat} {σ : Nat → Int32} {L : List (Nat → Int32)} {M : am_M} (hC : av_C M B rm σ L) : am_val iX1_countEchoes 0 [some (.ref (am_c B 1)), none, none] [] M = some (.inl (some (.int (am_cnt (fun k => decide (0 < av_s L k 3)) L.length))), M, 0, 0) := by
  obtain ⟨⟨⟨w0, w1, w2, w3, w4, w5, w6, w7, w8, w9⟩, hrm, hpr⟩, ⟨hnp, hs0, hln, hct⟩, hW, hT, hN, hP, hS, hB⟩ := hC
  have hl := av_lp (H := fun k x _ => am_val iX1_countEchoes 4 [some (.ref (am_c B 1)), some (.int x), some (.int (nI k))] [] M) (g := am_cg (fun k => decide (0 < av_s L k 3))) (N := L.length) (r := fun x => some (.inl (some (.int x)), M, 0, 0)) 0 none
    (fun x o => by
      rw [ae_X1_countEchoes_4, hct, if_pos (av_he (by omega))]
      simp only [ae_X1_countEchoes_0, ae_X1_countEchoes_12, ae_X1_countEchoes_16, ae_X1_countEchoes_18, ae_X1_countEchoes_21, ae_X1_countEchoes_24, ae_X1_countEchoes_27, ae_X1_countEchoes_33])
    (fun k x o hk => by
      refine ⟨none, ?_⟩
      rw [ae_X1_countEchoes_4, hct, if_neg (av_hl hk (by omega))]
      have hin := am_in_n (show k < 8 by omega) (by decide)
      have htn := am_tn (show k < 2147483648 by omega)
      have hq := hrm k (by omega)
      obtain ⟨r0, r1, r2, r3, r4⟩ := hS k hk
      cases hx : decide (0 < av_s L k 3) with
      | true =>
        rw [am_cg_t (by simp only [hx])]
        simp only [ae_X1_countEchoes_0, ae_X1_countEchoes_12, ae_X1_countEchoes_16, ae_X1_countEchoes_18, ae_X1_countEchoes_21, ae_X1_countEchoes_24, ae_X1_countEchoes_27, ae_X1_countEchoes_33, am_bnx_v, am_bnx_e, am_tl_s, am_tl_n, am_rv_s, am_add_rx, ac_wasThrownBack, w3, hq, r3, hin, htn, hx, am_bi_t, show ¬ (1 : Int32) = 0 by decide, if_false, nI_1]
      | false =>
        rw [am_cg_f (by simp only [hx])]
        simp only [ae_X1_countEchoes_0, ae_X1_countEchoes_12, ae_X1_countEchoes_16, ae_X1_countEchoes_18, ae_X1_countEchoes_21, ae_X1_countEchoes_24, ae_X1_countEchoes_27, ae_X1_countEchoes_33, am_bnx_v, am_bnx_e, am_tl_s, am_tl_n, am_rv_s, am_add_rx, ac_wasThrownBack, w3, hq, r3, hin, htn, hx, am_bi_f, if_true, nI_1])
  simp only [nI_0] at hl
  simp only [ae_X1_countEchoes_0, ae_X1_countEchoes_12, ae_X1_countEchoes_16, ae_X1_countEchoes_18, ae_X1_countEchoes_21, ae_X1_countEchoes_24, ae_X1_countEchoes_27, ae_X1_countEchoes_33, hl]
  rfl
theorem ac_sumLoudness {B : Nat} {rm : Nat → Nat} {σ : Nat → Int32} {L : List (Nat → Int32)} {M : am_M} (hC : av_C M B rm σ L) : am_val iX1_sumLoudness 0 [some (.ref (am_c B 1)), none, none] [] M = some (.inl (some (.int (av_sum (fun k => av_s L k 1) L.length))), M, 0, 0) := by
  obtain ⟨⟨⟨w0, w1, w2, w3, w4, w5, w6, w7, w8, w9⟩, hrm, hpr⟩, ⟨hnp, hs0, hln, hct⟩, hW, hT, hN, hP, hS, hB⟩ := hC
  have hl := av_lp (H := fun k x _ => am_val iX1_sumLoudness 4 [some (.ref (am_c B 1)), some (.int x), some (.int (nI k))] [] M) (g := am_sg (fun k => av_s L k 1)) (N := L.length) (r := fun x => some (.inl (some (.int x)), M, 0, 0)) 0 none
    (fun x o => by
      rw [ae_X1_sumLoudness_4, hct, if_pos (av_he (by omega))]
      simp only [ae_X1_sumLoudness_0, ae_X1_sumLoudness_12, ae_X1_sumLoudness_17, ae_X1_sumLoudness_19, ae_X1_sumLoudness_30])
    (fun k x o hk => by
      refine ⟨none, ?_⟩
      rw [ae_X1_sumLoudness_4, hct, if_neg (av_hl hk (by omega))]
      have hin := am_in_n (show k < 8 by omega) (by decide)
      have htn := am_tn (show k < 2147483648 by omega)
      have hq := hrm k (by omega)
      obtain ⟨r0, r1, r2, r3, r4⟩ := hS k hk
      simp only [ae_X1_sumLoudness_0, ae_X1_sumLoudness_12, ae_X1_sumLoudness_17, ae_X1_sumLoudness_19, ae_X1_sumLoudness_30, am_bnx_v, am_bnx_e, am_tl_s, am_tl_n, am_rv_s, am_add_rx, w3, hq, r1, hin, htn, nI_1, am_sg])
  simp only [nI_0] at hl
  simp only [ae_X1_sumLoudness_0, ae_X1_sumLoudness_12, ae_X1_sumLoudness_17, ae_X1_sumLoudness_19, ae_X1_sumLoudness_30, hl]
  rfl
def av_es (L : List (Nat → Int32)) (p : Int32) (k : Nat) (x : Int32) : Int32 := bif av_ec (av_s L k) p then x ||| ((1 : Int32) <<< (nI k &&& 31)) else x
theorem ac_echoSetAt {B : Nat} {rm : Nat → Nat} {σ : Nat → Int32} {L : List (Nat → Int32)} {p : Int32} {M : am_M} (hC : av_C M B rm σ L) : am_val iX1_echoSetAt 0 [some (.ref (am_c B 1)), some (.int p), none, none] [] M = some (.inl (some (.int (am_it (av_es L p) L.length 0))), M, 0, 0) := by
  obtain ⟨⟨⟨w0, w1, w2, w3, w4, w5, w6, w7, w8, w9⟩, hrm, hpr⟩, ⟨hnp, hs0, hln, hct⟩, hW, hT, hN, hP, hS, hB⟩ := hC
  have hl := av_lp (H := fun k x _ => am_val iX1_echoSetAt 4 [some (.ref (am_c B 1)), some (.int p), some (.int x), some (.int (nI k))] [] M) (g := av_es L p) (N := L.length) (r := fun x => some (.inl (some (.int x)), M, 0, 0)) 0 none
    (fun x o => by
      rw [ae_X1_echoSetAt_4, hct, if_pos (av_he (by omega))]
      simp only [ae_X1_echoSetAt_0, ae_X1_echoSetAt_12, ae_X1_echoSetAt_16, ae_X1_echoSetAt_18, ae_X1_echoSetAt_22, ae_X1_echoSetAt_25, ae_X1_echoSetAt_31, ae_X1_echoSetAt_37])
    (fun k x o hk => by
      refine ⟨none, ?_⟩
      rw [ae_X1_echoSetAt_4, hct, if_neg (av_hl hk (by omega))]
      have hin := am_in_n (show k < 8 by omega) (by decide)
      have htn := am_tn (show k < 2147483648 by omega)
      have hq := hrm k (by omega)
      have he := ac_isEchoAt (p := p) (hS k hk)
      unfold av_es
      cases hx : av_ec (av_s L k) p with
      | true => simp only [ae_X1_echoSetAt_0, ae_X1_echoSetAt_12, ae_X1_echoSetAt_16, ae_X1_echoSetAt_18, ae_X1_echoSetAt_22, ae_X1_echoSetAt_25, ae_X1_echoSetAt_31, ae_X1_echoSetAt_37, am_bnx_v, am_bnx_e, am_tl_s, am_tl_n, am_rv_s, am_add_rx, he, w3, hq, hin, htn, hx, am_bi_t, show ¬ (1 : Int32) = 0 by decide, if_false, nI_1, cond_true]
      | false => simp only [ae_X1_echoSetAt_0, ae_X1_echoSetAt_12, ae_X1_echoSetAt_16, ae_X1_echoSetAt_18, ae_X1_echoSetAt_22, ae_X1_echoSetAt_25, ae_X1_echoSetAt_31, ae_X1_echoSetAt_37, am_bnx_v, am_bnx_e, am_tl_s, am_tl_n, am_rv_s, am_add_rx, he, w3, hq, hin, htn, hx, am_bi_f, if_true, nI_1, cond_false])
  simp only [nI_0] at hl
  simp only [ae_X1_echoSetAt_0, ae_X1_echoSetAt_12, ae_X1_echoSetAt_16, ae_X1_echoSetAt_18, ae_X1_echoSetAt_22, ae_X1_echoSetAt_25, ae_X1_echoSetAt_31, ae_X1_echoSetAt_37, hl]
theorem ac_isAhead {B j k : Nat} {rm : Nat → Nat} {σ : Nat → Int32} {L : List (Nat → Int32)} {M : am_M} (hC : av_C M B rm σ L) (hj : j < L.length) (hk : k < L.length) : am_val iX1_isAhead 0 [some (.ref (am_c B 1)), some (.int (nI j)), some (.int (nI k)), none, none] [] M = some (.inl (some (.int (am_bi (av_ha L j k)))), M, 0, 0) := by
  obtain ⟨⟨⟨w0, w1, w2, w3, w4, w5, w6, w7, w8, w9⟩, hrm, hpr⟩, ⟨hnp, hs0, hln, hct⟩, hW, hT, hN, hP, hS, hB⟩ := hC
  have hin := am_in_n (show k < 8 by omega) (by decide)
  have htn := am_tn (show k < 2147483648 by omega)
  have hq := hrm k (by omega)
  obtain ⟨r0, r1, r2, r3, r4⟩ := hS k hk
  have hin' := am_in_n (show j < 8 by omega) (by decide)
  have htn' := am_tn (show j < 2147483648 by omega)
  have hq' := hrm j (by omega)
  obtain ⟨q0, q1, q2, q3, q4⟩ := hS j hj
  unfold av_ha
  by_cases a : av_s L j 1 = av_s L k 1
  · rw [if_pos a]
    by_cases b : decide (0 < av_s L j 3) = decide (0 < av_s L k 3)
    · rw [if_pos b]
      by_cases c : j < k
      · simp only [ae_X1_isAhead_0, ae_X1_isAhead_4, ae_X1_isAhead_6, ae_X1_isAhead_11, ae_X1_isAhead_13, ae_X1_isAhead_27, ae_X1_isAhead_39, ae_X1_isAhead_43, ae_X1_isAhead_45, ae_X1_isAhead_49, ae_X1_isAhead_54, ae_X1_isAhead_57, ae_X1_isAhead_61, ae_X1_isAhead_62, ae_X1_isAhead_67, ae_X1_isAhead_71, am_bnx_v, am_bnx_e, am_tl_s, am_tl_n, am_rv_s, am_add_rx, ac_wasThrownBack, w3, hq, hq', hin, hin', htn, htn', r1, q1, r3, q3, a, b, if_true, decide_eq_true c, am_bi_t, av_hl c (by omega), if_false]
      · simp only [ae_X1_isAhead_0, ae_X1_isAhead_4, ae_X1_isAhead_6, ae_X1_isAhead_11, ae_X1_isAhead_13, ae_X1_isAhead_27, ae_X1_isAhead_39, ae_X1_isAhead_43, ae_X1_isAhead_45, ae_X1_isAhead_49, ae_X1_isAhead_54, ae_X1_isAhead_57, ae_X1_isAhead_61, ae_X1_isAhead_62, ae_X1_isAhead_67, ae_X1_isAhead_71, am_bnx_v, am_bnx_e, am_tl_s, am_tl_n, am_rv_s, am_add_rx, ac_wasThrownBack, w3, hq, hq', hin, hin', htn, htn', r1, q1, r3, q3, a, b, if_true, decide_eq_false c, am_bi_f, nI_le (show k ≤ j by omega) (show j < 2 ^ 31 by omega)]
    · rw [if_neg b]
      have hb : ¬ am_bi (decide (0 < av_s L j 3)) = am_bi (decide (0 < av_s L k 3)) := fun hc => by
        cases h1 : decide (0 < av_s L j 3) <;> cases h2 : decide (0 < av_s L k 3) <;> rw [h1, h2] at hc b <;> first | exact b rfl | exact absurd hc (by decide)
      simp only [ae_X1_isAhead_0, ae_X1_isAhead_4, ae_X1_isAhead_6, ae_X1_isAhead_11, ae_X1_isAhead_13, ae_X1_isAhead_27, ae_X1_isAhead_39, ae_X1_isAhead_43, ae_X1_isAhead_45, ae_X1_isAhead_49, ae_X1_isAhead_54, ae_X1_isAhead_57, ae_X1_isAhead_61, ae_X1_isAhead_62, ae_X1_isAhead_67, ae_X1_isAhead_71, am_bnx_v, am_bnx_e, am_tl_s, am_tl_n, am_rv_s, am_add_rx, ac_wasThrownBack, w3, hq, hq', hin, hin', htn, htn', r1, q1, r3, q3, a, hb, if_true, if_false, am_bi_01]
  · rw [if_neg a]
    by_cases c : av_s L j 1 ≤ av_s L k 1
    · have c' : ¬ av_s L k 1 < av_s L j 1 := by rw [am_nlt]; exact c
      simp only [ae_X1_isAhead_0, ae_X1_isAhead_4, ae_X1_isAhead_6, ae_X1_isAhead_11, ae_X1_isAhead_13, ae_X1_isAhead_27, ae_X1_isAhead_39, ae_X1_isAhead_43, ae_X1_isAhead_45, ae_X1_isAhead_49, ae_X1_isAhead_54, ae_X1_isAhead_57, ae_X1_isAhead_61, ae_X1_isAhead_62, ae_X1_isAhead_67, ae_X1_isAhead_71, am_bnx_v, am_bnx_e, am_tl_s, am_tl_n, am_rv_s, am_add_rx, w3, hq, hq', hin, hin', htn, htn', r1, q1, a, c, c', if_true, if_false, decide_false, am_bi_f]
    · have c' : av_s L k 1 < av_s L j 1 := by rw [am_nle] at c; exact c
      simp only [ae_X1_isAhead_0, ae_X1_isAhead_4, ae_X1_isAhead_6, ae_X1_isAhead_11, ae_X1_isAhead_13, ae_X1_isAhead_27, ae_X1_isAhead_39, ae_X1_isAhead_43, ae_X1_isAhead_45, ae_X1_isAhead_49, ae_X1_isAhead_54, ae_X1_isAhead_57, ae_X1_isAhead_61, ae_X1_isAhead_62, ae_X1_isAhead_67, ae_X1_isAhead_71, am_bnx_v, am_bnx_e, am_tl_s, am_tl_n, am_rv_s, am_add_rx, w3, hq, hq', hin, hin', htn, htn', r1, q1, a, c, c', if_false, decide_true, am_bi_t]
theorem ac_countSoundsAhead {B j : Nat} {rm : Nat → Nat} {σ : Nat → Int32} {L : List (Nat → Int32)} {M : am_M} (hC : av_C M B rm σ L) (hj : j < L.length) : am_val iX1_countSoundsAhead 0 [some (.ref (am_c B 1)), some (.int (nI j)), none, none] [] M = some (.inl (some (.int (am_cnt (fun k => av_ha L k j) L.length))), M, 0, 0) := by
  have hA := fun k hk => ac_isAhead (j := k) (k := j) hC hk hj
  obtain ⟨⟨⟨w0, w1, w2, w3, w4, w5, w6, w7, w8, w9⟩, hrm, hpr⟩, ⟨hnp, hs0, hln, hct⟩, hW, hT, hN, hP, hS, hB⟩ := hC
  have hl := av_lp (H := fun k x _ => am_val iX1_countSoundsAhead 4 [some (.ref (am_c B 1)), some (.int (nI j)), some (.int x), some (.int (nI k))] [] M) (g := am_cg (fun k => av_ha L k j)) (N := L.length) (r := fun x => some (.inl (some (.int x)), M, 0, 0)) 0 none
    (fun x o => by
      rw [ae_X1_countSoundsAhead_4, hct, if_pos (av_he (by omega))]
      simp only [ae_X1_countSoundsAhead_0, ae_X1_countSoundsAhead_12, ae_X1_countSoundsAhead_18, ae_X1_countSoundsAhead_21, ae_X1_countSoundsAhead_24, ae_X1_countSoundsAhead_30])
    (fun k x o hk => by
      refine ⟨none, ?_⟩
      rw [ae_X1_countSoundsAhead_4, hct, if_neg (av_hl hk (by omega))]
      have he := hA k hk
      cases hx : av_ha L k j with
      | true =>
        rw [am_cg_t (f := fun k => av_ha L k j) hx]
        simp only [ae_X1_countSoundsAhead_0, ae_X1_countSoundsAhead_12, ae_X1_countSoundsAhead_18, ae_X1_countSoundsAhead_21, ae_X1_countSoundsAhead_24, ae_X1_countSoundsAhead_30, am_bnx_v, am_bnx_e, am_tl_s, am_tl_n, am_rv_s, am_add_rx, he, hx, am_bi_t, show ¬ (1 : Int32) = 0 by decide, if_false, nI_1]
      | false =>
        rw [am_cg_f (f := fun k => av_ha L k j) hx]
        simp only [ae_X1_countSoundsAhead_0, ae_X1_countSoundsAhead_12, ae_X1_countSoundsAhead_18, ae_X1_countSoundsAhead_21, ae_X1_countSoundsAhead_24, ae_X1_countSoundsAhead_30, am_bnx_v, am_bnx_e, am_tl_s, am_tl_n, am_rv_s, am_add_rx, he, hx, am_bi_f, if_true, nI_1])
  simp only [nI_0] at hl
  simp only [ae_X1_countSoundsAhead_0, ae_X1_countSoundsAhead_12, ae_X1_countSoundsAhead_18, ae_X1_countSoundsAhead_21, ae_X1_countSoundsAhead_24, ae_X1_countSoundsAhead_30, hl]
  rfl
/-- the loudest echo at a place -/
def av_le (L : List (Nat → Int32)) (p : Int32) (k : Nat) (x : Int32 × Int32) : Int32 × Int32 := bif av_ec (av_s L k) p then (if av_s L k 1 ≤ x.2 then x else (nI k, av_s L k 1)) else x
theorem ac_loudestEchoAt {B : Nat} {rm : Nat → Nat} {σ : Nat → Int32} {L : List (Nat → Int32)} {p : Int32} {M : am_M} (hC : av_C M B rm σ L) : am_val iX1_loudestEchoAt 0 [some (.ref (am_c B 1)), some (.int p), none, none, none] [] M = some (.inl (some (.int ((am_it (av_le L p) L.length (-1, 0)).1))), M, 0, 0) := by
  obtain ⟨⟨⟨w0, w1, w2, w3, w4, w5, w6, w7, w8, w9⟩, hrm, hpr⟩, ⟨hnp, hs0, hln, hct⟩, hW, hT, hN, hP, hS, hB⟩ := hC
  have hl := av_lp (H := fun k (x : Int32 × Int32) _ => am_val iX1_loudestEchoAt 7 [some (.ref (am_c B 1)), some (.int p), some (.int (x.1)), some (.int (x.2)), some (.int (nI k))] [] M) (g := av_le L p) (N := L.length) (r := fun x => some (.inl (some (.int (x.1))), M, 0, 0)) (-1, 0) none
    (fun x o => by
      rw [ae_X1_loudestEchoAt_7, hct, if_pos (av_he (by omega))]
      simp only [ae_X1_loudestEchoAt_0, ae_X1_loudestEchoAt_16, ae_X1_loudestEchoAt_20, ae_X1_loudestEchoAt_23, ae_X1_loudestEchoAt_27, ae_X1_loudestEchoAt_30, ae_X1_loudestEchoAt_34, ae_X1_loudestEchoAt_37, ae_X1_loudestEchoAt_44, ae_X1_loudestEchoAt_51, ae_X1_loudestEchoAt_54, ae_X1_loudestEchoAt_58, ae_X1_loudestEchoAt_64])
    (fun k x o hk => by
      refine ⟨none, ?_⟩
      rw [ae_X1_loudestEchoAt_7, hct, if_neg (av_hl hk (by omega))]
      have hin := am_in_n (show k < 8 by omega) (by decide)
      have htn := am_tn (show k < 2147483648 by omega)
      have hq := hrm k (by omega)
      have he := ac_isEchoAt (p := p) (hS k hk)
      obtain ⟨r0, r1, r2, r3, r4⟩ := hS k hk
      unfold av_le
      cases hx : av_ec (av_s L k) p with
      | true =>
        by_cases hy : av_s L k 1 ≤ x.2
        · simp only [ae_X1_loudestEchoAt_0, ae_X1_loudestEchoAt_16, ae_X1_loudestEchoAt_20, ae_X1_loudestEchoAt_23, ae_X1_loudestEchoAt_27, ae_X1_loudestEchoAt_30, ae_X1_loudestEchoAt_34, ae_X1_loudestEchoAt_37, ae_X1_loudestEchoAt_44, ae_X1_loudestEchoAt_51, ae_X1_loudestEchoAt_54, ae_X1_loudestEchoAt_58, ae_X1_loudestEchoAt_64, am_bnx_v, am_bnx_e, am_tl_s, am_tl_n, am_rv_s, am_add_rx, he, w3, hq, r1, hin, htn, hx, hy, am_bi_t, show ¬ (1 : Int32) = 0 by decide, if_false, if_true, nI_1, cond_true]
        · simp only [ae_X1_loudestEchoAt_0, ae_X1_loudestEchoAt_16, ae_X1_loudestEchoAt_20, ae_X1_loudestEchoAt_23, ae_X1_loudestEchoAt_27, ae_X1_loudestEchoAt_30, ae_X1_loudestEchoAt_34, ae_X1_loudestEchoAt_37, ae_X1_loudestEchoAt_44, ae_X1_loudestEchoAt_51, ae_X1_loudestEchoAt_54, ae_X1_loudestEchoAt_58, ae_X1_loudestEchoAt_64, am_bnx_v, am_bnx_e, am_tl_s, am_tl_n, am_rv_s, am_add_rx, he, w3, hq, r1, hin, htn, hx, hy, am_bi_t, show ¬ (1 : Int32) = 0 by decide, if_false, nI_1, cond_true]
      | false => simp only [ae_X1_loudestEchoAt_0, ae_X1_loudestEchoAt_16, ae_X1_loudestEchoAt_20, ae_X1_loudestEchoAt_23, ae_X1_loudestEchoAt_27, ae_X1_loudestEchoAt_30, ae_X1_loudestEchoAt_34, ae_X1_loudestEchoAt_37, ae_X1_loudestEchoAt_44, ae_X1_loudestEchoAt_51, ae_X1_loudestEchoAt_54, ae_X1_loudestEchoAt_58, ae_X1_loudestEchoAt_64, am_bnx_v, am_bnx_e, am_tl_s, am_tl_n, am_rv_s, am_add_rx, he, w3, hq, hin, htn, hx, am_bi_f, if_true, nI_1, cond_false])
  simp only [nI_0] at hl
  simp only [ae_X1_loudestEchoAt_0, ae_X1_loudestEchoAt_16, ae_X1_loudestEchoAt_20, ae_X1_loudestEchoAt_23, ae_X1_loudestEchoAt_27, ae_X1_loudestEchoAt_30, ae_X1_loudestEchoAt_34, ae_X1_loudestEchoAt_37, ae_X1_loudestEchoAt_44, ae_X1_loudestEchoAt_51, ae_X1_loudestEchoAt_54, ae_X1_loudestEchoAt_58, ae_X1_loudestEchoAt_64, hl]
