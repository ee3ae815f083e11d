/-! what is caught -/
def av_lb (L : List (Nat → Int32)) (p : Int32) : Nat → Option Nat
  | 0 => none
  | n + 1 => match av_lb L p n with
    | none => bif av_ec (av_s L n) p then some n else none
    | some b => bif (av_ec (av_s L n) p && decide (av_s L b 1 < av_s L n 1)) then some n else some b
theorem av_lb_in {L : List (Nat → Int32)} {p : Int32} : ∀ (n b : Nat), av_lb L p n = some b → b < n ∧ av_ec (av_s L b) p = true := by
  intro n
  induction n with
  | zero => intro b h; cases h
  | succ n ih =>
    intro b h
    rw [av_lb] at h
    cases hx : av_lb L p n with
    | none =>
      rw [hx] at h
      dsimp only at h
      cases hc : av_ec (av_s L n) p with
      | false => rw [hc] at h; cases h
      | true => rw [hc] at h; cases h; exact ⟨by omega, hc⟩
    | some b' =>
      rw [hx] at h
      dsimp only at h
      cases hc : (av_ec (av_s L n) p && decide (av_s L b' 1 < av_s L n 1)) with
      | false => rw [hc] at h; cases h; exact ⟨by have := (ih _ hx).1; omega, (ih _ hx).2⟩
      | true =>
        rw [hc] at h
        cases h
        simp only [Bool.and_eq_true] at hc
        exact ⟨by omega, hc.1⟩
theorem av_lb_le {L : List (Nat → Int32)} {p : Int32} : ∀ (n : Nat), (∀ k, k < n → ¬ av_s L k 1 ≤ 0) → am_it (av_le L p) n (-1, 0) = match av_lb L p n with
    | none => (-1, 0)
    | some b => (nI b, av_s L b 1) := by
  intro n
  induction n with
  | zero => intro _; rfl
  | succ n ih =>
    intro hpos
    have ih := ih (fun k hk => hpos k (by omega))
    show av_le L p n (am_it (av_le L p) n (-1, 0)) = _
    rw [ih, av_lb]
    unfold av_le
    have hp := hpos n (by omega)
    cases hx : av_lb L p n with
    | none =>
      cases hc : av_ec (av_s L n) p with
      | false => rfl
      | true => simp only [cond_true, hp, if_false]
    | some b =>
      cases hc : av_ec (av_s L n) p with
      | false => rfl
      | true =>
        by_cases hl : av_s L n 1 ≤ av_s L b 1
        · have hl' : ¬ av_s L b 1 < av_s L n 1 := by rw [am_nlt]; exact hl
          simp only [cond_true, hl, hl', if_true, decide_false, Bool.and_false, cond_false]
        · have hl' : av_s L b 1 < av_s L n 1 := by rw [am_nle] at hl; exact hl
          simp only [cond_true, hl, hl', if_false, decide_true, Bool.and_true]
theorem am_or0 {x y : Int32} : (x ||| y = 0) ↔ (x = 0 ∧ y = 0) := by
  rw [← Int32.toBitVec_inj, ← Int32.toBitVec_inj, ← Int32.toBitVec_inj, Int32.toBitVec_or]
  exact BitVec.or_eq_zero_iff
theorem am_sh0 : ∀ k, k < 8 → ¬ (1 : Int32) <<< (nI k &&& 31) = 0 := by decide
theorem av_lb_es {L : List (Nat → Int32)} {p : Int32} : ∀ (n : Nat), n ≤ 8 → (am_it (av_es L p) n 0 = 0 ↔ av_lb L p n = none) := by
  intro n
  induction n with
  | zero => intro _; exact ⟨fun _ => rfl, fun _ => rfl⟩
  | succ n ih =>
    intro hn
    have ih := ih (by omega)
    show (bif av_ec (av_s L n) p then am_it (av_es L p) n 0 ||| ((1 : Int32) <<< (nI n &&& 31)) else am_it (av_es L p) n 0) = 0 ↔ _
    rw [av_lb]
    cases hc : av_ec (av_s L n) p with
    | false =>
      simp only [cond_false, Bool.false_and]
      rw [ih]
      cases hx : av_lb L p n <;> simp
    | true =>
      simp only [cond_true, Bool.true_and]
      rw [am_or0]
      constructor
      · intro h
        exact absurd h.2 (am_sh0 n (by omega))
      · intro h
        cases hx : av_lb L p n with
        | none => rw [hx] at h; cases h
        | some b =>
          rw [hx] at h
          dsimp only at h
          cases hd : decide (av_s L b 1 < av_s L n 1) <;> rw [hd] at h <;> cases h
theorem ac_bcountCatch {B : Nat} {rm : Nat → Nat} {σ : Nat → Int32} {L : List (Nat → Int32)} {t : Nat} {b : Bool} {M : am_M} (ht : t < 3) (hC : av_C M B rm σ L) : ∃ M', am_val iX9_countCatch 0 [some (.ref (am_c (B + 4) 9)), some (.int (nI t)), some (.int (am_bi b))] [] M = some (.inl none, M', 0, 0) ∧ av_C M' B rm (bif b then av_up (av_up σ (10 + 3 * t) (σ (10 + 3 * t) + 1)) (11 + 3 * t) (σ (11 + 3 * t) + 1) else av_up σ (10 + 3 * t) (σ (10 + 3 * t) + 1)) L ∧ av_fr M M' B := by
  obtain ⟨c1, f1⟩ := av_C_wt (q := 1) (x := σ (10 + 3 * t) + 1) ht (by decide) hC
  obtain ⟨c2, f2⟩ := av_C_wt (q := 2) (x := σ (11 + 3 * t) + 1) ht (by decide) c1
  obtain ⟨⟨⟨w0, w1, w2, w3, w4, w5, w6, w7, w8, w9⟩, hrm, hpr⟩, ⟨hnp, hs0, hln, hct⟩, hW, hT, hN, hP, hS, hB⟩ := hC
  have e := ac_countCatch (b := b) ht w7 w8 (show ¬ B + 7 = B + 6 by omega)
  rw [(hT t ht).2.1, (hT t ht).2.2] at e
  cases b with
  | false => exact ⟨_, e, c1, f1⟩
  | true => exact ⟨_, e, c2, av_fr_t f1 f2⟩
/-- catchLoudest -/
def av_pts (σ : Nat → Int32) (k : Nat) (s : Nat → Int32) : Int32 := if s 2 = σ (50 + 5 * k) then s 1 else 2 * s 1
def av_o6a (σ : Nat → Int32) (k t : Nat) : Nat → Int32 := av_up (av_up σ (54 + 5 * k) (σ (54 + 5 * k) + 1)) (10 + 3 * t) (σ (10 + 3 * t) + 1)
def av_o6b (σ : Nat → Int32) (k t : Nat) (s : Nat → Int32) : Nat → Int32 := if s 2 = σ (50 + 5 * k) then av_o6a σ k t else av_up (av_o6a σ k t) (11 + 3 * t) (σ (11 + 3 * t) + 1)
def av_o6 (σ : Nat → Int32) (k t : Nat) (s : Nat → Int32) : Nat → Int32 := av_up (av_up (av_o6b σ k t s) (9 + 3 * t) (σ (9 + 3 * t) + av_pts σ k s)) 6 (σ 6 + av_pts σ k s)
theorem ac_catchLoudest {B : Nat} {rm : Nat → Nat} {σ : Nat → Int32} {L : List (Nat → Int32)} {k b t : Nat} {M : am_M} (hk : k < av_np σ) (ht : t < 3) (hkt : σ (50 + 5 * k) = nI t) (hpos : ∀ q, q < L.length → ¬ av_s L q 1 ≤ 0) (hb : av_lb L (σ (51 + 5 * k)) L.length = some b) (hC : av_C M B rm σ L) :
    ∃ M', am_val iX1_catchLoudest 0 [some (.ref (am_c B 1)), some (.int (nI k)), none, none, none, none, none] [] M = some (.inl (some (.int (av_pts σ k (av_s L b)))), M', 0, 0) ∧ av_C M' B (av_rm2 rm b L.length) (av_o6 σ k t (av_s L b)) (L.eraseIdx b) ∧ av_fr M M' B := by
  have hC0 := hC
  have hbn := (av_lb_in _ _ hb).1
  have e1 := ac_loudestEchoAt (p := σ (51 + 5 * k)) hC
  rw [av_lb_le _ hpos, hb] at e1
  dsimp only at e1
  obtain ⟨M1, e2, c1, f1⟩ := ac_removeSound hbn hC
  obtain ⟨c2, f2⟩ := av_C_wp (p := k) (w := 4) (x := σ (54 + 5 * k) + 1) (by have := hC.2.1.1; omega) (by decide) c1
  rw [show 50 + 5 * k + 4 = 54 + 5 * k by omega] at c2
  have fin : ∀ bb : Bool, (bb = !decide (av_s L b 2 = σ (50 + 5 * k))) → ∃ M3 M4, am_val iX9_countCatch 0 [some (.ref (am_c (B + 4) 9)), some (.int (nI t)), some (.int (am_bi bb))] [] (av_i M1 (am_c (B + 10 + k) 6) 4 (σ (54 + 5 * k) + 1)) = some (.inl none, M3, 0, 0) ∧ M3.2.1 (am_c B 1) 1 = am_c (B + 4) 9 + 1 ∧ M3.1 (am_c (B + 10 + k) 6) 0 = nI t ∧
      am_val iX9_addPoints 0 [some (.ref (am_c (B + 4) 9)), some (.int (nI t)), some (.int (av_pts σ k (av_s L b)))] [] M3 = some (.inl none, M4, 0, 0) ∧ M4.1 (am_c B 1) 10 = σ 6 ∧ av_C (av_i M4 (am_c B 1) 10 (σ 6 + av_pts σ k (av_s L b))) B (av_rm2 rm b L.length) (av_o6 σ k t (av_s L b)) (L.eraseIdx b) ∧ av_fr M (av_i M4 (am_c B 1) 10 (σ 6 + av_pts σ k (av_s L b))) B := by
    intro bb hbb
    obtain ⟨M3, e3, c3, f3⟩ := ac_bcountCatch (b := bb) ht c2
    rw [av_up_n (show ¬ 10 + 3 * t = 54 + 5 * k by omega), av_up_n (show ¬ 11 + 3 * t = 54 + 5 * k by omega)] at c3
    have h3 : (bif bb then av_up (av_up (av_up σ (54 + 5 * k) (σ (54 + 5 * k) + 1)) (10 + 3 * t) (σ (10 + 3 * t) + 1)) (11 + 3 * t) (σ (11 + 3 * t) + 1) else av_up (av_up σ (54 + 5 * k) (σ (54 + 5 * k) + 1)) (10 + 3 * t) (σ (10 + 3 * t) + 1)) = av_o6b σ k t (av_s L b) := by
      rw [hbb]
      unfold av_o6b av_o6a
      by_cases hh : av_s L b 2 = σ (50 + 5 * k)
      · rw [if_pos hh, decide_eq_true hh]; rfl
      · rw [if_neg hh, decide_eq_false hh]; rfl
    rw [h3] at c3
    have v : ∀ i, i ≠ 54 + 5 * k → i ≠ 10 + 3 * t → i ≠ 11 + 3 * t → av_o6b σ k t (av_s L b) i = σ i := by
      intro i i1 i2 i3
      unfold av_o6b av_o6a
      by_cases hh : av_s L b 2 = σ (50 + 5 * k)
      · rw [if_pos hh, av_up_n i2, av_up_n i1]
      · rw [if_neg hh, av_up_n i3, av_up_n i2, av_up_n i1]
    obtain ⟨M4, e4, c4, f4⟩ := ac_baddPoints (x := av_pts σ k (av_s L b)) ht c3
    rw [v _ (by omega) (by omega) (by omega)] at c4
    obtain ⟨c5, f5⟩ := av_C_wn (i := 6) (f := 10) (x := σ 6 + av_pts σ k (av_s L b)) (by decide) (by decide) (by decide) rfl c4
    refine ⟨M3, M4, e3, c3.1.1.2.1, ?_, e4, ?_, c5, av_fr_t f1 (av_fr_t f2 (av_fr_t f3 (av_fr_t f4 f5)))⟩
    · rw [c3.2.2.2.2.2.1 k (by have := hC.2.1.1; omega) 0 (by decide), v _ (by omega) (by omega) (by omega)]
      exact hkt
    · rw [c4.2.2.2.2.1.2.2.2.2.2.1, av_up_n (by omega), v _ (by omega) (by omega) (by omega)]
  obtain ⟨⟨⟨w0, w1, w2, w3, w4, w5, w6, w7, w8, w9⟩, hrm, hpr⟩, ⟨hnp, hs0, hln, hct⟩, hW, hT, hN, hP, hS, hB⟩ := hC
  have hp := ac_hasPlayer (B := B) (x := nI k) (M := M) (n := av_np σ) (by rw [hN.1, ← hs0]) (by omega)
  have hs := ac_hasSound (B := B) (x := nI b) (M := M) (n := L.length) hct (by omega)
  have hx1 : M.1 (am_c (B + 10 + k) 6) 1 = σ (51 + 5 * k) := by rw [hP k (by omega) 1 (by decide)]; congr 1 <;> omega
  have hx0 : M.1 (am_c (B + 10 + k) 6) 0 = σ (50 + 5 * k) := by rw [hP k (by omega) 0 (by decide)]; congr 1 <;> omega
  have hy4 : M1.1 (am_c (B + 10 + k) 6) 4 = σ (54 + 5 * k) := by rw [c1.2.2.2.2.2.1 k (by omega) 4 (by decide)]; congr 1 <;> omega
  have hy0 : M1.1 (am_c (B + 10 + k) 6) 0 = nI t := by rw [c1.2.2.2.2.2.1 k (by omega) 0 (by decide)]; exact hkt
  have hz0 : ∀ x, (av_i M1 (am_c (B + 10 + k) 6) 4 x).1 (am_c (B + 10 + k) 6) 0 = nI t := fun x => by
    rw [← hy0]
    show am_up M1.1 (am_c (B + 10 + k) 6) 4 x (am_c (B + 10 + k) 6) 0 = _
    exact am_up_k (by decide)
  have hz1 : M1.2.1 (am_c B 1) 1 = am_c (B + 4) 9 + 1 := c1.1.1.2.1
  obtain ⟨r0, r1, r2, r3, r4⟩ := hS b hbn
  by_cases hh : av_s L b 2 = σ (50 + 5 * k)
  · obtain ⟨M3, M4, g1, g2, g3, g4, g5, g6, g7⟩ := fin false (by simp [hh])
    have hpt : av_pts σ k (av_s L b) = av_s L b 1 := by unfold av_pts; rw [if_pos hh]
    rw [hpt] at g4 g6 g7 ⊢
    refine ⟨_, ?_, g6, g7⟩
    simp only [ae_X1_catchLoudest_0, ae_X1_catchLoudest_5, ae_X1_catchLoudest_8, ae_X1_catchLoudest_10, ae_X1_catchLoudest_14, ae_X1_catchLoudest_16, ae_X1_catchLoudest_25, ae_X1_catchLoudest_31, ae_X1_catchLoudest_34, ae_X1_catchLoudest_36, ae_X1_catchLoudest_40, ae_X1_catchLoudest_42, ae_X1_catchLoudest_56, ae_X1_catchLoudest_60, ae_X1_catchLoudest_68, ae_X1_catchLoudest_78, ae_X1_catchLoudest_90, ae_X1_catchLoudest_104, ae_X1_catchLoudest_113, ae_X1_catchLoudest_117, ae_X1_catchLoudest_126, am_bnx_v, am_bnx_e, am_tl_s, am_tl_n, am_rv_s, am_add_rx, hp, am_n_lt (show av_np σ < 2147483648 by omega) hk, am_bi_t, not_true_eq_false, not_false_eq_true, if_true, if_false, am_1n0, or_true, true_or, eq_self, Bool.true_eq_false, Bool.false_eq_true, cond_true, cond_false, w2, w3, w9 k (by omega), am_in_n (show k < 6 by omega) (by decide), am_tn (show k < 2147483648 by omega), hx1, hx0, e1, hs, am_n_lt (show L.length < 2147483648 by omega) hbn,
      am_in_n (show b < 8 by omega) (by decide), am_tn (show b < 2147483648 by omega), hrm b (by omega), r1, r2, hh, e2, hy4, av_i2, hz1, hz0, (show am_bi false = 0 from rfl) ▸ g1, g2, g3, g4, g5]
  · obtain ⟨M3, M4, g1, g2, g3, g4, g5, g6, g7⟩ := fin true (by simp [hh])
    have hpt : av_pts σ k (av_s L b) = 2 * av_s L b 1 := by unfold av_pts; rw [if_neg hh]
    rw [hpt] at g4 g6 g7 ⊢
    refine ⟨_, ?_, g6, g7⟩
    simp only [ae_X1_catchLoudest_0, ae_X1_catchLoudest_5, ae_X1_catchLoudest_8, ae_X1_catchLoudest_10, ae_X1_catchLoudest_14, ae_X1_catchLoudest_16, ae_X1_catchLoudest_25, ae_X1_catchLoudest_31, ae_X1_catchLoudest_34, ae_X1_catchLoudest_36, ae_X1_catchLoudest_40, ae_X1_catchLoudest_42, ae_X1_catchLoudest_56, ae_X1_catchLoudest_60, ae_X1_catchLoudest_68, ae_X1_catchLoudest_78, ae_X1_catchLoudest_90, ae_X1_catchLoudest_104, ae_X1_catchLoudest_113, ae_X1_catchLoudest_117, ae_X1_catchLoudest_126, am_bnx_v, am_bnx_e, am_tl_s, am_tl_n, am_rv_s, am_add_rx, hp, am_n_lt (show av_np σ < 2147483648 by omega) hk, am_bi_t, not_true_eq_false, not_false_eq_true, if_true, if_false, am_1n0, or_true, true_or, eq_self, Bool.true_eq_false, Bool.false_eq_true, cond_true, cond_false, w2, w3, w9 k (by omega), am_in_n (show k < 6 by omega) (by decide), am_tn (show k < 2147483648 by omega), hx1, hx0, e1, hs, am_n_lt (show L.length < 2147483648 by omega) hbn,
      am_in_n (show b < 8 by omega) (by decide), am_tn (show b < 2147483648 by omega), hrm b (by omega), r1, r2, hh, e2, hy4, av_i2, hz1, hz0, (show am_bi true = 1 from rfl) ▸ g1, g2, g3, g4, g5]
