/-! a canyon is copied -/
theorem ac_ptake {i i' : Nat} {M : am_M} (h : ¬ i' = i) : ∃ I, am_val iX6_take 0 [some (.ref (am_c i 6)), some (.ref (am_c (i') 6))] [] M = some (.inl none, (I, M.2), 0, 0) ∧ (∀ w, w < 5 → I (am_c i 6) w = M.1 (am_c i' 6) w) ∧ ∀ c j, ¬ c = am_c i 6 → I c j = M.1 c j := by
  have hc : ¬ am_c i' 6 = am_c i 6 := am_c_ne (by decide) (by decide) (fun hh => h hh.1)
  have e : ∀ (X : am_M) f v g, (av_i X (am_c i 6) f v).1 (am_c i' 6) g = X.1 (am_c i' 6) g := fun X f v g => am_up_a hc
  refine ⟨(av_i (av_i (av_i (av_i (av_i M (am_c i 6) 0 (M.1 (am_c i' 6) 0)) (am_c i 6) 1 (M.1 (am_c i' 6) 1)) (am_c i 6) 2 (M.1 (am_c i' 6) 2)) (am_c i 6) 3 (M.1 (am_c i' 6) 3)) (am_c i 6) 4 (M.1 (am_c i' 6) 4)).1, ?_, ?_, ?_⟩
  · simp only [ae_X6_take_0, e]
    rfl
  · intro w hw
    rcases (show w = 0 ∨ w = 1 ∨ w = 2 ∨ w = 3 ∨ w = 4 by omega) with rfl | rfl | rfl | rfl | rfl <;> simp [av_i1, am_up]
  · intro c j hcc
    simp [av_i1, am_up, hcc]
theorem ac_stake {i i' : Nat} {M : am_M} (h : ¬ i' = i) (hb : M.1 (am_c i' 8) 1 = 0 ∨ M.1 (am_c i' 8) 1 = 1) : ∃ I, am_val iX8_take 0 [some (.ref (am_c i 8)), some (.ref (am_c (i') 8))] [] M = some (.inl none, (I, M.2), 0, 0) ∧ (∀ w, w < 5 → I (am_c i 8) w = M.1 (am_c i' 8) w) ∧ ∀ c j, ¬ c = am_c i 8 → I c j = M.1 c j := by
  have hc : ¬ am_c i' 8 = am_c i 8 := am_c_ne (by decide) (by decide) (fun hh => h hh.1)
  have e : ∀ (X : am_M) f v g, (av_i X (am_c i 8) f v).1 (am_c i' 8) g = X.1 (am_c i' 8) g := fun X f v g => am_up_a hc
  refine ⟨(av_i (av_i (av_i (av_i (av_i M (am_c i 8) 0 (M.1 (am_c i' 8) 0)) (am_c i 8) 1 (M.1 (am_c i' 8) 1)) (am_c i 8) 2 (M.1 (am_c i' 8) 2)) (am_c i 8) 3 (M.1 (am_c i' 8) 3)) (am_c i 8) 4 (M.1 (am_c i' 8) 4)).1, ?_, ?_, ?_⟩
  · rw [ae_X8_take_0 (by rw [e]; exact hb)]
    simp only [e]
    rfl
  · intro w hw
    rcases (show w = 0 ∨ w = 1 ∨ w = 2 ∨ w = 3 ∨ w = 4 by omega) with rfl | rfl | rfl | rfl | rfl <;> simp [av_i1, am_up]
  · intro c j hcc
    simp [av_i1, am_up, hcc]
/-- only cells of kind K in the block are changed -/
def av_fk (K B : Nat) (M x : am_M) : Prop := x.2 = M.2 ∧ ∀ c k j, k < 64 → (k ≠ K ∨ c < B ∨ B + 24 ≤ c) → x.1 (am_c c k) j = M.1 (am_c c k) j
theorem av_fk_0 {K B : Nat} {M : am_M} : av_fk K B M M := ⟨rfl, fun _ _ _ _ _ => rfl⟩
theorem av_fk_t {K B : Nat} {M x y : am_M} (h : av_fk K B M x) (h' : av_fk K B x y) : av_fk K B M y := ⟨h'.1.trans h.1, fun c k j h1 h2 => (h'.2 c k j h1 h2).trans (h.2 c k j h1 h2)⟩
theorem av_fk_fr {K B : Nat} {M x : am_M} (h : av_fk K B M x) : av_fr M x B := ⟨by rw [h.1], fun c k j hk hc => ⟨h.2 c k j hk (Or.inr hc), by rw [h.1]⟩⟩
theorem av_fk_i {K B c j : Nat} {v : Int32} {M : am_M} (hK : K < 64) (h0 : B ≤ c) (h1 : c < B + 24) : av_fk K B M (av_i M (am_c c K) j v) :=
  ⟨rfl, fun c' k' j' hk' hc => am_up_a (am_c_ne hk' hK (by omega))⟩
theorem av_fk_c {K B a b n : Nat} {M : am_M} (hK : K < 64) (h0 : B ≤ b) (h1 : b < B + 24) : av_fk K B M (av_c M (am_c a K) (am_c b K) n) :=
  ⟨rfl, fun c' k' j' hk' hc => am_cpy_a (am_c_ne hk' hK (by omega))⟩
theorem ac_take {B B' : Nat} {rm rm' : Nat → Nat} {σ σ' : Nat → Int32} {L L' : List (Nat → Int32)} {M : am_M} (hBB : B + 24 ≤ B' ∨ B' + 24 ≤ B) (hC : av_C M B rm σ L) (hC' : av_C M B' rm' σ' L') :
    ∃ M', am_val iX1_take 0 [some (.ref (am_c B 1)), some (.ref (am_c (B') 1)), none] [] M = some (.inl none, M', 0, 0) ∧ av_C M' B rm σ' L' ∧ av_fr M M' B ∧ M'.2 = M.2 := by
  have hC0 := hC
  obtain ⟨⟨⟨v0, v1, v2, v3, v4, v5, v6, v7, v8, v9⟩, hrm', hpr'⟩, ⟨hnp', hs0', hln', hct'⟩, hW', hT', hN', hP', hS', hB'⟩ := hC'
  obtain ⟨⟨⟨w0, w1, w2, w3, w4, w5, w6, w7, w8, w9⟩, hrm, hpr⟩, ⟨hnp, hs0, hln, hct⟩, hW, hT, hN, hP, hS, hB⟩ := hC
  -- walls
  obtain ⟨x1, hx1⟩ : ∃ x, x = av_c (av_c M (am_c (B' + 2) 16) (am_c (B + 2) 16) 16) (am_c (B' + 3) 16) (am_c (B + 3) 16) 16 := ⟨_, rfl⟩
  have e1 : am_val iX11_take 0 [some (.ref (am_c (B + 1) 11)), some (.ref (am_c (B' + 1) 11))] [] M = some (.inl none, x1, 0, 0) := by rw [hx1]; exact ac_wtake w4 w5 v4 v5
  have f1 : av_fk 16 B M x1 := by rw [hx1]; exact av_fk_t (av_fk_c (by decide) (by omega) (by omega)) (av_fk_c (by decide) (by omega) (by omega))
  have W1 : av_rw x1.1 B σ' := by
    intro p hp
    rw [hx1]
    constructor
    · show am_cpy (am_cpy M.1 (am_c (B' + 2) 16) (am_c (B + 2) 16) 0 0 16) (am_c (B' + 3) 16) (am_c (B + 3) 16) 0 0 16 (am_c (B + 2) 16) p = _
      rw [am_cpy_a (am_c_ne (by decide) (by decide) (by omega)), am_cpy_s hp, (hW' p hp).1]
    · show am_cpy (am_cpy M.1 (am_c (B' + 2) 16) (am_c (B + 2) 16) 0 0 16) (am_c (B' + 3) 16) (am_c (B + 3) 16) 0 0 16 (am_c (B + 3) 16) p = _
      rw [am_cpy_s hp, am_cpy_a (am_c_ne (by decide) (by decide) (by omega)), (hW' p hp).2]
  -- teams
  obtain ⟨x2, hx2⟩ : ∃ x, x = av_c (av_c (av_c x1 (am_c (B' + 5) 17) (am_c (B + 5) 17) 3) (am_c (B' + 6) 17) (am_c (B + 6) 17) 3) (am_c (B' + 7) 17) (am_c (B + 7) 17) 3 := ⟨_, rfl⟩
  have r1 : x1.2 = M.2 := f1.1
  have e2 : am_val iX9_take 0 [some (.ref (am_c (B + 4) 9)), some (.ref (am_c (B' + 4) 9))] [] x1 = some (.inl none, x2, 0, 0) := by
    rw [hx2]
    exact ac_ttake (by rw [r1]; exact w6) (by rw [r1]; exact w7) (by rw [r1]; exact w8) (by rw [r1]; exact v6) (by rw [r1]; exact v7) (by rw [r1]; exact v8)
  have f2 : av_fk 17 B x1 x2 := by rw [hx2]; exact av_fk_t (av_fk_c (by decide) (by omega) (by omega)) (av_fk_t (av_fk_c (by decide) (by omega) (by omega)) (av_fk_c (by decide) (by omega) (by omega)))
  have T2 : av_rt x2.1 B σ' := by
    intro t ht
    have g : ∀ q, q < 3 → x1.1 (am_c (B' + 5 + q) 17) t = M.1 (am_c (B' + 5 + q) 17) t := fun q hq => f1.2 _ _ _ (by decide) (by omega)
    rw [hx2]
    refine ⟨?_, ?_, ?_⟩
    · show am_cpy (am_cpy (am_cpy x1.1 (am_c (B' + 5) 17) (am_c (B + 5) 17) 0 0 3) (am_c (B' + 6) 17) (am_c (B + 6) 17) 0 0 3) (am_c (B' + 7) 17) (am_c (B + 7) 17) 0 0 3 (am_c (B + 5) 17) t = _
      rw [am_cpy_a (am_c_ne (by decide) (by decide) (by omega)), am_cpy_a (am_c_ne (by decide) (by decide) (by omega)), am_cpy_s ht, ← (hT' t ht).1]
      exact g 0 (by decide)
    · show am_cpy (am_cpy (am_cpy x1.1 (am_c (B' + 5) 17) (am_c (B + 5) 17) 0 0 3) (am_c (B' + 6) 17) (am_c (B + 6) 17) 0 0 3) (am_c (B' + 7) 17) (am_c (B + 7) 17) 0 0 3 (am_c (B + 6) 17) t = _
      rw [am_cpy_a (am_c_ne (by decide) (by decide) (by omega)), am_cpy_s ht, am_cpy_a (am_c_ne (by decide) (by decide) (by omega)), ← (hT' t ht).2.1]
      exact g 1 (by decide)
    · show am_cpy (am_cpy (am_cpy x1.1 (am_c (B' + 5) 17) (am_c (B + 5) 17) 0 0 3) (am_c (B' + 6) 17) (am_c (B + 6) 17) 0 0 3) (am_c (B' + 7) 17) (am_c (B + 7) 17) 0 0 3 (am_c (B + 7) 17) t = _
      rw [am_cpy_s ht, am_cpy_a (am_c_ne (by decide) (by decide) (by omega)), am_cpy_a (am_c_ne (by decide) (by decide) (by omega)), ← (hT' t ht).2.2]
      exact g 2 (by decide)
  have r2 : x2.2 = M.2 := f2.1.trans r1
  -- players
  have k3 := av_lpr (H := fun k (x : am_M) _ => am_val iX1_take 24 [some (.ref (am_c B 1)), some (.ref (am_c (B') 1)), some (.int (nI k))] [] x)
    (P := fun k x => av_fk 6 B x2 x ∧ ∀ p, p < k → ∀ w, w < 5 → x.1 (am_c (B + 10 + p) 6) w = σ' (50 + 5 * p + w)) (N := 6)
    (Q := fun t => ∃ x, t = am_val iX1_take 61 [some (.ref (am_c B 1)), some (.ref (am_c (B') 1)), some (.int 0)] [] (av_i x (am_c B 1) 3 (M.1 (am_c B' 1) 3)) ∧ av_fk 6 B x2 x ∧ av_rp x.1 B σ')
    (fun x o hPx => by
      obtain ⟨p1, p2⟩ := hPx
      refine ⟨x, ?_, p1, p2⟩
      have e : x.1 (am_c B' 1) 3 = M.1 (am_c B' 1) 3 := by rw [p1.2 _ _ _ (by decide) (by omega), f2.2 _ _ _ (by decide) (by omega), f1.2 _ _ _ (by decide) (by omega)]
      rw [ae_X1_take_24, if_pos (show (6 : Int32) ≤ nI 6 by decide)]
      simp only [ae_X1_take_0, ae_X1_take_4, ae_X1_take_8, ae_X1_take_11, ae_X1_take_15, ae_X1_take_19, ae_X1_take_22, ae_X1_take_30, ae_X1_take_34, ae_X1_take_36, ae_X1_take_40, ae_X1_take_42, ae_X1_take_45, ae_X1_take_51, ae_X1_take_67, ae_X1_take_71, ae_X1_take_73, ae_X1_take_77, ae_X1_take_79, ae_X1_take_82, ae_X1_take_88, e])
    (fun k x o hk hPx => by
      obtain ⟨p1, p2⟩ := hPx
      have rx : x.2 = M.2 := p1.1.trans r2
      have hin := am_in_n hk (by decide)
      have htn := am_tn (show k < 2147483648 by omega)
      obtain ⟨I, g1, g2, g3⟩ := ac_ptake (i := B + 10 + k) (i' := B' + 10 + k) (M := x) (by omega)
      have a2 : x.2.1 (am_c B 1) 2 = am_c (B + 8) 25 + 1 := by rw [rx]; exact w2
      have a2' : x.2.1 (am_c B' 1) 2 = am_c (B' + 8) 25 + 1 := by rw [rx]; exact v2
      have a9 : x.2.1 (am_c (B + 8) 25) k = am_c (B + 10 + k) 6 + 1 := by rw [rx]; exact w9 k hk
      have a9' : x.2.1 (am_c (B' + 8) 25) k = am_c (B' + 10 + k) 6 + 1 := by rw [rx]; exact v9 k hk
      refine ⟨(I, x.2), none, ⟨av_fk_t p1 ⟨rfl, fun c q j hq hc => g3 _ _ (am_c_ne hq (by decide) (by omega))⟩, ?_⟩, ?_⟩
      · intro p hp w hw
        by_cases hpk : p = k
        · rw [hpk]
          show I (am_c (B + 10 + k) 6) w = _
          rw [g2 w hw, p1.2 _ _ _ (by decide) (by omega), f2.2 _ _ _ (by decide) (by omega), f1.2 _ _ _ (by decide) (by omega)]
          exact hP' k hk w hw
        · show I (am_c (B + 10 + p) 6) w = _
          rw [g3 _ _ (am_c_ne (by decide) (by decide) (by omega))]
          exact p2 p (by omega) w hw
      · rw [ae_X1_take_24, if_neg (show ¬ (6 : Int32) ≤ nI k from nI_ge (b := 6) hk (by decide))]
        simp only [ae_X1_take_0, ae_X1_take_4, ae_X1_take_8, ae_X1_take_11, ae_X1_take_15, ae_X1_take_19, ae_X1_take_22, ae_X1_take_30, ae_X1_take_34, ae_X1_take_36, ae_X1_take_40, ae_X1_take_42, ae_X1_take_45, ae_X1_take_51, ae_X1_take_67, ae_X1_take_71, ae_X1_take_73, ae_X1_take_77, ae_X1_take_79, ae_X1_take_82, ae_X1_take_88, am_bnx_v, am_bnx_e, am_tl_s, am_tl_n, am_rv_s, am_add_rx, a2, a2', a9, a9', hin, htn, g1, nI_1])
    6 0 x2 none (by omega) ⟨av_fk_0, fun p hp => absurd hp (Nat.not_lt_zero _)⟩
  obtain ⟨x3, e3, f3, P3⟩ := k3
  have e3 : am_val iX1_take 24 [some (.ref (am_c B 1)), some (.ref (am_c (B') 1)), some (.int (nI 0))] [] x2 = am_val iX1_take 61 [some (.ref (am_c B 1)), some (.ref (am_c (B') 1)), some (.int 0)] [] (av_i x3 (am_c B 1) 3 (M.1 (am_c B' 1) 3)) := e3
  have r3 : x3.2 = M.2 := f3.1.trans r2
  obtain ⟨x4, hx4⟩ : ∃ x, x = av_i x3 (am_c B 1) 3 (M.1 (am_c B' 1) 3) := ⟨_, rfl⟩
  have f4 : av_fk 1 B x3 x4 := by rw [hx4]; exact av_fk_i (by decide) (by omega) (by omega)
  have r4 : x4.2 = M.2 := f4.1.trans r3
  -- what a cell outside of the block, or of kind 8 or 1, was
  have same : ∀ c k j, k < 64 → ((k ≠ 16 ∧ k ≠ 17 ∧ k ≠ 6 ∧ k ≠ 1) ∨ c < B ∨ B + 24 ≤ c) → x4.1 (am_c c k) j = M.1 (am_c c k) j := fun c k j hk h => by
    rw [f4.2 _ _ _ hk (by omega), f3.2 _ _ _ hk (by omega), f2.2 _ _ _ hk (by omega), f1.2 _ _ _ hk (by omega)]
  -- sounds
  have k5 := av_lpr (H := fun k (x : am_M) _ => am_val iX1_take 61 [some (.ref (am_c B 1)), some (.ref (am_c (B') 1)), some (.int (nI k))] [] x)
    (P := fun k x => av_fk 8 B x4 x ∧ (∀ q, q < k → ∀ w, w < 5 → x.1 (am_c (rm q) 8) w = M.1 (am_c (rm' q) 8) w) ∧ (∀ a, B + 16 ≤ a → a < B + 24 → x.1 (am_c a 8) 1 = 0 ∨ x.1 (am_c a 8) 1 = 1)) (N := 8)
    (Q := fun t => ∃ x x', t = some (.inl none, x', 0, 0) ∧ av_fk 8 B x4 x ∧ (∀ q, q < 8 → ∀ w, w < 5 → x.1 (am_c (rm q) 8) w = M.1 (am_c (rm' q) 8) w) ∧ (∀ a, B + 16 ≤ a → a < B + 24 → x.1 (am_c a 8) 1 = 0 ∨ x.1 (am_c a 8) 1 = 1) ∧ x' = av_i (av_i (av_i (av_i (av_i (av_i (av_i (av_i x (am_c B 1) 5 (x.1 (am_c B' 1) 5)) (am_c B 1) 6 (x.1 (am_c B' 1) 6)) (am_c B 1) 7 (x.1 (am_c B' 1) 7)) (am_c B 1) 8 (x.1 (am_c B' 1) 8)) (am_c B 1) 9 (x.1 (am_c B' 1) 9)) (am_c B 1) 10 (x.1 (am_c B' 1) 10)) (am_c B 1) 11 (x.1 (am_c B' 1) 11)) (am_c B 1) 12 (x.1 (am_c B' 1) 12))
    (fun x o hPx => by
      obtain ⟨p1, p2, p3⟩ := hPx
      have e : ∀ (X : am_M) f v g, (av_i X (am_c B 1) f v).1 (am_c B' 1) g = X.1 (am_c B' 1) g := fun X f v g => am_up_a (am_c_ne (by decide) (by decide) (by omega))
      refine ⟨x, _, ?_, p1, p2, p3, rfl⟩
      rw [ae_X1_take_61, if_pos (show (8 : Int32) ≤ nI 8 by decide)]
      simp only [ae_X1_take_0, ae_X1_take_4, ae_X1_take_8, ae_X1_take_11, ae_X1_take_15, ae_X1_take_19, ae_X1_take_22, ae_X1_take_30, ae_X1_take_34, ae_X1_take_36, ae_X1_take_40, ae_X1_take_42, ae_X1_take_45, ae_X1_take_51, ae_X1_take_67, ae_X1_take_71, ae_X1_take_73, ae_X1_take_77, ae_X1_take_79, ae_X1_take_82, ae_X1_take_88, e])
    (fun k x o hk hPx => by
      obtain ⟨p1, p2, p3⟩ := hPx
      have rx : x.2 = M.2 := p1.1.trans r4
      have hin := am_in_n hk (by decide)
      have htn := am_tn (show k < 2147483648 by omega)
      have b1 := hpr.1 k hk
      have b2 := hpr'.1 k hk
      have src : ∀ w, x.1 (am_c (rm' k) 8) w = M.1 (am_c (rm' k) 8) w := fun w => by rw [p1.2 _ _ _ (by decide) (by omega), same _ _ _ (by decide) (by omega)]
      have hb : x.1 (am_c (rm' k) 8) 1 = 0 ∨ x.1 (am_c (rm' k) 8) 1 = 1 := by rw [src]; exact hB' _ b2.1 b2.2
      obtain ⟨I, g1, g2, g3⟩ := ac_stake (i := rm k) (i' := rm' k) (M := x) (by omega) hb
      have a4 : x.2.1 (am_c B 1) 4 = am_c (B + 9) 26 + 1 := by rw [rx]; exact w3
      have a4' : x.2.1 (am_c B' 1) 4 = am_c (B' + 9) 26 + 1 := by rw [rx]; exact v3
      have a9 : x.2.1 (am_c (B + 9) 26) k = am_c (rm k) 8 + 1 := by rw [rx]; exact hrm k hk
      have a9' : x.2.1 (am_c (B' + 9) 26) k = am_c (rm' k) 8 + 1 := by rw [rx]; exact hrm' k hk
      refine ⟨(I, x.2), none, ⟨av_fk_t p1 ⟨rfl, fun c q j hq hc => g3 _ _ (am_c_ne hq (by decide) (by omega))⟩, ?_, ?_⟩, ?_⟩
      · intro q hq w hw
        by_cases hqk : q = k
        · rw [hqk]
          show I (am_c (rm k) 8) w = _
          rw [g2 w hw, src]
        · have hne : ¬ rm q = rm k := fun h => hqk (hpr.2 q k (by omega) hk h)
          show I (am_c (rm q) 8) w = _
          rw [g3 _ _ (am_c_ne (by decide) (by decide) (fun h => hne h.1))]
          exact p2 q (by omega) w hw
      · intro a ha1 ha2
        by_cases hak : a = rm k
        · rw [hak]
          show I (am_c (rm k) 8) 1 = 0 ∨ I (am_c (rm k) 8) 1 = 1
          rw [g2 1 (by decide)]
          exact hb
        · show I (am_c a 8) 1 = 0 ∨ I (am_c a 8) 1 = 1
          rw [g3 _ _ (am_c_ne (by decide) (by decide) (fun h => hak h.1))]
          exact p3 a ha1 ha2
      · rw [ae_X1_take_61, if_neg (show ¬ (8 : Int32) ≤ nI k from nI_ge (b := 8) hk (by decide))]
        simp only [ae_X1_take_0, ae_X1_take_4, ae_X1_take_8, ae_X1_take_11, ae_X1_take_15, ae_X1_take_19, ae_X1_take_22, ae_X1_take_30, ae_X1_take_34, ae_X1_take_36, ae_X1_take_40, ae_X1_take_42, ae_X1_take_45, ae_X1_take_51, ae_X1_take_67, ae_X1_take_71, ae_X1_take_73, ae_X1_take_77, ae_X1_take_79, ae_X1_take_82, ae_X1_take_88, am_bnx_v, am_bnx_e, am_tl_s, am_tl_n, am_rv_s, am_add_rx, a4, a4', a9, a9', hin, htn, g1, nI_1])
    8 0 x4 none (by omega) ⟨av_fk_0, fun p hp => absurd hp (Nat.not_lt_zero _), fun a h1 h2 => by rw [same _ _ _ (by decide) (by omega)]; exact hB a h1 h2⟩
  obtain ⟨x5, x6, e5, f5, S5, B5, hx6⟩ := k5
  have e5 : am_val iX1_take 61 [some (.ref (am_c B 1)), some (.ref (am_c (B') 1)), some (.int (nI 0))] [] x4 = some (.inl none, x6, 0, 0) := e5
  have f6 : av_fk 1 B x5 x6 := by
    rw [hx6]
    iterate 7 refine av_fk_t ?_ (av_fk_i (by decide) (by omega) (by omega))
    exact av_fk_i (by decide) (by omega) (by omega)
  have s5 : ∀ f, x5.1 (am_c B' 1) f = M.1 (am_c B' 1) f := fun f => by rw [f5.2 _ _ _ (by decide) (by omega), same _ _ _ (by decide) (by omega)]
  have hr6 : x6.2 = M.2 := f6.1.trans (f5.1.trans r4)
  have fr6 : av_fr M x6 B := av_fr_t (av_fk_fr f1) (av_fr_t (av_fk_fr f2) (av_fr_t (av_fk_fr f3) (av_fr_t (av_fk_fr f4) (av_fr_t (av_fk_fr f5) (av_fk_fr f6)))))
  have ln : ∀ f, f = 3 ∨ (5 ≤ f ∧ f ≤ 12) → x6.1 (am_c B 1) f = M.1 (am_c B' 1) f := by
    intro f hf
    rw [hx6]
    rcases hf with rfl | hf
    · simp only [av_i1, am_up, s5]
      have : x5.1 (am_c B 1) 3 = M.1 (am_c B' 1) 3 := by
        rw [f5.2 _ _ _ (by decide) (by omega), hx4]
        show am_up x3.1 (am_c B 1) 3 (M.1 (am_c B' 1) 3) (am_c B 1) 3 = _
        exact am_up_s
      simpa using this
    · rcases (show f = 5 ∨ f = 6 ∨ f = 7 ∨ f = 8 ∨ f = 9 ∨ f = 10 ∨ f = 11 ∨ f = 12 by omega) with rfl | rfl | rfl | rfl | rfl | rfl | rfl | rfl <;> simp [av_i1, am_up, s5]
  have e0 : am_val iX1_take 0 [some (.ref (am_c B 1)), some (.ref (am_c (B') 1)), none] [] M = some (.inl none, x6, 0, 0) := by
    have b1 : x1.2.1 (am_c B 1) 1 = am_c (B + 4) 9 + 1 := by rw [r1]; exact w1
    have b2 : x1.2.1 (am_c B' 1) 1 = am_c (B' + 4) 9 + 1 := by rw [r1]; exact v1
    rw [nI_0] at e3 e5
    rw [← hx4, e5] at e3
    simp only [ae_X1_take_0, ae_X1_take_4, ae_X1_take_8, ae_X1_take_11, ae_X1_take_15, ae_X1_take_19, ae_X1_take_22, ae_X1_take_30, ae_X1_take_34, ae_X1_take_36, ae_X1_take_40, ae_X1_take_42, ae_X1_take_45, ae_X1_take_51, ae_X1_take_67, ae_X1_take_71, ae_X1_take_73, ae_X1_take_77, ae_X1_take_79, ae_X1_take_82, ae_X1_take_88, am_bnx_v, am_bnx_e, am_tl_s, am_tl_n, am_rv_s, am_add_rx, w0, v0, e1, b1, b2, e2, e3]
  refine ⟨x6, e0, ⟨⟨by rw [hr6]; exact ⟨w0, w1, w2, w3, w4, w5, w6, w7, w8, w9⟩, by rw [hr6]; exact hrm, hpr⟩, ⟨hnp', hs0', hln', ?_⟩, ?_, ?_, ?_, ?_, ?_, ?_⟩, fr6, hr6⟩
  · rw [ln 5 (by decide)]; exact hct'
  · intro p hp
    have g : ∀ q j, x6.1 (am_c q 16) j = x1.1 (am_c q 16) j := fun q j => by rw [f6.2 _ _ _ (by decide) (by omega), f5.2 _ _ _ (by decide) (by omega), f4.2 _ _ _ (by decide) (by omega), f3.2 _ _ _ (by decide) (by omega), f2.2 _ _ _ (by decide) (by omega)]
    rw [g, g]
    exact W1 p hp
  · intro t ht
    have g : ∀ q j, x6.1 (am_c q 17) j = x2.1 (am_c q 17) j := fun q j => by rw [f6.2 _ _ _ (by decide) (by omega), f5.2 _ _ _ (by decide) (by omega), f4.2 _ _ _ (by decide) (by omega), f3.2 _ _ _ (by decide) (by omega)]
    rw [g, g, g]
    exact T2 t ht
  · obtain ⟨n0, n2, n3, n4, n5, n6, n8, n7⟩ := hN'
    exact ⟨(ln 3 (by decide)).trans n0, (ln 6 (by decide)).trans n2, (ln 7 (by decide)).trans n3, (ln 8 (by decide)).trans n4, (ln 9 (by decide)).trans n5, (ln 10 (by decide)).trans n6, (ln 11 (by decide)).trans n8, (ln 12 (by decide)).trans n7⟩
  · intro p hp w hw
    rw [f6.2 _ _ _ (by decide) (by omega), f5.2 _ _ _ (by decide) (by omega), f4.2 _ _ _ (by decide) (by omega)]
    exact P3 p hp w hw
  · intro k hk
    have g : ∀ w, w < 5 → x6.1 (am_c (rm k) 8) w = M.1 (am_c (rm' k) 8) w := fun w hw => by rw [f6.2 _ _ _ (by decide) (by omega)]; exact S5 k (by omega) w hw
    obtain ⟨a0, a1, a2, a3, a4⟩ := hS' k hk
    exact ⟨(g 0 (by decide)).trans a0, (g 2 (by decide)).trans a1, (g 3 (by decide)).trans a2, (g 4 (by decide)).trans a3, (g 1 (by decide)).trans a4⟩
  · intro a h1 h2
    rw [f6.2 _ _ _ (by decide) (by omega)]
    exact B5 a h1 h2
