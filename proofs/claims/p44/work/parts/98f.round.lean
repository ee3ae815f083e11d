/-! one round of the law -/
section
variable {Lx bd : Nat} {xs : Nat → Int32} {S : Nat → Int64} {σ : Nat → Int32} {L : List (Nat → Int32)} {H : List av_K} {P : Option av_K}
def S_up (S : Nat → Int64) (m : Nat) (v : Int64) (j : Nat) : Int64 := if j = m then v else S j
theorem pZ_l {m : Nat} {v : Int64} {M : am_M} (hZ : pZ Lx xs S bd σ L H P M) : pZ Lx xs (S_up S m v) bd σ L H P (av_l M (am_c 274 27) m v) := by
  obtain ⟨⟨h1, h2, h3, h4⟩, hS, q, T, f, l, hx⟩ := hZ
  refine ⟨⟨h1, h2, fun j => ?_, h4⟩, hS, q, T, f, l, av_x_l hx⟩
  show am_up M.2.2.1 (am_c 274 27) m v (am_c 274 27) j = S_up S m v j
  rw [am_up_at]
  dsimp only
  unfold S_up
  by_cases e : j = m
  · rw [if_pos e, if_pos e]
  · rw [if_neg e, if_neg e]
    exact h3 j
theorem pu_h {H : List av_K} {s : av_K} {j : Nat} (hl : H.length ≤ 8) (hj : j < (av_pu H s).length) : (H.length = 8 ∧ j < 7 ∧ av_h (av_pu H s) j = av_h H (j + 1)) ∨ (H.length < 8 ∧ j < H.length ∧ av_h (av_pu H s) j = av_h H j) ∨ (j + 1 = (av_pu H s).length ∧ av_h (av_pu H s) j = s) := by
  have e := av_pu_e (s := s) hl
  rw [av_pu_l hl] at hj e
  by_cases h8 : H.length = 8
  · rw [if_pos h8] at hj e
    by_cases h7 : j = 7
    · refine Or.inr (Or.inr ⟨by rw [av_pu_l hl, if_pos h8]; omega, ?_⟩)
      rw [h7]
      exact e
    · refine Or.inl ⟨h8, by omega, ?_⟩
      unfold av_h av_pu
      rw [if_pos h8, List.getD_eq_getElem?_getD, List.getD_eq_getElem?_getD, List.getElem?_append_left (by rw [List.length_drop]; omega), List.getElem?_drop, Nat.add_comm]
  · rw [if_neg h8] at hj e
    by_cases h7 : j = H.length
    · refine Or.inr (Or.inr ⟨by rw [av_pu_l hl, if_neg h8]; omega, ?_⟩)
      rw [h7]
      exact e
    · refine Or.inr (Or.inl ⟨by omega, by omega, ?_⟩)
      unfold av_h av_pu
      rw [if_neg h8, List.getD_eq_getElem?_getD, List.getD_eq_getElem?_getD, List.getElem?_append_left (by omega)]
theorem hk_up {made : Nat} {σ' : Nat → Int32} {L' : List (Nat → Int32)} (h : hk S made σ L H) : hk (S_up S (made + 1) (su_e σ' L')) (made + 1) σ' L' (av_pu H (σ, L)) := by
  obtain ⟨h1, h2, h3⟩ := h
  have hl : H.length ≤ 8 := by omega
  have hp := av_pu_l (s := (σ, L)) hl
  refine ⟨?_, fun j hj => ?_, if_pos rfl⟩
  · rw [hp]
    split <;> omega
  · have hne : ∀ i, i ≤ made → S_up S (made + 1) (su_e σ' L') i = S i := fun i hi => if_neg (by omega)
    rcases pu_h hl hj with ⟨a1, a2, a3⟩ | ⟨a1, a2, a3⟩ | ⟨a1, a3⟩
    · rw [hp, if_pos a1, a3, hne _ (by omega), show made + 1 - 8 + j = made - H.length + (j + 1) by omega]
      exact h2 _ (by omega)
    · rw [hp, if_neg (by omega), a3, hne _ (by omega), show made + 1 - (H.length + 1) + j = made - H.length + j by omega]
      exact h2 _ a2
    · rw [a3, hne _ (by rw [hp] at a1 ⊢; split at a1 <;> split <;> omega), show made + 1 - (av_pu H (σ, L)).length + j = made by rw [hp] at a1 ⊢; split at a1 <;> split <;> omega]
      exact h3
/-- from the look at all on -/
theorem lr_360 {n made : Nat} {x9 x10 x11 x12 x13 x14 x15 x16 x17 x18 x19 x20 x21 : Int32} {σ2 : Nat → Int32} {L2 : List (Nat → Int32)} {H2 : List av_K} {K : Nat} {Q : Option Value → am_M → Prop} {M : am_M} (hn : n < 50) (hm : made ≤ n) (hh : hk S made σ L H) (hLx : Lx ≤ 260) (hbd : bd < 200000000) (hi2 : iw (bd + 1240) σ2) (hZ : pZ Lx xs S (bd + 1240) σ2 L2 H2 P M)
    (hc : (¬ -74 < x19 ∧ σ2 = σ ∧ L2 = L ∧ H2 = H) ∨ (-74 < x19 ∧ H2 = av_pu H (σ, L)))
    (h : ∀ (S' : Nat → Int64) (made' : Nat) (σ' : Nat → Int32) (L' : List (Nat → Int32)) (H' : List av_K) o6 o8 o9 o10 o11 o12 o13 o14 o15 o16 o17 o18 o19 o20 o21 M', made' ≤ n + 1 → hk S' made' σ' L' H' → iw (bd + 1240) σ' → pZ Lx xs S' (bd + 1240) σ' L' H' P M' → wq (am_val iL_law 28 [some (.ref (am_c 0 44)), some (.ref (am_c 0 12)), some (.ref (am_c 274 27)), some (.int (nI made')), some (.int (nI (5 * (n + 1)))), some (.int (nI (n + 1))), o6, none, o8, o9, o10, o11, o12, o13, o14, o15, o16, o17, o18, o19, o20, o21] [] M') K Q) :
    wq (am_val iL_law 360 [some (.ref (am_c 0 44)), some (.ref (am_c 0 12)), some (.ref (am_c 274 27)), some (.int (nI made)), some (.int (nI (5 * (n + 1)))), some (.int (nI n)), some (.long (su_e σ L)), none, some (.int (nI H.length)), some (.int x9), some (.int x10), some (.int x11), some (.int x12), some (.int x13), some (.int x14), some (.int x15), some (.int x16), some (.int x17), some (.int x18), some (.int x19), some (.int x20), some (.int x21)] [] M) (920 + K) Q := by
  have h385 : ∀ M, pZ Lx xs S (bd + 1240) σ2 L2 H2 P M → wq (am_val iL_law 385 [some (.ref (am_c 0 44)), some (.ref (am_c 0 12)), some (.ref (am_c 274 27)), some (.int (nI made)), some (.int (nI (5 * (n + 1)))), some (.int (nI n)), some (.long (su_e σ L)), none, some (.int (nI H.length)), some (.int x9), some (.int x10), some (.int x11), some (.int x12), some (.int x13), some (.int x14), some (.int x15), some (.int x16), some (.int x17), some (.int x18), some (.int x19), some (.int x20), some (.int x21)] [] M) (210 + K) Q := fun M hZ => by
    rw [ae_L_law_385]
    rcases hc with ⟨c1, rfl, rfl, rfl⟩ | ⟨c1, rfl⟩
    · rw [if_neg c1, ae_L_law_392]
      refine wq_l (lq_sum hZ) (by omega) fun M1 hZ1 => ?_
      simp only [am_tl_s]
      rw [ae_L_law_396, if_neg (not_not_intro (lg_0 _)), ae_L_law_402]
      refine wq_i (lq_acc10 hZ1) (by omega) fun M2 hZ2 => ?_
      simp only [am_tl_s]
      rw [ae_L_law_408, if_neg (not_not_intro rfl), ae_L_law_413]
      refine wq_i (lq_acc (a := 0) hZ2 rfl) (by omega) fun M3 hZ3 => ?_
      simp only [am_tl_s]
      rw [ae_L_law_419, if_pos rfl, ae_L_law_434, nI_1]
      exact wq_k (h S made σ2 L2 H2 _ _ _ _ _ _ _ _ _ _ _ _ _ _ _ M3 (by omega) hh hi2 hZ3) (by omega)
    · rw [if_pos c1, ae_L_law_424]
      refine wq_l (lq_sum hZ) (by omega) fun M1 hZ1 => ?_
      simp only [am_tl_s]
      rw [nI_1]
      have hin : am_in (nI (made + 1)) 60 = true := am_in_n (by omega) (by decide)
      rw [ae_L_law_433 hin, am_tn (by omega), nI_1]
      exact wq_k (h _ (made + 1) σ2 L2 _ _ _ _ _ _ _ _ _ _ _ _ _ _ _ _ _ (by omega) (hk_up hh) hi2 (pZ_l hZ1)) (by omega)
  rw [ae_L_law_360]
  by_cases q : ¬ nI n - nI n / 4 * 4 = 3
  · rw [if_pos q, ae_L_law_376]
    refine wq_i (lq_isWhole (j := 5 * (n + 1)) rfl (by omega) (Or.inl rfl) hLx hi2 (by omega) hZ) (by omega) fun M1 hZ1 => ?_
    simp only [am_tl_s]
    rw [ae_L_law_380, if_pos (by decide)]
    exact wq_k (h385 M1 hZ1) (by omega)
  · rw [if_neg q, ae_L_law_372]
    refine wq_i (lq_isWhole (j := 5 * (n + 1)) rfl (by omega) (Or.inr rfl) hLx hi2 (by omega) hZ) (by omega) fun M1 hZ1 => ?_
    simp only [am_tl_s]
    rw [ae_L_law_380, if_pos (by decide)]
    exact wq_k (h385 M1 hZ1) (by omega)
end
