/-! the second implementation: rows that are copied -/
theorem av_cp {H : Nat → am_M → am_T} {N D1 K1 : Nat} {M : am_M} {f : Nat → Int32} (hK : K1 < 64) (hstep : ∀ k X, k < N → X.2 = M.2 → (∀ c q j, q < 64 → ¬ (c = D1 ∧ q = K1) → X.1 (am_c c q) j = M.1 (am_c c q) j) → H k X = H (k + 1) (av_i X (am_c D1 K1) k (f k))) :
    ∃ X, H 0 M = H N X ∧ X.2 = M.2 ∧ (∀ j, X.1 (am_c D1 K1) j = if j < N then f j else M.1 (am_c D1 K1) j) ∧ ∀ c q j, q < 64 → ¬ (c = D1 ∧ q = K1) → X.1 (am_c c q) j = M.1 (am_c c q) j :=
  av_lpr (H := fun k (X : am_M) _ => H k X)
    (P := fun k X => X.2 = M.2 ∧ (∀ j, X.1 (am_c D1 K1) j = if j < k then f j else M.1 (am_c D1 K1) j) ∧ ∀ c q j, q < 64 → ¬ (c = D1 ∧ q = K1) → X.1 (am_c c q) j = M.1 (am_c c q) j) (N := N)
    (Q := fun t => ∃ X, t = H N X ∧ X.2 = M.2 ∧ (∀ j, X.1 (am_c D1 K1) j = if j < N then f j else M.1 (am_c D1 K1) j) ∧ ∀ c q j, q < 64 → ¬ (c = D1 ∧ q = K1) → X.1 (am_c c q) j = M.1 (am_c c q) j)
    (fun X o hP => ⟨X, rfl, hP⟩)
    (fun k X o hk hP => by
      obtain ⟨p1, p2, p3⟩ := hP
      refine ⟨av_i X (am_c D1 K1) k (f k), none, ⟨p1, ?_, ?_⟩, hstep k X hk p1 p3⟩
      · intro j
        rw [av_is]
        by_cases hj : j = k
        · rw [hj, av_up_s, if_pos (by omega)]
        · rw [av_up_n hj, p2]
          by_cases ha : j < k
          · rw [if_pos ha, if_pos (by omega)]
          · rw [if_neg ha, if_neg (by omega)]
      · intro c q j hq hn
        rw [← p3 c q j hq hn]
        exact am_up_a (am_c_ne hq hK hn))
    N 0 M none (by omega) ⟨rfl, fun j => by rw [if_neg (Nat.not_lt_zero _)], fun _ _ _ _ _ => rfl⟩
