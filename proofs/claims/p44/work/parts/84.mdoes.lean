/-! the second implementation: the orders of a text are done -/
theorem av_td_fm {D i : Nat} {q : tx_Q} {M X : am_M} (h : av_td D M i q) (g : av_fm D M X) : av_td D X i q := by
  have e : ∀ j, X.1 (am_c (D + 6) 21) j = M.1 (am_c (D + 6) 21) j := fun j => g.2 _ _ _ (by decide) (by omega) (by omega)
  unfold av_td
  rw [e, e, e, e]
  exact h
theorem av_fm_d {D j : Nat} {M X : am_M} (g : av_fm D M X) (hj : j < 16 ∨ 22 < j) : X.1 (am_c D 13) j = M.1 (am_c D 13) j := g.2 D 13 j (by decide) (by omega) (by omega)
theorem av_fm_r {D a k : Nat} {M X : am_M} (g : av_fm D M X) (hk : k < 64) (h1 : ¬ (a = D ∧ k = 13)) (h2 : ¬ (a = D + 1 ∧ k = 18)) : X.1 (am_c a k) = M.1 (am_c a k) := funext fun j => g.2 a k j hk (fun hh => h1 ⟨hh.1, hh.2.1⟩) h2
