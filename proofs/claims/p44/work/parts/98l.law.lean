/-! THE LAW, in the abstract machine -/
def am_M0 (L : Nat) (xs : Nat → Int32) : am_M := (fun _ _ => 0, fun _ _ => 0, fun _ _ => 0, fun _ _ => 0, 0, L, xs)
theorem am_law (L : Nat) (xs : Nat → Int32) (hL : L ≤ 260) : ∃ (F : Nat) (M1 : am_M) (k sl : Nat), am_run F 11 iL_law 0 (am_ent iL_law [.ref 44]) [] (am_M0 L xs) = some (.inl (some (.int 1)), M1, k, sl) ∧ k ≤ 64000 ∧ sl ≤ 3900000 := by
  obtain ⟨M1, k, sl, e, hk, hs⟩ := c1_end L xs hL
  obtain ⟨F, h⟩ := am_law_of e
  exact ⟨F, M1, k, sl, h, hk, hs⟩
