/-! the second implementation: a text is read -/
def av_mt (D : Nat) (M : am_M) (n : Nat) (T : Nat → Int32) (p : Nat) (w : Bool) (k : Nat) : Prop := (M.2.1 (am_c D 13) 7 = am_c (D + 5) 20 + 1 ∧ M.2.1 (am_c D 13) 8 = am_c (D + 6) 21 + 1) ∧ n ≤ 60 ∧ (∀ j, j < n → M.1 (am_c (D + 5) 20) j = T j) ∧ M.1 (am_c D 13) 24 = nI n ∧ M.1 (am_c D 13) 23 = nI p ∧ M.1 (am_c D 13) 26 = am_bi w ∧ M.1 (am_c D 13) 25 = nI k
/-- only the place and whether it is wrong are changed -/
def av_mf (D : Nat) (M X : am_M) : Prop := X.2 = M.2 ∧ ∀ c k j, k < 64 → ¬ (c = D ∧ k = 13 ∧ (j = 23 ∨ j = 26)) → X.1 (am_c c k) j = M.1 (am_c c k) j
theorem av_mf_0 {D : Nat} {M : am_M} : av_mf D M M := ⟨rfl, fun _ _ _ _ _ => rfl⟩
theorem av_mf_t {D : Nat} {M X Y : am_M} (h : av_mf D M X) (h' : av_mf D X Y) : av_mf D M Y := ⟨h'.1.trans h.1, fun c k j hk a => (h'.2 c k j hk a).trans (h.2 c k j hk a)⟩
theorem av_mf_i {D j : Nat} {M : am_M} {x : Int32} (hj : j = 23 ∨ j = 26) : av_mf D M (av_i M (am_c D 13) j x) := ⟨rfl, fun c k j' hk a => am_up_ak (fun hh => a (by
  have e := hh.1
  rw [am_c_inj hk (by decide)] at e
  exact ⟨e.1, e.2, by omega⟩))⟩
theorem av_mt_f {D n p p' k : Nat} {T : Nat → Int32} {w w' : Bool} {M X : am_M} (h : av_mt D M n T p w k) (f : av_mf D M X) (hp : X.1 (am_c D 13) 23 = nI p') (hw : X.1 (am_c D 13) 26 = am_bi w') : av_mt D X n T p' w' k := by
  obtain ⟨⟨h1, h2⟩, h3, h4, h5, h6, h7, h8⟩ := h
  exact ⟨⟨by rw [f.1]; exact h1, by rw [f.1]; exact h2⟩, h3, fun j hj => (f.2 _ _ _ (by decide) (by omega)).trans (h4 j hj), (f.2 _ _ _ (by decide) (by omega)).trans h5, hp, hw, (f.2 _ _ _ (by decide) (by omega)).trans h8⟩
theorem av_mt_i {D n p k : Nat} {T : Nat → Int32} {w w' : Bool} {M : am_M} (h : av_mt D M n T p w k) : av_mt D (av_i M (am_c D 13) 26 (am_bi w')) n T p w' k :=
  av_mt_f h (av_mf_i (Or.inr rfl)) (by rw [av_jK (by decide)]; exact h.2.2.2.2.1) av_jS
