/-! the second implementation: the eight orders, told from outside -/
theorem av_y2_f {D : Nat} {M X : am_M} {H : List av_K} (h : av_y2 D M H) (h1 : X.1 (am_c D 13) 5 = M.1 (am_c D 13) 5) (h2 : X.1 (am_c (D + 4) 19) = M.1 (am_c (D + 4) 19)) : av_y2 D X H := by
  unfold av_y2
  rw [h1, h2]
  exact h
theorem av_y3_f {D : Nat} {M X : am_M} {P : Option av_K} (h : av_y3 D M P) (h1 : X.1 (am_c D 13) 6 = M.1 (am_c D 13) 6) (h2 : X.1 (am_c (D + 3) 18) = M.1 (am_c (D + 3) 18)) : av_y3 D X P := by
  unfold av_y3
  rw [h1, h2]
  exact h
theorem av_y4_f {D : Nat} {M X : am_M} {q : Int32 × Int32 × Int32} (h : av_y4 D M q) (h1 : X.1 (am_c D 13) 13 = M.1 (am_c D 13) 13) (h2 : X.1 (am_c D 13) 14 = M.1 (am_c D 13) 14) (h3 : X.1 (am_c D 13) 15 = M.1 (am_c D 13) 15) : av_y4 D X q := by
  unfold av_y4
  rw [h1, h2, h3]
  exact h
theorem av_y5_f {D n : Nat} {M X : am_M} {T : Nat → Int32} {f : Int32} (h : av_y5 D M n T f) (h1 : X.1 (am_c D 13) 10 = M.1 (am_c D 13) 10) (h2 : X.1 (am_c D 13) 12 = M.1 (am_c D 13) 12) (h3 : X.1 (am_c (D + 5) 20) = M.1 (am_c (D + 5) 20)) : av_y5 D X n T f := by
  unfold av_y5
  rw [h1, h2, h3]
  exact h
theorem av_y6_f {D : Nat} {M X : am_M} {l : List Int32} (h : av_y6 D M l) (h1 : X.1 (am_c D 13) 11 = M.1 (am_c D 13) 11) (h2 : X.1 (am_c (D + 7) 20) = M.1 (am_c (D + 7) 20)) : av_y6 D X l := by
  unfold av_y6
  rw [h1, h2]
  exact h
/-- only what is passing is changed: thrown, about and behind, the frame, what is told -/
def av_ys (D : Nat) (M X : am_M) : Prop := X.2 = M.2 ∧ ∀ c k j, k < 64 → ¬ (c = D ∧ k = 13 ∧ (j = 0 ∨ 16 ≤ j)) → ¬ (c = D + 2 ∧ k = 18) → ¬ (c = D + 6 ∧ k = 21) → X.1 (am_c c k) j = M.1 (am_c c k) j
theorem av_ys_0 {D : Nat} {M : am_M} : av_ys D M M := ⟨rfl, fun _ _ _ _ _ _ _ => rfl⟩
theorem av_ys_t {D : Nat} {M X Y : am_M} (h : av_ys D M X) (h' : av_ys D X Y) : av_ys D M Y := ⟨h'.1.trans h.1, fun c k j hk a b d => (h'.2 c k j hk a b d).trans (h.2 c k j hk a b d)⟩
theorem av_ys_i {D j : Nat} {x : Int32} {M : am_M} (hj : j = 0 ∨ 16 ≤ j) : av_ys D M (av_i M (am_c D 13) j x) := ⟨rfl, fun c k j' hk a _ _ => am_up_ak (fun hh => a (by
  have e := hh.1
  rw [am_c_inj hk (by decide)] at e
  exact ⟨e.1, e.2, by omega⟩))⟩
theorem av_ys_fs {D : Nat} {M X : am_M} (h : av_fs D M X) : av_ys D M X := ⟨h.1, fun c k j hk a _ _ => h.2 c k j hk (fun hh => a ⟨hh.1, hh.2.1, by omega⟩)⟩
theorem av_ys_fy {D : Nat} {M X : am_M} (hD : 274 ≤ D) (h : av_ys D M X) : av_fy M X := ⟨h.1, fun c k j hk a => h.2 c k j hk (by omega) (by omega) (by omega)⟩
theorem av_ys_r {D : Nat} {M X : am_M} (h : av_ys D M X) {a k : Nat} (hk : k < 64) (h1 : ¬ (a = D ∧ k = 13)) (h2 : ¬ (a = D + 2 ∧ k = 18)) (h3 : ¬ (a = D + 6 ∧ k = 21)) : X.1 (am_c a k) = M.1 (am_c a k) :=
  funext fun j => h.2 a k j hk (fun hh => h1 ⟨hh.1, hh.2.1⟩) h2 h3
theorem av_ys_d {D : Nat} {M X : am_M} (h : av_ys D M X) {j : Nat} (h1 : j ≠ 0) (h2 : j < 16) : X.1 (am_c D 13) j = M.1 (am_c D 13) j := h.2 D 13 j (by decide) (by omega) (by omega) (by omega)
theorem av_ref_ne {σ : Nat → Int32} {L : List (Nat → Int32)} {c : Nat} {a b x y : Int32} (h : av_ref σ L c a b = some (x, y)) : ¬ x = 0 := by
  unfold av_ref at h
  split at h
  · unfold av_q0 at h
    repeat' split at h
    all_goals first | (cases h; done) | (cases h; decide)
  · unfold av_q1 at h
    repeat' split at h
    all_goals first | (cases h; done) | (cases h; decide)
  · unfold av_q2 at h
    repeat' split at h
    all_goals first | (cases h; done) | (cases h; decide)
  · unfold av_q3 at h
    repeat' split at h
    all_goals first | (cases h; done) | (cases h; decide)
  · unfold av_q4 at h
    repeat' split at h
    all_goals first | (cases h; done) | (cases h; decide)
  · unfold av_q5 at h
    repeat' split at h
    all_goals first | (cases h; done) | (cases h; decide)
  · unfold av_q6 at h
    repeat' split at h
    all_goals first | (cases h; done) | (cases h; decide)
  · unfold av_q7 at h
    repeat' split at h
    all_goals first | (cases h; done) | (cases h; decide)
