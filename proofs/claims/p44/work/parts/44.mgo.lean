/-! the second implementation: a sound is led on -/
def am_ms (I : Nat → Nat → Int32) (D : Nat) (s : Nat → Int32) : Prop := I (am_c D 13) 18 = s 0 ∧ I (am_c D 13) 19 = s 1 ∧ I (am_c D 13) 20 = s 4 ∧ I (am_c D 13) 21 = s 3
def av_fs (D : Nat) (M M' : am_M) : Prop := M'.2 = M.2 ∧ ∀ x k j, k < 64 → ¬ (x = D ∧ k = 13 ∧ 18 ≤ j ∧ j ≤ 22) → M'.1 (am_c x k) j = M.1 (am_c x k) j
theorem av_fs_fm {D : Nat} {M x : am_M} (h : av_fs D M x) : av_fm D M x := ⟨h.1, fun a k j h1 h2 _ => h.2 a k j h1 (fun hh => h2 ⟨hh.1, hh.2.1, by omega, hh.2.2.2⟩)⟩
theorem av_fs_t {D : Nat} {M x y : am_M} (h : av_fs D M x) (h' : av_fs D x y) : av_fs D M y := ⟨h'.1.trans h.1, fun a k j h1 h2 => (h'.2 a k j h1 h2).trans (h.2 a k j h1 h2)⟩
theorem av_fs_f {D f : Nat} {x : Int32} {M : am_M} (h1 : 18 ≤ f) (h2 : f ≤ 22) : av_fs D M (av_i M (am_c D 13) f x) := ⟨rfl, fun c k j hk h => by
  show am_up M.1 (am_c D 13) f x (am_c c k) j = _
  refine am_up_ak (fun hh => h ?_)
  have e := hh.1
  rw [am_c_inj hk (by decide)] at e
  exact ⟨e.1, e.2, by omega, by omega⟩⟩
theorem av_lft : ∀ a, a < 21 → ∀ b, b < 10 → ¬ nI a ≤ 0 → (nI b ≤ 0 ∨ nI b < nI a / 3) → ¬ nI a - nI b = 0 := by decide +kernel
theorem av_lsn {w d : Int32} (hw : am_wt w (-2) 2 = true) : ∃ c, 1 ≤ c ∧ c ≤ 4 ∧ av_ls w d = nI c := by
  simp only [am_wt, Bool.and_eq_true, decide_eq_true_eq] at hw
  have h1 := Int32.le_iff_toInt_le.mp hw.1
  have h2 := Int32.le_iff_toInt_le.mp hw.2
  rw [show (-2 : Int32).toInt = -2 by decide] at h1
  rw [show (2 : Int32).toInt = 2 by decide] at h2
  have hx : w = -2 ∨ w = -1 ∨ w = 0 ∨ w = 1 ∨ w = 2 := by
    rcases (show w.toInt = -2 ∨ w.toInt = -1 ∨ w.toInt = 0 ∨ w.toInt = 1 ∨ w.toInt = 2 by omega) with h | h | h | h | h
    · exact Or.inl (Int32.toInt_inj.mp (by rw [h]; decide))
    · exact Or.inr (Or.inl (Int32.toInt_inj.mp (by rw [h]; decide)))
    · exact Or.inr (Or.inr (Or.inl (Int32.toInt_inj.mp (by rw [h]; decide))))
    · exact Or.inr (Or.inr (Or.inr (Or.inl (Int32.toInt_inj.mp (by rw [h]; decide)))))
    · exact Or.inr (Or.inr (Or.inr (Or.inr (Int32.toInt_inj.mp (by rw [h]; decide)))))
  unfold av_ls
  by_cases hd : d = 0
  · rw [if_pos hd]
    rcases hx with rfl | rfl | rfl | rfl | rfl
    · exact ⟨1, by decide, by decide, by decide⟩
    · exact ⟨1, by decide, by decide, by decide⟩
    · exact ⟨2, by decide, by decide, by decide⟩
    · exact ⟨3, by decide, by decide, by decide⟩
    · exact ⟨4, by decide, by decide, by decide⟩
  · rw [if_neg hd]
    rcases hx with rfl | rfl | rfl | rfl | rfl
    · exact ⟨4, by decide, by decide, by decide⟩
    · exact ⟨3, by decide, by decide, by decide⟩
    · exact ⟨2, by decide, by decide, by decide⟩
    · exact ⟨1, by decide, by decide, by decide⟩
    · exact ⟨1, by decide, by decide, by decide⟩
theorem av_mx {x : Int32} : (if 1 ≤ x then x else 1) = if 1 < x then x else 1 := by
  by_cases h : 1 < x
  · rw [if_pos h, if_pos (by
      rw [Int32.le_iff_toInt_le]
      have := Int32.lt_iff_toInt_lt.mp h
      omega)]
  · rw [if_neg h]
    by_cases h2 : 1 ≤ x
    · rw [if_pos h2]
      rw [am_nlt] at h
      have a := Int32.le_iff_toInt_le.mp h
      have b := Int32.le_iff_toInt_le.mp h2
      exact Int32.toInt_inj.mp (by omega)
    · rw [if_neg h2]
/-- a sound that may be led on: loud at most 20, times its number, a side -/
def av_gok (s : Nat → Int32) : Prop := (∃ l, l ≤ 20 ∧ s 1 = nI l) ∧ (∃ t, t ≤ 1000 ∧ s 3 = nI t) ∧ (s 4 = 0 ∨ s 4 = 1)
