/-! the second implementation: its row of numbers -/
/-- model D holds its rows: s D+1, frame D+2, saved D+3, history D+4, text D+5, told D+6, out D+7 -/
def av_msh (R : Nat → Nat → Nat) (D : Nat) : Prop := R (am_c D 13) 1 = am_c (D + 1) 18 + 1 ∧ R (am_c D 13) 2 = am_c (D + 2) 18 + 1 ∧ R (am_c D 13) 3 = am_c (D + 3) 18 + 1 ∧ R (am_c D 13) 4 = am_c (D + 4) 19 + 1 ∧ R (am_c D 13) 7 = am_c (D + 5) 20 + 1 ∧ R (am_c D 13) 8 = am_c (D + 6) 21 + 1 ∧ R (am_c D 13) 9 = am_c (D + 7) 20 + 1
theorem av_x18 {k : Nat} : (18 : Int32) + 2 * nI k = nI (18 + 2 * k) := by
  rw [show (2 : Int32) = nI 2 from rfl, pk_mul, show (18 : Int32) = nI 18 from rfl, nI_add]
theorem av_x9 {k : Nat} : (9 : Int32) + 3 * nI k = nI (9 + 3 * k) := by
  rw [show (3 : Int32) = nI 3 from rfl, pk_mul, show (9 : Int32) = nI 9 from rfl, nI_add]
theorem av_x50 {k : Nat} : (50 : Int32) + 5 * nI k = nI (50 + 5 * k) := by
  rw [show (5 : Int32) = nI 5 from rfl, pk_mul, show (50 : Int32) = nI 50 from rfl, nI_add]
theorem av_x80 {k : Nat} : (80 : Int32) + 5 * nI k = nI (80 + 5 * k) := by
  rw [show (5 : Int32) = nI 5 from rfl, pk_mul, show (80 : Int32) = nI 80 from rfl, nI_add]
theorem av_xa {a k : Nat} {x : Int32} (h : x = nI k) : nI a + x = nI (k + a) := by rw [h, nI_add, Nat.add_comm]
theorem av_le15 {x : Int32} : (x ≤ 15) = (x < 16) := by
  rw [Int32.le_iff_toInt_le, Int32.lt_iff_toInt_lt, show (15 : Int32).toInt = 15 by decide, show (16 : Int32).toInt = 16 by decide]
  apply propext
  omega
theorem av_le2 {x : Int32} : (x ≤ 2) = (x < 3) := by
  rw [Int32.le_iff_toInt_le, Int32.lt_iff_toInt_lt, show (2 : Int32).toInt = 2 by decide, show (3 : Int32).toInt = 3 by decide]
  apply propext
  omega
/-- the row holds the canyon -/
def av_mr (s σ : Nat → Int32) (L : List (Nat → Int32)) : Prop := (∀ j, j < 80 → j ≠ 1 → s j = σ j) ∧ s 1 = nI L.length ∧ ∀ k, k < L.length → ∀ w, w < 5 → s (80 + 5 * k + w) = av_s L k w
theorem av_mr_s {s σ : Nat → Int32} {L : List (Nat → Int32)} (h : av_mr s σ L) {k : Nat} (hk : k < L.length) : s (80 + 5 * k) = av_s L k 0 ∧ s (81 + 5 * k) = av_s L k 1 ∧ s (82 + 5 * k) = av_s L k 2 ∧ s (83 + 5 * k) = av_s L k 3 ∧ s (84 + 5 * k) = av_s L k 4 := by
  refine ⟨?_, ?_, ?_, ?_, ?_⟩
  · rw [← h.2.2 k hk 0 (by decide)]; congr 1 <;> omega
  · rw [← h.2.2 k hk 1 (by decide)]; congr 1 <;> omega
  · rw [← h.2.2 k hk 2 (by decide)]; congr 1 <;> omega
  · rw [← h.2.2 k hk 3 (by decide)]; congr 1 <;> omega
  · rw [← h.2.2 k hk 4 (by decide)]; congr 1 <;> omega
