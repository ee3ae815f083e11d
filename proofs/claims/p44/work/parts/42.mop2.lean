/-! the second implementation: moves, purchases -/
theorem av_far : ∀ a, a < 16 → ∀ p, p < 16 → (nI p ≤ nI a → nI a - nI p = av_abs (nI p - nI a)) ∧ (¬ nI p ≤ nI a → nI p - nI a = av_abs (nI p - nI a)) := by decide +kernel
theorem av_h0 : ∀ h, h < 10 → (decide ((0 : Int32) < nI h) = false ↔ nI h ≤ 0) ∧ (nI h ≤ 0 ↔ nI h = 0) := by decide +kernel
theorem av_lec {c x : Nat} (hc : c < 1073741824) (hx : x < 1073741824) : (nI c ≤ nI x) = (nI c - nI x ≤ 0) := by
  apply propext
  rw [nI_leI (by omega) (by omega), Int32.le_iff_toInt_le, pk_sub_toInt (by omega) (by omega), show (0 : Int32).toInt = 0 by decide]
  omega
theorem av_price_n {bd : Nat} {σ : Nat → Int32} {L : List (Nat → Int32)} {t p : Nat} (hok : av_ok bd σ L) (hp : p < 16) : ∃ c, c ≤ 18 ∧ av_price σ (nI t) (nI p) = nI c := by
  obtain ⟨h, hh, he, -⟩ := hok.1 p hp
  unfold av_price
  rw [av_of_n hp, av_hf_n hp, he]
  by_cases a : σ (19 + 2 * p) = nI t
  · rw [if_pos a]; exact ⟨0, by omega, rfl⟩
  · rw [if_neg a]
    by_cases b : σ (19 + 2 * p) = -1
    · rw [if_pos b]; exact ⟨h, by omega, rfl⟩
    · rw [if_neg b]; exact ⟨2 * h, by omega, by rw [show (2 : Int32) = nI 2 from rfl, pk_mul]⟩
