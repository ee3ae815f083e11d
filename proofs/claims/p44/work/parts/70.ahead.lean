/-! what is ahead: a sound by itself -/
def av_n (σ s : Nat → Int32) (j : Nat) : Nat → Int32 := am_it (fun _ x => av_a1 σ x) j s
theorem av_n_0 {σ s : Nat → Int32} : av_n σ s 0 = s := rfl
theorem av_n_s {σ s : Nat → Int32} {j : Nat} : av_n σ s (j + 1) = av_a1 σ (av_n σ s j) := rfl
theorem av_n_f {σ s : Nat → Int32} : ∀ j, av_n σ (av_a1 σ s) j = av_n σ s (j + 1) := by
  intro j
  induction j with
  | zero => rfl
  | succ j ih => rw [av_n_s, ih, av_n_s (j := j + 1)]
theorem av_cl0 : ∀ c, c < 5 → 1 ≤ c → (0 : Int32) - nI c ≤ 0 := by decide
theorem av_cl1 : ∀ l, l < 21 → ∀ c, c < 5 → ¬ nI l - nI c ≤ 0 → nI l - nI c = nI (l - c) ∧ c < l := by decide +kernel
theorem av_cl2 : ∀ a, a < 21 → ∀ h, h < 10 → (nI h ≤ 0 ∨ nI h < nI a / 3) → nI a - nI h = nI (a - h) := by decide +kernel
theorem av_hf_h {bd : Nat} {σ : Nat → Int32} {L : List (Nat → Int32)} (hok : av_ok bd σ L) (p : Int32) : ∃ h, h ≤ 9 ∧ av_hf σ p = nI h := by
  cases hp : am_pl p with
  | false =>
    refine ⟨0, by decide, ?_⟩
    unfold av_hf av_at
    rw [hp]
    rfl
  | true =>
    obtain ⟨k, hk, rfl⟩ := am_pl_n hp
    obtain ⟨h, hh, hσ, -⟩ := hok.1 k hk
    exact ⟨h, hh, by rw [av_hf_n hk]; exact hσ⟩
theorem av_a1_z {bd : Nat} {σ s : Nat → Int32} {L : List (Nat → Int32)} (hok : av_ok bd σ L) (h : s 1 = 0) : av_a1 σ s 1 = 0 := by
  obtain ⟨c, h1, h2, hc⟩ := av_lsn (d := s 4) hok.2.2.1
  unfold av_a1 av_adv
  rw [h, hc, if_pos (av_cl0 c (by omega) h1)]
  rfl
theorem av_a1_lt {bd l : Nat} {σ s : Nat → Int32} {L : List (Nat → Int32)} (hok : av_ok bd σ L) (hl : 0 < l) (hl20 : l ≤ 20) (h : s 1 = nI l) : ∃ l', l' < l ∧ av_a1 σ s 1 = nI l' := by
  obtain ⟨c, h1, h2, hc⟩ := av_lsn (d := s 4) hok.2.2.1
  obtain ⟨e, he, hh⟩ := av_hf_h hok (av_ah s)
  unfold av_a1 av_adv
  rw [h, hc, hh]
  by_cases c1 : nI l - nI c ≤ 0
  · rw [if_pos c1]; exact ⟨0, hl, rfl⟩
  · obtain ⟨d1, d2⟩ := av_cl1 l (by omega) c (by omega) c1
    rw [if_neg c1, d1]
    by_cases c2 : am_pl (av_ah s) = false
    · rw [if_pos c2]; exact ⟨0, hl, rfl⟩
    · rw [if_neg c2]
      by_cases c3 : nI e ≤ 0
      · rw [if_pos c3]
        exact ⟨l - c - e, by omega, av_cl2 (l - c) (by omega) e (by omega) (Or.inl c3)⟩
      · rw [if_neg c3]
        by_cases c4 : nI e < nI (l - c) / 3
        · rw [if_pos c4]
          exact ⟨l - c - e, by omega, av_cl2 (l - c) (by omega) e (by omega) (Or.inr c4)⟩
        · rw [if_neg c4]
          exact ⟨l - c, by omega, rfl⟩
theorem av_n_z {bd : Nat} {σ s : Nat → Int32} {L : List (Nat → Int32)} (hok : av_ok bd σ L) {g : Nat} (h : av_n σ s g 1 = 0) : ∀ m, av_n σ s (g + m) 1 = 0 := by
  intro m
  induction m with
  | zero => exact h
  | succ m ih => exact av_a1_z hok ih
theorem av_dies1 {bd : Nat} {σ : Nat → Int32} {L : List (Nat → Int32)} (hok : av_ok bd σ L) : ∀ (n l : Nat) (s : Nat → Int32), l ≤ n → l ≤ 20 → 0 < l → s 1 = nI l → av_sok s → ∃ g, 0 < g ∧ g ≤ l ∧ (∀ j, j < g → ¬ av_n σ s j 1 = 0 ∧ av_sok (av_n σ s j)) ∧ av_n σ s g 1 = 0 := by
  intro n
  induction n with
  | zero => intro l s h1 h2 h3; omega
  | succ n ih =>
    intro l s h1 h2 h3 hs hk
    have hne : ¬ s 1 = 0 := by rw [hs]; exact nI_ne0 h3 (by omega)
    obtain ⟨l', hl', he⟩ := av_a1_lt hok h3 h2 hs
    by_cases hz : av_a1 σ s 1 = 0
    · refine ⟨1, by decide, by omega, fun j hj => ?_, hz⟩
      obtain rfl : j = 0 := by omega
      exact ⟨hne, hk⟩
    · have hk' := (av_a1_ok hok hk).1.resolve_left hz
      have hp' : 0 < l' := by
        by_cases h0 : l' = 0
        · rw [he, h0] at hz
          exact absurd rfl hz
        · omega
      obtain ⟨g, g1, g2, g3, g4⟩ := ih l' (av_a1 σ s) (by omega) (by omega) hp' he hk'
      rw [av_n_f] at g4
      refine ⟨g + 1, by omega, by omega, fun j hj => ?_, g4⟩
      by_cases hj0 : j = 0
      · rw [hj0]; exact ⟨hne, hk⟩
      · obtain ⟨i, rfl⟩ : ∃ i, j = i + 1 := ⟨j - 1, by omega⟩
        rw [← av_n_f]
        exact g3 i (by omega)
theorem av_dies {bd : Nat} {σ s : Nat → Int32} {L : List (Nat → Int32)} (hok : av_ok bd σ L) (hs : av_sok s) : ∃ g, 0 < g ∧ g ≤ 20 ∧ (∀ j, j < g → ¬ av_n σ s j 1 = 0 ∧ av_sok (av_n σ s j)) ∧ ∀ j, g ≤ j → av_n σ s j 1 = 0 := by
  obtain ⟨-, ⟨l, t, hl, hlt, h1, -⟩, -⟩ := id hs
  obtain ⟨g, g1, g2, g3, g4⟩ := av_dies1 hok l l s (Nat.le_refl _) (by omega) hl h1 hs
  refine ⟨g, g1, by omega, g3, fun j hj => ?_⟩
  have := av_n_z hok g4 (j - g)
  rw [show g + (j - g) = j by omega] at this
  exact this
theorem av_n_4 {σ s : Nat → Int32} (h : s 4 = 0 ∨ s 4 = 1) : ∀ j, av_n σ s j 4 = 0 ∨ av_n σ s j 4 = 1 := by
  intro j
  induction j with
  | zero => exact h
  | succ j ih => exact av_a1_4 ih
/-- the first for which it holds -/
def av_fst (f : Nat → Bool) : Nat → Option Nat
  | 0 => none
  | n + 1 => match av_fst f n with
    | some j => some j
    | none => bif f n then some n else none
theorem av_fst_n {f : Nat → Bool} : ∀ {n : Nat}, (∀ i, i < n → f i = false) → av_fst f n = none := by
  intro n
  induction n with
  | zero => intro _; rfl
  | succ n ih =>
    intro h
    show (match av_fst f n with
      | some j => some j
      | none => bif f n then some n else none) = none
    rw [ih (fun i hi => h i (by omega)), h n (by omega)]
    rfl
theorem av_fst_s {f : Nat → Bool} {j : Nat} (h1 : ∀ i, i < j → f i = false) (h2 : f j = true) : ∀ {n : Nat}, j < n → av_fst f n = some j := by
  intro n
  induction n with
  | zero => intro h; omega
  | succ n ih =>
    intro h
    show (match av_fst f n with
      | some j => some j
      | none => bif f n then some n else none) = some j
    by_cases hj : j < n
    · rw [ih hj]
    · obtain rfl : j = n := by omega
      rw [av_fst_n h1, h2]
      rfl
theorem av_fst_c {f : Nat → Bool} : ∀ (n : Nat), (av_fst f n = none ∧ ∀ i, i < n → f i = false) ∨ ∃ j, j < n ∧ av_fst f n = some j ∧ f j = true ∧ ∀ i, i < j → f i = false := by
  intro n
  induction n with
  | zero => exact Or.inl ⟨rfl, fun i hi => absurd hi (Nat.not_lt_zero _)⟩
  | succ n ih =>
    rcases ih with ⟨h1, h2⟩ | ⟨j, h1, h2, h3, h4⟩
    · cases hf : f n with
      | true => exact Or.inr ⟨n, by omega, av_fst_s h2 hf (by omega), hf, h2⟩
      | false =>
        have h3 : ∀ i, i < n + 1 → f i = false := fun i hi => by
          by_cases he : i = n
          · rw [he]; exact hf
          · exact h2 i (by omega)
        exact Or.inl ⟨av_fst_n h3, h3⟩
    · exact Or.inr ⟨j, by omega, av_fst_s h4 h3 (by omega), h3, h4⟩
/-- behind how many beats a sound is an echo at a place -/
def av_ef (σ s : Nat → Int32) (p : Int32) (j : Nat) : Bool := av_ec (av_n σ s j) p
def av_et (σ s : Nat → Int32) (p : Int32) : Option Nat := av_fst (av_ef σ s p) 21
theorem av_ef_z {σ s : Nat → Int32} {p : Int32} {j : Nat} (h : av_n σ s j 1 = 0) : av_ef σ s p j = false := by
  unfold av_ef av_ec
  rw [h]
  rfl
theorem av_bi_s {j : Nat} : av_bi (some j) = nI j := rfl
theorem av_bi_n : av_bi none = -1 := rfl
theorem av_bi_nI {j : Nat} (h : j < 2147483648) : ¬ nI j = -1 := fun hh => by
  have h0 := nI_pos (n := j) h
  rw [hh] at h0
  exact h0 (by decide)
