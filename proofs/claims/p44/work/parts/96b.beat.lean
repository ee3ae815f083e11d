/-! what a beat brings -/
/-- is the sound gone by the next beat -/
def bg (σ : Nat → Int32) (L : List (Nat → Int32)) (k : Nat) : Bool := decide (av_a1 σ (av_s L k) 1 = 0)
theorem bg_gn {bd : Nat} {σ : Nat → Int32} {L : List (Nat → Int32)} (hok : av_ok bd σ L) {k : Nat} (hk : k < L.length) : bg σ L k = decide (av_gn σ (av_s L k) = 1) := by
  obtain ⟨g1, g2, g3, g4⟩ := av_gn_e hok (hok.2.2.2.2.1 k hk)
  unfold bg
  refine decide_eq_decide.mpr ⟨fun h => ?_, fun h => ?_⟩
  · rcases Nat.lt_or_ge 1 (av_gn σ (av_s L k)) with q | q
    · exact absurd h (g3 1 q).1
    · omega
  · exact g4 1 (by omega)
theorem gb_nc {bd : Nat} {σ : Nat → Int32} {L : List (Nat → Int32)} (hok : av_ok bd σ L) : ∀ n, n ≤ L.length → am_it (gb_f σ L) n 0 = nI (nc (bg σ L) n) := by
  intro n
  induction n with
  | zero => intro _; rfl
  | succ n ih =>
    intro hn
    have hs : am_it (gb_f σ L) (n + 1) 0 = gb_f σ L n (am_it (gb_f σ L) n 0) := rfl
    have hb := bg_gn hok (show n < L.length by omega)
    rw [hs, ih (by omega)]
    unfold gb_f
    by_cases h : av_gn σ (av_s L n) = 1
    · rw [if_pos h, nc_t (hb.trans (decide_eq_true h)), nI_1]
    · rw [if_neg h, nc_f (hb.trans (decide_eq_false h))]
theorem kf_l {σ : Nat → Int32} {L : List (Nat → Int32)} : ∀ n, (av_kf σ L n).length + nc (bg σ L) n = n := by
  intro n
  induction n with
  | zero => rfl
  | succ n ih =>
    have hs : av_kf σ L (n + 1) = av_kg σ L n (av_kf σ L n) := rfl
    rw [hs]
    unfold av_kg
    by_cases h : av_a1 σ (av_s L n) 1 = 0
    · rw [if_pos h, nc_t (decide_eq_true h)]
      omega
    · rw [if_neg h, nc_f (decide_eq_false h), List.length_append]
      show (av_kf σ L n).length + 1 + nc (bg σ L) n = n + 1
      omega
/-- a sound that goes on is found again -/
theorem kf_s {σ : Nat → Int32} {L : List (Nat → Int32)} {k : Nat} (h : ¬ av_a1 σ (av_s L k) 1 = 0) : ∀ m, k < m → (av_kf σ L k).length < (av_kf σ L m).length ∧ av_s (av_kf σ L m) (av_kf σ L k).length = av_a1 σ (av_s L k) := by
  intro m
  induction m with
  | zero => intro hk; exact absurd hk (Nat.not_lt_zero _)
  | succ m ih =>
    intro hk
    have hs : av_kf σ L (m + 1) = av_kg σ L m (av_kf σ L m) := rfl
    rw [hs]
    unfold av_kg
    by_cases e : k = m
    · rw [← e, if_neg h]
      refine ⟨?_, av_s_e⟩
      rw [List.length_append]
      exact Nat.lt_succ_self _
    · obtain ⟨i1, i2⟩ := ih (by omega)
      by_cases h2 : av_a1 σ (av_s L m) 1 = 0
      · rw [if_pos h2]
        exact ⟨i1, i2⟩
      · rw [if_neg h2]
        refine ⟨?_, (av_s_l i1).trans i2⟩
        rw [List.length_append]
        exact Nat.lt_succ_of_lt i1
theorem o5_e {bd : Nat} {σ : Nat → Int32} {L : List (Nat → Int32)} (hok : av_ok bd σ L) : ∀ j, (j = 0 ∨ j = 2 ∨ 18 ≤ j) → (∀ p, j ≠ 52 + 5 * p) → av_o5 σ L j = σ j := by
  obtain ⟨t1, t2⟩ := av_tf_ok hok L.length
  have r1 := (av_rg_ok (τ := av_tf σ L L.length) (n := av_np σ) (fun p hp => by
    obtain ⟨-, -, x, hx, he⟩ := hok.2.2.2.1 p hp
    exact ⟨x, hx, by rw [t1 _ (by omega)]; exact he⟩) (av_np σ) (Nat.le_refl _)).1
  intro j hj hj2
  unfold av_o5
  rw [av_up_n (by omega), r1 j hj2]
  exact t1 j hj
theorem o5_a1 {bd : Nat} {σ : Nat → Int32} {L : List (Nat → Int32)} (hok : av_ok bd σ L) : av_a1 (av_o5 σ L) = av_a1 σ := by
  have e := o5_e hok
  have eh : av_hf (av_o5 σ L) = av_hf σ := by
    funext x
    exact av_at_c fun k hk => e _ (by omega) (by omega)
  funext s
  unfold av_a1
  rw [eh, e 2 (by omega) (by omega)]
theorem o5_n {bd : Nat} {σ : Nat → Int32} {L : List (Nat → Int32)} (hok : av_ok bd σ L) (s : Nat → Int32) : ∀ j, av_n (av_o5 σ L) s j = av_n σ s j := by
  intro j
  induction j with
  | zero => rw [av_n_0, av_n_0]
  | succ j ih => rw [av_n_s, av_n_s, ih, o5_a1 hok]
/-- one beat on, it is gone one beat sooner -/
theorem o5_gn {bd : Nat} {σ : Nat → Int32} {L : List (Nat → Int32)} (hok : av_ok bd σ L) {k : Nat} (hk : k < L.length) (h : ¬ av_a1 σ (av_s L k) 1 = 0) : av_gn (av_o5 σ L) (av_a1 σ (av_s L k)) + 1 = av_gn σ (av_s L k) := by
  obtain ⟨g1, g2, g3, g4⟩ := av_gn_e hok (hok.2.2.2.2.1 k hk)
  have hok5 := av_ok_5 hok
  have hs := (av_a1_ok hok (hok.2.2.2.2.1 k hk)).1.resolve_left h
  obtain ⟨q1, q2, q3, q4⟩ := av_gn_e hok5 hs
  have e : ∀ j, av_n (av_o5 σ L) (av_a1 σ (av_s L k)) j = av_n σ (av_s L k) (j + 1) := fun j => by rw [o5_n hok, av_n_f]
  have hg : ¬ av_gn σ (av_s L k) = 1 := fun z => h (g4 1 (by omega))
  rcases Nat.lt_or_ge (av_gn (av_o5 σ L) (av_a1 σ (av_s L k)) + 1) (av_gn σ (av_s L k)) with z | z
  · have h1 := q4 _ (Nat.le_refl _)
    rw [e] at h1
    exact absurd h1 (g3 _ z).1
  · rcases Nat.lt_or_ge (av_gn σ (av_s L k)) (av_gn (av_o5 σ L) (av_a1 σ (av_s L k)) + 1) with z2 | z2
    · have h1 := (q3 (av_gn σ (av_s L k) - 1) (by omega)).1
      rw [e, show av_gn σ (av_s L k) - 1 + 1 = av_gn σ (av_s L k) by omega] at h1
      exact absurd (g4 _ (Nat.le_refl _)) h1
    · omega
