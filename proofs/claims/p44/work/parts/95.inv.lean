/-! what holds of each state, beside av_ok -/
def iw (bd : Nat) (σ : Nat → Int32) : Prop :=
  σ 9 + σ 12 + σ 15 + σ 7 = 30 + σ 6 + σ 8 ∧ (∃ a b : Nat, a ≤ b ∧ b ≤ bd ∧ σ 8 = nI a ∧ σ 5 = nI b) ∧ (∀ p, p < av_np σ → av_hf σ (σ (51 + 5 * p)) = 0)
  ∧ σ 4 = av_sum (fun p => σ (53 + 5 * p)) (av_np σ) ∧ σ 10 + σ 13 + σ 16 = av_sum (fun p => σ (54 + 5 * p)) (av_np σ)
  ∧ ∀ t, t < 3 → ∃ a b : Nat, a ≤ b ∧ b ≤ bd ∧ σ (11 + 3 * t) = nI a ∧ σ (10 + 3 * t) = nI b
theorem iw_m {b b' : Nat} {σ : Nat → Int32} (h : iw b σ) (hb : b ≤ b') : iw b' σ := by
  obtain ⟨h1, ⟨x, y, a1, a2, a3, a4⟩, h3, h4, h5, h6⟩ := h
  refine ⟨h1, ⟨x, y, a1, by omega, a3, a4⟩, h3, h4, h5, fun t ht => ?_⟩
  obtain ⟨x, y, a1, a2, a3, a4⟩ := h6 t ht
  exact ⟨x, y, a1, by omega, a3, a4⟩
theorem av_sum_s {f : Nat → Int32} {n : Nat} : av_sum f (n + 1) = av_sum f n + f n := rfl
theorem av_sum_1 {f g : Nat → Int32} {k0 : Nat} : ∀ n, k0 < n → f k0 = g k0 + 1 → (∀ k, k < n → k ≠ k0 → f k = g k) → av_sum f n = av_sum g n + 1 := by
  intro n
  induction n with
  | zero => intro h; exact absurd h (Nat.not_lt_zero _)
  | succ n ih =>
    intro h h1 h2
    rw [av_sum_s, av_sum_s]
    by_cases e : n = k0
    · rw [e, h1, av_sum_c (g := g) (fun k hk => h2 k (by omega) (by omega)), ← Int32.add_assoc]
    · rw [ih (by omega) h1 (fun k hk hne => h2 k (by omega) hne), h2 n (Nat.lt_succ_self _) e]
      ac_rfl
theorem am_cnt_0 {f : Nat → Bool} : ∀ n, n < 2147483648 → am_cnt f n ≤ 0 → ∀ k, k < n → f k = false := by
  intro n hn h k hk
  have key : ∀ n, n < 2147483648 → ∃ c, c ≤ n ∧ am_cnt f n = nI c ∧ (c = 0 → ∀ k, k < n → f k = false) := by
    intro n
    induction n with
    | zero => intro _; exact ⟨0, Nat.le_refl _, rfl, fun _ k hk => absurd hk (Nat.not_lt_zero _)⟩
    | succ n ih =>
      intro hn
      obtain ⟨c, h1, h2, h3⟩ := ih (by omega)
      have hs : am_cnt f (n + 1) = am_cg f n (am_cnt f n) := rfl
      cases hf : f n with
      | true => exact ⟨c + 1, by omega, by rw [hs, am_cg_t hf, h2, nI_1], fun e => by omega⟩
      | false =>
        refine ⟨c, by omega, by rw [hs, am_cg_f hf, h2], fun e k hk => ?_⟩
        by_cases e2 : k = n
        · rw [e2]; exact hf
        · exact h3 e k (by omega)
  obtain ⟨c, h1, h2, h3⟩ := key n hn
  refine h3 ?_ k hk
  rcases Nat.eq_zero_or_pos c with hz | hz
  · exact hz
  · rw [h2] at h
    exact absurd h (nI_nle hz (by omega))
theorem iw_0 {bd : Nat} {σ : Nat → Int32} {L : List (Nat → Int32)} {p : Nat} {h : Int32} (hok : av_ok bd σ L) (hi : iw bd σ) (hp : p < 16) (hc : av_ca σ (nI p) ≤ 0) : iw (bd + 40) (av_o0 σ p h) := by
  have e : ∀ j, j ≠ 18 + 2 * p → j ≠ 19 + 2 * p → av_o0 σ p h j = σ j := by
    intro j j1 j2
    unfold av_o0
    by_cases h0 : h = 0
    · rw [if_pos h0, av_up_n j2, av_up_n j1]
    · rw [if_neg h0, av_up_n j1]
  have en : av_np (av_o0 σ p h) = av_np σ := by unfold av_np; rw [e 0 (by omega) (by omega)]
  have h6 := hok.2.2.2.2.2.1
  obtain ⟨i1, i2, i3, i4, i5, i6⟩ := iw_m hi (show bd ≤ bd + 40 by omega)
  refine ⟨?_, ?_, fun q hq => ?_, ?_, ?_, fun t ht => ?_⟩
  · rw [e 9 (by omega) (by omega), e 12 (by omega) (by omega), e 15 (by omega) (by omega), e 7 (by omega) (by omega), e 6 (by omega) (by omega), e 8 (by omega) (by omega)]
    exact i1
  · rw [e 8 (by omega) (by omega), e 5 (by omega) (by omega)]
    exact i2
  · rw [en] at hq
    rw [e (51 + 5 * q) (by omega) (by omega)]
    have hne := am_cnt_0 _ (by omega) hc q hq
    obtain ⟨-, ⟨a, ha, ea⟩, -⟩ := hok.2.2.2.1 q hq
    have hne : ¬ σ (51 + 5 * q) = nI p := of_decide_eq_false hne
    have h3 := i3 q hq
    rw [ea] at h3 hne ⊢
    have hap : a ≠ p := fun z => hne (by rw [z])
    rw [av_hf_n ha] at h3 ⊢
    rw [e _ (by omega) (by omega)]
    exact h3
  · rw [en, e 4 (by omega) (by omega), i4]
    exact av_sum_c fun k hk => (e _ (by omega) (by omega)).symm
  · rw [en, e 10 (by omega) (by omega), e 13 (by omega) (by omega), e 16 (by omega) (by omega), i5]
    exact av_sum_c fun k hk => (e _ (by omega) (by omega)).symm
  · rw [e _ (by omega) (by omega), e _ (by omega) (by omega)]
    exact i6 t ht
theorem iw_1 {bd : Nat} {σ : Nat → Int32} {L : List (Nat → Int32)} {t p : Nat} (hok : av_ok bd σ L) (hi : iw bd σ) (ht : t < 3) (hp : p < 16) : iw (bd + 40) (av_o1 σ t p) := by
  obtain ⟨i1, i2, i3, i4, i5, i6⟩ := iw_m hi (show bd ≤ bd + 40 by omega)
  obtain ⟨g, hg, w1, w2⟩ := hok.1 p hp
  have e : ∀ j, j ≠ 7 → j ≠ 9 → j ≠ 12 → j ≠ 15 → j ≠ 19 + 2 * p → av_o1 σ t p j = σ j := by
    intro j j1 j2 j3 j4 j5
    unfold av_o1
    rw [av_up_n j5]
    unfold av_o1b
    by_cases h0 : σ (19 + 2 * p) = -1
    · rw [if_pos h0, av_up_n j1]
      exact av_up_n (by omega)
    · obtain ⟨-, q, hq, eq⟩ := w2.resolve_left h0
      rw [if_neg h0, eq, am_tn (by omega), av_up_n (by omega)]
      exact av_up_n (by omega)
  have en : av_np (av_o1 σ t p) = av_np σ := by unfold av_np; rw [e 0 (by omega) (by omega) (by omega) (by omega) (by omega)]
  have eh : av_hf (av_o1 σ t p) = av_hf σ := by
    funext x
    exact av_at_c fun k hk => e _ (by omega) (by omega) (by omega) (by omega) (by omega)
  refine ⟨?_, ?_, fun q hq => ?_, ?_, ?_, fun r hr => ?_⟩
  · rw [e 6 (by omega) (by omega) (by omega) (by omega) (by omega), e 8 (by omega) (by omega) (by omega) (by omega) (by omega), ← i1]
    unfold av_o1
    rw [av_up_n (by omega), av_up_n (by omega), av_up_n (by omega), av_up_n (by omega)]
    unfold av_o1b av_o1a
    by_cases h0 : σ (19 + 2 * p) = -1
    · rw [if_pos h0]
      rcases (show t = 0 ∨ t = 1 ∨ t = 2 by omega) with rfl | rfl | rfl
      · simp only [av_up, Nat.reduceMul, Nat.reduceAdd, Nat.reduceEqDiff, if_true, if_false]
        grind
      · simp only [av_up, Nat.reduceMul, Nat.reduceAdd, Nat.reduceEqDiff, if_true, if_false]
        grind
      · simp only [av_up, Nat.reduceMul, Nat.reduceAdd, Nat.reduceEqDiff, if_true, if_false]
        grind
    · obtain ⟨-, q, hq, eq⟩ := w2.resolve_left h0
      rw [if_neg h0, eq, am_tn (show q < 2147483648 by omega)]
      rcases (show t = 0 ∨ t = 1 ∨ t = 2 by omega) with rfl | rfl | rfl <;> rcases (show q = 0 ∨ q = 1 ∨ q = 2 by omega) with rfl | rfl | rfl <;> simp only [av_up, Nat.reduceMul, Nat.reduceAdd, Nat.reduceEqDiff, if_true, if_false] <;> grind
  · rw [e 8 (by omega) (by omega) (by omega) (by omega) (by omega), e 5 (by omega) (by omega) (by omega) (by omega) (by omega)]
    exact i2
  · rw [en] at hq
    rw [eh, e (51 + 5 * q) (by omega) (by omega) (by omega) (by omega) (by omega)]
    exact i3 q hq
  · rw [en, e 4 (by omega) (by omega) (by omega) (by omega) (by omega), i4]
    exact av_sum_c fun k hk => (e _ (by omega) (by omega) (by omega) (by omega) (by omega)).symm
  · rw [en, e 10 (by omega) (by omega) (by omega) (by omega) (by omega), e 13 (by omega) (by omega) (by omega) (by omega) (by omega), e 16 (by omega) (by omega) (by omega) (by omega) (by omega), i5]
    exact av_sum_c fun k hk => (e _ (by omega) (by omega) (by omega) (by omega) (by omega)).symm
  · rw [e _ (by omega) (by omega) (by omega) (by omega) (by omega), e _ (by omega) (by omega) (by omega) (by omega) (by omega)]
    exact i6 r hr
theorem iw_2 {bd : Nat} {σ : Nat → Int32} {L : List (Nat → Int32)} {t p : Int32} (hok : av_ok bd σ L) (hi : iw bd σ) (hn : av_np σ < 6) (h0 : av_hf σ p = 0) : iw (bd + 40) (av_o2 σ t p) := by
  obtain ⟨i1, i2, i3, i4, i5, i6⟩ := iw_m hi (show bd ≤ bd + 40 by omega)
  obtain ⟨n, hn0⟩ : ∃ n, n = av_np σ := ⟨_, rfl⟩
  have e : ∀ j, j ≠ 0 → (j < 50 + 5 * n ∨ 55 + 5 * n ≤ j) → av_o2 σ t p j = σ j := by
    intro j j1 j2
    unfold av_o2
    rw [av_up_n j1, av_up_n (by omega), av_up_n (by omega), av_up_n (by omega), av_up_n (by omega), av_up_n (by omega)]
  have e0 : av_o2 σ t p 0 = nI (n + 1) := by unfold av_o2; rw [av_up_s, hn0]
  have en : av_np (av_o2 σ t p) = n + 1 := by unfold av_np; rw [e0, am_tn (by omega)]
  have e1 : av_o2 σ t p (51 + 5 * n) = p := by
    unfold av_o2
    rw [← hn0, av_up_n (by omega), av_up_n (by omega), av_up_n (by omega), av_up_n (by omega), show 51 + 5 * n = 50 + 5 * n + 1 by omega, av_up_s]
  have e3 : av_o2 σ t p (53 + 5 * n) = 0 := by
    unfold av_o2
    rw [← hn0, av_up_n (by omega), av_up_n (by omega), show 53 + 5 * n = 50 + 5 * n + 3 by omega, av_up_s]
  have e4 : av_o2 σ t p (54 + 5 * n) = 0 := by
    unfold av_o2
    rw [← hn0, av_up_n (by omega), show 54 + 5 * n = 50 + 5 * n + 4 by omega, av_up_s]
  have eh : av_hf (av_o2 σ t p) = av_hf σ := by
    funext x
    exact av_at_c fun k hk => e _ (by omega) (by omega)
  rw [← hn0] at i3 i4 i5
  refine ⟨?_, ?_, fun q hq => ?_, ?_, ?_, fun r hr => ?_⟩
  · rw [e 9 (by omega) (by omega), e 12 (by omega) (by omega), e 15 (by omega) (by omega), e 7 (by omega) (by omega), e 6 (by omega) (by omega), e 8 (by omega) (by omega)]
    exact i1
  · rw [e 8 (by omega) (by omega), e 5 (by omega) (by omega)]
    exact i2
  · rw [en] at hq
    rw [eh]
    by_cases hqn : q = n
    · rw [hqn, e1]; exact h0
    · rw [e _ (by omega) (by omega)]
      exact i3 q (by omega)
  · rw [en, e 4 (by omega) (by omega), i4, av_sum_s, e3, Int32.add_zero]
    exact av_sum_c fun k hk => (e _ (by omega) (by omega)).symm
  · rw [en, e 10 (by omega) (by omega), e 13 (by omega) (by omega), e 16 (by omega) (by omega), i5, av_sum_s, e4, Int32.add_zero]
    exact av_sum_c fun k hk => (e _ (by omega) (by omega)).symm
  · rw [e _ (by omega) (by omega), e _ (by omega) (by omega)]
    exact i6 r hr
theorem iw_3 {bd : Nat} {σ : Nat → Int32} {k : Nat} {p : Int32} (hi : iw bd σ) (h0 : av_hf σ p = 0) : iw (bd + 40) (av_o3 σ k p) := by
  obtain ⟨i1, i2, i3, i4, i5, i6⟩ := iw_m hi (show bd ≤ bd + 40 by omega)
  have e : ∀ j, j ≠ 51 + 5 * k → av_o3 σ k p j = σ j := fun j hj => av_up_n hj
  have en : av_np (av_o3 σ k p) = av_np σ := by unfold av_np; rw [e 0 (by omega)]
  have eh : av_hf (av_o3 σ k p) = av_hf σ := by
    funext x
    exact av_at_c fun k' hk => e _ (by omega)
  refine ⟨?_, ?_, fun q hq => ?_, ?_, ?_, fun r hr => ?_⟩
  · rw [e 9 (by omega), e 12 (by omega), e 15 (by omega), e 7 (by omega), e 6 (by omega), e 8 (by omega)]
    exact i1
  · rw [e 8 (by omega), e 5 (by omega)]
    exact i2
  · rw [en] at hq
    rw [eh]
    by_cases hqn : q = k
    · rw [hqn, show av_o3 σ k p (51 + 5 * k) = p from av_up_s]; exact h0
    · rw [e _ (by omega)]
      exact i3 q hq
  · rw [en, e 4 (by omega), i4]
    exact av_sum_c fun k' hk => (e _ (by omega)).symm
  · rw [en, e 10 (by omega), e 13 (by omega), e 16 (by omega), i5]
    exact av_sum_c fun k' hk => (e _ (by omega)).symm
  · rw [e _ (by omega), e _ (by omega)]
    exact i6 r hr
theorem iw_4 {bd : Nat} {σ : Nat → Int32} {k : Nat} {l : Int32} (hi : iw bd σ) (hk : k < av_np σ) : iw (bd + 40) (av_o4 σ k l) := by
  obtain ⟨i1, i2, i3, i4, i5, i6⟩ := iw_m hi (show bd ≤ bd + 40 by omega)
  have e : ∀ j, j ≠ 52 + 5 * k → j ≠ 53 + 5 * k → j ≠ 4 → av_o4 σ k l j = σ j := fun j a b c => by
    unfold av_o4
    rw [av_up_n c, av_up_n b, av_up_n a]
  have en : av_np (av_o4 σ k l) = av_np σ := by unfold av_np; rw [e 0 (by omega) (by omega) (by omega)]
  have eh : av_hf (av_o4 σ k l) = av_hf σ := by
    funext x
    exact av_at_c fun k' hk => e _ (by omega) (by omega) (by omega)
  have e53 : av_o4 σ k l (53 + 5 * k) = σ (53 + 5 * k) + 1 := by
    unfold av_o4
    rw [av_up_n (by omega), av_up_s]
  have e4 : av_o4 σ k l 4 = σ 4 + 1 := av_up_s
  refine ⟨?_, ?_, fun q hq => ?_, ?_, ?_, fun r hr => ?_⟩
  · rw [e 9 (by omega) (by omega) (by omega), e 12 (by omega) (by omega) (by omega), e 15 (by omega) (by omega) (by omega), e 7 (by omega) (by omega) (by omega), e 6 (by omega) (by omega) (by omega), e 8 (by omega) (by omega) (by omega)]
    exact i1
  · rw [e 8 (by omega) (by omega) (by omega), e 5 (by omega) (by omega) (by omega)]
    exact i2
  · rw [en] at hq
    rw [eh, e _ (by omega) (by omega) (by omega)]
    exact i3 q hq
  · rw [en, e4, i4]
    exact (av_sum_1 (k0 := k) _ hk e53 (fun k' hk' hne => e _ (by omega) (by omega) (by omega))).symm
  · rw [en, e 10 (by omega) (by omega) (by omega), e 13 (by omega) (by omega) (by omega), e 16 (by omega) (by omega) (by omega), i5]
    exact av_sum_c fun k' hk => (e _ (by omega) (by omega) (by omega)).symm
  · rw [e _ (by omega) (by omega) (by omega), e _ (by omega) (by omega) (by omega)]
    exact i6 r hr
theorem iw_7 {bd : Nat} {σ : Nat → Int32} {x : Int32} (hi : iw bd σ) : iw (bd + 40) (av_up σ 2 x) := by
  obtain ⟨i1, i2, i3, i4, i5, i6⟩ := iw_m hi (show bd ≤ bd + 40 by omega)
  have e : ∀ j, j ≠ 2 → av_up σ 2 x j = σ j := fun j hj => av_up_n hj
  have en : av_np (av_up σ 2 x) = av_np σ := by unfold av_np; rw [e 0 (by omega)]
  have eh : av_hf (av_up σ 2 x) = av_hf σ := by
    funext x
    exact av_at_c fun k' hk => e _ (by omega)
  refine ⟨?_, ?_, fun q hq => ?_, ?_, ?_, fun r hr => ?_⟩
  · rw [e 9 (by omega), e 12 (by omega), e 15 (by omega), e 7 (by omega), e 6 (by omega), e 8 (by omega)]
    exact i1
  · rw [e 8 (by omega), e 5 (by omega)]
    exact i2
  · rw [en] at hq
    rw [eh, e _ (by omega)]
    exact i3 q hq
  · rw [en, e 4 (by omega), i4]
    exact av_sum_c fun k' hk => (e _ (by omega)).symm
  · rw [en, e 10 (by omega), e 13 (by omega), e 16 (by omega), i5]
    exact av_sum_c fun k' hk => (e _ (by omega)).symm
  · rw [e _ (by omega), e _ (by omega)]
    exact i6 r hr
theorem iw_6 {bd : Nat} {σ : Nat → Int32} {s : Nat → Int32} {k t : Nat} (hi : iw bd σ) (hk : k < av_np σ) (ht : t < 3) : iw (bd + 40) (av_o6 σ k t s) := by
  obtain ⟨i1, i2, i3, i4, i5, i6⟩ := hi
  have e : ∀ j, j ≠ 54 + 5 * k → j ≠ 10 + 3 * t → j ≠ 11 + 3 * t → j ≠ 9 + 3 * t → j ≠ 6 → av_o6 σ k t s j = σ j := fun j a b c d f => by
    unfold av_o6
    rw [av_up_n f, av_up_n d]
    unfold av_o6b
    split
    · unfold av_o6a
      rw [av_up_n b, av_up_n a]
    · rw [av_up_n c]
      unfold av_o6a
      rw [av_up_n b, av_up_n a]
  have e0 : ∀ j, j ≠ 54 + 5 * k → (j < 9 ∨ 18 ≤ j) → j ≠ 6 → av_o6 σ k t s j = σ j := fun j a b c => e j a (by omega) (by omega) (by omega) c
  have en : av_np (av_o6 σ k t s) = av_np σ := by unfold av_np; rw [e0 0 (by omega) (by omega) (by omega)]
  have eh : av_hf (av_o6 σ k t s) = av_hf σ := by
    funext x
    exact av_at_c fun k' hk => e0 _ (by omega) (by omega) (by omega)
  have e54 : av_o6 σ k t s (54 + 5 * k) = σ (54 + 5 * k) + 1 := by
    unfold av_o6
    rw [av_up_n (by omega), av_up_n (by omega)]
    unfold av_o6b
    split
    · unfold av_o6a
      rw [av_up_n (by omega), av_up_s]
    · rw [av_up_n (by omega)]
      unfold av_o6a
      rw [av_up_n (by omega), av_up_s]
  have e6 : av_o6 σ k t s 6 = σ 6 + av_pts σ k s := av_up_s
  have e9 : av_o6 σ k t s (9 + 3 * t) = σ (9 + 3 * t) + av_pts σ k s := by
    unfold av_o6
    rw [av_up_n (by omega), av_up_s]
  have e10 : av_o6 σ k t s (10 + 3 * t) = σ (10 + 3 * t) + 1 := by
    unfold av_o6
    rw [av_up_n (by omega), av_up_n (by omega)]
    unfold av_o6b
    split
    · unfold av_o6a
      rw [av_up_s]
    · rw [av_up_n (by omega)]
      unfold av_o6a
      rw [av_up_s]
  have e11 : av_o6 σ k t s (11 + 3 * t) = σ (11 + 3 * t) ∨ av_o6 σ k t s (11 + 3 * t) = σ (11 + 3 * t) + 1 := by
    unfold av_o6
    rw [av_up_n (by omega), av_up_n (by omega)]
    unfold av_o6b
    split
    · left
      unfold av_o6a
      rw [av_up_n (by omega), av_up_n (by omega)]
    · right
      rw [av_up_s]
  refine ⟨?_, ?_, fun q hq => ?_, ?_, ?_, fun r hr => ?_⟩
  · rw [e6, e0 7 (by omega) (by omega) (by omega), e0 8 (by omega) (by omega) (by omega)]
    rcases (show t = 0 ∨ t = 1 ∨ t = 2 by omega) with rfl | rfl | rfl
    · rw [show av_o6 σ k 0 s 9 = _ from e9, e 12 (by omega) (by omega) (by omega) (by omega) (by omega), e 15 (by omega) (by omega) (by omega) (by omega) (by omega)]
      show σ 9 + av_pts σ k s + σ 12 + σ 15 + σ 7 = _
      grind
    · rw [show av_o6 σ k 1 s 12 = _ from e9, e 9 (by omega) (by omega) (by omega) (by omega) (by omega), e 15 (by omega) (by omega) (by omega) (by omega) (by omega)]
      show σ 9 + (σ 12 + av_pts σ k s) + σ 15 + σ 7 = _
      grind
    · rw [show av_o6 σ k 2 s 15 = _ from e9, e 9 (by omega) (by omega) (by omega) (by omega) (by omega), e 12 (by omega) (by omega) (by omega) (by omega) (by omega)]
      show σ 9 + σ 12 + (σ 15 + av_pts σ k s) + σ 7 = _
      grind
  · obtain ⟨x, y, a1, a2, a3, a4⟩ := i2
    exact ⟨x, y, a1, by omega, by rw [e0 8 (by omega) (by omega) (by omega)]; exact a3, by rw [e0 5 (by omega) (by omega) (by omega)]; exact a4⟩
  · rw [en] at hq
    rw [eh, e0 _ (by omega) (by omega) (by omega)]
    exact i3 q hq
  · rw [en, e0 4 (by omega) (by omega) (by omega), i4]
    exact av_sum_c fun k' hk => (e0 _ (by omega) (by omega) (by omega)).symm
  · rw [en, av_sum_1 (f := fun p => av_o6 σ k t s (54 + 5 * p)) (g := fun p => σ (54 + 5 * p)) (k0 := k) _ hk e54 (fun k' hk' hne => e0 _ (by omega) (by omega) (by omega)), ← i5]
    rcases (show t = 0 ∨ t = 1 ∨ t = 2 by omega) with rfl | rfl | rfl
    · rw [show av_o6 σ k 0 s 10 = _ from e10, e 13 (by omega) (by omega) (by omega) (by omega) (by omega), e 16 (by omega) (by omega) (by omega) (by omega) (by omega)]
      show σ 10 + 1 + σ 13 + σ 16 = _
      grind
    · rw [show av_o6 σ k 1 s 13 = _ from e10, e 10 (by omega) (by omega) (by omega) (by omega) (by omega), e 16 (by omega) (by omega) (by omega) (by omega) (by omega)]
      show σ 10 + (σ 13 + 1) + σ 16 = _
      grind
    · rw [show av_o6 σ k 2 s 16 = _ from e10, e 10 (by omega) (by omega) (by omega) (by omega) (by omega), e 13 (by omega) (by omega) (by omega) (by omega) (by omega)]
      show σ 10 + σ 13 + (σ 16 + 1) = _
      grind
  · obtain ⟨x, y, a1, a2, a3, a4⟩ := i6 r hr
    by_cases hrt : r = t
    · subst hrt
      rcases e11 with e11 | e11
      · exact ⟨x, y + 1, by omega, by omega, by rw [e11, a3], by rw [e10, a4, nI_1]⟩
      · exact ⟨x + 1, y + 1, by omega, by omega, by rw [e11, a3, nI_1], by rw [e10, a4, nI_1]⟩
    · exact ⟨x, y, a1, by omega, by rw [e _ (by omega) (by omega) (by omega) (by omega) (by omega)]; exact a3, by rw [e _ (by omega) (by omega) (by omega) (by omega) (by omega)]; exact a4⟩
theorem iw_tf {bd : Nat} {σ : Nat → Int32} {L : List (Nat → Int32)} (hok : av_ok bd σ L) (hi : iw bd σ) : ∀ k, (∀ j, j ≠ 5 → j ≠ 8 → j ≠ 9 → j ≠ 12 → j ≠ 15 → av_tf σ L k j = σ j) ∧ av_tf σ L k 9 + av_tf σ L k 12 + av_tf σ L k 15 + σ 7 = 30 + σ 6 + av_tf σ L k 8 ∧ ∃ a b : Nat, a ≤ b ∧ b ≤ bd + k ∧ av_tf σ L k 8 = nI a ∧ av_tf σ L k 5 = nI b := by
  intro k
  induction k with
  | zero => exact ⟨fun _ _ _ _ _ _ => rfl, hi.1, hi.2.1⟩
  | succ k ih =>
    obtain ⟨i1, i2, a, b, h1, h2, h3, h4⟩ := ih
    have htf : av_tf σ L (k + 1) = av_tk σ (av_tf σ L k) (av_s L k) := rfl
    rw [htf]
    unfold av_tk
    by_cases q3 : av_a1 σ (av_s L k) 3 = av_s L k 3
    · rw [if_pos q3]
      exact ⟨i1, i2, a, b, h1, by omega, h3, h4⟩
    · rw [if_neg q3]
      by_cases q4 : av_of σ (av_ah (av_s L k)) = -1
      · rw [if_pos q4]
        refine ⟨fun j j1 j2 j3 j4 j5 => by rw [av_up_n j1]; exact i1 j j1 j2 j3 j4 j5, ?_, a, b + 1, by omega, by omega, by rw [av_up_n (by decide)]; exact h3, by rw [av_up_s, h4, nI_1]⟩
        rw [av_up_n (by decide), av_up_n (by decide), av_up_n (by decide), av_up_n (by decide)]
        exact i2
      · rw [if_neg q4]
        obtain ⟨r, hr, hre⟩ := (av_own_of (av_ok_own hok) (av_ah (av_s L k))).resolve_left q4
        have how : av_ow σ (av_s L k) = 9 + 3 * r := by unfold av_ow; rw [hre, am_tn (by omega)]
        rw [how]
        refine ⟨fun j j1 j2 j3 j4 j5 => by rw [av_up_n j2, av_up_n (by omega), av_up_n j1]; exact i1 j j1 j2 j3 j4 j5, ?_, a + 1, b + 1, by omega, by omega, by rw [av_up_s, h3, nI_1], by rw [av_up_n (by decide), av_up_n (by omega), av_up_s, h4, nI_1]⟩
        rcases (show r = 0 ∨ r = 1 ∨ r = 2 by omega) with rfl | rfl | rfl <;> simp only [av_up, Nat.reduceMul, Nat.reduceAdd, Nat.reduceEqDiff, if_true, if_false] <;> grind
theorem iw_5 {bd : Nat} {σ : Nat → Int32} {L : List (Nat → Int32)} (hok : av_ok bd σ L) (hi : iw bd σ) : iw (bd + 40) (av_o5 σ L) := by
  have hl8 := hok.2.2.2.2.2.2.2
  obtain ⟨t1, t2, a, b, a1, a2, a3, a4⟩ := iw_tf hok hi L.length
  have r1 := (av_rg_ok (τ := av_tf σ L L.length) (n := av_np σ) (fun p hp => by
    obtain ⟨-, -, h, hh, eh⟩ := hok.2.2.2.1 p hp
    exact ⟨h, hh, by rw [t1 _ (by omega) (by omega) (by omega) (by omega) (by omega)]; exact eh⟩) (av_np σ) (Nat.le_refl _)).1
  have e9 : ∀ j, j ≠ 3 → (∀ p, j ≠ 52 + 5 * p) → av_o5 σ L j = av_tf σ L L.length j := fun j j1 j2 => by
    unfold av_o5
    rw [av_up_n j1]
    exact r1 j j2
  have e : ∀ j, j ≠ 3 → (∀ p, j ≠ 52 + 5 * p) → j ≠ 5 → j ≠ 8 → j ≠ 9 → j ≠ 12 → j ≠ 15 → av_o5 σ L j = σ j := fun j j1 j2 j3 j4 j5 j6 j7 => (e9 j j1 j2).trans (t1 j j3 j4 j5 j6 j7)
  have en : av_np (av_o5 σ L) = av_np σ := by unfold av_np; rw [e 0 (by omega) (by omega) (by omega) (by omega) (by omega) (by omega) (by omega)]
  have eh : av_hf (av_o5 σ L) = av_hf σ := by
    funext x
    exact av_at_c fun k' hk => e _ (by omega) (by omega) (by omega) (by omega) (by omega) (by omega) (by omega)
  obtain ⟨i1, i2, i3, i4, i5, i6⟩ := iw_m hi (show bd ≤ bd + 40 by omega)
  refine ⟨?_, ?_, fun q hq => ?_, ?_, ?_, fun r hr => ?_⟩
  · rw [e9 9 (by omega) (by omega), e9 12 (by omega) (by omega), e9 15 (by omega) (by omega), e 7 (by omega) (by omega) (by omega) (by omega) (by omega) (by omega) (by omega), e 6 (by omega) (by omega) (by omega) (by omega) (by omega) (by omega) (by omega), e9 8 (by omega) (by omega)]
    exact t2
  · exact ⟨a, b, a1, by omega, by rw [e9 8 (by omega) (by omega)]; exact a3, by rw [e9 5 (by omega) (by omega)]; exact a4⟩
  · rw [en] at hq
    rw [eh, e _ (by omega) (by omega) (by omega) (by omega) (by omega) (by omega) (by omega)]
    exact i3 q hq
  · rw [en, e 4 (by omega) (by omega) (by omega) (by omega) (by omega) (by omega) (by omega), i4]
    exact av_sum_c fun k' hk => (e _ (by omega) (by omega) (by omega) (by omega) (by omega) (by omega) (by omega)).symm
  · rw [en, e 10 (by omega) (by omega) (by omega) (by omega) (by omega) (by omega) (by omega), e 13 (by omega) (by omega) (by omega) (by omega) (by omega) (by omega) (by omega), e 16 (by omega) (by omega) (by omega) (by omega) (by omega) (by omega) (by omega), i5]
    exact av_sum_c fun k' hk => (e _ (by omega) (by omega) (by omega) (by omega) (by omega) (by omega) (by omega)).symm
  · rw [e _ (by omega) (by omega) (by omega) (by omega) (by omega) (by omega) (by omega), e _ (by omega) (by omega) (by omega) (by omega) (by omega) (by omega) (by omega)]
    exact i6 r hr
