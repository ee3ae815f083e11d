/-! what is in order stays in order: purchases, beats, all orders -/
theorem av_ok_1 {bd : Nat} {σ : Nat → Int32} {L : List (Nat → Int32)} {t p : Nat} (hok : av_ok bd σ L) (hbd : bd < 1000000000) (ht : t < 3) (hp : p < 16) (h0 : decide (0 < av_hf σ (nI p)) = true) (hne : ¬ av_of σ (nI p) = nI t) (hpr : av_price σ (nI t) (nI p) - av_pt σ (nI t) ≤ 0) : av_ok (bd + 40) (av_o1 σ t p) L := by
  obtain ⟨c, hc, hce⟩ := av_price_n (t := t) hok hp
  obtain ⟨h1, hpt, hwd, hpl, hsd, hn1, hn2, hl8⟩ := hok
  obtain ⟨v, hv, hve⟩ := hpt t ht
  rw [av_pt_n ht, hve, hce, ← av_lec (by omega) (by omega), nI_leI (by omega) (by omega)] at hpr
  rw [av_of_n hp] at hne
  obtain ⟨g, hg, ge, gw⟩ := h1 p hp
  have hg0 : 0 < g := by
    rw [av_hf_n hp, ge] at h0
    have := of_decide_eq_true h0
    exact (nI_ltI (a := 0) (by decide) (by omega)).mp this
  have hqq : σ (19 + 2 * p) = -1 ∨ ∃ q, q < 3 ∧ σ (19 + 2 * p) = nI q := by
    rcases gw with gw | ⟨_, q, hq, gw⟩
    · exact Or.inl gw
    · exact Or.inr ⟨q, hq, gw⟩
  have ea : ∀ j, j ≠ 9 + 3 * t → av_o1a σ t p j = σ j := fun j hj => av_up_n hj
  have ea2 : av_o1a σ t p (9 + 3 * t) = nI (v - c) := by
    unfold av_o1a
    rw [av_up_s, hve, hce, ← Int32.sub_eq_add_neg, pk_sub hpr]
  have eb : ∀ j, (j < 7 ∨ 18 ≤ j) → av_o1b σ t p j = σ j := by
    intro j hj
    unfold av_o1b
    rcases hqq with hq | ⟨q, hq, hqe⟩
    · rw [if_pos hq, av_up_n (by omega), ea j (by omega)]
    · have hn1 : ¬ σ (19 + 2 * p) = -1 := fun h => by
        rw [hqe] at h
        have hp0 := nI_pos' (show q < 2 ^ 31 by omega)
        rw [h] at hp0
        exact absurd hp0 (by decide)
      rw [if_neg hn1, hqe, am_tn (by omega), av_up_n (by omega), ea j (by omega)]
  have e : ∀ j, (j < 7 ∨ 18 ≤ j) → j ≠ 19 + 2 * p → av_o1 σ t p j = σ j := fun j hj hj2 => by
    unfold av_o1
    rw [av_up_n hj2]
    exact eb j hj
  have hnp : av_np (av_o1 σ t p) = av_np σ := by unfold av_np; rw [e 0 (by omega) (by omega)]
  refine ⟨fun q hq => ?_, fun q hq => ?_, by rw [e 2 (by omega) (by omega)]; exact hwd, fun q hq => ?_, hsd, by rw [hnp]; exact hn1, by rw [hnp, e 0 (by omega) (by omega)]; exact hn2, hl8⟩
  · by_cases hqp : q = p
    · rw [hqp]
      exact ⟨g, hg, by rw [e _ (by omega) (by omega)]; exact ge, Or.inr ⟨hg0, t, ht, by unfold av_o1; exact av_up_s⟩⟩
    · obtain ⟨x, hx, e1, e2⟩ := h1 q hq
      exact ⟨x, hx, by rw [e _ (by omega) (by omega)]; exact e1, by rw [e _ (by omega) (by omega)]; exact e2⟩
  · obtain ⟨y, hy, he⟩ := hpt q hq
    unfold av_o1
    rw [av_up_n (by omega)]
    unfold av_o1b
    rcases hqq with hq1 | ⟨r, hr, hre⟩
    · rw [if_pos hq1, av_up_n (by omega)]
      by_cases hqt : q = t
      · rw [hqt]; exact ⟨v - c, by omega, ea2⟩
      · exact ⟨y, by omega, by rw [ea _ (by omega)]; exact he⟩
    · have hn1 : ¬ σ (19 + 2 * p) = -1 := fun h => by
        rw [hre] at h
        have hp0 := nI_pos' (show r < 2 ^ 31 by omega)
        rw [h] at hp0
        exact absurd hp0 (by decide)
      have hrt : r ≠ t := fun h => hne (by rw [hre, h])
      rw [if_neg hn1, hre, am_tn (by omega)]
      by_cases hqr : q = r
      · refine ⟨y + c, by omega, ?_⟩
        rw [hqr, av_up_s, ea _ (by omega), hce, ← hqr, he, nI_add]
      · rw [av_up_n (by omega)]
        by_cases hqt : q = t
        · rw [hqt]; exact ⟨v - c, by omega, ea2⟩
        · exact ⟨y, by omega, by rw [ea _ (by omega)]; exact he⟩
  · rw [hnp] at hq
    obtain ⟨⟨b, hb, e1⟩, ⟨a, ha, e2⟩, ⟨x, hx, e3⟩⟩ := hpl q hq
    exact ⟨⟨b, hb, by rw [e _ (by omega) (by omega)]; exact e1⟩, ⟨a, ha, by rw [e _ (by omega) (by omega)]; exact e2⟩, ⟨x, hx, by rw [e _ (by omega) (by omega)]; exact e3⟩⟩
theorem av_tf_ok {bd : Nat} {σ : Nat → Int32} {L : List (Nat → Int32)} (hok : av_ok bd σ L) : ∀ k, (∀ j, (j = 0 ∨ j = 2 ∨ 18 ≤ j) → av_tf σ L k j = σ j) ∧ ∀ t, t < 3 → ∃ x, x ≤ bd + k ∧ av_tf σ L k (9 + 3 * t) = nI x := by
  intro k
  induction k with
  | zero => exact ⟨fun _ _ => rfl, fun t ht => by obtain ⟨x, hx, he⟩ := hok.2.1 t ht; exact ⟨x, by omega, he⟩⟩
  | succ k ih =>
    obtain ⟨i1, i2⟩ := ih
    have htf : av_tf σ L (k + 1) = av_tk σ (av_tf σ L k) (av_s L k) := rfl
    rw [htf]
    unfold av_tk
    by_cases h3 : av_a1 σ (av_s L k) 3 = av_s L k 3
    · rw [if_pos h3]
      exact ⟨i1, fun t ht => by obtain ⟨x, hx, he⟩ := i2 t ht; exact ⟨x, by omega, he⟩⟩
    · rw [if_neg h3]
      by_cases h4 : av_of σ (av_ah (av_s L k)) = -1
      · rw [if_pos h4]
        exact ⟨fun j hj => by rw [av_up_n (by omega)]; exact i1 j hj, fun t ht => by obtain ⟨x, hx, he⟩ := i2 t ht; exact ⟨x, by omega, by rw [av_up_n (by omega)]; exact he⟩⟩
      · rw [if_neg h4]
        obtain ⟨r, hr, hre⟩ := (av_own_of (av_ok_own hok) (av_ah (av_s L k))).resolve_left h4
        have how : av_ow σ (av_s L k) = 9 + 3 * r := by unfold av_ow; rw [hre, am_tn (by omega)]
        rw [how]
        refine ⟨fun j hj => by rw [av_up_n (by omega), av_up_n (by omega), av_up_n (by omega)]; exact i1 j hj, fun t ht => ?_⟩
        obtain ⟨x, hx, he⟩ := i2 t ht
        rw [av_up_n (by omega)]
        by_cases htr : t = r
        · exact ⟨x + 1, by omega, by rw [htr, av_up_s, ← htr, he, nI_1]⟩
        · exact ⟨x, by omega, by rw [av_up_n (by omega), av_up_n (by omega)]; exact he⟩
theorem av_rg_ok {τ : Nat → Int32} {n : Nat} (h : ∀ p, p < n → ∃ x, x ≤ 5 ∧ τ (52 + 5 * p) = nI x) : ∀ k, k ≤ n → (∀ j, (∀ p, j ≠ 52 + 5 * p) → am_it av_rg k τ j = τ j) ∧ ∀ p, p < n → ∃ x, x ≤ 5 ∧ am_it av_rg k τ (52 + 5 * p) = nI x := by
  intro k
  induction k with
  | zero => intro _; exact ⟨fun _ _ => rfl, h⟩
  | succ k ih =>
    intro hk
    obtain ⟨i1, i2⟩ := ih (by omega)
    by_cases hh : am_it av_rg k τ (52 + 5 * k) ≤ 0
    · have hg : am_it av_rg (k + 1) τ = am_it av_rg k τ := by show (if am_it av_rg k τ (52 + 5 * k) ≤ 0 then am_it av_rg k τ else av_up (am_it av_rg k τ) (52 + 5 * k) (am_it av_rg k τ (52 + 5 * k) - 1)) = _; rw [if_pos hh]
      rw [hg]
      exact ⟨i1, i2⟩
    · have hg : am_it av_rg (k + 1) τ = av_up (am_it av_rg k τ) (52 + 5 * k) (am_it av_rg k τ (52 + 5 * k) - 1) := by show (if am_it av_rg k τ (52 + 5 * k) ≤ 0 then am_it av_rg k τ else av_up (am_it av_rg k τ) (52 + 5 * k) (am_it av_rg k τ (52 + 5 * k) - 1)) = _; rw [if_neg hh]
      rw [hg]
      refine ⟨fun j hj => by rw [av_up_n (hj k)]; exact i1 j hj, fun p hp => ?_⟩
      obtain ⟨x, hx, he⟩ := i2 p hp
      by_cases hpk : p = k
      · rw [hpk] at he ⊢
        rw [he] at hh
        have hx0 : 0 < x := by
          rcases Nat.eq_zero_or_pos x with hz | hz
          · exact absurd (by rw [hz]; decide) hh
          · exact hz
        refine ⟨x - 1, by omega, ?_⟩
        rw [av_up_s, he]
        obtain ⟨y, rfl⟩ : ∃ y, x = y + 1 := ⟨x - 1, by omega⟩
        exact nI_pred y
      · exact ⟨x, hx, by rw [av_up_n (by omega)]; exact he⟩
theorem av_kf_ok {bd : Nat} {σ : Nat → Int32} {L : List (Nat → Int32)} (hok : av_ok bd σ L) : ∀ k, k ≤ L.length → (av_kf σ L k).length ≤ k ∧ ∀ q, q < (av_kf σ L k).length → av_sok (av_s (av_kf σ L k) q) := by
  intro k
  induction k with
  | zero => intro _; exact ⟨Nat.le_refl _, fun q hq => absurd hq (Nat.not_lt_zero _)⟩
  | succ k ih =>
    intro hk
    obtain ⟨i1, i2⟩ := ih (by omega)
    by_cases hd : av_a1 σ (av_s L k) 1 = 0
    · have hkf : av_kf σ L (k + 1) = av_kf σ L k := by show av_kg σ L k (av_kf σ L k) = _; unfold av_kg; rw [if_pos hd]
      rw [hkf]
      exact ⟨by omega, i2⟩
    · have hkf : av_kf σ L (k + 1) = av_kf σ L k ++ [av_a1 σ (av_s L k)] := by show av_kg σ L k (av_kf σ L k) = _; unfold av_kg; rw [if_neg hd]
      rw [hkf]
      refine ⟨by simp; omega, fun q hq => ?_⟩
      by_cases hqk : q < (av_kf σ L k).length
      · rw [av_s_l hqk]; exact i2 q hqk
      · have hqe : q = (av_kf σ L k).length := by simp at hq; omega
        rw [hqe, av_s_e]
        exact (av_a1_ok hok (hok.2.2.2.2.1 k (by omega))).1.resolve_left hd
theorem av_ok_5 {bd : Nat} {σ : Nat → Int32} {L : List (Nat → Int32)} (hok : av_ok bd σ L) : av_ok (bd + 40) (av_o5 σ L) (av_kf σ L L.length) := by
  obtain ⟨t1, t2⟩ := av_tf_ok hok L.length
  obtain ⟨k1, k2⟩ := av_kf_ok hok L.length (Nat.le_refl _)
  obtain ⟨h1, hpt, hwd, hpl, hsd, hn1, hn2, hl8⟩ := hok
  obtain ⟨r1, r2⟩ := av_rg_ok (τ := av_tf σ L L.length) (n := av_np σ) (fun p hp => by
    obtain ⟨_, _, x, hx, he⟩ := hpl p hp
    exact ⟨x, hx, by rw [t1 _ (by omega)]; exact he⟩) (av_np σ) (Nat.le_refl _)
  have e : ∀ j, (j = 0 ∨ j = 2 ∨ 18 ≤ j) → (∀ p, j ≠ 52 + 5 * p) → av_o5 σ L j = σ j := fun j hj hj2 => by
    unfold av_o5
    rw [av_up_n (by omega), r1 j hj2]
    exact t1 j hj
  have hnp : av_np (av_o5 σ L) = av_np σ := by unfold av_np; rw [e 0 (by omega) (fun p => by omega)]
  refine ⟨fun q hq => ?_, fun q hq => ?_, by rw [e 2 (by omega) (fun p => by omega)]; exact hwd, fun q hq => ?_, k2, by rw [hnp]; exact hn1, by rw [hnp, e 0 (by omega) (fun p => by omega)]; exact hn2, by omega⟩
  · obtain ⟨x, hx, e1, e2⟩ := h1 q hq
    exact ⟨x, hx, by rw [e _ (by omega) (fun p => by omega)]; exact e1, by rw [e _ (by omega) (fun p => by omega)]; exact e2⟩
  · obtain ⟨x, hx, he⟩ := t2 q hq
    refine ⟨x, by omega, ?_⟩
    unfold av_o5
    rw [av_up_n (by omega), r1 _ (fun p => by omega)]
    exact he
  · rw [hnp] at hq
    obtain ⟨⟨b, hb, e1⟩, ⟨a, ha, e2⟩, -⟩ := hpl q hq
    obtain ⟨x, hx, e3⟩ := r2 q hq
    exact ⟨⟨b, hb, by rw [e _ (by omega) (fun p => by omega)]; exact e1⟩, ⟨a, ha, by rw [e _ (by omega) (fun p => by omega)]; exact e2⟩, ⟨x, hx, by unfold av_o5; rw [av_up_n (by omega)]; exact e3⟩⟩
