/-! the second implementation: a beat -/
theorem av_sok_g {s : Nat → Int32} (h : av_sok s) : av_gok s := by
  obtain ⟨_, ⟨l, t, hl, hlt, h1, h3⟩, _, h4⟩ := h
  exact ⟨⟨l, by omega, h1⟩, ⟨t, by omega, h3⟩, h4⟩
theorem av_a1_2 {hf : Int32 → Int32} {w : Int32} {s : Nat → Int32} : av_adv hf w s 2 = s 2 := by
  unfold av_adv
  by_cases a : s 1 - av_ls w (s 4) ≤ 0
  · rw [if_pos a]; rfl
  · rw [if_neg a]
    by_cases b : am_pl (av_ah s) = false
    · rw [if_pos b]; rfl
    · rw [if_neg b]
      by_cases c : hf (av_ah s) ≤ 0
      · rw [if_pos c]; rfl
      · rw [if_neg c]
        by_cases d : hf (av_ah s) < (s 1 - av_ls w (s 4)) / 3
        · rw [if_pos d]; rfl
        · rw [if_neg d]; rfl
/-- what a beat does to a sound that is in order -/
theorem av_a1_ok {bd : Nat} {σ s : Nat → Int32} {L : List (Nat → Int32)} (hok : av_ok bd σ L) (h : av_sok s) : (av_a1 σ s 1 = 0 ∨ av_sok (av_a1 σ s)) ∧ (av_a1 σ s 3 = s 3 ∨ (av_a1 σ s 3 = s 3 + 1 ∧ am_pl (av_ah s) = true)) := by
  obtain ⟨⟨p, hp, h0⟩, ⟨l, t, hl, hlt, h1, h3⟩, hb, h4⟩ := h
  obtain ⟨c, hc1, hc4, hce⟩ := av_lsn (d := s 4) hok.2.2.1
  have hd : av_a1 σ s 4 = 0 ∨ av_a1 σ s 4 = 1 := av_a1_4 h4
  have h2 : av_a1 σ s 2 = s 2 := av_a1_2
  by_cases a : s 1 - av_ls (σ 2) (s 4) ≤ 0
  · have e : av_a1 σ s = av_mk (s 0) 0 (s 2) (s 3) (s 4) := by unfold av_a1 av_adv; rw [if_pos a]
    rw [e]
    exact ⟨Or.inl rfl, Or.inl rfl⟩
  · have hv : s 1 - av_ls (σ 2) (s 4) = nI (l - c) ∧ c < l := by
      rw [h1, hce] at a ⊢
      rw [← av_lec (by omega) (by omega), nI_leI (by omega) (by omega)] at a
      exact ⟨pk_sub (by omega), by omega⟩
    cases b : am_pl (av_ah s) with
    | false =>
      have e : av_a1 σ s = av_mk (s 0) 0 (s 2) (s 3) (s 4) := by unfold av_a1 av_adv; rw [if_neg a, if_pos b]
      rw [e]
      exact ⟨Or.inl rfl, Or.inl rfl⟩
    | true =>
      obtain ⟨q, hq, hqe⟩ := am_pl_n b
      obtain ⟨g, hg, hge, -⟩ := hok.1 q hq
      have hfe : av_hf σ (av_ah s) = nI g := by rw [hqe, av_hf_n hq, hge]
      have b' : ¬ am_pl (av_ah s) = false := by rw [b]; decide
      by_cases c3 : nI g ≤ 0
      · have hg0 : g = 0 := by have := (nI_leI (b := 0) (show g < 2 ^ 31 by omega) (by decide)).mp c3; omega
        have e : av_a1 σ s = av_mk (av_ah s) (nI (l - c) - nI g) (s 2) (s 3) (s 4) := by unfold av_a1 av_adv; rw [if_neg a, if_neg b', hfe, if_pos c3, hv.1]
        have e1 : nI (l - c) - nI g = nI (l - c) := by rw [hg0]; exact pk_sub (b := 0) (by omega)
        rw [e]
        refine ⟨Or.inr ⟨⟨q, hq, hqe⟩, ⟨l - c, t, by omega, by omega, e1, h3⟩, hb, h4⟩, Or.inl rfl⟩
      · by_cases c4 : nI g < nI (l - c) / 3
        · have hgl : g < (l - c) / 3 := by
            rw [show (3 : Int32) = nI 3 from rfl, pk_div (by omega) (by decide) (by decide)] at c4
            exact (nI_ltI (by omega) (by omega)).mp c4
          have e : av_a1 σ s = av_mk (av_ah s) (nI (l - c) - nI g) (s 2) (s 3) (s 4) := by unfold av_a1 av_adv; rw [if_neg a, if_neg b', hfe, if_neg c3, hv.1, if_pos c4]
          have e1 : nI (l - c) - nI g = nI (l - c - g) := pk_sub (by omega)
          rw [e]
          exact ⟨Or.inr ⟨⟨q, hq, hqe⟩, ⟨l - c - g, t, by omega, by omega, e1, h3⟩, hb, h4⟩, Or.inl rfl⟩
        · have e : av_a1 σ s = av_mk (s 0) (nI (l - c)) (s 2) (s 3 + 1) (if s 4 = 0 then 1 else 0) := by unfold av_a1 av_adv; rw [if_neg a, if_neg b', hfe, if_neg c3, hv.1, if_neg c4]
          rw [e] at hd
          rw [e]
          exact ⟨Or.inr ⟨⟨p, hp, h0⟩, ⟨l - c, t + 1, by omega, by omega, rfl, by show s 3 + 1 = _; rw [h3, nI_1]⟩, hb, hd⟩, Or.inr ⟨rfl, rfl⟩⟩
def av_al (s : Nat → Int32) : Bool := !decide (s 1 = 0)
theorem av_kf_f {σ : Nat → Int32} {L : List (Nat → Int32)} : ∀ n, av_kf σ L n = ((List.range n).map (fun q => av_a1 σ (av_s L q))).filter av_al := by
  intro n
  induction n with
  | zero => rfl
  | succ n ih =>
    show av_kg σ L n (av_kf σ L n) = _
    rw [List.range_succ, List.map_append, List.filter_append, ← ih]
    unfold av_kg
    by_cases h : av_a1 σ (av_s L n) 1 = 0
    · rw [if_pos h]
      simp [av_al, h]
    · rw [if_neg h]
      simp [av_al, h]
theorem av_AK : ∀ (T : List (Nat → Int32)) (k : Nat), k < T.length → ∃ X B, T.take (k + 1) ++ (T.drop (k + 1)).filter av_al = X ++ av_s T k :: B ∧ X.length = k ∧ T.take k ++ (T.drop k).filter av_al = (if av_s T k 1 = 0 then X ++ B else X ++ av_s T k :: B) := by
  intro T
  induction T with
  | nil => intro k hk; exact absurd hk (Nat.not_lt_zero _)
  | cons x T ih =>
    intro k hk
    cases k with
    | zero =>
      refine ⟨[], T.filter av_al, rfl, rfl, ?_⟩
      have e : av_s (x :: T) 0 = x := rfl
      rw [e]
      by_cases h : x 1 = 0
      · rw [if_pos h]; simp [av_al, h]
      · rw [if_neg h]; simp [av_al, h]
    | succ k =>
      obtain ⟨X, B, h1, h2, h3⟩ := ih k (by simpa using hk)
      have e : av_s (x :: T) (k + 1) = av_s T k := by unfold av_s; simp
      refine ⟨x :: X, B, ?_, by simp [h2], ?_⟩
      · rw [e]
        show x :: (T.take (k + 1) ++ (T.drop (k + 1)).filter av_al) = x :: (X ++ av_s T k :: B)
        rw [h1]
      · rw [e]
        show x :: (T.take k ++ (T.drop k).filter av_al) = _
        rw [h3]
        by_cases h : av_s T k 1 = 0
        · rw [if_pos h, if_pos h]; rfl
        · rw [if_neg h, if_neg h]; rfl
theorem av_s_mid {X B : List (Nat → Int32)} {y : Nat → Int32} : av_s (X ++ y :: B) X.length = y := by
  unfold av_s
  simp
theorem av_er {y : Nat → Int32} {B : List (Nat → Int32)} : ∀ (X : List (Nat → Int32)), (X ++ y :: B).eraseIdx X.length = X ++ B := by
  intro X
  induction X with
  | nil => rfl
  | cons x X ih => simp [ih]
theorem av_s_map {σ : Nat → Int32} {L : List (Nat → Int32)} {n q : Nat} (h : q < n) : av_s ((List.range n).map (fun q => av_a1 σ (av_s L q))) q = av_a1 σ (av_s L q) := by
  unfold av_s
  simp [List.getD_eq_getElem?_getD, h]
/-- the row while sounds are led on -/
def av_bA (D : Nat) (M X : am_M) (σ : Nat → Int32) (L : List (Nat → Int32)) (k : Nat) : Prop := av_fm D M X ∧ (∀ j, j < 80 → j ≠ 1 → X.1 (am_c (D + 1) 18) j = av_tf σ L k j) ∧ X.1 (am_c (D + 1) 18) 1 = nI L.length ∧ (∀ q, q < L.length → ∀ w, w < 5 → X.1 (am_c (D + 1) 18) (80 + 5 * q + w) = if q < k then av_a1 σ (av_s L q) w else av_s L q w) ∧ av_eqw (av_tf σ L k) σ
