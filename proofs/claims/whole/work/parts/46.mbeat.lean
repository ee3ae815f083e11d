/-! the second implementation: a beat -/
theorem mc_takes {D k : Nat} {s : Nat → Int32} {M : am_M} (hm : av_msh M.2.1 D) (hk : k < 8) (h0 : M.1 (am_c (D + 1) 18) (80 + 5 * k) = s 0) (h1 : M.1 (am_c (D + 1) 18) (81 + 5 * k) = s 1) (h3 : M.1 (am_c (D + 1) 18) (83 + 5 * k) = s 3) (h4 : M.1 (am_c (D + 1) 18) (84 + 5 * k) = s 4) :
    ∃ M', am_val iX13_takes 0 [some (.ref (am_c D 13)), some (.int (nI k))] [] M = some (.inl none, M', 0, 0) ∧ am_ms M'.1 D s ∧ av_fs D M M' := by
  have e0 : am_val iX13_ofSound 0 [some (.ref (am_c D 13)), some (.int (nI k)), some (.int 0)] [] M = some (.inl (some (.int (s 0))), M, 0, 0) := by rw [mc_s0 hm hk, h0]
  have e1 : ∀ x, am_val iX13_ofSound 0 [some (.ref (am_c D 13)), some (.int (nI k)), some (.int 1)] [] (av_i M (am_c D 13) 18 x) = some (.inl (some (.int (s 1))), av_i M (am_c D 13) 18 x, 0, 0) := fun x => by rw [mc_s1 (M := av_i M (am_c D 13) 18 x) hm hk, av_isf, h1]
  have e4 : ∀ x y, am_val iX13_ofSound 0 [some (.ref (am_c D 13)), some (.int (nI k)), some (.int 4)] [] (av_i (av_i M (am_c D 13) 18 x) (am_c D 13) 19 y) = some (.inl (some (.int (s 4))), av_i (av_i M (am_c D 13) 18 x) (am_c D 13) 19 y, 0, 0) := fun x y => by rw [mc_s4 (M := av_i (av_i M (am_c D 13) 18 x) (am_c D 13) 19 y) hm hk, av_isf, av_isf, h4]
  have e3 : ∀ x y z, am_val iX13_ofSound 0 [some (.ref (am_c D 13)), some (.int (nI k)), some (.int 3)] [] (av_i (av_i (av_i M (am_c D 13) 18 x) (am_c D 13) 19 y) (am_c D 13) 20 z) = some (.inl (some (.int (s 3))), av_i (av_i (av_i M (am_c D 13) 18 x) (am_c D 13) 19 y) (am_c D 13) 20 z, 0, 0) := fun x y z => by rw [mc_s3 (M := av_i (av_i (av_i M (am_c D 13) 18 x) (am_c D 13) 19 y) (am_c D 13) 20 z) hm hk, av_isf, av_isf, av_isf, h3]
  refine ⟨av_i (av_i (av_i (av_i M (am_c D 13) 18 (s 0)) (am_c D 13) 19 (s 1)) (am_c D 13) 20 (s 4)) (am_c D 13) 21 (s 3), ?_, ⟨?_, ?_, ?_, ?_⟩, av_fs_t (av_fs_f (by decide) (by decide)) (av_fs_t (av_fs_f (by decide) (by decide)) (av_fs_t (av_fs_f (by decide) (by decide)) (av_fs_f (by decide) (by decide))))⟩
  · simp only [ae_X13_takes_0, ae_X13_takes_7, ae_X13_takes_17, ae_X13_takes_27, ae_X13_takes_37, am_bnx_v, am_bnx_e, am_tl_s, am_tl_n, am_rv_s, am_add_rx, e0, e1, e4, e3]
  · rw [av_ifg (by decide), av_ifg (by decide), av_ifg (by decide)]; exact av_iff
  · rw [av_ifg (by decide), av_ifg (by decide)]; exact av_iff
  · rw [av_ifg (by decide)]; exact av_iff
  · exact av_iff
theorem av_sok_g {s : Nat → Int32} (h : av_sok s) : av_gok s := by
  obtain ⟨_, ⟨l, t, hl, hlt, h1, h3⟩, _, h4⟩ := h
  exact ⟨⟨l, by omega, h1⟩, ⟨t, by omega, h3⟩, h4⟩
theorem av_a1_2 {hf : Int32 → Int32} {w : Int32} {s : Nat → Int32} : av_adv hf w s 2 = s 2 := by
  unfold av_adv
  by_cases a : s 1 - av_ls w (s 4) ≤ 0
  · rw [if_pos a]; rfl
  · rw [if_neg a]
    by_cases b : am_pl (av_ah s) = false
    · rw [if_pos b]; rfl
    · rw [if_neg b]
      by_cases c : hf (av_ah s) ≤ 0
      · rw [if_pos c]; rfl
      · rw [if_neg c]
        by_cases d : hf (av_ah s) < (s 1 - av_ls w (s 4)) / 3
        · rw [if_pos d]; rfl
        · rw [if_neg d]; rfl
/-- what a beat does to a sound that is in order -/
theorem av_a1_ok {bd : Nat} {σ s : Nat → Int32} {L : List (Nat → Int32)} (hok : av_ok bd σ L) (h : av_sok s) : (av_a1 σ s 1 = 0 ∨ av_sok (av_a1 σ s)) ∧ (av_a1 σ s 3 = s 3 ∨ (av_a1 σ s 3 = s 3 + 1 ∧ am_pl (av_ah s) = true)) := by
  obtain ⟨⟨p, hp, h0⟩, ⟨l, t, hl, hlt, h1, h3⟩, hb, h4⟩ := h
  obtain ⟨c, hc1, hc4, hce⟩ := av_lsn (d := s 4) hok.2.2.1
  have hd : av_a1 σ s 4 = 0 ∨ av_a1 σ s 4 = 1 := av_a1_4 h4
  have h2 : av_a1 σ s 2 = s 2 := av_a1_2
  by_cases a : s 1 - av_ls (σ 2) (s 4) ≤ 0
  · have e : av_a1 σ s = av_mk (s 0) 0 (s 2) (s 3) (s 4) := by unfold av_a1 av_adv; rw [if_pos a]
    rw [e]
    exact ⟨Or.inl rfl, Or.inl rfl⟩
  · have hv : s 1 - av_ls (σ 2) (s 4) = nI (l - c) ∧ c < l := by
      rw [h1, hce] at a ⊢
      rw [← av_lec (by omega) (by omega), nI_leI (by omega) (by omega)] at a
      exact ⟨pk_sub (by omega), by omega⟩
    cases b : am_pl (av_ah s) with
    | false =>
      have e : av_a1 σ s = av_mk (s 0) 0 (s 2) (s 3) (s 4) := by unfold av_a1 av_adv; rw [if_neg a, if_pos b]
      rw [e]
      exact ⟨Or.inl rfl, Or.inl rfl⟩
    | true =>
      obtain ⟨q, hq, hqe⟩ := am_pl_n b
      obtain ⟨g, hg, hge, -⟩ := hok.1 q hq
      have hfe : av_hf σ (av_ah s) = nI g := by rw [hqe, av_hf_n hq, hge]
      have b' : ¬ am_pl (av_ah s) = false := by rw [b]; decide
      by_cases c3 : nI g ≤ 0
      · have hg0 : g = 0 := by have := (nI_leI (b := 0) (show g < 2 ^ 31 by omega) (by decide)).mp c3; omega
        have e : av_a1 σ s = av_mk (av_ah s) (nI (l - c) - nI g) (s 2) (s 3) (s 4) := by unfold av_a1 av_adv; rw [if_neg a, if_neg b', hfe, if_pos c3, hv.1]
        have e1 : nI (l - c) - nI g = nI (l - c) := by rw [hg0]; exact pk_sub (b := 0) (by omega)
        rw [e]
        refine ⟨Or.inr ⟨⟨q, hq, hqe⟩, ⟨l - c, t, by omega, by omega, e1, h3⟩, hb, h4⟩, Or.inl rfl⟩
      · by_cases c4 : nI g < nI (l - c) / 3
        · have hgl : g < (l - c) / 3 := by
            rw [show (3 : Int32) = nI 3 from rfl, pk_div (by omega) (by decide) (by decide)] at c4
            exact (nI_ltI (by omega) (by omega)).mp c4
          have e : av_a1 σ s = av_mk (av_ah s) (nI (l - c) - nI g) (s 2) (s 3) (s 4) := by unfold av_a1 av_adv; rw [if_neg a, if_neg b', hfe, if_neg c3, hv.1, if_pos c4]
          have e1 : nI (l - c) - nI g = nI (l - c - g) := pk_sub (by omega)
          rw [e]
          exact ⟨Or.inr ⟨⟨q, hq, hqe⟩, ⟨l - c - g, t, by omega, by omega, e1, h3⟩, hb, h4⟩, Or.inl rfl⟩
        · have e : av_a1 σ s = av_mk (s 0) (nI (l - c)) (s 2) (s 3 + 1) (if s 4 = 0 then 1 else 0) := by unfold av_a1 av_adv; rw [if_neg a, if_neg b', hfe, if_neg c3, hv.1, if_neg c4]
          rw [e] at hd
          rw [e]
          exact ⟨Or.inr ⟨⟨p, hp, h0⟩, ⟨l - c, t + 1, by omega, by omega, rfl, by show s 3 + 1 = _; rw [h3, nI_1]⟩, hb, hd⟩, Or.inr ⟨rfl, rfl⟩⟩
def av_al (s : Nat → Int32) : Bool := !decide (s 1 = 0)
theorem av_kf_f {σ : Nat → Int32} {L : List (Nat → Int32)} : ∀ n, av_kf σ L n = ((List.range n).map (fun q => av_a1 σ (av_s L q))).filter av_al := by
  intro n
  induction n with
  | zero => rfl
  | succ n ih =>
    show av_kg σ L n (av_kf σ L n) = _
    rw [List.range_succ, List.map_append, List.filter_append, ← ih]
    unfold av_kg
    by_cases h : av_a1 σ (av_s L n) 1 = 0
    · rw [if_pos h]
      simp [av_al, h]
    · rw [if_neg h]
      simp [av_al, h]
theorem av_AK : ∀ (T : List (Nat → Int32)) (k : Nat), k < T.length → ∃ X B, T.take (k + 1) ++ (T.drop (k + 1)).filter av_al = X ++ av_s T k :: B ∧ X.length = k ∧ T.take k ++ (T.drop k).filter av_al = (if av_s T k 1 = 0 then X ++ B else X ++ av_s T k :: B) := by
  intro T
  induction T with
  | nil => intro k hk; exact absurd hk (Nat.not_lt_zero _)
  | cons x T ih =>
    intro k hk
    cases k with
    | zero =>
      refine ⟨[], T.filter av_al, rfl, rfl, ?_⟩
      have e : av_s (x :: T) 0 = x := rfl
      rw [e]
      by_cases h : x 1 = 0
      · rw [if_pos h]; simp [av_al, h]
      · rw [if_neg h]; simp [av_al, h]
    | succ k =>
      obtain ⟨X, B, h1, h2, h3⟩ := ih k (by simpa using hk)
      have e : av_s (x :: T) (k + 1) = av_s T k := by unfold av_s; simp
      refine ⟨x :: X, B, ?_, by simp [h2], ?_⟩
      · rw [e]
        show x :: (T.take (k + 1) ++ (T.drop (k + 1)).filter av_al) = x :: (X ++ av_s T k :: B)
        rw [h1]
      · rw [e]
        show x :: (T.take k ++ (T.drop k).filter av_al) = _
        rw [h3]
        by_cases h : av_s T k 1 = 0
        · rw [if_pos h, if_pos h]; rfl
        · rw [if_neg h, if_neg h]; rfl
theorem av_s_mid {X B : List (Nat → Int32)} {y : Nat → Int32} : av_s (X ++ y :: B) X.length = y := by
  unfold av_s
  simp
theorem av_er {y : Nat → Int32} {B : List (Nat → Int32)} : ∀ (X : List (Nat → Int32)), (X ++ y :: B).eraseIdx X.length = X ++ B := by
  intro X
  induction X with
  | nil => rfl
  | cons x X ih => simp [ih]
theorem av_s_map {σ : Nat → Int32} {L : List (Nat → Int32)} {n q : Nat} (h : q < n) : av_s ((List.range n).map (fun q => av_a1 σ (av_s L q))) q = av_a1 σ (av_s L q) := by
  unfold av_s
  simp [List.getD_eq_getElem?_getD, h]
/-- the row while sounds are led on -/
def av_bA (D : Nat) (M X : am_M) (σ : Nat → Int32) (L : List (Nat → Int32)) (k : Nat) : Prop := av_fm D M X ∧ (∀ j, j < 80 → j ≠ 1 → X.1 (am_c (D + 1) 18) j = av_tf σ L k j) ∧ X.1 (am_c (D + 1) 18) 1 = nI L.length ∧ (∀ q, q < L.length → ∀ w, w < 5 → X.1 (am_c (D + 1) 18) (80 + 5 * q + w) = if q < k then av_a1 σ (av_s L q) w else av_s L q w) ∧ av_eqw (av_tf σ L k) σ
theorem mc_beatsA {D bd k : Nat} {σ : Nat → Int32} {L : List (Nat → Int32)} {M X : am_M} {o : Option Value} (hm : av_msh M.2.1 D) (hok : av_ok bd σ L) (hk : k < L.length) (hX : av_bA D M X σ L k) : ∃ X' o', am_val iX13_beats 9 [some (.ref (am_c D 13)), some (.int (nI L.length)), some (.int (nI k)), o] [] X = am_val iX13_beats 9 [some (.ref (am_c D 13)), some (.int (nI L.length)), some (.int (nI (k + 1))), o'] [] (X') ∧ av_bA D M X' σ L (k + 1) := by
  obtain ⟨g1, g2, g3, g4, g5⟩ := hX
  have hl8 := hok.2.2.2.2.2.2.2
  have hs := hok.2.2.2.2.1 k hk
  have hmX : av_msh X.2.1 D := by rw [g1.1]; exact hm
  have hv : ∀ w, w < 5 → X.1 (am_c (D + 1) 18) (80 + 5 * k + w) = av_s L k w := fun w hw => by rw [g4 k hk w hw, if_neg (Nat.lt_irrefl _)]
  obtain ⟨M1, e1, a1, f1⟩ := mc_takes (k := k) (s := av_s L k) hmX (by omega) (hv 0 (by decide)) (by have := hv 1 (by decide); rw [show 80 + 5 * k + 1 = 81 + 5 * k by omega] at this; exact this) (by have := hv 3 (by decide); rw [show 80 + 5 * k + 3 = 83 + 5 * k by omega] at this; exact this) (by have := hv 4 (by decide); rw [show 80 + 5 * k + 4 = 84 + 5 * k by omega] at this; exact this)
  have hS1 : M1.1 (am_c (D + 1) 18) = X.1 (am_c (D + 1) 18) := funext fun j => f1.2 _ _ _ (by decide) (by omega)
  obtain ⟨M2, e2, a2, b2, f2⟩ := mc_goesOn (σ := σ) (by rw [f1.1]; exact hmX) (by rw [hS1, g2 2 (by decide) (by decide)]; exact g5.2.1) (fun p hp => by rw [hS1, g2 _ (by omega) (by omega)]; exact g5.1 _ (by omega) (by omega)) hok a1 (av_sok_g hs)
  have hS2 : M2.1 (am_c (D + 1) 18) = X.1 (am_c (D + 1) 18) := (funext fun j => f2.2 _ _ _ (by decide) (by omega)).trans hS1
  have hx2 : M2.2 = X.2 := f2.1.trans f1.1
  obtain ⟨s', hs'⟩ : ∃ s', s' = av_a1 σ (av_s L k) := ⟨_, rfl⟩
  rw [← hs'] at e2 a2 b2
  obtain ⟨q0, q1, q4, q3⟩ := a2
  obtain ⟨A4, hA4⟩ : ∃ A, A = av_i (av_i (av_i (av_i M2 (am_c (D + 1) 18) (80 + 5 * k + 0) (s' 0)) (am_c (D + 1) 18) (80 + 5 * k + 1) (s' 1)) (am_c (D + 1) 18) (80 + 5 * k + 4) (s' 4)) (am_c (D + 1) 18) (80 + 5 * k + 3) (s' 3) := ⟨_, rfl⟩
  have fA : av_fm D M A4 := by
    rw [hA4]
    exact av_fm_t g1 (av_fm_t (av_fs_fm f1) (av_fm_t (av_fs_fm f2) (av_fm_t av_fm_s (av_fm_t av_fm_s (av_fm_t av_fm_s av_fm_s)))))
  have rA : ∀ j, j < 80 → A4.1 (am_c (D + 1) 18) j = X.1 (am_c (D + 1) 18) j := fun j hj => by
    rw [hA4]
    simp only [av_is]
    rw [av_up_n (by omega), av_up_n (by omega), av_up_n (by omega), av_up_n (by omega), hS2]
  have sA : ∀ q, q < L.length → ∀ w, w < 5 → A4.1 (am_c (D + 1) 18) (80 + 5 * q + w) = if q < k + 1 then av_a1 σ (av_s L q) w else av_s L q w := fun q hq w hw => by
    rw [hA4]
    simp only [av_is]
    by_cases hqk : q = k
    · rw [hqk, if_pos (by omega), ← hs']
      rcases (show w = 0 ∨ w = 1 ∨ w = 2 ∨ w = 3 ∨ w = 4 by omega) with rfl | rfl | rfl | rfl | rfl
      · rw [av_up_n (by omega), av_up_n (by omega), av_up_n (by omega), av_up_s]
      · rw [av_up_n (by omega), av_up_n (by omega), av_up_s]
      · rw [av_up_n (by omega), av_up_n (by omega), av_up_n (by omega), av_up_n (by omega), hS2, hv 2 (by decide), hs']
        exact av_a1_2.symm
      · rw [av_up_s]
      · rw [av_up_n (by omega), av_up_s]
    · rw [av_up_n (by omega), av_up_n (by omega), av_up_n (by omega), av_up_n (by omega), hS2, g4 q hq w hw]
      by_cases h : q < k
      · rw [if_pos h, if_pos (by omega)]
      · rw [if_neg h, if_neg (by omega)]
  have fl : ∀ f, A4.1 (am_c D 13) f = M2.1 (am_c D 13) f := fun f => by rw [hA4, av_ifs, av_ifs, av_ifs, av_ifs]
  have mA : A4.2.1 (am_c D 13) 1 = am_c (D + 1) 18 + 1 := by rw [fA.1]; exact hm.1
  have m2 : M2.2.1 (am_c D 13) 1 = am_c (D + 1) 18 + 1 := by rw [hx2]; exact hmX.1
  have heq : av_eqw (av_tf σ L (k + 1)) σ := av_eqw_tk (av_ok_own hok) g5
  have htf : av_tf σ L (k + 1) = av_tk σ (av_tf σ L k) (av_s L k) := rfl
  have y0 : nI (80 + 5 * k) + 0 = nI (80 + 5 * k + 0) := by rw [av_xa (show (0 : Int32) = nI 0 from rfl)]; congr 1; omega
  have i0 := am_in_n (show 80 + 5 * k + 0 < 120 by omega) (by decide)
  have t0 := am_tn (show 80 + 5 * k + 0 < 2147483648 by omega)
  have y1 : nI (80 + 5 * k) + 1 = nI (80 + 5 * k + 1) := by rw [av_xa (show (1 : Int32) = nI 1 from rfl)]; congr 1; omega
  have i1 := am_in_n (show 80 + 5 * k + 1 < 120 by omega) (by decide)
  have t1 := am_tn (show 80 + 5 * k + 1 < 2147483648 by omega)
  have y4 : nI (80 + 5 * k) + 4 = nI (80 + 5 * k + 4) := by rw [av_xa (show (4 : Int32) = nI 4 from rfl)]; congr 1; omega
  have i4 := am_in_n (show 80 + 5 * k + 4 < 120 by omega) (by decide)
  have t4 := am_tn (show 80 + 5 * k + 4 < 2147483648 by omega)
  have y3 : nI (80 + 5 * k) + 3 = nI (80 + 5 * k + 3) := by rw [av_xa (show (3 : Int32) = nI 3 from rfl)]; congr 1; omega
  have i3 := am_in_n (show 80 + 5 * k + 3 < 120 by omega) (by decide)
  have t3 := am_tn (show 80 + 5 * k + 3 < 2147483648 by omega)
  have hle : ¬ nI L.length ≤ nI k := av_hl hk (by omega)
  by_cases h3 : s' 3 = av_s L k 3
  · rw [if_pos h3] at b2
    have hτ : av_tf σ L (k + 1) = av_tf σ L k := by rw [htf]; unfold av_tk; rw [← hs', if_pos h3]
    refine ⟨A4, some (.int (am_bi (decide (s' 1 = 0)))), ?_, fA, fun j hj hj1 => by rw [rA j hj, hτ]; exact g2 j hj hj1, by rw [rA 1 (by decide)]; exact g3, sA, heq⟩
    rw [ae_X13_beats_9, if_neg hle]
    simp only [ae_X13_beats_0, ae_X13_beats_4, ae_X13_beats_14, ae_X13_beats_19, ae_X13_beats_23, ae_X13_beats_28, ae_X13_beats_45, ae_X13_beats_62, ae_X13_beats_79, ae_X13_beats_100, ae_X13_beats_103, ae_X13_beats_107, ae_X13_beats_121, ae_X13_beats_125, ae_X13_beats_128, ae_X13_beats_132, ae_X13_beats_143, ae_X13_beats_154, ae_X13_beats_167, ae_X13_beats_177, ae_X13_beats_183, ae_X13_beats_186, ae_X13_beats_189, ae_X13_beats_194, ae_X13_beats_203, ae_X13_beats_210, ae_X13_beats_215, ae_X13_beats_221, ae_X13_beats_224, ae_X13_beats_228, ae_X13_beats_241, ae_X13_beats_247, ae_X13_beats_251, am_bnx_v, am_bnx_e, am_tl_s, am_tl_n, am_rv_s, am_add_rx, e1, e2, m2, av_x80, y0, i0, t0, q0, av_i2, y1, i1, t1, av_ifs, q1, y4, i4, t4, q4, y3, i3, t3, q3, ← hA4, fl, b2, not_true_eq_false, not_false_eq_true, if_true, if_false, am_1n0, or_true, true_or, eq_self, Bool.true_eq_false, Bool.false_eq_true, cond_true, cond_false, nI_1]
  · rw [if_neg h3] at b2
    obtain ⟨p, hp, hpe⟩ := am_pl_n (((av_a1_ok hok hs).2.resolve_left (by rw [← hs']; exact h3)).2)
    rw [hpe] at b2
    have hne : ¬ nI p = -1 := fun h => by
      have := am_n_pl hp
      rw [h] at this
      exact absurd this (by decide)
    obtain ⟨A5, hA5⟩ : ∃ A, A = av_i A4 (am_c (D + 1) 18) 5 (av_tf σ L k 5 + 1) := ⟨_, rfl⟩
    have r5 : A4.1 (am_c (D + 1) 18) 5 = av_tf σ L k 5 := by rw [rA 5 (by decide)]; exact g2 5 (by decide) (by decide)
    have f5 : av_fm D M A5 := by rw [hA5]; exact av_fm_t fA av_fm_s
    have m5 : A5.2.1 (am_c D 13) 1 = am_c (D + 1) 18 + 1 := by rw [f5.1]; exact hm.1
    have r5s : ∀ j, j < 80 → j ≠ 1 → A5.1 (am_c (D + 1) 18) j = av_up (av_tf σ L k) 5 (av_tf σ L k 5 + 1) j := fun j hj hj1 => by
      rw [hA5, av_is]
      by_cases h : j = 5
      · rw [h, av_up_s, av_up_s]
      · rw [av_up_n h, av_up_n h, rA j hj]; exact g2 j hj hj1
    have s5 : ∀ q, q < L.length → ∀ w, w < 5 → A5.1 (am_c (D + 1) 18) (80 + 5 * q + w) = if q < k + 1 then av_a1 σ (av_s L q) w else av_s L q w := fun q hq w hw => by rw [hA5, av_is, av_up_n (by omega)]; exact sA q hq w hw
    have f22 : A4.1 (am_c D 13) 22 = nI p := by rw [fl]; exact b2
    have f22' : A5.1 (am_c D 13) 22 = nI p := by rw [hA5, av_ifs]; exact f22
    have ow : am_val iX13_owner 0 [some (.ref (am_c D 13)), some (.int (nI p))] [] A5 = some (.inl (some (.int (σ (19 + 2 * p)))), A5, 0, 0) := by
      rw [mc_owner (by rw [f5.1]; exact hm) hp, r5s _ (by omega) (by omega), av_up_n (by omega)]
      rw [g5.1 _ (by omega) (by omega)]
    by_cases ho : σ (19 + 2 * p) = -1
    · have hτ : av_tf σ L (k + 1) = av_up (av_tf σ L k) 5 (av_tf σ L k 5 + 1) := by
        rw [htf]
        unfold av_tk
        rw [← hs', if_neg h3, hpe, av_of_n hp, if_pos ho]
      refine ⟨A5, some (.int (am_bi (decide (s' 1 = 0)))), ?_, f5, fun j hj hj1 => by rw [hτ]; exact r5s j hj hj1, by rw [hA5, av_is, av_up_n (by decide), rA 1 (by decide)]; exact g3, s5, heq⟩
      rw [ho] at ow
      rw [ae_X13_beats_9, if_neg hle]
      simp only [ae_X13_beats_0, ae_X13_beats_4, ae_X13_beats_14, ae_X13_beats_19, ae_X13_beats_23, ae_X13_beats_28, ae_X13_beats_45, ae_X13_beats_62, ae_X13_beats_79, ae_X13_beats_100, ae_X13_beats_103, ae_X13_beats_107, ae_X13_beats_121, ae_X13_beats_125, ae_X13_beats_128, ae_X13_beats_132, ae_X13_beats_143, ae_X13_beats_154, ae_X13_beats_167, ae_X13_beats_177, ae_X13_beats_183, ae_X13_beats_186, ae_X13_beats_189, ae_X13_beats_194, ae_X13_beats_203, ae_X13_beats_210, ae_X13_beats_215, ae_X13_beats_221, ae_X13_beats_224, ae_X13_beats_228, ae_X13_beats_241, ae_X13_beats_247, ae_X13_beats_251, am_bnx_v, am_bnx_e, am_tl_s, am_tl_n, am_rv_s, am_add_rx, e1, e2, m2, av_x80, y0, i0, t0, q0, av_i2, y1, i1, t1, av_ifs, q1, y4, i4, t4, q4, y3, i3, t3, q3, ← hA4, f22, hne, not_true_eq_false, not_false_eq_true, if_true, if_false, am_1n0, or_true, true_or, eq_self, Bool.true_eq_false, Bool.false_eq_true, cond_true, cond_false, mA, r5, ← hA5, f22', ow, nI_1]
    · obtain ⟨t, ht, hot⟩ := (av_ok_own hok p hp).resolve_left ho
      have x9 := av_x9 (k := t)
      have i9 := am_in_n (show 9 + 3 * t < 120 by omega) (by decide)
      have t9 := am_tn (show 9 + 3 * t < 2147483648 by omega)
      obtain ⟨A6, hA6⟩ : ∃ A, A = av_i A5 (am_c (D + 1) 18) (9 + 3 * t) (av_tf σ L k (9 + 3 * t) + 1) := ⟨_, rfl⟩
      obtain ⟨A7, hA7⟩ : ∃ A, A = av_i A6 (am_c (D + 1) 18) 8 (av_tf σ L k 8 + 1) := ⟨_, rfl⟩
      have r9 : A5.1 (am_c (D + 1) 18) (9 + 3 * t) = av_tf σ L k (9 + 3 * t) := by rw [r5s _ (by omega) (by omega), av_up_n (by omega)]
      have r8 : A6.1 (am_c (D + 1) 18) 8 = av_tf σ L k 8 := by rw [hA6, av_is, av_up_n (by omega), r5s _ (by omega) (by omega), av_up_n (by omega)]
      have m6 : A6.2.1 (am_c D 13) 1 = am_c (D + 1) 18 + 1 := by rw [hA6]; exact m5
      have hτ : av_tf σ L (k + 1) = av_up (av_up (av_up (av_tf σ L k) 5 (av_tf σ L k 5 + 1)) (9 + 3 * t) (av_tf σ L k (9 + 3 * t) + 1)) 8 (av_tf σ L k 8 + 1) := by
        have how : av_ow σ (av_s L k) = 9 + 3 * t := by unfold av_ow; rw [hpe, av_of_n hp, hot, am_tn (by omega)]
        rw [htf]
        unfold av_tk
        rw [← hs', if_neg h3, how, hpe, av_of_n hp, if_neg ho]
      refine ⟨A7, some (.int (am_bi (decide (s' 1 = 0)))), ?_, by rw [hA7, hA6]; exact av_fm_t f5 (av_fm_t av_fm_s av_fm_s), fun j hj hj1 => ?_, by rw [hA7, av_is, av_up_n (by decide), hA6, av_is, av_up_n (by omega), hA5, av_is, av_up_n (by decide), rA 1 (by decide)]; exact g3, fun q hq w hw => by rw [hA7, av_is, av_up_n (by omega), hA6, av_is, av_up_n (by omega)]; exact s5 q hq w hw, heq⟩
      · rw [hot] at ow ho
        rw [ae_X13_beats_9, if_neg hle]
        simp only [ae_X13_beats_0, ae_X13_beats_4, ae_X13_beats_14, ae_X13_beats_19, ae_X13_beats_23, ae_X13_beats_28, ae_X13_beats_45, ae_X13_beats_62, ae_X13_beats_79, ae_X13_beats_100, ae_X13_beats_103, ae_X13_beats_107, ae_X13_beats_121, ae_X13_beats_125, ae_X13_beats_128, ae_X13_beats_132, ae_X13_beats_143, ae_X13_beats_154, ae_X13_beats_167, ae_X13_beats_177, ae_X13_beats_183, ae_X13_beats_186, ae_X13_beats_189, ae_X13_beats_194, ae_X13_beats_203, ae_X13_beats_210, ae_X13_beats_215, ae_X13_beats_221, ae_X13_beats_224, ae_X13_beats_228, ae_X13_beats_241, ae_X13_beats_247, ae_X13_beats_251, am_bnx_v, am_bnx_e, am_tl_s, am_tl_n, am_rv_s, am_add_rx, e1, e2, m2, av_x80, y0, i0, t0, q0, av_i2, y1, i1, t1, av_ifs, q1, y4, i4, t4, q4, y3, i3, t3, q3, ← hA4, f22, hne, not_true_eq_false, not_false_eq_true, if_true, if_false, am_1n0, or_true, true_or, eq_self, Bool.true_eq_false, Bool.false_eq_true, cond_true, cond_false, mA, r5, ← hA5, f22', ow, ho, m5, x9, i9, t9, r9, ← hA6, m6, r8, ← hA7, nI_1]
      · rw [hτ, hA7, av_is]
        by_cases h8 : j = 8
        · rw [h8, av_up_s, av_up_s]
        · rw [av_up_n h8, av_up_n h8, hA6, av_is]
          by_cases h9 : j = 9 + 3 * t
          · rw [h9, av_up_s, av_up_s]
          · rw [av_up_n h9, av_up_n h9]; exact r5s j hj hj1
