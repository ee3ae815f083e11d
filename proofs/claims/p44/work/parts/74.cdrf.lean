/-! the class: beats ahead in a draft -/
def av_S (σ : Nat → Int32) (L : List (Nat → Int32)) (j : Nat) : av_K := am_it (fun _ (x : av_K) => (av_o5 x.1 x.2, av_kf x.1 x.2 x.2.length)) j (σ, L)
theorem av_S_s {σ : Nat → Int32} {L : List (Nat → Int32)} {j : Nat} : av_S σ L (j + 1) = (av_o5 (av_S σ L j).1 (av_S σ L j).2, av_kf (av_S σ L j).1 (av_S σ L j).2 (av_S σ L j).2.length) := rfl
theorem av_o5_w {bd i : Nat} {σ : Nat → Int32} {L : List (Nat → Int32)} (hok : av_ok bd σ L) (hi : i = 0 ∨ i = 2 ∨ (18 ≤ i ∧ i < 50)) : av_o5 σ L i = σ i := by
  have ht := av_tf_ok hok L.length
  have hr := av_rg_ok (τ := av_tf σ L L.length) (n := av_np σ) (fun p hp => by
    obtain ⟨h, h1, h2⟩ := (hok.2.2.2.1 p hp).2.2
    exact ⟨h, h1, by rw [ht.1 _ (Or.inr (Or.inr (by omega)))]; exact h2⟩) (av_np σ) (Nat.le_refl _)
  unfold av_o5
  rw [av_up_n (by omega), hr.1 i (fun p => by omega), ht.1 i (by omega)]
theorem av_S_ok {bd : Nat} {σ : Nat → Int32} {L : List (Nat → Int32)} (hok : av_ok bd σ L) : ∀ j, av_ok (bd + 40 * j) (av_S σ L j).1 (av_S σ L j).2 ∧ ∀ i, (i = 0 ∨ i = 2 ∨ (18 ≤ i ∧ i < 50)) → (av_S σ L j).1 i = σ i := by
  intro j
  induction j with
  | zero => exact ⟨hok, fun _ _ => rfl⟩
  | succ j ih =>
    rw [av_S_s]
    exact ⟨av_ok_m (av_ok_5 ih.1) (by omega), fun i hi => (av_o5_w ih.1 hi).trans (ih.2 i hi)⟩
theorem av_S_a {bd : Nat} {σ : Nat → Int32} {L : List (Nat → Int32)} (hok : av_ok bd σ L) (j : Nat) (s : Nat → Int32) : av_a1 (av_S σ L j).1 s = av_a1 σ s := by
  have h := (av_S_ok hok j).2
  have h1 : av_hf (av_S σ L j).1 = av_hf σ := funext fun p => av_at_c (fun k hk => h _ (Or.inr (Or.inr (by omega))))
  unfold av_a1
  rw [h1, h 2 (Or.inr (Or.inl rfl))]
/-! bits -/
theorem av_b1 : ∀ k, k < 8 → ∀ x, x < 2 ^ k → (∀ q, q < k → (x + 2 ^ k) / 2 ^ q % 2 = x / 2 ^ q % 2) ∧ (∀ q, q < k + 1 → (x + 2 ^ k) % 2 ^ q = x % 2 ^ q) ∧ (x + 2 ^ k) / 2 ^ k % 2 = 1 ∧ x / 2 ^ k % 2 = 0 := by decide +kernel
theorem av_b2 : ∀ x, x < 256 → ∀ q, q < 8 → (nI x &&& ((1 : Int32) <<< (nI q &&& 31)) = 0 ↔ ¬ x / 2 ^ q % 2 = 1) ∧ nI x &&& (((1 : Int32) <<< (nI q &&& 31)) - 1) = nI (x % 2 ^ q) := by decide +kernel
theorem av_b3 : ∀ q, q < 8 → ∀ r, r < q + 1 → nI q - nI (q - r) = nI r := by decide +kernel
theorem av_gf_b {σ : Nat → Int32} {L : List (Nat → Int32)} : ∀ k, k ≤ 8 → ∃ x, x < 2 ^ k ∧ av_gf σ L k = nI x ∧ (∀ q, q < k → (x / 2 ^ q % 2 = 1 ↔ av_a1 σ (av_s L q) 1 = 0)) ∧ ∀ q, q ≤ k → nI (x % 2 ^ q) = av_gf σ L q := by
  intro k
  induction k with
  | zero =>
    intro _
    refine ⟨0, by decide, rfl, fun q hq => absurd hq (Nat.not_lt_zero _), fun q hq => ?_⟩
    obtain rfl : q = 0 := by omega
    rfl
  | succ k ih =>
    intro hk
    obtain ⟨x, h1, h2, h3, h4⟩ := ih (by omega)
    obtain ⟨b1, b2, b3, b4⟩ := av_b1 k (by omega) x h1
    have hp : 2 ^ (k + 1) = 2 ^ k + 2 ^ k := by rw [Nat.pow_succ]; omega
    by_cases hd : av_a1 σ (av_s L k) 1 = 0
    · have hgf : av_gf σ L (k + 1) = av_gf σ L k ||| ((1 : Int32) <<< (nI k &&& 31)) := by show av_gg σ L k (av_gf σ L k) = _; unfold av_gg; rw [if_pos hd]
      have e : av_gf σ L (k + 1) = nI (x + 2 ^ k) := by rw [hgf, h2, (av_bc0 k (by omega) x h1).2]
      refine ⟨x + 2 ^ k, by omega, e, fun q hq => ?_, fun q hq => ?_⟩
      · by_cases hqk : q = k
        · rw [hqk, b3]
          exact ⟨fun _ => hd, fun _ => rfl⟩
        · rw [b1 q (by omega)]
          exact h3 q (by omega)
      · by_cases hqk : q = k + 1
        · rw [hqk, e, Nat.mod_eq_of_lt (by omega)]
        · rw [b2 q (by omega)]
          exact h4 q (by omega)
    · have hgf : av_gf σ L (k + 1) = av_gf σ L k := by show av_gg σ L k (av_gf σ L k) = _; unfold av_gg; rw [if_neg hd]
      refine ⟨x, by omega, by rw [hgf, h2], fun q hq => ?_, fun q hq => ?_⟩
      · by_cases hqk : q = k
        · rw [hqk, b4]
          exact ⟨fun h => absurd h (by decide), fun h => absurd h hd⟩
        · exact h3 q (by omega)
      · by_cases hqk : q = k + 1
        · rw [hqk, hgf, h2, Nat.mod_eq_of_lt (by omega)]
        · exact h4 q (by omega)
theorem av_gf_t {σ : Nat → Int32} {L : List (Nat → Int32)} {q : Nat} (hl : L.length ≤ 8) (hq : q < L.length) : (av_gf σ L L.length &&& ((1 : Int32) <<< (nI q &&& 31)) = 0 ↔ ¬ av_a1 σ (av_s L q) 1 = 0) ∧ nI q - am_bc (av_gf σ L L.length &&& (((1 : Int32) <<< (nI q &&& 31)) - 1)) = nI (av_kf σ L q).length := by
  obtain ⟨x, h1, h2, h3, h4⟩ := av_gf_b (σ := σ) (L := L) L.length hl
  have h256 : x < 256 := Nat.lt_of_lt_of_le h1 (Nat.pow_le_pow_right (by decide) hl)
  obtain ⟨b1, b2⟩ := av_b2 x h256 q (by omega)
  obtain ⟨y, g1, g2, g3, g4⟩ := av_gf_bc (σ := σ) (L := L) q (by omega)
  rw [h2, b1, b2, h4 q (by omega), g2, g3]
  exact ⟨not_congr (h3 q hq), av_b3 q (by omega) _ (by omega)⟩
theorem av_kf_at {σ : Nat → Int32} {L : List (Nat → Int32)} {q : Nat} (ha : ¬ av_a1 σ (av_s L q) 1 = 0) : ∀ n, q < n → (av_kf σ L q).length < (av_kf σ L n).length ∧ av_s (av_kf σ L n) (av_kf σ L q).length = av_a1 σ (av_s L q) := by
  intro n
  induction n with
  | zero => intro h; omega
  | succ n ih =>
    intro hq
    have hs : av_kf σ L (n + 1) = if av_a1 σ (av_s L n) 1 = 0 then av_kf σ L n else av_kf σ L n ++ [av_a1 σ (av_s L n)] := rfl
    by_cases hqn : q = n
    · subst hqn
      rw [hs, if_neg ha]
      exact ⟨by simp, av_s_e⟩
    · obtain ⟨h1, h2⟩ := ih (by omega)
      rw [hs]
      by_cases hd : av_a1 σ (av_s L n) 1 = 0
      · rw [if_pos hd]; exact ⟨h1, h2⟩
      · rw [if_neg hd]
        refine ⟨by rw [List.length_append]; omega, ?_⟩
        rw [av_s_l h1]
        exact h2
/-! goneInAgain -/
theorem cq_goneAg {B E bd : Nat} {rm rm' : Nat → Nat} {σ τ : Nat → Int32} {L K : List (Nat → Int32)} {a : Int32} {M : am_M} (p0 : M.2.1 (am_c 0 12) 0 = am_c B 1 + 1) (p8 : M.2.1 (am_c 0 12) 8 = am_c E 1 + 1) (hC : av_C M B rm σ L) (hD : av_C M E rm' τ K) (hE : B + 24 ≤ E) (hok : av_ok bd σ L) : ∃ M1, av_qc (am_val iX12_goneInAgain 0 [some (.ref (am_c 0 12)), some (.int a), none, none, none, none, none] [] M) (aq_goneIn σ L a) M1 ∧ av_fr M M1 E ∧ ∃ rm2 τ2 K2, av_C M1 E rm2 τ2 K2 := by
  have l8 := hC.2.1.2.2.1
  unfold aq_goneIn
  cases hp : am_ltb a L.length with
  | false =>
    rw [if_pos rfl]
    refine ⟨M, ?_, av_fr_0, rm', τ, K, hD⟩
    show (_ : am_T) = some (.inr 1, M, 1, 6)
    simp only [ae_X12_goneInAgain_0, ae_X12_goneInAgain_5, ae_X12_goneInAgain_9, ae_X12_goneInAgain_13, ae_X12_goneInAgain_16, ae_X12_goneInAgain_29, ae_X12_goneInAgain_34, ae_X12_goneInAgain_38, ae_X12_goneInAgain_41, ae_X12_goneInAgain_62, ae_X12_goneInAgain_66, ae_X12_goneInAgain_83, am_bnx_v, am_bnx_e, am_tl_s, am_tl_n, am_rv_s, am_add_rx, ac_ckSound_f p0 hC hp]
  | true =>
    rw [if_neg (by decide)]
    have c0 := ac_ckSound_t p0 hC hp
    obtain ⟨k, hk, rfl⟩ := am_lt_n (by omega) hp
    rw [av_ix_n (by omega)]
    obtain ⟨g1, g2, g3, g4⟩ := av_gn_e hok (hok.2.2.2.2.1 k hk)
    obtain ⟨M1, e1, c1, f1, v1⟩ := ac_take (Or.inr hE) hD hC
    have key : ∀ (m j q : Nat) (X : am_M) (rx : Nat → Nat) (o o' : Option Value), j + m + 1 = av_gn σ (av_s L k) → q < (av_S σ L j).2.length → av_s (av_S σ L j).2 q = av_n σ (av_s L k) j → av_C X E rx (av_S σ L j).1 (av_S σ L j).2 → av_fr M X E → ∃ M', am_val iX12_goneInAgain 23 [some (.ref (am_c 0 12)), some (.int (nI k)), some (.int (nI q)), some (.int (nI j)), some (.int 0), o, o'] [] X = some (.inl (some (.int (nI (av_gn σ (av_s L k))))), M', 0, 0) ∧ av_fr M M' E ∧ ∃ rm2 τ2 K2, av_C M' E rm2 τ2 K2 := by
      intro m
      induction m with
      | zero =>
        intro j q X rx o o' hj hq hs cX fX
        have okj := (av_S_ok hok j).1
        obtain ⟨X', rx', e, c, f⟩ := ac_passBeat (av_ok_own okj) cX
        have q8 : X.2.1 (am_c 0 12) 8 = am_c E 1 + 1 := (fX.2 0 12 8 (by decide) (by omega)).2.trans p8
        obtain ⟨b1, b2⟩ := av_gf_t (σ := (av_S σ L j).1) okj.2.2.2.2.2.2.2 hq
        have hz : av_a1 (av_S σ L j).1 (av_s (av_S σ L j).2 q) 1 = 0 := by
          rw [av_S_a hok, hs, ← av_n_s]
          exact g4 _ (by omega)
        have b1 : ¬ (av_gf (av_S σ L j).1 (av_S σ L j).2 (av_S σ L j).2.length &&& ((1 : Int32) <<< (nI q &&& 31)) = 0) := fun h => b1.mp h hz
        refine ⟨X', ?_, av_fr_t fX f, rx', _, _, c⟩
        rw [ae_X12_goneInAgain_23, if_neg (show ¬ (20 : Int32) ≤ nI j from nI_ge (b := 20) (by omega) (by decide))]
        simp only [ae_X12_goneInAgain_0, ae_X12_goneInAgain_5, ae_X12_goneInAgain_9, ae_X12_goneInAgain_13, ae_X12_goneInAgain_16, ae_X12_goneInAgain_29, ae_X12_goneInAgain_34, ae_X12_goneInAgain_38, ae_X12_goneInAgain_41, ae_X12_goneInAgain_62, ae_X12_goneInAgain_66, ae_X12_goneInAgain_83, am_bnx_v, am_bnx_e, am_tl_s, am_tl_n, am_rv_s, am_add_rx, q8, e, b1, not_true_eq_false, not_false_eq_true, if_true, if_false, am_1n0, or_true, true_or, eq_self, Bool.true_eq_false, Bool.false_eq_true, cond_true, cond_false, nI_1]
        rw [ae_X12_goneInAgain_23, ← hj]
        by_cases h20 : (20 : Int32) ≤ nI (j + 1)
        · rw [if_pos h20]
          simp only [ae_X12_goneInAgain_0, ae_X12_goneInAgain_5, ae_X12_goneInAgain_9, ae_X12_goneInAgain_13, ae_X12_goneInAgain_16, ae_X12_goneInAgain_29, ae_X12_goneInAgain_34, ae_X12_goneInAgain_38, ae_X12_goneInAgain_41, ae_X12_goneInAgain_62, ae_X12_goneInAgain_66, ae_X12_goneInAgain_83]
        · rw [if_neg h20]
          simp only [ae_X12_goneInAgain_0, ae_X12_goneInAgain_5, ae_X12_goneInAgain_9, ae_X12_goneInAgain_13, ae_X12_goneInAgain_16, ae_X12_goneInAgain_29, ae_X12_goneInAgain_34, ae_X12_goneInAgain_38, ae_X12_goneInAgain_41, ae_X12_goneInAgain_62, ae_X12_goneInAgain_66, ae_X12_goneInAgain_83, not_true_eq_false, not_false_eq_true, if_true, if_false, am_1n0, or_true, true_or, eq_self, Bool.true_eq_false, Bool.false_eq_true, cond_true, cond_false]
      | succ m ih =>
        intro j q X rx o o' hj hq hs cX fX
        have okj := (av_S_ok hok j).1
        obtain ⟨X', rx', e, c, f⟩ := ac_passBeat (av_ok_own okj) cX
        have q8 : X.2.1 (am_c 0 12) 8 = am_c E 1 + 1 := (fX.2 0 12 8 (by decide) (by omega)).2.trans p8
        obtain ⟨b1, b2⟩ := av_gf_t (σ := (av_S σ L j).1) okj.2.2.2.2.2.2.2 hq
        have hz : ¬ av_a1 (av_S σ L j).1 (av_s (av_S σ L j).2 q) 1 = 0 := by
          rw [av_S_a hok, hs, ← av_n_s]
          exact (g3 _ (by omega)).1
        have b1 := b1.mpr hz
        obtain ⟨k1, k2⟩ := av_kf_at hz _ hq
        obtain ⟨M', h1, h2⟩ := ih (j + 1) (av_kf (av_S σ L j).1 (av_S σ L j).2 q).length X' rx' (some (.int (av_gf (av_S σ L j).1 (av_S σ L j).2 (av_S σ L j).2.length))) (some (.int (av_gf (av_S σ L j).1 (av_S σ L j).2 (av_S σ L j).2.length &&& (((1 : Int32) <<< (nI q &&& 31)) - 1)))) (by omega) k1 (by rw [av_S_s, k2, av_S_a hok, hs, av_n_s]) c (av_fr_t fX f)
        refine ⟨M', ?_, h2⟩
        rw [ae_X12_goneInAgain_23, if_neg (show ¬ (20 : Int32) ≤ nI j from nI_ge (b := 20) (by omega) (by decide))]
        simp only [ae_X12_goneInAgain_0, ae_X12_goneInAgain_5, ae_X12_goneInAgain_9, ae_X12_goneInAgain_13, ae_X12_goneInAgain_16, ae_X12_goneInAgain_29, ae_X12_goneInAgain_34, ae_X12_goneInAgain_38, ae_X12_goneInAgain_41, ae_X12_goneInAgain_62, ae_X12_goneInAgain_66, ae_X12_goneInAgain_83, am_bnx_v, am_bnx_e, am_tl_s, am_tl_n, am_rv_s, am_add_rx, q8, e, b1, b2, not_true_eq_false, not_false_eq_true, if_true, if_false, am_1n0, or_true, true_or, eq_self, Bool.true_eq_false, Bool.false_eq_true, cond_true, cond_false, nI_1, h1]
    obtain ⟨M2, h1, h2, h3⟩ := key (av_gn σ (av_s L k) - 1) 0 k M1 rm' none none (by omega) hk rfl c1 f1
    rw [nI_0] at h1
    refine ⟨M2, ?_, h2, h3⟩
    show (_ : am_T) = some (.inl (some (.int (nI (av_gn σ (av_s L k))))), M2, 0, 0)
    simp only [ae_X12_goneInAgain_0, ae_X12_goneInAgain_5, ae_X12_goneInAgain_9, ae_X12_goneInAgain_13, ae_X12_goneInAgain_16, ae_X12_goneInAgain_29, ae_X12_goneInAgain_34, ae_X12_goneInAgain_38, ae_X12_goneInAgain_41, ae_X12_goneInAgain_62, ae_X12_goneInAgain_66, ae_X12_goneInAgain_83, am_bnx_v, am_bnx_e, am_tl_s, am_tl_n, am_rv_s, am_add_rx, c0, p0, p8, e1, h1]
/-! comes -/
theorem av_rng {F : (Nat → Int32) → Nat → Int32} {K : List (Nat → Int32)} : (List.range K.length).map (fun q => F (av_s K q)) = K.map F := by
  apply List.ext_getElem?
  intro i
  rw [List.getElem?_map, List.getElem?_map]
  by_cases hi : i < K.length
  · rw [List.getElem?_range hi, List.getElem?_eq_getElem hi]
    show some (F (av_s K i)) = some (F K[i])
    rw [show av_s K i = K[i] by unfold av_s; rw [List.getD_eq_getElem?_getD, List.getElem?_eq_getElem hi]; rfl]
  · rw [List.getElem?_eq_none (by rw [List.length_range]; omega), List.getElem?_eq_none (by omega)]
    rfl
theorem av_fmf {F : (Nat → Int32) → Nat → Int32} : ∀ (X : List (Nat → Int32)), (∀ s, av_al s = false → av_al (F s) = false) → ((X.filter av_al).map F).filter av_al = (X.map F).filter av_al := by
  intro X h
  induction X with
  | nil => rfl
  | cons x X ih =>
    cases hx : av_al x with
    | true =>
      rw [List.filter_cons_of_pos hx, List.map_cons, List.map_cons]
      cases hf : av_al (F x) with
      | true => rw [List.filter_cons_of_pos hf, List.filter_cons_of_pos hf, ih]
      | false => rw [List.filter_cons_of_neg (by rw [hf]; decide), List.filter_cons_of_neg (by rw [hf]; decide), ih]
    | false =>
      rw [List.filter_cons_of_neg (by rw [hx]; decide), List.map_cons, List.filter_cons_of_neg (by rw [h x hx]; decide), ih]
theorem av_S_L {bd : Nat} {σ : Nat → Int32} {L : List (Nat → Int32)} (hok : av_ok bd σ L) : ∀ j, (av_S σ L j).2 = (L.map (fun s => av_n σ s j)).filter av_al := by
  intro j
  induction j with
  | zero =>
    show L = (L.map (fun s => s)).filter av_al
    rw [List.map_id']
    refine (List.filter_eq_self.mpr fun s hs => ?_).symm
    obtain ⟨q, hq, rfl⟩ := List.mem_iff_getElem.mp hs
    have h := av_ok_pos hok q hq
    have e : av_s L q = L[q] := by unfold av_s; rw [List.getD_eq_getElem?_getD, List.getElem?_eq_getElem hq]; rfl
    rw [e] at h
    unfold av_al
    rw [decide_eq_false (fun h0 => h (by rw [h0]; decide))]
    rfl
  | succ j ih =>
    rw [av_S_s]
    show av_kf (av_S σ L j).1 (av_S σ L j).2 (av_S σ L j).2.length = _
    rw [av_kf_f, av_rng, ih]
    have hF : av_a1 (av_S σ L j).1 = av_a1 σ := funext fun s => av_S_a hok j s
    rw [hF, av_fmf, List.map_map]
    · rfl
    · intro s hs
      unfold av_al at hs ⊢
      have h0 : s 1 = 0 := by
        by_cases h0 : s 1 = 0
        · exact h0
        · rw [decide_eq_false h0] at hs; cases hs
      rw [decide_eq_true (av_a1_z hok h0)]
      rfl
theorem av_es_0 {K : List (Nat → Int32)} {p : Int32} : ∀ n, n ≤ 8 → (am_it (av_es K p) n 0 = 0 ↔ ∀ q, q < n → av_ec (av_s K q) p = false) := by
  intro n
  induction n with
  | zero => intro _; exact ⟨fun _ q hq => absurd hq (Nat.not_lt_zero _), fun _ => rfl⟩
  | succ n ih =>
    intro hn
    have ih := ih (by omega)
    have hs : am_it (av_es K p) (n + 1) 0 = bif av_ec (av_s K n) p then am_it (av_es K p) n 0 ||| ((1 : Int32) <<< (nI n &&& 31)) else am_it (av_es K p) n 0 := rfl
    rw [hs]
    cases hx : av_ec (av_s K n) p with
    | true =>
      rw [cond_true, am_or0]
      refine ⟨fun h => absurd h.2 (am_sh0 n (by omega)), fun h => ?_⟩
      rw [h n (by omega)] at hx
      cases hx
    | false =>
      rw [cond_false, ih]
      refine ⟨fun h q hq => ?_, fun h q hq => h q (by omega)⟩
      by_cases hqn : q = n
      · rw [hqn]; exact hx
      · exact h q (by omega)
theorem av_s_mem {L : List (Nat → Int32)} {k : Nat} (hk : k < L.length) : av_s L k ∈ L := by
  have e : av_s L k = L[k] := by unfold av_s; rw [List.getD_eq_getElem?_getD, List.getElem?_eq_getElem hk]; rfl
  rw [e]
  exact List.getElem_mem hk
theorem av_mem_s {L : List (Nat → Int32)} {s : Nat → Int32} (h : s ∈ L) : ∃ k, k < L.length ∧ av_s L k = s := by
  obtain ⟨q, hq, e⟩ := List.mem_iff_getElem.mp h
  refine ⟨q, hq, ?_⟩
  rw [← e]
  unfold av_s
  rw [List.getD_eq_getElem?_getD, List.getElem?_eq_getElem hq]
  rfl
theorem av_S_e {bd j : Nat} {σ : Nat → Int32} {L : List (Nat → Int32)} {p : Int32} (hok : av_ok bd σ L) : (am_it (av_es (av_S σ L j).2 p) (av_S σ L j).2.length 0 = 0 ↔ ∀ k, k < L.length → av_ef σ (av_s L k) p j = false) := by
  rw [av_es_0 _ (av_S_ok hok j).1.2.2.2.2.2.2.2]
  have hL := av_S_L hok j
  refine ⟨fun h k hk => ?_, fun h q hq => ?_⟩
  · cases hx : av_ef σ (av_s L k) p j with
    | false => rfl
    | true =>
      have hal : av_al (av_n σ (av_s L k) j) = true := by
        unfold av_al
        unfold av_ef av_ec at hx
        cases hd : decide (av_n σ (av_s L k) j 1 = 0) with
        | false => rfl
        | true => rw [hd] at hx; cases hx
      have hm : av_n σ (av_s L k) j ∈ (av_S σ L j).2 := by
        rw [hL]
        exact List.mem_filter.mpr ⟨List.mem_map.mpr ⟨_, av_s_mem hk, rfl⟩, hal⟩
      obtain ⟨q, hq, e⟩ := av_mem_s hm
      have := h q hq
      rw [e] at this
      unfold av_ef at hx
      rw [hx] at this
      cases this
  · have hm := av_s_mem hq
    rw [hL] at hm
    obtain ⟨h1, -⟩ := List.mem_filter.mp hm
    obtain ⟨t, ht, e⟩ := List.mem_map.mp h1
    obtain ⟨k, hk, ek⟩ := av_mem_s ht
    have := h k hk
    unfold av_ef at this
    rw [ek, show av_n σ t j = av_s (av_S σ L j).2 q by rw [hL]; exact e] at this
    exact this
theorem av_cm_c1 {σ : Nat → Int32} {L : List (Nat → Int32)} {p : Int32} : ∀ n, (am_it (av_cg σ L p) n (-1) = -1 ∧ ∀ k, k < n → ∀ j, j < 21 → av_ef σ (av_s L k) p j = false) ∨ ∃ j, j < 21 ∧ am_it (av_cg σ L p) n (-1) = nI j ∧ (∃ k, k < n ∧ av_ef σ (av_s L k) p j = true) ∧ ∀ i, i < j → ∀ k, k < n → av_ef σ (av_s L k) p i = false := by
  intro n
  induction n with
  | zero => exact Or.inl ⟨rfl, fun k hk => absurd hk (Nat.not_lt_zero _)⟩
  | succ n ih =>
    have hs : am_it (av_cg σ L p) (n + 1) (-1) = av_cg σ L p n (am_it (av_cg σ L p) n (-1)) := rfl
    have hcg : ∀ x, av_cg σ L p n x = if av_bi (av_et σ (av_s L n) p) = -1 then x else if x = -1 then av_bi (av_et σ (av_s L n) p) else if x ≤ av_bi (av_et σ (av_s L n) p) then x else av_bi (av_et σ (av_s L n) p) := fun _ => rfl
    rw [hs, hcg]
    rcases av_fst_c (f := av_ef σ (av_s L n) p) 21 with ⟨e, e2⟩ | ⟨j0, hj0, e, e3, e4⟩
    · have e : av_et σ (av_s L n) p = none := e
      rw [e, av_bi_n, if_pos rfl]
      rcases ih with ⟨a1, a2⟩ | ⟨j, b1, b2, ⟨k, b3, b4⟩, b5⟩
      · refine Or.inl ⟨a1, fun k hk => ?_⟩
        by_cases hkn : k = n
        · rw [hkn]; exact e2
        · exact a2 k (by omega)
      · refine Or.inr ⟨j, b1, b2, ⟨k, by omega, b4⟩, fun i hi k' hk' => ?_⟩
        by_cases hkn : k' = n
        · rw [hkn]; exact e2 i (by omega)
        · exact b5 i hi k' (by omega)
    · have e : av_et σ (av_s L n) p = some j0 := e
      rw [e, av_bi_s, if_neg (av_bi_nI (show j0 < 2147483648 by omega))]
      rcases ih with ⟨a1, a2⟩ | ⟨j, b1, b2, ⟨k, b3, b4⟩, b5⟩
      · rw [a1, if_pos rfl]
        refine Or.inr ⟨j0, hj0, rfl, ⟨n, by omega, e3⟩, fun i hi k' hk' => ?_⟩
        by_cases hkn : k' = n
        · rw [hkn]; exact e4 i hi
        · exact a2 k' (by omega) i (by omega)
      · rw [b2, if_neg (av_bi_nI (show j < 2147483648 by omega))]
        by_cases hle : j ≤ j0
        · rw [if_pos (nI_le hle (by omega))]
          refine Or.inr ⟨j, b1, rfl, ⟨k, by omega, b4⟩, fun i hi k' hk' => ?_⟩
          by_cases hkn : k' = n
          · rw [hkn]; exact e4 i (by omega)
          · exact b5 i hi k' (by omega)
        · rw [if_neg (nI_ge (show j0 < j by omega) (by omega))]
          refine Or.inr ⟨j0, hj0, rfl, ⟨n, by omega, e3⟩, fun i hi k' hk' => ?_⟩
          by_cases hkn : k' = n
          · rw [hkn]; exact e4 i hi
          · exact b5 i (by omega) k' (by omega)
theorem cq_comes {B E bd : Nat} {rm rm' : Nat → Nat} {σ τ : Nat → Int32} {L K : List (Nat → Int32)} {a : Int32} {M : am_M} (p0 : M.2.1 (am_c 0 12) 0 = am_c B 1 + 1) (p8 : M.2.1 (am_c 0 12) 8 = am_c E 1 + 1) (hC : av_C M B rm σ L) (hD : av_C M E rm' τ K) (hE : B + 24 ≤ E) (hok : av_ok bd σ L) : ∃ M1, av_qc (am_val iX12_comes 0 [some (.ref (am_c 0 12)), some (.int a), none, none] [] M) (aq_comes σ L a) M1 ∧ av_fr M M1 E ∧ ∃ rm2 τ2 K2, av_C M1 E rm2 τ2 K2 := by
  have n6 := hC.2.1.1
  unfold aq_comes
  cases hp : am_ltb a (av_np σ) with
  | false =>
    rw [if_pos rfl]
    refine ⟨M, ?_, av_fr_0, rm', τ, K, hD⟩
    show (_ : am_T) = some (.inr 1, M, 1, 6)
    simp only [ae_X12_comes_0, ae_X12_comes_5, ae_X12_comes_9, ae_X12_comes_12, ae_X12_comes_14, ae_X12_comes_22, ae_X12_comes_26, ae_X12_comes_29, ae_X12_comes_37, ae_X12_comes_41, ae_X12_comes_45, ae_X12_comes_48, ae_X12_comes_50, ae_X12_comes_54, ae_X12_comes_57, ae_X12_comes_64, am_bnx_v, am_bnx_e, am_tl_s, am_tl_n, am_rv_s, am_add_rx, ac_ckPlayer_f p0 hC hp]
  | true =>
    rw [if_neg (by decide)]
    have c0 := ac_ckPlayer_t p0 hC hp
    obtain ⟨k, hk, rfl⟩ := am_lt_n (by omega) hp
    rw [av_ix_n (by omega)]
    have hin := am_in_n (show k < 6 by omega) (by decide)
    have htn := am_tn (show k < 2147483648 by omega)
    have w2 := hC.1.1.2.2.1
    have w9 := hC.1.1.2.2.2.2.2.2.2.2.2 k (by omega)
    have ep : M.1 (am_c (B + 10 + k) 6) 1 = σ (51 + 5 * k) := (hC.2.2.2.2.2.1 k (by omega) 1 (by decide)).trans (congrArg σ (by omega))
    obtain ⟨M1, e1, c1, f1, v1⟩ := ac_take (Or.inr hE) hD hC
    have hcm := av_cm_c1 (σ := σ) (L := L) (p := σ (51 + 5 * k)) L.length
    have key : ∀ (m j : Nat) (X : am_M) (rx : Nat → Nat), j + m = 21 → (∀ i, i < j → ∀ k', k' < L.length → av_ef σ (av_s L k') (σ (51 + 5 * k)) i = false) → av_C X E rx (av_S σ L j).1 (av_S σ L j).2 → av_fr M X E → ∃ M', am_val iX12_comes 31 [some (.ref (am_c 0 12)), some (.int (nI k)), some (.int (σ (51 + 5 * k))), some (.int (nI j))] [] X = (if av_cm σ L (σ (51 + 5 * k)) = -1 then some (.inr 3, M', 1, 6) else some (.inl (some (.int (av_cm σ L (σ (51 + 5 * k))))), M', 0, 0)) ∧ av_fr M M' E ∧ ∃ rm2 τ2 K2, av_C M' E rm2 τ2 K2 := by
      intro m
      induction m with
      | zero =>
        intro j X rx hj hf cX fX
        obtain rfl : j = 21 := by omega
        have hm : av_cm σ L (σ (51 + 5 * k)) = -1 := by
          rcases hcm with ⟨a1, -⟩ | ⟨j0, b1, -, ⟨k', b3, b4⟩, -⟩
          · exact a1
          · rw [hf j0 b1 k' b3] at b4
            cases b4
        refine ⟨X, ?_, fX, rx, _, _, cX⟩
        rw [if_pos hm, ae_X12_comes_31, if_pos (show (20 : Int32) < nI 21 by decide)]
        simp only [ae_X12_comes_0, ae_X12_comes_5, ae_X12_comes_9, ae_X12_comes_12, ae_X12_comes_14, ae_X12_comes_22, ae_X12_comes_26, ae_X12_comes_29, ae_X12_comes_37, ae_X12_comes_41, ae_X12_comes_45, ae_X12_comes_48, ae_X12_comes_50, ae_X12_comes_54, ae_X12_comes_57, ae_X12_comes_64]
      | succ m ih =>
        intro j X rx hj hf cX fX
        have okj := (av_S_ok hok j).1
        have q8 : X.2.1 (am_c 0 12) 8 = am_c E 1 + 1 := (fX.2 0 12 8 (by decide) (by omega)).2.trans p8
        have es := ac_echoSetAt (p := σ (51 + 5 * k)) cX
        have hk20 : ¬ (20 : Int32) < nI j := nI_nlt (a := 20) (by omega) (by decide)
        by_cases hz : am_it (av_es (av_S σ L j).2 (σ (51 + 5 * k))) (av_S σ L j).2.length 0 = 0
        · have hz' := (av_S_e hok).mp hz
          obtain ⟨X', rx', e, c, f⟩ := ac_passBeat (av_ok_own okj) cX
          obtain ⟨M', h1, h2⟩ := ih (j + 1) X' rx' (by omega) (fun i hi k' hk' => by
            by_cases hij : i = j
            · rw [hij]; exact hz' k' hk'
            · exact hf i (by omega) k' hk') c (av_fr_t fX f)
          refine ⟨M', ?_, h2⟩
          rw [ae_X12_comes_31, if_neg hk20]
          simp only [ae_X12_comes_0, ae_X12_comes_5, ae_X12_comes_9, ae_X12_comes_12, ae_X12_comes_14, ae_X12_comes_22, ae_X12_comes_26, ae_X12_comes_29, ae_X12_comes_37, ae_X12_comes_41, ae_X12_comes_45, ae_X12_comes_48, ae_X12_comes_50, ae_X12_comes_54, ae_X12_comes_57, ae_X12_comes_64, am_bnx_v, am_bnx_e, am_tl_s, am_tl_n, am_rv_s, am_add_rx, q8, es, hz, e, not_true_eq_false, not_false_eq_true, if_true, if_false, am_1n0, or_true, true_or, eq_self, Bool.true_eq_false, Bool.false_eq_true, cond_true, cond_false, nI_1, h1]
        · have hm : av_cm σ L (σ (51 + 5 * k)) = nI j := by
            have hex : ¬ ∀ k', k' < L.length → av_ef σ (av_s L k') (σ (51 + 5 * k)) j = false := fun h => hz ((av_S_e hok).mpr h)
            rcases hcm with ⟨-, a2⟩ | ⟨j0, b1, b2, ⟨k', b3, b4⟩, b5⟩
            · exact absurd (fun k' hk' => a2 k' hk' j (by omega)) hex
            · have hj0 : j0 = j := by
                rcases Nat.lt_trichotomy j0 j with h | h | h
                · rw [hf j0 h k' b3] at b4
                  cases b4
                · exact h
                · exact absurd (fun k' hk' => b5 j h k' hk') hex
              rw [hj0] at b2
              exact b2
          refine ⟨X, ?_, fX, rx, _, _, cX⟩
          rw [hm, if_neg (av_bi_nI (show j < 2147483648 by omega)), ae_X12_comes_31, if_neg hk20]
          simp only [ae_X12_comes_0, ae_X12_comes_5, ae_X12_comes_9, ae_X12_comes_12, ae_X12_comes_14, ae_X12_comes_22, ae_X12_comes_26, ae_X12_comes_29, ae_X12_comes_37, ae_X12_comes_41, ae_X12_comes_45, ae_X12_comes_48, ae_X12_comes_50, ae_X12_comes_54, ae_X12_comes_57, ae_X12_comes_64, am_bnx_v, am_bnx_e, am_tl_s, am_tl_n, am_rv_s, am_add_rx, q8, es, hz, not_true_eq_false, not_false_eq_true, if_true, if_false, am_1n0, or_true, true_or, eq_self, Bool.true_eq_false, Bool.false_eq_true, cond_true, cond_false]
    obtain ⟨M2, h1, h2, h3⟩ := key 21 0 M1 rm' (by omega) (fun i hi => absurd hi (Nat.not_lt_zero _)) c1 f1
    rw [nI_0] at h1
    refine ⟨M2, ?_, h2, h3⟩
    by_cases c : av_cm σ L (σ (51 + 5 * k)) = -1
    · rw [if_pos c]
      rw [if_pos c] at h1
      show (_ : am_T) = some (.inr 3, M2, 1, 6)
      simp only [ae_X12_comes_0, ae_X12_comes_5, ae_X12_comes_9, ae_X12_comes_12, ae_X12_comes_14, ae_X12_comes_22, ae_X12_comes_26, ae_X12_comes_29, ae_X12_comes_37, ae_X12_comes_41, ae_X12_comes_45, ae_X12_comes_48, ae_X12_comes_50, ae_X12_comes_54, ae_X12_comes_57, ae_X12_comes_64, am_bnx_v, am_bnx_e, am_tl_s, am_tl_n, am_rv_s, am_add_rx, c0, p0, p8, w2, hin, htn, w9, ep, e1, h1]
    · rw [if_neg c]
      rw [if_neg c] at h1
      show (_ : am_T) = some (.inl (some (.int (av_cm σ L (σ (51 + 5 * k))))), M2, 0, 0)
      simp only [ae_X12_comes_0, ae_X12_comes_5, ae_X12_comes_9, ae_X12_comes_12, ae_X12_comes_14, ae_X12_comes_22, ae_X12_comes_26, ae_X12_comes_29, ae_X12_comes_37, ae_X12_comes_41, ae_X12_comes_45, ae_X12_comes_48, ae_X12_comes_50, ae_X12_comes_54, ae_X12_comes_57, ae_X12_comes_64, am_bnx_v, am_bnx_e, am_tl_s, am_tl_n, am_rv_s, am_add_rx, c0, p0, p8, w2, hin, htn, w9, ep, e1, h1]
