/-! a beat -/
theorem av_C_set {B : Nat} {rm : Nat → Nat} {σ : Nat → Int32} {L : List (Nat → Int32)} {k : Nat} {s : Nat → Int32} {I : Nat → Nat → Int32} {M : am_M} (hk : k < L.length) (hC : av_C M B rm σ L) (h1 : am_rs I (rm k) s) (h2 : s 4 = 0 ∨ s 4 = 1) (h3 : ∀ c j, ¬ c = am_c (rm k) 8 → I c j = M.1 c j) : av_C (I, M.2) B rm σ (L.set k s) ∧ av_fr M (I, M.2) B := by
  have hC0 := hC
  obtain ⟨⟨⟨w0, w1, w2, w3, w4, w5, w6, w7, w8, w9⟩, hrm, hpr⟩, ⟨hnp, hs0, hln, hct⟩, hW, hT, hN, hP, hS, hB⟩ := hC
  obtain ⟨b1, b2⟩ := hpr.1 k (by omega)
  have hI : ∀ c q j, q < 64 → q ≠ 8 → I (am_c c q) j = M.1 (am_c c q) j := fun c q j hq h8 => h3 _ _ (am_c_ne hq (by decide) (by omega))
  refine ⟨av_C_sl hC0 ⟨w0, w1, w2, w3, w4, w5, w6, w7, w8, w9⟩ hrm hpr (by simpa using hln) ?_ (fun c q j hq h8 _ => hI c q j hq h8) ?_ ?_, rfl, fun c q j hq hc => ⟨h3 _ _ (am_c_ne hq (by decide) (by omega)), rfl⟩⟩
  · rw [List.length_set]
    show I (am_c B 1) 5 = _
    rw [hI _ _ _ (by decide) (by decide)]
    exact hct
  · intro q hq
    rw [List.length_set] at hq
    rw [av_s_set hk]
    by_cases hqk : q = k
    · rw [if_pos hqk, hqk]; exact h1
    · rw [if_neg hqk]
      have hne : ¬ rm q = rm k := fun h => hqk (hpr.2 q k (by omega) (by omega) h)
      have e : ∀ f, I (am_c (rm q) 8) f = M.1 (am_c (rm q) 8) f := fun f => h3 _ _ (am_c_ne (by decide) (by decide) (fun h => hne h.1))
      obtain ⟨a0, a1, a2, a3, a4⟩ := hS q hq
      exact ⟨(e _).trans a0, (e _).trans a1, (e _).trans a2, (e _).trans a3, (e _).trans a4⟩
  · intro a ha1 ha2
    by_cases hak : a = rm k
    · rw [hak]
      show I (am_c (rm k) 8) 1 = 0 ∨ I (am_c (rm k) 8) 1 = 1
      rw [h1.2.2.2.2]
      exact h2
    · show I (am_c a 8) 1 = 0 ∨ I (am_c a 8) 1 = 1
      rw [h3 _ _ (am_c_ne (by decide) (by decide) (fun h => hak h.1))]
      exact hB a ha1 ha2
def av_swp (rm : Nat → Nat) (k c q : Nat) : Nat := if q = c then rm k else if q = k then rm c else rm q
theorem av_C_swap {B : Nat} {rm : Nat → Nat} {σ : Nat → Int32} {L : List (Nat → Int32)} {k c : Nat} {M : am_M} (hk : k < L.length) (hc : c < L.length) (hC : av_C M B rm σ L) : av_C (av_r (av_r M (am_c (B + 9) 26) k (am_c (rm c) 8 + 1)) (am_c (B + 9) 26) c (am_c (rm k) 8 + 1)) B (av_swp rm k c) σ ((L.set k (av_s L c)).set c (av_s L k)) ∧
    av_fr M (av_r (av_r M (am_c (B + 9) 26) k (am_c (rm c) 8 + 1)) (am_c (B + 9) 26) c (am_c (rm k) 8 + 1)) B := by
  have hC0 := hC
  obtain ⟨⟨⟨w0, w1, w2, w3, w4, w5, w6, w7, w8, w9⟩, hrm, hpr⟩, ⟨hnp, hs0, hln, hct⟩, hW, hT, hN, hP, hS, hB⟩ := hC
  have hsh : av_shp M.2.1 B := ⟨w0, w1, w2, w3, w4, w5, w6, w7, w8, w9⟩
  refine ⟨av_C_sl hC0 (av_shp_r (by decide) (by decide) (by decide) (by decide) (by decide) (av_shp_r (by decide) (by decide) (by decide) (by decide) (by decide) hsh)) ?_ ⟨?_, ?_⟩ (by simpa using hln) (by simp only [List.length_set]; exact hct) (fun _ _ _ _ _ _ => rfl) ?_ hB, av_fr_t (av_fr_r (by decide) (by omega) (by omega)) (av_fr_r (by decide) (by omega) (by omega))⟩
  · intro q hq
    show am_up (am_up M.2.1 (am_c (B + 9) 26) k (am_c (rm c) 8 + 1)) (am_c (B + 9) 26) c (am_c (rm k) 8 + 1) (am_c (B + 9) 26) q = _
    unfold av_swp
    by_cases h1 : q = c
    · rw [if_pos h1, h1, am_up_s]
    · rw [if_neg h1, am_up_k h1]
      by_cases h2 : q = k
      · rw [if_pos h2, h2, am_up_s]
      · rw [if_neg h2, am_up_k h2]; exact hrm q hq
  · intro q hq
    unfold av_swp
    by_cases h1 : q = c
    · rw [if_pos h1]; exact hpr.1 k (by omega)
    · rw [if_neg h1]
      by_cases h2 : q = k
      · rw [if_pos h2]; exact hpr.1 c (by omega)
      · rw [if_neg h2]; exact hpr.1 q hq
  · intro q l hq hl h
    unfold av_swp at h
    by_cases h1 : q = c
    · rw [if_pos h1] at h
      by_cases h3 : l = c
      · omega
      · rw [if_neg h3] at h
        by_cases h4 : l = k
        · rw [if_pos h4] at h; have := hpr.2 _ _ (by omega) (by omega) h; omega
        · rw [if_neg h4] at h; have := hpr.2 _ _ (by omega) (by omega) h; omega
    · rw [if_neg h1] at h
      by_cases h2 : q = k
      · rw [if_pos h2] at h
        by_cases h3 : l = c
        · rw [if_pos h3] at h; have := hpr.2 _ _ (by omega) (by omega) h; omega
        · rw [if_neg h3] at h
          by_cases h4 : l = k
          · omega
          · rw [if_neg h4] at h; have := hpr.2 _ _ (by omega) (by omega) h; omega
      · rw [if_neg h2] at h
        by_cases h3 : l = c
        · rw [if_pos h3] at h; have := hpr.2 _ _ (by omega) (by omega) h; omega
        · rw [if_neg h3] at h
          by_cases h4 : l = k
          · rw [if_pos h4] at h; have := hpr.2 _ _ (by omega) (by omega) h; omega
          · rw [if_neg h4] at h; exact hpr.2 _ _ hq hl h
  · intro q hq
    simp only [List.length_set] at hq
    rw [av_s_set (by simpa using hc), av_s_set hk]
    unfold av_swp
    by_cases h1 : q = c
    · rw [if_pos h1, if_pos h1]; exact hS k hk
    · rw [if_neg h1, if_neg h1]
      by_cases h2 : q = k
      · rw [if_pos h2, if_pos h2]; exact hS c hc
      · rw [if_neg h2, if_neg h2]; exact hS q hq
theorem av_C_trunc {B : Nat} {rm : Nat → Nat} {σ : Nat → Int32} {L : List (Nat → Int32)} {K : List (Nat → Int32)} {M : am_M} (h1 : K.length ≤ L.length) (h2 : ∀ q, q < K.length → av_s L q = av_s K q) (hC : av_C M B rm σ L) : av_C (av_i M (am_c B 1) 5 (nI K.length)) B rm σ K ∧ av_fr M (av_i M (am_c B 1) 5 (nI K.length)) B := by
  have hC0 := hC
  obtain ⟨⟨⟨w0, w1, w2, w3, w4, w5, w6, w7, w8, w9⟩, hrm, hpr⟩, ⟨hnp, hs0, hln, hct⟩, hW, hT, hN, hP, hS, hB⟩ := hC
  have hroom : ∀ a f, (av_i M (am_c B 1) 5 (nI K.length)).1 (am_c a 8) f = M.1 (am_c a 8) f := fun a f => am_up_a (am_c_ne (by decide) (by decide) (by omega))
  refine ⟨av_C_sl hC0 ⟨w0, w1, w2, w3, w4, w5, w6, w7, w8, w9⟩ hrm hpr (by omega) ?_ ?_ ?_ ?_, av_fr_i (by decide) (by omega) (by omega)⟩
  · show am_up M.1 (am_c B 1) 5 (nI K.length) (am_c B 1) 5 = _
    exact am_up_s
  · intro c k q hk h8 hn
    show am_up M.1 (am_c B 1) 5 (nI K.length) (am_c c k) q = _
    rw [am_up_ak (fun hh => hn ?_)]
    have := hh.1
    rw [am_c_inj hk (by decide)] at this
    exact ⟨this.1, this.2, hh.2⟩
  · intro q hq
    rw [← h2 q hq]
    obtain ⟨a0, a1, a2, a3, a4⟩ := hS q (by omega)
    exact ⟨(hroom _ _).trans a0, (hroom _ _).trans a1, (hroom _ _).trans a2, (hroom _ _).trans a3, (hroom _ _).trans a4⟩
  · intro a ha1 ha2
    rw [hroom]
    exact hB a ha1 ha2
/-- the walls and the wind are the same -/
def av_eqw (τ σ : Nat → Int32) : Prop := (∀ i, 18 ≤ i → i < 50 → τ i = σ i) ∧ τ 2 = σ 2 ∧ τ 0 = σ 0
theorem av_eqw_hf {τ σ : Nat → Int32} (h : av_eqw τ σ) : av_hf τ = av_hf σ := by
  funext p
  exact av_at_c (fun k hk => h.1 _ (by omega) (by omega))
theorem av_eqw_of {τ σ : Nat → Int32} (h : av_eqw τ σ) : av_of τ = av_of σ := by
  funext p
  exact av_at_c (fun k hk => h.1 _ (by omega) (by omega))
theorem av_eqw_np {τ σ : Nat → Int32} (h : av_eqw τ σ) : av_np τ = av_np σ := by unfold av_np; rw [h.2.2]
theorem av_eqw_up {τ σ : Nat → Int32} {i : Nat} {x : Int32} (h : av_eqw τ σ) (h0 : i ≠ 0) (h2 : i ≠ 2) (hi : i < 18 ∨ 50 ≤ i) : av_eqw (av_up τ i x) σ :=
  ⟨fun j h1 h2 => by rw [av_up_n (by omega)]; exact h.1 j h1 h2, by rw [av_up_n (Ne.symm h2)]; exact h.2.1, by rw [av_up_n (Ne.symm h0)]; exact h.2.2⟩
def av_a1 (σ : Nat → Int32) (s : Nat → Int32) : Nat → Int32 := av_adv (av_hf σ) (σ 2) s
def av_ow (σ : Nat → Int32) (s : Nat → Int32) : Nat := 9 + 3 * (av_of σ (av_ah s)).toNatClampNeg
def av_tk (σ τ : Nat → Int32) (s : Nat → Int32) : Nat → Int32 := if av_a1 σ s 3 = s 3 then τ else if av_of σ (av_ah s) = -1 then av_up τ 5 (τ 5 + 1) else av_up (av_up (av_up τ 5 (τ 5 + 1)) (av_ow σ s) (τ (av_ow σ s) + 1)) 8 (τ 8 + 1)
def av_own (σ : Nat → Int32) : Prop := ∀ p, p < 16 → σ (19 + 2 * p) = -1 ∨ ∃ q, q < 3 ∧ σ (19 + 2 * p) = nI q
theorem av_own_of {σ : Nat → Int32} (h : av_own σ) (p : Int32) : av_of σ p = -1 ∨ ∃ q, q < 3 ∧ av_of σ p = nI q := by
  cases hp : am_pl p with
  | false => left; unfold av_of av_at; rw [hp]; rfl
  | true =>
    obtain ⟨k, hk, rfl⟩ := am_pl_n hp
    rw [av_of_n hk]
    exact h k hk
theorem av_a1_4 {hf : Int32 → Int32} {w : Int32} {s : Nat → Int32} (h : s 4 = 0 ∨ s 4 = 1) : av_adv hf w s 4 = 0 ∨ av_adv hf w s 4 = 1 := by
  unfold av_adv
  by_cases a : s 1 - av_ls w (s 4) ≤ 0
  · rw [if_pos a]; exact h
  · rw [if_neg a]
    by_cases b : am_pl (av_ah s) = false
    · rw [if_pos b]; exact h
    · rw [if_neg b]
      by_cases c : hf (av_ah s) ≤ 0
      · rw [if_pos c]; exact h
      · rw [if_neg c]
        by_cases d : hf (av_ah s) < (s 1 - av_ls w (s 4)) / 3
        · rw [if_pos d]; exact h
        · rw [if_neg d]
          show (if s 4 = 0 then (1 : Int32) else 0) = 0 ∨ (if s 4 = 0 then (1 : Int32) else 0) = 1
          by_cases e : s 4 = 0
          · rw [if_pos e]; exact Or.inr rfl
          · rw [if_neg e]; exact Or.inl rfl
theorem ac_sendOn {B k : Nat} {rm : Nat → Nat} {σ τ : Nat → Int32} {L : List (Nat → Int32)} {M : am_M} (hk : k < L.length) (he : av_eqw τ σ) (ho : av_own σ) (hC : av_C M B rm τ L) :
    ∃ M', am_val iX1_sendOn 0 [some (.ref (am_c B 1)), some (.ref (am_c (rm k) 8)), none, none] [] M = some (.inl none, M', 0, 0) ∧ av_C M' B rm (av_tk σ τ (av_s L k)) (L.set k (av_a1 σ (av_s L k))) ∧ av_fr M M' B := by
  have hC0 := hC
  have eo := fun p => ac_bowner (p := p) hC
  rw [av_eqw_of he] at eo
  obtain ⟨⟨⟨w0, w1, w2, w3, w4, w5, w6, w7, w8, w9⟩, hrm, hpr⟩, ⟨hnp, hs0, hln, hct⟩, hW, hT, hN, hP, hS, hB⟩ := hC
  have hs := hS k hk
  obtain ⟨r0, r1, r2, r3, r4⟩ := hs
  have hs4 : av_s L k 4 = 0 ∨ av_s L k 4 = 1 := by rw [← r4]; exact hB _ (hpr.1 k (by omega)).1 (hpr.1 k (by omega)).2
  obtain ⟨I, e1, q1, f1⟩ := ac_goOn (i := rm k) (a := B + 1) (b := B + 2) (w := τ 2) ⟨r0, r1, r2, r3, r4⟩ w4
  have hhf : av_at (M.1 (am_c (B + 2) 16)) 0 = av_hf σ := by
    rw [← av_eqw_hf he]
    funext p
    exact av_at_c (fun k hk => (hW k hk).1)
  rw [hhf, he.2.1] at q1
  have q1 : am_rs I (rm k) (av_a1 σ (av_s L k)) := q1
  obtain ⟨c1, g1⟩ := av_C_set hk hC0 q1 (av_a1_4 hs4) f1
  have hah : am_val iX8_placeAhead 0 [some (.ref (am_c (rm k) 8))] [] M = some (.inl (some (.int (av_ah (av_s L k)))), M, 0, 0) := by rw [ac_placeAhead, r4, r0]; rfl
  have hw6 : M.1 (am_c B 1) 6 = τ 2 := hN.2.1
  have hq3 : I (am_c (rm k) 8) 4 = av_a1 σ (av_s L k) 3 := q1.2.2.2.1
  unfold av_tk
  by_cases h3 : av_a1 σ (av_s L k) 3 = av_s L k 3
  · rw [if_pos h3]
    refine ⟨_, ?_, c1, g1⟩
    simp only [ae_X1_sendOn_0, ae_X1_sendOn_9, ae_X1_sendOn_13, ae_X1_sendOn_16, ae_X1_sendOn_22, ae_X1_sendOn_29, ae_X1_sendOn_37, ae_X1_sendOn_38, ae_X1_sendOn_53, ae_X1_sendOn_57, ae_X1_sendOn_62, ae_X1_sendOn_72, am_bnx_v, am_bnx_e, am_tl_s, am_tl_n, am_rv_s, am_add_rx, w0, hah, eo, r3, hw6, e1, hq3, h3, not_true_eq_false, not_false_eq_true, if_true, if_false, am_1n0, or_true, true_or, eq_self, Bool.true_eq_false, Bool.false_eq_true, cond_true, cond_false]
  · rw [if_neg h3]
    have n9 : I (am_c B 1) 9 = τ 5 := c1.2.2.2.2.1.2.2.2.2.1
    obtain ⟨c2, g2⟩ := av_C_wn (i := 5) (f := 9) (x := τ 5 + 1) (by decide) (by decide) (by decide) rfl c1
    by_cases h4 : av_of σ (av_ah (av_s L k)) = -1
    · rw [if_pos h4]
      refine ⟨_, ?_, c2, av_fr_t g1 g2⟩
      simp only [ae_X1_sendOn_0, ae_X1_sendOn_9, ae_X1_sendOn_13, ae_X1_sendOn_16, ae_X1_sendOn_22, ae_X1_sendOn_29, ae_X1_sendOn_37, ae_X1_sendOn_38, ae_X1_sendOn_53, ae_X1_sendOn_57, ae_X1_sendOn_62, ae_X1_sendOn_72, am_bnx_v, am_bnx_e, am_tl_s, am_tl_n, am_rv_s, am_add_rx, w0, hah, eo, r3, hw6, e1, hq3, h3, not_true_eq_false, not_false_eq_true, if_true, if_false, am_1n0, or_true, true_or, eq_self, Bool.true_eq_false, Bool.false_eq_true, cond_true, cond_false, h4, n9]
    · rw [if_neg h4]
      obtain ⟨t, ht, hot⟩ := (av_own_of ho (av_ah (av_s L k))).resolve_left h4
      have how : av_ow σ (av_s L k) = 9 + 3 * t := by unfold av_ow; rw [hot, am_tn (by omega)]
      rw [how]
      obtain ⟨M2, e2, c3, g3⟩ := ac_baddPoints (x := 1) ht c2
      rw [av_up_n (show ¬ 9 + 3 * t = 5 by omega)] at c3
      have n11 : M2.1 (am_c B 1) 11 = τ 8 := by rw [c3.2.2.2.2.1.2.2.2.2.2.2.1, av_up_n (by omega), av_up_n (by decide)]
      obtain ⟨c4, g4⟩ := av_C_wn (i := 8) (f := 11) (x := τ 8 + 1) (by decide) (by decide) (by decide) rfl c3
      refine ⟨_, ?_, c4, av_fr_t g1 (av_fr_t g2 (av_fr_t g3 g4))⟩
      have eo' := eo (av_ah (av_s L k))
      rw [hot] at h4 eo'
      have w1' : (av_i (I, M.2) (am_c B 1) 9 (τ 5 + 1)).2.1 (am_c B 1) 1 = am_c (B + 4) 9 + 1 := w1
      simp only [ae_X1_sendOn_0, ae_X1_sendOn_9, ae_X1_sendOn_13, ae_X1_sendOn_16, ae_X1_sendOn_22, ae_X1_sendOn_29, ae_X1_sendOn_37, ae_X1_sendOn_38, ae_X1_sendOn_53, ae_X1_sendOn_57, ae_X1_sendOn_62, ae_X1_sendOn_72, am_bnx_v, am_bnx_e, am_tl_s, am_tl_n, am_rv_s, am_add_rx, w0, hah, eo', r3, hw6, e1, hq3, h3, not_true_eq_false, not_false_eq_true, if_true, if_false, am_1n0, or_true, true_or, eq_self, Bool.true_eq_false, Bool.false_eq_true, cond_true, cond_false, h4, n9, w1', e2, n11]
/-- the loop of a beat -/
def av_tf (σ : Nat → Int32) (L : List (Nat → Int32)) (k : Nat) : Nat → Int32 := am_it (fun q τ => av_tk σ τ (av_s L q)) k σ
def av_kg (σ : Nat → Int32) (L : List (Nat → Int32)) (q : Nat) (K : List (Nat → Int32)) : List (Nat → Int32) := if av_a1 σ (av_s L q) 1 = 0 then K else K ++ [av_a1 σ (av_s L q)]
def av_kf (σ : Nat → Int32) (L : List (Nat → Int32)) (k : Nat) : List (Nat → Int32) := am_it (av_kg σ L) k []
def av_gg (σ : Nat → Int32) (L : List (Nat → Int32)) (q : Nat) (x : Int32) : Int32 := if av_a1 σ (av_s L q) 1 = 0 then x ||| ((1 : Int32) <<< (nI q &&& 31)) else x
def av_gf (σ : Nat → Int32) (L : List (Nat → Int32)) (k : Nat) : Int32 := am_it (av_gg σ L) k 0
theorem av_eqw_tk {σ τ : Nat → Int32} {s : Nat → Int32} (ho : av_own σ) (h : av_eqw τ σ) : av_eqw (av_tk σ τ s) σ := by
  unfold av_tk
  by_cases h3 : av_a1 σ s 3 = s 3
  · rw [if_pos h3]; exact h
  · rw [if_neg h3]
    have h5 := av_eqw_up (i := 5) (x := τ 5 + 1) h (by decide) (by decide) (by decide)
    by_cases h4 : av_of σ (av_ah s) = -1
    · rw [if_pos h4]; exact h5
    · rw [if_neg h4]
      obtain ⟨t, ht, hot⟩ := (av_own_of ho (av_ah s)).resolve_left h4
      have how : av_ow σ s = 9 + 3 * t := by unfold av_ow; rw [hot, am_tn (by omega)]
      rw [how]
      exact av_eqw_up (av_eqw_up h5 (by omega) (by omega) (by omega)) (by decide) (by decide) (by decide)
/-- restVoices -/
def av_rg (p : Nat) (τ : Nat → Int32) : Nat → Int32 := if τ (52 + 5 * p) ≤ 0 then τ else av_up τ (52 + 5 * p) (τ (52 + 5 * p) - 1)
theorem ac_restVoices {B : Nat} {rm : Nat → Nat} {σ : Nat → Int32} {L : List (Nat → Int32)} {M : am_M} (hC : av_C M B rm σ L) : ∃ M', am_val iX1_restVoices 0 [some (.ref (am_c B 1)), none] [] M = some (.inl none, M', 0, 0) ∧ av_C M' B rm (am_it av_rg (av_np σ) σ) L ∧ av_fr M M' B := by
  have key := av_lpr (H := fun k (x : am_M) _ => am_val iX1_restVoices 2 [some (.ref (am_c B 1)), some (.int (nI k))] [] x)
    (P := fun k x => av_C x B rm (am_it av_rg k σ) L ∧ av_np (am_it av_rg k σ) = av_np σ ∧ av_fr M x B) (N := av_np σ)
    (Q := fun t => ∃ M', t = some (.inl none, M', 0, 0) ∧ av_C M' B rm (am_it av_rg (av_np σ) σ) L ∧ av_fr M M' B)
    (fun x o hP => by
      obtain ⟨c, e, f⟩ := hP
      have n0 : x.1 (am_c B 1) 3 = nI (av_np σ) := by rw [c.2.2.2.2.1.1, c.2.1.2.1, e]
      have h6 := c.2.1.1
      refine ⟨x, ?_, c, f⟩
      rw [ae_X1_restVoices_2, n0, if_pos (av_he (by omega))]
      simp only [ae_X1_restVoices_0, ae_X1_restVoices_10, ae_X1_restVoices_14, ae_X1_restVoices_16, ae_X1_restVoices_22, ae_X1_restVoices_26, ae_X1_restVoices_28, ae_X1_restVoices_37, ae_X1_restVoices_43])
    (fun k x o hk hP => by
      obtain ⟨c, e, f⟩ := hP
      have n0 : x.1 (am_c B 1) 3 = nI (av_np σ) := by rw [c.2.2.2.2.1.1, c.2.1.2.1, e]
      have h6 := c.2.1.1
      have w2 := c.1.1.2.2.1
      have w9 := c.1.1.2.2.2.2.2.2.2.2.2 k (by omega)
      have hp := c.2.2.2.2.2.1 k (by omega) 2 (by decide)
      rw [show 50 + 5 * k + 2 = 52 + 5 * k by omega] at hp
      have hin := am_in_n (show k < 6 by omega) (by decide)
      have htn := am_tn (show k < 2147483648 by omega)
      by_cases hh : am_it av_rg k σ (52 + 5 * k) ≤ 0
      · have hg : am_it av_rg (k + 1) σ = am_it av_rg k σ := by show (if am_it av_rg k σ (52 + 5 * k) ≤ 0 then am_it av_rg k σ else av_up (am_it av_rg k σ) (52 + 5 * k) (am_it av_rg k σ (52 + 5 * k) - 1)) = _; rw [if_pos hh]
        refine ⟨x, none, ⟨by rw [hg]; exact c, by rw [hg]; exact e, f⟩, ?_⟩
        rw [ae_X1_restVoices_2, n0, if_neg (av_hl hk (by omega))]
        simp only [ae_X1_restVoices_0, ae_X1_restVoices_10, ae_X1_restVoices_14, ae_X1_restVoices_16, ae_X1_restVoices_22, ae_X1_restVoices_26, ae_X1_restVoices_28, ae_X1_restVoices_37, ae_X1_restVoices_43, am_bnx_v, am_bnx_e, am_tl_s, am_tl_n, am_rv_s, am_add_rx, w2, w9, hin, htn, hp, hh, not_true_eq_false, not_false_eq_true, if_true, if_false, am_1n0, or_true, true_or, eq_self, Bool.true_eq_false, Bool.false_eq_true, cond_true, cond_false, nI_1]
      · have hg : am_it av_rg (k + 1) σ = av_up (am_it av_rg k σ) (52 + 5 * k) (am_it av_rg k σ (52 + 5 * k) - 1) := by show (if am_it av_rg k σ (52 + 5 * k) ≤ 0 then am_it av_rg k σ else av_up (am_it av_rg k σ) (52 + 5 * k) (am_it av_rg k σ (52 + 5 * k) - 1)) = _; rw [if_neg hh]
        obtain ⟨c1, f1⟩ := av_C_wp (p := k) (w := 2) (x := am_it av_rg k σ (52 + 5 * k) - 1) (by omega) (by decide) c
        rw [show 50 + 5 * k + 2 = 52 + 5 * k by omega] at c1
        refine ⟨_, none, ⟨by rw [hg]; exact c1, by rw [hg]; unfold av_np at e ⊢; rw [av_up_n (by omega)]; exact e, av_fr_t f f1⟩, ?_⟩
        rw [ae_X1_restVoices_2, n0, if_neg (av_hl hk (by omega))]
        simp only [ae_X1_restVoices_0, ae_X1_restVoices_10, ae_X1_restVoices_14, ae_X1_restVoices_16, ae_X1_restVoices_22, ae_X1_restVoices_26, ae_X1_restVoices_28, ae_X1_restVoices_37, ae_X1_restVoices_43, am_bnx_v, am_bnx_e, am_tl_s, am_tl_n, am_rv_s, am_add_rx, w2, w9, hin, htn, hp, hh, not_true_eq_false, not_false_eq_true, if_true, if_false, am_1n0, or_true, true_or, eq_self, Bool.true_eq_false, Bool.false_eq_true, cond_true, cond_false, nI_1])
    (av_np σ) 0 M none (by omega) ⟨hC, rfl, av_fr_0⟩
  obtain ⟨M', k1, k2, k3⟩ := key
  have k1 : am_val iX1_restVoices 2 [some (.ref (am_c B 1)), some (.int (nI 0))] [] M = some (.inl none, M', 0, 0) := k1
  rw [nI_0] at k1
  exact ⟨M', by simp only [ae_X1_restVoices_0, ae_X1_restVoices_10, ae_X1_restVoices_14, ae_X1_restVoices_16, ae_X1_restVoices_22, ae_X1_restVoices_26, ae_X1_restVoices_28, ae_X1_restVoices_37, ae_X1_restVoices_43, k1], k2, k3⟩
/-- passBeat -/
def av_o5 (σ : Nat → Int32) (L : List (Nat → Int32)) : Nat → Int32 := av_up (am_it av_rg (av_np σ) (av_tf σ L L.length)) 3 (am_it av_rg (av_np σ) (av_tf σ L L.length) 3 + 1)
theorem ac_passBeat {B : Nat} {rm : Nat → Nat} {σ : Nat → Int32} {L : List (Nat → Int32)} {M : am_M} (ho : av_own σ) (hC : av_C M B rm σ L) : ∃ M' rm', am_val iX1_passBeat 0 [some (.ref (am_c B 1)), none, none, none, none] [] M = some (.inl (some (.int (av_gf σ L L.length))), M', 0, 0) ∧ av_C M' B rm' (av_o5 σ L) (av_kf σ L L.length) ∧ av_fr M M' B := by
  have hln := hC.2.1.2.2.1
  have key := av_lpr (H := fun k (x : am_M × Int32 × Int32) o => am_val iX1_passBeat 6 [some (.ref (am_c B 1)), some (.int (x.2.1)), some (.int (x.2.2)), some (.int (nI k)), o] [] (x.1))
    (P := fun k x => x.2.1 = av_gf σ L k ∧ x.2.2 = nI (av_kf σ L k).length ∧ (av_kf σ L k).length ≤ k ∧ av_eqw (av_tf σ L k) σ ∧ av_fr M x.1 B ∧
      ∃ rm' Lk, av_C x.1 B rm' (av_tf σ L k) Lk ∧ Lk.length = L.length ∧ (∀ q, q < (av_kf σ L k).length → av_s Lk q = av_s (av_kf σ L k) q) ∧ (∀ q, k ≤ q → q < L.length → av_s Lk q = av_s L q)) (N := L.length)
    (Q := fun t => ∃ M' rm', t = some (.inl (some (.int (av_gf σ L L.length))), M', 0, 0) ∧ av_C M' B rm' (av_o5 σ L) (av_kf σ L L.length) ∧ av_fr M M' B)
    (fun x o hP => by
      obtain ⟨p1, p2, p3, p4, p5, rm', Lk, c, p6, p7, p8⟩ := hP
      have hct : x.1.1 (am_c B 1) 5 = nI L.length := by rw [c.2.1.2.2.2, p6]
      obtain ⟨c1, f1⟩ := av_C_trunc (K := av_kf σ L L.length) (by omega) p7 c
      obtain ⟨M2, e2, c2, f2⟩ := ac_restVoices c1
      rw [av_eqw_np p4] at c2
      have n7 : M2.1 (am_c B 1) 7 = am_it av_rg (av_np σ) (av_tf σ L L.length) 3 := c2.2.2.2.2.1.2.2.1
      obtain ⟨c3, f3⟩ := av_C_wn (i := 3) (f := 7) (x := am_it av_rg (av_np σ) (av_tf σ L L.length) 3 + 1) (by decide) (by decide) (by decide) rfl c2
      refine ⟨_, rm', ?_, c3, av_fr_t p5 (av_fr_t f1 (av_fr_t f2 f3))⟩
      rw [ae_X1_passBeat_6, hct, if_pos (av_he (by omega))]
      simp only [ae_X1_passBeat_0, ae_X1_passBeat_14, ae_X1_passBeat_18, ae_X1_passBeat_20, ae_X1_passBeat_28, ae_X1_passBeat_33, ae_X1_passBeat_36, ae_X1_passBeat_45, ae_X1_passBeat_49, ae_X1_passBeat_54, ae_X1_passBeat_56, ae_X1_passBeat_61, ae_X1_passBeat_74, ae_X1_passBeat_83, am_bnx_v, am_bnx_e, am_tl_s, am_tl_n, am_rv_s, am_add_rx, p1, p2, e2, n7])
    (fun k x o hk hP => by
      obtain ⟨p1, p2, p3, p4, p5, rm', Lk, c, p6, p7, p8⟩ := hP
      have hct : x.1.1 (am_c B 1) 5 = nI L.length := by rw [c.2.1.2.2.2, p6]
      obtain ⟨M1, e1, c1, f1⟩ := ac_sendOn (k := k) (by omega) p4 ho c
      rw [p8 k (Nat.le_refl _) hk] at c1
      have w3 := c.1.1.2.2.2.1
      have hrm := c.1.2.1 k (by omega)
      have hin := am_in_n (show k < 8 by omega) (by decide)
      have htn := am_tn (show k < 2147483648 by omega)
      have hr2 := (c1.2.2.2.2.2.2.1 k (by rw [List.length_set]; omega)).2.1
      rw [av_s_set (by omega), if_pos rfl] at hr2
      have hg : am_val iX8_isGone 0 [some (.ref (am_c (rm' k) 8))] [] M1 = some (.inl (some (.int (am_bi (decide (av_a1 σ (av_s L k) 1 = 0))))), M1, 0, 0) := by rw [ac_isGone, hr2]
      have htf : av_tf σ L (k + 1) = av_tk σ (av_tf σ L k) (av_s L k) := rfl
      have heq : av_eqw (av_tf σ L (k + 1)) σ := by rw [htf]; exact av_eqw_tk ho p4
      by_cases hd : av_a1 σ (av_s L k) 1 = 0
      · have hkf : av_kf σ L (k + 1) = av_kf σ L k := by show av_kg σ L k (av_kf σ L k) = _; unfold av_kg; rw [if_pos hd]
        have hgf : av_gf σ L (k + 1) = av_gf σ L k ||| ((1 : Int32) <<< (nI k &&& 31)) := by show av_gg σ L k (av_gf σ L k) = _; unfold av_gg; rw [if_pos hd]
        refine ⟨(M1, av_gf σ L (k + 1), nI (av_kf σ L (k + 1)).length), some (.ref (am_c (rm' k) 8)), ⟨rfl, rfl, by rw [hkf]; omega, heq, av_fr_t p5 f1, rm', _, c1, by rw [List.length_set]; exact p6, ?_, ?_⟩, ?_⟩
        · intro q hq
          rw [hkf] at hq ⊢
          rw [av_s_set (by omega), if_neg (by omega)]
          exact p7 q hq
        · intro q hq1 hq2
          rw [av_s_set (by omega), if_neg (by omega)]
          exact p8 q (by omega) hq2
        · rw [ae_X1_passBeat_6, hct, if_neg (av_hl hk (by omega))]
          rw [decide_eq_true hd] at hg
          simp only [ae_X1_passBeat_0, ae_X1_passBeat_14, ae_X1_passBeat_18, ae_X1_passBeat_20, ae_X1_passBeat_28, ae_X1_passBeat_33, ae_X1_passBeat_36, ae_X1_passBeat_45, ae_X1_passBeat_49, ae_X1_passBeat_54, ae_X1_passBeat_56, ae_X1_passBeat_61, ae_X1_passBeat_74, ae_X1_passBeat_83, am_bnx_v, am_bnx_e, am_tl_s, am_tl_n, am_rv_s, am_add_rx, w3, hrm, hin, htn, e1, hg, am_bi_t, not_true_eq_false, not_false_eq_true, if_true, if_false, am_1n0, or_true, true_or, eq_self, Bool.true_eq_false, Bool.false_eq_true, cond_true, cond_false, p1, p2, hgf, hkf, nI_1]
      · have hkf : av_kf σ L (k + 1) = av_kf σ L k ++ [av_a1 σ (av_s L k)] := by show av_kg σ L k (av_kf σ L k) = _; unfold av_kg; rw [if_neg hd]
        have hgf : av_gf σ L (k + 1) = av_gf σ L k := by show av_gg σ L k (av_gf σ L k) = _; unfold av_gg; rw [if_neg hd]
        have hlk : (av_kf σ L (k + 1)).length = (av_kf σ L k).length + 1 := by rw [hkf]; simp
        obtain ⟨c2, f2⟩ := av_C_swap (k := k) (c := (av_kf σ L k).length) (by rw [List.length_set]; omega) (by rw [List.length_set]; omega) c1
        have w3' := c1.1.1.2.2.2.1
        have hsw : ∀ q, av_s (((Lk.set k (av_a1 σ (av_s L k))).set k (av_s (Lk.set k (av_a1 σ (av_s L k))) (av_kf σ L k).length)).set (av_kf σ L k).length (av_s (Lk.set k (av_a1 σ (av_s L k))) k)) q = if q = (av_kf σ L k).length then av_a1 σ (av_s L k) else if q = k then av_s (Lk.set k (av_a1 σ (av_s L k))) (av_kf σ L k).length else av_s Lk q := by
          intro q
          rw [av_s_set (L := (Lk.set k (av_a1 σ (av_s L k))).set k (av_s (Lk.set k (av_a1 σ (av_s L k))) (av_kf σ L k).length)) (k := (av_kf σ L k).length) (by rw [List.length_set, List.length_set]; omega)]
          by_cases h1 : q = (av_kf σ L k).length
          · rw [if_pos h1, if_pos h1, av_s_set (L := Lk) (k := k) (by omega), if_pos rfl]
          · rw [if_neg h1, if_neg h1, av_s_set (L := Lk.set k (av_a1 σ (av_s L k))) (k := k) (by rw [List.length_set]; omega)]
            by_cases h2 : q = k
            · rw [if_pos h2, if_pos h2]
            · rw [if_neg h2, if_neg h2, av_s_set (L := Lk) (k := k) (by omega), if_neg h2]
        have hrc := c1.1.2.1 (av_kf σ L k).length (by omega)
        have hin2 := am_in_n (show (av_kf σ L k).length < 8 by omega) (by decide)
        have htn2 := am_tn (show (av_kf σ L k).length < 2147483648 by omega)
        refine ⟨(_, av_gf σ L (k + 1), nI (av_kf σ L (k + 1)).length), some (.ref (am_c (rm' k) 8)), ⟨rfl, rfl, by omega, heq, av_fr_t p5 (av_fr_t f1 f2), _, _, c2, by simp only [List.length_set]; exact p6, ?_, ?_⟩, ?_⟩
        · intro q hq
          rw [hsw]
          by_cases h1 : q = (av_kf σ L k).length
          · rw [if_pos h1, h1, hkf, av_s_e]
          · rw [if_neg h1, if_neg (by omega), hkf, av_s_l (by omega)]
            exact p7 q (by omega)
        · intro q hq1 hq2
          rw [hsw, if_neg (by omega), if_neg (by omega)]
          exact p8 q (by omega) hq2
        · rw [ae_X1_passBeat_6, hct, if_neg (av_hl hk (by omega))]
          rw [decide_eq_false hd] at hg
          simp only [ae_X1_passBeat_0, ae_X1_passBeat_14, ae_X1_passBeat_18, ae_X1_passBeat_20, ae_X1_passBeat_28, ae_X1_passBeat_33, ae_X1_passBeat_36, ae_X1_passBeat_45, ae_X1_passBeat_49, ae_X1_passBeat_54, ae_X1_passBeat_56, ae_X1_passBeat_61, ae_X1_passBeat_74, ae_X1_passBeat_83, am_bnx_v, am_bnx_e, am_tl_s, am_tl_n, am_rv_s, am_add_rx, w3, hrm, hin, htn, e1, hg, am_bi_f, not_true_eq_false, not_false_eq_true, if_true, if_false, am_1n0, or_true, true_or, eq_self, Bool.true_eq_false, Bool.false_eq_true, cond_true, cond_false, w3', p1, p2, hin2, htn2, hrc, av_r21, am_up_a (am_c_ne (show 1 < 64 by decide) (show 26 < 64 by decide) (show ¬ (B = B + 9 ∧ 1 = 26) by omega)), hgf, hlk, nI_1]
          rfl)
    L.length 0 (M, 0, 0) none (by omega) ⟨rfl, rfl, Nat.le_refl _, ⟨fun _ _ _ => rfl, rfl, rfl⟩, av_fr_0, rm, L, hC, rfl, fun q hq => absurd hq (Nat.not_lt_zero _), fun _ _ _ => rfl⟩
  obtain ⟨M', rm', k1, k2, k3⟩ := key
  have k1 : am_val iX1_passBeat 6 [some (.ref (am_c B 1)), some (.int 0), some (.int 0), some (.int (nI 0)), none] [] M = some (.inl (some (.int (av_gf σ L L.length))), M', 0, 0) := k1
  rw [nI_0] at k1
  exact ⟨M', rm', by simp only [ae_X1_passBeat_0, ae_X1_passBeat_14, ae_X1_passBeat_18, ae_X1_passBeat_20, ae_X1_passBeat_28, ae_X1_passBeat_33, ae_X1_passBeat_36, ae_X1_passBeat_45, ae_X1_passBeat_49, ae_X1_passBeat_54, ae_X1_passBeat_56, ae_X1_passBeat_61, ae_X1_passBeat_74, ae_X1_passBeat_83, k1], k2, k3⟩
