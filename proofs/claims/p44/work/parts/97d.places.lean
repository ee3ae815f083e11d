/-! the law's look at a place -/
theorem fst_some {f : Nat → Bool} {n j : Nat} (h : av_fst f n = some j) : j < n ∧ f j = true ∧ ∀ i, i < j → f i = false := by
  rcases av_fst_c (f := f) n with ⟨e, -⟩ | ⟨i, h1, e, h2, h3⟩
  · rw [e] at h; cases h
  · rw [e] at h
    cases h
    exact ⟨h1, h2, h3⟩
theorem fst_none {f : Nat → Bool} {n : Nat} (h : av_fst f n = none) : ∀ i, i < n → f i = false := by
  rcases av_fst_c (f := f) n with ⟨-, h2⟩ | ⟨i, h1, e, h2, h3⟩
  · exact h2
  · rw [e] at h; cases h
def wl (σ : Nat → Int32) (p : Nat) : Prop := 0 < σ (18 + 2 * p)
/-- the wall before a place -/
theorem nw_0 {σ : Nat → Int32} {p : Nat} (hp : p < 16) : (av_nw σ p 0 = none ∧ ∀ m, m < p → ¬ wl σ m) ∨ ∃ m, av_nw σ p 0 = some m ∧ m < p ∧ wl σ m ∧ ∀ k, m < k → k < p → ¬ wl σ k := by
  unfold av_nw
  rw [if_pos rfl]
  cases h : av_fst (av_nd σ p) 16 with
  | none =>
    refine Or.inl ⟨rfl, fun m hm q => ?_⟩
    have h2 := fst_none h (p - 1 - m) (by omega)
    unfold av_nd at h2
    rw [decide_eq_true (show p - 1 - m < p by omega), show p - 1 - (p - 1 - m) = m by omega, decide_eq_true (show 0 < σ (18 + 2 * m) from q)] at h2
    cases h2
  | some i =>
    obtain ⟨h1, h2, h3⟩ := fst_some h
    unfold av_nd at h2
    rw [Bool.and_eq_true, decide_eq_true_eq, decide_eq_true_eq] at h2
    refine Or.inr ⟨p - 1 - i, rfl, by omega, h2.2, fun k k1 k2 q => ?_⟩
    have h4 := h3 (p - 1 - k) (by omega)
    unfold av_nd at h4
    rw [decide_eq_true (show p - 1 - k < p by omega), show p - 1 - (p - 1 - k) = k by omega, decide_eq_true (show 0 < σ (18 + 2 * k) from q)] at h4
    cases h4
theorem nw_1 {σ : Nat → Int32} {p : Nat} (hp : p < 16) : av_nw σ p 1 = none ∨ ∃ n, av_nw σ p 1 = some n ∧ p < n ∧ n < 16 ∧ wl σ n ∧ ∀ k, p < k → k < n → ¬ wl σ k := by
  unfold av_nw
  rw [if_neg (by decide)]
  cases h : av_fst (av_nu σ p) 16 with
  | none => exact Or.inl rfl
  | some i =>
    obtain ⟨h1, h2, h3⟩ := fst_some h
    unfold av_nu at h2
    rw [Bool.and_eq_true, decide_eq_true_eq, decide_eq_true_eq] at h2
    refine Or.inr ⟨p + 1 + i, rfl, by omega, h2.1, h2.2, fun k k1 k2 q => ?_⟩
    have h4 := h3 (k - p - 1) (by omega)
    unfold av_nu at h4
    rw [show p + 1 + (k - p - 1) = k by omega, decide_eq_true (show k < 16 by omega), decide_eq_true (show 0 < σ (18 + 2 * k) from q)] at h4
    cases h4
/-- the wall before the next one -/
theorem nw_2 {σ : Nat → Int32} {p n : Nat} (hp : p < n) (hn : n < 16) (h : ∀ k, p < k → k < n → ¬ wl σ k) : (wl σ p → av_nw σ n 0 = some p) ∧ (¬ wl σ p → av_nw σ n 0 = av_nw σ p 0) := by
  refine ⟨fun hw => ?_, fun hw => ?_⟩
  · rcases nw_0 (σ := σ) hn with ⟨-, h1⟩ | ⟨m, e, h1, h2, h3⟩
    · exact absurd hw (h1 p hp)
    · rcases Nat.lt_trichotomy m p with q | q | q
      · exact absurd hw (h3 p q hp)
      · rw [e, q]
      · exact absurd h2 (h m q h1)
  · rcases nw_0 (σ := σ) hn with ⟨e, h1⟩ | ⟨m, e, h1, h2, h3⟩
    · rcases nw_0 (σ := σ) (show p < 16 by omega) with ⟨e', -⟩ | ⟨m', e', h1', h2', h3'⟩
      · rw [e, e']
      · exact absurd h2' (h1 m' (by omega))
    · have hm : m < p := by
        rcases Nat.lt_trichotomy m p with q | q | q
        · exact q
        · rw [q] at h2
          exact absurd h2 hw
        · exact absurd h2 (h m q h1)
      rcases nw_0 (σ := σ) (show p < 16 by omega) with ⟨e', h1'⟩ | ⟨m', e', h1', h2', h3'⟩
      · exact absurd h2 (h1' m hm)
      · rw [e, e']
        rcases Nat.lt_trichotomy m m' with q | q | q
        · exact absurd h2' (h3 m' q (by omega))
        · rw [q]
        · exact absurd h2 (h3' m q hm)
def nwv (q : Option Nat) : Int32 := match q with
  | some k => nI k
  | none => -75
/-- what a team would have left -/
theorem lf_n {a b : Nat} (ha : a < 1000000000) (hb : b < 1000000000) : (nI a - nI b ≤ -1 → a < b) ∧ (-1 < nI a - nI b → b ≤ a) := by
  have e : (nI a - nI b).toInt = (a : Int) - (b : Int) := by
    rw [Int32.toInt_sub, nI_toInt (by omega), nI_toInt (by omega)]
    exact p_bm (by omega) (by omega)
  have em : (-1 : Int32).toInt = -1 := by decide
  refine ⟨fun h => ?_, fun h => ?_⟩
  · rw [Int32.le_iff_toInt_le, e, em] at h
    omega
  · rw [Int32.lt_iff_toInt_lt, e, em] at h
    omega
theorem bt_s {σ : Nat → Int32} {p : Int32} : ∀ n, (am_it (av_bt σ p) n (-1, -1) = (-1, -1) ∧ ∀ t, t < n → av_of σ p = nI t ∨ av_lf σ p t ≤ -1) ∨ ∃ t, t < n ∧ ¬ av_of σ p = nI t ∧ am_it (av_bt σ p) n (-1, -1) = (nI t, av_lf σ p t) ∧ -1 < av_lf σ p t ∧ ∀ t', t' < n → av_of σ p = nI t' ∨ av_lf σ p t' ≤ av_lf σ p t := by
  intro n
  induction n with
  | zero => exact Or.inl ⟨rfl, fun t ht => absurd ht (Nat.not_lt_zero _)⟩
  | succ n ih =>
    have hs : am_it (av_bt σ p) (n + 1) (-1, -1) = av_bt σ p n (am_it (av_bt σ p) n (-1, -1)) := rfl
    rw [hs]
    generalize am_it (av_bt σ p) n (-1, -1) = X at ih ⊢
    unfold av_bt
    by_cases ho : av_of σ p = nI n
    · rw [if_pos ho]
      rcases ih with ⟨h1, h2⟩ | ⟨t, h1, h2, h3, h4, h5⟩
      · refine Or.inl ⟨h1, fun t ht => ?_⟩
        by_cases e : t = n
        · rw [e]; exact Or.inl ho
        · exact h2 t (by omega)
      · refine Or.inr ⟨t, by omega, h2, h3, h4, fun t' ht' => ?_⟩
        by_cases e : t' = n
        · rw [e]; exact Or.inl ho
        · exact h5 t' (by omega)
    · rw [if_neg ho]
      rcases ih with ⟨h1, h2⟩ | ⟨t, h1, h2, h3, h4, h5⟩
      · rw [h1]
        by_cases q : (-1 : Int32) < av_lf σ p n
        · rw [if_pos q]
          refine Or.inr ⟨n, Nat.lt_succ_self _, ho, rfl, q, fun t' ht' => ?_⟩
          by_cases e : t' = n
          · rw [e]; exact Or.inr (Int32.le_refl _)
          · rcases h2 t' (by omega) with z | z
            · exact Or.inl z
            · exact Or.inr (Int32.le_trans z (Int32.le_of_lt q))
        · rw [if_neg q]
          refine Or.inl ⟨rfl, fun t' ht' => ?_⟩
          by_cases e : t' = n
          · rw [e]; exact Or.inr (Int32.not_lt.mp q)
          · exact h2 t' (by omega)
      · rw [h3]
        dsimp only
        by_cases q : av_lf σ p t < av_lf σ p n
        · rw [if_pos q]
          refine Or.inr ⟨n, Nat.lt_succ_self _, ho, rfl, Int32.lt_trans h4 q, fun t' ht' => ?_⟩
          by_cases e : t' = n
          · rw [e]; exact Or.inr (Int32.le_refl _)
          · rcases h5 t' (by omega) with z | z
            · exact Or.inl z
            · exact Or.inr (Int32.le_trans z (Int32.le_of_lt q))
        · rw [if_neg q]
          refine Or.inr ⟨t, by omega, h2, rfl, h4, fun t' ht' => ?_⟩
          by_cases e : t' = n
          · rw [e]; exact Or.inr (Int32.not_lt.mp q)
          · exact h5 t' (by omega)
section
variable {Lx bd : Nat} {xs : Nat → Int32} {S : Nat → Int64} {σ : Nat → Int32} {L : List (Nat → Int32)} {H : List av_K} {P : Option av_K}
theorem lw_h {p : Nat} {x : Int32} {M : am_M} (hp : p < 16) (hx : x = nI p) (hZ : pZ Lx xs S bd σ L H P M) : wq (am_val iL_wallOf 0 [some (.ref (am_c 0 12)), some (.int x), some (.int 0), none] [] M) 1 (qi (pZ Lx xs S bd σ L H P) (σ (18 + 2 * p))) := by
  subst hx
  have c1 : ¬ am_pl (nI p) = false := by rw [am_n_pl hp]; decide
  have e : aw (aq_wallOf σ (nI p) 0) = σ (18 + 2 * p) := by
    unfold aq_wallOf
    rw [if_neg c1, if_pos rfl, av_hf_n hp]
    rfl
  rw [← e]
  exact lq_wallOf hZ
theorem lw_o {p : Nat} {x : Int32} {M : am_M} (hp : p < 16) (hx : x = nI p) (hZ : pZ Lx xs S bd σ L H P M) : wq (am_val iL_wallOf 0 [some (.ref (am_c 0 12)), some (.int x), some (.int 1), none] [] M) 1 (qi (pZ Lx xs S bd σ L H P) (σ (19 + 2 * p))) := by
  subst hx
  have c1 : ¬ am_pl (nI p) = false := by rw [am_n_pl hp]; decide
  have e : aw (aq_wallOf σ (nI p) 1) = σ (19 + 2 * p) := by
    unfold aq_wallOf
    rw [if_neg c1, if_neg (by decide), av_of_n hp]
    rfl
  rw [← e]
  exact lq_wallOf hZ
theorem lw_n {p : Nat} {x g : Int32} {M : am_M} (hp : p < 16) (hx : x = nI p) (hZ : pZ Lx xs S bd σ L H P M) : wq (am_val iL_nextWall 0 [some (.ref (am_c 0 12)), some (.int x), some (.int g), none] [] M) 1 (qi (pZ Lx xs S bd σ L H P) (nwv (av_nw σ p g))) := by
  subst hx
  have c1 : ¬ am_pl (nI p) = false := by rw [am_n_pl hp]; decide
  have e : aw (aq_next σ (nI p) g) = nwv (av_nw σ p g) := by
    unfold aq_next
    rw [if_neg c1, av_ix_n (by omega)]
    cases av_nw σ p g <;> rfl
  rw [← e]
  exact lq_nextWall hZ
theorem lw_t {t w : Nat} {x y v : Int32} {M : am_M} (hx : x = nI t) (hy : y = nI w) (h : aw (aq_teamOf σ L (nI t) (nI w)) = v) (hZ : pZ Lx xs S bd σ L H P M) : wq (am_val iL_teamOf 0 [some (.ref (am_c 0 12)), some (.int x), some (.int y), none] [] M) 1 (qi (pZ Lx xs S bd σ L H P) v) := by
  subst hx
  subst hy
  rw [← h]
  exact lq_teamOf hZ
theorem aw_t0 {t : Nat} (ht : t < 3) : aw (aq_teamOf σ L (nI t) (nI 0)) = σ (9 + 3 * t) := by
  have c1 : ¬ am_tm (nI t) = false := by rw [am_n_tm ht]; decide
  unfold aq_teamOf
  rw [if_neg c1, if_pos (show nI 0 = 0 from rfl), av_pt_n ht]
  rfl
def prv (σ : Nat → Int32) (t p : Nat) : Int32 := if σ (18 + 2 * p) = 0 then -75 else av_price σ (nI t) (nI p)
theorem lw_p {t p : Nat} {x y : Int32} {M : am_M} (ht : t < 3) (hp : p < 16) (hx : x = nI t) (hy : y = nI p) (hZ : pZ Lx xs S bd σ L H P M) : wq (am_val iL_price 0 [some (.ref (am_c 0 12)), some (.int x), some (.int y), none] [] M) 1 (qi (pZ Lx xs S bd σ L H P) (prv σ t p)) := by
  subst hx
  subst hy
  have c1 : ¬ am_tm (nI t) = false := by rw [am_n_tm ht]; decide
  have c2 : ¬ am_pl (nI p) = false := by rw [am_n_pl hp]; decide
  have e : aw (aq_price σ (nI t) (nI p)) = prv σ t p := by
    unfold aq_price prv
    rw [if_neg c1, if_neg c2, av_hf_n hp]
    by_cases h : σ (18 + 2 * p) = 0
    · rw [if_pos h, if_pos h]; rfl
    · rw [if_neg h, if_neg h]; rfl
  rw [← e]
  exact lq_price hZ
def btv (σ : Nat → Int32) (p : Nat) : Int32 := if σ (18 + 2 * p) = 0 then -75 else if av_bst3 σ (nI p) = -1 then -75 else av_bst3 σ (nI p)
theorem lw_b {p : Nat} {M : am_M} (hp : p < 16) (hZ : pZ Lx xs S bd σ L H P M) : wq (am_val iL_bestTeam 0 [some (.ref (am_c 0 12)), some (.int (nI p)), none] [] M) 1 (qi (pZ Lx xs S bd σ L H P) (btv σ p)) := by
  have c2 : ¬ am_pl (nI p) = false := by rw [am_n_pl hp]; decide
  have e : aw (aq_bestTeam σ (nI p)) = btv σ p := by
    unfold aq_bestTeam btv
    rw [if_neg c2, av_hf_n hp]
    by_cases h : σ (18 + 2 * p) = 0
    · rw [if_pos h, if_pos h]; rfl
    · rw [if_neg h, if_neg h]
      by_cases h2 : av_bst3 σ (nI p) = -1
      · rw [if_pos h2, if_pos h2]; rfl
      · rw [if_neg h2, if_neg h2]; rfl
  rw [← e]
  exact lq_bestTeam hZ
/-- the walls next to a place -/
theorem pl_0 {p : Nat} {K : Nat} {Q : Option Value → am_M → Prop} {M : am_M} (hp : p < 16) (hZ : pZ Lx xs S bd σ L H P M)
    (h : ∀ x4 M', pZ Lx xs S bd σ L H P M' → wq (am_val iL_arePlaces 86 [some (.ref (am_c 0 12)), some (.int (nI p)), some (.int (σ (18 + 2 * p))), some (.int (σ (19 + 2 * p))), some (.int x4), none, none, none, none, none, none] [] M') K Q) :
    wq (am_val iL_arePlaces 0 [some (.ref (am_c 0 12)), some (.int (nI p)), none, none, none, none, none, none, none, none, none] [] M) (7 + K) Q := by
  have hok := hZ.2.1.1
  rw [ae_L_arePlaces_0]
  refine wq_i (lw_h hp rfl hZ) (by omega) fun M1 hZ1 => ?_
  simp only [am_tl_s]
  rw [ae_L_arePlaces_6]
  refine wq_i (lw_o hp rfl hZ1) (by omega) fun M2 hZ2 => ?_
  simp only [am_tl_s]
  rw [ae_L_arePlaces_13]
  refine wq_i (lw_n hp rfl hZ2) (by omega) fun M3 hZ3 => ?_
  simp only [am_tl_s]
  rw [ae_L_arePlaces_20]
  rcases nw_1 (σ := σ) hp with e | ⟨n, e, h1, h2, h3, h4⟩
  · rw [e, if_pos (show nwv none < 0 by decide)]
    exact wq_k (h _ M3 hZ3) (by omega)
  · rw [e, if_neg (show ¬ nwv (some n) < 0 from nI_pos (by omega)), ae_L_arePlaces_27, if_neg (show ¬ nwv (some n) ≤ nI p from nI_ge h1 (by omega)), ae_L_arePlaces_33]
    refine wq_i (lw_h (p := n) h2 rfl hZ3) (by omega) fun M4 hZ4 => ?_
    simp only [am_tl_s]
    rw [ae_L_arePlaces_40, if_neg (show ¬ σ (18 + 2 * n) ≤ 0 from Int32.not_le.mpr h3), ae_L_arePlaces_43]
    obtain ⟨n1, n2⟩ := nw_2 h1 h2 h4
    have h62 : ∀ M, pZ Lx xs S bd σ L H P M → wq (am_val iL_arePlaces 62 [some (.ref (am_c 0 12)), some (.int (nI p)), some (.int (σ (18 + 2 * p))), some (.int (σ (19 + 2 * p))), some (.int (nwv (some n))), none, none, none, none, none, none] [] M) (2 + K) Q := fun M hZ => by
      rw [ae_L_arePlaces_62]
      refine wq_i (lw_n (p := n) h2 rfl hZ) (by omega) fun M5 hZ5 => ?_
      simp only [am_tl_s]
      rw [ae_L_arePlaces_69]
      by_cases hw : wl σ p
      · rw [if_neg (show ¬ σ (18 + 2 * p) ≤ 0 from Int32.not_le.mpr hw), ae_L_arePlaces_73, n1 hw, if_neg (show ¬ ¬ nwv (some p) = nI p from not_not_intro rfl)]
        exact wq_k (h _ M5 hZ5) (by omega)
      · rw [if_pos (show σ (18 + 2 * p) ≤ 0 from Int32.not_lt.mp hw), ae_L_arePlaces_77]
        refine wq_i (lw_n hp rfl hZ5) (by omega) fun M6 hZ6 => ?_
        simp only [am_tl_s]
        rw [ae_L_arePlaces_83, n2 hw, if_neg (not_not_intro rfl)]
        exact wq_k (h _ M6 hZ6) (by omega)
    by_cases hn : n = p + 1
    · rw [if_pos (show nwv (some n) = nI p + 1 by rw [hn, nI_1]; rfl)]
      exact wq_k (h62 M4 hZ4) (by omega)
    · have hne : ¬ nwv (some n) = nI p + 1 := fun z => by
        rw [nI_1] at z
        exact hn ((nI_eq (by omega) (by omega)).mp z)
      have hz : σ (18 + 2 * (p + 1)) = 0 := by
        obtain ⟨g, hg, eg, -⟩ := hok.1 (p + 1) (by omega)
        have h9 : ¬ wl σ (p + 1) := h4 (p + 1) (by omega) (by omega)
        unfold wl at h9
        rw [eg] at h9 ⊢
        rcases Nat.eq_zero_or_pos g with z | z
        · rw [z]; rfl
        · exact absurd (show (0 : Int32) < nI g by rw [← nI_0]; exact nI_lt z (by omega)) h9
      rw [if_neg hne, ae_L_arePlaces_51]
      refine wq_i (lw_h (p := p + 1) (by omega) (nI_1 p) hZ4) (by omega) fun M5 hZ5 => ?_
      simp only [am_tl_s]
      rw [ae_L_arePlaces_59, hz, if_neg (not_not_intro rfl)]
      exact wq_k (h62 M5 hZ5) (by omega)
end
