/-! the law's look at the players -/
theorem lb_n {L : List (Nat → Int32)} {p : Int32} : ∀ n, (av_lb L p n = none → ∀ k, k < n → av_ec (av_s L k) p = false) ∧ ((∀ k, k < n → av_ec (av_s L k) p = false) → av_lb L p n = none) := by
  intro n
  induction n with
  | zero => exact ⟨fun _ k hk => absurd hk (Nat.not_lt_zero _), fun _ => rfl⟩
  | succ n ih =>
    obtain ⟨i1, i2⟩ := ih
    have hs : av_lb L p (n + 1) = match av_lb L p n with
      | none => bif av_ec (av_s L n) p then some n else none
      | some b => bif (av_ec (av_s L n) p && decide (av_s L b 1 < av_s L n 1)) then some n else some b := rfl
    rw [hs]
    refine ⟨fun h k hk => ?_, fun h => ?_⟩
    · cases hb : av_lb L p n with
      | some b =>
        rw [hb] at h
        dsimp only at h
        cases hc : (av_ec (av_s L n) p && decide (av_s L b 1 < av_s L n 1)) <;> rw [hc] at h <;> cases h
      | none =>
        rw [hb] at h
        dsimp only at h
        cases hc : av_ec (av_s L n) p with
        | true => rw [hc] at h; cases h
        | false =>
          by_cases e : k = n
          · rw [e]; exact hc
          · exact i1 hb k (by omega)
    · rw [i2 fun k hk => h k (by omega)]
      dsimp only
      rw [h n (Nat.lt_succ_self _)]
      rfl
theorem es_0 {L : List (Nat → Int32)} {p : Int32} (hl : L.length ≤ 8) : am_it (av_es L p) L.length 0 = 0 ↔ ∀ k, k < L.length → av_ec (av_s L k) p = false :=
  (av_lb_es L.length hl).trans ⟨(lb_n L.length).1, (lb_n L.length).2⟩
theorem et_s {σ s : Nat → Int32} {p : Int32} {j : Nat} (h : av_et σ s p = some j) : j < 21 ∧ av_ec (av_n σ s j) p = true ∧ ∀ i, i < j → av_ec (av_n σ s i) p = false := by
  unfold av_et at h
  rcases av_fst_c (f := av_ef σ s p) 21 with ⟨e, -⟩ | ⟨i, h1, e, h2, h3⟩
  · rw [e] at h; cases h
  · rw [e] at h
    cases h
    exact ⟨h1, h2, h3⟩
theorem et_0 {σ s : Nat → Int32} {p : Int32} (h : av_ec s p = true) : av_et σ s p = some 0 := av_fst_s (fun i hi => absurd hi (Nat.not_lt_zero _)) h (by decide)
theorem cm_s {σ : Nat → Int32} {L : List (Nat → Int32)} {p : Int32} : ∀ n, (am_it (av_cg σ L p) n (-1) = -1 ∧ ∀ k, k < n → av_et σ (av_s L k) p = none) ∨ ∃ k c, k < n ∧ c < 21 ∧ av_et σ (av_s L k) p = some c ∧ am_it (av_cg σ L p) n (-1) = nI c ∧ ∀ k' i, k' < n → av_et σ (av_s L k') p = some i → c ≤ i := by
  intro n
  induction n with
  | zero => exact Or.inl ⟨rfl, fun k hk => absurd hk (Nat.not_lt_zero _)⟩
  | succ n ih =>
    have hs : am_it (av_cg σ L p) (n + 1) (-1) = av_cg σ L p n (am_it (av_cg σ L p) n (-1)) := rfl
    rw [hs]
    generalize am_it (av_cg σ L p) n (-1) = X at ih ⊢
    unfold av_cg
    cases he : av_et σ (av_s L n) p with
    | none =>
      rw [if_pos av_bi_n]
      rcases ih with ⟨h1, h2⟩ | ⟨k, c, h1, h2, h3, h4, h5⟩
      · refine Or.inl ⟨h1, fun k hk => ?_⟩
        by_cases e : k = n
        · rw [e]; exact he
        · exact h2 k (by omega)
      · refine Or.inr ⟨k, c, by omega, h2, h3, h4, fun k' i hk' e' => ?_⟩
        by_cases e : k' = n
        · rw [e, he] at e'; cases e'
        · exact h5 k' i (by omega) e'
    | some j =>
      obtain ⟨hj, -, -⟩ := et_s he
      rw [av_bi_s, if_neg (av_bi_nI (by omega))]
      rcases ih with ⟨h1, h2⟩ | ⟨k, c, h1, h2, h3, h4, h5⟩
      · rw [h1, if_pos rfl]
        refine Or.inr ⟨n, j, Nat.lt_succ_self _, hj, he, rfl, fun k' i hk' e' => ?_⟩
        by_cases e : k' = n
        · rw [e, he] at e'; cases e'; exact Nat.le_refl _
        · rw [h2 k' (by omega)] at e'; cases e'
      · rw [h4, if_neg (av_bi_nI (by omega))]
        by_cases q : c ≤ j
        · rw [if_pos (nI_le q (by omega))]
          refine Or.inr ⟨k, c, by omega, h2, h3, rfl, fun k' i hk' e' => ?_⟩
          by_cases e : k' = n
          · rw [e, he] at e'; cases e'; exact q
          · exact h5 k' i (by omega) e'
        · rw [if_neg (nI_ge (by omega) (by omega))]
          refine Or.inr ⟨n, j, Nat.lt_succ_self _, hj, he, rfl, fun k' i hk' e' => ?_⟩
          by_cases e : k' = n
          · rw [e, he] at e'; cases e'; exact Nat.le_refl _
          · have := h5 k' i (by omega) e'
            omega
/-- what returns of a shout -/
theorem rt_s {bd : Nat} {σ : Nat → Int32} {L : List (Nat → Int32)} (hok : av_ok bd σ L) {p t g : Int32} {l : Nat} (h0 : 0 < l) (hl : l ≤ 20) : ∃ r, r < l ∧ av_ret σ p t g (nI l) = nI r := by
  unfold av_ret
  cases he : av_et σ (av_mk p (nI l) t 0 g) p with
  | none => exact ⟨0, h0, rfl⟩
  | some j =>
    obtain ⟨hj, hc, -⟩ := et_s he
    have hj0 : j ≠ 0 := fun e => by
      rw [e] at hc
      have hd : av_ec (av_mk p (nI l) t 0 g) p = true := hc
      unfold av_ec at hd
      rw [show av_mk p (nI l) t 0 g 3 = 0 from rfl, show decide ((0 : Int32) < 0) = false by decide, Bool.and_false, Bool.false_and] at hd
      cases hd
    obtain ⟨r, e, h⟩ := sd_l (s := av_mk p (nI l) t 0 g) hok hl rfl j
    exact ⟨r, by omega, e⟩
theorem bl_s {bd : Nat} {σ : Nat → Int32} {L : List (Nat → Int32)} (hok : av_ok bd σ L) {p t g : Int32} : ∀ n, n ≤ 20 → (am_it (av_bg σ p t g) n (0, 0) = (0, 0) ∧ ∀ l, 0 < l → l ≤ n → av_ret σ p t g (nI l) = 0) ∨ ∃ b m, 0 < b ∧ b ≤ n ∧ 0 < m ∧ m < b ∧ av_ret σ p t g (nI b) = nI m ∧ am_it (av_bg σ p t g) n (0, 0) = (nI b, nI m) ∧ ∀ l r, 0 < l → l ≤ n → av_ret σ p t g (nI l) = nI r → r < l → r ≤ m ∧ (l < b → r < m) := by
  intro n
  induction n with
  | zero => intro _; exact Or.inl ⟨rfl, fun l h1 h2 => by omega⟩
  | succ n ih =>
    intro hn
    have hs : am_it (av_bg σ p t g) (n + 1) (0, 0) = av_bg σ p t g n (am_it (av_bg σ p t g) n (0, 0)) := rfl
    obtain ⟨r, hr, er⟩ := rt_s hok (p := p) (t := t) (g := g) (l := n + 1) (by omega) (by omega)
    rw [hs]
    have ih := ih (by omega)
    generalize am_it (av_bg σ p t g) n (0, 0) = X at ih ⊢
    unfold av_bg
    rw [er]
    rcases ih with ⟨h1, h2⟩ | ⟨b, m, h1, h2, h3, h4, h5, h6, h7⟩
    · rw [h1]
      by_cases q : r = 0
      · rw [if_pos (show nI r ≤ (0 : Int32) by rw [q]; decide)]
        refine Or.inl ⟨rfl, fun l l1 l2 => ?_⟩
        by_cases e : l = n + 1
        · rw [e, er, q]; rfl
        · exact h2 l l1 (by omega)
      · rw [if_neg (show ¬ nI r ≤ (0 : Int32) from nI_nle (by omega) (by omega))]
        refine Or.inr ⟨n + 1, r, by omega, Nat.le_refl _, by omega, hr, er, rfl, fun l r' l1 l2 e' hlt => ?_⟩
        by_cases e : l = n + 1
        · rw [e, er] at e'
          have := (nI_eq (by omega) (by omega)).mp e'
          exact ⟨by omega, fun z => by omega⟩
        · have h9 := h2 l l1 (by omega)
          rw [h9, ← nI_0] at e'
          have := (nI_eq (by omega) (by omega)).mp e'
          exact ⟨by omega, fun z => by omega⟩
    · rw [h6]
      dsimp only
      by_cases q : r ≤ m
      · rw [if_pos (nI_le q (by omega))]
        refine Or.inr ⟨b, m, h1, by omega, h3, h4, h5, rfl, fun l r' l1 l2 e' hlt => ?_⟩
        by_cases e : l = n + 1
        · rw [e, er] at e'
          have := (nI_eq (by omega) (by omega)).mp e'
          exact ⟨by omega, fun z => by omega⟩
        · exact h7 l r' l1 (by omega) e' hlt
      · rw [if_neg (nI_ge (by omega) (by omega))]
        refine Or.inr ⟨n + 1, r, by omega, Nat.le_refl _, by omega, hr, er, rfl, fun l r' l1 l2 e' hlt => ?_⟩
        by_cases e : l = n + 1
        · rw [e, er] at e'
          have := (nI_eq (by omega) (by omega)).mp e'
          exact ⟨by omega, fun z => by omega⟩
        · obtain ⟨z1, z2⟩ := h7 l r' l1 (by omega) e' hlt
          exact ⟨by omega, fun _ => by omega⟩
section
variable {Lx bd : Nat} {xs : Nat → Int32} {S : Nat → Int64} {σ : Nat → Int32} {L : List (Nat → Int32)} {H : List av_K} {P : Option av_K}
theorem lp_pl {j w : Nat} {x : Int32} {M : am_M} (hj : j < av_np σ) (hw : w ≤ 4) (hx : x = nI w) (hZ : pZ Lx xs S bd σ L H P M) : wq (am_val iL_playerOf 0 [some (.ref (am_c 0 12)), some (.int (nI j)), some (.int x), none] [] M) 1 (qi (pZ Lx xs S bd σ L H P) (σ (50 + 5 * j + w))) := by
  subst hx
  have h6 := (pZ_np hZ).2.1
  have c1 : ¬ am_ltb (nI j) (av_np σ) = false := by rw [am_n_lt (by omega) hj]; decide
  have c2 : ¬ am_wt (nI w) 0 4 = false := by rw [wt_4 hw]; decide
  have e : aw (aq_playerOf σ (nI j) (nI w)) = σ (50 + 5 * j + w) := by
    unfold aq_playerOf
    rw [if_neg c1, if_neg c2, av_ix_n (by omega), av_ix_n (by omega)]
    rfl
  rw [← e]
  exact lq_playerOf hZ
def cmv (σ : Nat → Int32) (L : List (Nat → Int32)) (j : Nat) : Int32 := if av_cm σ L (σ (51 + 5 * j)) = -1 then -75 else av_cm σ L (σ (51 + 5 * j))
theorem aw_comes {j : Nat} (hj : j < av_np σ) (h6 : av_np σ ≤ 6) : aw (aq_comes σ L (nI j)) = cmv σ L j := by
  have c1 : ¬ am_ltb (nI j) (av_np σ) = false := by rw [am_n_lt (by omega) hj]; decide
  unfold aq_comes cmv
  rw [if_neg c1, av_ix_n (by omega)]
  by_cases h : av_cm σ L (σ (51 + 5 * j)) = -1
  · rw [if_pos h, if_pos h]; rfl
  · rw [if_neg h, if_neg h]; rfl
theorem lp_ret {j l : Nat} {g x : Int32} {M : am_M} (hj : j < av_np σ) (hg : g = 0 ∨ g = 1) (h0 : 0 < l) (hl : l ≤ 20) (hx : x = nI l) (hZ : pZ Lx xs S bd σ L H P M) : wq (am_val iL_returns 0 [some (.ref (am_c 0 12)), some (.int (nI j)), some (.int g), some (.int x), none] [] M) 1 (qi (pZ Lx xs S bd σ L H P) (av_ret σ (σ (51 + 5 * j)) (σ (50 + 5 * j)) g (nI l))) := by
  subst hx
  have h6 := (pZ_np hZ).2.1
  have c1 : ¬ am_ltb (nI j) (av_np σ) = false := by rw [am_n_lt (by omega) hj]; decide
  have c2 : ¬ am_wt (nI l) 1 20 = false := by
    have h : ∀ l, l < 21 → 0 < l → ¬ am_wt (nI l) 1 20 = false := by decide
    exact h l (by omega) h0
  have e : aw (aq_returns σ (nI j) g (nI l)) = av_ret σ (σ (51 + 5 * j)) (σ (50 + 5 * j)) g (nI l) := by
    unfold aq_returns
    rw [if_neg c1, if_neg c2, av_ix_n (by omega)]
    rfl
  rw [← e]
  exact lq_returns hg hZ
def blv (σ : Nat → Int32) (j : Nat) (g : Int32) : Int32 := if av_bl σ (σ (51 + 5 * j)) (σ (50 + 5 * j)) g = 0 then -75 else av_bl σ (σ (51 + 5 * j)) (σ (50 + 5 * j)) g
theorem lp_best {j : Nat} {g : Int32} {M : am_M} (hj : j < av_np σ) (hg : g = 0 ∨ g = 1) (hZ : pZ Lx xs S bd σ L H P M) : wq (am_val iL_bestLoudness 0 [some (.ref (am_c 0 12)), some (.int (nI j)), some (.int g), none] [] M) 1 (qi (pZ Lx xs S bd σ L H P) (blv σ j g)) := by
  have h6 := (pZ_np hZ).2.1
  have c1 : ¬ am_ltb (nI j) (av_np σ) = false := by rw [am_n_lt (by omega) hj]; decide
  have e : aw (aq_best σ (nI j) g) = blv σ j g := by
    unfold aq_best blv
    rw [if_neg c1, av_ix_n (by omega)]
    by_cases h : av_bl σ (σ (51 + 5 * j)) (σ (50 + 5 * j)) g = 0
    · rw [if_pos h, if_pos h]; rfl
    · rw [if_neg h, if_neg h]; rfl
  rw [← e]
  exact lq_bestLoudness hg hZ
theorem ap_side0 {n j l : Nat} {x4 x5 x7 : Int32} {o9 o10 o11 : Option Value} {K : Nat} {Q : Option Value → am_M → Prop} {M : am_M} (hj : j < av_np σ) (h0 : 0 < l) (hl : l ≤ 20) (hZ : pZ Lx xs S bd σ L H P M)
    (h : ∀ o9 o10 o11 M', pZ Lx xs S bd σ L H P M' → wq (am_val iL_arePlayers 145 [some (.ref (am_c 0 12)), some (.int (nI n)), some (.int (nI l)), some (.int (nI j)), some (.int x4), some (.int x5), some (.int 1), some (.int x7), some (.int (0 + 1)), o9, o10, o11] [] M') K Q) : wq (am_val iL_arePlayers 145 [some (.ref (am_c 0 12)), some (.int (nI n)), some (.int (nI l)), some (.int (nI j)), some (.int x4), some (.int x5), some (.int 1), some (.int x7), some (.int 0), o9, o10, o11] [] M) (3 + K) Q := by
  have hok := hZ.2.1.1
  obtain ⟨r, hr, er⟩ := rt_s hok (p := σ (51 + 5 * j)) (t := σ (50 + 5 * j)) (g := 0) h0 hl
  rw [ae_L_arePlayers_145, if_neg (by decide), ae_L_arePlayers_151, if_neg (by decide), ae_L_arePlayers_156, if_pos (show ¬ (0 : Int32) = 1 by decide), ae_L_arePlayers_168]
  refine wq_i (lp_ret hj (Or.inl rfl) h0 hl rfl hZ) (by omega) fun M1 hZ1 => ?_
  simp only [am_tl_s]
  rw [er, ae_L_arePlayers_173, if_pos (show ¬ (0 : Int32) = 1 by decide), ae_L_arePlayers_187]
  refine wq_i (lp_best hj (Or.inl rfl) hZ1) (by omega) fun M2 hZ2 => ?_
  simp only [am_tl_s]
  rw [ae_L_arePlayers_191]
  unfold blv av_bl
  rcases bl_s hok (p := σ (51 + 5 * j)) (t := σ (50 + 5 * j)) (g := 0) 20 (Nat.le_refl _) with ⟨h1, h2⟩ | ⟨b, m, h1, h2, h3, h4, h5, h6, h7⟩
  · have e0 := h2 l h0 hl
    rw [er, ← nI_0] at e0
    have hr0 : r = 0 := (nI_eq (by omega) (by omega)).mp e0
    rw [h1, if_pos rfl, if_neg (by decide), ae_L_arePlayers_198, if_neg (nI_pos (by omega)), ae_L_arePlayers_227, if_neg (nI_ge hr (by omega)), ae_L_arePlayers_233, if_neg (by decide), ae_L_arePlayers_238, if_neg (show ¬ ¬ nI r = 0 by rw [hr0]; decide), ae_L_arePlayers_243]
    exact wq_k (h _ _ _ M2 hZ2) (by omega)
  · obtain ⟨z1, z2⟩ := h7 l r h0 hl er hr
    have hnb : ¬ nI b = 0 := nI_ne0 h1 (by omega)
    rw [h6, if_neg hnb, if_pos (nI_pos' (by omega)), ae_L_arePlayers_202, if_pos (show ¬ (0 : Int32) = 1 by decide), ae_L_arePlayers_214]
    refine wq_i (lp_ret hj (Or.inl rfl) h1 (by omega) rfl hZ2) (by omega) fun M3 hZ3 => ?_
    simp only [am_tl_s]
    rw [h5, ae_L_arePlayers_220, if_neg (nI_pos (by omega)), ae_L_arePlayers_227, if_neg (nI_ge hr (by omega)), ae_L_arePlayers_233, if_pos (nI_pos' (by omega)), ae_L_arePlayers_246, if_neg (nI_nle h3 (by omega)), ae_L_arePlayers_251, if_neg (nI_nlt z1 (by omega)), ae_L_arePlayers_258]
    by_cases q : r < m
    · rw [if_pos (nI_lt q (by omega)), ae_L_arePlayers_271]
      exact wq_k (h _ _ _ M3 hZ3) (by omega)
    · have hbl : b ≤ l := by
        rcases Nat.lt_or_ge l b with w | w
        · exact absurd (z2 w) q
        · exact w
      rw [if_neg (nI_nlt (by omega) (by omega)), ae_L_arePlayers_265, if_neg (nI_nlt hbl (by omega)), ae_L_arePlayers_271]
      exact wq_k (h _ _ _ M3 hZ3) (by omega)
theorem ap_side1 {n j l : Nat} {x4 x5 x7 : Int32} {o9 o10 o11 : Option Value} {K : Nat} {Q : Option Value → am_M → Prop} {M : am_M} (hj : j < av_np σ) (h0 : 0 < l) (hl : l ≤ 20) (hZ : pZ Lx xs S bd σ L H P M)
    (h : ∀ o9 o10 o11 M', pZ Lx xs S bd σ L H P M' → wq (am_val iL_arePlayers 145 [some (.ref (am_c 0 12)), some (.int (nI n)), some (.int (nI l)), some (.int (nI j)), some (.int x4), some (.int x5), some (.int 1), some (.int x7), some (.int (1 + 1)), o9, o10, o11] [] M') K Q) : wq (am_val iL_arePlayers 145 [some (.ref (am_c 0 12)), some (.int (nI n)), some (.int (nI l)), some (.int (nI j)), some (.int x4), some (.int x5), some (.int 1), some (.int x7), some (.int 1), o9, o10, o11] [] M) (3 + K) Q := by
  have hok := hZ.2.1.1
  obtain ⟨r, hr, er⟩ := rt_s hok (p := σ (51 + 5 * j)) (t := σ (50 + 5 * j)) (g := 1) h0 hl
  rw [ae_L_arePlayers_145, if_neg (by decide), ae_L_arePlayers_151, if_neg (by decide), ae_L_arePlayers_156, if_neg (show ¬ ¬ (1 : Int32) = 1 by decide), ae_L_arePlayers_164]
  refine wq_i (lp_ret hj (Or.inr rfl) h0 hl rfl hZ) (by omega) fun M1 hZ1 => ?_
  simp only [am_tl_s]
  rw [er, ae_L_arePlayers_173, if_neg (show ¬ ¬ (1 : Int32) = 1 by decide), ae_L_arePlayers_183]
  refine wq_i (lp_best hj (Or.inr rfl) hZ1) (by omega) fun M2 hZ2 => ?_
  simp only [am_tl_s]
  rw [ae_L_arePlayers_191]
  unfold blv av_bl
  rcases bl_s hok (p := σ (51 + 5 * j)) (t := σ (50 + 5 * j)) (g := 1) 20 (Nat.le_refl _) with ⟨h1, h2⟩ | ⟨b, m, h1, h2, h3, h4, h5, h6, h7⟩
  · have e0 := h2 l h0 hl
    rw [er, ← nI_0] at e0
    have hr0 : r = 0 := (nI_eq (by omega) (by omega)).mp e0
    rw [h1, if_pos rfl, if_neg (by decide), ae_L_arePlayers_198, if_neg (nI_pos (by omega)), ae_L_arePlayers_227, if_neg (nI_ge hr (by omega)), ae_L_arePlayers_233, if_neg (by decide), ae_L_arePlayers_238, if_neg (show ¬ ¬ nI r = 0 by rw [hr0]; decide), ae_L_arePlayers_243]
    exact wq_k (h _ _ _ M2 hZ2) (by omega)
  · obtain ⟨z1, z2⟩ := h7 l r h0 hl er hr
    have hnb : ¬ nI b = 0 := nI_ne0 h1 (by omega)
    rw [h6, if_neg hnb, if_pos (nI_pos' (by omega)), ae_L_arePlayers_202, if_neg (show ¬ ¬ (1 : Int32) = 1 by decide), ae_L_arePlayers_210]
    refine wq_i (lp_ret hj (Or.inr rfl) h1 (by omega) rfl hZ2) (by omega) fun M3 hZ3 => ?_
    simp only [am_tl_s]
    rw [h5, ae_L_arePlayers_220, if_neg (nI_pos (by omega)), ae_L_arePlayers_227, if_neg (nI_ge hr (by omega)), ae_L_arePlayers_233, if_pos (nI_pos' (by omega)), ae_L_arePlayers_246, if_neg (nI_nle h3 (by omega)), ae_L_arePlayers_251, if_neg (nI_nlt z1 (by omega)), ae_L_arePlayers_258]
    by_cases q : r < m
    · rw [if_pos (nI_lt q (by omega)), ae_L_arePlayers_271]
      exact wq_k (h _ _ _ M3 hZ3) (by omega)
    · have hbl : b ≤ l := by
        rcases Nat.lt_or_ge l b with w | w
        · exact absurd (z2 w) q
        · exact w
      rw [if_neg (nI_nlt (by omega) (by omega)), ae_L_arePlayers_265, if_neg (nI_nlt hbl (by omega)), ae_L_arePlayers_271]
      exact wq_k (h _ _ _ M3 hZ3) (by omega)
end
