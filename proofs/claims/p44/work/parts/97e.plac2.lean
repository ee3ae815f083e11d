/-! the law's look at a place: prices, the best team -/
section
variable {Lx bd : Nat} {xs : Nat → Int32} {S : Nat → Int64} {σ : Nat → Int32} {L : List (Nat → Int32)} {H : List av_K} {P : Option av_K}
/-- the price, in numbers -/
theorem pr_n {t p : Nat} (hok : av_ok bd σ L) (hp : p < 16) : ∃ q, q ≤ 18 ∧ av_price σ (nI t) (nI p) = nI q := by
  obtain ⟨g, hg, eg, -⟩ := hok.1 p hp
  unfold av_price
  rw [av_hf_n hp, eg]
  split
  · exact ⟨0, by decide, rfl⟩
  · split
    · exact ⟨g, by omega, rfl⟩
    · exact ⟨2 * g, by omega, (Int32.ofNat_mul 2 g).symm⟩
theorem and_1 : (1 : Int32) &&& 1 = 1 := by decide
/-- what the best team is, said of all teams -/
theorem btv_s {p : Nat} (hok : av_ok bd σ L) (hbd : bd < 1000000000) (hp : p < 16) : (btv σ p < 0 ∧ (σ (18 + 2 * p) = 0 ∨ ∀ t, t < 3 → σ (19 + 2 * p) = nI t ∨ ¬ prv σ t p ≤ σ (9 + 3 * t))) ∨
    ∃ t, t < 3 ∧ btv σ p = nI t ∧ ¬ σ (18 + 2 * p) = 0 ∧ ¬ nI t = σ (19 + 2 * p) ∧ ¬ σ (9 + 3 * t) < prv σ t p ∧ ∀ t', t' < 3 → σ (19 + 2 * p) = nI t' ∨ ¬ σ (9 + 3 * t) - prv σ t p < σ (9 + 3 * t') - prv σ t' p := by
  unfold btv av_bst3
  by_cases h0 : σ (18 + 2 * p) = 0
  · rw [if_pos h0]
    exact Or.inl ⟨by decide, Or.inl h0⟩
  · rw [if_neg h0]
    have hlf : ∀ t, t < 3 → av_lf σ (nI p) t = σ (9 + 3 * t) - prv σ t p := fun t ht => by
      unfold av_lf prv
      rw [av_pt_n ht, if_neg h0]
    rcases bt_s (σ := σ) (p := nI p) 3 with ⟨h1, h2⟩ | ⟨t, h1, h2, h3, h4, h5⟩
    · rw [h1, if_pos rfl]
      refine Or.inl ⟨by decide, Or.inr fun t ht => ?_⟩
      rcases h2 t ht with z | z
      · rw [av_of_n hp] at z
        exact Or.inl z
      · refine Or.inr fun w => ?_
        obtain ⟨x, hx, ex⟩ := hok.2.1 t ht
        obtain ⟨q, hq, eq⟩ := pr_n (t := t) hok hp
        rw [hlf t ht] at z
        unfold prv at z w
        rw [if_neg h0, eq] at z w
        rw [ex] at z w
        have h6 := (lf_n (by omega) (by omega)).1 z
        exact nI_ge h6 (by omega) w
    · rw [h3, if_neg (av_bi_nI (by omega))]
      rw [av_of_n hp] at h2
      refine Or.inr ⟨t, h1, rfl, h0, fun z => h2 z.symm, ?_, fun t' ht' => ?_⟩
      · obtain ⟨x, hx, ex⟩ := hok.2.1 t h1
        obtain ⟨q, hq, eq⟩ := pr_n (t := t) hok hp
        rw [hlf t h1] at h4
        unfold prv at h4 ⊢
        rw [if_neg h0, eq] at h4 ⊢
        rw [ex] at h4 ⊢
        exact nI_nlt ((lf_n (by omega) (by omega)).2 h4) (by omega)
      · rcases h5 t' ht' with z | z
        · rw [av_of_n hp] at z
          exact Or.inl z
        · rw [hlf t' ht', hlf t h1] at z
          exact Or.inr (Int32.not_lt.mpr z)
theorem lq_arePlaces {p : Nat} {x : Int32} {M : am_M} (hx : x = nI p) (hp : p < 16) (hbd : bd < 1000000000) (hZ : pZ Lx xs S bd σ L H P M) : wq (am_val iL_arePlaces 0 [some (.ref (am_c 0 12)), some (.int x), none, none, none, none, none, none, none, none, none] [] M) 40 (qi (pZ Lx xs S bd σ L H P) 1) := by
  subst hx
  have hok := hZ.2.1.1
  obtain ⟨g, hg, eg, ow⟩ := hok.1 p hp
  refine wq_k (pl_0 (K := 30) hp hZ fun x4 M1 hZ1 => ?_) (by decide)
  rw [ae_L_arePlaces_86]
  refine wq_i (lw_b hp hZ1) (by omega) fun M2 hZ2 => ?_
  simp only [am_tl_s]
  have hend : ∀ x6 o10 M, pZ Lx xs S bd σ L H P M → wq (am_val iL_arePlaces 291 [some (.ref (am_c 0 12)), some (.int (nI p)), some (.int (σ (18 + 2 * p))), some (.int (σ (19 + 2 * p))), some (.int x4), some (.int 1), some (.int x6), some (.int 1), some (.int 1), some (.int (nI 3)), o10] [] M) 0 (qi (pZ Lx xs S bd σ L H P) 1) := fun x6 o10 M hZ => by
    rw [ae_L_arePlaces_291, if_neg (by decide), ae_L_arePlaces_296, if_neg (by decide), ae_L_arePlaces_301, if_neg (by decide), ae_L_arePlaces_306, eg, if_neg (nI_pos (by omega)), ae_L_arePlaces_310, if_neg (show ¬ 9 < nI g from nI_nlt (a := 9) hg (by decide)), ae_L_arePlaces_316]
    by_cases q : 0 < nI g
    · rw [if_pos q, ae_L_arePlaces_325]
      exact wq_e ⟨rfl, hZ⟩
    · have ho : σ (19 + 2 * p) = -1 := by
        rcases ow with z | ⟨z, -⟩
        · exact z
        · exact absurd (show (0 : Int32) < nI g by rw [← nI_0]; exact nI_lt z (by omega)) q
      rw [if_neg q, ae_L_arePlaces_320, ho, if_neg (by decide), ae_L_arePlaces_325]
      exact wq_e ⟨rfl, hZ⟩
  -- the price of each team
  have hpr : ∀ (t : Nat) (x6 x7 : Int32) (M : am_M) (K : Nat) (Q : Option Value → am_M → Prop), t < 3 → pZ Lx xs S bd σ L H P M →
      (∀ M', pZ Lx xs S bd σ L H P M' → wq (am_val iL_arePlaces 198 [some (.ref (am_c 0 12)), some (.int (nI p)), some (.int (σ (18 + 2 * p))), some (.int (σ (19 + 2 * p))), some (.int x4), some (.int 1), some (.int x6), some (.int x7), some (.int 1), some (.int (nI t)), some (.int (prv σ t p))] [.int 1] M') K Q) →
      ∀ o10, wq (am_val iL_arePlaces 145 [some (.ref (am_c 0 12)), some (.int (nI p)), some (.int (σ (18 + 2 * p))), some (.int (σ (19 + 2 * p))), some (.int x4), some (.int 1), some (.int x6), some (.int x7), some (.int 1), some (.int (nI t)), o10] [] M) (1 + K) Q := fun t x6 x7 M K Q ht hZ h o10 => by
    rw [ae_L_arePlaces_145, if_neg (show ¬ 3 ≤ nI t from nI_ge (b := 3) ht (by decide)), ae_L_arePlaces_151]
    refine wq_i (lw_p ht hp rfl rfl hZ) (by omega) fun M3 hZ3 => ?_
    simp only [am_tl_s]
    have h := wq_k (h M3 hZ3) (show K ≤ 1 + K - 1 by omega)
    rw [ae_L_arePlaces_158]
    by_cases h0 : σ (18 + 2 * p) = 0
    · have e : prv σ t p = -75 := if_pos h0
      rw [if_neg (not_not_intro h0), ae_L_arePlaces_168, if_neg (not_not_intro e)]
      exact h
    · have e : prv σ t p = av_price σ (nI t) (nI p) := if_neg h0
      rw [if_pos h0, ae_L_arePlaces_173]
      by_cases h1 : σ (19 + 2 * p) = nI t
      · have e2 : prv σ t p = 0 := by rw [e]; unfold av_price; rw [av_of_n hp, if_pos h1]
        rw [if_neg (not_not_intro h1), ae_L_arePlaces_179, if_neg (not_not_intro e2)]
        exact h
      · rw [if_pos h1, ae_L_arePlaces_183]
        by_cases h2 : σ (19 + 2 * p) = -1
        · have e2 : prv σ t p = σ (18 + 2 * p) := by rw [e]; unfold av_price; rw [av_of_n hp, if_neg h1, if_pos h2, av_hf_n hp]
          rw [if_neg (not_not_intro h2), ae_L_arePlaces_188, if_neg (not_not_intro e2)]
          exact h
        · have e2 : prv σ t p = 2 * σ (18 + 2 * p) := by rw [e]; unfold av_price; rw [av_of_n hp, if_neg h1, if_neg h2, av_hf_n hp]
          rw [if_pos h2, ae_L_arePlaces_192, if_neg (not_not_intro e2)]
          exact h
  rw [ae_L_arePlaces_98]
  rcases btv_s hok hbd hp with ⟨b1, b2⟩ | ⟨t0, b1, b2, b3, b4, b5, b6⟩
  · rw [if_pos b1, ae_L_arePlaces_132, ← nI_0]
    have key : ∀ m t, t + m = 3 → ∀ o10 M, pZ Lx xs S bd σ L H P M → wq (am_val iL_arePlaces 145 [some (.ref (am_c 0 12)), some (.int (nI p)), some (.int (σ (18 + 2 * p))), some (.int (σ (19 + 2 * p))), some (.int x4), some (.int 1), some (.int (btv σ p)), some (.int 1), some (.int 1), some (.int (nI t)), o10] [] M) (2 * m) (qi (pZ Lx xs S bd σ L H P) 1) := by
      intro m
      induction m with
      | zero =>
        intro t ht o10 M hZ
        obtain rfl : t = 3 := by omega
        rw [ae_L_arePlaces_145, if_pos (by decide)]
        exact hend _ _ M hZ
      | succ m ih =>
        intro t ht o10 M hZ
        refine wq_k (hpr t (btv σ p) 1 M (1 + 2 * m) _ (by omega) hZ (fun M3 hZ3 => ?_) o10) (by omega)
        have h235 : ∀ M, pZ Lx xs S bd σ L H P M → wq (am_val iL_arePlaces 235 [some (.ref (am_c 0 12)), some (.int (nI p)), some (.int (σ (18 + 2 * p))), some (.int (σ (19 + 2 * p))), some (.int x4), some (.int 1), some (.int (btv σ p)), some (.int 1), some (.int 1), some (.int (nI t)), some (.int (prv σ t p))] [.int 1] M) (2 * m) (qi (pZ Lx xs S bd σ L H P) 1) := fun M hZ => by
          rw [ae_L_arePlaces_235, and_1, nI_1]
          exact ih (t + 1) (by omega) _ M hZ
        rw [ae_L_arePlaces_198, if_neg (fun z => Int32.not_le.mpr b1 z), and_1, ae_L_arePlaces_213]
        by_cases h0 : σ (18 + 2 * p) = 0
        · rw [if_pos h0]
          exact wq_k (h235 M3 hZ3) (by omega)
        · rw [if_neg h0, ae_L_arePlaces_217]
          rcases (b2.resolve_left h0) t (by omega) with z | z
          · rw [if_pos z]
            exact wq_k (h235 M3 hZ3) (by omega)
          · by_cases h1 : σ (19 + 2 * p) = nI t
            · rw [if_pos h1]
              exact wq_k (h235 M3 hZ3) (by omega)
            · rw [if_neg h1, ae_L_arePlaces_223]
              refine wq_i (lw_t (w := 0) rfl rfl (aw_t0 (by omega)) hZ3) (by omega) fun M4 hZ4 => ?_
              simp only [am_tl_s]
              rw [ae_L_arePlaces_230, if_neg z]
              exact wq_k (h235 M4 hZ4) (by omega)
    exact wq_k (key 3 0 rfl none M2 hZ2) (by decide)
  · rw [b2, if_neg (nI_pos (by omega)), ae_L_arePlaces_105, if_neg b4, ae_L_arePlaces_111, if_neg (show ¬ σ (18 + 2 * p) ≤ 0 by
      rw [eg] at b3 ⊢
      refine nI_nle (Nat.pos_of_ne_zero fun z => b3 ?_) (by omega)
      rw [z]
      rfl), ae_L_arePlaces_115]
    refine wq_i (lw_t (w := 0) rfl rfl (aw_t0 b1) hZ2) (by omega) fun M3 hZ3 => ?_
    simp only [am_tl_s]
    rw [ae_L_arePlaces_122]
    refine wq_i (lw_p b1 hp rfl rfl hZ3) (by omega) fun M4 hZ4 => ?_
    simp only [am_tl_s]
    rw [ae_L_arePlaces_129, if_neg b5, ae_L_arePlaces_132, ← nI_0]
    have key : ∀ m t, t + m = 3 → ∀ o10 M, pZ Lx xs S bd σ L H P M → wq (am_val iL_arePlaces 145 [some (.ref (am_c 0 12)), some (.int (nI p)), some (.int (σ (18 + 2 * p))), some (.int (σ (19 + 2 * p))), some (.int x4), some (.int 1), some (.int (nI t0)), some (.int 1), some (.int 1), some (.int (nI t)), o10] [] M) (4 * m) (qi (pZ Lx xs S bd σ L H P) 1) := by
      intro m
      induction m with
      | zero =>
        intro t ht o10 M hZ
        obtain rfl : t = 3 := by omega
        rw [ae_L_arePlaces_145, if_pos (by decide)]
        exact hend _ _ M hZ
      | succ m ih =>
        intro t ht o10 M hZ
        refine wq_k (hpr t (nI t0) 1 M (3 + 4 * m) _ (by omega) hZ (fun M5 hZ5 => ?_) o10) (by omega)
        have h277 : ∀ M, pZ Lx xs S bd σ L H P M → wq (am_val iL_arePlaces 277 [some (.ref (am_c 0 12)), some (.int (nI p)), some (.int (σ (18 + 2 * p))), some (.int (σ (19 + 2 * p))), some (.int x4), some (.int 1), some (.int (nI t0)), some (.int 1), some (.int 1), some (.int (nI t)), some (.int (prv σ t p))] [.int 1] M) (4 * m) (qi (pZ Lx xs S bd σ L H P) 1) := fun M hZ => by
          rw [ae_L_arePlaces_277, and_1, nI_1]
          exact ih (t + 1) (by omega) _ M hZ
        rw [ae_L_arePlaces_198, if_pos (nI_pos' (by omega)), and_1, ae_L_arePlaces_243]
        by_cases h1 : σ (19 + 2 * p) = nI t
        · rw [if_pos h1]
          exact wq_k (h277 M5 hZ5) (by omega)
        · rw [if_neg h1, ae_L_arePlaces_249]
          refine wq_i (lw_t (w := 0) rfl rfl (aw_t0 (by omega)) hZ5) (by omega) fun M6 hZ6 => ?_
          simp only [am_tl_s]
          rw [ae_L_arePlaces_256]
          refine wq_i (lw_t (w := 0) rfl rfl (aw_t0 b1) hZ6) (by omega) fun M7 hZ7 => ?_
          simp only [am_tl_s]
          rw [ae_L_arePlaces_266]
          refine wq_i (lw_p b1 hp rfl rfl hZ7) (by omega) fun M8 hZ8 => ?_
          simp only [am_tl_s]
          rw [ae_L_arePlaces_273, if_neg ((b6 t (by omega)).resolve_left h1)]
          exact wq_k (h277 M8 hZ8) (by omega)
    exact wq_k (key 3 0 rfl none M4 hZ4) (by decide)
end
