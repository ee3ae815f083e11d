/-! the law's look at the players, as a whole -/
section
variable {Lx bd : Nat} {xs : Nat → Int32} {S : Nat → Int64} {σ : Nat → Int32} {L : List (Nat → Int32)} {H : List av_K} {P : Option av_K}
theorem or_01 {x : Int32} (h : x = 0 ∨ x = 1) : x ||| 0 = x ∧ x ||| 1 = 1 := by
  rcases h with rfl | rfl <;> decide
theorem lp_echo {a : Nat} {x : Int32} {M : am_M} (hx : x = nI a) (ha : a < 16) (hZ : pZ Lx xs S bd σ L H P M) : wq (am_val iL_echoesAt 0 [some (.ref (am_c 0 12)), some (.int x), none] [] M) 1 (qi (pZ Lx xs S bd σ L H P) (am_it (av_es L x) L.length 0)) := by
  subst hx
  have c1 : ¬ am_pl (nI a) = false := by rw [am_n_pl ha]; decide
  have e : aw (aq_echoesAt L (nI a)) = am_it (av_es L (nI a)) L.length 0 := by
    unfold aq_echoesAt
    rw [if_neg c1]
    rfl
  rw [← e]
  exact lq_echoesAt hZ
theorem ap_98 {n j l : Nat} {x4 x5 : Int32} {K : Nat} {Q : Option Value → am_M → Prop} (hx4 : x4 < 0 ∨ ∃ c, c < 21 ∧ x4 = nI c)
    (h : ∀ x8 o9 o10 o11 M', pZ Lx xs S bd σ L H P M' → wq (am_val iL_arePlayers 142 [some (.ref (am_c 0 12)), some (.int (nI n)), some (.int (nI l)), some (.int (nI j)), some (.int x4), some (.int x5), some (.int 1), some (.int 1), some (.int x8), o9, o10, o11] [] M') K Q) :
    ∀ m k, k + m = L.length → ∀ x7 o9 o10 o11 M, pZ Lx xs S bd σ L H P M → (x7 = 0 ∨ x7 = 1) → (x7 = 1 ∨ ∃ k0 c, k ≤ k0 ∧ k0 < L.length ∧ c < 21 ∧ x4 = nI c ∧ c < av_gn σ (av_s L k0) ∧ av_n σ (av_s L k0) c 0 = x5) →
    wq (am_val iL_arePlayers 98 [some (.ref (am_c 0 12)), some (.int (nI n)), some (.int (nI l)), some (.int (nI j)), some (.int x4), some (.int x5), some (.int 1), some (.int x7), some (.int (nI k)), o9, o10, o11] [] M) (2 * m + 1 + K) Q := by
  intro m
  induction m with
  | zero =>
    intro k hk x7 o9 o10 o11 M hZ h7 hf
    have hl8 := (pZ_np hZ).2.2
    obtain rfl : k = L.length := by omega
    have h71 : x7 = 1 := by
      rcases hf with q | ⟨k0, c, q1, q2, -⟩
      · exact q
      · omega
    subst h71
    rw [ae_L_arePlayers_98]
    refine wq_i (lq_acc (a := nI L.length) hZ rfl) (by omega) fun M1 hZ1 => ?_
    simp only [am_tl_s]
    rw [ae_L_arePlayers_105, if_pos (nI_le (Nat.le_refl _) (by omega))]
    exact wq_k (h _ _ _ _ M1 hZ1) (by omega)
  | succ m ih =>
    intro k hk x7 o9 o10 o11 M hZ h7 hf
    have hl8 := (pZ_np hZ).2.2
    obtain ⟨or0, or1⟩ := or_01 h7
    rw [ae_L_arePlayers_98]
    refine wq_i (lq_acc (a := nI L.length) hZ rfl) (by omega) fun M1 hZ1 => ?_
    simp only [am_tl_s]
    rw [ae_L_arePlayers_105, if_neg (nI_ge (by omega) (by omega)), ae_L_arePlayers_108]
    rcases hx4 with q | ⟨c, hc, rfl⟩
    · have h71 : x7 = 1 := by
        rcases hf with z | ⟨k0, c, -, -, hc, e, -⟩
        · exact z
        · rw [e] at q
          exact absurd q (nI_pos (by omega))
      rw [if_pos q, ae_L_arePlayers_132, or0, nI_1]
      exact wq_k (ih (k + 1) (by omega) x7 _ _ _ M1 hZ1 h7 (Or.inl h71)) (by omega)
    · rw [if_neg (nI_pos (by omega)), ae_L_arePlayers_115]
      refine wq_i (ls_where (b := c) (by omega) (by omega) rfl hZ1) (by omega) fun M2 hZ2 => ?_
      simp only [am_tl_s]
      rw [ae_L_arePlayers_123]
      by_cases q : (if c < av_gn σ (av_s L k) then av_n σ (av_s L k) c 0 else -75) = x5
      · rw [if_neg (not_not_intro q), ae_L_arePlayers_128, or1, nI_1]
        exact wq_k (ih (k + 1) (by omega) 1 _ _ _ M2 hZ2 (Or.inr rfl) (Or.inl rfl)) (by omega)
      · rw [if_pos q, ae_L_arePlayers_132, or0, nI_1]
        refine wq_k (ih (k + 1) (by omega) x7 _ _ _ M2 hZ2 h7 ?_) (by omega)
        rcases hf with z | ⟨k0, c', q1, q2, q3, q4, q5, q6⟩
        · exact Or.inl z
        · have hcc : c = c' := (nI_eq (by omega) (by omega)).mp q4
          by_cases e : k0 = k
          · rw [← e, hcc, if_pos q5] at q
            exact absurd q6 q
          · exact Or.inr ⟨k0, c', by omega, q2, q3, q4, q5, q6⟩
theorem lq_arePlayers {l : Nat} {x y : Int32} {M : am_M} (hx : x = nI (av_np σ)) (hy : y = nI l) (h0 : 0 < l) (hl : l ≤ 20) (hZ : pZ Lx xs S bd σ L H P M) : wq (am_val iL_arePlayers 0 [some (.ref (am_c 0 12)), some (.int x), some (.int y), none, none, none, none, none, none, none, none, none] [] M) 240 (qi (pZ Lx xs S bd σ L H P) 1) := by
  subst hx
  subst hy
  obtain ⟨hn0, h6, hl8⟩ := pZ_np hZ
  have key : ∀ m j, j + m = av_np σ → ∀ o4 o5 o6 o7 o8 o9 o10 o11 M, pZ Lx xs S bd σ L H P M → wq (am_val iL_arePlayers 2 [some (.ref (am_c 0 12)), some (.int (nI (av_np σ))), some (.int (nI l)), some (.int (nI j)), o4, o5, o6, o7, o8, o9, o10, o11] [] M) (40 * m) (qi (pZ Lx xs S bd σ L H P) 1) := by
    intro m
    induction m with
    | zero =>
      intro j hj o4 o5 o6 o7 o8 o9 o10 o11 M hZ
      obtain rfl : j = av_np σ := by omega
      rw [ae_L_arePlayers_2, if_pos (nI_le (Nat.le_refl _) (by omega)), ae_L_arePlayers_302]
      exact wq_e ⟨rfl, hZ⟩
    | succ m ih =>
      intro j hj o4 o5 o6 o7 o8 o9 o10 o11 M hZ
      have hj2 : j < av_np σ := by omega
      have hok := hZ.2.1.1
      obtain ⟨⟨t, ht, et⟩, ⟨a, ha, ea⟩, ⟨hh, hh5, eh⟩⟩ := hok.2.2.2.1 j hj2
      have e51 : σ (50 + 5 * j + 1) = nI a := by rw [show 50 + 5 * j + 1 = 51 + 5 * j by omega]; exact ea
      have e52 : σ (50 + 5 * j + 2) = nI hh := by rw [show 50 + 5 * j + 2 = 52 + 5 * j by omega]; exact eh
      -- what comes
      have hcm : (cmv σ L j = -75 ∧ ∀ k, k < L.length → av_et σ (av_s L k) (nI a) = none) ∨ ∃ k c, k < L.length ∧ c < 21 ∧ av_et σ (av_s L k) (nI a) = some c ∧ cmv σ L j = nI c ∧ ∀ k' i, k' < L.length → av_et σ (av_s L k') (nI a) = some i → c ≤ i := by
        unfold cmv av_cm
        rw [ea]
        rcases cm_s (σ := σ) (L := L) (p := nI a) L.length with ⟨h1, h2⟩ | ⟨k, c, h1, h2, h3, h4, h5⟩
        · rw [h1, if_pos rfl]
          exact Or.inl ⟨rfl, h2⟩
        · rw [h4, if_neg (av_bi_nI (by omega))]
          exact Or.inr ⟨k, c, h1, h2, h3, rfl, h5⟩
      have hx4 : cmv σ L j < 0 ∨ ∃ c, c < 21 ∧ cmv σ L j = nI c := by
        rcases hcm with ⟨e, -⟩ | ⟨k, c, -, h2, -, e, -⟩
        · exact Or.inl (by rw [e]; decide)
        · exact Or.inr ⟨c, h2, e⟩
      have h20 : ¬ 20 < cmv σ L j := by
        rcases hcm with ⟨e, -⟩ | ⟨k, c, -, h2, -, e, -⟩
        · rw [e]; decide
        · rw [e]; exact nI_nlt (a := 20) (by omega) (by decide)
      have hes : cmv σ L j = 0 ↔ ¬ am_it (av_es L (nI a)) L.length 0 = 0 := by
        rw [es_0 hl8]
        rcases hcm with ⟨e, h2⟩ | ⟨k, c, h1, h2, h3, e, h5⟩
        · rw [e]
          refine ⟨fun z => absurd z (by decide), fun z => absurd (fun k hk => ?_) z⟩
          cases hc : av_ec (av_s L k) (nI a) with
          | false => rfl
          | true =>
            have := et_0 (σ := σ) hc
            rw [h2 k hk] at this
            cases this
        · rw [e]
          refine ⟨fun z hall => ?_, fun z => ?_⟩
          · have hc0 : c = 0 := (nI_eq (b := 0) (by omega) (by decide)).mp z
            have := (et_s h3).2.1
            rw [hc0, av_n_0, hall k h1] at this
            cases this
          · rcases Nat.eq_zero_or_pos c with q | q
            · rw [q]; rfl
            · exfalso
              refine z fun k' hk' => ?_
              cases hc : av_ec (av_s L k') (nI a) with
              | false => rfl
              | true =>
                have := h5 k' 0 hk' (et_0 hc)
                omega
      have hfnd : cmv σ L j < 0 ∨ ∃ k0 c, 0 ≤ k0 ∧ k0 < L.length ∧ c < 21 ∧ cmv σ L j = nI c ∧ c < av_gn σ (av_s L k0) ∧ av_n σ (av_s L k0) c 0 = nI a := by
        rcases hcm with ⟨e, -⟩ | ⟨k, c, h1, h2, h3, e, -⟩
        · exact Or.inl (by rw [e]; decide)
        · refine Or.inr ⟨k, c, Nat.zero_le _, h1, h2, e, ?_⟩
          have hec := (et_s h3).2.1
          unfold av_ec at hec
          simp only [Bool.and_eq_true, Bool.not_eq_true', decide_eq_true_eq, decide_eq_false_iff_not] at hec
          obtain ⟨g1, g2, g3, g4⟩ := av_gn_e hok (hok.2.2.2.2.1 k h1)
          refine ⟨?_, hec.2⟩
          rcases Nat.lt_or_ge c (av_gn σ (av_s L k)) with w | w
          · exact w
          · exact absurd (g4 c w) hec.1.1
      -- behind the sides
      have hend : ∀ x7 o9 o10 o11 M, pZ Lx xs S bd σ L H P M → x7 = 1 → wq (am_val iL_arePlayers 145 [some (.ref (am_c 0 12)), some (.int (nI (av_np σ))), some (.int (nI l)), some (.int (nI j)), some (.int (cmv σ L j)), some (.int (nI a)), some (.int 1), some (.int x7), some (.int (1 + 1)), o9, o10, o11] [] M) (40 * m) (qi (pZ Lx xs S bd σ L H P) 1) := fun x7 o9 o10 o11 M hZ h71 => by
        rw [ae_L_arePlayers_145, if_pos (by decide), ae_L_arePlayers_284, if_neg (by decide), ae_L_arePlayers_289, h71, if_pos (by decide), ae_L_arePlayers_296, nI_1]
        exact ih (j + 1) (by omega) _ _ _ _ _ _ _ _ M hZ
      have h142 : ∀ x8 o9 o10 o11 M', pZ Lx xs S bd σ L H P M' → wq (am_val iL_arePlayers 142 [some (.ref (am_c 0 12)), some (.int (nI (av_np σ))), some (.int (nI l)), some (.int (nI j)), some (.int (cmv σ L j)), some (.int (nI a)), some (.int 1), some (.int 1), some (.int x8), o9, o10, o11] [] M') (6 + 40 * m) (qi (pZ Lx xs S bd σ L H P) 1) := fun x8 o9 o10 o11 M' hZ' => by
        rw [ae_L_arePlayers_142]
        refine wq_k (ap_side0 (K := 3 + 40 * m) hj2 h0 hl hZ' fun o9 o10 o11 M1 hZ1 => ?_) (by omega)
        rw [show (0 : Int32) + 1 = 1 by decide]
        exact ap_side1 hj2 h0 hl hZ1 fun o9 o10 o11 M2 hZ2 => hend 1 _ _ _ M2 hZ2 rfl
      rw [ae_L_arePlayers_2, if_neg (nI_ge hj2 (by omega)), ae_L_arePlayers_7]
      refine wq_i (a := cmv σ L j) (by rw [← aw_comes hj2 h6]; exact lq_comes hZ) (by omega) fun M1 hZ1 => ?_
      simp only [am_tl_s]
      rw [ae_L_arePlayers_12]
      refine wq_i (lp_pl (w := 1) hj2 (by decide) rfl hZ1) (by omega) fun M2 hZ2 => ?_
      rw [e51]
      simp only [am_tl_s]
      rw [ae_L_arePlayers_20]
      refine wq_i (a := cmv σ L j) (by rw [← aw_comes hj2 h6]; exact lq_comesAgain hZ2) (by omega) fun M3 hZ3 => ?_
      simp only [am_tl_s]
      rw [ae_L_arePlayers_27, if_neg (not_not_intro rfl), ae_L_arePlayers_32]
      have h59 : ∀ M, pZ Lx xs S bd σ L H P M → wq (am_val iL_arePlayers 59 [some (.ref (am_c 0 12)), some (.int (nI (av_np σ))), some (.int (nI l)), some (.int (nI j)), some (.int (cmv σ L j)), some (.int (nI a)), o6, o7, o8, o9, o10, o11] [] M) (30 + 40 * m) (qi (pZ Lx xs S bd σ L H P) 1) := fun M hZ => by
        rw [ae_L_arePlayers_59, if_neg h20, ae_L_arePlayers_66]
        refine wq_i (lp_pl (w := 2) hj2 (by decide) rfl hZ) (by omega) fun M4 hZ4 => ?_
        rw [e52]
        simp only [am_tl_s]
        rw [ae_L_arePlayers_72, if_neg (show ¬ 5 < nI hh from nI_nlt (a := 5) hh5 (by decide)), ae_L_arePlayers_76]
        by_cases hneg : cmv σ L j < 0
        · rw [if_neg (fun z => Int32.not_le.mpr hneg z), ae_L_arePlayers_88, ← nI_0]
          exact wq_k (ap_98 hx4 h142 L.length 0 (Nat.zero_add _) 1 _ _ _ M4 hZ4 (Or.inr rfl) (Or.inl rfl)) (by omega)
        · rw [if_pos (Int32.not_lt.mp hneg), ae_L_arePlayers_92]
          have hz := ap_98 hx4 h142 L.length 0 (Nat.zero_add _) 0 o9 o10 o11 M4 hZ4 (Or.inl rfl) (Or.inr (hfnd.resolve_left hneg))
          rw [nI_0] at hz
          exact wq_k hz (by omega)
      by_cases hz : cmv σ L j = 0
      · rw [if_neg (not_not_intro hz), ae_L_arePlayers_37]
        refine wq_i (lp_echo rfl ha hZ3) (by omega) fun M4 hZ4 => ?_
        simp only [am_tl_s]
        rw [ae_L_arePlayers_48, if_neg (hes.mp hz), ae_L_arePlayers_51, if_neg (by decide)]
        exact wq_k (h59 M4 hZ4) (by omega)
      · have hz2 : am_it (av_es L (nI a)) L.length 0 = 0 := Classical.not_not.mp fun w => hz (hes.mpr w)
        rw [if_pos hz, ae_L_arePlayers_41]
        refine wq_i (lp_echo rfl ha hZ3) (by omega) fun M4 hZ4 => ?_
        simp only [am_tl_s]
        rw [ae_L_arePlayers_48, if_pos hz2, ae_L_arePlayers_55, if_neg (by decide)]
        exact wq_k (h59 M4 hZ4) (by omega)
  rw [ae_L_arePlayers_0, ← nI_0]
  exact wq_k (key (av_np σ) 0 (Nat.zero_add _) _ _ _ _ _ _ _ _ M hZ) (by omega)
end
