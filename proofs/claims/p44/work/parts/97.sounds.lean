/-! the law's look at the sounds -/
section
variable {Lx bd : Nat} {xs : Nat → Int32} {S : Nat → Int64} {σ : Nat → Int32} {L : List (Nat → Int32)} {H : List av_K} {P : Option av_K}
theorem ls_gone {k : Nat} {M : am_M} (hk : k < L.length) (hZ : pZ Lx xs S bd σ L H P M) : wq (am_val iL_goneIn 0 [some (.ref (am_c 0 12)), some (.int (nI k)), none] [] M) 1 (qi (pZ Lx xs S bd σ L H P) (nI (av_gn σ (av_s L k)))) := by
  rw [← aw_gone hk (pZ_np hZ).2.2]
  exact lq_goneIn hZ
theorem ls_goneA {k : Nat} {M : am_M} (hk : k < L.length) (hZ : pZ Lx xs S bd σ L H P M) : wq (am_val iL_goneInAgain 0 [some (.ref (am_c 0 12)), some (.int (nI k)), none] [] M) 1 (qi (pZ Lx xs S bd σ L H P) (nI (av_gn σ (av_s L k)))) := by
  rw [← aw_gone hk (pZ_np hZ).2.2]
  exact lq_goneInAgain hZ
theorem ls_snd {k w : Nat} {x : Int32} {M : am_M} (hk : k < L.length) (hw : w ≤ 4) (hx : x = nI w) (hZ : pZ Lx xs S bd σ L H P M) : wq (am_val iL_soundOf 0 [some (.ref (am_c 0 12)), some (.int (nI k)), some (.int x), none] [] M) 1 (qi (pZ Lx xs S bd σ L H P) (av_s L k w)) := by
  subst hx
  rw [← aw_sound hk (pZ_np hZ).2.2 hw]
  exact lq_soundOf hZ
theorem ls_where {k b : Nat} {x : Int32} {M : am_M} (hk : k < L.length) (hb : b ≤ 20) (hx : x = nI b) (hZ : pZ Lx xs S bd σ L H P M) : wq (am_val iL_where 0 [some (.ref (am_c 0 12)), some (.int (nI k)), some (.int x), none] [] M) 1 (qi (pZ Lx xs S bd σ L H P) (if b < av_gn σ (av_s L k) then av_n σ (av_s L k) b 0 else -75)) := by
  subst hx
  rw [← (aw_where hZ.2.1.1 hk hb).1]
  exact lq_where hZ
theorem ls_loud {k b : Nat} {x : Int32} {M : am_M} (hk : k < L.length) (hb : b ≤ 20) (hx : x = nI b) (hZ : pZ Lx xs S bd σ L H P M) : wq (am_val iL_loudIn 0 [some (.ref (am_c 0 12)), some (.int (nI k)), some (.int x), none] [] M) 1 (qi (pZ Lx xs S bd σ L H P) (if b < av_gn σ (av_s L k) then av_n σ (av_s L k) b 1 else 0)) := by
  subst hx
  rw [← (aw_where hZ.2.1.1 hk hb).2]
  exact lq_loudIn hZ
theorem ls_echo {k : Nat} {M : am_M} (hk : k < L.length) (hZ : pZ Lx xs S bd σ L H P M) : wq (am_val iL_isEcho 0 [some (.ref (am_c 0 12)), some (.int (nI k)), none] [] M) 1 (qi (pZ Lx xs S bd σ L H P) (am_bi (decide (0 < av_s L k 3)))) := by
  rw [← aw_isEcho hk (pZ_np hZ).2.2]
  exact lq_isEcho hZ
/-- from the loudest on -/
theorem as_188 {n b k : Nat} {x4 x5 x6 x7 : Int32} {o9 o10 o11 o12 : Option Value} {K : Nat} {M : am_M} (hn : n = L.length) (hk : k < L.length) (hZ : pZ Lx xs S bd σ L H P M)
    (h : ∀ o4 o5 o6 o7 o8 o9 o10 o11 o12 M', pZ Lx xs S bd σ L H P M' → wq (am_val iL_areSounds 2 [some (.ref (am_c 0 12)), some (.int (nI n)), some (.int (nI b)), some (.int (nI (k + 1))), o4, o5, o6, o7, o8, o9, o10, o11, o12] [] M') K (qi (pZ Lx xs S bd σ L H P) 1)) :
    wq (am_val iL_areSounds 188 [some (.ref (am_c 0 12)), some (.int (nI n)), some (.int (nI b)), some (.int (nI k)), some (.int x4), some (.int x5), some (.int x6), some (.int x7), some (.int 1), o9, o10, o11, o12] [] M) (6 + K) (qi (pZ Lx xs S bd σ L H P) 1) := by
  have hok := hZ.2.1.1
  have hl8 := (pZ_np hZ).2.2
  obtain ⟨a, ha, ra, ea⟩ := aw_loudest hok hk
  rw [ae_L_areSounds_188]
  refine wq_i (a := nI a) (by rw [← ea]; exact lq_loudest hZ) (by omega) fun M1 hZ1 => ?_
  simp only [am_tl_s]
  rw [ae_L_areSounds_200]
  by_cases h0 : k = 0
  · rw [if_neg (show ¬ ¬ nI k = 0 by rw [h0]; decide), ae_L_areSounds_206]
    refine wq_i (ls_snd (w := 1) ha (by decide) rfl hZ1) (by omega) fun M2 hZ2 => ?_
    simp only [am_tl_s]
    rw [ae_L_areSounds_227]
    refine wq_i (ls_snd (w := 1) ha (by decide) rfl hZ2) (by omega) fun M3 hZ3 => ?_
    simp only [am_tl_s]
    rw [ae_L_areSounds_234, if_neg (by decide), Int32.sub_self, ae_L_areSounds_242, if_neg (by decide), ae_L_areSounds_247, if_neg (by decide), ae_L_areSounds_252]
    refine wq_i (ls_echo ha hZ3) (by omega) fun M4 hZ4 => ?_
    simp only [am_tl_s]
    rw [ae_L_areSounds_258]
    refine wq_i (ls_echo ha hZ4) (by omega) fun M5 hZ5 => ?_
    simp only [am_tl_s]
    rw [ae_L_areSounds_264, if_pos (Int32.le_refl _), ae_L_areSounds_269, nI_1]
    exact wq_k (h _ _ _ _ _ _ _ _ _ M5 hZ5) (by omega)
  · obtain ⟨k', rfl⟩ : ∃ k', k = k' + 1 := ⟨k - 1, by omega⟩
    obtain ⟨c, hc, rc, ec⟩ := aw_loudest hok (show k' < L.length by omega)
    have hlt : sd_k L a < sd_k L c := nr_le ha (by omega)
    obtain ⟨p, l, t, -, hl, ht, -, e1, e3, -⟩ := sd_n hok ha
    obtain ⟨p', l', t', -, hl', ht', -, e1', e3', -⟩ := sd_n hok hc
    have hlt2 : l ≤ l' ∧ (l = l' → (0 < av_s L a 3 → 0 < av_s L c 3)) := by
      unfold sd_k at hlt
      rw [e1, e1', am_tn (by omega), am_tn (by omega)] at hlt
      have h1 : (if 0 < av_s L a 3 then 1 else 0 : Nat) ≤ 1 := by split <;> omega
      have h2 : (if 0 < av_s L c 3 then 1 else 0 : Nat) ≤ 1 := by split <;> omega
      refine ⟨by omega, fun e q => ?_⟩
      rw [if_pos q] at hlt
      rcases Nat.eq_zero_or_pos (if 0 < av_s L c 3 then 1 else 0 : Nat) with z | z
      · omega
      · by_cases q2 : 0 < av_s L c 3
        · exact q2
        · rw [if_neg q2] at z
          exact absurd z (Nat.lt_irrefl _)
    have hsub : nI l' - nI l = nI (l' - l) := by
      obtain ⟨d, rfl⟩ : ∃ d, l' = l + d := ⟨l' - l, by omega⟩
      rw [Nat.add_sub_cancel_left, Nat.add_comm, ← nI_add]
      exact Int32.add_sub_cancel _ _
    rw [if_pos (show ¬ nI (k' + 1) = 0 from nI_ne0 (by omega) (by omega)), ae_L_areSounds_211, nI_pred]
    refine wq_i (a := nI c) (by rw [← ec]; exact lq_loudest hZ1) (by omega) fun M2 hZ2 => ?_
    simp only [am_tl_s]
    rw [ae_L_areSounds_218]
    refine wq_i (ls_snd (w := 1) hc (by decide) rfl hZ2) (by omega) fun M3 hZ3 => ?_
    simp only [am_tl_s]
    rw [ae_L_areSounds_227]
    refine wq_i (ls_snd (w := 1) ha (by decide) rfl hZ3) (by omega) fun M4 hZ4 => ?_
    simp only [am_tl_s]
    rw [ae_L_areSounds_234, if_neg (by decide), e1, e1', hsub, ae_L_areSounds_242, if_neg (nI_pos (by omega)), ae_L_areSounds_247]
    by_cases hd : l = l'
    · rw [show l' - l = 0 by omega, if_neg (show ¬ ¬ nI 0 = 0 by decide), ae_L_areSounds_252]
      refine wq_i (ls_echo hc hZ4) (by omega) fun M5 hZ5 => ?_
      simp only [am_tl_s]
      rw [ae_L_areSounds_258]
      refine wq_i (ls_echo ha hZ5) (by omega) fun M6 hZ6 => ?_
      simp only [am_tl_s]
      have hle : am_bi (decide (0 < av_s L a 3)) ≤ am_bi (decide (0 < av_s L c 3)) := by
        by_cases q : 0 < av_s L a 3
        · rw [decide_eq_true q, decide_eq_true (hlt2.2 hd q)]; decide
        · rw [decide_eq_false q]
          cases decide (0 < av_s L c 3) <;> decide
      rw [ae_L_areSounds_264, if_pos hle, ae_L_areSounds_269, nI_1]
      exact wq_k (h _ _ _ _ _ _ _ _ _ M6 hZ6) (by omega)
    · rw [if_pos (show ¬ nI (l' - l) = 0 from nI_ne0 (by omega) (by omega)), ae_L_areSounds_269, nI_1]
      exact wq_k (h _ _ _ _ _ _ _ _ _ M4 hZ4) (by omega)
theorem as_110 {n b k : Nat} {x5 x6 x7 : Int32} {o9 o10 o11 o12 : Option Value} {K : Nat} {M : am_M} (hn : n = L.length) (hk : k < L.length) (hZ : pZ Lx xs S bd σ L H P M)
    (h : ∀ o4 o5 o6 o7 o8 o9 o10 o11 o12 M', pZ Lx xs S bd σ L H P M' → wq (am_val iL_areSounds 2 [some (.ref (am_c 0 12)), some (.int (nI n)), some (.int (nI b)), some (.int (nI (k + 1))), o4, o5, o6, o7, o8, o9, o10, o11, o12] [] M') K (qi (pZ Lx xs S bd σ L H P) 1)) :
    wq (am_val iL_areSounds 110 [some (.ref (am_c 0 12)), some (.int (nI n)), some (.int (nI b)), some (.int (nI k)), some (.int (nI (av_gn σ (av_s L k)))), some (.int x5), some (.int x6), some (.int x7), some (.int 1), o9, o10, o11, o12] [.int (nI (av_gn σ (av_s L k)))] M) (13 + K) (qi (pZ Lx xs S bd σ L H P) 1) := by
  have hok := hZ.2.1.1
  have hl8 := (pZ_np hZ).2.2
  obtain ⟨g1, g2, g3, g4⟩ := av_gn_e hok (hok.2.2.2.2.1 k hk)
  obtain ⟨p, l, t, hp, hl, ht, e0, e1, e3, -⟩ := sd_n hok hk
  have hgl : av_gn σ (av_s L k) ≤ l := by
    obtain ⟨l', q1, q2⟩ := sd_l hok (by omega) e1 l
    rcases Nat.lt_or_ge l (av_gn σ (av_s L k)) with z | z
    · have := (g3 l z).1
      rw [q1, show l' = 0 by omega] at this
      exact absurd rfl this
    · exact z
  rw [ae_L_areSounds_110, if_neg (not_not_intro rfl), ae_L_areSounds_115, if_neg (nI_nle g1 (by omega)), ae_L_areSounds_120]
  refine wq_i (ls_snd (w := 1) hk (by decide) rfl hZ) (by omega) fun M1 hZ1 => ?_
  simp only [am_tl_s]
  rw [ae_L_areSounds_128, e1, if_neg (nI_nlt hgl (by omega)), ae_L_areSounds_131, if_neg (by decide), ae_L_areSounds_136]
  refine wq_i (ls_echo hk hZ1) (by omega) fun M2 hZ2 => ?_
  simp only [am_tl_s]
  rw [ae_L_areSounds_141]
  refine wq_i (ls_snd (w := 3) hk (by decide) rfl hZ2) (by omega) fun M3 hZ3 => ?_
  simp only [am_tl_s]
  have fin : ∀ M, pZ Lx xs S bd σ L H P M → wq (am_val iL_areSounds 158 [some (.ref (am_c 0 12)), some (.int (nI n)), some (.int (nI b)), some (.int (nI k)), some (.int (nI (av_gn σ (av_s L k)))), some (.int x5), some (.int x6), some (.int x7), some (.int 1), o9, o10, o11, o12] [] M) (10 + K) (qi (pZ Lx xs S bd σ L H P) 1) := fun M hZ => by
    rw [ae_L_areSounds_158]
    refine wq_i (ls_where (b := 0) hk (by decide) rfl hZ) (by omega) fun M4 hZ4 => ?_
    rw [if_pos g1, av_n_0]
    simp only [am_tl_s]
    rw [ae_L_areSounds_164]
    refine wq_i (ls_snd (w := 0) hk (by decide) rfl hZ4) (by omega) fun M5 hZ5 => ?_
    simp only [am_tl_s]
    rw [ae_L_areSounds_170, if_neg (not_not_intro rfl), ae_L_areSounds_173]
    refine wq_i (ls_loud (b := 0) hk (by decide) rfl hZ5) (by omega) fun M6 hZ6 => ?_
    rw [if_pos g1, av_n_0]
    simp only [am_tl_s]
    rw [ae_L_areSounds_179]
    refine wq_i (ls_snd (w := 1) hk (by decide) rfl hZ6) (by omega) fun M7 hZ7 => ?_
    simp only [am_tl_s]
    rw [ae_L_areSounds_185, if_neg (not_not_intro rfl)]
    exact wq_k (as_188 hn hk hZ7 h) (by omega)
  rw [ae_L_areSounds_147]
  by_cases q : av_s L k 3 ≤ 0
  · have q2 : ¬ 0 < av_s L k 3 := fun z => Int32.not_le.mpr z q
    rw [if_pos q, ae_L_areSounds_154, decide_eq_false q2, if_neg (show ¬ ¬ am_bi false = 0 by decide)]
    exact wq_k (fin _ hZ3) (by omega)
  · have q2 : 0 < av_s L k 3 := Int32.not_le.mp q
    rw [if_neg q, ae_L_areSounds_150, decide_eq_true q2, if_neg (show ¬ ¬ am_bi true = 1 by decide)]
    exact wq_k (fin _ hZ3) (by omega)
theorem lq_areSounds {b : Nat} {x y : Int32} {M : am_M} (hx : x = nI L.length) (hy : y = nI b) (hb : b ≤ 20) (hZ : pZ Lx xs S bd σ L H P M) : wq (am_val iL_areSounds 0 [some (.ref (am_c 0 12)), some (.int x), some (.int y), none, none, none, none, none, none, none, none, none, none] [] M) 160 (qi (pZ Lx xs S bd σ L H P) 1) := by
  subst hx
  subst hy
  have hl8 := (pZ_np hZ).2.2
  have key : ∀ m k, k + m = L.length → ∀ o4 o5 o6 o7 o8 o9 o10 o11 o12 M, pZ Lx xs S bd σ L H P M → wq (am_val iL_areSounds 2 [some (.ref (am_c 0 12)), some (.int (nI L.length)), some (.int (nI b)), some (.int (nI k)), o4, o5, o6, o7, o8, o9, o10, o11, o12] [] M) (20 * m) (qi (pZ Lx xs S bd σ L H P) 1) := by
    intro m
    induction m with
    | zero =>
      intro k hk o4 o5 o6 o7 o8 o9 o10 o11 o12 M hZ
      obtain rfl : k = L.length := by omega
      rw [ae_L_areSounds_2, if_pos (nI_le (Nat.le_refl _) (by omega)), ae_L_areSounds_275]
      exact wq_e ⟨rfl, hZ⟩
    | succ m ih =>
      intro k hk o4 o5 o6 o7 o8 o9 o10 o11 o12 M hZ
      have hk2 : k < L.length := by omega
      have hok := hZ.2.1.1
      have hcont := fun o4 o5 o6 o7 o8 o9 o10 o11 o12 M' hZ' => ih (k + 1) (by omega) o4 o5 o6 o7 o8 o9 o10 o11 o12 M' hZ'
      obtain ⟨g1, g2, g3, g4⟩ := av_gn_e hok (hok.2.2.2.2.1 k hk2)
      obtain ⟨p, l, t, hp, hl, ht, e0, e1, e3, -⟩ := sd_n hok hk2
      rw [ae_L_areSounds_2, if_neg (nI_ge hk2 (by omega)), ae_L_areSounds_7]
      refine wq_i (ls_gone hk2 hZ) (by omega) fun M1 hZ1 => ?_
      simp only [am_tl_s]
      rw [ae_L_areSounds_12]
      by_cases hg : b < av_gn σ (av_s L k)
      · obtain ⟨-, ⟨p', hp', e0'⟩, ⟨l', t', hl', ht', e1', -⟩, -⟩ := g3 b hg
        obtain ⟨l2, q1, q2⟩ := sd_l hok (by omega) e1 b
        have hl2 : l2 = l' := (nI_eq (by omega) (by omega)).mp (q1.symm.trans e1')
        have hsub : nI l - nI b = nI (l - b) := by
          obtain ⟨d, rfl⟩ : ∃ d, l = b + d := ⟨l - b, by omega⟩
          rw [Nat.add_sub_cancel_left, Nat.add_comm, ← nI_add]
          exact Int32.add_sub_cancel _ _
        rw [if_neg (nI_ge hg (by omega)), ae_L_areSounds_20]
        refine wq_i (ls_where hk2 hb rfl hZ1) (by omega) fun M2 hZ2 => ?_
        rw [if_pos hg, e0']
        simp only [am_tl_s]
        rw [ae_L_areSounds_33]
        refine wq_i (ls_loud hk2 hb rfl hZ2) (by omega) fun M3 hZ3 => ?_
        rw [if_pos hg, e1']
        simp only [am_tl_s]
        rw [ae_L_areSounds_41, if_neg (by decide), ae_L_areSounds_48, if_neg (nI_pos (by omega)), ae_L_areSounds_53, if_neg (show ¬ (16 : Int32) ≤ nI p' from nI_ge (b := 16) hp' (by decide)), ae_L_areSounds_60, if_neg (nI_nle hl' (by omega)), ae_L_areSounds_65]
        refine wq_i (ls_snd (w := 1) hk2 (by decide) rfl hZ3) (by omega) fun M4 hZ4 => ?_
        simp only [am_tl_s]
        rw [ae_L_areSounds_73, e1, hsub, if_neg (nI_nlt (by omega) (by omega)), ae_L_areSounds_78]
        refine wq_i (ls_goneA hk2 hZ4) (by omega) fun M5 hZ5 => ?_
        simp only [am_tl_s]
        exact wq_k (as_110 rfl hk2 hZ5 hcont) (by omega)
      · rw [if_pos (nI_le (by omega) (by omega)), ae_L_areSounds_24]
        refine wq_i (ls_where hk2 hb rfl hZ1) (by omega) fun M2 hZ2 => ?_
        rw [if_neg hg]
        simp only [am_tl_s]
        rw [ae_L_areSounds_33]
        refine wq_i (ls_loud hk2 hb rfl hZ2) (by omega) fun M3 hZ3 => ?_
        rw [if_neg hg]
        simp only [am_tl_s]
        rw [ae_L_areSounds_41, if_pos rfl, ae_L_areSounds_86, if_neg (by decide), ae_L_areSounds_93, if_neg (by decide), ae_L_areSounds_98]
        refine wq_i (ls_goneA hk2 hZ3) (by omega) fun M4 hZ4 => ?_
        simp only [am_tl_s]
        exact wq_k (as_110 rfl hk2 hZ4 hcont) (by omega)
  rw [ae_L_areSounds_0, ← nI_0]
  exact wq_k (key L.length 0 (Nat.zero_add _) _ _ _ _ _ _ _ _ _ M hZ) (by omega)
end
