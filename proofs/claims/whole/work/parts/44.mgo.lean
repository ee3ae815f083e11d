/-! the second implementation: a sound is led on -/
def am_ms (I : Nat → Nat → Int32) (D : Nat) (s : Nat → Int32) : Prop := I (am_c D 13) 18 = s 0 ∧ I (am_c D 13) 19 = s 1 ∧ I (am_c D 13) 20 = s 4 ∧ I (am_c D 13) 21 = s 3
def av_fs (D : Nat) (M M' : am_M) : Prop := M'.2 = M.2 ∧ ∀ x k j, k < 64 → ¬ (x = D ∧ k = 13 ∧ 18 ≤ j ∧ j ≤ 22) → M'.1 (am_c x k) j = M.1 (am_c x k) j
theorem av_fs_fm {D : Nat} {M x : am_M} (h : av_fs D M x) : av_fm D M x := ⟨h.1, fun a k j h1 h2 _ => h.2 a k j h1 (fun hh => h2 ⟨hh.1, hh.2.1, by omega, hh.2.2.2⟩)⟩
theorem av_fs_t {D : Nat} {M x y : am_M} (h : av_fs D M x) (h' : av_fs D x y) : av_fs D M y := ⟨h'.1.trans h.1, fun a k j h1 h2 => (h'.2 a k j h1 h2).trans (h.2 a k j h1 h2)⟩
theorem av_fs_f {D f : Nat} {x : Int32} {M : am_M} (h1 : 18 ≤ f) (h2 : f ≤ 22) : av_fs D M (av_i M (am_c D 13) f x) := ⟨rfl, fun c k j hk h => by
  show am_up M.1 (am_c D 13) f x (am_c c k) j = _
  refine am_up_ak (fun hh => h ?_)
  have e := hh.1
  rw [am_c_inj hk (by decide)] at e
  exact ⟨e.1, e.2, by omega, by omega⟩⟩
theorem av_lft : ∀ a, a < 21 → ∀ b, b < 10 → ¬ nI a ≤ 0 → (nI b ≤ 0 ∨ nI b < nI a / 3) → ¬ nI a - nI b = 0 := by decide +kernel
theorem av_lsn {w d : Int32} (hw : am_wt w (-2) 2 = true) : ∃ c, 1 ≤ c ∧ c ≤ 4 ∧ av_ls w d = nI c := by
  simp only [am_wt, Bool.and_eq_true, decide_eq_true_eq] at hw
  have h1 := Int32.le_iff_toInt_le.mp hw.1
  have h2 := Int32.le_iff_toInt_le.mp hw.2
  rw [show (-2 : Int32).toInt = -2 by decide] at h1
  rw [show (2 : Int32).toInt = 2 by decide] at h2
  have hx : w = -2 ∨ w = -1 ∨ w = 0 ∨ w = 1 ∨ w = 2 := by
    rcases (show w.toInt = -2 ∨ w.toInt = -1 ∨ w.toInt = 0 ∨ w.toInt = 1 ∨ w.toInt = 2 by omega) with h | h | h | h | h
    · exact Or.inl (Int32.toInt_inj.mp (by rw [h]; decide))
    · exact Or.inr (Or.inl (Int32.toInt_inj.mp (by rw [h]; decide)))
    · exact Or.inr (Or.inr (Or.inl (Int32.toInt_inj.mp (by rw [h]; decide))))
    · exact Or.inr (Or.inr (Or.inr (Or.inl (Int32.toInt_inj.mp (by rw [h]; decide)))))
    · exact Or.inr (Or.inr (Or.inr (Or.inr (Int32.toInt_inj.mp (by rw [h]; decide)))))
  unfold av_ls
  by_cases hd : d = 0
  · rw [if_pos hd]
    rcases hx with rfl | rfl | rfl | rfl | rfl
    · exact ⟨1, by decide, by decide, by decide⟩
    · exact ⟨1, by decide, by decide, by decide⟩
    · exact ⟨2, by decide, by decide, by decide⟩
    · exact ⟨3, by decide, by decide, by decide⟩
    · exact ⟨4, by decide, by decide, by decide⟩
  · rw [if_neg hd]
    rcases hx with rfl | rfl | rfl | rfl | rfl
    · exact ⟨4, by decide, by decide, by decide⟩
    · exact ⟨3, by decide, by decide, by decide⟩
    · exact ⟨2, by decide, by decide, by decide⟩
    · exact ⟨1, by decide, by decide, by decide⟩
    · exact ⟨1, by decide, by decide, by decide⟩
theorem av_mx {x : Int32} : (if 1 ≤ x then x else 1) = if 1 < x then x else 1 := by
  by_cases h : 1 < x
  · rw [if_pos h, if_pos (by
      rw [Int32.le_iff_toInt_le]
      have := Int32.lt_iff_toInt_lt.mp h
      omega)]
  · rw [if_neg h]
    by_cases h2 : 1 ≤ x
    · rw [if_pos h2]
      rw [am_nlt] at h
      have a := Int32.le_iff_toInt_le.mp h
      have b := Int32.le_iff_toInt_le.mp h2
      exact Int32.toInt_inj.mp (by omega)
    · rw [if_neg h2]
/-- a sound that may be led on: loud at most 20, times its number, a side -/
def av_gok (s : Nat → Int32) : Prop := (∃ l, l ≤ 20 ∧ s 1 = nI l) ∧ (∃ t, t ≤ 1000 ∧ s 3 = nI t) ∧ (s 4 = 0 ∨ s 4 = 1)
theorem mc_goesOn {D bd : Nat} {σ s : Nat → Int32} {L : List (Nat → Int32)} {M : am_M} (hm : av_msh M.2.1 D) (h2 : M.1 (am_c (D + 1) 18) 2 = σ 2) (hwl : ∀ p, p < 16 → M.1 (am_c (D + 1) 18) (18 + 2 * p) = σ (18 + 2 * p)) (hok : av_ok bd σ L) (hs : am_ms M.1 D s) (hg : av_gok s) :
    ∃ M', am_val iX13_goesOn 0 [some (.ref (am_c D 13)), none, none] [] M = some (.inl (some (.int (am_bi (decide (av_a1 σ s 1 = 0))))), M', 0, 0) ∧ am_ms M'.1 D (av_a1 σ s) ∧ M'.1 (am_c D 13) 22 = (if av_a1 σ s 3 = s 3 then -1 else av_ah s) ∧ av_fs D M M' := by
  obtain ⟨⟨l, hl, hle⟩, ⟨t, ht, hte⟩, hsd⟩ := hg
  obtain ⟨m0, m1, m4, m3⟩ := hs
  obtain ⟨c, hc1, hc4, hce⟩ := av_lsn (d := s 4) hok.2.2.1
  have hh : ∀ X : am_M, X.2 = M.2 → X.1 (am_c (D + 1) 18) = M.1 (am_c (D + 1) 18) → ∀ p, p < 16 → am_val iX13_height 0 [some (.ref (am_c D 13)), some (.int (nI p))] [] X = some (.inl (some (.int (σ (18 + 2 * p)))), X, 0, 0) := by
    intro X x1 x2 p hp
    rw [mc_height (by rw [x1]; exact hm) hp, x2, hwl p hp]
  have hlv : ¬ s 1 - av_ls (σ 2) (s 4) ≤ 0 → ∃ a, a < 21 ∧ s 1 - av_ls (σ 2) (s 4) = nI a := by
    intro h
    rw [hle, hce] at h ⊢
    rw [← av_lec (by omega) (by omega), nI_leI (by omega) (by omega)] at h
    exact ⟨l - c, by omega, pk_sub (by omega)⟩
  obtain ⟨v, hv⟩ : ∃ v, v = s 1 - av_ls (σ 2) (s 4) := ⟨_, rfl⟩
  obtain ⟨M1, hM1⟩ : ∃ M1, M1 = av_i (av_i M (am_c D 13) 22 (-1)) (am_c D 13) 19 v := ⟨_, rfl⟩
  have f1 : av_fs D M M1 := by rw [hM1]; exact av_fs_t (av_fs_f (by decide) (by decide)) (av_fs_f (by decide) (by decide))
  have hS1 : M1.1 (am_c (D + 1) 18) = M.1 (am_c (D + 1) 18) := by rw [hM1, av_isf, av_isf]
  have n18 : M1.1 (am_c D 13) 18 = s 0 := by rw [hM1, av_ifg (by decide), av_ifg (by decide)]; exact m0
  have n19 : M1.1 (am_c D 13) 19 = v := by rw [hM1]; exact av_iff
  have n20 : M1.1 (am_c D 13) 20 = s 4 := by rw [hM1, av_ifg (by decide), av_ifg (by decide)]; exact m4
  have n21 : M1.1 (am_c D 13) 21 = s 3 := by rw [hM1, av_ifg (by decide), av_ifg (by decide)]; exact m3
  have n22 : M1.1 (am_c D 13) 22 = -1 := by rw [hM1, av_ifg (by decide)]; exact av_iff
  have pre : ∃ x1, am_val iX13_goesOn 0 [some (.ref (am_c D 13)), none, none] [] M = if v ≤ 0 then am_val iX13_goesOn 90 [some (.ref (am_c D 13)), some (.int x1), some (.int (av_ah s))] [] M1 else am_val iX13_goesOn 83 [some (.ref (am_c D 13)), some (.int x1), some (.int (av_ah s))] [] M1 := by
    have k0 : ∀ X f v', ¬ f = 20 → (av_i X (am_c D 13) f v').1 (am_c D 13) 20 = X.1 (am_c D 13) 20 := fun X f v' h => av_ifg (fun hh => h hh.symm)
    have k9 : ∀ X v', (av_i X (am_c D 13) 22 v').1 (am_c D 13) 19 = X.1 (am_c D 13) 19 := fun X v' => av_ifg (by decide)
    have k2 : ∀ X f v', (av_i X (am_c D 13) f v').1 (am_c (D + 1) 18) 2 = X.1 (am_c (D + 1) 18) 2 := fun X f v' => by rw [av_isf]
    rcases hsd with hd | hd
    · have hah : av_ah s = s 0 - 1 := by unfold av_ah; rw [if_pos hd]
      have nd : ¬ s 4 = 1 := by rw [hd]; decide
      by_cases hl1 : 1 ≤ 2 + σ 2
      · have e : s 1 - (2 + σ 2) = v := by rw [hv]; unfold av_ls; rw [if_pos hd, ← av_mx, if_pos hl1]
        refine ⟨2 + σ 2, ?_⟩
        simp only [ae_X13_goesOn_0, ae_X13_goesOn_13, ae_X13_goesOn_18, ae_X13_goesOn_24, ae_X13_goesOn_29, ae_X13_goesOn_43, ae_X13_goesOn_47, ae_X13_goesOn_60, ae_X13_goesOn_69, ae_X13_goesOn_83, ae_X13_goesOn_87, ae_X13_goesOn_90, ae_X13_goesOn_97, ae_X13_goesOn_102, ae_X13_goesOn_105, ae_X13_goesOn_110, ae_X13_goesOn_119, ae_X13_goesOn_146, ae_X13_goesOn_161, am_bnx_v, am_bnx_e, am_tl_s, am_tl_n, am_rv_s, am_add_rx, k0, k9, k2, m4, m1, nd, not_true_eq_false, not_false_eq_true, if_true, if_false, am_1n0, or_true, true_or, eq_self, Bool.true_eq_false, Bool.false_eq_true, cond_true, cond_false, hm.1, av_i2, h2, hl1, e, ← hM1, n18, n19, n20, hah, show ¬ (22 : Nat) = 20 by decide, show ¬ (19 : Nat) = 20 by decide]
      · have e : s 1 - 1 = v := by rw [hv]; unfold av_ls; rw [if_pos hd, ← av_mx, if_neg hl1]
        refine ⟨2 + σ 2, ?_⟩
        simp only [ae_X13_goesOn_0, ae_X13_goesOn_13, ae_X13_goesOn_18, ae_X13_goesOn_24, ae_X13_goesOn_29, ae_X13_goesOn_43, ae_X13_goesOn_47, ae_X13_goesOn_60, ae_X13_goesOn_69, ae_X13_goesOn_83, ae_X13_goesOn_87, ae_X13_goesOn_90, ae_X13_goesOn_97, ae_X13_goesOn_102, ae_X13_goesOn_105, ae_X13_goesOn_110, ae_X13_goesOn_119, ae_X13_goesOn_146, ae_X13_goesOn_161, am_bnx_v, am_bnx_e, am_tl_s, am_tl_n, am_rv_s, am_add_rx, k0, k9, k2, m4, m1, nd, not_true_eq_false, not_false_eq_true, if_true, if_false, am_1n0, or_true, true_or, eq_self, Bool.true_eq_false, Bool.false_eq_true, cond_true, cond_false, hm.1, av_i2, h2, hl1, e, ← hM1, n18, n19, n20, hah, show ¬ (22 : Nat) = 20 by decide, show ¬ (19 : Nat) = 20 by decide]
    · have hah : av_ah s = s 0 + 1 := by unfold av_ah; rw [if_neg (by rw [hd]; decide)]
      have nd0 : ¬ s 4 = 0 := by rw [hd]; decide
      by_cases hl1 : 1 ≤ 2 - σ 2
      · have e : s 1 - (2 - σ 2) = v := by rw [hv]; unfold av_ls; rw [if_neg nd0, ← av_mx, if_pos hl1]
        refine ⟨2 - σ 2, ?_⟩
        simp only [ae_X13_goesOn_0, ae_X13_goesOn_13, ae_X13_goesOn_18, ae_X13_goesOn_24, ae_X13_goesOn_29, ae_X13_goesOn_43, ae_X13_goesOn_47, ae_X13_goesOn_60, ae_X13_goesOn_69, ae_X13_goesOn_83, ae_X13_goesOn_87, ae_X13_goesOn_90, ae_X13_goesOn_97, ae_X13_goesOn_102, ae_X13_goesOn_105, ae_X13_goesOn_110, ae_X13_goesOn_119, ae_X13_goesOn_146, ae_X13_goesOn_161, am_bnx_v, am_bnx_e, am_tl_s, am_tl_n, am_rv_s, am_add_rx, k0, k9, k2, m4, m1, hd, not_true_eq_false, not_false_eq_true, if_true, if_false, am_1n0, or_true, true_or, eq_self, Bool.true_eq_false, Bool.false_eq_true, cond_true, cond_false, hm.1, av_i2, h2, hl1, e, ← hM1, n18, n19, n20, hah, show ¬ (22 : Nat) = 20 by decide, show ¬ (19 : Nat) = 20 by decide]
      · have e : s 1 - 1 = v := by rw [hv]; unfold av_ls; rw [if_neg nd0, ← av_mx, if_neg hl1]
        refine ⟨2 - σ 2, ?_⟩
        simp only [ae_X13_goesOn_0, ae_X13_goesOn_13, ae_X13_goesOn_18, ae_X13_goesOn_24, ae_X13_goesOn_29, ae_X13_goesOn_43, ae_X13_goesOn_47, ae_X13_goesOn_60, ae_X13_goesOn_69, ae_X13_goesOn_83, ae_X13_goesOn_87, ae_X13_goesOn_90, ae_X13_goesOn_97, ae_X13_goesOn_102, ae_X13_goesOn_105, ae_X13_goesOn_110, ae_X13_goesOn_119, ae_X13_goesOn_146, ae_X13_goesOn_161, am_bnx_v, am_bnx_e, am_tl_s, am_tl_n, am_rv_s, am_add_rx, k0, k9, k2, m4, m1, hd, not_true_eq_false, not_false_eq_true, if_true, if_false, am_1n0, or_true, true_or, eq_self, Bool.true_eq_false, Bool.false_eq_true, cond_true, cond_false, hm.1, av_i2, h2, hl1, e, ← hM1, n18, n19, n20, hah, show ¬ (22 : Nat) = 20 by decide, show ¬ (19 : Nat) = 20 by decide]
  obtain ⟨x1, pre⟩ := pre
  rw [pre]
  have dead : ∀ q, q = av_mk (s 0) 0 (s 2) (s 3) (s 4) → (∃ M', am_val iX13_goesOn 90 [some (.ref (am_c D 13)), some (.int x1), some (.int (av_ah s))] [] M1 = some (.inl (some (.int (am_bi (decide (q 1 = 0))))), M', 0, 0) ∧ am_ms M'.1 D q ∧ M'.1 (am_c D 13) 22 = (if q 3 = s 3 then -1 else av_ah s) ∧ av_fs D M M') := by
    intro q hq
    refine ⟨av_i M1 (am_c D 13) 19 0, ?_, ⟨?_, ?_, ?_, ?_⟩, ?_, av_fs_t f1 (av_fs_f (by decide) (by decide))⟩
    · rw [hq]
      simp only [ae_X13_goesOn_0, ae_X13_goesOn_13, ae_X13_goesOn_18, ae_X13_goesOn_24, ae_X13_goesOn_29, ae_X13_goesOn_43, ae_X13_goesOn_47, ae_X13_goesOn_60, ae_X13_goesOn_69, ae_X13_goesOn_83, ae_X13_goesOn_87, ae_X13_goesOn_90, ae_X13_goesOn_97, ae_X13_goesOn_102, ae_X13_goesOn_105, ae_X13_goesOn_110, ae_X13_goesOn_119, ae_X13_goesOn_146, ae_X13_goesOn_161]
      rfl
    · rw [hq, av_ifg (by decide)]; exact n18
    · rw [hq, av_iff]; rfl
    · rw [hq, av_ifg (by decide)]; exact n20
    · rw [hq, av_ifg (by decide)]; exact n21
    · rw [hq, av_ifg (by decide), n22]
      show _ = if s 3 = s 3 then (-1 : Int32) else av_ah s
      rw [if_pos rfl]
  by_cases c1 : v ≤ 0
  · rw [if_pos c1]
    exact dead _ (by unfold av_a1 av_adv; rw [← hv, if_pos c1])
  · rw [if_neg c1]
    obtain ⟨a, ha21, hva⟩ := hlv (by rw [← hv]; exact c1)
    rw [← hv] at hva
    cases c2 : am_pl (av_ah s) with
    | false =>
      obtain ⟨M', g1, g2⟩ := dead (av_a1 σ s) (by unfold av_a1 av_adv; rw [← hv, if_neg c1, if_pos c2])
      refine ⟨M', ?_, g2⟩
      rw [ae_X13_goesOn_83]
      simp only [mc_isPlace, c2, am_bi_f, am_bnx_v, am_tl_s]
      rw [ae_X13_goesOn_87, if_neg (by decide)]
      exact g1
    | true =>
      obtain ⟨p, hp, hpe⟩ := am_pl_n c2
      obtain ⟨b, hb, hbe, -⟩ := hok.1 p hp
      have hfe : av_hf σ (av_ah s) = nI b := by rw [hpe, av_hf_n hp, hbe]
      have hgt : ∀ X : am_M, X.2 = M.2 → X.1 (am_c (D + 1) 18) = M.1 (am_c (D + 1) 18) → am_val iX13_height 0 [some (.ref (am_c D 13)), some (.int (av_ah s))] [] X = some (.inl (some (.int (nI b))), X, 0, 0) := by
        intro X x1 x2
        rw [hpe, hh X x1 x2 p hp, hbe]
      have g1 := hgt M1 f1.1 hS1
      have g2 := hgt (av_i M1 (am_c D 13) 18 (av_ah s)) (by rw [av_i2]; exact f1.1) (by rw [av_isf]; exact hS1)
      have go : ∀ q, q = av_mk (av_ah s) (v - nI b) (s 2) (s 3) (s 4) → (nI b ≤ 0 ∨ nI b < v / 3) → (∃ M', am_val iX13_goesOn 83 [some (.ref (am_c D 13)), some (.int x1), some (.int (av_ah s))] [] M1 = some (.inl (some (.int (am_bi (decide (q 1 = 0))))), M', 0, 0) ∧ am_ms M'.1 D q ∧ M'.1 (am_c D 13) 22 = (if q 3 = s 3 then -1 else av_ah s) ∧ av_fs D M M') := by
        intro q hq hlt
        have hne : ¬ v - nI b = 0 := by rw [hva] at c1 hlt ⊢; exact av_lft a ha21 b (by omega) c1 hlt
        have k9 : (av_i M1 (am_c D 13) 18 (av_ah s)).1 (am_c D 13) 19 = v := by rw [av_ifg (by decide)]; exact n19
        refine ⟨av_i (av_i M1 (am_c D 13) 18 (av_ah s)) (am_c D 13) 19 (v - nI b), ?_, ⟨?_, ?_, ?_, ?_⟩, ?_, av_fs_t f1 (av_fs_t (av_fs_f (by decide) (by decide)) (av_fs_f (by decide) (by decide)))⟩
        · rw [hq, show av_mk (av_ah s) (v - nI b) (s 2) (s 3) (s 4) 1 = v - nI b from rfl, decide_eq_false hne]
          by_cases hb0 : nI b ≤ 0
          · simp only [ae_X13_goesOn_0, ae_X13_goesOn_13, ae_X13_goesOn_18, ae_X13_goesOn_24, ae_X13_goesOn_29, ae_X13_goesOn_43, ae_X13_goesOn_47, ae_X13_goesOn_60, ae_X13_goesOn_69, ae_X13_goesOn_83, ae_X13_goesOn_87, ae_X13_goesOn_90, ae_X13_goesOn_97, ae_X13_goesOn_102, ae_X13_goesOn_105, ae_X13_goesOn_110, ae_X13_goesOn_119, ae_X13_goesOn_146, ae_X13_goesOn_161, am_bnx_v, am_bnx_e, am_tl_s, am_tl_n, am_rv_s, am_add_rx, mc_isPlace, c2, am_bi_t, am_bi_f, not_true_eq_false, not_false_eq_true, if_true, if_false, am_1n0, or_true, true_or, eq_self, Bool.true_eq_false, Bool.false_eq_true, cond_true, cond_false, g1, hb0, g2, k9]
          · have hlt' := hlt.resolve_left hb0
            simp only [ae_X13_goesOn_0, ae_X13_goesOn_13, ae_X13_goesOn_18, ae_X13_goesOn_24, ae_X13_goesOn_29, ae_X13_goesOn_43, ae_X13_goesOn_47, ae_X13_goesOn_60, ae_X13_goesOn_69, ae_X13_goesOn_83, ae_X13_goesOn_87, ae_X13_goesOn_90, ae_X13_goesOn_97, ae_X13_goesOn_102, ae_X13_goesOn_105, ae_X13_goesOn_110, ae_X13_goesOn_119, ae_X13_goesOn_146, ae_X13_goesOn_161, am_bnx_v, am_bnx_e, am_tl_s, am_tl_n, am_rv_s, am_add_rx, mc_isPlace, c2, am_bi_t, am_bi_f, not_true_eq_false, not_false_eq_true, if_true, if_false, am_1n0, or_true, true_or, eq_self, Bool.true_eq_false, Bool.false_eq_true, cond_true, cond_false, g1, hb0, n19, hlt', g2, k9]
        · rw [hq, av_ifg (by decide)]; exact av_iff
        · rw [hq, av_iff]; rfl
        · rw [hq, av_ifg (by decide), av_ifg (by decide)]; exact n20
        · rw [hq, av_ifg (by decide), av_ifg (by decide)]; exact n21
        · rw [hq, av_ifg (by decide), av_ifg (by decide), n22]
          show _ = if s 3 = s 3 then (-1 : Int32) else av_ah s
          rw [if_pos rfl]
      by_cases c3 : nI b ≤ 0
      · exact go _ (by unfold av_a1 av_adv; rw [← hv, if_neg c1, if_neg (show ¬ am_pl (av_ah s) = false by rw [c2]; decide), hfe, if_pos c3]) (Or.inl c3)
      · by_cases c4 : nI b < v / 3
        · exact go _ (by unfold av_a1 av_adv; rw [← hv, if_neg c1, if_neg (show ¬ am_pl (av_ah s) = false by rw [c2]; decide), hfe, if_neg c3, if_pos c4]) (Or.inr c4)
        · have hq : av_a1 σ s = av_mk (s 0) v (s 2) (s 3 + 1) (if s 4 = 0 then 1 else 0) := by
            unfold av_a1 av_adv
            rw [← hv, if_neg c1, if_neg (show ¬ am_pl (av_ah s) = false by rw [c2]; decide), hfe, if_neg c3, if_neg c4]
          have hv0 : ¬ v = 0 := fun h => c1 (by rw [h]; decide)
          have h3 : ¬ s 3 + 1 = s 3 := by
            rw [hte, nI_1]
            intro h
            have := (nI_eq (by omega) (by omega)).mp h
            omega
          have hside : (1 : Int32) - s 4 = if s 4 = 0 then 1 else 0 := by
            rcases hsd with hd | hd <;> rw [hd] <;> decide
          have k20 : (av_i M1 (am_c D 13) 22 (av_ah s)).1 (am_c D 13) 20 = s 4 := by rw [av_ifg (by decide)]; exact n20
          have k21 : ∀ y, (av_i (av_i M1 (am_c D 13) 22 (av_ah s)) (am_c D 13) 20 y).1 (am_c D 13) 21 = s 3 := fun y => by rw [av_ifg (by decide), av_ifg (by decide)]; exact n21
          refine ⟨av_i (av_i (av_i M1 (am_c D 13) 22 (av_ah s)) (am_c D 13) 20 (1 - s 4)) (am_c D 13) 21 (s 3 + 1), ?_, ⟨?_, ?_, ?_, ?_⟩, ?_, av_fs_t f1 (av_fs_t (av_fs_f (by decide) (by decide)) (av_fs_t (av_fs_f (by decide) (by decide)) (av_fs_f (by decide) (by decide))))⟩
          · rw [hq, show av_mk (s 0) v (s 2) (s 3 + 1) (if s 4 = 0 then 1 else 0) 1 = v from rfl, decide_eq_false hv0]
            simp only [ae_X13_goesOn_0, ae_X13_goesOn_13, ae_X13_goesOn_18, ae_X13_goesOn_24, ae_X13_goesOn_29, ae_X13_goesOn_43, ae_X13_goesOn_47, ae_X13_goesOn_60, ae_X13_goesOn_69, ae_X13_goesOn_83, ae_X13_goesOn_87, ae_X13_goesOn_90, ae_X13_goesOn_97, ae_X13_goesOn_102, ae_X13_goesOn_105, ae_X13_goesOn_110, ae_X13_goesOn_119, ae_X13_goesOn_146, ae_X13_goesOn_161, am_bnx_v, am_bnx_e, am_tl_s, am_tl_n, am_rv_s, am_add_rx, mc_isPlace, c2, am_bi_t, am_bi_f, not_true_eq_false, not_false_eq_true, if_true, if_false, am_1n0, or_true, true_or, eq_self, Bool.true_eq_false, Bool.false_eq_true, cond_true, cond_false, g1, c3, n19, c4, k20, k21]
          · rw [hq, av_ifg (by decide), av_ifg (by decide), av_ifg (by decide)]; exact n18
          · rw [hq, av_ifg (by decide), av_ifg (by decide), av_ifg (by decide)]; exact n19
          · rw [hq, av_ifg (by decide), av_iff]; exact hside
          · rw [hq, av_iff]; rfl
          · rw [hq, av_ifg (by decide), av_ifg (by decide), av_iff]
            show _ = if s 3 + 1 = s 3 then (-1 : Int32) else av_ah s
            rw [if_neg h3]
