/-! the law's orders as a text -/
theorem tA_tf {M0 M X : am_M} {b v cnt : Nat} (h : tA M0 b v cnt M) (f : tf M.2.2.2.2.1 M X) (hz : fz X) : tA M0 b v cnt X := by
  obtain ⟨h1, t, z, ⟨q1, q2⟩, q3, q4⟩ := h
  have h9 := f.2.2.2
  exact ⟨sb_tf h1 f q3 q4, tf_t t f t.2.2.2, hz, ⟨q1, q2⟩, by omega, by omega⟩
theorem tA_a' {M0 M : am_M} {b v cnt cnt' i : Nat} (h : tA M0 b v cnt M) (hi : i < 8) (hc : cnt + am_sn i ≤ 16) (he : cnt + am_sn i = cnt') : wq (am_val iJ4_append_15ec4 0 [some (.ref (am_c b 15)), some (.ref (am_c i 45))] [] M) 0 (qr (tA M0 b v cnt') (.ref (am_c b 15))) := by
  subst he
  exact tA_a h hi hc
theorem tA_s' {M0 M : am_M} {b v cnt cnt' s w k n : Nat} (h : tA M0 b v cnt M) (ht : ts M s w k n) (hk : sk k n) (hn6 : n ≤ 6) (hn4 : n ≠ 4) (hc : cnt + n ≤ 16) (he : cnt + n = cnt') : wq (am_val iJ4_append_15ec4 0 [some (.ref (am_c b 15)), some (.ref (am_c s 13))] [] M) 0 (qr (tA M0 b v cnt') (.ref (am_c b 15))) := by
  subst he
  exact tA_s h ht hk hn6 hn4 hc
section
variable {Lx bd : Nat} {xs : Nat → Int32} {S : Nat → Int64} {σ : Nat → Int32} {L : List (Nat → Int32)} {H : List av_K} {P : Option av_K}
theorem ld_431 {M0 M : am_M} {b v cnt k : Nat} {x1 x2 x4 x5 x6 : Int32} (hZ : pZ Lx xs S bd σ L H P M0) (h : tA M0 b v cnt M) (hk : sk k cnt) (hbd : bd + 1240 < 1000000000) :
    wq (am_val iL_does 431 [some (.ref (am_c 0 44)), some (.int x1), some (.int x2), some (.ref (am_c 0 12)), some (.int x4), some (.int x5), some (.int x6)] [.ref (am_c b 15), .ref (am_c 0 12)] M) 3 (qd Lx xs S bd σ L H P) := by
  rw [ae_L_does_431]
  have hn := hZ.1.2.1
  refine wq_c (tA_str h hk) (by decide) fun v9 X hv => ?_
  obtain ⟨s, w, rfl, ht, f, hz, q1, q2⟩ := hv
  simp only [am_tl_s]
  rw [ae_L_does_434]
  refine wq_c (lq_reads hk (by omega) (by omega) ht (pZ_tf hZ f (by omega) hz) hbd) (by decide) fun v9 X hv => ?_
  rcases hv with ⟨r, hr, rfl, z⟩ | ⟨qs, a1, a2, a3, rfl, z⟩
  · simp only [am_tl_s]
    rw [ae_L_does_437]
    exact wq_e (Or.inl ⟨r, hr, rfl, z⟩)
  · simp only [am_tl_s]
    rw [ae_L_does_437]
    exact wq_e (Or.inr ⟨qs, a1, a2, a3, rfl, z⟩)
theorem sn_2 : am_sn 0 = 2 ∧ am_sn 1 = 2 ∧ am_sn 2 = 2 ∧ am_sn 3 = 1 ∧ am_sn 4 = 2 ∧ am_sn 5 = 1 ∧ am_sn 6 = 2 ∧ am_sn 7 = 1 := by decide
theorem jt_l_1 {m : Nat} (h : m < 10) : jt_l m = 1 := if_pos h
/-- the last append of a text of its own, and what follows -/
theorem ld_fin {M0 Mi X : am_M} {b v s w k n : Nat} {x1 x2 x4 x5 x6 : Int32} (hZ : pZ Lx xs S bd σ L H P M0) (h : tA M0 b v 3 Mi) (f : tf Mi.2.2.2.2.1 Mi X) (hz : fz X) (ht : ts X s w k n) (hk : sk k n) (hn : n = 3 ∨ n = 5 ∨ n = 6) (hbd : bd + 1240 < 1000000000) :
    wq (am_bnx (am_val iJ4_append_15ec4 0 [some (.ref (am_c b 15)), some (.ref (am_c s 13))] [] X) (fun v M1 => am_val iL_does 431 [some (.ref (am_c 0 44)), some (.int x1), some (.int x2), some (.ref (am_c 0 12)), some (.int x4), some (.int x5), some (.int x6)] (am_tl v [.ref (am_c 0 12)]) M1) am_rx) 3 (qd Lx xs S bd σ L H P) := by
  have hA := tA_tf h f hz
  rcases hn with rfl | rfl | rfl
  · refine wq_v (tA_s' hA ht hk (by decide) (by decide) (by decide) rfl) (by decide) fun M1 h1 => ?_
    simp only [am_tl_s]
    exact ld_431 (k := 28) hZ h1 (by unfold sk; decide) hbd
  · refine wq_v (tA_s' hA ht hk (by decide) (by decide) (by decide) rfl) (by decide) fun M1 h1 => ?_
    simp only [am_tl_s]
    exact ld_431 (k := 29) hZ h1 (by unfold sk; decide) hbd
  · refine wq_v (tA_s' hA ht hk (by decide) (by decide) (by decide) rfl) (by decide) fun M1 h1 => ?_
    simp only [am_tl_s]
    exact ld_431 (k := 30) hZ h1 (by unfold sk; decide) hbd
theorem ld_1 {M0 M : am_M} {b v vv aa : Nat} {x1 x2 x4 x5 x6 : Int32} (h5 : x5 = nI vv) (hv : vv < 1000) (h4 : x4 = nI aa) (ha : aa < 10) (hZ : pZ Lx xs S bd σ L H P M0) (h : tA M0 b v 3 M) (hbd : bd + 1240 < 1000000000) :
    wq (am_val iL_does 312 [some (.ref (am_c 0 44)), some (.int x1), some (.int x2), some (.ref (am_c 0 12)), some (.int x4), some (.int x5), some (.int x6)] [.ref (am_c b 15), .ref (am_c 0 12)] M) 8 (qd Lx xs S bd σ L H P) := by
  have e20 : 1 + (x5 - x5 / 20 * 20) = nI (1 + vv % 20) := by
    rw [h5, show nI vv - nI vv / 20 * 20 = nI (vv % 20) from nI_rem (n := 20) (by omega) (by decide) (by decide)]
    exact nI_add 1 _
  rw [ae_L_does_312]
  refine wq_add (k := 1) (K := 7) ?_ (by decide) (by decide)
  rw [ae_L_does_315]
  refine wq_c (tA_new h.2.2.1) (by decide) fun v9 M1 q => ?_
  obtain ⟨rfl, h1⟩ := q
  simp only [am_tl_n]
  rw [ae_L_does_319]
  refine wq_v (tA_a' h1 (by decide) (by decide) (cnt' := 2) (by decide)) (by decide) fun M2 h2 => ?_
  simp only [am_tl_s]
  rw [ae_L_does_324]
  refine wq_v (tA_i h2 h4 (by omega) (by decide) (by decide)) (by decide) fun M3 h3 => ?_
  rw [jt_l_1 ha] at h3
  simp only [am_tl_s]
  rw [ae_L_does_329]
  refine wq_v (tA_a' h3 (by decide) (by decide) (cnt' := 4) (by decide)) (by decide) fun M4 h4 => ?_
  simp only [am_tl_s]
  rw [ae_L_does_334]
  refine wq_v (tA_i h4 e20 (by omega) (by decide) (by decide)) (by decide) fun M5 h5 => ?_
  simp only [am_tl_s]
  rw [ae_L_does_344]
  by_cases hl : 1 + vv % 20 < 10
  · rw [jt_l_1 hl] at h5
    refine wq_c (tA_str (k := 21) h5 (by unfold sk; decide)) (by decide) fun v9 X hv => ?_
    obtain ⟨s, w, rfl, ht, f, hz, q1, q2⟩ := hv
    simp only [am_tl_s]
    rw [ae_L_does_347]
    exact wq_k (ld_fin hZ h f hz ht (by unfold sk; decide) (by decide) hbd) (by decide)
  · rw [show jt_l (1 + vv % 20) = 2 from if_neg hl] at h5
    refine wq_c (tA_str (k := 28) h5 (by unfold sk; decide)) (by decide) fun v9 X hv => ?_
    obtain ⟨s, w, rfl, ht, f, hz, q1, q2⟩ := hv
    simp only [am_tl_s]
    rw [ae_L_does_347]
    exact wq_k (ld_fin hZ h f hz ht (by unfold sk; decide) (by decide) hbd) (by decide)
theorem ld_2 {M0 M : am_M} {b v vv pp : Nat} {x1 x2 x4 x5 x6 : Int32} (h5 : x5 = nI vv) (hv : vv < 1000) (h6 : x6 = nI pp) (hp : pp < 17) (hZ : pZ Lx xs S bd σ L H P M0) (h : tA M0 b v 3 M) (hbd : bd + 1240 < 1000000000) :
    wq (am_val iL_does 358 [some (.ref (am_c 0 44)), some (.int x1), some (.int x2), some (.ref (am_c 0 12)), some (.int x4), some (.int x5), some (.int x6)] [.ref (am_c b 15), .ref (am_c 0 12)] M) 8 (qd Lx xs S bd σ L H P) := by
  have e10 : x5 - x5 / 10 * 10 = nI (vv % 10) := by
    rw [h5]
    exact nI_rem (n := 10) (by omega) (by decide) (by decide)
  rw [ae_L_does_358]
  refine wq_add (k := 1) (K := 7) ?_ (by decide) (by decide)
  rw [ae_L_does_361]
  refine wq_c (tA_new h.2.2.1) (by decide) fun v9 M1 q => ?_
  obtain ⟨rfl, h1⟩ := q
  simp only [am_tl_n]
  rw [ae_L_does_365]
  refine wq_v (tA_a' h1 (by decide) (by decide) (cnt' := 2) (by decide)) (by decide) fun M2 h2 => ?_
  simp only [am_tl_s]
  rw [ae_L_does_370]
  refine wq_v (tA_i h2 h6 (by omega) (by decide) (by decide)) (by decide) fun M3 h3 => ?_
  simp only [am_tl_s]
  rw [ae_L_does_375]
  have l10 : jt_l (vv % 10) = 1 := jt_l_1 (by omega)
  by_cases hl : pp < 10
  · rw [jt_l_1 hl] at h3
    refine wq_v (tA_a' h3 (by decide) (by decide) (cnt' := 4) (by decide)) (by decide) fun M4 h4 => ?_
    simp only [am_tl_s]
    rw [ae_L_does_380]
    refine wq_v (tA_i h4 e10 (by omega) (by decide) (by decide)) (by decide) fun M5 h5 => ?_
    rw [l10] at h5
    simp only [am_tl_s]
    rw [ae_L_does_388]
    refine wq_c (tA_str (k := 21) h5 (by unfold sk; decide)) (by decide) fun v9 X hv => ?_
    obtain ⟨s, w, rfl, ht, f, hz, q1, q2⟩ := hv
    simp only [am_tl_s]
    rw [ae_L_does_391]
    exact wq_k (ld_fin hZ h f hz ht (by unfold sk; decide) (by decide) hbd) (by decide)
  · rw [show jt_l pp = 2 from if_neg hl] at h3
    refine wq_v (tA_a' h3 (by decide) (by decide) (cnt' := 5) (by decide)) (by decide) fun M4 h4 => ?_
    simp only [am_tl_s]
    rw [ae_L_does_380]
    refine wq_v (tA_i h4 e10 (by omega) (by decide) (by decide)) (by decide) fun M5 h5 => ?_
    rw [l10] at h5
    simp only [am_tl_s]
    rw [ae_L_does_388]
    refine wq_c (tA_str (k := 28) h5 (by unfold sk; decide)) (by decide) fun v9 X hv => ?_
    obtain ⟨s, w, rfl, ht, f, hz, q1, q2⟩ := hv
    simp only [am_tl_s]
    rw [ae_L_does_391]
    exact wq_k (ld_fin hZ h f hz ht (by unfold sk; decide) (by decide) hbd) (by decide)
theorem ld_3 {M0 M : am_M} {b v aa : Nat} {x1 x2 x4 x5 x6 : Int32} (h4 : x4 = nI aa) (ha : aa < 10) (hZ : pZ Lx xs S bd σ L H P M0) (h : tA M0 b v 3 M) (hbd : bd + 1240 < 1000000000) :
    wq (am_val iL_does 402 [some (.ref (am_c 0 44)), some (.int x1), some (.int x2), some (.ref (am_c 0 12)), some (.int x4), some (.int x5), some (.int x6)] [.ref (am_c b 15), .ref (am_c 0 12)] M) 8 (qd Lx xs S bd σ L H P) := by
  rw [ae_L_does_402]
  refine wq_add (k := 1) (K := 7) ?_ (by decide) (by decide)
  rw [ae_L_does_405]
  refine wq_c (tA_new h.2.2.1) (by decide) fun v9 M1 q => ?_
  obtain ⟨rfl, h1⟩ := q
  simp only [am_tl_n]
  rw [ae_L_does_409]
  refine wq_v (tA_a' h1 (by decide) (by decide) (cnt' := 2) (by decide)) (by decide) fun M2 h2 => ?_
  simp only [am_tl_s]
  rw [ae_L_does_414]
  refine wq_v (tA_i h2 h4 (by omega) (by decide) (by decide)) (by decide) fun M3 h3 => ?_
  rw [jt_l_1 ha] at h3
  simp only [am_tl_s]
  rw [ae_L_does_419]
  refine wq_c (tA_str (k := 19) h3 (by unfold sk; decide)) (by decide) fun v9 X hv => ?_
  obtain ⟨s, w, rfl, ht, f, hz, q1, q2⟩ := hv
  simp only [am_tl_s]
  rw [ae_L_does_422]
  exact wq_k (ld_fin hZ h f hz ht (by unfold sk; decide) (by decide) hbd) (by decide)
theorem ld_272 {M : am_M} {vv aa pp : Nat} {x1 x2 x4 x5 x6 : Int32} (h5 : x5 = nI vv) (hv : vv < 1000) (h4 : x4 = nI aa) (ha : aa < 10) (h6 : x6 = nI pp) (hp : pp < 17) (hZ : pZ Lx xs S bd σ L H P M) (hbd : bd + 1240 < 1000000000) :
    wq (am_val iL_does 272 [some (.ref (am_c 0 44)), some (.int x1), some (.int x2), some (.ref (am_c 0 12)), some (.int x4), some (.int x5), some (.int x6)] [] M) 12 (qd Lx xs S bd σ L H P) := by
  have e4 : x5 - x5 / 4 * 4 = nI (vv % 4) := by
    rw [h5]
    exact nI_rem (n := 4) (by omega) (by decide) (by decide)
  have e5 : x5 - x5 / 5 * 5 = nI (vv % 5) := by
    rw [h5]
    exact nI_rem (n := 5) (by omega) (by decide) (by decide)
  rw [ae_L_does_272]
  refine wq_add (k := 1) (K := 11) ?_ (by decide) (by decide)
  rw [ae_L_does_276]
  refine wq_c (tA_new (pL_fz hZ.1)) (by decide) fun v9 M1 q => ?_
  obtain ⟨rfl, h1⟩ := q
  simp only [am_tl_n]
  rw [ae_L_does_280]
  refine wq_v (tA_a' h1 (by decide) (by decide) (cnt' := 2) (by decide)) (by decide) fun M2 h2 => ?_
  simp only [am_tl_s]
  rw [ae_L_does_285]
  refine wq_v (tA_i h2 e4 (by omega) (by decide) (by decide)) (by decide) fun M3 h3 => ?_
  rw [jt_l_1 (show vv % 4 < 10 by omega)] at h3
  simp only [am_tl_s]
  have hne : ∀ c, c < 5 → (nI (vv % 5) = nI c) → vv % 5 = c := fun c hc e => (nI_eq (by omega) (by omega)).mp e
  rw [ae_L_does_292, e5]
  by_cases q0 : vv % 5 = 0
  · rw [q0, if_neg (show ¬ ¬ nI 0 = 0 from not_not_intro rfl), ae_L_does_299]
    refine wq_v (tA_a' h3 (by decide) (by decide) (cnt' := 5) (by decide)) (by decide) fun M4 h4 => ?_
    simp only [am_tl_s]
    exact wq_k (ld_431 (k := 21) hZ h4 (by unfold sk; decide) hbd) (by decide)
  rw [if_pos (show ¬ nI (vv % 5) = 0 from fun e => q0 (hne 0 (by decide) e)), ae_L_does_304, e5]
  by_cases q1 : vv % 5 = 1
  · rw [q1, if_neg (show ¬ ¬ nI 1 = 1 from not_not_intro rfl)]
    exact wq_k (ld_1 h5 hv h4 ha hZ h3 hbd) (by decide)
  rw [if_pos (show ¬ nI (vv % 5) = 1 from fun e => q1 (hne 1 (by decide) e)), ae_L_does_350, e5]
  by_cases q2 : vv % 5 = 2
  · rw [q2, if_neg (show ¬ ¬ nI 2 = 2 from not_not_intro rfl)]
    exact wq_k (ld_2 h5 hv h6 hp hZ h3 hbd) (by decide)
  rw [if_pos (show ¬ nI (vv % 5) = 2 from fun e => q2 (hne 2 (by decide) e)), ae_L_does_394, e5]
  by_cases q3 : vv % 5 = 3
  · rw [q3, if_neg (show ¬ ¬ nI 3 = 3 from not_not_intro rfl)]
    exact wq_k (ld_3 h4 ha hZ h3 hbd) (by decide)
  rw [if_pos (show ¬ nI (vv % 5) = 3 from fun e => q3 (hne 3 (by decide) e)), ae_L_does_425]
  refine wq_v (tA_a' h3 (by decide) (by decide) (cnt' := 4) (by decide)) (by decide) fun M4 h4 => ?_
  simp only [am_tl_s]
  exact wq_k (ld_431 (k := 20) hZ h4 (by unfold sk; decide) hbd) (by decide)
end
