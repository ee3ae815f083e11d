/-! the law's look at all: what is compared -/
theorem fp_c : ∀ c, c < 8 → ∀ s, s < 9 → (Op.cmpValue (FP.fcmp (FP.fdiv (FP.i2f (nI s)) (FP.i2f (nI (c + 1)))) (FP.fdiv (FP.i2f (nI s)) (FP.i2f (nI (c + 1))))) .l) = 0 := by decide +kernel
theorem fp_m : (Op.cmpValue (FP.dcmp 13858279740860792832 13858279740860792832) .l) = 0 ∧ (Op.cmpValue (FP.fcmp 3264479232 3264479232) .l) = 0 := by decide +kernel
theorem mk_0 {f : Nat → Bool} : ∀ n, (∀ k, k < n → f k = false) → mk f n = 0 := by
  intro n
  induction n with
  | zero => intro _; rfl
  | succ n ih =>
    intro h
    rw [mk_s, h n (Nat.lt_succ_self _)]
    exact ih fun k hk => h k (by omega)
theorem pts_ok {p a b : Nat} (hp : p < 1000000000) (ha : a ≤ b) (hb : b < 1000000000) : ¬ nI p < nI p - nI a ∧ ¬ nI p - nI a + nI b < nI p := by
  have e : (nI p - nI a).toInt = (p : Int) - (a : Int) := by
    rw [Int32.toInt_sub, nI_toInt (by omega), nI_toInt (by omega)]
    exact p_bm (by omega) (by omega)
  have e2 : (nI p - nI a + nI b).toInt = (p : Int) - (a : Int) + (b : Int) := by
    rw [Int32.toInt_add, e, nI_toInt (by omega)]
    exact p_bm (by omega) (by omega)
  have e3 : (nI p).toInt = (p : Int) := nI_toInt (by omega)
  refine ⟨fun h => ?_, fun h => ?_⟩
  · rw [Int32.lt_iff_toInt_lt, e, e3] at h
    omega
  · rw [Int32.lt_iff_toInt_lt, e2, e3] at h
    omega
section
variable {Lx bd : Nat} {xs : Nat → Int32} {S : Nat → Int64} {σ : Nat → Int32} {L : List (Nat → Int32)} {H : List av_K} {P : Option av_K}
theorem wh_427 {x2 x3 x18 : Int32} {M : am_M} (hi : iw bd σ) (hbd : bd < 300000000) (hZ : pZ Lx xs S bd σ L H P M) :
    wq (am_val iL_isWhole 427 [some (.ref (am_c 0 12)), some (.ref (am_c 0 44)), some (.int x2), some (.int x3), some (.int (nI (av_np σ))), some (.int (nI L.length)), some (.int (nI (nc (fun k => decide (0 < av_s L k 3)) L.length))), some (.int (av_sum (fun k => av_s L k 1) L.length)), some (.int (mk (pa L 16) L.length)), some (.int (nI (nc (fun q => decide (0 < σ (18 + 2 * q))) 16))), some (.int (nI (nc (fun q => !decide (σ (19 + 2 * q) < 0)) 16))), some (.int (nI (16 + nc (fun q => !decide (σ (19 + 2 * q) < 0)) 16))), some (.int (0 + av_cpl σ (nI 0) + av_cpl σ (nI 1) + av_cpl σ (nI 2))), some (.int (0 + σ (9 + 3 * 0) + σ (9 + 3 * 1) + σ (9 + 3 * 2))), some (.int (0 + av_cs L (nI 0) + av_cs L (nI 1) + av_cs L (nI 2))), some (.int (0 + av_cw σ (nI 0) + av_cw σ (nI 1) + av_cw σ (nI 2))), some (.int (av_sum (fun p => σ (53 + 5 * p)) (av_np σ))), some (.int (av_sum (fun p => σ (54 + 5 * p)) (av_np σ))), some (.int x18), none] [] M) 20 (qi (pZ Lx xs S bd σ L H P) 1) := by
  have hok := hZ.2.1.1
  obtain ⟨hn0, h6, hl8⟩ := pZ_np hZ
  obtain ⟨i1, ⟨a, b, hab, hb, ea, eb⟩, -, i4, i5, -⟩ := hi
  have ec : ∀ (f : Nat → Bool) n, am_cnt f n = nI (nc f n) := fun f n => am_cnt_nc n
  have v12 : (0 + av_cpl σ (nI 0) + av_cpl σ (nI 1) + av_cpl σ (nI 2)) = nI (av_np σ) := by
    unfold av_cpl
    rw [ec, ec, ec, Int32.zero_add, nI_add, nI_add, nc_3 (g := fun p => σ (50 + 5 * p)) (av_np σ) fun k hk => (hok.2.2.2.1 k hk).1]
  have v14 : (0 + av_cs L (nI 0) + av_cs L (nI 1) + av_cs L (nI 2)) = nI L.length := by
    unfold av_cs
    rw [ec, ec, ec, Int32.zero_add, nI_add, nI_add, nc_3 (g := fun k => av_s L k 2) L.length fun k hk => (hok.2.2.2.2.1 k hk).2.2.1]
  have v15 : (0 + av_cw σ (nI 0) + av_cw σ (nI 1) + av_cw σ (nI 2)) = (nI (nc (fun q => !decide (σ (19 + 2 * q) < 0)) 16)) := by
    unfold av_cw
    rw [ec, ec, ec, Int32.zero_add, nI_add, nI_add, nc_4 (g := fun p => σ (19 + 2 * p)) 16 fun k hk => by
      obtain ⟨h, hh, -, e2⟩ := hok.1 k hk
      rcases e2 with z | ⟨-, t, ht, z⟩
      · exact Or.inl z
      · exact Or.inr ⟨t, ht, z⟩]
  have w0 : av_cnw σ = (nI (nc (fun q => decide (0 < σ (18 + 2 * q))) 16)) := ec _ _
  have w3 : av_cne L = (nI (nc (fun k => decide (0 < av_s L k 3)) L.length)) := ec _ _
  have wb : am_bc (mk (pa L 16) L.length) = (nI (nc (fun k => decide (0 < av_s L k 3)) L.length)) := by
    rw [mk_bc hl8, nc_c L.length fun k hk => pa_16 hok hk]
  have wl : (tl_n σ 16).length = 16 + nc (fun q => !decide (σ (19 + 2 * q) < 0)) 16 := tl_len hok.1 16 (Nat.le_refl _)
  -- the points
  obtain ⟨p0, q0, z0⟩ := hok.2.1 0 (by decide)
  obtain ⟨p1, q1, z1⟩ := hok.2.1 1 (by decide)
  obtain ⟨p2, q2, z2⟩ := hok.2.1 2 (by decide)
  have z0 : σ 9 = nI p0 := z0
  have z1 : σ 12 = nI p1 := z1
  have z2 : σ 15 = nI p2 := z2
  have v13 : (0 + σ (9 + 3 * 0) + σ (9 + 3 * 1) + σ (9 + 3 * 2)) = nI (p0 + p1 + p2) := by
    show 0 + σ 9 + σ 12 + σ 15 = _
    rw [z0, z1, z2, Int32.zero_add, nI_add, nI_add]
  have vy : 30 + σ 6 - σ 7 = nI (p0 + p1 + p2) - nI a := by
    rw [← nI_add, ← nI_add, ← z0, ← z1, ← z2, ← ea]
    grind
  have ve : σ 9 + σ 12 + σ 15 = 30 + σ 6 + σ 8 - σ 7 := by grind
  obtain ⟨c1, c2⟩ := pts_ok (p := p0 + p1 + p2) (a := a) (b := b) (by omega) hab (by omega)
  obtain ⟨-, -, -, t40, -⟩ := aw_t (σ := σ) (L := L) (t := 0) (by decide)
  obtain ⟨-, -, -, t41, -⟩ := aw_t (σ := σ) (L := L) (t := 1) (by decide)
  obtain ⟨-, -, -, t42, -⟩ := aw_t (σ := σ) (L := L) (t := 2) (by decide)
  rw [ae_L_isWhole_427, v12, if_neg (not_not_intro rfl), ae_L_isWhole_434, v14, if_neg (not_not_intro rfl), ae_L_isWhole_441, v15, if_neg (not_not_intro rfl), ae_L_isWhole_448]
  refine wq_i (lq_acc (a := av_cnw σ) hZ rfl) (by omega) fun M1 hZ1 => ?_
  simp only [am_tl_s]
  rw [ae_L_isWhole_453, w0, if_neg (not_not_intro rfl), ae_L_isWhole_458]
  refine wq_i (lq_acc (a := av_cne L) hZ1 rfl) (by omega) fun M2 hZ2 => ?_
  simp only [am_tl_s]
  rw [ae_L_isWhole_463, w3, if_neg (not_not_intro rfl), ae_L_isWhole_468, wb, if_neg (not_not_intro rfl), ae_L_isWhole_478]
  refine wq_i (lq_acc (a := σ 4) hZ2 rfl) (by omega) fun M3 hZ3 => ?_
  simp only [am_tl_s]
  rw [ae_L_isWhole_484, if_neg (not_not_intro i4), ae_L_isWhole_489]
  refine wq_i (lw_t (t := 0) (w := 4) rfl rfl t40 hZ3) (by omega) fun M4 hZ4 => ?_
  simp only [am_tl_s]
  rw [ae_L_isWhole_495]
  refine wq_i (lw_t (t := 1) (w := 4) rfl rfl t41 hZ4) (by omega) fun M5 hZ5 => ?_
  simp only [am_tl_s]
  rw [ae_L_isWhole_501]
  refine wq_i (lw_t (t := 2) (w := 4) rfl rfl t42 hZ5) (by omega) fun M6 hZ6 => ?_
  simp only [am_tl_s]
  rw [ae_L_isWhole_508, if_neg (not_not_intro i5), ae_L_isWhole_514, v13]
  refine wq_i (lq_acc (a := σ 6) hZ6 rfl) (by omega) fun M7 hZ7 => ?_
  simp only [am_tl_s]
  rw [ae_L_isWhole_524]
  refine wq_i (lq_acc (a := σ 7) hZ7 rfl) (by omega) fun M8 hZ8 => ?_
  simp only [am_tl_s]
  rw [ae_L_isWhole_531, vy, if_neg c1, ae_L_isWhole_535]
  refine wq_i (lq_acc (a := σ 6) hZ8 rfl) (by omega) fun M9 hZ9 => ?_
  simp only [am_tl_s]
  rw [ae_L_isWhole_545]
  refine wq_i (lq_acc (a := σ 7) hZ9 rfl) (by omega) fun M10 hZ10 => ?_
  simp only [am_tl_s]
  rw [ae_L_isWhole_552]
  refine wq_i (lq_acc (a := σ 5) hZ10 rfl) (by omega) fun M11 hZ11 => ?_
  simp only [am_tl_s]
  rw [ae_L_isWhole_559, vy, eb, if_neg c2, ae_L_isWhole_563]
  refine wq_i (lq_line hZ11) (by omega) fun M12 hZ12 => ?_
  simp only [am_tl_s]
  rw [ae_L_isWhole_567, wl, if_neg (not_not_intro rfl), ae_L_isWhole_572, if_neg (show ¬ 8 < nI L.length from nI_nlt (a := 8) hl8 (by decide)), ae_L_isWhole_579, if_neg (show ¬ 6 < nI (av_np σ) from nI_nlt (a := 6) h6 (by decide)), ae_L_isWhole_586]
  refine wq_v (lq_mean hZ12) (by omega) fun M13 hZ13 => ?_
  simp only [am_tl_s]
  rw [ae_L_isWhole_597]
  have hend : ∀ M, pZ Lx xs S bd σ L H P M → wq (am_val iL_isWhole 644 [some (.ref (am_c 0 12)), some (.ref (am_c 0 44)), some (.int x2), some (.int x3), some (.int (nI (av_np σ))), some (.int (nI L.length)), some (.int (nI (nc (fun k => decide (0 < av_s L k 3)) L.length))), some (.int (av_sum (fun k => av_s L k 1) L.length)), some (.int (mk (pa L 16) L.length)), some (.int (nI (nc (fun q => decide (0 < σ (18 + 2 * q))) 16))), some (.int (nI (nc (fun q => !decide (σ (19 + 2 * q) < 0)) 16))), some (.int (nI (16 + nc (fun q => !decide (σ (19 + 2 * q) < 0)) 16))), some (.int (nI (av_np σ))), some (.int (nI (p0 + p1 + p2))), some (.int (nI L.length)), some (.int (nI (nc (fun q => !decide (σ (19 + 2 * q) < 0)) 16))), some (.int (av_sum (fun p => σ (53 + 5 * p)) (av_np σ))), some (.int (av_sum (fun p => σ (54 + 5 * p)) (av_np σ))), some (.int 1), none] [] M) 2 (qi (pZ Lx xs S bd σ L H P) 1) := fun M hZ => by
    rw [ae_L_isWhole_644, if_neg (by decide), ae_L_isWhole_656, if_neg (by decide), ae_L_isWhole_661]
    refine wq_i (lq_isEven hZ) (by omega) fun M1 hZ1 => ?_
    simp only [am_tl_s]
    rw [ae_L_isWhole_665, decide_eq_true ve, if_neg (by decide), ae_L_isWhole_668]
    refine wq_i (a := -75) (by rw [← aw_loudest_n hok]; exact lq_loudest hZ1) (by omega) fun M2 hZ2 => ?_
    simp only [am_tl_s]
    rw [ae_L_isWhole_674, if_neg (by decide), ae_L_isWhole_679]
    exact wq_e ⟨rfl, hZ2⟩
  by_cases hl0 : L.length = 0
  · have e1 : lw_d L = 13858279740860792832 := if_pos hl0
    have e2 : lw_f L = 3264479232 := if_pos hl0
    have e3 : nI L.length = 0 := by rw [hl0]; rfl
    rw [if_neg (not_not_intro e3), ae_L_isWhole_602, e1, if_neg (not_not_intro fp_m.1), ae_L_isWhole_619]
    refine wq_v (lq_share hZ13) (by omega) fun M14 hZ14 => ?_
    simp only [am_tl_s]
    rw [ae_L_isWhole_623, if_neg (not_not_intro e3), ae_L_isWhole_628, e2, if_neg (not_not_intro fp_m.2)]
    exact wq_k (hend _ hZ14) (by omega)
  · have e1 : lw_d L = af_d L := if_neg hl0
    have e2 : lw_f L = af_f L := if_neg hl0
    have e3 : ¬ nI L.length = 0 := nI_ne0 (by omega) (by omega)
    obtain ⟨d1, d2⟩ := af_d_ok hok hl0
    have d2' : (Op.cmpValue (FP.dcmp (af_d L) (FP.ddiv (FP.i2d (av_sum (fun k => av_s L k 1) L.length)) (FP.i2d (nI L.length)))) .l) = 0 := d2
    obtain ⟨d3, -, -⟩ := af_f_ok hok hl0
    have d4 := fp_c (L.length - 1) (by omega) (nc (fun k => decide (0 < av_s L k 3)) L.length) (Nat.lt_succ_of_le (Nat.le_trans (nc_le _) hl8))
    rw [show L.length - 1 + 1 = L.length by omega] at d4
    have e4 : af_f L = FP.fdiv (FP.i2f (nI (nc (fun k => decide (0 < av_s L k 3)) L.length))) (FP.i2f (nI L.length)) := by unfold af_f; rw [w3]
    rw [w3] at d3
    rw [if_pos e3, ae_L_isWhole_608 d1, e1, if_neg (not_not_intro d2'), ae_L_isWhole_619]
    refine wq_v (lq_share hZ13) (by omega) fun M14 hZ14 => ?_
    simp only [am_tl_s]
    rw [ae_L_isWhole_623, if_pos e3, ae_L_isWhole_633 d3, e2, e4, if_neg (not_not_intro d4)]
    exact wq_k (hend _ hZ14) (by omega)
theorem lq_isWhole {j : Nat} {x2 g : Int32} {M : am_M} (hx : x2 = nI j) (hj : j < 1000) (hg : g = 0 ∨ g = 1) (hLx : Lx ≤ 260) (hi : iw bd σ) (hbd : bd < 300000000) (hZ : pZ Lx xs S bd σ L H P M) : wq (am_val iL_isWhole 0 [some (.ref (am_c 0 12)), some (.ref (am_c 0 44)), some (.int x2), some (.int g), none, none, none, none, none, none, none, none, none, none, none, none, none, none, none, none] [] M) 700 (qi (pZ Lx xs S bd σ L H P) 1) := by
  obtain ⟨hn0, h6, hl8⟩ := pZ_np hZ
  rw [ae_L_isWhole_0]
  refine wq_i (lq_acc (a := nI (av_np σ)) hZ hn0) (by omega) fun M1 hZ1 => ?_
  simp only [am_tl_s]
  rw [ae_L_isWhole_5]
  refine wq_i (lq_acc (a := nI L.length) hZ1 rfl) (by omega) fun M2 hZ2 => ?_
  simp only [am_tl_s]
  have h72 : ∀ M, pZ Lx xs S bd σ L H P M → wq (am_val iL_isWhole 72 [some (.ref (am_c 0 12)), some (.ref (am_c 0 44)), some (.int x2), some (.int g), some (.int (nI (av_np σ))), some (.int (nI L.length)), none, none, none, none, none, none, none, none, none, none, none, none, none, none] [] M) 200 (qi (pZ Lx xs S bd σ L H P) 1) := fun M hZ => by
    rw [ae_L_isWhole_72]
    refine wq_k (wh_84 (K := 180) (fun M hZ => ?_) L.length 0 (Nat.zero_add _) M hZ) (by omega)
    rw [ae_L_isWhole_129]
    have hz : mk (pa L 0) L.length = 0 := mk_0 L.length fun k hk => rfl
    have key := wh_142 (Lx := Lx) (bd := bd) (xs := xs) (S := S) (σ := σ) (L := L) (H := H) (P := P) (x2 := x2) (x3 := g) (x6 := nI (nc (fun k => decide (0 < av_s L k 3)) L.length)) (x7 := av_sum (fun k => av_s L k 1) L.length) (K := 110) (Q := qi (pZ Lx xs S bd σ L H P) 1) (fun M hZ => ?_) 16 0 rfl M hZ
    · rw [hz] at key
      exact wq_k key (by decide)
    rw [ae_L_isWhole_226, ← nI_0]
    refine wq_k (wh_team (t := 0) (K := 90) (by decide) hi (by omega) hZ fun M hZ => ?_) (by omega)
    refine wq_k (wh_team (t := 1) (K := 75) (by decide) hi (by omega) hZ fun M hZ => ?_) (by omega)
    refine wq_k (wh_team (t := 2) (K := 60) (by decide) hi (by omega) hZ fun M hZ => ?_) (by omega)
    rw [ae_L_isWhole_241, if_pos (by decide), ae_L_isWhole_364, nI_0]
    exact wq_k (wh_pl (K := 20) hi (fun M hZ => wh_427 hi hbd hZ) (av_np σ) 0 (Nat.zero_add _) M hZ) (by omega)
  rw [ae_L_isWhole_12]
  rcases hg with rfl | rfl
  · rw [if_pos rfl]
    exact wq_k (h72 M2 hZ2) (by omega)
  · obtain ⟨b1, hb1, e1⟩ := lq_pick (Lx := Lx) (xs := xs) (x := x2) (y := 21) (j := j) (n := 21) (M := M2) (by omega) hx rfl (by decide) (by decide) hLx (pZ_s hZ2)
    rw [if_neg (by decide), ae_L_isWhole_18, e1, am_bnx_v]
    simp only [am_tl_s]
    rw [ae_L_isWhole_28]
    refine wq_i (lq_areSounds rfl rfl (by omega) hZ2) (by omega) fun M3 hZ3 => ?_
    simp only [am_tl_s]
    obtain ⟨b2, hb2, e2⟩ := lq_pick (Lx := Lx) (xs := xs) (x := x2 + 1) (y := 20) (j := j + 1) (n := 20) (M := M3) (by omega) (by rw [hx, nI_1]) rfl (by decide) (by decide) hLx (pZ_s hZ3)
    rw [ae_L_isWhole_31, if_neg (by decide), ae_L_isWhole_34, e2, am_bnx_v]
    simp only [am_tl_s]
    rw [ae_L_isWhole_47]
    refine wq_i (lq_arePlayers (l := 1 + b2) rfl (nI_add 1 b2) (by omega) (by omega) hZ3) (by omega) fun M4 hZ4 => ?_
    simp only [am_tl_s]
    obtain ⟨b3, hb3, e3⟩ := lq_pick (Lx := Lx) (xs := xs) (x := x2 + 2) (y := 16) (j := j + 2) (n := 16) (M := M4) (by omega) (by rw [hx]; exact nI_add j 2) rfl (by decide) (by decide) hLx (pZ_s hZ4)
    rw [ae_L_isWhole_51, if_neg (by decide), ae_L_isWhole_54, e3, am_bnx_v]
    simp only [am_tl_s]
    rw [ae_L_isWhole_64]
    refine wq_i (lq_arePlaces rfl hb3 (by omega) hZ4) (by omega) fun M5 hZ5 => ?_
    simp only [am_tl_s]
    rw [ae_L_isWhole_67, if_pos (by decide)]
    exact wq_k (h72 M5 hZ5) (by omega)
end
