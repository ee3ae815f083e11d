/-! the law's look at all: teams, players, what is compared -/
section
variable {Lx bd : Nat} {xs : Nat → Int32} {S : Nat → Int64} {σ : Nat → Int32} {L : List (Nat → Int32)} {H : List av_K} {P : Option av_K}
theorem aw_t {t : Nat} (ht : t < 3) : aw (aq_teamOf σ L (nI t) (nI 1)) = av_cw σ (nI t) ∧ aw (aq_teamOf σ L (nI t) (nI 2)) = av_cpl σ (nI t) ∧ aw (aq_teamOf σ L (nI t) (nI 3)) = av_cs L (nI t) ∧ aw (aq_teamOf σ L (nI t) (nI 4)) = σ (10 + 3 * t) ∧ aw (aq_teamOf σ L (nI t) (nI 5)) = σ (11 + 3 * t) := by
  have c1 : ¬ am_tm (nI t) = false := by rw [am_n_tm ht]; decide
  have e4 : av_tc σ (nI t) = σ (10 + 3 * t) := av_tt_n ht
  have e5 : av_tf5 σ (nI t) = σ (11 + 3 * t) := av_tt_n ht
  unfold aq_teamOf
  rw [← e4, ← e5]
  exact ⟨by rw [if_neg c1]; rfl, by rw [if_neg c1]; rfl, by rw [if_neg c1]; rfl, by rw [if_neg c1]; rfl, by rw [if_neg c1]; rfl⟩
theorem wh_team {t : Nat} {x2 x3 x6 x7 x8 x9 x10 x11 x12 x13 x14 x15 : Int32} {K : Nat} {Q : Option Value → am_M → Prop} {M : am_M} (ht : t < 3) (hi : iw bd σ) (hbd : bd < 1000000000) (hZ : pZ Lx xs S bd σ L H P M)
    (h : ∀ M', pZ Lx xs S bd σ L H P M' → wq (am_val iL_isWhole 241 [some (.ref (am_c 0 12)), some (.ref (am_c 0 44)), some (.int x2), some (.int x3), some (.int (nI (av_np σ))), some (.int (nI L.length)), some (.int x6), some (.int x7), some (.int x8), some (.int x9), some (.int x10), some (.int x11), some (.int (x12 + av_cpl σ (nI t))), some (.int (x13 + σ (9 + 3 * t))), some (.int (x14 + av_cs L (nI t))), some (.int (x15 + av_cw σ (nI t))), some (.int (nI (t + 1))), none, none, none] [] M') K Q) : wq (am_val iL_isWhole 241 [some (.ref (am_c 0 12)), some (.ref (am_c 0 44)), some (.int x2), some (.int x3), some (.int (nI (av_np σ))), some (.int (nI L.length)), some (.int x6), some (.int x7), some (.int x8), some (.int x9), some (.int x10), some (.int x11), some (.int x12), some (.int x13), some (.int x14), some (.int x15), some (.int (nI t)), none, none, none] [] M) (11 + K) Q := by
  have hok := hZ.2.1.1
  obtain ⟨v1, v2, v3, v4, v5⟩ := aw_t (σ := σ) (L := L) ht
  obtain ⟨x, hx, ex⟩ := hok.2.1 t ht
  obtain ⟨a, b, hab, hb, ea, eb⟩ := hi.2.2.2.2.2 t ht
  rw [ae_L_isWhole_241, if_neg (show ¬ 3 ≤ nI t from nI_ge (b := 3) ht (by decide)), ae_L_isWhole_247]
  refine wq_i (lw_t (w := 2) rfl rfl v2 hZ) (by omega) fun M1 hZ1 => ?_
  simp only [am_tl_s]
  rw [ae_L_isWhole_256]
  refine wq_i (lw_t (w := 0) rfl rfl (aw_t0 ht) hZ1) (by omega) fun M2 hZ2 => ?_
  simp only [am_tl_s]
  rw [ae_L_isWhole_268]
  refine wq_i (lw_t (w := 3) rfl rfl v3 hZ2) (by omega) fun M3 hZ3 => ?_
  simp only [am_tl_s]
  rw [ae_L_isWhole_280]
  refine wq_i (lw_t (w := 1) rfl rfl v1 hZ3) (by omega) fun M4 hZ4 => ?_
  simp only [am_tl_s]
  rw [ae_L_isWhole_292]
  refine wq_i (lw_t (w := 0) rfl rfl (aw_t0 ht) hZ4) (by omega) fun M5 hZ5 => ?_
  simp only [am_tl_s]
  rw [ae_L_isWhole_302, if_neg (show ¬ σ (9 + 3 * t) < 0 by rw [ex]; exact nI_pos (by omega)), ae_L_isWhole_305]
  refine wq_i (lw_t (w := 5) rfl rfl v5 hZ5) (by omega) fun M6 hZ6 => ?_
  simp only [am_tl_s]
  rw [ae_L_isWhole_312]
  refine wq_i (lw_t (w := 4) rfl rfl v4 hZ6) (by omega) fun M7 hZ7 => ?_
  simp only [am_tl_s]
  rw [ae_L_isWhole_319, if_neg (show ¬ σ (10 + 3 * t) < σ (11 + 3 * t) by rw [ea, eb]; exact nI_nlt hab (by omega)), ae_L_isWhole_322]
  by_cases h0 : t = 0
  · rw [if_pos (show nI t ≤ 0 by rw [h0]; decide), ae_L_isWhole_358, nI_1]
    exact wq_k (h M7 hZ7) (by omega)
  · obtain ⟨t', rfl⟩ : ∃ t', t = t' + 1 := ⟨t - 1, by omega⟩
    obtain ⟨u, hu, eu, ru⟩ := rk_ex (σ := σ) t' (by omega)
    obtain ⟨w, hw, ew, rw'⟩ := rk_ex (σ := σ) (t' + 1) ht
    have hle : σ (9 + 3 * w) ≤ σ (9 + 3 * u) := by
      refine Int32.not_lt.mp fun z => ?_
      have hm : ∀ t, av_ms σ 0 t = av_pt σ t := fun t => if_pos rfl
      -- all that come before w come before u too
      have h1 : nc (av_ra σ 0 w) 3 ≤ nc (av_ra σ 0 u) 3 := nc_mono 3 fun k hk q => by
        unfold av_ra at q ⊢
        rw [hm, hm, av_pt_n hw, av_pt_n hk] at q
        rw [hm, hm, av_pt_n hu, av_pt_n hk]
        have h2 : σ (9 + 3 * u) < σ (9 + 3 * k) := by
          by_cases z2 : σ (9 + 3 * w) < σ (9 + 3 * k)
          · exact Int32.lt_trans z z2
          · rw [if_neg z2] at q
            by_cases z3 : σ (9 + 3 * k) = σ (9 + 3 * w)
            · rw [z3]; exact z
            · rw [if_neg z3] at q
              cases q
        rw [if_pos h2]
      have e1 : av_rk σ 0 w = nI (nc (av_ra σ 0 w) 3) := am_cnt_nc 3
      have e2 : av_rk σ 0 u = nI (nc (av_ra σ 0 u) 3) := am_cnt_nc 3
      rw [rw'] at e1
      rw [ru] at e2
      have l1 := nc_le (p := av_ra σ 0 w) 3
      have l2 := nc_le (p := av_ra σ 0 u) 3
      have f1 := (nI_eq (by omega) (by omega)).mp e1
      have f2 := (nI_eq (by omega) (by omega)).mp e2
      omega
    rw [if_neg (nI_nle (by omega) (by omega)), ae_L_isWhole_327, nI_pred]
    refine wq_i (a := nI u) (by rw [← eu]; exact lq_ranked hZ7) (by omega) fun M8 hZ8 => ?_
    simp only [am_tl_s]
    rw [ae_L_isWhole_337]
    refine wq_i (lw_t (w := 0) rfl rfl (aw_t0 hu) hZ8) (by omega) fun M9 hZ9 => ?_
    simp only [am_tl_s]
    rw [ae_L_isWhole_341]
    refine wq_i (a := nI w) (by rw [← ew]; exact lq_ranked hZ9) (by omega) fun M10 hZ10 => ?_
    simp only [am_tl_s]
    rw [ae_L_isWhole_349]
    refine wq_i (lw_t (w := 0) rfl rfl (aw_t0 hw) hZ10) (by omega) fun M11 hZ11 => ?_
    simp only [am_tl_s]
    rw [ae_L_isWhole_353, if_pos hle, ae_L_isWhole_358, nI_1]
    exact wq_k (h M11 hZ11) (by omega)
theorem wh_pl {x2 x3 x6 x7 x8 x9 x10 x11 x12 x13 x14 x15 : Int32} {K : Nat} {Q : Option Value → am_M → Prop} (hi : iw bd σ)
    (h : ∀ M', pZ Lx xs S bd σ L H P M' → wq (am_val iL_isWhole 427 [some (.ref (am_c 0 12)), some (.ref (am_c 0 44)), some (.int x2), some (.int x3), some (.int (nI (av_np σ))), some (.int (nI L.length)), some (.int x6), some (.int x7), some (.int x8), some (.int x9), some (.int x10), some (.int x11), some (.int x12), some (.int x13), some (.int x14), some (.int x15), some (.int (av_sum (fun p => σ (53 + 5 * p)) (av_np σ))), some (.int (av_sum (fun p => σ (54 + 5 * p)) (av_np σ))), some (.int (nI (av_np σ))), none] [] M') K Q) :
    ∀ m j, j + m = av_np σ → ∀ M, pZ Lx xs S bd σ L H P M → wq (am_val iL_isWhole 373 [some (.ref (am_c 0 12)), some (.ref (am_c 0 44)), some (.int x2), some (.int x3), some (.int (nI (av_np σ))), some (.int (nI L.length)), some (.int x6), some (.int x7), some (.int x8), some (.int x9), some (.int x10), some (.int x11), some (.int x12), some (.int x13), some (.int x14), some (.int x15), some (.int (av_sum (fun p => σ (53 + 5 * p)) j)), some (.int (av_sum (fun p => σ (54 + 5 * p)) j)), some (.int (nI j)), none] [] M) (4 * m + K) Q := by
  intro m
  induction m with
  | zero =>
    intro j hj M hZ
    have h6 := (pZ_np hZ).2.1
    obtain rfl : j = av_np σ := by omega
    rw [ae_L_isWhole_373, if_pos (nI_le (Nat.le_refl _) (by omega))]
    exact wq_k (h M hZ) (by omega)
  | succ m ih =>
    intro j hj M hZ
    have h6 := (pZ_np hZ).2.1
    have hj2 : j < av_np σ := by omega
    have hok := hZ.2.1.1
    obtain ⟨-, ⟨a, ha, ea⟩, -⟩ := hok.2.2.2.1 j hj2
    have hw := hi.2.2.1 j hj2
    rw [ea, av_hf_n ha] at hw
    have e1 : σ (50 + 5 * j + 1) = nI a := by rw [show 50 + 5 * j + 1 = 51 + 5 * j by omega]; exact ea
    have e3 : σ (50 + 5 * j + 3) = σ (53 + 5 * j) := by rw [show 50 + 5 * j + 3 = 53 + 5 * j by omega]
    have e4 : σ (50 + 5 * j + 4) = σ (54 + 5 * j) := by rw [show 50 + 5 * j + 4 = 54 + 5 * j by omega]
    rw [ae_L_isWhole_373, if_neg (nI_ge hj2 (by omega)), ae_L_isWhole_380]
    refine wq_i (lp_pl (w := 3) hj2 (by decide) rfl hZ) (by omega) fun M1 hZ1 => ?_
    rw [e3]
    simp only [am_tl_s]
    rw [ae_L_isWhole_389]
    refine wq_i (lp_pl (w := 4) hj2 (by decide) rfl hZ1) (by omega) fun M2 hZ2 => ?_
    rw [e4]
    simp only [am_tl_s]
    rw [ae_L_isWhole_401]
    refine wq_i (lp_pl (w := 1) hj2 (by decide) rfl hZ2) (by omega) fun M3 hZ3 => ?_
    rw [e1]
    simp only [am_tl_s]
    rw [ae_L_isWhole_412]
    refine wq_i (lw_h (p := a) ha rfl hZ3) (by omega) fun M4 hZ4 => ?_
    simp only [am_tl_s]
    rw [ae_L_isWhole_416, hw, if_pos (by decide), ae_L_isWhole_421, nI_1 j]
    exact wq_k (ih (j + 1) (by omega) M4 hZ4) (by omega)
end
