/-! one round of the law: its first half -/
section
variable {Lx bd : Nat} {xs : Nat → Int32} {S : Nat → Int64} {σ : Nat → Int32} {L : List (Nat → Int32)} {H : List av_K} {P : Option av_K}
theorem lr_195 {n made kk : Nat} {x10 x11 x13 x14 x15 x16 x17 x18 r : Int32} {o19 o20 o21 : Option Value} {σ2 : Nat → Int32} {L2 : List (Nat → Int32)} {H2 : List av_K} {K : Nat} {Q : Option Value → am_M → Prop} {M : am_M} (hn : n < 50) (hm : made ≤ n) (hh : hk S made σ L H) (hLx : Lx ≤ 260) (hbd : bd < 200000000) (hi : iw bd σ) (hkk : kk < 31) (hkb : kk < 9 ∨ 15 < kk) (hi2 : iw (bd + 1240) σ2) (hZ : pZ Lx xs S (bd + 1240) σ2 L2 H2 P M)
    (hc : (¬ -74 < r ∧ σ2 = σ ∧ L2 = L ∧ H2 = H) ∨ (-74 < r ∧ H2 = av_pu H (σ, L)))
    (h : ∀ (S' : Nat → Int64) (made' : Nat) (σ' : Nat → Int32) (L' : List (Nat → Int32)) (H' : List av_K) o6 o8 o9 o10 o11 o12 o13 o14 o15 o16 o17 o18 o19 o20 o21 M', made' ≤ n + 1 → hk S' made' σ' L' H' → iw (bd + 1240) σ' → pZ Lx xs S' (bd + 1240) σ' L' H' P M' → wq (am_val iL_law 28 [some (.ref (am_c 0 44)), some (.ref (am_c 0 12)), some (.ref (am_c 274 27)), some (.int (nI made')), some (.int (nI (5 * (n + 1)))), some (.int (nI (n + 1))), o6, none, o8, o9, o10, o11, o12, o13, o14, o15, o16, o17, o18, o19, o20, o21] [] M') K Q) :
    wq (am_val iL_law 195 [some (.ref (am_c 0 44)), some (.ref (am_c 0 12)), some (.ref (am_c 274 27)), some (.int (nI made)), some (.int (nI (5 * n))), some (.int (nI n)), some (.long (su_e σ L)), none, some (.int (nI H.length)), some (.int (nI kk)), some (.int x10), some (.int x11), some (.int (nI L.length)), some (.int x13), some (.int x14), some (.int x15), some (.int x16), some (.int x17), some (.int x18), o19, o20, o21] [.int r] M) (920 + K) Q := by
  have e5 : nI (5 * n) + 5 = nI (5 * (n + 1)) := nI_add (5 * n) 5
  have h215 : wq (am_val iL_law 215 [some (.ref (am_c 0 44)), some (.ref (am_c 0 12)), some (.ref (am_c 274 27)), some (.int (nI made)), some (.int (nI (5 * n))), some (.int (nI n)), some (.long (su_e σ L)), none, some (.int (nI H.length)), some (.int (nI kk)), some (.int x10), some (.int x11), some (.int (nI L.length)), some (.int x13), some (.int x14), some (.int x15), some (.int x16), some (.int x17), some (.int x18), some (.int r), o20, o21] [] M) (920 + K) Q := by
    rw [ae_L_law_215, if_pos rfl, ae_L_law_258, if_pos rfl, ae_L_law_344, if_neg (by decide), e5]
    exact lr_360 hn hm hh hLx hbd hi2 hZ hc h
  rw [ae_L_law_195]
  by_cases q : kk < 9
  · rw [if_pos (show nI kk ≤ 8 from nI_le (b := 8) (by omega) (by decide))]
    exact h215
  · rw [if_neg (show ¬ nI kk ≤ 8 from nI_ge (a := 8) (by omega) (by omega)), ae_L_law_204, if_pos (show 16 ≤ nI kk from nI_le (a := 16) (by omega) (by omega))]
    exact h215
theorem lr_195b {n made kk x : Nat} {x10 x11 x14 x15 x16 x17 x18 : Int32} {o19 o20 o21 : Option Value} {v9 : Option Value} {K : Nat} {Q : Option Value → am_M → Prop} {M : am_M} (hn : n < 50) (hm : made ≤ n) (hh : hk S made σ L H) (hLx : Lx ≤ 260) (hbd : bd < 200000000) (hi : iw bd σ) (hok : av_ok bd σ L) (hk1 : 9 ≤ kk) (hk2 : kk ≤ 15) (hB : qB Lx xs S bd σ L H P v9 M)
    (h18 : x18 = nI (nc (bg σ L) L.length)) (hx : ¬ L.length = 0 → x < L.length ∧ x14 = (if 1 < av_gn σ (av_s L x) then av_n σ (av_s L x) 1 0 else -75) ∧ x15 = (if 1 < av_gn σ (av_s L x) then av_n σ (av_s L x) 1 1 else 0) ∧ x16 = nI (av_gn σ (av_s L x)) ∧ x17 = nI (nc (bg σ L) x))
    (h : ∀ (S' : Nat → Int64) (made' : Nat) (σ' : Nat → Int32) (L' : List (Nat → Int32)) (H' : List av_K) o6 o8 o9 o10 o11 o12 o13 o14 o15 o16 o17 o18 o19 o20 o21 M', made' ≤ n + 1 → hk S' made' σ' L' H' → iw (bd + 1240) σ' → pZ Lx xs S' (bd + 1240) σ' L' H' P M' → wq (am_val iL_law 28 [some (.ref (am_c 0 44)), some (.ref (am_c 0 12)), some (.ref (am_c 274 27)), some (.int (nI made')), some (.int (nI (5 * (n + 1)))), some (.int (nI (n + 1))), o6, none, o8, o9, o10, o11, o12, o13, o14, o15, o16, o17, o18, o19, o20, o21] [] M') K Q) :
    wq (am_val iL_law 195 [some (.ref (am_c 0 44)), some (.ref (am_c 0 12)), some (.ref (am_c 274 27)), some (.int (nI made)), some (.int (nI (5 * n))), some (.int (nI n)), some (.long (su_e σ L)), none, some (.int (nI H.length)), some (.int (nI kk)), some (.int x10), some (.int x11), some (.int (nI L.length)), some (.int (nI x)), some (.int x14), some (.int x15), some (.int x16), some (.int x17), some (.int x18), o19, o20, o21] (am_tl v9 []) M) (930 + K) Q := by
  have e5 : nI (5 * n) + 5 = nI (5 * (n + 1)) := nI_add (5 * n) 5
  have hl8 := hok.2.2.2.2.2.2.2
  rcases hB with ⟨b0, rfl, hZ⟩ | ⟨b0, rfl, hZ⟩
  · have e0 : nI L.length = 0 := by rw [b0]; rfl
    simp only [am_tl_s]
    rw [ae_L_law_195, if_neg (show ¬ nI kk ≤ 8 from nI_ge (a := 8) (by omega) (by omega)), ae_L_law_204, if_neg (show ¬ 16 ≤ nI kk from nI_ge (b := 16) (by omega) (by decide)), ae_L_law_211, if_neg (by decide), ae_L_law_223, if_neg (not_not_intro e0), ae_L_law_228, if_neg (by decide), ae_L_law_235, if_neg (by decide), ae_L_law_272, if_pos e0, ae_L_law_344, if_neg (by decide), e5]
    exact wq_k (lr_360 hn hm hh hLx hbd (iw_m hi (by omega)) (pZ_m hZ (by omega)) (Or.inl ⟨by decide, rfl, rfl, rfl⟩) h) (by omega)
  · obtain ⟨hx1, hx2, hx3, hx4, hx5⟩ := hx b0
    have hkl := kf_l (σ := σ) (L := L) L.length
    have hkx := kf_l (σ := σ) (L := L) x
    have hr : L.length - (av_kf σ L L.length).length = nc (bg σ L) L.length := by omega
    have hi2 : iw (bd + 1240) (av_o5 σ L) := iw_m (iw_5 hok hi) (by omega)
    have hsub : ∀ a b : Nat, b ≤ a → nI a - nI b = nI (a - b) := fun a b hab => by
      obtain ⟨d, rfl⟩ : ∃ d, a = b + d := ⟨a - b, by omega⟩
      rw [Nat.add_sub_cancel_left, Nat.add_comm, ← nI_add]
      exact Int32.add_sub_cancel _ _
    have hcnt : nI (av_kf σ L L.length).length = nI L.length - nI (L.length - (av_kf σ L L.length).length) := by
      rw [hsub _ _ (by omega)]
      exact congrArg nI (by omega)
    have fin : ∀ M, pZ Lx xs S (bd + 1240) (av_o5 σ L) (av_kf σ L L.length) (av_pu H (σ, L)) P M → wq (am_val iL_law 360 [some (.ref (am_c 0 44)), some (.ref (am_c 0 12)), some (.ref (am_c 274 27)), some (.int (nI made)), some (.int (nI (5 * (n + 1)))), some (.int (nI n)), some (.long (su_e σ L)), none, some (.int (nI H.length)), some (.int (nI kk)), some (.int x10), some (.int x11), some (.int (nI L.length)), some (.int (nI x)), some (.int x14), some (.int x15), some (.int x16), some (.int x17), some (.int x18), some (.int (nI (L.length - (av_kf σ L L.length).length))), some (.int 1), some (.int 1)] [] M) (920 + K) Q := fun M hZ =>
      lr_360 hn hm hh hLx hbd hi2 hZ (Or.inr ⟨i32_gt (by omega), rfl⟩) h
    have hne : ¬ nI L.length = 0 := nI_ne0 (by omega) (by omega)
    obtain ⟨g1, g2, g3, g4⟩ := av_gn_e hok (hok.2.2.2.2.1 x hx1)
    simp only [am_tl_s]
    rw [ae_L_law_195, if_neg (show ¬ nI kk ≤ 8 from nI_ge (a := 8) (by omega) (by omega)), ae_L_law_204, if_neg (show ¬ 16 ≤ nI kk from nI_ge (b := 16) (by omega) (by decide)), ae_L_law_211, if_neg (by decide), ae_L_law_223, if_pos hne, ae_L_law_238, if_neg (show ¬ ¬ nI (L.length - (av_kf σ L L.length).length) = x18 by rw [h18, hr]; exact not_not_intro rfl), ae_L_law_245]
    refine wq_i (lq_acc2 hZ) (by omega) fun M1 hZ1 => ?_
    simp only [am_tl_s]
    rw [ae_L_law_250, if_neg (not_not_intro hcnt), ae_L_law_258, if_neg (by decide), ae_L_law_272, if_neg hne, ae_L_law_277]
    by_cases hg : av_gn σ (av_s L x) = 1
    · have q1 : x16 = 1 := by rw [hx4, hg]; rfl
      have q2 : x14 = -75 := by rw [hx2, if_neg (by omega)]
      have q3 : x15 = 0 := by rw [hx3, if_neg (by omega)]
      rw [if_neg (not_not_intro q1), ae_L_law_283, if_neg (not_not_intro q2), ae_L_law_290, if_neg (not_not_intro q3), ae_L_law_295, if_neg (by decide), e5]
      exact wq_k (fin M1 hZ1) (by omega)
    · have hgo : ¬ av_a1 σ (av_s L x) 1 = 0 := fun z => by
        have hb := bg_gn hok hx1
        unfold bg at hb
        rw [decide_eq_true z] at hb
        exact hg (of_decide_eq_true hb.symm)
      have q1 : ¬ x16 = 1 := fun z => by
        rw [hx4] at z
        exact hg ((nI_eq (b := 1) (by omega) (by decide)).mp z)
      have q2 : x14 = av_a1 σ (av_s L x) 0 := by rw [hx2, if_pos (by omega)]; rfl
      have q3 : x15 = av_a1 σ (av_s L x) 1 := by rw [hx3, if_pos (by omega)]; rfl
      obtain ⟨s1, s2⟩ := kf_s hgo L.length hx1
      have hidx : nI x - x17 = nI (av_kf σ L x).length := by
        rw [hx5, hsub _ _ (by omega)]
        exact congrArg nI (by omega)
      have hgn := o5_gn hok hx1 hgo
      rw [if_pos q1, ae_L_law_298, hidx]
      refine wq_i (ls_snd (w := 0) s1 (by decide) rfl hZ1) (by omega) fun M2 hZ2 => ?_
      simp only [am_tl_s]
      rw [ae_L_law_308, s2, if_neg (not_not_intro q2.symm), ae_L_law_313, hidx]
      refine wq_i (ls_snd (w := 1) s1 (by decide) rfl hZ2) (by omega) fun M3 hZ3 => ?_
      simp only [am_tl_s]
      rw [ae_L_law_323, s2, if_neg (not_not_intro q3.symm), ae_L_law_328, hidx]
      refine wq_i (ls_gone s1 hZ3) (by omega) fun M4 hZ4 => ?_
      simp only [am_tl_s]
      have hg9 : nI (av_gn (av_o5 σ L) (av_s (av_kf σ L L.length) (av_kf σ L x).length)) = x16 - 1 := by
        rw [s2, hx4, ← hgn, nI_pred]
      rw [ae_L_law_337, if_neg (not_not_intro hg9), ae_L_law_344, if_neg (by decide), e5]
      exact wq_k (fin M4 hZ4) (by omega)
end
