/-! the law's other helpers: how many are gone, undo, save, restore, the line, evenness, means -/
def gb_f (σ : Nat → Int32) (L : List (Nat → Int32)) (k : Nat) (x : Int32) : Int32 := if av_gn σ (av_s L k) = 1 then x + 1 else x
section
variable {Lx bd : Nat} {xs : Nat → Int32} {S : Nat → Int64} {σ : Nat → Int32} {L : List (Nat → Int32)} {H : List av_K} {P : Option av_K}
theorem av_gn_lt (σ s : Nat → Int32) : av_gn σ s < 21 := by
  unfold av_gn
  rcases av_fst_c (f := fun j => decide (av_n σ s j 1 = 0)) 21 with ⟨h, -⟩ | ⟨j, hj, h, -⟩
  · rw [h]; exact Nat.zero_lt_succ _
  · rw [h]; exact hj
theorem aw_gone {k : Nat} (hk : k < L.length) (hl : L.length ≤ 8) : aw (aq_goneIn σ L (nI k)) = nI (av_gn σ (av_s L k)) := by
  unfold aq_goneIn
  rw [if_neg (by rw [am_n_lt (by omega) hk]; decide), av_ix_n (by omega)]
  rfl
theorem lq_gones {n : Nat} {M : am_M} (hn : n ≤ L.length) (hZ : pZ Lx xs S bd σ L H P M) : wq (am_val iL_gonesBelow 0 [some (.ref (am_c 0 12)), some (.int (nI n)), none, none] [] M) 10 (qi (pZ Lx xs S bd σ L H P) (am_it (gb_f σ L) n 0)) := by
  obtain ⟨hn0, hn6, hl8⟩ := pZ_np hZ
  rw [ae_L_gonesBelow_0]
  have h0 := wq_for (Z := pZ Lx xs S bd σ L H P) (γ := Unit) (G := fun k v _ M => am_val iL_gonesBelow 4 [some (.ref (am_c 0 12)), some (.int (nI n)), some (.int v), some (.int (nI k))] [] M) (f := gb_f σ L) (x0 := 0) (N := n) (c := 1) (K0 := 0) (Q := qi (pZ Lx xs S bd σ L H P) (am_it (gb_f σ L) n 0)) (fun k _ M K hk hZ hK => ?_) (fun _ M hZ => ?_) () M hZ
  · exact wq_k h0 (by omega)
  · rw [ae_L_gonesBelow_4, if_neg (show ¬ nI n ≤ nI k from nI_ge hk (by omega)), ae_L_gonesBelow_9]
    refine wq_i (lq_goneIn hZ) (by omega) fun M1 hZ1 => ?_
    simp only [am_tl_s]
    rw [aw_gone (by omega) hl8, ae_L_gonesBelow_15]
    have hg := av_gn_lt σ (av_s L k)
    have hK := hK () M1 hZ1
    unfold gb_f at hK
    by_cases h1 : av_gn σ (av_s L k) = 1
    · rw [if_pos h1] at hK
      rw [h1, if_neg (show ¬ ¬ nI 1 = 1 by decide), ae_L_gonesBelow_19, nI_1]
      exact wq_k hK (by omega)
    · rw [if_neg h1] at hK
      rw [if_pos (show ¬ nI (av_gn σ (av_s L k)) = 1 from fun e => h1 ((nI_eq (b := 1) (by omega) (by decide)).mp e)), ae_L_gonesBelow_23, nI_1, Int32.add_zero]
      exact wq_k hK (by omega)
  · rw [ae_L_gonesBelow_4, if_pos (show nI n ≤ nI n from nI_le (Nat.le_refl _) (by omega)), ae_L_gonesBelow_32]
    exact wq_e ⟨rfl, hZ⟩
theorem lx_undo_4 {M1 : am_M} : am_hx iL_undo 1 0 [some (.ref (am_c 0 12)), none] 4 M1 = some (.inl (some (.int (-79))), M1, 0, 0) := by
  rw [show am_hx iL_undo 1 0 [some (.ref (am_c 0 12)), none] 4 M1 = am_val iL_undo 6 [some (.ref (am_c 0 12)), none] [] M1 from rfl, ae_L_undo_6]
theorem lq_undo {m : Nat} {M : am_M} (hm : H.length = m + 1) (hZ : pZ Lx xs S bd σ L H P M) : wq (am_val iL_undo 0 [some (.ref (am_c 0 12)), none] [] M) 1 (qi (pZ Lx xs S bd (av_h H m).1 (av_h H m).2 (H.take m) P) (nI m)) := by
  obtain ⟨hL, hS, q, T, f, l, hx⟩ := hZ
  obtain ⟨M1, e, fx, x1⟩ := (ac_undo hx).1 m hm
  rw [ae_L_undo_0, e, am_bnx_v]
  simp only [ae_L_undo_0, ae_L_undo_4, ae_L_undo_6, am_bnx_v, am_bnx_e, am_tl_s, am_tl_n, am_rv_s, am_add_rx]
  refine wq_e ⟨rfl, pL_fx hL fx, ⟨hS.2.1 m (by omega), fun j hj => ?_, hS.2.2⟩, _, _, _, _, x1⟩
  have hj2 : j < m := by
    rw [List.length_take] at hj
    omega
  have e2 : av_h (H.take m) j = av_h H j := by
    unfold av_h
    rw [List.getD_eq_getElem?_getD, List.getD_eq_getElem?_getD, List.getElem?_take, if_pos hj2]
  rw [e2]
  exact hS.2.1 j (by omega)
theorem lq_undo0 {M : am_M} (hm : H.length = 0) (hZ : pZ Lx xs S bd σ L H P M) : wq (am_val iL_undo 0 [some (.ref (am_c 0 12)), none] [] M) 1 (qi (pZ Lx xs S bd σ L H P) (-79)) := by
  obtain ⟨hL, hS, q, T, f, l, hx⟩ := hZ
  have e := (ac_undo hx).2 hm
  rw [ae_L_undo_0, e, am_bnx_e, lx_undo_4]
  exact wq_add (k := 1) (K := 0) (wq_e ⟨rfl, hL, hS, _, _, _, _, hx⟩) (by decide) (by decide)
theorem lq_save {M : am_M} (hZ : pZ Lx xs S bd σ L H P M) : wq (am_val iX12_save 0 [some (.ref (am_c 0 12))] [] M) 0 (qi (pZ Lx xs S bd σ L H (some (σ, L))) (nI (av_np σ))) := by
  obtain ⟨hn0, hn6, hl8⟩ := pZ_np hZ
  obtain ⟨hL, hS, q, T, f, l, hx⟩ := hZ
  obtain ⟨M1, e, fx, x1⟩ := ac_save hx
  rw [e, hn0]
  exact wq_e ⟨rfl, pL_fx hL fx, ⟨hS.1, hS.2.1, fun p hp => by cases hp; exact hS.1⟩, _, _, _, _, x1⟩
theorem lq_restore {p : av_K} {M : am_M} (hp : P = some p) (hZ : pZ Lx xs S bd σ L H P M) : wq (am_val iL_restore 0 [some (.ref (am_c 0 12)), none] [] M) 1 (qi (pZ Lx xs S bd p.1 p.2 [] P) (p.1 0)) := by
  obtain ⟨hL, hS, q, T, f, l, hx⟩ := hZ
  obtain ⟨M1, e, fx, x1⟩ := (ac_restore hx).1 p hp
  rw [ae_L_restore_0, e, am_bnx_v]
  simp only [ae_L_restore_0, ae_L_restore_4, ae_L_restore_6, am_bnx_v, am_bnx_e, am_tl_s, am_tl_n, am_rv_s, am_add_rx]
  exact wq_e ⟨rfl, pL_fx hL fx, ⟨hS.2.2 p hp, fun j hj => absurd hj (Nat.not_lt_zero _), hS.2.2⟩, _, _, _, _, x1⟩
theorem lq_line {M : am_M} (hZ : pZ Lx xs S bd σ L H P M) : wq (am_val iX12_line 0 [some (.ref (am_c 0 12)), none] [] M) 0 (qi (pZ Lx xs S bd σ L H P) (nI (tl_n σ 16).length)) := by
  obtain ⟨hL, hS, q, T, f, l, hx⟩ := hZ
  obtain ⟨M1, e, fx, x1⟩ := ac_line hx hS.1
  rw [e]
  exact wq_e ⟨rfl, pL_fx hL fx, hS, _, _, _, _, x1⟩
theorem lq_isEven {M : am_M} (hZ : pZ Lx xs S bd σ L H P M) : wq (am_val iX12_isEven 0 [some (.ref (am_c 0 12)), none] [] M) 0 (qi (pZ Lx xs S bd σ L H P) (am_bi (decide (σ 9 + σ 12 + σ 15 = 30 + σ 6 + σ 8 - σ 7)))) := by
  obtain ⟨hL, hS, q, T, f, l, hx⟩ := hZ
  have p0 := hx.1.1.1
  obtain ⟨rm, hC⟩ := hx.2.1
  have e : am_val iX12_isEven 0 [some (.ref (am_c 0 12)), none] [] M = some (.inl (some (.int (am_bi (decide (σ 9 + σ 12 + σ 15 = 30 + σ 6 + σ 8 - σ 7))))), M, 0, 0) := cq_isEven p0 hC
  rw [e]
  exact wq_e ⟨rfl, hL, hS, _, _, _, _, hx⟩
theorem lx_mean_5 {M1 : am_M} : am_hx iL_meanLoudness 1 0 [some (.ref (am_c 0 12)), none] 5 M1 = some (.inl (some (.double 13858279740860792832)), M1, 0, 0) := by
  rw [show am_hx iL_meanLoudness 1 0 [some (.ref (am_c 0 12)), none] 5 M1 = am_val iL_meanLoudness 6 [some (.ref (am_c 0 12)), none] [] M1 from rfl, ae_L_meanLoudness_6]
theorem lx_share_5 {M1 : am_M} : am_hx iL_echoShare 1 0 [some (.ref (am_c 0 12)), none] 5 M1 = some (.inl (some (.float 3264479232)), M1, 0, 0) := by
  rw [show am_hx iL_echoShare 1 0 [some (.ref (am_c 0 12)), none] 5 M1 = am_val iL_echoShare 6 [some (.ref (am_c 0 12)), none] [] M1 from rfl, ae_L_echoShare_6]
def lw_d (L : List (Nat → Int32)) : UInt64 := if L.length = 0 then 13858279740860792832 else af_d L
def lw_f (L : List (Nat → Int32)) : UInt32 := if L.length = 0 then 3264479232 else af_f L
theorem lq_mean {M : am_M} (hZ : pZ Lx xs S bd σ L H P M) : wq (am_val iL_meanLoudness 0 [some (.ref (am_c 0 12)), none] [] M) 1 (qr (pZ Lx xs S bd σ L H P) (.double (lw_d L))) := by
  obtain ⟨hL, hS, q, T, f, l, hx⟩ := hZ
  have p0 := hx.1.1.1
  obtain ⟨rm, hC⟩ := hx.2.1
  obtain ⟨c1, c2⟩ := cq_mean p0 hC hS.1
  unfold lw_d
  by_cases h : L.length = 0
  · rw [if_pos h, ae_L_meanLoudness_0, c1 h, am_bnx_e, lx_mean_5]
    exact wq_add (k := 1) (K := 0) (wq_e ⟨rfl, hL, hS, _, _, _, _, hx⟩) (by decide) (by decide)
  · rw [if_neg h, ae_L_meanLoudness_0, c2 h, am_bnx_v]
    simp only [ae_L_meanLoudness_0, ae_L_meanLoudness_4, ae_L_meanLoudness_6, am_bnx_v, am_bnx_e, am_tl_s, am_tl_n, am_rv_s, am_add_rx]
    exact wq_e ⟨rfl, hL, hS, _, _, _, _, hx⟩
theorem lq_share {M : am_M} (hZ : pZ Lx xs S bd σ L H P M) : wq (am_val iL_echoShare 0 [some (.ref (am_c 0 12)), none] [] M) 1 (qr (pZ Lx xs S bd σ L H P) (.float (lw_f L))) := by
  obtain ⟨hL, hS, q, T, f, l, hx⟩ := hZ
  have p0 := hx.1.1.1
  obtain ⟨rm, hC⟩ := hx.2.1
  obtain ⟨c1, c2⟩ := cq_share p0 hC hS.1
  unfold lw_f
  by_cases h : L.length = 0
  · rw [if_pos h, ae_L_echoShare_0, c1 h, am_bnx_e, lx_share_5]
    exact wq_add (k := 1) (K := 0) (wq_e ⟨rfl, hL, hS, _, _, _, _, hx⟩) (by decide) (by decide)
  · rw [if_neg h, ae_L_echoShare_0, c2 h, am_bnx_v]
    simp only [ae_L_echoShare_0, ae_L_echoShare_4, ae_L_echoShare_6, am_bnx_v, am_bnx_e, am_tl_s, am_tl_n, am_rv_s, am_add_rx]
    exact wq_e ⟨rfl, hL, hS, _, _, _, _, hx⟩
end
