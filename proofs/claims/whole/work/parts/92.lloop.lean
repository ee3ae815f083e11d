/-! the law's loop -/
theorem am_sw_c {P : am_T → Prop} {x v : Int32} {t : am_T} {r : List (Int32 × am_T)} {d : am_T} (h : P t) (g : P (am_sw x r d)) : P (am_sw x ((v, t) :: r) d) := by
  by_cases hx : x = v
  · rw [am_sw_y hx]; exact h
  · rw [am_sw_n hx]; exact g
theorem lw_lt {Lx j : Nat} (hL : Lx ≤ 2048) (hj : j ≤ 4096) : (Int32.ofNat Lx - 4 < nI j) = (Lx < j + 4) := by
  by_cases h4 : 4 ≤ Lx
  · have e : Int32.ofNat Lx - 4 = nI (Lx - 4) := by
      have h : nI (Lx - 4) + nI 4 = nI Lx := by rw [nI_add]; congr 1; omega
      have h : nI (Lx - 4) + 4 = Int32.ofNat Lx := h
      rw [← h, Int32.sub_eq_add_neg, Int32.add_assoc, show (4 : Int32) + -4 = 0 by decide, Int32.add_zero]
    rw [e]
    by_cases h : Lx < j + 4
    · exact propext ⟨fun _ => h, fun _ => nI_lt (by omega) (by omega)⟩
    · exact propext ⟨fun hh => absurd hh (nI_nlt (by omega) (by omega)), fun hh => absurd hh h⟩
  · have hp : 0 ≤ nI j := nI_pos' (by omega)
    refine propext ⟨fun _ => by omega, fun _ => ?_⟩
    rcases (show Lx = 0 ∨ Lx = 1 ∨ Lx = 2 ∨ Lx = 3 by omega) with rfl | rfl | rfl | rfl
    · exact Int32.lt_of_lt_of_le (show Int32.ofNat 0 - 4 < 0 by decide) hp
    · exact Int32.lt_of_lt_of_le (show Int32.ofNat 1 - 4 < 0 by decide) hp
    · exact Int32.lt_of_lt_of_le (show Int32.ofNat 2 - 4 < 0 by decide) hp
    · exact Int32.lt_of_lt_of_le (show Int32.ofNat 3 - 4 < 0 by decide) hp
theorem lw_dflt {bd Lx j : Nat} {xs : Nat → Int32} {M : am_M} {o6 o7 o8 : Option Value} (hI : av_I bd Lx xs M) : lw_S bd Lx xs j (am_val iL_law 2624 [some (.ref (am_c 0 44)), some (.ref (am_c 0 12)), some (.ref (am_c 274 13)), some (.ref (am_c 282 27)), some (.ref (am_c 283 28)), some (.int (nI j)), o6, o7, o8] [] M) := by
  refine ⟨M, o6, o7, o8, 0, 0, Nat.zero_le _, Nat.zero_le _, av_I_m hI (by omega), ?_⟩
  have x4 : nI j + 4 = nI (j + 4) := nI_add (a := j) (b := 4)
  rw [am_add_00, ae_L_law_2624, x4]
theorem lw_step {bd Lx j : Nat} {xs : Nat → Int32} {M : am_M} {o6 o7 o8 : Option Value} (hI : av_I bd Lx xs M) (hbd : bd + 1240 < 1000000000) (hj : j + 4 ≤ Lx) (hL : Lx ≤ 2048) : lw_S bd Lx xs j (am_val iL_law 28 [some (.ref (am_c 0 44)), some (.ref (am_c 0 12)), some (.ref (am_c 274 13)), some (.ref (am_c 282 27)), some (.ref (am_c 283 28)), some (.int (nI j)), o6, o7, o8] [] M) := by
  have s1 : M.2.2.2.2.2.1 = Lx := by rw [hI.2]
  have hin : am_in (nI j) M.2.2.2.2.2.1 = true := by rw [s1]; exact am_in_n (by omega) (by omega)
  rw [ae_L_law_28, s1, if_neg (show ¬ (Int32.ofNat Lx - 4 < nI j) by rw [lw_lt hL (by omega)]; omega), ae_L_law_37 hin]
  refine am_sw_c (ls_wall hI hbd hj hL) (am_sw_c (ls_own hI hbd hj hL) (am_sw_c (ls_player hI hbd hj hL) (am_sw_c (ls_move hI hbd hj hL) (am_sw_c (ls_shout hI hbd hj hL) (am_sw_c (ls_beat hI hbd hj hL) (am_sw_c (ls_catchEcho hI hbd hj hL) (am_sw_c (ls_wind hI hbd hj hL) (am_sw_c (ls_wallOf hI hbd hj hL) (am_sw_c (ls_teamOf hI hbd hj hL) (am_sw_c (ls_playerOf hI hbd hj hL) (am_sw_c (ls_soundOf hI hbd hj hL) (am_sw_c (ls_isEcho hI hbd hj hL) (am_sw_c (ls_echoesAt hI hbd hj hL) (am_sw_c (ls_where hI hbd hj hL) (am_sw_c (ls_loudIn hI hbd hj hL) (am_sw_c (ls_goneIn hI hbd hj hL) (am_sw_c (ls_goneInAgain hI hbd hj hL) (am_sw_c (ls_comes hI hbd hj hL) (am_sw_c (ls_comesAgain hI hbd hj hL) (am_sw_c (ls_returns hI hbd hj hL) (am_sw_c (ls_bestLoudness hI hbd hj hL) (am_sw_c (ls_bestTeam hI hbd hj hL) (am_sw_c (ls_price hI hbd hj hL) (am_sw_c (ls_nextWall hI hbd hj hL) (am_sw_c (ls_ranked hI hbd hj hL) (am_sw_c (ls_loudest hI hbd hj hL) (am_sw_c (ls_isEven hI hbd hj hL) (am_sw_c (ls_append hI hbd hj hL) (am_sw_c (ls_commands hI hbd hj hL) (am_sw_c (ls_faultPosition hI hbd hj hL) (am_sw_c (ls_reason hI hbd hj hL) (am_sw_c (ls_line hI hbd hj hL) (am_sw_c (ls_soundLine hI hbd hj hL) (am_sw_c (ls_character hI hbd hj hL) (am_sw_c (ls_meanLoudness hI hbd hj hL) (am_sw_c (ls_echoShare hI hbd hj hL) (am_sw_c (ls_account hI hbd hj hL) (am_sw_c (ls_undo hI hbd hj hL) (am_sw_c (ls_save hI hbd hj hL) (am_sw_c (ls_restore hI hbd hj hL) (lw_dflt hI)))))))))))))))))))))))))))))))))))))))))
theorem lw_bd {bd m : Nat} (h : bd + 1240 * (m + 1) < 1000000000) : bd + 1240 < 1000000000 ∧ bd + 1240 + 1240 * m < 1000000000 := by
  have e : 1240 * (m + 1) = 1240 * m + 1240 := Nat.mul_succ _ _
  rw [e] at h
  generalize 1240 * m = t at h ⊢
  constructor
  · exact Nat.lt_of_le_of_lt (Nat.add_le_add_left (Nat.le_add_left _ _) _) h
  · rw [Nat.add_assoc, Nat.add_comm 1240 t]
    exact h
theorem lw_loop {Lx : Nat} {xs : Nat → Int32} (hL : Lx ≤ 2048) : ∀ (m bd j : Nat) (M : am_M) (o6 o7 o8 : Option Value), Lx < j + 4 * m + 4 → j ≤ 4096 → bd + 1240 * m < 1000000000 → av_I bd Lx xs M → ∃ M' k sl, am_val iL_law 28 [some (.ref (am_c 0 44)), some (.ref (am_c 0 12)), some (.ref (am_c 274 13)), some (.ref (am_c 282 27)), some (.ref (am_c 283 28)), some (.int (nI j)), o6, o7, o8] [] M = some (.inl (some (.int 1)), M', k, sl) ∧ k ≤ m ∧ sl ≤ 6 * m := by
  have ex : ∀ (j : Nat) (M : am_M) (o6 o7 o8 : Option Value) (bd : Nat), Lx < j + 4 → j ≤ 4096 → av_I bd Lx xs M → am_val iL_law 28 [some (.ref (am_c 0 44)), some (.ref (am_c 0 12)), some (.ref (am_c 274 13)), some (.ref (am_c 282 27)), some (.ref (am_c 283 28)), some (.int (nI j)), o6, o7, o8] [] M = some (.inl (some (.int 1)), M, 0, 0) := fun j M o6 o7 o8 bd hj hj2 hI => by
    have s1 : M.2.2.2.2.2.1 = Lx := by rw [hI.2]
    rw [ae_L_law_28, s1, if_pos (show Int32.ofNat Lx - 4 < nI j by rw [lw_lt hL hj2]; exact hj), ae_L_law_2630]
  intro m
  induction m with
  | zero =>
    intro bd j M o6 o7 o8 hm hj2 hbd hI
    exact ⟨M, 0, 0, ex j M o6 o7 o8 bd (by omega) hj2 hI, Nat.le_refl _, Nat.le_refl _⟩
  | succ m ih =>
    intro bd j M o6 o7 o8 hm hj2 hbd hI
    by_cases hj : Lx < j + 4
    · exact ⟨M, 0, 0, ex j M o6 o7 o8 bd hj hj2 hI, Nat.zero_le _, Nat.zero_le _⟩
    · obtain ⟨M1, p6, p7, p8, a, b, ha, hb, hI1, e1⟩ := lw_step (o6 := o6) (o7 := o7) (o8 := o8) hI (lw_bd hbd).1 (show j + 4 ≤ Lx by omega) hL
      obtain ⟨M2, k, sl, e2, hk, hs⟩ := ih (bd + 1240) (j + 4) M1 p6 p7 p8 (by omega) (by omega) (lw_bd hbd).2 hI1
      refine ⟨M2, a + k, b + sl, ?_, by omega, by omega⟩
      rw [e1, e2]
      rfl
