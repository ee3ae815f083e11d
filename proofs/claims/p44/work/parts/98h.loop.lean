/-! one round of the law, as a whole; the loop -/
section
variable {Lx bd : Nat} {xs : Nat → Int32} {S : Nat → Int64} {σ : Nat → Int32} {L : List (Nat → Int32)} {H : List av_K} {P : Option av_K}
theorem lr_117 {n made kk aa : Nat} {x10 : Int32} {o11 o12 o13 o14 o15 o16 o17 o18 o19 o20 o21 : Option Value} {K : Nat} {Q : Option Value → am_M → Prop} {M : am_M} (hn : n < 50) (hm : made ≤ n) (hh : hk S made σ L H) (hLx : Lx ≤ 260) (hbd : bd < 200000000) (hi : iw bd σ) (hkk : kk < 31) (haa : aa < 10) (hZ : pZ Lx xs S bd σ L H P M)
    (h : ∀ (S' : Nat → Int64) (made' : Nat) (σ' : Nat → Int32) (L' : List (Nat → Int32)) (H' : List av_K) o6 o8 o9 o10 o11 o12 o13 o14 o15 o16 o17 o18 o19 o20 o21 M', made' ≤ n + 1 → hk S' made' σ' L' H' → iw (bd + 1240) σ' → pZ Lx xs S' (bd + 1240) σ' L' H' P M' → wq (am_val iL_law 28 [some (.ref (am_c 0 44)), some (.ref (am_c 0 12)), some (.ref (am_c 274 27)), some (.int (nI made')), some (.int (nI (5 * (n + 1)))), some (.int (nI (n + 1))), o6, none, o8, o9, o10, o11, o12, o13, o14, o15, o16, o17, o18, o19, o20, o21] [] M') K Q) :
    wq (am_val iL_law 117 [some (.ref (am_c 0 44)), some (.ref (am_c 0 12)), some (.ref (am_c 274 27)), some (.int (nI made)), some (.int (nI (5 * n))), some (.int (nI n)), some (.long (su_e σ L)), none, some (.int (nI H.length)), some (.int (nI kk)), some (.int x10), o11, o12, o13, o14, o15, o16, o17, o18, o19, o20, o21] [.int (nI aa)] M) (980 + K) Q := by
  have hok := hZ.2.1.1
  obtain ⟨hn0, h6, hl8⟩ := pZ_np hZ
  have emax : (if 1 < nI L.length then nI L.length else 1) = nI (max 1 L.length) := by
    by_cases q : 1 < L.length
    · rw [if_pos (show 1 < nI L.length from nI_lt (a := 1) q (by omega)), Nat.max_eq_right (by omega)]
    · rw [if_neg (show ¬ 1 < nI L.length from nI_nlt (a := 1) (by omega) (by decide)), Nat.max_eq_left (by omega)]
      rfl
  rw [ae_L_law_117]
  refine wq_i (lq_acc2 hZ) (by omega) fun M1 hZ1 => ?_
  simp only [am_tl_s]
  obtain ⟨x, hx, ex⟩ := lq_pick (Lx := Lx) (xs := xs) (x := nI (5 * n) + 3) (y := if 1 < nI L.length then nI L.length else 1) (j := 5 * n + 3) (n := max 1 L.length) (M := M1) (by omega) (nI_add (5 * n) 3) emax (by omega) (by omega) hLx (pZ_s hZ1)
  rw [ae_L_law_124, ex, am_bnx_v]
  simp only [am_tl_s]
  rw [ae_L_law_140]
  refine wq_i (lq_where (a := nI x) (b := 1) hZ1) (by omega) fun M2 hZ2 => ?_
  simp only [am_tl_s]
  rw [ae_L_law_149]
  refine wq_i (lq_loudIn (a := nI x) (b := 1) hZ2) (by omega) fun M3 hZ3 => ?_
  simp only [am_tl_s]
  rw [ae_L_law_158]
  refine wq_i (lq_goneIn (a := nI x) hZ3) (by omega) fun M4 hZ4 => ?_
  simp only [am_tl_s]
  rw [ae_L_law_166]
  have hxl : x ≤ L.length := by omega
  refine wq_i (lq_gones (n := x) hxl hZ4) (by omega) fun M5 hZ5 => ?_
  rw [gb_nc hok x hxl]
  simp only [am_tl_s]
  rw [ae_L_law_174]
  refine wq_i (lq_gones (n := L.length) (Nat.le_refl _) hZ5) (by omega) fun M6 hZ6 => ?_
  rw [gb_nc hok L.length (Nat.le_refl _)]
  simp only [am_tl_s]
  rw [ae_L_law_182]
  by_cases hb : 9 ≤ kk ∧ kk ≤ 15
  · refine wq_c (lq_does_b (j := 5 * n) (kk := kk) (aa := aa) (by omega) rfl hb.1 hb.2 hLx hZ6 (by omega)) (by omega) fun v9 M7 hB => ?_
    refine wq_k (lr_195b hn hm hh hLx hbd hi hok hb.1 hb.2 hB rfl (fun b0 => ?_) h) (by omega)
    have hx1 : x < L.length := by omega
    exact ⟨hx1, (aw_where hok hx1 (b := 1) (by decide)).1, (aw_where hok hx1 (b := 1) (by decide)).2, aw_gone hx1 hl8, rfl⟩
  · refine wq_c (lq_does (j := 5 * n) (kk := kk) (aa := aa) (by omega) rfl rfl haa hkk (by omega) hLx hZ6 hi (by omega)) (by omega) fun v9 M7 hD => ?_
    rcases hD with ⟨r, hr, rfl, hZ7⟩ | ⟨r, σ', L', hr, rfl, hi7, hZ7⟩
    · simp only [am_tl_s]
      refine wq_k (lr_195 hn hm hh hLx hbd hi hkk (by omega) (iw_m hi (by omega)) (pZ_m hZ7 (by omega)) (Or.inl ⟨?_, rfl, rfl, rfl⟩) h) (by omega)
      rcases hr with rfl | rfl <;> decide
    · simp only [am_tl_s]
      exact wq_k (lr_195 hn hm hh hLx hbd hi hkk (by omega) hi7 hZ7 (Or.inr ⟨hr, rfl⟩) h) (by omega)
theorem lr_84 {n made kk : Nat} {o10 o11 o12 o13 o14 o15 o16 o17 o18 o19 o20 o21 : Option Value} {K : Nat} {Q : Option Value → am_M → Prop} {M : am_M} (hn : n < 50) (hm : made ≤ n) (hh : hk S made σ L H) (hLx : Lx ≤ 260) (hbd : bd < 200000000) (hi : iw bd σ) (hkk : kk < 31) (hZ : pZ Lx xs S bd σ L H P M)
    (h : ∀ (S' : Nat → Int64) (made' : Nat) (σ' : Nat → Int32) (L' : List (Nat → Int32)) (H' : List av_K) o6 o8 o9 o10 o11 o12 o13 o14 o15 o16 o17 o18 o19 o20 o21 M', made' ≤ n + 1 → hk S' made' σ' L' H' → iw (bd + 1240) σ' → pZ Lx xs S' (bd + 1240) σ' L' H' P M' → wq (am_val iL_law 28 [some (.ref (am_c 0 44)), some (.ref (am_c 0 12)), some (.ref (am_c 274 27)), some (.int (nI made')), some (.int (nI (5 * (n + 1)))), some (.int (nI (n + 1))), o6, none, o8, o9, o10, o11, o12, o13, o14, o15, o16, o17, o18, o19, o20, o21] [] M') K Q) :
    wq (am_val iL_law 84 [some (.ref (am_c 0 44)), some (.ref (am_c 0 12)), some (.ref (am_c 274 27)), some (.int (nI made)), some (.int (nI (5 * n))), some (.int (nI n)), some (.long (su_e σ L)), none, some (.int (nI H.length)), some (.int (nI kk)), o10, o11, o12, o13, o14, o15, o16, o17, o18, o19, o20, o21] [.int (nI (av_np σ))] M) (980 + K) Q := by
  obtain ⟨hn0, h6, hl8⟩ := pZ_np hZ
  have e2 : nI (5 * n) + 2 = nI (5 * n + 2) := nI_add (5 * n) 2
  have h108 : ∀ {o11 : Option Value}, wq (am_val iL_law 108 [some (.ref (am_c 0 44)), some (.ref (am_c 0 12)), some (.ref (am_c 274 27)), some (.int (nI made)), some (.int (nI (5 * n))), some (.int (nI n)), some (.long (su_e σ L)), none, some (.int (nI H.length)), some (.int (nI kk)), some (.int (nI (av_np σ))), o11, o12, o13, o14, o15, o16, o17, o18, o19, o20, o21] [.int (nI (av_np σ)), .int (nI (5 * n) + 2), .ref (am_c 0 44)] M) (980 + K) Q := fun {o11} => by
    obtain ⟨a, ha, ea⟩ := lq_pick (Lx := Lx) (xs := xs) (x := nI (5 * n) + 2) (y := nI (av_np σ) + 1) (j := 5 * n + 2) (n := av_np σ + 1) (M := M) (by omega) e2 (nI_1 _) (by omega) (by omega) hLx (pZ_s hZ)
    rw [ae_L_law_108, ea, am_bnx_v]
    simp only [am_tl_s]
    exact lr_117 hn hm hh hLx hbd hi hkk (by omega) hZ h
  rw [ae_L_law_84]
  by_cases q : nI n - nI n / 9 * 9 = 8
  · rw [if_pos q]
    exact h108
  · rw [if_neg q, ae_L_law_103]
    by_cases q0 : nI (av_np σ) = 0
    · rw [if_neg (not_not_intro q0)]
      exact h108
    · have hpos : 0 < av_np σ := by
        rcases Nat.eq_zero_or_pos (av_np σ) with z | z
        · exact absurd (by rw [z]; rfl) q0
        · exact z
      obtain ⟨a, ha, ea⟩ := lq_pick (Lx := Lx) (xs := xs) (x := nI (5 * n) + 2) (y := nI (av_np σ) + 0) (j := 5 * n + 2) (n := av_np σ) (M := M) (by omega) e2 (Int32.add_zero _) hpos (by omega) hLx (pZ_s hZ)
      rw [if_pos q0, ae_L_law_112, ea, am_bnx_v]
      simp only [am_tl_s]
      exact lr_117 hn hm hh hLx hbd hi hkk (by omega) hZ h
theorem lr_28 {n made : Nat} {o6 o8 o9 o10 o11 o12 o13 o14 o15 o16 o17 o18 o19 o20 o21 : Option Value} {K : Nat} {Q : Option Value → am_M → Prop} {M : am_M} (hn : n < 50) (hm : made ≤ n) (hh : hk S made σ L H) (hLx : Lx ≤ 260) (hbd : bd < 200000000) (hi : iw bd σ) (hZ : pZ Lx xs S bd σ L H P M)
    (h : ∀ (S' : Nat → Int64) (made' : Nat) (σ' : Nat → Int32) (L' : List (Nat → Int32)) (H' : List av_K) o6 o8 o9 o10 o11 o12 o13 o14 o15 o16 o17 o18 o19 o20 o21 M', made' ≤ n + 1 → hk S' made' σ' L' H' → iw (bd + 1240) σ' → pZ Lx xs S' (bd + 1240) σ' L' H' P M' → wq (am_val iL_law 28 [some (.ref (am_c 0 44)), some (.ref (am_c 0 12)), some (.ref (am_c 274 27)), some (.int (nI made')), some (.int (nI (5 * (n + 1)))), some (.int (nI (n + 1))), o6, none, o8, o9, o10, o11, o12, o13, o14, o15, o16, o17, o18, o19, o20, o21] [] M') K Q) :
    wq (am_val iL_law 28 [some (.ref (am_c 0 44)), some (.ref (am_c 0 12)), some (.ref (am_c 274 27)), some (.int (nI made)), some (.int (nI (5 * n))), some (.int (nI n)), o6, none, o8, o9, o10, o11, o12, o13, o14, o15, o16, o17, o18, o19, o20, o21] [] M) (1200 + K) Q := by
  obtain ⟨hn0, h6, hl8⟩ := pZ_np hZ
  rw [ae_L_law_28, if_neg (show ¬ 50 ≤ nI n from nI_ge (b := 50) hn (by decide)), ae_L_law_35]
  refine wq_l (lq_sum hZ) (by omega) fun M1 hZ1 => ?_
  simp only [am_tl_s]
  rw [ae_L_law_39]
  refine wq_i (lq_acc10 hZ1) (by omega) fun M2 hZ2 => ?_
  simp only [am_tl_s]
  rw [ae_L_law_47]
  by_cases q3 : n < 3
  · rw [if_neg (show ¬ 3 ≤ nI n from nI_ge (b := 3) q3 (by decide)), ae_L_law_55]
    refine wq_i (lq_acc (a := nI (av_np σ)) hZ2 hn0) (by omega) fun M3 hZ3 => ?_
    simp only [am_tl_s]
    exact wq_k (lr_84 (kk := 0) hn hm hh hLx hbd hi (by decide) hZ3 h) (by omega)
  · rw [if_pos (show 3 ≤ nI n from nI_le (a := 3) (by omega) (by omega)), ae_L_law_59]
    by_cases q5 : n < 5
    · rw [if_neg (show ¬ 5 ≤ nI n from nI_ge (b := 5) q5 (by decide)), ae_L_law_65]
      refine wq_i (lq_acc (a := nI (av_np σ)) hZ2 hn0) (by omega) fun M3 hZ3 => ?_
      simp only [am_tl_s]
      exact wq_k (lr_84 (kk := 4) hn hm hh hLx hbd hi (by decide) hZ3 h) (by omega)
    · obtain ⟨kk, hkk, ek⟩ := lq_pick (Lx := Lx) (xs := xs) (x := nI (5 * n)) (y := 31) (j := 5 * n) (n := 31) (M := M2) (by omega) rfl rfl (by decide) (by decide) hLx (pZ_s hZ2)
      rw [if_pos (show 5 ≤ nI n from nI_le (a := 5) (by omega) (by omega)), ae_L_law_69, ek, am_bnx_v]
      simp only [am_tl_s]
      rw [ae_L_law_77]
      refine wq_i (lq_acc (a := nI (av_np σ)) hZ2 hn0) (by omega) fun M3 hZ3 => ?_
      simp only [am_tl_s]
      exact wq_k (lr_84 hn hm hh hLx hbd hi hkk hZ3 h) (by omega)
end
/-- the loop, and the end -/
theorem lw_loop {Lx : Nat} {xs : Nat → Int32} {P : Option av_K} (hLx : Lx ≤ 260) : ∀ m n, n + m = 50 → ∀ (S : Nat → Int64) (made bd : Nat) (σ : Nat → Int32) (L : List (Nat → Int32)) (H : List av_K) o6 o8 o9 o10 o11 o12 o13 o14 o15 o16 o17 o18 o19 o20 o21 M, made ≤ n → bd ≤ 30 + 1240 * n → hk S made σ L H → iw bd σ → pZ Lx xs S bd σ L H P M → wq (am_val iL_law 28 [some (.ref (am_c 0 44)), some (.ref (am_c 0 12)), some (.ref (am_c 274 27)), some (.int (nI made)), some (.int (nI (5 * n))), some (.int (nI n)), o6, none, o8, o9, o10, o11, o12, o13, o14, o15, o16, o17, o18, o19, o20, o21] [] M) (1200 * m + 2100) (qi (fun _ => True) 1) := by
  intro m
  induction m with
  | zero =>
    intro n hnm S made bd σ L H o6 o8 o9 o10 o11 o12 o13 o14 o15 o16 o17 o18 o19 o20 o21 M hm hbd hh hi hZ
    obtain rfl : n = 50 := by omega
    rw [ae_L_law_28, if_pos (by decide), ae_L_law_440]
    refine wq_i (lq_isKept (made := made) rfl (by omega) hZ hh) (by omega) fun M1 _ => ?_
    simp only [am_tl_s]
    rw [ae_L_law_446 (Or.inr rfl)]
    exact wq_e ⟨rfl, trivial⟩
  | succ m ih =>
    intro n hnm S made bd σ L H o6 o8 o9 o10 o11 o12 o13 o14 o15 o16 o17 o18 o19 o20 o21 M hm hbd hh hi hZ
    refine wq_k (lr_28 (K := 1200 * m + 2100) (by omega) hm hh hLx (by omega) hi hZ fun S' made' σ' L' H' o6 o8 o9 o10 o11 o12 o13 o14 o15 o16 o17 o18 o19 o20 o21 M' hm' hh' hi' hZ' => ?_) (by omega)
    exact ih (n + 1) (by omega) S' made' (bd + 1240) σ' L' H' _ _ _ _ _ _ _ _ _ _ _ _ _ _ _ M' hm' (by omega) hh' hi' hZ'
