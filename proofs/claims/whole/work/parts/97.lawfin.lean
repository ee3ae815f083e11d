/-! the law, from its first line to its end -/
theorem c0_fin {Lx k1 s1 k2 s2 : Nat} {xs : Nat → Int32} {A B : am_M} (r1 : am_val iX12_init 0 (am_ent iX12_init [.ref (am_c 0 12)]) [] (fun _ _ => 0, fun _ _ => 0, fun _ _ => 0, fun _ _ => 0, 1, Lx, xs) = some (.inl none, am_th Lx xs A, k1, s1)) (hA : A.2.2.2.2.1 = 274) (r2 : am_val iX13_init 0 (am_ent iX13_init [.ref (am_c 274 13)]) [] (am_th Lx xs (am_mk 13 A)) = some (.inl none, am_th Lx xs B, k2, s2)) (hB : B.2.2.2.2.1 = 282) : am_val iL_law 0 [some (.ref (am_c 0 44)), none, none, none, none, none, none, none, none] [] (fun _ _ => 0, fun _ _ => 0, fun _ _ => 0, fun _ _ => 0, 0, Lx, xs) = am_add (am_add (am_add (am_add (am_add (am_add (am_val iL_law 28 [some (.ref (am_c 0 44)), some (.ref (am_c 0 12)), some (.ref (am_c 274 13)), some (.ref (am_c 282 27)), some (.ref (am_c 283 28)), some (.int (nI 0)), none, none, none] [] (am_th Lx xs (am_mk 28 (am_mk 27 B)))) 1 1) 1 1) k2 s2) 1 (am_nf 13)) k1 s1) 1 (am_nf 12) := by
  obtain ⟨I, R, l, d, n, q⟩ := A
  have hA : n = 274 := hA
  subst hA
  obtain ⟨I2, R2, l2, d2, n2, q2⟩ := B
  have hB : n2 = 282 := hB
  subst hB
  rw [c0_pA r1]
  have e2 : am_val iL_law 7 [some (.ref (am_c 0 44)), none, none, none, none, none, none, none, none] [.ref (am_c 0 12)] (am_th Lx xs (I, R, l, d, 274, q)) = _ := c0_pB r2
  rw [e2]
  have e3 : am_val iL_law 15 [some (.ref (am_c 0 44)), some (.ref (am_c 0 12)), none, none, none, none, none, none, none] [.ref (am_c 274 13)] (am_th Lx xs (I2, R2, l2, d2, 282, q2)) = _ := c0_pC
  rw [e3]
  rfl
theorem c0_run {f d y : Nat} {L : am_L} {M : am_M} {r : am_T} (Lx : Nat) (xs : Nat → Int32) (hy : am_ini y = true) (hr : r = am_run f d y 0 L [] M) (h : c0_ok r = true) : am_val y 0 L [] (am_th Lx xs M) = some (.inl none, am_th Lx xs (c0_mem r), c0_k r, c0_s r) := by
  have e := c0_of h
  rw [hr] at e
  have t := am_th_run (Lx := Lx) (xs := xs) _ _ _ _ _ _ _ _ hy e
  rw [← hr] at t
  exact am_val_of ⟨f, d, t⟩
theorem c0_and {a b c d : Bool} (h : (a && b && c && d) = true) : a = true ∧ b = true ∧ c = true ∧ d = true := by
  revert h
  revert a b c d
  decide
theorem c0_end (Lx : Nat) (xs : Nat → Int32) (hL : Lx ≤ 2048) : ∃ (M1 : am_M) (k sl : Nat), am_val iL_law 0 [some (.ref (am_c 0 44)), none, none, none, none, none, none, none, none] [] (fun _ _ => 0, fun _ _ => 0, fun _ _ => 0, fun _ _ => 0, 0, Lx, xs) = some (.inl (some (.int 1)), M1, k, sl) ∧ k ≤ 603072 ∧ sl ≤ 7215210 := by
  obtain ⟨a1, a2, a3, a4⟩ := c0_and c0_1
  obtain ⟨b1, b2, b3, b4⟩ := c0_and c0_2
  have a2 := Nat.eq_of_beq_eq_true a2
  have b2 := Nat.eq_of_beq_eq_true b2
  have a3 := Nat.le_of_ble_eq_true a3
  have a4 := Nat.le_of_ble_eq_true a4
  have b3 := Nat.le_of_ble_eq_true b3
  have b4 := Nat.le_of_ble_eq_true b4
  have r1 := c0_run (f := 100000) (d := 9) (y := iX12_init) (L := am_ent iX12_init [.ref (am_c 0 12)]) (M := c0_M0) (r := c0_r1) Lx xs (by decide) rfl a1
  have r2 := c0_run (f := 100000) (d := 9) (y := iX13_init) (L := am_ent iX13_init [.ref (am_c 274 13)]) (M := c0_M2) (r := c0_r2) Lx xs (by decide) rfl b1
  have fin := c0_fin (A := c0_mem c0_r1) (B := c0_mem c0_r2) r1 a2 r2 b2
  obtain ⟨M', k, sl, e, hk, hs⟩ := lw_loop (xs := xs) hL 512 10 0 (am_th Lx xs c0_M5) none none none (by omega) (by decide) (by decide) (c0_st Lx xs)
  have e : am_val iL_law 28 [some (.ref (am_c 0 44)), some (.ref (am_c 0 12)), some (.ref (am_c 274 13)), some (.ref (am_c 282 27)), some (.ref (am_c 283 28)), some (.int (nI 0)), none, none, none] [] (am_th Lx xs (am_mk 28 (am_mk 27 (c0_mem c0_r2)))) = some (.inl (some (.int 1)), M', k, sl) := e
  rw [e] at fin
  have n1 : am_nf 12 ≤ 100 := by decide
  have n2 : am_nf 13 ≤ 100 := by decide
  refine ⟨M', _, _, fin, ?_, ?_⟩
  · generalize c0_k c0_r1 = x at a3 ⊢
    generalize c0_k c0_r2 = y at b3 ⊢
    omega
  · generalize c0_s c0_r1 = x at a4 ⊢
    generalize c0_s c0_r2 = y at b4 ⊢
    omega
