/-! constructors, by the kernel -/
def c0_M0 : am_M := (fun _ _ => 0, fun _ _ => 0, fun _ _ => 0, fun _ _ => 0, 1, 0, fun _ => 0)
def c0_ok (r : am_T) : Bool := match r with
  | some (.inl none, _, _, _) => true
  | _ => false
def c0_mem (r : am_T) : am_M := match r with
  | some (_, M, _, _) => M
  | none => c0_M0
def c0_k (r : am_T) : Nat := match r with
  | some (_, _, k, _) => k
  | none => 0
def c0_s (r : am_T) : Nat := match r with
  | some (_, _, _, s) => s
  | none => 0
theorem c0_of {r : am_T} (h : c0_ok r = true) : r = some (.inl none, c0_mem r, c0_k r, c0_s r) := by
  cases r with
  | none => exact absurd (show false = true from h) (by decide)
  | some q =>
    obtain ⟨o, M, k, s⟩ := q
    cases o with
    | inl v =>
      cases v with
      | none => rfl
      | some v => exact absurd (show false = true from h) (by decide)
    | inr e => exact absurd (show false = true from h) (by decide)
def c0_r1 : am_T := am_run 100000 9 iX12_init 0 (am_ent iX12_init [.ref (am_c 0 12)]) [] c0_M0
theorem c0_1 : (c0_ok c0_r1 && Nat.beq (c0_mem c0_r1).2.2.2.2.1 274 && Nat.ble (c0_k c0_r1) 1000 && Nat.ble (c0_s c0_r1) 100000) = true := by decide +kernel
def c0_M5 : am_M := am_mk 27 (c0_mem c0_r1)
/-! what the constructors made -/
def c0_σ (j : Nat) : Int32 := if j = 9 ∨ j = 12 ∨ j = 15 then 10 else if 18 ≤ j ∧ j < 50 ∧ j % 2 = 1 then -1 else 0
def c0_B (b : Nat) : Nat := if b < 8 then 27 + 24 * b else if b = 8 then 1 else if b = 9 then 219 else 249
def c0_A1 (M : am_M) : Prop := ∀ b, b < 11 → av_shp M.2.1 (c0_B b)
def c0_A2 (M : am_M) : Prop := ∀ b, b < 11 → (∀ k, k < 8 → M.2.1 (am_c (c0_B b + 9) 26) k = am_c (c0_B b + 16 + k) 8 + 1) ∧ M.1 (am_c (c0_B b) 1) 5 = 0 ∧ ∀ i, i < 8 → M.1 (am_c (c0_B b + 16 + i) 8) 1 = 0
def c0_A3 (M : am_M) : Prop := ∀ b, b < 11 → av_rw M.1 (c0_B b) c0_σ ∧ av_rt M.1 (c0_B b) c0_σ
def c0_A4 (M : am_M) : Prop := ∀ b, b < 11 → av_rn M.1 (c0_B b) c0_σ ∧ av_rp M.1 (c0_B b) c0_σ
def c0_A5 (M : am_M) : Prop := av_x0 M false ∧ av_hsh M.2.1 25
def c0_A6 (M : am_M) : Prop := M.1 (am_c 25 3) 1 = 0 ∧ M.1 (am_c 25 3) 2 = 0 ∧ av_x4 M (0, 0, 0) ∧ (M.2.1 (am_c 244 10) 0 = am_c 245 22 + 1 ∧ M.1 (am_c 244 10) 1 = 0 ∧ M.1 (am_c 244 10) 4 = -1) ∧ (M.2.1 (am_c 246 4) 0 = am_c 247 23 + 1 ∧ M.1 (am_c 246 4) 1 = 0) ∧ M.1 (am_c 273 8) 1 = 0
theorem c0_C {M : am_M} (a1 : c0_A1 M) (a2 : c0_A2 M) (a3 : c0_A3 M) (a4 : c0_A4 M) (b : Nat) (hb : b < 11) : av_C M (c0_B b) (fun k => c0_B b + 16 + k) c0_σ [] := by
  obtain ⟨h2, h3, h8⟩ := a2 b hb
  refine ⟨⟨a1 b hb, h2, fun k hk => ?_, fun k l _ _ h => ?_⟩, ⟨by decide, by decide, by decide, h3⟩, (a3 b hb).1, (a3 b hb).2, (a4 b hb).1, (a4 b hb).2, fun k hk => absurd hk (Nat.not_lt_zero _), fun i a1 a2 => Or.inl ?_⟩
  · show c0_B b + 16 ≤ c0_B b + 16 + k ∧ c0_B b + 16 + k < c0_B b + 24
    omega
  · have h : c0_B b + 16 + k = c0_B b + 16 + l := h
    omega
  · have h := h8 (i - (c0_B b + 16)) (by omega)
    rw [show c0_B b + 16 + (i - (c0_B b + 16)) = i by omega] at h
    exact h
theorem c0_x {M : am_M} (hC : ∀ b, b < 11 → av_C M (c0_B b) (fun k => c0_B b + 16 + k) c0_σ []) (a5 : c0_A5 M) (a6 : c0_A6 M) : av_x M c0_σ [] [] none (0, 0, 0) 0 (fun _ => 0) (-1) [] := by
  obtain ⟨x0, hs⟩ := a5
  obtain ⟨n1, n2, x4, ⟨t0, t1, t4⟩, ⟨l0, l1⟩, p1⟩ := a6
  refine ⟨x0, ⟨_, hC 8 (by decide)⟩, ⟨hs, by decide, 0, fun _ => (c0_σ, []), by decide, n1, n2, fun i hi => ?_, fun j hj => absurd hj (Nat.not_lt_zero _)⟩, ⟨_, _, _, hC 9 (by decide), fun p hp => by cases hp⟩, x4, ⟨t0, by decide, t1, t4, fun j hj => absurd hj (Nat.not_lt_zero _)⟩, ⟨l0, by decide, l1, fun j hj => absurd hj (Nat.not_lt_zero _), fun j hj => absurd hj (Nat.not_lt_zero _)⟩, ⟨_, _, _, hC 10 (by decide)⟩, Or.inl p1⟩
  have h := hC i (by omega)
  have e : c0_B i = 25 + 2 + 24 * i := by unfold c0_B; rw [if_pos hi]
  rw [e] at h
  exact ⟨_, h⟩
theorem c0_okk : av_ok 10 c0_σ [] := by
  refine ⟨fun p hp => ⟨0, by decide, ?_, Or.inl ?_⟩, fun t ht => ⟨10, Nat.le_refl _, ?_⟩, by decide, fun p hp => absurd hp (by rw [show av_np c0_σ = 0 by decide]; exact Nat.not_lt_zero _), fun k hk => absurd hk (Nat.not_lt_zero _), by decide, by decide, by decide⟩
  · unfold c0_σ
    rw [if_neg (by omega), if_neg (by omega)]
    rfl
  · unfold c0_σ
    rw [if_neg (by omega), if_pos (by omega)]
  · unfold c0_σ
    rw [if_pos (by omega)]
    rfl
theorem c0_f1 : c0_A1 c0_M5 := by
  unfold c0_A1 av_shp
  decide +kernel
theorem c0_f2 : c0_A2 c0_M5 := by
  unfold c0_A2
  decide +kernel
theorem c0_f3 : c0_A3 c0_M5 := by
  unfold c0_A3 av_rw av_rt
  decide +kernel
theorem c0_f4 : c0_A4 c0_M5 := by
  unfold c0_A4 av_rn av_rp
  decide +kernel
theorem c0_f5 : c0_A5 c0_M5 := by
  unfold c0_A5 av_x0 av_hsh
  decide +kernel
theorem c0_f6 : c0_A6 c0_M5 := by
  unfold c0_A6 av_x4
  decide +kernel
theorem c0_iw : iw 30 c0_σ := by
  refine ⟨by decide, ⟨0, 0, Nat.le_refl _, Nat.zero_le _, by decide, by decide⟩, fun p hp => absurd hp (by rw [show av_np c0_σ = 0 by decide]; exact Nat.not_lt_zero _), by decide, by decide, fun t ht => ⟨0, 0, Nat.le_refl _, Nat.zero_le _, ?_, ?_⟩⟩
  · unfold c0_σ
    rw [if_neg (by omega), if_neg (by omega)]
    rfl
  · unfold c0_σ
    rw [if_neg (by omega), if_neg (by omega)]
    rfl
theorem c0_okS : av_okS 30 c0_σ [] [] none := ⟨av_ok_m c0_okk (by decide), fun j hj => absurd hj (Nat.not_lt_zero _), fun p hp => by cases hp⟩
theorem c0_run {f d y : Nat} {L : am_L} {M : am_M} {r : am_T} (Lx : Nat) (xs : Nat → Int32) (hy : am_in1 y = true) (hr : r = am_run f d y 0 L [] M) (h : c0_ok r = true) : am_val y 0 L [] (am_th Lx xs M) = some (.inl none, am_th Lx xs (c0_mem r), c0_k r, c0_s r) := by
  have e := c0_of h
  rw [hr] at e
  have t := am_th_run (Lx := Lx) (xs := xs) _ _ _ _ _ _ _ _ hy e
  rw [← hr] at t
  exact am_val_of ⟨f, d, t⟩
theorem c0_and {a b c d : Bool} (h : (a && b && c && d) = true) : a = true ∧ b = true ∧ c = true ∧ d = true := by
  revert h
  revert a b c d
  decide
theorem c0_keep {f d y q : Nat} {L : am_L} {M : am_M} {r : am_T} (hq : q % 64 = 15 ∨ q % 64 = 18) (hy : am_in1 y = true) (hr : r = am_run f d y 0 L [] M) (h : c0_ok r = true) : (c0_mem r).1 q = M.1 q := by
  have e : am_run f d y 0 L [] M = some (.inl none, c0_mem r, c0_k r, c0_s r) := hr.symm.trans (c0_of h)
  have t := am_kf_run hq _ _ _ _ _ _ _ _ hy e
  exact t
theorem c0_fr {q j : Nat} {A : am_M} (h : A.1 q = c0_M0.1 q) : (am_mk 27 A).1 q j = 0 := congrFun h j
theorem c0_fresh {c k j : Nat} (hk : k = 15 ∨ k = 18) : c0_M5.1 (am_c c k) j = 0 := by
  have t := c0_keep (f := 100000) (d := 9) (y := iX12_init) (L := am_ent iX12_init [.ref (am_c 0 12)]) (M := c0_M0) (r := c0_r1) (q := am_c c k) (by show (64 * c + k) % 64 = 15 ∨ (64 * c + k) % 64 = 18; omega) (by decide) rfl (c0_and c0_1).1
  unfold c0_M5
  exact c0_fr t
