/-! constructors, by the kernel -/
def c0_M0 : am_M := (fun _ _ => 0, fun _ _ => 0, fun _ _ => 0, fun _ _ => 0, 1, 0, fun _ => 0)
def c0_ok (r : am_T) : Bool := match r with
  | some (.inl none, _, _, _) => true
  | _ => false
def c0_mem (r : am_T) : am_M := match r with
  | some (_, M, _, _) => M
  | none => c0_M0
def c0_k (r : am_T) : Nat := match r with
  | some (_, _, k, _) => k
  | none => 0
def c0_s (r : am_T) : Nat := match r with
  | some (_, _, _, s) => s
  | none => 0
theorem c0_of {r : am_T} (h : c0_ok r = true) : r = some (.inl none, c0_mem r, c0_k r, c0_s r) := by
  cases r with
  | none => exact absurd (show false = true from h) (by decide)
  | some q =>
    obtain ⟨o, M, k, s⟩ := q
    cases o with
    | inl v =>
      cases v with
      | none => rfl
      | some v => exact absurd (show false = true from h) (by decide)
    | inr e => exact absurd (show false = true from h) (by decide)
def c0_r1 : am_T := am_run 100000 9 iX12_init 0 (am_ent iX12_init [.ref (am_c 0 12)]) [] c0_M0
theorem c0_1 : (c0_ok c0_r1 && Nat.beq (c0_mem c0_r1).2.2.2.2.1 274 && Nat.ble (c0_k c0_r1) 1000 && Nat.ble (c0_s c0_r1) 100000) = true := by decide +kernel
def c0_M2 : am_M := am_mk 13 (c0_mem c0_r1)
def c0_r2 : am_T := am_run 100000 9 iX13_init 0 (am_ent iX13_init [.ref (am_c 274 13)]) [] c0_M2
theorem c0_2 : (c0_ok c0_r2 && Nat.beq (c0_mem c0_r2).2.2.2.2.1 282 && Nat.ble (c0_k c0_r2) 1000 && Nat.ble (c0_s c0_r2) 100000) = true := by decide +kernel
def c0_M5 : am_M := am_mk 28 (am_mk 27 (c0_mem c0_r2))
