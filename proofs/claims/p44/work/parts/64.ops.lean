/-! one call on both sides -/
theorem av_x_l {σ : Nat → Int32} {L : List (Nat → Int32)} {H : List av_K} {P : Option av_K} {q : Int32 × Int32 × Int32} {n : Nat} {T : Nat → Int32} {f : Int32} {l : List Int32} {a j : Nat} {x : Int64} {M : am_M} (hx : av_x M σ L H P q n T f l) : av_x (av_l M a j x) σ L H P q n T f l := hx
/-- an answer, or an exception and the law's number for it -/
abbrev av_A : Type := Int32 ⊕ (Nat × Int32)
def av_qc (r : am_T) (A : av_A) (M1 : am_M) : Prop := match A with
  | .inl v => r = some (.inl (some (.int v)), M1, 0, 0)
  | .inr (e, _) => r = some (.inr e, M1, 1, 6)
def av_qm (D : Nat) (r : am_T) (A : av_A) (M1 : am_M) : Prop := match A with
  | .inl v => r = some (.inl (some (.int v)), M1, 0, 0) ∧ M1.1 (am_c D 13) 0 = 0
  | .inr (_, k) => ∃ w, r = some (.inl (some (.int w)), M1, 0, 0) ∧ M1.1 (am_c D 13) 0 = k
/-! the eight orders -/
