/-! the second implementation: a sound led ahead -/
theorem av_fs_ys {D : Nat} {M X : am_M} (h : av_fs D M X) : av_ys D M X := av_ys_fs h
theorem av_fs_0 {D : Nat} {M : am_M} : av_fs D M M := ⟨rfl, fun _ _ _ _ _ => rfl⟩
/-! echoIn, comes -/
/-- the least of them, or -1 -/
def av_cg (σ : Nat → Int32) (L : List (Nat → Int32)) (p : Int32) (k : Nat) (x : Int32) : Int32 := if av_bi (av_et σ (av_s L k) p) = -1 then x else if x = -1 then av_bi (av_et σ (av_s L k) p) else if x ≤ av_bi (av_et σ (av_s L k) p) then x else av_bi (av_et σ (av_s L k) p)
def av_cm (σ : Nat → Int32) (L : List (Nat → Int32)) (p : Int32) : Int32 := am_it (av_cg σ L p) L.length (-1)
def aq_comes (σ : Nat → Int32) (L : List (Nat → Int32)) (a : Int32) : av_A := if am_ltb a (av_np σ) = false then .inr (1, 1) else if av_cm σ L (σ (51 + 5 * av_ix a)) = -1 then .inr (3, 2) else .inl (av_cm σ L (σ (51 + 5 * av_ix a)))
