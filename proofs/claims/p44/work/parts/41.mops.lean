/-! the second implementation: orders -/
def av_fm (D : Nat) (M M' : am_M) : Prop := M'.2 = M.2 ∧ ∀ x k j, k < 64 → ¬ (x = D ∧ k = 13 ∧ 16 ≤ j ∧ j ≤ 22) → ¬ (x = D + 1 ∧ k = 18) → M'.1 (am_c x k) j = M.1 (am_c x k) j
theorem av_fm_0 {D : Nat} {M : am_M} : av_fm D M M := ⟨rfl, fun _ _ _ _ _ _ => rfl⟩
theorem av_fm_t {D : Nat} {M x y : am_M} (h : av_fm D M x) (h' : av_fm D x y) : av_fm D M y := ⟨h'.1.trans h.1, fun a k j h1 h2 h3 => (h'.2 a k j h1 h2 h3).trans (h.2 a k j h1 h2 h3)⟩
theorem av_fm_s {D a : Nat} {x : Int32} {M : am_M} : av_fm D M (av_i M (am_c (D + 1) 18) a x) := ⟨rfl, fun c k j hk _ h3 => am_up_a (am_c_ne hk (by decide) h3)⟩
theorem av_fm_f {D f : Nat} {x : Int32} {M : am_M} (h1 : 16 ≤ f) (h2 : f ≤ 22) : av_fm D M (av_i M (am_c D 13) f x) := ⟨rfl, fun c k j hk h _ => by
  show am_up M.1 (am_c D 13) f x (am_c c k) j = _
  refine am_up_ak (fun hh => h ?_)
  have e := hh.1
  rw [am_c_inj hk (by decide)] at e
  exact ⟨e.1, e.2, by omega, by omega⟩⟩
theorem av_is {M : am_M} {a k : Nat} {v : Int32} : (av_i M a k v).1 a = av_up (M.1 a) k v := by
  funext j
  show am_up M.1 a k v a j = av_up (M.1 a) k v j
  unfold am_up av_up
  by_cases h : j = k
  · rw [if_pos h, if_pos rfl, if_pos h]
  · rw [if_neg h, if_neg h]
theorem av_isf {D : Nat} {M : am_M} {k : Nat} {v : Int32} : (av_i M (am_c D 13) k v).1 (am_c (D + 1) 18) = M.1 (am_c (D + 1) 18) := by
  funext j
  exact am_up_a (am_c_ne (by decide) (by decide) (by omega))
theorem av_ifs {D : Nat} {M : am_M} {k f : Nat} {v : Int32} : (av_i M (am_c (D + 1) 18) k v).1 (am_c D 13) f = M.1 (am_c D 13) f := am_up_a (am_c_ne (by decide) (by decide) (by omega))
theorem av_iff {D : Nat} {M : am_M} {f : Nat} {v : Int32} : (av_i M (am_c D 13) f v).1 (am_c D 13) f = v := am_up_s
theorem av_ifg {D : Nat} {M : am_M} {f g : Nat} {v : Int32} (h : ¬ g = f) : (av_i M (am_c D 13) f v).1 (am_c D 13) g = M.1 (am_c D 13) g := am_up_k h
def av_MO (D : Nat) (M M' : am_M) (code : Int32) (q : Option (Int32 × Int32)) (ans : Int32) (σ' : Nat → Int32) (L' : List (Nat → Int32)) : Prop := av_fm D M M' ∧ match q with
  | none => code = 0 ∧ M'.1 (am_c D 13) 17 = ans ∧ av_mr (M'.1 (am_c (D + 1) 18)) σ' L'
  | some (x, y) => code = x ∧ M'.1 (am_c D 13) 16 = y ∧ M'.1 (am_c (D + 1) 18) = M.1 (am_c (D + 1) 18)
theorem av_MO_r {D : Nat} {M : am_M} {x y ans : Int32} {σ' : Nat → Int32} {L' : List (Nat → Int32)} {q : Option (Int32 × Int32)} (hq : q = some (x, y)) : av_MO D M (av_i M (am_c D 13) 16 y) x q ans σ' L' := by
  rw [hq]
  exact ⟨av_fm_f (by decide) (by decide), rfl, av_iff, av_isf⟩
theorem av_MO_d {D : Nat} {M X : am_M} {ans : Int32} {σ' : Nat → Int32} {L' : List (Nat → Int32)} {q : Option (Int32 × Int32)} (hq : q = none) (h1 : av_fm D M X) (h2 : av_mr (X.1 (am_c (D + 1) 18)) σ' L') : av_MO D M (av_i X (am_c D 13) 17 ans) 0 q ans σ' L' := by
  rw [hq]
  exact ⟨av_fm_t h1 (av_fm_f (by decide) (by decide)), rfl, av_iff, by rw [av_isf]; exact h2⟩
theorem av_mr_up {s σ : Nat → Int32} {L : List (Nat → Int32)} {i : Nat} {x : Int32} (h : av_mr s σ L) (hi : i < 80) (h1 : i ≠ 1) : av_mr (av_up s i x) (av_up σ i x) L := by
  refine ⟨fun j hj hj1 => ?_, by rw [av_up_n (Ne.symm h1)]; exact h.2.1, fun k hk w hw => by rw [av_up_n (by omega)]; exact h.2.2 k hk w hw⟩
  by_cases hji : j = i
  · rw [hji, av_up_s, av_up_s]
  · rw [av_up_n hji, av_up_n hji]; exact h.1 j hj hj1
/-- the model's memory holds the canyon -/
def av_MD (D : Nat) (M : am_M) (σ : Nat → Int32) (L : List (Nat → Int32)) : Prop := av_msh M.2.1 D ∧ av_mr (M.1 (am_c (D + 1) 18)) σ L
