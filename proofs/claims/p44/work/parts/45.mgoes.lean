/-! the second implementation: a sound goes -/
def av_fS (D : Nat) (M M' : am_M) : Prop := M'.2 = M.2 ∧ ∀ x k j, k < 64 → ¬ (x = D + 1 ∧ k = 18) → M'.1 (am_c x k) j = M.1 (am_c x k) j
theorem av_fS_0 {D : Nat} {M : am_M} : av_fS D M M := ⟨rfl, fun _ _ _ _ _ => rfl⟩
theorem av_fS_t {D : Nat} {M x y : am_M} (h : av_fS D M x) (h' : av_fS D x y) : av_fS D M y := ⟨h'.1.trans h.1, fun a k j h1 h2 => (h'.2 a k j h1 h2).trans (h.2 a k j h1 h2)⟩
theorem av_fS_s {D a : Nat} {x : Int32} {M : am_M} : av_fS D M (av_i M (am_c (D + 1) 18) a x) := ⟨rfl, fun _ _ _ hk h3 => am_up_a (am_c_ne hk (by decide) h3)⟩
theorem av_fS_fm {D : Nat} {M x : am_M} (h : av_fS D M x) : av_fm D M x := ⟨h.1, fun a k j h1 _ h3 => h.2 a k j h1 h3⟩
theorem av_fS_f {D f : Nat} {M x : am_M} (h : av_fS D M x) : x.1 (am_c D 13) f = M.1 (am_c D 13) f := h.2 _ _ _ (by decide) (by omega)
