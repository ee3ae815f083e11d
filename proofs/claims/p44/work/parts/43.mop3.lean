/-! the second implementation: players come, shouts -/
theorem av_mr_c {s σ σ' : Nat → Int32} {L : List (Nat → Int32)} (h : av_mr s σ L) (he : ∀ j, j < 80 → j ≠ 1 → σ j = σ' j) : av_mr s σ' L :=
  ⟨fun j h1 h2 => (h.1 j h1 h2).trans (he j h1 h2), h.2.1, h.2.2⟩
