/-! one call on both sides -/
theorem al_isEcho_v {a : Int32} {v : Bool} {M M1 : am_M} (h : am_val iX12_isEcho 0 [some (.ref (am_c 0 12)), some (.int a)] [] M = some (.inl (some (.int (am_bi v))), M1, 0, 0)) : am_val iL_isEcho 0 [some (.ref (am_c 0 12)), some (.int a), some (.ref (am_c 282 27)), none] [] M = some (.inl (some (.int 0)), av_l M1 (am_c 282 27) 0 (am_bi v).toInt64, 0, 0) := by
  cases v with
  | false =>
    simp only [ae_L_isEcho_0, ae_L_isEcho_7, ae_L_isEcho_10, ae_L_isEcho_14, ae_L_isEcho_20, am_bnx_v, am_bnx_e, am_tl_s, am_tl_n, am_rv_s, am_add_rx, h, am_bi_f, not_true_eq_false, not_false_eq_true, if_true, if_false, am_1n0, or_true, true_or, eq_self, Bool.true_eq_false, Bool.false_eq_true, cond_true, cond_false]
    rfl
  | true =>
    simp only [ae_L_isEcho_0, ae_L_isEcho_7, ae_L_isEcho_10, ae_L_isEcho_14, ae_L_isEcho_20, am_bnx_v, am_bnx_e, am_tl_s, am_tl_n, am_rv_s, am_add_rx, h, am_bi_t, not_true_eq_false, not_false_eq_true, if_true, if_false, am_1n0, or_true, true_or, eq_self, Bool.true_eq_false, Bool.false_eq_true, cond_true, cond_false]
    rfl
def av_I (bd Lx : Nat) (xs : Nat → Int32) (M : am_M) : Prop := (∃ σ L H P q n T f l, av_x M σ L H P q n T f l ∧ av_y 274 M σ L H P q n T f l ∧ av_okS bd σ L H P) ∧ M.2.2.2.2.2 = (Lx, xs)
/-- a helper of the law and the second implementation's call behind it -/
def av_OP (bd Lx : Nat) (xs : Nat → Int32) (r1 : am_T) (r2 : am_M → am_T) : Prop := ∃ (k : Int32) (M1 : am_M) (a b : Nat) (w : Int32) (M2 : am_M), r1 = some (.inl (some (.int k)), M1, a, b) ∧ a ≤ 1 ∧ b ≤ 6 ∧ r2 M1 = some (.inl (some (.int w)), M2, 0, 0) ∧ M2.1 (am_c 274 13) 0 = k ∧ (k = 0 → M2.2.2.1 (am_c 282 27) 0 = w.toInt64) ∧ av_I bd Lx xs M2 ∧ M1.2.2.2.2.2 = (Lx, xs)
theorem av_y_fx {σ : Nat → Int32} {L : List (Nat → Int32)} {H : List av_K} {P : Option av_K} {q : Int32 × Int32 × Int32} {n : Nat} {T : Nat → Int32} {f : Int32} {l : List Int32} {M M1 : am_M} (hy : av_y 274 M σ L H P q n T f l) (h : av_fx M M1) : av_y 274 M1 σ L H P q n T f l := av_y_g hy (fun c k j hk a _ => h.2 c k j hk a)
theorem av_y_l {σ : Nat → Int32} {L : List (Nat → Int32)} {H : List av_K} {P : Option av_K} {q : Int32 × Int32 × Int32} {n : Nat} {T : Nat → Int32} {f : Int32} {l : List Int32} {D a j : Nat} {x : Int64} {M : am_M} (hy : av_y D M σ L H P q n T f l) : av_y D (av_l M a j x) σ L H P q n T f l := hy
theorem av_x_l {σ : Nat → Int32} {L : List (Nat → Int32)} {H : List av_K} {P : Option av_K} {q : Int32 × Int32 × Int32} {n : Nat} {T : Nat → Int32} {f : Int32} {l : List Int32} {a j : Nat} {x : Int64} {M : am_M} (hx : av_x M σ L H P q n T f l) : av_x (av_l M a j x) σ L H P q n T f l := hx
theorem av_op_v {σ : Nat → Int32} {L : List (Nat → Int32)} {H : List av_K} {P : Option av_K} {q : Int32 × Int32 × Int32} {n : Nat} {T : Nat → Int32} {f : Int32} {l : List Int32} {bd Lx : Nat} {xs : Nat → Int32} {r1 : am_T} {r2 : am_M → am_T} {v : Int32} {M M1 M2 : am_M} (hs : M.2.2.2.2.2 = (Lx, xs)) (e1 : r1 = some (.inl (some (.int 0)), av_l M1 (am_c 282 27) 0 v.toInt64, 0, 0)) (f1 : av_fx M M1) (x1 : av_x M1 σ L H P q n T f l) (e2 : r2 (av_l M1 (am_c 282 27) 0 v.toInt64) = some (.inl (some (.int v)), M2, 0, 0)) (f2 : av_fy (av_l M1 (am_c 282 27) 0 v.toInt64) M2) (t : M2.1 (am_c 274 13) 0 = 0) (y2 : av_y 274 M2 σ L H P q n T f l) (ok : av_okS bd σ L H P) : av_OP bd Lx xs r1 r2 := by
  have s1 : (av_l M1 (am_c 282 27) 0 v.toInt64).2.2.2.2.2 = (Lx, xs) := by
    show M1.2.2.2.2.2 = (Lx, xs)
    rw [f1.1]
    exact hs
  refine ⟨0, _, 0, 0, v, M2, e1, by decide, by decide, e2, t, fun _ => ?_, ⟨⟨σ, L, H, P, q, n, T, f, l, av_x_g (av_x_l x1) (av_fy_ag f2), y2, ok⟩, by rw [f2.1]; exact s1⟩, s1⟩
  rw [f2.1]
  show am_up M1.2.2.1 (am_c 282 27) 0 v.toInt64 (am_c 282 27) 0 = _
  exact am_up_s
theorem av_op_e {σ : Nat → Int32} {L : List (Nat → Int32)} {H : List av_K} {P : Option av_K} {q : Int32 × Int32 × Int32} {n : Nat} {T : Nat → Int32} {f : Int32} {l : List Int32} {bd Lx : Nat} {xs : Nat → Int32} {r1 : am_T} {r2 : am_M → am_T} {k w : Int32} {M M1 M2 : am_M} (hs : M.2.2.2.2.2 = (Lx, xs)) (e1 : r1 = some (.inl (some (.int k)), M1, 1, 6)) (hk : ¬ k = 0) (f1 : av_fx M M1) (x1 : av_x M1 σ L H P q n T f l) (e2 : r2 M1 = some (.inl (some (.int w)), M2, 0, 0)) (f2 : av_fy M1 M2) (t : M2.1 (am_c 274 13) 0 = k) (y2 : av_y 274 M2 σ L H P q n T f l) (ok : av_okS bd σ L H P) : av_OP bd Lx xs r1 r2 := by
  have s1 : M1.2.2.2.2.2 = (Lx, xs) := by
    rw [f1.1]
    exact hs
  exact ⟨k, M1, 1, 6, w, M2, e1, by decide, by decide, e2, t, fun h => absurd h hk, ⟨⟨σ, L, H, P, q, n, T, f, l, av_x_g x1 (av_fy_ag f2), y2, ok⟩, by rw [f2.1]; exact s1⟩, s1⟩
/-- an answer, or an exception and the law's number for it -/
abbrev av_A : Type := Int32 ⊕ (Nat × Int32)
def av_qc (r : am_T) (A : av_A) (M1 : am_M) : Prop := match A with
  | .inl v => r = some (.inl (some (.int v)), M1, 0, 0)
  | .inr (e, _) => r = some (.inr e, M1, 1, 6)
def av_qm (D : Nat) (r : am_T) (A : av_A) (M1 : am_M) : Prop := match A with
  | .inl v => r = some (.inl (some (.int v)), M1, 0, 0) ∧ M1.1 (am_c D 13) 0 = 0
  | .inr (_, k) => ∃ w, r = some (.inl (some (.int w)), M1, 0, 0) ∧ M1.1 (am_c D 13) 0 = k
theorem av_op_q {σ : Nat → Int32} {L : List (Nat → Int32)} {H : List av_K} {P : Option av_K} {q : Int32 × Int32 × Int32} {n : Nat} {T : Nat → Int32} {f : Int32} {l : List Int32} {bd Lx : Nat} {xs : Nat → Int32} {r1 rx : am_T} {r2 : am_M → am_T} {A : av_A} {M : am_M} (hs : M.2.2.2.2.2 = (Lx, xs)) (hy : av_y 274 M σ L H P q n T f l) (ok : av_okS bd σ L H P) (hX : ∃ M1, av_qc rx A M1 ∧ av_fx M M1 ∧ av_x M1 σ L H P q n T f l) (hY : ∀ X, av_y 274 X σ L H P q n T f l → ∃ M2, av_qm 274 (r2 X) A M2 ∧ av_ys 274 X M2)
    (hv : ∀ v M1, A = .inl v → rx = some (.inl (some (.int v)), M1, 0, 0) → r1 = some (.inl (some (.int 0)), av_l M1 (am_c 282 27) 0 v.toInt64, 0, 0)) (he : ∀ e k M1, A = .inr (e, k) → rx = some (.inr e, M1, 1, 6) → ¬ k = 0 ∧ r1 = some (.inl (some (.int k)), M1, 1, 6)) : av_OP bd Lx xs r1 r2 := by
  obtain ⟨M1, c1, f1, x1⟩ := hX
  cases A with
  | inl v =>
    have y1 := av_y_l (a := am_c 282 27) (j := 0) (x := v.toInt64) (av_y_fx hy f1)
    obtain ⟨M2, m2, s2⟩ := hY _ y1
    exact av_op_v hs (hv v M1 rfl c1) f1 x1 m2.1 (av_ys_fy (Nat.le_refl _) s2) m2.2 (av_y_s y1 s2) ok
  | inr ek =>
    obtain ⟨e, k⟩ := ek
    have y1 := av_y_fx hy f1
    obtain ⟨M2, ⟨w, m2, t⟩, s2⟩ := hY _ y1
    obtain ⟨hk, e1⟩ := he e k M1 rfl c1
    exact av_op_e hs e1 hk f1 x1 m2 (av_ys_fy (Nat.le_refl _) s2) t (av_y_s y1 s2) ok
/-! the eight orders -/
theorem op_wall {a b : Int32} {bd Lx : Nat} {xs : Nat → Int32} {M : am_M} (hI : av_I bd Lx xs M) (hbd : bd < 1000000000) : av_OP (bd + 40) Lx xs (am_val iL_wall 0 [some (.ref (am_c 0 12)), some (.int a), some (.int b), some (.ref (am_c 282 27)), none] [] M) (fun M1 => am_val iX13_wall 0 [some (.ref (am_c 274 13)), some (.int a), some (.int b)] [] M1) := by
  obtain ⟨⟨σ, L, H, P, q, n, T, f, l, hx, hy, hS⟩, hs⟩ := hI
  obtain ⟨M1, fx, h⟩ := ac_change (c := 0) (a := a) (b := b) (g := 0) hx hS.1 (by decide) (Or.inl rfl)
  cases hr : av_ref σ L 0 a b with
  | none =>
    rw [hr] at h
    obtain ⟨e, x1⟩ := h
    have e0 : am_val iX12_wall 0 [some (.ref (am_c 0 12)), some (.int a), some (.int b)] [] M = some (.inl (some (.int (av_ans σ L 0 a b))), M1, 0, 0) := by simp only [ae_X12_wall_0, ae_X12_wall_10, am_bnx_v, am_bnx_e, am_tl_s, am_tl_n, am_rv_s, am_add_rx, e]
    obtain ⟨M2, r, e2, fy, yo⟩ := mc_wall (a := a) (b := b) (g := 0) (Nat.le_refl 274) (av_y_l (a := am_c 282 27) (j := 0) (x := (av_ans σ L 0 a b).toInt64) (av_y_fx hy fx)) hS
    rw [hr] at yo
    obtain ⟨hra, t, y⟩ := yo
    rw [hra] at e2
    exact av_op_v hs (al_wall_v e0) fx x1 e2 fy t y (av_okS_pu hS hx.2.2.1.2.1 (av_ok_all hS.1 hbd (by decide) (Or.inl rfl) hr) (by omega))
  | some xy =>
    obtain ⟨x, y⟩ := xy
    rw [hr] at h
    obtain ⟨e, x1⟩ := h
    have e0 : am_val iX12_wall 0 [some (.ref (am_c 0 12)), some (.int a), some (.int b)] [] M = some (.inr 0, M1, 1, 6) := by simp only [ae_X12_wall_0, ae_X12_wall_10, am_bnx_v, am_bnx_e, am_tl_s, am_tl_n, am_rv_s, am_add_rx, e]
    obtain ⟨M2, r, e2, fy, yo⟩ := mc_wall (a := a) (b := b) (g := 0) (Nat.le_refl 274) (av_y_fx hy fx) hS
    rw [hr] at yo
    obtain ⟨t, y⟩ := yo
    exact av_op_e hs (al_wall_e0 e0) (by decide) fx x1 e2 fy t y (av_okS_m hS (by omega))
theorem op_own {a b : Int32} {bd Lx : Nat} {xs : Nat → Int32} {M : am_M} (hI : av_I bd Lx xs M) (hbd : bd < 1000000000) : av_OP (bd + 40) Lx xs (am_val iL_own 0 [some (.ref (am_c 0 12)), some (.int a), some (.int b), some (.ref (am_c 282 27)), none] [] M) (fun M1 => am_val iX13_own 0 [some (.ref (am_c 274 13)), some (.int a), some (.int b)] [] M1) := by
  obtain ⟨⟨σ, L, H, P, q, n, T, f, l, hx, hy, hS⟩, hs⟩ := hI
  obtain ⟨M1, fx, h⟩ := ac_change (c := 1) (a := a) (b := b) (g := 0) hx hS.1 (by decide) (Or.inl rfl)
  cases hr : av_ref σ L 1 a b with
  | none =>
    rw [hr] at h
    obtain ⟨e, x1⟩ := h
    have e0 : am_val iX12_own 0 [some (.ref (am_c 0 12)), some (.int a), some (.int b)] [] M = some (.inl (some (.int (av_ans σ L 1 a b))), M1, 0, 0) := by simp only [ae_X12_own_0, ae_X12_own_10, am_bnx_v, am_bnx_e, am_tl_s, am_tl_n, am_rv_s, am_add_rx, e]
    obtain ⟨M2, r, e2, fy, yo⟩ := mc_own (a := a) (b := b) (g := 0) (Nat.le_refl 274) (av_y_l (a := am_c 282 27) (j := 0) (x := (av_ans σ L 1 a b).toInt64) (av_y_fx hy fx)) hS hbd
    rw [hr] at yo
    obtain ⟨hra, t, y⟩ := yo
    rw [hra] at e2
    exact av_op_v hs (al_own_v e0) fx x1 e2 fy t y (av_okS_pu hS hx.2.2.1.2.1 (av_ok_all hS.1 hbd (by decide) (Or.inl rfl) hr) (by omega))
  | some xy =>
    obtain ⟨x, y⟩ := xy
    rw [hr] at h
    obtain ⟨e, x1⟩ := h
    have e0 : am_val iX12_own 0 [some (.ref (am_c 0 12)), some (.int a), some (.int b)] [] M = some (.inr 0, M1, 1, 6) := by simp only [ae_X12_own_0, ae_X12_own_10, am_bnx_v, am_bnx_e, am_tl_s, am_tl_n, am_rv_s, am_add_rx, e]
    obtain ⟨M2, r, e2, fy, yo⟩ := mc_own (a := a) (b := b) (g := 0) (Nat.le_refl 274) (av_y_fx hy fx) hS hbd
    rw [hr] at yo
    obtain ⟨t, y⟩ := yo
    exact av_op_e hs (al_own_e0 e0) (by decide) fx x1 e2 fy t y (av_okS_m hS (by omega))
theorem op_player {a b : Int32} {bd Lx : Nat} {xs : Nat → Int32} {M : am_M} (hI : av_I bd Lx xs M) (hbd : bd < 1000000000) : av_OP (bd + 40) Lx xs (am_val iL_player 0 [some (.ref (am_c 0 12)), some (.int a), some (.int b), some (.ref (am_c 282 27)), none] [] M) (fun M1 => am_val iX13_player 0 [some (.ref (am_c 274 13)), some (.int a), some (.int b)] [] M1) := by
  obtain ⟨⟨σ, L, H, P, q, n, T, f, l, hx, hy, hS⟩, hs⟩ := hI
  obtain ⟨M1, fx, h⟩ := ac_change (c := 2) (a := a) (b := b) (g := 0) hx hS.1 (by decide) (Or.inl rfl)
  cases hr : av_ref σ L 2 a b with
  | none =>
    rw [hr] at h
    obtain ⟨e, x1⟩ := h
    have e0 : am_val iX12_player 0 [some (.ref (am_c 0 12)), some (.int a), some (.int b)] [] M = some (.inl (some (.int (av_ans σ L 2 a b))), M1, 0, 0) := by simp only [ae_X12_player_0, ae_X12_player_10, am_bnx_v, am_bnx_e, am_tl_s, am_tl_n, am_rv_s, am_add_rx, e]
    obtain ⟨M2, r, e2, fy, yo⟩ := mc_player (a := a) (b := b) (g := 0) (Nat.le_refl 274) (av_y_l (a := am_c 282 27) (j := 0) (x := (av_ans σ L 2 a b).toInt64) (av_y_fx hy fx)) hS
    rw [hr] at yo
    obtain ⟨hra, t, y⟩ := yo
    rw [hra] at e2
    exact av_op_v hs (al_player_v e0) fx x1 e2 fy t y (av_okS_pu hS hx.2.2.1.2.1 (av_ok_all hS.1 hbd (by decide) (Or.inl rfl) hr) (by omega))
  | some xy =>
    obtain ⟨x, y⟩ := xy
    rw [hr] at h
    obtain ⟨e, x1⟩ := h
    have e0 : am_val iX12_player 0 [some (.ref (am_c 0 12)), some (.int a), some (.int b)] [] M = some (.inr 0, M1, 1, 6) := by simp only [ae_X12_player_0, ae_X12_player_10, am_bnx_v, am_bnx_e, am_tl_s, am_tl_n, am_rv_s, am_add_rx, e]
    obtain ⟨M2, r, e2, fy, yo⟩ := mc_player (a := a) (b := b) (g := 0) (Nat.le_refl 274) (av_y_fx hy fx) hS
    rw [hr] at yo
    obtain ⟨t, y⟩ := yo
    exact av_op_e hs (al_player_e0 e0) (by decide) fx x1 e2 fy t y (av_okS_m hS (by omega))
theorem op_move {a b : Int32} {bd Lx : Nat} {xs : Nat → Int32} {M : am_M} (hI : av_I bd Lx xs M) (hbd : bd < 1000000000) : av_OP (bd + 40) Lx xs (am_val iL_move 0 [some (.ref (am_c 0 12)), some (.int a), some (.int b), some (.ref (am_c 282 27)), none] [] M) (fun M1 => am_val iX13_move 0 [some (.ref (am_c 274 13)), some (.int a), some (.int b)] [] M1) := by
  obtain ⟨⟨σ, L, H, P, q, n, T, f, l, hx, hy, hS⟩, hs⟩ := hI
  obtain ⟨M1, fx, h⟩ := ac_change (c := 3) (a := a) (b := b) (g := 0) hx hS.1 (by decide) (Or.inl rfl)
  cases hr : av_ref σ L 3 a b with
  | none =>
    rw [hr] at h
    obtain ⟨e, x1⟩ := h
    have e0 : am_val iX12_move 0 [some (.ref (am_c 0 12)), some (.int a), some (.int b)] [] M = some (.inl (some (.int (av_ans σ L 3 a b))), M1, 0, 0) := by simp only [ae_X12_move_0, ae_X12_move_10, am_bnx_v, am_bnx_e, am_tl_s, am_tl_n, am_rv_s, am_add_rx, e]
    obtain ⟨M2, r, e2, fy, yo⟩ := mc_move (a := a) (b := b) (g := 0) (Nat.le_refl 274) (av_y_l (a := am_c 282 27) (j := 0) (x := (av_ans σ L 3 a b).toInt64) (av_y_fx hy fx)) hS
    rw [hr] at yo
    obtain ⟨hra, t, y⟩ := yo
    rw [hra] at e2
    exact av_op_v hs (al_move_v e0) fx x1 e2 fy t y (av_okS_pu hS hx.2.2.1.2.1 (av_ok_all hS.1 hbd (by decide) (Or.inl rfl) hr) (by omega))
  | some xy =>
    obtain ⟨x, y⟩ := xy
    rw [hr] at h
    obtain ⟨e, x1⟩ := h
    have e0 : am_val iX12_move 0 [some (.ref (am_c 0 12)), some (.int a), some (.int b)] [] M = some (.inr 0, M1, 1, 6) := by simp only [ae_X12_move_0, ae_X12_move_10, am_bnx_v, am_bnx_e, am_tl_s, am_tl_n, am_rv_s, am_add_rx, e]
    obtain ⟨M2, r, e2, fy, yo⟩ := mc_move (a := a) (b := b) (g := 0) (Nat.le_refl 274) (av_y_fx hy fx) hS
    rw [hr] at yo
    obtain ⟨t, y⟩ := yo
    exact av_op_e hs (al_move_e0 e0) (by decide) fx x1 e2 fy t y (av_okS_m hS (by omega))
theorem op_shout {a g b : Int32} {bd Lx : Nat} {xs : Nat → Int32} {M : am_M} (hI : av_I bd Lx xs M) (hbd : bd < 1000000000) (hg : g = 0 ∨ g = 1) : av_OP (bd + 40) Lx xs (am_val iL_shout 0 [some (.ref (am_c 0 12)), some (.int a), some (.int g), some (.int b), some (.ref (am_c 282 27)), none] [] M) (fun M1 => am_val iX13_shout 0 [some (.ref (am_c 274 13)), some (.int a), some (.int g), some (.int b)] [] M1) := by
  obtain ⟨⟨σ, L, H, P, q, n, T, f, l, hx, hy, hS⟩, hs⟩ := hI
  obtain ⟨M1, fx, h⟩ := ac_change (c := 4) (a := a) (b := b) (g := g) hx hS.1 (by decide) hg
  cases hr : av_ref σ L 4 a b with
  | none =>
    rw [hr] at h
    obtain ⟨e, x1⟩ := h
    have e0 : am_val iX12_shout 0 [some (.ref (am_c 0 12)), some (.int a), some (.int g), some (.int b)] [] M = some (.inl (some (.int (av_ans σ L 4 a b))), M1, 0, 0) := by simp only [ae_X12_shout_0, ae_X12_shout_10, am_bnx_v, am_bnx_e, am_tl_s, am_tl_n, am_rv_s, am_add_rx, e]
    obtain ⟨M2, r, e2, fy, yo⟩ := mc_shout (a := a) (b := b) (g := g) (Nat.le_refl 274) (av_y_l (a := am_c 282 27) (j := 0) (x := (av_ans σ L 4 a b).toInt64) (av_y_fx hy fx)) hS hg
    rw [hr] at yo
    obtain ⟨hra, t, y⟩ := yo
    rw [hra] at e2
    exact av_op_v hs (al_shout_v e0) fx x1 e2 fy t y (av_okS_pu hS hx.2.2.1.2.1 (av_ok_all hS.1 hbd (by decide) hg hr) (by omega))
  | some xy =>
    obtain ⟨x, y⟩ := xy
    rw [hr] at h
    obtain ⟨e, x1⟩ := h
    have e0 : am_val iX12_shout 0 [some (.ref (am_c 0 12)), some (.int a), some (.int g), some (.int b)] [] M = some (.inr 0, M1, 1, 6) := by simp only [ae_X12_shout_0, ae_X12_shout_10, am_bnx_v, am_bnx_e, am_tl_s, am_tl_n, am_rv_s, am_add_rx, e]
    obtain ⟨M2, r, e2, fy, yo⟩ := mc_shout (a := a) (b := b) (g := g) (Nat.le_refl 274) (av_y_fx hy fx) hS hg
    rw [hr] at yo
    obtain ⟨t, y⟩ := yo
    exact av_op_e hs (al_shout_e0 e0) (by decide) fx x1 e2 fy t y (av_okS_m hS (by omega))
theorem op_beat {bd Lx : Nat} {xs : Nat → Int32} {M : am_M} (hI : av_I bd Lx xs M) (hbd : bd < 1000000000) : av_OP (bd + 40) Lx xs (am_val iL_beat 0 [some (.ref (am_c 0 12)), some (.ref (am_c 282 27)), none] [] M) (fun M1 => am_val iX13_beat 0 [some (.ref (am_c 274 13))] [] M1) := by
  obtain ⟨⟨σ, L, H, P, q, n, T, f, l, hx, hy, hS⟩, hs⟩ := hI
  obtain ⟨M1, fx, h⟩ := ac_change (c := 5) (a := 0) (b := 0) (g := 0) hx hS.1 (by decide) (Or.inl rfl)
  cases hr : av_ref σ L 5 0 0 with
  | none =>
    rw [hr] at h
    obtain ⟨e, x1⟩ := h
    have e0 : am_val iX12_beat 0 [some (.ref (am_c 0 12))] [] M = some (.inl (some (.int (av_ans σ L 5 0 0))), M1, 0, 0) := by simp only [ae_X12_beat_0, ae_X12_beat_10, am_bnx_v, am_bnx_e, am_tl_s, am_tl_n, am_rv_s, am_add_rx, e]
    obtain ⟨M2, r, e2, fy, yo⟩ := mc_beat (a := 0) (b := 0) (g := 0) (Nat.le_refl 274) (av_y_l (a := am_c 282 27) (j := 0) (x := (av_ans σ L 5 0 0).toInt64) (av_y_fx hy fx)) hS
    rw [hr] at yo
    obtain ⟨hra, t, y⟩ := yo
    rw [hra] at e2
    exact av_op_v hs (al_beat_v e0) fx x1 e2 fy t y (av_okS_pu hS hx.2.2.1.2.1 (av_ok_all hS.1 hbd (by decide) (Or.inl rfl) hr) (by omega))
  | some xy =>
    obtain ⟨x, y⟩ := xy
    rw [hr] at h
    obtain ⟨e, x1⟩ := h
    have e0 : am_val iX12_beat 0 [some (.ref (am_c 0 12))] [] M = some (.inr 0, M1, 1, 6) := by simp only [ae_X12_beat_0, ae_X12_beat_10, am_bnx_v, am_bnx_e, am_tl_s, am_tl_n, am_rv_s, am_add_rx, e]
    obtain ⟨M2, r, e2, fy, yo⟩ := mc_beat (a := 0) (b := 0) (g := 0) (Nat.le_refl 274) (av_y_fx hy fx) hS
    rw [hr] at yo
    obtain ⟨t, y⟩ := yo
    exact av_op_e hs (al_beat_e0 e0) (by decide) fx x1 e2 fy t y (av_okS_m hS (by omega))
theorem op_catchEcho {a : Int32} {bd Lx : Nat} {xs : Nat → Int32} {M : am_M} (hI : av_I bd Lx xs M) (hbd : bd < 1000000000) : av_OP (bd + 40) Lx xs (am_val iL_catchEcho 0 [some (.ref (am_c 0 12)), some (.int a), some (.ref (am_c 282 27)), none] [] M) (fun M1 => am_val iX13_catchEcho 0 [some (.ref (am_c 274 13)), some (.int a)] [] M1) := by
  obtain ⟨⟨σ, L, H, P, q, n, T, f, l, hx, hy, hS⟩, hs⟩ := hI
  obtain ⟨M1, fx, h⟩ := ac_change (c := 6) (a := a) (b := 0) (g := 0) hx hS.1 (by decide) (Or.inl rfl)
  cases hr : av_ref σ L 6 a 0 with
  | none =>
    rw [hr] at h
    obtain ⟨e, x1⟩ := h
    have e0 : am_val iX12_catchEcho 0 [some (.ref (am_c 0 12)), some (.int a)] [] M = some (.inl (some (.int (av_ans σ L 6 a 0))), M1, 0, 0) := by simp only [ae_X12_catchEcho_0, ae_X12_catchEcho_10, am_bnx_v, am_bnx_e, am_tl_s, am_tl_n, am_rv_s, am_add_rx, e]
    obtain ⟨M2, r, e2, fy, yo⟩ := mc_catchEcho (a := a) (b := 0) (g := 0) (Nat.le_refl 274) (av_y_l (a := am_c 282 27) (j := 0) (x := (av_ans σ L 6 a 0).toInt64) (av_y_fx hy fx)) hS
    rw [hr] at yo
    obtain ⟨hra, t, y⟩ := yo
    rw [hra] at e2
    exact av_op_v hs (al_catchEcho_v e0) fx x1 e2 fy t y (av_okS_pu hS hx.2.2.1.2.1 (av_ok_all hS.1 hbd (by decide) (Or.inl rfl) hr) (by omega))
  | some xy =>
    obtain ⟨x, y⟩ := xy
    rw [hr] at h
    obtain ⟨e, x1⟩ := h
    have e0 : am_val iX12_catchEcho 0 [some (.ref (am_c 0 12)), some (.int a)] [] M = some (.inr 0, M1, 1, 6) := by simp only [ae_X12_catchEcho_0, ae_X12_catchEcho_10, am_bnx_v, am_bnx_e, am_tl_s, am_tl_n, am_rv_s, am_add_rx, e]
    obtain ⟨M2, r, e2, fy, yo⟩ := mc_catchEcho (a := a) (b := 0) (g := 0) (Nat.le_refl 274) (av_y_fx hy fx) hS
    rw [hr] at yo
    obtain ⟨t, y⟩ := yo
    exact av_op_e hs (al_catchEcho_e0 e0) (by decide) fx x1 e2 fy t y (av_okS_m hS (by omega))
theorem op_wind {a : Int32} {bd Lx : Nat} {xs : Nat → Int32} {M : am_M} (hI : av_I bd Lx xs M) (hbd : bd < 1000000000) : av_OP (bd + 40) Lx xs (am_val iL_wind 0 [some (.ref (am_c 0 12)), some (.int a), some (.ref (am_c 282 27)), none] [] M) (fun M1 => am_val iX13_wind 0 [some (.ref (am_c 274 13)), some (.int a)] [] M1) := by
  obtain ⟨⟨σ, L, H, P, q, n, T, f, l, hx, hy, hS⟩, hs⟩ := hI
  obtain ⟨M1, fx, h⟩ := ac_change (c := 7) (a := a) (b := 0) (g := 0) hx hS.1 (by decide) (Or.inl rfl)
  cases hr : av_ref σ L 7 a 0 with
  | none =>
    rw [hr] at h
    obtain ⟨e, x1⟩ := h
    have e0 : am_val iX12_wind 0 [some (.ref (am_c 0 12)), some (.int a)] [] M = some (.inl (some (.int (av_ans σ L 7 a 0))), M1, 0, 0) := by simp only [ae_X12_wind_0, ae_X12_wind_10, am_bnx_v, am_bnx_e, am_tl_s, am_tl_n, am_rv_s, am_add_rx, e]
    obtain ⟨M2, r, e2, fy, yo⟩ := mc_wind (a := a) (b := 0) (g := 0) (Nat.le_refl 274) (av_y_l (a := am_c 282 27) (j := 0) (x := (av_ans σ L 7 a 0).toInt64) (av_y_fx hy fx)) hS
    rw [hr] at yo
    obtain ⟨hra, t, y⟩ := yo
    rw [hra] at e2
    exact av_op_v hs (al_wind_v e0) fx x1 e2 fy t y (av_okS_pu hS hx.2.2.1.2.1 (av_ok_all hS.1 hbd (by decide) (Or.inl rfl) hr) (by omega))
  | some xy =>
    obtain ⟨x, y⟩ := xy
    rw [hr] at h
    obtain ⟨e, x1⟩ := h
    have e0 : am_val iX12_wind 0 [some (.ref (am_c 0 12)), some (.int a)] [] M = some (.inr 0, M1, 1, 6) := by simp only [ae_X12_wind_0, ae_X12_wind_10, am_bnx_v, am_bnx_e, am_tl_s, am_tl_n, am_rv_s, am_add_rx, e]
    obtain ⟨M2, r, e2, fy, yo⟩ := mc_wind (a := a) (b := 0) (g := 0) (Nat.le_refl 274) (av_y_fx hy fx) hS
    rw [hr] at yo
    obtain ⟨t, y⟩ := yo
    exact av_op_e hs (al_wind_e0 e0) (by decide) fx x1 e2 fy t y (av_okS_m hS (by omega))
