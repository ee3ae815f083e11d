/-! the second implementation: a command is read -/
def tx_q (T : Nat → Int32) (n : Nat) (x : Nat × Bool) (ch : Nat) : Nat × Bool := (if x.2 = true then x.1 else (tx_p T n ch x.1).2.1, x.2 || !(tx_p T n ch x.1).1)
theorem tx_q_t {T : Nat → Int32} {n p ch : Nat} : tx_q T n (p, true) ch = (p, true) := rfl
theorem tx_q_f {T : Nat → Int32} {n p ch : Nat} : tx_q T n (p, false) ch = ((tx_p T n ch p).2.1, !(tx_p T n ch p).1) := rfl
theorem tx_qt {T : Nat → Int32} {n : Nat} : ∀ (r : List Nat) (p : Nat), r.foldl (tx_q T n) (p, true) = (p, true) := by
  intro r
  induction r with
  | nil => intro p; rfl
  | cons ch r ih => intro p; exact ih p
theorem tx_qf {T : Nat → Int32} {n : Nat} : ∀ (r : List Nat) (p : Nat) (o : tx_O), r.foldl (tx_q T n) (p, false) = ((tx_f T n r p o).2.1, !(tx_f T n r p o).1) := by
  intro r
  induction r with
  | nil => intro p o; rfl
  | cons ch r ih =>
    intro p o
    have e : tx_f T n (ch :: r) p o = if (tx_p T n ch p).1 = true then tx_f T n r (tx_p T n ch p).2.1 (tx_u ch o (tx_p T n ch p).2.2) else (false, (tx_p T n ch p).2.1, tx_u ch o (tx_p T n ch p).2.2) := rfl
    rw [e, List.foldl_cons, tx_q_f]
    cases h : (tx_p T n ch p).1 with
    | true =>
      rw [if_pos rfl]
      exact ih _ _
    | false =>
      rw [if_neg (by decide)]
      exact tx_qt r _
theorem tx_ok1 {T : Nat → Int32} {n a p : Nat} {o : tx_O} (h : (tx_f T n [a] p o).1 = true) : (tx_p T n a p).1 = true ∧ (tx_f T n [a] p o).2.2 = tx_u a o (tx_p T n a p).2.2 := by
  have e : tx_f T n [a] p o = if (tx_p T n a p).1 = true then (true, (tx_p T n a p).2.1, tx_u a o (tx_p T n a p).2.2) else (false, (tx_p T n a p).2.1, tx_u a o (tx_p T n a p).2.2) := rfl
  rw [e] at h ⊢
  by_cases h1 : (tx_p T n a p).1 = true
  · rw [if_pos h1]
    exact ⟨h1, rfl⟩
  · rw [if_neg h1] at h
    cases h
theorem tx_okc {T : Nat → Int32} {n a p : Nat} {r : List Nat} {o : tx_O} (h : (tx_f T n (a :: r) p o).1 = true) : (tx_p T n a p).1 = true ∧ tx_f T n (a :: r) p o = tx_f T n r (tx_p T n a p).2.1 (tx_u a o (tx_p T n a p).2.2) := by
  have e : tx_f T n (a :: r) p o = if (tx_p T n a p).1 = true then tx_f T n r (tx_p T n a p).2.1 (tx_u a o (tx_p T n a p).2.2) else (false, (tx_p T n a p).2.1, tx_u a o (tx_p T n a p).2.2) := rfl
  rw [e] at h ⊢
  by_cases h1 : (tx_p T n a p).1 = true
  · rw [if_pos h1]
    exact ⟨h1, rfl⟩
  · rw [if_neg h1] at h
    cases h
theorem tx_p_b {T : Nat → Int32} {n ch p : Nat} : (tx_p T n ch p).2.1 ≤ p + 2 := by
  have h := (tx_f_b (T := T) (n := n) [ch] p (0, 0, 0, 0)).2
  have e : tx_f T n [ch] p (0, 0, 0, 0) = if (tx_p T n ch p).1 = true then (true, (tx_p T n ch p).2.1, tx_u ch (0, 0, 0, 0) (tx_p T n ch p).2.2) else (false, (tx_p T n ch p).2.1, tx_u ch (0, 0, 0, 0) (tx_p T n ch p).2.2) := rfl
  rw [e] at h
  by_cases h1 : (tx_p T n ch p).1 = true
  · rw [if_pos h1] at h; exact h
  · rw [if_neg h1] at h; exact h
theorem tx_q_b {T : Nat → Int32} {n ch : Nat} {x : Nat × Bool} : (tx_q T n x ch).1 ≤ x.1 + 2 := by
  unfold tx_q
  by_cases h : x.2 = true
  · rw [if_pos h]; exact Nat.le_add_right _ _
  · rw [if_neg h]; exact tx_p_b
/-- a part: a number or a side -/
theorem mt_fig {D n k ch : Nat} {m : Int32} {T : Nat → Int32} {x : Nat × Bool} {M : am_M} (h : av_mt D M n T x.1 x.2 k) (hpb : x.1 < 2147483600) (hm : (ch = 49 ∧ m = 1) ∨ (ch = 50 ∧ m = 2)) : ∃ M' v, am_val iX13_figure 0 [some (.ref (am_c D 13)), some (.int m), none, none] [] M = some (.inl (some (.int v)), M', 0, 0) ∧ av_mt D M' n T (tx_q T n x ch).1 (tx_q T n x ch).2 k ∧ (x.2 = false → v = (tx_p T n ch x.1).2.2) ∧ av_mf D M M' := by
  rcases hm with ⟨rfl, rfl⟩ | ⟨rfl, rfl⟩
  · exact mt_fig1 h hpb
  · exact mt_fig2 h hpb
theorem mt_sid {D n k : Nat} {T : Nat → Int32} {x : Nat × Bool} {M : am_M} (h : av_mt D M n T x.1 x.2 k) (hpb : x.1 < 2147483600) : ∃ M' v, am_val iX13_side 0 [some (.ref (am_c D 13)), none] [] M = some (.inl (some (.int v)), M', 0, 0) ∧ av_mt D M' n T (tx_q T n x 126).1 (tx_q T n x 126).2 k ∧ (x.2 = false → v = (tx_p T n 126 x.1).2.2) ∧ av_mf D M M' := mt_side h (by omega)
theorem mt_sgn {D n k ch : Nat} {c : Int32} {T : Nat → Int32} {x : Nat × Bool} {M : am_M} (h : av_mt D M n T x.1 x.2 k) (hpb : x.1 < 2147483600) (hc : nI ch = c) (h1 : ch ≠ 49 ∧ ch ≠ 50 ∧ ch ≠ 126 ∧ ch < 65536) : ∃ M', am_val iX13_sign 0 [some (.ref (am_c D 13)), some (.int c)] [] M = some (.inl none, M', 0, 0) ∧ av_mt D M' n T (tx_q T n x ch).1 (tx_q T n x ch).2 k ∧ av_mf D M M' := by
  obtain ⟨M', e, m, f⟩ := mt_sign (ch := c) h (by omega) (by rw [← hc]; exact av_bi_nI (by omega))
  refine ⟨M', e, ?_, f⟩
  have hp : ∀ p, tx_p T n ch p = tx_k T n c p := fun p => by
    unfold tx_p
    rw [if_neg h1.1, if_neg h1.2.1, if_neg h1.2.2.1, hc]
  unfold tx_q
  rw [hp]
  exact m
theorem av_tv {M : am_M} {D f j : Nat} {v : Int32} : (av_i M (am_c (D + 6) 21) f v).1 (am_c (D + 5) 20) j = M.1 (am_c (D + 5) 20) j := am_up_a (am_c_ne (by decide) (by decide) (by omega))
theorem av_tv' {M : am_M} {D f j : Nat} {v : Int32} : (av_i M (am_c D 13) f v).1 (am_c (D + 5) 20) j = M.1 (am_c (D + 5) 20) j := am_up_a (am_c_ne (by decide) (by decide) (by omega))
theorem av_mt_w {D n p k j : Nat} {T : Nat → Int32} {w : Bool} {v : Int32} {M : am_M} (h : av_mt D M n T p w k) : av_mt D (av_i M (am_c (D + 6) 21) j v) n T p w k := by
  obtain ⟨h1, h3, h4, h5, h6, h7, h8⟩ := h
  have g : ∀ f, (av_i M (am_c (D + 6) 21) j v).1 (am_c D 13) f = M.1 (am_c D 13) f := fun f => am_up_a (am_c_ne (by decide) (by decide) (by omega))
  exact ⟨h1, h3, fun j hj => av_tv.trans (h4 j hj), (g _).trans h5, (g _).trans h6, (g _).trans h7, (g _).trans h8⟩
theorem av_mt_o {D n p k k' : Nat} {T : Nat → Int32} {w : Bool} {M : am_M} (h : av_mt D M n T p w k) : av_mt D (av_i M (am_c D 13) 25 (nI k')) n T p w k' := by
  obtain ⟨h1, h3, h4, h5, h6, h7, h8⟩ := h
  exact ⟨h1, h3, fun j hj => av_tv'.trans (h4 j hj), by rw [av_jK (by decide)]; exact h5, by rw [av_jK (by decide)]; exact h6, by rw [av_jK (by decide)]; exact h7, av_jS⟩
/-- what is told before the order k stays -/
def av_mg (D k : Nat) (M X : am_M) : Prop := X.2 = M.2 ∧ ∀ c q j, q < 64 → ¬ (c = D ∧ q = 13 ∧ (j = 23 ∨ j = 25 ∨ j = 26)) → ¬ (c = D + 6 ∧ q = 21 ∧ 4 * k ≤ j) → X.1 (am_c c q) j = M.1 (am_c c q) j
theorem av_mg_t {D k : Nat} {M X Y : am_M} (h : av_mg D k M X) (h' : av_mg D k X Y) : av_mg D k M Y := ⟨h'.1.trans h.1, fun c q j hk a b => (h'.2 c q j hk a b).trans (h.2 c q j hk a b)⟩
theorem av_mg_f {D k : Nat} {M X : am_M} (h : av_mf D M X) : av_mg D k M X := ⟨h.1, fun c q j hk a _ => h.2 c q j hk (fun hh => a ⟨hh.1, hh.2.1, by omega⟩)⟩
theorem av_mg_w {D k j : Nat} {v : Int32} {M : am_M} (hj : 4 * k ≤ j) : av_mg D k M (av_i M (am_c (D + 6) 21) j v) := ⟨rfl, fun c q j' hk _ b => am_up_ak (fun hh => b (by
  have e := hh.1
  rw [am_c_inj hk (by decide)] at e
  exact ⟨e.1, e.2, by omega⟩))⟩
theorem av_mg_o {D k : Nat} {v : Int32} {M : am_M} : av_mg D k M (av_i M (am_c D 13) 25 v) := ⟨rfl, fun c q j' hk a _ => am_up_ak (fun hh => a (by
  have e := hh.1
  rw [am_c_inj hk (by decide)] at e
  exact ⟨e.1, e.2, by omega⟩))⟩
theorem av_mg_p {D k : Nat} {v : Int32} {M : am_M} : av_mg D k M (av_i M (am_c D 13) 23 v) := av_mg_f (av_mf_i (Or.inl rfl))
theorem av_tw {M : am_M} {D j j' : Nat} {v : Int32} (h : j' ≠ j) : (av_i M (am_c (D + 6) 21) j v).1 (am_c (D + 6) 21) j' = M.1 (am_c (D + 6) 21) j' := av_jK h
theorem av_to {M : am_M} {D f j' : Nat} {v : Int32} : (av_i M (am_c D 13) f v).1 (am_c (D + 6) 21) j' = M.1 (am_c (D + 6) 21) j' := am_up_a (am_c_ne (by decide) (by decide) (by omega))
theorem av_tof {D j : Nat} {M X : am_M} (h : av_mf D M X) : X.1 (am_c (D + 6) 21) j = M.1 (am_c (D + 6) 21) j := h.2 _ _ _ (by decide) (by omega)
theorem av_x4k {k a : Nat} (ha : a < 4) (hk : k < 60) : am_in (nI (4 * k + a)) 240 = true ∧ (nI (4 * k + a)).toNatClampNeg = 4 * k + a := ⟨am_in_n (by omega) (by decide), am_tn (by omega)⟩
theorem av_xq4 {k : Nat} : (4 : Int32) * nI k = nI (4 * k + 0) := by rw [show (4 : Int32) = nI 4 from rfl, pk_mul]; rfl
theorem av_x4a {k a : Nat} : nI (4 * k + 0) + nI a = nI (4 * k + a) := by rw [nI_add]; rfl
/-- readsTwo -/
theorem mt_two {D n k a1 s a2 : Nat} {m1 c m2 : Int32} {T : Nat → Int32} {x : Nat × Bool} {M : am_M} (h : av_mt D M n T x.1 x.2 k) (hpb : x.1 < 2147483000) (hk : k < 60) (h1 : (a1 = 49 ∧ m1 = 1) ∨ (a1 = 50 ∧ m1 = 2)) (h2 : (a2 = 49 ∧ m2 = 1) ∨ (a2 = 50 ∧ m2 = 2)) (hc : nI s = c) (hs : s ≠ 49 ∧ s ≠ 50 ∧ s ≠ 126 ∧ s < 65536) :
    ∃ M' v1 v2, am_val iX13_readsTwo 0 [some (.ref (am_c D 13)), some (.int m1), some (.int c), some (.int m2)] [] M = some (.inl none, M', 0, 0) ∧ av_mt D M' n T ([a1, s, a2].foldl (tx_q T n) x).1 ([a1, s, a2].foldl (tx_q T n) x).2 k ∧ M'.1 (am_c (D + 6) 21) (4 * k + 0) = M.1 (am_c (D + 6) 21) (4 * k + 0) ∧ M'.1 (am_c (D + 6) 21) (4 * k + 1) = v1 ∧ M'.1 (am_c (D + 6) 21) (4 * k + 2) = v2 ∧ (x.2 = false → v1 = (tx_p T n a1 x.1).2.2) ∧ ((tx_q T n (tx_q T n x a1) s).2 = false → v2 = (tx_p T n a2 (tx_q T n (tx_q T n x a1) s).1).2.2) ∧ av_mg D k M M' := by
  have m8 : M.2.1 (am_c D 13) 8 = am_c (D + 6) 21 + 1 := h.1.2
  have o25 := h.2.2.2.2.2.2
  obtain ⟨M1, v1, e1, t1, w1, f1⟩ := mt_fig h (by omega) h1
  obtain ⟨X1, hX1⟩ : ∃ X1, X1 = av_i M1 (am_c (D + 6) 21) (4 * k + 1) v1 := ⟨_, rfl⟩
  have tX1 : av_mt D X1 n T (tx_q T n x a1).1 (tx_q T n x a1).2 k := by rw [hX1]; exact av_mt_w t1
  have b1 := tx_q_b (T := T) (n := n) (ch := a1) (x := x)
  obtain ⟨M2, e2, t2, f2⟩ := mt_sgn tX1 (by omega) hc hs
  have b2 := tx_q_b (T := T) (n := n) (ch := s) (x := tx_q T n x a1)
  obtain ⟨M3, v2, e3, t3, w3, f3⟩ := mt_fig t2 (by omega) h2
  have m8' : M2.2.1 (am_c D 13) 8 = am_c (D + 6) 21 + 1 := t2.1.2
  have o25' : M2.1 (am_c D 13) 25 = nI k := t2.2.2.2.2.2.2
  obtain ⟨i1, n1⟩ := av_x4k (a := 1) (by decide) hk
  obtain ⟨i2, n2⟩ := av_x4k (a := 2) (by decide) hk
  have x1 : nI (4 * k + 0) + 1 = nI (4 * k + 1) := av_x4a (a := 1)
  have x2 : nI (4 * k + 0) + 2 = nI (4 * k + 2) := av_x4a (a := 2)
  refine ⟨av_i M3 (am_c (D + 6) 21) (4 * k + 2) v2, v1, v2, ?_, av_mt_w t3, ?_, ?_, av_jS, w1, w3, ?_⟩
  · simp only [ae_X13_readsTwo_0, ae_X13_readsTwo_4, ae_X13_readsTwo_17, ae_X13_readsTwo_23, ae_X13_readsTwo_27, ae_X13_readsTwo_40, am_bnx_v, am_bnx_e, am_tl_s, am_tl_n, am_rv_s, am_add_rx, m8, o25, av_xq4, x1, e1, i1, n1, ← hX1, e2, m8', o25', x2, e3, i2, n2]
  · rw [av_tw (by omega), av_tof f3, av_tof f2, hX1, av_tw (by omega), av_tof f1]
  · rw [av_tw (by omega), av_tof f3, av_tof f2, hX1, av_jS]
  · refine av_mg_t (av_mg_f f1) (av_mg_t ?_ (av_mg_t (av_mg_f f2) (av_mg_t (av_mg_f f3) (av_mg_w (by omega)))))
    rw [hX1]
    exact av_mg_w (by omega)
/-- what is told of the order k -/
def av_td (D : Nat) (M : am_M) (k : Nat) (q : Nat × Int32 × Int32 × Int32) : Prop := q.1 < 8 ∧ M.1 (am_c (D + 6) 21) (4 * k + 0) = am_el q.1 ∧ (q.2.2.2 = 0 ∨ q.2.2.2 = 1) ∧ (q.1 ≤ 4 → M.1 (am_c (D + 6) 21) (4 * k + 1) = q.2.1 ∧ M.1 (am_c (D + 6) 21) (4 * k + 2) = q.2.2.1) ∧ (q.1 = 4 → M.1 (am_c (D + 6) 21) (4 * k + 3) = q.2.2.2) ∧ (q.1 = 6 → M.1 (am_c (D + 6) 21) (4 * k + 1) = q.2.1) ∧ (q.1 = 7 → (if M.1 (am_c (D + 6) 21) (4 * k + 3) = 1 then M.1 (am_c (D + 6) 21) (4 * k + 1) else -M.1 (am_c (D + 6) 21) (4 * k + 1)) = q.2.1)
theorem tx_g_01 {T : Nat → Int32} {n p : Nat} : (tx_p T n 126 p).2.2 = 0 ∨ (tx_p T n 126 p).2.2 = 1 := by
  show (tx_g T n p).2.2 = 0 ∨ (tx_g T n p).2.2 = 1
  unfold tx_g
  split
  · exact Or.inr rfl
  · split
    · exact Or.inl rfl
    · exact Or.inl rfl
theorem mt_one {D n p k : Nat} {T : Nat → Int32} {M : am_M} (h : av_mt D M n T p false k) (hpb : p < 2147480000) (hk : k < 60) : ∃ M', am_val iX13_readsOne 0 [some (.ref (am_c D 13)), none] [] M = some (.inl none, M', 0, 0) ∧ av_mt D M' n T (tx_c T n p).2.1 (!(tx_c T n p).1) (k + 1) ∧ ((tx_c T n p).1 = true → av_td D M' k (tx_c T n p).2.2) ∧ av_mg D k M M' := by
  have e := mt_here h (by omega)
  have m8 : M.2.1 (am_c D 13) 8 = am_c (D + 6) 21 + 1 := h.1.2
  have h6 := h.2.2.2.2.1
  have o25 := h.2.2.2.2.2.2
  obtain ⟨i0, n0⟩ := av_x4k (a := 0) (by decide) hk
  obtain ⟨i1, n1⟩ := av_x4k (a := 1) (by decide) hk
  obtain ⟨i2, n2⟩ := av_x4k (a := 2) (by decide) hk
  obtain ⟨i3, n3⟩ := av_x4k (a := 3) (by decide) hk
  have x1 : nI (4 * k + 0) + 1 = nI (4 * k + 1) := av_x4a (a := 1)
  have x2 : nI (4 * k + 0) + 2 = nI (4 * k + 2) := av_x4a (a := 2)
  have x3 : nI (4 * k + 0) + 3 = nI (4 * k + 3) := av_x4a (a := 3)
  obtain ⟨M0, hM0⟩ : ∃ M0, M0 = av_i M (am_c (D + 6) 21) (4 * k + 0) (tx_h T n p) := ⟨_, rfl⟩
  have t0 : av_mt D M0 n T p false k := by rw [hM0]; exact av_mt_w h
  have g0 : av_mg D k M M0 := by rw [hM0]; exact av_mg_w (by omega)
  have p0 := t0.2.2.2.2.1
  obtain ⟨M1, hM1⟩ : ∃ M1, M1 = av_i M0 (am_c D 13) 23 (nI (p + 1)) := ⟨_, rfl⟩
  have t1 : av_mt D M1 n T (p + 1) false k := by rw [hM1]; exact av_mt_f t0 (av_mf_i (Or.inl rfl)) av_jS (by rw [av_jK (by decide)]; exact t0.2.2.2.2.2.1)
  have g1 : av_mg D k M M1 := by rw [hM1]; exact av_mg_t g0 av_mg_p
  have q1 : M1.1 (am_c (D + 6) 21) (4 * k + 0) = tx_h T n p := by rw [hM1, av_to, hM0, av_jS]
  have m8' : M1.2.1 (am_c D 13) 8 = am_c (D + 6) 21 + 1 := t1.1.2
  have o25' := t1.2.2.2.2.2.2
  unfold tx_c
  cases hl : tx_l (tx_h T n p) with
  | none =>
    have hne : ∀ c, c < 8 → ¬ tx_h T n p = am_el c := fun c hc he => by
      have := (av_fst_c (f := fun k => decide (am_el k = tx_h T n p)) 8)
      rcases this with ⟨-, b⟩ | ⟨j, -, b, -, -⟩
      · have := of_decide_eq_false (b c hc)
        exact this he.symm
      · have hl : av_fst (fun k => decide (am_el k = tx_h T n p)) 8 = none := hl
        rw [hl] at b
        cases b
    have l119 : ¬ tx_h T n p = 119 := hne 0 (by decide)
    have l111 : ¬ tx_h T n p = 111 := hne 1 (by decide)
    have l112 : ¬ tx_h T n p = 112 := hne 2 (by decide)
    have l109 : ¬ tx_h T n p = 109 := hne 3 (by decide)
    have l115 : ¬ tx_h T n p = 115 := hne 4 (by decide)
    have l98 : ¬ tx_h T n p = 98 := hne 5 (by decide)
    have l99 : ¬ tx_h T n p = 99 := hne 6 (by decide)
    have l118 : ¬ tx_h T n p = 118 := hne 7 (by decide)
    show ∃ M', am_val iX13_readsOne 0 [some (.ref (am_c D 13)), none] [] M = some (.inl none, M', 0, 0) ∧ av_mt D M' n T p true (k + 1) ∧ (false = true → av_td D M' k (0, 0, 0, 0)) ∧ av_mg D k M M'
    by_cases hm : tx_h T n p = -1
    · have z1 : nI p + 0 = nI p := Int32.add_zero _
      obtain ⟨X, hX⟩ : ∃ X, X = av_i M0 (am_c D 13) 23 (nI p) := ⟨_, rfl⟩
      obtain ⟨Y, hY⟩ : ∃ Y, Y = av_i X (am_c D 13) 26 1 := ⟨_, rfl⟩
      obtain ⟨Z, hZ⟩ : ∃ Z, Z = av_i Y (am_c D 13) 23 (nI p) := ⟨_, rfl⟩
      have tX : av_mt D X n T p false k := by rw [hX]; exact av_mt_f t0 (av_mf_i (Or.inl rfl)) av_jS (by rw [av_jK (by decide)]; exact t0.2.2.2.2.2.1)
      have tY : av_mt D Y n T p true k := by rw [hY]; exact av_mt_i (w' := true) tX
      have tZ : av_mt D Z n T p true k := by rw [hZ]; exact av_mt_f tY (av_mf_i (Or.inl rfl)) av_jS (by rw [av_jK (by decide)]; exact tY.2.2.2.2.2.1)
      have pY := tY.2.2.2.2.1
      have oZ := tZ.2.2.2.2.2.2
      refine ⟨av_i Z (am_c D 13) 25 (nI (k + 1)), ?_, av_mt_o tZ, fun h => absurd h (by decide), ?_⟩
      · have w0 : nI p - 0 = nI p := Int32.sub_zero _
        have hm' : ¬ ¬ tx_h T n p = -1 := not_not_intro hm
        simp only [ae_X13_readsOne_0, ae_X13_readsOne_4, ae_X13_readsOne_9, ae_X13_readsOne_27, ae_X13_readsOne_31, ae_X13_readsOne_140, ae_X13_readsOne_148, ae_X13_readsOne_151, ae_X13_readsOne_159, ae_X13_readsOne_162, ae_X13_readsOne_170, ae_X13_readsOne_173, ae_X13_readsOne_177, ae_X13_readsOne_190, ae_X13_readsOne_195, ae_X13_readsOne_207, ae_X13_readsOne_212, ae_X13_readsOne_225, ae_X13_readsOne_229, ae_X13_readsOne_232, ae_X13_readsOne_236, ae_X13_readsOne_249, ae_X13_readsOne_253, ae_X13_readsOne_257, ae_X13_readsOne_269, ae_X13_readsOne_274, ae_X13_readsOne_287, ae_X13_readsOne_291, ae_X13_readsOne_306, ae_X13_readsOne_310, am_bnx_v, am_bnx_e, am_tl_s, am_tl_n, am_rv_s, am_add_rx, e, m8, o25, av_xq4, i0, n0, ← hM0, p0, if_neg hm', z1, ← hX, am_sw, l119, l111, l112, l109, l115, l98, l99, l118, if_false, ite_self, ← hY, pY, w0, ← hZ, oZ, nI_1]
      · rw [hZ, hY, hX]
        exact av_mg_t g0 (av_mg_t av_mg_p (av_mg_t (av_mg_f (av_mf_i (Or.inr rfl))) (av_mg_t av_mg_p av_mg_o)))
    · obtain ⟨Y, hY⟩ : ∃ Y, Y = av_i M1 (am_c D 13) 26 1 := ⟨_, rfl⟩
      obtain ⟨Z, hZ⟩ : ∃ Z, Z = av_i Y (am_c D 13) 23 (nI p) := ⟨_, rfl⟩
      have tY : av_mt D Y n T (p + 1) true k := by rw [hY]; exact av_mt_i (w' := true) t1
      have tZ : av_mt D Z n T p true k := by rw [hZ]; exact av_mt_f tY (av_mf_i (Or.inl rfl)) av_jS (by rw [av_jK (by decide)]; exact tY.2.2.2.2.2.1)
      have pY := tY.2.2.2.2.1
      have oZ := tZ.2.2.2.2.2.2
      refine ⟨av_i Z (am_c D 13) 25 (nI (k + 1)), ?_, av_mt_o tZ, fun h => absurd h (by decide), ?_⟩
      · have w0 : nI (p + 1) - 1 = nI p := nI_pred p
        simp only [ae_X13_readsOne_0, ae_X13_readsOne_4, ae_X13_readsOne_9, ae_X13_readsOne_27, ae_X13_readsOne_31, ae_X13_readsOne_140, ae_X13_readsOne_148, ae_X13_readsOne_151, ae_X13_readsOne_159, ae_X13_readsOne_162, ae_X13_readsOne_170, ae_X13_readsOne_173, ae_X13_readsOne_177, ae_X13_readsOne_190, ae_X13_readsOne_195, ae_X13_readsOne_207, ae_X13_readsOne_212, ae_X13_readsOne_225, ae_X13_readsOne_229, ae_X13_readsOne_232, ae_X13_readsOne_236, ae_X13_readsOne_249, ae_X13_readsOne_253, ae_X13_readsOne_257, ae_X13_readsOne_269, ae_X13_readsOne_274, ae_X13_readsOne_287, ae_X13_readsOne_291, ae_X13_readsOne_306, ae_X13_readsOne_310, am_bnx_v, am_bnx_e, am_tl_s, am_tl_n, am_rv_s, am_add_rx, e, m8, o25, av_xq4, i0, n0, ← hM0, p0, if_pos hm, nI_1, ← hM1, am_sw, l119, l111, l112, l109, l115, l98, l99, l118, if_false, ite_self, ← hY, pY, w0, ← hZ, oZ]
      · rw [hZ, hY]
        exact av_mg_t g1 (av_mg_t (av_mg_f (av_mf_i (Or.inr rfl))) (av_mg_t av_mg_p av_mg_o))
  | some c =>
    obtain ⟨hc, hel⟩ := tx_l_8 hl
    have q1' : M1.1 (am_c (D + 6) 21) (4 * k + 0) = am_el c := q1.trans hel.symm
    show ∃ M', am_val iX13_readsOne 0 [some (.ref (am_c D 13)), none] [] M = some (.inl none, M', 0, 0) ∧ av_mt D M' n T (tx_f T n (am_fs (am_ef c)) (p + 1) (0, 0, 0, 0)).2.1 (!(tx_f T n (am_fs (am_ef c)) (p + 1) (0, 0, 0, 0)).1) (k + 1) ∧ ((tx_f T n (am_fs (am_ef c)) (p + 1) (0, 0, 0, 0)).1 = true → av_td D M' k (tx_e c (tx_f T n (am_fs (am_ef c)) (p + 1) (0, 0, 0, 0))).2.2) ∧ av_mg D k M M'
    have hq := tx_qf (T := T) (n := n) (am_fs (am_ef c)) (p + 1) (0, 0, 0, 0)
    have hq1 := (congrArg Prod.fst hq).symm
    have hq2 := (congrArg Prod.snd hq).symm
    have hq1 : (tx_f T n (am_fs (am_ef c)) (p + 1) (0, 0, 0, 0)).2.1 = ((am_fs (am_ef c)).foldl (tx_q T n) (p + 1, false)).1 := hq1
    have hq2 : (!(tx_f T n (am_fs (am_ef c)) (p + 1) (0, 0, 0, 0)).1) = ((am_fs (am_ef c)).foldl (tx_q T n) (p + 1, false)).2 := hq2
    rw [hq1, hq2]
    clear hq hq1 hq2 hl
    rcases (show c = 0 ∨ c = 1 ∨ c = 2 ∨ c = 3 ∨ c = 4 ∨ c = 5 ∨ c = 6 ∨ c = 7 by omega) with rfl | rfl | rfl | rfl | rfl | rfl | rfl | rfl
    · have hx : tx_h T n p = 119 := hel.symm
      have hne : ¬ (119 : Int32) = -1 := by decide
      rw [hx] at hM0
      obtain ⟨M2, v1, v2, e2, t2, r0, r1, r2, w1, w2, g2⟩ := mt_two (a1 := 50) (s := 61) (a2 := 49) (m1 := 2) (c := 61) (m2 := 1) (x := (p + 1, false)) t1 (by show p + 1 < _; omega) hk (by decide) (by decide) rfl (by decide)
      have o2 := t2.2.2.2.2.2.2
      refine ⟨av_i M2 (am_c D 13) 25 (nI (k + 1)), ?_, av_mt_o t2, fun hok => ?_, av_mg_t g1 (av_mg_t g2 av_mg_o)⟩
      · simp only [ae_X13_readsOne_0, ae_X13_readsOne_4, ae_X13_readsOne_9, ae_X13_readsOne_27, ae_X13_readsOne_31, ae_X13_readsOne_140, ae_X13_readsOne_148, ae_X13_readsOne_151, ae_X13_readsOne_159, ae_X13_readsOne_162, ae_X13_readsOne_170, ae_X13_readsOne_173, ae_X13_readsOne_177, ae_X13_readsOne_190, ae_X13_readsOne_195, ae_X13_readsOne_207, ae_X13_readsOne_212, ae_X13_readsOne_225, ae_X13_readsOne_229, ae_X13_readsOne_232, ae_X13_readsOne_236, ae_X13_readsOne_249, ae_X13_readsOne_253, ae_X13_readsOne_257, ae_X13_readsOne_269, ae_X13_readsOne_274, ae_X13_readsOne_287, ae_X13_readsOne_291, ae_X13_readsOne_306, ae_X13_readsOne_310, am_bnx_v, am_bnx_e, am_tl_s, am_tl_n, am_rv_s, am_add_rx, e, hx, m8, o25, av_xq4, i0, n0, ← hM0, p0, if_pos hne, nI_1, ← hM1, am_sw_n (show ¬ (119 : Int32) = 98 by decide), am_sw_n (show ¬ (119 : Int32) = 99 by decide), am_sw_n (show ¬ (119 : Int32) = 100 by decide), am_sw_n (show ¬ (119 : Int32) = 101 by decide), am_sw_n (show ¬ (119 : Int32) = 102 by decide), am_sw_n (show ¬ (119 : Int32) = 103 by decide), am_sw_n (show ¬ (119 : Int32) = 104 by decide), am_sw_n (show ¬ (119 : Int32) = 105 by decide), am_sw_n (show ¬ (119 : Int32) = 106 by decide), am_sw_n (show ¬ (119 : Int32) = 107 by decide), am_sw_n (show ¬ (119 : Int32) = 108 by decide), am_sw_n (show ¬ (119 : Int32) = 109 by decide), am_sw_n (show ¬ (119 : Int32) = 110 by decide), am_sw_n (show ¬ (119 : Int32) = 111 by decide), am_sw_n (show ¬ (119 : Int32) = 112 by decide), am_sw_n (show ¬ (119 : Int32) = 113 by decide), am_sw_n (show ¬ (119 : Int32) = 114 by decide), am_sw_n (show ¬ (119 : Int32) = 115 by decide), am_sw_n (show ¬ (119 : Int32) = 116 by decide), am_sw_n (show ¬ (119 : Int32) = 117 by decide), am_sw_n (show ¬ (119 : Int32) = 118 by decide), am_sw_y (show (119 : Int32) = 119 from rfl), e2, o2]
      · have hok : (tx_f T n [50, 61, 49] (p + 1) (0, 0, 0, 0)).1 = true := hok
        obtain ⟨k1, d1⟩ := tx_okc hok
        rw [d1] at hok
        obtain ⟨k2, d2⟩ := tx_okc hok
        rw [d2] at hok
        obtain ⟨k3, d3⟩ := tx_ok1 hok
        have z1 : tx_q T n (p + 1, false) 50 = ((tx_p T n 50 (p + 1)).2.1, false) := by rw [tx_q_f, k1]; rfl
        have z2 : tx_q T n (tx_q T n (p + 1, false) 50) 61 = ((tx_p T n 61 (tx_p T n 50 (p + 1)).2.1).2.1, false) := by rw [z1, tx_q_f, k2]; rfl
        rw [z2] at w2
        have w1 := w1 rfl
        have w2 := w2 rfl
        have d : (tx_f T n [50, 61, 49] (p + 1) (0, 0, 0, 0)).2.2 = (v1, v2, 0, 1) := by
          rw [d1, d2, d3, w1, w2]
          rfl
        refine ⟨show (0 : Nat) < 8 by decide, by rw [av_to]; exact r0.trans q1', ?_, fun _ => ⟨?_, ?_⟩, fun h => absurd (show ((0 : Nat) = 4) from h) (by decide), fun h => absurd (show ((0 : Nat) = 6) from h) (by decide), fun h => absurd (show ((0 : Nat) = 7) from h) (by decide)⟩
        · show (tx_f T n [50, 61, 49] (p + 1) (0, 0, 0, 0)).2.2.2.2.1 = 0 ∨ _
          rw [d]
          exact Or.inl rfl
        · rw [av_to]
          show _ = (tx_f T n [50, 61, 49] (p + 1) (0, 0, 0, 0)).2.2.1
          rw [d]
          exact r1
        · rw [av_to]
          show _ = (tx_f T n [50, 61, 49] (p + 1) (0, 0, 0, 0)).2.2.2.1
          rw [d]
          exact r2
    · have hx : tx_h T n p = 111 := hel.symm
      have hne : ¬ (111 : Int32) = -1 := by decide
      rw [hx] at hM0
      obtain ⟨M2, v1, v2, e2, t2, r0, r1, r2, w1, w2, g2⟩ := mt_two (a1 := 49) (s := 64) (a2 := 50) (m1 := 1) (c := 64) (m2 := 2) (x := (p + 1, false)) t1 (by show p + 1 < _; omega) hk (by decide) (by decide) rfl (by decide)
      have o2 := t2.2.2.2.2.2.2
      refine ⟨av_i M2 (am_c D 13) 25 (nI (k + 1)), ?_, av_mt_o t2, fun hok => ?_, av_mg_t g1 (av_mg_t g2 av_mg_o)⟩
      · simp only [ae_X13_readsOne_0, ae_X13_readsOne_4, ae_X13_readsOne_9, ae_X13_readsOne_27, ae_X13_readsOne_31, ae_X13_readsOne_140, ae_X13_readsOne_148, ae_X13_readsOne_151, ae_X13_readsOne_159, ae_X13_readsOne_162, ae_X13_readsOne_170, ae_X13_readsOne_173, ae_X13_readsOne_177, ae_X13_readsOne_190, ae_X13_readsOne_195, ae_X13_readsOne_207, ae_X13_readsOne_212, ae_X13_readsOne_225, ae_X13_readsOne_229, ae_X13_readsOne_232, ae_X13_readsOne_236, ae_X13_readsOne_249, ae_X13_readsOne_253, ae_X13_readsOne_257, ae_X13_readsOne_269, ae_X13_readsOne_274, ae_X13_readsOne_287, ae_X13_readsOne_291, ae_X13_readsOne_306, ae_X13_readsOne_310, am_bnx_v, am_bnx_e, am_tl_s, am_tl_n, am_rv_s, am_add_rx, e, hx, m8, o25, av_xq4, i0, n0, ← hM0, p0, if_pos hne, nI_1, ← hM1, am_sw_n (show ¬ (111 : Int32) = 98 by decide), am_sw_n (show ¬ (111 : Int32) = 99 by decide), am_sw_n (show ¬ (111 : Int32) = 100 by decide), am_sw_n (show ¬ (111 : Int32) = 101 by decide), am_sw_n (show ¬ (111 : Int32) = 102 by decide), am_sw_n (show ¬ (111 : Int32) = 103 by decide), am_sw_n (show ¬ (111 : Int32) = 104 by decide), am_sw_n (show ¬ (111 : Int32) = 105 by decide), am_sw_n (show ¬ (111 : Int32) = 106 by decide), am_sw_n (show ¬ (111 : Int32) = 107 by decide), am_sw_n (show ¬ (111 : Int32) = 108 by decide), am_sw_n (show ¬ (111 : Int32) = 109 by decide), am_sw_n (show ¬ (111 : Int32) = 110 by decide), am_sw_y (show (111 : Int32) = 111 from rfl), e2, o2]
      · have hok : (tx_f T n [49, 64, 50] (p + 1) (0, 0, 0, 0)).1 = true := hok
        obtain ⟨k1, d1⟩ := tx_okc hok
        rw [d1] at hok
        obtain ⟨k2, d2⟩ := tx_okc hok
        rw [d2] at hok
        obtain ⟨k3, d3⟩ := tx_ok1 hok
        have z1 : tx_q T n (p + 1, false) 49 = ((tx_p T n 49 (p + 1)).2.1, false) := by rw [tx_q_f, k1]; rfl
        have z2 : tx_q T n (tx_q T n (p + 1, false) 49) 64 = ((tx_p T n 64 (tx_p T n 49 (p + 1)).2.1).2.1, false) := by rw [z1, tx_q_f, k2]; rfl
        rw [z2] at w2
        have w1 := w1 rfl
        have w2 := w2 rfl
        have d : (tx_f T n [49, 64, 50] (p + 1) (0, 0, 0, 0)).2.2 = (v1, v2, 0, 1) := by
          rw [d1, d2, d3, w1, w2]
          rfl
        refine ⟨show (1 : Nat) < 8 by decide, by rw [av_to]; exact r0.trans q1', ?_, fun _ => ⟨?_, ?_⟩, fun h => absurd (show ((1 : Nat) = 4) from h) (by decide), fun h => absurd (show ((1 : Nat) = 6) from h) (by decide), fun h => absurd (show ((1 : Nat) = 7) from h) (by decide)⟩
        · show (tx_f T n [49, 64, 50] (p + 1) (0, 0, 0, 0)).2.2.2.2.1 = 0 ∨ _
          rw [d]
          exact Or.inl rfl
        · rw [av_to]
          show _ = (tx_f T n [49, 64, 50] (p + 1) (0, 0, 0, 0)).2.2.1
          rw [d]
          exact r1
        · rw [av_to]
          show _ = (tx_f T n [49, 64, 50] (p + 1) (0, 0, 0, 0)).2.2.2.1
          rw [d]
          exact r2
    · have hx : tx_h T n p = 112 := hel.symm
      have hne : ¬ (112 : Int32) = -1 := by decide
      rw [hx] at hM0
      obtain ⟨M2, v1, v2, e2, t2, r0, r1, r2, w1, w2, g2⟩ := mt_two (a1 := 49) (s := 64) (a2 := 50) (m1 := 1) (c := 64) (m2 := 2) (x := (p + 1, false)) t1 (by show p + 1 < _; omega) hk (by decide) (by decide) rfl (by decide)
      have o2 := t2.2.2.2.2.2.2
      refine ⟨av_i M2 (am_c D 13) 25 (nI (k + 1)), ?_, av_mt_o t2, fun hok => ?_, av_mg_t g1 (av_mg_t g2 av_mg_o)⟩
      · simp only [ae_X13_readsOne_0, ae_X13_readsOne_4, ae_X13_readsOne_9, ae_X13_readsOne_27, ae_X13_readsOne_31, ae_X13_readsOne_140, ae_X13_readsOne_148, ae_X13_readsOne_151, ae_X13_readsOne_159, ae_X13_readsOne_162, ae_X13_readsOne_170, ae_X13_readsOne_173, ae_X13_readsOne_177, ae_X13_readsOne_190, ae_X13_readsOne_195, ae_X13_readsOne_207, ae_X13_readsOne_212, ae_X13_readsOne_225, ae_X13_readsOne_229, ae_X13_readsOne_232, ae_X13_readsOne_236, ae_X13_readsOne_249, ae_X13_readsOne_253, ae_X13_readsOne_257, ae_X13_readsOne_269, ae_X13_readsOne_274, ae_X13_readsOne_287, ae_X13_readsOne_291, ae_X13_readsOne_306, ae_X13_readsOne_310, am_bnx_v, am_bnx_e, am_tl_s, am_tl_n, am_rv_s, am_add_rx, e, hx, m8, o25, av_xq4, i0, n0, ← hM0, p0, if_pos hne, nI_1, ← hM1, am_sw_n (show ¬ (112 : Int32) = 98 by decide), am_sw_n (show ¬ (112 : Int32) = 99 by decide), am_sw_n (show ¬ (112 : Int32) = 100 by decide), am_sw_n (show ¬ (112 : Int32) = 101 by decide), am_sw_n (show ¬ (112 : Int32) = 102 by decide), am_sw_n (show ¬ (112 : Int32) = 103 by decide), am_sw_n (show ¬ (112 : Int32) = 104 by decide), am_sw_n (show ¬ (112 : Int32) = 105 by decide), am_sw_n (show ¬ (112 : Int32) = 106 by decide), am_sw_n (show ¬ (112 : Int32) = 107 by decide), am_sw_n (show ¬ (112 : Int32) = 108 by decide), am_sw_n (show ¬ (112 : Int32) = 109 by decide), am_sw_n (show ¬ (112 : Int32) = 110 by decide), am_sw_n (show ¬ (112 : Int32) = 111 by decide), am_sw_y (show (112 : Int32) = 112 from rfl), e2, o2]
      · have hok : (tx_f T n [49, 64, 50] (p + 1) (0, 0, 0, 0)).1 = true := hok
        obtain ⟨k1, d1⟩ := tx_okc hok
        rw [d1] at hok
        obtain ⟨k2, d2⟩ := tx_okc hok
        rw [d2] at hok
        obtain ⟨k3, d3⟩ := tx_ok1 hok
        have z1 : tx_q T n (p + 1, false) 49 = ((tx_p T n 49 (p + 1)).2.1, false) := by rw [tx_q_f, k1]; rfl
        have z2 : tx_q T n (tx_q T n (p + 1, false) 49) 64 = ((tx_p T n 64 (tx_p T n 49 (p + 1)).2.1).2.1, false) := by rw [z1, tx_q_f, k2]; rfl
        rw [z2] at w2
        have w1 := w1 rfl
        have w2 := w2 rfl
        have d : (tx_f T n [49, 64, 50] (p + 1) (0, 0, 0, 0)).2.2 = (v1, v2, 0, 1) := by
          rw [d1, d2, d3, w1, w2]
          rfl
        refine ⟨show (2 : Nat) < 8 by decide, by rw [av_to]; exact r0.trans q1', ?_, fun _ => ⟨?_, ?_⟩, fun h => absurd (show ((2 : Nat) = 4) from h) (by decide), fun h => absurd (show ((2 : Nat) = 6) from h) (by decide), fun h => absurd (show ((2 : Nat) = 7) from h) (by decide)⟩
        · show (tx_f T n [49, 64, 50] (p + 1) (0, 0, 0, 0)).2.2.2.2.1 = 0 ∨ _
          rw [d]
          exact Or.inl rfl
        · rw [av_to]
          show _ = (tx_f T n [49, 64, 50] (p + 1) (0, 0, 0, 0)).2.2.1
          rw [d]
          exact r1
        · rw [av_to]
          show _ = (tx_f T n [49, 64, 50] (p + 1) (0, 0, 0, 0)).2.2.2.1
          rw [d]
          exact r2
    · have hx : tx_h T n p = 109 := hel.symm
      have hne : ¬ (109 : Int32) = -1 := by decide
      rw [hx] at hM0
      obtain ⟨M2, v1, v2, e2, t2, r0, r1, r2, w1, w2, g2⟩ := mt_two (a1 := 49) (s := 62) (a2 := 50) (m1 := 1) (c := 62) (m2 := 2) (x := (p + 1, false)) t1 (by show p + 1 < _; omega) hk (by decide) (by decide) rfl (by decide)
      have o2 := t2.2.2.2.2.2.2
      refine ⟨av_i M2 (am_c D 13) 25 (nI (k + 1)), ?_, av_mt_o t2, fun hok => ?_, av_mg_t g1 (av_mg_t g2 av_mg_o)⟩
      · simp only [ae_X13_readsOne_0, ae_X13_readsOne_4, ae_X13_readsOne_9, ae_X13_readsOne_27, ae_X13_readsOne_31, ae_X13_readsOne_140, ae_X13_readsOne_148, ae_X13_readsOne_151, ae_X13_readsOne_159, ae_X13_readsOne_162, ae_X13_readsOne_170, ae_X13_readsOne_173, ae_X13_readsOne_177, ae_X13_readsOne_190, ae_X13_readsOne_195, ae_X13_readsOne_207, ae_X13_readsOne_212, ae_X13_readsOne_225, ae_X13_readsOne_229, ae_X13_readsOne_232, ae_X13_readsOne_236, ae_X13_readsOne_249, ae_X13_readsOne_253, ae_X13_readsOne_257, ae_X13_readsOne_269, ae_X13_readsOne_274, ae_X13_readsOne_287, ae_X13_readsOne_291, ae_X13_readsOne_306, ae_X13_readsOne_310, am_bnx_v, am_bnx_e, am_tl_s, am_tl_n, am_rv_s, am_add_rx, e, hx, m8, o25, av_xq4, i0, n0, ← hM0, p0, if_pos hne, nI_1, ← hM1, am_sw_n (show ¬ (109 : Int32) = 98 by decide), am_sw_n (show ¬ (109 : Int32) = 99 by decide), am_sw_n (show ¬ (109 : Int32) = 100 by decide), am_sw_n (show ¬ (109 : Int32) = 101 by decide), am_sw_n (show ¬ (109 : Int32) = 102 by decide), am_sw_n (show ¬ (109 : Int32) = 103 by decide), am_sw_n (show ¬ (109 : Int32) = 104 by decide), am_sw_n (show ¬ (109 : Int32) = 105 by decide), am_sw_n (show ¬ (109 : Int32) = 106 by decide), am_sw_n (show ¬ (109 : Int32) = 107 by decide), am_sw_n (show ¬ (109 : Int32) = 108 by decide), am_sw_y (show (109 : Int32) = 109 from rfl), e2, o2]
      · have hok : (tx_f T n [49, 62, 50] (p + 1) (0, 0, 0, 0)).1 = true := hok
        obtain ⟨k1, d1⟩ := tx_okc hok
        rw [d1] at hok
        obtain ⟨k2, d2⟩ := tx_okc hok
        rw [d2] at hok
        obtain ⟨k3, d3⟩ := tx_ok1 hok
        have z1 : tx_q T n (p + 1, false) 49 = ((tx_p T n 49 (p + 1)).2.1, false) := by rw [tx_q_f, k1]; rfl
        have z2 : tx_q T n (tx_q T n (p + 1, false) 49) 62 = ((tx_p T n 62 (tx_p T n 49 (p + 1)).2.1).2.1, false) := by rw [z1, tx_q_f, k2]; rfl
        rw [z2] at w2
        have w1 := w1 rfl
        have w2 := w2 rfl
        have d : (tx_f T n [49, 62, 50] (p + 1) (0, 0, 0, 0)).2.2 = (v1, v2, 0, 1) := by
          rw [d1, d2, d3, w1, w2]
          rfl
        refine ⟨show (3 : Nat) < 8 by decide, by rw [av_to]; exact r0.trans q1', ?_, fun _ => ⟨?_, ?_⟩, fun h => absurd (show ((3 : Nat) = 4) from h) (by decide), fun h => absurd (show ((3 : Nat) = 6) from h) (by decide), fun h => absurd (show ((3 : Nat) = 7) from h) (by decide)⟩
        · show (tx_f T n [49, 62, 50] (p + 1) (0, 0, 0, 0)).2.2.2.2.1 = 0 ∨ _
          rw [d]
          exact Or.inl rfl
        · rw [av_to]
          show _ = (tx_f T n [49, 62, 50] (p + 1) (0, 0, 0, 0)).2.2.1
          rw [d]
          exact r1
        · rw [av_to]
          show _ = (tx_f T n [49, 62, 50] (p + 1) (0, 0, 0, 0)).2.2.2.1
          rw [d]
          exact r2
    · have hx : tx_h T n p = 115 := hel.symm
      have hne : ¬ (115 : Int32) = -1 := by decide
      rw [hx] at hM0
      obtain ⟨M2, v1, e2, t2, w2, f2⟩ := mt_fig (ch := 49) (m := 1) (x := (p + 1, false)) t1 (by show p + 1 < _; omega) (by decide)
      obtain ⟨X2, hX2⟩ : ∃ X2, X2 = av_i M2 (am_c (D + 6) 21) (4 * k + 1) v1 := ⟨_, rfl⟩
      have tX2 : av_mt D X2 n T (tx_q T n (p + 1, false) 49).1 (tx_q T n (p + 1, false) 49).2 k := by rw [hX2]; exact av_mt_w t2
      have b2 := tx_q_b (T := T) (n := n) (ch := 49) (x := (p + 1, false))
      have b2 : (tx_q T n (p + 1, false) 49).1 ≤ p + 1 + 2 := b2
      obtain ⟨M3, v3, e3, t3, w3, f3⟩ := mt_sid tX2 (by omega)
      obtain ⟨X3, hX3⟩ : ∃ X3, X3 = av_i M3 (am_c (D + 6) 21) (4 * k + 3) v3 := ⟨_, rfl⟩
      have tX3 : av_mt D X3 n T (tx_q T n (tx_q T n (p + 1, false) 49) 126).1 (tx_q T n (tx_q T n (p + 1, false) 49) 126).2 k := by rw [hX3]; exact av_mt_w t3
      have b3 := tx_q_b (T := T) (n := n) (ch := 126) (x := tx_q T n (p + 1, false) 49)
      obtain ⟨M4, v2, e4, t4, w4, f4⟩ := mt_fig (ch := 50) (m := 2) tX3 (by omega) (by decide)
      obtain ⟨X4, hX4⟩ : ∃ X4, X4 = av_i M4 (am_c (D + 6) 21) (4 * k + 2) v2 := ⟨_, rfl⟩
      have tX4 : av_mt D X4 n T (tx_q T n (tx_q T n (tx_q T n (p + 1, false) 49) 126) 50).1 (tx_q T n (tx_q T n (tx_q T n (p + 1, false) 49) 126) 50).2 k := by rw [hX4]; exact av_mt_w t4
      have u2 : X2.2.1 (am_c D 13) 8 = am_c (D + 6) 21 + 1 := tX2.1.2
      have u2' := tX2.2.2.2.2.2.2
      have u3 : X3.2.1 (am_c D 13) 8 = am_c (D + 6) 21 + 1 := tX3.1.2
      have u3' := tX3.2.2.2.2.2.2
      have u4' := tX4.2.2.2.2.2.2
      refine ⟨av_i X4 (am_c D 13) 25 (nI (k + 1)), ?_, av_mt_o tX4, fun hok => ?_, ?_⟩
      · simp only [ae_X13_readsOne_0, ae_X13_readsOne_4, ae_X13_readsOne_9, ae_X13_readsOne_27, ae_X13_readsOne_31, ae_X13_readsOne_140, ae_X13_readsOne_148, ae_X13_readsOne_151, ae_X13_readsOne_159, ae_X13_readsOne_162, ae_X13_readsOne_170, ae_X13_readsOne_173, ae_X13_readsOne_177, ae_X13_readsOne_190, ae_X13_readsOne_195, ae_X13_readsOne_207, ae_X13_readsOne_212, ae_X13_readsOne_225, ae_X13_readsOne_229, ae_X13_readsOne_232, ae_X13_readsOne_236, ae_X13_readsOne_249, ae_X13_readsOne_253, ae_X13_readsOne_257, ae_X13_readsOne_269, ae_X13_readsOne_274, ae_X13_readsOne_287, ae_X13_readsOne_291, ae_X13_readsOne_306, ae_X13_readsOne_310, am_bnx_v, am_bnx_e, am_tl_s, am_tl_n, am_rv_s, am_add_rx, e, hx, m8, o25, av_xq4, i0, n0, ← hM0, p0, if_pos hne, nI_1, ← hM1, am_sw_n (show ¬ (115 : Int32) = 98 by decide), am_sw_n (show ¬ (115 : Int32) = 99 by decide), am_sw_n (show ¬ (115 : Int32) = 100 by decide), am_sw_n (show ¬ (115 : Int32) = 101 by decide), am_sw_n (show ¬ (115 : Int32) = 102 by decide), am_sw_n (show ¬ (115 : Int32) = 103 by decide), am_sw_n (show ¬ (115 : Int32) = 104 by decide), am_sw_n (show ¬ (115 : Int32) = 105 by decide), am_sw_n (show ¬ (115 : Int32) = 106 by decide), am_sw_n (show ¬ (115 : Int32) = 107 by decide), am_sw_n (show ¬ (115 : Int32) = 108 by decide), am_sw_n (show ¬ (115 : Int32) = 109 by decide), am_sw_n (show ¬ (115 : Int32) = 110 by decide), am_sw_n (show ¬ (115 : Int32) = 111 by decide), am_sw_n (show ¬ (115 : Int32) = 112 by decide), am_sw_n (show ¬ (115 : Int32) = 113 by decide), am_sw_n (show ¬ (115 : Int32) = 114 by decide), am_sw_y (show (115 : Int32) = 115 from rfl), m8', o25', x1, e2, i1, n1, ← hX2, u2, u2', x3, e3, i3, n3, ← hX3, u3, u3', x2, e4, i2, n2, ← hX4, u4']
      · have hok : (tx_f T n [49, 126, 50] (p + 1) (0, 0, 0, 0)).1 = true := hok
        obtain ⟨k1, d1⟩ := tx_okc hok
        rw [d1] at hok
        obtain ⟨k2, d2⟩ := tx_okc hok
        rw [d2] at hok
        obtain ⟨k3, d3⟩ := tx_ok1 hok
        have z1 : tx_q T n (p + 1, false) 49 = ((tx_p T n 49 (p + 1)).2.1, false) := by rw [tx_q_f, k1]; rfl
        have z2 : tx_q T n (tx_q T n (p + 1, false) 49) 126 = ((tx_p T n 126 (tx_p T n 49 (p + 1)).2.1).2.1, false) := by rw [z1, tx_q_f, k2]; rfl
        rw [z1] at w3
        rw [z2] at w4
        have w2 := w2 rfl
        have w3 := w3 rfl
        have w4 := w4 rfl
        have d : (tx_f T n [49, 126, 50] (p + 1) (0, 0, 0, 0)).2.2 = (v1, v2, v3, 1) := by
          rw [d1, d2, d3, w2, w3, w4]
          rfl
        have y4 : ∀ j, j ≠ 2 → X4.1 (am_c (D + 6) 21) (4 * k + j) = X3.1 (am_c (D + 6) 21) (4 * k + j) := fun j hj => by rw [hX4, av_tw (by omega), av_tof f4]
        have y3 : ∀ j, j ≠ 3 → X3.1 (am_c (D + 6) 21) (4 * k + j) = X2.1 (am_c (D + 6) 21) (4 * k + j) := fun j hj => by rw [hX3, av_tw (by omega), av_tof f3]
        have y2 : X2.1 (am_c (D + 6) 21) (4 * k + 0) = am_el 4 := by rw [hX2, av_tw (by omega), av_tof f2]; exact q1'
        refine ⟨show (4 : Nat) < 8 by decide, by rw [av_to, y4 0 (by decide), y3 0 (by decide)]; exact y2, ?_, fun _ => ⟨?_, ?_⟩, fun _ => ?_, fun h => absurd (show ((4 : Nat) = 6) from h) (by decide), fun h => absurd (show ((4 : Nat) = 7) from h) (by decide)⟩
        · show (tx_f T n [49, 126, 50] (p + 1) (0, 0, 0, 0)).2.2.2.2.1 = 0 ∨ (tx_f T n [49, 126, 50] (p + 1) (0, 0, 0, 0)).2.2.2.2.1 = 1
          rw [d, w3]
          exact tx_g_01
        · rw [av_to, y4 1 (by decide), y3 1 (by decide)]
          show _ = (tx_f T n [49, 126, 50] (p + 1) (0, 0, 0, 0)).2.2.1
          rw [d, hX2, av_jS]
        · rw [av_to]
          show _ = (tx_f T n [49, 126, 50] (p + 1) (0, 0, 0, 0)).2.2.2.1
          rw [d, hX4, av_jS]
        · rw [av_to, y4 3 (by decide)]
          show _ = (tx_f T n [49, 126, 50] (p + 1) (0, 0, 0, 0)).2.2.2.2.1
          rw [d, hX3, av_jS]
      · refine av_mg_t g1 (av_mg_t (av_mg_f f2) (av_mg_t ?_ (av_mg_t (av_mg_f f3) (av_mg_t ?_ (av_mg_t (av_mg_f f4) (av_mg_t ?_ av_mg_o))))))
        · rw [hX2]; exact av_mg_w (by omega)
        · rw [hX3]; exact av_mg_w (by omega)
        · rw [hX4]; exact av_mg_w (by omega)
    · have hx : tx_h T n p = 98 := hel.symm
      have hne : ¬ (98 : Int32) = -1 := by decide
      rw [hx] at hM0
      refine ⟨av_i M1 (am_c D 13) 25 (nI (k + 1)), ?_, av_mt_o t1, fun hok => ⟨show (5 : Nat) < 8 by decide, by rw [av_to]; exact q1', Or.inl rfl, fun h => absurd (show ((5 : Nat) ≤ 4) from h) (by decide), fun h => absurd (show ((5 : Nat) = 4) from h) (by decide), fun h => absurd (show ((5 : Nat) = 6) from h) (by decide), fun h => absurd (show ((5 : Nat) = 7) from h) (by decide)⟩, av_mg_t g1 av_mg_o⟩
      simp only [ae_X13_readsOne_0, ae_X13_readsOne_4, ae_X13_readsOne_9, ae_X13_readsOne_27, ae_X13_readsOne_31, ae_X13_readsOne_140, ae_X13_readsOne_148, ae_X13_readsOne_151, ae_X13_readsOne_159, ae_X13_readsOne_162, ae_X13_readsOne_170, ae_X13_readsOne_173, ae_X13_readsOne_177, ae_X13_readsOne_190, ae_X13_readsOne_195, ae_X13_readsOne_207, ae_X13_readsOne_212, ae_X13_readsOne_225, ae_X13_readsOne_229, ae_X13_readsOne_232, ae_X13_readsOne_236, ae_X13_readsOne_249, ae_X13_readsOne_253, ae_X13_readsOne_257, ae_X13_readsOne_269, ae_X13_readsOne_274, ae_X13_readsOne_287, ae_X13_readsOne_291, ae_X13_readsOne_306, ae_X13_readsOne_310, am_bnx_v, am_bnx_e, am_tl_s, am_tl_n, am_rv_s, am_add_rx, e, hx, m8, o25, av_xq4, i0, n0, ← hM0, p0, if_pos hne, nI_1, ← hM1, am_sw_y (show (98 : Int32) = 98 from rfl), o25']
    · have hx : tx_h T n p = 99 := hel.symm
      have hne : ¬ (99 : Int32) = -1 := by decide
      rw [hx] at hM0
      obtain ⟨M2, v1, e2, t2, w2, f2⟩ := mt_fig (ch := 49) (m := 1) (x := (p + 1, false)) t1 (by show p + 1 < _; omega) (by decide)
      obtain ⟨X2, hX2⟩ : ∃ X2, X2 = av_i M2 (am_c (D + 6) 21) (4 * k + 1) v1 := ⟨_, rfl⟩
      have tX2 : av_mt D X2 n T (tx_q T n (p + 1, false) 49).1 (tx_q T n (p + 1, false) 49).2 k := by rw [hX2]; exact av_mt_w t2
      have u2' := tX2.2.2.2.2.2.2
      refine ⟨av_i X2 (am_c D 13) 25 (nI (k + 1)), ?_, av_mt_o tX2, fun hok => ?_, ?_⟩
      · simp only [ae_X13_readsOne_0, ae_X13_readsOne_4, ae_X13_readsOne_9, ae_X13_readsOne_27, ae_X13_readsOne_31, ae_X13_readsOne_140, ae_X13_readsOne_148, ae_X13_readsOne_151, ae_X13_readsOne_159, ae_X13_readsOne_162, ae_X13_readsOne_170, ae_X13_readsOne_173, ae_X13_readsOne_177, ae_X13_readsOne_190, ae_X13_readsOne_195, ae_X13_readsOne_207, ae_X13_readsOne_212, ae_X13_readsOne_225, ae_X13_readsOne_229, ae_X13_readsOne_232, ae_X13_readsOne_236, ae_X13_readsOne_249, ae_X13_readsOne_253, ae_X13_readsOne_257, ae_X13_readsOne_269, ae_X13_readsOne_274, ae_X13_readsOne_287, ae_X13_readsOne_291, ae_X13_readsOne_306, ae_X13_readsOne_310, am_bnx_v, am_bnx_e, am_tl_s, am_tl_n, am_rv_s, am_add_rx, e, hx, m8, o25, av_xq4, i0, n0, ← hM0, p0, if_pos hne, nI_1, ← hM1, am_sw_n (show ¬ (99 : Int32) = 98 by decide), am_sw_y (show (99 : Int32) = 99 from rfl), m8', o25', x1, e2, i1, n1, ← hX2, u2']
      · have hok : (tx_f T n [49] (p + 1) (0, 0, 0, 0)).1 = true := hok
        obtain ⟨k1, d1⟩ := tx_ok1 hok
        have w2 := w2 rfl
        have d : (tx_f T n [49] (p + 1) (0, 0, 0, 0)).2.2 = (v1, 0, 0, 1) := by
          rw [d1, w2]
          rfl
        have y2 : X2.1 (am_c (D + 6) 21) (4 * k + 0) = am_el 6 := by rw [hX2, av_tw (by omega), av_tof f2]; exact q1'
        refine ⟨show (6 : Nat) < 8 by decide, by rw [av_to]; exact y2, ?_, fun h => absurd (show ((6 : Nat) ≤ 4) from h) (by decide), fun h => absurd (show ((6 : Nat) = 4) from h) (by decide), fun _ => ?_, fun h => absurd (show ((6 : Nat) = 7) from h) (by decide)⟩
        · show (tx_f T n [49] (p + 1) (0, 0, 0, 0)).2.2.2.2.1 = 0 ∨ _
          rw [d]
          exact Or.inl rfl
        · rw [av_to]
          show _ = (tx_f T n [49] (p + 1) (0, 0, 0, 0)).2.2.1
          rw [d, hX2, av_jS]
      · refine av_mg_t g1 (av_mg_t (av_mg_f f2) (av_mg_t ?_ av_mg_o))
        rw [hX2]; exact av_mg_w (by omega)
    · have hx : tx_h T n p = 118 := hel.symm
      have hne : ¬ (118 : Int32) = -1 := by decide
      rw [hx] at hM0
      obtain ⟨M2, v3, e2, t2, w2, f2⟩ := mt_sid (x := (p + 1, false)) t1 (by show p + 1 < _; omega)
      obtain ⟨X2, hX2⟩ : ∃ X2, X2 = av_i M2 (am_c (D + 6) 21) (4 * k + 3) v3 := ⟨_, rfl⟩
      have tX2 : av_mt D X2 n T (tx_q T n (p + 1, false) 126).1 (tx_q T n (p + 1, false) 126).2 k := by rw [hX2]; exact av_mt_w t2
      have b2 := tx_q_b (T := T) (n := n) (ch := 126) (x := (p + 1, false))
      have b2 : (tx_q T n (p + 1, false) 126).1 ≤ p + 1 + 2 := b2
      obtain ⟨M3, v1, e3, t3, w3, f3⟩ := mt_fig (ch := 49) (m := 1) tX2 (by omega) (by decide)
      obtain ⟨X3, hX3⟩ : ∃ X3, X3 = av_i M3 (am_c (D + 6) 21) (4 * k + 1) v1 := ⟨_, rfl⟩
      have tX3 : av_mt D X3 n T (tx_q T n (tx_q T n (p + 1, false) 126) 49).1 (tx_q T n (tx_q T n (p + 1, false) 126) 49).2 k := by rw [hX3]; exact av_mt_w t3
      have u2 : X2.2.1 (am_c D 13) 8 = am_c (D + 6) 21 + 1 := tX2.1.2
      have u2' := tX2.2.2.2.2.2.2
      have u3' := tX3.2.2.2.2.2.2
      refine ⟨av_i X3 (am_c D 13) 25 (nI (k + 1)), ?_, av_mt_o tX3, fun hok => ?_, ?_⟩
      · simp only [ae_X13_readsOne_0, ae_X13_readsOne_4, ae_X13_readsOne_9, ae_X13_readsOne_27, ae_X13_readsOne_31, ae_X13_readsOne_140, ae_X13_readsOne_148, ae_X13_readsOne_151, ae_X13_readsOne_159, ae_X13_readsOne_162, ae_X13_readsOne_170, ae_X13_readsOne_173, ae_X13_readsOne_177, ae_X13_readsOne_190, ae_X13_readsOne_195, ae_X13_readsOne_207, ae_X13_readsOne_212, ae_X13_readsOne_225, ae_X13_readsOne_229, ae_X13_readsOne_232, ae_X13_readsOne_236, ae_X13_readsOne_249, ae_X13_readsOne_253, ae_X13_readsOne_257, ae_X13_readsOne_269, ae_X13_readsOne_274, ae_X13_readsOne_287, ae_X13_readsOne_291, ae_X13_readsOne_306, ae_X13_readsOne_310, am_bnx_v, am_bnx_e, am_tl_s, am_tl_n, am_rv_s, am_add_rx, e, hx, m8, o25, av_xq4, i0, n0, ← hM0, p0, if_pos hne, nI_1, ← hM1, am_sw_n (show ¬ (118 : Int32) = 98 by decide), am_sw_n (show ¬ (118 : Int32) = 99 by decide), am_sw_n (show ¬ (118 : Int32) = 100 by decide), am_sw_n (show ¬ (118 : Int32) = 101 by decide), am_sw_n (show ¬ (118 : Int32) = 102 by decide), am_sw_n (show ¬ (118 : Int32) = 103 by decide), am_sw_n (show ¬ (118 : Int32) = 104 by decide), am_sw_n (show ¬ (118 : Int32) = 105 by decide), am_sw_n (show ¬ (118 : Int32) = 106 by decide), am_sw_n (show ¬ (118 : Int32) = 107 by decide), am_sw_n (show ¬ (118 : Int32) = 108 by decide), am_sw_n (show ¬ (118 : Int32) = 109 by decide), am_sw_n (show ¬ (118 : Int32) = 110 by decide), am_sw_n (show ¬ (118 : Int32) = 111 by decide), am_sw_n (show ¬ (118 : Int32) = 112 by decide), am_sw_n (show ¬ (118 : Int32) = 113 by decide), am_sw_n (show ¬ (118 : Int32) = 114 by decide), am_sw_n (show ¬ (118 : Int32) = 115 by decide), am_sw_n (show ¬ (118 : Int32) = 116 by decide), am_sw_n (show ¬ (118 : Int32) = 117 by decide), am_sw_y (show (118 : Int32) = 118 from rfl), m8', o25', x3, e2, i3, n3, ← hX2, u2, u2', x1, e3, i1, n1, ← hX3, u3']
      · have hok : (tx_f T n [126, 49] (p + 1) (0, 0, 0, 0)).1 = true := hok
        obtain ⟨k1, d1⟩ := tx_okc hok
        rw [d1] at hok
        obtain ⟨k2, d2⟩ := tx_ok1 hok
        have z1 : tx_q T n (p + 1, false) 126 = ((tx_p T n 126 (p + 1)).2.1, false) := by rw [tx_q_f, k1]; rfl
        rw [z1] at w3
        have w2 := w2 rfl
        have w3 := w3 rfl
        have d : (tx_f T n [126, 49] (p + 1) (0, 0, 0, 0)).2.2 = (v1, 0, v3, 1) := by
          rw [d1, d2, w2, w3]
          rfl
        have g01 : v3 = 0 ∨ v3 = 1 := by rw [w2]; exact tx_g_01
        have y3 : ∀ j, j ≠ 1 → X3.1 (am_c (D + 6) 21) (4 * k + j) = X2.1 (am_c (D + 6) 21) (4 * k + j) := fun j hj => by rw [hX3, av_tw (by omega), av_tof f3]
        have y2 : X2.1 (am_c (D + 6) 21) (4 * k + 0) = am_el 7 := by rw [hX2, av_tw (by omega), av_tof f2]; exact q1'
        refine ⟨show (7 : Nat) < 8 by decide, by rw [av_to, y3 0 (by decide)]; exact y2, ?_, fun h => absurd (show ((7 : Nat) ≤ 4) from h) (by decide), fun h => absurd (show ((7 : Nat) = 4) from h) (by decide), fun h => absurd (show ((7 : Nat) = 6) from h) (by decide), fun _ => ?_⟩
        · show (tx_f T n [126, 49] (p + 1) (0, 0, 0, 0)).2.2.2.2.1 = 0 ∨ (tx_f T n [126, 49] (p + 1) (0, 0, 0, 0)).2.2.2.2.1 = 1
          rw [d]
          exact g01
        · rw [av_to, av_to, y3 3 (by decide)]
          show _ = if (7 : Nat) = 7 then (if (tx_f T n [126, 49] (p + 1) (0, 0, 0, 0)).2.2.2.2.1 = 0 then -(tx_f T n [126, 49] (p + 1) (0, 0, 0, 0)).2.2.1 else (tx_f T n [126, 49] (p + 1) (0, 0, 0, 0)).2.2.1) else (tx_f T n [126, 49] (p + 1) (0, 0, 0, 0)).2.2.1
          rw [d, if_pos rfl, hX2, av_jS, hX3, av_jS]
          show (if v3 = 1 then v1 else -v1) = if v3 = 0 then -v1 else v1
          rcases g01 with h | h
          · rw [h, if_neg (by decide), if_pos rfl]
          · rw [h, if_pos rfl, if_neg (by decide)]
      · refine av_mg_t g1 (av_mg_t (av_mg_f f2) (av_mg_t ?_ (av_mg_t (av_mg_f f3) (av_mg_t ?_ av_mg_o))))
        · rw [hX2]; exact av_mg_w (by omega)
        · rw [hX3]; exact av_mg_w (by omega)
