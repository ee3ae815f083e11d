/-! the second implementation: a command is read -/
def tx_q (T : Nat → Int32) (n : Nat) (x : Nat × Bool) (ch : Nat) : Nat × Bool := (if x.2 = true then x.1 else (tx_p T n ch x.1).2.1, x.2 || !(tx_p T n ch x.1).1)
theorem tx_q_t {T : Nat → Int32} {n p ch : Nat} : tx_q T n (p, true) ch = (p, true) := rfl
theorem tx_q_f {T : Nat → Int32} {n p ch : Nat} : tx_q T n (p, false) ch = ((tx_p T n ch p).2.1, !(tx_p T n ch p).1) := rfl
theorem tx_qt {T : Nat → Int32} {n : Nat} : ∀ (r : List Nat) (p : Nat), r.foldl (tx_q T n) (p, true) = (p, true) := by
  intro r
  induction r with
  | nil => intro p; rfl
  | cons ch r ih => intro p; exact ih p
theorem tx_qf {T : Nat → Int32} {n : Nat} : ∀ (r : List Nat) (p : Nat) (o : tx_O), r.foldl (tx_q T n) (p, false) = ((tx_f T n r p o).2.1, !(tx_f T n r p o).1) := by
  intro r
  induction r with
  | nil => intro p o; rfl
  | cons ch r ih =>
    intro p o
    have e : tx_f T n (ch :: r) p o = if (tx_p T n ch p).1 = true then tx_f T n r (tx_p T n ch p).2.1 (tx_u ch o (tx_p T n ch p).2.2) else (false, (tx_p T n ch p).2.1, tx_u ch o (tx_p T n ch p).2.2) := rfl
    rw [e, List.foldl_cons, tx_q_f]
    cases h : (tx_p T n ch p).1 with
    | true =>
      rw [if_pos rfl]
      exact ih _ _
    | false =>
      rw [if_neg (by decide)]
      exact tx_qt r _
theorem tx_ok1 {T : Nat → Int32} {n a p : Nat} {o : tx_O} (h : (tx_f T n [a] p o).1 = true) : (tx_p T n a p).1 = true ∧ (tx_f T n [a] p o).2.2 = tx_u a o (tx_p T n a p).2.2 := by
  have e : tx_f T n [a] p o = if (tx_p T n a p).1 = true then (true, (tx_p T n a p).2.1, tx_u a o (tx_p T n a p).2.2) else (false, (tx_p T n a p).2.1, tx_u a o (tx_p T n a p).2.2) := rfl
  rw [e] at h ⊢
  by_cases h1 : (tx_p T n a p).1 = true
  · rw [if_pos h1]
    exact ⟨h1, rfl⟩
  · rw [if_neg h1] at h
    cases h
theorem tx_okc {T : Nat → Int32} {n a p : Nat} {r : List Nat} {o : tx_O} (h : (tx_f T n (a :: r) p o).1 = true) : (tx_p T n a p).1 = true ∧ tx_f T n (a :: r) p o = tx_f T n r (tx_p T n a p).2.1 (tx_u a o (tx_p T n a p).2.2) := by
  have e : tx_f T n (a :: r) p o = if (tx_p T n a p).1 = true then tx_f T n r (tx_p T n a p).2.1 (tx_u a o (tx_p T n a p).2.2) else (false, (tx_p T n a p).2.1, tx_u a o (tx_p T n a p).2.2) := rfl
  rw [e] at h ⊢
  by_cases h1 : (tx_p T n a p).1 = true
  · rw [if_pos h1]
    exact ⟨h1, rfl⟩
  · rw [if_neg h1] at h
    cases h
theorem tx_p_b {T : Nat → Int32} {n ch p : Nat} : (tx_p T n ch p).2.1 ≤ p + 2 := by
  have h := (tx_f_b (T := T) (n := n) [ch] p (0, 0, 0, 0)).2
  have e : tx_f T n [ch] p (0, 0, 0, 0) = if (tx_p T n ch p).1 = true then (true, (tx_p T n ch p).2.1, tx_u ch (0, 0, 0, 0) (tx_p T n ch p).2.2) else (false, (tx_p T n ch p).2.1, tx_u ch (0, 0, 0, 0) (tx_p T n ch p).2.2) := rfl
  rw [e] at h
  by_cases h1 : (tx_p T n ch p).1 = true
  · rw [if_pos h1] at h; exact h
  · rw [if_neg h1] at h; exact h
theorem tx_q_b {T : Nat → Int32} {n ch : Nat} {x : Nat × Bool} : (tx_q T n x ch).1 ≤ x.1 + 2 := by
  unfold tx_q
  by_cases h : x.2 = true
  · rw [if_pos h]; exact Nat.le_add_right _ _
  · rw [if_neg h]; exact tx_p_b
theorem av_tv {M : am_M} {D f j : Nat} {v : Int32} : (av_i M (am_c (D + 6) 21) f v).1 (am_c (D + 5) 20) j = M.1 (am_c (D + 5) 20) j := am_up_a (am_c_ne (by decide) (by decide) (by omega))
theorem av_tv' {M : am_M} {D f j : Nat} {v : Int32} : (av_i M (am_c D 13) f v).1 (am_c (D + 5) 20) j = M.1 (am_c (D + 5) 20) j := am_up_a (am_c_ne (by decide) (by decide) (by omega))
theorem av_mt_w {D n p k j : Nat} {T : Nat → Int32} {w : Bool} {v : Int32} {M : am_M} (h : av_mt D M n T p w k) : av_mt D (av_i M (am_c (D + 6) 21) j v) n T p w k := by
  obtain ⟨h1, h3, h4, h5, h6, h7, h8⟩ := h
  have g : ∀ f, (av_i M (am_c (D + 6) 21) j v).1 (am_c D 13) f = M.1 (am_c D 13) f := fun f => am_up_a (am_c_ne (by decide) (by decide) (by omega))
  exact ⟨h1, h3, fun j hj => av_tv.trans (h4 j hj), (g _).trans h5, (g _).trans h6, (g _).trans h7, (g _).trans h8⟩
theorem av_mt_o {D n p k k' : Nat} {T : Nat → Int32} {w : Bool} {M : am_M} (h : av_mt D M n T p w k) : av_mt D (av_i M (am_c D 13) 25 (nI k')) n T p w k' := by
  obtain ⟨h1, h3, h4, h5, h6, h7, h8⟩ := h
  exact ⟨h1, h3, fun j hj => av_tv'.trans (h4 j hj), by rw [av_jK (by decide)]; exact h5, by rw [av_jK (by decide)]; exact h6, by rw [av_jK (by decide)]; exact h7, av_jS⟩
/-- what is told before the order k stays -/
def av_mg (D k : Nat) (M X : am_M) : Prop := X.2 = M.2 ∧ ∀ c q j, q < 64 → ¬ (c = D ∧ q = 13 ∧ (j = 23 ∨ j = 25 ∨ j = 26)) → ¬ (c = D + 6 ∧ q = 21 ∧ 4 * k ≤ j) → X.1 (am_c c q) j = M.1 (am_c c q) j
theorem av_mg_t {D k : Nat} {M X Y : am_M} (h : av_mg D k M X) (h' : av_mg D k X Y) : av_mg D k M Y := ⟨h'.1.trans h.1, fun c q j hk a b => (h'.2 c q j hk a b).trans (h.2 c q j hk a b)⟩
theorem av_mg_f {D k : Nat} {M X : am_M} (h : av_mf D M X) : av_mg D k M X := ⟨h.1, fun c q j hk a _ => h.2 c q j hk (fun hh => a ⟨hh.1, hh.2.1, by omega⟩)⟩
theorem av_mg_w {D k j : Nat} {v : Int32} {M : am_M} (hj : 4 * k ≤ j) : av_mg D k M (av_i M (am_c (D + 6) 21) j v) := ⟨rfl, fun c q j' hk _ b => am_up_ak (fun hh => b (by
  have e := hh.1
  rw [am_c_inj hk (by decide)] at e
  exact ⟨e.1, e.2, by omega⟩))⟩
theorem av_mg_o {D k : Nat} {v : Int32} {M : am_M} : av_mg D k M (av_i M (am_c D 13) 25 v) := ⟨rfl, fun c q j' hk a _ => am_up_ak (fun hh => a (by
  have e := hh.1
  rw [am_c_inj hk (by decide)] at e
  exact ⟨e.1, e.2, by omega⟩))⟩
theorem av_mg_p {D k : Nat} {v : Int32} {M : am_M} : av_mg D k M (av_i M (am_c D 13) 23 v) := av_mg_f (av_mf_i (Or.inl rfl))
theorem av_tw {M : am_M} {D j j' : Nat} {v : Int32} (h : j' ≠ j) : (av_i M (am_c (D + 6) 21) j v).1 (am_c (D + 6) 21) j' = M.1 (am_c (D + 6) 21) j' := av_jK h
theorem av_to {M : am_M} {D f j' : Nat} {v : Int32} : (av_i M (am_c D 13) f v).1 (am_c (D + 6) 21) j' = M.1 (am_c (D + 6) 21) j' := am_up_a (am_c_ne (by decide) (by decide) (by omega))
theorem av_tof {D j : Nat} {M X : am_M} (h : av_mf D M X) : X.1 (am_c (D + 6) 21) j = M.1 (am_c (D + 6) 21) j := h.2 _ _ _ (by decide) (by omega)
theorem av_x4k {k a : Nat} (ha : a < 4) (hk : k < 60) : am_in (nI (4 * k + a)) 240 = true ∧ (nI (4 * k + a)).toNatClampNeg = 4 * k + a := ⟨am_in_n (by omega) (by decide), am_tn (by omega)⟩
theorem av_xq4 {k : Nat} : (4 : Int32) * nI k = nI (4 * k + 0) := by rw [show (4 : Int32) = nI 4 from rfl, pk_mul]; rfl
theorem av_x4a {k a : Nat} : nI (4 * k + 0) + nI a = nI (4 * k + a) := by rw [nI_add]; rfl
/-- what is told of the order k -/
def av_td (D : Nat) (M : am_M) (k : Nat) (q : Nat × Int32 × Int32 × Int32) : Prop := q.1 < 8 ∧ M.1 (am_c (D + 6) 21) (4 * k + 0) = am_el q.1 ∧ (q.2.2.2 = 0 ∨ q.2.2.2 = 1) ∧ (q.1 ≤ 4 → M.1 (am_c (D + 6) 21) (4 * k + 1) = q.2.1 ∧ M.1 (am_c (D + 6) 21) (4 * k + 2) = q.2.2.1) ∧ (q.1 = 4 → M.1 (am_c (D + 6) 21) (4 * k + 3) = q.2.2.2) ∧ (q.1 = 6 → M.1 (am_c (D + 6) 21) (4 * k + 1) = q.2.1) ∧ (q.1 = 7 → (if M.1 (am_c (D + 6) 21) (4 * k + 3) = 1 then M.1 (am_c (D + 6) 21) (4 * k + 1) else -M.1 (am_c (D + 6) 21) (4 * k + 1)) = q.2.1)
theorem tx_g_01 {T : Nat → Int32} {n p : Nat} : (tx_p T n 126 p).2.2 = 0 ∨ (tx_p T n 126 p).2.2 = 1 := by
  show (tx_g T n p).2.2 = 0 ∨ (tx_g T n p).2.2 = 1
  unfold tx_g
  split
  · exact Or.inr rfl
  · split
    · exact Or.inl rfl
    · exact Or.inl rfl
