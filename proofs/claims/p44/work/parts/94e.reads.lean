/-! what is read: a text's commands -/
theorem tx_c_8 {T : Nat → Int32} {n p : Nat} : (tx_c T n p).2.2.1 < 8 := by
  unfold tx_c
  cases h : tx_l (tx_h T n p) with
  | none => exact Nat.zero_lt_succ _
  | some c => exact (tx_l_8 h).1
theorem tx_r_8 {T : Nat → Int32} {n k p : Nat} : (tx_r T n k p).2.2.1 < 8 := by
  unfold tx_r
  by_cases hk : k = 0
  · rw [if_pos hk]; exact tx_c_8
  · rw [if_neg hk]
    by_cases h59 : tx_h T n p = 59
    · rw [if_pos h59]; exact tx_c_8
    · rw [if_neg h59]; exact Nat.zero_lt_succ _
theorem tx_y_8 {T : Nat → Int32} {n : Nat} : ∀ (qs : List tx_Q) (k p : Nat), tx_y T n qs k p → ∀ q ∈ qs, q.1 < 8 ∧ (q.2.2.2 = 0 ∨ q.2.2.2 = 1) := by
  intro qs
  induction qs with
  | nil => intro k p _ q hq; cases hq
  | cons q0 qs ih =>
    intro k p hy q hq
    obtain ⟨h1, h2, h3⟩ := hy
    rcases List.mem_cons.mp hq with e | hq
    · rw [e, ← h2]
      exact ⟨tx_r_8, tx_r_g⟩
    · exact ih _ _ h3 q hq
section
variable {Lx bd : Nat} {xs : Nat → Int32} {S : Nat → Int64} {σ : Nat → Int32} {L : List (Nat → Int32)} {H : List av_K} {P : Option av_K}
theorem pL_tf {n0 : Nat} {M X : am_M} (h : pL Lx xs S M) (f : tf n0 M X) (hz : fz X) : pL Lx xs S X := by
  obtain ⟨h1, h2, h3, h4⟩ := h
  obtain ⟨f1, f2, f3, f4⟩ := f
  refine ⟨by rw [f3]; exact h1, by omega, by rw [f2]; exact h3, fun c k j hk hc => ?_⟩
  rw [hz c k hk hc]
theorem pL_fz {M : am_M} (h : pL Lx xs S M) : fz M := fun c k hk hc => funext fun j => h.2.2.2 c k j hk hc
theorem pZ_tf {n0 : Nat} {M X : am_M} (h : pZ Lx xs S bd σ L H P M) (f : tf n0 M X) (hn : 274 ≤ n0) (hz : fz X) : pZ Lx xs S bd σ L H P X := by
  obtain ⟨hL, hS, q, T, g, l, hx⟩ := h
  exact ⟨pL_tf hL f hz, hS, q, T, g, l, av_x_g hx (fun c k j hk a b => by
    obtain ⟨e1, e2⟩ := f.1 c k hk (by omega)
    rw [e1, e2]
    exact ⟨rfl, rfl⟩)⟩
/-- while a text is read -/
def pR (Lx : Nat) (xs : Nat → Int32) (S : Nat → Int64) (bd : Nat) (σ : Nat → Int32) (L : List (Nat → Int32)) (H : List av_K) (P : Option av_K) (s w k n j : Nat) (M : am_M) : Prop := pL Lx xs S M ∧ av_okS bd σ L H P ∧ ts M s w k n ∧ ∃ q T f l, av_x M σ L H P q j T f l
theorem ts_fx {s w k n : Nat} {M X : am_M} (h : ts M s w k n) (f : av_fx M X) (hk : k < 64) (hs : 274 ≤ s) (hw : 274 ≤ w) : ts X s w k n := by
  obtain ⟨h1, h2, h3⟩ := h
  exact ⟨by rw [(f.2 s 13 0 (by decide) hs).2]; exact h1, by rw [(f.2 s 13 1 (by decide) hs).1]; exact h2, fun j hj => by rw [(f.2 w k j hk hw).1]; exact h3 j hj⟩
theorem lx_commands_0 {M1 : am_M} : am_hx iL_commands 1 0 [some (.ref (am_c 0 12)), none] 0 M1 = some (.inl (some (.int (-76))), M1, 0, 0) := by
  rw [show am_hx iL_commands 1 0 [some (.ref (am_c 0 12)), none] 0 M1 = am_val iL_commands 10 [some (.ref (am_c 0 12)), none] [] M1 from rfl, ae_L_commands_10]
theorem lx_commands_2 {M1 : am_M} : am_hx iL_commands 1 0 [some (.ref (am_c 0 12)), none] 2 M1 = some (.inl (some (.int (-78))), M1, 0, 0) := by
  rw [show am_hx iL_commands 1 0 [some (.ref (am_c 0 12)), none] 2 M1 = am_val iL_commands 6 [some (.ref (am_c 0 12)), none] [] M1 from rfl, ae_L_commands_6]
/-- what reading a text comes to -/
def qd (Lx : Nat) (xs : Nat → Int32) (S : Nat → Int64) (bd : Nat) (σ : Nat → Int32) (L : List (Nat → Int32)) (H : List av_K) (P : Option av_K) (v : Option Value) (M : am_M) : Prop :=
  (∃ r : Int32, (r = -78 ∨ r = -76) ∧ v = some (.int r) ∧ pZ Lx xs S bd σ L H P M) ∨
  ∃ qs : List tx_Q, qs.length ≤ 31 ∧ (∀ q ∈ qs, q.1 < 8 ∧ (q.2.2.2 = 0 ∨ q.2.2.2 = 1)) ∧ (tx_x qs 0 σ L).1 = none ∧ v = some (.int (nI qs.length)) ∧ pZ Lx xs S (bd + 1240) (tx_x qs 0 σ L).2.1 (tx_x qs 0 σ L).2.2 (av_pu H (σ, L)) P M
theorem lq_commands {s w k n j : Nat} {M : am_M} (hZ : pR Lx xs S bd σ L H P s w k n j M) (hbd : bd + 1240 < 1000000000) : wq (am_val iL_commands 0 [some (.ref (am_c 0 12)), none] [] M) 1 (qd Lx xs S bd σ L H P) := by
  obtain ⟨hL, hS, -, q, T, f, l, hx⟩ := hZ
  have hj := hx.2.2.2.2.2.1.2.1
  obtain ⟨M', fx, h1, h2⟩ := tc_cmds hx hS.1 hbd
  rw [ae_L_commands_0]
  cases ht : (tx_t T j).1 with
  | false =>
    obtain ⟨e, x1⟩ := h1 ht
    rw [e, am_bnx_e, lx_commands_2]
    exact wq_add (k := 1) (K := 0) (wq_e (Or.inl ⟨-78, Or.inl rfl, rfl, pL_fx hL fx, hS, _, _, _, _, x1⟩)) (by decide) (by decide)
  | true =>
    obtain ⟨h3, h4⟩ := h2 ht
    obtain ⟨hy, hl⟩ := tx_ty hj ht
    cases hz : (tx_x (tx_t T j).2.2 0 σ L).1 with
    | some z =>
      obtain ⟨e, x1⟩ := h3 z hz
      rw [e, am_bnx_e, lx_commands_0]
      exact wq_add (k := 1) (K := 0) (wq_e (Or.inl ⟨-76, Or.inr rfl, rfl, pL_fx hL fx, hS, _, _, _, _, x1⟩)) (by decide) (by decide)
    | none =>
      obtain ⟨e, x1, ok⟩ := h4 hz
      rw [e, am_bnx_v]
      simp only [ae_L_commands_0, ae_L_commands_4, ae_L_commands_6, ae_L_commands_10, am_bnx_v, am_bnx_e, am_tl_s, am_tl_n, am_rv_s, am_add_rx]
      exact wq_e (Or.inr ⟨_, hl, tx_y_8 _ _ _ hy, hz, rfl, pL_fx hL fx, av_okS_pu hS hx.2.2.1.2.1 ok (by omega), _, _, _, _, x1⟩)
theorem lq_append1 {s w k n j : Nat} {x : Int32} {M : am_M} (hc : (x.toUInt32 % 65536).toInt32 = x) (hj : j < 60) (hk : k < 64) (hs : 274 ≤ s) (hw : 274 ≤ w) (hZ : pR Lx xs S bd σ L H P s w k n j M) : wq (am_val iL_append 0 [some (.ref (am_c 0 12)), some (.int x), none] [] M) 0 (qi (pR Lx xs S bd σ L H P s w k n (j + 1)) (nI (j + 1))) := by
  obtain ⟨hL, hS, ht, q, T, f, l, hx⟩ := hZ
  obtain ⟨M1, e, fx, x1⟩ := (ac_append hc hx).1 hj
  rw [ae_L_append_0, e, am_bnx_v]
  simp only [ae_L_append_0, ae_L_append_5, ae_L_append_7, am_bnx_v, am_bnx_e, am_tl_s, am_tl_n, am_rv_s, am_add_rx]
  exact wq_e ⟨rfl, pL_fx hL fx, hS, ts_fx ht fx hk hs hw, _, _, _, _, x1⟩
theorem lq_reads {s w k n : Nat} {M : am_M} (hk : sk k n) (hs : 274 ≤ s) (hw : 274 ≤ w) (ht : ts M s w k n) (hZ : pZ Lx xs S bd σ L H P M) (hbd : bd + 1240 < 1000000000) : wq (am_val iL_reads 0 [some (.ref (am_c 0 12)), some (.ref (am_c s 13)), none, none] [] M) 1 (qd Lx xs S bd σ L H P) := by
  obtain ⟨k1, k2, k3⟩ := sk_k hk
  have key : ∀ m j, j + m = n → ∀ o M, pR Lx xs S bd σ L H P s w k n j M → wq (am_val iL_reads 2 [some (.ref (am_c 0 12)), some (.ref (am_c s 13)), some (.int (nI j)), o] [] M) 1 (qd Lx xs S bd σ L H P) := by
    intro m
    induction m with
    | zero =>
      intro j hj o M hR
      obtain rfl : j = n := by omega
      rw [ae_L_reads_2, jt_len_s hR.2.2.1 hk, am_bnx_v]
      simp only [am_tl_s]
      rw [ae_L_reads_7, if_pos (nI_le (Nat.le_refl _) (by omega)), ae_L_reads_26]
      refine wq_c (lq_commands hR hbd) (Nat.le_refl _) fun v M1 hq => ?_
      rcases hq with ⟨r, hr, rfl, z⟩ | ⟨qs, a1, a2, a3, rfl, z⟩
      · simp only [am_tl_s]
        rw [ae_L_reads_30]
        exact wq_e (Or.inl ⟨r, hr, rfl, z⟩)
      · simp only [am_tl_s]
        rw [ae_L_reads_30]
        exact wq_e (Or.inr ⟨qs, a1, a2, a3, rfl, z⟩)
    | succ m ih =>
      intro j hj o M hR
      obtain ⟨x, hc, e⟩ := jt_ch (j := j) hR.2.2.1 hk (by omega)
      rw [ae_L_reads_2, jt_len_s hR.2.2.1 hk, am_bnx_v]
      simp only [am_tl_s]
      rw [ae_L_reads_7, if_neg (nI_ge (by omega) (by omega)), ae_L_reads_10, e, am_bnx_v]
      simp only [am_tl_s]
      rw [ae_L_reads_16]
      refine wq_i (lq_append1 hc (by omega) k1 hs hw hR) (Nat.zero_le _) fun M1 hR1 => ?_
      simp only [am_tl_s]
      rw [ae_L_reads_19, nI_1]
      exact ih (j + 1) (by omega) _ M1 hR1
  rw [ae_L_reads_0, ← nI_0]
  obtain ⟨hL, hS, q, T, f, l, hx⟩ := hZ
  exact key n 0 (Nat.zero_add _) none M ⟨hL, hS, ht, q, T, f, l, hx⟩
end
