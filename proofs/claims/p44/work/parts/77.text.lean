/-! texts: how a command is read -/
def tx_h (T : Nat → Int32) (n p : Nat) : Int32 := if p < n then T p else -1
def tx_d (x : Int32) : Bool := am_wt x 48 57
/-- whether it is there, the place behind it, its value -/
abbrev tx_R : Type := Bool × Nat × Int32
def tx_1 (T : Nat → Int32) (n p : Nat) : tx_R := if tx_d (tx_h T n p) = true then (true, p + 1, tx_h T n p - 48) else (false, p, 0)
def tx_2 (T : Nat → Int32) (n p : Nat) : tx_R := if tx_d (tx_h T n p) = true then (if tx_d (tx_h T n (p + 1)) = true then (true, p + 2, 10 * (tx_h T n p - 48) + tx_h T n (p + 1) - 48) else (true, p + 1, tx_h T n p - 48)) else (false, p, 0)
def tx_k (T : Nat → Int32) (n : Nat) (ch : Int32) (p : Nat) : tx_R := if tx_h T n p = ch then (true, p + 1, 0) else (false, p, 0)
def tx_g (T : Nat → Int32) (n p : Nat) : tx_R := if tx_h T n p = 43 then (true, p + 1, 1) else if tx_h T n p = 45 then (true, p + 1, 0) else (false, p, 0)
def tx_p (T : Nat → Int32) (n ch p : Nat) : tx_R := if ch = 49 then tx_1 T n p else if ch = 50 then tx_2 T n p else if ch = 126 then tx_g T n p else tx_k T n (nI ch) p
/-- an order's numbers: the first, the second, the side, whether it has a first -/
abbrev tx_O : Type := Int32 × Int32 × Int32 × Int32
def tx_a (o : tx_O) (v : Int32) : tx_O := if o.2.2.2 = 0 then (v, o.2.1, o.2.2.1, 1) else (o.1, v, o.2.2.1, o.2.2.2)
def tx_u (ch : Nat) (o : tx_O) (v : Int32) : tx_O := if ch = 49 then tx_a o v else if ch = 50 then tx_a o v else if ch = 126 then (o.1, o.2.1, v, o.2.2.2) else o
def tx_f (T : Nat → Int32) (n : Nat) : List Nat → Nat → tx_O → Bool × Nat × tx_O
  | [], p, o => (true, p, o)
  | ch :: r, p, o => if (tx_p T n ch p).1 = true then tx_f T n r (tx_p T n ch p).2.1 (tx_u ch o (tx_p T n ch p).2.2) else (false, (tx_p T n ch p).2.1, tx_u ch o (tx_p T n ch p).2.2)
def tx_l (x : Int32) : Option Nat := av_fst (fun k => decide (am_el k = x)) 8
/-- a command: whether it is right, the place behind it, its number and its order's numbers -/
abbrev tx_C : Type := Bool × Nat × Nat × Int32 × Int32 × Int32
def tx_e (c : Nat) (r : Bool × Nat × tx_O) : tx_C := (r.1, r.2.1, c, if c = 7 then (if r.2.2.2.2.1 = 0 then -r.2.2.1 else r.2.2.1) else r.2.2.1, r.2.2.2.1, r.2.2.2.2.1)
def tx_c (T : Nat → Int32) (n p : Nat) : tx_C := match tx_l (tx_h T n p) with
  | none => (false, p, 0, 0, 0, 0)
  | some c => tx_e c (tx_f T n (am_fs (am_ef c)) (p + 1) (0, 0, 0, 0))
def tx_r (T : Nat → Int32) (n k p : Nat) : tx_C := if k = 0 then tx_c T n p else if tx_h T n p = 59 then tx_c T n (p + 1) else (false, p, 0, 0, 0, 0)
/-! the class's text -/
def av_tx (M : am_M) (n : Nat) (T : Nat → Int32) : Prop := M.2.1 (am_c 244 10) 0 = am_c 245 22 + 1 ∧ n ≤ 60 ∧ M.1 (am_c 244 10) 1 = nI n ∧ ∀ j, j < n → M.1 (am_c 245 22) j = T j
def av_or (M : am_M) (o : tx_O) : Prop := M.1 (am_c 248 5) 1 = o.1 ∧ M.1 (am_c 248 5) 2 = o.2.1 ∧ M.1 (am_c 248 5) 3 = o.2.2.1 ∧ M.1 (am_c 248 5) 4 = o.2.2.2
/-- only the text's place and the order's numbers are changed -/
def av_fo (M X : am_M) : Prop := X.2 = M.2 ∧ ∀ c k j, k < 64 → ¬ (c = 244 ∧ k = 10 ∧ j = 2) → ¬ (c = 248 ∧ k = 5) → X.1 (am_c c k) j = M.1 (am_c c k) j
theorem av_fo_0 {M : am_M} : av_fo M M := ⟨rfl, fun _ _ _ _ _ _ => rfl⟩
theorem av_fo_t {M X Y : am_M} (h : av_fo M X) (h' : av_fo X Y) : av_fo M Y := ⟨h'.1.trans h.1, fun c k j hk a b => (h'.2 c k j hk a b).trans (h.2 c k j hk a b)⟩
theorem av_fo_p {M : am_M} {x : Int32} : av_fo M (av_i M (am_c 244 10) 2 x) := ⟨rfl, fun c k j hk a _ => am_up_ak (fun hh => a (by
  have e := hh.1
  rw [am_c_inj hk (by decide)] at e
  exact ⟨e.1, e.2, hh.2⟩))⟩
theorem av_fo_o {M : am_M} {f : Nat} {x : Int32} : av_fo M (av_i M (am_c 248 5) f x) := ⟨rfl, fun c k j hk _ b => am_up_a (am_c_ne hk (by decide) b)⟩
theorem av_t5 {M : am_M} {f j : Nat} {x : Int32} : (av_i M (am_c 244 10) f x).1 (am_c 248 5) j = M.1 (am_c 248 5) j := am_up_a (am_c_ne (by decide) (by decide) (by decide))
theorem av_t4 {M : am_M} {f j : Nat} {x : Int32} : (av_i M (am_c 248 5) f x).1 (am_c 244 10) j = M.1 (am_c 244 10) j := am_up_a (am_c_ne (by decide) (by decide) (by decide))
theorem av_tx_fo {M X : am_M} {n : Nat} {T : Nat → Int32} (h : av_tx M n T) (f : av_fo M X) : av_tx X n T :=
  ⟨by rw [f.1]; exact h.1, h.2.1, (f.2 _ _ _ (by decide) (by decide) (by decide)).trans h.2.2.1, fun j hj => (f.2 _ _ _ (by decide) (by omega) (by decide)).trans (h.2.2.2 j hj)⟩
theorem tx_h_n {T : Nat → Int32} {n p : Nat} (h : ¬ p < n) : tx_h T n p = -1 := if_neg h
theorem tx_h_y {T : Nat → Int32} {n p : Nat} (h : p < n) : tx_h T n p = T p := if_pos h
theorem tc_skip {n p : Nat} {T : Nat → Int32} {ch : Int32} {M : am_M} (hx : av_tx M n T) (hp : M.1 (am_c 244 10) 2 = nI p) (hpb : p < 2147483648) (hc : ¬ ch = -1) : ∃ M', am_val iX10_skip 0 [some (.ref (am_c 244 10)), some (.int ch), none] [] M = some (.inl (some (.int (am_bi (tx_k T n ch p).1))), M', 0, 0) ∧ M'.1 (am_c 244 10) 2 = nI (tx_k T n ch p).2.1 ∧ av_fo M M' ∧ ∀ f, M'.1 (am_c 248 5) f = M.1 (am_c 248 5) f := by
  obtain ⟨x0, x1, x2, x3⟩ := hx
  unfold tx_k
  by_cases hpn : p < n
  · have a1 : ¬ nI n ≤ nI p := av_hl hpn (by omega)
    have hin := am_in_n (show p < 60 by omega) (by decide)
    have htn := am_tn (show p < 2147483648 by omega)
    rw [tx_h_y hpn]
    by_cases he : T p = ch
    · rw [if_pos he]
      refine ⟨av_i M (am_c 244 10) 2 (nI (p + 1)), ?_, av_jS, av_fo_p, fun f => av_t5⟩
      simp only [ae_X10_skip_0, ae_X10_skip_11, ae_X10_skip_15, ae_X10_skip_24, ae_X10_skip_28, ae_X10_skip_34, ae_X10_skip_44, am_bnx_v, am_bnx_e, am_tl_s, am_tl_n, am_rv_s, am_add_rx, x0, x2, hp, a1, hin, htn, x3 p hpn, if_neg (not_not_intro he), am_bi_t, not_true_eq_false, not_false_eq_true, if_true, if_false, am_1n0, or_true, true_or, eq_self, Bool.true_eq_false, Bool.false_eq_true, cond_true, cond_false, nI_1]
    · rw [if_neg he]
      refine ⟨M, ?_, hp, av_fo_0, fun f => rfl⟩
      simp only [ae_X10_skip_0, ae_X10_skip_11, ae_X10_skip_15, ae_X10_skip_24, ae_X10_skip_28, ae_X10_skip_34, ae_X10_skip_44, am_bnx_v, am_bnx_e, am_tl_s, am_tl_n, am_rv_s, am_add_rx, x0, x2, hp, a1, hin, htn, x3 p hpn, he, am_bi_f, not_true_eq_false, not_false_eq_true, if_true, if_false, am_1n0, or_true, true_or, eq_self, Bool.true_eq_false, Bool.false_eq_true, cond_true, cond_false]
  · have a1 : nI n ≤ nI p := nI_le (by omega) (by omega)
    rw [tx_h_n hpn, if_neg (fun h => hc h.symm)]
    refine ⟨M, ?_, hp, av_fo_0, fun f => rfl⟩
    simp only [ae_X10_skip_0, ae_X10_skip_11, ae_X10_skip_15, ae_X10_skip_24, ae_X10_skip_28, ae_X10_skip_34, ae_X10_skip_44, am_bnx_v, am_bnx_e, am_tl_s, am_tl_n, am_rv_s, am_add_rx, x2, hp, a1, am_bi_f, not_true_eq_false, not_false_eq_true, if_true, if_false, am_1n0, or_true, true_or, eq_self, Bool.true_eq_false, Bool.false_eq_true, cond_true, cond_false]
theorem tc_digit {n p : Nat} {T : Nat → Int32} {M : am_M} (hx : av_tx M n T) (hp : M.1 (am_c 244 10) 2 = nI p) (hpb : p < 2147483648) : am_val iX10_isDigitNext 0 [some (.ref (am_c 244 10))] [] M = some (.inl (some (.int (am_bi (tx_d (tx_h T n p))))), M, 0, 0) := by
  obtain ⟨x0, x1, x2, x3⟩ := hx
  by_cases hpn : p < n
  · have a1 : ¬ nI n ≤ nI p := av_hl hpn (by omega)
    have hin := am_in_n (show p < 60 by omega) (by decide)
    have htn := am_tn (show p < 2147483648 by omega)
    rw [tx_h_y hpn]
    unfold tx_d
    cases hw : am_wt (T p) 48 57 with
    | true => simp only [ae_X10_isDigitNext_0, ae_X10_isDigitNext_11, ae_X10_isDigitNext_15, ae_X10_isDigitNext_27, ae_X10_isDigitNext_30, ae_X10_isDigitNext_34, am_bnx_v, am_bnx_e, am_tl_s, am_tl_n, am_rv_s, am_add_rx, x0, x2, hp, a1, hin, htn, x3 p hpn, ac_isWithin, hw, am_bi_t, not_true_eq_false, not_false_eq_true, if_true, if_false, am_1n0, or_true, true_or, eq_self, Bool.true_eq_false, Bool.false_eq_true, cond_true, cond_false]
    | false => simp only [ae_X10_isDigitNext_0, ae_X10_isDigitNext_11, ae_X10_isDigitNext_15, ae_X10_isDigitNext_27, ae_X10_isDigitNext_30, ae_X10_isDigitNext_34, am_bnx_v, am_bnx_e, am_tl_s, am_tl_n, am_rv_s, am_add_rx, x0, x2, hp, a1, hin, htn, x3 p hpn, ac_isWithin, hw, am_bi_f, not_true_eq_false, not_false_eq_true, if_true, if_false, am_1n0, or_true, true_or, eq_self, Bool.true_eq_false, Bool.false_eq_true, cond_true, cond_false]
  · have a1 : nI n ≤ nI p := nI_le (by omega) (by omega)
    rw [tx_h_n hpn, show tx_d (-1) = false by decide, am_bi_f]
    simp only [ae_X10_isDigitNext_0, ae_X10_isDigitNext_11, ae_X10_isDigitNext_15, ae_X10_isDigitNext_27, ae_X10_isDigitNext_30, ae_X10_isDigitNext_34, am_bnx_v, am_bnx_e, am_tl_s, am_tl_n, am_rv_s, am_add_rx, x2, hp, a1, not_true_eq_false, not_false_eq_true, if_true, if_false, am_1n0, or_true, true_or, eq_self, Bool.true_eq_false, Bool.false_eq_true, cond_true, cond_false]
theorem tc_add {o : tx_O} {v : Int32} {M : am_M} (ho : av_or M o) : ∃ M', am_val iX5_addNumber 0 [some (.ref (am_c 248 5)), some (.int v)] [] M = some (.inl none, M', 0, 0) ∧ av_or M' (tx_a o v) ∧ M'.1 (am_c 244 10) 2 = M.1 (am_c 244 10) 2 ∧ av_fo M M' := by
  obtain ⟨o1, o2, o3, o4⟩ := ho
  unfold tx_a
  by_cases h : o.2.2.2 = 0
  · rw [if_pos h]
    rw [h] at o4
    refine ⟨av_i (av_i M (am_c 248 5) 1 v) (am_c 248 5) 4 1, ?_, ⟨?_, ?_, ?_, av_jS⟩, av_t4.trans av_t4, av_fo_t av_fo_o av_fo_o⟩
    · simp only [ae_X5_addNumber_0, ae_X5_addNumber_7, ae_X5_addNumber_15, am_bnx_v, am_bnx_e, am_tl_s, am_tl_n, am_rv_s, am_add_rx, o4, not_true_eq_false, not_false_eq_true, if_true, if_false, am_1n0, or_true, true_or, eq_self, Bool.true_eq_false, Bool.false_eq_true, cond_true, cond_false]
    · rw [av_jK (by decide), av_jS]
    · rw [av_jK (by decide), av_jK (by decide)]; exact o2
    · rw [av_jK (by decide), av_jK (by decide)]; exact o3
  · rw [if_neg h]
    refine ⟨av_i M (am_c 248 5) 2 v, ?_, ⟨?_, av_jS, ?_, ?_⟩, av_t4, av_fo_o⟩
    · simp only [ae_X5_addNumber_0, ae_X5_addNumber_7, ae_X5_addNumber_15, am_bnx_v, am_bnx_e, am_tl_s, am_tl_n, am_rv_s, am_add_rx, o4, h, not_true_eq_false, not_false_eq_true, if_true, if_false, am_1n0, or_true, true_or, eq_self, Bool.true_eq_false, Bool.false_eq_true, cond_true, cond_false]
    · rw [av_jK (by decide)]; exact o1
    · rw [av_jK (by decide)]; exact o3
    · rw [av_jK (by decide)]; exact o4
theorem tx_n1 {y : Int32} : (0 : Int32) * 10 + (y - 48) = y - 48 := by rw [Int32.zero_mul, Int32.zero_add]
theorem tx_n2 {x y : Int32} : x * 10 + (y - 48) = 10 * x + y - 48 := by rw [Int32.mul_comm, Int32.sub_eq_add_neg, Int32.sub_eq_add_neg, Int32.add_assoc]
theorem tx_n3 {y : Int32} : 10 * (0 : Int32) + y - 48 = y - 48 := by rw [Int32.mul_zero, Int32.zero_add]
/-- a digit is read -/
theorem tc_dg {n p : Nat} {T : Nat → Int32} {m v k : Int32} {M : am_M} (hx : av_tx M n T) (hp : M.1 (am_c 244 10) 2 = nI p) (hpb : p < 2147483648) (hk : ¬ m ≤ k) (hd : tx_d (tx_h T n p) = true) : ∃ M', am_val iX10_readNumber 5 [some (.ref (am_c 244 10)), some (.int m), some (.ref (am_c 248 5)), some (.int v), some (.int k)] [] M = am_val iX10_readNumber 5 [some (.ref (am_c 244 10)), some (.int m), some (.ref (am_c 248 5)), some (.int ((v * 10 + (tx_h T n p - 48)))), some (.int ((k + 1)))] [] (M') ∧ M'.1 (am_c 244 10) 2 = nI (p + 1) ∧ av_fo M M' ∧ ∀ f, M'.1 (am_c 248 5) f = M.1 (am_c 248 5) f := by
  have e := tc_digit hx hp hpb
  rw [hd, am_bi_t] at e
  have hpn : p < n := by
    by_cases h : p < n
    · exact h
    · rw [tx_h_n h] at hd
      exact absurd hd (by decide)
  obtain ⟨x0, x1, x2, x3⟩ := hx
  have hin := am_in_n (show p < 60 by omega) (by decide)
  have htn := am_tn (show p < 2147483648 by omega)
  refine ⟨av_i M (am_c 244 10) 2 (nI (p + 1)), ?_, av_jS, av_fo_p, fun f => av_t5⟩
  rw [tx_h_y hpn, ae_X10_readNumber_5, if_neg hk]
  simp only [ae_X10_readNumber_0, ae_X10_readNumber_11, ae_X10_readNumber_15, ae_X10_readNumber_18, ae_X10_readNumber_26, ae_X10_readNumber_52, ae_X10_readNumber_57, ae_X10_readNumber_62, ae_X10_readNumber_66, am_bnx_v, am_bnx_e, am_tl_s, am_tl_n, am_rv_s, am_add_rx, e, x0, hp, hin, htn, x3 p hpn, nI_1, not_true_eq_false, not_false_eq_true, if_true, if_false, am_1n0, or_true, true_or, eq_self, Bool.true_eq_false, Bool.false_eq_true, cond_true, cond_false]
/-- no digit, or enough of them -/
theorem tc_nd {n p : Nat} {T : Nat → Int32} {m v k : Int32} {o : tx_O} {M : am_M} (hx : av_tx M n T) (hp : M.1 (am_c 244 10) 2 = nI p) (hpb : p < 2147483648) (ho : av_or M o) (hk : m ≤ k ∨ tx_d (tx_h T n p) = false) : ∃ M', am_val iX10_readNumber 5 [some (.ref (am_c 244 10)), some (.int m), some (.ref (am_c 248 5)), some (.int v), some (.int k)] [] M = some (.inl (some (.int (if k ≤ 0 then 0 else 1))), M', 0, 0) ∧ M'.1 (am_c 244 10) 2 = nI p ∧ av_or M' (tx_a o v) ∧ av_fo M M' := by
  obtain ⟨M', e1, e2, e3, e4⟩ := tc_add (v := v) ho
  refine ⟨M', ?_, e3.trans hp, e2, e4⟩
  have fin : am_val iX10_readNumber 52 [some (.ref (am_c 244 10)), some (.int m), some (.ref (am_c 248 5)), some (.int v), some (.int k)] [] M = some (.inl (some (.int (if k ≤ 0 then 0 else 1))), M', 0, 0) := by
    by_cases h0 : k ≤ 0
    · rw [if_pos h0]
      simp only [ae_X10_readNumber_0, ae_X10_readNumber_11, ae_X10_readNumber_15, ae_X10_readNumber_18, ae_X10_readNumber_26, ae_X10_readNumber_52, ae_X10_readNumber_57, ae_X10_readNumber_62, ae_X10_readNumber_66, am_bnx_v, am_bnx_e, am_tl_s, am_tl_n, am_rv_s, am_add_rx, e1, h0, not_true_eq_false, not_false_eq_true, if_true, if_false, am_1n0, or_true, true_or, eq_self, Bool.true_eq_false, Bool.false_eq_true, cond_true, cond_false]
    · rw [if_neg h0]
      simp only [ae_X10_readNumber_0, ae_X10_readNumber_11, ae_X10_readNumber_15, ae_X10_readNumber_18, ae_X10_readNumber_26, ae_X10_readNumber_52, ae_X10_readNumber_57, ae_X10_readNumber_62, ae_X10_readNumber_66, am_bnx_v, am_bnx_e, am_tl_s, am_tl_n, am_rv_s, am_add_rx, e1, h0, not_true_eq_false, not_false_eq_true, if_true, if_false, am_1n0, or_true, true_or, eq_self, Bool.true_eq_false, Bool.false_eq_true, cond_true, cond_false]
  rw [ae_X10_readNumber_5]
  by_cases hmk : m ≤ k
  · rw [if_pos hmk]
    exact fin
  · rw [if_neg hmk]
    have hd := hk.resolve_left hmk
    have e := tc_digit hx hp hpb
    rw [hd, am_bi_f] at e
    have step : am_val iX10_readNumber 11 [some (.ref (am_c 244 10)), some (.int m), some (.ref (am_c 248 5)), some (.int v), some (.int k)] [] M = am_val iX10_readNumber 52 [some (.ref (am_c 244 10)), some (.int m), some (.ref (am_c 248 5)), some (.int v), some (.int k)] [] M := by
      rw [ae_X10_readNumber_11, e, am_bnx_v, am_tl_s, ae_X10_readNumber_15, if_pos rfl]
    exact step.trans fin
theorem tc_num1 {n p : Nat} {T : Nat → Int32} {o : tx_O} {M : am_M} (hx : av_tx M n T) (hp : M.1 (am_c 244 10) 2 = nI p) (hpb : p < 2147483640) (ho : av_or M o) : ∃ M', am_val iX10_readNumber 0 [some (.ref (am_c 244 10)), some (.int 1), some (.ref (am_c 248 5)), none, none] [] M = some (.inl (some (.int (am_bi (tx_1 T n p).1))), M', 0, 0) ∧ M'.1 (am_c 244 10) 2 = nI (tx_1 T n p).2.1 ∧ av_or M' (tx_a o (tx_1 T n p).2.2) ∧ av_fo M M' := by
  unfold tx_1
  cases hd : tx_d (tx_h T n p) with
  | true =>
    rw [if_pos rfl]
    obtain ⟨M1, e1, p1, f1, g1⟩ := tc_dg (m := 1) (v := 0) (k := 0) hx hp (by omega) (by decide) hd
    have o1 : av_or M1 o := ⟨(g1 _).trans ho.1, (g1 _).trans ho.2.1, (g1 _).trans ho.2.2.1, (g1 _).trans ho.2.2.2⟩
    obtain ⟨M2, e2, p2, o2, f2⟩ := tc_nd (m := 1) (v := 0 * 10 + (tx_h T n p - 48)) (k := 0 + 1) (av_tx_fo hx f1) p1 (by omega) o1 (Or.inl (by decide))
    refine ⟨M2, ?_, p2, by rw [tx_n1] at o2; exact o2, av_fo_t f1 f2⟩
    rw [if_neg (show ¬ (0 : Int32) + 1 ≤ 0 by decide)] at e2
    simp only [ae_X10_readNumber_0, ae_X10_readNumber_11, ae_X10_readNumber_15, ae_X10_readNumber_18, ae_X10_readNumber_26, ae_X10_readNumber_52, ae_X10_readNumber_57, ae_X10_readNumber_62, ae_X10_readNumber_66]
    exact e1.trans e2
  | false =>
    rw [if_neg (by decide)]
    obtain ⟨M2, e2, p2, o2, f2⟩ := tc_nd (m := 1) (v := 0) (k := 0) hx hp (by omega) ho (Or.inr hd)
    refine ⟨M2, ?_, p2, o2, f2⟩
    rw [if_pos (show (0 : Int32) ≤ 0 by decide)] at e2
    simp only [ae_X10_readNumber_0, ae_X10_readNumber_11, ae_X10_readNumber_15, ae_X10_readNumber_18, ae_X10_readNumber_26, ae_X10_readNumber_52, ae_X10_readNumber_57, ae_X10_readNumber_62, ae_X10_readNumber_66]
    exact e2
theorem tc_num2 {n p : Nat} {T : Nat → Int32} {o : tx_O} {M : am_M} (hx : av_tx M n T) (hp : M.1 (am_c 244 10) 2 = nI p) (hpb : p < 2147483640) (ho : av_or M o) : ∃ M', am_val iX10_readNumber 0 [some (.ref (am_c 244 10)), some (.int 2), some (.ref (am_c 248 5)), none, none] [] M = some (.inl (some (.int (am_bi (tx_2 T n p).1))), M', 0, 0) ∧ M'.1 (am_c 244 10) 2 = nI (tx_2 T n p).2.1 ∧ av_or M' (tx_a o (tx_2 T n p).2.2) ∧ av_fo M M' := by
  unfold tx_2
  cases hd : tx_d (tx_h T n p) with
  | true =>
    rw [if_pos rfl]
    obtain ⟨M1, e1, p1, f1, g1⟩ := tc_dg (m := 2) (v := 0) (k := 0) hx hp (by omega) (by decide) hd
    have o1 : av_or M1 o := ⟨(g1 _).trans ho.1, (g1 _).trans ho.2.1, (g1 _).trans ho.2.2.1, (g1 _).trans ho.2.2.2⟩
    have x1 := av_tx_fo hx f1
    cases hd2 : tx_d (tx_h T n (p + 1)) with
    | true =>
      rw [if_pos rfl]
      obtain ⟨M2, e2, p2, f2, g2⟩ := tc_dg (m := 2) (v := 0 * 10 + (tx_h T n p - 48)) (k := 0 + 1) x1 p1 (by omega) (by decide) hd2
      have o2 : av_or M2 o := ⟨(g2 _).trans o1.1, (g2 _).trans o1.2.1, (g2 _).trans o1.2.2.1, (g2 _).trans o1.2.2.2⟩
      obtain ⟨M3, e3, p3, o3, f3⟩ := tc_nd (m := 2) (v := (0 * 10 + (tx_h T n p - 48)) * 10 + (tx_h T n (p + 1) - 48)) (k := 0 + 1 + 1) (av_tx_fo x1 f2) p2 (by omega) o2 (Or.inl (by decide))
      refine ⟨M3, ?_, p3, by rw [tx_n1, tx_n2] at o3; exact o3, av_fo_t f1 (av_fo_t f2 f3)⟩
      rw [if_neg (show ¬ (0 : Int32) + 1 + 1 ≤ 0 by decide)] at e3
      simp only [ae_X10_readNumber_0, ae_X10_readNumber_11, ae_X10_readNumber_15, ae_X10_readNumber_18, ae_X10_readNumber_26, ae_X10_readNumber_52, ae_X10_readNumber_57, ae_X10_readNumber_62, ae_X10_readNumber_66]
      exact e1.trans (e2.trans e3)
    | false =>
      rw [if_neg (by decide)]
      obtain ⟨M2, e2, p2, o2, f2⟩ := tc_nd (m := 2) (v := 0 * 10 + (tx_h T n p - 48)) (k := 0 + 1) x1 p1 (by omega) o1 (Or.inr hd2)
      refine ⟨M2, ?_, p2, by rw [tx_n1] at o2; exact o2, av_fo_t f1 f2⟩
      rw [if_neg (show ¬ (0 : Int32) + 1 ≤ 0 by decide)] at e2
      simp only [ae_X10_readNumber_0, ae_X10_readNumber_11, ae_X10_readNumber_15, ae_X10_readNumber_18, ae_X10_readNumber_26, ae_X10_readNumber_52, ae_X10_readNumber_57, ae_X10_readNumber_62, ae_X10_readNumber_66]
      exact e1.trans e2
  | false =>
    rw [if_neg (by decide)]
    obtain ⟨M2, e2, p2, o2, f2⟩ := tc_nd (m := 2) (v := 0) (k := 0) hx hp (by omega) ho (Or.inr hd)
    refine ⟨M2, ?_, p2, o2, f2⟩
    rw [if_pos (show (0 : Int32) ≤ 0 by decide)] at e2
    simp only [ae_X10_readNumber_0, ae_X10_readNumber_11, ae_X10_readNumber_15, ae_X10_readNumber_18, ae_X10_readNumber_26, ae_X10_readNumber_52, ae_X10_readNumber_57, ae_X10_readNumber_62, ae_X10_readNumber_66]
    exact e2
theorem tc_sign {n p : Nat} {T : Nat → Int32} {o : tx_O} {M : am_M} (hx : av_tx M n T) (hp : M.1 (am_c 244 10) 2 = nI p) (hpb : p < 2147483640) (ho : av_or M o) : ∃ M', am_val iX10_readSign 0 [some (.ref (am_c 244 10)), some (.ref (am_c 248 5))] [] M = some (.inl (some (.int (am_bi (tx_g T n p).1))), M', 0, 0) ∧ M'.1 (am_c 244 10) 2 = nI (tx_g T n p).2.1 ∧ av_or M' (o.1, o.2.1, (tx_g T n p).2.2, o.2.2.2) ∧ av_fo M M' := by
  obtain ⟨M1, e1, p1, f1, g1⟩ := tc_skip (ch := 43) hx hp (by omega) (by decide)
  have o1 : av_or M1 o := ⟨(g1 _).trans ho.1, (g1 _).trans ho.2.1, (g1 _).trans ho.2.2.1, (g1 _).trans ho.2.2.2⟩
  obtain ⟨M2, hM2⟩ : ∃ M2, M2 = av_i M1 (am_c 248 5) 3 (am_bi (tx_k T n 43 p).1) := ⟨_, rfl⟩
  have f2 : av_fo M1 M2 := by rw [hM2]; exact av_fo_o
  have o2 : av_or M2 (o.1, o.2.1, am_bi (tx_k T n 43 p).1, o.2.2.2) := by
    rw [hM2]
    exact ⟨by rw [av_jK (by decide)]; exact o1.1, by rw [av_jK (by decide)]; exact o1.2.1, av_jS, by rw [av_jK (by decide)]; exact o1.2.2.2⟩
  have p2 : M2.1 (am_c 244 10) 2 = nI (tx_k T n 43 p).2.1 := by
    rw [hM2]
    exact av_t4.trans p1
  have s2 : M2.1 (am_c 248 5) 3 = am_bi (tx_k T n 43 p).1 := o2.2.2.1
  unfold tx_g
  by_cases h : tx_h T n p = 43
  · rw [if_pos h]
    have hk : tx_k T n 43 p = (true, p + 1, 0) := if_pos h
    rw [hk] at e1 hM2 o2 p2 s2
    refine ⟨M2, ?_, p2, o2, av_fo_t f1 f2⟩
    rw [am_bi_t] at e1 hM2 s2
    simp only [ae_X10_readSign_0, ae_X10_readSign_7, ae_X10_readSign_17, ae_X10_readSign_23, ae_X10_readSign_26, ae_X10_readSign_30, am_bnx_v, am_bnx_e, am_tl_s, am_tl_n, am_rv_s, am_add_rx, e1, am_1n0, eq_self, or_true, ← hM2, s2, not_true_eq_false, not_false_eq_true, if_true, if_false, am_1n0, or_true, true_or, eq_self, Bool.true_eq_false, Bool.false_eq_true, cond_true, cond_false] <;> rfl
  · rw [if_neg h]
    have hk : tx_k T n 43 p = (false, p, 0) := if_neg h
    rw [hk] at e1 hM2 o2 p2 s2
    rw [am_bi_f] at e1 hM2 s2
    have p2 : M2.1 (am_c 244 10) 2 = nI p := p2
    obtain ⟨M3, e3, p3, f3, g3⟩ := tc_skip (ch := 45) (av_tx_fo hx (av_fo_t f1 f2)) p2 (by omega) (by decide)
    have o3 : av_or M3 (o.1, o.2.1, 0, o.2.2.2) := ⟨(g3 _).trans o2.1, (g3 _).trans o2.2.1, (g3 _).trans o2.2.2.1, (g3 _).trans o2.2.2.2⟩
    by_cases h4 : tx_h T n p = 45
    · rw [if_pos h4]
      have hk : tx_k T n 45 p = (true, p + 1, 0) := if_pos h4
      rw [hk] at e3 p3
      rw [am_bi_t] at e3
      refine ⟨M3, ?_, p3, o3, av_fo_t f1 (av_fo_t f2 f3)⟩
      simp only [ae_X10_readSign_0, ae_X10_readSign_7, ae_X10_readSign_17, ae_X10_readSign_23, ae_X10_readSign_26, ae_X10_readSign_30, am_bnx_v, am_bnx_e, am_tl_s, am_tl_n, am_rv_s, am_add_rx, e1, eq_self, true_or, ← hM2, s2, e3, not_true_eq_false, not_false_eq_true, if_true, if_false, am_1n0, or_true, true_or, eq_self, Bool.true_eq_false, Bool.false_eq_true, cond_true, cond_false] <;> rfl
    · rw [if_neg h4]
      have hk : tx_k T n 45 p = (false, p, 0) := if_neg h4
      rw [hk] at e3 p3
      rw [am_bi_f] at e3
      refine ⟨M3, ?_, p3, o3, av_fo_t f1 (av_fo_t f2 f3)⟩
      simp only [ae_X10_readSign_0, ae_X10_readSign_7, ae_X10_readSign_17, ae_X10_readSign_23, ae_X10_readSign_26, ae_X10_readSign_30, am_bnx_v, am_bnx_e, am_tl_s, am_tl_n, am_rv_s, am_add_rx, e1, eq_self, true_or, ← hM2, s2, e3, not_true_eq_false, not_false_eq_true, if_true, if_false, am_1n0, or_true, true_or, eq_self, Bool.true_eq_false, Bool.false_eq_true, cond_true, cond_false] <;> rfl
theorem tc_part {n p ch : Nat} {T : Nat → Int32} {o : tx_O} {M : am_M} (hx : av_tx M n T) (hp : M.1 (am_c 244 10) 2 = nI p) (hpb : p < 2147483640) (hch : ch < 65536) (ho : av_or M o) : ∃ M', am_val iX10_readPart 0 [some (.ref (am_c 244 10)), some (.int (nI ch)), some (.ref (am_c 248 5))] [] M = some (.inl (some (.int (am_bi (tx_p T n ch p).1))), M', 0, 0) ∧ M'.1 (am_c 244 10) 2 = nI (tx_p T n ch p).2.1 ∧ av_or M' (tx_u ch o (tx_p T n ch p).2.2) ∧ av_fo M M' := by
  have hne : ∀ a, a < 65536 → ¬ ch = a → ¬ nI ch = nI a := fun a ha h he => h ((nI_eq (by omega) (by omega)).mp he)
  unfold tx_p tx_u
  by_cases h1 : ch = 49
  · subst h1
    rw [if_pos rfl, if_pos rfl]
    obtain ⟨M', e, a, b, c⟩ := tc_num1 hx hp hpb ho
    refine ⟨M', ?_, a, b, c⟩
    simp only [ae_X10_readPart_0, ae_X10_readPart_6, ae_X10_readPart_12, ae_X10_readPart_13, ae_X10_readPart_19, ae_X10_readPart_25, ae_X10_readPart_26, ae_X10_readPart_32, ae_X10_readPart_37, ae_X10_readPart_40, ae_X10_readPart_45, am_bnx_v, am_bnx_e, am_tl_s, am_tl_n, am_rv_s, am_add_rx, e, am_bi_01, if_neg (not_not_intro (show nI 49 = 49 from rfl))]
  · rw [if_neg h1, if_neg h1]
    have n1 : ¬ nI ch = 49 := hne 49 (by decide) h1
    by_cases h2 : ch = 50
    · subst h2
      rw [if_pos rfl, if_pos rfl]
      obtain ⟨M', e, a, b, c⟩ := tc_num2 hx hp hpb ho
      refine ⟨M', ?_, a, b, c⟩
      simp only [ae_X10_readPart_0, ae_X10_readPart_6, ae_X10_readPart_12, ae_X10_readPart_13, ae_X10_readPart_19, ae_X10_readPart_25, ae_X10_readPart_26, ae_X10_readPart_32, ae_X10_readPart_37, ae_X10_readPart_40, ae_X10_readPart_45, am_bnx_v, am_bnx_e, am_tl_s, am_tl_n, am_rv_s, am_add_rx, e, am_bi_01, n1, if_neg (not_not_intro (show nI 50 = 50 from rfl)), not_true_eq_false, not_false_eq_true, if_true, if_false, am_1n0, or_true, true_or, eq_self, Bool.true_eq_false, Bool.false_eq_true, cond_true, cond_false]
    · rw [if_neg h2, if_neg h2]
      have n2 : ¬ nI ch = 50 := hne 50 (by decide) h2
      by_cases h3 : ch = 126
      · subst h3
        rw [if_pos rfl, if_pos rfl]
        obtain ⟨M', e, a, b, c⟩ := tc_sign hx hp hpb ho
        refine ⟨M', ?_, a, b, c⟩
        simp only [ae_X10_readPart_0, ae_X10_readPart_6, ae_X10_readPart_12, ae_X10_readPart_13, ae_X10_readPart_19, ae_X10_readPart_25, ae_X10_readPart_26, ae_X10_readPart_32, ae_X10_readPart_37, ae_X10_readPart_40, ae_X10_readPart_45, am_bnx_v, am_bnx_e, am_tl_s, am_tl_n, am_rv_s, am_add_rx, e, am_bi_01, n1, n2, if_neg (not_not_intro (show nI 126 = 126 from rfl)), not_true_eq_false, not_false_eq_true, if_true, if_false, am_1n0, or_true, true_or, eq_self, Bool.true_eq_false, Bool.false_eq_true, cond_true, cond_false]
      · rw [if_neg h3, if_neg h3]
        have n3 : ¬ nI ch = 126 := hne 126 (by decide) h3
        obtain ⟨M', e, a, b, g⟩ := tc_skip (ch := nI ch) hx hp (by omega) (av_bi_nI (show ch < 2147483648 by omega))
        refine ⟨M', ?_, a, ⟨(g _).trans ho.1, (g _).trans ho.2.1, (g _).trans ho.2.2.1, (g _).trans ho.2.2.2⟩, b⟩
        simp only [ae_X10_readPart_0, ae_X10_readPart_6, ae_X10_readPart_12, ae_X10_readPart_13, ae_X10_readPart_19, ae_X10_readPart_25, ae_X10_readPart_26, ae_X10_readPart_32, ae_X10_readPart_37, ae_X10_readPart_40, ae_X10_readPart_45, am_bnx_v, am_bnx_e, am_tl_s, am_tl_n, am_rv_s, am_add_rx, e, am_bi_01, n1, n2, n3, not_true_eq_false, not_false_eq_true, if_true, if_false, am_1n0, or_true, true_or, eq_self, Bool.true_eq_false, Bool.false_eq_true, cond_true, cond_false]
