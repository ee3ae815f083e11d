/-! bestTeam -/
def av_lf (σ : Nat → Int32) (p : Int32) (t : Nat) : Int32 := av_pt σ (nI t) - av_price σ (nI t) p
def av_bt (σ : Nat → Int32) (p : Int32) (t : Nat) (x : Int32 × Int32) : Int32 × Int32 := if av_of σ p = nI t then x else if x.2 < av_lf σ p t then (nI t, av_lf σ p t) else x
def av_btc (σ : Nat → Int32) (p : Int32) (t : Nat) (x : Int32 × Int32) : Int32 × Int32 := if av_of σ p = nI t then x else if av_lf σ p t < 0 then x else if x.1 = -1 then (nI t, av_lf σ p t) else if av_lf σ p t ≤ x.2 then x else (nI t, av_lf σ p t)
theorem av_m1lt {x : Int32} : (-1 < x) = (0 ≤ x) := by
  rw [Int32.lt_iff_toInt_lt, Int32.le_iff_toInt_le, show (-1 : Int32).toInt = -1 by decide, show (0 : Int32).toInt = 0 by decide]
  apply propext
  omega
theorem av_bt_e {σ : Nat → Int32} {p : Int32} : ∀ n, n < 2147483648 → (am_it (av_btc σ p) n (-1, 0)).1 = (am_it (av_bt σ p) n (-1, -1)).1 ∧ ((am_it (av_bt σ p) n (-1, -1)).1 = -1 → (am_it (av_bt σ p) n (-1, -1)).2 = -1) ∧ (¬ (am_it (av_bt σ p) n (-1, -1)).1 = -1 → (am_it (av_bt σ p) n (-1, -1)).2 = (am_it (av_btc σ p) n (-1, 0)).2 ∧ 0 ≤ (am_it (av_bt σ p) n (-1, -1)).2) := by
  intro n
  induction n with
  | zero => intro _; exact ⟨rfl, fun _ => rfl, fun h => absurd rfl h⟩
  | succ n ih =>
    intro hn
    obtain ⟨h1, h2, h3⟩ := ih (by omega)
    have e1 : am_it (av_btc σ p) (n + 1) (-1, 0) = av_btc σ p n (am_it (av_btc σ p) n (-1, 0)) := rfl
    have e2 : am_it (av_bt σ p) (n + 1) (-1, -1) = av_bt σ p n (am_it (av_bt σ p) n (-1, -1)) := rfl
    rw [e1, e2]
    revert h1 h2 h3
    obtain ⟨x, y⟩ := am_it (av_btc σ p) n (-1, 0)
    obtain ⟨x', y'⟩ := am_it (av_bt σ p) n (-1, -1)
    intro h1 h2 h3
    have h1 : x = x' := h1
    subst h1
    have h2 : x = -1 → y' = -1 := h2
    have h3 : ¬ x = -1 → y' = y ∧ 0 ≤ y' := h3
    have hne := av_bi_nI (j := n) (by omega)
    unfold av_btc av_bt
    by_cases a : av_of σ p = nI n
    · rw [if_pos a, if_pos a]
      exact ⟨rfl, h2, h3⟩
    · rw [if_neg a, if_neg a]
      by_cases b : av_lf σ p n < 0
      · rw [if_pos b]
        have hb : ¬ (0 : Int32) ≤ av_lf σ p n := by rw [am_nle]; exact b
        have hy : ¬ y' < av_lf σ p n := by
          by_cases c : x = -1
          · rw [h2 c, av_m1lt]; exact hb
          · have := (h3 c).2
            intro hlt
            rw [Int32.lt_iff_toInt_lt] at hlt b
            rw [Int32.le_iff_toInt_le] at this
            omega
        rw [if_neg (show ¬ (x, y').2 < av_lf σ p n from hy)]
        exact ⟨rfl, h2, h3⟩
      · rw [if_neg b]
        have hb : (0 : Int32) ≤ av_lf σ p n := by rw [← am_nlt]; exact b
        by_cases c : x = -1
        · rw [if_pos (show (x, y).1 = -1 from c), if_pos (show (x, y').2 < av_lf σ p n by show y' < _; rw [h2 c, av_m1lt]; exact hb)]
          exact ⟨rfl, fun h => absurd h hne, fun _ => ⟨rfl, hb⟩⟩
        · rw [if_neg (show ¬ (x, y).1 = -1 from c)]
          obtain ⟨c1, c2⟩ := h3 c
          by_cases d : av_lf σ p n ≤ y
          · rw [if_pos (show av_lf σ p n ≤ (x, y).2 from d), if_neg (show ¬ (x, y').2 < av_lf σ p n by show ¬ y' < _; rw [c1, am_nlt]; exact d)]
            exact ⟨rfl, h2, h3⟩
          · rw [if_neg (show ¬ av_lf σ p n ≤ (x, y).2 from d), if_pos (show (x, y').2 < av_lf σ p n by show y' < _; rw [c1, ← am_nle]; exact d)]
            exact ⟨rfl, fun h => absurd h hne, fun _ => ⟨rfl, hb⟩⟩
def av_bst3 (σ : Nat → Int32) (p : Int32) : Int32 := (am_it (av_bt σ p) 3 (-1, -1)).1
def aq_bestTeam (σ : Nat → Int32) (a : Int32) : av_A := if am_pl a = false then .inr (1, 1) else if av_hf σ a = 0 then .inr (3, 2) else if av_bst3 σ a = -1 then .inr (3, 2) else .inl (av_bst3 σ a)
theorem cq_bestTeam {B : Nat} {rm : Nat → Nat} {σ : Nat → Int32} {L : List (Nat → Int32)} {bd : Nat} {a : Int32} {M : am_M} (p0 : M.2.1 (am_c 0 12) 0 = am_c B 1 + 1) (hC : av_C M B rm σ L) (hok : av_ok bd σ L) : av_qc (am_val iX12_bestTeam 0 [some (.ref (am_c 0 12)), some (.int a), none, none, none, none, none] [] M) (aq_bestTeam σ a) M := by
  have w0 := hC.1.1.1
  have w1 := hC.1.1.2.1
  unfold aq_bestTeam
  cases hp : am_pl a with
  | false =>
    rw [if_pos rfl]
    show (_ : am_T) = some (.inr 1, M, 1, 6)
    simp only [ae_X12_bestTeam_0, ae_X12_bestTeam_4, ae_X12_bestTeam_17, ae_X12_bestTeam_21, ae_X12_bestTeam_24, ae_X12_bestTeam_29, ae_X12_bestTeam_33, ae_X12_bestTeam_36, ae_X12_bestTeam_42, ae_X12_bestTeam_49, ae_X12_bestTeam_52, ae_X12_bestTeam_56, ae_X12_bestTeam_61, ae_X12_bestTeam_66, ae_X12_bestTeam_70, ae_X12_bestTeam_78, ae_X12_bestTeam_83, ae_X12_bestTeam_89, ae_X12_bestTeam_95, ae_X12_bestTeam_101, ae_X12_bestTeam_105, ae_X12_bestTeam_108, ae_X12_bestTeam_112, ae_X12_bestTeam_115, ae_X12_bestTeam_120, ae_X12_bestTeam_131, am_bnx_v, am_bnx_e, am_tl_s, am_tl_n, am_rv_s, am_add_rx, ac_ckPlace_f hp]
  | true =>
    rw [if_neg (by decide)]
    have c0 := ac_ckPlace_t (M := M) hp
    have key := av_lpr (H := fun t (x : (Int32 × Int32) × Option Value) o => am_val iX12_bestTeam 11 [some (.ref (am_c 0 12)), some (.int a), some (.int (x.1.1)), some (.int (x.1.2)), some (.int (nI t)), x.2, o] [] M)
      (P := fun t x => x.1 = am_it (av_btc σ a) t (-1, 0)) (N := 3)
      (Q := fun r => ∃ y o o', r = am_val iX12_bestTeam 101 [some (.ref (am_c 0 12)), some (.int a), some (.int (av_bst3 σ a)), some (.int y), some (.int (nI 3)), o, o'] [] M)
      (fun x o hP => by
        obtain ⟨⟨x, y⟩, o1⟩ := x
        have hP : (x, y) = am_it (av_btc σ a) 3 (-1, 0) := hP
        have hx : x = av_bst3 σ a := (congrArg Prod.fst hP).trans (av_bt_e 3 (by decide)).1
        refine ⟨y, o1, o, ?_⟩
        rw [← hx]
        show am_val iX12_bestTeam 11 [some (.ref (am_c 0 12)), some (.int a), some (.int x), some (.int y), some (.int (nI 3)), o1, o] [] M = _
        rw [ae_X12_bestTeam_11, if_pos (show (3 : Int32) ≤ nI 3 by decide)])
      (fun t x o ht hP => by
        obtain ⟨⟨x, y⟩, o1⟩ := x
        have hP : (x, y) = am_it (av_btc σ a) t (-1, 0) := hP
        have e1 := ac_bpoints (t := nI t) hC
        have e2 := ac_bprice (t := nI t) (p := a) hC
        have e3 := ac_bowner (p := a) hC
        have hs : av_btc σ a t (x, y) = am_it (av_btc σ a) (t + 1) (-1, 0) := by rw [hP]; rfl
        have hlf : av_pt σ (nI t) - av_price σ (nI t) a = av_lf σ a t := rfl
        by_cases d1 : av_of σ a = nI t
        · refine ⟨((x, y), some (.int (av_lf σ a t))), some (.int 0), ?_, ?_⟩
          · show (x, y) = _
            rw [← hs]
            unfold av_btc
            rw [if_pos d1]
          · show am_val iX12_bestTeam 11 [some (.ref (am_c 0 12)), some (.int a), some (.int x), some (.int y), some (.int (nI t)), o1, o] [] M = am_val iX12_bestTeam 11 [some (.ref (am_c 0 12)), some (.int a), some (.int x), some (.int y), some (.int (nI (t + 1))), some (.int (av_lf σ a t)), some (.int 0)] [] M
            rw [ae_X12_bestTeam_11, if_neg (show ¬ (3 : Int32) ≤ nI t from nI_ge (b := 3) ht (by decide))]
            simp only [ae_X12_bestTeam_0, ae_X12_bestTeam_4, ae_X12_bestTeam_17, ae_X12_bestTeam_21, ae_X12_bestTeam_24, ae_X12_bestTeam_29, ae_X12_bestTeam_33, ae_X12_bestTeam_36, ae_X12_bestTeam_42, ae_X12_bestTeam_49, ae_X12_bestTeam_52, ae_X12_bestTeam_56, ae_X12_bestTeam_61, ae_X12_bestTeam_66, ae_X12_bestTeam_70, ae_X12_bestTeam_78, ae_X12_bestTeam_83, ae_X12_bestTeam_89, ae_X12_bestTeam_95, ae_X12_bestTeam_101, ae_X12_bestTeam_105, ae_X12_bestTeam_108, ae_X12_bestTeam_112, ae_X12_bestTeam_115, ae_X12_bestTeam_120, ae_X12_bestTeam_131, am_bnx_v, am_bnx_e, am_tl_s, am_tl_n, am_rv_s, am_add_rx, p0, w0, w1, e1, e2, e3, hlf, d1, not_true_eq_false, not_false_eq_true, if_true, if_false, am_1n0, or_true, true_or, eq_self, Bool.true_eq_false, Bool.false_eq_true, cond_true, cond_false, nI_1]
        · by_cases d2 : av_lf σ a t < 0
          · refine ⟨((x, y), some (.int (av_lf σ a t))), some (.int 0), ?_, ?_⟩
            · show (x, y) = _
              rw [← hs]
              unfold av_btc
              rw [if_neg d1, if_pos d2]
            · show am_val iX12_bestTeam 11 [some (.ref (am_c 0 12)), some (.int a), some (.int x), some (.int y), some (.int (nI t)), o1, o] [] M = am_val iX12_bestTeam 11 [some (.ref (am_c 0 12)), some (.int a), some (.int x), some (.int y), some (.int (nI (t + 1))), some (.int (av_lf σ a t)), some (.int 0)] [] M
              rw [ae_X12_bestTeam_11, if_neg (show ¬ (3 : Int32) ≤ nI t from nI_ge (b := 3) ht (by decide))]
              simp only [ae_X12_bestTeam_0, ae_X12_bestTeam_4, ae_X12_bestTeam_17, ae_X12_bestTeam_21, ae_X12_bestTeam_24, ae_X12_bestTeam_29, ae_X12_bestTeam_33, ae_X12_bestTeam_36, ae_X12_bestTeam_42, ae_X12_bestTeam_49, ae_X12_bestTeam_52, ae_X12_bestTeam_56, ae_X12_bestTeam_61, ae_X12_bestTeam_66, ae_X12_bestTeam_70, ae_X12_bestTeam_78, ae_X12_bestTeam_83, ae_X12_bestTeam_89, ae_X12_bestTeam_95, ae_X12_bestTeam_101, ae_X12_bestTeam_105, ae_X12_bestTeam_108, ae_X12_bestTeam_112, ae_X12_bestTeam_115, ae_X12_bestTeam_120, ae_X12_bestTeam_131, am_bnx_v, am_bnx_e, am_tl_s, am_tl_n, am_rv_s, am_add_rx, p0, w0, w1, e1, e2, e3, hlf, d1, d2, not_true_eq_false, not_false_eq_true, if_true, if_false, am_1n0, or_true, true_or, eq_self, Bool.true_eq_false, Bool.false_eq_true, cond_true, cond_false, nI_1]
          · by_cases d3 : x = -1
            · refine ⟨((nI t, av_lf σ a t), some (.int (av_lf σ a t))), some (.int 1), ?_, ?_⟩
              · show (nI t, av_lf σ a t) = _
                rw [← hs]
                unfold av_btc
                rw [if_neg d1, if_neg d2, if_pos (show (x, y).1 = -1 from d3)]
              · show am_val iX12_bestTeam 11 [some (.ref (am_c 0 12)), some (.int a), some (.int x), some (.int y), some (.int (nI t)), o1, o] [] M = am_val iX12_bestTeam 11 [some (.ref (am_c 0 12)), some (.int a), some (.int (nI t)), some (.int (av_lf σ a t)), some (.int (nI (t + 1))), some (.int (av_lf σ a t)), some (.int 1)] [] M
                rw [ae_X12_bestTeam_11, if_neg (show ¬ (3 : Int32) ≤ nI t from nI_ge (b := 3) ht (by decide))]
                simp only [ae_X12_bestTeam_0, ae_X12_bestTeam_4, ae_X12_bestTeam_17, ae_X12_bestTeam_21, ae_X12_bestTeam_24, ae_X12_bestTeam_29, ae_X12_bestTeam_33, ae_X12_bestTeam_36, ae_X12_bestTeam_42, ae_X12_bestTeam_49, ae_X12_bestTeam_52, ae_X12_bestTeam_56, ae_X12_bestTeam_61, ae_X12_bestTeam_66, ae_X12_bestTeam_70, ae_X12_bestTeam_78, ae_X12_bestTeam_83, ae_X12_bestTeam_89, ae_X12_bestTeam_95, ae_X12_bestTeam_101, ae_X12_bestTeam_105, ae_X12_bestTeam_108, ae_X12_bestTeam_112, ae_X12_bestTeam_115, ae_X12_bestTeam_120, ae_X12_bestTeam_131, am_bnx_v, am_bnx_e, am_tl_s, am_tl_n, am_rv_s, am_add_rx, p0, w0, w1, e1, e2, e3, hlf, d1, d2, d3, not_true_eq_false, not_false_eq_true, if_true, if_false, am_1n0, or_true, true_or, eq_self, Bool.true_eq_false, Bool.false_eq_true, cond_true, cond_false, nI_1]
            · by_cases d4 : av_lf σ a t ≤ y
              · refine ⟨((x, y), some (.int (av_lf σ a t))), some (.int 1), ?_, ?_⟩
                · show (x, y) = _
                  rw [← hs]
                  unfold av_btc
                  rw [if_neg d1, if_neg d2, if_neg (show ¬ (x, y).1 = -1 from d3), if_pos (show av_lf σ a t ≤ (x, y).2 from d4)]
                · show am_val iX12_bestTeam 11 [some (.ref (am_c 0 12)), some (.int a), some (.int x), some (.int y), some (.int (nI t)), o1, o] [] M = am_val iX12_bestTeam 11 [some (.ref (am_c 0 12)), some (.int a), some (.int x), some (.int y), some (.int (nI (t + 1))), some (.int (av_lf σ a t)), some (.int 1)] [] M
                  rw [ae_X12_bestTeam_11, if_neg (show ¬ (3 : Int32) ≤ nI t from nI_ge (b := 3) ht (by decide))]
                  simp only [ae_X12_bestTeam_0, ae_X12_bestTeam_4, ae_X12_bestTeam_17, ae_X12_bestTeam_21, ae_X12_bestTeam_24, ae_X12_bestTeam_29, ae_X12_bestTeam_33, ae_X12_bestTeam_36, ae_X12_bestTeam_42, ae_X12_bestTeam_49, ae_X12_bestTeam_52, ae_X12_bestTeam_56, ae_X12_bestTeam_61, ae_X12_bestTeam_66, ae_X12_bestTeam_70, ae_X12_bestTeam_78, ae_X12_bestTeam_83, ae_X12_bestTeam_89, ae_X12_bestTeam_95, ae_X12_bestTeam_101, ae_X12_bestTeam_105, ae_X12_bestTeam_108, ae_X12_bestTeam_112, ae_X12_bestTeam_115, ae_X12_bestTeam_120, ae_X12_bestTeam_131, am_bnx_v, am_bnx_e, am_tl_s, am_tl_n, am_rv_s, am_add_rx, p0, w0, w1, e1, e2, e3, hlf, d1, d2, d3, d4, not_true_eq_false, not_false_eq_true, if_true, if_false, am_1n0, or_true, true_or, eq_self, Bool.true_eq_false, Bool.false_eq_true, cond_true, cond_false, nI_1]
              · refine ⟨((nI t, av_lf σ a t), some (.int (av_lf σ a t))), some (.int 1), ?_, ?_⟩
                · show (nI t, av_lf σ a t) = _
                  rw [← hs]
                  unfold av_btc
                  rw [if_neg d1, if_neg d2, if_neg (show ¬ (x, y).1 = -1 from d3), if_neg (show ¬ av_lf σ a t ≤ (x, y).2 from d4)]
                · show am_val iX12_bestTeam 11 [some (.ref (am_c 0 12)), some (.int a), some (.int x), some (.int y), some (.int (nI t)), o1, o] [] M = am_val iX12_bestTeam 11 [some (.ref (am_c 0 12)), some (.int a), some (.int (nI t)), some (.int (av_lf σ a t)), some (.int (nI (t + 1))), some (.int (av_lf σ a t)), some (.int 1)] [] M
                  rw [ae_X12_bestTeam_11, if_neg (show ¬ (3 : Int32) ≤ nI t from nI_ge (b := 3) ht (by decide))]
                  simp only [ae_X12_bestTeam_0, ae_X12_bestTeam_4, ae_X12_bestTeam_17, ae_X12_bestTeam_21, ae_X12_bestTeam_24, ae_X12_bestTeam_29, ae_X12_bestTeam_33, ae_X12_bestTeam_36, ae_X12_bestTeam_42, ae_X12_bestTeam_49, ae_X12_bestTeam_52, ae_X12_bestTeam_56, ae_X12_bestTeam_61, ae_X12_bestTeam_66, ae_X12_bestTeam_70, ae_X12_bestTeam_78, ae_X12_bestTeam_83, ae_X12_bestTeam_89, ae_X12_bestTeam_95, ae_X12_bestTeam_101, ae_X12_bestTeam_105, ae_X12_bestTeam_108, ae_X12_bestTeam_112, ae_X12_bestTeam_115, ae_X12_bestTeam_120, ae_X12_bestTeam_131, am_bnx_v, am_bnx_e, am_tl_s, am_tl_n, am_rv_s, am_add_rx, p0, w0, w1, e1, e2, e3, hlf, d1, d2, d3, d4, not_true_eq_false, not_false_eq_true, if_true, if_false, am_1n0, or_true, true_or, eq_self, Bool.true_eq_false, Bool.false_eq_true, cond_true, cond_false, nI_1])
      3 0 ((-1, 0), none) none (by omega) rfl
    obtain ⟨y, o, o', k1⟩ := key
    have k1 : am_val iX12_bestTeam 11 [some (.ref (am_c 0 12)), some (.int a), some (.int (-1)), some (.int 0), some (.int 0), none, none] [] M = am_val iX12_bestTeam 101 [some (.ref (am_c 0 12)), some (.int a), some (.int (av_bst3 σ a)), some (.int y), some (.int (nI 3)), o, o'] [] M := k1
    have e1 := ac_bisAt (p := a) hC
    obtain ⟨k, hk, rfl⟩ := am_pl_n hp
    rw [av_hf_0 hok hk] at e1
    by_cases h : av_hf σ (nI k) = 0
    · rw [if_pos h]
      rw [decide_eq_true h] at e1
      have e1 : am_val iX11_isAt 0 [some (.ref (am_c (B + 1) 11)), some (.int (nI k))] [] M = some (.inl (some (.int 0)), M, 0, 0) := e1
      show (_ : am_T) = some (.inr 3, M, 1, 6)
      simp only [ae_X12_bestTeam_0, ae_X12_bestTeam_4, ae_X12_bestTeam_17, ae_X12_bestTeam_21, ae_X12_bestTeam_24, ae_X12_bestTeam_29, ae_X12_bestTeam_33, ae_X12_bestTeam_36, ae_X12_bestTeam_42, ae_X12_bestTeam_49, ae_X12_bestTeam_52, ae_X12_bestTeam_56, ae_X12_bestTeam_61, ae_X12_bestTeam_66, ae_X12_bestTeam_70, ae_X12_bestTeam_78, ae_X12_bestTeam_83, ae_X12_bestTeam_89, ae_X12_bestTeam_95, ae_X12_bestTeam_101, ae_X12_bestTeam_105, ae_X12_bestTeam_108, ae_X12_bestTeam_112, ae_X12_bestTeam_115, ae_X12_bestTeam_120, ae_X12_bestTeam_131, am_bnx_v, am_bnx_e, am_tl_s, am_tl_n, am_rv_s, am_add_rx, c0, k1, p0, w0, e1, not_true_eq_false, not_false_eq_true, if_true, if_false, am_1n0, or_true, true_or, eq_self, Bool.true_eq_false, Bool.false_eq_true, cond_true, cond_false]
    · rw [if_neg h]
      rw [decide_eq_false h] at e1
      have e1 : am_val iX11_isAt 0 [some (.ref (am_c (B + 1) 11)), some (.int (nI k))] [] M = some (.inl (some (.int 1)), M, 0, 0) := e1
      by_cases c : av_bst3 σ (nI k) = -1
      · rw [if_pos c]
        rw [c] at k1
        show (_ : am_T) = some (.inr 3, M, 1, 6)
        simp only [ae_X12_bestTeam_0, ae_X12_bestTeam_4, ae_X12_bestTeam_17, ae_X12_bestTeam_21, ae_X12_bestTeam_24, ae_X12_bestTeam_29, ae_X12_bestTeam_33, ae_X12_bestTeam_36, ae_X12_bestTeam_42, ae_X12_bestTeam_49, ae_X12_bestTeam_52, ae_X12_bestTeam_56, ae_X12_bestTeam_61, ae_X12_bestTeam_66, ae_X12_bestTeam_70, ae_X12_bestTeam_78, ae_X12_bestTeam_83, ae_X12_bestTeam_89, ae_X12_bestTeam_95, ae_X12_bestTeam_101, ae_X12_bestTeam_105, ae_X12_bestTeam_108, ae_X12_bestTeam_112, ae_X12_bestTeam_115, ae_X12_bestTeam_120, ae_X12_bestTeam_131, am_bnx_v, am_bnx_e, am_tl_s, am_tl_n, am_rv_s, am_add_rx, c0, k1, p0, w0, e1, not_true_eq_false, not_false_eq_true, if_true, if_false, am_1n0, or_true, true_or, eq_self, Bool.true_eq_false, Bool.false_eq_true, cond_true, cond_false]
      · rw [if_neg c]
        show (_ : am_T) = some (.inl (some (.int (av_bst3 σ (nI k)))), M, 0, 0)
        simp only [ae_X12_bestTeam_0, ae_X12_bestTeam_4, ae_X12_bestTeam_17, ae_X12_bestTeam_21, ae_X12_bestTeam_24, ae_X12_bestTeam_29, ae_X12_bestTeam_33, ae_X12_bestTeam_36, ae_X12_bestTeam_42, ae_X12_bestTeam_49, ae_X12_bestTeam_52, ae_X12_bestTeam_56, ae_X12_bestTeam_61, ae_X12_bestTeam_66, ae_X12_bestTeam_70, ae_X12_bestTeam_78, ae_X12_bestTeam_83, ae_X12_bestTeam_89, ae_X12_bestTeam_95, ae_X12_bestTeam_101, ae_X12_bestTeam_105, ae_X12_bestTeam_108, ae_X12_bestTeam_112, ae_X12_bestTeam_115, ae_X12_bestTeam_120, ae_X12_bestTeam_131, am_bnx_v, am_bnx_e, am_tl_s, am_tl_n, am_rv_s, am_add_rx, c0, k1, p0, w0, e1, c, not_true_eq_false, not_false_eq_true, if_true, if_false, am_1n0, or_true, true_or, eq_self, Bool.true_eq_false, Bool.false_eq_true, cond_true, cond_false]
/-! ranked -/
def av_ms (σ : Nat → Int32) (w : Int32) (t : Int32) : Int32 := if w = 0 then av_pt σ t else if w = 1 then av_cw σ t else if w = 2 then av_ch σ t else av_tc σ t
def av_ra (σ : Nat → Int32) (w : Int32) (t o : Nat) : Bool := if av_ms σ w (nI t) < av_ms σ w (nI o) then true else if av_ms σ w (nI o) = av_ms σ w (nI t) then decide (o < t) else false
def av_rk (σ : Nat → Int32) (w : Int32) (t : Nat) : Int32 := am_cnt (av_ra σ w t) 3
def aq_ranked (σ : Nat → Int32) (w a : Int32) : av_A := if am_wt w 0 3 = false then .inr (2, 1) else match av_fst (fun t => decide (av_rk σ w t = a)) 3 with
  | some t => .inl (nI t)
  | none => .inr (3, 2)
theorem ac_measure {B : Nat} {rm : Nat → Nat} {σ : Nat → Int32} {L : List (Nat → Int32)} {w t : Int32} {M : am_M} (p0 : M.2.1 (am_c 0 12) 0 = am_c B 1 + 1) (hC : av_C M B rm σ L) : am_val iX12_measureOf 0 [some (.ref (am_c 0 12)), some (.int w), some (.int t)] [] M = some (.inl (some (.int (av_ms σ w t))), M, 0, 0) := by
  have w0 := hC.1.1.1
  have w1 := hC.1.1.2.1
  unfold av_ms
  by_cases h0 : w = 0
  · rw [if_pos h0]
    simp only [ae_X12_measureOf_0, ae_X12_measureOf_28, ae_X12_measureOf_32, ae_X12_measureOf_35, ae_X12_measureOf_39, ae_X12_measureOf_40, ae_X12_measureOf_44, ae_X12_measureOf_47, ae_X12_measureOf_51, ae_X12_measureOf_52, ae_X12_measureOf_56, ae_X12_measureOf_59, ae_X12_measureOf_63, ae_X12_measureOf_64, ae_X12_measureOf_68, ae_X12_measureOf_71, ae_X12_measureOf_75, am_bnx_v, am_bnx_e, am_tl_s, am_tl_n, am_rv_s, am_add_rx, am_sw_y h0, p0, w1, ac_bpoints hC]
  · rw [if_neg h0]
    by_cases h1 : w = 1
    · rw [if_pos h1]
      simp only [ae_X12_measureOf_0, ae_X12_measureOf_28, ae_X12_measureOf_32, ae_X12_measureOf_35, ae_X12_measureOf_39, ae_X12_measureOf_40, ae_X12_measureOf_44, ae_X12_measureOf_47, ae_X12_measureOf_51, ae_X12_measureOf_52, ae_X12_measureOf_56, ae_X12_measureOf_59, ae_X12_measureOf_63, ae_X12_measureOf_64, ae_X12_measureOf_68, ae_X12_measureOf_71, ae_X12_measureOf_75, am_bnx_v, am_bnx_e, am_tl_s, am_tl_n, am_rv_s, am_add_rx, am_sw_n h0, am_sw_y h1, p0, w0, ac_bcountOf hC]
      rfl
    · rw [if_neg h1]
      by_cases h2 : w = 2
      · rw [if_pos h2]
        simp only [ae_X12_measureOf_0, ae_X12_measureOf_28, ae_X12_measureOf_32, ae_X12_measureOf_35, ae_X12_measureOf_39, ae_X12_measureOf_40, ae_X12_measureOf_44, ae_X12_measureOf_47, ae_X12_measureOf_51, ae_X12_measureOf_52, ae_X12_measureOf_56, ae_X12_measureOf_59, ae_X12_measureOf_63, ae_X12_measureOf_64, ae_X12_measureOf_68, ae_X12_measureOf_71, ae_X12_measureOf_75, am_bnx_v, am_bnx_e, am_tl_s, am_tl_n, am_rv_s, am_add_rx, am_sw_n h0, am_sw_n h1, am_sw_y h2, p0, w0, ac_bheightsOf hC]
        rfl
      · rw [if_neg h2]
        simp only [ae_X12_measureOf_0, ae_X12_measureOf_28, ae_X12_measureOf_32, ae_X12_measureOf_35, ae_X12_measureOf_39, ae_X12_measureOf_40, ae_X12_measureOf_44, ae_X12_measureOf_47, ae_X12_measureOf_51, ae_X12_measureOf_52, ae_X12_measureOf_56, ae_X12_measureOf_59, ae_X12_measureOf_63, ae_X12_measureOf_64, ae_X12_measureOf_68, ae_X12_measureOf_71, ae_X12_measureOf_75, am_bnx_v, am_bnx_e, am_tl_s, am_tl_n, am_rv_s, am_add_rx, am_sw_n h0, am_sw_n h1, am_sw_n h2, am_sw_0, p0, w1, ac_bcatches hC]
        rfl
theorem ac_ahead {B : Nat} {rm : Nat → Nat} {σ : Nat → Int32} {L : List (Nat → Int32)} {w : Int32} {t : Nat} {M : am_M} (p0 : M.2.1 (am_c 0 12) 0 = am_c B 1 + 1) (hC : av_C M B rm σ L) (ht : t < 3) : am_val iX12_countTeamsAhead 0 [some (.ref (am_c 0 12)), some (.int w), some (.int (nI t)), none, none, none, none] [] M = some (.inl (some (.int (av_rk σ w t))), M, 0, 0) := by
  have hl := av_lp (H := fun k x o => am_val iX12_countTeamsAhead 13 [some (.ref (am_c 0 12)), some (.int w), some (.int (nI t)), some (.int (av_ms σ w (nI t))), some (.int x), some (.int (nI k)), o] [] M) (g := am_cg (av_ra σ w t)) (N := 3) (r := fun x => some (.inl (some (.int x)), M, 0, 0)) 0 none
    (fun x o => by
      rw [ae_X12_countTeamsAhead_13, if_pos (show (3 : Int32) ≤ nI 3 by decide)]
      simp only [ae_X12_countTeamsAhead_0, ae_X12_countTeamsAhead_6, ae_X12_countTeamsAhead_19, ae_X12_countTeamsAhead_26, ae_X12_countTeamsAhead_34, ae_X12_countTeamsAhead_40, ae_X12_countTeamsAhead_46, ae_X12_countTeamsAhead_49, ae_X12_countTeamsAhead_55])
    (fun k x o hk => by
      refine ⟨some (.int (av_ms σ w (nI k))), ?_⟩
      have e1 := ac_measure (w := w) (t := nI k) p0 hC
      rw [ae_X12_countTeamsAhead_13, if_neg (show ¬ (3 : Int32) ≤ nI k from nI_ge (b := 3) hk (by decide))]
      by_cases d1 : av_ms σ w (nI t) < av_ms σ w (nI k)
      · rw [am_cg_t (by unfold av_ra; rw [if_pos d1])]
        simp only [ae_X12_countTeamsAhead_0, ae_X12_countTeamsAhead_6, ae_X12_countTeamsAhead_19, ae_X12_countTeamsAhead_26, ae_X12_countTeamsAhead_34, ae_X12_countTeamsAhead_40, ae_X12_countTeamsAhead_46, ae_X12_countTeamsAhead_49, ae_X12_countTeamsAhead_55, am_bnx_v, am_bnx_e, am_tl_s, am_tl_n, am_rv_s, am_add_rx, e1, d1, not_true_eq_false, not_false_eq_true, if_true, if_false, am_1n0, or_true, true_or, eq_self, Bool.true_eq_false, Bool.false_eq_true, cond_true, cond_false, nI_1]
      · by_cases d2 : av_ms σ w (nI k) = av_ms σ w (nI t)
        · by_cases d3 : k < t
          · rw [am_cg_t (by unfold av_ra; rw [if_neg d1, if_pos d2, decide_eq_true d3])]
            have d4 : ¬ nI t ≤ nI k := nI_ge d3 (by omega)
            simp only [ae_X12_countTeamsAhead_0, ae_X12_countTeamsAhead_6, ae_X12_countTeamsAhead_19, ae_X12_countTeamsAhead_26, ae_X12_countTeamsAhead_34, ae_X12_countTeamsAhead_40, ae_X12_countTeamsAhead_46, ae_X12_countTeamsAhead_49, ae_X12_countTeamsAhead_55, am_bnx_v, am_bnx_e, am_tl_s, am_tl_n, am_rv_s, am_add_rx, e1, d1, if_neg (not_not_intro d2), d4, not_true_eq_false, not_false_eq_true, if_true, if_false, am_1n0, or_true, true_or, eq_self, Bool.true_eq_false, Bool.false_eq_true, cond_true, cond_false, nI_1]
          · rw [am_cg_f (by unfold av_ra; rw [if_neg d1, if_pos d2, decide_eq_false d3])]
            have d4 : nI t ≤ nI k := nI_le (by omega) (by omega)
            simp only [ae_X12_countTeamsAhead_0, ae_X12_countTeamsAhead_6, ae_X12_countTeamsAhead_19, ae_X12_countTeamsAhead_26, ae_X12_countTeamsAhead_34, ae_X12_countTeamsAhead_40, ae_X12_countTeamsAhead_46, ae_X12_countTeamsAhead_49, ae_X12_countTeamsAhead_55, am_bnx_v, am_bnx_e, am_tl_s, am_tl_n, am_rv_s, am_add_rx, e1, d1, if_neg (not_not_intro d2), d4, not_true_eq_false, not_false_eq_true, if_true, if_false, am_1n0, or_true, true_or, eq_self, Bool.true_eq_false, Bool.false_eq_true, cond_true, cond_false, nI_1]
        · rw [am_cg_f (by unfold av_ra; rw [if_neg d1, if_neg d2])]
          simp only [ae_X12_countTeamsAhead_0, ae_X12_countTeamsAhead_6, ae_X12_countTeamsAhead_19, ae_X12_countTeamsAhead_26, ae_X12_countTeamsAhead_34, ae_X12_countTeamsAhead_40, ae_X12_countTeamsAhead_46, ae_X12_countTeamsAhead_49, ae_X12_countTeamsAhead_55, am_bnx_v, am_bnx_e, am_tl_s, am_tl_n, am_rv_s, am_add_rx, e1, d1, d2, not_true_eq_false, not_false_eq_true, if_true, if_false, am_1n0, or_true, true_or, eq_self, Bool.true_eq_false, Bool.false_eq_true, cond_true, cond_false, nI_1])
  simp only [nI_0] at hl
  have e0 := ac_measure (w := w) (t := nI t) p0 hC
  simp only [ae_X12_countTeamsAhead_0, ae_X12_countTeamsAhead_6, ae_X12_countTeamsAhead_19, ae_X12_countTeamsAhead_26, ae_X12_countTeamsAhead_34, ae_X12_countTeamsAhead_40, ae_X12_countTeamsAhead_46, ae_X12_countTeamsAhead_49, ae_X12_countTeamsAhead_55, am_bnx_v, am_bnx_e, am_tl_s, am_tl_n, am_rv_s, am_add_rx, e0, hl]
  rfl
theorem cq_ranked {B : Nat} {rm : Nat → Nat} {σ : Nat → Int32} {L : List (Nat → Int32)} {w a : Int32} {M : am_M} (p0 : M.2.1 (am_c 0 12) 0 = am_c B 1 + 1) (hC : av_C M B rm σ L) : av_qc (am_val iX12_ranked 0 [some (.ref (am_c 0 12)), some (.int w), some (.int a), none] [] M) (aq_ranked σ w a) M := by
  unfold aq_ranked
  cases hw : am_wt w 0 3 with
  | false =>
    rw [if_pos rfl]
    show (_ : am_T) = some (.inr 2, M, 1, 6)
    simp only [ae_X12_ranked_0, ae_X12_ranked_6, ae_X12_ranked_9, ae_X12_ranked_20, ae_X12_ranked_27, ae_X12_ranked_33, ae_X12_ranked_37, ae_X12_ranked_39, ae_X12_ranked_45, am_bnx_v, am_bnx_e, am_tl_s, am_tl_n, am_rv_s, am_add_rx, ac_isWithin, hw, am_bi_f, not_true_eq_false, not_false_eq_true, if_true, if_false, am_1n0, or_true, true_or, eq_self, Bool.true_eq_false, Bool.false_eq_true, cond_true, cond_false]
  | true =>
    rw [if_neg (by decide)]
    have key := av_srch (β := Unit) (H := fun t _ => am_val iX12_ranked 22 [some (.ref (am_c 0 12)), some (.int w), some (.int a), some (.int (nI t))] [] M) (f := fun t => decide (av_rk σ w t = a)) (N := 3) (rs := fun t => some (.inl (some (.int (nI t))), M, 0, 0)) (rn := some (.inr 3, M, 1, 6))
      (fun _ => by
        rw [ae_X12_ranked_22, if_pos (show (3 : Int32) ≤ nI 3 by decide)]
        simp only [ae_X12_ranked_0, ae_X12_ranked_6, ae_X12_ranked_9, ae_X12_ranked_20, ae_X12_ranked_27, ae_X12_ranked_33, ae_X12_ranked_37, ae_X12_ranked_39, ae_X12_ranked_45])
      (fun t _ ht hf => by
        have hf := of_decide_eq_true hf
        rw [ae_X12_ranked_22, if_neg (show ¬ (3 : Int32) ≤ nI t from nI_ge (b := 3) ht (by decide))]
        simp only [ae_X12_ranked_0, ae_X12_ranked_6, ae_X12_ranked_9, ae_X12_ranked_20, ae_X12_ranked_27, ae_X12_ranked_33, ae_X12_ranked_37, ae_X12_ranked_39, ae_X12_ranked_45, am_bnx_v, am_bnx_e, am_tl_s, am_tl_n, am_rv_s, am_add_rx, ac_ahead p0 hC ht, hf, not_true_eq_false, not_false_eq_true, if_true, if_false, am_1n0, or_true, true_or, eq_self, Bool.true_eq_false, Bool.false_eq_true, cond_true, cond_false])
      (fun t _ ht hf => by
        have hf := of_decide_eq_false hf
        refine Or.inl ⟨(), ?_⟩
        show am_val iX12_ranked 22 [some (.ref (am_c 0 12)), some (.int w), some (.int a), some (.int (nI t))] [] M = am_val iX12_ranked 22 [some (.ref (am_c 0 12)), some (.int w), some (.int a), some (.int (nI (t + 1)))] [] M
        rw [ae_X12_ranked_22, if_neg (show ¬ (3 : Int32) ≤ nI t from nI_ge (b := 3) ht (by decide))]
        simp only [ae_X12_ranked_0, ae_X12_ranked_6, ae_X12_ranked_9, ae_X12_ranked_20, ae_X12_ranked_27, ae_X12_ranked_33, ae_X12_ranked_37, ae_X12_ranked_39, ae_X12_ranked_45, am_bnx_v, am_bnx_e, am_tl_s, am_tl_n, am_rv_s, am_add_rx, ac_ahead p0 hC ht, hf, not_true_eq_false, not_false_eq_true, if_true, if_false, am_1n0, or_true, true_or, eq_self, Bool.true_eq_false, Bool.false_eq_true, cond_true, cond_false, nI_1]) ()
    have key : am_val iX12_ranked 22 [some (.ref (am_c 0 12)), some (.int w), some (.int a), some (.int 0)] [] M = _ := key
    rcases av_fst_c (f := fun t => decide (av_rk σ w t = a)) 3 with ⟨e, -⟩ | ⟨j, -, e, -, -⟩
    · rw [e] at key ⊢
      show (_ : am_T) = some (.inr 3, M, 1, 6)
      simp only [ae_X12_ranked_0, ae_X12_ranked_6, ae_X12_ranked_9, ae_X12_ranked_20, ae_X12_ranked_27, ae_X12_ranked_33, ae_X12_ranked_37, ae_X12_ranked_39, ae_X12_ranked_45, am_bnx_v, am_bnx_e, am_tl_s, am_tl_n, am_rv_s, am_add_rx, ac_isWithin, hw, am_bi_t, not_true_eq_false, not_false_eq_true, if_true, if_false, am_1n0, or_true, true_or, eq_self, Bool.true_eq_false, Bool.false_eq_true, cond_true, cond_false]
      exact key
    · rw [e] at key ⊢
      show (_ : am_T) = some (.inl (some (.int (nI j))), M, 0, 0)
      simp only [ae_X12_ranked_0, ae_X12_ranked_6, ae_X12_ranked_9, ae_X12_ranked_20, ae_X12_ranked_27, ae_X12_ranked_33, ae_X12_ranked_37, ae_X12_ranked_39, ae_X12_ranked_45, am_bnx_v, am_bnx_e, am_tl_s, am_tl_n, am_rv_s, am_add_rx, ac_isWithin, hw, am_bi_t, not_true_eq_false, not_false_eq_true, if_true, if_false, am_1n0, or_true, true_or, eq_self, Bool.true_eq_false, Bool.false_eq_true, cond_true, cond_false]
      exact key
/-! loudest -/
def av_la (L : List (Nat → Int32)) (j : Nat) : Int32 := am_cnt (fun k => av_ha L k j) L.length
def aq_loudest (L : List (Nat → Int32)) (a : Int32) : av_A := match av_fst (fun t => decide (av_la L t = a)) L.length with
  | some t => .inl (nI t)
  | none => .inr (3, 1)
theorem cq_loudest {B : Nat} {rm : Nat → Nat} {σ : Nat → Int32} {L : List (Nat → Int32)} {a : Int32} {M : am_M} (p0 : M.2.1 (am_c 0 12) 0 = am_c B 1 + 1) (hC : av_C M B rm σ L) : av_qc (am_val iX12_loudest 0 [some (.ref (am_c 0 12)), some (.int a), none] [] M) (aq_loudest L a) M := by
  have l8 := hC.2.1.2.2.1
  have hct := (av_C_ns hC).1
  unfold aq_loudest
  have key := av_srch (β := Unit) (H := fun t _ => am_val iX12_loudest 2 [some (.ref (am_c 0 12)), some (.int a), some (.int (nI t))] [] M) (f := fun t => decide (av_la L t = a)) (N := L.length) (rs := fun t => some (.inl (some (.int (nI t))), M, 0, 0)) (rn := some (.inr 3, M, 1, 6))
    (fun _ => by
      rw [ae_X12_loudest_2, p0, am_rv_s]
      simp only [ae_X12_loudest_0, ae_X12_loudest_7, ae_X12_loudest_13, ae_X12_loudest_17, ae_X12_loudest_21, ae_X12_loudest_25, ae_X12_loudest_27, ae_X12_loudest_33, hct, av_he (show L.length < 2147483648 by omega), if_true])
    (fun t _ ht hf => by
      have hf := of_decide_eq_true hf
      have e := ac_countSoundsAhead hC ht
      have e : am_val iX1_countSoundsAhead 0 [some (.ref (am_c B 1)), some (.int (nI t)), none, none] [] M = some (.inl (some (.int (av_la L t))), M, 0, 0) := e
      rw [ae_X12_loudest_2, p0, am_rv_s]
      simp only [ae_X12_loudest_0, ae_X12_loudest_7, ae_X12_loudest_13, ae_X12_loudest_17, ae_X12_loudest_21, ae_X12_loudest_25, ae_X12_loudest_27, ae_X12_loudest_33, am_bnx_v, am_bnx_e, am_tl_s, am_tl_n, am_rv_s, am_add_rx, hct, av_hl ht (show L.length < 2147483648 by omega), p0, e, hf, not_true_eq_false, not_false_eq_true, if_true, if_false, am_1n0, or_true, true_or, eq_self, Bool.true_eq_false, Bool.false_eq_true, cond_true, cond_false])
    (fun t _ ht hf => by
      have hf := of_decide_eq_false hf
      have e := ac_countSoundsAhead hC ht
      have e : am_val iX1_countSoundsAhead 0 [some (.ref (am_c B 1)), some (.int (nI t)), none, none] [] M = some (.inl (some (.int (av_la L t))), M, 0, 0) := e
      refine Or.inl ⟨(), ?_⟩
      show am_val iX12_loudest 2 [some (.ref (am_c 0 12)), some (.int a), some (.int (nI t))] [] M = am_val iX12_loudest 2 [some (.ref (am_c 0 12)), some (.int a), some (.int (nI (t + 1)))] [] M
      rw [ae_X12_loudest_2, p0, am_rv_s]
      simp only [ae_X12_loudest_0, ae_X12_loudest_7, ae_X12_loudest_13, ae_X12_loudest_17, ae_X12_loudest_21, ae_X12_loudest_25, ae_X12_loudest_27, ae_X12_loudest_33, am_bnx_v, am_bnx_e, am_tl_s, am_tl_n, am_rv_s, am_add_rx, hct, av_hl ht (show L.length < 2147483648 by omega), p0, e, hf, not_true_eq_false, not_false_eq_true, if_true, if_false, am_1n0, or_true, true_or, eq_self, Bool.true_eq_false, Bool.false_eq_true, cond_true, cond_false, nI_1]) ()
  have key : am_val iX12_loudest 2 [some (.ref (am_c 0 12)), some (.int a), some (.int 0)] [] M = _ := key
  rcases av_fst_c (f := fun t => decide (av_la L t = a)) L.length with ⟨e, -⟩ | ⟨j, -, e, -, -⟩
  · rw [e] at key ⊢
    show (_ : am_T) = some (.inr 3, M, 1, 6)
    simp only [ae_X12_loudest_0, ae_X12_loudest_7, ae_X12_loudest_13, ae_X12_loudest_17, ae_X12_loudest_21, ae_X12_loudest_25, ae_X12_loudest_27, ae_X12_loudest_33]
    exact key
  · rw [e] at key ⊢
    show (_ : am_T) = some (.inl (some (.int (nI j))), M, 0, 0)
    simp only [ae_X12_loudest_0, ae_X12_loudest_7, ae_X12_loudest_13, ae_X12_loudest_17, ae_X12_loudest_21, ae_X12_loudest_25, ae_X12_loudest_27, ae_X12_loudest_33]
    exact key
theorem av_ha_s {L : List (Nat → Int32)} {k : Nat} : av_ha L k k = false := by
  unfold av_ha
  rw [if_pos rfl, if_pos rfl, decide_eq_false (Nat.lt_irrefl k)]
