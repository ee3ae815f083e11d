/-! an order is carried out -/
theorem av_bc0 : ∀ k, k < 8 → ∀ x, x < 2 ^ k → am_bc (nI x ||| ((1 : Int32) <<< (nI k &&& 31))) = am_bc (nI x) + 1 ∧ nI x ||| ((1 : Int32) <<< (nI k &&& 31)) = nI (x + 2 ^ k) := by decide +kernel
theorem av_gf_bc {σ : Nat → Int32} {L : List (Nat → Int32)} : ∀ k, k ≤ 8 → ∃ x, x < 2 ^ k ∧ av_gf σ L k = nI x ∧ am_bc (nI x) = nI (k - (av_kf σ L k).length) ∧ (av_kf σ L k).length ≤ k := by
  intro k
  induction k with
  | zero => intro _; exact ⟨0, by decide, rfl, (show am_bc (nI 0) = nI (0 - 0) by decide), Nat.le_refl _⟩
  | succ k ih =>
    intro hk
    obtain ⟨x, h1, h2, h3, h4⟩ := ih (by omega)
    obtain ⟨b1, b2⟩ := av_bc0 k (by omega) x h1
    by_cases hd : av_a1 σ (av_s L k) 1 = 0
    · have hkf : av_kf σ L (k + 1) = av_kf σ L k := by show av_kg σ L k (av_kf σ L k) = _; unfold av_kg; rw [if_pos hd]
      have hgf : av_gf σ L (k + 1) = av_gf σ L k ||| ((1 : Int32) <<< (nI k &&& 31)) := by show av_gg σ L k (av_gf σ L k) = _; unfold av_gg; rw [if_pos hd]
      refine ⟨x + 2 ^ k, by rw [Nat.pow_succ]; omega, by rw [hgf, h2, b2], ?_, by rw [hkf]; omega⟩
      rw [← b2, b1, h3, hkf, nI_1]
      congr 1
      omega
    · have hkf : av_kf σ L (k + 1) = av_kf σ L k ++ [av_a1 σ (av_s L k)] := by show av_kg σ L k (av_kf σ L k) = _; unfold av_kg; rw [if_neg hd]
      have hgf : av_gf σ L (k + 1) = av_gf σ L k := by show av_gg σ L k (av_gf σ L k) = _; unfold av_gg; rw [if_neg hd]
      have hlk : (av_kf σ L (k + 1)).length = (av_kf σ L k).length + 1 := by rw [hkf]; simp
      refine ⟨x, by rw [Nat.pow_succ]; omega, by rw [hgf, h2], ?_, by omega⟩
      rw [h3, hlk]
      congr 1
      omega
/-- a canyon that is in order; points are at most b -/
def av_sok (s : Nat → Int32) : Prop := (∃ p, p < 16 ∧ s 0 = nI p) ∧ (∃ l t, 0 < l ∧ t + l ≤ 20 ∧ s 1 = nI l ∧ s 3 = nI t) ∧ (∃ b, b < 3 ∧ s 2 = nI b) ∧ (s 4 = 0 ∨ s 4 = 1)
def av_pok (σ : Nat → Int32) (p : Nat) : Prop := (∃ t, t < 3 ∧ σ (50 + 5 * p) = nI t) ∧ (∃ a, a < 16 ∧ σ (51 + 5 * p) = nI a) ∧ (∃ h, h ≤ 5 ∧ σ (52 + 5 * p) = nI h)
def av_wok (σ : Nat → Int32) (p : Nat) : Prop := ∃ h, h ≤ 9 ∧ σ (18 + 2 * p) = nI h ∧ (σ (19 + 2 * p) = -1 ∨ (0 < h ∧ ∃ t, t < 3 ∧ σ (19 + 2 * p) = nI t))
def av_ok (b : Nat) (σ : Nat → Int32) (L : List (Nat → Int32)) : Prop := (∀ p, p < 16 → av_wok σ p) ∧ (∀ t, t < 3 → ∃ x, x ≤ b ∧ σ (9 + 3 * t) = nI x) ∧ am_wt (σ 2) (-2) 2 = true ∧ (∀ p, p < av_np σ → av_pok σ p) ∧ (∀ k, k < L.length → av_sok (av_s L k)) ∧ av_np σ ≤ 6 ∧ σ 0 = nI (av_np σ) ∧ L.length ≤ 8
theorem av_ok_own {b : Nat} {σ : Nat → Int32} {L : List (Nat → Int32)} (h : av_ok b σ L) : av_own σ := by
  intro p hp
  obtain ⟨x, hx, h1, h2⟩ := h.1 p hp
  rcases h2 with h2 | ⟨_, t, ht, h3⟩
  · exact Or.inl h2
  · exact Or.inr ⟨t, ht, h3⟩
theorem av_ok_pos {b : Nat} {σ : Nat → Int32} {L : List (Nat → Int32)} (h : av_ok b σ L) : ∀ q, q < L.length → ¬ av_s L q 1 ≤ 0 := by
  intro q hq
  obtain ⟨_, ⟨l, t, hl, hlt, h1, _⟩, _⟩ := h.2.2.2.2.1 q hq
  rw [h1]
  exact nI_nle hl (by omega)
def av_ix (x : Int32) : Nat := x.toNatClampNeg
theorem av_ix_n {k : Nat} (h : k < 2147483648) : av_ix (nI k) = k := am_tn h
/-- the loudest echo at a player's place, and that player's team -/
def av_bst (σ : Nat → Int32) (L : List (Nat → Int32)) (k : Nat) : Nat := (av_lb L (σ (51 + 5 * k)) L.length).getD 0
def av_ans (σ : Nat → Int32) (L : List (Nat → Int32)) (c : Nat) (a b : Int32) : Int32 := match c with
  | 0 => σ (18 + 2 * av_ix a)
  | 1 => av_o1 σ (av_ix a) (av_ix b) (9 + 3 * av_ix a)
  | 2 => σ 0
  | 3 => av_sa L b
  | 4 => nI L.length
  | 5 => nI (L.length - (av_kf σ L L.length).length)
  | 6 => av_pts σ (av_ix a) (av_s L (av_bst σ L (av_ix a)))
  | _ => σ 2
def av_nσ (σ : Nat → Int32) (L : List (Nat → Int32)) (c : Nat) (a b : Int32) : Nat → Int32 := match c with
  | 0 => av_o0 σ (av_ix a) b
  | 1 => av_o1 σ (av_ix a) (av_ix b)
  | 2 => av_o2 σ a b
  | 3 => av_o3 σ (av_ix a) b
  | 4 => av_o4 σ (av_ix a) b
  | 5 => av_o5 σ L
  | 6 => av_o6 σ (av_ix a) (av_ix (σ (50 + 5 * av_ix a))) (av_s L (av_bst σ L (av_ix a)))
  | _ => av_up σ 2 a
def av_nL (σ : Nat → Int32) (L : List (Nat → Int32)) (c : Nat) (a b g : Int32) : List (Nat → Int32) := match c with
  | 4 => L ++ [av_new σ (av_ix a) b g]
  | 5 => av_kf σ L L.length
  | 6 => L.eraseIdx (av_bst σ L (av_ix a))
  | _ => L
theorem ac_carryOut {B : Nat} {rm : Nat → Nat} {σ : Nat → Int32} {L : List (Nat → Int32)} {o c bd : Nat} {a b g : Int32} {M : am_M} (hC : av_C M B rm σ L) (hok : av_ok bd σ L) (hc : c < 8) (hr : av_ref σ L c a b = none) (hg : g = 0 ∨ g = 1) (ho : M.2.1 (am_c o 5) 0 = am_c c 40 + 1) (ha : M.1 (am_c o 5) 1 = a) (hb : M.1 (am_c o 5) 2 = b) (hgg : M.1 (am_c o 5) 3 = g) :
    ∃ M' rm', am_val iX1_carryOut 0 [some (.ref (am_c B 1)), some (.ref (am_c o 5))] [] M = some (.inl (some (.int (av_ans σ L c a b))), M', 0, 0) ∧ av_C M' B rm' (av_nσ σ L c a b) (av_nL σ L c a b g) ∧ av_fr M M' B := by
  have hin : am_in (Int32.ofNat c) 8 = true := am_in_n hc (by decide)
  have hsw : Int32.ofNat ((Int32.ofNat c).toNatClampNeg + 1) = nI (c + 1) := by rw [show (Int32.ofNat c).toNatClampNeg = c from am_tn (by omega)]; rfl
  have hln := hC.2.1.2.2.1
  rw [ae_X1_carryOut_0, ho, am_rv_s, ae_X1_carryOut_7 hin, hsw]
  rcases (show c = 0 ∨ c = 1 ∨ c = 2 ∨ c = 3 ∨ c = 4 ∨ c = 5 ∨ c = 6 ∨ c = 7 by omega) with rfl | rfl | rfl | rfl | rfl | rfl | rfl | rfl
  · have hr : av_q0 σ a b = none := hr
    unfold av_q0 at hr
    cases h1 : am_pl a with
    | false => rw [if_pos h1] at hr; cases hr
    | true =>
      obtain ⟨p, hp, rfl⟩ := am_pl_n h1
      obtain ⟨M', e1, c1, f1⟩ := ac_setWall (h := b) hp hC
      refine ⟨M', rm, ?_, ?_, f1⟩
      · rw [show nI (0 + 1) = 1 from rfl]
        simp [am_sw, ae_X1_carryOut_0, ae_X1_carryOut_7, ae_X1_carryOut_56, ae_X1_carryOut_68, ae_X1_carryOut_69, ae_X1_carryOut_81, ae_X1_carryOut_82, ae_X1_carryOut_94, ae_X1_carryOut_95, ae_X1_carryOut_107, ae_X1_carryOut_108, ae_X1_carryOut_124, ae_X1_carryOut_125, ae_X1_carryOut_129, ae_X1_carryOut_133, ae_X1_carryOut_141, ae_X1_carryOut_142, ae_X1_carryOut_150, am_bnx_v, am_bnx_e, am_tl_s, am_tl_n, am_rv_s, am_add_rx, ha, hb, e1, av_ans, av_ix_n, show p < 2147483648 by omega]
      · show av_C M' B rm (av_o0 σ (av_ix (nI p)) b) L
        rw [av_ix_n (by omega)]
        exact c1
  · have hr : av_q1 σ a b = none := hr
    unfold av_q1 at hr
    cases h1 : am_tm a with
    | false => rw [if_pos h1] at hr; cases hr
    | true =>
      rw [if_neg (by rw [h1]; decide)] at hr
      cases h2 : am_pl b with
      | false => rw [if_pos h2] at hr; cases hr
      | true =>
        obtain ⟨t, ht, rfl⟩ := am_tm_n h1
        obtain ⟨p, hp, rfl⟩ := am_pl_n h2
        obtain ⟨M', e1, c1, f1⟩ := ac_buyWall ht hp (av_ok_own hok p hp) hC
        refine ⟨M', rm, ?_, ?_, f1⟩
        · rw [show nI (1 + 1) = 2 from rfl]
          simp [am_sw, ae_X1_carryOut_0, ae_X1_carryOut_7, ae_X1_carryOut_56, ae_X1_carryOut_68, ae_X1_carryOut_69, ae_X1_carryOut_81, ae_X1_carryOut_82, ae_X1_carryOut_94, ae_X1_carryOut_95, ae_X1_carryOut_107, ae_X1_carryOut_108, ae_X1_carryOut_124, ae_X1_carryOut_125, ae_X1_carryOut_129, ae_X1_carryOut_133, ae_X1_carryOut_141, ae_X1_carryOut_142, ae_X1_carryOut_150, am_bnx_v, am_bnx_e, am_tl_s, am_tl_n, am_rv_s, am_add_rx, ha, hb, e1, av_ans, av_ix_n, show p < 2147483648 by omega, show t < 2147483648 by omega]
        · show av_C M' B rm (av_o1 σ (av_ix (nI t)) (av_ix (nI p))) L
          rw [av_ix_n (by omega), av_ix_n (by omega)]
          exact c1
  · have hr : av_q2 σ a b = none := hr
    unfold av_q2 at hr
    have hn : av_np σ < 6 := by
      by_cases h0 : σ 0 < 6
      · rw [hC.2.1.2.1] at h0
        exact (nI_ltI (b := 6) (by have := hC.2.1.1; omega) (by decide)).mp h0
      · rw [if_neg h0] at hr
        by_cases h1 : am_tm a = false
        · rw [if_pos h1] at hr; cases hr
        · rw [if_neg h1] at hr
          by_cases h2 : am_pl b = false
          · rw [if_pos h2] at hr; cases hr
          · rw [if_neg h2] at hr; cases hr
    obtain ⟨M', e1, c1, f1⟩ := ac_addPlayer (t := a) (p := b) hn hC
    refine ⟨M', rm, ?_, c1, f1⟩
    rw [show nI (2 + 1) = 3 from rfl]
    simp [am_sw, ae_X1_carryOut_0, ae_X1_carryOut_7, ae_X1_carryOut_56, ae_X1_carryOut_68, ae_X1_carryOut_69, ae_X1_carryOut_81, ae_X1_carryOut_82, ae_X1_carryOut_94, ae_X1_carryOut_95, ae_X1_carryOut_107, ae_X1_carryOut_108, ae_X1_carryOut_124, ae_X1_carryOut_125, ae_X1_carryOut_129, ae_X1_carryOut_133, ae_X1_carryOut_141, ae_X1_carryOut_142, ae_X1_carryOut_150, am_bnx_v, am_bnx_e, am_tl_s, am_tl_n, am_rv_s, am_add_rx, ha, hb, e1, av_ans]
  · have hr : av_q3 σ a b = none := hr
    unfold av_q3 at hr
    cases h1 : am_ltb a (av_np σ) with
    | false => rw [if_pos h1] at hr; cases hr
    | true =>
      obtain ⟨k, hk, rfl⟩ := am_lt_n (by have := hC.2.1.1; omega) h1
      obtain ⟨M', e1, c1, f1⟩ := ac_movePlayer (p := b) hk hC
      refine ⟨M', rm, ?_, ?_, f1⟩
      · rw [show nI (3 + 1) = 4 from rfl]
        simp [am_sw, ae_X1_carryOut_0, ae_X1_carryOut_7, ae_X1_carryOut_56, ae_X1_carryOut_68, ae_X1_carryOut_69, ae_X1_carryOut_81, ae_X1_carryOut_82, ae_X1_carryOut_94, ae_X1_carryOut_95, ae_X1_carryOut_107, ae_X1_carryOut_108, ae_X1_carryOut_124, ae_X1_carryOut_125, ae_X1_carryOut_129, ae_X1_carryOut_133, ae_X1_carryOut_141, ae_X1_carryOut_142, ae_X1_carryOut_150, am_bnx_v, am_bnx_e, am_tl_s, am_tl_n, am_rv_s, am_add_rx, ha, hb, e1, av_ans]
      · show av_C M' B rm (av_o3 σ (av_ix (nI k)) b) L
        rw [av_ix_n (by have := hC.2.1.1; omega)]
        exact c1
  · have hr : av_q4 σ L.length a b = none := hr
    unfold av_q4 at hr
    cases h1 : am_ltb a (av_np σ) with
    | false => rw [if_pos h1] at hr; cases hr
    | true =>
      rw [if_neg (by rw [h1]; decide)] at hr
      obtain ⟨k, hk, rfl⟩ := am_lt_n (by have := hC.2.1.1; omega) h1
      have hn : L.length < 8 := by
        by_cases h2 : am_wt b 1 20 = false
        · rw [if_pos h2] at hr; cases hr
        · rw [if_neg h2] at hr
          by_cases h3 : σ (52 + 5 * (nI k).toNatClampNeg) ≤ 0
          · rw [if_pos h3] at hr
            by_cases h4 : L.length < 8
            · exact h4
            · rw [if_neg h4] at hr; cases hr
          · rw [if_neg h3] at hr; cases hr
      obtain ⟨M', e1, c1, f1⟩ := ac_addShout (l := b) hk hn hg hC
      refine ⟨M', rm, ?_, ?_, f1⟩
      · rw [show nI (4 + 1) = 5 from rfl]
        simp [am_sw, ae_X1_carryOut_0, ae_X1_carryOut_7, ae_X1_carryOut_56, ae_X1_carryOut_68, ae_X1_carryOut_69, ae_X1_carryOut_81, ae_X1_carryOut_82, ae_X1_carryOut_94, ae_X1_carryOut_95, ae_X1_carryOut_107, ae_X1_carryOut_108, ae_X1_carryOut_124, ae_X1_carryOut_125, ae_X1_carryOut_129, ae_X1_carryOut_133, ae_X1_carryOut_141, ae_X1_carryOut_142, ae_X1_carryOut_150, am_bnx_v, am_bnx_e, am_tl_s, am_tl_n, am_rv_s, am_add_rx, ha, hb, hgg, e1, av_ans]
      · show av_C M' B rm (av_o4 σ (av_ix (nI k)) b) (L ++ [av_new σ (av_ix (nI k)) b g])
        rw [av_ix_n (by have := hC.2.1.1; omega)]
        exact c1
  · obtain ⟨M', rm', e1, c1, f1⟩ := ac_passBeat (av_ok_own hok) hC
    obtain ⟨x, h1, h2, h3, h4⟩ := av_gf_bc (σ := σ) (L := L) L.length hln
    rw [h2] at e1
    refine ⟨M', rm', ?_, c1, f1⟩
    rw [show nI (5 + 1) = 6 from rfl]
    simp [am_sw, ae_X1_carryOut_0, ae_X1_carryOut_7, ae_X1_carryOut_56, ae_X1_carryOut_68, ae_X1_carryOut_69, ae_X1_carryOut_81, ae_X1_carryOut_82, ae_X1_carryOut_94, ae_X1_carryOut_95, ae_X1_carryOut_107, ae_X1_carryOut_108, ae_X1_carryOut_124, ae_X1_carryOut_125, ae_X1_carryOut_129, ae_X1_carryOut_133, ae_X1_carryOut_141, ae_X1_carryOut_142, ae_X1_carryOut_150, am_bnx_v, am_bnx_e, am_tl_s, am_tl_n, am_rv_s, am_add_rx, e1, h3, av_ans]
  · have hr : av_q6 σ L a = none := hr
    unfold av_q6 at hr
    cases h1 : am_ltb a (av_np σ) with
    | false => rw [if_pos h1] at hr; cases hr
    | true =>
      rw [if_neg (by rw [h1]; decide)] at hr
      obtain ⟨k, hk, rfl⟩ := am_lt_n (by have := hC.2.1.1; omega) h1
      have hk6 : k < 2147483648 := by have := hC.2.1.1; omega
      rw [am_tn hk6] at hr
      obtain ⟨t, ht, hkt⟩ := (hok.2.2.2.1 k hk).1
      cases hb2 : av_lb L (σ (51 + 5 * k)) L.length with
      | none =>
        rw [if_pos ((av_lb_es L.length hln).mpr hb2)] at hr
        cases hr
      | some q =>
        obtain ⟨M', e1, c1, f1⟩ := ac_catchLoudest hk ht hkt (av_ok_pos hok) hb2 hC
        have hbst : av_bst σ L k = q := by unfold av_bst; rw [hb2]; rfl
        refine ⟨M', av_rm2 rm q L.length, ?_, ?_, f1⟩
        · rw [show nI (6 + 1) = 7 from rfl]
          simp [am_sw, ae_X1_carryOut_0, ae_X1_carryOut_7, ae_X1_carryOut_56, ae_X1_carryOut_68, ae_X1_carryOut_69, ae_X1_carryOut_81, ae_X1_carryOut_82, ae_X1_carryOut_94, ae_X1_carryOut_95, ae_X1_carryOut_107, ae_X1_carryOut_108, ae_X1_carryOut_124, ae_X1_carryOut_125, ae_X1_carryOut_129, ae_X1_carryOut_133, ae_X1_carryOut_141, ae_X1_carryOut_142, ae_X1_carryOut_150, am_bnx_v, am_bnx_e, am_tl_s, am_tl_n, am_rv_s, am_add_rx, ha, e1, av_ans, av_ix_n, hk6, hbst]
        · show av_C M' B (av_rm2 rm q L.length) (av_o6 σ (av_ix (nI k)) (av_ix (σ (50 + 5 * av_ix (nI k)))) (av_s L (av_bst σ L (av_ix (nI k))))) (L.eraseIdx (av_bst σ L (av_ix (nI k))))
          rw [av_ix_n hk6, hbst, hkt, av_ix_n (by omega)]
          exact c1
  · obtain ⟨M', e1, c1, f1⟩ := ac_setWind (x := a) hC
    refine ⟨M', rm, ?_, c1, f1⟩
    rw [show nI (7 + 1) = 8 from rfl]
    simp [am_sw, ae_X1_carryOut_0, ae_X1_carryOut_7, ae_X1_carryOut_56, ae_X1_carryOut_68, ae_X1_carryOut_69, ae_X1_carryOut_81, ae_X1_carryOut_82, ae_X1_carryOut_94, ae_X1_carryOut_95, ae_X1_carryOut_107, ae_X1_carryOut_108, ae_X1_carryOut_124, ae_X1_carryOut_125, ae_X1_carryOut_129, ae_X1_carryOut_133, ae_X1_carryOut_141, ae_X1_carryOut_142, ae_X1_carryOut_150, am_bnx_v, am_bnx_e, am_tl_s, am_tl_n, am_rv_s, am_add_rx, ha, e1, av_ans]
