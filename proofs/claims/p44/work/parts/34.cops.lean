/-! what orders do to a canyon -/
theorem ac_baddPoints {B : Nat} {rm : Nat → Nat} {σ : Nat → Int32} {L : List (Nat → Int32)} {t : Nat} {x : Int32} {M : am_M} (ht : t < 3) (hC : av_C M B rm σ L) : ∃ M', am_val iX9_addPoints 0 [some (.ref (am_c (B + 4) 9)), some (.int (nI t)), some (.int x)] [] M = some (.inl none, M', 0, 0) ∧ av_C M' B rm (av_up σ (9 + 3 * t) (σ (9 + 3 * t) + x)) L ∧ av_fr M M' B := by
  have h := av_C_wt (q := 0) (x := σ (9 + 3 * t) + x) ht (by decide) hC
  obtain ⟨⟨⟨w0, w1, w2, w3, w4, w5, w6, w7, w8, w9⟩, hrm, hpr⟩, ⟨hnp, hs0, hln, hct⟩, hW, hT, hN, hP, hS, hB⟩ := hC
  have e := ac_addPoints (x := x) ht w6
  rw [(hT t ht).1] at e
  exact ⟨_, e, h⟩
/-- buyWall -/
def av_o1a (σ : Nat → Int32) (t p : Nat) : Nat → Int32 := av_up σ (9 + 3 * t) (σ (9 + 3 * t) + -av_price σ (nI t) (nI p))
def av_o1b (σ : Nat → Int32) (t p : Nat) : Nat → Int32 := if σ (19 + 2 * p) = -1 then av_up (av_o1a σ t p) 7 (av_o1a σ t p 7 + av_price σ (nI t) (nI p)) else av_up (av_o1a σ t p) (9 + 3 * (σ (19 + 2 * p)).toNatClampNeg) (av_o1a σ t p (9 + 3 * (σ (19 + 2 * p)).toNatClampNeg) + av_price σ (nI t) (nI p))
def av_o1 (σ : Nat → Int32) (t p : Nat) : Nat → Int32 := av_up (av_o1b σ t p) (19 + 2 * p) (nI t)
theorem ac_buyWall {B : Nat} {rm : Nat → Nat} {σ : Nat → Int32} {L : List (Nat → Int32)} {t p : Nat} {M : am_M} (ht : t < 3) (hp : p < 16) (how : σ (19 + 2 * p) = -1 ∨ ∃ q, q < 3 ∧ σ (19 + 2 * p) = nI q) (hC : av_C M B rm σ L) : ∃ M', am_val iX1_buyWall 0 [some (.ref (am_c B 1)), some (.int (nI t)), some (.int (nI p)), none, none] [] M = some (.inl (some (.int (av_o1 σ t p (9 + 3 * t)))), M', 0, 0) ∧ av_C M' B rm (av_o1 σ t p) L ∧ av_fr M M' B := by
  have e1 := ac_bprice (t := nI t) (p := nI p) hC
  have e2 := ac_bowner (p := nI p) hC
  rw [av_of_n hp] at e2
  obtain ⟨M1, e3, hC1, f1⟩ := ac_baddPoints (x := -av_price σ (nI t) (nI p)) ht hC
  have hC1' : av_C M1 B rm (av_o1a σ t p) L := hC1
  have s0 := hC.1.1
  have s1 := hC1.1.1
  have fin : ∀ M2, av_C M2 B rm (av_o1b σ t p) L → av_fr M M2 B → (∃ M', am_val iX11_setOwner 0 [some (.ref (am_c (B + 1) 11)), some (.int (nI p)), some (.int (nI t))] [] M2 = some (.inl none, M', 0, 0) ∧ M'.2.1 (am_c B 1) 1 = am_c (B + 4) 9 + 1 ∧ am_val iX9_pointsOf 0 [some (.ref (am_c (B + 4) 9)), some (.int (nI t))] [] (M') = some (.inl (some (.int (av_o1 σ t p (9 + 3 * t)))), M', 0, 0) ∧ av_C M' B rm (av_o1 σ t p) L ∧ av_fr M M' B) := by
    intro M2 hC2 f2
    obtain ⟨c3, f3⟩ := av_C_wo (x := nI t) hp hC2
    have s2 := hC2.1.1
    have e5 := ac_bpoints (t := nI t) c3
    rw [av_pt_n ht] at e5
    exact ⟨_, ac_setOwner hp s2.2.2.2.2.2.1, c3.1.1.2.1, e5, c3, av_fr_t f2 f3⟩
  by_cases ho : σ (19 + 2 * p) = -1
  · obtain ⟨c2, f2⟩ := av_C_wn (i := 7) (f := 12) (x := av_o1a σ t p 7 + av_price σ (nI t) (nI p)) (by decide) (by decide) (by decide) rfl hC1'
    have n7 : M1.1 (am_c B 1) 12 = av_o1a σ t p 7 := hC1'.2.2.2.2.1.2.2.2.2.2.2.2
    have hb : av_o1b σ t p = av_up (av_o1a σ t p) 7 (av_o1a σ t p 7 + av_price σ (nI t) (nI p)) := by unfold av_o1b; rw [if_pos ho]
    rw [← hb] at c2
    obtain ⟨M', e4, s4, e5, hC', f'⟩ := fin _ c2 (av_fr_t f1 f2)
    refine ⟨M', ?_, hC', f'⟩
    simp only [ae_X1_buyWall_0, ae_X1_buyWall_4, ae_X1_buyWall_9, ae_X1_buyWall_14, ae_X1_buyWall_18, ae_X1_buyWall_24, ae_X1_buyWall_30, ae_X1_buyWall_36, ae_X1_buyWall_49, ae_X1_buyWall_53, ae_X1_buyWall_59, ae_X1_buyWall_63, ae_X1_buyWall_68, ae_X1_buyWall_72, ae_X1_buyWall_76, am_bnx_v, am_bnx_e, am_tl_s, am_tl_n, am_rv_s, am_add_rx, s0.1, s0.2.1, s1.1, s1.2.1, e1, e2, e3, ho, n7, av_i2, not_true_eq_false, not_false_eq_true, if_true, if_false, am_1n0, or_true, true_or, eq_self, Bool.true_eq_false, Bool.false_eq_true, cond_true, cond_false, e4, s4, e5]
  · obtain ⟨q, hq, hoq⟩ := how.resolve_left ho
    obtain ⟨M2, e6, c2, f2⟩ := ac_baddPoints (x := av_price σ (nI t) (nI p)) hq hC1'
    have hb : av_o1b σ t p = av_up (av_o1a σ t p) (9 + 3 * q) (av_o1a σ t p (9 + 3 * q) + av_price σ (nI t) (nI p)) := by
      unfold av_o1b
      rw [if_neg ho, hoq, am_tn (by omega)]
    rw [← hb] at c2
    obtain ⟨M', e4, s4, e5, hC', f'⟩ := fin _ c2 (av_fr_t f1 f2)
    refine ⟨M', ?_, hC', f'⟩
    rw [hoq] at e2 ho
    simp only [ae_X1_buyWall_0, ae_X1_buyWall_4, ae_X1_buyWall_9, ae_X1_buyWall_14, ae_X1_buyWall_18, ae_X1_buyWall_24, ae_X1_buyWall_30, ae_X1_buyWall_36, ae_X1_buyWall_49, ae_X1_buyWall_53, ae_X1_buyWall_59, ae_X1_buyWall_63, ae_X1_buyWall_68, ae_X1_buyWall_72, ae_X1_buyWall_76, am_bnx_v, am_bnx_e, am_tl_s, am_tl_n, am_rv_s, am_add_rx, s0.1, s0.2.1, s1.1, s1.2.1, c2.1.1.1, e1, e2, e3, ho, not_true_eq_false, not_false_eq_true, if_true, if_false, am_1n0, or_true, true_or, eq_self, Bool.true_eq_false, Bool.false_eq_true, cond_true, cond_false, e6, e4, s4, e5]
/-- addPlayer -/
def av_o2 (σ : Nat → Int32) (t p : Int32) : Nat → Int32 :=
  av_up (av_up (av_up (av_up (av_up (av_up σ (50 + 5 * av_np σ + 0) t) (50 + 5 * av_np σ + 1) p) (50 + 5 * av_np σ + 2) 0) (50 + 5 * av_np σ + 3) 0) (50 + 5 * av_np σ + 4) 0) 0 (nI (av_np σ + 1))
theorem ac_addPlayer {B : Nat} {rm : Nat → Nat} {σ : Nat → Int32} {L : List (Nat → Int32)} {t p : Int32} {M : am_M} (hn : av_np σ < 6) (hC : av_C M B rm σ L) : ∃ M', am_val iX1_addPlayer 0 [some (.ref (am_c B 1)), some (.int t), some (.int p), none] [] M = some (.inl (some (.int (σ 0))), M', 0, 0) ∧ av_C M' B rm (av_o2 σ t p) L ∧ av_fr M M' B := by
  obtain ⟨c1, f1⟩ := av_C_wp (p := av_np σ) (w := 0) (x := t) hn (by decide) hC
  obtain ⟨c2, f2⟩ := av_C_wp (p := av_np σ) (w := 1) (x := p) hn (by decide) c1
  obtain ⟨c3, f3⟩ := av_C_wp (p := av_np σ) (w := 2) (x := 0) hn (by decide) c2
  obtain ⟨c4, f4⟩ := av_C_wp (p := av_np σ) (w := 3) (x := 0) hn (by decide) c3
  obtain ⟨c5, f5⟩ := av_C_wp (p := av_np σ) (w := 4) (x := 0) hn (by decide) c4
  obtain ⟨c6, f6⟩ := av_C_w0 (n := av_np σ + 1) (by omega) c5
  refine ⟨_, ?_, c6, av_fr_t f1 (av_fr_t f2 (av_fr_t f3 (av_fr_t f4 (av_fr_t f5 f6))))⟩
  have n5 : (av_i (av_i (av_i (av_i (av_i M (am_c (B + 10 + av_np σ) 6) 0 t) (am_c (B + 10 + av_np σ) 6) 1 p) (am_c (B + 10 + av_np σ) 6) 2 0) (am_c (B + 10 + av_np σ) 6) 3 0) (am_c (B + 10 + av_np σ) 6) 4 0).1 (am_c B 1) 3 = σ 0 := by
    rw [c5.2.2.2.2.1.1]
    repeat rw [av_up_n (by omega)]
  obtain ⟨⟨⟨w0, w1, w2, w3, w4, w5, w6, w7, w8, w9⟩, hrm, hpr⟩, ⟨hnp, hs0, hln, hct⟩, hW, hT, hN, hP, hS, hB⟩ := hC
  have n0 : M.1 (am_c B 1) 3 = nI (av_np σ) := by rw [hN.1]; exact hs0
  have h6 : ¬ (6 : Int32) ≤ nI (av_np σ) := nI_ge (b := 6) hn (by decide)
  simp only [ae_X1_addPlayer_0, ae_X1_addPlayer_11, ae_X1_addPlayer_15, ae_X1_addPlayer_17, ae_X1_addPlayer_22, ae_X1_addPlayer_32, am_bnx_v, am_bnx_e, am_tl_s, am_tl_n, am_rv_s, am_add_rx, n0, h6, w2, w9 _ hn, am_in_n hn (by decide), am_tn (show av_np σ < 2147483648 by omega), not_true_eq_false, not_false_eq_true, if_true, if_false, am_1n0, or_true, true_or, eq_self, Bool.true_eq_false, Bool.false_eq_true, cond_true, cond_false, ac_pstart, n5, hs0, nI_1]
/-- movePlayer -/
def av_o3 (σ : Nat → Int32) (k : Nat) (p : Int32) : Nat → Int32 := av_up σ (51 + 5 * k) p
theorem ac_movePlayer {B : Nat} {rm : Nat → Nat} {σ : Nat → Int32} {L : List (Nat → Int32)} {k : Nat} {p : Int32} {M : am_M} (hk : k < av_np σ) (hC : av_C M B rm σ L) : ∃ M', am_val iX1_movePlayer 0 [some (.ref (am_c B 1)), some (.int (nI k)), some (.int p)] [] M = some (.inl (some (.int (av_sa L p))), M', 0, 0) ∧ av_C M' B rm (av_o3 σ k p) L ∧ av_fr M M' B := by
  have hnp6 := hC.2.1.1
  obtain ⟨c1, f1⟩ := av_C_wp (p := k) (w := 1) (x := p) (by omega) (by decide) hC
  have e1 := ac_countSoundsAt (t := p) c1
  rw [show 50 + 5 * k + 1 = 51 + 5 * k by omega] at c1
  refine ⟨_, ?_, c1, f1⟩
  obtain ⟨⟨⟨w0, w1, w2, w3, w4, w5, w6, w7, w8, w9⟩, hrm, hpr⟩, ⟨hnp, hs0, hln, hct⟩, hW, hT, hN, hP, hS, hB⟩ := hC
  have hp := ac_hasPlayer (B := B) (x := nI k) (M := M) (n := av_np σ) (by rw [hN.1, ← hs0]) (by omega)
  simp only [ae_X1_movePlayer_0, ae_X1_movePlayer_5, ae_X1_movePlayer_8, ae_X1_movePlayer_12, ae_X1_movePlayer_14, ae_X1_movePlayer_18, ae_X1_movePlayer_23, am_bnx_v, am_bnx_e, am_tl_s, am_tl_n, am_rv_s, am_add_rx, hp, am_n_lt (show av_np σ < 2147483648 by omega) hk, am_bi_t, not_true_eq_false, not_false_eq_true, if_true, if_false, am_1n0, or_true, true_or, eq_self, Bool.true_eq_false, Bool.false_eq_true, cond_true, cond_false, w2, w9 k (by omega), am_in_n (show k < 6 by omega) (by decide), am_tn (show k < 2147483648 by omega), e1]
  rfl
/-- setWind -/
theorem ac_setWind {B : Nat} {rm : Nat → Nat} {σ : Nat → Int32} {L : List (Nat → Int32)} {x : Int32} {M : am_M} (hC : av_C M B rm σ L) : ∃ M', am_val iX1_setWind 0 [some (.ref (am_c B 1)), some (.int x), none] [] M = some (.inl (some (.int (σ 2))), M', 0, 0) ∧ av_C M' B rm (av_up σ 2 x) L ∧ av_fr M M' B := by
  obtain ⟨c1, f1⟩ := av_C_wn (i := 2) (f := 6) (x := x) (by decide) (by decide) (by decide) rfl hC
  refine ⟨_, ?_, c1, f1⟩
  simp only [ae_X1_setWind_0, hC.2.2.2.2.1.2.1]
/-- the sounds' part anew -/
theorem av_C_sl {B : Nat} {rm : Nat → Nat} {σ : Nat → Int32} {L : List (Nat → Int32)} {rm' : Nat → Nat} {L' : List (Nat → Int32)} {M M' : am_M} (hC : av_C M B rm σ L) (h1 : av_shp M'.2.1 B) (h2 : av_rms M'.2.1 B rm') (h3 : av_prm B rm') (h4 : L'.length ≤ 8) (h5 : M'.1 (am_c B 1) 5 = nI L'.length)
    (h6 : ∀ c k j, k < 64 → k ≠ 8 → ¬ (c = B ∧ k = 1 ∧ j = 5) → M'.1 (am_c c k) j = M.1 (am_c c k) j) (h7 : av_rs M'.1 rm' L') (h8 : av_rb M'.1 B) : av_C M' B rm' σ L' := by
  obtain ⟨⟨⟨w0, w1, w2, w3, w4, w5, w6, w7, w8, w9⟩, hrm, hpr⟩, ⟨hnp, hs0, hln, hct⟩, hW, hT, hN, hP, hS, hB⟩ := hC
  have hre := av_re_of hW hT hN hP
  have hre' : av_re M'.1 B σ := by
    intro i hi h1
    rw [← hre i hi h1]
    obtain ⟨c, k, e, hc1, hc2, hk1, hk2⟩ := av_ad_k (B := B) hi
    rw [e]
    refine h6 c k _ hk1 hk2 (fun hh => h1 (av_ad_inj (B := B) hi (by decide) ?_ ?_))
    · rw [e, hh.1, hh.2.1]; rfl
    · exact hh.2.2
  obtain ⟨hW', hT', hN', hP'⟩ := av_re_to hre'
  exact ⟨⟨h1, h2, h3⟩, ⟨hnp, hs0, h4, h5⟩, hW', hT', hN', hP', h7, h8⟩
theorem av_s_l {L : List (Nat → Int32)} {s : Nat → Int32} {k : Nat} (h : k < L.length) : av_s (L ++ [s]) k = av_s L k := by
  unfold av_s
  simp only [List.getD_eq_getElem?_getD]
  rw [List.getElem?_append_left h]
theorem av_s_e {L : List (Nat → Int32)} {s : Nat → Int32} : av_s (L ++ [s]) L.length = s := by
  unfold av_s
  simp
theorem ac_sstart2 {i : Nat} {p l b : Int32} {d : Int32} {M : am_M} (hd : d = 0 ∨ d = 1) : ∃ I, am_val iX8_start 0 [some (.ref (am_c i 8)), some (.int p), some (.int d), some (.int l), some (.int b)] [] M = some (.inl none, (I, M.2), 0, 0) ∧ am_rs I i (av_mk p l b 0 d) ∧ ∀ c j, ¬ c = am_c i 8 → I c j = M.1 c j := by
  refine ⟨_, ac_sstart hd, ?_, ?_⟩
  · simp [am_rs, av_mk, av_i1, am_up]
  · intro c j hc
    simp [av_i1, am_up, hc]
/-- addShout -/
def av_o4 (σ : Nat → Int32) (k : Nat) (l : Int32) : Nat → Int32 := av_up (av_up (av_up σ (52 + 5 * k) (l / 4)) (53 + 5 * k) (σ (53 + 5 * k) + 1)) 4 (σ 4 + 1)
def av_new (σ : Nat → Int32) (k : Nat) (l g : Int32) : Nat → Int32 := av_mk (σ (51 + 5 * k)) l (σ (50 + 5 * k)) 0 g
theorem ac_addShout {B : Nat} {rm : Nat → Nat} {σ : Nat → Int32} {L : List (Nat → Int32)} {k : Nat} {l g : Int32} {M : am_M} (hk : k < av_np σ) (hL : L.length < 8) (hg : g = 0 ∨ g = 1) (hC : av_C M B rm σ L) : ∃ M', am_val iX1_addShout 0 [some (.ref (am_c B 1)), some (.int (nI k)), some (.int g), some (.int l), none, none] [] M = some (.inl (some (.int (nI L.length))), M', 0, 0) ∧ av_C M' B rm (av_o4 σ k l) (L ++ [av_new σ k l g]) ∧ av_fr M M' B := by
  have hC0 := hC
  obtain ⟨⟨⟨w0, w1, w2, w3, w4, w5, w6, w7, w8, w9⟩, hrm, hpr⟩, ⟨hnp, hs0, hln, hct⟩, hW, hT, hN, hP, hS, hB⟩ := hC
  have hp := ac_hasPlayer (B := B) (x := nI k) (M := M) (n := av_np σ) (by rw [hN.1, ← hs0]) (by omega)
  have h8 : ¬ (8 : Int32) ≤ nI L.length := nI_ge (b := 8) hL (by decide)
  have hx1 : M.1 (am_c (B + 10 + k) 6) 1 = σ (51 + 5 * k) := by rw [hP k (by omega) 1 (by decide)]; congr 1 <;> omega
  have hx0 : M.1 (am_c (B + 10 + k) 6) 0 = σ (50 + 5 * k) := by rw [hP k (by omega) 0 (by decide)]; congr 1 <;> omega
  obtain ⟨hr1, hr2⟩ := hpr.1 L.length hL
  obtain ⟨I, e1, r1, f1⟩ := ac_sstart2 (i := rm L.length) (p := σ (51 + 5 * k)) (l := l) (b := σ (50 + 5 * k)) (M := M) hg
  have hI : ∀ c k j, k < 64 → k ≠ 8 → I (am_c c k) j = M.1 (am_c c k) j := fun c k j hk h8 => f1 _ _ (am_c_ne hk (by decide) (by omega))
  have hroom : ∀ a f, (av_i (I, M.2) (am_c B 1) 5 (nI (L.length + 1))).1 (am_c a 8) f = I (am_c a 8) f := fun a f => am_up_a (am_c_ne (by decide) (by decide) (by omega))
  have c1 : av_C (av_i (I, M.2) (am_c B 1) 5 (nI (L.length + 1))) B rm σ (L ++ [av_new σ k l g]) := by
    refine av_C_sl hC0 ⟨w0, w1, w2, w3, w4, w5, w6, w7, w8, w9⟩ hrm hpr (by simp; omega) (by simp [av_i1, am_up_s]) ?_ ?_ ?_
    · intro c k j hk h8 hn
      rw [av_i1, am_up_ak (fun hh => hn ?_)]
      · exact hI c k j hk h8
      · have := hh.1
        rw [am_c_inj hk (by decide)] at this
        exact ⟨this.1, this.2, hh.2⟩
    · intro q hq
      by_cases hq2 : q < L.length
      · rw [av_s_l hq2]
        obtain ⟨a0, a1, a2, a3, a4⟩ := hS q hq2
        have hne : ¬ rm q = rm L.length := fun h => by have := hpr.2 q L.length (by omega) (by omega) h; omega
        have hk8 : ∀ f, I (am_c (rm q) 8) f = M.1 (am_c (rm q) 8) f := fun f => f1 _ _ (am_c_ne (by decide) (by decide) (fun h => hne h.1))
        exact ⟨by rw [hroom, hk8, a0], by rw [hroom, hk8, a1], by rw [hroom, hk8, a2], by rw [hroom, hk8, a3], by rw [hroom, hk8, a4]⟩
      · have hq3 : q = L.length := by simp at hq; omega
        subst hq3
        rw [av_s_e]
        obtain ⟨a0, a1, a2, a3, a4⟩ := r1
        exact ⟨by rw [hroom, a0]; rfl, by rw [hroom, a1]; rfl, by rw [hroom, a2]; rfl, by rw [hroom, a3]; rfl, by rw [hroom, a4]; rfl⟩
    · intro a h1 h2
      rw [hroom]
      by_cases ha : a = rm L.length
      · rw [ha, r1.2.2.2.2]
        exact hg
      · rw [f1 _ _ (am_c_ne (by decide) (by decide) (fun h => ha h.1))]
        exact hB a h1 h2
  have g1 : av_fr M (av_i (I, M.2) (am_c B 1) 5 (nI (L.length + 1))) B := by
    refine av_fr_t (M' := (I, M.2)) ⟨rfl, fun c k j hk hc => ⟨f1 _ _ (am_c_ne hk (by decide) (by omega)), rfl⟩⟩ (av_fr_i (by decide) (by omega) (by omega))
  obtain ⟨c2, g2⟩ := av_C_wp (p := k) (w := 2) (x := l / 4) (by omega) (by decide) c1
  obtain ⟨c3, g3⟩ := av_C_wp (p := k) (w := 3) (x := σ (53 + 5 * k) + 1) (by omega) (by decide) c2
  obtain ⟨c4, g4⟩ := av_C_wn (i := 4) (f := 8) (x := σ 4 + 1) (by decide) (by decide) (by decide) rfl c3
  have x3 : (av_i (av_i (I, M.2) (am_c B 1) 5 (nI (L.length + 1))) (am_c (B + 10 + k) 6) 2 (l / 4)).1 (am_c (B + 10 + k) 6) 3 = σ (53 + 5 * k) := by
    rw [c2.2.2.2.2.2.1 k (by omega) 3 (by decide), av_up_n (by omega)]
    congr 1 <;> omega
  have x4 : (av_i (av_i (av_i (I, M.2) (am_c B 1) 5 (nI (L.length + 1))) (am_c (B + 10 + k) 6) 2 (l / 4)) (am_c (B + 10 + k) 6) 3 (σ (53 + 5 * k) + 1)).1 (am_c B 1) 8 = σ 4 := by
    rw [c3.2.2.2.2.1.2.2.2.1, av_up_n (by omega), av_up_n (by omega)]
  have x5 : I (am_c B 1) 5 = nI L.length := by rw [hI _ _ _ (by decide) (by decide), hct]
  refine ⟨_, ?_, ?_, av_fr_t g1 (av_fr_t g2 (av_fr_t g3 g4))⟩
  · simp only [ae_X1_addShout_0, ae_X1_addShout_11, ae_X1_addShout_14, ae_X1_addShout_21, ae_X1_addShout_25, ae_X1_addShout_27, ae_X1_addShout_33, ae_X1_addShout_36, ae_X1_addShout_51, ae_X1_addShout_90, am_bnx_v, am_bnx_e, am_tl_s, am_tl_n, am_rv_s, am_add_rx, hct, hp, am_n_lt (show av_np σ < 2147483648 by omega) hk, am_bi_t, h8, not_true_eq_false, not_false_eq_true, if_true, if_false, am_1n0, or_true, true_or, eq_self, Bool.true_eq_false, Bool.false_eq_true, cond_true, cond_false, w2, w3, w9 k (by omega), hrm L.length hL, am_in_n (show k < 6 by omega) (by decide), am_tn (show k < 2147483648 by omega), am_in_n hL (by decide), am_tn (show L.length < 2147483648 by omega), hx0, hx1, e1, x5, nI_1, x3, x4]
  · rw [show 50 + 5 * k + 2 = 52 + 5 * k by omega, show 50 + 5 * k + 3 = 53 + 5 * k by omega] at c4
    exact c4
