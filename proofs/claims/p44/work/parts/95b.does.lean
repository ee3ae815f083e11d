/-! the orders keep what holds; what the law's orders come to -/
theorem hf_0 {bd : Nat} {σ : Nat → Int32} {L : List (Nat → Int32)} {p : Int32} (hok : av_ok bd σ L) (h : decide (0 < av_hf σ p) = false) : av_hf σ p = 0 := by
  obtain ⟨x, hx, e⟩ := av_hf_h hok p
  rw [e] at h ⊢
  rcases Nat.eq_zero_or_pos x with hz | hz
  · rw [hz]; rfl
  · exact absurd (show (0 : Int32) < nI x by rw [← nI_0]; exact nI_lt hz (by omega)) (of_decide_eq_false h)
theorem iw_all {bd c : Nat} {σ : Nat → Int32} {L : List (Nat → Int32)} {a b : Int32} (hok : av_ok bd σ L) (hi : iw bd σ) (hc : c < 8) (hr : av_ref σ L c a b = none) : iw (bd + 40) (av_nσ σ L c a b) := by
  have hn6 := hok.2.2.2.2.2.1
  have hl8 := hok.2.2.2.2.2.2.2
  rcases (show c = 0 ∨ c = 1 ∨ c = 2 ∨ c = 3 ∨ c = 4 ∨ c = 5 ∨ c = 6 ∨ c = 7 by omega) with rfl | rfl | rfl | rfl | rfl | rfl | rfl | rfl
  · have hr : av_q0 σ a b = none := hr
    unfold av_q0 at hr
    cases h1 : am_pl a with
    | false => rw [if_pos h1] at hr; cases hr
    | true =>
      rw [if_neg (by rw [h1]; decide)] at hr
      cases h2 : am_wt b 0 9 with
      | false => rw [if_pos h2] at hr; cases hr
      | true =>
        rw [if_neg (by rw [h2]; decide)] at hr
        by_cases h3 : av_hf σ a = b
        · rw [if_pos h3] at hr; cases hr
        · rw [if_neg h3] at hr
          by_cases h4 : av_ca σ a ≤ 0
          · obtain ⟨p, hp, rfl⟩ := am_pl_n h1
            show iw (bd + 40) (av_o0 σ (av_ix (nI p)) b)
            rw [av_ix_n (by omega)]
            exact iw_0 hok hi hp h4
          · rw [if_neg h4] at hr; cases hr
  · have hr : av_q1 σ a b = none := hr
    unfold av_q1 at hr
    cases h1 : am_tm a with
    | false => rw [if_pos h1] at hr; cases hr
    | true =>
      rw [if_neg (by rw [h1]; decide)] at hr
      cases h2 : am_pl b with
      | false => rw [if_pos h2] at hr; cases hr
      | true =>
        obtain ⟨t, ht, rfl⟩ := am_tm_n h1
        obtain ⟨p, hp, rfl⟩ := am_pl_n h2
        show iw (bd + 40) (av_o1 σ (av_ix (nI t)) (av_ix (nI p)))
        rw [av_ix_n (by omega), av_ix_n (by omega)]
        exact iw_1 hok hi ht hp
  · have hr : av_q2 σ a b = none := hr
    unfold av_q2 at hr
    cases h1 : am_tm a with
    | false => rw [if_pos h1] at hr; cases hr
    | true =>
      rw [if_neg (by rw [h1]; decide)] at hr
      cases h2 : am_pl b with
      | false => rw [if_pos h2] at hr; cases hr
      | true =>
        rw [if_neg (by rw [h2]; decide)] at hr
        by_cases h0 : σ 0 < 6
        · rw [if_pos h0] at hr
          cases h3 : decide (0 < av_hf σ b) with
          | true => rw [if_neg (by rw [h3]; decide)] at hr; cases hr
          | false =>
            rw [hok.2.2.2.2.2.2.1] at h0
            exact iw_2 hok hi ((nI_ltI (b := 6) (by omega) (by decide)).mp h0) (hf_0 hok h3)
        · rw [if_neg h0] at hr; cases hr
  · have hr : av_q3 σ a b = none := hr
    unfold av_q3 at hr
    cases h1 : am_ltb a (av_np σ) with
    | false => rw [if_pos h1] at hr; cases hr
    | true =>
      rw [if_neg (by rw [h1]; decide)] at hr
      cases h2 : am_pl b with
      | false => rw [if_pos h2] at hr; cases hr
      | true =>
        rw [if_neg (by rw [h2]; decide)] at hr
        obtain ⟨k, hk, rfl⟩ := am_lt_n (by omega) h1
        by_cases h3 : av_abs (b - σ (51 + 5 * (nI k).toNatClampNeg)) = 0
        · rw [if_pos h3] at hr; cases hr
        · rw [if_neg h3] at hr
          by_cases h4 : av_abs (b - σ (51 + 5 * (nI k).toNatClampNeg)) ≤ 3
          · rw [if_pos h4] at hr
            cases h5 : decide (0 < av_hf σ b) with
            | true => rw [if_neg (by rw [h5]; decide)] at hr; cases hr
            | false =>
              show iw (bd + 40) (av_o3 σ (av_ix (nI k)) b)
              exact iw_3 hi (hf_0 hok h5)
          · rw [if_neg h4] at hr; cases hr
  · have hr : av_q4 σ L.length a b = none := hr
    unfold av_q4 at hr
    cases h1 : am_ltb a (av_np σ) with
    | false => rw [if_pos h1] at hr; cases hr
    | true =>
      obtain ⟨k, hk, rfl⟩ := am_lt_n (by omega) h1
      show iw (bd + 40) (av_o4 σ (av_ix (nI k)) b)
      rw [av_ix_n (by omega)]
      exact iw_4 hi hk
  · exact iw_5 hok hi
  · have hr : av_q6 σ L a = none := hr
    unfold av_q6 at hr
    cases h1 : am_ltb a (av_np σ) with
    | false => rw [if_pos h1] at hr; cases hr
    | true =>
      obtain ⟨k, hk, rfl⟩ := am_lt_n (by omega) h1
      obtain ⟨t, ht, hkt⟩ := (hok.2.2.2.1 k hk).1
      show iw (bd + 40) (av_o6 σ (av_ix (nI k)) (av_ix (σ (50 + 5 * av_ix (nI k)))) (av_s L (av_bst σ L (av_ix (nI k)))))
      rw [av_ix_n (show k < 2147483648 by omega), hkt, av_ix_n (by omega)]
      exact iw_6 hi hk ht
  · exact iw_7 hi
theorem iw_tx : ∀ (qs : List tx_Q) (k bd : Nat) (σ : Nat → Int32) (L : List (Nat → Int32)), bd + 40 * qs.length < 1000000000 → av_ok bd σ L → iw bd σ → (∀ q ∈ qs, q.1 < 8 ∧ (q.2.2.2 = 0 ∨ q.2.2.2 = 1)) → (tx_x qs k σ L).1 = none → iw (bd + 40 * qs.length) (tx_x qs k σ L).2.1 := by
  intro qs
  induction qs with
  | nil => intro k bd σ L _ hok hi _ _; exact hi
  | cons q qs ih =>
    intro k bd σ L hbd hok hi hq hn
    rw [List.length_cons] at hbd ⊢
    obtain ⟨hc, hg⟩ := hq q List.mem_cons_self
    cases hr : av_ref σ L q.1 q.2.1 q.2.2.1 with
    | some xy =>
      obtain ⟨x, y⟩ := xy
      rw [tx_x_r hr] at hn
      cases hn
    | none =>
      rw [tx_x_n hr] at hn ⊢
      have h := ih (k + 1) (bd + 40) _ _ (by omega) (av_ok_all hok (by omega) hc hg hr) (iw_all hok hi hc hr) (fun q' hq' => hq q' (List.mem_cons_of_mem _ hq')) hn
      rw [show bd + 40 * (qs.length + 1) = bd + 40 + 40 * qs.length by omega]
      exact h
theorem i32_gt {n : Nat} (h : n < 2147483648) : (-74 : Int32) < nI n := Int32.lt_of_lt_of_le (b := 0) (by decide) (nI_pos' h)
theorem ans_gt {bd c : Nat} {σ : Nat → Int32} {L : List (Nat → Int32)} {a b : Int32} (hok : av_ok bd σ L) (hbd : bd < 1000000000) (hc : c < 8) (hr : av_ref σ L c a b = none) : -74 < av_ans σ L c a b := by
  have hn6 := hok.2.2.2.2.2.1
  have hl8 := hok.2.2.2.2.2.2.2
  have hok' := av_ok_all (g := 0) hok hbd hc (Or.inl rfl) hr
  rcases (show c = 0 ∨ c = 1 ∨ c = 2 ∨ c = 3 ∨ c = 4 ∨ c = 5 ∨ c = 6 ∨ c = 7 by omega) with rfl | rfl | rfl | rfl | rfl | rfl | rfl | rfl
  · have hr : av_q0 σ a b = none := hr
    unfold av_q0 at hr
    cases h1 : am_pl a with
    | false => rw [if_pos h1] at hr; cases hr
    | true =>
      obtain ⟨p, hp, rfl⟩ := am_pl_n h1
      show -74 < σ (18 + 2 * av_ix (nI p))
      rw [av_ix_n (by omega)]
      obtain ⟨h, hh, e, -⟩ := hok.1 p hp
      rw [e]
      exact i32_gt (by omega)
  · have hr : av_q1 σ a b = none := hr
    unfold av_q1 at hr
    cases h1 : am_tm a with
    | false => rw [if_pos h1] at hr; cases hr
    | true =>
      obtain ⟨t, ht, rfl⟩ := am_tm_n h1
      have hok' : av_ok (bd + 40) (av_o1 σ (av_ix (nI t)) (av_ix b)) L := hok'
      show -74 < av_o1 σ (av_ix (nI t)) (av_ix b) (9 + 3 * av_ix (nI t))
      obtain ⟨x, hx, e⟩ := hok'.2.1 (av_ix (nI t)) (by rw [av_ix_n (by omega)]; exact ht)
      rw [e]
      exact i32_gt (by omega)
  · show -74 < σ 0
    rw [hok.2.2.2.2.2.2.1]
    exact i32_gt (by omega)
  · show -74 < av_sa L b
    obtain ⟨s, hs, e⟩ := tl_cnt (g := fun k => decide (av_s L k 0 = b)) L.length
    unfold av_sa
    rw [e]
    exact i32_gt (by omega)
  · exact i32_gt (by omega)
  · exact i32_gt (by omega)
  · have hr : av_q6 σ L a = none := hr
    unfold av_q6 at hr
    cases h1 : am_ltb a (av_np σ) with
    | false => rw [if_pos h1] at hr; cases hr
    | true =>
      rw [if_neg (by rw [h1]; decide)] at hr
      obtain ⟨k, hk, rfl⟩ := am_lt_n (by omega) h1
      rw [am_tn (show k < 2147483648 by omega)] at hr
      cases hb2 : av_lb L (σ (51 + 5 * k)) L.length with
      | none =>
        rw [if_pos ((av_lb_es L.length hl8).mpr hb2)] at hr
        cases hr
      | some q =>
        have hbst : av_bst σ L k = q := by unfold av_bst; rw [hb2]; rfl
        show -74 < av_pts σ (av_ix (nI k)) (av_s L (av_bst σ L (av_ix (nI k))))
        rw [av_ix_n (show k < 2147483648 by omega), hbst]
        obtain ⟨-, ⟨l, t, hl, hlt, e1, -⟩, -⟩ := hok.2.2.2.2.1 q (av_lb_in _ _ hb2).1
        unfold av_pts
        split
        · rw [e1]; exact i32_gt (by omega)
        · rw [e1, show (2 : Int32) * nI l = nI (2 * l) from (Int32.ofNat_mul 2 l).symm]; exact i32_gt (by omega)
  · have hr : av_q7 σ a = none := hr
    show -74 < σ 2
    have h2 := hok.2.2.1
    unfold am_wt at h2
    rw [Bool.and_eq_true, decide_eq_true_eq, decide_eq_true_eq] at h2
    exact Int32.lt_of_lt_of_le (b := -2) (by decide) h2.1
section
variable {Lx bd : Nat} {xs : Nat → Int32} {S : Nat → Int64} {σ : Nat → Int32} {L : List (Nat → Int32)} {H : List av_K} {P : Option av_K}
/-- what an order of the law comes to -/
def qD (Lx : Nat) (xs : Nat → Int32) (S : Nat → Int64) (bd : Nat) (σ : Nat → Int32) (L : List (Nat → Int32)) (H : List av_K) (P : Option av_K) (v : Option Value) (M : am_M) : Prop :=
  (∃ r : Int32, (r = -78 ∨ r = -76) ∧ v = some (.int r) ∧ pZ Lx xs S bd σ L H P M) ∨
  ∃ (r : Int32) (σ' : Nat → Int32) (L' : List (Nat → Int32)), -74 < r ∧ v = some (.int r) ∧ iw (bd + 1240) σ' ∧ pZ Lx xs S (bd + 1240) σ' L' (av_pu H (σ, L)) P M
theorem pZ_m {b b' : Nat} {M : am_M} (h : pZ Lx xs S b σ L H P M) (hb : b ≤ b') : pZ Lx xs S b' σ L H P M := ⟨h.1, av_okS_m h.2.1 hb, h.2.2⟩
theorem qD_lo {c : Nat} {a b g : Int32} {r : am_T} {M : am_M} (hZ : pZ Lx xs S bd σ L H P M) (hi : iw bd σ) (hbd : bd < 1000000000) (hc : c < 8) (h : match av_ref σ L c a b with
    | some _ => wq r 1 (qi (pZ Lx xs S bd σ L H P) (-76))
    | none => wq r 1 (qi (pZ Lx xs S (bd + 40) (av_nσ σ L c a b) (av_nL σ L c a b g) (av_pu H (σ, L)) P) (av_ans σ L c a b))) : wq r 1 (qD Lx xs S bd σ L H P) := by
  cases hr : av_ref σ L c a b with
  | some xy =>
    rw [hr] at h
    exact wq_w h (Nat.le_refl _) fun v M q => Or.inl ⟨-76, Or.inr rfl, q.1, q.2⟩
  | none =>
    rw [hr] at h
    exact wq_w h (Nat.le_refl _) fun v M q => Or.inr ⟨_, _, _, ans_gt hZ.2.1.1 hbd hc hr, q.1, iw_m (iw_all hZ.2.1.1 hi hc hr) (by omega), pZ_m q.2 (by omega)⟩
theorem qD_pass {r : am_T} {c : Option Value → am_M → am_T} {x : Nat → am_M → am_T} {K K' : Nat} (h : wq r K (qD Lx xs S bd σ L H P)) (hK : K ≤ K') (hc : ∀ (r : Int32) (M1 : am_M), c (some (.int r)) M1 = some (.inl (some (.int r)), M1, 0, 0)) : wq (am_bnx r c x) K' (qD Lx xs S bd σ L H P) := by
  refine wq_c h hK fun v M q => ?_
  rcases q with ⟨r, hr, rfl, z⟩ | ⟨r, σ', L', hr, rfl, z⟩
  · rw [hc]
    exact wq_e (Or.inl ⟨r, hr, rfl, z⟩)
  · rw [hc]
    exact wq_e (Or.inr ⟨r, σ', L', hr, rfl, z⟩)
theorem qD_qd {r : am_T} {K : Nat} (hok : av_ok bd σ L) (hi : iw bd σ) (hbd : bd + 1240 < 1000000000) (h : wq r K (qd Lx xs S bd σ L H P)) : wq r K (qD Lx xs S bd σ L H P) := by
  refine wq_w h (Nat.le_refl _) fun v M q => ?_
  rcases q with q | ⟨qs, h1, h2, h3, h4, h5⟩
  · exact Or.inl q
  · exact Or.inr ⟨_, _, _, i32_gt (by omega), h4, iw_m (iw_tx qs 0 bd σ L (by omega) hok hi h2 h3) (by omega), h5⟩
theorem ld_sw0 {x1 x4 x5 x6 : Int32} {M : am_M} : am_val iL_does 21 [some (.ref (am_c 0 44)), some (.int x1), some (.int (nI 0)), some (.ref (am_c 0 12)), some (.int x4), some (.int x5), none] [.int x6] M = am_val iL_does 152 [some (.ref (am_c 0 44)), some (.int x1), some (.int (nI 0)), some (.ref (am_c 0 12)), some (.int x4), some (.int x5), some (.int x6)] [] M := by
  rw [ae_L_does_21]
  rfl
theorem ld_sw1 {x1 x4 x5 x6 : Int32} {M : am_M} : am_val iL_does 21 [some (.ref (am_c 0 44)), some (.int x1), some (.int (nI 1)), some (.ref (am_c 0 12)), some (.int x4), some (.int x5), none] [.int x6] M = am_val iL_does 152 [some (.ref (am_c 0 44)), some (.int x1), some (.int (nI 1)), some (.ref (am_c 0 12)), some (.int x4), some (.int x5), some (.int x6)] [] M := by
  rw [ae_L_does_21]
  rfl
theorem ld_sw2 {x1 x4 x5 x6 : Int32} {M : am_M} : am_val iL_does 21 [some (.ref (am_c 0 44)), some (.int x1), some (.int (nI 2)), some (.ref (am_c 0 12)), some (.int x4), some (.int x5), none] [.int x6] M = am_val iL_does 152 [some (.ref (am_c 0 44)), some (.int x1), some (.int (nI 2)), some (.ref (am_c 0 12)), some (.int x4), some (.int x5), some (.int x6)] [] M := by
  rw [ae_L_does_21]
  rfl
theorem ld_sw3 {x1 x4 x5 x6 : Int32} {M : am_M} : am_val iL_does 21 [some (.ref (am_c 0 44)), some (.int x1), some (.int (nI 3)), some (.ref (am_c 0 12)), some (.int x4), some (.int x5), none] [.int x6] M = am_val iL_does 152 [some (.ref (am_c 0 44)), some (.int x1), some (.int (nI 3)), some (.ref (am_c 0 12)), some (.int x4), some (.int x5), some (.int x6)] [] M := by
  rw [ae_L_does_21]
  rfl
theorem ld_sw4 {x1 x4 x5 x6 : Int32} {M : am_M} : am_val iL_does 21 [some (.ref (am_c 0 44)), some (.int x1), some (.int (nI 4)), some (.ref (am_c 0 12)), some (.int x4), some (.int x5), none] [.int x6] M = am_val iL_does 164 [some (.ref (am_c 0 44)), some (.int x1), some (.int (nI 4)), some (.ref (am_c 0 12)), some (.int x4), some (.int x5), some (.int x6)] [] M := by
  rw [ae_L_does_21]
  rfl
theorem ld_sw5 {x1 x4 x5 x6 : Int32} {M : am_M} : am_val iL_does 21 [some (.ref (am_c 0 44)), some (.int x1), some (.int (nI 5)), some (.ref (am_c 0 12)), some (.int x4), some (.int x5), none] [.int x6] M = am_val iL_does 164 [some (.ref (am_c 0 44)), some (.int x1), some (.int (nI 5)), some (.ref (am_c 0 12)), some (.int x4), some (.int x5), some (.int x6)] [] M := by
  rw [ae_L_does_21]
  rfl
theorem ld_sw6 {x1 x4 x5 x6 : Int32} {M : am_M} : am_val iL_does 21 [some (.ref (am_c 0 44)), some (.int x1), some (.int (nI 6)), some (.ref (am_c 0 12)), some (.int x4), some (.int x5), none] [.int x6] M = am_val iL_does 175 [some (.ref (am_c 0 44)), some (.int x1), some (.int (nI 6)), some (.ref (am_c 0 12)), some (.int x4), some (.int x5), some (.int x6)] [] M := by
  rw [ae_L_does_21]
  rfl
theorem ld_sw7 {x1 x4 x5 x6 : Int32} {M : am_M} : am_val iL_does 21 [some (.ref (am_c 0 44)), some (.int x1), some (.int (nI 7)), some (.ref (am_c 0 12)), some (.int x4), some (.int x5), none] [.int x6] M = am_val iL_does 175 [some (.ref (am_c 0 44)), some (.int x1), some (.int (nI 7)), some (.ref (am_c 0 12)), some (.int x4), some (.int x5), some (.int x6)] [] M := by
  rw [ae_L_does_21]
  rfl
theorem ld_sw8 {x1 x4 x5 x6 : Int32} {M : am_M} : am_val iL_does 21 [some (.ref (am_c 0 44)), some (.int x1), some (.int (nI 8)), some (.ref (am_c 0 12)), some (.int x4), some (.int x5), none] [.int x6] M = am_val iL_does 186 [some (.ref (am_c 0 44)), some (.int x1), some (.int (nI 8)), some (.ref (am_c 0 12)), some (.int x4), some (.int x5), some (.int x6)] [] M := by
  rw [ae_L_does_21]
  rfl
theorem ld_sw9 {x1 x4 x5 x6 : Int32} {M : am_M} : am_val iL_does 21 [some (.ref (am_c 0 44)), some (.int x1), some (.int (nI 9)), some (.ref (am_c 0 12)), some (.int x4), some (.int x5), none] [.int x6] M = am_val iL_does 198 [some (.ref (am_c 0 44)), some (.int x1), some (.int (nI 9)), some (.ref (am_c 0 12)), some (.int x4), some (.int x5), some (.int x6)] [] M := by
  rw [ae_L_does_21]
  rfl
theorem ld_sw10 {x1 x4 x5 x6 : Int32} {M : am_M} : am_val iL_does 21 [some (.ref (am_c 0 44)), some (.int x1), some (.int (nI 10)), some (.ref (am_c 0 12)), some (.int x4), some (.int x5), none] [.int x6] M = am_val iL_does 198 [some (.ref (am_c 0 44)), some (.int x1), some (.int (nI 10)), some (.ref (am_c 0 12)), some (.int x4), some (.int x5), some (.int x6)] [] M := by
  rw [ae_L_does_21]
  rfl
theorem ld_sw11 {x1 x4 x5 x6 : Int32} {M : am_M} : am_val iL_does 21 [some (.ref (am_c 0 44)), some (.int x1), some (.int (nI 11)), some (.ref (am_c 0 12)), some (.int x4), some (.int x5), none] [.int x6] M = am_val iL_does 198 [some (.ref (am_c 0 44)), some (.int x1), some (.int (nI 11)), some (.ref (am_c 0 12)), some (.int x4), some (.int x5), some (.int x6)] [] M := by
  rw [ae_L_does_21]
  rfl
theorem ld_sw12 {x1 x4 x5 x6 : Int32} {M : am_M} : am_val iL_does 21 [some (.ref (am_c 0 44)), some (.int x1), some (.int (nI 12)), some (.ref (am_c 0 12)), some (.int x4), some (.int x5), none] [.int x6] M = am_val iL_does 198 [some (.ref (am_c 0 44)), some (.int x1), some (.int (nI 12)), some (.ref (am_c 0 12)), some (.int x4), some (.int x5), some (.int x6)] [] M := by
  rw [ae_L_does_21]
  rfl
theorem ld_sw13 {x1 x4 x5 x6 : Int32} {M : am_M} : am_val iL_does 21 [some (.ref (am_c 0 44)), some (.int x1), some (.int (nI 13)), some (.ref (am_c 0 12)), some (.int x4), some (.int x5), none] [.int x6] M = am_val iL_does 198 [some (.ref (am_c 0 44)), some (.int x1), some (.int (nI 13)), some (.ref (am_c 0 12)), some (.int x4), some (.int x5), some (.int x6)] [] M := by
  rw [ae_L_does_21]
  rfl
theorem ld_sw14 {x1 x4 x5 x6 : Int32} {M : am_M} : am_val iL_does 21 [some (.ref (am_c 0 44)), some (.int x1), some (.int (nI 14)), some (.ref (am_c 0 12)), some (.int x4), some (.int x5), none] [.int x6] M = am_val iL_does 198 [some (.ref (am_c 0 44)), some (.int x1), some (.int (nI 14)), some (.ref (am_c 0 12)), some (.int x4), some (.int x5), some (.int x6)] [] M := by
  rw [ae_L_does_21]
  rfl
theorem ld_sw15 {x1 x4 x5 x6 : Int32} {M : am_M} : am_val iL_does 21 [some (.ref (am_c 0 44)), some (.int x1), some (.int (nI 15)), some (.ref (am_c 0 12)), some (.int x4), some (.int x5), none] [.int x6] M = am_val iL_does 198 [some (.ref (am_c 0 44)), some (.int x1), some (.int (nI 15)), some (.ref (am_c 0 12)), some (.int x4), some (.int x5), some (.int x6)] [] M := by
  rw [ae_L_does_21]
  rfl
theorem ld_sw16 {x1 x4 x5 x6 : Int32} {M : am_M} : am_val iL_does 21 [some (.ref (am_c 0 44)), some (.int x1), some (.int (nI 16)), some (.ref (am_c 0 12)), some (.int x4), some (.int x5), none] [.int x6] M = am_val iL_does 203 [some (.ref (am_c 0 44)), some (.int x1), some (.int (nI 16)), some (.ref (am_c 0 12)), some (.int x4), some (.int x5), some (.int x6)] [] M := by
  rw [ae_L_does_21]
  rfl
theorem ld_sw17 {x1 x4 x5 x6 : Int32} {M : am_M} : am_val iL_does 21 [some (.ref (am_c 0 44)), some (.int x1), some (.int (nI 17)), some (.ref (am_c 0 12)), some (.int x4), some (.int x5), none] [.int x6] M = am_val iL_does 203 [some (.ref (am_c 0 44)), some (.int x1), some (.int (nI 17)), some (.ref (am_c 0 12)), some (.int x4), some (.int x5), some (.int x6)] [] M := by
  rw [ae_L_does_21]
  rfl
theorem ld_sw18 {x1 x4 x5 x6 : Int32} {M : am_M} : am_val iL_does 21 [some (.ref (am_c 0 44)), some (.int x1), some (.int (nI 18)), some (.ref (am_c 0 12)), some (.int x4), some (.int x5), none] [.int x6] M = am_val iL_does 241 [some (.ref (am_c 0 44)), some (.int x1), some (.int (nI 18)), some (.ref (am_c 0 12)), some (.int x4), some (.int x5), some (.int x6)] [] M := by
  rw [ae_L_does_21]
  rfl
theorem ld_sw19 {x1 x4 x5 x6 : Int32} {M : am_M} : am_val iL_does 21 [some (.ref (am_c 0 44)), some (.int x1), some (.int (nI 19)), some (.ref (am_c 0 12)), some (.int x4), some (.int x5), none] [.int x6] M = am_val iL_does 241 [some (.ref (am_c 0 44)), some (.int x1), some (.int (nI 19)), some (.ref (am_c 0 12)), some (.int x4), some (.int x5), some (.int x6)] [] M := by
  rw [ae_L_does_21]
  rfl
theorem ld_sw20 {x1 x4 x5 x6 : Int32} {M : am_M} : am_val iL_does 21 [some (.ref (am_c 0 44)), some (.int x1), some (.int (nI 20)), some (.ref (am_c 0 12)), some (.int x4), some (.int x5), none] [.int x6] M = am_val iL_does 241 [some (.ref (am_c 0 44)), some (.int x1), some (.int (nI 20)), some (.ref (am_c 0 12)), some (.int x4), some (.int x5), some (.int x6)] [] M := by
  rw [ae_L_does_21]
  rfl
theorem ld_sw21 {x1 x4 x5 x6 : Int32} {M : am_M} : am_val iL_does 21 [some (.ref (am_c 0 44)), some (.int x1), some (.int (nI 21)), some (.ref (am_c 0 12)), some (.int x4), some (.int x5), none] [.int x6] M = am_val iL_does 241 [some (.ref (am_c 0 44)), some (.int x1), some (.int (nI 21)), some (.ref (am_c 0 12)), some (.int x4), some (.int x5), some (.int x6)] [] M := by
  rw [ae_L_does_21]
  rfl
theorem ld_sw22 {x1 x4 x5 x6 : Int32} {M : am_M} : am_val iL_does 21 [some (.ref (am_c 0 44)), some (.int x1), some (.int (nI 22)), some (.ref (am_c 0 12)), some (.int x4), some (.int x5), none] [.int x6] M = am_val iL_does 241 [some (.ref (am_c 0 44)), some (.int x1), some (.int (nI 22)), some (.ref (am_c 0 12)), some (.int x4), some (.int x5), some (.int x6)] [] M := by
  rw [ae_L_does_21]
  rfl
theorem ld_sw23 {x1 x4 x5 x6 : Int32} {M : am_M} : am_val iL_does 21 [some (.ref (am_c 0 44)), some (.int x1), some (.int (nI 23)), some (.ref (am_c 0 12)), some (.int x4), some (.int x5), none] [.int x6] M = am_val iL_does 241 [some (.ref (am_c 0 44)), some (.int x1), some (.int (nI 23)), some (.ref (am_c 0 12)), some (.int x4), some (.int x5), some (.int x6)] [] M := by
  rw [ae_L_does_21]
  rfl
theorem ld_sw24 {x1 x4 x5 x6 : Int32} {M : am_M} : am_val iL_does 21 [some (.ref (am_c 0 44)), some (.int x1), some (.int (nI 24)), some (.ref (am_c 0 12)), some (.int x4), some (.int x5), none] [.int x6] M = am_val iL_does 241 [some (.ref (am_c 0 44)), some (.int x1), some (.int (nI 24)), some (.ref (am_c 0 12)), some (.int x4), some (.int x5), some (.int x6)] [] M := by
  rw [ae_L_does_21]
  rfl
theorem ld_sw25 {x1 x4 x5 x6 : Int32} {M : am_M} : am_val iL_does 21 [some (.ref (am_c 0 44)), some (.int x1), some (.int (nI 25)), some (.ref (am_c 0 12)), some (.int x4), some (.int x5), none] [.int x6] M = am_val iL_does 265 [some (.ref (am_c 0 44)), some (.int x1), some (.int (nI 25)), some (.ref (am_c 0 12)), some (.int x4), some (.int x5), some (.int x6)] [] M := by
  rw [ae_L_does_21]
  rfl
theorem ld_sw26 {x1 x4 x5 x6 : Int32} {M : am_M} : am_val iL_does 21 [some (.ref (am_c 0 44)), some (.int x1), some (.int (nI 26)), some (.ref (am_c 0 12)), some (.int x4), some (.int x5), none] [.int x6] M = am_val iL_does 265 [some (.ref (am_c 0 44)), some (.int x1), some (.int (nI 26)), some (.ref (am_c 0 12)), some (.int x4), some (.int x5), some (.int x6)] [] M := by
  rw [ae_L_does_21]
  rfl
theorem ld_sw27 {x1 x4 x5 x6 : Int32} {M : am_M} : am_val iL_does 21 [some (.ref (am_c 0 44)), some (.int x1), some (.int (nI 27)), some (.ref (am_c 0 12)), some (.int x4), some (.int x5), none] [.int x6] M = am_val iL_does 265 [some (.ref (am_c 0 44)), some (.int x1), some (.int (nI 27)), some (.ref (am_c 0 12)), some (.int x4), some (.int x5), some (.int x6)] [] M := by
  rw [ae_L_does_21]
  rfl
theorem ld_sw28 {x1 x4 x5 x6 : Int32} {M : am_M} : am_val iL_does 21 [some (.ref (am_c 0 44)), some (.int x1), some (.int (nI 28)), some (.ref (am_c 0 12)), some (.int x4), some (.int x5), none] [.int x6] M = am_val iL_does 272 [some (.ref (am_c 0 44)), some (.int x1), some (.int (nI 28)), some (.ref (am_c 0 12)), some (.int x4), some (.int x5), some (.int x6)] [] M := by
  rw [ae_L_does_21]
  rfl
theorem ld_sw29 {x1 x4 x5 x6 : Int32} {M : am_M} : am_val iL_does 21 [some (.ref (am_c 0 44)), some (.int x1), some (.int (nI 29)), some (.ref (am_c 0 12)), some (.int x4), some (.int x5), none] [.int x6] M = am_val iL_does 272 [some (.ref (am_c 0 44)), some (.int x1), some (.int (nI 29)), some (.ref (am_c 0 12)), some (.int x4), some (.int x5), some (.int x6)] [] M := by
  rw [ae_L_does_21]
  rfl
theorem ld_sw30 {x1 x4 x5 x6 : Int32} {M : am_M} : am_val iL_does 21 [some (.ref (am_c 0 44)), some (.int x1), some (.int (nI 30)), some (.ref (am_c 0 12)), some (.int x4), some (.int x5), none] [.int x6] M = am_val iL_does 272 [some (.ref (am_c 0 44)), some (.int x1), some (.int (nI 30)), some (.ref (am_c 0 12)), some (.int x4), some (.int x5), some (.int x6)] [] M := by
  rw [ae_L_does_21]
  rfl
theorem ld_152 {x1 x2 x4 x5 x6 : Int32} {M : am_M} (hZ : pZ Lx xs S bd σ L H P M) (hi : iw bd σ) (hbd : bd + 1240 < 1000000000) : wq (am_val iL_does 152 [some (.ref (am_c 0 44)), some (.int x1), some (.int x2), some (.ref (am_c 0 12)), some (.int x4), some (.int x5), some (.int x6)] [] M) 1 (qD Lx xs S bd σ L H P) := by
  rw [ae_L_does_152]
  exact qD_pass (qD_lo (c := 0) hZ hi (by omega) (by decide) (lo_wall hZ (by omega))) (by decide) fun r M1 => by
    simp only [am_tl_s]
    exact ae_L_does_163
theorem ld_164 {x1 x2 x4 x5 x6 : Int32} {M : am_M} (hZ : pZ Lx xs S bd σ L H P M) (hi : iw bd σ) (hbd : bd + 1240 < 1000000000) : wq (am_val iL_does 164 [some (.ref (am_c 0 44)), some (.int x1), some (.int x2), some (.ref (am_c 0 12)), some (.int x4), some (.int x5), some (.int x6)] [] M) 1 (qD Lx xs S bd σ L H P) := by
  rw [ae_L_does_164]
  exact qD_pass (qD_lo (c := 2) hZ hi (by omega) (by decide) (lo_player hZ (by omega))) (by decide) fun r M1 => by
    simp only [am_tl_s]
    exact ae_L_does_174
theorem ld_175 {x1 x2 x4 x5 x6 : Int32} {M : am_M} (hZ : pZ Lx xs S bd σ L H P M) (hi : iw bd σ) (hbd : bd + 1240 < 1000000000) : wq (am_val iL_does 175 [some (.ref (am_c 0 44)), some (.int x1), some (.int x2), some (.ref (am_c 0 12)), some (.int x4), some (.int x5), some (.int x6)] [] M) 1 (qD Lx xs S bd σ L H P) := by
  rw [ae_L_does_175]
  exact qD_pass (qD_lo (c := 1) hZ hi (by omega) (by decide) (lo_own hZ (by omega))) (by decide) fun r M1 => by
    simp only [am_tl_s]
    exact ae_L_does_185
theorem ld_186 {x1 x2 x4 x5 x6 : Int32} {M : am_M} (hZ : pZ Lx xs S bd σ L H P M) (hi : iw bd σ) (hbd : bd + 1240 < 1000000000) : wq (am_val iL_does 186 [some (.ref (am_c 0 44)), some (.int x1), some (.int x2), some (.ref (am_c 0 12)), some (.int x4), some (.int x5), some (.int x6)] [] M) 1 (qD Lx xs S bd σ L H P) := by
  rw [ae_L_does_186]
  exact qD_pass (qD_lo (c := 7) hZ hi (by omega) (by decide) (lo_wind hZ (by omega))) (by decide) fun r M1 => by
    simp only [am_tl_s]
    exact ae_L_does_197
theorem ld_265 {x1 x2 x4 x5 x6 : Int32} {M : am_M} (hZ : pZ Lx xs S bd σ L H P M) (hi : iw bd σ) (hbd : bd + 1240 < 1000000000) : wq (am_val iL_does 265 [some (.ref (am_c 0 44)), some (.int x1), some (.int x2), some (.ref (am_c 0 12)), some (.int x4), some (.int x5), some (.int x6)] [] M) 1 (qD Lx xs S bd σ L H P) := by
  rw [ae_L_does_265]
  exact qD_pass (qD_lo (c := 6) hZ hi (by omega) (by decide) (lo_catchEcho hZ (by omega))) (by decide) fun r M1 => by
    simp only [am_tl_s]
    exact ae_L_does_271
theorem ld_203 {x1 x2 x4 x5 x6 : Int32} {M : am_M} (hZ : pZ Lx xs S bd σ L H P M) (hi : iw bd σ) (hbd : bd + 1240 < 1000000000) : wq (am_val iL_does 203 [some (.ref (am_c 0 44)), some (.int x1), some (.int x2), some (.ref (am_c 0 12)), some (.int x4), some (.int x5), some (.int x6)] [] M) 2 (qD Lx xs S bd σ L H P) := by
  have fin : ∀ {b : Int32} {M : am_M}, pZ Lx xs S bd σ L H P M → wq (am_bnx (am_val iL_move 0 [some (.ref (am_c 0 12)), some (.int x4), some (.int b), none] [] M) (fun v M1 => am_val iL_does 240 [some (.ref (am_c 0 44)), some (.int x1), some (.int x2), some (.ref (am_c 0 12)), some (.int x4), some (.int x5), some (.int x6)] (am_tl v []) M1) am_rx) 1 (qD Lx xs S bd σ L H P) := fun hZ => qD_pass (qD_lo (c := 3) hZ hi (by omega) (by decide) (lo_move hZ (by omega))) (by decide) fun r M1 => by
    simp only [am_tl_s]
    exact ae_L_does_240
  rw [ae_L_does_203]
  by_cases h : ¬ x5 - x5 / 3 * 3 = 0
  · rw [if_pos h, ae_L_does_218]
    refine wq_i (lq_playerOf hZ) (by decide) fun M1 hZ1 => ?_
    simp only [am_tl_s]
    rw [ae_L_does_226]
    exact fin hZ1
  · rw [if_neg h, ae_L_does_213]
    exact wq_k (fin hZ) (by decide)
theorem ld_241 {x1 x2 x4 x5 x6 : Int32} {M : am_M} (hZ : pZ Lx xs S bd σ L H P M) (hi : iw bd σ) (hbd : bd + 1240 < 1000000000) : wq (am_val iL_does 241 [some (.ref (am_c 0 44)), some (.int x1), some (.int x2), some (.ref (am_c 0 12)), some (.int x4), some (.int x5), some (.int x6)] [] M) 1 (qD Lx xs S bd σ L H P) := by
  rw [ae_L_does_241]
  by_cases h : x5 - x5 / 3 * 3 ≤ 0
  · rw [if_pos h, ae_L_does_255]
    exact qD_pass (qD_lo (c := 4) hZ hi (by omega) (by decide) (lo_shout (Or.inl rfl) hZ (by omega))) (by decide) fun r M1 => by
      simp only [am_tl_s]
      exact ae_L_does_264
  · rw [if_neg h, ae_L_does_251]
    exact qD_pass (qD_lo (c := 4) hZ hi (by omega) (by decide) (lo_shout (Or.inr rfl) hZ (by omega))) (by decide) fun r M1 => by
      simp only [am_tl_s]
      exact ae_L_does_264
/-- a beat -/
def qB (Lx : Nat) (xs : Nat → Int32) (S : Nat → Int64) (bd : Nat) (σ : Nat → Int32) (L : List (Nat → Int32)) (H : List av_K) (P : Option av_K) (v : Option Value) (M : am_M) : Prop :=
  (L.length = 0 ∧ v = some (.int (-76)) ∧ pZ Lx xs S bd σ L H P M) ∨ (¬ L.length = 0 ∧ v = some (.int (nI (L.length - (av_kf σ L L.length).length))) ∧ pZ Lx xs S (bd + 1240) (av_o5 σ L) (av_kf σ L L.length) (av_pu H (σ, L)) P M)
theorem ld_198 {x1 x2 x4 x5 x6 : Int32} {M : am_M} (hZ : pZ Lx xs S bd σ L H P M) (hbd : bd + 1240 < 1000000000) : wq (am_val iL_does 198 [some (.ref (am_c 0 44)), some (.int x1), some (.int x2), some (.ref (am_c 0 12)), some (.int x4), some (.int x5), some (.int x6)] [] M) 1 (qB Lx xs S bd σ L H P) := by
  have h := lo_beat hZ (by omega)
  rw [ae_L_does_198]
  by_cases h0 : L.length = 0
  · have hr : av_ref σ L 5 0 0 = some (11, 0) := if_pos h0
    rw [hr] at h
    refine wq_i h (by decide) fun M1 hZ1 => ?_
    simp only [am_tl_s]
    rw [ae_L_does_202]
    exact wq_e (Or.inl ⟨h0, rfl, hZ1⟩)
  · have hr : av_ref σ L 5 0 0 = none := if_neg h0
    rw [hr] at h
    refine wq_i h (by decide) fun M1 hZ1 => ?_
    simp only [am_tl_s]
    rw [ae_L_does_202]
    exact wq_e (Or.inr ⟨h0, rfl, pZ_m hZ1 (by omega)⟩)
theorem ld_head {j kk aa : Nat} {x1 x4 : Int32} {K : Nat} {Q : Option Value → am_M → Prop} {M : am_M} (hj : j < 1000) (h1 : x1 = nI j) (hLx : Lx ≤ 260) (hZ : pZ Lx xs S bd σ L H P M)
    (h : ∀ vv pp, vv < 1000 → pp < 17 → wq (am_val iL_does 21 [some (.ref (am_c 0 44)), some (.int x1), some (.int (nI kk)), some (.ref (am_c 0 12)), some (.int x4), some (.int (nI vv)), none] [.int (nI pp)] M) K Q) :
    wq (am_val iL_does 0 [some (.ref (am_c 0 44)), some (.int x1), some (.int (nI kk)), some (.ref (am_c 0 12)), some (.int x4), none, none] [] M) K Q := by
  obtain ⟨v, hv, ev⟩ := lq_pick (Lx := Lx) (xs := xs) (x := x1 + 1) (y := 1000) (j := j + 1) (n := 1000) (M := M) (by omega) (by rw [h1, nI_1]) rfl (by decide) (by decide) hLx (pZ_s hZ)
  obtain ⟨p, hp, ep⟩ := lq_pick (Lx := Lx) (xs := xs) (x := x1 + 4) (y := 17) (j := j + 4) (n := 17) (M := M) (by omega) (by rw [h1]; exact nI_add j 4) rfl (by decide) (by decide) hLx (pZ_s hZ)
  rw [ae_L_does_0, ev, am_bnx_v]
  simp only [am_tl_s]
  rw [ae_L_does_10, ep, am_bnx_v]
  simp only [am_tl_s]
  exact h v p hv hp
theorem lq_does {j kk aa : Nat} {x1 x4 : Int32} {M : am_M} (hj : j < 1000) (h1 : x1 = nI j) (h4 : x4 = nI aa) (ha : aa < 10) (hk : kk < 31) (hkb : kk < 9 ∨ 15 < kk) (hLx : Lx ≤ 260) (hZ : pZ Lx xs S bd σ L H P M) (hi : iw bd σ) (hbd : bd + 1240 < 1000000000) : wq (am_val iL_does 0 [some (.ref (am_c 0 44)), some (.int x1), some (.int (nI kk)), some (.ref (am_c 0 12)), some (.int x4), none, none] [] M) 12 (qD Lx xs S bd σ L H P) := by
  refine ld_head (aa := aa) hj h1 hLx hZ fun vv pp hv hp => ?_
  rcases (show kk = 0 ∨ kk = 1 ∨ kk = 2 ∨ kk = 3 ∨ kk = 4 ∨ kk = 5 ∨ kk = 6 ∨ kk = 7 ∨ kk = 8 ∨ kk = 16 ∨ kk = 17 ∨ kk = 18 ∨ kk = 19 ∨ kk = 20 ∨ kk = 21 ∨ kk = 22 ∨ kk = 23 ∨ kk = 24 ∨ kk = 25 ∨ kk = 26 ∨ kk = 27 ∨ kk = 28 ∨ kk = 29 ∨ kk = 30 by omega) with rfl | rfl | rfl | rfl | rfl | rfl | rfl | rfl | rfl | rfl | rfl | rfl | rfl | rfl | rfl | rfl | rfl | rfl | rfl | rfl | rfl | rfl | rfl | rfl
  · rw [ld_sw0]
    exact wq_k (ld_152 hZ hi hbd) (by decide)
  · rw [ld_sw1]
    exact wq_k (ld_152 hZ hi hbd) (by decide)
  · rw [ld_sw2]
    exact wq_k (ld_152 hZ hi hbd) (by decide)
  · rw [ld_sw3]
    exact wq_k (ld_152 hZ hi hbd) (by decide)
  · rw [ld_sw4]
    exact wq_k (ld_164 hZ hi hbd) (by decide)
  · rw [ld_sw5]
    exact wq_k (ld_164 hZ hi hbd) (by decide)
  · rw [ld_sw6]
    exact wq_k (ld_175 hZ hi hbd) (by decide)
  · rw [ld_sw7]
    exact wq_k (ld_175 hZ hi hbd) (by decide)
  · rw [ld_sw8]
    exact wq_k (ld_186 hZ hi hbd) (by decide)
  · rw [ld_sw16]
    exact wq_k (ld_203 hZ hi hbd) (by decide)
  · rw [ld_sw17]
    exact wq_k (ld_203 hZ hi hbd) (by decide)
  · rw [ld_sw18]
    exact wq_k (ld_241 hZ hi hbd) (by decide)
  · rw [ld_sw19]
    exact wq_k (ld_241 hZ hi hbd) (by decide)
  · rw [ld_sw20]
    exact wq_k (ld_241 hZ hi hbd) (by decide)
  · rw [ld_sw21]
    exact wq_k (ld_241 hZ hi hbd) (by decide)
  · rw [ld_sw22]
    exact wq_k (ld_241 hZ hi hbd) (by decide)
  · rw [ld_sw23]
    exact wq_k (ld_241 hZ hi hbd) (by decide)
  · rw [ld_sw24]
    exact wq_k (ld_241 hZ hi hbd) (by decide)
  · rw [ld_sw25]
    exact wq_k (ld_265 hZ hi hbd) (by decide)
  · rw [ld_sw26]
    exact wq_k (ld_265 hZ hi hbd) (by decide)
  · rw [ld_sw27]
    exact wq_k (ld_265 hZ hi hbd) (by decide)
  · rw [ld_sw28]
    exact qD_qd hZ.2.1.1 hi hbd (ld_272 rfl hv h4 ha rfl hp hZ hbd)
  · rw [ld_sw29]
    exact qD_qd hZ.2.1.1 hi hbd (ld_272 rfl hv h4 ha rfl hp hZ hbd)
  · rw [ld_sw30]
    exact qD_qd hZ.2.1.1 hi hbd (ld_272 rfl hv h4 ha rfl hp hZ hbd)
theorem lq_does_b {j kk aa : Nat} {x1 x4 : Int32} {M : am_M} (hj : j < 1000) (h1 : x1 = nI j) (hk : 9 ≤ kk) (hk2 : kk ≤ 15) (hLx : Lx ≤ 260) (hZ : pZ Lx xs S bd σ L H P M) (hbd : bd + 1240 < 1000000000) : wq (am_val iL_does 0 [some (.ref (am_c 0 44)), some (.int x1), some (.int (nI kk)), some (.ref (am_c 0 12)), some (.int x4), none, none] [] M) 12 (qB Lx xs S bd σ L H P) := by
  refine ld_head (aa := aa) hj h1 hLx hZ fun vv pp hv hp => ?_
  rcases (show kk = 9 ∨ kk = 10 ∨ kk = 11 ∨ kk = 12 ∨ kk = 13 ∨ kk = 14 ∨ kk = 15 by omega) with rfl | rfl | rfl | rfl | rfl | rfl | rfl
  · rw [ld_sw9]
    exact wq_k (ld_198 hZ hbd) (by decide)
  · rw [ld_sw10]
    exact wq_k (ld_198 hZ hbd) (by decide)
  · rw [ld_sw11]
    exact wq_k (ld_198 hZ hbd) (by decide)
  · rw [ld_sw12]
    exact wq_k (ld_198 hZ hbd) (by decide)
  · rw [ld_sw13]
    exact wq_k (ld_198 hZ hbd) (by decide)
  · rw [ld_sw14]
    exact wq_k (ld_198 hZ hbd) (by decide)
  · rw [ld_sw15]
    exact wq_k (ld_198 hZ hbd) (by decide)
end
