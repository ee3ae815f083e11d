/-! the second implementation: moves, purchases -/
theorem av_far : ∀ a, a < 16 → ∀ p, p < 16 → (nI p ≤ nI a → nI a - nI p = av_abs (nI p - nI a)) ∧ (¬ nI p ≤ nI a → nI p - nI a = av_abs (nI p - nI a)) := by decide +kernel
theorem av_h0 : ∀ h, h < 10 → (decide ((0 : Int32) < nI h) = false ↔ nI h ≤ 0) ∧ (nI h ≤ 0 ↔ nI h = 0) := by decide +kernel
theorem mc_moves {D bd : Nat} {σ : Nat → Int32} {L : List (Nat → Int32)} {x p : Int32} {M : am_M} (hM : av_MD D M σ L) (hok : av_ok bd σ L) : ∃ M' code, am_val iX13_moves 0 [some (.ref (am_c D 13)), some (.int x), some (.int p), none, none] [] M = some (.inl (some (.int code)), M', 0, 0) ∧ av_MO D M M' code (av_q3 σ x p) (av_sa L p) (av_o3 σ (av_ix x) p) L := by
  obtain ⟨hm, hr⟩ := hM
  obtain ⟨hw, _, _, hpl, _, hn1, hn2, hl8⟩ := hok
  have s0 := (hr.1 0 (by decide) (by decide))
  have hp := mc_isPlayer (x := x) (n := av_np σ) hm (s0.trans hn2) (by omega)
  cases a : am_lt x (av_np σ) with
  | false =>
    refine ⟨_, _, ?_, av_MO_r (by unfold av_q3; rw [if_pos a])⟩
    simp only [ae_X13_moves_0, ae_X13_moves_5, ae_X13_moves_8, ae_X13_moves_14, ae_X13_moves_19, ae_X13_moves_20, ae_X13_moves_24, ae_X13_moves_27, ae_X13_moves_33, ae_X13_moves_34, ae_X13_moves_40, ae_X13_moves_46, ae_X13_moves_52, ae_X13_moves_62, ae_X13_moves_69, ae_X13_moves_70, ae_X13_moves_76, ae_X13_moves_84, ae_X13_moves_85, ae_X13_moves_90, ae_X13_moves_93, ae_X13_moves_100, ae_X13_moves_103, ae_X13_moves_104, ae_X13_moves_108, ae_X13_moves_124, ae_X13_moves_127, am_bnx_v, am_bnx_e, am_tl_s, am_tl_n, am_rv_s, am_add_rx, hp, mc_refused, a, am_bi_f, not_true_eq_false, not_false_eq_true, if_true, if_false, am_1n0, or_true, true_or, eq_self, Bool.true_eq_false, Bool.false_eq_true, cond_true, cond_false, hm.1, s0]
  | true =>
    obtain ⟨k, hk, rfl⟩ := am_lt_n (by omega) a
    have hix : av_ix (nI k) = k := av_ix_n (by omega)
    have htn := am_tn (show k < 2147483648 by omega)
    have e1 := mc_p1 (k := k) hm (by omega)
    rw [hr.1 _ (by omega) (by omega)] at e1
    cases b : am_pl p with
    | false =>
      refine ⟨_, _, ?_, av_MO_r (by unfold av_q3; rw [if_neg (by rw [a]; decide), if_pos b])⟩
      simp only [ae_X13_moves_0, ae_X13_moves_5, ae_X13_moves_8, ae_X13_moves_14, ae_X13_moves_19, ae_X13_moves_20, ae_X13_moves_24, ae_X13_moves_27, ae_X13_moves_33, ae_X13_moves_34, ae_X13_moves_40, ae_X13_moves_46, ae_X13_moves_52, ae_X13_moves_62, ae_X13_moves_69, ae_X13_moves_70, ae_X13_moves_76, ae_X13_moves_84, ae_X13_moves_85, ae_X13_moves_90, ae_X13_moves_93, ae_X13_moves_100, ae_X13_moves_103, ae_X13_moves_104, ae_X13_moves_108, ae_X13_moves_124, ae_X13_moves_127, am_bnx_v, am_bnx_e, am_tl_s, am_tl_n, am_rv_s, am_add_rx, hp, mc_isPlace, mc_refused, a, b, am_bi_f, am_bi_t, not_true_eq_false, not_false_eq_true, if_true, if_false, am_1n0, or_true, true_or, eq_self, Bool.true_eq_false, Bool.false_eq_true, cond_true, cond_false]
    | true =>
      have hq : av_q3 σ (nI k) p = if av_abs (p - σ (51 + 5 * k)) = 0 then some (6, p) else if av_abs (p - σ (51 + 5 * k)) ≤ 3 then (if decide (0 < av_hf σ p) = false then none else some (4, av_hf σ p)) else some (8, av_abs (p - σ (51 + 5 * k))) := by
        unfold av_q3
        rw [if_neg (by rw [a]; decide), if_neg (by rw [b]; decide), htn]
      obtain ⟨q, hq16, rfl⟩ := am_pl_n b
      obtain ⟨t, ht16, hat⟩ := (hpl k hk).2.1
      rw [hat] at e1 hq
      have e2 := mc_height hm hq16
      rw [hr.1 _ (by omega) (by omega)] at e2
      rw [av_hf_n hq16] at hq
      obtain ⟨h, hh9, hhe, -⟩ := hw q hq16
      rw [hhe] at e2 hq
      obtain ⟨z1, z2⟩ := av_h0 h (by omega)
      obtain ⟨far1, far2⟩ := av_far t ht16 q hq16
      obtain ⟨d, hd⟩ : ∃ d, d = av_abs (nI q - nI t) := ⟨_, rfl⟩
      rw [← hd] at hq far1 far2
      by_cases c : d = 0
      · refine ⟨_, _, ?_, av_MO_r (by rw [hq, if_pos c])⟩
        by_cases hle : nI q ≤ nI t
        · simp only [ae_X13_moves_0, ae_X13_moves_5, ae_X13_moves_8, ae_X13_moves_14, ae_X13_moves_19, ae_X13_moves_20, ae_X13_moves_24, ae_X13_moves_27, ae_X13_moves_33, ae_X13_moves_34, ae_X13_moves_40, ae_X13_moves_46, ae_X13_moves_52, ae_X13_moves_62, ae_X13_moves_69, ae_X13_moves_70, ae_X13_moves_76, ae_X13_moves_84, ae_X13_moves_85, ae_X13_moves_90, ae_X13_moves_93, ae_X13_moves_100, ae_X13_moves_103, ae_X13_moves_104, ae_X13_moves_108, ae_X13_moves_124, ae_X13_moves_127, am_bnx_v, am_bnx_e, am_tl_s, am_tl_n, am_rv_s, am_add_rx, hp, mc_isPlace, mc_refused, a, b, am_bi_t, not_true_eq_false, not_false_eq_true, if_true, if_false, am_1n0, or_true, true_or, eq_self, Bool.true_eq_false, Bool.false_eq_true, cond_true, cond_false, e1, hle, far1 hle, c]
        · simp only [ae_X13_moves_0, ae_X13_moves_5, ae_X13_moves_8, ae_X13_moves_14, ae_X13_moves_19, ae_X13_moves_20, ae_X13_moves_24, ae_X13_moves_27, ae_X13_moves_33, ae_X13_moves_34, ae_X13_moves_40, ae_X13_moves_46, ae_X13_moves_52, ae_X13_moves_62, ae_X13_moves_69, ae_X13_moves_70, ae_X13_moves_76, ae_X13_moves_84, ae_X13_moves_85, ae_X13_moves_90, ae_X13_moves_93, ae_X13_moves_100, ae_X13_moves_103, ae_X13_moves_104, ae_X13_moves_108, ae_X13_moves_124, ae_X13_moves_127, am_bnx_v, am_bnx_e, am_tl_s, am_tl_n, am_rv_s, am_add_rx, hp, mc_isPlace, mc_refused, a, b, am_bi_t, not_true_eq_false, not_false_eq_true, if_true, if_false, am_1n0, or_true, true_or, eq_self, Bool.true_eq_false, Bool.false_eq_true, cond_true, cond_false, e1, hle, far2 hle, c]
      · by_cases c3 : d ≤ 3
        · by_cases ch : nI h ≤ 0
          · have hq' : av_q3 σ (nI k) (nI q) = none := by rw [hq, if_neg c, if_pos c3, if_pos (z1.mpr ch)]
            have x1 : nI (50 + 5 * k) + 1 = nI (51 + 5 * k) := by rw [nI_1]; congr 1; omega
            have i1 := am_in_n (show 51 + 5 * k < 120 by omega) (by decide)
            have t1 := am_tn (show 51 + 5 * k < 2147483648 by omega)
            have hr' : av_mr ((av_i M (am_c (D + 1) 18) (51 + 5 * k) (nI q)).1 (am_c (D + 1) 18)) (av_o3 σ k (nI q)) L := by rw [av_is]; exact av_mr_up hr (by omega) (by omega)
            have o0 : av_o3 σ k (nI q) 0 = σ 0 := av_up_n (by omega)
            have onp : av_np (av_o3 σ k (nI q)) = av_np σ := by unfold av_np; rw [o0]
            have e3 : am_val iX13_soundsAt 0 [some (.ref (am_c D 13)), some (.int (nI q)), none, none] [] (av_i M (am_c (D + 1) 18) (51 + 5 * k) (nI q)) = some (.inl (some (.int (av_sa L (nI q)))), av_i M (am_c (D + 1) 18) (51 + 5 * k) (nI q), 0, 0) := mc_soundsAt (t := nI q) hm hr' (by rw [onp]; exact hn1) (by rw [onp, o0]; exact hn2) hl8
            refine ⟨_, _, ?_, av_MO_d hq' (av_fm_s (a := 51 + 5 * k) (x := nI q)) (by rw [hix]; exact hr')⟩
            by_cases hle : nI q ≤ nI t
            · simp only [ae_X13_moves_0, ae_X13_moves_5, ae_X13_moves_8, ae_X13_moves_14, ae_X13_moves_19, ae_X13_moves_20, ae_X13_moves_24, ae_X13_moves_27, ae_X13_moves_33, ae_X13_moves_34, ae_X13_moves_40, ae_X13_moves_46, ae_X13_moves_52, ae_X13_moves_62, ae_X13_moves_69, ae_X13_moves_70, ae_X13_moves_76, ae_X13_moves_84, ae_X13_moves_85, ae_X13_moves_90, ae_X13_moves_93, ae_X13_moves_100, ae_X13_moves_103, ae_X13_moves_104, ae_X13_moves_108, ae_X13_moves_124, ae_X13_moves_127, am_bnx_v, am_bnx_e, am_tl_s, am_tl_n, am_rv_s, am_add_rx, hp, mc_isPlace, mc_done, a, b, am_bi_t, not_true_eq_false, not_false_eq_true, if_true, if_false, am_1n0, or_true, true_or, eq_self, Bool.true_eq_false, Bool.false_eq_true, cond_true, cond_false, e1, hle, far1 hle, c, c3, e2, ch, hm.1, av_x50, x1, i1, t1, e3]
            · simp only [ae_X13_moves_0, ae_X13_moves_5, ae_X13_moves_8, ae_X13_moves_14, ae_X13_moves_19, ae_X13_moves_20, ae_X13_moves_24, ae_X13_moves_27, ae_X13_moves_33, ae_X13_moves_34, ae_X13_moves_40, ae_X13_moves_46, ae_X13_moves_52, ae_X13_moves_62, ae_X13_moves_69, ae_X13_moves_70, ae_X13_moves_76, ae_X13_moves_84, ae_X13_moves_85, ae_X13_moves_90, ae_X13_moves_93, ae_X13_moves_100, ae_X13_moves_103, ae_X13_moves_104, ae_X13_moves_108, ae_X13_moves_124, ae_X13_moves_127, am_bnx_v, am_bnx_e, am_tl_s, am_tl_n, am_rv_s, am_add_rx, hp, mc_isPlace, mc_done, a, b, am_bi_t, not_true_eq_false, not_false_eq_true, if_true, if_false, am_1n0, or_true, true_or, eq_self, Bool.true_eq_false, Bool.false_eq_true, cond_true, cond_false, e1, hle, far2 hle, c, c3, e2, ch, hm.1, av_x50, x1, i1, t1, e3]
          · refine ⟨_, _, ?_, av_MO_r (by rw [hq, if_neg c, if_pos c3, if_neg (fun hc => ch (z1.mp hc))])⟩
            by_cases hle : nI q ≤ nI t
            · simp only [ae_X13_moves_0, ae_X13_moves_5, ae_X13_moves_8, ae_X13_moves_14, ae_X13_moves_19, ae_X13_moves_20, ae_X13_moves_24, ae_X13_moves_27, ae_X13_moves_33, ae_X13_moves_34, ae_X13_moves_40, ae_X13_moves_46, ae_X13_moves_52, ae_X13_moves_62, ae_X13_moves_69, ae_X13_moves_70, ae_X13_moves_76, ae_X13_moves_84, ae_X13_moves_85, ae_X13_moves_90, ae_X13_moves_93, ae_X13_moves_100, ae_X13_moves_103, ae_X13_moves_104, ae_X13_moves_108, ae_X13_moves_124, ae_X13_moves_127, am_bnx_v, am_bnx_e, am_tl_s, am_tl_n, am_rv_s, am_add_rx, hp, mc_isPlace, mc_refused, a, b, am_bi_t, not_true_eq_false, not_false_eq_true, if_true, if_false, am_1n0, or_true, true_or, eq_self, Bool.true_eq_false, Bool.false_eq_true, cond_true, cond_false, e1, hle, far1 hle, c, c3, e2, ch]
            · simp only [ae_X13_moves_0, ae_X13_moves_5, ae_X13_moves_8, ae_X13_moves_14, ae_X13_moves_19, ae_X13_moves_20, ae_X13_moves_24, ae_X13_moves_27, ae_X13_moves_33, ae_X13_moves_34, ae_X13_moves_40, ae_X13_moves_46, ae_X13_moves_52, ae_X13_moves_62, ae_X13_moves_69, ae_X13_moves_70, ae_X13_moves_76, ae_X13_moves_84, ae_X13_moves_85, ae_X13_moves_90, ae_X13_moves_93, ae_X13_moves_100, ae_X13_moves_103, ae_X13_moves_104, ae_X13_moves_108, ae_X13_moves_124, ae_X13_moves_127, am_bnx_v, am_bnx_e, am_tl_s, am_tl_n, am_rv_s, am_add_rx, hp, mc_isPlace, mc_refused, a, b, am_bi_t, not_true_eq_false, not_false_eq_true, if_true, if_false, am_1n0, or_true, true_or, eq_self, Bool.true_eq_false, Bool.false_eq_true, cond_true, cond_false, e1, hle, far2 hle, c, c3, e2, ch]
        · refine ⟨_, _, ?_, av_MO_r (by rw [hq, if_neg c, if_neg c3])⟩
          by_cases hle : nI q ≤ nI t
          · simp only [ae_X13_moves_0, ae_X13_moves_5, ae_X13_moves_8, ae_X13_moves_14, ae_X13_moves_19, ae_X13_moves_20, ae_X13_moves_24, ae_X13_moves_27, ae_X13_moves_33, ae_X13_moves_34, ae_X13_moves_40, ae_X13_moves_46, ae_X13_moves_52, ae_X13_moves_62, ae_X13_moves_69, ae_X13_moves_70, ae_X13_moves_76, ae_X13_moves_84, ae_X13_moves_85, ae_X13_moves_90, ae_X13_moves_93, ae_X13_moves_100, ae_X13_moves_103, ae_X13_moves_104, ae_X13_moves_108, ae_X13_moves_124, ae_X13_moves_127, am_bnx_v, am_bnx_e, am_tl_s, am_tl_n, am_rv_s, am_add_rx, hp, mc_isPlace, mc_refused, a, b, am_bi_t, not_true_eq_false, not_false_eq_true, if_true, if_false, am_1n0, or_true, true_or, eq_self, Bool.true_eq_false, Bool.false_eq_true, cond_true, cond_false, e1, hle, far1 hle, c, c3]
          · simp only [ae_X13_moves_0, ae_X13_moves_5, ae_X13_moves_8, ae_X13_moves_14, ae_X13_moves_19, ae_X13_moves_20, ae_X13_moves_24, ae_X13_moves_27, ae_X13_moves_33, ae_X13_moves_34, ae_X13_moves_40, ae_X13_moves_46, ae_X13_moves_52, ae_X13_moves_62, ae_X13_moves_69, ae_X13_moves_70, ae_X13_moves_76, ae_X13_moves_84, ae_X13_moves_85, ae_X13_moves_90, ae_X13_moves_93, ae_X13_moves_100, ae_X13_moves_103, ae_X13_moves_104, ae_X13_moves_108, ae_X13_moves_124, ae_X13_moves_127, am_bnx_v, am_bnx_e, am_tl_s, am_tl_n, am_rv_s, am_add_rx, hp, mc_isPlace, mc_refused, a, b, am_bi_t, not_true_eq_false, not_false_eq_true, if_true, if_false, am_1n0, or_true, true_or, eq_self, Bool.true_eq_false, Bool.false_eq_true, cond_true, cond_false, e1, hle, far2 hle, c, c3]
theorem av_lec {c x : Nat} (hc : c < 1073741824) (hx : x < 1073741824) : (nI c ≤ nI x) = (nI c - nI x ≤ 0) := by
  apply propext
  rw [nI_leI (by omega) (by omega), Int32.le_iff_toInt_le, pk_sub_toInt (by omega) (by omega), show (0 : Int32).toInt = 0 by decide]
  omega
theorem av_price_n {bd : Nat} {σ : Nat → Int32} {L : List (Nat → Int32)} {t p : Nat} (hok : av_ok bd σ L) (hp : p < 16) : ∃ c, c ≤ 18 ∧ av_price σ (nI t) (nI p) = nI c := by
  obtain ⟨h, hh, he, -⟩ := hok.1 p hp
  unfold av_price
  rw [av_of_n hp, av_hf_n hp, he]
  by_cases a : σ (19 + 2 * p) = nI t
  · rw [if_pos a]; exact ⟨0, by omega, rfl⟩
  · rw [if_neg a]
    by_cases b : σ (19 + 2 * p) = -1
    · rw [if_pos b]; exact ⟨h, by omega, rfl⟩
    · rw [if_neg b]; exact ⟨2 * h, by omega, by rw [show (2 : Int32) = nI 2 from rfl, pk_mul]⟩
theorem mc_buys {D bd : Nat} {σ : Nat → Int32} {L : List (Nat → Int32)} {x y : Int32} {M : am_M} (hM : av_MD D M σ L) (hok : av_ok bd σ L) (hbd : bd < 1000000000) : ∃ M' code, am_val iX13_buys 0 [some (.ref (am_c D 13)), some (.int x), some (.int y), none, none] [] M = some (.inl (some (.int code)), M', 0, 0) ∧ av_MO D M M' code (av_q1 σ x y) (av_o1 σ (av_ix x) (av_ix y) (9 + 3 * av_ix x)) (av_o1 σ (av_ix x) (av_ix y)) L := by
  have hok0 := hok
  obtain ⟨hm, hr⟩ := hM
  obtain ⟨hw, hpt, _, hpl, _, hn1, hn2, hl8⟩ := hok
  cases a : am_tm x with
  | false =>
    refine ⟨_, _, ?_, av_MO_r (by unfold av_q1; rw [if_pos a])⟩
    simp only [ae_X13_buys_0, ae_X13_buys_4, ae_X13_buys_7, ae_X13_buys_11, ae_X13_buys_14, ae_X13_buys_20, ae_X13_buys_21, ae_X13_buys_26, ae_X13_buys_29, ae_X13_buys_35, ae_X13_buys_36, ae_X13_buys_41, ae_X13_buys_47, ae_X13_buys_54, ae_X13_buys_55, ae_X13_buys_61, ae_X13_buys_68, ae_X13_buys_73, ae_X13_buys_83, ae_X13_buys_87, ae_X13_buys_88, ae_X13_buys_92, ae_X13_buys_109, ae_X13_buys_113, ae_X13_buys_124, ae_X13_buys_128, ae_X13_buys_144, ae_X13_buys_160, ae_X13_buys_163, am_bnx_v, am_bnx_e, am_tl_s, am_tl_n, am_rv_s, am_add_rx, mc_isTeam, mc_refused, a, am_bi_f, not_true_eq_false, not_false_eq_true, if_true, if_false, am_1n0, or_true, true_or, eq_self, Bool.true_eq_false, Bool.false_eq_true, cond_true, cond_false]
  | true =>
    cases b : am_pl y with
    | false =>
      refine ⟨_, _, ?_, av_MO_r (by unfold av_q1; rw [if_neg (by rw [a]; decide), if_pos b])⟩
      simp only [ae_X13_buys_0, ae_X13_buys_4, ae_X13_buys_7, ae_X13_buys_11, ae_X13_buys_14, ae_X13_buys_20, ae_X13_buys_21, ae_X13_buys_26, ae_X13_buys_29, ae_X13_buys_35, ae_X13_buys_36, ae_X13_buys_41, ae_X13_buys_47, ae_X13_buys_54, ae_X13_buys_55, ae_X13_buys_61, ae_X13_buys_68, ae_X13_buys_73, ae_X13_buys_83, ae_X13_buys_87, ae_X13_buys_88, ae_X13_buys_92, ae_X13_buys_109, ae_X13_buys_113, ae_X13_buys_124, ae_X13_buys_128, ae_X13_buys_144, ae_X13_buys_160, ae_X13_buys_163, am_bnx_v, am_bnx_e, am_tl_s, am_tl_n, am_rv_s, am_add_rx, mc_isTeam, mc_isPlace, mc_refused, a, b, am_bi_f, am_bi_t, not_true_eq_false, not_false_eq_true, if_true, if_false, am_1n0, or_true, true_or, eq_self, Bool.true_eq_false, Bool.false_eq_true, cond_true, cond_false]
    | true =>
      have hq : av_q1 σ x y = if decide (0 < av_hf σ y) = false then some (5, 0) else if av_of σ y = x then some (6, x) else if av_price σ x y - av_pt σ x ≤ 0 then none else some (7, av_price σ x y - av_pt σ x) := by
        unfold av_q1
        rw [if_neg (by rw [a]; decide), if_neg (by rw [b]; decide)]
      obtain ⟨t, ht, rfl⟩ := am_tm_n a
      obtain ⟨p, hp, rfl⟩ := am_pl_n b
      obtain ⟨h, hh9, hhe, hown⟩ := hw p hp
      obtain ⟨v, hv, hve⟩ := hpt t ht
      obtain ⟨c, hc, hce⟩ := av_price_n (t := t) hok0 hp
      obtain ⟨z1, z2⟩ := av_h0 h (by omega)
      have ix1 : av_ix (nI t) = t := av_ix_n (by omega)
      have ix2 : av_ix (nI p) = p := av_ix_n (by omega)
      rw [av_hf_n hp, av_of_n hp, av_pt_n ht, hhe, hve, hce] at hq
      have e1 := mc_height hm hp
      rw [hr.1 _ (by omega) (by omega), hhe] at e1
      have e2 := mc_owner hm hp
      rw [hr.1 _ (by omega) (by omega)] at e2
      have e3 := mc_cost (t := t) hm hp (hr.1 _ (by omega) (by omega)) (hr.1 _ (by omega) (by omega))
      rw [hce] at e3
      have e4 := mc_points hm ht
      have r9 := hr.1 (9 + 3 * t) (by omega) (by omega)
      rw [r9, hve] at e4
      by_cases ch : nI h = 0
      · refine ⟨_, _, ?_, av_MO_r (by rw [hq, if_pos (z1.mpr (z2.mpr ch))])⟩
        simp only [ae_X13_buys_0, ae_X13_buys_4, ae_X13_buys_7, ae_X13_buys_11, ae_X13_buys_14, ae_X13_buys_20, ae_X13_buys_21, ae_X13_buys_26, ae_X13_buys_29, ae_X13_buys_35, ae_X13_buys_36, ae_X13_buys_41, ae_X13_buys_47, ae_X13_buys_54, ae_X13_buys_55, ae_X13_buys_61, ae_X13_buys_68, ae_X13_buys_73, ae_X13_buys_83, ae_X13_buys_87, ae_X13_buys_88, ae_X13_buys_92, ae_X13_buys_109, ae_X13_buys_113, ae_X13_buys_124, ae_X13_buys_128, ae_X13_buys_144, ae_X13_buys_160, ae_X13_buys_163, am_bnx_v, am_bnx_e, am_tl_s, am_tl_n, am_rv_s, am_add_rx, mc_isTeam, mc_isPlace, mc_refused, a, b, am_bi_t, not_true_eq_false, not_false_eq_true, if_true, if_false, am_1n0, or_true, true_or, eq_self, Bool.true_eq_false, Bool.false_eq_true, cond_true, cond_false, e1, ch]
      · have ch' : ¬ decide (0 < nI h) = false := fun hc => ch (z2.mp (z1.mp hc))
        by_cases co : σ (19 + 2 * p) = nI t
        · refine ⟨_, _, ?_, av_MO_r (by rw [hq, if_neg ch', if_pos co])⟩
          simp only [ae_X13_buys_0, ae_X13_buys_4, ae_X13_buys_7, ae_X13_buys_11, ae_X13_buys_14, ae_X13_buys_20, ae_X13_buys_21, ae_X13_buys_26, ae_X13_buys_29, ae_X13_buys_35, ae_X13_buys_36, ae_X13_buys_41, ae_X13_buys_47, ae_X13_buys_54, ae_X13_buys_55, ae_X13_buys_61, ae_X13_buys_68, ae_X13_buys_73, ae_X13_buys_83, ae_X13_buys_87, ae_X13_buys_88, ae_X13_buys_92, ae_X13_buys_109, ae_X13_buys_113, ae_X13_buys_124, ae_X13_buys_128, ae_X13_buys_144, ae_X13_buys_160, ae_X13_buys_163, am_bnx_v, am_bnx_e, am_tl_s, am_tl_n, am_rv_s, am_add_rx, mc_isTeam, mc_isPlace, mc_refused, a, b, am_bi_t, not_true_eq_false, not_false_eq_true, if_true, if_false, am_1n0, or_true, true_or, eq_self, Bool.true_eq_false, Bool.false_eq_true, cond_true, cond_false, e1, ch, e2, co]
        · by_cases cp : nI c ≤ nI v
          · have cp' := cp
            rw [av_lec (by omega) (by omega)] at cp'
            have hq' : av_q1 σ (nI t) (nI p) = none := by rw [hq, if_neg ch', if_neg co, if_pos cp']
            have i1 := am_in_n (show 9 + 3 * t < 120 by omega) (by decide)
            have t1 := am_tn (show 9 + 3 * t < 2147483648 by omega)
            have x2 : nI (18 + 2 * p) + 1 = nI (19 + 2 * p) := by rw [nI_1]; congr 1; omega
            have i2 := am_in_n (show 19 + 2 * p < 120 by omega) (by decide)
            have t2 := am_tn (show 19 + 2 * p < 2147483648 by omega)
            have hsub : nI v - nI c = σ (9 + 3 * t) + -av_price σ (nI t) (nI p) := by rw [hve, hce, Int32.sub_eq_add_neg]
            obtain ⟨M1, hM1⟩ : ∃ M1, M1 = av_i M (am_c (D + 1) 18) (9 + 3 * t) (nI v - nI c) := ⟨_, rfl⟩
            have mr1 : av_mr (M1.1 (am_c (D + 1) 18)) (av_o1a σ t p) L := by rw [hM1, av_is, hsub]; exact av_mr_up hr (by omega) (by omega)
            have f1 : av_fm D M M1 := by rw [hM1]; exact av_fm_s
            have m1 : M1.2.1 (am_c D 13) 1 = am_c (D + 1) 18 + 1 := by rw [hM1]; exact hm.1
            have fin : ∀ M2, av_fm D M M2 → av_mr (M2.1 (am_c (D + 1) 18)) (av_o1b σ t p) L → ∃ M3, M3 = av_i M2 (am_c (D + 1) 18) (19 + 2 * p) (nI t) ∧ am_val iX13_points 0 [some (.ref (am_c D 13)), some (.int (nI t))] [] M3 = some (.inl (some (.int (av_o1 σ t p (9 + 3 * t)))), M3, 0, 0) ∧ av_fm D M M3 ∧ av_mr (M3.1 (am_c (D + 1) 18)) (av_o1 σ t p) L := by
              intro M2 g1 g2
              have g3 : av_mr ((av_i M2 (am_c (D + 1) 18) (19 + 2 * p) (nI t)).1 (am_c (D + 1) 18)) (av_o1 σ t p) L := by rw [av_is]; exact av_mr_up g2 (by omega) (by omega)
              refine ⟨_, rfl, ?_, av_fm_t g1 av_fm_s, g3⟩
              rw [mc_points (by rw [show (av_i M2 (am_c (D + 1) 18) (19 + 2 * p) (nI t)).2 = M.2 from g1.1]; exact hm) ht, g3.1 _ (by omega) (by omega)]
            by_cases cn : σ (19 + 2 * p) = -1
            · have hb : av_o1b σ t p = av_up (av_o1a σ t p) 7 (av_o1a σ t p 7 + nI c) := by unfold av_o1b; rw [if_pos cn, hce]
              obtain ⟨M2, hM2⟩ : ∃ M2, M2 = av_i M1 (am_c (D + 1) 18) 7 (av_o1a σ t p 7 + nI c) := ⟨_, rfl⟩
              have mr2 : av_mr (M2.1 (am_c (D + 1) 18)) (av_o1b σ t p) L := by rw [hM2, av_is, hb]; exact av_mr_up mr1 (by omega) (by omega)
              have f2 : av_fm D M M2 := by rw [hM2]; exact av_fm_t f1 av_fm_s
              have m2 : M2.2.1 (am_c D 13) 1 = am_c (D + 1) 18 + 1 := by rw [hM2]; exact m1
              obtain ⟨M3, hM3, e5, f3, mr3⟩ := fin M2 f2 mr2
              have r7 := mr1.1 7 (by decide) (by decide)
              refine ⟨_, _, ?_, av_MO_d hq' f3 (by rw [ix1, ix2]; exact mr3)⟩
              rw [cn] at e2 co
              simp only [ae_X13_buys_0, ae_X13_buys_4, ae_X13_buys_7, ae_X13_buys_11, ae_X13_buys_14, ae_X13_buys_20, ae_X13_buys_21, ae_X13_buys_26, ae_X13_buys_29, ae_X13_buys_35, ae_X13_buys_36, ae_X13_buys_41, ae_X13_buys_47, ae_X13_buys_54, ae_X13_buys_55, ae_X13_buys_61, ae_X13_buys_68, ae_X13_buys_73, ae_X13_buys_83, ae_X13_buys_87, ae_X13_buys_88, ae_X13_buys_92, ae_X13_buys_109, ae_X13_buys_113, ae_X13_buys_124, ae_X13_buys_128, ae_X13_buys_144, ae_X13_buys_160, ae_X13_buys_163, am_bnx_v, am_bnx_e, am_tl_s, am_tl_n, am_rv_s, am_add_rx, mc_isTeam, mc_isPlace, mc_done, a, b, am_bi_t, not_true_eq_false, not_false_eq_true, if_true, if_false, am_1n0, or_true, true_or, eq_self, Bool.true_eq_false, Bool.false_eq_true, cond_true, cond_false, e1, ch, e2, co, e3, e4, cp, hm.1, av_x9, i1, t1, r9, hve, ← hM1, m1, r7, ← hM2, m2, av_x18, x2, i2, t2, ← hM3, e5, ix1, ix2]
            · obtain ⟨q, hq3, hqe⟩ : ∃ q, q < 3 ∧ σ (19 + 2 * p) = nI q := by
                rcases hown with h1 | ⟨_, q, h2, h3⟩
                · exact absurd h1 cn
                · exact ⟨q, h2, h3⟩
              have hb : av_o1b σ t p = av_up (av_o1a σ t p) (9 + 3 * q) (av_o1a σ t p (9 + 3 * q) + nI c) := by unfold av_o1b; rw [if_neg cn, hqe, am_tn (by omega), hce]
              have i3 := am_in_n (show 9 + 3 * q < 120 by omega) (by decide)
              have t3 := am_tn (show 9 + 3 * q < 2147483648 by omega)
              obtain ⟨M2, hM2⟩ : ∃ M2, M2 = av_i M1 (am_c (D + 1) 18) (9 + 3 * q) (av_o1a σ t p (9 + 3 * q) + nI c) := ⟨_, rfl⟩
              have mr2 : av_mr (M2.1 (am_c (D + 1) 18)) (av_o1b σ t p) L := by rw [hM2, av_is, hb]; exact av_mr_up mr1 (by omega) (by omega)
              have f2 : av_fm D M M2 := by rw [hM2]; exact av_fm_t f1 av_fm_s
              have m2 : M2.2.1 (am_c D 13) 1 = am_c (D + 1) 18 + 1 := by rw [hM2]; exact m1
              obtain ⟨M3, hM3, e5, f3, mr3⟩ := fin M2 f2 mr2
              have r7 := mr1.1 (9 + 3 * q) (by omega) (by omega)
              refine ⟨_, _, ?_, av_MO_d hq' f3 (by rw [ix1, ix2]; exact mr3)⟩
              rw [hqe] at e2 co cn
              simp only [ae_X13_buys_0, ae_X13_buys_4, ae_X13_buys_7, ae_X13_buys_11, ae_X13_buys_14, ae_X13_buys_20, ae_X13_buys_21, ae_X13_buys_26, ae_X13_buys_29, ae_X13_buys_35, ae_X13_buys_36, ae_X13_buys_41, ae_X13_buys_47, ae_X13_buys_54, ae_X13_buys_55, ae_X13_buys_61, ae_X13_buys_68, ae_X13_buys_73, ae_X13_buys_83, ae_X13_buys_87, ae_X13_buys_88, ae_X13_buys_92, ae_X13_buys_109, ae_X13_buys_113, ae_X13_buys_124, ae_X13_buys_128, ae_X13_buys_144, ae_X13_buys_160, ae_X13_buys_163, am_bnx_v, am_bnx_e, am_tl_s, am_tl_n, am_rv_s, am_add_rx, mc_isTeam, mc_isPlace, mc_done, a, b, am_bi_t, not_true_eq_false, not_false_eq_true, if_true, if_false, am_1n0, or_true, true_or, eq_self, Bool.true_eq_false, Bool.false_eq_true, cond_true, cond_false, e1, ch, e2, co, cn, e3, e4, cp, hm.1, av_x9, i1, t1, i3, t3, r9, hve, ← hM1, m1, r7, ← hM2, m2, av_x18, x2, i2, t2, ← hM3, e5, ix1, ix2]
          · have cp' := cp
            rw [av_lec (by omega) (by omega)] at cp'
            refine ⟨_, _, ?_, av_MO_r (by rw [hq, if_neg ch', if_neg co, if_neg cp'])⟩
            simp only [ae_X13_buys_0, ae_X13_buys_4, ae_X13_buys_7, ae_X13_buys_11, ae_X13_buys_14, ae_X13_buys_20, ae_X13_buys_21, ae_X13_buys_26, ae_X13_buys_29, ae_X13_buys_35, ae_X13_buys_36, ae_X13_buys_41, ae_X13_buys_47, ae_X13_buys_54, ae_X13_buys_55, ae_X13_buys_61, ae_X13_buys_68, ae_X13_buys_73, ae_X13_buys_83, ae_X13_buys_87, ae_X13_buys_88, ae_X13_buys_92, ae_X13_buys_109, ae_X13_buys_113, ae_X13_buys_124, ae_X13_buys_128, ae_X13_buys_144, ae_X13_buys_160, ae_X13_buys_163, am_bnx_v, am_bnx_e, am_tl_s, am_tl_n, am_rv_s, am_add_rx, mc_isTeam, mc_isPlace, mc_refused, a, b, am_bi_t, not_true_eq_false, not_false_eq_true, if_true, if_false, am_1n0, or_true, true_or, eq_self, Bool.true_eq_false, Bool.false_eq_true, cond_true, cond_false, e1, ch, e2, co, e3, e4, cp]
