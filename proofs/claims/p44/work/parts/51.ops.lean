/-! all orders at once -/
theorem av_ok_all {bd c : Nat} {σ : Nat → Int32} {L : List (Nat → Int32)} {a b g : Int32} (hok : av_ok bd σ L) (hbd : bd < 1000000000) (hc : c < 8) (hg : g = 0 ∨ g = 1) (hr : av_ref σ L c a b = none) : av_ok (bd + 40) (av_nσ σ L c a b) (av_nL σ L c a b g) := by
  have hn6 := hok.2.2.2.2.2.1
  have hl8 := hok.2.2.2.2.2.2.2
  rcases (show c = 0 ∨ c = 1 ∨ c = 2 ∨ c = 3 ∨ c = 4 ∨ c = 5 ∨ c = 6 ∨ c = 7 by omega) with rfl | rfl | rfl | rfl | rfl | rfl | rfl | rfl
  · have hr : av_q0 σ a b = none := hr
    unfold av_q0 at hr
    cases h1 : am_pl a with
    | false => rw [if_pos h1] at hr; cases hr
    | true =>
      rw [if_neg (by rw [h1]; decide)] at hr
      cases h2 : am_wt b 0 9 with
      | false => rw [if_pos h2] at hr; cases hr
      | true =>
        obtain ⟨p, hp, rfl⟩ := am_pl_n h1
        show av_ok (bd + 40) (av_o0 σ (av_ix (nI p)) b) L
        rw [av_ix_n (by omega)]
        exact av_ok_0 hok hp h2
  · have hr : av_q1 σ a b = none := hr
    unfold av_q1 at hr
    cases h1 : am_tm a with
    | false => rw [if_pos h1] at hr; cases hr
    | true =>
      rw [if_neg (by rw [h1]; decide)] at hr
      cases h2 : am_pl b with
      | false => rw [if_pos h2] at hr; cases hr
      | true =>
        rw [if_neg (by rw [h2]; decide)] at hr
        obtain ⟨t, ht, rfl⟩ := am_tm_n h1
        obtain ⟨p, hp, rfl⟩ := am_pl_n h2
        show av_ok (bd + 40) (av_o1 σ (av_ix (nI t)) (av_ix (nI p))) L
        rw [av_ix_n (by omega), av_ix_n (by omega)]
        cases h3 : decide (0 < av_hf σ (nI p)) with
        | false => rw [if_pos h3] at hr; cases hr
        | true =>
          rw [if_neg (by rw [h3]; decide)] at hr
          by_cases h4 : av_of σ (nI p) = nI t
          · rw [if_pos h4] at hr; cases hr
          · rw [if_neg h4] at hr
            by_cases h5 : av_price σ (nI t) (nI p) - av_pt σ (nI t) ≤ 0
            · exact av_ok_1 hok hbd ht hp h3 h4 h5
            · rw [if_neg h5] at hr; cases hr
  · have hr : av_q2 σ a b = none := hr
    unfold av_q2 at hr
    cases h1 : am_tm a with
    | false => rw [if_pos h1] at hr; cases hr
    | true =>
      rw [if_neg (by rw [h1]; decide)] at hr
      cases h2 : am_pl b with
      | false => rw [if_pos h2] at hr; cases hr
      | true =>
        rw [if_neg (by rw [h2]; decide)] at hr
        by_cases h0 : σ 0 < 6
        · rw [hok.2.2.2.2.2.2.1] at h0
          exact av_ok_2 hok ((nI_ltI (b := 6) (by omega) (by decide)).mp h0) h1 h2
        · rw [if_neg h0] at hr; cases hr
  · have hr : av_q3 σ a b = none := hr
    unfold av_q3 at hr
    cases h1 : am_ltb a (av_np σ) with
    | false => rw [if_pos h1] at hr; cases hr
    | true =>
      rw [if_neg (by rw [h1]; decide)] at hr
      cases h2 : am_pl b with
      | false => rw [if_pos h2] at hr; cases hr
      | true =>
        obtain ⟨k, hk, rfl⟩ := am_lt_n (by omega) h1
        show av_ok (bd + 40) (av_o3 σ (av_ix (nI k)) b) L
        rw [av_ix_n (by omega)]
        exact av_ok_3 hok hk h2
  · have hr : av_q4 σ L.length a b = none := hr
    unfold av_q4 at hr
    cases h1 : am_ltb a (av_np σ) with
    | false => rw [if_pos h1] at hr; cases hr
    | true =>
      rw [if_neg (by rw [h1]; decide)] at hr
      obtain ⟨k, hk, rfl⟩ := am_lt_n (by omega) h1
      cases h2 : am_wt b 1 20 with
      | false => rw [if_pos h2] at hr; cases hr
      | true =>
        rw [if_neg (by rw [h2]; decide)] at hr
        by_cases h3 : σ (52 + 5 * (nI k).toNatClampNeg) ≤ 0
        · rw [if_pos h3] at hr
          by_cases h4 : L.length < 8
          · show av_ok (bd + 40) (av_o4 σ (av_ix (nI k)) b) (L ++ [av_new σ (av_ix (nI k)) b g])
            rw [av_ix_n (by omega)]
            exact av_ok_4 hok hk h4 h2 hg
          · rw [if_neg h4] at hr; cases hr
        · rw [if_neg h3] at hr; cases hr
  · exact av_ok_5 hok
  · have hr : av_q6 σ L a = none := hr
    unfold av_q6 at hr
    cases h1 : am_ltb a (av_np σ) with
    | false => rw [if_pos h1] at hr; cases hr
    | true =>
      rw [if_neg (by rw [h1]; decide)] at hr
      obtain ⟨k, hk, rfl⟩ := am_lt_n (by omega) h1
      rw [am_tn (show k < 2147483648 by omega)] at hr
      obtain ⟨t, ht, hkt⟩ := (hok.2.2.2.1 k hk).1
      cases hb2 : av_lb L (σ (51 + 5 * k)) L.length with
      | none =>
        rw [if_pos ((av_lb_es L.length hl8).mpr hb2)] at hr
        cases hr
      | some q =>
        have hbst : av_bst σ L k = q := by unfold av_bst; rw [hb2]; rfl
        show av_ok (bd + 40) (av_o6 σ (av_ix (nI k)) (av_ix (σ (50 + 5 * av_ix (nI k)))) (av_s L (av_bst σ L (av_ix (nI k))))) (L.eraseIdx (av_bst σ L (av_ix (nI k))))
        rw [av_ix_n (show k < 2147483648 by omega), hbst, hkt, av_ix_n (by omega)]
        exact av_ok_6 hok ht (av_lb_in _ _ hb2).1
  · have hr : av_q7 σ a = none := hr
    unfold av_q7 at hr
    cases h1 : am_wt a (-2) 2 with
    | false => rw [if_pos h1] at hr; cases hr
    | true => exact av_ok_7 hok h1
