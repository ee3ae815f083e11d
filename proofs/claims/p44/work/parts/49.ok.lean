/-! what is in order stays in order -/
theorem av_ok_wall {bd : Nat} {σ σ' : Nat → Int32} {L L' : List (Nat → Int32)} (h : av_ok bd σ L) (h1 : ∀ p, p < 16 → av_wok σ' p) (h2 : ∀ t, t < 3 → σ' (9 + 3 * t) = σ (9 + 3 * t)) (h3 : σ' 2 = σ 2) (h0 : σ' 0 = σ 0) (h4 : ∀ p, p < 6 → ∀ w, w < 3 → σ' (50 + 5 * p + w) = σ (50 + 5 * p + w)) (hL : L' = L) : av_ok (bd + 40) σ' L' := by
  subst hL
  obtain ⟨_, hpt, hwd, hpl, hsd, hn1, hn2, hl8⟩ := h
  have hnp : av_np σ' = av_np σ := by unfold av_np; rw [h0]
  refine ⟨h1, fun t ht => ?_, by rw [h3]; exact hwd, fun p hp => ?_, hsd, by rw [hnp]; exact hn1, by rw [hnp, h0]; exact hn2, hl8⟩
  · obtain ⟨x, hx, he⟩ := hpt t ht
    exact ⟨x, by omega, by rw [h2 t ht]; exact he⟩
  · rw [hnp] at hp
    obtain ⟨⟨t, ht, e1⟩, ⟨a, ha, e2⟩, ⟨q, hq, e3⟩⟩ := hpl p hp
    refine ⟨⟨t, ht, ?_⟩, ⟨a, ha, ?_⟩, ⟨q, hq, ?_⟩⟩
    · have := h4 p (by omega) 0 (by decide)
      rw [show 50 + 5 * p + 0 = 50 + 5 * p by omega] at this
      rw [this]; exact e1
    · have := h4 p (by omega) 1 (by decide)
      rw [show 50 + 5 * p + 1 = 51 + 5 * p by omega] at this
      rw [this]; exact e2
    · have := h4 p (by omega) 2 (by decide)
      rw [show 50 + 5 * p + 2 = 52 + 5 * p by omega] at this
      rw [this]; exact e3
theorem av_wt_n {x : Int32} {a b : Nat} (ha : a < 2147483648) (hb : b < 2147483648) (h : am_wt x (nI a) (nI b) = true) : ∃ k, a ≤ k ∧ k ≤ b ∧ x = nI k := by
  simp only [am_wt, Bool.and_eq_true, decide_eq_true_eq] at h
  have h1 := Int32.le_iff_toInt_le.mp h.1
  rw [nI_toInt (by omega)] at h1
  obtain ⟨k, hk, rfl⟩ := nI_of2 (M := nI b) (n := b) (nI_toInt (by omega)) (show ¬ x < 0 from fun hc => by
    have h2 := Int32.lt_iff_toInt_lt.mp hc
    rw [show (0 : Int32).toInt = 0 by decide] at h2
    omega) h.2
  rw [nI_toInt (by omega)] at h1
  exact ⟨k, by omega, hk, rfl⟩
theorem av_ok_0 {bd : Nat} {σ : Nat → Int32} {L : List (Nat → Int32)} {p : Nat} {h : Int32} (hok : av_ok bd σ L) (hp : p < 16) (hh : am_wt h 0 9 = true) : av_ok (bd + 40) (av_o0 σ p h) L := by
  obtain ⟨k, _, hk, rfl⟩ := av_wt_n (a := 0) (b := 9) (by decide) (by decide) hh
  have e : ∀ j, j ≠ 18 + 2 * p → j ≠ 19 + 2 * p → av_o0 σ p (nI k) j = σ j := by
    intro j j1 j2
    unfold av_o0
    by_cases h0 : nI k = 0
    · rw [if_pos h0, av_up_n j2, av_up_n j1]
    · rw [if_neg h0, av_up_n j1]
  refine av_ok_wall hok (fun q hq => ?_) (fun t ht => e _ (by omega) (by omega)) (e _ (by omega) (by omega)) (e _ (by omega) (by omega)) (fun a ha w hw => e _ (by omega) (by omega)) rfl
  by_cases hqp : q = p
  · rw [hqp]
    obtain ⟨g, hg, e1, e2⟩ := hok.1 p hp
    by_cases h0 : nI k = 0
    · refine ⟨k, hk, ?_, Or.inl ?_⟩
      · unfold av_o0; rw [if_pos h0, av_up_n (by omega), av_up_s]
      · unfold av_o0; rw [if_pos h0, av_up_s]
    · have hk0 : 0 < k := by
        rcases Nat.eq_zero_or_pos k with hz | hz
        · exact absurd (by rw [hz]; rfl) h0
        · exact hz
      refine ⟨k, hk, ?_, ?_⟩
      · unfold av_o0; rw [if_neg h0, av_up_s]
      · unfold av_o0
        rw [if_neg h0, av_up_n (by omega)]
        rcases e2 with e2 | ⟨_, e2⟩
        · exact Or.inl e2
        · exact Or.inr ⟨hk0, e2⟩
  · obtain ⟨g, hg, e1, e2⟩ := hok.1 q hq
    exact ⟨g, hg, by rw [e _ (by omega) (by omega)]; exact e1, by rw [e _ (by omega) (by omega)]; exact e2⟩
theorem av_ok_3 {bd : Nat} {σ : Nat → Int32} {L : List (Nat → Int32)} {k : Nat} {p : Int32} (hok : av_ok bd σ L) (hk : k < av_np σ) (hp : am_pl p = true) : av_ok (bd + 40) (av_o3 σ k p) L := by
  obtain ⟨h1, hpt, hwd, hpl, hsd, hn1, hn2, hl8⟩ := hok
  have e : ∀ j, j ≠ 51 + 5 * k → av_o3 σ k p j = σ j := fun j hj => av_up_n hj
  have hnp : av_np (av_o3 σ k p) = av_np σ := by unfold av_np; rw [e 0 (by omega)]
  refine ⟨fun q hq => ?_, fun t ht => ?_, by rw [e 2 (by omega)]; exact hwd, fun q hq => ?_, hsd, by rw [hnp]; exact hn1, by rw [hnp, e 0 (by omega)]; exact hn2, hl8⟩
  · obtain ⟨g, hg, e1, e2⟩ := h1 q hq
    exact ⟨g, hg, by rw [e _ (by omega)]; exact e1, by rw [e _ (by omega)]; exact e2⟩
  · obtain ⟨x, hx, he⟩ := hpt t ht
    exact ⟨x, by omega, by rw [e _ (by omega)]; exact he⟩
  · rw [hnp] at hq
    obtain ⟨⟨t, ht, e1⟩, ⟨a, ha, e2⟩, ⟨g, hg, e3⟩⟩ := hpl q hq
    refine ⟨⟨t, ht, by rw [e _ (by omega)]; exact e1⟩, ?_, ⟨g, hg, by rw [e _ (by omega)]; exact e3⟩⟩
    by_cases hqk : q = k
    · obtain ⟨b, hb, rfl⟩ := am_pl_n hp
      exact ⟨b, hb, by rw [hqk]; exact av_up_s⟩
    · exact ⟨a, ha, by rw [e _ (by omega)]; exact e2⟩
theorem av_ok_7 {bd : Nat} {σ : Nat → Int32} {L : List (Nat → Int32)} {x : Int32} (hok : av_ok bd σ L) (hx : am_wt x (-2) 2 = true) : av_ok (bd + 40) (av_up σ 2 x) L := by
  obtain ⟨h1, hpt, hwd, hpl, hsd, hn1, hn2, hl8⟩ := hok
  have e : ∀ j, j ≠ 2 → av_up σ 2 x j = σ j := fun j hj => av_up_n hj
  have hnp : av_np (av_up σ 2 x) = av_np σ := by unfold av_np; rw [e 0 (by decide)]
  refine ⟨fun q hq => ?_, fun t ht => ?_, by rw [av_up_s]; exact hx, fun q hq => ?_, hsd, by rw [hnp]; exact hn1, by rw [hnp, e 0 (by decide)]; exact hn2, hl8⟩
  · obtain ⟨g, hg, e1, e2⟩ := h1 q hq
    exact ⟨g, hg, by rw [e _ (by omega)]; exact e1, by rw [e _ (by omega)]; exact e2⟩
  · obtain ⟨y, hy, he⟩ := hpt t ht
    exact ⟨y, by omega, by rw [e _ (by omega)]; exact he⟩
  · rw [hnp] at hq
    obtain ⟨⟨t, ht, e1⟩, ⟨a, ha, e2⟩, ⟨g, hg, e3⟩⟩ := hpl q hq
    exact ⟨⟨t, ht, by rw [e _ (by omega)]; exact e1⟩, ⟨a, ha, by rw [e _ (by omega)]; exact e2⟩, ⟨g, hg, by rw [e _ (by omega)]; exact e3⟩⟩
theorem av_ok_2 {bd : Nat} {σ : Nat → Int32} {L : List (Nat → Int32)} {t p : Int32} (hok : av_ok bd σ L) (hn : av_np σ < 6) (ht : am_tm t = true) (hp : am_pl p = true) : av_ok (bd + 40) (av_o2 σ t p) L := by
  obtain ⟨h1, hpt, hwd, hpl, hsd, hn1, hn2, hl8⟩ := hok
  obtain ⟨n, hne⟩ : ∃ n, n = av_np σ := ⟨_, rfl⟩
  have e : ∀ j, j ≠ 0 → (j < 50 + 5 * n ∨ 55 + 5 * n ≤ j) → av_o2 σ t p j = σ j := by
    intro j j0 j1
    unfold av_o2
    rw [← hne, av_up_n j0, av_up_n (by omega), av_up_n (by omega), av_up_n (by omega), av_up_n (by omega), av_up_n (by omega)]
  have z0 : av_o2 σ t p 0 = nI (n + 1) := by unfold av_o2; rw [← hne]; exact av_up_s
  have a0 : av_o2 σ t p (50 + 5 * n) = t := by
    unfold av_o2
    rw [← hne, av_up_n (by omega), av_up_n (by omega), av_up_n (by omega), av_up_n (by omega), av_up_n (by omega)]
    exact av_up_s
  have a1 : av_o2 σ t p (51 + 5 * n) = p := by
    unfold av_o2
    rw [← hne, av_up_n (by omega), av_up_n (by omega), av_up_n (by omega), av_up_n (by omega), show 51 + 5 * n = 50 + 5 * n + 1 by omega]
    exact av_up_s
  have a2 : av_o2 σ t p (52 + 5 * n) = 0 := by
    unfold av_o2
    rw [← hne, av_up_n (by omega), av_up_n (by omega), av_up_n (by omega), show 52 + 5 * n = 50 + 5 * n + 2 by omega]
    exact av_up_s
  have hnp : av_np (av_o2 σ t p) = n + 1 := by unfold av_np; rw [z0]; exact am_tn (by omega)
  refine ⟨fun q hq => ?_, fun q hq => ?_, by rw [e 2 (by decide) (by omega)]; exact hwd, fun q hq => ?_, hsd, by omega, by rw [hnp]; exact z0, hl8⟩
  · obtain ⟨g, hg, e1, e2⟩ := h1 q hq
    exact ⟨g, hg, by rw [e _ (by omega) (by omega)]; exact e1, by rw [e _ (by omega) (by omega)]; exact e2⟩
  · obtain ⟨y, hy, he⟩ := hpt q hq
    exact ⟨y, by omega, by rw [e _ (by omega) (by omega)]; exact he⟩
  · rw [hnp] at hq
    by_cases hqn : q = n
    · rw [hqn]
      obtain ⟨b, hb, hbe⟩ := am_tm_n ht
      obtain ⟨c, hc, hce⟩ := am_pl_n hp
      exact ⟨⟨b, hb, by rw [a0]; exact hbe⟩, ⟨c, hc, by rw [a1]; exact hce⟩, ⟨0, by omega, by rw [a2]; rfl⟩⟩
    · obtain ⟨⟨b, hb, e1⟩, ⟨a, ha, e2⟩, ⟨g, hg, e3⟩⟩ := hpl q (by omega)
      exact ⟨⟨b, hb, by rw [e _ (by omega) (by omega)]; exact e1⟩, ⟨a, ha, by rw [e _ (by omega) (by omega)]; exact e2⟩, ⟨g, hg, by rw [e _ (by omega) (by omega)]; exact e3⟩⟩
theorem av_ok_4 {bd : Nat} {σ : Nat → Int32} {L : List (Nat → Int32)} {k : Nat} {l g : Int32} (hok : av_ok bd σ L) (hk : k < av_np σ) (hL : L.length < 8) (hl : am_wt l 1 20 = true) (hg : g = 0 ∨ g = 1) : av_ok (bd + 40) (av_o4 σ k l) (L ++ [av_new σ k l g]) := by
  obtain ⟨h1, hpt, hwd, hpl, hsd, hn1, hn2, hl8⟩ := hok
  obtain ⟨c, hc1, hc2, rfl⟩ := av_wt_n (a := 1) (b := 20) (by decide) (by decide) hl
  have e : ∀ j, j ≠ 4 → j ≠ 52 + 5 * k → j ≠ 53 + 5 * k → av_o4 σ k (nI c) j = σ j := fun j j1 j2 j3 => by
    unfold av_o4
    rw [av_up_n j1, av_up_n j3, av_up_n j2]
  have hnp : av_np (av_o4 σ k (nI c)) = av_np σ := by unfold av_np; rw [e 0 (by omega) (by omega) (by omega)]
  refine ⟨fun q hq => ?_, fun t ht => ?_, by rw [e 2 (by omega) (by omega) (by omega)]; exact hwd, fun q hq => ?_, fun q hq => ?_, by rw [hnp]; exact hn1, by rw [hnp, e 0 (by omega) (by omega) (by omega)]; exact hn2, by simp; omega⟩
  · obtain ⟨x, hx, e1, e2⟩ := h1 q hq
    exact ⟨x, hx, by rw [e _ (by omega) (by omega) (by omega)]; exact e1, by rw [e _ (by omega) (by omega) (by omega)]; exact e2⟩
  · obtain ⟨y, hy, he⟩ := hpt t ht
    exact ⟨y, by omega, by rw [e _ (by omega) (by omega) (by omega)]; exact he⟩
  · rw [hnp] at hq
    obtain ⟨⟨b, hb, e1⟩, ⟨a, ha, e2⟩, ⟨x, hx, e3⟩⟩ := hpl q hq
    refine ⟨⟨b, hb, by rw [e _ (by omega) (by omega) (by omega)]; exact e1⟩, ⟨a, ha, by rw [e _ (by omega) (by omega) (by omega)]; exact e2⟩, ?_⟩
    by_cases hqk : q = k
    · refine ⟨c / 4, by omega, ?_⟩
      unfold av_o4
      rw [hqk, av_up_n (by omega), av_up_n (by omega), av_up_s, show (4 : Int32) = nI 4 from rfl, pk_div (by omega) (by decide) (by decide)]
    · exact ⟨x, hx, by rw [e _ (by omega) (by omega) (by omega)]; exact e3⟩
  · by_cases hqL : q < L.length
    · rw [av_s_l hqL]; exact hsd q hqL
    · have hqe : q = L.length := by simp at hq; omega
      rw [hqe, av_s_e]
      obtain ⟨⟨b, hb, e1⟩, ⟨a, ha, e2⟩, -⟩ := hpl k hk
      exact ⟨⟨a, ha, e2⟩, ⟨c, 0, by omega, by omega, rfl, rfl⟩, ⟨b, hb, e1⟩, hg⟩
theorem av_ok_6 {bd : Nat} {σ : Nat → Int32} {L : List (Nat → Int32)} {k b t : Nat} (hok : av_ok bd σ L) (ht : t < 3) (hb : b < L.length) : av_ok (bd + 40) (av_o6 σ k t (av_s L b)) (L.eraseIdx b) := by
  obtain ⟨h1, hpt, hwd, hpl, hsd, hn1, hn2, hl8⟩ := hok
  have e : ∀ j, j < 50 + 5 * k ∨ 5 * k + 54 ≠ j → j ≠ 6 → (j < 9 ∨ 18 ≤ j) → j ≠ 54 + 5 * k → av_o6 σ k t (av_s L b) j = σ j := by
    intro j _ j6 jr j54
    unfold av_o6 av_o6b av_o6a
    rw [av_up_n j6, av_up_n (by omega)]
    by_cases hh : av_s L b 2 = σ (50 + 5 * k)
    · rw [if_pos hh, av_up_n (by omega), av_up_n j54]
    · rw [if_neg hh, av_up_n (by omega), av_up_n (by omega), av_up_n j54]
  have hnp : av_np (av_o6 σ k t (av_s L b)) = av_np σ := by unfold av_np; rw [e 0 (by omega) (by omega) (by omega) (by omega)]
  obtain ⟨_, ⟨l, tm, hl0, hlt, e1, _⟩, _⟩ := hsd b hb
  have hw : ∃ w, w ≤ 40 ∧ av_pts σ k (av_s L b) = nI w := by
    unfold av_pts
    by_cases hh : av_s L b 2 = σ (50 + 5 * k)
    · rw [if_pos hh]; exact ⟨l, by omega, e1⟩
    · rw [if_neg hh]; exact ⟨2 * l, by omega, by rw [e1, show (2 : Int32) = nI 2 from rfl, pk_mul]⟩
  obtain ⟨w, hw40, hwe⟩ := hw
  have hlen : (L.eraseIdx b).length = L.length - 1 := List.length_eraseIdx_of_lt hb
  refine ⟨fun q hq => ?_, fun q hq => ?_, by rw [e 2 (by omega) (by omega) (by omega) (by omega)]; exact hwd, fun q hq => ?_, fun q hq => ?_, by rw [hnp]; exact hn1, by rw [hnp, e 0 (by omega) (by omega) (by omega) (by omega)]; exact hn2, by omega⟩
  · obtain ⟨x, hx, e1, e2⟩ := h1 q hq
    exact ⟨x, hx, by rw [e _ (by omega) (by omega) (by omega) (by omega)]; exact e1, by rw [e _ (by omega) (by omega) (by omega) (by omega)]; exact e2⟩
  · obtain ⟨y, hy, he⟩ := hpt q hq
    by_cases hqt : q = t
    · refine ⟨y + w, by omega, ?_⟩
      unfold av_o6
      rw [hqt, av_up_n (by omega), av_up_s, ← hqt, he, hwe, nI_add]
    · refine ⟨y, by omega, ?_⟩
      unfold av_o6 av_o6b av_o6a
      rw [av_up_n (by omega), av_up_n (by omega)]
      by_cases hh : av_s L b 2 = σ (50 + 5 * k)
      · rw [if_pos hh, av_up_n (by omega), av_up_n (by omega)]; exact he
      · rw [if_neg hh, av_up_n (by omega), av_up_n (by omega), av_up_n (by omega)]; exact he
  · rw [hnp] at hq
    obtain ⟨⟨b, hb, e1⟩, ⟨a, ha, e2⟩, ⟨x, hx, e3⟩⟩ := hpl q hq
    exact ⟨⟨b, hb, by rw [e _ (by omega) (by omega) (by omega) (by omega)]; exact e1⟩, ⟨a, ha, by rw [e _ (by omega) (by omega) (by omega) (by omega)]; exact e2⟩, ⟨x, hx, by rw [e _ (by omega) (by omega) (by omega) (by omega)]; exact e3⟩⟩
  · rw [av_s_er]
    by_cases hqb : q < b
    · rw [if_pos hqb]; exact hsd q (by omega)
    · rw [if_neg hqb]; exact hsd (q + 1) (by omega)
