/-! what changes the state but by orders: append, undo, save, restore -/
/-- a model's step that writes the fields J and the row r alone -/
def av_yw (D : Nat) (J : Nat → Prop) (r k0 : Nat) (M X : am_M) : Prop := X.2 = M.2 ∧ ∀ c k j, k < 64 → ¬ (c = D ∧ k = 13 ∧ J j) → ¬ (c = D + r ∧ k = k0) → X.1 (am_c c k) j = M.1 (am_c c k) j
theorem av_yw_fy {D r k0 : Nat} {J : Nat → Prop} {M X : am_M} (hD : 274 ≤ D) (h : av_yw D J r k0 M X) : av_fy M X := ⟨h.1, fun c k j hk a => h.2 c k j hk (by omega) (by omega)⟩
theorem av_yw_d {D r k0 : Nat} {J : Nat → Prop} {M X : am_M} (h : av_yw D J r k0 M X) (hr : 0 < r) {j : Nat} (hj : ¬ J j) : X.1 (am_c D 13) j = M.1 (am_c D 13) j := h.2 D 13 j (by decide) (fun hh => hj hh.2.2) (by omega)
theorem av_yw_r {D r k0 : Nat} {J : Nat → Prop} {M X : am_M} (h : av_yw D J r k0 M X) {a k : Nat} (hk : k < 64) (h1 : ¬ (a = D ∧ k = 13)) (h2 : ¬ (a = D + r ∧ k = k0)) : X.1 (am_c a k) = M.1 (am_c a k) := funext fun j => h.2 a k j hk (fun hh => h1 ⟨hh.1, hh.2.1⟩) h2
/-! append -/
theorem ac_append {σ : Nat → Int32} {L : List (Nat → Int32)} {H : List av_K} {P : Option av_K} {q : Int32 × Int32 × Int32} {n : Nat} {T : Nat → Int32} {f : Int32} {l : List Int32} {x : Int32} {M : am_M} (hc : (x.toUInt32 % 65536).toInt32 = x) (hx : av_x M σ L H P q n T f l) : (n < 60 → ∃ M1, am_val iX12_append 0 [some (.ref (am_c 0 12)), some (.int x)] [] M = some (.inl (some (.int (nI (n + 1)))), M1, 0, 0) ∧ av_fx M M1 ∧ av_x M1 σ L H P q (n + 1) (av_up T n x) f l) ∧ (¬ n < 60 → am_val iX12_append 0 [some (.ref (am_c 0 12)), some (.int x)] [] M = some (.inr 4, M, 1, 6)) := by
  have p5 : M.2.1 (am_c 0 12) 5 = am_c 244 10 + 1 := hx.1.1.2.2.2.2.1
  obtain ⟨k0, k1, k2, k3, k4⟩ := hx.2.2.2.2.2.1
  refine ⟨fun hn => ?_, fun hn => ?_⟩
  · have a1 : nI n < 60 := nI_lt (b := 60) hn (by decide)
    have a2 : ¬ (60 : Int32) ≤ nI n := nI_ge (b := 60) hn (by decide)
    have hin := am_in_n hn (show 60 < 2147483648 by decide)
    have htn := am_tn (show n < 2147483648 by omega)
    have g1 : (av_i M (am_c 245 22) n x).1 (am_c 244 10) 1 = nI n := (am_up_a (am_c_ne (by decide) (by decide) (by decide))).trans k2
    have hag : ∀ lo hi, (hi ≤ 244 ∨ 246 ≤ lo) → av_ag M (av_i (av_i M (am_c 245 22) n x) (am_c 244 10) 1 (nI (n + 1))) lo hi := fun lo hi hd => av_ag_t (av_ag_i (by decide) (by omega)) (av_ag_i (by decide) (by omega))
    obtain ⟨h0, h1, h2, h3, h4, h5, h6, h8, h9⟩ := hx
    refine ⟨av_i (av_i M (am_c 245 22) n x) (am_c 244 10) 1 (nI (n + 1)), ?_, av_fx_t (av_fx_i (by decide) (by decide)) (av_fx_i (by decide) (by decide)), av_x0_g h0 (hag _ _ (by decide)), av_x1_g h1 (hag _ _ (by decide)), av_x2_g h2 (hag _ _ (by decide)), av_x3_g h3 (hag _ _ (by decide)), av_x4_g h4 (hag _ _ (by decide)), ⟨k0, by omega, av_jS, ?_, fun j hj => ?_⟩, av_x6_g h6 (hag _ _ (by decide)), av_x8_g h8 (hag _ _ (by decide)), av_xp_g h9 (hag _ _ (by decide))⟩
    · simp only [ae_X12_append_0, ae_X12_append_4, ae_X12_append_12, ae_X12_append_23, ae_X12_append_27, ae_X12_append_31, ae_X12_append_35, ae_X10_add_0, ae_X10_add_9, ae_X10_add_13, ae_X10_add_29, am_bnx_v, am_bnx_e, am_tl_s, am_tl_n, am_rv_s, am_add_rx, p5, k0, k2, a1, a2, hin, htn, hc, g1, nI_1, av_i2, av_jS, not_true_eq_false, not_false_eq_true, if_true, if_false, am_1n0, or_true, true_or, eq_self, Bool.true_eq_false, Bool.false_eq_true, cond_true, cond_false]
    · rw [av_jK (by decide)]
      exact (am_up_a (am_c_ne (by decide) (by decide) (by decide))).trans k3
    · have e : (av_i (av_i M (am_c 245 22) n x) (am_c 244 10) 1 (nI (n + 1))).1 (am_c 245 22) j = (av_i M (am_c 245 22) n x).1 (am_c 245 22) j := am_up_a (am_c_ne (by decide) (by decide) (by decide))
      rw [e, av_is]
      by_cases hjn : j = n
      · rw [hjn, av_up_s, av_up_s]
      · rw [av_up_n hjn, av_up_n hjn]
        exact k4 j (by omega)
  · have a1 : ¬ nI n < 60 := nI_nlt (b := 60) (by omega) (by omega)
    simp only [ae_X12_append_0, ae_X12_append_4, ae_X12_append_12, ae_X12_append_23, ae_X12_append_27, ae_X12_append_31, ae_X12_append_35, am_bnx_v, am_bnx_e, am_tl_s, am_tl_n, am_rv_s, am_add_rx, p5, k2, a1, not_true_eq_false, not_false_eq_true, if_true, if_false, am_1n0, or_true, true_or, eq_self, Bool.true_eq_false, Bool.false_eq_true, cond_true, cond_false]
/-! undo -/
theorem av_x2_len {M : am_M} {H : List av_K} (h : av_x2 M H) : M.1 (am_c 25 3) 2 = nI H.length := by
  obtain ⟨-, -, ν, g, -, -, k, -, -⟩ := h
  exact k
theorem ac_undo {σ : Nat → Int32} {L : List (Nat → Int32)} {H : List av_K} {P : Option av_K} {q : Int32 × Int32 × Int32} {n : Nat} {T : Nat → Int32} {f : Int32} {l : List Int32} {M : am_M} (hx : av_x M σ L H P q n T f l) : (∀ m, H.length = m + 1 → ∃ M1, am_val iX12_undo 0 [some (.ref (am_c 0 12))] [] M = some (.inl (some (.int (nI m))), M1, 0, 0) ∧ av_fx M M1 ∧ av_x M1 (av_h H m).1 (av_h H m).2 (H.take m) P q n T f l) ∧ (H.length = 0 → am_val iX12_undo 0 [some (.ref (am_c 0 12))] [] M = some (.inr 4, M, 1, 6)) := by
  obtain ⟨⟨⟨p0, p1, p2, p4, p5, p6, p7, p8, p9⟩, p3⟩, ⟨rm, hC⟩, h2, h3, h4, h5, h6, h8, h9⟩ := hx
  have k2 := av_x2_len h2
  have l8 := h2.2.1
  refine ⟨fun m hm => ?_, fun hm => ?_⟩
  · obtain ⟨M1, e, x2, x1, v, g⟩ := ac_hgive h2 hm hC
    have hne : ¬ nI (m + 1) = 0 := nI_ne0 (by omega) (by omega)
    rw [hm] at k2
    have k2' := av_x2_len x2
    rw [List.length_take, Nat.min_eq_left (by omega)] at k2'
    have h0 : av_x0 M P.isSome := ⟨⟨p0, p1, p2, p4, p5, p6, p7, p8, p9⟩, p3⟩
    refine ⟨M1, ?_, av_fx_of (by rw [v]) (fun hi => g 274 hi (Or.inr (by decide))), av_x0_g h0 (g _ _ (by decide)), x1, x2, av_x3_g h3 (g _ _ (by decide)), av_x4_g h4 (g _ _ (by decide)), av_x5_g h5 (g _ _ (by decide)), av_x6_g h6 (g _ _ (by decide)), av_x8_g h8 (g _ _ (by decide)), av_xp_g h9 (g _ _ (by decide))⟩
    simp only [ae_X12_undo_0, ae_X12_undo_4, ae_X12_undo_10, ae_X12_undo_21, ae_X12_undo_25, ae_X12_undo_29, ae_X12_undo_32, ae_X12_undo_36, am_bnx_v, am_bnx_e, am_tl_s, am_tl_n, am_rv_s, am_add_rx, p0, p1, k2, hne, not_true_eq_false, not_false_eq_true, if_true, if_false, am_1n0, or_true, true_or, eq_self, Bool.true_eq_false, Bool.false_eq_true, cond_true, cond_false, e, v, k2']
  · rw [hm] at k2
    simp only [ae_X12_undo_0, ae_X12_undo_4, ae_X12_undo_10, ae_X12_undo_21, ae_X12_undo_25, ae_X12_undo_29, ae_X12_undo_32, ae_X12_undo_36, am_bnx_v, am_bnx_e, am_tl_s, am_tl_n, am_rv_s, am_add_rx, p1, k2, nI_0, not_true_eq_false, not_false_eq_true, if_true, if_false, am_1n0, or_true, true_or, eq_self, Bool.true_eq_false, Bool.false_eq_true, cond_true, cond_false]
theorem av_h_mr {D : Nat} {M : am_M} {H : List av_K} (hy : av_y2 D M H) {m : Nat} (hm : H.length = m + 1) : av_y2 D M H ∧ av_mr (fun i => M.1 (am_c (D + 4) 19) (120 * m + i)) (av_h H m).1 (av_h H m).2 := ⟨hy, hy.2.2 m (by omega)⟩
/-! save, restore -/
theorem ac_save {σ : Nat → Int32} {L : List (Nat → Int32)} {H : List av_K} {P : Option av_K} {q : Int32 × Int32 × Int32} {n : Nat} {T : Nat → Int32} {f : Int32} {l : List Int32} {M : am_M} (hx : av_x M σ L H P q n T f l) : ∃ M1, am_val iX12_save 0 [some (.ref (am_c 0 12))] [] M = some (.inl (some (.int (σ 0))), M1, 0, 0) ∧ av_fx M M1 ∧ av_x M1 σ L H (some (σ, L)) q n T f l := by
  obtain ⟨⟨⟨p0, p1, p2, p4, p5, p6, p7, p8, p9⟩, p3⟩, ⟨rm, hC⟩, h2, ⟨rm3, τ, K, hC3, -⟩, h4, h5, h6, h8, h9⟩ := hx
  obtain ⟨M1, e, c1, fr, v⟩ := ac_take (Or.inr (by decide)) hC3 hC
  obtain ⟨X, hX⟩ : ∃ X, X = av_i M1 (am_c 0 12) 3 1 := ⟨_, rfl⟩
  have vX : X.2 = M.2 := by rw [hX]; exact v
  have gX : ∀ lo hi, 1 ≤ lo → av_ag M1 X lo hi := fun lo hi h => by rw [hX]; exact av_ag_i (by decide) (Or.inr (by omega))
  have G : ∀ lo hi, 1 ≤ lo → (hi ≤ 219 ∨ 219 + 24 ≤ lo) → av_ag M X lo hi := fun lo hi h h' => av_ag_t (av_fr_ag fr h') (gX lo hi h)
  have hCX := av_C_g hC (G 1 (1 + 24) (by decide) (by decide))
  have nX : X.1 (am_c 1 1) 3 = σ 0 := hCX.2.2.2.2.1.1
  refine ⟨X, ?_, av_fx_of (by rw [vX]) (fun hi => G 274 hi (by decide) (Or.inr (by decide))), ⟨by rw [vX]; exact ⟨p0, p1, p2, p4, p5, p6, p7, p8, p9⟩, by rw [hX, av_jS]; rfl⟩, ⟨rm, hCX⟩, av_x2_g h2 (G _ _ (by decide) (by decide)), ⟨rm3, σ, L, av_C_g c1 (gX _ _ (by decide)), fun p hp => (Option.some.inj hp).symm⟩, av_x4_g h4 (G _ _ (by decide) (by decide)), av_x5_g h5 (G _ _ (by decide) (by decide)), av_x6_g h6 (G _ _ (by decide) (by decide)), av_x8_g h8 (G _ _ (by decide) (by decide)), av_xp_g h9 (G _ _ (by decide) (by decide))⟩
  have v1 : M1.2.1 (am_c 0 12) 0 = am_c 1 1 + 1 := by rw [v]; exact p0
  have vX0 : X.2.1 (am_c 0 12) 0 = am_c 1 1 + 1 := by rw [vX]; exact p0
  simp only [ae_X12_save_0, ae_X12_save_4, ae_X12_save_8, ae_X12_save_11, ae_X12_save_20, am_bnx_v, am_bnx_e, am_tl_s, am_tl_n, am_rv_s, am_add_rx, p0, p2, e, av_i2, v1, ← hX, vX0, nX]
theorem ac_restore {σ : Nat → Int32} {L : List (Nat → Int32)} {H : List av_K} {P : Option av_K} {q : Int32 × Int32 × Int32} {n : Nat} {T : Nat → Int32} {f : Int32} {l : List Int32} {M : am_M} (hx : av_x M σ L H P q n T f l) : (∀ p, P = some p → ∃ M1, am_val iX12_restore 0 [some (.ref (am_c 0 12))] [] M = some (.inl (some (.int (p.1 0))), M1, 0, 0) ∧ av_fx M M1 ∧ av_x M1 p.1 p.2 [] P q n T f l) ∧ (P = none → am_val iX12_restore 0 [some (.ref (am_c 0 12))] [] M = some (.inr 4, M, 1, 6)) := by
  obtain ⟨⟨⟨p0, p1, p2, p4, p5, p6, p7, p8, p9⟩, p3⟩, ⟨rm, hC⟩, h2, ⟨rm3, τ, K, hC3, hp3⟩, h4, h5, h6, h8, h9⟩ := hx
  refine ⟨fun p hp => ?_, fun hp => ?_⟩
  · have e1 := hp3 p hp
    subst e1
    rw [hp] at p3
    have p3 : M.1 (am_c 0 12) 3 = 1 := p3
    obtain ⟨M1, e, c1, fr, v⟩ := ac_take (Or.inl (by decide)) hC hC3
    obtain ⟨X, hX⟩ : ∃ X, X = av_i M1 (am_c 25 3) 2 0 := ⟨_, rfl⟩
    have vX : X.2 = M.2 := by rw [hX]; exact v
    have gX : ∀ lo hi, (hi ≤ 25 ∨ 26 ≤ lo) → av_ag M1 X lo hi := fun lo hi h => by rw [hX]; exact av_ag_i (by decide) (by omega)
    have G : ∀ lo hi, (hi ≤ 25 ∨ 26 ≤ lo) → (hi ≤ 1 ∨ 1 + 24 ≤ lo) → av_ag M X lo hi := fun lo hi h h' => av_ag_t (av_fr_ag fr h') (gX lo hi h)
    have hCX := av_C_g c1 (gX 1 (1 + 24) (by decide))
    have nX : X.1 (am_c 1 1) 3 = τ 0 := hCX.2.2.2.2.1.1
    obtain ⟨hs, hl, ν, g, hν, k1, k2, k3, k4⟩ := h2
    have x2 : av_x2 X [] := by
      refine ⟨by rw [vX]; exact hs, by decide, ν, g, hν, ?_, ?_, fun i hi => ?_, fun j hj => absurd hj (Nat.not_lt_zero _)⟩
      · rw [hX, av_jK (by decide), (fr.2 25 3 1 (by decide) (by decide)).1]
        exact k1
      · rw [hX, av_jS]
        rfl
      · obtain ⟨rm2, c2⟩ := k3 i hi
        exact ⟨rm2, av_C_g c2 (G _ _ (by omega) (by omega))⟩
    refine ⟨X, ?_, av_fx_of (by rw [vX]) (fun hi => G 274 hi (Or.inr (by decide)) (Or.inr (by decide))), ⟨by rw [vX]; exact ⟨p0, p1, p2, p4, p5, p6, p7, p8, p9⟩, ?_⟩, ⟨rm, hCX⟩, x2, ⟨rm3, τ, K, av_C_g hC3 (G _ _ (by decide) (by decide)), hp3⟩, av_x4_g h4 (G _ _ (by decide) (by decide)), av_x5_g h5 (G _ _ (by decide) (by decide)), av_x6_g h6 (G _ _ (by decide) (by decide)), av_x8_g h8 (G _ _ (by decide) (by decide)), av_xp_g h9 (G _ _ (by decide) (by decide))⟩
    · have v0 : M1.2.1 (am_c 0 12) 0 = am_c 1 1 + 1 := by rw [v]; exact p0
      have v1 : M1.2.1 (am_c 0 12) 1 = am_c 25 3 + 1 := by rw [v]; exact p1
      have vX0 : X.2.1 (am_c 0 12) 0 = am_c 1 1 + 1 := by rw [vX]; exact p0
      simp only [ae_X12_restore_0, ae_X12_restore_7, ae_X12_restore_18, ae_X12_restore_22, ae_X12_restore_26, ae_X12_restore_29, ae_X12_restore_33, ae_X12_restore_36, ae_X12_restore_40, ae_X3_forget_0, am_bnx_v, am_bnx_e, am_tl_s, am_tl_n, am_rv_s, am_add_rx, p0, p2, p3, e, av_i2, v0, v1, ← hX, vX0, nX, not_true_eq_false, not_false_eq_true, if_true, if_false, am_1n0, or_true, true_or, eq_self, Bool.true_eq_false, Bool.false_eq_true, cond_true, cond_false]
    · rw [(G 0 1 (by decide) (by decide) 0 12 3 (by decide) (by decide) (by decide)).1, hp]
      exact p3
  · rw [hp] at p3
    have p3 : M.1 (am_c 0 12) 3 = 0 := p3
    simp only [ae_X12_restore_0, ae_X12_restore_7, ae_X12_restore_18, ae_X12_restore_22, ae_X12_restore_26, ae_X12_restore_29, ae_X12_restore_33, ae_X12_restore_36, ae_X12_restore_40, am_bnx_v, am_bnx_e, am_tl_s, am_tl_n, am_rv_s, am_add_rx, p3, not_true_eq_false, not_false_eq_true, if_true, if_false, am_1n0, or_true, true_or, eq_self, Bool.true_eq_false, Bool.false_eq_true, cond_true, cond_false]
