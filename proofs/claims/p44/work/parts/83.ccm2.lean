/-! the class: commands -/
theorem av_x5_c {M X : am_M} {n : Nat} {T : Nat → Int32} {f g : Int32} (h : av_x5 M n T f) (hr : X.2.1 (am_c 244 10) 0 = M.2.1 (am_c 244 10) 0) (h1 : X.1 (am_c 244 10) 1 = 0) (h4 : X.1 (am_c 244 10) 4 = g) : av_x5 X 0 T g :=
  ⟨hr.trans h.1, Nat.zero_le _, h1, h4, fun j hj => absurd hj (Nat.not_lt_zero _)⟩
theorem tc_cmds {σ : Nat → Int32} {L : List (Nat → Int32)} {H : List av_K} {P : Option av_K} {q : Int32 × Int32 × Int32} {n : Nat} {T : Nat → Int32} {f : Int32} {l : List Int32} {bd : Nat} {M : am_M} (hx : av_x M σ L H P q n T f l) (hok : av_ok bd σ L) (hbd : bd + 1240 < 1000000000) : ∃ M', av_fx M M' ∧
    ((tx_t T n).1 = false → am_val iX12_commands 0 [some (.ref (am_c 0 12)), none, none] [] M = some (.inr 2, M', 1, 6) ∧ av_x M' σ L H P q 0 T (nI (tx_t T n).2.1) l) ∧
    ((tx_t T n).1 = true → (∀ z, (tx_x (tx_t T n).2.2 0 σ L).1 = some z → am_val iX12_commands 0 [some (.ref (am_c 0 12)), none, none] [] M = some (.inr 0, M', 1, 6) ∧ av_x M' σ L H P z 0 T (-1) l) ∧
      ((tx_x (tx_t T n).2.2 0 σ L).1 = none → am_val iX12_commands 0 [some (.ref (am_c 0 12)), none, none] [] M = some (.inl (some (.int (nI (tx_t T n).2.2.length))), M', 0, 0) ∧ av_x M' (tx_x (tx_t T n).2.2 0 σ L).2.1 (tx_x (tx_t T n).2.2 0 σ L).2.2 (av_pu H (σ, L)) P q 0 T (-1) l ∧ av_ok (bd + 1240) (tx_x (tx_t T n).2.2 0 σ L).2.1 (tx_x (tx_t T n).2.2 0 σ L).2.2)) := by
  obtain ⟨h0, ⟨rm, hC⟩, h2, h3, h4, h5, h6, ⟨rm8, τ, K, hD⟩, h9⟩ := hx
  have hn := h5.2.1
  have ht : av_tx M n T := ⟨h5.1, h5.2.1, h5.2.2.1, h5.2.2.2.2⟩
  obtain ⟨M1, e1, m1, f1⟩ := tc_look ht
  have h01 := av_x0_g h0 (av_fl_g f1 (by decide))
  have p5 : M.2.1 (am_c 0 12) 5 = am_c 244 10 + 1 := h0.1.2.2.2.2.1
  have p7 : M.2.1 (am_c 0 12) 7 = am_c 248 5 + 1 := h0.1.2.2.2.2.2.2.1
  have q0 : M1.2.1 (am_c 0 12) 0 = am_c 1 1 + 1 := h01.1.1
  have q5 : M1.2.1 (am_c 0 12) 5 = am_c 244 10 + 1 := h01.1.2.2.2.2.1
  have q8 : M1.2.1 (am_c 0 12) 8 = am_c 249 1 + 1 := h01.1.2.2.2.2.2.2.2.1
  have r1 : M1.2.1 (am_c 244 10) 0 = M.2.1 (am_c 244 10) 0 := f1.2.1 _ _ _ (by decide) (by decide)
  cases ho : (tx_t T n).1 with
  | false =>
    rw [ho, if_neg (by decide)] at m1
    have hb := tx_t_u (T := T) hn
    have hne : ¬ nI (tx_t T n).2.1 = -1 := av_bi_nI (by omega)
    obtain ⟨M2, hM2⟩ : ∃ M2, M2 = av_i M1 (am_c 244 10) 1 0 := ⟨_, rfl⟩
    have G : ∀ lo hi, (hi ≤ 244 ∨ 249 ≤ lo ∨ (245 ≤ lo ∧ hi ≤ 248)) → av_ag M M2 lo hi := fun lo hi hd => by
      rw [hM2]
      exact av_ag_t (av_fl_g f1 hd) (av_ag_i (by decide) (by omega))
    refine ⟨M2, av_fx_of (by rw [hM2]; exact f1.1) (fun hi => G 274 hi (by omega)), fun _ => ⟨?_, av_x0_g h0 (G _ _ (by decide)), ⟨rm, av_C_g hC (G _ _ (by decide))⟩, av_x2_g h2 (G _ _ (by decide)), av_x3_g h3 (G _ _ (by decide)), av_x4_g h4 (G _ _ (by decide)), av_x5_c h5 (by rw [hM2]; exact r1) (by rw [hM2, av_jS]) (by rw [hM2, av_jK (by decide)]; exact m1), av_x6_g h6 (G _ _ (by decide)), ⟨rm8, τ, K, av_C_g hD (G _ _ (by decide))⟩, av_xp_g h9 (G _ _ (by decide))⟩, fun hh => absurd hh (by decide)⟩
    simp only [ae_X12_commands_0, ae_X12_commands_4, ae_X12_commands_8, ae_X12_commands_11, ae_X12_commands_15, ae_X12_commands_22, ae_X12_commands_26, ae_X12_commands_29, ae_X12_commands_40, ae_X12_commands_44, ae_X12_commands_48, ae_X12_commands_51, ae_X12_commands_55, ae_X12_commands_60, ae_X12_commands_68, ae_X12_commands_71, ae_X12_commands_75, ae_X12_commands_86, ae_X12_commands_90, ae_X12_commands_94, ae_X12_commands_97, ae_X12_commands_101, ae_X12_commands_105, ae_X12_commands_108, ae_X10_clear_0, am_bnx_v, am_bnx_e, am_tl_s, am_tl_n, am_rv_s, am_add_rx, p5, p7, e1, q5, m1, hne, ← hM2, not_true_eq_false, not_false_eq_true, if_true, if_false, am_1n0, or_true, true_or, eq_self, Bool.true_eq_false, Bool.false_eq_true, cond_true, cond_false]
  | true =>
    rw [ho, if_pos rfl] at m1
    obtain ⟨hy, hlen⟩ := tx_ty hn ho
    have hC1 := av_C_g hC (av_fl_g f1 (by decide))
    obtain ⟨M2, e2, c2, f2, v2⟩ := ac_take (Or.inr (by decide)) (av_C_g hD (av_fl_g f1 (by decide))) hC1
    obtain ⟨M3, e3, p3, k3, f3⟩ := tc_rewind (M := M2)
    have g3 : av_gd M1 M3 := av_gd_t (av_gd_f f2) (av_gd_ft f3)
    have h03 := av_x0_g h01 (av_gd_g g3 (by decide))
    obtain ⟨M4, rm', z1, z2, c4, f4⟩ := tc_dl (tx_t T n).2.2 0 0 bd σ L rm8 M3 (by omega) (Nat.le_refl _) (by omega) hy (av_tx_fd (av_tx_fl ht f1) g3) p3 k3 h03 (av_C_g c2 (av_ft_g f3 (by decide))) hok
    rw [nI_0] at z1 z2
    have g4 : av_gd M1 M4 := av_gd_t g3 f4
    have G4 : ∀ lo hi, (hi ≤ 243 ∨ 273 ≤ lo ∨ (245 ≤ lo ∧ hi ≤ 248)) → av_ag M M4 lo hi := fun lo hi hd => av_ag_t (av_fl_g f1 (by omega)) (av_gd_g g4 hd)
    have h04 := av_x0_g h0 (G4 _ _ (by decide))
    have s2 : M2.2.1 (am_c 0 12) 5 = am_c 244 10 + 1 := by rw [v2]; exact q5
    have s4 : M4.2.1 (am_c 0 12) 5 = am_c 244 10 + 1 := h04.1.2.2.2.2.1
    have t4 : M4.1 (am_c 244 10) 4 = -1 := ((g4.2 244 10 4 (by decide) (by decide) (by decide)).2 (by decide) (by decide)).trans m1
    have r4 : M4.2.1 (am_c 244 10) 0 = M.2.1 (am_c 244 10) 0 := ((g4.2 244 10 0 (by decide) (by decide) (by decide)).1).trans r1
    obtain ⟨M5, hM5⟩ : ∃ M5, M5 = av_i M4 (am_c 244 10) 1 0 := ⟨_, rfl⟩
    have G45 : ∀ lo hi, (hi ≤ 244 ∨ 245 ≤ lo) → av_ag M4 M5 lo hi := fun lo hi hd => by
      rw [hM5]
      exact av_ag_i (by decide) (by omega)
    have G5 : ∀ lo hi, (hi ≤ 243 ∨ 273 ≤ lo ∨ (245 ≤ lo ∧ hi ≤ 248)) → av_ag M M5 lo hi := fun lo hi hd => av_ag_t (G4 lo hi hd) (G45 lo hi (by omega))
    have v5 : M5.2 = M4.2 := by rw [hM5]; rfl
    have w5 : M5.2.2 = M.2.2 := by rw [v5, g4.1]; exact f1.1
    have h05 := av_x0_g h0 (G5 _ _ (by decide))
    have x5 : av_x5 M5 0 T (-1) := av_x5_c h5 (by rw [v5]; exact r4) (by rw [hM5, av_jS]) (by rw [hM5, av_jK (by decide)]; exact t4)
    have u0 : M5.2.1 (am_c 0 12) 0 = am_c 1 1 + 1 := h05.1.1
    have u1 : M5.2.1 (am_c 0 12) 1 = am_c 25 3 + 1 := h05.1.2.1
    have u8 : M5.2.1 (am_c 0 12) 8 = am_c 249 1 + 1 := h05.1.2.2.2.2.2.2.2.1
    have hC5 := av_C_g hC (G5 _ _ (by decide))
    have c5 := av_C_g c4 (G45 _ _ (by decide))
    cases hz : (tx_x (tx_t T n).2.2 0 σ L).1 with
    | some z =>
      obtain ⟨y1, y2⟩ := z1 z hz
      refine ⟨M5, av_fx_of w5 (fun hi => G5 274 hi (by omega)), fun hh => absurd hh (by decide), fun _ => ⟨fun z' hz' => ?_, fun hz' => absurd hz' (by simp)⟩⟩
      rw [← Option.some.inj hz']
      refine ⟨?_, h05, ⟨rm, hC5⟩, av_x2_g h2 (G5 _ _ (by decide)), av_x3_g h3 (G5 _ _ (by decide)), av_x4_g y2 (G45 _ _ (by decide)), x5, av_x6_g h6 (G5 _ _ (by decide)), ⟨rm', _, _, c5⟩, av_xp_g h9 (G5 _ _ (by decide))⟩
      simp only [ae_X12_commands_0, ae_X12_commands_4, ae_X12_commands_8, ae_X12_commands_11, ae_X12_commands_15, ae_X12_commands_22, ae_X12_commands_26, ae_X12_commands_29, ae_X12_commands_40, ae_X12_commands_44, ae_X12_commands_48, ae_X12_commands_51, ae_X12_commands_55, ae_X12_commands_60, ae_X12_commands_68, ae_X12_commands_71, ae_X12_commands_75, ae_X12_commands_86, ae_X12_commands_90, ae_X12_commands_94, ae_X12_commands_97, ae_X12_commands_101, ae_X12_commands_105, ae_X12_commands_108, ae_X12_isRefusedInDraft_0, ae_X12_isRefusedInDraft_4, ae_X12_isRefusedInDraft_7, ae_X12_isRefusedInDraft_15, ae_X12_isRefusedInDraft_19, ae_X12_isRefusedInDraft_23, ae_X12_isRefusedInDraft_26, ae_X12_isRefusedInDraft_29, ae_X12_isRefusedInDraft_33, ae_X12_isRefusedInDraft_37, ae_X12_isRefusedInDraft_41, ae_X12_isRefusedInDraft_44, ae_X12_isRefusedInDraft_47, ae_X12_isRefusedInDraft_51, ae_X12_isRefusedInDraft_57, ae_X12_isRefusedInDraft_61, ae_X12_isRefusedInDraft_65, ae_X12_isRefusedInDraft_68, ae_X12_isRefusedInDraft_75, ae_X10_clear_0, am_bnx_v, am_bnx_e, am_tl_s, am_tl_n, am_rv_s, am_add_rx, p5, p7, e1, q5, m1, q8, q0, e2, s2, e3, y1, s4, ← hM5, not_true_eq_false, not_false_eq_true, if_true, if_false, am_1n0, or_true, true_or, eq_self, Bool.true_eq_false, Bool.false_eq_true, cond_true, cond_false]
    | none =>
      obtain ⟨y1, y2, y3, y4⟩ := z2 hz
      rw [Nat.zero_add] at y2
      obtain ⟨M6, e6, x6, v6, g6⟩ := ac_hkeep (av_x2_g h2 (G5 _ _ (by decide))) hC5
      obtain ⟨M7, e7, c7, f7, v7⟩ := ac_take (Or.inl (by decide)) (av_C_g hC5 (g6 _ _ (by decide))) (av_C_g c5 (g6 _ _ (by decide)))
      have u0' : M6.2.1 (am_c 0 12) 0 = am_c 1 1 + 1 := by rw [v6]; exact u0
      have u8' : M6.2.1 (am_c 0 12) 8 = am_c 249 1 + 1 := by rw [v6]; exact u8
      have G57 : ∀ lo hi, (hi ≤ 25 ∨ 219 ≤ lo) → (hi ≤ 1 ∨ 1 + 24 ≤ lo) → av_ag M5 M7 lo hi := fun lo hi a b => av_ag_t (g6 lo hi a) (av_fr_ag f7 b)
      refine ⟨M7, av_fx_of (by rw [v7, v6]; exact w5) (fun hi => av_ag_t (G5 274 hi (by omega)) (G57 274 hi (by omega) (by omega))), fun hh => absurd hh (by decide), fun _ => ⟨fun z' hz' => absurd hz' (by simp), fun _ => ⟨?_, ⟨av_x0_g h05 (G57 _ _ (by decide) (by decide)), ⟨rm, c7⟩, av_x2_g x6 (av_fr_ag f7 (by decide)), av_x3_g h3 (av_ag_t (G5 _ _ (by decide)) (G57 _ _ (by decide) (by decide))), av_x4_g (av_x4_g (av_x4_g h4 (av_fl_g f1 (by decide))) (av_ag_t (av_ag_t (av_fr_ag f2 (by decide)) (av_ft_g f3 (by decide))) y4)) (av_ag_t (G45 _ _ (by decide)) (G57 _ _ (by decide) (by decide))), av_x5_g x5 (G57 _ _ (by decide) (by decide)), av_x6_g h6 (av_ag_t (G5 _ _ (by decide)) (G57 _ _ (by decide) (by decide))), ⟨rm', _, _, av_C_g c5 (G57 _ _ (by decide) (by decide))⟩, av_xp_g h9 (av_ag_t (G5 _ _ (by decide)) (G57 _ _ (by decide) (by decide)))⟩, av_ok_m y3 (by omega)⟩⟩⟩
      simp only [ae_X12_commands_0, ae_X12_commands_4, ae_X12_commands_8, ae_X12_commands_11, ae_X12_commands_15, ae_X12_commands_22, ae_X12_commands_26, ae_X12_commands_29, ae_X12_commands_40, ae_X12_commands_44, ae_X12_commands_48, ae_X12_commands_51, ae_X12_commands_55, ae_X12_commands_60, ae_X12_commands_68, ae_X12_commands_71, ae_X12_commands_75, ae_X12_commands_86, ae_X12_commands_90, ae_X12_commands_94, ae_X12_commands_97, ae_X12_commands_101, ae_X12_commands_105, ae_X12_commands_108, ae_X12_isRefusedInDraft_0, ae_X12_isRefusedInDraft_4, ae_X12_isRefusedInDraft_7, ae_X12_isRefusedInDraft_15, ae_X12_isRefusedInDraft_19, ae_X12_isRefusedInDraft_23, ae_X12_isRefusedInDraft_26, ae_X12_isRefusedInDraft_29, ae_X12_isRefusedInDraft_33, ae_X12_isRefusedInDraft_37, ae_X12_isRefusedInDraft_41, ae_X12_isRefusedInDraft_44, ae_X12_isRefusedInDraft_47, ae_X12_isRefusedInDraft_51, ae_X12_isRefusedInDraft_57, ae_X12_isRefusedInDraft_61, ae_X12_isRefusedInDraft_65, ae_X12_isRefusedInDraft_68, ae_X12_isRefusedInDraft_75, ae_X10_clear_0, am_bnx_v, am_bnx_e, am_tl_s, am_tl_n, am_rv_s, am_add_rx, p5, p7, e1, q5, m1, q8, q0, e2, s2, e3, y1, s4, y2, ← hM5, u0, u1, u8, e6, u0', u8', e7, not_true_eq_false, not_false_eq_true, if_true, if_false, am_1n0, or_true, true_or, eq_self, Bool.true_eq_false, Bool.false_eq_true, cond_true, cond_false]
