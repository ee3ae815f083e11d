/-! the second implementation: orders -/
def av_fm (D : Nat) (M M' : am_M) : Prop := M'.2 = M.2 ∧ ∀ x k j, k < 64 → ¬ (x = D ∧ k = 13 ∧ 16 ≤ j ∧ j ≤ 22) → ¬ (x = D + 1 ∧ k = 18) → M'.1 (am_c x k) j = M.1 (am_c x k) j
theorem av_fm_0 {D : Nat} {M : am_M} : av_fm D M M := ⟨rfl, fun _ _ _ _ _ _ => rfl⟩
theorem av_fm_t {D : Nat} {M x y : am_M} (h : av_fm D M x) (h' : av_fm D x y) : av_fm D M y := ⟨h'.1.trans h.1, fun a k j h1 h2 h3 => (h'.2 a k j h1 h2 h3).trans (h.2 a k j h1 h2 h3)⟩
theorem av_fm_s {D a : Nat} {x : Int32} {M : am_M} : av_fm D M (av_i M (am_c (D + 1) 18) a x) := ⟨rfl, fun c k j hk _ h3 => am_up_a (am_c_ne hk (by decide) h3)⟩
theorem av_fm_f {D f : Nat} {x : Int32} {M : am_M} (h1 : 16 ≤ f) (h2 : f ≤ 22) : av_fm D M (av_i M (am_c D 13) f x) := ⟨rfl, fun c k j hk h _ => by
  show am_up M.1 (am_c D 13) f x (am_c c k) j = _
  refine am_up_ak (fun hh => h ?_)
  have e := hh.1
  rw [am_c_inj hk (by decide)] at e
  exact ⟨e.1, e.2, by omega, by omega⟩⟩
theorem av_is {M : am_M} {a k : Nat} {v : Int32} : (av_i M a k v).1 a = av_up (M.1 a) k v := by
  funext j
  show am_up M.1 a k v a j = av_up (M.1 a) k v j
  unfold am_up av_up
  by_cases h : j = k
  · rw [if_pos h, if_pos rfl, if_pos h]
  · rw [if_neg h, if_neg h]
theorem av_isf {D : Nat} {M : am_M} {k : Nat} {v : Int32} : (av_i M (am_c D 13) k v).1 (am_c (D + 1) 18) = M.1 (am_c (D + 1) 18) := by
  funext j
  exact am_up_a (am_c_ne (by decide) (by decide) (by omega))
theorem av_ifs {D : Nat} {M : am_M} {k f : Nat} {v : Int32} : (av_i M (am_c (D + 1) 18) k v).1 (am_c D 13) f = M.1 (am_c D 13) f := am_up_a (am_c_ne (by decide) (by decide) (by omega))
theorem av_iff {D : Nat} {M : am_M} {f : Nat} {v : Int32} : (av_i M (am_c D 13) f v).1 (am_c D 13) f = v := am_up_s
theorem av_ifg {D : Nat} {M : am_M} {f g : Nat} {v : Int32} (h : ¬ g = f) : (av_i M (am_c D 13) f v).1 (am_c D 13) g = M.1 (am_c D 13) g := am_up_k h
def av_MO (D : Nat) (M M' : am_M) (code : Int32) (q : Option (Int32 × Int32)) (ans : Int32) (σ' : Nat → Int32) (L' : List (Nat → Int32)) : Prop := av_fm D M M' ∧ match q with
  | none => code = 0 ∧ M'.1 (am_c D 13) 17 = ans ∧ av_mr (M'.1 (am_c (D + 1) 18)) σ' L'
  | some (x, y) => code = x ∧ M'.1 (am_c D 13) 16 = y ∧ M'.1 (am_c (D + 1) 18) = M.1 (am_c (D + 1) 18)
theorem av_MO_r {D : Nat} {M : am_M} {x y ans : Int32} {σ' : Nat → Int32} {L' : List (Nat → Int32)} {q : Option (Int32 × Int32)} (hq : q = some (x, y)) : av_MO D M (av_i M (am_c D 13) 16 y) x q ans σ' L' := by
  rw [hq]
  exact ⟨av_fm_f (by decide) (by decide), rfl, av_iff, av_isf⟩
theorem av_MO_d {D : Nat} {M X : am_M} {ans : Int32} {σ' : Nat → Int32} {L' : List (Nat → Int32)} {q : Option (Int32 × Int32)} (hq : q = none) (h1 : av_fm D M X) (h2 : av_mr (X.1 (am_c (D + 1) 18)) σ' L') : av_MO D M (av_i X (am_c D 13) 17 ans) 0 q ans σ' L' := by
  rw [hq]
  exact ⟨av_fm_t h1 (av_fm_f (by decide) (by decide)), rfl, av_iff, by rw [av_isf]; exact h2⟩
theorem av_mr_up {s σ : Nat → Int32} {L : List (Nat → Int32)} {i : Nat} {x : Int32} (h : av_mr s σ L) (hi : i < 80) (h1 : i ≠ 1) : av_mr (av_up s i x) (av_up σ i x) L := by
  refine ⟨fun j hj hj1 => ?_, by rw [av_up_n (Ne.symm h1)]; exact h.2.1, fun k hk w hw => by rw [av_up_n (by omega)]; exact h.2.2 k hk w hw⟩
  by_cases hji : j = i
  · rw [hji, av_up_s, av_up_s]
  · rw [av_up_n hji, av_up_n hji]; exact h.1 j hj hj1
/-- the model's memory holds the canyon -/
def av_MD (D : Nat) (M : am_M) (σ : Nat → Int32) (L : List (Nat → Int32)) : Prop := av_msh M.2.1 D ∧ av_mr (M.1 (am_c (D + 1) 18)) σ L
theorem mc_blows {D bd : Nat} {σ : Nat → Int32} {L : List (Nat → Int32)} {x : Int32} {M : am_M} (hM : av_MD D M σ L) (_ : av_ok bd σ L) : ∃ M' code, am_val iX13_blows 0 [some (.ref (am_c D 13)), some (.int x), none] [] M = some (.inl (some (.int code)), M', 0, 0) ∧ av_MO D M M' code (av_q7 σ x) (σ 2) (av_up σ 2 x) L := by
  obtain ⟨hm, hr⟩ := hM
  have e2 := hr.1 2 (by decide) (by decide)
  cases a : am_wt x (-2) 2 with
  | false =>
    refine ⟨_, _, ?_, av_MO_r (by unfold av_q7; rw [if_pos a])⟩
    simp only [ae_X13_blows_0, ae_X13_blows_7, ae_X13_blows_10, ae_X13_blows_16, ae_X13_blows_17, ae_X13_blows_21, ae_X13_blows_29, ae_X13_blows_36, ae_X13_blows_37, ae_X13_blows_41, ae_X13_blows_49, am_bnx_v, am_bnx_e, am_tl_s, am_tl_n, am_rv_s, am_add_rx, mc_in, mc_refused, a, am_bi_f, not_true_eq_false, not_false_eq_true, if_true, if_false, am_1n0, or_true, true_or, eq_self, Bool.true_eq_false, Bool.false_eq_true, cond_true, cond_false]
  | true =>
    by_cases b : x = σ 2
    · subst b
      have hq : av_q7 σ (σ 2) = some (6, σ 2) := by
        unfold av_q7
        rw [if_neg (by rw [a]; decide), if_pos (rfl : σ 2 = σ 2)]
      refine ⟨_, _, ?_, av_MO_r hq⟩
      simp only [ae_X13_blows_0, ae_X13_blows_7, ae_X13_blows_10, ae_X13_blows_16, ae_X13_blows_17, ae_X13_blows_21, ae_X13_blows_29, ae_X13_blows_36, ae_X13_blows_37, ae_X13_blows_41, ae_X13_blows_49, am_bnx_v, am_bnx_e, am_tl_s, am_tl_n, am_rv_s, am_add_rx, mc_in, mc_refused, a, am_bi_t, not_true_eq_false, not_false_eq_true, if_true, if_false, am_1n0, or_true, true_or, eq_self, Bool.true_eq_false, Bool.false_eq_true, cond_true, cond_false, hm.1, e2]
    · refine ⟨_, _, ?_, av_MO_d (by unfold av_q7; rw [if_neg (by rw [a]; decide), if_neg b]) (av_fm_s (a := 2) (x := x)) (by rw [av_is]; exact av_mr_up hr (by decide) (by decide))⟩
      have b' : ¬ σ 2 = x := fun h => b h.symm
      simp only [ae_X13_blows_0, ae_X13_blows_7, ae_X13_blows_10, ae_X13_blows_16, ae_X13_blows_17, ae_X13_blows_21, ae_X13_blows_29, ae_X13_blows_36, ae_X13_blows_37, ae_X13_blows_41, ae_X13_blows_49, am_bnx_v, am_bnx_e, am_tl_s, am_tl_n, am_rv_s, am_add_rx, mc_in, mc_done, a, am_bi_t, not_true_eq_false, not_false_eq_true, if_true, if_false, am_1n0, or_true, true_or, eq_self, Bool.true_eq_false, Bool.false_eq_true, cond_true, cond_false, hm.1, e2, b']
theorem mc_tellsWall {D bd : Nat} {σ : Nat → Int32} {L : List (Nat → Int32)} {x h : Int32} {M : am_M} (hM : av_MD D M σ L) (hok : av_ok bd σ L) : ∃ M' code, am_val iX13_tellsWall 0 [some (.ref (am_c D 13)), some (.int x), some (.int h), none] [] M = some (.inl (some (.int code)), M', 0, 0) ∧ av_MO D M M' code (av_q0 σ x h) (σ (18 + 2 * av_ix x)) (av_o0 σ (av_ix x) h) L := by
  obtain ⟨hm, hr⟩ := hM
  obtain ⟨_, _, _, _, _, hn1, hn2, hl8⟩ := hok
  cases a : am_pl x with
  | false =>
    refine ⟨_, _, ?_, av_MO_r (by unfold av_q0; rw [if_pos a])⟩
    simp only [ae_X13_tellsWall_0, ae_X13_tellsWall_4, ae_X13_tellsWall_7, ae_X13_tellsWall_14, ae_X13_tellsWall_17, ae_X13_tellsWall_23, ae_X13_tellsWall_24, ae_X13_tellsWall_29, ae_X13_tellsWall_35, ae_X13_tellsWall_42, ae_X13_tellsWall_43, ae_X13_tellsWall_48, ae_X13_tellsWall_51, ae_X13_tellsWall_58, ae_X13_tellsWall_61, ae_X13_tellsWall_62, ae_X13_tellsWall_66, ae_X13_tellsWall_78, ae_X13_tellsWall_82, ae_X13_tellsWall_92, ae_X13_tellsWall_97, am_bnx_v, am_bnx_e, am_tl_s, am_tl_n, am_rv_s, am_add_rx, mc_isPlace, mc_refused, a, am_bi_f, not_true_eq_false, not_false_eq_true, if_true, if_false, am_1n0, or_true, true_or, eq_self, Bool.true_eq_false, Bool.false_eq_true, cond_true, cond_false]
  | true =>
    cases b : am_wt h 0 9 with
    | false =>
      refine ⟨_, _, ?_, av_MO_r (by unfold av_q0; rw [if_neg (by rw [a]; decide), if_pos b])⟩
      simp only [ae_X13_tellsWall_0, ae_X13_tellsWall_4, ae_X13_tellsWall_7, ae_X13_tellsWall_14, ae_X13_tellsWall_17, ae_X13_tellsWall_23, ae_X13_tellsWall_24, ae_X13_tellsWall_29, ae_X13_tellsWall_35, ae_X13_tellsWall_42, ae_X13_tellsWall_43, ae_X13_tellsWall_48, ae_X13_tellsWall_51, ae_X13_tellsWall_58, ae_X13_tellsWall_61, ae_X13_tellsWall_62, ae_X13_tellsWall_66, ae_X13_tellsWall_78, ae_X13_tellsWall_82, ae_X13_tellsWall_92, ae_X13_tellsWall_97, am_bnx_v, am_bnx_e, am_tl_s, am_tl_n, am_rv_s, am_add_rx, mc_isPlace, mc_in, mc_refused, a, b, am_bi_f, am_bi_t, not_true_eq_false, not_false_eq_true, if_true, if_false, am_1n0, or_true, true_or, eq_self, Bool.true_eq_false, Bool.false_eq_true, cond_true, cond_false]
    | true =>
      have hq : av_q0 σ x h = if av_hf σ x = h then some (6, h) else if av_ca σ x ≤ 0 then none else some (2, av_ca σ x) := by
        unfold av_q0
        rw [if_neg (by rw [a]; decide), if_neg (by rw [b]; decide)]
      obtain ⟨p, hp, rfl⟩ := am_pl_n a
      have e1 := mc_height hm hp
      rw [hr.1 _ (by omega) (by omega)] at e1
      rw [av_hf_n hp] at hq
      have hix : av_ix (nI p) = p := av_ix_n (by omega)
      have e3 : am_val iX13_playersAt 0 [some (.ref (am_c D 13)), some (.int (nI p)), none, none] [] M = some (.inl (some (.int (av_ca σ (nI p)))), M, 0, 0) := mc_playersAt (t := nI p) hm hr hn1 hn2 hl8
      by_cases c : σ (18 + 2 * p) = h
      · refine ⟨_, _, ?_, av_MO_r (by rw [hq, if_pos c])⟩
        simp only [ae_X13_tellsWall_0, ae_X13_tellsWall_4, ae_X13_tellsWall_7, ae_X13_tellsWall_14, ae_X13_tellsWall_17, ae_X13_tellsWall_23, ae_X13_tellsWall_24, ae_X13_tellsWall_29, ae_X13_tellsWall_35, ae_X13_tellsWall_42, ae_X13_tellsWall_43, ae_X13_tellsWall_48, ae_X13_tellsWall_51, ae_X13_tellsWall_58, ae_X13_tellsWall_61, ae_X13_tellsWall_62, ae_X13_tellsWall_66, ae_X13_tellsWall_78, ae_X13_tellsWall_82, ae_X13_tellsWall_92, ae_X13_tellsWall_97, am_bnx_v, am_bnx_e, am_tl_s, am_tl_n, am_rv_s, am_add_rx, mc_isPlace, mc_in, mc_refused, a, b, am_bi_t, not_true_eq_false, not_false_eq_true, if_true, if_false, am_1n0, or_true, true_or, eq_self, Bool.true_eq_false, Bool.false_eq_true, cond_true, cond_false, e1, c]
      · by_cases d : av_ca σ (nI p) ≤ 0
        · have hq' : av_q0 σ (nI p) h = none := by rw [hq, if_neg c, if_pos d]
          have i1 := am_in_n (show 18 + 2 * p < 120 by omega) (by decide)
          have t1 := am_tn (show 18 + 2 * p < 2147483648 by omega)
          have x1 : nI (18 + 2 * p) + 1 = nI (19 + 2 * p) := by rw [nI_1]; congr 1; omega
          have i2 := am_in_n (show 19 + 2 * p < 120 by omega) (by decide)
          have t2 := am_tn (show 19 + 2 * p < 2147483648 by omega)
          by_cases e : h = 0
          · subst e
            refine ⟨_, _, ?_, av_MO_d hq' (av_fm_t (av_fm_s (a := 18 + 2 * p) (x := 0)) (av_fm_s (a := 19 + 2 * p) (x := -1))) ?_⟩
            · simp only [ae_X13_tellsWall_0, ae_X13_tellsWall_4, ae_X13_tellsWall_7, ae_X13_tellsWall_14, ae_X13_tellsWall_17, ae_X13_tellsWall_23, ae_X13_tellsWall_24, ae_X13_tellsWall_29, ae_X13_tellsWall_35, ae_X13_tellsWall_42, ae_X13_tellsWall_43, ae_X13_tellsWall_48, ae_X13_tellsWall_51, ae_X13_tellsWall_58, ae_X13_tellsWall_61, ae_X13_tellsWall_62, ae_X13_tellsWall_66, ae_X13_tellsWall_78, ae_X13_tellsWall_82, ae_X13_tellsWall_92, ae_X13_tellsWall_97, am_bnx_v, am_bnx_e, am_tl_s, am_tl_n, am_rv_s, am_add_rx, mc_isPlace, mc_in, mc_done, a, b, am_bi_t, not_true_eq_false, not_false_eq_true, if_true, if_false, am_1n0, or_true, true_or, eq_self, Bool.true_eq_false, Bool.false_eq_true, cond_true, cond_false, e1, c, e3, d, hm.1, av_x18, i1, t1, x1, i2, t2, av_i2, hix]
            · unfold av_o0
              rw [if_pos (rfl : (0 : Int32) = 0), av_is, av_is, hix]
              exact av_mr_up (av_mr_up hr (by omega) (by omega)) (by omega) (by omega)
          · refine ⟨_, _, ?_, av_MO_d hq' (av_fm_s (a := 18 + 2 * p) (x := h)) ?_⟩
            · simp only [ae_X13_tellsWall_0, ae_X13_tellsWall_4, ae_X13_tellsWall_7, ae_X13_tellsWall_14, ae_X13_tellsWall_17, ae_X13_tellsWall_23, ae_X13_tellsWall_24, ae_X13_tellsWall_29, ae_X13_tellsWall_35, ae_X13_tellsWall_42, ae_X13_tellsWall_43, ae_X13_tellsWall_48, ae_X13_tellsWall_51, ae_X13_tellsWall_58, ae_X13_tellsWall_61, ae_X13_tellsWall_62, ae_X13_tellsWall_66, ae_X13_tellsWall_78, ae_X13_tellsWall_82, ae_X13_tellsWall_92, ae_X13_tellsWall_97, am_bnx_v, am_bnx_e, am_tl_s, am_tl_n, am_rv_s, am_add_rx, mc_isPlace, mc_in, mc_done, a, b, am_bi_t, not_true_eq_false, not_false_eq_true, if_true, if_false, am_1n0, or_true, true_or, eq_self, Bool.true_eq_false, Bool.false_eq_true, cond_true, cond_false, e1, c, e3, d, hm.1, av_x18, i1, t1, e, hix]
            · unfold av_o0
              rw [if_neg e, av_is, hix]
              exact av_mr_up hr (by omega) (by omega)
        · refine ⟨_, _, ?_, av_MO_r (by rw [hq, if_neg c, if_neg d])⟩
          simp only [ae_X13_tellsWall_0, ae_X13_tellsWall_4, ae_X13_tellsWall_7, ae_X13_tellsWall_14, ae_X13_tellsWall_17, ae_X13_tellsWall_23, ae_X13_tellsWall_24, ae_X13_tellsWall_29, ae_X13_tellsWall_35, ae_X13_tellsWall_42, ae_X13_tellsWall_43, ae_X13_tellsWall_48, ae_X13_tellsWall_51, ae_X13_tellsWall_58, ae_X13_tellsWall_61, ae_X13_tellsWall_62, ae_X13_tellsWall_66, ae_X13_tellsWall_78, ae_X13_tellsWall_82, ae_X13_tellsWall_92, ae_X13_tellsWall_97, am_bnx_v, am_bnx_e, am_tl_s, am_tl_n, am_rv_s, am_add_rx, mc_isPlace, mc_in, mc_refused, a, b, am_bi_t, not_true_eq_false, not_false_eq_true, if_true, if_false, am_1n0, or_true, true_or, eq_self, Bool.true_eq_false, Bool.false_eq_true, cond_true, cond_false, e1, c, e3, d]
