/-! the second implementation: the eight orders, told from outside -/
theorem av_y0_f {D : Nat} {M X : am_M} {σ : Nat → Int32} {L : List (Nat → Int32)} (h : av_y0 D M σ L) (h1 : X.2 = M.2) (h2 : X.1 (am_c (D + 1) 18) = M.1 (am_c (D + 1) 18)) : av_y0 D X σ L := by
  unfold av_y0
  rw [h1, h2]
  exact h
theorem av_y2_f {D : Nat} {M X : am_M} {H : List av_K} (h : av_y2 D M H) (h1 : X.1 (am_c D 13) 5 = M.1 (am_c D 13) 5) (h2 : X.1 (am_c (D + 4) 19) = M.1 (am_c (D + 4) 19)) : av_y2 D X H := by
  unfold av_y2
  rw [h1, h2]
  exact h
theorem av_y3_f {D : Nat} {M X : am_M} {P : Option av_K} (h : av_y3 D M P) (h1 : X.1 (am_c D 13) 6 = M.1 (am_c D 13) 6) (h2 : X.1 (am_c (D + 3) 18) = M.1 (am_c (D + 3) 18)) : av_y3 D X P := by
  unfold av_y3
  rw [h1, h2]
  exact h
theorem av_y4_f {D : Nat} {M X : am_M} {q : Int32 × Int32 × Int32} (h : av_y4 D M q) (h1 : X.1 (am_c D 13) 13 = M.1 (am_c D 13) 13) (h2 : X.1 (am_c D 13) 14 = M.1 (am_c D 13) 14) (h3 : X.1 (am_c D 13) 15 = M.1 (am_c D 13) 15) : av_y4 D X q := by
  unfold av_y4
  rw [h1, h2, h3]
  exact h
theorem av_y5_f {D n : Nat} {M X : am_M} {T : Nat → Int32} {f : Int32} (h : av_y5 D M n T f) (h1 : X.1 (am_c D 13) 10 = M.1 (am_c D 13) 10) (h2 : X.1 (am_c D 13) 12 = M.1 (am_c D 13) 12) (h3 : X.1 (am_c (D + 5) 20) = M.1 (am_c (D + 5) 20)) : av_y5 D X n T f := by
  unfold av_y5
  rw [h1, h2, h3]
  exact h
theorem av_y6_f {D : Nat} {M X : am_M} {l : List Int32} (h : av_y6 D M l) (h1 : X.1 (am_c D 13) 11 = M.1 (am_c D 13) 11) (h2 : X.1 (am_c (D + 7) 20) = M.1 (am_c (D + 7) 20)) : av_y6 D X l := by
  unfold av_y6
  rw [h1, h2]
  exact h
/-- only what is passing is changed: thrown, about and behind, the frame, what is told -/
def av_ys (D : Nat) (M X : am_M) : Prop := X.2 = M.2 ∧ ∀ c k j, k < 64 → ¬ (c = D ∧ k = 13 ∧ (j = 0 ∨ 16 ≤ j)) → ¬ (c = D + 2 ∧ k = 18) → ¬ (c = D + 6 ∧ k = 21) → X.1 (am_c c k) j = M.1 (am_c c k) j
theorem av_ys_0 {D : Nat} {M : am_M} : av_ys D M M := ⟨rfl, fun _ _ _ _ _ _ _ => rfl⟩
theorem av_ys_t {D : Nat} {M X Y : am_M} (h : av_ys D M X) (h' : av_ys D X Y) : av_ys D M Y := ⟨h'.1.trans h.1, fun c k j hk a b d => (h'.2 c k j hk a b d).trans (h.2 c k j hk a b d)⟩
theorem av_ys_i {D j : Nat} {x : Int32} {M : am_M} (hj : j = 0 ∨ 16 ≤ j) : av_ys D M (av_i M (am_c D 13) j x) := ⟨rfl, fun c k j' hk a _ _ => am_up_ak (fun hh => a (by
  have e := hh.1
  rw [am_c_inj hk (by decide)] at e
  exact ⟨e.1, e.2, by omega⟩))⟩
theorem av_ys_fs {D : Nat} {M X : am_M} (h : av_fs D M X) : av_ys D M X := ⟨h.1, fun c k j hk a _ _ => h.2 c k j hk (fun hh => a ⟨hh.1, hh.2.1, by omega⟩)⟩
theorem av_ys_fy {D : Nat} {M X : am_M} (hD : 274 ≤ D) (h : av_ys D M X) : av_fy M X := ⟨h.1, fun c k j hk a => h.2 c k j hk (by omega) (by omega) (by omega)⟩
theorem av_ys_r {D : Nat} {M X : am_M} (h : av_ys D M X) {a k : Nat} (hk : k < 64) (h1 : ¬ (a = D ∧ k = 13)) (h2 : ¬ (a = D + 2 ∧ k = 18)) (h3 : ¬ (a = D + 6 ∧ k = 21)) : X.1 (am_c a k) = M.1 (am_c a k) :=
  funext fun j => h.2 a k j hk (fun hh => h1 ⟨hh.1, hh.2.1⟩) h2 h3
theorem av_ys_d {D : Nat} {M X : am_M} (h : av_ys D M X) {j : Nat} (h1 : j ≠ 0) (h2 : j < 16) : X.1 (am_c D 13) j = M.1 (am_c D 13) j := h.2 D 13 j (by decide) (by omega) (by omega) (by omega)
theorem av_y_s {σ : Nat → Int32} {L : List (Nat → Int32)} {H : List av_K} {P : Option av_K} {q : Int32 × Int32 × Int32} {n : Nat} {T : Nat → Int32} {f : Int32} {l : List Int32} {D : Nat} {M X : am_M} (hy : av_y D M σ L H P q n T f l) (h : av_ys D M X) : av_y D X σ L H P q n T f l := by
  obtain ⟨y0, y2, y3, y4, y5, y6⟩ := hy
  exact ⟨av_y0_f y0 h.1 (av_ys_r h (by decide) (by omega) (by omega) (by omega)), av_y2_f y2 (av_ys_d h (by decide) (by decide)) (av_ys_r h (by decide) (by omega) (by omega) (by omega)), av_y3_f y3 (av_ys_d h (by decide) (by decide)) (av_ys_r h (by decide) (by omega) (by omega) (by omega)), av_y4_f y4 (av_ys_d h (by decide) (by decide)) (av_ys_d h (by decide) (by decide)) (av_ys_d h (by decide) (by decide)), av_y5_f y5 (av_ys_d h (by decide) (by decide)) (av_ys_d h (by decide) (by decide)) (av_ys_r h (by decide) (by omega) (by omega) (by omega)), av_y6_f y6 (av_ys_d h (by decide) (by decide)) (av_ys_r h (by decide) (by omega) (by omega) (by omega))⟩
/-- how an order ends: carried out, or refused -/
def av_yo (D : Nat) (M' : am_M) (r : Int32) (qo : Option (Int32 × Int32)) (ans : Int32) (σ' : Nat → Int32) (L' : List (Nat → Int32)) (σ : Nat → Int32) (L : List (Nat → Int32)) (H : List av_K) (P : Option av_K) (q : Int32 × Int32 × Int32) (n : Nat) (T : Nat → Int32) (f : Int32) (l : List Int32) : Prop := match qo with
  | none => r = ans ∧ M'.1 (am_c D 13) 0 = 0 ∧ av_y D M' σ' L' (av_pu H (σ, L)) P q n T f l
  | some (x, y) => M'.1 (am_c D 13) 0 = 1 ∧ av_y D M' σ L H P (x, y, 0) n T f l
theorem mc_chg {σ : Nat → Int32} {L : List (Nat → Int32)} {H : List av_K} {P : Option av_K} {q : Int32 × Int32 × Int32} {n : Nat} {T : Nat → Int32} {f : Int32} {l : List Int32} {D bd : Nat} {x : Int32} {M M2 : am_M} {σ' : Nat → Int32} {L' : List (Nat → Int32)} (hD : 274 ≤ D) (hy : av_y D M σ L H P q n T f l) (hfr : ∀ j, j < 120 → M2.1 (am_c (D + 2) 18) j = M.1 (am_c (D + 1) 18) j) (hS : av_okS bd σ L H P) (hv : M2.2 = M.2) (hr : av_mr (M2.1 (am_c (D + 1) 18)) σ' L') (hc : ∀ c k j, k < 64 → ¬ (c = D ∧ k = 13 ∧ (j = 0 ∨ 16 ≤ j)) → ¬ (c = D + 1 ∧ k = 18) → ¬ (c = D + 2 ∧ k = 18) → ¬ (c = D + 6 ∧ k = 21) → M2.1 (am_c c k) j = M.1 (am_c c k) j) :
    ∃ M3, am_val iX13_changed 0 [some (.ref (am_c D 13)), some (.int x), none] [] M2 = some (.inl (some (.int x)), M3, 0, 0) ∧ av_fy M2 M3 ∧ M3.1 (am_c D 13) 0 = M2.1 (am_c D 13) 0 ∧ av_y D M3 σ' L' (av_pu H (σ, L)) P q n T f l := by
  obtain ⟨⟨hm, hr0⟩, ⟨hl, h5, hh⟩, y3, y4, y5, y6⟩ := hy
  have hL := hS.1.2.2.2.2.2.2.2
  have hlk : ∀ j, j < H.length → (av_h H j).2.length ≤ 8 := fun j hj => (hS.2.1 j hj).2.2.2.2.2.2.2
  have gd : ∀ j, j ≠ 0 → j < 16 → M2.1 (am_c D 13) j = M.1 (am_c D 13) j := fun j a b => hc D 13 j (by decide) (by omega) (by omega) (by omega) (by omega)
  obtain ⟨M3, κ', e, v, hκ, k5, r1, r2, fr⟩ := mc_changed (x := x) (by rw [hv]; exact hm) hl ((gd 5 (by decide) (by decide)).trans h5)
  have ln := av_pu_l (s := (σ, L)) hl
  rw [← hκ] at ln
  have g3 : ∀ a k j, k < 64 → ¬ (a = D + 4 ∧ k = 19) → ¬ (a = D ∧ k = 13) → M3.1 (am_c a k) j = M2.1 (am_c a k) j := fun a k j hk h1 h2 => fr a k j hk h1 (fun hh => h2 ⟨hh.1, hh.2.1⟩)
  have d3 : ∀ j, j ≠ 5 → M3.1 (am_c D 13) j = M2.1 (am_c D 13) j := fun j hj => fr D 13 j (by decide) (by omega) (by omega)
  have rr : ∀ a k, k < 64 → ¬ (a = D + 4 ∧ k = 19) → ¬ (a = D ∧ k = 13) → ¬ (a = D + 1 ∧ k = 18) → ¬ (a = D + 2 ∧ k = 18) → ¬ (a = D + 6 ∧ k = 21) → M3.1 (am_c a k) = M.1 (am_c a k) := fun a k hk h1 h2 h3 h4 h6 => funext fun j => (g3 a k j hk h1 h2).trans (hc a k j hk (fun hh => h2 ⟨hh.1, hh.2.1⟩) h3 h4 h6)
  have dd : ∀ j, j ≠ 0 → j ≠ 5 → j < 16 → M3.1 (am_c D 13) j = M.1 (am_c D 13) j := fun j a b c => (d3 j b).trans (gd j a c)
  have hk8 : κ' ≤ 8 ∧ 0 < κ' := by rw [hκ]; split <;> omega
  refine ⟨M3, e, ⟨v, fun c k j hk a => fr c k j hk (by omega) (by omega)⟩, d3 0 (by decide), ⟨by rw [v, hv]; exact hm, ?_⟩, ⟨by rw [ln]; exact hk8.1, by rw [ln]; exact k5, fun j hj => ?_⟩, av_y3_f y3 (dd _ (by decide) (by decide) (by decide)) (rr _ _ (by decide) (by omega) (by omega) (by omega) (by omega) (by omega)), av_y4_f y4 (dd _ (by decide) (by decide) (by decide)) (dd _ (by decide) (by decide) (by decide)) (dd _ (by decide) (by decide) (by decide)), av_y5_f y5 (dd _ (by decide) (by decide) (by decide)) (dd _ (by decide) (by decide) (by decide)) (rr _ _ (by decide) (by omega) (by omega) (by omega) (by omega) (by omega)), av_y6_f y6 (dd _ (by decide) (by decide) (by decide)) (rr _ _ (by decide) (by omega) (by omega) (by omega) (by omega) (by omega))⟩
  · rw [show M3.1 (am_c (D + 1) 18) = M2.1 (am_c (D + 1) 18) from funext fun j => g3 _ _ _ (by decide) (by omega) (by omega)]
    exact hr
  · by_cases he : j = (av_pu H (σ, L)).length - 1
    · rw [he, av_pu_e hl, ln]
      refine av_mr_e hr0 hL (fun i hi => ?_)
      rw [r1 i hi]
      exact hfr i hi
    · have hj' : j < (av_pu H (σ, L)).length - 1 := by omega
      rw [av_pu_o hl hj']
      rw [ln] at hj'
      have key : ∀ j', j' < H.length → (if H.length = 8 then j + 1 else j) = j' → av_mr (fun i => M3.1 (am_c (D + 4) 19) (120 * j + i)) (av_h H j').1 (av_h H j').2 := by
        intro j' h1 h2
        refine av_mr_e (hh j' h1) (hlk j' h1) (fun i hi => ?_)
        show M3.1 (am_c (D + 4) 19) (120 * j + i) = M.1 (am_c (D + 4) 19) (120 * j' + i)
        have e : (if H.length = 8 then 120 * j + i + 120 else 120 * j + i) = 120 * j' + i := by
          by_cases h8 : H.length = 8
          · rw [if_pos h8] at h2 ⊢; omega
          · rw [if_neg h8] at h2 ⊢; omega
        rw [r2 _ (by omega), e, hc _ _ _ (by decide) (by omega) (by omega) (by omega) (by omega)]
      by_cases h8 : H.length = 8
      · rw [if_pos h8]; rw [if_pos h8] at key hκ; exact key (j + 1) (by omega) rfl
      · rw [if_neg h8]; rw [if_neg h8] at key hκ; exact key j (by omega) rfl
theorem av_y_q {σ : Nat → Int32} {L : List (Nat → Int32)} {H : List av_K} {P : Option av_K} {q : Int32 × Int32 × Int32} {n : Nat} {T : Nat → Int32} {f : Int32} {l : List Int32} {D : Nat} {x y z : Int32} {M : am_M} (hy : av_y D M σ L H P q n T f l) : av_y D (av_i (av_i (av_i M (am_c D 13) 13 x) (am_c D 13) 14 y) (am_c D 13) 15 z) σ L H P (x, y, z) n T f l := by
  obtain ⟨y0, y2, y3, y4, y5, y6⟩ := hy
  have rr : ∀ a k, ¬ (a = D ∧ k = 13) → k < 64 → (av_i (av_i (av_i M (am_c D 13) 13 x) (am_c D 13) 14 y) (am_c D 13) 15 z).1 (am_c a k) = M.1 (am_c a k) := fun a k h hk => funext fun j => by
    have hn : ¬ am_c a k = am_c D 13 := am_c_ne hk (by decide) h
    exact (am_up_a hn).trans ((am_up_a hn).trans (am_up_a hn))
  have dd : ∀ j, j < 13 → (av_i (av_i (av_i M (am_c D 13) 13 x) (am_c D 13) 14 y) (am_c D 13) 15 z).1 (am_c D 13) j = M.1 (am_c D 13) j := fun j hj => by
    rw [av_jK (by omega), av_jK (by omega), av_jK (by omega)]
  exact ⟨av_y0_f y0 rfl (rr _ _ (by omega) (by decide)), av_y2_f y2 (dd _ (by decide)) (rr _ _ (by omega) (by decide)), av_y3_f y3 (dd _ (by decide)) (rr _ _ (by omega) (by decide)), ⟨by rw [av_jK (by decide), av_jK (by decide), av_jS], by rw [av_jK (by decide), av_jS], by rw [av_jS]⟩, av_y5_f y5 (dd _ (by decide)) (dd _ (by decide)) (rr _ _ (by omega) (by decide)), av_y6_f y6 (dd _ (by decide)) (rr _ _ (by omega) (by decide))⟩
theorem mc_ends {σ : Nat → Int32} {L : List (Nat → Int32)} {H : List av_K} {P : Option av_K} {q : Int32 × Int32 × Int32} {n : Nat} {T : Nat → Int32} {f : Int32} {l : List Int32} {D bd : Nat} {M M2 : am_M} {code ans : Int32} {qo : Option (Int32 × Int32)} {σ' : Nat → Int32} {L' : List (Nat → Int32)} (hD : 274 ≤ D) (hy : av_y D M σ L H P q n T f l) (hS : av_okS bd σ L H P) (h0 : M.1 (am_c D 13) 0 = 0) (hfr : ∀ j, j < 120 → M.1 (am_c (D + 2) 18) j = M.1 (am_c (D + 1) 18) j) (hMO : av_MO D M M2 code qo ans σ' L') (hne : ∀ x y, qo = some (x, y) → ¬ x = 0) :
    ∃ M3 r, am_val iX13_ends 0 [some (.ref (am_c D 13)), some (.int code)] [] M2 = some (.inl (some (.int r)), M3, 0, 0) ∧ av_fy M2 M3 ∧ av_yo D M3 r qo ans σ' L' σ L H P q n T f l := by
  obtain ⟨fm, hq⟩ := hMO
  cases qo with
  | none =>
    obtain ⟨hcx, ha, hr⟩ := hq
    obtain ⟨M3, e, fy, t0, y⟩ := mc_chg (x := ans) hD hy (fun j hj => by rw [fm.2 _ _ _ (by decide) (by omega) (by omega)]; exact hfr j hj) hS fm.1 hr (fun c k j hk a b _ _ => fm.2 c k j hk (by omega) (by omega))
    refine ⟨M3, ans, ?_, fy, rfl, ?_, y⟩
    · rw [hcx]
      simp only [ae_X13_ends_0, ae_X13_ends_4, ae_X13_ends_12, ae_X13_ends_13, ae_X13_ends_36, am_bnx_v, am_bnx_e, am_tl_s, am_tl_n, am_rv_s, am_add_rx, ha, e, not_true_eq_false, not_false_eq_true, if_true, if_false, am_1n0, or_true, true_or, eq_self, Bool.true_eq_false, Bool.false_eq_true, cond_true, cond_false]
    · rw [t0, fm.2 D 13 0 (by decide) (by omega) (by omega)]; exact h0
  | some xy =>
    obtain ⟨x, y⟩ := xy
    obtain ⟨hcx, ha, hr⟩ := hq
    have hx := hne x y rfl
    have s2 : av_ys D M M2 := ⟨fm.1, fun c k j hk a b d => by
      by_cases h : c = D + 1 ∧ k = 18
      · obtain ⟨rfl, rfl⟩ := h
        rw [hr]
      · exact fm.2 c k j hk (by omega) h⟩
    have h16 : (av_i M2 (am_c D 13) 13 x).1 (am_c D 13) 16 = y := by rw [av_jK (by decide)]; exact ha
    refine ⟨av_i (av_i (av_i (av_i M2 (am_c D 13) 13 x) (am_c D 13) 14 y) (am_c D 13) 15 0) (am_c D 13) 0 1, 0, ?_, ?_, av_jS, ?_⟩
    · rw [hcx]
      simp only [ae_X13_ends_0, ae_X13_ends_4, ae_X13_ends_12, ae_X13_ends_13, ae_X13_ends_36, am_bnx_v, am_bnx_e, am_tl_s, am_tl_n, am_rv_s, am_add_rx, hx, h16, mc_fails, not_true_eq_false, not_false_eq_true, if_true, if_false, am_1n0, or_true, true_or, eq_self, Bool.true_eq_false, Bool.false_eq_true, cond_true, cond_false]
    · exact av_fy_t (av_fy_t (av_fy_t (av_fy_i (by decide) hD) (av_fy_i (by decide) hD)) (av_fy_i (by decide) hD)) (av_fy_i (by decide) hD)
    · exact av_y_s (av_y_q (av_y_s hy s2)) (av_ys_i (Or.inl rfl))
theorem av_ref_ne {σ : Nat → Int32} {L : List (Nat → Int32)} {c : Nat} {a b x y : Int32} (h : av_ref σ L c a b = some (x, y)) : ¬ x = 0 := by
  unfold av_ref at h
  split at h
  · unfold av_q0 at h
    repeat' split at h
    all_goals first | (cases h; done) | (cases h; decide)
  · unfold av_q1 at h
    repeat' split at h
    all_goals first | (cases h; done) | (cases h; decide)
  · unfold av_q2 at h
    repeat' split at h
    all_goals first | (cases h; done) | (cases h; decide)
  · unfold av_q3 at h
    repeat' split at h
    all_goals first | (cases h; done) | (cases h; decide)
  · unfold av_q4 at h
    repeat' split at h
    all_goals first | (cases h; done) | (cases h; decide)
  · unfold av_q5 at h
    repeat' split at h
    all_goals first | (cases h; done) | (cases h; decide)
  · unfold av_q6 at h
    repeat' split at h
    all_goals first | (cases h; done) | (cases h; decide)
  · unfold av_q7 at h
    repeat' split at h
    all_goals first | (cases h; done) | (cases h; decide)
theorem mc_wall {σ : Nat → Int32} {L : List (Nat → Int32)} {H : List av_K} {P : Option av_K} {q : Int32 × Int32 × Int32} {n : Nat} {T : Nat → Int32} {f : Int32} {l : List Int32} {D bd : Nat} {a b g : Int32} {M : am_M} (hD : 274 ≤ D) (hy : av_y D M σ L H P q n T f l) (hS : av_okS bd σ L H P) : ∃ M' r, am_val iX13_wall 0 [some (.ref (am_c D 13)), some (.int a), some (.int b)] [] M = some (.inl (some (.int r)), M', 0, 0) ∧ av_fy M M' ∧ av_yo D M' r (av_ref σ L 0 a b) (av_ans σ L 0 a b) (av_nσ σ L 0 a b) (av_nL σ L 0 a b g) σ L H P q n T f l := by
  obtain ⟨M1, e1, v1, t1, r1, f1⟩ := mc_remembers hy.1.1
  have s1 : av_ys D M M1 := ⟨v1, fun c k j hk a b _ => f1 c k j hk (by omega) b⟩
  have y1 := av_y_s hy s1
  obtain ⟨M2, code, e2, mo⟩ := mc_tellsWall (x := a) (h := b) y1.1 hS.1
  obtain ⟨M3, r, e3, fy, yo⟩ := mc_ends hD y1 hS t1 (fun j hj => (r1 j hj).trans (f1 (D + 1) 18 j (by decide) (by omega) (by omega)).symm) mo (fun x y h => av_ref_ne (σ := σ) (L := L) (c := 0) (a := a) (b := b) h)
  exact ⟨M3, r, by simp only [ae_X13_wall_0, ae_X13_wall_4, ae_X13_wall_11, ae_X13_wall_14, am_bnx_v, am_bnx_e, am_tl_s, am_tl_n, am_rv_s, am_add_rx, e1, e2, e3], av_fy_t (av_ys_fy hD s1) (av_fy_t ⟨mo.1.1, fun c k j hk a => mo.1.2 c k j hk (by omega) (by omega)⟩ fy), yo⟩
theorem mc_own {σ : Nat → Int32} {L : List (Nat → Int32)} {H : List av_K} {P : Option av_K} {q : Int32 × Int32 × Int32} {n : Nat} {T : Nat → Int32} {f : Int32} {l : List Int32} {D bd : Nat} {a b g : Int32} {M : am_M} (hD : 274 ≤ D) (hy : av_y D M σ L H P q n T f l) (hS : av_okS bd σ L H P) (hbd : bd < 1000000000) : ∃ M' r, am_val iX13_own 0 [some (.ref (am_c D 13)), some (.int a), some (.int b)] [] M = some (.inl (some (.int r)), M', 0, 0) ∧ av_fy M M' ∧ av_yo D M' r (av_ref σ L 1 a b) (av_ans σ L 1 a b) (av_nσ σ L 1 a b) (av_nL σ L 1 a b g) σ L H P q n T f l := by
  obtain ⟨M1, e1, v1, t1, r1, f1⟩ := mc_remembers hy.1.1
  have s1 : av_ys D M M1 := ⟨v1, fun c k j hk a b _ => f1 c k j hk (by omega) b⟩
  have y1 := av_y_s hy s1
  obtain ⟨M2, code, e2, mo⟩ := mc_buys (x := a) (y := b) y1.1 hS.1 hbd
  obtain ⟨M3, r, e3, fy, yo⟩ := mc_ends hD y1 hS t1 (fun j hj => (r1 j hj).trans (f1 (D + 1) 18 j (by decide) (by omega) (by omega)).symm) mo (fun x y h => av_ref_ne (σ := σ) (L := L) (c := 1) (a := a) (b := b) h)
  exact ⟨M3, r, by simp only [ae_X13_own_0, ae_X13_own_4, ae_X13_own_11, ae_X13_own_14, am_bnx_v, am_bnx_e, am_tl_s, am_tl_n, am_rv_s, am_add_rx, e1, e2, e3], av_fy_t (av_ys_fy hD s1) (av_fy_t ⟨mo.1.1, fun c k j hk a => mo.1.2 c k j hk (by omega) (by omega)⟩ fy), yo⟩
theorem mc_player {σ : Nat → Int32} {L : List (Nat → Int32)} {H : List av_K} {P : Option av_K} {q : Int32 × Int32 × Int32} {n : Nat} {T : Nat → Int32} {f : Int32} {l : List Int32} {D bd : Nat} {a b g : Int32} {M : am_M} (hD : 274 ≤ D) (hy : av_y D M σ L H P q n T f l) (hS : av_okS bd σ L H P) : ∃ M' r, am_val iX13_player 0 [some (.ref (am_c D 13)), some (.int a), some (.int b)] [] M = some (.inl (some (.int r)), M', 0, 0) ∧ av_fy M M' ∧ av_yo D M' r (av_ref σ L 2 a b) (av_ans σ L 2 a b) (av_nσ σ L 2 a b) (av_nL σ L 2 a b g) σ L H P q n T f l := by
  obtain ⟨M1, e1, v1, t1, r1, f1⟩ := mc_remembers hy.1.1
  have s1 : av_ys D M M1 := ⟨v1, fun c k j hk a b _ => f1 c k j hk (by omega) b⟩
  have y1 := av_y_s hy s1
  obtain ⟨M2, code, e2, mo⟩ := mc_comesTo (x := a) (y := b) y1.1 hS.1
  obtain ⟨M3, r, e3, fy, yo⟩ := mc_ends hD y1 hS t1 (fun j hj => (r1 j hj).trans (f1 (D + 1) 18 j (by decide) (by omega) (by omega)).symm) mo (fun x y h => av_ref_ne (σ := σ) (L := L) (c := 2) (a := a) (b := b) h)
  exact ⟨M3, r, by simp only [ae_X13_player_0, ae_X13_player_4, ae_X13_player_11, ae_X13_player_14, am_bnx_v, am_bnx_e, am_tl_s, am_tl_n, am_rv_s, am_add_rx, e1, e2, e3], av_fy_t (av_ys_fy hD s1) (av_fy_t ⟨mo.1.1, fun c k j hk a => mo.1.2 c k j hk (by omega) (by omega)⟩ fy), yo⟩
theorem mc_move {σ : Nat → Int32} {L : List (Nat → Int32)} {H : List av_K} {P : Option av_K} {q : Int32 × Int32 × Int32} {n : Nat} {T : Nat → Int32} {f : Int32} {l : List Int32} {D bd : Nat} {a b g : Int32} {M : am_M} (hD : 274 ≤ D) (hy : av_y D M σ L H P q n T f l) (hS : av_okS bd σ L H P) : ∃ M' r, am_val iX13_move 0 [some (.ref (am_c D 13)), some (.int a), some (.int b)] [] M = some (.inl (some (.int r)), M', 0, 0) ∧ av_fy M M' ∧ av_yo D M' r (av_ref σ L 3 a b) (av_ans σ L 3 a b) (av_nσ σ L 3 a b) (av_nL σ L 3 a b g) σ L H P q n T f l := by
  obtain ⟨M1, e1, v1, t1, r1, f1⟩ := mc_remembers hy.1.1
  have s1 : av_ys D M M1 := ⟨v1, fun c k j hk a b _ => f1 c k j hk (by omega) b⟩
  have y1 := av_y_s hy s1
  obtain ⟨M2, code, e2, mo⟩ := mc_moves (x := a) (p := b) y1.1 hS.1
  obtain ⟨M3, r, e3, fy, yo⟩ := mc_ends hD y1 hS t1 (fun j hj => (r1 j hj).trans (f1 (D + 1) 18 j (by decide) (by omega) (by omega)).symm) mo (fun x y h => av_ref_ne (σ := σ) (L := L) (c := 3) (a := a) (b := b) h)
  exact ⟨M3, r, by simp only [ae_X13_move_0, ae_X13_move_4, ae_X13_move_11, ae_X13_move_14, am_bnx_v, am_bnx_e, am_tl_s, am_tl_n, am_rv_s, am_add_rx, e1, e2, e3], av_fy_t (av_ys_fy hD s1) (av_fy_t ⟨mo.1.1, fun c k j hk a => mo.1.2 c k j hk (by omega) (by omega)⟩ fy), yo⟩
theorem mc_shout {σ : Nat → Int32} {L : List (Nat → Int32)} {H : List av_K} {P : Option av_K} {q : Int32 × Int32 × Int32} {n : Nat} {T : Nat → Int32} {f : Int32} {l : List Int32} {D bd : Nat} {a b g : Int32} {M : am_M} (hD : 274 ≤ D) (hy : av_y D M σ L H P q n T f l) (hS : av_okS bd σ L H P) (hg : g = 0 ∨ g = 1) : ∃ M' r, am_val iX13_shout 0 [some (.ref (am_c D 13)), some (.int a), some (.int g), some (.int b)] [] M = some (.inl (some (.int r)), M', 0, 0) ∧ av_fy M M' ∧ av_yo D M' r (av_ref σ L 4 a b) (av_ans σ L 4 a b) (av_nσ σ L 4 a b) (av_nL σ L 4 a b g) σ L H P q n T f l := by
  obtain ⟨M1, e1, v1, t1, r1, f1⟩ := mc_remembers hy.1.1
  have s1 : av_ys D M M1 := ⟨v1, fun c k j hk a b _ => f1 c k j hk (by omega) b⟩
  have y1 := av_y_s hy s1
  obtain ⟨M2, code, e2, mo⟩ := mc_shouts (x := a) (g := g) (l := b) y1.1 hS.1
  obtain ⟨M3, r, e3, fy, yo⟩ := mc_ends hD y1 hS t1 (fun j hj => (r1 j hj).trans (f1 (D + 1) 18 j (by decide) (by omega) (by omega)).symm) mo (fun x y h => av_ref_ne (σ := σ) (L := L) (c := 4) (a := a) (b := b) h)
  refine ⟨M3, r, ?_, av_fy_t (av_ys_fy hD s1) (av_fy_t ⟨mo.1.1, fun c k j hk a => mo.1.2 c k j hk (by omega) (by omega)⟩ fy), yo⟩
  rcases hg with rfl | rfl
  · simp only [ae_X13_shout_0, ae_X13_shout_4, ae_X13_shout_11, ae_X13_shout_15, ae_X13_shout_20, ae_X13_shout_23, am_bnx_v, am_bnx_e, am_tl_s, am_tl_n, am_rv_s, am_add_rx, e1, e2, e3, not_true_eq_false, not_false_eq_true, if_true, if_false, am_1n0, or_true, true_or, eq_self, Bool.true_eq_false, Bool.false_eq_true, cond_true, cond_false]
  · simp only [ae_X13_shout_0, ae_X13_shout_4, ae_X13_shout_11, ae_X13_shout_15, ae_X13_shout_20, ae_X13_shout_23, am_bnx_v, am_bnx_e, am_tl_s, am_tl_n, am_rv_s, am_add_rx, e1, e2, e3, not_true_eq_false, not_false_eq_true, if_true, if_false, am_1n0, or_true, true_or, eq_self, Bool.true_eq_false, Bool.false_eq_true, cond_true, cond_false]
theorem mc_beat {σ : Nat → Int32} {L : List (Nat → Int32)} {H : List av_K} {P : Option av_K} {q : Int32 × Int32 × Int32} {n : Nat} {T : Nat → Int32} {f : Int32} {l : List Int32} {D bd : Nat} {a b g : Int32} {M : am_M} (hD : 274 ≤ D) (hy : av_y D M σ L H P q n T f l) (hS : av_okS bd σ L H P) : ∃ M' r, am_val iX13_beat 0 [some (.ref (am_c D 13))] [] M = some (.inl (some (.int r)), M', 0, 0) ∧ av_fy M M' ∧ av_yo D M' r (av_ref σ L 5 a b) (av_ans σ L 5 a b) (av_nσ σ L 5 a b) (av_nL σ L 5 a b g) σ L H P q n T f l := by
  obtain ⟨M1, e1, v1, t1, r1, f1⟩ := mc_remembers hy.1.1
  have s1 : av_ys D M M1 := ⟨v1, fun c k j hk a b _ => f1 c k j hk (by omega) b⟩
  have y1 := av_y_s hy s1
  obtain ⟨M2, code, e2, mo⟩ := mc_beatsOnce y1.1 hS.1
  obtain ⟨M3, r, e3, fy, yo⟩ := mc_ends hD y1 hS t1 (fun j hj => (r1 j hj).trans (f1 (D + 1) 18 j (by decide) (by omega) (by omega)).symm) mo (fun x y h => av_ref_ne (σ := σ) (L := L) (c := 5) (a := a) (b := b) h)
  exact ⟨M3, r, by simp only [ae_X13_beat_0, ae_X13_beat_4, ae_X13_beat_9, ae_X13_beat_12, am_bnx_v, am_bnx_e, am_tl_s, am_tl_n, am_rv_s, am_add_rx, e1, e2, e3], av_fy_t (av_ys_fy hD s1) (av_fy_t ⟨mo.1.1, fun c k j hk a => mo.1.2 c k j hk (by omega) (by omega)⟩ fy), yo⟩
theorem mc_catchEcho {σ : Nat → Int32} {L : List (Nat → Int32)} {H : List av_K} {P : Option av_K} {q : Int32 × Int32 × Int32} {n : Nat} {T : Nat → Int32} {f : Int32} {l : List Int32} {D bd : Nat} {a b g : Int32} {M : am_M} (hD : 274 ≤ D) (hy : av_y D M σ L H P q n T f l) (hS : av_okS bd σ L H P) : ∃ M' r, am_val iX13_catchEcho 0 [some (.ref (am_c D 13)), some (.int a)] [] M = some (.inl (some (.int r)), M', 0, 0) ∧ av_fy M M' ∧ av_yo D M' r (av_ref σ L 6 a b) (av_ans σ L 6 a b) (av_nσ σ L 6 a b) (av_nL σ L 6 a b g) σ L H P q n T f l := by
  obtain ⟨M1, e1, v1, t1, r1, f1⟩ := mc_remembers hy.1.1
  have s1 : av_ys D M M1 := ⟨v1, fun c k j hk a b _ => f1 c k j hk (by omega) b⟩
  have y1 := av_y_s hy s1
  obtain ⟨M2, code, e2, mo⟩ := mc_catches (x := a) y1.1 hS.1
  obtain ⟨M3, r, e3, fy, yo⟩ := mc_ends hD y1 hS t1 (fun j hj => (r1 j hj).trans (f1 (D + 1) 18 j (by decide) (by omega) (by omega)).symm) mo (fun x y h => av_ref_ne (σ := σ) (L := L) (c := 6) (a := a) (b := b) h)
  exact ⟨M3, r, by simp only [ae_X13_catchEcho_0, ae_X13_catchEcho_4, ae_X13_catchEcho_10, ae_X13_catchEcho_13, am_bnx_v, am_bnx_e, am_tl_s, am_tl_n, am_rv_s, am_add_rx, e1, e2, e3], av_fy_t (av_ys_fy hD s1) (av_fy_t ⟨mo.1.1, fun c k j hk a => mo.1.2 c k j hk (by omega) (by omega)⟩ fy), yo⟩
theorem mc_wind {σ : Nat → Int32} {L : List (Nat → Int32)} {H : List av_K} {P : Option av_K} {q : Int32 × Int32 × Int32} {n : Nat} {T : Nat → Int32} {f : Int32} {l : List Int32} {D bd : Nat} {a b g : Int32} {M : am_M} (hD : 274 ≤ D) (hy : av_y D M σ L H P q n T f l) (hS : av_okS bd σ L H P) : ∃ M' r, am_val iX13_wind 0 [some (.ref (am_c D 13)), some (.int a)] [] M = some (.inl (some (.int r)), M', 0, 0) ∧ av_fy M M' ∧ av_yo D M' r (av_ref σ L 7 a b) (av_ans σ L 7 a b) (av_nσ σ L 7 a b) (av_nL σ L 7 a b g) σ L H P q n T f l := by
  obtain ⟨M1, e1, v1, t1, r1, f1⟩ := mc_remembers hy.1.1
  have s1 : av_ys D M M1 := ⟨v1, fun c k j hk a b _ => f1 c k j hk (by omega) b⟩
  have y1 := av_y_s hy s1
  obtain ⟨M2, code, e2, mo⟩ := mc_blows (x := a) y1.1 hS.1
  obtain ⟨M3, r, e3, fy, yo⟩ := mc_ends hD y1 hS t1 (fun j hj => (r1 j hj).trans (f1 (D + 1) 18 j (by decide) (by omega) (by omega)).symm) mo (fun x y h => av_ref_ne (σ := σ) (L := L) (c := 7) (a := a) (b := b) h)
  exact ⟨M3, r, by simp only [ae_X13_wind_0, ae_X13_wind_4, ae_X13_wind_10, ae_X13_wind_13, am_bnx_v, am_bnx_e, am_tl_s, am_tl_n, am_rv_s, am_add_rx, e1, e2, e3], av_fy_t (av_ys_fy hD s1) (av_fy_t ⟨mo.1.1, fun c k j hk a => mo.1.2 c k j hk (by omega) (by omega)⟩ fy), yo⟩
