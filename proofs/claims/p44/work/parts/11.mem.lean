/-! ONE INSTRUCTION: fields, arrays, statics -/
theorem am_en_congr {ca : Nat → ClassId} {r : Nat → Nat} {M M' : am_M} {b : Nat} (h1 : M'.1 b = M.1 b) (h2 : M'.2.1 b = M.2.1 b) (h3 : M'.2.2.1 b = M.2.2.1 b) (h4 : M'.2.2.2.1 b = M.2.2.2.1 b) : am_en ca r M' b = am_en ca r M b := by
  have hf : am_fv r M' b = am_fv r M b := by
    funext j
    unfold am_fv
    rw [h1, h2]
  have hd : ∀ et, am_dat r M' et b = am_dat r M et b := by
    intro et
    unfold am_dat
    rw [h1, h2, h3]
  unfold am_en
  rw [hf]
  cases am_ak (b % 64) with
  | none => rfl
  | some q => simp only [hd]
/-- a cell was written -/
theorem am_wr {D : va_G} {ca : Nat → ClassId} {B0 L0 : Nat} {xs : Nat → Int32} {E r ks : Nat → Nat} {M M' : am_M} {H H1 : Heap} {a : Nat} {e' : va_E} (hR : am_Rp D ca B0 E L0 xs r ks M H) (h1 : a / 64 < am_n M) (h2 : ks (a / 64) = a % 64)
    (hP1 : va_P D am_cls ((am_ws ca r ks M).set (a / 64) (r a, e')) H1) (hD1 : va_D (fun q : Nat => B0 ≤ q) ((am_ws ca r ks M).set (a / 64) (r a, e'))) (hn : am_n M' = am_n M) (he : am_en ca r M' a = e')
    (ho : ∀ b, b ≠ a → M'.1 b = M.1 b ∧ M'.2.1 b = M.2.1 b ∧ M'.2.2.1 b = M.2.2.1 b ∧ M'.2.2.2.1 b = M.2.2.2.1 b) (hcl : ∀ a j b, M'.2.1 a j = b + 1 → am_okk ks (am_n M) b) (hsc : M'.2.2.2.2.2 = M.2.2.2.2.2) : am_Rp D ca B0 E L0 xs r ks M' H1 := by
  obtain ⟨hP, hD, -, hE2, hks, hsl, hz⟩ := hR
  have e := am_ws_set (ca := ca) (r := r) hn hks h1 h2 (fun b hb => am_en_congr (ho b hb).1 (ho b hb).2.1 (ho b hb).2.2.1 (ho b hb).2.2.2)
  rw [he] at e
  rw [e] at hP1 hD1
  exact ⟨hP1, hD1, by rw [hn]; exact hcl, hE2, by rw [hn]; exact hks, hsc.trans hsl, fun b j hb => by
    rw [hn] at hb
    have hne : b ≠ a := fun q => by subst q; omega
    obtain ⟨g1, g2, g3, g4⟩ := ho b hne
    rw [g1, g2, g3, g4]
    exact hz b j hb⟩
def am_kty (x : Nat) : Nat → FieldType := ([tyX1, tyX1, tyX1, tyX3, tyX4, tyX5, tyX6, tyX7, tyX8, tyX9, tyX10, tyX11, tyX12, tyJ0, tyX8, tyJ4].getD x tyX1)
theorem am_kty_ok : ∀ x, x < 16 → ∀ k, k < (am_cls.getD x (RX1, TX1, 13)).2.2 → parseFieldDescriptor (am_kT x k).2.2.1 = some (am_kty x k) := by decide +kernel
theorem am_knm : ∀ x, x < 16 → ∀ a, a < (am_cls.getD x (RX1, TX1, 13)).2.2 → ∀ b, b < (am_cls.getD x (RX1, TX1, 13)).2.2 → a ≠ b → (am_kT x a).2.1 ≠ (am_kT x b).2.1 := by decide +kernel
theorem am_kcl {x : Nat} (h : x < 16) (hn : (am_cls.getD x (RX1, TX1, 13)).2.2 = am_nf x) : am_cls[x]? = some (am_kC x, am_kT x, am_nf x) := by
  have hl : x < am_cls.length := h
  rw [← hn, List.getElem?_eq_getElem hl]
  simp [am_kC, am_kT, List.getD, List.getElem?_eq_getElem hl]
def am_ug (x : Nat) : Bool := (u_ws (am_kC x) (am_kT x) (am_cls.getD x (RX1, TX1, 13)).2.2).all fun w => decide (w ∈ am_tbl) && goodWord w
theorem am_ug_all : (List.range 16).all am_ug = true := by decide +kernel
theorem am_u {x : Nat} (h : x < 16) (hn : (am_cls.getD x (RX1, TX1, 13)).2.2 = am_nf x) : ∀ w ∈ u_ws (am_kC x) (am_kT x) (am_nf x), w ∈ am_G := by
  intro w hw
  have h1 := List.all_eq_true.mp am_ug_all x (List.mem_range.mpr h)
  unfold am_ug at h1
  rw [hn] at h1
  have h2 := List.all_eq_true.mp h1 w hw
  rw [Bool.and_eq_true, decide_eq_true_eq] at h2
  exact List.mem_filter.mpr ⟨h2.1, h2.2⟩
theorem am_ps_ok {c k a : Nat} (h : am_ps c k = some a) : am_cs1 c k = true := by
  have h0 := h
  unfold am_ps at h
  obtain ⟨h1, h2, -⟩ := am_bnd h (by simp)
  exact am_all2_at am_wsx h1 h2
theorem am_pf_ok {c k : Nat} {q : Nat × Nat × Nat × Bool} (h : am_pf c k = some q) : am_cf1 c k = true := by
  unfold am_pf at h
  obtain ⟨h1, h2, -⟩ := am_bnd h (by simp)
  exact am_all2_at am_wf h1 h2
theorem am_pe_ok {c k q : Nat} (h : am_pe c k = q) (hq : q ≠ 0) : am_ce1 c k = true := by
  unfold am_pe at h
  obtain ⟨h1, h2, -⟩ := am_bnd h hq
  exact am_all2_at am_we h1 h2
theorem am_pj_ok {c k q : Nat} (h : am_pj c k = q) (hq : q ≠ 0) : am_cj1 c k = true := by
  unfold am_pj at h
  obtain ⟨h1, h2, -⟩ := am_bnd h hq
  exact am_all2_at am_wj h1 h2
theorem am_pm_ok {c k : Nat} {q : Nat × Nat} (h : am_pm c k = some q) : am_cl1 c k = true := by
  unfold am_pm at h
  obtain ⟨h1, h2, -⟩ := am_bnd h (by simp)
  exact am_all2_at am_wl h1 h2
theorem am_pc_ok {c k q : Nat} (h : am_pc c k = some q) : am_cc1 c k = true := by
  unfold am_pc at h
  obtain ⟨h1, h2, -⟩ := am_bnd h (by simp)
  exact am_all2_at am_wcc h1 h2
/-- what a field's link says -/
theorem am_pf_sp {c k x j t : Nat} {fin : Bool} (h : am_pf c k = some (x, j, t, fin)) : Cond.fieldLink (am_cn c) k (am_kT x j).1 (am_kT x j).2.1 (am_kT x j).2.2.1 ∈ am_G ∧ (fin = true → (am_kT x j).1 = am_kC x) ∧ j < am_nf x ∧ x < 16 ∧ (am_kT x j).2.2.2 = fin
    ∧ t ≤ 3 ∧ am_isr x j = Nat.beq t 2 ∧ (t = 3 → parseFieldDescriptor (am_kT x j).2.2.1 = some .byte) ∧ (t = 0 → parseFieldDescriptor (am_kT x j).2.2.1 = some .int) ∧ (t = 1 → parseFieldDescriptor (am_kT x j).2.2.1 = some .boolean) ∧ (am_cls.getD x (RX1, TX1, 13)).2.2 = am_nf x ∧ am_ak x = none := by
  have hc := am_pf_ok h
  unfold am_cf1 at hc
  rw [h] at hc
  simp only [Bool.and_eq_true, decide_eq_true_eq, beq_iff_eq] at hc
  obtain ⟨⟨⟨⟨⟨⟨⟨⟨⟨h1, h2⟩, h3⟩, h4⟩, h5⟩, h6⟩, h7⟩, h8⟩, h10⟩, h11⟩ := hc
  refine ⟨am_gw_in h1, fun q => ?_, by simpa [Nat.blt_eq] using h3, by simpa [Nat.blt_eq] using h4, h5, Nat.le_of_ble_eq_true h6, h7, ?_, ?_, ?_, Nat.eq_of_beq_eq_true h10, ?_⟩
  · rw [q] at h2
    simpa using h2
  · intro q
    subst q
    simpa using h8
  · intro q
    subst q
    simpa using h8
  · intro q
    subst q
    simpa using h8
  · cases hk : am_ak x with
    | none => rfl
    | some q => rw [hk] at h11; cases h11
theorem am_ak_lo {k : Nat} {q : Nat × Nat} (h : am_ak k = some q) : k < 32 := by
  unfold am_ak at h
  cases hc : Nat.ble 32 k with
  | true => rw [hc] at h; cases h
  | false => exact Nat.lt_of_not_le fun z => by rw [Nat.ble_eq_true_of_le z] at hc; cases hc
theorem am_in_sp {j : Int32} {n : Nat} (h : am_in j n = true) : vp_in j n := by
  unfold am_in at h
  rw [Bool.and_eq_true, decide_eq_true_eq, decide_eq_true_eq] at h
  rintro (q | q)
  · exact h.1 q
  · omega
theorem am_en_obj {ca : Nat → ClassId} {r : Nat → Nat} {M : am_M} {a : Nat} (h : am_ak (a % 64) = none) : am_en ca r M a = .inr (a % 64, (List.range (am_nf (a % 64))).map (am_fv r M a)) := by
  unfold am_en
  rw [h]
theorem am_en_arr {ca : Nat → ClassId} {r : Nat → Nat} {M : am_M} {a et n : Nat} (h : am_ak (a % 64) = some (et, n)) : am_en ca r M a = .inl (ca et, n, am_dat r M et a) := by
  unfold am_en
  rw [h]
theorem am_d40 {ks : Nat → Nat} {n a : Nat} (h : am_okk ks n a) (hq : a % 64 = 40) : a / 64 < 8 ∧ 64 * (a / 64) + 40 = a := by
  rcases am_okk_hi h (by omega) with h | h | h | h | h | h | h <;> omega
theorem am_d41 {ks : Nat → Nat} {n a : Nat} (h : am_okk ks n a) (hq : a % 64 = 41) : a / 64 < 7 ∧ 64 * (a / 64) + 41 = a := by
  rcases am_okk_hi h (by omega) with h | h | h | h | h | h | h <;> omega
theorem am_d42 {ks : Nat → Nat} {n a : Nat} (h : am_okk ks n a) (hq : a % 64 = 42) : a = 42 := by
  rcases am_okk_hi h (by omega) with h | h | h | h | h | h | h <;> omega
theorem am_d43 {ks : Nat → Nat} {n a : Nat} (h : am_okk ks n a) (hq : a % 64 = 43) : a = 43 := by
  rcases am_okk_hi h (by omega) with h | h | h | h | h | h | h <;> omega
theorem am_d44 {ks : Nat → Nat} {n a : Nat} (h : am_okk ks n a) (hq : a % 64 = 44) : a = 44 := by
  rcases am_okk_hi h (by omega) with h | h | h | h | h | h | h <;> omega
theorem am_d45 {ks : Nat → Nat} {n a : Nat} (h : am_okk ks n a) (hq : a % 64 = 45) : a / 64 < 8 ∧ 64 * (a / 64) + 45 = a := by
  rcases am_okk_hi h (by omega) with h | h | h | h | h | h | h <;> omega
theorem am_d46 {ks : Nat → Nat} {n a : Nat} (h : am_okk ks n a) (hq : a % 64 = 46) : a / 64 < 10 ∧ 64 * (a / 64) + 46 = a := by
  rcases am_okk_hi h (by omega) with h | h | h | h | h | h | h <;> omega
theorem am_v46 {ks : Nat → Nat} {n a : Nat} (h : a % 64 = 46) (h2 : a / 64 < 10) : am_vok ks n (.ref a) := am_vok_ref (Or.inr (Or.inr (Or.inr (Or.inr (Or.inr (Or.inr (Or.inr ⟨h, h2⟩)))))))
theorem am_kn_all : ∀ x, x < 16 → 0 < am_nf x → am_kC x = am_cn x := by decide +kernel
theorem am_kn {x k : Nat} (h : x < 16) (hk : k < am_nf x) : am_kC x = am_cn x := am_kn_all x h (by omega)
theorem am_rty_all : ∀ x, x < 16 → ∀ k, k < (am_cls.getD x (RX1, TX1, 13)).2.2 → am_isr x k = true → (match am_kty x k with
    | .object _ => true
    | .array _ => true
    | _ => false) = true := by decide +kernel
theorem am_rty {x k : Nat} (h : x < 16) (hk : k < am_nf x) (hn : (am_cls.getD x (RX1, TX1, 13)).2.2 = am_nf x) (hr : am_isr x k = true) : ∃ ty, parseFieldDescriptor (am_kT x k).2.2.1 = some ty ∧ ((∃ C, ty = .object C) ∨ ∃ C, ty = .array C) := by
  refine ⟨am_kty x k, am_kty_ok x h k (by rw [hn]; exact hk), ?_⟩
  have h1 := am_rty_all x h k (by rw [hn]; exact hk) hr
  split at h1
  · rename_i C hC; exact Or.inl ⟨C, hC⟩
  · rename_i C hC; exact Or.inr ⟨C, hC⟩
  · cases h1
theorem am_lN : ∀ i, i < 8 → Value.int (([119, 111, 112, 109, 115, 98, 99, 118] : List Int32).getD i 0) = .int (am_el i) := by decide +kernel
theorem am_oN : ∀ i, i < 8 → ([0, 1, 2, 3, 4, 5, 6, 7] : List Int32).getD i 0 = Int32.ofNat i := by decide +kernel
theorem am_efN : ∀ i, i < 8 → am_ef i < 7 := by decide +kernel

section AMS
variable {D : va_G} {ca : Nat → ClassId} {B0 : Nat} {E : Nat → Nat} {L0 : Nat} {xs : Nat → Int32} {p : Program} {l : Launch} {e : Env} {R : Room} {s : State} {m : MethodId} {args : Array Value} {below : List Frame} {meth : Method} {c : Code} {y : Nat} {Q : State → Prop} {r0 ks0 : Nat → Nat} {n0 cells slots pc nx tg : Nat} {L : am_L} {st : List Value} {M : am_M} {x : am_C}

theorem am_s_getstatic {j : Nat} (C : am_X D ca B0 E L0 xs l p s m args meth c y) (hd : decode (am_b y) pc = .ok (.getstatic j, nx - pc)) (ho : am_ok1 (.getstatic j) pc nx tg = true) (hs : am_stp y (.getstatic j) pc nx tg L st M = some x) (k : am_W D ca B0 E L0 xs p l e R s m args below meth c y Q r0 ks0 n0 cells slots x.1 x.2.1 x.2.2.1 x.2.2.2) : am_W D ca B0 E L0 xs p l e R s m args below meth c y Q r0 ks0 n0 cells slots pc L st M := by
  obtain ⟨hx, hb, hml, hown, hts, hlk, hrt, hin, hK, hS0, hS2, hB0, hE, hst, het⟩ := C
  have hn : nx = pc + 3 := by simpa [am_ok1, am_len] using ho
  subst hn
  rw [Nat.add_sub_cancel_left] at hd
  simp only [am_stp] at hs
  cases hv : am_ps (am_cl y) j with
  | none => rw [hv] at hs; cases hs
  | some a =>
    rw [hv] at hs
    have hc := am_ps_ok hv
    unfold am_cs1 at hc
    rw [hv] at hc
    simp only [Bool.and_eq_true] at hc
    obtain ⟨⟨hc, h10⟩, h8⟩ := hc
    have h10 : a / 64 < 10 := by simpa [Nat.blt_eq] using h10
    cases h50 : Nat.beq a 50 with
    | true =>
      dsimp only at hs
      rw [h50] at hs
      cases hs
      have h50 := Nat.eq_of_beq_eq_true h50
      subst h50
      have hc : am_gw (am_psw (am_cl y) j) (.fieldLink (am_cn (am_cl y)) j "java/lang/String" "COMPACT_STRINGS" "Z") = true := hc
      intro r ks H locs ls st1 he hR hV hl hL hk
      refine va_gets hx hb hS0.2.2.2.2.2.2.2.2.2.2.1 hV hown (hts _ (am_gw_in hc)) (fun _ h => h) hd ?_
      exact k r ks H locs ls _ he hR hV hl hL (am_Sk_cons (am_vok_int _) hk)
    | false =>
    dsimp only at hs
    rw [h50] at hs hc
    cases hs
    intro r ks H locs ls st1 he hR hV hl hL hk
    cases h40 : Nat.beq (a % 64) 40 with
    | true =>
      rw [h40] at hc
      have h40 := Nat.eq_of_beq_eq_true h40
      have h8 : a / 64 < 8 := by
        rw [h40] at h8
        simpa [Nat.blt_eq] using h8
      have ha : 64 * (a / 64) + 40 = a := by omega
      have hz := (hS0.1.1 (a / 64) h8).1
      dsimp only at hz
      rw [ha] at hz
      refine va_gets hx hb hz hV hown (hts _ (am_gw_in hc)) (fun _ h => h) hd ?_
      rw [← hR.2.2.2.1 a (by omega)]
      exact k r ks H locs ls _ he hR hV hl hL (am_Sk_cons (am_vok_ref (Or.inr (Or.inl ⟨h40, h8⟩))) hk)
    | false =>
      rw [h40] at hc
      cases h42 : Nat.beq a 42 with
      | true =>
        rw [h42] at hc
        have h42 := Nat.eq_of_beq_eq_true h42
        subst h42
        refine va_gets hx hb hS0.2.2.2.1 hV hown (hts _ (am_gw_in hc)) (fun _ h => h) hd ?_
        rw [← hR.2.2.2.1 42 (by omega)]
        exact k r ks H locs ls _ he hR hV hl hL (am_Sk_cons (am_vok_ref (Or.inr (Or.inr (Or.inr (Or.inl rfl))))) hk)
      | false =>
        rw [h42] at hc
        cases h43 : Nat.beq a 43 with
        | true =>
          rw [h43] at hc
          have h43 := Nat.eq_of_beq_eq_true h43
          subst h43
          refine va_gets hx hb hS0.2.2.2.2.2.1 hV hown (hts _ (am_gw_in hc)) (fun _ h => h) hd ?_
          rw [← hR.2.2.2.1 43 (by omega)]
          exact k r ks H locs ls _ he hR hV hl hL (am_Sk_cons (am_vok_ref (Or.inr (Or.inr (Or.inr (Or.inr (Or.inl rfl)))))) hk)
        | false =>
          rw [h43] at hc
          dsimp only [cond_false] at hc
          cases h558 : Nat.beq a (64 * 8 + 46) with
          | true =>
            rw [h558] at hc
            have h9 := Nat.eq_of_beq_eq_true h558
            subst h9
            refine va_gets hx hb hS0.2.2.2.2.2.2.2.2.2.2.2.2.2.2.1 hV hown (hts _ (am_gw_in hc)) (fun _ h => h) hd ?_
            rw [← hR.2.2.2.1 558 (by omega)]
            exact k r ks H locs ls _ he hR hV hl hL (am_Sk_cons (am_v46 (by omega) (by omega)) hk)
          | false =>
          rw [h558] at hc
          dsimp only [cond_false] at hc
          cases h622 : Nat.beq a (64 * 9 + 46) with
          | true =>
            rw [h622] at hc
            have h9 := Nat.eq_of_beq_eq_true h622
            subst h9
            refine va_gets hx hb hS0.2.2.2.2.2.2.2.2.2.2.2.2.2.2.2 hV hown (hts _ (am_gw_in hc)) (fun _ h => h) hd ?_
            rw [← hR.2.2.2.1 622 (by omega)]
            exact k r ks H locs ls _ he hR hV hl hL (am_Sk_cons (am_v46 (by omega) (by omega)) hk)
          | false =>
          rw [h622] at hc
          cases hc
theorem am_s_getfield {j : Nat} (C : am_X D ca B0 E L0 xs l p s m args meth c y) (hd : decode (am_b y) pc = .ok (.getfield j, nx - pc)) (ho : am_ok1 (.getfield j) pc nx tg = true) (hs : am_stp y (.getfield j) pc nx tg L st M = some x) (k : am_W D ca B0 E L0 xs p l e R s m args below meth c y Q r0 ks0 n0 cells slots x.1 x.2.1 x.2.2.1 x.2.2.2) : am_W D ca B0 E L0 xs p l e R s m args below meth c y Q r0 ks0 n0 cells slots pc L st M := by
  obtain ⟨hx, hb, hml, hown, hts, hlk, hrt, hin, hK, hS0, hS2, hB0, hE, hst, het⟩ := C
  have hn : nx = pc + 3 := by simpa [am_ok1, am_len] using ho
  subst hn
  rw [Nat.add_sub_cancel_left] at hd
  simp only [am_stp] at hs
  replace hs := am_a1_inv hs; obtain ⟨a, t, rfl, hs⟩ := hs
  cases hg : am_gf (am_cl y) j a M with
  | none => rw [hg] at hs; cases hs
  | some v =>
    rw [hg] at hs
    cases hs
    intro r ks H locs ls st1 he hR hV hl hL hk
    replace hk := am_Sk_tl hk; obtain ⟨st2, rfl, hva, hk⟩ := hk
    have hoa := hva a rfl
    unfold am_gf at hg
    cases hp : am_pf (am_cl y) j with
    | some q =>
      obtain ⟨x, i, t0, fin⟩ := q
      rw [hp] at hg
      dsimp only at hg
      cases hq : Nat.beq (a % 64) x with
      | false =>
        rw [hq] at hg
        replace hg := am_if_inv hg; obtain ⟨hq2, hg⟩ := hg
        rw [Bool.and_eq_true] at hq2
        have h13 := Nat.eq_of_beq_eq_true hq2.1
        have h45 := Nat.eq_of_beq_eq_true hq2.2
        subst h13
        obtain ⟨f1, -⟩ := am_pf_sp hp
        obtain ⟨h8, ha⟩ := am_d45 hoa h45
        have hA46 : 64 * (a / 64) + 46 = a + 1 := congrArg Nat.succ ha
        have hra := hR.2.2.2.1 a (by omega)
        obtain ⟨z1, z2, z3⟩ := hS0.2.2.2.2.2.2.2.2.2.2.2.2.1 (a / 64) h8
        rw [ha] at z1 z2 z3
        show W p l e R s m args below meth c H locs cells slots Q (F0 m pc ls (.ref (r a) :: st2))
        rw [hra]
        split at hg
        · cases hg
          refine vk_getf hx hb z3 hV hown (hts _ f1) (fun _ h => h) hd ?_
          rw [← hR.2.2.2.1 (64 * (a / 64) + 46) (by omega), hA46]
          exact k r ks H locs ls _ he hR hV hl hL (am_Sk_cons (am_v46 (by omega) (by omega)) hk)
        · cases hg
          refine vk_getf hx hb z2 hV hown (hts _ f1) (fun _ h => h) hd ?_
          exact k r ks H locs ls _ he hR hV hl hL (am_Sk_cons (am_vok_int _) hk)
        · cases hg
      | true =>
      rw [hq] at hg
      dsimp only [cond_true] at hg
      have hq := Nat.eq_of_beq_eq_true hq
      obtain ⟨f1, f2, f3, f4, f5, f6, f7, f83, f8, f9, f11, f12⟩ := am_pf_sp hp
      obtain ⟨g1, g2⟩ := am_okk_lo hoa (by omega)
      have hw := am_ws_at (ca := ca) (r := r) (M := M) g1 g2
      rw [am_en_obj (by rw [hq]; exact f12), hq] at hw
      have hres : am_cv r v = am_fv r M a i ∧ am_vok ks (am_n M) v := by
        cases ht : Nat.beq t0 2 with
        | true =>
          rw [ht] at hg
          cases hg
          refine ⟨?_, am_vok_rv fun b hb => hR.2.2.1 a i b hb⟩
          rw [am_cv_rv]
          unfold am_fv
          rw [hq, f7, ht]
          rfl
        | false =>
          rw [ht] at hg
          cases hg
          refine ⟨?_, am_vok_int _⟩
          unfold am_fv
          rw [hq, f7, ht]
          rfl
      have hk2 := am_Sk_cons hres.2 hk
      rw [hres.1] at hk2
      refine va_get (v := am_fv r M a i) hx hb hts (am_u f4 f11) hown hK hR.1 (a / 64) hw (am_kcl f4 f11) i f3 (hts _ f1) (fun z hz => hz) (by simp [f3]) hd ?_
      exact k r ks H locs ls _ he hR hV hl hL hk2
    | none =>
      rw [hp] at hg
      dsimp only at hg
      replace hg := am_if_inv hg; obtain ⟨hq, hg⟩ := hg
      have hq := Nat.eq_of_beq_eq_true hq
      obtain ⟨h8, ha⟩ := am_d40 hoa hq
      have hra := hR.2.2.2.1 a (by omega)
      split at hg
      · rename_i hpe
        cases hg
        have hc := am_pe_ok hpe (by decide)
        unfold am_ce1 at hc
        rw [hpe] at hc
        have hof := (hS0.1.1 (a / 64) h8).2.2 _ (List.mem_cons_of_mem _ List.mem_cons_self)
        dsimp only at hof
        rw [ha, am_lN _ h8] at hof
        show W p l e R s m args below meth c H locs cells slots Q (F0 m pc ls (.ref (r a) :: st2))
        rw [hra]
        refine vk_getf hx hb hof hV hown (hts _ (am_gw_in hc)) (fun _ h => h) hd ?_
        exact k r ks H locs ls _ he hR hV hl hL (am_Sk_cons (am_vok_int _) hk)
      · rename_i hpe
        cases hg
        have hc := am_pe_ok hpe (by decide)
        unfold am_ce1 at hc
        rw [hpe] at hc
        have hof := hS0.2.1 (a / 64) h8
        dsimp only at hof
        rw [ha] at hof
        show W p l e R s m args below meth c H locs cells slots Q (F0 m pc ls (.ref (r a) :: st2))
        rw [hra]
        refine vk_getf hx hb hof hV hown (hts _ (am_gw_in hc)) (fun _ h => h) hd ?_
        rw [← hR.2.2.2.1 (64 * am_ef (a / 64) + 41) (by omega)]
        have h7 := am_efN _ h8
        exact k r ks H locs ls _ he hR hV hl hL (am_Sk_cons (am_vok_ref (Or.inr (Or.inr (Or.inl ⟨by omega, by omega⟩)))) hk)
      · cases hg
theorem am_s_putfield {j : Nat} (C : am_X D ca B0 E L0 xs l p s m args meth c y) (hd : decode (am_b y) pc = .ok (.putfield j, nx - pc)) (ho : am_ok1 (.putfield j) pc nx tg = true) (hs : am_stp y (.putfield j) pc nx tg L st M = some x) (k : am_W D ca B0 E L0 xs p l e R s m args below meth c y Q r0 ks0 n0 cells slots x.1 x.2.1 x.2.2.1 x.2.2.2) : am_W D ca B0 E L0 xs p l e R s m args below meth c y Q r0 ks0 n0 cells slots pc L st M := by
  obtain ⟨hx, hb, hml, hown, hts, hlk, hrt, hin, hK, hS0, hS2, hB0, hE, hst, het⟩ := C
  have hn : nx = pc + 3 := by simpa [am_ok1, am_len] using ho
  subst hn
  rw [Nat.add_sub_cancel_left] at hd
  simp only [am_stp] at hs
  split at hs
  · rename_i v a t
    cases hg : am_sf y (am_cl y) j a v M with
    | none => rw [hg] at hs; cases hs
    | some M1 =>
      rw [hg] at hs
      cases hs
      intro r ks H locs ls st1 he hR hV hl hL hk
      replace hk := am_Sk_tl hk; obtain ⟨st2, rfl, hvv, hk⟩ := hk
      replace hk := am_Sk_tl hk; obtain ⟨st3, rfl, hva, hk⟩ := hk
      have hoa := hva a rfl
      unfold am_sf at hg
      cases hp : am_pf (am_cl y) j with
      | none => rw [hp] at hg; cases hg
      | some q =>
        obtain ⟨z, i, t0, fin⟩ := q
        rw [hp] at hg
        dsimp only at hg
        replace hg := am_if_inv hg; obtain ⟨hq, hg⟩ := hg
        rw [Bool.and_eq_true] at hq
        obtain ⟨hq, hfi⟩ := hq
        have hq := Nat.eq_of_beq_eq_true hq
        obtain ⟨f1, f2, f3, f4, f5, f6, f7, f83, f8, f9, f11, f12⟩ := am_pf_sp hp
        obtain ⟨g1, g2⟩ := am_okk_lo hoa (by omega)
        have hw := am_ws_at (ca := ca) (r := r) (M := M) g1 g2
        rw [am_en_obj (by rw [hq]; exact f12), hq] at hw
        -- what is stored: a value of the field's type, and the memory behind it
        have key : ∃ ty, parseFieldDescriptor (am_kT z i).2.2.1 = some ty ∧ narrow ty (am_cv r v) = am_cv r v ∧ fits ty (am_cv r v) = true ∧ am_n M1 = am_n M ∧ am_en ca r M1 a = .inr (z, ((List.range (am_nf z)).map (am_fv r M a)).set i (am_cv r v)) ∧
            (∀ b, b ≠ a → M1.1 b = M.1 b ∧ M1.2.1 b = M.2.1 b ∧ M1.2.2.1 b = M.2.2.1 b ∧ M1.2.2.2.1 b = M.2.2.2.1 b) ∧ (∀ a j b, M1.2.1 a j = b + 1 → am_okk ks (am_n M) b) ∧ M1.2.2.2.2.2 = M.2.2.2.2.2 := by
          have hen : ∀ M2 : am_M, (∀ q, am_fv r M2 a q = if q = i then am_cv r v else am_fv r M a q) → am_en ca r M2 a = .inr (z, ((List.range (am_nf z)).map (am_fv r M a)).set i (am_cv r v)) := by
            intro M2 h2
            rw [am_en_obj (by rw [hq]; exact f12), hq, am_map_set]
            congr 2
            exact List.map_congr_left fun q _ => h2 q
          split at hg
          · rename_i w
            cases hg
            refine ⟨.int, f8 rfl, rfl, rfl, rfl, hen _ fun q => ?_, fun b hb => ⟨am_up_ne hb, rfl, rfl, rfl⟩, hR.2.2.1, rfl⟩
            unfold am_fv
            rw [hq]
            by_cases hi : q = i
            · subst hi
              rw [f7, if_pos rfl]
              show Value.int (am_up M.1 a q w a q) = Value.int w
              simp [am_up]
            · rw [if_neg hi]
              simp [am_up, hi]
          · rename_i w
            replace hg := am_if_inv hg; obtain ⟨hz, hg⟩ := hg
            cases hg
            have hw01 : w = 0 ∨ w = 1 := by simpa using hz
            refine ⟨.boolean, f9 rfl, ?_, ?_, rfl, hen _ fun q => ?_, fun b hb => ⟨am_up_ne hb, rfl, rfl, rfl⟩, hR.2.2.1, rfl⟩
            · rcases hw01 with h | h <;> subst h <;> rfl
            · rcases hw01 with h | h <;> subst h <;> rfl
            · unfold am_fv
              rw [hq]
              by_cases hi : q = i
              · subst hi
                rw [f7, if_pos rfl]
                show Value.int (am_up M.1 a q w a q) = Value.int w
                simp [am_up]
              · rw [if_neg hi]
                simp [am_up, hi]
          · rename_i w
            replace hg := am_if_inv hg; obtain ⟨hz, hg⟩ := hg
            cases hg
            have hwb : w.toInt8.toInt32 = w := of_decide_eq_true hz
            refine ⟨.byte, f83 rfl, ?_, ?_, rfl, hen _ fun q => ?_, fun b hb => ⟨am_up_ne hb, rfl, rfl, rfl⟩, hR.2.2.1, rfl⟩
            · show Value.int w.toInt8.toInt32 = Value.int w
              rw [hwb]
            · show fits .byte (.int w) = true
              rw [← hwb]
              exact pk_fb w
            · unfold am_fv
              rw [hq]
              by_cases hi : q = i
              · subst hi
                rw [f7, if_pos rfl]
                show Value.int (am_up M.1 a q w a q) = Value.int w
                simp [am_up]
              · rw [if_neg hi]
                simp [am_up, hi]
          · cases hg
            obtain ⟨ty, hty, hra⟩ := am_rty f4 f3 f11 (by rw [f7]; rfl)
            refine ⟨ty, hty, ?_, ?_, rfl, hen _ fun q => ?_, fun b hb => ⟨rfl, am_up_ne hb, rfl, rfl⟩, fun a' j' b hb => ?_, rfl⟩
            · rcases hra with ⟨C, rfl⟩ | ⟨C, rfl⟩ <;> rfl
            · rcases hra with ⟨C, rfl⟩ | ⟨C, rfl⟩ <;> rfl
            · unfold am_fv
              rw [hq]
              by_cases hi : q = i
              · subst hi
                rw [f7, if_pos rfl]
                simp [am_up, am_cv, am_ro, va_rf]
              · rw [if_neg hi]
                simp [am_up, hi]
            · simp only [am_up] at hb
              split at hb
              · split at hb
                · cases hb
                · exact hR.2.2.1 _ _ _ hb
              · exact hR.2.2.1 _ _ _ hb
          · rename_i w
            cases hg
            obtain ⟨ty, hty, hra⟩ := am_rty f4 f3 f11 (by rw [f7]; rfl)
            refine ⟨ty, hty, ?_, ?_, rfl, hen _ fun q => ?_, fun b hb => ⟨rfl, am_up_ne hb, rfl, rfl⟩, fun a' j' b hb => ?_, rfl⟩
            · rcases hra with ⟨C, rfl⟩ | ⟨C, rfl⟩ <;> rfl
            · rcases hra with ⟨C, rfl⟩ | ⟨C, rfl⟩ <;> rfl
            · unfold am_fv
              rw [hq]
              by_cases hi : q = i
              · subst hi
                rw [f7, if_pos rfl]
                simp [am_up, am_cv, am_ro, va_rf]
              · rw [if_neg hi]
                simp [am_up, hi]
            · simp only [am_up] at hb
              split at hb
              · split at hb
                · cases hb
                  exact hvv w rfl
                · exact hR.2.2.1 _ _ _ hb
              · exact hR.2.2.1 _ _ _ hb
          · cases hg
        obtain ⟨ty, k1, k2, k3, k4, k5, k6, k7, k8⟩ := key
        have hn1 : am_n M1 = am_n M := k4
        cases hfin : fin with
        | false =>
          rw [hfin] at f5
          refine va_put hx hb hts (am_u f4 f11) (am_kty z) (fun q hq => am_kty_ok z f4 q (by rw [f11]; exact hq)) (fun p1 h1 p2 h2 hne => am_knm z f4 p1 (by rw [f11]; exact h1) p2 (by rw [f11]; exact h2) hne) hown hK hR.1 hR.2.1 hV (a / 64) hw (am_kcl f4 f11) i f3 (hts _ f1) (fun z hz => hz) f5 k1 k2 k3 (by simp [f3]) hd fun H1 locs1 hP1 hD1 hV1 => ?_
          refine k r ks H1 locs1 ls _ (by rw [hn1]; exact he) (am_wr hR g1 g2 hP1 hD1 k4 k5 k6 k7 k8) hV1 hl (by rw [hn1]; exact hL) (by rw [hn1]; exact hk)
        | true =>
          rw [hfin] at f5 hfi
          have hfi : am_ini y = true ∧ Nat.beq z (am_cl y) = true := by simpa using hfi
          have hini := hfi.1
          have hcz := Nat.eq_of_beq_eq_true hfi.2
          refine va_putF hx hb hts (am_u f4 f11) (am_kty z) (fun q hq => am_kty_ok z f4 q (by rw [f11]; exact hq)) (fun p1 h1 p2 h2 hne => am_knm z f4 p1 (by rw [f11]; exact h1) p2 (by rw [f11]; exact h2) hne) hown hK hR.1 hR.2.1 hV (a / 64) hw (am_kcl f4 f11) i f3 (hts _ f1) (fun z hz => hz) f5 (hin hini) ((f2 hfin).trans (hcz ▸ am_kn f4 f3)) k1 k2 k3 (by simp [f3]) hd fun H1 locs1 hP1 hD1 hV1 => ?_
          refine k r ks H1 locs1 ls _ (by rw [hn1]; exact he) (am_wr hR g1 g2 hP1 hD1 k4 k5 k6 k7 k8) hV1 hl (by rw [hn1]; exact hL) (by rw [hn1]; exact hk)
  · cases hs
end AMS
