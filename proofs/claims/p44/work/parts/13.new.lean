/-! WHAT IS MADE: objects, arrays; the picture grows -/
theorem am_Lo_ext {r ks r1 ks1 : Nat → Nat} {n n1 : Nat} {L : am_L} {ls : Array Slot} (h : am_Lo r ks n L ls) (g : am_ext r ks n r1 ks1 n1) : am_Lo r1 ks1 n1 L ls := by
  refine ⟨h.1, h.2.1, fun i v hv => ?_⟩
  obtain ⟨h1, h2⟩ := h.2.2 i v hv
  exact ⟨by rw [am_cv_ext g h2]; exact h1, am_vok_ext g h2⟩
theorem am_Sk_ext {r ks r1 ks1 : Nat → Nat} {n n1 : Nat} {st st' : List Value} (h : am_Sk r ks n st st') (g : am_ext r ks n r1 ks1 n1) : am_Sk r1 ks1 n1 st st' := by
  obtain ⟨rfl, h⟩ := h
  exact ⟨List.map_congr_left fun v hv => (am_cv_ext g (h v hv)).symm, fun v hv => am_vok_ext g (h v hv)⟩
theorem am_en_r {ca : Nat → ClassId} {r r1 : Nat → Nat} {M : am_M} {a : Nat} (h : ∀ j b, M.2.1 a j = b + 1 → r1 b = r b) : am_en ca r1 M a = am_en ca r M a := by
  have h1 : ∀ j, am_ro r1 (M.2.1 a j) = am_ro r (M.2.1 a j) := by
    intro j
    cases hm : M.2.1 a j with
    | zero => rfl
    | succ b => exact congrArg some (h j b hm)
  have hf : am_fv r1 M a = am_fv r M a := by
    funext j
    unfold am_fv
    rw [h1]
  have hd : ∀ et, am_dat r1 M et a = am_dat r M et a := by
    intro et
    unfold am_dat
    simp only [h1]
  unfold am_en
  rw [hf]
  cases am_ak (a % 64) with
  | none => rfl
  | some q => simp only [hd]
def am_rU (r : Nat → Nat) (a q : Nat) : Nat → Nat := fun b => if b = a then q else r b
def am_kU (ks : Nat → Nat) (n k : Nat) : Nat → Nat := fun i => if i = n then k else ks i
/-- a new cell of kind k at the machine's q -/
theorem am_grow {D : va_G} {ca : Nat → ClassId} {B0 L0 : Nat} {xs : Nat → Int32} {E r ks : Nat → Nat} {M : am_M} {H H1 : Heap} {k q : Nat} {e' : va_E} (hR : am_Rp D ca B0 E L0 xs r ks M H) (hk : k < 32)
    (hP1 : va_P D am_cls (am_ws ca r ks M ++ [(q, e')]) H1) (hD1 : va_D (fun q : Nat => B0 ≤ q) (am_ws ca r ks M ++ [(q, e')])) (he : am_en ca r M (64 * am_n M + k) = e') :
    am_ext r ks (am_n M) (am_rU r (64 * am_n M + k) q) (am_kU ks (am_n M) k) (am_n M + 1) ∧ am_Rp D ca B0 E L0 xs (am_rU r (64 * am_n M + k) q) (am_kU ks (am_n M) k) (am_mk k M) H1 ∧ am_okk (am_kU ks (am_n M) k) (am_n M + 1) (64 * am_n M + k) := by
  obtain ⟨hP, hD, hcl, hE2, hks, hsl, hz⟩ := hR
  have hne : ∀ b, am_okk ks (am_n M) b → b ≠ 64 * am_n M + k := by
    intro b hb
    by_cases h : b % 64 < 32
    · have := (am_okk_lo hb h).1
      omega
    · omega
  have hx : am_ext r ks (am_n M) (am_rU r (64 * am_n M + k) q) (am_kU ks (am_n M) k) (am_n M + 1) := by
    refine ⟨Nat.le_succ _, fun i hi => ?_, fun a ha => ?_⟩
    · unfold am_kU; rw [if_neg (by omega)]
    · unfold am_rU; rw [if_neg (hne a ha)]
  have hok : am_okk (am_kU ks (am_n M) k) (am_n M + 1) (64 * am_n M + k) := by
    refine Or.inl ⟨by omega, by omega, ?_⟩
    unfold am_kU
    rw [if_pos (by omega)]
    omega
  have hen : ∀ a, am_en ca (am_rU r (64 * am_n M + k) q) M a = am_en ca r M a := fun a => am_en_r fun j b hb => by
    unfold am_rU
    rw [if_neg (hne b (hcl a j b hb))]
  have hn : am_n (am_mk k M) = am_n M + 1 := rfl
  have hws : am_ws ca (am_rU r (64 * am_n M + k) q) (am_kU ks (am_n M) k) (am_mk k M) = am_ws ca r ks M ++ [(q, e')] := by
    unfold am_ws
    rw [hn, List.range_succ, List.map_append]
    congr 1
    · refine List.map_congr_left fun i hi => ?_
      have hi := List.mem_range.mp hi
      have h1 : am_kU ks (am_n M) k i = ks i := by unfold am_kU; rw [if_neg (by omega)]
      have h2 := hks i hi
      rw [h1]
      have h3 : am_rU r (64 * am_n M + k) q (64 * i + ks i) = r (64 * i + ks i) := by
        unfold am_rU
        rw [if_neg (by omega)]
      rw [h3]
      congr 1
      exact hen _
    · have h1 : am_kU ks (am_n M) k (am_n M) = k := by unfold am_kU; rw [if_pos rfl]
      simp only [List.map_cons, List.map_nil, h1]
      congr 2
      · unfold am_rU; rw [if_pos rfl]
      · rw [← he]
        exact hen _
  refine ⟨hx, ⟨by rw [hws]; exact hP1, by rw [hws]; exact hD1, fun a j b hb => am_ext_ok hx (hcl a j b hb), fun a ha => ?_, fun i hi => ?_, hsl, fun a j ha => hz a j (by rw [hn] at ha; omega)⟩, hok⟩
  · unfold am_rU
    rw [if_neg (by omega)]
    exact hE2 a ha
  · unfold am_kU
    split
    · exact hk
    · exact hks i (by rw [hn] at hi; omega)
theorem am_dfl : ∀ x, x < 16 → x ≠ 0 → x ≠ 2 → ∀ k, k < (am_cls.getD x (RX1, TX1, 13)).2.2 → defaultValue (am_kty x k) = (bif am_isr x k then .null else .int 0) := by decide +kernel
def am_cin (x : Nat) : Bool := Nat.beq x 0 || Nat.beq x 2 || Nat.beq x 14 || (decide (Cond.instantiable (am_kC x) (am_nf x) ∈ am_tbl) && goodWord (.instantiable (am_kC x) (am_nf x)) && decide (Cond.initialized (am_kC x) ∈ am_tbl) && goodWord (.initialized (am_kC x)))
theorem am_cin_all : (List.range 16).all am_cin = true := by decide +kernel
theorem am_pcx_all : am_all2 (fun c k => match am_pc c k with
    | some x => !(Nat.beq x 0) && !(Nat.beq x 2) && !(Nat.beq x 14)
    | none => true) = true := by decide +kernel
theorem am_pcx {c k x : Nat} (h : am_pc c k = some x) : x ≠ 0 ∧ x ≠ 2 ∧ x ≠ 14 := by
  have h0 := h
  unfold am_pc at h
  obtain ⟨h1, h2, -⟩ := am_bnd h (by simp)
  have h3 := am_all2_at am_pcx_all h1 h2
  rw [h0] at h3
  simp only [Bool.and_eq_true, Bool.not_eq_true'] at h3
  exact ⟨fun q => by subst q; exact absurd h3.1.1 (by decide), fun q => by subst q; exact absurd h3.1.2 (by decide), fun q => by subst q; exact absurd h3.2 (by decide)⟩
theorem am_nk_all : (List.range 9).all (fun et => (List.range 1000).all fun n => match am_nk et n with
    | some k => decide (am_ak k = some (et, n)) && Nat.blt k 32
    | none => true) = true := by decide +kernel
theorem am_nk_sp {et n k : Nat} (h : am_nkb et n = some k) : am_ak k = some (et, n) ∧ k < 32 ∧ n < 1000 := by
  unfold am_nkb at h
  cases hc : (Nat.ble 9 et || Nat.ble 1000 n) with
  | true => rw [hc] at h; cases h
  | false =>
    rw [hc] at h
    dsimp only [cond_false] at h
    rw [Bool.or_eq_false_iff] at hc
    have h1 : et < 9 := Nat.lt_of_not_le fun q => by rw [Nat.ble_eq_true_of_le q] at hc; cases hc.1
    have h2 : n < 1000 := Nat.lt_of_not_le fun q => by rw [Nat.ble_eq_true_of_le q] at hc; cases hc.2
    have h3 := List.all_eq_true.mp (List.all_eq_true.mp am_nk_all et (List.mem_range.mpr h1)) n (List.mem_range.mpr h2)
    rw [h] at h3
    simp only [Bool.and_eq_true, decide_eq_true_eq] at h3
    exact ⟨h3.1, by simpa [Nat.blt_eq] using h3.2, h2⟩
theorem am_arw : (decide (Cond.arrayClass .int ∈ am_G) && decide (Cond.arrayClass .char ∈ am_G) && decide (Cond.arrayClass .long ∈ am_G) && decide (Cond.arrayClass .byte ∈ am_G)) = true := by decide +kernel
theorem am_caEq {D : va_G} {ca : Nat → ClassId} {s : State} {cA : ClassId} {ty : FieldType} {et : Nat} (hK : va_K D am_cls (am_tys ca ++ [(cA, ty)]) s) (he : (am_tys ca)[et]? = some (ca et, ty)) (h7 : et < 7) : cA = ca et := by
  have h1 : (am_tys ca ++ [(cA, ty)])[et]? = some (ca et, ty) := by
    rw [List.getElem?_append_left (show et < (am_tys ca).length from h7)]
    exact he
  have h2 : (am_tys ca ++ [(cA, ty)])[7]? = some (cA, ty) := rfl
  have g1 := (hK.2 et _ h1).2
  have g2 := (hK.2 7 _ h2).2
  cases ty with
  | object C =>
    obtain ⟨_, _, _, _, _, e1⟩ := g1
    obtain ⟨_, _, _, _, _, e2⟩ := g2
    exact Option.some.inj (e2.symm.trans e1)
  | _ => exact Option.some.inj (Eq.trans (Eq.symm g2) g1)

section AMS
variable {D : va_G} {ca : Nat → ClassId} {B0 : Nat} {E : Nat → Nat} {L0 : Nat} {xs : Nat → Int32} {p : Program} {l : Launch} {e : Env} {R : Room} {s : State} {m : MethodId} {args : Array Value} {below : List Frame} {meth : Method} {c : Code} {y : Nat} {Q : State → Prop} {r0 ks0 : Nat → Nat} {n0 cells slots pc nx tg : Nat} {L : am_L} {st : List Value} {M : am_M} {x : am_C}

theorem am_nw_new {j : Nat} {st1 : List Value} {M1 : am_M} {n : Nat} (C : am_X D ca B0 E L0 xs l p s m args meth c y) (hd : decode (am_b y) pc = .ok (.new j, nx - pc)) (ho : am_ok1 (.new j) pc nx tg = true) (hs : am_new y (.new j) st M = some (st1, M1, n)) (hcells : cells + 1 ≤ R.cells) (hslots : slots + n ≤ R.slots)
    (k : am_W D ca B0 E L0 xs p l e R s m args below meth c y Q r0 ks0 n0 (cells + 1) (slots + n) nx L st1 M1) : am_W D ca B0 E L0 xs p l e R s m args below meth c y Q r0 ks0 n0 cells slots pc L st M := by
  obtain ⟨hx, hb, hml, hown, hts, hlk, hrt, hin, hK, hS0, hS2, hB0, hE, hst, het⟩ := C
  have hn : nx = pc + 3 := by simpa [am_ok1, am_len] using ho
  subst hn
  rw [Nat.add_sub_cancel_left] at hd
  simp only [am_new] at hs
  cases hp : am_pc (am_cl y) j with
  | none => rw [hp] at hs; cases hs
  | some ci =>
    rw [hp] at hs
    cases hs
    have hc := am_pc_ok hp
    unfold am_cc1 at hc
    rw [hp] at hc
    simp only [Bool.and_eq_true] at hc
    obtain ⟨⟨⟨h1, h2⟩, h3⟩, h4⟩ := hc
    have h2 : ci < 16 := by simpa [Nat.blt_eq] using h2
    have h3 := Nat.eq_of_beq_eq_true h3
    have h4 : am_ak ci = none := by
      cases hk : am_ak ci with
      | none => rfl
      | some q => rw [hk] at h4; cases h4
    have h5 := List.all_eq_true.mp am_cin_all ci (List.mem_range.mpr h2)
    have hmod : (64 * am_n M + ci) % 64 = ci := by omega
    have hdiv : (64 * am_n M + ci) / 64 = am_n M := by omega
    intro r ks H locs ls st1 he hR hV hl hL hk
    have hci : ci ≠ 0 ∧ ci ≠ 2 ∧ ci ≠ 14 := am_pcx hp
    unfold am_cin at h5
    simp only [Bool.or_eq_true, Bool.and_eq_true, decide_eq_true_eq] at h5
    have h5 : (Cond.instantiable (am_kC ci) (am_nf ci) ∈ am_tbl ∧ goodWord (.instantiable (am_kC ci) (am_nf ci)) = true) ∧ Cond.initialized (am_kC ci) ∈ am_tbl ∧ goodWord (.initialized (am_kC ci)) = true := by
      rcases h5 with ((h | h) | h) | h
      · exact absurd (Nat.eq_of_beq_eq_true h) hci.1
      · exact absurd (Nat.eq_of_beq_eq_true h) hci.2.1
      · exact absurd (Nat.eq_of_beq_eq_true h) hci.2.2
      · exact ⟨⟨h.1.1.1, h.1.1.2⟩, h.1.2, h.2⟩
    have hfs : am_en ca r M (64 * am_n M + ci) = .inr (ci, (List.range (am_nf ci)).map (am_fv r M (64 * am_n M + ci))) := by
      rw [am_en_obj (by rw [hmod]; exact h4), hmod]
    refine va_new hx hb hts (am_u h2 h3) (am_kty ci) (fun q hq => am_kty_ok ci h2 q (by rw [h3]; exact hq)) hown (hts _ (am_gw_in h1)) (hts _ (List.mem_filter.mpr h5.1)) (hts _ (List.mem_filter.mpr h5.2)) hK hR.1 hR.2.1 hV (fun q hq => Nat.le_trans hB0 hq) (am_kcl h2 h3)
      (fs := (List.range (am_nf ci)).map (am_fv r M (64 * am_n M + ci))) (fun q hq => ?_) hcells hslots hd fun q H1 hP1 hD1 hV1 => ?_
    · rw [am_dfl ci h2 hci.1 hci.2.1 q (by rw [h3]; exact hq)]
      unfold vp_V am_fv
      have hzz := hR.2.2.2.2.2.2 (64 * am_n M + ci) q (by omega)
      rw [List.getD_eq_getElem?_getD, List.getElem?_map, List.getElem?_range hq]
      simp only [Option.map_some, Option.getD_some, hmod]
      rw [hzz.1, hzz.2.1]
      cases am_isr ci q <;> rfl
    · obtain ⟨g1, g2, g3⟩ := am_grow hR (by omega) hP1 hD1 hfs
      have hrq : am_rU r (64 * am_n M + ci) q (64 * am_n M + ci) = q := by unfold am_rU; rw [if_pos rfl]
      have hkk := k _ _ H1 locs ls _ (am_ext_tr he g1) g2 hV1 hl (am_Lo_ext hL g1) (am_Sk_cons (am_vok_ref g3) (am_Sk_ext hk g1))
      rw [show am_cv (am_rU r (64 * am_n M + ci) q) (.ref (64 * M.2.2.2.2.1 + ci)) = .ref q from congrArg Value.ref hrq] at hkk
      exact hkk
theorem am_nw_arr {t : ArrayType} {st1 : List Value} {M1 : am_M} {n : Nat} (C : am_X D ca B0 E L0 xs l p s m args meth c y) (hd : decode (am_b y) pc = .ok (.newarray t, nx - pc)) (ho : am_ok1 (.newarray t) pc nx tg = true) (hs : am_new y (.newarray t) st M = some (st1, M1, n)) (hcells : cells + 1 ≤ R.cells) (hslots : slots + n ≤ R.slots)
    (k : am_W D ca B0 E L0 xs p l e R s m args below meth c y Q r0 ks0 n0 (cells + 1) (slots + n) nx L st1 M1) : am_W D ca B0 E L0 xs p l e R s m args below meth c y Q r0 ks0 n0 cells slots pc L st M := by
  obtain ⟨hx, hb, hml, hown, hts, hlk, hrt, hin, hK, hS0, hS2, hB0, hE, hst, het⟩ := C
  have hn : nx = pc + 2 := by simpa [am_ok1, am_len] using ho
  subst hn
  rw [Nat.add_sub_cancel_left] at hd
  simp only [am_new] at hs
  replace hs := am_i1_inv hs; obtain ⟨v, t1, rfl, hs⟩ := hs
  split at hs
  · cases hs
  · rename_i hneg
    cases hp : am_nkb (am_et t) v.toNatClampNeg with
    | none => rw [hp] at hs; cases hs
    | some kk =>
      rw [hp] at hs
      cases hs
      obtain ⟨f1, f2, f3⟩ := am_nk_sp hp
      have hmod : (64 * am_n M + kk) % 64 = kk := by omega
      intro r ks H locs ls st1 he hR hV hl hL hk
      replace hk := am_Sk_tl hk; obtain ⟨st2, rfl, -, hk⟩ := hk
      have hzz := fun q => hR.2.2.2.2.2.2 (64 * am_n M + kk) q (by omega)
      have fin : ∀ (q : Nat) (H1 : Heap) (locs1 : List Loc), va_P D am_cls (am_ws ca r ks M ++ [(q, am_en ca r M (64 * am_n M + kk))]) H1 → va_D (fun q : Nat => B0 ≤ q) (am_ws ca r ks M ++ [(q, am_en ca r M (64 * am_n M + kk))]) → va_S (fun q : Nat => B0 ≤ q) s.heap H1 locs1 →
          W p l e R s m args below meth c H1 locs1 (cells + 1) (slots + v.toNatClampNeg) Q (F0 m (pc + 2) ls (.ref q :: st2)) := by
        intro q H1 locs1 hP1 hD1 hV1
        obtain ⟨g1, g2, g3⟩ := am_grow hR f2 hP1 hD1 rfl
        have hrq : am_rU r (64 * am_n M + kk) q (64 * am_n M + kk) = q := by unfold am_rU; rw [if_pos rfl]
        have hkk := k _ _ H1 locs1 ls _ (am_ext_tr he g1) g2 hV1 hl (am_Lo_ext hL g1) (am_Sk_cons (am_vok_ref g3) (am_Sk_ext hk g1))
        rw [show am_cv (am_rU r (64 * am_n M + kk) q) (.ref (64 * M.2.2.2.2.1 + kk)) = .ref q from congrArg Value.ref hrq] at hkk
        exact hkk
      have hen : am_en ca r M (64 * am_n M + kk) = .inl (ca (am_et t), v.toNatClampNeg, am_dat r M (am_et t) (64 * am_n M + kk)) := am_en_arr (by rw [hmod]; exact f1)
      rw [hen] at fin
      have hw := am_arw
      simp only [Bool.and_eq_true, decide_eq_true_eq] at hw
      obtain ⟨⟨⟨w1, w2⟩, w3⟩, w4⟩ := hw
      cases t <;> first | (exfalso; have h9 := am_ety_all kk f2; rw [f1] at h9; exact absurd (Nat.le_of_ble_eq_true h9) (by decide)) | skip
      · have hdat : am_dat r M 1 (64 * am_n M + kk) = .inl (fun _ => 0) := by
          rw [am_dat1, show M.1 (64 * am_n M + kk) = fun _ => 0 from funext fun q => (hzz q).1]
        refine va_newa (atype := .char) (ty := .char) (N' := v.toNatClampNeg) (a0 := (v.toNatClampNeg, .inl (fun _ => 0))) hx hb (hts _ w2) rfl hK hR.1 hR.2.1 hV (fun q hq => Nat.le_trans hB0 hq) (fun _ => rfl) hneg rfl (by show v.toNatClampNeg * _ ≤ _; simp only [componentBytes]; omega) hcells hslots hd fun q cA H1 hK1 hP1 hD1 hV1 => ?_
        have hca : cA = ca 1 := am_caEq (et := 1) hK1 rfl (by omega)
        subst hca
        refine fin q H1 locs ?_ ?_ hV1
        · rw [show am_et .char = 1 from rfl, hdat]; exact hP1
        · rw [show am_et .char = 1 from rfl, hdat]; exact hD1
      · have hdat : am_dat r M 6 (64 * am_n M + kk) = .inl (fun _ => 0) := by
          rw [am_dat6, show M.1 (64 * am_n M + kk) = fun _ => 0 from funext fun q => (hzz q).1]
        refine va_newa (atype := .byte) (ty := .byte) (N' := v.toNatClampNeg) (a0 := (v.toNatClampNeg, .inl (fun _ => 0))) hx hb (hts _ w4) rfl hK hR.1 hR.2.1 hV (fun q hq => Nat.le_trans hB0 hq) (fun _ => rfl) hneg rfl (by show v.toNatClampNeg * _ ≤ _; simp only [componentBytes]; omega) hcells hslots hd fun q cA H1 hK1 hP1 hD1 hV1 => ?_
        have hca : cA = ca 6 := am_caEq (et := 6) hK1 rfl (by omega)
        subst hca
        refine fin q H1 locs ?_ ?_ hV1
        · rw [show am_et .byte = 6 from rfl, hdat]; exact hP1
        · rw [show am_et .byte = 6 from rfl, hdat]; exact hD1
      · have hdat : am_dat r M 0 (64 * am_n M + kk) = .inl (fun _ => 0) := by
          rw [am_dat0, show M.1 (64 * am_n M + kk) = fun _ => 0 from funext fun q => (hzz q).1]
        refine va_newa (atype := .int) (ty := .int) (N' := v.toNatClampNeg) (a0 := (v.toNatClampNeg, .inl (fun _ => 0))) hx hb (hts _ w1) rfl hK hR.1 hR.2.1 hV (fun q hq => Nat.le_trans hB0 hq) (fun _ => rfl) hneg rfl (by show v.toNatClampNeg * _ ≤ _; simp only [componentBytes]; omega) hcells hslots hd fun q cA H1 hK1 hP1 hD1 hV1 => ?_
        have hca : cA = ca 0 := am_caEq (et := 0) hK1 rfl (by omega)
        subst hca
        refine fin q H1 locs ?_ ?_ hV1
        · rw [show am_et .int = 0 from rfl, hdat]; exact hP1
        · rw [show am_et .int = 0 from rfl, hdat]; exact hD1
      · have hdat : am_dat r M 5 (64 * am_n M + kk) = .inr (.inl (fun _ => 0)) := by
          rw [am_dat5, show M.2.2.1 (64 * am_n M + kk) = fun _ => 0 from funext fun q => (hzz q).2.2.1]
        refine va_newa (atype := .long) (ty := .long) (N' := v.toNatClampNeg) (a0 := (v.toNatClampNeg, .inr (.inl (fun _ => 0)))) hx hb (hts _ w3) rfl hK hR.1 hR.2.1 hV (fun q hq => Nat.le_trans hB0 hq) (fun _ => rfl) hneg rfl (by show v.toNatClampNeg * _ ≤ _; simp only [componentBytes]; omega) hcells hslots hd fun q cA H1 hK1 hP1 hD1 hV1 => ?_
        have hca : cA = ca 5 := am_caEq (et := 5) hK1 rfl (by omega)
        subst hca
        refine fin q H1 locs ?_ ?_ hV1
        · rw [show am_et .long = 5 from rfl, hdat]; exact hP1
        · rw [show am_et .long = 5 from rfl, hdat]; exact hD1
theorem am_nw_anw {j : Nat} {st1 : List Value} {M1 : am_M} {n : Nat} (C : am_X D ca B0 E L0 xs l p s m args meth c y) (hd : decode (am_b y) pc = .ok (.anewarray j, nx - pc)) (ho : am_ok1 (.anewarray j) pc nx tg = true) (hs : am_new y (.anewarray j) st M = some (st1, M1, n)) (hcells : cells + 1 ≤ R.cells) (hslots : slots + n ≤ R.slots)
    (k : am_W D ca B0 E L0 xs p l e R s m args below meth c y Q r0 ks0 n0 (cells + 1) (slots + n) nx L st1 M1) : am_W D ca B0 E L0 xs p l e R s m args below meth c y Q r0 ks0 n0 cells slots pc L st M := by
  obtain ⟨hx, hb, hml, hown, hts, hlk, hrt, hin, hK, hS0, hS2, hB0, hE, hst, het⟩ := C
  have hn : nx = pc + 3 := by simpa [am_ok1, am_len] using ho
  subst hn
  rw [Nat.add_sub_cancel_left] at hd
  simp only [am_new] at hs
  replace hs := am_i1_inv hs; obtain ⟨v, t1, rfl, hs⟩ := hs
  split at hs
  · cases hs
  · rename_i hneg
    cases hpc : am_pc (am_cl y) j with
    | none => rw [hpc] at hs; cases hs
    | some ci =>
      rw [hpc] at hs
      dsimp only at hs
      cases hp : am_nkb (am_eo ci) v.toNatClampNeg with
      | none => rw [hp] at hs; cases hs
      | some kk =>
        rw [hp] at hs
        cases hs
        have hc := am_pc_ok hpc
        unfold am_cc1 at hc
        rw [hpc] at hc
        simp only [Bool.and_eq_true] at hc
        obtain ⟨⟨⟨h1, h2⟩, h3⟩, h4⟩ := hc
        obtain ⟨f1, f2, f3⟩ := am_nk_sp hp
        have hmod : (64 * am_n M + kk) % 64 = kk := by omega
        intro r ks H locs ls st1 he hR hV hl hL hk
        replace hk := am_Sk_tl hk; obtain ⟨st2, rfl, -, hk⟩ := hk
        have hzz := fun q => hR.2.2.2.2.2.2 (64 * am_n M + kk) q (by omega)
        have fin : ∀ (q : Nat) (H1 : Heap) (locs1 : List Loc), va_P D am_cls (am_ws ca r ks M ++ [(q, am_en ca r M (64 * am_n M + kk))]) H1 → va_D (fun q : Nat => B0 ≤ q) (am_ws ca r ks M ++ [(q, am_en ca r M (64 * am_n M + kk))]) → va_S (fun q : Nat => B0 ≤ q) s.heap H1 locs1 →
            W p l e R s m args below meth c H1 locs1 (cells + 1) (slots + v.toNatClampNeg) Q (F0 m (pc + 3) ls (.ref q :: st2)) := by
          intro q H1 locs1 hP1 hD1 hV1
          obtain ⟨g1, g2, g3⟩ := am_grow hR f2 hP1 hD1 rfl
          have hrq : am_rU r (64 * am_n M + kk) q (64 * am_n M + kk) = q := by unfold am_rU; rw [if_pos rfl]
          have hkk := k _ _ H1 locs1 ls _ (am_ext_tr he g1) g2 hV1 hl (am_Lo_ext hL g1) (am_Sk_cons (am_vok_ref g3) (am_Sk_ext hk g1))
          rw [show am_cv (am_rU r (64 * am_n M + kk) q) (.ref (64 * M.2.2.2.2.1 + kk)) = .ref q from congrArg Value.ref hrq] at hkk
          exact hkk
        have hen : am_en ca r M (64 * am_n M + kk) = .inl (ca (am_eo ci), v.toNatClampNeg, am_dat r M (am_eo ci) (64 * am_n M + kk)) := am_en_arr (by rw [hmod]; exact f1)
        rw [hen] at fin
        have h6 : am_eo ci ≤ 6 := by
          have h9 := am_ety_all kk f2
          rw [f1] at h9
          exact Nat.le_of_ble_eq_true h9
        have h7 : (ci = 1 ∧ am_eo ci = 2) ∨ (ci = 6 ∧ am_eo ci = 3) ∨ (ci = 8 ∧ am_eo ci = 4) := by
          unfold am_eo at h6 ⊢
          cases e1 : Nat.beq ci 1 with
          | true => exact Or.inl ⟨Nat.eq_of_beq_eq_true e1, rfl⟩
          | false =>
            rw [e1] at h6
            cases e2 : Nat.beq ci 6 with
            | true => exact Or.inr (Or.inl ⟨Nat.eq_of_beq_eq_true e2, rfl⟩)
            | false =>
              rw [e2] at h6
              cases e3 : Nat.beq ci 8 with
              | true => exact Or.inr (Or.inr ⟨Nat.eq_of_beq_eq_true e3, rfl⟩)
              | false => rw [e3] at h6; exact absurd h6 (by decide)
        have hdat : ∀ et, Nat.ble 2 et = true → Nat.ble et 4 = true → am_dat r M et (64 * am_n M + kk) = .inr (.inr (.inr (.inr (fun _ => none)))) := by
          intro et e1 e2
          rw [am_dat2 r M _ et e1 e2]
          congr 4
          funext q
          rw [(hzz q).2.1]
          rfl
        rcases h7 with ⟨rfl, h8⟩ | h7
        · refine va_newq (C := am_kC 1) hx hb hown (hts _ (am_gw_in h1)) hS2.2.2.1 hK hR.1 hR.2.1 hV (fun q hq => Nat.le_trans hB0 hq) hneg rfl (by omega) hcells hslots hd fun q cA H1 hK1 hP1 hD1 hV1 => ?_
          have hca : cA = ca 2 := am_caEq (et := 2) hK1 rfl (by omega)
          subst hca
          refine fin q H1 locs ?_ ?_ hV1
          · rw [h8, hdat 2 rfl rfl]; exact hP1
          · rw [h8, hdat 2 rfl rfl]; exact hD1
        rcases h7 with ⟨rfl, h8⟩ | ⟨rfl, h8⟩
        · refine va_newq (C := am_kC 6) hx hb hown (hts _ (am_gw_in h1)) hS2.2.2.2.1 hK hR.1 hR.2.1 hV (fun q hq => Nat.le_trans hB0 hq) hneg rfl (by omega) hcells hslots hd fun q cA H1 hK1 hP1 hD1 hV1 => ?_
          have hca : cA = ca 3 := am_caEq (et := 3) hK1 rfl (by omega)
          subst hca
          refine fin q H1 locs ?_ ?_ hV1
          · rw [h8, hdat 3 rfl rfl]; exact hP1
          · rw [h8, hdat 3 rfl rfl]; exact hD1
        · refine va_newq (C := am_kC 8) hx hb hown (hts _ (am_gw_in h1)) hS2.2.2.2.2.1 hK hR.1 hR.2.1 hV (fun q hq => Nat.le_trans hB0 hq) hneg rfl (by omega) hcells hslots hd fun q cA H1 hK1 hP1 hD1 hV1 => ?_
          have hca : cA = ca 4 := am_caEq (et := 4) hK1 rfl (by omega)
          subst hca
          refine fin q H1 locs ?_ ?_ hV1
          · rw [h8, hdat 4 rfl rfl]; exact hP1
          · rw [h8, hdat 4 rfl rfl]; exact hD1
end AMS
