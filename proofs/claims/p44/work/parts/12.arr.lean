/-! ONE INSTRUCTION: arrays, switches, references compared -/
theorem am_dat0 (r : Nat → Nat) (M : am_M) (a : Nat) : am_dat r M 0 a = .inl (M.1 a) := rfl
theorem am_dat1 (r : Nat → Nat) (M : am_M) (a : Nat) : am_dat r M 1 a = .inl (M.1 a) := rfl
theorem am_dat5 (r : Nat → Nat) (M : am_M) (a : Nat) : am_dat r M 5 a = .inr (.inl (M.2.2.1 a)) := rfl
theorem am_dat6 (r : Nat → Nat) (M : am_M) (a : Nat) : am_dat r M 6 a = .inl (M.1 a) := rfl
theorem am_dat2 (r : Nat → Nat) (M : am_M) (a et : Nat) (h1 : Nat.ble 2 et = true) (h2 : Nat.ble et 4 = true) : am_dat r M et a = .inr (.inr (.inr (.inr (fun j => am_ro r (M.2.1 a j))))) := by
  have h1 := Nat.le_of_ble_eq_true h1
  have h2 := Nat.le_of_ble_eq_true h2
  have h3 : et = 2 ∨ et = 3 ∨ et = 4 := by omega
  rcases h3 with h | h | h <;> subst h <;> rfl
theorem am_lt3 {v et : Nat} (h : (et = 2 ∧ v % 64 = 1) ∨ (et = 3 ∧ v % 64 = 6) ∨ (et = 4 ∧ v % 64 = 8)) : v % 64 < 32 := by omega
theorem am_upd {f : Nat → Nat → Int32} (a k : Nat) (x : Int32) : am_up f a k x a = upd (f a) k x := am_up_at f a k x
theorem am_updL {f : Nat → Nat → Int64} (a k : Nat) (x : Int64) : am_up f a k x a = vp_updL (f a) k x := am_up_at f a k x
theorem am_updD {f : Nat → Nat → UInt64} (a k : Nat) (x : UInt64) : am_up f a k x a = vf_upd (f a) k x := am_up_at f a k x

theorem am_ety_all : ∀ k, k < 32 → (match am_ak k with
    | some (et, _) => Nat.ble et 6
    | none => true) = true := by decide +kernel
theorem am_ety {ca : Nat → ClassId} {k et n : Nat} (h : am_ak k = some (et, n)) : ∃ (t0 : Nat) (ty : FieldType), (am_tys ca)[t0]? = some (ca et, ty) := by
  have h1 := am_ety_all k (am_ak_lo h)
  rw [h] at h1
  have h2 := Nat.le_of_ble_eq_true h1
  have h3 : et = 0 ∨ et = 1 ∨ et = 2 ∨ et = 3 ∨ et = 4 ∨ et = 5 ∨ et = 6 := by omega
  rcases h3 with h | h | h | h | h | h | h <;> subst h
  · exact ⟨0, _, rfl⟩
  · exact ⟨1, _, rfl⟩
  · exact ⟨2, _, rfl⟩
  · exact ⟨3, _, rfl⟩
  · exact ⟨4, _, rfl⟩
  · exact ⟨5, _, rfl⟩
  · exact ⟨6, _, rfl⟩
section AMS
variable {D : va_G} {ca : Nat → ClassId} {B0 : Nat} {E : Nat → Nat} {L0 : Nat} {xs : Nat → Int32} {p : Program} {l : Launch} {e : Env} {R : Room} {s : State} {m : MethodId} {args : Array Value} {below : List Frame} {meth : Method} {c : Code} {y : Nat} {Q : State → Prop} {r0 ks0 : Nat → Nat} {n0 cells slots pc nx tg : Nat} {L : am_L} {st : List Value} {M : am_M} {x : am_C}

theorem am_s_arraylength  (C : am_X D ca B0 E L0 xs l p s m args meth c y) (hd : decode (am_b y) pc = .ok (.arraylength, nx - pc)) (ho : am_ok1 (.arraylength) pc nx tg = true) (hs : am_stp y (.arraylength) pc nx tg L st M = some x) (k : am_W D ca B0 E L0 xs p l e R s m args below meth c y Q r0 ks0 n0 cells slots x.1 x.2.1 x.2.2.1 x.2.2.2) : am_W D ca B0 E L0 xs p l e R s m args below meth c y Q r0 ks0 n0 cells slots pc L st M := by
  obtain ⟨hx, hb, hml, hown, hts, hlk, hrt, hin, hK, hS0, hS2, hB0, hE, hst, het⟩ := C
  have hn : nx = pc + 1 := by simpa [am_ok1, am_len] using ho
  subst hn
  rw [Nat.add_sub_cancel_left] at hd
  simp only [am_stp] at hs
  replace hs := am_a1_inv hs; obtain ⟨a, t, rfl, hs⟩ := hs
  cases h44 : Nat.beq (a % 64) 44 with
  | true =>
    rw [h44] at hs
    cases hs
    have h44 := Nat.eq_of_beq_eq_true h44
    intro r ks H locs ls st1 he hR hV hl hL hk
    replace hk := am_Sk_tl hk; obtain ⟨st2, rfl, hva, hk⟩ := hk
    have h9 := am_d44 (hva a rfl) h44
    subst h9
    show W p l e R s m args below meth c H locs cells slots Q (F0 m pc ls (.ref (r 44) :: st2))
    rw [hR.2.2.2.1 44 (by omega)]
    refine va_slen hx hb hS0.2.2.2.2.2.2.2.1 (Nat.lt_of_lt_of_le hE hB0) (by show ¬ B0 ≤ E 44; omega) hV hd ?_
    have hsc := hR.2.2.2.2.2.1
    rw [show M.2.2.2.2.2.1 = L0 from congrArg Prod.fst hsc] at k
    exact k r ks H locs ls _ he hR hV hl hL (am_Sk_cons (am_vok_int _) hk)
  | false =>
    rw [h44] at hs
    cases h42 : Nat.beq (a % 64) 42 with
    | true =>
      rw [h42] at hs
      cases hs
      have h42 := Nat.eq_of_beq_eq_true h42
      intro r ks H locs ls st1 he hR hV hl hL hk
      replace hk := am_Sk_tl hk; obtain ⟨st2, rfl, hva, hk⟩ := hk
      have h9 := am_d42 (hva a rfl) h42
      subst h9
      show W p l e R s m args below meth c H locs cells slots Q (F0 m pc ls (.ref (r 42) :: st2))
      rw [hR.2.2.2.1 42 (by omega)]
      refine va_tlen (v := 8) hx hb hS0.2.2.2.2.1 hV rfl hd ?_
      exact k r ks H locs ls _ he hR hV hl hL (am_Sk_cons (am_vok_int _) hk)
    | false =>
      rw [h42] at hs
      cases h46 : Nat.beq (a % 64) 46 with
      | true =>
        rw [h46] at hs
        cases hs
        have h46 := Nat.eq_of_beq_eq_true h46
        intro r ks H locs ls st1 he hR hV hl hL hk
        replace hk := am_Sk_tl hk; obtain ⟨st2, rfl, hva, hk⟩ := hk
        obtain ⟨h10, ha⟩ := am_d46 (hva a rfl) h46
        have hT := hS0.2.2.2.2.2.2.2.2.2.2.2.2.2.1 (a / 64) h10
        rw [ha] at hT
        show W p l e R s m args below meth c H locs cells slots Q (F0 m pc ls (.ref (r a) :: st2))
        rw [hR.2.2.2.1 a (by omega)]
        refine va_tlen (v := Int32.ofNat (am_sn (a / 64))) hx hb hT hV rfl hd ?_
        exact k r ks H locs ls _ he hR hV hl hL (am_Sk_cons (am_vok_int _) hk)
      | false =>
      rw [h46] at hs
      dsimp only [cond_false] at hs
      cases hak : am_ak (a % 64) with
      | none => rw [hak] at hs; cases hs
      | some q =>
        obtain ⟨et, n⟩ := q
        rw [hak] at hs
        cases hs
        intro r ks H locs ls st1 he hR hV hl hL hk
        replace hk := am_Sk_tl hk; obtain ⟨st2, rfl, hva, hk⟩ := hk
        have h32 := am_ak_lo hak
        obtain ⟨g1, g2⟩ := am_okk_lo (hva a rfl) h32
        have hw := am_ws_at (ca := ca) (r := r) (M := M) g1 g2
        rw [am_en_arr hak] at hw
        obtain ⟨t0, ty, ht0⟩ := am_ety (ca := ca) hak
        refine va_alen hx hb hK hR.1 (a / 64) t0 hw ht0 rfl hd ?_
        exact k r ks H locs ls _ he hR hV hl hL (am_Sk_cons (am_vok_int _) hk)
theorem am_s_iaload  (C : am_X D ca B0 E L0 xs l p s m args meth c y) (hd : decode (am_b y) pc = .ok (.iaload, nx - pc)) (ho : am_ok1 (.iaload) pc nx tg = true) (hs : am_stp y (.iaload) pc nx tg L st M = some x) (k : am_W D ca B0 E L0 xs p l e R s m args below meth c y Q r0 ks0 n0 cells slots x.1 x.2.1 x.2.2.1 x.2.2.2) : am_W D ca B0 E L0 xs p l e R s m args below meth c y Q r0 ks0 n0 cells slots pc L st M := by
  obtain ⟨hx, hb, hml, hown, hts, hlk, hrt, hin, hK, hS0, hS2, hB0, hE, hst, het⟩ := C
  have hn : nx = pc + 1 := by simpa [am_ok1, am_len] using ho
  subst hn
  rw [Nat.add_sub_cancel_left] at hd
  simp only [am_stp] at hs
  replace hs := am_ia_inv hs; obtain ⟨j, a, t, rfl, hs⟩ := hs
  cases h44 : Nat.beq (a % 64) 44 with
  | true =>
    rw [h44] at hs
    dsimp only [cond_true] at hs
    replace hs := am_if_inv hs; obtain ⟨hj, hs⟩ := hs
    cases hs
    have h44 := Nat.eq_of_beq_eq_true h44
    intro r ks H locs ls st1 he hR hV hl hL hk
    replace hk := am_Sk_tl hk; obtain ⟨st2, rfl, -, hk⟩ := hk
    replace hk := am_Sk_tl hk; obtain ⟨st3, rfl, hva, hk⟩ := hk
    have h9 := am_d44 (hva a rfl) h44
    subst h9
    have hsc := hR.2.2.2.2.2.1
    rw [show M.2.2.2.2.2.1 = L0 from congrArg Prod.fst hsc] at hj
    show W p l e R s m args below meth c H locs cells slots Q (F0 m pc ls (.int j :: .ref (r 44) :: st3))
    rw [hR.2.2.2.1 44 (by omega)]
    refine va_sld hx hb hS0.2.2.2.2.2.2.2.1 (Nat.lt_of_lt_of_le hE hB0) (by show ¬ B0 ≤ E 44; omega) hV (am_in_sp hj) hd ?_
    rw [show M.2.2.2.2.2.2 = xs from congrArg Prod.snd hsc] at k
    exact k r ks H locs ls _ he hR hV hl hL (am_Sk_cons (am_vok_int _) hk)
  | false =>
  rw [h44] at hs
  dsimp only [cond_false] at hs
  cases h43 : Nat.beq (a % 64) 43 with
  | true =>
    rw [h43] at hs
    dsimp only [cond_true] at hs
    replace hs := am_if_inv hs; obtain ⟨hj, hs⟩ := hs
    cases hs
    have h43 := Nat.eq_of_beq_eq_true h43
    intro r ks H locs ls st1 he hR hV hl hL hk
    replace hk := am_Sk_tl hk; obtain ⟨st2, rfl, -, hk⟩ := hk
    replace hk := am_Sk_tl hk; obtain ⟨st3, rfl, hva, hk⟩ := hk
    have h9 := am_d43 (hva a rfl) h43
    subst h9
    show W p l e R s m args below meth c H locs cells slots Q (F0 m pc ls (.int j :: .ref (r 43) :: st3))
    rw [hR.2.2.2.1 43 (by omega)]
    refine va_ti hx hb hS0.2.2.2.2.2.2.1 hV (am_in_sp hj) rfl hd ?_
    exact k r ks H locs ls _ he hR hV hl hL (am_Sk_cons (am_vok_int _) hk)
  | false =>
  rw [h43] at hs
  dsimp only [cond_false] at hs
  cases hak : am_ak (a % 64) with
  | none => rw [hak] at hs; cases hs
  | some q =>
    obtain ⟨et, n⟩ := q
    rw [hak] at hs
    dsimp only at hs
    replace hs := am_if_inv hs; obtain ⟨hz, hs⟩ := hs
    cases hs
    rw [Bool.and_eq_true] at hz
    obtain ⟨hz, hj⟩ := hz
    have hz := Nat.eq_of_beq_eq_true hz
    subst hz
    intro r ks H locs ls st1 he hR hV hl hL hk
    replace hk := am_Sk_tl hk; obtain ⟨st2, rfl, -, hk⟩ := hk
    replace hk := am_Sk_tl hk; obtain ⟨st3, rfl, hva, hk⟩ := hk
    obtain ⟨g1, g2⟩ := am_okk_lo (hva a rfl) (am_ak_lo hak)
    have hw := am_ws_at (ca := ca) (r := r) (M := M) g1 g2
    rw [am_en_arr hak, am_dat0] at hw
    refine va_iald hx hb hK hR.1 (a / 64) 0 hw rfl (am_in_sp hj) hd ?_
    exact k r ks H locs ls _ he hR hV hl hL (am_Sk_cons (am_vok_int _) hk)
theorem am_s_caload  (C : am_X D ca B0 E L0 xs l p s m args meth c y) (hd : decode (am_b y) pc = .ok (.caload, nx - pc)) (ho : am_ok1 (.caload) pc nx tg = true) (hs : am_stp y (.caload) pc nx tg L st M = some x) (k : am_W D ca B0 E L0 xs p l e R s m args below meth c y Q r0 ks0 n0 cells slots x.1 x.2.1 x.2.2.1 x.2.2.2) : am_W D ca B0 E L0 xs p l e R s m args below meth c y Q r0 ks0 n0 cells slots pc L st M := by
  obtain ⟨hx, hb, hml, hown, hts, hlk, hrt, hin, hK, hS0, hS2, hB0, hE, hst, het⟩ := C
  have hn : nx = pc + 1 := by simpa [am_ok1, am_len] using ho
  subst hn
  rw [Nat.add_sub_cancel_left] at hd
  simp only [am_stp] at hs
  replace hs := am_ia_inv hs; obtain ⟨j, a, t, rfl, hs⟩ := hs
  cases hak : am_ak (a % 64) with
  | none => rw [hak] at hs; cases hs
  | some q =>
    obtain ⟨et, n⟩ := q
    rw [hak] at hs
    dsimp only at hs
    replace hs := am_if_inv hs; obtain ⟨hz, hs⟩ := hs
    cases hs
    rw [Bool.and_eq_true] at hz
    obtain ⟨hz, hj⟩ := hz
    have hz := Nat.eq_of_beq_eq_true hz
    subst hz
    intro r ks H locs ls st1 he hR hV hl hL hk
    replace hk := am_Sk_tl hk; obtain ⟨st2, rfl, -, hk⟩ := hk
    replace hk := am_Sk_tl hk; obtain ⟨st3, rfl, hva, hk⟩ := hk
    obtain ⟨g1, g2⟩ := am_okk_lo (hva a rfl) (am_ak_lo hak)
    have hw := am_ws_at (ca := ca) (r := r) (M := M) g1 g2
    rw [am_en_arr hak, am_dat1] at hw
    refine va_cald hx hb hK hR.1 (a / 64) 1 hw rfl (am_in_sp hj) hd ?_
    exact k r ks H locs ls _ he hR hV hl hL (am_Sk_cons (am_vok_int _) hk)
theorem am_s_laload  (C : am_X D ca B0 E L0 xs l p s m args meth c y) (hd : decode (am_b y) pc = .ok (.laload, nx - pc)) (ho : am_ok1 (.laload) pc nx tg = true) (hs : am_stp y (.laload) pc nx tg L st M = some x) (k : am_W D ca B0 E L0 xs p l e R s m args below meth c y Q r0 ks0 n0 cells slots x.1 x.2.1 x.2.2.1 x.2.2.2) : am_W D ca B0 E L0 xs p l e R s m args below meth c y Q r0 ks0 n0 cells slots pc L st M := by
  obtain ⟨hx, hb, hml, hown, hts, hlk, hrt, hin, hK, hS0, hS2, hB0, hE, hst, het⟩ := C
  have hn : nx = pc + 1 := by simpa [am_ok1, am_len] using ho
  subst hn
  rw [Nat.add_sub_cancel_left] at hd
  simp only [am_stp] at hs
  replace hs := am_ia_inv hs; obtain ⟨j, a, t, rfl, hs⟩ := hs
  cases hak : am_ak (a % 64) with
  | none => rw [hak] at hs; cases hs
  | some q =>
    obtain ⟨et, n⟩ := q
    rw [hak] at hs
    dsimp only at hs
    replace hs := am_if_inv hs; obtain ⟨hz, hs⟩ := hs
    cases hs
    rw [Bool.and_eq_true] at hz
    obtain ⟨hz, hj⟩ := hz
    have hz := Nat.eq_of_beq_eq_true hz
    subst hz
    intro r ks H locs ls st1 he hR hV hl hL hk
    replace hk := am_Sk_tl hk; obtain ⟨st2, rfl, -, hk⟩ := hk
    replace hk := am_Sk_tl hk; obtain ⟨st3, rfl, hva, hk⟩ := hk
    obtain ⟨g1, g2⟩ := am_okk_lo (hva a rfl) (am_ak_lo hak)
    have hw := am_ws_at (ca := ca) (r := r) (M := M) g1 g2
    rw [am_en_arr hak, am_dat5] at hw
    refine va_lald hx hb hK hR.1 (a / 64) 5 hw rfl (am_in_sp hj) hd ?_
    exact k r ks H locs ls _ he hR hV hl hL (am_Sk_cons (fun _ h => by cases h) hk)
theorem am_s_baload  (C : am_X D ca B0 E L0 xs l p s m args meth c y) (hd : decode (am_b y) pc = .ok (.baload, nx - pc)) (ho : am_ok1 (.baload) pc nx tg = true) (hs : am_stp y (.baload) pc nx tg L st M = some x) (k : am_W D ca B0 E L0 xs p l e R s m args below meth c y Q r0 ks0 n0 cells slots x.1 x.2.1 x.2.2.1 x.2.2.2) : am_W D ca B0 E L0 xs p l e R s m args below meth c y Q r0 ks0 n0 cells slots pc L st M := by
  obtain ⟨hx, hb, hml, hown, hts, hlk, hrt, hin, hK, hS0, hS2, hB0, hE, hst, het⟩ := C
  have hn : nx = pc + 1 := by simpa [am_ok1, am_len] using ho
  subst hn
  rw [Nat.add_sub_cancel_left] at hd
  simp only [am_stp] at hs
  replace hs := am_ia_inv hs; obtain ⟨j, a, t, rfl, hs⟩ := hs
  cases h46 : Nat.beq (a % 64) 46 with
  | true =>
    rw [h46] at hs
    dsimp only [cond_true] at hs
    replace hs := am_if_inv hs; obtain ⟨hj, hs⟩ := hs
    cases hs
    have h46 := Nat.eq_of_beq_eq_true h46
    intro r ks H locs ls st1 he hR hV hl hL hk
    replace hk := am_Sk_tl hk; obtain ⟨st2, rfl, -, hk⟩ := hk
    replace hk := am_Sk_tl hk; obtain ⟨st3, rfl, hva, hk⟩ := hk
    obtain ⟨h10, ha⟩ := am_d46 (hva a rfl) h46
    have hT := hS0.2.2.2.2.2.2.2.2.2.2.2.2.2.1 (a / 64) h10
    rw [ha] at hT
    show W p l e R s m args below meth c H locs cells slots Q (F0 m pc ls (.int j :: .ref (r a) :: st3))
    rw [hR.2.2.2.1 a (by omega)]
    refine va_tb hx hb hT hV (am_in_sp hj) rfl hd ?_
    exact k r ks H locs ls _ he hR hV hl hL (am_Sk_cons (am_vok_int _) hk)
  | false =>
  rw [h46] at hs
  dsimp only [cond_false] at hs
  cases hak : am_ak (a % 64) with
  | none => rw [hak] at hs; cases hs
  | some q =>
    obtain ⟨et, n⟩ := q
    rw [hak] at hs
    dsimp only at hs
    replace hs := am_if_inv hs; obtain ⟨hz, hs⟩ := hs
    cases hs
    rw [Bool.and_eq_true] at hz
    obtain ⟨hz, hj⟩ := hz
    have hz := Nat.eq_of_beq_eq_true hz
    subst hz
    intro r ks H locs ls st1 he hR hV hl hL hk
    replace hk := am_Sk_tl hk; obtain ⟨st2, rfl, -, hk⟩ := hk
    replace hk := am_Sk_tl hk; obtain ⟨st3, rfl, hva, hk⟩ := hk
    obtain ⟨g1, g2⟩ := am_okk_lo (hva a rfl) (am_ak_lo hak)
    have hw := am_ws_at (ca := ca) (r := r) (M := M) g1 g2
    rw [am_en_arr hak, am_dat6] at hw
    refine va_bald hx hb hK hR.1 (a / 64) 6 hw rfl (am_in_sp hj) hd ?_
    exact k r ks H locs ls _ he hR hV hl hL (am_Sk_cons (am_vok_int _) hk)
theorem am_s_aaload  (C : am_X D ca B0 E L0 xs l p s m args meth c y) (hd : decode (am_b y) pc = .ok (.aaload, nx - pc)) (ho : am_ok1 (.aaload) pc nx tg = true) (hs : am_stp y (.aaload) pc nx tg L st M = some x) (k : am_W D ca B0 E L0 xs p l e R s m args below meth c y Q r0 ks0 n0 cells slots x.1 x.2.1 x.2.2.1 x.2.2.2) : am_W D ca B0 E L0 xs p l e R s m args below meth c y Q r0 ks0 n0 cells slots pc L st M := by
  obtain ⟨hx, hb, hml, hown, hts, hlk, hrt, hin, hK, hS0, hS2, hB0, hE, hst, het⟩ := C
  have hn : nx = pc + 1 := by simpa [am_ok1, am_len] using ho
  subst hn
  rw [Nat.add_sub_cancel_left] at hd
  simp only [am_stp] at hs
  replace hs := am_ia_inv hs; obtain ⟨j, a, t, rfl, hs⟩ := hs
  cases h42 : Nat.beq (a % 64) 42 with
  | true =>
    rw [h42] at hs
    dsimp only [cond_true] at hs
    replace hs := am_if_inv hs; obtain ⟨hj, hs⟩ := hs
    cases hs
    have h42 := Nat.eq_of_beq_eq_true h42
    intro r ks H locs ls st1 he hR hV hl hL hk
    replace hk := am_Sk_tl hk; obtain ⟨st2, rfl, -, hk⟩ := hk
    replace hk := am_Sk_tl hk; obtain ⟨st3, rfl, hva, hk⟩ := hk
    have h9 := am_d42 (hva a rfl) h42
    subst h9
    have hj8 : j.toNatClampNeg < 8 := Nat.lt_of_not_le fun q => am_in_sp hj (Or.inr q)
    show W p l e R s m args below meth c H locs cells slots Q (F0 m pc ls (.int j :: .ref (r 42) :: st3))
    rw [hR.2.2.2.1 42 (by omega)]
    refine vb_tq hx hb hS0.2.2.2.2.1 hV (am_in_sp hj) rfl hd ?_
    rw [← hR.2.2.2.1 (64 * j.toNatClampNeg + 40) (by omega)]
    exact k r ks H locs ls _ he hR hV hl hL (am_Sk_cons (am_vok_ref (Or.inr (Or.inl ⟨by omega, by omega⟩))) hk)
  | false =>
    rw [h42] at hs
    dsimp only [cond_false] at hs
    cases hak : am_ak (a % 64) with
    | none => rw [hak] at hs; cases hs
    | some q =>
      obtain ⟨et, n⟩ := q
      rw [hak] at hs
      dsimp only at hs
      replace hs := am_if_inv hs; obtain ⟨hz, hs⟩ := hs
      cases hs
      rw [Bool.and_eq_true, Bool.and_eq_true] at hz
      obtain ⟨hj, hz1, hz2⟩ := hz
      intro r ks H locs ls st1 he hR hV hl hL hk
      replace hk := am_Sk_tl hk; obtain ⟨st2, rfl, -, hk⟩ := hk
      replace hk := am_Sk_tl hk; obtain ⟨st3, rfl, hva, hk⟩ := hk
      obtain ⟨g1, g2⟩ := am_okk_lo (hva a rfl) (am_ak_lo hak)
      have hw := am_ws_at (ca := ca) (r := r) (M := M) g1 g2
      rw [am_en_arr hak, am_dat2 r M a et hz1 hz2] at hw
      have h3 : et = 2 ∨ et = 3 ∨ et = 4 := by
        have h1 := Nat.le_of_ble_eq_true hz1
        have h2 := Nat.le_of_ble_eq_true hz2
        omega
      have hkk := k r ks H locs ls _ he hR hV hl hL (am_Sk_cons (am_vok_rv fun b hb => hR.2.2.1 a _ b hb) hk)
      rw [am_cv_rv] at hkk
      rcases h3 with h | h | h <;> subst h
      · exact va_aldq hx hb hK hR.1 (a / 64) 2 hw rfl (am_in_sp hj) hd hkk
      · exact va_aldq hx hb hK hR.1 (a / 64) 3 hw rfl (am_in_sp hj) hd hkk
      · exact va_aldq hx hb hK hR.1 (a / 64) 4 hw rfl (am_in_sp hj) hd hkk
theorem am_s_iastore  (C : am_X D ca B0 E L0 xs l p s m args meth c y) (hd : decode (am_b y) pc = .ok (.iastore, nx - pc)) (ho : am_ok1 (.iastore) pc nx tg = true) (hs : am_stp y (.iastore) pc nx tg L st M = some x) (k : am_W D ca B0 E L0 xs p l e R s m args below meth c y Q r0 ks0 n0 cells slots x.1 x.2.1 x.2.2.1 x.2.2.2) : am_W D ca B0 E L0 xs p l e R s m args below meth c y Q r0 ks0 n0 cells slots pc L st M := by
  obtain ⟨hx, hb, hml, hown, hts, hlk, hrt, hin, hK, hS0, hS2, hB0, hE, hst, het⟩ := C
  have hn : nx = pc + 1 := by simpa [am_ok1, am_len] using ho
  subst hn
  rw [Nat.add_sub_cancel_left] at hd
  simp only [am_stp] at hs
  split at hs
  · rename_i v j a t
    cases hak : am_ak (a % 64) with
    | none => rw [hak] at hs; cases hs
    | some q =>
      obtain ⟨et, n⟩ := q
      rw [hak] at hs
      dsimp only at hs
      replace hs := am_if_inv hs; obtain ⟨hz, hs⟩ := hs
      cases hs
      rw [Bool.and_eq_true] at hz
      obtain ⟨hz, hj⟩ := hz
      have hz := Nat.eq_of_beq_eq_true hz
      subst hz
      intro r ks H locs ls st1 he hR hV hl hL hk
      replace hk := am_Sk_tl hk; obtain ⟨st2, rfl, -, hk⟩ := hk
      replace hk := am_Sk_tl hk; obtain ⟨st3, rfl, -, hk⟩ := hk
      replace hk := am_Sk_tl hk; obtain ⟨st4, rfl, hva, hk⟩ := hk
      obtain ⟨g1, g2⟩ := am_okk_lo (hva a rfl) (am_ak_lo hak)
      have hw := am_ws_at (ca := ca) (r := r) (M := M) g1 g2
      rw [am_en_arr hak, am_dat0] at hw
      refine va_iast hx hb hK hR.1 hR.2.1 hV (a / 64) 0 hw rfl (am_in_sp hj) hd fun H1 locs1 hP1 hD1 hV1 => ?_
      refine k r ks H1 locs1 ls _ he (am_wr (M' := (am_up M.1 a j.toNatClampNeg v, M.2)) hR g1 g2 hP1 hD1 rfl ?_ (fun b hb => ⟨am_up_ne hb, rfl, rfl, rfl⟩) hR.2.2.1 rfl) hV1 hl hL hk
      rw [am_en_arr hak, am_dat0]
      dsimp only
      rw [am_upd]
  · cases hs
theorem am_s_castore  (C : am_X D ca B0 E L0 xs l p s m args meth c y) (hd : decode (am_b y) pc = .ok (.castore, nx - pc)) (ho : am_ok1 (.castore) pc nx tg = true) (hs : am_stp y (.castore) pc nx tg L st M = some x) (k : am_W D ca B0 E L0 xs p l e R s m args below meth c y Q r0 ks0 n0 cells slots x.1 x.2.1 x.2.2.1 x.2.2.2) : am_W D ca B0 E L0 xs p l e R s m args below meth c y Q r0 ks0 n0 cells slots pc L st M := by
  obtain ⟨hx, hb, hml, hown, hts, hlk, hrt, hin, hK, hS0, hS2, hB0, hE, hst, het⟩ := C
  have hn : nx = pc + 1 := by simpa [am_ok1, am_len] using ho
  subst hn
  rw [Nat.add_sub_cancel_left] at hd
  simp only [am_stp] at hs
  split at hs
  · rename_i v j a t
    cases hak : am_ak (a % 64) with
    | none => rw [hak] at hs; cases hs
    | some q =>
      obtain ⟨et, n⟩ := q
      rw [hak] at hs
      dsimp only at hs
      replace hs := am_if_inv hs; obtain ⟨hz, hs⟩ := hs
      have hch0 : (v.toUInt32 % 65536).toInt32 = v := by
        by_cases hq : (v.toUInt32 % 65536).toInt32 = v
        · exact hq
        · rw [if_neg hq] at hs; cases hs
      rw [if_pos hch0] at hs
      have hch : vp_nar .char v = v := by
        have h9 := pk_vc v
        rw [hch0] at h9
        exact h9
      cases hs
      rw [Bool.and_eq_true] at hz
      obtain ⟨hz, hj⟩ := hz
      have hz := Nat.eq_of_beq_eq_true hz
      subst hz
      intro r ks H locs ls st1 he hR hV hl hL hk
      replace hk := am_Sk_tl hk; obtain ⟨st2, rfl, -, hk⟩ := hk
      replace hk := am_Sk_tl hk; obtain ⟨st3, rfl, -, hk⟩ := hk
      replace hk := am_Sk_tl hk; obtain ⟨st4, rfl, hva, hk⟩ := hk
      obtain ⟨g1, g2⟩ := am_okk_lo (hva a rfl) (am_ak_lo hak)
      have hw := am_ws_at (ca := ca) (r := r) (M := M) g1 g2
      rw [am_en_arr hak, am_dat1] at hw
      refine va_cast hx hb hK hR.1 hR.2.1 hV (a / 64) 1 hw rfl (am_in_sp hj) hd fun H1 locs1 hP1 hD1 hV1 => ?_
      rw [hch] at hP1 hD1
      refine k r ks H1 locs1 ls _ he (am_wr (M' := (am_up M.1 a j.toNatClampNeg v, M.2)) hR g1 g2 hP1 hD1 rfl ?_ (fun b hb => ⟨am_up_ne hb, rfl, rfl, rfl⟩) hR.2.2.1 rfl) hV1 hl hL hk
      rw [am_en_arr hak, am_dat1]
      dsimp only
      rw [am_upd]
  · cases hs
theorem am_s_lastore  (C : am_X D ca B0 E L0 xs l p s m args meth c y) (hd : decode (am_b y) pc = .ok (.lastore, nx - pc)) (ho : am_ok1 (.lastore) pc nx tg = true) (hs : am_stp y (.lastore) pc nx tg L st M = some x) (k : am_W D ca B0 E L0 xs p l e R s m args below meth c y Q r0 ks0 n0 cells slots x.1 x.2.1 x.2.2.1 x.2.2.2) : am_W D ca B0 E L0 xs p l e R s m args below meth c y Q r0 ks0 n0 cells slots pc L st M := by
  obtain ⟨hx, hb, hml, hown, hts, hlk, hrt, hin, hK, hS0, hS2, hB0, hE, hst, het⟩ := C
  have hn : nx = pc + 1 := by simpa [am_ok1, am_len] using ho
  subst hn
  rw [Nat.add_sub_cancel_left] at hd
  simp only [am_stp] at hs
  split at hs
  · rename_i v j a t
    cases hak : am_ak (a % 64) with
    | none => rw [hak] at hs; cases hs
    | some q =>
      obtain ⟨et, n⟩ := q
      rw [hak] at hs
      dsimp only at hs
      replace hs := am_if_inv hs; obtain ⟨hz, hs⟩ := hs
      cases hs
      rw [Bool.and_eq_true] at hz
      obtain ⟨hz, hj⟩ := hz
      have hz := Nat.eq_of_beq_eq_true hz
      subst hz
      intro r ks H locs ls st1 he hR hV hl hL hk
      replace hk := am_Sk_tl hk; obtain ⟨st2, rfl, -, hk⟩ := hk
      replace hk := am_Sk_tl hk; obtain ⟨st3, rfl, -, hk⟩ := hk
      replace hk := am_Sk_tl hk; obtain ⟨st4, rfl, hva, hk⟩ := hk
      obtain ⟨g1, g2⟩ := am_okk_lo (hva a rfl) (am_ak_lo hak)
      have hw := am_ws_at (ca := ca) (r := r) (M := M) g1 g2
      rw [am_en_arr hak, am_dat5] at hw
      refine va_last hx hb hK hR.1 hR.2.1 hV (a / 64) 5 hw rfl (am_in_sp hj) hd fun H1 locs1 hP1 hD1 hV1 => ?_
      refine k r ks H1 locs1 ls _ he (am_wr (M' := (M.1, M.2.1, am_up M.2.2.1 a j.toNatClampNeg v, M.2.2.2)) hR g1 g2 hP1 hD1 rfl ?_ (fun b hb => ⟨rfl, rfl, am_up_ne hb, rfl⟩) hR.2.2.1 rfl) hV1 hl hL hk
      rw [am_en_arr hak, am_dat5]
      dsimp only
      rw [am_updL]
  · cases hs
theorem am_s_bastore  (C : am_X D ca B0 E L0 xs l p s m args meth c y) (hd : decode (am_b y) pc = .ok (.bastore, nx - pc)) (ho : am_ok1 (.bastore) pc nx tg = true) (hs : am_stp y (.bastore) pc nx tg L st M = some x) (k : am_W D ca B0 E L0 xs p l e R s m args below meth c y Q r0 ks0 n0 cells slots x.1 x.2.1 x.2.2.1 x.2.2.2) : am_W D ca B0 E L0 xs p l e R s m args below meth c y Q r0 ks0 n0 cells slots pc L st M := by
  obtain ⟨hx, hb, hml, hown, hts, hlk, hrt, hin, hK, hS0, hS2, hB0, hE, hst, het⟩ := C
  have hn : nx = pc + 1 := by simpa [am_ok1, am_len] using ho
  subst hn
  rw [Nat.add_sub_cancel_left] at hd
  simp only [am_stp] at hs
  split at hs
  · rename_i v j a t
    cases hak : am_ak (a % 64) with
    | none => rw [hak] at hs; cases hs
    | some q =>
      obtain ⟨et, n⟩ := q
      rw [hak] at hs
      dsimp only at hs
      replace hs := am_if_inv hs; obtain ⟨hz, hs⟩ := hs
      have hch0 : v.toInt8.toInt32 = v := by
        by_cases hq : v.toInt8.toInt32 = v
        · exact hq
        · rw [if_neg hq] at hs; cases hs
      rw [if_pos hch0] at hs
      have hch : vp_nar .byte v = v := by
        have h9 := pk_vb v
        rw [hch0] at h9
        exact h9
      cases hs
      rw [Bool.and_eq_true] at hz
      obtain ⟨hz, hj⟩ := hz
      have hz := Nat.eq_of_beq_eq_true hz
      subst hz
      intro r ks H locs ls st1 he hR hV hl hL hk
      replace hk := am_Sk_tl hk; obtain ⟨st2, rfl, -, hk⟩ := hk
      replace hk := am_Sk_tl hk; obtain ⟨st3, rfl, -, hk⟩ := hk
      replace hk := am_Sk_tl hk; obtain ⟨st4, rfl, hva, hk⟩ := hk
      obtain ⟨g1, g2⟩ := am_okk_lo (hva a rfl) (am_ak_lo hak)
      have hw := am_ws_at (ca := ca) (r := r) (M := M) g1 g2
      rw [am_en_arr hak, am_dat6] at hw
      refine va_bast hx hb hK hR.1 hR.2.1 hV (a / 64) 6 hw rfl (am_in_sp hj) hd fun H1 locs1 hP1 hD1 hV1 => ?_
      rw [hch] at hP1 hD1
      refine k r ks H1 locs1 ls _ he (am_wr (M' := (am_up M.1 a j.toNatClampNeg v, M.2)) hR g1 g2 hP1 hD1 rfl ?_ (fun b hb => ⟨am_up_ne hb, rfl, rfl, rfl⟩) hR.2.2.1 rfl) hV1 hl hL hk
      rw [am_en_arr hak, am_dat6]
      dsimp only
      rw [am_upd]
  · cases hs
theorem am_s_aastore  (C : am_X D ca B0 E L0 xs l p s m args meth c y) (hd : decode (am_b y) pc = .ok (.aastore, nx - pc)) (ho : am_ok1 (.aastore) pc nx tg = true) (hs : am_stp y (.aastore) pc nx tg L st M = some x) (k : am_W D ca B0 E L0 xs p l e R s m args below meth c y Q r0 ks0 n0 cells slots x.1 x.2.1 x.2.2.1 x.2.2.2) : am_W D ca B0 E L0 xs p l e R s m args below meth c y Q r0 ks0 n0 cells slots pc L st M := by
  obtain ⟨hx, hb, hml, hown, hts, hlk, hrt, hin, hK, hS0, hS2, hB0, hE, hst, het⟩ := C
  have hn : nx = pc + 1 := by simpa [am_ok1, am_len] using ho
  subst hn
  rw [Nat.add_sub_cancel_left] at hd
  simp only [am_stp] at hs
  split at hs
  · rename_i v j a t
    cases hak : am_ak (a % 64) with
    | none => rw [hak] at hs; cases hs
    | some q =>
      obtain ⟨et, n⟩ := q
      rw [hak] at hs
      dsimp only at hs
      replace hs := am_if_inv hs; obtain ⟨hz, hs⟩ := hs
      cases hs
      rw [Bool.and_eq_true] at hz
      obtain ⟨hj, hz⟩ := hz
      have hz : (et = 2 ∧ v % 64 = 1) ∨ (et = 3 ∧ v % 64 = 6) ∨ (et = 4 ∧ v % 64 = 8) := by
        simp only [Bool.or_eq_true, Bool.and_eq_true] at hz
        rcases hz with (⟨h1, h2⟩ | ⟨h1, h2⟩) | ⟨h1, h2⟩
        · exact Or.inl ⟨Nat.eq_of_beq_eq_true h1, Nat.eq_of_beq_eq_true h2⟩
        · exact Or.inr (Or.inl ⟨Nat.eq_of_beq_eq_true h1, Nat.eq_of_beq_eq_true h2⟩)
        · exact Or.inr (Or.inr ⟨Nat.eq_of_beq_eq_true h1, Nat.eq_of_beq_eq_true h2⟩)
      intro r ks H locs ls st1 he hR hV hl hL hk
      replace hk := am_Sk_tl hk; obtain ⟨st2, rfl, hvv, hk⟩ := hk
      replace hk := am_Sk_tl hk; obtain ⟨st3, rfl, -, hk⟩ := hk
      replace hk := am_Sk_tl hk; obtain ⟨st4, rfl, hva, hk⟩ := hk
      obtain ⟨g1, g2⟩ := am_okk_lo (hva a rfl) (am_ak_lo hak)
      obtain ⟨g3, g4⟩ := am_okk_lo (hvv v rfl) (am_lt3 hz)
      have hw := am_ws_at (ca := ca) (r := r) (M := M) g1 g2
      have hwv := am_ws_at (ca := ca) (r := r) (M := M) g3 g4
      have fin : ∀ (H1 : Heap) (locs1 : List Loc), va_P D am_cls ((am_ws ca r ks M).set (a / 64) (r a, .inl (ca et, n, .inr (.inr (.inr (.inr (va_up (fun j => am_ro r (M.2.1 a j)) j.toNatClampNeg (some (r v))))))))) H1 →
          va_D (fun q : Nat => B0 ≤ q) ((am_ws ca r ks M).set (a / 64) (r a, .inl (ca et, n, .inr (.inr (.inr (.inr (va_up (fun j => am_ro r (M.2.1 a j)) j.toNatClampNeg (some (r v))))))))) → va_S (fun q : Nat => B0 ≤ q) s.heap H1 locs1 → W p l e R s m args below meth c H1 locs1 cells slots Q (F0 m (pc + 1) ls st4) := by
        intro H1 locs1 hP1 hD1 hV1
        refine k r ks H1 locs1 ls _ he (am_wr (M' := (M.1, am_up M.2.1 a j.toNatClampNeg (v + 1), M.2.2)) hR g1 g2 hP1 hD1 rfl ?_ (fun b hb => ⟨rfl, am_up_ne hb, rfl, rfl⟩) (fun a' j' b hb => ?_) rfl) hV1 hl hL hk
        · rw [am_en_arr hak]
          have h24 : Nat.ble 2 et = true ∧ Nat.ble et 4 = true := by rcases hz with h | h | h <;> (rw [h.1]; exact ⟨rfl, rfl⟩)
          rw [am_dat2 r _ a et h24.1 h24.2]
          have hff : (fun j_1 => am_ro r (am_up M.2.1 a j.toNatClampNeg (v + 1) a j_1)) = va_up (fun j => am_ro r (M.2.1 a j)) j.toNatClampNeg (some (r v)) := by
            funext j'
            rw [am_up_at]
            unfold va_up
            dsimp only
            by_cases hjj : j' = j.toNatClampNeg
            · rw [if_pos hjj, if_pos hjj]; rfl
            · rw [if_neg hjj, if_neg hjj]
          dsimp only
          rw [hff]
        · dsimp only at hb
          simp only [am_up] at hb
          split at hb
          · split at hb
            · cases hb
              exact hvv v rfl
            · exact hR.2.2.1 _ _ _ hb
          · exact hR.2.2.1 _ _ _ hb
      rw [am_en_arr hak] at hw
      rcases hz with ⟨h, h2⟩ | ⟨h, h2⟩ | ⟨h, h2⟩ <;> subst h
      · rw [am_en_obj (by rw [h2]; rfl), h2] at hwv
        exact va_astq hx hb hK hR.1 hR.2.1 hV (a / 64) 2 (v / 64) 1 hw rfl hwv rfl (am_in_sp hj) hd fin
      · rw [am_en_obj (by rw [h2]; rfl), h2] at hwv
        exact va_astq hx hb hK hR.1 hR.2.1 hV (a / 64) 3 (v / 64) 6 hw rfl hwv rfl (am_in_sp hj) hd fin
      · rw [am_en_obj (by rw [h2]; rfl), h2] at hwv
        exact va_astq hx hb hK hR.1 hR.2.1 hV (a / 64) 4 (v / 64) 8 hw rfl hwv rfl (am_in_sp hj) hd fin
  · cases hs
theorem am_s_acmp {q : ACond} {o : Int} (C : am_X D ca B0 E L0 xs l p s m args meth c y) (hd : decode (am_b y) pc = .ok (.if_acmp q o, nx - pc)) (ho : am_ok1 (.if_acmp q o) pc nx tg = true) (hs : am_stp y (.if_acmp q o) pc nx tg L st M = some x) (k : am_W D ca B0 E L0 xs p l e R s m args below meth c y Q r0 ks0 n0 cells slots x.1 x.2.1 x.2.2.1 x.2.2.2) : am_W D ca B0 E L0 xs p l e R s m args below meth c y Q r0 ks0 n0 cells slots pc L st M := by
  obtain ⟨hx, hb, hml, hown, hts, hlk, hrt, hin, hK, hS0, hS2, hB0, hE, hst, het⟩ := C
  simp only [am_ok1, Bool.and_eq_true, decide_eq_true_eq] at ho
  obtain ⟨hn, ht⟩ := ho
  have hn := Nat.eq_of_beq_eq_true hn
  subst hn
  rw [Nat.add_sub_cancel_left] at hd
  simp only [am_stp] at hs
  split at hs
  · rename_i b a t
    replace hs := am_if_inv hs; obtain ⟨hz, hs⟩ := hs
    cases hs
    rw [Bool.and_eq_true] at hz
    have h1 := Nat.eq_of_beq_eq_true hz.1
    have h2 := Nat.eq_of_beq_eq_true hz.2
    have k := am_br (P := fun z => am_W D ca B0 E L0 xs p l e R s m args below meth c y Q r0 ks0 n0 cells slots z L t M) k
    intro r ks H locs ls st1 he hR hV hl hL hk
    replace hk := am_Sk_tl hk; obtain ⟨st2, rfl, hvb, hk⟩ := hk
    replace hk := am_Sk_tl hk; obtain ⟨st3, rfl, hva, hk⟩ := hk
    obtain ⟨ha8, ha9⟩ := am_d40 (hva a rfl) h1
    obtain ⟨hb8, hb9⟩ := am_d40 (hvb b rfl) h2
    have hinj : r a = r b → a = b := by
      intro q
      rw [hR.2.2.2.1 a (by omega), hR.2.2.2.1 b (by omega)] at q
      have h3 := hS0.1.2 (a / 64) (b / 64) ha8 hb8 (by
        dsimp only
        rw [ha9, hb9]
        exact q)
      exact ha9.symm.trans ((congrArg (fun z => 64 * z + 40) h3).trans hb9)
    refine lv_acmp_ne (rx := some (r a)) (ry := some (r b)) hx hb hd ht (fun z => ?_) (fun z => ?_)
    · exact k.1 (fun w => z (by rw [w])) r ks H locs ls _ he hR hV hl hL hk
    · exact k.2 (fun w => w (hinj (Option.some.inj z))) r ks H locs ls _ he hR hV hl hL hk
  · cases hs
end AMS
