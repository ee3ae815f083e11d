/-! ENDS, THROWS -/
def am_names : List String := ["java/lang/RuntimeException", "java/lang/Exception"]
/-- throw sites: method, place, exception, pool places of class, text, constructor; a wide text -/
def am_sites : List (Nat × Nat × Nat × Nat × Nat × Nat × Bool) := [(100, 51, 0, 114, 116, 118, false), (102, 110, 2, 173, 175, 177, false), (103, 77, 2, 173, 202, 177, false), (104, 85, 2, 173, 220, 177, false), (107, 25, 3, 239, 241, 243, false), (111, 64, 3, 239, 266, 243, true), (112, 90, 3, 239, 266, 243, true), (113, 15, 2, 173, 278, 177, true), (114, 54, 3, 239, 284, 243, true), (118, 120, 3, 239, 301, 243, true), (119, 22, 3, 239, 303, 243, true), (120, 54, 3, 239, 308, 243, true), (121, 9, 2, 173, 310, 177, true), (121, 45, 3, 239, 315, 243, true), (124, 33, 3, 239, 315, 243, true), (126, 12, 4, 341, 343, 345, true), (127, 29, 2, 173, 360, 177, true), (127, 75, 0, 114, 368, 118, true), (130, 10, 5, 410, 412, 414, true), (131, 10, 5, 410, 412, 414, true), (132, 163, 2, 173, 434, 177, true), (133, 10, 4, 341, 436, 345, true), (135, 7, 4, 341, 444, 345, true), (139, 7, 1, 401, 449, 405, true), (140, 7, 1, 401, 454, 405, true), (141, 11, 1, 401, 459, 405, true), (142, 11, 1, 401, 464, 405, true), (143, 10, 2, 173, 466, 177, true)]
def am_ic (e : Nat) : Nat := ([118, 405, 177, 243, 345, 414]).getD e 0
def am_bd (e : Nat) (w : Cond) : Bool := decide (w = .castable (am_xn e) (am_xn e)) || am_dn.any (fun n => decide (w = .declares (Bundle.initS n)))
/-- the words of a throw -/
def am_tws (e : Nat) : List Cond := bif Nat.beq e 3 then am_nsw.filter vx_no else vx_atS "EchoCanyon" (am_ic e) (am_xn e) am_names
def am_ick (e : Nat) : Bool := ((am_tws e).all fun w => (am_gm w || am_bd e w) && vx_ot w) && am_gm (.initialized (am_xn e)) && vx_ot (.initialized (am_xn e)) && Bundle.fit (am_xn e)
theorem am_ick_all : (List.range 6).all am_ick = true := by decide +kernel
theorem am_fitn : ∀ n ∈ am_names, Bundle.fit n = true := by decide +kernel
def am_sck (q : Nat × Nat × Nat × Nat × Nat × Nat × Bool) : Bool := match q with
  | (y, pc, e, ik, si, ic, w) => decide (am_pr y pc = some (.new ik, pc + 3, 0)) && decide (am_pr y (pc + 3) = some (.dup, pc + 4, 0))
    && (bif w then (decide (am_pr y (pc + 4) = some (.ldc_w si, pc + 7, 0)) && decide (am_pr y (pc + 7) = some (.invokespecial ic, pc + 10, 0)) && decide (am_pr y (pc + 10) = some (.athrow, pc + 11, 0)))
      else (decide (am_pr y (pc + 4) = some (.ldc si, pc + 6, 0)) && decide (am_pr y (pc + 6) = some (.invokespecial ic, pc + 9, 0)) && decide (am_pr y (pc + 9) = some (.athrow, pc + 10, 0))))
    && am_gm (.classLink "EchoCanyon" ik (am_xn e)) && vx_ot (.classLink "EchoCanyon" ik (am_xn e)) && Nat.blt e 6 && Nat.beq ic (am_ic e) && (am_strs.any fun z => decide (z.1 = "EchoCanyon") && Nat.beq z.2.1 si) && Nat.beq (am_cl y) 12
    && (match am_hh y with
      | [] => true
      | _ => false)
theorem am_sck_all : am_sites.all am_sck = true := by decide +kernel
theorem am_twck : ((List.range 217).all fun y => (List.range (am_sz y)).all fun pc => match am_tw y pc with
    | none => true
    | some e => am_sites.any fun q => Nat.beq q.1 y && Nat.beq q.2.1 pc && Nat.beq q.2.2.1 e) = true := by decide +kernel
theorem am_tw_sp {y pc e : Nat} (hy : y < 217) (hp : pc < am_sz y) (h : am_tw y pc = some e) : ∃ q ∈ am_sites, q.1 = y ∧ q.2.1 = pc ∧ q.2.2.1 = e := by
  have h1 := List.all_eq_true.mp (List.all_eq_true.mp am_twck y (List.mem_range.mpr hy)) pc (List.mem_range.mpr hp)
  rw [h] at h1
  obtain ⟨q, hq, h2⟩ := List.any_eq_true.mp h1
  rw [Bool.and_eq_true, Bool.and_eq_true] at h2
  exact ⟨q, hq, Nat.eq_of_beq_eq_true h2.1.1, Nat.eq_of_beq_eq_true h2.1.2, Nat.eq_of_beq_eq_true h2.2⟩
theorem am_Rp_kept {D : va_G} {ca : Nat → ClassId} {B0 L0 : Nat} {E : Nat → Nat} {xs : Nat → Int32} {r ks : Nat → Nat} {M : am_M} {H H1 : Heap} (h : am_Rp D ca B0 E L0 xs r ks M H) (hq : ∀ q : Nat, q < H.size → H1[q]? = H[q]?) : am_Rp D ca B0 E L0 xs r ks M H1 :=
  ⟨va_P.kept h.1 fun k q hk => hq q.1 (h.1 k q hk).lt, h.2⟩
/-- what a method's end says -/
def am_Qc (D : va_G) (ca : Nat → ClassId) (B0 : Nat) (E : Nat → Nat) (L0 : Nat) (xs : Nat → Int32) (r0 ks0 : Nat → Nat) (n0 : Nat) (o : am_O) (M1 : am_M) : Array Value → State → Outcome → State → Prop := fun _ st oc t =>
  ∃ (v : Option Value) (r ks : Nat → Nat), o = .inl v ∧ oc = .returned (v.map (am_cv r)) ∧ am_ext r0 ks0 n0 r ks (am_n M1) ∧ am_Rp D ca B0 E L0 xs r ks M1 t.heap ∧ (∀ w, v = some w → am_vok ks (am_n M1) w) ∧ va_F (fun q : Nat => B0 ≤ q) st t
def am_XC (D : va_G) (ca : Nat → ClassId) (B0 : Nat) (E : Nat → Nat) (L0 : Nat) (xs : Nat → Int32) (r0 ks0 : Nat → Nat) (n0 : Nat) (o : am_O) (M1 : am_M) : String → State → State → Prop := fun E' st t =>
  ∃ (x : Nat) (r ks : Nat → Nat), o = .inr x ∧ x < 6 ∧ E' = am_xn x ∧ am_ext r0 ks0 n0 r ks (am_n M1) ∧ am_Rp D ca B0 E L0 xs r ks M1 t.heap ∧ va_F (fun q : Nat => B0 ≤ q) st t
section AME
variable {D : va_G} {ca : Nat → ClassId} {B0 : Nat} {E : Nat → Nat} {L0 : Nat} {xs : Nat → Int32} {p : Program} {l : Launch} {e : Env} {R : Room} {s : State} {m : MethodId} {args : Array Value} {below : List Frame} {meth : Method} {c : Code} {y : Nat} {Q : State → Prop} {r0 ks0 : Nat → Nat} {n0 cells slots pc nx tg K S : Nat} {L : am_L} {st : List Value} {M : am_M}
theorem am_thr {j x : Nat} (C : am_X D ca B0 E L0 xs l p s m args meth c y) (hRf : 8 ≤ R.frames) (hRl : 200 ≤ R.locals) (h : am_pr y pc = some (.new j, nx, tg)) (ht : am_tw y pc = some x) (hsum : (st.map Value.category).sum ≤ 8) (hcR : cells + 1 ≤ R.cells) (hsR : slots + 6 ≤ R.slots) (hcK : cells + 1 ≤ K) (hsK : slots + 6 ≤ S) :
    am_W D ca B0 E L0 xs p l e R s m args below meth c y (vx_MQ below (am_Qc D ca B0 E L0 xs r0 ks0 n0 (.inr x) M) (am_XC D ca B0 E L0 xs r0 ks0 n0 (.inr x) M) args s K S (fun q : Nat => B0 ≤ q)) r0 ks0 n0 cells slots pc L st M := by
  obtain ⟨hx, hb, hml, hown, hts, hlk, hrt, hin, hK, hS0, hS2, hB0, hE, hst, het⟩ := C
  obtain ⟨q, hq, h1, h2, h3⟩ := am_tw_sp (am_pr_lt h).1 (am_pr_lt h).2 ht
  obtain ⟨y', pc', e', ik, si, ic, w⟩ := q
  dsimp only at h1 h2 h3
  subst h1; subst h2; subst h3
  have hc := List.all_eq_true.mp am_sck_all _ hq
  unfold am_sck at hc
  simp only [Bool.and_eq_true, decide_eq_true_eq] at hc
  obtain ⟨⟨⟨⟨⟨⟨⟨⟨⟨p0, p3⟩, pw⟩, gk⟩, gko⟩, x6⟩, hic⟩, hstr⟩, hcl⟩, hhh⟩ := hc
  have x6 : e' < 6 := by simpa [Nat.blt_eq] using x6
  have hic := Nat.eq_of_beq_eq_true hic
  have hcl := Nat.eq_of_beq_eq_true hcl
  rw [hcl] at hown
  have hown : s.vm.findClass "EchoCanyon" = some m.cls := hown
  subst hic
  have hI := List.all_eq_true.mp am_ick_all e' (List.mem_range.mpr x6)
  unfold am_ick at hI
  simp only [Bool.and_eq_true] at hI
  obtain ⟨⟨⟨hat, hini⟩, hinio⟩, hfit⟩ := hI
  have hat := fun w hw => List.all_eq_true.mp hat w hw
  obtain ⟨z, hz, hz2⟩ := List.any_eq_true.mp hstr
  rw [Bool.and_eq_true, decide_eq_true_eq] at hz2
  obtain ⟨sa, hsa⟩ := hS2.1.1 z hz
  rw [hz2.1, Nat.eq_of_beq_eq_true hz2.2] at hsa
  have hout : ∀ z ∈ c.exceptionTable.toList, ∀ n, covers z n = false := by
    intro z hz
    rw [het] at hz
    cases hhy : am_hh y' with
    | nil => rw [hhy] at hz; cases hz
    | cons a b => rw [hhy] at hhh; cases hhh
  have hats : ∀ w ∈ am_tws e', w.before args s = true := by
    intro w hw
    have h9 := (Bool.and_eq_true _ _ ▸ hat w hw).1
    rw [Bool.or_eq_true] at h9
    rcases h9 with h9 | h9
    · exact hts _ (am_gm_in h9)
    · unfold am_bd at h9
      rw [Bool.or_eq_true, decide_eq_true_eq] at h9
      rcases h9 with h9 | h9
      · subst h9
        exact va_Nw.use rfl (hS2.2.2.2.2.2.2.2 e' x6)
      · obtain ⟨n, hn, h9⟩ := List.any_eq_true.mp h9
        have h9 := of_decide_eq_true h9
        subst h9
        exact va_Nw.use rfl (hS2.2.2.2.2.2.2.1 n hn)
  have hgood : ∀ w ∈ Cond.classLink "EchoCanyon" ik (am_xn e') :: Cond.initialized (am_xn e') :: am_tws e', vx_ot w = true := by
    intro w hw
    rcases List.mem_cons.mp hw with h9 | hw
    · rw [h9]; exact gko
    · rcases List.mem_cons.mp hw with h9 | hw
      · rw [h9]; exact hinio
      · exact (Bool.and_eq_true _ _ ▸ hat w hw).2
  have dec : ∀ {n : Nat} {i : Instr} {k : Nat}, am_pr y' n = some (i, n + k, 0) → decode (am_b y') n = .ok (i, k) := by
    intro n i k hn
    have := (am_pr_ok hn).1
    rwa [Nat.add_sub_cancel_left] at this
  intro r ks H locs ls st1 he hR hV hl hL hk
  have hxx : ∀ t : State, s.vm.Alike t.vm → H.size ≤ t.heap.size → (∀ q : Nat, q < H.size → t.heap[q]? = H[q]?) → am_XC D ca B0 E L0 xs r0 ks0 n0 (.inr e') M (am_xn e') s t := fun t _ hsz hq2 =>
    ⟨e', r, ks, rfl, x6, rfl, he, am_Rp_kept hR hq2, Nat.le_trans hV.1 hsz, fun q h1 h2 => (hq2 q (Nat.lt_of_lt_of_le h1 hV.1)).trans (hV.2.1 q h1 h2)⟩
  have hsz : ls.size = c.maxLocals := by rw [hL.1, hl, hml]
  have hsum1 : (st1.map fun v => v.category).sum + (13 * (am_names.length + 1) + 43) ≤ R.locals := by
    rw [am_sum hk]
    show _ + 82 ≤ _
    omega
  have hfr : am_names.length + 3 < R.frames := by show 5 < _; omega
  by_cases h3 : e' = 3
  · subst h3
    have hats : ∀ w ∈ am_nsw.filter vx_no, w.before args s = true := hats
    cases w with
    | true =>
      simp only [cond_true, Bool.and_eq_true, decide_eq_true_eq] at pw
      obtain ⟨⟨p4, p7⟩, p10⟩ := pw
      exact am_throwNW (A := fun q : Nat => B0 ≤ q) hx hb hst hown (hts _ (am_gm_in gk)) (hts _ (am_gm_in hini)) hsa hats hgood hS0.2.2.2.2.2.2.2.2.1 hS0.2.2.2.2.2.2.2.2.2.1 hV hsz (dec p0) (dec (k := 1) p3) (dec (k := 3) p4) (dec (k := 3) p7) (dec (k := 1) p10) (fun z hz => hout z hz _) hfr hsum1 hcR hsR hlk hxx hV.2.2 hcK hsK
    | false =>
      simp only [cond_false, Bool.and_eq_true, decide_eq_true_eq] at pw
      obtain ⟨⟨p4, p6⟩, p9⟩ := pw
      exact am_throwN (A := fun q : Nat => B0 ≤ q) hx hb hst hown (hts _ (am_gm_in gk)) (hts _ (am_gm_in hini)) hsa hats hgood hS0.2.2.2.2.2.2.2.2.1 hS0.2.2.2.2.2.2.2.2.2.1 hV hsz (dec p0) (dec (k := 1) p3) (dec (k := 2) p4) (dec (k := 3) p6) (dec (k := 1) p9) (fun z hz => hout z hz _) hfr hsum1 hcR hsR hlk hxx hV.2.2 hcK hsK
  have htw : am_tws e' = vx_atS "EchoCanyon" (am_ic e') (am_xn e') am_names := by
    unfold am_tws
    rw [show Nat.beq e' 3 = false from Bool.eq_false_iff.mpr fun q => h3 (Nat.eq_of_beq_eq_true q)]
    rfl
  rw [htw] at hats hgood
  cases w with
  | true =>
    simp only [cond_true, Bool.and_eq_true, decide_eq_true_eq] at pw
    obtain ⟨⟨p4, p7⟩, p10⟩ := pw
    exact vx_throwSW (A := fun q : Nat => B0 ≤ q) hx hb hst hown hfit am_fitn (hts _ (am_gm_in gk)) (hts _ (am_gm_in hini)) hsa hats hgood hS0.2.2.2.2.2.2.2.2.1 hS0.2.2.2.2.2.2.2.2.2.1 hV hsz (dec p0) (dec (k := 1) p3) (dec (k := 3) p4) (dec (k := 3) p7) (dec (k := 1) p10) (fun z hz => hout z hz _) hfr hsum1 hcR hsR hlk hxx hV.2.2 hcK hsK
  | false =>
    simp only [cond_false, Bool.and_eq_true, decide_eq_true_eq] at pw
    obtain ⟨⟨p4, p6⟩, p9⟩ := pw
    exact vx_throwS (A := fun q : Nat => B0 ≤ q) hx hb hst hown hfit am_fitn (hts _ (am_gm_in gk)) (hts _ (am_gm_in hini)) hsa hats hgood hS0.2.2.2.2.2.2.2.2.1 hS0.2.2.2.2.2.2.2.2.2.1 hV hsz (dec p0) (dec (k := 1) p3) (dec (k := 2) p4) (dec (k := 3) p6) (dec (k := 1) p9) (fun z hz => hout z hz _) hfr hsum1 hcR hsR hlk hxx hV.2.2 hcK hsK
theorem am_end_ok {i : Instr} {o : am_O} {M1 : am_M} {k sl : Nat} (C : am_X D ca B0 E L0 xs l p s m args meth c y) (hRf : 8 ≤ R.frames) (hRl : 200 ≤ R.locals) (h : am_pr y pc = some (i, nx, tg)) (hs : am_end y i pc st M = some (o, M1, k, sl)) (hcR : cells + k ≤ R.cells) (hsR : slots + sl ≤ R.slots) (hcK : cells + k ≤ K) (hsK : slots + sl ≤ S) :
    am_W D ca B0 E L0 xs p l e R s m args below meth c y (vx_MQ below (am_Qc D ca B0 E L0 xs r0 ks0 n0 o M1) (am_XC D ca B0 E L0 xs r0 ks0 n0 o M1) args s K S (fun q : Nat => B0 ≤ q)) r0 ks0 n0 cells slots pc L st M := by
  have C0 := C
  obtain ⟨hx, hb, hml, hown, hts, hlk, hrt, hin, hK, hS0, hS2, hB0, hE, hst, het⟩ := C
  obtain ⟨hd, ho⟩ := am_pr_ok h
  cases i with
  | return_ =>
    have hn : nx = pc + 1 := by simpa [am_ok1, am_len] using ho
    subst hn
    rw [Nat.add_sub_cancel_left] at hd
    simp only [am_end] at hs
    cases st with
    | cons a b => cases hs
    | nil =>
      cases hr0 : am_rt y with
      | some t => rw [hr0] at hs; cases hs
      | none =>
        rw [hr0] at hs hrt
        cases hs
        intro r ks H locs ls st1 he hR hV hl hL hk
        obtain ⟨rfl, -⟩ := hk
        refine vx_ret (W.widen hcK hsK ?_)
        exact W.vret hx hb hrt (fun t ht _ => ⟨none, r, ks, rfl, rfl, he, by rw [ht]; exact hR, (fun w hw => by cases hw), hV.F ht⟩) hV.2.2 hd hlk
  | ireturn =>
    have hn : nx = pc + 1 := by simpa [am_ok1, am_len] using ho
    subst hn
    rw [Nat.add_sub_cancel_left] at hd
    simp only [am_end] at hs
    split at hs
    · rename_i v
      obtain ⟨hz, hs⟩ := am_if_inv hs
      cases hs
      intro r ks H locs ls st1 he hR hV hl hL hk
      obtain ⟨rfl, -⟩ := hk
      refine vx_ret (W.widen hcK hsK ?_)
      have hq : ∀ t : State, t.heap = H → s.WarmedH t.vm → am_Qc D ca B0 E L0 xs r0 ks0 n0 (.inl (some (.int v))) M args s (.returned (some (.int v))) t := fun t ht _ => ⟨_, r, ks, rfl, rfl, he, by rw [ht]; exact hR, (fun w hw => by cases hw; exact am_vok_int _), hV.F ht⟩
      cases hr0 : am_rt y with
      | none => rw [hr0] at hz; cases hz
      | some ty =>
        rw [hr0] at hz hrt
        cases ty with
        | int => exact W.iret hx hb hrt hq hV.2.2 hd hlk
        | boolean =>
          have hv : v = 0 ∨ v = 1 := by simpa [am_retI] using hz
          exact W.zret (ty := .boolean) hx hb hrt (by rcases hv with q | q <;> subst q <;> rfl) hq hV.2.2 hd hlk
        | byte =>
          have hv : v.toInt8.toInt32 = v := by simpa [am_retI] using hz
          exact W.zret (ty := .byte) hx hb hrt (by show Value.int v.toInt8.toInt32 = Value.int v; rw [hv]) hq hV.2.2 hd hlk
        | char =>
          have hv : (v.toUInt32 % 65536).toInt32 = v := by simpa [am_retI] using hz
          exact W.zret (ty := .char) hx hb hrt (by have h9 := pk_nc v; rw [hv] at h9; exact h9) hq hV.2.2 hd hlk
        | _ => exact absurd hz (by simp [am_retI])
    · cases hs
  | areturn =>
    have hn : nx = pc + 1 := by simpa [am_ok1, am_len] using ho
    subst hn
    rw [Nat.add_sub_cancel_left] at hd
    simp only [am_end] at hs
    have key : ∀ (v : Value) (ty : FieldType), ((∃ C, ty = .object C) ∨ ∃ t, ty = .array t) → st = [v] → (v = .null ∨ ∃ a, v = .ref a) → am_rt y = some ty → o = .inl (some v) → M1 = M → k = 0 → sl = 0 →
        am_W D ca B0 E L0 xs p l e R s m args below meth c y (vx_MQ below (am_Qc D ca B0 E L0 xs r0 ks0 n0 o M1) (am_XC D ca B0 E L0 xs r0 ks0 n0 o M1) args s K S (fun q : Nat => B0 ≤ q)) r0 ks0 n0 cells slots pc L st M := by
      intro v ty e0 e1 e2 e3 e4 e5 e6 e7
      subst e1; subst e4; subst e5; subst e6; subst e7
      rw [e3] at hrt
      intro r ks H locs ls st1 he hR hV hl hL hk
      obtain ⟨rfl, hvk⟩ := hk
      refine vx_ret (W.widen hcK hsK ?_)
      exact W.aret (rt := ty) hx hb hrt e0 (by rcases e2 with q | ⟨a, q⟩ <;> subst q; exact Or.inl rfl; exact Or.inr ⟨_, rfl⟩) (fun t ht _ => ⟨some v, r, ks, rfl, rfl, he, by rw [ht]; exact hR, (fun w hw => by cases hw; exact hvk _ List.mem_cons_self), hV.F ht⟩) hV.2.2 hd hlk
    split at hs
    · rename_i hr0
      cases hs
      exact key _ _ (Or.inl ⟨_, rfl⟩) rfl (Or.inr ⟨_, rfl⟩) hr0 rfl rfl rfl rfl
    · rename_i hr0
      cases hs
      exact key _ _ (Or.inl ⟨_, rfl⟩) rfl (Or.inl rfl) hr0 rfl rfl rfl rfl
    · rename_i hr0
      cases hs
      exact key _ _ (Or.inr ⟨_, rfl⟩) rfl (Or.inr ⟨_, rfl⟩) hr0 rfl rfl rfl rfl
    · cases hs
  | dreturn =>
    have hn : nx = pc + 1 := by simpa [am_ok1, am_len] using ho
    subst hn
    rw [Nat.add_sub_cancel_left] at hd
    simp only [am_end] at hs
    split at hs
    · rename_i hr0
      cases hs
      rw [hr0] at hrt
      intro r ks H locs ls st1 he hR hV hl hL hk
      obtain ⟨rfl, -⟩ := hk
      refine vx_ret (W.widen hcK hsK ?_)
      exact W.dret hx hb hrt (fun t ht _ => ⟨_, r, ks, rfl, rfl, he, by rw [ht]; exact hR, (fun w hw => by cases hw; exact fun _ h => by cases h), hV.F ht⟩) hV.2.2 hd hlk
    · cases hs
  | freturn =>
    have hn : nx = pc + 1 := by simpa [am_ok1, am_len] using ho
    subst hn
    rw [Nat.add_sub_cancel_left] at hd
    simp only [am_end] at hs
    split at hs
    · rename_i hr0
      cases hs
      rw [hr0] at hrt
      intro r ks H locs ls st1 he hR hV hl hL hk
      obtain ⟨rfl, -⟩ := hk
      refine vx_ret (W.widen hcK hsK ?_)
      exact W.fret hx hb hrt (fun t ht _ => ⟨_, r, ks, rfl, rfl, he, by rw [ht]; exact hR, (fun w hw => by cases hw; exact fun _ h => by cases h), hV.F ht⟩) hV.2.2 hd hlk
    · cases hs
  | lreturn =>
    have hn : nx = pc + 1 := by simpa [am_ok1, am_len] using ho
    subst hn
    rw [Nat.add_sub_cancel_left] at hd
    simp only [am_end] at hs
    split at hs
    · rename_i hr0
      cases hs
      rw [hr0] at hrt
      intro r ks H locs ls st1 he hR hV hl hL hk
      obtain ⟨rfl, -⟩ := hk
      refine vx_ret (W.widen hcK hsK ?_)
      exact W.lret hx hb hrt (fun t ht _ => ⟨_, r, ks, rfl, rfl, he, by rw [ht]; exact hR, (fun w hw => by cases hw; exact fun _ h => by cases h), hV.F ht⟩) hV.2.2 hd hlk
    · cases hs
  | new j =>
    simp only [am_end] at hs
    cases ht : am_tw y pc with
    | none => rw [ht] at hs; cases hs
    | some x =>
      rw [ht] at hs
      obtain ⟨hz, hs⟩ := am_if_inv hs
      cases hs
      exact am_thr C0 hRf hRl h ht (Nat.le_of_ble_eq_true hz) hcR hsR hcK hsK
  | _ => first | (cases hs; done) | exact absurd hs (by simp [am_end])
end AME
