/-! ONE INSTRUCTION: what am_stp says, the machine does -/
def am_nm : List String := ["WALL", "OWN", "PLAYER", "MOVE", "SHOUT", "BEAT", "CATCH", "WIND"]
def am_len8 : List Nat := [3, 3, 3, 3, 0, 1, 2]
def am_byt : List (List Int32) := [[50, 61, 49], [49, 64, 50], [49, 62, 50], [49, 126, 50], [], [49], [126, 49]]
/-- the strings that are thrown with: class, pool place, text -/
def am_strs : List (String × Nat × String) := [("EchoCanyon", 464, "no such sound"), ("EchoCanyon", 220, "no such number of a sound"), ("EchoCanyon", 466, "not 0 to 20 beats"), ("EchoCanyon", 241, "the sound would be gone"), ("EchoCanyon", 434, "no such account"), ("EchoCanyon", 116, "refused: see reason"), ("EchoCanyon", 459, "no such player"), ("EchoCanyon", 202, "no such number of a player"), ("EchoCanyon", 343, "the text buffer is full"), ("EchoCanyon", 360, "the text has a fault"), ("EchoCanyon", 368, "a command is refused: see reason"), ("EchoCanyon", 449, "no such place"), ("EchoCanyon", 454, "no such team"), ("EchoCanyon", 175, "no such number of a team"), ("EchoCanyon", 315, "no such place in the order"), ("EchoCanyon", 266, "no echo would ever come"), ("EchoCanyon", 278, "no such loudness"), ("EchoCanyon", 284, "no shout would return"), ("EchoCanyon", 308, "no wall to this side"), ("EchoCanyon", 301, "no wall, or no team that could buy it"), ("EchoCanyon", 303, "no wall at the place"), ("EchoCanyon", 310, "no such measure"), ("EchoCanyon", 412, "no sounds"), ("EchoCanyon", 436, "nothing can be undone"), ("EchoCanyon", 444, "nothing was saved")]
/-- the law's texts, the digits -/
def am_J (E : Nat → Nat) (B0 : Nat) (U : State) (H : Heap) : Prop :=
  (∀ j : Nat, j < 8 → va_O "java/lang/String" (E (64 * j + 45)) (fun q : Nat => B0 ≤ q) U H ∧ va_OF "java/lang/String" "coder" "B" (.int 0) (E (64 * j + 45)) (fun q : Nat => B0 ≤ q) U H ∧ va_OF "java/lang/String" "value" "[B" (.ref (E (64 * j + 46))) (E (64 * j + 45)) (fun q : Nat => B0 ≤ q) U H)
  ∧ (∀ j : Nat, j < 10 → va_T .byte (E (64 * j + 46)) (am_sn j) (fun k => .int (Int32.ofNat (am_sb j k))) (fun q : Nat => B0 ≤ q) U H)
  ∧ va_Z "java/lang/Integer" "DigitOnes" "[B" (.ref (E 558)) (fun q : Nat => B0 ≤ q) U H ∧ va_Z "java/lang/Integer" "DigitTens" "[B" (.ref (E 622)) (fun q : Nat => B0 ≤ q) U H
theorem am_J_moved {E : Nat → Nat} {B0 : Nat} {u U : State} {H : Heap} (hvm : u.vm.Alike U.vm) (h : am_J E B0 u H) : am_J E B0 U H := by
  obtain ⟨h1, h2, h3, h4⟩ := h
  exact ⟨fun j hj => ⟨(h1 j hj).1.moved hvm, (h1 j hj).2.1.moved hvm, (h1 j hj).2.2.moved hvm⟩, fun j hj => (h2 j hj).moved hvm, h3.moved hvm, h4.moved hvm⟩
theorem am_J_kept {E : Nat → Nat} {B0 : Nat} {U : State} {H H1 : Heap} (h : am_J E B0 U H) (hq : ∀ a : Nat, a < H.size → ¬ B0 ≤ a → H1[a]? = H[a]?) : am_J E B0 U H1 := by
  obtain ⟨h1, h2, h3, h4⟩ := h
  exact ⟨fun j hj => ⟨(h1 j hj).1.kept hq, (h1 j hj).2.1.kept hq, (h1 j hj).2.2.kept hq⟩, fun j hj => (h2 j hj).kept hq, h3.kept hq, h4.kept hq⟩
/-- what stands of statics: the enum, its array, the switch map, the script, the exceptions' words -/
def am_S (E : Nat → Nat) (B0 L0 : Nat) (xs : Nat → Int32) (U : State) (H : Heap) : Prop :=
  va_En "EchoCanyon$Command" "LEchoCanyon$Command;" am_nm [("java/lang/Enum", "ordinal", "I", [0, 1, 2, 3, 4, 5, 6, 7]), ("EchoCanyon$Command", "letter", "I", [119, 111, 112, 109, 115, 98, 99, 118])] (fun c => E (64 * c + 40)) (fun q : Nat => B0 ≤ q) U H
  ∧ va_Ef 8 "EchoCanyon$Command" "form" "Ljava/lang/String;" (fun c => .ref (E (64 * am_ef c + 41))) (fun c => E (64 * c + 40)) (fun q : Nat => B0 ≤ q) U H
  ∧ (∃ adV : Nat → Nat, vk_S 7 am_len8 am_byt (fun j => E (64 * j + 41)) adV (fun q : Nat => B0 ≤ q) U H)
  ∧ va_Z "EchoCanyon$Command" "ALL" "[LEchoCanyon$Command;" (.ref (E 42)) (fun q : Nat => B0 ≤ q) U H
  ∧ va_T (.object "EchoCanyon$Command") (E 42) 8 (fun j => .ref (E (64 * j + 40))) (fun q : Nat => B0 ≤ q) U H
  ∧ va_Z "EchoCanyon$1" "$SwitchMap$EchoCanyon$Command" "[I" (.ref (E 43)) (fun q : Nat => B0 ≤ q) U H
  ∧ va_T .int (E 43) 8 (fun j => .int (Int32.ofNat (j + 1))) (fun q : Nat => B0 ≤ q) U H
  ∧ va_X (E 44) L0 xs U H
  ∧ vx_Zq Bundle.tN "UNASSIGNED_STACK" Bundle.steD (fun q : Nat => B0 ≤ q) U H ∧ vx_Zq Bundle.tN "SUPPRESSED_SENTINEL" Bundle.listD (fun q : Nat => B0 ≤ q) U H
  ∧ va_Z "java/lang/String" "COMPACT_STRINGS" "Z" (.int 1) (fun q : Nat => B0 ≤ q) U H ∧ va_Zq "jdk/internal/util/Preconditions" "SIOOBE_FORMATTER" "Ljava/util/function/BiFunction;" (fun q : Nat => B0 ≤ q) U H ∧ am_J E B0 U H
/-- the classes above the exceptions -/
def am_dn : List String := ["java/lang/RuntimeException", "java/lang/Exception", "java/lang/Throwable"]
def am_ltx (j : Nat) : String := (["v+", ";b", ";s", "+", ";w", "=", ";c", ";"] : List String).getD j ""
/-- .. and of the tables alone -/
def am_S2 (E : Nat → Nat) (U : State) : Prop := ((∀ q ∈ am_strs, ∃ sa, vk_R q.1 q.2.1 q.2.2 sa U) ∧ ∀ j : Nat, j < 8 → vk_R "EchoCanyonLaw" (am_li j) (am_ltx j) (E (64 * j + 45)) U) ∧ (∀ e e', e < 6 → e' < 6 → e ≠ e' → va_Nc (am_xn e) (am_xn e') U) ∧ va_AO RX1 U ∧ va_AO RX6 U ∧ va_AO RX8 U ∧ (∀ c k z mo, am_pm c k = some (z, mo) → (mo = 2 ∨ mo = 4) → va_Nw (.methodLinkNest (am_cn c) k (am_y z) "EchoCanyon") U) ∧ (∀ n ∈ am_dn, va_Nw (.declares (Bundle.initS n)) U) ∧ ∀ e, e < 6 → va_Nw (.castable (am_xn e) (am_xn e)) U
theorem am_S_moved {E : Nat → Nat} {B0 L0 : Nat} {xs : Nat → Int32} {u U : State} {H : Heap} (hvm : u.vm.Alike U.vm) (h : am_S E B0 L0 xs u H) : am_S E B0 L0 xs U H := by
  obtain ⟨h1, h2, ⟨adV, h3⟩, h4, h5, h6, h7, h8, h9, h10, h11, h12, h13⟩ := h
  exact ⟨h1.moved hvm, h2.moved hvm, ⟨adV, h3.moved hvm⟩, h4.moved hvm, h5.moved hvm, h6.moved hvm, h7.moved hvm, h8.moved hvm, h9.moved hvm, h10.moved hvm, h11.moved hvm, h12.moved hvm, am_J_moved hvm h13⟩
theorem am_S_kept {E : Nat → Nat} {B0 L0 : Nat} {xs : Nat → Int32} {U : State} {H H1 : Heap} (h : am_S E B0 L0 xs U H) (hE : E 44 < B0) (hq : ∀ a : Nat, a < H.size → ¬ B0 ≤ a → H1[a]? = H[a]?) : am_S E B0 L0 xs U H1 := by
  obtain ⟨h1, h2, ⟨adV, h3⟩, h4, h5, h6, h7, h8, h9, h10, h11, h12, h13⟩ := h
  have hx : E 44 < H.size := by
    obtain ⟨scr, g, -⟩ := h8
    exact (Array.getElem?_eq_some_iff.mp g).1
  exact ⟨h1.kept hq, h2.kept hq, ⟨adV, h3.kept hq⟩, h4.kept hq, h5.kept hq, h6.kept hq, h7.kept hq, h8.kept (hq _ hx (by omega)), h9.kept hq, h10.kept hq, h11.kept hq, h12.kept hq, am_J_kept h13 hq⟩
theorem am_S2_warm {E : Nat → Nat} {s U : State} (hW : s.WarmedH U.vm) (h : am_S2 E s) : am_S2 E U := by
  obtain ⟨⟨h1, h0⟩, h2, h3, h4, h5, h6, h7, h8⟩ := h
  refine ⟨⟨fun q hq => ?_, fun j hj => (h0 j hj).warm hW⟩, fun e e' he he' hn => (h2 e e' he he' hn).moved hW.alike, h3.moved hW.alike, h4.moved hW.alike, h5.moved hW.alike, fun c k z mo g1 g2 => (h6 c k z mo g1 g2).warmM hW, fun n hn => (h7 n hn).warmD hW, fun e he => (h8 e he).warmC hW⟩
  obtain ⟨sa, h⟩ := h1 q hq
  exact ⟨sa, h.warm hW⟩
theorem am_S2_same {E : Nat → Nat} {u U : State} (hv : u.vm = U.vm) (h : am_S2 E u) : am_S2 E U := by
  obtain ⟨⟨h1, h0⟩, h2, h3, h4, h5, h6, h7, h8⟩ := h
  have ha : u.vm.Alike U.vm := by rw [hv]; exact Vm.Alike.refl U.vm
  refine ⟨⟨fun q hq => ?_, fun j hj => (h0 j hj).same hv.symm⟩, fun e e' he he' hn => (h2 e e' he he' hn).moved ha, h3.moved ha, h4.moved ha, h5.moved ha, fun c k z mo g1 g2 => (h6 c k z mo g1 g2).same rfl hv, fun n hn => (h7 n hn).same rfl hv, fun e he => (h8 e he).same rfl hv⟩
  obtain ⟨sa, h⟩ := h1 q hq
  exact ⟨sa, h.same hv.symm⟩
/-- the machine, the method, the tables, the statics: what stands through a method's walk -/
def am_X (D : va_G) (ca : Nat → ClassId) (B0 : Nat) (E : Nat → Nat) (L0 : Nat) (xs : Nat → Int32) (l : Launch) (p : Program) (s : State) (m : MethodId) (args : Array Value) (meth : Method) (c : Code) (y : Nat) : Prop :=
  p.tables.exec = Jvm.exec ∧ c.code = am_b y ∧ c.maxLocals = am_ml y ∧ s.vm.findClass (am_cn (am_cl y)) = some m.cls ∧ (∀ w ∈ am_G, w.before args s = true) ∧ meth.locks = false ∧ meth.sig.returnType = am_rt y ∧ (am_ini y = true → meth.name = "<init>")
  ∧ va_K D am_cls (am_tys ca) s ∧ am_S E B0 L0 xs s s.heap ∧ am_S2 E s ∧ B0 ≤ s.heap.size ∧ E 44 < B0 ∧ l.stackTraces = false ∧ c.exceptionTable.toList = tableOf (am_hh y)
def am_Lo (r ks : Nat → Nat) (n : Nat) (L : am_L) (ls : Array Slot) : Prop := ls.size = L.length ∧ lv_wf ls ∧ ∀ i v, am_nth L i = some v → ls[i]? = some (.val (am_cv r v)) ∧ am_vok ks n v
def am_Sk (r ks : Nat → Nat) (n : Nat) (st st' : List Value) : Prop := st' = st.map (am_cv r) ∧ ∀ v ∈ st, am_vok ks n v
theorem am_Sk_cons {r ks : Nat → Nat} {n : Nat} {st st' : List Value} {v : Value} (hv : am_vok ks n v) (h : am_Sk r ks n st st') : am_Sk r ks n (v :: st) (am_cv r v :: st') := by
  obtain ⟨rfl, h⟩ := h
  exact ⟨rfl, fun w hw => (List.mem_cons.mp hw).elim (fun e => e ▸ hv) (h w)⟩
theorem am_Sk_tl {r ks : Nat → Nat} {n : Nat} {st st' : List Value} {v : Value} (h : am_Sk r ks n (v :: st) st') : ∃ t, st' = am_cv r v :: t ∧ am_vok ks n v ∧ am_Sk r ks n st t := by
  obtain ⟨rfl, h⟩ := h
  exact ⟨_, rfl, h v List.mem_cons_self, rfl, fun w hw => h w (List.mem_cons_of_mem _ hw)⟩
/-- the machine comes to Q from every place that shows this -/
def am_W (D : va_G) (ca : Nat → ClassId) (B0 : Nat) (E : Nat → Nat) (L0 : Nat) (xs : Nat → Int32) (p : Program) (l : Launch) (e : Env) (R : Room) (s : State) (m : MethodId) (args : Array Value) (below : List Frame) (meth : Method) (c : Code) (y : Nat) (Q : State → Prop) (r0 ks0 : Nat → Nat) (n0 : Nat) (cells slots pc : Nat) (L : am_L) (st : List Value) (M : am_M) : Prop :=
  ∀ (r ks : Nat → Nat) (H : Heap) (locs : List Loc) (ls : Array Slot) (st' : List Value), am_ext r0 ks0 n0 r ks (am_n M) → am_Rp D ca B0 E L0 xs r ks M H → va_S (fun q : Nat => B0 ≤ q) s.heap H locs → L.length = am_ml y → am_Lo r ks (am_n M) L ls → am_Sk r ks (am_n M) st st' →
    W p l e R s m args below meth c H locs cells slots Q (F0 m pc ls st')
theorem am_i1_inv {α : Type} {st : List Value} {k : Int32 → List Value → Option α} {x : α} (h : am_i1 st k = some x) : ∃ a t, st = .int a :: t ∧ k a t = some x := by
  unfold am_i1 at h
  split at h
  · exact ⟨_, _, rfl, h⟩
  · cases h
theorem am_i2_inv {α : Type} {st : List Value} {k : Int32 → Int32 → List Value → Option α} {x : α} (h : am_i2 st k = some x) : ∃ b a t, st = .int b :: .int a :: t ∧ k b a t = some x := by
  unfold am_i2 at h
  split at h
  · exact ⟨_, _, _, rfl, h⟩
  · cases h
theorem am_a1_inv {α : Type} {st : List Value} {k : Nat → List Value → Option α} {x : α} (h : am_a1 st k = some x) : ∃ a t, st = .ref a :: t ∧ k a t = some x := by
  unfold am_a1 at h
  split at h
  · exact ⟨_, _, rfl, h⟩
  · cases h
theorem am_ia_inv {α : Type} {st : List Value} {k : Int32 → Nat → List Value → Option α} {x : α} (h : am_ia st k = some x) : ∃ j a t, st = .int j :: .ref a :: t ∧ k j a t = some x := by
  unfold am_ia at h
  split at h
  · exact ⟨_, _, _, rfl, h⟩
  · cases h
theorem am_of_inv {α : Type} {o : Option am_L} {k : am_L → Option α} {x : α} (h : am_of o k = some x) : ∃ L, o = some L ∧ k L = some x := by
  unfold am_of at h
  split at h
  · exact ⟨_, rfl, h⟩
  · cases h
theorem am_if_inv {α : Type} {b : Bool} {x : α} {o : Option α} (h : (bif b then o else none) = some x) : b = true ∧ o = some x := by
  cases b with
  | true => exact ⟨rfl, h⟩
  | false => cases h
theorem am_nth_lt : ∀ (L : am_L) (i : Nat) (v : Value), am_nth L i = some v → i < L.length
  | [], _, _, h => by cases h
  | _ :: _, 0, _, _ => Nat.zero_lt_succ _
  | _ :: t, i + 1, v, h => Nat.succ_lt_succ (am_nth_lt t i v h)
theorem am_wide_cat {v : Value} (h : am_wide (some v) = false) : v.category = 1 := by
  cases v <;> first | rfl | (simp [am_wide] at h)
/-- a store: the new list, place by place -/
theorem am_put_spec : ∀ (L : am_L) (k : Nat) (v : Value) (L' : am_L), am_put L k v = some L' → L'.length = L.length ∧ k < L.length ∧ (∀ i, am_nth L' i = if i = k then some v else am_nth L i) ∧ ∀ i w, i + 1 = k → am_nth L i = some w → w.category = 1
  | [], k, v, L', h => by simp [am_put] at h
  | o :: t, 0, v, L', h => by
    simp only [am_put, Option.some.injEq] at h
    subst h
    refine ⟨rfl, Nat.zero_lt_succ _, fun i => ?_, fun i w q => by omega⟩
    cases i with
    | zero => rfl
    | succ i => rfl
  | o :: t, k + 1, v, L', h => by
    simp only [am_put] at h
    obtain ⟨hb, h⟩ := am_if_inv (b := !(Nat.beq k 0 && am_wide o)) (by
      cases hz : (Nat.beq k 0 && am_wide o) with
      | true => rw [hz] at h; cases h
      | false => rw [hz] at h; exact h)
    cases ht : am_put t k v with
    | none => rw [ht] at h; cases h
    | some t' =>
      rw [ht] at h
      cases h
      obtain ⟨e1, e2, e3, e4⟩ := am_put_spec t k v t' ht
      refine ⟨by simp [e1], by simp; exact e2, fun i => ?_, fun i w q hw => ?_⟩
      · cases i with
        | zero => rfl
        | succ i =>
          show am_nth t' i = _
          rw [e3 i]
          by_cases hi : i = k
          · subst hi; simp
          · rw [if_neg hi, if_neg (fun q => hi (Nat.succ.inj q))]
            rfl
      · cases i with
        | zero =>
          have hk : k = 0 := by omega
          subst hk
          have : o = some w := hw
          subst this
          simp at hb
          exact am_wide_cat hb
        | succ i => exact e4 i w (by omega) hw
theorem am_put2_spec : ∀ (L : am_L) (k : Nat) (v : Value) (L' : am_L), am_put2 L k v = some L' → L'.length = L.length ∧ k + 1 < L.length ∧ (∀ i w, am_nth L' i = some w → (i = k ∧ w = v) ∨ (i ≠ k ∧ i ≠ k + 1 ∧ am_nth L i = some w)) ∧ ∀ i w, i + 1 = k → am_nth L i = some w → w.category = 1
  | [], k, v, L', h => by cases k <;> simp [am_put2] at h
  | [o], 0, v, L', h => by simp [am_put2] at h
  | o :: o2 :: t, 0, v, L', h => by
    simp only [am_put2, Option.some.injEq] at h
    subst h
    refine ⟨rfl, by simp, fun i w hw => ?_, fun i w q => by omega⟩
    cases i with
    | zero => exact Or.inl ⟨rfl, (Option.some.inj hw).symm⟩
    | succ i =>
      cases i with
      | zero => cases hw
      | succ i => exact Or.inr ⟨by omega, by omega, hw⟩
  | o :: t, k + 1, v, L', h => by
    have h9 : (bif (Nat.beq k 0 && am_wide o) then none else (match am_put2 t k v with | some t' => some (o :: t') | none => none)) = some L' := by
      cases t <;> exact h
    cases hz : (Nat.beq k 0 && am_wide o) with
    | true => rw [hz] at h9; cases h9
    | false =>
      rw [hz] at h9
      cases ht : am_put2 t k v with
      | none => rw [ht] at h9; cases h9
      | some t' =>
        rw [ht] at h9
        cases h9
        obtain ⟨e1, e2, e3, e4⟩ := am_put2_spec t k v t' ht
        refine ⟨by simp [e1], by simp; omega, fun i w hw => ?_, fun i w q hw => ?_⟩
        · cases i with
          | zero => exact Or.inr ⟨by omega, by omega, hw⟩
          | succ i =>
            rcases e3 i w hw with ⟨q1, q2⟩ | ⟨q1, q2, q3⟩
            · exact Or.inl ⟨by omega, q2⟩
            · exact Or.inr ⟨by omega, by omega, q3⟩
        · cases i with
          | zero =>
            have hk : k = 0 := by omega
            subst hk
            have : o = some w := hw
            subst this
            simp at hz
            exact am_wide_cat hz
          | succ i => exact e4 i w (by omega) hw
/-- all that the list says, as the rows of the kit take it -/
def am_ll (r : Nat → Nat) (L : am_L) : List (Nat × Value) := (List.range L.length).filterMap fun i => (am_nth L i).map fun v => (i, am_cv r v)
theorem am_ll_mem {r : Nat → Nat} {L : am_L} {i : Nat} {w : Value} : (i, w) ∈ am_ll r L ↔ ∃ v, am_nth L i = some v ∧ w = am_cv r v := by
  unfold am_ll
  rw [List.mem_filterMap]
  constructor
  · rintro ⟨j, -, hj⟩
    cases hv : am_nth L j with
    | none => rw [hv] at hj; cases hj
    | some v =>
      rw [hv] at hj
      cases hj
      exact ⟨v, hv, rfl⟩
  · rintro ⟨v, hv, rfl⟩
    exact ⟨i, List.mem_range.mpr (am_nth_lt L i v hv), by rw [hv]; rfl⟩
theorem am_cv_cat (r : Nat → Nat) (v : Value) : (am_cv r v).category = v.category := by cases v <;> rfl
theorem am_Lo_has {r ks : Nat → Nat} {n : Nat} {L : am_L} {ls : Array Slot} (h : am_Lo r ks n L ls) : lv_has ls L.length (am_ll r L) := by
  refine ⟨h.1, h.2.1, fun q hq => ?_⟩
  obtain ⟨v, hv, e⟩ := am_ll_mem.mp (show (q.1, q.2) ∈ am_ll r L from hq)
  rw [e]
  exact (h.2.2 _ v hv).1
theorem am_Lo_put {r ks : Nat → Nat} {n k : Nat} {L L' : am_L} {ls ls' : Array Slot} {v : Value} (h : am_Lo r ks n L ls) (hp : am_put L k v = some L') (hv : am_vok ks n v)
    (hl : lv_has ls' L.length ((k, am_cv r v) :: (am_ll r L).filter (fun q => !(q.1 == k) && !(q.1 + 1 == k && q.2.category == 2)))) : am_Lo r ks n L' ls' := by
  obtain ⟨e1, e2, e3, e4⟩ := am_put_spec L k v L' hp
  refine ⟨by rw [e1]; exact hl.1, hl.2.1, fun i w hw => ?_⟩
  rw [e3 i] at hw
  by_cases hi : i = k
  · subst hi
    rw [if_pos rfl] at hw
    cases hw
    exact ⟨hl.2.2 (i, am_cv r v) List.mem_cons_self, hv⟩
  · rw [if_neg hi] at hw
    refine ⟨hl.2.2 (i, am_cv r w) (List.mem_cons_of_mem _ (List.mem_filter.mpr ⟨am_ll_mem.mpr ⟨w, hw, rfl⟩, ?_⟩)), (h.2.2 i w hw).2⟩
    have hc : ¬ (i + 1 = k ∧ w.category = 2) := fun q => by
      have := e4 i w q.1 hw
      omega
    rw [am_cv_cat]
    simp only [Bool.and_eq_true, Bool.not_eq_true', beq_eq_false_iff_ne, ne_eq, Bool.and_eq_false_iff]
    refine ⟨hi, ?_⟩
    by_cases q : i + 1 = k
    · exact Or.inr fun z => hc ⟨q, z⟩
    · exact Or.inl q
theorem am_Lo_put2 {r ks : Nat → Nat} {n k : Nat} {L L' : am_L} {ls ls' : Array Slot} {v : Value} (h : am_Lo r ks n L ls) (hp : am_put2 L k v = some L') (hv : am_vok ks n v)
    (hl : lv_has ls' L.length ((k, am_cv r v) :: (am_ll r L).filter (fun q => !(q.1 == k) && (!(q.1 == k + 1) && !(q.1 + 1 == k && q.2.category == 2))))) : am_Lo r ks n L' ls' := by
  obtain ⟨e1, e2, e3, e4⟩ := am_put2_spec L k v L' hp
  refine ⟨by rw [e1]; exact hl.1, hl.2.1, fun i w hw => ?_⟩
  rcases e3 i w hw with ⟨q1, q2⟩ | ⟨q1, q2, q3⟩
  · subst q1; subst q2
    exact ⟨hl.2.2 (i, am_cv r w) List.mem_cons_self, hv⟩
  · refine ⟨hl.2.2 (i, am_cv r w) (List.mem_cons_of_mem _ (List.mem_filter.mpr ⟨am_ll_mem.mpr ⟨w, q3, rfl⟩, ?_⟩)), (h.2.2 i w q3).2⟩
    rw [am_cv_cat]
    have hc : ¬ (i + 1 = k ∧ w.category = 2) := fun q => by
      have := e4 i w q.1 q3
      omega
    simp only [Bool.and_eq_true, Bool.not_eq_true', beq_eq_false_iff_ne, ne_eq, Bool.and_eq_false_iff]
    refine ⟨q1, q2, ?_⟩
    by_cases q : i + 1 = k
    · exact Or.inr fun z => hc ⟨q, z⟩
    · exact Or.inl q

theorem am_ck2_at {c k : Nat} (h : c < 21) (h2 : k < 1100) : am_ck2 c k = true := am_all2_at am_wk2 h h2
theorem am_kc_ok {c k : Nat} {v : Int32} (h : am_kc c k = some v) : Cond.constant (am_cn c) k v ∈ am_G := by
  have h0 := h
  unfold am_kc at h
  obtain ⟨h1, h2, -⟩ := am_bnd h (by simp)
  have h3 := am_ck2_at h1 h2
  unfold am_ck2 at h3
  rw [h0] at h3
  simp only [Bool.and_eq_true] at h3
  exact am_gw_in h3.1.1.1.1
theorem am_kf_ok {c k : Nat} {v : UInt32} (h : am_kf c k = some v) : Cond.constantFloat (am_cn c) k v ∈ am_G := by
  have h0 := h
  unfold am_kf at h
  obtain ⟨h1, h2, -⟩ := am_bnd h (by simp)
  have h3 := am_ck2_at h1 h2
  unfold am_ck2 at h3
  rw [h0] at h3
  simp only [Bool.and_eq_true] at h3
  exact am_gw_in h3.1.1.1.2
theorem am_kl_ok {c k : Nat} {v : Int64} (h : am_kl c k = some v) : Cond.constantLong (am_cn c) k v ∈ am_G := by
  have h0 := h
  unfold am_kl at h
  obtain ⟨h1, h2, -⟩ := am_bnd h (by simp)
  have h3 := am_ck2_at h1 h2
  unfold am_ck2 at h3
  rw [h0] at h3
  simp only [Bool.and_eq_true] at h3
  exact am_gw_in h3.1.1.2
theorem am_kd_ok {c k : Nat} {v : UInt64} (h : am_kd c k = some v) : Cond.constantDouble (am_cn c) k v ∈ am_G := by
  have h0 := h
  unfold am_kd at h
  obtain ⟨h1, h2, -⟩ := am_bnd h (by simp)
  have h3 := am_ck2_at h1 h2
  unfold am_ck2 at h3
  rw [h0] at h3
  simp only [Bool.and_eq_true] at h3
  exact am_gw_in h3.1.2
theorem am_ks_ok {c k j : Nat} (h : am_ks c k = some j) : c = 14 ∧ j < 8 ∧ k = am_li j := by
  have h0 := h
  unfold am_ks at h
  obtain ⟨h1, h2, -⟩ := am_bnd h (by simp)
  have h3 := am_ck2_at h1 h2
  unfold am_ck2 at h3
  rw [h0] at h3
  simp only [Bool.and_eq_true] at h3
  exact ⟨Nat.eq_of_beq_eq_true h3.2.1.1, by simpa [Nat.blt_eq] using h3.2.1.2, Nat.eq_of_beq_eq_true h3.2.2⟩
section LDW
variable {p : Program} {l : Launch} {e : Env} {R : Room} {s : State} {m : MethodId} {args : Array Value} {below : List Frame} {meth : Method} {c : Code} {H : Heap} {locs : List Loc} {cells slots : Nat} {Q : State → Prop} {pc : Nat} {ls : Array Slot} {rest : List Value}
theorem am_ldcSW {cc : ByteArray} (hexec : p.tables.exec = Jvm.exec) (hb : c.code = cc) {own tx : String} {index q : Nat} (hown : s.vm.findClass own = some m.cls) (hZ : vk_R own index tx q s) (hdg : decode cc pc = .ok (.ldc_w index, 3))
    (k : W p l e R s m args below meth c H locs cells slots Q (F0 m (pc + 3) ls (.ref q :: rest))) : W p l e R s m args below meth c H locs cells slots Q (F0 m pc ls rest) := by
  intro T hT X
  obtain ⟨t, a1, b1⟩ := k T hT X
  exact ⟨t, X.ldcStringW hexec hown (text := tx) (a := q) hZ.1 hZ.2 (g := F0 m pc ls rest) rfl (by rw [hb]; exact hdg) t a1, b1⟩
end LDW
section AMS
variable {D : va_G} {ca : Nat → ClassId} {B0 : Nat} {E : Nat → Nat} {L0 : Nat} {xs : Nat → Int32} {p : Program} {l : Launch} {e : Env} {R : Room} {s : State} {m : MethodId} {args : Array Value} {below : List Frame} {meth : Method} {c : Code} {y : Nat} {Q : State → Prop} {r0 ks0 : Nat → Nat} {n0 cells slots pc nx tg : Nat} {L : am_L} {st : List Value} {M : am_M} {x : am_C}

theorem am_s_iconst {n : Int} (C : am_X D ca B0 E L0 xs l p s m args meth c y) (hd : decode (am_b y) pc = .ok (.iconst n, nx - pc)) (ho : am_ok1 (.iconst n) pc nx tg = true) (hs : am_stp y (.iconst n) pc nx tg L st M = some x) (k : am_W D ca B0 E L0 xs p l e R s m args below meth c y Q r0 ks0 n0 cells slots x.1 x.2.1 x.2.2.1 x.2.2.2) : am_W D ca B0 E L0 xs p l e R s m args below meth c y Q r0 ks0 n0 cells slots pc L st M := by
  obtain ⟨hx, hb, hml, hown, hts, hlk, hrt, hin, hK, hS0, hS2, hB0, hE, hst, het⟩ := C
  have hn : nx = pc + 1 := by simpa [am_ok1, am_len] using ho
  subst hn
  rw [Nat.add_sub_cancel_left] at hd
  cases hs
  intro r ks H locs ls st1 he hR hV hl hL hk
  refine lv_iconst hx hb hd rfl ?_
  exact k r ks H locs ls _ he hR hV hl hL (am_Sk_cons (am_vok_int _) hk)
theorem am_s_bipush {n : Int} (C : am_X D ca B0 E L0 xs l p s m args meth c y) (hd : decode (am_b y) pc = .ok (.bipush n, nx - pc)) (ho : am_ok1 (.bipush n) pc nx tg = true) (hs : am_stp y (.bipush n) pc nx tg L st M = some x) (k : am_W D ca B0 E L0 xs p l e R s m args below meth c y Q r0 ks0 n0 cells slots x.1 x.2.1 x.2.2.1 x.2.2.2) : am_W D ca B0 E L0 xs p l e R s m args below meth c y Q r0 ks0 n0 cells slots pc L st M := by
  obtain ⟨hx, hb, hml, hown, hts, hlk, hrt, hin, hK, hS0, hS2, hB0, hE, hst, het⟩ := C
  have hn : nx = pc + 2 := by simpa [am_ok1, am_len] using ho
  subst hn
  rw [Nat.add_sub_cancel_left] at hd
  cases hs
  intro r ks H locs ls st1 he hR hV hl hL hk
  refine lv_bipush hx hb hd rfl ?_
  exact k r ks H locs ls _ he hR hV hl hL (am_Sk_cons (am_vok_int _) hk)
theorem am_s_sipush {n : Int} (C : am_X D ca B0 E L0 xs l p s m args meth c y) (hd : decode (am_b y) pc = .ok (.sipush n, nx - pc)) (ho : am_ok1 (.sipush n) pc nx tg = true) (hs : am_stp y (.sipush n) pc nx tg L st M = some x) (k : am_W D ca B0 E L0 xs p l e R s m args below meth c y Q r0 ks0 n0 cells slots x.1 x.2.1 x.2.2.1 x.2.2.2) : am_W D ca B0 E L0 xs p l e R s m args below meth c y Q r0 ks0 n0 cells slots pc L st M := by
  obtain ⟨hx, hb, hml, hown, hts, hlk, hrt, hin, hK, hS0, hS2, hB0, hE, hst, het⟩ := C
  have hn : nx = pc + 3 := by simpa [am_ok1, am_len] using ho
  subst hn
  rw [Nat.add_sub_cancel_left] at hd
  cases hs
  intro r ks H locs ls st1 he hR hV hl hL hk
  refine lv_sipush hx hb hd rfl ?_
  exact k r ks H locs ls _ he hR hV hl hL (am_Sk_cons (am_vok_int _) hk)
theorem am_s_lconst {n : Fin 2} (C : am_X D ca B0 E L0 xs l p s m args meth c y) (hd : decode (am_b y) pc = .ok (.lconst n, nx - pc)) (ho : am_ok1 (.lconst n) pc nx tg = true) (hs : am_stp y (.lconst n) pc nx tg L st M = some x) (k : am_W D ca B0 E L0 xs p l e R s m args below meth c y Q r0 ks0 n0 cells slots x.1 x.2.1 x.2.2.1 x.2.2.2) : am_W D ca B0 E L0 xs p l e R s m args below meth c y Q r0 ks0 n0 cells slots pc L st M := by
  obtain ⟨hx, hb, hml, hown, hts, hlk, hrt, hin, hK, hS0, hS2, hB0, hE, hst, het⟩ := C
  have hn : nx = pc + 1 := by simpa [am_ok1, am_len] using ho
  subst hn
  rw [Nat.add_sub_cancel_left] at hd
  cases hs
  intro r ks H locs ls st1 he hR hV hl hL hk
  refine lv_lconst hx hb hd rfl ?_
  exact k r ks H locs ls _ he hR hV hl hL (am_Sk_cons (fun _ h => by cases h) hk)
theorem am_s_null  (C : am_X D ca B0 E L0 xs l p s m args meth c y) (hd : decode (am_b y) pc = .ok (.aconst_null, nx - pc)) (ho : am_ok1 (.aconst_null) pc nx tg = true) (hs : am_stp y (.aconst_null) pc nx tg L st M = some x) (k : am_W D ca B0 E L0 xs p l e R s m args below meth c y Q r0 ks0 n0 cells slots x.1 x.2.1 x.2.2.1 x.2.2.2) : am_W D ca B0 E L0 xs p l e R s m args below meth c y Q r0 ks0 n0 cells slots pc L st M := by
  obtain ⟨hx, hb, hml, hown, hts, hlk, hrt, hin, hK, hS0, hS2, hB0, hE, hst, het⟩ := C
  have hn : nx = pc + 1 := by simpa [am_ok1, am_len] using ho
  subst hn
  rw [Nat.add_sub_cancel_left] at hd
  cases hs
  intro r ks H locs ls st1 he hR hV hl hL hk
  refine lv_null hx hb hd ?_
  exact k r ks H locs ls _ he hR hV hl hL (am_Sk_cons am_vok_null hk)
theorem am_s_dconst {n : Fin 2} (C : am_X D ca B0 E L0 xs l p s m args meth c y) (hd : decode (am_b y) pc = .ok (.dconst n, nx - pc)) (ho : am_ok1 (.dconst n) pc nx tg = true) (hs : am_stp y (.dconst n) pc nx tg L st M = some x) (k : am_W D ca B0 E L0 xs p l e R s m args below meth c y Q r0 ks0 n0 cells slots x.1 x.2.1 x.2.2.1 x.2.2.2) : am_W D ca B0 E L0 xs p l e R s m args below meth c y Q r0 ks0 n0 cells slots pc L st M := by
  obtain ⟨hx, hb, hml, hown, hts, hlk, hrt, hin, hK, hS0, hS2, hB0, hE, hst, het⟩ := C
  have hn : nx = pc + 1 := by simpa [am_ok1, am_len] using ho
  subst hn
  rw [Nat.add_sub_cancel_left] at hd
  simp only [am_stp] at hs
  obtain ⟨hz, hs⟩ := am_if_inv hs
  have hz : n = 0 := Fin.ext (Nat.eq_of_beq_eq_true hz)
  subst hz
  cases hs
  intro r ks H locs ls st1 he hR hV hl hL hk
  refine lv_dconst0 hx hb hd ?_
  exact k r ks H locs ls _ he hR hV hl hL (am_Sk_cons (fun _ h => by cases h) hk)
theorem am_s_fconst {n : Fin 3} (C : am_X D ca B0 E L0 xs l p s m args meth c y) (hd : decode (am_b y) pc = .ok (.fconst n, nx - pc)) (ho : am_ok1 (.fconst n) pc nx tg = true) (hs : am_stp y (.fconst n) pc nx tg L st M = some x) (k : am_W D ca B0 E L0 xs p l e R s m args below meth c y Q r0 ks0 n0 cells slots x.1 x.2.1 x.2.2.1 x.2.2.2) : am_W D ca B0 E L0 xs p l e R s m args below meth c y Q r0 ks0 n0 cells slots pc L st M := by
  obtain ⟨hx, hb, hml, hown, hts, hlk, hrt, hin, hK, hS0, hS2, hB0, hE, hst, het⟩ := C
  have hn : nx = pc + 1 := by simpa [am_ok1, am_len] using ho
  subst hn
  rw [Nat.add_sub_cancel_left] at hd
  simp only [am_stp] at hs
  obtain ⟨hz, hs⟩ := am_if_inv hs
  have hz : n = 0 := Fin.ext (Nat.eq_of_beq_eq_true hz)
  subst hz
  cases hs
  intro r ks H locs ls st1 he hR hV hl hL hk
  refine lv_fconst0 hx hb hd ?_
  exact k r ks H locs ls _ he hR hV hl hL (am_Sk_cons (fun _ h => by cases h) hk)
theorem am_s_iload_n {j : Fin 4} (C : am_X D ca B0 E L0 xs l p s m args meth c y) (hd : decode (am_b y) pc = .ok (.iload_n j, nx - pc)) (ho : am_ok1 (.iload_n j) pc nx tg = true) (hs : am_stp y (.iload_n j) pc nx tg L st M = some x) (k : am_W D ca B0 E L0 xs p l e R s m args below meth c y Q r0 ks0 n0 cells slots x.1 x.2.1 x.2.2.1 x.2.2.2) : am_W D ca B0 E L0 xs p l e R s m args below meth c y Q r0 ks0 n0 cells slots pc L st M := by
  obtain ⟨hx, hb, hml, hown, hts, hlk, hrt, hin, hK, hS0, hS2, hB0, hE, hst, het⟩ := C
  have hn : nx = pc + 1 := by simpa [am_ok1, am_len] using ho
  subst hn
  rw [Nat.add_sub_cancel_left] at hd
  simp only [am_stp] at hs
  cases hv : am_nth L j.val with
  | none => rw [hv] at hs; cases hs
  | some v =>
    rw [hv] at hs
    cases v <;> first | (cases hs; done) | skip
    rename_i v
    cases hs
    intro r ks H locs ls st1 he hR hV hl hL hk
    refine lv_iload_n hx hb hd rfl (hL.2.2 _ _ hv).1 ?_
    exact k r ks H locs ls _ he hR hV hl hL (am_Sk_cons (hL.2.2 _ _ hv).2 hk)
theorem am_s_iload {j : Nat} (C : am_X D ca B0 E L0 xs l p s m args meth c y) (hd : decode (am_b y) pc = .ok (.iload j, nx - pc)) (ho : am_ok1 (.iload j) pc nx tg = true) (hs : am_stp y (.iload j) pc nx tg L st M = some x) (k : am_W D ca B0 E L0 xs p l e R s m args below meth c y Q r0 ks0 n0 cells slots x.1 x.2.1 x.2.2.1 x.2.2.2) : am_W D ca B0 E L0 xs p l e R s m args below meth c y Q r0 ks0 n0 cells slots pc L st M := by
  obtain ⟨hx, hb, hml, hown, hts, hlk, hrt, hin, hK, hS0, hS2, hB0, hE, hst, het⟩ := C
  have hn : nx = pc + 2 := by simpa [am_ok1, am_len] using ho
  subst hn
  rw [Nat.add_sub_cancel_left] at hd
  simp only [am_stp] at hs
  cases hv : am_nth L j with
  | none => rw [hv] at hs; cases hs
  | some v =>
    rw [hv] at hs
    cases v <;> first | (cases hs; done) | skip
    rename_i v
    cases hs
    intro r ks H locs ls st1 he hR hV hl hL hk
    refine lv_iload hx hb hd (hL.2.2 _ _ hv).1 ?_
    exact k r ks H locs ls _ he hR hV hl hL (am_Sk_cons (hL.2.2 _ _ hv).2 hk)
theorem am_s_fload {j : Nat} (C : am_X D ca B0 E L0 xs l p s m args meth c y) (hd : decode (am_b y) pc = .ok (.fload j, nx - pc)) (ho : am_ok1 (.fload j) pc nx tg = true) (hs : am_stp y (.fload j) pc nx tg L st M = some x) (k : am_W D ca B0 E L0 xs p l e R s m args below meth c y Q r0 ks0 n0 cells slots x.1 x.2.1 x.2.2.1 x.2.2.2) : am_W D ca B0 E L0 xs p l e R s m args below meth c y Q r0 ks0 n0 cells slots pc L st M := by
  obtain ⟨hx, hb, hml, hown, hts, hlk, hrt, hin, hK, hS0, hS2, hB0, hE, hst, het⟩ := C
  have hn : nx = pc + 2 := by simpa [am_ok1, am_len] using ho
  subst hn
  rw [Nat.add_sub_cancel_left] at hd
  simp only [am_stp] at hs
  cases hv : am_nth L j with
  | none => rw [hv] at hs; cases hs
  | some v =>
    rw [hv] at hs
    cases v <;> first | (cases hs; done) | skip
    rename_i v
    cases hs
    intro r ks H locs ls st1 he hR hV hl hL hk
    refine lv_fload hx hb hd (hL.2.2 _ _ hv).1 ?_
    exact k r ks H locs ls _ he hR hV hl hL (am_Sk_cons (hL.2.2 _ _ hv).2 hk)
theorem am_s_dload {j : Nat} (C : am_X D ca B0 E L0 xs l p s m args meth c y) (hd : decode (am_b y) pc = .ok (.dload j, nx - pc)) (ho : am_ok1 (.dload j) pc nx tg = true) (hs : am_stp y (.dload j) pc nx tg L st M = some x) (k : am_W D ca B0 E L0 xs p l e R s m args below meth c y Q r0 ks0 n0 cells slots x.1 x.2.1 x.2.2.1 x.2.2.2) : am_W D ca B0 E L0 xs p l e R s m args below meth c y Q r0 ks0 n0 cells slots pc L st M := by
  obtain ⟨hx, hb, hml, hown, hts, hlk, hrt, hin, hK, hS0, hS2, hB0, hE, hst, het⟩ := C
  have hn : nx = pc + 2 := by simpa [am_ok1, am_len] using ho
  subst hn
  rw [Nat.add_sub_cancel_left] at hd
  simp only [am_stp] at hs
  cases hv : am_nth L j with
  | none => rw [hv] at hs; cases hs
  | some v =>
    rw [hv] at hs
    cases v <;> first | (cases hs; done) | skip
    rename_i v
    cases hs
    intro r ks H locs ls st1 he hR hV hl hL hk
    refine lv_dload hx hb hd (hL.2.2 _ _ hv).1 ?_
    exact k r ks H locs ls _ he hR hV hl hL (am_Sk_cons (hL.2.2 _ _ hv).2 hk)
theorem am_s_lload_n {j : Fin 4} (C : am_X D ca B0 E L0 xs l p s m args meth c y) (hd : decode (am_b y) pc = .ok (.lload_n j, nx - pc)) (ho : am_ok1 (.lload_n j) pc nx tg = true) (hs : am_stp y (.lload_n j) pc nx tg L st M = some x) (k : am_W D ca B0 E L0 xs p l e R s m args below meth c y Q r0 ks0 n0 cells slots x.1 x.2.1 x.2.2.1 x.2.2.2) : am_W D ca B0 E L0 xs p l e R s m args below meth c y Q r0 ks0 n0 cells slots pc L st M := by
  obtain ⟨hx, hb, hml, hown, hts, hlk, hrt, hin, hK, hS0, hS2, hB0, hE, hst, het⟩ := C
  have hn : nx = pc + 1 := by simpa [am_ok1, am_len] using ho
  subst hn
  rw [Nat.add_sub_cancel_left] at hd
  simp only [am_stp] at hs
  cases hv : am_nth L j.val with
  | none => rw [hv] at hs; cases hs
  | some v =>
    rw [hv] at hs
    cases v <;> first | (cases hs; done) | skip
    rename_i v
    cases hs
    intro r ks H locs ls st1 he hR hV hl hL hk
    refine lv_lload_n hx hb hd rfl (hL.2.2 _ _ hv).1 ?_
    exact k r ks H locs ls _ he hR hV hl hL (am_Sk_cons (hL.2.2 _ _ hv).2 hk)
theorem am_s_lload {j : Nat} (C : am_X D ca B0 E L0 xs l p s m args meth c y) (hd : decode (am_b y) pc = .ok (.lload j, nx - pc)) (ho : am_ok1 (.lload j) pc nx tg = true) (hs : am_stp y (.lload j) pc nx tg L st M = some x) (k : am_W D ca B0 E L0 xs p l e R s m args below meth c y Q r0 ks0 n0 cells slots x.1 x.2.1 x.2.2.1 x.2.2.2) : am_W D ca B0 E L0 xs p l e R s m args below meth c y Q r0 ks0 n0 cells slots pc L st M := by
  obtain ⟨hx, hb, hml, hown, hts, hlk, hrt, hin, hK, hS0, hS2, hB0, hE, hst, het⟩ := C
  have hn : nx = pc + 2 := by simpa [am_ok1, am_len] using ho
  subst hn
  rw [Nat.add_sub_cancel_left] at hd
  simp only [am_stp] at hs
  cases hv : am_nth L j with
  | none => rw [hv] at hs; cases hs
  | some v =>
    rw [hv] at hs
    cases v <;> first | (cases hs; done) | skip
    rename_i v
    cases hs
    intro r ks H locs ls st1 he hR hV hl hL hk
    refine lv_lload hx hb hd (hL.2.2 _ _ hv).1 ?_
    exact k r ks H locs ls _ he hR hV hl hL (am_Sk_cons (hL.2.2 _ _ hv).2 hk)
theorem am_s_aload_n {j : Fin 4} (C : am_X D ca B0 E L0 xs l p s m args meth c y) (hd : decode (am_b y) pc = .ok (.aload_n j, nx - pc)) (ho : am_ok1 (.aload_n j) pc nx tg = true) (hs : am_stp y (.aload_n j) pc nx tg L st M = some x) (k : am_W D ca B0 E L0 xs p l e R s m args below meth c y Q r0 ks0 n0 cells slots x.1 x.2.1 x.2.2.1 x.2.2.2) : am_W D ca B0 E L0 xs p l e R s m args below meth c y Q r0 ks0 n0 cells slots pc L st M := by
  obtain ⟨hx, hb, hml, hown, hts, hlk, hrt, hin, hK, hS0, hS2, hB0, hE, hst, het⟩ := C
  have hn : nx = pc + 1 := by simpa [am_ok1, am_len] using ho
  subst hn
  rw [Nat.add_sub_cancel_left] at hd
  simp only [am_stp] at hs
  cases hv : am_nth L j.val with
  | none => rw [hv] at hs; cases hs
  | some v =>
    rw [hv] at hs
    cases v <;> first | (cases hs; done) | skip
    · cases hs
      intro r ks H locs ls st1 he hR hV hl hL hk
      refine lv_aload_nN hx hb hd rfl (hL.2.2 _ _ hv).1 ?_
      exact k r ks H locs ls _ he hR hV hl hL (am_Sk_cons (hL.2.2 _ _ hv).2 hk)
    · cases hs
      intro r ks H locs ls st1 he hR hV hl hL hk
      refine lv_aload_n hx hb hd rfl (hL.2.2 _ _ hv).1 ?_
      exact k r ks H locs ls _ he hR hV hl hL (am_Sk_cons (hL.2.2 _ _ hv).2 hk)
theorem am_s_aload {j : Nat} (C : am_X D ca B0 E L0 xs l p s m args meth c y) (hd : decode (am_b y) pc = .ok (.aload j, nx - pc)) (ho : am_ok1 (.aload j) pc nx tg = true) (hs : am_stp y (.aload j) pc nx tg L st M = some x) (k : am_W D ca B0 E L0 xs p l e R s m args below meth c y Q r0 ks0 n0 cells slots x.1 x.2.1 x.2.2.1 x.2.2.2) : am_W D ca B0 E L0 xs p l e R s m args below meth c y Q r0 ks0 n0 cells slots pc L st M := by
  obtain ⟨hx, hb, hml, hown, hts, hlk, hrt, hin, hK, hS0, hS2, hB0, hE, hst, het⟩ := C
  have hn : nx = pc + 2 := by simpa [am_ok1, am_len] using ho
  subst hn
  rw [Nat.add_sub_cancel_left] at hd
  simp only [am_stp] at hs
  cases hv : am_nth L j with
  | none => rw [hv] at hs; cases hs
  | some v =>
    rw [hv] at hs
    cases v <;> first | (cases hs; done) | skip
    · cases hs
      intro r ks H locs ls st1 he hR hV hl hL hk
      refine lv_aloadN hx hb hd (hL.2.2 _ _ hv).1 ?_
      exact k r ks H locs ls _ he hR hV hl hL (am_Sk_cons (hL.2.2 _ _ hv).2 hk)
    · cases hs
      intro r ks H locs ls st1 he hR hV hl hL hk
      refine lv_aload hx hb hd (hL.2.2 _ _ hv).1 ?_
      exact k r ks H locs ls _ he hR hV hl hL (am_Sk_cons (hL.2.2 _ _ hv).2 hk)
theorem am_s_istore_n {j : Fin 4} (C : am_X D ca B0 E L0 xs l p s m args meth c y) (hd : decode (am_b y) pc = .ok (.istore_n j, nx - pc)) (ho : am_ok1 (.istore_n j) pc nx tg = true) (hs : am_stp y (.istore_n j) pc nx tg L st M = some x) (k : am_W D ca B0 E L0 xs p l e R s m args below meth c y Q r0 ks0 n0 cells slots x.1 x.2.1 x.2.2.1 x.2.2.2) : am_W D ca B0 E L0 xs p l e R s m args below meth c y Q r0 ks0 n0 cells slots pc L st M := by
  obtain ⟨hx, hb, hml, hown, hts, hlk, hrt, hin, hK, hS0, hS2, hB0, hE, hst, het⟩ := C
  have hn : nx = pc + 1 := by simpa [am_ok1, am_len] using ho
  subst hn
  rw [Nat.add_sub_cancel_left] at hd
  simp only [am_stp] at hs
  obtain ⟨v, t, rfl, hs⟩ := am_i1_inv hs
  obtain ⟨L1, hp, hs⟩ := am_of_inv hs
  cases hs
  intro r ks H locs ls st1 he hR hV hl hL hk
  obtain ⟨st2, rfl, -, hk⟩ := am_Sk_tl hk
  have hq := am_put_spec _ _ _ _ hp
  refine lv_istore_n hx hb hd rfl (am_Lo_has hL) hq.2.1 rfl fun ls1 h1 => ?_
  exact k r ks H locs ls1 _ he hR hV (hq.1.trans hl) (am_Lo_put (v := .int v) hL hp (am_vok_int _) h1) hk
theorem am_s_istore {j : Nat} (C : am_X D ca B0 E L0 xs l p s m args meth c y) (hd : decode (am_b y) pc = .ok (.istore j, nx - pc)) (ho : am_ok1 (.istore j) pc nx tg = true) (hs : am_stp y (.istore j) pc nx tg L st M = some x) (k : am_W D ca B0 E L0 xs p l e R s m args below meth c y Q r0 ks0 n0 cells slots x.1 x.2.1 x.2.2.1 x.2.2.2) : am_W D ca B0 E L0 xs p l e R s m args below meth c y Q r0 ks0 n0 cells slots pc L st M := by
  obtain ⟨hx, hb, hml, hown, hts, hlk, hrt, hin, hK, hS0, hS2, hB0, hE, hst, het⟩ := C
  have hn : nx = pc + 2 := by simpa [am_ok1, am_len] using ho
  subst hn
  rw [Nat.add_sub_cancel_left] at hd
  simp only [am_stp] at hs
  obtain ⟨v, t, rfl, hs⟩ := am_i1_inv hs
  obtain ⟨L1, hp, hs⟩ := am_of_inv hs
  cases hs
  intro r ks H locs ls st1 he hR hV hl hL hk
  obtain ⟨st2, rfl, -, hk⟩ := am_Sk_tl hk
  have hq := am_put_spec _ _ _ _ hp
  refine lv_istore hx hb hd (am_Lo_has hL) hq.2.1 rfl fun ls1 h1 => ?_
  exact k r ks H locs ls1 _ he hR hV (hq.1.trans hl) (am_Lo_put (v := .int v) hL hp (am_vok_int _) h1) hk
theorem am_s_fstore {j : Nat} (C : am_X D ca B0 E L0 xs l p s m args meth c y) (hd : decode (am_b y) pc = .ok (.fstore j, nx - pc)) (ho : am_ok1 (.fstore j) pc nx tg = true) (hs : am_stp y (.fstore j) pc nx tg L st M = some x) (k : am_W D ca B0 E L0 xs p l e R s m args below meth c y Q r0 ks0 n0 cells slots x.1 x.2.1 x.2.2.1 x.2.2.2) : am_W D ca B0 E L0 xs p l e R s m args below meth c y Q r0 ks0 n0 cells slots pc L st M := by
  obtain ⟨hx, hb, hml, hown, hts, hlk, hrt, hin, hK, hS0, hS2, hB0, hE, hst, het⟩ := C
  have hn : nx = pc + 2 := by simpa [am_ok1, am_len] using ho
  subst hn
  rw [Nat.add_sub_cancel_left] at hd
  simp only [am_stp] at hs
  split at hs
  · rename_i v t
    obtain ⟨L1, hp, hs⟩ := am_of_inv hs
    cases hs
    intro r ks H locs ls st1 he hR hV hl hL hk
    obtain ⟨st2, rfl, -, hk⟩ := am_Sk_tl hk
    have hq := am_put_spec _ _ _ _ hp
    refine lv_fstore hx hb hd (am_Lo_has hL) hq.2.1 rfl fun ls1 h1 => ?_
    exact k r ks H locs ls1 _ he hR hV (hq.1.trans hl) (am_Lo_put (v := .float v) hL hp (fun _ h => by cases h) h1) hk
  · cases hs
theorem am_s_dstore {j : Nat} (C : am_X D ca B0 E L0 xs l p s m args meth c y) (hd : decode (am_b y) pc = .ok (.dstore j, nx - pc)) (ho : am_ok1 (.dstore j) pc nx tg = true) (hs : am_stp y (.dstore j) pc nx tg L st M = some x) (k : am_W D ca B0 E L0 xs p l e R s m args below meth c y Q r0 ks0 n0 cells slots x.1 x.2.1 x.2.2.1 x.2.2.2) : am_W D ca B0 E L0 xs p l e R s m args below meth c y Q r0 ks0 n0 cells slots pc L st M := by
  obtain ⟨hx, hb, hml, hown, hts, hlk, hrt, hin, hK, hS0, hS2, hB0, hE, hst, het⟩ := C
  have hn : nx = pc + 2 := by simpa [am_ok1, am_len] using ho
  subst hn
  rw [Nat.add_sub_cancel_left] at hd
  simp only [am_stp] at hs
  split at hs
  · rename_i v t
    obtain ⟨L1, hp, hs⟩ := am_of_inv hs
    cases hs
    intro r ks H locs ls st1 he hR hV hl hL hk
    obtain ⟨st2, rfl, -, hk⟩ := am_Sk_tl hk
    have hq := am_put2_spec _ _ _ _ hp
    refine lv_dstore hx hb hd (am_Lo_has hL) hq.2.1 rfl fun ls1 h1 => ?_
    exact k r ks H locs ls1 _ he hR hV (hq.1.trans hl) (am_Lo_put2 (v := .double v) hL hp (fun _ h => by cases h) h1) hk
  · cases hs
theorem am_s_lstore_n {j : Fin 4} (C : am_X D ca B0 E L0 xs l p s m args meth c y) (hd : decode (am_b y) pc = .ok (.lstore_n j, nx - pc)) (ho : am_ok1 (.lstore_n j) pc nx tg = true) (hs : am_stp y (.lstore_n j) pc nx tg L st M = some x) (k : am_W D ca B0 E L0 xs p l e R s m args below meth c y Q r0 ks0 n0 cells slots x.1 x.2.1 x.2.2.1 x.2.2.2) : am_W D ca B0 E L0 xs p l e R s m args below meth c y Q r0 ks0 n0 cells slots pc L st M := by
  obtain ⟨hx, hb, hml, hown, hts, hlk, hrt, hin, hK, hS0, hS2, hB0, hE, hst, het⟩ := C
  have hn : nx = pc + 1 := by simpa [am_ok1, am_len] using ho
  subst hn
  rw [Nat.add_sub_cancel_left] at hd
  simp only [am_stp] at hs
  split at hs
  · rename_i v t
    obtain ⟨L1, hp, hs⟩ := am_of_inv hs
    cases hs
    intro r ks H locs ls st1 he hR hV hl hL hk
    obtain ⟨st2, rfl, -, hk⟩ := am_Sk_tl hk
    have hq := am_put2_spec _ _ _ _ hp
    refine lv_lstore_n hx hb hd rfl (am_Lo_has hL) hq.2.1 rfl fun ls1 h1 => ?_
    exact k r ks H locs ls1 _ he hR hV (hq.1.trans hl) (am_Lo_put2 (v := .long v) hL hp (fun _ h => by cases h) h1) hk
  · cases hs
theorem am_s_lstore {j : Nat} (C : am_X D ca B0 E L0 xs l p s m args meth c y) (hd : decode (am_b y) pc = .ok (.lstore j, nx - pc)) (ho : am_ok1 (.lstore j) pc nx tg = true) (hs : am_stp y (.lstore j) pc nx tg L st M = some x) (k : am_W D ca B0 E L0 xs p l e R s m args below meth c y Q r0 ks0 n0 cells slots x.1 x.2.1 x.2.2.1 x.2.2.2) : am_W D ca B0 E L0 xs p l e R s m args below meth c y Q r0 ks0 n0 cells slots pc L st M := by
  obtain ⟨hx, hb, hml, hown, hts, hlk, hrt, hin, hK, hS0, hS2, hB0, hE, hst, het⟩ := C
  have hn : nx = pc + 2 := by simpa [am_ok1, am_len] using ho
  subst hn
  rw [Nat.add_sub_cancel_left] at hd
  simp only [am_stp] at hs
  split at hs
  · rename_i v t
    obtain ⟨L1, hp, hs⟩ := am_of_inv hs
    cases hs
    intro r ks H locs ls st1 he hR hV hl hL hk
    obtain ⟨st2, rfl, -, hk⟩ := am_Sk_tl hk
    have hq := am_put2_spec _ _ _ _ hp
    refine lv_lstore hx hb hd (am_Lo_has hL) hq.2.1 rfl fun ls1 h1 => ?_
    exact k r ks H locs ls1 _ he hR hV (hq.1.trans hl) (am_Lo_put2 (v := .long v) hL hp (fun _ h => by cases h) h1) hk
  · cases hs
theorem am_s_ladd  (C : am_X D ca B0 E L0 xs l p s m args meth c y) (hd : decode (am_b y) pc = .ok (.ladd, nx - pc)) (ho : am_ok1 (.ladd) pc nx tg = true) (hs : am_stp y (.ladd) pc nx tg L st M = some x) (k : am_W D ca B0 E L0 xs p l e R s m args below meth c y Q r0 ks0 n0 cells slots x.1 x.2.1 x.2.2.1 x.2.2.2) : am_W D ca B0 E L0 xs p l e R s m args below meth c y Q r0 ks0 n0 cells slots pc L st M := by
  obtain ⟨hx, hb, hml, hown, hts, hlk, hrt, hin, hK, hS0, hS2, hB0, hE, hst, het⟩ := C
  have hn : nx = pc + 1 := by simpa [am_ok1, am_len] using ho
  subst hn
  rw [Nat.add_sub_cancel_left] at hd
  simp only [am_stp] at hs
  split at hs
  · cases hs
    intro r ks H locs ls st1 he hR hV hl hL hk
    obtain ⟨st2, rfl, -, hk⟩ := am_Sk_tl hk
    obtain ⟨st3, rfl, -, hk⟩ := am_Sk_tl hk
    refine lv_ladd hx hb hd ?_
    exact k r ks H locs ls _ he hR hV hl hL (am_Sk_cons (fun _ h => by cases h) hk)
  · cases hs
theorem am_s_lmul  (C : am_X D ca B0 E L0 xs l p s m args meth c y) (hd : decode (am_b y) pc = .ok (.lmul, nx - pc)) (ho : am_ok1 (.lmul) pc nx tg = true) (hs : am_stp y (.lmul) pc nx tg L st M = some x) (k : am_W D ca B0 E L0 xs p l e R s m args below meth c y Q r0 ks0 n0 cells slots x.1 x.2.1 x.2.2.1 x.2.2.2) : am_W D ca B0 E L0 xs p l e R s m args below meth c y Q r0 ks0 n0 cells slots pc L st M := by
  obtain ⟨hx, hb, hml, hown, hts, hlk, hrt, hin, hK, hS0, hS2, hB0, hE, hst, het⟩ := C
  have hn : nx = pc + 1 := by simpa [am_ok1, am_len] using ho
  subst hn
  rw [Nat.add_sub_cancel_left] at hd
  simp only [am_stp] at hs
  split at hs
  · cases hs
    intro r ks H locs ls st1 he hR hV hl hL hk
    obtain ⟨st2, rfl, -, hk⟩ := am_Sk_tl hk
    obtain ⟨st3, rfl, -, hk⟩ := am_Sk_tl hk
    refine lv_lmul hx hb hd ?_
    exact k r ks H locs ls _ he hR hV hl hL (am_Sk_cons (fun _ h => by cases h) hk)
  · cases hs
theorem am_s_astore_n {j : Fin 4} (C : am_X D ca B0 E L0 xs l p s m args meth c y) (hd : decode (am_b y) pc = .ok (.astore_n j, nx - pc)) (ho : am_ok1 (.astore_n j) pc nx tg = true) (hs : am_stp y (.astore_n j) pc nx tg L st M = some x) (k : am_W D ca B0 E L0 xs p l e R s m args below meth c y Q r0 ks0 n0 cells slots x.1 x.2.1 x.2.2.1 x.2.2.2) : am_W D ca B0 E L0 xs p l e R s m args below meth c y Q r0 ks0 n0 cells slots pc L st M := by
  obtain ⟨hx, hb, hml, hown, hts, hlk, hrt, hin, hK, hS0, hS2, hB0, hE, hst, het⟩ := C
  have hn : nx = pc + 1 := by simpa [am_ok1, am_len] using ho
  subst hn
  rw [Nat.add_sub_cancel_left] at hd
  simp only [am_stp] at hs
  split at hs
  · obtain ⟨L1, hp, hs⟩ := am_of_inv hs
    cases hs
    intro r ks H locs ls st1 he hR hV hl hL hk
    obtain ⟨st2, rfl, hvk, hk⟩ := am_Sk_tl hk
    have hq := am_put_spec _ _ _ _ hp
    refine lv_astore_n hx hb hd rfl (am_Lo_has hL) hq.2.1 rfl fun ls1 h1 => ?_
    exact k r ks H locs ls1 _ he hR hV (hq.1.trans hl) (am_Lo_put hL hp hvk h1) hk
  · obtain ⟨L1, hp, hs⟩ := am_of_inv hs
    cases hs
    intro r ks H locs ls st1 he hR hV hl hL hk
    obtain ⟨st2, rfl, hvk, hk⟩ := am_Sk_tl hk
    have hq := am_put_spec _ _ _ _ hp
    refine lv_astore_nN hx hb hd rfl (am_Lo_has hL) hq.2.1 rfl fun ls1 h1 => ?_
    exact k r ks H locs ls1 _ he hR hV (hq.1.trans hl) (am_Lo_put hL hp hvk h1) hk
  · cases hs
theorem am_s_astore {j : Nat} (C : am_X D ca B0 E L0 xs l p s m args meth c y) (hd : decode (am_b y) pc = .ok (.astore j, nx - pc)) (ho : am_ok1 (.astore j) pc nx tg = true) (hs : am_stp y (.astore j) pc nx tg L st M = some x) (k : am_W D ca B0 E L0 xs p l e R s m args below meth c y Q r0 ks0 n0 cells slots x.1 x.2.1 x.2.2.1 x.2.2.2) : am_W D ca B0 E L0 xs p l e R s m args below meth c y Q r0 ks0 n0 cells slots pc L st M := by
  obtain ⟨hx, hb, hml, hown, hts, hlk, hrt, hin, hK, hS0, hS2, hB0, hE, hst, het⟩ := C
  have hn : nx = pc + 2 := by simpa [am_ok1, am_len] using ho
  subst hn
  rw [Nat.add_sub_cancel_left] at hd
  simp only [am_stp] at hs
  split at hs
  · obtain ⟨L1, hp, hs⟩ := am_of_inv hs
    cases hs
    intro r ks H locs ls st1 he hR hV hl hL hk
    obtain ⟨st2, rfl, hvk, hk⟩ := am_Sk_tl hk
    have hq := am_put_spec _ _ _ _ hp
    refine lv_astore hx hb hd (am_Lo_has hL) hq.2.1 rfl fun ls1 h1 => ?_
    exact k r ks H locs ls1 _ he hR hV (hq.1.trans hl) (am_Lo_put hL hp hvk h1) hk
  · obtain ⟨L1, hp, hs⟩ := am_of_inv hs
    cases hs
    intro r ks H locs ls st1 he hR hV hl hL hk
    obtain ⟨st2, rfl, hvk, hk⟩ := am_Sk_tl hk
    have hq := am_put_spec _ _ _ _ hp
    refine lv_astoreN hx hb hd (am_Lo_has hL) hq.2.1 rfl fun ls1 h1 => ?_
    exact k r ks H locs ls1 _ he hR hV (hq.1.trans hl) (am_Lo_put hL hp hvk h1) hk
  · cases hs
theorem am_s_iinc {j : Nat} {n : Int} (C : am_X D ca B0 E L0 xs l p s m args meth c y) (hd : decode (am_b y) pc = .ok (.iinc j n, nx - pc)) (ho : am_ok1 (.iinc j n) pc nx tg = true) (hs : am_stp y (.iinc j n) pc nx tg L st M = some x) (k : am_W D ca B0 E L0 xs p l e R s m args below meth c y Q r0 ks0 n0 cells slots x.1 x.2.1 x.2.2.1 x.2.2.2) : am_W D ca B0 E L0 xs p l e R s m args below meth c y Q r0 ks0 n0 cells slots pc L st M := by
  obtain ⟨hx, hb, hml, hown, hts, hlk, hrt, hin, hK, hS0, hS2, hB0, hE, hst, het⟩ := C
  have hn : nx = pc + 3 := by simpa [am_ok1, am_len] using ho
  subst hn
  rw [Nat.add_sub_cancel_left] at hd
  simp only [am_stp] at hs
  cases hv : am_nth L j with
  | none => rw [hv] at hs; cases hs
  | some v =>
    rw [hv] at hs
    cases v <;> first | (cases hs; done) | skip
    rename_i v
    obtain ⟨L1, hp, hs⟩ := am_of_inv hs
    cases hs
    intro r ks H locs ls st1 he hR hV hl hL hk
    have hq := am_put_spec _ _ _ _ hp
    obtain ⟨j1, hj1⟩ := List.getElem?_of_mem (am_ll_mem.mpr ⟨_, hv, rfl⟩)
    refine lv_iinc hx hb hd (am_Lo_has hL) hj1 rfl hq.2.1 rfl fun ls1 h1 => ?_
    exact k r ks H locs ls1 _ he hR hV (hq.1.trans hl) (am_Lo_put (v := .int (v + Int32.ofInt n)) hL hp (am_vok_int _) h1) hk
theorem am_s_iadd  (C : am_X D ca B0 E L0 xs l p s m args meth c y) (hd : decode (am_b y) pc = .ok (.iadd, nx - pc)) (ho : am_ok1 (.iadd) pc nx tg = true) (hs : am_stp y (.iadd) pc nx tg L st M = some x) (k : am_W D ca B0 E L0 xs p l e R s m args below meth c y Q r0 ks0 n0 cells slots x.1 x.2.1 x.2.2.1 x.2.2.2) : am_W D ca B0 E L0 xs p l e R s m args below meth c y Q r0 ks0 n0 cells slots pc L st M := by
  obtain ⟨hx, hb, hml, hown, hts, hlk, hrt, hin, hK, hS0, hS2, hB0, hE, hst, het⟩ := C
  have hn : nx = pc + 1 := by simpa [am_ok1, am_len] using ho
  subst hn
  rw [Nat.add_sub_cancel_left] at hd
  simp only [am_stp] at hs
  obtain ⟨v2, v1, t, rfl, hs⟩ := am_i2_inv hs
  cases hs
  intro r ks H locs ls st1 he hR hV hl hL hk
  obtain ⟨st2, rfl, -, hk⟩ := am_Sk_tl hk
  obtain ⟨st3, rfl, -, hk⟩ := am_Sk_tl hk
  refine lv_iadd hx hb hd ?_
  exact k r ks H locs ls _ he hR hV hl hL (am_Sk_cons (am_vok_int _) hk)
theorem am_s_isub  (C : am_X D ca B0 E L0 xs l p s m args meth c y) (hd : decode (am_b y) pc = .ok (.isub, nx - pc)) (ho : am_ok1 (.isub) pc nx tg = true) (hs : am_stp y (.isub) pc nx tg L st M = some x) (k : am_W D ca B0 E L0 xs p l e R s m args below meth c y Q r0 ks0 n0 cells slots x.1 x.2.1 x.2.2.1 x.2.2.2) : am_W D ca B0 E L0 xs p l e R s m args below meth c y Q r0 ks0 n0 cells slots pc L st M := by
  obtain ⟨hx, hb, hml, hown, hts, hlk, hrt, hin, hK, hS0, hS2, hB0, hE, hst, het⟩ := C
  have hn : nx = pc + 1 := by simpa [am_ok1, am_len] using ho
  subst hn
  rw [Nat.add_sub_cancel_left] at hd
  simp only [am_stp] at hs
  obtain ⟨v2, v1, t, rfl, hs⟩ := am_i2_inv hs
  cases hs
  intro r ks H locs ls st1 he hR hV hl hL hk
  obtain ⟨st2, rfl, -, hk⟩ := am_Sk_tl hk
  obtain ⟨st3, rfl, -, hk⟩ := am_Sk_tl hk
  refine lv_isub hx hb hd ?_
  exact k r ks H locs ls _ he hR hV hl hL (am_Sk_cons (am_vok_int _) hk)
theorem am_s_imul  (C : am_X D ca B0 E L0 xs l p s m args meth c y) (hd : decode (am_b y) pc = .ok (.imul, nx - pc)) (ho : am_ok1 (.imul) pc nx tg = true) (hs : am_stp y (.imul) pc nx tg L st M = some x) (k : am_W D ca B0 E L0 xs p l e R s m args below meth c y Q r0 ks0 n0 cells slots x.1 x.2.1 x.2.2.1 x.2.2.2) : am_W D ca B0 E L0 xs p l e R s m args below meth c y Q r0 ks0 n0 cells slots pc L st M := by
  obtain ⟨hx, hb, hml, hown, hts, hlk, hrt, hin, hK, hS0, hS2, hB0, hE, hst, het⟩ := C
  have hn : nx = pc + 1 := by simpa [am_ok1, am_len] using ho
  subst hn
  rw [Nat.add_sub_cancel_left] at hd
  simp only [am_stp] at hs
  obtain ⟨v2, v1, t, rfl, hs⟩ := am_i2_inv hs
  cases hs
  intro r ks H locs ls st1 he hR hV hl hL hk
  obtain ⟨st2, rfl, -, hk⟩ := am_Sk_tl hk
  obtain ⟨st3, rfl, -, hk⟩ := am_Sk_tl hk
  refine lv_imul hx hb hd ?_
  exact k r ks H locs ls _ he hR hV hl hL (am_Sk_cons (am_vok_int _) hk)
theorem am_s_iand  (C : am_X D ca B0 E L0 xs l p s m args meth c y) (hd : decode (am_b y) pc = .ok (.iand, nx - pc)) (ho : am_ok1 (.iand) pc nx tg = true) (hs : am_stp y (.iand) pc nx tg L st M = some x) (k : am_W D ca B0 E L0 xs p l e R s m args below meth c y Q r0 ks0 n0 cells slots x.1 x.2.1 x.2.2.1 x.2.2.2) : am_W D ca B0 E L0 xs p l e R s m args below meth c y Q r0 ks0 n0 cells slots pc L st M := by
  obtain ⟨hx, hb, hml, hown, hts, hlk, hrt, hin, hK, hS0, hS2, hB0, hE, hst, het⟩ := C
  have hn : nx = pc + 1 := by simpa [am_ok1, am_len] using ho
  subst hn
  rw [Nat.add_sub_cancel_left] at hd
  simp only [am_stp] at hs
  obtain ⟨v2, v1, t, rfl, hs⟩ := am_i2_inv hs
  cases hs
  intro r ks H locs ls st1 he hR hV hl hL hk
  obtain ⟨st2, rfl, -, hk⟩ := am_Sk_tl hk
  obtain ⟨st3, rfl, -, hk⟩ := am_Sk_tl hk
  refine lv_iand hx hb hd ?_
  exact k r ks H locs ls _ he hR hV hl hL (am_Sk_cons (am_vok_int _) hk)
theorem am_s_ior  (C : am_X D ca B0 E L0 xs l p s m args meth c y) (hd : decode (am_b y) pc = .ok (.ior, nx - pc)) (ho : am_ok1 (.ior) pc nx tg = true) (hs : am_stp y (.ior) pc nx tg L st M = some x) (k : am_W D ca B0 E L0 xs p l e R s m args below meth c y Q r0 ks0 n0 cells slots x.1 x.2.1 x.2.2.1 x.2.2.2) : am_W D ca B0 E L0 xs p l e R s m args below meth c y Q r0 ks0 n0 cells slots pc L st M := by
  obtain ⟨hx, hb, hml, hown, hts, hlk, hrt, hin, hK, hS0, hS2, hB0, hE, hst, het⟩ := C
  have hn : nx = pc + 1 := by simpa [am_ok1, am_len] using ho
  subst hn
  rw [Nat.add_sub_cancel_left] at hd
  simp only [am_stp] at hs
  obtain ⟨v2, v1, t, rfl, hs⟩ := am_i2_inv hs
  cases hs
  intro r ks H locs ls st1 he hR hV hl hL hk
  obtain ⟨st2, rfl, -, hk⟩ := am_Sk_tl hk
  obtain ⟨st3, rfl, -, hk⟩ := am_Sk_tl hk
  refine lv_ior hx hb hd ?_
  exact k r ks H locs ls _ he hR hV hl hL (am_Sk_cons (am_vok_int _) hk)
theorem am_s_ishl  (C : am_X D ca B0 E L0 xs l p s m args meth c y) (hd : decode (am_b y) pc = .ok (.ishl, nx - pc)) (ho : am_ok1 (.ishl) pc nx tg = true) (hs : am_stp y (.ishl) pc nx tg L st M = some x) (k : am_W D ca B0 E L0 xs p l e R s m args below meth c y Q r0 ks0 n0 cells slots x.1 x.2.1 x.2.2.1 x.2.2.2) : am_W D ca B0 E L0 xs p l e R s m args below meth c y Q r0 ks0 n0 cells slots pc L st M := by
  obtain ⟨hx, hb, hml, hown, hts, hlk, hrt, hin, hK, hS0, hS2, hB0, hE, hst, het⟩ := C
  have hn : nx = pc + 1 := by simpa [am_ok1, am_len] using ho
  subst hn
  rw [Nat.add_sub_cancel_left] at hd
  simp only [am_stp] at hs
  obtain ⟨v2, v1, t, rfl, hs⟩ := am_i2_inv hs
  cases hs
  intro r ks H locs ls st1 he hR hV hl hL hk
  obtain ⟨st2, rfl, -, hk⟩ := am_Sk_tl hk
  obtain ⟨st3, rfl, -, hk⟩ := am_Sk_tl hk
  refine lv_ishl hx hb hd ?_
  exact k r ks H locs ls _ he hR hV hl hL (am_Sk_cons (am_vok_int _) hk)
theorem am_s_ishr  (C : am_X D ca B0 E L0 xs l p s m args meth c y) (hd : decode (am_b y) pc = .ok (.ishr, nx - pc)) (ho : am_ok1 (.ishr) pc nx tg = true) (hs : am_stp y (.ishr) pc nx tg L st M = some x) (k : am_W D ca B0 E L0 xs p l e R s m args below meth c y Q r0 ks0 n0 cells slots x.1 x.2.1 x.2.2.1 x.2.2.2) : am_W D ca B0 E L0 xs p l e R s m args below meth c y Q r0 ks0 n0 cells slots pc L st M := by
  obtain ⟨hx, hb, hml, hown, hts, hlk, hrt, hin, hK, hS0, hS2, hB0, hE, hst, het⟩ := C
  have hn : nx = pc + 1 := by simpa [am_ok1, am_len] using ho
  subst hn
  rw [Nat.add_sub_cancel_left] at hd
  simp only [am_stp] at hs
  obtain ⟨v2, v1, t, rfl, hs⟩ := am_i2_inv hs
  cases hs
  intro r ks H locs ls st1 he hR hV hl hL hk
  obtain ⟨st2, rfl, -, hk⟩ := am_Sk_tl hk
  obtain ⟨st3, rfl, -, hk⟩ := am_Sk_tl hk
  refine lv_ishr hx hb hd ?_
  exact k r ks H locs ls _ he hR hV hl hL (am_Sk_cons (am_vok_int _) hk)
theorem am_s_iushr  (C : am_X D ca B0 E L0 xs l p s m args meth c y) (hd : decode (am_b y) pc = .ok (.iushr, nx - pc)) (ho : am_ok1 (.iushr) pc nx tg = true) (hs : am_stp y (.iushr) pc nx tg L st M = some x) (k : am_W D ca B0 E L0 xs p l e R s m args below meth c y Q r0 ks0 n0 cells slots x.1 x.2.1 x.2.2.1 x.2.2.2) : am_W D ca B0 E L0 xs p l e R s m args below meth c y Q r0 ks0 n0 cells slots pc L st M := by
  obtain ⟨hx, hb, hml, hown, hts, hlk, hrt, hin, hK, hS0, hS2, hB0, hE, hst, het⟩ := C
  have hn : nx = pc + 1 := by simpa [am_ok1, am_len] using ho
  subst hn
  rw [Nat.add_sub_cancel_left] at hd
  simp only [am_stp] at hs
  obtain ⟨v2, v1, t, rfl, hs⟩ := am_i2_inv hs
  cases hs
  intro r ks H locs ls st1 he hR hV hl hL hk
  obtain ⟨st2, rfl, -, hk⟩ := am_Sk_tl hk
  obtain ⟨st3, rfl, -, hk⟩ := am_Sk_tl hk
  refine lv_iushr hx hb hd rfl ?_
  exact k r ks H locs ls _ he hR hV hl hL (am_Sk_cons (am_vok_int _) hk)
theorem am_s_idiv  (C : am_X D ca B0 E L0 xs l p s m args meth c y) (hd : decode (am_b y) pc = .ok (.idiv, nx - pc)) (ho : am_ok1 (.idiv) pc nx tg = true) (hs : am_stp y (.idiv) pc nx tg L st M = some x) (k : am_W D ca B0 E L0 xs p l e R s m args below meth c y Q r0 ks0 n0 cells slots x.1 x.2.1 x.2.2.1 x.2.2.2) : am_W D ca B0 E L0 xs p l e R s m args below meth c y Q r0 ks0 n0 cells slots pc L st M := by
  obtain ⟨hx, hb, hml, hown, hts, hlk, hrt, hin, hK, hS0, hS2, hB0, hE, hst, het⟩ := C
  have hn : nx = pc + 1 := by simpa [am_ok1, am_len] using ho
  subst hn
  rw [Nat.add_sub_cancel_left] at hd
  simp only [am_stp] at hs
  obtain ⟨v2, v1, t, e0, h9⟩ := am_i2_inv hs
  clear hs
  subst e0
  have h9 : (if v2 = 0 then none else _) = some x := h9
  by_cases hz : v2 = 0
  · rw [if_pos hz] at h9
    cases h9
  · rw [if_neg hz] at h9
    cases h9
    intro r ks H locs ls st1 he hR hV hl hL hk
    obtain ⟨st2, rfl, -, hk⟩ := am_Sk_tl hk
    obtain ⟨st3, rfl, -, hk⟩ := am_Sk_tl hk
    refine lv_idiv hx hb hd hz ?_
    exact k r ks H locs ls _ he hR hV hl hL (am_Sk_cons (am_vok_int _) hk)
theorem am_s_irem  (C : am_X D ca B0 E L0 xs l p s m args meth c y) (hd : decode (am_b y) pc = .ok (.irem, nx - pc)) (ho : am_ok1 (.irem) pc nx tg = true) (hs : am_stp y (.irem) pc nx tg L st M = some x) (k : am_W D ca B0 E L0 xs p l e R s m args below meth c y Q r0 ks0 n0 cells slots x.1 x.2.1 x.2.2.1 x.2.2.2) : am_W D ca B0 E L0 xs p l e R s m args below meth c y Q r0 ks0 n0 cells slots pc L st M := by
  obtain ⟨hx, hb, hml, hown, hts, hlk, hrt, hin, hK, hS0, hS2, hB0, hE, hst, het⟩ := C
  have hn : nx = pc + 1 := by simpa [am_ok1, am_len] using ho
  subst hn
  rw [Nat.add_sub_cancel_left] at hd
  simp only [am_stp] at hs
  obtain ⟨v2, v1, t, e0, h9⟩ := am_i2_inv hs
  clear hs
  subst e0
  have h9 : (if v2 = 0 then none else _) = some x := h9
  by_cases hz : v2 = 0
  · rw [if_pos hz] at h9
    cases h9
  · rw [if_neg hz] at h9
    cases h9
    intro r ks H locs ls st1 he hR hV hl hL hk
    obtain ⟨st2, rfl, -, hk⟩ := am_Sk_tl hk
    obtain ⟨st3, rfl, -, hk⟩ := am_Sk_tl hk
    refine lv_irem hx hb hd hz ?_
    exact k r ks H locs ls _ he hR hV hl hL (am_Sk_cons (am_vok_int _) hk)
theorem am_s_ineg  (C : am_X D ca B0 E L0 xs l p s m args meth c y) (hd : decode (am_b y) pc = .ok (.ineg, nx - pc)) (ho : am_ok1 (.ineg) pc nx tg = true) (hs : am_stp y (.ineg) pc nx tg L st M = some x) (k : am_W D ca B0 E L0 xs p l e R s m args below meth c y Q r0 ks0 n0 cells slots x.1 x.2.1 x.2.2.1 x.2.2.2) : am_W D ca B0 E L0 xs p l e R s m args below meth c y Q r0 ks0 n0 cells slots pc L st M := by
  obtain ⟨hx, hb, hml, hown, hts, hlk, hrt, hin, hK, hS0, hS2, hB0, hE, hst, het⟩ := C
  have hn : nx = pc + 1 := by simpa [am_ok1, am_len] using ho
  subst hn
  rw [Nat.add_sub_cancel_left] at hd
  simp only [am_stp] at hs
  obtain ⟨v1, t, rfl, hs⟩ := am_i1_inv hs
  cases hs
  intro r ks H locs ls st1 he hR hV hl hL hk
  obtain ⟨st2, rfl, -, hk⟩ := am_Sk_tl hk
  refine lv_ineg hx hb hd ?_
  exact k r ks H locs ls _ he hR hV hl hL (am_Sk_cons (am_vok_int _) hk)
theorem am_s_i2c  (C : am_X D ca B0 E L0 xs l p s m args meth c y) (hd : decode (am_b y) pc = .ok (.i2c, nx - pc)) (ho : am_ok1 (.i2c) pc nx tg = true) (hs : am_stp y (.i2c) pc nx tg L st M = some x) (k : am_W D ca B0 E L0 xs p l e R s m args below meth c y Q r0 ks0 n0 cells slots x.1 x.2.1 x.2.2.1 x.2.2.2) : am_W D ca B0 E L0 xs p l e R s m args below meth c y Q r0 ks0 n0 cells slots pc L st M := by
  obtain ⟨hx, hb, hml, hown, hts, hlk, hrt, hin, hK, hS0, hS2, hB0, hE, hst, het⟩ := C
  have hn : nx = pc + 1 := by simpa [am_ok1, am_len] using ho
  subst hn
  rw [Nat.add_sub_cancel_left] at hd
  simp only [am_stp] at hs
  obtain ⟨v1, t, rfl, hs⟩ := am_i1_inv hs
  cases hs
  intro r ks H locs ls st1 he hR hV hl hL hk
  obtain ⟨st2, rfl, -, hk⟩ := am_Sk_tl hk
  refine lv_i2c hx hb hd rfl ?_
  exact k r ks H locs ls _ he hR hV hl hL (am_Sk_cons (am_vok_int _) hk)
theorem am_s_i2l  (C : am_X D ca B0 E L0 xs l p s m args meth c y) (hd : decode (am_b y) pc = .ok (.i2l, nx - pc)) (ho : am_ok1 (.i2l) pc nx tg = true) (hs : am_stp y (.i2l) pc nx tg L st M = some x) (k : am_W D ca B0 E L0 xs p l e R s m args below meth c y Q r0 ks0 n0 cells slots x.1 x.2.1 x.2.2.1 x.2.2.2) : am_W D ca B0 E L0 xs p l e R s m args below meth c y Q r0 ks0 n0 cells slots pc L st M := by
  obtain ⟨hx, hb, hml, hown, hts, hlk, hrt, hin, hK, hS0, hS2, hB0, hE, hst, het⟩ := C
  have hn : nx = pc + 1 := by simpa [am_ok1, am_len] using ho
  subst hn
  rw [Nat.add_sub_cancel_left] at hd
  simp only [am_stp] at hs
  obtain ⟨v1, t, rfl, hs⟩ := am_i1_inv hs
  cases hs
  intro r ks H locs ls st1 he hR hV hl hL hk
  obtain ⟨st2, rfl, -, hk⟩ := am_Sk_tl hk
  refine lv_i2l hx hb hd rfl ?_
  exact k r ks H locs ls _ he hR hV hl hL (am_Sk_cons ((fun _ h => by cases h)) hk)
theorem am_s_i2d  (C : am_X D ca B0 E L0 xs l p s m args meth c y) (hd : decode (am_b y) pc = .ok (.i2d, nx - pc)) (ho : am_ok1 (.i2d) pc nx tg = true) (hs : am_stp y (.i2d) pc nx tg L st M = some x) (k : am_W D ca B0 E L0 xs p l e R s m args below meth c y Q r0 ks0 n0 cells slots x.1 x.2.1 x.2.2.1 x.2.2.2) : am_W D ca B0 E L0 xs p l e R s m args below meth c y Q r0 ks0 n0 cells slots pc L st M := by
  obtain ⟨hx, hb, hml, hown, hts, hlk, hrt, hin, hK, hS0, hS2, hB0, hE, hst, het⟩ := C
  have hn : nx = pc + 1 := by simpa [am_ok1, am_len] using ho
  subst hn
  rw [Nat.add_sub_cancel_left] at hd
  simp only [am_stp] at hs
  obtain ⟨v1, t, rfl, hs⟩ := am_i1_inv hs
  cases hs
  intro r ks H locs ls st1 he hR hV hl hL hk
  obtain ⟨st2, rfl, -, hk⟩ := am_Sk_tl hk
  refine lv_i2d hx hb hd ?_
  exact k r ks H locs ls _ he hR hV hl hL (am_Sk_cons ((fun _ h => by cases h)) hk)
theorem am_s_i2f  (C : am_X D ca B0 E L0 xs l p s m args meth c y) (hd : decode (am_b y) pc = .ok (.i2f, nx - pc)) (ho : am_ok1 (.i2f) pc nx tg = true) (hs : am_stp y (.i2f) pc nx tg L st M = some x) (k : am_W D ca B0 E L0 xs p l e R s m args below meth c y Q r0 ks0 n0 cells slots x.1 x.2.1 x.2.2.1 x.2.2.2) : am_W D ca B0 E L0 xs p l e R s m args below meth c y Q r0 ks0 n0 cells slots pc L st M := by
  obtain ⟨hx, hb, hml, hown, hts, hlk, hrt, hin, hK, hS0, hS2, hB0, hE, hst, het⟩ := C
  have hn : nx = pc + 1 := by simpa [am_ok1, am_len] using ho
  subst hn
  rw [Nat.add_sub_cancel_left] at hd
  simp only [am_stp] at hs
  obtain ⟨v1, t, rfl, hs⟩ := am_i1_inv hs
  cases hs
  intro r ks H locs ls st1 he hR hV hl hL hk
  obtain ⟨st2, rfl, -, hk⟩ := am_Sk_tl hk
  refine lv_i2f hx hb hd ?_
  exact k r ks H locs ls _ he hR hV hl hL (am_Sk_cons ((fun _ h => by cases h)) hk)
theorem am_s_f2d  (C : am_X D ca B0 E L0 xs l p s m args meth c y) (hd : decode (am_b y) pc = .ok (.f2d, nx - pc)) (ho : am_ok1 (.f2d) pc nx tg = true) (hs : am_stp y (.f2d) pc nx tg L st M = some x) (k : am_W D ca B0 E L0 xs p l e R s m args below meth c y Q r0 ks0 n0 cells slots x.1 x.2.1 x.2.2.1 x.2.2.2) : am_W D ca B0 E L0 xs p l e R s m args below meth c y Q r0 ks0 n0 cells slots pc L st M := by
  obtain ⟨hx, hb, hml, hown, hts, hlk, hrt, hin, hK, hS0, hS2, hB0, hE, hst, het⟩ := C
  have hn : nx = pc + 1 := by simpa [am_ok1, am_len] using ho
  subst hn
  rw [Nat.add_sub_cancel_left] at hd
  simp only [am_stp] at hs
  split at hs
  · split at hs
    · rename_i hz
      cases hs
      intro r ks H locs ls st1 he hR hV hl hL hk
      obtain ⟨st2, rfl, -, hk⟩ := am_Sk_tl hk
      refine lv_f2d hx hb hd hz ?_
      exact k r ks H locs ls _ he hR hV hl hL (am_Sk_cons (fun _ h => by cases h) hk)
    · cases hs
  · cases hs
theorem am_s_ddiv  (C : am_X D ca B0 E L0 xs l p s m args meth c y) (hd : decode (am_b y) pc = .ok (.ddiv, nx - pc)) (ho : am_ok1 (.ddiv) pc nx tg = true) (hs : am_stp y (.ddiv) pc nx tg L st M = some x) (k : am_W D ca B0 E L0 xs p l e R s m args below meth c y Q r0 ks0 n0 cells slots x.1 x.2.1 x.2.2.1 x.2.2.2) : am_W D ca B0 E L0 xs p l e R s m args below meth c y Q r0 ks0 n0 cells slots pc L st M := by
  obtain ⟨hx, hb, hml, hown, hts, hlk, hrt, hin, hK, hS0, hS2, hB0, hE, hst, het⟩ := C
  have hn : nx = pc + 1 := by simpa [am_ok1, am_len] using ho
  subst hn
  rw [Nat.add_sub_cancel_left] at hd
  simp only [am_stp] at hs
  split at hs
  · split at hs
    · rename_i hz
      cases hs
      intro r ks H locs ls st1 he hR hV hl hL hk
      obtain ⟨st2, rfl, -, hk⟩ := am_Sk_tl hk
      obtain ⟨st3, rfl, -, hk⟩ := am_Sk_tl hk
      refine lv_ddiv hx hb hd hz ?_
      exact k r ks H locs ls _ he hR hV hl hL (am_Sk_cons (fun _ h => by cases h) hk)
    · cases hs
  · cases hs
theorem am_s_fdiv  (C : am_X D ca B0 E L0 xs l p s m args meth c y) (hd : decode (am_b y) pc = .ok (.fdiv, nx - pc)) (ho : am_ok1 (.fdiv) pc nx tg = true) (hs : am_stp y (.fdiv) pc nx tg L st M = some x) (k : am_W D ca B0 E L0 xs p l e R s m args below meth c y Q r0 ks0 n0 cells slots x.1 x.2.1 x.2.2.1 x.2.2.2) : am_W D ca B0 E L0 xs p l e R s m args below meth c y Q r0 ks0 n0 cells slots pc L st M := by
  obtain ⟨hx, hb, hml, hown, hts, hlk, hrt, hin, hK, hS0, hS2, hB0, hE, hst, het⟩ := C
  have hn : nx = pc + 1 := by simpa [am_ok1, am_len] using ho
  subst hn
  rw [Nat.add_sub_cancel_left] at hd
  simp only [am_stp] at hs
  split at hs
  · split at hs
    · rename_i hz
      cases hs
      intro r ks H locs ls st1 he hR hV hl hL hk
      obtain ⟨st2, rfl, -, hk⟩ := am_Sk_tl hk
      obtain ⟨st3, rfl, -, hk⟩ := am_Sk_tl hk
      refine lv_fdiv hx hb hd hz ?_
      exact k r ks H locs ls _ he hR hV hl hL (am_Sk_cons (fun _ h => by cases h) hk)
    · cases hs
  · cases hs
theorem am_s_dcmp {o : CmpOp} (C : am_X D ca B0 E L0 xs l p s m args meth c y) (hd : decode (am_b y) pc = .ok (.dcmp o, nx - pc)) (ho : am_ok1 (.dcmp o) pc nx tg = true) (hs : am_stp y (.dcmp o) pc nx tg L st M = some x) (k : am_W D ca B0 E L0 xs p l e R s m args below meth c y Q r0 ks0 n0 cells slots x.1 x.2.1 x.2.2.1 x.2.2.2) : am_W D ca B0 E L0 xs p l e R s m args below meth c y Q r0 ks0 n0 cells slots pc L st M := by
  obtain ⟨hx, hb, hml, hown, hts, hlk, hrt, hin, hK, hS0, hS2, hB0, hE, hst, het⟩ := C
  have hn : nx = pc + 1 := by simpa [am_ok1, am_len] using ho
  subst hn
  rw [Nat.add_sub_cancel_left] at hd
  simp only [am_stp] at hs
  split at hs
  · cases hs
    intro r ks H locs ls st1 he hR hV hl hL hk
    obtain ⟨st2, rfl, -, hk⟩ := am_Sk_tl hk
    obtain ⟨st3, rfl, -, hk⟩ := am_Sk_tl hk
    refine lv_dcmp hx hb hd ?_
    exact k r ks H locs ls _ he hR hV hl hL (am_Sk_cons (am_vok_int _) hk)
  · cases hs
theorem am_s_fcmp {o : CmpOp} (C : am_X D ca B0 E L0 xs l p s m args meth c y) (hd : decode (am_b y) pc = .ok (.fcmp o, nx - pc)) (ho : am_ok1 (.fcmp o) pc nx tg = true) (hs : am_stp y (.fcmp o) pc nx tg L st M = some x) (k : am_W D ca B0 E L0 xs p l e R s m args below meth c y Q r0 ks0 n0 cells slots x.1 x.2.1 x.2.2.1 x.2.2.2) : am_W D ca B0 E L0 xs p l e R s m args below meth c y Q r0 ks0 n0 cells slots pc L st M := by
  obtain ⟨hx, hb, hml, hown, hts, hlk, hrt, hin, hK, hS0, hS2, hB0, hE, hst, het⟩ := C
  have hn : nx = pc + 1 := by simpa [am_ok1, am_len] using ho
  subst hn
  rw [Nat.add_sub_cancel_left] at hd
  simp only [am_stp] at hs
  split at hs
  · cases hs
    intro r ks H locs ls st1 he hR hV hl hL hk
    obtain ⟨st2, rfl, -, hk⟩ := am_Sk_tl hk
    obtain ⟨st3, rfl, -, hk⟩ := am_Sk_tl hk
    refine lv_fcmp hx hb hd ?_
    exact k r ks H locs ls _ he hR hV hl hL (am_Sk_cons (am_vok_int _) hk)
  · cases hs
theorem am_s_lcmp  (C : am_X D ca B0 E L0 xs l p s m args meth c y) (hd : decode (am_b y) pc = .ok (.lcmp, nx - pc)) (ho : am_ok1 (.lcmp) pc nx tg = true) (hs : am_stp y (.lcmp) pc nx tg L st M = some x) (k : am_W D ca B0 E L0 xs p l e R s m args below meth c y Q r0 ks0 n0 cells slots x.1 x.2.1 x.2.2.1 x.2.2.2) : am_W D ca B0 E L0 xs p l e R s m args below meth c y Q r0 ks0 n0 cells slots pc L st M := by
  obtain ⟨hx, hb, hml, hown, hts, hlk, hrt, hin, hK, hS0, hS2, hB0, hE, hst, het⟩ := C
  have hn : nx = pc + 1 := by simpa [am_ok1, am_len] using ho
  subst hn
  rw [Nat.add_sub_cancel_left] at hd
  simp only [am_stp] at hs
  split at hs
  · cases hs
    intro r ks H locs ls st1 he hR hV hl hL hk
    obtain ⟨st2, rfl, -, hk⟩ := am_Sk_tl hk
    obtain ⟨st3, rfl, -, hk⟩ := am_Sk_tl hk
    refine W.lcmp hx hb hd ?_
    exact k r ks H locs ls _ he hR hV hl hL (am_Sk_cons (am_vok_int _) hk)
  · cases hs
theorem am_s_dup  (C : am_X D ca B0 E L0 xs l p s m args meth c y) (hd : decode (am_b y) pc = .ok (.dup, nx - pc)) (ho : am_ok1 (.dup) pc nx tg = true) (hs : am_stp y (.dup) pc nx tg L st M = some x) (k : am_W D ca B0 E L0 xs p l e R s m args below meth c y Q r0 ks0 n0 cells slots x.1 x.2.1 x.2.2.1 x.2.2.2) : am_W D ca B0 E L0 xs p l e R s m args below meth c y Q r0 ks0 n0 cells slots pc L st M := by
  obtain ⟨hx, hb, hml, hown, hts, hlk, hrt, hin, hK, hS0, hS2, hB0, hE, hst, het⟩ := C
  have hn : nx = pc + 1 := by simpa [am_ok1, am_len] using ho
  subst hn
  rw [Nat.add_sub_cancel_left] at hd
  simp only [am_stp] at hs
  split at hs
  · cases hs
    intro r ks H locs ls st1 he hR hV hl hL hk
    obtain ⟨st2, rfl, hv1, hk⟩ := am_Sk_tl hk
    refine lv_dup hx hb hd rfl ?_
    exact k r ks H locs ls _ he hR hV hl hL (am_Sk_cons hv1 (am_Sk_cons hv1 hk))
  · cases hs
    intro r ks H locs ls st1 he hR hV hl hL hk
    obtain ⟨st2, rfl, hv1, hk⟩ := am_Sk_tl hk
    refine lv_dup hx hb hd rfl ?_
    exact k r ks H locs ls _ he hR hV hl hL (am_Sk_cons hv1 (am_Sk_cons hv1 hk))
  · cases hs
theorem am_s_dup2  (C : am_X D ca B0 E L0 xs l p s m args meth c y) (hd : decode (am_b y) pc = .ok (.dup2, nx - pc)) (ho : am_ok1 (.dup2) pc nx tg = true) (hs : am_stp y (.dup2) pc nx tg L st M = some x) (k : am_W D ca B0 E L0 xs p l e R s m args below meth c y Q r0 ks0 n0 cells slots x.1 x.2.1 x.2.2.1 x.2.2.2) : am_W D ca B0 E L0 xs p l e R s m args below meth c y Q r0 ks0 n0 cells slots pc L st M := by
  obtain ⟨hx, hb, hml, hown, hts, hlk, hrt, hin, hK, hS0, hS2, hB0, hE, hst, het⟩ := C
  have hn : nx = pc + 1 := by simpa [am_ok1, am_len] using ho
  subst hn
  rw [Nat.add_sub_cancel_left] at hd
  simp only [am_stp] at hs
  obtain ⟨v2, v1, t, rfl, hs⟩ := am_ia_inv hs
  cases hs
  intro r ks H locs ls st1 he hR hV hl hL hk
  obtain ⟨st2, rfl, hv1, hk⟩ := am_Sk_tl hk
  obtain ⟨st3, rfl, hv2, hk⟩ := am_Sk_tl hk
  refine lv_dup2_11 hx hb hd rfl rfl ?_
  exact k r ks H locs ls _ he hR hV hl hL (am_Sk_cons hv1 (am_Sk_cons hv2 (am_Sk_cons hv1 (am_Sk_cons hv2 hk))))
theorem am_s_pop  (C : am_X D ca B0 E L0 xs l p s m args meth c y) (hd : decode (am_b y) pc = .ok (.pop, nx - pc)) (ho : am_ok1 (.pop) pc nx tg = true) (hs : am_stp y (.pop) pc nx tg L st M = some x) (k : am_W D ca B0 E L0 xs p l e R s m args below meth c y Q r0 ks0 n0 cells slots x.1 x.2.1 x.2.2.1 x.2.2.2) : am_W D ca B0 E L0 xs p l e R s m args below meth c y Q r0 ks0 n0 cells slots pc L st M := by
  obtain ⟨hx, hb, hml, hown, hts, hlk, hrt, hin, hK, hS0, hS2, hB0, hE, hst, het⟩ := C
  have hn : nx = pc + 1 := by simpa [am_ok1, am_len] using ho
  subst hn
  rw [Nat.add_sub_cancel_left] at hd
  simp only [am_stp] at hs
  split at hs
  · cases hs
    intro r ks H locs ls st1 he hR hV hl hL hk
    obtain ⟨st2, rfl, hv1, hk⟩ := am_Sk_tl hk
    refine lv_pop hx hb hd rfl ?_
    exact k r ks H locs ls _ he hR hV hl hL hk
  · cases hs
    intro r ks H locs ls st1 he hR hV hl hL hk
    obtain ⟨st2, rfl, hv1, hk⟩ := am_Sk_tl hk
    refine lv_pop hx hb hd rfl ?_
    exact k r ks H locs ls _ he hR hV hl hL hk
  · cases hs
theorem am_s_goto {o : Int} (C : am_X D ca B0 E L0 xs l p s m args meth c y) (hd : decode (am_b y) pc = .ok (.goto o, nx - pc)) (ho : am_ok1 (.goto o) pc nx tg = true) (hs : am_stp y (.goto o) pc nx tg L st M = some x) (k : am_W D ca B0 E L0 xs p l e R s m args below meth c y Q r0 ks0 n0 cells slots x.1 x.2.1 x.2.2.1 x.2.2.2) : am_W D ca B0 E L0 xs p l e R s m args below meth c y Q r0 ks0 n0 cells slots pc L st M := by
  obtain ⟨hx, hb, hml, hown, hts, hlk, hrt, hin, hK, hS0, hS2, hB0, hE, hst, het⟩ := C
  simp only [am_ok1, Bool.and_eq_true, decide_eq_true_eq] at ho
  obtain ⟨hn, ht⟩ := ho
  have hn := Nat.eq_of_beq_eq_true hn
  subst hn
  rw [Nat.add_sub_cancel_left] at hd
  cases hs
  intro r ks H locs ls st1 he hR hV hl hL hk
  refine lv_goto hx hb hd ht ?_
  exact k r ks H locs ls _ he hR hV hl hL hk
theorem am_s_ifnonnull {o : Int} (C : am_X D ca B0 E L0 xs l p s m args meth c y) (hd : decode (am_b y) pc = .ok (.ifnonnull o, nx - pc)) (ho : am_ok1 (.ifnonnull o) pc nx tg = true) (hs : am_stp y (.ifnonnull o) pc nx tg L st M = some x) (k : am_W D ca B0 E L0 xs p l e R s m args below meth c y Q r0 ks0 n0 cells slots x.1 x.2.1 x.2.2.1 x.2.2.2) : am_W D ca B0 E L0 xs p l e R s m args below meth c y Q r0 ks0 n0 cells slots pc L st M := by
  obtain ⟨hx, hb, hml, hown, hts, hlk, hrt, hin, hK, hS0, hS2, hB0, hE, hst, het⟩ := C
  simp only [am_ok1, Bool.and_eq_true, decide_eq_true_eq] at ho
  obtain ⟨hn, ht⟩ := ho
  have hn := Nat.eq_of_beq_eq_true hn
  subst hn
  rw [Nat.add_sub_cancel_left] at hd
  simp only [am_stp] at hs
  split at hs
  · cases hs
    intro r ks H locs ls st1 he hR hV hl hL hk
    obtain ⟨st2, rfl, hv1, hk⟩ := am_Sk_tl hk
    refine lv_ifnonnullN hx hb hd ?_
    exact k r ks H locs ls _ he hR hV hl hL hk
  · cases hs
    intro r ks H locs ls st1 he hR hV hl hL hk
    obtain ⟨st2, rfl, hv1, hk⟩ := am_Sk_tl hk
    refine lv_ifnonnull hx hb hd ht ?_
    exact k r ks H locs ls _ he hR hV hl hL hk
  · cases hs
theorem am_br {P : Nat → Prop} {b : Prop} {h : Decidable b} {t n : Nat} (k : P (if b then t else n)) : (b → P t) ∧ (¬ b → P n) := ⟨fun q => by rw [if_pos q] at k; exact k, fun q => by rw [if_neg q] at k; exact k⟩
theorem am_s_ifc {q : Jvm.ClassFile.Cond} {o : Int} (C : am_X D ca B0 E L0 xs l p s m args meth c y) (hd : decode (am_b y) pc = .ok (.ifCond q o, nx - pc)) (ho : am_ok1 (.ifCond q o) pc nx tg = true) (hs : am_stp y (.ifCond q o) pc nx tg L st M = some x) (k : am_W D ca B0 E L0 xs p l e R s m args below meth c y Q r0 ks0 n0 cells slots x.1 x.2.1 x.2.2.1 x.2.2.2) : am_W D ca B0 E L0 xs p l e R s m args below meth c y Q r0 ks0 n0 cells slots pc L st M := by
  obtain ⟨hx, hb, hml, hown, hts, hlk, hrt, hin, hK, hS0, hS2, hB0, hE, hst, het⟩ := C
  simp only [am_ok1, Bool.and_eq_true, decide_eq_true_eq] at ho
  obtain ⟨hn, ht⟩ := ho
  have hn := Nat.eq_of_beq_eq_true hn
  subst hn
  rw [Nat.add_sub_cancel_left] at hd
  simp only [am_stp] at hs
  obtain ⟨v1, t, rfl, hs⟩ := am_i1_inv hs
  cases q <;> dsimp only at hs <;> cases hs
  · have k := am_br (P := fun z => am_W D ca B0 E L0 xs p l e R s m args below meth c y Q r0 ks0 n0 cells slots z L t M) k
    refine fun r ks H locs ls st1 he hR hV hl hL hk => ?_
    obtain ⟨st2, rfl, -, hk⟩ := am_Sk_tl hk
    exact lv_if_eq hx hb hd ht (fun z => k.1 z r ks H locs ls _ he hR hV hl hL hk) (fun z => k.2 z r ks H locs ls _ he hR hV hl hL hk)
  · have k := am_br (P := fun z => am_W D ca B0 E L0 xs p l e R s m args below meth c y Q r0 ks0 n0 cells slots z L t M) k
    refine fun r ks H locs ls st1 he hR hV hl hL hk => ?_
    obtain ⟨st2, rfl, -, hk⟩ := am_Sk_tl hk
    exact lv_if_ne hx hb hd ht (fun z => k.1 z r ks H locs ls _ he hR hV hl hL hk) (fun z => k.2 (fun w => w z) r ks H locs ls _ he hR hV hl hL hk)
  · have k := am_br (P := fun z => am_W D ca B0 E L0 xs p l e R s m args below meth c y Q r0 ks0 n0 cells slots z L t M) k
    refine fun r ks H locs ls st1 he hR hV hl hL hk => ?_
    obtain ⟨st2, rfl, -, hk⟩ := am_Sk_tl hk
    exact lv_if_lt hx hb hd ht (fun z => k.1 z r ks H locs ls _ he hR hV hl hL hk) (fun z => k.2 z r ks H locs ls _ he hR hV hl hL hk)
  · have k := am_br (P := fun z => am_W D ca B0 E L0 xs p l e R s m args below meth c y Q r0 ks0 n0 cells slots z L t M) k
    refine fun r ks H locs ls st1 he hR hV hl hL hk => ?_
    obtain ⟨st2, rfl, -, hk⟩ := am_Sk_tl hk
    exact lv_if_ge hx hb hd ht (fun z => k.1 z r ks H locs ls _ he hR hV hl hL hk) (fun z => k.2 z r ks H locs ls _ he hR hV hl hL hk)
  · have k := am_br (P := fun z => am_W D ca B0 E L0 xs p l e R s m args below meth c y Q r0 ks0 n0 cells slots z L t M) k
    refine fun r ks H locs ls st1 he hR hV hl hL hk => ?_
    obtain ⟨st2, rfl, -, hk⟩ := am_Sk_tl hk
    exact lv_if_gt hx hb hd ht (fun z => k.1 z r ks H locs ls _ he hR hV hl hL hk) (fun z => k.2 z r ks H locs ls _ he hR hV hl hL hk)
  · have k := am_br (P := fun z => am_W D ca B0 E L0 xs p l e R s m args below meth c y Q r0 ks0 n0 cells slots z L t M) k
    refine fun r ks H locs ls st1 he hR hV hl hL hk => ?_
    obtain ⟨st2, rfl, -, hk⟩ := am_Sk_tl hk
    exact lv_if_le hx hb hd ht (fun z => k.1 z r ks H locs ls _ he hR hV hl hL hk) (fun z => k.2 z r ks H locs ls _ he hR hV hl hL hk)
theorem am_s_icmp {q : Jvm.ClassFile.Cond} {o : Int} (C : am_X D ca B0 E L0 xs l p s m args meth c y) (hd : decode (am_b y) pc = .ok (.if_icmp q o, nx - pc)) (ho : am_ok1 (.if_icmp q o) pc nx tg = true) (hs : am_stp y (.if_icmp q o) pc nx tg L st M = some x) (k : am_W D ca B0 E L0 xs p l e R s m args below meth c y Q r0 ks0 n0 cells slots x.1 x.2.1 x.2.2.1 x.2.2.2) : am_W D ca B0 E L0 xs p l e R s m args below meth c y Q r0 ks0 n0 cells slots pc L st M := by
  obtain ⟨hx, hb, hml, hown, hts, hlk, hrt, hin, hK, hS0, hS2, hB0, hE, hst, het⟩ := C
  simp only [am_ok1, Bool.and_eq_true, decide_eq_true_eq] at ho
  obtain ⟨hn, ht⟩ := ho
  have hn := Nat.eq_of_beq_eq_true hn
  subst hn
  rw [Nat.add_sub_cancel_left] at hd
  simp only [am_stp] at hs
  obtain ⟨v2, v1, t, rfl, hs⟩ := am_i2_inv hs
  cases q <;> dsimp only at hs <;> cases hs
  · have k := am_br (P := fun z => am_W D ca B0 E L0 xs p l e R s m args below meth c y Q r0 ks0 n0 cells slots z L t M) k
    refine fun r ks H locs ls st1 he hR hV hl hL hk => ?_
    obtain ⟨st2, rfl, -, hk⟩ := am_Sk_tl hk
    obtain ⟨st3, rfl, -, hk⟩ := am_Sk_tl hk
    exact lv_icmp_eq hx hb hd ht (fun z => k.1 z r ks H locs ls _ he hR hV hl hL hk) (fun z => k.2 z r ks H locs ls _ he hR hV hl hL hk)
  · have k := am_br (P := fun z => am_W D ca B0 E L0 xs p l e R s m args below meth c y Q r0 ks0 n0 cells slots z L t M) k
    refine fun r ks H locs ls st1 he hR hV hl hL hk => ?_
    obtain ⟨st2, rfl, -, hk⟩ := am_Sk_tl hk
    obtain ⟨st3, rfl, -, hk⟩ := am_Sk_tl hk
    exact lv_icmp_ne hx hb hd ht (fun z => k.1 z r ks H locs ls _ he hR hV hl hL hk) (fun z => k.2 (fun w => w z) r ks H locs ls _ he hR hV hl hL hk)
  · have k := am_br (P := fun z => am_W D ca B0 E L0 xs p l e R s m args below meth c y Q r0 ks0 n0 cells slots z L t M) k
    refine fun r ks H locs ls st1 he hR hV hl hL hk => ?_
    obtain ⟨st2, rfl, -, hk⟩ := am_Sk_tl hk
    obtain ⟨st3, rfl, -, hk⟩ := am_Sk_tl hk
    exact lv_icmp_lt hx hb hd ht (fun z => k.1 z r ks H locs ls _ he hR hV hl hL hk) (fun z => k.2 z r ks H locs ls _ he hR hV hl hL hk)
  · have k := am_br (P := fun z => am_W D ca B0 E L0 xs p l e R s m args below meth c y Q r0 ks0 n0 cells slots z L t M) k
    refine fun r ks H locs ls st1 he hR hV hl hL hk => ?_
    obtain ⟨st2, rfl, -, hk⟩ := am_Sk_tl hk
    obtain ⟨st3, rfl, -, hk⟩ := am_Sk_tl hk
    exact lv_icmp_ge hx hb hd ht (fun z => k.1 z r ks H locs ls _ he hR hV hl hL hk) (fun z => k.2 z r ks H locs ls _ he hR hV hl hL hk)
  · have k := am_br (P := fun z => am_W D ca B0 E L0 xs p l e R s m args below meth c y Q r0 ks0 n0 cells slots z L t M) k
    refine fun r ks H locs ls st1 he hR hV hl hL hk => ?_
    obtain ⟨st2, rfl, -, hk⟩ := am_Sk_tl hk
    obtain ⟨st3, rfl, -, hk⟩ := am_Sk_tl hk
    exact lv_icmp_gt hx hb hd ht (fun z => k.1 z r ks H locs ls _ he hR hV hl hL hk) (fun z => k.2 z r ks H locs ls _ he hR hV hl hL hk)
  · have k := am_br (P := fun z => am_W D ca B0 E L0 xs p l e R s m args below meth c y Q r0 ks0 n0 cells slots z L t M) k
    refine fun r ks H locs ls st1 he hR hV hl hL hk => ?_
    obtain ⟨st2, rfl, -, hk⟩ := am_Sk_tl hk
    obtain ⟨st3, rfl, -, hk⟩ := am_Sk_tl hk
    exact lv_icmp_le hx hb hd ht (fun z => k.1 z r ks H locs ls _ he hR hV hl hL hk) (fun z => k.2 z r ks H locs ls _ he hR hV hl hL hk)
theorem am_s_ldc {j : Nat} (C : am_X D ca B0 E L0 xs l p s m args meth c y) (hd : decode (am_b y) pc = .ok (.ldc j, nx - pc)) (ho : am_ok1 (.ldc j) pc nx tg = true) (hs : am_stp y (.ldc j) pc nx tg L st M = some x) (k : am_W D ca B0 E L0 xs p l e R s m args below meth c y Q r0 ks0 n0 cells slots x.1 x.2.1 x.2.2.1 x.2.2.2) : am_W D ca B0 E L0 xs p l e R s m args below meth c y Q r0 ks0 n0 cells slots pc L st M := by
  obtain ⟨hx, hb, hml, hown, hts, hlk, hrt, hin, hK, hS0, hS2, hB0, hE, hst, het⟩ := C
  have hn : nx = pc + 2 := by simpa [am_ok1, am_len] using ho
  subst hn
  rw [Nat.add_sub_cancel_left] at hd
  simp only [am_stp] at hs
  cases hq : am_kc (am_cl y) j with
  | some v =>
    rw [hq] at hs
    cases hs
    intro r ks H locs ls st1 he hR hV hl hL hk
    refine lv_ldc hx hb hown (hts _ (am_kc_ok hq)) hd ?_
    exact k r ks H locs ls _ he hR hV hl hL (am_Sk_cons (am_vok_int _) hk)
  | none =>
  rw [hq] at hs
  dsimp only at hs
  cases hz : am_ks (am_cl y) j with
  | some v =>
    rw [hz] at hs
    cases hs
    obtain ⟨hc14, hj8, hkj⟩ := am_ks_ok hz
    intro r ks H locs ls st1 he hR hV hl hL hk
    rw [hc14] at hown
    have hown : s.vm.findClass "EchoCanyonLaw" = some m.cls := hown
    have hvr := hS2.1.2 v hj8
    rw [← hkj] at hvr
    have hre : E (64 * v + 45) = r (64 * v + 45) := (hR.2.2.2.1 _ (by omega)).symm
    refine va_ldcS hx hb hown hvr hd ?_
    rw [hre]
    exact k r ks H locs ls _ he hR hV hl hL (am_Sk_cons (am_vok_ref (Or.inr (Or.inr (Or.inr (Or.inr (Or.inr (Or.inr (Or.inl ⟨by omega, by omega⟩)))))))) hk)
  | none =>
  rw [hz] at hs
  dsimp only at hs
  cases hf : am_kf (am_cl y) j with
  | some v =>
    rw [hf] at hs
    cases hs
    intro r ks H locs ls st1 he hR hV hl hL hk
    refine lv_ldcf hx hb hown (hts _ (am_kf_ok hf)) hd ?_
    exact k r ks H locs ls _ he hR hV hl hL (am_Sk_cons (fun _ h => by cases h) hk)
  | none => rw [hf] at hs; cases hs
theorem am_s_ldc_w {j : Nat} (C : am_X D ca B0 E L0 xs l p s m args meth c y) (hd : decode (am_b y) pc = .ok (.ldc_w j, nx - pc)) (ho : am_ok1 (.ldc_w j) pc nx tg = true) (hs : am_stp y (.ldc_w j) pc nx tg L st M = some x) (k : am_W D ca B0 E L0 xs p l e R s m args below meth c y Q r0 ks0 n0 cells slots x.1 x.2.1 x.2.2.1 x.2.2.2) : am_W D ca B0 E L0 xs p l e R s m args below meth c y Q r0 ks0 n0 cells slots pc L st M := by
  obtain ⟨hx, hb, hml, hown, hts, hlk, hrt, hin, hK, hS0, hS2, hB0, hE, hst, het⟩ := C
  have hn : nx = pc + 3 := by simpa [am_ok1, am_len] using ho
  subst hn
  rw [Nat.add_sub_cancel_left] at hd
  simp only [am_stp] at hs
  cases hz : am_ks (am_cl y) j with
  | some v =>
    rw [hz] at hs
    cases hs
    obtain ⟨hc14, hj8, hkj⟩ := am_ks_ok hz
    intro r ks H locs ls st1 he hR hV hl hL hk
    rw [hc14] at hown
    have hown : s.vm.findClass "EchoCanyonLaw" = some m.cls := hown
    have hvr := hS2.1.2 v hj8
    rw [← hkj] at hvr
    have hre : E (64 * v + 45) = r (64 * v + 45) := (hR.2.2.2.1 _ (by omega)).symm
    refine am_ldcSW hx hb hown hvr hd ?_
    rw [hre]
    exact k r ks H locs ls _ he hR hV hl hL (am_Sk_cons (am_vok_ref (Or.inr (Or.inr (Or.inr (Or.inr (Or.inr (Or.inr (Or.inl ⟨by omega, by omega⟩)))))))) hk)
  | none => rw [hz] at hs; cases hs
theorem am_s_ldc2 {j : Nat} (C : am_X D ca B0 E L0 xs l p s m args meth c y) (hd : decode (am_b y) pc = .ok (.ldc2_w j, nx - pc)) (ho : am_ok1 (.ldc2_w j) pc nx tg = true) (hs : am_stp y (.ldc2_w j) pc nx tg L st M = some x) (k : am_W D ca B0 E L0 xs p l e R s m args below meth c y Q r0 ks0 n0 cells slots x.1 x.2.1 x.2.2.1 x.2.2.2) : am_W D ca B0 E L0 xs p l e R s m args below meth c y Q r0 ks0 n0 cells slots pc L st M := by
  obtain ⟨hx, hb, hml, hown, hts, hlk, hrt, hin, hK, hS0, hS2, hB0, hE, hst, het⟩ := C
  have hn : nx = pc + 3 := by simpa [am_ok1, am_len] using ho
  subst hn
  rw [Nat.add_sub_cancel_left] at hd
  simp only [am_stp] at hs
  cases hq : am_kl (am_cl y) j with
  | some v =>
    rw [hq] at hs
    cases hs
    intro r ks H locs ls st1 he hR hV hl hL hk
    refine lv_ldc2 hx hb hown (hts _ (am_kl_ok hq)) hd ?_
    exact k r ks H locs ls _ he hR hV hl hL (am_Sk_cons (fun _ h => by cases h) hk)
  | none =>
  rw [hq] at hs
  dsimp only at hs
  cases hf : am_kd (am_cl y) j with
  | some v =>
    rw [hf] at hs
    cases hs
    intro r ks H locs ls st1 he hR hV hl hL hk
    refine lv_ldc2d hx hb hown (hts _ (am_kd_ok hf)) hd ?_
    exact k r ks H locs ls _ he hR hV hl hL (am_Sk_cons (fun _ h => by cases h) hk)
  | none => rw [hf] at hs; cases hs
end AMS
