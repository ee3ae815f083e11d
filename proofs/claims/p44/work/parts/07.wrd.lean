/-! CHECKS of links, fields, classes against the words of the tables -/
/-- what the tables say of a private method of the super class' own: the machine selects it for an object of the sub class too -/
theorem am_sel_priv {C : String} {x0 y0 y : MethodName} {args : Array Value} {s : State} (h0 : (Cond.selects C x0 y0).before args s = true) (hc0 : y0.cls = y.cls)
    (hpriv : (Cond.privateMethod y).before args s = true) (hinst : (Cond.instanceMethod y).before args s = true) (hy : y.cls ≠ "java/lang/invoke/MethodHandle" ∧ y.cls ≠ "java/lang/invoke/VarHandle") :
    (Cond.selects C y y).before args s = true := by
  obtain ⟨c, r, m, h1, -, h3, -, k, hk, hki⟩ := Cond.selects_spec h0
  obtain ⟨mk, methM, hnamed, hmethM, -, -⟩ := Cond.instanceMethod_spec hinst
  have hfound : s.methodFound? y.cls y.name y.desc = some mk := State.methodFound?_of_named hnamed hy
  have h4 := findClass_of_methodNamed h3
  rw [hc0] at h4
  have hcls : mk.cls = m.cls := Option.some.inj ((findClass_of_methodNamed hnamed).symm.trans h4)
  have hsel : selectMethod {} s.vm c mk = .method mk := selectMethod_private hmethM (Cond.privateMethod_at hpriv mk methM hnamed hmethM)
  simp only [Cond.before, Cond.holds, Cond.value, h1, hfound, hnamed, hsel, hcls, hk]
  simp; exact hki
def am_xs : List MethodName := [⟨RJ5, "ensureCapacityInternal", "(I)V"⟩, ⟨RJ5, "putStringAt", "(ILjava/lang/String;)V"⟩, ⟨RJ5, "inflateIfNeededFor", "(Ljava/lang/String;)V"⟩]
def am_tbl : List Cond := lw_tbl ++ am_xs.map fun y => Cond.selects RJ4 y y
theorem am_xs_ok : am_xs.all (fun y => decide (y.cls = RJ5) && decide (Cond.privateMethod y ∈ lw_tbl) && decide (Cond.instanceMethod y ∈ lw_tbl)) = true := by decide +kernel
theorem am_xs_s : Cond.selects RJ4 ⟨RJ5, "isLatin1", "()Z"⟩ ⟨RJ5, "isLatin1", "()Z"⟩ ∈ lw_tbl := of_decide_eq_true (by decide +kernel)
theorem am_tbl_hts {args : Array Value} {s : State} (h : ∀ w ∈ lw_tbl, w.before args s = true) : ∀ w ∈ am_tbl, w.before args s = true := by
  intro w hw
  rcases List.mem_append.mp hw with hw | hw
  · exact h w hw
  · obtain ⟨y, hy, rfl⟩ := List.mem_map.mp hw
    have h1 := List.all_eq_true.mp am_xs_ok y hy
    simp only [Bool.and_eq_true, decide_eq_true_eq] at h1
    obtain ⟨⟨h2, h3⟩, h4⟩ := h1
    exact am_sel_priv (h _ am_xs_s) h2.symm (h _ h3) (h _ h4) ⟨by rw [h2]; decide, by rw [h2]; decide⟩
/-- the words that every method is given beside its own -/
def am_G : List Cond := am_tbl.filter goodWord
theorem am_G_in {i : Nat} {w : Cond} (h : am_tbl[i]? = some w) (g : goodWord w = true) : w ∈ am_G := List.mem_filter.mpr ⟨List.mem_of_getElem? h, g⟩
def am_gw (i : Nat) (w : Cond) : Bool := decide (am_tbl[i]? = some w) && goodWord w
theorem am_gw_in {i : Nat} {w : Cond} (h : am_gw i w = true) : w ∈ am_G := by
  unfold am_gw at h
  rw [Bool.and_eq_true, decide_eq_true_eq] at h
  exact am_G_in h.1 h.2
def am_cw (z : Nat) : Cond := match am_hh z with
  | [] => .code (am_y z) (am_b z) (am_ml z) (am_rt z)
  | hh => .codeWith (am_y z) (am_b z) (am_ml z) (am_rt z) hh
def am_gm (w : Cond) : Bool := decide (w ∈ am_tbl) && goodWord w
theorem am_gm_in {w : Cond} (h : am_gm w = true) : w ∈ am_G := by
  unfold am_gm at h
  rw [Bool.and_eq_true, decide_eq_true_eq] at h
  exact List.mem_filter.mpr ⟨h.1, h.2⟩
def am_h0 (z : Nat) : Bool := match am_hh z with
  | [] => true
  | _ => false
/-- a method's own words -/
def am_cm (z : Nat) : Bool := am_gw (am_wc z) (am_cw z) && am_gw (am_wi z) (bif am_ist z then .static (am_y z) else .instanceMethod (am_y z)) && am_gw (am_wn z) (.initialized (am_cn (am_cl z))) && plainName (am_y z).cls
  && decide ((am_y z).cls = am_cn (am_cl z)) && decide ((parseMethodDescriptor (am_y z).desc).map (fun d => d.parameters.length) = some (am_na z)) && decide ((am_y z).cls ≠ "java/lang/invoke/MethodHandle") && decide ((am_y z).cls ≠ "java/lang/invoke/VarHandle")
  && Nat.ble (am_ml z) 20 && (!(am_ini z) || decide ((am_y z).name = "<init>" ∧ am_rt z = none ∧ am_hh z = []))
/-- a link -/
def am_cl1 (c k : Nat) : Bool := match am_pm c k with
  | none => true
  | some (z, m) => (bif (Nat.beq m 2 || Nat.beq m 4) then decide (am_tbl[am_pmw c k]? = some (.methodLinkNest (am_cn c) k (am_y z) "EchoCanyon")) else am_gw (am_pmw c k) (.methodLink (am_cn c) k (am_y (bif Nat.beq m 7 then am_px z else z))))
    && (bif Nat.beq m 0 then (am_gw (am_wv z) (.selects (am_cn (am_cl z)) (am_y z) (am_y z)) && !(am_ist z) && (match am_hh z with
      | [] => true
      | _ => false)) else true)
    && (bif (Nat.beq m 1 || Nat.beq m 2) then (am_ist z && (match am_hh z with
      | [] => true
      | _ => false)) else true)
    && (bif (Nat.beq m 3 || Nat.beq m 4) then (am_ini z && !(am_ist z)) else true)
    && (bif Nat.beq m 5 then (am_ist z && (match am_hh z with
      | [] => false
      | _ => true)) else true)
    && Nat.ble m 7 && Nat.blt z 217 && !(Nat.beq z iL_law)
    && (bif Nat.beq m 6 then (Nat.beq c 15 && !(am_ist z) && !(am_ini z) && am_h0 z && decide ((am_y z).name ≠ "<init>") && am_gm (.sameMethod (am_y z).cls (am_y z).cls (am_y z).name (am_y z).desc) && am_gm (.superclass RJ4 (am_y z).cls)) else true)
    && (bif Nat.beq m 7 then (!(am_ist z) && am_h0 z && am_h0 (am_px z) && Nat.blt (am_px z) 217 && !(Nat.beq (am_px z) iL_law) && !(am_ist (am_px z)) && decide ((am_y (am_px z)).cls = RJ5) && am_gm (.sameMethod RJ5 RJ5 (am_y (am_px z)).name (am_y (am_px z)).desc) && am_gm (.selects RJ4 (am_y (am_px z)) (am_y z)) && decide ((parseMethodDescriptor (am_y (am_px z)).desc).map (fun d => d.parameters.length) = some (am_na z))) else true)
    && (bif Nat.beq m 0 then !(Nat.beq (am_cl z) 16) else true)
/-- a link to the JDK -/
def am_cj1 (c k : Nat) : Bool := match am_pj c k with
  | 0 => true
  | 1 => am_gw (am_pjw c k) (.methodLink (am_cn c) k ⟨"EchoCanyon$Command", "ordinal", "()I"⟩)
  | 2 => am_gw (am_pjw c k) (.methodLink (am_cn c) k ⟨"java/lang/String", "length", "()I"⟩)
  | 3 => am_gw (am_pjw c k) (.methodLink (am_cn c) k ⟨"java/lang/String", "charAt", "(I)C"⟩)
  | 4 => am_gw (am_pjw c k) (.methodLink (am_cn c) k arraycopyName)
  | 5 => am_gw (am_pjw c k) (.methodLink (am_cn c) k objectInit)
  | 6 => am_gw (am_pjw c k) (.methodLink (am_cn c) k Lib.Math.abs.name)
  | 7 => am_gw (am_pjw c k) (.methodLink (am_cn c) k Lib.Math.max.name)
  | 8 => am_gw (am_pjw c k) (.methodLink (am_cn c) k Lib.Math.min.name)
  | 9 => am_gw (am_pjw c k) (.methodLink (am_cn c) k yJ6_bitCount_0f7a4)
  | 10 => am_gw (am_pjw c k) (.methodLink (am_cn c) k yJ0_checkIndex_df160)
  | _ => false
def am_cls : List vw_C := [(RX1, TX1, 13), (RX1, TX1, 13), (RX1, TX1, 13), (RX3, TX3, 3), (RX4, TX4, 2), (RX5, TX5, 5), (RX6, TX6, 5), (RX7, TX7, 3), (RX8, TX8, 5), (RX9, TX9, 3), (RX10, TX10, 5), (RX11, TX11, 2), (RX12, TX12, 10), (RJ0, TJ0, 4), (RX8, TX8, 5), (RJ4, TJ4, 4)]
/-- an object's kind: its class, its fields, how many -/
def am_kT (x : Nat) : u_T := (am_cls.getD x (RX1, TX1, 13)).2.1
def am_kC (x : Nat) : String := (am_cls.getD x (RX1, TX1, 13)).1
def am_cf1 (c k : Nat) : Bool := match am_pf c k with
  | none => true
  | some (x, j, t, fin) => am_gw (am_pfw c k) (.fieldLink (am_cn c) k (am_kT x j).1 (am_kT x j).2.1 (am_kT x j).2.2.1) && (!fin || decide ((am_kT x j).1 = am_kC x)) && Nat.blt j (am_nf x) && Nat.blt x 16 && decide ((am_kT x j).2.2.2 = fin)
    && Nat.ble t 3 && (am_isr x j == Nat.beq t 2) && (bif Nat.beq t 0 then decide (parseFieldDescriptor (am_kT x j).2.2.1 = some .int) else (bif Nat.beq t 1 then decide (parseFieldDescriptor (am_kT x j).2.2.1 = some .boolean) else (bif Nat.beq t 3 then decide (parseFieldDescriptor (am_kT x j).2.2.1 = some .byte) else true)))
    && Nat.beq (am_cls.getD x (RX1, TX1, 13)).2.2 (am_nf x) && (match am_ak x with
      | none => true
      | _ => false)
def am_cs1 (c k : Nat) : Bool := match am_ps c k with
  | none => true
  | some a => (bif Nat.beq (a % 64) 40 then am_gw (am_psw c k) (.fieldLink (am_cn c) k "EchoCanyon$Command" (["WALL", "OWN", "PLAYER", "MOVE", "SHOUT", "BEAT", "CATCH", "WIND"].getD (a / 64) "") "LEchoCanyon$Command;")
    else (bif Nat.beq a 42 then am_gw (am_psw c k) (.fieldLink (am_cn c) k "EchoCanyon$Command" "ALL" "[LEchoCanyon$Command;")
    else (bif Nat.beq a 43 then am_gw (am_psw c k) (.fieldLink (am_cn c) k "EchoCanyon$1" "$SwitchMap$EchoCanyon$Command" "[I")
    else (bif Nat.beq a 50 then am_gw (am_psw c k) (.fieldLink (am_cn c) k "java/lang/String" "COMPACT_STRINGS" "Z")
    else (bif Nat.beq a (64 * 8 + 46) then am_gw (am_psw c k) (.fieldLink (am_cn c) k "java/lang/Integer" "DigitOnes" "[B")
    else (bif Nat.beq a (64 * 9 + 46) then am_gw (am_psw c k) (.fieldLink (am_cn c) k "java/lang/Integer" "DigitTens" "[B") else false)))))) && Nat.blt (a / 64) 10 && (!(Nat.beq (a % 64) 40) || Nat.blt (a / 64) 8)
def am_ce1 (c k : Nat) : Bool := match am_pe c k with
  | 0 => true
  | 1 => am_gw (am_pew c k) (.fieldLink (am_cn c) k "EchoCanyon$Command" "letter" "I")
  | 2 => am_gw (am_pew c k) (.fieldLink (am_cn c) k "EchoCanyon$Command" "form" "Ljava/lang/String;")
  | _ => false
/-- constants of the pool -/
def am_ck2 (c k : Nat) : Bool := (match am_kc c k with
    | none => true
    | some v => am_gw (am_kcw c k) (.constant (am_cn c) k v)) && (match am_kf c k with
    | none => true
    | some v => am_gw (am_kfw c k) (.constantFloat (am_cn c) k v)) && (match am_kl c k with
    | none => true
    | some v => am_gw (am_klw c k) (.constantLong (am_cn c) k v)) && (match am_kd c k with
    | none => true
    | some v => am_gw (am_kdw c k) (.constantDouble (am_cn c) k v)) && (match am_ks c k with
    | none => true
    | some j => Nat.beq c 14 && Nat.blt j 8 && Nat.beq k (am_li j))
def am_cc1 (c k : Nat) : Bool := match am_pc c k with
  | none => true
  | some x => am_gw (am_pcw c k) (.classLink (am_cn c) k (am_kC x)) && Nat.blt x 16 && Nat.beq (am_cls.getD x (RX1, TX1, 13)).2.2 (am_nf x) && (match am_ak x with
      | none => true
      | _ => false)
def am_all2 (f : Nat → Nat → Bool) : Bool := (List.range 21).all fun c => (List.range 1100).all fun k => f c k
theorem am_all2_at {f : Nat → Nat → Bool} (h : am_all2 f = true) {c k : Nat} (hc : c < 21) (hk : k < 1100) : f c k = true :=
  List.all_eq_true.mp (List.all_eq_true.mp h c (List.mem_range.mpr hc)) k (List.mem_range.mpr hk)
theorem am_bnd {α : Type} {c k n : Nat} {d e x : α} (h : (bif (Nat.ble n c || Nat.ble 1100 k) then d else e) = x) (hx : x ≠ d) : c < n ∧ k < 1100 ∧ e = x := by
  cases hc : (Nat.ble n c || Nat.ble 1100 k) with
  | true => rw [hc] at h; exact absurd h.symm hx
  | false =>
    rw [hc] at h
    rw [Bool.or_eq_false_iff] at hc
    exact ⟨Nat.lt_of_not_le fun q => by rw [Nat.ble_eq_true_of_le q] at hc; exact absurd hc.1 (by simp), Nat.lt_of_not_le fun q => by rw [Nat.ble_eq_true_of_le q] at hc; exact absurd hc.2 (by simp), h⟩
def am_cms (lo n : Nat) : Bool := (List.range n).all fun j => Nat.beq (lo + j) iL_law || am_cm (lo + j)
theorem am_wm0 : am_cms 0 4 = true := by decide +kernel
theorem am_wm4 : am_cms 4 8 = true := by decide +kernel
theorem am_wm12 : am_cms 12 2 = true := by decide +kernel
theorem am_wm14 : am_cms 14 3 = true := by decide +kernel
theorem am_wm17 : am_cms 17 4 = true := by decide +kernel
theorem am_wm21 : am_cms 21 4 = true := by decide +kernel
theorem am_wm25 : am_cms 25 4 = true := by decide +kernel
theorem am_wm29 : am_cms 29 3 = true := by decide +kernel
theorem am_wm32 : am_cms 32 10 = true := by decide +kernel
theorem am_wm42 : am_cms 42 12 = true := by decide +kernel
theorem am_wm54 : am_cms 54 8 = true := by decide +kernel
theorem am_wm62 : am_cms 62 11 = true := by decide +kernel
theorem am_wm73 : am_cms 73 4 = true := by decide +kernel
theorem am_wm77 : am_cms 77 9 = true := by decide +kernel
theorem am_wm86 : am_cms 86 8 = true := by decide +kernel
theorem am_wm94 : am_cms 94 8 = true := by decide +kernel
theorem am_wm102 : am_cms 102 2 = true := by decide +kernel
theorem am_wm104 : am_cms 104 6 = true := by decide +kernel
theorem am_wm110 : am_cms 110 4 = true := by decide +kernel
theorem am_wm114 : am_cms 114 4 = true := by decide +kernel
theorem am_wm118 : am_cms 118 4 = true := by decide +kernel
