/-! CHECKS of links, fields, classes against the words of the tables -/
/-- the words that every method is given beside its own -/
def am_G : List Cond := lw_tbl.filter goodWord
theorem am_G_in {i : Nat} {w : Cond} (h : lw_tbl[i]? = some w) (g : goodWord w = true) : w ∈ am_G := List.mem_filter.mpr ⟨List.mem_of_getElem? h, g⟩
def am_gw (i : Nat) (w : Cond) : Bool := decide (lw_tbl[i]? = some w) && goodWord w
theorem am_gw_in {i : Nat} {w : Cond} (h : am_gw i w = true) : w ∈ am_G := by
  unfold am_gw at h
  rw [Bool.and_eq_true, decide_eq_true_eq] at h
  exact am_G_in h.1 h.2
def am_cw (z : Nat) : Cond := match am_hh z with
  | [] => .code (am_y z) (am_b z) (am_ml z) (am_rt z)
  | hh => .codeWith (am_y z) (am_b z) (am_ml z) (am_rt z) hh
/-- a method's own words -/
def am_cm (z : Nat) : Bool := am_gw (am_wc z) (am_cw z) && am_gw (am_wi z) (bif am_ist z then .static (am_y z) else .instanceMethod (am_y z)) && am_gw (am_wn z) (.initialized (am_cn (am_cl z))) && plainName (am_y z).cls
  && decide ((am_y z).cls = am_cn (am_cl z)) && decide ((parseMethodDescriptor (am_y z).desc).map (fun d => d.parameters.length) = some (am_na z)) && decide ((am_y z).cls ≠ "java/lang/invoke/MethodHandle") && decide ((am_y z).cls ≠ "java/lang/invoke/VarHandle")
  && Nat.ble (am_ml z) 16 && (!(am_ini z) || decide ((am_y z).name = "<init>" ∧ am_rt z = none ∧ am_hh z = []))
/-- a link -/
def am_cl1 (c k : Nat) : Bool := match am_pm c k with
  | none => true
  | some (z, m) => (bif (Nat.beq m 2 || Nat.beq m 4) then decide (lw_tbl[am_pmw c k]? = some (.methodLinkNest (am_cn c) k (am_y z) "EchoCanyon")) else am_gw (am_pmw c k) (.methodLink (am_cn c) k (am_y z)))
    && (bif Nat.beq m 0 then (am_gw (am_wv z) (.selects (am_cn (am_cl z)) (am_y z) (am_y z)) && !(am_ist z) && (match am_hh z with
      | [] => true
      | _ => false)) else true)
    && (bif (Nat.beq m 1 || Nat.beq m 2) then (am_ist z && (match am_hh z with
      | [] => true
      | _ => false)) else true)
    && (bif (Nat.beq m 3 || Nat.beq m 4) then (am_ini z && !(am_ist z)) else true)
    && (bif Nat.beq m 5 then (am_ist z && (match am_hh z with
      | [] => false
      | _ => true)) else true)
    && Nat.ble m 5 && Nat.blt z 280 && !(Nat.beq z iL_law)
/-- a link to the JDK -/
def am_cj1 (c k : Nat) : Bool := match am_pj c k with
  | 0 => true
  | 1 => am_gw (am_pjw c k) (.methodLink (am_cn c) k ⟨"EchoCanyon$Command", "ordinal", "()I"⟩)
  | 2 => am_gw (am_pjw c k) (.methodLink (am_cn c) k ⟨"java/lang/String", "length", "()I"⟩)
  | 3 => am_gw (am_pjw c k) (.methodLink (am_cn c) k ⟨"java/lang/String", "charAt", "(I)C"⟩)
  | 4 => am_gw (am_pjw c k) (.methodLink (am_cn c) k arraycopyName)
  | 5 => am_gw (am_pjw c k) (.methodLink (am_cn c) k objectInit)
  | 6 => am_gw (am_pjw c k) (.methodLink (am_cn c) k Lib.Math.abs.name)
  | 7 => am_gw (am_pjw c k) (.methodLink (am_cn c) k Lib.Math.max.name)
  | 8 => am_gw (am_pjw c k) (.methodLink (am_cn c) k Lib.Math.min.name)
  | 9 => am_gw (am_pjw c k) (.methodLink (am_cn c) k yJ6_bitCount_0f7a4)
  | _ => false
def am_cls : List vw_C := [(RX1, TX1, 13), (RX1, TX1, 13), (RX1, TX1, 13), (RX3, TX3, 3), (RX4, TX4, 2), (RX5, TX5, 5), (RX6, TX6, 5), (RX7, TX7, 3), (RX8, TX8, 5), (RX9, TX9, 3), (RX10, TX10, 5), (RX11, TX11, 2), (RX12, TX12, 10), (RX13, TX13, 27)]
/-- an object's kind: its class, its fields, how many -/
def am_kT (x : Nat) : u_T := (am_cls.getD x (RX1, TX1, 13)).2.1
def am_kC (x : Nat) : String := (am_cls.getD x (RX1, TX1, 13)).1
def am_cf1 (c k : Nat) : Bool := match am_pf c k with
  | none => true
  | some (x, j, t, fin) => am_gw (am_pfw c k) (.fieldLink (am_cn c) k (am_kC x) (am_kT x j).2.1 (am_kT x j).2.2.1) && decide ((am_kT x j).1 = am_kC x) && Nat.blt j (am_nf x) && Nat.blt x 14 && decide ((am_kT x j).2.2.2 = fin)
    && Nat.ble t 2 && (am_isr x j == Nat.beq t 2) && (bif Nat.beq t 0 then decide (parseFieldDescriptor (am_kT x j).2.2.1 = some .int) else (bif Nat.beq t 1 then decide (parseFieldDescriptor (am_kT x j).2.2.1 = some .boolean) else true))
    && Nat.beq (am_cls.getD x (RX1, TX1, 13)).2.2 (am_nf x) && (match am_ak x with
      | none => true
      | _ => false)
def am_cs1 (c k : Nat) : Bool := match am_ps c k with
  | none => true
  | some a => (bif Nat.beq (a % 64) 40 then am_gw (am_psw c k) (.fieldLink (am_cn c) k "EchoCanyon$Command" (["WALL", "OWN", "PLAYER", "MOVE", "SHOUT", "BEAT", "CATCH", "WIND"].getD (a / 64) "") "LEchoCanyon$Command;")
    else (bif Nat.beq a 42 then am_gw (am_psw c k) (.fieldLink (am_cn c) k "EchoCanyon$Command" "ALL" "[LEchoCanyon$Command;")
    else (bif Nat.beq a 43 then am_gw (am_psw c k) (.fieldLink (am_cn c) k "EchoCanyon$1" "$SwitchMap$EchoCanyon$Command" "[I") else false))) && Nat.blt (a / 64) 8
def am_ce1 (c k : Nat) : Bool := match am_pe c k with
  | 0 => true
  | 1 => am_gw (am_pew c k) (.fieldLink (am_cn c) k "EchoCanyon$Command" "letter" "I")
  | 2 => am_gw (am_pew c k) (.fieldLink (am_cn c) k "EchoCanyon$Command" "form" "Ljava/lang/String;")
  | _ => false
def am_cc1 (c k : Nat) : Bool := match am_pc c k with
  | none => true
  | some x => am_gw (am_pcw c k) (.classLink (am_cn c) k (am_kC x)) && Nat.blt x 14 && Nat.beq (am_cls.getD x (RX1, TX1, 13)).2.2 (am_nf x) && (match am_ak x with
      | none => true
      | _ => false)
def am_all2 (f : Nat → Nat → Bool) : Bool := (List.range 15).all fun c => (List.range 512).all fun k => f c k
theorem am_all2_at {f : Nat → Nat → Bool} (h : am_all2 f = true) {c k : Nat} (hc : c < 15) (hk : k < 512) : f c k = true :=
  List.all_eq_true.mp (List.all_eq_true.mp h c (List.mem_range.mpr hc)) k (List.mem_range.mpr hk)
theorem am_bnd {α : Type} {c k n : Nat} {d e x : α} (h : (bif (Nat.ble n c || Nat.ble 512 k) then d else e) = x) (hx : x ≠ d) : c < n ∧ k < 512 ∧ e = x := by
  cases hc : (Nat.ble n c || Nat.ble 512 k) with
  | true => rw [hc] at h; exact absurd h.symm hx
  | false =>
    rw [hc] at h
    rw [Bool.or_eq_false_iff] at hc
    exact ⟨Nat.lt_of_not_le fun q => by rw [Nat.ble_eq_true_of_le q] at hc; exact absurd hc.1 (by simp), Nat.lt_of_not_le fun q => by rw [Nat.ble_eq_true_of_le q] at hc; exact absurd hc.2 (by simp), h⟩
def am_cms (lo n : Nat) : Bool := (List.range n).all fun j => Nat.beq (lo + j) iL_law || am_cm (lo + j)
theorem am_wm0 : am_cms 0 12 = true := by decide +kernel
theorem am_wm12 : am_cms 12 12 = true := by decide +kernel
theorem am_wm24 : am_cms 24 12 = true := by decide +kernel
theorem am_wm36 : am_cms 36 12 = true := by decide +kernel
theorem am_wm48 : am_cms 48 12 = true := by decide +kernel
theorem am_wm60 : am_cms 60 12 = true := by decide +kernel
theorem am_wm72 : am_cms 72 12 = true := by decide +kernel
theorem am_wm84 : am_cms 84 12 = true := by decide +kernel
theorem am_wm96 : am_cms 96 12 = true := by decide +kernel
theorem am_wm108 : am_cms 108 12 = true := by decide +kernel
theorem am_wm120 : am_cms 120 12 = true := by decide +kernel
theorem am_wm132 : am_cms 132 12 = true := by decide +kernel
theorem am_wm144 : am_cms 144 12 = true := by decide +kernel
theorem am_wm156 : am_cms 156 12 = true := by decide +kernel
theorem am_wm168 : am_cms 168 12 = true := by decide +kernel
theorem am_wm180 : am_cms 180 12 = true := by decide +kernel
theorem am_wm192 : am_cms 192 12 = true := by decide +kernel
theorem am_wm204 : am_cms 204 12 = true := by decide +kernel
theorem am_wm216 : am_cms 216 12 = true := by decide +kernel
theorem am_wm228 : am_cms 228 12 = true := by decide +kernel
theorem am_wm240 : am_cms 240 12 = true := by decide +kernel
theorem am_wm252 : am_cms 252 12 = true := by decide +kernel
theorem am_wm264 : am_cms 264 12 = true := by decide +kernel
theorem am_wm276 : am_cms 276 4 = true := by decide +kernel
theorem am_cms_at {lo n z : Nat} (h : am_cms lo n = true) (h1 : lo ≤ z) (h2 : z < lo + n) (h3 : z ≠ iL_law) : am_cm z = true := by
  have b := List.all_eq_true.mp h (z - lo) (List.mem_range.mpr (by omega))
  rw [show lo + (z - lo) = z by omega, Bool.or_eq_true] at b
  rcases b with b | b
  · exact absurd (Nat.eq_of_beq_eq_true b) h3
  · exact b
theorem am_wm {z : Nat} (h : z < 280) (h3 : z ≠ iL_law) : am_cm z = true := by
  rcases Nat.lt_or_ge z 12 with q | q
  · exact am_cms_at am_wm0 (by omega) (by omega) h3
  rcases Nat.lt_or_ge z 24 with q | q
  · exact am_cms_at am_wm12 (by omega) (by omega) h3
  rcases Nat.lt_or_ge z 36 with q | q
  · exact am_cms_at am_wm24 (by omega) (by omega) h3
  rcases Nat.lt_or_ge z 48 with q | q
  · exact am_cms_at am_wm36 (by omega) (by omega) h3
  rcases Nat.lt_or_ge z 60 with q | q
  · exact am_cms_at am_wm48 (by omega) (by omega) h3
  rcases Nat.lt_or_ge z 72 with q | q
  · exact am_cms_at am_wm60 (by omega) (by omega) h3
  rcases Nat.lt_or_ge z 84 with q | q
  · exact am_cms_at am_wm72 (by omega) (by omega) h3
  rcases Nat.lt_or_ge z 96 with q | q
  · exact am_cms_at am_wm84 (by omega) (by omega) h3
  rcases Nat.lt_or_ge z 108 with q | q
  · exact am_cms_at am_wm96 (by omega) (by omega) h3
  rcases Nat.lt_or_ge z 120 with q | q
  · exact am_cms_at am_wm108 (by omega) (by omega) h3
  rcases Nat.lt_or_ge z 132 with q | q
  · exact am_cms_at am_wm120 (by omega) (by omega) h3
  rcases Nat.lt_or_ge z 144 with q | q
  · exact am_cms_at am_wm132 (by omega) (by omega) h3
  rcases Nat.lt_or_ge z 156 with q | q
  · exact am_cms_at am_wm144 (by omega) (by omega) h3
  rcases Nat.lt_or_ge z 168 with q | q
  · exact am_cms_at am_wm156 (by omega) (by omega) h3
  rcases Nat.lt_or_ge z 180 with q | q
  · exact am_cms_at am_wm168 (by omega) (by omega) h3
  rcases Nat.lt_or_ge z 192 with q | q
  · exact am_cms_at am_wm180 (by omega) (by omega) h3
  rcases Nat.lt_or_ge z 204 with q | q
  · exact am_cms_at am_wm192 (by omega) (by omega) h3
  rcases Nat.lt_or_ge z 216 with q | q
  · exact am_cms_at am_wm204 (by omega) (by omega) h3
  rcases Nat.lt_or_ge z 228 with q | q
  · exact am_cms_at am_wm216 (by omega) (by omega) h3
  rcases Nat.lt_or_ge z 240 with q | q
  · exact am_cms_at am_wm228 (by omega) (by omega) h3
  rcases Nat.lt_or_ge z 252 with q | q
  · exact am_cms_at am_wm240 (by omega) (by omega) h3
  rcases Nat.lt_or_ge z 264 with q | q
  · exact am_cms_at am_wm252 (by omega) (by omega) h3
  rcases Nat.lt_or_ge z 276 with q | q
  · exact am_cms_at am_wm264 (by omega) (by omega) h3
  exact am_cms_at am_wm276 (by omega) (by omega) h3
theorem am_wl : am_all2 am_cl1 = true := by decide +kernel
theorem am_wj : am_all2 am_cj1 = true := by decide +kernel
theorem am_wf : am_all2 am_cf1 = true := by decide +kernel
theorem am_wsx : am_all2 am_cs1 = true := by decide +kernel
theorem am_we : am_all2 am_ce1 = true := by decide +kernel
theorem am_wcc : am_all2 am_cc1 = true := by decide +kernel
