/-! ANY INSTRUCTION that is no call and no end -/
section AMS
variable {D : va_G} {ca : Nat → ClassId} {B0 : Nat} {E : Nat → Nat} {L0 : Nat} {xs : Nat → Int32} {p : Program} {l : Launch} {e : Env} {R : Room} {s : State} {m : MethodId} {args : Array Value} {below : List Frame} {meth : Method} {c : Code} {y : Nat} {Q : State → Prop} {r0 ks0 : Nat → Nat} {n0 cells slots pc nx tg : Nat} {L : am_L} {st : List Value} {M : am_M} {x : am_C}

theorem am_s_tsw {d lo hi : Int} {offs : Array Int} (C : am_X D ca B0 E L0 xs l p s m args meth c y) (hd : decode (am_b y) pc = .ok (.tableswitch d lo hi offs, nx - pc)) (ho : am_ok1 (.tableswitch d lo hi offs) pc nx tg = true) (hs : am_stp y (.tableswitch d lo hi offs) pc nx tg L st M = some x) (k : am_W D ca B0 E L0 xs p l e R s m args below meth c y Q r0 ks0 n0 cells slots x.1 x.2.1 x.2.2.1 x.2.2.2) : am_W D ca B0 E L0 xs p l e R s m args below meth c y Q r0 ks0 n0 cells slots pc L st M := by
  obtain ⟨hx, hb, hml, hown, hts, hlk, hrt, hin, hK, hS0, hS2, hB0, hE, hst, het⟩ := C
  simp only [am_stp] at hs
  replace hs := am_i1_inv hs; obtain ⟨v, t, rfl, hs⟩ := hs
  cases ho2 : am_so d lo hi offs v with
  | none => rw [ho2] at hs; cases hs
  | some o =>
    rw [ho2] at hs
    dsimp only at hs
    split at hs
    · rename_i hpos
      cases hs
      have ht : (pc : Int) + o = ((((pc : Int) + o).toNat : Nat) : Int) := (Int.toNat_of_nonneg hpos).symm
      intro r ks H locs ls st1 he hR hV hl hL hk
      replace hk := am_Sk_tl hk; obtain ⟨st2, rfl, -, hk⟩ := hk
      unfold am_so at ho2
      split at ho2
      · rename_i hout
        cases ho2
        exact lv_tableOut hx hb hd hout ht (k r ks H locs ls _ he hR hV hl hL hk)
      · rename_i hin2
        exact lv_tableIn hx hb hd (fun q => hin2 (Or.inl q)) (fun q => hin2 (Or.inr q)) ho2 ht (k r ks H locs ls _ he hR hV hl hL hk)
    · cases hs
theorem am_s_lsw {d : Int} {ps : Array (Int × Int)} (C : am_X D ca B0 E L0 xs l p s m args meth c y) (hd : decode (am_b y) pc = .ok (.lookupswitch d ps, nx - pc)) (ho : am_ok1 (.lookupswitch d ps) pc nx tg = true) (hs : am_stp y (.lookupswitch d ps) pc nx tg L st M = some x) (k : am_W D ca B0 E L0 xs p l e R s m args below meth c y Q r0 ks0 n0 cells slots x.1 x.2.1 x.2.2.1 x.2.2.2) : am_W D ca B0 E L0 xs p l e R s m args below meth c y Q r0 ks0 n0 cells slots pc L st M := by
  obtain ⟨hx, hb, hml, hown, hts, hlk, hrt, hin, hK, hS0, hS2, hB0, hE, hst, het⟩ := C
  simp only [am_stp] at hs
  replace hs := am_i1_inv hs; obtain ⟨v, t, rfl, hs⟩ := hs
  split at hs
  · rename_i hz
    cases hs
    have ht : (pc : Int) + Op.lookupswitch.offset ps.toList d v.toInt = ((((pc : Int) + Op.lookupswitch.offset ps.toList d v.toInt).toNat : Nat) : Int) := (Int.toNat_of_nonneg hz.2).symm
    intro r ks H locs ls st1 he hR hV hl hL hk
    replace hk := am_Sk_tl hk; obtain ⟨st2, rfl, -, hk⟩ := hk
    exact lv_lookup hx hb hd hz.1 rfl ht (k r ks H locs ls _ he hR hV hl hL hk)
  · cases hs
theorem am_stp_ok {i : Instr} (C : am_X D ca B0 E L0 xs l p s m args meth c y) (hRf : 6 ≤ R.frames) (hRl : 200 ≤ R.locals) (hcl2 : cells + 0 ≤ R.cells ∧ slots + 0 ≤ R.slots) (h : am_pr y pc = some (i, nx, tg)) (hs : am_stp y i pc nx tg L st M = some x) (k : am_W D ca B0 E L0 xs p l e R s m args below meth c y Q r0 ks0 n0 cells slots x.1 x.2.1 x.2.2.1 x.2.2.2) : am_W D ca B0 E L0 xs p l e R s m args below meth c y Q r0 ks0 n0 cells slots pc L st M := by
  obtain ⟨hd, ho⟩ := am_pr_ok h
  cases i with
  | iconst n => exact am_s_iconst C hd ho hs k
  | bipush n => exact am_s_bipush C hd ho hs k
  | sipush n => exact am_s_sipush C hd ho hs k
  | lconst n => exact am_s_lconst C hd ho hs k
  | ldc n => exact am_s_ldc C hd ho hs k
  | ldc_w n => exact am_s_ldc_w C hd ho hs k
  | ldc2_w n => exact am_s_ldc2 C hd ho hs k
  | lload_n n => exact am_s_lload_n C hd ho hs k
  | lload n => exact am_s_lload C hd ho hs k
  | lstore_n n => exact am_s_lstore_n C hd ho hs k
  | lstore n => exact am_s_lstore C hd ho hs k
  | ladd => exact am_s_ladd C hd ho hs k
  | lmul => exact am_s_lmul C hd ho hs k
  | ishr => exact am_s_ishr C hd ho hs k
  | dconst n => exact am_s_dconst C hd ho hs k
  | fconst n => exact am_s_fconst C hd ho hs k
  | aconst_null => exact am_s_null C hd ho hs k
  | iload_n n => exact am_s_iload_n C hd ho hs k
  | iload n => exact am_s_iload C hd ho hs k
  | fload n => exact am_s_fload C hd ho hs k
  | dload n => exact am_s_dload C hd ho hs k
  | aload_n n => exact am_s_aload_n C hd ho hs k
  | aload n => exact am_s_aload C hd ho hs k
  | istore_n n => exact am_s_istore_n C hd ho hs k
  | istore n => exact am_s_istore C hd ho hs k
  | fstore n => exact am_s_fstore C hd ho hs k
  | dstore n => exact am_s_dstore C hd ho hs k
  | astore_n n => exact am_s_astore_n C hd ho hs k
  | astore n => exact am_s_astore C hd ho hs k
  | iinc n q => exact am_s_iinc C hd ho hs k
  | iadd => exact am_s_iadd C hd ho hs k
  | isub => exact am_s_isub C hd ho hs k
  | imul => exact am_s_imul C hd ho hs k
  | iand => exact am_s_iand C hd ho hs k
  | ior => exact am_s_ior C hd ho hs k
  | ishl => exact am_s_ishl C hd ho hs k
  | iushr => exact am_s_iushr C hd ho hs k
  | idiv => exact am_s_idiv C hd ho hs k
  | irem => exact am_s_irem C hd ho hs k
  | ineg => exact am_s_ineg C hd ho hs k
  | i2c => exact am_s_i2c C hd ho hs k
  | i2l => exact am_s_i2l C hd ho hs k
  | i2d => exact am_s_i2d C hd ho hs k
  | i2f => exact am_s_i2f C hd ho hs k
  | f2d => exact am_s_f2d C hd ho hs k
  | ddiv => exact am_s_ddiv C hd ho hs k
  | fdiv => exact am_s_fdiv C hd ho hs k
  | dcmp n => exact am_s_dcmp C hd ho hs k
  | fcmp n => exact am_s_fcmp C hd ho hs k
  | lcmp => exact am_s_lcmp C hd ho hs k
  | dup => exact am_s_dup C hd ho hs k
  | dup2 => exact am_s_dup2 C hd ho hs k
  | pop => exact am_s_pop C hd ho hs k
  | goto n => exact am_s_goto C hd ho hs k
  | ifCond n q => exact am_s_ifc C hd ho hs k
  | if_icmp n q => exact am_s_icmp C hd ho hs k
  | ifnonnull n => exact am_s_ifnonnull C hd ho hs k
  | if_acmp n q => exact am_s_acmp C hd ho hs k
  | tableswitch a b c d => exact am_s_tsw C hd ho hs k
  | lookupswitch a b => exact am_s_lsw C hd ho hs k
  | getstatic n => exact am_s_getstatic C hd ho hs k
  | getfield n => exact am_s_getfield C hd ho hs k
  | putfield n => exact am_s_putfield C hd ho hs k
  | arraylength => exact am_s_arraylength C hd ho hs k
  | iaload => exact am_s_iaload C hd ho hs k
  | caload => exact am_s_caload C hd ho hs k
  | laload => exact am_s_laload C hd ho hs k
  | baload => exact am_s_baload C hd ho hs k
  | aaload => exact am_s_aaload C hd ho hs k
  | iastore => exact am_s_iastore C hd ho hs k
  | castore => exact am_s_castore C hd ho hs k
  | lastore => exact am_s_lastore C hd ho hs k
  | bastore => exact am_s_bastore C hd ho hs k
  | aastore => exact am_s_aastore C hd ho hs k
  | invokespecial n => exact am_s_objinit C hRf hRl hd ho hs k
  | invokevirtual n => exact am_s_jvirt hcl2 C hRf hRl hd ho hs k
  | invokestatic n => exact am_s_invstatic hcl2 C hRf hRl hd ho hs k
  | _ => cases hs
end AMS
