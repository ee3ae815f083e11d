/-! THE JDK'S OWN: ordinal, length, charAt, Object's constructor, arraycopy -/
theorem am_GG : GoodIn am_G am_G := fun w h => ⟨h, good_of_word (List.mem_filter.mp h).2⟩
theorem am_GC {w : Cond} (h : w ∈ am_G) : GoodIn am_G (w :: am_G) := fun v hv => by
  rcases List.mem_cons.mp hv with e | e
  · subst e
    exact ⟨h, good_of_word (List.mem_filter.mp h).2⟩
  · exact am_GG v e
theorem am_GL {ws : List Cond} (h : ws.all (fun w => decide (w ∈ am_tbl) && goodWord w) = true) : ∀ w ∈ ws, w ∈ am_G := fun w hw => by
  have h1 := List.all_eq_true.mp h w hw
  rw [Bool.and_eq_true, decide_eq_true_eq] at h1
  exact List.mem_filter.mpr h1
/-- answers v, writes nothing -/
def am_qi (v : Option Value) : Array Value → State → Outcome → State → Prop := fun _ st oc t => oc = .returned v ∧ t.heap = st.heap
def am_Bs (E : Nat → Nat) (B0 L0 : Nat) (xs : Nat → Int32) (U : State) : Prop := am_S E B0 L0 xs U U.heap
theorem am_Bs_blind {E : Nat → Nat} {B0 L0 : Nat} {xs : Nat → Int32} {av : List Value} : FrameBlind (va_Pc av (am_Bs E B0 L0 xs)) := fun a U g mk h => ⟨h.1, am_S_moved (u := U) (U := U.calling g mk a) (Vm.Alike.refl U.vm) h.2⟩
section JRUN
variable {p : Program} {l : Launch} {e : Env} {R : Room} {s : State} {m : MethodId} {args : Array Value} {below : List Frame} {meth : Method} {c : Code} {H : Heap} {locs : List Loc} {cells slots pc : Nat} {Q : State → Prop} {ls : Array Slot} {st0 rest : List Value} {av : Array Value} {v : Option Value}
theorem am_runq (hr : va_Run p l e R s m args below meth c H locs cells slots 0 0 (F0 m pc ls st0) rest (am_qi v av) (fun _ => False))
    (k : W p l e R s m args below meth c H locs cells slots Q (F0 m (pc + 3) ls (v.toList ++ rest))) : W p l e R s m args below meth c H locs cells slots Q (F0 m pc ls st0) := by
  intro T hT X
  obtain ⟨w, st₀, t, T', L, h0, X', hL, e1, e2, ⟨hv, hh⟩, st⟩ := hr T hT X
  cases hv
  have hL0 : L = [] := List.eq_nil_iff_forall_not_mem.mpr fun q hq => hL q hq
  subst hL0
  rw [List.append_nil] at X'
  obtain ⟨t2, a1, b1⟩ := k T' (by rw [e1, hh, h0]) X'
  exact ⟨t2, st t2 a1, b1⟩
end JRUN
def am_jw : List Cond := [.fieldLink "java/lang/Enum" 7 "java/lang/Enum" "ordinal" "I", .code yJx29ce0_ordinal_8abf5 cJx29ce0_ordinal_8abf5 1 (some .int), .sameMethod "EchoCanyon$Command" "java/lang/Enum" "ordinal" "()I", .selects "EchoCanyon$Command" ⟨"EchoCanyon$Command", "ordinal", "()I"⟩ yJx29ce0_ordinal_8abf5, .instanceMethod yJx29ce0_ordinal_8abf5, .initialized "java/lang/Enum",
  .fieldLink RJ0 9 "java/lang/String" "value" "[B", .methodLink RJ0 335 yJ0_coder_7d493, .instanceMethod yJ0_coder_7d493, .selects RJ0 yJ0_coder_7d493 yJ0_coder_7d493, .initialized RJ0, .code yJ0_coder_7d493 cJ0_coder_7d493 1 (some .byte), .fieldLink RJ0 38 "java/lang/String" "COMPACT_STRINGS" "Z", .fieldLink RJ0 15 "java/lang/String" "coder" "B",
  .code yJ0_length_8abf5 cJ0_length_8abf5 1 (some .int), .instanceMethod yJ0_length_8abf5, .selects RJ0 yJ0_length_8abf5 yJ0_length_8abf5,
  .code yJ0_charAt_5068e cJ0_charAt_5068e 2 (some .char), .instanceMethod yJ0_charAt_5068e, .selects RJ0 yJ0_charAt_5068e yJ0_charAt_5068e, .methodLink RJ0 492 yJ0_isLatin1_aae02, .instanceMethod yJ0_isLatin1_aae02, .selects RJ0 yJ0_isLatin1_aae02 yJ0_isLatin1_aae02, .code yJ0_isLatin1_aae02 cJ0_isLatin1_aae02 1 (some .boolean),
  .methodLink RJ0 495 yJ1_charAt_3b067, .static yJ1_charAt_3b067, .initialized RJ1, .code yJ1_charAt_3b067 cJ1_charAt_3b067 2 (some .char), .methodLink RJ1 9 yJ0_checkIndex_df160, .static yJ0_checkIndex_df160, .code yJ0_checkIndex_df160 cJ0_checkIndex_df160 2 none, .fieldLink RJ0 1053 "jdk/internal/util/Preconditions" "SIOOBE_FORMATTER" "Ljava/util/function/BiFunction;",
  .methodLink RJ0 1059 yJ3_checkIndex_8e157, .static yJ3_checkIndex_8e157, .initialized RJ3, .code yJ3_checkIndex_8e157 cJ3_checkIndex_8e157 3 (some .int),
  .instanceMethod objectInit, .code objectInit ⟨#[0xb1]⟩ 1 none, .native arraycopyName, .static arraycopyName, .initialized "java/lang/System",
  .constant RJ6 265 1431655765, .constant RJ6 266 858993459, .constant RJ6 267 252645135, .code yJ6_bitCount_0f7a4 cJ6_bitCount_0f7a4 1 (some .int), .static yJ6_bitCount_0f7a4, .initialized RJ6,
  .static Lib.Math.abs.name, .initialized "java/lang/Math", .code Lib.Math.abs.name Lib.Math.abs.code 1 (some .int), .static Lib.Math.max.name, .code Lib.Math.max.name Lib.Math.max.code 2 (some .int), .static Lib.Math.min.name, .code Lib.Math.min.name Lib.Math.min.code 2 (some .int)]
theorem am_jw_in : ∀ w ∈ am_jw, w ∈ am_G := am_GL (by decide +kernel)

theorem dJ6_bitCount_0f7a4_0 : decode cJ6_bitCount_0f7a4 0 = .ok (.iload_n 0, 1) := by decide +kernel
theorem dJ6_bitCount_0f7a4_1 : decode cJ6_bitCount_0f7a4 1 = .ok (.iload_n 0, 1) := by decide +kernel
theorem dJ6_bitCount_0f7a4_2 : decode cJ6_bitCount_0f7a4 2 = .ok (.iconst 1, 1) := by decide +kernel
theorem dJ6_bitCount_0f7a4_3 : decode cJ6_bitCount_0f7a4 3 = .ok (.iushr, 1) := by decide +kernel
theorem dJ6_bitCount_0f7a4_4 : decode cJ6_bitCount_0f7a4 4 = .ok (.ldc_w 265, 3) := by decide +kernel
theorem dJ6_bitCount_0f7a4_7 : decode cJ6_bitCount_0f7a4 7 = .ok (.iand, 1) := by decide +kernel
theorem dJ6_bitCount_0f7a4_8 : decode cJ6_bitCount_0f7a4 8 = .ok (.isub, 1) := by decide +kernel
theorem dJ6_bitCount_0f7a4_9 : decode cJ6_bitCount_0f7a4 9 = .ok (.istore_n 0, 1) := by decide +kernel
theorem dJ6_bitCount_0f7a4_10 : decode cJ6_bitCount_0f7a4 10 = .ok (.iload_n 0, 1) := by decide +kernel
theorem dJ6_bitCount_0f7a4_11 : decode cJ6_bitCount_0f7a4 11 = .ok (.ldc_w 266, 3) := by decide +kernel
theorem dJ6_bitCount_0f7a4_14 : decode cJ6_bitCount_0f7a4 14 = .ok (.iand, 1) := by decide +kernel
theorem dJ6_bitCount_0f7a4_15 : decode cJ6_bitCount_0f7a4 15 = .ok (.iload_n 0, 1) := by decide +kernel
theorem dJ6_bitCount_0f7a4_16 : decode cJ6_bitCount_0f7a4 16 = .ok (.iconst 2, 1) := by decide +kernel
theorem dJ6_bitCount_0f7a4_17 : decode cJ6_bitCount_0f7a4 17 = .ok (.iushr, 1) := by decide +kernel
theorem dJ6_bitCount_0f7a4_18 : decode cJ6_bitCount_0f7a4 18 = .ok (.ldc_w 266, 3) := by decide +kernel
theorem dJ6_bitCount_0f7a4_21 : decode cJ6_bitCount_0f7a4 21 = .ok (.iand, 1) := by decide +kernel
theorem dJ6_bitCount_0f7a4_22 : decode cJ6_bitCount_0f7a4 22 = .ok (.iadd, 1) := by decide +kernel
theorem dJ6_bitCount_0f7a4_23 : decode cJ6_bitCount_0f7a4 23 = .ok (.istore_n 0, 1) := by decide +kernel
theorem dJ6_bitCount_0f7a4_24 : decode cJ6_bitCount_0f7a4 24 = .ok (.iload_n 0, 1) := by decide +kernel
theorem dJ6_bitCount_0f7a4_25 : decode cJ6_bitCount_0f7a4 25 = .ok (.iload_n 0, 1) := by decide +kernel
theorem dJ6_bitCount_0f7a4_26 : decode cJ6_bitCount_0f7a4 26 = .ok (.iconst 4, 1) := by decide +kernel
theorem dJ6_bitCount_0f7a4_27 : decode cJ6_bitCount_0f7a4 27 = .ok (.iushr, 1) := by decide +kernel
theorem dJ6_bitCount_0f7a4_28 : decode cJ6_bitCount_0f7a4 28 = .ok (.iadd, 1) := by decide +kernel
theorem dJ6_bitCount_0f7a4_29 : decode cJ6_bitCount_0f7a4 29 = .ok (.ldc_w 267, 3) := by decide +kernel
theorem dJ6_bitCount_0f7a4_32 : decode cJ6_bitCount_0f7a4 32 = .ok (.iand, 1) := by decide +kernel
theorem dJ6_bitCount_0f7a4_33 : decode cJ6_bitCount_0f7a4 33 = .ok (.istore_n 0, 1) := by decide +kernel
theorem dJ6_bitCount_0f7a4_34 : decode cJ6_bitCount_0f7a4 34 = .ok (.iload_n 0, 1) := by decide +kernel
theorem dJ6_bitCount_0f7a4_35 : decode cJ6_bitCount_0f7a4 35 = .ok (.iload_n 0, 1) := by decide +kernel
theorem dJ6_bitCount_0f7a4_36 : decode cJ6_bitCount_0f7a4 36 = .ok (.bipush 8, 2) := by decide +kernel
theorem dJ6_bitCount_0f7a4_38 : decode cJ6_bitCount_0f7a4 38 = .ok (.iushr, 1) := by decide +kernel
theorem dJ6_bitCount_0f7a4_39 : decode cJ6_bitCount_0f7a4 39 = .ok (.iadd, 1) := by decide +kernel
theorem dJ6_bitCount_0f7a4_40 : decode cJ6_bitCount_0f7a4 40 = .ok (.istore_n 0, 1) := by decide +kernel
theorem dJ6_bitCount_0f7a4_41 : decode cJ6_bitCount_0f7a4 41 = .ok (.iload_n 0, 1) := by decide +kernel
theorem dJ6_bitCount_0f7a4_42 : decode cJ6_bitCount_0f7a4 42 = .ok (.iload_n 0, 1) := by decide +kernel
theorem dJ6_bitCount_0f7a4_43 : decode cJ6_bitCount_0f7a4 43 = .ok (.bipush 16, 2) := by decide +kernel
theorem dJ6_bitCount_0f7a4_45 : decode cJ6_bitCount_0f7a4 45 = .ok (.iushr, 1) := by decide +kernel
theorem dJ6_bitCount_0f7a4_46 : decode cJ6_bitCount_0f7a4 46 = .ok (.iadd, 1) := by decide +kernel
theorem dJ6_bitCount_0f7a4_47 : decode cJ6_bitCount_0f7a4 47 = .ok (.istore_n 0, 1) := by decide +kernel
theorem dJ6_bitCount_0f7a4_48 : decode cJ6_bitCount_0f7a4 48 = .ok (.iload_n 0, 1) := by decide +kernel
theorem dJ6_bitCount_0f7a4_49 : decode cJ6_bitCount_0f7a4 49 = .ok (.bipush 63, 2) := by decide +kernel
theorem dJ6_bitCount_0f7a4_51 : decode cJ6_bitCount_0f7a4 51 = .ok (.iand, 1) := by decide +kernel
theorem dJ6_bitCount_0f7a4_52 : decode cJ6_bitCount_0f7a4 52 = .ok (.ireturn, 1) := by decide +kernel
theorem dJ0_length_8abf5_0 : decode cJ0_length_8abf5 0 = .ok (.aload_n 0, 1) := by decide +kernel
theorem dJ0_length_8abf5_1 : decode cJ0_length_8abf5 1 = .ok (.getfield 9, 3) := by decide +kernel
theorem dJ0_length_8abf5_4 : decode cJ0_length_8abf5 4 = .ok (.arraylength, 1) := by decide +kernel
theorem dJ0_length_8abf5_5 : decode cJ0_length_8abf5 5 = .ok (.aload_n 0, 1) := by decide +kernel
theorem dJ0_length_8abf5_6 : decode cJ0_length_8abf5 6 = .ok (.invokevirtual 335, 3) := by decide +kernel
theorem dJ0_length_8abf5_9 : decode cJ0_length_8abf5 9 = .ok (.ishr, 1) := by decide +kernel
theorem dJ0_length_8abf5_10 : decode cJ0_length_8abf5 10 = .ok (.ireturn, 1) := by decide +kernel
theorem dJ0_charAt_5068e_0 : decode cJ0_charAt_5068e 0 = .ok (.aload_n 0, 1) := by decide +kernel
theorem dJ0_charAt_5068e_1 : decode cJ0_charAt_5068e 1 = .ok (.invokevirtual 492, 3) := by decide +kernel
theorem dJ0_charAt_5068e_4 : decode cJ0_charAt_5068e 4 = .ok (.ifCond .eq 12, 3) := by decide +kernel
theorem dJ0_charAt_5068e_7 : decode cJ0_charAt_5068e 7 = .ok (.aload_n 0, 1) := by decide +kernel
theorem dJ0_charAt_5068e_8 : decode cJ0_charAt_5068e 8 = .ok (.getfield 9, 3) := by decide +kernel
theorem dJ0_charAt_5068e_11 : decode cJ0_charAt_5068e 11 = .ok (.iload_n 1, 1) := by decide +kernel
theorem dJ0_charAt_5068e_12 : decode cJ0_charAt_5068e 12 = .ok (.invokestatic 495, 3) := by decide +kernel
theorem dJ0_charAt_5068e_15 : decode cJ0_charAt_5068e 15 = .ok (.ireturn, 1) := by decide +kernel
theorem dJ0_charAt_5068e_16 : decode cJ0_charAt_5068e 16 = .ok (.aload_n 0, 1) := by decide +kernel
theorem dJ0_charAt_5068e_17 : decode cJ0_charAt_5068e 17 = .ok (.getfield 9, 3) := by decide +kernel
theorem dJ0_charAt_5068e_20 : decode cJ0_charAt_5068e 20 = .ok (.iload_n 1, 1) := by decide +kernel
theorem dJ0_charAt_5068e_21 : decode cJ0_charAt_5068e 21 = .ok (.invokestatic 498, 3) := by decide +kernel
theorem dJ0_charAt_5068e_24 : decode cJ0_charAt_5068e 24 = .ok (.ireturn, 1) := by decide +kernel
theorem dJ0_coder_7d493_0 : decode cJ0_coder_7d493 0 = .ok (.getstatic 38, 3) := by decide +kernel
theorem dJ0_coder_7d493_3 : decode cJ0_coder_7d493 3 = .ok (.ifCond .eq 10, 3) := by decide +kernel
theorem dJ0_coder_7d493_6 : decode cJ0_coder_7d493 6 = .ok (.aload_n 0, 1) := by decide +kernel
theorem dJ0_coder_7d493_7 : decode cJ0_coder_7d493 7 = .ok (.getfield 15, 3) := by decide +kernel
theorem dJ0_coder_7d493_10 : decode cJ0_coder_7d493 10 = .ok (.goto 4, 3) := by decide +kernel
theorem dJ0_coder_7d493_13 : decode cJ0_coder_7d493 13 = .ok (.iconst 1, 1) := by decide +kernel
theorem dJ0_coder_7d493_14 : decode cJ0_coder_7d493 14 = .ok (.ireturn, 1) := by decide +kernel
theorem dJ0_isLatin1_aae02_0 : decode cJ0_isLatin1_aae02 0 = .ok (.getstatic 38, 3) := by decide +kernel
theorem dJ0_isLatin1_aae02_3 : decode cJ0_isLatin1_aae02 3 = .ok (.ifCond .eq 14, 3) := by decide +kernel
theorem dJ0_isLatin1_aae02_6 : decode cJ0_isLatin1_aae02 6 = .ok (.aload_n 0, 1) := by decide +kernel
theorem dJ0_isLatin1_aae02_7 : decode cJ0_isLatin1_aae02 7 = .ok (.getfield 15, 3) := by decide +kernel
theorem dJ0_isLatin1_aae02_10 : decode cJ0_isLatin1_aae02 10 = .ok (.ifCond .ne 7, 3) := by decide +kernel
theorem dJ0_isLatin1_aae02_13 : decode cJ0_isLatin1_aae02 13 = .ok (.iconst 1, 1) := by decide +kernel
theorem dJ0_isLatin1_aae02_14 : decode cJ0_isLatin1_aae02 14 = .ok (.goto 4, 3) := by decide +kernel
theorem dJ0_isLatin1_aae02_17 : decode cJ0_isLatin1_aae02 17 = .ok (.iconst 0, 1) := by decide +kernel
theorem dJ0_isLatin1_aae02_18 : decode cJ0_isLatin1_aae02 18 = .ok (.ireturn, 1) := by decide +kernel
theorem dJ0_checkIndex_df160_0 : decode cJ0_checkIndex_df160 0 = .ok (.iload_n 0, 1) := by decide +kernel
theorem dJ0_checkIndex_df160_1 : decode cJ0_checkIndex_df160 1 = .ok (.iload_n 1, 1) := by decide +kernel
theorem dJ0_checkIndex_df160_2 : decode cJ0_checkIndex_df160 2 = .ok (.getstatic 1053, 3) := by decide +kernel
theorem dJ0_checkIndex_df160_5 : decode cJ0_checkIndex_df160 5 = .ok (.invokestatic 1059, 3) := by decide +kernel
theorem dJ0_checkIndex_df160_8 : decode cJ0_checkIndex_df160 8 = .ok (.pop, 1) := by decide +kernel
theorem dJ0_checkIndex_df160_9 : decode cJ0_checkIndex_df160 9 = .ok (.return_, 1) := by decide +kernel
theorem dJ1_charAt_3b067_0 : decode cJ1_charAt_3b067 0 = .ok (.iload_n 1, 1) := by decide +kernel
theorem dJ1_charAt_3b067_1 : decode cJ1_charAt_3b067 1 = .ok (.aload_n 0, 1) := by decide +kernel
theorem dJ1_charAt_3b067_2 : decode cJ1_charAt_3b067 2 = .ok (.arraylength, 1) := by decide +kernel
theorem dJ1_charAt_3b067_3 : decode cJ1_charAt_3b067 3 = .ok (.invokestatic 9, 3) := by decide +kernel
theorem dJ1_charAt_3b067_6 : decode cJ1_charAt_3b067 6 = .ok (.aload_n 0, 1) := by decide +kernel
theorem dJ1_charAt_3b067_7 : decode cJ1_charAt_3b067 7 = .ok (.iload_n 1, 1) := by decide +kernel
theorem dJ1_charAt_3b067_8 : decode cJ1_charAt_3b067 8 = .ok (.baload, 1) := by decide +kernel
theorem dJ1_charAt_3b067_9 : decode cJ1_charAt_3b067 9 = .ok (.sipush 255, 3) := by decide +kernel
theorem dJ1_charAt_3b067_12 : decode cJ1_charAt_3b067 12 = .ok (.iand, 1) := by decide +kernel
theorem dJ1_charAt_3b067_13 : decode cJ1_charAt_3b067 13 = .ok (.i2c, 1) := by decide +kernel
theorem dJ1_charAt_3b067_14 : decode cJ1_charAt_3b067 14 = .ok (.ireturn, 1) := by decide +kernel
theorem dJ3_checkIndex_8e157_0 : decode cJ3_checkIndex_8e157 0 = .ok (.iload_n 0, 1) := by decide +kernel
theorem dJ3_checkIndex_8e157_1 : decode cJ3_checkIndex_8e157 1 = .ok (.ifCond .lt 8, 3) := by decide +kernel
theorem dJ3_checkIndex_8e157_4 : decode cJ3_checkIndex_8e157 4 = .ok (.iload_n 0, 1) := by decide +kernel
theorem dJ3_checkIndex_8e157_5 : decode cJ3_checkIndex_8e157 5 = .ok (.iload_n 1, 1) := by decide +kernel
theorem dJ3_checkIndex_8e157_6 : decode cJ3_checkIndex_8e157 6 = .ok (.if_icmp .lt 10, 3) := by decide +kernel
theorem dJ3_checkIndex_8e157_9 : decode cJ3_checkIndex_8e157 9 = .ok (.aload_n 2, 1) := by decide +kernel
theorem dJ3_checkIndex_8e157_10 : decode cJ3_checkIndex_8e157 10 = .ok (.iload_n 0, 1) := by decide +kernel
theorem dJ3_checkIndex_8e157_11 : decode cJ3_checkIndex_8e157 11 = .ok (.iload_n 1, 1) := by decide +kernel
theorem dJ3_checkIndex_8e157_12 : decode cJ3_checkIndex_8e157 12 = .ok (.invokestatic 95, 3) := by decide +kernel
theorem dJ3_checkIndex_8e157_15 : decode cJ3_checkIndex_8e157 15 = .ok (.athrow, 1) := by decide +kernel
theorem dJ3_checkIndex_8e157_16 : decode cJ3_checkIndex_8e157 16 = .ok (.iload_n 0, 1) := by decide +kernel
theorem dJ3_checkIndex_8e157_17 : decode cJ3_checkIndex_8e157 17 = .ok (.ireturn, 1) := by decide +kernel
theorem dJx29ce0_ordinal_8abf5_0 : decode cJx29ce0_ordinal_8abf5 0 = .ok (.aload_n 0, 1) := by decide +kernel
theorem dJx29ce0_ordinal_8abf5_1 : decode cJx29ce0_ordinal_8abf5 1 = .ok (.getfield 7, 3) := by decide +kernel
theorem dJx29ce0_ordinal_8abf5_4 : decode cJx29ce0_ordinal_8abf5 4 = .ok (.ireturn, 1) := by decide +kernel
set_option maxRecDepth 100000 in
theorem am_m_ord (l : Launch) (E : Nat → Nat) (B0 L0 : Nat) (xs : Nat → Int32) (i : Nat) (hi : i < 8) : Met l yJx29ce0_ordinal_8abf5 (.code yJx29ce0_ordinal_8abf5 cJx29ce0_ordinal_8abf5 1 (some .int) :: am_G) ({ frames := 0, cells := 0, slots := 0, locals := 0 }) (va_Pc [.ref (E (64 * i + 40))] (am_Bs E B0 L0 xs)) (am_qi (some (.int (Int32.ofNat i)))) 0 0 (fun _ => False) := by
  refine va_MetF (cc := cJx29ce0_ordinal_8abf5) (maxL := 1) (ret := some .int) (by first | decide | decide +kernel) rfl ?_
  intro p e s m args below meth c s₁ B hml hv
  obtain ⟨rfl, hS0⟩ := hv
  have hx := B.exec
  have hb := B.bytes
  have hr := B.returns
  have hts0 := atoms_spec (ws := .code yJx29ce0_ordinal_8abf5 cJx29ce0_ordinal_8abf5 1 (some .int) :: am_G) B.pre
  have hts : ∀ w ∈ am_G, w.before _ s = true := fun w hw => hts0 w (List.mem_cons_of_mem _ hw)
  have hown : s.vm.findClass yJx29ce0_ordinal_8abf5.cls = some m.cls := findClass_of_methodNamed B.named
  have hlocks := B.notSynchronized
  have hl := lv_entry ([.ref (E (64 * i + 40))]) (n := 1) (Nat.le_of_ble_eq_true rfl)
  rw [lg_entry_eq]
  generalize (lg_sl ([.ref (E (64 * i + 40))]) ++ List.replicate (1 - (lg_sl ([.ref (E (64 * i + 40))])).length) Slot.unset).toArray = ls at hl ⊢
  have hw := fun w h => hts w (am_jw_in w h)
  refine lv_aload_n hx hb dJx29ce0_ordinal_8abf5_0 rfl (lv_at hl 0 rfl) ?_
  have hof := (hS0.1.1 i hi).2.2 _ List.mem_cons_self
  dsimp only at hof
  rw [am_oN i hi] at hof
  refine vk_getf hx hb hof va_S.rf hown (hw _ (List.mem_of_getElem? (i := 0) rfl)) (fun _ h => h) dJx29ce0_ordinal_8abf5_1 ?_
  exact W.iret hx hb hr (fun t ht _ => ⟨rfl, ht⟩) (fun q h => by cases h) dJx29ce0_ordinal_8abf5_4
set_option maxRecDepth 100000 in
theorem am_m_bc (l : Launch) (E : Nat → Nat) (B0 L0 : Nat) (xs : Nat → Int32) (a : Int32)  : Met l yJ6_bitCount_0f7a4 (.code yJ6_bitCount_0f7a4 cJ6_bitCount_0f7a4 1 (some .int) :: am_G) ({ frames := 0, cells := 0, slots := 0, locals := 0 }) (va_Pc [.int a] (am_Bs E B0 L0 xs)) (am_qi (some (.int (am_bc a)))) 0 0 (fun _ => False) := by
  refine va_MetF (cc := cJ6_bitCount_0f7a4) (maxL := 1) (ret := some .int) (by first | decide | decide +kernel) rfl ?_
  intro p e s m args below meth c s₁ B hml hv
  obtain ⟨rfl, hS0⟩ := hv
  have hx := B.exec
  have hb := B.bytes
  have hr := B.returns
  have hts0 := atoms_spec (ws := .code yJ6_bitCount_0f7a4 cJ6_bitCount_0f7a4 1 (some .int) :: am_G) B.pre
  have hts : ∀ w ∈ am_G, w.before _ s = true := fun w hw => hts0 w (List.mem_cons_of_mem _ hw)
  have hown : s.vm.findClass yJ6_bitCount_0f7a4.cls = some m.cls := findClass_of_methodNamed B.named
  have hlocks := B.notSynchronized
  have hl := lv_entry ([.int a]) (n := 1) (Nat.le_of_ble_eq_true rfl)
  rw [lg_entry_eq]
  generalize (lg_sl ([.int a]) ++ List.replicate (1 - (lg_sl ([.int a])).length) Slot.unset).toArray = ls at hl ⊢
  have hw := fun w h => hts w (am_jw_in w h)
  refine lv_iload_n hx hb dJ6_bitCount_0f7a4_0 rfl (lv_at hl 0 rfl) ?_
  refine lv_iload_n hx hb dJ6_bitCount_0f7a4_1 rfl (lv_at hl 0 rfl) ?_
  refine lv_iconst (v := 1) hx hb dJ6_bitCount_0f7a4_2 (by decide) ?_
  refine lv_iushr hx hb dJ6_bitCount_0f7a4_3 rfl ?_
  refine lv_ldcw hx hb hown (hw _ (List.mem_of_getElem? (i := 41) rfl)) dJ6_bitCount_0f7a4_4 ?_
  refine lv_iand hx hb dJ6_bitCount_0f7a4_7 ?_
  refine lv_isub hx hb dJ6_bitCount_0f7a4_8 ?_
  refine lv_istore_n (lv' := [(0, .int (am_bc1 a))]) hx hb dJ6_bitCount_0f7a4_9 rfl hl (by decide) rfl (fun ls hl => ?_)
  refine lv_iload_n hx hb dJ6_bitCount_0f7a4_10 rfl (lv_at hl 0 rfl) ?_
  refine lv_ldcw hx hb hown (hw _ (List.mem_of_getElem? (i := 42) rfl)) dJ6_bitCount_0f7a4_11 ?_
  refine lv_iand hx hb dJ6_bitCount_0f7a4_14 ?_
  refine lv_iload_n hx hb dJ6_bitCount_0f7a4_15 rfl (lv_at hl 0 rfl) ?_
  refine lv_iconst (v := 2) hx hb dJ6_bitCount_0f7a4_16 (by decide) ?_
  refine lv_iushr hx hb dJ6_bitCount_0f7a4_17 rfl ?_
  refine lv_ldcw hx hb hown (hw _ (List.mem_of_getElem? (i := 42) rfl)) dJ6_bitCount_0f7a4_18 ?_
  refine lv_iand hx hb dJ6_bitCount_0f7a4_21 ?_
  refine lv_iadd hx hb dJ6_bitCount_0f7a4_22 ?_
  refine lv_istore_n (lv' := [(0, .int (am_bc2 (am_bc1 a)))]) hx hb dJ6_bitCount_0f7a4_23 rfl hl (by decide) rfl (fun ls hl => ?_)
  refine lv_iload_n hx hb dJ6_bitCount_0f7a4_24 rfl (lv_at hl 0 rfl) ?_
  refine lv_iload_n hx hb dJ6_bitCount_0f7a4_25 rfl (lv_at hl 0 rfl) ?_
  refine lv_iconst (v := 4) hx hb dJ6_bitCount_0f7a4_26 (by decide) ?_
  refine lv_iushr hx hb dJ6_bitCount_0f7a4_27 rfl ?_
  refine lv_iadd hx hb dJ6_bitCount_0f7a4_28 ?_
  refine lv_ldcw hx hb hown (hw _ (List.mem_of_getElem? (i := 43) rfl)) dJ6_bitCount_0f7a4_29 ?_
  refine lv_iand hx hb dJ6_bitCount_0f7a4_32 ?_
  refine lv_istore_n (lv' := [(0, .int (am_bc3 (am_bc2 (am_bc1 a))))]) hx hb dJ6_bitCount_0f7a4_33 rfl hl (by decide) rfl (fun ls hl => ?_)
  refine lv_iload_n hx hb dJ6_bitCount_0f7a4_34 rfl (lv_at hl 0 rfl) ?_
  refine lv_iload_n hx hb dJ6_bitCount_0f7a4_35 rfl (lv_at hl 0 rfl) ?_
  refine lv_bipush (v := 8) hx hb dJ6_bitCount_0f7a4_36 (by decide) ?_
  refine lv_iushr hx hb dJ6_bitCount_0f7a4_38 rfl ?_
  refine lv_iadd hx hb dJ6_bitCount_0f7a4_39 ?_
  refine lv_istore_n (lv' := [(0, .int (am_bc4 (am_bc3 (am_bc2 (am_bc1 a)))))]) hx hb dJ6_bitCount_0f7a4_40 rfl hl (by decide) rfl (fun ls hl => ?_)
  refine lv_iload_n hx hb dJ6_bitCount_0f7a4_41 rfl (lv_at hl 0 rfl) ?_
  refine lv_iload_n hx hb dJ6_bitCount_0f7a4_42 rfl (lv_at hl 0 rfl) ?_
  refine lv_bipush (v := 16) hx hb dJ6_bitCount_0f7a4_43 (by decide) ?_
  refine lv_iushr hx hb dJ6_bitCount_0f7a4_45 rfl ?_
  refine lv_iadd hx hb dJ6_bitCount_0f7a4_46 ?_
  refine lv_istore_n (lv' := [(0, .int (am_bc5 (am_bc4 (am_bc3 (am_bc2 (am_bc1 a))))))]) hx hb dJ6_bitCount_0f7a4_47 rfl hl (by decide) rfl (fun ls hl => ?_)
  refine lv_iload_n hx hb dJ6_bitCount_0f7a4_48 rfl (lv_at hl 0 rfl) ?_
  refine lv_bipush (v := 63) hx hb dJ6_bitCount_0f7a4_49 (by decide) ?_
  refine lv_iand hx hb dJ6_bitCount_0f7a4_51 ?_
  exact W.iret hx hb hr (fun t ht _ => ⟨rfl, ht⟩) (fun q h => by cases h) dJ6_bitCount_0f7a4_52
set_option maxRecDepth 100000 in
theorem am_m_coder (l : Launch) (E : Nat → Nat) (B0 L0 : Nat) (xs : Nat → Int32) (i : Nat) (hi : i < 7) : Met l yJ0_coder_7d493 (.code yJ0_coder_7d493 cJ0_coder_7d493 1 (some .byte) :: am_G) ({ frames := 0, cells := 0, slots := 0, locals := 0 }) (va_Pc [.ref (E (64 * i + 41))] (am_Bs E B0 L0 xs)) (am_qi (some (.int 0))) 0 0 (fun _ => False) := by
  refine va_MetF (cc := cJ0_coder_7d493) (maxL := 1) (ret := some .byte) (by first | decide | decide +kernel) rfl ?_
  intro p e s m args below meth c s₁ B hml hv
  obtain ⟨rfl, hS0⟩ := hv
  have hx := B.exec
  have hb := B.bytes
  have hr := B.returns
  have hts0 := atoms_spec (ws := .code yJ0_coder_7d493 cJ0_coder_7d493 1 (some .byte) :: am_G) B.pre
  have hts : ∀ w ∈ am_G, w.before _ s = true := fun w hw => hts0 w (List.mem_cons_of_mem _ hw)
  have hown : s.vm.findClass yJ0_coder_7d493.cls = some m.cls := findClass_of_methodNamed B.named
  have hlocks := B.notSynchronized
  have hl := lv_entry ([.ref (E (64 * i + 41))]) (n := 1) (Nat.le_of_ble_eq_true rfl)
  rw [lg_entry_eq]
  generalize (lg_sl ([.ref (E (64 * i + 41))]) ++ List.replicate (1 - (lg_sl ([.ref (E (64 * i + 41))])).length) Slot.unset).toArray = ls at hl ⊢
  have hw := fun w h => hts w (am_jw_in w h)
  obtain ⟨adV, hV1, -⟩ := hS0.2.2.1
  refine va_gets hx hb hS0.2.2.2.2.2.2.2.2.2.2.1 va_S.rf hown (hw _ (List.mem_of_getElem? (i := 12) rfl)) (fun _ h => h) dJ0_coder_7d493_0 ?_
  refine lv_if_eq (tgt := 13) hx hb dJ0_coder_7d493_3 (by decide) (fun q => absurd q (by decide)) (fun _ => ?_)
  refine lv_aload_n hx hb dJ0_coder_7d493_6 rfl (lv_at hl 0 rfl) ?_
  refine vk_getf hx hb (hV1 i hi).2.1 va_S.rf hown (hw _ (List.mem_of_getElem? (i := 13) rfl)) (fun _ h => h) dJ0_coder_7d493_7 ?_
  refine lv_goto (tgt := 14) hx hb dJ0_coder_7d493_10 (by decide) ?_
  exact W.zret hx hb hr (by decide) (fun t ht _ => ⟨rfl, ht⟩) (fun q h => by cases h) dJ0_coder_7d493_14
set_option maxRecDepth 100000 in
theorem am_m_isl (l : Launch) (E : Nat → Nat) (B0 L0 : Nat) (xs : Nat → Int32) (i : Nat) (hi : i < 7) : Met l yJ0_isLatin1_aae02 (.code yJ0_isLatin1_aae02 cJ0_isLatin1_aae02 1 (some .boolean) :: am_G) ({ frames := 0, cells := 0, slots := 0, locals := 0 }) (va_Pc [.ref (E (64 * i + 41))] (am_Bs E B0 L0 xs)) (am_qi (some (.int 1))) 0 0 (fun _ => False) := by
  refine va_MetF (cc := cJ0_isLatin1_aae02) (maxL := 1) (ret := some .boolean) (by first | decide | decide +kernel) rfl ?_
  intro p e s m args below meth c s₁ B hml hv
  obtain ⟨rfl, hS0⟩ := hv
  have hx := B.exec
  have hb := B.bytes
  have hr := B.returns
  have hts0 := atoms_spec (ws := .code yJ0_isLatin1_aae02 cJ0_isLatin1_aae02 1 (some .boolean) :: am_G) B.pre
  have hts : ∀ w ∈ am_G, w.before _ s = true := fun w hw => hts0 w (List.mem_cons_of_mem _ hw)
  have hown : s.vm.findClass yJ0_isLatin1_aae02.cls = some m.cls := findClass_of_methodNamed B.named
  have hlocks := B.notSynchronized
  have hl := lv_entry ([.ref (E (64 * i + 41))]) (n := 1) (Nat.le_of_ble_eq_true rfl)
  rw [lg_entry_eq]
  generalize (lg_sl ([.ref (E (64 * i + 41))]) ++ List.replicate (1 - (lg_sl ([.ref (E (64 * i + 41))])).length) Slot.unset).toArray = ls at hl ⊢
  have hw := fun w h => hts w (am_jw_in w h)
  obtain ⟨adV, hV1, -⟩ := hS0.2.2.1
  refine va_gets hx hb hS0.2.2.2.2.2.2.2.2.2.2.1 va_S.rf hown (hw _ (List.mem_of_getElem? (i := 12) rfl)) (fun _ h => h) dJ0_isLatin1_aae02_0 ?_
  refine lv_if_eq (tgt := 17) hx hb dJ0_isLatin1_aae02_3 (by decide) (fun q => absurd q (by decide)) (fun _ => ?_)
  refine lv_aload_n hx hb dJ0_isLatin1_aae02_6 rfl (lv_at hl 0 rfl) ?_
  refine vk_getf hx hb (hV1 i hi).2.1 va_S.rf hown (hw _ (List.mem_of_getElem? (i := 13) rfl)) (fun _ h => h) dJ0_isLatin1_aae02_7 ?_
  refine lv_if_ne (tgt := 17) hx hb dJ0_isLatin1_aae02_10 (by decide) (fun q => absurd rfl q) (fun _ => ?_)
  refine lv_iconst (v := 1) hx hb dJ0_isLatin1_aae02_13 (by decide) ?_
  refine lv_goto (tgt := 18) hx hb dJ0_isLatin1_aae02_14 (by decide) ?_
  exact W.zret hx hb hr (by decide) (fun t ht _ => ⟨rfl, ht⟩) (fun q h => by cases h) dJ0_isLatin1_aae02_18
set_option maxRecDepth 100000 in
theorem am_m_pci (l : Launch) (E : Nat → Nat) (B0 L0 : Nat) (xs : Nat → Int32) (k n : Int32) (z : Value) (h0 : ¬ k < 0) (hn : k < n) (hz : z.category = 1) : Met l yJ3_checkIndex_8e157 (.code yJ3_checkIndex_8e157 cJ3_checkIndex_8e157 3 (some .int) :: am_G) ({ frames := 0, cells := 0, slots := 0, locals := 0 }) (va_Pc [.int k, .int n, z] (am_Bs E B0 L0 xs)) (am_qi (some (.int k))) 0 0 (fun _ => False) := by
  refine va_MetF (cc := cJ3_checkIndex_8e157) (maxL := 3) (ret := some .int) (by first | decide | decide +kernel) rfl ?_
  intro p e s m args below meth c s₁ B hml hv
  obtain ⟨rfl, hS0⟩ := hv
  have hx := B.exec
  have hb := B.bytes
  have hr := B.returns
  have hts0 := atoms_spec (ws := .code yJ3_checkIndex_8e157 cJ3_checkIndex_8e157 3 (some .int) :: am_G) B.pre
  have hts : ∀ w ∈ am_G, w.before _ s = true := fun w hw => hts0 w (List.mem_cons_of_mem _ hw)
  have hown : s.vm.findClass yJ3_checkIndex_8e157.cls = some m.cls := findClass_of_methodNamed B.named
  have hlocks := B.notSynchronized
  have hl := lv_entry ([.int k, .int n, z]) (n := 3) (by cases z <;> first | exact Nat.le_of_ble_eq_true rfl | cases hz)
  rw [lg_entry_eq]
  generalize (lg_sl ([.int k, .int n, z]) ++ List.replicate (3 - (lg_sl ([.int k, .int n, z])).length) Slot.unset).toArray = ls at hl ⊢
  have hw := fun w h => hts w (am_jw_in w h)
  have hl : lv_has ls 3 [(0, .int k), (1, .int n)] := by
    refine lv_sub (l := lv_args 0 [.int k, .int n, z]) hl [0, 1] ?_
    cases z <;> first | rfl | (cases hz)
  refine lv_iload_n hx hb dJ3_checkIndex_8e157_0 rfl (lv_at hl 0 rfl) ?_
  refine lv_if_lt (tgt := 9) hx hb dJ3_checkIndex_8e157_1 (by decide) (fun q => absurd q h0) (fun _ => ?_)
  refine lv_iload_n hx hb dJ3_checkIndex_8e157_4 rfl (lv_at hl 0 rfl) ?_
  refine lv_iload_n hx hb dJ3_checkIndex_8e157_5 rfl (lv_at hl 1 rfl) ?_
  refine lv_icmp_lt (tgt := 16) hx hb dJ3_checkIndex_8e157_6 (by decide) (fun _ => ?_) (fun q => absurd hn q)
  refine lv_iload_n hx hb dJ3_checkIndex_8e157_16 rfl (lv_at hl 0 rfl) ?_
  exact W.iret hx hb hr (fun t ht _ => ⟨rfl, ht⟩) (fun q h => by cases h) dJ3_checkIndex_8e157_17
theorem am_gws {own : String} {idx : Nat} {y : MethodName} {cw : Cond} (h1 : Cond.methodLink own idx y ∈ am_G) (h2 : Cond.static y ∈ am_G) (h3 : Cond.initialized y.cls ∈ am_G) (h4 : cw ∈ am_G) : GoodIn am_G (va_wsS own idx y (cw :: am_G)) := fun w hw => by
  unfold va_wsS at hw
  rcases List.mem_append.mp hw with hw | hw
  · have h : w ∈ am_G := by
      rcases List.mem_cons.mp hw with e | hw
      · rw [e]; exact h1
      · rcases List.mem_cons.mp hw with e | hw
        · rw [e]; exact h2
        · rcases List.mem_cons.mp hw with e | hw
          · rw [e]; exact h3
          · cases hw
    exact am_GG w h
  · exact am_GC h4 w hw
theorem am_gwv {own C : String} {idx : Nat} {y : MethodName} {cw : Cond} (h1 : Cond.methodLink own idx y ∈ am_G) (h2 : Cond.instanceMethod y ∈ am_G) (h3 : Cond.selects C y y ∈ am_G) (h5 : Cond.initialized C ∈ am_G) (h4 : cw ∈ am_G) : GoodIn am_G (wsV own idx C y (cw :: am_G)) := fun w hw => by
  unfold wsV at hw
  rcases List.mem_append.mp hw with hw | hw
  · have h : w ∈ am_G := by
      rcases List.mem_cons.mp hw with e | hw
      · rw [e]; exact h1
      · rcases List.mem_cons.mp hw with e | hw
        · rw [e]; exact h2
        · rcases List.mem_cons.mp hw with e | hw
          · rw [e]; exact h3
          · rcases List.mem_cons.mp hw with e | hw
            · rw [e]; exact h5
            · cases hw
    exact am_GG w h
  · exact am_GC h4 w hw
theorem am_Bs_go {E : Nat → Nat} {B0 L0 : Nat} {xs : Nat → Int32} {s U : State} (h : am_S E B0 L0 xs s s.heap) (hU : U.heap = s.heap) (hW : s.WarmedH U.vm) : am_Bs E B0 L0 xs U := by
  unfold am_Bs
  rw [hU]
  exact am_S_moved hW.alike h
set_option maxRecDepth 100000 in
theorem am_m_sci (l : Launch) (E : Nat → Nat) (B0 L0 : Nat) (xs : Nat → Int32) (k n : Int32) (h0 : ¬ k < 0) (hn : k < n) : Met l yJ0_checkIndex_df160 (.code yJ0_checkIndex_df160 cJ0_checkIndex_df160 2 (none) :: am_G) ({ frames := 1, cells := 0, slots := 0, locals := 40 }) (va_Pc [.int k, .int n] (am_Bs E B0 L0 xs)) (am_qi none) 0 0 (fun _ => False) := by
  refine va_MetF (cc := cJ0_checkIndex_df160) (maxL := 2) (ret := none) (by first | decide | decide +kernel) rfl ?_
  intro p e s m args below meth c s₁ B hml hv
  obtain ⟨rfl, hS0⟩ := hv
  have hx := B.exec
  have hb := B.bytes
  have hr := B.returns
  have hts0 := atoms_spec (ws := .code yJ0_checkIndex_df160 cJ0_checkIndex_df160 2 (none) :: am_G) B.pre
  have hts : ∀ w ∈ am_G, w.before _ s = true := fun w hw => hts0 w (List.mem_cons_of_mem _ hw)
  have hown : s.vm.findClass yJ0_checkIndex_df160.cls = some m.cls := findClass_of_methodNamed B.named
  have hlocks := B.notSynchronized
  have hl := lv_entry ([.int k, .int n]) (n := 2) (Nat.le_of_ble_eq_true rfl)
  rw [lg_entry_eq]
  generalize (lg_sl ([.int k, .int n]) ++ List.replicate (2 - (lg_sl ([.int k, .int n])).length) Slot.unset).toArray = ls at hl ⊢
  have hw := fun w h => hts w (am_jw_in w h)
  refine lv_iload_n hx hb dJ0_checkIndex_df160_0 rfl (lv_at hl 0 rfl) ?_
  refine lv_iload_n hx hb dJ0_checkIndex_df160_1 rfl (lv_at hl 1 rfl) ?_
  have key : ∀ z : Value, z.category = 1 → W p l e (headSpec (.code yJ0_checkIndex_df160 cJ0_checkIndex_df160 2 none :: am_G) ({ frames := 1, cells := 0, slots := 0, locals := 40 })).room s m (#[Value.int k, Value.int n] : Array Value) below meth c s.heap [] 0 0 (MQ below (am_qi none) (#[Value.int k, Value.int n] : Array Value) s 0 0 (fun _ => False)) (F0 m 5 ls [z, .int n, .int k]) := by
    intro z hz
    refine am_runq (va_runS (As := [.int k, .int n, z]) (rest := []) ⟨hx, hb, hml, hown, hts⟩ (am_m_pci l E B0 L0 xs k n z h0 hn hz) (va_cwS 3 hts (am_gws (am_jw_in _ (List.mem_of_getElem? (i := 32) rfl)) (am_jw_in _ (List.mem_of_getElem? (i := 33) rfl)) (am_jw_in _ (List.mem_of_getElem? (i := 34) rfl)) (am_jw_in _ (List.mem_of_getElem? (i := 35) rfl))) rfl rfl rfl ⟨by decide, by decide, by decide +kernel⟩ ⟨Nat.le_of_ble_eq_true rfl, Nat.le_of_ble_eq_true rfl⟩) ⟨am_Bs_blind, fun U hU hW => ⟨rfl, am_Bs_go hS0 hU hW⟩⟩ rfl rfl hl.1 rfl (lv_room (Nat.le_of_ble_eq_true rfl)) dJ0_checkIndex_df160_5 ⟨Nat.zero_le _, Nat.zero_le _⟩) ?_
    refine lv_pop hx hb dJ0_checkIndex_df160_8 rfl ?_
    exact W.vret hx hb hr (fun t ht _ => ⟨rfl, ht⟩) (fun q h => by cases h) dJ0_checkIndex_df160_9
  rcases hS0.2.2.2.2.2.2.2.2.2.2.2.1 with hz | ⟨t0, hz⟩
  · refine va_gets hx hb hz va_S.rf hown (hw _ (List.mem_of_getElem? (i := 31) rfl)) (fun _ h => h) dJ0_checkIndex_df160_2 ?_
    exact key _ rfl
  · refine va_gets hx hb hz va_S.rf hown (hw _ (List.mem_of_getElem? (i := 31) rfl)) (fun _ h => h) dJ0_checkIndex_df160_2 ?_
    exact key _ rfl
theorem am_bN : ∀ i, i < 7 → am_len8.getD i 0 = (am_fs i).length ∧ (am_fs i).length < 10 ∧ ∀ k, k < (am_fs i).length → ((((am_byt.getD i []).getD k 0) &&& 255).toUInt32 % 65536).toInt32 = Int32.ofNat ((am_fs i).getD k 0) ∧ narrow .char (.int (Int32.ofNat ((am_fs i).getD k 0))) = .int (Int32.ofNat ((am_fs i).getD k 0)) := by decide +kernel
theorem am_lt_of {k : Int32} {n : Nat} (hn : n < 10) (h : vp_in k n) : ¬ k < 0 ∧ k < Int32.ofNat n := by
  obtain ⟨j, hj, rfl⟩ := vp_in_of h (by omega)
  exact ⟨nI_pos (by omega), nI_lt hj (by omega)⟩
theorem am_Ba_blind {E : Nat → Nat} {B0 L0 n t0 : Nat} {xs : Nat → Int32} {av : List Value} {f : Nat → Value} {A : Nat → Prop} : FrameBlind (va_Pc av (fun U => am_Bs E B0 L0 xs U ∧ va_T .byte t0 n f A U U.heap)) := fun a U g mk h => ⟨h.1, am_S_moved (u := U) (U := U.calling g mk a) (Vm.Alike.refl U.vm) h.2.1, va_T.moved (u := U) (U := U.calling g mk a) (Vm.Alike.refl U.vm) h.2.2⟩
set_option maxRecDepth 100000 in
theorem am_m_lch (l : Launch) (E : Nat → Nat) (B0 L0 : Nat) (xs : Nat → Int32) (i : Nat) (adV : Nat → Nat) (k : Int32) (hi : i < 7) (hk : vp_in k (am_fs i).length) : Met l yJ1_charAt_3b067 (.code yJ1_charAt_3b067 cJ1_charAt_3b067 2 (some .char) :: am_G) ({ frames := 2, cells := 0, slots := 0, locals := 80 }) (va_Pc [.ref (adV i), .int k] (fun U => am_Bs E B0 L0 xs U ∧ va_T .byte (adV i) (am_len8.getD i 0) (fun j => .int ((am_byt.getD i []).getD j 0)) (fun q : Nat => B0 ≤ q) U U.heap)) (am_qi (some (.int (Int32.ofNat ((am_fs i).getD k.toNatClampNeg 0))))) 0 0 (fun _ => False) := by
  refine va_MetF (cc := cJ1_charAt_3b067) (maxL := 2) (ret := some .char) (by first | decide | decide +kernel) rfl ?_
  intro p e s m args below meth c s₁ B hml hv
  obtain ⟨rfl, hS0, hT⟩ := hv
  have hx := B.exec
  have hb := B.bytes
  have hr := B.returns
  have hts0 := atoms_spec (ws := .code yJ1_charAt_3b067 cJ1_charAt_3b067 2 (some .char) :: am_G) B.pre
  have hts : ∀ w ∈ am_G, w.before _ s = true := fun w hw => hts0 w (List.mem_cons_of_mem _ hw)
  have hown : s.vm.findClass yJ1_charAt_3b067.cls = some m.cls := findClass_of_methodNamed B.named
  have hlocks := B.notSynchronized
  have hl := lv_entry ([.ref (adV i), .int k]) (n := 2) (Nat.le_of_ble_eq_true rfl)
  rw [lg_entry_eq]
  generalize (lg_sl ([.ref (adV i), .int k]) ++ List.replicate (2 - (lg_sl ([.ref (adV i), .int k])).length) Slot.unset).toArray = ls at hl ⊢
  have hw := fun w h => hts w (am_jw_in w h)
  obtain ⟨b1, b2, b3⟩ := am_bN i hi
  obtain ⟨g1, g2⟩ := am_lt_of b2 hk
  have hk2 : k.toNatClampNeg < (am_fs i).length := Nat.lt_of_not_le fun q => hk (Or.inr q)
  refine lv_iload_n hx hb dJ1_charAt_3b067_0 rfl (lv_at hl 1 rfl) ?_
  refine lv_aload_n hx hb dJ1_charAt_3b067_1 rfl (lv_at hl 0 rfl) ?_
  refine va_tlen (v := Int32.ofNat (am_fs i).length) hx hb hT va_S.rf (by rw [b1]) dJ1_charAt_3b067_2 ?_
  refine am_runq (va_runS (As := [.int k, .int (Int32.ofNat (am_fs i).length)]) (rest := []) ⟨hx, hb, hml, hown, hts⟩ (am_m_sci l E B0 L0 xs k (Int32.ofNat (am_fs i).length) g1 g2) (va_cwS 2 hts (am_gws (am_jw_in _ (List.mem_of_getElem? (i := 28) rfl)) (am_jw_in _ (List.mem_of_getElem? (i := 29) rfl)) (am_jw_in _ (List.mem_of_getElem? (i := 10) rfl)) (am_jw_in _ (List.mem_of_getElem? (i := 30) rfl))) rfl rfl rfl ⟨by decide, by decide, by decide +kernel⟩ ⟨Nat.le_of_ble_eq_true rfl, Nat.le_of_ble_eq_true rfl⟩) ⟨am_Bs_blind, fun U hU hW => ⟨rfl, am_Bs_go hS0 hU hW⟩⟩ rfl rfl hl.1 rfl (lv_room (Nat.le_of_ble_eq_true rfl)) dJ1_charAt_3b067_3 ⟨Nat.zero_le _, Nat.zero_le _⟩) ?_
  refine lv_aload_n hx hb dJ1_charAt_3b067_6 rfl (lv_at hl 0 rfl) ?_
  refine lv_iload_n hx hb dJ1_charAt_3b067_7 rfl (lv_at hl 1 rfl) ?_
  refine va_tb hx hb hT va_S.rf (by rw [b1]; exact hk) rfl dJ1_charAt_3b067_8 ?_
  refine lv_sipush (v := 255) hx hb dJ1_charAt_3b067_9 (by decide) ?_
  refine lv_iand hx hb dJ1_charAt_3b067_12 ?_
  refine lv_i2c hx hb dJ1_charAt_3b067_13 rfl ?_
  rw [(b3 _ hk2).1]
  exact W.zret hx hb hr (b3 _ hk2).2 (fun t ht _ => ⟨rfl, ht⟩) (fun q h => by cases h) dJ1_charAt_3b067_14
set_option maxRecDepth 100000 in
theorem am_m_len (l : Launch) (E : Nat → Nat) (B0 L0 : Nat) (xs : Nat → Int32) (i : Nat) (hi : i < 7) : Met l yJ0_length_8abf5 (.code yJ0_length_8abf5 cJ0_length_8abf5 1 (some .int) :: am_G) ({ frames := 1, cells := 0, slots := 0, locals := 40 }) (va_Pc [.ref (E (64 * i + 41))] (am_Bs E B0 L0 xs)) (am_qi (some (.int (Int32.ofNat (am_fs i).length)))) 0 0 (fun _ => False) := by
  refine va_MetF (cc := cJ0_length_8abf5) (maxL := 1) (ret := some .int) (by first | decide | decide +kernel) rfl ?_
  intro p e s m args below meth c s₁ B hml hv
  obtain ⟨rfl, hS0⟩ := hv
  have hx := B.exec
  have hb := B.bytes
  have hr := B.returns
  have hts0 := atoms_spec (ws := .code yJ0_length_8abf5 cJ0_length_8abf5 1 (some .int) :: am_G) B.pre
  have hts : ∀ w ∈ am_G, w.before _ s = true := fun w hw => hts0 w (List.mem_cons_of_mem _ hw)
  have hown : s.vm.findClass yJ0_length_8abf5.cls = some m.cls := findClass_of_methodNamed B.named
  have hlocks := B.notSynchronized
  have hl := lv_entry ([.ref (E (64 * i + 41))]) (n := 1) (Nat.le_of_ble_eq_true rfl)
  rw [lg_entry_eq]
  generalize (lg_sl ([.ref (E (64 * i + 41))]) ++ List.replicate (1 - (lg_sl ([.ref (E (64 * i + 41))])).length) Slot.unset).toArray = ls at hl ⊢
  have hw := fun w h => hts w (am_jw_in w h)
  obtain ⟨adV, hV1, -⟩ := id hS0.2.2.1
  obtain ⟨b1, b2, b3⟩ := am_bN i hi
  refine lv_aload_n hx hb dJ0_length_8abf5_0 rfl (lv_at hl 0 rfl) ?_
  refine vk_getf hx hb (hV1 i hi).2.2.1 va_S.rf hown (hw _ (List.mem_of_getElem? (i := 6) rfl)) (fun _ h => h) dJ0_length_8abf5_1 ?_
  refine va_tlen (v := Int32.ofNat (am_fs i).length) hx hb (hV1 i hi).2.2.2 va_S.rf (by rw [b1]) dJ0_length_8abf5_4 ?_
  refine lv_aload_n hx hb dJ0_length_8abf5_5 rfl (lv_at hl 0 rfl) ?_
  refine am_runq (va_runV (C := RJ0) (b := E (64 * i + 41)) (As := []) (rest := [.int (Int32.ofNat (am_fs i).length)]) ⟨hx, hb, hml, hown, hts⟩ (am_m_coder l E B0 L0 xs i hi) (cwV 0 hts (am_gwv (am_jw_in _ (List.mem_of_getElem? (i := 7) rfl)) (am_jw_in _ (List.mem_of_getElem? (i := 8) rfl)) (am_jw_in _ (List.mem_of_getElem? (i := 9) rfl)) (am_jw_in _ (List.mem_of_getElem? (i := 10) rfl)) (am_jw_in _ (List.mem_of_getElem? (i := 11) rfl))) rfl rfl rfl ⟨rfl, by decide, by decide, by decide +kernel⟩ ⟨Nat.le_of_ble_eq_true rfl, Nat.le_of_ble_eq_true rfl⟩) ⟨am_Bs_blind, (by obtain ⟨cell, q1, q2, q3, -⟩ := (hV1 i hi).1; exact ⟨cell, q1, q2, q3⟩), fun U hU hW => ⟨rfl, am_Bs_go hS0 hU hW⟩⟩ rfl rfl hl.1 rfl (lv_room (Nat.le_of_ble_eq_true rfl)) dJ0_length_8abf5_6 ⟨Nat.zero_le _, Nat.zero_le _⟩) ?_
  refine lv_ishr hx hb dJ0_length_8abf5_9 ?_
  rw [sb_shr0]
  exact W.iret hx hb hr (fun t ht _ => ⟨rfl, ht⟩) (fun q h => by cases h) dJ0_length_8abf5_10
set_option maxRecDepth 100000 in
theorem am_m_cha (l : Launch) (E : Nat → Nat) (B0 L0 : Nat) (xs : Nat → Int32) (i : Nat) (k : Int32) (hi : i < 7) (hk : vp_in k (am_fs i).length) : Met l yJ0_charAt_5068e (.code yJ0_charAt_5068e cJ0_charAt_5068e 2 (some .char) :: am_G) ({ frames := 3, cells := 0, slots := 0, locals := 120 }) (va_Pc [.ref (E (64 * i + 41)), .int k] (am_Bs E B0 L0 xs)) (am_qi (some (.int (Int32.ofNat ((am_fs i).getD k.toNatClampNeg 0))))) 0 0 (fun _ => False) := by
  refine va_MetF (cc := cJ0_charAt_5068e) (maxL := 2) (ret := some .char) (by first | decide | decide +kernel) rfl ?_
  intro p e s m args below meth c s₁ B hml hv
  obtain ⟨rfl, hS0⟩ := hv
  have hx := B.exec
  have hb := B.bytes
  have hr := B.returns
  have hts0 := atoms_spec (ws := .code yJ0_charAt_5068e cJ0_charAt_5068e 2 (some .char) :: am_G) B.pre
  have hts : ∀ w ∈ am_G, w.before _ s = true := fun w hw => hts0 w (List.mem_cons_of_mem _ hw)
  have hown : s.vm.findClass yJ0_charAt_5068e.cls = some m.cls := findClass_of_methodNamed B.named
  have hlocks := B.notSynchronized
  have hl := lv_entry ([.ref (E (64 * i + 41)), .int k]) (n := 2) (Nat.le_of_ble_eq_true rfl)
  rw [lg_entry_eq]
  generalize (lg_sl ([.ref (E (64 * i + 41)), .int k]) ++ List.replicate (2 - (lg_sl ([.ref (E (64 * i + 41)), .int k])).length) Slot.unset).toArray = ls at hl ⊢
  have hw := fun w h => hts w (am_jw_in w h)
  obtain ⟨adV, hV1, -⟩ := id hS0.2.2.1
  obtain ⟨b1, b2, b3⟩ := am_bN i hi
  have hk2 : k.toNatClampNeg < (am_fs i).length := Nat.lt_of_not_le fun q => hk (Or.inr q)
  refine lv_aload_n hx hb dJ0_charAt_5068e_0 rfl (lv_at hl 0 rfl) ?_
  refine am_runq (va_runV (C := RJ0) (b := E (64 * i + 41)) (As := []) (rest := []) ⟨hx, hb, hml, hown, hts⟩ (am_m_isl l E B0 L0 xs i hi) (cwV 0 hts (am_gwv (am_jw_in _ (List.mem_of_getElem? (i := 20) rfl)) (am_jw_in _ (List.mem_of_getElem? (i := 21) rfl)) (am_jw_in _ (List.mem_of_getElem? (i := 22) rfl)) (am_jw_in _ (List.mem_of_getElem? (i := 10) rfl)) (am_jw_in _ (List.mem_of_getElem? (i := 23) rfl))) rfl rfl rfl ⟨rfl, by decide, by decide, by decide +kernel⟩ ⟨Nat.le_of_ble_eq_true rfl, Nat.le_of_ble_eq_true rfl⟩) ⟨am_Bs_blind, (by obtain ⟨cell, q1, q2, q3, -⟩ := (hV1 i hi).1; exact ⟨cell, q1, q2, q3⟩), fun U hU hW => ⟨rfl, am_Bs_go hS0 hU hW⟩⟩ rfl rfl hl.1 rfl (lv_room (Nat.le_of_ble_eq_true rfl)) dJ0_charAt_5068e_1 ⟨Nat.zero_le _, Nat.zero_le _⟩) ?_
  refine lv_if_eq (tgt := 16) hx hb dJ0_charAt_5068e_4 (by decide) (fun q => absurd q (by decide)) (fun _ => ?_)
  refine lv_aload_n hx hb dJ0_charAt_5068e_7 rfl (lv_at hl 0 rfl) ?_
  refine vk_getf hx hb (hV1 i hi).2.2.1 va_S.rf hown (hw _ (List.mem_of_getElem? (i := 6) rfl)) (fun _ h => h) dJ0_charAt_5068e_8 ?_
  refine lv_iload_n hx hb dJ0_charAt_5068e_11 rfl (lv_at hl 1 rfl) ?_
  refine am_runq (va_runS (As := [.ref (adV i), .int k]) (rest := []) ⟨hx, hb, hml, hown, hts⟩ (am_m_lch l E B0 L0 xs i adV k hi hk) (va_cwS 2 hts (am_gws (am_jw_in _ (List.mem_of_getElem? (i := 24) rfl)) (am_jw_in _ (List.mem_of_getElem? (i := 25) rfl)) (am_jw_in _ (List.mem_of_getElem? (i := 26) rfl)) (am_jw_in _ (List.mem_of_getElem? (i := 27) rfl))) rfl rfl rfl ⟨by decide, by decide, by decide +kernel⟩ ⟨Nat.le_of_ble_eq_true rfl, Nat.le_of_ble_eq_true rfl⟩) ⟨am_Ba_blind, fun U hU hW => ⟨rfl, am_Bs_go hS0 hU hW, by rw [hU]; exact va_T.moved hW.alike (hV1 i hi).2.2.2⟩⟩ rfl rfl hl.1 rfl (lv_room (Nat.le_of_ble_eq_true rfl)) dJ0_charAt_5068e_12 ⟨Nat.zero_le _, Nat.zero_le _⟩) ?_
  exact W.zret hx hb hr (b3 _ hk2).2 (fun t ht _ => ⟨rfl, ht⟩) (fun q h => by cases h) dJ0_charAt_5068e_15
theorem am_sbf_all : (List.range 10).all (fun j => (List.range (am_sn j)).all fun k => fits .byte (.int (Int32.ofNat (am_sb j k)))) = true := by decide +kernel
theorem am_sbf (j k : Nat) (hj : j < 10) (hk : k < am_sn j) : fits .byte (.int (Int32.ofNat (am_sb j k))) = true := List.all_eq_true.mp (List.all_eq_true.mp am_sbf_all j (List.mem_range.mpr hj)) k (List.mem_range.mpr hk)
theorem am_sum {r ks : Nat → Nat} {n : Nat} {st st' : List Value} (h : am_Sk r ks n st st') : (st'.map fun v => v.category).sum = (st.map Value.category).sum := by
  obtain ⟨rfl, -⟩ := h
  rw [List.map_map]
  congr 1
  exact List.map_congr_left fun v _ => am_cv_cat r v
theorem am_refcat (a : Nat) : (Value.ref a).category = 1 := rfl
theorem am_Bs_gh {E : Nat → Nat} {B0 L0 : Nat} {xs : Nat → Int32} {s U : State} {H : Heap} {locs : List Loc} (h : am_S E B0 L0 xs s s.heap) (hE : E 44 < B0) (hV : va_S (fun q : Nat => B0 ≤ q) s.heap H locs) (hU : U.heap = H) (hW : s.WarmedH U.vm) : am_Bs E B0 L0 xs U := by
  unfold am_Bs
  rw [hU]
  exact am_S_moved hW.alike (am_S_kept h hE fun a h1 h2 => hV.2.1 a h1 h2)
theorem am_gwu {own : String} {idx : Nat} (h1 : Cond.methodLink own idx ⟨"EchoCanyon$Command", "ordinal", "()I"⟩ ∈ am_G) : GoodIn am_G (va_wsU own idx "EchoCanyon$Command" "java/lang/Enum" ⟨"EchoCanyon$Command", "ordinal", "()I"⟩ yJx29ce0_ordinal_8abf5 (.code yJx29ce0_ordinal_8abf5 cJx29ce0_ordinal_8abf5 1 (some .int) :: am_G)) := fun w hw => by
  unfold va_wsU at hw
  rcases List.mem_append.mp hw with hw | hw
  · have h : w ∈ am_G := by
      rcases List.mem_cons.mp hw with e | hw
      · rw [e]; exact h1
      · rcases List.mem_cons.mp hw with e | hw
        · rw [e]; exact (am_jw_in _ (List.mem_of_getElem? (i := 2) rfl))
        · rcases List.mem_cons.mp hw with e | hw
          · rw [e]; exact (am_jw_in _ (List.mem_of_getElem? (i := 3) rfl))
          · rcases List.mem_cons.mp hw with e | hw
            · rw [e]; exact (am_jw_in _ (List.mem_of_getElem? (i := 4) rfl))
            · rcases List.mem_cons.mp hw with e | hw
              · rw [e]; exact (am_jw_in _ (List.mem_of_getElem? (i := 5) rfl))
              · cases hw
    exact am_GG w h
  · exact am_GC (am_jw_in _ (List.mem_of_getElem? (i := 1) rfl)) w hw
section AMS
variable {D : va_G} {ca : Nat → ClassId} {B0 : Nat} {E : Nat → Nat} {L0 : Nat} {xs : Nat → Int32} {p : Program} {l : Launch} {e : Env} {R : Room} {s : State} {m : MethodId} {args : Array Value} {below : List Frame} {meth : Method} {c : Code} {y : Nat} {Q : State → Prop} {r0 ks0 : Nat → Nat} {n0 cells slots pc nx tg : Nat} {L : am_L} {st : List Value} {M : am_M} {x : am_C}

theorem am_s_objinit {j : Nat} (C : am_X D ca B0 E L0 xs l p s m args meth c y) (hRf : 6 ≤ R.frames) (hRl : 200 ≤ R.locals) (hd : decode (am_b y) pc = .ok (.invokespecial j, nx - pc)) (ho : am_ok1 (.invokespecial j) pc nx tg = true) (hs : am_stp y (.invokespecial j) pc nx tg L st M = some x) (k : am_W D ca B0 E L0 xs p l e R s m args below meth c y Q r0 ks0 n0 cells slots x.1 x.2.1 x.2.2.1 x.2.2.2) : am_W D ca B0 E L0 xs p l e R s m args below meth c y Q r0 ks0 n0 cells slots pc L st M := by
  obtain ⟨hx, hb, hml, hown, hts, hlk, hrt, hin, hK, hS0, hS2, hB0, hE, hst, het⟩ := C
  have hn : nx = pc + 3 := by simpa [am_ok1, am_len] using ho
  subst hn
  rw [Nat.add_sub_cancel_left] at hd
  simp only [am_stp] at hs
  replace hs := am_a1_inv hs; obtain ⟨a, t, rfl, hs⟩ := hs
  replace hs := am_if_inv hs; obtain ⟨hz, hs⟩ := hs
  cases hs
  rw [Bool.and_eq_true] at hz
  have hpj := Nat.eq_of_beq_eq_true hz.1
  have hsum := Nat.le_of_ble_eq_true hz.2
  have hc := am_pj_ok hpj (by decide)
  unfold am_cj1 at hc
  rw [hpj] at hc
  intro r ks H locs ls st1 he hR hV hl hL hk
  replace hk := am_Sk_tl hk; obtain ⟨st2, rfl, -, hk⟩ := hk
  refine W.objInit hx hb hown (hts _ (am_gw_in hc)) (hts _ (am_jw_in _ (List.mem_of_getElem? (i := 36) rfl))) (hts _ (am_jw_in _ (List.mem_of_getElem? (i := 37) rfl))) rfl (by show ls.size = _; rw [hL.1, hl, hml]) rfl hd (by omega) (by rw [am_sum hk]; show 2 * 0 + _ + 12 ≤ _; omega) ?_
  exact k r ks H locs ls _ he hR hV hl hL hk
theorem am_s_invstatic {j : Nat} (hcl2 : cells + 0 ≤ R.cells ∧ slots + 0 ≤ R.slots) (C : am_X D ca B0 E L0 xs l p s m args meth c y) (hRf : 6 ≤ R.frames) (hRl : 200 ≤ R.locals) (hd : decode (am_b y) pc = .ok (.invokestatic j, nx - pc)) (ho : am_ok1 (.invokestatic j) pc nx tg = true) (hs : am_stp y (.invokestatic j) pc nx tg L st M = some x) (k : am_W D ca B0 E L0 xs p l e R s m args below meth c y Q r0 ks0 n0 cells slots x.1 x.2.1 x.2.2.1 x.2.2.2) : am_W D ca B0 E L0 xs p l e R s m args below meth c y Q r0 ks0 n0 cells slots pc L st M := by
  obtain ⟨hx, hb, hml, hown, hts, hlk, hrt, hin, hK, hS0, hS2, hB0, hE, hst, het⟩ := C
  have hn : nx = pc + 3 := by simpa [am_ok1, am_len] using ho
  subst hn
  rw [Nat.add_sub_cancel_left] at hd
  simp only [am_stp] at hs
  cases h4 : Nat.beq (am_pj (am_cl y) j) 4 with
  | true =>
  have hpj := Nat.eq_of_beq_eq_true h4
  rw [h4] at hs
  dsimp only [cond_true] at hs
  split at hs
  · rename_i n dp b sp a t
    cases h46 : Nat.beq (a % 64) 46 with
    | true =>
    rw [h46] at hs
    dsimp only [cond_true] at hs
    have h46 := Nat.eq_of_beq_eq_true h46
    split at hs
    · rename_i eb nb hb0
      obtain ⟨hz, hs⟩ := am_if_inv hs
      cases hs
      simp only [Bool.and_eq_true, decide_eq_true_eq] at hz
      obtain ⟨⟨⟨⟨⟨⟨z2, z3⟩, z4⟩, z5⟩, z6⟩, z7⟩, z8⟩ := hz
      have z2 := Nat.eq_of_beq_eq_true z2
      subst z2
      have z8 := Nat.le_of_ble_eq_true z8
      have hc := am_pj_ok hpj (by decide)
      unfold am_cj1 at hc
      rw [hpj] at hc
      intro r ks H locs ls st1 he hR hV hl hL hk
      replace hk := am_Sk_tl hk; obtain ⟨st2, rfl, -, hk⟩ := hk
      replace hk := am_Sk_tl hk; obtain ⟨st3, rfl, -, hk⟩ := hk
      replace hk := am_Sk_tl hk; obtain ⟨st4, rfl, hvb, hk⟩ := hk
      replace hk := am_Sk_tl hk; obtain ⟨st5, rfl, -, hk⟩ := hk
      replace hk := am_Sk_tl hk; obtain ⟨st6, rfl, hva, hk⟩ := hk
      obtain ⟨h10, ha⟩ := am_d46 (hva a rfl) h46
      have hT := hS0.2.2.2.2.2.2.2.2.2.2.2.2.2.1 (a / 64) h10
      rw [ha] at hT
      obtain ⟨g3, g4⟩ := am_okk_lo (hvb b rfl) (am_ak_lo hb0)
      have hwb := am_ws_at (ca := ca) (r := r) (M := M) g3 g4
      rw [am_en_arr hb0, am_dat6] at hwb
      have hfr : nativeFrameWords "java/lang/System" "arraycopy" 5 ≤ 100 := by decide +kernel
      show W p l e R s m args below meth c H locs cells slots Q (F0 m pc ls (.int n :: .int dp :: .ref (r b) :: .int sp :: .ref (r a) :: st6))
      rw [hR.2.2.2.1 a (by omega)]
      refine vk_copyt hx hb (by rw [hml, hL.1, hl]) hown (hts _ (am_gw_in hc)) (hts _ (am_jw_in _ (List.mem_of_getElem? (i := 38) rfl))) (hts _ (am_jw_in _ (List.mem_of_getElem? (i := 39) rfl))) (hts _ (am_jw_in _ (List.mem_of_getElem? (i := 40) rfl))) hK hR.1 hR.2.1 hV hT (b / 64) 6 hwb rfl z3 z4 z5 (Nat.le_of_ble_eq_true z6) (Nat.le_of_ble_eq_true z7) (fun i hi => ?_) (by omega) (by rw [am_sum hk]; omega) hd fun H1 locs1 hP1 hD1 hV1 => ?_
      · exact am_sbf _ _ h10 (Nat.lt_of_lt_of_le (Nat.add_lt_add_left hi _) (Nat.le_of_ble_eq_true z6))
      refine k r ks H1 locs1 ls _ he (am_wr (M' := (am_cps M.1 (fun k => Int32.ofNat (am_sb (a / 64) k)) b sp.toNatClampNeg dp.toNatClampNeg n.toNatClampNeg, M.2)) hR g3 g4 hP1 hD1 rfl ?_ (fun q hq => ⟨?_, rfl, rfl, rfl⟩) hR.2.2.1 rfl) hV1 hl hL hk
      · rw [am_en_arr hb0, am_dat6]
        congr 4
        funext q
        simp [am_cps, va_cpy]
      · funext q2
        simp [am_cps, hq]
    · cases hs
    | false =>
    rw [h46] at hs
    dsimp only [cond_false] at hs
    split at hs
    · rename_i ea na eb nb ha0 hb0
      obtain ⟨hz, hs⟩ := am_if_inv hs
      split at hs
      case isFalse => cases hs
      rename_i hby
      cases hs
      simp only [Bool.and_eq_true, decide_eq_true_eq] at hz
      obtain ⟨⟨⟨⟨⟨⟨⟨z1, z2⟩, z3⟩, z4⟩, z5⟩, z6⟩, z7⟩, z8⟩ := hz
      have z1 := Nat.eq_of_beq_eq_true z1
      subst z1
      have hdq2 : ∀ (r : Nat → Nat) (N : am_M) q, am_dat r N ea q = .inl (N.1 q) := fun r N q => by
        rw [Bool.or_eq_true] at z2
        rcases z2 with z2 | z2
        · rw [Nat.eq_of_beq_eq_true z2]; rfl
        · rw [Nat.eq_of_beq_eq_true z2]; rfl
      have z8 := Nat.le_of_ble_eq_true z8
      have hc := am_pj_ok hpj (by decide)
      unfold am_cj1 at hc
      rw [hpj] at hc
      intro r ks H locs ls st1 he hR hV hl hL hk
      replace hk := am_Sk_tl hk; obtain ⟨st2, rfl, -, hk⟩ := hk
      replace hk := am_Sk_tl hk; obtain ⟨st3, rfl, -, hk⟩ := hk
      replace hk := am_Sk_tl hk; obtain ⟨st4, rfl, hvb, hk⟩ := hk
      replace hk := am_Sk_tl hk; obtain ⟨st5, rfl, -, hk⟩ := hk
      replace hk := am_Sk_tl hk; obtain ⟨st6, rfl, hva, hk⟩ := hk
      obtain ⟨g1, g2⟩ := am_okk_lo (hva a rfl) (am_ak_lo ha0)
      obtain ⟨g3, g4⟩ := am_okk_lo (hvb b rfl) (am_ak_lo hb0)
      have hwa := am_ws_at (ca := ca) (r := r) (M := M) g1 g2
      have hwb := am_ws_at (ca := ca) (r := r) (M := M) g3 g4
      rw [am_en_arr ha0, hdq2] at hwa
      rw [am_en_arr hb0, hdq2] at hwb
      have hfr : nativeFrameWords "java/lang/System" "arraycopy" 5 ≤ 100 := by decide +kernel
      have fin : ∀ (H1 : Heap) (locs1 : List Loc), va_P D am_cls ((am_ws ca r ks M).set (b / 64) (r b, .inl (ca ea, nb, .inl (va_cpy (M.1 a) (M.1 b) sp.toNatClampNeg dp.toNatClampNeg n.toNatClampNeg)))) H1 → va_D (fun q : Nat => B0 ≤ q) ((am_ws ca r ks M).set (b / 64) (r b, .inl (ca ea, nb, .inl (va_cpy (M.1 a) (M.1 b) sp.toNatClampNeg dp.toNatClampNeg n.toNatClampNeg)))) → va_S (fun q : Nat => B0 ≤ q) s.heap H1 locs1 → W p l e R s m args below meth c H1 locs1 cells slots Q (F0 m (pc + 3) ls st6) := by
        intro H1 locs1 hP1 hD1 hV1
        refine k r ks H1 locs1 ls _ he (am_wr (M' := (am_cpy M.1 a b sp.toNatClampNeg dp.toNatClampNeg n.toNatClampNeg, M.2)) hR g3 g4 hP1 hD1 rfl ?_ (fun q hq => ⟨?_, rfl, rfl, rfl⟩) hR.2.2.1 rfl) hV1 hl hL hk
        · rw [am_en_arr hb0, hdq2]
          congr 4
          funext q
          simp [am_cpy, va_cpy]
        · funext q2
          simp [am_cpy, hq]
      rw [Bool.or_eq_true] at z2
      rcases z2 with z2 | z2
      · have z2 := Nat.eq_of_beq_eq_true z2
        subst z2
        exact va_copyi (ty := .int) hx hb (by rw [hml, hL.1, hl]) hown (hts _ (am_gw_in hc)) (hts _ (am_jw_in _ (List.mem_of_getElem? (i := 38) rfl))) (hts _ (am_jw_in _ (List.mem_of_getElem? (i := 39) rfl))) (hts _ (am_jw_in _ (List.mem_of_getElem? (i := 40) rfl))) hK hR.1 hR.2.1 hV (a / 64) (b / 64) 0 0 hwa hwb rfl rfl rfl z3 z4 z5 (Nat.le_of_ble_eq_true z6) (Nat.le_of_ble_eq_true z7) (fun _ _ => rfl) (by omega) (by rw [am_sum hk]; omega) hd fin
      · have z2 := Nat.eq_of_beq_eq_true z2
        subst z2
        have hby : ∀ k, k < n.toNatClampNeg → (M.1 a (sp.toNatClampNeg + k)).toInt8.toInt32 = M.1 a (sp.toNatClampNeg + k) := hby.resolve_left (by decide)
        exact va_copyi (ty := .byte) hx hb (by rw [hml, hL.1, hl]) hown (hts _ (am_gw_in hc)) (hts _ (am_jw_in _ (List.mem_of_getElem? (i := 38) rfl))) (hts _ (am_jw_in _ (List.mem_of_getElem? (i := 39) rfl))) (hts _ (am_jw_in _ (List.mem_of_getElem? (i := 40) rfl))) hK hR.1 hR.2.1 hV (a / 64) (b / 64) 6 6 hwa hwb rfl rfl rfl z3 z4 z5 (Nat.le_of_ble_eq_true z6) (Nat.le_of_ble_eq_true z7) (fun i hi => by rw [← hby i hi]; exact pk_fb _) (by omega) (by rw [am_sum hk]; omega) hd fin
    · cases hs
  · cases hs
  | false =>
  rw [h4] at hs
  dsimp only [cond_false] at hs
  cases h6 : Nat.beq (am_pj (am_cl y) j) 6 with
  | true =>
    have hpj := Nat.eq_of_beq_eq_true h6
    rw [h6] at hs
    dsimp only [cond_true] at hs
    have hc := am_pj_ok hpj (by decide)
    unfold am_cj1 at hc
    rw [hpj] at hc
    obtain ⟨v1, t, rfl, hs⟩ := am_i1_inv hs
    obtain ⟨hz, hs⟩ := am_if_inv hs
    cases hs
    have hsum := Nat.le_of_ble_eq_true hz
    intro r ks H locs ls st1 he hR hV hl hL hk
    replace hk := am_Sk_tl hk; obtain ⟨st2, rfl, -, hk⟩ := hk
    refine va_mabs hx hb (by rw [hml, hL.1, hl]) hown (hts _ (am_gw_in hc)) (hts _ (am_jw_in _ (List.mem_of_getElem? (i := 47) rfl))) (hts _ (am_jw_in _ (List.mem_of_getElem? (i := 48) rfl))) (hts _ (am_jw_in _ (List.mem_of_getElem? (i := 49) rfl))) (by omega) (by rw [am_sum hk]; omega) hcl2.1 hcl2.2 hd ?_
    exact k r ks H locs ls _ he hR hV hl hL (am_Sk_cons (am_vok_int _) hk)
  | false =>
  rw [h6] at hs
  dsimp only [cond_false] at hs
  cases h7 : Nat.beq (am_pj (am_cl y) j) 7 with
  | true =>
    have hpj := Nat.eq_of_beq_eq_true h7
    rw [h7] at hs
    dsimp only [cond_true] at hs
    have hc := am_pj_ok hpj (by decide)
    unfold am_cj1 at hc
    rw [hpj] at hc
    obtain ⟨v2, v1, t, rfl, hs⟩ := am_i2_inv hs
    obtain ⟨hz, hs⟩ := am_if_inv hs
    cases hs
    have hsum := Nat.le_of_ble_eq_true hz
    intro r ks H locs ls st1 he hR hV hl hL hk
    replace hk := am_Sk_tl hk; obtain ⟨st2, rfl, -, hk⟩ := hk
    replace hk := am_Sk_tl hk; obtain ⟨st3, rfl, -, hk⟩ := hk
    refine va_mmax hx hb (by rw [hml, hL.1, hl]) hown (hts _ (am_gw_in hc)) (hts _ (am_jw_in _ (List.mem_of_getElem? (i := 50) rfl))) (hts _ (am_jw_in _ (List.mem_of_getElem? (i := 48) rfl))) (hts _ (am_jw_in _ (List.mem_of_getElem? (i := 51) rfl))) (by omega) (by rw [am_sum hk]; omega) hcl2.1 hcl2.2 hd ?_
    exact k r ks H locs ls _ he hR hV hl hL (am_Sk_cons (am_vok_int _) hk)
  | false =>
  rw [h7] at hs
  dsimp only [cond_false] at hs
  cases h8 : Nat.beq (am_pj (am_cl y) j) 8 with
  | true =>
    have hpj := Nat.eq_of_beq_eq_true h8
    rw [h8] at hs
    dsimp only [cond_true] at hs
    have hc := am_pj_ok hpj (by decide)
    unfold am_cj1 at hc
    rw [hpj] at hc
    obtain ⟨v2, v1, t, rfl, hs⟩ := am_i2_inv hs
    obtain ⟨hz, hs⟩ := am_if_inv hs
    cases hs
    have hsum := Nat.le_of_ble_eq_true hz
    intro r ks H locs ls st1 he hR hV hl hL hk
    replace hk := am_Sk_tl hk; obtain ⟨st2, rfl, -, hk⟩ := hk
    replace hk := am_Sk_tl hk; obtain ⟨st3, rfl, -, hk⟩ := hk
    refine va_mmin hx hb (by rw [hml, hL.1, hl]) hown (hts _ (am_gw_in hc)) (hts _ (am_jw_in _ (List.mem_of_getElem? (i := 52) rfl))) (hts _ (am_jw_in _ (List.mem_of_getElem? (i := 48) rfl))) (hts _ (am_jw_in _ (List.mem_of_getElem? (i := 53) rfl))) (by omega) (by rw [am_sum hk]; omega) hcl2.1 hcl2.2 hd ?_
    exact k r ks H locs ls _ he hR hV hl hL (am_Sk_cons (am_vok_int _) hk)
  | false =>
  rw [h8] at hs
  dsimp only [cond_false] at hs
  cases h9 : Nat.beq (am_pj (am_cl y) j) 9 with
  | false =>
    rw [h9] at hs
    dsimp only [cond_false] at hs
    obtain ⟨h9, hs⟩ := am_if_inv hs
    have hpj := Nat.eq_of_beq_eq_true h9
    have hc := am_pj_ok hpj (by decide)
    unfold am_cj1 at hc
    rw [hpj] at hc
    obtain ⟨v2, v1, t, rfl, hs⟩ := am_i2_inv hs
    obtain ⟨hz, hs⟩ := am_if_inv hs
    cases hs
    simp only [Bool.and_eq_true, decide_eq_true_eq] at hz
    obtain ⟨⟨h0, hn⟩, hsum⟩ := hz
    have hsum := Nat.le_of_ble_eq_true hsum
    intro r ks H locs ls st1 he hR hV hl hL hk
    replace hk := am_Sk_tl hk; obtain ⟨st2, rfl, -, hk⟩ := hk
    replace hk := am_Sk_tl hk; obtain ⟨st3, rfl, -, hk⟩ := hk
    refine am_runq (va_runS (As := [.int v1, .int v2]) (rest := st3) ⟨hx, hb, hml, hown, hts⟩ (am_m_sci l E B0 L0 xs v1 v2 h0 hn) (va_cwS 2 hts (am_gws (am_gw_in hc) (am_jw_in _ (List.mem_of_getElem? (i := 29) rfl)) (am_jw_in _ (List.mem_of_getElem? (i := 10) rfl)) (am_jw_in _ (List.mem_of_getElem? (i := 30) rfl))) rfl rfl rfl ⟨by decide, by decide, by decide +kernel⟩ ⟨by show 1 + 1 ≤ _; omega, by show 8 + (2 + 11) + 40 ≤ _; omega⟩) ⟨am_Bs_blind, fun U hU hW => ⟨rfl, am_Bs_gh hS0 hE hV hU hW⟩⟩ rfl rfl (hL.1.trans hl) rfl (lv_room (by rw [am_sum hk]; omega)) hd hcl2) ?_
    exact k r ks H locs ls _ he hR hV hl hL hk
  | true =>
  rw [h9] at hs
  dsimp only [cond_true] at hs
  have hpj := Nat.eq_of_beq_eq_true h9
  have hc := am_pj_ok hpj (by decide)
  unfold am_cj1 at hc
  rw [hpj] at hc
  obtain ⟨v1, t, rfl, hs⟩ := am_i1_inv hs
  obtain ⟨hz, hs⟩ := am_if_inv hs
  cases hs
  have hsum := Nat.le_of_ble_eq_true hz
  intro r ks H locs ls st1 he hR hV hl hL hk
  replace hk := am_Sk_tl hk; obtain ⟨st2, rfl, -, hk⟩ := hk
  refine am_runq (va_runS (As := [.int v1]) (rest := st2) ⟨hx, hb, hml, hown, hts⟩ (am_m_bc l E B0 L0 xs v1) (va_cwS 1 hts (am_gws (am_gw_in hc) (am_jw_in _ (List.mem_of_getElem? (i := 45) rfl)) (am_jw_in _ (List.mem_of_getElem? (i := 46) rfl)) (am_jw_in _ (List.mem_of_getElem? (i := 44) rfl))) rfl rfl rfl ⟨by decide, by decide, by decide +kernel⟩ ⟨by show 0 + 1 ≤ _; omega, by show 8 + (1 + 11) + 0 ≤ _; omega⟩) ⟨am_Bs_blind, fun U hU hW => ⟨rfl, am_Bs_gh hS0 hE hV hU hW⟩⟩ rfl rfl (hL.1.trans hl) rfl (lv_room (by rw [am_sum hk]; omega)) hd hcl2) ?_
  exact k r ks H locs ls _ he hR hV hl hL (am_Sk_cons (am_vok_int _) hk)
theorem am_s_jvirt {j : Nat} (hcl2 : cells + 0 ≤ R.cells ∧ slots + 0 ≤ R.slots) (C : am_X D ca B0 E L0 xs l p s m args meth c y) (hRf : 6 ≤ R.frames) (hRl : 200 ≤ R.locals) (hd : decode (am_b y) pc = .ok (.invokevirtual j, nx - pc)) (ho : am_ok1 (.invokevirtual j) pc nx tg = true) (hs : am_stp y (.invokevirtual j) pc nx tg L st M = some x) (k : am_W D ca B0 E L0 xs p l e R s m args below meth c y Q r0 ks0 n0 cells slots x.1 x.2.1 x.2.2.1 x.2.2.2) : am_W D ca B0 E L0 xs p l e R s m args below meth c y Q r0 ks0 n0 cells slots pc L st M := by
  obtain ⟨hx, hb, hml, hown, hts, hlk, hrt, hin, hK, hS0, hS2, hB0, hE, hst, het⟩ := C
  have hn : nx = pc + 3 := by simpa [am_ok1, am_len] using ho
  subst hn
  rw [Nat.add_sub_cancel_left] at hd
  simp only [am_stp] at hs
  have hnL : ∀ {ls : Array Slot}, ls.size = L.length → L.length = am_ml y → ls.size = am_ml y := fun h1 h2 => h1.trans h2
  cases h1 : Nat.beq (am_pj (am_cl y) j) 1 with
  | true =>
    rw [h1] at hs
    have h1 := Nat.eq_of_beq_eq_true h1
    have hc := am_pj_ok h1 (by decide)
    unfold am_cj1 at hc
    rw [h1] at hc
    dsimp only [cond_true] at hs
    replace hs := am_a1_inv hs; obtain ⟨a, t, rfl, hs⟩ := hs
    replace hs := am_if_inv hs; obtain ⟨hz, hs⟩ := hs
    cases hs
    rw [Bool.and_eq_true] at hz
    have h40 := Nat.eq_of_beq_eq_true hz.1
    have hsum := Nat.le_of_ble_eq_true hz.2
    intro r ks H locs ls st1 he hR hV hl hL hk
    replace hk := am_Sk_tl hk; obtain ⟨st2, rfl, hva, hk⟩ := hk
    obtain ⟨h8, ha⟩ := am_d40 (hva a rfl) h40
    show W p l e R s m args below meth c H locs cells slots Q (F0 m pc ls (.ref (r a) :: st2))
    rw [hR.2.2.2.1 a (by omega)]
    have hM := am_m_ord l E B0 L0 xs (a / 64) h8
    rw [ha] at hM
    refine am_runq (va_runU (C := "EchoCanyon$Command") (owner := "java/lang/Enum") (b := E a) (As := []) (rest := st2) ⟨hx, hb, hml, hown, hts⟩ hM (va_cwU 0 hts (am_gwu (am_gw_in hc)) rfl rfl rfl rfl ⟨by decide, by decide, by decide +kernel⟩ ⟨by show 0 + 1 ≤ _; omega, by show 8 + (1 + 11) + 0 ≤ _; omega⟩) ⟨am_Bs_blind, ?_, fun U hU hW => ⟨rfl, am_Bs_gh hS0 hE hV hU hW⟩⟩ rfl rfl (hnL hL.1 hl) rfl (lv_room (by rw [am_sum hk]; omega)) hd ⟨?_, ?_⟩) ?_
    · obtain ⟨cell, q1, q2, q3, q4⟩ := (hS0.1.1 (a / 64) h8).2.1
      dsimp only at q1 q4
      rw [ha] at q1 q4
      exact ⟨cell, by rw [hV.2.1 _ (Array.getElem?_eq_some_iff.mp q1).1 q4]; exact q1, q2, q3⟩
    · exact hcl2.1
    · exact hcl2.2
    · exact k r ks H locs ls _ he hR hV hl hL (am_Sk_cons (am_vok_int _) hk)
  | false =>
    rw [h1] at hs
    dsimp only [cond_false] at hs
    cases h2 : Nat.beq (am_pj (am_cl y) j) 2 with
    | true =>
      rw [h2] at hs
      have h2 := Nat.eq_of_beq_eq_true h2
      have hc := am_pj_ok h2 (by decide)
      unfold am_cj1 at hc
      rw [h2] at hc
      dsimp only [cond_true] at hs
      replace hs := am_a1_inv hs; obtain ⟨a, t, rfl, hs⟩ := hs
      replace hs := am_if_inv hs; obtain ⟨hz, hs⟩ := hs
      cases hs
      rw [Bool.and_eq_true] at hz
      have h41 := Nat.eq_of_beq_eq_true hz.1
      have hsum := Nat.le_of_ble_eq_true hz.2
      intro r ks H locs ls st1 he hR hV hl hL hk
      replace hk := am_Sk_tl hk; obtain ⟨st2, rfl, hva, hk⟩ := hk
      obtain ⟨h7, ha⟩ := am_d41 (hva a rfl) h41
      show W p l e R s m args below meth c H locs cells slots Q (F0 m pc ls (.ref (r a) :: st2))
      rw [hR.2.2.2.1 a (by omega)]
      have hM := am_m_len l E B0 L0 xs (a / 64) h7
      rw [ha] at hM
      refine am_runq (va_runV (C := RJ0) (b := E a) (As := []) (rest := st2) ⟨hx, hb, hml, hown, hts⟩ hM (cwV 0 hts (am_gwv (am_gw_in hc) (am_jw_in _ (List.mem_of_getElem? (i := 15) rfl)) (am_jw_in _ (List.mem_of_getElem? (i := 16) rfl)) (am_jw_in _ (List.mem_of_getElem? (i := 10) rfl)) (am_jw_in _ (List.mem_of_getElem? (i := 14) rfl))) rfl rfl rfl ⟨rfl, by decide, by decide, by decide +kernel⟩ ⟨by show 1 + 1 ≤ _; omega, by show 8 + (1 + 11) + 40 ≤ _; omega⟩) ⟨am_Bs_blind, ?_, fun U hU hW => ⟨rfl, am_Bs_gh hS0 hE hV hU hW⟩⟩ rfl rfl (hnL hL.1 hl) rfl (lv_room (by rw [am_sum hk]; omega)) hd ⟨?_, ?_⟩) ?_
      · obtain ⟨adV, hV1, -⟩ := hS0.2.2.1
        obtain ⟨cell, q1, q2, q3, q4⟩ := (hV1 (a / 64) h7).1
        dsimp only at q1 q4
        rw [ha] at q1 q4
        exact ⟨cell, by rw [hV.2.1 _ (Array.getElem?_eq_some_iff.mp q1).1 q4]; exact q1, q2, q3⟩
      · exact hcl2.1
      · exact hcl2.2
      · exact k r ks H locs ls _ he hR hV hl hL (am_Sk_cons (am_vok_int _) hk)
    | false =>
      rw [h2] at hs
      dsimp only [cond_false] at hs
      replace hs := am_if_inv hs; obtain ⟨h3, hs⟩ := hs
      have h3 := Nat.eq_of_beq_eq_true h3
      have hc := am_pj_ok h3 (by decide)
      unfold am_cj1 at hc
      rw [h3] at hc
      replace hs := am_ia_inv hs; obtain ⟨q, a, t, rfl, hs⟩ := hs
      replace hs := am_if_inv hs; obtain ⟨hz, hs⟩ := hs
      cases hs
      rw [Bool.and_eq_true, Bool.and_eq_true] at hz
      have h41 := Nat.eq_of_beq_eq_true hz.1.1
      have hj := am_in_sp hz.1.2
      have hsum := Nat.le_of_ble_eq_true hz.2
      intro r ks H locs ls st1 he hR hV hl hL hk
      replace hk := am_Sk_tl hk; obtain ⟨st2, rfl, -, hk⟩ := hk
      replace hk := am_Sk_tl hk; obtain ⟨st3, rfl, hva, hk⟩ := hk
      obtain ⟨h7, ha⟩ := am_d41 (hva a rfl) h41
      show W p l e R s m args below meth c H locs cells slots Q (F0 m pc ls (.int q :: .ref (r a) :: st3))
      rw [hR.2.2.2.1 a (by omega)]
      have hM := am_m_cha l E B0 L0 xs (a / 64) q h7 hj
      rw [ha] at hM
      refine am_runq (va_runV (C := RJ0) (b := E a) (As := [.int q]) (rest := st3) ⟨hx, hb, hml, hown, hts⟩ hM (cwV 1 hts (am_gwv (am_gw_in hc) (am_jw_in _ (List.mem_of_getElem? (i := 18) rfl)) (am_jw_in _ (List.mem_of_getElem? (i := 19) rfl)) (am_jw_in _ (List.mem_of_getElem? (i := 10) rfl)) (am_jw_in _ (List.mem_of_getElem? (i := 17) rfl))) rfl rfl rfl ⟨rfl, by decide, by decide, by decide +kernel⟩ ⟨by show 3 + 1 ≤ _; omega, by show 8 + (2 + 11) + 120 ≤ _; omega⟩) ⟨am_Bs_blind, ?_, fun U hU hW => ⟨rfl, am_Bs_gh hS0 hE hV hU hW⟩⟩ rfl rfl (hnL hL.1 hl) rfl (lv_room (by rw [am_sum hk]; omega)) hd ⟨?_, ?_⟩) ?_
      · obtain ⟨adV, hV1, -⟩ := hS0.2.2.1
        obtain ⟨cell, q1, q2, q3, q4⟩ := (hV1 (a / 64) h7).1
        dsimp only at q1 q4
        rw [ha] at q1 q4
        exact ⟨cell, by rw [hV.2.1 _ (Array.getElem?_eq_some_iff.mp q1).1 q4]; exact q1, q2, q3⟩
      · exact hcl2.1
      · exact hcl2.2
      · exact k r ks H locs ls _ he hR hV hl hL (am_Sk_cons (am_vok_int _) hk)
end AMS
