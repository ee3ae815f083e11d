/-! THE START: what the Statement gives, as the abstract machine takes it -/
def am_nr : List Cond := flatC (Jvm.Cond.and given_1 narrow_1)
def am_FE : List (String × String × String × List Int32) := [("java/lang/Enum", "ordinal", "I", [0, 1, 2, 3, 4, 5, 6, 7]), ("EchoCanyon$Command", "letter", "I", [119, 111, 112, 109, 115, 98, 99, 118])]
def am_se (i : Nat) : Term := .static "EchoCanyon$Command" (am_nm.getD i "") "LEchoCanyon$Command;"
def am_sk (j : Nat) : Term := .string "EchoCanyon$Command" ([59, 65, 69, 72, 75, 78, 81].getD j 0)
def am_sv (j : Nat) : Term := .field (am_sk j) "java/lang/String" "value" "[B"
def am_sA : Term := .static "EchoCanyon$Command" "ALL" "[LEchoCanyon$Command;"
def am_sM : Term := .static "EchoCanyon$1" "$SwitchMap$EchoCanyon$Command" "[I"
def am_w2 (w : Cond) : Bool := decide (w ∈ am_nr)
def am_w1 (w : Cond) : Bool := decide (w ∈ lw_tbl)
theorem am_c1 : ((List.range 8).all fun i => am_w1 (.laysStatic "EchoCanyon$Command" (am_nm.getD i "") "LEchoCanyon$Command;")) = true := by decide +kernel
theorem am_c2 : ((List.range 8).all fun i => am_w2 (.exactly (am_se i) "EchoCanyon$Command")) = true := by decide +kernel
theorem am_c3 : (am_FE.all fun q => (List.range 8).all fun i => am_w2 (.eq (.field (am_se i) q.1 q.2.1 q.2.2.1) (.int (q.2.2.2.getD i 0)))) = true := by decide +kernel
theorem am_c4 : ((List.range 8).all fun i => (List.range 8).all fun j => Nat.beq i j || am_w2 (.not (.eq (am_se i) (am_se j))) || am_w2 (.not (.eq (am_se j) (am_se i)))) = true := by decide +kernel
/-- the words of the enum's texts, which stand in a row -/
def am_w5 : List Cond := [(Jvm.Cond.exactly (Jvm.Term.string "EchoCanyon$Command" (75 : Nat)) "java/lang/String"),
  (Jvm.Cond.eq (Jvm.Term.field (Jvm.Term.string "EchoCanyon$Command" (75 : Nat)) "java/lang/String" "coder" "B") (Jvm.Term.int (0 : Int32))),
  (Jvm.Cond.arrayOf (Jvm.Term.field (Jvm.Term.string "EchoCanyon$Command" (75 : Nat)) "java/lang/String" "value" "[B") Jvm.ClassFile.FieldType.byte),
  (Jvm.Cond.eq (Jvm.Term.length (Jvm.Term.field (Jvm.Term.string "EchoCanyon$Command" (75 : Nat)) "java/lang/String" "value" "[B")) (Jvm.Term.int (0 : Int32))),
  (Jvm.Cond.exactly (Jvm.Term.string "EchoCanyon$Command" (59 : Nat)) "java/lang/String"),
  (Jvm.Cond.eq (Jvm.Term.field (Jvm.Term.string "EchoCanyon$Command" (59 : Nat)) "java/lang/String" "coder" "B") (Jvm.Term.int (0 : Int32))),
  (Jvm.Cond.arrayOf (Jvm.Term.field (Jvm.Term.string "EchoCanyon$Command" (59 : Nat)) "java/lang/String" "value" "[B") Jvm.ClassFile.FieldType.byte),
  (Jvm.Cond.eq (Jvm.Term.length (Jvm.Term.field (Jvm.Term.string "EchoCanyon$Command" (59 : Nat)) "java/lang/String" "value" "[B")) (Jvm.Term.int (3 : Int32))),
  (Jvm.Cond.eq (Jvm.Term.elem (Jvm.Term.field (Jvm.Term.string "EchoCanyon$Command" (59 : Nat)) "java/lang/String" "value" "[B") (Jvm.Term.int (0 : Int32))) (Jvm.Term.int (50 : Int32))),
  (Jvm.Cond.eq (Jvm.Term.elem (Jvm.Term.field (Jvm.Term.string "EchoCanyon$Command" (59 : Nat)) "java/lang/String" "value" "[B") (Jvm.Term.int (1 : Int32))) (Jvm.Term.int (61 : Int32))),
  (Jvm.Cond.eq (Jvm.Term.elem (Jvm.Term.field (Jvm.Term.string "EchoCanyon$Command" (59 : Nat)) "java/lang/String" "value" "[B") (Jvm.Term.int (2 : Int32))) (Jvm.Term.int (49 : Int32))),
  (Jvm.Cond.exactly (Jvm.Term.string "EchoCanyon$Command" (65 : Nat)) "java/lang/String"),
  (Jvm.Cond.eq (Jvm.Term.field (Jvm.Term.string "EchoCanyon$Command" (65 : Nat)) "java/lang/String" "coder" "B") (Jvm.Term.int (0 : Int32))),
  (Jvm.Cond.arrayOf (Jvm.Term.field (Jvm.Term.string "EchoCanyon$Command" (65 : Nat)) "java/lang/String" "value" "[B") Jvm.ClassFile.FieldType.byte),
  (Jvm.Cond.eq (Jvm.Term.length (Jvm.Term.field (Jvm.Term.string "EchoCanyon$Command" (65 : Nat)) "java/lang/String" "value" "[B")) (Jvm.Term.int (3 : Int32))),
  (Jvm.Cond.eq (Jvm.Term.elem (Jvm.Term.field (Jvm.Term.string "EchoCanyon$Command" (65 : Nat)) "java/lang/String" "value" "[B") (Jvm.Term.int (0 : Int32))) (Jvm.Term.int (49 : Int32))),
  (Jvm.Cond.eq (Jvm.Term.elem (Jvm.Term.field (Jvm.Term.string "EchoCanyon$Command" (65 : Nat)) "java/lang/String" "value" "[B") (Jvm.Term.int (1 : Int32))) (Jvm.Term.int (64 : Int32))),
  (Jvm.Cond.eq (Jvm.Term.elem (Jvm.Term.field (Jvm.Term.string "EchoCanyon$Command" (65 : Nat)) "java/lang/String" "value" "[B") (Jvm.Term.int (2 : Int32))) (Jvm.Term.int (50 : Int32))),
  (Jvm.Cond.exactly (Jvm.Term.string "EchoCanyon$Command" (81 : Nat)) "java/lang/String"),
  (Jvm.Cond.eq (Jvm.Term.field (Jvm.Term.string "EchoCanyon$Command" (81 : Nat)) "java/lang/String" "coder" "B") (Jvm.Term.int (0 : Int32))),
  (Jvm.Cond.arrayOf (Jvm.Term.field (Jvm.Term.string "EchoCanyon$Command" (81 : Nat)) "java/lang/String" "value" "[B") Jvm.ClassFile.FieldType.byte),
  (Jvm.Cond.eq (Jvm.Term.length (Jvm.Term.field (Jvm.Term.string "EchoCanyon$Command" (81 : Nat)) "java/lang/String" "value" "[B")) (Jvm.Term.int (2 : Int32))),
  (Jvm.Cond.eq (Jvm.Term.elem (Jvm.Term.field (Jvm.Term.string "EchoCanyon$Command" (81 : Nat)) "java/lang/String" "value" "[B") (Jvm.Term.int (0 : Int32))) (Jvm.Term.int (126 : Int32))),
  (Jvm.Cond.eq (Jvm.Term.elem (Jvm.Term.field (Jvm.Term.string "EchoCanyon$Command" (81 : Nat)) "java/lang/String" "value" "[B") (Jvm.Term.int (1 : Int32))) (Jvm.Term.int (49 : Int32))),
  (Jvm.Cond.exactly (Jvm.Term.string "EchoCanyon$Command" (69 : Nat)) "java/lang/String"),
  (Jvm.Cond.eq (Jvm.Term.field (Jvm.Term.string "EchoCanyon$Command" (69 : Nat)) "java/lang/String" "coder" "B") (Jvm.Term.int (0 : Int32))),
  (Jvm.Cond.arrayOf (Jvm.Term.field (Jvm.Term.string "EchoCanyon$Command" (69 : Nat)) "java/lang/String" "value" "[B") Jvm.ClassFile.FieldType.byte),
  (Jvm.Cond.eq (Jvm.Term.length (Jvm.Term.field (Jvm.Term.string "EchoCanyon$Command" (69 : Nat)) "java/lang/String" "value" "[B")) (Jvm.Term.int (3 : Int32))),
  (Jvm.Cond.eq (Jvm.Term.elem (Jvm.Term.field (Jvm.Term.string "EchoCanyon$Command" (69 : Nat)) "java/lang/String" "value" "[B") (Jvm.Term.int (0 : Int32))) (Jvm.Term.int (49 : Int32))),
  (Jvm.Cond.eq (Jvm.Term.elem (Jvm.Term.field (Jvm.Term.string "EchoCanyon$Command" (69 : Nat)) "java/lang/String" "value" "[B") (Jvm.Term.int (1 : Int32))) (Jvm.Term.int (62 : Int32))),
  (Jvm.Cond.eq (Jvm.Term.elem (Jvm.Term.field (Jvm.Term.string "EchoCanyon$Command" (69 : Nat)) "java/lang/String" "value" "[B") (Jvm.Term.int (2 : Int32))) (Jvm.Term.int (50 : Int32))),
  (Jvm.Cond.exactly (Jvm.Term.string "EchoCanyon$Command" (72 : Nat)) "java/lang/String"),
  (Jvm.Cond.eq (Jvm.Term.field (Jvm.Term.string "EchoCanyon$Command" (72 : Nat)) "java/lang/String" "coder" "B") (Jvm.Term.int (0 : Int32))),
  (Jvm.Cond.arrayOf (Jvm.Term.field (Jvm.Term.string "EchoCanyon$Command" (72 : Nat)) "java/lang/String" "value" "[B") Jvm.ClassFile.FieldType.byte),
  (Jvm.Cond.eq (Jvm.Term.length (Jvm.Term.field (Jvm.Term.string "EchoCanyon$Command" (72 : Nat)) "java/lang/String" "value" "[B")) (Jvm.Term.int (3 : Int32))),
  (Jvm.Cond.eq (Jvm.Term.elem (Jvm.Term.field (Jvm.Term.string "EchoCanyon$Command" (72 : Nat)) "java/lang/String" "value" "[B") (Jvm.Term.int (0 : Int32))) (Jvm.Term.int (49 : Int32))),
  (Jvm.Cond.eq (Jvm.Term.elem (Jvm.Term.field (Jvm.Term.string "EchoCanyon$Command" (72 : Nat)) "java/lang/String" "value" "[B") (Jvm.Term.int (1 : Int32))) (Jvm.Term.int (126 : Int32))),
  (Jvm.Cond.eq (Jvm.Term.elem (Jvm.Term.field (Jvm.Term.string "EchoCanyon$Command" (72 : Nat)) "java/lang/String" "value" "[B") (Jvm.Term.int (2 : Int32))) (Jvm.Term.int (50 : Int32))),
  (Jvm.Cond.exactly (Jvm.Term.string "EchoCanyon$Command" (78 : Nat)) "java/lang/String"),
  (Jvm.Cond.eq (Jvm.Term.field (Jvm.Term.string "EchoCanyon$Command" (78 : Nat)) "java/lang/String" "coder" "B") (Jvm.Term.int (0 : Int32))),
  (Jvm.Cond.arrayOf (Jvm.Term.field (Jvm.Term.string "EchoCanyon$Command" (78 : Nat)) "java/lang/String" "value" "[B") Jvm.ClassFile.FieldType.byte),
  (Jvm.Cond.eq (Jvm.Term.length (Jvm.Term.field (Jvm.Term.string "EchoCanyon$Command" (78 : Nat)) "java/lang/String" "value" "[B")) (Jvm.Term.int (1 : Int32))),
  (Jvm.Cond.eq (Jvm.Term.elem (Jvm.Term.field (Jvm.Term.string "EchoCanyon$Command" (78 : Nat)) "java/lang/String" "value" "[B") (Jvm.Term.int (0 : Int32))) (Jvm.Term.int (49 : Int32)))]
theorem am_w5r : (am_nr.drop 1136).take 43 = am_w5 := by decide +kernel
theorem am_w5in {w : Cond} (h : w ∈ am_w5) : w ∈ am_nr := by
  rw [← am_w5r] at h
  exact List.mem_of_mem_drop (List.mem_of_mem_take h)
def am_w5b (w : Cond) : Bool := decide (w ∈ am_w5)
theorem am_c5 : ((List.range 7).all fun j => am_w5b (.exactly (am_sk j) "java/lang/String") && am_w5b (.eq (.field (am_sk j) "java/lang/String" "coder" "B") (.int 0)) && am_w5b (.arrayOf (am_sv j) .byte) && am_w5b (.eq (.length (am_sv j)) (.int (Int32.ofNat (am_len8.getD j 0)))) && Nat.blt (am_len8.getD j 0) 100
  && (List.range (am_len8.getD j 0)).all fun k => am_w5b (.eq (.elem (am_sv j) (.int (Int32.ofNat k))) (.int ((am_byt.getD j []).getD k 0)))) = true := by decide +kernel
def am_w6 : List Cond := [(Jvm.Cond.exactly (Jvm.Term.string "EchoCanyonLaw" (233 : Nat)) "java/lang/String"),
  (Jvm.Cond.eq (Jvm.Term.field (Jvm.Term.string "EchoCanyonLaw" (233 : Nat)) "java/lang/String" "coder" "B") (Jvm.Term.int (0 : Int32))),
  (Jvm.Cond.arrayOf (Jvm.Term.field (Jvm.Term.string "EchoCanyonLaw" (233 : Nat)) "java/lang/String" "value" "[B") Jvm.ClassFile.FieldType.byte),
  (Jvm.Cond.eq (Jvm.Term.length (Jvm.Term.field (Jvm.Term.string "EchoCanyonLaw" (233 : Nat)) "java/lang/String" "value" "[B")) (Jvm.Term.int (2 : Int32))),
  (Jvm.Cond.eq (Jvm.Term.elem (Jvm.Term.field (Jvm.Term.string "EchoCanyonLaw" (233 : Nat)) "java/lang/String" "value" "[B") (Jvm.Term.int (0 : Int32))) (Jvm.Term.int (118 : Int32))),
  (Jvm.Cond.eq (Jvm.Term.elem (Jvm.Term.field (Jvm.Term.string "EchoCanyonLaw" (233 : Nat)) "java/lang/String" "value" "[B") (Jvm.Term.int (1 : Int32))) (Jvm.Term.int (43 : Int32))),
  (Jvm.Cond.exactly (Jvm.Term.string "EchoCanyonLaw" (241 : Nat)) "java/lang/String"),
  (Jvm.Cond.eq (Jvm.Term.field (Jvm.Term.string "EchoCanyonLaw" (241 : Nat)) "java/lang/String" "coder" "B") (Jvm.Term.int (0 : Int32))),
  (Jvm.Cond.arrayOf (Jvm.Term.field (Jvm.Term.string "EchoCanyonLaw" (241 : Nat)) "java/lang/String" "value" "[B") Jvm.ClassFile.FieldType.byte),
  (Jvm.Cond.eq (Jvm.Term.length (Jvm.Term.field (Jvm.Term.string "EchoCanyonLaw" (241 : Nat)) "java/lang/String" "value" "[B")) (Jvm.Term.int (2 : Int32))),
  (Jvm.Cond.eq (Jvm.Term.elem (Jvm.Term.field (Jvm.Term.string "EchoCanyonLaw" (241 : Nat)) "java/lang/String" "value" "[B") (Jvm.Term.int (0 : Int32))) (Jvm.Term.int (59 : Int32))),
  (Jvm.Cond.eq (Jvm.Term.elem (Jvm.Term.field (Jvm.Term.string "EchoCanyonLaw" (241 : Nat)) "java/lang/String" "value" "[B") (Jvm.Term.int (1 : Int32))) (Jvm.Term.int (98 : Int32))),
  (Jvm.Cond.exactly (Jvm.Term.string "EchoCanyonLaw" (243 : Nat)) "java/lang/String"),
  (Jvm.Cond.eq (Jvm.Term.field (Jvm.Term.string "EchoCanyonLaw" (243 : Nat)) "java/lang/String" "coder" "B") (Jvm.Term.int (0 : Int32))),
  (Jvm.Cond.arrayOf (Jvm.Term.field (Jvm.Term.string "EchoCanyonLaw" (243 : Nat)) "java/lang/String" "value" "[B") Jvm.ClassFile.FieldType.byte),
  (Jvm.Cond.eq (Jvm.Term.length (Jvm.Term.field (Jvm.Term.string "EchoCanyonLaw" (243 : Nat)) "java/lang/String" "value" "[B")) (Jvm.Term.int (2 : Int32))),
  (Jvm.Cond.eq (Jvm.Term.elem (Jvm.Term.field (Jvm.Term.string "EchoCanyonLaw" (243 : Nat)) "java/lang/String" "value" "[B") (Jvm.Term.int (0 : Int32))) (Jvm.Term.int (59 : Int32))),
  (Jvm.Cond.eq (Jvm.Term.elem (Jvm.Term.field (Jvm.Term.string "EchoCanyonLaw" (243 : Nat)) "java/lang/String" "value" "[B") (Jvm.Term.int (1 : Int32))) (Jvm.Term.int (115 : Int32))),
  (Jvm.Cond.exactly (Jvm.Term.string "EchoCanyonLaw" (245 : Nat)) "java/lang/String"),
  (Jvm.Cond.eq (Jvm.Term.field (Jvm.Term.string "EchoCanyonLaw" (245 : Nat)) "java/lang/String" "coder" "B") (Jvm.Term.int (0 : Int32))),
  (Jvm.Cond.arrayOf (Jvm.Term.field (Jvm.Term.string "EchoCanyonLaw" (245 : Nat)) "java/lang/String" "value" "[B") Jvm.ClassFile.FieldType.byte),
  (Jvm.Cond.eq (Jvm.Term.length (Jvm.Term.field (Jvm.Term.string "EchoCanyonLaw" (245 : Nat)) "java/lang/String" "value" "[B")) (Jvm.Term.int (1 : Int32))),
  (Jvm.Cond.eq (Jvm.Term.elem (Jvm.Term.field (Jvm.Term.string "EchoCanyonLaw" (245 : Nat)) "java/lang/String" "value" "[B") (Jvm.Term.int (0 : Int32))) (Jvm.Term.int (43 : Int32))),
  (Jvm.Cond.exactly (Jvm.Term.string "EchoCanyonLaw" (251 : Nat)) "java/lang/String"),
  (Jvm.Cond.eq (Jvm.Term.field (Jvm.Term.string "EchoCanyonLaw" (251 : Nat)) "java/lang/String" "coder" "B") (Jvm.Term.int (0 : Int32))),
  (Jvm.Cond.arrayOf (Jvm.Term.field (Jvm.Term.string "EchoCanyonLaw" (251 : Nat)) "java/lang/String" "value" "[B") Jvm.ClassFile.FieldType.byte),
  (Jvm.Cond.eq (Jvm.Term.length (Jvm.Term.field (Jvm.Term.string "EchoCanyonLaw" (251 : Nat)) "java/lang/String" "value" "[B")) (Jvm.Term.int (2 : Int32))),
  (Jvm.Cond.eq (Jvm.Term.elem (Jvm.Term.field (Jvm.Term.string "EchoCanyonLaw" (251 : Nat)) "java/lang/String" "value" "[B") (Jvm.Term.int (0 : Int32))) (Jvm.Term.int (59 : Int32))),
  (Jvm.Cond.eq (Jvm.Term.elem (Jvm.Term.field (Jvm.Term.string "EchoCanyonLaw" (251 : Nat)) "java/lang/String" "value" "[B") (Jvm.Term.int (1 : Int32))) (Jvm.Term.int (119 : Int32))),
  (Jvm.Cond.exactly (Jvm.Term.string "EchoCanyonLaw" (253 : Nat)) "java/lang/String"),
  (Jvm.Cond.eq (Jvm.Term.field (Jvm.Term.string "EchoCanyonLaw" (253 : Nat)) "java/lang/String" "coder" "B") (Jvm.Term.int (0 : Int32))),
  (Jvm.Cond.arrayOf (Jvm.Term.field (Jvm.Term.string "EchoCanyonLaw" (253 : Nat)) "java/lang/String" "value" "[B") Jvm.ClassFile.FieldType.byte),
  (Jvm.Cond.eq (Jvm.Term.length (Jvm.Term.field (Jvm.Term.string "EchoCanyonLaw" (253 : Nat)) "java/lang/String" "value" "[B")) (Jvm.Term.int (1 : Int32))),
  (Jvm.Cond.eq (Jvm.Term.elem (Jvm.Term.field (Jvm.Term.string "EchoCanyonLaw" (253 : Nat)) "java/lang/String" "value" "[B") (Jvm.Term.int (0 : Int32))) (Jvm.Term.int (61 : Int32))),
  (Jvm.Cond.exactly (Jvm.Term.string "EchoCanyonLaw" (255 : Nat)) "java/lang/String"),
  (Jvm.Cond.eq (Jvm.Term.field (Jvm.Term.string "EchoCanyonLaw" (255 : Nat)) "java/lang/String" "coder" "B") (Jvm.Term.int (0 : Int32))),
  (Jvm.Cond.arrayOf (Jvm.Term.field (Jvm.Term.string "EchoCanyonLaw" (255 : Nat)) "java/lang/String" "value" "[B") Jvm.ClassFile.FieldType.byte),
  (Jvm.Cond.eq (Jvm.Term.length (Jvm.Term.field (Jvm.Term.string "EchoCanyonLaw" (255 : Nat)) "java/lang/String" "value" "[B")) (Jvm.Term.int (2 : Int32))),
  (Jvm.Cond.eq (Jvm.Term.elem (Jvm.Term.field (Jvm.Term.string "EchoCanyonLaw" (255 : Nat)) "java/lang/String" "value" "[B") (Jvm.Term.int (0 : Int32))) (Jvm.Term.int (59 : Int32))),
  (Jvm.Cond.eq (Jvm.Term.elem (Jvm.Term.field (Jvm.Term.string "EchoCanyonLaw" (255 : Nat)) "java/lang/String" "value" "[B") (Jvm.Term.int (1 : Int32))) (Jvm.Term.int (99 : Int32))),
  (Jvm.Cond.exactly (Jvm.Term.string "EchoCanyonLaw" (257 : Nat)) "java/lang/String"),
  (Jvm.Cond.eq (Jvm.Term.field (Jvm.Term.string "EchoCanyonLaw" (257 : Nat)) "java/lang/String" "coder" "B") (Jvm.Term.int (0 : Int32))),
  (Jvm.Cond.arrayOf (Jvm.Term.field (Jvm.Term.string "EchoCanyonLaw" (257 : Nat)) "java/lang/String" "value" "[B") Jvm.ClassFile.FieldType.byte),
  (Jvm.Cond.eq (Jvm.Term.length (Jvm.Term.field (Jvm.Term.string "EchoCanyonLaw" (257 : Nat)) "java/lang/String" "value" "[B")) (Jvm.Term.int (1 : Int32))),
  (Jvm.Cond.eq (Jvm.Term.elem (Jvm.Term.field (Jvm.Term.string "EchoCanyonLaw" (257 : Nat)) "java/lang/String" "value" "[B") (Jvm.Term.int (0 : Int32))) (Jvm.Term.int (59 : Int32)))]
theorem am_w6r : (am_nr.drop 667).take 23 ++ (am_nr.drop 697).take 22 = am_w6 := by decide +kernel
theorem am_w6in {w : Cond} (h : w ∈ am_w6) : w ∈ am_nr := by
  rw [← am_w6r] at h
  rcases List.mem_append.mp h with h | h
  · exact List.mem_of_mem_drop (List.mem_of_mem_take h)
  · exact List.mem_of_mem_drop (List.mem_of_mem_take h)
def am_w6b (w : Cond) : Bool := decide (w ∈ am_w6)
def am_lk (j : Nat) : Term := .string "EchoCanyonLaw" (am_li j)
def am_lv (j : Nat) : Term := .field (am_lk j) "java/lang/String" "value" "[B"
theorem am_c16 : ((List.range 8).all fun j => am_w6b (.exactly (am_lk j) "java/lang/String") && am_w6b (.eq (.field (am_lk j) "java/lang/String" "coder" "B") (.int 0)) && am_w6b (.arrayOf (am_lv j) .byte) && am_w6b (.eq (.length (am_lv j)) (.int (Int32.ofNat (am_sn j)))) && Nat.blt (am_sn j) 100
  && (List.range (am_sn j)).all fun k => am_w6b (.eq (.elem (am_lv j) (.int (Int32.ofNat k))) (.int (Int32.ofNat (am_sb j k))))) = true := by decide +kernel
theorem am_c17 : ((List.range 8).all fun j => am_w1 (.stringRef "EchoCanyonLaw" (am_li j) (am_ltx j))) = true := by decide +kernel
def am_dg (z : Nat) : Term := .static "java/lang/Integer" (bif Nat.beq z 8 then "DigitOnes" else "DigitTens") "[B"
theorem am_c18 : (am_w2 (.arrayOf (am_dg 8) .byte) && am_w2 (.eq (.length (am_dg 8)) (.int 100)) && am_w2 (.arrayOf (am_dg 9) .byte) && am_w2 (.eq (.length (am_dg 9)) (.int 100))) = true := by decide +kernel
def am_dc (z k : Nat) : Cond := .eq (.elem (am_dg z) (.int (Int32.ofNat k))) (.int (Int32.ofNat (am_sb z k)))
theorem am_c19 : (List.range 100).map (am_dc 8) = (am_nr.drop 85).take 100 := by decide +kernel
theorem am_c20 : (List.range 100).map (am_dc 9) = (am_nr.drop 188).take 100 := by decide +kernel
theorem am_c6 : ((List.range 8).all fun c => am_w2 (.eq (.field (am_se c) "EchoCanyon$Command" "form" "Ljava/lang/String;") (am_sk (am_ef c))) && Nat.blt (am_ef c) 7) = true := by decide +kernel
theorem am_c7 : (am_w2 (.arrayOf am_sA (.object "EchoCanyon$Command")) && am_w2 (.eq (.length am_sA) (.int 8)) && ((List.range 8).all fun j => am_w2 (.eq (.elem am_sA (.int (Int32.ofNat j))) (am_se j)))) = true := by decide +kernel
theorem am_c8 : (am_w2 (.arrayOf am_sM .int) && am_w2 (.eq (.length am_sM) (.int 8)) && ((List.range 8).all fun j => am_w2 (.eq (.elem am_sM (.int (Int32.ofNat j))) (.int (Int32.ofNat (j + 1)))))) = true := by decide +kernel
theorem am_c9 : (am_w2 (.isRef (.static Bundle.tN "UNASSIGNED_STACK" Bundle.steD)) && am_w2 (.isRef (.static Bundle.tN "SUPPRESSED_SENTINEL" Bundle.listD)) && am_w2 (.eq (.static "java/lang/String" "COMPACT_STRINGS" "Z") (.int 1)) && am_w2 (.isRef (.static "jdk/internal/util/Preconditions" "SIOOBE_FORMATTER" "Ljava/util/function/BiFunction;"))) = true := by decide +kernel
theorem am_c10 : (([.laysStatic "EchoCanyon$Command" "ALL" "[LEchoCanyon$Command;", .laysStatic "EchoCanyon$1" "$SwitchMap$EchoCanyon$Command" "[I", .laysStatic Bundle.tN "UNASSIGNED_STACK" Bundle.steD, .laysStatic Bundle.tN "SUPPRESSED_SENTINEL" Bundle.listD, .laysStatic "java/lang/String" "COMPACT_STRINGS" "Z", .laysStatic "jdk/internal/util/Preconditions" "SIOOBE_FORMATTER" "Ljava/util/function/BiFunction;",
  .initialized "EchoCanyon$Command", .initialized "EchoCanyon$1", .initialized Bundle.tN, .initialized "java/lang/String", .initialized "jdk/internal/util/Preconditions", .arrayClass .int, .arrayClass .char, .arrayClass .long, .arrayClass .byte, .arrayOver (.object RX1), .arrayOver (.object RX6), .arrayOver (.object RX8), .laysStatic "java/lang/Integer" "DigitOnes" "[B", .laysStatic "java/lang/Integer" "DigitTens" "[B", .initialized "java/lang/Integer"] : List Cond).all am_w1) = true := by decide +kernel
theorem am_c11 : (am_strs.all fun q => am_w1 (.stringRef q.1 q.2.1 q.2.2) && am_w2 (.exactly (.string q.1 q.2.1) "java/lang/String")) = true := by decide +kernel
theorem am_c12 : ((List.range 6).all fun e => am_w1 (.castable (am_xn e) (am_xn e)) && (List.range 6).all fun e' => Nat.beq e e' || am_w2 (.not (.castable (am_xn e) (am_xn e')))) = true := by decide +kernel
theorem am_c13 : (am_dn.all fun n => am_w1 (.declares (Bundle.initS n))) = true := by decide +kernel
theorem am_c14 : ((List.range 16).all fun x => ((u_ws (am_cls.getD x (RX1, TX1, 13)).1 (am_cls.getD x (RX1, TX1, 13)).2.1 (am_cls.getD x (RX1, TX1, 13)).2.2).all am_w1) && am_w1 (.instantiable (am_cls.getD x (RX1, TX1, 13)).1 (am_cls.getD x (RX1, TX1, 13)).2.2)) = true := by decide +kernel
theorem am_c15 : ((List.range 7).all fun i => (List.range 7).all fun j => Nat.beq i j || !(Nat.beq (am_len8.getD i 0) (am_len8.getD j 0)) || (List.range (am_len8.getD i 0)).any fun k => !(decide ((am_byt.getD i []).getD k 0 = (am_byt.getD j []).getD k 0))) = true := by decide +kernel
theorem am_rg {n : Nat} {f : Nat → Bool} (h : (List.range n).all f = true) {i : Nat} (hi : i < n) : f i = true := List.all_eq_true.mp h i (List.mem_range.mpr hi)
theorem am_nest_in {c k z mo : Nat} (h : am_pm c k = some (z, mo)) (h2 : mo = 2 ∨ mo = 4) : Cond.methodLinkNest (am_cn c) k (am_y z) "EchoCanyon" ∈ am_tbl := by
  have hc := am_pm_ok h
  unfold am_cl1 at hc
  rw [h] at hc
  simp only [Bool.and_eq_true] at hc
  obtain ⟨⟨⟨⟨⟨⟨⟨⟨⟨⟨h1, -⟩, -⟩, -⟩, -⟩, -⟩, -⟩, -⟩, -⟩, -⟩, -⟩ := hc
  have hb : (Nat.beq mo 2 || Nat.beq mo 4) = true := by rcases h2 with q | q <;> subst q <;> rfl
  rw [hb] at h1
  have h7 : Nat.beq mo 7 = false := by rcases h2 with q | q <;> subst q <;> rfl
  exact List.mem_of_getElem? (of_decide_eq_true h1)
theorem am_str_inj {adK adV : Nat → Nat} {A : Nat → Prop} {s : State} (h : ∀ i : Nat, i < 7 → va_OF "java/lang/String" "value" "[B" (.ref (adV i)) (adK i) A s s.heap ∧ va_T .byte (adV i) (am_len8.getD i 0) (fun j => .int ((am_byt.getD i []).getD j 0)) A s s.heap) : ∀ i j : Nat, i < 7 → j < 7 → adK i = adK j → i = j := by
  intro i j hi hj e
  obtain ⟨⟨cf, k, fi, f, cell, a1, a2, a3, a4, a5, a6⟩, cl, b1, b2, b3, b4, b5, b6, b7⟩ := h i hi
  obtain ⟨⟨cf', k', fi', f', cell', c1, c2, c3, c4, c5, c6⟩, cl', d1, d2, d3, d4, d5, d6, d7⟩ := h j hj
  rw [a1] at c1
  cases c1
  rw [← e, a3] at c3
  cases c3
  rw [a5] at c5
  have hv : adV i = adV j := by injection (Option.some.inj c5)
  rw [← hv, b1] at d1
  cases d1
  rw [b5] at d5
  have hc5 := am_rg am_c5 hi
  have hc5j := am_rg am_c5 hj
  simp only [Bool.and_eq_true, Nat.blt_eq] at hc5 hc5j
  have l1 : am_len8.getD i 0 < 100 := hc5.1.2
  have l2 : am_len8.getD j 0 < 100 := hc5j.1.2
  have hl : am_len8.getD i 0 = am_len8.getD j 0 := by
    have q := congrArg Int32.toInt d5
    rw [Int32.toInt_ofNat_of_lt (by omega), Int32.toInt_ofNat_of_lt (by omega)] at q
    omega
  have hc := am_rg (am_rg am_c15 hi) hj
  rw [Bool.or_eq_true, Bool.or_eq_true] at hc
  rcases hc with (hc | hc) | hc
  · exact Nat.eq_of_beq_eq_true hc
  · rw [hl] at hc
    simp at hc
  · obtain ⟨n, hn, hc⟩ := List.any_eq_true.mp hc
    have hn := List.mem_range.mp hn
    have g1 := b6 n hn
    rw [d6 n (by rw [← hl]; exact hn)] at g1
    have g2 : (am_byt.getD j []).getD n 0 = (am_byt.getD i []).getD n 0 := by injection (Option.some.inj g1)
    rw [g2] at hc
    simp at hc
theorem am_start {s : State} {b L : Nat} {xs : Nat → Int32} (hts : ∀ w ∈ lw_tbl, w.before #[Value.ref b] s = true) (hgv : (Jvm.Cond.and given_1 narrow_1).before #[Value.ref b] s = true) (hX : va_X b L xs s s.heap) :
    ∃ (D : va_G) (ca E : Nat → Nat), va_K D am_cls (am_tys ca) s ∧ am_S E s.heap.size L xs s s.heap ∧ am_S2 E s ∧ E 44 = b := by
  have hns : ∀ w ∈ am_nr, w.before #[Value.ref b] s = true := flat_of_before _ hgv
  have t1 : ∀ {w : Cond}, am_w1 w = true → w.before #[Value.ref b] s = true := fun h => hts _ (of_decide_eq_true h)
  have t5 : ∀ {w : Cond}, am_w5b w = true → w.before #[Value.ref b] s = true := fun h => hns _ (am_w5in (of_decide_eq_true h))
  have t2 : ∀ {w : Cond}, am_w2 w = true → w.before #[Value.ref b] s = true := fun h => hns _ (of_decide_eq_true h)
  have tq : ∀ {w : Cond}, w ∈ _ → w.before #[Value.ref b] s = true := fun {w} h => t1 (List.all_eq_true.mp am_c10 w h)
  have hA : ∀ a : Nat, a < s.heap.size → ¬ s.heap.size ≤ a := fun a h => Nat.not_le.mpr h
  -- the enum
  obtain ⟨adE, hEn, hEe⟩ := va_Enof2 (args := #[Value.ref b]) (s := s) (E := "EchoCanyon$Command") (d := "LEchoCanyon$Command;") (nm := am_nm) (F := am_FE) (A := fun q : Nat => s.heap.size ≤ q) (fun i hi => t1 (am_rg am_c1 hi)) (tq (List.mem_of_getElem? (i := 6) rfl)) (fun i hi => t2 (am_rg am_c2 hi)) (fun q hq i hi => t2 (am_rg (List.all_eq_true.mp am_c3 q hq) hi)) (fun i j hi hj hij => by
    have h := am_rg (am_rg am_c4 hi) hj
    rw [Bool.or_eq_true, Bool.or_eq_true] at h
    rcases h with (h | h) | h
    · exact absurd (Nat.eq_of_beq_eq_true h) hij
    · exact Or.inl (t2 h)
    · exact Or.inr (t2 h)) hA
  -- its texts
  have h5 : ∀ j, j < 7 → _ := fun j hj => am_rg am_c5 hj
  simp only [Bool.and_eq_true] at h5
  have hs0 : ∀ i : Nat, ∃ q : Nat × Nat, i < 7 → (am_sk i).eval #[Value.ref b] s none [] s = some (.ref q.1) ∧ va_O "java/lang/String" q.1 (fun q : Nat => s.heap.size ≤ q) s s.heap ∧ va_OF "java/lang/String" "coder" "B" (.int 0) q.1 (fun q : Nat => s.heap.size ≤ q) s s.heap ∧ va_OF "java/lang/String" "value" "[B" (.ref q.2) q.1 (fun q : Nat => s.heap.size ≤ q) s s.heap ∧ va_T .byte q.2 (am_len8.getD i 0) (fun j => .int ((am_byt.getD i []).getD j 0)) (fun q : Nat => s.heap.size ≤ q) s s.heap := by
    intro i
    by_cases hi : i < 7
    · obtain ⟨⟨⟨⟨⟨e1, e2⟩, e3⟩, e4⟩, e5⟩, e6⟩ := h5 i hi
      obtain ⟨a, c, cA, kA, q1, q2, q3, q4, q5, q6, -⟩ := Cond.exactly_spec (t5 e1)
      obtain ⟨t, ht, hT⟩ := va_Tof (f := fun j => .int ((am_byt.getD i []).getD j 0)) (A := fun q : Nat => s.heap.size ≤ q) (by rw [Nat.blt_eq] at e5; omega) (t5 e3) (va_eqt (t5 e4)) (fun j hj => va_eqt (t5 (am_rg e6 hj))) hA
      exact ⟨(a, t), fun _ => ⟨q1, ⟨cA, q3, q5, by rw [q6]; exact q2, hA a (Array.getElem?_eq_some_iff.mp q3).1⟩, vk_OFof q1 (va_eqt (t5 e2)) hA, vk_OFof q1 ht hA, hT⟩⟩
    · exact ⟨(0, 0), fun h => absurd h hi⟩
  obtain ⟨adS, hadS⟩ := Classical.axiomOfChoice hs0
  -- the law's texts, the digits
  have t6 : ∀ {w : Cond}, am_w6b w = true → w.before #[Value.ref b] s = true := fun h => hns _ (am_w6in (of_decide_eq_true h))
  have h16 : ∀ j, j < 8 → _ := fun j hj => am_rg am_c16 hj
  simp only [Bool.and_eq_true] at h16
  have hl0 : ∀ i : Nat, ∃ q : Nat × Nat, i < 8 → (am_lk i).eval #[Value.ref b] s none [] s = some (.ref q.1) ∧ (va_O "java/lang/String" q.1 (fun q : Nat => s.heap.size ≤ q) s s.heap ∧ va_OF "java/lang/String" "coder" "B" (.int 0) q.1 (fun q : Nat => s.heap.size ≤ q) s s.heap ∧ va_OF "java/lang/String" "value" "[B" (.ref q.2) q.1 (fun q : Nat => s.heap.size ≤ q) s s.heap) ∧ va_T .byte q.2 (am_sn i) (fun j => .int (Int32.ofNat (am_sb i j))) (fun q : Nat => s.heap.size ≤ q) s s.heap := by
    intro i
    by_cases hi : i < 8
    · obtain ⟨⟨⟨⟨⟨e1, e2⟩, e3⟩, e4⟩, e5⟩, e6⟩ := h16 i hi
      obtain ⟨a, c, cA, kA, q1, q2, q3, q4, q5, q6, -⟩ := Cond.exactly_spec (t6 e1)
      obtain ⟨t, ht, hT⟩ := va_Tof (f := fun j => .int (Int32.ofNat (am_sb i j))) (A := fun q : Nat => s.heap.size ≤ q) (by rw [Nat.blt_eq] at e5; omega) (t6 e3) (va_eqt (t6 e4)) (fun j hj => va_eqt (t6 (am_rg e6 hj))) hA
      exact ⟨(a, t), fun _ => ⟨q1, ⟨⟨cA, q3, q5, by rw [q6]; exact q2, hA a (Array.getElem?_eq_some_iff.mp q3).1⟩, vk_OFof q1 (va_eqt (t6 e2)) hA, vk_OFof q1 ht hA⟩, hT⟩⟩
    · exact ⟨(0, 0), fun h => absurd h hi⟩
  obtain ⟨adT, hadT⟩ := Classical.axiomOfChoice hl0
  have h18 := am_c18
  simp only [Bool.and_eq_true] at h18
  have tm : ∀ {w : Cond}, w ∈ am_nr → w.before #[Value.ref b] s = true := fun h => hns _ h
  obtain ⟨tO, htO, hTO⟩ := va_Tof (N := 100) (f := fun j => .int (Int32.ofNat (am_sb 8 j))) (A := fun q : Nat => s.heap.size ≤ q) (by decide) (t2 h18.1.1.1) (va_eqt (t2 h18.1.1.2)) (fun j hj => va_eqt (tm (va_run am_c19 j hj))) hA
  obtain ⟨tT, htT, hTT⟩ := va_Tof (N := 100) (f := fun j => .int (Int32.ofNat (am_sb 9 j))) (A := fun q : Nat => s.heap.size ≤ q) (by decide) (t2 h18.1.2) (va_eqt (t2 h18.2)) (fun j hj => va_eqt (tm (va_run am_c20 j hj))) hA
  -- ALL, the switch map
  have h7 := am_c7
  simp only [Bool.and_eq_true] at h7
  obtain ⟨tA, htA, hTA⟩ := va_Tof (N := 8) (f := fun j => .ref (adE j)) (A := fun q : Nat => s.heap.size ≤ q) (by decide) (t2 h7.1.1) (va_eqt (t2 h7.1.2)) (fun j hj => va_eqv (t2 (am_rg h7.2 hj)) (hEe j hj)) hA
  have h8 := am_c8
  simp only [Bool.and_eq_true] at h8
  obtain ⟨tM, htM, hTM⟩ := va_Tof (N := 8) (f := fun j => .int (Int32.ofNat (j + 1))) (A := fun q : Nat => s.heap.size ≤ q) (by decide) (t2 h8.1.1) (va_eqt (t2 h8.1.2)) (fun j hj => va_eqt (t2 (am_rg h8.2 hj))) hA
  have h9 := am_c9
  simp only [Bool.and_eq_true] at h9
  -- the classes
  have hK0 : ∀ x : Nat, ∃ q : ClassId × (Nat → Nat), x < 16 → u_Kn s (am_cls.getD x (RX1, TX1, 13)).1 (am_cls.getD x (RX1, TX1, 13)).2.1 (am_cls.getD x (RX1, TX1, 13)).2.2 q.1 q.2 := by
    intro x
    by_cases hx : x < 16
    · have hc := am_rg am_c14 hx
      rw [Bool.and_eq_true] at hc
      obtain ⟨cC, iS, h⟩ := u_known hts (fun w hw => of_decide_eq_true (List.all_eq_true.mp hc.1 w hw)) (t1 hc.2)
      exact ⟨(cC, iS), fun _ => h⟩
    · exact ⟨(0, fun _ => 0), fun h => absurd h hx⟩
  obtain ⟨DD, hDD⟩ := Classical.axiomOfChoice hK0
  -- the arrays' classes
  have pr : ∀ ty : FieldType, (Cond.arrayClass ty).before #[Value.ref b] s = true → (∀ C, ty ≠ .object C) → ∃ cA : ClassId, ArrOfT s cA ty ∧ va_RA s cA ty := by
    intro ty h hne
    obtain ⟨cA, kA, comp, q1, q2, q3⟩ := Cond.arrayClass_spec h
    refine ⟨cA, fun n z => ⟨fun k h => (by cases h), kA, q2, comp, q3⟩, ?_⟩
    cases ty with
    | object C => exact absurd rfl (hne C)
    | _ => exact q1
  have rf : ∀ C : String, (Cond.arrayOver (.object C)).before #[Value.ref b] s = true → ∃ cA : ClassId, ArrOfT s cA (.object C) ∧ va_RA s cA (.object C) := by
    intro C h
    obtain ⟨comp, cA, kA, q1, -, q2, q3, q4⟩ := Cond.arrayOver_spec h
    exact ⟨cA, fun n z => ⟨fun k h => (by cases h), kA, q2, comp, q3⟩, kA, comp, q2, q3, q1, q4⟩
  obtain ⟨a0, ha0⟩ := pr .int (tq (List.mem_of_getElem? (i := 11) rfl)) (fun C h => by cases h)
  obtain ⟨a1, ha1⟩ := pr .char (tq (List.mem_of_getElem? (i := 12) rfl)) (fun C h => by cases h)
  obtain ⟨a5, ha5⟩ := pr .long (tq (List.mem_of_getElem? (i := 13) rfl)) (fun C h => by cases h)
  obtain ⟨a6, ha6⟩ := pr .byte (tq (List.mem_of_getElem? (i := 14) rfl)) (fun C h => by cases h)
  obtain ⟨a2, ha2⟩ := rf RX1 (tq (List.mem_of_getElem? (i := 15) rfl))
  obtain ⟨a3, ha3⟩ := rf RX6 (tq (List.mem_of_getElem? (i := 16) rfl))
  obtain ⟨a4, ha4⟩ := rf RX8 (tq (List.mem_of_getElem? (i := 17) rfl))
  obtain ⟨E, hE0⟩ : ∃ E : Nat → Nat, E = fun a => if a % 64 = 40 then adE (a / 64) else (if a % 64 = 41 then (adS (a / 64)).1 else (if a = 42 then tA else (if a = 43 then tM else (if a % 64 = 45 then (adT (a / 64)).1 else (if a % 64 = 46 then (if a / 64 < 8 then (adT (a / 64)).2 else (if a / 64 = 8 then tO else tT)) else b))))) := ⟨_, rfl⟩
  have e40 : (fun c => E (64 * c + 40)) = adE := by
    funext c
    rw [hE0]
    dsimp only
    rw [if_pos (by omega), show (64 * c + 40) / 64 = c by omega]
  have e41 : (fun j => E (64 * j + 41)) = fun j => (adS j).1 := by
    funext c
    rw [hE0]
    dsimp only
    rw [if_neg (by omega), if_pos (by omega), show (64 * c + 41) / 64 = c by omega]
  have e41' : ∀ j, E (64 * j + 41) = (adS j).1 := fun j => congrFun e41 j
  have e40' : ∀ j, E (64 * j + 40) = adE j := fun j => congrFun e40 j
  have e45 : ∀ j, E (64 * j + 45) = (adT j).1 := by
    intro c
    rw [hE0]
    dsimp only
    rw [if_neg (by omega), if_neg (by omega), if_neg (by omega), if_neg (by omega), if_pos (by omega), show (64 * c + 45) / 64 = c by omega]
  have e46 : ∀ j, j < 8 → E (64 * j + 46) = (adT j).2 := by
    intro c hc
    rw [hE0]
    dsimp only
    rw [if_neg (by omega), if_neg (by omega), if_neg (by omega), if_neg (by omega), if_neg (by omega), if_pos (by omega), show (64 * c + 46) / 64 = c by omega, if_pos hc]
  have e558 : E 558 = tO := by rw [hE0]; rfl
  have e622 : E 622 = tT := by rw [hE0]; rfl
  have e42 : E 42 = tA := by rw [hE0]; rfl
  have e43 : E 43 = tM := by rw [hE0]; rfl
  have e44 : E 44 = b := by rw [hE0]; rfl
  refine ⟨(fun x => (DD x).1, fun x => (DD x).2), fun k => [a0, a1, a2, a3, a4, a5, a6].getD k 0, E, ⟨fun x q hq => ?_, fun k q hk => ?_⟩, ⟨?_, ?_, ⟨fun i => (adS i).2, ?_⟩, ?_, ?_, ?_, ?_, ?_, ?_, ?_, ?_, ?_, ⟨?_, ?_, ?_, ?_⟩⟩, ⟨⟨?_, ?_⟩, ?_, ?_, ?_, ?_, ?_, ?_, ?_⟩, e44⟩
  · have hx : x < 16 := (List.getElem?_eq_some_iff.mp hq).1
    have h := hDD x hx
    have hg : am_cls.getD x (RX1, TX1, 13) = q := by rw [List.getD_eq_getElem?_getD, hq]; rfl
    rw [hg] at h
    exact h
  · have hk7 : k < 7 := (List.getElem?_eq_some_iff.mp hk).1
    rcases (by omega : k = 0 ∨ k = 1 ∨ k = 2 ∨ k = 3 ∨ k = 4 ∨ k = 5 ∨ k = 6) with h | h | h | h | h | h | h <;> subst h <;> cases hk
    · exact ha0
    · exact ha1
    · exact ha2
    · exact ha3
    · exact ha4
    · exact ha5
    · exact ha6
  · rw [e40]; exact hEn
  · rw [e40]
    have h6 := am_c6
    refine va_Efof (args := #[Value.ref b]) (nm := am_nm) (tm := fun c => am_sk (am_ef c)) hEe (fun i hi => ?_) (fun i hi => ?_) hA
    · have h := am_rg h6 hi
      rw [Bool.and_eq_true] at h
      exact t2 h.1
    · have h := am_rg h6 hi
      rw [Bool.and_eq_true, Nat.blt_eq] at h
      rw [e41']
      exact (hadS _ h.2).1
  · rw [e41]
    exact ⟨fun i hi => (hadS i hi).2, fun i j hi hj e => am_str_inj (fun i hi => (hadS i hi).2.2.2) i j hi hj e⟩
  · rw [e42]
    exact va_Zof (tq (List.mem_of_getElem? (i := 0) rfl)) (tq (List.mem_of_getElem? (i := 6) rfl)) htA hA
  · rw [e42]
    simp only [e40']
    exact hTA
  · rw [e43]
    exact va_Zof (tq (List.mem_of_getElem? (i := 1) rfl)) (tq (List.mem_of_getElem? (i := 7) rfl)) htM hA
  · rw [e43]; exact hTM
  · rw [e44]; exact hX
  · exact vx_Zqof (tq (List.mem_of_getElem? (i := 2) rfl)) (tq (List.mem_of_getElem? (i := 8) rfl)) (t2 h9.1.1.1) hA
  · exact vx_Zqof (tq (List.mem_of_getElem? (i := 3) rfl)) (tq (List.mem_of_getElem? (i := 8) rfl)) (t2 h9.1.1.2) hA
  · exact va_Zof (tq (List.mem_of_getElem? (i := 4) rfl)) (tq (List.mem_of_getElem? (i := 9) rfl)) (va_eqt (t2 h9.1.2)) hA
  · exact va_Zqof (tq (List.mem_of_getElem? (i := 5) rfl)) (tq (List.mem_of_getElem? (i := 10) rfl)) (t2 h9.2) hA
  · intro j hj
    rw [e45 j, e46 j hj]
    exact (hadT j hj).2.1
  · intro j hj
    by_cases h8 : j < 8
    · rw [e46 j h8]
      exact (hadT j h8).2.2
    · by_cases h9 : j = 8
      · subst h9
        rw [show 64 * 8 + 46 = 558 from rfl, e558]
        exact hTO
      · have h9 : j = 9 := by omega
        subst h9
        rw [show 64 * 9 + 46 = 622 from rfl, e622]
        exact hTT
  · rw [e558]
    exact va_Zof (tq (List.mem_of_getElem? (i := 18) rfl)) (tq (List.mem_of_getElem? (i := 20) rfl)) htO hA
  · rw [e622]
    exact va_Zof (tq (List.mem_of_getElem? (i := 19) rfl)) (tq (List.mem_of_getElem? (i := 20) rfl)) htT hA
  · intro q hq
    have h := List.all_eq_true.mp am_c11 q hq
    rw [Bool.and_eq_true] at h
    obtain ⟨a, c, cA, kA, q1, -⟩ := Cond.exactly_spec (t2 h.2)
    exact ⟨a, vk_R.of (t1 h.1) q1⟩
  · intro j hj
    rw [e45 j]
    exact vk_R.of (t1 (am_rg am_c17 hj)) (hadT j hj).1
  · intro e e' he he' hne
    have h := am_rg am_c12 he
    rw [Bool.and_eq_true] at h
    have h2 := am_rg h.2 he'
    rw [Bool.or_eq_true] at h2
    rcases h2 with h2 | h2
    · exact absurd (Nat.eq_of_beq_eq_true h2) hne
    · exact va_Nc.of (t2 h2)
  · exact va_AO.of (tq (List.mem_of_getElem? (i := 15) rfl))
  · exact va_AO.of (tq (List.mem_of_getElem? (i := 16) rfl))
  · exact va_AO.of (tq (List.mem_of_getElem? (i := 17) rfl))
  · exact fun c k z mo h1 h2 => va_Nw.of rfl (am_tbl_hts hts _ (am_nest_in h1 h2))
  · exact fun n hn => va_Nw.of rfl (t1 (List.all_eq_true.mp am_c13 n hn))
  · intro e he
    have h := am_rg am_c12 he
    rw [Bool.and_eq_true] at h
    exact va_Nw.of rfl (t1 h.1)
