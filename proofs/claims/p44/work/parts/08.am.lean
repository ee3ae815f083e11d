/-! THE ABSTRACT MACHINE. A cell has a number 64 * i + k: i the i-th that was made, k its kind. Kinds below 16: objects of class k;
16 to 31: arrays (am_ak); 40: an enum constant; 41: a form's text; 42: ALL; 43: the switch map; 44: the script; 45: a text of the law; 46: bytes that are there at the start. -/
/-- ints by cell and place; references (0 null, b + 1 the cell b); longs; doubles; how many cells were made; the script -/
abbrev am_M : Type := (Nat → Nat → Int32) × (Nat → Nat → Nat) × (Nat → Nat → Int64) × (Nat → Nat → UInt64) × Nat × Nat × (Nat → Int32)
abbrev am_L : Type := List (Option Value)
abbrev am_C : Type := Nat × am_L × List Value × am_M
/-- an end: an answer, or an exception by its number -/
abbrev am_O : Type := Option Value ⊕ Nat
def am_up {α : Type} (f : Nat → Nat → α) (a k : Nat) (v : α) : Nat → Nat → α := fun b j => if j = k then (if b = a then v else f b j) else f b j
def am_nth : am_L → Nat → Option Value
  | [], _ => none
  | o :: _, 0 => o
  | _ :: t, k + 1 => am_nth t k
def am_wide (o : Option Value) : Bool := match o with
  | some (.long _) => true
  | some (.double _) => true
  | _ => false
/-- a value of one slot into a local -/
def am_put : am_L → Nat → Value → Option am_L
  | [], _, _ => none
  | _ :: t, 0, v => some (some v :: t)
  | o :: t, k + 1, v => bif (Nat.beq k 0 && am_wide o) then none else (match am_put t k v with
    | some t' => some (o :: t')
    | none => none)
/-- a value of two -/
def am_put2 : am_L → Nat → Value → Option am_L
  | _ :: _ :: t, 0, v => some (some v :: none :: t)
  | o :: t, k + 1, v => bif (Nat.beq k 0 && am_wide o) then none else (match am_put2 t k v with
    | some t' => some (o :: t')
    | none => none)
  | _, _, _ => none
/-- a local that is forgotten -/
def am_clr : am_L → Nat → Option am_L
  | [], _ => none
  | _ :: t, 0 => some (none :: t)
  | o :: t, k + 1 => bif (Nat.beq k 0 && am_wide o) then none else (match am_clr t k with
    | some t' => some (o :: t')
    | none => none)
def am_rv (x : Nat) : Value := match x with
  | 0 => .null
  | b + 1 => .ref b
def am_in (j : Int32) (n : Nat) : Bool := decide (¬ j < 0) && decide (j.toNatClampNeg < n)
def am_so (d lo hi : Int) (offs : Array Int) (x : Int32) : Option Int := if x.toInt < lo ∨ hi < x.toInt then some d else offs[(x.toInt - lo).toNat]?
/-- a getfield -/
def am_gf (c k a : Nat) (M : am_M) : Option Value := match am_pf c k with
  | some (ci, j, t, _) => bif Nat.beq (a % 64) ci then (bif Nat.beq t 2 then some (am_rv (M.2.1 a j)) else some (.int (M.1 a j))) else (bif (Nat.beq ci 13 && Nat.beq (a % 64) 45) then (match j with
    | 0 => some (.ref (a + 1))
    | 1 => some (.int 0)
    | _ => none) else none)
  | none => bif Nat.beq (a % 64) 40 then (match am_pe c k with
    | 1 => some (.int (am_el (a / 64)))
    | 2 => some (.ref (64 * am_ef (a / 64) + 41))
    | _ => none) else none
/-- a putfield: the value's form, a boolean's range, a final field in its constructor alone -/
def am_sf (y c k a : Nat) (v : Value) (M : am_M) : Option am_M := match am_pf c k with
  | some (ci, j, t, fin) => bif (Nat.beq (a % 64) ci && (!fin || (am_ini y && Nat.beq ci (am_cl y)))) then (match t, v with
    | 0, .int x => some (am_up M.1 a j x, M.2)
    | 1, .int x => bif (decide (x = 0) || decide (x = 1)) then some (am_up M.1 a j x, M.2) else none
    | 3, .int x => bif decide (x.toInt8.toInt32 = x) then some (am_up M.1 a j x, M.2) else none
    | 2, .null => some (M.1, am_up M.2.1 a j 0, M.2.2)
    | 2, .ref b => some (M.1, am_up M.2.1 a j (b + 1), M.2.2)
    | _, _ => none) else none
  | none => none
def am_cps (f : Nat → Nat → Int32) (g : Nat → Int32) (b sp dp n : Nat) : Nat → Nat → Int32 := fun q j => if q = b ∧ dp ≤ j ∧ j < dp + n then g (sp + (j - dp)) else f q j
def am_cpy (f : Nat → Nat → Int32) (a b sp dp n : Nat) : Nat → Nat → Int32 := fun q j => if q = b ∧ dp ≤ j ∧ j < dp + n then f a (sp + (j - dp)) else f q j
/-- the stack's head taken apart -/
def am_i1 {α : Type} (st : List Value) (k : Int32 → List Value → Option α) : Option α := match st with
  | .int a :: st => k a st
  | _ => none
def am_i2 {α : Type} (st : List Value) (k : Int32 → Int32 → List Value → Option α) : Option α := match st with
  | .int b :: .int a :: st => k b a st
  | _ => none
def am_a1 {α : Type} (st : List Value) (k : Nat → List Value → Option α) : Option α := match st with
  | .ref a :: st => k a st
  | _ => none
def am_ia {α : Type} (st : List Value) (k : Int32 → Nat → List Value → Option α) : Option α := match st with
  | .int j :: .ref a :: st => k j a st
  | _ => none
def am_of {α : Type} (o : Option am_L) (k : am_L → Option α) : Option α := match o with
  | some L => k L
  | none => none
def am_us (a b : Int32) : Int32 := (a.toUInt32 >>> (b.toUInt32 &&& Int32.toUInt32 31)).toInt32
def am_bc1 (x : Int32) : Int32 := x - (am_us x 1 &&& 1431655765)
def am_bc2 (x : Int32) : Int32 := (x &&& 858993459) + (am_us x 2 &&& 858993459)
def am_bc3 (x : Int32) : Int32 := (x + am_us x 4) &&& 252645135
def am_bc4 (x : Int32) : Int32 := x + am_us x 8
def am_bc5 (x : Int32) : Int32 := x + am_us x 16
/-- Integer.bitCount -/
def am_bc (x : Int32) : Int32 := am_bc5 (am_bc4 (am_bc3 (am_bc2 (am_bc1 x)))) &&& 63
/-- one instruction that is no call and no end -/
def am_stp (y : Nat) (i : Instr) (pc nx tg : Nat) (L : am_L) (st : List Value) (M : am_M) : Option am_C :=
  match i with
  | .iconst n => some (nx, L, .int (Int32.ofInt n) :: st, M)
  | .bipush n => some (nx, L, .int (Int8.ofInt n).toInt32 :: st, M)
  | .sipush n => some (nx, L, .int (Int16.ofInt n).toInt32 :: st, M)
  | .lconst n => some (nx, L, .long (Int64.ofNat n.val) :: st, M)
  | .dconst n => bif Nat.beq n.val 0 then some (nx, L, .double FP.dconst0 :: st, M) else none
  | .fconst n => bif Nat.beq n.val 0 then some (nx, L, .float FP.fconst0 :: st, M) else none
  | .aconst_null => some (nx, L, .null :: st, M)
  | .ldc k => (match am_kc (am_cl y) k with
    | some v => some (nx, L, .int v :: st, M)
    | none => (match am_ks (am_cl y) k with
      | some j => some (nx, L, .ref (64 * j + 45) :: st, M)
      | none => (match am_kf (am_cl y) k with
        | some v => some (nx, L, .float v :: st, M)
        | none => none)))
  | .ldc_w k => (match am_ks (am_cl y) k with
    | some j => some (nx, L, .ref (64 * j + 45) :: st, M)
    | none => none)
  | .ldc2_w k => (match am_kl (am_cl y) k with
    | some v => some (nx, L, .long v :: st, M)
    | none => (match am_kd (am_cl y) k with
      | some v => some (nx, L, .double v :: st, M)
      | none => none))
  | .lload_n k => (match am_nth L k.val with
    | some (.long x) => some (nx, L, .long x :: st, M)
    | _ => none)
  | .lload k => (match am_nth L k with
    | some (.long x) => some (nx, L, .long x :: st, M)
    | _ => none)
  | .iload_n k => (match am_nth L k.val with
    | some (.int x) => some (nx, L, .int x :: st, M)
    | _ => none)
  | .iload k => (match am_nth L k with
    | some (.int x) => some (nx, L, .int x :: st, M)
    | _ => none)
  | .fload k => (match am_nth L k with
    | some (.float x) => some (nx, L, .float x :: st, M)
    | _ => none)
  | .dload k => (match am_nth L k with
    | some (.double x) => some (nx, L, .double x :: st, M)
    | _ => none)
  | .aload_n k => (match am_nth L k.val with
    | some (.ref x) => some (nx, L, .ref x :: st, M)
    | some .null => some (nx, L, .null :: st, M)
    | _ => none)
  | .aload k => (match am_nth L k with
    | some (.ref x) => some (nx, L, .ref x :: st, M)
    | some .null => some (nx, L, .null :: st, M)
    | _ => none)
  | .istore_n k => am_i1 st fun x st => am_of (am_put L k.val (.int x)) fun L' => some (nx, L', st, M)
  | .istore k => am_i1 st fun x st => am_of (am_put L k (.int x)) fun L' => some (nx, L', st, M)
  | .fstore k => (match st with
    | .float x :: st => am_of (am_put L k (.float x)) fun L' => some (nx, L', st, M)
    | _ => none)
  | .dstore k => (match st with
    | .double x :: st => am_of (am_put2 L k (.double x)) fun L' => some (nx, L', st, M)
    | _ => none)
  | .lstore_n k => (match st with
    | .long x :: st => am_of (am_put2 L k.val (.long x)) fun L' => some (nx, L', st, M)
    | _ => none)
  | .lstore k => (match st with
    | .long x :: st => am_of (am_put2 L k (.long x)) fun L' => some (nx, L', st, M)
    | _ => none)
  | .astore_n k => (match st with
    | .ref x :: st => am_of (am_put L k.val (.ref x)) fun L' => some (nx, L', st, M)
    | .null :: st => am_of (am_put L k.val .null) fun L' => some (nx, L', st, M)
    | _ => none)
  | .astore k => (match st with
    | .ref x :: st => am_of (am_put L k (.ref x)) fun L' => some (nx, L', st, M)
    | .null :: st => am_of (am_put L k .null) fun L' => some (nx, L', st, M)
    | _ => none)
  | .iinc k n => (match am_nth L k with
    | some (.int x) => am_of (am_put L k (.int (x + Int32.ofInt n))) fun L' => some (nx, L', st, M)
    | _ => none)
  | .iadd => am_i2 st fun b a st => some (nx, L, .int (a + b) :: st, M)
  | .isub => am_i2 st fun b a st => some (nx, L, .int (a - b) :: st, M)
  | .imul => am_i2 st fun b a st => some (nx, L, .int (a * b) :: st, M)
  | .iand => am_i2 st fun b a st => some (nx, L, .int (a &&& b) :: st, M)
  | .ior => am_i2 st fun b a st => some (nx, L, .int (a ||| b) :: st, M)
  | .ishl => am_i2 st fun b a st => some (nx, L, .int (a <<< (b &&& 31)) :: st, M)
  | .ishr => am_i2 st fun b a st => some (nx, L, .int (a >>> (b &&& 31)) :: st, M)
  | .iushr => am_i2 st fun b a st => some (nx, L, .int (a.toUInt32 >>> (b.toUInt32 &&& Int32.toUInt32 31)).toInt32 :: st, M)
  | .idiv => am_i2 st fun b a st => if b = 0 then none else some (nx, L, .int (a / b) :: st, M)
  | .irem => am_i2 st fun b a st => if b = 0 then none else some (nx, L, .int (a - a / b * b) :: st, M)
  | .ineg => am_i1 st fun a st => some (nx, L, .int (-a) :: st, M)
  | .i2c => am_i1 st fun a st => some (nx, L, .int (a.toUInt32 % 65536).toInt32 :: st, M)
  | .i2l => am_i1 st fun a st => some (nx, L, .long a.toInt64 :: st, M)
  | .i2d => am_i1 st fun a st => some (nx, L, .double (FP.i2d a) :: st, M)
  | .i2f => am_i1 st fun a st => some (nx, L, .float (FP.i2f a) :: st, M)
  | .f2d => (match st with
    | .float a :: st => if FP.f2d a &&& 0x7fffffffffffffff ≤ 0x7ff0000000000000 then some (nx, L, .double (FP.f2d a) :: st, M) else none
    | _ => none)
  | .ddiv => (match st with
    | .double b :: .double a :: st => if FP.ddiv a b &&& 0x7fffffffffffffff ≤ 0x7ff0000000000000 then some (nx, L, .double (FP.ddiv a b) :: st, M) else none
    | _ => none)
  | .fdiv => (match st with
    | .float b :: .float a :: st => if FP.fdiv a b &&& 0x7fffffff ≤ 0x7f800000 then some (nx, L, .float (FP.fdiv a b) :: st, M) else none
    | _ => none)
  | .dcmp o => (match st with
    | .double b :: .double a :: st => some (nx, L, .int (Op.cmpValue (FP.dcmp a b) o) :: st, M)
    | _ => none)
  | .fcmp o => (match st with
    | .float b :: .float a :: st => some (nx, L, .int (Op.cmpValue (FP.fcmp a b) o) :: st, M)
    | _ => none)
  | .lcmp => (match st with
    | .long b :: .long a :: st => some (nx, L, .int (lg_cmp a b) :: st, M)
    | _ => none)
  | .ladd => (match st with
    | .long b :: .long a :: st => some (nx, L, .long (a + b) :: st, M)
    | _ => none)
  | .lmul => (match st with
    | .long b :: .long a :: st => some (nx, L, .long (a * b) :: st, M)
    | _ => none)
  | .dup => (match st with
    | .int a :: st => some (nx, L, .int a :: .int a :: st, M)
    | .ref a :: st => some (nx, L, .ref a :: .ref a :: st, M)
    | _ => none)
  | .dup2 => am_ia st fun b a st => some (nx, L, .int b :: .ref a :: .int b :: .ref a :: st, M)
  | .pop => (match st with
    | .int _ :: st => some (nx, L, st, M)
    | .ref _ :: st => some (nx, L, st, M)
    | _ => none)
  | .goto _ => some (tg, L, st, M)
  | .ifCond o _ => am_i1 st fun a st => (match o with
    | .eq => some (if a = 0 then tg else nx, L, st, M)
    | .ne => some (if ¬ a = 0 then tg else nx, L, st, M)
    | .lt => some (if a < 0 then tg else nx, L, st, M)
    | .ge => some (if 0 ≤ a then tg else nx, L, st, M)
    | .gt => some (if 0 < a then tg else nx, L, st, M)
    | .le => some (if a ≤ 0 then tg else nx, L, st, M))
  | .if_icmp o _ => am_i2 st fun b a st => (match o with
    | .eq => some (if a = b then tg else nx, L, st, M)
    | .ne => some (if ¬ a = b then tg else nx, L, st, M)
    | .lt => some (if a < b then tg else nx, L, st, M)
    | .ge => some (if b ≤ a then tg else nx, L, st, M)
    | .gt => some (if b < a then tg else nx, L, st, M)
    | .le => some (if a ≤ b then tg else nx, L, st, M))
  | .ifnonnull _ => (match st with
    | .null :: st => some (nx, L, st, M)
    | .ref _ :: st => some (tg, L, st, M)
    | _ => none)
  | .if_acmp o _ => (match o, st with
    | .ne, .ref b :: .ref a :: st => bif (Nat.beq (a % 64) 40 && Nat.beq (b % 64) 40) then some (if ¬ a = b then tg else nx, L, st, M) else none
    | _, _ => none)
  | .tableswitch d lo hi offs => am_i1 st fun x st => (match am_so d lo hi offs x with
    | some o => if 0 ≤ (pc : Int) + o then some (((pc : Int) + o).toNat, L, st, M) else none
    | none => none)
  | .lookupswitch d ps => am_i1 st fun x st => if (ps.toList.zip (ps.toList.drop 1)).all (fun (a, next) => a.1 < next.1) = true ∧ 0 ≤ (pc : Int) + Op.lookupswitch.offset ps.toList d x.toInt then some (((pc : Int) + Op.lookupswitch.offset ps.toList d x.toInt).toNat, L, st, M) else none
  | .getstatic k => (match am_ps (am_cl y) k with
    | some a => bif Nat.beq a 50 then some (nx, L, .int 1 :: st, M) else some (nx, L, .ref a :: st, M)
    | none => none)
  | .getfield k => am_a1 st fun a st => (match am_gf (am_cl y) k a M with
    | some v => some (nx, L, v :: st, M)
    | none => none)
  | .putfield k => (match st with
    | v :: .ref a :: st => (match am_sf y (am_cl y) k a v M with
      | some M' => some (nx, L, st, M')
      | none => none)
    | _ => none)
  | .arraylength => am_a1 st fun a st => bif Nat.beq (a % 64) 44 then some (nx, L, .int (Int32.ofNat M.2.2.2.2.2.1) :: st, M) else (bif Nat.beq (a % 64) 42 then some (nx, L, .int 8 :: st, M) else (bif Nat.beq (a % 64) 46 then some (nx, L, .int (Int32.ofNat (am_sn (a / 64))) :: st, M) else (match am_ak (a % 64) with
    | some (_, n) => some (nx, L, .int (Int32.ofNat n) :: st, M)
    | none => none)))
  | .iaload => am_ia st fun j a st => bif Nat.beq (a % 64) 44 then (bif am_in j M.2.2.2.2.2.1 then some (nx, L, .int (M.2.2.2.2.2.2 j.toNatClampNeg) :: st, M) else none) else (bif Nat.beq (a % 64) 43 then (bif am_in j 8 then some (nx, L, .int (Int32.ofNat (j.toNatClampNeg + 1)) :: st, M) else none) else (match am_ak (a % 64) with
    | some (et, n) => bif (Nat.beq et 0 && am_in j n) then some (nx, L, .int (M.1 a j.toNatClampNeg) :: st, M) else none
    | none => none))
  | .caload => am_ia st fun j a st => (match am_ak (a % 64) with
    | some (et, n) => bif (Nat.beq et 1 && am_in j n) then some (nx, L, .int (M.1 a j.toNatClampNeg) :: st, M) else none
    | none => none)
  | .laload => am_ia st fun j a st => (match am_ak (a % 64) with
    | some (et, n) => bif (Nat.beq et 5 && am_in j n) then some (nx, L, .long (M.2.2.1 a j.toNatClampNeg) :: st, M) else none
    | none => none)
  | .baload => am_ia st fun j a st => bif Nat.beq (a % 64) 46 then (bif am_in j (am_sn (a / 64)) then some (nx, L, .int (Int32.ofNat (am_sb (a / 64) j.toNatClampNeg)) :: st, M) else none) else (match am_ak (a % 64) with
    | some (et, n) => bif (Nat.beq et 6 && am_in j n) then some (nx, L, .int (M.1 a j.toNatClampNeg) :: st, M) else none
    | none => none)
  | .aaload => am_ia st fun j a st => bif Nat.beq (a % 64) 42 then (bif am_in j 8 then some (nx, L, .ref (64 * j.toNatClampNeg + 40) :: st, M) else none) else (match am_ak (a % 64) with
    | some (et, n) => bif (am_in j n && (Nat.ble 2 et && Nat.ble et 4)) then some (nx, L, am_rv (M.2.1 a j.toNatClampNeg) :: st, M) else none
    | none => none)
  | .iastore => (match st with
    | .int x :: .int j :: .ref a :: st => (match am_ak (a % 64) with
      | some (et, n) => bif (Nat.beq et 0 && am_in j n) then some (nx, L, st, am_up M.1 a j.toNatClampNeg x, M.2) else none
      | none => none)
    | _ => none)
  | .castore => (match st with
    | .int x :: .int j :: .ref a :: st => (match am_ak (a % 64) with
      | some (et, n) => bif (Nat.beq et 1 && am_in j n) then (if (x.toUInt32 % 65536).toInt32 = x then some (nx, L, st, am_up M.1 a j.toNatClampNeg x, M.2) else none) else none
      | none => none)
    | _ => none)
  | .lastore => (match st with
    | .long x :: .int j :: .ref a :: st => (match am_ak (a % 64) with
      | some (et, n) => bif (Nat.beq et 5 && am_in j n) then some (nx, L, st, M.1, M.2.1, am_up M.2.2.1 a j.toNatClampNeg x, M.2.2.2) else none
      | none => none)
    | _ => none)
  | .bastore => (match st with
    | .int x :: .int j :: .ref a :: st => (match am_ak (a % 64) with
      | some (et, n) => bif (Nat.beq et 6 && am_in j n) then (if x.toInt8.toInt32 = x then some (nx, L, st, am_up M.1 a j.toNatClampNeg x, M.2) else none) else none
      | none => none)
    | _ => none)
  | .aastore => (match st with
    | .ref b :: .int j :: .ref a :: st => (match am_ak (a % 64) with
      | some (et, n) => bif (am_in j n && ((Nat.beq et 2 && Nat.beq (b % 64) 1) || (Nat.beq et 3 && Nat.beq (b % 64) 6) || (Nat.beq et 4 && Nat.beq (b % 64) 8))) then some (nx, L, st, M.1, am_up M.2.1 a j.toNatClampNeg (b + 1), M.2.2) else none
      | none => none)
    | _ => none)
  | .invokespecial k => am_a1 st fun _ st => bif (Nat.beq (am_pj (am_cl y) k) 5 && Nat.ble (st.map Value.category).sum 8) then some (nx, L, st, M) else none
  | .invokevirtual k => bif Nat.beq (am_pj (am_cl y) k) 1 then (am_a1 st fun a st => bif (Nat.beq (a % 64) 40 && Nat.ble (st.map Value.category).sum 8) then some (nx, L, .int (Int32.ofNat (a / 64)) :: st, M) else none)
    else (bif Nat.beq (am_pj (am_cl y) k) 2 then (am_a1 st fun a st => bif (Nat.beq (a % 64) 41 && Nat.ble (st.map Value.category).sum 8) then some (nx, L, .int (Int32.ofNat (am_fs (a / 64)).length) :: st, M) else none)
    else (bif Nat.beq (am_pj (am_cl y) k) 3 then (am_ia st fun j a st => bif (Nat.beq (a % 64) 41 && am_in j (am_fs (a / 64)).length && Nat.ble (st.map Value.category).sum 8) then some (nx, L, .int (Int32.ofNat ((am_fs (a / 64)).getD j.toNatClampNeg 0)) :: st, M) else none) else none))
  | .invokestatic k => bif Nat.beq (am_pj (am_cl y) k) 4 then (match st with
    | .int n :: .int dp :: .ref b :: .int sp :: .ref a :: st => bif Nat.beq (a % 64) 46 then (match am_ak (b % 64) with
      | some (eb, nb) => bif (Nat.beq eb 6 && decide (¬ sp < 0) && decide (¬ dp < 0) && decide (¬ n < 0) && Nat.ble (sp.toNatClampNeg + n.toNatClampNeg) (am_sn (a / 64)) && Nat.ble (dp.toNatClampNeg + n.toNatClampNeg) nb && Nat.ble (st.map Value.category).sum 8) then some (nx, L, st, am_cps M.1 (fun k => Int32.ofNat (am_sb (a / 64) k)) b sp.toNatClampNeg dp.toNatClampNeg n.toNatClampNeg, M.2) else none
      | none => none) else (match am_ak (a % 64), am_ak (b % 64) with
      | some (ea, na), some (eb, nb) => bif (Nat.beq ea eb && (Nat.beq eb 0 || Nat.beq eb 6) && decide (¬ sp < 0) && decide (¬ dp < 0) && decide (¬ n < 0) && Nat.ble (sp.toNatClampNeg + n.toNatClampNeg) na && Nat.ble (dp.toNatClampNeg + n.toNatClampNeg) nb && Nat.ble (st.map Value.category).sum 8) then (if Nat.beq eb 0 = true ∨ ∀ k, k < n.toNatClampNeg → (M.1 a (sp.toNatClampNeg + k)).toInt8.toInt32 = M.1 a (sp.toNatClampNeg + k) then some (nx, L, st, am_cpy M.1 a b sp.toNatClampNeg dp.toNatClampNeg n.toNatClampNeg, M.2) else none) else none
      | _, _ => none)
    | _ => none) else (bif Nat.beq (am_pj (am_cl y) k) 6 then (am_i1 st fun a st => bif Nat.ble (st.map Value.category).sum 8 then some (nx, L, .int (if 0 ≤ a then a else 0 - a) :: st, M) else none)
    else (bif Nat.beq (am_pj (am_cl y) k) 7 then (am_i2 st fun b a st => bif Nat.ble (st.map Value.category).sum 8 then some (nx, L, .int (if a < b then b else a) :: st, M) else none)
    else (bif Nat.beq (am_pj (am_cl y) k) 8 then (am_i2 st fun b a st => bif Nat.ble (st.map Value.category).sum 8 then some (nx, L, .int (if b < a then b else a) :: st, M) else none)
    else (bif Nat.beq (am_pj (am_cl y) k) 9 then (am_i1 st fun a st => bif Nat.ble (st.map Value.category).sum 8 then some (nx, L, .int (am_bc a) :: st, M) else none)
    else (bif Nat.beq (am_pj (am_cl y) k) 10 then (am_i2 st fun b a st => bif (decide (¬ a < 0) && decide (a < b) && Nat.ble (st.map Value.category).sum 8) then some (nx, L, st, M) else none) else none)))))
  | _ => none
/-- a handler's row for an exception -/
def am_hr (pc e : Nat) : List (Nat × Nat × Nat × Nat) → Option Nat
  | [] => none
  | (s, t, h, k) :: r => bif (Nat.ble s pc && Nat.ble (pc + 1) t && Nat.beq (am_xl k) e) then some h else am_hr pc e r
def am_ent (z : Nat) (As : List Value) : am_L := As.map some ++ List.replicate (am_ml z - As.length) none
/-- a call: the method, its arguments, what stays on the stack -/
def am_call (y : Nat) (i : Instr) (st : List Value) : Option (Nat × Nat × List Value × List Value) :=
  match i with
  | .invokevirtual k => (match am_pm (am_cl y) k with
    | some (z, mo) => (match st.drop (am_na z) with
      | .ref a :: rest => bif ((Nat.beq mo 0 && (Nat.beq (a % 64) (am_cl z) || (Nat.beq (am_cl z) 13 && Nat.beq (a % 64) 45))) || (Nat.beq mo 7 && Nat.beq (a % 64) 15)) then some (z, mo, .ref a :: (st.take (am_na z)).reverse, rest) else none
      | _ => none)
    | _ => none)
  | .invokespecial k => (match am_pm (am_cl y) k with
    | some (z, m) => bif (Nat.beq m 3 || Nat.beq m 4) then (match st.drop (am_na z) with
      | .ref a :: rest => some (z, m, .ref a :: (st.take (am_na z)).reverse, rest)
      | _ => none) else (bif Nat.beq m 6 then (match st.drop (am_na z) with
      | .ref a :: rest => bif Nat.beq (a % 64) 15 then some (z, m, .ref a :: (st.take (am_na z)).reverse, rest) else none
      | _ => none) else none)
    | _ => none)
  | .invokestatic k => (match am_pm (am_cl y) k with
    | some (z, m) => bif ((Nat.beq m 1 || Nat.beq m 2 || Nat.beq m 5) && Nat.ble (am_na z) st.length) then some (z, m, (st.take (am_na z)).reverse, st.drop (am_na z)) else none
    | _ => none)
  | _ => none
def am_retI (t : Option FieldType) (x : Int32) : Bool := match t with
  | some .int => true
  | some .boolean => decide (x = 0) || decide (x = 1)
  | some .char => decide ((x.toUInt32 % 65536).toInt32 = x)
  | some .byte => decide (x.toInt8.toInt32 = x)
  | _ => false
/-- a method's end -/
def am_end (y : Nat) (i : Instr) (pc : Nat) (st : List Value) (M : am_M) : Option (am_O × am_M × Nat × Nat) :=
  match i with
  | .return_ => (match st, am_rt y with
    | [], none => some (.inl none, M, 0, 0)
    | _, _ => none)
  | .ireturn => (match st with
    | [.int x] => bif am_retI (am_rt y) x then some (.inl (some (.int x)), M, 0, 0) else none
    | _ => none)
  | .areturn => (match st, am_rt y with
    | [.ref a], some (.object _) => some (.inl (some (.ref a)), M, 0, 0)
    | [.null], some (.object _) => some (.inl (some .null), M, 0, 0)
    | [.ref a], some (.array .byte) => some (.inl (some (.ref a)), M, 0, 0)
    | _, _ => none)
  | .lreturn => (match st, am_rt y with
    | [.long x], some .long => some (.inl (some (.long x)), M, 0, 0)
    | _, _ => none)
  | .dreturn => (match st, am_rt y with
    | [.double x], some .double => some (.inl (some (.double x)), M, 0, 0)
    | _, _ => none)
  | .freturn => (match st, am_rt y with
    | [.float x], some .float => some (.inl (some (.float x)), M, 0, 0)
    | _, _ => none)
  | .new _ => (match am_tw y pc with
    | some e => bif Nat.ble (st.map Value.category).sum 8 then some (.inr e, M, 1, 6) else none
    | none => none)
  | _ => none
/-- what is made: an object, an array; its cells' count -/
def am_mk (_ : Nat) (M : am_M) : am_M := (M.1, M.2.1, M.2.2.1, M.2.2.2.1, M.2.2.2.2.1 + 1, M.2.2.2.2.2)
def am_et (t : ArrayType) : Nat := match t with
  | .int => 0
  | .char => 1
  | .long => 5
  | .byte => 6
  | _ => 9
def am_eo (ci : Nat) : Nat := bif Nat.beq ci 1 then 2 else (bif Nat.beq ci 6 then 3 else (bif Nat.beq ci 8 then 4 else 9))
def am_nkb (et n : Nat) : Option Nat := bif (Nat.ble 9 et || Nat.ble 1000 n) then none else am_nk et n
def am_new (y : Nat) (i : Instr) (st : List Value) (M : am_M) : Option (List Value × am_M × Nat) :=
  match i with
  | .new k => (match am_pc (am_cl y) k with
    | some ci => some (.ref (64 * M.2.2.2.2.1 + ci) :: st, am_mk ci M, am_nf ci)
    | none => none)
  | .newarray t => am_i1 st fun x st => if x < 0 then none else (match am_nkb (am_et t) x.toNatClampNeg with
    | some k => some (.ref (64 * M.2.2.2.2.1 + k) :: st, am_mk k M, x.toNatClampNeg)
    | none => none)
  | .anewarray q => am_i1 st fun x st => if x < 0 then none else (match am_pc (am_cl y) q with
    | some ci => (match am_nkb (am_eo ci) x.toNatClampNeg with
      | some k => some (.ref (64 * M.2.2.2.2.1 + k) :: st, am_mk k M, x.toNatClampNeg)
      | none => none)
    | none => none)
  | _ => none
def am_add (r : Option (am_O × am_M × Nat × Nat)) (k s : Nat) : Option (am_O × am_M × Nat × Nat) := match r with
  | some (o, M, k', s') => some (o, M, k + k', s + s')
  | none => none
/-- THE RUN: fuel, depth, method, place, locals, stack, memory; the end, the memory, how many cells and slots were made -/
def am_run : Nat → Nat → Nat → Nat → am_L → List Value → am_M → Option (am_O × am_M × Nat × Nat)
  | 0, _, _, _, _, _, _ => none
  | f + 1, d, y, pc, L, st, M =>
    match am_pr y pc with
    | none => none
    | some (i, nx, tg) =>
      match am_stp y i pc nx tg L st M with
      | some (pc', L', st', M') => am_run f d y pc' L' st' M'
      | none =>
        match am_end y i pc st M with
        | some r => some r
        | none =>
          match am_new y i st M with
          | some (st', M', n) => am_add (am_run f d y nx L st' M') 1 n
          | none =>
            match d, am_call y i st with
            | d' + 1, some (z, mo, As, rest) =>
              bif (Nat.ble (rest.map Value.category).sum 8 && As.all (fun v => Nat.beq v.category 1) && Nat.ble As.length (am_ml z)) then
                (match am_run f d' z 0 (am_ent z As) [] M with
                | some (.inl v, M1, k, s) => am_add (am_run f d y nx L (v.toList ++ rest) M1) k s
                | some (.inr e, M1, k, s) => bif (Nat.beq mo 2 || Nat.beq mo 3 || Nat.beq mo 4 || Nat.ble 6 mo) then none else
                  (match am_hr pc e (am_hh y) with
                  | none => some (.inr e, M1, k, s)
                  | some h =>
                    (match am_pr y h with
                    | some (.astore_n j, nx', _) => (match am_clr L j.val with
                      | some L' => am_add (am_run f d y nx' L' [] M1) k s
                      | none => none)
                    | some (.astore j, nx', _) => (match am_clr L j with
                      | some L' => am_add (am_run f d y nx' L' [] M1) k s
                      | none => none)
                    | _ => none))
                | none => none)
              else none
            | _, _ => none
