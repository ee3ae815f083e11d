/-! pieces of code: addresses, writes, and one lemma an instruction -/
def am_c (i k : Nat) : Nat := 64 * i + k
theorem am_c_mod {i k : Nat} (h : k < 64) : am_c i k % 64 = k := by unfold am_c; omega
theorem am_c_div {i k : Nat} (h : k < 64) : am_c i k / 64 = i := by unfold am_c; omega
theorem am_c_inj {i k i' k' : Nat} (h : k < 64) (h' : k' < 64) : (am_c i k = am_c i' k') = (i = i' ∧ k = k') := by
  unfold am_c
  apply propext
  omega
def av_i (M : am_M) (a j : Nat) (x : Int32) : am_M := (am_up M.1 a j x, M.2)
def av_r (M : am_M) (a j x : Nat) : am_M := (M.1, am_up M.2.1 a j x, M.2.2)
def av_l (M : am_M) (a j : Nat) (x : Int64) : am_M := (M.1, M.2.1, am_up M.2.2.1 a j x, M.2.2.2)
def av_d (M : am_M) (a j : Nat) (x : UInt64) : am_M := (M.1, M.2.1, M.2.2.1, am_up M.2.2.2.1 a j x, M.2.2.2.2)
def av_c (M : am_M) (a b n : Nat) : am_M := (am_cpy M.1 a b 0 0 n, M.2)
def am_tl (v : Option Value) (st : List Value) : List Value := v.toList ++ st
def am_rx (e : Nat) (M : am_M) : am_T := some (.inr e, M, 0, 0)
def am_nx (_ : Nat) (_ : am_M) : am_T := none
def am_sw (x : Int32) : List (Int32 × am_T) → am_T → am_T
  | [], D => D
  | (v, t) :: r, D => if x = v then t else am_sw x r D
def am_kv (i : Instr) : Int32 := match i with
  | .iconst n => Int32.ofInt n
  | .bipush n => (Int8.ofInt n).toInt32
  | .sipush n => (Int16.ofInt n).toInt32
  | _ => 0
def am_isk (i : Instr) : Bool := match i with
  | .iconst _ => true
  | .bipush _ => true
  | .sipush _ => true
  | _ => false
theorem am_v_k {y pc nx tg : Nat} {i : Instr} {x : Int32} {L : am_L} {st : List Value} {M : am_M} (hp : am_pr y pc = some (i, nx, tg)) (hi : am_isk i = true) (h : am_kv i = x) : am_val y pc L st M = am_val y nx L (.int x :: st) M := by
  subst h
  refine am_vs hp ?_
  cases i <;> first | rfl | cases hi
def am_iinc (L : am_L) (a : Nat) (x : Int32) : Option am_L := match am_nth L a with
  | some (.int v) => am_put L a (.int (v + x))
  | _ => none
theorem am_v_inc {y pc nx tg a : Nat} {b : Int} {x : Int32} {L L' : am_L} {st : List Value} {M : am_M} (hp : am_pr y pc = some (.iinc a b, nx, tg)) (hk : am_kv (.iconst b) = x) (h : am_iinc L a x = some L') : am_val y pc L st M = am_val y nx L' st M := by
  subst hk
  refine am_vs hp ?_
  unfold am_iinc at h
  simp only [am_stp]
  cases hn : am_nth L a with
  | none => rw [hn] at h; cases h
  | some v =>
    cases v <;> rw [hn] at h <;> first | cases h | skip
    show am_of (am_put L a (.int (_ + Int32.ofInt b))) _ = _
    rw [show am_put L a (.int (_ + Int32.ofInt b)) = some L' from h]
    rfl
theorem am_v_if {y pc nx tg p q : Nat} {i : Instr} {c : Prop} {d : Decidable c} {L L' : am_L} {st st' : List Value} {M M' : am_M} (hp : am_pr y pc = some (i, nx, tg)) (hs : am_stp y i pc nx tg L st M = some (@ite _ c d p q, L', st', M')) : am_val y pc L st M = @ite _ c d (am_val y p L' st' M') (am_val y q L' st' M') := by
  rw [am_vs hp hs]
  by_cases h : c
  · rw [if_pos h, if_pos h]
  · rw [if_neg h, if_neg h]
theorem am_v_acmp {y pc nx tg a b : Nat} {k : Int} {L : am_L} {st : List Value} {M : am_M} (hp : am_pr y pc = some (.if_acmp .ne k, nx, tg)) (ha : a % 64 = 40) (hb : b % 64 = 40) : am_val y pc L (.ref b :: .ref a :: st) M = if ¬ a = b then am_val y tg L st M else am_val y nx L st M :=
  am_v_if hp (by simp only [am_stp, ha, hb]; rfl)
def am_tsk : Int → List Int → List Int32
  | _, [] => []
  | v, _ :: r => Int32.ofInt v :: am_tsk (v + 1) r
theorem am_tsw1 (x : Int32) (D : am_T) (T : Int → am_T) : ∀ (offs : List Int) (lo : Int) (cs : List (Int32 × am_T)), cs.map Prod.fst = am_tsk lo offs → cs.map Prod.snd = offs.map T → -2147483648 ≤ lo → lo + offs.length ≤ 2147483648 →
    (∀ (k : Nat) (o : Int), offs[k]? = some o → x.toInt = lo + k → am_sw x cs D = T o) ∧ ((x.toInt < lo ∨ lo + offs.length ≤ x.toInt) → am_sw x cs D = D) := by
  intro offs
  induction offs with
  | nil =>
    intro lo cs h1 h2 _ _
    cases cs with
    | nil => exact ⟨fun k o h => by simp at h, fun _ => rfl⟩
    | cons c cs => cases h1
  | cons o0 r ih =>
    intro lo cs h1 h2 hl hh
    cases cs with
    | nil => cases h1
    | cons c cs =>
      obtain ⟨v, t⟩ := c
      simp only [List.map_cons, am_tsk, List.cons.injEq] at h1 h2
      obtain ⟨hv, h1⟩ := h1
      obtain ⟨ht, h2⟩ := h2
      simp only [List.length_cons] at hh
      have hh' : lo + 1 + (r.length : Int) ≤ 2147483648 := by omega
      have ih := ih (lo + 1) cs h1 h2 (by omega) hh'
      have hx : x = v ↔ x.toInt = lo := by
        rw [hv]
        constructor
        · intro h; rw [h]; exact Int32.toInt_ofInt_of_le (by omega) (by omega)
        · intro h; rw [← h]; exact (Int32.ofInt_toInt x).symm
      constructor
      · intro k o hk hxk
        cases k with
        | zero =>
          simp only [List.getElem?_cons_zero, Option.some.injEq] at hk
          subst hk
          rw [am_sw, if_pos (hx.mpr (by omega))]
          exact ht
        | succ k =>
          rw [am_sw, if_neg (fun h => by have := hx.mp h; omega)]
          exact ih.1 k o (by simpa using hk) (by omega)
      · intro h
        simp only [List.length_cons] at h
        rw [am_sw, if_neg (fun h' => by have := hx.mp h'; omega)]
        exact ih.2 (by omega)
theorem am_v_tsw {y pc nx tg : Nat} {d lo hi : Int} {offs : Array Int} {x : Int32} {cs : List (Int32 × am_T)} {D : am_T} {L : am_L} {st : List Value} {M : am_M} (hp : am_pr y pc = some (.tableswitch d lo hi offs, nx, tg))
    (hk : (am_tsk lo offs.toList).length = offs.toList.length ∧ hi = lo + offs.toList.length - 1 ∧ -2147483648 ≤ lo ∧ lo + offs.toList.length ≤ 2147483648) (h1 : cs.map Prod.fst = am_tsk lo offs.toList) (h2 : cs.map Prod.snd = offs.toList.map (fun o => am_val y ((pc : Int) + o).toNat L st M)) (h3 : 0 ≤ (pc : Int) + d ∧ D = am_val y ((pc : Int) + d).toNat L st M) (h4 : offs.toList.all (fun o => decide (0 ≤ (pc : Int) + o)) = true) : am_val y pc L (.int x :: st) M = am_sw x cs D := by
  obtain ⟨-, hhi, hlo, hl⟩ := hk
  obtain ⟨h3, rfl⟩ := h3
  have key := am_tsw1 x (am_val y ((pc : Int) + d).toNat L st M) (fun o => am_val y ((pc : Int) + o).toNat L st M) offs.toList lo cs h1 h2 hlo hl
  by_cases hin : x.toInt < lo ∨ hi < x.toInt
  · rw [key.2 (by omega)]
    refine am_vs hp ?_
    simp only [am_stp, am_i1, am_so]
    rw [if_pos hin]
    dsimp only
    rw [if_pos h3]
  · obtain ⟨k, hk⟩ : ∃ k : Nat, x.toInt = lo + k := ⟨(x.toInt - lo).toNat, by omega⟩
    have hlt : k < offs.toList.length := by omega
    have ho : offs.toList[k]? = some offs.toList[k] := List.getElem?_eq_getElem hlt
    rw [key.1 k _ ho hk]
    have h0 : 0 ≤ (pc : Int) + offs.toList[k] := of_decide_eq_true (List.all_eq_true.mp h4 _ (List.getElem_mem hlt))
    refine am_vs hp ?_
    simp only [am_stp, am_i1, am_so]
    rw [if_neg hin]
    have hk2 : (x.toInt - lo).toNat = k := by omega
    rw [hk2]
    have ho2 : offs[k]? = some offs.toList[k] := by rw [← Array.getElem?_toList]; exact ho
    rw [ho2]
    dsimp only
    rw [if_pos h0]
theorem am_lsw1 (x : Int32) (D : am_T) (d : Int) (T : Int → am_T) (hD : D = T d) : ∀ (ps : List (Int × Int)) (cs : List (Int32 × am_T)), cs.map (fun c => c.1.toInt) = ps.map Prod.fst → cs.map Prod.snd = ps.map (fun p => T p.2) → am_sw x cs D = T (Op.lookupswitch.offset ps d x.toInt) := by
  intro ps
  induction ps with
  | nil =>
    intro cs h1 _
    cases cs with
    | nil => exact hD
    | cons c cs => cases h1
  | cons p r ih =>
    intro cs h1 h2
    cases cs with
    | nil => cases h1
    | cons c cs =>
      obtain ⟨v, t⟩ := c
      obtain ⟨a, o⟩ := p
      simp only [List.map_cons, List.cons.injEq] at h1 h2
      obtain ⟨hv, h1⟩ := h1
      obtain ⟨ht, h2⟩ := h2
      rw [am_sw]
      show _ = T (if a = x.toInt then o else Op.lookupswitch.offset r d x.toInt)
      by_cases h : x = v
      · rw [if_pos h, if_pos (by rw [h, hv])]
        exact ht
      · rw [if_neg h, if_neg (fun h' => h (Int32.toInt_inj.mp (by rw [hv, h'])))]
        exact ih cs h1 h2
theorem am_lso (P : Int → Prop) (d k : Int) (hd : P d) : ∀ (ps : List (Int × Int)), (∀ p, p ∈ ps → P p.2) → P (Op.lookupswitch.offset ps d k) := by
  intro ps
  induction ps with
  | nil => intro _; exact hd
  | cons p r ih =>
    intro h
    obtain ⟨a, o⟩ := p
    show P (if a = k then o else Op.lookupswitch.offset r d k)
    by_cases hh : a = k
    · rw [if_pos hh]; exact h _ List.mem_cons_self
    · rw [if_neg hh]; exact ih (fun p hp => h p (List.mem_cons_of_mem _ hp))
theorem am_v_lsw {y pc nx tg : Nat} {d : Int} {ps : Array (Int × Int)} {x : Int32} {cs : List (Int32 × am_T)} {D : am_T} {L : am_L} {st : List Value} {M : am_M} (hp : am_pr y pc = some (.lookupswitch d ps, nx, tg))
    (hs : (ps.toList.zip (ps.toList.drop 1)).all (fun (a, next) => a.1 < next.1) = true) (h1 : cs.map (fun c => c.1.toInt) = ps.toList.map Prod.fst) (h2 : cs.map Prod.snd = ps.toList.map (fun p => am_val y ((pc : Int) + p.2).toNat L st M)) (h3 : D = am_val y ((pc : Int) + d).toNat L st M) (h0 : 0 ≤ (pc : Int) + d) (h4 : ps.toList.all (fun p => decide (0 ≤ (pc : Int) + p.2)) = true) : am_val y pc L (.int x :: st) M = am_sw x cs D := by
  rw [am_lsw1 x D d (fun o => am_val y ((pc : Int) + o).toNat L st M) h3 ps.toList cs h1 h2]
  refine am_vs hp ?_
  have hn : 0 ≤ (pc : Int) + Op.lookupswitch.offset ps.toList d x.toInt := am_lso (fun o => 0 ≤ (pc : Int) + o) d x.toInt h0 ps.toList (fun p hp => of_decide_eq_true (List.all_eq_true.mp h4 p hp))
  simp only [am_stp, am_i1]
  rw [if_pos ⟨hs, hn⟩]
theorem am_v_idiv {y pc nx tg : Nat} {a b : Int32} {L : am_L} {st : List Value} {M : am_M} (hp : am_pr y pc = some (.idiv, nx, tg)) (h : ¬ b = 0) : am_val y pc L (.int b :: .int a :: st) M = am_val y nx L (.int (a / b) :: st) M :=
  am_vs hp (by simp only [am_stp, am_i2, if_neg h])
theorem am_v_irem {y pc nx tg : Nat} {a b : Int32} {L : am_L} {st : List Value} {M : am_M} (hp : am_pr y pc = some (.irem, nx, tg)) (h : ¬ b = 0) : am_val y pc L (.int b :: .int a :: st) M = am_val y nx L (.int (a - a / b * b) :: st) M :=
  am_vs hp (by simp only [am_stp, am_i2, if_neg h])
theorem am_v_f2d {y pc nx tg : Nat} {a : UInt32} {L : am_L} {st : List Value} {M : am_M} (hp : am_pr y pc = some (.f2d, nx, tg)) (h : FP.f2d a &&& 0x7fffffffffffffff ≤ 0x7ff0000000000000) : am_val y pc L (.float a :: st) M = am_val y nx L (.double (FP.f2d a) :: st) M :=
  am_vs hp (by simp only [am_stp, if_pos h])
theorem am_v_ddiv {y pc nx tg : Nat} {a b : UInt64} {L : am_L} {st : List Value} {M : am_M} (hp : am_pr y pc = some (.ddiv, nx, tg)) (h : FP.ddiv a b &&& 0x7fffffffffffffff ≤ 0x7ff0000000000000) : am_val y pc L (.double b :: .double a :: st) M = am_val y nx L (.double (FP.ddiv a b) :: st) M :=
  am_vs hp (by simp only [am_stp, if_pos h])
theorem am_v_fdiv {y pc nx tg : Nat} {a b : UInt32} {L : am_L} {st : List Value} {M : am_M} (hp : am_pr y pc = some (.fdiv, nx, tg)) (h : FP.fdiv a b &&& 0x7fffffff ≤ 0x7f800000) : am_val y pc L (.float b :: .float a :: st) M = am_val y nx L (.float (FP.fdiv a b) :: st) M :=
  am_vs hp (by simp only [am_stp, if_pos h])
theorem am_nbt {a b : Nat} (h : a = b) : Nat.beq a b = true := by rw [h]; exact Nat.beq_refl b
theorem am_v_gfi {y pc nx tg k a ci j t : Nat} {fin : Bool} {L : am_L} {st : List Value} {M : am_M} (hp : am_pr y pc = some (.getfield k, nx, tg)) (hf : am_pf (am_cl y) k = some (ci, j, t, fin)) (ht : Nat.beq t 2 = false) (ha : a % 64 = ci) : am_val y pc L (.ref a :: st) M = am_val y nx L (.int (M.1 a j) :: st) M :=
  am_vs hp (by simp only [am_stp, am_a1, am_gf, hf, ha, ht, am_nbt rfl, cond_true, cond_false])
theorem am_v_gfr {y pc nx tg k a ci j : Nat} {fin : Bool} {L : am_L} {st : List Value} {M : am_M} (hp : am_pr y pc = some (.getfield k, nx, tg)) (hf : am_pf (am_cl y) k = some (ci, j, 2, fin)) (ha : a % 64 = ci) : am_val y pc L (.ref a :: st) M = am_val y nx L (am_rv (M.2.1 a j) :: st) M :=
  am_vs hp (by simp only [am_stp, am_a1, am_gf, hf, ha, am_nbt rfl, cond_true])
theorem am_v_ge1 {y pc nx tg k i : Nat} {L : am_L} {st : List Value} {M : am_M} (hp : am_pr y pc = some (.getfield k, nx, tg)) (hf : am_pf (am_cl y) k = none) (he : am_pe (am_cl y) k = 1) : am_val y pc L (.ref (am_c i 40) :: st) M = am_val y nx L (.int (am_el i) :: st) M :=
  am_vs hp (by simp only [am_stp, am_a1, am_gf, hf, he, am_c_mod (show (40 : Nat) < 64 by decide), am_c_div (show (40 : Nat) < 64 by decide), am_nbt rfl, cond_true])
theorem am_v_ge2 {y pc nx tg k i : Nat} {L : am_L} {st : List Value} {M : am_M} (hp : am_pr y pc = some (.getfield k, nx, tg)) (hf : am_pf (am_cl y) k = none) (he : am_pe (am_cl y) k = 2) : am_val y pc L (.ref (am_c i 40) :: st) M = am_val y nx L (.ref (am_c (am_ef i) 41) :: st) M :=
  am_vs hp (by simp only [am_stp, am_a1, am_gf, hf, he, am_c_mod (show (40 : Nat) < 64 by decide), am_c_div (show (40 : Nat) < 64 by decide), am_nbt rfl, cond_true]; rfl)
theorem am_v_pfi {y pc nx tg k a ci j : Nat} {x : Int32} {L : am_L} {st : List Value} {M : am_M} (hp : am_pr y pc = some (.putfield k, nx, tg)) (hf : am_pf (am_cl y) k = some (ci, j, 0, false)) (ha : a % 64 = ci) : am_val y pc L (.int x :: .ref a :: st) M = am_val y nx L st (av_i M a j x) :=
  am_vs hp (by simp only [am_stp, am_sf, hf, ha, am_nbt rfl, Bool.not_false, Bool.true_or, Bool.and_self, cond_true]; rfl)
theorem am_v_pfb {y pc nx tg k a ci j : Nat} {x : Int32} {L : am_L} {st : List Value} {M : am_M} (hp : am_pr y pc = some (.putfield k, nx, tg)) (hf : am_pf (am_cl y) k = some (ci, j, 1, false)) (ha : a % 64 = ci) (h : x = 0 ∨ x = 1) : am_val y pc L (.int x :: .ref a :: st) M = am_val y nx L st (av_i M a j x) := by
  refine am_vs hp ?_
  have hb : (decide (x = 0) || decide (x = 1)) = true := by
    rcases h with h | h <;> simp [h]
  simp only [am_stp, am_sf, hf, ha, am_nbt rfl, Bool.not_false, Bool.true_or, Bool.and_self, cond_true, hb]
  rfl
theorem am_v_pfr {y pc nx tg k a b ci j : Nat} {L : am_L} {st : List Value} {M : am_M} (hp : am_pr y pc = some (.putfield k, nx, tg)) (hf : am_pf (am_cl y) k = some (ci, j, 2, false)) (ha : a % 64 = ci) : am_val y pc L (.ref b :: .ref a :: st) M = am_val y nx L st (av_r M a j (b + 1)) :=
  am_vs hp (by simp only [am_stp, am_sf, hf, ha, am_nbt rfl, Bool.not_false, Bool.true_or, Bool.and_self, cond_true]; rfl)
theorem am_nbf {a b : Nat} (h : a ≠ b) : Nat.beq a b = false := by
  cases hh : Nat.beq a b with
  | false => rfl
  | true => exact absurd (Nat.eq_of_beq_eq_true hh) h
theorem am_ak_lt {k : Nat} {q : Nat × Nat} (h : am_ak k = some q) : k < 32 := by
  cases hh : Nat.ble 32 k with
  | false => 
    have : ¬ 32 ≤ k := fun hc => by rw [Nat.ble_eq_true_of_le hc] at hh; cases hh
    omega
  | true => unfold am_ak at h; rw [hh] at h; cases h
theorem am_v_len44 {y pc nx tg a : Nat} {L : am_L} {st : List Value} {M : am_M} (hp : am_pr y pc = some (.arraylength, nx, tg)) (ha : a % 64 = 44) : am_val y pc L (.ref a :: st) M = am_val y nx L (.int (Int32.ofNat M.2.2.2.2.2.1) :: st) M :=
  am_vs hp (by simp only [am_stp, am_a1, ha, am_nbt rfl, cond_true])
theorem am_v_len42 {y pc nx tg a : Nat} {L : am_L} {st : List Value} {M : am_M} (hp : am_pr y pc = some (.arraylength, nx, tg)) (ha : a % 64 = 42) : am_val y pc L (.ref a :: st) M = am_val y nx L (.int 8 :: st) M :=
  am_vs hp (by simp only [am_stp, am_a1, ha]; rfl)
theorem am_v_len {y pc nx tg a k et n : Nat} {x : Int32} {L : am_L} {st : List Value} {M : am_M} (hp : am_pr y pc = some (.arraylength, nx, tg)) (ha : a % 64 = k) (hk : am_ak k = some (et, n)) (hx : Int32.ofNat n = x) (_ : (0 : Nat) = 0) : am_val y pc L (.ref a :: st) M = am_val y nx L (.int x :: st) M := by
  subst hx
  have hlt := am_ak_lt hk
  exact am_vs hp (by simp only [am_stp, am_a1, ha, hk, am_nbf (show k ≠ 44 by omega), am_nbf (show k ≠ 42 by omega), am_nbf (show k ≠ 46 by omega), cond_false])
theorem am_v_scr {m : Nat} {y pc nx tg a : Nat} {j : Int32} {L : am_L} {st : List Value} {M : am_M} (hp : am_pr y pc = some (.iaload, nx, tg)) (ha : a % 64 = 44) (h : am_in j M.2.2.2.2.2.1 = true) (hj : j.toNatClampNeg = m) : am_val y pc L (.int j :: .ref a :: st) M = am_val y nx L (.int (M.2.2.2.2.2.2 m) :: st) M := by
  subst hj
  exact
  am_vs hp (by simp only [am_stp, am_ia, ha, h, am_nbt rfl, cond_true])
theorem am_v_map {m : Nat} {y pc nx tg a : Nat} {j : Int32} {L : am_L} {st : List Value} {M : am_M} (hp : am_pr y pc = some (.iaload, nx, tg)) (ha : a % 64 = 43) (h : am_in j 8 = true) (hj : j.toNatClampNeg = m) : am_val y pc L (.int j :: .ref a :: st) M = am_val y nx L (.int (Int32.ofNat (m + 1)) :: st) M := by
  subst hj
  exact
  am_vs hp (by simp only [am_stp, am_ia, ha, h, am_nbf (show (43 : Nat) ≠ 44 by decide), am_nbt rfl, cond_true, cond_false])
theorem am_v_all {m : Nat} {y pc nx tg a : Nat} {j : Int32} {L : am_L} {st : List Value} {M : am_M} (hp : am_pr y pc = some (.aaload, nx, tg)) (ha : a % 64 = 42) (h : am_in j 8 = true) (hj : j.toNatClampNeg = m) : am_val y pc L (.int j :: .ref a :: st) M = am_val y nx L (.ref (am_c m 40) :: st) M := by
  subst hj
  exact
  am_vs hp (by simp only [am_stp, am_ia, ha, h, am_nbt rfl, cond_true]; rfl)
theorem am_v_aal {m : Nat} {y pc nx tg a k et n : Nat} {j : Int32} {L : am_L} {st : List Value} {M : am_M} (hp : am_pr y pc = some (.aaload, nx, tg)) (ha : a % 64 = k) (hk : am_ak k = some (et, n)) (he : (Nat.ble 2 et && Nat.ble et 4) = true) (h : am_in j n = true) (hj : j.toNatClampNeg = m) : am_val y pc L (.int j :: .ref a :: st) M = am_val y nx L (am_rv (M.2.1 a m) :: st) M := by
  subst hj
  have hlt := am_ak_lt hk
  exact am_vs hp (by simp only [am_stp, am_ia, ha, hk, h, he, am_nbf (show k ≠ 42 by omega), Bool.and_self, cond_true, cond_false])
theorem am_v_ial {m : Nat} {y pc nx tg a k n : Nat} {j : Int32} {L : am_L} {st : List Value} {M : am_M} (hp : am_pr y pc = some (.iaload, nx, tg)) (ha : a % 64 = k) (hk : am_ak k = some (0, n)) (h : am_in j n = true) (hj : j.toNatClampNeg = m) : am_val y pc L (.int j :: .ref a :: st) M = am_val y nx L (.int (M.1 a m) :: st) M := by
  subst hj
  have hlt := am_ak_lt hk
  exact am_vs hp (by simp only [am_stp, am_ia, ha, hk, h, am_nbf (show k ≠ 44 by omega), am_nbf (show k ≠ 43 by omega), am_nbt rfl, Bool.and_self, cond_true, cond_false])
theorem am_v_cal {m : Nat} {y pc nx tg a k n : Nat} {j : Int32} {L : am_L} {st : List Value} {M : am_M} (hp : am_pr y pc = some (.caload, nx, tg)) (ha : a % 64 = k) (hk : am_ak k = some (1, n)) (h : am_in j n = true) (hj : j.toNatClampNeg = m) : am_val y pc L (.int j :: .ref a :: st) M = am_val y nx L (.int (M.1 a m) :: st) M := by
  subst hj
  exact
  am_vs hp (by simp only [am_stp, am_ia, ha, hk, h, am_nbt rfl, Bool.and_self, cond_true])
theorem am_v_lal {m : Nat} {y pc nx tg a k n : Nat} {j : Int32} {L : am_L} {st : List Value} {M : am_M} (hp : am_pr y pc = some (.laload, nx, tg)) (ha : a % 64 = k) (hk : am_ak k = some (5, n)) (h : am_in j n = true) (hj : j.toNatClampNeg = m) : am_val y pc L (.int j :: .ref a :: st) M = am_val y nx L (.long (M.2.2.1 a m) :: st) M := by
  subst hj
  exact
  am_vs hp (by simp only [am_stp, am_ia, ha, hk, h, am_nbt rfl, Bool.and_self, cond_true])
theorem am_v_ias {m : Nat} {y pc nx tg a k n : Nat} {j x : Int32} {L : am_L} {st : List Value} {M : am_M} (hp : am_pr y pc = some (.iastore, nx, tg)) (ha : a % 64 = k) (hk : am_ak k = some (0, n)) (h : am_in j n = true) (hj : j.toNatClampNeg = m) : am_val y pc L (.int x :: .int j :: .ref a :: st) M = am_val y nx L st (av_i M a m x) := by
  subst hj
  exact
  am_vs hp (by simp only [am_stp, ha, hk, h, am_nbt rfl, Bool.and_self, cond_true]; rfl)
theorem am_v_las {m : Nat} {y pc nx tg a k n : Nat} {j : Int32} {x : Int64} {L : am_L} {st : List Value} {M : am_M} (hp : am_pr y pc = some (.lastore, nx, tg)) (ha : a % 64 = k) (hk : am_ak k = some (5, n)) (h : am_in j n = true) (hj : j.toNatClampNeg = m) : am_val y pc L (.long x :: .int j :: .ref a :: st) M = am_val y nx L st (av_l M a m x) := by
  subst hj
  exact
  am_vs hp (by simp only [am_stp, ha, hk, h, am_nbt rfl, Bool.and_self, cond_true]; rfl)
theorem am_v_cas {m : Nat} {y pc nx tg a k n : Nat} {j x : Int32} {L : am_L} {st : List Value} {M : am_M} (hp : am_pr y pc = some (.castore, nx, tg)) (ha : a % 64 = k) (hk : am_ak k = some (1, n)) (h : am_in j n = true) (h2 : (x.toUInt32 % 65536).toInt32 = x) (hj : j.toNatClampNeg = m) : am_val y pc L (.int x :: .int j :: .ref a :: st) M = am_val y nx L st (av_i M a m x) := by
  subst hj
  exact
  am_vs hp (by simp only [am_stp, ha, hk, h, am_nbt rfl, Bool.and_self, cond_true, if_pos h2]; rfl)
theorem am_v_aas {m : Nat} {y pc nx tg a b k kb et n : Nat} {j : Int32} {L : am_L} {st : List Value} {M : am_M} (hp : am_pr y pc = some (.aastore, nx, tg)) (ha : a % 64 = k) (hk : am_ak k = some (et, n)) (hb : b % 64 = kb) (he : ((Nat.beq et 2 && Nat.beq kb 1) || (Nat.beq et 3 && Nat.beq kb 6) || (Nat.beq et 4 && Nat.beq kb 8)) = true) (h : am_in j n = true) (hj : j.toNatClampNeg = m) : am_val y pc L (.ref b :: .int j :: .ref a :: st) M = am_val y nx L st (av_r M a m (b + 1)) := by
  subst hj
  exact
  am_vs hp (by simp only [am_stp, ha, hk, hb, h, he, Bool.and_self, cond_true]; rfl)
theorem am_v_ord {y pc nx tg k i : Nat} {L : am_L} {st : List Value} {M : am_M} (hp : am_pr y pc = some (.invokevirtual k, nx, tg)) (hj : am_pj (am_cl y) k = 1) (hs : Nat.ble (st.map Value.category).sum 8 = true) : am_val y pc L (.ref (am_c i 40) :: st) M = am_val y nx L (.int (Int32.ofNat i) :: st) M :=
  am_vs hp (by simp only [am_stp, am_a1, hj, hs, am_c_mod (show (40 : Nat) < 64 by decide), am_c_div (show (40 : Nat) < 64 by decide), am_nbt rfl, Bool.and_self, cond_true])
theorem am_v_slen {y pc nx tg k i : Nat} {L : am_L} {st : List Value} {M : am_M} (hp : am_pr y pc = some (.invokevirtual k, nx, tg)) (hj : am_pj (am_cl y) k = 2) (hs : Nat.ble (st.map Value.category).sum 8 = true) : am_val y pc L (.ref (am_c i 41) :: st) M = am_val y nx L (.int (Int32.ofNat (am_fs i).length) :: st) M :=
  am_vs hp (by simp only [am_stp, am_a1, hj, hs, am_c_mod (show (41 : Nat) < 64 by decide), am_c_div (show (41 : Nat) < 64 by decide), am_nbt rfl, am_nbf (show (2 : Nat) ≠ 1 by decide), Bool.and_self, cond_true, cond_false])
theorem am_v_chr {y pc nx tg k i : Nat} {j : Int32} {L : am_L} {st : List Value} {M : am_M} (hp : am_pr y pc = some (.invokevirtual k, nx, tg)) (hj : am_pj (am_cl y) k = 3) (hs : Nat.ble (st.map Value.category).sum 8 = true) (h : am_in j (am_fs i).length = true) : am_val y pc L (.int j :: .ref (am_c i 41) :: st) M = am_val y nx L (.int (Int32.ofNat ((am_fs i).getD j.toNatClampNeg 0)) :: st) M :=
  am_vs hp (by simp only [am_stp, am_ia, hj, hs, h, am_c_mod (show (41 : Nat) < 64 by decide), am_c_div (show (41 : Nat) < 64 by decide), am_nbt rfl, am_nbf (show (3 : Nat) ≠ 1 by decide), am_nbf (show (3 : Nat) ≠ 2 by decide), Bool.and_self, cond_true, cond_false])
theorem am_v_cpy {na y pc nx tg k a b q : Nat} {n : Int32} {L : am_L} {st : List Value} {M : am_M} (hp : am_pr y pc = some (.invokestatic k, nx, tg)) (hj : am_pj (am_cl y) k = 4) (ha : a % 64 = q) (hb : b % 64 = q) (hk : am_ak q = some (0, na)) (h0 : ¬ (0 : Int32) < 0 ∧ (0 : Int32).toNatClampNeg = 0) (hn : ¬ n < 0) (ht : n.toNatClampNeg = na) (hs : Nat.ble (st.map Value.category).sum 8 = true) : am_val y pc L (.int n :: .int 0 :: .ref b :: .int 0 :: .ref a :: st) M = am_val y nx L st (av_c M a b na) := by
  refine am_vs hp ?_
  have hd : decide (¬ (0 : Int32) < 0) = true := by decide
  have hd2 : decide (¬ n < 0) = true := decide_eq_true hn
  have hbl : Nat.ble (0 + na) na = true := Nat.ble_eq_true_of_le (by omega)
  have hlt := am_ak_lt hk
  simp only [am_stp, ha, hb, hk, hj, h0.2, ht, hd, hd2, hbl, hs, am_nbt rfl, am_nbf (show q ≠ 46 by omega), Bool.true_or, Bool.and_self, cond_true, cond_false, true_or, if_true]
  rfl
theorem am_v_cv {na y pc nx tg k z a : Nat} {L E : am_L} {st rest : List Value} {M : am_M} (hp : am_pr y pc = some (.invokevirtual k, nx, tg)) (hs : am_stp y (.invokevirtual k) pc nx tg L st M = none) (hm : am_pm (am_cl y) k = some (z, 0)) (hd : st.drop (am_na z) = .ref a :: rest) (ha : a % 64 = am_cl z)
    (hk : (Nat.ble (rest.map Value.category).sum 8 && (Value.ref a :: (st.take (am_na z)).reverse).all (fun v => Nat.beq v.category 1) && Nat.ble (Value.ref a :: (st.take (am_na z)).reverse).length (am_ml z)) = true) (he : am_ent z (.ref a :: (st.take (am_na z)).reverse) = E) :
    am_val y pc L st M = am_bnx (am_val z 0 E [] M) (fun v M1 => am_val y nx L (am_tl v rest) M1) (am_hx y pc 0 L) := by
  subst he
  exact am_vc hp hs rfl rfl (by simp only [am_call, hm, hd, ha, am_nbt rfl, Bool.true_or, Bool.and_self, cond_true]) hk
theorem am_v_cs {y pc nx tg k z m : Nat} {L E : am_L} {st : List Value} {M : am_M} (hp : am_pr y pc = some (.invokestatic k, nx, tg)) (hs : am_stp y (.invokestatic k) pc nx tg L st M = none) (hm : am_pm (am_cl y) k = some (z, m)) (hmm : ((Nat.beq m 1 || Nat.beq m 2 || Nat.beq m 5) && Nat.ble (am_na z) st.length) = true)
    (hk : (Nat.ble ((st.drop (am_na z)).map Value.category).sum 8 && ((st.take (am_na z)).reverse).all (fun v => Nat.beq v.category 1) && Nat.ble ((st.take (am_na z)).reverse).length (am_ml z)) = true) (he : am_ent z ((st.take (am_na z)).reverse) = E) :
    am_val y pc L st M = am_bnx (am_val z 0 E [] M) (fun v M1 => am_val y nx L (am_tl v (st.drop (am_na z))) M1) (am_hx y pc m L) := by
  subst he
  exact am_vc hp hs rfl rfl (by simp only [am_call, hm, hmm, cond_true]) hk
theorem am_bx {y pc mo : Nat} {L : am_L} {r : am_T} {c : Option Value → am_M → am_T} (h1 : am_hh y = []) (h2 : (Nat.beq mo 2 || Nat.beq mo 3 || Nat.beq mo 4 || Nat.ble 6 mo) = false) : am_bnx r c (am_hx y pc mo L) = am_bnx r c am_rx := by
  congr 1
  funext e M
  simp only [am_hx, h1, h2, am_hr, cond_false]
  rfl
theorem am_bn {y pc mo : Nat} {L : am_L} {r : am_T} {c : Option Value → am_M → am_T} (h2 : (Nat.beq mo 2 || Nat.beq mo 3 || Nat.beq mo 4 || Nat.ble 6 mo) = true) : am_bnx r c (am_hx y pc mo L) = am_bnx r c am_nx := by
  congr 1
  funext e M
  simp only [am_hx, h2, cond_true]
  rfl
theorem am_v_reti {y pc nx tg : Nat} {x : Int32} {L : am_L} {M : am_M} (hp : am_pr y pc = some (.ireturn, nx, tg)) (hr : am_rt y = some .int) : am_val y pc L [.int x] M = some (.inl (some (.int x)), M, 0, 0) :=
  am_ve hp rfl (by simp only [am_end, hr, am_retI, cond_true])
theorem am_v_retb {y pc nx tg : Nat} {x : Int32} {L : am_L} {M : am_M} (hp : am_pr y pc = some (.ireturn, nx, tg)) (hr : am_rt y = some .boolean) (h : x = 0 ∨ x = 1) : am_val y pc L [.int x] M = some (.inl (some (.int x)), M, 0, 0) := by
  have hb : (decide (x = 0) || decide (x = 1)) = true := by
    rcases h with h | h <;> simp [h]
  exact am_ve hp rfl (by simp only [am_end, hr, am_retI, hb, cond_true])
theorem am_v_retc {y pc nx tg : Nat} {x : Int32} {L : am_L} {M : am_M} (hp : am_pr y pc = some (.ireturn, nx, tg)) (hr : am_rt y = some .char) (h : (x.toUInt32 % 65536).toInt32 = x) : am_val y pc L [.int x] M = some (.inl (some (.int x)), M, 0, 0) :=
  am_ve hp rfl (by simp only [am_end, hr, am_retI, decide_eq_true h, cond_true])
theorem am_ch_ch {x : Int32} : (((x.toUInt32 % 65536).toInt32).toUInt32 % 65536).toInt32 = (x.toUInt32 % 65536).toInt32 := by
  congr 1
  apply UInt32.toNat_inj.mp
  simp
/-! calls that came back -/
theorem am_bnx_v {v : Option Value} {M : am_M} {c : Option Value → am_M → am_T} {x : Nat → am_M → am_T} : am_bnx (some (.inl v, M, 0, 0)) c x = c v M := by
  show am_add (c v M) 0 0 = c v M
  cases c v M with
  | none => rfl
  | some r => obtain ⟨o, M1, k, s⟩ := r; show some (o, M1, 0 + k, 0 + s) = _; rw [Nat.zero_add, Nat.zero_add]
theorem am_bnx_e {e k s : Nat} {M : am_M} {c : Option Value → am_M → am_T} {x : Nat → am_M → am_T} : am_bnx (some (.inr e, M, k, s)) c x = am_add (x e M) k s := rfl
theorem am_tl_s {v : Value} {st : List Value} : am_tl (some v) st = v :: st := rfl
theorem am_tl_n {st : List Value} : am_tl none st = st := rfl
theorem am_rv_s {x : Nat} : am_rv (x + 1) = .ref x := rfl
theorem am_add_rx {e k s : Nat} {M : am_M} : am_add (am_rx e M) k s = some (.inr e, M, k, s) := rfl
theorem am_k_bipush_m79 : am_kv (.bipush (-79)) = (-79) := by decide
theorem am_k_bipush_m78 : am_kv (.bipush (-78)) = (-78) := by decide
theorem am_k_bipush_m77 : am_kv (.bipush (-77)) = (-77) := by decide
theorem am_k_bipush_m76 : am_kv (.bipush (-76)) = (-76) := by decide
theorem am_k_bipush_m75 : am_kv (.bipush (-75)) = (-75) := by decide
theorem am_k_bipush_m74 : am_kv (.bipush (-74)) = (-74) := by decide
theorem am_k_bipush_m2 : am_kv (.bipush (-2)) = (-2) := by decide
theorem am_k_bipush_6 : am_kv (.bipush 6) = 6 := by decide
theorem am_k_bipush_7 : am_kv (.bipush 7) = 7 := by decide
theorem am_k_bipush_8 : am_kv (.bipush 8) = 8 := by decide
theorem am_k_bipush_9 : am_kv (.bipush 9) = 9 := by decide
theorem am_k_bipush_10 : am_kv (.bipush 10) = 10 := by decide
theorem am_k_bipush_11 : am_kv (.bipush 11) = 11 := by decide
theorem am_k_bipush_16 : am_kv (.bipush 16) = 16 := by decide
theorem am_k_bipush_17 : am_kv (.bipush 17) = 17 := by decide
theorem am_k_bipush_20 : am_kv (.bipush 20) = 20 := by decide
theorem am_k_bipush_21 : am_kv (.bipush 21) = 21 := by decide
theorem am_k_bipush_22 : am_kv (.bipush 22) = 22 := by decide
theorem am_k_bipush_30 : am_kv (.bipush 30) = 30 := by decide
theorem am_k_bipush_31 : am_kv (.bipush 31) = 31 := by decide
theorem am_k_bipush_32 : am_kv (.bipush 32) = 32 := by decide
theorem am_k_bipush_43 : am_kv (.bipush 43) = 43 := by decide
theorem am_k_bipush_45 : am_kv (.bipush 45) = 45 := by decide
theorem am_k_bipush_46 : am_kv (.bipush 46) = 46 := by decide
theorem am_k_bipush_48 : am_kv (.bipush 48) = 48 := by decide
theorem am_k_bipush_49 : am_kv (.bipush 49) = 49 := by decide
theorem am_k_bipush_50 : am_kv (.bipush 50) = 50 := by decide
theorem am_k_bipush_57 : am_kv (.bipush 57) = 57 := by decide
theorem am_k_bipush_59 : am_kv (.bipush 59) = 59 := by decide
theorem am_k_bipush_60 : am_kv (.bipush 60) = 60 := by decide
theorem am_k_bipush_97 : am_kv (.bipush 97) = 97 := by decide
theorem am_k_bipush_126 : am_kv (.bipush 126) = 126 := by decide
theorem am_k_iconst_m1 : am_kv (.iconst (-1)) = (-1) := by decide
theorem am_k_iconst_0 : am_kv (.iconst 0) = 0 := by decide
theorem am_k_iconst_1 : am_kv (.iconst 1) = 1 := by decide
theorem am_k_iconst_2 : am_kv (.iconst 2) = 2 := by decide
theorem am_k_iconst_3 : am_kv (.iconst 3) = 3 := by decide
theorem am_k_iconst_4 : am_kv (.iconst 4) = 4 := by decide
theorem am_k_iconst_5 : am_kv (.iconst 5) = 5 := by decide
theorem am_k_sipush_1000 : am_kv (.sipush 1000) = 1000 := by decide
