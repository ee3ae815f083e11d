/-! CHECKS of the tables against the bytes, by the kernel -/
def am_len (i : Instr) : Nat := match i with
  | .bipush _ => 2
  | .iload _ => 2
  | .istore _ => 2
  | .aload _ => 2
  | .astore _ => 2
  | .fload _ => 2
  | .fstore _ => 2
  | .dload _ => 2
  | .dstore _ => 2
  | .ldc _ => 2
  | .lload _ => 2
  | .lstore _ => 2
  | .ldc2_w _ => 3
  | .checkcast _ => 3
  | .newarray _ => 2
  | .sipush _ => 3
  | .ldc_w _ => 3
  | .getfield _ => 3
  | .putfield _ => 3
  | .getstatic _ => 3
  | .goto _ => 3
  | .ifCond _ _ => 3
  | .if_icmp _ _ => 3
  | .if_acmp _ _ => 3
  | .ifnonnull _ => 3
  | .ifnull _ => 3
  | .iinc _ _ => 3
  | .invokevirtual _ => 3
  | .invokestatic _ => 3
  | .invokespecial _ => 3
  | .new _ => 3
  | .anewarray _ => 3
  | _ => 1
/-- what a printed row of a program says of its instruction: the next place, the branch's target -/
def am_ok1 (i : Instr) (pc nx tg : Nat) : Bool := match i with
  | .tableswitch _ _ _ _ => true
  | .lookupswitch _ _ => true
  | .goto o => Nat.beq nx (pc + 3) && decide ((pc : Int) + o = (tg : Int))
  | .ifCond _ o => Nat.beq nx (pc + 3) && decide ((pc : Int) + o = (tg : Int))
  | .if_icmp _ o => Nat.beq nx (pc + 3) && decide ((pc : Int) + o = (tg : Int))
  | .if_acmp _ o => Nat.beq nx (pc + 3) && decide ((pc : Int) + o = (tg : Int))
  | .ifnonnull o => Nat.beq nx (pc + 3) && decide ((pc : Int) + o = (tg : Int))
  | .ifnull o => Nat.beq nx (pc + 3) && decide ((pc : Int) + o = (tg : Int))
  | i => Nat.beq nx (pc + am_len i)
def am_ck1 (y pc : Nat) : Bool := match am_pr y pc with
  | none => true
  | some (i, nx, tg) => decide (decode (am_b y) pc = .ok (i, nx - pc)) && am_ok1 i pc nx tg
def am_ckr (y lo n : Nat) : Bool := (List.range n).all fun j => am_ck1 y (lo + j)
def am_cks (lo n : Nat) : Bool := (List.range n).all fun j => am_ckr (lo + j) 0 (am_sz (lo + j))
theorem am_k0 : am_cks 0 10 = true := by decide +kernel
theorem am_k1 : am_cks 10 6 = true := by decide +kernel
theorem am_k2 : am_cks 16 5 = true := by decide +kernel
theorem am_k3 : am_cks 21 7 = true := by decide +kernel
theorem am_k4 : am_cks 28 8 = true := by decide +kernel
theorem am_k5 : am_cks 36 22 = true := by decide +kernel
theorem am_k6 : am_cks 58 15 = true := by decide +kernel
theorem am_k7 : am_cks 73 8 = true := by decide +kernel
theorem am_k8 : am_cks 81 19 = true := by decide +kernel
theorem am_k9 : am_cks 100 8 = true := by decide +kernel
theorem am_k10 : am_cks 108 7 = true := by decide +kernel
theorem am_k11 : am_cks 115 7 = true := by decide +kernel
theorem am_k12 : am_cks 122 7 = true := by decide +kernel
theorem am_k13 : am_cks 129 10 = true := by decide +kernel
theorem am_k14 : am_cks 139 35 = true := by decide +kernel
theorem am_k15 : am_cks 174 7 = true := by decide +kernel
theorem am_k17 : am_cks 182 2 = true := by decide +kernel
theorem am_k18 : am_cks 184 2 = true := by decide +kernel
theorem am_k19 : am_cks 186 1 = true := by decide +kernel
theorem am_k20 : am_cks 187 1 = true := by decide +kernel
theorem am_k21 : am_cks 188 1 = true := by decide +kernel
theorem am_k22 : am_cks 189 19 = true := by decide +kernel
theorem am_k23 : am_cks 208 9 = true := by decide +kernel
theorem am_kl0 : am_ckr 181 0 100 = true := by decide +kernel
theorem am_kl100 : am_ckr 181 100 100 = true := by decide +kernel
theorem am_kl200 : am_ckr 181 200 100 = true := by decide +kernel
theorem am_kl300 : am_ckr 181 300 100 = true := by decide +kernel
theorem am_kl400 : am_ckr 181 400 47 = true := by decide +kernel
theorem am_cks_at {lo n : Nat} (h : am_cks lo n = true) {y pc : Nat} (h1 : lo ≤ y) (h2 : y < lo + n) (h3 : pc < am_sz y) : am_ck1 y pc = true := by
  have a := List.all_eq_true.mp h (y - lo) (List.mem_range.mpr (by omega))
  rw [show lo + (y - lo) = y by omega] at a
  have b := List.all_eq_true.mp a pc (List.mem_range.mpr h3)
  rwa [Nat.zero_add] at b
theorem am_ckr_at {y lo n pc : Nat} (h : am_ckr y lo n = true) (h1 : lo ≤ pc) (h2 : pc < lo + n) : am_ck1 y pc = true := by
  have b := List.all_eq_true.mp h (pc - lo) (List.mem_range.mpr (by omega))
  rwa [show lo + (pc - lo) = pc by omega] at b
theorem am_sz_law : am_sz 181 = 447 := by decide +kernel
theorem am_ck_law {pc : Nat} (h : pc < 447) : am_ck1 181 pc = true := by
  rcases Nat.lt_or_ge pc 100 with q | q
  · exact am_ckr_at am_kl0 (by omega) (by omega)
  rcases Nat.lt_or_ge pc 200 with q | q
  · exact am_ckr_at am_kl100 (by omega) (by omega)
  rcases Nat.lt_or_ge pc 300 with q | q
  · exact am_ckr_at am_kl200 (by omega) (by omega)
  rcases Nat.lt_or_ge pc 400 with q | q
  · exact am_ckr_at am_kl300 (by omega) (by omega)
  exact am_ckr_at am_kl400 (by omega) (by omega)
theorem am_ck_all {y pc : Nat} (hy : y < 217) (hp : pc < am_sz y) : am_ck1 y pc = true := by
  rcases Nat.lt_or_ge y 10 with q0 | q0
  · exact am_cks_at am_k0 (by omega) (by omega) hp
  rcases Nat.lt_or_ge y 16 with q1 | q1
  · exact am_cks_at am_k1 (by omega) (by omega) hp
  rcases Nat.lt_or_ge y 21 with q2 | q2
  · exact am_cks_at am_k2 (by omega) (by omega) hp
  rcases Nat.lt_or_ge y 28 with q3 | q3
  · exact am_cks_at am_k3 (by omega) (by omega) hp
  rcases Nat.lt_or_ge y 36 with q4 | q4
  · exact am_cks_at am_k4 (by omega) (by omega) hp
  rcases Nat.lt_or_ge y 58 with q5 | q5
  · exact am_cks_at am_k5 (by omega) (by omega) hp
  rcases Nat.lt_or_ge y 73 with q6 | q6
  · exact am_cks_at am_k6 (by omega) (by omega) hp
  rcases Nat.lt_or_ge y 81 with q7 | q7
  · exact am_cks_at am_k7 (by omega) (by omega) hp
  rcases Nat.lt_or_ge y 100 with q8 | q8
  · exact am_cks_at am_k8 (by omega) (by omega) hp
  rcases Nat.lt_or_ge y 108 with q9 | q9
  · exact am_cks_at am_k9 (by omega) (by omega) hp
  rcases Nat.lt_or_ge y 115 with q10 | q10
  · exact am_cks_at am_k10 (by omega) (by omega) hp
  rcases Nat.lt_or_ge y 122 with q11 | q11
  · exact am_cks_at am_k11 (by omega) (by omega) hp
  rcases Nat.lt_or_ge y 129 with q12 | q12
  · exact am_cks_at am_k12 (by omega) (by omega) hp
  rcases Nat.lt_or_ge y 139 with q13 | q13
  · exact am_cks_at am_k13 (by omega) (by omega) hp
  rcases Nat.lt_or_ge y 174 with q14 | q14
  · exact am_cks_at am_k14 (by omega) (by omega) hp
  rcases Nat.lt_or_ge y 181 with q15 | q15
  · exact am_cks_at am_k15 (by omega) (by omega) hp
  rcases Nat.lt_or_ge y 182 with q16 | q16
  · have e : y = 181 := by omega
    subst e
    exact am_ck_law (by rw [← am_sz_law]; exact hp)
  rcases Nat.lt_or_ge y 184 with q17 | q17
  · exact am_cks_at am_k17 (by omega) (by omega) hp
  rcases Nat.lt_or_ge y 186 with q18 | q18
  · exact am_cks_at am_k18 (by omega) (by omega) hp
  rcases Nat.lt_or_ge y 187 with q19 | q19
  · exact am_cks_at am_k19 (by omega) (by omega) hp
  rcases Nat.lt_or_ge y 188 with q20 | q20
  · exact am_cks_at am_k20 (by omega) (by omega) hp
  rcases Nat.lt_or_ge y 189 with q21 | q21
  · exact am_cks_at am_k21 (by omega) (by omega) hp
  rcases Nat.lt_or_ge y 208 with q22 | q22
  · exact am_cks_at am_k22 (by omega) (by omega) hp
  exact am_cks_at am_k23 (by omega) (by omega) hp
theorem am_pr_lt {y pc : Nat} {q : Instr × Nat × Nat} (h : am_pr y pc = some q) : y < 217 ∧ pc < am_sz y := by
  unfold am_pr at h
  cases hc : (Nat.ble 217 y || Nat.ble (am_sz y) pc) with
  | true => rw [hc] at h; exact absurd h (by simp)
  | false =>
    rw [Bool.or_eq_false_iff] at hc
    exact ⟨Nat.lt_of_not_le fun q => by rw [Nat.ble_eq_true_of_le q] at hc; exact absurd hc.1 (by simp), Nat.lt_of_not_le fun q => by rw [Nat.ble_eq_true_of_le q] at hc; exact absurd hc.2 (by simp)⟩
theorem am_pr_ok {y pc nx tg : Nat} {i : Instr} (h : am_pr y pc = some (i, nx, tg)) : decode (am_b y) pc = .ok (i, nx - pc) ∧ am_ok1 i pc nx tg = true := by
  have k := am_ck_all (am_pr_lt h).1 (am_pr_lt h).2
  unfold am_ck1 at k
  rw [h] at k
  simpa using k
