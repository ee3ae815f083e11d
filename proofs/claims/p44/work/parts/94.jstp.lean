/-! pieces of the JDK's code: one lemma an instruction -/
theorem am_add_mk {r : am_T} {k s : Nat} {o : am_O} {X : am_M} {k' s' : Nat} (h : r = some (o, X, k', s')) : am_add r k s = some (o, X, k + k', s + s') := by
  subst h
  rfl
/-- something is made -/
theorem am_vn {y pc nx tg n : Nat} {i : Instr} {L : am_L} {st st' : List Value} {M M' : am_M} (hp : am_pr y pc = some (i, nx, tg)) (hs : am_stp y i pc nx tg L st M = none) (he : am_end y i pc st M = none) (hn : am_new y i st M = some (st', M', n)) : am_val y pc L st M = am_add (am_val y nx L st' M') 1 n := by
  refine am_val_iff (fun r h => ?_) (fun r h => ?_)
  · obtain ⟨k', s', g1, g2, g3⟩ := am_add_some h
    obtain ⟨f, d, h9⟩ := am_val_gets g1
    refine ⟨f + 1, d, ?_⟩
    simp only [am_run, hp, hs, he, hn]
    rw [am_add_mk h9, ← h, am_add_mk g1]
  · obtain ⟨f, d, h⟩ := h
    cases f with
    | zero => simp [am_run] at h
    | succ f =>
      simp only [am_run, hp, hs, he, hn] at h
      obtain ⟨k', s', g1, g2, g3⟩ := am_add_some h
      rw [← h, am_add_mk g1, am_add_mk (am_val_of ⟨f, d, g1⟩)]
theorem am_v_new {y pc nx tg k ci : Nat} {L : am_L} {st : List Value} {M : am_M} (hp : am_pr y pc = some (.new k, nx, tg)) (he : am_tw y pc = none) (hc : am_pc (am_cl y) k = some ci) : am_val y pc L st M = am_add (am_val y nx L (.ref (am_c M.2.2.2.2.1 ci) :: st) (am_mk ci M)) 1 (am_nf ci) :=
  am_vn hp rfl (by simp only [am_end, he]) (by simp only [am_new, hc]; rfl)
theorem am_v_nar {y pc nx tg k n : Nat} {x : Int32} {L : am_L} {st : List Value} {M : am_M} (hp : am_pr y pc = some (.newarray .byte, nx, tg)) (hx : ¬ x < 0) (hn : x.toNatClampNeg = n) (hk : am_nkb 6 n = some k) : am_val y pc L (.int x :: st) M = am_add (am_val y nx L (.ref (am_c M.2.2.2.2.1 k) :: st) (am_mk k M)) 1 n := by
  refine am_vn hp rfl rfl ?_
  simp only [am_new, am_i1, if_neg hx, hn]
  show (match am_nkb 6 n with
    | some k => some (Value.ref (64 * M.2.2.2.2.1 + k) :: st, am_mk k M, n)
    | none => none) = _
  rw [hk]
  rfl
theorem am_v_g450 {y pc nx tg k i : Nat} {fin : Bool} {L : am_L} {st : List Value} {M : am_M} (hp : am_pr y pc = some (.getfield k, nx, tg)) (hf : am_pf (am_cl y) k = some (13, 0, 2, fin)) : am_val y pc L (.ref (am_c i 45) :: st) M = am_val y nx L (.ref (am_c i 46) :: st) M :=
  am_vs hp (by simp only [am_stp, am_a1, am_gf, hf, am_c_mod (show (45 : Nat) < 64 by decide), am_nbt rfl, am_nbf (show (45 : Nat) ≠ 13 by decide), Bool.and_self, cond_true, cond_false]; rfl)
theorem am_v_g451 {y pc nx tg k i : Nat} {fin : Bool} {L : am_L} {st : List Value} {M : am_M} (hp : am_pr y pc = some (.getfield k, nx, tg)) (hf : am_pf (am_cl y) k = some (13, 1, 3, fin)) : am_val y pc L (.ref (am_c i 45) :: st) M = am_val y nx L (.int 0 :: st) M :=
  am_vs hp (by simp only [am_stp, am_a1, am_gf, hf, am_c_mod (show (45 : Nat) < 64 by decide), am_nbt rfl, am_nbf (show (45 : Nat) ≠ 13 by decide), Bool.and_self, cond_true, cond_false])
theorem am_v_len46 {y pc nx tg i : Nat} {L : am_L} {st : List Value} {M : am_M} (hp : am_pr y pc = some (.arraylength, nx, tg)) : am_val y pc L (.ref (am_c i 46) :: st) M = am_val y nx L (.int (Int32.ofNat (am_sn i)) :: st) M :=
  am_vs hp (by simp only [am_stp, am_a1, am_c_mod (show (46 : Nat) < 64 by decide), am_c_div (show (46 : Nat) < 64 by decide), am_nbt rfl, am_nbf (show (46 : Nat) ≠ 44 by decide), am_nbf (show (46 : Nat) ≠ 42 by decide), cond_true, cond_false])
theorem am_v_bal46 {m y pc nx tg i : Nat} {j : Int32} {L : am_L} {st : List Value} {M : am_M} (hp : am_pr y pc = some (.baload, nx, tg)) (h : am_in j (am_sn i) = true) (hj : j.toNatClampNeg = m) : am_val y pc L (.int j :: .ref (am_c i 46) :: st) M = am_val y nx L (.int (Int32.ofNat (am_sb i m)) :: st) M := by
  subst hj
  exact am_vs hp (by simp only [am_stp, am_ia, h, am_c_mod (show (46 : Nat) < 64 by decide), am_c_div (show (46 : Nat) < 64 by decide), am_nbt rfl, cond_true])
theorem am_v_bal {m y pc nx tg a k n : Nat} {j : Int32} {L : am_L} {st : List Value} {M : am_M} (hp : am_pr y pc = some (.baload, nx, tg)) (ha : a % 64 = k) (hk : am_ak k = some (6, n)) (h : am_in j n = true) (hj : j.toNatClampNeg = m) : am_val y pc L (.int j :: .ref a :: st) M = am_val y nx L (.int (M.1 a m) :: st) M := by
  subst hj
  have hlt := am_ak_lt hk
  exact am_vs hp (by simp only [am_stp, am_ia, ha, hk, h, am_nbf (show k ≠ 46 by omega), am_nbt rfl, Bool.and_self, cond_true, cond_false])
theorem am_v_bas {m y pc nx tg a k n : Nat} {j x : Int32} {L : am_L} {st : List Value} {M : am_M} (hp : am_pr y pc = some (.bastore, nx, tg)) (ha : a % 64 = k) (hk : am_ak k = some (6, n)) (h : am_in j n = true) (h2 : x.toInt8.toInt32 = x) (hj : j.toNatClampNeg = m) : am_val y pc L (.int x :: .int j :: .ref a :: st) M = am_val y nx L st (av_i M a m x) := by
  subst hj
  exact am_vs hp (by simp only [am_stp, ha, hk, h, am_nbt rfl, Bool.and_self, cond_true, if_pos h2]; rfl)
theorem am_v_pf3 {y pc nx tg k a ci j : Nat} {fin : Bool} {x : Int32} {L : am_L} {st : List Value} {M : am_M} (hp : am_pr y pc = some (.putfield k, nx, tg)) (hf : am_pf (am_cl y) k = some (ci, j, 3, fin)) (ha : a % 64 = ci) (hy : (!fin || (am_ini y && Nat.beq ci (am_cl y))) = true) (h : x.toInt8.toInt32 = x) : am_val y pc L (.int x :: .ref a :: st) M = am_val y nx L st (av_i M a j x) :=
  am_vs hp (by simp only [am_stp, am_sf, hf, ha, hy, am_nbt rfl, Bool.and_self, cond_true, decide_eq_true h]; rfl)
theorem am_v_pfrf {y pc nx tg k a b ci j : Nat} {fin : Bool} {L : am_L} {st : List Value} {M : am_M} (hp : am_pr y pc = some (.putfield k, nx, tg)) (hf : am_pf (am_cl y) k = some (ci, j, 2, fin)) (ha : a % 64 = ci) (hy : (!fin || (am_ini y && Nat.beq ci (am_cl y))) = true) : am_val y pc L (.ref b :: .ref a :: st) M = am_val y nx L st (av_r M a j (b + 1)) :=
  am_vs hp (by simp only [am_stp, am_sf, hf, ha, hy, am_nbt rfl, Bool.and_self, cond_true]; rfl)
/-- a copy of bytes -/
def av_b (M : am_M) (f : Nat → Int32) (b sp dp n : Nat) : am_M := (am_cps M.1 f b sp dp n, M.2)
theorem am_v_cp46 {y pc nx tg k i b q nb : Nat} {sp dp n : Int32} {L : am_L} {st : List Value} {M : am_M} (hp : am_pr y pc = some (.invokestatic k, nx, tg)) (hj : am_pj (am_cl y) k = 4) (hb : b % 64 = q) (hk : am_ak q = some (6, nb)) (h0 : ¬ sp < 0) (h1 : ¬ dp < 0) (h2 : ¬ n < 0) (h3 : sp.toNatClampNeg + n.toNatClampNeg ≤ am_sn i) (h4 : dp.toNatClampNeg + n.toNatClampNeg ≤ nb) (hs : Nat.ble (st.map Value.category).sum 8 = true) :
    am_val y pc L (.int n :: .int dp :: .ref b :: .int sp :: .ref (am_c i 46) :: st) M = am_val y nx L st (av_b M (fun k => Int32.ofNat (am_sb i k)) b sp.toNatClampNeg dp.toNatClampNeg n.toNatClampNeg) := by
  refine am_vs hp ?_
  simp only [am_stp, hj, am_nbt rfl, cond_true, am_c_mod (show (46 : Nat) < 64 by decide), am_c_div (show (46 : Nat) < 64 by decide), hb, hk, decide_eq_true h0, decide_eq_true h1, decide_eq_true h2, Nat.ble_eq_true_of_le h3, Nat.ble_eq_true_of_le h4, hs, Bool.and_self]
  rfl
theorem am_v_cpb {y pc nx tg k a b qa qb na nb : Nat} {sp dp n : Int32} {L : am_L} {st : List Value} {M : am_M} (hp : am_pr y pc = some (.invokestatic k, nx, tg)) (hj : am_pj (am_cl y) k = 4) (ha : a % 64 = qa) (hka : am_ak qa = some (6, na)) (hb : b % 64 = qb) (hk : am_ak qb = some (6, nb)) (h0 : ¬ sp < 0) (h1 : ¬ dp < 0) (h2 : ¬ n < 0) (h3 : sp.toNatClampNeg + n.toNatClampNeg ≤ na) (h4 : dp.toNatClampNeg + n.toNatClampNeg ≤ nb) (h5 : ∀ k, k < n.toNatClampNeg → (M.1 a (sp.toNatClampNeg + k)).toInt8.toInt32 = M.1 a (sp.toNatClampNeg + k)) (hs : Nat.ble (st.map Value.category).sum 8 = true) :
    am_val y pc L (.int n :: .int dp :: .ref b :: .int sp :: .ref a :: st) M = am_val y nx L st (am_cpy M.1 a b sp.toNatClampNeg dp.toNatClampNeg n.toNatClampNeg, M.2) := by
  refine am_vs hp ?_
  have hlt := am_ak_lt hka
  simp only [am_stp, hj, am_nbt rfl, cond_true, cond_false, ha, hka, hb, hk, am_nbf (show qa ≠ 46 by omega), decide_eq_true h0, decide_eq_true h1, decide_eq_true h2, Nat.ble_eq_true_of_le h3, Nat.ble_eq_true_of_le h4, hs, Bool.and_self, Bool.or_true]
  rw [if_pos (Or.inr h5)]
theorem am_v_obj {y pc nx tg k a : Nat} {L : am_L} {st : List Value} {M : am_M} (hp : am_pr y pc = some (.invokespecial k, nx, tg)) (hj : am_pj (am_cl y) k = 5) (hs : Nat.ble (st.map Value.category).sum 8 = true) : am_val y pc L (.ref a :: st) M = am_val y nx L st M :=
  am_vs hp (by simp only [am_stp, am_a1, hj, hs, am_nbt rfl, Bool.and_self, cond_true])
theorem am_v_min {y pc nx tg k : Nat} {a b : Int32} {L : am_L} {st : List Value} {M : am_M} (hp : am_pr y pc = some (.invokestatic k, nx, tg)) (hj : am_pj (am_cl y) k = 8) (hs : Nat.ble (st.map Value.category).sum 8 = true) : am_val y pc L (.int b :: .int a :: st) M = am_val y nx L (.int (if b < a then b else a) :: st) M :=
  am_vs hp (by simp only [am_stp, am_i2, hj, hs, am_nbt rfl, am_nbf (show (8 : Nat) ≠ 4 by decide), am_nbf (show (8 : Nat) ≠ 6 by decide), am_nbf (show (8 : Nat) ≠ 7 by decide), cond_true, cond_false])
theorem am_v_cix {y pc nx tg k : Nat} {a b : Int32} {L : am_L} {st : List Value} {M : am_M} (hp : am_pr y pc = some (.invokestatic k, nx, tg)) (hj : am_pj (am_cl y) k = 10) (h0 : ¬ a < 0) (h1 : a < b) (hs : Nat.ble (st.map Value.category).sum 8 = true) : am_val y pc L (.int b :: .int a :: st) M = am_val y nx L st M :=
  am_vs hp (by simp only [am_stp, am_i2, hj, hs, decide_eq_true h0, decide_eq_true h1, am_nbt rfl, am_nbf (show (10 : Nat) ≠ 4 by decide), am_nbf (show (10 : Nat) ≠ 6 by decide), am_nbf (show (10 : Nat) ≠ 7 by decide), am_nbf (show (10 : Nat) ≠ 8 by decide), am_nbf (show (10 : Nat) ≠ 9 by decide), Bool.and_self, cond_true, cond_false])
/-- calls -/
theorem am_v_cvg {na y pc nx tg k z mo a : Nat} {L E : am_L} {st rest : List Value} {M : am_M} (hp : am_pr y pc = some (.invokevirtual k, nx, tg)) (hs : am_stp y (.invokevirtual k) pc nx tg L st M = none) (hm : am_pm (am_cl y) k = some (z, mo)) (hd : st.drop (am_na z) = .ref a :: rest)
    (hq : ((Nat.beq mo 0 && (Nat.beq (a % 64) (am_cl z) || (Nat.beq (am_cl z) 13 && Nat.beq (a % 64) 45))) || (Nat.beq mo 7 && Nat.beq (a % 64) 15)) = true)
    (hk : (Nat.ble (rest.map Value.category).sum 8 && (Value.ref a :: (st.take (am_na z)).reverse).all (fun v => Nat.beq v.category 1) && Nat.ble (Value.ref a :: (st.take (am_na z)).reverse).length (am_ml z)) = true) (he : am_ent z (.ref a :: (st.take (am_na z)).reverse) = E) :
    am_val y pc L st M = am_bnx (am_val z 0 E [] M) (fun v M1 => am_val y nx L (am_tl v rest) M1) (am_hx y pc mo L) := by
  subst he
  exact am_vc hp hs rfl rfl (by simp only [am_call, hm, hd, hq, cond_true]) hk
theorem am_v_c3 {y pc nx tg k z m a : Nat} {L E : am_L} {st rest : List Value} {M : am_M} (hp : am_pr y pc = some (.invokespecial k, nx, tg)) (hs : am_stp y (.invokespecial k) pc nx tg L st M = none) (hm : am_pm (am_cl y) k = some (z, m)) (hmm : (Nat.beq m 3 || Nat.beq m 4) = true) (hd : st.drop (am_na z) = .ref a :: rest)
    (hk : (Nat.ble (rest.map Value.category).sum 8 && (Value.ref a :: (st.take (am_na z)).reverse).all (fun v => Nat.beq v.category 1) && Nat.ble (Value.ref a :: (st.take (am_na z)).reverse).length (am_ml z)) = true) (he : am_ent z (.ref a :: (st.take (am_na z)).reverse) = E) :
    am_val y pc L st M = am_bnx (am_val z 0 E [] M) (fun v M1 => am_val y nx L (am_tl v rest) M1) (am_hx y pc m L) := by
  subst he
  exact am_vc hp hs rfl rfl (by simp only [am_call, hm, hmm, hd, cond_true]) hk
theorem am_v_c6 {y pc nx tg k z a : Nat} {L E : am_L} {st rest : List Value} {M : am_M} (hp : am_pr y pc = some (.invokespecial k, nx, tg)) (hs : am_stp y (.invokespecial k) pc nx tg L st M = none) (hm : am_pm (am_cl y) k = some (z, 6)) (hd : st.drop (am_na z) = .ref a :: rest) (ha : a % 64 = 15)
    (hk : (Nat.ble (rest.map Value.category).sum 8 && (Value.ref a :: (st.take (am_na z)).reverse).all (fun v => Nat.beq v.category 1) && Nat.ble (Value.ref a :: (st.take (am_na z)).reverse).length (am_ml z)) = true) (he : am_ent z (.ref a :: (st.take (am_na z)).reverse) = E) :
    am_val y pc L st M = am_bnx (am_val z 0 E [] M) (fun v M1 => am_val y nx L (am_tl v rest) M1) (am_hx y pc 6 L) := by
  subst he
  exact am_vc hp hs rfl rfl (by simp only [am_call, hm, hd, ha, am_nbt rfl, am_nbf (show (6 : Nat) ≠ 3 by decide), am_nbf (show (6 : Nat) ≠ 4 by decide), Bool.or_self, cond_true, cond_false]) hk
theorem am_s_len {y pc nx tg k a : Nat} {L : am_L} {st : List Value} {M : am_M} (ha : Nat.beq (a % 64) 41 = false) (hj : Nat.beq (am_pj (am_cl y) k) 1 = false) (hj3 : Nat.beq (am_pj (am_cl y) k) 3 = false) : am_stp y (.invokevirtual k) pc nx tg L (.ref a :: st) M = none := by
  simp only [am_stp, am_a1, am_ia, ha, hj, hj3, Bool.false_and, cond_false]
  cases Nat.beq (am_pj (am_cl y) k) 2 <;> rfl
theorem am_s_chr {y pc nx tg k a : Nat} {j : Int32} {L : am_L} {st : List Value} {M : am_M} (ha : Nat.beq (a % 64) 41 = false) (hj : Nat.beq (am_pj (am_cl y) k) 1 = false) (hj2 : Nat.beq (am_pj (am_cl y) k) 2 = false) : am_stp y (.invokevirtual k) pc nx tg L (.int j :: .ref a :: st) M = none := by
  simp only [am_stp, am_a1, am_ia, ha, hj, hj2, Bool.false_and, cond_false]
  cases Nat.beq (am_pj (am_cl y) k) 3 <;> rfl
theorem am_v_retB {y pc nx tg : Nat} {x : Int32} {L : am_L} {M : am_M} (hp : am_pr y pc = some (.ireturn, nx, tg)) (hr : am_rt y = some .byte) (h : x.toInt8.toInt32 = x) : am_val y pc L [.int x] M = some (.inl (some (.int x)), M, 0, 0) :=
  am_ve hp rfl (by simp only [am_end, hr, am_retI, decide_eq_true h, cond_true])
