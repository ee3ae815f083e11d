/-! constructors do not read the script -/
def am_th (Lx : Nat) (xs : Nat → Int32) (M : am_M) : am_M := (M.1, M.2.1, M.2.2.1, M.2.2.2.1, M.2.2.2.2.1, Lx, xs)
def am_okA (i : Instr) : Bool := match i with
  | .aload_n _ => true
  | .invokespecial _ => true
  | .new _ => true
  | .dup => true
  | .putfield _ => true
  | .bipush _ => true
  | .sipush _ => true
  | .anewarray _ => true
  | .newarray _ => true
  | .iconst _ => true
  | .istore_n _ => true
  | .iload_n _ => true
  | .if_icmp _ _ => true
  | .getfield _ => true
  | .aastore => true
  | .iastore => true
  | .iinc _ _ => true
  | .goto _ => true
  | .return_ => true
  | .imul => true
  | .iadd => true
  | .getstatic _ => true
  | _ => false
/-- the constructors of the class' side -/
def am_in1 (y : Nat) : Bool := am_ini y && Nat.blt (am_cl y) 13
theorem am_okA_ck : ((List.range 217).all fun y => !am_in1 y || ((List.range (am_sz y)).all fun pc => match am_pr y pc with
    | some (.invokespecial k, _, _) => (match am_pm (am_cl y) k with
      | some (z, m) => am_in1 z && (Nat.beq m 3 || Nat.beq m 4)
      | none => true)
    | some (i, _, _) => am_okA i
    | none => true)) = true := by decide +kernel
theorem am_okA_of {y pc nx tg : Nat} {i : Instr} (hy : am_in1 y = true) (hp : am_pr y pc = some (i, nx, tg)) : am_okA i = true ∧ ∀ st z mo As rest, am_call y i st = some (z, mo, As, rest) → am_in1 z = true ∧ (Nat.beq mo 2 || Nat.beq mo 3 || Nat.beq mo 4 || Nat.ble 6 mo) = true := by
  have h := List.all_eq_true.mp am_okA_ck y (List.mem_range.mpr (am_pr_lt hp).1)
  rw [hy] at h
  have h := List.all_eq_true.mp (show ((List.range (am_sz y)).all fun pc => match am_pr y pc with
    | some (.invokespecial k, _, _) => (match am_pm (am_cl y) k with
      | some (z, m) => am_in1 z && (Nat.beq m 3 || Nat.beq m 4)
      | none => true)
    | some (i, _, _) => am_okA i
    | none => true) = true from h) pc (List.mem_range.mpr (am_pr_lt hp).2)
  rw [hp] at h
  cases i with
  | invokespecial k =>
    refine ⟨rfl, fun st z mo As rest hc => ?_⟩
    cases hm : am_pm (am_cl y) k with
    | none => simp [am_call, hm] at hc
    | some q =>
      obtain ⟨z', m⟩ := q
      simp only [hm] at h
      cases hb : (Nat.beq m 3 || Nat.beq m 4) with
      | false =>
        rw [hb, Bool.and_false] at h
        cases h
      | true =>
        rw [hb, Bool.and_true] at h
        simp only [am_call, hm, hb, cond_true] at hc
        split at hc
        · cases hc
          refine ⟨h, ?_⟩
          rw [Bool.or_assoc (Nat.beq mo 2), hb, Bool.or_true, Bool.true_or]
        · cases hc
  | invokevirtual k => exact absurd (show false = true from h) (by decide)
  | invokestatic k => exact absurd (show false = true from h) (by decide)
  | _ => exact ⟨h, fun st z mo As rest hc => absurd (show (none : Option (Nat × Nat × List Value × List Value)) = some _ from hc) (by simp)⟩
def am_thc (Lx : Nat) (xs : Nat → Int32) (c : am_C) : am_C := (c.1, c.2.1, c.2.2.1, am_th Lx xs c.2.2.2)
theorem am_th_sf {Lx : Nat} {xs : Nat → Int32} {y c k a : Nat} {v : Value} {M : am_M} : am_sf y c k a v (am_th Lx xs M) = (am_sf y c k a v M).map (am_th Lx xs) := by
  unfold am_sf
  cases am_pf c k with
  | none => rfl
  | some q =>
    obtain ⟨ci, j, t, fin⟩ := q
    show (bif (Nat.beq (a % 64) ci && (!fin || (am_ini y && Nat.beq ci (am_cl y)))) then _ else _) = Option.map _ (bif (Nat.beq (a % 64) ci && (!fin || (am_ini y && Nat.beq ci (am_cl y)))) then _ else _)
    cases (Nat.beq (a % 64) ci && (!fin || (am_ini y && Nat.beq ci (am_cl y)))) with
    | false => rfl
    | true =>
      rcases t with _ | _ | _ | t
      · cases v <;> rfl
      · cases v with
        | int x =>
          show (bif (decide (x = 0) || decide (x = 1)) then _ else _) = Option.map _ (bif (decide (x = 0) || decide (x = 1)) then _ else _)
          cases (decide (x = 0) || decide (x = 1)) <;> rfl
        | _ => rfl
      · cases v <;> rfl
      · rcases t with _ | t
        · cases v with
          | int x =>
            show (bif decide (x.toInt8.toInt32 = x) then _ else _) = Option.map _ (bif decide (x.toInt8.toInt32 = x) then _ else _)
            cases decide (x.toInt8.toInt32 = x) <;> rfl
          | _ => rfl
        · cases v <;> rfl
theorem am_th_pf {Lx : Nat} {xs : Nat → Int32} {y pc nx tg k : Nat} {L : am_L} {st : List Value} {M : am_M} : am_stp y (.putfield k) pc nx tg L st (am_th Lx xs M) = (am_stp y (.putfield k) pc nx tg L st M).map (am_thc Lx xs) := by
  cases st with
  | nil => rfl
  | cons v st =>
    cases st with
    | nil => rfl
    | cons w st =>
      cases w with
      | ref a =>
        show (match am_sf y (am_cl y) k a v (am_th Lx xs M) with
          | some M' => some (nx, L, st, M')
          | none => none) = Option.map _ (match am_sf y (am_cl y) k a v M with
          | some M' => some (nx, L, st, M')
          | none => none)
        rw [am_th_sf]
        cases am_sf y (am_cl y) k a v M <;> rfl
      | _ => rfl
theorem am_th_stp {Lx : Nat} {xs : Nat → Int32} {y pc nx tg : Nat} {i : Instr} {L : am_L} {st : List Value} {M : am_M} (hi : am_okA i = true) : am_stp y i pc nx tg L st (am_th Lx xs M) = (am_stp y i pc nx tg L st M).map (am_thc Lx xs) := by
  cases i <;> first | (exact absurd (show false = true from hi) (by decide)) | exact am_th_pf | skip
  all_goals simp only [am_stp, am_i1, am_i2, am_a1, am_ia, am_of, am_sf, am_gf, Bool.cond_eq_ite]
  all_goals (repeat' split)
  all_goals first | rfl | simp_all [am_thc, am_th]
theorem am_th_end {Lx : Nat} {xs : Nat → Int32} {y pc : Nat} {i : Instr} {st : List Value} {M : am_M} (hi : am_okA i = true) : am_end y i pc st (am_th Lx xs M) = (am_end y i pc st M).map (fun r => (r.1, am_th Lx xs r.2.1, r.2.2)) := by
  cases i <;> first | (exact absurd (show false = true from hi) (by decide)) | rfl | skip
  all_goals simp only [am_end, Bool.cond_eq_ite]
  all_goals (repeat' split)
  all_goals first | rfl | simp_all [am_th]
theorem am_th_new {Lx : Nat} {xs : Nat → Int32} {y : Nat} {i : Instr} {st : List Value} {M : am_M} (hi : am_okA i = true) : am_new y i st (am_th Lx xs M) = (am_new y i st M).map (fun r => (r.1, am_th Lx xs r.2.1, r.2.2)) := by
  cases i <;> first | (exact absurd (show false = true from hi) (by decide)) | rfl | skip
  all_goals simp only [am_new, am_i1, Bool.cond_eq_ite]
  all_goals (repeat' split)
  all_goals first | rfl | simp_all [am_th, am_mk]
theorem am_th_run {Lx : Nat} {xs : Nat → Int32} : ∀ (f d y pc : Nat) (L : am_L) (st : List Value) (M : am_M) (r : am_O × am_M × Nat × Nat), am_in1 y = true → am_run f d y pc L st M = some r → am_run f d y pc L st (am_th Lx xs M) = some (r.1, am_th Lx xs r.2.1, r.2.2) := by
  intro f
  induction f with
  | zero => intro d y pc L st M r hy h; simp [am_run] at h
  | succ f ih =>
    intro d y pc L st M r hy h
    cases hp : am_pr y pc with
    | none => simp [am_run, hp] at h
    | some q =>
      obtain ⟨i, nx, tg⟩ := q
      obtain ⟨ha, hc⟩ := am_okA_of hy hp
      have t1 := am_th_stp (Lx := Lx) (xs := xs) (y := y) (pc := pc) (nx := nx) (tg := tg) (L := L) (st := st) (M := M) ha
      have t2 := am_th_end (Lx := Lx) (xs := xs) (y := y) (pc := pc) (st := st) (M := M) ha
      have t3 := am_th_new (Lx := Lx) (xs := xs) (y := y) (st := st) (M := M) ha
      cases hs : am_stp y i pc nx tg L st M with
      | some c =>
        obtain ⟨pc', L', st', M'⟩ := c
        rw [hs] at t1
        have t1 : am_stp y i pc nx tg L st (am_th Lx xs M) = some (pc', L', st', am_th Lx xs M') := t1
        simp only [am_run, hp, hs] at h
        simp only [am_run, hp, t1]
        exact ih _ _ _ _ _ _ _ hy h
      | none =>
        rw [hs] at t1
        have t1 : am_stp y i pc nx tg L st (am_th Lx xs M) = none := t1
        cases he : am_end y i pc st M with
        | some r' =>
          rw [he] at t2
          have t2 : am_end y i pc st (am_th Lx xs M) = some (r'.1, am_th Lx xs r'.2.1, r'.2.2) := t2
          simp only [am_run, hp, hs, he] at h
          simp only [am_run, hp, t1, t2]
          cases h
          rfl
        | none =>
          rw [he] at t2
          have t2 : am_end y i pc st (am_th Lx xs M) = none := t2
          cases hn : am_new y i st M with
          | some q =>
            obtain ⟨st', M', n⟩ := q
            rw [hn] at t3
            have t3 : am_new y i st (am_th Lx xs M) = some (st', am_th Lx xs M', n) := t3
            simp only [am_run, hp, hs, he, hn] at h
            simp only [am_run, hp, t1, t2, t3]
            cases hr : am_run f d y nx L st' M' with
            | none => rw [hr] at h; cases h
            | some r1 =>
              rw [hr] at h
              rw [ih _ _ _ _ _ _ _ hy hr]
              cases h
              rfl
          | none =>
            rw [hn] at t3
            have t3 : am_new y i st (am_th Lx xs M) = none := t3
            cases d with
            | zero => simp only [am_run, hp, hs, he, hn] at h; cases h
            | succ d =>
              cases hk : am_call y i st with
              | none => simp only [am_run, hp, hs, he, hn, hk] at h; cases h
              | some q =>
                obtain ⟨z, mo, As, rest⟩ := q
                obtain ⟨hz, hmo⟩ := hc _ _ _ _ _ hk
                simp only [am_run, hp, hs, he, hn, hk] at h
                simp only [am_run, hp, t1, t2, t3, hk]
                cases hb : (Nat.ble (rest.map Value.category).sum 8 && As.all (fun v => Nat.beq v.category 1) && Nat.ble As.length (am_ml z)) with
                | false => rw [hb] at h; cases h
                | true =>
                  rw [hb, cond_true] at h
                  rw [cond_true]
                  cases hr : am_run f d z 0 (am_ent z As) [] M with
                  | none => rw [hr] at h; cases h
                  | some r1 =>
                    obtain ⟨o, M1, k, s⟩ := r1
                    rw [hr] at h
                    have t := ih _ _ _ _ _ _ _ hz hr
                    have t : am_run f d z 0 (am_ent z As) [] (am_th Lx xs M) = some (o, am_th Lx xs M1, k, s) := t
                    rw [t]
                    cases o with
                    | inl v =>
                      have h : am_add (am_run f (d + 1) y nx L (v.toList ++ rest) M1) k s = some r := h
                      show am_add (am_run f (d + 1) y nx L (v.toList ++ rest) (am_th Lx xs M1)) k s = _
                      cases hr2 : am_run f (d + 1) y nx L (v.toList ++ rest) M1 with
                      | none => rw [hr2] at h; cases h
                      | some r2 =>
                        rw [hr2] at h
                        rw [ih _ _ _ _ _ _ _ hy hr2]
                        cases h
                        rfl
                    | inr e =>
                      simp only [hmo, cond_true] at h
                      cases h
/-! what the constructors leave alone -/
theorem am_kfc : ((List.range 13).all fun c => (List.range 1100).all fun k => match am_pf c k with
    | some (ci, _, _, _) => Nat.blt ci 13
    | none => true) = true := by decide +kernel
theorem am_kfp {c k ci j t : Nat} {fin : Bool} (hc : c < 13) (h : am_pf c k = some (ci, j, t, fin)) : ci < 13 := by
  have hk : k < 1100 := by
    have h2 := h
    unfold am_pf at h2
    exact (am_bnd h2 (by simp)).2.1
  have h1 := List.all_eq_true.mp (List.all_eq_true.mp am_kfc c (List.mem_range.mpr hc)) k (List.mem_range.mpr hk)
  rw [h] at h1
  have h1 : Nat.blt ci 13 = true := h1
  rw [Nat.blt_eq] at h1
  exact h1
theorem am_kf_sf {y c k a q : Nat} {v : Value} {M M' : am_M} (hc : c < 13) (hq : q % 64 = 15 ∨ q % 64 = 18) (h : am_sf y c k a v M = some M') : M'.1 q = M.1 q := by
  unfold am_sf at h
  cases hp : am_pf c k with
  | none => rw [hp] at h; cases h
  | some z =>
    obtain ⟨ci, j, t, fin⟩ := z
    have hci := am_kfp hc hp
    rw [hp] at h
    dsimp only at h
    cases hb : (Nat.beq (a % 64) ci && (!fin || (am_ini y && Nat.beq ci (am_cl y)))) with
    | false => rw [hb] at h; cases h
    | true =>
      rw [hb, cond_true] at h
      have ha : a % 64 = ci := Nat.eq_of_beq_eq_true (Bool.and_eq_true_iff.mp hb).1
      have hne : ¬ q = a := fun e => by
        rw [e] at hq
        omega
      have hup : ∀ x : Int32, am_up M.1 a j x q = M.1 q := fun x => funext fun i => am_up_a hne
      split at h
      · cases h; exact hup _
      · rw [Bool.cond_eq_ite] at h
        split at h
        · cases h; exact hup _
        · cases h
      · rw [Bool.cond_eq_ite] at h
        split at h
        · cases h; exact hup _
        · cases h
      · cases h; rfl
      · cases h; rfl
      · cases h
theorem am_kf_ak {a et n : Nat} (h : am_ak (a % 64) = some (et, n)) (he : Nat.beq et 0 = true) {q : Nat} (hq : q % 64 = 15 ∨ q % 64 = 18) : ¬ q = a := fun e => by
  rw [← e] at h
  rcases hq with hq | hq
  · rw [hq] at h
    cases h
  · rw [hq] at h
    cases h
    cases he
theorem am_kf_stp {y pc nx tg pc' q : Nat} {i : Instr} {L L' : am_L} {st st' : List Value} {M M' : am_M} (hc : am_cl y < 13) (hi : am_okA i = true) (hq : q % 64 = 15 ∨ q % 64 = 18) (h : am_stp y i pc nx tg L st M = some (pc', L', st', M')) : M'.1 q = M.1 q := by
  cases i <;> first | (exact absurd (show false = true from hi) (by decide)) | skip
  case putfield k =>
    simp only [am_stp] at h
    split at h
    · split at h
      · rename_i hs
        cases h
        exact am_kf_sf hc hq hs
      · cases h
    · cases h
  case iastore =>
    simp only [am_stp] at h
    split at h
    · split at h
      · rename_i hk
        rw [Bool.cond_eq_ite] at h
        split at h
        · rename_i hb
          cases h
          have he := (Bool.and_eq_true_iff.mp hb).1
          exact funext fun z => am_up_a (am_kf_ak hk he hq)
        · cases h
      · cases h
    · cases h
  all_goals simp only [am_stp, am_i1, am_i2, am_a1, am_ia, am_of, am_gf, Bool.cond_eq_ite] at h
  all_goals (repeat' split at h)
  all_goals first | (cases h; done) | (cases h; rfl) | (simp_all; done) | (injection h with h; injection h with _ h; injection h with _ h; injection h with _ h; subst h; rfl)
theorem am_kf_end {y pc : Nat} {i : Instr} {st : List Value} {M : am_M} {r : am_O × am_M × Nat × Nat} (hi : am_okA i = true) (h : am_end y i pc st M = some r) : r.2.1 = M := by
  cases i <;> first | (exact absurd (show false = true from hi) (by decide)) | (exact nomatch (show (none : Option (am_O × am_M × Nat × Nat)) = some r from h)) | skip
  all_goals simp only [am_end, Bool.cond_eq_ite] at h
  all_goals (repeat' split at h)
  all_goals first | (cases h; done) | (cases h; rfl)
theorem am_kf_new {y n : Nat} {i : Instr} {st st' : List Value} {M M' : am_M} (h : am_new y i st M = some (st', M', n)) : M'.1 = M.1 := by
  cases i <;> first | (exact nomatch (show (none : Option (List Value × am_M × Nat)) = some (st', M', n) from h)) | skip
  all_goals simp only [am_new, am_i1, Bool.cond_eq_ite] at h
  all_goals (repeat' split at h)
  all_goals first | (cases h; done) | (cases h; rfl)
theorem am_kf_run {q : Nat} (hq : q % 64 = 15 ∨ q % 64 = 18) : ∀ (f d y pc : Nat) (L : am_L) (st : List Value) (M : am_M) (r : am_O × am_M × Nat × Nat), am_in1 y = true → am_run f d y pc L st M = some r → r.2.1.1 q = M.1 q := by
  intro f
  induction f with
  | zero => intro d y pc L st M r hy h; simp [am_run] at h
  | succ f ih =>
    intro d y pc L st M r hy h
    have hcl : am_cl y < 13 := by
      have h2 := (Bool.and_eq_true_iff.mp (show (am_ini y && Nat.blt (am_cl y) 13) = true from hy)).2
      rw [Nat.blt_eq] at h2
      exact h2
    cases hp : am_pr y pc with
    | none => simp [am_run, hp] at h
    | some z =>
      obtain ⟨i, nx, tg⟩ := z
      obtain ⟨ha, hc⟩ := am_okA_of hy hp
      cases hs : am_stp y i pc nx tg L st M with
      | some c =>
        obtain ⟨pc', L', st', M'⟩ := c
        simp only [am_run, hp, hs] at h
        exact (ih _ _ _ _ _ _ _ hy h).trans (am_kf_stp hcl ha hq hs)
      | none =>
        cases he : am_end y i pc st M with
        | some r' =>
          simp only [am_run, hp, hs, he] at h
          cases h
          have t2 := am_kf_end (M := M) ha he
          rw [t2]
        | none =>
          cases hn : am_new y i st M with
          | some z =>
            obtain ⟨st', M', n⟩ := z
            simp only [am_run, hp, hs, he, hn] at h
            cases hr : am_run f d y nx L st' M' with
            | none => rw [hr] at h; cases h
            | some r1 =>
              rw [hr] at h
              have t := ih _ _ _ _ _ _ _ hy hr
              cases h
              show r1.2.1.1 q = _
              rw [t, am_kf_new hn]
          | none =>
            cases d with
            | zero => simp only [am_run, hp, hs, he, hn] at h; cases h
            | succ d =>
              cases hk : am_call y i st with
              | none => simp only [am_run, hp, hs, he, hn, hk] at h; cases h
              | some z =>
                obtain ⟨z, mo, As, rest⟩ := z
                obtain ⟨hz, hmo⟩ := hc _ _ _ _ _ hk
                simp only [am_run, hp, hs, he, hn, hk] at h
                cases hb : (Nat.ble (rest.map Value.category).sum 8 && As.all (fun v => Nat.beq v.category 1) && Nat.ble As.length (am_ml z)) with
                | false => rw [hb] at h; cases h
                | true =>
                  rw [hb, cond_true] at h
                  cases hr : am_run f d z 0 (am_ent z As) [] M with
                  | none => rw [hr] at h; cases h
                  | some r1 =>
                    obtain ⟨o, M1, k, s⟩ := r1
                    rw [hr] at h
                    have t : M1.1 q = M.1 q := ih _ _ _ _ _ _ _ hz hr
                    cases o with
                    | inl v =>
                      have h : am_add (am_run f (d + 1) y nx L (v.toList ++ rest) M1) k s = some r := h
                      cases hr2 : am_run f (d + 1) y nx L (v.toList ++ rest) M1 with
                      | none => rw [hr2] at h; cases h
                      | some r2 =>
                        rw [hr2] at h
                        have t2 := ih _ _ _ _ _ _ _ hy hr2
                        cases h
                        exact t2.trans t
                    | inr e =>
                      simp only [hmo, cond_true] at h
                      cases h
