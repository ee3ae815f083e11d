/-! CALLS, HANDLERS, THE WHOLE RUN -/
/-- what holds where a method begins -/
def am_B (D : va_G) (ca : Nat → ClassId) (B0 : Nat) (E : Nat → Nat) (L0 : Nat) (xs : Nat → Int32) (r ks : Nat → Nat) (M : am_M) (U : State) : Prop := am_Rp D ca B0 E L0 xs r ks M U.heap ∧ am_S E B0 L0 xs U U.heap ∧ am_S2 E U ∧ va_K D am_cls (am_tys ca) U ∧ B0 ≤ U.heap.size
theorem am_B_blind {D : va_G} {ca : Nat → ClassId} {B0 : Nat} {E : Nat → Nat} {L0 : Nat} {xs : Nat → Int32} {r ks : Nat → Nat} {M : am_M} {av : List Value} : FrameBlind (va_Pc av (am_B D ca B0 E L0 xs r ks M)) := fun a U g mk h =>
  ⟨h.1, h.2.1, am_S_moved (u := U) (U := U.calling g mk a) (Vm.Alike.refl U.vm) h.2.2.1, am_S2_same (u := U) (U := U.calling g mk a) rfl h.2.2.2.1, va_K.moved (u := U) (U := U.calling g mk a) (Vm.Alike.refl U.vm) h.2.2.2.2.1, h.2.2.2.2.2⟩
/-- the contract of a method at a run of its own -/
def am_Cn (l : Launch) (d z : Nat) (As : List Value) (M : am_M) (o : am_O) (M1 : am_M) (k sl : Nat) : Prop :=
  ∀ (D : va_G) (ca : Nat → ClassId) (B0 : Nat) (E : Nat → Nat) (L0 : Nat) (xs : Nat → Int32) (r ks : Nat → Nat), E 44 < B0 → (∀ v ∈ As, am_vok ks (am_n M) v) →
    vx_Met l (am_y z) (am_cw z :: am_G) ({ frames := d + 10, cells := k, slots := sl, locals := 200 + 40 * d }) (va_Pc (As.map (am_cv r)) (am_B D ca B0 E L0 xs r ks M)) (am_Qc D ca B0 E L0 xs r ks (am_n M) o M1) (am_XC D ca B0 E L0 xs r ks (am_n M) o M1) k sl (fun q : Nat => B0 ≤ q)
theorem am_met_of {l : Launch} {y : MethodName} {ws : List Cond} {rm : Room} {Pc : Array Value → State → Prop} {Qc : Array Value → State → Outcome → State → Prop} {XC : String → State → State → Prop} {mc ms : Nat} {free : Addr → Prop} (hM : vx_Met l y ws rm Pc Qc XC mc ms free) (hX : ∀ E st t, ¬ XC E st t) : Met l y ws rm Pc Qc mc ms free := by
  intro p e ha hc hk s m args below hf happ hp _
  obtain ⟨n, o, h1, h2, h3, h4⟩ := hM p e ha hc hk s m args below hf happ hp trivial
  refine ⟨n, o, h1, h2, h3, ?_⟩
  rcases h4 with h | ⟨q, -, E, ce, L, h, -⟩
  · exact h
  · exact absurd h (hX _ _ _)
/-! words of a call -/
theorem am_cm_sp {z : Nat} (hz : z < 217) (hl : z ≠ iL_law) : am_cw z ∈ am_G ∧ (bif am_ist z then Cond.static (am_y z) else Cond.instanceMethod (am_y z)) ∈ am_G ∧ Cond.initialized (am_cn (am_cl z)) ∈ am_G ∧ plainName (am_y z).cls = true ∧ (am_y z).cls = am_cn (am_cl z) ∧ (parseMethodDescriptor (am_y z).desc).map (fun d => d.parameters.length) = some (am_na z) ∧ (am_y z).cls ≠ "java/lang/invoke/MethodHandle" ∧ (am_y z).cls ≠ "java/lang/invoke/VarHandle" ∧ am_ml z ≤ 20 ∧ (am_ini z = true → (am_y z).name = "<init>" ∧ am_rt z = none ∧ am_hh z = []) := by
  have hc := am_wm hz hl
  unfold am_cm at hc
  simp only [Bool.and_eq_true, decide_eq_true_eq] at hc
  obtain ⟨⟨⟨⟨⟨⟨⟨⟨⟨c1, c2⟩, c3⟩, c4⟩, c5⟩, c6⟩, c7⟩, c8⟩, c9⟩, c10⟩ := hc
  refine ⟨am_gw_in c1, am_gw_in c2, am_gw_in c3, c4, c5, c6, c7, c8, Nat.le_of_ble_eq_true c9, fun hi => ?_⟩
  rw [hi] at c10
  simpa using c10
theorem am_cw0 {z : Nat} (h : am_hh z = []) : am_cw z = .code (am_y z) (am_b z) (am_ml z) (am_rt z) := by unfold am_cw; rw [h]
theorem am_cw1 {z : Nat} {q : Nat × Nat × Nat × Nat} {t : List (Nat × Nat × Nat × Nat)} (h : am_hh z = q :: t) : am_cw z = .codeWith (am_y z) (am_b z) (am_ml z) (am_rt z) (am_hh z) := by unfold am_cw; rw [h]
def am_rck (z : Nat) : Bool := am_ist z || Nat.beq (am_cl z) 16 || (Nat.blt (am_cl z) 16 && decide (am_kC (am_cl z) = am_cn (am_cl z)) && (match am_ak (am_cl z) with
    | none => true
    | _ => false) && Nat.beq (am_cls.getD (am_cl z) (RX1, TX1, 13)).2.2 (am_nf (am_cl z)))
theorem am_rck_all : (List.range 217).all (fun z => Nat.beq z iL_law || am_rck z) = true := by decide +kernel
/-- a link, taken apart -/
theorem am_pm_sp {c k z mo : Nat} (h : am_pm c k = some (z, mo)) : z < 217 ∧ z ≠ iL_law ∧ mo ≤ 7 ∧ ((mo ≠ 2 ∧ mo ≠ 4 ∧ mo ≠ 7) → Cond.methodLink (am_cn c) k (am_y z) ∈ am_G)
    ∧ (mo = 0 → Cond.selects (am_cn (am_cl z)) (am_y z) (am_y z) ∈ am_G ∧ am_ist z = false ∧ am_hh z = []) ∧ ((mo = 1 ∨ mo = 2) → am_ist z = true ∧ am_hh z = []) ∧ ((mo = 3 ∨ mo = 4) → am_ini z = true ∧ am_ist z = false) ∧ (mo = 5 → am_ist z = true ∧ ∃ q t, am_hh z = q :: t)
    ∧ (mo = 6 → c = 15 ∧ am_ist z = false ∧ am_hh z = [] ∧ (am_y z).name ≠ "<init>" ∧ Cond.sameMethod (am_y z).cls (am_y z).cls (am_y z).name (am_y z).desc ∈ am_G ∧ Cond.superclass RJ4 (am_y z).cls ∈ am_G)
    ∧ (mo = 7 → Cond.methodLink (am_cn c) k (am_y (am_px z)) ∈ am_G ∧ am_ist z = false ∧ am_hh z = [] ∧ am_hh (am_px z) = [] ∧ am_px z < 217 ∧ am_px z ≠ iL_law ∧ am_ist (am_px z) = false ∧ (am_y (am_px z)).cls = RJ5 ∧ Cond.sameMethod RJ5 RJ5 (am_y (am_px z)).name (am_y (am_px z)).desc ∈ am_G ∧ Cond.selects RJ4 (am_y (am_px z)) (am_y z) ∈ am_G ∧ (parseMethodDescriptor (am_y (am_px z)).desc).map (fun d => d.parameters.length) = some (am_na z)) ∧ (mo = 0 → am_cl z ≠ 16) := by
  have hc := am_pm_ok h
  unfold am_cl1 at hc
  rw [h] at hc
  simp only [Bool.and_eq_true] at hc
  obtain ⟨⟨⟨⟨⟨⟨⟨⟨⟨⟨h1, h2⟩, h3⟩, h4⟩, h5⟩, h6⟩, h7⟩, h8⟩, h9⟩, h10⟩, h11⟩ := hc
  have hh0 : ∀ {b : Bool}, (match am_hh z with
      | [] => true
      | _ => false) = true → am_hh z = [] := by
    intro _ hq
    cases hhz : am_hh z with
    | nil => rfl
    | cons a b => rw [hhz] at hq; cases hq
  have hhz : ∀ z, am_h0 z = true → am_hh z = [] := by
    intro z hq
    unfold am_h0 at hq
    cases hhz : am_hh z with
    | nil => rfl
    | cons a b => rw [hhz] at hq; cases hq
  refine ⟨by simpa [Nat.blt_eq] using h7, fun q => ?_, Nat.le_of_ble_eq_true h6, fun q => ?_, fun q => ?_, fun q => ?_, fun q => ?_, fun q => ?_, fun q => ?_, fun q => ?_, fun q z => ?_⟩
  · subst q
    simp at h8
  · have hb : (Nat.beq mo 2 || Nat.beq mo 4) = false := by
      cases hb : (Nat.beq mo 2 || Nat.beq mo 4) with
      | false => rfl
      | true =>
        rw [Bool.or_eq_true] at hb
        rcases hb with hb | hb
        · exact absurd (Nat.eq_of_beq_eq_true hb) q.1
        · exact absurd (Nat.eq_of_beq_eq_true hb) q.2.1
    have hb7 : Nat.beq mo 7 = false := Bool.eq_false_iff.mpr fun z => q.2.2 (Nat.eq_of_beq_eq_true z)
    rw [hb, hb7] at h1
    exact am_gw_in h1
  · subst q
    rw [show Nat.beq 0 0 = true from rfl] at h2
    simp only [cond_true, Bool.and_eq_true, Bool.not_eq_true'] at h2
    exact ⟨am_gw_in h2.1.1, h2.1.2, hh0 (b := true) h2.2⟩
  · have hb : (Nat.beq mo 1 || Nat.beq mo 2) = true := by rcases q with q | q <;> subst q <;> rfl
    rw [hb] at h3
    simp only [cond_true, Bool.and_eq_true] at h3
    exact ⟨h3.1, hh0 (b := true) h3.2⟩
  · have hb : (Nat.beq mo 3 || Nat.beq mo 4) = true := by rcases q with q | q <;> subst q <;> rfl
    rw [hb] at h4
    simp only [cond_true, Bool.and_eq_true, Bool.not_eq_true'] at h4
    exact h4
  · subst q
    rw [show Nat.beq 5 5 = true from rfl] at h5
    simp only [cond_true, Bool.and_eq_true] at h5
    refine ⟨h5.1, ?_⟩
    cases hhz : am_hh z with
    | nil => have h9 := h5.2; rw [hhz] at h9; cases h9
    | cons a b => exact ⟨a, b, rfl⟩
  · subst q
    rw [show Nat.beq 6 6 = true from rfl] at h9
    simp only [cond_true, Bool.and_eq_true, Bool.not_eq_true', decide_eq_true_eq] at h9
    obtain ⟨⟨⟨⟨⟨⟨g1, g2⟩, g3⟩, g4⟩, g5⟩, g6⟩, g7⟩ := h9
    exact ⟨Nat.eq_of_beq_eq_true g1, g2, hhz _ g4, g5, am_gm_in g6, am_gm_in g7⟩
  · subst q
    rw [show Nat.beq 7 7 = true from rfl] at h10
    rw [show (Nat.beq 7 2 || Nat.beq 7 4) = false from rfl, show Nat.beq 7 7 = true from rfl] at h1
    simp only [cond_true, Bool.and_eq_true, Bool.not_eq_true', decide_eq_true_eq] at h10
    obtain ⟨⟨⟨⟨⟨⟨⟨⟨⟨g1, g2⟩, g3⟩, g4⟩, g5⟩, g6⟩, g7⟩, g8⟩, g9⟩, g10⟩ := h10
    refine ⟨am_gw_in h1, g1, hhz _ g2, hhz _ g3, by simpa [Nat.blt_eq] using g4, fun q => ?_, g6, g7, am_gm_in g8, am_gm_in g9, g10⟩
    rw [q] at g5
    simp at g5
  · subst q
    rw [z] at h11
    cases h11
theorem am_gwo {own C owner : String} {idx : Nat} {x y : MethodName} {cw : Cond} (h1 : Cond.methodLink own idx x ∈ am_G) (h2 : Cond.sameMethod x.cls owner x.name x.desc ∈ am_G) (h3 : Cond.instanceMethod ⟨owner, x.name, x.desc⟩ ∈ am_G) (h4 : Cond.selects C x y ∈ am_G) (h5 : Cond.instanceMethod y ∈ am_G) (h6 : Cond.initialized y.cls ∈ am_G) (h7 : cw ∈ am_G) : GoodIn am_G (va_wsO own idx C owner x y (cw :: am_G)) := fun w hw => by
  unfold va_wsO at hw
  rcases List.mem_append.mp hw with hw | hw
  · have h : w ∈ am_G := by
      simp only [List.mem_cons, List.not_mem_nil, or_false] at hw
      rcases hw with e | e | e | e | e | e <;> rw [e] <;> assumption
    exact am_GG w h
  · exact am_GC h7 w hw
theorem am_gwsu {own : String} {idx : Nat} {y : MethodName} {cw : Cond} (h1 : Cond.methodLink own idx y ∈ am_G) (h2 : Cond.sameMethod y.cls y.cls y.name y.desc ∈ am_G) (h3 : Cond.superclass own y.cls ∈ am_G) (h5 : Cond.instanceMethod y ∈ am_G) (h6 : Cond.initialized y.cls ∈ am_G) (h7 : cw ∈ am_G) : GoodIn am_G (va_wsSU own idx y (cw :: am_G)) := fun w hw => by
  unfold va_wsSU at hw
  rcases List.mem_append.mp hw with hw | hw
  · have h : w ∈ am_G := by
      simp only [List.mem_cons, List.not_mem_nil, or_false] at hw
      rcases hw with e | e | e | e | e <;> rw [e] <;> assumption
    exact am_GG w h
  · exact am_GC h7 w hw
/-! locals at a method's entry -/
theorem am_sl1 : ∀ (vs : List Value), (∀ v ∈ vs, v.category = 1) → lg_sl vs = vs.map Slot.val
  | [], _ => rfl
  | v :: vs, h => by
    have h1 : ¬ v.category = 2 := by rw [h v List.mem_cons_self]; decide
    have h2 := am_sl1 vs fun w hw => h w (List.mem_cons_of_mem _ hw)
    unfold lg_sl at h2 ⊢
    rw [List.flatMap_cons, if_neg h1, h2]
    rfl
theorem am_largs : ∀ (vs : List Value) (k i : Nat) (v : Value), (∀ v ∈ vs, v.category = 1) → vs[i]? = some v → (k + i, v) ∈ lv_args k vs
  | [], _, _, _, _, h => by simp at h
  | w :: vs, k, i, v, hc, h => by
    have h1 : ¬ w.category = 2 := by rw [hc w List.mem_cons_self]; decide
    unfold lv_args
    rw [if_neg h1]
    cases i with
    | zero =>
      have h : w = v := by simpa using h
      rw [h]
      exact List.mem_cons_self
    | succ i =>
      have h9 := am_largs vs (k + 1) i v (fun w hw => hc w (List.mem_cons_of_mem _ hw)) (by simpa using h)
      rw [show k + (i + 1) = k + 1 + i by omega]
      exact List.mem_cons_of_mem _ h9
theorem am_nth_get : ∀ (L : am_L) (i : Nat) (v : Value), am_nth L i = some v → L[i]? = some (some v)
  | [], _, _, h => by cases h
  | _ :: _, 0, _, h => congrArg some h
  | _ :: t, i + 1, v, h => by
    have h9 := am_nth_get t i v h
    simpa using h9
theorem am_ent_len {z : Nat} {As : List Value} (h : As.length ≤ am_ml z) : (am_ent z As).length = am_ml z := by
  unfold am_ent
  simp
  omega
theorem am_ent_at {z i : Nat} {As : List Value} {v : Value} (h : am_nth (am_ent z As) i = some v) : As[i]? = some v := by
  have h1 := am_nth_get _ _ _ h
  unfold am_ent at h1
  by_cases hi : i < As.length
  · rw [List.getElem?_append_left (by simpa using hi), List.getElem?_map] at h1
    cases h2 : As[i]? with
    | none => rw [h2] at h1; cases h1
    | some w =>
      rw [h2] at h1
      have h3 : some w = some v := Option.some.inj h1
      exact h3
  · rw [List.getElem?_append_right (by simpa using hi)] at h1
    have h9 := List.eq_of_mem_replicate (List.mem_of_getElem? h1)
    cases h9
theorem am_Lo_ent {r ks : Nat → Nat} {n z : Nat} {As : List Value} (hc : ∀ v ∈ As, v.category = 1) (hl : As.length ≤ am_ml z) (hv : ∀ v ∈ As, am_vok ks n v) : am_Lo r ks n (am_ent z As) ((lg_sl (As.map (am_cv r)) ++ List.replicate (am_ml z - (lg_sl (As.map (am_cv r))).length) Slot.unset).toArray) := by
  have hc1 : ∀ v ∈ As.map (am_cv r), v.category = 1 := by
    intro v hv
    obtain ⟨w, hw, rfl⟩ := List.mem_map.mp hv
    rw [am_cv_cat]
    exact hc w hw
  have hsl := am_sl1 _ hc1
  have h := lv_entry (As.map (am_cv r)) (n := am_ml z) (by rw [hsl]; simpa using hl)
  refine ⟨by rw [am_ent_len hl]; exact h.1, h.2.1, fun i v hi => ?_⟩
  have h1 := am_ent_at hi
  have h2 : (As.map (am_cv r))[i]? = some (am_cv r v) := by rw [List.getElem?_map, h1]; rfl
  have h3 := am_largs _ 0 i _ hc1 h2
  rw [Nat.zero_add] at h3
  exact ⟨h.2.2 _ h3, hv v (List.mem_of_getElem? h1)⟩
/-! handlers -/
theorem am_clr_spec : ∀ (L : am_L) (k : Nat) (L' : am_L), am_clr L k = some L' → L'.length = L.length ∧ k < L.length ∧ ∀ i w, am_nth L' i = some w → i ≠ k ∧ am_nth L i = some w ∧ ¬ (i + 1 = k ∧ w.category = 2)
  | [], k, L', h => by cases k <;> cases h
  | o :: t, 0, L', h => by
    have h : some (none :: t) = some L' := h
    cases h
    refine ⟨rfl, Nat.zero_lt_succ _, fun i w hw => ?_⟩
    cases i with
    | zero => cases hw
    | succ i => exact ⟨by omega, hw, fun q => by omega⟩
  | o :: t, k + 1, L', h => by
    simp only [am_clr] at h
    cases hz : (Nat.beq k 0 && am_wide o) with
    | true => rw [hz] at h; cases h
    | false =>
      rw [hz] at h
      dsimp only [cond_false] at h
      cases ht : am_clr t k with
      | none => rw [ht] at h; cases h
      | some t' =>
        rw [ht] at h
        cases h
        obtain ⟨e1, e2, e3⟩ := am_clr_spec t k t' ht
        refine ⟨by simp [e1], by simp; exact e2, fun i w hw => ?_⟩
        cases i with
        | zero =>
          have hw : o = some w := hw
          subst hw
          refine ⟨by omega, rfl, fun q => ?_⟩
          have hk : k = 0 := by omega
          subst hk
          simp at hz
          have := am_wide_cat hz
          omega
        | succ i =>
          obtain ⟨f1, f2, f3⟩ := e3 i w hw
          exact ⟨by omega, f2, fun q => f3 ⟨by omega, q.2⟩⟩
theorem am_Lo_clr {r ks : Nat → Nat} {n k : Nat} {L L' : am_L} {ls ls' : Array Slot} {v : Value} (h : am_Lo r ks n L ls) (hp : am_clr L k = some L')
    (hl : lv_has ls' L.length ((k, v) :: (am_ll r L).filter (fun q => !(q.1 == k) && !(q.1 + 1 == k && q.2.category == 2)))) : am_Lo r ks n L' ls' := by
  obtain ⟨e1, e2, e3⟩ := am_clr_spec L k L' hp
  refine ⟨by rw [e1]; exact hl.1, hl.2.1, fun i w hw => ?_⟩
  obtain ⟨f1, f2, f3⟩ := e3 i w hw
  refine ⟨hl.2.2 (i, am_cv r w) (List.mem_cons_of_mem _ (List.mem_filter.mpr ⟨am_ll_mem.mpr ⟨w, f2, rfl⟩, ?_⟩)), (h.2.2 i w f2).2⟩
  rw [am_cv_cat]
  simp only [Bool.and_eq_true, Bool.not_eq_true', beq_eq_false_iff_ne, ne_eq, Bool.and_eq_false_iff]
  refine ⟨f1, ?_⟩
  by_cases q : i + 1 = k
  · exact Or.inr fun z => f3 ⟨q, z⟩
  · exact Or.inl q
theorem am_hr_sp (pc e : Nat) : ∀ (hh : List (Nat × Nat × Nat × Nat)) (h : Nat), am_hr pc e hh = some h → ∃ pre q suf, hh = pre ++ q :: suf ∧ q.1 ≤ pc ∧ pc < q.2.1 ∧ q.2.2.1 = h ∧ am_xl q.2.2.2 = e ∧ ∀ z ∈ pre, (decide (z.1 ≤ pc) && decide (pc < z.2.1)) = false ∨ am_xl z.2.2.2 ≠ e
  | [], h, hq => by cases hq
  | (s, t, g, k) :: rr, h, hq => by
    simp only [am_hr] at hq
    cases hz : (Nat.ble s pc && Nat.ble (pc + 1) t && Nat.beq (am_xl k) e) with
    | true =>
      rw [hz] at hq
      cases hq
      rw [Bool.and_eq_true, Bool.and_eq_true] at hz
      exact ⟨[], (s, t, g, k), rr, rfl, Nat.le_of_ble_eq_true hz.1.1, Nat.le_of_ble_eq_true hz.1.2, rfl, Nat.eq_of_beq_eq_true hz.2, fun z hz => by cases hz⟩
    | false =>
      rw [hz] at hq
      dsimp only [cond_false] at hq
      obtain ⟨pre, q, suf, h1, h2, h3, h4, h5, h6⟩ := am_hr_sp pc e rr h hq
      refine ⟨(s, t, g, k) :: pre, q, suf, by rw [h1]; rfl, h2, h3, h4, h5, fun z hz2 => ?_⟩
      rcases List.mem_cons.mp hz2 with e9 | hz2
      · subst e9
        by_cases hx : am_xl k = e
        · refine Or.inl ?_
          rw [Bool.and_eq_false_iff] at hz
          rcases hz with hz | hz
          · rw [Bool.and_eq_false_iff] at hz ⊢
            rcases hz with hz | hz
            · exact Or.inl (decide_eq_false fun q => by rw [Nat.ble_eq_true_of_le q] at hz; cases hz)
            · exact Or.inr (decide_eq_false fun q => by rw [Nat.ble_eq_true_of_le (show pc + 1 ≤ t from q)] at hz; cases hz)
          · rw [hx] at hz
            simp at hz
        · exact Or.inr hx
      · exact h6 z hz2
theorem am_hr_no (pc e : Nat) : ∀ (hh : List (Nat × Nat × Nat × Nat)), am_hr pc e hh = none → ∀ z ∈ hh, (decide (z.1 ≤ pc) && decide (pc < z.2.1)) = false ∨ am_xl z.2.2.2 ≠ e
  | [], _, z, hz => by cases hz
  | (s, t, g, k) :: rr, hq, z, hz2 => by
    simp only [am_hr] at hq
    cases hz : (Nat.ble s pc && Nat.ble (pc + 1) t && Nat.beq (am_xl k) e) with
    | true => rw [hz] at hq; cases hq
    | false =>
      rw [hz] at hq
      dsimp only [cond_false] at hq
      rcases List.mem_cons.mp hz2 with e9 | hz2
      · subst e9
        by_cases hx : am_xl k = e
        · refine Or.inl ?_
          rw [Bool.and_eq_false_iff] at hz
          rcases hz with hz | hz
          · rw [Bool.and_eq_false_iff] at hz ⊢
            rcases hz with hz | hz
            · exact Or.inl (decide_eq_false fun q => by rw [Nat.ble_eq_true_of_le q] at hz; cases hz)
            · exact Or.inr (decide_eq_false fun q => by rw [Nat.ble_eq_true_of_le (show pc + 1 ≤ t from q)] at hz; cases hz)
          · rw [hx] at hz
            simp at hz
        · exact Or.inr hx
      · exact am_hr_no pc e rr hq z hz2
def am_hck (y : Nat) : Bool := (am_hh y).all fun q => Nat.blt (am_xl q.2.2.2) 6 && !(Nat.beq q.2.2.2 0) && am_gw (am_xlw q.2.2.2) (.classLink (am_cn (am_cl y)) q.2.2.2 (am_xn (am_xl q.2.2.2)))
theorem am_hck_all : (List.range 217).all am_hck = true := by decide +kernel
theorem am_hck_sp {y : Nat} (hy : y < 217) {q : Nat × Nat × Nat × Nat} (hq : q ∈ am_hh y) : am_xl q.2.2.2 < 6 ∧ q.2.2.2 ≠ 0 ∧ Cond.classLink (am_cn (am_cl y)) q.2.2.2 (am_xn (am_xl q.2.2.2)) ∈ am_G := by
  have h := List.all_eq_true.mp (List.all_eq_true.mp am_hck_all y (List.mem_range.mpr hy)) q hq
  rw [Bool.and_eq_true, Bool.and_eq_true] at h
  refine ⟨by simpa [Nat.blt_eq] using h.1.1, fun z => ?_, am_gw_in h.2⟩
  rw [z] at h
  simp at h
theorem am_add_inv {r : Option (am_O × am_M × Nat × Nat)} {k s : Nat} {o : am_O} {M : am_M} {k1 s1 : Nat} (h : am_add r k s = some (o, M, k1, s1)) : ∃ k' s', r = some (o, M, k', s') ∧ k1 = k + k' ∧ s1 = s + s' := by
  unfold am_add at h
  split at h
  · cases h
    exact ⟨_, _, rfl, rfl, rfl⟩
  · cases h
section AMR
variable {D : va_G} {ca : Nat → ClassId} {B0 : Nat} {E : Nat → Nat} {L0 : Nat} {xs : Nat → Int32} {p : Program} {l : Launch} {e : Env} {R : Room} {s : State} {m : MethodId} {args : Array Value} {below : List Frame} {meth : Method} {c : Code} {y : Nat} {Q : State → Prop} {r0 ks0 : Nat → Nat} {n0 cells slots pc nx tg K S : Nat} {L : am_L} {st : List Value} {M : am_M}
theorem am_va_vx {H : Heap} {locs : List Loc} {mc ms : Nat} {g : JFrame} {rest : List Value} {Qa : State → Outcome → State → Prop} {XC : String → State → State → Prop} {free : Addr → Prop} (h : va_Run p l e R s m args below meth c H locs cells slots mc ms g rest Qa free) : vx_Run p l e R s m args below meth c H locs cells slots mc ms g rest Qa XC free := fun T hT X => Or.inl (h T hT X)
theorem am_callx {H : Heap} {locs : List Loc} {r ks : Nat → Nat} {o : am_O} {M1 : am_M} {k sl : Nat} {ls : Array Slot} {st0 rest : List Value} {av : Array Value}
    (hr : vx_Run p l e R s m args below meth c H locs cells slots k sl (F0 m pc ls st0) rest (am_Qc D ca B0 E L0 xs r ks (am_n M) o M1 av) (am_XC D ca B0 E L0 xs r ks (am_n M) o M1) (fun q : Nat => B0 ≤ q)) (hV : va_S (fun q : Nat => B0 ≤ q) s.heap H locs)
    (kk : ∀ (v : Option Value) (r1 ks1 : Nat → Nat) (H1 : Heap) (locs1 : List Loc), o = .inl v → am_ext r ks (am_n M) r1 ks1 (am_n M1) → am_Rp D ca B0 E L0 xs r1 ks1 M1 H1 → (∀ w, v = some w → am_vok ks1 (am_n M1) w) → va_S (fun q : Nat => B0 ≤ q) s.heap H1 locs1 → W p l e R s m args below meth c H1 locs1 (cells + k) (slots + sl) Q (F0 m (pc + 3) ls ((v.map (am_cv r1)).toList ++ rest)))
    (kx : ∀ (x : Nat) (r1 ks1 : Nat → Nat) (H1 : Heap) (locs1 : List Loc) (q : Addr) (ce : Cell), o = .inr x → x < 6 → am_ext r ks (am_n M) r1 ks1 (am_n M1) → am_Rp D ca B0 E L0 xs r1 ks1 M1 H1 → va_S (fun q : Nat => B0 ≤ q) s.heap H1 locs1 → H1[q]? = some ce → ce.vm = .none → s.vm.findClass (am_xn x) = some ce.cls → vx_W p l e R s m args below meth c H1 locs1 (cells + k) (slots + sl) Q (F0 m pc ls rest) q) :
    W p l e R s m args below meth c H locs cells slots Q (F0 m pc ls st0) := by
  intro T hT X
  rcases hr T hT X with ⟨v, st₀, t, T', L, h0, X', hL, e1, e2, ⟨v0, r1, ks1, ho, hv, he1, hR1, hvo, hF⟩, stp⟩ | ⟨q, st₀, t, T', L, E', ce, h0, X', hL, e1, e2, ⟨x, r1, ks1, ho, hx6, hE', he1, hR1, hF⟩, hce, hcv, hcl, stp⟩
  · cases hv
    obtain ⟨k1, k2, k3⟩ := vx_keep (A1 := fun q : Nat => B0 ≤ q) h0 e1 hV (fun _ _ h => h) (fun _ h => h) hL hF
    obtain ⟨t2, a1, b1⟩ := kk v0 r1 ks1 T'.heap (locs ++ L) ho he1 (by rw [e1]; exact hR1) hvo k3 T' rfl X'
    exact ⟨t2, stp t2 a1, b1⟩
  · subst hE'
    obtain ⟨k1, k2, k3⟩ := vx_keep (A1 := fun q : Nat => B0 ≤ q) h0 e1 hV (fun _ _ h => h) (fun _ h => h) hL hF
    obtain ⟨t2, a1, b1⟩ := kx x r1 ks1 T'.heap (locs ++ L) q ce ho hx6 he1 (by rw [e1]; exact hR1) k3 (by rw [e1]; exact hce) hcv hcl T' rfl X'
    exact ⟨t2, stp.trans a1, b1⟩
end AMR
