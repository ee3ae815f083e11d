/-! ONE CALL; THE WHOLE RUN -/
section AMC
variable {D : va_G} {ca : Nat → ClassId} {B0 : Nat} {E : Nat → Nat} {L0 : Nat} {xs : Nat → Int32} {p : Program} {l : Launch} {e : Env} {R : Room} {s : State} {m : MethodId} {args : Array Value} {below : List Frame} {meth : Method} {c : Code} {y : Nat} {Q : State → Prop} {r0 ks0 : Nat → Nat} {n0 cells slots pc nx tg K S : Nat} {L : am_L} {st : List Value} {M : am_M}
theorem am_B_at {r ks : Nat → Nat} {H : Heap} {locs : List Loc} {U : State} (hS0 : am_S E B0 L0 xs s s.heap) (hS2 : am_S2 E s) (hK : va_K D am_cls (am_tys ca) s) (hB0 : B0 ≤ s.heap.size) (hE : E 44 < B0) (hR : am_Rp D ca B0 E L0 xs r ks M H) (hV : va_S (fun q : Nat => B0 ≤ q) s.heap H locs) (hU : U.heap = H) (hW : s.WarmedH U.vm) : am_B D ca B0 E L0 xs r ks M U :=
  ⟨by rw [hU]; exact hR, am_Bs_gh hS0 hE hV hU hW, am_S2_warm hW hS2, va_K.moved hW.alike hK, by rw [hU]; exact Nat.le_trans hB0 hV.1⟩
theorem am_XC_no {r ks : Nat → Nat} {v : Option Value} {M1 : am_M} : ∀ E' st t, ¬ am_XC D ca B0 E L0 xs r ks (am_n M) (.inl v) M1 E' st t := fun _ _ _ h => by
  obtain ⟨x, r, ks, h, -⟩ := h
  cases h
theorem am_st_split {r : Nat → Nat} {st rest : List Value} {n a : Nat} (h : st.drop n = .ref a :: rest) : st.map (am_cv r) = (((st.take n).reverse).map (am_cv r)).reverse ++ .ref (r a) :: rest.map (am_cv r) ∧ (((st.take n).reverse).map (am_cv r)).length = n := by
  have h1 : st = st.take n ++ .ref a :: rest := by rw [← h]; exact (List.take_append_drop n st).symm
  have hn : n ≤ st.length := by
    by_cases hq : n ≤ st.length
    · exact hq
    · rw [List.drop_eq_nil_of_le (by omega)] at h; cases h
  refine ⟨?_, by simp; omega⟩
  conv => lhs; rw [h1]
  rw [List.map_append, List.map_reverse, List.reverse_reverse]
  rfl
theorem am_call_ok {i : Instr} {z mo : Nat} {As rest : List Value} {o : am_O} {M1 : am_M} {d k sl : Nat} (C : am_X D ca B0 E L0 xs l p s m args meth c y) (hp : am_pr y pc = some (i, nx, tg)) (hc : am_call y i st = some (z, mo, As, rest)) (hsum : (rest.map Value.category).sum ≤ 8) (hM : am_Cn l d z As M o M1 k sl) (hmo : mo = 2 ∨ mo = 3 ∨ mo = 4 ∨ 6 ≤ mo → ∃ v, o = .inl v) (hRf : d + 1 + 10 ≤ R.frames) (hRl : 200 + 40 * (d + 1) ≤ R.locals) (hcR : cells + k ≤ R.cells) (hsR : slots + sl ≤ R.slots)
    {r ks : Nat → Nat} {H : Heap} {locs : List Loc} {ls : Array Slot} {st1 : List Value} (hR : am_Rp D ca B0 E L0 xs r ks M H) (hV : va_S (fun q : Nat => B0 ≤ q) s.heap H locs) (hl : L.length = am_ml y) (hL : am_Lo r ks (am_n M) L ls) (hk : am_Sk r ks (am_n M) st st1) :
    ∃ rest1, am_Sk r ks (am_n M) rest rest1 ∧ nx = pc + 3 ∧ vx_Run p l e R s m args below meth c H locs cells slots k sl (F0 m pc ls st1) rest1 (am_Qc D ca B0 E L0 xs r ks (am_n M) o M1 (As.map (am_cv r)).toArray) (am_XC D ca B0 E L0 xs r ks (am_n M) o M1) (fun q : Nat => B0 ≤ q) := by
  obtain ⟨hx, hb, hml, hown, hts, hlk, hrt, hin, hK, hS0, hS2, hB0, hE, hst, het⟩ := C
  obtain ⟨hd, ho⟩ := am_pr_ok hp
  have hBU : ∀ U : State, U.heap = H → s.WarmedH U.vm → am_B D ca B0 E L0 xs r ks M U := fun U hU hW => am_B_at hS0 hS2 hK hB0 hE hR hV hU hW
  have hFix : CallFix p m c (am_b y) (am_ml y) s args am_G (am_cn (am_cl y)) := ⟨hx, hb, hml, hown, hts⟩
  have hsz : ls.size = am_ml y := hL.1.trans hl
  have hrm : ∀ {z : Nat}, am_ml z ≤ 20 → ({ frames := d + 10, cells := k, slots := sl, locals := 200 + 40 * d } : Room).frames + 1 ≤ R.frames ∧ 8 + (am_ml z + 11) + ({ frames := d + 10, cells := k, slots := sl, locals := 200 + 40 * d } : Room).locals ≤ R.locals := fun h => ⟨by show d + 10 + 1 ≤ _; omega, by show _ + (200 + 40 * d) ≤ _; omega⟩
  have hvs : ∀ {st' : List Value}, (∀ v ∈ st', v ∈ st) → ∀ v ∈ st', am_vok ks (am_n M) v := fun h v hv => hk.2 v (h v hv)
  cases i with
  | invokevirtual j =>
    have hn : nx = pc + 3 := by simpa [am_ok1, am_len] using ho
    subst hn
    rw [Nat.add_sub_cancel_left] at hd
    simp only [am_call] at hc
    cases hpm : am_pm (am_cl y) j with
    | none => rw [hpm] at hc; cases hc
    | some q =>
      obtain ⟨z', mo'⟩ := q
      rw [hpm] at hc
      dsimp only at hc
      split at hc
      · rename_i a rest' hdr
        obtain ⟨hcl, hc⟩ := am_if_inv hc
        cases hc
        obtain ⟨g1, g2, g3, g4, g5, -, -, -, -, g10, g11⟩ := am_pm_sp hpm
        obtain ⟨c1, c2, c3, c4, c5, c6, c7, c8, c9, -⟩ := am_cm_sp g1 g2
        obtain ⟨e1, e2⟩ := am_st_split (r := r) hdr
        have hmem : ∀ v ∈ Value.ref a :: (st.take (am_na z)).reverse, v ∈ st := by
          intro v hv
          rcases List.mem_cons.mp hv with h9 | h9
          · subst h9
            have h8 : Value.ref a ∈ st.drop (am_na z) := by rw [hdr]; exact List.mem_cons_self
            exact List.mem_of_mem_drop h8
          · exact List.mem_of_mem_take (List.mem_reverse.mp h9)
        have hmemr : ∀ v ∈ rest, v ∈ st := fun v hv => by
          have h8 : v ∈ st.drop (am_na z) := by rw [hdr]; exact List.mem_cons_of_mem _ hv
          exact List.mem_of_mem_drop h8
        have hrk : am_Sk r ks (am_n M) rest (rest.map (am_cv r)) := ⟨rfl, hvs hmemr⟩
        refine ⟨_, hrk, rfl, ?_⟩
        have hMM := hM D ca B0 E L0 xs r ks hE (hvs hmem)
        have hoa := hvs hmem _ List.mem_cons_self a rfl
        have hk0 : st1 = st.map (am_cv r) := hk.1
        rw [Bool.or_eq_true, Bool.and_eq_true, Bool.and_eq_true, Bool.or_eq_true, Bool.and_eq_true] at hcl
        rcases hcl with ⟨hm0, hcl⟩ | ⟨hm7, hcl⟩
        · have hm0 := Nat.eq_of_beq_eq_true hm0
          subst hm0
          obtain ⟨g5a, g5b, g5c⟩ := g5 rfl
          rw [g5b] at c2
          have hrecv : ∃ cell : Cell, H[r a]? = some cell ∧ cell.vm.isStatics = false ∧ s.vm.findClass (am_cn (am_cl z)) = some cell.cls := by
            rcases hcl with hcl | ⟨h13, h45⟩
            · have hcl := Nat.eq_of_beq_eq_true hcl
              have hrc := List.all_eq_true.mp am_rck_all z (List.mem_range.mpr g1)
              rw [Bool.or_eq_true] at hrc
              have hrc := hrc.resolve_left fun q => g2 (Nat.eq_of_beq_eq_true q)
              unfold am_rck at hrc
              rw [g5b] at hrc
              rw [Bool.false_or, Bool.or_eq_true] at hrc
              rcases hrc with hrc | hrc
              · exact absurd (Nat.eq_of_beq_eq_true hrc) (g11 rfl)
              simp only [Bool.and_eq_true, decide_eq_true_eq] at hrc
              obtain ⟨⟨⟨r1, r2⟩, r3⟩, r4⟩ := hrc
              have r1 : am_cl z < 16 := by simpa [Nat.blt_eq] using r1
              have r4 := Nat.eq_of_beq_eq_true r4
              have r3 : am_ak (am_cl z) = none := by
                cases hq : am_ak (am_cl z) with
                | none => rfl
                | some q => rw [hq] at r3; cases r3
              obtain ⟨w1, w2⟩ := am_okk_lo hoa (by omega)
              have hw := am_ws_at (ca := ca) (r := r) (M := M) w1 w2
              rw [am_en_obj (by rw [hcl]; exact r3), hcl] at hw
              have hrecv := va_recv hK hR.1 (am_kcl r1 r4) hw
              dsimp only at hrecv
              rw [r2] at hrecv
              exact hrecv
            · have h13 := Nat.eq_of_beq_eq_true h13
              have h45 := Nat.eq_of_beq_eq_true h45
              obtain ⟨h8, ha⟩ := am_d45 hoa h45
              obtain ⟨⟨cell, q1, q2, q3, q4⟩, -, -⟩ := hS0.2.2.2.2.2.2.2.2.2.2.2.2.1 (a / 64) h8
              rw [ha] at q1 q4
              rw [hR.2.2.2.1 a (by omega), h13]
              exact ⟨cell, by rw [hV.2.1 _ (Array.getElem?_eq_some_iff.mp q1).1 q4]; exact q1, q2, q3⟩
          have hcw0 := am_cw0 g5c
          rw [hcw0] at hMM c1
          exact vx_runV (C := am_cn (am_cl z)) (b := r a) (As := ((st.take (am_na z)).reverse).map (am_cv r)) (rest := rest.map (am_cv r)) hFix hMM (cwV (am_na z) hts (am_gwv (g4 ⟨by decide, by decide, by decide⟩) c2 g5a c3 c1) rfl rfl rfl ⟨c5, c7, c8, c6⟩ (hrm c9)) ⟨am_B_blind, hrecv, fun U hU hW => ⟨rfl, hBU U hU hW⟩⟩ rfl e2 hsz (by show st1 = _; rw [hk0, e1]) (lv_room (by rw [am_sum hrk]; exact hsum)) hd ⟨hcR, hsR⟩
        · have hm7 := Nat.eq_of_beq_eq_true hm7
          have hcl := Nat.eq_of_beq_eq_true hcl
          obtain ⟨v, hv⟩ := hmo (Or.inr (Or.inr (Or.inr (by omega))))
          subst hv
          obtain ⟨p1, p2, p3, p4, p5, p6, p7, p8, p9, p10, p11⟩ := g10 hm7
          obtain ⟨d1, d2, -, -, -, -, -, -, -, -⟩ := am_cm_sp p5 p6
          rw [p2] at c2
          rw [p7] at d2
          rw [am_cw0 p4] at d1
          have hM2 := am_met_of hMM am_XC_no
          rw [am_cw0 p3] at hM2 c1
          rw [← c5] at c3
          obtain ⟨w1, w2⟩ := am_okk_lo hoa (by omega)
          have hw := am_ws_at (ca := ca) (r := r) (M := M) w1 w2
          rw [am_en_obj (by rw [hcl]; rfl), hcl] at hw
          have hrecv := va_recv hK hR.1 (am_kcl (x := 15) (by decide) rfl) hw
          have hx9 : (⟨RJ5, (am_y (am_px z)).name, (am_y (am_px z)).desc⟩ : MethodName) = am_y (am_px z) := by rw [← p8]
          refine am_va_vx (va_runU (C := RJ4) (owner := RJ5) (x := am_y (am_px z)) (b := r a) (As := ((st.take (am_na z)).reverse).map (am_cv r)) (rest := rest.map (am_cv r)) hFix hM2 (va_cwO (am_na z) hts (am_gwo p1 (by rw [p8]; exact p9) (by rw [hx9]; exact d2) p10 c2 c3 c1) rfl rfl rfl (b0 := am_b (am_px z)) (m0 := am_ml (am_px z)) (r0 := am_rt (am_px z)) (by rw [hx9]; exact d1) ⟨by decide, by decide, p11⟩ (hrm c9)) ⟨am_B_blind, hrecv, fun U hU hW => ⟨rfl, hBU U hU hW⟩⟩ rfl e2 hsz (by show st1 = _; rw [hk0, e1]) (lv_room (by rw [am_sum hrk]; exact hsum)) hd ⟨hcR, hsR⟩)
      · cases hc
  | invokespecial j =>
    have hn : nx = pc + 3 := by simpa [am_ok1, am_len] using ho
    subst hn
    rw [Nat.add_sub_cancel_left] at hd
    simp only [am_call] at hc
    cases hpm : am_pm (am_cl y) j with
    | none => rw [hpm] at hc; cases hc
    | some q =>
      obtain ⟨z', mo'⟩ := q
      rw [hpm] at hc
      dsimp only at hc
      cases hmm : (Nat.beq mo' 3 || Nat.beq mo' 4) with
      | true =>
      rw [hmm] at hc
      dsimp only [cond_true] at hc
      split at hc
      · rename_i a rest' hdr
        cases hc
        have h34 : mo = 3 ∨ mo = 4 := by
          rw [Bool.or_eq_true] at hmm
          rcases hmm with h | h
          · exact Or.inl (Nat.eq_of_beq_eq_true h)
          · exact Or.inr (Nat.eq_of_beq_eq_true h)
        obtain ⟨v, hv⟩ := hmo (by omega)
        subst hv
        obtain ⟨g1, g2, g3, g4, -, -, g7, -, -, -, -⟩ := am_pm_sp hpm
        obtain ⟨g7a, g7b⟩ := g7 h34
        obtain ⟨c1, c2, c3, c4, c5, c6, c7, c8, c9, c10⟩ := am_cm_sp g1 g2
        obtain ⟨k1, k2, k3⟩ := c10 g7a
        rw [g7b] at c2
        obtain ⟨e1, e2⟩ := am_st_split (r := r) hdr
        have hmem : ∀ v ∈ Value.ref a :: (st.take (am_na z)).reverse, v ∈ st := by
          intro v hv
          rcases List.mem_cons.mp hv with h9 | h9
          · subst h9
            have h8 : Value.ref a ∈ st.drop (am_na z) := by rw [hdr]; exact List.mem_cons_self
            exact List.mem_of_mem_drop h8
          · exact List.mem_of_mem_take (List.mem_reverse.mp h9)
        have hmemr : ∀ v ∈ rest, v ∈ st := fun v hv => by
          have h8 : v ∈ st.drop (am_na z) := by rw [hdr]; exact List.mem_cons_of_mem _ hv
          exact List.mem_of_mem_drop h8
        have hrk : am_Sk r ks (am_n M) rest (rest.map (am_cv r)) := ⟨rfl, hvs hmemr⟩
        refine ⟨_, hrk, rfl, am_va_vx ?_⟩
        have hMM := am_met_of (hM D ca B0 E L0 xs r ks hE (hvs hmem)) am_XC_no
        have hk0 : st1 = st.map (am_cv r) := hk.1
        have hcw0 := am_cw0 k3
        rw [k2] at hcw0
        rw [hcw0] at hMM c1
        rw [← c5] at c3
        rcases h34 with h | h
        · subst h
          exact va_runI (b := r a) (As := ((st.take (am_na z)).reverse).map (am_cv r)) (rest := rest.map (am_cv r)) hFix hMM (cwI (am_na z) hts (am_GC c1) rfl rfl rfl (hts _ c3) (hts _ (g4 ⟨by decide, by decide, by decide⟩)) (hts _ c2) k1 ⟨c7, c8, c6⟩ (hrm c9)) ⟨am_B_blind, fun U hU hW => ⟨rfl, hBU U hU hW⟩⟩ rfl e2 hsz (by show st1 = _; rw [hk0, e1]) (lv_room (by rw [am_sum hrk]; exact hsum)) hd ⟨hcR, hsR⟩
        · subst h
          exact va_runIN (host := "EchoCanyon") (b := r a) (As := ((st.take (am_na z)).reverse).map (am_cv r)) (rest := rest.map (am_cv r)) hFix hMM ⟨va_cnB (am_na z) hts (am_GC c1) rfl rfl rfl (hS2.2.2.2.2.2.1 _ _ _ _ hpm (Or.inr rfl)) (hts _ c3) ⟨c7, c8, c6⟩ (hrm c9), k1, hts _ c2⟩ ⟨am_B_blind, fun U hU hW => ⟨rfl, hBU U hU hW⟩⟩ rfl e2 hsz (by show st1 = _; rw [hk0, e1]) (lv_room (by rw [am_sum hrk]; exact hsum)) hd ⟨hcR, hsR⟩
      · cases hc
      | false =>
      rw [hmm] at hc
      dsimp only [cond_false] at hc
      obtain ⟨hm6, hc⟩ := am_if_inv hc
      split at hc
      · rename_i a rest' hdr
        obtain ⟨hcl, hc⟩ := am_if_inv hc
        cases hc
        have hm6 := Nat.eq_of_beq_eq_true hm6
        have hcl := Nat.eq_of_beq_eq_true hcl
        obtain ⟨v, hv⟩ := hmo (by omega)
        subst hv
        obtain ⟨g1, g2, g3, g4, -, -, -, -, g9, -, -⟩ := am_pm_sp hpm
        obtain ⟨p1, p2, p3, p4, p5, p6⟩ := g9 hm6
        obtain ⟨c1, c2, c3, c4, c5, c6, c7, c8, c9, -⟩ := am_cm_sp g1 g2
        rw [p2] at c2
        obtain ⟨e1, e2⟩ := am_st_split (r := r) hdr
        have hmem : ∀ v ∈ Value.ref a :: (st.take (am_na z)).reverse, v ∈ st := by
          intro v hv
          rcases List.mem_cons.mp hv with h9 | h9
          · subst h9
            have h8 : Value.ref a ∈ st.drop (am_na z) := by rw [hdr]; exact List.mem_cons_self
            exact List.mem_of_mem_drop h8
          · exact List.mem_of_mem_take (List.mem_reverse.mp h9)
        have hmemr : ∀ v ∈ rest, v ∈ st := fun v hv => by
          have h8 : v ∈ st.drop (am_na z) := by rw [hdr]; exact List.mem_cons_of_mem _ hv
          exact List.mem_of_mem_drop h8
        have hrk : am_Sk r ks (am_n M) rest (rest.map (am_cv r)) := ⟨rfl, hvs hmemr⟩
        refine ⟨_, hrk, rfl, am_va_vx ?_⟩
        have hM2 := am_met_of (hM D ca B0 E L0 xs r ks hE (hvs hmem)) am_XC_no
        have hk0 : st1 = st.map (am_cv r) := hk.1
        have hoa := hvs hmem _ List.mem_cons_self a rfl
        rw [am_cw0 p3] at hM2 c1
        rw [← c5] at c3
        obtain ⟨w1, w2⟩ := am_okk_lo hoa (by omega)
        have hw := am_ws_at (ca := ca) (r := r) (M := M) w1 w2
        rw [am_en_obj (by rw [hcl]; rfl), hcl] at hw
        have hrecv := va_recv hK hR.1 (am_kcl (x := 15) (by decide) rfl) hw
        have hg4 := g4 ⟨by omega, by omega, by omega⟩
        have hown4 : am_cn (am_cl y) = RJ4 := by rw [p1]; rfl
        rw [hown4] at hg4 hFix
        exact va_runSU (C := RJ4) (b := r a) (As := ((st.take (am_na z)).reverse).map (am_cv r)) (rest := rest.map (am_cv r)) (hK.1 15 _ (am_kcl (x := 15) (by decide) rfl)).2 hFix hM2 (va_cwSU (am_na z) hts (am_gwsu hg4 p5 p6 c2 c3 c1) rfl rfl rfl ⟨p4, c6⟩ (hrm c9)) ⟨am_B_blind, hrecv, fun U hU hW => ⟨rfl, hBU U hU hW⟩⟩ rfl e2 hsz (by show st1 = _; rw [hk0, e1]) (lv_room (by rw [am_sum hrk]; exact hsum)) hd ⟨hcR, hsR⟩
      · cases hc
  | invokestatic j =>
    have hn : nx = pc + 3 := by simpa [am_ok1, am_len] using ho
    subst hn
    rw [Nat.add_sub_cancel_left] at hd
    simp only [am_call] at hc
    cases hpm : am_pm (am_cl y) j with
    | none => rw [hpm] at hc; cases hc
    | some q =>
      obtain ⟨z', mo'⟩ := q
      rw [hpm] at hc
      dsimp only at hc
      obtain ⟨hmm, hc⟩ := am_if_inv hc
      cases hc
      rw [Bool.and_eq_true, Bool.or_eq_true, Bool.or_eq_true] at hmm
      obtain ⟨hmm, hlen⟩ := hmm
      have hlen := Nat.le_of_ble_eq_true hlen
      obtain ⟨g1, g2, g3, g4, -, g6, -, g8, -, -, -⟩ := am_pm_sp hpm
      obtain ⟨c1, c2, c3, c4, c5, c6, c7, c8, c9, -⟩ := am_cm_sp g1 g2
      have hmem : ∀ v ∈ (st.take (am_na z)).reverse, v ∈ st := fun v hv => List.mem_of_mem_take (List.mem_reverse.mp hv)
      have hrk : am_Sk r ks (am_n M) (st.drop (am_na z)) ((st.drop (am_na z)).map (am_cv r)) := ⟨rfl, hvs fun v hv => List.mem_of_mem_drop hv⟩
      refine ⟨_, hrk, rfl, ?_⟩
      have hMM := hM D ca B0 E L0 xs r ks hE (hvs hmem)
      have hk0 : st1 = st.map (am_cv r) := hk.1
      have e1 : st.map (am_cv r) = (((st.take (am_na z)).reverse).map (am_cv r)).reverse ++ (st.drop (am_na z)).map (am_cv r) := by
        rw [List.map_reverse, List.reverse_reverse, ← List.map_append, List.take_append_drop]
      have e2 : (((st.take (am_na z)).reverse).map (am_cv r)).length = am_na z := by simp; omega
      rw [← c5] at c3
      rcases hmm with (h | h) | h
      · have h := Nat.eq_of_beq_eq_true h
        subst h
        obtain ⟨f1, f2⟩ := g6 (Or.inl rfl)
        rw [f1] at c2
        rw [am_cw0 f2] at hMM c1
        exact vx_runS (As := ((st.take (am_na z)).reverse).map (am_cv r)) (rest := (st.drop (am_na z)).map (am_cv r)) hFix hMM (va_cwS (am_na z) hts (am_gws (g4 ⟨by decide, by decide, by decide⟩) c2 c3 c1) rfl rfl rfl ⟨c7, c8, c6⟩ (hrm c9)) ⟨am_B_blind, fun U hU hW => ⟨rfl, hBU U hU hW⟩⟩ rfl e2 hsz (by show st1 = _; rw [hk0, e1]) (lv_room (by rw [am_sum hrk]; exact hsum)) hd ⟨hcR, hsR⟩
      · have h := Nat.eq_of_beq_eq_true h
        subst h
        obtain ⟨v, hv⟩ := hmo (by omega)
        subst hv
        obtain ⟨f1, f2⟩ := g6 (Or.inr rfl)
        rw [f1] at c2
        have hM2 := am_met_of hMM am_XC_no
        rw [am_cw0 f2] at hM2 c1
        exact am_va_vx (va_runSN (host := "EchoCanyon") (As := ((st.take (am_na z)).reverse).map (am_cv r)) (rest := (st.drop (am_na z)).map (am_cv r)) hFix hM2 ⟨va_cnB (am_na z) hts (am_GC c1) rfl rfl rfl (hS2.2.2.2.2.2.1 _ _ _ _ hpm (Or.inl rfl)) (hts _ c3) ⟨c7, c8, c6⟩ (hrm c9), hts _ c2, trivial⟩ ⟨am_B_blind, fun U hU hW => ⟨rfl, hBU U hU hW⟩⟩ rfl e2 hsz (by show st1 = _; rw [hk0, e1]) (lv_room (by rw [am_sum hrk]; exact hsum)) hd ⟨hcR, hsR⟩)
      · have h := Nat.eq_of_beq_eq_true h
        subst h
        obtain ⟨f1, q, t, f2⟩ := g8 rfl
        rw [f1] at c2
        rw [am_cw1 f2] at hMM c1
        exact vx_runSX (As := ((st.take (am_na z)).reverse).map (am_cv r)) (rest := (st.drop (am_na z)).map (am_cv r)) hFix hMM (vx_cwSW (am_na z) hts (am_gws (g4 ⟨by decide, by decide, by decide⟩) c2 c3 c1) rfl rfl rfl ⟨c7, c8, c6⟩ (hrm c9)) ⟨am_B_blind, fun U hU hW => ⟨rfl, hBU U hU hW⟩⟩ rfl e2 hsz (by show st1 = _; rw [hk0, e1]) (lv_room (by rw [am_sum hrk]; exact hsum)) hd ⟨hcR, hsR⟩
  | _ => first | (cases hc; done) | exact absurd hc (by simp [am_call])
theorem am_call_z {i : Instr} {z mo : Nat} {As rest : List Value} (hc : am_call y i st = some (z, mo, As, rest)) : z < 217 ∧ z ≠ iL_law := by
  have key : ∀ {k : Nat}, am_pm (am_cl y) k = some (z, mo) → z < 217 ∧ z ≠ iL_law := fun h => ⟨(am_pm_sp h).1, (am_pm_sp h).2.1⟩
  cases i with
  | invokevirtual j =>
    simp only [am_call] at hc
    split at hc
    · rename_i hpm
      split at hc
      · obtain ⟨-, hc⟩ := am_if_inv hc
        cases hc
        exact key hpm
      · cases hc
    · cases hc
  | invokespecial j =>
    simp only [am_call] at hc
    split at hc
    · rename_i z1 m1 hpm
      cases hmm : (Nat.beq m1 3 || Nat.beq m1 4) with
      | true =>
        rw [hmm] at hc
        dsimp only [cond_true] at hc
        split at hc
        · cases hc
          exact key hpm
        · cases hc
      | false =>
        rw [hmm] at hc
        dsimp only [cond_false] at hc
        obtain ⟨-, hc⟩ := am_if_inv hc
        split at hc
        · obtain ⟨-, hc⟩ := am_if_inv hc
          cases hc
          exact key hpm
        · cases hc
    · cases hc
  | invokestatic j =>
    simp only [am_call] at hc
    split at hc
    · rename_i hpm
      obtain ⟨-, hc⟩ := am_if_inv hc
      cases hc
      exact key hpm
    · cases hc
  | _ => first | (cases hc; done) | exact absurd hc (by simp [am_call])
theorem am_new_ok {i : Instr} {st1 : List Value} {M1 : am_M} {n : Nat} (C : am_X D ca B0 E L0 xs l p s m args meth c y) (hp : am_pr y pc = some (i, nx, tg)) (hs : am_new y i st M = some (st1, M1, n)) (hcells : cells + 1 ≤ R.cells) (hslots : slots + n ≤ R.slots)
    (k : am_W D ca B0 E L0 xs p l e R s m args below meth c y Q r0 ks0 n0 (cells + 1) (slots + n) nx L st1 M1) : am_W D ca B0 E L0 xs p l e R s m args below meth c y Q r0 ks0 n0 cells slots pc L st M := by
  obtain ⟨hd, ho⟩ := am_pr_ok hp
  cases i with
  | new j => exact am_nw_new C hd ho hs hcells hslots k
  | newarray t => exact am_nw_arr C hd ho hs hcells hslots k
  | anewarray j => exact am_nw_anw C hd ho hs hcells hslots k
  | _ => first | (cases hs; done) | exact absurd hs (by simp [am_new])
end AMC
/-- a run of the abstract machine is one of the machine; Q: what is owed at an end and at an exception that nothing here takes -/
def am_Go (f d y pc : Nat) (L : am_L) (st : List Value) (M : am_M) : Prop :=
  ∀ (o : am_O) (M1 : am_M) (k sl : Nat), am_run f d y pc L st M = some (o, M1, k, sl) → ∀ (D : va_G) (ca : Nat → ClassId) (B0 : Nat) (E : Nat → Nat) (L0 : Nat) (xs : Nat → Int32) (p : Program) (l : Launch) (e : Env) (R : Room) (s : State) (m : MethodId) (args : Array Value) (below : List Frame) (meth : Method) (c : Code) (Q : State → Prop) (r0 ks0 : Nat → Nat) (n0 cells slots K S : Nat),
    am_X D ca B0 E L0 xs l p s m args meth c y → d + 10 ≤ R.frames → 200 + 40 * d ≤ R.locals → cells + k ≤ R.cells → slots + sl ≤ R.slots → cells + k ≤ K → slots + sl ≤ S →
    (∀ (pc : Nat) (i : Instr) (nx tg : Nat) (L : am_L) (st : List Value) (M' : am_M) (k' sl' cells slots : Nat), am_pr y pc = some (i, nx, tg) → am_end y i pc st M' = some (o, M1, k', sl') → cells + k' ≤ R.cells → slots + sl' ≤ R.slots → cells + k' ≤ K → slots + sl' ≤ S → am_W D ca B0 E L0 xs p l e R s m args below meth c y Q r0 ks0 n0 cells slots pc L st M') →
    (∀ (x pc : Nat) (r ks : Nat → Nat) (H : Heap) (locs : List Loc) (ls : Array Slot) (rest : List Value) (q : Addr) (ce : Cell) (cells slots : Nat), o = .inr x → x < 6 → am_hr pc x (am_hh y) = none → am_ext r0 ks0 n0 r ks (am_n M1) → am_Rp D ca B0 E L0 xs r ks M1 H → va_S (fun q : Nat => B0 ≤ q) s.heap H locs → H[q]? = some ce → ce.vm = .none → s.vm.findClass (am_xn x) = some ce.cls → cells ≤ K → slots ≤ S → vx_W p l e R s m args below meth c H locs cells slots Q (F0 m pc ls rest) q) →
    am_W D ca B0 E L0 xs p l e R s m args below meth c y Q r0 ks0 n0 cells slots pc L st M
theorem am_cn_of {f d z : Nat} {As : List Value} {M M1 : am_M} {o : am_O} {k sl : Nat} {l : Launch} (hst : l.stackTraces = false) (hz : z < 217) (hlw : z ≠ iL_law) (hcat : ∀ v ∈ As, v.category = 1) (hlen : As.length ≤ am_ml z) (hrun : am_run f d z 0 (am_ent z As) [] M = some (o, M1, k, sl)) (ih : am_Go f d z 0 (am_ent z As) [] M) : am_Cn l d z As M o M1 k sl := by
  intro D ca B0 E L0 xs r ks hE hvo
  obtain ⟨c1, c2, c3, c4, c5, c6, c7, c8, c9, c10⟩ := am_cm_sp hz hlw
  have body : ∀ (ws : List Cond) (p : Program) (e : Env) (s : State) (m : MethodId) (args : Array Value) (below : List Frame) (meth : Method) (c : Code) (s₁ : State), (∀ w ∈ am_G, w ∈ ws) → BodyLoose p l (am_y z) (headSpec ws ({ frames := d + 10, cells := k, slots := sl, locals := 200 + 40 * d })) (am_b z) (am_ml z) (am_rt z) e s m args below meth c s₁ → c.maxLocals = am_ml z → c.exceptionTable.toList = tableOf (am_hh z) → va_Pc (As.map (am_cv r)) (am_B D ca B0 E L0 xs r ks M) args s →
      W p l e ({ frames := d + 10, cells := k, slots := sl, locals := 200 + 40 * d }) s m args below meth c s.heap [] 0 0 (vx_MQ below (am_Qc D ca B0 E L0 xs r ks (am_n M) o M1) (am_XC D ca B0 E L0 xs r ks (am_n M) o M1) args s k sl (fun q : Nat => B0 ≤ q)) (entryFrame m args (am_ml z)) := by
    intro ws p e s m args below meth c s₁ hG B hml htab hv
    obtain ⟨rfl, hRp, hS0, hS2, hK, hB0⟩ := hv
    have hts0 := atoms_spec (ws := ws) B.pre
    have hown : s.vm.findClass (am_cn (am_cl z)) = some m.cls := by rw [← c5]; exact findClass_of_methodNamed B.named
    have X : am_X D ca B0 E L0 xs l p s m (As.map (am_cv r)).toArray meth c z := ⟨B.exec, B.bytes, hml, hown, fun w hw => hts0 w (hG w hw), B.notSynchronized, B.returns, fun hi => ((name_of_methodNamed B.named B.method).1).trans (c10 hi).1, hK, hS0, hS2, hB0, hE, hst, htab⟩
    rw [lg_entry_eq]
    refine ih o M1 k sl hrun D ca B0 E L0 xs p l e _ s m _ below meth c _ r ks (am_n M) 0 0 k sl X (Nat.le_refl _) (Nat.le_refl _) (by show 0 + k ≤ k; omega) (by show 0 + sl ≤ sl; omega) (by omega) (by omega) ?_ ?_ r ks s.heap [] _ [] (am_ext_rf r ks _) hRp va_S.rf (am_ent_len hlen) (am_Lo_ent hcat hlen hvo) ⟨rfl, fun v hv => by cases hv⟩
    · intro pc i nx tg L st M' k' sl' cells slots hp he h1 h2 h3 h4
      exact am_end_ok X (by show 8 ≤ d + 10; omega) (by show 200 ≤ 200 + 40 * d; omega) hp he h1 h2 h3 h4
    · intro x pc r1 ks1 H locs ls rest q ce cells slots ho hx6 hno he hR hV hq hv hcl h1 h2
      refine vx_outP (own := am_cn (am_cl z)) hown B.notSynchronized (fun zz hzz => ?_) hq hv hcl (fun t ht _ => ⟨x, r1, ks1, ho, hx6, rfl, he, by rw [ht]; exact hR, hV.F ht⟩) hV.2.2 h1 h2
      rw [htab] at hzz
      obtain ⟨q9, hq9, rfl⟩ := List.mem_map.mp hzz
      obtain ⟨t1, t2, t3⟩ := am_hck_sp hz hq9
      rcases am_hr_no pc x _ hno q9 hq9 with h9 | h9
      · exact Or.inl h9
      · exact Or.inr ⟨t2, am_xn (am_xl q9.2.2.2), hts0 _ (hG _ t3), hS2.2.1 x _ hx6 t1 (Ne.symm h9)⟩
  cases hh : am_hh z with
  | nil =>
    rw [am_cw0 hh]
    refine vx_ofW c4 rfl ?_
    intro p e s m args below meth c s₁ B hml ht hv
    refine body _ p e s m args below meth c s₁ (fun w hw => List.mem_cons_of_mem _ hw) B hml ?_ hv
    rw [hh]
    exact List.eq_nil_iff_forall_not_mem.mpr fun q hq => ht q hq
  | cons q t =>
    rw [am_cw1 hh]
    refine vx_ofWH c4 rfl ?_
    intro p e s m args below meth c s₁ B hml hv
    refine body _ p e s m args below meth c s₁ (fun w hw => List.mem_cons_of_mem _ hw) B hml ?_ hv
    exact vx_table (x := am_y z) B (atoms_spec (ws := .codeWith (am_y z) (am_b z) (am_ml z) (am_rt z) (am_hh z) :: am_G) B.pre _ List.mem_cons_self)
theorem am_caught {D : va_G} {ca : Nat → ClassId} {B0 : Nat} {E : Nat → Nat} {L0 : Nat} {xs : Nat → Int32} {p : Program} {l : Launch} {e : Env} {R : Room} {s : State} {m : MethodId} {args : Array Value} {below : List Frame} {meth : Method} {c : Code} {y : Nat} {Q : State → Prop} {cells slots pc x hd0 : Nat} {H : Heap} {locs : List Loc} {ls : Array Slot} {rest : List Value} {q : Addr} {ce : Cell} (C : am_X D ca B0 E L0 xs l p s m args meth c y) (hy : y < 217) (hh : am_hr pc x (am_hh y) = some hd0) (hx6 : x < 6) (hq : H[q]? = some ce) (hv : ce.vm = .none) (hcl : s.vm.findClass (am_xn x) = some ce.cls)
    (kk : W p l e R s m args below meth c H locs cells slots Q (F0 m hd0 ls [.ref q])) : vx_W p l e R s m args below meth c H locs cells slots Q (F0 m pc ls rest) q := by
  obtain ⟨hx, hb, hml, hown, hts, hlk, hrt, hin, hK, hS0, hS2, hB0, hE, hst, het⟩ := C
  obtain ⟨pre, q9, suf, e1, e2, e3, e4, e5, e6⟩ := am_hr_sp pc x _ _ hh
  have hmem : q9 ∈ am_hh y := by rw [e1]; exact List.mem_append_right _ List.mem_cons_self
  obtain ⟨t1, t2, t3⟩ := am_hck_sp hy hmem
  subst e4
  refine vx_catch (own := am_cn (am_cl y)) (name := am_xn (am_xl q9.2.2.2)) hown (tableOf pre) ⟨q9.1, q9.2.1, q9.2.2.1, q9.2.2.2⟩ (tableOf suf) (by rw [het, e1]; simp [tableOf]) (fun z hz => ?_) (by simp [covers, e2, e3]) t2 (hts _ t3) (by rw [e5]; exact va_Nw.use rfl (hS2.2.2.2.2.2.2.2 x hx6)) hq hv hcl kk
  obtain ⟨q8, hq8, rfl⟩ := List.mem_map.mp hz
  have hm8 : q8 ∈ am_hh y := by rw [e1]; exact List.mem_append_left _ hq8
  obtain ⟨u1, u2, u3⟩ := am_hck_sp hy hm8
  rcases e6 q8 hq8 with h9 | h9
  · exact Or.inl h9
  · exact Or.inr ⟨u2, am_xn (am_xl q8.2.2.2), hts _ u3, hS2.2.1 x _ hx6 u1 (Ne.symm h9)⟩
theorem am_Sk_res {r ks : Nat → Nat} {n : Nat} {st st' : List Value} {v : Option Value} (hv : ∀ w, v = some w → am_vok ks n w) (h : am_Sk r ks n st st') : am_Sk r ks n (v.toList ++ st) ((v.map (am_cv r)).toList ++ st') := by
  cases v with
  | none => exact h
  | some w => exact am_Sk_cons (hv w rfl) h
/-- THE SOUNDNESS OF THE ABSTRACT MACHINE -/
theorem am_main : ∀ (f d y pc : Nat) (L : am_L) (st : List Value) (M : am_M), am_Go f d y pc L st M := by
  intro f
  induction f with
  | zero =>
    intro d y pc L st M o M1 k sl h
    simp [am_run] at h
  | succ f ih =>
    intro d y pc L st M o M1 k sl hrun D ca B0 E L0 xs p l e R s m args below meth c Q r0 ks0 n0 cells slots K S C hRf hRl hcR hsR hcK hsK hEnd hThr
    have C0 := C
    obtain ⟨hx, hb, hml, hown, hts, hlk, hrt, hin, hK, hS0, hS2, hB0, hE, hst, het⟩ := C0
    simp only [am_run] at hrun
    cases hp : am_pr y pc with
    | none => rw [hp] at hrun; cases hrun
    | some q =>
      obtain ⟨i, nx, tg⟩ := q
      rw [hp] at hrun
      dsimp only at hrun
      cases hs : am_stp y i pc nx tg L st M with
      | some x =>
        obtain ⟨pc', L', st', M'⟩ := x
        rw [hs] at hrun
        dsimp only at hrun
        exact am_stp_ok C (by omega) (by omega) ⟨by omega, by omega⟩ hp hs (ih d y pc' L' st' M' o M1 k sl hrun D ca B0 E L0 xs p l e R s m args below meth c Q r0 ks0 n0 cells slots K S C hRf hRl hcR hsR hcK hsK hEnd hThr)
      | none =>
        rw [hs] at hrun
        dsimp only at hrun
        cases he : am_end y i pc st M with
        | some r =>
          rw [he] at hrun
          dsimp only at hrun
          cases hrun
          exact hEnd pc i nx tg L st M k sl cells slots hp he hcR hsR hcK hsK
        | none =>
          rw [he] at hrun
          dsimp only at hrun
          cases hn : am_new y i st M with
          | some r =>
            obtain ⟨st', M', n⟩ := r
            rw [hn] at hrun
            dsimp only at hrun
            obtain ⟨k', s', h1, h2, h3⟩ := am_add_inv hrun
            exact am_new_ok C hp hn (by omega) (by omega) (ih d y nx L st' M' o M1 k' s' h1 D ca B0 E L0 xs p l e R s m args below meth c Q r0 ks0 n0 (cells + 1) (slots + n) K S C hRf hRl (by omega) (by omega) (by omega) (by omega) hEnd hThr)
          | none =>
            rw [hn] at hrun
            dsimp only at hrun
            cases hcl : am_call y i st with
            | none => rw [hcl] at hrun; cases d <;> cases hrun
            | some q =>
              obtain ⟨z, mo, As, rest⟩ := q
              rw [hcl] at hrun
              cases d with
              | zero => cases hrun
              | succ d =>
                dsimp only at hrun
                obtain ⟨hg, hrun⟩ := am_if_inv hrun
                rw [Bool.and_eq_true, Bool.and_eq_true] at hg
                obtain ⟨⟨hsum, hcat⟩, hlen⟩ := hg
                have hsum := Nat.le_of_ble_eq_true hsum
                have hlen := Nat.le_of_ble_eq_true hlen
                have hcat : ∀ v ∈ As, v.category = 1 := fun v hv => Nat.eq_of_beq_eq_true (List.all_eq_true.mp hcat v hv)
                obtain ⟨hz, hzl⟩ := am_call_z hcl
                cases hcr : am_run f d z 0 (am_ent z As) [] M with
                | none => rw [hcr] at hrun; cases hrun
                | some r =>
                  obtain ⟨o', M', k', s'⟩ := r
                  rw [hcr] at hrun
                  have hCn : am_Cn l d z As M o' M' k' s' := am_cn_of hst hz hzl hcat hlen hcr (ih d z 0 (am_ent z As) [] M)
                  cases o' with
                  | inl v =>
                    dsimp only at hrun
                    obtain ⟨k2, s2, h1, h2, h3⟩ := am_add_inv hrun
                    intro r ks H locs ls st1 he1 hR hV hl hL hk
                    obtain ⟨rest1, hrk, hnx, hrx⟩ := am_call_ok (cells := cells) (slots := slots) C hp hcl hsum hCn (fun _ => ⟨v, rfl⟩) (by omega) (by omega) (by omega) (by omega) hR hV hl hL hk
                    subst hnx
                    refine am_callx hrx hV (fun v1 r1 ks1 H1 locs1 ho he2 hR1 hvo hV1 => ?_) (fun x r1 ks1 H1 locs1 q ce ho => by cases ho)
                    cases ho
                    exact ih (d + 1) y (pc + 3) L (v.toList ++ rest) M' o M1 k2 s2 h1 D ca B0 E L0 xs p l e R s m args below meth c Q r0 ks0 n0 (cells + k') (slots + s') K S C hRf hRl (by omega) (by omega) (by omega) (by omega) hEnd hThr r1 ks1 H1 locs1 ls _ (am_ext_tr he1 he2) hR1 hV1 hl (am_Lo_ext hL he2) (am_Sk_res hvo (am_Sk_ext hrk he2))
                  | inr x =>
                    dsimp only at hrun
                    cases hb2 : (Nat.beq mo 2 || Nat.beq mo 3 || Nat.beq mo 4 || Nat.ble 6 mo) with
                    | true => rw [hb2] at hrun; cases hrun
                    | false =>
                      rw [hb2] at hrun
                      dsimp only [cond_false] at hrun
                      have hmo : mo = 2 ∨ mo = 3 ∨ mo = 4 ∨ 6 ≤ mo → ∃ v, (Sum.inr x : am_O) = .inl v := by
                        intro h
                        exfalso
                        rcases h with h | h | h | h
                        · subst h; cases hb2
                        · subst h; cases hb2
                        · subst h; cases hb2
                        · rw [Nat.ble_eq_true_of_le h, Bool.or_true] at hb2; cases hb2
                      cases hh : am_hr pc x (am_hh y) with
                      | none =>
                        rw [hh] at hrun
                        dsimp only at hrun
                        cases hrun
                        intro r ks H locs ls st1 he1 hR hV hl hL hk
                        obtain ⟨rest1, hrk, hnx, hrx⟩ := am_call_ok (cells := cells) (slots := slots) C hp hcl hsum hCn hmo (by omega) (by omega) (by omega) (by omega) hR hV hl hL hk
                        subst hnx
                        refine am_callx hrx hV (fun v1 r1 ks1 H1 locs1 ho => by cases ho) (fun x1 r1 ks1 H1 locs1 q ce ho hx6 he2 hR1 hV1 hq hv hcl9 => ?_)
                        cases ho
                        exact hThr x pc r1 ks1 H1 locs1 ls rest1 q ce _ _ rfl hx6 hh (am_ext_tr he1 he2) hR1 hV1 hq hv hcl9 (by omega) (by omega)
                      | some hd0 =>
                        rw [hh] at hrun
                        dsimp only at hrun
                        split at hrun
                        · rename_i j nx' tg' hph
                          cases hclr : am_clr L j.val with
                          | none => rw [hclr] at hrun; cases hrun
                          | some L' =>
                            rw [hclr] at hrun
                            dsimp only at hrun
                            obtain ⟨k2, s2, h1, h2, h3⟩ := am_add_inv hrun
                            obtain ⟨hd2, ho2⟩ := am_pr_ok hph
                            have hn2 : nx' = hd0 + 1 := by simpa [am_ok1, am_len] using ho2
                            subst hn2
                            rw [Nat.add_sub_cancel_left] at hd2
                            intro r ks H locs ls st1 he1 hR hV hl hL hk
                            obtain ⟨rest1, hrk, hnx, hrx⟩ := am_call_ok (cells := cells) (slots := slots) C hp hcl hsum hCn hmo (by omega) (by omega) (by omega) (by omega) hR hV hl hL hk
                            subst hnx
                            refine am_callx hrx hV (fun v1 r1 ks1 H1 locs1 ho => by cases ho) (fun x1 r1 ks1 H1 locs1 q ce ho hx6 he2 hR1 hV1 hq hv hcl9 => ?_)
                            cases ho
                            refine am_caught C (am_pr_lt hp).1 hh hx6 hq hv hcl9 ?_
                            have hcs := am_clr_spec _ _ _ hclr
                            have hL1 := am_Lo_ext hL he2
                            refine lv_astore_n hx hb hd2 rfl (am_Lo_has hL1) hcs.2.1 rfl fun ls1 hls1 => ?_
                            exact ih (d + 1) y (hd0 + 1) L' [] M' o M1 k2 s2 h1 D ca B0 E L0 xs p l e R s m args below meth c Q r0 ks0 n0 (cells + k') (slots + s') K S C hRf hRl (by omega) (by omega) (by omega) (by omega) hEnd hThr r1 ks1 H1 locs1 ls1 [] (am_ext_tr he1 he2) hR1 hV1 (hcs.1.trans hl) (am_Lo_clr hL1 hclr hls1) ⟨rfl, fun v hv => by cases hv⟩
                        · rename_i j nx' tg' hph
                          cases hclr : am_clr L j with
                          | none => rw [hclr] at hrun; cases hrun
                          | some L' =>
                            rw [hclr] at hrun
                            dsimp only at hrun
                            obtain ⟨k2, s2, h1, h2, h3⟩ := am_add_inv hrun
                            obtain ⟨hd2, ho2⟩ := am_pr_ok hph
                            have hn2 : nx' = hd0 + 2 := by simpa [am_ok1, am_len] using ho2
                            subst hn2
                            rw [Nat.add_sub_cancel_left] at hd2
                            intro r ks H locs ls st1 he1 hR hV hl hL hk
                            obtain ⟨rest1, hrk, hnx, hrx⟩ := am_call_ok (cells := cells) (slots := slots) C hp hcl hsum hCn hmo (by omega) (by omega) (by omega) (by omega) hR hV hl hL hk
                            subst hnx
                            refine am_callx hrx hV (fun v1 r1 ks1 H1 locs1 ho => by cases ho) (fun x1 r1 ks1 H1 locs1 q ce ho hx6 he2 hR1 hV1 hq hv hcl9 => ?_)
                            cases ho
                            refine am_caught C (am_pr_lt hp).1 hh hx6 hq hv hcl9 ?_
                            have hcs := am_clr_spec _ _ _ hclr
                            have hL1 := am_Lo_ext hL he2
                            refine lv_astore hx hb hd2 (am_Lo_has hL1) hcs.2.1 rfl fun ls1 hls1 => ?_
                            exact ih (d + 1) y (hd0 + 2) L' [] M' o M1 k2 s2 h1 D ca B0 E L0 xs p l e R s m args below meth c Q r0 ks0 n0 (cells + k') (slots + s') K S C hRf hRl (by omega) (by omega) (by omega) (by omega) hEnd hThr r1 ks1 H1 locs1 ls1 [] (am_ext_tr he1 he2) hR1 hV1 (hcs.1.trans hl) (am_Lo_clr hL1 hclr hls1) ⟨rfl, fun v hv => by cases hv⟩
                        · cases hrun
