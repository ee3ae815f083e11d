/-! WHAT A RUN COMES TO, without fuel and depth -/
theorem am_mono : ∀ (f d y pc : Nat) (L : am_L) (st : List Value) (M : am_M) (r : am_O × am_M × Nat × Nat), am_run f d y pc L st M = some r → ∀ (f' d' : Nat), f ≤ f' → d ≤ d' → am_run f' d' y pc L st M = some r := by
  intro f
  induction f with
  | zero =>
    intro d y pc L st M r h
    simp [am_run] at h
  | succ f ih =>
    intro d y pc L st M r h f' d' hf hd
    obtain ⟨f', rfl⟩ : ∃ k, f' = k + 1 := ⟨f' - 1, by omega⟩
    have hf : f ≤ f' := by omega
    simp only [am_run] at h ⊢
    cases hp : am_pr y pc with
    | none => rw [hp] at h; cases h
    | some q =>
      obtain ⟨i, nx, tg⟩ := q
      rw [hp] at h
      dsimp only at h ⊢
      cases hs : am_stp y i pc nx tg L st M with
      | some x =>
        obtain ⟨pc', L', st', M'⟩ := x
        rw [hs] at h
        dsimp only at h ⊢
        exact ih _ _ _ _ _ _ _ h f' d' hf hd
      | none =>
        rw [hs] at h
        dsimp only at h ⊢
        cases he : am_end y i pc st M with
        | some x => rw [he] at h; exact h
        | none =>
          rw [he] at h
          dsimp only at h ⊢
          cases hn : am_new y i st M with
          | some x =>
            obtain ⟨st', M', n⟩ := x
            rw [hn] at h
            dsimp only at h ⊢
            cases hr : am_run f d y nx L st' M' with
            | none => rw [hr] at h; cases h
            | some x => rw [hr] at h; rw [ih _ _ _ _ _ _ _ hr f' d' hf hd]; exact h
          | none =>
            rw [hn] at h
            dsimp only at h ⊢
            cases hcl : am_call y i st with
            | none => rw [hcl] at h; cases d <;> cases h
            | some q =>
              obtain ⟨z, mo, As, rest⟩ := q
              rw [hcl] at h
              cases d with
              | zero => cases h
              | succ d =>
                obtain ⟨d', rfl⟩ : ∃ k, d' = k + 1 := ⟨d' - 1, by omega⟩
                dsimp only at h ⊢
                obtain ⟨hg, h⟩ := am_if_inv h
                rw [hg]
                dsimp only [cond_true]
                cases hr : am_run f d z 0 (am_ent z As) [] M with
                | none => rw [hr] at h; cases h
                | some x =>
                  obtain ⟨o, M1, k, s⟩ := x
                  rw [hr] at h
                  rw [ih _ _ _ _ _ _ _ hr f' d' hf (by omega)]
                  have key : ∀ (y pc : Nat) (L : am_L) (st : List Value) (M : am_M), am_add (am_run f (d + 1) y pc L st M) k s = some r → am_add (am_run f' (d' + 1) y pc L st M) k s = some r := by
                    intro y pc L st M h9
                    cases hr9 : am_run f (d + 1) y pc L st M with
                    | none => rw [hr9] at h9; cases h9
                    | some x => rw [hr9] at h9; rw [ih _ _ _ _ _ _ _ hr9 f' (d' + 1) hf (by omega)]; exact h9
                  cases o with
                  | inl v => exact key _ _ _ _ _ h
                  | inr e =>
                    dsimp only at h ⊢
                    cases hb : (Nat.beq mo 2 || Nat.beq mo 3 || Nat.beq mo 4 || Nat.ble 6 mo) with
                    | true => rw [hb] at h; cases h
                    | false =>
                      rw [hb] at h
                      dsimp only [cond_false] at h ⊢
                      cases hh : am_hr pc e (am_hh y) with
                      | none => rw [hh] at h; exact h
                      | some hd0 =>
                        rw [hh] at h
                        dsimp only at h ⊢
                        split at h
                        · rename_i j nx' tg' hph
                          cases hcl2 : am_clr L j.val with
                          | none => rw [hcl2] at h; cases h
                          | some L' => rw [hcl2] at h; exact key _ _ _ _ _ h
                        · rename_i j nx' tg' hph
                          cases hcl2 : am_clr L j with
                          | none => rw [hcl2] at h; cases h
                          | some L' => rw [hcl2] at h; exact key _ _ _ _ _ h
                        · cases h
abbrev am_T : Type := Option (am_O × am_M × Nat × Nat)
def am_gets (y pc : Nat) (L : am_L) (st : List Value) (M : am_M) (r : am_O × am_M × Nat × Nat) : Prop := ∃ f d, am_run f d y pc L st M = some r
theorem am_gets_det {y pc : Nat} {L : am_L} {st : List Value} {M : am_M} {r r' : am_O × am_M × Nat × Nat} (h : am_gets y pc L st M r) (h' : am_gets y pc L st M r') : r = r' := by
  obtain ⟨f, d, h⟩ := h
  obtain ⟨f', d', h'⟩ := h'
  have a := am_mono _ _ _ _ _ _ _ _ h (f + f') (d + d') (by omega) (by omega)
  have b := am_mono _ _ _ _ _ _ _ _ h' (f + f') (d + d') (by omega) (by omega)
  exact Option.some.inj (a.symm.trans b)
noncomputable def am_val (y pc : Nat) (L : am_L) (st : List Value) (M : am_M) : am_T := by
  classical
  exact if h : ∃ r, am_gets y pc L st M r then some (Classical.choose h) else none
theorem am_val_of {y pc : Nat} {L : am_L} {st : List Value} {M : am_M} {r : am_O × am_M × Nat × Nat} (h : am_gets y pc L st M r) : am_val y pc L st M = some r := by
  have hx : ∃ r, am_gets y pc L st M r := ⟨r, h⟩
  unfold am_val
  rw [dif_pos hx]
  exact congrArg some (am_gets_det (Classical.choose_spec hx) h)
theorem am_val_gets {y pc : Nat} {L : am_L} {st : List Value} {M : am_M} {r : am_O × am_M × Nat × Nat} (h : am_val y pc L st M = some r) : am_gets y pc L st M r := by
  unfold am_val at h
  split at h
  · rename_i hx
    cases h
    exact Classical.choose_spec hx
  · cases h
theorem am_val_iff {y pc : Nat} {L : am_L} {st : List Value} {M : am_M} {v : am_T} (h1 : ∀ r, v = some r → am_gets y pc L st M r) (h2 : ∀ r, am_gets y pc L st M r → v = some r) : am_val y pc L st M = v := by
  cases v with
  | some r => exact am_val_of (h1 r rfl)
  | none =>
    cases hv : am_val y pc L st M with
    | none => rfl
    | some r => exact absurd (h2 r (am_val_gets hv)) (by simp)
/-- one instruction -/
theorem am_vs {y pc nx tg pc' : Nat} {i : Instr} {L L' : am_L} {st st' : List Value} {M M' : am_M} (hp : am_pr y pc = some (i, nx, tg)) (hs : am_stp y i pc nx tg L st M = some (pc', L', st', M')) : am_val y pc L st M = am_val y pc' L' st' M' := by
  refine am_val_iff (fun r h => ?_) (fun r h => ?_)
  · obtain ⟨f, d, h⟩ := am_val_gets h
    refine ⟨f + 1, d, ?_⟩
    simp only [am_run, hp, hs]
    exact h
  · obtain ⟨f, d, h⟩ := h
    cases f with
    | zero => simp [am_run] at h
    | succ f =>
      simp only [am_run, hp, hs] at h
      exact am_val_of ⟨f, d, h⟩
/-- an end -/
theorem am_ve {y pc nx tg : Nat} {i : Instr} {L : am_L} {st : List Value} {M : am_M} {r : am_O × am_M × Nat × Nat} (hp : am_pr y pc = some (i, nx, tg)) (hs : am_stp y i pc nx tg L st M = none) (he : am_end y i pc st M = some r) : am_val y pc L st M = some r :=
  am_val_of ⟨1, 0, by simp only [am_run, hp, hs, he]⟩
/-- behind a call -/
def am_bnx (r : am_T) (c : Option Value → am_M → am_T) (x : Nat → am_M → am_T) : am_T := match r with
  | some (.inl v, M1, k, s) => am_add (c v M1) k s
  | some (.inr e, M1, k, s) => am_add (x e M1) k s
  | none => none
noncomputable def am_hx (y pc mo : Nat) (L : am_L) (e : Nat) (M1 : am_M) : am_T := bif (Nat.beq mo 2 || Nat.beq mo 3 || Nat.beq mo 4 || Nat.ble 6 mo) then none else
  (match am_hr pc e (am_hh y) with
  | none => some (.inr e, M1, 0, 0)
  | some h => (match am_pr y h with
    | some (.astore_n j, nx', _) => (match am_clr L j.val with
      | some L' => am_val y nx' L' [] M1
      | none => none)
    | some (.astore j, nx', _) => (match am_clr L j with
      | some L' => am_val y nx' L' [] M1
      | none => none)
    | _ => none))
theorem am_add_some {r : am_T} {k s : Nat} {x : am_O × am_M × Nat × Nat} (h : am_add r k s = some x) : ∃ k' s', r = some (x.1, x.2.1, k', s') ∧ x.2.2.1 = k + k' ∧ x.2.2.2 = s + s' := by
  obtain ⟨o, M, k1, s1⟩ := x
  obtain ⟨k', s', h1, h2, h3⟩ := am_add_inv h
  exact ⟨k', s', h1, h2, h3⟩
theorem am_vc {y pc nx tg z mo : Nat} {i : Instr} {L : am_L} {st As rest : List Value} {M : am_M} (hp : am_pr y pc = some (i, nx, tg)) (hs : am_stp y i pc nx tg L st M = none) (he : am_end y i pc st M = none) (hn : am_new y i st M = none) (hc : am_call y i st = some (z, mo, As, rest))
    (hk : (Nat.ble (rest.map Value.category).sum 8 && As.all (fun v => Nat.beq v.category 1) && Nat.ble As.length (am_ml z)) = true) :
    am_val y pc L st M = am_bnx (am_val z 0 (am_ent z As) [] M) (fun v M1 => am_val y nx L (v.toList ++ rest) M1) (am_hx y pc mo L) := by
  refine am_val_iff (fun r h => ?_) (fun r h => ?_)
  · cases hv : am_val z 0 (am_ent z As) [] M with
    | none => rw [hv] at h; cases h
    | some x =>
      obtain ⟨o, M1, k, s⟩ := x
      rw [hv] at h
      obtain ⟨f, d, hr⟩ := am_val_gets hv
      have key : ∀ (y pc : Nat) (L : am_L) (st : List Value) (M : am_M), am_add (am_val y pc L st M) k s = some r → ∃ f' d', am_add (am_run f' (d' + 1) y pc L st M) k s = some r := by
        intro y pc L st M h9
        obtain ⟨k', s', g1, g2, g3⟩ := am_add_some h9
        obtain ⟨f', d', g4⟩ := am_val_gets g1
        refine ⟨f', d', ?_⟩
        rw [am_mono _ _ _ _ _ _ _ _ g4 f' (d' + 1) (Nat.le_refl _) (by omega)]
        rw [g1] at h9
        exact h9
      have up : ∀ (y pc : Nat) (L : am_L) (st : List Value) (M : am_M) (f' d' : Nat), am_add (am_run f' (d' + 1) y pc L st M) k s = some r → am_add (am_run (f + f') (d + d' + 1) y pc L st M) k s = some r := by
        intro y pc L st M f' d' h9
        cases hr9 : am_run f' (d' + 1) y pc L st M with
        | none => rw [hr9] at h9; cases h9
        | some x => rw [hr9] at h9; rw [am_mono _ _ _ _ _ _ _ _ hr9 (f + f') (d + d' + 1) (by omega) (by omega)]; exact h9
      cases o with
      | inl v =>
        obtain ⟨f', d', h9⟩ := key _ _ _ _ _ (show am_add (am_val y nx L (v.toList ++ rest) M1) k s = some r from h)
        refine ⟨f + f' + 1, d + d' + 1, ?_⟩
        simp only [am_run, hp, hs, he, hn, hc, hk, cond_true]
        rw [am_mono _ _ _ _ _ _ _ _ hr (f + f') (d + d') (by omega) (by omega)]
        exact up _ _ _ _ _ _ _ h9
      | inr e =>
        have h : am_add (am_hx y pc mo L e M1) k s = some r := h
        cases hb : (Nat.beq mo 2 || Nat.beq mo 3 || Nat.beq mo 4 || Nat.ble 6 mo) with
        | true =>
          unfold am_hx at h
          rw [hb] at h
          cases h
        | false =>
          unfold am_hx at h
          rw [hb] at h
          dsimp only [cond_false] at h
          cases hh : am_hr pc e (am_hh y) with
          | none =>
            rw [hh] at h
            refine ⟨f + 1, d + 1, ?_⟩
            simp only [am_run, hp, hs, he, hn, hc, hk, cond_true, hr, hb, cond_false, hh]
            exact h
          | some hd0 =>
            rw [hh] at h
            dsimp only at h
            split at h
            · rename_i j nx' tg' hph
              cases hcl2 : am_clr L j.val with
              | none => rw [hcl2] at h; cases h
              | some L' =>
                rw [hcl2] at h
                obtain ⟨f', d', h9⟩ := key _ _ _ _ _ h
                refine ⟨f + f' + 1, d + d' + 1, ?_⟩
                simp only [am_run, hp, hs, he, hn, hc, hk, cond_true]
                rw [am_mono _ _ _ _ _ _ _ _ hr (f + f') (d + d') (by omega) (by omega)]
                simp only [hb, cond_false, hh, hph, hcl2]
                exact up _ _ _ _ _ _ _ h9
            · rename_i j nx' tg' hph
              cases hcl2 : am_clr L j with
              | none => rw [hcl2] at h; cases h
              | some L' =>
                rw [hcl2] at h
                obtain ⟨f', d', h9⟩ := key _ _ _ _ _ h
                refine ⟨f + f' + 1, d + d' + 1, ?_⟩
                simp only [am_run, hp, hs, he, hn, hc, hk, cond_true]
                rw [am_mono _ _ _ _ _ _ _ _ hr (f + f') (d + d') (by omega) (by omega)]
                simp only [hb, cond_false, hh, hph, hcl2]
                exact up _ _ _ _ _ _ _ h9
            · cases h
  · obtain ⟨f, d, h⟩ := h
    cases f with
    | zero => simp [am_run] at h
    | succ f =>
      simp only [am_run, hp, hs, he, hn, hc] at h
      cases d with
      | zero => cases h
      | succ d =>
        simp only [hk, cond_true] at h
        cases hr : am_run f d z 0 (am_ent z As) [] M with
        | none => rw [hr] at h; cases h
        | some x =>
          obtain ⟨o, M1, k, s⟩ := x
          rw [hr] at h
          rw [am_val_of ⟨f, d, hr⟩]
          have key : ∀ (y pc : Nat) (L : am_L) (st : List Value) (M : am_M), am_add (am_run f (d + 1) y pc L st M) k s = some r → am_add (am_val y pc L st M) k s = some r := by
            intro y pc L st M h9
            obtain ⟨k', s', g1, -⟩ := am_add_some h9
            rw [g1] at h9
            rw [am_val_of ⟨f, d + 1, g1⟩]
            exact h9
          cases o with
          | inl v => exact key _ _ _ _ _ h
          | inr e =>
            show am_add (am_hx y pc mo L e M1) k s = some r
            unfold am_hx
            dsimp only at h
            cases hb : (Nat.beq mo 2 || Nat.beq mo 3 || Nat.beq mo 4 || Nat.ble 6 mo) with
            | true => rw [hb] at h; cases h
            | false =>
              rw [hb] at h
              dsimp only [cond_false] at h ⊢
              cases hh : am_hr pc e (am_hh y) with
              | none => rw [hh] at h; exact h
              | some hd0 =>
                rw [hh] at h
                dsimp only at h ⊢
                split at h
                · rename_i j nx' tg' hph
                  rw [hph]
                  dsimp only
                  cases hcl2 : am_clr L j.val with
                  | none => rw [hcl2] at h; cases h
                  | some L' => rw [hcl2] at h; exact key _ _ _ _ _ h
                · rename_i j nx' tg' hph
                  rw [hph]
                  dsimp only
                  cases hcl2 : am_clr L j with
                  | none => rw [hcl2] at h; cases h
                  | some L' => rw [hcl2] at h; exact key _ _ _ _ _ h
                · cases h
/-! how deep a method's calls go -/
def am_ht (y : Nat) : Nat := (bif Nat.ble 121 y then (bif Nat.ble 165 y then (bif Nat.ble 185 y then (bif Nat.ble 198 y then (bif Nat.ble 205 y then (bif Nat.ble 208 y then (bif Nat.ble 214 y then (bif Nat.ble 215 y then (bif Nat.beq y 215 then 1 else 0) else (bif Nat.beq y 214 then 2 else 0)) else (bif Nat.beq y 208 then 3 else 0)) else (bif Nat.ble 206 y then (bif Nat.ble 207 y then (bif Nat.beq y 207 then 1 else 0) else (bif Nat.beq y 206 then 1 else 0)) else (bif Nat.beq y 205 then 1 else 0))) else (bif Nat.ble 202 y then (bif Nat.ble 203 y then (bif Nat.ble 204 y then (bif Nat.beq y 204 then 4 else 0) else (bif Nat.beq y 203 then 2 else 0)) else (bif Nat.beq y 202 then 1 else 0)) else (bif Nat.ble 199 y then (bif Nat.beq y 199 then 1 else 0) else (bif Nat.beq y 198 then 3 else 0)))) else (bif Nat.ble 190 y then (bif Nat.ble 192 y then (bif Nat.ble 193 y then (bif Nat.ble 194 y then (bif Nat.beq y 194 then 1 else 0) else (bif Nat.beq y 193 then 5 else 0)) else (bif Nat.beq y 192 then 2 else 0)) else (bif Nat.ble 191 y then (bif Nat.beq y 191 then 4 else 0) else (bif Nat.beq y 190 then 1 else 0))) else (bif Nat.ble 187 y then (bif Nat.ble 188 y then (bif Nat.ble 189 y then (bif Nat.beq y 189 then 6 else 0) else (bif Nat.beq y 188 then 8 else 0)) else (bif Nat.beq y 187 then 5 else 0)) else (bif Nat.ble 186 y then (bif Nat.beq y 186 then 7 else 0) else (bif Nat.beq y 185 then 7 else 0))))) else (bif Nat.ble 175 y then (bif Nat.ble 180 y then (bif Nat.ble 182 y then (bif Nat.ble 183 y then (bif Nat.ble 184 y then (bif Nat.beq y 184 then 5 else 0) else (bif Nat.beq y 183 then 10 else 0)) else (bif Nat.beq y 182 then 5 else 0)) else (bif Nat.ble 181 y then (bif Nat.beq y 181 then 11 else 0) else (bif Nat.beq y 180 then 9 else 0))) else (bif Nat.ble 177 y then (bif Nat.ble 178 y then (bif Nat.ble 179 y then (bif Nat.beq y 179 then 3 else 0) else (bif Nat.beq y 178 then 4 else 0)) else (bif Nat.beq y 177 then 3 else 0)) else (bif Nat.ble 176 y then (bif Nat.beq y 176 then 3 else 0) else (bif Nat.beq y 175 then 2 else 0)))) else (bif Nat.ble 170 y then (bif Nat.ble 172 y then (bif Nat.ble 173 y then (bif Nat.ble 174 y then (bif Nat.beq y 174 then 8 else 0) else (bif Nat.beq y 173 then 2 else 0)) else (bif Nat.beq y 172 then 4 else 0)) else (bif Nat.ble 171 y then (bif Nat.beq y 171 then 5 else 0) else (bif Nat.beq y 170 then 4 else 0))) else (bif Nat.ble 167 y then (bif Nat.ble 168 y then (bif Nat.ble 169 y then (bif Nat.beq y 169 then 4 else 0) else (bif Nat.beq y 168 then 4 else 0)) else (bif Nat.beq y 167 then 6 else 0)) else (bif Nat.ble 166 y then (bif Nat.beq y 166 then 6 else 0) else (bif Nat.beq y 165 then 5 else 0)))))) else (bif Nat.ble 145 y then (bif Nat.ble 155 y then (bif Nat.ble 160 y then (bif Nat.ble 162 y then (bif Nat.ble 163 y then (bif Nat.ble 164 y then (bif Nat.beq y 164 then 6 else 0) else (bif Nat.beq y 163 then 6 else 0)) else (bif Nat.beq y 162 then 4 else 0)) else (bif Nat.ble 161 y then (bif Nat.beq y 161 then 5 else 0) else (bif Nat.beq y 160 then 5 else 0))) else (bif Nat.ble 157 y then (bif Nat.ble 158 y then (bif Nat.ble 159 y then (bif Nat.beq y 159 then 4 else 0) else (bif Nat.beq y 158 then 4 else 0)) else (bif Nat.beq y 157 then 4 else 0)) else (bif Nat.ble 156 y then (bif Nat.beq y 156 then 4 else 0) else (bif Nat.beq y 155 then 3 else 0)))) else (bif Nat.ble 150 y then (bif Nat.ble 152 y then (bif Nat.ble 153 y then (bif Nat.ble 154 y then (bif Nat.beq y 154 then 3 else 0) else (bif Nat.beq y 153 then 8 else 0)) else (bif Nat.beq y 152 then 8 else 0)) else (bif Nat.ble 151 y then (bif Nat.beq y 151 then 8 else 0) else (bif Nat.beq y 150 then 8 else 0))) else (bif Nat.ble 147 y then (bif Nat.ble 148 y then (bif Nat.ble 149 y then (bif Nat.beq y 149 then 8 else 0) else (bif Nat.beq y 148 then 8 else 0)) else (bif Nat.beq y 147 then 8 else 0)) else (bif Nat.ble 146 y then (bif Nat.beq y 146 then 8 else 0) else (bif Nat.beq y 145 then 1 else 0))))) else (bif Nat.ble 131 y then (bif Nat.ble 139 y then (bif Nat.ble 141 y then (bif Nat.ble 142 y then (bif Nat.ble 143 y then (bif Nat.beq y 143 then 1 else 0) else (bif Nat.beq y 142 then 2 else 0)) else (bif Nat.beq y 141 then 2 else 0)) else (bif Nat.ble 140 y then (bif Nat.beq y 140 then 1 else 0) else (bif Nat.beq y 139 then 1 else 0))) else (bif Nat.ble 133 y then (bif Nat.ble 134 y then (bif Nat.ble 135 y then (bif Nat.beq y 135 then 2 else 0) else (bif Nat.beq y 134 then 2 else 0)) else (bif Nat.beq y 133 then 3 else 0)) else (bif Nat.ble 132 y then (bif Nat.beq y 132 then 2 else 0) else (bif Nat.beq y 131 then 2 else 0)))) else (bif Nat.ble 126 y then (bif Nat.ble 128 y then (bif Nat.ble 129 y then (bif Nat.ble 130 y then (bif Nat.beq y 130 then 1 else 0) else (bif Nat.beq y 129 then 3 else 0)) else (bif Nat.beq y 128 then 6 else 0)) else (bif Nat.ble 127 y then (bif Nat.beq y 127 then 7 else 0) else (bif Nat.beq y 126 then 1 else 0))) else (bif Nat.ble 123 y then (bif Nat.ble 124 y then (bif Nat.ble 125 y then (bif Nat.beq y 125 then 1 else 0) else (bif Nat.beq y 124 then 3 else 0)) else (bif Nat.beq y 123 then 2 else 0)) else (bif Nat.ble 122 y then (bif Nat.beq y 122 then 3 else 0) else (bif Nat.beq y 121 then 4 else 0))))))) else (bif Nat.ble 75 y then (bif Nat.ble 101 y then (bif Nat.ble 111 y then (bif Nat.ble 116 y then (bif Nat.ble 118 y then (bif Nat.ble 119 y then (bif Nat.ble 120 y then (bif Nat.beq y 120 then 3 else 0) else (bif Nat.beq y 119 then 3 else 0)) else (bif Nat.beq y 118 then 3 else 0)) else (bif Nat.ble 117 y then (bif Nat.beq y 117 then 4 else 0) else (bif Nat.beq y 116 then 3 else 0))) else (bif Nat.ble 113 y then (bif Nat.ble 114 y then (bif Nat.ble 115 y then (bif Nat.beq y 115 then 3 else 0) else (bif Nat.beq y 114 then 5 else 0)) else (bif Nat.beq y 113 then 5 else 0)) else (bif Nat.ble 112 y then (bif Nat.beq y 112 then 4 else 0) else (bif Nat.beq y 111 then 5 else 0)))) else (bif Nat.ble 106 y then (bif Nat.ble 108 y then (bif Nat.ble 109 y then (bif Nat.ble 110 y then (bif Nat.beq y 110 then 5 else 0) else (bif Nat.beq y 109 then 3 else 0)) else (bif Nat.beq y 108 then 4 else 0)) else (bif Nat.ble 107 y then (bif Nat.beq y 107 then 4 else 0) else (bif Nat.beq y 106 then 3 else 0))) else (bif Nat.ble 103 y then (bif Nat.ble 104 y then (bif Nat.ble 105 y then (bif Nat.beq y 105 then 3 else 0) else (bif Nat.beq y 104 then 3 else 0)) else (bif Nat.beq y 103 then 3 else 0)) else (bif Nat.ble 102 y then (bif Nat.beq y 102 then 2 else 0) else (bif Nat.beq y 101 then 2 else 0))))) else (bif Nat.ble 91 y then (bif Nat.ble 96 y then (bif Nat.ble 98 y then (bif Nat.ble 99 y then (bif Nat.ble 100 y then (bif Nat.beq y 100 then 6 else 0) else (bif Nat.beq y 99 then 7 else 0)) else (bif Nat.beq y 98 then 7 else 0)) else (bif Nat.ble 97 y then (bif Nat.beq y 97 then 7 else 0) else (bif Nat.beq y 96 then 7 else 0))) else (bif Nat.ble 93 y then (bif Nat.ble 94 y then (bif Nat.ble 95 y then (bif Nat.beq y 95 then 7 else 0) else (bif Nat.beq y 94 then 7 else 0)) else (bif Nat.beq y 93 then 7 else 0)) else (bif Nat.ble 92 y then (bif Nat.beq y 92 then 7 else 0) else (bif Nat.beq y 91 then 3 else 0)))) else (bif Nat.ble 83 y then (bif Nat.ble 85 y then (bif Nat.ble 86 y then (bif Nat.ble 87 y then (bif Nat.beq y 87 then 2 else 0) else (bif Nat.beq y 86 then 1 else 0)) else (bif Nat.beq y 85 then 1 else 0)) else (bif Nat.ble 84 y then (bif Nat.beq y 84 then 1 else 0) else (bif Nat.beq y 83 then 1 else 0))) else (bif Nat.ble 77 y then (bif Nat.ble 78 y then (bif Nat.ble 82 y then (bif Nat.beq y 82 then 2 else 0) else (bif Nat.beq y 78 then 1 else 0)) else (bif Nat.beq y 77 then 2 else 0)) else (bif Nat.ble 76 y then (bif Nat.beq y 76 then 1 else 0) else (bif Nat.beq y 75 then 3 else 0)))))) else (bif Nat.ble 25 y then (bif Nat.ble 43 y then (bif Nat.ble 65 y then (bif Nat.ble 68 y then (bif Nat.ble 73 y then (bif Nat.ble 74 y then (bif Nat.beq y 74 then 4 else 0) else (bif Nat.beq y 73 then 5 else 0)) else (bif Nat.beq y 68 then 1 else 0)) else (bif Nat.ble 67 y then (bif Nat.beq y 67 then 1 else 0) else (bif Nat.beq y 65 then 1 else 0))) else (bif Nat.ble 59 y then (bif Nat.ble 63 y then (bif Nat.ble 64 y then (bif Nat.beq y 64 then 1 else 0) else (bif Nat.beq y 63 then 1 else 0)) else (bif Nat.beq y 59 then 2 else 0)) else (bif Nat.ble 57 y then (bif Nat.beq y 57 then 1 else 0) else (bif Nat.beq y 43 then 1 else 0)))) else (bif Nat.ble 31 y then (bif Nat.ble 36 y then (bif Nat.ble 37 y then (bif Nat.ble 42 y then (bif Nat.beq y 42 then 1 else 0) else (bif Nat.beq y 37 then 2 else 0)) else (bif Nat.beq y 36 then 2 else 0)) else (bif Nat.ble 35 y then (bif Nat.beq y 35 then 2 else 0) else (bif Nat.beq y 31 then 2 else 0))) else (bif Nat.ble 27 y then (bif Nat.ble 28 y then (bif Nat.ble 30 y then (bif Nat.beq y 30 then 3 else 0) else (bif Nat.beq y 28 then 3 else 0)) else (bif Nat.beq y 27 then 4 else 0)) else (bif Nat.ble 26 y then (bif Nat.beq y 26 then 2 else 0) else (bif Nat.beq y 25 then 2 else 0))))) else (bif Nat.ble 15 y then (bif Nat.ble 20 y then (bif Nat.ble 22 y then (bif Nat.ble 23 y then (bif Nat.ble 24 y then (bif Nat.beq y 24 then 1 else 0) else (bif Nat.beq y 23 then 3 else 0)) else (bif Nat.beq y 22 then 2 else 0)) else (bif Nat.ble 21 y then (bif Nat.beq y 21 then 5 else 0) else (bif Nat.beq y 20 then 1 else 0))) else (bif Nat.ble 17 y then (bif Nat.ble 18 y then (bif Nat.ble 19 y then (bif Nat.beq y 19 then 3 else 0) else (bif Nat.beq y 18 then 2 else 0)) else (bif Nat.beq y 17 then 3 else 0)) else (bif Nat.ble 16 y then (bif Nat.beq y 16 then 3 else 0) else (bif Nat.beq y 15 then 3 else 0)))) else (bif Nat.ble 10 y then (bif Nat.ble 12 y then (bif Nat.ble 13 y then (bif Nat.ble 14 y then (bif Nat.beq y 14 then 2 else 0) else (bif Nat.beq y 13 then 4 else 0)) else (bif Nat.beq y 12 then 1 else 0)) else (bif Nat.ble 11 y then (bif Nat.beq y 11 then 2 else 0) else (bif Nat.beq y 10 then 2 else 0))) else (bif Nat.ble 2 y then (bif Nat.ble 3 y then (bif Nat.ble 8 y then (bif Nat.beq y 8 then 1 else 0) else (bif Nat.beq y 3 then 1 else 0)) else (bif Nat.beq y 2 then 1 else 0)) else (bif Nat.ble 1 y then (bif Nat.beq y 1 then 1 else 0) else (bif Nat.beq y 0 then 1 else 0))))))))
theorem am_ht_ck : ((List.range 217).all fun y => (List.range (am_sz y)).all fun pc => match am_pr y pc with
    | some (.invokevirtual k, _, _) => (match am_pm (am_cl y) k with
      | some (z, _) => Nat.ble (am_ht z + 1) (am_ht y)
      | none => true)
    | some (.invokespecial k, _, _) => (match am_pm (am_cl y) k with
      | some (z, _) => Nat.ble (am_ht z + 1) (am_ht y)
      | none => true)
    | some (.invokestatic k, _, _) => (match am_pm (am_cl y) k with
      | some (z, _) => Nat.ble (am_ht z + 1) (am_ht y)
      | none => true)
    | _ => true) = true := by decide +kernel
theorem am_ht_call {y pc nx tg z mo : Nat} {i : Instr} {st As rest : List Value} (hp : am_pr y pc = some (i, nx, tg)) (hc : am_call y i st = some (z, mo, As, rest)) : am_ht z + 1 ≤ am_ht y := by
  have h := List.all_eq_true.mp (List.all_eq_true.mp am_ht_ck y (List.mem_range.mpr (am_pr_lt hp).1)) pc (List.mem_range.mpr (am_pr_lt hp).2)
  rw [hp] at h
  cases i with
  | invokevirtual j =>
    simp only [am_call] at hc
    split at hc
    · rename_i hpm
      split at hc
      · obtain ⟨-, hc⟩ := am_if_inv hc
        cases hc
        dsimp only at h
        rw [hpm] at h
        exact Nat.le_of_ble_eq_true h
      · cases hc
    · cases hc
  | invokespecial j =>
    simp only [am_call] at hc
    split at hc
    · rename_i z1 m1 hpm
      have hz : z1 = z := by
        cases hmm : (Nat.beq m1 3 || Nat.beq m1 4) with
        | true =>
          rw [hmm] at hc
          dsimp only [cond_true] at hc
          split at hc
          · cases hc; rfl
          · cases hc
        | false =>
          rw [hmm] at hc
          dsimp only [cond_false] at hc
          obtain ⟨-, hc⟩ := am_if_inv hc
          split at hc
          · obtain ⟨-, hc⟩ := am_if_inv hc
            cases hc; rfl
          · cases hc
      dsimp only at h
      rw [hpm, hz] at h
      exact Nat.le_of_ble_eq_true h
    · cases hc
  | invokestatic j =>
    simp only [am_call] at hc
    split at hc
    · rename_i hpm
      obtain ⟨-, hc⟩ := am_if_inv hc
      cases hc
      dsimp only at h
      rw [hpm] at h
      exact Nat.le_of_ble_eq_true h
    · cases hc
  | _ => first | (cases hc; done) | exact absurd hc (by simp [am_call])
theorem am_flat : ∀ (f d y pc : Nat) (L : am_L) (st : List Value) (M : am_M) (r : am_O × am_M × Nat × Nat), am_run f d y pc L st M = some r → am_run f (am_ht y) y pc L st M = some r := by
  intro f
  induction f with
  | zero =>
    intro d y pc L st M r h
    simp [am_run] at h
  | succ f ih =>
    intro d y pc L st M r h
    simp only [am_run] at h ⊢
    cases hp : am_pr y pc with
    | none => rw [hp] at h; cases h
    | some q =>
      obtain ⟨i, nx, tg⟩ := q
      rw [hp] at h
      dsimp only at h ⊢
      cases hs : am_stp y i pc nx tg L st M with
      | some x =>
        obtain ⟨pc', L', st', M'⟩ := x
        rw [hs] at h
        dsimp only at h ⊢
        exact ih _ _ _ _ _ _ _ h
      | none =>
        rw [hs] at h
        dsimp only at h ⊢
        cases he : am_end y i pc st M with
        | some x => rw [he] at h; exact h
        | none =>
          rw [he] at h
          dsimp only at h ⊢
          cases hn : am_new y i st M with
          | some x =>
            obtain ⟨st', M', n⟩ := x
            rw [hn] at h
            dsimp only at h ⊢
            cases hr : am_run f d y nx L st' M' with
            | none => rw [hr] at h; cases h
            | some x => rw [hr] at h; rw [ih _ _ _ _ _ _ _ hr]; exact h
          | none =>
            rw [hn] at h
            dsimp only at h ⊢
            cases hcl : am_call y i st with
            | none => rw [hcl] at h; cases d <;> cases h
            | some q =>
              obtain ⟨z, mo, As, rest⟩ := q
              have hht := am_ht_call hp hcl
              rw [hcl] at h
              cases d with
              | zero => cases h
              | succ d =>
                obtain ⟨d', hd'⟩ : ∃ k, am_ht y = k + 1 := ⟨am_ht y - 1, by omega⟩
                rw [hd']
                dsimp only at h ⊢
                obtain ⟨hg, h⟩ := am_if_inv h
                rw [hg]
                dsimp only [cond_true]
                cases hr : am_run f d z 0 (am_ent z As) [] M with
                | none => rw [hr] at h; cases h
                | some x =>
                  obtain ⟨o, M1, k, s⟩ := x
                  rw [hr] at h
                  rw [am_mono _ _ _ _ _ _ _ _ (ih _ _ _ _ _ _ _ hr) f d' (Nat.le_refl _) (by omega)]
                  have key : ∀ (pc : Nat) (L : am_L) (st : List Value) (M : am_M), am_add (am_run f (d + 1) y pc L st M) k s = some r → am_add (am_run f (d' + 1) y pc L st M) k s = some r := by
                    intro pc L st M h9
                    cases hr9 : am_run f (d + 1) y pc L st M with
                    | none => rw [hr9] at h9; cases h9
                    | some x =>
                      rw [hr9] at h9
                      have h8 := ih _ _ _ _ _ _ _ hr9
                      rw [hd'] at h8
                      rw [h8]
                      exact h9
                  cases o with
                  | inl v => exact key _ _ _ _ h
                  | inr e =>
                    dsimp only at h ⊢
                    cases hb : (Nat.beq mo 2 || Nat.beq mo 3 || Nat.beq mo 4 || Nat.ble 6 mo) with
                    | true => rw [hb] at h; cases h
                    | false =>
                      rw [hb] at h
                      dsimp only [cond_false] at h ⊢
                      cases hh : am_hr pc e (am_hh y) with
                      | none => rw [hh] at h; exact h
                      | some hd0 =>
                        rw [hh] at h
                        dsimp only at h ⊢
                        split at h
                        · rename_i j nx' tg' hph
                          cases hcl2 : am_clr L j.val with
                          | none => rw [hcl2] at h; cases h
                          | some L' => rw [hcl2] at h; exact key _ _ _ _ h
                        · rename_i j nx' tg' hph
                          cases hcl2 : am_clr L j with
                          | none => rw [hcl2] at h; cases h
                          | some L' => rw [hcl2] at h; exact key _ _ _ _ h
                        · cases h
theorem am_law_of {L : am_L} {M M1 : am_M} {o : am_O} {k sl : Nat} (h : am_val iL_law 0 L [] M = some (o, M1, k, sl)) : ∃ F, am_run F 11 iL_law 0 L [] M = some (o, M1, k, sl) := by
  obtain ⟨f, d, h⟩ := am_val_gets h
  exact ⟨f, am_flat _ _ _ _ _ _ _ _ h⟩
