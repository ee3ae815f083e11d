/-! THE PICTURE: how the machine's heap holds the abstract memory -/
def am_tys (ca : Nat → ClassId) : List (ClassId × FieldType) := [(ca 0, .int), (ca 1, .char), (ca 2, .object RX1), (ca 3, .object RX6), (ca 4, .object RX8), (ca 5, .long), (ca 6, .byte)]
def am_ro (r : Nat → Nat) (x : Nat) : Option Nat := match x with
  | 0 => none
  | b + 1 => some (r b)
/-- a value as the machine has it: abstract cells at their addresses -/
def am_cv (r : Nat → Nat) (v : Value) : Value := match v with
  | .ref a => .ref (r a)
  | v => v
theorem am_cv_rv (r : Nat → Nat) (x : Nat) : am_cv r (am_rv x) = va_rf (am_ro r x) := by cases x <;> rfl
def am_dat (r : Nat → Nat) (M : am_M) (et a : Nat) : (Nat → Int32) ⊕ (Nat → Int64) ⊕ (Nat → UInt32) ⊕ (Nat → UInt64) ⊕ (Nat → Option Nat) :=
  bif Nat.ble et 1 then .inl (M.1 a) else (bif Nat.beq et 5 then .inr (.inl (M.2.2.1 a)) else (bif Nat.beq et 6 then .inl (M.1 a) else .inr (.inr (.inr (.inr (fun j => am_ro r (M.2.1 a j)))))))
def am_fv (r : Nat → Nat) (M : am_M) (a j : Nat) : Value := bif am_isr (a % 64) j then va_rf (am_ro r (M.2.1 a j)) else .int (M.1 a j)
/-- the cell a -/
def am_en (ca : Nat → ClassId) (r : Nat → Nat) (M : am_M) (a : Nat) : va_E := match am_ak (a % 64) with
  | some (et, n) => .inl (ca et, n, am_dat r M et a)
  | none => .inr (a % 64, (List.range (am_nf (a % 64))).map (am_fv r M a))
def am_n (M : am_M) : Nat := M.2.2.2.2.1
def am_ws (ca : Nat → ClassId) (r ks : Nat → Nat) (M : am_M) : va_W := (List.range (am_n M)).map fun i => (r (64 * i + ks i), am_en ca r M (64 * i + ks i))
/-- a static cell -/
def am_sta (a : Nat) : Prop := (a % 64 = 40 ∧ a / 64 < 8) ∨ (a % 64 = 41 ∧ a / 64 < 7) ∨ a = 42 ∨ a = 43 ∨ a = 44 ∨ (a % 64 = 45 ∧ a / 64 < 8) ∨ (a % 64 = 46 ∧ a / 64 < 10)
/-- a cell that is there -/
def am_okk (ks : Nat → Nat) (n a : Nat) : Prop := (a % 64 < 32 ∧ a / 64 < n ∧ ks (a / 64) = a % 64) ∨ am_sta a
def am_vok (ks : Nat → Nat) (n : Nat) (v : Value) : Prop := ∀ a, v = .ref a → am_okk ks n a
theorem am_sta_hi {a : Nat} (h : am_sta a) : 32 ≤ a % 64 := by
  rcases h with h | h | h | h | h | h | h <;> omega
theorem am_okk_lo {ks : Nat → Nat} {n a : Nat} (h : am_okk ks n a) (hk : a % 64 < 32) : a / 64 < n ∧ ks (a / 64) = a % 64 := by
  rcases h with h | h
  · exact h.2
  · exact absurd (am_sta_hi h) (by omega)
theorem am_okk_hi {ks : Nat → Nat} {n a : Nat} (h : am_okk ks n a) (hk : 32 ≤ a % 64) : am_sta a := by
  rcases h with h | h
  · omega
  · exact h
/-- the picture itself: the cells, closed, kinds in their range; E: where the statics' cells are; B0: what is above it may be written -/
def am_Rp (D : va_G) (ca : Nat → ClassId) (B0 : Nat) (E : Nat → Nat) (L0 : Nat) (xs : Nat → Int32) (r ks : Nat → Nat) (M : am_M) (H : Heap) : Prop :=
  va_P D am_cls (am_ws ca r ks M) H ∧ va_D (fun q : Nat => B0 ≤ q) (am_ws ca r ks M) ∧ (∀ a j b, M.2.1 a j = b + 1 → am_okk ks (am_n M) b) ∧ (∀ a, 32 ≤ a % 64 → r a = E a) ∧ (∀ i, i < am_n M → ks i < 32) ∧ M.2.2.2.2.2 = (L0, xs) ∧ ∀ a j, am_n M ≤ a / 64 → M.1 a j = 0 ∧ M.2.1 a j = 0 ∧ M.2.2.1 a j = 0 ∧ M.2.2.2.1 a j = 0
/-- old cells keep their kinds and places -/
def am_ext (r0 ks0 : Nat → Nat) (n0 : Nat) (r ks : Nat → Nat) (n : Nat) : Prop := n0 ≤ n ∧ (∀ i, i < n0 → ks i = ks0 i) ∧ ∀ a, am_okk ks0 n0 a → r a = r0 a
theorem am_ext_rf (r ks : Nat → Nat) (n : Nat) : am_ext r ks n r ks n := ⟨Nat.le_refl _, fun _ _ => rfl, fun _ _ => rfl⟩
theorem am_ext_ok {r0 ks0 r ks : Nat → Nat} {n0 n a : Nat} (h : am_ext r0 ks0 n0 r ks n) (ha : am_okk ks0 n0 a) : am_okk ks n a := by
  rcases ha with ⟨h1, h2, h3⟩ | ha
  · exact Or.inl ⟨h1, Nat.lt_of_lt_of_le h2 h.1, (h.2.1 _ h2).trans h3⟩
  · exact Or.inr ha
theorem am_ext_tr {r0 ks0 r1 ks1 r2 ks2 : Nat → Nat} {n0 n1 n2 : Nat} (h : am_ext r0 ks0 n0 r1 ks1 n1) (g : am_ext r1 ks1 n1 r2 ks2 n2) : am_ext r0 ks0 n0 r2 ks2 n2 :=
  ⟨Nat.le_trans h.1 g.1, fun i hi => (g.2.1 i (Nat.lt_of_lt_of_le hi h.1)).trans (h.2.1 i hi), fun a ha => (g.2.2 a (am_ext_ok h ha)).trans (h.2.2 a ha)⟩
theorem am_vok_ext {r0 ks0 r ks : Nat → Nat} {n0 n : Nat} {v : Value} (h : am_ext r0 ks0 n0 r ks n) (hv : am_vok ks0 n0 v) : am_vok ks n v := fun a ha => am_ext_ok h (hv a ha)
theorem am_cv_ext {r0 ks0 r ks : Nat → Nat} {n0 n : Nat} {v : Value} (h : am_ext r0 ks0 n0 r ks n) (hv : am_vok ks0 n0 v) : am_cv r v = am_cv r0 v := by
  cases v with
  | ref a => exact congrArg Value.ref (h.2.2 a (hv a rfl))
  | _ => rfl
theorem am_vok_int {ks : Nat → Nat} {n : Nat} (x : Int32) : am_vok ks n (.int x) := fun _ h => by cases h
theorem am_vok_null {ks : Nat → Nat} {n : Nat} : am_vok ks n .null := fun _ h => by cases h
theorem am_vok_ref {ks : Nat → Nat} {n a : Nat} (h : am_okk ks n a) : am_vok ks n (.ref a) := fun b hb => by cases hb; exact h
theorem am_vok_rv {ks : Nat → Nat} {n x : Nat} (h : ∀ b, x = b + 1 → am_okk ks n b) : am_vok ks n (am_rv x) := by
  cases x with
  | zero => exact am_vok_null
  | succ b => exact am_vok_ref (h b rfl)
theorem am_ws_at {ca : Nat → ClassId} {r ks : Nat → Nat} {M : am_M} {a : Nat} (h1 : a / 64 < am_n M) (h2 : ks (a / 64) = a % 64) : (am_ws ca r ks M)[a / 64]? = some (r a, am_en ca r M a) := by
  have e : 64 * (a / 64) + ks (a / 64) = a := by rw [h2]; omega
  simp [am_ws, h1, e]
theorem am_ws_set {ca : Nat → ClassId} {r ks : Nat → Nat} {M M' : am_M} {a : Nat} (hn : am_n M' = am_n M) (hks : ∀ i, i < am_n M → ks i < 32) (h1 : a / 64 < am_n M) (h2 : ks (a / 64) = a % 64) (ho : ∀ b, b ≠ a → am_en ca r M' b = am_en ca r M b) :
    (am_ws ca r ks M).set (a / 64) (r a, am_en ca r M' a) = am_ws ca r ks M' := by
  have e : 64 * (a / 64) + ks (a / 64) = a := by rw [h2]; omega
  apply List.ext_getElem?
  intro i
  rw [List.getElem?_set]
  by_cases hi : a / 64 = i
  · subst hi
    rw [if_pos rfl]
    simp [am_ws, h1, hn, e]
  · rw [if_neg hi]
    by_cases hl : i < am_n M
    · have hk := hks i hl
      have hne : 64 * i + ks i ≠ a := fun q => hi (by omega)
      simp [am_ws, hl, hn, ho _ hne]
    · simp [am_ws, hl, hn]
theorem am_up_ne {α : Type} {f : Nat → Nat → α} {a k b : Nat} {v : α} (h : b ≠ a) : am_up f a k v b = f b := by
  funext j
  simp [am_up, h]
theorem am_up_at {α : Type} (f : Nat → Nat → α) (a k : Nat) (v : α) : am_up f a k v a = fun j => if j = k then v else f a j := by
  funext j
  simp [am_up]
theorem am_map_set (g : Nat → Value) (n k : Nat) (v : Value) : ((List.range n).map g).set k v = (List.range n).map (fun j => if j = k then v else g j) := by
  apply List.ext_getElem?
  intro i
  rw [List.getElem?_set]
  by_cases hi : k = i
  · subst hi
    by_cases hl : k < n
    · simp [hl]
    · simp [hl]
  · have hi' : ¬ i = k := fun q => hi q.symm
    rw [if_neg hi]
    by_cases hl : i < n
    · simp [hl, hi']
    · simp [hl]
