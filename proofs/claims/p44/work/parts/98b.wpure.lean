/-! the law's counts, by themselves -/
/-- a mask of those of n for which it holds -/
def mk_g (f : Nat → Bool) (k : Nat) (x : Int32) : Int32 := bif f k then x ||| ((1 : Int32) <<< (nI k &&& 31)) else x
def mk (f : Nat → Bool) (n : Nat) : Int32 := am_it (mk_g f) n 0
theorem mk_s {f : Nat → Bool} {n : Nat} : mk f (n + 1) = bif f n then mk f n ||| ((1 : Int32) <<< (nI n &&& 31)) else mk f n := rfl
theorem mk_c {f g : Nat → Bool} : ∀ n, (∀ k, k < n → f k = g k) → mk f n = mk g n := by
  intro n
  induction n with
  | zero => intro _; rfl
  | succ n ih =>
    intro h
    rw [mk_s, mk_s, h n (Nat.lt_succ_self _), ih fun k hk => h k (by omega)]
theorem mk_or {f g : Nat → Bool} : ∀ n, mk f n ||| mk g n = mk (fun k => f k || g k) n := by
  intro n
  induction n with
  | zero => exact Int32.or_self
  | succ n ih =>
    rw [mk_s, mk_s, mk_s, ← ih]
    generalize mk f n = A
    generalize mk g n = B
    generalize (1 : Int32) <<< (nI n &&& 31) = C
    cases f n <;> cases g n
    · rfl
    · show A ||| (B ||| C) = A ||| B ||| C
      ac_rfl
    · show A ||| C ||| B = A ||| B ||| C
      ac_rfl
    · show A ||| C ||| (B ||| C) = A ||| B ||| C
      have e : A ||| C ||| (B ||| C) = A ||| B ||| (C ||| C) := by ac_rfl
      rw [e, Int32.or_self]
theorem mk_x {f : Nat → Bool} {n : Nat} : ∀ m, mk (fun k => decide (k < n) && f k) (n + m) = mk f n ∧ nc (fun k => decide (k < n) && f k) (n + m) = nc f n := by
  intro m
  induction m with
  | zero =>
    refine ⟨mk_c n fun k hk => ?_, nc_c n fun k hk => ?_⟩
    · rw [decide_eq_true hk, Bool.true_and]
    · rw [decide_eq_true hk, Bool.true_and]
  | succ m ih =>
    have e : (decide (n + m < n) && f (n + m)) = false := by rw [decide_eq_false (by omega), Bool.false_and]
    rw [show n + (m + 1) = n + m + 1 by omega, mk_s, nc_f (p := fun k => decide (k < n) && f k) e]
    refine ⟨?_, ih.2⟩
    rw [e]
    exact ih.1
theorem mk_8 : ∀ b0 b1 b2 b3 b4 b5 b6 b7 : Bool, am_bc (mk (fun k => [b0, b1, b2, b3, b4, b5, b6, b7].getD k false) 8) = nI (nc (fun k => [b0, b1, b2, b3, b4, b5, b6, b7].getD k false) 8) := by decide +kernel
theorem mk_bc {f : Nat → Bool} {n : Nat} (hn : n ≤ 8) : am_bc (mk f n) = nI (nc f n) := by
  obtain ⟨m, hm⟩ : ∃ m, n + m = 8 := ⟨8 - n, by omega⟩
  obtain ⟨e1, e2⟩ := mk_x (f := f) (n := n) m
  rw [← e1, ← e2, hm]
  generalize (fun k => decide (k < n) && f k) = g
  have h : ∀ k, k < 8 → g k = [g 0, g 1, g 2, g 3, g 4, g 5, g 6, g 7].getD k false := fun k hk => by
    rcases (show k = 0 ∨ k = 1 ∨ k = 2 ∨ k = 3 ∨ k = 4 ∨ k = 5 ∨ k = 6 ∨ k = 7 by omega) with rfl | rfl | rfl | rfl | rfl | rfl | rfl | rfl <;> rfl
  rw [mk_c 8 h, nc_c 8 h]
  exact mk_8 _ _ _ _ _ _ _ _
theorem es_mk {L : List (Nat → Int32)} {p : Int32} : am_it (av_es L p) L.length 0 = mk (fun k => av_ec (av_s L k) p) L.length := rfl
/-- the echoes at the first places -/
def pa (L : List (Nat → Int32)) : Nat → Nat → Bool
  | 0, _ => false
  | p + 1, k => pa L p k || av_ec (av_s L k) (nI p)
theorem pa_s {L : List (Nat → Int32)} {k : Nat} : ∀ n, (pa L n k = true ↔ ∃ p, p < n ∧ av_ec (av_s L k) (nI p) = true) := by
  intro n
  induction n with
  | zero => exact ⟨fun h => (by cases h), fun ⟨p, hp, _⟩ => absurd hp (Nat.not_lt_zero _)⟩
  | succ n ih =>
    have hs : pa L (n + 1) k = (pa L n k || av_ec (av_s L k) (nI n)) := rfl
    rw [hs, Bool.or_eq_true, ih]
    refine ⟨fun h => ?_, fun ⟨p, hp, e⟩ => ?_⟩
    · rcases h with ⟨p, hp, e⟩ | e
      · exact ⟨p, by omega, e⟩
      · exact ⟨n, Nat.lt_succ_self _, e⟩
    · by_cases q : p = n
      · rw [q] at e
        exact Or.inr e
      · exact Or.inl ⟨p, by omega, e⟩
theorem pa_16 {bd : Nat} {σ : Nat → Int32} {L : List (Nat → Int32)} (hok : av_ok bd σ L) {k : Nat} (hk : k < L.length) : pa L 16 k = decide (0 < av_s L k 3) := by
  obtain ⟨p, l, t, hp, hl, ht, e0, e1, e3, -⟩ := sd_n hok hk
  have h1 : ¬ av_s L k 1 = 0 := by rw [e1]; exact nI_ne0 hl (by omega)
  by_cases h3 : 0 < av_s L k 3
  · rw [decide_eq_true h3]
    refine (pa_s 16).mpr ⟨p, hp, ?_⟩
    unfold av_ec
    rw [decide_eq_false h1, decide_eq_true h3, decide_eq_true e0]
    rfl
  · rw [decide_eq_false h3]
    cases hq : pa L 16 k with
    | false => rfl
    | true =>
      obtain ⟨p', hp', e⟩ := (pa_s 16).mp hq
      unfold av_ec at e
      rw [decide_eq_false h3, Bool.and_false, Bool.false_and] at e
      cases e
/-- three kinds -/
theorem nc_3 {g : Nat → Int32} : ∀ n, (∀ k, k < n → ∃ t, t < 3 ∧ g k = nI t) → nc (fun k => decide (g k = nI 0)) n + nc (fun k => decide (g k = nI 1)) n + nc (fun k => decide (g k = nI 2)) n = n := by
  intro n
  induction n with
  | zero => intro _; rfl
  | succ n ih =>
    intro h
    obtain ⟨t, ht, e⟩ := h n (Nat.lt_succ_self _)
    have i := ih fun k hk => h k (by omega)
    rcases (show t = 0 ∨ t = 1 ∨ t = 2 by omega) with rfl | rfl | rfl
    · rw [nc_t (p := fun k => decide (g k = nI 0)) (decide_eq_true e), nc_f (p := fun k => decide (g k = nI 1)) (decide_eq_false (by rw [e]; decide)), nc_f (p := fun k => decide (g k = nI 2)) (decide_eq_false (by rw [e]; decide))]
      omega
    · rw [nc_f (p := fun k => decide (g k = nI 0)) (decide_eq_false (by rw [e]; decide)), nc_t (p := fun k => decide (g k = nI 1)) (decide_eq_true e), nc_f (p := fun k => decide (g k = nI 2)) (decide_eq_false (by rw [e]; decide))]
      omega
    · rw [nc_f (p := fun k => decide (g k = nI 0)) (decide_eq_false (by rw [e]; decide)), nc_f (p := fun k => decide (g k = nI 1)) (decide_eq_false (by rw [e]; decide)), nc_t (p := fun k => decide (g k = nI 2)) (decide_eq_true e)]
      omega
theorem nc_4 {g : Nat → Int32} : ∀ n, (∀ k, k < n → g k = -1 ∨ ∃ t, t < 3 ∧ g k = nI t) → nc (fun k => decide (g k = nI 0)) n + nc (fun k => decide (g k = nI 1)) n + nc (fun k => decide (g k = nI 2)) n = nc (fun k => !decide (g k < 0)) n := by
  intro n
  induction n with
  | zero => intro _; rfl
  | succ n ih =>
    intro h
    have i := ih fun k hk => h k (by omega)
    rcases h n (Nat.lt_succ_self _) with e | ⟨t, ht, e⟩
    · rw [nc_f (p := fun k => decide (g k = nI 0)) (decide_eq_false (by rw [e]; decide)), nc_f (p := fun k => decide (g k = nI 1)) (decide_eq_false (by rw [e]; decide)), nc_f (p := fun k => decide (g k = nI 2)) (decide_eq_false (by rw [e]; decide)), nc_f (p := fun k => !decide (g k < 0)) (show (!decide (g n < 0)) = false by rw [e]; decide)]
      exact i
    · have ht2 : (!decide (g n < 0)) = true := by rw [e, decide_eq_false (nI_pos (by omega))]; rfl
      rw [nc_t (p := fun k => !decide (g k < 0)) ht2]
      rcases (show t = 0 ∨ t = 1 ∨ t = 2 by omega) with rfl | rfl | rfl
      · rw [nc_t (p := fun k => decide (g k = nI 0)) (decide_eq_true e), nc_f (p := fun k => decide (g k = nI 1)) (decide_eq_false (by rw [e]; decide)), nc_f (p := fun k => decide (g k = nI 2)) (decide_eq_false (by rw [e]; decide))]
        omega
      · rw [nc_f (p := fun k => decide (g k = nI 0)) (decide_eq_false (by rw [e]; decide)), nc_t (p := fun k => decide (g k = nI 1)) (decide_eq_true e), nc_f (p := fun k => decide (g k = nI 2)) (decide_eq_false (by rw [e]; decide))]
        omega
      · rw [nc_f (p := fun k => decide (g k = nI 0)) (decide_eq_false (by rw [e]; decide)), nc_f (p := fun k => decide (g k = nI 1)) (decide_eq_false (by rw [e]; decide)), nc_t (p := fun k => decide (g k = nI 2)) (decide_eq_true e)]
        omega
/-- each of three has its rank, in order -/
theorem rk_ex {σ : Nat → Int32} (a : Nat) (ha : a < 3) : ∃ t, t < 3 ∧ aw (aq_ranked σ 0 (nI a)) = nI t ∧ av_rk σ 0 t = nI a := by
  have key : ∃ t, t < 3 ∧ av_rk σ 0 t = nI a := by
    have hm : ∀ t, av_ms σ 0 t = av_pt σ t := fun t => if_pos rfl
    have hr : ∀ t, av_rk σ 0 t = am_cnt (av_ra σ 0 t) 3 := fun t => rfl
    have tri : ∀ x y : Int32, x < y ∨ x = y ∨ y < x := fun x y => by
      rcases Int32.le_total x y with h | h
      · by_cases e : x = y
        · exact Or.inr (Or.inl e)
        · exact Or.inl (Int32.not_le.mp fun z => e (Int32.le_antisymm h z))
      · by_cases e : x = y
        · exact Or.inr (Or.inl e)
        · exact Or.inr (Or.inr (Int32.not_le.mp fun z => e (Int32.le_antisymm z h)))
    have v : ∀ t, am_cnt (av_ra σ 0 t) 3 = nI (nc (av_ra σ 0 t) 3) := fun t => am_cnt_nc 3
    have w : ∀ t, nc (av_ra σ 0 t) 3 = 0 + (bif av_ra σ 0 t 0 then 1 else 0) + (bif av_ra σ 0 t 1 then 1 else 0) + (bif av_ra σ 0 t 2 then 1 else 0) := fun t => rfl
    have ra : ∀ t o, av_ra σ 0 t o = if av_pt σ (nI t) < av_pt σ (nI o) then true else if av_pt σ (nI o) = av_pt σ (nI t) then decide (o < t) else false := fun t o => by
      unfold av_ra
      rw [hm, hm]
    have irr : ∀ x : Int32, ¬ x < x := fun x h => Int32.not_le.mpr h (Int32.le_refl x)
    have as : ∀ x y : Int32, x < y → ¬ y < x := fun x y h h2 => irr x (Int32.lt_trans h h2)
    have ne : ∀ x y : Int32, x < y → ¬ y = x := fun x y h e => irr x (by rw [e] at h; exact h)
    generalize hx0 : av_pt σ (nI 0) = x0 at ra
    generalize hx1 : av_pt σ (nI 1) = x1 at ra
    generalize hx2 : av_pt σ (nI 2) = x2 at ra
    have f : ∀ t o : Nat, ∀ X Y : Int32, av_pt σ (nI t) = X → av_pt σ (nI o) = Y → (X < Y → av_ra σ 0 t o = true) ∧ (Y < X → av_ra σ 0 t o = false) ∧ (X = Y → av_ra σ 0 t o = decide (o < t)) := fun t o X Y eX eY => by
      rw [ra, eX, eY]
      refine ⟨fun h => if_pos h, fun h => ?_, fun h => ?_⟩
      · rw [if_neg (as _ _ h), if_neg (fun e => ne _ _ h e.symm)]
      · rw [h, if_neg (irr _), if_pos rfl]
    have d0 := (f 0 0 x0 x0 hx0 hx0).2.2 rfl
    have d1 := (f 1 1 x1 x1 hx1 hx1).2.2 rfl
    have d2 := (f 2 2 x2 x2 hx2 hx2).2.2 rfl
    have f01 := f 0 1 x0 x1 hx0 hx1
    have f10 := f 1 0 x1 x0 hx1 hx0
    have f02 := f 0 2 x0 x2 hx0 hx2
    have f20 := f 2 0 x2 x0 hx2 hx0
    have f12 := f 1 2 x1 x2 hx1 hx2
    have f21 := f 2 1 x2 x1 hx2 hx1
    have tot : ∀ t o : Nat, ∀ X Y : Int32, o ≠ t → av_pt σ (nI t) = X → av_pt σ (nI o) = Y → av_ra σ 0 t o = !av_ra σ 0 o t := fun t o X Y hto eX eY => by
      have g := f t o X Y eX eY
      have g' := f o t Y X eY eX
      rcases tri X Y with h | h | h
      · rw [g.1 h, g'.2.1 h]; rfl
      · rw [g.2.2 h, g'.2.2 h.symm]
        rcases Nat.lt_or_ge o t with q | q
        · rw [decide_eq_true q, decide_eq_false (by omega)]; rfl
        · rw [decide_eq_false (by omega), decide_eq_true (by omega)]; rfl
      · rw [g.2.1 h, g'.1 h]; rfl
    have t01 := tot 0 1 x0 x1 (by decide) hx0 hx1
    have t02 := tot 0 2 x0 x2 (by decide) hx0 hx2
    have t12 := tot 1 2 x1 x2 (by decide) hx1 hx2
    -- transitive
    have trn : ¬ (av_ra σ 0 0 1 = true ∧ av_ra σ 0 1 2 = true ∧ av_ra σ 0 2 0 = true) ∧ ¬ (av_ra σ 0 1 0 = true ∧ av_ra σ 0 2 1 = true ∧ av_ra σ 0 0 2 = true) := by
      have q : ∀ t o : Nat, ∀ X Y : Int32, av_pt σ (nI t) = X → av_pt σ (nI o) = Y → av_ra σ 0 t o = true → X ≤ Y ∧ (X = Y → o < t) := fun t o X Y eX eY h => by
        have g := f t o X Y eX eY
        rcases tri X Y with z | z | z
        · exact ⟨Int32.le_of_lt z, fun e => absurd e.symm (ne _ _ z)⟩
        · rw [g.2.2 z] at h
          exact ⟨by rw [z]; exact Int32.le_refl _, fun _ => of_decide_eq_true h⟩
        · rw [g.2.1 z] at h
          cases h
      refine ⟨fun ⟨a1, a2, a3⟩ => ?_, fun ⟨a1, a2, a3⟩ => ?_⟩
      · obtain ⟨b1, c1⟩ := q 0 1 x0 x1 hx0 hx1 a1
        obtain ⟨b2, c2⟩ := q 1 2 x1 x2 hx1 hx2 a2
        obtain ⟨b3, c3⟩ := q 2 0 x2 x0 hx2 hx0 a3
        have := c1 (Int32.le_antisymm b1 (Int32.le_trans b2 b3))
        omega
      · obtain ⟨b1, c1⟩ := q 1 0 x1 x0 hx1 hx0 a1
        obtain ⟨b2, c2⟩ := q 2 1 x2 x1 hx2 hx1 a2
        obtain ⟨b3, c3⟩ := q 0 2 x0 x2 hx0 hx2 a3
        have := c3 (Int32.le_antisymm b3 (Int32.le_trans b2 b1))
        omega
    have e0 : av_rk σ 0 0 = nI (0 + (bif av_ra σ 0 0 0 then 1 else 0) + (bif av_ra σ 0 0 1 then 1 else 0) + (bif av_ra σ 0 0 2 then 1 else 0)) := by rw [hr, v, w]
    have e1 : av_rk σ 0 1 = nI (0 + (bif av_ra σ 0 1 0 then 1 else 0) + (bif av_ra σ 0 1 1 then 1 else 0) + (bif av_ra σ 0 1 2 then 1 else 0)) := by rw [hr, v, w]
    have e2 : av_rk σ 0 2 = nI (0 + (bif av_ra σ 0 2 0 then 1 else 0) + (bif av_ra σ 0 2 1 then 1 else 0) + (bif av_ra σ 0 2 2 then 1 else 0)) := by rw [hr, v, w]
    rw [d0, t01, t02] at e0
    rw [d1, t12] at e1
    rw [d2] at e2
    rw [t01, t02, t12] at trn
    revert e0 e1 e2 trn
    generalize av_ra σ 0 1 0 = y1
    generalize av_ra σ 0 2 0 = y2
    generalize av_ra σ 0 2 1 = y3
    intro trn e0 e1 e2
    rcases (show a = 0 ∨ a = 1 ∨ a = 2 by omega) with rfl | rfl | rfl <;> cases y1 <;> cases y2 <;> cases y3 <;> first
      | (exact ⟨0, by decide, e0⟩)
      | (exact ⟨1, by decide, e1⟩)
      | (exact ⟨2, by decide, e2⟩)
      | (exact absurd ⟨rfl, rfl, rfl⟩ trn.1)
      | (exact absurd ⟨rfl, rfl, rfl⟩ trn.2)
  obtain ⟨t, ht, et⟩ := key
  have c : ¬ am_wt 0 0 3 = false := by decide
  unfold aq_ranked
  rw [if_neg c]
  rcases av_fst_c (f := fun t => decide (av_rk σ 0 t = nI a)) 3 with ⟨-, h2⟩ | ⟨j, h1, h2, h3, -⟩
  · exact absurd et (of_decide_eq_false (h2 t ht))
  · rw [h2]
    exact ⟨j, h1, rfl, of_decide_eq_true h3⟩
theorem tl_len {σ : Nat → Int32} (hw : ∀ p, p < 16 → av_wok σ p) : ∀ p, p ≤ 16 → (tl_n σ p).length = p + nc (fun k => !decide (σ (19 + 2 * k) < 0)) p := by
  intro p
  induction p with
  | zero => intro _; rfl
  | succ p ih =>
    intro hp
    have hs : tl_n σ (p + 1) = tl_n σ p ++ tl_w σ p := rfl
    obtain ⟨h, hh, e1, e2⟩ := hw p (by omega)
    rw [hs, List.length_append, ih (by omega)]
    have hl : (tl_w σ p).length = 1 + (bif !decide (σ (19 + 2 * p) < 0) then 1 else 0) := by
      unfold tl_w
      rcases e2 with e2 | ⟨h0, t, ht, e2⟩
      · by_cases z : σ (18 + 2 * p) = 0
        · rw [if_pos z, e2]; rfl
        · rw [if_neg z, if_pos e2, e2]; rfl
      · have hn : ¬ σ (19 + 2 * p) = -1 := by rw [e2]; exact av_bi_nI (by omega)
        have hn2 : ¬ σ (19 + 2 * p) < 0 := by rw [e2]; exact nI_pos (by omega)
        have z : ¬ σ (18 + 2 * p) = 0 := by rw [e1]; exact nI_ne0 h0 (by omega)
        rw [if_neg z, if_neg hn, decide_eq_false hn2]
        rfl
    rw [hl]
    show p + nc (fun k => !decide (σ (19 + 2 * k) < 0)) p + (1 + (bif !decide (σ (19 + 2 * p) < 0) then 1 else 0)) = p + 1 + (nc (fun k => !decide (σ (19 + 2 * k) < 0)) p + (bif !decide (σ (19 + 2 * p) < 0) then 1 else 0))
    omega
