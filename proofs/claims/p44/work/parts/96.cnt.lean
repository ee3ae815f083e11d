/-! counting; ranks -/
def nc (p : Nat → Bool) : Nat → Nat
  | 0 => 0
  | n + 1 => nc p n + (bif p n then 1 else 0)
theorem nc_t {p : Nat → Bool} {n : Nat} (h : p n = true) : nc p (n + 1) = nc p n + 1 := by
  show nc p n + (bif p n then 1 else 0) = _
  rw [h]
  rfl
theorem nc_f {p : Nat → Bool} {n : Nat} (h : p n = false) : nc p (n + 1) = nc p n := by
  show nc p n + (bif p n then 1 else 0) = _
  rw [h]
  rfl
theorem am_cnt_nc {p : Nat → Bool} : ∀ n, am_cnt p n = nI (nc p n) := by
  intro n
  induction n with
  | zero => rfl
  | succ n ih =>
    have hs : am_cnt p (n + 1) = am_cg p n (am_cnt p n) := rfl
    cases hp : p n with
    | true => rw [hs, am_cg_t hp, ih, nI_1, nc_t hp]
    | false => rw [hs, am_cg_f hp, ih, nc_f hp]
theorem nc_le {p : Nat → Bool} : ∀ n, nc p n ≤ n := by
  intro n
  induction n with
  | zero => exact Nat.le_refl _
  | succ n ih =>
    cases hp : p n with
    | true => rw [nc_t hp]; omega
    | false => rw [nc_f hp]; omega
theorem nc_c {p q : Nat → Bool} : ∀ n, (∀ k, k < n → p k = q k) → nc p n = nc q n := by
  intro n
  induction n with
  | zero => intro _; rfl
  | succ n ih =>
    intro h
    have h1 := h n (Nat.lt_succ_self _)
    have h2 := ih fun k hk => h k (by omega)
    cases hp : p n with
    | true => rw [nc_t hp, nc_t (h1.symm.trans hp), h2]
    | false => rw [nc_f hp, nc_f (h1.symm.trans hp), h2]
theorem nc_mono {p q : Nat → Bool} : ∀ n, (∀ k, k < n → p k = true → q k = true) → nc p n ≤ nc q n := by
  intro n
  induction n with
  | zero => intro _; exact Nat.le_refl _
  | succ n ih =>
    intro h
    have h2 := ih fun k hk => h k (by omega)
    cases hp : p n with
    | true => rw [nc_t hp, nc_t (h n (Nat.lt_succ_self _) hp)]; omega
    | false =>
      rw [nc_f hp]
      cases hq : q n with
      | true => rw [nc_t hq]; omega
      | false => rw [nc_f hq]; exact h2
theorem nc_lt {p q : Nat → Bool} {k0 : Nat} : ∀ n, (∀ k, k < n → p k = true → q k = true) → k0 < n → p k0 = false → q k0 = true → nc p n < nc q n := by
  intro n
  induction n with
  | zero => intro _ h; exact absurd h (Nat.not_lt_zero _)
  | succ n ih =>
    intro h hk hp0 hq0
    by_cases e : k0 = n
    · rw [← e, nc_f hp0, nc_t hq0]
      have := nc_mono (p := p) (q := q) k0 fun k hk => h k (by omega)
      omega
    · have h2 := ih (fun k hk => h k (by omega)) (by omega) hp0 hq0
      cases hp : p n with
      | true => rw [nc_t hp, nc_t (h n (Nat.lt_succ_self _) hp)]; omega
      | false =>
        rw [nc_f hp]
        cases hq : q n with
        | true => rw [nc_t hq]; omega
        | false => rw [nc_f hq]; exact h2
theorem nc_z {p : Nat → Bool} : ∀ n, (∀ k, k < n → p k = false) → nc p n = 0 := by
  intro n
  induction n with
  | zero => intro _; rfl
  | succ n ih => intro h; rw [nc_f (h n (Nat.lt_succ_self _))]; exact ih fun k hk => h k (by omega)
theorem nc_1 {p : Nat → Bool} : ∀ n, (∀ i j, i < n → j < n → p i = true → p j = true → i = j) → nc p n ≤ 1 := by
  intro n
  induction n with
  | zero => intro _; exact Nat.zero_le _
  | succ n ih =>
    intro h
    cases hp : p n with
    | true =>
      have hz : nc p n = 0 := nc_z n fun k hk => by
        cases hk2 : p k with
        | false => rfl
        | true =>
          have := h k n (by omega) (by omega) hk2 hp
          omega
      rw [nc_t hp, hz]
      exact Nat.le_refl _
    | false => rw [nc_f hp]; exact ih fun i j hi hj => h i j (by omega) (by omega)
theorem nc_or {p q r : Nat → Bool} : ∀ n, (∀ k, k < n → p k = true → q k = true ∨ r k = true) → nc p n ≤ nc q n + nc r n := by
  intro n
  induction n with
  | zero => intro _; exact Nat.le_refl _
  | succ n ih =>
    intro h
    have h2 := ih fun k hk => h k (by omega)
    cases hp : p n with
    | true =>
      rw [nc_t hp]
      rcases h n (Nat.lt_succ_self _) hp with e | e
      · rw [nc_t e]
        cases hr : r n with
        | true => rw [nc_t hr]; omega
        | false => rw [nc_f hr]; omega
      · rw [nc_t e]
        cases hq : q n with
        | true => rw [nc_t hq]; omega
        | false => rw [nc_f hq]; omega
    | false =>
      rw [nc_f hp]
      cases hr : r n <;> cases hq : q n
      · rw [nc_f hr, nc_f hq]; exact h2
      · rw [nc_f hr, nc_t hq]; omega
      · rw [nc_t hr, nc_f hq]; omega
      · rw [nc_t hr, nc_t hq]; omega
theorem nc_ex {p : Nat → Bool} : ∀ n, nc p n < n → ∃ k, k < n ∧ p k = false := by
  intro n
  induction n with
  | zero => intro h; exact absurd h (Nat.not_lt_zero _)
  | succ n ih =>
    intro h
    cases hp : p n with
    | false => exact ⟨n, Nat.lt_succ_self _, hp⟩
    | true =>
      rw [nc_t hp] at h
      obtain ⟨k, hk, e⟩ := ih (by omega)
      exact ⟨k, by omega, e⟩
/-- the rank of t: how many come before it -/
def nr (f : Nat → Nat) (n t : Nat) : Nat := nc (fun s => decide (f t < f s)) n
theorem nr_lt {f : Nat → Nat} {n a b : Nat} (hb : b < n) (h : f a < f b) : nr f n b < nr f n a := by
  refine nc_lt (k0 := b) n (fun k _ hk => ?_) hb (decide_eq_false (Nat.lt_irrefl _)) (decide_eq_true h)
  have := of_decide_eq_true hk
  exact decide_eq_true (by omega)
theorem nr_le {f : Nat → Nat} {n a b : Nat} (ha : a < n) (h : nr f n b < nr f n a) : f a < f b := by
  rcases Nat.lt_or_ge (f a) (f b) with q | q
  · exact q
  · rcases Nat.lt_or_ge (f b) (f a) with q2 | q2
    · have := nr_lt ha q2
      omega
    · have e : f a = f b := Nat.le_antisymm q2 q
      have : nr f n a = nr f n b := by unfold nr; rw [e]
      omega
theorem nr_n {f : Nat → Nat} {n t : Nat} (ht : t < n) : nr f n t < n := by
  have h : nr f n t < nc (fun _ => true) n := nc_lt (k0 := t) n (fun _ _ _ => rfl) ht (decide_eq_false (Nat.lt_irrefl _)) rfl
  have := nc_le (p := fun _ => true) n
  omega
theorem nr_ex {f : Nat → Nat} {n : Nat} (hf : ∀ i j, i < n → j < n → f i = f j → i = j) : ∀ k, k < n → ∃ t, t < n ∧ nr f n t = k := by
  have inj : ∀ i j, i < n → j < n → nr f n i = nr f n j → i = j := fun i j hi hj e => by
    refine hf i j hi hj ?_
    rcases Nat.lt_or_ge (f i) (f j) with q | q
    · have := nr_lt (n := n) hj q
      omega
    · rcases Nat.lt_or_ge (f j) (f i) with q2 | q2
      · have := nr_lt (n := n) hi q2
        omega
      · exact Nat.le_antisymm q2 q
  have cnt : ∀ k, nc (fun t => decide (nr f n t < k)) n ≤ k := by
    intro k
    induction k with
    | zero => exact Nat.le_of_eq (nc_z n fun t _ => decide_eq_false (Nat.not_lt_zero _))
    | succ k ih =>
      have h1 := nc_or (p := fun t => decide (nr f n t < k + 1)) (q := fun t => decide (nr f n t < k)) (r := fun t => decide (nr f n t = k)) n fun t _ ht => by
        have := of_decide_eq_true ht
        by_cases e : nr f n t = k
        · exact Or.inr (decide_eq_true e)
        · exact Or.inl (decide_eq_true (by omega))
      have h2 := nc_1 (p := fun t => decide (nr f n t = k)) n fun i j hi hj a b => inj i j hi hj ((of_decide_eq_true a).trans (of_decide_eq_true b).symm)
      omega
  intro k hk
  obtain ⟨t0, ht0, e0⟩ := nc_ex n (Nat.lt_of_le_of_lt (cnt k) hk)
  have e0 : ¬ nr f n t0 < k := of_decide_eq_false e0
  have mn : ∀ m, (∃ t, t < n ∧ k ≤ nr f n t ∧ nr f n t ≤ m) → ∃ t, t < n ∧ k ≤ nr f n t ∧ ∀ s, s < n → k ≤ nr f n s → nr f n t ≤ nr f n s := by
    intro m
    induction m with
    | zero =>
      intro ⟨t, h1, h2, h3⟩
      exact ⟨t, h1, h2, fun s _ _ => by omega⟩
    | succ m ih =>
      intro ⟨t, h1, h2, h3⟩
      by_cases q : ∃ s, s < n ∧ k ≤ nr f n s ∧ nr f n s ≤ m
      · exact ih q
      · refine ⟨t, h1, h2, fun s hs hk => ?_⟩
        rcases Nat.lt_or_ge m (nr f n s) with z | z
        · omega
        · exact absurd ⟨s, hs, hk, z⟩ q
  obtain ⟨t, ht, h1, h2⟩ := mn _ ⟨t0, ht0, by omega, Nat.le_refl _⟩
  refine ⟨t, ht, Nat.le_antisymm (Nat.le_trans (nc_mono n fun s hs q => ?_) (cnt k)) h1⟩
  have q := of_decide_eq_true q
  have h3 := nr_lt (n := n) hs q
  refine decide_eq_true ?_
  rcases Nat.lt_or_ge (nr f n s) k with z | z
  · exact z
  · have := h2 s hs z
    omega
/-! sounds -/
theorem sd_l {bd : Nat} {σ s : Nat → Int32} {L : List (Nat → Int32)} (hok : av_ok bd σ L) {l : Nat} (hl : l ≤ 20) (h : s 1 = nI l) : ∀ j, ∃ l', av_n σ s j 1 = nI l' ∧ (l' = 0 ∨ l' + j ≤ l) := by
  intro j
  induction j with
  | zero => exact ⟨l, h, Or.inr (Nat.le_refl _)⟩
  | succ j ih =>
    obtain ⟨l', e, h2⟩ := ih
    by_cases h0 : l' = 0
    · have hz : av_n σ s j 1 = 0 := by rw [e, h0, nI_0]
      exact ⟨0, by rw [nI_0]; exact av_a1_z hok hz, Or.inl rfl⟩
    · obtain ⟨l2, h3, e2⟩ := av_a1_lt hok (by omega) (by omega) e
      exact ⟨l2, e2, by omega⟩
/-- what a sound is, in numbers -/
theorem sd_n {bd : Nat} {σ : Nat → Int32} {L : List (Nat → Int32)} (hok : av_ok bd σ L) {k : Nat} (hk : k < L.length) : ∃ p l t, p < 16 ∧ 0 < l ∧ t + l ≤ 20 ∧ av_s L k 0 = nI p ∧ av_s L k 1 = nI l ∧ av_s L k 3 = nI t ∧ ∃ b, b < 3 ∧ av_s L k 2 = nI b := by
  obtain ⟨⟨p, hp, e0⟩, ⟨l, t, hl, ht, e1, e3⟩, ⟨b, hb, e2⟩, -⟩ := hok.2.2.2.2.1 k hk
  exact ⟨p, l, t, hp, hl, ht, e0, e1, e3, b, hb, e2⟩
theorem wt_4 {w : Nat} (hw : w ≤ 4) : am_wt (nI w) 0 4 = true := by
  have h : ∀ w, w < 5 → am_wt (nI w) 0 4 = true := by decide
  exact h w (by omega)
theorem wt_20 {b : Nat} (hb : b ≤ 20) : am_wt (nI b) 0 20 = true := by
  have h : ∀ b, b < 21 → am_wt (nI b) 0 20 = true := by decide
  exact h b (by omega)
theorem aw_sound {L : List (Nat → Int32)} {k w : Nat} (hk : k < L.length) (hl : L.length ≤ 8) (hw : w ≤ 4) : aw (aq_soundOf L (nI k) (nI w)) = av_s L k w := by
  have c1 : ¬ am_ltb (nI k) L.length = false := by rw [am_n_lt (by omega) hk]; decide
  have c2 : ¬ am_wt (nI w) 0 4 = false := by rw [wt_4 hw]; decide
  unfold aq_soundOf
  rw [if_neg c1, if_neg c2, av_ix_n (by omega), av_ix_n (by omega)]
  rfl
theorem aw_where {bd : Nat} {σ : Nat → Int32} {L : List (Nat → Int32)} (hok : av_ok bd σ L) {k b : Nat} (hk : k < L.length) (hb : b ≤ 20) :
    aw (aq_where σ L (nI k) (nI b)) = (if b < av_gn σ (av_s L k) then av_n σ (av_s L k) b 0 else -75) ∧ aw (aq_loudIn σ L (nI k) (nI b)) = (if b < av_gn σ (av_s L k) then av_n σ (av_s L k) b 1 else 0) := by
  have hl8 := hok.2.2.2.2.2.2.2
  obtain ⟨g1, g2, g3, g4⟩ := av_gn_e hok (hok.2.2.2.2.1 k hk)
  have c1 : ¬ am_ltb (nI k) L.length = false := by rw [am_n_lt (by omega) hk]; decide
  have c2 : ¬ am_wt (nI b) 0 20 = false := by rw [wt_20 hb]; decide
  have e1 : aq_where σ L (nI k) (nI b) = if av_n σ (av_s L k) b 1 = 0 then .inr (3, 3) else .inl (av_n σ (av_s L k) b 0) := by
    unfold aq_where
    rw [if_neg c1, if_neg c2, av_ix_n (by omega), av_ix_n (by omega)]
  have e2 : aq_loudIn σ L (nI k) (nI b) = .inl (av_n σ (av_s L k) b 1) := by
    unfold aq_loudIn
    rw [if_neg c1, if_neg c2, av_ix_n (by omega), av_ix_n (by omega)]
  rw [e1, e2]
  by_cases h : b < av_gn σ (av_s L k)
  · rw [if_pos h, if_pos h, if_neg (g3 b h).1]
    exact ⟨rfl, rfl⟩
  · rw [if_neg h, if_neg h, if_pos (g4 b (by omega))]
    exact ⟨rfl, g4 b (by omega)⟩
theorem aw_isEcho {L : List (Nat → Int32)} {k : Nat} (hk : k < L.length) (hl : L.length ≤ 8) : aw (aq_isEcho L (nI k)) = am_bi (decide (0 < av_s L k 3)) := by
  unfold aq_isEcho
  have c1 : ¬ am_ltb (nI k) L.length = false := by rw [am_n_lt (by omega) hk]; decide
  rw [if_neg c1, av_ix_n (by omega)]
  rfl
/-- a sound's key: louder, then an echo, then the earlier -/
def sd_k (L : List (Nat → Int32)) (k : Nat) : Nat := ((av_s L k 1).toNatClampNeg * 2 + (if 0 < av_s L k 3 then 1 else 0)) * 8 + (7 - k)
theorem sd_ha {bd : Nat} {σ : Nat → Int32} {L : List (Nat → Int32)} (hok : av_ok bd σ L) {j k : Nat} (hj : j < L.length) (hk : k < L.length) : av_ha L j k = decide (sd_k L k < sd_k L j) := by
  have hl8 := hok.2.2.2.2.2.2.2
  obtain ⟨p, l, t, -, hl, ht, -, e1, e3, -⟩ := sd_n hok hj
  obtain ⟨p', l', t', -, hl', ht', -, e1', e3', -⟩ := sd_n hok hk
  unfold av_ha sd_k
  rw [e1, e1', am_tn (by omega), am_tn (by omega)]
  generalize hx : av_s L j 3 = x
  generalize hy : av_s L k 3 = y
  have hle : nI l = nI l' ↔ l = l' := nI_eq (by omega) (by omega)
  have hlt : nI l' < nI l ↔ l' < l := nI_ltI (by omega) (by omega)
  by_cases c1 : l = l'
  · rw [if_pos (hle.mpr c1)]
    by_cases a : 0 < x <;> by_cases b : 0 < y
    · rw [if_pos (by rw [decide_eq_true a, decide_eq_true b]), if_pos a, if_pos b]
      exact decide_eq_decide.mpr (by omega)
    · rw [if_neg (by rw [decide_eq_true a, decide_eq_false b]; decide), if_pos a, if_neg b, decide_eq_true a]
      exact (decide_eq_true (by omega)).symm
    · rw [if_neg (by rw [decide_eq_false a, decide_eq_true b]; decide), if_neg a, if_pos b, decide_eq_false a]
      exact (decide_eq_false (by omega)).symm
    · rw [if_pos (by rw [decide_eq_false a, decide_eq_false b]), if_neg a, if_neg b]
      exact decide_eq_decide.mpr (by omega)
  · rw [if_neg (fun e => c1 (hle.mp e))]
    refine decide_eq_decide.mpr (hlt.trans ?_)
    have h1 : (if 0 < x then 1 else 0 : Nat) ≤ 1 := by split <;> omega
    have h2 : (if 0 < y then 1 else 0 : Nat) ≤ 1 := by split <;> omega
    omega
theorem sd_la {bd : Nat} {σ : Nat → Int32} {L : List (Nat → Int32)} (hok : av_ok bd σ L) {t : Nat} (ht : t < L.length) : av_la L t = nI (nr (sd_k L) L.length t) := by
  unfold av_la nr
  rw [am_cnt_nc, nc_c L.length fun k hk => sd_ha hok hk ht]
theorem sd_inj {bd : Nat} {σ : Nat → Int32} {L : List (Nat → Int32)} (hok : av_ok bd σ L) : ∀ i j, i < L.length → j < L.length → sd_k L i = sd_k L j → i = j := by
  intro i j hi hj e
  have hl8 := hok.2.2.2.2.2.2.2
  unfold sd_k at e
  have h1 : (if 0 < av_s L i 3 then 1 else 0 : Nat) ≤ 1 := by split <;> omega
  have h2 : (if 0 < av_s L j 3 then 1 else 0 : Nat) ≤ 1 := by split <;> omega
  omega
theorem aw_loudest {bd : Nat} {σ : Nat → Int32} {L : List (Nat → Int32)} (hok : av_ok bd σ L) {k : Nat} (hk : k < L.length) : ∃ t, t < L.length ∧ nr (sd_k L) L.length t = k ∧ aw (aq_loudest L (nI k)) = nI t := by
  have hl8 := hok.2.2.2.2.2.2.2
  obtain ⟨t, ht, e⟩ := nr_ex (sd_inj hok) k hk
  unfold aq_loudest
  rcases av_fst_c (f := fun t => decide (av_la L t = nI k)) L.length with ⟨-, h2⟩ | ⟨j, h1, h2, h3, -⟩
  · have h3 : ¬ av_la L t = nI k := of_decide_eq_false (h2 t ht)
    rw [sd_la hok ht, e] at h3
    exact absurd rfl h3
  · rw [h2]
    have h3 : av_la L j = nI k := of_decide_eq_true h3
    rw [sd_la hok h1] at h3
    exact ⟨j, h1, (nI_eq (by have := nr_n (f := sd_k L) h1; omega) (by omega)).mp h3, rfl⟩
theorem aw_loudest_n {bd : Nat} {σ : Nat → Int32} {L : List (Nat → Int32)} (hok : av_ok bd σ L) : aw (aq_loudest L (nI L.length)) = -75 := by
  have hl8 := hok.2.2.2.2.2.2.2
  have h0 : av_fst (fun t => decide (av_la L t = nI L.length)) L.length = none := av_fst_n fun t ht => decide_eq_false fun e => by
    rw [sd_la hok ht] at e
    have h := nr_n (f := sd_k L) ht
    have := (nI_eq (by omega) (by omega)).mp e
    omega
  unfold aq_loudest
  rw [h0]
  rfl
