/-! the law's picks and its sum -/
/-- a loop: G k x o M is its head in round k with the value x, stale locals o -/
theorem wq_for {β γ : Type} {Z : am_M → Prop} {G : Nat → β → γ → am_M → am_T} {f : Nat → β → β} {x0 : β} {N c K0 : Nat} {Q : Option Value → am_M → Prop}
    (step : ∀ k o M K, k < N → Z M → (∀ o' M', Z M' → wq (G (k + 1) (f k (am_it f k x0)) o' M') K Q) → wq (G k (am_it f k x0) o M) (c + K) Q)
    (fin : ∀ o M, Z M → wq (G N (am_it f N x0) o M) K0 Q) (o : γ) (M : am_M) (hZ : Z M) : wq (G 0 x0 o M) (N * c + K0) Q := by
  have key : ∀ m k, k + m = N → ∀ o M, Z M → wq (G k (am_it f k x0) o M) (m * c + K0) Q := by
    intro m
    induction m with
    | zero =>
      intro k hk o M hZ
      obtain rfl : k = N := by omega
      rw [Nat.zero_mul, Nat.zero_add]
      exact fin o M hZ
    | succ m ih =>
      intro k hk o M hZ
      have h := step k o M (m * c + K0) (by omega) hZ (fun o' M' hZ' => ih (k + 1) (by omega) o' M' hZ')
      rw [show (m + 1) * c + K0 = c + (m * c + K0) by rw [Nat.succ_mul]; omega]
      exact h
  exact key N 0 (Nat.zero_add _) o M hZ
/-- a loop that keeps what P says -/
theorem wq_forp {β γ : Type} {Z : am_M → Prop} {G : Nat → β → γ → am_M → am_T} {P : Nat → β → Prop} {N c K0 : Nat} {Q : Option Value → am_M → Prop}
    (step : ∀ k x o M K, k < N → P k x → Z M → (∀ x' o' M', P (k + 1) x' → Z M' → wq (G (k + 1) x' o' M') K Q) → wq (G k x o M) (c + K) Q)
    (fin : ∀ x o M, P N x → Z M → wq (G N x o M) K0 Q) (x : β) (o : γ) (M : am_M) (hP : P 0 x) (hZ : Z M) : wq (G 0 x o M) (N * c + K0) Q := by
  have key : ∀ m k, k + m = N → ∀ x o M, P k x → Z M → wq (G k x o M) (m * c + K0) Q := by
    intro m
    induction m with
    | zero =>
      intro k hk x o M hP hZ
      obtain rfl : k = N := by omega
      rw [Nat.zero_mul, Nat.zero_add]
      exact fin x o M hP hZ
    | succ m ih =>
      intro k hk x o M hP hZ
      have h := step k x o M (m * c + K0) (by omega) hP hZ (fun x' o' M' hP' hZ' => ih (k + 1) (by omega) x' o' M' hP' hZ')
      rw [show (m + 1) * c + K0 = c + (m * c + K0) by rw [Nat.succ_mul]; omega]
      exact h
  exact key N 0 (Nat.zero_add _) x o M hP hZ
theorem pZ_s {Lx bd : Nat} {xs : Nat → Int32} {S : Nat → Int64} {σ : Nat → Int32} {L : List (Nat → Int32)} {H : List av_K} {P : Option av_K} {M : am_M} (h : pZ Lx xs S bd σ L H P M) : M.2.2.2.2.2 = (Lx, xs) := h.1.1
theorem am_us_n (c : Int32) : ∃ a, a < 2147483648 ∧ am_us c 1 = nI a := by
  have h : ((c.toUInt32 >>> ((1 : Int32).toUInt32 &&& Int32.toUInt32 31)).toNat) = c.toUInt32.toNat / 2 := by
    rw [UInt32.toNat_shiftRight, show ((1 : Int32).toUInt32 &&& Int32.toUInt32 31).toNat % 32 = 1 by decide, Nat.shiftRight_eq_div_pow]
  have hlt := c.toUInt32.toNat_lt
  have hu : (c.toUInt32 >>> ((1 : Int32).toUInt32 &&& Int32.toUInt32 31)) = UInt32.ofNat (c.toUInt32.toNat / 2) := by
    apply UInt32.toNat_inj.mp
    rw [h]
    show _ = (BitVec.ofNat 32 (c.toUInt32.toNat / 2)).toNat
    rw [BitVec.toNat_ofNat]
    omega
  refine ⟨c.toUInt32.toNat / 2, by omega, ?_⟩
  show (c.toUInt32 >>> ((1 : Int32).toUInt32 &&& Int32.toUInt32 31)).toInt32 = _
  rw [hu]
  rfl
theorem p_bm {n : Int} (h1 : -2147483648 ≤ n) (h2 : n < 2147483648) : n.bmod (2 ^ 32) = n := by
  rw [Int.bmod_def]
  omega
theorem nI_rem {a n : Nat} (ha : a < 2147483648) (hn : 0 < n) (hn2 : n < 2147483648) : nI a - nI a / nI n * nI n = nI (a % n) := by
  have hd : nI a / nI n = nI (a / n) := by
    apply Int32.toInt_inj.mp
    have hq : a / n < 2147483648 := Nat.lt_of_le_of_lt (Nat.div_le_self _ _) ha
    have ht : Int.tdiv ((a : Nat) : Int) ((n : Nat) : Int) = ((a / n : Nat) : Int) := rfl
    rw [Int32.toInt_div, nI_toInt ha, nI_toInt hn2, nI_toInt hq, ht]
    have key : ∀ q : Nat, q < 2147483648 → ((q : Nat) : Int).bmod (2 ^ 32) = ((q : Nat) : Int) := fun q h => p_bm (by omega) (by omega)
    exact key _ hq
  have hle : a / n * n ≤ a := Nat.div_mul_le_self a n
  rw [hd, show nI (a / n) * nI n = nI (a / n * n) from (Int32.ofNat_mul _ _).symm]
  have hm := Nat.mod_add_div a n
  have hm2 : a % n + a / n * n = a := by rw [Nat.mul_comm (a / n) n]; exact hm
  have e := nI_add (a % n) (a / n * n)
  rw [hm2] at e
  rw [← e]
  exact Int32.add_sub_cancel _ _
theorem lq_cell {Lx j : Nat} {xs : Nat → Int32} {x : Int32} {M : am_M} (hj : j < 100000) (hx : x = nI j) (hL : Lx ≤ 260) (hs : M.2.2.2.2.2 = (Lx, xs)) : ∃ c, am_val iL_cell 0 [some (.ref (am_c 0 44)), some (.int x)] [] M = some (.inl (some (.int c)), M, 0, 0) := by
  subst hx
  have h1 : M.2.2.2.2.2.1 = Lx := by rw [hs]
  by_cases h : Lx ≤ j
  · refine ⟨40503 * nI j, ?_⟩
    rw [ae_L_cell_0, if_pos (show Int32.ofNat M.2.2.2.2.2.1 ≤ nI j by rw [h1]; exact nI_le h (by omega)), ae_L_cell_12]
  · refine ⟨M.2.2.2.2.2.2 (nI j).toNatClampNeg, ?_⟩
    rw [ae_L_cell_0, if_neg (show ¬ Int32.ofNat M.2.2.2.2.2.1 ≤ nI j by rw [h1]; exact nI_ge (by omega) (by omega)), ae_L_cell_6 (by rw [h1]; exact am_in_n (by omega) (by omega))]
theorem lq_pick {Lx j n : Nat} {xs : Nat → Int32} {x y : Int32} {M : am_M} (hj : j < 100000) (hx : x = nI j) (hy : y = nI n) (hn : 0 < n) (hn2 : n < 2147483648) (hL : Lx ≤ 260) (hs : M.2.2.2.2.2 = (Lx, xs)) : ∃ q, q < n ∧ am_val iL_pick 0 [some (.ref (am_c 0 44)), some (.int x), some (.int y)] [] M = some (.inl (some (.int (nI q))), M, 0, 0) := by
  obtain ⟨c, e⟩ := lq_cell hj hx hL hs
  obtain ⟨a, ha, ea⟩ := am_us_n c
  subst hy
  refine ⟨a % n, Nat.mod_lt _ hn, ?_⟩
  rw [ae_L_pick_0, e, am_bnx_v]
  simp only [am_tl_s]
  rw [ae_L_pick_5 (nI_ne0 hn (by omega)), ea, nI_rem ha hn hn2]
/-- the sum of what is asked -/
def su_1 (σ : Nat → Int32) (L : List (Nat → Int32)) (k : Nat) (v : Int64) : Int64 := 31 * v + (aw (aq_account σ L 0 0 (nI k))).toInt64
def su_2 (σ : Nat → Int32) (k : Nat) (v : Int64) : Int64 := 31 * v + 7 * (aw (aq_wallOf σ (nI k) 0)).toInt64 + (aw (aq_wallOf σ (nI k) 1)).toInt64
def su_3 (σ : Nat → Int32) (L : List (Nat → Int32)) (t k : Nat) (v : Int64) : Int64 := 31 * v + (aw (aq_teamOf σ L (nI t) (nI k))).toInt64
def su_3' (σ : Nat → Int32) (L : List (Nat → Int32)) (t : Nat) (v : Int64) : Int64 := am_it (su_3 σ L t) 6 v
def su_4 (σ : Nat → Int32) (t k : Nat) (v : Int64) : Int64 := 31 * v + (aw (aq_playerOf σ (nI t) (nI k))).toInt64
def su_4' (σ : Nat → Int32) (t : Nat) (v : Int64) : Int64 := am_it (su_4 σ t) 5 v
def su_5 (L : List (Nat → Int32)) (t k : Nat) (v : Int64) : Int64 := 31 * v + (aw (aq_soundOf L (nI t) (nI k))).toInt64
def su_5' (L : List (Nat → Int32)) (t : Nat) (v : Int64) : Int64 := am_it (su_5 L t) 5 v
def su_a (σ : Nat → Int32) (L : List (Nat → Int32)) : Int64 := am_it (su_1 σ L) 10 (Int64.ofNat 0)
def su_b (σ : Nat → Int32) (L : List (Nat → Int32)) : Int64 := am_it (su_2 σ) 16 (su_a σ L)
def su_c (σ : Nat → Int32) (L : List (Nat → Int32)) : Int64 := am_it (su_3' σ L) 3 (su_b σ L)
def su_d (σ : Nat → Int32) (L : List (Nat → Int32)) : Int64 := am_it (su_4' σ) (av_np σ) (su_c σ L)
def su_e (σ : Nat → Int32) (L : List (Nat → Int32)) : Int64 := am_it (su_5' L) L.length (su_d σ L)
theorem aq_account_h {σ : Nat → Int32} {L : List (Nat → Int32)} {h n h' n' k : Nat} (hk : k < 10) : aq_account σ L h n (nI k) = aq_account σ L h' n' (nI k) := by
  rcases (show k = 0 ∨ k = 1 ∨ k = 2 ∨ k = 3 ∨ k = 4 ∨ k = 5 ∨ k = 6 ∨ k = 7 ∨ k = 8 ∨ k = 9 by omega) with rfl | rfl | rfl | rfl | rfl | rfl | rfl | rfl | rfl | rfl <;> rfl
section
variable {Lx bd : Nat} {xs : Nat → Int32} {S : Nat → Int64} {σ : Nat → Int32} {L : List (Nat → Int32)} {H : List av_K} {P : Option av_K}
theorem lq_acc {x a : Int32} {M : am_M} (hZ : pZ Lx xs S bd σ L H P M) (h : aw (aq_account σ L H.length 0 x) = a) : wq (am_val iL_account 0 [some (.ref (am_c 0 12)), some (.int x), none] [] M) 1 (qi (pZ Lx xs S bd σ L H P) a) := by
  rw [← h]
  exact lq_account hZ
theorem pZ_np {M : am_M} (hZ : pZ Lx xs S bd σ L H P M) : σ 0 = nI (av_np σ) ∧ av_np σ ≤ 6 ∧ L.length ≤ 8 := ⟨hZ.2.1.1.2.2.2.2.2.2.1, hZ.2.1.1.2.2.2.2.2.1, hZ.2.1.1.2.2.2.2.2.2.2⟩
theorem lq_sum5 {v : Int64} {t K : Nat} {M : am_M} {Q : Option Value → am_M → Prop} (hZ : pZ Lx xs S bd σ L H P M) (h : ∀ M', pZ Lx xs S bd σ L H P M' → wq (am_val iL_sum 162 [some (.ref (am_c 0 12)), some (.long (su_5' L t v)), none, some (.int (nI (t + 1))), some (.int (nI 5))] [] M') K Q) :
    wq (am_val iL_sum 174 [some (.ref (am_c 0 12)), some (.long v), none, some (.int (nI t)), some (.int (nI 0))] [] M) (5 * 1 + K) Q := by
  refine wq_for (Z := pZ Lx xs S bd σ L H P) (γ := Unit) (G := fun k v _ M => am_val iL_sum 174 [some (.ref (am_c 0 12)), some (.long v), none, some (.int (nI t)), some (.int (nI k))] [] M) (f := su_5 L t) (x0 := v) (N := 5) (c := 1) (fun k _ M K hk hZ hK => ?_) (fun _ M hZ => ?_) () M hZ
  · rw [ae_L_sum_174, if_neg (show ¬ (5 : Int32) ≤ nI k from nI_ge (b := 5) hk (by decide)), ae_L_sum_180]
    refine wq_i (lq_soundOf hZ) (by omega) fun M1 hZ1 => ?_
    simp only [am_tl_s]
    rw [ae_L_sum_192, nI_1]
    exact wq_k (hK () M1 hZ1) (by omega)
  · rw [ae_L_sum_174, if_pos (show (5 : Int32) ≤ nI 5 by decide), ae_L_sum_201, nI_1]
    exact h M hZ
theorem lq_sum4 {v : Int64} {t K : Nat} {M : am_M} {Q : Option Value → am_M → Prop} (hZ : pZ Lx xs S bd σ L H P M) (h : ∀ M', pZ Lx xs S bd σ L H P M' → wq (am_val iL_sum 115 [some (.ref (am_c 0 12)), some (.long (su_4' σ t v)), none, some (.int (nI (t + 1))), some (.int (nI 5))] [] M') K Q) :
    wq (am_val iL_sum 127 [some (.ref (am_c 0 12)), some (.long v), none, some (.int (nI t)), some (.int (nI 0))] [] M) (5 * 1 + K) Q := by
  refine wq_for (Z := pZ Lx xs S bd σ L H P) (γ := Unit) (G := fun k v _ M => am_val iL_sum 127 [some (.ref (am_c 0 12)), some (.long v), none, some (.int (nI t)), some (.int (nI k))] [] M) (f := su_4 σ t) (x0 := v) (N := 5) (c := 1) (fun k _ M K hk hZ hK => ?_) (fun _ M hZ => ?_) () M hZ
  · rw [ae_L_sum_127, if_neg (show ¬ (5 : Int32) ≤ nI k from nI_ge (b := 5) hk (by decide)), ae_L_sum_133]
    refine wq_i (lq_playerOf hZ) (by omega) fun M1 hZ1 => ?_
    simp only [am_tl_s]
    rw [ae_L_sum_145, nI_1]
    exact wq_k (hK () M1 hZ1) (by omega)
  · rw [ae_L_sum_127, if_pos (show (5 : Int32) ≤ nI 5 by decide), ae_L_sum_154, nI_1]
    exact h M hZ
theorem lq_sum3 {v : Int64} {t K : Nat} {M : am_M} {Q : Option Value → am_M → Prop} (hZ : pZ Lx xs S bd σ L H P M) (h : ∀ M', pZ Lx xs S bd σ L H P M' → wq (am_val iL_sum 71 [some (.ref (am_c 0 12)), some (.long (su_3' σ L t v)), none, some (.int (nI (t + 1))), some (.int (nI 6))] [] M') K Q) :
    wq (am_val iL_sum 79 [some (.ref (am_c 0 12)), some (.long v), none, some (.int (nI t)), some (.int (nI 0))] [] M) (6 * 1 + K) Q := by
  refine wq_for (Z := pZ Lx xs S bd σ L H P) (γ := Unit) (G := fun k v _ M => am_val iL_sum 79 [some (.ref (am_c 0 12)), some (.long v), none, some (.int (nI t)), some (.int (nI k))] [] M) (f := su_3 σ L t) (x0 := v) (N := 6) (c := 1) (fun k _ M K hk hZ hK => ?_) (fun _ M hZ => ?_) () M hZ
  · rw [ae_L_sum_79, if_neg (show ¬ (6 : Int32) ≤ nI k from nI_ge (b := 6) hk (by decide)), ae_L_sum_86]
    refine wq_i (lq_teamOf hZ) (by omega) fun M1 hZ1 => ?_
    simp only [am_tl_s]
    rw [ae_L_sum_98, nI_1]
    exact wq_k (hK () M1 hZ1) (by omega)
  · rw [ae_L_sum_79, if_pos (show (6 : Int32) ≤ nI 6 by decide), ae_L_sum_107, nI_1]
    exact h M hZ
theorem lq_sum {M : am_M} (hZ : pZ Lx xs S bd σ L H P M) : wq (am_val iL_sum 0 [some (.ref (am_c 0 12)), none, none, none, none] [] M) 200 (ql (pZ Lx xs S bd σ L H P) (su_e σ L)) := by
  obtain ⟨hn0, hn6, hl8⟩ := pZ_np hZ
  rw [ae_L_sum_0]
  have h0 := wq_for (Z := pZ Lx xs S bd σ L H P) (γ := Unit) (G := fun k v _ M => am_val iL_sum 4 [some (.ref (am_c 0 12)), some (.long v), none, some (.int (nI k)), none] [] M) (f := su_1 σ L) (x0 := Int64.ofNat 0) (N := 10) (c := 1) (K0 := 190) (Q := ql (pZ Lx xs S bd σ L H P) (su_e σ L)) (fun k _ M K hk hZ hK => ?_) (fun _ M hZ => ?_) () M hZ
  · exact wq_k h0 (by decide)
  · rw [ae_L_sum_4, if_neg (show ¬ (10 : Int32) ≤ nI k from nI_ge (b := 10) hk (by decide)), ae_L_sum_10]
    refine wq_i (lq_account hZ) (by omega) fun M1 hZ1 => ?_
    simp only [am_tl_s]
    rw [ae_L_sum_20, nI_1, aq_account_h (h' := 0) (n' := 0) hk]
    exact wq_k (hK () M1 hZ1) (by omega)
  rw [ae_L_sum_4, if_pos (show (10 : Int32) ≤ nI 10 by decide), ae_L_sum_29]
  have h0 := wq_for (Z := pZ Lx xs S bd σ L H P) (γ := Unit) (G := fun k v _ M => am_val iL_sum 31 [some (.ref (am_c 0 12)), some (.long v), none, some (.int (nI k)), none] [] M) (f := su_2 σ) (x0 := su_a σ L) (N := 16) (c := 2) (K0 := 150) (Q := ql (pZ Lx xs S bd σ L H P) (su_e σ L)) (fun k _ M K hk hZ hK => ?_) (fun _ M hZ => ?_) () M hZ
  · exact wq_k h0 (by decide)
  · rw [ae_L_sum_31, if_neg (show ¬ (16 : Int32) ≤ nI k from nI_ge (b := 16) hk (by decide)), ae_L_sum_37]
    refine wq_i (lq_wallOf hZ) (by omega) fun M1 hZ1 => ?_
    simp only [am_tl_s]
    rw [ae_L_sum_51]
    refine wq_i (lq_wallOf hZ1) (by omega) fun M2 hZ2 => ?_
    simp only [am_tl_s]
    rw [ae_L_sum_60, nI_1]
    exact wq_k (hK () M2 hZ2) (by omega)
  rw [ae_L_sum_31, if_pos (show (16 : Int32) ≤ nI 16 by decide), ae_L_sum_69]
  have h0 := wq_for (Z := pZ Lx xs S bd σ L H P) (γ := Option Value) (G := fun k v o M => am_val iL_sum 71 [some (.ref (am_c 0 12)), some (.long v), none, some (.int (nI k)), o] [] M) (f := su_3' σ L) (x0 := su_b σ L) (N := 3) (c := 6) (K0 := 130) (Q := ql (pZ Lx xs S bd σ L H P) (su_e σ L)) (fun k o M K hk hZ hK => ?_) (fun o M hZ => ?_) none M hZ
  · exact wq_k h0 (by decide)
  · rw [ae_L_sum_71, if_neg (show ¬ (3 : Int32) ≤ nI k from nI_ge (b := 3) hk (by decide)), ae_L_sum_76]
    exact lq_sum3 hZ fun M1 hZ1 => hK _ M1 hZ1
  rw [ae_L_sum_71, if_pos (show (3 : Int32) ≤ nI 3 by decide), ae_L_sum_113]
  have h0 := wq_for (Z := pZ Lx xs S bd σ L H P) (γ := Option Value) (G := fun k v o M => am_val iL_sum 115 [some (.ref (am_c 0 12)), some (.long v), none, some (.int (nI k)), o] [] M) (f := su_4' σ) (x0 := su_c σ L) (N := av_np σ) (c := 6) (K0 := 80) (Q := ql (pZ Lx xs S bd σ L H P) (su_e σ L)) (fun k o M K hk hZ hK => ?_) (fun o M hZ => ?_) o M hZ
  · exact wq_k h0 (by omega)
  · rw [ae_L_sum_115]
    refine wq_i (lq_acc (a := nI (av_np σ)) hZ hn0) (by omega) fun M1 hZ1 => ?_
    simp only [am_tl_s]
    rw [ae_L_sum_121, if_neg (show ¬ nI (av_np σ) ≤ nI k from nI_ge hk (by omega)), ae_L_sum_124]
    exact wq_k (lq_sum4 hZ1 fun M2 hZ2 => hK _ M2 hZ2) (by omega)
  rw [ae_L_sum_115]
  refine wq_i (lq_acc (a := nI (av_np σ)) hZ hn0) (by omega) fun M1 hZ1 => ?_
  simp only [am_tl_s]
  rw [ae_L_sum_121, if_pos (show nI (av_np σ) ≤ nI (av_np σ) from nI_le (Nat.le_refl _) (by omega)), ae_L_sum_160]
  have h0 := wq_for (Z := pZ Lx xs S bd σ L H P) (γ := Option Value) (G := fun k v o M => am_val iL_sum 162 [some (.ref (am_c 0 12)), some (.long v), none, some (.int (nI k)), o] [] M) (f := su_5' L) (x0 := su_d σ L) (N := L.length) (c := 6) (K0 := 20) (Q := ql (pZ Lx xs S bd σ L H P) (su_e σ L)) (fun k o M K hk hZ hK => ?_) (fun o M hZ => ?_) o M1 hZ1
  · exact wq_k h0 (by omega)
  · rw [ae_L_sum_162]
    refine wq_i (lq_acc (a := nI L.length) hZ rfl) (by omega) fun M1 hZ1 => ?_
    simp only [am_tl_s]
    rw [ae_L_sum_168, if_neg (show ¬ nI L.length ≤ nI k from nI_ge hk (by omega)), ae_L_sum_171]
    exact wq_k (lq_sum5 hZ1 fun M2 hZ2 => hK _ M2 hZ2) (by omega)
  rw [ae_L_sum_162]
  refine wq_i (lq_acc (a := nI L.length) hZ rfl) (by omega) fun M1 hZ1 => ?_
  simp only [am_tl_s]
  rw [ae_L_sum_168, if_pos (show nI L.length ≤ nI L.length from nI_le (Nat.le_refl _) (by omega)), ae_L_sum_207]
  exact wq_e ⟨rfl, hZ1⟩
end
