/-! TEXTS: a builder, a text, what the JDK's methods do with them -/
theorem bt_0 : ((0 : Int32)).toInt8.toInt32 = 0 := by decide
theorem sh_0 (x : Int32) : x >>> ((0 : Int32) &&& 31) = x := by
  rw [show ((0 : Int32) &&& 31) = 0 by decide]
  simp
theorem shl_0 (x : Int32) : x <<< ((0 : Int32) &&& 31) = x := by
  rw [show ((0 : Int32) &&& 31) = 0 by decide]
  simp
/-- a builder: the object b, its bytes v, cnt of them in use -/
def sb (M : am_M) (b v cnt : Nat) : Prop := M.2.1 (am_c b 15) 0 = am_c v 18 + 1 ∧ M.1 (am_c b 15) 1 = 0 ∧ M.1 (am_c b 15) 3 = nI cnt ∧ ∀ j, j < 16 → (M.1 (am_c v 18) j).toInt8.toInt32 = M.1 (am_c v 18) j
/-- a text: the object s, its bytes w of kind k, n of them -/
def ts (M : am_M) (s w k n : Nat) : Prop := M.2.1 (am_c s 13) 0 = am_c w k + 1 ∧ M.1 (am_c s 13) 1 = 0 ∧ ∀ j, j < n → (M.1 (am_c w k) j).toInt8.toInt32 = M.1 (am_c w k) j
def sk (k n : Nat) : Prop := (k = 19 ∧ n = 3) ∨ (k = 20 ∧ n = 4) ∨ (k = 21 ∧ n = 5) ∨ (k = 28 ∧ n = 6) ∨ (k = 29 ∧ n = 8) ∨ (k = 30 ∧ n = 9)
/-- nothing but the builder is changed -/
def tg (b v : Nat) (M X : am_M) : Prop := X.2 = M.2 ∧ ∀ c k, k < 64 → ¬ (c = b ∧ k = 15) → ¬ (c = v ∧ k = 18) → X.1 (am_c c k) = M.1 (am_c c k)
theorem tg_0 {b v : Nat} {M : am_M} : tg b v M M := ⟨rfl, fun _ _ _ _ _ => rfl⟩
theorem tg_t {b v : Nat} {M X Y : am_M} (h : tg b v M X) (h' : tg b v X Y) : tg b v M Y := ⟨h'.1.trans h.1, fun c k hk a d => (h'.2 c k hk a d).trans (h.2 c k hk a d)⟩
theorem sb_wr {M : am_M} {m : Nat → Nat → Int32} {b v cnt cnt' : Nat} {x : Int32} (h : sb M b v cnt) (hm : ∀ a, a ≠ am_c v 18 → m a = M.1 a) (hb : ∀ j, j < 16 → (m (am_c v 18) j).toInt8.toInt32 = m (am_c v 18) j) (hx : x = nI cnt') : sb (av_i (m, M.2) (am_c b 15) 3 x) b v cnt' ∧ tg b v M (av_i (m, M.2) (am_c b 15) 3 x) := by
  obtain ⟨h1, h2, h3, h4⟩ := h
  have hn : am_c b 15 ≠ am_c v 18 := am_c_ne (by decide) (by decide) (by omega)
  have hn2 : ¬ am_c v 18 = am_c b 15 := fun e => hn e.symm
  refine ⟨⟨h1, ?_, ?_, fun j hj => ?_⟩, rfl, fun c k hk a d => ?_⟩
  · rw [av_jK (by decide)]
    show m (am_c b 15) 1 = 0
    rw [hm _ hn]
    exact h2
  · rw [av_jS]
    exact hx
  · show (am_up m (am_c b 15) 3 x (am_c v 18) j).toInt8.toInt32 = am_up m (am_c b 15) 3 x (am_c v 18) j
    rw [am_up_a hn2]
    exact hb j hj
  · funext j
    show am_up m (am_c b 15) 3 x (am_c c k) j = _
    rw [am_up_a (am_c_ne hk (by decide) a), hm _ (am_c_ne hk (by decide) d)]
theorem jt_coder_a {i : Nat} {M : am_M} : am_val iJ0_coder_7d493 0 [some (.ref (am_c i 45))] [] M = some (.inl (some (.int 0)), M, 0, 0) := by
  rw [ae_J0_coder_7d493a_0, if_neg (by decide), ae_J0_coder_7d493a_6]
theorem jt_coder_s {s : Nat} {M : am_M} (h : M.1 (am_c s 13) 1 = 0) : am_val iJ0_coder_7d493 0 [some (.ref (am_c s 13))] [] M = some (.inl (some (.int 0)), M, 0, 0) := by
  rw [ae_J0_coder_7d493s_0, if_neg (by decide), ae_J0_coder_7d493s_6 (by rw [h]; decide), h]
theorem jt_len_a {i : Nat} {M : am_M} : am_val iJ0_length_8abf5 0 [some (.ref (am_c i 45))] [] M = some (.inl (some (.int (nI (am_sn i)))), M, 0, 0) := by
  rw [ae_J0_length_8abf5a_0, jt_coder_a, am_bnx_v]
  simp only [am_tl_s]
  rw [ae_J0_length_8abf5a_9, sh_0]
  rfl
theorem jt_len_s {s w k n : Nat} {M : am_M} (h : ts M s w k n) (hk : sk k n) : am_val iJ0_length_8abf5 0 [some (.ref (am_c s 13))] [] M = some (.inl (some (.int (nI n))), M, 0, 0) := by
  obtain ⟨h1, h2, -⟩ := h
  rcases hk with ⟨rfl, rfl⟩ | ⟨rfl, rfl⟩ | ⟨rfl, rfl⟩ | ⟨rfl, rfl⟩ | ⟨rfl, rfl⟩ | ⟨rfl, rfl⟩
  · rw [ae_J0_length_8abf5n3_0, h1, am_rv_s, ae_J0_length_8abf5n3_4, jt_coder_s h2, am_bnx_v]
    simp only [am_tl_s]
    rw [ae_J0_length_8abf5n3_9, sh_0]
    rfl
  · rw [ae_J0_length_8abf5n4_0, h1, am_rv_s, ae_J0_length_8abf5n4_4, jt_coder_s h2, am_bnx_v]
    simp only [am_tl_s]
    rw [ae_J0_length_8abf5n4_9, sh_0]
    rfl
  · rw [ae_J0_length_8abf5n5_0, h1, am_rv_s, ae_J0_length_8abf5n5_4, jt_coder_s h2, am_bnx_v]
    simp only [am_tl_s]
    rw [ae_J0_length_8abf5n5_9, sh_0]
    rfl
  · rw [ae_J0_length_8abf5n6_0, h1, am_rv_s, ae_J0_length_8abf5n6_4, jt_coder_s h2, am_bnx_v]
    simp only [am_tl_s]
    rw [ae_J0_length_8abf5n6_9, sh_0]
    rfl
  · rw [ae_J0_length_8abf5n8_0, h1, am_rv_s, ae_J0_length_8abf5n8_4, jt_coder_s h2, am_bnx_v]
    simp only [am_tl_s]
    rw [ae_J0_length_8abf5n8_9, sh_0]
    rfl
  · rw [ae_J0_length_8abf5n9_0, h1, am_rv_s, ae_J0_length_8abf5n9_4, jt_coder_s h2, am_bnx_v]
    simp only [am_tl_s]
    rw [ae_J0_length_8abf5n9_9, sh_0]
    rfl
theorem jt_en {m : Nat} (hm : m ≤ 16) : nI m - 16 ≤ 0 := by
  have h : ∀ m, m < 17 → nI m - 16 ≤ 0 := by decide
  exact h m (by omega)
theorem jt_ens {b v cnt m : Nat} {M : am_M} (h : sb M b v cnt) (hm : m ≤ 16) : am_val iJ5_ensureCapacityInternal_d00df 0 [some (.ref (am_c b 15)), some (.int (nI m)), none] [] M = some (.inl none, M, 0, 0) := by
  rw [ae_J5_ensureCapacityInternal_d00df_0, h.1, am_rv_s, ae_J5_ensureCapacityInternal_d00df_4, h.2.1, sh_0, if_pos (jt_en hm), ae_J5_ensureCapacityInternal_d00df_38]
theorem jt_inf_a {b v cnt i : Nat} {M : am_M} (h : sb M b v cnt) : am_val iJ5_inflateIfNeededFor_a7421 0 [some (.ref (am_c b 15)), some (.ref (am_c i 45))] [] M = some (.inl none, M, 0, 0) := by
  rw [ae_J5_inflateIfNeededFor_a7421a_0, if_neg (by decide), ae_J5_inflateIfNeededFor_a7421a_6, jt_coder_a, am_bnx_v]
  simp only [am_tl_s]
  rw [ae_J5_inflateIfNeededFor_a7421a_14, if_pos h.2.1, ae_J5_inflateIfNeededFor_a7421a_21]
theorem jt_inf_s {b v cnt s : Nat} {M : am_M} (h : sb M b v cnt) (h2 : M.1 (am_c s 13) 1 = 0) : am_val iJ5_inflateIfNeededFor_a7421 0 [some (.ref (am_c b 15)), some (.ref (am_c s 13))] [] M = some (.inl none, M, 0, 0) := by
  rw [ae_J5_inflateIfNeededFor_a7421s_0, if_neg (by decide), ae_J5_inflateIfNeededFor_a7421s_6, jt_coder_s h2, am_bnx_v]
  simp only [am_tl_s]
  rw [ae_J5_inflateIfNeededFor_a7421s_14, if_pos h.2.1, ae_J5_inflateIfNeededFor_a7421s_21]
theorem jt_sn {i : Nat} (hi : i < 8) : am_sn i ≤ 2 := by
  have h : ∀ i, i < 8 → am_sn i ≤ 2 := by decide
  exact h i hi
theorem jt_bt {i k : Nat} (hi : i < 8) (hk : k < 3) : (Int32.ofNat (am_sb i k)).toInt8.toInt32 = Int32.ofNat (am_sb i k) := by
  have h : ∀ i, i < 8 → ∀ k, k < 3 → (Int32.ofNat (am_sb i k)).toInt8.toInt32 = Int32.ofNat (am_sb i k) := by decide
  exact h i hi k hk
theorem jt_gb_a {v cnt i : Nat} {M : am_M} (hi : i < 8) (hc : cnt + am_sn i ≤ 16) : am_val iJ0_getBytes_840e7 0 [some (.ref (am_c i 45)), some (.ref (am_c v 18)), some (.int (nI cnt)), some (.int 0)] [] M = some (.inl none, av_b M (fun k => Int32.ofNat (am_sb i k)) (am_c v 18) 0 cnt (am_sn i), 0, 0) := by
  have e1 : (nI cnt <<< ((0 : Int32) &&& 31)) = nI cnt := shl_0 _
  have t1 : (nI cnt).toNatClampNeg = cnt := am_tn (by omega)
  have t2 : (Int32.ofNat (am_sn i)).toNatClampNeg = am_sn i := am_tn (by omega)
  have t0 : (0 : Int32).toNatClampNeg = 0 := rfl
  rw [ae_J0_getBytes_840e7a_0, jt_coder_a, am_bnx_v]
  simp only [am_tl_s]
  rw [ae_J0_getBytes_840e7a_4, if_neg (not_not_intro rfl), ae_J0_getBytes_840e7a_8 (by rw [e1]; exact nI_pos (by omega)) (nI_pos (n := am_sn i) (by omega)) (by rw [t0, t2]; omega) (by rw [e1, t1, t2]; exact hc), e1, t1, t2, t0]
theorem jt_put_a {b v cnt i : Nat} {M : am_M} (h : sb M b v cnt) (hi : i < 8) (hc : cnt + am_sn i ≤ 16) : am_val iJ5_putStringAt_47b60 0 [some (.ref (am_c b 15)), some (.int (nI cnt)), some (.ref (am_c i 45))] [] M = some (.inl none, av_b M (fun k => Int32.ofNat (am_sb i k)) (am_c v 18) 0 cnt (am_sn i), 0, 0) := by
  rw [ae_J5_putStringAt_47b60a_0, jt_inf_a h, am_bnx_v]
  simp only [am_tl_n]
  rw [ae_J5_putStringAt_47b60a_5, h.1, am_rv_s, ae_J5_putStringAt_47b60a_10, h.2.1, jt_gb_a hi hc, am_bnx_v]
  simp only [am_tl_n]
  rw [ae_J5_putStringAt_47b60a_18]
theorem jt_ap_a {b v cnt i : Nat} {M : am_M} (h : sb M b v cnt) (hi : i < 8) (hc : cnt + am_sn i ≤ 16) : ∃ X, am_val iJ4_append_15ec4 0 [some (.ref (am_c b 15)), some (.ref (am_c i 45))] [] M = some (.inl (some (.ref (am_c b 15))), X, 0, 0) ∧ sb X b v (cnt + am_sn i) ∧ tg b v M X := by
  have hn : am_c b 15 ≠ am_c v 18 := am_c_ne (by decide) (by decide) (by omega)
  have e3 : (av_b M (fun k => Int32.ofNat (am_sb i k)) (am_c v 18) 0 cnt (am_sn i)).1 (am_c b 15) 3 = nI cnt := by
    show (am_cps M.1 (fun k => Int32.ofNat (am_sb i k)) (am_c v 18) 0 cnt (am_sn i)) (am_c b 15) 3 = nI cnt
    unfold am_cps
    rw [if_neg (fun q => hn q.1)]
    exact h.2.2.1
  have w := sb_wr (m := am_cps M.1 (fun k => Int32.ofNat (am_sb i k)) (am_c v 18) 0 cnt (am_sn i)) h (fun a ha => by
    funext j
    unfold am_cps
    rw [if_neg (fun q => ha q.1)]) (fun j hj => by
    unfold am_cps
    have h2 := jt_sn hi
    by_cases q : am_c v 18 = am_c v 18 ∧ cnt ≤ j ∧ j < cnt + am_sn i
    · rw [if_pos q]
      exact jt_bt hi (by omega)
    · rw [if_neg q]
      exact h.2.2.2 j hj) (x := nI (cnt + am_sn i)) rfl
  refine ⟨_, ?_, w⟩
  rw [ae_J4_append_15ec4a_0, ae_J5_append_cf1cea_0, jt_len_a, am_bnx_v]
  simp only [am_tl_s]
  rw [ae_J5_append_cf1cea_13, h.2.2.1, nI_add, jt_ens h hc, am_bnx_v]
  simp only [am_tl_n]
  rw [ae_J5_append_cf1cea_24, h.2.2.1, jt_put_a h hi hc, am_bnx_v]
  simp only [am_tl_n]
  rw [ae_J5_append_cf1cea_33, am_bnx_v, e3, nI_add]
  simp only [am_tl_s]
  rw [ae_J4_append_15ec4a_5]
  rfl
theorem jt_gb_s {s w k n v cnt : Nat} {M : am_M} (h : ts M s w k n) (hk : sk k n) (hn6 : n ≤ 6) (hn4 : n ≠ 4) (hc : cnt + n ≤ 16) : am_val iJ0_getBytes_840e7 0 [some (.ref (am_c s 13)), some (.ref (am_c v 18)), some (.int (nI cnt)), some (.int 0)] [] M = some (.inl none, (am_cpy M.1 (am_c w k) (am_c v 18) 0 cnt n, M.2), 0, 0) := by
  have e1 : (nI cnt <<< ((0 : Int32) &&& 31)) = nI cnt := shl_0 _
  have t1 : (nI cnt).toNatClampNeg = cnt := am_tn (by omega)
  have t0 : (0 : Int32).toNatClampNeg = 0 := rfl
  obtain ⟨h1, h2, h3⟩ := h
  rcases hk with ⟨rfl, rfl⟩ | ⟨rfl, rfl⟩ | ⟨rfl, rfl⟩ | ⟨rfl, rfl⟩ | ⟨rfl, rfl⟩ | ⟨rfl, rfl⟩
  · have t3 : (3 : Int32).toNatClampNeg = 3 := rfl
    rw [ae_J0_getBytes_840e7n3_0, jt_coder_s h2, am_bnx_v]
    simp only [am_tl_s]
    rw [ae_J0_getBytes_840e7n3_4, if_neg (not_not_intro rfl), ae_J0_getBytes_840e7n3_8, h1, am_rv_s, ae_J0_getBytes_840e7n3_12, h1, am_rv_s, e1, ae_J0_getBytes_840e7n3_21 (nI_pos (by omega)) (by decide) (by rw [t1, t3]; exact hc) (fun k hk => by rw [t0, Nat.zero_add]; exact h3 k hk), t0, t1, t3]
  · exact absurd rfl hn4
  · have t3 : (5 : Int32).toNatClampNeg = 5 := rfl
    rw [ae_J0_getBytes_840e7n5_0, jt_coder_s h2, am_bnx_v]
    simp only [am_tl_s]
    rw [ae_J0_getBytes_840e7n5_4, if_neg (not_not_intro rfl), ae_J0_getBytes_840e7n5_8, h1, am_rv_s, ae_J0_getBytes_840e7n5_12, h1, am_rv_s, e1, ae_J0_getBytes_840e7n5_21 (nI_pos (by omega)) (by decide) (by rw [t1, t3]; exact hc) (fun k hk => by rw [t0, Nat.zero_add]; exact h3 k hk), t0, t1, t3]
  · have t3 : (6 : Int32).toNatClampNeg = 6 := rfl
    rw [ae_J0_getBytes_840e7n6_0, jt_coder_s h2, am_bnx_v]
    simp only [am_tl_s]
    rw [ae_J0_getBytes_840e7n6_4, if_neg (not_not_intro rfl), ae_J0_getBytes_840e7n6_8, h1, am_rv_s, ae_J0_getBytes_840e7n6_12, h1, am_rv_s, e1, ae_J0_getBytes_840e7n6_21 (nI_pos (by omega)) (by decide) (by rw [t1, t3]; exact hc) (fun k hk => by rw [t0, Nat.zero_add]; exact h3 k hk), t0, t1, t3]
  · omega
  · omega
theorem jt_put_s {s w k n b v cnt : Nat} {M : am_M} (h : sb M b v cnt) (ht : ts M s w k n) (hk : sk k n) (hn6 : n ≤ 6) (hn4 : n ≠ 4) (hc : cnt + n ≤ 16) : am_val iJ5_putStringAt_47b60 0 [some (.ref (am_c b 15)), some (.int (nI cnt)), some (.ref (am_c s 13))] [] M = some (.inl none, (am_cpy M.1 (am_c w k) (am_c v 18) 0 cnt n, M.2), 0, 0) := by
  rw [ae_J5_putStringAt_47b60s_0, jt_inf_s h ht.2.1, am_bnx_v]
  simp only [am_tl_n]
  rw [ae_J5_putStringAt_47b60s_5, h.1, am_rv_s, ae_J5_putStringAt_47b60s_10, h.2.1, jt_gb_s ht hk hn6 hn4 hc, am_bnx_v]
  simp only [am_tl_n]
  rw [ae_J5_putStringAt_47b60s_18]
theorem jt_ap_s {s w k n b v cnt : Nat} {M : am_M} (h : sb M b v cnt) (ht : ts M s w k n) (hk : sk k n) (hn6 : n ≤ 6) (hn4 : n ≠ 4) (hc : cnt + n ≤ 16) : ∃ X, am_val iJ4_append_15ec4 0 [some (.ref (am_c b 15)), some (.ref (am_c s 13))] [] M = some (.inl (some (.ref (am_c b 15))), X, 0, 0) ∧ sb X b v (cnt + n) ∧ tg b v M X := by
  have hn : am_c b 15 ≠ am_c v 18 := am_c_ne (by decide) (by decide) (by omega)
  have e3 : am_cpy M.1 (am_c w k) (am_c v 18) 0 cnt n (am_c b 15) 3 = nI cnt := by
    unfold am_cpy
    rw [if_neg (fun q => hn q.1)]
    exact h.2.2.1
  have w9 := sb_wr (m := am_cpy M.1 (am_c w k) (am_c v 18) 0 cnt n) h (fun a ha => by
    funext j
    unfold am_cpy
    rw [if_neg (fun q => ha q.1)]) (fun j hj => by
    unfold am_cpy
    by_cases q : am_c v 18 = am_c v 18 ∧ cnt ≤ j ∧ j < cnt + n
    · rw [if_pos q]
      exact ht.2.2 _ (by omega)
    · rw [if_neg q]
      exact h.2.2.2 j hj) (x := nI (cnt + n)) rfl
  refine ⟨_, ?_, w9⟩
  rw [ae_J4_append_15ec4s_0, ae_J5_append_cf1ces_0, jt_len_s ht hk, am_bnx_v]
  simp only [am_tl_s]
  rw [ae_J5_append_cf1ces_13, h.2.2.1, nI_add, jt_ens h hc, am_bnx_v]
  simp only [am_tl_n]
  rw [ae_J5_append_cf1ces_24, h.2.2.1, jt_put_s h ht hk hn6 hn4 hc, am_bnx_v]
  simp only [am_tl_n]
  rw [ae_J5_append_cf1ces_33, am_bnx_v]
  rw [show (am_cpy M.1 (am_c w k) (am_c v 18) 0 cnt n, M.2).1 (am_c b 15) 3 = nI cnt from e3, nI_add]
  simp only [am_tl_s]
  rw [ae_J4_append_15ec4s_5]
theorem jt_ss {m : Nat} {M : am_M} (hm : m < 21) : am_val iJ6_stringSize_0f7a4 0 [some (.int (nI m)), none, none, none] [] M = some (.inl (some (.int (nI (if m < 10 then 1 else 2)))), M, 0, 0) := by
  have c1 : ∀ m, m < 10 → ¬ -nI m ≤ -10 := by decide
  have c2 : ∀ m, m < 21 → ¬ m < 10 → -nI m ≤ -10 := by decide
  have c3 : ∀ m, m < 21 → ¬ -nI m ≤ 10 * (-10) := by decide
  rw [ae_J6_stringSize_0f7a4_0, if_neg (nI_pos (by omega)), ae_J6_stringSize_0f7a4_6, ae_J6_stringSize_0f7a4_16, if_neg (by decide), ae_J6_stringSize_0f7a4_22]
  by_cases h : m < 10
  · rw [if_neg (c1 m h), ae_J6_stringSize_0f7a4_27, if_pos h]
    rfl
  · rw [if_pos (c2 m hm h), ae_J6_stringSize_0f7a4_31, ae_J6_stringSize_0f7a4_16, if_neg (by decide), ae_J6_stringSize_0f7a4_22, if_neg (c3 m hm), ae_J6_stringSize_0f7a4_27, if_neg h]
    rfl
def jt_w (M : am_M) (v e m : Nat) : am_M := if m < 10 then av_i M (am_c v 18) (e - 1) (Int32.ofNat (48 + m % 10)) else av_i (av_i M (am_c v 18) (e - 1) (Int32.ofNat (48 + m % 10))) (am_c v 18) (e - 2) (Int32.ofNat (48 + m / 10))
theorem jt_gc {v e m : Nat} {M : am_M} (hm : m < 21) (he : 2 ≤ e) (he2 : e ≤ 16) : ∃ z, am_val iJ6_getChars_ba4f3 0 [some (.int (nI m)), some (.int (nI e)), some (.ref (am_c v 18)), none, none, none, none] [] M = some (.inl (some (.int z)), jt_w M v e m, 0, 0) := by
  obtain ⟨d, rfl⟩ : ∃ d, e = d + 2 := ⟨e - 2, by omega⟩
  have a1 : ∀ m, m < 21 → am_in (- -nI m) (am_sn 8) = true := by decide
  have a2 : ∀ m, m < 21 → am_in (- -nI m) (am_sn 9) = true := by decide
  have a3 : ∀ m, m < 21 → (- -nI m).toNatClampNeg = m := by decide
  have a4 : ∀ m, m < 21 → (-100 : Int32) < -nI m := by decide
  have a5 : ∀ m, m < 10 → (-9 : Int32) ≤ -nI m := by decide
  have a6 : ∀ m, m < 21 → ¬ m < 10 → ¬ (-9 : Int32) ≤ -nI m := by decide
  have b1 : ∀ m, m < 21 → (Int32.ofNat (am_sb 8 m)).toInt8.toInt32 = Int32.ofNat (am_sb 8 m) := by decide
  have b2 : ∀ m, m < 21 → (Int32.ofNat (am_sb 9 m)).toInt8.toInt32 = Int32.ofNat (am_sb 9 m) := by decide
  have e1 : nI (d + 2) + (-1) = nI (d + 1) := nI_m1
  have e2 : nI (d + 1) + (-1) = nI d := nI_m1
  have t1 : (nI (d + 1)).toNatClampNeg = d + 1 := am_tn (by omega)
  have t2 : (nI d).toNatClampNeg = d := am_tn (by omega)
  have i1 : am_in (nI (d + 1)) 16 = true := am_in_n (by omega) (by decide)
  have i2 : am_in (nI d) 16 = true := am_in_n (by omega) (by decide)
  have w1 : am_wide none = false := rfl
  rw [ae_J6_getChars_ba4f3_0, if_pos (nI_pos' (by omega)), ae_J6_getChars_ba4f3_11, if_neg (not_not_intro rfl), ae_J6_getChars_ba4f3_19, ae_J6_getChars_ba4f3_22, if_pos (a4 m hm), ae_J6_getChars_ba4f3_72 w1 (a1 m hm) (by rw [e1]; exact i1) (by rw [a3 m hm]; exact b1 m hm), e1, t1, a3 m hm]
  unfold jt_w
  by_cases h : m < 10
  · rw [if_pos (a5 m h), ae_J6_getChars_ba4f3_104, if_pos rfl, ae_J6_getChars_ba4f3_118, if_pos h]
    exact ⟨_, rfl⟩
  · rw [if_neg (a6 m hm h), ae_J6_getChars_ba4f3_91 w1 (a2 m hm) (by rw [e2]; exact i2) (by rw [a3 m hm]; exact b2 m hm), if_pos rfl, ae_J6_getChars_ba4f3_118, if_neg h, e2, t2, a3 m hm]
    exact ⟨_, rfl⟩
theorem jt_dg {k : Nat} (h : k < 10) : (Int32.ofNat (48 + k)).toInt8.toInt32 = Int32.ofNat (48 + k) := by
  have c : ∀ k, k < 10 → (Int32.ofNat (48 + k)).toInt8.toInt32 = Int32.ofNat (48 + k) := by decide
  exact c k h
theorem jt_lat {b v cnt : Nat} {M : am_M} (h : sb M b v cnt) : am_val iJ5_isLatin1_aae02 0 [some (.ref (am_c b 15))] [] M = some (.inl (some (.int 1)), M, 0, 0) := by
  rw [ae_J5_isLatin1_aae02_0, if_neg (by decide), ae_J5_isLatin1_aae02_6, if_neg (not_not_intro h.2.1), ae_J5_isLatin1_aae02_13]
def jt_l (m : Nat) : Nat := if m < 10 then 1 else 2
theorem jt_l2 (m : Nat) : 1 ≤ jt_l m ∧ jt_l m ≤ 2 := by
  unfold jt_l
  split <;> omega
theorem jt_ap_i {b v cnt m : Nat} {M : am_M} (h : sb M b v cnt) (hm : m < 21) (h1 : 1 ≤ cnt) (hc : cnt + 2 ≤ 16) : ∃ X, am_val iJ4_append_bf812 0 [some (.ref (am_c b 15)), some (.int (nI m))] [] M = some (.inl (some (.ref (am_c b 15))), X, 0, 0) ∧ sb X b v (cnt + jt_l m) ∧ tg b v M X := by
  obtain ⟨l1, l2⟩ := jt_l2 m
  obtain ⟨z, ez⟩ := jt_gc (v := v) (e := cnt + jt_l m) (M := M) hm (by omega) (by omega)
  have es : am_val iJ6_stringSize_0f7a4 0 [some (.int (nI m)), none, none, none] [] M = some (.inl (some (.int (nI (jt_l m)))), M, 0, 0) := jt_ss hm
  have w2 : (jt_w M v (cnt + jt_l m) m).2 = M.2 := by
    unfold jt_w
    split <;> rfl
  have w0 : ∀ a, a ≠ am_c v 18 → (jt_w M v (cnt + jt_l m) m).1 a = M.1 a := fun a ha => by
    funext j
    unfold jt_w
    split
    · exact am_up_a ha
    · exact (am_up_a ha).trans (am_up_a ha)
  have wb : ∀ j, j < 16 → ((jt_w M v (cnt + jt_l m) m).1 (am_c v 18) j).toInt8.toInt32 = (jt_w M v (cnt + jt_l m) m).1 (am_c v 18) j := fun j hj => by
    have h9 := h.2.2.2 j hj
    have d1 := jt_dg (k := m % 10) (by omega)
    have d2 := jt_dg (k := m / 10) (by omega)
    unfold jt_w
    split
    · by_cases q : j = cnt + jt_l m - 1
      · rw [q, av_jS]; exact d1
      · rw [av_jK q]; exact h9
    · by_cases q2 : j = cnt + jt_l m - 2
      · rw [q2, av_jS]; exact d2
      · rw [av_jK q2]
        by_cases q : j = cnt + jt_l m - 1
        · rw [q, av_jS]; exact d1
        · rw [av_jK q]; exact h9
  have w9 := sb_wr (m := (jt_w M v (cnt + jt_l m) m).1) h w0 wb (x := nI (cnt + jt_l m)) rfl
  refine ⟨_, ?_, w9⟩
  rw [ae_J4_append_bf812_0, ae_J5_append_c97b9_0, es, am_bnx_v]
  simp only [am_tl_s]
  rw [ae_J5_append_c97b9_10, h.2.2.1, nI_add, jt_ens h (by omega), am_bnx_v]
  simp only [am_tl_n]
  rw [ae_J5_append_c97b9_17, jt_lat h, am_bnx_v]
  simp only [am_tl_s]
  rw [ae_J5_append_c97b9_21, if_neg (by decide), ae_J5_append_c97b9_24, h.1, am_rv_s, ae_J5_append_c97b9_30, ez, am_bnx_v]
  simp only [am_tl_s]
  rw [ae_J5_append_c97b9_33, am_bnx_v]
  simp only [am_tl_s]
  rw [ae_J4_append_bf812_5, ← w2]
