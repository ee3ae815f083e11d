/-! TEXTS: what is made, toString, what is read -/
/-- cells that are not there yet are empty -/
def fz (M : am_M) : Prop := ∀ c k, (k = 15 ∨ k = 18) → M.2.2.2.2.1 ≤ c → M.1 (am_c c k) = fun _ => 0
/-- nothing below n0 is changed -/
def tf (n0 : Nat) (M X : am_M) : Prop := (∀ c k, k < 64 → c < n0 → X.1 (am_c c k) = M.1 (am_c c k) ∧ X.2.1 (am_c c k) = M.2.1 (am_c c k)) ∧ X.2.2.1 = M.2.2.1 ∧ X.2.2.2.2.2 = M.2.2.2.2.2 ∧ M.2.2.2.2.1 ≤ X.2.2.2.2.1
theorem tf_0 {n0 : Nat} {M : am_M} : tf n0 M M := ⟨fun _ _ _ _ => ⟨rfl, rfl⟩, rfl, rfl, Nat.le_refl _⟩
theorem tf_t {n0 n1 : Nat} {M X Y : am_M} (h : tf n0 M X) (h' : tf n1 X Y) (hn : n0 ≤ n1) : tf n0 M Y :=
  ⟨fun c k hk hc => ⟨(h'.1 c k hk (by omega)).1.trans (h.1 c k hk hc).1, (h'.1 c k hk (by omega)).2.trans (h.1 c k hk hc).2⟩, h'.2.1.trans h.2.1, h'.2.2.1.trans h.2.2.1, Nat.le_trans h.2.2.2 h'.2.2.2⟩
theorem tg_tf {n0 b v : Nat} {M X : am_M} (h : tg b v M X) (hb : n0 ≤ b) (hv : n0 ≤ v) : tf n0 M X := by
  obtain ⟨h1, h2⟩ := h
  refine ⟨fun c k hk hc => ⟨h2 c k hk (by omega) (by omega), by rw [h1]⟩, by rw [h1], by rw [h1], by rw [h1]; exact Nat.le_refl _⟩
theorem tg_fz {b v : Nat} {M X : am_M} (h : tg b v M X) (hz : fz M) (hb : b < M.2.2.2.2.1) (hv : v < M.2.2.2.2.1) : fz X := by
  obtain ⟨h1, h2⟩ := h
  intro c k hk hc
  rw [h1] at hc
  exact (h2 c k (by omega) (by omega) (by omega)).trans (hz c k hk hc)
theorem sb_tf {n0 b v cnt : Nat} {M X : am_M} (h : sb M b v cnt) (f : tf n0 M X) (hb : b < n0) (hv : v < n0) : sb X b v cnt := by
  obtain ⟨h1, h2, h3, h4⟩ := h
  obtain ⟨e1, e2⟩ := f.1 b 15 (by decide) hb
  obtain ⟨e3, -⟩ := f.1 v 18 (by decide) hv
  exact ⟨by rw [e2]; exact h1, by rw [e1]; exact h2, by rw [e1]; exact h3, fun j hj => by rw [e3]; exact h4 j hj⟩
/-- a builder that was made behind M0 -/
def tA (M0 : am_M) (b v cnt : Nat) (M : am_M) : Prop := sb M b v cnt ∧ tf M0.2.2.2.2.1 M0 M ∧ fz M ∧ (M0.2.2.2.2.1 ≤ b ∧ M0.2.2.2.2.1 ≤ v) ∧ b < M.2.2.2.2.1 ∧ v < M.2.2.2.2.1
theorem tA_g {M0 M X : am_M} {b v cnt cnt' : Nat} (h : tA M0 b v cnt M) (h1 : sb X b v cnt') (h2 : tg b v M X) : tA M0 b v cnt' X := by
  obtain ⟨-, t, z, ⟨q1, q2⟩, q3, q4⟩ := h
  exact ⟨h1, tf_t t (tg_tf h2 q1 q2) (Nat.le_refl _), tg_fz h2 z q3 q4, ⟨q1, q2⟩, by rw [h2.1]; exact q3, by rw [h2.1]; exact q4⟩
theorem tA_a {M0 M : am_M} {b v cnt i : Nat} (h : tA M0 b v cnt M) (hi : i < 8) (hc : cnt + am_sn i ≤ 16) : wq (am_val iJ4_append_15ec4 0 [some (.ref (am_c b 15)), some (.ref (am_c i 45))] [] M) 0 (qr (tA M0 b v (cnt + am_sn i)) (.ref (am_c b 15))) := by
  obtain ⟨X, e, h1, h2⟩ := jt_ap_a h.1 hi hc
  rw [e]
  exact wq_e ⟨rfl, tA_g h h1 h2⟩
theorem tA_s {M0 M : am_M} {b v cnt s w k n : Nat} (h : tA M0 b v cnt M) (ht : ts M s w k n) (hk : sk k n) (hn6 : n ≤ 6) (hn4 : n ≠ 4) (hc : cnt + n ≤ 16) : wq (am_val iJ4_append_15ec4 0 [some (.ref (am_c b 15)), some (.ref (am_c s 13))] [] M) 0 (qr (tA M0 b v (cnt + n)) (.ref (am_c b 15))) := by
  obtain ⟨X, e, h1, h2⟩ := jt_ap_s h.1 ht hk hn6 hn4 hc
  rw [e]
  exact wq_e ⟨rfl, tA_g h h1 h2⟩
theorem tA_i {M0 M : am_M} {b v cnt m : Nat} {x : Int32} (h : tA M0 b v cnt M) (hx : x = nI m) (hm : m < 21) (h1 : 1 ≤ cnt) (hc : cnt + 2 ≤ 16) : wq (am_val iJ4_append_bf812 0 [some (.ref (am_c b 15)), some (.int x)] [] M) 0 (qr (tA M0 b v (cnt + jt_l m)) (.ref (am_c b 15))) := by
  subst hx
  obtain ⟨X, e, h1, h2⟩ := jt_ap_i h.1 hm h1 hc
  rw [e]
  exact wq_e ⟨rfl, tA_g h h1 h2⟩
theorem tA_new {M : am_M} (hz : fz M) : wq (am_val iJ4_init_da8c8 0 [some (.ref (am_c (M.2.2.2.2.1) 15))] [] (am_mk 15 M)) 1 (fun v X => v = none ∧ tA M M.2.2.2.2.1 (M.2.2.2.2.1 + 1) 0 X) := by
  obtain ⟨n0, hn0⟩ : ∃ n0, n0 = M.2.2.2.2.1 := ⟨_, rfl⟩
  rw [← hn0]
  obtain ⟨X, hX⟩ : ∃ X, X = av_i (av_r (am_mk 18 (am_mk 15 M)) (am_c n0 15) 0 (am_c (n0 + 1) 18 + 1)) (am_c n0 15) 1 0 := ⟨_, rfl⟩
  have e : am_val iJ5_init_d00df 0 [some (.ref (am_c n0 15)), some (.int 16)] [] (am_mk 15 M) = some (.inl none, X, 1, 16) := by
    rw [ae_J5_init_d00df_0, if_neg (by decide), ae_J5_init_d00df_10 (by decide) (by decide), show (am_mk 15 M).2.2.2.2.1 = n0 + 1 by rw [hn0]; rfl, ae_J5_init_d00df_14, hX]
    rfl
  have z0 : M.1 (am_c n0 15) = fun _ => 0 := hz n0 15 (Or.inl rfl) (by omega)
  have z1 : M.1 (am_c (n0 + 1) 18) = fun _ => 0 := hz (n0 + 1) 18 (Or.inr rfl) (by omega)
  have x1 : ∀ a, ¬ a = am_c n0 15 → X.1 a = M.1 a := fun a ha => by
    funext j
    rw [hX]
    exact am_up_a ha
  have x2 : ∀ a, ¬ a = am_c n0 15 → X.2.1 a = M.2.1 a := fun a ha => by
    funext j
    rw [hX]
    exact am_up_a ha
  have xn : X.2.2.2.2.1 = n0 + 2 := by
    rw [hX, hn0]
    rfl
  rw [ae_J4_init_da8c8_0, e]
  refine wq_c (K1 := 1) (R := fun v Y => v = none ∧ Y = X) ⟨none, X, 1, 16, rfl, by decide, by decide, rfl, rfl⟩ (by decide) fun v Y hv => ?_
  obtain ⟨rfl, rfl⟩ := hv
  simp only [am_tl_n]
  rw [ae_J4_init_da8c8_6]
  refine wq_e ⟨rfl, ⟨?_, ?_, ?_, fun j hj => ?_⟩, ⟨fun c k hk hc => ⟨x1 _ (am_c_ne hk (by decide) (by omega)), x2 _ (am_c_ne hk (by decide) (by omega))⟩, by rw [hX]; rfl, by rw [hX]; rfl, by rw [xn]; omega⟩, fun c k hk hc => ?_, by omega, by omega, by omega⟩
  · rw [hX]
    show (am_up (am_mk 18 (am_mk 15 M)).2.1 (am_c n0 15) 0 (am_c (n0 + 1) 18 + 1)) (am_c n0 15) 0 = am_c (n0 + 1) 18 + 1
    exact am_up_s
  · rw [hX, av_jS]
  · rw [hX, av_jK (by decide)]
    show M.1 (am_c n0 15) 3 = nI 0
    rw [z0]
    rfl
  · rw [x1 _ (am_c_ne (by decide) (by decide) (by omega)), z1]
    exact bt_0
  · rw [xn] at hc
    exact (x1 _ (am_c_ne (by omega) (by decide) (by omega))).trans (hz c k hk (by omega))
theorem jt_val {b v cnt : Nat} {M : am_M} (h : sb M b v cnt) : am_val iJ5_getValue_6d5f1 0 [some (.ref (am_c b 15))] [] M = some (.inl (some (.ref (am_c v 18))), M, 0, 0) := by
  rw [ae_J5_getValue_6d5f1_0, h.1, am_rv_s, ae_J5_getValue_6d5f1_4]
theorem jt_bl {b v cnt : Nat} {M : am_M} (h : sb M b v cnt) : am_val iJ4_length_8abf5 0 [some (.ref (am_c b 15))] [] M = some (.inl (some (.int (nI cnt))), M, 0, 0) := by
  rw [ae_J4_length_8abf5_0, ae_J5_length_8abf5_0, am_bnx_v]
  simp only [am_tl_s]
  rw [ae_J4_length_8abf5_4, h.2.2.1]
/-- the bytes of a range -/
def jt_cr (M : am_M) (v k n : Nat) : am_M := (am_cpy M.1 (am_c v 18) (am_c M.2.2.2.2.1 k) 0 0 n, (am_mk k M).2)
theorem jt_cr3 {v : Nat} {M : am_M} (hb : ∀ j, j < 16 → (M.1 (am_c v 18) j).toInt8.toInt32 = M.1 (am_c v 18) j) : am_val iJ7_copyOfRange_39247 0 [some (.ref (am_c v 18)), some (.int 0), some (.int (nI 3))] [] M = some (.inl (some (.ref (am_c M.2.2.2.2.1 19))), jt_cr M v 19 3, 1, 3) := by
  have t1 : (if nI 3 - 0 < (16 : Int32) - 0 then nI 3 - 0 else (16 : Int32) - 0).toNatClampNeg = 3 := by decide
  have t0 : (0 : Int32).toNatClampNeg = 0 := rfl
  have e : am_val iJ7_copyOfRangeByte_39247 0 [some (.ref (am_c v 18)), some (.int 0), some (.int (nI 3)), none, none] [] M = some (.inl (some (.ref (am_c M.2.2.2.2.1 19))), jt_cr M v 19 3, 1, 3) := by
    rw [ae_J7_copyOfRangeByte_39247n3_0, ae_J7_checkLength_df160_0, if_pos (by decide), ae_J7_checkLength_df160_37, am_bnx_v]
    simp only [am_tl_n]
    rw [ae_J7_copyOfRangeByte_39247n3_5 (by decide) (by decide), ae_J7_copyOfRangeByte_39247n3_12 (by decide) (by decide) (by decide) (by decide) (fun k hk => by
      rw [t1] at hk
      rw [t0, Nat.zero_add]
      exact hb k (by omega)), t1, t0]
    rfl
  rw [ae_J7_copyOfRange_39247n3_0, if_neg (not_not_intro rfl), ae_J7_copyOfRange_39247n3_4, if_neg (by decide), ae_J7_copyOfRange_39247n3_10, e]
  show am_add (am_val iJ7_copyOfRange_39247 16 _ (am_tl (some (.ref (am_c M.2.2.2.2.1 19))) []) (jt_cr M v 19 3)) 1 3 = _
  rw [am_tl_s, ae_J7_copyOfRange_39247n3_16]
  rfl
theorem jt_cr4 {v : Nat} {M : am_M} (hb : ∀ j, j < 16 → (M.1 (am_c v 18) j).toInt8.toInt32 = M.1 (am_c v 18) j) : am_val iJ7_copyOfRange_39247 0 [some (.ref (am_c v 18)), some (.int 0), some (.int (nI 4))] [] M = some (.inl (some (.ref (am_c M.2.2.2.2.1 20))), jt_cr M v 20 4, 1, 4) := by
  have t1 : (if nI 4 - 0 < (16 : Int32) - 0 then nI 4 - 0 else (16 : Int32) - 0).toNatClampNeg = 4 := by decide
  have t0 : (0 : Int32).toNatClampNeg = 0 := rfl
  have e : am_val iJ7_copyOfRangeByte_39247 0 [some (.ref (am_c v 18)), some (.int 0), some (.int (nI 4)), none, none] [] M = some (.inl (some (.ref (am_c M.2.2.2.2.1 20))), jt_cr M v 20 4, 1, 4) := by
    rw [ae_J7_copyOfRangeByte_39247n4_0, ae_J7_checkLength_df160_0, if_pos (by decide), ae_J7_checkLength_df160_37, am_bnx_v]
    simp only [am_tl_n]
    rw [ae_J7_copyOfRangeByte_39247n4_5 (by decide) (by decide), ae_J7_copyOfRangeByte_39247n4_12 (by decide) (by decide) (by decide) (by decide) (fun k hk => by
      rw [t1] at hk
      rw [t0, Nat.zero_add]
      exact hb k (by omega)), t1, t0]
    rfl
  rw [ae_J7_copyOfRange_39247n4_0, if_neg (not_not_intro rfl), ae_J7_copyOfRange_39247n4_4, if_neg (by decide), ae_J7_copyOfRange_39247n4_10, e]
  show am_add (am_val iJ7_copyOfRange_39247 16 _ (am_tl (some (.ref (am_c M.2.2.2.2.1 20))) []) (jt_cr M v 20 4)) 1 4 = _
  rw [am_tl_s, ae_J7_copyOfRange_39247n4_16]
  rfl
theorem jt_cr5 {v : Nat} {M : am_M} (hb : ∀ j, j < 16 → (M.1 (am_c v 18) j).toInt8.toInt32 = M.1 (am_c v 18) j) : am_val iJ7_copyOfRange_39247 0 [some (.ref (am_c v 18)), some (.int 0), some (.int (nI 5))] [] M = some (.inl (some (.ref (am_c M.2.2.2.2.1 21))), jt_cr M v 21 5, 1, 5) := by
  have t1 : (if nI 5 - 0 < (16 : Int32) - 0 then nI 5 - 0 else (16 : Int32) - 0).toNatClampNeg = 5 := by decide
  have t0 : (0 : Int32).toNatClampNeg = 0 := rfl
  have e : am_val iJ7_copyOfRangeByte_39247 0 [some (.ref (am_c v 18)), some (.int 0), some (.int (nI 5)), none, none] [] M = some (.inl (some (.ref (am_c M.2.2.2.2.1 21))), jt_cr M v 21 5, 1, 5) := by
    rw [ae_J7_copyOfRangeByte_39247n5_0, ae_J7_checkLength_df160_0, if_pos (by decide), ae_J7_checkLength_df160_37, am_bnx_v]
    simp only [am_tl_n]
    rw [ae_J7_copyOfRangeByte_39247n5_5 (by decide) (by decide), ae_J7_copyOfRangeByte_39247n5_12 (by decide) (by decide) (by decide) (by decide) (fun k hk => by
      rw [t1] at hk
      rw [t0, Nat.zero_add]
      exact hb k (by omega)), t1, t0]
    rfl
  rw [ae_J7_copyOfRange_39247n5_0, if_neg (not_not_intro rfl), ae_J7_copyOfRange_39247n5_4, if_neg (by decide), ae_J7_copyOfRange_39247n5_10, e]
  show am_add (am_val iJ7_copyOfRange_39247 16 _ (am_tl (some (.ref (am_c M.2.2.2.2.1 21))) []) (jt_cr M v 21 5)) 1 5 = _
  rw [am_tl_s, ae_J7_copyOfRange_39247n5_16]
  rfl
theorem jt_cr6 {v : Nat} {M : am_M} (hb : ∀ j, j < 16 → (M.1 (am_c v 18) j).toInt8.toInt32 = M.1 (am_c v 18) j) : am_val iJ7_copyOfRange_39247 0 [some (.ref (am_c v 18)), some (.int 0), some (.int (nI 6))] [] M = some (.inl (some (.ref (am_c M.2.2.2.2.1 28))), jt_cr M v 28 6, 1, 6) := by
  have t1 : (if nI 6 - 0 < (16 : Int32) - 0 then nI 6 - 0 else (16 : Int32) - 0).toNatClampNeg = 6 := by decide
  have t0 : (0 : Int32).toNatClampNeg = 0 := rfl
  have e : am_val iJ7_copyOfRangeByte_39247 0 [some (.ref (am_c v 18)), some (.int 0), some (.int (nI 6)), none, none] [] M = some (.inl (some (.ref (am_c M.2.2.2.2.1 28))), jt_cr M v 28 6, 1, 6) := by
    rw [ae_J7_copyOfRangeByte_39247n6_0, ae_J7_checkLength_df160_0, if_pos (by decide), ae_J7_checkLength_df160_37, am_bnx_v]
    simp only [am_tl_n]
    rw [ae_J7_copyOfRangeByte_39247n6_5 (by decide) (by decide), ae_J7_copyOfRangeByte_39247n6_12 (by decide) (by decide) (by decide) (by decide) (fun k hk => by
      rw [t1] at hk
      rw [t0, Nat.zero_add]
      exact hb k (by omega)), t1, t0]
    rfl
  rw [ae_J7_copyOfRange_39247n6_0, if_neg (not_not_intro rfl), ae_J7_copyOfRange_39247n6_4, if_neg (by decide), ae_J7_copyOfRange_39247n6_10, e]
  show am_add (am_val iJ7_copyOfRange_39247 16 _ (am_tl (some (.ref (am_c M.2.2.2.2.1 28))) []) (jt_cr M v 28 6)) 1 6 = _
  rw [am_tl_s, ae_J7_copyOfRange_39247n6_16]
  rfl
theorem jt_cr8 {v : Nat} {M : am_M} (hb : ∀ j, j < 16 → (M.1 (am_c v 18) j).toInt8.toInt32 = M.1 (am_c v 18) j) : am_val iJ7_copyOfRange_39247 0 [some (.ref (am_c v 18)), some (.int 0), some (.int (nI 8))] [] M = some (.inl (some (.ref (am_c M.2.2.2.2.1 29))), jt_cr M v 29 8, 1, 8) := by
  have t1 : (if nI 8 - 0 < (16 : Int32) - 0 then nI 8 - 0 else (16 : Int32) - 0).toNatClampNeg = 8 := by decide
  have t0 : (0 : Int32).toNatClampNeg = 0 := rfl
  have e : am_val iJ7_copyOfRangeByte_39247 0 [some (.ref (am_c v 18)), some (.int 0), some (.int (nI 8)), none, none] [] M = some (.inl (some (.ref (am_c M.2.2.2.2.1 29))), jt_cr M v 29 8, 1, 8) := by
    rw [ae_J7_copyOfRangeByte_39247n8_0, ae_J7_checkLength_df160_0, if_pos (by decide), ae_J7_checkLength_df160_37, am_bnx_v]
    simp only [am_tl_n]
    rw [ae_J7_copyOfRangeByte_39247n8_5 (by decide) (by decide), ae_J7_copyOfRangeByte_39247n8_12 (by decide) (by decide) (by decide) (by decide) (fun k hk => by
      rw [t1] at hk
      rw [t0, Nat.zero_add]
      exact hb k (by omega)), t1, t0]
    rfl
  rw [ae_J7_copyOfRange_39247n8_0, if_neg (not_not_intro rfl), ae_J7_copyOfRange_39247n8_4, if_neg (by decide), ae_J7_copyOfRange_39247n8_10, e]
  show am_add (am_val iJ7_copyOfRange_39247 16 _ (am_tl (some (.ref (am_c M.2.2.2.2.1 29))) []) (jt_cr M v 29 8)) 1 8 = _
  rw [am_tl_s, ae_J7_copyOfRange_39247n8_16]
  rfl
theorem jt_cr9 {v : Nat} {M : am_M} (hb : ∀ j, j < 16 → (M.1 (am_c v 18) j).toInt8.toInt32 = M.1 (am_c v 18) j) : am_val iJ7_copyOfRange_39247 0 [some (.ref (am_c v 18)), some (.int 0), some (.int (nI 9))] [] M = some (.inl (some (.ref (am_c M.2.2.2.2.1 30))), jt_cr M v 30 9, 1, 9) := by
  have t1 : (if nI 9 - 0 < (16 : Int32) - 0 then nI 9 - 0 else (16 : Int32) - 0).toNatClampNeg = 9 := by decide
  have t0 : (0 : Int32).toNatClampNeg = 0 := rfl
  have e : am_val iJ7_copyOfRangeByte_39247 0 [some (.ref (am_c v 18)), some (.int 0), some (.int (nI 9)), none, none] [] M = some (.inl (some (.ref (am_c M.2.2.2.2.1 30))), jt_cr M v 30 9, 1, 9) := by
    rw [ae_J7_copyOfRangeByte_39247n9_0, ae_J7_checkLength_df160_0, if_pos (by decide), ae_J7_checkLength_df160_37, am_bnx_v]
    simp only [am_tl_n]
    rw [ae_J7_copyOfRangeByte_39247n9_5 (by decide) (by decide), ae_J7_copyOfRangeByte_39247n9_12 (by decide) (by decide) (by decide) (by decide) (fun k hk => by
      rw [t1] at hk
      rw [t0, Nat.zero_add]
      exact hb k (by omega)), t1, t0]
    rfl
  rw [ae_J7_copyOfRange_39247n9_0, if_neg (not_not_intro rfl), ae_J7_copyOfRange_39247n9_4, if_neg (by decide), ae_J7_copyOfRange_39247n9_10, e]
  show am_add (am_val iJ7_copyOfRange_39247 16 _ (am_tl (some (.ref (am_c M.2.2.2.2.1 30))) []) (jt_cr M v 30 9)) 1 9 = _
  rw [am_tl_s, ae_J7_copyOfRange_39247n9_16]
  rfl
/-- toString -/
def jt_ts (M : am_M) (v k n : Nat) : am_M := av_r (jt_cr (av_i (am_mk 13 M) (am_c M.2.2.2.2.1 13) 1 0) v k n) (am_c M.2.2.2.2.1 13) 0 (am_c (M.2.2.2.2.1 + 1) k + 1)
theorem jt_si3 {b v : Nat} {M : am_M} (h : sb (am_mk 13 M) b v 3) : am_val iJ0_init_81219 0 [some (.ref (am_c M.2.2.2.2.1 13)), some (.ref (am_c b 15))] [] (am_mk 13 M) = some (.inl none, jt_ts M v 19 3, 1, 3) := by
  have h9 : ∀ j, j < 16 → ((av_i (am_mk 13 M) (am_c M.2.2.2.2.1 13) 1 0).1 (am_c v 18) j).toInt8.toInt32 = (av_i (am_mk 13 M) (am_c M.2.2.2.2.1 13) 1 0).1 (am_c v 18) j := fun j hj => by
    show (am_up (am_mk 13 M).1 (am_c M.2.2.2.2.1 13) 1 0 (am_c v 18) j).toInt8.toInt32 = am_up (am_mk 13 M).1 (am_c M.2.2.2.2.1 13) 1 0 (am_c v 18) j
    rw [am_up_a (am_c_ne (by decide) (by decide) (by omega))]
    exact h.2.2.2 j hj
  have e : am_val iJ0_init_db425 0 [some (.ref (am_c M.2.2.2.2.1 13)), some (.ref (am_c b 15)), some (.null), none, none] [] (am_mk 13 M) = some (.inl none, jt_ts M v 19 3, 1, 3) := by
    rw [ae_J0_init_db425n3_0, jt_val h, am_bnx_v]
    simp only [am_tl_s]
    rw [ae_J0_init_db425n3_8, jt_bl h, am_bnx_v]
    simp only [am_tl_s]
    rw [ae_J0_init_db425n3_13, jt_lat h, am_bnx_v]
    simp only [am_tl_s]
    rw [ae_J0_init_db425n3_19, if_neg (by decide), ae_J0_init_db425n3_22, jt_cr3 h9]
    show am_add (am_val iJ0_init_db425 35 _ (am_tl (some (.ref (am_c (M.2.2.2.2.1 + 1) 19))) [.ref (am_c M.2.2.2.2.1 13)]) (jt_cr (av_i (am_mk 13 M) (am_c M.2.2.2.2.1 13) 1 0) v 19 3)) 1 3 = _
    rw [am_tl_s, ae_J0_init_db425n3_35]
    rfl
  rw [ae_J0_init_81219_0, e]
  show am_add (am_val iJ0_init_81219 6 _ (am_tl none []) (jt_ts M v 19 3)) 1 3 = _
  rw [am_tl_n, ae_J0_init_81219_6]
  rfl
theorem jt_si4 {b v : Nat} {M : am_M} (h : sb (am_mk 13 M) b v 4) : am_val iJ0_init_81219 0 [some (.ref (am_c M.2.2.2.2.1 13)), some (.ref (am_c b 15))] [] (am_mk 13 M) = some (.inl none, jt_ts M v 20 4, 1, 4) := by
  have h9 : ∀ j, j < 16 → ((av_i (am_mk 13 M) (am_c M.2.2.2.2.1 13) 1 0).1 (am_c v 18) j).toInt8.toInt32 = (av_i (am_mk 13 M) (am_c M.2.2.2.2.1 13) 1 0).1 (am_c v 18) j := fun j hj => by
    show (am_up (am_mk 13 M).1 (am_c M.2.2.2.2.1 13) 1 0 (am_c v 18) j).toInt8.toInt32 = am_up (am_mk 13 M).1 (am_c M.2.2.2.2.1 13) 1 0 (am_c v 18) j
    rw [am_up_a (am_c_ne (by decide) (by decide) (by omega))]
    exact h.2.2.2 j hj
  have e : am_val iJ0_init_db425 0 [some (.ref (am_c M.2.2.2.2.1 13)), some (.ref (am_c b 15)), some (.null), none, none] [] (am_mk 13 M) = some (.inl none, jt_ts M v 20 4, 1, 4) := by
    rw [ae_J0_init_db425n4_0, jt_val h, am_bnx_v]
    simp only [am_tl_s]
    rw [ae_J0_init_db425n4_8, jt_bl h, am_bnx_v]
    simp only [am_tl_s]
    rw [ae_J0_init_db425n4_13, jt_lat h, am_bnx_v]
    simp only [am_tl_s]
    rw [ae_J0_init_db425n4_19, if_neg (by decide), ae_J0_init_db425n4_22, jt_cr4 h9]
    show am_add (am_val iJ0_init_db425 35 _ (am_tl (some (.ref (am_c (M.2.2.2.2.1 + 1) 20))) [.ref (am_c M.2.2.2.2.1 13)]) (jt_cr (av_i (am_mk 13 M) (am_c M.2.2.2.2.1 13) 1 0) v 20 4)) 1 4 = _
    rw [am_tl_s, ae_J0_init_db425n4_35]
    rfl
  rw [ae_J0_init_81219_0, e]
  show am_add (am_val iJ0_init_81219 6 _ (am_tl none []) (jt_ts M v 20 4)) 1 4 = _
  rw [am_tl_n, ae_J0_init_81219_6]
  rfl
theorem jt_si5 {b v : Nat} {M : am_M} (h : sb (am_mk 13 M) b v 5) : am_val iJ0_init_81219 0 [some (.ref (am_c M.2.2.2.2.1 13)), some (.ref (am_c b 15))] [] (am_mk 13 M) = some (.inl none, jt_ts M v 21 5, 1, 5) := by
  have h9 : ∀ j, j < 16 → ((av_i (am_mk 13 M) (am_c M.2.2.2.2.1 13) 1 0).1 (am_c v 18) j).toInt8.toInt32 = (av_i (am_mk 13 M) (am_c M.2.2.2.2.1 13) 1 0).1 (am_c v 18) j := fun j hj => by
    show (am_up (am_mk 13 M).1 (am_c M.2.2.2.2.1 13) 1 0 (am_c v 18) j).toInt8.toInt32 = am_up (am_mk 13 M).1 (am_c M.2.2.2.2.1 13) 1 0 (am_c v 18) j
    rw [am_up_a (am_c_ne (by decide) (by decide) (by omega))]
    exact h.2.2.2 j hj
  have e : am_val iJ0_init_db425 0 [some (.ref (am_c M.2.2.2.2.1 13)), some (.ref (am_c b 15)), some (.null), none, none] [] (am_mk 13 M) = some (.inl none, jt_ts M v 21 5, 1, 5) := by
    rw [ae_J0_init_db425n5_0, jt_val h, am_bnx_v]
    simp only [am_tl_s]
    rw [ae_J0_init_db425n5_8, jt_bl h, am_bnx_v]
    simp only [am_tl_s]
    rw [ae_J0_init_db425n5_13, jt_lat h, am_bnx_v]
    simp only [am_tl_s]
    rw [ae_J0_init_db425n5_19, if_neg (by decide), ae_J0_init_db425n5_22, jt_cr5 h9]
    show am_add (am_val iJ0_init_db425 35 _ (am_tl (some (.ref (am_c (M.2.2.2.2.1 + 1) 21))) [.ref (am_c M.2.2.2.2.1 13)]) (jt_cr (av_i (am_mk 13 M) (am_c M.2.2.2.2.1 13) 1 0) v 21 5)) 1 5 = _
    rw [am_tl_s, ae_J0_init_db425n5_35]
    rfl
  rw [ae_J0_init_81219_0, e]
  show am_add (am_val iJ0_init_81219 6 _ (am_tl none []) (jt_ts M v 21 5)) 1 5 = _
  rw [am_tl_n, ae_J0_init_81219_6]
  rfl
theorem jt_si6 {b v : Nat} {M : am_M} (h : sb (am_mk 13 M) b v 6) : am_val iJ0_init_81219 0 [some (.ref (am_c M.2.2.2.2.1 13)), some (.ref (am_c b 15))] [] (am_mk 13 M) = some (.inl none, jt_ts M v 28 6, 1, 6) := by
  have h9 : ∀ j, j < 16 → ((av_i (am_mk 13 M) (am_c M.2.2.2.2.1 13) 1 0).1 (am_c v 18) j).toInt8.toInt32 = (av_i (am_mk 13 M) (am_c M.2.2.2.2.1 13) 1 0).1 (am_c v 18) j := fun j hj => by
    show (am_up (am_mk 13 M).1 (am_c M.2.2.2.2.1 13) 1 0 (am_c v 18) j).toInt8.toInt32 = am_up (am_mk 13 M).1 (am_c M.2.2.2.2.1 13) 1 0 (am_c v 18) j
    rw [am_up_a (am_c_ne (by decide) (by decide) (by omega))]
    exact h.2.2.2 j hj
  have e : am_val iJ0_init_db425 0 [some (.ref (am_c M.2.2.2.2.1 13)), some (.ref (am_c b 15)), some (.null), none, none] [] (am_mk 13 M) = some (.inl none, jt_ts M v 28 6, 1, 6) := by
    rw [ae_J0_init_db425n6_0, jt_val h, am_bnx_v]
    simp only [am_tl_s]
    rw [ae_J0_init_db425n6_8, jt_bl h, am_bnx_v]
    simp only [am_tl_s]
    rw [ae_J0_init_db425n6_13, jt_lat h, am_bnx_v]
    simp only [am_tl_s]
    rw [ae_J0_init_db425n6_19, if_neg (by decide), ae_J0_init_db425n6_22, jt_cr6 h9]
    show am_add (am_val iJ0_init_db425 35 _ (am_tl (some (.ref (am_c (M.2.2.2.2.1 + 1) 28))) [.ref (am_c M.2.2.2.2.1 13)]) (jt_cr (av_i (am_mk 13 M) (am_c M.2.2.2.2.1 13) 1 0) v 28 6)) 1 6 = _
    rw [am_tl_s, ae_J0_init_db425n6_35]
    rfl
  rw [ae_J0_init_81219_0, e]
  show am_add (am_val iJ0_init_81219 6 _ (am_tl none []) (jt_ts M v 28 6)) 1 6 = _
  rw [am_tl_n, ae_J0_init_81219_6]
  rfl
theorem jt_si8 {b v : Nat} {M : am_M} (h : sb (am_mk 13 M) b v 8) : am_val iJ0_init_81219 0 [some (.ref (am_c M.2.2.2.2.1 13)), some (.ref (am_c b 15))] [] (am_mk 13 M) = some (.inl none, jt_ts M v 29 8, 1, 8) := by
  have h9 : ∀ j, j < 16 → ((av_i (am_mk 13 M) (am_c M.2.2.2.2.1 13) 1 0).1 (am_c v 18) j).toInt8.toInt32 = (av_i (am_mk 13 M) (am_c M.2.2.2.2.1 13) 1 0).1 (am_c v 18) j := fun j hj => by
    show (am_up (am_mk 13 M).1 (am_c M.2.2.2.2.1 13) 1 0 (am_c v 18) j).toInt8.toInt32 = am_up (am_mk 13 M).1 (am_c M.2.2.2.2.1 13) 1 0 (am_c v 18) j
    rw [am_up_a (am_c_ne (by decide) (by decide) (by omega))]
    exact h.2.2.2 j hj
  have e : am_val iJ0_init_db425 0 [some (.ref (am_c M.2.2.2.2.1 13)), some (.ref (am_c b 15)), some (.null), none, none] [] (am_mk 13 M) = some (.inl none, jt_ts M v 29 8, 1, 8) := by
    rw [ae_J0_init_db425n8_0, jt_val h, am_bnx_v]
    simp only [am_tl_s]
    rw [ae_J0_init_db425n8_8, jt_bl h, am_bnx_v]
    simp only [am_tl_s]
    rw [ae_J0_init_db425n8_13, jt_lat h, am_bnx_v]
    simp only [am_tl_s]
    rw [ae_J0_init_db425n8_19, if_neg (by decide), ae_J0_init_db425n8_22, jt_cr8 h9]
    show am_add (am_val iJ0_init_db425 35 _ (am_tl (some (.ref (am_c (M.2.2.2.2.1 + 1) 29))) [.ref (am_c M.2.2.2.2.1 13)]) (jt_cr (av_i (am_mk 13 M) (am_c M.2.2.2.2.1 13) 1 0) v 29 8)) 1 8 = _
    rw [am_tl_s, ae_J0_init_db425n8_35]
    rfl
  rw [ae_J0_init_81219_0, e]
  show am_add (am_val iJ0_init_81219 6 _ (am_tl none []) (jt_ts M v 29 8)) 1 8 = _
  rw [am_tl_n, ae_J0_init_81219_6]
  rfl
theorem jt_si9 {b v : Nat} {M : am_M} (h : sb (am_mk 13 M) b v 9) : am_val iJ0_init_81219 0 [some (.ref (am_c M.2.2.2.2.1 13)), some (.ref (am_c b 15))] [] (am_mk 13 M) = some (.inl none, jt_ts M v 30 9, 1, 9) := by
  have h9 : ∀ j, j < 16 → ((av_i (am_mk 13 M) (am_c M.2.2.2.2.1 13) 1 0).1 (am_c v 18) j).toInt8.toInt32 = (av_i (am_mk 13 M) (am_c M.2.2.2.2.1 13) 1 0).1 (am_c v 18) j := fun j hj => by
    show (am_up (am_mk 13 M).1 (am_c M.2.2.2.2.1 13) 1 0 (am_c v 18) j).toInt8.toInt32 = am_up (am_mk 13 M).1 (am_c M.2.2.2.2.1 13) 1 0 (am_c v 18) j
    rw [am_up_a (am_c_ne (by decide) (by decide) (by omega))]
    exact h.2.2.2 j hj
  have e : am_val iJ0_init_db425 0 [some (.ref (am_c M.2.2.2.2.1 13)), some (.ref (am_c b 15)), some (.null), none, none] [] (am_mk 13 M) = some (.inl none, jt_ts M v 30 9, 1, 9) := by
    rw [ae_J0_init_db425n9_0, jt_val h, am_bnx_v]
    simp only [am_tl_s]
    rw [ae_J0_init_db425n9_8, jt_bl h, am_bnx_v]
    simp only [am_tl_s]
    rw [ae_J0_init_db425n9_13, jt_lat h, am_bnx_v]
    simp only [am_tl_s]
    rw [ae_J0_init_db425n9_19, if_neg (by decide), ae_J0_init_db425n9_22, jt_cr9 h9]
    show am_add (am_val iJ0_init_db425 35 _ (am_tl (some (.ref (am_c (M.2.2.2.2.1 + 1) 30))) [.ref (am_c M.2.2.2.2.1 13)]) (jt_cr (av_i (am_mk 13 M) (am_c M.2.2.2.2.1 13) 1 0) v 30 9)) 1 9 = _
    rw [am_tl_s, ae_J0_init_db425n9_35]
    rfl
  rw [ae_J0_init_81219_0, e]
  show am_add (am_val iJ0_init_81219 6 _ (am_tl none []) (jt_ts M v 30 9)) 1 9 = _
  rw [am_tl_n, ae_J0_init_81219_6]
  rfl
theorem jt_si {b v k n : Nat} {M : am_M} (h : sb (am_mk 13 M) b v n) (hk : sk k n) : am_val iJ0_init_81219 0 [some (.ref (am_c M.2.2.2.2.1 13)), some (.ref (am_c b 15))] [] (am_mk 13 M) = some (.inl none, jt_ts M v k n, 1, n) := by
  rcases hk with ⟨rfl, rfl⟩ | ⟨rfl, rfl⟩ | ⟨rfl, rfl⟩ | ⟨rfl, rfl⟩ | ⟨rfl, rfl⟩ | ⟨rfl, rfl⟩
  · exact jt_si3 h
  · exact jt_si4 h
  · exact jt_si5 h
  · exact jt_si6 h
  · exact jt_si8 h
  · exact jt_si9 h
theorem sk_k {k n : Nat} (h : sk k n) : k < 64 ∧ 19 ≤ k ∧ n ≤ 9 := by
  rcases h with ⟨rfl, rfl⟩ | ⟨rfl, rfl⟩ | ⟨rfl, rfl⟩ | ⟨rfl, rfl⟩ | ⟨rfl, rfl⟩ | ⟨rfl, rfl⟩ <;> decide
theorem tA_str {M0 M : am_M} {b v cnt k : Nat} (h : tA M0 b v cnt M) (hk : sk k cnt) : wq (am_val iJ4_toString_0e30d 0 [some (.ref (am_c b 15))] [] M) 2 (fun r X => ∃ s w, r = some (.ref (am_c s 13)) ∧ ts X s w k cnt ∧ tf M0.2.2.2.2.1 M0 X ∧ fz X ∧ M0.2.2.2.2.1 ≤ s ∧ M0.2.2.2.2.1 ≤ w) := by
  obtain ⟨k1, k2, k3⟩ := sk_k hk
  obtain ⟨hb, ht, hz, ⟨q1, q2⟩, q3, q4⟩ := h
  obtain ⟨n0, hn0⟩ : ∃ n0, n0 = M.2.2.2.2.1 := ⟨_, rfl⟩
  have e := jt_si (M := M) (b := b) (v := v) (k := k) (n := cnt) hb hk
  have m1 : ∀ a, ¬ a = am_c n0 13 → ¬ a = am_c (n0 + 1) k → (jt_ts M v k cnt).1 a = M.1 a := fun a a1 a2 => by
    funext j
    show am_cpy (am_up M.1 (am_c M.2.2.2.2.1 13) 1 0) (am_c v 18) (am_c (M.2.2.2.2.1 + 1) k) 0 0 cnt a j = _
    rw [← hn0]
    unfold am_cpy
    rw [if_neg (fun q => a2 q.1)]
    exact am_up_a a1
  have m2 : ∀ a, ¬ a = am_c n0 13 → (jt_ts M v k cnt).2.1 a = M.2.1 a := fun a a1 => by
    funext j
    show am_up M.2.1 (am_c M.2.2.2.2.1 13) 0 (am_c (M.2.2.2.2.1 + 1) k + 1) a j = _
    rw [← hn0]
    exact am_up_a a1
  have mn : (jt_ts M v k cnt).2.2.2.2.1 = n0 + 2 := by
    rw [hn0]
    rfl
  have hnk : ¬ am_c n0 13 = am_c (n0 + 1) k := am_c_ne (by decide) k1 (by omega)
  rw [ae_J4_toString_0e30d_0]
  refine wq_add (k := 1) (K := 1) ?_ (by decide) (by decide)
  rw [ae_J4_toString_0e30d_3, e]
  refine wq_c (K1 := 1) (R := fun v9 Y => v9 = none ∧ Y = jt_ts M v k cnt) ⟨none, _, 1, cnt, rfl, by decide, by omega, rfl, rfl⟩ (by decide) fun v9 Y hv => ?_
  obtain ⟨rfl, rfl⟩ := hv
  simp only [am_tl_n]
  rw [ae_J4_toString_0e30d_8]
  refine wq_e ⟨n0, n0 + 1, by rw [hn0], ⟨?_, ?_, fun j hj => ?_⟩, tf_t ht (n1 := n0) ⟨fun c k' hk' hc => ⟨m1 _ (am_c_ne hk' (by decide) (by omega)) (am_c_ne hk' k1 (by omega)), m2 _ (am_c_ne hk' (by decide) (by omega))⟩, rfl, rfl, by rw [mn]; omega⟩ (by rw [hn0]; exact ht.2.2.2), fun c k' hk' hc => ?_, by rw [hn0]; exact ht.2.2.2, by have := ht.2.2.2; omega⟩
  · show am_up M.2.1 (am_c M.2.2.2.2.1 13) 0 (am_c (M.2.2.2.2.1 + 1) k + 1) (am_c n0 13) 0 = am_c (n0 + 1) k + 1
    rw [← hn0]
    exact am_up_s
  · show am_cpy (am_up M.1 (am_c M.2.2.2.2.1 13) 1 0) (am_c v 18) (am_c (M.2.2.2.2.1 + 1) k) 0 0 cnt (am_c n0 13) 1 = 0
    rw [← hn0]
    unfold am_cpy
    rw [if_neg (fun q => hnk q.1)]
    exact am_up_s
  · have e9 : (jt_ts M v k cnt).1 (am_c (n0 + 1) k) j = M.1 (am_c v 18) j := by
      show am_cpy (am_up M.1 (am_c M.2.2.2.2.1 13) 1 0) (am_c v 18) (am_c (M.2.2.2.2.1 + 1) k) 0 0 cnt (am_c (n0 + 1) k) j = _
      rw [← hn0]
      unfold am_cpy
      rw [if_pos ⟨rfl, by omega, by omega⟩, am_up_a (am_c_ne (by decide) (by decide) (by omega)), Nat.sub_zero, Nat.zero_add]
    rw [e9]
    exact hb.2.2.2 j (by omega)
  · rw [mn] at hc
    exact (m1 _ (am_c_ne (by omega) (by decide) (by omega)) (am_c_ne (by omega) k1 (by omega))).trans (hz c k' hk' (by omega))
theorem jt_ch {s w k n j : Nat} {M : am_M} (h : ts M s w k n) (hk : sk k n) (hj : j < n) : ∃ x : Int32, (x.toUInt32 % 65536).toInt32 = x ∧ am_val iJ0_charAt_5068e 0 [some (.ref (am_c s 13)), some (.int (nI j))] [] M = some (.inl (some (.int x)), M, 0, 0) := by
  obtain ⟨h1, h2, -⟩ := h
  have hl : am_val iJ0_isLatin1_aae02 0 [some (.ref (am_c s 13))] [] M = some (.inl (some (.int 1)), M, 0, 0) := by
    rw [ae_J0_isLatin1_aae02s_0, if_neg (by decide), ae_J0_isLatin1_aae02s_6, if_neg (not_not_intro h2), ae_J0_isLatin1_aae02s_13]
  rcases hk with ⟨rfl, rfl⟩ | ⟨rfl, rfl⟩ | ⟨rfl, rfl⟩ | ⟨rfl, rfl⟩ | ⟨rfl, rfl⟩ | ⟨rfl, rfl⟩
  · refine ⟨(((M.1 (am_c w 19) (nI j).toNatClampNeg) &&& 255).toUInt32 % 65536).toInt32, am_ch_ch, ?_⟩
    rw [ae_J0_charAt_5068en3_0, hl, am_bnx_v]
    simp only [am_tl_s]
    rw [ae_J0_charAt_5068en3_4, if_neg (by decide), ae_J0_charAt_5068en3_7, h1, am_rv_s, ae_J0_charAt_5068en3_11, ae_J1_charAt_3b067n3_0 (nI_pos (by omega)) (nI_lt (b := 3) hj (by decide)) (am_in_n hj (by decide)), am_bnx_v]
    simp only [am_tl_s]
    rw [ae_J0_charAt_5068en3_15 am_ch_ch]
  · refine ⟨(((M.1 (am_c w 20) (nI j).toNatClampNeg) &&& 255).toUInt32 % 65536).toInt32, am_ch_ch, ?_⟩
    rw [ae_J0_charAt_5068en4_0, hl, am_bnx_v]
    simp only [am_tl_s]
    rw [ae_J0_charAt_5068en4_4, if_neg (by decide), ae_J0_charAt_5068en4_7, h1, am_rv_s, ae_J0_charAt_5068en4_11, ae_J1_charAt_3b067n4_0 (nI_pos (by omega)) (nI_lt (b := 4) hj (by decide)) (am_in_n hj (by decide)), am_bnx_v]
    simp only [am_tl_s]
    rw [ae_J0_charAt_5068en4_15 am_ch_ch]
  · refine ⟨(((M.1 (am_c w 21) (nI j).toNatClampNeg) &&& 255).toUInt32 % 65536).toInt32, am_ch_ch, ?_⟩
    rw [ae_J0_charAt_5068en5_0, hl, am_bnx_v]
    simp only [am_tl_s]
    rw [ae_J0_charAt_5068en5_4, if_neg (by decide), ae_J0_charAt_5068en5_7, h1, am_rv_s, ae_J0_charAt_5068en5_11, ae_J1_charAt_3b067n5_0 (nI_pos (by omega)) (nI_lt (b := 5) hj (by decide)) (am_in_n hj (by decide)), am_bnx_v]
    simp only [am_tl_s]
    rw [ae_J0_charAt_5068en5_15 am_ch_ch]
  · refine ⟨(((M.1 (am_c w 28) (nI j).toNatClampNeg) &&& 255).toUInt32 % 65536).toInt32, am_ch_ch, ?_⟩
    rw [ae_J0_charAt_5068en6_0, hl, am_bnx_v]
    simp only [am_tl_s]
    rw [ae_J0_charAt_5068en6_4, if_neg (by decide), ae_J0_charAt_5068en6_7, h1, am_rv_s, ae_J0_charAt_5068en6_11, ae_J1_charAt_3b067n6_0 (nI_pos (by omega)) (nI_lt (b := 6) hj (by decide)) (am_in_n hj (by decide)), am_bnx_v]
    simp only [am_tl_s]
    rw [ae_J0_charAt_5068en6_15 am_ch_ch]
  · refine ⟨(((M.1 (am_c w 29) (nI j).toNatClampNeg) &&& 255).toUInt32 % 65536).toInt32, am_ch_ch, ?_⟩
    rw [ae_J0_charAt_5068en8_0, hl, am_bnx_v]
    simp only [am_tl_s]
    rw [ae_J0_charAt_5068en8_4, if_neg (by decide), ae_J0_charAt_5068en8_7, h1, am_rv_s, ae_J0_charAt_5068en8_11, ae_J1_charAt_3b067n8_0 (nI_pos (by omega)) (nI_lt (b := 8) hj (by decide)) (am_in_n hj (by decide)), am_bnx_v]
    simp only [am_tl_s]
    rw [ae_J0_charAt_5068en8_15 am_ch_ch]
  · refine ⟨(((M.1 (am_c w 30) (nI j).toNatClampNeg) &&& 255).toUInt32 % 65536).toInt32, am_ch_ch, ?_⟩
    rw [ae_J0_charAt_5068en9_0, hl, am_bnx_v]
    simp only [am_tl_s]
    rw [ae_J0_charAt_5068en9_4, if_neg (by decide), ae_J0_charAt_5068en9_7, h1, am_rv_s, ae_J0_charAt_5068en9_11, ae_J1_charAt_3b067n9_0 (nI_pos (by omega)) (nI_lt (b := 9) hj (by decide)) (am_in_n hj (by decide)), am_bnx_v]
    simp only [am_tl_s]
    rw [ae_J0_charAt_5068en9_15 am_ch_ch]
