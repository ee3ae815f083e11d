/-! words and rules for the class's methods -/
def am_bi (b : Bool) : Int32 := bif b then 1 else 0
theorem am_1n0 : ((1 : Int32) = 0) = False := by decide
theorem am_bi_t : am_bi true = 1 := rfl
theorem am_bi_f : am_bi false = 0 := rfl
theorem am_bi_01 (b : Bool) : am_bi b = 0 ∨ am_bi b = 1 := by cases b <;> simp [am_bi]
theorem am_bi_e0 (b : Bool) : (am_bi b = 0) = (b = false) := by cases b <;> simp [am_bi]
theorem am_bi_n0 (b : Bool) : (¬ am_bi b = 0) = (b = true) := by cases b <;> simp [am_bi]
theorem am_bi_e1 (b : Bool) : (am_bi b = 1) = (b = true) := by cases b <;> simp [am_bi]
theorem av_i1 {M : am_M} {a j : Nat} {x : Int32} : (av_i M a j x).1 = am_up M.1 a j x := rfl
theorem av_i2 {M : am_M} {a j : Nat} {x : Int32} : (av_i M a j x).2 = M.2 := rfl
theorem av_r1 {M : am_M} {a j x : Nat} : (av_r M a j x).1 = M.1 := rfl
theorem av_r21 {M : am_M} {a j x : Nat} : (av_r M a j x).2.1 = am_up M.2.1 a j x := rfl
theorem av_r22 {M : am_M} {a j x : Nat} : (av_r M a j x).2.2 = M.2.2 := rfl
theorem av_l1 {M : am_M} {a j : Nat} {x : Int64} : (av_l M a j x).1 = M.1 := rfl
theorem av_l21 {M : am_M} {a j : Nat} {x : Int64} : (av_l M a j x).2.1 = M.2.1 := rfl
theorem av_d1 {M : am_M} {a j : Nat} {x : UInt64} : (av_d M a j x).1 = M.1 := rfl
theorem av_d21 {M : am_M} {a j : Nat} {x : UInt64} : (av_d M a j x).2.1 = M.2.1 := rfl
theorem av_c1 {M : am_M} {a b n : Nat} : (av_c M a b n).1 = am_cpy M.1 a b 0 0 n := rfl
theorem av_c2 {M : am_M} {a b n : Nat} : (av_c M a b n).2 = M.2 := rfl
theorem am_up_s {α : Type} {f : Nat → Nat → α} {a k : Nat} {v : α} : am_up f a k v a k = v := by simp [am_up]
theorem am_up_a {α : Type} {f : Nat → Nat → α} {a b j k : Nat} {v : α} (h : ¬ b = a) : am_up f a k v b j = f b j := by simp [am_up, h]
theorem am_up_k {α : Type} {f : Nat → Nat → α} {a b j k : Nat} {v : α} (h : ¬ j = k) : am_up f a k v b j = f b j := by simp [am_up, h]
theorem am_up_ak {α : Type} {f : Nat → Nat → α} {a b j k : Nat} {v : α} (h : ¬ (b = a ∧ j = k)) : am_up f a k v b j = f b j := by
  unfold am_up
  by_cases hj : j = k
  · by_cases hb : b = a
    · exact absurd ⟨hb, hj⟩ h
    · rw [if_pos hj, if_neg hb]
  · rw [if_neg hj]
theorem am_c_ne {i k i' k' : Nat} (h : k < 64) (h' : k' < 64) (hn : ¬ (i = i' ∧ k = k')) : ¬ am_c i k = am_c i' k' := by
  rw [am_c_inj h h']
  exact hn
theorem am_cpy_s {f : Nat → Nat → Int32} {a b n j : Nat} (h : j < n) : am_cpy f a b 0 0 n b j = f a j := by
  unfold am_cpy
  rw [if_pos ⟨rfl, Nat.zero_le _, by omega⟩]
  congr 1
  omega
theorem am_cpy_a {f : Nat → Nat → Int32} {a b n q j : Nat} (h : ¬ q = b) : am_cpy f a b 0 0 n q j = f q j := by
  unfold am_cpy
  rw [if_neg (fun hh => h hh.1)]
/-- an index that is in -/
theorem am_in_n {k n : Nat} (h : k < n) (hn : n < 2147483648) : am_in (nI k) n = true := by
  unfold am_in
  rw [decide_eq_true (nI_pos (show k < 2 ^ 31 by omega)), nI_clamp (show k < 2 ^ 31 by omega), decide_eq_true h]
  rfl
theorem am_tn {k : Nat} (h : k < 2147483648) : (nI k).toNatClampNeg = k := nI_clamp h
/-! places, teams -/
def am_wt (x a b : Int32) : Bool := decide (a ≤ x) && decide (x ≤ b)
def am_pl (p : Int32) : Bool := decide (0 ≤ p) && decide (p < 16)
def am_tm (t : Int32) : Bool := decide (0 ≤ t) && decide (t < 3)
theorem nI_ex {x : Int32} (n : Nat) (h0 : 0 ≤ x) (h : x < nI n) (hn : n < 2147483648) : ∃ k, k < n ∧ x = nI k := by
  obtain ⟨j, hj, rfl⟩ := nI_of (show ¬ x < 0 from fun hc => by
    have h1 := Int32.lt_iff_toInt_lt.mp hc
    have h2 := Int32.le_iff_toInt_le.mp h0
    omega)
  exact ⟨j, (nI_ltI hj (by omega)).mp h, rfl⟩
theorem am_pl_n {p : Int32} (h : am_pl p = true) : ∃ k, k < 16 ∧ p = nI k := by
  simp only [am_pl, Bool.and_eq_true, decide_eq_true_eq] at h
  exact nI_ex 16 h.1 h.2 (by decide)
theorem am_tm_n {p : Int32} (h : am_tm p = true) : ∃ k, k < 3 ∧ p = nI k := by
  simp only [am_tm, Bool.and_eq_true, decide_eq_true_eq] at h
  exact nI_ex 3 h.1 h.2 (by decide)
theorem am_n_pl {k : Nat} (h : k < 16) : am_pl (nI k) = true := by
  simp only [am_pl, Bool.and_eq_true, decide_eq_true_eq]
  exact ⟨nI_pos' (by omega), nI_lt (b := 16) h (by decide)⟩
theorem am_n_tm {k : Nat} (h : k < 3) : am_tm (nI k) = true := by
  simp only [am_tm, Bool.and_eq_true, decide_eq_true_eq]
  exact ⟨nI_pos' (by omega), nI_lt (b := 3) h (by decide)⟩
theorem am_nle {a b : Int32} : (¬ a ≤ b) = (b < a) := by
  rw [Int32.le_iff_toInt_le, Int32.lt_iff_toInt_lt]
  apply propext
  omega
theorem am_nlt {a b : Int32} : (¬ a < b) = (b ≤ a) := by
  rw [Int32.le_iff_toInt_le, Int32.lt_iff_toInt_lt]
  apply propext
  omega
theorem ac_isWithin {x a b : Int32} {M : am_M} : am_val iX12_isWithin 0 [some (.int x), some (.int a), some (.int b)] [] M = some (.inl (some (.int (am_bi (am_wt x a b)))), M, 0, 0) := by
  by_cases h1 : x < a
  · have h2 : ¬ a ≤ x := by rw [am_nle]; exact h1
    simp [ae_X12_isWithin_0, ae_X12_isWithin_5, ae_X12_isWithin_10, ae_X12_isWithin_14, am_wt, h1, h2, am_bi]
  · have h2 : a ≤ x := by rw [am_nlt] at h1; exact h1
    by_cases h3 : b < x
    · have h4 : ¬ x ≤ b := by rw [am_nle]; exact h3
      simp [ae_X12_isWithin_0, ae_X12_isWithin_5, ae_X12_isWithin_10, ae_X12_isWithin_14, am_wt, h1, h2, h3, h4, am_bi]
    · have h4 : x ≤ b := by rw [am_nlt] at h3; exact h3
      simp [ae_X12_isWithin_0, ae_X12_isWithin_5, ae_X12_isWithin_10, ae_X12_isWithin_14, am_wt, h1, h2, h3, h4, am_bi]
theorem ac_isPlace {x : Int32} {M : am_M} : am_val iX12_isPlace 0 [some (.int x)] [] M = some (.inl (some (.int (am_bi (am_pl x)))), M, 0, 0) := by
  by_cases h1 : x < 0
  · have h2 : ¬ 0 ≤ x := by rw [am_nle]; exact h1
    simp [ae_X12_isPlace_0, ae_X12_isPlace_4, ae_X12_isPlace_10, ae_X12_isPlace_14, am_pl, h1, h2, am_bi]
  · have h2 : 0 ≤ x := by rw [am_nlt] at h1; exact h1
    by_cases h3 : 16 ≤ x
    · have h4 : ¬ x < 16 := by rw [am_nlt]; exact h3
      simp [ae_X12_isPlace_0, ae_X12_isPlace_4, ae_X12_isPlace_10, ae_X12_isPlace_14, am_pl, h1, h2, h3, h4, am_bi]
    · have h4 : x < 16 := by rw [am_nle] at h3; exact h3
      simp [ae_X12_isPlace_0, ae_X12_isPlace_4, ae_X12_isPlace_10, ae_X12_isPlace_14, am_pl, h1, h2, h3, h4, am_bi]
theorem ac_isTeam {x : Int32} {M : am_M} : am_val iX12_isTeam 0 [some (.int x)] [] M = some (.inl (some (.int (am_bi (am_tm x)))), M, 0, 0) := by
  by_cases h1 : x < 0
  · have h2 : ¬ 0 ≤ x := by rw [am_nle]; exact h1
    simp [ae_X12_isTeam_0, ae_X12_isTeam_4, ae_X12_isTeam_9, ae_X12_isTeam_13, am_tm, h1, h2, am_bi]
  · have h2 : 0 ≤ x := by rw [am_nlt] at h1; exact h1
    by_cases h3 : 3 ≤ x
    · have h4 : ¬ x < 3 := by rw [am_nlt]; exact h3
      simp [ae_X12_isTeam_0, ae_X12_isTeam_4, ae_X12_isTeam_9, ae_X12_isTeam_13, am_tm, h1, h2, h3, h4, am_bi]
    · have h4 : x < 3 := by rw [am_nle] at h3; exact h3
      simp [ae_X12_isTeam_0, ae_X12_isTeam_4, ae_X12_isTeam_9, ae_X12_isTeam_13, am_tm, h1, h2, h3, h4, am_bi]
