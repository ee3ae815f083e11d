/-! what writes do to a block -/
def av_up (σ : Nat → Int32) (i : Nat) (x : Int32) (j : Nat) : Int32 := if j = i then x else σ j
theorem av_up_s {σ : Nat → Int32} {i : Nat} {x : Int32} : av_up σ i x i = x := if_pos rfl
theorem av_up_n {σ : Nat → Int32} {i j : Nat} {x : Int32} (h : ¬ j = i) : av_up σ i x j = σ j := if_neg h
def av_fd (i : Nat) : Nat := match i with
  | 0 => 3
  | 1 => 5
  | 2 => 6
  | 3 => 7
  | 4 => 8
  | 5 => 9
  | 6 => 10
  | 7 => 12
  | _ => 11
def av_ad (B i : Nat) : Nat × Nat := if i < 9 then (am_c B 1, av_fd i) else if i < 18 then (am_c (B + 5 + (i - 9) % 3) 17, (i - 9) / 3) else if i < 50 then (am_c (B + 2 + (i - 18) % 2) 16, (i - 18) / 2) else (am_c (B + 10 + (i - 50) / 5) 6, (i - 50) % 5)
theorem av_fd_inj : ∀ i, i < 9 → ∀ j, j < 9 → av_fd i = av_fd j → i = j := by decide
theorem av_ad_inj {B i j : Nat} (hi : i < 80) (hj : j < 80) (h1 : (av_ad B i).1 = (av_ad B j).1) (h2 : (av_ad B i).2 = (av_ad B j).2) : i = j := by
  unfold av_ad at h1 h2
  by_cases a : i < 9
  · by_cases a' : j < 9
    · rw [if_pos a, if_pos a'] at h2
      exact av_fd_inj i a j a' h2
    · rw [if_pos a, if_neg a'] at h1
      by_cases b' : j < 18
      · rw [if_pos b'] at h1; simp only [am_c] at h1; omega
      · rw [if_neg b'] at h1
        by_cases c' : j < 50
        · rw [if_pos c'] at h1; simp only [am_c] at h1; omega
        · rw [if_neg c'] at h1; simp only [am_c] at h1; omega
  · rw [if_neg a] at h1 h2
    by_cases a' : j < 9
    · rw [if_pos a'] at h1
      by_cases b : i < 18
      · rw [if_pos b] at h1; simp only [am_c] at h1; omega
      · rw [if_neg b] at h1
        by_cases c : i < 50
        · rw [if_pos c] at h1; simp only [am_c] at h1; omega
        · rw [if_neg c] at h1; simp only [am_c] at h1; omega
    · rw [if_neg a'] at h1 h2
      by_cases b : i < 18
      · rw [if_pos b] at h1 h2
        by_cases b' : j < 18
        · rw [if_pos b'] at h1 h2; simp only [am_c] at h1 h2; omega
        · rw [if_neg b'] at h1 h2
          by_cases c' : j < 50
          · rw [if_pos c'] at h1; simp only [am_c] at h1; omega
          · rw [if_neg c'] at h1; simp only [am_c] at h1; omega
      · rw [if_neg b] at h1 h2
        by_cases b' : j < 18
        · rw [if_pos b'] at h1
          by_cases c : i < 50
          · rw [if_pos c] at h1; simp only [am_c] at h1; omega
          · rw [if_neg c] at h1; simp only [am_c] at h1; omega
        · rw [if_neg b'] at h1 h2
          by_cases c : i < 50
          · rw [if_pos c] at h1 h2
            by_cases c' : j < 50
            · rw [if_pos c'] at h1 h2; simp only [am_c] at h1 h2; omega
            · rw [if_neg c'] at h1; simp only [am_c] at h1; omega
          · rw [if_neg c] at h1 h2
            by_cases c' : j < 50
            · rw [if_pos c'] at h1; simp only [am_c] at h1; omega
            · rw [if_neg c'] at h1 h2; simp only [am_c] at h1 h2; omega
theorem av_ad_k {B i : Nat} (hi : i < 80) : ∃ c k, (av_ad B i).1 = am_c c k ∧ B ≤ c ∧ c < B + 16 ∧ k < 64 ∧ k ≠ 8 := by
  unfold av_ad
  by_cases a : i < 9
  · rw [if_pos a]; exact ⟨B, 1, rfl, by omega, by omega, by decide, by decide⟩
  · rw [if_neg a]
    by_cases b : i < 18
    · rw [if_pos b]; exact ⟨_, 17, rfl, by omega, by omega, by decide, by decide⟩
    · rw [if_neg b]
      by_cases c : i < 50
      · rw [if_pos c]; exact ⟨_, 16, rfl, by omega, by omega, by decide, by decide⟩
      · rw [if_neg c]; exact ⟨_, 6, rfl, by omega, by omega, by decide, by decide⟩
theorem av_ad_n {B i : Nat} (h : i < 9) : av_ad B i = (am_c B 1, av_fd i) := by unfold av_ad; rw [if_pos h]
theorem av_ad_t {B t q : Nat} (ht : t < 3) (hq : q < 3) : av_ad B (9 + q + 3 * t) = (am_c (B + 5 + q) 17, t) := by
  unfold av_ad
  rw [if_neg (by omega), if_pos (by omega), show (9 + q + 3 * t - 9) % 3 = q by omega, show (9 + q + 3 * t - 9) / 3 = t by omega]
theorem av_ad_w {B p q : Nat} (hp : p < 16) (hq : q < 2) : av_ad B (18 + q + 2 * p) = (am_c (B + 2 + q) 16, p) := by
  unfold av_ad
  rw [if_neg (by omega), if_neg (by omega), if_pos (by omega), show (18 + q + 2 * p - 18) % 2 = q by omega, show (18 + q + 2 * p - 18) / 2 = p by omega]
theorem av_ad_p {B p w : Nat} (hw : w < 5) : av_ad B (50 + 5 * p + w) = (am_c (B + 10 + p) 6, w) := by
  unfold av_ad
  rw [if_neg (by omega), if_neg (by omega), if_neg (by omega), show (50 + 5 * p + w - 50) / 5 = p by omega, show (50 + 5 * p + w - 50) % 5 = w by omega]
def av_re (I : Nat → Nat → Int32) (B : Nat) (σ : Nat → Int32) : Prop := ∀ i, i < 80 → i ≠ 1 → I (av_ad B i).1 (av_ad B i).2 = σ i
theorem av_re_of {I : Nat → Nat → Int32} {B : Nat} {σ : Nat → Int32} (hW : av_rw I B σ) (hT : av_rt I B σ) (hN : av_rn I B σ) (hP : av_rp I B σ) : av_re I B σ := by
  intro i hi h1
  by_cases a : i < 9
  · rw [av_ad_n a]
    obtain ⟨n0, n2, n3, n4, n5, n6, n8, n7⟩ := hN
    rcases (show i = 0 ∨ i = 2 ∨ i = 3 ∨ i = 4 ∨ i = 5 ∨ i = 6 ∨ i = 7 ∨ i = 8 by omega) with rfl | rfl | rfl | rfl | rfl | rfl | rfl | rfl
    · exact n0
    · exact n2
    · exact n3
    · exact n4
    · exact n5
    · exact n6
    · exact n7
    · exact n8
  · by_cases b : i < 18
    · obtain ⟨t, q, ht, hq, rfl⟩ : ∃ t q, t < 3 ∧ q < 3 ∧ i = 9 + q + 3 * t := ⟨(i - 9) / 3, (i - 9) % 3, by omega, by omega, by omega⟩
      rw [av_ad_t ht hq]
      obtain ⟨a0, a1, a2⟩ := hT t ht
      rcases (show q = 0 ∨ q = 1 ∨ q = 2 by omega) with rfl | rfl | rfl
      · exact a0
      · exact a1
      · exact a2
    · by_cases c : i < 50
      · obtain ⟨p, q, hp, hq, rfl⟩ : ∃ p q, p < 16 ∧ q < 2 ∧ i = 18 + q + 2 * p := ⟨(i - 18) / 2, (i - 18) % 2, by omega, by omega, by omega⟩
        rw [av_ad_w hp hq]
        obtain ⟨a0, a1⟩ := hW p hp
        rcases (show q = 0 ∨ q = 1 by omega) with rfl | rfl
        · exact a0
        · exact a1
      · obtain ⟨p, w, hp, hw, rfl⟩ : ∃ p w, p < 6 ∧ w < 5 ∧ i = 50 + 5 * p + w := ⟨(i - 50) / 5, (i - 50) % 5, by omega, by omega, by omega⟩
        rw [av_ad_p hw]
        exact hP p hp w hw
theorem av_re_to {I : Nat → Nat → Int32} {B : Nat} {σ : Nat → Int32} (h : av_re I B σ) : av_rw I B σ ∧ av_rt I B σ ∧ av_rn I B σ ∧ av_rp I B σ := by
  refine ⟨fun p hp => ⟨?_, ?_⟩, fun t ht => ⟨?_, ?_, ?_⟩, ?_, fun p hp w hw => ?_⟩
  · have := h (18 + 0 + 2 * p) (by omega) (by omega); rw [av_ad_w hp (by decide)] at this; exact this
  · have := h (18 + 1 + 2 * p) (by omega) (by omega); rw [av_ad_w hp (by decide)] at this; exact this
  · have := h (9 + 0 + 3 * t) (by omega) (by omega); rw [av_ad_t ht (by decide)] at this; exact this
  · have := h (9 + 1 + 3 * t) (by omega) (by omega); rw [av_ad_t ht (by decide)] at this; exact this
  · have := h (9 + 2 + 3 * t) (by omega) (by omega); rw [av_ad_t ht (by decide)] at this; exact this
  · exact ⟨h 0 (by decide) (by decide), h 2 (by decide) (by decide), h 3 (by decide) (by decide), h 4 (by decide) (by decide), h 5 (by decide) (by decide), h 6 (by decide) (by decide), h 8 (by decide) (by decide), h 7 (by decide) (by decide)⟩
  · have := h (50 + 5 * p + w) (by omega) (by omega); rw [av_ad_p hw] at this; exact this
/-- nothing but the block's cells is changed -/
def av_fr (M M' : am_M) (B : Nat) : Prop := M'.2.2 = M.2.2 ∧ ∀ c k j, k < 64 → (c < B ∨ B + 24 ≤ c) → M'.1 (am_c c k) j = M.1 (am_c c k) j ∧ M'.2.1 (am_c c k) j = M.2.1 (am_c c k) j
theorem av_fr_0 {M : am_M} {B : Nat} : av_fr M M B := ⟨rfl, fun _ _ _ _ _ => ⟨rfl, rfl⟩⟩
theorem av_fr_t {M M' M'' : am_M} {B : Nat} (h : av_fr M M' B) (h' : av_fr M' M'' B) : av_fr M M'' B :=
  ⟨h'.1.trans h.1, fun c k j hk hc => ⟨(h'.2 c k j hk hc).1.trans (h.2 c k j hk hc).1, (h'.2 c k j hk hc).2.trans (h.2 c k j hk hc).2⟩⟩
theorem av_fr_i {M : am_M} {B c k j : Nat} {x : Int32} (hk : k < 64) (h0 : B ≤ c) (h1 : c < B + 24) : av_fr M (av_i M (am_c c k) j x) B :=
  ⟨rfl, fun c' k' j' hk' hc => ⟨am_up_a (am_c_ne hk' hk (by omega)), rfl⟩⟩
theorem av_fr_r {M : am_M} {B c k j x : Nat} (hk : k < 64) (h0 : B ≤ c) (h1 : c < B + 24) : av_fr M (av_r M (am_c c k) j x) B :=
  ⟨rfl, fun c' k' j' hk' hc => ⟨rfl, am_up_a (am_c_ne hk' hk (by omega))⟩⟩
theorem av_C_w {B : Nat} {rm : Nat → Nat} {σ : Nat → Int32} {L : List (Nat → Int32)} {i : Nat} {x : Int32} {M : am_M} (hi : i < 80) (h0 : i ≠ 0) (h1 : i ≠ 1) (hC : av_C M B rm σ L) : av_C (av_i M (av_ad B i).1 (av_ad B i).2 x) B rm (av_up σ i x) L ∧ av_fr M (av_i M (av_ad B i).1 (av_ad B i).2 x) B := by
  obtain ⟨⟨⟨w0, w1, w2, w3, w4, w5, w6, w7, w8, w9⟩, hrm, hpr⟩, ⟨hnp, hs0, hln, hct⟩, hW, hT, hN, hP, hS, hB⟩ := hC
  obtain ⟨c, k, hk, hc1, hc2, hk1, hk2⟩ := av_ad_k (B := B) hi
  have hre := av_re_of hW hT hN hP
  have hre' : av_re (av_i M (av_ad B i).1 (av_ad B i).2 x).1 B (av_up σ i x) := by
    intro j hj hj1
    by_cases h : j = i
    · subst h
      rw [av_up_s]
      exact am_up_s
    · rw [av_up_n h, ← hre j hj hj1]
      exact am_up_ak (fun hh => h (av_ad_inj hj hi hh.1 hh.2))
  obtain ⟨hW', hT', hN', hP'⟩ := av_re_to hre'
  have hroom : ∀ a f, (av_i M (av_ad B i).1 (av_ad B i).2 x).1 (am_c a 8) f = M.1 (am_c a 8) f := fun a f => by
    rw [hk]
    exact am_up_a (am_c_ne (by decide) hk1 (by omega))
  have hnp' : av_np (av_up σ i x) = av_np σ := by unfold av_np; rw [av_up_n (Ne.symm h0)]
  refine ⟨⟨⟨⟨w0, w1, w2, w3, w4, w5, w6, w7, w8, w9⟩, hrm, hpr⟩, ⟨by rw [hnp']; exact hnp, by rw [hnp', av_up_n (Ne.symm h0)]; exact hs0, hln, ?_⟩, hW', hT', hN', hP', ?_, ?_⟩, ?_⟩
  · rw [← hct]
    have e1 : av_ad B 1 = (am_c B 1, 5) := av_ad_n (by decide)
    refine am_up_ak (fun hh => h1 (av_ad_inj (B := B) hi (by decide) ?_ ?_))
    · rw [e1]; exact hh.1.symm
    · rw [e1]; exact hh.2.symm
  · intro k hk
    obtain ⟨r0, r1, r2, r3, r4⟩ := hS k hk
    exact ⟨(hroom _ _).trans r0, (hroom _ _).trans r1, (hroom _ _).trans r2, (hroom _ _).trans r3, (hroom _ _).trans r4⟩
  · intro a ha1 ha2
    rw [hroom]
    exact hB a ha1 ha2
  · rw [hk]
    exact av_fr_i hk1 hc1 (by omega)
theorem av_C_w0 {B : Nat} {rm : Nat → Nat} {σ : Nat → Int32} {L : List (Nat → Int32)} {n : Nat} {M : am_M} (hn : n ≤ 6) (hC : av_C M B rm σ L) : av_C (av_i M (am_c B 1) 3 (nI n)) B rm (av_up σ 0 (nI n)) L ∧ av_fr M (av_i M (am_c B 1) 3 (nI n)) B := by
  obtain ⟨⟨⟨w0, w1, w2, w3, w4, w5, w6, w7, w8, w9⟩, hrm, hpr⟩, ⟨hnp, hs0, hln, hct⟩, hW, hT, hN, hP, hS, hB⟩ := hC
  have hre := av_re_of hW hT hN hP
  have hre' : av_re (av_i M (am_c B 1) 3 (nI n)).1 B (av_up σ 0 (nI n)) := by
    intro j hj hj1
    by_cases h : j = 0
    · subst h
      rw [av_up_s, av_ad_n (show 0 < 9 by decide)]
      show am_up M.1 (am_c B 1) 3 (nI n) (am_c B 1) 3 = nI n
      exact am_up_s
    · rw [av_up_n h, ← hre j hj hj1]
      exact am_up_ak (fun hh => h (av_ad_inj (B := B) hj (by decide) hh.1 hh.2))
  obtain ⟨hW', hT', hN', hP'⟩ := av_re_to hre'
  have hroom : ∀ a f, (av_i M (am_c B 1) 3 (nI n)).1 (am_c a 8) f = M.1 (am_c a 8) f := fun a f => am_up_a (am_c_ne (by decide) (by decide) (by omega))
  have hnp' : av_np (av_up σ 0 (nI n)) = n := by unfold av_np; rw [av_up_s]; exact am_tn (by omega)
  refine ⟨⟨⟨⟨w0, w1, w2, w3, w4, w5, w6, w7, w8, w9⟩, hrm, hpr⟩, ⟨by rw [hnp']; exact hn, by rw [hnp', av_up_s], hln, ?_⟩, hW', hT', hN', hP', ?_, ?_⟩, av_fr_i (by decide) (by omega) (by omega)⟩
  · rw [← hct]
    show am_up M.1 (am_c B 1) 3 (nI n) (am_c B 1) 5 = M.1 (am_c B 1) 5
    exact am_up_k (by decide)
  · intro k hk
    obtain ⟨r0, r1, r2, r3, r4⟩ := hS k hk
    exact ⟨(hroom _ _).trans r0, (hroom _ _).trans r1, (hroom _ _).trans r2, (hroom _ _).trans r3, (hroom _ _).trans r4⟩
  · intro a ha1 ha2
    rw [hroom]
    exact hB a ha1 ha2
theorem av_C_wh {B : Nat} {rm : Nat → Nat} {σ : Nat → Int32} {L : List (Nat → Int32)} {p : Nat} {x : Int32} {M : am_M} (hp : p < 16) (hC : av_C M B rm σ L) : av_C (av_i M (am_c (B + 2) 16) p x) B rm (av_up σ (18 + 2 * p) x) L ∧ av_fr M (av_i M (am_c (B + 2) 16) p x) B := by
  have h := av_C_w (i := 18 + 0 + 2 * p) (x := x) (by omega) (by omega) (by omega) hC
  rw [av_ad_w hp (by decide)] at h
  exact h
theorem av_C_wo {B : Nat} {rm : Nat → Nat} {σ : Nat → Int32} {L : List (Nat → Int32)} {p : Nat} {x : Int32} {M : am_M} (hp : p < 16) (hC : av_C M B rm σ L) : av_C (av_i M (am_c (B + 3) 16) p x) B rm (av_up σ (19 + 2 * p) x) L ∧ av_fr M (av_i M (am_c (B + 3) 16) p x) B := by
  have h := av_C_w (i := 18 + 1 + 2 * p) (x := x) (by omega) (by omega) (by omega) hC
  rw [av_ad_w hp (by decide)] at h
  exact h
theorem av_C_wt {B : Nat} {rm : Nat → Nat} {σ : Nat → Int32} {L : List (Nat → Int32)} {t q : Nat} {x : Int32} {M : am_M} (ht : t < 3) (hq : q < 3) (hC : av_C M B rm σ L) : av_C (av_i M (am_c (B + 5 + q) 17) t x) B rm (av_up σ (9 + q + 3 * t) x) L ∧ av_fr M (av_i M (am_c (B + 5 + q) 17) t x) B := by
  have h := av_C_w (i := 9 + q + 3 * t) (x := x) (by omega) (by omega) (by omega) hC
  rw [av_ad_t ht hq] at h
  exact h
theorem av_C_wn {B : Nat} {rm : Nat → Nat} {σ : Nat → Int32} {L : List (Nat → Int32)} {i f : Nat} {x : Int32} {M : am_M} (hi : i < 9) (h0 : i ≠ 0) (h1 : i ≠ 1) (hf : av_fd i = f) (hC : av_C M B rm σ L) : av_C (av_i M (am_c B 1) f x) B rm (av_up σ i x) L ∧ av_fr M (av_i M (am_c B 1) f x) B := by
  have h := av_C_w (i := i) (x := x) (by omega) h0 h1 hC
  rw [av_ad_n hi, hf] at h
  exact h
theorem av_C_wp {B : Nat} {rm : Nat → Nat} {σ : Nat → Int32} {L : List (Nat → Int32)} {p w : Nat} {x : Int32} {M : am_M} (hp : p < 6) (hw : w < 5) (hC : av_C M B rm σ L) : av_C (av_i M (am_c (B + 10 + p) 6) w x) B rm (av_up σ (50 + 5 * p + w) x) L ∧ av_fr M (av_i M (am_c (B + 10 + p) 6) w x) B := by
  have h := av_C_w (i := 50 + 5 * p + w) (x := x) (by omega) (by omega) (by omega) hC
  rw [av_ad_p hw] at h
  exact h
theorem av_hf_n {σ : Nat → Int32} {p : Nat} (hp : p < 16) : av_hf σ (nI p) = σ (18 + 2 * p) := av_at_n hp
theorem av_of_n {σ : Nat → Int32} {p : Nat} (hp : p < 16) : av_of σ (nI p) = σ (19 + 2 * p) := av_at_n hp
theorem av_pt_n {σ : Nat → Int32} {t : Nat} (ht : t < 3) : av_pt σ (nI t) = σ (9 + 3 * t) := av_tt_n ht
/-- setWall -/
def av_o0 (σ : Nat → Int32) (p : Nat) (h : Int32) : Nat → Int32 := if h = 0 then av_up (av_up σ (18 + 2 * p) h) (19 + 2 * p) (-1) else av_up σ (18 + 2 * p) h
theorem ac_setWall {B : Nat} {rm : Nat → Nat} {σ : Nat → Int32} {L : List (Nat → Int32)} {p : Nat} {h : Int32} {M : am_M} (hp : p < 16) (hC : av_C M B rm σ L) : ∃ M', am_val iX1_setWall 0 [some (.ref (am_c B 1)), some (.int (nI p)), some (.int h), none] [] M = some (.inl (some (.int (σ (18 + 2 * p)))), M', 0, 0) ∧ av_C M' B rm (av_o0 σ p h) L ∧ av_fr M M' B := by
  have e1 := ac_bheight (p := nI p) hC
  rw [av_hf_n hp] at e1
  have hC0 := hC
  obtain ⟨⟨⟨w0, w1, w2, w3, w4, w5, w6, w7, w8, w9⟩, hrm, hpr⟩, ⟨hnp, hs0, hln, hct⟩, hW, hT, hN, hP, hS, hB⟩ := hC
  have e2 := ac_setHeight (p := p) (x := h) (M := M) hp w4 w5
  obtain ⟨c1, f1⟩ := av_C_wh (x := h) hp hC0
  unfold av_o0
  by_cases hx : h = 0
  · obtain ⟨c2, f2⟩ := av_C_wo (x := -1) hp c1
    rw [if_pos hx] at e2 ⊢
    exact ⟨_, by simp only [ae_X1_setWall_0, ae_X1_setWall_4, ae_X1_setWall_8, ae_X1_setWall_13, ae_X1_setWall_18, am_bnx_v, am_bnx_e, am_tl_s, am_tl_n, am_rv_s, am_add_rx, w0, e1, e2], c2, av_fr_t f1 f2⟩
  · rw [if_neg hx] at e2 ⊢
    exact ⟨_, by simp only [ae_X1_setWall_0, ae_X1_setWall_4, ae_X1_setWall_8, ae_X1_setWall_13, ae_X1_setWall_18, am_bnx_v, am_bnx_e, am_tl_s, am_tl_n, am_rv_s, am_add_rx, w0, e1, e2], c1, f1⟩
