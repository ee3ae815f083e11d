/-! walls, teams, players, sounds: one method at a time -/
theorem am_pl_in {p : Int32} (h : am_pl p = true) : am_in p 16 = true := by
  obtain ⟨k, hk, rfl⟩ := am_pl_n h
  exact am_in_n hk (by decide)
theorem am_tm_in {p : Int32} (h : am_tm p = true) : am_in p 3 = true := by
  obtain ⟨k, hk, rfl⟩ := am_tm_n h
  exact am_in_n hk (by decide)
def av_at (f : Nat → Int32) (d : Int32) (p : Int32) : Int32 := bif am_pl p then f p.toNatClampNeg else d
def av_tt (f : Nat → Int32) (p : Int32) : Int32 := bif am_tm p then f p.toNatClampNeg else 0
theorem av_at_n {f : Nat → Int32} {d : Int32} {k : Nat} (h : k < 16) : av_at f d (nI k) = f k := by
  unfold av_at
  rw [am_n_pl h, am_tn (by omega)]
  rfl
theorem av_tt_n {f : Nat → Int32} {k : Nat} (h : k < 3) : av_tt f (nI k) = f k := by
  unfold av_tt
  rw [am_n_tm h, am_tn (by omega)]
  rfl
theorem ac_heightAt {i j : Nat} {p : Int32} {M : am_M} (h : M.2.1 (am_c i 11) 0 = am_c j 16 + 1) : am_val iX11_heightAt 0 [some (.ref (am_c i 11)), some (.int p)] [] M = some (.inl (some (.int (av_at (M.1 (am_c j 16)) 0 p))), M, 0, 0) := by
  cases hp : am_pl p with
  | false => simp [ae_X11_heightAt_0, ae_X11_heightAt_4, ae_X11_heightAt_7, ae_X11_heightAt_11, ae_X11_heightAt_16, am_bnx_v, am_bnx_e, am_tl_s, am_tl_n, am_rv_s, am_add_rx, ac_isPlace, hp, am_bi_f, av_at]
  | true => simp [ae_X11_heightAt_0, ae_X11_heightAt_4, ae_X11_heightAt_7, ae_X11_heightAt_11, ae_X11_heightAt_16, am_bnx_v, am_bnx_e, am_tl_s, am_tl_n, am_rv_s, am_add_rx, ac_isPlace, hp, am_bi_t, av_at, h, am_pl_in hp]
theorem ac_ownerAt {i j : Nat} {p : Int32} {M : am_M} (h : M.2.1 (am_c i 11) 1 = am_c j 16 + 1) : am_val iX11_ownerAt 0 [some (.ref (am_c i 11)), some (.int p)] [] M = some (.inl (some (.int (av_at (M.1 (am_c j 16)) (-1) p))), M, 0, 0) := by
  cases hp : am_pl p with
  | false => simp [ae_X11_ownerAt_0, ae_X11_ownerAt_4, ae_X11_ownerAt_7, ae_X11_ownerAt_11, ae_X11_ownerAt_16, am_bnx_v, am_bnx_e, am_tl_s, am_tl_n, am_rv_s, am_add_rx, ac_isPlace, hp, am_bi_f, av_at]
  | true => simp [ae_X11_ownerAt_0, ae_X11_ownerAt_4, ae_X11_ownerAt_7, ae_X11_ownerAt_11, ae_X11_ownerAt_16, am_bnx_v, am_bnx_e, am_tl_s, am_tl_n, am_rv_s, am_add_rx, ac_isPlace, hp, am_bi_t, av_at, h, am_pl_in hp]
theorem ac_isAt {i j : Nat} {p : Int32} {M : am_M} (h : M.2.1 (am_c i 11) 0 = am_c j 16 + 1) : am_val iX11_isAt 0 [some (.ref (am_c i 11)), some (.int p)] [] M = some (.inl (some (.int (am_bi (decide (0 < av_at (M.1 (am_c j 16)) 0 p))))), M, 0, 0) := by
  by_cases hp : av_at (M.1 (am_c j 16)) 0 p ≤ 0
  · have hn : ¬ 0 < av_at (M.1 (am_c j 16)) 0 p := by rw [am_nlt]; exact hp
    simp [ae_X11_isAt_0, ae_X11_isAt_5, ae_X11_isAt_8, ae_X11_isAt_12, am_bnx_v, am_bnx_e, am_tl_s, am_tl_n, am_rv_s, am_add_rx, ac_heightAt h, hp, hn, am_bi]
  · have hn : 0 < av_at (M.1 (am_c j 16)) 0 p := by rw [am_nle] at hp; exact hp
    simp [ae_X11_isAt_0, ae_X11_isAt_5, ae_X11_isAt_8, ae_X11_isAt_12, am_bnx_v, am_bnx_e, am_tl_s, am_tl_n, am_rv_s, am_add_rx, ac_heightAt h, hp, hn, am_bi]
theorem ac_priceFor {i j k : Nat} {t p : Int32} {M : am_M} (h0 : M.2.1 (am_c i 11) 0 = am_c j 16 + 1) (h1 : M.2.1 (am_c i 11) 1 = am_c k 16 + 1) : am_val iX11_priceFor 0 [some (.ref (am_c i 11)), some (.int t), some (.int p), none] [] M =
    some (.inl (some (.int (if av_at (M.1 (am_c k 16)) (-1) p = t then 0 else if av_at (M.1 (am_c k 16)) (-1) p = -1 then av_at (M.1 (am_c j 16)) 0 p else 2 * av_at (M.1 (am_c j 16)) 0 p))), M, 0, 0) := by
  by_cases hp : av_at (M.1 (am_c k 16)) (-1) p = t
  · simp [ae_X11_priceFor_0, ae_X11_priceFor_5, ae_X11_priceFor_11, ae_X11_priceFor_13, ae_X11_priceFor_18, ae_X11_priceFor_23, ae_X11_priceFor_26, ae_X11_priceFor_32, am_bnx_v, am_bnx_e, am_tl_s, am_tl_n, am_rv_s, am_add_rx, ac_heightAt h0, ac_ownerAt h1, hp]
  · by_cases hq : av_at (M.1 (am_c k 16)) (-1) p = -1
    · simp [ae_X11_priceFor_0, ae_X11_priceFor_5, ae_X11_priceFor_11, ae_X11_priceFor_13, ae_X11_priceFor_18, ae_X11_priceFor_23, ae_X11_priceFor_26, ae_X11_priceFor_32, am_bnx_v, am_bnx_e, am_tl_s, am_tl_n, am_rv_s, am_add_rx, ac_heightAt h0, ac_ownerAt h1, hp, hq]
      rw [hq] at hp
      simp [hp]
    · simp [ae_X11_priceFor_0, ae_X11_priceFor_5, ae_X11_priceFor_11, ae_X11_priceFor_13, ae_X11_priceFor_18, ae_X11_priceFor_23, ae_X11_priceFor_26, ae_X11_priceFor_32, am_bnx_v, am_bnx_e, am_tl_s, am_tl_n, am_rv_s, am_add_rx, ac_heightAt h0, ac_ownerAt h1, hp, hq]
theorem ac_setHeight {i j k p : Nat} {x : Int32} {M : am_M} (hp : p < 16) (h0 : M.2.1 (am_c i 11) 0 = am_c j 16 + 1) (h1 : M.2.1 (am_c i 11) 1 = am_c k 16 + 1) : am_val iX11_setHeight 0 [some (.ref (am_c i 11)), some (.int (nI p)), some (.int x)] [] M =
    some (.inl none, (if x = 0 then av_i (av_i M (am_c j 16) p x) (am_c k 16) p (-1) else av_i M (am_c j 16) p x), 0, 0) := by
  by_cases hx : x = 0
  · simp [ae_X11_setHeight_0, ae_X11_setHeight_4, ae_X11_setHeight_7, ae_X11_setHeight_8, ae_X11_setHeight_12, ae_X11_setHeight_19, ae_X11_setHeight_23, ae_X11_setHeight_26, am_bnx_v, am_bnx_e, am_tl_s, am_tl_n, am_rv_s, am_add_rx, ac_isPlace, am_n_pl hp, am_bi_t, h0, h1, am_in_n hp, am_tn, show p < 2147483648 by omega, hx, av_i2]
  · simp [ae_X11_setHeight_0, ae_X11_setHeight_4, ae_X11_setHeight_7, ae_X11_setHeight_8, ae_X11_setHeight_12, ae_X11_setHeight_19, ae_X11_setHeight_23, ae_X11_setHeight_26, am_bnx_v, am_bnx_e, am_tl_s, am_tl_n, am_rv_s, am_add_rx, ac_isPlace, am_n_pl hp, am_bi_t, h0, h1, am_in_n hp, am_tn, show p < 2147483648 by omega, hx, av_i2]
theorem ac_setOwner {i k p : Nat} {x : Int32} {M : am_M} (hp : p < 16) (h1 : M.2.1 (am_c i 11) 1 = am_c k 16 + 1) : am_val iX11_setOwner 0 [some (.ref (am_c i 11)), some (.int (nI p)), some (.int x)] [] M = some (.inl none, av_i M (am_c k 16) p x, 0, 0) := by
  simp [ae_X11_setOwner_0, ae_X11_setOwner_4, ae_X11_setOwner_7, ae_X11_setOwner_11, ae_X11_setOwner_14, am_bnx_v, am_bnx_e, am_tl_s, am_tl_n, am_rv_s, am_add_rx, ac_isPlace, am_n_pl hp, am_bi_t, h1, am_in_n hp, am_tn, show p < 2147483648 by omega]
/-- loops -/
def am_it {β : Type} (g : Nat → β → β) : Nat → β → β
  | 0, x => x
  | n + 1, x => g n (am_it g n x)
theorem av_lpr {β : Type} {H : Nat → β → Option Value → am_T} {P : Nat → β → Prop} {N : Nat} {Q : am_T → Prop} (hend : ∀ x o, P N x → Q (H N x o)) (hstep : ∀ k x o, k < N → P k x → ∃ x' o', P (k + 1) x' ∧ H k x o = H (k + 1) x' o') : ∀ (m k : Nat) (x : β) (o : Option Value), k + m = N → P k x → Q (H k x o) := by
  intro m
  induction m with
  | zero =>
    intro k x o hk hP
    obtain rfl : k = N := by omega
    exact hend x o hP
  | succ m ih =>
    intro k x o hk hP
    obtain ⟨x', o', h1, h2⟩ := hstep k x o (by omega) hP
    rw [h2]
    exact ih (k + 1) x' o' (by omega) h1
theorem av_lp {β : Type} {H : Nat → β → Option Value → am_T} {g : Nat → β → β} {N : Nat} {r : β → am_T} (x : β) (o : Option Value) (hend : ∀ x o, H N x o = r x) (hstep : ∀ k x o, k < N → ∃ o', H k x o = H (k + 1) (g k x) o') : H 0 x o = r (am_it g N x) :=
  av_lpr (P := fun k y => y = am_it g k x) (Q := fun t => t = r (am_it g N x)) (fun y o h => by rw [hend, h]) (fun k y o hk h => by
    obtain ⟨o', h'⟩ := hstep k y o hk
    exact ⟨_, o', by rw [h]; rfl, h'⟩) N 0 x o (by omega) rfl
def am_cg (f : Nat → Bool) (k : Nat) (x : Int32) : Int32 := bif f k then x + 1 else x
def am_cnt (f : Nat → Bool) (n : Nat) : Int32 := am_it (am_cg f) n 0
def am_sg (f : Nat → Int32) (k : Nat) (x : Int32) : Int32 := x + f k
def av_sum (f : Nat → Int32) (n : Nat) : Int32 := am_it (am_sg f) n 0
theorem am_cg_t {f : Nat → Bool} {k : Nat} {x : Int32} (h : f k = true) : am_cg f k x = x + 1 := by unfold am_cg; rw [h]; rfl
theorem am_cg_f {f : Nat → Bool} {k : Nat} {x : Int32} (h : f k = false) : am_cg f k x = x := by unfold am_cg; rw [h]; rfl
theorem ac_count {i j : Nat} {M : am_M} (h0 : M.2.1 (am_c i 11) 0 = am_c j 16 + 1) : am_val iX11_count 0 [some (.ref (am_c i 11)), none, none, none, none, none] [] M = some (.inl (some (.int (am_cnt (fun p => decide (0 < M.1 (am_c j 16) p)) 16))), M, 0, 0) := by
  have hl := av_lp (H := fun k x o => am_val iX11_count 13 [some (.ref (am_c i 11)), some (.int x), some (.ref (am_c j 16)), some (.int 16), some (.int (nI k)), o] [] M) (g := am_cg (fun p => decide (0 < M.1 (am_c j 16) p))) (N := 16) (r := fun x => some (.inl (some (.int x)), M, 0, 0)) 0 none
    (fun x o => by
      rw [ae_X11_count_13, if_pos (show (16 : Int32) ≤ nI 16 by decide)]
      simp only [ae_X11_count_0, ae_X11_count_6, ae_X11_count_19, ae_X11_count_30, ae_X11_count_33, ae_X11_count_39])
    (fun k x o hk => by
      refine ⟨some (.int (M.1 (am_c j 16) k)), ?_⟩
      rw [ae_X11_count_13, if_neg (show ¬ (16 : Int32) ≤ nI k from nI_ge (b := 16) hk (by decide))]
      have hin := am_in_n hk (show 16 < 2147483648 by decide)
      have htn := am_tn (show k < 2147483648 by omega)
      by_cases hx : M.1 (am_c j 16) k ≤ 0
      · have hn : ¬ 0 < M.1 (am_c j 16) k := by rw [am_nlt]; exact hx
        rw [am_cg_f (by simp [hn])]
        simp only [ae_X11_count_0, ae_X11_count_6, ae_X11_count_19, ae_X11_count_30, ae_X11_count_33, ae_X11_count_39, hin, htn, hx, if_true, nI_1]
      · have hn : 0 < M.1 (am_c j 16) k := by rw [am_nle] at hx; exact hx
        rw [am_cg_t (by simp [hn])]
        simp only [ae_X11_count_0, ae_X11_count_6, ae_X11_count_19, ae_X11_count_30, ae_X11_count_33, ae_X11_count_39, hin, htn, hx, if_false, nI_1])
  simp only [nI_0] at hl
  simp only [ae_X11_count_0, ae_X11_count_6, ae_X11_count_19, ae_X11_count_30, ae_X11_count_33, ae_X11_count_39, am_bnx_v, am_bnx_e, am_tl_s, am_tl_n, am_rv_s, am_add_rx, h0, hl]
  rfl
theorem ac_countOf {i j : Nat} {t : Int32} {M : am_M} (h0 : M.2.1 (am_c i 11) 1 = am_c j 16 + 1) : am_val iX11_countOf 0 [some (.ref (am_c i 11)), some (.int t), none, none, none, none, none] [] M = some (.inl (some (.int (am_cnt (fun p => decide (M.1 (am_c j 16) p = t)) 16))), M, 0, 0) := by
  have hl := av_lp (H := fun k x o => am_val iX11_countOf 14 [some (.ref (am_c i 11)), some (.int t), some (.int x), some (.ref (am_c j 16)), some (.int 16), some (.int (nI k)), o] [] M) (g := am_cg (fun p => decide (M.1 (am_c j 16) p = t))) (N := 16) (r := fun x => some (.inl (some (.int x)), M, 0, 0)) 0 none
    (fun x o => by
      rw [ae_X11_countOf_14, if_pos (show (16 : Int32) ≤ nI 16 by decide)]
      simp only [ae_X11_countOf_0, ae_X11_countOf_6, ae_X11_countOf_21, ae_X11_countOf_33, ae_X11_countOf_36, ae_X11_countOf_42])
    (fun k x o hk => by
      refine ⟨some (.int (M.1 (am_c j 16) k)), ?_⟩
      rw [ae_X11_countOf_14, if_neg (show ¬ (16 : Int32) ≤ nI k from nI_ge (b := 16) hk (by decide))]
      have hin := am_in_n hk (show 16 < 2147483648 by decide)
      have htn := am_tn (show k < 2147483648 by omega)
      by_cases hx : M.1 (am_c j 16) k = t
      · rw [am_cg_t (by simp [hx])]
        simp only [ae_X11_countOf_0, ae_X11_countOf_6, ae_X11_countOf_21, ae_X11_countOf_33, ae_X11_countOf_36, ae_X11_countOf_42, hin, htn, hx, not_true, if_false, nI_1]
      · rw [am_cg_f (by simp [hx])]
        simp only [ae_X11_countOf_0, ae_X11_countOf_6, ae_X11_countOf_21, ae_X11_countOf_33, ae_X11_countOf_36, ae_X11_countOf_42, hin, htn, hx, not_false_iff, if_true, nI_1])
  simp only [nI_0] at hl
  simp only [ae_X11_countOf_0, ae_X11_countOf_6, ae_X11_countOf_21, ae_X11_countOf_33, ae_X11_countOf_36, ae_X11_countOf_42, am_bnx_v, am_bnx_e, am_tl_s, am_tl_n, am_rv_s, am_add_rx, h0, hl]
  rfl
theorem ac_heightsOf {i j j' : Nat} {t : Int32} {M : am_M} (h0 : M.2.1 (am_c i 11) 0 = am_c j' 16 + 1) (h1 : M.2.1 (am_c i 11) 1 = am_c j 16 + 1) : am_val iX11_heightsOf 0 [some (.ref (am_c i 11)), some (.int t), none, none] [] M = some (.inl (some (.int (am_it (fun k x => if M.1 (am_c j 16) k = t then x + M.1 (am_c j' 16) k else x) 16 0))), M, 0, 0) := by
  have hl := av_lp (H := fun k x _ => am_val iX11_heightsOf 4 [some (.ref (am_c i 11)), some (.int t), some (.int x), some (.int (nI k))] [] M) (g := fun k x => if M.1 (am_c j 16) k = t then x + M.1 (am_c j' 16) k else x) (N := 16) (r := fun x => some (.inl (some (.int x)), M, 0, 0)) 0 none
    (fun x o => by
      rw [ae_X11_heightsOf_4, if_pos (show (16 : Int32) ≤ nI 16 by decide)]
      simp only [ae_X11_heightsOf_0, ae_X11_heightsOf_10, ae_X11_heightsOf_14, ae_X11_heightsOf_20, ae_X11_heightsOf_25, ae_X11_heightsOf_29, ae_X11_heightsOf_35])
    (fun k x o hk => by
      refine ⟨none, ?_⟩
      rw [ae_X11_heightsOf_4, if_neg (show ¬ (16 : Int32) ≤ nI k from nI_ge (b := 16) hk (by decide))]
      have hin := am_in_n hk (show 16 < 2147483648 by decide)
      have htn := am_tn (show k < 2147483648 by omega)
      by_cases hx : M.1 (am_c j 16) k = t
      · simp only [ae_X11_heightsOf_0, ae_X11_heightsOf_10, ae_X11_heightsOf_14, ae_X11_heightsOf_20, ae_X11_heightsOf_25, ae_X11_heightsOf_29, ae_X11_heightsOf_35, am_bnx_v, am_bnx_e, am_tl_s, am_tl_n, am_rv_s, am_add_rx, h0, h1, hin, htn, hx, not_true, if_false, if_true, nI_1]
      · simp only [ae_X11_heightsOf_0, ae_X11_heightsOf_10, ae_X11_heightsOf_14, ae_X11_heightsOf_20, ae_X11_heightsOf_25, ae_X11_heightsOf_29, ae_X11_heightsOf_35, am_bnx_v, am_bnx_e, am_tl_s, am_tl_n, am_rv_s, am_add_rx, h0, h1, hin, htn, hx, not_false_iff, if_true, if_false, nI_1])
  simp only [nI_0] at hl
  simp only [ae_X11_heightsOf_0, ae_X11_heightsOf_10, ae_X11_heightsOf_14, ae_X11_heightsOf_20, ae_X11_heightsOf_25, ae_X11_heightsOf_29, ae_X11_heightsOf_35, hl]
theorem ac_wtake {i i' a b a' b' : Nat} {M : am_M} (h0 : M.2.1 (am_c i 11) 0 = am_c a 16 + 1) (h1 : M.2.1 (am_c i 11) 1 = am_c b 16 + 1) (h2 : M.2.1 (am_c i' 11) 0 = am_c a' 16 + 1) (h3 : M.2.1 (am_c i' 11) 1 = am_c b' 16 + 1) :
    am_val iX11_take 0 [some (.ref (am_c i 11)), some (.ref (am_c (i') 11))] [] M = some (.inl none, av_c (av_c M (am_c a' 16) (am_c a 16) 16) (am_c b' 16) (am_c b 16) 16, 0, 0) := by
  simp only [ae_X11_take_0, ae_X11_take_4, ae_X11_take_9, ae_X11_take_19, ae_X11_take_24, am_bnx_v, am_bnx_e, am_tl_s, am_tl_n, am_rv_s, am_add_rx, h0, h1, h2, h3, av_c2]
/-! teams -/
theorem ac_pointsOf {i j : Nat} {p : Int32} {M : am_M} (h : M.2.1 (am_c i 9) 0 = am_c j 17 + 1) : am_val iX9_pointsOf 0 [some (.ref (am_c i 9)), some (.int p)] [] M = some (.inl (some (.int (av_tt (M.1 (am_c j 17)) p))), M, 0, 0) := by
  cases hp : am_tm p with
  | false => simp [ae_X9_pointsOf_0, ae_X9_pointsOf_4, ae_X9_pointsOf_7, ae_X9_pointsOf_11, ae_X9_pointsOf_16, am_bnx_v, am_bnx_e, am_tl_s, am_tl_n, am_rv_s, am_add_rx, ac_isTeam, hp, am_bi_f, av_tt]
  | true => simp [ae_X9_pointsOf_0, ae_X9_pointsOf_4, ae_X9_pointsOf_7, ae_X9_pointsOf_11, ae_X9_pointsOf_16, am_bnx_v, am_bnx_e, am_tl_s, am_tl_n, am_rv_s, am_add_rx, ac_isTeam, hp, am_bi_t, av_tt, h, am_tm_in hp]
theorem ac_catchesOf {i j : Nat} {p : Int32} {M : am_M} (h : M.2.1 (am_c i 9) 1 = am_c j 17 + 1) : am_val iX9_catchesOf 0 [some (.ref (am_c i 9)), some (.int p)] [] M = some (.inl (some (.int (av_tt (M.1 (am_c j 17)) p))), M, 0, 0) := by
  cases hp : am_tm p with
  | false => simp [ae_X9_catchesOf_0, ae_X9_catchesOf_4, ae_X9_catchesOf_7, ae_X9_catchesOf_11, ae_X9_catchesOf_16, am_bnx_v, am_bnx_e, am_tl_s, am_tl_n, am_rv_s, am_add_rx, ac_isTeam, hp, am_bi_f, av_tt]
  | true => simp [ae_X9_catchesOf_0, ae_X9_catchesOf_4, ae_X9_catchesOf_7, ae_X9_catchesOf_11, ae_X9_catchesOf_16, am_bnx_v, am_bnx_e, am_tl_s, am_tl_n, am_rv_s, am_add_rx, ac_isTeam, hp, am_bi_t, av_tt, h, am_tm_in hp]
theorem ac_interceptionsOf {i j : Nat} {p : Int32} {M : am_M} (h : M.2.1 (am_c i 9) 2 = am_c j 17 + 1) : am_val iX9_interceptionsOf 0 [some (.ref (am_c i 9)), some (.int p)] [] M = some (.inl (some (.int (av_tt (M.1 (am_c j 17)) p))), M, 0, 0) := by
  cases hp : am_tm p with
  | false => simp [ae_X9_interceptionsOf_0, ae_X9_interceptionsOf_4, ae_X9_interceptionsOf_7, ae_X9_interceptionsOf_11, ae_X9_interceptionsOf_16, am_bnx_v, am_bnx_e, am_tl_s, am_tl_n, am_rv_s, am_add_rx, ac_isTeam, hp, am_bi_f, av_tt]
  | true => simp [ae_X9_interceptionsOf_0, ae_X9_interceptionsOf_4, ae_X9_interceptionsOf_7, ae_X9_interceptionsOf_11, ae_X9_interceptionsOf_16, am_bnx_v, am_bnx_e, am_tl_s, am_tl_n, am_rv_s, am_add_rx, ac_isTeam, hp, am_bi_t, av_tt, h, am_tm_in hp]
theorem ac_pointsOfAll {i j : Nat} {M : am_M} (h0 : M.2.1 (am_c i 9) 0 = am_c j 17 + 1) : am_val iX9_pointsOfAll 0 [some (.ref (am_c i 9)), none, none, none, none, none] [] M = some (.inl (some (.int (av_sum (M.1 (am_c j 17)) 3))), M, 0, 0) := by
  have hl := av_lp (H := fun k x o => am_val iX9_pointsOfAll 13 [some (.ref (am_c i 9)), some (.int x), some (.ref (am_c j 17)), some (.int 3), some (.int (nI k)), o] [] M) (g := am_sg (M.1 (am_c j 17))) (N := 3) (r := fun x => some (.inl (some (.int x)), M, 0, 0)) 0 none
    (fun x o => by
      rw [ae_X9_pointsOfAll_13, if_pos (show (3 : Int32) ≤ nI 3 by decide)]
      simp only [ae_X9_pointsOfAll_0, ae_X9_pointsOfAll_6, ae_X9_pointsOfAll_19, ae_X9_pointsOfAll_36])
    (fun k x o hk => by
      refine ⟨some (.int (M.1 (am_c j 17) k)), ?_⟩
      rw [ae_X9_pointsOfAll_13, if_neg (show ¬ (3 : Int32) ≤ nI k from nI_ge (b := 3) hk (by decide))]
      have hin := am_in_n hk (show 3 < 2147483648 by decide)
      have htn := am_tn (show k < 2147483648 by omega)
      simp only [ae_X9_pointsOfAll_0, ae_X9_pointsOfAll_6, ae_X9_pointsOfAll_19, ae_X9_pointsOfAll_36, hin, htn, nI_1, am_sg])
  simp only [nI_0] at hl
  simp only [ae_X9_pointsOfAll_0, ae_X9_pointsOfAll_6, ae_X9_pointsOfAll_19, ae_X9_pointsOfAll_36, am_bnx_v, am_bnx_e, am_tl_s, am_tl_n, am_rv_s, am_add_rx, h0, hl]
  rfl
theorem ac_addPoints {i j t : Nat} {x : Int32} {M : am_M} (ht : t < 3) (h : M.2.1 (am_c i 9) 0 = am_c j 17 + 1) : am_val iX9_addPoints 0 [some (.ref (am_c i 9)), some (.int (nI t)), some (.int x)] [] M = some (.inl none, av_i M (am_c j 17) t (M.1 (am_c j 17) t + x), 0, 0) := by
  simp [ae_X9_addPoints_0, ae_X9_addPoints_4, ae_X9_addPoints_7, ae_X9_addPoints_11, ae_X9_addPoints_17, am_bnx_v, am_bnx_e, am_tl_s, am_tl_n, am_rv_s, am_add_rx, ac_isTeam, am_n_tm ht, am_bi_t, h, am_in_n ht, am_tn, show t < 2147483648 by omega]
theorem ac_countCatch {i j k t : Nat} {b : Bool} {M : am_M} (ht : t < 3) (h : M.2.1 (am_c i 9) 1 = am_c j 17 + 1) (h2 : M.2.1 (am_c i 9) 2 = am_c k 17 + 1) (hjk : ¬ k = j) : am_val iX9_countCatch 0 [some (.ref (am_c i 9)), some (.int (nI t)), some (.int (am_bi b))] [] M =
    some (.inl none, (bif b then av_i (av_i M (am_c j 17) t (M.1 (am_c j 17) t + 1)) (am_c k 17) t (M.1 (am_c k 17) t + 1) else av_i M (am_c j 17) t (M.1 (am_c j 17) t + 1)), 0, 0) := by
  have hc : ¬ am_c k 17 = am_c j 17 := am_c_ne (by decide) (by decide) (fun h => hjk h.1)
  cases b <;> simp [ae_X9_countCatch_0, ae_X9_countCatch_4, ae_X9_countCatch_7, ae_X9_countCatch_8, ae_X9_countCatch_12, ae_X9_countCatch_22, ae_X9_countCatch_26, ae_X9_countCatch_32, am_bnx_v, am_bnx_e, am_tl_s, am_tl_n, am_rv_s, am_add_rx, ac_isTeam, am_n_tm ht, am_bi_t, am_bi_f, h, h2, am_in_n ht, am_tn, show t < 2147483648 by omega, av_i1, av_i2, am_up_a hc]
theorem ac_ttake {i i' a b c a' b' c' : Nat} {M : am_M} (h0 : M.2.1 (am_c i 9) 0 = am_c a 17 + 1) (h1 : M.2.1 (am_c i 9) 1 = am_c b 17 + 1) (h2 : M.2.1 (am_c i 9) 2 = am_c c 17 + 1) (h3 : M.2.1 (am_c i' 9) 0 = am_c a' 17 + 1) (h4 : M.2.1 (am_c i' 9) 1 = am_c b' 17 + 1) (h5 : M.2.1 (am_c i' 9) 2 = am_c c' 17 + 1) :
    am_val iX9_take 0 [some (.ref (am_c i 9)), some (.ref (am_c (i') 9))] [] M = some (.inl none, av_c (av_c (av_c M (am_c a' 17) (am_c a 17) 3) (am_c b' 17) (am_c b 17) 3) (am_c c' 17) (am_c c 17) 3, 0, 0) := by
  simp only [ae_X9_take_0, ae_X9_take_4, ae_X9_take_9, ae_X9_take_18, ae_X9_take_23, ae_X9_take_32, ae_X9_take_37, am_bnx_v, am_bnx_e, am_tl_s, am_tl_n, am_rv_s, am_add_rx, h0, h1, h2, h3, h4, h5, av_c2]
/-! the refusal -/
theorem ac_tell {i : Nat} {x y : Int32} {M : am_M} : am_val iX7_tell 0 [some (.ref (am_c i 7)), some (.int x), some (.int y)] [] M = some (.inl (some (.int 1)), av_i (av_i (av_i M (am_c i 7) 0 x) (am_c i 7) 1 y) (am_c i 7) 2 0, 0, 0) := by
  simp only [ae_X7_tell_0]
/-! players -/
theorem ac_pstart {i : Nat} {x y : Int32} {M : am_M} : am_val iX6_start 0 [some (.ref (am_c i 6)), some (.int x), some (.int y)] [] M = some (.inl none, av_i (av_i (av_i (av_i (av_i M (am_c i 6) 0 x) (am_c i 6) 1 y) (am_c i 6) 2 0) (am_c i 6) 3 0) (am_c i 6) 4 0, 0, 0) := by
  simp only [ae_X6_start_0]
/-! sounds -/
def av_mk (p l b t d : Int32) (w : Nat) : Int32 := match w with
  | 0 => p
  | 1 => l
  | 2 => b
  | 3 => t
  | _ => d
/-- a sound's room: what it holds -/
def am_rs (I : Nat → Nat → Int32) (i : Nat) (s : Nat → Int32) : Prop := I (am_c i 8) 0 = s 0 ∧ I (am_c i 8) 2 = s 1 ∧ I (am_c i 8) 3 = s 2 ∧ I (am_c i 8) 4 = s 3 ∧ I (am_c i 8) 1 = s 4
def av_ah (s : Nat → Int32) : Int32 := if s 4 = 0 then s 0 - 1 else s 0 + 1
def av_ls (w d : Int32) : Int32 := if 1 < (if d = 0 then 2 + w else 2 - w) then (if d = 0 then 2 + w else 2 - w) else 1
/-- a sound goes on -/
def av_adv (hf : Int32 → Int32) (w : Int32) (s : Nat → Int32) : Nat → Int32 :=
  if s 1 - av_ls w (s 4) ≤ 0 then av_mk (s 0) 0 (s 2) (s 3) (s 4) else
  if am_pl (av_ah s) = false then av_mk (s 0) 0 (s 2) (s 3) (s 4) else
  if hf (av_ah s) ≤ 0 then av_mk (av_ah s) (s 1 - av_ls w (s 4) - hf (av_ah s)) (s 2) (s 3) (s 4) else
  if hf (av_ah s) < (s 1 - av_ls w (s 4)) / 3 then av_mk (av_ah s) (s 1 - av_ls w (s 4) - hf (av_ah s)) (s 2) (s 3) (s 4) else
  av_mk (s 0) (s 1 - av_ls w (s 4)) (s 2) (s 3 + 1) (if s 4 = 0 then 1 else 0)
theorem ac_lossIn {i : Nat} {w : Int32} {M : am_M} : am_val iX8_lossIn 0 [some (.ref (am_c i 8)), some (.int w)] [] M = some (.inl (some (.int (av_ls w (M.1 (am_c i 8) 1)))), M, 0, 0) := by
  by_cases h : M.1 (am_c i 8) 1 = 0 <;> simp [ae_X8_lossIn_0, ae_X8_lossIn_8, ae_X8_lossIn_14, am_bnx_v, am_bnx_e, am_tl_s, am_tl_n, am_rv_s, am_add_rx, h, av_ls]
theorem ac_placeAhead {i : Nat} {M : am_M} : am_val iX8_placeAhead 0 [some (.ref (am_c i 8))] [] M = some (.inl (some (.int (if M.1 (am_c i 8) 1 = 0 then M.1 (am_c i 8) 0 - 1 else M.1 (am_c i 8) 0 + 1))), M, 0, 0) := by
  by_cases h : M.1 (am_c i 8) 1 = 0 <;> simp [ae_X8_placeAhead_0, ae_X8_placeAhead_7, ae_X8_placeAhead_16, am_bnx_v, am_bnx_e, am_tl_s, am_tl_n, am_rv_s, am_add_rx, h]
theorem ac_isGone {i : Nat} {M : am_M} : am_val iX8_isGone 0 [some (.ref (am_c i 8))] [] M = some (.inl (some (.int (am_bi (decide (M.1 (am_c i 8) 2 = 0))))), M, 0, 0) := by
  by_cases h : M.1 (am_c i 8) 2 = 0 <;> simp [ae_X8_isGone_0, ae_X8_isGone_7, ae_X8_isGone_11, am_bnx_v, am_bnx_e, am_tl_s, am_tl_n, am_rv_s, am_add_rx, h, am_bi]
theorem ac_wasThrownBack {i : Nat} {M : am_M} : am_val iX8_wasThrownBack 0 [some (.ref (am_c i 8))] [] M = some (.inl (some (.int (am_bi (decide (0 < M.1 (am_c i 8) 4))))), M, 0, 0) := by
  by_cases h : M.1 (am_c i 8) 4 ≤ 0
  · have hn : ¬ 0 < M.1 (am_c i 8) 4 := by rw [am_nlt]; exact h
    simp [ae_X8_wasThrownBack_0, ae_X8_wasThrownBack_7, ae_X8_wasThrownBack_11, am_bnx_v, am_bnx_e, am_tl_s, am_tl_n, am_rv_s, am_add_rx, h, hn, am_bi]
  · have hn : 0 < M.1 (am_c i 8) 4 := by rw [am_nle] at h; exact h
    simp [ae_X8_wasThrownBack_0, ae_X8_wasThrownBack_7, ae_X8_wasThrownBack_11, am_bnx_v, am_bnx_e, am_tl_s, am_tl_n, am_rv_s, am_add_rx, h, hn, am_bi]
def av_ec (s : Nat → Int32) (p : Int32) : Bool := !decide (s 1 = 0) && decide (0 < s 3) && decide (s 0 = p)
theorem ac_isEchoAt {i : Nat} {p : Int32} {s : Nat → Int32} {M : am_M} (h : am_rs M.1 i s) : am_val iX8_isEchoAt 0 [some (.ref (am_c i 8)), some (.int p)] [] M = some (.inl (some (.int (am_bi (av_ec s p)))), M, 0, 0) := by
  obtain ⟨h0, h1, h2, h3, h4⟩ := h
  by_cases a : s 1 = 0
  · simp [ae_X8_isEchoAt_0, ae_X8_isEchoAt_4, ae_X8_isEchoAt_7, ae_X8_isEchoAt_11, ae_X8_isEchoAt_14, ae_X8_isEchoAt_22, ae_X8_isEchoAt_26, am_bnx_v, am_bnx_e, am_tl_s, am_tl_n, am_rv_s, am_add_rx, ac_isGone, ac_wasThrownBack, h0, h1, h3, a, am_bi, av_ec]
  · by_cases b : 0 < s 3
    · by_cases c : s 0 = p <;> simp [ae_X8_isEchoAt_0, ae_X8_isEchoAt_4, ae_X8_isEchoAt_7, ae_X8_isEchoAt_11, ae_X8_isEchoAt_14, ae_X8_isEchoAt_22, ae_X8_isEchoAt_26, am_bnx_v, am_bnx_e, am_tl_s, am_tl_n, am_rv_s, am_add_rx, ac_isGone, ac_wasThrownBack, h0, h1, h3, a, b, c, am_bi, av_ec]
    · simp [ae_X8_isEchoAt_0, ae_X8_isEchoAt_4, ae_X8_isEchoAt_7, ae_X8_isEchoAt_11, ae_X8_isEchoAt_14, ae_X8_isEchoAt_22, ae_X8_isEchoAt_26, am_bnx_v, am_bnx_e, am_tl_s, am_tl_n, am_rv_s, am_add_rx, ac_isGone, ac_wasThrownBack, h0, h1, h3, a, b, am_bi, av_ec]
theorem ac_sstart {i : Nat} {p l b : Int32} {d : Int32} {M : am_M} (hd : d = 0 ∨ d = 1) : am_val iX8_start 0 [some (.ref (am_c i 8)), some (.int p), some (.int d), some (.int l), some (.int b)] [] M = some (.inl none, av_i (av_i (av_i (av_i (av_i M (am_c i 8) 0 p) (am_c i 8) 1 d) (am_c i 8) 2 l) (am_c i 8) 3 b) (am_c i 8) 4 0, 0, 0) := by
  simp only [ae_X8_start_0, hd]
theorem ac_goOn {i a b : Nat} {w : Int32} {s : Nat → Int32} {M : am_M} (h : am_rs M.1 i s) (h0 : M.2.1 (am_c a 11) 0 = am_c b 16 + 1) : ∃ I, am_val iX8_goOn 0 [some (.ref (am_c i 8)), some (.ref (am_c a 11)), some (.int w), none, none, none] [] M = some (.inl none, (I, M.2), 0, 0) ∧
    am_rs I i (av_adv (av_at (M.1 (am_c b 16)) 0) w s) ∧ ∀ c j, ¬ c = am_c i 8 → I c j = M.1 c j := by
  obtain ⟨r0, r1, r2, r3, r4⟩ := h
  have hb : ¬ am_c b 16 = am_c i 8 := am_c_ne (by decide) (by decide) (by omega)
  have fr : ∀ (M : am_M) (j : Nat) (x : Int32) (c k : Nat), ¬ c = am_c i 8 → (av_i M (am_c i 8) j x).1 c k = M.1 c k := fun M j x c k hc => am_up_a hc
  have sm : ∀ (M : am_M) (j : Nat) (x : Int32), (av_i M (am_c i 8) j x).1 (am_c i 8) j = x := fun M j x => am_up_s
  have df : ∀ (M : am_M) (j : Nat) (x : Int32) (k : Nat), ¬ k = j → (av_i M (am_c i 8) j x).1 (am_c i 8) k = M.1 (am_c i 8) k := fun M j x k hk => am_up_k hk
  have hah : (if M.1 (am_c i 8) 1 = 0 then M.1 (am_c i 8) 0 - 1 else M.1 (am_c i 8) 0 + 1) = av_ah s := by rw [r4, r0]; rfl
  have hpa : am_val iX8_placeAhead 0 [some (.ref (am_c i 8))] [] M = some (.inl (some (.int (av_ah s))), M, 0, 0) := by rw [ac_placeAhead, hah]
  have hls : am_val iX8_lossIn 0 [some (.ref (am_c i 8)), some (.int w)] [] M = some (.inl (some (.int (av_ls w (s 4)))), M, 0, 0) := by rw [ac_lossIn, r4]
  by_cases c1 : s 1 - av_ls w (s 4) ≤ 0
  · refine ⟨(av_i M (am_c i 8) 2 0).1, ?_, ?_, fun c j hc => fr _ _ _ _ _ hc⟩
    · simp only [ae_X8_goOn_0, ae_X8_goOn_4, ae_X8_goOn_14, ae_X8_goOn_22, ae_X8_goOn_26, ae_X8_goOn_29, ae_X8_goOn_35, ae_X8_goOn_40, ae_X8_goOn_47, ae_X8_goOn_56, ae_X8_goOn_70, ae_X8_goOn_74, ae_X8_goOn_91, am_bnx_v, am_bnx_e, am_tl_s, am_tl_n, am_rv_s, am_add_rx, hpa, hls, r1, c1, if_true]
      rfl
    · unfold av_adv
      rw [if_pos c1]
      simp [am_rs, av_mk, sm, df, r0, r2, r3, r4]
  · cases c2 : am_pl (av_ah s) with
    | false =>
      refine ⟨(av_i M (am_c i 8) 2 0).1, ?_, ?_, fun c j hc => fr _ _ _ _ _ hc⟩
      · simp only [ae_X8_goOn_0, ae_X8_goOn_4, ae_X8_goOn_14, ae_X8_goOn_22, ae_X8_goOn_26, ae_X8_goOn_29, ae_X8_goOn_35, ae_X8_goOn_40, ae_X8_goOn_47, ae_X8_goOn_56, ae_X8_goOn_70, ae_X8_goOn_74, ae_X8_goOn_91, am_bnx_v, am_bnx_e, am_tl_s, am_tl_n, am_rv_s, am_add_rx, hpa, hls, ac_isPlace, r1, c1, c2, am_bi_f, if_false, not_true]
        rfl
      · unfold av_adv
        rw [if_neg c1, if_pos c2]
        simp [am_rs, av_mk, sm, df, r0, r2, r3, r4]
    | true =>
      by_cases c3 : av_at (M.1 (am_c b 16)) 0 (av_ah s) ≤ 0
      · refine ⟨(av_i (av_i M (am_c i 8) 2 (s 1 - av_ls w (s 4) - av_at (M.1 (am_c b 16)) 0 (av_ah s))) (am_c i 8) 0 (av_ah s)).1, ?_, ?_, fun c j hc => by rw [fr _ _ _ _ _ hc, fr _ _ _ _ _ hc]⟩
        · simp [ae_X8_goOn_0, ae_X8_goOn_4, ae_X8_goOn_14, ae_X8_goOn_22, ae_X8_goOn_26, ae_X8_goOn_29, ae_X8_goOn_35, ae_X8_goOn_40, ae_X8_goOn_47, ae_X8_goOn_56, ae_X8_goOn_70, ae_X8_goOn_74, ae_X8_goOn_91, am_bnx_v, am_bnx_e, am_tl_s, am_tl_n, am_rv_s, am_add_rx, hpa, hls, ac_isPlace, ac_heightAt h0, r1, c1, c2, c3, am_bi_t]
          rfl
        · unfold av_adv
          rw [if_neg c1, if_neg (show ¬ am_pl (av_ah s) = false by rw [c2]; decide), if_pos c3]
          simp [am_rs, av_mk, sm, df, r0, r2, r3, r4]
      · by_cases c4 : av_at (M.1 (am_c b 16)) 0 (av_ah s) < (s 1 - av_ls w (s 4)) / 3
        · refine ⟨(av_i (av_i M (am_c i 8) 2 (s 1 - av_ls w (s 4) - av_at (M.1 (am_c b 16)) 0 (av_ah s))) (am_c i 8) 0 (av_ah s)).1, ?_, ?_, fun c j hc => by rw [fr _ _ _ _ _ hc, fr _ _ _ _ _ hc]⟩
          · simp [ae_X8_goOn_0, ae_X8_goOn_4, ae_X8_goOn_14, ae_X8_goOn_22, ae_X8_goOn_26, ae_X8_goOn_29, ae_X8_goOn_35, ae_X8_goOn_40, ae_X8_goOn_47, ae_X8_goOn_56, ae_X8_goOn_70, ae_X8_goOn_74, ae_X8_goOn_91, am_bnx_v, am_bnx_e, am_tl_s, am_tl_n, am_rv_s, am_add_rx, hpa, hls, ac_isPlace, ac_heightAt h0, r1, c1, c2, c3, c4, am_bi_t]
            rfl
          · unfold av_adv
            rw [if_neg c1, if_neg (show ¬ am_pl (av_ah s) = false by rw [c2]; decide), if_neg c3, if_pos c4]
            simp [am_rs, av_mk, sm, df, r0, r2, r3, r4]
        · refine ⟨(av_i (av_i (av_i M (am_c i 8) 2 (s 1 - av_ls w (s 4))) (am_c i 8) 1 (if s 4 = 0 then 1 else 0)) (am_c i 8) 4 (s 3 + 1)).1, ?_, ?_, fun c j hc => by rw [fr _ _ _ _ _ hc, fr _ _ _ _ _ hc, fr _ _ _ _ _ hc]⟩
          · have e1 : (av_i M (am_c i 8) 2 (s 1 - av_ls w (s 4))).1 (am_c i 8) 1 = s 4 := by rw [df _ _ _ _ (by decide), r4]
            have e2 : ∀ x, (av_i (av_i M (am_c i 8) 2 (s 1 - av_ls w (s 4))) (am_c i 8) 1 x).1 (am_c i 8) 4 = s 3 := fun x => by rw [df _ _ _ _ (by decide), df _ _ _ _ (by decide), r3]
            simp only [ae_X8_goOn_0, ae_X8_goOn_4, ae_X8_goOn_14, ae_X8_goOn_22, ae_X8_goOn_26, ae_X8_goOn_29, ae_X8_goOn_35, ae_X8_goOn_40, ae_X8_goOn_47, ae_X8_goOn_56, ae_X8_goOn_70, ae_X8_goOn_74, ae_X8_goOn_91, am_bnx_v, am_bnx_e, am_tl_s, am_tl_n, am_rv_s, am_add_rx, hpa, hls, ac_isPlace, ac_heightAt h0, r1, c1, c2, c3, c4, am_bi_t, e1, e2, if_false, if_true, show ¬ (1 : Int32) = 0 by decide, not_false_iff]
            by_cases c5 : s 4 = 0
            · simp only [c5, not_true, if_false, if_true]
              rfl
            · simp only [c5, not_false_iff, if_true, if_false]
              rfl
          · unfold av_adv
            rw [if_neg c1, if_neg (show ¬ am_pl (av_ah s) = false by rw [c2]; decide), if_neg c3, if_neg c4]
            simp [am_rs, av_mk, sm, df, r0, r2, r3, r4]
