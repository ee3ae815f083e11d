/-! what is refused -/
def av_hf (σ : Nat → Int32) (p : Int32) : Int32 := av_at (fun k => σ (18 + 2 * k)) 0 p
def av_of (σ : Nat → Int32) (p : Int32) : Int32 := av_at (fun k => σ (19 + 2 * k)) (-1) p
def av_pt (σ : Nat → Int32) (t : Int32) : Int32 := av_tt (fun k => σ (9 + 3 * k)) t
def av_price (σ : Nat → Int32) (t p : Int32) : Int32 := if av_of σ p = t then 0 else if av_of σ p = -1 then av_hf σ p else 2 * av_hf σ p
theorem av_at_c {f g : Nat → Int32} {d p : Int32} (h : ∀ k, k < 16 → f k = g k) : av_at f d p = av_at g d p := by
  unfold av_at
  cases hp : am_pl p with
  | false => rfl
  | true =>
    obtain ⟨k, hk, rfl⟩ := am_pl_n hp
    rw [am_tn (by omega)]
    exact h k hk
theorem av_tt_c {f g : Nat → Int32} {p : Int32} (h : ∀ k, k < 3 → f k = g k) : av_tt f p = av_tt g p := by
  unfold av_tt
  cases hp : am_tm p with
  | false => rfl
  | true =>
    obtain ⟨k, hk, rfl⟩ := am_tm_n hp
    rw [am_tn (by omega)]
    exact h k hk
theorem am_it_c {β : Type} {g g' : Nat → β → β} {x : β} : ∀ {n : Nat}, (∀ k y, k < n → g k y = g' k y) → am_it g n x = am_it g' n x := by
  intro n
  induction n with
  | zero => intro _; rfl
  | succ n ih =>
    intro h
    show g n (am_it g n x) = g' n (am_it g' n x)
    rw [ih (fun k y hk => h k y (by omega)), h n _ (by omega)]
theorem am_cnt_c {f g : Nat → Bool} {n : Nat} (h : ∀ k, k < n → f k = g k) : am_cnt f n = am_cnt g n := am_it_c (fun k y hk => by unfold am_cg; rw [h k hk])
theorem av_sum_c {f g : Nat → Int32} {n : Nat} (h : ∀ k, k < n → f k = g k) : av_sum f n = av_sum g n := am_it_c (fun k y hk => by unfold am_sg; rw [h k hk])
theorem ac_bheight {B : Nat} {rm : Nat → Nat} {σ : Nat → Int32} {L : List (Nat → Int32)} {p : Int32} {M : am_M} (hC : av_C M B rm σ L) : am_val iX11_heightAt 0 [some (.ref (am_c (B + 1) 11)), some (.int p)] [] M = some (.inl (some (.int (av_hf σ p))), M, 0, 0) := by
  obtain ⟨⟨⟨w0, w1, w2, w3, w4, w5, w6, w7, w8, w9⟩, hrm, hpr⟩, ⟨hnp, hs0, hln, hct⟩, hW, hT, hN, hP, hS, hB⟩ := hC
  rw [ac_heightAt w4, av_at_c (fun k hk => (hW k hk).1)]
  rfl
theorem ac_bowner {B : Nat} {rm : Nat → Nat} {σ : Nat → Int32} {L : List (Nat → Int32)} {p : Int32} {M : am_M} (hC : av_C M B rm σ L) : am_val iX11_ownerAt 0 [some (.ref (am_c (B + 1) 11)), some (.int p)] [] M = some (.inl (some (.int (av_of σ p))), M, 0, 0) := by
  obtain ⟨⟨⟨w0, w1, w2, w3, w4, w5, w6, w7, w8, w9⟩, hrm, hpr⟩, ⟨hnp, hs0, hln, hct⟩, hW, hT, hN, hP, hS, hB⟩ := hC
  rw [ac_ownerAt w5, av_at_c (fun k hk => (hW k hk).2)]
  rfl
theorem ac_bisAt {B : Nat} {rm : Nat → Nat} {σ : Nat → Int32} {L : List (Nat → Int32)} {p : Int32} {M : am_M} (hC : av_C M B rm σ L) : am_val iX11_isAt 0 [some (.ref (am_c (B + 1) 11)), some (.int p)] [] M = some (.inl (some (.int (am_bi (decide (0 < av_hf σ p))))), M, 0, 0) := by
  obtain ⟨⟨⟨w0, w1, w2, w3, w4, w5, w6, w7, w8, w9⟩, hrm, hpr⟩, ⟨hnp, hs0, hln, hct⟩, hW, hT, hN, hP, hS, hB⟩ := hC
  rw [ac_isAt w4, av_at_c (fun k hk => (hW k hk).1)]
  rfl
theorem ac_bprice {B : Nat} {rm : Nat → Nat} {σ : Nat → Int32} {L : List (Nat → Int32)} {t p : Int32} {M : am_M} (hC : av_C M B rm σ L) : am_val iX11_priceFor 0 [some (.ref (am_c (B + 1) 11)), some (.int t), some (.int p), none] [] M = some (.inl (some (.int (av_price σ t p))), M, 0, 0) := by
  obtain ⟨⟨⟨w0, w1, w2, w3, w4, w5, w6, w7, w8, w9⟩, hrm, hpr⟩, ⟨hnp, hs0, hln, hct⟩, hW, hT, hN, hP, hS, hB⟩ := hC
  rw [ac_priceFor w4 w5, av_at_c (fun k hk => (hW k hk).1), av_at_c (fun k hk => (hW k hk).2)]
  rfl
theorem ac_bcount {B : Nat} {rm : Nat → Nat} {σ : Nat → Int32} {L : List (Nat → Int32)}  {M : am_M} (hC : av_C M B rm σ L) : am_val iX11_count 0 [some (.ref (am_c (B + 1) 11)), none, none, none, none, none] [] M = some (.inl (some (.int (am_cnt (fun p => decide (0 < σ (18 + 2 * p))) 16))), M, 0, 0) := by
  obtain ⟨⟨⟨w0, w1, w2, w3, w4, w5, w6, w7, w8, w9⟩, hrm, hpr⟩, ⟨hnp, hs0, hln, hct⟩, hW, hT, hN, hP, hS, hB⟩ := hC
  rw [ac_count w4, am_cnt_c (fun k hk => by rw [(hW k hk).1])]
theorem ac_bcountOf {B : Nat} {rm : Nat → Nat} {σ : Nat → Int32} {L : List (Nat → Int32)} {t : Int32} {M : am_M} (hC : av_C M B rm σ L) : am_val iX11_countOf 0 [some (.ref (am_c (B + 1) 11)), some (.int t), none, none, none, none, none] [] M = some (.inl (some (.int (am_cnt (fun p => decide (σ (19 + 2 * p) = t)) 16))), M, 0, 0) := by
  obtain ⟨⟨⟨w0, w1, w2, w3, w4, w5, w6, w7, w8, w9⟩, hrm, hpr⟩, ⟨hnp, hs0, hln, hct⟩, hW, hT, hN, hP, hS, hB⟩ := hC
  rw [ac_countOf w5, am_cnt_c (fun k hk => by rw [(hW k hk).2])]
theorem ac_bheightsOf {B : Nat} {rm : Nat → Nat} {σ : Nat → Int32} {L : List (Nat → Int32)} {t : Int32} {M : am_M} (hC : av_C M B rm σ L) : am_val iX11_heightsOf 0 [some (.ref (am_c (B + 1) 11)), some (.int t), none, none] [] M = some (.inl (some (.int (am_it (fun k x => if σ (19 + 2 * k) = t then x + σ (18 + 2 * k) else x) 16 0))), M, 0, 0) := by
  obtain ⟨⟨⟨w0, w1, w2, w3, w4, w5, w6, w7, w8, w9⟩, hrm, hpr⟩, ⟨hnp, hs0, hln, hct⟩, hW, hT, hN, hP, hS, hB⟩ := hC
  rw [ac_heightsOf w4 w5, am_it_c (fun k y hk => by rw [(hW k hk).1, (hW k hk).2])]
theorem ac_bpoints {B : Nat} {rm : Nat → Nat} {σ : Nat → Int32} {L : List (Nat → Int32)} {t : Int32} {M : am_M} (hC : av_C M B rm σ L) : am_val iX9_pointsOf 0 [some (.ref (am_c (B + 4) 9)), some (.int t)] [] M = some (.inl (some (.int (av_pt σ t))), M, 0, 0) := by
  obtain ⟨⟨⟨w0, w1, w2, w3, w4, w5, w6, w7, w8, w9⟩, hrm, hpr⟩, ⟨hnp, hs0, hln, hct⟩, hW, hT, hN, hP, hS, hB⟩ := hC
  rw [ac_pointsOf w6, av_tt_c (fun k hk => (hT k hk).1)]
  rfl
theorem ac_bcatches {B : Nat} {rm : Nat → Nat} {σ : Nat → Int32} {L : List (Nat → Int32)} {t : Int32} {M : am_M} (hC : av_C M B rm σ L) : am_val iX9_catchesOf 0 [some (.ref (am_c (B + 4) 9)), some (.int t)] [] M = some (.inl (some (.int (av_tt (fun k => σ (10 + 3 * k)) t))), M, 0, 0) := by
  obtain ⟨⟨⟨w0, w1, w2, w3, w4, w5, w6, w7, w8, w9⟩, hrm, hpr⟩, ⟨hnp, hs0, hln, hct⟩, hW, hT, hN, hP, hS, hB⟩ := hC
  rw [ac_catchesOf w7, av_tt_c (fun k hk => (hT k hk).2.1)]
theorem ac_binter {B : Nat} {rm : Nat → Nat} {σ : Nat → Int32} {L : List (Nat → Int32)} {t : Int32} {M : am_M} (hC : av_C M B rm σ L) : am_val iX9_interceptionsOf 0 [some (.ref (am_c (B + 4) 9)), some (.int t)] [] M = some (.inl (some (.int (av_tt (fun k => σ (11 + 3 * k)) t))), M, 0, 0) := by
  obtain ⟨⟨⟨w0, w1, w2, w3, w4, w5, w6, w7, w8, w9⟩, hrm, hpr⟩, ⟨hnp, hs0, hln, hct⟩, hW, hT, hN, hP, hS, hB⟩ := hC
  rw [ac_interceptionsOf w8, av_tt_c (fun k hk => (hT k hk).2.2)]
theorem ac_bpointsAll {B : Nat} {rm : Nat → Nat} {σ : Nat → Int32} {L : List (Nat → Int32)}  {M : am_M} (hC : av_C M B rm σ L) : am_val iX9_pointsOfAll 0 [some (.ref (am_c (B + 4) 9)), none, none, none, none, none] [] M = some (.inl (some (.int (av_sum (fun k => σ (9 + 3 * k)) 3))), M, 0, 0) := by
  obtain ⟨⟨⟨w0, w1, w2, w3, w4, w5, w6, w7, w8, w9⟩, hrm, hpr⟩, ⟨hnp, hs0, hln, hct⟩, hW, hT, hN, hP, hS, hB⟩ := hC
  rw [ac_pointsOfAll w6, av_sum_c (fun k hk => (hT k hk).1)]
def av_rf (M : am_M) (f : Nat) (x y : Int32) : am_M := av_i (av_i (av_i M (am_c f 7) 0 x) (am_c f 7) 1 y) (am_c f 7) 2 0
theorem ac_tell2 {f : Nat} {x y : Int32} {M : am_M} : am_val iX7_tell 0 [some (.ref (am_c f 7)), some (.int x), some (.int y)] [] M = some (.inl (some (.int 1)), av_rf M f x y, 0, 0) := ac_tell
def av_rfo (M : am_M) (f : Nat) (q : Option (Int32 × Int32)) : am_T := match q with
  | none => some (.inl (some (.int 0)), M, 0, 0)
  | some (x, y) => some (.inl (some (.int 1)), av_rf M f x y, 0, 0)
def av_abs (x : Int32) : Int32 := if 0 ≤ x then x else 0 - x
def av_ca (σ : Nat → Int32) (p : Int32) : Int32 := am_cnt (fun k => decide (σ (51 + 5 * k) = p)) (av_np σ)
def av_sa (L : List (Nat → Int32)) (p : Int32) : Int32 := am_cnt (fun k => decide (av_s L k 0 = p)) L.length
def av_q0 (σ : Nat → Int32) (p h : Int32) : Option (Int32 × Int32) := if am_pl p = false then some (1, 0) else if am_wt h 0 9 = false then some (1, 0) else if av_hf σ p = h then some (6, h) else if av_ca σ p ≤ 0 then none else some (2, av_ca σ p)
def av_q1 (σ : Nat → Int32) (t p : Int32) : Option (Int32 × Int32) := if am_tm t = false then some (1, 0) else if am_pl p = false then some (1, 0) else if decide (0 < av_hf σ p) = false then some (5, 0) else if av_of σ p = t then some (6, t) else if av_price σ t p - av_pt σ t ≤ 0 then none else some (7, av_price σ t p - av_pt σ t)
def av_q2 (σ : Nat → Int32) (t p : Int32) : Option (Int32 × Int32) := if am_tm t = false then some (1, 0) else if am_pl p = false then some (1, 0) else if σ 0 < 6 then (if decide (0 < av_hf σ p) = false then none else some (4, av_hf σ p)) else some (2, 6)
def av_q3 (σ : Nat → Int32) (x p : Int32) : Option (Int32 × Int32) := if am_ltb x (av_np σ) = false then some (3, σ 0) else if am_pl p = false then some (1, 0) else if av_abs (p - σ (51 + 5 * x.toNatClampNeg)) = 0 then some (6, p) else if av_abs (p - σ (51 + 5 * x.toNatClampNeg)) ≤ 3 then (if decide (0 < av_hf σ p) = false then none else some (4, av_hf σ p)) else some (8, av_abs (p - σ (51 + 5 * x.toNatClampNeg)))
def av_q4 (σ : Nat → Int32) (n : Nat) (x l : Int32) : Option (Int32 × Int32) := if am_ltb x (av_np σ) = false then some (3, σ 0) else if am_wt l 1 20 = false then some (1, 0) else if σ (52 + 5 * x.toNatClampNeg) ≤ 0 then (if n < 8 then none else some (2, 8)) else some (9, σ (52 + 5 * x.toNatClampNeg))
def av_q5 (n : Nat) : Option (Int32 × Int32) := if n = 0 then some (11, 0) else none
def av_q6 (σ : Nat → Int32) (L : List (Nat → Int32)) (x : Int32) : Option (Int32 × Int32) := if am_ltb x (av_np σ) = false then some (3, σ 0) else if am_it (av_es L (σ (51 + 5 * x.toNatClampNeg))) L.length 0 = 0 then some (10, av_sa L (σ (51 + 5 * x.toNatClampNeg))) else none
def av_q7 (σ : Nat → Int32) (x : Int32) : Option (Int32 × Int32) := if am_wt x (-2) 2 = false then some (1, 0) else if x = σ 2 then some (6, x) else none
theorem ac_isWallRefused {B : Nat} {rm : Nat → Nat} {σ : Nat → Int32} {L : List (Nat → Int32)} {f : Nat} {x h : Int32} {M : am_M} (hC : av_C M B rm σ L) : am_val iX1_isWallRefused 0 [some (.ref (am_c B 1)), some (.int x), some (.int h), some (.ref (am_c f 7)), none] [] M = av_rfo M f (av_q0 σ x h) := by
  have e1 := ac_bheight (p := x) hC
  have e2 := ac_countPlayersAt (t := x) hC
  obtain ⟨⟨⟨w0, w1, w2, w3, w4, w5, w6, w7, w8, w9⟩, hrm, hpr⟩, ⟨hnp, hs0, hln, hct⟩, hW, hT, hN, hP, hS, hB⟩ := hC
  unfold av_q0
  cases a : am_pl x with
  | false => simp [ae_X1_isWallRefused_0, ae_X1_isWallRefused_4, ae_X1_isWallRefused_7, ae_X1_isWallRefused_14, ae_X1_isWallRefused_17, ae_X1_isWallRefused_23, ae_X1_isWallRefused_24, ae_X1_isWallRefused_28, ae_X1_isWallRefused_32, ae_X1_isWallRefused_36, ae_X1_isWallRefused_43, ae_X1_isWallRefused_44, ae_X1_isWallRefused_49, ae_X1_isWallRefused_56, ae_X1_isWallRefused_63, ae_X1_isWallRefused_66, ae_X1_isWallRefused_70, am_bnx_v, am_bnx_e, am_tl_s, am_tl_n, am_rv_s, am_add_rx, ac_isPlace, ac_tell2, a, am_bi_f, av_rfo]
  | true =>
    cases b : am_wt h 0 9 with
    | false => simp [ae_X1_isWallRefused_0, ae_X1_isWallRefused_4, ae_X1_isWallRefused_7, ae_X1_isWallRefused_14, ae_X1_isWallRefused_17, ae_X1_isWallRefused_23, ae_X1_isWallRefused_24, ae_X1_isWallRefused_28, ae_X1_isWallRefused_32, ae_X1_isWallRefused_36, ae_X1_isWallRefused_43, ae_X1_isWallRefused_44, ae_X1_isWallRefused_49, ae_X1_isWallRefused_56, ae_X1_isWallRefused_63, ae_X1_isWallRefused_66, ae_X1_isWallRefused_70, am_bnx_v, am_bnx_e, am_tl_s, am_tl_n, am_rv_s, am_add_rx, ac_isPlace, ac_isWithin, ac_tell2, a, b, am_bi_f, am_bi_t, av_rfo]
    | true =>
      by_cases c : av_hf σ x = h
      · simp [ae_X1_isWallRefused_0, ae_X1_isWallRefused_4, ae_X1_isWallRefused_7, ae_X1_isWallRefused_14, ae_X1_isWallRefused_17, ae_X1_isWallRefused_23, ae_X1_isWallRefused_24, ae_X1_isWallRefused_28, ae_X1_isWallRefused_32, ae_X1_isWallRefused_36, ae_X1_isWallRefused_43, ae_X1_isWallRefused_44, ae_X1_isWallRefused_49, ae_X1_isWallRefused_56, ae_X1_isWallRefused_63, ae_X1_isWallRefused_66, ae_X1_isWallRefused_70, am_bnx_v, am_bnx_e, am_tl_s, am_tl_n, am_rv_s, am_add_rx, ac_isPlace, ac_isWithin, ac_tell2, a, b, w0, e1, c, am_bi_t, av_rfo]
      · by_cases d : av_ca σ x ≤ 0
        · have d' := d
          unfold av_ca at d'
          simp [ae_X1_isWallRefused_0, ae_X1_isWallRefused_4, ae_X1_isWallRefused_7, ae_X1_isWallRefused_14, ae_X1_isWallRefused_17, ae_X1_isWallRefused_23, ae_X1_isWallRefused_24, ae_X1_isWallRefused_28, ae_X1_isWallRefused_32, ae_X1_isWallRefused_36, ae_X1_isWallRefused_43, ae_X1_isWallRefused_44, ae_X1_isWallRefused_49, ae_X1_isWallRefused_56, ae_X1_isWallRefused_63, ae_X1_isWallRefused_66, ae_X1_isWallRefused_70, am_bnx_v, am_bnx_e, am_tl_s, am_tl_n, am_rv_s, am_add_rx, ac_isPlace, ac_isWithin, ac_tell2, a, b, w0, e1, e2, c, d, d', am_bi_t, av_rfo]
        · have d' := d
          unfold av_ca at d'
          simp [ae_X1_isWallRefused_0, ae_X1_isWallRefused_4, ae_X1_isWallRefused_7, ae_X1_isWallRefused_14, ae_X1_isWallRefused_17, ae_X1_isWallRefused_23, ae_X1_isWallRefused_24, ae_X1_isWallRefused_28, ae_X1_isWallRefused_32, ae_X1_isWallRefused_36, ae_X1_isWallRefused_43, ae_X1_isWallRefused_44, ae_X1_isWallRefused_49, ae_X1_isWallRefused_56, ae_X1_isWallRefused_63, ae_X1_isWallRefused_66, ae_X1_isWallRefused_70, am_bnx_v, am_bnx_e, am_tl_s, am_tl_n, am_rv_s, am_add_rx, ac_isPlace, ac_isWithin, ac_tell2, a, b, w0, e1, e2, c, d, d', am_bi_t, av_rfo]
          rfl
theorem ac_isPurchaseRefused {B : Nat} {rm : Nat → Nat} {σ : Nat → Int32} {L : List (Nat → Int32)} {f : Nat} {t p : Int32} {M : am_M} (hC : av_C M B rm σ L) : am_val iX1_isPurchaseRefused 0 [some (.ref (am_c B 1)), some (.int t), some (.int p), some (.ref (am_c f 7)), none] [] M = av_rfo M f (av_q1 σ t p) := by
  have e1 := ac_bisAt (p := p) hC
  have e2 := ac_bowner (p := p) hC
  have e3 := ac_bprice (t := t) (p := p) hC
  have e4 := ac_bpoints (t := t) hC
  obtain ⟨⟨⟨w0, w1, w2, w3, w4, w5, w6, w7, w8, w9⟩, hrm, hpr⟩, ⟨hnp, hs0, hln, hct⟩, hW, hT, hN, hP, hS, hB⟩ := hC
  unfold av_q1
  cases a : am_tm t with
  | false => simp [ae_X1_isPurchaseRefused_0, ae_X1_isPurchaseRefused_4, ae_X1_isPurchaseRefused_7, ae_X1_isPurchaseRefused_11, ae_X1_isPurchaseRefused_14, ae_X1_isPurchaseRefused_20, ae_X1_isPurchaseRefused_21, ae_X1_isPurchaseRefused_25, ae_X1_isPurchaseRefused_29, ae_X1_isPurchaseRefused_32, ae_X1_isPurchaseRefused_38, ae_X1_isPurchaseRefused_39, ae_X1_isPurchaseRefused_43, ae_X1_isPurchaseRefused_47, ae_X1_isPurchaseRefused_51, ae_X1_isPurchaseRefused_58, ae_X1_isPurchaseRefused_59, ae_X1_isPurchaseRefused_63, ae_X1_isPurchaseRefused_68, ae_X1_isPurchaseRefused_72, ae_X1_isPurchaseRefused_76, ae_X1_isPurchaseRefused_84, ae_X1_isPurchaseRefused_92, ae_X1_isPurchaseRefused_95, ae_X1_isPurchaseRefused_99, am_bnx_v, am_bnx_e, am_tl_s, am_tl_n, am_rv_s, am_add_rx, ac_isTeam, ac_tell2, a, am_bi_f, av_rfo]
  | true =>
    cases b : am_pl p with
    | false => simp [ae_X1_isPurchaseRefused_0, ae_X1_isPurchaseRefused_4, ae_X1_isPurchaseRefused_7, ae_X1_isPurchaseRefused_11, ae_X1_isPurchaseRefused_14, ae_X1_isPurchaseRefused_20, ae_X1_isPurchaseRefused_21, ae_X1_isPurchaseRefused_25, ae_X1_isPurchaseRefused_29, ae_X1_isPurchaseRefused_32, ae_X1_isPurchaseRefused_38, ae_X1_isPurchaseRefused_39, ae_X1_isPurchaseRefused_43, ae_X1_isPurchaseRefused_47, ae_X1_isPurchaseRefused_51, ae_X1_isPurchaseRefused_58, ae_X1_isPurchaseRefused_59, ae_X1_isPurchaseRefused_63, ae_X1_isPurchaseRefused_68, ae_X1_isPurchaseRefused_72, ae_X1_isPurchaseRefused_76, ae_X1_isPurchaseRefused_84, ae_X1_isPurchaseRefused_92, ae_X1_isPurchaseRefused_95, ae_X1_isPurchaseRefused_99, am_bnx_v, am_bnx_e, am_tl_s, am_tl_n, am_rv_s, am_add_rx, ac_isPlace, ac_isTeam, ac_tell2, a, b, am_bi_f, am_bi_t, av_rfo]
    | true =>
      cases c : decide (0 < av_hf σ p) with
      | false => rw [c] at e1; simp [ae_X1_isPurchaseRefused_0, ae_X1_isPurchaseRefused_4, ae_X1_isPurchaseRefused_7, ae_X1_isPurchaseRefused_11, ae_X1_isPurchaseRefused_14, ae_X1_isPurchaseRefused_20, ae_X1_isPurchaseRefused_21, ae_X1_isPurchaseRefused_25, ae_X1_isPurchaseRefused_29, ae_X1_isPurchaseRefused_32, ae_X1_isPurchaseRefused_38, ae_X1_isPurchaseRefused_39, ae_X1_isPurchaseRefused_43, ae_X1_isPurchaseRefused_47, ae_X1_isPurchaseRefused_51, ae_X1_isPurchaseRefused_58, ae_X1_isPurchaseRefused_59, ae_X1_isPurchaseRefused_63, ae_X1_isPurchaseRefused_68, ae_X1_isPurchaseRefused_72, ae_X1_isPurchaseRefused_76, ae_X1_isPurchaseRefused_84, ae_X1_isPurchaseRefused_92, ae_X1_isPurchaseRefused_95, ae_X1_isPurchaseRefused_99, am_bnx_v, am_bnx_e, am_tl_s, am_tl_n, am_rv_s, am_add_rx, ac_isPlace, ac_isTeam, ac_tell2, a, b, w0, e1, am_bi_f, am_bi_t, av_rfo]
      | true =>
        rw [c] at e1
        by_cases d : av_of σ p = t
        · simp [ae_X1_isPurchaseRefused_0, ae_X1_isPurchaseRefused_4, ae_X1_isPurchaseRefused_7, ae_X1_isPurchaseRefused_11, ae_X1_isPurchaseRefused_14, ae_X1_isPurchaseRefused_20, ae_X1_isPurchaseRefused_21, ae_X1_isPurchaseRefused_25, ae_X1_isPurchaseRefused_29, ae_X1_isPurchaseRefused_32, ae_X1_isPurchaseRefused_38, ae_X1_isPurchaseRefused_39, ae_X1_isPurchaseRefused_43, ae_X1_isPurchaseRefused_47, ae_X1_isPurchaseRefused_51, ae_X1_isPurchaseRefused_58, ae_X1_isPurchaseRefused_59, ae_X1_isPurchaseRefused_63, ae_X1_isPurchaseRefused_68, ae_X1_isPurchaseRefused_72, ae_X1_isPurchaseRefused_76, ae_X1_isPurchaseRefused_84, ae_X1_isPurchaseRefused_92, ae_X1_isPurchaseRefused_95, ae_X1_isPurchaseRefused_99, am_bnx_v, am_bnx_e, am_tl_s, am_tl_n, am_rv_s, am_add_rx, ac_isPlace, ac_isTeam, ac_tell2, a, b, w0, e1, e2, d, am_bi_t, av_rfo]
        · by_cases e : av_price σ t p - av_pt σ t ≤ 0
          · simp [ae_X1_isPurchaseRefused_0, ae_X1_isPurchaseRefused_4, ae_X1_isPurchaseRefused_7, ae_X1_isPurchaseRefused_11, ae_X1_isPurchaseRefused_14, ae_X1_isPurchaseRefused_20, ae_X1_isPurchaseRefused_21, ae_X1_isPurchaseRefused_25, ae_X1_isPurchaseRefused_29, ae_X1_isPurchaseRefused_32, ae_X1_isPurchaseRefused_38, ae_X1_isPurchaseRefused_39, ae_X1_isPurchaseRefused_43, ae_X1_isPurchaseRefused_47, ae_X1_isPurchaseRefused_51, ae_X1_isPurchaseRefused_58, ae_X1_isPurchaseRefused_59, ae_X1_isPurchaseRefused_63, ae_X1_isPurchaseRefused_68, ae_X1_isPurchaseRefused_72, ae_X1_isPurchaseRefused_76, ae_X1_isPurchaseRefused_84, ae_X1_isPurchaseRefused_92, ae_X1_isPurchaseRefused_95, ae_X1_isPurchaseRefused_99, am_bnx_v, am_bnx_e, am_tl_s, am_tl_n, am_rv_s, am_add_rx, ac_isPlace, ac_isTeam, ac_tell2, a, b, w0, w1, e1, e2, e3, e4, d, e, am_bi_t, av_rfo]
          · simp [ae_X1_isPurchaseRefused_0, ae_X1_isPurchaseRefused_4, ae_X1_isPurchaseRefused_7, ae_X1_isPurchaseRefused_11, ae_X1_isPurchaseRefused_14, ae_X1_isPurchaseRefused_20, ae_X1_isPurchaseRefused_21, ae_X1_isPurchaseRefused_25, ae_X1_isPurchaseRefused_29, ae_X1_isPurchaseRefused_32, ae_X1_isPurchaseRefused_38, ae_X1_isPurchaseRefused_39, ae_X1_isPurchaseRefused_43, ae_X1_isPurchaseRefused_47, ae_X1_isPurchaseRefused_51, ae_X1_isPurchaseRefused_58, ae_X1_isPurchaseRefused_59, ae_X1_isPurchaseRefused_63, ae_X1_isPurchaseRefused_68, ae_X1_isPurchaseRefused_72, ae_X1_isPurchaseRefused_76, ae_X1_isPurchaseRefused_84, ae_X1_isPurchaseRefused_92, ae_X1_isPurchaseRefused_95, ae_X1_isPurchaseRefused_99, am_bnx_v, am_bnx_e, am_tl_s, am_tl_n, am_rv_s, am_add_rx, ac_isPlace, ac_isTeam, ac_tell2, a, b, w0, w1, e1, e2, e3, e4, d, e, am_bi_t, av_rfo]
theorem ac_isPlayerRefused {B : Nat} {rm : Nat → Nat} {σ : Nat → Int32} {L : List (Nat → Int32)} {f : Nat} {t p : Int32} {M : am_M} (hC : av_C M B rm σ L) : am_val iX1_isPlayerRefused 0 [some (.ref (am_c B 1)), some (.int t), some (.int p), some (.ref (am_c f 7))] [] M = av_rfo M f (av_q2 σ t p) := by
  have e1 := ac_bisAt (p := p) hC
  have e2 := ac_bheight (p := p) hC
  obtain ⟨⟨⟨w0, w1, w2, w3, w4, w5, w6, w7, w8, w9⟩, hrm, hpr⟩, ⟨hnp, hs0, hln, hct⟩, hW, hT, hN, hP, hS, hB⟩ := hC
  have n0 := hN.1
  unfold av_q2
  cases a : am_tm t with
  | false => simp [ae_X1_isPlayerRefused_0, ae_X1_isPlayerRefused_4, ae_X1_isPlayerRefused_7, ae_X1_isPlayerRefused_11, ae_X1_isPlayerRefused_14, ae_X1_isPlayerRefused_20, ae_X1_isPlayerRefused_21, ae_X1_isPlayerRefused_30, ae_X1_isPlayerRefused_37, ae_X1_isPlayerRefused_38, ae_X1_isPlayerRefused_42, ae_X1_isPlayerRefused_46, ae_X1_isPlayerRefused_49, ae_X1_isPlayerRefused_55, ae_X1_isPlayerRefused_59, ae_X1_isPlayerRefused_62, ae_X1_isPlayerRefused_65, ae_X1_isPlayerRefused_69, am_bnx_v, am_bnx_e, am_tl_s, am_tl_n, am_rv_s, am_add_rx, ac_isTeam, ac_tell2, a, am_bi_f, av_rfo]
  | true =>
    cases b : am_pl p with
    | false => simp [ae_X1_isPlayerRefused_0, ae_X1_isPlayerRefused_4, ae_X1_isPlayerRefused_7, ae_X1_isPlayerRefused_11, ae_X1_isPlayerRefused_14, ae_X1_isPlayerRefused_20, ae_X1_isPlayerRefused_21, ae_X1_isPlayerRefused_30, ae_X1_isPlayerRefused_37, ae_X1_isPlayerRefused_38, ae_X1_isPlayerRefused_42, ae_X1_isPlayerRefused_46, ae_X1_isPlayerRefused_49, ae_X1_isPlayerRefused_55, ae_X1_isPlayerRefused_59, ae_X1_isPlayerRefused_62, ae_X1_isPlayerRefused_65, ae_X1_isPlayerRefused_69, am_bnx_v, am_bnx_e, am_tl_s, am_tl_n, am_rv_s, am_add_rx, ac_isPlace, ac_isTeam, ac_tell2, a, b, am_bi_f, am_bi_t, av_rfo]
    | true =>
      by_cases d : σ 0 < 6
      · cases c : decide (0 < av_hf σ p) with
        | false => rw [c] at e1; simp [ae_X1_isPlayerRefused_0, ae_X1_isPlayerRefused_4, ae_X1_isPlayerRefused_7, ae_X1_isPlayerRefused_11, ae_X1_isPlayerRefused_14, ae_X1_isPlayerRefused_20, ae_X1_isPlayerRefused_21, ae_X1_isPlayerRefused_30, ae_X1_isPlayerRefused_37, ae_X1_isPlayerRefused_38, ae_X1_isPlayerRefused_42, ae_X1_isPlayerRefused_46, ae_X1_isPlayerRefused_49, ae_X1_isPlayerRefused_55, ae_X1_isPlayerRefused_59, ae_X1_isPlayerRefused_62, ae_X1_isPlayerRefused_65, ae_X1_isPlayerRefused_69, am_bnx_v, am_bnx_e, am_tl_s, am_tl_n, am_rv_s, am_add_rx, ac_isPlace, ac_isTeam, ac_tell2, a, b, w0, n0, d, e1, am_bi_f, am_bi_t, av_rfo]
        | true => rw [c] at e1; simp [ae_X1_isPlayerRefused_0, ae_X1_isPlayerRefused_4, ae_X1_isPlayerRefused_7, ae_X1_isPlayerRefused_11, ae_X1_isPlayerRefused_14, ae_X1_isPlayerRefused_20, ae_X1_isPlayerRefused_21, ae_X1_isPlayerRefused_30, ae_X1_isPlayerRefused_37, ae_X1_isPlayerRefused_38, ae_X1_isPlayerRefused_42, ae_X1_isPlayerRefused_46, ae_X1_isPlayerRefused_49, ae_X1_isPlayerRefused_55, ae_X1_isPlayerRefused_59, ae_X1_isPlayerRefused_62, ae_X1_isPlayerRefused_65, ae_X1_isPlayerRefused_69, am_bnx_v, am_bnx_e, am_tl_s, am_tl_n, am_rv_s, am_add_rx, ac_isPlace, ac_isTeam, ac_tell2, a, b, w0, n0, d, e1, e2, am_bi_t, av_rfo]
      · simp [ae_X1_isPlayerRefused_0, ae_X1_isPlayerRefused_4, ae_X1_isPlayerRefused_7, ae_X1_isPlayerRefused_11, ae_X1_isPlayerRefused_14, ae_X1_isPlayerRefused_20, ae_X1_isPlayerRefused_21, ae_X1_isPlayerRefused_30, ae_X1_isPlayerRefused_37, ae_X1_isPlayerRefused_38, ae_X1_isPlayerRefused_42, ae_X1_isPlayerRefused_46, ae_X1_isPlayerRefused_49, ae_X1_isPlayerRefused_55, ae_X1_isPlayerRefused_59, ae_X1_isPlayerRefused_62, ae_X1_isPlayerRefused_65, ae_X1_isPlayerRefused_69, am_bnx_v, am_bnx_e, am_tl_s, am_tl_n, am_rv_s, am_add_rx, ac_isPlace, ac_isTeam, ac_tell2, a, b, n0, d, am_bi_t, av_rfo]
theorem ac_isMoveRefused {B : Nat} {rm : Nat → Nat} {σ : Nat → Int32} {L : List (Nat → Int32)} {f : Nat} {x p : Int32} {M : am_M} (hC : av_C M B rm σ L) : am_val iX1_isMoveRefused 0 [some (.ref (am_c B 1)), some (.int x), some (.int p), some (.ref (am_c f 7)), none] [] M = av_rfo M f (av_q3 σ x p) := by
  have e1 := ac_bisAt (p := p) hC
  have e2 := ac_bheight (p := p) hC
  obtain ⟨⟨⟨w0, w1, w2, w3, w4, w5, w6, w7, w8, w9⟩, hrm, hpr⟩, ⟨hnp, hs0, hln, hct⟩, hW, hT, hN, hP, hS, hB⟩ := hC
  have n0 := hN.1
  have hp := ac_hasPlayer (B := B) (x := x) (M := M) (n := av_np σ) (by rw [n0, ← hs0]) (by omega)
  unfold av_q3
  cases a : am_ltb x (av_np σ) with
  | false => simp [ae_X1_isMoveRefused_0, ae_X1_isMoveRefused_5, ae_X1_isMoveRefused_8, ae_X1_isMoveRefused_17, ae_X1_isMoveRefused_18, ae_X1_isMoveRefused_22, ae_X1_isMoveRefused_25, ae_X1_isMoveRefused_31, ae_X1_isMoveRefused_32, ae_X1_isMoveRefused_37, ae_X1_isMoveRefused_39, ae_X1_isMoveRefused_53, ae_X1_isMoveRefused_60, ae_X1_isMoveRefused_61, ae_X1_isMoveRefused_67, ae_X1_isMoveRefused_75, ae_X1_isMoveRefused_76, ae_X1_isMoveRefused_80, ae_X1_isMoveRefused_84, ae_X1_isMoveRefused_87, ae_X1_isMoveRefused_93, ae_X1_isMoveRefused_97, ae_X1_isMoveRefused_100, ae_X1_isMoveRefused_103, ae_X1_isMoveRefused_107, am_bnx_v, am_bnx_e, am_tl_s, am_tl_n, am_rv_s, am_add_rx, hp, n0, ac_tell2, a, am_bi_f, av_rfo]
  | true =>
    obtain ⟨k, hk, rfl⟩ := am_lt_n (by omega) a
    have hin := am_in_n (show k < 6 by omega) (by decide)
    have htn := am_tn (show k < 2147483648 by omega)
    have hq := w9 k (by omega)
    have hx : M.1 (am_c (B + 10 + k) 6) 1 = σ (51 + 5 * k) := by rw [hP k (by omega) 1 (by decide)]; congr 1; omega
    rw [htn]
    cases b : am_pl p with
    | false => simp [ae_X1_isMoveRefused_0, ae_X1_isMoveRefused_5, ae_X1_isMoveRefused_8, ae_X1_isMoveRefused_17, ae_X1_isMoveRefused_18, ae_X1_isMoveRefused_22, ae_X1_isMoveRefused_25, ae_X1_isMoveRefused_31, ae_X1_isMoveRefused_32, ae_X1_isMoveRefused_37, ae_X1_isMoveRefused_39, ae_X1_isMoveRefused_53, ae_X1_isMoveRefused_60, ae_X1_isMoveRefused_61, ae_X1_isMoveRefused_67, ae_X1_isMoveRefused_75, ae_X1_isMoveRefused_76, ae_X1_isMoveRefused_80, ae_X1_isMoveRefused_84, ae_X1_isMoveRefused_87, ae_X1_isMoveRefused_93, ae_X1_isMoveRefused_97, ae_X1_isMoveRefused_100, ae_X1_isMoveRefused_103, ae_X1_isMoveRefused_107, am_bnx_v, am_bnx_e, am_tl_s, am_tl_n, am_rv_s, am_add_rx, ac_isPlace, hp, ac_tell2, a, b, am_bi_f, am_bi_t, av_rfo]
    | true =>
      have hd : (if 0 ≤ (p - σ (51 + 5 * k)) then p - σ (51 + 5 * k) else 0 - (p - σ (51 + 5 * k))) = av_abs (p - σ (51 + 5 * k)) := rfl
      by_cases c : av_abs (p - σ (51 + 5 * k)) = 0
      · simp only [ae_X1_isMoveRefused_0, ae_X1_isMoveRefused_5, ae_X1_isMoveRefused_8, ae_X1_isMoveRefused_17, ae_X1_isMoveRefused_18, ae_X1_isMoveRefused_22, ae_X1_isMoveRefused_25, ae_X1_isMoveRefused_31, ae_X1_isMoveRefused_32, ae_X1_isMoveRefused_37, ae_X1_isMoveRefused_39, ae_X1_isMoveRefused_53, ae_X1_isMoveRefused_60, ae_X1_isMoveRefused_61, ae_X1_isMoveRefused_67, ae_X1_isMoveRefused_75, ae_X1_isMoveRefused_76, ae_X1_isMoveRefused_80, ae_X1_isMoveRefused_84, ae_X1_isMoveRefused_87, ae_X1_isMoveRefused_93, ae_X1_isMoveRefused_97, ae_X1_isMoveRefused_100, ae_X1_isMoveRefused_103, ae_X1_isMoveRefused_107, am_bnx_v, am_bnx_e, am_tl_s, am_tl_n, am_rv_s, am_add_rx, ac_isPlace, hp, ac_tell2, a, b, w2, hq, hin, htn, hx, hd, c, am_bi_t, not_true_eq_false, not_false_eq_true, if_true, if_false, am_1n0, or_true, true_or, eq_self, Bool.true_eq_false, Bool.false_eq_true, cond_true, cond_false, av_rfo]
      · by_cases d : av_abs (p - σ (51 + 5 * k)) ≤ 3
        · cases e : decide (0 < av_hf σ p) with
          | false =>
            rw [e] at e1
            simp only [ae_X1_isMoveRefused_0, ae_X1_isMoveRefused_5, ae_X1_isMoveRefused_8, ae_X1_isMoveRefused_17, ae_X1_isMoveRefused_18, ae_X1_isMoveRefused_22, ae_X1_isMoveRefused_25, ae_X1_isMoveRefused_31, ae_X1_isMoveRefused_32, ae_X1_isMoveRefused_37, ae_X1_isMoveRefused_39, ae_X1_isMoveRefused_53, ae_X1_isMoveRefused_60, ae_X1_isMoveRefused_61, ae_X1_isMoveRefused_67, ae_X1_isMoveRefused_75, ae_X1_isMoveRefused_76, ae_X1_isMoveRefused_80, ae_X1_isMoveRefused_84, ae_X1_isMoveRefused_87, ae_X1_isMoveRefused_93, ae_X1_isMoveRefused_97, ae_X1_isMoveRefused_100, ae_X1_isMoveRefused_103, ae_X1_isMoveRefused_107, am_bnx_v, am_bnx_e, am_tl_s, am_tl_n, am_rv_s, am_add_rx, ac_isPlace, hp, ac_tell2, a, b, w0, w2, hq, hin, htn, hx, hd, c, d, e1, am_bi_t, am_bi_f, not_true_eq_false, not_false_eq_true, if_true, if_false, am_1n0, or_true, true_or, eq_self, Bool.true_eq_false, Bool.false_eq_true, cond_true, cond_false, av_rfo]
          | true =>
            rw [e] at e1
            simp only [ae_X1_isMoveRefused_0, ae_X1_isMoveRefused_5, ae_X1_isMoveRefused_8, ae_X1_isMoveRefused_17, ae_X1_isMoveRefused_18, ae_X1_isMoveRefused_22, ae_X1_isMoveRefused_25, ae_X1_isMoveRefused_31, ae_X1_isMoveRefused_32, ae_X1_isMoveRefused_37, ae_X1_isMoveRefused_39, ae_X1_isMoveRefused_53, ae_X1_isMoveRefused_60, ae_X1_isMoveRefused_61, ae_X1_isMoveRefused_67, ae_X1_isMoveRefused_75, ae_X1_isMoveRefused_76, ae_X1_isMoveRefused_80, ae_X1_isMoveRefused_84, ae_X1_isMoveRefused_87, ae_X1_isMoveRefused_93, ae_X1_isMoveRefused_97, ae_X1_isMoveRefused_100, ae_X1_isMoveRefused_103, ae_X1_isMoveRefused_107, am_bnx_v, am_bnx_e, am_tl_s, am_tl_n, am_rv_s, am_add_rx, ac_isPlace, hp, ac_tell2, a, b, w0, w2, hq, hin, htn, hx, hd, c, d, e1, e2, am_bi_t, am_bi_f, not_true_eq_false, not_false_eq_true, if_true, if_false, am_1n0, or_true, true_or, eq_self, Bool.true_eq_false, Bool.false_eq_true, cond_true, cond_false, av_rfo]
        · simp only [ae_X1_isMoveRefused_0, ae_X1_isMoveRefused_5, ae_X1_isMoveRefused_8, ae_X1_isMoveRefused_17, ae_X1_isMoveRefused_18, ae_X1_isMoveRefused_22, ae_X1_isMoveRefused_25, ae_X1_isMoveRefused_31, ae_X1_isMoveRefused_32, ae_X1_isMoveRefused_37, ae_X1_isMoveRefused_39, ae_X1_isMoveRefused_53, ae_X1_isMoveRefused_60, ae_X1_isMoveRefused_61, ae_X1_isMoveRefused_67, ae_X1_isMoveRefused_75, ae_X1_isMoveRefused_76, ae_X1_isMoveRefused_80, ae_X1_isMoveRefused_84, ae_X1_isMoveRefused_87, ae_X1_isMoveRefused_93, ae_X1_isMoveRefused_97, ae_X1_isMoveRefused_100, ae_X1_isMoveRefused_103, ae_X1_isMoveRefused_107, am_bnx_v, am_bnx_e, am_tl_s, am_tl_n, am_rv_s, am_add_rx, ac_isPlace, hp, ac_tell2, a, b, w2, hq, hin, htn, hx, hd, c, d, am_bi_t, not_true_eq_false, not_false_eq_true, if_true, if_false, am_1n0, or_true, true_or, eq_self, Bool.true_eq_false, Bool.false_eq_true, cond_true, cond_false, av_rfo]
theorem ac_isShoutRefused {B : Nat} {rm : Nat → Nat} {σ : Nat → Int32} {L : List (Nat → Int32)} {f : Nat} {x l : Int32} {M : am_M} (hC : av_C M B rm σ L) : am_val iX1_isShoutRefused 0 [some (.ref (am_c B 1)), some (.int x), some (.int l), some (.ref (am_c f 7)), none] [] M = av_rfo M f (av_q4 σ L.length x l) := by
  obtain ⟨⟨⟨w0, w1, w2, w3, w4, w5, w6, w7, w8, w9⟩, hrm, hpr⟩, ⟨hnp, hs0, hln, hct⟩, hW, hT, hN, hP, hS, hB⟩ := hC
  have n0 := hN.1
  have hp := ac_hasPlayer (B := B) (x := x) (M := M) (n := av_np σ) (by rw [n0, ← hs0]) (by omega)
  unfold av_q4
  cases a : am_ltb x (av_np σ) with
  | false => simp [ae_X1_isShoutRefused_0, ae_X1_isShoutRefused_5, ae_X1_isShoutRefused_8, ae_X1_isShoutRefused_17, ae_X1_isShoutRefused_18, ae_X1_isShoutRefused_25, ae_X1_isShoutRefused_28, ae_X1_isShoutRefused_34, ae_X1_isShoutRefused_35, ae_X1_isShoutRefused_39, ae_X1_isShoutRefused_41, ae_X1_isShoutRefused_51, ae_X1_isShoutRefused_59, ae_X1_isShoutRefused_60, ae_X1_isShoutRefused_69, ae_X1_isShoutRefused_76, ae_X1_isShoutRefused_79, ae_X1_isShoutRefused_83, am_bnx_v, am_bnx_e, am_tl_s, am_tl_n, am_rv_s, am_add_rx, hp, n0, ac_tell2, a, am_bi_f, av_rfo]
  | true =>
    obtain ⟨k, hk, rfl⟩ := am_lt_n (by omega) a
    have hin := am_in_n (show k < 6 by omega) (by decide)
    have htn := am_tn (show k < 2147483648 by omega)
    have hq := w9 k (by omega)
    have hx : M.1 (am_c (B + 10 + k) 6) 2 = σ (52 + 5 * k) := by rw [hP k (by omega) 2 (by decide)]; congr 1; omega
    rw [htn]
    cases b : am_wt l 1 20 with
    | false => simp [ae_X1_isShoutRefused_0, ae_X1_isShoutRefused_5, ae_X1_isShoutRefused_8, ae_X1_isShoutRefused_17, ae_X1_isShoutRefused_18, ae_X1_isShoutRefused_25, ae_X1_isShoutRefused_28, ae_X1_isShoutRefused_34, ae_X1_isShoutRefused_35, ae_X1_isShoutRefused_39, ae_X1_isShoutRefused_41, ae_X1_isShoutRefused_51, ae_X1_isShoutRefused_59, ae_X1_isShoutRefused_60, ae_X1_isShoutRefused_69, ae_X1_isShoutRefused_76, ae_X1_isShoutRefused_79, ae_X1_isShoutRefused_83, am_bnx_v, am_bnx_e, am_tl_s, am_tl_n, am_rv_s, am_add_rx, ac_isWithin, hp, ac_tell2, a, b, am_bi_f, am_bi_t, av_rfo]
    | true =>
      by_cases c : σ (52 + 5 * k) ≤ 0
      · by_cases d : L.length < 8
        · have d' : nI L.length < 8 := nI_lt (b := 8) d (by decide)
          simp [ae_X1_isShoutRefused_0, ae_X1_isShoutRefused_5, ae_X1_isShoutRefused_8, ae_X1_isShoutRefused_17, ae_X1_isShoutRefused_18, ae_X1_isShoutRefused_25, ae_X1_isShoutRefused_28, ae_X1_isShoutRefused_34, ae_X1_isShoutRefused_35, ae_X1_isShoutRefused_39, ae_X1_isShoutRefused_41, ae_X1_isShoutRefused_51, ae_X1_isShoutRefused_59, ae_X1_isShoutRefused_60, ae_X1_isShoutRefused_69, ae_X1_isShoutRefused_76, ae_X1_isShoutRefused_79, ae_X1_isShoutRefused_83, am_bnx_v, am_bnx_e, am_tl_s, am_tl_n, am_rv_s, am_add_rx, ac_isWithin, hp, ac_tell2, a, b, w2, hq, hin, htn, hx, hct, c, d, d', am_bi_t, av_rfo]
        · have d' : ¬ nI L.length < 8 := nI_nlt (b := 8) (by omega) (by omega)
          simp [ae_X1_isShoutRefused_0, ae_X1_isShoutRefused_5, ae_X1_isShoutRefused_8, ae_X1_isShoutRefused_17, ae_X1_isShoutRefused_18, ae_X1_isShoutRefused_25, ae_X1_isShoutRefused_28, ae_X1_isShoutRefused_34, ae_X1_isShoutRefused_35, ae_X1_isShoutRefused_39, ae_X1_isShoutRefused_41, ae_X1_isShoutRefused_51, ae_X1_isShoutRefused_59, ae_X1_isShoutRefused_60, ae_X1_isShoutRefused_69, ae_X1_isShoutRefused_76, ae_X1_isShoutRefused_79, ae_X1_isShoutRefused_83, am_bnx_v, am_bnx_e, am_tl_s, am_tl_n, am_rv_s, am_add_rx, ac_isWithin, hp, ac_tell2, a, b, w2, hq, hin, htn, hx, hct, c, d, d', am_bi_t, av_rfo]
      · simp [ae_X1_isShoutRefused_0, ae_X1_isShoutRefused_5, ae_X1_isShoutRefused_8, ae_X1_isShoutRefused_17, ae_X1_isShoutRefused_18, ae_X1_isShoutRefused_25, ae_X1_isShoutRefused_28, ae_X1_isShoutRefused_34, ae_X1_isShoutRefused_35, ae_X1_isShoutRefused_39, ae_X1_isShoutRefused_41, ae_X1_isShoutRefused_51, ae_X1_isShoutRefused_59, ae_X1_isShoutRefused_60, ae_X1_isShoutRefused_69, ae_X1_isShoutRefused_76, ae_X1_isShoutRefused_79, ae_X1_isShoutRefused_83, am_bnx_v, am_bnx_e, am_tl_s, am_tl_n, am_rv_s, am_add_rx, ac_isWithin, hp, ac_tell2, a, b, w2, hq, hin, htn, hx, c, am_bi_t, av_rfo]
theorem ac_isCatchRefused {B : Nat} {rm : Nat → Nat} {σ : Nat → Int32} {L : List (Nat → Int32)} {f : Nat} {x : Int32} {M : am_M} (hC : av_C M B rm σ L) : am_val iX1_isCatchRefused 0 [some (.ref (am_c B 1)), some (.int x), some (.ref (am_c f 7)), none] [] M = av_rfo M f (av_q6 σ L x) := by
  have e1 := fun p => ac_echoSetAt (p := p) hC
  have e2 := fun p => ac_countSoundsAt (t := p) hC
  obtain ⟨⟨⟨w0, w1, w2, w3, w4, w5, w6, w7, w8, w9⟩, hrm, hpr⟩, ⟨hnp, hs0, hln, hct⟩, hW, hT, hN, hP, hS, hB⟩ := hC
  have n0 := hN.1
  have hp := ac_hasPlayer (B := B) (x := x) (M := M) (n := av_np σ) (by rw [n0, ← hs0]) (by omega)
  unfold av_q6
  cases a : am_ltb x (av_np σ) with
  | false => simp [ae_X1_isCatchRefused_0, ae_X1_isCatchRefused_5, ae_X1_isCatchRefused_8, ae_X1_isCatchRefused_17, ae_X1_isCatchRefused_18, ae_X1_isCatchRefused_22, ae_X1_isCatchRefused_24, ae_X1_isCatchRefused_33, ae_X1_isCatchRefused_36, ae_X1_isCatchRefused_44, ae_X1_isCatchRefused_47, ae_X1_isCatchRefused_50, ae_X1_isCatchRefused_54, am_bnx_v, am_bnx_e, am_tl_s, am_tl_n, am_rv_s, am_add_rx, hp, n0, ac_tell2, a, am_bi_f, av_rfo]
  | true =>
    obtain ⟨k, hk, rfl⟩ := am_lt_n (by omega) a
    have hin := am_in_n (show k < 6 by omega) (by decide)
    have htn := am_tn (show k < 2147483648 by omega)
    have hq := w9 k (by omega)
    have hx : M.1 (am_c (B + 10 + k) 6) 1 = σ (51 + 5 * k) := by rw [hP k (by omega) 1 (by decide)]; congr 1; omega
    rw [htn]
    by_cases b : am_it (av_es L (σ (51 + 5 * k))) L.length 0 = 0
    · simp [ae_X1_isCatchRefused_0, ae_X1_isCatchRefused_5, ae_X1_isCatchRefused_8, ae_X1_isCatchRefused_17, ae_X1_isCatchRefused_18, ae_X1_isCatchRefused_22, ae_X1_isCatchRefused_24, ae_X1_isCatchRefused_33, ae_X1_isCatchRefused_36, ae_X1_isCatchRefused_44, ae_X1_isCatchRefused_47, ae_X1_isCatchRefused_50, ae_X1_isCatchRefused_54, am_bnx_v, am_bnx_e, am_tl_s, am_tl_n, am_rv_s, am_add_rx, hp, ac_tell2, a, b, w2, hq, hin, htn, hx, e1, e2, am_bi_t, av_rfo]
      rfl
    · simp [ae_X1_isCatchRefused_0, ae_X1_isCatchRefused_5, ae_X1_isCatchRefused_8, ae_X1_isCatchRefused_17, ae_X1_isCatchRefused_18, ae_X1_isCatchRefused_22, ae_X1_isCatchRefused_24, ae_X1_isCatchRefused_33, ae_X1_isCatchRefused_36, ae_X1_isCatchRefused_44, ae_X1_isCatchRefused_47, ae_X1_isCatchRefused_50, ae_X1_isCatchRefused_54, am_bnx_v, am_bnx_e, am_tl_s, am_tl_n, am_rv_s, am_add_rx, hp, ac_tell2, a, b, w2, hq, hin, htn, hx, e1, am_bi_t, av_rfo]
theorem ac_isWindRefused {B : Nat} {rm : Nat → Nat} {σ : Nat → Int32} {L : List (Nat → Int32)} {f : Nat} {x : Int32} {M : am_M} (hC : av_C M B rm σ L) : am_val iX1_isWindRefused 0 [some (.ref (am_c B 1)), some (.int x), some (.ref (am_c f 7))] [] M = av_rfo M f (av_q7 σ x) := by
  obtain ⟨⟨⟨w0, w1, w2, w3, w4, w5, w6, w7, w8, w9⟩, hrm, hpr⟩, ⟨hnp, hs0, hln, hct⟩, hW, hT, hN, hP, hS, hB⟩ := hC
  have n2 := hN.2.1
  unfold av_q7
  cases a : am_wt x (-2) 2 with
  | false => simp [ae_X1_isWindRefused_0, ae_X1_isWindRefused_7, ae_X1_isWindRefused_10, ae_X1_isWindRefused_16, ae_X1_isWindRefused_17, ae_X1_isWindRefused_25, ae_X1_isWindRefused_32, ae_X1_isWindRefused_35, ae_X1_isWindRefused_39, am_bnx_v, am_bnx_e, am_tl_s, am_tl_n, am_rv_s, am_add_rx, ac_isWithin, ac_tell2, a, am_bi_f, av_rfo]
  | true =>
    by_cases b : x = σ 2
    · subst b
      simp [ae_X1_isWindRefused_0, ae_X1_isWindRefused_7, ae_X1_isWindRefused_10, ae_X1_isWindRefused_16, ae_X1_isWindRefused_17, ae_X1_isWindRefused_25, ae_X1_isWindRefused_32, ae_X1_isWindRefused_35, ae_X1_isWindRefused_39, am_bnx_v, am_bnx_e, am_tl_s, am_tl_n, am_rv_s, am_add_rx, ac_isWithin, ac_tell2, a, n2, am_bi_t, av_rfo]
    · simp [ae_X1_isWindRefused_0, ae_X1_isWindRefused_7, ae_X1_isWindRefused_10, ae_X1_isWindRefused_16, ae_X1_isWindRefused_17, ae_X1_isWindRefused_25, ae_X1_isWindRefused_32, ae_X1_isWindRefused_35, ae_X1_isWindRefused_39, am_bnx_v, am_bnx_e, am_tl_s, am_tl_n, am_rv_s, am_add_rx, ac_isWithin, ac_tell2, a, b, n2, am_bi_t, av_rfo]
def av_ref (σ : Nat → Int32) (L : List (Nat → Int32)) (c : Nat) (a b : Int32) : Option (Int32 × Int32) := match c with
  | 0 => av_q0 σ a b
  | 1 => av_q1 σ a b
  | 2 => av_q2 σ a b
  | 3 => av_q3 σ a b
  | 4 => av_q4 σ L.length a b
  | 5 => av_q5 L.length
  | 6 => av_q6 σ L a
  | _ => av_q7 σ a
theorem av_rfo_bn {M : am_M} {f : Nat} {q : Option (Int32 × Int32)} {c : Option Value → am_M → am_T} {x : Nat → am_M → am_T} (h : ∀ b M', b = 0 ∨ b = 1 → c (some (.int b)) M' = some (.inl (some (.int b)), M', 0, 0)) : am_bnx (av_rfo M f q) c x = av_rfo M f q := by
  cases q with
  | none => exact am_bnx_v.trans (h _ _ (by decide))
  | some r => exact am_bnx_v.trans (h _ _ (by decide))
theorem ac_isRefused {B : Nat} {rm : Nat → Nat} {σ : Nat → Int32} {L : List (Nat → Int32)} {o f c : Nat} {a b : Int32} {M : am_M} (hC : av_C M B rm σ L) (hc : c < 8) (ho : M.2.1 (am_c o 5) 0 = am_c c 40 + 1) (ha : M.1 (am_c o 5) 1 = a) (hb : M.1 (am_c o 5) 2 = b) : am_val iX1_isRefused 0 [some (.ref (am_c B 1)), some (.ref (am_c o 5)), some (.ref (am_c f 7))] [] M = av_rfo M f (av_ref σ L c a b) := by
  have hin : am_in (Int32.ofNat c) 8 = true := am_in_n hc (by decide)
  have f0 := ac_isWallRefused (f := f) (x := a) (h := b) hC
  have f1 := ac_isPurchaseRefused (f := f) (t := a) (p := b) hC
  have f2 := ac_isPlayerRefused (f := f) (t := a) (p := b) hC
  have f3 := ac_isMoveRefused (f := f) (x := a) (p := b) hC
  have f4 := ac_isShoutRefused (f := f) (x := a) (l := b) hC
  have f6 := ac_isCatchRefused (f := f) (x := a) hC
  have f7 := ac_isWindRefused (f := f) (x := a) hC
  obtain ⟨⟨⟨w0, w1, w2, w3, w4, w5, w6, w7, w8, w9⟩, hrm, hpr⟩, ⟨hnp, hs0, hln, hct⟩, hW, hT, hN, hP, hS, hB⟩ := hC
  have hsw : Int32.ofNat ((Int32.ofNat c).toNatClampNeg + 1) = nI (c + 1) := by rw [show (Int32.ofNat c).toNatClampNeg = c from am_tn (by omega)]; rfl
  rw [ae_X1_isRefused_0, ho, am_rv_s, ae_X1_isRefused_7 hin, hsw]
  rcases (show c = 0 ∨ c = 1 ∨ c = 2 ∨ c = 3 ∨ c = 4 ∨ c = 5 ∨ c = 6 ∨ c = 7 by omega) with rfl | rfl | rfl | rfl | rfl | rfl | rfl | rfl
  · rw [show nI (0 + 1) = 1 from rfl]
    simp [am_sw, ae_X1_isRefused_0, ae_X1_isRefused_7, ae_X1_isRefused_56, ae_X1_isRefused_69, ae_X1_isRefused_70, ae_X1_isRefused_83, ae_X1_isRefused_84, ae_X1_isRefused_97, ae_X1_isRefused_98, ae_X1_isRefused_111, ae_X1_isRefused_112, ae_X1_isRefused_125, ae_X1_isRefused_126, ae_X1_isRefused_133, ae_X1_isRefused_140, ae_X1_isRefused_143, ae_X1_isRefused_147, ae_X1_isRefused_149, ae_X1_isRefused_158, ae_X1_isRefused_159, ae_X1_isRefused_168, ha, hb, f0, av_ref]
    exact av_rfo_bn (fun b M' h => by simp only [ae_X1_isRefused_0, ae_X1_isRefused_7, ae_X1_isRefused_56, ae_X1_isRefused_69, ae_X1_isRefused_70, ae_X1_isRefused_83, ae_X1_isRefused_84, ae_X1_isRefused_97, ae_X1_isRefused_98, ae_X1_isRefused_111, ae_X1_isRefused_112, ae_X1_isRefused_125, ae_X1_isRefused_126, ae_X1_isRefused_133, ae_X1_isRefused_140, ae_X1_isRefused_143, ae_X1_isRefused_147, ae_X1_isRefused_149, ae_X1_isRefused_158, ae_X1_isRefused_159, ae_X1_isRefused_168, am_tl_s, h])
  · rw [show nI (1 + 1) = 2 from rfl]
    simp [am_sw, ae_X1_isRefused_0, ae_X1_isRefused_7, ae_X1_isRefused_56, ae_X1_isRefused_69, ae_X1_isRefused_70, ae_X1_isRefused_83, ae_X1_isRefused_84, ae_X1_isRefused_97, ae_X1_isRefused_98, ae_X1_isRefused_111, ae_X1_isRefused_112, ae_X1_isRefused_125, ae_X1_isRefused_126, ae_X1_isRefused_133, ae_X1_isRefused_140, ae_X1_isRefused_143, ae_X1_isRefused_147, ae_X1_isRefused_149, ae_X1_isRefused_158, ae_X1_isRefused_159, ae_X1_isRefused_168, ha, hb, f1, av_ref]
    exact av_rfo_bn (fun b M' h => by simp only [ae_X1_isRefused_0, ae_X1_isRefused_7, ae_X1_isRefused_56, ae_X1_isRefused_69, ae_X1_isRefused_70, ae_X1_isRefused_83, ae_X1_isRefused_84, ae_X1_isRefused_97, ae_X1_isRefused_98, ae_X1_isRefused_111, ae_X1_isRefused_112, ae_X1_isRefused_125, ae_X1_isRefused_126, ae_X1_isRefused_133, ae_X1_isRefused_140, ae_X1_isRefused_143, ae_X1_isRefused_147, ae_X1_isRefused_149, ae_X1_isRefused_158, ae_X1_isRefused_159, ae_X1_isRefused_168, am_tl_s, h])
  · rw [show nI (2 + 1) = 3 from rfl]
    simp [am_sw, ae_X1_isRefused_0, ae_X1_isRefused_7, ae_X1_isRefused_56, ae_X1_isRefused_69, ae_X1_isRefused_70, ae_X1_isRefused_83, ae_X1_isRefused_84, ae_X1_isRefused_97, ae_X1_isRefused_98, ae_X1_isRefused_111, ae_X1_isRefused_112, ae_X1_isRefused_125, ae_X1_isRefused_126, ae_X1_isRefused_133, ae_X1_isRefused_140, ae_X1_isRefused_143, ae_X1_isRefused_147, ae_X1_isRefused_149, ae_X1_isRefused_158, ae_X1_isRefused_159, ae_X1_isRefused_168, ha, hb, f2, av_ref]
    exact av_rfo_bn (fun b M' h => by simp only [ae_X1_isRefused_0, ae_X1_isRefused_7, ae_X1_isRefused_56, ae_X1_isRefused_69, ae_X1_isRefused_70, ae_X1_isRefused_83, ae_X1_isRefused_84, ae_X1_isRefused_97, ae_X1_isRefused_98, ae_X1_isRefused_111, ae_X1_isRefused_112, ae_X1_isRefused_125, ae_X1_isRefused_126, ae_X1_isRefused_133, ae_X1_isRefused_140, ae_X1_isRefused_143, ae_X1_isRefused_147, ae_X1_isRefused_149, ae_X1_isRefused_158, ae_X1_isRefused_159, ae_X1_isRefused_168, am_tl_s, h])
  · rw [show nI (3 + 1) = 4 from rfl]
    simp [am_sw, ae_X1_isRefused_0, ae_X1_isRefused_7, ae_X1_isRefused_56, ae_X1_isRefused_69, ae_X1_isRefused_70, ae_X1_isRefused_83, ae_X1_isRefused_84, ae_X1_isRefused_97, ae_X1_isRefused_98, ae_X1_isRefused_111, ae_X1_isRefused_112, ae_X1_isRefused_125, ae_X1_isRefused_126, ae_X1_isRefused_133, ae_X1_isRefused_140, ae_X1_isRefused_143, ae_X1_isRefused_147, ae_X1_isRefused_149, ae_X1_isRefused_158, ae_X1_isRefused_159, ae_X1_isRefused_168, ha, hb, f3, av_ref]
    exact av_rfo_bn (fun b M' h => by simp only [ae_X1_isRefused_0, ae_X1_isRefused_7, ae_X1_isRefused_56, ae_X1_isRefused_69, ae_X1_isRefused_70, ae_X1_isRefused_83, ae_X1_isRefused_84, ae_X1_isRefused_97, ae_X1_isRefused_98, ae_X1_isRefused_111, ae_X1_isRefused_112, ae_X1_isRefused_125, ae_X1_isRefused_126, ae_X1_isRefused_133, ae_X1_isRefused_140, ae_X1_isRefused_143, ae_X1_isRefused_147, ae_X1_isRefused_149, ae_X1_isRefused_158, ae_X1_isRefused_159, ae_X1_isRefused_168, am_tl_s, h])
  · rw [show nI (4 + 1) = 5 from rfl]
    simp [am_sw, ae_X1_isRefused_0, ae_X1_isRefused_7, ae_X1_isRefused_56, ae_X1_isRefused_69, ae_X1_isRefused_70, ae_X1_isRefused_83, ae_X1_isRefused_84, ae_X1_isRefused_97, ae_X1_isRefused_98, ae_X1_isRefused_111, ae_X1_isRefused_112, ae_X1_isRefused_125, ae_X1_isRefused_126, ae_X1_isRefused_133, ae_X1_isRefused_140, ae_X1_isRefused_143, ae_X1_isRefused_147, ae_X1_isRefused_149, ae_X1_isRefused_158, ae_X1_isRefused_159, ae_X1_isRefused_168, ha, hb, f4, av_ref]
    exact av_rfo_bn (fun b M' h => by simp only [ae_X1_isRefused_0, ae_X1_isRefused_7, ae_X1_isRefused_56, ae_X1_isRefused_69, ae_X1_isRefused_70, ae_X1_isRefused_83, ae_X1_isRefused_84, ae_X1_isRefused_97, ae_X1_isRefused_98, ae_X1_isRefused_111, ae_X1_isRefused_112, ae_X1_isRefused_125, ae_X1_isRefused_126, ae_X1_isRefused_133, ae_X1_isRefused_140, ae_X1_isRefused_143, ae_X1_isRefused_147, ae_X1_isRefused_149, ae_X1_isRefused_158, ae_X1_isRefused_159, ae_X1_isRefused_168, am_tl_s, h])
  · rw [show nI (5 + 1) = 6 from rfl]
    by_cases d : L.length = 0
    · have d' : nI L.length = 0 := by rw [d]; rfl
      rw [d'] at hct
      simp [am_sw, ae_X1_isRefused_0, ae_X1_isRefused_7, ae_X1_isRefused_56, ae_X1_isRefused_69, ae_X1_isRefused_70, ae_X1_isRefused_83, ae_X1_isRefused_84, ae_X1_isRefused_97, ae_X1_isRefused_98, ae_X1_isRefused_111, ae_X1_isRefused_112, ae_X1_isRefused_125, ae_X1_isRefused_126, ae_X1_isRefused_133, ae_X1_isRefused_140, ae_X1_isRefused_143, ae_X1_isRefused_147, ae_X1_isRefused_149, ae_X1_isRefused_158, ae_X1_isRefused_159, ae_X1_isRefused_168, am_bnx_v, am_bnx_e, am_tl_s, am_tl_n, am_rv_s, am_add_rx, ac_tell2, hct, av_ref, av_q5, d, av_rfo]
    · have d' : ¬ nI L.length = 0 := nI_ne0 (by omega) (by omega)
      simp [am_sw, ae_X1_isRefused_0, ae_X1_isRefused_7, ae_X1_isRefused_56, ae_X1_isRefused_69, ae_X1_isRefused_70, ae_X1_isRefused_83, ae_X1_isRefused_84, ae_X1_isRefused_97, ae_X1_isRefused_98, ae_X1_isRefused_111, ae_X1_isRefused_112, ae_X1_isRefused_125, ae_X1_isRefused_126, ae_X1_isRefused_133, ae_X1_isRefused_140, ae_X1_isRefused_143, ae_X1_isRefused_147, ae_X1_isRefused_149, ae_X1_isRefused_158, ae_X1_isRefused_159, ae_X1_isRefused_168, am_bnx_v, am_bnx_e, am_tl_s, am_tl_n, am_rv_s, am_add_rx, ac_tell2, hct, d', av_ref, av_q5, d, av_rfo]
  · rw [show nI (6 + 1) = 7 from rfl]
    simp [am_sw, ae_X1_isRefused_0, ae_X1_isRefused_7, ae_X1_isRefused_56, ae_X1_isRefused_69, ae_X1_isRefused_70, ae_X1_isRefused_83, ae_X1_isRefused_84, ae_X1_isRefused_97, ae_X1_isRefused_98, ae_X1_isRefused_111, ae_X1_isRefused_112, ae_X1_isRefused_125, ae_X1_isRefused_126, ae_X1_isRefused_133, ae_X1_isRefused_140, ae_X1_isRefused_143, ae_X1_isRefused_147, ae_X1_isRefused_149, ae_X1_isRefused_158, ae_X1_isRefused_159, ae_X1_isRefused_168, ha, hb, f6, av_ref]
    exact av_rfo_bn (fun b M' h => by simp only [ae_X1_isRefused_0, ae_X1_isRefused_7, ae_X1_isRefused_56, ae_X1_isRefused_69, ae_X1_isRefused_70, ae_X1_isRefused_83, ae_X1_isRefused_84, ae_X1_isRefused_97, ae_X1_isRefused_98, ae_X1_isRefused_111, ae_X1_isRefused_112, ae_X1_isRefused_125, ae_X1_isRefused_126, ae_X1_isRefused_133, ae_X1_isRefused_140, ae_X1_isRefused_143, ae_X1_isRefused_147, ae_X1_isRefused_149, ae_X1_isRefused_158, ae_X1_isRefused_159, ae_X1_isRefused_168, am_tl_s, h])
  · rw [show nI (7 + 1) = 8 from rfl]
    simp [am_sw, ae_X1_isRefused_0, ae_X1_isRefused_7, ae_X1_isRefused_56, ae_X1_isRefused_69, ae_X1_isRefused_70, ae_X1_isRefused_83, ae_X1_isRefused_84, ae_X1_isRefused_97, ae_X1_isRefused_98, ae_X1_isRefused_111, ae_X1_isRefused_112, ae_X1_isRefused_125, ae_X1_isRefused_126, ae_X1_isRefused_133, ae_X1_isRefused_140, ae_X1_isRefused_143, ae_X1_isRefused_147, ae_X1_isRefused_149, ae_X1_isRefused_158, ae_X1_isRefused_159, ae_X1_isRefused_168, ha, hb, f7, av_ref]
    exact av_rfo_bn (fun b M' h => by simp only [ae_X1_isRefused_0, ae_X1_isRefused_7, ae_X1_isRefused_56, ae_X1_isRefused_69, ae_X1_isRefused_70, ae_X1_isRefused_83, ae_X1_isRefused_84, ae_X1_isRefused_97, ae_X1_isRefused_98, ae_X1_isRefused_111, ae_X1_isRefused_112, ae_X1_isRefused_125, ae_X1_isRefused_126, ae_X1_isRefused_133, ae_X1_isRefused_140, ae_X1_isRefused_143, ae_X1_isRefused_147, ae_X1_isRefused_149, ae_X1_isRefused_158, ae_X1_isRefused_159, ae_X1_isRefused_168, am_tl_s, h])
