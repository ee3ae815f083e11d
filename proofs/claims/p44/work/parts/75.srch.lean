/-! what is looked for: walls, teams, sounds in an order -/
theorem av_srch {β : Type} {H : Nat → β → am_T} {f : Nat → Bool} {N : Nat} {rs : Nat → am_T} {rn : am_T} (hN : ∀ o, H N o = rn) (ht : ∀ i o, i < N → f i = true → H i o = rs i) (hf : ∀ i o, i < N → f i = false → (∃ o', H i o = H (i + 1) o') ∨ (H i o = rn ∧ ∀ j, i ≤ j → j < N → f j = false)) (o : β) : H 0 o = match av_fst f N with
    | some j => rs j
    | none => rn := by
  have key : ∀ (m i : Nat) (o : β), i + m = N → (∀ j, j < i → f j = false) → H i o = match av_fst f N with
      | some j => rs j
      | none => rn := by
    intro m
    induction m with
    | zero =>
      intro i o hi hb
      obtain rfl : i = N := by omega
      rw [av_fst_n hb, hN]
    | succ m ih =>
      intro i o hi hb
      cases hx : f i with
      | true => rw [av_fst_s hb hx (by omega), ht i o (by omega) hx]
      | false =>
        rcases hf i o (by omega) hx with ⟨o', h⟩ | ⟨h, h2⟩
        · rw [h]
          exact ih (i + 1) o' (by omega) (fun j hj => by
            by_cases hji : j = i
            · rw [hji]; exact hx
            · exact hb j (by omega))
        · rw [h, av_fst_n (fun j hj => by
            by_cases hji : j < i
            · exact hb j hji
            · exact h2 j (by omega) hj)]
  exact key N 0 o (by omega) (fun j hj => absurd hj (Nat.not_lt_zero _))
theorem am_pl_f {n : Nat} (h : 16 ≤ n) (hn : n < 2147483648) : am_pl (nI n) = false := by
  unfold am_pl
  rw [decide_eq_false (show ¬ nI n < 16 from nI_nlt (b := 16) h (by omega)), Bool.and_false]
theorem am_pl_m : am_pl (-1) = false := by decide
theorem nI_m1 {n : Nat} : nI (n + 1) + (-1) = nI n := by
  rw [← nI_pred n, Int32.sub_eq_add_neg]
theorem nI_p0 : nI 0 + (-1) = -1 := by decide
theorem nI_q0 : nI 0 - 1 = -1 := by decide
/-! nextWall -/
def av_nu (σ : Nat → Int32) (p i : Nat) : Bool := decide (p + 1 + i < 16) && decide (0 < σ (18 + 2 * (p + 1 + i)))
def av_nd (σ : Nat → Int32) (p i : Nat) : Bool := decide (i < p) && decide (0 < σ (18 + 2 * (p - 1 - i)))
def av_nw (σ : Nat → Int32) (p : Nat) (g : Int32) : Option Nat := if g = 0 then (match av_fst (av_nd σ p) 16 with
    | some i => some (p - 1 - i)
    | none => none) else (match av_fst (av_nu σ p) 16 with
    | some i => some (p + 1 + i)
    | none => none)
def aq_next (σ : Nat → Int32) (a g : Int32) : av_A := if am_pl a = false then .inr (1, 1) else match av_nw σ (av_ix a) g with
  | some k => .inl (nI k)
  | none => .inr (3, 2)
theorem cq_next {B : Nat} {rm : Nat → Nat} {σ : Nat → Int32} {L : List (Nat → Int32)} {a g : Int32} {M : am_M} (p0 : M.2.1 (am_c 0 12) 0 = am_c B 1 + 1) (hC : av_C M B rm σ L) : av_qc (am_val iX12_nextWall 0 [some (.ref (am_c 0 12)), some (.int a), some (.int g), none, none] [] M) (aq_next σ a g) M := by
  have w0 := hC.1.1.1
  unfold aq_next
  cases hp : am_pl a with
  | false =>
    rw [if_pos rfl]
    show (_ : am_T) = some (.inr 1, M, 1, 6)
    simp only [ae_X12_nextWall_0, ae_X12_nextWall_4, ae_X12_nextWall_8, ae_X12_nextWall_12, ae_X12_nextWall_24, ae_X12_nextWall_27, ae_X12_nextWall_31, ae_X12_nextWall_34, ae_X12_nextWall_39, ae_X12_nextWall_42, ae_X12_nextWall_45, ae_X12_nextWall_54, am_bnx_v, am_bnx_e, am_tl_s, am_tl_n, am_rv_s, am_add_rx, ac_ckPlace_f hp]
  | true =>
    rw [if_neg (by decide)]
    have c0 := ac_ckPlace_t (M := M) hp
    obtain ⟨p, hk, rfl⟩ := am_pl_n hp
    rw [av_ix_n (by omega)]
    have hat : ∀ n, n < 16 → am_val iX11_isAt 0 [some (.ref (am_c (B + 1) 11)), some (.int (nI n))] [] M = some (.inl (some (.int (am_bi (decide (0 < σ (18 + 2 * n)))))), M, 0, 0) := fun n hn => by rw [ac_bisAt hC, av_hf_n hn]
    unfold av_nw
    by_cases hg : g = 0
    · rw [if_pos hg]
      have key := av_srch (β := Unit) (H := fun i _ => am_val iX12_nextWall 19 [some (.ref (am_c 0 12)), some (.int (nI p)), some (.int g), some (.int (-1)), some (.int ((if i < p then nI (p - 1 - i) else -1)))] [] M) (f := av_nd σ p) (N := 16) (rs := fun i => some (.inl (some (.int (nI (p - 1 - i)))), M, 0, 0)) (rn := some (.inr 3, M, 1, 6))
        (fun _ => by
          rw [if_neg (show ¬ 16 < p by omega), ae_X12_nextWall_19]
          simp only [ae_X12_nextWall_0, ae_X12_nextWall_4, ae_X12_nextWall_8, ae_X12_nextWall_12, ae_X12_nextWall_24, ae_X12_nextWall_27, ae_X12_nextWall_31, ae_X12_nextWall_34, ae_X12_nextWall_39, ae_X12_nextWall_42, ae_X12_nextWall_45, ae_X12_nextWall_54, am_bnx_v, am_bnx_e, am_tl_s, am_tl_n, am_rv_s, am_add_rx, ac_isPlace, am_pl_m, am_bi_f, not_true_eq_false, not_false_eq_true, if_true, if_false, am_1n0, or_true, true_or, eq_self, Bool.true_eq_false, Bool.false_eq_true, cond_true, cond_false])
        (fun i _ hi hf => by
          unfold av_nd at hf
          simp only [Bool.and_eq_true, decide_eq_true_eq] at hf
          have h1 := hat (p - 1 - i) (by omega)
          rw [decide_eq_true hf.2] at h1
          rw [if_pos hf.1, ae_X12_nextWall_19]
          simp only [ae_X12_nextWall_0, ae_X12_nextWall_4, ae_X12_nextWall_8, ae_X12_nextWall_12, ae_X12_nextWall_24, ae_X12_nextWall_27, ae_X12_nextWall_31, ae_X12_nextWall_34, ae_X12_nextWall_39, ae_X12_nextWall_42, ae_X12_nextWall_45, ae_X12_nextWall_54, am_bnx_v, am_bnx_e, am_tl_s, am_tl_n, am_rv_s, am_add_rx, ac_isPlace, am_n_pl (show p - 1 - i < 16 by omega), am_bi_t, p0, w0, h1, not_true_eq_false, not_false_eq_true, if_true, if_false, am_1n0, or_true, true_or, eq_self, Bool.true_eq_false, Bool.false_eq_true, cond_true, cond_false])
        (fun i _ hi hf => by
          by_cases hip : i < p
          · have hne : ¬ 0 < σ (18 + 2 * (p - 1 - i)) := fun h => by
              unfold av_nd at hf
              rw [decide_eq_true hip, decide_eq_true h] at hf
              cases hf
            have h1 := hat (p - 1 - i) (by omega)
            rw [decide_eq_false hne] at h1
            refine Or.inl ⟨(), ?_⟩
            show am_val iX12_nextWall 19 [some (.ref (am_c 0 12)), some (.int (nI p)), some (.int g), some (.int (-1)), some (.int ((if i < p then nI (p - 1 - i) else -1)))] [] M = am_val iX12_nextWall 19 [some (.ref (am_c 0 12)), some (.int (nI p)), some (.int g), some (.int (-1)), some (.int ((if i + 1 < p then nI (p - 1 - (i + 1)) else -1)))] [] M
            have hx : nI (p - 1 - i) + (-1) = if i + 1 < p then nI (p - 1 - (i + 1)) else -1 := by
              by_cases h2 : i + 1 < p
              · rw [if_pos h2, show p - 1 - i = p - 1 - (i + 1) + 1 by omega, nI_m1]
              · rw [if_neg h2, show p - 1 - i = 0 by omega, nI_p0]
            rw [if_pos hip, ae_X12_nextWall_19]
            simp only [ae_X12_nextWall_0, ae_X12_nextWall_4, ae_X12_nextWall_8, ae_X12_nextWall_12, ae_X12_nextWall_24, ae_X12_nextWall_27, ae_X12_nextWall_31, ae_X12_nextWall_34, ae_X12_nextWall_39, ae_X12_nextWall_42, ae_X12_nextWall_45, ae_X12_nextWall_54, am_bnx_v, am_bnx_e, am_tl_s, am_tl_n, am_rv_s, am_add_rx, ac_isPlace, am_n_pl (show p - 1 - i < 16 by omega), am_bi_t, am_bi_f, p0, w0, h1, hx, not_true_eq_false, not_false_eq_true, if_true, if_false, am_1n0, or_true, true_or, eq_self, Bool.true_eq_false, Bool.false_eq_true, cond_true, cond_false]
          · refine Or.inr ⟨?_, fun j hj _ => ?_⟩
            · show am_val iX12_nextWall 19 [some (.ref (am_c 0 12)), some (.int (nI p)), some (.int g), some (.int (-1)), some (.int ((if i < p then nI (p - 1 - i) else -1)))] [] M = _
              rw [if_neg hip, ae_X12_nextWall_19]
              simp only [ae_X12_nextWall_0, ae_X12_nextWall_4, ae_X12_nextWall_8, ae_X12_nextWall_12, ae_X12_nextWall_24, ae_X12_nextWall_27, ae_X12_nextWall_31, ae_X12_nextWall_34, ae_X12_nextWall_39, ae_X12_nextWall_42, ae_X12_nextWall_45, ae_X12_nextWall_54, am_bnx_v, am_bnx_e, am_tl_s, am_tl_n, am_rv_s, am_add_rx, ac_isPlace, am_pl_m, am_bi_f, not_true_eq_false, not_false_eq_true, if_true, if_false, am_1n0, or_true, true_or, eq_self, Bool.true_eq_false, Bool.false_eq_true, cond_true, cond_false]
            · unfold av_nd
              rw [decide_eq_false (show ¬ j < p by omega)]
              rfl) ()
      have key : am_val iX12_nextWall 19 [some (.ref (am_c 0 12)), some (.int (nI p)), some (.int g), some (.int (-1)), some (.int ((if 0 < p then nI (p - 1 - 0) else -1)))] [] M = _ := key
      have hx : nI p + (-1) = if 0 < p then nI (p - 1 - 0) else -1 := by
        by_cases h2 : 0 < p
        · rw [if_pos h2, show p = p - 1 - 0 + 1 by omega, nI_m1]
          congr 1
        · rw [if_neg h2, show p = 0 by omega, nI_p0]
      rw [← hx] at key
      rcases av_fst_c (f := av_nd σ p) 16 with ⟨e, -⟩ | ⟨j, -, e, -, -⟩
      · rw [e] at key ⊢
        show (_ : am_T) = some (.inr 3, M, 1, 6)
        simp only [ae_X12_nextWall_0, ae_X12_nextWall_4, ae_X12_nextWall_8, ae_X12_nextWall_12, ae_X12_nextWall_24, ae_X12_nextWall_27, ae_X12_nextWall_31, ae_X12_nextWall_34, ae_X12_nextWall_39, ae_X12_nextWall_42, ae_X12_nextWall_45, ae_X12_nextWall_54, am_bnx_v, am_bnx_e, am_tl_s, am_tl_n, am_rv_s, am_add_rx, c0, hg, not_true_eq_false, not_false_eq_true, if_true, if_false, am_1n0, or_true, true_or, eq_self, Bool.true_eq_false, Bool.false_eq_true, cond_true, cond_false]
        rw [hg] at key
        exact key
      · rw [e] at key ⊢
        show (_ : am_T) = some (.inl (some (.int (nI (p - 1 - j)))), M, 0, 0)
        simp only [ae_X12_nextWall_0, ae_X12_nextWall_4, ae_X12_nextWall_8, ae_X12_nextWall_12, ae_X12_nextWall_24, ae_X12_nextWall_27, ae_X12_nextWall_31, ae_X12_nextWall_34, ae_X12_nextWall_39, ae_X12_nextWall_42, ae_X12_nextWall_45, ae_X12_nextWall_54, am_bnx_v, am_bnx_e, am_tl_s, am_tl_n, am_rv_s, am_add_rx, c0, hg, not_true_eq_false, not_false_eq_true, if_true, if_false, am_1n0, or_true, true_or, eq_self, Bool.true_eq_false, Bool.false_eq_true, cond_true, cond_false]
        rw [hg] at key
        exact key
    · rw [if_neg hg]
      have key := av_srch (β := Unit) (H := fun i _ => am_val iX12_nextWall 19 [some (.ref (am_c 0 12)), some (.int (nI p)), some (.int g), some (.int 1), some (.int (nI (p + 1 + i)))] [] M) (f := av_nu σ p) (N := 16) (rs := fun i => some (.inl (some (.int (nI (p + 1 + i)))), M, 0, 0)) (rn := some (.inr 3, M, 1, 6))
        (fun _ => by
          rw [ae_X12_nextWall_19]
          simp only [ae_X12_nextWall_0, ae_X12_nextWall_4, ae_X12_nextWall_8, ae_X12_nextWall_12, ae_X12_nextWall_24, ae_X12_nextWall_27, ae_X12_nextWall_31, ae_X12_nextWall_34, ae_X12_nextWall_39, ae_X12_nextWall_42, ae_X12_nextWall_45, ae_X12_nextWall_54, am_bnx_v, am_bnx_e, am_tl_s, am_tl_n, am_rv_s, am_add_rx, ac_isPlace, am_pl_f (show 16 ≤ p + 1 + 16 by omega) (show p + 1 + 16 < 2147483648 by omega), am_bi_f, not_true_eq_false, not_false_eq_true, if_true, if_false, am_1n0, or_true, true_or, eq_self, Bool.true_eq_false, Bool.false_eq_true, cond_true, cond_false])
        (fun i _ hi hf => by
          unfold av_nu at hf
          simp only [Bool.and_eq_true, decide_eq_true_eq] at hf
          have h1 := hat (p + 1 + i) hf.1
          rw [decide_eq_true hf.2] at h1
          rw [ae_X12_nextWall_19]
          simp only [ae_X12_nextWall_0, ae_X12_nextWall_4, ae_X12_nextWall_8, ae_X12_nextWall_12, ae_X12_nextWall_24, ae_X12_nextWall_27, ae_X12_nextWall_31, ae_X12_nextWall_34, ae_X12_nextWall_39, ae_X12_nextWall_42, ae_X12_nextWall_45, ae_X12_nextWall_54, am_bnx_v, am_bnx_e, am_tl_s, am_tl_n, am_rv_s, am_add_rx, ac_isPlace, am_n_pl hf.1, am_bi_t, p0, w0, h1, not_true_eq_false, not_false_eq_true, if_true, if_false, am_1n0, or_true, true_or, eq_self, Bool.true_eq_false, Bool.false_eq_true, cond_true, cond_false])
        (fun i _ hi hf => by
          by_cases hip : p + 1 + i < 16
          · have hne : ¬ 0 < σ (18 + 2 * (p + 1 + i)) := fun h => by
              unfold av_nu at hf
              rw [decide_eq_true hip, decide_eq_true h] at hf
              cases hf
            have h1 := hat (p + 1 + i) hip
            rw [decide_eq_false hne] at h1
            refine Or.inl ⟨(), ?_⟩
            show am_val iX12_nextWall 19 [some (.ref (am_c 0 12)), some (.int (nI p)), some (.int g), some (.int 1), some (.int (nI (p + 1 + i)))] [] M = am_val iX12_nextWall 19 [some (.ref (am_c 0 12)), some (.int (nI p)), some (.int g), some (.int 1), some (.int (nI (p + 1 + (i + 1))))] [] M
            have hx : nI (p + 1 + i) + 1 = nI (p + 1 + (i + 1)) := by rw [nI_1]; rfl
            rw [ae_X12_nextWall_19]
            simp only [ae_X12_nextWall_0, ae_X12_nextWall_4, ae_X12_nextWall_8, ae_X12_nextWall_12, ae_X12_nextWall_24, ae_X12_nextWall_27, ae_X12_nextWall_31, ae_X12_nextWall_34, ae_X12_nextWall_39, ae_X12_nextWall_42, ae_X12_nextWall_45, ae_X12_nextWall_54, am_bnx_v, am_bnx_e, am_tl_s, am_tl_n, am_rv_s, am_add_rx, ac_isPlace, am_n_pl hip, am_bi_t, am_bi_f, p0, w0, h1, hx, not_true_eq_false, not_false_eq_true, if_true, if_false, am_1n0, or_true, true_or, eq_self, Bool.true_eq_false, Bool.false_eq_true, cond_true, cond_false]
          · have hpf := am_pl_f (show 16 ≤ p + 1 + i by omega) (show p + 1 + i < 2147483648 by omega)
            refine Or.inr ⟨?_, fun j hj _ => ?_⟩
            · show am_val iX12_nextWall 19 [some (.ref (am_c 0 12)), some (.int (nI p)), some (.int g), some (.int 1), some (.int (nI (p + 1 + i)))] [] M = _
              rw [ae_X12_nextWall_19]
              simp only [ae_X12_nextWall_0, ae_X12_nextWall_4, ae_X12_nextWall_8, ae_X12_nextWall_12, ae_X12_nextWall_24, ae_X12_nextWall_27, ae_X12_nextWall_31, ae_X12_nextWall_34, ae_X12_nextWall_39, ae_X12_nextWall_42, ae_X12_nextWall_45, ae_X12_nextWall_54, am_bnx_v, am_bnx_e, am_tl_s, am_tl_n, am_rv_s, am_add_rx, ac_isPlace, hpf, am_bi_f, not_true_eq_false, not_false_eq_true, if_true, if_false, am_1n0, or_true, true_or, eq_self, Bool.true_eq_false, Bool.false_eq_true, cond_true, cond_false]
            · unfold av_nu
              rw [decide_eq_false (show ¬ p + 1 + j < 16 by omega)]
              rfl) ()
      have key : am_val iX12_nextWall 19 [some (.ref (am_c 0 12)), some (.int (nI p)), some (.int g), some (.int 1), some (.int (nI (p + 1)))] [] M = _ := key
      rcases av_fst_c (f := av_nu σ p) 16 with ⟨e, -⟩ | ⟨j, -, e, -, -⟩
      · rw [e] at key ⊢
        show (_ : am_T) = some (.inr 3, M, 1, 6)
        simp only [ae_X12_nextWall_0, ae_X12_nextWall_4, ae_X12_nextWall_8, ae_X12_nextWall_12, ae_X12_nextWall_24, ae_X12_nextWall_27, ae_X12_nextWall_31, ae_X12_nextWall_34, ae_X12_nextWall_39, ae_X12_nextWall_42, ae_X12_nextWall_45, ae_X12_nextWall_54, am_bnx_v, am_bnx_e, am_tl_s, am_tl_n, am_rv_s, am_add_rx, c0, hg, not_true_eq_false, not_false_eq_true, if_true, if_false, am_1n0, or_true, true_or, eq_self, Bool.true_eq_false, Bool.false_eq_true, cond_true, cond_false, nI_1]
        exact key
      · rw [e] at key ⊢
        show (_ : am_T) = some (.inl (some (.int (nI (p + 1 + j)))), M, 0, 0)
        simp only [ae_X12_nextWall_0, ae_X12_nextWall_4, ae_X12_nextWall_8, ae_X12_nextWall_12, ae_X12_nextWall_24, ae_X12_nextWall_27, ae_X12_nextWall_31, ae_X12_nextWall_34, ae_X12_nextWall_39, ae_X12_nextWall_42, ae_X12_nextWall_45, ae_X12_nextWall_54, am_bnx_v, am_bnx_e, am_tl_s, am_tl_n, am_rv_s, am_add_rx, c0, hg, not_true_eq_false, not_false_eq_true, if_true, if_false, am_1n0, or_true, true_or, eq_self, Bool.true_eq_false, Bool.false_eq_true, cond_true, cond_false, nI_1]
        exact key
