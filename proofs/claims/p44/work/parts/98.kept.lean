/-! the law's end: what was undone and kept -/
theorem lg_0 (x : Int64) : lg_cmp x x = 0 := by
  unfold lg_cmp
  simp
def hk (S : Nat → Int64) (made : Nat) (σ : Nat → Int32) (L : List (Nat → Int32)) (H : List av_K) : Prop := H.length = min 8 made ∧ (∀ j, j < H.length → S (made - H.length + j) = su_e (av_h H j).1 (av_h H j).2) ∧ S made = su_e σ L
section
variable {Lx bd : Nat} {xs : Nat → Int32} {S : Nat → Int64} {σ : Nat → Int32} {L : List (Nat → Int32)} {H : List av_K} {P : Option av_K}
theorem lq_acc10 {M : am_M} (hZ : pZ Lx xs S bd σ L H P M) : wq (am_val iL_account 0 [some (.ref (am_c 0 12)), some (.int 10), none] [] M) 1 (qi (pZ Lx xs S bd σ L H P) (nI H.length)) := lq_acc hZ rfl
theorem lq_acc1 {M : am_M} (hZ : pZ Lx xs S bd σ L H P M) : wq (am_val iL_account 0 [some (.ref (am_c 0 12)), some (.int 1), none] [] M) 1 (qi (pZ Lx xs S bd σ L H P) (nI (av_np σ))) := lq_acc hZ (pZ_np hZ).1
theorem lq_acc2 {M : am_M} (hZ : pZ Lx xs S bd σ L H P M) : wq (am_val iL_account 0 [some (.ref (am_c 0 12)), some (.int 2), none] [] M) 1 (qi (pZ Lx xs S bd σ L H P) (nI L.length)) := lq_acc hZ rfl
theorem pZ_S {M : am_M} (hZ : pZ Lx xs S bd σ L H P M) (j : Nat) : M.2.2.1 (am_c 274 27) j = S j := hZ.1.2.2.1 j
/-- back through the changes -/
theorem kp_44 {c made np : Nat} {x2 x3 : Int32} {K : Nat} {Q : Option Value → am_M → Prop} : ∀ (l : Nat) (σ : Nat → Int32) (L : List (Nat → Int32)) (H : List av_K) (M : am_M), H.length = l → c + l < 60 → (∀ j, j < l → S (c + j) = su_e (av_h H j).1 (av_h H j).2) → pZ Lx xs S bd σ L H P M →
    (∀ x4 x5 σ' L' M', pZ Lx xs S bd σ' L' [] P M' → wq (am_val iL_isKept 81 [some (.ref (am_c 0 12)), some (.ref (am_c 274 27)), some (.int x2), some (.int x3), some (.int x4), some (.int x5)] [] M') K Q) →
    wq (am_val iL_isKept 44 [some (.ref (am_c 0 12)), some (.ref (am_c 274 27)), some (.int x2), some (.int x3), some (.int (nI l)), some (.int (nI (c + l) + -1))] [] M) (201 * l + K) Q := by
  intro l
  induction l with
  | zero =>
    intro σ L H M hl hc hS hZ h
    have hn : H = [] := List.length_eq_zero_iff.mp hl
    subst hn
    rw [ae_L_isKept_44, if_pos (by decide)]
    exact wq_k (h _ _ σ L M hZ) (by omega)
  | succ l ih =>
    intro σ L H M hl hc hS hZ h
    have e1 : nI (l + 1) + -1 = nI l := nI_m1
    have e2 : nI (c + (l + 1)) + -1 = nI (c + l) := nI_m1
    rw [ae_L_isKept_44, if_neg (nI_nle (by omega) (by omega)), ae_L_isKept_49]
    refine wq_i (lq_undo hl hZ) (by omega) fun M1 hZ1 => ?_
    simp only [am_tl_s]
    rw [ae_L_isKept_56, e1, if_neg (not_not_intro rfl), ae_L_isKept_61]
    refine wq_l (lq_sum hZ1) (by omega) fun M2 hZ2 => ?_
    simp only [am_tl_s]
    have hin : am_in (nI (c + (l + 1)) + -1) 60 = true := by rw [e2]; exact am_in_n (by omega) (by decide)
    rw [ae_L_isKept_65 hin, e2, am_tn (by omega), pZ_S hZ2, hS l (by omega), if_pos (lg_0 _), ae_L_isKept_75]
    have hlen : (H.take l).length = l := by rw [List.length_take, hl]; omega
    refine wq_k (ih _ _ (H.take l) M2 hlen (by omega) (fun j hj => ?_) hZ2 h) (by omega)
    have e3 : av_h (H.take l) j = av_h H j := by
      unfold av_h
      rw [List.getD_eq_getElem?_getD, List.getD_eq_getElem?_getD, List.getElem?_take, if_pos hj]
    rw [e3]
    exact hS j (by omega)
theorem lq_isKept {made : Nat} {x : Int32} {M : am_M} (hx : x = nI made) (hm : made < 60) (hZ : pZ Lx xs S bd σ L H P M) (hh : hk S made σ L H) : wq (am_val iL_isKept 0 [some (.ref (am_c 0 12)), some (.ref (am_c 274 27)), some (.int x), none, none, none] [] M) 2000 (qi (fun _ => True) 1) := by
  subst hx
  obtain ⟨h1, h2, h3⟩ := hh
  have hlen : H.length ≤ 8 := by omega
  have emin : (if nI made < (8 : Int32) then nI made else 8) = nI H.length := by
    by_cases q : made < 8
    · rw [if_pos (show nI made < (8 : Int32) from nI_lt (b := 8) q (by decide)), show H.length = made by omega]
    · rw [if_neg (show ¬ nI made < (8 : Int32) from nI_nlt (b := 8) (by omega) (by omega)), show H.length = 8 by omega]
      rfl
  rw [ae_L_isKept_0]
  refine wq_i (lq_acc1 hZ) (by omega) fun M1 hZ1 => ?_
  simp only [am_tl_s]
  rw [ae_L_isKept_5]
  refine wq_i (lq_save hZ1) (by omega) fun M2 hZ2 => ?_
  simp only [am_tl_s]
  rw [ae_L_isKept_10, if_neg (not_not_intro rfl), ae_L_isKept_14]
  refine wq_i (lq_acc10 hZ2) (by omega) fun M3 hZ3 => ?_
  simp only [am_tl_s]
  rw [ae_L_isKept_20, emin, if_pos rfl, ae_L_isKept_31, emin]
  have key := kp_44 (S := S) (Lx := Lx) (xs := xs) (bd := bd) (P := some (σ, L)) (c := made - H.length) (made := made) (np := av_np σ) (x2 := nI made) (x3 := nI (av_np σ)) (K := 300) (Q := qi (fun _ => True) 1) H.length σ L H M3 rfl (by omega) h2 hZ3 (fun x4 x5 σ' L' M4 hZ4 => by
    rw [ae_L_isKept_81]
    refine wq_i (lq_undo0 rfl hZ4) (by omega) fun M5 hZ5 => ?_
    simp only [am_tl_s]
    rw [ae_L_isKept_85, if_neg (by decide), ae_L_isKept_90]
    refine wq_i (lq_restore (p := (σ, L)) rfl hZ5) (by omega) fun M6 hZ6 => ?_
    have hn0 : σ 0 = nI (av_np σ) := (pZ_np hZ).1
    simp only [am_tl_s]
    rw [ae_L_isKept_94, hn0, if_neg (not_not_intro rfl), ae_L_isKept_98]
    refine wq_l (lq_sum hZ6) (by omega) fun M7 hZ7 => ?_
    simp only [am_tl_s]
    have hin : am_in (nI made) 60 = true := am_in_n hm (by decide)
    rw [ae_L_isKept_102 hin, am_tn (by omega), pZ_S hZ7, h3, if_neg (not_not_intro (lg_0 _)), ae_L_isKept_109]
    refine wq_i (lq_undo0 rfl hZ7) (by omega) fun M8 hZ8 => ?_
    simp only [am_tl_s]
    rw [ae_L_isKept_113, if_neg (by decide), ae_L_isKept_118]
    exact wq_e ⟨rfl, trivial⟩)
  rw [show made - H.length + H.length = made by omega] at key
  rw [show nI made - 1 = nI made + -1 from Int32.sub_eq_add_neg _ _]
  exact wq_k key (by omega)
end
