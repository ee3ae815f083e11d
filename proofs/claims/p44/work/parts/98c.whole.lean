/-! the law's look at all -/
section
variable {Lx bd : Nat} {xs : Nat → Int32} {S : Nat → Int64} {σ : Nat → Int32} {L : List (Nat → Int32)} {H : List av_K} {P : Option av_K}
theorem i32_bool {b : Bool} {x y z : Nat} (hz : z = x + (bif b then 1 else 0)) : nI x + (bif b then 1 else 0) = nI z := by
  subst hz
  cases b
  · exact Int32.add_zero _
  · exact nI_1 x
theorem wh_84 {x2 x3 : Int32} {K : Nat} {Q : Option Value → am_M → Prop}
    (h : ∀ M', pZ Lx xs S bd σ L H P M' → wq (am_val iL_isWhole 129 [some (.ref (am_c 0 12)), some (.ref (am_c 0 44)), some (.int x2), some (.int x3), some (.int (nI (av_np σ))), some (.int (nI L.length)), some (.int (nI (nc (fun k => decide (0 < av_s L k 3)) L.length))), some (.int (av_sum (fun k => av_s L k 1) L.length)), some (.int 0), some (.int (nI L.length)), none, none, none, none, none, none, none, none, none, none] [] M') K Q) :
    ∀ m k, k + m = L.length → ∀ M, pZ Lx xs S bd σ L H P M → wq (am_val iL_isWhole 84 [some (.ref (am_c 0 12)), some (.ref (am_c 0 44)), some (.int x2), some (.int x3), some (.int (nI (av_np σ))), some (.int (nI L.length)), some (.int (nI (nc (fun k => decide (0 < av_s L k 3)) k))), some (.int (av_sum (fun k => av_s L k 1) k)), some (.int 0), some (.int (nI k)), none, none, none, none, none, none, none, none, none, none] [] M) (2 * m + K) Q := by
  intro m
  induction m with
  | zero =>
    intro k hk M hZ
    have hl8 := (pZ_np hZ).2.2
    obtain rfl : k = L.length := by omega
    rw [ae_L_isWhole_84, if_pos (nI_le (Nat.le_refl _) (by omega))]
    exact wq_k (h M hZ) (by omega)
  | succ m ih =>
    intro k hk M hZ
    have hl8 := (pZ_np hZ).2.2
    rw [ae_L_isWhole_84, if_neg (nI_ge (by omega) (by omega)), ae_L_isWhole_91]
    refine wq_i (ls_snd (w := 3) (by omega) (by decide) rfl hZ) (by omega) fun M1 hZ1 => ?_
    simp only [am_tl_s]
    rw [ae_L_isWhole_100]
    by_cases q : av_s L k 3 ≤ 0
    · have q2 : decide (0 < av_s L k 3) = false := decide_eq_false fun z => Int32.not_le.mpr z q
      rw [if_pos q, ae_L_isWhole_107]
      refine wq_i (ls_snd (w := 1) (by omega) (by decide) rfl hZ1) (by omega) fun M2 hZ2 => ?_
      simp only [am_tl_s]
      rw [ae_L_isWhole_120, nI_1, Int32.add_zero]
      have i := ih (k + 1) (by omega) M2 hZ2
      rw [nc_f (p := fun k => decide (0 < av_s L k 3)) q2] at i
      exact wq_k i (by omega)
    · have q2 : decide (0 < av_s L k 3) = true := decide_eq_true (Int32.not_le.mp q)
      rw [if_neg q, ae_L_isWhole_103]
      refine wq_i (ls_snd (w := 1) (by omega) (by decide) rfl hZ1) (by omega) fun M2 hZ2 => ?_
      simp only [am_tl_s]
      rw [ae_L_isWhole_120, nI_1, nI_1]
      have i := ih (k + 1) (by omega) M2 hZ2
      rw [nc_t (p := fun k => decide (0 < av_s L k 3)) q2] at i
      exact wq_k i (by omega)
theorem wh_142 {x2 x3 x6 x7 : Int32} {K : Nat} {Q : Option Value → am_M → Prop}
    (h : ∀ M', pZ Lx xs S bd σ L H P M' → wq (am_val iL_isWhole 226 [some (.ref (am_c 0 12)), some (.ref (am_c 0 44)), some (.int x2), some (.int x3), some (.int (nI (av_np σ))), some (.int (nI L.length)), some (.int x6), some (.int x7), some (.int (mk (pa L 16) L.length)), some (.int (nI (nc (fun q => decide (0 < σ (18 + 2 * q))) 16))), some (.int (nI (nc (fun q => !decide (σ (19 + 2 * q) < 0)) 16))), some (.int (nI (16 + nc (fun q => !decide (σ (19 + 2 * q) < 0)) 16))), some (.int (nI 16)), none, none, none, none, none, none, none] [] M') K Q) :
    ∀ m p, p + m = 16 → ∀ M, pZ Lx xs S bd σ L H P M → wq (am_val iL_isWhole 142 [some (.ref (am_c 0 12)), some (.ref (am_c 0 44)), some (.int x2), some (.int x3), some (.int (nI (av_np σ))), some (.int (nI L.length)), some (.int x6), some (.int x7), some (.int (mk (pa L p) L.length)), some (.int (nI (nc (fun q => decide (0 < σ (18 + 2 * q))) p))), some (.int (nI (nc (fun q => !decide (σ (19 + 2 * q) < 0)) p))), some (.int (nI (16 + nc (fun q => !decide (σ (19 + 2 * q) < 0)) p))), some (.int (nI p)), none, none, none, none, none, none, none] [] M) (4 * m + K) Q := by
  intro m
  induction m with
  | zero =>
    intro p hp M hZ
    obtain rfl : p = 16 := by omega
    rw [ae_L_isWhole_142, if_pos (by decide)]
    exact wq_k (h M hZ) (by omega)
  | succ m ih =>
    intro p hp M hZ
    have hp16 : p < 16 := by omega
    have i := ih (p + 1) (by omega)
    rw [ae_L_isWhole_142, if_neg (show ¬ 16 ≤ nI p from nI_ge (b := 16) hp16 (by decide)), ae_L_isWhole_149]
    -- the end of a round: the length
    have f3 : ∀ M, pZ Lx xs S bd σ L H P M → wq (am_val iL_isWhole 209 [some (.ref (am_c 0 12)), some (.ref (am_c 0 44)), some (.int x2), some (.int x3), some (.int (nI (av_np σ))), some (.int (nI L.length)), some (.int x6), some (.int x7), some (.int (mk (pa L (p + 1)) L.length)), some (.int (nI (nc (fun q => decide (0 < σ (18 + 2 * q))) (p + 1)))), some (.int (nI (nc (fun q => !decide (σ (19 + 2 * q) < 0)) (p + 1)))), some (.int (nI (16 + nc (fun q => !decide (σ (19 + 2 * q) < 0)) p))), some (.int (nI p)), none, none, none, none, none, none, none] [.int (σ (19 + 2 * p)), .int (nI (16 + nc (fun q => !decide (σ (19 + 2 * q) < 0)) p))] M) (4 * m + K) Q := fun M hZ => by
      rw [ae_L_isWhole_209]
      by_cases q : σ (19 + 2 * p) < 0
      · have q2 : (!decide (σ (19 + 2 * p) < 0)) = false := by rw [decide_eq_true q]; rfl
        have i := i M hZ
        rw [show (nI (16 + nc (fun q => !decide (σ (19 + 2 * q) < 0)) (p + 1))) = (nI (16 + nc (fun q => !decide (σ (19 + 2 * q) < 0)) p)) by rw [nc_f (p := fun q => !decide (σ (19 + 2 * q) < 0)) q2]] at i
        rw [if_pos q, ae_L_isWhole_216, nI_1, Int32.add_zero]
        exact i
      · have q2 : (!decide (σ (19 + 2 * p) < 0)) = true := by rw [decide_eq_false q]; rfl
        have i := i M hZ
        rw [show (nI (16 + nc (fun q => !decide (σ (19 + 2 * q) < 0)) (p + 1))) = (nI (16 + nc (fun q => !decide (σ (19 + 2 * q) < 0)) p)) + 1 by rw [nc_t (p := fun q => !decide (σ (19 + 2 * q) < 0)) q2, nI_1] <;> rfl] at i
        rw [if_neg q, ae_L_isWhole_212, nI_1 p]
        exact i
    have f2 : ∀ M, pZ Lx xs S bd σ L H P M → wq (am_val iL_isWhole 197 [some (.ref (am_c 0 12)), some (.ref (am_c 0 44)), some (.int x2), some (.int x3), some (.int (nI (av_np σ))), some (.int (nI L.length)), some (.int x6), some (.int x7), some (.int (mk (pa L p) L.length)), some (.int (nI (nc (fun q => decide (0 < σ (18 + 2 * q))) (p + 1)))), some (.int (nI (nc (fun q => !decide (σ (19 + 2 * q) < 0)) (p + 1)))), some (.int (nI (16 + nc (fun q => !decide (σ (19 + 2 * q) < 0)) p))), some (.int (nI p)), none, none, none, none, none, none, none] [.int (am_it (av_es L (nI p)) L.length 0), .int (mk (pa L p) L.length)] M) (1 + (4 * m + K)) Q := fun M hZ => by
      rw [ae_L_isWhole_197, es_mk, mk_or]
      refine wq_i (lw_o hp16 rfl hZ) (by omega) fun M1 hZ1 => ?_
      simp only [am_tl_s]
      exact wq_k (f3 M1 hZ1) (by omega)
    have f1 : ∀ M, pZ Lx xs S bd σ L H P M → wq (am_val iL_isWhole 178 [some (.ref (am_c 0 12)), some (.ref (am_c 0 44)), some (.int x2), some (.int x3), some (.int (nI (av_np σ))), some (.int (nI L.length)), some (.int x6), some (.int x7), some (.int (mk (pa L p) L.length)), some (.int (nI (nc (fun q => decide (0 < σ (18 + 2 * q))) (p + 1)))), some (.int (nI (nc (fun q => !decide (σ (19 + 2 * q) < 0)) p))), some (.int (nI (16 + nc (fun q => !decide (σ (19 + 2 * q) < 0)) p))), some (.int (nI p)), none, none, none, none, none, none, none] [.int (σ (19 + 2 * p)), .int (nI (nc (fun q => !decide (σ (19 + 2 * q) < 0)) p))] M) (2 + (4 * m + K)) Q := fun M hZ => by
      rw [ae_L_isWhole_178]
      by_cases q : σ (19 + 2 * p) < 0
      · have q2 : (!decide (σ (19 + 2 * p) < 0)) = false := by rw [decide_eq_true q]; rfl
        rw [show (nI (nc (fun q => !decide (σ (19 + 2 * q) < 0)) (p + 1))) = (nI (nc (fun q => !decide (σ (19 + 2 * q) < 0)) p)) by rw [nc_f (p := fun q => !decide (σ (19 + 2 * q) < 0)) q2]] at f2
        rw [if_pos q, ae_L_isWhole_185]
        refine wq_i (lp_echo rfl hp16 hZ) (by omega) fun M1 hZ1 => ?_
        simp only [am_tl_s]
        rw [Int32.add_zero]
        exact wq_k (f2 M1 hZ1) (by omega)
      · have q2 : (!decide (σ (19 + 2 * p) < 0)) = true := by rw [decide_eq_false q]; rfl
        rw [show (nI (nc (fun q => !decide (σ (19 + 2 * q) < 0)) (p + 1))) = (nI (nc (fun q => !decide (σ (19 + 2 * q) < 0)) p)) + 1 by rw [nc_t (p := fun q => !decide (σ (19 + 2 * q) < 0)) q2, nI_1]] at f2
        rw [if_neg q, ae_L_isWhole_181]
        refine wq_i (lp_echo rfl hp16 hZ) (by omega) fun M1 hZ1 => ?_
        simp only [am_tl_s]
        exact wq_k (f2 M1 hZ1) (by omega)
    refine wq_i (lw_h hp16 rfl hZ) (by omega) fun M1 hZ1 => ?_
    simp only [am_tl_s]
    rw [ae_L_isWhole_158]
    by_cases q : σ (18 + 2 * p) ≤ 0
    · have q2 : decide (0 < σ (18 + 2 * p)) = false := decide_eq_false fun z => Int32.not_le.mpr z q
      rw [show (nI (nc (fun q => decide (0 < σ (18 + 2 * q))) (p + 1))) = (nI (nc (fun q => decide (0 < σ (18 + 2 * q))) p)) by rw [nc_f (p := fun q => decide (0 < σ (18 + 2 * q))) q2]] at f1
      rw [if_pos q, ae_L_isWhole_165]
      refine wq_i (lw_o hp16 rfl hZ1) (by omega) fun M2 hZ2 => ?_
      simp only [am_tl_s]
      rw [Int32.add_zero]
      exact wq_k (f1 M2 hZ2) (by omega)
    · have q2 : decide (0 < σ (18 + 2 * p)) = true := decide_eq_true (Int32.not_le.mp q)
      rw [show (nI (nc (fun q => decide (0 < σ (18 + 2 * q))) (p + 1))) = (nI (nc (fun q => decide (0 < σ (18 + 2 * q))) p)) + 1 by rw [nc_t (p := fun q => decide (0 < σ (18 + 2 * q))) q2, nI_1]] at f1
      rw [if_neg q, ae_L_isWhole_161]
      refine wq_i (lw_o hp16 rfl hZ1) (by omega) fun M2 hZ2 => ?_
      simp only [am_tl_s]
      exact wq_k (f1 M2 hZ2) (by omega)
end
