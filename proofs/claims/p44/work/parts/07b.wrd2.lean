/-! CHECKS, 2 -/
def am_gwx (z : Nat) : Bool := match am_tbl[am_wc z]? with
  | some (.code y b ml rt) => decide (y = am_y z) && decide (b.data.toList = (am_b z).data.toList) && decide (ml = am_ml z) && decide (rt = am_rt z)
  | _ => false
theorem am_gwx_ok (z : Nat) (h : am_gwx z = true) (hh : am_hh z = []) (g : goodWord (am_cw z) = true) : am_gw (am_wc z) (am_cw z) = true := by
  unfold am_gwx at h
  split at h
  · rename_i y b ml rt he
    simp only [Bool.and_eq_true, decide_eq_true_eq] at h
    obtain ⟨⟨⟨h1, h2⟩, h3⟩, h4⟩ := h
    have hb : b = am_b z := by
      cases b with
      | mk d =>
        cases hz : am_b z with
        | mk e =>
          rw [hz] at h2
          have h2 : d.toList = e.toList := h2
          have : d = e := by
            rw [← Array.toArray_toList (xs := d), ← Array.toArray_toList (xs := e), h2]
          rw [this]
    unfold am_gw
    rw [Bool.and_eq_true, decide_eq_true_eq]
    refine ⟨?_, g⟩
    rw [he]
    unfold am_cw
    rw [hh, h1, hb, h3, h4]
  · cases h
theorem am_wm122 : am_cms 122 5 = true := by decide +kernel
theorem am_wm127 : am_cms 127 3 = true := by decide +kernel
theorem am_wm130 : am_cms 130 4 = true := by decide +kernel
theorem am_wm134 : am_cms 134 12 = true := by decide +kernel
theorem am_wm146 : am_cms 146 12 = true := by decide +kernel
theorem am_wm158 : am_cms 158 12 = true := by decide +kernel
theorem am_wm170 : am_cms 170 11 = true := by decide +kernel
theorem am_wm181 : am_cms 181 2 = true := by decide +kernel
theorem am_wm183 : am_cms 183 1 = true := by decide +kernel
theorem am_wm184 : am_cms 184 1 = true := by decide +kernel
theorem am_wm185 : am_cms 185 1 = true := by decide +kernel
theorem am_wm186 : am_cms 186 1 = true := by decide +kernel
theorem am_wm187 : am_cms 187 1 = true := by decide +kernel
theorem am_wm188 : am_cms 188 1 = true := by
  have h : am_cm 188 = true := by
    unfold am_cm
    rw [am_gwx_ok 188 (by decide +kernel) (by decide +kernel) (by decide +kernel)]
    decide +kernel
  refine List.all_eq_true.mpr fun j hj => ?_
  have hj := List.mem_range.mp hj
  have e : j = 0 := by omega
  subst e
  show (Nat.beq (188 + 0) iL_law || am_cm (188 + 0)) = true
  rw [show am_cm (188 + 0) = true from h]
  exact Bool.or_true _
theorem am_wm189 : am_cms 189 10 = true := by decide +kernel
theorem am_wm199 : am_cms 199 9 = true := by decide +kernel
theorem am_wm208 : am_cms 208 5 = true := by decide +kernel
theorem am_wm213 : am_cms 213 4 = true := by decide +kernel
