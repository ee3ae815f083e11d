/-! CHECKS, 3 -/
theorem am_cms_at {lo n z : Nat} (h : am_cms lo n = true) (h1 : lo ≤ z) (h2 : z < lo + n) (h3 : z ≠ iL_law) : am_cm z = true := by
  have b := List.all_eq_true.mp h (z - lo) (List.mem_range.mpr (by omega))
  rw [show lo + (z - lo) = z by omega, Bool.or_eq_true] at b
  rcases b with b | b
  · exact absurd (Nat.eq_of_beq_eq_true b) h3
  · exact b
theorem am_wm {z : Nat} (h : z < 217) (h3 : z ≠ iL_law) : am_cm z = true := by
  rcases Nat.lt_or_ge z 4 with q | q
  · exact am_cms_at am_wm0 (by omega) (by omega) h3
  rcases Nat.lt_or_ge z 12 with q | q
  · exact am_cms_at am_wm4 (by omega) (by omega) h3
  rcases Nat.lt_or_ge z 14 with q | q
  · exact am_cms_at am_wm12 (by omega) (by omega) h3
  rcases Nat.lt_or_ge z 17 with q | q
  · exact am_cms_at am_wm14 (by omega) (by omega) h3
  rcases Nat.lt_or_ge z 21 with q | q
  · exact am_cms_at am_wm17 (by omega) (by omega) h3
  rcases Nat.lt_or_ge z 25 with q | q
  · exact am_cms_at am_wm21 (by omega) (by omega) h3
  rcases Nat.lt_or_ge z 29 with q | q
  · exact am_cms_at am_wm25 (by omega) (by omega) h3
  rcases Nat.lt_or_ge z 32 with q | q
  · exact am_cms_at am_wm29 (by omega) (by omega) h3
  rcases Nat.lt_or_ge z 42 with q | q
  · exact am_cms_at am_wm32 (by omega) (by omega) h3
  rcases Nat.lt_or_ge z 54 with q | q
  · exact am_cms_at am_wm42 (by omega) (by omega) h3
  rcases Nat.lt_or_ge z 62 with q | q
  · exact am_cms_at am_wm54 (by omega) (by omega) h3
  rcases Nat.lt_or_ge z 73 with q | q
  · exact am_cms_at am_wm62 (by omega) (by omega) h3
  rcases Nat.lt_or_ge z 77 with q | q
  · exact am_cms_at am_wm73 (by omega) (by omega) h3
  rcases Nat.lt_or_ge z 86 with q | q
  · exact am_cms_at am_wm77 (by omega) (by omega) h3
  rcases Nat.lt_or_ge z 94 with q | q
  · exact am_cms_at am_wm86 (by omega) (by omega) h3
  rcases Nat.lt_or_ge z 102 with q | q
  · exact am_cms_at am_wm94 (by omega) (by omega) h3
  rcases Nat.lt_or_ge z 104 with q | q
  · exact am_cms_at am_wm102 (by omega) (by omega) h3
  rcases Nat.lt_or_ge z 110 with q | q
  · exact am_cms_at am_wm104 (by omega) (by omega) h3
  rcases Nat.lt_or_ge z 114 with q | q
  · exact am_cms_at am_wm110 (by omega) (by omega) h3
  rcases Nat.lt_or_ge z 118 with q | q
  · exact am_cms_at am_wm114 (by omega) (by omega) h3
  rcases Nat.lt_or_ge z 122 with q | q
  · exact am_cms_at am_wm118 (by omega) (by omega) h3
  rcases Nat.lt_or_ge z 127 with q | q
  · exact am_cms_at am_wm122 (by omega) (by omega) h3
  rcases Nat.lt_or_ge z 130 with q | q
  · exact am_cms_at am_wm127 (by omega) (by omega) h3
  rcases Nat.lt_or_ge z 134 with q | q
  · exact am_cms_at am_wm130 (by omega) (by omega) h3
  rcases Nat.lt_or_ge z 146 with q | q
  · exact am_cms_at am_wm134 (by omega) (by omega) h3
  rcases Nat.lt_or_ge z 158 with q | q
  · exact am_cms_at am_wm146 (by omega) (by omega) h3
  rcases Nat.lt_or_ge z 170 with q | q
  · exact am_cms_at am_wm158 (by omega) (by omega) h3
  rcases Nat.lt_or_ge z 181 with q | q
  · exact am_cms_at am_wm170 (by omega) (by omega) h3
  rcases Nat.lt_or_ge z 183 with q | q
  · exact am_cms_at am_wm181 (by omega) (by omega) h3
  rcases Nat.lt_or_ge z 184 with q | q
  · exact am_cms_at am_wm183 (by omega) (by omega) h3
  rcases Nat.lt_or_ge z 185 with q | q
  · exact am_cms_at am_wm184 (by omega) (by omega) h3
  rcases Nat.lt_or_ge z 186 with q | q
  · exact am_cms_at am_wm185 (by omega) (by omega) h3
  rcases Nat.lt_or_ge z 187 with q | q
  · exact am_cms_at am_wm186 (by omega) (by omega) h3
  rcases Nat.lt_or_ge z 188 with q | q
  · exact am_cms_at am_wm187 (by omega) (by omega) h3
  rcases Nat.lt_or_ge z 189 with q | q
  · exact am_cms_at am_wm188 (by omega) (by omega) h3
  rcases Nat.lt_or_ge z 199 with q | q
  · exact am_cms_at am_wm189 (by omega) (by omega) h3
  rcases Nat.lt_or_ge z 208 with q | q
  · exact am_cms_at am_wm199 (by omega) (by omega) h3
  rcases Nat.lt_or_ge z 213 with q | q
  · exact am_cms_at am_wm208 (by omega) (by omega) h3
  exact am_cms_at am_wm213 (by omega) (by omega) h3
theorem am_wl : am_all2 am_cl1 = true := by decide +kernel
theorem am_wj : am_all2 am_cj1 = true := by decide +kernel
theorem am_wf : am_all2 am_cf1 = true := by decide +kernel
