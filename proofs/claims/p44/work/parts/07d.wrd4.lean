/-! CHECKS, 4 -/
theorem am_wsx : am_all2 am_cs1 = true := by decide +kernel
theorem am_we : am_all2 am_ce1 = true := by decide +kernel
theorem am_wcc : am_all2 am_cc1 = true := by decide +kernel
theorem am_wk2 : am_all2 am_ck2 = true := by decide +kernel
