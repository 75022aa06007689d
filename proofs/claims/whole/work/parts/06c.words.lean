/-! THE WORDS OF THE CODE, SECOND HALF -/
theorem am_cd_96 : ∀ d, d < 24 → am_wd ((am_cdL[96 + d]?).getD 0) (.code (am_y (96 + d)) (am_cc (96 + d)) (am_mL (96 + d)) (am_rt (96 + d))) = true := by decide +kernel
theorem am_cd_120 : ∀ d, d < 24 → am_wd ((am_cdL[120 + d]?).getD 0) (.code (am_y (120 + d)) (am_cc (120 + d)) (am_mL (120 + d)) (am_rt (120 + d))) = true := by decide +kernel
