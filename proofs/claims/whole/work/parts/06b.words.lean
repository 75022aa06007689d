/-! THE WORDS OF THE CODE, FIRST HALF -/
theorem am_cd_0 : ∀ d, d < 24 → am_wd ((am_cdL[0 + d]?).getD 0) (.code (am_y (0 + d)) (am_cc (0 + d)) (am_mL (0 + d)) (am_rt (0 + d))) = true := by decide +kernel
theorem am_cd_24 : ∀ d, d < 24 → am_wd ((am_cdL[24 + d]?).getD 0) (.code (am_y (24 + d)) (am_cc (24 + d)) (am_mL (24 + d)) (am_rt (24 + d))) = true := by decide +kernel
theorem am_cd_48 : ∀ d, d < 24 → am_wd ((am_cdL[48 + d]?).getD 0) (.code (am_y (48 + d)) (am_cc (48 + d)) (am_mL (48 + d)) (am_rt (48 + d))) = true := by decide +kernel
theorem am_cd_72 : ∀ d, d < 24 → am_wd ((am_cdL[72 + d]?).getD 0) (.code (am_y (72 + d)) (am_cc (72 + d)) (am_mL (72 + d)) (am_rt (72 + d))) = true := by decide +kernel
