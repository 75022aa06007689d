/-! THE WORDS OF THE CODE, ON -/
theorem am_cd_156 : ∀ d, d < 12 → am_wd ((am_cdL[156 + d]?).getD 0) (.code (am_y (156 + d)) (am_cc (156 + d)) (am_mL (156 + d)) (am_rt (156 + d))) = true := by decide +kernel
