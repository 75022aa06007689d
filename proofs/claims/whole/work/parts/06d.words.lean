/-! THE WORDS OF THE CODE, ON -/
theorem am_cd_144a : ∀ d, d < 12 → am_wd ((am_cdL[144 + d]?).getD 0) (.code (am_y (144 + d)) (am_cc (144 + d)) (am_mL (144 + d)) (am_rt (144 + d))) = true := by decide +kernel
