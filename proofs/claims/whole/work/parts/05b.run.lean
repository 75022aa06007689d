theorem ck_6 : ∀ d, d < 21 → am_chkM (119 + d) = true := by decide +kernel
theorem ck_7 : ∀ d, d < 10 → am_chkM (140 + d) = true := by decide +kernel
theorem ck_8 : ∀ d, d < 17 → am_chkM (150 + d) = true := by decide +kernel
theorem ck_9 : ∀ d, d < 11 → am_chkM (167 + d) = true := by decide +kernel
theorem ck_10 : ∀ d, d < 8 → am_chkM (178 + d) = true := by decide +kernel
