theorem ck_0 : ∀ d, d < 20 → am_chkM (0 + d) = true := by decide +kernel
theorem ck_1 : ∀ d, d < 23 → am_chkM (20 + d) = true := by decide +kernel
theorem ck_2 : ∀ d, d < 13 → am_chkM (43 + d) = true := by decide +kernel
theorem ck_3 : ∀ d, d < 20 → am_chkM (56 + d) = true := by decide +kernel
theorem ck_4 : ∀ d, d < 18 → am_chkM (76 + d) = true := by decide +kernel
theorem ck_5 : ∀ d, d < 25 → am_chkM (94 + d) = true := by decide +kernel
