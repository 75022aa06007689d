theorem cl_0 : ((am_L186.drop 0).take 7).all (fun q => am_chk 186 q.1 q.2) = true := by decide +kernel
theorem cl_7 : ((am_L186.drop 7).take 6).all (fun q => am_chk 186 q.1 q.2) = true := by decide +kernel
theorem cl_13 : ((am_L186.drop 13).take 3).all (fun q => am_chk 186 q.1 q.2) = true := by decide +kernel
theorem cl_16 : ((am_L186.drop 16).take 4).all (fun q => am_chk 186 q.1 q.2) = true := by decide +kernel
