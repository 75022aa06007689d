theorem cl_20 : ((am_L186.drop 20).take 6).all (fun q => am_chk 186 q.1 q.2) = true := by decide +kernel
theorem cl_26 : ((am_L186.drop 26).take 5).all (fun q => am_chk 186 q.1 q.2) = true := by decide +kernel
theorem cl_31 : ((am_L186.drop 31).take 4).all (fun q => am_chk 186 q.1 q.2) = true := by decide +kernel
theorem cl_35 : ((am_L186.drop 35).take 6).all (fun q => am_chk 186 q.1 q.2) = true := by decide +kernel
