set_option maxRecDepth 100000 in
theorem am_ckC_0 : am_ckC 0 15 = true := by decide +kernel
set_option maxRecDepth 100000 in
theorem am_ckC_15 : am_ckC 15 15 = true := by decide +kernel
set_option maxRecDepth 100000 in
theorem am_ckC_30 : am_ckC 30 15 = true := by decide +kernel
set_option maxRecDepth 100000 in
theorem am_ckC_45 : am_ckC 45 15 = true := by decide +kernel
set_option maxRecDepth 100000 in
theorem am_ckC_60 : am_ckC 60 15 = true := by decide +kernel
