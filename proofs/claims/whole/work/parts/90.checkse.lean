set_option maxRecDepth 100000 in
theorem am_ckC_225 : am_ckC 225 15 = true := by decide +kernel
set_option maxRecDepth 100000 in
theorem am_ckC_240 : am_ckC 240 15 = true := by decide +kernel
set_option maxRecDepth 100000 in
theorem am_ckC_255 : am_ckC 255 9 = true := by decide +kernel
