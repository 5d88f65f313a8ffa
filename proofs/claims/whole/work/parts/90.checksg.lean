set_option maxRecDepth 100000 in
theorem am_ckL_320 : am_ckL 320 160 = true := by decide +kernel
set_option maxRecDepth 100000 in
theorem am_ckL_480 : am_ckL 480 160 = true := by decide +kernel
