set_option maxRecDepth 100000 in
theorem am_ckL_0 : am_ckL 0 160 = true := by decide +kernel
set_option maxRecDepth 100000 in
theorem am_ckL_160 : am_ckL 160 160 = true := by decide +kernel
