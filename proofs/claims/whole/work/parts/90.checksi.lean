set_option maxRecDepth 100000 in
theorem am_ckL_960 : am_ckL 960 160 = true := by decide +kernel
set_option maxRecDepth 100000 in
theorem am_ckL_1120 : am_ckL 1120 93 = true := by decide +kernel
