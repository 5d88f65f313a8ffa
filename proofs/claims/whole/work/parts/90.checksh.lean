set_option maxRecDepth 100000 in
theorem am_ckL_640 : am_ckL 640 160 = true := by decide +kernel
set_option maxRecDepth 100000 in
theorem am_ckL_800 : am_ckL 800 160 = true := by decide +kernel
