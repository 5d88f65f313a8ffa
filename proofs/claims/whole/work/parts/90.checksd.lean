set_option maxRecDepth 100000 in
theorem am_ckC_150 : am_ckC 150 15 = true := by decide +kernel
set_option maxRecDepth 100000 in
theorem am_ckC_165 : am_ckC 165 15 = true := by decide +kernel
set_option maxRecDepth 100000 in
theorem am_ckC_180 : am_ckC 180 15 = true := by decide +kernel
set_option maxRecDepth 100000 in
theorem am_ckC_195 : am_ckC 195 15 = true := by decide +kernel
set_option maxRecDepth 100000 in
theorem am_ckC_210 : am_ckC 210 15 = true := by decide +kernel
