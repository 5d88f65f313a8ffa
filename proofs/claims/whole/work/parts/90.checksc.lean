set_option maxRecDepth 100000 in
theorem am_ckC_75 : am_ckC 75 15 = true := by decide +kernel
set_option maxRecDepth 100000 in
theorem am_ckC_90 : am_ckC 90 15 = true := by decide +kernel
set_option maxRecDepth 100000 in
theorem am_ckC_105 : am_ckC 105 15 = true := by decide +kernel
set_option maxRecDepth 100000 in
theorem am_ckC_120 : am_ckC 120 15 = true := by decide +kernel
set_option maxRecDepth 100000 in
theorem am_ckC_135 : am_ckC 135 15 = true := by decide +kernel
