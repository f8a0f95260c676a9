set_option maxRecDepth 100000 in
theorem ze_15 : zi_one (zg 5 (zd 15 15)) = true := by decide +kernel
set_option maxRecDepth 100000 in
theorem ze_16 : zi_one (zg 5 (zd 16 16)) = true := by decide +kernel
