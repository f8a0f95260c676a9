set_option maxRecDepth 100000 in
theorem ze_17 : zi_one (zg 5 (zd 17 17)) = true := by decide +kernel
set_option maxRecDepth 100000 in
theorem ze_18 : zi_one (zg 5 (zd 18 18)) = true := by decide +kernel
