set_option maxRecDepth 100000 in
theorem ze_8 : zi_one (zg 5 (zd 8 8)) = true := by decide +kernel
set_option maxRecDepth 100000 in
theorem ze_9 : zi_one (zg 5 (zd 9 9)) = true := by decide +kernel
