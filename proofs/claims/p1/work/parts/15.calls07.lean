set_option maxRecDepth 100000 in
theorem ze_13 : zi_one (zg 5 (zd 13 13)) = true := by decide +kernel
set_option maxRecDepth 100000 in
theorem ze_14 : zi_one (zg 5 (zd 14 14)) = true := by decide +kernel
