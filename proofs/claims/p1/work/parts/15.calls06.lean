set_option maxRecDepth 100000 in
theorem ze_10 : zi_one (zg 5 (zd 10 10)) = true := by decide +kernel
set_option maxRecDepth 100000 in
theorem ze_11 : zi_one (zg 5 (zd 11 11)) = true := by decide +kernel
set_option maxRecDepth 100000 in
theorem ze_12 : zi_one (zg 5 (zd 12 12)) = true := by decide +kernel
