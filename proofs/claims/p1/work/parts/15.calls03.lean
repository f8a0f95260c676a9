set_option maxRecDepth 100000 in
theorem ze_3 : zi_one (zg 5 (zd 3 3)) = true := by decide +kernel
set_option maxRecDepth 100000 in
theorem ze_4 : zi_one (zg 5 (zd 4 4)) = true := by decide +kernel
set_option maxRecDepth 100000 in
theorem ze_5 : zi_one (zg 5 (zd 5 5)) = true := by decide +kernel
