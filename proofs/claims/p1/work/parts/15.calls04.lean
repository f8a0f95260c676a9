set_option maxRecDepth 100000 in
theorem ze_6 : zi_one (zg 5 (zd 6 6)) = true := by decide +kernel
set_option maxRecDepth 100000 in
theorem ze_7 : zi_one (zg 5 (zd 7 7)) = true := by decide +kernel
