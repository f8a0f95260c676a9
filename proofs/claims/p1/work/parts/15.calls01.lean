set_option maxRecDepth 100000 in
theorem ze_1 : zi_one (zg 5 (zd 1 1)) = true := by decide +kernel
