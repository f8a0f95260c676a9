set_option maxRecDepth 100000 in
theorem ze_2 : zi_one (zg 5 (zd 2 2)) = true := by decide +kernel
