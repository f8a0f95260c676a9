set_option maxRecDepth 100000 in
theorem ze_0 : zi_one (zg 5 (zd 0 0)) = true := by decide +kernel
