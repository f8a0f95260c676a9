set_option maxRecDepth 100000 in
theorem ze_19 : zi_one (zg 5 (zd 19 31)) = true := by decide +kernel
set_option maxRecDepth 100000 in
theorem zl_0 : zi_one (zg 0 (zd 0 31)) = true := by decide +kernel
set_option maxRecDepth 100000 in
theorem zl_1 : zi_one (zg 1 (zd 0 31)) = true := by decide +kernel
set_option maxRecDepth 100000 in
theorem zl_2 : zi_one (zg 2 (zd 0 31)) = true := by decide +kernel
set_option maxRecDepth 100000 in
theorem zl_3 : zi_one (zg 3 (zd 0 31)) = true := by decide +kernel
set_option maxRecDepth 100000 in
theorem zl_4 : zi_one (zg 4 (zd 0 31)) = true := by decide +kernel
