set_option maxRecDepth 100000 in
theorem ze_A : zi_run zi_ms 3000 10 0 [.ref 1] zn_5 [] = some [([], none, zh_1)] := by sorry
set_option maxRecDepth 100000 in
theorem ze_B : zi_run zi_ms 3000 10 6 [.ref 232] (zh_1 ++ zn_6) [] = some [([], none, zh_2)] := by sorry
set_option maxRecDepth 100000 in
theorem ze_0 : zi_one (zg 5 (zd 0 0)) = true := by sorry
set_option maxRecDepth 100000 in
theorem ze_1 : zi_one (zg 5 (zd 1 1)) = true := by sorry
set_option maxRecDepth 100000 in
theorem ze_2 : zi_one (zg 5 (zd 2 2)) = true := by sorry
set_option maxRecDepth 100000 in
theorem ze_3 : zi_one (zg 5 (zd 3 3)) = true := by sorry
set_option maxRecDepth 100000 in
theorem ze_4 : zi_one (zg 5 (zd 4 4)) = true := by sorry
set_option maxRecDepth 100000 in
theorem ze_5 : zi_one (zg 5 (zd 5 5)) = true := by sorry
set_option maxRecDepth 100000 in
theorem ze_6 : zi_one (zg 5 (zd 6 6)) = true := by sorry
set_option maxRecDepth 100000 in
theorem ze_7 : zi_one (zg 5 (zd 7 7)) = true := by sorry
set_option maxRecDepth 100000 in
theorem ze_8 : zi_one (zg 5 (zd 8 8)) = true := by sorry
set_option maxRecDepth 100000 in
theorem ze_9 : zi_one (zg 5 (zd 9 9)) = true := by sorry
set_option maxRecDepth 100000 in
theorem ze_10 : zi_one (zg 5 (zd 10 10)) = true := by sorry
set_option maxRecDepth 100000 in
theorem ze_11 : zi_one (zg 5 (zd 11 11)) = true := by sorry
set_option maxRecDepth 100000 in
theorem ze_12 : zi_one (zg 5 (zd 12 12)) = true := by sorry
set_option maxRecDepth 100000 in
theorem ze_13 : zi_one (zg 5 (zd 13 13)) = true := by sorry
set_option maxRecDepth 100000 in
theorem ze_14 : zi_one (zg 5 (zd 14 14)) = true := by sorry
set_option maxRecDepth 100000 in
theorem ze_15 : zi_one (zg 5 (zd 15 15)) = true := by sorry
set_option maxRecDepth 100000 in
theorem ze_16 : zi_one (zg 5 (zd 16 16)) = true := by sorry
set_option maxRecDepth 100000 in
theorem ze_17 : zi_one (zg 5 (zd 17 17)) = true := by sorry
set_option maxRecDepth 100000 in
theorem ze_18 : zi_one (zg 5 (zd 18 18)) = true := by sorry
set_option maxRecDepth 100000 in
theorem ze_19 : zi_one (zg 5 (zd 19 31)) = true := by sorry
set_option maxRecDepth 100000 in
theorem zl_0 : zi_one (zg 0 (zd 0 31)) = true := by sorry
set_option maxRecDepth 100000 in
theorem zl_1 : zi_one (zg 1 (zd 0 31)) = true := by sorry
set_option maxRecDepth 100000 in
theorem zl_2 : zi_one (zg 2 (zd 0 31)) = true := by sorry
set_option maxRecDepth 100000 in
theorem zl_3 : zi_one (zg 3 (zd 0 31)) = true := by sorry
set_option maxRecDepth 100000 in
theorem zl_4 : zi_one (zg 4 (zd 0 31)) = true := by sorry
