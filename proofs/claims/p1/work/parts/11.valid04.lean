set_option maxRecDepth 100000 in
theorem zv_zc_X6_isWindow_0 : ∀ r ∈ zc_X6_isWindow_0, decode cX6_isWindow r.1 = .ok (r.2.1, r.2.2.1) ∧ zi_lok r = true ∧ zi_ok yX6_isWindow.cls (decide (yX6_isWindow.name = "<init>")) zi_ms r = true := by decide +kernel
set_option maxRecDepth 100000 in
theorem zm_69 : zi_mP (yX6_isWindow, cX6_isWindow, 2, (some FieldType.boolean), zc_X6_isWindow, 0, 0) := ⟨zi_tb_in (t := 1089) (by decide +kernel), zi_tb_in (t := 103) (by decide +kernel), by decide +kernel, ⟨by decide +kernel, by decide +kernel⟩, by decide +kernel, zv_zc_X6_isWindow_0⟩
set_option maxRecDepth 100000 in
theorem zv_zc_X6_spot_0 : ∀ r ∈ zc_X6_spot_0, decode cX6_spot r.1 = .ok (r.2.1, r.2.2.1) ∧ zi_lok r = true ∧ zi_ok yX6_spot.cls (decide (yX6_spot.name = "<init>")) zi_ms r = true := by decide +kernel
set_option maxRecDepth 100000 in
theorem zm_70 : zi_mP (yX6_spot, cX6_spot, 2, (some FieldType.int), zc_X6_spot, 0, 0) := ⟨zi_tb_in (t := 993) (by decide +kernel), zi_tb_in (t := 103) (by decide +kernel), by decide +kernel, ⟨by decide +kernel, by decide +kernel⟩, by decide +kernel, zv_zc_X6_spot_0⟩
set_option maxRecDepth 100000 in
theorem zv_zc_X6_clearTree_0 : ∀ r ∈ zc_X6_clearTree_0, decode cX6_clearTree r.1 = .ok (r.2.1, r.2.2.1) ∧ zi_lok r = true ∧ zi_ok yX6_clearTree.cls (decide (yX6_clearTree.name = "<init>")) zi_ms r = true := by decide +kernel
set_option maxRecDepth 100000 in
theorem zm_71 : zi_mP (yX6_clearTree, cX6_clearTree, 3, none, zc_X6_clearTree, 0, 0) := ⟨zi_tb_in (t := 990) (by decide +kernel), zi_tb_in (t := 103) (by decide +kernel), by decide +kernel, ⟨by decide +kernel, by decide +kernel⟩, by decide +kernel, zv_zc_X6_clearTree_0⟩
set_option maxRecDepth 100000 in
theorem zv_zc_X6_screenAtHand_0 : ∀ r ∈ zc_X6_screenAtHand_0, decode cX6_screenAtHand r.1 = .ok (r.2.1, r.2.2.1) ∧ zi_lok r = true ∧ zi_ok yX6_screenAtHand.cls (decide (yX6_screenAtHand.name = "<init>")) zi_ms r = true := by decide +kernel
set_option maxRecDepth 100000 in
theorem zv_zc_X6_screenAtHand_1 : ∀ r ∈ zc_X6_screenAtHand_1, decode cX6_screenAtHand r.1 = .ok (r.2.1, r.2.2.1) ∧ zi_lok r = true ∧ zi_ok yX6_screenAtHand.cls (decide (yX6_screenAtHand.name = "<init>")) zi_ms r = true := by decide +kernel
set_option maxRecDepth 100000 in
theorem zm_72 : zi_mP (yX6_screenAtHand, cX6_screenAtHand, 2, (some FieldType.int), zc_X6_screenAtHand, 0, 0) := ⟨zi_tb_in (t := 1098) (by decide +kernel), zi_tb_in (t := 103) (by decide +kernel), by decide +kernel, ⟨by decide +kernel, by decide +kernel⟩, by decide +kernel, List.forall_mem_append.mpr ⟨zv_zc_X6_screenAtHand_0, zv_zc_X6_screenAtHand_1⟩⟩
set_option maxRecDepth 100000 in
theorem zv_zc_X6_freeNumber_0 : ∀ r ∈ zc_X6_freeNumber_0, decode cX6_freeNumber r.1 = .ok (r.2.1, r.2.2.1) ∧ zi_lok r = true ∧ zi_ok yX6_freeNumber.cls (decide (yX6_freeNumber.name = "<init>")) zi_ms r = true := by decide +kernel
set_option maxRecDepth 100000 in
theorem zm_73 : zi_mP (yX6_freeNumber, cX6_freeNumber, 2, (some FieldType.int), zc_X6_freeNumber, 0, 0) := ⟨zi_tb_in (t := 1093) (by decide +kernel), zi_tb_in (t := 103) (by decide +kernel), by decide +kernel, ⟨by decide +kernel, by decide +kernel⟩, by decide +kernel, zv_zc_X6_freeNumber_0⟩
