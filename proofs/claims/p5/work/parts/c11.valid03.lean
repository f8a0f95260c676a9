set_option maxRecDepth 100000 in
theorem zv_zc_X3_neighbourTo_0 : ∀ r ∈ zc_X3_neighbourTo_0, decode cX3_neighbourTo r.1 = .ok (r.2.1, r.2.2.1) ∧ zi_lok r = true ∧ zi_ok yX3_neighbourTo.cls (decide (yX3_neighbourTo.name = "<init>")) zi_ms r = true := zq_fin zq_X3_ok (by decide +kernel)
set_option maxRecDepth 100000 in
theorem zv_zc_X3_neighbourTo_1 : ∀ r ∈ zc_X3_neighbourTo_1, decode cX3_neighbourTo r.1 = .ok (r.2.1, r.2.2.1) ∧ zi_lok r = true ∧ zi_ok yX3_neighbourTo.cls (decide (yX3_neighbourTo.name = "<init>")) zi_ms r = true := zq_fin zq_X3_ok (by decide +kernel)
set_option maxRecDepth 100000 in
theorem zm_118 : zi_mP (yX3_neighbourTo, cX3_neighbourTo, 8, (some FieldType.int), zc_X3_neighbourTo, 0, 0) := ⟨zi_tb_rf (t := 721) rfl (by decide +kernel), zi_tb_in (t := 98) (by decide +kernel), by decide +kernel, ⟨by decide +kernel, by decide +kernel⟩, by decide +kernel, List.forall_mem_append.mpr ⟨zv_zc_X3_neighbourTo_0, zv_zc_X3_neighbourTo_1⟩⟩
set_option maxRecDepth 100000 in
theorem zv_zc_X3_meets_0 : ∀ r ∈ zc_X3_meets_0, decode cX3_meets r.1 = .ok (r.2.1, r.2.2.1) ∧ zi_lok r = true ∧ zi_ok yX3_meets.cls (decide (yX3_meets.name = "<init>")) zi_ms r = true := zq_fin zq_X3_ok (by decide +kernel)
set_option maxRecDepth 100000 in
theorem zm_119 : zi_mP (yX3_meets, cX3_meets, 5, (some FieldType.boolean), zc_X3_meets, 0, 0) := ⟨zi_tb_rf (t := 726) rfl (by decide +kernel), zi_tb_in (t := 98) (by decide +kernel), by decide +kernel, ⟨by decide +kernel, by decide +kernel⟩, by decide +kernel, zv_zc_X3_meets_0⟩
set_option maxRecDepth 100000 in
theorem zv_zc_X3_commonBorder_0 : ∀ r ∈ zc_X3_commonBorder_0, decode cX3_commonBorder r.1 = .ok (r.2.1, r.2.2.1) ∧ zi_lok r = true ∧ zi_ok yX3_commonBorder.cls (decide (yX3_commonBorder.name = "<init>")) zi_ms r = true := zq_fin zq_X3_ok (by decide +kernel)
set_option maxRecDepth 100000 in
theorem zm_120 : zi_mP (yX3_commonBorder, cX3_commonBorder, 5, (some FieldType.int), zc_X3_commonBorder, 0, 0) := ⟨zi_tb_rf (t := 742) rfl (by decide +kernel), zi_tb_in (t := 98) (by decide +kernel), by decide +kernel, ⟨by decide +kernel, by decide +kernel⟩, by decide +kernel, zv_zc_X3_commonBorder_0⟩
set_option maxRecDepth 100000 in
theorem zv_zc_X4_prepare_0 : ∀ r ∈ zc_X4_prepare_0, decode cX4_prepare r.1 = .ok (r.2.1, r.2.2.1) ∧ zi_lok r = true ∧ zi_ok yX4_prepare.cls (decide (yX4_prepare.name = "<init>")) zi_ms r = true := zq_fin zq_X4_ok (by decide +kernel)
set_option maxRecDepth 100000 in
theorem zm_121 : zi_mP (yX4_prepare, cX4_prepare, 5, none, zc_X4_prepare, 0, 0) := ⟨zi_tb_rf (t := 595) rfl (by decide +kernel), zi_tb_in (t := 100) (by decide +kernel), by decide +kernel, ⟨by decide +kernel, by decide +kernel⟩, by decide +kernel, zv_zc_X4_prepare_0⟩
set_option maxRecDepth 100000 in
theorem zv_zc_X4_isTiled_0 : ∀ r ∈ zc_X4_isTiled_0, decode cX4_isTiled r.1 = .ok (r.2.1, r.2.2.1) ∧ zi_lok r = true ∧ zi_ok yX4_isTiled.cls (decide (yX4_isTiled.name = "<init>")) zi_ms r = true := zq_fin zq_X4_ok (by decide +kernel)
set_option maxRecDepth 100000 in
theorem zm_122 : zi_mP (yX4_isTiled, cX4_isTiled, 1, (some FieldType.boolean), zc_X4_isTiled, 0, 0) := ⟨zi_tb_rf (t := 372) rfl (by decide +kernel), zi_tb_in (t := 100) (by decide +kernel), by decide +kernel, ⟨by decide +kernel, by decide +kernel⟩, by decide +kernel, zv_zc_X4_isTiled_0⟩
set_option maxRecDepth 100000 in
theorem zv_zc_X4_isFloating_0 : ∀ r ∈ zc_X4_isFloating_0, decode cX4_isFloating r.1 = .ok (r.2.1, r.2.2.1) ∧ zi_lok r = true ∧ zi_ok yX4_isFloating.cls (decide (yX4_isFloating.name = "<init>")) zi_ms r = true := zq_fin zq_X4_ok (by decide +kernel)
set_option maxRecDepth 100000 in
theorem zm_123 : zi_mP (yX4_isFloating, cX4_isFloating, 1, (some FieldType.boolean), zc_X4_isFloating, 0, 0) := ⟨zi_tb_rf (t := 360) rfl (by decide +kernel), zi_tb_in (t := 100) (by decide +kernel), by decide +kernel, ⟨by decide +kernel, by decide +kernel⟩, by decide +kernel, zv_zc_X4_isFloating_0⟩
set_option maxRecDepth 100000 in
theorem zv_zc_X4_isSticky_0 : ∀ r ∈ zc_X4_isSticky_0, decode cX4_isSticky r.1 = .ok (r.2.1, r.2.2.1) ∧ zi_lok r = true ∧ zi_ok yX4_isSticky.cls (decide (yX4_isSticky.name = "<init>")) zi_ms r = true := zq_fin zq_X4_ok (by decide +kernel)
set_option maxRecDepth 100000 in
theorem zm_124 : zi_mP (yX4_isSticky, cX4_isSticky, 1, (some FieldType.boolean), zc_X4_isSticky, 0, 0) := ⟨zi_tb_rf (t := 568) rfl (by decide +kernel), zi_tb_in (t := 100) (by decide +kernel), by decide +kernel, ⟨by decide +kernel, by decide +kernel⟩, by decide +kernel, zv_zc_X4_isSticky_0⟩
set_option maxRecDepth 100000 in
theorem zv_zc_X4_isOn_0 : ∀ r ∈ zc_X4_isOn_0, decode cX4_isOn r.1 = .ok (r.2.1, r.2.2.1) ∧ zi_lok r = true ∧ zi_ok yX4_isOn.cls (decide (yX4_isOn.name = "<init>")) zi_ms r = true := zq_fin zq_X4_ok (by decide +kernel)
set_option maxRecDepth 100000 in
theorem zm_125 : zi_mP (yX4_isOn, cX4_isOn, 2, (some FieldType.boolean), zc_X4_isOn, 0, 0) := ⟨zi_tb_rf (t := 488) rfl (by decide +kernel), zi_tb_in (t := 100) (by decide +kernel), by decide +kernel, ⟨by decide +kernel, by decide +kernel⟩, by decide +kernel, zv_zc_X4_isOn_0⟩
set_option maxRecDepth 100000 in
theorem zv_zc_X4_isLooseOn_0 : ∀ r ∈ zc_X4_isLooseOn_0, decode cX4_isLooseOn r.1 = .ok (r.2.1, r.2.2.1) ∧ zi_lok r = true ∧ zi_ok yX4_isLooseOn.cls (decide (yX4_isLooseOn.name = "<init>")) zi_ms r = true := zq_fin zq_X4_ok (by decide +kernel)
set_option maxRecDepth 100000 in
theorem zm_126 : zi_mP (yX4_isLooseOn, cX4_isLooseOn, 2, (some FieldType.boolean), zc_X4_isLooseOn, 0, 0) := ⟨zi_tb_rf (t := 484) rfl (by decide +kernel), zi_tb_in (t := 100) (by decide +kernel), by decide +kernel, ⟨by decide +kernel, by decide +kernel⟩, by decide +kernel, zv_zc_X4_isLooseOn_0⟩
set_option maxRecDepth 100000 in
theorem zv_zc_X4_canBeWhole_0 : ∀ r ∈ zc_X4_canBeWhole_0, decode cX4_canBeWhole r.1 = .ok (r.2.1, r.2.2.1) ∧ zi_lok r = true ∧ zi_ok yX4_canBeWhole.cls (decide (yX4_canBeWhole.name = "<init>")) zi_ms r = true := zq_fin zq_X4_ok (by decide +kernel)
set_option maxRecDepth 100000 in
theorem zm_127 : zi_mP (yX4_canBeWhole, cX4_canBeWhole, 2, (some FieldType.boolean), zc_X4_canBeWhole, 0, 0) := ⟨zi_tb_rf (t := 364) rfl (by decide +kernel), zi_tb_in (t := 100) (by decide +kernel), by decide +kernel, ⟨by decide +kernel, by decide +kernel⟩, by decide +kernel, zv_zc_X4_canBeWhole_0⟩
set_option maxRecDepth 100000 in
theorem zv_zc_X4_nearest_0 : ∀ r ∈ zc_X4_nearest_0, decode cX4_nearest r.1 = .ok (r.2.1, r.2.2.1) ∧ zi_lok r = true ∧ zi_ok yX4_nearest.cls (decide (yX4_nearest.name = "<init>")) zi_ms r = true := zq_fin zq_X4_ok (by decide +kernel)
set_option maxRecDepth 100000 in
theorem zm_128 : zi_mP (yX4_nearest, cX4_nearest, 4, (some FieldType.int), zc_X4_nearest, 0, 0) := ⟨zi_tb_rf (t := 445) rfl (by decide +kernel), zi_tb_in (t := 100) (by decide +kernel), by decide +kernel, ⟨by decide +kernel, by decide +kernel⟩, by decide +kernel, zv_zc_X4_nearest_0⟩
set_option maxRecDepth 100000 in
theorem zv_zc_X4_putAt_0 : ∀ r ∈ zc_X4_putAt_0, decode cX4_putAt r.1 = .ok (r.2.1, r.2.2.1) ∧ zi_lok r = true ∧ zi_ok yX4_putAt.cls (decide (yX4_putAt.name = "<init>")) zi_ms r = true := zq_fin zq_X4_ok (by decide +kernel)
set_option maxRecDepth 100000 in
theorem zm_129 : zi_mP (yX4_putAt, cX4_putAt, 4, none, zc_X4_putAt, 0, 0) := ⟨zi_tb_rf (t := 441) rfl (by decide +kernel), zi_tb_in (t := 100) (by decide +kernel), by decide +kernel, ⟨by decide +kernel, by decide +kernel⟩, by decide +kernel, zv_zc_X4_putAt_0⟩
set_option maxRecDepth 100000 in
theorem zv_zc_X4_sendTo_0 : ∀ r ∈ zc_X4_sendTo_0, decode cX4_sendTo r.1 = .ok (r.2.1, r.2.2.1) ∧ zi_lok r = true ∧ zi_ok yX4_sendTo.cls (decide (yX4_sendTo.name = "<init>")) zi_ms r = true := zq_fin zq_X4_ok (by decide +kernel)
set_option maxRecDepth 100000 in
theorem zm_130 : zi_mP (yX4_sendTo, cX4_sendTo, 3, none, zc_X4_sendTo, 0, 0) := ⟨zi_tb_rf (t := 436) rfl (by decide +kernel), zi_tb_in (t := 100) (by decide +kernel), by decide +kernel, ⟨by decide +kernel, by decide +kernel⟩, by decide +kernel, zv_zc_X4_sendTo_0⟩
set_option maxRecDepth 100000 in
theorem zv_zc_X4_coversPoint_0 : ∀ r ∈ zc_X4_coversPoint_0, decode cX4_coversPoint r.1 = .ok (r.2.1, r.2.2.1) ∧ zi_lok r = true ∧ zi_ok yX4_coversPoint.cls (decide (yX4_coversPoint.name = "<init>")) zi_ms r = true := zq_fin zq_X4_ok (by decide +kernel)
set_option maxRecDepth 100000 in
theorem zm_131 : zi_mP (yX4_coversPoint, cX4_coversPoint, 6, (some FieldType.boolean), zc_X4_coversPoint, 0, 0) := ⟨zi_tb_rf (t := 813) rfl (by decide +kernel), zi_tb_in (t := 100) (by decide +kernel), by decide +kernel, ⟨by decide +kernel, by decide +kernel⟩, by decide +kernel, zv_zc_X4_coversPoint_0⟩
set_option maxRecDepth 100000 in
theorem zv_zc_X4_spans_0 : ∀ r ∈ zc_X4_spans_0, decode cX4_spans r.1 = .ok (r.2.1, r.2.2.1) ∧ zi_lok r = true ∧ zi_ok yX4_spans.cls (decide (yX4_spans.name = "<init>")) zi_ms r = true := zq_fin zq_X4_ok (by decide +kernel)
set_option maxRecDepth 100000 in
theorem zm_132 : zi_mP (yX4_spans, cX4_spans, 5, (some FieldType.boolean), zc_X4_spans, 0, 0) := ⟨zi_tb_rf (t := 820) rfl (by decide +kernel), zi_tb_in (t := 100) (by decide +kernel), by decide +kernel, ⟨by decide +kernel, by decide +kernel⟩, by decide +kernel, zv_zc_X4_spans_0⟩
set_option maxRecDepth 100000 in
theorem zv_zc_X5_between_0 : ∀ r ∈ zc_X5_between_0, decode cX5_between r.1 = .ok (r.2.1, r.2.2.1) ∧ zi_lok r = true ∧ zi_ok yX5_between.cls (decide (yX5_between.name = "<init>")) zi_ms r = true := zq_fin zq_X5_ok (by decide +kernel)
set_option maxRecDepth 100000 in
theorem zm_133 : zi_mP (yX5_between, cX5_between, 3, (some FieldType.int), zc_X5_between, 0, 0) := ⟨zi_tb_rf (t := 448) rfl (by decide +kernel), zi_tb_in (t := 96) (by decide +kernel), by decide +kernel, ⟨by decide +kernel, by decide +kernel⟩, by decide +kernel, zv_zc_X5_between_0⟩
set_option maxRecDepth 100000 in
theorem zv_zc_X5_looseOnes_0 : ∀ r ∈ zc_X5_looseOnes_0, decode cX5_looseOnes r.1 = .ok (r.2.1, r.2.2.1) ∧ zi_lok r = true ∧ zi_ok yX5_looseOnes.cls (decide (yX5_looseOnes.name = "<init>")) zi_ms r = true := zq_fin zq_X5_ok (by decide +kernel)
set_option maxRecDepth 100000 in
theorem zm_134 : zi_mP (yX5_looseOnes, cX5_looseOnes, 4, (some FieldType.int), zc_X5_looseOnes, 0, 0) := ⟨zi_tb_rf (t := 846) rfl (by decide +kernel), zi_tb_in (t := 96) (by decide +kernel), by decide +kernel, ⟨by decide +kernel, by decide +kernel⟩, by decide +kernel, zv_zc_X5_looseOnes_0⟩
set_option maxRecDepth 100000 in
theorem zv_zc_X5_windowsOn_0 : ∀ r ∈ zc_X5_windowsOn_0, decode cX5_windowsOn r.1 = .ok (r.2.1, r.2.2.1) ∧ zi_lok r = true ∧ zi_ok yX5_windowsOn.cls (decide (yX5_windowsOn.name = "<init>")) zi_ms r = true := zq_fin zq_X5_ok (by decide +kernel)
set_option maxRecDepth 100000 in
theorem zm_135 : zi_mP (yX5_windowsOn, cX5_windowsOn, 4, (some FieldType.int), zc_X5_windowsOn, 0, 0) := ⟨zi_tb_rf (t := 543) rfl (by decide +kernel), zi_tb_in (t := 96) (by decide +kernel), by decide +kernel, ⟨by decide +kernel, by decide +kernel⟩, by decide +kernel, zv_zc_X5_windowsOn_0⟩
set_option maxRecDepth 100000 in
theorem zv_zc_X5_looseOnesFit_0 : ∀ r ∈ zc_X5_looseOnesFit_0, decode cX5_looseOnesFit r.1 = .ok (r.2.1, r.2.2.1) ∧ zi_lok r = true ∧ zi_ok yX5_looseOnesFit.cls (decide (yX5_looseOnesFit.name = "<init>")) zi_ms r = true := zq_fin zq_X5_ok (by decide +kernel)
set_option maxRecDepth 100000 in
theorem zm_136 : zi_mP (yX5_looseOnesFit, cX5_looseOnesFit, 4, (some FieldType.boolean), zc_X5_looseOnesFit, 0, 0) := ⟨zi_tb_rf (t := 480) rfl (by decide +kernel), zi_tb_in (t := 96) (by decide +kernel), by decide +kernel, ⟨by decide +kernel, by decide +kernel⟩, by decide +kernel, zv_zc_X5_looseOnesFit_0⟩
set_option maxRecDepth 100000 in
theorem zv_zc_X5_sendAll_0 : ∀ r ∈ zc_X5_sendAll_0, decode cX5_sendAll r.1 = .ok (r.2.1, r.2.2.1) ∧ zi_lok r = true ∧ zi_ok yX5_sendAll.cls (decide (yX5_sendAll.name = "<init>")) zi_ms r = true := zq_fin zq_X5_ok (by decide +kernel)
set_option maxRecDepth 100000 in
theorem zm_137 : zi_mP (yX5_sendAll, cX5_sendAll, 4, none, zc_X5_sendAll, 0, 0) := ⟨zi_tb_rf (t := 493) rfl (by decide +kernel), zi_tb_in (t := 96) (by decide +kernel), by decide +kernel, ⟨by decide +kernel, by decide +kernel⟩, by decide +kernel, zv_zc_X5_sendAll_0⟩
set_option maxRecDepth 100000 in
theorem zv_zc_X5_treeOf_0 : ∀ r ∈ zc_X5_treeOf_0, decode cX5_treeOf r.1 = .ok (r.2.1, r.2.2.1) ∧ zi_lok r = true ∧ zi_ok yX5_treeOf.cls (decide (yX5_treeOf.name = "<init>")) zi_ms r = true := zq_fin zq_X5_ok (by decide +kernel)
set_option maxRecDepth 100000 in
theorem zm_138 : zi_mP (yX5_treeOf, cX5_treeOf, 2, (some (FieldType.object "WindowDesk$Tree")), zc_X5_treeOf, 0, 0) := ⟨zi_tb_rf (t := 376) rfl (by decide +kernel), zi_tb_in (t := 96) (by decide +kernel), by decide +kernel, ⟨by decide +kernel, by decide +kernel⟩, by decide +kernel, zv_zc_X5_treeOf_0⟩
set_option maxRecDepth 100000 in
theorem zv_zc_X5_layTrees_0 : ∀ r ∈ zc_X5_layTrees_0, decode cX5_layTrees r.1 = .ok (r.2.1, r.2.2.1) ∧ zi_lok r = true ∧ zi_ok yX5_layTrees.cls (decide (yX5_layTrees.name = "<init>")) zi_ms r = true := zq_fin zq_X5_ok (by decide +kernel)
set_option maxRecDepth 100000 in
theorem zm_139 : zi_mP (yX5_layTrees, cX5_layTrees, 2, none, zc_X5_layTrees, 0, 0) := ⟨zi_tb_rf (t := 578) rfl (by decide +kernel), zi_tb_in (t := 96) (by decide +kernel), by decide +kernel, ⟨by decide +kernel, by decide +kernel⟩, by decide +kernel, zv_zc_X5_layTrees_0⟩
set_option maxRecDepth 100000 in
theorem zv_zc_X5_startOf_0 : ∀ r ∈ zc_X5_startOf_0, decode cX5_startOf r.1 = .ok (r.2.1, r.2.2.1) ∧ zi_lok r = true ∧ zi_ok yX5_startOf.cls (decide (yX5_startOf.name = "<init>")) zi_ms r = true := zq_fin zq_X5_ok (by decide +kernel)
set_option maxRecDepth 100000 in
theorem zm_140 : zi_mP (yX5_startOf, cX5_startOf, 3, (some FieldType.int), zc_X5_startOf, 0, 0) := ⟨zi_tb_rf (t := 642) rfl (by decide +kernel), zi_tb_in (t := 96) (by decide +kernel), by decide +kernel, ⟨by decide +kernel, by decide +kernel⟩, by decide +kernel, zv_zc_X5_startOf_0⟩
set_option maxRecDepth 100000 in
theorem zv_zc_X5_lengthOf_0 : ∀ r ∈ zc_X5_lengthOf_0, decode cX5_lengthOf r.1 = .ok (r.2.1, r.2.2.1) ∧ zi_lok r = true ∧ zi_ok yX5_lengthOf.cls (decide (yX5_lengthOf.name = "<init>")) zi_ms r = true := zq_fin zq_X5_ok (by decide +kernel)
set_option maxRecDepth 100000 in
theorem zm_141 : zi_mP (yX5_lengthOf, cX5_lengthOf, 3, (some FieldType.int), zc_X5_lengthOf, 0, 0) := ⟨zi_tb_rf (t := 634) rfl (by decide +kernel), zi_tb_in (t := 96) (by decide +kernel), by decide +kernel, ⟨by decide +kernel, by decide +kernel⟩, by decide +kernel, zv_zc_X5_lengthOf_0⟩
set_option maxRecDepth 100000 in
theorem zv_zc_X5_findRoom_0 : ∀ r ∈ zc_X5_findRoom_0, decode cX5_findRoom r.1 = .ok (r.2.1, r.2.2.1) ∧ zi_lok r = true ∧ zi_ok yX5_findRoom.cls (decide (yX5_findRoom.name = "<init>")) zi_ms r = true := zq_fin zq_X5_ok (by decide +kernel)
set_option maxRecDepth 100000 in
theorem zv_zc_X5_findRoom_1 : ∀ r ∈ zc_X5_findRoom_1, decode cX5_findRoom r.1 = .ok (r.2.1, r.2.2.1) ∧ zi_lok r = true ∧ zi_ok yX5_findRoom.cls (decide (yX5_findRoom.name = "<init>")) zi_ms r = true := zq_fin zq_X5_ok (by decide +kernel)
set_option maxRecDepth 100000 in
theorem zv_zc_X5_findRoom_2 : ∀ r ∈ zc_X5_findRoom_2, decode cX5_findRoom r.1 = .ok (r.2.1, r.2.2.1) ∧ zi_lok r = true ∧ zi_ok yX5_findRoom.cls (decide (yX5_findRoom.name = "<init>")) zi_ms r = true := zq_fin zq_X5_ok (by decide +kernel)
set_option maxRecDepth 100000 in
theorem zm_142 : zi_mP (yX5_findRoom, cX5_findRoom, 6, (some FieldType.boolean), zc_X5_findRoom, 0, 0) := ⟨zi_tb_rf (t := 599) rfl (by decide +kernel), zi_tb_in (t := 96) (by decide +kernel), by decide +kernel, ⟨by decide +kernel, by decide +kernel⟩, by decide +kernel, List.forall_mem_append.mpr ⟨zv_zc_X5_findRoom_0, List.forall_mem_append.mpr ⟨zv_zc_X5_findRoom_1, zv_zc_X5_findRoom_2⟩⟩⟩
set_option maxRecDepth 100000 in
theorem zv_zc_X5_middleOf_0 : ∀ r ∈ zc_X5_middleOf_0, decode cX5_middleOf r.1 = .ok (r.2.1, r.2.2.1) ∧ zi_lok r = true ∧ zi_ok yX5_middleOf.cls (decide (yX5_middleOf.name = "<init>")) zi_ms r = true := zq_fin zq_X5_ok (by decide +kernel)
set_option maxRecDepth 100000 in
theorem zm_143 : zi_mP (yX5_middleOf, cX5_middleOf, 4, (some FieldType.int), zc_X5_middleOf, 0, 0) := ⟨zi_tb_rf (t := 630) rfl (by decide +kernel), zi_tb_in (t := 96) (by decide +kernel), by decide +kernel, ⟨by decide +kernel, by decide +kernel⟩, by decide +kernel, zv_zc_X5_middleOf_0⟩
set_option maxRecDepth 100000 in
theorem zv_zc_X5_tile_0 : ∀ r ∈ zc_X5_tile_0, decode cX5_tile r.1 = .ok (r.2.1, r.2.2.1) ∧ zi_lok r = true ∧ zi_ok yX5_tile.cls (decide (yX5_tile.name = "<init>")) zi_ms r = true := zq_fin zq_X5_ok (by decide +kernel)
set_option maxRecDepth 100000 in
theorem zv_zc_X5_tile_1 : ∀ r ∈ zc_X5_tile_1, decode cX5_tile r.1 = .ok (r.2.1, r.2.2.1) ∧ zi_lok r = true ∧ zi_ok yX5_tile.cls (decide (yX5_tile.name = "<init>")) zi_ms r = true := zq_fin zq_X5_ok (by decide +kernel)
set_option maxRecDepth 100000 in
theorem zm_144 : zi_mP (yX5_tile, cX5_tile, 6, (some FieldType.boolean), zc_X5_tile, 0, 0) := ⟨zi_tb_rf (t := 603) rfl (by decide +kernel), zi_tb_in (t := 96) (by decide +kernel), by decide +kernel, ⟨by decide +kernel, by decide +kernel⟩, by decide +kernel, List.forall_mem_append.mpr ⟨zv_zc_X5_tile_0, zv_zc_X5_tile_1⟩⟩
set_option maxRecDepth 100000 in
theorem zv_zc_X5_leafAtHand_0 : ∀ r ∈ zc_X5_leafAtHand_0, decode cX5_leafAtHand r.1 = .ok (r.2.1, r.2.2.1) ∧ zi_lok r = true ∧ zi_ok yX5_leafAtHand.cls (decide (yX5_leafAtHand.name = "<init>")) zi_ms r = true := zq_fin zq_X5_ok (by decide +kernel)
set_option maxRecDepth 100000 in
theorem zm_145 : zi_mP (yX5_leafAtHand, cX5_leafAtHand, 4, (some FieldType.int), zc_X5_leafAtHand, 0, 0) := ⟨zi_tb_rf (t := 607) rfl (by decide +kernel), zi_tb_in (t := 96) (by decide +kernel), by decide +kernel, ⟨by decide +kernel, by decide +kernel⟩, by decide +kernel, zv_zc_X5_leafAtHand_0⟩
set_option maxRecDepth 100000 in
theorem zv_zc_X5_tryCut_0 : ∀ r ∈ zc_X5_tryCut_0, decode cX5_tryCut r.1 = .ok (r.2.1, r.2.2.1) ∧ zi_lok r = true ∧ zi_ok yX5_tryCut.cls (decide (yX5_tryCut.name = "<init>")) zi_ms r = true := zq_fin zq_X5_ok (by decide +kernel)
set_option maxRecDepth 100000 in
theorem zm_146 : zi_mP (yX5_tryCut, cX5_tryCut, 6, (some FieldType.boolean), zc_X5_tryCut, 0, 0) := ⟨zi_tb_rf (t := 617) rfl (by decide +kernel), zi_tb_in (t := 96) (by decide +kernel), by decide +kernel, ⟨by decide +kernel, by decide +kernel⟩, by decide +kernel, zv_zc_X5_tryCut_0⟩
set_option maxRecDepth 100000 in
theorem zv_zc_X5_tryTab_0 : ∀ r ∈ zc_X5_tryTab_0, decode cX5_tryTab r.1 = .ok (r.2.1, r.2.2.1) ∧ zi_lok r = true ∧ zi_ok yX5_tryTab.cls (decide (yX5_tryTab.name = "<init>")) zi_ms r = true := zq_fin zq_X5_ok (by decide +kernel)
set_option maxRecDepth 100000 in
theorem zm_147 : zi_mP (yX5_tryTab, cX5_tryTab, 5, (some FieldType.boolean), zc_X5_tryTab, 0, 0) := ⟨zi_tb_rf (t := 625) rfl (by decide +kernel), zi_tb_in (t := 96) (by decide +kernel), by decide +kernel, ⟨by decide +kernel, by decide +kernel⟩, by decide +kernel, zv_zc_X5_tryTab_0⟩
set_option maxRecDepth 100000 in
theorem zv_zc_X5_end_0 : ∀ r ∈ zc_X5_end_0, decode cX5_end r.1 = .ok (r.2.1, r.2.2.1) ∧ zi_lok r = true ∧ zi_ok yX5_end.cls (decide (yX5_end.name = "<init>")) zi_ms r = true := zq_fin zq_X5_ok (by decide +kernel)
set_option maxRecDepth 100000 in
theorem zm_148 : zi_mP (yX5_end, cX5_end, 2, none, zc_X5_end, 0, 0) := ⟨zi_tb_rf (t := 693) rfl (by decide +kernel), zi_tb_in (t := 96) (by decide +kernel), by decide +kernel, ⟨by decide +kernel, by decide +kernel⟩, by decide +kernel, zv_zc_X5_end_0⟩
set_option maxRecDepth 100000 in
theorem zv_zc_X5_giveFocus_0 : ∀ r ∈ zc_X5_giveFocus_0, decode cX5_giveFocus r.1 = .ok (r.2.1, r.2.2.1) ∧ zi_lok r = true ∧ zi_ok yX5_giveFocus.cls (decide (yX5_giveFocus.name = "<init>")) zi_ms r = true := zq_fin zq_X5_ok (by decide +kernel)
set_option maxRecDepth 100000 in
theorem zm_149 : zi_mP (yX5_giveFocus, cX5_giveFocus, 2, none, zc_X5_giveFocus, 0, 0) := ⟨zi_tb_rf (t := 654) rfl (by decide +kernel), zi_tb_in (t := 96) (by decide +kernel), by decide +kernel, ⟨by decide +kernel, by decide +kernel⟩, by decide +kernel, zv_zc_X5_giveFocus_0⟩
set_option maxRecDepth 100000 in
theorem zv_zc_X5_raise_0 : ∀ r ∈ zc_X5_raise_0, decode cX5_raise r.1 = .ok (r.2.1, r.2.2.1) ∧ zi_lok r = true ∧ zi_ok yX5_raise.cls (decide (yX5_raise.name = "<init>")) zi_ms r = true := zq_fin zq_X5_ok (by decide +kernel)
set_option maxRecDepth 100000 in
theorem zm_150 : zi_mP (yX5_raise, cX5_raise, 5, none, zc_X5_raise, 0, 0) := ⟨zi_tb_rf (t := 672) rfl (by decide +kernel), zi_tb_in (t := 96) (by decide +kernel), by decide +kernel, ⟨by decide +kernel, by decide +kernel⟩, by decide +kernel, zv_zc_X5_raise_0⟩
set_option maxRecDepth 100000 in
theorem zv_zc_X5_dialogsOf_0 : ∀ r ∈ zc_X5_dialogsOf_0, decode cX5_dialogsOf r.1 = .ok (r.2.1, r.2.2.1) ∧ zi_lok r = true ∧ zi_ok yX5_dialogsOf.cls (decide (yX5_dialogsOf.name = "<init>")) zi_ms r = true := zq_fin zq_X5_ok (by decide +kernel)
set_option maxRecDepth 100000 in
theorem zm_151 : zi_mP (yX5_dialogsOf, cX5_dialogsOf, 4, (some FieldType.int), zc_X5_dialogsOf, 0, 0) := ⟨zi_tb_rf (t := 677) rfl (by decide +kernel), zi_tb_in (t := 96) (by decide +kernel), by decide +kernel, ⟨by decide +kernel, by decide +kernel⟩, by decide +kernel, zv_zc_X5_dialogsOf_0⟩
set_option maxRecDepth 100000 in
theorem zv_zc_X5_lowestDialogOf_0 : ∀ r ∈ zc_X5_lowestDialogOf_0, decode cX5_lowestDialogOf r.1 = .ok (r.2.1, r.2.2.1) ∧ zi_lok r = true ∧ zi_ok yX5_lowestDialogOf.cls (decide (yX5_lowestDialogOf.name = "<init>")) zi_ms r = true := zq_fin zq_X5_ok (by decide +kernel)
set_option maxRecDepth 100000 in
theorem zm_152 : zi_mP (yX5_lowestDialogOf, cX5_lowestDialogOf, 3, (some FieldType.int), zc_X5_lowestDialogOf, 0, 0) := ⟨zi_tb_rf (t := 681) rfl (by decide +kernel), zi_tb_in (t := 96) (by decide +kernel), by decide +kernel, ⟨by decide +kernel, by decide +kernel⟩, by decide +kernel, zv_zc_X5_lowestDialogOf_0⟩
set_option maxRecDepth 100000 in
theorem zv_zc_X5_reachFrom_0 : ∀ r ∈ zc_X5_reachFrom_0, decode cX5_reachFrom r.1 = .ok (r.2.1, r.2.2.1) ∧ zi_lok r = true ∧ zi_ok yX5_reachFrom.cls (decide (yX5_reachFrom.name = "<init>")) zi_ms r = true := zq_fin zq_X5_ok (by decide +kernel)
set_option maxRecDepth 100000 in
theorem zm_153 : zi_mP (yX5_reachFrom, cX5_reachFrom, 4, none, zc_X5_reachFrom, 0, 0) := ⟨zi_tb_rf (t := 754) rfl (by decide +kernel), zi_tb_in (t := 96) (by decide +kernel), by decide +kernel, ⟨by decide +kernel, by decide +kernel⟩, by decide +kernel, zv_zc_X5_reachFrom_0⟩
set_option maxRecDepth 100000 in
theorem zv_zc_X5_tryDrag_0 : ∀ r ∈ zc_X5_tryDrag_0, decode cX5_tryDrag r.1 = .ok (r.2.1, r.2.2.1) ∧ zi_lok r = true ∧ zi_ok yX5_tryDrag.cls (decide (yX5_tryDrag.name = "<init>")) zi_ms r = true := zq_fin zq_X5_ok (by decide +kernel)
set_option maxRecDepth 100000 in
theorem zv_zc_X5_tryDrag_1 : ∀ r ∈ zc_X5_tryDrag_1, decode cX5_tryDrag r.1 = .ok (r.2.1, r.2.2.1) ∧ zi_lok r = true ∧ zi_ok yX5_tryDrag.cls (decide (yX5_tryDrag.name = "<init>")) zi_ms r = true := zq_fin zq_X5_ok (by decide +kernel)
set_option maxRecDepth 100000 in
theorem zm_154 : zi_mP (yX5_tryDrag, cX5_tryDrag, 6, none, zc_X5_tryDrag, 0, 0) := ⟨zi_tb_rf (t := 763) rfl (by decide +kernel), zi_tb_in (t := 96) (by decide +kernel), by decide +kernel, ⟨by decide +kernel, by decide +kernel⟩, by decide +kernel, List.forall_mem_append.mpr ⟨zv_zc_X5_tryDrag_0, zv_zc_X5_tryDrag_1⟩⟩
set_option maxRecDepth 100000 in
theorem zv_zc_X5_axisOf_0 : ∀ r ∈ zc_X5_axisOf_0, decode cX5_axisOf r.1 = .ok (r.2.1, r.2.2.1) ∧ zi_lok r = true ∧ zi_ok yX5_axisOf.cls (decide (yX5_axisOf.name = "<init>")) zi_ms r = true := zq_fin zq_X5_ok (by decide +kernel)
set_option maxRecDepth 100000 in
theorem zm_155 : zi_mP (yX5_axisOf, cX5_axisOf, 1, (some FieldType.int), zc_X5_axisOf, 0, 0) := ⟨zi_tb_rf (t := 729) rfl (by decide +kernel), zi_tb_in (t := 96) (by decide +kernel), by decide +kernel, ⟨by decide +kernel, by decide +kernel⟩, by decide +kernel, zv_zc_X5_axisOf_0⟩
set_option maxRecDepth 100000 in
theorem zv_zc_X5_isAfter_0 : ∀ r ∈ zc_X5_isAfter_0, decode cX5_isAfter r.1 = .ok (r.2.1, r.2.2.1) ∧ zi_lok r = true ∧ zi_ok yX5_isAfter.cls (decide (yX5_isAfter.name = "<init>")) zi_ms r = true := zq_fin zq_X5_ok (by decide +kernel)
set_option maxRecDepth 100000 in
theorem zm_156 : zi_mP (yX5_isAfter, cX5_isAfter, 1, (some FieldType.boolean), zc_X5_isAfter, 0, 0) := ⟨zi_tb_rf (t := 732) rfl (by decide +kernel), zi_tb_in (t := 96) (by decide +kernel), by decide +kernel, ⟨by decide +kernel, by decide +kernel⟩, by decide +kernel, zv_zc_X5_isAfter_0⟩
set_option maxRecDepth 100000 in
theorem zv_zc_X5_gatherWithDialogs_0 : ∀ r ∈ zc_X5_gatherWithDialogs_0, decode cX5_gatherWithDialogs r.1 = .ok (r.2.1, r.2.2.1) ∧ zi_lok r = true ∧ zi_ok yX5_gatherWithDialogs.cls (decide (yX5_gatherWithDialogs.name = "<init>")) zi_ms r = true := zq_fin zq_X5_ok (by decide +kernel)
set_option maxRecDepth 100000 in
theorem zm_157 : zi_mP (yX5_gatherWithDialogs, cX5_gatherWithDialogs, 3, none, zc_X5_gatherWithDialogs, 0, 0) := ⟨zi_tb_rf (t := 689) rfl (by decide +kernel), zi_tb_in (t := 96) (by decide +kernel), by decide +kernel, ⟨by decide +kernel, by decide +kernel⟩, by decide +kernel, zv_zc_X5_gatherWithDialogs_0⟩
set_option maxRecDepth 100000 in
theorem zv_zc_X5_gatherDialogs_0 : ∀ r ∈ zc_X5_gatherDialogs_0, decode cX5_gatherDialogs r.1 = .ok (r.2.1, r.2.2.1) ∧ zi_lok r = true ∧ zi_ok yX5_gatherDialogs.cls (decide (yX5_gatherDialogs.name = "<init>")) zi_ms r = true := zq_fin zq_X5_ok (by decide +kernel)
set_option maxRecDepth 100000 in
theorem zv_zc_X5_gatherDialogs_1 : ∀ r ∈ zc_X5_gatherDialogs_1, decode cX5_gatherDialogs r.1 = .ok (r.2.1, r.2.2.1) ∧ zi_lok r = true ∧ zi_ok yX5_gatherDialogs.cls (decide (yX5_gatherDialogs.name = "<init>")) zi_ms r = true := zq_fin zq_X5_ok (by decide +kernel)
set_option maxRecDepth 100000 in
theorem zm_158 : zi_mP (yX5_gatherDialogs, cX5_gatherDialogs, 3, none, zc_X5_gatherDialogs, 0, 0) := ⟨zi_tb_rf (t := 348) rfl (by decide +kernel), zi_tb_in (t := 96) (by decide +kernel), by decide +kernel, ⟨by decide +kernel, by decide +kernel⟩, by decide +kernel, List.forall_mem_append.mpr ⟨zv_zc_X5_gatherDialogs_0, zv_zc_X5_gatherDialogs_1⟩⟩
set_option maxRecDepth 100000 in
theorem zv_zc_X5_groupCanBeWhole_0 : ∀ r ∈ zc_X5_groupCanBeWhole_0, decode cX5_groupCanBeWhole r.1 = .ok (r.2.1, r.2.2.1) ∧ zi_lok r = true ∧ zi_ok yX5_groupCanBeWhole.cls (decide (yX5_groupCanBeWhole.name = "<init>")) zi_ms r = true := zq_fin zq_X5_ok (by decide +kernel)
set_option maxRecDepth 100000 in
theorem zm_159 : zi_mP (yX5_groupCanBeWhole, cX5_groupCanBeWhole, 3, (some FieldType.boolean), zc_X5_groupCanBeWhole, 0, 0) := ⟨zi_tb_rf (t := 356) rfl (by decide +kernel), zi_tb_in (t := 96) (by decide +kernel), by decide +kernel, ⟨by decide +kernel, by decide +kernel⟩, by decide +kernel, zv_zc_X5_groupCanBeWhole_0⟩
set_option maxRecDepth 100000 in
theorem zv_zc_X5_sendGroup_0 : ∀ r ∈ zc_X5_sendGroup_0, decode cX5_sendGroup r.1 = .ok (r.2.1, r.2.2.1) ∧ zi_lok r = true ∧ zi_ok yX5_sendGroup.cls (decide (yX5_sendGroup.name = "<init>")) zi_ms r = true := zq_fin zq_X5_ok (by decide +kernel)
set_option maxRecDepth 100000 in
theorem zm_160 : zi_mP (yX5_sendGroup, cX5_sendGroup, 3, none, zc_X5_sendGroup, 0, 0) := ⟨zi_tb_rf (t := 432) rfl (by decide +kernel), zi_tb_in (t := 96) (by decide +kernel), by decide +kernel, ⟨by decide +kernel, by decide +kernel⟩, by decide +kernel, zv_zc_X5_sendGroup_0⟩
set_option maxRecDepth 100000 in
theorem zv_zc_X5_keepAll_0 : ∀ r ∈ zc_X5_keepAll_0, decode cX5_keepAll r.1 = .ok (r.2.1, r.2.2.1) ∧ zi_lok r = true ∧ zi_ok yX5_keepAll.cls (decide (yX5_keepAll.name = "<init>")) zi_ms r = true := zq_fin zq_X5_ok (by decide +kernel)
set_option maxRecDepth 100000 in
theorem zv_zc_X5_keepAll_1 : ∀ r ∈ zc_X5_keepAll_1, decode cX5_keepAll r.1 = .ok (r.2.1, r.2.2.1) ∧ zi_lok r = true ∧ zi_ok yX5_keepAll.cls (decide (yX5_keepAll.name = "<init>")) zi_ms r = true := zq_fin zq_X5_ok (by decide +kernel)
set_option maxRecDepth 100000 in
theorem zm_161 : zi_mP (yX5_keepAll, cX5_keepAll, 4, none, zc_X5_keepAll, 0, 0) := ⟨zi_tb_rf (t := 547) rfl (by decide +kernel), zi_tb_in (t := 96) (by decide +kernel), by decide +kernel, ⟨by decide +kernel, by decide +kernel⟩, by decide +kernel, List.forall_mem_append.mpr ⟨zv_zc_X5_keepAll_0, zv_zc_X5_keepAll_1⟩⟩
set_option maxRecDepth 100000 in
theorem zv_zc_X5_forgetKeptWith_0 : ∀ r ∈ zc_X5_forgetKeptWith_0, decode cX5_forgetKeptWith r.1 = .ok (r.2.1, r.2.2.1) ∧ zi_lok r = true ∧ zi_ok yX5_forgetKeptWith.cls (decide (yX5_forgetKeptWith.name = "<init>")) zi_ms r = true := zq_fin zq_X5_ok (by decide +kernel)
set_option maxRecDepth 100000 in
theorem zm_162 : zi_mP (yX5_forgetKeptWith, cX5_forgetKeptWith, 3, none, zc_X5_forgetKeptWith, 0, 0) := ⟨zi_tb_rf (t := 472) rfl (by decide +kernel), zi_tb_in (t := 96) (by decide +kernel), by decide +kernel, ⟨by decide +kernel, by decide +kernel⟩, by decide +kernel, zv_zc_X5_forgetKeptWith_0⟩
set_option maxRecDepth 100000 in
theorem zv_zc_X5_takeBack_0 : ∀ r ∈ zc_X5_takeBack_0, decode cX5_takeBack r.1 = .ok (r.2.1, r.2.2.1) ∧ zi_lok r = true ∧ zi_ok yX5_takeBack.cls (decide (yX5_takeBack.name = "<init>")) zi_ms r = true := zq_fin zq_X5_ok (by decide +kernel)
set_option maxRecDepth 100000 in
theorem zm_163 : zi_mP (yX5_takeBack, cX5_takeBack, 3, none, zc_X5_takeBack, 0, 0) := ⟨zi_tb_rf (t := 368) rfl (by decide +kernel), zi_tb_in (t := 96) (by decide +kernel), by decide +kernel, ⟨by decide +kernel, by decide +kernel⟩, by decide +kernel, zv_zc_X5_takeBack_0⟩
set_option maxRecDepth 100000 in
theorem zv_zc_X5_forgetKeptWithGroup_0 : ∀ r ∈ zc_X5_forgetKeptWithGroup_0, decode cX5_forgetKeptWithGroup r.1 = .ok (r.2.1, r.2.2.1) ∧ zi_lok r = true ∧ zi_ok yX5_forgetKeptWithGroup.cls (decide (yX5_forgetKeptWithGroup.name = "<init>")) zi_ms r = true := zq_fin zq_X5_ok (by decide +kernel)
set_option maxRecDepth 100000 in
theorem zm_164 : zi_mP (yX5_forgetKeptWithGroup, cX5_forgetKeptWithGroup, 2, none, zc_X5_forgetKeptWithGroup, 0, 0) := ⟨zi_tb_rf (t := 468) rfl (by decide +kernel), zi_tb_in (t := 96) (by decide +kernel), by decide +kernel, ⟨by decide +kernel, by decide +kernel⟩, by decide +kernel, zv_zc_X5_forgetKeptWithGroup_0⟩
set_option maxRecDepth 100000 in
theorem zv_zc_X6_half_0 : ∀ r ∈ zc_X6_half_0, decode cX6_half r.1 = .ok (r.2.1, r.2.2.1) ∧ zi_lok r = true ∧ zi_ok yX6_half.cls (decide (yX6_half.name = "<init>")) zi_ms r = true := zq_fin zq_X6_ok (by decide +kernel)
set_option maxRecDepth 100000 in
theorem zm_165 : zi_mP (yX6_half, cX6_half, 1, (some FieldType.int), zc_X6_half, 0, 0) := ⟨zi_tb_rf (t := 1130) rfl (by decide +kernel), zi_tb_in (t := 103) (by decide +kernel), by decide +kernel, ⟨by decide +kernel, by decide +kernel⟩, by decide +kernel, zv_zc_X6_half_0⟩
set_option maxRecDepth 100000 in
theorem zv_zc_X6_nearest_0 : ∀ r ∈ zc_X6_nearest_0, decode cX6_nearest r.1 = .ok (r.2.1, r.2.2.1) ∧ zi_lok r = true ∧ zi_ok yX6_nearest.cls (decide (yX6_nearest.name = "<init>")) zi_ms r = true := zq_fin zq_X6_ok (by decide +kernel)
set_option maxRecDepth 100000 in
theorem zm_166 : zi_mP (yX6_nearest, cX6_nearest, 2, (some FieldType.int), zc_X6_nearest, 0, 0) := ⟨zi_tb_rf (t := 1056) rfl (by decide +kernel), zi_tb_in (t := 103) (by decide +kernel), by decide +kernel, ⟨by decide +kernel, by decide +kernel⟩, by decide +kernel, zv_zc_X6_nearest_0⟩
set_option maxRecDepth 100000 in
theorem zv_zc_X6_isFloating_0 : ∀ r ∈ zc_X6_isFloating_0, decode cX6_isFloating r.1 = .ok (r.2.1, r.2.2.1) ∧ zi_lok r = true ∧ zi_ok yX6_isFloating.cls (decide (yX6_isFloating.name = "<init>")) zi_ms r = true := zq_fin zq_X6_ok (by decide +kernel)
set_option maxRecDepth 100000 in
theorem zm_167 : zi_mP (yX6_isFloating, cX6_isFloating, 2, (some FieldType.boolean), zc_X6_isFloating, 0, 0) := ⟨zi_tb_rf (t := 1127) rfl (by decide +kernel), zi_tb_in (t := 103) (by decide +kernel), by decide +kernel, ⟨by decide +kernel, by decide +kernel⟩, by decide +kernel, zv_zc_X6_isFloating_0⟩
set_option maxRecDepth 100000 in
theorem zv_zc_X6_copyTree_0 : ∀ r ∈ zc_X6_copyTree_0, decode cX6_copyTree r.1 = .ok (r.2.1, r.2.2.1) ∧ zi_lok r = true ∧ zi_ok yX6_copyTree.cls (decide (yX6_copyTree.name = "<init>")) zi_ms r = true := zq_fin zq_X6_ok (by decide +kernel)
set_option maxRecDepth 100000 in
theorem zv_zc_X6_copyTree_1 : ∀ r ∈ zc_X6_copyTree_1, decode cX6_copyTree r.1 = .ok (r.2.1, r.2.2.1) ∧ zi_lok r = true ∧ zi_ok yX6_copyTree.cls (decide (yX6_copyTree.name = "<init>")) zi_ms r = true := zq_fin zq_X6_ok (by decide +kernel)
set_option maxRecDepth 100000 in
theorem zv_zc_X6_copyTree_2 : ∀ r ∈ zc_X6_copyTree_2, decode cX6_copyTree r.1 = .ok (r.2.1, r.2.2.1) ∧ zi_lok r = true ∧ zi_ok yX6_copyTree.cls (decide (yX6_copyTree.name = "<init>")) zi_ms r = true := zq_fin zq_X6_ok (by decide +kernel)
set_option maxRecDepth 100000 in
theorem zm_168 : zi_mP (yX6_copyTree, cX6_copyTree, 7, none, zc_X6_copyTree, 0, 0) := ⟨zi_tb_rf (t := 1049) rfl (by decide +kernel), zi_tb_in (t := 103) (by decide +kernel), by decide +kernel, ⟨by decide +kernel, by decide +kernel⟩, by decide +kernel, List.forall_mem_append.mpr ⟨zv_zc_X6_copyTree_0, List.forall_mem_append.mpr ⟨zv_zc_X6_copyTree_1, zv_zc_X6_copyTree_2⟩⟩⟩
