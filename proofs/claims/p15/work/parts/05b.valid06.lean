set_option maxRecDepth 100000 in
theorem zv_zc_X3_spans_0 : ∀ r ∈ zc_X3_spans_0, decode cX3_spans r.1 = .ok (r.2.1, r.2.2.1) ∧ zi_lok r = true ∧ zi_ok yX3_spans.cls (decide (yX3_spans.name = "<init>")) zi_ms r = true := by decide +kernel
set_option maxRecDepth 100000 in
theorem zm_117 : zi_mP (yX3_spans, cX3_spans, 4, (some FieldType.boolean), zc_X3_spans, 0, 0) := ⟨zi_tb_in (t := 828) (by decide +kernel), zi_tb_in (t := 98) (by decide +kernel), by decide +kernel, ⟨by decide +kernel, by decide +kernel⟩, by decide +kernel, zv_zc_X3_spans_0⟩
set_option maxRecDepth 100000 in
theorem zv_zc_X3_neighbourTo_0 : ∀ r ∈ zc_X3_neighbourTo_0, decode cX3_neighbourTo r.1 = .ok (r.2.1, r.2.2.1) ∧ zi_lok r = true ∧ zi_ok yX3_neighbourTo.cls (decide (yX3_neighbourTo.name = "<init>")) zi_ms r = true := by decide +kernel
set_option maxRecDepth 100000 in
theorem zv_zc_X3_neighbourTo_1 : ∀ r ∈ zc_X3_neighbourTo_1, decode cX3_neighbourTo r.1 = .ok (r.2.1, r.2.2.1) ∧ zi_lok r = true ∧ zi_ok yX3_neighbourTo.cls (decide (yX3_neighbourTo.name = "<init>")) zi_ms r = true := by decide +kernel
set_option maxRecDepth 100000 in
theorem zm_118 : zi_mP (yX3_neighbourTo, cX3_neighbourTo, 8, (some FieldType.int), zc_X3_neighbourTo, 0, 0) := ⟨zi_tb_in (t := 721) (by decide +kernel), zi_tb_in (t := 98) (by decide +kernel), by decide +kernel, ⟨by decide +kernel, by decide +kernel⟩, by decide +kernel, List.forall_mem_append.mpr ⟨zv_zc_X3_neighbourTo_0, zv_zc_X3_neighbourTo_1⟩⟩
set_option maxRecDepth 100000 in
theorem zv_zc_X3_meets_0 : ∀ r ∈ zc_X3_meets_0, decode cX3_meets r.1 = .ok (r.2.1, r.2.2.1) ∧ zi_lok r = true ∧ zi_ok yX3_meets.cls (decide (yX3_meets.name = "<init>")) zi_ms r = true := by decide +kernel
set_option maxRecDepth 100000 in
theorem zm_119 : zi_mP (yX3_meets, cX3_meets, 5, (some FieldType.boolean), zc_X3_meets, 0, 0) := ⟨zi_tb_in (t := 726) (by decide +kernel), zi_tb_in (t := 98) (by decide +kernel), by decide +kernel, ⟨by decide +kernel, by decide +kernel⟩, by decide +kernel, zv_zc_X3_meets_0⟩
set_option maxRecDepth 100000 in
theorem zv_zc_X3_commonBorder_0 : ∀ r ∈ zc_X3_commonBorder_0, decode cX3_commonBorder r.1 = .ok (r.2.1, r.2.2.1) ∧ zi_lok r = true ∧ zi_ok yX3_commonBorder.cls (decide (yX3_commonBorder.name = "<init>")) zi_ms r = true := by decide +kernel
set_option maxRecDepth 100000 in
theorem zm_120 : zi_mP (yX3_commonBorder, cX3_commonBorder, 5, (some FieldType.int), zc_X3_commonBorder, 0, 0) := ⟨zi_tb_in (t := 742) (by decide +kernel), zi_tb_in (t := 98) (by decide +kernel), by decide +kernel, ⟨by decide +kernel, by decide +kernel⟩, by decide +kernel, zv_zc_X3_commonBorder_0⟩
set_option maxRecDepth 100000 in
theorem zv_zc_X4_prepare_0 : ∀ r ∈ zc_X4_prepare_0, decode cX4_prepare r.1 = .ok (r.2.1, r.2.2.1) ∧ zi_lok r = true ∧ zi_ok yX4_prepare.cls (decide (yX4_prepare.name = "<init>")) zi_ms r = true := by decide +kernel
set_option maxRecDepth 100000 in
theorem zm_121 : zi_mP (yX4_prepare, cX4_prepare, 5, none, zc_X4_prepare, 0, 0) := ⟨zi_tb_in (t := 595) (by decide +kernel), zi_tb_in (t := 100) (by decide +kernel), by decide +kernel, ⟨by decide +kernel, by decide +kernel⟩, by decide +kernel, zv_zc_X4_prepare_0⟩
set_option maxRecDepth 100000 in
theorem zv_zc_X4_isTiled_0 : ∀ r ∈ zc_X4_isTiled_0, decode cX4_isTiled r.1 = .ok (r.2.1, r.2.2.1) ∧ zi_lok r = true ∧ zi_ok yX4_isTiled.cls (decide (yX4_isTiled.name = "<init>")) zi_ms r = true := by decide +kernel
set_option maxRecDepth 100000 in
theorem zm_122 : zi_mP (yX4_isTiled, cX4_isTiled, 1, (some FieldType.boolean), zc_X4_isTiled, 0, 0) := ⟨zi_tb_in (t := 372) (by decide +kernel), zi_tb_in (t := 100) (by decide +kernel), by decide +kernel, ⟨by decide +kernel, by decide +kernel⟩, by decide +kernel, zv_zc_X4_isTiled_0⟩
set_option maxRecDepth 100000 in
theorem zv_zc_X4_isFloating_0 : ∀ r ∈ zc_X4_isFloating_0, decode cX4_isFloating r.1 = .ok (r.2.1, r.2.2.1) ∧ zi_lok r = true ∧ zi_ok yX4_isFloating.cls (decide (yX4_isFloating.name = "<init>")) zi_ms r = true := by decide +kernel
set_option maxRecDepth 100000 in
theorem zm_123 : zi_mP (yX4_isFloating, cX4_isFloating, 1, (some FieldType.boolean), zc_X4_isFloating, 0, 0) := ⟨zi_tb_in (t := 360) (by decide +kernel), zi_tb_in (t := 100) (by decide +kernel), by decide +kernel, ⟨by decide +kernel, by decide +kernel⟩, by decide +kernel, zv_zc_X4_isFloating_0⟩
set_option maxRecDepth 100000 in
theorem zv_zc_X4_isSticky_0 : ∀ r ∈ zc_X4_isSticky_0, decode cX4_isSticky r.1 = .ok (r.2.1, r.2.2.1) ∧ zi_lok r = true ∧ zi_ok yX4_isSticky.cls (decide (yX4_isSticky.name = "<init>")) zi_ms r = true := by decide +kernel
set_option maxRecDepth 100000 in
theorem zm_124 : zi_mP (yX4_isSticky, cX4_isSticky, 1, (some FieldType.boolean), zc_X4_isSticky, 0, 0) := ⟨zi_tb_in (t := 568) (by decide +kernel), zi_tb_in (t := 100) (by decide +kernel), by decide +kernel, ⟨by decide +kernel, by decide +kernel⟩, by decide +kernel, zv_zc_X4_isSticky_0⟩
set_option maxRecDepth 100000 in
theorem zv_zc_X4_isOn_0 : ∀ r ∈ zc_X4_isOn_0, decode cX4_isOn r.1 = .ok (r.2.1, r.2.2.1) ∧ zi_lok r = true ∧ zi_ok yX4_isOn.cls (decide (yX4_isOn.name = "<init>")) zi_ms r = true := by decide +kernel
set_option maxRecDepth 100000 in
theorem zm_125 : zi_mP (yX4_isOn, cX4_isOn, 2, (some FieldType.boolean), zc_X4_isOn, 0, 0) := ⟨zi_tb_in (t := 488) (by decide +kernel), zi_tb_in (t := 100) (by decide +kernel), by decide +kernel, ⟨by decide +kernel, by decide +kernel⟩, by decide +kernel, zv_zc_X4_isOn_0⟩
set_option maxRecDepth 100000 in
theorem zv_zc_X4_isLooseOn_0 : ∀ r ∈ zc_X4_isLooseOn_0, decode cX4_isLooseOn r.1 = .ok (r.2.1, r.2.2.1) ∧ zi_lok r = true ∧ zi_ok yX4_isLooseOn.cls (decide (yX4_isLooseOn.name = "<init>")) zi_ms r = true := by decide +kernel
set_option maxRecDepth 100000 in
theorem zm_126 : zi_mP (yX4_isLooseOn, cX4_isLooseOn, 2, (some FieldType.boolean), zc_X4_isLooseOn, 0, 0) := ⟨zi_tb_in (t := 484) (by decide +kernel), zi_tb_in (t := 100) (by decide +kernel), by decide +kernel, ⟨by decide +kernel, by decide +kernel⟩, by decide +kernel, zv_zc_X4_isLooseOn_0⟩
set_option maxRecDepth 100000 in
theorem zv_zc_X4_canBeWhole_0 : ∀ r ∈ zc_X4_canBeWhole_0, decode cX4_canBeWhole r.1 = .ok (r.2.1, r.2.2.1) ∧ zi_lok r = true ∧ zi_ok yX4_canBeWhole.cls (decide (yX4_canBeWhole.name = "<init>")) zi_ms r = true := by decide +kernel
set_option maxRecDepth 100000 in
theorem zm_127 : zi_mP (yX4_canBeWhole, cX4_canBeWhole, 2, (some FieldType.boolean), zc_X4_canBeWhole, 0, 0) := ⟨zi_tb_in (t := 364) (by decide +kernel), zi_tb_in (t := 100) (by decide +kernel), by decide +kernel, ⟨by decide +kernel, by decide +kernel⟩, by decide +kernel, zv_zc_X4_canBeWhole_0⟩
set_option maxRecDepth 100000 in
theorem zv_zc_X4_nearest_0 : ∀ r ∈ zc_X4_nearest_0, decode cX4_nearest r.1 = .ok (r.2.1, r.2.2.1) ∧ zi_lok r = true ∧ zi_ok yX4_nearest.cls (decide (yX4_nearest.name = "<init>")) zi_ms r = true := by decide +kernel
set_option maxRecDepth 100000 in
theorem zm_128 : zi_mP (yX4_nearest, cX4_nearest, 4, (some FieldType.int), zc_X4_nearest, 0, 0) := ⟨zi_tb_in (t := 445) (by decide +kernel), zi_tb_in (t := 100) (by decide +kernel), by decide +kernel, ⟨by decide +kernel, by decide +kernel⟩, by decide +kernel, zv_zc_X4_nearest_0⟩
set_option maxRecDepth 100000 in
theorem zv_zc_X4_putAt_0 : ∀ r ∈ zc_X4_putAt_0, decode cX4_putAt r.1 = .ok (r.2.1, r.2.2.1) ∧ zi_lok r = true ∧ zi_ok yX4_putAt.cls (decide (yX4_putAt.name = "<init>")) zi_ms r = true := by decide +kernel
set_option maxRecDepth 100000 in
theorem zm_129 : zi_mP (yX4_putAt, cX4_putAt, 4, none, zc_X4_putAt, 0, 0) := ⟨zi_tb_in (t := 441) (by decide +kernel), zi_tb_in (t := 100) (by decide +kernel), by decide +kernel, ⟨by decide +kernel, by decide +kernel⟩, by decide +kernel, zv_zc_X4_putAt_0⟩
set_option maxRecDepth 100000 in
theorem zv_zc_X4_sendTo_0 : ∀ r ∈ zc_X4_sendTo_0, decode cX4_sendTo r.1 = .ok (r.2.1, r.2.2.1) ∧ zi_lok r = true ∧ zi_ok yX4_sendTo.cls (decide (yX4_sendTo.name = "<init>")) zi_ms r = true := by decide +kernel
set_option maxRecDepth 100000 in
theorem zm_130 : zi_mP (yX4_sendTo, cX4_sendTo, 3, none, zc_X4_sendTo, 0, 0) := ⟨zi_tb_in (t := 436) (by decide +kernel), zi_tb_in (t := 100) (by decide +kernel), by decide +kernel, ⟨by decide +kernel, by decide +kernel⟩, by decide +kernel, zv_zc_X4_sendTo_0⟩
set_option maxRecDepth 100000 in
theorem zv_zc_X4_coversPoint_0 : ∀ r ∈ zc_X4_coversPoint_0, decode cX4_coversPoint r.1 = .ok (r.2.1, r.2.2.1) ∧ zi_lok r = true ∧ zi_ok yX4_coversPoint.cls (decide (yX4_coversPoint.name = "<init>")) zi_ms r = true := by decide +kernel
set_option maxRecDepth 100000 in
theorem zm_131 : zi_mP (yX4_coversPoint, cX4_coversPoint, 6, (some FieldType.boolean), zc_X4_coversPoint, 0, 0) := ⟨zi_tb_in (t := 813) (by decide +kernel), zi_tb_in (t := 100) (by decide +kernel), by decide +kernel, ⟨by decide +kernel, by decide +kernel⟩, by decide +kernel, zv_zc_X4_coversPoint_0⟩
set_option maxRecDepth 100000 in
theorem zv_zc_X4_spans_0 : ∀ r ∈ zc_X4_spans_0, decode cX4_spans r.1 = .ok (r.2.1, r.2.2.1) ∧ zi_lok r = true ∧ zi_ok yX4_spans.cls (decide (yX4_spans.name = "<init>")) zi_ms r = true := by decide +kernel
set_option maxRecDepth 100000 in
theorem zm_132 : zi_mP (yX4_spans, cX4_spans, 5, (some FieldType.boolean), zc_X4_spans, 0, 0) := ⟨zi_tb_in (t := 820) (by decide +kernel), zi_tb_in (t := 100) (by decide +kernel), by decide +kernel, ⟨by decide +kernel, by decide +kernel⟩, by decide +kernel, zv_zc_X4_spans_0⟩
set_option maxRecDepth 100000 in
theorem zv_zc_X5_between_0 : ∀ r ∈ zc_X5_between_0, decode cX5_between r.1 = .ok (r.2.1, r.2.2.1) ∧ zi_lok r = true ∧ zi_ok yX5_between.cls (decide (yX5_between.name = "<init>")) zi_ms r = true := by decide +kernel
set_option maxRecDepth 100000 in
theorem zm_133 : zi_mP (yX5_between, cX5_between, 3, (some FieldType.int), zc_X5_between, 0, 0) := ⟨zi_tb_in (t := 448) (by decide +kernel), zi_tb_in (t := 96) (by decide +kernel), by decide +kernel, ⟨by decide +kernel, by decide +kernel⟩, by decide +kernel, zv_zc_X5_between_0⟩
set_option maxRecDepth 100000 in
theorem zv_zc_X5_looseOnes_0 : ∀ r ∈ zc_X5_looseOnes_0, decode cX5_looseOnes r.1 = .ok (r.2.1, r.2.2.1) ∧ zi_lok r = true ∧ zi_ok yX5_looseOnes.cls (decide (yX5_looseOnes.name = "<init>")) zi_ms r = true := by decide +kernel
set_option maxRecDepth 100000 in
theorem zm_134 : zi_mP (yX5_looseOnes, cX5_looseOnes, 4, (some FieldType.int), zc_X5_looseOnes, 0, 0) := ⟨zi_tb_in (t := 846) (by decide +kernel), zi_tb_in (t := 96) (by decide +kernel), by decide +kernel, ⟨by decide +kernel, by decide +kernel⟩, by decide +kernel, zv_zc_X5_looseOnes_0⟩
set_option maxRecDepth 100000 in
theorem zv_zc_X5_windowsOn_0 : ∀ r ∈ zc_X5_windowsOn_0, decode cX5_windowsOn r.1 = .ok (r.2.1, r.2.2.1) ∧ zi_lok r = true ∧ zi_ok yX5_windowsOn.cls (decide (yX5_windowsOn.name = "<init>")) zi_ms r = true := by decide +kernel
set_option maxRecDepth 100000 in
theorem zm_135 : zi_mP (yX5_windowsOn, cX5_windowsOn, 4, (some FieldType.int), zc_X5_windowsOn, 0, 0) := ⟨zi_tb_in (t := 543) (by decide +kernel), zi_tb_in (t := 96) (by decide +kernel), by decide +kernel, ⟨by decide +kernel, by decide +kernel⟩, by decide +kernel, zv_zc_X5_windowsOn_0⟩
set_option maxRecDepth 100000 in
theorem zv_zc_X5_looseOnesFit_0 : ∀ r ∈ zc_X5_looseOnesFit_0, decode cX5_looseOnesFit r.1 = .ok (r.2.1, r.2.2.1) ∧ zi_lok r = true ∧ zi_ok yX5_looseOnesFit.cls (decide (yX5_looseOnesFit.name = "<init>")) zi_ms r = true := by decide +kernel
set_option maxRecDepth 100000 in
theorem zm_136 : zi_mP (yX5_looseOnesFit, cX5_looseOnesFit, 4, (some FieldType.boolean), zc_X5_looseOnesFit, 0, 0) := ⟨zi_tb_in (t := 480) (by decide +kernel), zi_tb_in (t := 96) (by decide +kernel), by decide +kernel, ⟨by decide +kernel, by decide +kernel⟩, by decide +kernel, zv_zc_X5_looseOnesFit_0⟩
set_option maxRecDepth 100000 in
theorem zv_zc_X5_sendAll_0 : ∀ r ∈ zc_X5_sendAll_0, decode cX5_sendAll r.1 = .ok (r.2.1, r.2.2.1) ∧ zi_lok r = true ∧ zi_ok yX5_sendAll.cls (decide (yX5_sendAll.name = "<init>")) zi_ms r = true := by decide +kernel
set_option maxRecDepth 100000 in
theorem zm_137 : zi_mP (yX5_sendAll, cX5_sendAll, 4, none, zc_X5_sendAll, 0, 0) := ⟨zi_tb_in (t := 493) (by decide +kernel), zi_tb_in (t := 96) (by decide +kernel), by decide +kernel, ⟨by decide +kernel, by decide +kernel⟩, by decide +kernel, zv_zc_X5_sendAll_0⟩
set_option maxRecDepth 100000 in
theorem zv_zc_X5_treeOf_0 : ∀ r ∈ zc_X5_treeOf_0, decode cX5_treeOf r.1 = .ok (r.2.1, r.2.2.1) ∧ zi_lok r = true ∧ zi_ok yX5_treeOf.cls (decide (yX5_treeOf.name = "<init>")) zi_ms r = true := by decide +kernel
set_option maxRecDepth 100000 in
theorem zm_138 : zi_mP (yX5_treeOf, cX5_treeOf, 2, (some (FieldType.object "WindowDesk$Tree")), zc_X5_treeOf, 0, 0) := ⟨zi_tb_in (t := 376) (by decide +kernel), zi_tb_in (t := 96) (by decide +kernel), by decide +kernel, ⟨by decide +kernel, by decide +kernel⟩, by decide +kernel, zv_zc_X5_treeOf_0⟩
set_option maxRecDepth 100000 in
theorem zv_zc_X5_layTrees_0 : ∀ r ∈ zc_X5_layTrees_0, decode cX5_layTrees r.1 = .ok (r.2.1, r.2.2.1) ∧ zi_lok r = true ∧ zi_ok yX5_layTrees.cls (decide (yX5_layTrees.name = "<init>")) zi_ms r = true := by decide +kernel
set_option maxRecDepth 100000 in
theorem zm_139 : zi_mP (yX5_layTrees, cX5_layTrees, 2, none, zc_X5_layTrees, 0, 0) := ⟨zi_tb_in (t := 578) (by decide +kernel), zi_tb_in (t := 96) (by decide +kernel), by decide +kernel, ⟨by decide +kernel, by decide +kernel⟩, by decide +kernel, zv_zc_X5_layTrees_0⟩
set_option maxRecDepth 100000 in
theorem zv_zc_X5_startOf_0 : ∀ r ∈ zc_X5_startOf_0, decode cX5_startOf r.1 = .ok (r.2.1, r.2.2.1) ∧ zi_lok r = true ∧ zi_ok yX5_startOf.cls (decide (yX5_startOf.name = "<init>")) zi_ms r = true := by decide +kernel
set_option maxRecDepth 100000 in
theorem zm_140 : zi_mP (yX5_startOf, cX5_startOf, 3, (some FieldType.int), zc_X5_startOf, 0, 0) := ⟨zi_tb_in (t := 642) (by decide +kernel), zi_tb_in (t := 96) (by decide +kernel), by decide +kernel, ⟨by decide +kernel, by decide +kernel⟩, by decide +kernel, zv_zc_X5_startOf_0⟩
set_option maxRecDepth 100000 in
theorem zv_zc_X5_lengthOf_0 : ∀ r ∈ zc_X5_lengthOf_0, decode cX5_lengthOf r.1 = .ok (r.2.1, r.2.2.1) ∧ zi_lok r = true ∧ zi_ok yX5_lengthOf.cls (decide (yX5_lengthOf.name = "<init>")) zi_ms r = true := by decide +kernel
set_option maxRecDepth 100000 in
theorem zm_141 : zi_mP (yX5_lengthOf, cX5_lengthOf, 3, (some FieldType.int), zc_X5_lengthOf, 0, 0) := ⟨zi_tb_in (t := 634) (by decide +kernel), zi_tb_in (t := 96) (by decide +kernel), by decide +kernel, ⟨by decide +kernel, by decide +kernel⟩, by decide +kernel, zv_zc_X5_lengthOf_0⟩
set_option maxRecDepth 100000 in
theorem zv_zc_X5_findRoom_0 : ∀ r ∈ zc_X5_findRoom_0, decode cX5_findRoom r.1 = .ok (r.2.1, r.2.2.1) ∧ zi_lok r = true ∧ zi_ok yX5_findRoom.cls (decide (yX5_findRoom.name = "<init>")) zi_ms r = true := by decide +kernel
set_option maxRecDepth 100000 in
theorem zv_zc_X5_findRoom_1 : ∀ r ∈ zc_X5_findRoom_1, decode cX5_findRoom r.1 = .ok (r.2.1, r.2.2.1) ∧ zi_lok r = true ∧ zi_ok yX5_findRoom.cls (decide (yX5_findRoom.name = "<init>")) zi_ms r = true := by decide +kernel
set_option maxRecDepth 100000 in
theorem zv_zc_X5_findRoom_2 : ∀ r ∈ zc_X5_findRoom_2, decode cX5_findRoom r.1 = .ok (r.2.1, r.2.2.1) ∧ zi_lok r = true ∧ zi_ok yX5_findRoom.cls (decide (yX5_findRoom.name = "<init>")) zi_ms r = true := by decide +kernel
set_option maxRecDepth 100000 in
theorem zm_142 : zi_mP (yX5_findRoom, cX5_findRoom, 6, (some FieldType.boolean), zc_X5_findRoom, 0, 0) := ⟨zi_tb_in (t := 599) (by decide +kernel), zi_tb_in (t := 96) (by decide +kernel), by decide +kernel, ⟨by decide +kernel, by decide +kernel⟩, by decide +kernel, List.forall_mem_append.mpr ⟨zv_zc_X5_findRoom_0, List.forall_mem_append.mpr ⟨zv_zc_X5_findRoom_1, zv_zc_X5_findRoom_2⟩⟩⟩
set_option maxRecDepth 100000 in
theorem zv_zc_X5_middleOf_0 : ∀ r ∈ zc_X5_middleOf_0, decode cX5_middleOf r.1 = .ok (r.2.1, r.2.2.1) ∧ zi_lok r = true ∧ zi_ok yX5_middleOf.cls (decide (yX5_middleOf.name = "<init>")) zi_ms r = true := by decide +kernel
set_option maxRecDepth 100000 in
theorem zm_143 : zi_mP (yX5_middleOf, cX5_middleOf, 4, (some FieldType.int), zc_X5_middleOf, 0, 0) := ⟨zi_tb_in (t := 630) (by decide +kernel), zi_tb_in (t := 96) (by decide +kernel), by decide +kernel, ⟨by decide +kernel, by decide +kernel⟩, by decide +kernel, zv_zc_X5_middleOf_0⟩
