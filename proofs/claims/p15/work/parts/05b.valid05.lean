set_option maxRecDepth 100000 in
theorem zv_zc_X3_addTab_0 : ∀ r ∈ zc_X3_addTab_0, decode cX3_addTab r.1 = .ok (r.2.1, r.2.2.1) ∧ zi_lok r = true ∧ zi_ok yX3_addTab.cls (decide (yX3_addTab.name = "<init>")) zi_ms r = true := by decide +kernel
set_option maxRecDepth 100000 in
theorem zm_96 : zi_mP (yX3_addTab, cX3_addTab, 6, none, zc_X3_addTab, 0, 0) := ⟨zi_tb_in (t := 527) (by decide +kernel), zi_tb_in (t := 98) (by decide +kernel), by decide +kernel, ⟨by decide +kernel, by decide +kernel⟩, by decide +kernel, zv_zc_X3_addTab_0⟩
set_option maxRecDepth 100000 in
theorem zv_zc_X3_addAllTabs_0 : ∀ r ∈ zc_X3_addAllTabs_0, decode cX3_addAllTabs r.1 = .ok (r.2.1, r.2.2.1) ∧ zi_lok r = true ∧ zi_ok yX3_addAllTabs.cls (decide (yX3_addAllTabs.name = "<init>")) zi_ms r = true := by decide +kernel
set_option maxRecDepth 100000 in
theorem zv_zc_X3_addAllTabs_1 : ∀ r ∈ zc_X3_addAllTabs_1, decode cX3_addAllTabs r.1 = .ok (r.2.1, r.2.2.1) ∧ zi_lok r = true ∧ zi_ok yX3_addAllTabs.cls (decide (yX3_addAllTabs.name = "<init>")) zi_ms r = true := by decide +kernel
set_option maxRecDepth 100000 in
theorem zm_97 : zi_mP (yX3_addAllTabs, cX3_addAllTabs, 6, none, zc_X3_addAllTabs, 0, 0) := ⟨zi_tb_in (t := 506) (by decide +kernel), zi_tb_in (t := 98) (by decide +kernel), by decide +kernel, ⟨by decide +kernel, by decide +kernel⟩, by decide +kernel, List.forall_mem_append.mpr ⟨zv_zc_X3_addAllTabs_0, zv_zc_X3_addAllTabs_1⟩⟩
set_option maxRecDepth 100000 in
theorem zv_zc_X3_cutLeaf_0 : ∀ r ∈ zc_X3_cutLeaf_0, decode cX3_cutLeaf r.1 = .ok (r.2.1, r.2.2.1) ∧ zi_lok r = true ∧ zi_ok yX3_cutLeaf.cls (decide (yX3_cutLeaf.name = "<init>")) zi_ms r = true := by decide +kernel
set_option maxRecDepth 100000 in
theorem zv_zc_X3_cutLeaf_1 : ∀ r ∈ zc_X3_cutLeaf_1, decode cX3_cutLeaf r.1 = .ok (r.2.1, r.2.2.1) ∧ zi_lok r = true ∧ zi_ok yX3_cutLeaf.cls (decide (yX3_cutLeaf.name = "<init>")) zi_ms r = true := by decide +kernel
set_option maxRecDepth 100000 in
theorem zm_98 : zi_mP (yX3_cutLeaf, cX3_cutLeaf, 9, none, zc_X3_cutLeaf, 0, 0) := ⟨zi_tb_in (t := 621) (by decide +kernel), zi_tb_in (t := 98) (by decide +kernel), by decide +kernel, ⟨by decide +kernel, by decide +kernel⟩, by decide +kernel, List.forall_mem_append.mpr ⟨zv_zc_X3_cutLeaf_0, zv_zc_X3_cutLeaf_1⟩⟩
set_option maxRecDepth 100000 in
theorem zv_zc_X3_takeOut_0 : ∀ r ∈ zc_X3_takeOut_0, decode cX3_takeOut r.1 = .ok (r.2.1, r.2.2.1) ∧ zi_lok r = true ∧ zi_ok yX3_takeOut.cls (decide (yX3_takeOut.name = "<init>")) zi_ms r = true := by decide +kernel
set_option maxRecDepth 100000 in
theorem zv_zc_X3_takeOut_1 : ∀ r ∈ zc_X3_takeOut_1, decode cX3_takeOut r.1 = .ok (r.2.1, r.2.2.1) ∧ zi_lok r = true ∧ zi_ok yX3_takeOut.cls (decide (yX3_takeOut.name = "<init>")) zi_ms r = true := by decide +kernel
set_option maxRecDepth 100000 in
theorem zm_99 : zi_mP (yX3_takeOut, cX3_takeOut, 3, none, zc_X3_takeOut, 0, 0) := ⟨zi_tb_in (t := 380) (by decide +kernel), zi_tb_in (t := 98) (by decide +kernel), by decide +kernel, ⟨by decide +kernel, by decide +kernel⟩, by decide +kernel, List.forall_mem_append.mpr ⟨zv_zc_X3_takeOut_0, zv_zc_X3_takeOut_1⟩⟩
set_option maxRecDepth 100000 in
theorem zv_zc_X3_nextShown_0 : ∀ r ∈ zc_X3_nextShown_0, decode cX3_nextShown r.1 = .ok (r.2.1, r.2.2.1) ∧ zi_lok r = true ∧ zi_ok yX3_nextShown.cls (decide (yX3_nextShown.name = "<init>")) zi_ms r = true := by decide +kernel
set_option maxRecDepth 100000 in
theorem zm_100 : zi_mP (yX3_nextShown, cX3_nextShown, 7, (some FieldType.int), zc_X3_nextShown, 0, 0) := ⟨zi_tb_in (t := 385) (by decide +kernel), zi_tb_in (t := 98) (by decide +kernel), by decide +kernel, ⟨by decide +kernel, by decide +kernel⟩, by decide +kernel, zv_zc_X3_nextShown_0⟩
set_option maxRecDepth 100000 in
theorem zv_zc_X3_dropLeaf_0 : ∀ r ∈ zc_X3_dropLeaf_0, decode cX3_dropLeaf r.1 = .ok (r.2.1, r.2.2.1) ∧ zi_lok r = true ∧ zi_ok yX3_dropLeaf.cls (decide (yX3_dropLeaf.name = "<init>")) zi_ms r = true := by decide +kernel
set_option maxRecDepth 100000 in
theorem zm_101 : zi_mP (yX3_dropLeaf, cX3_dropLeaf, 3, none, zc_X3_dropLeaf, 0, 0) := ⟨zi_tb_in (t := 405) (by decide +kernel), zi_tb_in (t := 98) (by decide +kernel), by decide +kernel, ⟨by decide +kernel, by decide +kernel⟩, by decide +kernel, zv_zc_X3_dropLeaf_0⟩
set_option maxRecDepth 100000 in
theorem zv_zc_X3_putInPlaceOf_0 : ∀ r ∈ zc_X3_putInPlaceOf_0, decode cX3_putInPlaceOf r.1 = .ok (r.2.1, r.2.2.1) ∧ zi_lok r = true ∧ zi_ok yX3_putInPlaceOf.cls (decide (yX3_putInPlaceOf.name = "<init>")) zi_ms r = true := by decide +kernel
set_option maxRecDepth 100000 in
theorem zm_102 : zi_mP (yX3_putInPlaceOf, cX3_putInPlaceOf, 4, none, zc_X3_putInPlaceOf, 0, 0) := ⟨zi_tb_in (t := 409) (by decide +kernel), zi_tb_in (t := 98) (by decide +kernel), by decide +kernel, ⟨by decide +kernel, by decide +kernel⟩, by decide +kernel, zv_zc_X3_putInPlaceOf_0⟩
set_option maxRecDepth 100000 in
theorem zv_zc_X3_enter_0 : ∀ r ∈ zc_X3_enter_0, decode cX3_enter r.1 = .ok (r.2.1, r.2.2.1) ∧ zi_lok r = true ∧ zi_ok yX3_enter.cls (decide (yX3_enter.name = "<init>")) zi_ms r = true := by decide +kernel
set_option maxRecDepth 100000 in
theorem zm_103 : zi_mP (yX3_enter, cX3_enter, 5, none, zc_X3_enter, 0, 0) := ⟨zi_tb_in (t := 535) (by decide +kernel), zi_tb_in (t := 98) (by decide +kernel), by decide +kernel, ⟨by decide +kernel, by decide +kernel⟩, by decide +kernel, zv_zc_X3_enter_0⟩
set_option maxRecDepth 100000 in
theorem zv_zc_X3_newNode_0 : ∀ r ∈ zc_X3_newNode_0, decode cX3_newNode r.1 = .ok (r.2.1, r.2.2.1) ∧ zi_lok r = true ∧ zi_ok yX3_newNode.cls (decide (yX3_newNode.name = "<init>")) zi_ms r = true := by decide +kernel
set_option maxRecDepth 100000 in
theorem zm_104 : zi_mP (yX3_newNode, cX3_newNode, 3, (some FieldType.int), zc_X3_newNode, 0, 0) := ⟨zi_tb_in (t := 531) (by decide +kernel), zi_tb_in (t := 98) (by decide +kernel), by decide +kernel, ⟨by decide +kernel, by decide +kernel⟩, by decide +kernel, zv_zc_X3_newNode_0⟩
set_option maxRecDepth 100000 in
theorem zv_zc_X3_settle_0 : ∀ r ∈ zc_X3_settle_0, decode cX3_settle r.1 = .ok (r.2.1, r.2.2.1) ∧ zi_lok r = true ∧ zi_ok yX3_settle.cls (decide (yX3_settle.name = "<init>")) zi_ms r = true := by decide +kernel
set_option maxRecDepth 100000 in
theorem zm_105 : zi_mP (yX3_settle, cX3_settle, 2, none, zc_X3_settle, 0, 0) := ⟨zi_tb_in (t := 413) (by decide +kernel), zi_tb_in (t := 98) (by decide +kernel), by decide +kernel, ⟨by decide +kernel, by decide +kernel⟩, by decide +kernel, zv_zc_X3_settle_0⟩
set_option maxRecDepth 100000 in
theorem zv_zc_X3_listNodes_0 : ∀ r ∈ zc_X3_listNodes_0, decode cX3_listNodes r.1 = .ok (r.2.1, r.2.2.1) ∧ zi_lok r = true ∧ zi_ok yX3_listNodes.cls (decide (yX3_listNodes.name = "<init>")) zi_ms r = true := by decide +kernel
set_option maxRecDepth 100000 in
theorem zv_zc_X3_listNodes_1 : ∀ r ∈ zc_X3_listNodes_1, decode cX3_listNodes r.1 = .ok (r.2.1, r.2.2.1) ∧ zi_lok r = true ∧ zi_ok yX3_listNodes.cls (decide (yX3_listNodes.name = "<init>")) zi_ms r = true := by decide +kernel
set_option maxRecDepth 100000 in
theorem zm_106 : zi_mP (yX3_listNodes, cX3_listNodes, 4, none, zc_X3_listNodes, 0, 0) := ⟨zi_tb_in (t := 417) (by decide +kernel), zi_tb_in (t := 98) (by decide +kernel), by decide +kernel, ⟨by decide +kernel, by decide +kernel⟩, by decide +kernel, List.forall_mem_append.mpr ⟨zv_zc_X3_listNodes_0, zv_zc_X3_listNodes_1⟩⟩
set_option maxRecDepth 100000 in
theorem zv_zc_X3_measureLeaves_0 : ∀ r ∈ zc_X3_measureLeaves_0, decode cX3_measureLeaves r.1 = .ok (r.2.1, r.2.2.1) ∧ zi_lok r = true ∧ zi_ok yX3_measureLeaves.cls (decide (yX3_measureLeaves.name = "<init>")) zi_ms r = true := by decide +kernel
set_option maxRecDepth 100000 in
theorem zv_zc_X3_measureLeaves_1 : ∀ r ∈ zc_X3_measureLeaves_1, decode cX3_measureLeaves r.1 = .ok (r.2.1, r.2.2.1) ∧ zi_lok r = true ∧ zi_ok yX3_measureLeaves.cls (decide (yX3_measureLeaves.name = "<init>")) zi_ms r = true := by decide +kernel
set_option maxRecDepth 100000 in
theorem zm_107 : zi_mP (yX3_measureLeaves, cX3_measureLeaves, 5, none, zc_X3_measureLeaves, 0, 0) := ⟨zi_tb_in (t := 421) (by decide +kernel), zi_tb_in (t := 98) (by decide +kernel), by decide +kernel, ⟨by decide +kernel, by decide +kernel⟩, by decide +kernel, List.forall_mem_append.mpr ⟨zv_zc_X3_measureLeaves_0, zv_zc_X3_measureLeaves_1⟩⟩
set_option maxRecDepth 100000 in
theorem zv_zc_X3_measureCuts_0 : ∀ r ∈ zc_X3_measureCuts_0, decode cX3_measureCuts r.1 = .ok (r.2.1, r.2.2.1) ∧ zi_lok r = true ∧ zi_ok yX3_measureCuts.cls (decide (yX3_measureCuts.name = "<init>")) zi_ms r = true := by decide +kernel
set_option maxRecDepth 100000 in
theorem zv_zc_X3_measureCuts_1 : ∀ r ∈ zc_X3_measureCuts_1, decode cX3_measureCuts r.1 = .ok (r.2.1, r.2.2.1) ∧ zi_lok r = true ∧ zi_ok yX3_measureCuts.cls (decide (yX3_measureCuts.name = "<init>")) zi_ms r = true := by decide +kernel
set_option maxRecDepth 100000 in
theorem zm_108 : zi_mP (yX3_measureCuts, cX3_measureCuts, 6, none, zc_X3_measureCuts, 0, 0) := ⟨zi_tb_in (t := 428) (by decide +kernel), zi_tb_in (t := 98) (by decide +kernel), by decide +kernel, ⟨by decide +kernel, by decide +kernel⟩, by decide +kernel, List.forall_mem_append.mpr ⟨zv_zc_X3_measureCuts_0, zv_zc_X3_measureCuts_1⟩⟩
set_option maxRecDepth 100000 in
theorem zv_zc_X3_lay_0 : ∀ r ∈ zc_X3_lay_0, decode cX3_lay r.1 = .ok (r.2.1, r.2.2.1) ∧ zi_lok r = true ∧ zi_ok yX3_lay.cls (decide (yX3_lay.name = "<init>")) zi_ms r = true := by decide +kernel
set_option maxRecDepth 100000 in
theorem zv_zc_X3_lay_1 : ∀ r ∈ zc_X3_lay_1, decode cX3_lay r.1 = .ok (r.2.1, r.2.2.1) ∧ zi_lok r = true ∧ zi_ok yX3_lay.cls (decide (yX3_lay.name = "<init>")) zi_ms r = true := by decide +kernel
set_option maxRecDepth 100000 in
theorem zm_109 : zi_mP (yX3_lay, cX3_lay, 3, none, zc_X3_lay, 0, 0) := ⟨zi_tb_in (t := 582) (by decide +kernel), zi_tb_in (t := 98) (by decide +kernel), by decide +kernel, ⟨by decide +kernel, by decide +kernel⟩, by decide +kernel, List.forall_mem_append.mpr ⟨zv_zc_X3_lay_0, zv_zc_X3_lay_1⟩⟩
set_option maxRecDepth 100000 in
theorem zv_zc_X3_divide_0 : ∀ r ∈ zc_X3_divide_0, decode cX3_divide r.1 = .ok (r.2.1, r.2.2.1) ∧ zi_lok r = true ∧ zi_ok yX3_divide.cls (decide (yX3_divide.name = "<init>")) zi_ms r = true := by decide +kernel
set_option maxRecDepth 100000 in
theorem zv_zc_X3_divide_1 : ∀ r ∈ zc_X3_divide_1, decode cX3_divide r.1 = .ok (r.2.1, r.2.2.1) ∧ zi_lok r = true ∧ zi_ok yX3_divide.cls (decide (yX3_divide.name = "<init>")) zi_ms r = true := by decide +kernel
set_option maxRecDepth 100000 in
theorem zv_zc_X3_divide_2 : ∀ r ∈ zc_X3_divide_2, decode cX3_divide r.1 = .ok (r.2.1, r.2.2.1) ∧ zi_lok r = true ∧ zi_ok yX3_divide.cls (decide (yX3_divide.name = "<init>")) zi_ms r = true := by decide +kernel
set_option maxRecDepth 100000 in
theorem zm_110 : zi_mP (yX3_divide, cX3_divide, 8, none, zc_X3_divide, 0, 0) := ⟨zi_tb_in (t := 586) (by decide +kernel), zi_tb_in (t := 98) (by decide +kernel), by decide +kernel, ⟨by decide +kernel, by decide +kernel⟩, by decide +kernel, List.forall_mem_append.mpr ⟨zv_zc_X3_divide_0, List.forall_mem_append.mpr ⟨zv_zc_X3_divide_1, zv_zc_X3_divide_2⟩⟩⟩
set_option maxRecDepth 100000 in
theorem zv_zc_X3_firstPart_0 : ∀ r ∈ zc_X3_firstPart_0, decode cX3_firstPart r.1 = .ok (r.2.1, r.2.2.1) ∧ zi_lok r = true ∧ zi_ok yX3_firstPart.cls (decide (yX3_firstPart.name = "<init>")) zi_ms r = true := by decide +kernel
set_option maxRecDepth 100000 in
theorem zm_111 : zi_mP (yX3_firstPart, cX3_firstPart, 5, (some FieldType.int), zc_X3_firstPart, 0, 0) := ⟨zi_tb_in (t := 590) (by decide +kernel), zi_tb_in (t := 98) (by decide +kernel), by decide +kernel, ⟨by decide +kernel, by decide +kernel⟩, by decide +kernel, zv_zc_X3_firstPart_0⟩
set_option maxRecDepth 100000 in
theorem zv_zc_X3_isWide_0 : ∀ r ∈ zc_X3_isWide_0, decode cX3_isWide r.1 = .ok (r.2.1, r.2.2.1) ∧ zi_lok r = true ∧ zi_ok yX3_isWide.cls (decide (yX3_isWide.name = "<init>")) zi_ms r = true := by decide +kernel
set_option maxRecDepth 100000 in
theorem zm_112 : zi_mP (yX3_isWide, cX3_isWide, 2, (some FieldType.boolean), zc_X3_isWide, 0, 0) := ⟨zi_tb_in (t := 613) (by decide +kernel), zi_tb_in (t := 98) (by decide +kernel), by decide +kernel, ⟨by decide +kernel, by decide +kernel⟩, by decide +kernel, zv_zc_X3_isWide_0⟩
set_option maxRecDepth 100000 in
theorem zv_zc_X3_startOf_0 : ∀ r ∈ zc_X3_startOf_0, decode cX3_startOf r.1 = .ok (r.2.1, r.2.2.1) ∧ zi_lok r = true ∧ zi_ok yX3_startOf.cls (decide (yX3_startOf.name = "<init>")) zi_ms r = true := by decide +kernel
set_option maxRecDepth 100000 in
theorem zm_113 : zi_mP (yX3_startOf, cX3_startOf, 4, (some FieldType.int), zc_X3_startOf, 0, 0) := ⟨zi_tb_in (t := 646) (by decide +kernel), zi_tb_in (t := 98) (by decide +kernel), by decide +kernel, ⟨by decide +kernel, by decide +kernel⟩, by decide +kernel, zv_zc_X3_startOf_0⟩
set_option maxRecDepth 100000 in
theorem zv_zc_X3_lengthOf_0 : ∀ r ∈ zc_X3_lengthOf_0, decode cX3_lengthOf r.1 = .ok (r.2.1, r.2.2.1) ∧ zi_lok r = true ∧ zi_ok yX3_lengthOf.cls (decide (yX3_lengthOf.name = "<init>")) zi_ms r = true := by decide +kernel
set_option maxRecDepth 100000 in
theorem zm_114 : zi_mP (yX3_lengthOf, cX3_lengthOf, 4, (some FieldType.int), zc_X3_lengthOf, 0, 0) := ⟨zi_tb_in (t := 638) (by decide +kernel), zi_tb_in (t := 98) (by decide +kernel), by decide +kernel, ⟨by decide +kernel, by decide +kernel⟩, by decide +kernel, zv_zc_X3_lengthOf_0⟩
set_option maxRecDepth 100000 in
theorem zv_zc_X3_endOf_0 : ∀ r ∈ zc_X3_endOf_0, decode cX3_endOf r.1 = .ok (r.2.1, r.2.2.1) ∧ zi_lok r = true ∧ zi_ok yX3_endOf.cls (decide (yX3_endOf.name = "<init>")) zi_ms r = true := by decide +kernel
set_option maxRecDepth 100000 in
theorem zm_115 : zi_mP (yX3_endOf, cX3_endOf, 3, (some FieldType.int), zc_X3_endOf, 0, 0) := ⟨zi_tb_in (t := 737) (by decide +kernel), zi_tb_in (t := 98) (by decide +kernel), by decide +kernel, ⟨by decide +kernel, by decide +kernel⟩, by decide +kernel, zv_zc_X3_endOf_0⟩
set_option maxRecDepth 100000 in
theorem zv_zc_X3_shownAt_0 : ∀ r ∈ zc_X3_shownAt_0, decode cX3_shownAt r.1 = .ok (r.2.1, r.2.2.1) ∧ zi_lok r = true ∧ zi_ok yX3_shownAt.cls (decide (yX3_shownAt.name = "<init>")) zi_ms r = true := by decide +kernel
set_option maxRecDepth 100000 in
theorem zm_116 : zi_mP (yX3_shownAt, cX3_shownAt, 4, (some FieldType.int), zc_X3_shownAt, 0, 0) := ⟨zi_tb_in (t := 824) (by decide +kernel), zi_tb_in (t := 98) (by decide +kernel), by decide +kernel, ⟨by decide +kernel, by decide +kernel⟩, by decide +kernel, zv_zc_X3_shownAt_0⟩
