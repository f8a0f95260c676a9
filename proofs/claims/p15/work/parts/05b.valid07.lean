set_option maxRecDepth 100000 in
theorem zv_zc_X5_tile_0 : ∀ r ∈ zc_X5_tile_0, decode cX5_tile r.1 = .ok (r.2.1, r.2.2.1) ∧ zi_lok r = true ∧ zi_ok yX5_tile.cls (decide (yX5_tile.name = "<init>")) zi_ms r = true := by decide +kernel
set_option maxRecDepth 100000 in
theorem zv_zc_X5_tile_1 : ∀ r ∈ zc_X5_tile_1, decode cX5_tile r.1 = .ok (r.2.1, r.2.2.1) ∧ zi_lok r = true ∧ zi_ok yX5_tile.cls (decide (yX5_tile.name = "<init>")) zi_ms r = true := by decide +kernel
set_option maxRecDepth 100000 in
theorem zm_144 : zi_mP (yX5_tile, cX5_tile, 6, (some FieldType.boolean), zc_X5_tile, 0, 0) := ⟨zi_tb_in (t := 603) (by decide +kernel), zi_tb_in (t := 96) (by decide +kernel), by decide +kernel, ⟨by decide +kernel, by decide +kernel⟩, by decide +kernel, List.forall_mem_append.mpr ⟨zv_zc_X5_tile_0, zv_zc_X5_tile_1⟩⟩
set_option maxRecDepth 100000 in
theorem zv_zc_X5_leafAtHand_0 : ∀ r ∈ zc_X5_leafAtHand_0, decode cX5_leafAtHand r.1 = .ok (r.2.1, r.2.2.1) ∧ zi_lok r = true ∧ zi_ok yX5_leafAtHand.cls (decide (yX5_leafAtHand.name = "<init>")) zi_ms r = true := by decide +kernel
set_option maxRecDepth 100000 in
theorem zm_145 : zi_mP (yX5_leafAtHand, cX5_leafAtHand, 4, (some FieldType.int), zc_X5_leafAtHand, 0, 0) := ⟨zi_tb_in (t := 607) (by decide +kernel), zi_tb_in (t := 96) (by decide +kernel), by decide +kernel, ⟨by decide +kernel, by decide +kernel⟩, by decide +kernel, zv_zc_X5_leafAtHand_0⟩
set_option maxRecDepth 100000 in
theorem zv_zc_X5_tryCut_0 : ∀ r ∈ zc_X5_tryCut_0, decode cX5_tryCut r.1 = .ok (r.2.1, r.2.2.1) ∧ zi_lok r = true ∧ zi_ok yX5_tryCut.cls (decide (yX5_tryCut.name = "<init>")) zi_ms r = true := by decide +kernel
set_option maxRecDepth 100000 in
theorem zm_146 : zi_mP (yX5_tryCut, cX5_tryCut, 6, (some FieldType.boolean), zc_X5_tryCut, 0, 0) := ⟨zi_tb_in (t := 617) (by decide +kernel), zi_tb_in (t := 96) (by decide +kernel), by decide +kernel, ⟨by decide +kernel, by decide +kernel⟩, by decide +kernel, zv_zc_X5_tryCut_0⟩
set_option maxRecDepth 100000 in
theorem zv_zc_X5_tryTab_0 : ∀ r ∈ zc_X5_tryTab_0, decode cX5_tryTab r.1 = .ok (r.2.1, r.2.2.1) ∧ zi_lok r = true ∧ zi_ok yX5_tryTab.cls (decide (yX5_tryTab.name = "<init>")) zi_ms r = true := by decide +kernel
set_option maxRecDepth 100000 in
theorem zm_147 : zi_mP (yX5_tryTab, cX5_tryTab, 5, (some FieldType.boolean), zc_X5_tryTab, 0, 0) := ⟨zi_tb_in (t := 625) (by decide +kernel), zi_tb_in (t := 96) (by decide +kernel), by decide +kernel, ⟨by decide +kernel, by decide +kernel⟩, by decide +kernel, zv_zc_X5_tryTab_0⟩
set_option maxRecDepth 100000 in
theorem zv_zc_X5_end_0 : ∀ r ∈ zc_X5_end_0, decode cX5_end r.1 = .ok (r.2.1, r.2.2.1) ∧ zi_lok r = true ∧ zi_ok yX5_end.cls (decide (yX5_end.name = "<init>")) zi_ms r = true := by decide +kernel
set_option maxRecDepth 100000 in
theorem zm_148 : zi_mP (yX5_end, cX5_end, 2, none, zc_X5_end, 0, 0) := ⟨zi_tb_in (t := 693) (by decide +kernel), zi_tb_in (t := 96) (by decide +kernel), by decide +kernel, ⟨by decide +kernel, by decide +kernel⟩, by decide +kernel, zv_zc_X5_end_0⟩
set_option maxRecDepth 100000 in
theorem zv_zc_X5_giveFocus_0 : ∀ r ∈ zc_X5_giveFocus_0, decode cX5_giveFocus r.1 = .ok (r.2.1, r.2.2.1) ∧ zi_lok r = true ∧ zi_ok yX5_giveFocus.cls (decide (yX5_giveFocus.name = "<init>")) zi_ms r = true := by decide +kernel
set_option maxRecDepth 100000 in
theorem zm_149 : zi_mP (yX5_giveFocus, cX5_giveFocus, 2, none, zc_X5_giveFocus, 0, 0) := ⟨zi_tb_in (t := 654) (by decide +kernel), zi_tb_in (t := 96) (by decide +kernel), by decide +kernel, ⟨by decide +kernel, by decide +kernel⟩, by decide +kernel, zv_zc_X5_giveFocus_0⟩
set_option maxRecDepth 100000 in
theorem zv_zc_X5_raise_0 : ∀ r ∈ zc_X5_raise_0, decode cX5_raise r.1 = .ok (r.2.1, r.2.2.1) ∧ zi_lok r = true ∧ zi_ok yX5_raise.cls (decide (yX5_raise.name = "<init>")) zi_ms r = true := by decide +kernel
set_option maxRecDepth 100000 in
theorem zm_150 : zi_mP (yX5_raise, cX5_raise, 5, none, zc_X5_raise, 0, 0) := ⟨zi_tb_in (t := 672) (by decide +kernel), zi_tb_in (t := 96) (by decide +kernel), by decide +kernel, ⟨by decide +kernel, by decide +kernel⟩, by decide +kernel, zv_zc_X5_raise_0⟩
set_option maxRecDepth 100000 in
theorem zv_zc_X5_dialogsOf_0 : ∀ r ∈ zc_X5_dialogsOf_0, decode cX5_dialogsOf r.1 = .ok (r.2.1, r.2.2.1) ∧ zi_lok r = true ∧ zi_ok yX5_dialogsOf.cls (decide (yX5_dialogsOf.name = "<init>")) zi_ms r = true := by decide +kernel
set_option maxRecDepth 100000 in
theorem zm_151 : zi_mP (yX5_dialogsOf, cX5_dialogsOf, 4, (some FieldType.int), zc_X5_dialogsOf, 0, 0) := ⟨zi_tb_in (t := 677) (by decide +kernel), zi_tb_in (t := 96) (by decide +kernel), by decide +kernel, ⟨by decide +kernel, by decide +kernel⟩, by decide +kernel, zv_zc_X5_dialogsOf_0⟩
set_option maxRecDepth 100000 in
theorem zv_zc_X5_lowestDialogOf_0 : ∀ r ∈ zc_X5_lowestDialogOf_0, decode cX5_lowestDialogOf r.1 = .ok (r.2.1, r.2.2.1) ∧ zi_lok r = true ∧ zi_ok yX5_lowestDialogOf.cls (decide (yX5_lowestDialogOf.name = "<init>")) zi_ms r = true := by decide +kernel
set_option maxRecDepth 100000 in
theorem zm_152 : zi_mP (yX5_lowestDialogOf, cX5_lowestDialogOf, 3, (some FieldType.int), zc_X5_lowestDialogOf, 0, 0) := ⟨zi_tb_in (t := 681) (by decide +kernel), zi_tb_in (t := 96) (by decide +kernel), by decide +kernel, ⟨by decide +kernel, by decide +kernel⟩, by decide +kernel, zv_zc_X5_lowestDialogOf_0⟩
set_option maxRecDepth 100000 in
theorem zv_zc_X5_reachFrom_0 : ∀ r ∈ zc_X5_reachFrom_0, decode cX5_reachFrom r.1 = .ok (r.2.1, r.2.2.1) ∧ zi_lok r = true ∧ zi_ok yX5_reachFrom.cls (decide (yX5_reachFrom.name = "<init>")) zi_ms r = true := by decide +kernel
set_option maxRecDepth 100000 in
theorem zm_153 : zi_mP (yX5_reachFrom, cX5_reachFrom, 4, none, zc_X5_reachFrom, 0, 0) := ⟨zi_tb_in (t := 754) (by decide +kernel), zi_tb_in (t := 96) (by decide +kernel), by decide +kernel, ⟨by decide +kernel, by decide +kernel⟩, by decide +kernel, zv_zc_X5_reachFrom_0⟩
set_option maxRecDepth 100000 in
theorem zv_zc_X5_tryDrag_0 : ∀ r ∈ zc_X5_tryDrag_0, decode cX5_tryDrag r.1 = .ok (r.2.1, r.2.2.1) ∧ zi_lok r = true ∧ zi_ok yX5_tryDrag.cls (decide (yX5_tryDrag.name = "<init>")) zi_ms r = true := by decide +kernel
set_option maxRecDepth 100000 in
theorem zv_zc_X5_tryDrag_1 : ∀ r ∈ zc_X5_tryDrag_1, decode cX5_tryDrag r.1 = .ok (r.2.1, r.2.2.1) ∧ zi_lok r = true ∧ zi_ok yX5_tryDrag.cls (decide (yX5_tryDrag.name = "<init>")) zi_ms r = true := by decide +kernel
set_option maxRecDepth 100000 in
theorem zm_154 : zi_mP (yX5_tryDrag, cX5_tryDrag, 6, none, zc_X5_tryDrag, 0, 0) := ⟨zi_tb_in (t := 763) (by decide +kernel), zi_tb_in (t := 96) (by decide +kernel), by decide +kernel, ⟨by decide +kernel, by decide +kernel⟩, by decide +kernel, List.forall_mem_append.mpr ⟨zv_zc_X5_tryDrag_0, zv_zc_X5_tryDrag_1⟩⟩
set_option maxRecDepth 100000 in
theorem zv_zc_X5_axisOf_0 : ∀ r ∈ zc_X5_axisOf_0, decode cX5_axisOf r.1 = .ok (r.2.1, r.2.2.1) ∧ zi_lok r = true ∧ zi_ok yX5_axisOf.cls (decide (yX5_axisOf.name = "<init>")) zi_ms r = true := by decide +kernel
set_option maxRecDepth 100000 in
theorem zm_155 : zi_mP (yX5_axisOf, cX5_axisOf, 1, (some FieldType.int), zc_X5_axisOf, 0, 0) := ⟨zi_tb_in (t := 729) (by decide +kernel), zi_tb_in (t := 96) (by decide +kernel), by decide +kernel, ⟨by decide +kernel, by decide +kernel⟩, by decide +kernel, zv_zc_X5_axisOf_0⟩
set_option maxRecDepth 100000 in
theorem zv_zc_X5_isAfter_0 : ∀ r ∈ zc_X5_isAfter_0, decode cX5_isAfter r.1 = .ok (r.2.1, r.2.2.1) ∧ zi_lok r = true ∧ zi_ok yX5_isAfter.cls (decide (yX5_isAfter.name = "<init>")) zi_ms r = true := by decide +kernel
set_option maxRecDepth 100000 in
theorem zm_156 : zi_mP (yX5_isAfter, cX5_isAfter, 1, (some FieldType.boolean), zc_X5_isAfter, 0, 0) := ⟨zi_tb_in (t := 732) (by decide +kernel), zi_tb_in (t := 96) (by decide +kernel), by decide +kernel, ⟨by decide +kernel, by decide +kernel⟩, by decide +kernel, zv_zc_X5_isAfter_0⟩
set_option maxRecDepth 100000 in
theorem zv_zc_X5_gatherWithDialogs_0 : ∀ r ∈ zc_X5_gatherWithDialogs_0, decode cX5_gatherWithDialogs r.1 = .ok (r.2.1, r.2.2.1) ∧ zi_lok r = true ∧ zi_ok yX5_gatherWithDialogs.cls (decide (yX5_gatherWithDialogs.name = "<init>")) zi_ms r = true := by decide +kernel
set_option maxRecDepth 100000 in
theorem zm_157 : zi_mP (yX5_gatherWithDialogs, cX5_gatherWithDialogs, 3, none, zc_X5_gatherWithDialogs, 0, 0) := ⟨zi_tb_in (t := 689) (by decide +kernel), zi_tb_in (t := 96) (by decide +kernel), by decide +kernel, ⟨by decide +kernel, by decide +kernel⟩, by decide +kernel, zv_zc_X5_gatherWithDialogs_0⟩
set_option maxRecDepth 100000 in
theorem zv_zc_X5_gatherDialogs_0 : ∀ r ∈ zc_X5_gatherDialogs_0, decode cX5_gatherDialogs r.1 = .ok (r.2.1, r.2.2.1) ∧ zi_lok r = true ∧ zi_ok yX5_gatherDialogs.cls (decide (yX5_gatherDialogs.name = "<init>")) zi_ms r = true := by decide +kernel
set_option maxRecDepth 100000 in
theorem zv_zc_X5_gatherDialogs_1 : ∀ r ∈ zc_X5_gatherDialogs_1, decode cX5_gatherDialogs r.1 = .ok (r.2.1, r.2.2.1) ∧ zi_lok r = true ∧ zi_ok yX5_gatherDialogs.cls (decide (yX5_gatherDialogs.name = "<init>")) zi_ms r = true := by decide +kernel
set_option maxRecDepth 100000 in
theorem zm_158 : zi_mP (yX5_gatherDialogs, cX5_gatherDialogs, 3, none, zc_X5_gatherDialogs, 0, 0) := ⟨zi_tb_in (t := 348) (by decide +kernel), zi_tb_in (t := 96) (by decide +kernel), by decide +kernel, ⟨by decide +kernel, by decide +kernel⟩, by decide +kernel, List.forall_mem_append.mpr ⟨zv_zc_X5_gatherDialogs_0, zv_zc_X5_gatherDialogs_1⟩⟩
set_option maxRecDepth 100000 in
theorem zv_zc_X5_groupCanBeWhole_0 : ∀ r ∈ zc_X5_groupCanBeWhole_0, decode cX5_groupCanBeWhole r.1 = .ok (r.2.1, r.2.2.1) ∧ zi_lok r = true ∧ zi_ok yX5_groupCanBeWhole.cls (decide (yX5_groupCanBeWhole.name = "<init>")) zi_ms r = true := by decide +kernel
set_option maxRecDepth 100000 in
theorem zm_159 : zi_mP (yX5_groupCanBeWhole, cX5_groupCanBeWhole, 3, (some FieldType.boolean), zc_X5_groupCanBeWhole, 0, 0) := ⟨zi_tb_in (t := 356) (by decide +kernel), zi_tb_in (t := 96) (by decide +kernel), by decide +kernel, ⟨by decide +kernel, by decide +kernel⟩, by decide +kernel, zv_zc_X5_groupCanBeWhole_0⟩
set_option maxRecDepth 100000 in
theorem zv_zc_X5_sendGroup_0 : ∀ r ∈ zc_X5_sendGroup_0, decode cX5_sendGroup r.1 = .ok (r.2.1, r.2.2.1) ∧ zi_lok r = true ∧ zi_ok yX5_sendGroup.cls (decide (yX5_sendGroup.name = "<init>")) zi_ms r = true := by decide +kernel
set_option maxRecDepth 100000 in
theorem zm_160 : zi_mP (yX5_sendGroup, cX5_sendGroup, 3, none, zc_X5_sendGroup, 0, 0) := ⟨zi_tb_in (t := 432) (by decide +kernel), zi_tb_in (t := 96) (by decide +kernel), by decide +kernel, ⟨by decide +kernel, by decide +kernel⟩, by decide +kernel, zv_zc_X5_sendGroup_0⟩
set_option maxRecDepth 100000 in
theorem zv_zc_X5_keepAll_0 : ∀ r ∈ zc_X5_keepAll_0, decode cX5_keepAll r.1 = .ok (r.2.1, r.2.2.1) ∧ zi_lok r = true ∧ zi_ok yX5_keepAll.cls (decide (yX5_keepAll.name = "<init>")) zi_ms r = true := by decide +kernel
set_option maxRecDepth 100000 in
theorem zv_zc_X5_keepAll_1 : ∀ r ∈ zc_X5_keepAll_1, decode cX5_keepAll r.1 = .ok (r.2.1, r.2.2.1) ∧ zi_lok r = true ∧ zi_ok yX5_keepAll.cls (decide (yX5_keepAll.name = "<init>")) zi_ms r = true := by decide +kernel
set_option maxRecDepth 100000 in
theorem zm_161 : zi_mP (yX5_keepAll, cX5_keepAll, 4, none, zc_X5_keepAll, 0, 0) := ⟨zi_tb_in (t := 547) (by decide +kernel), zi_tb_in (t := 96) (by decide +kernel), by decide +kernel, ⟨by decide +kernel, by decide +kernel⟩, by decide +kernel, List.forall_mem_append.mpr ⟨zv_zc_X5_keepAll_0, zv_zc_X5_keepAll_1⟩⟩
set_option maxRecDepth 100000 in
theorem zv_zc_X5_forgetKeptWith_0 : ∀ r ∈ zc_X5_forgetKeptWith_0, decode cX5_forgetKeptWith r.1 = .ok (r.2.1, r.2.2.1) ∧ zi_lok r = true ∧ zi_ok yX5_forgetKeptWith.cls (decide (yX5_forgetKeptWith.name = "<init>")) zi_ms r = true := by decide +kernel
set_option maxRecDepth 100000 in
theorem zm_162 : zi_mP (yX5_forgetKeptWith, cX5_forgetKeptWith, 3, none, zc_X5_forgetKeptWith, 0, 0) := ⟨zi_tb_in (t := 472) (by decide +kernel), zi_tb_in (t := 96) (by decide +kernel), by decide +kernel, ⟨by decide +kernel, by decide +kernel⟩, by decide +kernel, zv_zc_X5_forgetKeptWith_0⟩
set_option maxRecDepth 100000 in
theorem zv_zc_X5_takeBack_0 : ∀ r ∈ zc_X5_takeBack_0, decode cX5_takeBack r.1 = .ok (r.2.1, r.2.2.1) ∧ zi_lok r = true ∧ zi_ok yX5_takeBack.cls (decide (yX5_takeBack.name = "<init>")) zi_ms r = true := by decide +kernel
set_option maxRecDepth 100000 in
theorem zm_163 : zi_mP (yX5_takeBack, cX5_takeBack, 3, none, zc_X5_takeBack, 0, 0) := ⟨zi_tb_in (t := 368) (by decide +kernel), zi_tb_in (t := 96) (by decide +kernel), by decide +kernel, ⟨by decide +kernel, by decide +kernel⟩, by decide +kernel, zv_zc_X5_takeBack_0⟩
set_option maxRecDepth 100000 in
theorem zv_zc_X5_forgetKeptWithGroup_0 : ∀ r ∈ zc_X5_forgetKeptWithGroup_0, decode cX5_forgetKeptWithGroup r.1 = .ok (r.2.1, r.2.2.1) ∧ zi_lok r = true ∧ zi_ok yX5_forgetKeptWithGroup.cls (decide (yX5_forgetKeptWithGroup.name = "<init>")) zi_ms r = true := by decide +kernel
set_option maxRecDepth 100000 in
theorem zm_164 : zi_mP (yX5_forgetKeptWithGroup, cX5_forgetKeptWithGroup, 2, none, zc_X5_forgetKeptWithGroup, 0, 0) := ⟨zi_tb_in (t := 468) (by decide +kernel), zi_tb_in (t := 96) (by decide +kernel), by decide +kernel, ⟨by decide +kernel, by decide +kernel⟩, by decide +kernel, zv_zc_X5_forgetKeptWithGroup_0⟩
set_option maxRecDepth 100000 in
theorem zv_zc_X6_half_0 : ∀ r ∈ zc_X6_half_0, decode cX6_half r.1 = .ok (r.2.1, r.2.2.1) ∧ zi_lok r = true ∧ zi_ok yX6_half.cls (decide (yX6_half.name = "<init>")) zi_ms r = true := by decide +kernel
set_option maxRecDepth 100000 in
theorem zm_165 : zi_mP (yX6_half, cX6_half, 1, (some FieldType.int), zc_X6_half, 0, 0) := ⟨zi_tb_in (t := 1130) (by decide +kernel), zi_tb_in (t := 103) (by decide +kernel), by decide +kernel, ⟨by decide +kernel, by decide +kernel⟩, by decide +kernel, zv_zc_X6_half_0⟩
set_option maxRecDepth 100000 in
theorem zv_zc_X6_nearest_0 : ∀ r ∈ zc_X6_nearest_0, decode cX6_nearest r.1 = .ok (r.2.1, r.2.2.1) ∧ zi_lok r = true ∧ zi_ok yX6_nearest.cls (decide (yX6_nearest.name = "<init>")) zi_ms r = true := by decide +kernel
set_option maxRecDepth 100000 in
theorem zm_166 : zi_mP (yX6_nearest, cX6_nearest, 2, (some FieldType.int), zc_X6_nearest, 0, 0) := ⟨zi_tb_in (t := 1056) (by decide +kernel), zi_tb_in (t := 103) (by decide +kernel), by decide +kernel, ⟨by decide +kernel, by decide +kernel⟩, by decide +kernel, zv_zc_X6_nearest_0⟩
set_option maxRecDepth 100000 in
theorem zv_zc_X6_isFloating_0 : ∀ r ∈ zc_X6_isFloating_0, decode cX6_isFloating r.1 = .ok (r.2.1, r.2.2.1) ∧ zi_lok r = true ∧ zi_ok yX6_isFloating.cls (decide (yX6_isFloating.name = "<init>")) zi_ms r = true := by decide +kernel
set_option maxRecDepth 100000 in
theorem zm_167 : zi_mP (yX6_isFloating, cX6_isFloating, 2, (some FieldType.boolean), zc_X6_isFloating, 0, 0) := ⟨zi_tb_in (t := 1127) (by decide +kernel), zi_tb_in (t := 103) (by decide +kernel), by decide +kernel, ⟨by decide +kernel, by decide +kernel⟩, by decide +kernel, zv_zc_X6_isFloating_0⟩
