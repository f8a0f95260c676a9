set_option maxRecDepth 100000 in
theorem zv_zc_X6_clearTree_0 : ∀ r ∈ zc_X6_clearTree_0, decode cX6_clearTree r.1 = .ok (r.2.1, r.2.2.1) ∧ zi_lok r = true ∧ zi_ok yX6_clearTree.cls (decide (yX6_clearTree.name = "<init>")) zi_ms r = true := zq_fin zq_X6_ok (by decide +kernel)
set_option maxRecDepth 100000 in
theorem zm_71 : zi_mP (yX6_clearTree, cX6_clearTree, 3, none, zc_X6_clearTree, 0, 0) := ⟨zi_tb_rf (t := 990) rfl (by decide +kernel), zi_tb_in (t := 103) (by decide +kernel), by decide +kernel, ⟨by decide +kernel, by decide +kernel⟩, by decide +kernel, zv_zc_X6_clearTree_0⟩
set_option maxRecDepth 100000 in
theorem zv_zc_X6_screenAtHand_0 : ∀ r ∈ zc_X6_screenAtHand_0, decode cX6_screenAtHand r.1 = .ok (r.2.1, r.2.2.1) ∧ zi_lok r = true ∧ zi_ok yX6_screenAtHand.cls (decide (yX6_screenAtHand.name = "<init>")) zi_ms r = true := zq_fin zq_X6_ok (by decide +kernel)
set_option maxRecDepth 100000 in
theorem zv_zc_X6_screenAtHand_1 : ∀ r ∈ zc_X6_screenAtHand_1, decode cX6_screenAtHand r.1 = .ok (r.2.1, r.2.2.1) ∧ zi_lok r = true ∧ zi_ok yX6_screenAtHand.cls (decide (yX6_screenAtHand.name = "<init>")) zi_ms r = true := zq_fin zq_X6_ok (by decide +kernel)
set_option maxRecDepth 100000 in
theorem zm_72 : zi_mP (yX6_screenAtHand, cX6_screenAtHand, 2, (some FieldType.int), zc_X6_screenAtHand, 0, 0) := ⟨zi_tb_rf (t := 1098) rfl (by decide +kernel), zi_tb_in (t := 103) (by decide +kernel), by decide +kernel, ⟨by decide +kernel, by decide +kernel⟩, by decide +kernel, List.forall_mem_append.mpr ⟨zv_zc_X6_screenAtHand_0, zv_zc_X6_screenAtHand_1⟩⟩
set_option maxRecDepth 100000 in
theorem zv_zc_X6_freeNumber_0 : ∀ r ∈ zc_X6_freeNumber_0, decode cX6_freeNumber r.1 = .ok (r.2.1, r.2.2.1) ∧ zi_lok r = true ∧ zi_ok yX6_freeNumber.cls (decide (yX6_freeNumber.name = "<init>")) zi_ms r = true := zq_fin zq_X6_ok (by decide +kernel)
set_option maxRecDepth 100000 in
theorem zm_73 : zi_mP (yX6_freeNumber, cX6_freeNumber, 2, (some FieldType.int), zc_X6_freeNumber, 0, 0) := ⟨zi_tb_rf (t := 1093) rfl (by decide +kernel), zi_tb_in (t := 103) (by decide +kernel), by decide +kernel, ⟨by decide +kernel, by decide +kernel⟩, by decide +kernel, zv_zc_X6_freeNumber_0⟩
set_option maxRecDepth 100000 in
theorem zv_zc_X0_has_0 : ∀ r ∈ zc_X0_has_0, decode cX0_has r.1 = .ok (r.2.1, r.2.2.1) ∧ zi_lok r = true ∧ zi_ok yX0_has.cls (decide (yX0_has.name = "<init>")) zi_ms r = true := zq_fin zq_X0_ok (by decide +kernel)
set_option maxRecDepth 100000 in
theorem zm_74 : zi_mP (yX0_has, cX0_has, 2, (some FieldType.boolean), zc_X0_has, 0, 0) := ⟨zi_tb_rf (t := 340) rfl (by decide +kernel), zi_tb_in (t := 102) (by decide +kernel), by decide +kernel, ⟨by decide +kernel, by decide +kernel⟩, by decide +kernel, zv_zc_X0_has_0⟩
set_option maxRecDepth 100000 in
theorem zv_zc_X0_keepPlace_0 : ∀ r ∈ zc_X0_keepPlace_0, decode cX0_keepPlace r.1 = .ok (r.2.1, r.2.2.1) ∧ zi_lok r = true ∧ zi_ok yX0_keepPlace.cls (decide (yX0_keepPlace.name = "<init>")) zi_ms r = true := zq_fin zq_X0_ok (by decide +kernel)
set_option maxRecDepth 100000 in
theorem zm_75 : zi_mP (yX0_keepPlace, cX0_keepPlace, 4, none, zc_X0_keepPlace, 0, 0) := ⟨zi_tb_rf (t := 551) rfl (by decide +kernel), zi_tb_in (t := 102) (by decide +kernel), by decide +kernel, ⟨by decide +kernel, by decide +kernel⟩, by decide +kernel, zv_zc_X0_keepPlace_0⟩
set_option maxRecDepth 100000 in
theorem zv_zc_X1_placeOf_0 : ∀ r ∈ zc_X1_placeOf_0, decode cX1_placeOf r.1 = .ok (r.2.1, r.2.2.1) ∧ zi_lok r = true ∧ zi_ok yX1_placeOf.cls (decide (yX1_placeOf.name = "<init>")) zi_ms r = true := zq_fin zq_X1_ok (by decide +kernel)
set_option maxRecDepth 100000 in
theorem zm_76 : zi_mP (yX1_placeOf, cX1_placeOf, 3, (some FieldType.int), zc_X1_placeOf, 0, 0) := ⟨zi_tb_rf (t := 401) rfl (by decide +kernel), zi_tb_in (t := 97) (by decide +kernel), by decide +kernel, ⟨by decide +kernel, by decide +kernel⟩, by decide +kernel, zv_zc_X1_placeOf_0⟩
set_option maxRecDepth 100000 in
theorem zv_zc_X1_append_0 : ∀ r ∈ zc_X1_append_0, decode cX1_append r.1 = .ok (r.2.1, r.2.2.1) ∧ zi_lok r = true ∧ zi_ok yX1_append.cls (decide (yX1_append.name = "<init>")) zi_ms r = true := zq_fin zq_X1_ok (by decide +kernel)
set_option maxRecDepth 100000 in
theorem zm_77 : zi_mP (yX1_append, cX1_append, 2, none, zc_X1_append, 0, 0) := ⟨zi_tb_rf (t := 539) rfl (by decide +kernel), zi_tb_in (t := 97) (by decide +kernel), by decide +kernel, ⟨by decide +kernel, by decide +kernel⟩, by decide +kernel, zv_zc_X1_append_0⟩
set_option maxRecDepth 100000 in
theorem zv_zc_X1_takeOut_0 : ∀ r ∈ zc_X1_takeOut_0, decode cX1_takeOut r.1 = .ok (r.2.1, r.2.2.1) ∧ zi_lok r = true ∧ zi_ok yX1_takeOut.cls (decide (yX1_takeOut.name = "<init>")) zi_ms r = true := zq_fin zq_X1_ok (by decide +kernel)
set_option maxRecDepth 100000 in
theorem zm_78 : zi_mP (yX1_takeOut, cX1_takeOut, 4, none, zc_X1_takeOut, 0, 0) := ⟨zi_tb_rf (t := 397) rfl (by decide +kernel), zi_tb_in (t := 97) (by decide +kernel), by decide +kernel, ⟨by decide +kernel, by decide +kernel⟩, by decide +kernel, zv_zc_X1_takeOut_0⟩
set_option maxRecDepth 100000 in
theorem zv_zc_X1_putLast_0 : ∀ r ∈ zc_X1_putLast_0, decode cX1_putLast r.1 = .ok (r.2.1, r.2.2.1) ∧ zi_lok r = true ∧ zi_ok yX1_putLast.cls (decide (yX1_putLast.name = "<init>")) zi_ms r = true := zq_fin zq_X1_ok (by decide +kernel)
set_option maxRecDepth 100000 in
theorem zm_79 : zi_mP (yX1_putLast, cX1_putLast, 2, none, zc_X1_putLast, 0, 0) := ⟨zi_tb_rf (t := 662) rfl (by decide +kernel), zi_tb_in (t := 97) (by decide +kernel), by decide +kernel, ⟨by decide +kernel, by decide +kernel⟩, by decide +kernel, zv_zc_X1_putLast_0⟩
set_option maxRecDepth 100000 in
theorem zv_zc_X1_putFirst_0 : ∀ r ∈ zc_X1_putFirst_0, decode cX1_putFirst r.1 = .ok (r.2.1, r.2.2.1) ∧ zi_lok r = true ∧ zi_ok yX1_putFirst.cls (decide (yX1_putFirst.name = "<init>")) zi_ms r = true := zq_fin zq_X1_ok (by decide +kernel)
set_option maxRecDepth 100000 in
theorem zm_80 : zi_mP (yX1_putFirst, cX1_putFirst, 3, none, zc_X1_putFirst, 0, 0) := ⟨zi_tb_rf (t := 658) rfl (by decide +kernel), zi_tb_in (t := 97) (by decide +kernel), by decide +kernel, ⟨by decide +kernel, by decide +kernel⟩, by decide +kernel, zv_zc_X1_putFirst_0⟩
set_option maxRecDepth 100000 in
theorem zv_zc_X1_copyFrom_0 : ∀ r ∈ zc_X1_copyFrom_0, decode cX1_copyFrom r.1 = .ok (r.2.1, r.2.2.1) ∧ zi_lok r = true ∧ zi_ok yX1_copyFrom.cls (decide (yX1_copyFrom.name = "<init>")) zi_ms r = true := zq_fin zq_X1_ok (by decide +kernel)
set_option maxRecDepth 100000 in
theorem zm_81 : zi_mP (yX1_copyFrom, cX1_copyFrom, 2, none, zc_X1_copyFrom, 0, 0) := ⟨zi_tb_rf (t := 460) rfl (by decide +kernel), zi_tb_in (t := 97) (by decide +kernel), by decide +kernel, ⟨by decide +kernel, by decide +kernel⟩, by decide +kernel, zv_zc_X1_copyFrom_0⟩
set_option maxRecDepth 100000 in
theorem zv_zc_X3_copyFrom_0 : ∀ r ∈ zc_X3_copyFrom_0, decode cX3_copyFrom r.1 = .ok (r.2.1, r.2.2.1) ∧ zi_lok r = true ∧ zi_ok yX3_copyFrom.cls (decide (yX3_copyFrom.name = "<init>")) zi_ms r = true := zq_fin zq_X3_ok (by decide +kernel)
set_option maxRecDepth 100000 in
theorem zv_zc_X3_copyFrom_1 : ∀ r ∈ zc_X3_copyFrom_1, decode cX3_copyFrom r.1 = .ok (r.2.1, r.2.2.1) ∧ zi_lok r = true ∧ zi_ok yX3_copyFrom.cls (decide (yX3_copyFrom.name = "<init>")) zi_ms r = true := zq_fin zq_X3_ok (by decide +kernel)
set_option maxRecDepth 100000 in
theorem zv_zc_X3_copyFrom_2 : ∀ r ∈ zc_X3_copyFrom_2, decode cX3_copyFrom r.1 = .ok (r.2.1, r.2.2.1) ∧ zi_lok r = true ∧ zi_ok yX3_copyFrom.cls (decide (yX3_copyFrom.name = "<init>")) zi_ms r = true := zq_fin zq_X3_ok (by decide +kernel)
set_option maxRecDepth 100000 in
theorem zm_82 : zi_mP (yX3_copyFrom, cX3_copyFrom, 3, none, zc_X3_copyFrom, 0, 0) := ⟨zi_tb_rf (t := 456) rfl (by decide +kernel), zi_tb_in (t := 98) (by decide +kernel), by decide +kernel, ⟨by decide +kernel, by decide +kernel⟩, by decide +kernel, List.forall_mem_append.mpr ⟨zv_zc_X3_copyFrom_0, List.forall_mem_append.mpr ⟨zv_zc_X3_copyFrom_1, zv_zc_X3_copyFrom_2⟩⟩⟩
set_option maxRecDepth 100000 in
theorem zv_zc_X3_leafOf_0 : ∀ r ∈ zc_X3_leafOf_0, decode cX3_leafOf r.1 = .ok (r.2.1, r.2.2.1) ∧ zi_lok r = true ∧ zi_ok yX3_leafOf.cls (decide (yX3_leafOf.name = "<init>")) zi_ms r = true := zq_fin zq_X3_ok (by decide +kernel)
set_option maxRecDepth 100000 in
theorem zm_83 : zi_mP (yX3_leafOf, cX3_leafOf, 2, (some FieldType.int), zc_X3_leafOf, 0, 0) := ⟨zi_tb_rf (t := 344) rfl (by decide +kernel), zi_tb_in (t := 98) (by decide +kernel), by decide +kernel, ⟨by decide +kernel, by decide +kernel⟩, by decide +kernel, zv_zc_X3_leafOf_0⟩
set_option maxRecDepth 100000 in
theorem zv_zc_X3_isShown_0 : ∀ r ∈ zc_X3_isShown_0, decode cX3_isShown r.1 = .ok (r.2.1, r.2.2.1) ∧ zi_lok r = true ∧ zi_ok yX3_isShown.cls (decide (yX3_isShown.name = "<init>")) zi_ms r = true := zq_fin zq_X3_ok (by decide +kernel)
set_option maxRecDepth 100000 in
theorem zm_84 : zi_mP (yX3_isShown, cX3_isShown, 3, (some FieldType.boolean), zc_X3_isShown, 0, 0) := ⟨zi_tb_rf (t := 717) rfl (by decide +kernel), zi_tb_in (t := 98) (by decide +kernel), by decide +kernel, ⟨by decide +kernel, by decide +kernel⟩, by decide +kernel, zv_zc_X3_isShown_0⟩
set_option maxRecDepth 100000 in
theorem zv_zc_X3_leaves_0 : ∀ r ∈ zc_X3_leaves_0, decode cX3_leaves r.1 = .ok (r.2.1, r.2.2.1) ∧ zi_lok r = true ∧ zi_ok yX3_leaves.cls (decide (yX3_leaves.name = "<init>")) zi_ms r = true := zq_fin zq_X3_ok (by decide +kernel)
set_option maxRecDepth 100000 in
theorem zm_85 : zi_mP (yX3_leaves, cX3_leaves, 1, (some FieldType.int), zc_X3_leaves, 0, 0) := ⟨zi_tb_rf (t := 510) rfl (by decide +kernel), zi_tb_in (t := 98) (by decide +kernel), by decide +kernel, ⟨by decide +kernel, by decide +kernel⟩, by decide +kernel, zv_zc_X3_leaves_0⟩
set_option maxRecDepth 100000 in
theorem zv_zc_X3_cuts_0 : ∀ r ∈ zc_X3_cuts_0, decode cX3_cuts r.1 = .ok (r.2.1, r.2.2.1) ∧ zi_lok r = true ∧ zi_ok yX3_cuts.cls (decide (yX3_cuts.name = "<init>")) zi_ms r = true := zq_fin zq_X3_ok (by decide +kernel)
set_option maxRecDepth 100000 in
theorem zm_86 : zi_mP (yX3_cuts, cX3_cuts, 1, (some FieldType.int), zc_X3_cuts, 0, 0) := ⟨zi_tb_rf (t := 841) rfl (by decide +kernel), zi_tb_in (t := 98) (by decide +kernel), by decide +kernel, ⟨by decide +kernel, by decide +kernel⟩, by decide +kernel, zv_zc_X3_cuts_0⟩
set_option maxRecDepth 100000 in
theorem zv_zc_X3_leafNumber_0 : ∀ r ∈ zc_X3_leafNumber_0, decode cX3_leafNumber r.1 = .ok (r.2.1, r.2.2.1) ∧ zi_lok r = true ∧ zi_ok yX3_leafNumber.cls (decide (yX3_leafNumber.name = "<init>")) zi_ms r = true := zq_fin zq_X3_ok (by decide +kernel)
set_option maxRecDepth 100000 in
theorem zm_87 : zi_mP (yX3_leafNumber, cX3_leafNumber, 4, (some FieldType.int), zc_X3_leafNumber, 0, 0) := ⟨zi_tb_rf (t := 514) rfl (by decide +kernel), zi_tb_in (t := 98) (by decide +kernel), by decide +kernel, ⟨by decide +kernel, by decide +kernel⟩, by decide +kernel, zv_zc_X3_leafNumber_0⟩
set_option maxRecDepth 100000 in
theorem zv_zc_X3_shownIn_0 : ∀ r ∈ zc_X3_shownIn_0, decode cX3_shownIn r.1 = .ok (r.2.1, r.2.2.1) ∧ zi_lok r = true ∧ zi_ok yX3_shownIn.cls (decide (yX3_shownIn.name = "<init>")) zi_ms r = true := zq_fin zq_X3_ok (by decide +kernel)
set_option maxRecDepth 100000 in
theorem zm_88 : zi_mP (yX3_shownIn, cX3_shownIn, 2, (some FieldType.int), zc_X3_shownIn, 0, 0) := ⟨zi_tb_rf (t := 855) rfl (by decide +kernel), zi_tb_in (t := 98) (by decide +kernel), by decide +kernel, ⟨by decide +kernel, by decide +kernel⟩, by decide +kernel, zv_zc_X3_shownIn_0⟩
set_option maxRecDepth 100000 in
theorem zv_zc_X3_tabsIn_0 : ∀ r ∈ zc_X3_tabsIn_0, decode cX3_tabsIn r.1 = .ok (r.2.1, r.2.2.1) ∧ zi_lok r = true ∧ zi_ok yX3_tabsIn.cls (decide (yX3_tabsIn.name = "<init>")) zi_ms r = true := zq_fin zq_X3_ok (by decide +kernel)
set_option maxRecDepth 100000 in
theorem zm_89 : zi_mP (yX3_tabsIn, cX3_tabsIn, 4, (some FieldType.int), zc_X3_tabsIn, 0, 0) := ⟨zi_tb_rf (t := 518) rfl (by decide +kernel), zi_tb_in (t := 98) (by decide +kernel), by decide +kernel, ⟨by decide +kernel, by decide +kernel⟩, by decide +kernel, zv_zc_X3_tabsIn_0⟩
set_option maxRecDepth 100000 in
theorem zv_zc_X3_tabIn_0 : ∀ r ∈ zc_X3_tabIn_0, decode cX3_tabIn r.1 = .ok (r.2.1, r.2.2.1) ∧ zi_lok r = true ∧ zi_ok yX3_tabIn.cls (decide (yX3_tabIn.name = "<init>")) zi_ms r = true := zq_fin zq_X3_ok (by decide +kernel)
set_option maxRecDepth 100000 in
theorem zm_90 : zi_mP (yX3_tabIn, cX3_tabIn, 5, (some FieldType.int), zc_X3_tabIn, 0, 0) := ⟨zi_tb_rf (t := 522) rfl (by decide +kernel), zi_tb_in (t := 98) (by decide +kernel), by decide +kernel, ⟨by decide +kernel, by decide +kernel⟩, by decide +kernel, zv_zc_X3_tabIn_0⟩
set_option maxRecDepth 100000 in
theorem zv_zc_X3_leastOf_0 : ∀ r ∈ zc_X3_leastOf_0, decode cX3_leastOf r.1 = .ok (r.2.1, r.2.2.1) ∧ zi_lok r = true ∧ zi_ok yX3_leastOf.cls (decide (yX3_leastOf.name = "<init>")) zi_ms r = true := zq_fin zq_X3_ok (by decide +kernel)
set_option maxRecDepth 100000 in
theorem zm_91 : zi_mP (yX3_leastOf, cX3_leastOf, 2, (some FieldType.int), zc_X3_leastOf, 0, 0) := ⟨zi_tb_rf (t := 336) rfl (by decide +kernel), zi_tb_in (t := 98) (by decide +kernel), by decide +kernel, ⟨by decide +kernel, by decide +kernel⟩, by decide +kernel, zv_zc_X3_leastOf_0⟩
set_option maxRecDepth 100000 in
theorem zv_zc_X3_fits_0 : ∀ r ∈ zc_X3_fits_0, decode cX3_fits r.1 = .ok (r.2.1, r.2.2.1) ∧ zi_lok r = true ∧ zi_ok yX3_fits.cls (decide (yX3_fits.name = "<init>")) zi_ms r = true := zq_fin zq_X3_ok (by decide +kernel)
set_option maxRecDepth 100000 in
theorem zm_92 : zi_mP (yX3_fits, cX3_fits, 2, (some FieldType.boolean), zc_X3_fits, 0, 0) := ⟨zi_tb_rf (t := 332) rfl (by decide +kernel), zi_tb_in (t := 98) (by decide +kernel), by decide +kernel, ⟨by decide +kernel, by decide +kernel⟩, by decide +kernel, zv_zc_X3_fits_0⟩
set_option maxRecDepth 100000 in
theorem zv_zc_X3_nearestCut_0 : ∀ r ∈ zc_X3_nearestCut_0, decode cX3_nearestCut r.1 = .ok (r.2.1, r.2.2.1) ∧ zi_lok r = true ∧ zi_ok yX3_nearestCut.cls (decide (yX3_nearestCut.name = "<init>")) zi_ms r = true := zq_fin zq_X3_ok (by decide +kernel)
set_option maxRecDepth 100000 in
theorem zm_93 : zi_mP (yX3_nearestCut, cX3_nearestCut, 5, (some FieldType.int), zc_X3_nearestCut, 0, 0) := ⟨zi_tb_rf (t := 784) rfl (by decide +kernel), zi_tb_in (t := 98) (by decide +kernel), by decide +kernel, ⟨by decide +kernel, by decide +kernel⟩, by decide +kernel, zv_zc_X3_nearestCut_0⟩
set_option maxRecDepth 100000 in
theorem zv_zc_X3_changeShare_0 : ∀ r ∈ zc_X3_changeShare_0, decode cX3_changeShare r.1 = .ok (r.2.1, r.2.2.1) ∧ zi_lok r = true ∧ zi_ok yX3_changeShare.cls (decide (yX3_changeShare.name = "<init>")) zi_ms r = true := zq_fin zq_X3_ok (by decide +kernel)
set_option maxRecDepth 100000 in
theorem zm_94 : zi_mP (yX3_changeShare, cX3_changeShare, 4, (some FieldType.int), zc_X3_changeShare, 0, 0) := ⟨zi_tb_rf (t := 788) rfl (by decide +kernel), zi_tb_in (t := 98) (by decide +kernel), by decide +kernel, ⟨by decide +kernel, by decide +kernel⟩, by decide +kernel, zv_zc_X3_changeShare_0⟩
set_option maxRecDepth 100000 in
theorem zv_zc_X3_show_0 : ∀ r ∈ zc_X3_show_0, decode cX3_show r.1 = .ok (r.2.1, r.2.2.1) ∧ zi_lok r = true ∧ zi_ok yX3_show.cls (decide (yX3_show.name = "<init>")) zi_ms r = true := zq_fin zq_X3_ok (by decide +kernel)
set_option maxRecDepth 100000 in
theorem zm_95 : zi_mP (yX3_show, cX3_show, 3, none, zc_X3_show, 0, 0) := ⟨zi_tb_rf (t := 668) rfl (by decide +kernel), zi_tb_in (t := 98) (by decide +kernel), by decide +kernel, ⟨by decide +kernel, by decide +kernel⟩, by decide +kernel, zv_zc_X3_show_0⟩
set_option maxRecDepth 100000 in
theorem zv_zc_X3_addTab_0 : ∀ r ∈ zc_X3_addTab_0, decode cX3_addTab r.1 = .ok (r.2.1, r.2.2.1) ∧ zi_lok r = true ∧ zi_ok yX3_addTab.cls (decide (yX3_addTab.name = "<init>")) zi_ms r = true := zq_fin zq_X3_ok (by decide +kernel)
set_option maxRecDepth 100000 in
theorem zm_96 : zi_mP (yX3_addTab, cX3_addTab, 6, none, zc_X3_addTab, 0, 0) := ⟨zi_tb_rf (t := 527) rfl (by decide +kernel), zi_tb_in (t := 98) (by decide +kernel), by decide +kernel, ⟨by decide +kernel, by decide +kernel⟩, by decide +kernel, zv_zc_X3_addTab_0⟩
set_option maxRecDepth 100000 in
theorem zv_zc_X3_addAllTabs_0 : ∀ r ∈ zc_X3_addAllTabs_0, decode cX3_addAllTabs r.1 = .ok (r.2.1, r.2.2.1) ∧ zi_lok r = true ∧ zi_ok yX3_addAllTabs.cls (decide (yX3_addAllTabs.name = "<init>")) zi_ms r = true := zq_fin zq_X3_ok (by decide +kernel)
set_option maxRecDepth 100000 in
theorem zv_zc_X3_addAllTabs_1 : ∀ r ∈ zc_X3_addAllTabs_1, decode cX3_addAllTabs r.1 = .ok (r.2.1, r.2.2.1) ∧ zi_lok r = true ∧ zi_ok yX3_addAllTabs.cls (decide (yX3_addAllTabs.name = "<init>")) zi_ms r = true := zq_fin zq_X3_ok (by decide +kernel)
set_option maxRecDepth 100000 in
theorem zm_97 : zi_mP (yX3_addAllTabs, cX3_addAllTabs, 6, none, zc_X3_addAllTabs, 0, 0) := ⟨zi_tb_rf (t := 506) rfl (by decide +kernel), zi_tb_in (t := 98) (by decide +kernel), by decide +kernel, ⟨by decide +kernel, by decide +kernel⟩, by decide +kernel, List.forall_mem_append.mpr ⟨zv_zc_X3_addAllTabs_0, zv_zc_X3_addAllTabs_1⟩⟩
set_option maxRecDepth 100000 in
theorem zv_zc_X3_cutLeaf_0 : ∀ r ∈ zc_X3_cutLeaf_0, decode cX3_cutLeaf r.1 = .ok (r.2.1, r.2.2.1) ∧ zi_lok r = true ∧ zi_ok yX3_cutLeaf.cls (decide (yX3_cutLeaf.name = "<init>")) zi_ms r = true := zq_fin zq_X3_ok (by decide +kernel)
set_option maxRecDepth 100000 in
theorem zv_zc_X3_cutLeaf_1 : ∀ r ∈ zc_X3_cutLeaf_1, decode cX3_cutLeaf r.1 = .ok (r.2.1, r.2.2.1) ∧ zi_lok r = true ∧ zi_ok yX3_cutLeaf.cls (decide (yX3_cutLeaf.name = "<init>")) zi_ms r = true := zq_fin zq_X3_ok (by decide +kernel)
set_option maxRecDepth 100000 in
theorem zm_98 : zi_mP (yX3_cutLeaf, cX3_cutLeaf, 9, none, zc_X3_cutLeaf, 0, 0) := ⟨zi_tb_rf (t := 621) rfl (by decide +kernel), zi_tb_in (t := 98) (by decide +kernel), by decide +kernel, ⟨by decide +kernel, by decide +kernel⟩, by decide +kernel, List.forall_mem_append.mpr ⟨zv_zc_X3_cutLeaf_0, zv_zc_X3_cutLeaf_1⟩⟩
set_option maxRecDepth 100000 in
theorem zv_zc_X3_takeOut_0 : ∀ r ∈ zc_X3_takeOut_0, decode cX3_takeOut r.1 = .ok (r.2.1, r.2.2.1) ∧ zi_lok r = true ∧ zi_ok yX3_takeOut.cls (decide (yX3_takeOut.name = "<init>")) zi_ms r = true := zq_fin zq_X3_ok (by decide +kernel)
set_option maxRecDepth 100000 in
theorem zv_zc_X3_takeOut_1 : ∀ r ∈ zc_X3_takeOut_1, decode cX3_takeOut r.1 = .ok (r.2.1, r.2.2.1) ∧ zi_lok r = true ∧ zi_ok yX3_takeOut.cls (decide (yX3_takeOut.name = "<init>")) zi_ms r = true := zq_fin zq_X3_ok (by decide +kernel)
set_option maxRecDepth 100000 in
theorem zm_99 : zi_mP (yX3_takeOut, cX3_takeOut, 3, none, zc_X3_takeOut, 0, 0) := ⟨zi_tb_rf (t := 380) rfl (by decide +kernel), zi_tb_in (t := 98) (by decide +kernel), by decide +kernel, ⟨by decide +kernel, by decide +kernel⟩, by decide +kernel, List.forall_mem_append.mpr ⟨zv_zc_X3_takeOut_0, zv_zc_X3_takeOut_1⟩⟩
set_option maxRecDepth 100000 in
theorem zv_zc_X3_nextShown_0 : ∀ r ∈ zc_X3_nextShown_0, decode cX3_nextShown r.1 = .ok (r.2.1, r.2.2.1) ∧ zi_lok r = true ∧ zi_ok yX3_nextShown.cls (decide (yX3_nextShown.name = "<init>")) zi_ms r = true := zq_fin zq_X3_ok (by decide +kernel)
set_option maxRecDepth 100000 in
theorem zm_100 : zi_mP (yX3_nextShown, cX3_nextShown, 7, (some FieldType.int), zc_X3_nextShown, 0, 0) := ⟨zi_tb_rf (t := 385) rfl (by decide +kernel), zi_tb_in (t := 98) (by decide +kernel), by decide +kernel, ⟨by decide +kernel, by decide +kernel⟩, by decide +kernel, zv_zc_X3_nextShown_0⟩
set_option maxRecDepth 100000 in
theorem zv_zc_X3_dropLeaf_0 : ∀ r ∈ zc_X3_dropLeaf_0, decode cX3_dropLeaf r.1 = .ok (r.2.1, r.2.2.1) ∧ zi_lok r = true ∧ zi_ok yX3_dropLeaf.cls (decide (yX3_dropLeaf.name = "<init>")) zi_ms r = true := zq_fin zq_X3_ok (by decide +kernel)
set_option maxRecDepth 100000 in
theorem zm_101 : zi_mP (yX3_dropLeaf, cX3_dropLeaf, 3, none, zc_X3_dropLeaf, 0, 0) := ⟨zi_tb_rf (t := 405) rfl (by decide +kernel), zi_tb_in (t := 98) (by decide +kernel), by decide +kernel, ⟨by decide +kernel, by decide +kernel⟩, by decide +kernel, zv_zc_X3_dropLeaf_0⟩
set_option maxRecDepth 100000 in
theorem zv_zc_X3_putInPlaceOf_0 : ∀ r ∈ zc_X3_putInPlaceOf_0, decode cX3_putInPlaceOf r.1 = .ok (r.2.1, r.2.2.1) ∧ zi_lok r = true ∧ zi_ok yX3_putInPlaceOf.cls (decide (yX3_putInPlaceOf.name = "<init>")) zi_ms r = true := zq_fin zq_X3_ok (by decide +kernel)
set_option maxRecDepth 100000 in
theorem zm_102 : zi_mP (yX3_putInPlaceOf, cX3_putInPlaceOf, 4, none, zc_X3_putInPlaceOf, 0, 0) := ⟨zi_tb_rf (t := 409) rfl (by decide +kernel), zi_tb_in (t := 98) (by decide +kernel), by decide +kernel, ⟨by decide +kernel, by decide +kernel⟩, by decide +kernel, zv_zc_X3_putInPlaceOf_0⟩
set_option maxRecDepth 100000 in
theorem zv_zc_X3_enter_0 : ∀ r ∈ zc_X3_enter_0, decode cX3_enter r.1 = .ok (r.2.1, r.2.2.1) ∧ zi_lok r = true ∧ zi_ok yX3_enter.cls (decide (yX3_enter.name = "<init>")) zi_ms r = true := zq_fin zq_X3_ok (by decide +kernel)
set_option maxRecDepth 100000 in
theorem zm_103 : zi_mP (yX3_enter, cX3_enter, 5, none, zc_X3_enter, 0, 0) := ⟨zi_tb_rf (t := 535) rfl (by decide +kernel), zi_tb_in (t := 98) (by decide +kernel), by decide +kernel, ⟨by decide +kernel, by decide +kernel⟩, by decide +kernel, zv_zc_X3_enter_0⟩
set_option maxRecDepth 100000 in
theorem zv_zc_X3_newNode_0 : ∀ r ∈ zc_X3_newNode_0, decode cX3_newNode r.1 = .ok (r.2.1, r.2.2.1) ∧ zi_lok r = true ∧ zi_ok yX3_newNode.cls (decide (yX3_newNode.name = "<init>")) zi_ms r = true := zq_fin zq_X3_ok (by decide +kernel)
set_option maxRecDepth 100000 in
theorem zm_104 : zi_mP (yX3_newNode, cX3_newNode, 3, (some FieldType.int), zc_X3_newNode, 0, 0) := ⟨zi_tb_rf (t := 531) rfl (by decide +kernel), zi_tb_in (t := 98) (by decide +kernel), by decide +kernel, ⟨by decide +kernel, by decide +kernel⟩, by decide +kernel, zv_zc_X3_newNode_0⟩
set_option maxRecDepth 100000 in
theorem zv_zc_X3_settle_0 : ∀ r ∈ zc_X3_settle_0, decode cX3_settle r.1 = .ok (r.2.1, r.2.2.1) ∧ zi_lok r = true ∧ zi_ok yX3_settle.cls (decide (yX3_settle.name = "<init>")) zi_ms r = true := zq_fin zq_X3_ok (by decide +kernel)
set_option maxRecDepth 100000 in
theorem zm_105 : zi_mP (yX3_settle, cX3_settle, 2, none, zc_X3_settle, 0, 0) := ⟨zi_tb_rf (t := 413) rfl (by decide +kernel), zi_tb_in (t := 98) (by decide +kernel), by decide +kernel, ⟨by decide +kernel, by decide +kernel⟩, by decide +kernel, zv_zc_X3_settle_0⟩
set_option maxRecDepth 100000 in
theorem zv_zc_X3_listNodes_0 : ∀ r ∈ zc_X3_listNodes_0, decode cX3_listNodes r.1 = .ok (r.2.1, r.2.2.1) ∧ zi_lok r = true ∧ zi_ok yX3_listNodes.cls (decide (yX3_listNodes.name = "<init>")) zi_ms r = true := zq_fin zq_X3_ok (by decide +kernel)
set_option maxRecDepth 100000 in
theorem zv_zc_X3_listNodes_1 : ∀ r ∈ zc_X3_listNodes_1, decode cX3_listNodes r.1 = .ok (r.2.1, r.2.2.1) ∧ zi_lok r = true ∧ zi_ok yX3_listNodes.cls (decide (yX3_listNodes.name = "<init>")) zi_ms r = true := zq_fin zq_X3_ok (by decide +kernel)
set_option maxRecDepth 100000 in
theorem zm_106 : zi_mP (yX3_listNodes, cX3_listNodes, 4, none, zc_X3_listNodes, 0, 0) := ⟨zi_tb_rf (t := 417) rfl (by decide +kernel), zi_tb_in (t := 98) (by decide +kernel), by decide +kernel, ⟨by decide +kernel, by decide +kernel⟩, by decide +kernel, List.forall_mem_append.mpr ⟨zv_zc_X3_listNodes_0, zv_zc_X3_listNodes_1⟩⟩
set_option maxRecDepth 100000 in
theorem zv_zc_X3_measureLeaves_0 : ∀ r ∈ zc_X3_measureLeaves_0, decode cX3_measureLeaves r.1 = .ok (r.2.1, r.2.2.1) ∧ zi_lok r = true ∧ zi_ok yX3_measureLeaves.cls (decide (yX3_measureLeaves.name = "<init>")) zi_ms r = true := zq_fin zq_X3_ok (by decide +kernel)
set_option maxRecDepth 100000 in
theorem zv_zc_X3_measureLeaves_1 : ∀ r ∈ zc_X3_measureLeaves_1, decode cX3_measureLeaves r.1 = .ok (r.2.1, r.2.2.1) ∧ zi_lok r = true ∧ zi_ok yX3_measureLeaves.cls (decide (yX3_measureLeaves.name = "<init>")) zi_ms r = true := zq_fin zq_X3_ok (by decide +kernel)
set_option maxRecDepth 100000 in
theorem zm_107 : zi_mP (yX3_measureLeaves, cX3_measureLeaves, 5, none, zc_X3_measureLeaves, 0, 0) := ⟨zi_tb_rf (t := 421) rfl (by decide +kernel), zi_tb_in (t := 98) (by decide +kernel), by decide +kernel, ⟨by decide +kernel, by decide +kernel⟩, by decide +kernel, List.forall_mem_append.mpr ⟨zv_zc_X3_measureLeaves_0, zv_zc_X3_measureLeaves_1⟩⟩
set_option maxRecDepth 100000 in
theorem zv_zc_X3_measureCuts_0 : ∀ r ∈ zc_X3_measureCuts_0, decode cX3_measureCuts r.1 = .ok (r.2.1, r.2.2.1) ∧ zi_lok r = true ∧ zi_ok yX3_measureCuts.cls (decide (yX3_measureCuts.name = "<init>")) zi_ms r = true := zq_fin zq_X3_ok (by decide +kernel)
set_option maxRecDepth 100000 in
theorem zv_zc_X3_measureCuts_1 : ∀ r ∈ zc_X3_measureCuts_1, decode cX3_measureCuts r.1 = .ok (r.2.1, r.2.2.1) ∧ zi_lok r = true ∧ zi_ok yX3_measureCuts.cls (decide (yX3_measureCuts.name = "<init>")) zi_ms r = true := zq_fin zq_X3_ok (by decide +kernel)
set_option maxRecDepth 100000 in
theorem zm_108 : zi_mP (yX3_measureCuts, cX3_measureCuts, 6, none, zc_X3_measureCuts, 0, 0) := ⟨zi_tb_rf (t := 428) rfl (by decide +kernel), zi_tb_in (t := 98) (by decide +kernel), by decide +kernel, ⟨by decide +kernel, by decide +kernel⟩, by decide +kernel, List.forall_mem_append.mpr ⟨zv_zc_X3_measureCuts_0, zv_zc_X3_measureCuts_1⟩⟩
set_option maxRecDepth 100000 in
theorem zv_zc_X3_lay_0 : ∀ r ∈ zc_X3_lay_0, decode cX3_lay r.1 = .ok (r.2.1, r.2.2.1) ∧ zi_lok r = true ∧ zi_ok yX3_lay.cls (decide (yX3_lay.name = "<init>")) zi_ms r = true := zq_fin zq_X3_ok (by decide +kernel)
set_option maxRecDepth 100000 in
theorem zv_zc_X3_lay_1 : ∀ r ∈ zc_X3_lay_1, decode cX3_lay r.1 = .ok (r.2.1, r.2.2.1) ∧ zi_lok r = true ∧ zi_ok yX3_lay.cls (decide (yX3_lay.name = "<init>")) zi_ms r = true := zq_fin zq_X3_ok (by decide +kernel)
set_option maxRecDepth 100000 in
theorem zm_109 : zi_mP (yX3_lay, cX3_lay, 3, none, zc_X3_lay, 0, 0) := ⟨zi_tb_rf (t := 582) rfl (by decide +kernel), zi_tb_in (t := 98) (by decide +kernel), by decide +kernel, ⟨by decide +kernel, by decide +kernel⟩, by decide +kernel, List.forall_mem_append.mpr ⟨zv_zc_X3_lay_0, zv_zc_X3_lay_1⟩⟩
set_option maxRecDepth 100000 in
theorem zv_zc_X3_divide_0 : ∀ r ∈ zc_X3_divide_0, decode cX3_divide r.1 = .ok (r.2.1, r.2.2.1) ∧ zi_lok r = true ∧ zi_ok yX3_divide.cls (decide (yX3_divide.name = "<init>")) zi_ms r = true := zq_fin zq_X3_ok (by decide +kernel)
set_option maxRecDepth 100000 in
theorem zv_zc_X3_divide_1 : ∀ r ∈ zc_X3_divide_1, decode cX3_divide r.1 = .ok (r.2.1, r.2.2.1) ∧ zi_lok r = true ∧ zi_ok yX3_divide.cls (decide (yX3_divide.name = "<init>")) zi_ms r = true := zq_fin zq_X3_ok (by decide +kernel)
set_option maxRecDepth 100000 in
theorem zv_zc_X3_divide_2 : ∀ r ∈ zc_X3_divide_2, decode cX3_divide r.1 = .ok (r.2.1, r.2.2.1) ∧ zi_lok r = true ∧ zi_ok yX3_divide.cls (decide (yX3_divide.name = "<init>")) zi_ms r = true := zq_fin zq_X3_ok (by decide +kernel)
set_option maxRecDepth 100000 in
theorem zm_110 : zi_mP (yX3_divide, cX3_divide, 8, none, zc_X3_divide, 0, 0) := ⟨zi_tb_rf (t := 586) rfl (by decide +kernel), zi_tb_in (t := 98) (by decide +kernel), by decide +kernel, ⟨by decide +kernel, by decide +kernel⟩, by decide +kernel, List.forall_mem_append.mpr ⟨zv_zc_X3_divide_0, List.forall_mem_append.mpr ⟨zv_zc_X3_divide_1, zv_zc_X3_divide_2⟩⟩⟩
set_option maxRecDepth 100000 in
theorem zv_zc_X3_firstPart_0 : ∀ r ∈ zc_X3_firstPart_0, decode cX3_firstPart r.1 = .ok (r.2.1, r.2.2.1) ∧ zi_lok r = true ∧ zi_ok yX3_firstPart.cls (decide (yX3_firstPart.name = "<init>")) zi_ms r = true := zq_fin zq_X3_ok (by decide +kernel)
set_option maxRecDepth 100000 in
theorem zm_111 : zi_mP (yX3_firstPart, cX3_firstPart, 5, (some FieldType.int), zc_X3_firstPart, 0, 0) := ⟨zi_tb_rf (t := 590) rfl (by decide +kernel), zi_tb_in (t := 98) (by decide +kernel), by decide +kernel, ⟨by decide +kernel, by decide +kernel⟩, by decide +kernel, zv_zc_X3_firstPart_0⟩
set_option maxRecDepth 100000 in
theorem zv_zc_X3_isWide_0 : ∀ r ∈ zc_X3_isWide_0, decode cX3_isWide r.1 = .ok (r.2.1, r.2.2.1) ∧ zi_lok r = true ∧ zi_ok yX3_isWide.cls (decide (yX3_isWide.name = "<init>")) zi_ms r = true := zq_fin zq_X3_ok (by decide +kernel)
set_option maxRecDepth 100000 in
theorem zm_112 : zi_mP (yX3_isWide, cX3_isWide, 2, (some FieldType.boolean), zc_X3_isWide, 0, 0) := ⟨zi_tb_rf (t := 613) rfl (by decide +kernel), zi_tb_in (t := 98) (by decide +kernel), by decide +kernel, ⟨by decide +kernel, by decide +kernel⟩, by decide +kernel, zv_zc_X3_isWide_0⟩
set_option maxRecDepth 100000 in
theorem zv_zc_X3_startOf_0 : ∀ r ∈ zc_X3_startOf_0, decode cX3_startOf r.1 = .ok (r.2.1, r.2.2.1) ∧ zi_lok r = true ∧ zi_ok yX3_startOf.cls (decide (yX3_startOf.name = "<init>")) zi_ms r = true := zq_fin zq_X3_ok (by decide +kernel)
set_option maxRecDepth 100000 in
theorem zm_113 : zi_mP (yX3_startOf, cX3_startOf, 4, (some FieldType.int), zc_X3_startOf, 0, 0) := ⟨zi_tb_rf (t := 646) rfl (by decide +kernel), zi_tb_in (t := 98) (by decide +kernel), by decide +kernel, ⟨by decide +kernel, by decide +kernel⟩, by decide +kernel, zv_zc_X3_startOf_0⟩
set_option maxRecDepth 100000 in
theorem zv_zc_X3_lengthOf_0 : ∀ r ∈ zc_X3_lengthOf_0, decode cX3_lengthOf r.1 = .ok (r.2.1, r.2.2.1) ∧ zi_lok r = true ∧ zi_ok yX3_lengthOf.cls (decide (yX3_lengthOf.name = "<init>")) zi_ms r = true := zq_fin zq_X3_ok (by decide +kernel)
set_option maxRecDepth 100000 in
theorem zm_114 : zi_mP (yX3_lengthOf, cX3_lengthOf, 4, (some FieldType.int), zc_X3_lengthOf, 0, 0) := ⟨zi_tb_rf (t := 638) rfl (by decide +kernel), zi_tb_in (t := 98) (by decide +kernel), by decide +kernel, ⟨by decide +kernel, by decide +kernel⟩, by decide +kernel, zv_zc_X3_lengthOf_0⟩
set_option maxRecDepth 100000 in
theorem zv_zc_X3_endOf_0 : ∀ r ∈ zc_X3_endOf_0, decode cX3_endOf r.1 = .ok (r.2.1, r.2.2.1) ∧ zi_lok r = true ∧ zi_ok yX3_endOf.cls (decide (yX3_endOf.name = "<init>")) zi_ms r = true := zq_fin zq_X3_ok (by decide +kernel)
set_option maxRecDepth 100000 in
theorem zm_115 : zi_mP (yX3_endOf, cX3_endOf, 3, (some FieldType.int), zc_X3_endOf, 0, 0) := ⟨zi_tb_rf (t := 737) rfl (by decide +kernel), zi_tb_in (t := 98) (by decide +kernel), by decide +kernel, ⟨by decide +kernel, by decide +kernel⟩, by decide +kernel, zv_zc_X3_endOf_0⟩
set_option maxRecDepth 100000 in
theorem zv_zc_X3_shownAt_0 : ∀ r ∈ zc_X3_shownAt_0, decode cX3_shownAt r.1 = .ok (r.2.1, r.2.2.1) ∧ zi_lok r = true ∧ zi_ok yX3_shownAt.cls (decide (yX3_shownAt.name = "<init>")) zi_ms r = true := zq_fin zq_X3_ok (by decide +kernel)
set_option maxRecDepth 100000 in
theorem zm_116 : zi_mP (yX3_shownAt, cX3_shownAt, 4, (some FieldType.int), zc_X3_shownAt, 0, 0) := ⟨zi_tb_rf (t := 824) rfl (by decide +kernel), zi_tb_in (t := 98) (by decide +kernel), by decide +kernel, ⟨by decide +kernel, by decide +kernel⟩, by decide +kernel, zv_zc_X3_shownAt_0⟩
set_option maxRecDepth 100000 in
theorem zv_zc_X3_spans_0 : ∀ r ∈ zc_X3_spans_0, decode cX3_spans r.1 = .ok (r.2.1, r.2.2.1) ∧ zi_lok r = true ∧ zi_ok yX3_spans.cls (decide (yX3_spans.name = "<init>")) zi_ms r = true := zq_fin zq_X3_ok (by decide +kernel)
set_option maxRecDepth 100000 in
theorem zm_117 : zi_mP (yX3_spans, cX3_spans, 4, (some FieldType.boolean), zc_X3_spans, 0, 0) := ⟨zi_tb_rf (t := 828) rfl (by decide +kernel), zi_tb_in (t := 98) (by decide +kernel), by decide +kernel, ⟨by decide +kernel, by decide +kernel⟩, by decide +kernel, zv_zc_X3_spans_0⟩
