set_option maxRecDepth 100000 in
theorem zv_zc_X5_drag_0 : ∀ r ∈ zc_X5_drag_0, decode cX5_drag r.1 = .ok (r.2.1, r.2.2.1) ∧ zi_lok r = true ∧ zi_ok yX5_drag.cls (decide (yX5_drag.name = "<init>")) zi_ms r = true := by decide +kernel
set_option maxRecDepth 100000 in
theorem zv_zc_X5_drag_1 : ∀ r ∈ zc_X5_drag_1, decode cX5_drag r.1 = .ok (r.2.1, r.2.2.1) ∧ zi_lok r = true ∧ zi_ok yX5_drag.cls (decide (yX5_drag.name = "<init>")) zi_ms r = true := by decide +kernel
set_option maxRecDepth 100000 in
theorem zv_zc_X5_drag_2 : ∀ r ∈ zc_X5_drag_2, decode cX5_drag r.1 = .ok (r.2.1, r.2.2.1) ∧ zi_lok r = true ∧ zi_ok yX5_drag.cls (decide (yX5_drag.name = "<init>")) zi_ms r = true := by decide +kernel
set_option maxRecDepth 100000 in
theorem zm_18 : zi_mP (yX5_drag, cX5_drag, 6, (some FieldType.int), zc_X5_drag, 0, 0) := ⟨zi_tb_in (t := 759) (by decide +kernel), zi_tb_in (t := 96) (by decide +kernel), by decide +kernel, ⟨by decide +kernel, by decide +kernel⟩, by decide +kernel, List.forall_mem_append.mpr ⟨zv_zc_X5_drag_0, List.forall_mem_append.mpr ⟨zv_zc_X5_drag_1, zv_zc_X5_drag_2⟩⟩⟩
set_option maxRecDepth 100000 in
theorem zv_zc_X5_move_0 : ∀ r ∈ zc_X5_move_0, decode cX5_move r.1 = .ok (r.2.1, r.2.2.1) ∧ zi_lok r = true ∧ zi_ok yX5_move.cls (decide (yX5_move.name = "<init>")) zi_ms r = true := by decide +kernel
set_option maxRecDepth 100000 in
theorem zv_zc_X5_move_1 : ∀ r ∈ zc_X5_move_1, decode cX5_move r.1 = .ok (r.2.1, r.2.2.1) ∧ zi_lok r = true ∧ zi_ok yX5_move.cls (decide (yX5_move.name = "<init>")) zi_ms r = true := by decide +kernel
set_option maxRecDepth 100000 in
theorem zm_19 : zi_mP (yX5_move, cX5_move, 5, (some FieldType.int), zc_X5_move, 0, 0) := ⟨zi_tb_in (t := 769) (by decide +kernel), zi_tb_in (t := 96) (by decide +kernel), by decide +kernel, ⟨by decide +kernel, by decide +kernel⟩, by decide +kernel, List.forall_mem_append.mpr ⟨zv_zc_X5_move_0, zv_zc_X5_move_1⟩⟩
set_option maxRecDepth 100000 in
theorem zv_zc_X5_share_0 : ∀ r ∈ zc_X5_share_0, decode cX5_share r.1 = .ok (r.2.1, r.2.2.1) ∧ zi_lok r = true ∧ zi_ok yX5_share.cls (decide (yX5_share.name = "<init>")) zi_ms r = true := by decide +kernel
set_option maxRecDepth 100000 in
theorem zv_zc_X5_share_1 : ∀ r ∈ zc_X5_share_1, decode cX5_share r.1 = .ok (r.2.1, r.2.2.1) ∧ zi_lok r = true ∧ zi_ok yX5_share.cls (decide (yX5_share.name = "<init>")) zi_ms r = true := by decide +kernel
set_option maxRecDepth 100000 in
theorem zm_20 : zi_mP (yX5_share, cX5_share, 6, (some FieldType.int), zc_X5_share, 0, 0) := ⟨zi_tb_in (t := 777) (by decide +kernel), zi_tb_in (t := 96) (by decide +kernel), by decide +kernel, ⟨by decide +kernel, by decide +kernel⟩, by decide +kernel, List.forall_mem_append.mpr ⟨zv_zc_X5_share_0, zv_zc_X5_share_1⟩⟩
set_option maxRecDepth 100000 in
theorem zv_zc_X5_area_0 : ∀ r ∈ zc_X5_area_0, decode cX5_area r.1 = .ok (r.2.1, r.2.2.1) ∧ zi_lok r = true ∧ zi_ok yX5_area.cls (decide (yX5_area.name = "<init>")) zi_ms r = true := by decide +kernel
set_option maxRecDepth 100000 in
theorem zm_21 : zi_mP (yX5_area, cX5_area, 3, (some FieldType.int), zc_X5_area, 0, 0) := ⟨zi_tb_in (t := 792) (by decide +kernel), zi_tb_in (t := 96) (by decide +kernel), by decide +kernel, ⟨by decide +kernel, by decide +kernel⟩, by decide +kernel, zv_zc_X5_area_0⟩
set_option maxRecDepth 100000 in
theorem zv_zc_X5_about_0 : ∀ r ∈ zc_X5_about_0, decode cX5_about r.1 = .ok (r.2.1, r.2.2.1) ∧ zi_lok r = true ∧ zi_ok yX5_about.cls (decide (yX5_about.name = "<init>")) zi_ms r = true := by decide +kernel
set_option maxRecDepth 100000 in
theorem zv_zc_X5_about_1 : ∀ r ∈ zc_X5_about_1, decode cX5_about r.1 = .ok (r.2.1, r.2.2.1) ∧ zi_lok r = true ∧ zi_ok yX5_about.cls (decide (yX5_about.name = "<init>")) zi_ms r = true := by decide +kernel
set_option maxRecDepth 100000 in
theorem zm_22 : zi_mP (yX5_about, cX5_about, 4, (some FieldType.int), zc_X5_about, 0, 0) := ⟨zi_tb_in (t := 796) (by decide +kernel), zi_tb_in (t := 96) (by decide +kernel), by decide +kernel, ⟨by decide +kernel, by decide +kernel⟩, by decide +kernel, List.forall_mem_append.mpr ⟨zv_zc_X5_about_0, zv_zc_X5_about_1⟩⟩
set_option maxRecDepth 100000 in
theorem zv_zc_X5_isOf_0 : ∀ r ∈ zc_X5_isOf_0, decode cX5_isOf r.1 = .ok (r.2.1, r.2.2.1) ∧ zi_lok r = true ∧ zi_ok yX5_isOf.cls (decide (yX5_isOf.name = "<init>")) zi_ms r = true := by decide +kernel
set_option maxRecDepth 100000 in
theorem zm_23 : zi_mP (yX5_isOf, cX5_isOf, 3, (some FieldType.int), zc_X5_isOf, 0, 0) := ⟨zi_tb_in (t := 801) (by decide +kernel), zi_tb_in (t := 96) (by decide +kernel), by decide +kernel, ⟨by decide +kernel, by decide +kernel⟩, by decide +kernel, zv_zc_X5_isOf_0⟩
set_option maxRecDepth 100000 in
theorem zv_zc_X5_at_0 : ∀ r ∈ zc_X5_at_0, decode cX5_at r.1 = .ok (r.2.1, r.2.2.1) ∧ zi_lok r = true ∧ zi_ok yX5_at.cls (decide (yX5_at.name = "<init>")) zi_ms r = true := by decide +kernel
set_option maxRecDepth 100000 in
theorem zv_zc_X5_at_1 : ∀ r ∈ zc_X5_at_1, decode cX5_at r.1 = .ok (r.2.1, r.2.2.1) ∧ zi_lok r = true ∧ zi_ok yX5_at.cls (decide (yX5_at.name = "<init>")) zi_ms r = true := by decide +kernel
set_option maxRecDepth 100000 in
theorem zm_24 : zi_mP (yX5_at, cX5_at, 6, (some FieldType.int), zc_X5_at, 0, 0) := ⟨zi_tb_in (t := 809) (by decide +kernel), zi_tb_in (t := 96) (by decide +kernel), by decide +kernel, ⟨by decide +kernel, by decide +kernel⟩, by decide +kernel, List.forall_mem_append.mpr ⟨zv_zc_X5_at_0, zv_zc_X5_at_1⟩⟩
set_option maxRecDepth 100000 in
theorem zv_zc_X5_neighbour_0 : ∀ r ∈ zc_X5_neighbour_0, decode cX5_neighbour r.1 = .ok (r.2.1, r.2.2.1) ∧ zi_lok r = true ∧ zi_ok yX5_neighbour.cls (decide (yX5_neighbour.name = "<init>")) zi_ms r = true := by decide +kernel
set_option maxRecDepth 100000 in
theorem zm_25 : zi_mP (yX5_neighbour, cX5_neighbour, 3, (some FieldType.int), zc_X5_neighbour, 0, 0) := ⟨zi_tb_in (t := 832) (by decide +kernel), zi_tb_in (t := 96) (by decide +kernel), by decide +kernel, ⟨by decide +kernel, by decide +kernel⟩, by decide +kernel, zv_zc_X5_neighbour_0⟩
set_option maxRecDepth 100000 in
theorem zv_zc_X5_told_0 : ∀ r ∈ zc_X5_told_0, decode cX5_told r.1 = .ok (r.2.1, r.2.2.1) ∧ zi_lok r = true ∧ zi_ok yX5_told.cls (decide (yX5_told.name = "<init>")) zi_ms r = true := by decide +kernel
set_option maxRecDepth 100000 in
theorem zv_zc_X5_told_1 : ∀ r ∈ zc_X5_told_1, decode cX5_told r.1 = .ok (r.2.1, r.2.2.1) ∧ zi_lok r = true ∧ zi_ok yX5_told.cls (decide (yX5_told.name = "<init>")) zi_ms r = true := by decide +kernel
set_option maxRecDepth 100000 in
theorem zm_26 : zi_mP (yX5_told, cX5_told, 4, (some FieldType.int), zc_X5_told, 0, 0) := ⟨zi_tb_in (t := 836) (by decide +kernel), zi_tb_in (t := 96) (by decide +kernel), by decide +kernel, ⟨by decide +kernel, by decide +kernel⟩, by decide +kernel, List.forall_mem_append.mpr ⟨zv_zc_X5_told_0, zv_zc_X5_told_1⟩⟩
set_option maxRecDepth 100000 in
theorem zv_zc_X5_tab_0 : ∀ r ∈ zc_X5_tab_0, decode cX5_tab r.1 = .ok (r.2.1, r.2.2.1) ∧ zi_lok r = true ∧ zi_ok yX5_tab.cls (decide (yX5_tab.name = "<init>")) zi_ms r = true := by decide +kernel
set_option maxRecDepth 100000 in
theorem zv_zc_X5_tab_1 : ∀ r ∈ zc_X5_tab_1, decode cX5_tab r.1 = .ok (r.2.1, r.2.2.1) ∧ zi_lok r = true ∧ zi_ok yX5_tab.cls (decide (yX5_tab.name = "<init>")) zi_ms r = true := by decide +kernel
set_option maxRecDepth 100000 in
theorem zm_27 : zi_mP (yX5_tab, cX5_tab, 6, (some FieldType.int), zc_X5_tab, 0, 0) := ⟨zi_tb_in (t := 850) (by decide +kernel), zi_tb_in (t := 96) (by decide +kernel), by decide +kernel, ⟨by decide +kernel, by decide +kernel⟩, by decide +kernel, List.forall_mem_append.mpr ⟨zv_zc_X5_tab_0, zv_zc_X5_tab_1⟩⟩
set_option maxRecDepth 100000 in
theorem zv_zc_X5_count_0 : ∀ r ∈ zc_X5_count_0, decode cX5_count r.1 = .ok (r.2.1, r.2.2.1) ∧ zi_lok r = true ∧ zi_ok yX5_count.cls (decide (yX5_count.name = "<init>")) zi_ms r = true := by decide +kernel
set_option maxRecDepth 100000 in
theorem zm_28 : zi_mP (yX5_count, cX5_count, 2, (some FieldType.int), zc_X5_count, 0, 0) := ⟨zi_tb_in (t := 860) (by decide +kernel), zi_tb_in (t := 96) (by decide +kernel), by decide +kernel, ⟨by decide +kernel, by decide +kernel⟩, by decide +kernel, zv_zc_X5_count_0⟩
set_option maxRecDepth 100000 in
theorem zv_zc_X5_isScreen_0 : ∀ r ∈ zc_X5_isScreen_0, decode cX5_isScreen r.1 = .ok (r.2.1, r.2.2.1) ∧ zi_lok r = true ∧ zi_ok yX5_isScreen.cls (decide (yX5_isScreen.name = "<init>")) zi_ms r = true := by decide +kernel
set_option maxRecDepth 100000 in
theorem zm_29 : zi_mP (yX5_isScreen, cX5_isScreen, 1, (some FieldType.boolean), zc_X5_isScreen, 0, 0) := ⟨zi_tb_in (t := 316) (by decide +kernel), zi_tb_in (t := 96) (by decide +kernel), by decide +kernel, ⟨by decide +kernel, by decide +kernel⟩, by decide +kernel, zv_zc_X5_isScreen_0⟩
set_option maxRecDepth 100000 in
theorem zv_zc_X5_isScreenSize_0 : ∀ r ∈ zc_X5_isScreenSize_0, decode cX5_isScreenSize r.1 = .ok (r.2.1, r.2.2.1) ∧ zi_lok r = true ∧ zi_ok yX5_isScreenSize.cls (decide (yX5_isScreenSize.name = "<init>")) zi_ms r = true := by decide +kernel
set_option maxRecDepth 100000 in
theorem zm_30 : zi_mP (yX5_isScreenSize, cX5_isScreenSize, 1, (some FieldType.boolean), zc_X5_isScreenSize, 0, 0) := ⟨zi_tb_in (t := 319) (by decide +kernel), zi_tb_in (t := 96) (by decide +kernel), by decide +kernel, ⟨by decide +kernel, by decide +kernel⟩, by decide +kernel, zv_zc_X5_isScreenSize_0⟩
set_option maxRecDepth 100000 in
theorem zv_zc_X5_isWindowSize_0 : ∀ r ∈ zc_X5_isWindowSize_0, decode cX5_isWindowSize r.1 = .ok (r.2.1, r.2.2.1) ∧ zi_lok r = true ∧ zi_ok yX5_isWindowSize.cls (decide (yX5_isWindowSize.name = "<init>")) zi_ms r = true := by decide +kernel
set_option maxRecDepth 100000 in
theorem zm_31 : zi_mP (yX5_isWindowSize, cX5_isWindowSize, 1, (some FieldType.boolean), zc_X5_isWindowSize, 0, 0) := ⟨zi_tb_in (t := 559) (by decide +kernel), zi_tb_in (t := 96) (by decide +kernel), by decide +kernel, ⟨by decide +kernel, by decide +kernel⟩, by decide +kernel, zv_zc_X5_isWindowSize_0⟩
set_option maxRecDepth 100000 in
theorem zv_zc_X5_isSide_0 : ∀ r ∈ zc_X5_isSide_0, decode cX5_isSide r.1 = .ok (r.2.1, r.2.2.1) ∧ zi_lok r = true ∧ zi_ok yX5_isSide.cls (decide (yX5_isSide.name = "<init>")) zi_ms r = true := by decide +kernel
set_option maxRecDepth 100000 in
theorem zm_32 : zi_mP (yX5_isSide, cX5_isSide, 1, (some FieldType.boolean), zc_X5_isSide, 0, 0) := ⟨zi_tb_in (t := 709) (by decide +kernel), zi_tb_in (t := 96) (by decide +kernel), by decide +kernel, ⟨by decide +kernel, by decide +kernel⟩, by decide +kernel, zv_zc_X5_isSide_0⟩
set_option maxRecDepth 100000 in
theorem zv_zc_X5_isAxis_0 : ∀ r ∈ zc_X5_isAxis_0, decode cX5_isAxis r.1 = .ok (r.2.1, r.2.2.1) ∧ zi_lok r = true ∧ zi_ok yX5_isAxis.cls (decide (yX5_isAxis.name = "<init>")) zi_ms r = true := by decide +kernel
set_option maxRecDepth 100000 in
theorem zm_33 : zi_mP (yX5_isAxis, cX5_isAxis, 1, (some FieldType.boolean), zc_X5_isAxis, 0, 0) := ⟨zi_tb_in (t := 780) (by decide +kernel), zi_tb_in (t := 96) (by decide +kernel), by decide +kernel, ⟨by decide +kernel, by decide +kernel⟩, by decide +kernel, zv_zc_X5_isAxis_0⟩
set_option maxRecDepth 100000 in
theorem zv_zc_X5_isPlace_0 : ∀ r ∈ zc_X5_isPlace_0, decode cX5_isPlace r.1 = .ok (r.2.1, r.2.2.1) ∧ zi_lok r = true ∧ zi_ok yX5_isPlace.cls (decide (yX5_isPlace.name = "<init>")) zi_ms r = true := by decide +kernel
set_option maxRecDepth 100000 in
theorem zm_34 : zi_mP (yX5_isPlace, cX5_isPlace, 1, (some FieldType.boolean), zc_X5_isPlace, 0, 0) := ⟨zi_tb_in (t := 772) (by decide +kernel), zi_tb_in (t := 96) (by decide +kernel), by decide +kernel, ⟨by decide +kernel, by decide +kernel⟩, by decide +kernel, zv_zc_X5_isPlace_0⟩
set_option maxRecDepth 100000 in
theorem zv_zc_X5_isWindow_0 : ∀ r ∈ zc_X5_isWindow_0, decode cX5_isWindow r.1 = .ok (r.2.1, r.2.2.1) ∧ zi_lok r = true ∧ zi_ok yX5_isWindow.cls (decide (yX5_isWindow.name = "<init>")) zi_ms r = true := by decide +kernel
set_option maxRecDepth 100000 in
theorem zm_35 : zi_mP (yX5_isWindow, cX5_isWindow, 2, (some FieldType.boolean), zc_X5_isWindow, 0, 0) := ⟨zi_tb_in (t := 352) (by decide +kernel), zi_tb_in (t := 96) (by decide +kernel), by decide +kernel, ⟨by decide +kernel, by decide +kernel⟩, by decide +kernel, zv_zc_X5_isWindow_0⟩
set_option maxRecDepth 100000 in
theorem zv_zc_X5_isShownTile_0 : ∀ r ∈ zc_X5_isShownTile_0, decode cX5_isShownTile r.1 = .ok (r.2.1, r.2.2.1) ∧ zi_lok r = true ∧ zi_ok yX5_isShownTile.cls (decide (yX5_isShownTile.name = "<init>")) zi_ms r = true := by decide +kernel
set_option maxRecDepth 100000 in
theorem zm_36 : zi_mP (yX5_isShownTile, cX5_isShownTile, 2, (some FieldType.boolean), zc_X5_isShownTile, 0, 0) := ⟨zi_tb_in (t := 713) (by decide +kernel), zi_tb_in (t := 96) (by decide +kernel), by decide +kernel, ⟨by decide +kernel, by decide +kernel⟩, by decide +kernel, zv_zc_X5_isShownTile_0⟩
set_option maxRecDepth 100000 in
theorem zv_zc_X5_leastScreenBut_0 : ∀ r ∈ zc_X5_leastScreenBut_0, decode cX5_leastScreenBut r.1 = .ok (r.2.1, r.2.2.1) ∧ zi_lok r = true ∧ zi_ok yX5_leastScreenBut.cls (decide (yX5_leastScreenBut.name = "<init>")) zi_ms r = true := by decide +kernel
set_option maxRecDepth 100000 in
theorem zm_37 : zi_mP (yX5_leastScreenBut, cX5_leastScreenBut, 3, (some FieldType.int), zc_X5_leastScreenBut, 0, 0) := ⟨zi_tb_in (t := 502) (by decide +kernel), zi_tb_in (t := 96) (by decide +kernel), by decide +kernel, ⟨by decide +kernel, by decide +kernel⟩, by decide +kernel, zv_zc_X5_leastScreenBut_0⟩
set_option maxRecDepth 100000 in
theorem zv_zc_X5_screenAtHand_0 : ∀ r ∈ zc_X5_screenAtHand_0, decode cX5_screenAtHand r.1 = .ok (r.2.1, r.2.2.1) ∧ zi_lok r = true ∧ zi_ok yX5_screenAtHand.cls (decide (yX5_screenAtHand.name = "<init>")) zi_ms r = true := by decide +kernel
set_option maxRecDepth 100000 in
theorem zm_38 : zi_mP (yX5_screenAtHand, cX5_screenAtHand, 3, (some FieldType.int), zc_X5_screenAtHand, 0, 0) := ⟨zi_tb_in (t := 572) (by decide +kernel), zi_tb_in (t := 96) (by decide +kernel), by decide +kernel, ⟨by decide +kernel, by decide +kernel⟩, by decide +kernel, zv_zc_X5_screenAtHand_0⟩
set_option maxRecDepth 100000 in
theorem zv_zc_X5_screensThere_0 : ∀ r ∈ zc_X5_screensThere_0, decode cX5_screensThere r.1 = .ok (r.2.1, r.2.2.1) ∧ zi_lok r = true ∧ zi_ok yX5_screensThere.cls (decide (yX5_screensThere.name = "<init>")) zi_ms r = true := by decide +kernel
set_option maxRecDepth 100000 in
theorem zm_39 : zi_mP (yX5_screensThere, cX5_screensThere, 3, (some FieldType.int), zc_X5_screensThere, 0, 0) := ⟨zi_tb_in (t := 864) (by decide +kernel), zi_tb_in (t := 96) (by decide +kernel), by decide +kernel, ⟨by decide +kernel, by decide +kernel⟩, by decide +kernel, zv_zc_X5_screensThere_0⟩
