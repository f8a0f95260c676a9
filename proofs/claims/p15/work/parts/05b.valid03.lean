set_option maxRecDepth 100000 in
theorem zv_zc_X6_steps_0 : ∀ r ∈ zc_X6_steps_0, decode cX6_steps r.1 = .ok (r.2.1, r.2.2.1) ∧ zi_lok r = true ∧ zi_ok yX6_steps.cls (decide (yX6_steps.name = "<init>")) zi_ms r = true := by decide +kernel
set_option maxRecDepth 100000 in
theorem zv_zc_X6_steps_1 : ∀ r ∈ zc_X6_steps_1, decode cX6_steps r.1 = .ok (r.2.1, r.2.2.1) ∧ zi_lok r = true ∧ zi_ok yX6_steps.cls (decide (yX6_steps.name = "<init>")) zi_ms r = true := by decide +kernel
set_option maxRecDepth 100000 in
theorem zv_zc_X6_steps_2 : ∀ r ∈ zc_X6_steps_2, decode cX6_steps r.1 = .ok (r.2.1, r.2.2.1) ∧ zi_lok r = true ∧ zi_ok yX6_steps.cls (decide (yX6_steps.name = "<init>")) zi_ms r = true := by decide +kernel
set_option maxRecDepth 100000 in
theorem zm_56 : zi_mP (yX6_steps, cX6_steps, 7, (some FieldType.int), zc_X6_steps, 0, 0) := ⟨zi_tb_in (t := 1186) (by decide +kernel), zi_tb_in (t := 103) (by decide +kernel), by decide +kernel, ⟨by decide +kernel, by decide +kernel⟩, by decide +kernel, List.forall_mem_append.mpr ⟨zv_zc_X6_steps_0, List.forall_mem_append.mpr ⟨zv_zc_X6_steps_1, zv_zc_X6_steps_2⟩⟩⟩
set_option maxRecDepth 100000 in
theorem zv_zc_X6_drag_0 : ∀ r ∈ zc_X6_drag_0, decode cX6_drag r.1 = .ok (r.2.1, r.2.2.1) ∧ zi_lok r = true ∧ zi_ok yX6_drag.cls (decide (yX6_drag.name = "<init>")) zi_ms r = true := by decide +kernel
set_option maxRecDepth 100000 in
theorem zv_zc_X6_drag_1 : ∀ r ∈ zc_X6_drag_1, decode cX6_drag r.1 = .ok (r.2.1, r.2.2.1) ∧ zi_lok r = true ∧ zi_ok yX6_drag.cls (decide (yX6_drag.name = "<init>")) zi_ms r = true := by decide +kernel
set_option maxRecDepth 100000 in
theorem zv_zc_X6_drag_2 : ∀ r ∈ zc_X6_drag_2, decode cX6_drag r.1 = .ok (r.2.1, r.2.2.1) ∧ zi_lok r = true ∧ zi_ok yX6_drag.cls (decide (yX6_drag.name = "<init>")) zi_ms r = true := by decide +kernel
set_option maxRecDepth 100000 in
theorem zv_zc_X6_drag_3 : ∀ r ∈ zc_X6_drag_3, decode cX6_drag r.1 = .ok (r.2.1, r.2.2.1) ∧ zi_lok r = true ∧ zi_ok yX6_drag.cls (decide (yX6_drag.name = "<init>")) zi_ms r = true := by decide +kernel
set_option maxRecDepth 100000 in
theorem zv_zc_X6_drag_4 : ∀ r ∈ zc_X6_drag_4, decode cX6_drag r.1 = .ok (r.2.1, r.2.2.1) ∧ zi_lok r = true ∧ zi_ok yX6_drag.cls (decide (yX6_drag.name = "<init>")) zi_ms r = true := by decide +kernel
set_option maxRecDepth 100000 in
theorem zv_zc_X6_drag_5 : ∀ r ∈ zc_X6_drag_5, decode cX6_drag r.1 = .ok (r.2.1, r.2.2.1) ∧ zi_lok r = true ∧ zi_ok yX6_drag.cls (decide (yX6_drag.name = "<init>")) zi_ms r = true := by decide +kernel
set_option maxRecDepth 100000 in
theorem zm_57 : zi_mP (yX6_drag, cX6_drag, 9, (some FieldType.int), zc_X6_drag, 0, 0) := ⟨zi_tb_in (t := 1190) (by decide +kernel), zi_tb_in (t := 103) (by decide +kernel), by decide +kernel, ⟨by decide +kernel, by decide +kernel⟩, by decide +kernel, List.forall_mem_append.mpr ⟨zv_zc_X6_drag_0, List.forall_mem_append.mpr ⟨zv_zc_X6_drag_1, List.forall_mem_append.mpr ⟨zv_zc_X6_drag_2, List.forall_mem_append.mpr ⟨zv_zc_X6_drag_3, List.forall_mem_append.mpr ⟨zv_zc_X6_drag_4, zv_zc_X6_drag_5⟩⟩⟩⟩⟩⟩
set_option maxRecDepth 100000 in
theorem zv_zc_X6_move_0 : ∀ r ∈ zc_X6_move_0, decode cX6_move r.1 = .ok (r.2.1, r.2.2.1) ∧ zi_lok r = true ∧ zi_ok yX6_move.cls (decide (yX6_move.name = "<init>")) zi_ms r = true := by decide +kernel
set_option maxRecDepth 100000 in
theorem zv_zc_X6_move_1 : ∀ r ∈ zc_X6_move_1, decode cX6_move r.1 = .ok (r.2.1, r.2.2.1) ∧ zi_lok r = true ∧ zi_ok yX6_move.cls (decide (yX6_move.name = "<init>")) zi_ms r = true := by decide +kernel
set_option maxRecDepth 100000 in
theorem zm_58 : zi_mP (yX6_move, cX6_move, 4, (some FieldType.int), zc_X6_move, 0, 0) := ⟨zi_tb_in (t := 1194) (by decide +kernel), zi_tb_in (t := 103) (by decide +kernel), by decide +kernel, ⟨by decide +kernel, by decide +kernel⟩, by decide +kernel, List.forall_mem_append.mpr ⟨zv_zc_X6_move_0, zv_zc_X6_move_1⟩⟩
set_option maxRecDepth 100000 in
theorem zv_zc_X6_share_0 : ∀ r ∈ zc_X6_share_0, decode cX6_share r.1 = .ok (r.2.1, r.2.2.1) ∧ zi_lok r = true ∧ zi_ok yX6_share.cls (decide (yX6_share.name = "<init>")) zi_ms r = true := by decide +kernel
set_option maxRecDepth 100000 in
theorem zv_zc_X6_share_1 : ∀ r ∈ zc_X6_share_1, decode cX6_share r.1 = .ok (r.2.1, r.2.2.1) ∧ zi_lok r = true ∧ zi_ok yX6_share.cls (decide (yX6_share.name = "<init>")) zi_ms r = true := by decide +kernel
set_option maxRecDepth 100000 in
theorem zm_59 : zi_mP (yX6_share, cX6_share, 7, (some FieldType.int), zc_X6_share, 0, 0) := ⟨zi_tb_in (t := 1198) (by decide +kernel), zi_tb_in (t := 103) (by decide +kernel), by decide +kernel, ⟨by decide +kernel, by decide +kernel⟩, by decide +kernel, List.forall_mem_append.mpr ⟨zv_zc_X6_share_0, zv_zc_X6_share_1⟩⟩
set_option maxRecDepth 100000 in
theorem zv_zc_X6_area_0 : ∀ r ∈ zc_X6_area_0, decode cX6_area r.1 = .ok (r.2.1, r.2.2.1) ∧ zi_lok r = true ∧ zi_ok yX6_area.cls (decide (yX6_area.name = "<init>")) zi_ms r = true := by decide +kernel
set_option maxRecDepth 100000 in
theorem zm_60 : zi_mP (yX6_area, cX6_area, 3, (some FieldType.int), zc_X6_area, 0, 0) := ⟨zi_tb_in (t := 1202) (by decide +kernel), zi_tb_in (t := 103) (by decide +kernel), by decide +kernel, ⟨by decide +kernel, by decide +kernel⟩, by decide +kernel, zv_zc_X6_area_0⟩
set_option maxRecDepth 100000 in
theorem zv_zc_X6_about_0 : ∀ r ∈ zc_X6_about_0, decode cX6_about r.1 = .ok (r.2.1, r.2.2.1) ∧ zi_lok r = true ∧ zi_ok yX6_about.cls (decide (yX6_about.name = "<init>")) zi_ms r = true := by decide +kernel
set_option maxRecDepth 100000 in
theorem zv_zc_X6_about_1 : ∀ r ∈ zc_X6_about_1, decode cX6_about r.1 = .ok (r.2.1, r.2.2.1) ∧ zi_lok r = true ∧ zi_ok yX6_about.cls (decide (yX6_about.name = "<init>")) zi_ms r = true := by decide +kernel
set_option maxRecDepth 100000 in
theorem zm_61 : zi_mP (yX6_about, cX6_about, 3, (some FieldType.int), zc_X6_about, 0, 0) := ⟨zi_tb_in (t := 1206) (by decide +kernel), zi_tb_in (t := 103) (by decide +kernel), by decide +kernel, ⟨by decide +kernel, by decide +kernel⟩, by decide +kernel, List.forall_mem_append.mpr ⟨zv_zc_X6_about_0, zv_zc_X6_about_1⟩⟩
set_option maxRecDepth 100000 in
theorem zv_zc_X6_isOf_0 : ∀ r ∈ zc_X6_isOf_0, decode cX6_isOf r.1 = .ok (r.2.1, r.2.2.1) ∧ zi_lok r = true ∧ zi_ok yX6_isOf.cls (decide (yX6_isOf.name = "<init>")) zi_ms r = true := by decide +kernel
set_option maxRecDepth 100000 in
theorem zm_62 : zi_mP (yX6_isOf, cX6_isOf, 3, (some FieldType.int), zc_X6_isOf, 0, 0) := ⟨zi_tb_in (t := 1213) (by decide +kernel), zi_tb_in (t := 103) (by decide +kernel), by decide +kernel, ⟨by decide +kernel, by decide +kernel⟩, by decide +kernel, zv_zc_X6_isOf_0⟩
set_option maxRecDepth 100000 in
theorem zv_zc_X6_at_0 : ∀ r ∈ zc_X6_at_0, decode cX6_at r.1 = .ok (r.2.1, r.2.2.1) ∧ zi_lok r = true ∧ zi_ok yX6_at.cls (decide (yX6_at.name = "<init>")) zi_ms r = true := by decide +kernel
set_option maxRecDepth 100000 in
theorem zv_zc_X6_at_1 : ∀ r ∈ zc_X6_at_1, decode cX6_at r.1 = .ok (r.2.1, r.2.2.1) ∧ zi_lok r = true ∧ zi_ok yX6_at.cls (decide (yX6_at.name = "<init>")) zi_ms r = true := by decide +kernel
set_option maxRecDepth 100000 in
theorem zv_zc_X6_at_2 : ∀ r ∈ zc_X6_at_2, decode cX6_at r.1 = .ok (r.2.1, r.2.2.1) ∧ zi_lok r = true ∧ zi_ok yX6_at.cls (decide (yX6_at.name = "<init>")) zi_ms r = true := by decide +kernel
set_option maxRecDepth 100000 in
theorem zm_63 : zi_mP (yX6_at, cX6_at, 6, (some FieldType.int), zc_X6_at, 0, 0) := ⟨zi_tb_in (t := 1217) (by decide +kernel), zi_tb_in (t := 103) (by decide +kernel), by decide +kernel, ⟨by decide +kernel, by decide +kernel⟩, by decide +kernel, List.forall_mem_append.mpr ⟨zv_zc_X6_at_0, List.forall_mem_append.mpr ⟨zv_zc_X6_at_1, zv_zc_X6_at_2⟩⟩⟩
set_option maxRecDepth 100000 in
theorem zv_zc_X6_neighbour_0 : ∀ r ∈ zc_X6_neighbour_0, decode cX6_neighbour r.1 = .ok (r.2.1, r.2.2.1) ∧ zi_lok r = true ∧ zi_ok yX6_neighbour.cls (decide (yX6_neighbour.name = "<init>")) zi_ms r = true := by decide +kernel
set_option maxRecDepth 100000 in
theorem zm_64 : zi_mP (yX6_neighbour, cX6_neighbour, 4, (some FieldType.int), zc_X6_neighbour, 0, 0) := ⟨zi_tb_in (t := 1225) (by decide +kernel), zi_tb_in (t := 103) (by decide +kernel), by decide +kernel, ⟨by decide +kernel, by decide +kernel⟩, by decide +kernel, zv_zc_X6_neighbour_0⟩
set_option maxRecDepth 100000 in
theorem zv_zc_X6_told_0 : ∀ r ∈ zc_X6_told_0, decode cX6_told r.1 = .ok (r.2.1, r.2.2.1) ∧ zi_lok r = true ∧ zi_ok yX6_told.cls (decide (yX6_told.name = "<init>")) zi_ms r = true := by decide +kernel
set_option maxRecDepth 100000 in
theorem zv_zc_X6_told_1 : ∀ r ∈ zc_X6_told_1, decode cX6_told r.1 = .ok (r.2.1, r.2.2.1) ∧ zi_lok r = true ∧ zi_ok yX6_told.cls (decide (yX6_told.name = "<init>")) zi_ms r = true := by decide +kernel
set_option maxRecDepth 100000 in
theorem zv_zc_X6_told_2 : ∀ r ∈ zc_X6_told_2, decode cX6_told r.1 = .ok (r.2.1, r.2.2.1) ∧ zi_lok r = true ∧ zi_ok yX6_told.cls (decide (yX6_told.name = "<init>")) zi_ms r = true := by decide +kernel
set_option maxRecDepth 100000 in
theorem zm_65 : zi_mP (yX6_told, cX6_told, 5, (some FieldType.int), zc_X6_told, 0, 0) := ⟨zi_tb_in (t := 1229) (by decide +kernel), zi_tb_in (t := 103) (by decide +kernel), by decide +kernel, ⟨by decide +kernel, by decide +kernel⟩, by decide +kernel, List.forall_mem_append.mpr ⟨zv_zc_X6_told_0, List.forall_mem_append.mpr ⟨zv_zc_X6_told_1, zv_zc_X6_told_2⟩⟩⟩
set_option maxRecDepth 100000 in
theorem zv_zc_X6_tab_0 : ∀ r ∈ zc_X6_tab_0, decode cX6_tab r.1 = .ok (r.2.1, r.2.2.1) ∧ zi_lok r = true ∧ zi_ok yX6_tab.cls (decide (yX6_tab.name = "<init>")) zi_ms r = true := by decide +kernel
set_option maxRecDepth 100000 in
theorem zv_zc_X6_tab_1 : ∀ r ∈ zc_X6_tab_1, decode cX6_tab r.1 = .ok (r.2.1, r.2.2.1) ∧ zi_lok r = true ∧ zi_ok yX6_tab.cls (decide (yX6_tab.name = "<init>")) zi_ms r = true := by decide +kernel
set_option maxRecDepth 100000 in
theorem zm_66 : zi_mP (yX6_tab, cX6_tab, 5, (some FieldType.int), zc_X6_tab, 0, 0) := ⟨zi_tb_in (t := 1233) (by decide +kernel), zi_tb_in (t := 103) (by decide +kernel), by decide +kernel, ⟨by decide +kernel, by decide +kernel⟩, by decide +kernel, List.forall_mem_append.mpr ⟨zv_zc_X6_tab_0, zv_zc_X6_tab_1⟩⟩
set_option maxRecDepth 100000 in
theorem zv_zc_X6_count_0 : ∀ r ∈ zc_X6_count_0, decode cX6_count r.1 = .ok (r.2.1, r.2.2.1) ∧ zi_lok r = true ∧ zi_ok yX6_count.cls (decide (yX6_count.name = "<init>")) zi_ms r = true := by decide +kernel
set_option maxRecDepth 100000 in
theorem zv_zc_X6_count_1 : ∀ r ∈ zc_X6_count_1, decode cX6_count r.1 = .ok (r.2.1, r.2.2.1) ∧ zi_lok r = true ∧ zi_ok yX6_count.cls (decide (yX6_count.name = "<init>")) zi_ms r = true := by decide +kernel
set_option maxRecDepth 100000 in
theorem zv_zc_X6_count_2 : ∀ r ∈ zc_X6_count_2, decode cX6_count r.1 = .ok (r.2.1, r.2.2.1) ∧ zi_lok r = true ∧ zi_ok yX6_count.cls (decide (yX6_count.name = "<init>")) zi_ms r = true := by decide +kernel
set_option maxRecDepth 100000 in
theorem zm_67 : zi_mP (yX6_count, cX6_count, 4, (some FieldType.int), zc_X6_count, 0, 0) := ⟨zi_tb_in (t := 1237) (by decide +kernel), zi_tb_in (t := 103) (by decide +kernel), by decide +kernel, ⟨by decide +kernel, by decide +kernel⟩, by decide +kernel, List.forall_mem_append.mpr ⟨zv_zc_X6_count_0, List.forall_mem_append.mpr ⟨zv_zc_X6_count_1, zv_zc_X6_count_2⟩⟩⟩
set_option maxRecDepth 100000 in
theorem zv_zc_X6_isIn_0 : ∀ r ∈ zc_X6_isIn_0, decode cX6_isIn r.1 = .ok (r.2.1, r.2.2.1) ∧ zi_lok r = true ∧ zi_ok yX6_isIn.cls (decide (yX6_isIn.name = "<init>")) zi_ms r = true := by decide +kernel
set_option maxRecDepth 100000 in
theorem zm_68 : zi_mP (yX6_isIn, cX6_isIn, 3, (some FieldType.boolean), zc_X6_isIn, 0, 0) := ⟨zi_tb_in (t := 985) (by decide +kernel), zi_tb_in (t := 103) (by decide +kernel), by decide +kernel, ⟨by decide +kernel, by decide +kernel⟩, by decide +kernel, zv_zc_X6_isIn_0⟩
