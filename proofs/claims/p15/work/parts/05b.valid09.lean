set_option maxRecDepth 100000 in
theorem zv_zc_X6_raise_0 : ∀ r ∈ zc_X6_raise_0, decode cX6_raise r.1 = .ok (r.2.1, r.2.2.1) ∧ zi_lok r = true ∧ zi_ok yX6_raise.cls (decide (yX6_raise.name = "<init>")) zi_ms r = true := by decide +kernel
set_option maxRecDepth 100000 in
theorem zv_zc_X6_raise_1 : ∀ r ∈ zc_X6_raise_1, decode cX6_raise r.1 = .ok (r.2.1, r.2.2.1) ∧ zi_lok r = true ∧ zi_ok yX6_raise.cls (decide (yX6_raise.name = "<init>")) zi_ms r = true := by decide +kernel
set_option maxRecDepth 100000 in
theorem zm_186 : zi_mP (yX6_raise, cX6_raise, 6, none, zc_X6_raise, 0, 0) := ⟨zi_tb_in (t := 1142) (by decide +kernel), zi_tb_in (t := 103) (by decide +kernel), by decide +kernel, ⟨by decide +kernel, by decide +kernel⟩, by decide +kernel, List.forall_mem_append.mpr ⟨zv_zc_X6_raise_0, zv_zc_X6_raise_1⟩⟩
set_option maxRecDepth 100000 in
theorem zv_zc_X6_front_0 : ∀ r ∈ zc_X6_front_0, decode cX6_front r.1 = .ok (r.2.1, r.2.2.1) ∧ zi_lok r = true ∧ zi_ok yX6_front.cls (decide (yX6_front.name = "<init>")) zi_ms r = true := by decide +kernel
set_option maxRecDepth 100000 in
theorem zm_187 : zi_mP (yX6_front, cX6_front, 5, none, zc_X6_front, 0, 0) := ⟨zi_tb_in (t := 1138) (by decide +kernel), zi_tb_in (t := 103) (by decide +kernel), by decide +kernel, ⟨by decide +kernel, by decide +kernel⟩, by decide +kernel, zv_zc_X6_front_0⟩
set_option maxRecDepth 100000 in
theorem zv_zc_X6_focused_0 : ∀ r ∈ zc_X6_focused_0, decode cX6_focused r.1 = .ok (r.2.1, r.2.2.1) ∧ zi_lok r = true ∧ zi_ok yX6_focused.cls (decide (yX6_focused.name = "<init>")) zi_ms r = true := by decide +kernel
set_option maxRecDepth 100000 in
theorem zm_188 : zi_mP (yX6_focused, cX6_focused, 2, none, zc_X6_focused, 0, 0) := ⟨zi_tb_in (t := 1134) (by decide +kernel), zi_tb_in (t := 103) (by decide +kernel), by decide +kernel, ⟨by decide +kernel, by decide +kernel⟩, by decide +kernel, zv_zc_X6_focused_0⟩
set_option maxRecDepth 100000 in
theorem zv_zc_X6_forget_0 : ∀ r ∈ zc_X6_forget_0, decode cX6_forget r.1 = .ok (r.2.1, r.2.2.1) ∧ zi_lok r = true ∧ zi_ok yX6_forget.cls (decide (yX6_forget.name = "<init>")) zi_ms r = true := by decide +kernel
set_option maxRecDepth 100000 in
theorem zm_189 : zi_mP (yX6_forget, cX6_forget, 3, none, zc_X6_forget, 0, 0) := ⟨zi_tb_in (t := 1159) (by decide +kernel), zi_tb_in (t := 103) (by decide +kernel), by decide +kernel, ⟨by decide +kernel, by decide +kernel⟩, by decide +kernel, zv_zc_X6_forget_0⟩
set_option maxRecDepth 100000 in
theorem zv_zc_X6_spread_0 : ∀ r ∈ zc_X6_spread_0, decode cX6_spread r.1 = .ok (r.2.1, r.2.2.1) ∧ zi_lok r = true ∧ zi_ok yX6_spread.cls (decide (yX6_spread.name = "<init>")) zi_ms r = true := by decide +kernel
set_option maxRecDepth 100000 in
theorem zv_zc_X6_spread_1 : ∀ r ∈ zc_X6_spread_1, decode cX6_spread r.1 = .ok (r.2.1, r.2.2.1) ∧ zi_lok r = true ∧ zi_ok yX6_spread.cls (decide (yX6_spread.name = "<init>")) zi_ms r = true := by decide +kernel
set_option maxRecDepth 100000 in
theorem zm_190 : zi_mP (yX6_spread, cX6_spread, 3, none, zc_X6_spread, 0, 0) := ⟨zi_tb_in (t := 1001) (by decide +kernel), zi_tb_in (t := 103) (by decide +kernel), by decide +kernel, ⟨by decide +kernel, by decide +kernel⟩, by decide +kernel, List.forall_mem_append.mpr ⟨zv_zc_X6_spread_0, zv_zc_X6_spread_1⟩⟩
set_option maxRecDepth 100000 in
theorem zv_zc_X6_comesBack_0 : ∀ r ∈ zc_X6_comesBack_0, decode cX6_comesBack r.1 = .ok (r.2.1, r.2.2.1) ∧ zi_lok r = true ∧ zi_ok yX6_comesBack.cls (decide (yX6_comesBack.name = "<init>")) zi_ms r = true := by decide +kernel
set_option maxRecDepth 100000 in
theorem zv_zc_X6_comesBack_1 : ∀ r ∈ zc_X6_comesBack_1, decode cX6_comesBack r.1 = .ok (r.2.1, r.2.2.1) ∧ zi_lok r = true ∧ zi_ok yX6_comesBack.cls (decide (yX6_comesBack.name = "<init>")) zi_ms r = true := by decide +kernel
set_option maxRecDepth 100000 in
theorem zm_191 : zi_mP (yX6_comesBack, cX6_comesBack, 4, (some FieldType.boolean), zc_X6_comesBack, 0, 0) := ⟨zi_tb_in (t := 997) (by decide +kernel), zi_tb_in (t := 103) (by decide +kernel), by decide +kernel, ⟨by decide +kernel, by decide +kernel⟩, by decide +kernel, List.forall_mem_append.mpr ⟨zv_zc_X6_comesBack_0, zv_zc_X6_comesBack_1⟩⟩
set_option maxRecDepth 100000 in
theorem zv_zc_X6_bring_0 : ∀ r ∈ zc_X6_bring_0, decode cX6_bring r.1 = .ok (r.2.1, r.2.2.1) ∧ zi_lok r = true ∧ zi_ok yX6_bring.cls (decide (yX6_bring.name = "<init>")) zi_ms r = true := by decide +kernel
set_option maxRecDepth 100000 in
theorem zv_zc_X6_bring_1 : ∀ r ∈ zc_X6_bring_1, decode cX6_bring r.1 = .ok (r.2.1, r.2.2.1) ∧ zi_lok r = true ∧ zi_ok yX6_bring.cls (decide (yX6_bring.name = "<init>")) zi_ms r = true := by decide +kernel
set_option maxRecDepth 100000 in
theorem zv_zc_X6_bring_2 : ∀ r ∈ zc_X6_bring_2, decode cX6_bring r.1 = .ok (r.2.1, r.2.2.1) ∧ zi_lok r = true ∧ zi_ok yX6_bring.cls (decide (yX6_bring.name = "<init>")) zi_ms r = true := by decide +kernel
set_option maxRecDepth 100000 in
theorem zv_zc_X6_bring_3 : ∀ r ∈ zc_X6_bring_3, decode cX6_bring r.1 = .ok (r.2.1, r.2.2.1) ∧ zi_lok r = true ∧ zi_ok yX6_bring.cls (decide (yX6_bring.name = "<init>")) zi_ms r = true := by decide +kernel
set_option maxRecDepth 100000 in
theorem zm_192 : zi_mP (yX6_bring, cX6_bring, 7, (some FieldType.int), zc_X6_bring, 0, 0) := ⟨zi_tb_in (t := 1017) (by decide +kernel), zi_tb_in (t := 103) (by decide +kernel), by decide +kernel, ⟨by decide +kernel, by decide +kernel⟩, by decide +kernel, List.forall_mem_append.mpr ⟨zv_zc_X6_bring_0, List.forall_mem_append.mpr ⟨zv_zc_X6_bring_1, List.forall_mem_append.mpr ⟨zv_zc_X6_bring_2, zv_zc_X6_bring_3⟩⟩⟩⟩
set_option maxRecDepth 100000 in
theorem zv_zc_X6_clearLeaves_0 : ∀ r ∈ zc_X6_clearLeaves_0, decode cX6_clearLeaves r.1 = .ok (r.2.1, r.2.2.1) ∧ zi_lok r = true ∧ zi_ok yX6_clearLeaves.cls (decide (yX6_clearLeaves.name = "<init>")) zi_ms r = true := by decide +kernel
set_option maxRecDepth 100000 in
theorem zm_193 : zi_mP (yX6_clearLeaves, cX6_clearLeaves, 2, none, zc_X6_clearLeaves, 0, 0) := ⟨zi_tb_in (t := 1021) (by decide +kernel), zi_tb_in (t := 103) (by decide +kernel), by decide +kernel, ⟨by decide +kernel, by decide +kernel⟩, by decide +kernel, zv_zc_X6_clearLeaves_0⟩
set_option maxRecDepth 100000 in
theorem zv_zc_X6_findLeaves_0 : ∀ r ∈ zc_X6_findLeaves_0, decode cX6_findLeaves r.1 = .ok (r.2.1, r.2.2.1) ∧ zi_lok r = true ∧ zi_ok yX6_findLeaves.cls (decide (yX6_findLeaves.name = "<init>")) zi_ms r = true := by decide +kernel
set_option maxRecDepth 100000 in
theorem zm_194 : zi_mP (yX6_findLeaves, cX6_findLeaves, 3, none, zc_X6_findLeaves, 0, 0) := ⟨zi_tb_in (t := 1025) (by decide +kernel), zi_tb_in (t := 103) (by decide +kernel), by decide +kernel, ⟨by decide +kernel, by decide +kernel⟩, by decide +kernel, zv_zc_X6_findLeaves_0⟩
set_option maxRecDepth 100000 in
theorem zv_zc_X6_moveTabs_0 : ∀ r ∈ zc_X6_moveTabs_0, decode cX6_moveTabs r.1 = .ok (r.2.1, r.2.2.1) ∧ zi_lok r = true ∧ zi_ok yX6_moveTabs.cls (decide (yX6_moveTabs.name = "<init>")) zi_ms r = true := by decide +kernel
set_option maxRecDepth 100000 in
theorem zv_zc_X6_moveTabs_1 : ∀ r ∈ zc_X6_moveTabs_1, decode cX6_moveTabs r.1 = .ok (r.2.1, r.2.2.1) ∧ zi_lok r = true ∧ zi_ok yX6_moveTabs.cls (decide (yX6_moveTabs.name = "<init>")) zi_ms r = true := by decide +kernel
set_option maxRecDepth 100000 in
theorem zm_195 : zi_mP (yX6_moveTabs, cX6_moveTabs, 9, (some FieldType.int), zc_X6_moveTabs, 0, 0) := ⟨zi_tb_in (t := 1069) (by decide +kernel), zi_tb_in (t := 103) (by decide +kernel), by decide +kernel, ⟨by decide +kernel, by decide +kernel⟩, by decide +kernel, List.forall_mem_append.mpr ⟨zv_zc_X6_moveTabs_0, zv_zc_X6_moveTabs_1⟩⟩
set_option maxRecDepth 100000 in
theorem zv_zc_X6_tile_0 : ∀ r ∈ zc_X6_tile_0, decode cX6_tile r.1 = .ok (r.2.1, r.2.2.1) ∧ zi_lok r = true ∧ zi_ok yX6_tile.cls (decide (yX6_tile.name = "<init>")) zi_ms r = true := by decide +kernel
set_option maxRecDepth 100000 in
theorem zv_zc_X6_tile_1 : ∀ r ∈ zc_X6_tile_1, decode cX6_tile r.1 = .ok (r.2.1, r.2.2.1) ∧ zi_lok r = true ∧ zi_ok yX6_tile.cls (decide (yX6_tile.name = "<init>")) zi_ms r = true := by decide +kernel
set_option maxRecDepth 100000 in
theorem zv_zc_X6_tile_2 : ∀ r ∈ zc_X6_tile_2, decode cX6_tile r.1 = .ok (r.2.1, r.2.2.1) ∧ zi_lok r = true ∧ zi_ok yX6_tile.cls (decide (yX6_tile.name = "<init>")) zi_ms r = true := by decide +kernel
set_option maxRecDepth 100000 in
theorem zm_196 : zi_mP (yX6_tile, cX6_tile, 6, (some FieldType.boolean), zc_X6_tile, 0, 0) := ⟨zi_tb_in (t := 1102) (by decide +kernel), zi_tb_in (t := 103) (by decide +kernel), by decide +kernel, ⟨by decide +kernel, by decide +kernel⟩, by decide +kernel, List.forall_mem_append.mpr ⟨zv_zc_X6_tile_0, List.forall_mem_append.mpr ⟨zv_zc_X6_tile_1, zv_zc_X6_tile_2⟩⟩⟩
set_option maxRecDepth 100000 in
theorem zv_zc_X6_takesTrial_0 : ∀ r ∈ zc_X6_takesTrial_0, decode cX6_takesTrial r.1 = .ok (r.2.1, r.2.2.1) ∧ zi_lok r = true ∧ zi_ok yX6_takesTrial.cls (decide (yX6_takesTrial.name = "<init>")) zi_ms r = true := by decide +kernel
set_option maxRecDepth 100000 in
theorem zm_197 : zi_mP (yX6_takesTrial, cX6_takesTrial, 2, (some FieldType.boolean), zc_X6_takesTrial, 0, 0) := ⟨zi_tb_in (t := 1106) (by decide +kernel), zi_tb_in (t := 103) (by decide +kernel), by decide +kernel, ⟨by decide +kernel, by decide +kernel⟩, by decide +kernel, zv_zc_X6_takesTrial_0⟩
set_option maxRecDepth 100000 in
theorem zv_zc_X6_closed_0 : ∀ r ∈ zc_X6_closed_0, decode cX6_closed r.1 = .ok (r.2.1, r.2.2.1) ∧ zi_lok r = true ∧ zi_ok yX6_closed.cls (decide (yX6_closed.name = "<init>")) zi_ms r = true := by decide +kernel
set_option maxRecDepth 100000 in
theorem zv_zc_X6_closed_1 : ∀ r ∈ zc_X6_closed_1, decode cX6_closed r.1 = .ok (r.2.1, r.2.2.1) ∧ zi_lok r = true ∧ zi_ok yX6_closed.cls (decide (yX6_closed.name = "<init>")) zi_ms r = true := by decide +kernel
set_option maxRecDepth 100000 in
theorem zv_zc_X6_closed_2 : ∀ r ∈ zc_X6_closed_2, decode cX6_closed r.1 = .ok (r.2.1, r.2.2.1) ∧ zi_lok r = true ∧ zi_ok yX6_closed.cls (decide (yX6_closed.name = "<init>")) zi_ms r = true := by decide +kernel
set_option maxRecDepth 100000 in
theorem zm_198 : zi_mP (yX6_closed, cX6_closed, 5, (some FieldType.int), zc_X6_closed, 0, 0) := ⟨zi_tb_in (t := 1155) (by decide +kernel), zi_tb_in (t := 103) (by decide +kernel), by decide +kernel, ⟨by decide +kernel, by decide +kernel⟩, by decide +kernel, List.forall_mem_append.mpr ⟨zv_zc_X6_closed_0, List.forall_mem_append.mpr ⟨zv_zc_X6_closed_1, zv_zc_X6_closed_2⟩⟩⟩
set_option maxRecDepth 100000 in
theorem zv_zc_X6_isShown_0 : ∀ r ∈ zc_X6_isShown_0, decode cX6_isShown r.1 = .ok (r.2.1, r.2.2.1) ∧ zi_lok r = true ∧ zi_ok yX6_isShown.cls (decide (yX6_isShown.name = "<init>")) zi_ms r = true := by decide +kernel
set_option maxRecDepth 100000 in
theorem zm_199 : zi_mP (yX6_isShown, cX6_isShown, 2, (some FieldType.boolean), zc_X6_isShown, 0, 0) := ⟨zi_tb_in (t := 1175) (by decide +kernel), zi_tb_in (t := 103) (by decide +kernel), by decide +kernel, ⟨by decide +kernel, by decide +kernel⟩, by decide +kernel, zv_zc_X6_isShown_0⟩
set_option maxRecDepth 100000 in
theorem zv_zc_X6_common_0 : ∀ r ∈ zc_X6_common_0, decode cX6_common r.1 = .ok (r.2.1, r.2.2.1) ∧ zi_lok r = true ∧ zi_ok yX6_common.cls (decide (yX6_common.name = "<init>")) zi_ms r = true := by decide +kernel
set_option maxRecDepth 100000 in
theorem zm_200 : zi_mP (yX6_common, cX6_common, 6, (some FieldType.int), zc_X6_common, 0, 0) := ⟨zi_tb_in (t := 1182) (by decide +kernel), zi_tb_in (t := 103) (by decide +kernel), by decide +kernel, ⟨by decide +kernel, by decide +kernel⟩, by decide +kernel, zv_zc_X6_common_0⟩
