set_option maxRecDepth 100000 in
theorem zv_zc_X6_newNode_0 : ∀ r ∈ zc_X6_newNode_0, decode cX6_newNode r.1 = .ok (r.2.1, r.2.2.1) ∧ zi_lok r = true ∧ zi_ok yX6_newNode.cls (decide (yX6_newNode.name = "<init>")) zi_ms r = true := zq_fin zq_X6_ok (by decide +kernel)
set_option maxRecDepth 100000 in
theorem zm_169 : zi_mP (yX6_newNode, cX6_newNode, 4, (some FieldType.int), zc_X6_newNode, 0, 0) := ⟨zi_tb_rf (t := 1077) rfl (by decide +kernel), zi_tb_in (t := 103) (by decide +kernel), by decide +kernel, ⟨by decide +kernel, by decide +kernel⟩, by decide +kernel, zv_zc_X6_newNode_0⟩
set_option maxRecDepth 100000 in
theorem zv_zc_X6_newLeaf_0 : ∀ r ∈ zc_X6_newLeaf_0, decode cX6_newLeaf r.1 = .ok (r.2.1, r.2.2.1) ∧ zi_lok r = true ∧ zi_ok yX6_newLeaf.cls (decide (yX6_newLeaf.name = "<init>")) zi_ms r = true := zq_fin zq_X6_ok (by decide +kernel)
set_option maxRecDepth 100000 in
theorem zm_170 : zi_mP (yX6_newLeaf, cX6_newLeaf, 4, (some FieldType.int), zc_X6_newLeaf, 0, 0) := ⟨zi_tb_rf (t := 1073) rfl (by decide +kernel), zi_tb_in (t := 103) (by decide +kernel), by decide +kernel, ⟨by decide +kernel, by decide +kernel⟩, by decide +kernel, zv_zc_X6_newLeaf_0⟩
set_option maxRecDepth 100000 in
theorem zv_zc_X6_addTab_0 : ∀ r ∈ zc_X6_addTab_0, decode cX6_addTab r.1 = .ok (r.2.1, r.2.2.1) ∧ zi_lok r = true ∧ zi_ok yX6_addTab.cls (decide (yX6_addTab.name = "<init>")) zi_ms r = true := zq_fin zq_X6_ok (by decide +kernel)
set_option maxRecDepth 100000 in
theorem zm_171 : zi_mP (yX6_addTab, cX6_addTab, 4, none, zc_X6_addTab, 0, 0) := ⟨zi_tb_rf (t := 1081) rfl (by decide +kernel), zi_tb_in (t := 103) (by decide +kernel), by decide +kernel, ⟨by decide +kernel, by decide +kernel⟩, by decide +kernel, zv_zc_X6_addTab_0⟩
set_option maxRecDepth 100000 in
theorem zv_zc_X6_placeOfTab_0 : ∀ r ∈ zc_X6_placeOfTab_0, decode cX6_placeOfTab r.1 = .ok (r.2.1, r.2.2.1) ∧ zi_lok r = true ∧ zi_ok yX6_placeOfTab.cls (decide (yX6_placeOfTab.name = "<init>")) zi_ms r = true := zq_fin zq_X6_ok (by decide +kernel)
set_option maxRecDepth 100000 in
theorem zm_172 : zi_mP (yX6_placeOfTab, cX6_placeOfTab, 5, (some FieldType.int), zc_X6_placeOfTab, 0, 0) := ⟨zi_tb_rf (t := 1037) rfl (by decide +kernel), zi_tb_in (t := 103) (by decide +kernel), by decide +kernel, ⟨by decide +kernel, by decide +kernel⟩, by decide +kernel, zv_zc_X6_placeOfTab_0⟩
set_option maxRecDepth 100000 in
theorem zv_zc_X6_leafOf_0 : ∀ r ∈ zc_X6_leafOf_0, decode cX6_leafOf r.1 = .ok (r.2.1, r.2.2.1) ∧ zi_lok r = true ∧ zi_ok yX6_leafOf.cls (decide (yX6_leafOf.name = "<init>")) zi_ms r = true := zq_fin zq_X6_ok (by decide +kernel)
set_option maxRecDepth 100000 in
theorem zm_173 : zi_mP (yX6_leafOf, cX6_leafOf, 4, (some FieldType.int), zc_X6_leafOf, 0, 0) := ⟨zi_tb_rf (t := 1033) rfl (by decide +kernel), zi_tb_in (t := 103) (by decide +kernel), by decide +kernel, ⟨by decide +kernel, by decide +kernel⟩, by decide +kernel, zv_zc_X6_leafOf_0⟩
set_option maxRecDepth 100000 in
theorem zv_zc_X6_above_0 : ∀ r ∈ zc_X6_above_0, decode cX6_above r.1 = .ok (r.2.1, r.2.2.1) ∧ zi_lok r = true ∧ zi_ok yX6_above.cls (decide (yX6_above.name = "<init>")) zi_ms r = true := zq_fin zq_X6_ok (by decide +kernel)
set_option maxRecDepth 100000 in
theorem zm_174 : zi_mP (yX6_above, cX6_above, 4, (some FieldType.int), zc_X6_above, 0, 0) := ⟨zi_tb_rf (t := 1041) rfl (by decide +kernel), zi_tb_in (t := 103) (by decide +kernel), by decide +kernel, ⟨by decide +kernel, by decide +kernel⟩, by decide +kernel, zv_zc_X6_above_0⟩
set_option maxRecDepth 100000 in
theorem zv_zc_X6_stand_0 : ∀ r ∈ zc_X6_stand_0, decode cX6_stand r.1 = .ok (r.2.1, r.2.2.1) ∧ zi_lok r = true ∧ zi_ok yX6_stand.cls (decide (yX6_stand.name = "<init>")) zi_ms r = true := zq_fin zq_X6_ok (by decide +kernel)
set_option maxRecDepth 100000 in
theorem zm_175 : zi_mP (yX6_stand, cX6_stand, 5, none, zc_X6_stand, 0, 0) := ⟨zi_tb_rf (t := 1045) rfl (by decide +kernel), zi_tb_in (t := 103) (by decide +kernel), by decide +kernel, ⟨by decide +kernel, by decide +kernel⟩, by decide +kernel, zv_zc_X6_stand_0⟩
set_option maxRecDepth 100000 in
theorem zv_zc_X6_leave_0 : ∀ r ∈ zc_X6_leave_0, decode cX6_leave r.1 = .ok (r.2.1, r.2.2.1) ∧ zi_lok r = true ∧ zi_ok yX6_leave.cls (decide (yX6_leave.name = "<init>")) zi_ms r = true := zq_fin zq_X6_ok (by decide +kernel)
set_option maxRecDepth 100000 in
theorem zv_zc_X6_leave_1 : ∀ r ∈ zc_X6_leave_1, decode cX6_leave r.1 = .ok (r.2.1, r.2.2.1) ∧ zi_lok r = true ∧ zi_ok yX6_leave.cls (decide (yX6_leave.name = "<init>")) zi_ms r = true := zq_fin zq_X6_ok (by decide +kernel)
set_option maxRecDepth 100000 in
theorem zv_zc_X6_leave_2 : ∀ r ∈ zc_X6_leave_2, decode cX6_leave r.1 = .ok (r.2.1, r.2.2.1) ∧ zi_lok r = true ∧ zi_ok yX6_leave.cls (decide (yX6_leave.name = "<init>")) zi_ms r = true := zq_fin zq_X6_ok (by decide +kernel)
set_option maxRecDepth 100000 in
theorem zv_zc_X6_leave_3 : ∀ r ∈ zc_X6_leave_3, decode cX6_leave r.1 = .ok (r.2.1, r.2.2.1) ∧ zi_lok r = true ∧ zi_ok yX6_leave.cls (decide (yX6_leave.name = "<init>")) zi_ms r = true := zq_fin zq_X6_ok (by decide +kernel)
set_option maxRecDepth 100000 in
theorem zm_176 : zi_mP (yX6_leave, cX6_leave, 9, none, zc_X6_leave, 0, 0) := ⟨zi_tb_rf (t := 1029) rfl (by decide +kernel), zi_tb_in (t := 103) (by decide +kernel), by decide +kernel, ⟨by decide +kernel, by decide +kernel⟩, by decide +kernel, List.forall_mem_append.mpr ⟨zv_zc_X6_leave_0, List.forall_mem_append.mpr ⟨zv_zc_X6_leave_1, List.forall_mem_append.mpr ⟨zv_zc_X6_leave_2, zv_zc_X6_leave_3⟩⟩⟩⟩
set_option maxRecDepth 100000 in
theorem zv_zc_X6_cutLeaf_0 : ∀ r ∈ zc_X6_cutLeaf_0, decode cX6_cutLeaf r.1 = .ok (r.2.1, r.2.2.1) ∧ zi_lok r = true ∧ zi_ok yX6_cutLeaf.cls (decide (yX6_cutLeaf.name = "<init>")) zi_ms r = true := zq_fin zq_X6_ok (by decide +kernel)
set_option maxRecDepth 100000 in
theorem zv_zc_X6_cutLeaf_1 : ∀ r ∈ zc_X6_cutLeaf_1, decode cX6_cutLeaf r.1 = .ok (r.2.1, r.2.2.1) ∧ zi_lok r = true ∧ zi_ok yX6_cutLeaf.cls (decide (yX6_cutLeaf.name = "<init>")) zi_ms r = true := zq_fin zq_X6_ok (by decide +kernel)
set_option maxRecDepth 100000 in
theorem zm_177 : zi_mP (yX6_cutLeaf, cX6_cutLeaf, 9, none, zc_X6_cutLeaf, 0, 0) := ⟨zi_tb_rf (t := 1118) rfl (by decide +kernel), zi_tb_in (t := 103) (by decide +kernel), by decide +kernel, ⟨by decide +kernel, by decide +kernel⟩, by decide +kernel, List.forall_mem_append.mpr ⟨zv_zc_X6_cutLeaf_0, zv_zc_X6_cutLeaf_1⟩⟩
set_option maxRecDepth 100000 in
theorem zv_zc_X6_least_0 : ∀ r ∈ zc_X6_least_0, decode cX6_least r.1 = .ok (r.2.1, r.2.2.1) ∧ zi_lok r = true ∧ zi_ok yX6_least.cls (decide (yX6_least.name = "<init>")) zi_ms r = true := zq_fin zq_X6_ok (by decide +kernel)
set_option maxRecDepth 100000 in
theorem zv_zc_X6_least_1 : ∀ r ∈ zc_X6_least_1, decode cX6_least r.1 = .ok (r.2.1, r.2.2.1) ∧ zi_lok r = true ∧ zi_ok yX6_least.cls (decide (yX6_least.name = "<init>")) zi_ms r = true := zq_fin zq_X6_ok (by decide +kernel)
set_option maxRecDepth 100000 in
theorem zv_zc_X6_least_2 : ∀ r ∈ zc_X6_least_2, decode cX6_least r.1 = .ok (r.2.1, r.2.2.1) ∧ zi_lok r = true ∧ zi_ok yX6_least.cls (decide (yX6_least.name = "<init>")) zi_ms r = true := zq_fin zq_X6_ok (by decide +kernel)
set_option maxRecDepth 100000 in
theorem zm_178 : zi_mP (yX6_least, cX6_least, 8, (some FieldType.int), zc_X6_least, 0, 0) := ⟨zi_tb_rf (t := 1009) rfl (by decide +kernel), zi_tb_in (t := 103) (by decide +kernel), by decide +kernel, ⟨by decide +kernel, by decide +kernel⟩, by decide +kernel, List.forall_mem_append.mpr ⟨zv_zc_X6_least_0, List.forall_mem_append.mpr ⟨zv_zc_X6_least_1, zv_zc_X6_least_2⟩⟩⟩
set_option maxRecDepth 100000 in
theorem zv_zc_X6_fits_0 : ∀ r ∈ zc_X6_fits_0, decode cX6_fits r.1 = .ok (r.2.1, r.2.2.1) ∧ zi_lok r = true ∧ zi_ok yX6_fits.cls (decide (yX6_fits.name = "<init>")) zi_ms r = true := zq_fin zq_X6_ok (by decide +kernel)
set_option maxRecDepth 100000 in
theorem zm_179 : zi_mP (yX6_fits, cX6_fits, 4, (some FieldType.boolean), zc_X6_fits, 0, 0) := ⟨zi_tb_rf (t := 1005) rfl (by decide +kernel), zi_tb_in (t := 103) (by decide +kernel), by decide +kernel, ⟨by decide +kernel, by decide +kernel⟩, by decide +kernel, zv_zc_X6_fits_0⟩
set_option maxRecDepth 100000 in
theorem zv_zc_X6_lay_0 : ∀ r ∈ zc_X6_lay_0, decode cX6_lay r.1 = .ok (r.2.1, r.2.2.1) ∧ zi_lok r = true ∧ zi_ok yX6_lay.cls (decide (yX6_lay.name = "<init>")) zi_ms r = true := zq_fin zq_X6_ok (by decide +kernel)
set_option maxRecDepth 100000 in
theorem zv_zc_X6_lay_1 : ∀ r ∈ zc_X6_lay_1, decode cX6_lay r.1 = .ok (r.2.1, r.2.2.1) ∧ zi_lok r = true ∧ zi_ok yX6_lay.cls (decide (yX6_lay.name = "<init>")) zi_ms r = true := zq_fin zq_X6_ok (by decide +kernel)
set_option maxRecDepth 100000 in
theorem zv_zc_X6_lay_2 : ∀ r ∈ zc_X6_lay_2, decode cX6_lay r.1 = .ok (r.2.1, r.2.2.1) ∧ zi_lok r = true ∧ zi_ok yX6_lay.cls (decide (yX6_lay.name = "<init>")) zi_ms r = true := zq_fin zq_X6_ok (by decide +kernel)
set_option maxRecDepth 100000 in
theorem zv_zc_X6_lay_3 : ∀ r ∈ zc_X6_lay_3, decode cX6_lay r.1 = .ok (r.2.1, r.2.2.1) ∧ zi_lok r = true ∧ zi_ok yX6_lay.cls (decide (yX6_lay.name = "<init>")) zi_ms r = true := zq_fin zq_X6_ok (by decide +kernel)
set_option maxRecDepth 100000 in
theorem zm_180 : zi_mP (yX6_lay, cX6_lay, 13, none, zc_X6_lay, 0, 0) := ⟨zi_tb_rf (t := 1114) rfl (by decide +kernel), zi_tb_in (t := 103) (by decide +kernel), by decide +kernel, ⟨by decide +kernel, by decide +kernel⟩, by decide +kernel, List.forall_mem_append.mpr ⟨zv_zc_X6_lay_0, List.forall_mem_append.mpr ⟨zv_zc_X6_lay_1, List.forall_mem_append.mpr ⟨zv_zc_X6_lay_2, zv_zc_X6_lay_3⟩⟩⟩⟩
set_option maxRecDepth 100000 in
theorem zv_zc_X6_layAll_0 : ∀ r ∈ zc_X6_layAll_0, decode cX6_layAll r.1 = .ok (r.2.1, r.2.2.1) ∧ zi_lok r = true ∧ zi_ok yX6_layAll.cls (decide (yX6_layAll.name = "<init>")) zi_ms r = true := zq_fin zq_X6_ok (by decide +kernel)
set_option maxRecDepth 100000 in
theorem zm_181 : zi_mP (yX6_layAll, cX6_layAll, 2, none, zc_X6_layAll, 0, 0) := ⟨zi_tb_rf (t := 1110) rfl (by decide +kernel), zi_tb_in (t := 103) (by decide +kernel), by decide +kernel, ⟨by decide +kernel, by decide +kernel⟩, by decide +kernel, zv_zc_X6_layAll_0⟩
set_option maxRecDepth 100000 in
theorem zv_zc_X6_canBeWhole_0 : ∀ r ∈ zc_X6_canBeWhole_0, decode cX6_canBeWhole r.1 = .ok (r.2.1, r.2.2.1) ∧ zi_lok r = true ∧ zi_ok yX6_canBeWhole.cls (decide (yX6_canBeWhole.name = "<init>")) zi_ms r = true := zq_fin zq_X6_ok (by decide +kernel)
set_option maxRecDepth 100000 in
theorem zm_182 : zi_mP (yX6_canBeWhole, cX6_canBeWhole, 4, (some FieldType.boolean), zc_X6_canBeWhole, 0, 0) := ⟨zi_tb_rf (t := 1013) rfl (by decide +kernel), zi_tb_in (t := 103) (by decide +kernel), by decide +kernel, ⟨by decide +kernel, by decide +kernel⟩, by decide +kernel, zv_zc_X6_canBeWhole_0⟩
set_option maxRecDepth 100000 in
theorem zv_zc_X6_putAt_0 : ∀ r ∈ zc_X6_putAt_0, decode cX6_putAt r.1 = .ok (r.2.1, r.2.2.1) ∧ zi_lok r = true ∧ zi_ok yX6_putAt.cls (decide (yX6_putAt.name = "<init>")) zi_ms r = true := zq_fin zq_X6_ok (by decide +kernel)
set_option maxRecDepth 100000 in
theorem zm_183 : zi_mP (yX6_putAt, cX6_putAt, 5, none, zc_X6_putAt, 0, 0) := ⟨zi_tb_rf (t := 1053) rfl (by decide +kernel), zi_tb_in (t := 103) (by decide +kernel), by decide +kernel, ⟨by decide +kernel, by decide +kernel⟩, by decide +kernel, zv_zc_X6_putAt_0⟩
set_option maxRecDepth 100000 in
theorem zv_zc_X6_isOnScreen_0 : ∀ r ∈ zc_X6_isOnScreen_0, decode cX6_isOnScreen r.1 = .ok (r.2.1, r.2.2.1) ∧ zi_lok r = true ∧ zi_ok yX6_isOnScreen.cls (decide (yX6_isOnScreen.name = "<init>")) zi_ms r = true := zq_fin zq_X6_ok (by decide +kernel)
set_option maxRecDepth 100000 in
theorem zm_184 : zi_mP (yX6_isOnScreen, cX6_isOnScreen, 3, (some FieldType.boolean), zc_X6_isOnScreen, 0, 0) := ⟨zi_tb_rf (t := 1060) rfl (by decide +kernel), zi_tb_in (t := 103) (by decide +kernel), by decide +kernel, ⟨by decide +kernel, by decide +kernel⟩, by decide +kernel, zv_zc_X6_isOnScreen_0⟩
set_option maxRecDepth 100000 in
theorem zv_zc_X6_unstack_0 : ∀ r ∈ zc_X6_unstack_0, decode cX6_unstack r.1 = .ok (r.2.1, r.2.2.1) ∧ zi_lok r = true ∧ zi_ok yX6_unstack.cls (decide (yX6_unstack.name = "<init>")) zi_ms r = true := zq_fin zq_X6_ok (by decide +kernel)
set_option maxRecDepth 100000 in
theorem zm_185 : zi_mP (yX6_unstack, cX6_unstack, 4, none, zc_X6_unstack, 0, 0) := ⟨zi_tb_rf (t := 1146) rfl (by decide +kernel), zi_tb_in (t := 103) (by decide +kernel), by decide +kernel, ⟨by decide +kernel, by decide +kernel⟩, by decide +kernel, zv_zc_X6_unstack_0⟩
set_option maxRecDepth 100000 in
theorem zv_zc_X6_raise_0 : ∀ r ∈ zc_X6_raise_0, decode cX6_raise r.1 = .ok (r.2.1, r.2.2.1) ∧ zi_lok r = true ∧ zi_ok yX6_raise.cls (decide (yX6_raise.name = "<init>")) zi_ms r = true := zq_fin zq_X6_ok (by decide +kernel)
set_option maxRecDepth 100000 in
theorem zv_zc_X6_raise_1 : ∀ r ∈ zc_X6_raise_1, decode cX6_raise r.1 = .ok (r.2.1, r.2.2.1) ∧ zi_lok r = true ∧ zi_ok yX6_raise.cls (decide (yX6_raise.name = "<init>")) zi_ms r = true := zq_fin zq_X6_ok (by decide +kernel)
set_option maxRecDepth 100000 in
theorem zm_186 : zi_mP (yX6_raise, cX6_raise, 6, none, zc_X6_raise, 0, 0) := ⟨zi_tb_rf (t := 1142) rfl (by decide +kernel), zi_tb_in (t := 103) (by decide +kernel), by decide +kernel, ⟨by decide +kernel, by decide +kernel⟩, by decide +kernel, List.forall_mem_append.mpr ⟨zv_zc_X6_raise_0, zv_zc_X6_raise_1⟩⟩
set_option maxRecDepth 100000 in
theorem zv_zc_X6_front_0 : ∀ r ∈ zc_X6_front_0, decode cX6_front r.1 = .ok (r.2.1, r.2.2.1) ∧ zi_lok r = true ∧ zi_ok yX6_front.cls (decide (yX6_front.name = "<init>")) zi_ms r = true := zq_fin zq_X6_ok (by decide +kernel)
set_option maxRecDepth 100000 in
theorem zm_187 : zi_mP (yX6_front, cX6_front, 5, none, zc_X6_front, 0, 0) := ⟨zi_tb_rf (t := 1138) rfl (by decide +kernel), zi_tb_in (t := 103) (by decide +kernel), by decide +kernel, ⟨by decide +kernel, by decide +kernel⟩, by decide +kernel, zv_zc_X6_front_0⟩
set_option maxRecDepth 100000 in
theorem zv_zc_X6_focused_0 : ∀ r ∈ zc_X6_focused_0, decode cX6_focused r.1 = .ok (r.2.1, r.2.2.1) ∧ zi_lok r = true ∧ zi_ok yX6_focused.cls (decide (yX6_focused.name = "<init>")) zi_ms r = true := zq_fin zq_X6_ok (by decide +kernel)
set_option maxRecDepth 100000 in
theorem zm_188 : zi_mP (yX6_focused, cX6_focused, 2, none, zc_X6_focused, 0, 0) := ⟨zi_tb_rf (t := 1134) rfl (by decide +kernel), zi_tb_in (t := 103) (by decide +kernel), by decide +kernel, ⟨by decide +kernel, by decide +kernel⟩, by decide +kernel, zv_zc_X6_focused_0⟩
set_option maxRecDepth 100000 in
theorem zv_zc_X6_forget_0 : ∀ r ∈ zc_X6_forget_0, decode cX6_forget r.1 = .ok (r.2.1, r.2.2.1) ∧ zi_lok r = true ∧ zi_ok yX6_forget.cls (decide (yX6_forget.name = "<init>")) zi_ms r = true := zq_fin zq_X6_ok (by decide +kernel)
set_option maxRecDepth 100000 in
theorem zm_189 : zi_mP (yX6_forget, cX6_forget, 3, none, zc_X6_forget, 0, 0) := ⟨zi_tb_rf (t := 1159) rfl (by decide +kernel), zi_tb_in (t := 103) (by decide +kernel), by decide +kernel, ⟨by decide +kernel, by decide +kernel⟩, by decide +kernel, zv_zc_X6_forget_0⟩
set_option maxRecDepth 100000 in
theorem zv_zc_X6_spread_0 : ∀ r ∈ zc_X6_spread_0, decode cX6_spread r.1 = .ok (r.2.1, r.2.2.1) ∧ zi_lok r = true ∧ zi_ok yX6_spread.cls (decide (yX6_spread.name = "<init>")) zi_ms r = true := zq_fin zq_X6_ok (by decide +kernel)
set_option maxRecDepth 100000 in
theorem zv_zc_X6_spread_1 : ∀ r ∈ zc_X6_spread_1, decode cX6_spread r.1 = .ok (r.2.1, r.2.2.1) ∧ zi_lok r = true ∧ zi_ok yX6_spread.cls (decide (yX6_spread.name = "<init>")) zi_ms r = true := zq_fin zq_X6_ok (by decide +kernel)
set_option maxRecDepth 100000 in
theorem zm_190 : zi_mP (yX6_spread, cX6_spread, 3, none, zc_X6_spread, 0, 0) := ⟨zi_tb_rf (t := 1001) rfl (by decide +kernel), zi_tb_in (t := 103) (by decide +kernel), by decide +kernel, ⟨by decide +kernel, by decide +kernel⟩, by decide +kernel, List.forall_mem_append.mpr ⟨zv_zc_X6_spread_0, zv_zc_X6_spread_1⟩⟩
set_option maxRecDepth 100000 in
theorem zv_zc_X6_comesBack_0 : ∀ r ∈ zc_X6_comesBack_0, decode cX6_comesBack r.1 = .ok (r.2.1, r.2.2.1) ∧ zi_lok r = true ∧ zi_ok yX6_comesBack.cls (decide (yX6_comesBack.name = "<init>")) zi_ms r = true := zq_fin zq_X6_ok (by decide +kernel)
set_option maxRecDepth 100000 in
theorem zv_zc_X6_comesBack_1 : ∀ r ∈ zc_X6_comesBack_1, decode cX6_comesBack r.1 = .ok (r.2.1, r.2.2.1) ∧ zi_lok r = true ∧ zi_ok yX6_comesBack.cls (decide (yX6_comesBack.name = "<init>")) zi_ms r = true := zq_fin zq_X6_ok (by decide +kernel)
set_option maxRecDepth 100000 in
theorem zm_191 : zi_mP (yX6_comesBack, cX6_comesBack, 4, (some FieldType.boolean), zc_X6_comesBack, 0, 0) := ⟨zi_tb_rf (t := 997) rfl (by decide +kernel), zi_tb_in (t := 103) (by decide +kernel), by decide +kernel, ⟨by decide +kernel, by decide +kernel⟩, by decide +kernel, List.forall_mem_append.mpr ⟨zv_zc_X6_comesBack_0, zv_zc_X6_comesBack_1⟩⟩
set_option maxRecDepth 100000 in
theorem zv_zc_X6_bring_0 : ∀ r ∈ zc_X6_bring_0, decode cX6_bring r.1 = .ok (r.2.1, r.2.2.1) ∧ zi_lok r = true ∧ zi_ok yX6_bring.cls (decide (yX6_bring.name = "<init>")) zi_ms r = true := zq_fin zq_X6_ok (by decide +kernel)
set_option maxRecDepth 100000 in
theorem zv_zc_X6_bring_1 : ∀ r ∈ zc_X6_bring_1, decode cX6_bring r.1 = .ok (r.2.1, r.2.2.1) ∧ zi_lok r = true ∧ zi_ok yX6_bring.cls (decide (yX6_bring.name = "<init>")) zi_ms r = true := zq_fin zq_X6_ok (by decide +kernel)
set_option maxRecDepth 100000 in
theorem zv_zc_X6_bring_2 : ∀ r ∈ zc_X6_bring_2, decode cX6_bring r.1 = .ok (r.2.1, r.2.2.1) ∧ zi_lok r = true ∧ zi_ok yX6_bring.cls (decide (yX6_bring.name = "<init>")) zi_ms r = true := zq_fin zq_X6_ok (by decide +kernel)
set_option maxRecDepth 100000 in
theorem zv_zc_X6_bring_3 : ∀ r ∈ zc_X6_bring_3, decode cX6_bring r.1 = .ok (r.2.1, r.2.2.1) ∧ zi_lok r = true ∧ zi_ok yX6_bring.cls (decide (yX6_bring.name = "<init>")) zi_ms r = true := zq_fin zq_X6_ok (by decide +kernel)
set_option maxRecDepth 100000 in
theorem zm_192 : zi_mP (yX6_bring, cX6_bring, 7, (some FieldType.int), zc_X6_bring, 0, 0) := ⟨zi_tb_rf (t := 1017) rfl (by decide +kernel), zi_tb_in (t := 103) (by decide +kernel), by decide +kernel, ⟨by decide +kernel, by decide +kernel⟩, by decide +kernel, List.forall_mem_append.mpr ⟨zv_zc_X6_bring_0, List.forall_mem_append.mpr ⟨zv_zc_X6_bring_1, List.forall_mem_append.mpr ⟨zv_zc_X6_bring_2, zv_zc_X6_bring_3⟩⟩⟩⟩
set_option maxRecDepth 100000 in
theorem zv_zc_X6_clearLeaves_0 : ∀ r ∈ zc_X6_clearLeaves_0, decode cX6_clearLeaves r.1 = .ok (r.2.1, r.2.2.1) ∧ zi_lok r = true ∧ zi_ok yX6_clearLeaves.cls (decide (yX6_clearLeaves.name = "<init>")) zi_ms r = true := zq_fin zq_X6_ok (by decide +kernel)
set_option maxRecDepth 100000 in
theorem zm_193 : zi_mP (yX6_clearLeaves, cX6_clearLeaves, 2, none, zc_X6_clearLeaves, 0, 0) := ⟨zi_tb_rf (t := 1021) rfl (by decide +kernel), zi_tb_in (t := 103) (by decide +kernel), by decide +kernel, ⟨by decide +kernel, by decide +kernel⟩, by decide +kernel, zv_zc_X6_clearLeaves_0⟩
set_option maxRecDepth 100000 in
theorem zv_zc_X6_findLeaves_0 : ∀ r ∈ zc_X6_findLeaves_0, decode cX6_findLeaves r.1 = .ok (r.2.1, r.2.2.1) ∧ zi_lok r = true ∧ zi_ok yX6_findLeaves.cls (decide (yX6_findLeaves.name = "<init>")) zi_ms r = true := zq_fin zq_X6_ok (by decide +kernel)
set_option maxRecDepth 100000 in
theorem zm_194 : zi_mP (yX6_findLeaves, cX6_findLeaves, 3, none, zc_X6_findLeaves, 0, 0) := ⟨zi_tb_rf (t := 1025) rfl (by decide +kernel), zi_tb_in (t := 103) (by decide +kernel), by decide +kernel, ⟨by decide +kernel, by decide +kernel⟩, by decide +kernel, zv_zc_X6_findLeaves_0⟩
set_option maxRecDepth 100000 in
theorem zv_zc_X6_moveTabs_0 : ∀ r ∈ zc_X6_moveTabs_0, decode cX6_moveTabs r.1 = .ok (r.2.1, r.2.2.1) ∧ zi_lok r = true ∧ zi_ok yX6_moveTabs.cls (decide (yX6_moveTabs.name = "<init>")) zi_ms r = true := zq_fin zq_X6_ok (by decide +kernel)
set_option maxRecDepth 100000 in
theorem zv_zc_X6_moveTabs_1 : ∀ r ∈ zc_X6_moveTabs_1, decode cX6_moveTabs r.1 = .ok (r.2.1, r.2.2.1) ∧ zi_lok r = true ∧ zi_ok yX6_moveTabs.cls (decide (yX6_moveTabs.name = "<init>")) zi_ms r = true := zq_fin zq_X6_ok (by decide +kernel)
set_option maxRecDepth 100000 in
theorem zm_195 : zi_mP (yX6_moveTabs, cX6_moveTabs, 9, (some FieldType.int), zc_X6_moveTabs, 0, 0) := ⟨zi_tb_rf (t := 1069) rfl (by decide +kernel), zi_tb_in (t := 103) (by decide +kernel), by decide +kernel, ⟨by decide +kernel, by decide +kernel⟩, by decide +kernel, List.forall_mem_append.mpr ⟨zv_zc_X6_moveTabs_0, zv_zc_X6_moveTabs_1⟩⟩
set_option maxRecDepth 100000 in
theorem zv_zc_X6_tile_0 : ∀ r ∈ zc_X6_tile_0, decode cX6_tile r.1 = .ok (r.2.1, r.2.2.1) ∧ zi_lok r = true ∧ zi_ok yX6_tile.cls (decide (yX6_tile.name = "<init>")) zi_ms r = true := zq_fin zq_X6_ok (by decide +kernel)
set_option maxRecDepth 100000 in
theorem zv_zc_X6_tile_1 : ∀ r ∈ zc_X6_tile_1, decode cX6_tile r.1 = .ok (r.2.1, r.2.2.1) ∧ zi_lok r = true ∧ zi_ok yX6_tile.cls (decide (yX6_tile.name = "<init>")) zi_ms r = true := zq_fin zq_X6_ok (by decide +kernel)
set_option maxRecDepth 100000 in
theorem zv_zc_X6_tile_2 : ∀ r ∈ zc_X6_tile_2, decode cX6_tile r.1 = .ok (r.2.1, r.2.2.1) ∧ zi_lok r = true ∧ zi_ok yX6_tile.cls (decide (yX6_tile.name = "<init>")) zi_ms r = true := zq_fin zq_X6_ok (by decide +kernel)
set_option maxRecDepth 100000 in
theorem zm_196 : zi_mP (yX6_tile, cX6_tile, 6, (some FieldType.boolean), zc_X6_tile, 0, 0) := ⟨zi_tb_rf (t := 1102) rfl (by decide +kernel), zi_tb_in (t := 103) (by decide +kernel), by decide +kernel, ⟨by decide +kernel, by decide +kernel⟩, by decide +kernel, List.forall_mem_append.mpr ⟨zv_zc_X6_tile_0, List.forall_mem_append.mpr ⟨zv_zc_X6_tile_1, zv_zc_X6_tile_2⟩⟩⟩
set_option maxRecDepth 100000 in
theorem zv_zc_X6_takesTrial_0 : ∀ r ∈ zc_X6_takesTrial_0, decode cX6_takesTrial r.1 = .ok (r.2.1, r.2.2.1) ∧ zi_lok r = true ∧ zi_ok yX6_takesTrial.cls (decide (yX6_takesTrial.name = "<init>")) zi_ms r = true := zq_fin zq_X6_ok (by decide +kernel)
set_option maxRecDepth 100000 in
theorem zm_197 : zi_mP (yX6_takesTrial, cX6_takesTrial, 2, (some FieldType.boolean), zc_X6_takesTrial, 0, 0) := ⟨zi_tb_rf (t := 1106) rfl (by decide +kernel), zi_tb_in (t := 103) (by decide +kernel), by decide +kernel, ⟨by decide +kernel, by decide +kernel⟩, by decide +kernel, zv_zc_X6_takesTrial_0⟩
set_option maxRecDepth 100000 in
theorem zv_zc_X6_closed_0 : ∀ r ∈ zc_X6_closed_0, decode cX6_closed r.1 = .ok (r.2.1, r.2.2.1) ∧ zi_lok r = true ∧ zi_ok yX6_closed.cls (decide (yX6_closed.name = "<init>")) zi_ms r = true := zq_fin zq_X6_ok (by decide +kernel)
set_option maxRecDepth 100000 in
theorem zv_zc_X6_closed_1 : ∀ r ∈ zc_X6_closed_1, decode cX6_closed r.1 = .ok (r.2.1, r.2.2.1) ∧ zi_lok r = true ∧ zi_ok yX6_closed.cls (decide (yX6_closed.name = "<init>")) zi_ms r = true := zq_fin zq_X6_ok (by decide +kernel)
set_option maxRecDepth 100000 in
theorem zv_zc_X6_closed_2 : ∀ r ∈ zc_X6_closed_2, decode cX6_closed r.1 = .ok (r.2.1, r.2.2.1) ∧ zi_lok r = true ∧ zi_ok yX6_closed.cls (decide (yX6_closed.name = "<init>")) zi_ms r = true := zq_fin zq_X6_ok (by decide +kernel)
set_option maxRecDepth 100000 in
theorem zm_198 : zi_mP (yX6_closed, cX6_closed, 5, (some FieldType.int), zc_X6_closed, 0, 0) := ⟨zi_tb_rf (t := 1155) rfl (by decide +kernel), zi_tb_in (t := 103) (by decide +kernel), by decide +kernel, ⟨by decide +kernel, by decide +kernel⟩, by decide +kernel, List.forall_mem_append.mpr ⟨zv_zc_X6_closed_0, List.forall_mem_append.mpr ⟨zv_zc_X6_closed_1, zv_zc_X6_closed_2⟩⟩⟩
set_option maxRecDepth 100000 in
theorem zv_zc_X6_isShown_0 : ∀ r ∈ zc_X6_isShown_0, decode cX6_isShown r.1 = .ok (r.2.1, r.2.2.1) ∧ zi_lok r = true ∧ zi_ok yX6_isShown.cls (decide (yX6_isShown.name = "<init>")) zi_ms r = true := zq_fin zq_X6_ok (by decide +kernel)
set_option maxRecDepth 100000 in
theorem zm_199 : zi_mP (yX6_isShown, cX6_isShown, 2, (some FieldType.boolean), zc_X6_isShown, 0, 0) := ⟨zi_tb_rf (t := 1175) rfl (by decide +kernel), zi_tb_in (t := 103) (by decide +kernel), by decide +kernel, ⟨by decide +kernel, by decide +kernel⟩, by decide +kernel, zv_zc_X6_isShown_0⟩
set_option maxRecDepth 100000 in
theorem zv_zc_X6_common_0 : ∀ r ∈ zc_X6_common_0, decode cX6_common r.1 = .ok (r.2.1, r.2.2.1) ∧ zi_lok r = true ∧ zi_ok yX6_common.cls (decide (yX6_common.name = "<init>")) zi_ms r = true := zq_fin zq_X6_ok (by decide +kernel)
set_option maxRecDepth 100000 in
theorem zm_200 : zi_mP (yX6_common, cX6_common, 6, (some FieldType.int), zc_X6_common, 0, 0) := ⟨zi_tb_rf (t := 1182) rfl (by decide +kernel), zi_tb_in (t := 103) (by decide +kernel), by decide +kernel, ⟨by decide +kernel, by decide +kernel⟩, by decide +kernel, zv_zc_X6_common_0⟩
set_option maxRecDepth 100000 in
theorem zv_zc_X6_neighbourOf_0 : ∀ r ∈ zc_X6_neighbourOf_0, decode cX6_neighbourOf r.1 = .ok (r.2.1, r.2.2.1) ∧ zi_lok r = true ∧ zi_ok yX6_neighbourOf.cls (decide (yX6_neighbourOf.name = "<init>")) zi_ms r = true := zq_fin zq_X6_ok (by decide +kernel)
set_option maxRecDepth 100000 in
theorem zv_zc_X6_neighbourOf_1 : ∀ r ∈ zc_X6_neighbourOf_1, decode cX6_neighbourOf r.1 = .ok (r.2.1, r.2.2.1) ∧ zi_lok r = true ∧ zi_ok yX6_neighbourOf.cls (decide (yX6_neighbourOf.name = "<init>")) zi_ms r = true := zq_fin zq_X6_ok (by decide +kernel)
set_option maxRecDepth 100000 in
theorem zv_zc_X6_neighbourOf_2 : ∀ r ∈ zc_X6_neighbourOf_2, decode cX6_neighbourOf r.1 = .ok (r.2.1, r.2.2.1) ∧ zi_lok r = true ∧ zi_ok yX6_neighbourOf.cls (decide (yX6_neighbourOf.name = "<init>")) zi_ms r = true := zq_fin zq_X6_ok (by decide +kernel)
set_option maxRecDepth 100000 in
theorem zv_zc_X6_neighbourOf_3 : ∀ r ∈ zc_X6_neighbourOf_3, decode cX6_neighbourOf r.1 = .ok (r.2.1, r.2.2.1) ∧ zi_lok r = true ∧ zi_ok yX6_neighbourOf.cls (decide (yX6_neighbourOf.name = "<init>")) zi_ms r = true := zq_fin zq_X6_ok (by decide +kernel)
set_option maxRecDepth 100000 in
theorem zv_zc_X6_neighbourOf_4 : ∀ r ∈ zc_X6_neighbourOf_4, decode cX6_neighbourOf r.1 = .ok (r.2.1, r.2.2.1) ∧ zi_lok r = true ∧ zi_ok yX6_neighbourOf.cls (decide (yX6_neighbourOf.name = "<init>")) zi_ms r = true := zq_fin zq_X6_ok (by decide +kernel)
set_option maxRecDepth 100000 in
theorem zm_201 : zi_mP (yX6_neighbourOf, cX6_neighbourOf, 11, (some FieldType.int), zc_X6_neighbourOf, 0, 0) := ⟨zi_tb_rf (t := 1179) rfl (by decide +kernel), zi_tb_in (t := 103) (by decide +kernel), by decide +kernel, ⟨by decide +kernel, by decide +kernel⟩, by decide +kernel, List.forall_mem_append.mpr ⟨zv_zc_X6_neighbourOf_0, List.forall_mem_append.mpr ⟨zv_zc_X6_neighbourOf_1, List.forall_mem_append.mpr ⟨zv_zc_X6_neighbourOf_2, List.forall_mem_append.mpr ⟨zv_zc_X6_neighbourOf_3, zv_zc_X6_neighbourOf_4⟩⟩⟩⟩⟩
set_option maxRecDepth 100000 in
theorem zv_zc_X6_areaOf_0 : ∀ r ∈ zc_X6_areaOf_0, decode cX6_areaOf r.1 = .ok (r.2.1, r.2.2.1) ∧ zi_lok r = true ∧ zi_ok yX6_areaOf.cls (decide (yX6_areaOf.name = "<init>")) zi_ms r = true := zq_fin zq_X6_ok (by decide +kernel)
set_option maxRecDepth 100000 in
theorem zv_zc_X6_areaOf_1 : ∀ r ∈ zc_X6_areaOf_1, decode cX6_areaOf r.1 = .ok (r.2.1, r.2.2.1) ∧ zi_lok r = true ∧ zi_ok yX6_areaOf.cls (decide (yX6_areaOf.name = "<init>")) zi_ms r = true := zq_fin zq_X6_ok (by decide +kernel)
set_option maxRecDepth 100000 in
theorem zv_zc_X6_areaOf_2 : ∀ r ∈ zc_X6_areaOf_2, decode cX6_areaOf r.1 = .ok (r.2.1, r.2.2.1) ∧ zi_lok r = true ∧ zi_ok yX6_areaOf.cls (decide (yX6_areaOf.name = "<init>")) zi_ms r = true := zq_fin zq_X6_ok (by decide +kernel)
set_option maxRecDepth 100000 in
theorem zm_202 : zi_mP (yX6_areaOf, cX6_areaOf, 4, (some FieldType.int), zc_X6_areaOf, 0, 0) := ⟨zi_tb_rf (t := 1122) rfl (by decide +kernel), zi_tb_in (t := 103) (by decide +kernel), by decide +kernel, ⟨by decide +kernel, by decide +kernel⟩, by decide +kernel, List.forall_mem_append.mpr ⟨zv_zc_X6_areaOf_0, List.forall_mem_append.mpr ⟨zv_zc_X6_areaOf_1, zv_zc_X6_areaOf_2⟩⟩⟩
