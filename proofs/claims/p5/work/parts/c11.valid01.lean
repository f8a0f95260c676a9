set_option maxRecDepth 100000 in
theorem zv_zc_X5_windowsUnder_0 : ∀ r ∈ zc_X5_windowsUnder_0, decode cX5_windowsUnder r.1 = .ok (r.2.1, r.2.2.1) ∧ zi_lok r = true ∧ zi_ok yX5_windowsUnder.cls (decide (yX5_windowsUnder.name = "<init>")) zi_ms r = true := zq_fin zq_X5_ok (by decide +kernel)
set_option maxRecDepth 100000 in
theorem zm_41 : zi_mP (yX5_windowsUnder, cX5_windowsUnder, 4, (some FieldType.int), zc_X5_windowsUnder, 0, 0) := ⟨zi_tb_rf (t := 868) rfl (by decide +kernel), zi_tb_in (t := 96) (by decide +kernel), by decide +kernel, ⟨by decide +kernel, by decide +kernel⟩, by decide +kernel, zv_zc_X5_windowsUnder_0⟩
set_option maxRecDepth 100000 in
theorem zv_zc_X5_leastFreeNumber_0 : ∀ r ∈ zc_X5_leastFreeNumber_0, decode cX5_leastFreeNumber r.1 = .ok (r.2.1, r.2.2.1) ∧ zi_lok r = true ∧ zi_ok yX5_leastFreeNumber.cls (decide (yX5_leastFreeNumber.name = "<init>")) zi_ms r = true := zq_fin zq_X5_ok (by decide +kernel)
set_option maxRecDepth 100000 in
theorem zm_42 : zi_mP (yX5_leastFreeNumber, cX5_leastFreeNumber, 2, (some FieldType.int), zc_X5_leastFreeNumber, 0, 0) := ⟨zi_tb_rf (t := 563) rfl (by decide +kernel), zi_tb_in (t := 96) (by decide +kernel), by decide +kernel, ⟨by decide +kernel, by decide +kernel⟩, by decide +kernel, zv_zc_X5_leastFreeNumber_0⟩
set_option maxRecDepth 100000 in
theorem zv_zc_X5_bringBack_0 : ∀ r ∈ zc_X5_bringBack_0, decode cX5_bringBack r.1 = .ok (r.2.1, r.2.2.1) ∧ zi_lok r = true ∧ zi_ok yX5_bringBack.cls (decide (yX5_bringBack.name = "<init>")) zi_ms r = true := zq_fin zq_X5_ok (by decide +kernel)
set_option maxRecDepth 100000 in
theorem zv_zc_X5_bringBack_1 : ∀ r ∈ zc_X5_bringBack_1, decode cX5_bringBack r.1 = .ok (r.2.1, r.2.2.1) ∧ zi_lok r = true ∧ zi_ok yX5_bringBack.cls (decide (yX5_bringBack.name = "<init>")) zi_ms r = true := zq_fin zq_X5_ok (by decide +kernel)
set_option maxRecDepth 100000 in
theorem zm_43 : zi_mP (yX5_bringBack, cX5_bringBack, 5, (some FieldType.int), zc_X5_bringBack, 0, 0) := ⟨zi_tb_rf (t := 328) rfl (by decide +kernel), zi_tb_in (t := 96) (by decide +kernel), by decide +kernel, ⟨by decide +kernel, by decide +kernel⟩, by decide +kernel, List.forall_mem_append.mpr ⟨zv_zc_X5_bringBack_0, zv_zc_X5_bringBack_1⟩⟩
set_option maxRecDepth 100000 in
theorem zv_zc_X1_size_0 : ∀ r ∈ zc_X1_size_0, decode cX1_size r.1 = .ok (r.2.1, r.2.2.1) ∧ zi_lok r = true ∧ zi_ok yX1_size.cls (decide (yX1_size.name = "<init>")) zi_ms r = true := zq_fin zq_X1_ok (by decide +kernel)
set_option maxRecDepth 100000 in
theorem zm_44 : zi_mP (yX1_size, cX1_size, 1, (some FieldType.int), zc_X1_size, 0, 0) := ⟨zi_tb_rf (t := 389) rfl (by decide +kernel), zi_tb_in (t := 97) (by decide +kernel), by decide +kernel, ⟨by decide +kernel, by decide +kernel⟩, by decide +kernel, zv_zc_X1_size_0⟩
set_option maxRecDepth 100000 in
theorem zv_zc_X1_get_0 : ∀ r ∈ zc_X1_get_0, decode cX1_get r.1 = .ok (r.2.1, r.2.2.1) ∧ zi_lok r = true ∧ zi_ok yX1_get.cls (decide (yX1_get.name = "<init>")) zi_ms r = true := zq_fin zq_X1_ok (by decide +kernel)
set_option maxRecDepth 100000 in
theorem zm_45 : zi_mP (yX1_get, cX1_get, 2, (some FieldType.int), zc_X1_get, 0, 0) := ⟨zi_tb_rf (t := 393) rfl (by decide +kernel), zi_tb_in (t := 97) (by decide +kernel), by decide +kernel, ⟨by decide +kernel, by decide +kernel⟩, by decide +kernel, zv_zc_X1_get_0⟩
set_option maxRecDepth 100000 in
theorem zv_zc_X2_setSize_0 : ∀ r ∈ zc_X2_setSize_0, decode cX2_setSize r.1 = .ok (r.2.1, r.2.2.1) ∧ zi_lok r = true ∧ zi_ok yX2_setSize.cls (decide (yX2_setSize.name = "<init>")) zi_ms r = true := zq_fin zq_X2_ok (by decide +kernel)
set_option maxRecDepth 100000 in
theorem zm_46 : zi_mP (yX2_setSize, cX2_setSize, 2, none, zc_X2_setSize, 0, 0) := ⟨zi_tb_rf (t := 324) rfl (by decide +kernel), zi_tb_in (t := 101) (by decide +kernel), by decide +kernel, ⟨by decide +kernel, by decide +kernel⟩, by decide +kernel, zv_zc_X2_setSize_0⟩
set_option maxRecDepth 100000 in
theorem zv_zc_X0_forget_0 : ∀ r ∈ zc_X0_forget_0, decode cX0_forget r.1 = .ok (r.2.1, r.2.2.1) ∧ zi_lok r = true ∧ zi_ok yX0_forget.cls (decide (yX0_forget.name = "<init>")) zi_ms r = true := zq_fin zq_X0_ok (by decide +kernel)
set_option maxRecDepth 100000 in
theorem zm_47 : zi_mP (yX0_forget, cX0_forget, 1, none, zc_X0_forget, 0, 0) := ⟨zi_tb_rf (t := 476) rfl (by decide +kernel), zi_tb_in (t := 102) (by decide +kernel), by decide +kernel, ⟨by decide +kernel, by decide +kernel⟩, by decide +kernel, zv_zc_X0_forget_0⟩
set_option maxRecDepth 100000 in
theorem zv_zc_X4_fallsUnder_0 : ∀ r ∈ zc_X4_fallsUnder_0, decode cX4_fallsUnder r.1 = .ok (r.2.1, r.2.2.1) ∧ zi_lok r = true ∧ zi_ok yX4_fallsUnder.cls (decide (yX4_fallsUnder.name = "<init>")) zi_ms r = true := zq_fin zq_X4_ok (by decide +kernel)
set_option maxRecDepth 100000 in
theorem zm_48 : zi_mP (yX4_fallsUnder, cX4_fallsUnder, 3, (some FieldType.boolean), zc_X4_fallsUnder, 0, 0) := ⟨zi_tb_rf (t := 805) rfl (by decide +kernel), zi_tb_in (t := 100) (by decide +kernel), by decide +kernel, ⟨by decide +kernel, by decide +kernel⟩, by decide +kernel, zv_zc_X4_fallsUnder_0⟩
set_option maxRecDepth 100000 in
theorem zv_zc_X6_screen_0 : ∀ r ∈ zc_X6_screen_0, decode cX6_screen r.1 = .ok (r.2.1, r.2.2.1) ∧ zi_lok r = true ∧ zi_ok yX6_screen.cls (decide (yX6_screen.name = "<init>")) zi_ms r = true := zq_fin zq_X6_ok (by decide +kernel)
set_option maxRecDepth 100000 in
theorem zv_zc_X6_screen_1 : ∀ r ∈ zc_X6_screen_1, decode cX6_screen r.1 = .ok (r.2.1, r.2.2.1) ∧ zi_lok r = true ∧ zi_ok yX6_screen.cls (decide (yX6_screen.name = "<init>")) zi_ms r = true := zq_fin zq_X6_ok (by decide +kernel)
set_option maxRecDepth 100000 in
theorem zv_zc_X6_screen_2 : ∀ r ∈ zc_X6_screen_2, decode cX6_screen r.1 = .ok (r.2.1, r.2.2.1) ∧ zi_lok r = true ∧ zi_ok yX6_screen.cls (decide (yX6_screen.name = "<init>")) zi_ms r = true := zq_fin zq_X6_ok (by decide +kernel)
set_option maxRecDepth 100000 in
theorem zv_zc_X6_screen_3 : ∀ r ∈ zc_X6_screen_3, decode cX6_screen r.1 = .ok (r.2.1, r.2.2.1) ∧ zi_lok r = true ∧ zi_ok yX6_screen.cls (decide (yX6_screen.name = "<init>")) zi_ms r = true := zq_fin zq_X6_ok (by decide +kernel)
set_option maxRecDepth 100000 in
theorem zm_49 : zi_mP (yX6_screen, cX6_screen, 6, (some FieldType.int), zc_X6_screen, 0, 0) := ⟨zi_tb_rf (t := 982) rfl (by decide +kernel), zi_tb_in (t := 103) (by decide +kernel), by decide +kernel, ⟨by decide +kernel, by decide +kernel⟩, by decide +kernel, List.forall_mem_append.mpr ⟨zv_zc_X6_screen_0, List.forall_mem_append.mpr ⟨zv_zc_X6_screen_1, List.forall_mem_append.mpr ⟨zv_zc_X6_screen_2, zv_zc_X6_screen_3⟩⟩⟩⟩
set_option maxRecDepth 100000 in
theorem zv_zc_X6_gone_0 : ∀ r ∈ zc_X6_gone_0, decode cX6_gone r.1 = .ok (r.2.1, r.2.2.1) ∧ zi_lok r = true ∧ zi_ok yX6_gone.cls (decide (yX6_gone.name = "<init>")) zi_ms r = true := zq_fin zq_X6_ok (by decide +kernel)
set_option maxRecDepth 100000 in
theorem zv_zc_X6_gone_1 : ∀ r ∈ zc_X6_gone_1, decode cX6_gone r.1 = .ok (r.2.1, r.2.2.1) ∧ zi_lok r = true ∧ zi_ok yX6_gone.cls (decide (yX6_gone.name = "<init>")) zi_ms r = true := zq_fin zq_X6_ok (by decide +kernel)
set_option maxRecDepth 100000 in
theorem zv_zc_X6_gone_2 : ∀ r ∈ zc_X6_gone_2, decode cX6_gone r.1 = .ok (r.2.1, r.2.2.1) ∧ zi_lok r = true ∧ zi_ok yX6_gone.cls (decide (yX6_gone.name = "<init>")) zi_ms r = true := zq_fin zq_X6_ok (by decide +kernel)
set_option maxRecDepth 100000 in
theorem zv_zc_X6_gone_3 : ∀ r ∈ zc_X6_gone_3, decode cX6_gone r.1 = .ok (r.2.1, r.2.2.1) ∧ zi_lok r = true ∧ zi_ok yX6_gone.cls (decide (yX6_gone.name = "<init>")) zi_ms r = true := zq_fin zq_X6_ok (by decide +kernel)
set_option maxRecDepth 100000 in
theorem zv_zc_X6_gone_4 : ∀ r ∈ zc_X6_gone_4, decode cX6_gone r.1 = .ok (r.2.1, r.2.2.1) ∧ zi_lok r = true ∧ zi_ok yX6_gone.cls (decide (yX6_gone.name = "<init>")) zi_ms r = true := zq_fin zq_X6_ok (by decide +kernel)
set_option maxRecDepth 100000 in
theorem zv_zc_X6_gone_5 : ∀ r ∈ zc_X6_gone_5, decode cX6_gone r.1 = .ok (r.2.1, r.2.2.1) ∧ zi_lok r = true ∧ zi_ok yX6_gone.cls (decide (yX6_gone.name = "<init>")) zi_ms r = true := zq_fin zq_X6_ok (by decide +kernel)
set_option maxRecDepth 100000 in
theorem zm_50 : zi_mP (yX6_gone, cX6_gone, 7, (some FieldType.int), zc_X6_gone, 0, 0) := ⟨zi_tb_rf (t := 1065) rfl (by decide +kernel), zi_tb_in (t := 103) (by decide +kernel), by decide +kernel, ⟨by decide +kernel, by decide +kernel⟩, by decide +kernel, List.forall_mem_append.mpr ⟨zv_zc_X6_gone_0, List.forall_mem_append.mpr ⟨zv_zc_X6_gone_1, List.forall_mem_append.mpr ⟨zv_zc_X6_gone_2, List.forall_mem_append.mpr ⟨zv_zc_X6_gone_3, List.forall_mem_append.mpr ⟨zv_zc_X6_gone_4, zv_zc_X6_gone_5⟩⟩⟩⟩⟩⟩
set_option maxRecDepth 100000 in
theorem zv_zc_X6_open_0 : ∀ r ∈ zc_X6_open_0, decode cX6_open r.1 = .ok (r.2.1, r.2.2.1) ∧ zi_lok r = true ∧ zi_ok yX6_open.cls (decide (yX6_open.name = "<init>")) zi_ms r = true := zq_fin zq_X6_ok (by decide +kernel)
set_option maxRecDepth 100000 in
theorem zv_zc_X6_open_1 : ∀ r ∈ zc_X6_open_1, decode cX6_open r.1 = .ok (r.2.1, r.2.2.1) ∧ zi_lok r = true ∧ zi_ok yX6_open.cls (decide (yX6_open.name = "<init>")) zi_ms r = true := zq_fin zq_X6_ok (by decide +kernel)
set_option maxRecDepth 100000 in
theorem zv_zc_X6_open_2 : ∀ r ∈ zc_X6_open_2, decode cX6_open r.1 = .ok (r.2.1, r.2.2.1) ∧ zi_lok r = true ∧ zi_ok yX6_open.cls (decide (yX6_open.name = "<init>")) zi_ms r = true := zq_fin zq_X6_ok (by decide +kernel)
set_option maxRecDepth 100000 in
theorem zv_zc_X6_open_3 : ∀ r ∈ zc_X6_open_3, decode cX6_open r.1 = .ok (r.2.1, r.2.2.1) ∧ zi_lok r = true ∧ zi_ok yX6_open.cls (decide (yX6_open.name = "<init>")) zi_ms r = true := zq_fin zq_X6_ok (by decide +kernel)
set_option maxRecDepth 100000 in
theorem zv_zc_X6_open_4 : ∀ r ∈ zc_X6_open_4, decode cX6_open r.1 = .ok (r.2.1, r.2.2.1) ∧ zi_lok r = true ∧ zi_ok yX6_open.cls (decide (yX6_open.name = "<init>")) zi_ms r = true := zq_fin zq_X6_ok (by decide +kernel)
set_option maxRecDepth 100000 in
theorem zm_51 : zi_mP (yX6_open, cX6_open, 10, (some FieldType.int), zc_X6_open, 0, 0) := ⟨zi_tb_rf (t := 1085) rfl (by decide +kernel), zi_tb_in (t := 103) (by decide +kernel), by decide +kernel, ⟨by decide +kernel, by decide +kernel⟩, by decide +kernel, List.forall_mem_append.mpr ⟨zv_zc_X6_open_0, List.forall_mem_append.mpr ⟨zv_zc_X6_open_1, List.forall_mem_append.mpr ⟨zv_zc_X6_open_2, List.forall_mem_append.mpr ⟨zv_zc_X6_open_3, zv_zc_X6_open_4⟩⟩⟩⟩⟩
set_option maxRecDepth 100000 in
theorem zv_zc_X6_close_0 : ∀ r ∈ zc_X6_close_0, decode cX6_close r.1 = .ok (r.2.1, r.2.2.1) ∧ zi_lok r = true ∧ zi_ok yX6_close.cls (decide (yX6_close.name = "<init>")) zi_ms r = true := zq_fin zq_X6_ok (by decide +kernel)
set_option maxRecDepth 100000 in
theorem zm_52 : zi_mP (yX6_close, cX6_close, 2, (some FieldType.int), zc_X6_close, 0, 0) := ⟨zi_tb_rf (t := 1151) rfl (by decide +kernel), zi_tb_in (t := 103) (by decide +kernel), by decide +kernel, ⟨by decide +kernel, by decide +kernel⟩, by decide +kernel, zv_zc_X6_close_0⟩
set_option maxRecDepth 100000 in
theorem zv_zc_X6_focus_0 : ∀ r ∈ zc_X6_focus_0, decode cX6_focus r.1 = .ok (r.2.1, r.2.2.1) ∧ zi_lok r = true ∧ zi_ok yX6_focus.cls (decide (yX6_focus.name = "<init>")) zi_ms r = true := zq_fin zq_X6_ok (by decide +kernel)
set_option maxRecDepth 100000 in
theorem zm_53 : zi_mP (yX6_focus, cX6_focus, 3, (some FieldType.int), zc_X6_focus, 0, 0) := ⟨zi_tb_rf (t := 1163) rfl (by decide +kernel), zi_tb_in (t := 103) (by decide +kernel), by decide +kernel, ⟨by decide +kernel, by decide +kernel⟩, by decide +kernel, zv_zc_X6_focus_0⟩
set_option maxRecDepth 100000 in
theorem zv_zc_X6_back_0 : ∀ r ∈ zc_X6_back_0, decode cX6_back r.1 = .ok (r.2.1, r.2.2.1) ∧ zi_lok r = true ∧ zi_ok yX6_back.cls (decide (yX6_back.name = "<init>")) zi_ms r = true := zq_fin zq_X6_ok (by decide +kernel)
set_option maxRecDepth 100000 in
theorem zm_54 : zi_mP (yX6_back, cX6_back, 2, (some FieldType.int), zc_X6_back, 0, 0) := ⟨zi_tb_rf (t := 1167) rfl (by decide +kernel), zi_tb_in (t := 103) (by decide +kernel), by decide +kernel, ⟨by decide +kernel, by decide +kernel⟩, by decide +kernel, zv_zc_X6_back_0⟩
set_option maxRecDepth 100000 in
theorem zv_zc_X6_toward_0 : ∀ r ∈ zc_X6_toward_0, decode cX6_toward r.1 = .ok (r.2.1, r.2.2.1) ∧ zi_lok r = true ∧ zi_ok yX6_toward.cls (decide (yX6_toward.name = "<init>")) zi_ms r = true := zq_fin zq_X6_ok (by decide +kernel)
set_option maxRecDepth 100000 in
theorem zm_55 : zi_mP (yX6_toward, cX6_toward, 3, (some FieldType.int), zc_X6_toward, 0, 0) := ⟨zi_tb_rf (t := 1171) rfl (by decide +kernel), zi_tb_in (t := 103) (by decide +kernel), by decide +kernel, ⟨by decide +kernel, by decide +kernel⟩, by decide +kernel, zv_zc_X6_toward_0⟩
set_option maxRecDepth 100000 in
theorem zv_zc_X6_steps_0 : ∀ r ∈ zc_X6_steps_0, decode cX6_steps r.1 = .ok (r.2.1, r.2.2.1) ∧ zi_lok r = true ∧ zi_ok yX6_steps.cls (decide (yX6_steps.name = "<init>")) zi_ms r = true := zq_fin zq_X6_ok (by decide +kernel)
set_option maxRecDepth 100000 in
theorem zv_zc_X6_steps_1 : ∀ r ∈ zc_X6_steps_1, decode cX6_steps r.1 = .ok (r.2.1, r.2.2.1) ∧ zi_lok r = true ∧ zi_ok yX6_steps.cls (decide (yX6_steps.name = "<init>")) zi_ms r = true := zq_fin zq_X6_ok (by decide +kernel)
set_option maxRecDepth 100000 in
theorem zv_zc_X6_steps_2 : ∀ r ∈ zc_X6_steps_2, decode cX6_steps r.1 = .ok (r.2.1, r.2.2.1) ∧ zi_lok r = true ∧ zi_ok yX6_steps.cls (decide (yX6_steps.name = "<init>")) zi_ms r = true := zq_fin zq_X6_ok (by decide +kernel)
set_option maxRecDepth 100000 in
theorem zm_56 : zi_mP (yX6_steps, cX6_steps, 7, (some FieldType.int), zc_X6_steps, 0, 0) := ⟨zi_tb_rf (t := 1186) rfl (by decide +kernel), zi_tb_in (t := 103) (by decide +kernel), by decide +kernel, ⟨by decide +kernel, by decide +kernel⟩, by decide +kernel, List.forall_mem_append.mpr ⟨zv_zc_X6_steps_0, List.forall_mem_append.mpr ⟨zv_zc_X6_steps_1, zv_zc_X6_steps_2⟩⟩⟩
set_option maxRecDepth 100000 in
theorem zv_zc_X6_drag_0 : ∀ r ∈ zc_X6_drag_0, decode cX6_drag r.1 = .ok (r.2.1, r.2.2.1) ∧ zi_lok r = true ∧ zi_ok yX6_drag.cls (decide (yX6_drag.name = "<init>")) zi_ms r = true := zq_fin zq_X6_ok (by decide +kernel)
set_option maxRecDepth 100000 in
theorem zv_zc_X6_drag_1 : ∀ r ∈ zc_X6_drag_1, decode cX6_drag r.1 = .ok (r.2.1, r.2.2.1) ∧ zi_lok r = true ∧ zi_ok yX6_drag.cls (decide (yX6_drag.name = "<init>")) zi_ms r = true := zq_fin zq_X6_ok (by decide +kernel)
set_option maxRecDepth 100000 in
theorem zv_zc_X6_drag_2 : ∀ r ∈ zc_X6_drag_2, decode cX6_drag r.1 = .ok (r.2.1, r.2.2.1) ∧ zi_lok r = true ∧ zi_ok yX6_drag.cls (decide (yX6_drag.name = "<init>")) zi_ms r = true := zq_fin zq_X6_ok (by decide +kernel)
set_option maxRecDepth 100000 in
theorem zv_zc_X6_drag_3 : ∀ r ∈ zc_X6_drag_3, decode cX6_drag r.1 = .ok (r.2.1, r.2.2.1) ∧ zi_lok r = true ∧ zi_ok yX6_drag.cls (decide (yX6_drag.name = "<init>")) zi_ms r = true := zq_fin zq_X6_ok (by decide +kernel)
set_option maxRecDepth 100000 in
theorem zv_zc_X6_drag_4 : ∀ r ∈ zc_X6_drag_4, decode cX6_drag r.1 = .ok (r.2.1, r.2.2.1) ∧ zi_lok r = true ∧ zi_ok yX6_drag.cls (decide (yX6_drag.name = "<init>")) zi_ms r = true := zq_fin zq_X6_ok (by decide +kernel)
set_option maxRecDepth 100000 in
theorem zv_zc_X6_drag_5 : ∀ r ∈ zc_X6_drag_5, decode cX6_drag r.1 = .ok (r.2.1, r.2.2.1) ∧ zi_lok r = true ∧ zi_ok yX6_drag.cls (decide (yX6_drag.name = "<init>")) zi_ms r = true := zq_fin zq_X6_ok (by decide +kernel)
set_option maxRecDepth 100000 in
theorem zm_57 : zi_mP (yX6_drag, cX6_drag, 9, (some FieldType.int), zc_X6_drag, 0, 0) := ⟨zi_tb_rf (t := 1190) rfl (by decide +kernel), zi_tb_in (t := 103) (by decide +kernel), by decide +kernel, ⟨by decide +kernel, by decide +kernel⟩, by decide +kernel, List.forall_mem_append.mpr ⟨zv_zc_X6_drag_0, List.forall_mem_append.mpr ⟨zv_zc_X6_drag_1, List.forall_mem_append.mpr ⟨zv_zc_X6_drag_2, List.forall_mem_append.mpr ⟨zv_zc_X6_drag_3, List.forall_mem_append.mpr ⟨zv_zc_X6_drag_4, zv_zc_X6_drag_5⟩⟩⟩⟩⟩⟩
set_option maxRecDepth 100000 in
theorem zv_zc_X6_move_0 : ∀ r ∈ zc_X6_move_0, decode cX6_move r.1 = .ok (r.2.1, r.2.2.1) ∧ zi_lok r = true ∧ zi_ok yX6_move.cls (decide (yX6_move.name = "<init>")) zi_ms r = true := zq_fin zq_X6_ok (by decide +kernel)
set_option maxRecDepth 100000 in
theorem zv_zc_X6_move_1 : ∀ r ∈ zc_X6_move_1, decode cX6_move r.1 = .ok (r.2.1, r.2.2.1) ∧ zi_lok r = true ∧ zi_ok yX6_move.cls (decide (yX6_move.name = "<init>")) zi_ms r = true := zq_fin zq_X6_ok (by decide +kernel)
set_option maxRecDepth 100000 in
theorem zm_58 : zi_mP (yX6_move, cX6_move, 4, (some FieldType.int), zc_X6_move, 0, 0) := ⟨zi_tb_rf (t := 1194) rfl (by decide +kernel), zi_tb_in (t := 103) (by decide +kernel), by decide +kernel, ⟨by decide +kernel, by decide +kernel⟩, by decide +kernel, List.forall_mem_append.mpr ⟨zv_zc_X6_move_0, zv_zc_X6_move_1⟩⟩
set_option maxRecDepth 100000 in
theorem zv_zc_X6_share_0 : ∀ r ∈ zc_X6_share_0, decode cX6_share r.1 = .ok (r.2.1, r.2.2.1) ∧ zi_lok r = true ∧ zi_ok yX6_share.cls (decide (yX6_share.name = "<init>")) zi_ms r = true := zq_fin zq_X6_ok (by decide +kernel)
set_option maxRecDepth 100000 in
theorem zv_zc_X6_share_1 : ∀ r ∈ zc_X6_share_1, decode cX6_share r.1 = .ok (r.2.1, r.2.2.1) ∧ zi_lok r = true ∧ zi_ok yX6_share.cls (decide (yX6_share.name = "<init>")) zi_ms r = true := zq_fin zq_X6_ok (by decide +kernel)
set_option maxRecDepth 100000 in
theorem zm_59 : zi_mP (yX6_share, cX6_share, 7, (some FieldType.int), zc_X6_share, 0, 0) := ⟨zi_tb_rf (t := 1198) rfl (by decide +kernel), zi_tb_in (t := 103) (by decide +kernel), by decide +kernel, ⟨by decide +kernel, by decide +kernel⟩, by decide +kernel, List.forall_mem_append.mpr ⟨zv_zc_X6_share_0, zv_zc_X6_share_1⟩⟩
set_option maxRecDepth 100000 in
theorem zv_zc_X6_area_0 : ∀ r ∈ zc_X6_area_0, decode cX6_area r.1 = .ok (r.2.1, r.2.2.1) ∧ zi_lok r = true ∧ zi_ok yX6_area.cls (decide (yX6_area.name = "<init>")) zi_ms r = true := zq_fin zq_X6_ok (by decide +kernel)
set_option maxRecDepth 100000 in
theorem zm_60 : zi_mP (yX6_area, cX6_area, 3, (some FieldType.int), zc_X6_area, 0, 0) := ⟨zi_tb_rf (t := 1202) rfl (by decide +kernel), zi_tb_in (t := 103) (by decide +kernel), by decide +kernel, ⟨by decide +kernel, by decide +kernel⟩, by decide +kernel, zv_zc_X6_area_0⟩
set_option maxRecDepth 100000 in
theorem zv_zc_X6_about_0 : ∀ r ∈ zc_X6_about_0, decode cX6_about r.1 = .ok (r.2.1, r.2.2.1) ∧ zi_lok r = true ∧ zi_ok yX6_about.cls (decide (yX6_about.name = "<init>")) zi_ms r = true := zq_fin zq_X6_ok (by decide +kernel)
set_option maxRecDepth 100000 in
theorem zv_zc_X6_about_1 : ∀ r ∈ zc_X6_about_1, decode cX6_about r.1 = .ok (r.2.1, r.2.2.1) ∧ zi_lok r = true ∧ zi_ok yX6_about.cls (decide (yX6_about.name = "<init>")) zi_ms r = true := zq_fin zq_X6_ok (by decide +kernel)
set_option maxRecDepth 100000 in
theorem zm_61 : zi_mP (yX6_about, cX6_about, 3, (some FieldType.int), zc_X6_about, 0, 0) := ⟨zi_tb_rf (t := 1206) rfl (by decide +kernel), zi_tb_in (t := 103) (by decide +kernel), by decide +kernel, ⟨by decide +kernel, by decide +kernel⟩, by decide +kernel, List.forall_mem_append.mpr ⟨zv_zc_X6_about_0, zv_zc_X6_about_1⟩⟩
set_option maxRecDepth 100000 in
theorem zv_zc_X6_isOf_0 : ∀ r ∈ zc_X6_isOf_0, decode cX6_isOf r.1 = .ok (r.2.1, r.2.2.1) ∧ zi_lok r = true ∧ zi_ok yX6_isOf.cls (decide (yX6_isOf.name = "<init>")) zi_ms r = true := zq_fin zq_X6_ok (by decide +kernel)
set_option maxRecDepth 100000 in
theorem zm_62 : zi_mP (yX6_isOf, cX6_isOf, 3, (some FieldType.int), zc_X6_isOf, 0, 0) := ⟨zi_tb_rf (t := 1213) rfl (by decide +kernel), zi_tb_in (t := 103) (by decide +kernel), by decide +kernel, ⟨by decide +kernel, by decide +kernel⟩, by decide +kernel, zv_zc_X6_isOf_0⟩
set_option maxRecDepth 100000 in
theorem zv_zc_X6_at_0 : ∀ r ∈ zc_X6_at_0, decode cX6_at r.1 = .ok (r.2.1, r.2.2.1) ∧ zi_lok r = true ∧ zi_ok yX6_at.cls (decide (yX6_at.name = "<init>")) zi_ms r = true := zq_fin zq_X6_ok (by decide +kernel)
set_option maxRecDepth 100000 in
theorem zv_zc_X6_at_1 : ∀ r ∈ zc_X6_at_1, decode cX6_at r.1 = .ok (r.2.1, r.2.2.1) ∧ zi_lok r = true ∧ zi_ok yX6_at.cls (decide (yX6_at.name = "<init>")) zi_ms r = true := zq_fin zq_X6_ok (by decide +kernel)
set_option maxRecDepth 100000 in
theorem zv_zc_X6_at_2 : ∀ r ∈ zc_X6_at_2, decode cX6_at r.1 = .ok (r.2.1, r.2.2.1) ∧ zi_lok r = true ∧ zi_ok yX6_at.cls (decide (yX6_at.name = "<init>")) zi_ms r = true := zq_fin zq_X6_ok (by decide +kernel)
set_option maxRecDepth 100000 in
theorem zm_63 : zi_mP (yX6_at, cX6_at, 6, (some FieldType.int), zc_X6_at, 0, 0) := ⟨zi_tb_rf (t := 1217) rfl (by decide +kernel), zi_tb_in (t := 103) (by decide +kernel), by decide +kernel, ⟨by decide +kernel, by decide +kernel⟩, by decide +kernel, List.forall_mem_append.mpr ⟨zv_zc_X6_at_0, List.forall_mem_append.mpr ⟨zv_zc_X6_at_1, zv_zc_X6_at_2⟩⟩⟩
set_option maxRecDepth 100000 in
theorem zv_zc_X6_neighbour_0 : ∀ r ∈ zc_X6_neighbour_0, decode cX6_neighbour r.1 = .ok (r.2.1, r.2.2.1) ∧ zi_lok r = true ∧ zi_ok yX6_neighbour.cls (decide (yX6_neighbour.name = "<init>")) zi_ms r = true := zq_fin zq_X6_ok (by decide +kernel)
set_option maxRecDepth 100000 in
theorem zm_64 : zi_mP (yX6_neighbour, cX6_neighbour, 4, (some FieldType.int), zc_X6_neighbour, 0, 0) := ⟨zi_tb_rf (t := 1225) rfl (by decide +kernel), zi_tb_in (t := 103) (by decide +kernel), by decide +kernel, ⟨by decide +kernel, by decide +kernel⟩, by decide +kernel, zv_zc_X6_neighbour_0⟩
set_option maxRecDepth 100000 in
theorem zv_zc_X6_told_0 : ∀ r ∈ zc_X6_told_0, decode cX6_told r.1 = .ok (r.2.1, r.2.2.1) ∧ zi_lok r = true ∧ zi_ok yX6_told.cls (decide (yX6_told.name = "<init>")) zi_ms r = true := zq_fin zq_X6_ok (by decide +kernel)
set_option maxRecDepth 100000 in
theorem zv_zc_X6_told_1 : ∀ r ∈ zc_X6_told_1, decode cX6_told r.1 = .ok (r.2.1, r.2.2.1) ∧ zi_lok r = true ∧ zi_ok yX6_told.cls (decide (yX6_told.name = "<init>")) zi_ms r = true := zq_fin zq_X6_ok (by decide +kernel)
set_option maxRecDepth 100000 in
theorem zv_zc_X6_told_2 : ∀ r ∈ zc_X6_told_2, decode cX6_told r.1 = .ok (r.2.1, r.2.2.1) ∧ zi_lok r = true ∧ zi_ok yX6_told.cls (decide (yX6_told.name = "<init>")) zi_ms r = true := zq_fin zq_X6_ok (by decide +kernel)
set_option maxRecDepth 100000 in
theorem zm_65 : zi_mP (yX6_told, cX6_told, 5, (some FieldType.int), zc_X6_told, 0, 0) := ⟨zi_tb_rf (t := 1229) rfl (by decide +kernel), zi_tb_in (t := 103) (by decide +kernel), by decide +kernel, ⟨by decide +kernel, by decide +kernel⟩, by decide +kernel, List.forall_mem_append.mpr ⟨zv_zc_X6_told_0, List.forall_mem_append.mpr ⟨zv_zc_X6_told_1, zv_zc_X6_told_2⟩⟩⟩
set_option maxRecDepth 100000 in
theorem zv_zc_X6_tab_0 : ∀ r ∈ zc_X6_tab_0, decode cX6_tab r.1 = .ok (r.2.1, r.2.2.1) ∧ zi_lok r = true ∧ zi_ok yX6_tab.cls (decide (yX6_tab.name = "<init>")) zi_ms r = true := zq_fin zq_X6_ok (by decide +kernel)
set_option maxRecDepth 100000 in
theorem zv_zc_X6_tab_1 : ∀ r ∈ zc_X6_tab_1, decode cX6_tab r.1 = .ok (r.2.1, r.2.2.1) ∧ zi_lok r = true ∧ zi_ok yX6_tab.cls (decide (yX6_tab.name = "<init>")) zi_ms r = true := zq_fin zq_X6_ok (by decide +kernel)
set_option maxRecDepth 100000 in
theorem zm_66 : zi_mP (yX6_tab, cX6_tab, 5, (some FieldType.int), zc_X6_tab, 0, 0) := ⟨zi_tb_rf (t := 1233) rfl (by decide +kernel), zi_tb_in (t := 103) (by decide +kernel), by decide +kernel, ⟨by decide +kernel, by decide +kernel⟩, by decide +kernel, List.forall_mem_append.mpr ⟨zv_zc_X6_tab_0, zv_zc_X6_tab_1⟩⟩
set_option maxRecDepth 100000 in
theorem zv_zc_X6_count_0 : ∀ r ∈ zc_X6_count_0, decode cX6_count r.1 = .ok (r.2.1, r.2.2.1) ∧ zi_lok r = true ∧ zi_ok yX6_count.cls (decide (yX6_count.name = "<init>")) zi_ms r = true := zq_fin zq_X6_ok (by decide +kernel)
set_option maxRecDepth 100000 in
theorem zv_zc_X6_count_1 : ∀ r ∈ zc_X6_count_1, decode cX6_count r.1 = .ok (r.2.1, r.2.2.1) ∧ zi_lok r = true ∧ zi_ok yX6_count.cls (decide (yX6_count.name = "<init>")) zi_ms r = true := zq_fin zq_X6_ok (by decide +kernel)
set_option maxRecDepth 100000 in
theorem zv_zc_X6_count_2 : ∀ r ∈ zc_X6_count_2, decode cX6_count r.1 = .ok (r.2.1, r.2.2.1) ∧ zi_lok r = true ∧ zi_ok yX6_count.cls (decide (yX6_count.name = "<init>")) zi_ms r = true := zq_fin zq_X6_ok (by decide +kernel)
set_option maxRecDepth 100000 in
theorem zm_67 : zi_mP (yX6_count, cX6_count, 4, (some FieldType.int), zc_X6_count, 0, 0) := ⟨zi_tb_rf (t := 1237) rfl (by decide +kernel), zi_tb_in (t := 103) (by decide +kernel), by decide +kernel, ⟨by decide +kernel, by decide +kernel⟩, by decide +kernel, List.forall_mem_append.mpr ⟨zv_zc_X6_count_0, List.forall_mem_append.mpr ⟨zv_zc_X6_count_1, zv_zc_X6_count_2⟩⟩⟩
set_option maxRecDepth 100000 in
theorem zv_zc_X6_isIn_0 : ∀ r ∈ zc_X6_isIn_0, decode cX6_isIn r.1 = .ok (r.2.1, r.2.2.1) ∧ zi_lok r = true ∧ zi_ok yX6_isIn.cls (decide (yX6_isIn.name = "<init>")) zi_ms r = true := zq_fin zq_X6_ok (by decide +kernel)
set_option maxRecDepth 100000 in
theorem zm_68 : zi_mP (yX6_isIn, cX6_isIn, 3, (some FieldType.boolean), zc_X6_isIn, 0, 0) := ⟨zi_tb_rf (t := 985) rfl (by decide +kernel), zi_tb_in (t := 103) (by decide +kernel), by decide +kernel, ⟨by decide +kernel, by decide +kernel⟩, by decide +kernel, zv_zc_X6_isIn_0⟩
set_option maxRecDepth 100000 in
theorem zv_zc_X6_isWindow_0 : ∀ r ∈ zc_X6_isWindow_0, decode cX6_isWindow r.1 = .ok (r.2.1, r.2.2.1) ∧ zi_lok r = true ∧ zi_ok yX6_isWindow.cls (decide (yX6_isWindow.name = "<init>")) zi_ms r = true := zq_fin zq_X6_ok (by decide +kernel)
set_option maxRecDepth 100000 in
theorem zm_69 : zi_mP (yX6_isWindow, cX6_isWindow, 2, (some FieldType.boolean), zc_X6_isWindow, 0, 0) := ⟨zi_tb_rf (t := 1089) rfl (by decide +kernel), zi_tb_in (t := 103) (by decide +kernel), by decide +kernel, ⟨by decide +kernel, by decide +kernel⟩, by decide +kernel, zv_zc_X6_isWindow_0⟩
set_option maxRecDepth 100000 in
theorem zv_zc_X6_spot_0 : ∀ r ∈ zc_X6_spot_0, decode cX6_spot r.1 = .ok (r.2.1, r.2.2.1) ∧ zi_lok r = true ∧ zi_ok yX6_spot.cls (decide (yX6_spot.name = "<init>")) zi_ms r = true := zq_fin zq_X6_ok (by decide +kernel)
set_option maxRecDepth 100000 in
theorem zm_70 : zi_mP (yX6_spot, cX6_spot, 2, (some FieldType.int), zc_X6_spot, 0, 0) := ⟨zi_tb_rf (t := 993) rfl (by decide +kernel), zi_tb_in (t := 103) (by decide +kernel), by decide +kernel, ⟨by decide +kernel, by decide +kernel⟩, by decide +kernel, zv_zc_X6_spot_0⟩
