noncomputable def zi_mP (mt : zi_Me) : Prop := Cond.code mt.1 mt.2.1 mt.2.2.1 mt.2.2.2.1 ∈ zi_Ts ∧ Cond.initialized mt.1.cls ∈ zi_Ts ∧ plainFor mt.1 = true ∧ (mt.1.cls ≠ "java/lang/invoke/MethodHandle" ∧ mt.1.cls ≠ "java/lang/invoke/VarHandle") ∧ mt.2.2.1 ≤ 21 ∧
  ∀ r ∈ mt.2.2.2.2.1, decode mt.2.1 r.1 = .ok (r.2.1, r.2.2.1) ∧ zi_lok r = true ∧ zi_ok mt.1.cls (decide (mt.1.name = "<init>")) zi_ms r = true
set_option maxRecDepth 100000 in
theorem zv_zc_X5_init_0 : ∀ r ∈ zc_X5_init_0, decode cX5_init r.1 = .ok (r.2.1, r.2.2.1) ∧ zi_lok r = true ∧ zi_ok yX5_init.cls (decide (yX5_init.name = "<init>")) zi_ms r = true := zo_fin (by decide +kernel)
set_option maxRecDepth 100000 in
theorem zv_zc_X5_init_1 : ∀ r ∈ zc_X5_init_1, decode cX5_init r.1 = .ok (r.2.1, r.2.2.1) ∧ zi_lok r = true ∧ zi_ok yX5_init.cls (decide (yX5_init.name = "<init>")) zi_ms r = true := zo_fin (by decide +kernel)
set_option maxRecDepth 100000 in
theorem zm_0 : zi_mP (yX5_init, cX5_init, 2, none, zc_X5_init, 400, 8000) := ⟨zi_tb_rf (t := 110) rfl (by decide +kernel), zi_tb_in (t := 96) (by decide +kernel), by decide +kernel, ⟨by decide +kernel, by decide +kernel⟩, by decide +kernel, List.forall_mem_append.mpr ⟨zv_zc_X5_init_0, zv_zc_X5_init_1⟩⟩
set_option maxRecDepth 100000 in
theorem zv_zc_X1_init_0 : ∀ r ∈ zc_X1_init_0, decode cX1_init r.1 = .ok (r.2.1, r.2.2.1) ∧ zi_lok r = true ∧ zi_ok yX1_init.cls (decide (yX1_init.name = "<init>")) zi_ms r = true := zo_fin (by decide +kernel)
set_option maxRecDepth 100000 in
theorem zm_1 : zi_mP (yX1_init, cX1_init, 1, none, zc_X1_init, 1, 10) := ⟨zi_tb_rf (t := 122) rfl (by decide +kernel), zi_tb_in (t := 97) (by decide +kernel), by decide +kernel, ⟨by decide +kernel, by decide +kernel⟩, by decide +kernel, zv_zc_X1_init_0⟩
set_option maxRecDepth 100000 in
theorem zv_zc_X3_init_0 : ∀ r ∈ zc_X3_init_0, decode cX3_init r.1 = .ok (r.2.1, r.2.2.1) ∧ zi_lok r = true ∧ zi_ok yX3_init.cls (decide (yX3_init.name = "<init>")) zi_ms r = true := zo_fin (by decide +kernel)
set_option maxRecDepth 100000 in
theorem zv_zc_X3_init_1 : ∀ r ∈ zc_X3_init_1, decode cX3_init r.1 = .ok (r.2.1, r.2.2.1) ∧ zi_lok r = true ∧ zi_ok yX3_init.cls (decide (yX3_init.name = "<init>")) zi_ms r = true := zo_fin (by decide +kernel)
set_option maxRecDepth 100000 in
theorem zm_2 : zi_mP (yX3_init, cX3_init, 1, none, zc_X3_init, 30, 600) := ⟨zi_tb_rf (t := 136) rfl (by decide +kernel), zi_tb_in (t := 98) (by decide +kernel), by decide +kernel, ⟨by decide +kernel, by decide +kernel⟩, by decide +kernel, List.forall_mem_append.mpr ⟨zv_zc_X3_init_0, zv_zc_X3_init_1⟩⟩
set_option maxRecDepth 100000 in
theorem zv_zc_X4_init_0 : ∀ r ∈ zc_X4_init_0, decode cX4_init r.1 = .ok (r.2.1, r.2.2.1) ∧ zi_lok r = true ∧ zi_ok yX4_init.cls (decide (yX4_init.name = "<init>")) zi_ms r = true := zo_fin (by decide +kernel)
set_option maxRecDepth 100000 in
theorem zm_3 : zi_mP (yX4_init, cX4_init, 1, none, zc_X4_init, 2, 4) := ⟨zi_tb_rf (t := 205) rfl (by decide +kernel), zi_tb_in (t := 100) (by decide +kernel), by decide +kernel, ⟨by decide +kernel, by decide +kernel⟩, by decide +kernel, zv_zc_X4_init_0⟩
set_option maxRecDepth 100000 in
theorem zv_zc_X2_init_0 : ∀ r ∈ zc_X2_init_0, decode cX2_init r.1 = .ok (r.2.1, r.2.2.1) ∧ zi_lok r = true ∧ zi_ok yX2_init.cls (decide (yX2_init.name = "<init>")) zi_ms r = true := zo_fin (by decide +kernel)
set_option maxRecDepth 100000 in
theorem zm_4 : zi_mP (yX2_init, cX2_init, 1, none, zc_X2_init, 80, 1600) := ⟨zi_tb_rf (t := 236) rfl (by decide +kernel), zi_tb_in (t := 101) (by decide +kernel), by decide +kernel, ⟨by decide +kernel, by decide +kernel⟩, by decide +kernel, zv_zc_X2_init_0⟩
set_option maxRecDepth 100000 in
theorem zv_zc_X0_init_0 : ∀ r ∈ zc_X0_init_0, decode cX0_init r.1 = .ok (r.2.1, r.2.2.1) ∧ zi_lok r = true ∧ zi_ok yX0_init.cls (decide (yX0_init.name = "<init>")) zi_ms r = true := zo_fin (by decide +kernel)
set_option maxRecDepth 100000 in
theorem zm_5 : zi_mP (yX0_init, cX0_init, 1, none, zc_X0_init, 40, 800) := ⟨zi_tb_rf (t := 244) rfl (by decide +kernel), zi_tb_in (t := 102) (by decide +kernel), by decide +kernel, ⟨by decide +kernel, by decide +kernel⟩, by decide +kernel, zv_zc_X0_init_0⟩
set_option maxRecDepth 100000 in
theorem zv_zc_X6_init_0 : ∀ r ∈ zc_X6_init_0, decode cX6_init r.1 = .ok (r.2.1, r.2.2.1) ∧ zi_lok r = true ∧ zi_ok yX6_init.cls (decide (yX6_init.name = "<init>")) zi_ms r = true := zo_fin (by decide +kernel)
set_option maxRecDepth 100000 in
theorem zv_zc_X6_init_1 : ∀ r ∈ zc_X6_init_1, decode cX6_init r.1 = .ok (r.2.1, r.2.2.1) ∧ zi_lok r = true ∧ zi_ok yX6_init.cls (decide (yX6_init.name = "<init>")) zi_ms r = true := zo_fin (by decide +kernel)
set_option maxRecDepth 100000 in
theorem zv_zc_X6_init_2 : ∀ r ∈ zc_X6_init_2, decode cX6_init r.1 = .ok (r.2.1, r.2.2.1) ∧ zi_lok r = true ∧ zi_ok yX6_init.cls (decide (yX6_init.name = "<init>")) zi_ms r = true := zo_fin (by decide +kernel)
set_option maxRecDepth 100000 in
theorem zv_zc_X6_init_3 : ∀ r ∈ zc_X6_init_3, decode cX6_init r.1 = .ok (r.2.1, r.2.2.1) ∧ zi_lok r = true ∧ zi_ok yX6_init.cls (decide (yX6_init.name = "<init>")) zi_ms r = true := zo_fin (by decide +kernel)
set_option maxRecDepth 100000 in
theorem zm_6 : zi_mP (yX6_init, cX6_init, 2, none, zc_X6_init, 40, 4000) := ⟨zi_tb_rf (t := 877) rfl (by decide +kernel), zi_tb_in (t := 103) (by decide +kernel), by decide +kernel, ⟨by decide +kernel, by decide +kernel⟩, by decide +kernel, List.forall_mem_append.mpr ⟨zv_zc_X6_init_0, List.forall_mem_append.mpr ⟨zv_zc_X6_init_1, List.forall_mem_append.mpr ⟨zv_zc_X6_init_2, zv_zc_X6_init_3⟩⟩⟩⟩
set_option maxRecDepth 100000 in
theorem zv_zc_X1_clear_0 : ∀ r ∈ zc_X1_clear_0, decode cX1_clear r.1 = .ok (r.2.1, r.2.2.1) ∧ zi_lok r = true ∧ zi_ok yX1_clear.cls (decide (yX1_clear.name = "<init>")) zi_ms r = true := zq_fin zq_X1_ok (by decide +kernel)
set_option maxRecDepth 100000 in
theorem zm_7 : zi_mP (yX1_clear, cX1_clear, 1, none, zc_X1_clear, 0, 0) := ⟨zi_tb_rf (t := 149) rfl (by decide +kernel), zi_tb_in (t := 97) (by decide +kernel), by decide +kernel, ⟨by decide +kernel, by decide +kernel⟩, by decide +kernel, zv_zc_X1_clear_0⟩
set_option maxRecDepth 100000 in
theorem zv_zc_X3_clear_0 : ∀ r ∈ zc_X3_clear_0, decode cX3_clear r.1 = .ok (r.2.1, r.2.2.1) ∧ zi_lok r = true ∧ zi_ok yX3_clear.cls (decide (yX3_clear.name = "<init>")) zi_ms r = true := zq_fin zq_X3_ok (by decide +kernel)
set_option maxRecDepth 100000 in
theorem zm_8 : zi_mP (yX3_clear, cX3_clear, 1, none, zc_X3_clear, 0, 0) := ⟨zi_tb_rf (t := 145) rfl (by decide +kernel), zi_tb_in (t := 98) (by decide +kernel), by decide +kernel, ⟨by decide +kernel, by decide +kernel⟩, by decide +kernel, zv_zc_X3_clear_0⟩
set_option maxRecDepth 100000 in
theorem zv_zc_J7_fill_53178_0 : ∀ r ∈ zc_J7_fill_53178_0, decode cJ7_fill_53178 r.1 = .ok (r.2.1, r.2.2.1) ∧ zi_lok r = true ∧ zi_ok yJ7_fill_53178.cls (decide (yJ7_fill_53178.name = "<init>")) zi_ms r = true := zo_fin (by decide +kernel)
set_option maxRecDepth 100000 in
theorem zm_9 : zi_mP (yJ7_fill_53178, cJ7_fill_53178, 4, none, zc_J7_fill_53178, 0, 0) := ⟨zi_tb_rf (t := 152) rfl (by decide +kernel), zi_tb_in (t := 99) (by decide +kernel), by decide +kernel, ⟨by decide +kernel, by decide +kernel⟩, by decide +kernel, zv_zc_J7_fill_53178_0⟩
set_option maxRecDepth 100000 in
theorem zv_zc_X5_screen_0 : ∀ r ∈ zc_X5_screen_0, decode cX5_screen r.1 = .ok (r.2.1, r.2.2.1) ∧ zi_lok r = true ∧ zi_ok yX5_screen.cls (decide (yX5_screen.name = "<init>")) zi_ms r = true := zq_fin zq_X5_ok (by decide +kernel)
set_option maxRecDepth 100000 in
theorem zv_zc_X5_screen_1 : ∀ r ∈ zc_X5_screen_1, decode cX5_screen r.1 = .ok (r.2.1, r.2.2.1) ∧ zi_lok r = true ∧ zi_ok yX5_screen.cls (decide (yX5_screen.name = "<init>")) zi_ms r = true := zq_fin zq_X5_ok (by decide +kernel)
set_option maxRecDepth 100000 in
theorem zm_10 : zi_mP (yX5_screen, cX5_screen, 6, (some FieldType.int), zc_X5_screen, 0, 0) := ⟨zi_tb_rf (t := 313) rfl (by decide +kernel), zi_tb_in (t := 96) (by decide +kernel), by decide +kernel, ⟨by decide +kernel, by decide +kernel⟩, by decide +kernel, List.forall_mem_append.mpr ⟨zv_zc_X5_screen_0, zv_zc_X5_screen_1⟩⟩
set_option maxRecDepth 100000 in
theorem zv_zc_X5_gone_0 : ∀ r ∈ zc_X5_gone_0, decode cX5_gone r.1 = .ok (r.2.1, r.2.2.1) ∧ zi_lok r = true ∧ zi_ok yX5_gone.cls (decide (yX5_gone.name = "<init>")) zi_ms r = true := zq_fin zq_X5_ok (by decide +kernel)
set_option maxRecDepth 100000 in
theorem zv_zc_X5_gone_1 : ∀ r ∈ zc_X5_gone_1, decode cX5_gone r.1 = .ok (r.2.1, r.2.2.1) ∧ zi_lok r = true ∧ zi_ok yX5_gone.cls (decide (yX5_gone.name = "<init>")) zi_ms r = true := zq_fin zq_X5_ok (by decide +kernel)
set_option maxRecDepth 100000 in
theorem zv_zc_X5_gone_2 : ∀ r ∈ zc_X5_gone_2, decode cX5_gone r.1 = .ok (r.2.1, r.2.2.1) ∧ zi_lok r = true ∧ zi_ok yX5_gone.cls (decide (yX5_gone.name = "<init>")) zi_ms r = true := zq_fin zq_X5_ok (by decide +kernel)
set_option maxRecDepth 100000 in
theorem zm_11 : zi_mP (yX5_gone, cX5_gone, 5, (some FieldType.int), zc_X5_gone, 0, 0) := ⟨zi_tb_rf (t := 498) rfl (by decide +kernel), zi_tb_in (t := 96) (by decide +kernel), by decide +kernel, ⟨by decide +kernel, by decide +kernel⟩, by decide +kernel, List.forall_mem_append.mpr ⟨zv_zc_X5_gone_0, List.forall_mem_append.mpr ⟨zv_zc_X5_gone_1, zv_zc_X5_gone_2⟩⟩⟩
set_option maxRecDepth 100000 in
theorem zv_zc_X5_open_0 : ∀ r ∈ zc_X5_open_0, decode cX5_open r.1 = .ok (r.2.1, r.2.2.1) ∧ zi_lok r = true ∧ zi_ok yX5_open.cls (decide (yX5_open.name = "<init>")) zi_ms r = true := zq_fin zq_X5_ok (by decide +kernel)
set_option maxRecDepth 100000 in
theorem zv_zc_X5_open_1 : ∀ r ∈ zc_X5_open_1, decode cX5_open r.1 = .ok (r.2.1, r.2.2.1) ∧ zi_lok r = true ∧ zi_ok yX5_open.cls (decide (yX5_open.name = "<init>")) zi_ms r = true := zq_fin zq_X5_ok (by decide +kernel)
set_option maxRecDepth 100000 in
theorem zv_zc_X5_open_2 : ∀ r ∈ zc_X5_open_2, decode cX5_open r.1 = .ok (r.2.1, r.2.2.1) ∧ zi_lok r = true ∧ zi_ok yX5_open.cls (decide (yX5_open.name = "<init>")) zi_ms r = true := zq_fin zq_X5_ok (by decide +kernel)
set_option maxRecDepth 100000 in
theorem zm_12 : zi_mP (yX5_open, cX5_open, 8, (some FieldType.int), zc_X5_open, 0, 0) := ⟨zi_tb_rf (t := 556) rfl (by decide +kernel), zi_tb_in (t := 96) (by decide +kernel), by decide +kernel, ⟨by decide +kernel, by decide +kernel⟩, by decide +kernel, List.forall_mem_append.mpr ⟨zv_zc_X5_open_0, List.forall_mem_append.mpr ⟨zv_zc_X5_open_1, zv_zc_X5_open_2⟩⟩⟩
set_option maxRecDepth 100000 in
theorem zv_zc_X5_close_0 : ∀ r ∈ zc_X5_close_0, decode cX5_close r.1 = .ok (r.2.1, r.2.2.1) ∧ zi_lok r = true ∧ zi_ok yX5_close.cls (decide (yX5_close.name = "<init>")) zi_ms r = true := zq_fin zq_X5_ok (by decide +kernel)
set_option maxRecDepth 100000 in
theorem zm_13 : zi_mP (yX5_close, cX5_close, 4, (some FieldType.int), zc_X5_close, 0, 0) := ⟨zi_tb_rf (t := 685) rfl (by decide +kernel), zi_tb_in (t := 96) (by decide +kernel), by decide +kernel, ⟨by decide +kernel, by decide +kernel⟩, by decide +kernel, zv_zc_X5_close_0⟩
set_option maxRecDepth 100000 in
theorem zv_zc_X5_focus_0 : ∀ r ∈ zc_X5_focus_0, decode cX5_focus r.1 = .ok (r.2.1, r.2.2.1) ∧ zi_lok r = true ∧ zi_ok yX5_focus.cls (decide (yX5_focus.name = "<init>")) zi_ms r = true := zq_fin zq_X5_ok (by decide +kernel)
set_option maxRecDepth 100000 in
theorem zm_14 : zi_mP (yX5_focus, cX5_focus, 3, (some FieldType.int), zc_X5_focus, 0, 0) := ⟨zi_tb_rf (t := 698) rfl (by decide +kernel), zi_tb_in (t := 96) (by decide +kernel), by decide +kernel, ⟨by decide +kernel, by decide +kernel⟩, by decide +kernel, zv_zc_X5_focus_0⟩
set_option maxRecDepth 100000 in
theorem zv_zc_X5_back_0 : ∀ r ∈ zc_X5_back_0, decode cX5_back r.1 = .ok (r.2.1, r.2.2.1) ∧ zi_lok r = true ∧ zi_ok yX5_back.cls (decide (yX5_back.name = "<init>")) zi_ms r = true := zq_fin zq_X5_ok (by decide +kernel)
set_option maxRecDepth 100000 in
theorem zm_15 : zi_mP (yX5_back, cX5_back, 2, (some FieldType.int), zc_X5_back, 0, 0) := ⟨zi_tb_rf (t := 702) rfl (by decide +kernel), zi_tb_in (t := 96) (by decide +kernel), by decide +kernel, ⟨by decide +kernel, by decide +kernel⟩, by decide +kernel, zv_zc_X5_back_0⟩
set_option maxRecDepth 100000 in
theorem zv_zc_X5_toward_0 : ∀ r ∈ zc_X5_toward_0, decode cX5_toward r.1 = .ok (r.2.1, r.2.2.1) ∧ zi_lok r = true ∧ zi_ok yX5_toward.cls (decide (yX5_toward.name = "<init>")) zi_ms r = true := zq_fin zq_X5_ok (by decide +kernel)
set_option maxRecDepth 100000 in
theorem zm_16 : zi_mP (yX5_toward, cX5_toward, 4, (some FieldType.int), zc_X5_toward, 0, 0) := ⟨zi_tb_rf (t := 706) rfl (by decide +kernel), zi_tb_in (t := 96) (by decide +kernel), by decide +kernel, ⟨by decide +kernel, by decide +kernel⟩, by decide +kernel, zv_zc_X5_toward_0⟩
set_option maxRecDepth 100000 in
theorem zv_zc_X5_steps_0 : ∀ r ∈ zc_X5_steps_0, decode cX5_steps r.1 = .ok (r.2.1, r.2.2.1) ∧ zi_lok r = true ∧ zi_ok yX5_steps.cls (decide (yX5_steps.name = "<init>")) zi_ms r = true := zq_fin zq_X5_ok (by decide +kernel)
set_option maxRecDepth 100000 in
theorem zv_zc_X5_steps_1 : ∀ r ∈ zc_X5_steps_1, decode cX5_steps r.1 = .ok (r.2.1, r.2.2.1) ∧ zi_lok r = true ∧ zi_ok yX5_steps.cls (decide (yX5_steps.name = "<init>")) zi_ms r = true := zq_fin zq_X5_ok (by decide +kernel)
set_option maxRecDepth 100000 in
theorem zm_17 : zi_mP (yX5_steps, cX5_steps, 4, (some FieldType.int), zc_X5_steps, 0, 0) := ⟨zi_tb_rf (t := 747) rfl (by decide +kernel), zi_tb_in (t := 96) (by decide +kernel), by decide +kernel, ⟨by decide +kernel, by decide +kernel⟩, by decide +kernel, List.forall_mem_append.mpr ⟨zv_zc_X5_steps_0, zv_zc_X5_steps_1⟩⟩
set_option maxRecDepth 100000 in
theorem zv_zc_X5_drag_0 : ∀ r ∈ zc_X5_drag_0, decode cX5_drag r.1 = .ok (r.2.1, r.2.2.1) ∧ zi_lok r = true ∧ zi_ok yX5_drag.cls (decide (yX5_drag.name = "<init>")) zi_ms r = true := zq_fin zq_X5_ok (by decide +kernel)
set_option maxRecDepth 100000 in
theorem zv_zc_X5_drag_1 : ∀ r ∈ zc_X5_drag_1, decode cX5_drag r.1 = .ok (r.2.1, r.2.2.1) ∧ zi_lok r = true ∧ zi_ok yX5_drag.cls (decide (yX5_drag.name = "<init>")) zi_ms r = true := zq_fin zq_X5_ok (by decide +kernel)
set_option maxRecDepth 100000 in
theorem zv_zc_X5_drag_2 : ∀ r ∈ zc_X5_drag_2, decode cX5_drag r.1 = .ok (r.2.1, r.2.2.1) ∧ zi_lok r = true ∧ zi_ok yX5_drag.cls (decide (yX5_drag.name = "<init>")) zi_ms r = true := zq_fin zq_X5_ok (by decide +kernel)
set_option maxRecDepth 100000 in
theorem zm_18 : zi_mP (yX5_drag, cX5_drag, 6, (some FieldType.int), zc_X5_drag, 0, 0) := ⟨zi_tb_rf (t := 759) rfl (by decide +kernel), zi_tb_in (t := 96) (by decide +kernel), by decide +kernel, ⟨by decide +kernel, by decide +kernel⟩, by decide +kernel, List.forall_mem_append.mpr ⟨zv_zc_X5_drag_0, List.forall_mem_append.mpr ⟨zv_zc_X5_drag_1, zv_zc_X5_drag_2⟩⟩⟩
set_option maxRecDepth 100000 in
theorem zv_zc_X5_move_0 : ∀ r ∈ zc_X5_move_0, decode cX5_move r.1 = .ok (r.2.1, r.2.2.1) ∧ zi_lok r = true ∧ zi_ok yX5_move.cls (decide (yX5_move.name = "<init>")) zi_ms r = true := zq_fin zq_X5_ok (by decide +kernel)
set_option maxRecDepth 100000 in
theorem zv_zc_X5_move_1 : ∀ r ∈ zc_X5_move_1, decode cX5_move r.1 = .ok (r.2.1, r.2.2.1) ∧ zi_lok r = true ∧ zi_ok yX5_move.cls (decide (yX5_move.name = "<init>")) zi_ms r = true := zq_fin zq_X5_ok (by decide +kernel)
set_option maxRecDepth 100000 in
theorem zm_19 : zi_mP (yX5_move, cX5_move, 5, (some FieldType.int), zc_X5_move, 0, 0) := ⟨zi_tb_rf (t := 769) rfl (by decide +kernel), zi_tb_in (t := 96) (by decide +kernel), by decide +kernel, ⟨by decide +kernel, by decide +kernel⟩, by decide +kernel, List.forall_mem_append.mpr ⟨zv_zc_X5_move_0, zv_zc_X5_move_1⟩⟩
set_option maxRecDepth 100000 in
theorem zv_zc_X5_share_0 : ∀ r ∈ zc_X5_share_0, decode cX5_share r.1 = .ok (r.2.1, r.2.2.1) ∧ zi_lok r = true ∧ zi_ok yX5_share.cls (decide (yX5_share.name = "<init>")) zi_ms r = true := zq_fin zq_X5_ok (by decide +kernel)
set_option maxRecDepth 100000 in
theorem zv_zc_X5_share_1 : ∀ r ∈ zc_X5_share_1, decode cX5_share r.1 = .ok (r.2.1, r.2.2.1) ∧ zi_lok r = true ∧ zi_ok yX5_share.cls (decide (yX5_share.name = "<init>")) zi_ms r = true := zq_fin zq_X5_ok (by decide +kernel)
set_option maxRecDepth 100000 in
theorem zm_20 : zi_mP (yX5_share, cX5_share, 6, (some FieldType.int), zc_X5_share, 0, 0) := ⟨zi_tb_rf (t := 777) rfl (by decide +kernel), zi_tb_in (t := 96) (by decide +kernel), by decide +kernel, ⟨by decide +kernel, by decide +kernel⟩, by decide +kernel, List.forall_mem_append.mpr ⟨zv_zc_X5_share_0, zv_zc_X5_share_1⟩⟩
set_option maxRecDepth 100000 in
theorem zv_zc_X5_area_0 : ∀ r ∈ zc_X5_area_0, decode cX5_area r.1 = .ok (r.2.1, r.2.2.1) ∧ zi_lok r = true ∧ zi_ok yX5_area.cls (decide (yX5_area.name = "<init>")) zi_ms r = true := zq_fin zq_X5_ok (by decide +kernel)
set_option maxRecDepth 100000 in
theorem zm_21 : zi_mP (yX5_area, cX5_area, 3, (some FieldType.int), zc_X5_area, 0, 0) := ⟨zi_tb_rf (t := 792) rfl (by decide +kernel), zi_tb_in (t := 96) (by decide +kernel), by decide +kernel, ⟨by decide +kernel, by decide +kernel⟩, by decide +kernel, zv_zc_X5_area_0⟩
set_option maxRecDepth 100000 in
theorem zv_zc_X5_about_0 : ∀ r ∈ zc_X5_about_0, decode cX5_about r.1 = .ok (r.2.1, r.2.2.1) ∧ zi_lok r = true ∧ zi_ok yX5_about.cls (decide (yX5_about.name = "<init>")) zi_ms r = true := zq_fin zq_X5_ok (by decide +kernel)
set_option maxRecDepth 100000 in
theorem zv_zc_X5_about_1 : ∀ r ∈ zc_X5_about_1, decode cX5_about r.1 = .ok (r.2.1, r.2.2.1) ∧ zi_lok r = true ∧ zi_ok yX5_about.cls (decide (yX5_about.name = "<init>")) zi_ms r = true := zq_fin zq_X5_ok (by decide +kernel)
set_option maxRecDepth 100000 in
theorem zm_22 : zi_mP (yX5_about, cX5_about, 4, (some FieldType.int), zc_X5_about, 0, 0) := ⟨zi_tb_rf (t := 796) rfl (by decide +kernel), zi_tb_in (t := 96) (by decide +kernel), by decide +kernel, ⟨by decide +kernel, by decide +kernel⟩, by decide +kernel, List.forall_mem_append.mpr ⟨zv_zc_X5_about_0, zv_zc_X5_about_1⟩⟩
set_option maxRecDepth 100000 in
theorem zv_zc_X5_isOf_0 : ∀ r ∈ zc_X5_isOf_0, decode cX5_isOf r.1 = .ok (r.2.1, r.2.2.1) ∧ zi_lok r = true ∧ zi_ok yX5_isOf.cls (decide (yX5_isOf.name = "<init>")) zi_ms r = true := zq_fin zq_X5_ok (by decide +kernel)
set_option maxRecDepth 100000 in
theorem zm_23 : zi_mP (yX5_isOf, cX5_isOf, 3, (some FieldType.int), zc_X5_isOf, 0, 0) := ⟨zi_tb_rf (t := 801) rfl (by decide +kernel), zi_tb_in (t := 96) (by decide +kernel), by decide +kernel, ⟨by decide +kernel, by decide +kernel⟩, by decide +kernel, zv_zc_X5_isOf_0⟩
set_option maxRecDepth 100000 in
theorem zv_zc_X5_at_0 : ∀ r ∈ zc_X5_at_0, decode cX5_at r.1 = .ok (r.2.1, r.2.2.1) ∧ zi_lok r = true ∧ zi_ok yX5_at.cls (decide (yX5_at.name = "<init>")) zi_ms r = true := zq_fin zq_X5_ok (by decide +kernel)
set_option maxRecDepth 100000 in
theorem zv_zc_X5_at_1 : ∀ r ∈ zc_X5_at_1, decode cX5_at r.1 = .ok (r.2.1, r.2.2.1) ∧ zi_lok r = true ∧ zi_ok yX5_at.cls (decide (yX5_at.name = "<init>")) zi_ms r = true := zq_fin zq_X5_ok (by decide +kernel)
set_option maxRecDepth 100000 in
theorem zm_24 : zi_mP (yX5_at, cX5_at, 6, (some FieldType.int), zc_X5_at, 0, 0) := ⟨zi_tb_rf (t := 809) rfl (by decide +kernel), zi_tb_in (t := 96) (by decide +kernel), by decide +kernel, ⟨by decide +kernel, by decide +kernel⟩, by decide +kernel, List.forall_mem_append.mpr ⟨zv_zc_X5_at_0, zv_zc_X5_at_1⟩⟩
set_option maxRecDepth 100000 in
theorem zv_zc_X5_neighbour_0 : ∀ r ∈ zc_X5_neighbour_0, decode cX5_neighbour r.1 = .ok (r.2.1, r.2.2.1) ∧ zi_lok r = true ∧ zi_ok yX5_neighbour.cls (decide (yX5_neighbour.name = "<init>")) zi_ms r = true := zq_fin zq_X5_ok (by decide +kernel)
set_option maxRecDepth 100000 in
theorem zm_25 : zi_mP (yX5_neighbour, cX5_neighbour, 3, (some FieldType.int), zc_X5_neighbour, 0, 0) := ⟨zi_tb_rf (t := 832) rfl (by decide +kernel), zi_tb_in (t := 96) (by decide +kernel), by decide +kernel, ⟨by decide +kernel, by decide +kernel⟩, by decide +kernel, zv_zc_X5_neighbour_0⟩
set_option maxRecDepth 100000 in
theorem zv_zc_X5_told_0 : ∀ r ∈ zc_X5_told_0, decode cX5_told r.1 = .ok (r.2.1, r.2.2.1) ∧ zi_lok r = true ∧ zi_ok yX5_told.cls (decide (yX5_told.name = "<init>")) zi_ms r = true := zq_fin zq_X5_ok (by decide +kernel)
set_option maxRecDepth 100000 in
theorem zv_zc_X5_told_1 : ∀ r ∈ zc_X5_told_1, decode cX5_told r.1 = .ok (r.2.1, r.2.2.1) ∧ zi_lok r = true ∧ zi_ok yX5_told.cls (decide (yX5_told.name = "<init>")) zi_ms r = true := zq_fin zq_X5_ok (by decide +kernel)
set_option maxRecDepth 100000 in
theorem zm_26 : zi_mP (yX5_told, cX5_told, 4, (some FieldType.int), zc_X5_told, 0, 0) := ⟨zi_tb_rf (t := 836) rfl (by decide +kernel), zi_tb_in (t := 96) (by decide +kernel), by decide +kernel, ⟨by decide +kernel, by decide +kernel⟩, by decide +kernel, List.forall_mem_append.mpr ⟨zv_zc_X5_told_0, zv_zc_X5_told_1⟩⟩
set_option maxRecDepth 100000 in
theorem zv_zc_X5_tab_0 : ∀ r ∈ zc_X5_tab_0, decode cX5_tab r.1 = .ok (r.2.1, r.2.2.1) ∧ zi_lok r = true ∧ zi_ok yX5_tab.cls (decide (yX5_tab.name = "<init>")) zi_ms r = true := zq_fin zq_X5_ok (by decide +kernel)
set_option maxRecDepth 100000 in
theorem zv_zc_X5_tab_1 : ∀ r ∈ zc_X5_tab_1, decode cX5_tab r.1 = .ok (r.2.1, r.2.2.1) ∧ zi_lok r = true ∧ zi_ok yX5_tab.cls (decide (yX5_tab.name = "<init>")) zi_ms r = true := zq_fin zq_X5_ok (by decide +kernel)
set_option maxRecDepth 100000 in
theorem zm_27 : zi_mP (yX5_tab, cX5_tab, 6, (some FieldType.int), zc_X5_tab, 0, 0) := ⟨zi_tb_rf (t := 850) rfl (by decide +kernel), zi_tb_in (t := 96) (by decide +kernel), by decide +kernel, ⟨by decide +kernel, by decide +kernel⟩, by decide +kernel, List.forall_mem_append.mpr ⟨zv_zc_X5_tab_0, zv_zc_X5_tab_1⟩⟩
set_option maxRecDepth 100000 in
theorem zv_zc_X5_count_0 : ∀ r ∈ zc_X5_count_0, decode cX5_count r.1 = .ok (r.2.1, r.2.2.1) ∧ zi_lok r = true ∧ zi_ok yX5_count.cls (decide (yX5_count.name = "<init>")) zi_ms r = true := zq_fin zq_X5_ok (by decide +kernel)
set_option maxRecDepth 100000 in
theorem zm_28 : zi_mP (yX5_count, cX5_count, 2, (some FieldType.int), zc_X5_count, 0, 0) := ⟨zi_tb_rf (t := 860) rfl (by decide +kernel), zi_tb_in (t := 96) (by decide +kernel), by decide +kernel, ⟨by decide +kernel, by decide +kernel⟩, by decide +kernel, zv_zc_X5_count_0⟩
set_option maxRecDepth 100000 in
theorem zv_zc_X5_isScreen_0 : ∀ r ∈ zc_X5_isScreen_0, decode cX5_isScreen r.1 = .ok (r.2.1, r.2.2.1) ∧ zi_lok r = true ∧ zi_ok yX5_isScreen.cls (decide (yX5_isScreen.name = "<init>")) zi_ms r = true := zq_fin zq_X5_ok (by decide +kernel)
set_option maxRecDepth 100000 in
theorem zm_29 : zi_mP (yX5_isScreen, cX5_isScreen, 1, (some FieldType.boolean), zc_X5_isScreen, 0, 0) := ⟨zi_tb_rf (t := 316) rfl (by decide +kernel), zi_tb_in (t := 96) (by decide +kernel), by decide +kernel, ⟨by decide +kernel, by decide +kernel⟩, by decide +kernel, zv_zc_X5_isScreen_0⟩
set_option maxRecDepth 100000 in
theorem zv_zc_X5_isScreenSize_0 : ∀ r ∈ zc_X5_isScreenSize_0, decode cX5_isScreenSize r.1 = .ok (r.2.1, r.2.2.1) ∧ zi_lok r = true ∧ zi_ok yX5_isScreenSize.cls (decide (yX5_isScreenSize.name = "<init>")) zi_ms r = true := zq_fin zq_X5_ok (by decide +kernel)
set_option maxRecDepth 100000 in
theorem zm_30 : zi_mP (yX5_isScreenSize, cX5_isScreenSize, 1, (some FieldType.boolean), zc_X5_isScreenSize, 0, 0) := ⟨zi_tb_rf (t := 319) rfl (by decide +kernel), zi_tb_in (t := 96) (by decide +kernel), by decide +kernel, ⟨by decide +kernel, by decide +kernel⟩, by decide +kernel, zv_zc_X5_isScreenSize_0⟩
set_option maxRecDepth 100000 in
theorem zv_zc_X5_isWindowSize_0 : ∀ r ∈ zc_X5_isWindowSize_0, decode cX5_isWindowSize r.1 = .ok (r.2.1, r.2.2.1) ∧ zi_lok r = true ∧ zi_ok yX5_isWindowSize.cls (decide (yX5_isWindowSize.name = "<init>")) zi_ms r = true := zq_fin zq_X5_ok (by decide +kernel)
set_option maxRecDepth 100000 in
theorem zm_31 : zi_mP (yX5_isWindowSize, cX5_isWindowSize, 1, (some FieldType.boolean), zc_X5_isWindowSize, 0, 0) := ⟨zi_tb_rf (t := 559) rfl (by decide +kernel), zi_tb_in (t := 96) (by decide +kernel), by decide +kernel, ⟨by decide +kernel, by decide +kernel⟩, by decide +kernel, zv_zc_X5_isWindowSize_0⟩
set_option maxRecDepth 100000 in
theorem zv_zc_X5_isSide_0 : ∀ r ∈ zc_X5_isSide_0, decode cX5_isSide r.1 = .ok (r.2.1, r.2.2.1) ∧ zi_lok r = true ∧ zi_ok yX5_isSide.cls (decide (yX5_isSide.name = "<init>")) zi_ms r = true := zq_fin zq_X5_ok (by decide +kernel)
set_option maxRecDepth 100000 in
theorem zm_32 : zi_mP (yX5_isSide, cX5_isSide, 1, (some FieldType.boolean), zc_X5_isSide, 0, 0) := ⟨zi_tb_rf (t := 709) rfl (by decide +kernel), zi_tb_in (t := 96) (by decide +kernel), by decide +kernel, ⟨by decide +kernel, by decide +kernel⟩, by decide +kernel, zv_zc_X5_isSide_0⟩
set_option maxRecDepth 100000 in
theorem zv_zc_X5_isAxis_0 : ∀ r ∈ zc_X5_isAxis_0, decode cX5_isAxis r.1 = .ok (r.2.1, r.2.2.1) ∧ zi_lok r = true ∧ zi_ok yX5_isAxis.cls (decide (yX5_isAxis.name = "<init>")) zi_ms r = true := zq_fin zq_X5_ok (by decide +kernel)
set_option maxRecDepth 100000 in
theorem zm_33 : zi_mP (yX5_isAxis, cX5_isAxis, 1, (some FieldType.boolean), zc_X5_isAxis, 0, 0) := ⟨zi_tb_rf (t := 780) rfl (by decide +kernel), zi_tb_in (t := 96) (by decide +kernel), by decide +kernel, ⟨by decide +kernel, by decide +kernel⟩, by decide +kernel, zv_zc_X5_isAxis_0⟩
set_option maxRecDepth 100000 in
theorem zv_zc_X5_isPlace_0 : ∀ r ∈ zc_X5_isPlace_0, decode cX5_isPlace r.1 = .ok (r.2.1, r.2.2.1) ∧ zi_lok r = true ∧ zi_ok yX5_isPlace.cls (decide (yX5_isPlace.name = "<init>")) zi_ms r = true := zq_fin zq_X5_ok (by decide +kernel)
set_option maxRecDepth 100000 in
theorem zm_34 : zi_mP (yX5_isPlace, cX5_isPlace, 1, (some FieldType.boolean), zc_X5_isPlace, 0, 0) := ⟨zi_tb_rf (t := 772) rfl (by decide +kernel), zi_tb_in (t := 96) (by decide +kernel), by decide +kernel, ⟨by decide +kernel, by decide +kernel⟩, by decide +kernel, zv_zc_X5_isPlace_0⟩
set_option maxRecDepth 100000 in
theorem zv_zc_X5_isWindow_0 : ∀ r ∈ zc_X5_isWindow_0, decode cX5_isWindow r.1 = .ok (r.2.1, r.2.2.1) ∧ zi_lok r = true ∧ zi_ok yX5_isWindow.cls (decide (yX5_isWindow.name = "<init>")) zi_ms r = true := zq_fin zq_X5_ok (by decide +kernel)
set_option maxRecDepth 100000 in
theorem zm_35 : zi_mP (yX5_isWindow, cX5_isWindow, 2, (some FieldType.boolean), zc_X5_isWindow, 0, 0) := ⟨zi_tb_rf (t := 352) rfl (by decide +kernel), zi_tb_in (t := 96) (by decide +kernel), by decide +kernel, ⟨by decide +kernel, by decide +kernel⟩, by decide +kernel, zv_zc_X5_isWindow_0⟩
set_option maxRecDepth 100000 in
theorem zv_zc_X5_isShownTile_0 : ∀ r ∈ zc_X5_isShownTile_0, decode cX5_isShownTile r.1 = .ok (r.2.1, r.2.2.1) ∧ zi_lok r = true ∧ zi_ok yX5_isShownTile.cls (decide (yX5_isShownTile.name = "<init>")) zi_ms r = true := zq_fin zq_X5_ok (by decide +kernel)
set_option maxRecDepth 100000 in
theorem zm_36 : zi_mP (yX5_isShownTile, cX5_isShownTile, 2, (some FieldType.boolean), zc_X5_isShownTile, 0, 0) := ⟨zi_tb_rf (t := 713) rfl (by decide +kernel), zi_tb_in (t := 96) (by decide +kernel), by decide +kernel, ⟨by decide +kernel, by decide +kernel⟩, by decide +kernel, zv_zc_X5_isShownTile_0⟩
set_option maxRecDepth 100000 in
theorem zv_zc_X5_leastScreenBut_0 : ∀ r ∈ zc_X5_leastScreenBut_0, decode cX5_leastScreenBut r.1 = .ok (r.2.1, r.2.2.1) ∧ zi_lok r = true ∧ zi_ok yX5_leastScreenBut.cls (decide (yX5_leastScreenBut.name = "<init>")) zi_ms r = true := zq_fin zq_X5_ok (by decide +kernel)
set_option maxRecDepth 100000 in
theorem zm_37 : zi_mP (yX5_leastScreenBut, cX5_leastScreenBut, 3, (some FieldType.int), zc_X5_leastScreenBut, 0, 0) := ⟨zi_tb_rf (t := 502) rfl (by decide +kernel), zi_tb_in (t := 96) (by decide +kernel), by decide +kernel, ⟨by decide +kernel, by decide +kernel⟩, by decide +kernel, zv_zc_X5_leastScreenBut_0⟩
set_option maxRecDepth 100000 in
theorem zv_zc_X5_screenAtHand_0 : ∀ r ∈ zc_X5_screenAtHand_0, decode cX5_screenAtHand r.1 = .ok (r.2.1, r.2.2.1) ∧ zi_lok r = true ∧ zi_ok yX5_screenAtHand.cls (decide (yX5_screenAtHand.name = "<init>")) zi_ms r = true := zq_fin zq_X5_ok (by decide +kernel)
set_option maxRecDepth 100000 in
theorem zm_38 : zi_mP (yX5_screenAtHand, cX5_screenAtHand, 3, (some FieldType.int), zc_X5_screenAtHand, 0, 0) := ⟨zi_tb_rf (t := 572) rfl (by decide +kernel), zi_tb_in (t := 96) (by decide +kernel), by decide +kernel, ⟨by decide +kernel, by decide +kernel⟩, by decide +kernel, zv_zc_X5_screenAtHand_0⟩
set_option maxRecDepth 100000 in
theorem zv_zc_X5_screensThere_0 : ∀ r ∈ zc_X5_screensThere_0, decode cX5_screensThere r.1 = .ok (r.2.1, r.2.2.1) ∧ zi_lok r = true ∧ zi_ok yX5_screensThere.cls (decide (yX5_screensThere.name = "<init>")) zi_ms r = true := zq_fin zq_X5_ok (by decide +kernel)
set_option maxRecDepth 100000 in
theorem zm_39 : zi_mP (yX5_screensThere, cX5_screensThere, 3, (some FieldType.int), zc_X5_screensThere, 0, 0) := ⟨zi_tb_rf (t := 864) rfl (by decide +kernel), zi_tb_in (t := 96) (by decide +kernel), by decide +kernel, ⟨by decide +kernel, by decide +kernel⟩, by decide +kernel, zv_zc_X5_screensThere_0⟩
set_option maxRecDepth 100000 in
theorem zv_zc_X5_screensWithKept_0 : ∀ r ∈ zc_X5_screensWithKept_0, decode cX5_screensWithKept r.1 = .ok (r.2.1, r.2.2.1) ∧ zi_lok r = true ∧ zi_ok yX5_screensWithKept.cls (decide (yX5_screensWithKept.name = "<init>")) zi_ms r = true := zq_fin zq_X5_ok (by decide +kernel)
set_option maxRecDepth 100000 in
theorem zm_40 : zi_mP (yX5_screensWithKept, cX5_screensWithKept, 3, (some FieldType.int), zc_X5_screensWithKept, 0, 0) := ⟨zi_tb_rf (t := 872) rfl (by decide +kernel), zi_tb_in (t := 96) (by decide +kernel), by decide +kernel, ⟨by decide +kernel, by decide +kernel⟩, by decide +kernel, zv_zc_X5_screensWithKept_0⟩
