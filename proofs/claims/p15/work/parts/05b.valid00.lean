def zi_mP (mt : zi_Me) : Prop := Cond.code mt.1 mt.2.1 mt.2.2.1 mt.2.2.2.1 ∈ zi_Ts ∧ Cond.initialized mt.1.cls ∈ zi_Ts ∧ plainFor mt.1 = true ∧ (mt.1.cls ≠ "java/lang/invoke/MethodHandle" ∧ mt.1.cls ≠ "java/lang/invoke/VarHandle") ∧ mt.2.2.1 ≤ 21 ∧
  ∀ r ∈ mt.2.2.2.2.1, decode mt.2.1 r.1 = .ok (r.2.1, r.2.2.1) ∧ zi_lok r = true ∧ zi_ok mt.1.cls (decide (mt.1.name = "<init>")) zi_ms r = true
set_option maxRecDepth 100000 in
theorem zv_zc_X5_init_0 : ∀ r ∈ zc_X5_init_0, decode cX5_init r.1 = .ok (r.2.1, r.2.2.1) ∧ zi_lok r = true ∧ zi_ok yX5_init.cls (decide (yX5_init.name = "<init>")) zi_ms r = true := by decide +kernel
set_option maxRecDepth 100000 in
theorem zv_zc_X5_init_1 : ∀ r ∈ zc_X5_init_1, decode cX5_init r.1 = .ok (r.2.1, r.2.2.1) ∧ zi_lok r = true ∧ zi_ok yX5_init.cls (decide (yX5_init.name = "<init>")) zi_ms r = true := by decide +kernel
set_option maxRecDepth 100000 in
theorem zm_0 : zi_mP (yX5_init, cX5_init, 2, none, zc_X5_init, 400, 8000) := ⟨zi_tb_in (t := 110) (by decide +kernel), zi_tb_in (t := 96) (by decide +kernel), by decide +kernel, ⟨by decide +kernel, by decide +kernel⟩, by decide +kernel, List.forall_mem_append.mpr ⟨zv_zc_X5_init_0, zv_zc_X5_init_1⟩⟩
set_option maxRecDepth 100000 in
theorem zv_zc_X1_init_0 : ∀ r ∈ zc_X1_init_0, decode cX1_init r.1 = .ok (r.2.1, r.2.2.1) ∧ zi_lok r = true ∧ zi_ok yX1_init.cls (decide (yX1_init.name = "<init>")) zi_ms r = true := by decide +kernel
set_option maxRecDepth 100000 in
theorem zm_1 : zi_mP (yX1_init, cX1_init, 1, none, zc_X1_init, 1, 10) := ⟨zi_tb_in (t := 122) (by decide +kernel), zi_tb_in (t := 97) (by decide +kernel), by decide +kernel, ⟨by decide +kernel, by decide +kernel⟩, by decide +kernel, zv_zc_X1_init_0⟩
set_option maxRecDepth 100000 in
theorem zv_zc_X3_init_0 : ∀ r ∈ zc_X3_init_0, decode cX3_init r.1 = .ok (r.2.1, r.2.2.1) ∧ zi_lok r = true ∧ zi_ok yX3_init.cls (decide (yX3_init.name = "<init>")) zi_ms r = true := by decide +kernel
set_option maxRecDepth 100000 in
theorem zv_zc_X3_init_1 : ∀ r ∈ zc_X3_init_1, decode cX3_init r.1 = .ok (r.2.1, r.2.2.1) ∧ zi_lok r = true ∧ zi_ok yX3_init.cls (decide (yX3_init.name = "<init>")) zi_ms r = true := by decide +kernel
set_option maxRecDepth 100000 in
theorem zm_2 : zi_mP (yX3_init, cX3_init, 1, none, zc_X3_init, 30, 600) := ⟨zi_tb_in (t := 136) (by decide +kernel), zi_tb_in (t := 98) (by decide +kernel), by decide +kernel, ⟨by decide +kernel, by decide +kernel⟩, by decide +kernel, List.forall_mem_append.mpr ⟨zv_zc_X3_init_0, zv_zc_X3_init_1⟩⟩
set_option maxRecDepth 100000 in
theorem zv_zc_X4_init_0 : ∀ r ∈ zc_X4_init_0, decode cX4_init r.1 = .ok (r.2.1, r.2.2.1) ∧ zi_lok r = true ∧ zi_ok yX4_init.cls (decide (yX4_init.name = "<init>")) zi_ms r = true := by decide +kernel
set_option maxRecDepth 100000 in
theorem zm_3 : zi_mP (yX4_init, cX4_init, 1, none, zc_X4_init, 2, 4) := ⟨zi_tb_in (t := 205) (by decide +kernel), zi_tb_in (t := 100) (by decide +kernel), by decide +kernel, ⟨by decide +kernel, by decide +kernel⟩, by decide +kernel, zv_zc_X4_init_0⟩
set_option maxRecDepth 100000 in
theorem zv_zc_X2_init_0 : ∀ r ∈ zc_X2_init_0, decode cX2_init r.1 = .ok (r.2.1, r.2.2.1) ∧ zi_lok r = true ∧ zi_ok yX2_init.cls (decide (yX2_init.name = "<init>")) zi_ms r = true := by decide +kernel
set_option maxRecDepth 100000 in
theorem zm_4 : zi_mP (yX2_init, cX2_init, 1, none, zc_X2_init, 80, 1600) := ⟨zi_tb_in (t := 236) (by decide +kernel), zi_tb_in (t := 101) (by decide +kernel), by decide +kernel, ⟨by decide +kernel, by decide +kernel⟩, by decide +kernel, zv_zc_X2_init_0⟩
set_option maxRecDepth 100000 in
theorem zv_zc_X0_init_0 : ∀ r ∈ zc_X0_init_0, decode cX0_init r.1 = .ok (r.2.1, r.2.2.1) ∧ zi_lok r = true ∧ zi_ok yX0_init.cls (decide (yX0_init.name = "<init>")) zi_ms r = true := by decide +kernel
set_option maxRecDepth 100000 in
theorem zm_5 : zi_mP (yX0_init, cX0_init, 1, none, zc_X0_init, 40, 800) := ⟨zi_tb_in (t := 244) (by decide +kernel), zi_tb_in (t := 102) (by decide +kernel), by decide +kernel, ⟨by decide +kernel, by decide +kernel⟩, by decide +kernel, zv_zc_X0_init_0⟩
set_option maxRecDepth 100000 in
theorem zv_zc_X6_init_0 : ∀ r ∈ zc_X6_init_0, decode cX6_init r.1 = .ok (r.2.1, r.2.2.1) ∧ zi_lok r = true ∧ zi_ok yX6_init.cls (decide (yX6_init.name = "<init>")) zi_ms r = true := by decide +kernel
set_option maxRecDepth 100000 in
theorem zv_zc_X6_init_1 : ∀ r ∈ zc_X6_init_1, decode cX6_init r.1 = .ok (r.2.1, r.2.2.1) ∧ zi_lok r = true ∧ zi_ok yX6_init.cls (decide (yX6_init.name = "<init>")) zi_ms r = true := by decide +kernel
set_option maxRecDepth 100000 in
theorem zv_zc_X6_init_2 : ∀ r ∈ zc_X6_init_2, decode cX6_init r.1 = .ok (r.2.1, r.2.2.1) ∧ zi_lok r = true ∧ zi_ok yX6_init.cls (decide (yX6_init.name = "<init>")) zi_ms r = true := by decide +kernel
set_option maxRecDepth 100000 in
theorem zv_zc_X6_init_3 : ∀ r ∈ zc_X6_init_3, decode cX6_init r.1 = .ok (r.2.1, r.2.2.1) ∧ zi_lok r = true ∧ zi_ok yX6_init.cls (decide (yX6_init.name = "<init>")) zi_ms r = true := by decide +kernel
set_option maxRecDepth 100000 in
theorem zm_6 : zi_mP (yX6_init, cX6_init, 2, none, zc_X6_init, 40, 4000) := ⟨zi_tb_in (t := 877) (by decide +kernel), zi_tb_in (t := 103) (by decide +kernel), by decide +kernel, ⟨by decide +kernel, by decide +kernel⟩, by decide +kernel, List.forall_mem_append.mpr ⟨zv_zc_X6_init_0, List.forall_mem_append.mpr ⟨zv_zc_X6_init_1, List.forall_mem_append.mpr ⟨zv_zc_X6_init_2, zv_zc_X6_init_3⟩⟩⟩⟩
set_option maxRecDepth 100000 in
theorem zv_zc_X1_clear_0 : ∀ r ∈ zc_X1_clear_0, decode cX1_clear r.1 = .ok (r.2.1, r.2.2.1) ∧ zi_lok r = true ∧ zi_ok yX1_clear.cls (decide (yX1_clear.name = "<init>")) zi_ms r = true := by decide +kernel
set_option maxRecDepth 100000 in
theorem zm_7 : zi_mP (yX1_clear, cX1_clear, 1, none, zc_X1_clear, 0, 0) := ⟨zi_tb_in (t := 149) (by decide +kernel), zi_tb_in (t := 97) (by decide +kernel), by decide +kernel, ⟨by decide +kernel, by decide +kernel⟩, by decide +kernel, zv_zc_X1_clear_0⟩
set_option maxRecDepth 100000 in
theorem zv_zc_X3_clear_0 : ∀ r ∈ zc_X3_clear_0, decode cX3_clear r.1 = .ok (r.2.1, r.2.2.1) ∧ zi_lok r = true ∧ zi_ok yX3_clear.cls (decide (yX3_clear.name = "<init>")) zi_ms r = true := by decide +kernel
set_option maxRecDepth 100000 in
theorem zm_8 : zi_mP (yX3_clear, cX3_clear, 1, none, zc_X3_clear, 0, 0) := ⟨zi_tb_in (t := 145) (by decide +kernel), zi_tb_in (t := 98) (by decide +kernel), by decide +kernel, ⟨by decide +kernel, by decide +kernel⟩, by decide +kernel, zv_zc_X3_clear_0⟩
set_option maxRecDepth 100000 in
theorem zv_zc_J7_fill_53178_0 : ∀ r ∈ zc_J7_fill_53178_0, decode cJ7_fill_53178 r.1 = .ok (r.2.1, r.2.2.1) ∧ zi_lok r = true ∧ zi_ok yJ7_fill_53178.cls (decide (yJ7_fill_53178.name = "<init>")) zi_ms r = true := by decide +kernel
set_option maxRecDepth 100000 in
theorem zm_9 : zi_mP (yJ7_fill_53178, cJ7_fill_53178, 4, none, zc_J7_fill_53178, 0, 0) := ⟨zi_tb_in (t := 152) (by decide +kernel), zi_tb_in (t := 99) (by decide +kernel), by decide +kernel, ⟨by decide +kernel, by decide +kernel⟩, by decide +kernel, zv_zc_J7_fill_53178_0⟩
set_option maxRecDepth 100000 in
theorem zv_zc_X5_screen_0 : ∀ r ∈ zc_X5_screen_0, decode cX5_screen r.1 = .ok (r.2.1, r.2.2.1) ∧ zi_lok r = true ∧ zi_ok yX5_screen.cls (decide (yX5_screen.name = "<init>")) zi_ms r = true := by decide +kernel
set_option maxRecDepth 100000 in
theorem zv_zc_X5_screen_1 : ∀ r ∈ zc_X5_screen_1, decode cX5_screen r.1 = .ok (r.2.1, r.2.2.1) ∧ zi_lok r = true ∧ zi_ok yX5_screen.cls (decide (yX5_screen.name = "<init>")) zi_ms r = true := by decide +kernel
set_option maxRecDepth 100000 in
theorem zm_10 : zi_mP (yX5_screen, cX5_screen, 6, (some FieldType.int), zc_X5_screen, 0, 0) := ⟨zi_tb_in (t := 313) (by decide +kernel), zi_tb_in (t := 96) (by decide +kernel), by decide +kernel, ⟨by decide +kernel, by decide +kernel⟩, by decide +kernel, List.forall_mem_append.mpr ⟨zv_zc_X5_screen_0, zv_zc_X5_screen_1⟩⟩
set_option maxRecDepth 100000 in
theorem zv_zc_X5_gone_0 : ∀ r ∈ zc_X5_gone_0, decode cX5_gone r.1 = .ok (r.2.1, r.2.2.1) ∧ zi_lok r = true ∧ zi_ok yX5_gone.cls (decide (yX5_gone.name = "<init>")) zi_ms r = true := by decide +kernel
set_option maxRecDepth 100000 in
theorem zv_zc_X5_gone_1 : ∀ r ∈ zc_X5_gone_1, decode cX5_gone r.1 = .ok (r.2.1, r.2.2.1) ∧ zi_lok r = true ∧ zi_ok yX5_gone.cls (decide (yX5_gone.name = "<init>")) zi_ms r = true := by decide +kernel
set_option maxRecDepth 100000 in
theorem zv_zc_X5_gone_2 : ∀ r ∈ zc_X5_gone_2, decode cX5_gone r.1 = .ok (r.2.1, r.2.2.1) ∧ zi_lok r = true ∧ zi_ok yX5_gone.cls (decide (yX5_gone.name = "<init>")) zi_ms r = true := by decide +kernel
set_option maxRecDepth 100000 in
theorem zm_11 : zi_mP (yX5_gone, cX5_gone, 5, (some FieldType.int), zc_X5_gone, 0, 0) := ⟨zi_tb_in (t := 498) (by decide +kernel), zi_tb_in (t := 96) (by decide +kernel), by decide +kernel, ⟨by decide +kernel, by decide +kernel⟩, by decide +kernel, List.forall_mem_append.mpr ⟨zv_zc_X5_gone_0, List.forall_mem_append.mpr ⟨zv_zc_X5_gone_1, zv_zc_X5_gone_2⟩⟩⟩
set_option maxRecDepth 100000 in
theorem zv_zc_X5_open_0 : ∀ r ∈ zc_X5_open_0, decode cX5_open r.1 = .ok (r.2.1, r.2.2.1) ∧ zi_lok r = true ∧ zi_ok yX5_open.cls (decide (yX5_open.name = "<init>")) zi_ms r = true := by decide +kernel
set_option maxRecDepth 100000 in
theorem zv_zc_X5_open_1 : ∀ r ∈ zc_X5_open_1, decode cX5_open r.1 = .ok (r.2.1, r.2.2.1) ∧ zi_lok r = true ∧ zi_ok yX5_open.cls (decide (yX5_open.name = "<init>")) zi_ms r = true := by decide +kernel
set_option maxRecDepth 100000 in
theorem zv_zc_X5_open_2 : ∀ r ∈ zc_X5_open_2, decode cX5_open r.1 = .ok (r.2.1, r.2.2.1) ∧ zi_lok r = true ∧ zi_ok yX5_open.cls (decide (yX5_open.name = "<init>")) zi_ms r = true := by decide +kernel
set_option maxRecDepth 100000 in
theorem zm_12 : zi_mP (yX5_open, cX5_open, 8, (some FieldType.int), zc_X5_open, 0, 0) := ⟨zi_tb_in (t := 556) (by decide +kernel), zi_tb_in (t := 96) (by decide +kernel), by decide +kernel, ⟨by decide +kernel, by decide +kernel⟩, by decide +kernel, List.forall_mem_append.mpr ⟨zv_zc_X5_open_0, List.forall_mem_append.mpr ⟨zv_zc_X5_open_1, zv_zc_X5_open_2⟩⟩⟩
set_option maxRecDepth 100000 in
theorem zv_zc_X5_close_0 : ∀ r ∈ zc_X5_close_0, decode cX5_close r.1 = .ok (r.2.1, r.2.2.1) ∧ zi_lok r = true ∧ zi_ok yX5_close.cls (decide (yX5_close.name = "<init>")) zi_ms r = true := by decide +kernel
set_option maxRecDepth 100000 in
theorem zm_13 : zi_mP (yX5_close, cX5_close, 4, (some FieldType.int), zc_X5_close, 0, 0) := ⟨zi_tb_in (t := 685) (by decide +kernel), zi_tb_in (t := 96) (by decide +kernel), by decide +kernel, ⟨by decide +kernel, by decide +kernel⟩, by decide +kernel, zv_zc_X5_close_0⟩
set_option maxRecDepth 100000 in
theorem zv_zc_X5_focus_0 : ∀ r ∈ zc_X5_focus_0, decode cX5_focus r.1 = .ok (r.2.1, r.2.2.1) ∧ zi_lok r = true ∧ zi_ok yX5_focus.cls (decide (yX5_focus.name = "<init>")) zi_ms r = true := by decide +kernel
set_option maxRecDepth 100000 in
theorem zm_14 : zi_mP (yX5_focus, cX5_focus, 3, (some FieldType.int), zc_X5_focus, 0, 0) := ⟨zi_tb_in (t := 698) (by decide +kernel), zi_tb_in (t := 96) (by decide +kernel), by decide +kernel, ⟨by decide +kernel, by decide +kernel⟩, by decide +kernel, zv_zc_X5_focus_0⟩
set_option maxRecDepth 100000 in
theorem zv_zc_X5_back_0 : ∀ r ∈ zc_X5_back_0, decode cX5_back r.1 = .ok (r.2.1, r.2.2.1) ∧ zi_lok r = true ∧ zi_ok yX5_back.cls (decide (yX5_back.name = "<init>")) zi_ms r = true := by decide +kernel
set_option maxRecDepth 100000 in
theorem zm_15 : zi_mP (yX5_back, cX5_back, 2, (some FieldType.int), zc_X5_back, 0, 0) := ⟨zi_tb_in (t := 702) (by decide +kernel), zi_tb_in (t := 96) (by decide +kernel), by decide +kernel, ⟨by decide +kernel, by decide +kernel⟩, by decide +kernel, zv_zc_X5_back_0⟩
set_option maxRecDepth 100000 in
theorem zv_zc_X5_toward_0 : ∀ r ∈ zc_X5_toward_0, decode cX5_toward r.1 = .ok (r.2.1, r.2.2.1) ∧ zi_lok r = true ∧ zi_ok yX5_toward.cls (decide (yX5_toward.name = "<init>")) zi_ms r = true := by decide +kernel
set_option maxRecDepth 100000 in
theorem zm_16 : zi_mP (yX5_toward, cX5_toward, 4, (some FieldType.int), zc_X5_toward, 0, 0) := ⟨zi_tb_in (t := 706) (by decide +kernel), zi_tb_in (t := 96) (by decide +kernel), by decide +kernel, ⟨by decide +kernel, by decide +kernel⟩, by decide +kernel, zv_zc_X5_toward_0⟩
set_option maxRecDepth 100000 in
theorem zv_zc_X5_steps_0 : ∀ r ∈ zc_X5_steps_0, decode cX5_steps r.1 = .ok (r.2.1, r.2.2.1) ∧ zi_lok r = true ∧ zi_ok yX5_steps.cls (decide (yX5_steps.name = "<init>")) zi_ms r = true := by decide +kernel
set_option maxRecDepth 100000 in
theorem zv_zc_X5_steps_1 : ∀ r ∈ zc_X5_steps_1, decode cX5_steps r.1 = .ok (r.2.1, r.2.2.1) ∧ zi_lok r = true ∧ zi_ok yX5_steps.cls (decide (yX5_steps.name = "<init>")) zi_ms r = true := by decide +kernel
set_option maxRecDepth 100000 in
theorem zm_17 : zi_mP (yX5_steps, cX5_steps, 4, (some FieldType.int), zc_X5_steps, 0, 0) := ⟨zi_tb_in (t := 747) (by decide +kernel), zi_tb_in (t := 96) (by decide +kernel), by decide +kernel, ⟨by decide +kernel, by decide +kernel⟩, by decide +kernel, List.forall_mem_append.mpr ⟨zv_zc_X5_steps_0, zv_zc_X5_steps_1⟩⟩
