section
set_option maxRecDepth 100000 in
theorem zi_ms_all : ∀ mt ∈ zi_ms, zi_mP mt := List.forall_mem_cons.mpr ⟨zm_0, List.forall_mem_cons.mpr ⟨zm_1, List.forall_mem_cons.mpr ⟨zm_2, List.forall_mem_cons.mpr ⟨zm_3, List.forall_mem_cons.mpr ⟨zm_4, List.forall_mem_cons.mpr ⟨zm_5, List.forall_mem_cons.mpr ⟨zm_6, List.forall_mem_cons.mpr ⟨zm_7, List.forall_mem_cons.mpr ⟨zm_8, List.forall_mem_cons.mpr ⟨zm_9, List.forall_mem_cons.mpr ⟨zm_10, List.forall_mem_cons.mpr ⟨zm_11, List.forall_mem_cons.mpr ⟨zm_12, List.forall_mem_cons.mpr ⟨zm_13, List.forall_mem_cons.mpr ⟨zm_14, List.forall_mem_cons.mpr ⟨zm_15, List.forall_mem_cons.mpr ⟨zm_16, List.forall_mem_cons.mpr ⟨zm_17, List.forall_mem_cons.mpr ⟨zm_18, List.forall_mem_cons.mpr ⟨zm_19, List.forall_mem_cons.mpr ⟨zm_20, List.forall_mem_cons.mpr ⟨zm_21, List.forall_mem_cons.mpr ⟨zm_22, List.forall_mem_cons.mpr ⟨zm_23, List.forall_mem_cons.mpr ⟨zm_24, List.forall_mem_cons.mpr ⟨zm_25, List.forall_mem_cons.mpr ⟨zm_26, List.forall_mem_cons.mpr ⟨zm_27, List.forall_mem_cons.mpr ⟨zm_28, List.forall_mem_cons.mpr ⟨zm_29, List.forall_mem_cons.mpr ⟨zm_30, List.forall_mem_cons.mpr ⟨zm_31, List.forall_mem_cons.mpr ⟨zm_32, List.forall_mem_cons.mpr ⟨zm_33, List.forall_mem_cons.mpr ⟨zm_34, List.forall_mem_cons.mpr ⟨zm_35, List.forall_mem_cons.mpr ⟨zm_36, List.forall_mem_cons.mpr ⟨zm_37, List.forall_mem_cons.mpr ⟨zm_38, List.forall_mem_cons.mpr ⟨zm_39, List.forall_mem_cons.mpr ⟨zm_40, List.forall_mem_cons.mpr ⟨zm_41, List.forall_mem_cons.mpr ⟨zm_42, List.forall_mem_cons.mpr ⟨zm_43, List.forall_mem_cons.mpr ⟨zm_44, List.forall_mem_cons.mpr ⟨zm_45, List.forall_mem_cons.mpr ⟨zm_46, List.forall_mem_cons.mpr ⟨zm_47, List.forall_mem_cons.mpr ⟨zm_48, List.forall_mem_cons.mpr ⟨zm_49, List.forall_mem_cons.mpr ⟨zm_50, List.forall_mem_cons.mpr ⟨zm_51, List.forall_mem_cons.mpr ⟨zm_52, List.forall_mem_cons.mpr ⟨zm_53, List.forall_mem_cons.mpr ⟨zm_54, List.forall_mem_cons.mpr ⟨zm_55, List.forall_mem_cons.mpr ⟨zm_56, List.forall_mem_cons.mpr ⟨zm_57, List.forall_mem_cons.mpr ⟨zm_58, List.forall_mem_cons.mpr ⟨zm_59, List.forall_mem_cons.mpr ⟨zm_60, List.forall_mem_cons.mpr ⟨zm_61, List.forall_mem_cons.mpr ⟨zm_62, List.forall_mem_cons.mpr ⟨zm_63, List.forall_mem_cons.mpr ⟨zm_64, List.forall_mem_cons.mpr ⟨zm_65, List.forall_mem_cons.mpr ⟨zm_66, List.forall_mem_cons.mpr ⟨zm_67, List.forall_mem_cons.mpr ⟨zm_68, List.forall_mem_cons.mpr ⟨zm_69, List.forall_mem_cons.mpr ⟨zm_70, List.forall_mem_cons.mpr ⟨zm_71, List.forall_mem_cons.mpr ⟨zm_72, List.forall_mem_cons.mpr ⟨zm_73, List.forall_mem_cons.mpr ⟨zm_74, List.forall_mem_cons.mpr ⟨zm_75, List.forall_mem_cons.mpr ⟨zm_76, List.forall_mem_cons.mpr ⟨zm_77, List.forall_mem_cons.mpr ⟨zm_78, List.forall_mem_cons.mpr ⟨zm_79, List.forall_mem_cons.mpr ⟨zm_80, List.forall_mem_cons.mpr ⟨zm_81, List.forall_mem_cons.mpr ⟨zm_82, List.forall_mem_cons.mpr ⟨zm_83, List.forall_mem_cons.mpr ⟨zm_84, List.forall_mem_cons.mpr ⟨zm_85, List.forall_mem_cons.mpr ⟨zm_86, List.forall_mem_cons.mpr ⟨zm_87, List.forall_mem_cons.mpr ⟨zm_88, List.forall_mem_cons.mpr ⟨zm_89, List.forall_mem_cons.mpr ⟨zm_90, List.forall_mem_cons.mpr ⟨zm_91, List.forall_mem_cons.mpr ⟨zm_92, List.forall_mem_cons.mpr ⟨zm_93, List.forall_mem_cons.mpr ⟨zm_94, List.forall_mem_cons.mpr ⟨zm_95, List.forall_mem_cons.mpr ⟨zm_96, List.forall_mem_cons.mpr ⟨zm_97, List.forall_mem_cons.mpr ⟨zm_98, List.forall_mem_cons.mpr ⟨zm_99, List.forall_mem_cons.mpr ⟨zm_100, List.forall_mem_cons.mpr ⟨zm_101, List.forall_mem_cons.mpr ⟨zm_102, List.forall_mem_cons.mpr ⟨zm_103, List.forall_mem_cons.mpr ⟨zm_104, List.forall_mem_cons.mpr ⟨zm_105, List.forall_mem_cons.mpr ⟨zm_106, List.forall_mem_cons.mpr ⟨zm_107, List.forall_mem_cons.mpr ⟨zm_108, List.forall_mem_cons.mpr ⟨zm_109, List.forall_mem_cons.mpr ⟨zm_110, List.forall_mem_cons.mpr ⟨zm_111, List.forall_mem_cons.mpr ⟨zm_112, List.forall_mem_cons.mpr ⟨zm_113, List.forall_mem_cons.mpr ⟨zm_114, List.forall_mem_cons.mpr ⟨zm_115, List.forall_mem_cons.mpr ⟨zm_116, List.forall_mem_cons.mpr ⟨zm_117, List.forall_mem_cons.mpr ⟨zm_118, List.forall_mem_cons.mpr ⟨zm_119, List.forall_mem_cons.mpr ⟨zm_120, List.forall_mem_cons.mpr ⟨zm_121, List.forall_mem_cons.mpr ⟨zm_122, List.forall_mem_cons.mpr ⟨zm_123, List.forall_mem_cons.mpr ⟨zm_124, List.forall_mem_cons.mpr ⟨zm_125, List.forall_mem_cons.mpr ⟨zm_126, List.forall_mem_cons.mpr ⟨zm_127, List.forall_mem_cons.mpr ⟨zm_128, List.forall_mem_cons.mpr ⟨zm_129, List.forall_mem_cons.mpr ⟨zm_130, List.forall_mem_cons.mpr ⟨zm_131, List.forall_mem_cons.mpr ⟨zm_132, List.forall_mem_cons.mpr ⟨zm_133, List.forall_mem_cons.mpr ⟨zm_134, List.forall_mem_cons.mpr ⟨zm_135, List.forall_mem_cons.mpr ⟨zm_136, List.forall_mem_cons.mpr ⟨zm_137, List.forall_mem_cons.mpr ⟨zm_138, List.forall_mem_cons.mpr ⟨zm_139, List.forall_mem_cons.mpr ⟨zm_140, List.forall_mem_cons.mpr ⟨zm_141, List.forall_mem_cons.mpr ⟨zm_142, List.forall_mem_cons.mpr ⟨zm_143, List.forall_mem_cons.mpr ⟨zm_144, List.forall_mem_cons.mpr ⟨zm_145, List.forall_mem_cons.mpr ⟨zm_146, List.forall_mem_cons.mpr ⟨zm_147, List.forall_mem_cons.mpr ⟨zm_148, List.forall_mem_cons.mpr ⟨zm_149, List.forall_mem_cons.mpr ⟨zm_150, List.forall_mem_cons.mpr ⟨zm_151, List.forall_mem_cons.mpr ⟨zm_152, List.forall_mem_cons.mpr ⟨zm_153, List.forall_mem_cons.mpr ⟨zm_154, List.forall_mem_cons.mpr ⟨zm_155, List.forall_mem_cons.mpr ⟨zm_156, List.forall_mem_cons.mpr ⟨zm_157, List.forall_mem_cons.mpr ⟨zm_158, List.forall_mem_cons.mpr ⟨zm_159, List.forall_mem_cons.mpr ⟨zm_160, List.forall_mem_cons.mpr ⟨zm_161, List.forall_mem_cons.mpr ⟨zm_162, List.forall_mem_cons.mpr ⟨zm_163, List.forall_mem_cons.mpr ⟨zm_164, List.forall_mem_cons.mpr ⟨zm_165, List.forall_mem_cons.mpr ⟨zm_166, List.forall_mem_cons.mpr ⟨zm_167, List.forall_mem_cons.mpr ⟨zm_168, List.forall_mem_cons.mpr ⟨zm_169, List.forall_mem_cons.mpr ⟨zm_170, List.forall_mem_cons.mpr ⟨zm_171, List.forall_mem_cons.mpr ⟨zm_172, List.forall_mem_cons.mpr ⟨zm_173, List.forall_mem_cons.mpr ⟨zm_174, List.forall_mem_cons.mpr ⟨zm_175, List.forall_mem_cons.mpr ⟨zm_176, List.forall_mem_cons.mpr ⟨zm_177, List.forall_mem_cons.mpr ⟨zm_178, List.forall_mem_cons.mpr ⟨zm_179, List.forall_mem_cons.mpr ⟨zm_180, List.forall_mem_cons.mpr ⟨zm_181, List.forall_mem_cons.mpr ⟨zm_182, List.forall_mem_cons.mpr ⟨zm_183, List.forall_mem_cons.mpr ⟨zm_184, List.forall_mem_cons.mpr ⟨zm_185, List.forall_mem_cons.mpr ⟨zm_186, List.forall_mem_cons.mpr ⟨zm_187, List.forall_mem_cons.mpr ⟨zm_188, List.forall_mem_cons.mpr ⟨zm_189, List.forall_mem_cons.mpr ⟨zm_190, List.forall_mem_cons.mpr ⟨zm_191, List.forall_mem_cons.mpr ⟨zm_192, List.forall_mem_cons.mpr ⟨zm_193, List.forall_mem_cons.mpr ⟨zm_194, List.forall_mem_cons.mpr ⟨zm_195, List.forall_mem_cons.mpr ⟨zm_196, List.forall_mem_cons.mpr ⟨zm_197, List.forall_mem_cons.mpr ⟨zm_198, List.forall_mem_cons.mpr ⟨zm_199, List.forall_mem_cons.mpr ⟨zm_200, List.forall_mem_cons.mpr ⟨zm_201, List.forall_mem_cons.mpr ⟨zm_202, List.forall_mem_cons.mpr ⟨zm_203, List.forall_mem_cons.mpr ⟨zm_204, List.forall_mem_cons.mpr ⟨zm_205, List.forall_mem_cons.mpr ⟨zm_206, List.forall_mem_cons.mpr ⟨zm_207, fun _ h => absurd h List.not_mem_nil⟩⟩⟩⟩⟩⟩⟩⟩⟩⟩⟩⟩⟩⟩⟩⟩⟩⟩⟩⟩⟩⟩⟩⟩⟩⟩⟩⟩⟩⟩⟩⟩⟩⟩⟩⟩⟩⟩⟩⟩⟩⟩⟩⟩⟩⟩⟩⟩⟩⟩⟩⟩⟩⟩⟩⟩⟩⟩⟩⟩⟩⟩⟩⟩⟩⟩⟩⟩⟩⟩⟩⟩⟩⟩⟩⟩⟩⟩⟩⟩⟩⟩⟩⟩⟩⟩⟩⟩⟩⟩⟩⟩⟩⟩⟩⟩⟩⟩⟩⟩⟩⟩⟩⟩⟩⟩⟩⟩⟩⟩⟩⟩⟩⟩⟩⟩⟩⟩⟩⟩⟩⟩⟩⟩⟩⟩⟩⟩⟩⟩⟩⟩⟩⟩⟩⟩⟩⟩⟩⟩⟩⟩⟩⟩⟩⟩⟩⟩⟩⟩⟩⟩⟩⟩⟩⟩⟩⟩⟩⟩⟩⟩⟩⟩⟩⟩⟩⟩⟩⟩⟩⟩⟩⟩⟩⟩⟩⟩⟩⟩⟩⟩⟩⟩⟩⟩⟩⟩⟩⟩⟩⟩⟩⟩⟩⟩⟩⟩⟩⟩⟩⟩⟩⟩⟩⟩⟩⟩
theorem zi_lay {C : String} {T : u_T} {N : Nat} (ps : List Nat) (h : u_ws C T N = ps.filterMap (fun i => lw_tbl[i]?)) (hg : (u_ws C T N).all goodWord = true) : ∀ w ∈ u_ws C T N, w ∈ zi_Ts := by
  intro w hw
  have h1 := List.all_eq_true.mp hg w hw
  rw [h] at hw
  obtain ⟨i, -, hi⟩ := List.mem_filterMap.mp hw
  exact List.mem_filter.mpr ⟨List.mem_of_getElem? hi, h1⟩
set_option maxRecDepth 100000 in
theorem zk_0 : zi_cok 0 (RX0, TX0, 4) := ⟨zi_lay [256, 258, 260, 262] (by decide +kernel) (by decide +kernel), tyX0_ok, nmX0, rfl, zi_tb_in (t := 241) (by decide +kernel), zi_tb_in (t := 102) (by decide +kernel)⟩
set_option maxRecDepth 100000 in
theorem zk_1 : zi_cok 1 (RX1, TX1, 2) := ⟨zi_lay [126, 128] (by decide +kernel) (by decide +kernel), tyX1_ok, nmX1, rfl, zi_tb_in (t := 119) (by decide +kernel), zi_tb_in (t := 97) (by decide +kernel)⟩
set_option maxRecDepth 100000 in
theorem zk_2 : zi_cok 2 (RX2, TX2, 4) := ⟨zi_lay [273, 275, 277, 279] (by decide +kernel) (by decide +kernel), tyX2_ok, nmX2, rfl, zi_tb_in (t := 233) (by decide +kernel), zi_tb_in (t := 101) (by decide +kernel)⟩
set_option maxRecDepth 100000 in
theorem zk_3 : zi_cok 3 (RX3, TX3, 16) := ⟨zi_lay [169, 171, 173, 175, 177, 179, 181, 183, 185, 187, 189, 191, 193, 195, 197, 199] (by decide +kernel) (by decide +kernel), tyX3_ok, nmX3, rfl, zi_tb_in (t := 133) (by decide +kernel), zi_tb_in (t := 98) (by decide +kernel)⟩
set_option maxRecDepth 100000 in
theorem zk_4 : zi_cok 4 (RX4, TX4, 6) := ⟨zi_lay [219, 221, 223, 225, 227, 229] (by decide +kernel) (by decide +kernel), tyX4_ok, nmX4, rfl, zi_tb_in (t := 202) (by decide +kernel), zi_tb_in (t := 100) (by decide +kernel)⟩
set_option maxRecDepth 100000 in
theorem zk_5 : zi_cok 5 (RX5, TX5, 9) := ⟨zi_lay [291, 293, 295, 297, 299, 301, 303, 305, 307] (by decide +kernel) (by decide +kernel), tyX5_ok, nmX5, rfl, zi_tb_in (t := 107) (by decide +kernel), zi_tb_in (t := 96) (by decide +kernel)⟩
set_option maxRecDepth 100000 in
theorem zk_6 : zi_cok 6 (RX6, TX6, 33) := ⟨zi_lay [912, 914, 916, 918, 920, 922, 924, 926, 928, 930, 932, 934, 936, 938, 940, 942, 944, 946, 948, 950, 952, 954, 956, 958, 960, 962, 964, 966, 968, 970, 972, 974, 976] (by decide +kernel) (by decide +kernel), tyX6_ok, nmX6, rfl, zi_tb_in (t := 874) (by decide +kernel), zi_tb_in (t := 103) (by decide +kernel)⟩
theorem zi_cl_ok : ∀ a q, vwCl[a]? = some q → zi_cok a q := by
  intro a q h
  match a, h with
  | 0, h => cases h; exact zk_0
  | 1, h => cases h; exact zk_1
  | 2, h => cases h; exact zk_2
  | 3, h => cases h; exact zk_3
  | 4, h => cases h; exact zk_4
  | 5, h => cases h; exact zk_5
  | 6, h => cases h; exact zk_6
  | k + 7, h => simp at h
theorem zi_AI : Cond.arrayClass .int ∈ zi_Ts := zi_tb_in (t := 131) (by decide +kernel)
theorem zi_AZ : Cond.arrayClass .boolean ∈ zi_Ts := zi_tb_in (t := 232) (by decide +kernel)
theorem zi_oI : Cond.instanceMethod objectInit ∈ zi_Ts := zi_tb_in (t := 112) (by decide +kernel)
theorem zi_oC : Cond.code objectInit ⟨#[0xb1]⟩ 1 none ∈ zi_Ts := zi_tb_in (t := 113) (by decide +kernel)
theorem zi_cN : Cond.native arraycopyName ∈ zi_Ts := zi_tb_in (t := 463) (by decide +kernel)
theorem zi_cS : Cond.static arraycopyName ∈ zi_Ts := zi_tb_in (t := 462) (by decide +kernel)
theorem zi_cI : Cond.initialized "java/lang/System" ∈ zi_Ts := zi_tb_in (t := 105) (by decide +kernel)
theorem zi_nest_in : ∀ w ∈ zi_nest, w ∈ lw_tbl := by
  have h : zi_nest = [120, 139, 203, 234, 242, 446, 591, 727, 730].filterMap (fun i => lw_tbl[i]?) := by decide +kernel
  intro w hw
  rw [h] at hw
  obtain ⟨i, -, hi⟩ := List.mem_filterMap.mp hw
  exact List.mem_of_getElem? hi
theorem zi_ov2 : Cond.arrayOver (.object RX2) ∈ lw_tbl := List.mem_of_getElem? (i := 117) (by decide +kernel)
theorem zi_ov4 : Cond.arrayOver (.object RX4) ∈ lw_tbl := List.mem_of_getElem? (i := 115) (by decide +kernel)
theorem zi_ovA : Cond.arrayOver (.array .int) ∈ lw_tbl := List.mem_of_getElem? (i := 141) (by decide +kernel)
set_option maxRecDepth 100000 in
theorem zv_L_0 : ∀ r ∈ zc_L_0, decode code r.1 = .ok (r.2.1, r.2.2.1) ∧ zi_lok r = true ∧ zi_ok RL false zi_ms r = true := zo_fin (by decide +kernel)
set_option maxRecDepth 100000 in
theorem zv_L_1 : ∀ r ∈ zc_L_1, decode code r.1 = .ok (r.2.1, r.2.2.1) ∧ zi_lok r = true ∧ zi_ok RL false zi_ms r = true := zo_fin (by decide +kernel)
set_option maxRecDepth 100000 in
theorem zv_L_2 : ∀ r ∈ zc_L_2, decode code r.1 = .ok (r.2.1, r.2.2.1) ∧ zi_lok r = true ∧ zi_ok RL false zi_ms r = true := zo_fin (by decide +kernel)
set_option maxRecDepth 100000 in
theorem zv_L_3 : ∀ r ∈ zc_L_3, decode code r.1 = .ok (r.2.1, r.2.2.1) ∧ zi_lok r = true ∧ zi_ok RL false zi_ms r = true := zo_fin (by decide +kernel)
set_option maxRecDepth 100000 in
theorem zv_L_4 : ∀ r ∈ zc_L_4, decode code r.1 = .ok (r.2.1, r.2.2.1) ∧ zi_lok r = true ∧ zi_ok RL false zi_ms r = true := zo_fin (by decide +kernel)
set_option maxRecDepth 100000 in
theorem zv_L_5 : ∀ r ∈ zc_L_5, decode code r.1 = .ok (r.2.1, r.2.2.1) ∧ zi_lok r = true ∧ zi_ok RL false zi_ms r = true := zo_fin (by decide +kernel)
set_option maxRecDepth 100000 in
theorem zv_L_6 : ∀ r ∈ zc_L_6, decode code r.1 = .ok (r.2.1, r.2.2.1) ∧ zi_lok r = true ∧ zi_ok RL false zi_ms r = true := zo_fin (by decide +kernel)
set_option maxRecDepth 100000 in
theorem zv_L_7 : ∀ r ∈ zc_L_7, decode code r.1 = .ok (r.2.1, r.2.2.1) ∧ zi_lok r = true ∧ zi_ok RL false zi_ms r = true := zo_fin (by decide +kernel)
set_option maxRecDepth 100000 in
theorem zv_L_8 : ∀ r ∈ zc_L_8, decode code r.1 = .ok (r.2.1, r.2.2.1) ∧ zi_lok r = true ∧ zi_ok RL false zi_ms r = true := zo_fin (by decide +kernel)
set_option maxRecDepth 100000 in
theorem zv_L_9 : ∀ r ∈ zc_L_9, decode code r.1 = .ok (r.2.1, r.2.2.1) ∧ zi_lok r = true ∧ zi_ok RL false zi_ms r = true := zo_fin (by decide +kernel)
set_option maxRecDepth 100000 in
theorem zv_L_10 : ∀ r ∈ zc_L_10, decode code r.1 = .ok (r.2.1, r.2.2.1) ∧ zi_lok r = true ∧ zi_ok RL false zi_ms r = true := zo_fin (by decide +kernel)
set_option maxRecDepth 100000 in
theorem zv_L_11 : ∀ r ∈ zc_L_11, decode code r.1 = .ok (r.2.1, r.2.2.1) ∧ zi_lok r = true ∧ zi_ok RL false zi_ms r = true := zo_fin (by decide +kernel)
set_option maxRecDepth 100000 in
theorem zv_L_12 : ∀ r ∈ zc_L_12, decode code r.1 = .ok (r.2.1, r.2.2.1) ∧ zi_lok r = true ∧ zi_ok RL false zi_ms r = true := zo_fin (by decide +kernel)
set_option maxRecDepth 100000 in
theorem zv_L_13 : ∀ r ∈ zc_L_13, decode code r.1 = .ok (r.2.1, r.2.2.1) ∧ zi_lok r = true ∧ zi_ok RL false zi_ms r = true := zo_fin (by decide +kernel)
theorem zvL_all : ∀ r ∈ zc_L, decode code r.1 = .ok (r.2.1, r.2.2.1) ∧ zi_lok r = true ∧ zi_ok RL false zi_ms r = true := List.forall_mem_append.mpr ⟨zv_L_0, List.forall_mem_append.mpr ⟨zv_L_1, List.forall_mem_append.mpr ⟨zv_L_2, List.forall_mem_append.mpr ⟨zv_L_3, List.forall_mem_append.mpr ⟨zv_L_4, List.forall_mem_append.mpr ⟨zv_L_5, List.forall_mem_append.mpr ⟨zv_L_6, List.forall_mem_append.mpr ⟨zv_L_7, List.forall_mem_append.mpr ⟨zv_L_8, List.forall_mem_append.mpr ⟨zv_L_9, List.forall_mem_append.mpr ⟨zv_L_10, List.forall_mem_append.mpr ⟨zv_L_11, List.forall_mem_append.mpr ⟨zv_L_12, zv_L_13⟩⟩⟩⟩⟩⟩⟩⟩⟩⟩⟩⟩⟩
end
section
theorem zi_ms_ok : zi_mOk zi_ms := fun a mt h => zi_ms_all mt (List.mem_of_getElem? h)
end
