set_option maxRecDepth 100000 in
theorem zv_zc_X6_placeIn_0 : ∀ r ∈ zc_X6_placeIn_0, decode cX6_placeIn r.1 = .ok (r.2.1, r.2.2.1) ∧ zi_lok r = true ∧ zi_ok yX6_placeIn.cls (decide (yX6_placeIn.name = "<init>")) zi_ms r = true := zq_fin zq_X6_ok (by decide +kernel)
set_option maxRecDepth 100000 in
theorem zm_203 : zi_mP (yX6_placeIn, cX6_placeIn, 4, (some FieldType.int), zc_X6_placeIn, 0, 0) := ⟨zi_tb_rf (t := 1209) rfl (by decide +kernel), zi_tb_in (t := 103) (by decide +kernel), by decide +kernel, ⟨by decide +kernel, by decide +kernel⟩, by decide +kernel, zv_zc_X6_placeIn_0⟩
set_option maxRecDepth 100000 in
theorem zv_zc_X6_lies_0 : ∀ r ∈ zc_X6_lies_0, decode cX6_lies r.1 = .ok (r.2.1, r.2.2.1) ∧ zi_lok r = true ∧ zi_ok yX6_lies.cls (decide (yX6_lies.name = "<init>")) zi_ms r = true := zq_fin zq_X6_ok (by decide +kernel)
set_option maxRecDepth 100000 in
theorem zv_zc_X6_lies_1 : ∀ r ∈ zc_X6_lies_1, decode cX6_lies r.1 = .ok (r.2.1, r.2.2.1) ∧ zi_lok r = true ∧ zi_ok yX6_lies.cls (decide (yX6_lies.name = "<init>")) zi_ms r = true := zq_fin zq_X6_ok (by decide +kernel)
set_option maxRecDepth 100000 in
theorem zv_zc_X6_lies_2 : ∀ r ∈ zc_X6_lies_2, decode cX6_lies r.1 = .ok (r.2.1, r.2.2.1) ∧ zi_lok r = true ∧ zi_ok yX6_lies.cls (decide (yX6_lies.name = "<init>")) zi_ms r = true := zq_fin zq_X6_ok (by decide +kernel)
set_option maxRecDepth 100000 in
theorem zm_204 : zi_mP (yX6_lies, cX6_lies, 7, (some FieldType.boolean), zc_X6_lies, 0, 0) := ⟨zi_tb_rf (t := 1221) rfl (by decide +kernel), zi_tb_in (t := 103) (by decide +kernel), by decide +kernel, ⟨by decide +kernel, by decide +kernel⟩, by decide +kernel, List.forall_mem_append.mpr ⟨zv_zc_X6_lies_0, List.forall_mem_append.mpr ⟨zv_zc_X6_lies_1, zv_zc_X6_lies_2⟩⟩⟩
set_option maxRecDepth 100000 in
theorem zv_zc_J9_floorDiv_7cf53_0 : ∀ r ∈ zc_J9_floorDiv_7cf53_0, decode cJ9_floorDiv_7cf53 r.1 = .ok (r.2.1, r.2.2.1) ∧ zi_lok r = true ∧ zi_ok yJ9_floorDiv_7cf53.cls (decide (yJ9_floorDiv_7cf53.name = "<init>")) zi_ms r = true := zo_fin (by decide +kernel)
set_option maxRecDepth 100000 in
theorem zm_205 : zi_mP (yJ9_floorDiv_7cf53, cJ9_floorDiv_7cf53, 3, (some FieldType.int), zc_J9_floorDiv_7cf53, 0, 0) := ⟨zi_tb_rf (t := 649) rfl (by decide +kernel), zi_tb_in (t := 104) (by decide +kernel), by decide +kernel, ⟨by decide +kernel, by decide +kernel⟩, by decide +kernel, zv_zc_J9_floorDiv_7cf53_0⟩
set_option maxRecDepth 100000 in
theorem zv_zc_J9_max_7cf53_0 : ∀ r ∈ zc_J9_max_7cf53_0, decode cJ9_max_7cf53 r.1 = .ok (r.2.1, r.2.2.1) ∧ zi_lok r = true ∧ zi_ok yJ9_max_7cf53.cls (decide (yJ9_max_7cf53.name = "<init>")) zi_ms r = true := zo_fin (by decide +kernel)
set_option maxRecDepth 100000 in
theorem zm_206 : zi_mP (yJ9_max_7cf53, cJ9_max_7cf53, 2, (some FieldType.int), zc_J9_max_7cf53, 0, 0) := ⟨zi_tb_rf (t := 424) rfl (by decide +kernel), zi_tb_in (t := 104) (by decide +kernel), by decide +kernel, ⟨by decide +kernel, by decide +kernel⟩, by decide +kernel, zv_zc_J9_max_7cf53_0⟩
set_option maxRecDepth 100000 in
theorem zv_zc_J9_min_7cf53_0 : ∀ r ∈ zc_J9_min_7cf53_0, decode cJ9_min_7cf53 r.1 = .ok (r.2.1, r.2.2.1) ∧ zi_lok r = true ∧ zi_ok yJ9_min_7cf53.cls (decide (yJ9_min_7cf53.name = "<init>")) zi_ms r = true := zo_fin (by decide +kernel)
set_option maxRecDepth 100000 in
theorem zm_207 : zi_mP (yJ9_min_7cf53, cJ9_min_7cf53, 2, (some FieldType.int), zc_J9_min_7cf53, 0, 0) := ⟨zi_tb_rf (t := 451) rfl (by decide +kernel), zi_tb_in (t := 104) (by decide +kernel), by decide +kernel, ⟨by decide +kernel, by decide +kernel⟩, by decide +kernel, zv_zc_J9_min_7cf53_0⟩
