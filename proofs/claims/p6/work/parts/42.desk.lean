/-! the desk's cells; what arguments may be -/
def zdW (k : Nat) : Nat := 36 + 3 * k
def zdS (s : Nat) : Nat := 66 + 55 * s
def zdZ (s : Nat) : Nat := 67 + 55 * s
def zdT (s : Nat) : Nat := 68 + 55 * s
def zdK (s : Nat) : Nat := 92 + 55 * s
def zdV (s : Nat) : Nat := 93 + 55 * s
theorem zdW_at {k : Nat} (h : k < 10) : zw_at (zdW k) := zw_at_of k h
theorem zdT_at {s : Nat} (h : s < 3) : zt_at (zdT s) := by
  match s, h with
  | 0, _ => exact zt_at_of 68 (by decide)
  | 1, _ => exact zt_at_of 123 (by decide)
  | 2, _ => exact zt_at_of 178 (by decide)
theorem zdV_at {s : Nat} (h : s < 3) : zt_at (zdV s) := by
  match s, h with
  | 0, _ => exact zt_at_of 93 (by decide)
  | 1, _ => exact zt_at_of 148 (by decide)
  | 2, _ => exact zt_at_of 203 (by decide)
theorem zd7_at : zt_at 7 := zt_at_of 7 (by decide)
theorem zd3_at : zr_at 3 := zr_at_of 3 (by decide)
theorem zd5_at : zr_at 5 := zr_at_of 5 (by decide)
theorem zd34_at : zr_at 34 := zr_at_of 34 (by decide)
theorem zd31_A : zm_isA 8 31 10 := zm_isA_of (by decide +kernel)
theorem zd32_A : zm_isA 7 32 2 := zm_isA_of (by decide +kernel)
theorem zd33_A : zm_isA 7 33 10 := zm_isA_of (by decide +kernel)
theorem zdZ_A {s : Nat} (h : s < 3) : zm_isA 7 (zdZ s) 2 := by
  match s, h with
  | 0, _ => exact zm_isA_of (by decide +kernel)
  | 1, _ => exact zm_isA_of (by decide +kernel)
  | 2, _ => exact zm_isA_of (by decide +kernel)
theorem zd_h0 : zh_2[0]? = some (5, [.ref 2, .ref 3, .ref 4, .ref 6, .ref 8, .ref 32, .ref 33, .ref 34, .ref 35]) := by decide +kernel
theorem zd_h1 : zh_2[1]? = some (10, [.ref 37, .ref 40, .ref 43, .ref 46, .ref 49, .ref 52, .ref 55, .ref 58, .ref 61, .ref 64]) := by decide +kernel
theorem zd_h2 : zh_2[2]? = some (9, [.ref 67, .ref 122, .ref 177]) := by decide +kernel
theorem zdS_h {s : Nat} (h : s < 3) : zh_2[zdS s]? = some (2, [.ref (zdZ s + 1), .ref (zdT s + 1), .ref (zdK s + 1), .int 0]) := by
  match s, h with
  | 0, _ => decide +kernel
  | 1, _ => decide +kernel
  | 2, _ => decide +kernel
section ZD1
variable {μ : zm_M}
theorem zd_c : (zm_mk μ)[0]? = some (5, [.ref 2, .ref 3, .ref 4, .ref 6, .ref 8, .ref 32, .ref 33, .ref 34, .ref 35]) := zm_get zd_h0
theorem zd_g : zi_gf (zm_mk μ) 5 0 0 = some (.ref (1 + 1)) ∧ zi_gf (zm_mk μ) 5 1 0 = some (.ref (2 + 1)) ∧ zi_gf (zm_mk μ) 5 2 0 = some (.ref (3 + 1)) ∧ zi_gf (zm_mk μ) 5 3 0 = some (.ref (5 + 1)) ∧ zi_gf (zm_mk μ) 5 4 0 = some (.ref (7 + 1)) ∧ zi_gf (zm_mk μ) 5 5 0 = some (.ref (31 + 1)) ∧ zi_gf (zm_mk μ) 5 6 0 = some (.ref (32 + 1)) ∧ zi_gf (zm_mk μ) 5 7 0 = some (.ref (33 + 1)) ∧ zi_gf (zm_mk μ) 5 8 0 = some (.ref (34 + 1)) :=
  ⟨zm_gfr zd_h0 (by decide) rfl, zm_gfr zd_h0 (by decide) rfl, zm_gfr zd_h0 (by decide) rfl, zm_gfr zd_h0 (by decide) rfl, zm_gfr zd_h0 (by decide) rfl, zm_gfr zd_h0 (by decide) rfl, zm_gfr zd_h0 (by decide) rfl, zm_gfr zd_h0 (by decide) rfl, zm_gfr zd_h0 (by decide) rfl⟩
theorem zd_w {k : Nat} (h : k < 10) : zi_aald (zm_mk μ) (nI k) 1 = some (.ref (zdW k + 1)) := by
  refine zm_aald zd_h1 (by decide) (zm_in (by exact h) (by decide)) ?_
  rw [nI_clamp (by omega)]
  match k, h with
  | 0, _ | 1, _ | 2, _ | 3, _ | 4, _ | 5, _ | 6, _ | 7, _ | 8, _ | 9, _ => rfl
theorem zd_s {s : Nat} (h : s < 3) : zi_aald (zm_mk μ) (nI s) 2 = some (.ref (zdS s + 1)) := by
  refine zm_aald zd_h2 (by decide) (zm_in (by exact h) (by decide)) ?_
  rw [nI_clamp (by omega)]
  match s, h with
  | 0, _ | 1, _ | 2, _ => rfl
theorem zdS_g {s : Nat} (h : s < 3) : zi_gf (zm_mk μ) 2 0 (zdS s) = some (.ref (zdZ s + 1)) ∧ zi_gf (zm_mk μ) 2 1 (zdS s) = some (.ref (zdT s + 1)) ∧ zi_gf (zm_mk μ) 2 2 (zdS s) = some (.ref (zdK s + 1)) ∧ zi_gf (zm_mk μ) 2 3 (zdS s) = some (.int (μ (zdS s) 3)) :=
  ⟨zm_gfr (zdS_h h) (by decide) rfl, zm_gfr (zdS_h h) (by decide) rfl, zm_gfr (zdS_h h) (by decide) rfl, zm_gfi (zdS_h h) (by decide) rfl⟩
theorem zdS_p3 {s : Nat} (h : s < 3) {x : Int32} (hx : x = 0 ∨ x = 1) : zi_pf (zm_mk μ) 2 3 (zdS s) (.int x) = some (zm_mk (zm_up μ (zdS s) 3 x)) := zm_pfi (zdS_h h) (by decide) rfl (by rcases hx with rfl | rfl <;> decide)
/-- a number from 0 to n - 1, or not -/
theorem zd_rng (x : Int32) (n : Nat) (hn : n < 2 ^ 31) : (∃ k, k < n ∧ x = nI k) ∨ (x < 0 ∨ nI n ≤ x) := by
  by_cases c : x < 0
  · exact Or.inr (Or.inl c)
  · by_cases c2 : nI n ≤ x
    · exact Or.inr (Or.inr c2)
    · left
      obtain ⟨j, hj, rfl⟩ := nI_of c
      refine ⟨j, ?_, rfl⟩
      by_cases e : j < n
      · exact e
      · exact absurd (nI_le (by omega) hj) c2
set_option maxRecDepth 100000 in
theorem ze_isWindow_in (D : Nat) {k : Nat} (hk : k < 10) : ze_E (D + 1) A_Desk_isWindow [.ref 1, .int (nI k)] (zm_mk μ) (some (.int (zb (¬ μ (zdW k) 2 = 0)))) (zm_mk μ) := by
  refine ze_in [(0, .ref 1), (1, .int (nI k))] zq_Desk_isWindow (Nat.le_of_ble_eq_true rfl) rfl ⟨0, 14, fun F n hF => ?_⟩
  have h10 : (Int8.ofInt 10).toInt32 = (10 : Int32) := by decide
  have c1 : ¬ nI k < 0 := nI_pos (by omega)
  have c2 : ¬ (10 : Int32) ≤ nI k := nI_ge (b := 10) hk (by decide)
  by_cases c3 : μ (zdW k) 2 = 0
  · simp [zg_0, zg_aaload, zg_aload_n, zg_bipush, zg_getfield, zg_goto, zg_iconst, zg_ifCond, zg_if_icmp, zg_iload_n, zg_ireturn, zf_X5_isWindow, zi_ld, zi_lda, zi_cmp, zi_retOk, zi_isI, zi_f3, zi_cr, zi_ci, zi_cn, zi_get, zi_set, c1, c2, h10, zd_g, zd_w hk, zw_g (zdW_at hk), c3, zb]
  · simp [zg_0, zg_aaload, zg_aload_n, zg_bipush, zg_getfield, zg_goto, zg_iconst, zg_ifCond, zg_if_icmp, zg_iload_n, zg_ireturn, zf_X5_isWindow, zi_ld, zi_lda, zi_cmp, zi_retOk, zi_isI, zi_f3, zi_cr, zi_ci, zi_cn, zi_get, zi_set, c1, c2, h10, zd_g, zd_w hk, zw_g (zdW_at hk), c3, zb]
set_option maxRecDepth 100000 in
theorem ze_isWindow_out (D : Nat) {x : Int32} (hx : x < 0 ∨ (10 : Int32) ≤ x) : ze_E (D + 1) A_Desk_isWindow [.ref 1, .int x] (zm_mk μ) (some (.int 0)) (zm_mk μ) := by
  refine ze_in [(0, .ref 1), (1, .int x)] zq_Desk_isWindow (Nat.le_of_ble_eq_true rfl) rfl ⟨0, 14, fun F n hF => ?_⟩
  have h10 : (Int8.ofInt 10).toInt32 = (10 : Int32) := by decide
  by_cases c1 : x < 0
  · simp [zg_0, zg_aaload, zg_aload_n, zg_bipush, zg_getfield, zg_goto, zg_iconst, zg_ifCond, zg_if_icmp, zg_iload_n, zg_ireturn, zf_X5_isWindow, zi_ld, zi_lda, zi_cmp, zi_retOk, zi_isI, zi_f3, zi_cr, zi_ci, zi_cn, zi_get, zi_set, c1, h10]
  · have c2 := hx.resolve_left c1
    simp [zg_0, zg_aaload, zg_aload_n, zg_bipush, zg_getfield, zg_goto, zg_iconst, zg_ifCond, zg_if_icmp, zg_iload_n, zg_ireturn, zf_X5_isWindow, zi_ld, zi_lda, zi_cmp, zi_retOk, zi_isI, zi_f3, zi_cr, zi_ci, zi_cn, zi_get, zi_set, c1, c2, h10]
set_option maxRecDepth 100000 in
theorem ze_isScreen_in {h : zi_Hp} (D : Nat) {k : Nat} (hk : k < 3) : ze_E (D + 1) A_Desk_isScreen [.int (nI k)] h (some (.int 1)) h := by
  refine ze_in [(0, .int (nI k))] zq_Desk_isScreen (Nat.le_of_ble_eq_true rfl) rfl ⟨0, 8, fun F n hF => ?_⟩
  have c1 : ¬ nI k < 0 := nI_pos (by omega)
  have c2 : ¬ (3 : Int32) ≤ nI k := nI_ge (b := 3) hk (by decide)
  simp [zg_0, zg_goto, zg_iconst, zg_ifCond, zg_if_icmp, zg_iload_n, zg_ireturn, zf_X5_isScreen, zi_ld, zi_lda, zi_cmp, zi_retOk, zi_isI, zi_f3, zi_cr, zi_ci, zi_cn, zi_get, zi_set, c1, c2]
set_option maxRecDepth 100000 in
theorem ze_isScreen_out {h : zi_Hp} (D : Nat) {x : Int32} (hx : x < 0 ∨ (3 : Int32) ≤ x) : ze_E (D + 1) A_Desk_isScreen [.int x] h (some (.int 0)) h := by
  refine ze_in [(0, .int x)] zq_Desk_isScreen (Nat.le_of_ble_eq_true rfl) rfl ⟨0, 8, fun F n hF => ?_⟩
  by_cases c1 : x < 0
  · simp [zg_0, zg_goto, zg_iconst, zg_ifCond, zg_if_icmp, zg_iload_n, zg_ireturn, zf_X5_isScreen, zi_ld, zi_lda, zi_cmp, zi_retOk, zi_isI, zi_f3, zi_cr, zi_ci, zi_cn, zi_get, zi_set, c1]
  · have c2 := hx.resolve_left c1
    simp [zg_0, zg_goto, zg_iconst, zg_ifCond, zg_if_icmp, zg_iload_n, zg_ireturn, zf_X5_isScreen, zi_ld, zi_lda, zi_cmp, zi_retOk, zi_isI, zi_f3, zi_cr, zi_ci, zi_cn, zi_get, zi_set, c1, c2]
set_option maxRecDepth 100000 in
theorem ze_isSide_in {h : zi_Hp} (D : Nat) {k : Nat} (hk : k < 4) : ze_E (D + 1) A_Desk_isSide [.int (nI k)] h (some (.int 1)) h := by
  refine ze_in [(0, .int (nI k))] zq_Desk_isSide (Nat.le_of_ble_eq_true rfl) rfl ⟨0, 8, fun F n hF => ?_⟩
  have c1 : ¬ nI k < 0 := nI_pos (by omega)
  have c2 : ¬ (4 : Int32) ≤ nI k := nI_ge (b := 4) hk (by decide)
  simp [zg_0, zg_goto, zg_iconst, zg_ifCond, zg_if_icmp, zg_iload_n, zg_ireturn, zf_X5_isSide, zi_ld, zi_lda, zi_cmp, zi_retOk, zi_isI, zi_f3, zi_cr, zi_ci, zi_cn, zi_get, zi_set, c1, c2]
set_option maxRecDepth 100000 in
theorem ze_isSide_out {h : zi_Hp} (D : Nat) {x : Int32} (hx : x < 0 ∨ (4 : Int32) ≤ x) : ze_E (D + 1) A_Desk_isSide [.int x] h (some (.int 0)) h := by
  refine ze_in [(0, .int x)] zq_Desk_isSide (Nat.le_of_ble_eq_true rfl) rfl ⟨0, 8, fun F n hF => ?_⟩
  by_cases c1 : x < 0
  · simp [zg_0, zg_goto, zg_iconst, zg_ifCond, zg_if_icmp, zg_iload_n, zg_ireturn, zf_X5_isSide, zi_ld, zi_lda, zi_cmp, zi_retOk, zi_isI, zi_f3, zi_cr, zi_ci, zi_cn, zi_get, zi_set, c1]
  · have c2 := hx.resolve_left c1
    simp [zg_0, zg_goto, zg_iconst, zg_ifCond, zg_if_icmp, zg_iload_n, zg_ireturn, zf_X5_isSide, zi_ld, zi_lda, zi_cmp, zi_retOk, zi_isI, zi_f3, zi_cr, zi_ci, zi_cn, zi_get, zi_set, c1, c2]
set_option maxRecDepth 100000 in
theorem ze_isScreenSize {h : zi_Hp} (D : Nat) (x : Int32) : ze_E (D + 1) A_Desk_isScreenSize [.int x] h (some (.int (zb (40 ≤ x ∧ x ≤ 400)))) h := by
  refine ze_in [(0, .int x)] zq_Desk_isScreenSize (Nat.le_of_ble_eq_true rfl) rfl ⟨0, 9, fun F n hF => ?_⟩
  have h40 : (Int8.ofInt 40).toInt32 = (40 : Int32) := by decide
  have h400 : (Int16.ofInt 400).toInt32 = (400 : Int32) := by decide
  by_cases c1 : x < 40
  · have c1' : ¬ (40 : Int32) ≤ x := Int32.not_le.mpr c1
    simp [zg_0, zg_bipush, zg_goto, zg_iconst, zg_if_icmp, zg_iload_n, zg_ireturn, zg_sipush, zf_X5_isScreenSize, zi_ld, zi_lda, zi_cmp, zi_retOk, zi_isI, zi_f3, zi_cr, zi_ci, zi_cn, zi_get, zi_set, h40, h400, c1, c1', zb]
  · have c1' : (40 : Int32) ≤ x := Int32.not_lt.mp c1
    by_cases c2 : (400 : Int32) < x
    · have c2' : ¬ x ≤ (400 : Int32) := Int32.not_le.mpr c2
      simp [zg_0, zg_bipush, zg_goto, zg_iconst, zg_if_icmp, zg_iload_n, zg_ireturn, zg_sipush, zf_X5_isScreenSize, zi_ld, zi_lda, zi_cmp, zi_retOk, zi_isI, zi_f3, zi_cr, zi_ci, zi_cn, zi_get, zi_set, h40, h400, c1, c1', c2, c2', zb]
    · have c2' : x ≤ (400 : Int32) := Int32.not_lt.mp c2
      simp [zg_0, zg_bipush, zg_goto, zg_iconst, zg_if_icmp, zg_iload_n, zg_ireturn, zg_sipush, zf_X5_isScreenSize, zi_ld, zi_lda, zi_cmp, zi_retOk, zi_isI, zi_f3, zi_cr, zi_ci, zi_cn, zi_get, zi_set, h40, h400, c1, c1', c2, c2', zb]
set_option maxRecDepth 100000 in
theorem ze_isWindowSize {h : zi_Hp} (D : Nat) (x : Int32) : ze_E (D + 1) A_Desk_isWindowSize [.int x] h (some (.int (zb (1 ≤ x ∧ x ≤ 200)))) h := by
  refine ze_in [(0, .int x)] zq_Desk_isWindowSize (Nat.le_of_ble_eq_true rfl) rfl ⟨0, 9, fun F n hF => ?_⟩
  have h200 : (Int16.ofInt 200).toInt32 = (200 : Int32) := by decide
  by_cases c1 : x < 1
  · have c1' : ¬ (1 : Int32) ≤ x := Int32.not_le.mpr c1
    simp [zg_0, zg_goto, zg_iconst, zg_if_icmp, zg_iload_n, zg_ireturn, zg_sipush, zf_X5_isWindowSize, zi_ld, zi_lda, zi_cmp, zi_retOk, zi_isI, zi_f3, zi_cr, zi_ci, zi_cn, zi_get, zi_set, h200, c1, c1', zb]
  · have c1' : (1 : Int32) ≤ x := Int32.not_lt.mp c1
    by_cases c2 : (200 : Int32) < x
    · have c2' : ¬ x ≤ (200 : Int32) := Int32.not_le.mpr c2
      simp [zg_0, zg_goto, zg_iconst, zg_if_icmp, zg_iload_n, zg_ireturn, zg_sipush, zf_X5_isWindowSize, zi_ld, zi_lda, zi_cmp, zi_retOk, zi_isI, zi_f3, zi_cr, zi_ci, zi_cn, zi_get, zi_set, h200, c1, c1', c2, c2', zb]
    · have c2' : x ≤ (200 : Int32) := Int32.not_lt.mp c2
      simp [zg_0, zg_goto, zg_iconst, zg_if_icmp, zg_iload_n, zg_ireturn, zg_sipush, zf_X5_isWindowSize, zi_ld, zi_lda, zi_cmp, zi_retOk, zi_isI, zi_f3, zi_cr, zi_ci, zi_cn, zi_get, zi_set, h200, c1, c1', c2, c2', zb]
set_option maxRecDepth 100000 in
theorem ze_isPlace {h : zi_Hp} (D : Nat) (x : Int32) : ze_E (D + 1) A_Desk_isPlace [.int x] h (some (.int (zb (-1000 ≤ x ∧ x ≤ 1000)))) h := by
  refine ze_in [(0, .int x)] zq_Desk_isPlace (Nat.le_of_ble_eq_true rfl) rfl ⟨0, 9, fun F n hF => ?_⟩
  have h1 : (Int16.ofInt (-1000)).toInt32 = (-1000 : Int32) := by decide
  have h2 : (Int16.ofInt 1000).toInt32 = (1000 : Int32) := by decide
  by_cases c1 : x < -1000
  · have c1' : ¬ (-1000 : Int32) ≤ x := Int32.not_le.mpr c1
    simp [zg_0, zg_goto, zg_iconst, zg_if_icmp, zg_iload_n, zg_ireturn, zg_sipush, zf_X5_isPlace, zi_ld, zi_lda, zi_cmp, zi_retOk, zi_isI, zi_f3, zi_cr, zi_ci, zi_cn, zi_get, zi_set, h1, h2, c1, c1', zb]
  · have c1' : (-1000 : Int32) ≤ x := Int32.not_lt.mp c1
    by_cases c2 : (1000 : Int32) < x
    · have c2' : ¬ x ≤ (1000 : Int32) := Int32.not_le.mpr c2
      simp [zg_0, zg_goto, zg_iconst, zg_if_icmp, zg_iload_n, zg_ireturn, zg_sipush, zf_X5_isPlace, zi_ld, zi_lda, zi_cmp, zi_retOk, zi_isI, zi_f3, zi_cr, zi_ci, zi_cn, zi_get, zi_set, h1, h2, c1, c1', c2, c2', zb]
    · have c2' : x ≤ (1000 : Int32) := Int32.not_lt.mp c2
      simp [zg_0, zg_goto, zg_iconst, zg_if_icmp, zg_iload_n, zg_ireturn, zg_sipush, zf_X5_isPlace, zi_ld, zi_lda, zi_cmp, zi_retOk, zi_isI, zi_f3, zi_cr, zi_ci, zi_cn, zi_get, zi_set, h1, h2, c1, c1', c2, c2', zb]
set_option maxRecDepth 100000 in
theorem ze_isAxis {h : zi_Hp} (D : Nat) (x : Int32) : ze_E (D + 1) A_Desk_isAxis [.int x] h (some (.int (zb (x = 0 ∨ x = 1)))) h := by
  refine ze_in [(0, .int x)] zq_Desk_isAxis (Nat.le_of_ble_eq_true rfl) rfl ⟨0, 8, fun F n hF => ?_⟩
  by_cases c1 : x = 0
  · simp [zg_0, zg_goto, zg_iconst, zg_ifCond, zg_if_icmp, zg_iload_n, zg_ireturn, zf_X5_isAxis, zi_ld, zi_lda, zi_cmp, zi_retOk, zi_isI, zi_f3, zi_cr, zi_ci, zi_cn, zi_get, zi_set, c1, zb]
  · by_cases c2 : x = 1
    · simp [zg_0, zg_goto, zg_iconst, zg_ifCond, zg_if_icmp, zg_iload_n, zg_ireturn, zf_X5_isAxis, zi_ld, zi_lda, zi_cmp, zi_retOk, zi_isI, zi_f3, zi_cr, zi_ci, zi_cn, zi_get, zi_set, c2, zb]
    · simp [zg_0, zg_goto, zg_iconst, zg_ifCond, zg_if_icmp, zg_iload_n, zg_ireturn, zf_X5_isAxis, zi_ld, zi_lda, zi_cmp, zi_retOk, zi_isI, zi_f3, zi_cr, zi_ci, zi_cn, zi_get, zi_set, c1, c2, zb]
set_option maxRecDepth 100000 in
/-- treeOf(window), its screen known -/
theorem ze_treeOf (D : Nat) {k s : Nat} (hk : k < 10) (hs : s < 3) (e : μ (zdW k) 5 = nI s) : ze_E (D + 1) A_Desk_treeOf [.ref 1, .int (nI k)] (zm_mk μ) (some (.ref (zdT s + 1))) (zm_mk μ) := by
  refine ze_in [(0, .ref 1), (1, .int (nI k))] zq_Desk_treeOf (Nat.le_of_ble_eq_true rfl) rfl ⟨0, 10, fun F n hF => ?_⟩
  simp [zg_0, zg_aaload, zg_aload_n, zg_areturn, zg_getfield, zg_iload_n, zf_X5_treeOf, zi_ld, zi_lda, zi_cmp, zi_retOk, zi_isI, zi_f3, zi_cr, zi_ci, zi_cn, zi_get, zi_set, zd_g, zd_w hk, zw_g (zdW_at hk), e, zd_s hs, zdS_g hs, zi_retA]
end ZD1
