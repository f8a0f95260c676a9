/-! Math, between, Window -/
def zb (p : Prop) [Decidable p] : Int32 := if p then 1 else 0
def zi_mx (x y : Int32) : Int32 := if x < y then y else x
def zi_mn (x y : Int32) : Int32 := if y < x then y else x
def zi_bt (lo v hi : Int32) : Int32 := zi_mx lo (zi_mn v hi)
section ZW1
variable {μ : zm_M} {h : zi_Hp}
set_option maxRecDepth 100000 in
theorem ze_max (D : Nat) (x y : Int32) : ze_E (D + 1) A_Math_max [.int x, .int y] h (some (.int (zi_mx x y))) h := by
  refine ze_in [(0, .int x), (1, .int y)] zq_Math_max (Nat.le_of_ble_eq_true rfl) rfl ⟨0, 10, fun F n hF => ?_⟩
  by_cases c : x < y <;> simp [zg_0, zg_goto, zg_if_icmp, zg_iload_n, zg_ireturn, zf_J9_max_7cf53, zi_ld, zi_lda, zi_cmp, zi_retOk, zi_isI, zi_f3, zi_cr, zi_ci, zi_cn, zi_get, zi_mx, c]
set_option maxRecDepth 100000 in
theorem ze_min (D : Nat) (x y : Int32) : ze_E (D + 1) A_Math_min [.int x, .int y] h (some (.int (zi_mn x y))) h := by
  refine ze_in [(0, .int x), (1, .int y)] zq_Math_min (Nat.le_of_ble_eq_true rfl) rfl ⟨0, 10, fun F n hF => ?_⟩
  by_cases c : y < x <;> simp [zg_0, zg_goto, zg_if_icmp, zg_iload_n, zg_ireturn, zf_J9_min_7cf53, zi_ld, zi_lda, zi_cmp, zi_retOk, zi_isI, zi_f3, zi_cr, zi_ci, zi_cn, zi_get, zi_mn, c]
set_option maxRecDepth 100000 in
theorem ze_between (D : Nat) (x y z : Int32) : ze_E (D + 2) A_Desk_between [.int x, .int y, .int z] h (some (.int (zi_bt x y z))) h := by
  obtain ⟨N, h1⟩ := ze_min (h := h) D y z
  obtain ⟨M, h2⟩ := ze_max (h := h) D x (zi_mn y z)
  refine ze_in [(0, .int x), (1, .int y), (2, .int z)] zq_Desk_between (Nat.le_of_ble_eq_true rfl) rfl ⟨N + M, 10, fun F n hF => ?_⟩
  simp [zg_0, zg_iload_n, zg_invokestatic, zg_ireturn, zf_X5_between, zi_ld, zi_lda, zi_cmp, zi_retOk, zi_isI, zi_f3, zi_cr, zi_ci, zi_cn, zi_get, zi_bt, zq_Math_min, zq_Math_max, h1 F (by omega), h2 F (by omega)]
/-- a Window at cell w -/
def zw_at (w : Nat) : Prop := zh_2[w]? = some (4, [.ref (w + 2), .ref (w + 3), .int 0, .int 0, .int (-1), .int (-1)]) ∧ zm_isA 7 (w + 1) 2 ∧ zm_isA 7 (w + 2) 2
theorem zw_at_of : ∀ k, k < 10 → zw_at (36 + 3 * k) := by
  intro k hk
  match k, hk with
  | 0, _ => exact ⟨by decide +kernel, zm_isA_of (by decide +kernel), zm_isA_of (by decide +kernel)⟩
  | 1, _ => exact ⟨by decide +kernel, zm_isA_of (by decide +kernel), zm_isA_of (by decide +kernel)⟩
  | 2, _ => exact ⟨by decide +kernel, zm_isA_of (by decide +kernel), zm_isA_of (by decide +kernel)⟩
  | 3, _ => exact ⟨by decide +kernel, zm_isA_of (by decide +kernel), zm_isA_of (by decide +kernel)⟩
  | 4, _ => exact ⟨by decide +kernel, zm_isA_of (by decide +kernel), zm_isA_of (by decide +kernel)⟩
  | 5, _ => exact ⟨by decide +kernel, zm_isA_of (by decide +kernel), zm_isA_of (by decide +kernel)⟩
  | 6, _ => exact ⟨by decide +kernel, zm_isA_of (by decide +kernel), zm_isA_of (by decide +kernel)⟩
  | 7, _ => exact ⟨by decide +kernel, zm_isA_of (by decide +kernel), zm_isA_of (by decide +kernel)⟩
  | 8, _ => exact ⟨by decide +kernel, zm_isA_of (by decide +kernel), zm_isA_of (by decide +kernel)⟩
  | 9, _ => exact ⟨by decide +kernel, zm_isA_of (by decide +kernel), zm_isA_of (by decide +kernel)⟩
variable {w : Nat}
theorem zw_c (h : zw_at w) : (zm_mk μ)[w]? = some (4, [.ref (w + 2), .ref (w + 3), .int (μ w 2), .int (μ w 3), .int (μ w 4), .int (μ w 5)]) := zm_get h.1
theorem zw_g (h : zw_at w) : zi_gf (zm_mk μ) 4 0 w = some (.ref (w + 1 + 1)) ∧ zi_gf (zm_mk μ) 4 1 w = some (.ref (w + 2 + 1)) ∧ zi_gf (zm_mk μ) 4 2 w = some (.int (μ w 2)) ∧ zi_gf (zm_mk μ) 4 3 w = some (.int (μ w 3)) ∧ zi_gf (zm_mk μ) 4 4 w = some (.int (μ w 4)) ∧ zi_gf (zm_mk μ) 4 5 w = some (.int (μ w 5)) :=
  ⟨zm_gfr h.1 (by decide) rfl, zm_gfr h.1 (by decide) rfl, zm_gfi h.1 (by decide) rfl, zm_gfi h.1 (by decide) rfl, zm_gfi h.1 (by decide) rfl, zm_gfi h.1 (by decide) rfl⟩
theorem zw_p3 (h : zw_at w) (x : Int32) : zi_pf (zm_mk μ) 4 3 w (.int x) = some (zm_mk (zm_up μ w 3 x)) := zm_pfi h.1 (by decide) rfl rfl
theorem zw_p4 (h : zw_at w) (x : Int32) : zi_pf (zm_mk μ) 4 4 w (.int x) = some (zm_mk (zm_up μ w 4 x)) := zm_pfi h.1 (by decide) rfl rfl
theorem zw_p5 (h : zw_at w) (x : Int32) : zi_pf (zm_mk μ) 4 5 w (.int x) = some (zm_mk (zm_up μ w 5 x)) := zm_pfi h.1 (by decide) rfl rfl
theorem zw_p2 (h : zw_at w) {x : Int32} (hx : x = 0 ∨ x = 1) : zi_pf (zm_mk μ) 4 2 w (.int x) = some (zm_mk (zm_up μ w 2 x)) := zm_pfi h.1 (by decide) rfl (by rcases hx with rfl | rfl <;> decide)
theorem zm_in0 : zi_in 0 2 = true := by decide
theorem zm_in1 : zi_in 1 2 = true := by decide
theorem zm_cl0 : (0 : Int32).toNatClampNeg = 0 := by decide
theorem zm_cl1 : (1 : Int32).toNatClampNeg = 1 := by decide
set_option maxRecDepth 100000 in
theorem ze_isTiled (D : Nat) (h : zw_at w) : ze_E (D + 1) A_Win_isTiled [.ref (w + 1)] (zm_mk μ) (some (.int (zb (¬ μ w 2 = 0 ∧ μ w 3 = 1)))) (zm_mk μ) := by
  refine ze_in [(0, .ref (w + 1))] zq_Win_isTiled (Nat.le_of_ble_eq_true rfl) rfl ⟨0, 12, fun F n hF => ?_⟩
  by_cases c : μ w 2 = 0 <;> by_cases c2 : μ w 3 = 1 <;> simp [zg_0, zg_aload_n, zg_getfield, zg_goto, zg_iconst, zg_ifCond, zg_if_icmp, zg_ireturn, zf_X4_isTiled, zi_ld, zi_lda, zi_cmp, zi_retOk, zi_isI, zi_f3, zi_cr, zi_ci, zi_cn, zi_get, zw_g h, c, c2, zb]
set_option maxRecDepth 100000 in
theorem ze_isFloating (D : Nat) (h : zw_at w) : ze_E (D + 1) A_Win_isFloating [.ref (w + 1)] (zm_mk μ) (some (.int (zb (¬ μ w 2 = 0 ∧ ¬ μ w 3 = 1)))) (zm_mk μ) := by
  refine ze_in [(0, .ref (w + 1))] zq_Win_isFloating (Nat.le_of_ble_eq_true rfl) rfl ⟨0, 12, fun F n hF => ?_⟩
  by_cases c : μ w 2 = 0 <;> by_cases c2 : μ w 3 = 1 <;> simp [zg_0, zg_aload_n, zg_getfield, zg_goto, zg_iconst, zg_ifCond, zg_if_icmp, zg_ireturn, zf_X4_isFloating, zi_ld, zi_lda, zi_cmp, zi_retOk, zi_isI, zi_f3, zi_cr, zi_ci, zi_cn, zi_get, zw_g h, c, c2, zb]
set_option maxRecDepth 100000 in
theorem ze_isSticky (D : Nat) (h : zw_at w) : ze_E (D + 1) A_Win_isSticky [.ref (w + 1)] (zm_mk μ) (some (.int (zb (¬ μ w 2 = 0 ∧ μ w 3 = 4)))) (zm_mk μ) := by
  refine ze_in [(0, .ref (w + 1))] zq_Win_isSticky (Nat.le_of_ble_eq_true rfl) rfl ⟨0, 12, fun F n hF => ?_⟩
  by_cases c : μ w 2 = 0 <;> by_cases c2 : μ w 3 = 4 <;> simp [zg_0, zg_aload_n, zg_getfield, zg_goto, zg_iconst, zg_ifCond, zg_if_icmp, zg_ireturn, zf_X4_isSticky, zi_ld, zi_lda, zi_cmp, zi_retOk, zi_isI, zi_f3, zi_cr, zi_ci, zi_cn, zi_get, zw_g h, c, c2, zb]
set_option maxRecDepth 100000 in
theorem ze_isOn (D : Nat) (h : zw_at w) (s : Int32) : ze_E (D + 1) A_Win_isOn [.ref (w + 1), .int s] (zm_mk μ) (some (.int (zb (¬ μ w 2 = 0 ∧ ¬ μ w 3 = 4 ∧ μ w 5 = s)))) (zm_mk μ) := by
  refine ze_in [(0, .ref (w + 1)), (1, .int s)] zq_Win_isOn (Nat.le_of_ble_eq_true rfl) rfl ⟨0, 16, fun F n hF => ?_⟩
  by_cases c : μ w 2 = 0 <;> by_cases c2 : μ w 3 = 4 <;> by_cases c3 : μ w 5 = s <;> simp [zg_0, zg_aload_n, zg_getfield, zg_goto, zg_iconst, zg_ifCond, zg_if_icmp, zg_iload_n, zg_ireturn, zf_X4_isOn, zi_ld, zi_lda, zi_cmp, zi_retOk, zi_isI, zi_f3, zi_cr, zi_ci, zi_cn, zi_get, zw_g h, c, c2, c3, zb]
set_option maxRecDepth 100000 in
theorem ze_isLooseOn (D : Nat) (h : zw_at w) (s : Int32) : ze_E (D + 2) A_Win_isLooseOn [.ref (w + 1), .int s] (zm_mk μ) (some (.int (zb (¬ μ w 2 = 0 ∧ ¬ μ w 3 = 4 ∧ μ w 5 = s ∧ ¬ μ w 3 = 1)))) (zm_mk μ) := by
  obtain ⟨N, h1⟩ := ze_isOn (μ := μ) D h s
  refine ze_in [(0, .ref (w + 1)), (1, .int s)] zq_Win_isLooseOn (Nat.le_of_ble_eq_true rfl) rfl ⟨N, 16, fun F n hF => ?_⟩
  by_cases c : (¬ μ w 2 = 0 ∧ ¬ μ w 3 = 4 ∧ μ w 5 = s)
  · have e1 : zb (¬ μ w 2 = 0 ∧ ¬ μ w 3 = 4 ∧ μ w 5 = s) = 1 := if_pos c
    rw [e1] at h1
    by_cases c2 : μ w 3 = 1 <;> simp [zg_0, zg_aload_n, zg_getfield, zg_goto, zg_iconst, zg_ifCond, zg_if_icmp, zg_iload_n, zg_invokevirtual, zg_ireturn, zf_X4_isLooseOn, zi_ld, zi_lda, zi_cmp, zi_retOk, zi_isI, zi_f3, zi_cr, zi_ci, zi_cn, zi_get, zq_Win_isOn, zw_c h, zw_g h, h1 F hF, c, c2, zb]
  · have e1 : zb (¬ μ w 2 = 0 ∧ ¬ μ w 3 = 4 ∧ μ w 5 = s) = 0 := if_neg c
    rw [e1] at h1
    have e2 : zb (¬ μ w 2 = 0 ∧ ¬ μ w 3 = 4 ∧ μ w 5 = s ∧ ¬ μ w 3 = 1) = 0 := if_neg (fun q => c ⟨q.1, q.2.1, q.2.2.1⟩)
    rw [e2]
    simp [zg_0, zg_aload_n, zg_getfield, zg_goto, zg_iconst, zg_ifCond, zg_if_icmp, zg_iload_n, zg_invokevirtual, zg_ireturn, zf_X4_isLooseOn, zi_ld, zi_lda, zi_cmp, zi_retOk, zi_isI, zi_f3, zi_cr, zi_ci, zi_cn, zi_get, zq_Win_isOn, zw_c h, zw_g h, h1 F hF]
set_option maxRecDepth 100000 in
theorem ze_fallsUnder (D : Nat) (h : zw_at w) (q : Int32) : ze_E (D + 1) A_Win_fallsUnder [.ref (w + 1), .int q] (zm_mk μ) (some (.int (zb (¬ μ w 2 = 0 ∧ (μ w 3 = q ∨ q = 0 ∨ (q = 2 ∧ ¬ μ w 3 = 1)))))) (zm_mk μ) := by
  refine ze_in [(0, .ref (w + 1)), (1, .int q)] zq_Win_fallsUnder (Nat.le_of_ble_eq_true rfl) rfl ⟨0, 30, fun F n hF => ?_⟩
  by_cases c0 : q = 0
  · subst c0
    by_cases c : μ w 2 = 0 <;> by_cases c2 : μ w 3 = 0 <;> simp [zg_0, zg_aload_n, zg_getfield, zg_goto, zg_iconst, zg_ifCond, zg_if_icmp, zg_iload_n, zg_ireturn, zg_istore_n, zf_X4_fallsUnder, zi_ld, zi_lda, zi_cmp, zi_retOk, zi_isI, zi_f3, zi_cr, zi_ci, zi_cn, zi_get, zi_set, zw_g h, c, c2, zb]
  · by_cases c1 : q = 2
    · subst c1
      by_cases c : μ w 2 = 0 <;> by_cases c2 : μ w 3 = 2 <;> by_cases c3 : μ w 3 = 1 <;> simp_all [zi_go, zf_X4_fallsUnder, zi_ask, zi_new, zi_step, zi_ld, zi_lda, zi_cmp, zi_retOk, zi_isI, zi_f3, zi_cr, zi_ci, zi_cn, zi_get, zi_set, zw_g h, zb]
    · by_cases c : μ w 2 = 0 <;> by_cases c2 : μ w 3 = q <;> simp [zg_0, zg_aload_n, zg_getfield, zg_goto, zg_iconst, zg_ifCond, zg_if_icmp, zg_iload_n, zg_ireturn, zg_istore_n, zf_X4_fallsUnder, zi_ld, zi_lda, zi_cmp, zi_retOk, zi_isI, zi_f3, zi_cr, zi_ci, zi_cn, zi_get, zi_set, zw_g h, c, c0, c1, c2, zb]
set_option maxRecDepth 100000 in
theorem ze_canBeWhole (D : Nat) (h : zw_at w) {z : Nat} (hz : zm_isA 7 z 2) : ze_E (D + 1) A_Win_canBeWhole [.ref (w + 1), .ref (z + 1)] (zm_mk μ) (some (.int (zb (μ (w + 1) 0 ≤ μ z 0 ∧ μ (w + 1) 1 ≤ μ z 1)))) (zm_mk μ) := by
  refine ze_in [(0, .ref (w + 1)), (1, .ref (z + 1))] zq_Win_canBeWhole (Nat.le_of_ble_eq_true rfl) rfl ⟨0, 24, fun F n hF => ?_⟩
  by_cases c : μ z 0 < μ (w + 1) 0
  · have c' : ¬ μ (w + 1) 0 ≤ μ z 0 := Int32.not_le.mpr c
    simp [zg_0, zg_aload_n, zg_getfield, zg_goto, zg_iaload, zg_iconst, zg_if_icmp, zg_ireturn, zf_X4_canBeWhole, zi_ld, zi_lda, zi_cmp, zi_retOk, zi_isI, zi_f3, zi_cr, zi_ci, zi_cn, zi_get, zw_g h, zm_iald (k := 0) h.2.1 zm_in0, zm_iald (k := 0) hz zm_in0, zm_cl0, c, c', zb]
  · have c' : μ (w + 1) 0 ≤ μ z 0 := Int32.not_lt.mp c
    by_cases c2 : μ z 1 < μ (w + 1) 1
    · have c2' : ¬ μ (w + 1) 1 ≤ μ z 1 := Int32.not_le.mpr c2
      simp [zg_0, zg_aload_n, zg_getfield, zg_goto, zg_iaload, zg_iconst, zg_if_icmp, zg_ireturn, zf_X4_canBeWhole, zi_ld, zi_lda, zi_cmp, zi_retOk, zi_isI, zi_f3, zi_cr, zi_ci, zi_cn, zi_get, zw_g h, zm_iald (k := 0) h.2.1 zm_in0, zm_iald (k := 0) hz zm_in0, zm_iald (k := 0) h.2.1 zm_in1, zm_iald (k := 0) hz zm_in1, zm_cl0, zm_cl1, c, c', c2, c2', zb]
    · have c2' : μ (w + 1) 1 ≤ μ z 1 := Int32.not_lt.mp c2
      simp [zg_0, zg_aload_n, zg_getfield, zg_goto, zg_iaload, zg_iconst, zg_if_icmp, zg_ireturn, zf_X4_canBeWhole, zi_ld, zi_lda, zi_cmp, zi_retOk, zi_isI, zi_f3, zi_cr, zi_ci, zi_cn, zi_get, zw_g h, zm_iald (k := 0) h.2.1 zm_in0, zm_iald (k := 0) hz zm_in0, zm_iald (k := 0) h.2.1 zm_in1, zm_iald (k := 0) hz zm_in1, zm_cl0, zm_cl1, c, c', c2, c2', zb]
set_option maxRecDepth 100000 in
theorem ze_nearest (D : Nat) (h : zw_at w) {z : Nat} (hz : zm_isA 7 z 2) (v a : Int32) (ha : zi_in a 2 = true) : ze_E (D + 3) A_Win_nearest [.ref (w + 1), .int v, .int a, .ref (z + 1)] (zm_mk μ) (some (.int (zi_bt 0 v (μ z a.toNatClampNeg - μ (w + 1) a.toNatClampNeg)))) (zm_mk μ) := by
  obtain ⟨N, h1⟩ := ze_between (h := zm_mk μ) D 0 v (μ z a.toNatClampNeg - μ (w + 1) a.toNatClampNeg)
  refine ze_in [(0, .ref (w + 1)), (1, .int v), (2, .int a), (3, .ref (z + 1))] zq_Win_nearest (Nat.le_of_ble_eq_true rfl) rfl ⟨N, 20, fun F n hF => ?_⟩
  simp [zg_0, zg_aload_n, zg_getfield, zg_iaload, zg_iconst, zg_iload_n, zg_invokestatic, zg_ireturn, zg_isub, zf_X4_nearest, zi_ld, zi_lda, zi_cmp, zi_retOk, zi_isI, zi_f3, zi_cr, zi_ci, zi_cn, zi_get, zw_g h, zm_iald (k := 0) h.2.1 ha, zm_iald (k := 0) hz ha, zq_Desk_between, h1 F hF]
/-- where a window is put -/
def zw_put (μ : zm_M) (w z : Nat) (x y : Int32) : zm_M := zm_up (zm_up μ (w + 2) 0 (zi_bt 0 x (μ z 0 - μ (w + 1) 0))) (w + 2) 1 (zi_bt 0 y (μ z 1 - μ (w + 1) 1))
set_option maxRecDepth 100000 in
theorem ze_putAt (D : Nat) (h : zw_at w) {z : Nat} (hz : zm_isA 7 z 2) (hd : z ≠ w + 2) (x y : Int32) : ze_E (D + 4) A_Win_putAt [.ref (w + 1), .int x, .int y, .ref (z + 1)] (zm_mk μ) none (zm_mk (zw_put μ w z x y)) := by
  obtain ⟨N, h1⟩ := ze_nearest (μ := μ) D h hz x 0 zm_in0
  obtain ⟨M, h2⟩ := ze_nearest (μ := zm_up μ (w + 2) 0 (zi_bt 0 x (μ z 0 - μ (w + 1) 0))) D h hz y 1 zm_in1
  rw [zm_cl0] at h1
  rw [zm_cl1, zm_up_ne (by omega), zm_up_ne (by omega)] at h2
  refine ze_in [(0, .ref (w + 1)), (1, .int x), (2, .int y), (3, .ref (z + 1))] zq_Win_putAt (Nat.le_of_ble_eq_true rfl) rfl ⟨N + M, 30, fun F n hF => ?_⟩
  simp [zg_0, zg_aload_n, zg_getfield, zg_iastore, zg_iconst, zg_iload_n, zg_invokevirtual, zg_return, zf_X4_putAt, zi_ld, zi_lda, zi_cmp, zi_retOk, zi_isI, zi_f3, zi_cr, zi_ci, zi_cn, zi_get, zq_Win_nearest, zw_c h, zw_g h, h1 F (by omega), zm_iast h.2.2 zm_in0, zm_cl0, h2 F (by omega), zm_iast h.2.2 zm_in1, zm_cl1, zw_put]
set_option maxRecDepth 100000 in
theorem ze_prepare (D : Nat) (h : zw_at w) (k x y o : Int32) : ze_E (D + 1) A_Win_prepare [.ref (w + 1), .int k, .int x, .int y, .int o] (zm_mk μ) none (zm_mk (zm_up (zm_up (zm_up (zm_up (zm_up μ w 3 k) (w + 1) 0 x) (w + 1) 1 y) w 4 o) w 5 (-1))) := by
  refine ze_in [(0, .ref (w + 1)), (1, .int k), (2, .int x), (3, .int y), (4, .int o)] zq_Win_prepare (Nat.le_of_ble_eq_true rfl) rfl ⟨0, 24, fun F n hF => ?_⟩
  simp [zg_0, zg_aload_n, zg_getfield, zg_iastore, zg_iconst, zg_iload, zg_iload_n, zg_putfield, zg_return, zf_X4_prepare, zi_ld, zi_lda, zi_cmp, zi_retOk, zi_isI, zi_f3, zi_cr, zi_ci, zi_cn, zi_get, zw_g h, zw_p3 h, zw_p4 h, zw_p5 h, zm_iast h.2.1 zm_in0, zm_iast h.2.1 zm_in1, zm_cl0, zm_cl1]
end ZW1
