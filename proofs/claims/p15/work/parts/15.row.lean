/-! Row: window numbers in an order -/
/-- a Row at cell r: its ints at r + 1 -/
def zr_at (r : Nat) : Prop := zh_2[r]? = some (1, [.ref (r + 2), .int 0]) ∧ zm_isA 7 (r + 1) 10
def zr_cells : List Nat := [3, 5, 34, 8, 69, 94, 124, 149, 179, 204]
theorem zr_at_of : ∀ r ∈ zr_cells, zr_at r := by
  intro r hr
  simp only [zr_cells, List.mem_cons, List.not_mem_nil, or_false] at hr
  rcases hr with rfl | rfl | rfl | rfl | rfl | rfl | rfl | rfl | rfl | rfl <;> exact ⟨by decide +kernel, zm_isA_of (by decide +kernel)⟩
section ZR
variable {μ : zm_M} {r : Nat}
theorem zr_g0 (h : zr_at r) : zi_gf (zm_mk μ) 1 0 r = some (.ref (r + 1 + 1)) := zm_gfr h.1 (by decide) rfl
theorem zr_g1 (h : zr_at r) : zi_gf (zm_mk μ) 1 1 r = some (.int (μ r 1)) := zm_gfi h.1 (by decide) rfl
theorem zr_p1 (h : zr_at r) (x : Int32) : zi_pf (zm_mk μ) 1 1 r (.int x) = some (zm_mk (zm_up μ r 1 x)) := zm_pfi h.1 (by decide) rfl rfl
set_option maxRecDepth 100000 in
/-- size() -/
theorem ze_Row_size (D : Nat) (h : zr_at r) : ze_E (D + 1) A_Row_size [.ref (r + 1)] (zm_mk μ) (some (.int (μ r 1))) (zm_mk μ) := by
  refine ze_enter (nL := 1) (ret := some .int) (code0 := zc_X1_size) rfl (Nat.le_of_ble_eq_true rfl) ⟨0, 10, fun F n _ => ?_⟩
  simp [zi_go, zc_X1_size, zc_X1_size_0, zi_ask, zi_new, zi_step, zi_lda, zi_get, lv_args, Value.category, zr_g1 h, zi_retOk, zi_isI]
set_option maxRecDepth 100000 in
/-- get(i) -/
theorem ze_Row_get (D : Nat) (i : Int32) (h : zr_at r) (hs : μ r 1 ≤ 10) : ze_E (D + 1) A_Row_get [.ref (r + 1), .int i] (zm_mk μ) (some (.int (if 0 ≤ i ∧ i < μ r 1 then μ (r + 1) i.toNatClampNeg else -1))) (zm_mk μ) := by
  refine ze_enter (nL := 2) (ret := some .int) (code0 := zc_X1_get) rfl (Nat.le_of_ble_eq_true rfl) ⟨0, 20, fun F n _ => ?_⟩
  by_cases h1 : i < 0
  · have h2 : ¬ (0 : Int32) ≤ i := Int32.not_le.mpr h1
    simp [zi_go, zc_X1_get, zc_X1_get_0, zi_ask, zi_new, zi_step, zi_ld, zi_lda, zi_get, lv_args, Value.category, zr_g0 h, zr_g1 h, zi_retOk, zi_isI, zi_cmp, h1, h2]
  · have h2 : (0 : Int32) ≤ i := Int32.not_lt.mp h1
    by_cases h3 : μ r 1 ≤ i
    · have h4 : ¬ i < μ r 1 := Int32.not_lt.mpr h3
      simp [zi_go, zc_X1_get, zc_X1_get_0, zi_ask, zi_new, zi_step, zi_ld, zi_lda, zi_get, lv_args, Value.category, zr_g0 h, zr_g1 h, zi_retOk, zi_isI, zi_cmp, h1, h2, h3, h4]
    · have h4 : i < μ r 1 := Int32.not_le.mp h3
      have h5 : zi_in i 10 = true := by
        unfold zi_in
        refine decide_eq_true ?_
        have := vp_in_iff (x := i) (n := 10)
        refine this.mpr ?_
        rw [Int32.le_iff_toInt_le] at h2 hs
        rw [Int32.lt_iff_toInt_lt] at h4
        have e0 : (0 : Int32).toInt = 0 := by decide
        have e10 : (10 : Int32).toInt = 10 := by decide
        omega
      simp [zi_go, zc_X1_get, zc_X1_get_0, zi_ask, zi_new, zi_step, zi_ld, zi_lda, zi_get, lv_args, Value.category, zr_g0 h, zr_g1 h, zi_retOk, zi_isI, zi_cmp, h1, h2, h3, h4, zm_iald (k := 0) h.2 h5]
end ZR
