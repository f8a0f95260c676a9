/-! Tree.commonBorder -/
set_option maxRecDepth 100000 in
theorem ze_border_3 (mx mn : Int32) (T k o a : Nat) (h : zi_Hp) (D : Nat) : ze_G (D + 3) 5 (some .int) zc_X3_commonBorder 32 [(4, .int mx), (0, .ref (T + 1)), (1, .int (nI k)), (2, .int (nI o)), (3, .int (nI a))] [.int mn] h (some (.int (mn - mx))) h := by
  refine ⟨0, 3, fun F n hF => ?_⟩
  simp [zg_0, zg_aload_n, zg_iload, zg_iload_n, zg_invokestatic, zg_invokevirtual, zg_ireturn, zg_istore, zg_isub, zf_X3_commonBorder, zi_ld, zi_lda, zi_cmp, zi_retOk, zi_isI, zi_f3, zi_cr, zi_ci, zi_cn, zi_get, zi_set]
section ZNB
variable {T : Nat} {μ : zm_M}
set_option maxRecDepth 100000 in
theorem ze_Tree_commonBorder (D : Nat) (h : zt_at T) (hm : zt_hm μ T) {k o a : Nat} (hk : k < 10) (ho : o < 10) (ha : a < 2) : ze_E (D + 4) A_Tree_commonBorder [.ref (T + 1), .int (nI k), .int (nI o), .int (nI a)] (zm_mk μ) (some (.int (zt_cb μ T k o a))) (zm_mk μ) := by
  obtain ⟨N3, E3⟩ := ze_Tree_startOf (μ := μ) (D + 1) h hm hk ha
  obtain ⟨N4, E4⟩ := ze_Tree_startOf (μ := μ) (D + 1) h hm ho ha
  obtain ⟨N5, E5⟩ := ze_Tree_endOf (μ := μ) D h hm hk ha
  obtain ⟨N6, E6⟩ := ze_Tree_endOf (μ := μ) D h hm ho ha
  obtain ⟨N1, E1⟩ := ze_max (h := zm_mk μ) (D + 2) (zt_so μ T a k) (zt_so μ T a o)
  obtain ⟨N2, E2⟩ := ze_min (h := zm_mk μ) (D + 2) (zt_so μ T a k + zt_lo μ T a k) (zt_so μ T a o + zt_lo μ T a o)
  obtain ⟨lc, hc⟩ := zt_c (μ := μ) h
  have S3 := ze_border_3 (zi_mx (zt_so μ T a k) (zt_so μ T a o)) (zi_mn (zt_so μ T a k + zt_lo μ T a k) (zt_so μ T a o + zt_lo μ T a o)) T k o a (zm_mk μ) D
  rw [show zi_mn (zt_so μ T a k + zt_lo μ T a k) (zt_so μ T a o + zt_lo μ T a o) - zi_mx (zt_so μ T a k) (zt_so μ T a o) = zt_cb μ T k o a from (zt_cb.eq_1 μ T k o a).symm] at S3
  generalize zt_cb μ T k o a = cb at S3
  generalize zi_mx (zt_so μ T a k) (zt_so μ T a o) = mx at S3 E1
  generalize zi_mn (zt_so μ T a k + zt_lo μ T a k) (zt_so μ T a o + zt_lo μ T a o) = mn at S3 E2
  have S1 : ze_S (D + 3) 5 (some .int) zc_X3_commonBorder 0 [(0, .ref (T + 1)), (1, .int (nI k)), (2, .int (nI o)), (3, .int (nI a))] [] (zm_mk μ) 17 [(4, .int mx), (0, .ref (T + 1)), (1, .int (nI k)), (2, .int (nI o)), (3, .int (nI a))] [] (zm_mk μ) := by
    refine ⟨N1 + N3 + N4, 10, fun F n hF => ?_⟩
    simp [zg_0, zg_aload_n, zg_iload, zg_iload_n, zg_invokestatic, zg_invokevirtual, zg_ireturn, zg_istore, zg_isub, zf_X3_commonBorder, zi_ld, zi_lda, zi_cmp, zi_retOk, zi_isI, zi_f3, zi_cr, zi_ci, zi_cn, zi_get, zi_set, zq_Math_max, zq_Tree_startOf, hc, E1 F (by omega), E3 F (by omega), E4 F (by omega)]
  have S2 : ze_S (D + 3) 5 (some .int) zc_X3_commonBorder 17 [(4, .int mx), (0, .ref (T + 1)), (1, .int (nI k)), (2, .int (nI o)), (3, .int (nI a))] [] (zm_mk μ) 32 [(4, .int mx), (0, .ref (T + 1)), (1, .int (nI k)), (2, .int (nI o)), (3, .int (nI a))] [.int mn] (zm_mk μ) := by
    refine ⟨N2 + N5 + N6, 9, fun F n hF => ?_⟩
    simp [zg_0, zg_aload_n, zg_iload, zg_iload_n, zg_invokestatic, zg_invokevirtual, zg_ireturn, zg_istore, zg_isub, zf_X3_commonBorder, zi_ld, zi_lda, zi_cmp, zi_retOk, zi_isI, zi_f3, zi_cr, zi_ci, zi_cn, zi_get, zi_set, zq_Math_min, zq_Tree_endOf, hc, E2 F (by omega), E5 F (by omega), E6 F (by omega)]
  exact ze_in [(0, .ref (T + 1)), (1, .int (nI k)), (2, .int (nI o)), (3, .int (nI a))] zq_Tree_commonBorder (Nat.le_of_ble_eq_true rfl) rfl ((S1.trans S2).end S3)
end ZNB
