/-! the desk: what is at hand -/
section ZH1
variable {μ : zm_M} {row : List Nat} {R : List Nat} {t : zy_F}
def zd_sah (μ : zm_M) : List Nat → Int32
  | [] => zd_lsb μ (-1)
  | k :: l => if zd_sti μ k = true then zd_sah μ l else μ (zdW k) 5
set_option maxRecDepth 100000 in
theorem ze_screenAtHand (D : Nat) (hrow : zr_L μ 3 row) (hrb : ∀ j ∈ row, j < 10) : ze_E (D + 2) A_Desk_screenAtHand [.ref 1] (zm_mk μ) (some (.int (zd_sah μ row))) (zm_mk μ) := by
  have hl := hrow.1
  have key : ∃ r h', ze_G (D + 1) 3 (some .int) zc_X5_screenAtHand 2 [(1, .int (nI 0)), (0, .ref 1)] [] (zm_mk μ) r h' ∧ (r = some (.int (zd_sah μ row)) ∧ zm_mk μ = h') := by
    refine ze_loop (Q := fun i L hp => i ≤ row.length ∧ zi_nl L = true ∧ zi_get L 0 = some (.ref 1) ∧ zi_get L 1 = some (.int (nI i)) ∧ zm_mk μ = hp ∧ (zd_sah μ row = zd_sah μ (row.drop i))) (R := fun r h' => r = some (.int (zd_sah μ row)) ∧ zm_mk μ = h') row.length ?_ ?_ row.length 0 _ _ (by omega) ⟨by omega, rfl, rfl, rfl, rfl, rfl⟩
    · rintro i L _ hi ⟨-, nl, g0, g1, rfl, hq⟩
      have hkm : row.getD i 0 ∈ row := zl_mem hi
      rw [zl_drop hi] at hq
      obtain ⟨N1, E1⟩ := ze_Row_sizeL (μ := μ) D zd3_at hrow
      obtain ⟨N2, E2⟩ := ze_Row_getL (μ := μ) D zd3_at hrow hi
      generalize row.getD i 0 = k at hkm E2 hq
      have hk := hrb k hkm
      have hq' : zd_sah μ row = if zd_sti μ k = true then zd_sah μ (row.drop (i + 1)) else μ (zdW k) 5 := hq
      have c1 : ¬ nI row.length ≤ nI i := nI_ge hi (by omega)
      have cr := zr_c (μ := μ) zd3_at
      have cw := zw_c (μ := μ) (zdW_at hk)
      obtain ⟨N3, E3⟩ := ze_stiW (μ := μ) D hk
      by_cases c2 : zd_sti μ k = true
      · rw [if_pos c2] at E3 hq'
        left
        refine ⟨zi_set (zi_set L 2 (.ref (zdW k + 1))) 1 (.int (nI (i + 1))), zm_mk μ, ⟨N1 + N2 + N3, 18, fun F m hF => ?_⟩, by omega, ?_, ?_, zi_get_set_eq, rfl, hq'⟩
        · simp (maxDischargeDepth := 9) [zg_0, zg_aaload, zg_aload_n, zg_astore_n, zg_getfield, zg_goto, zg_iconst, zg_ifCond, zg_if_icmp, zg_iinc, zg_iload_n, zg_invokevirtual, zg_ireturn, zg_istore_n, zf_X5_screenAtHand, zi_ld, zi_lda, zi_cmp, zi_retOk, zi_isI, zi_f3, zi_cr, zi_ci, zi_cn, zi_get_ne, zi_nl_i, zi_nl_r, zi_get_set_eq, nl, g0, g1, c1, zd_g, zq_Row_size, zq_Row_get, cr, E1 F (by omega), E2 F (by omega), zd_w hk, zq_Win_isSticky, cw, E3 F (by omega), nI_1]
        · simp (maxDischargeDepth := 9) [zi_get_ne, zi_nl_i, zi_nl_r, zi_get_set_eq, nl]
        · simp (maxDischargeDepth := 9) [zi_get_ne, zi_nl_i, zi_nl_r, zi_get_set_eq, nl, g0]
      · rw [if_neg c2] at E3 hq'
        right
        refine ⟨some (.int (μ (zdW k) 5)), zm_mk μ, ⟨N1 + N2 + N3, 19, fun F m hF => ?_⟩, by rw [hq'], rfl⟩
        simp (maxDischargeDepth := 9) [zg_0, zg_aaload, zg_aload_n, zg_astore_n, zg_getfield, zg_goto, zg_iconst, zg_ifCond, zg_if_icmp, zg_iinc, zg_iload_n, zg_invokevirtual, zg_ireturn, zg_istore_n, zf_X5_screenAtHand, zi_ld, zi_lda, zi_cmp, zi_retOk, zi_isI, zi_f3, zi_cr, zi_ci, zi_cn, zi_get_ne, zi_nl_i, zi_nl_r, zi_get_set_eq, nl, g0, g1, c1, zd_g, zq_Row_size, zq_Row_get, cr, E1 F (by omega), E2 F (by omega), zd_w hk, zw_g (zdW_at hk), zq_Win_isSticky, cw, E3 F (by omega), nI_1]
    · rintro L _ ⟨-, nl, g0, g1, rfl, hq⟩
      obtain ⟨N1, E1⟩ := ze_Row_sizeL (μ := μ) D zd3_at hrow
      obtain ⟨N2, E2⟩ := ze_leastScreenBut (μ := μ) D (-1)
      have cr := zr_c (μ := μ) zd3_at
      rw [List.drop_length] at hq
      have hq : zd_sah μ row = zd_lsb μ (-1) := hq
      rw [hq]
      refine ⟨_, zm_mk μ, ⟨N1 + N2, 9, fun F m hF => ?_⟩, rfl, rfl⟩
      simp [zg_0, zg_aaload, zg_aload_n, zg_astore_n, zg_getfield, zg_goto, zg_iconst, zg_ifCond, zg_if_icmp, zg_iinc, zg_iload_n, zg_invokevirtual, zg_ireturn, zg_istore_n, zf_X5_screenAtHand, zi_ld, zi_lda, zi_cmp, zi_retOk, zi_isI, zi_f3, zi_cr, zi_ci, zi_cn, g0, g1, zd_g, zq_Row_size, cr, E1 F (by omega), zq_Desk_leastScreenBut, zd_c, E2 F (by omega)]
  obtain ⟨r, h', G, rfl, rfl⟩ := key
  refine ze_in [(0, .ref 1)] zq_Desk_screenAtHand (Nat.le_of_ble_eq_true rfl) rfl (ze_S.end ⟨0, 2, fun F m hF => ?_⟩ G)
  simp [zg_0, zg_aaload, zg_aload_n, zg_astore_n, zg_getfield, zg_goto, zg_iconst, zg_ifCond, zg_if_icmp, zg_iinc, zg_iload_n, zg_invokevirtual, zg_ireturn, zg_istore_n, zf_X5_screenAtHand, zi_ld, zi_lda, zi_cmp, zi_retOk, zi_isI, zi_f3, zi_cr, zi_ci, zi_cn, zi_get, zi_set, nI_0]
def zd_lah (μ : zm_M) (T : Nat) (t : zy_F) : List Nat → Int32
  | [] => if 0 < (zy_lvs t).length then nI ((zy_lvs t).getD 0 0) else -1
  | k :: l => if μ (T + 3) k < 0 then zd_lah μ T t l else μ (T + 3) k
set_option maxRecDepth 100000 in
theorem ze_leafAtHand (D : Nat) (hrow : zr_L μ 3 row) (hrb : ∀ j ∈ row, j < 10) {T : Nat} (hT : zt_at T) (hC : zt_C μ T R t) : ze_E (D + 2) A_Desk_leafAtHand [.ref 1, .ref (T + 1)] (zm_mk μ) (some (.int (zd_lah μ T t row))) (zm_mk μ) := by
  have hl := hrow.1
  obtain ⟨lt, ct⟩ := zt_c (μ := μ) hT
  have key : ∃ r h', ze_G (D + 1) 4 (some .int) zc_X5_leafAtHand 2 [(2, .int (nI 0)), (0, .ref 1), (1, .ref (T + 1))] [] (zm_mk μ) r h' ∧ (r = some (.int (zd_lah μ T t row)) ∧ zm_mk μ = h') := by
    refine ze_loop (Q := fun i L hp => i ≤ row.length ∧ zi_nl L = true ∧ zi_get L 0 = some (.ref 1) ∧ zi_get L 1 = some (.ref (T + 1)) ∧ zi_get L 2 = some (.int (nI i)) ∧ zm_mk μ = hp ∧ (zd_lah μ T t row = zd_lah μ T t (row.drop i))) (R := fun r h' => r = some (.int (zd_lah μ T t row)) ∧ zm_mk μ = h') row.length ?_ ?_ row.length 0 _ _ (by omega) ⟨by omega, rfl, rfl, rfl, rfl, rfl, rfl⟩
    · rintro i L _ hi ⟨-, nl, g0, g1, g2, rfl, hq⟩
      have hkm : row.getD i 0 ∈ row := zl_mem hi
      rw [zl_drop hi] at hq
      obtain ⟨N1, E1⟩ := ze_Row_sizeL (μ := μ) D zd3_at hrow
      obtain ⟨N2, E2⟩ := ze_Row_getL (μ := μ) D zd3_at hrow hi
      generalize row.getD i 0 = k at hkm E2 hq
      have hk := hrb k hkm
      have hq' : zd_lah μ T t row = if μ (T + 3) k < 0 then zd_lah μ T t (row.drop (i + 1)) else μ (T + 3) k := hq
      have c1 : ¬ nI row.length ≤ nI i := nI_ge hi (by omega)
      have cr := zr_c (μ := μ) zd3_at
      obtain ⟨N3, E3⟩ := ze_Tree_leafOf (μ := μ) D hT hk
      by_cases c2 : μ (T + 3) k < 0
      · rw [if_pos c2] at hq'
        left
        refine ⟨zi_set (zi_set L 3 (.int (μ (T + 3) k))) 2 (.int (nI (i + 1))), zm_mk μ, ⟨N1 + N2 + N3, 16, fun F m hF => ?_⟩, by omega, ?_, ?_, ?_, zi_get_set_eq, rfl, hq'⟩
        · simp (maxDischargeDepth := 9) [zg_0, zg_aload_n, zg_getfield, zg_goto, zg_iconst, zg_ifCond, zg_if_icmp, zg_iinc, zg_iload_n, zg_invokevirtual, zg_ireturn, zg_istore_n, zf_X5_leafAtHand, zi_ld, zi_lda, zi_cmp, zi_retOk, zi_isI, zi_f3, zi_cr, zi_ci, zi_cn, zi_get_ne, zi_nl_i, zi_nl_r, zi_get_set_eq, nl, g0, g1, g2, c1, zd_g, zq_Row_size, zq_Row_get, cr, E1 F (by omega), E2 F (by omega), zq_Tree_leafOf, ct, E3 F (by omega), c2, nI_1]
        · simp (maxDischargeDepth := 9) [zi_get_ne, zi_nl_i, zi_nl_r, zi_get_set_eq, nl]
        · simp (maxDischargeDepth := 9) [zi_get_ne, zi_nl_i, zi_nl_r, zi_get_set_eq, nl, g0]
        · simp (maxDischargeDepth := 9) [zi_get_ne, zi_nl_i, zi_nl_r, zi_get_set_eq, nl, g1]
      · rw [if_neg c2] at hq'
        right
        refine ⟨some (.int (μ (T + 3) k)), zm_mk μ, ⟨N1 + N2 + N3, 16, fun F m hF => ?_⟩, by rw [hq'], rfl⟩
        simp (maxDischargeDepth := 9) [zg_0, zg_aload_n, zg_getfield, zg_goto, zg_iconst, zg_ifCond, zg_if_icmp, zg_iinc, zg_iload_n, zg_invokevirtual, zg_ireturn, zg_istore_n, zf_X5_leafAtHand, zi_ld, zi_lda, zi_cmp, zi_retOk, zi_isI, zi_f3, zi_cr, zi_ci, zi_cn, zi_get_ne, zi_nl_i, zi_nl_r, zi_get_set_eq, nl, g0, g1, g2, c1, zd_g, zq_Row_size, zq_Row_get, cr, E1 F (by omega), E2 F (by omega), zq_Tree_leafOf, ct, E3 F (by omega), c2, nI_1]
    · rintro L _ ⟨-, nl, g0, g1, g2, rfl, hq⟩
      obtain ⟨N1, E1⟩ := ze_Row_sizeL (μ := μ) D zd3_at hrow
      obtain ⟨N2, E2⟩ := ze_Tree_leafNumber (μ := μ) D hT hC (j := 0) (by decide)
      have cr := zr_c (μ := μ) zd3_at
      rw [List.drop_length] at hq
      have hq : zd_lah μ T t row = if 0 < (zy_lvs t).length then nI ((zy_lvs t).getD 0 0) else -1 := hq
      rw [hq]
      refine ⟨_, zm_mk μ, ⟨N1 + N2, 9, fun F m hF => ?_⟩, rfl, rfl⟩
      have E2 := E2 F (by omega)
      rw [nI_0] at E2
      generalize (if 0 < (zy_lvs t).length then nI ((zy_lvs t).getD 0 0) else -1) = v at E2
      simp [zg_0, zg_aload_n, zg_getfield, zg_goto, zg_iconst, zg_ifCond, zg_if_icmp, zg_iinc, zg_iload_n, zg_invokevirtual, zg_ireturn, zg_istore_n, zf_X5_leafAtHand, zi_ld, zi_lda, zi_cmp, zi_retOk, zi_isI, zi_f3, zi_cr, zi_ci, zi_cn, g0, g1, g2, zd_g, zq_Row_size, cr, E1 F (by omega), zq_Tree_leafNumber, ct, E2]
  obtain ⟨r, h', G, rfl, rfl⟩ := key
  refine ze_in [(0, .ref 1), (1, .ref (T + 1))] zq_Desk_leafAtHand (Nat.le_of_ble_eq_true rfl) rfl (ze_S.end ⟨0, 2, fun F m hF => ?_⟩ G)
  simp [zg_0, zg_aload_n, zg_getfield, zg_goto, zg_iconst, zg_ifCond, zg_if_icmp, zg_iinc, zg_iload_n, zg_invokevirtual, zg_ireturn, zg_istore_n, zf_X5_leafAtHand, zi_ld, zi_lda, zi_cmp, zi_retOk, zi_isI, zi_f3, zi_cr, zi_ci, zi_cn, zi_get, zi_set, nI_0]
end ZH1
