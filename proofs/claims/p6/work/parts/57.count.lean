/-! the desk: counts and points, whatever their answer -/
section ZC7
variable {μ : zm_M} {R : List Nat} {t : zy_F}
set_option maxRecDepth 100000 in
theorem ze_looseOnes (D : Nat) (x : Int32) : ∃ v, ze_E (D + 3) A_Desk_looseOnes [.ref 1, .int x] (zm_mk μ) (some (.int v)) (zm_mk μ) := by
  have h10 : (Int8.ofInt 10).toInt32 = (10 : Int32) := by decide
  have key : ∃ r h', ze_G (D + 2) 4 (some .int) zc_X5_looseOnes 4 [(3, .int (nI 0)), (2, .int 0), (0, .ref 1), (1, .int x)] [] (zm_mk μ) r h' ∧ ((∃ v, r = some (.int v)) ∧ zm_mk μ = h') := by
    refine ze_loop (Q := fun i L hp => i ≤ 10 ∧ zi_nl L = true ∧ zi_get L 0 = some (.ref 1) ∧ zi_get L 1 = some (.int x) ∧ zi_get L 3 = some (.int (nI i)) ∧ zm_mk μ = hp ∧ ∃ (v : Int32), zi_get L 2 = some (.int v) ∧ (True)) (R := fun r h' => (∃ v, r = some (.int v)) ∧ zm_mk μ = h') 10 ?_ ?_ 10 0 _ _ (by omega) ⟨by omega, rfl, rfl, rfl, rfl, rfl, 0, rfl, trivial⟩
    · rintro i L _ hi ⟨-, nl, g0, g1, g3, rfl, v, g2, hq⟩
      have c1 : ¬ (10 : Int32) ≤ nI i := nI_ge (b := 10) hi (by decide)
      obtain ⟨N1, E1⟩ := ze_looseW (μ := μ) D hi x
      have cw := zw_c (μ := μ) (zdW_at hi)
      by_cases c2 : zd_loose μ x i = true
      · rw [if_pos c2] at E1
        left
        refine ⟨zi_set (zi_set L 2 (.int (v + 1))) 3 (.int (nI (i + 1))), zm_mk μ, ⟨N1, 17, fun F m hF => ?_⟩, by omega, ?_, ?_, ?_, zi_get_set_eq, rfl, v + 1, ?_, trivial⟩
        · simp (maxDischargeDepth := 9) [zg_0, zg_aaload, zg_aload_n, zg_bipush, zg_getfield, zg_goto, zg_iadd, zg_iconst, zg_ifCond, zg_if_icmp, zg_iinc, zg_iload_n, zg_invokevirtual, zg_ireturn, zg_istore_n, zf_X5_looseOnes, zi_ld, zi_lda, zi_cmp, zi_retOk, zi_isI, zi_f3, zi_cr, zi_ci, zi_cn, zi_get_ne, zi_nl_i, zi_nl_r, zi_get_set_eq, nl, g0, g1, g3, g2, h10, c1, zd_g, zd_w hi, zq_Win_isLooseOn, cw, E1 F (by omega), nI_1]
        · simp (maxDischargeDepth := 9) [zi_get_ne, zi_nl_i, zi_nl_r, zi_get_set_eq, nl]
        · simp (maxDischargeDepth := 9) [zi_get_ne, zi_nl_i, zi_nl_r, zi_get_set_eq, nl, g0]
        · simp (maxDischargeDepth := 9) [zi_get_ne, zi_nl_i, zi_nl_r, zi_get_set_eq, nl, g1]
        · simp (maxDischargeDepth := 9) [zi_get_ne, zi_nl_i, zi_nl_r, zi_get_set_eq, nl, g2]
      · rw [if_neg c2] at E1
        left
        refine ⟨zi_set (zi_set L 2 (.int (v + 0))) 3 (.int (nI (i + 1))), zm_mk μ, ⟨N1, 16, fun F m hF => ?_⟩, by omega, ?_, ?_, ?_, zi_get_set_eq, rfl, v + 0, ?_, trivial⟩
        · simp (maxDischargeDepth := 9) [zg_0, zg_aaload, zg_aload_n, zg_bipush, zg_getfield, zg_goto, zg_iadd, zg_iconst, zg_ifCond, zg_if_icmp, zg_iinc, zg_iload_n, zg_invokevirtual, zg_ireturn, zg_istore_n, zf_X5_looseOnes, zi_ld, zi_lda, zi_cmp, zi_retOk, zi_isI, zi_f3, zi_cr, zi_ci, zi_cn, zi_get_ne, zi_nl_i, zi_nl_r, zi_get_set_eq, nl, g0, g1, g3, g2, h10, c1, zd_g, zd_w hi, zq_Win_isLooseOn, cw, E1 F (by omega), nI_1]
        · simp (maxDischargeDepth := 9) [zi_get_ne, zi_nl_i, zi_nl_r, zi_get_set_eq, nl]
        · simp (maxDischargeDepth := 9) [zi_get_ne, zi_nl_i, zi_nl_r, zi_get_set_eq, nl, g0]
        · simp (maxDischargeDepth := 9) [zi_get_ne, zi_nl_i, zi_nl_r, zi_get_set_eq, nl, g1]
        · simp (maxDischargeDepth := 9) [zi_get_ne, zi_nl_i, zi_nl_r, zi_get_set_eq, nl, g2]
    · rintro L _ ⟨-, nl, g0, g1, g3, rfl, v, g2, hq⟩
      have c1 : (10 : Int32) ≤ nI 10 := by decide
      refine ⟨some (.int v), zm_mk μ, ⟨0, 5, fun F m hF => ?_⟩, ⟨v, rfl⟩, rfl⟩
      simp [zg_0, zg_aaload, zg_aload_n, zg_bipush, zg_getfield, zg_goto, zg_iadd, zg_iconst, zg_ifCond, zg_if_icmp, zg_iinc, zg_iload_n, zg_invokevirtual, zg_ireturn, zg_istore_n, zf_X5_looseOnes, zi_ld, zi_lda, zi_cmp, zi_retOk, zi_isI, zi_f3, zi_cr, zi_ci, zi_cn, g0, g2, g3, h10, c1]
  obtain ⟨r, h', G, ⟨v, rfl⟩, rfl⟩ := key
  refine ⟨v, ze_in [(0, .ref 1), (1, .int x)] zq_Desk_looseOnes (Nat.le_of_ble_eq_true rfl) rfl (ze_S.end ⟨0, 4, fun F m hF => ?_⟩ G)⟩
  simp [zg_0, zg_aaload, zg_aload_n, zg_bipush, zg_getfield, zg_goto, zg_iadd, zg_iconst, zg_ifCond, zg_if_icmp, zg_iinc, zg_iload_n, zg_invokevirtual, zg_ireturn, zg_istore_n, zf_X5_looseOnes, zi_ld, zi_lda, zi_cmp, zi_retOk, zi_isI, zi_f3, zi_cr, zi_ci, zi_cn, zi_get, zi_set, nI_0]
set_option maxRecDepth 100000 in
theorem ze_windowsUnder (D : Nat) (x : Int32) : ∃ v, ze_E (D + 2) A_Desk_windowsUnder [.ref 1, .int x] (zm_mk μ) (some (.int v)) (zm_mk μ) := by
  have h10 : (Int8.ofInt 10).toInt32 = (10 : Int32) := by decide
  have key : ∃ r h', ze_G (D + 1) 4 (some .int) zc_X5_windowsUnder 4 [(3, .int (nI 0)), (2, .int 0), (0, .ref 1), (1, .int x)] [] (zm_mk μ) r h' ∧ ((∃ v, r = some (.int v)) ∧ zm_mk μ = h') := by
    refine ze_loop (Q := fun i L hp => i ≤ 10 ∧ zi_nl L = true ∧ zi_get L 0 = some (.ref 1) ∧ zi_get L 1 = some (.int x) ∧ zi_get L 3 = some (.int (nI i)) ∧ zm_mk μ = hp ∧ ∃ (v : Int32), zi_get L 2 = some (.int v) ∧ (True)) (R := fun r h' => (∃ v, r = some (.int v)) ∧ zm_mk μ = h') 10 ?_ ?_ 10 0 _ _ (by omega) ⟨by omega, rfl, rfl, rfl, rfl, rfl, 0, rfl, trivial⟩
    · rintro i L _ hi ⟨-, nl, g0, g1, g3, rfl, v, g2, hq⟩
      have c1 : ¬ (10 : Int32) ≤ nI i := nI_ge (b := 10) hi (by decide)
      obtain ⟨N1, E1⟩ := ze_fallsUnder (μ := μ) D (zdW_at hi) x
      have cw := zw_c (μ := μ) (zdW_at hi)
      by_cases c2 : ¬ μ (zdW i) 2 = 0 ∧ (μ (zdW i) 3 = x ∨ x = 0 ∨ (x = 2 ∧ ¬ μ (zdW i) 3 = 1))
      · have z : zb (¬ μ (zdW i) 2 = 0 ∧ (μ (zdW i) 3 = x ∨ x = 0 ∨ (x = 2 ∧ ¬ μ (zdW i) 3 = 1))) = 1 := if_pos c2
        rw [z] at E1
        left
        refine ⟨zi_set (zi_set L 2 (.int (v + 1))) 3 (.int (nI (i + 1))), zm_mk μ, ⟨N1, 17, fun F m hF => ?_⟩, by omega, ?_, ?_, ?_, zi_get_set_eq, rfl, v + 1, ?_, trivial⟩
        · simp (maxDischargeDepth := 9) [zg_0, zg_aaload, zg_aload_n, zg_bipush, zg_getfield, zg_goto, zg_iadd, zg_iconst, zg_ifCond, zg_if_icmp, zg_iinc, zg_iload_n, zg_invokevirtual, zg_ireturn, zg_istore_n, zf_X5_windowsUnder, zi_ld, zi_lda, zi_cmp, zi_retOk, zi_isI, zi_f3, zi_cr, zi_ci, zi_cn, zi_get_ne, zi_nl_i, zi_nl_r, zi_get_set_eq, nl, g0, g1, g3, g2, h10, c1, zd_g, zd_w hi, zq_Win_fallsUnder, cw, E1 F (by omega), nI_1]
        · simp (maxDischargeDepth := 9) [zi_get_ne, zi_nl_i, zi_nl_r, zi_get_set_eq, nl]
        · simp (maxDischargeDepth := 9) [zi_get_ne, zi_nl_i, zi_nl_r, zi_get_set_eq, nl, g0]
        · simp (maxDischargeDepth := 9) [zi_get_ne, zi_nl_i, zi_nl_r, zi_get_set_eq, nl, g1]
        · simp (maxDischargeDepth := 9) [zi_get_ne, zi_nl_i, zi_nl_r, zi_get_set_eq, nl, g2]
      · have z : zb (¬ μ (zdW i) 2 = 0 ∧ (μ (zdW i) 3 = x ∨ x = 0 ∨ (x = 2 ∧ ¬ μ (zdW i) 3 = 1))) = 0 := if_neg c2
        rw [z] at E1
        left
        refine ⟨zi_set (zi_set L 2 (.int (v + 0))) 3 (.int (nI (i + 1))), zm_mk μ, ⟨N1, 16, fun F m hF => ?_⟩, by omega, ?_, ?_, ?_, zi_get_set_eq, rfl, v + 0, ?_, trivial⟩
        · simp (maxDischargeDepth := 9) [zg_0, zg_aaload, zg_aload_n, zg_bipush, zg_getfield, zg_goto, zg_iadd, zg_iconst, zg_ifCond, zg_if_icmp, zg_iinc, zg_iload_n, zg_invokevirtual, zg_ireturn, zg_istore_n, zf_X5_windowsUnder, zi_ld, zi_lda, zi_cmp, zi_retOk, zi_isI, zi_f3, zi_cr, zi_ci, zi_cn, zi_get_ne, zi_nl_i, zi_nl_r, zi_get_set_eq, nl, g0, g1, g3, g2, h10, c1, zd_g, zd_w hi, zq_Win_fallsUnder, cw, E1 F (by omega), nI_1]
        · simp (maxDischargeDepth := 9) [zi_get_ne, zi_nl_i, zi_nl_r, zi_get_set_eq, nl]
        · simp (maxDischargeDepth := 9) [zi_get_ne, zi_nl_i, zi_nl_r, zi_get_set_eq, nl, g0]
        · simp (maxDischargeDepth := 9) [zi_get_ne, zi_nl_i, zi_nl_r, zi_get_set_eq, nl, g1]
        · simp (maxDischargeDepth := 9) [zi_get_ne, zi_nl_i, zi_nl_r, zi_get_set_eq, nl, g2]
    · rintro L _ ⟨-, nl, g0, g1, g3, rfl, v, g2, hq⟩
      have c1 : (10 : Int32) ≤ nI 10 := by decide
      refine ⟨some (.int v), zm_mk μ, ⟨0, 5, fun F m hF => ?_⟩, ⟨v, rfl⟩, rfl⟩
      simp [zg_0, zg_aaload, zg_aload_n, zg_bipush, zg_getfield, zg_goto, zg_iadd, zg_iconst, zg_ifCond, zg_if_icmp, zg_iinc, zg_iload_n, zg_invokevirtual, zg_ireturn, zg_istore_n, zf_X5_windowsUnder, zi_ld, zi_lda, zi_cmp, zi_retOk, zi_isI, zi_f3, zi_cr, zi_ci, zi_cn, g0, g2, g3, h10, c1]
  obtain ⟨r, h', G, ⟨v, rfl⟩, rfl⟩ := key
  refine ⟨v, ze_in [(0, .ref 1), (1, .int x)] zq_Desk_windowsUnder (Nat.le_of_ble_eq_true rfl) rfl (ze_S.end ⟨0, 4, fun F m hF => ?_⟩ G)⟩
  simp [zg_0, zg_aaload, zg_aload_n, zg_bipush, zg_getfield, zg_goto, zg_iadd, zg_iconst, zg_ifCond, zg_if_icmp, zg_iinc, zg_iload_n, zg_invokevirtual, zg_ireturn, zg_istore_n, zf_X5_windowsUnder, zi_ld, zi_lda, zi_cmp, zi_retOk, zi_isI, zi_f3, zi_cr, zi_ci, zi_cn, zi_get, zi_set, nI_0]
set_option maxRecDepth 100000 in
theorem ze_screensThere (D : Nat) : ∃ v, ze_E (D + 1) A_Desk_screensThere [.ref 1] (zm_mk μ) (some (.int v)) (zm_mk μ) := by
  have key : ∃ r h', ze_G D 3 (some .int) zc_X5_screensThere 4 [(2, .int (nI 0)), (1, .int 0), (0, .ref 1)] [] (zm_mk μ) r h' ∧ ((∃ v, r = some (.int v)) ∧ zm_mk μ = h') := by
    refine ze_loop (Q := fun i L hp => i ≤ 3 ∧ zi_nl L = true ∧ zi_get L 0 = some (.ref 1) ∧ zi_get L 2 = some (.int (nI i)) ∧ zm_mk μ = hp ∧ ∃ (v : Int32), zi_get L 1 = some (.int v) ∧ (True)) (R := fun r h' => (∃ v, r = some (.int v)) ∧ zm_mk μ = h') 3 ?_ ?_ 3 0 _ _ (by omega) ⟨by omega, rfl, rfl, rfl, rfl, 0, rfl, trivial⟩
    · rintro i L _ hi ⟨-, nl, g0, g2, rfl, v, g1, hq⟩
      have c1 : ¬ (3 : Int32) ≤ nI i := nI_ge (b := 3) hi (by decide)
      by_cases c2 : μ (zdS i) 3 = 0
      · left
        refine ⟨zi_set (zi_set L 1 (.int (v + 0))) 2 (.int (nI (i + 1))), zm_mk μ, ⟨0, 15, fun F m hF => ?_⟩, by omega, ?_, ?_, zi_get_set_eq, rfl, v + 0, ?_, trivial⟩
        · simp (maxDischargeDepth := 9) [zg_0, zg_aaload, zg_aload_n, zg_getfield, zg_goto, zg_iadd, zg_iconst, zg_ifCond, zg_if_icmp, zg_iinc, zg_iload_n, zg_ireturn, zg_istore_n, zf_X5_screensThere, zi_ld, zi_lda, zi_cmp, zi_retOk, zi_isI, zi_f3, zi_cr, zi_ci, zi_cn, zi_get_ne, zi_nl_i, zi_nl_r, zi_get_set_eq, nl, g0, g2, g1, c1, zd_g, zd_s hi, zdS_g hi, c2, nI_1]
        · simp (maxDischargeDepth := 9) [zi_get_ne, zi_nl_i, zi_nl_r, zi_get_set_eq, nl]
        · simp (maxDischargeDepth := 9) [zi_get_ne, zi_nl_i, zi_nl_r, zi_get_set_eq, nl, g0]
        · simp (maxDischargeDepth := 9) [zi_get_ne, zi_nl_i, zi_nl_r, zi_get_set_eq, nl, g1]
      · left
        refine ⟨zi_set (zi_set L 1 (.int (v + 1))) 2 (.int (nI (i + 1))), zm_mk μ, ⟨0, 16, fun F m hF => ?_⟩, by omega, ?_, ?_, zi_get_set_eq, rfl, v + 1, ?_, trivial⟩
        · simp (maxDischargeDepth := 9) [zg_0, zg_aaload, zg_aload_n, zg_getfield, zg_goto, zg_iadd, zg_iconst, zg_ifCond, zg_if_icmp, zg_iinc, zg_iload_n, zg_ireturn, zg_istore_n, zf_X5_screensThere, zi_ld, zi_lda, zi_cmp, zi_retOk, zi_isI, zi_f3, zi_cr, zi_ci, zi_cn, zi_get_ne, zi_nl_i, zi_nl_r, zi_get_set_eq, nl, g0, g2, g1, c1, zd_g, zd_s hi, zdS_g hi, c2, nI_1]
        · simp (maxDischargeDepth := 9) [zi_get_ne, zi_nl_i, zi_nl_r, zi_get_set_eq, nl]
        · simp (maxDischargeDepth := 9) [zi_get_ne, zi_nl_i, zi_nl_r, zi_get_set_eq, nl, g0]
        · simp (maxDischargeDepth := 9) [zi_get_ne, zi_nl_i, zi_nl_r, zi_get_set_eq, nl, g1]
    · rintro L _ ⟨-, nl, g0, g2, rfl, v, g1, hq⟩
      have c1 : (3 : Int32) ≤ nI 3 := by decide
      refine ⟨some (.int v), zm_mk μ, ⟨0, 5, fun F m hF => ?_⟩, ⟨v, rfl⟩, rfl⟩
      simp [zg_0, zg_aaload, zg_aload_n, zg_getfield, zg_goto, zg_iadd, zg_iconst, zg_ifCond, zg_if_icmp, zg_iinc, zg_iload_n, zg_ireturn, zg_istore_n, zf_X5_screensThere, zi_ld, zi_lda, zi_cmp, zi_retOk, zi_isI, zi_f3, zi_cr, zi_ci, zi_cn, g0, g1, g2, c1]
  obtain ⟨r, h', G, ⟨v, rfl⟩, rfl⟩ := key
  refine ⟨v, ze_in [(0, .ref 1)] zq_Desk_screensThere (Nat.le_of_ble_eq_true rfl) rfl (ze_S.end ⟨0, 4, fun F m hF => ?_⟩ G)⟩
  simp [zg_0, zg_aaload, zg_aload_n, zg_getfield, zg_goto, zg_iadd, zg_iconst, zg_ifCond, zg_if_icmp, zg_iinc, zg_iload_n, zg_ireturn, zg_istore_n, zf_X5_screensThere, zi_ld, zi_lda, zi_cmp, zi_retOk, zi_isI, zi_f3, zi_cr, zi_ci, zi_cn, zi_get, zi_set, nI_0]
set_option maxRecDepth 100000 in
theorem ze_screensWithKept (D : Nat) : ∃ v, ze_E (D + 1) A_Desk_screensWithKept [.ref 1] (zm_mk μ) (some (.int v)) (zm_mk μ) := by
  have key : ∃ r h', ze_G D 3 (some .int) zc_X5_screensWithKept 4 [(2, .int (nI 0)), (1, .int 0), (0, .ref 1)] [] (zm_mk μ) r h' ∧ ((∃ v, r = some (.int v)) ∧ zm_mk μ = h') := by
    refine ze_loop (Q := fun i L hp => i ≤ 3 ∧ zi_nl L = true ∧ zi_get L 0 = some (.ref 1) ∧ zi_get L 2 = some (.int (nI i)) ∧ zm_mk μ = hp ∧ ∃ (v : Int32), zi_get L 1 = some (.int v) ∧ (True)) (R := fun r h' => (∃ v, r = some (.int v)) ∧ zm_mk μ = h') 3 ?_ ?_ 3 0 _ _ (by omega) ⟨by omega, rfl, rfl, rfl, rfl, 0, rfl, trivial⟩
    · rintro i L _ hi ⟨-, nl, g0, g2, rfl, v, g1, hq⟩
      have c1 : ¬ (3 : Int32) ≤ nI i := nI_ge (b := 3) hi (by decide)
      by_cases c2 : μ (zdK i) 3 = 0
      · left
        refine ⟨zi_set (zi_set L 1 (.int (v + 0))) 2 (.int (nI (i + 1))), zm_mk μ, ⟨0, 16, fun F m hF => ?_⟩, by omega, ?_, ?_, zi_get_set_eq, rfl, v + 0, ?_, trivial⟩
        · simp (maxDischargeDepth := 9) [zg_0, zg_aaload, zg_aload_n, zg_getfield, zg_goto, zg_iadd, zg_iconst, zg_ifCond, zg_if_icmp, zg_iinc, zg_iload_n, zg_ireturn, zg_istore_n, zf_X5_screensWithKept, zi_ld, zi_lda, zi_cmp, zi_retOk, zi_isI, zi_f3, zi_cr, zi_ci, zi_cn, zi_get_ne, zi_nl_i, zi_nl_r, zi_get_set_eq, nl, g0, g2, g1, c1, zd_g, zd_s hi, zdS_g hi, zdK_g hi, c2, nI_1]
        · simp (maxDischargeDepth := 9) [zi_get_ne, zi_nl_i, zi_nl_r, zi_get_set_eq, nl]
        · simp (maxDischargeDepth := 9) [zi_get_ne, zi_nl_i, zi_nl_r, zi_get_set_eq, nl, g0]
        · simp (maxDischargeDepth := 9) [zi_get_ne, zi_nl_i, zi_nl_r, zi_get_set_eq, nl, g1]
      · left
        refine ⟨zi_set (zi_set L 1 (.int (v + 1))) 2 (.int (nI (i + 1))), zm_mk μ, ⟨0, 17, fun F m hF => ?_⟩, by omega, ?_, ?_, zi_get_set_eq, rfl, v + 1, ?_, trivial⟩
        · simp (maxDischargeDepth := 9) [zg_0, zg_aaload, zg_aload_n, zg_getfield, zg_goto, zg_iadd, zg_iconst, zg_ifCond, zg_if_icmp, zg_iinc, zg_iload_n, zg_ireturn, zg_istore_n, zf_X5_screensWithKept, zi_ld, zi_lda, zi_cmp, zi_retOk, zi_isI, zi_f3, zi_cr, zi_ci, zi_cn, zi_get_ne, zi_nl_i, zi_nl_r, zi_get_set_eq, nl, g0, g2, g1, c1, zd_g, zd_s hi, zdS_g hi, zdK_g hi, c2, nI_1]
        · simp (maxDischargeDepth := 9) [zi_get_ne, zi_nl_i, zi_nl_r, zi_get_set_eq, nl]
        · simp (maxDischargeDepth := 9) [zi_get_ne, zi_nl_i, zi_nl_r, zi_get_set_eq, nl, g0]
        · simp (maxDischargeDepth := 9) [zi_get_ne, zi_nl_i, zi_nl_r, zi_get_set_eq, nl, g1]
    · rintro L _ ⟨-, nl, g0, g2, rfl, v, g1, hq⟩
      have c1 : (3 : Int32) ≤ nI 3 := by decide
      refine ⟨some (.int v), zm_mk μ, ⟨0, 5, fun F m hF => ?_⟩, ⟨v, rfl⟩, rfl⟩
      simp [zg_0, zg_aaload, zg_aload_n, zg_getfield, zg_goto, zg_iadd, zg_iconst, zg_ifCond, zg_if_icmp, zg_iinc, zg_iload_n, zg_ireturn, zg_istore_n, zf_X5_screensWithKept, zi_ld, zi_lda, zi_cmp, zi_retOk, zi_isI, zi_f3, zi_cr, zi_ci, zi_cn, g0, g1, g2, c1]
  obtain ⟨r, h', G, ⟨v, rfl⟩, rfl⟩ := key
  refine ⟨v, ze_in [(0, .ref 1)] zq_Desk_screensWithKept (Nat.le_of_ble_eq_true rfl) rfl (ze_S.end ⟨0, 4, fun F m hF => ?_⟩ G)⟩
  simp [zg_0, zg_aaload, zg_aload_n, zg_getfield, zg_goto, zg_iadd, zg_iconst, zg_ifCond, zg_if_icmp, zg_iinc, zg_iload_n, zg_ireturn, zg_istore_n, zf_X5_screensWithKept, zi_ld, zi_lda, zi_cmp, zi_retOk, zi_isI, zi_f3, zi_cr, zi_ci, zi_cn, zi_get, zi_set, nI_0]
set_option maxRecDepth 100000 in
theorem ze_Win_spans (D : Nat) {k z a : Nat} (hk : k < 10) (hz : zm_isA 7 z 2) (ha : a < 2) (x : Int32) : ∃ v : Int32, (v = 0 ∨ v = 1) ∧ ze_E (D + 4) A_Win_spans [.ref (zdW k + 1), .int x, .int (nI a), .ref (z + 1)] (zm_mk μ) (some (.int v)) (zm_mk μ) := by
  have ia : zi_in (nI a) 2 = true := zm_in ha (by decide)
  have ca : (nI a).toNatClampNeg = a := nI_clamp (by omega)
  obtain ⟨N1, E1⟩ := ze_nearest (μ := μ) D (zdW_at hk) hz (μ (zdW k + 2) a) (nI a) ia
  have cw := zw_c (μ := μ) (zdW_at hk)
  generalize zi_bt 0 (μ (zdW k + 2) a) (μ z (nI a).toNatClampNeg - μ (zdW k + 1) (nI a).toNatClampNeg) = st at E1
  by_cases c1 : x < st
  · refine ⟨0, Or.inl rfl, ze_in [(0, .ref (zdW k + 1)), (1, .int x), (2, .int (nI a)), (3, .ref (z + 1))] zq_Win_spans (Nat.le_of_ble_eq_true rfl) rfl ⟨N1, 14, fun F n hF => ?_⟩⟩
    simp [zg_0, zg_aload_n, zg_getfield, zg_goto, zg_iadd, zg_iaload, zg_iconst, zg_if_icmp, zg_iload, zg_iload_n, zg_invokevirtual, zg_ireturn, zg_istore, zf_X4_spans, zi_ld, zi_lda, zi_cmp, zi_retOk, zi_isI, zi_f3, zi_cr, zi_ci, zi_cn, zi_get, zi_set, zw_g (zdW_at hk), zm_iald (k := 0) (zdW_at hk).2.2 ia, ca, zq_Win_nearest, cw, E1 F (by omega), c1]
  · by_cases c2 : st + μ (zdW k + 1) a ≤ x
    · refine ⟨0, Or.inl rfl, ze_in [(0, .ref (zdW k + 1)), (1, .int x), (2, .int (nI a)), (3, .ref (z + 1))] zq_Win_spans (Nat.le_of_ble_eq_true rfl) rfl ⟨N1, 22, fun F n hF => ?_⟩⟩
      simp [zg_0, zg_aload_n, zg_getfield, zg_goto, zg_iadd, zg_iaload, zg_iconst, zg_if_icmp, zg_iload, zg_iload_n, zg_invokevirtual, zg_ireturn, zg_istore, zf_X4_spans, zi_ld, zi_lda, zi_cmp, zi_retOk, zi_isI, zi_f3, zi_cr, zi_ci, zi_cn, zi_get, zi_set, zw_g (zdW_at hk), zm_iald (k := 0) (zdW_at hk).2.2 ia, zm_iald (k := 0) (zdW_at hk).2.1 ia, ca, zq_Win_nearest, cw, E1 F (by omega), c1, c2]
    · refine ⟨1, Or.inr rfl, ze_in [(0, .ref (zdW k + 1)), (1, .int x), (2, .int (nI a)), (3, .ref (z + 1))] zq_Win_spans (Nat.le_of_ble_eq_true rfl) rfl ⟨N1, 23, fun F n hF => ?_⟩⟩
      simp [zg_0, zg_aload_n, zg_getfield, zg_goto, zg_iadd, zg_iaload, zg_iconst, zg_if_icmp, zg_iload, zg_iload_n, zg_invokevirtual, zg_ireturn, zg_istore, zf_X4_spans, zi_ld, zi_lda, zi_cmp, zi_retOk, zi_isI, zi_f3, zi_cr, zi_ci, zi_cn, zi_get, zi_set, zw_g (zdW_at hk), zm_iald (k := 0) (zdW_at hk).2.2 ia, zm_iald (k := 0) (zdW_at hk).2.1 ia, ca, zq_Win_nearest, cw, E1 F (by omega), c1, c2]
set_option maxRecDepth 100000 in
theorem ze_coversPoint (D : Nat) {k z : Nat} (hk : k < 10) (hz : zm_isA 7 z 2) (x y s : Int32) : ∃ v : Int32, (v = 0 ∨ v = 1) ∧ ze_E (D + 5) A_Win_coversPoint [.ref (zdW k + 1), .int x, .int y, .int s, .ref (z + 1)] (zm_mk μ) (some (.int v)) (zm_mk μ) := by
  obtain ⟨N1, E1⟩ := ze_looseW (μ := μ) (D + 2) hk s
  obtain ⟨N2, E2⟩ := ze_stiW (μ := μ) (D + 3) hk
  obtain ⟨N3, E3⟩ := ze_wholeW (μ := μ) (D + 3) hk hz
  obtain ⟨v4, hv4, N4, E4⟩ := ze_Win_spans (μ := μ) D hk hz (a := 0) (by decide) x
  obtain ⟨v5, hv5, N5, E5⟩ := ze_Win_spans (μ := μ) D hk hz (a := 1) (by decide) y
  rw [nI_0] at E4
  rw [show nI 1 = 1 by decide] at E5
  have cw := zw_c (μ := μ) (zdW_at hk)
  have S1 : ∃ b : Int32, (b = 0 ∨ b = 1) ∧ ze_S (D + 4) 6 (some .boolean) zc_X4_coversPoint 0 [(0, .ref (zdW k + 1)), (1, .int x), (2, .int y), (3, .int s), (4, .ref (z + 1))] [] (zm_mk μ) 31 [(5, .int b), (0, .ref (zdW k + 1)), (1, .int x), (2, .int y), (3, .int s), (4, .ref (z + 1))] [] (zm_mk μ) := by
    by_cases c1 : zd_loose μ s k = true
    · rw [if_pos c1] at E1
      refine ⟨1, Or.inr rfl, N1, 7, fun F n hF => ?_⟩
      simp [zg_0, zg_aload, zg_aload_n, zg_goto, zg_iconst, zg_ifCond, zg_iload, zg_iload_n, zg_invokevirtual, zg_ireturn, zg_istore, zf_X4_coversPoint, zi_ld, zi_lda, zi_cmp, zi_retOk, zi_isI, zi_f3, zi_cr, zi_ci, zi_cn, zi_get, zi_set, zq_Win_isLooseOn, cw, E1 F (by omega)]
    · rw [if_neg c1] at E1
      by_cases c2 : zd_sti μ k = true
      · rw [if_pos c2] at E2
        by_cases c3 : zd_whole μ z k = true
        · rw [if_pos c3] at E3
          refine ⟨1, Or.inr rfl, N1 + N2 + N3, 14, fun F n hF => ?_⟩
          simp [zg_0, zg_aload, zg_aload_n, zg_goto, zg_iconst, zg_ifCond, zg_iload, zg_iload_n, zg_invokevirtual, zg_ireturn, zg_istore, zf_X4_coversPoint, zi_ld, zi_lda, zi_cmp, zi_retOk, zi_isI, zi_f3, zi_cr, zi_ci, zi_cn, zi_get, zi_set, zq_Win_isLooseOn, zq_Win_isSticky, zq_Win_canBeWhole, cw, E1 F (by omega), E2 F (by omega), E3 F (by omega)]
        · rw [if_neg c3] at E3
          refine ⟨0, Or.inl rfl, N1 + N2 + N3, 13, fun F n hF => ?_⟩
          simp [zg_0, zg_aload, zg_aload_n, zg_goto, zg_iconst, zg_ifCond, zg_iload, zg_iload_n, zg_invokevirtual, zg_ireturn, zg_istore, zf_X4_coversPoint, zi_ld, zi_lda, zi_cmp, zi_retOk, zi_isI, zi_f3, zi_cr, zi_ci, zi_cn, zi_get, zi_set, zq_Win_isLooseOn, zq_Win_isSticky, zq_Win_canBeWhole, cw, E1 F (by omega), E2 F (by omega), E3 F (by omega)]
      · rw [if_neg c2] at E2
        refine ⟨0, Or.inl rfl, N1 + N2, 9, fun F n hF => ?_⟩
        simp [zg_0, zg_aload, zg_aload_n, zg_goto, zg_iconst, zg_ifCond, zg_iload, zg_iload_n, zg_invokevirtual, zg_ireturn, zg_istore, zf_X4_coversPoint, zi_ld, zi_lda, zi_cmp, zi_retOk, zi_isI, zi_f3, zi_cr, zi_ci, zi_cn, zi_get, zi_set, zq_Win_isLooseOn, zq_Win_isSticky, cw, E1 F (by omega), E2 F (by omega)]
  obtain ⟨b, hb, S1⟩ := S1
  rcases hb with rfl | rfl
  · refine ⟨0, Or.inl rfl, ze_in [(0, .ref (zdW k + 1)), (1, .int x), (2, .int y), (3, .int s), (4, .ref (z + 1))] zq_Win_coversPoint (Nat.le_of_ble_eq_true rfl) rfl (S1.end ⟨0, 4, fun F n hF => ?_⟩)⟩
    simp [zg_0, zg_aload, zg_aload_n, zg_goto, zg_iconst, zg_ifCond, zg_iload, zg_iload_n, zg_invokevirtual, zg_ireturn, zg_istore, zf_X4_coversPoint, zi_ld, zi_lda, zi_cmp, zi_retOk, zi_isI, zi_f3, zi_cr, zi_ci, zi_cn, zi_get, zi_set]
  · rcases hv4 with rfl | rfl
    · refine ⟨0, Or.inl rfl, ze_in [(0, .ref (zdW k + 1)), (1, .int x), (2, .int y), (3, .int s), (4, .ref (z + 1))] zq_Win_coversPoint (Nat.le_of_ble_eq_true rfl) rfl (S1.end ⟨N4, 10, fun F n hF => ?_⟩)⟩
      simp [zg_0, zg_aload, zg_aload_n, zg_goto, zg_iconst, zg_ifCond, zg_iload, zg_iload_n, zg_invokevirtual, zg_ireturn, zg_istore, zf_X4_coversPoint, zi_ld, zi_lda, zi_cmp, zi_retOk, zi_isI, zi_f3, zi_cr, zi_ci, zi_cn, zi_get, zi_set, zq_Win_spans, cw, E4 F (by omega)]
    · rcases hv5 with rfl | rfl
      · refine ⟨0, Or.inl rfl, ze_in [(0, .ref (zdW k + 1)), (1, .int x), (2, .int y), (3, .int s), (4, .ref (z + 1))] zq_Win_coversPoint (Nat.le_of_ble_eq_true rfl) rfl (S1.end ⟨N4 + N5, 16, fun F n hF => ?_⟩)⟩
        simp [zg_0, zg_aload, zg_aload_n, zg_goto, zg_iconst, zg_ifCond, zg_iload, zg_iload_n, zg_invokevirtual, zg_ireturn, zg_istore, zf_X4_coversPoint, zi_ld, zi_lda, zi_cmp, zi_retOk, zi_isI, zi_f3, zi_cr, zi_ci, zi_cn, zi_get, zi_set, zq_Win_spans, cw, E4 F (by omega), E5 F (by omega)]
      · refine ⟨1, Or.inr rfl, ze_in [(0, .ref (zdW k + 1)), (1, .int x), (2, .int y), (3, .int s), (4, .ref (z + 1))] zq_Win_coversPoint (Nat.le_of_ble_eq_true rfl) rfl (S1.end ⟨N4 + N5, 17, fun F n hF => ?_⟩)⟩
        simp [zg_0, zg_aload, zg_aload_n, zg_goto, zg_iconst, zg_ifCond, zg_iload, zg_iload_n, zg_invokevirtual, zg_ireturn, zg_istore, zf_X4_coversPoint, zi_ld, zi_lda, zi_cmp, zi_retOk, zi_isI, zi_f3, zi_cr, zi_ci, zi_cn, zi_get, zi_set, zq_Win_spans, cw, E4 F (by omega), E5 F (by omega)]
set_option maxRecDepth 100000 in
theorem ze_shownAt (D : Nat) {T : Nat} (h : zt_at T) (hm : zt_hm μ T) (x y : Int32) : ∃ v, ze_E (D + 5) A_Tree_shownAt [.ref (T + 1), .int x, .int y] (zm_mk μ) (some (.int v)) (zm_mk μ) := by
  have h10 : (Int8.ofInt 10).toInt32 = (10 : Int32) := by decide
  have key : ∃ r h', ze_G (D + 4) 4 (some .int) zc_X3_shownAt 2 [(3, .int (nI 0)), (0, .ref (T + 1)), (1, .int x), (2, .int y)] [] (zm_mk μ) r h' ∧ ((∃ v, r = some (.int v)) ∧ zm_mk μ = h') := by
    refine ze_loop (Q := fun i L hp => i ≤ 10 ∧ zi_nl L = true ∧ zi_get L 0 = some (.ref (T + 1)) ∧ zi_get L 1 = some (.int x) ∧ zi_get L 2 = some (.int y) ∧ zi_get L 3 = some (.int (nI i)) ∧ zm_mk μ = hp ∧ (True)) (R := fun r h' => (∃ v, r = some (.int v)) ∧ zm_mk μ = h') 10 ?_ ?_ 10 0 _ _ (by omega) ⟨by omega, rfl, rfl, rfl, rfl, rfl, rfl, trivial⟩
    · rintro i L _ hi ⟨-, nl, g0, g1, g2, g3, rfl, hq⟩
      have c1 : ¬ (10 : Int32) ≤ nI i := nI_ge (b := 10) hi (by decide)
      obtain ⟨N1, E1⟩ := ze_Tree_isShown (μ := μ) (D + 2) h hm hi
      obtain ⟨N2, E2⟩ := ze_Tree_spans (μ := μ) D h hm hi (a := 0) (by decide) x
      obtain ⟨N3, E3⟩ := ze_Tree_spans (μ := μ) D h hm hi (a := 1) (by decide) y
      rw [nI_0] at E2
      rw [show nI 1 = 1 by decide] at E3
      rw [zb_dec] at E1 E2 E3
      obtain ⟨lt, ct⟩ := zt_c (μ := μ) h
      generalize (if decide (¬ μ (T + 3) i < 0 ∧ μ (T + 12) (μ (T + 3) i).toNatClampNeg = nI i) = true then (1 : Int32) else 0) = b1 at E1
      generalize (if decide (zt_so μ T 0 i ≤ x ∧ x < zt_so μ T 0 i + zt_lo μ T 0 i) = true then (1 : Int32) else 0) = b2 at E2
      generalize (if decide (zt_so μ T 1 i ≤ y ∧ y < zt_so μ T 1 i + zt_lo μ T 1 i) = true then (1 : Int32) else 0) = b3 at E3
      by_cases q1 : b1 = 0
      · left
        refine ⟨zi_set L 3 (.int (nI (i + 1))), zm_mk μ, ⟨N1 + N2 + N3, 9, fun F m hF => ?_⟩, by omega, ?_, ?_, ?_, ?_, zi_get_set_eq, rfl, trivial⟩
        · simp (maxDischargeDepth := 9) [zg_0, zg_aload_n, zg_bipush, zg_goto, zg_iconst, zg_ifCond, zg_if_icmp, zg_iinc, zg_iload_n, zg_invokevirtual, zg_ireturn, zg_istore_n, zg_ldc, zf_X3_shownAt, zi_ld, zi_lda, zi_cmp, zi_retOk, zi_isI, zi_f3, zi_cr, zi_ci, zi_cn, zi_get_ne, zi_nl_i, zi_nl_r, zi_get_set_eq, nl, g0, g1, g2, g3, h10, c1, zq_Tree_isShown, ct, E1 F (by omega), q1, nI_1]
        · simp (maxDischargeDepth := 9) [zi_get_ne, zi_nl_i, zi_nl_r, zi_get_set_eq, nl]
        · simp (maxDischargeDepth := 9) [zi_get_ne, zi_nl_i, zi_nl_r, zi_get_set_eq, nl, g0]
        · simp (maxDischargeDepth := 9) [zi_get_ne, zi_nl_i, zi_nl_r, zi_get_set_eq, nl, g1]
        · simp (maxDischargeDepth := 9) [zi_get_ne, zi_nl_i, zi_nl_r, zi_get_set_eq, nl, g2]
      · by_cases q2 : b2 = 0
        · left
          refine ⟨zi_set L 3 (.int (nI (i + 1))), zm_mk μ, ⟨N1 + N2 + N3, 15, fun F m hF => ?_⟩, by omega, ?_, ?_, ?_, ?_, zi_get_set_eq, rfl, trivial⟩
          · simp (maxDischargeDepth := 9) [zg_0, zg_aload_n, zg_bipush, zg_goto, zg_iconst, zg_ifCond, zg_if_icmp, zg_iinc, zg_iload_n, zg_invokevirtual, zg_ireturn, zg_istore_n, zg_ldc, zf_X3_shownAt, zi_ld, zi_lda, zi_cmp, zi_retOk, zi_isI, zi_f3, zi_cr, zi_ci, zi_cn, zi_get_ne, zi_nl_i, zi_nl_r, zi_get_set_eq, nl, g0, g1, g2, g3, h10, c1, zq_Tree_isShown, zq_Tree_spans, ct, E1 F (by omega), E2 F (by omega), q1, q2, nI_1]
          · simp (maxDischargeDepth := 9) [zi_get_ne, zi_nl_i, zi_nl_r, zi_get_set_eq, nl]
          · simp (maxDischargeDepth := 9) [zi_get_ne, zi_nl_i, zi_nl_r, zi_get_set_eq, nl, g0]
          · simp (maxDischargeDepth := 9) [zi_get_ne, zi_nl_i, zi_nl_r, zi_get_set_eq, nl, g1]
          · simp (maxDischargeDepth := 9) [zi_get_ne, zi_nl_i, zi_nl_r, zi_get_set_eq, nl, g2]
        · by_cases q3 : b3 = 0
          · left
            refine ⟨zi_set L 3 (.int (nI (i + 1))), zm_mk μ, ⟨N1 + N2 + N3, 21, fun F m hF => ?_⟩, by omega, ?_, ?_, ?_, ?_, zi_get_set_eq, rfl, trivial⟩
            · simp (maxDischargeDepth := 9) [zg_0, zg_aload_n, zg_bipush, zg_goto, zg_iconst, zg_ifCond, zg_if_icmp, zg_iinc, zg_iload_n, zg_invokevirtual, zg_ireturn, zg_istore_n, zg_ldc, zf_X3_shownAt, zi_ld, zi_lda, zi_cmp, zi_retOk, zi_isI, zi_f3, zi_cr, zi_ci, zi_cn, zi_get_ne, zi_nl_i, zi_nl_r, zi_get_set_eq, nl, g0, g1, g2, g3, h10, c1, zq_Tree_isShown, zq_Tree_spans, ct, E1 F (by omega), E2 F (by omega), E3 F (by omega), q1, q2, q3, nI_1]
            · simp (maxDischargeDepth := 9) [zi_get_ne, zi_nl_i, zi_nl_r, zi_get_set_eq, nl]
            · simp (maxDischargeDepth := 9) [zi_get_ne, zi_nl_i, zi_nl_r, zi_get_set_eq, nl, g0]
            · simp (maxDischargeDepth := 9) [zi_get_ne, zi_nl_i, zi_nl_r, zi_get_set_eq, nl, g1]
            · simp (maxDischargeDepth := 9) [zi_get_ne, zi_nl_i, zi_nl_r, zi_get_set_eq, nl, g2]
          · right
            refine ⟨some (.int (nI i)), zm_mk μ, ⟨N1 + N2 + N3, 21, fun F m hF => ?_⟩, ⟨nI i, rfl⟩, rfl⟩
            simp (maxDischargeDepth := 9) [zg_0, zg_aload_n, zg_bipush, zg_goto, zg_iconst, zg_ifCond, zg_if_icmp, zg_iinc, zg_iload_n, zg_invokevirtual, zg_ireturn, zg_istore_n, zg_ldc, zf_X3_shownAt, zi_ld, zi_lda, zi_cmp, zi_retOk, zi_isI, zi_f3, zi_cr, zi_ci, zi_cn, zi_get_ne, zi_nl_i, zi_nl_r, zi_get_set_eq, nl, g0, g1, g2, g3, h10, c1, zq_Tree_isShown, zq_Tree_spans, ct, E1 F (by omega), E2 F (by omega), E3 F (by omega), q1, q2, q3, nI_1]
    · rintro L _ ⟨-, nl, g0, g1, g2, g3, rfl, hq⟩
      have c1 : (10 : Int32) ≤ nI 10 := by decide
      refine ⟨some (.int (-1000000005)), zm_mk μ, ⟨0, 5, fun F m hF => ?_⟩, ⟨_, rfl⟩, rfl⟩
      simp [zg_0, zg_aload_n, zg_bipush, zg_goto, zg_iconst, zg_ifCond, zg_if_icmp, zg_iinc, zg_iload_n, zg_invokevirtual, zg_ireturn, zg_istore_n, zg_ldc, zf_X3_shownAt, zi_ld, zi_lda, zi_cmp, zi_retOk, zi_isI, zi_f3, zi_cr, zi_ci, zi_cn, g0, g3, h10, c1]
  obtain ⟨r, h', G, ⟨v, rfl⟩, rfl⟩ := key
  refine ⟨v, ze_in [(0, .ref (T + 1)), (1, .int x), (2, .int y)] zq_Tree_shownAt (Nat.le_of_ble_eq_true rfl) rfl (ze_S.end ⟨0, 2, fun F m hF => ?_⟩ G)⟩
  simp [zg_0, zg_aload_n, zg_bipush, zg_goto, zg_iconst, zg_ifCond, zg_if_icmp, zg_iinc, zg_iload_n, zg_invokevirtual, zg_ireturn, zg_istore_n, zg_ldc, zf_X3_shownAt, zi_ld, zi_lda, zi_cmp, zi_retOk, zi_isI, zi_f3, zi_cr, zi_ci, zi_cn, zi_get, zi_set, nI_0]
end ZC7
