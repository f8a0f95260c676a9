section
/-! the desk: counts and points, whatever their answer -/
section ZC7
variable {μ : zm_M} {R : List Nat} {t : zy_F}
set_option maxRecDepth 100000 in
theorem ze_looseOnes (D : Nat) (x : Int32) : ∃ v, ze_E (D + 3) A_Desk_looseOnes [.ref 1, .int x] (zm_mk μ) (some (.int v)) (zm_mk μ) := by
  have h10 : (Int8.ofInt 10).toInt32 = (10 : Int32) := by decide
  have key : ∃ r h', ze_G (D + 2) 4 (some .int) zc_X5_looseOnes 4 [(3, .int (nI 0)), (2, .int 0), (0, .ref 1), (1, .int x)] [] (zm_mk μ) r h' ∧ ((∃ v, r = some (.int v)) ∧ zm_mk μ = h') := by
    refine ze_loop (Q := fun i L hp => i ≤ 10 ∧ zi_nl L = true ∧ zi_get L 0 = some (.ref 1) ∧ zi_get L 1 = some (.int x) ∧ zi_get L 3 = some (.int (nI i)) ∧ zm_mk μ = hp ∧ ∃ (v : Int32), zi_get L 2 = some (.int v) ∧ (True)) (R := fun r h' => (∃ v, r = some (.int v)) ∧ zm_mk μ = h') 10 ?_ ?_ 10 0 _ _ (by omega) ⟨by omega, rfl, rfl, rfl, rfl, rfl, 0, rfl, trivial⟩
    · rintro i L _ hi ⟨-, nl, g0, g1, g3, rfl, v, g2, hq⟩
      have c1 : ¬ (10 : Int32) ≤ nI i := nI_ge (b := 10) hi (by decide)
      obtain ⟨N1, E1⟩ := ze_looseW (μ := μ) D hi x
      have cw := zw_c (μ := μ) (zdW_at hi)
      by_cases c2 : zd_loose μ x i = true
      · rw [if_pos c2] at E1
        left
        refine ⟨zi_set (zi_set L 2 (.int (v + 1))) 3 (.int (nI (i + 1))), zm_mk μ, ⟨N1, 17, fun F m hF => ?_⟩, by omega, ?_, ?_, ?_, zi_get_set_eq, rfl, v + 1, ?_, trivial⟩
        · simp (maxDischargeDepth := 9) [zg_0, zg_aaload, zg_aload_n, zg_bipush, zg_getfield, zg_goto, zg_iadd, zg_iconst, zg_ifCond, zg_if_icmp, zg_iinc, zg_iload_n, zg_invokevirtual, zg_ireturn, zg_istore_n, zf_X5_looseOnes, zi_ld, zi_lda, zi_cmp, zi_retOk, zi_isI, zi_f3, zi_cr, zi_ci, zi_cn, zi_get_ne, zi_nl_i, zi_nl_r, zi_get_set_eq, nl, g0, g1, g3, g2, h10, c1, zd_g, zd_w hi, zq_Win_isLooseOn, cw, E1 F (by omega), nI_1]
        · simp (maxDischargeDepth := 9) [zi_get_ne, zi_nl_i, zi_nl_r, zi_get_set_eq, nl]
        · simp (maxDischargeDepth := 9) [zi_get_ne, zi_nl_i, zi_nl_r, zi_get_set_eq, nl, g0]
        · simp (maxDischargeDepth := 9) [zi_get_ne, zi_nl_i, zi_nl_r, zi_get_set_eq, nl, g1]
        · simp (maxDischargeDepth := 9) [zi_get_ne, zi_nl_i, zi_nl_r, zi_get_set_eq, nl, g2]
      · rw [if_neg c2] at E1
        left
        refine ⟨zi_set (zi_set L 2 (.int (v + 0))) 3 (.int (nI (i + 1))), zm_mk μ, ⟨N1, 16, fun F m hF => ?_⟩, by omega, ?_, ?_, ?_, zi_get_set_eq, rfl, v + 0, ?_, trivial⟩
        · simp (maxDischargeDepth := 9) [zg_0, zg_aaload, zg_aload_n, zg_bipush, zg_getfield, zg_goto, zg_iadd, zg_iconst, zg_ifCond, zg_if_icmp, zg_iinc, zg_iload_n, zg_invokevirtual, zg_ireturn, zg_istore_n, zf_X5_looseOnes, zi_ld, zi_lda, zi_cmp, zi_retOk, zi_isI, zi_f3, zi_cr, zi_ci, zi_cn, zi_get_ne, zi_nl_i, zi_nl_r, zi_get_set_eq, nl, g0, g1, g3, g2, h10, c1, zd_g, zd_w hi, zq_Win_isLooseOn, cw, E1 F (by omega), nI_1]
        · simp (maxDischargeDepth := 9) [zi_get_ne, zi_nl_i, zi_nl_r, zi_get_set_eq, nl]
        · simp (maxDischargeDepth := 9) [zi_get_ne, zi_nl_i, zi_nl_r, zi_get_set_eq, nl, g0]
        · simp (maxDischargeDepth := 9) [zi_get_ne, zi_nl_i, zi_nl_r, zi_get_set_eq, nl, g1]
        · simp (maxDischargeDepth := 9) [zi_get_ne, zi_nl_i, zi_nl_r, zi_get_set_eq, nl, g2]
    · rintro L _ ⟨-, nl, g0, g1, g3, rfl, v, g2, hq⟩
      have c1 : (10 : Int32) ≤ nI 10 := by decide
      refine ⟨some (.int v), zm_mk μ, ⟨0, 5, fun F m hF => ?_⟩, ⟨v, rfl⟩, rfl⟩
      simp [zg_0, zg_aaload, zg_aload_n, zg_bipush, zg_getfield, zg_goto, zg_iadd, zg_iconst, zg_ifCond, zg_if_icmp, zg_iinc, zg_iload_n, zg_invokevirtual, zg_ireturn, zg_istore_n, zf_X5_looseOnes, zi_ld, zi_lda, zi_cmp, zi_retOk, zi_isI, zi_f3, zi_cr, zi_ci, zi_cn, g0, g2, g3, h10, c1]
  obtain ⟨r, h', G, ⟨v, rfl⟩, rfl⟩ := key
  refine ⟨v, ze_in [(0, .ref 1), (1, .int x)] zq_Desk_looseOnes (Nat.le_of_ble_eq_true rfl) rfl (ze_S.end ⟨0, 4, fun F m hF => ?_⟩ G)⟩
  simp [zg_0, zg_aaload, zg_aload_n, zg_bipush, zg_getfield, zg_goto, zg_iadd, zg_iconst, zg_ifCond, zg_if_icmp, zg_iinc, zg_iload_n, zg_invokevirtual, zg_ireturn, zg_istore_n, zf_X5_looseOnes, zi_ld, zi_lda, zi_cmp, zi_retOk, zi_isI, zi_f3, zi_cr, zi_ci, zi_cn, zi_get, zi_set, nI_0]
set_option maxRecDepth 100000 in
theorem ze_windowsUnder (D : Nat) (x : Int32) : ∃ v, ze_E (D + 2) A_Desk_windowsUnder [.ref 1, .int x] (zm_mk μ) (some (.int v)) (zm_mk μ) := by
  have h10 : (Int8.ofInt 10).toInt32 = (10 : Int32) := by decide
  have key : ∃ r h', ze_G (D + 1) 4 (some .int) zc_X5_windowsUnder 4 [(3, .int (nI 0)), (2, .int 0), (0, .ref 1), (1, .int x)] [] (zm_mk μ) r h' ∧ ((∃ v, r = some (.int v)) ∧ zm_mk μ = h') := by
    refine ze_loop (Q := fun i L hp => i ≤ 10 ∧ zi_nl L = true ∧ zi_get L 0 = some (.ref 1) ∧ zi_get L 1 = some (.int x) ∧ zi_get L 3 = some (.int (nI i)) ∧ zm_mk μ = hp ∧ ∃ (v : Int32), zi_get L 2 = some (.int v) ∧ (True)) (R := fun r h' => (∃ v, r = some (.int v)) ∧ zm_mk μ = h') 10 ?_ ?_ 10 0 _ _ (by omega) ⟨by omega, rfl, rfl, rfl, rfl, rfl, 0, rfl, trivial⟩
    · rintro i L _ hi ⟨-, nl, g0, g1, g3, rfl, v, g2, hq⟩
      have c1 : ¬ (10 : Int32) ≤ nI i := nI_ge (b := 10) hi (by decide)
      obtain ⟨N1, E1⟩ := ze_fallsUnder (μ := μ) D (zdW_at hi) x
      have cw := zw_c (μ := μ) (zdW_at hi)
      by_cases c2 : ¬ μ (zdW i) 2 = 0 ∧ (μ (zdW i) 3 = x ∨ x = 0 ∨ (x = 2 ∧ ¬ μ (zdW i) 3 = 1))
      · have z : zb (¬ μ (zdW i) 2 = 0 ∧ (μ (zdW i) 3 = x ∨ x = 0 ∨ (x = 2 ∧ ¬ μ (zdW i) 3 = 1))) = 1 := if_pos c2
        rw [z] at E1
        left
        refine ⟨zi_set (zi_set L 2 (.int (v + 1))) 3 (.int (nI (i + 1))), zm_mk μ, ⟨N1, 17, fun F m hF => ?_⟩, by omega, ?_, ?_, ?_, zi_get_set_eq, rfl, v + 1, ?_, trivial⟩
        · simp (maxDischargeDepth := 9) [zg_0, zg_aaload, zg_aload_n, zg_bipush, zg_getfield, zg_goto, zg_iadd, zg_iconst, zg_ifCond, zg_if_icmp, zg_iinc, zg_iload_n, zg_invokevirtual, zg_ireturn, zg_istore_n, zf_X5_windowsUnder, zi_ld, zi_lda, zi_cmp, zi_retOk, zi_isI, zi_f3, zi_cr, zi_ci, zi_cn, zi_get_ne, zi_nl_i, zi_nl_r, zi_get_set_eq, nl, g0, g1, g3, g2, h10, c1, zd_g, zd_w hi, zq_Win_fallsUnder, cw, E1 F (by omega), nI_1]
        · simp (maxDischargeDepth := 9) [zi_get_ne, zi_nl_i, zi_nl_r, zi_get_set_eq, nl]
        · simp (maxDischargeDepth := 9) [zi_get_ne, zi_nl_i, zi_nl_r, zi_get_set_eq, nl, g0]
        · simp (maxDischargeDepth := 9) [zi_get_ne, zi_nl_i, zi_nl_r, zi_get_set_eq, nl, g1]
        · simp (maxDischargeDepth := 9) [zi_get_ne, zi_nl_i, zi_nl_r, zi_get_set_eq, nl, g2]
      · have z : zb (¬ μ (zdW i) 2 = 0 ∧ (μ (zdW i) 3 = x ∨ x = 0 ∨ (x = 2 ∧ ¬ μ (zdW i) 3 = 1))) = 0 := if_neg c2
        rw [z] at E1
        left
        refine ⟨zi_set (zi_set L 2 (.int (v + 0))) 3 (.int (nI (i + 1))), zm_mk μ, ⟨N1, 16, fun F m hF => ?_⟩, by omega, ?_, ?_, ?_, zi_get_set_eq, rfl, v + 0, ?_, trivial⟩
        · simp (maxDischargeDepth := 9) [zg_0, zg_aaload, zg_aload_n, zg_bipush, zg_getfield, zg_goto, zg_iadd, zg_iconst, zg_ifCond, zg_if_icmp, zg_iinc, zg_iload_n, zg_invokevirtual, zg_ireturn, zg_istore_n, zf_X5_windowsUnder, zi_ld, zi_lda, zi_cmp, zi_retOk, zi_isI, zi_f3, zi_cr, zi_ci, zi_cn, zi_get_ne, zi_nl_i, zi_nl_r, zi_get_set_eq, nl, g0, g1, g3, g2, h10, c1, zd_g, zd_w hi, zq_Win_fallsUnder, cw, E1 F (by omega), nI_1]
        · simp (maxDischargeDepth := 9) [zi_get_ne, zi_nl_i, zi_nl_r, zi_get_set_eq, nl]
        · simp (maxDischargeDepth := 9) [zi_get_ne, zi_nl_i, zi_nl_r, zi_get_set_eq, nl, g0]
        · simp (maxDischargeDepth := 9) [zi_get_ne, zi_nl_i, zi_nl_r, zi_get_set_eq, nl, g1]
        · simp (maxDischargeDepth := 9) [zi_get_ne, zi_nl_i, zi_nl_r, zi_get_set_eq, nl, g2]
    · rintro L _ ⟨-, nl, g0, g1, g3, rfl, v, g2, hq⟩
      have c1 : (10 : Int32) ≤ nI 10 := by decide
      refine ⟨some (.int v), zm_mk μ, ⟨0, 5, fun F m hF => ?_⟩, ⟨v, rfl⟩, rfl⟩
      simp [zg_0, zg_aaload, zg_aload_n, zg_bipush, zg_getfield, zg_goto, zg_iadd, zg_iconst, zg_ifCond, zg_if_icmp, zg_iinc, zg_iload_n, zg_invokevirtual, zg_ireturn, zg_istore_n, zf_X5_windowsUnder, zi_ld, zi_lda, zi_cmp, zi_retOk, zi_isI, zi_f3, zi_cr, zi_ci, zi_cn, g0, g2, g3, h10, c1]
  obtain ⟨r, h', G, ⟨v, rfl⟩, rfl⟩ := key
  refine ⟨v, ze_in [(0, .ref 1), (1, .int x)] zq_Desk_windowsUnder (Nat.le_of_ble_eq_true rfl) rfl (ze_S.end ⟨0, 4, fun F m hF => ?_⟩ G)⟩
  simp [zg_0, zg_aaload, zg_aload_n, zg_bipush, zg_getfield, zg_goto, zg_iadd, zg_iconst, zg_ifCond, zg_if_icmp, zg_iinc, zg_iload_n, zg_invokevirtual, zg_ireturn, zg_istore_n, zf_X5_windowsUnder, zi_ld, zi_lda, zi_cmp, zi_retOk, zi_isI, zi_f3, zi_cr, zi_ci, zi_cn, zi_get, zi_set, nI_0]
set_option maxRecDepth 100000 in
theorem ze_screensThere (D : Nat) : ∃ v, ze_E (D + 1) A_Desk_screensThere [.ref 1] (zm_mk μ) (some (.int v)) (zm_mk μ) := by
  have key : ∃ r h', ze_G D 3 (some .int) zc_X5_screensThere 4 [(2, .int (nI 0)), (1, .int 0), (0, .ref 1)] [] (zm_mk μ) r h' ∧ ((∃ v, r = some (.int v)) ∧ zm_mk μ = h') := by
    refine ze_loop (Q := fun i L hp => i ≤ 3 ∧ zi_nl L = true ∧ zi_get L 0 = some (.ref 1) ∧ zi_get L 2 = some (.int (nI i)) ∧ zm_mk μ = hp ∧ ∃ (v : Int32), zi_get L 1 = some (.int v) ∧ (True)) (R := fun r h' => (∃ v, r = some (.int v)) ∧ zm_mk μ = h') 3 ?_ ?_ 3 0 _ _ (by omega) ⟨by omega, rfl, rfl, rfl, rfl, 0, rfl, trivial⟩
    · rintro i L _ hi ⟨-, nl, g0, g2, rfl, v, g1, hq⟩
      have c1 : ¬ (3 : Int32) ≤ nI i := nI_ge (b := 3) hi (by decide)
      by_cases c2 : μ (zdS i) 3 = 0
      · left
        refine ⟨zi_set (zi_set L 1 (.int (v + 0))) 2 (.int (nI (i + 1))), zm_mk μ, ⟨0, 15, fun F m hF => ?_⟩, by omega, ?_, ?_, zi_get_set_eq, rfl, v + 0, ?_, trivial⟩
        · simp (maxDischargeDepth := 9) [zg_0, zg_aaload, zg_aload_n, zg_getfield, zg_goto, zg_iadd, zg_iconst, zg_ifCond, zg_if_icmp, zg_iinc, zg_iload_n, zg_ireturn, zg_istore_n, zf_X5_screensThere, zi_ld, zi_lda, zi_cmp, zi_retOk, zi_isI, zi_f3, zi_cr, zi_ci, zi_cn, zi_get_ne, zi_nl_i, zi_nl_r, zi_get_set_eq, nl, g0, g2, g1, c1, zd_g, zd_s hi, zdS_g hi, c2, nI_1]
        · simp (maxDischargeDepth := 9) [zi_get_ne, zi_nl_i, zi_nl_r, zi_get_set_eq, nl]
        · simp (maxDischargeDepth := 9) [zi_get_ne, zi_nl_i, zi_nl_r, zi_get_set_eq, nl, g0]
        · simp (maxDischargeDepth := 9) [zi_get_ne, zi_nl_i, zi_nl_r, zi_get_set_eq, nl, g1]
      · left
        refine ⟨zi_set (zi_set L 1 (.int (v + 1))) 2 (.int (nI (i + 1))), zm_mk μ, ⟨0, 16, fun F m hF => ?_⟩, by omega, ?_, ?_, zi_get_set_eq, rfl, v + 1, ?_, trivial⟩
        · simp (maxDischargeDepth := 9) [zg_0, zg_aaload, zg_aload_n, zg_getfield, zg_goto, zg_iadd, zg_iconst, zg_ifCond, zg_if_icmp, zg_iinc, zg_iload_n, zg_ireturn, zg_istore_n, zf_X5_screensThere, zi_ld, zi_lda, zi_cmp, zi_retOk, zi_isI, zi_f3, zi_cr, zi_ci, zi_cn, zi_get_ne, zi_nl_i, zi_nl_r, zi_get_set_eq, nl, g0, g2, g1, c1, zd_g, zd_s hi, zdS_g hi, c2, nI_1]
        · simp (maxDischargeDepth := 9) [zi_get_ne, zi_nl_i, zi_nl_r, zi_get_set_eq, nl]
        · simp (maxDischargeDepth := 9) [zi_get_ne, zi_nl_i, zi_nl_r, zi_get_set_eq, nl, g0]
        · simp (maxDischargeDepth := 9) [zi_get_ne, zi_nl_i, zi_nl_r, zi_get_set_eq, nl, g1]
    · rintro L _ ⟨-, nl, g0, g2, rfl, v, g1, hq⟩
      have c1 : (3 : Int32) ≤ nI 3 := by decide
      refine ⟨some (.int v), zm_mk μ, ⟨0, 5, fun F m hF => ?_⟩, ⟨v, rfl⟩, rfl⟩
      simp [zg_0, zg_aaload, zg_aload_n, zg_getfield, zg_goto, zg_iadd, zg_iconst, zg_ifCond, zg_if_icmp, zg_iinc, zg_iload_n, zg_ireturn, zg_istore_n, zf_X5_screensThere, zi_ld, zi_lda, zi_cmp, zi_retOk, zi_isI, zi_f3, zi_cr, zi_ci, zi_cn, g0, g1, g2, c1]
  obtain ⟨r, h', G, ⟨v, rfl⟩, rfl⟩ := key
  refine ⟨v, ze_in [(0, .ref 1)] zq_Desk_screensThere (Nat.le_of_ble_eq_true rfl) rfl (ze_S.end ⟨0, 4, fun F m hF => ?_⟩ G)⟩
  simp [zg_0, zg_aaload, zg_aload_n, zg_getfield, zg_goto, zg_iadd, zg_iconst, zg_ifCond, zg_if_icmp, zg_iinc, zg_iload_n, zg_ireturn, zg_istore_n, zf_X5_screensThere, zi_ld, zi_lda, zi_cmp, zi_retOk, zi_isI, zi_f3, zi_cr, zi_ci, zi_cn, zi_get, zi_set, nI_0]
set_option maxRecDepth 100000 in
theorem ze_screensWithKept (D : Nat) : ∃ v, ze_E (D + 1) A_Desk_screensWithKept [.ref 1] (zm_mk μ) (some (.int v)) (zm_mk μ) := by
  have key : ∃ r h', ze_G D 3 (some .int) zc_X5_screensWithKept 4 [(2, .int (nI 0)), (1, .int 0), (0, .ref 1)] [] (zm_mk μ) r h' ∧ ((∃ v, r = some (.int v)) ∧ zm_mk μ = h') := by
    refine ze_loop (Q := fun i L hp => i ≤ 3 ∧ zi_nl L = true ∧ zi_get L 0 = some (.ref 1) ∧ zi_get L 2 = some (.int (nI i)) ∧ zm_mk μ = hp ∧ ∃ (v : Int32), zi_get L 1 = some (.int v) ∧ (True)) (R := fun r h' => (∃ v, r = some (.int v)) ∧ zm_mk μ = h') 3 ?_ ?_ 3 0 _ _ (by omega) ⟨by omega, rfl, rfl, rfl, rfl, 0, rfl, trivial⟩
    · rintro i L _ hi ⟨-, nl, g0, g2, rfl, v, g1, hq⟩
      have c1 : ¬ (3 : Int32) ≤ nI i := nI_ge (b := 3) hi (by decide)
      by_cases c2 : μ (zdK i) 3 = 0
      · left
        refine ⟨zi_set (zi_set L 1 (.int (v + 0))) 2 (.int (nI (i + 1))), zm_mk μ, ⟨0, 16, fun F m hF => ?_⟩, by omega, ?_, ?_, zi_get_set_eq, rfl, v + 0, ?_, trivial⟩
        · simp (maxDischargeDepth := 9) [zg_0, zg_aaload, zg_aload_n, zg_getfield, zg_goto, zg_iadd, zg_iconst, zg_ifCond, zg_if_icmp, zg_iinc, zg_iload_n, zg_ireturn, zg_istore_n, zf_X5_screensWithKept, zi_ld, zi_lda, zi_cmp, zi_retOk, zi_isI, zi_f3, zi_cr, zi_ci, zi_cn, zi_get_ne, zi_nl_i, zi_nl_r, zi_get_set_eq, nl, g0, g2, g1, c1, zd_g, zd_s hi, zdS_g hi, zdK_g hi, c2, nI_1]
        · simp (maxDischargeDepth := 9) [zi_get_ne, zi_nl_i, zi_nl_r, zi_get_set_eq, nl]
        · simp (maxDischargeDepth := 9) [zi_get_ne, zi_nl_i, zi_nl_r, zi_get_set_eq, nl, g0]
        · simp (maxDischargeDepth := 9) [zi_get_ne, zi_nl_i, zi_nl_r, zi_get_set_eq, nl, g1]
      · left
        refine ⟨zi_set (zi_set L 1 (.int (v + 1))) 2 (.int (nI (i + 1))), zm_mk μ, ⟨0, 17, fun F m hF => ?_⟩, by omega, ?_, ?_, zi_get_set_eq, rfl, v + 1, ?_, trivial⟩
        · simp (maxDischargeDepth := 9) [zg_0, zg_aaload, zg_aload_n, zg_getfield, zg_goto, zg_iadd, zg_iconst, zg_ifCond, zg_if_icmp, zg_iinc, zg_iload_n, zg_ireturn, zg_istore_n, zf_X5_screensWithKept, zi_ld, zi_lda, zi_cmp, zi_retOk, zi_isI, zi_f3, zi_cr, zi_ci, zi_cn, zi_get_ne, zi_nl_i, zi_nl_r, zi_get_set_eq, nl, g0, g2, g1, c1, zd_g, zd_s hi, zdS_g hi, zdK_g hi, c2, nI_1]
        · simp (maxDischargeDepth := 9) [zi_get_ne, zi_nl_i, zi_nl_r, zi_get_set_eq, nl]
        · simp (maxDischargeDepth := 9) [zi_get_ne, zi_nl_i, zi_nl_r, zi_get_set_eq, nl, g0]
        · simp (maxDischargeDepth := 9) [zi_get_ne, zi_nl_i, zi_nl_r, zi_get_set_eq, nl, g1]
    · rintro L _ ⟨-, nl, g0, g2, rfl, v, g1, hq⟩
      have c1 : (3 : Int32) ≤ nI 3 := by decide
      refine ⟨some (.int v), zm_mk μ, ⟨0, 5, fun F m hF => ?_⟩, ⟨v, rfl⟩, rfl⟩
      simp [zg_0, zg_aaload, zg_aload_n, zg_getfield, zg_goto, zg_iadd, zg_iconst, zg_ifCond, zg_if_icmp, zg_iinc, zg_iload_n, zg_ireturn, zg_istore_n, zf_X5_screensWithKept, zi_ld, zi_lda, zi_cmp, zi_retOk, zi_isI, zi_f3, zi_cr, zi_ci, zi_cn, g0, g1, g2, c1]
  obtain ⟨r, h', G, ⟨v, rfl⟩, rfl⟩ := key
  refine ⟨v, ze_in [(0, .ref 1)] zq_Desk_screensWithKept (Nat.le_of_ble_eq_true rfl) rfl (ze_S.end ⟨0, 4, fun F m hF => ?_⟩ G)⟩
  simp [zg_0, zg_aaload, zg_aload_n, zg_getfield, zg_goto, zg_iadd, zg_iconst, zg_ifCond, zg_if_icmp, zg_iinc, zg_iload_n, zg_ireturn, zg_istore_n, zf_X5_screensWithKept, zi_ld, zi_lda, zi_cmp, zi_retOk, zi_isI, zi_f3, zi_cr, zi_ci, zi_cn, zi_get, zi_set, nI_0]
set_option maxRecDepth 100000 in
theorem ze_Win_spans (D : Nat) {k z a : Nat} (hk : k < 10) (hz : zm_isA 7 z 2) (ha : a < 2) (x : Int32) : ∃ v : Int32, (v = 0 ∨ v = 1) ∧ ze_E (D + 4) A_Win_spans [.ref (zdW k + 1), .int x, .int (nI a), .ref (z + 1)] (zm_mk μ) (some (.int v)) (zm_mk μ) := by
  have ia : zi_in (nI a) 2 = true := zm_in ha (by decide)
  have ca : (nI a).toNatClampNeg = a := nI_clamp (by omega)
  obtain ⟨N1, E1⟩ := ze_nearest (μ := μ) D (zdW_at hk) hz (μ (zdW k + 2) a) (nI a) ia
  have cw := zw_c (μ := μ) (zdW_at hk)
  generalize zi_bt 0 (μ (zdW k + 2) a) (μ z (nI a).toNatClampNeg - μ (zdW k + 1) (nI a).toNatClampNeg) = st at E1
  by_cases c1 : x < st
  · refine ⟨0, Or.inl rfl, ze_in [(0, .ref (zdW k + 1)), (1, .int x), (2, .int (nI a)), (3, .ref (z + 1))] zq_Win_spans (Nat.le_of_ble_eq_true rfl) rfl ⟨N1, 14, fun F n hF => ?_⟩⟩
    simp [zg_0, zg_aload_n, zg_getfield, zg_goto, zg_iadd, zg_iaload, zg_iconst, zg_if_icmp, zg_iload, zg_iload_n, zg_invokevirtual, zg_ireturn, zg_istore, zf_X4_spans, zi_ld, zi_lda, zi_cmp, zi_retOk, zi_isI, zi_f3, zi_cr, zi_ci, zi_cn, zi_get, zi_set, zw_g (zdW_at hk), zm_iald (k := 0) (zdW_at hk).2.2 ia, ca, zq_Win_nearest, cw, E1 F (by omega), c1]
  · by_cases c2 : st + μ (zdW k + 1) a ≤ x
    · refine ⟨0, Or.inl rfl, ze_in [(0, .ref (zdW k + 1)), (1, .int x), (2, .int (nI a)), (3, .ref (z + 1))] zq_Win_spans (Nat.le_of_ble_eq_true rfl) rfl ⟨N1, 22, fun F n hF => ?_⟩⟩
      simp [zg_0, zg_aload_n, zg_getfield, zg_goto, zg_iadd, zg_iaload, zg_iconst, zg_if_icmp, zg_iload, zg_iload_n, zg_invokevirtual, zg_ireturn, zg_istore, zf_X4_spans, zi_ld, zi_lda, zi_cmp, zi_retOk, zi_isI, zi_f3, zi_cr, zi_ci, zi_cn, zi_get, zi_set, zw_g (zdW_at hk), zm_iald (k := 0) (zdW_at hk).2.2 ia, zm_iald (k := 0) (zdW_at hk).2.1 ia, ca, zq_Win_nearest, cw, E1 F (by omega), c1, c2]
    · refine ⟨1, Or.inr rfl, ze_in [(0, .ref (zdW k + 1)), (1, .int x), (2, .int (nI a)), (3, .ref (z + 1))] zq_Win_spans (Nat.le_of_ble_eq_true rfl) rfl ⟨N1, 23, fun F n hF => ?_⟩⟩
      simp [zg_0, zg_aload_n, zg_getfield, zg_goto, zg_iadd, zg_iaload, zg_iconst, zg_if_icmp, zg_iload, zg_iload_n, zg_invokevirtual, zg_ireturn, zg_istore, zf_X4_spans, zi_ld, zi_lda, zi_cmp, zi_retOk, zi_isI, zi_f3, zi_cr, zi_ci, zi_cn, zi_get, zi_set, zw_g (zdW_at hk), zm_iald (k := 0) (zdW_at hk).2.2 ia, zm_iald (k := 0) (zdW_at hk).2.1 ia, ca, zq_Win_nearest, cw, E1 F (by omega), c1, c2]
set_option maxRecDepth 100000 in
theorem ze_coversPoint (D : Nat) {k z : Nat} (hk : k < 10) (hz : zm_isA 7 z 2) (x y s : Int32) : ∃ v : Int32, (v = 0 ∨ v = 1) ∧ ze_E (D + 5) A_Win_coversPoint [.ref (zdW k + 1), .int x, .int y, .int s, .ref (z + 1)] (zm_mk μ) (some (.int v)) (zm_mk μ) := by
  obtain ⟨N1, E1⟩ := ze_looseW (μ := μ) (D + 2) hk s
  obtain ⟨N2, E2⟩ := ze_stiW (μ := μ) (D + 3) hk
  obtain ⟨N3, E3⟩ := ze_wholeW (μ := μ) (D + 3) hk hz
  obtain ⟨v4, hv4, N4, E4⟩ := ze_Win_spans (μ := μ) D hk hz (a := 0) (by decide) x
  obtain ⟨v5, hv5, N5, E5⟩ := ze_Win_spans (μ := μ) D hk hz (a := 1) (by decide) y
  rw [nI_0] at E4
  rw [show nI 1 = 1 by decide] at E5
  have cw := zw_c (μ := μ) (zdW_at hk)
  have S1 : ∃ b : Int32, (b = 0 ∨ b = 1) ∧ ze_S (D + 4) 6 (some .boolean) zc_X4_coversPoint 0 [(0, .ref (zdW k + 1)), (1, .int x), (2, .int y), (3, .int s), (4, .ref (z + 1))] [] (zm_mk μ) 31 [(5, .int b), (0, .ref (zdW k + 1)), (1, .int x), (2, .int y), (3, .int s), (4, .ref (z + 1))] [] (zm_mk μ) := by
    by_cases c1 : zd_loose μ s k = true
    · rw [if_pos c1] at E1
      refine ⟨1, Or.inr rfl, N1, 7, fun F n hF => ?_⟩
      simp [zg_0, zg_aload, zg_aload_n, zg_goto, zg_iconst, zg_ifCond, zg_iload, zg_iload_n, zg_invokevirtual, zg_ireturn, zg_istore, zf_X4_coversPoint, zi_ld, zi_lda, zi_cmp, zi_retOk, zi_isI, zi_f3, zi_cr, zi_ci, zi_cn, zi_get, zi_set, zq_Win_isLooseOn, cw, E1 F (by omega)]
    · rw [if_neg c1] at E1
      by_cases c2 : zd_sti μ k = true
      · rw [if_pos c2] at E2
        by_cases c3 : zd_whole μ z k = true
        · rw [if_pos c3] at E3
          refine ⟨1, Or.inr rfl, N1 + N2 + N3, 14, fun F n hF => ?_⟩
          simp [zg_0, zg_aload, zg_aload_n, zg_goto, zg_iconst, zg_ifCond, zg_iload, zg_iload_n, zg_invokevirtual, zg_ireturn, zg_istore, zf_X4_coversPoint, zi_ld, zi_lda, zi_cmp, zi_retOk, zi_isI, zi_f3, zi_cr, zi_ci, zi_cn, zi_get, zi_set, zq_Win_isLooseOn, zq_Win_isSticky, zq_Win_canBeWhole, cw, E1 F (by omega), E2 F (by omega), E3 F (by omega)]
        · rw [if_neg c3] at E3
          refine ⟨0, Or.inl rfl, N1 + N2 + N3, 13, fun F n hF => ?_⟩
          simp [zg_0, zg_aload, zg_aload_n, zg_goto, zg_iconst, zg_ifCond, zg_iload, zg_iload_n, zg_invokevirtual, zg_ireturn, zg_istore, zf_X4_coversPoint, zi_ld, zi_lda, zi_cmp, zi_retOk, zi_isI, zi_f3, zi_cr, zi_ci, zi_cn, zi_get, zi_set, zq_Win_isLooseOn, zq_Win_isSticky, zq_Win_canBeWhole, cw, E1 F (by omega), E2 F (by omega), E3 F (by omega)]
      · rw [if_neg c2] at E2
        refine ⟨0, Or.inl rfl, N1 + N2, 9, fun F n hF => ?_⟩
        simp [zg_0, zg_aload, zg_aload_n, zg_goto, zg_iconst, zg_ifCond, zg_iload, zg_iload_n, zg_invokevirtual, zg_ireturn, zg_istore, zf_X4_coversPoint, zi_ld, zi_lda, zi_cmp, zi_retOk, zi_isI, zi_f3, zi_cr, zi_ci, zi_cn, zi_get, zi_set, zq_Win_isLooseOn, zq_Win_isSticky, cw, E1 F (by omega), E2 F (by omega)]
  obtain ⟨b, hb, S1⟩ := S1
  rcases hb with rfl | rfl
  · refine ⟨0, Or.inl rfl, ze_in [(0, .ref (zdW k + 1)), (1, .int x), (2, .int y), (3, .int s), (4, .ref (z + 1))] zq_Win_coversPoint (Nat.le_of_ble_eq_true rfl) rfl (S1.end ⟨0, 4, fun F n hF => ?_⟩)⟩
    simp [zg_0, zg_aload, zg_aload_n, zg_goto, zg_iconst, zg_ifCond, zg_iload, zg_iload_n, zg_invokevirtual, zg_ireturn, zg_istore, zf_X4_coversPoint, zi_ld, zi_lda, zi_cmp, zi_retOk, zi_isI, zi_f3, zi_cr, zi_ci, zi_cn, zi_get, zi_set]
  · rcases hv4 with rfl | rfl
    · refine ⟨0, Or.inl rfl, ze_in [(0, .ref (zdW k + 1)), (1, .int x), (2, .int y), (3, .int s), (4, .ref (z + 1))] zq_Win_coversPoint (Nat.le_of_ble_eq_true rfl) rfl (S1.end ⟨N4, 10, fun F n hF => ?_⟩)⟩
      simp [zg_0, zg_aload, zg_aload_n, zg_goto, zg_iconst, zg_ifCond, zg_iload, zg_iload_n, zg_invokevirtual, zg_ireturn, zg_istore, zf_X4_coversPoint, zi_ld, zi_lda, zi_cmp, zi_retOk, zi_isI, zi_f3, zi_cr, zi_ci, zi_cn, zi_get, zi_set, zq_Win_spans, cw, E4 F (by omega)]
    · rcases hv5 with rfl | rfl
      · refine ⟨0, Or.inl rfl, ze_in [(0, .ref (zdW k + 1)), (1, .int x), (2, .int y), (3, .int s), (4, .ref (z + 1))] zq_Win_coversPoint (Nat.le_of_ble_eq_true rfl) rfl (S1.end ⟨N4 + N5, 16, fun F n hF => ?_⟩)⟩
        simp [zg_0, zg_aload, zg_aload_n, zg_goto, zg_iconst, zg_ifCond, zg_iload, zg_iload_n, zg_invokevirtual, zg_ireturn, zg_istore, zf_X4_coversPoint, zi_ld, zi_lda, zi_cmp, zi_retOk, zi_isI, zi_f3, zi_cr, zi_ci, zi_cn, zi_get, zi_set, zq_Win_spans, cw, E4 F (by omega), E5 F (by omega)]
      · refine ⟨1, Or.inr rfl, ze_in [(0, .ref (zdW k + 1)), (1, .int x), (2, .int y), (3, .int s), (4, .ref (z + 1))] zq_Win_coversPoint (Nat.le_of_ble_eq_true rfl) rfl (S1.end ⟨N4 + N5, 17, fun F n hF => ?_⟩)⟩
        simp [zg_0, zg_aload, zg_aload_n, zg_goto, zg_iconst, zg_ifCond, zg_iload, zg_iload_n, zg_invokevirtual, zg_ireturn, zg_istore, zf_X4_coversPoint, zi_ld, zi_lda, zi_cmp, zi_retOk, zi_isI, zi_f3, zi_cr, zi_ci, zi_cn, zi_get, zi_set, zq_Win_spans, cw, E4 F (by omega), E5 F (by omega)]
set_option maxRecDepth 100000 in
theorem ze_shownAt (D : Nat) {T : Nat} (h : zt_at T) (hm : zt_hm μ T) (x y : Int32) : ∃ v, ze_E (D + 5) A_Tree_shownAt [.ref (T + 1), .int x, .int y] (zm_mk μ) (some (.int v)) (zm_mk μ) := by
  have h10 : (Int8.ofInt 10).toInt32 = (10 : Int32) := by decide
  have key : ∃ r h', ze_G (D + 4) 4 (some .int) zc_X3_shownAt 2 [(3, .int (nI 0)), (0, .ref (T + 1)), (1, .int x), (2, .int y)] [] (zm_mk μ) r h' ∧ ((∃ v, r = some (.int v)) ∧ zm_mk μ = h') := by
    refine ze_loop (Q := fun i L hp => i ≤ 10 ∧ zi_nl L = true ∧ zi_get L 0 = some (.ref (T + 1)) ∧ zi_get L 1 = some (.int x) ∧ zi_get L 2 = some (.int y) ∧ zi_get L 3 = some (.int (nI i)) ∧ zm_mk μ = hp ∧ (True)) (R := fun r h' => (∃ v, r = some (.int v)) ∧ zm_mk μ = h') 10 ?_ ?_ 10 0 _ _ (by omega) ⟨by omega, rfl, rfl, rfl, rfl, rfl, rfl, trivial⟩
    · rintro i L _ hi ⟨-, nl, g0, g1, g2, g3, rfl, hq⟩
      have c1 : ¬ (10 : Int32) ≤ nI i := nI_ge (b := 10) hi (by decide)
      obtain ⟨N1, E1⟩ := ze_Tree_isShown (μ := μ) (D + 2) h hm hi
      obtain ⟨N2, E2⟩ := ze_Tree_spans (μ := μ) D h hm hi (a := 0) (by decide) x
      obtain ⟨N3, E3⟩ := ze_Tree_spans (μ := μ) D h hm hi (a := 1) (by decide) y
      rw [nI_0] at E2
      rw [show nI 1 = 1 by decide] at E3
      rw [zb_dec] at E1 E2 E3
      obtain ⟨lt, ct⟩ := zt_c (μ := μ) h
      generalize (if decide (¬ μ (T + 3) i < 0 ∧ μ (T + 12) (μ (T + 3) i).toNatClampNeg = nI i) = true then (1 : Int32) else 0) = b1 at E1
      generalize (if decide (zt_so μ T 0 i ≤ x ∧ x < zt_so μ T 0 i + zt_lo μ T 0 i) = true then (1 : Int32) else 0) = b2 at E2
      generalize (if decide (zt_so μ T 1 i ≤ y ∧ y < zt_so μ T 1 i + zt_lo μ T 1 i) = true then (1 : Int32) else 0) = b3 at E3
      by_cases q1 : b1 = 0
      · left
        refine ⟨zi_set L 3 (.int (nI (i + 1))), zm_mk μ, ⟨N1 + N2 + N3, 9, fun F m hF => ?_⟩, by omega, ?_, ?_, ?_, ?_, zi_get_set_eq, rfl, trivial⟩
        · simp (maxDischargeDepth := 9) [zg_0, zg_aload_n, zg_bipush, zg_goto, zg_iconst, zg_ifCond, zg_if_icmp, zg_iinc, zg_iload_n, zg_invokevirtual, zg_ireturn, zg_istore_n, zg_ldc, zf_X3_shownAt, zi_ld, zi_lda, zi_cmp, zi_retOk, zi_isI, zi_f3, zi_cr, zi_ci, zi_cn, zi_get_ne, zi_nl_i, zi_nl_r, zi_get_set_eq, nl, g0, g1, g2, g3, h10, c1, zq_Tree_isShown, ct, E1 F (by omega), q1, nI_1]
        · simp (maxDischargeDepth := 9) [zi_get_ne, zi_nl_i, zi_nl_r, zi_get_set_eq, nl]
        · simp (maxDischargeDepth := 9) [zi_get_ne, zi_nl_i, zi_nl_r, zi_get_set_eq, nl, g0]
        · simp (maxDischargeDepth := 9) [zi_get_ne, zi_nl_i, zi_nl_r, zi_get_set_eq, nl, g1]
        · simp (maxDischargeDepth := 9) [zi_get_ne, zi_nl_i, zi_nl_r, zi_get_set_eq, nl, g2]
      · by_cases q2 : b2 = 0
        · left
          refine ⟨zi_set L 3 (.int (nI (i + 1))), zm_mk μ, ⟨N1 + N2 + N3, 15, fun F m hF => ?_⟩, by omega, ?_, ?_, ?_, ?_, zi_get_set_eq, rfl, trivial⟩
          · simp (maxDischargeDepth := 9) [zg_0, zg_aload_n, zg_bipush, zg_goto, zg_iconst, zg_ifCond, zg_if_icmp, zg_iinc, zg_iload_n, zg_invokevirtual, zg_ireturn, zg_istore_n, zg_ldc, zf_X3_shownAt, zi_ld, zi_lda, zi_cmp, zi_retOk, zi_isI, zi_f3, zi_cr, zi_ci, zi_cn, zi_get_ne, zi_nl_i, zi_nl_r, zi_get_set_eq, nl, g0, g1, g2, g3, h10, c1, zq_Tree_isShown, zq_Tree_spans, ct, E1 F (by omega), E2 F (by omega), q1, q2, nI_1]
          · simp (maxDischargeDepth := 9) [zi_get_ne, zi_nl_i, zi_nl_r, zi_get_set_eq, nl]
          · simp (maxDischargeDepth := 9) [zi_get_ne, zi_nl_i, zi_nl_r, zi_get_set_eq, nl, g0]
          · simp (maxDischargeDepth := 9) [zi_get_ne, zi_nl_i, zi_nl_r, zi_get_set_eq, nl, g1]
          · simp (maxDischargeDepth := 9) [zi_get_ne, zi_nl_i, zi_nl_r, zi_get_set_eq, nl, g2]
        · by_cases q3 : b3 = 0
          · left
            refine ⟨zi_set L 3 (.int (nI (i + 1))), zm_mk μ, ⟨N1 + N2 + N3, 21, fun F m hF => ?_⟩, by omega, ?_, ?_, ?_, ?_, zi_get_set_eq, rfl, trivial⟩
            · simp (maxDischargeDepth := 9) [zg_0, zg_aload_n, zg_bipush, zg_goto, zg_iconst, zg_ifCond, zg_if_icmp, zg_iinc, zg_iload_n, zg_invokevirtual, zg_ireturn, zg_istore_n, zg_ldc, zf_X3_shownAt, zi_ld, zi_lda, zi_cmp, zi_retOk, zi_isI, zi_f3, zi_cr, zi_ci, zi_cn, zi_get_ne, zi_nl_i, zi_nl_r, zi_get_set_eq, nl, g0, g1, g2, g3, h10, c1, zq_Tree_isShown, zq_Tree_spans, ct, E1 F (by omega), E2 F (by omega), E3 F (by omega), q1, q2, q3, nI_1]
            · simp (maxDischargeDepth := 9) [zi_get_ne, zi_nl_i, zi_nl_r, zi_get_set_eq, nl]
            · simp (maxDischargeDepth := 9) [zi_get_ne, zi_nl_i, zi_nl_r, zi_get_set_eq, nl, g0]
            · simp (maxDischargeDepth := 9) [zi_get_ne, zi_nl_i, zi_nl_r, zi_get_set_eq, nl, g1]
            · simp (maxDischargeDepth := 9) [zi_get_ne, zi_nl_i, zi_nl_r, zi_get_set_eq, nl, g2]
          · right
            refine ⟨some (.int (nI i)), zm_mk μ, ⟨N1 + N2 + N3, 21, fun F m hF => ?_⟩, ⟨nI i, rfl⟩, rfl⟩
            simp (maxDischargeDepth := 9) [zg_0, zg_aload_n, zg_bipush, zg_goto, zg_iconst, zg_ifCond, zg_if_icmp, zg_iinc, zg_iload_n, zg_invokevirtual, zg_ireturn, zg_istore_n, zg_ldc, zf_X3_shownAt, zi_ld, zi_lda, zi_cmp, zi_retOk, zi_isI, zi_f3, zi_cr, zi_ci, zi_cn, zi_get_ne, zi_nl_i, zi_nl_r, zi_get_set_eq, nl, g0, g1, g2, g3, h10, c1, zq_Tree_isShown, zq_Tree_spans, ct, E1 F (by omega), E2 F (by omega), E3 F (by omega), q1, q2, q3, nI_1]
    · rintro L _ ⟨-, nl, g0, g1, g2, g3, rfl, hq⟩
      have c1 : (10 : Int32) ≤ nI 10 := by decide
      refine ⟨some (.int (-1000000005)), zm_mk μ, ⟨0, 5, fun F m hF => ?_⟩, ⟨_, rfl⟩, rfl⟩
      simp [zg_0, zg_aload_n, zg_bipush, zg_goto, zg_iconst, zg_ifCond, zg_if_icmp, zg_iinc, zg_iload_n, zg_invokevirtual, zg_ireturn, zg_istore_n, zg_ldc, zf_X3_shownAt, zi_ld, zi_lda, zi_cmp, zi_retOk, zi_isI, zi_f3, zi_cr, zi_ci, zi_cn, g0, g3, h10, c1]
  obtain ⟨r, h', G, ⟨v, rfl⟩, rfl⟩ := key
  refine ⟨v, ze_in [(0, .ref (T + 1)), (1, .int x), (2, .int y)] zq_Tree_shownAt (Nat.le_of_ble_eq_true rfl) rfl (ze_S.end ⟨0, 2, fun F m hF => ?_⟩ G)⟩
  simp [zg_0, zg_aload_n, zg_bipush, zg_goto, zg_iconst, zg_ifCond, zg_if_icmp, zg_iinc, zg_iload_n, zg_invokevirtual, zg_ireturn, zg_istore_n, zg_ldc, zf_X3_shownAt, zi_ld, zi_lda, zi_cmp, zi_retOk, zi_isI, zi_f3, zi_cr, zi_ci, zi_cn, zi_get, zi_set, nI_0]
end ZC7
end
section
/-! what holds of the desk between calls -/
/-- cells that no answer of ours rests on -/
noncomputable def zJ_irr (c : Nat) : Prop := (7 ≤ c ∧ c < 36) ∨ (38 ≤ c ∧ c < 66 ∧ (c - 38) % 3 = 0) ∨ (66 ≤ c ∧ c < 231 ∧ ((c - 66) % 55 = 21 ∨ (c - 66) % 55 = 22 ∨ (c - 66) % 55 = 24 ∨ (c - 66) % 55 = 25 ∨ (c - 66) % 55 = 46 ∨ (c - 66) % 55 = 47 ∨ (c - 66) % 55 = 49 ∨ (c - 66) % 55 = 50 ∨ (c - 66) % 55 = 52 ∨ (c - 66) % 55 = 53))
noncomputable def zJ_eqv (μ ν : zm_M) : Prop := ∀ c, ¬ zJ_irr c → ν c = μ c
theorem zJ_eqv.trans {μ ν ξ : zm_M} (h : zJ_eqv μ ν) (g : zJ_eqv ν ξ) : zJ_eqv μ ξ := fun c hc => (g c hc).trans (h c hc)
theorem zJ_eqv.refl {μ : zm_M} : zJ_eqv μ μ := fun _ _ => rfl
theorem zJn_W {k : Nat} (h : k < 10) : ¬ zJ_irr (zdW k) ∧ ¬ zJ_irr (zdW k + 1) := by
  unfold zJ_irr zdW
  constructor <;> omega
theorem zJn_T {s j : Nat} (h : s < 3) (hj : j < 19) : ¬ zJ_irr (zdT s + j) ∧ ¬ zJ_irr (zdV s + j) := by
  unfold zJ_irr zdT zdV
  constructor <;> omega
theorem zJn_S {s : Nat} (h : s < 3) : ¬ zJ_irr (zdS s) ∧ ¬ zJ_irr (zdZ s) ∧ ¬ zJ_irr (zdK s) ∧ ¬ zJ_irr (zdQ s) := by
  unfold zJ_irr zdS zdZ zdK zdQ
  refine ⟨?_, ?_, ?_, ?_⟩ <;> omega
theorem zJn_0 {c : Nat} (h : c < 7) : ¬ zJ_irr c := by
  unfold zJ_irr
  omega
theorem zJn_M {c : Nat} (h : 231 ≤ c) : ¬ zJ_irr c := by
  unfold zJ_irr
  omega
section ZJ1
variable {μ ν : zm_M} {row stk : List Nat} {Rs : Nat → List Nat} {ts : Nat → zy_F}
noncomputable def zJ_row (μ : zm_M) (row : List Nat) : Prop := zr_L μ 3 row ∧ row.Nodup ∧ ∀ k, k ∈ row ↔ (k < 10 ∧ zd_th μ k = true)
noncomputable def zJ_stk (μ : zm_M) (stk : List Nat) : Prop := zr_L μ 5 stk ∧ stk.Nodup ∧ ∀ k ∈ stk, k < 10
noncomputable def zJ_win (μ : zm_M) : Prop := ∀ k, k < 10 → zd_th μ k = true → (μ (zdW k) 3 = 1 ∨ μ (zdW k) 3 = 2 ∨ μ (zdW k) 3 = 3 ∨ μ (zdW k) 3 = 4) ∧ (1 ≤ μ (zdW k + 1) 0 ∧ μ (zdW k + 1) 0 ≤ 200 ∧ 1 ≤ μ (zdW k + 1) 1 ∧ μ (zdW k + 1) 1 ≤ 200) ∧
  (¬ μ (zdW k) 3 = 4 → ∃ s, s < 3 ∧ μ (zdW k) 5 = nI s ∧ ¬ μ (zdS s) 3 = 0) ∧ (μ (zdW k) 3 = 3 → ∃ o, o < 10 ∧ o ≠ k ∧ μ (zdW k) 4 = nI o ∧ zd_th μ o = true) ∧ (¬ μ (zdW k) 3 = 3 → μ (zdW k) 4 = -1)
noncomputable def zJ_tr (μ : zm_M) (Rs : Nat → List Nat) (ts : Nat → zy_F) : Prop := ∀ s, s < 3 → zt_C μ (zdT s) (Rs s) (ts s) ∧ (∀ k, k ∈ Rs s ↔ (k < 10 ∧ zd_til μ k = true ∧ μ (zdW k) 5 = nI s)) ∧ ∀ k ∈ Rs s, μ (zdT s + 5) k = μ (zdW k + 1) 0 ∧ μ (zdT s + 6) k = μ (zdW k + 1) 1
noncomputable def zJ_kp (μ : zm_M) (Rs : Nat → List Nat) (ts : Nat → zy_F) : Prop := ∀ s, s < 3 → zt_C μ (zdV s) (Rs (3 + s)) (ts (3 + s)) ∧ (¬ μ (zdK s) 3 = 0 → μ (zdS s) 3 = 0 ∧ (∀ k ∈ Rs (3 + s), zd_til μ k = true ∧ μ (zdV s + 5) k = μ (zdW k + 1) 0 ∧ μ (zdV s + 6) k = μ (zdW k + 1) 1) ∧ ∀ k, k < 10 → ¬ μ (zdQ s) k = 0 → zd_th μ k = true ∧ ¬ μ (zdW k) 3 = 1 ∧ ¬ μ (zdW k) 3 = 4)
noncomputable def zJ_sz (μ : zm_M) (Rs : Nat → List Nat) (ts : Nat → zy_F) : Prop := ∀ s, s < 3 → ¬ μ (zdS s) 3 = 0 → (40 ≤ μ (zdZ s) 0 ∧ μ (zdZ s) 0 ≤ 400 ∧ 40 ≤ μ (zdZ s) 1 ∧ μ (zdZ s) 1 ≤ 400) ∧ zt_fit μ (zdT s) (zdZ s) (Rs s) (ts s) = true
noncomputable def zJ (μ : zm_M) (row stk : List Nat) (Rs : Nat → List Nat) (ts : Nat → zy_F) : Prop := zJ_row μ row ∧ zJ_stk μ stk ∧ zJ_win μ ∧ zJ_tr μ Rs ts ∧ zJ_kp μ Rs ts ∧ zJ_sz μ Rs ts
/-- a settled Tree rests on its first cells alone -/
theorem zt_C_19 {Q : Nat} {S : List Nat} {u : zy_F} (h : ∀ j, j < 19 → ν (Q + j) = μ (Q + j)) (g : zt_C μ Q S u) : zt_C ν Q S u := by
  refine ⟨zt_same.I ⟨h _ (by omega), h _ (by omega), h _ (by omega), h _ (by omega), h _ (by omega), h _ (by omega), h _ (by omega), h _ (by omega), h _ (by omega), h _ (by omega), h _ (by omega), by rw [show ν Q = μ Q from h 0 (by omega)]⟩ g.1, ?_, fun a ha => ?_⟩
  · have := g.2.1
    unfold zt_O at *
    rw [show ν Q = μ Q from h 0 (by omega), h 13 (by omega)]
    exact this
  · have := g.2.2 a ha
    rw [show ν (Q + 16 + a) = μ (Q + 16 + a) by rw [Nat.add_assoc]; exact h (16 + a) (by omega), h 7 (by omega), show ν (Q + 5 + a) = μ (Q + 5 + a) by rw [Nat.add_assoc]; exact h (5 + a) (by omega), h 3 (by omega)]
    exact this
theorem zt_lsz_19 {Q a : Nat} {S : List Nat} {u : zy_F} (h : ∀ j, j < 19 → ν (Q + j) = μ (Q + j)) (ha : a < 2) : zt_lsz ν Q a S u = zt_lsz μ Q a S u := by
  unfold zt_lsz
  rw [h 7 (by omega), show ν (Q + 5 + a) = μ (Q + 5 + a) by rw [Nat.add_assoc]; exact h (5 + a) (by omega), h 3 (by omega)]
theorem zJ.eqv (h : zJ μ row stk Rs ts) (e : zJ_eqv μ ν) : zJ ν row stk Rs ts := by
  obtain ⟨h1, h2, h3, h4, h5, h6⟩ := h
  have eW : ∀ k, k < 10 → ν (zdW k) = μ (zdW k) := fun k hk => e _ (zJn_W hk).1
  have eL : ∀ k, k < 10 → ν (zdW k + 1) = μ (zdW k + 1) := fun k hk => e _ (zJn_W hk).2
  have eT : ∀ s, s < 3 → ∀ j, j < 19 → ν (zdT s + j) = μ (zdT s + j) := fun s hs j hj => e _ (zJn_T hs hj).1
  have eV : ∀ s, s < 3 → ∀ j, j < 19 → ν (zdV s + j) = μ (zdV s + j) := fun s hs j hj => e _ (zJn_T hs hj).2
  have th : ∀ k, k < 10 → zd_th ν k = zd_th μ k := fun k hk => by unfold zd_th; rw [eW k hk]
  have til : ∀ k, k < 10 → zd_til ν k = zd_til μ k := fun k hk => by unfold zd_til; rw [eW k hk]
  refine ⟨⟨zr_L_congr (e _ (zJn_0 (by decide))) (e _ (zJn_0 (by decide))) h1.1, h1.2.1, fun k => ?_⟩, ⟨zr_L_congr (e _ (zJn_0 (by decide))) (e _ (zJn_0 (by decide))) h2.1, h2.2⟩, fun k hk ht => ?_, fun s hs => ?_, fun s hs => ?_, fun s hs ht => ?_⟩
  · rw [h1.2.2 k]
    constructor
    · rintro ⟨a, b⟩
      exact ⟨a, by rw [th k a]; exact b⟩
    · rintro ⟨a, b⟩
      exact ⟨a, by rw [← th k a]; exact b⟩
  · rw [th k hk] at ht
    obtain ⟨a1, a2, a3, a4, a5⟩ := h3 k hk ht
    rw [eW k hk, eL k hk]
    refine ⟨a1, a2, fun q => ?_, fun q => ?_, a5⟩
    · obtain ⟨s, b1, b2, b3⟩ := a3 q
      exact ⟨s, b1, b2, by rw [e _ (zJn_S b1).1]; exact b3⟩
    · obtain ⟨o, b1, b2, b3, b4⟩ := a4 q
      exact ⟨o, b1, b2, b3, by rw [th o b1]; exact b4⟩
  · obtain ⟨a1, a2, a3⟩ := h4 s hs
    refine ⟨zt_C_19 (eT s hs) a1, fun k => ?_, fun k hk => ?_⟩
    · rw [a2 k]
      constructor
      · rintro ⟨b1, b2⟩
        exact ⟨b1, by rw [til k b1, eW k b1]; exact b2⟩
      · rintro ⟨b1, b2⟩
        exact ⟨b1, by rw [til k b1, eW k b1] at b2; exact b2⟩
    · have hk10 := ((a2 k).mp hk).1
      rw [eT s hs 5 (by omega), eT s hs 6 (by omega), eL k hk10]
      exact a3 k hk
  · obtain ⟨a1, a2⟩ := h5 s hs
    refine ⟨zt_C_19 (eV s hs) a1, fun q => ?_⟩
    rw [e _ (zJn_S hs).2.2.1] at q
    obtain ⟨b1, b2, b3⟩ := a2 q
    refine ⟨by rw [e _ (zJn_S hs).1]; exact b1, fun k hk => ?_, fun k hk hq => ?_⟩
    · have hk10 := a1.1.1.2.2 k hk
      rw [eV s hs 5 (by omega), eV s hs 6 (by omega), eL k hk10, til k hk10]
      exact b2 k hk
    · rw [e _ (zJn_S hs).2.2.2] at hq
      rw [th k hk, eW k hk]
      exact b3 k hk hq
  · rw [e _ (zJn_S hs).1] at ht
    obtain ⟨a1, a2⟩ := h6 s hs ht
    rw [e _ (zJn_S hs).2.1]
    refine ⟨a1, ?_⟩
    unfold zt_fit at *
    rw [zt_lsz_19 (eT s hs) (by decide), zt_lsz_19 (eT s hs) (by decide), e _ (zJn_S hs).2.1]
    exact a2
end ZJ1
end
section
/-! the desk's questions -/
section ZQ1
variable {μ : zm_M} {row stk : List Nat} {Rs : Nat → List Nat} {ts : Nat → zy_F}
set_option maxRecDepth 100000 in
/-- isOf's answer -/
theorem ze_isOf_in (D : Nat) {k : Nat} (hk : k < 10) (x : Int32) : ze_E (D + 2) A_Desk_isOf [.ref 1, .int (nI k), .int x] (zm_mk μ) (some (.int (if zd_th μ k = true ∧ (0 ≤ x ∧ x ≤ 4) then (if μ (zdW k) 3 = x ∨ x = 0 ∨ (x = 2 ∧ ¬ μ (zdW k) 3 = 1) then 1 else 0) else -1000000001))) (zm_mk μ) := by
  obtain ⟨N1, E1⟩ := ze_thW (μ := μ) D hk
  have n4 : Int32.ofInt (-1000000001) = -1000000001 := by decide
  by_cases c1 : zd_th μ k = true
  · rw [if_pos c1] at E1
    by_cases c2 : x < 0
    · rw [if_neg (fun q => Int32.not_le.mpr c2 q.2.1)]
      refine ze_in [(0, .ref 1), (1, .int (nI k)), (2, .int x)] zq_Desk_isOf (Nat.le_of_ble_eq_true rfl) rfl ⟨N1, 8, fun F n hF => ?_⟩
      simp [zg_0, zg_aaload, zg_aload_n, zg_getfield, zg_goto, zg_iconst, zg_ifCond, zg_if_icmp, zg_iload_n, zg_invokevirtual, zg_ireturn, zg_ldc, zf_X5_isOf, zi_ld, zi_lda, zi_cmp, zi_retOk, zi_isI, zi_f3, zi_cr, zi_ci, zi_cn, zi_get, zi_set, zq_Desk_isWindow, zd_c, E1 F (by omega), c2, n4]
    · have c2' : (0 : Int32) ≤ x := Int32.not_lt.mp c2
      by_cases c3 : x ≤ 4
      · rw [if_pos ⟨c1, c2', c3⟩]
        obtain ⟨N2, E2⟩ := ze_fallsUnder (μ := μ) D (zdW_at hk) x
        have cw := zw_c (μ := μ) (zdW_at hk)
        have ht : ¬ μ (zdW k) 2 = 0 := of_decide_eq_true c1
        by_cases c4 : μ (zdW k) 3 = x ∨ x = 0 ∨ (x = 2 ∧ ¬ μ (zdW k) 3 = 1)
        · have z : zb (¬ μ (zdW k) 2 = 0 ∧ (μ (zdW k) 3 = x ∨ x = 0 ∨ (x = 2 ∧ ¬ μ (zdW k) 3 = 1))) = 1 := if_pos ⟨ht, c4⟩
          rw [z] at E2
          rw [if_pos c4]
          refine ze_in [(0, .ref 1), (1, .int (nI k)), (2, .int x)] zq_Desk_isOf (Nat.le_of_ble_eq_true rfl) rfl ⟨N1 + N2, 19, fun F n hF => ?_⟩
          simp [zg_0, zg_aaload, zg_aload_n, zg_getfield, zg_goto, zg_iconst, zg_ifCond, zg_if_icmp, zg_iload_n, zg_invokevirtual, zg_ireturn, zg_ldc, zf_X5_isOf, zi_ld, zi_lda, zi_cmp, zi_retOk, zi_isI, zi_f3, zi_cr, zi_ci, zi_cn, zi_get, zi_set, zq_Desk_isWindow, zd_c, E1 F (by omega), c2, c3, zd_g, zd_w hk, zq_Win_fallsUnder, cw, E2 F (by omega)]
        · have z : zb (¬ μ (zdW k) 2 = 0 ∧ (μ (zdW k) 3 = x ∨ x = 0 ∨ (x = 2 ∧ ¬ μ (zdW k) 3 = 1))) = 0 := if_neg (fun q => c4 q.2)
          rw [z] at E2
          rw [if_neg c4]
          refine ze_in [(0, .ref 1), (1, .int (nI k)), (2, .int x)] zq_Desk_isOf (Nat.le_of_ble_eq_true rfl) rfl ⟨N1 + N2, 18, fun F n hF => ?_⟩
          simp [zg_0, zg_aaload, zg_aload_n, zg_getfield, zg_goto, zg_iconst, zg_ifCond, zg_if_icmp, zg_iload_n, zg_invokevirtual, zg_ireturn, zg_ldc, zf_X5_isOf, zi_ld, zi_lda, zi_cmp, zi_retOk, zi_isI, zi_f3, zi_cr, zi_ci, zi_cn, zi_get, zi_set, zq_Desk_isWindow, zd_c, E1 F (by omega), c2, c3, zd_g, zd_w hk, zq_Win_fallsUnder, cw, E2 F (by omega)]
      · rw [if_neg (fun q => c3 q.2.2)]
        refine ze_in [(0, .ref 1), (1, .int (nI k)), (2, .int x)] zq_Desk_isOf (Nat.le_of_ble_eq_true rfl) rfl ⟨N1, 11, fun F n hF => ?_⟩
        simp [zg_0, zg_aaload, zg_aload_n, zg_getfield, zg_goto, zg_iconst, zg_ifCond, zg_if_icmp, zg_iload_n, zg_invokevirtual, zg_ireturn, zg_ldc, zf_X5_isOf, zi_ld, zi_lda, zi_cmp, zi_retOk, zi_isI, zi_f3, zi_cr, zi_ci, zi_cn, zi_get, zi_set, zq_Desk_isWindow, zd_c, E1 F (by omega), c2, c3, n4]
  · rw [if_neg c1] at E1
    rw [if_neg (fun q => c1 q.1)]
    refine ze_in [(0, .ref 1), (1, .int (nI k)), (2, .int x)] zq_Desk_isOf (Nat.le_of_ble_eq_true rfl) rfl ⟨N1, 6, fun F n hF => ?_⟩
    simp [zg_0, zg_aaload, zg_aload_n, zg_getfield, zg_goto, zg_iconst, zg_ifCond, zg_if_icmp, zg_iload_n, zg_invokevirtual, zg_ireturn, zg_ldc, zf_X5_isOf, zi_ld, zi_lda, zi_cmp, zi_retOk, zi_isI, zi_f3, zi_cr, zi_ci, zi_cn, zi_get, zi_set, zq_Desk_isWindow, zd_c, E1 F (by omega), n4]
set_option maxRecDepth 100000 in
theorem ze_isOf_out (D : Nat) {w : Int32} (hw : w < 0 ∨ (10 : Int32) ≤ w) (x : Int32) : ze_E (D + 2) A_Desk_isOf [.ref 1, .int w, .int x] (zm_mk μ) (some (.int (-1000000001))) (zm_mk μ) := by
  obtain ⟨N1, E1⟩ := ze_isWindow_out (μ := μ) D hw
  have n4 : Int32.ofInt (-1000000001) = -1000000001 := by decide
  refine ze_in [(0, .ref 1), (1, .int w), (2, .int x)] zq_Desk_isOf (Nat.le_of_ble_eq_true rfl) rfl ⟨N1, 6, fun F n hF => ?_⟩
  simp [zg_0, zg_aaload, zg_aload_n, zg_getfield, zg_goto, zg_iconst, zg_ifCond, zg_if_icmp, zg_iload_n, zg_invokevirtual, zg_ireturn, zg_ldc, zf_X5_isOf, zi_ld, zi_lda, zi_cmp, zi_retOk, zi_isI, zi_f3, zi_cr, zi_ci, zi_cn, zi_get, zi_set, zq_Desk_isWindow, zd_c, E1 F (by omega), n4]
/-- a tiled window's screen, tree and leaf -/
theorem zJ_til (h : zJ μ row stk Rs ts) {k : Nat} (hk : k < 10) (ht : zd_til μ k = true) : ∃ s, s < 3 ∧ μ (zdW k) 5 = nI s ∧ k ∈ Rs s ∧ ∃ n ∈ zy_lvs (ts s), μ (zdT s + 3) k = nI n := by
  obtain ⟨h1, h2⟩ := of_decide_eq_true ht
  obtain ⟨-, -, a3, -, -⟩ := h.2.2.1 k hk (decide_eq_true h1)
  obtain ⟨s, hs, e, -⟩ := a3 (by rw [h2]; decide)
  have hR := ((h.2.2.2.1 s hs).2.1 k).mpr ⟨hk, ht, e⟩
  exact ⟨s, hs, e, hR, (h.2.2.2.1 s hs).1.1.2.2.2.1 k hR⟩
theorem zJ_scr (h : zJ μ row stk Rs ts) {k : Nat} (hk : k < 10) : zd_scr μ k := fun ht => by
  obtain ⟨s, hs, e, -, -⟩ := zJ_til h hk ht
  exact ⟨s, Rs s, ts s, hs, e, (h.2.2.2.1 s hs).1.1⟩
/-- a screen for a window, whatever it is -/
theorem zJ_shw (h : zJ μ row stk Rs ts) {k : Nat} (hk : k < 10) : ∃ s, s < 3 ∧ (zd_til μ k = true → μ (zdW k) 5 = nI s ∧ zt_I μ (zdT s) (Rs s) (ts s) ∧ k ∈ Rs s) := by
  by_cases c : zd_til μ k = true
  · obtain ⟨s, hs, e, hR, -⟩ := zJ_til h hk c
    exact ⟨s, hs, fun _ => ⟨e, (h.2.2.2.1 s hs).1.1, hR⟩⟩
  · exact ⟨0, by decide, fun q => absurd q c⟩
theorem zd_frA_eqv {ν : zm_M} (f : zd_frA μ ν) : zJ_eqv μ ν := fun c hc => f c (fun s hs => by
  unfold zJ_irr at hc
  unfold zdT
  omega)
set_option maxRecDepth 100000 in
theorem ze_area (D : Nat) (h : zJ μ row stk Rs ts) (w x : Int32) : ∃ ν v, ze_E (D + 7) A_Desk_area [.ref 1, .int w, .int x] (zm_mk μ) (some (.int v)) (zm_mk ν) ∧ zJ_eqv μ ν := by
  have n4 : Int32.ofInt (-1000000001) = -1000000001 := by decide
  have n5 : Int32.ofInt (-1000000005) = -1000000005 := by decide
  have hno : ze_E (D + 6) A_Desk_isWindow [.ref 1, .int w] (zm_mk μ) (some (.int 0)) (zm_mk μ) → ∃ ν v, ze_E (D + 7) A_Desk_area [.ref 1, .int w, .int x] (zm_mk μ) (some (.int v)) (zm_mk ν) ∧ zJ_eqv μ ν := by
    rintro ⟨N1, E1⟩
    refine ⟨μ, -1000000001, ze_in [(0, .ref 1), (1, .int w), (2, .int x)] zq_Desk_area (Nat.le_of_ble_eq_true rfl) rfl ⟨N1, 6, fun F n hF => ?_⟩, zJ_eqv.refl⟩
    simp [zg_0, zg_aaload, zg_aload_n, zg_getfield, zg_goto, zg_iconst, zg_ifCond, zg_iload_n, zg_invokevirtual, zg_ireturn, zg_isub, zg_ldc, zg_tableswitch, zf_X5_area, zi_ld, zi_lda, zi_cmp, zi_retOk, zi_isI, zi_f3, zi_cr, zi_ci, zi_cn, zi_get, zi_set, zq_Desk_isWindow, zd_c, E1 F (by omega), n4]
  rcases zd_rng w 10 (by decide) with ⟨k, hk, rfl⟩ | hout
  · have E1 := ze_thW (μ := μ) (D + 5) hk
    by_cases c1 : zd_th μ k = true
    · rw [if_pos c1] at E1
      obtain ⟨N1, E1⟩ := E1
      obtain ⟨ν, ⟨N2, E2⟩, f2, -⟩ := ze_layTrees (μ := μ) D (fun s hs => (h.2.2.2.1 s hs).1)
      have hJ := h.eqv (zd_frA_eqv f2)
      have S0 : ze_S (D + 6) 3 (some .int) zc_X5_area 0 [(0, .ref 1), (1, .int (nI k)), (2, .int x)] [] (zm_mk μ) 16 [(0, .ref 1), (1, .int (nI k)), (2, .int x)] [.int x] (zm_mk ν) := by
        refine ⟨N1 + N2, 7, fun F n hF => ?_⟩
        simp [zg_0, zg_aaload, zg_aload_n, zg_getfield, zg_goto, zg_iconst, zg_ifCond, zg_iload_n, zg_invokevirtual, zg_ireturn, zg_isub, zg_ldc, zg_tableswitch, zf_X5_area, zi_ld, zi_lda, zi_cmp, zi_retOk, zi_isI, zi_f3, zi_cr, zi_ci, zi_cn, zi_get, zi_set, zq_Desk_isWindow, zd_c, E1 F (by omega), zq_Desk_layTrees, E2 F (by omega)]
      refine ⟨ν, ?_⟩
      have fin : ∃ v, ze_G (D + 6) 3 (some .int) zc_X5_area 16 [(0, .ref 1), (1, .int (nI k)), (2, .int x)] [.int x] (zm_mk ν) (some (.int v)) (zm_mk ν) := by
        obtain ⟨v1, N3, E3⟩ := ze_startOf (μ := ν) (D + 3) hk (a := 0) (by decide) (zJ_scr hJ hk)
        obtain ⟨v2, N4, E4⟩ := ze_startOf (μ := ν) (D + 3) hk (a := 1) (by decide) (zJ_scr hJ hk)
        obtain ⟨v3, N5, E5⟩ := ze_lengthOf (μ := ν) (D + 3) hk (a := 0) (by decide) (zJ_scr hJ hk)
        obtain ⟨v4, N6, E6⟩ := ze_lengthOf (μ := ν) (D + 3) hk (a := 1) (by decide) (zJ_scr hJ hk)
        rcases zd_rng x 5 (by decide) with ⟨j, hj, rfl⟩ | ho
        · match j, hj with
          | 0, _ =>
            have t0 : (nI 0).toInt = 0 := by decide
            have cw := zw_c (μ := ν) (zdW_at hk)
            obtain ⟨N7, E7⟩ := ze_stiW (μ := ν) (D + 5) hk
            by_cases c2 : zd_sti ν k = true
            · rw [if_pos c2] at E7
              refine ⟨-1000000005, N7, 10, fun F n hF => ?_⟩
              simp [zg_0, zg_aaload, zg_aload_n, zg_getfield, zg_goto, zg_iconst, zg_ifCond, zg_iload_n, zg_invokevirtual, zg_ireturn, zg_isub, zg_ldc, zg_tableswitch, zf_X5_area, zi_ld, zi_lda, zi_cmp, zi_retOk, zi_isI, zi_f3, zi_cr, zi_ci, zi_cn, zi_get, zi_set, t0, zd_g, zd_w hk, zq_Win_isSticky, cw, E7 F (by omega), n5]
            · rw [if_neg c2] at E7
              refine ⟨ν (zdW k) 5, N7, 13, fun F n hF => ?_⟩
              simp [zg_0, zg_aaload, zg_aload_n, zg_getfield, zg_goto, zg_iconst, zg_ifCond, zg_iload_n, zg_invokevirtual, zg_ireturn, zg_isub, zg_ldc, zg_tableswitch, zf_X5_area, zi_ld, zi_lda, zi_cmp, zi_retOk, zi_isI, zi_f3, zi_cr, zi_ci, zi_cn, zi_get, zi_set, t0, zd_g, zd_w hk, zw_g (zdW_at hk), zq_Win_isSticky, cw, E7 F (by omega)]
          | 1, _ =>
            have t0 : (nI 1).toInt = 1 := by decide
            have hm : nI 1 - 1 = nI 0 := by decide
            refine ⟨v1, N3, 8, fun F n hF => ?_⟩
            simp [zg_0, zg_aaload, zg_aload_n, zg_getfield, zg_goto, zg_iconst, zg_ifCond, zg_iload_n, zg_invokevirtual, zg_ireturn, zg_isub, zg_ldc, zg_tableswitch, zf_X5_area, zi_ld, zi_lda, zi_cmp, zi_retOk, zi_isI, zi_f3, zi_cr, zi_ci, zi_cn, zi_get, zi_set, t0, hm, zq_Desk_startOf, zd_c, E3 F (by omega)]
          | 2, _ =>
            have t0 : (nI 2).toInt = 2 := by decide
            have hm : nI 2 - 1 = nI 1 := by decide
            refine ⟨v2, N4, 8, fun F n hF => ?_⟩
            simp [zg_0, zg_aaload, zg_aload_n, zg_getfield, zg_goto, zg_iconst, zg_ifCond, zg_iload_n, zg_invokevirtual, zg_ireturn, zg_isub, zg_ldc, zg_tableswitch, zf_X5_area, zi_ld, zi_lda, zi_cmp, zi_retOk, zi_isI, zi_f3, zi_cr, zi_ci, zi_cn, zi_get, zi_set, t0, hm, zq_Desk_startOf, zd_c, E4 F (by omega)]
          | 3, _ =>
            have t0 : (nI 3).toInt = 3 := by decide
            have hm : nI 3 - 3 = nI 0 := by decide
            refine ⟨v3, N5, 8, fun F n hF => ?_⟩
            simp [zg_0, zg_aaload, zg_aload_n, zg_getfield, zg_goto, zg_iconst, zg_ifCond, zg_iload_n, zg_invokevirtual, zg_ireturn, zg_isub, zg_ldc, zg_tableswitch, zf_X5_area, zi_ld, zi_lda, zi_cmp, zi_retOk, zi_isI, zi_f3, zi_cr, zi_ci, zi_cn, zi_get, zi_set, t0, hm, zq_Desk_lengthOf, zd_c, E5 F (by omega)]
          | 4, _ =>
            have t0 : (nI 4).toInt = 4 := by decide
            have hm : nI 4 - 3 = nI 1 := by decide
            refine ⟨v4, N6, 8, fun F n hF => ?_⟩
            simp [zg_0, zg_aaload, zg_aload_n, zg_getfield, zg_goto, zg_iconst, zg_ifCond, zg_iload_n, zg_invokevirtual, zg_ireturn, zg_isub, zg_ldc, zg_tableswitch, zf_X5_area, zi_ld, zi_lda, zi_cmp, zi_retOk, zi_isI, zi_f3, zi_cr, zi_ci, zi_cn, zi_get, zi_set, t0, hm, zq_Desk_lengthOf, zd_c, E6 F (by omega)]
        · have ho' : x.toInt < 0 ∨ 4 < x.toInt := by
            rcases ho with q | q
            · left
              exact Int32.lt_iff_toInt_lt.mp q
            · right
              have := Int32.le_iff_toInt_le.mp q
              rw [show (nI 5).toInt = 5 by decide] at this
              omega
          refine ⟨-1000000001, 0, 3, fun F n hF => ?_⟩
          simp [zg_0, zg_aaload, zg_aload_n, zg_getfield, zg_goto, zg_iconst, zg_ifCond, zg_iload_n, zg_invokevirtual, zg_ireturn, zg_isub, zg_ldc, zg_tableswitch, zf_X5_area, zi_ld, zi_lda, zi_cmp, zi_retOk, zi_isI, zi_f3, zi_cr, zi_ci, zi_cn, zi_get, zi_set, ho', n4]
      obtain ⟨v, G⟩ := fin
      exact ⟨v, ze_in [(0, .ref 1), (1, .int (nI k)), (2, .int x)] zq_Desk_area (Nat.le_of_ble_eq_true rfl) rfl (S0.end G), zd_frA_eqv f2⟩
    · rw [if_neg c1] at E1
      exact hno E1
  · exact hno (ze_isWindow_out (D + 5) hout)
end ZQ1
end
section
/-! the desk's questions: about, told, count, neighbour -/
section ZQ2
variable {μ : zm_M} {row stk : List Nat} {Rs : Nat → List Nat} {ts : Nat → zy_F}
theorem zd_sw {x : Int32} {n : Nat} (hn : n < 2 ^ 31) (h : x < 0 ∨ nI n ≤ x) : x.toInt < 0 ∨ (n : Int) ≤ x.toInt := by
  rcases h with q | q
  · left
    exact Int32.lt_iff_toInt_lt.mp q
  · right
    have := Int32.le_iff_toInt_le.mp q
    rw [nI_toInt hn] at this
    exact this
theorem zJ_rowL (h : zJ μ row stk Rs ts) : zr_L μ 3 row ∧ (∀ j ∈ row, j < 10) ∧ zr_L μ 5 stk ∧ (∀ j ∈ stk, j < 10) := ⟨h.1.1, fun j hj => ((h.1.2.2 j).mp hj).1, h.2.1.1, h.2.1.2.2⟩
set_option maxRecDepth 100000 in
theorem ze_about (D : Nat) (h : zJ μ row stk Rs ts) (w x : Int32) : ∃ v, ze_E (D + 4) A_Desk_about [.ref 1, .int w, .int x] (zm_mk μ) (some (.int v)) (zm_mk μ) := by
  have n4 : Int32.ofInt (-1000000001) = -1000000001 := by decide
  have n5 : Int32.ofInt (-1000000005) = -1000000005 := by decide
  obtain ⟨hr1, hr2, hs1, hs2⟩ := zJ_rowL h
  have hno : ze_E (D + 3) A_Desk_isWindow [.ref 1, .int w] (zm_mk μ) (some (.int 0)) (zm_mk μ) → ∃ v, ze_E (D + 4) A_Desk_about [.ref 1, .int w, .int x] (zm_mk μ) (some (.int v)) (zm_mk μ) := by
    rintro ⟨N1, E1⟩
    refine ⟨-1000000001, ze_in [(0, .ref 1), (1, .int w), (2, .int x)] zq_Desk_about (Nat.le_of_ble_eq_true rfl) rfl ⟨N1, 6, fun F n hF => ?_⟩⟩
    simp [zg_0, zg_aaload, zg_aload_n, zg_astore_n, zg_getfield, zg_goto, zg_iaload, zg_iconst, zg_ifCond, zg_iload_n, zg_invokevirtual, zg_ireturn, zg_isub, zg_ldc, zg_tableswitch, zf_X5_about, zi_ld, zi_lda, zi_cmp, zi_retOk, zi_isI, zi_f3, zi_cr, zi_ci, zi_cn, zi_get, zi_set, zq_Desk_isWindow, zd_c, E1 F (by omega), n4]
  rcases zd_rng w 10 (by decide) with ⟨k, hk, rfl⟩ | hout
  · have E1 := ze_thW (μ := μ) (D + 2) hk
    by_cases c1 : zd_th μ k = true
    · rw [if_pos c1] at E1
      obtain ⟨N1, E1⟩ := E1
      have cw := zw_c (μ := μ) (zdW_at hk)
      have S0 : ze_S (D + 3) 4 (some .int) zc_X5_about 0 [(0, .ref 1), (1, .int (nI k)), (2, .int x)] [] (zm_mk μ) 19 [(3, .ref (zdW k + 1)), (0, .ref 1), (1, .int (nI k)), (2, .int x)] [.int x] (zm_mk μ) := by
        refine ⟨N1, 10, fun F n hF => ?_⟩
        simp [zg_0, zg_aaload, zg_aload_n, zg_astore_n, zg_getfield, zg_goto, zg_iaload, zg_iconst, zg_ifCond, zg_iload_n, zg_invokevirtual, zg_ireturn, zg_isub, zg_ldc, zg_tableswitch, zf_X5_about, zi_ld, zi_lda, zi_cmp, zi_retOk, zi_isI, zi_f3, zi_cr, zi_ci, zi_cn, zi_get, zi_set, zq_Desk_isWindow, zd_c, E1 F (by omega), zd_g, zd_w hk]
      have fin : ∃ v, ze_G (D + 3) 4 (some .int) zc_X5_about 19 [(3, .ref (zdW k + 1)), (0, .ref 1), (1, .int (nI k)), (2, .int x)] [.int x] (zm_mk μ) (some (.int v)) (zm_mk μ) := by
        have w1 := (zdW_at hk).2.1
        rcases zd_rng x 7 (by decide) with ⟨j, hj, rfl⟩ | ho
        · match j, hj with
          | 0, _ =>
            have t0 : (nI 0).toInt = 0 := by decide
            refine ⟨μ (zdW k) 3, 0, 4, fun F n hF => ?_⟩
            simp [zg_0, zg_aaload, zg_aload_n, zg_astore_n, zg_getfield, zg_goto, zg_iaload, zg_iconst, zg_ifCond, zg_iload_n, zg_invokevirtual, zg_ireturn, zg_isub, zg_ldc, zg_tableswitch, zf_X5_about, zi_ld, zi_lda, zi_cmp, zi_retOk, zi_isI, zi_f3, zi_cr, zi_ci, zi_cn, zi_get, zi_set, t0, zw_g (zdW_at hk)]
          | 1, _ =>
            have t0 : (nI 1).toInt = 1 := by decide
            have hm : nI 1 - 1 = 0 := by decide
            refine ⟨μ (zdW k + 1) 0, 0, 8, fun F n hF => ?_⟩
            simp [zg_0, zg_aaload, zg_aload_n, zg_astore_n, zg_getfield, zg_goto, zg_iaload, zg_iconst, zg_ifCond, zg_iload_n, zg_invokevirtual, zg_ireturn, zg_isub, zg_ldc, zg_tableswitch, zf_X5_about, zi_ld, zi_lda, zi_cmp, zi_retOk, zi_isI, zi_f3, zi_cr, zi_ci, zi_cn, zi_get, zi_set, t0, hm, zw_g (zdW_at hk), zm_iald (k := 0) w1 zm_in0, zm_cl0]
          | 2, _ =>
            have t0 : (nI 2).toInt = 2 := by decide
            have hm : nI 2 - 1 = 1 := by decide
            refine ⟨μ (zdW k + 1) 1, 0, 8, fun F n hF => ?_⟩
            simp [zg_0, zg_aaload, zg_aload_n, zg_astore_n, zg_getfield, zg_goto, zg_iaload, zg_iconst, zg_ifCond, zg_iload_n, zg_invokevirtual, zg_ireturn, zg_isub, zg_ldc, zg_tableswitch, zf_X5_about, zi_ld, zi_lda, zi_cmp, zi_retOk, zi_isI, zi_f3, zi_cr, zi_ci, zi_cn, zi_get, zi_set, t0, hm, zw_g (zdW_at hk), zm_iald (k := 0) w1 zm_in1, zm_cl1]
          | 3, _ =>
            have t0 : (nI 3).toInt = 3 := by decide
            by_cases c2 : (0 : Int32) ≤ μ (zdW k) 4
            · refine ⟨μ (zdW k) 4, 0, 7, fun F n hF => ?_⟩
              simp [zg_0, zg_aaload, zg_aload_n, zg_astore_n, zg_getfield, zg_goto, zg_iaload, zg_iconst, zg_ifCond, zg_iload_n, zg_invokevirtual, zg_ireturn, zg_isub, zg_ldc, zg_tableswitch, zf_X5_about, zi_ld, zi_lda, zi_cmp, zi_retOk, zi_isI, zi_f3, zi_cr, zi_ci, zi_cn, zi_get, zi_set, t0, zw_g (zdW_at hk), c2]
            · refine ⟨-1000000005, 0, 7, fun F n hF => ?_⟩
              simp [zg_0, zg_aaload, zg_aload_n, zg_astore_n, zg_getfield, zg_goto, zg_iaload, zg_iconst, zg_ifCond, zg_iload_n, zg_invokevirtual, zg_ireturn, zg_isub, zg_ldc, zg_tableswitch, zf_X5_about, zi_ld, zi_lda, zi_cmp, zi_retOk, zi_isI, zi_f3, zi_cr, zi_ci, zi_cn, zi_get, zi_set, t0, zw_g (zdW_at hk), c2, n5]
          | 4, _ =>
            have t0 : (nI 4).toInt = 4 := by decide
            obtain ⟨N2, E2⟩ := ze_floW (μ := μ) (D + 2) hk
            by_cases c2 : zd_flo μ k = true
            · rw [if_pos c2] at E2
              refine ⟨1, N2, 7, fun F n hF => ?_⟩
              simp [zg_0, zg_aaload, zg_aload_n, zg_astore_n, zg_getfield, zg_goto, zg_iaload, zg_iconst, zg_ifCond, zg_iload_n, zg_invokevirtual, zg_ireturn, zg_isub, zg_ldc, zg_tableswitch, zf_X5_about, zi_ld, zi_lda, zi_cmp, zi_retOk, zi_isI, zi_f3, zi_cr, zi_ci, zi_cn, zi_get, zi_set, t0, zq_Win_isFloating, cw, E2 F (by omega)]
            · rw [if_neg c2] at E2
              obtain ⟨s, hs, hsc⟩ := zJ_shw h hk
              obtain ⟨N3, E3⟩ := ze_isShownTile (μ := μ) D hk hs (fun q => ⟨(hsc q).1, (hsc q).2.1⟩)
              by_cases c3 : zd_til μ k = true ∧ (¬ μ (zdT s + 3) k < 0 ∧ μ (zdT s + 12) (μ (zdT s + 3) k).toNatClampNeg = nI k)
              · rw [if_pos c3] at E3
                refine ⟨1, N2 + N3, 11, fun F n hF => ?_⟩
                simp [zg_0, zg_aaload, zg_aload_n, zg_astore_n, zg_getfield, zg_goto, zg_iaload, zg_iconst, zg_ifCond, zg_iload_n, zg_invokevirtual, zg_ireturn, zg_isub, zg_ldc, zg_tableswitch, zf_X5_about, zi_ld, zi_lda, zi_cmp, zi_retOk, zi_isI, zi_f3, zi_cr, zi_ci, zi_cn, zi_get, zi_set, t0, zq_Win_isFloating, cw, E2 F (by omega), zq_Desk_isShownTile, zd_c, E3 F (by omega)]
              · rw [if_neg c3] at E3
                refine ⟨0, N2 + N3, 10, fun F n hF => ?_⟩
                simp [zg_0, zg_aaload, zg_aload_n, zg_astore_n, zg_getfield, zg_goto, zg_iaload, zg_iconst, zg_ifCond, zg_iload_n, zg_invokevirtual, zg_ireturn, zg_isub, zg_ldc, zg_tableswitch, zf_X5_about, zi_ld, zi_lda, zi_cmp, zi_retOk, zi_isI, zi_f3, zi_cr, zi_ci, zi_cn, zi_get, zi_set, t0, zq_Win_isFloating, cw, E2 F (by omega), zq_Desk_isShownTile, zd_c, E3 F (by omega)]
          | 5, _ =>
            have t0 : (nI 5).toInt = 5 := by decide
            obtain ⟨N2, E2⟩ := ze_Row_placeOf (μ := μ) (D + 2) zd3_at hr1 hr2 hk
            have cr := zr_c (μ := μ) zd3_at
            generalize zr_ix row k 0 = v at E2
            refine ⟨v, N2, 6, fun F n hF => ?_⟩
            simp [zg_0, zg_aaload, zg_aload_n, zg_astore_n, zg_getfield, zg_goto, zg_iaload, zg_iconst, zg_ifCond, zg_iload_n, zg_invokevirtual, zg_ireturn, zg_isub, zg_ldc, zg_tableswitch, zf_X5_about, zi_ld, zi_lda, zi_cmp, zi_retOk, zi_isI, zi_f3, zi_cr, zi_ci, zi_cn, zi_get, zi_set, t0, zd_g, zq_Row_placeOf, cr, E2 F (by omega)]
          | 6, _ =>
            have t0 : (nI 6).toInt = 6 := by decide
            obtain ⟨N2, E2⟩ := ze_floW (μ := μ) (D + 2) hk
            by_cases c2 : zd_flo μ k = true
            · rw [if_pos c2] at E2
              obtain ⟨N3, E3⟩ := ze_Row_placeOf (μ := μ) (D + 2) zd5_at hs1 hs2 hk
              have cr := zr_c (μ := μ) zd5_at
              generalize zr_ix stk k 0 = v at E3
              refine ⟨v, N2 + N3, 10, fun F n hF => ?_⟩
              simp [zg_0, zg_aaload, zg_aload_n, zg_astore_n, zg_getfield, zg_goto, zg_iaload, zg_iconst, zg_ifCond, zg_iload_n, zg_invokevirtual, zg_ireturn, zg_isub, zg_ldc, zg_tableswitch, zf_X5_about, zi_ld, zi_lda, zi_cmp, zi_retOk, zi_isI, zi_f3, zi_cr, zi_ci, zi_cn, zi_get, zi_set, t0, zq_Win_isFloating, cw, E2 F (by omega), zd_g, zq_Row_placeOf, cr, E3 F (by omega)]
            · rw [if_neg c2] at E2
              refine ⟨-1000000005, N2, 6, fun F n hF => ?_⟩
              simp [zg_0, zg_aaload, zg_aload_n, zg_astore_n, zg_getfield, zg_goto, zg_iaload, zg_iconst, zg_ifCond, zg_iload_n, zg_invokevirtual, zg_ireturn, zg_isub, zg_ldc, zg_tableswitch, zf_X5_about, zi_ld, zi_lda, zi_cmp, zi_retOk, zi_isI, zi_f3, zi_cr, zi_ci, zi_cn, zi_get, zi_set, t0, zq_Win_isFloating, cw, E2 F (by omega), n5]
        · have ho' : x.toInt < 0 ∨ 6 < x.toInt := by
            rcases zd_sw (by decide) ho with q | q
            · exact Or.inl q
            · right; omega
          refine ⟨-1000000001, 0, 3, fun F n hF => ?_⟩
          simp [zg_0, zg_aaload, zg_aload_n, zg_astore_n, zg_getfield, zg_goto, zg_iaload, zg_iconst, zg_ifCond, zg_iload_n, zg_invokevirtual, zg_ireturn, zg_isub, zg_ldc, zg_tableswitch, zf_X5_about, zi_ld, zi_lda, zi_cmp, zi_retOk, zi_isI, zi_f3, zi_cr, zi_ci, zi_cn, zi_get, zi_set, ho', n4]
      obtain ⟨v, G⟩ := fin
      exact ⟨v, ze_in [(0, .ref 1), (1, .int (nI k)), (2, .int x)] zq_Desk_about (Nat.le_of_ble_eq_true rfl) rfl (S0.end G)⟩
    · rw [if_neg c1] at E1
      exact hno E1
  · exact hno (ze_isWindow_out (D + 2) hout)
set_option maxRecDepth 100000 in
theorem ze_count (D : Nat) (h : zJ μ row stk Rs ts) (x : Int32) : ∃ v, ze_E (D + 3) A_Desk_count [.ref 1, .int x] (zm_mk μ) (some (.int v)) (zm_mk μ) := by
  have n4 : Int32.ofInt (-1000000001) = -1000000001 := by decide
  have n5 : Int32.ofInt (-1000000005) = -1000000005 := by decide
  obtain ⟨hr1, hr2, hs1, hs2⟩ := zJ_rowL h
  rcases zd_rng x 6 (by decide) with ⟨j, hj, rfl⟩ | ho
  · match j, hj with
    | 0, _ =>
      have t0 : (nI 0).toInt = 0 := by decide
      obtain ⟨v, N1, E1⟩ := ze_screensThere (μ := μ) (D + 1)
      refine ⟨v, ze_in [(0, .ref 1), (1, .int (nI 0))] zq_Desk_count (Nat.le_of_ble_eq_true rfl) rfl ⟨N1, 5, fun F n hF => ?_⟩⟩
      simp [zg_0, zg_aload_n, zg_getfield, zg_goto, zg_iconst, zg_ifCond, zg_iload_n, zg_invokevirtual, zg_ireturn, zg_ldc, zg_tableswitch, zf_X5_count, zi_ld, zi_lda, zi_cmp, zi_retOk, zi_isI, zi_f3, zi_cr, zi_ci, zi_cn, zi_get, zi_set, t0, zq_Desk_screensThere, zd_c, E1 F (by omega)]
    | 1, _ =>
      have t0 : (nI 1).toInt = 1 := by decide
      obtain ⟨v, N1, E1⟩ := ze_windowsUnder (μ := μ) D 0
      refine ⟨v, ze_in [(0, .ref 1), (1, .int (nI 1))] zq_Desk_count (Nat.le_of_ble_eq_true rfl) rfl ⟨N1, 6, fun F n hF => ?_⟩⟩
      simp [zg_0, zg_aload_n, zg_getfield, zg_goto, zg_iconst, zg_ifCond, zg_iload_n, zg_invokevirtual, zg_ireturn, zg_ldc, zg_tableswitch, zf_X5_count, zi_ld, zi_lda, zi_cmp, zi_retOk, zi_isI, zi_f3, zi_cr, zi_ci, zi_cn, zi_get, zi_set, t0, zq_Desk_windowsUnder, zd_c, E1 F (by omega)]
    | 2, _ =>
      have t0 : (nI 2).toInt = 2 := by decide
      obtain ⟨v, N1, E1⟩ := ze_windowsUnder (μ := μ) D 1
      refine ⟨v, ze_in [(0, .ref 1), (1, .int (nI 2))] zq_Desk_count (Nat.le_of_ble_eq_true rfl) rfl ⟨N1, 6, fun F n hF => ?_⟩⟩
      simp [zg_0, zg_aload_n, zg_getfield, zg_goto, zg_iconst, zg_ifCond, zg_iload_n, zg_invokevirtual, zg_ireturn, zg_ldc, zg_tableswitch, zf_X5_count, zi_ld, zi_lda, zi_cmp, zi_retOk, zi_isI, zi_f3, zi_cr, zi_ci, zi_cn, zi_get, zi_set, t0, zq_Desk_windowsUnder, zd_c, E1 F (by omega)]
    | 3, _ =>
      have t0 : (nI 3).toInt = 3 := by decide
      obtain ⟨v, N1, E1⟩ := ze_windowsUnder (μ := μ) D 2
      refine ⟨v, ze_in [(0, .ref 1), (1, .int (nI 3))] zq_Desk_count (Nat.le_of_ble_eq_true rfl) rfl ⟨N1, 6, fun F n hF => ?_⟩⟩
      simp [zg_0, zg_aload_n, zg_getfield, zg_goto, zg_iconst, zg_ifCond, zg_iload_n, zg_invokevirtual, zg_ireturn, zg_ldc, zg_tableswitch, zf_X5_count, zi_ld, zi_lda, zi_cmp, zi_retOk, zi_isI, zi_f3, zi_cr, zi_ci, zi_cn, zi_get, zi_set, t0, zq_Desk_windowsUnder, zd_c, E1 F (by omega)]
    | 4, _ =>
      have t0 : (nI 4).toInt = 4 := by decide
      obtain ⟨N1, E1⟩ := ze_Row_sizeL (μ := μ) (D + 1) zd3_at hr1
      have cr := zr_c (μ := μ) zd3_at
      by_cases c : row.length = 0
      · have e : nI row.length = 0 := by rw [c]; exact nI_0
        rw [e] at E1
        refine ⟨-1000000005, ze_in [(0, .ref 1), (1, .int (nI 4))] zq_Desk_count (Nat.le_of_ble_eq_true rfl) rfl ⟨N1, 9, fun F n hF => ?_⟩⟩
        simp [zg_0, zg_aload_n, zg_getfield, zg_goto, zg_iconst, zg_ifCond, zg_iload_n, zg_invokevirtual, zg_ireturn, zg_ldc, zg_tableswitch, zf_X5_count, zi_ld, zi_lda, zi_cmp, zi_retOk, zi_isI, zi_f3, zi_cr, zi_ci, zi_cn, zi_get, zi_set, t0, zd_g, zq_Row_size, cr, E1 F (by omega), n5]
      · obtain ⟨N2, E2⟩ := ze_Row_getL (μ := μ) (i := 0) (D + 1) zd3_at hr1 (by omega)
        rw [nI_0] at E2
        have hl := hr1.1
        have e : ¬ nI row.length = 0 := fun q => c ((nI_eq (b := 0) (by omega) (by decide)).mp q)
        generalize row.getD 0 0 = v at E2
        refine ⟨nI v, ze_in [(0, .ref 1), (1, .int (nI 4))] zq_Desk_count (Nat.le_of_ble_eq_true rfl) rfl ⟨N1 + N2, 11, fun F n hF => ?_⟩⟩
        simp [zg_0, zg_aload_n, zg_getfield, zg_goto, zg_iconst, zg_ifCond, zg_iload_n, zg_invokevirtual, zg_ireturn, zg_ldc, zg_tableswitch, zf_X5_count, zi_ld, zi_lda, zi_cmp, zi_retOk, zi_isI, zi_f3, zi_cr, zi_ci, zi_cn, zi_get, zi_set, t0, zd_g, zq_Row_size, cr, E1 F (by omega), e, zq_Row_get, E2 F (by omega)]
    | 5, _ =>
      have t0 : (nI 5).toInt = 5 := by decide
      obtain ⟨v, N1, E1⟩ := ze_screensWithKept (μ := μ) (D + 1)
      refine ⟨v, ze_in [(0, .ref 1), (1, .int (nI 5))] zq_Desk_count (Nat.le_of_ble_eq_true rfl) rfl ⟨N1, 5, fun F n hF => ?_⟩⟩
      simp [zg_0, zg_aload_n, zg_getfield, zg_goto, zg_iconst, zg_ifCond, zg_iload_n, zg_invokevirtual, zg_ireturn, zg_ldc, zg_tableswitch, zf_X5_count, zi_ld, zi_lda, zi_cmp, zi_retOk, zi_isI, zi_f3, zi_cr, zi_ci, zi_cn, zi_get, zi_set, t0, zq_Desk_screensWithKept, zd_c, E1 F (by omega)]
  · have ho' : x.toInt < 0 ∨ 5 < x.toInt := by
      rcases zd_sw (by decide) ho with q | q
      · exact Or.inl q
      · right; omega
    refine ⟨-1000000001, ze_in [(0, .ref 1), (1, .int x)] zq_Desk_count (Nat.le_of_ble_eq_true rfl) rfl ⟨0, 4, fun F n hF => ?_⟩⟩
    simp [zg_0, zg_aload_n, zg_getfield, zg_goto, zg_iconst, zg_ifCond, zg_iload_n, zg_invokevirtual, zg_ireturn, zg_ldc, zg_tableswitch, zf_X5_count, zi_ld, zi_lda, zi_cmp, zi_retOk, zi_isI, zi_f3, zi_cr, zi_ci, zi_cn, zi_get, zi_set, ho', n4]
end ZQ2
end
section
/-! the desk's questions: told, tab, neighbour -/
section ZQ3
variable {μ : zm_M} {row stk : List Nat} {Rs : Nat → List Nat} {ts : Nat → zy_F}
set_option maxRecDepth 100000 in
theorem ze_told (D : Nat) (h : zJ μ row stk Rs ts) (w x : Int32) : ∃ v, ze_E (D + 4) A_Desk_told [.ref 1, .int w, .int x] (zm_mk μ) (some (.int v)) (zm_mk μ) := by
  have n4 : Int32.ofInt (-1000000001) = -1000000001 := by decide
  have n2 : Int32.ofInt (-1000000002) = -1000000002 := by decide
  have h6 : (Int8.ofInt 6).toInt32 = (6 : Int32) := by decide
  rcases zd_rng w 3 (by decide) with ⟨s, hs, rfl⟩ | hout
  · obtain ⟨N1, E1⟩ := ze_isScreen_in (h := zm_mk μ) (D + 2) hs
    rcases zd_rng x 7 (by decide) with ⟨j, hj, rfl⟩ | ho
    · have c1 : ¬ nI j < 0 := nI_pos (by omega)
      have c2 : nI j ≤ 6 := nI_le (b := 6) (by omega) (by decide)
      by_cases c3 : μ (zdS s) 3 = 0
      · refine ⟨-1000000002, ze_in [(0, .ref 1), (1, .int (nI s)), (2, .int (nI j))] zq_Desk_told (Nat.le_of_ble_eq_true rfl) rfl ⟨N1, 18, fun F n hF => ?_⟩⟩
        simp [zg_0, zg_aaload, zg_aload_n, zg_astore_n, zg_bipush, zg_getfield, zg_iaload, zg_iconst, zg_ifCond, zg_if_icmp, zg_iload_n, zg_invokestatic, zg_invokevirtual, zg_ireturn, zg_isub, zg_ldc, zg_tableswitch, zf_X5_told, zi_ld, zi_lda, zi_cmp, zi_retOk, zi_isI, zi_f3, zi_cr, zi_ci, zi_cn, zi_get, zi_set, zq_Desk_isScreen, E1 F (by omega), c1, c2, h6, zd_g, zd_s hs, zdS_g hs, c3, n2]
      · have S0 : ze_S (D + 3) 4 (some .int) zc_X5_told 0 [(0, .ref 1), (1, .int (nI s)), (2, .int (nI j))] [] (zm_mk μ) 38 [(3, .ref (zdS s + 1)), (0, .ref 1), (1, .int (nI s)), (2, .int (nI j))] [.int (nI j)] (zm_mk μ) := by
          refine ⟨N1, 17, fun F n hF => ?_⟩
          simp [zg_0, zg_aaload, zg_aload_n, zg_astore_n, zg_bipush, zg_getfield, zg_iaload, zg_iconst, zg_ifCond, zg_if_icmp, zg_iload_n, zg_invokestatic, zg_invokevirtual, zg_ireturn, zg_isub, zg_ldc, zg_tableswitch, zf_X5_told, zi_ld, zi_lda, zi_cmp, zi_retOk, zi_isI, zi_f3, zi_cr, zi_ci, zi_cn, zi_get, zi_set, zq_Desk_isScreen, E1 F (by omega), c1, c2, h6, zd_g, zd_s hs, zdS_g hs, c3]
        obtain ⟨lt, ct⟩ := zt_c (μ := μ) (zdT_at hs)
        have fin : ∃ v, ze_G (D + 3) 4 (some .int) zc_X5_told 38 [(3, .ref (zdS s + 1)), (0, .ref 1), (1, .int (nI s)), (2, .int (nI j))] [.int (nI j)] (zm_mk μ) (some (.int v)) (zm_mk μ) := by
          match j, hj with
          | 0, _ =>
            have t0 : (nI 0).toInt = 0 := by decide
            have e0 : nI 0 = 0 := nI_0
            refine ⟨μ (zdZ s) 0, 0, 6, fun F n hF => ?_⟩
            simp [zg_0, zg_aaload, zg_aload_n, zg_astore_n, zg_bipush, zg_getfield, zg_iaload, zg_iconst, zg_ifCond, zg_if_icmp, zg_iload_n, zg_invokestatic, zg_invokevirtual, zg_ireturn, zg_isub, zg_ldc, zg_tableswitch, zf_X5_told, zi_ld, zi_lda, zi_cmp, zi_retOk, zi_isI, zi_f3, zi_cr, zi_ci, zi_cn, zi_get, zi_set, t0, zdS_g hs]
            rw [e0]
            simp [zm_iald (k := 0) (zdZ_A hs) zm_in0, zm_cl0, zg_0, zg_aaload, zg_aload_n, zg_astore_n, zg_bipush, zg_getfield, zg_iaload, zg_iconst, zg_ifCond, zg_if_icmp, zg_iload_n, zg_invokestatic, zg_invokevirtual, zg_ireturn, zg_isub, zg_ldc, zg_tableswitch, zf_X5_told, zi_ld, zi_lda, zi_cmp, zi_retOk, zi_isI, zi_f3, zi_cr, zi_ci, zi_cn]
          | 1, _ =>
            have t0 : (nI 1).toInt = 1 := by decide
            have e0 : nI 1 = 1 := by decide
            refine ⟨μ (zdZ s) 1, 0, 6, fun F n hF => ?_⟩
            simp [zg_0, zg_aaload, zg_aload_n, zg_astore_n, zg_bipush, zg_getfield, zg_iaload, zg_iconst, zg_ifCond, zg_if_icmp, zg_iload_n, zg_invokestatic, zg_invokevirtual, zg_ireturn, zg_isub, zg_ldc, zg_tableswitch, zf_X5_told, zi_ld, zi_lda, zi_cmp, zi_retOk, zi_isI, zi_f3, zi_cr, zi_ci, zi_cn, zi_get, zi_set, t0, zdS_g hs]
            rw [e0]
            simp [zm_iald (k := 0) (zdZ_A hs) zm_in1, zm_cl1, zg_0, zg_aaload, zg_aload_n, zg_astore_n, zg_bipush, zg_getfield, zg_iaload, zg_iconst, zg_ifCond, zg_if_icmp, zg_iload_n, zg_invokestatic, zg_invokevirtual, zg_ireturn, zg_isub, zg_ldc, zg_tableswitch, zf_X5_told, zi_ld, zi_lda, zi_cmp, zi_retOk, zi_isI, zi_f3, zi_cr, zi_ci, zi_cn]
          | 2, _ =>
            have t0 : (nI 2).toInt = 2 := by decide
            obtain ⟨N2, E2⟩ := ze_Tree_leaves (μ := μ) (D + 2) (zdT_at hs)
            generalize (μ (zdT s) 12 + 1) / 2 = v at E2
            refine ⟨v, N2, 5, fun F n hF => ?_⟩
            simp [zg_0, zg_aaload, zg_aload_n, zg_astore_n, zg_bipush, zg_getfield, zg_iaload, zg_iconst, zg_ifCond, zg_if_icmp, zg_iload_n, zg_invokestatic, zg_invokevirtual, zg_ireturn, zg_isub, zg_ldc, zg_tableswitch, zf_X5_told, zi_ld, zi_lda, zi_cmp, zi_retOk, zi_isI, zi_f3, zi_cr, zi_ci, zi_cn, zi_get, zi_set, t0, zdS_g hs, zq_Tree_leaves, ct, E2 F (by omega)]
          | 3, _ =>
            have t0 : (nI 3).toInt = 3 := by decide
            obtain ⟨N2, E2⟩ := ze_Tree_cuts (μ := μ) (D + 2) (zdT_at hs)
            generalize μ (zdT s) 12 / 2 = v at E2
            refine ⟨v, N2, 5, fun F n hF => ?_⟩
            simp [zg_0, zg_aaload, zg_aload_n, zg_astore_n, zg_bipush, zg_getfield, zg_iaload, zg_iconst, zg_ifCond, zg_if_icmp, zg_iload_n, zg_invokestatic, zg_invokevirtual, zg_ireturn, zg_isub, zg_ldc, zg_tableswitch, zf_X5_told, zi_ld, zi_lda, zi_cmp, zi_retOk, zi_isI, zi_f3, zi_cr, zi_ci, zi_cn, zi_get, zi_set, t0, zdS_g hs, zq_Tree_cuts, ct, E2 F (by omega)]
          | 4, _ =>
            have t0 : (nI 4).toInt = 4 := by decide
            have hm : nI 4 - 4 = nI 0 := by decide
            obtain ⟨N2, E2⟩ := ze_Tree_leastOf (μ := μ) (D + 2) (zdT_at hs) (a := 0) (by decide) (zt_root_in (h.2.2.2.1 s hs).1.1)
            generalize (if μ (zdT s) 9 < 0 then 0 else μ (zdT s + 16 + 0) (μ (zdT s) 9).toNatClampNeg) = v at E2
            refine ⟨v, N2, 8, fun F n hF => ?_⟩
            simp [zg_0, zg_aaload, zg_aload_n, zg_astore_n, zg_bipush, zg_getfield, zg_iaload, zg_iconst, zg_ifCond, zg_if_icmp, zg_iload_n, zg_invokestatic, zg_invokevirtual, zg_ireturn, zg_isub, zg_ldc, zg_tableswitch, zf_X5_told, zi_ld, zi_lda, zi_cmp, zi_retOk, zi_isI, zi_f3, zi_cr, zi_ci, zi_cn, zi_get, zi_set, t0, hm, zdS_g hs, zq_Tree_leastOf, ct, E2 F (by omega)]
          | 5, _ =>
            have t0 : (nI 5).toInt = 5 := by decide
            have hm : nI 5 - 4 = nI 1 := by decide
            obtain ⟨N2, E2⟩ := ze_Tree_leastOf (μ := μ) (D + 2) (zdT_at hs) (a := 1) (by decide) (zt_root_in (h.2.2.2.1 s hs).1.1)
            generalize (if μ (zdT s) 9 < 0 then 0 else μ (zdT s + 16 + 1) (μ (zdT s) 9).toNatClampNeg) = v at E2
            refine ⟨v, N2, 8, fun F n hF => ?_⟩
            simp [zg_0, zg_aaload, zg_aload_n, zg_astore_n, zg_bipush, zg_getfield, zg_iaload, zg_iconst, zg_ifCond, zg_if_icmp, zg_iload_n, zg_invokestatic, zg_invokevirtual, zg_ireturn, zg_isub, zg_ldc, zg_tableswitch, zf_X5_told, zi_ld, zi_lda, zi_cmp, zi_retOk, zi_isI, zi_f3, zi_cr, zi_ci, zi_cn, zi_get, zi_set, t0, hm, zdS_g hs, zq_Tree_leastOf, ct, E2 F (by omega)]
          | 6, _ =>
            have t0 : (nI 6).toInt = 6 := by decide
            obtain ⟨v, N2, E2⟩ := ze_looseOnes (μ := μ) D (nI s)
            refine ⟨v, N2, 5, fun F n hF => ?_⟩
            simp [zg_0, zg_aaload, zg_aload_n, zg_astore_n, zg_bipush, zg_getfield, zg_iaload, zg_iconst, zg_ifCond, zg_if_icmp, zg_iload_n, zg_invokestatic, zg_invokevirtual, zg_ireturn, zg_isub, zg_ldc, zg_tableswitch, zf_X5_told, zi_ld, zi_lda, zi_cmp, zi_retOk, zi_isI, zi_f3, zi_cr, zi_ci, zi_cn, zi_get, zi_set, t0, zq_Desk_looseOnes, zd_c, E2 F (by omega)]
        obtain ⟨v, G⟩ := fin
        exact ⟨v, ze_in [(0, .ref 1), (1, .int (nI s)), (2, .int (nI j))] zq_Desk_told (Nat.le_of_ble_eq_true rfl) rfl (S0.end G)⟩
    · by_cases c1 : x < 0
      · refine ⟨-1000000001, ze_in [(0, .ref 1), (1, .int (nI s)), (2, .int x)] zq_Desk_told (Nat.le_of_ble_eq_true rfl) rfl ⟨N1, 7, fun F n hF => ?_⟩⟩
        simp [zg_0, zg_aaload, zg_aload_n, zg_astore_n, zg_bipush, zg_getfield, zg_iaload, zg_iconst, zg_ifCond, zg_if_icmp, zg_iload_n, zg_invokestatic, zg_invokevirtual, zg_ireturn, zg_isub, zg_ldc, zg_tableswitch, zf_X5_told, zi_ld, zi_lda, zi_cmp, zi_retOk, zi_isI, zi_f3, zi_cr, zi_ci, zi_cn, zi_get, zi_set, zq_Desk_isScreen, E1 F (by omega), c1, n4]
      · have c2 : ¬ x ≤ 6 := by
          have q := ho.resolve_left c1
          have e : (6 : Int32) < nI 7 := by decide
          exact Int32.not_le.mpr (Int32.lt_of_lt_of_le e q)
        refine ⟨-1000000001, ze_in [(0, .ref 1), (1, .int (nI s)), (2, .int x)] zq_Desk_told (Nat.le_of_ble_eq_true rfl) rfl ⟨N1, 10, fun F n hF => ?_⟩⟩
        simp [zg_0, zg_aaload, zg_aload_n, zg_astore_n, zg_bipush, zg_getfield, zg_iaload, zg_iconst, zg_ifCond, zg_if_icmp, zg_iload_n, zg_invokestatic, zg_invokevirtual, zg_ireturn, zg_isub, zg_ldc, zg_tableswitch, zf_X5_told, zi_ld, zi_lda, zi_cmp, zi_retOk, zi_isI, zi_f3, zi_cr, zi_ci, zi_cn, zi_get, zi_set, zq_Desk_isScreen, E1 F (by omega), c1, c2, h6, n4]
  · obtain ⟨N1, E1⟩ := ze_isScreen_out (h := zm_mk μ) (D + 2) hout
    refine ⟨-1000000001, ze_in [(0, .ref 1), (1, .int w), (2, .int x)] zq_Desk_told (Nat.le_of_ble_eq_true rfl) rfl ⟨N1, 5, fun F n hF => ?_⟩⟩
    simp [zg_0, zg_aaload, zg_aload_n, zg_astore_n, zg_bipush, zg_getfield, zg_iaload, zg_iconst, zg_ifCond, zg_if_icmp, zg_iload_n, zg_invokestatic, zg_invokevirtual, zg_ireturn, zg_isub, zg_ldc, zg_tableswitch, zf_X5_told, zi_ld, zi_lda, zi_cmp, zi_retOk, zi_isI, zi_f3, zi_cr, zi_ci, zi_cn, zi_get, zi_set, zq_Desk_isScreen, E1 F (by omega), n4]
set_option maxRecDepth 100000 in
theorem ze_tab (D : Nat) (h : zJ μ row stk Rs ts) (w x y : Int32) : ∃ v, ze_E (D + 3) A_Desk_tab [.ref 1, .int w, .int x, .int y] (zm_mk μ) (some (.int v)) (zm_mk μ) := by
  have n4 : Int32.ofInt (-1000000001) = -1000000001 := by decide
  have n2 : Int32.ofInt (-1000000002) = -1000000002 := by decide
  have n5 : Int32.ofInt (-1000000005) = -1000000005 := by decide
  have h2 : (Int8.ofInt (-2)).toInt32 = (-2 : Int32) := by decide
  rcases zd_rng w 3 (by decide) with ⟨s, hs, rfl⟩ | hout
  · obtain ⟨N1, E1⟩ := ze_isScreen_in (h := zm_mk μ) (D + 1) hs
    by_cases c1 : x < 0
    · refine ⟨-1000000001, ze_in [(0, .ref 1), (1, .int (nI s)), (2, .int x), (3, .int y)] zq_Desk_tab (Nat.le_of_ble_eq_true rfl) rfl ⟨N1, 7, fun F n hF => ?_⟩⟩
      simp [zi_go, zf_X5_tab, zi_ask, zi_new, zi_step, zi_ld, zi_lda, zi_cmp, zi_retOk, zi_isI, zi_f3, zi_cr, zi_ci, zi_cn, zi_get, zi_set, zq_Desk_isScreen, E1 F (by omega), c1, n4]
    · by_cases c2 : (-2 : Int32) ≤ y
      · by_cases c3 : μ (zdS s) 3 = 0
        · refine ⟨-1000000002, ze_in [(0, .ref 1), (1, .int (nI s)), (2, .int x), (3, .int y)] zq_Desk_tab (Nat.le_of_ble_eq_true rfl) rfl ⟨N1, 16, fun F n hF => ?_⟩⟩
          simp [zi_go, zf_X5_tab, zi_ask, zi_new, zi_step, zi_ld, zi_lda, zi_cmp, zi_retOk, zi_isI, zi_f3, zi_cr, zi_ci, zi_cn, zi_get, zi_set, zq_Desk_isScreen, E1 F (by omega), c1, c2, h2, zd_g, zd_s hs, zdS_g hs, c3, n2]
        · obtain ⟨j, hj, rfl⟩ := nI_of c1
          have hC := (h.2.2.2.1 s hs).1
          obtain ⟨N2, E2⟩ := ze_Tree_leafNumber (μ := μ) (D + 1) (zdT_at hs) hC hj
          obtain ⟨lt, ct⟩ := zt_c (μ := μ) (zdT_at hs)
          by_cases c4 : j < (zy_lvs (ts s)).length
          · rw [if_pos c4] at E2
            have hm := zl_mem c4
            have hn19 := hC.1.2.1.2.2.1 _ (zt_I_lv hC.1 hm).2
            generalize (zy_lvs (ts s)).getD j 0 = n at E2 hm hn19
            have c5 : (0 : Int32) ≤ nI n := nI_pos' (by omega)
            have S0 : ze_S (D + 2) 6 (some .int) zc_X5_tab 0 [(0, .ref 1), (1, .int (nI s)), (2, .int (nI j)), (3, .int y)] [] (zm_mk μ) 63 [(5, .int (nI n)), (4, .ref (zdT s + 1)), (0, .ref 1), (1, .int (nI s)), (2, .int (nI j)), (3, .int y)] [.int y] (zm_mk μ) := by
              refine ⟨N1 + N2, 27, fun F n hF => ?_⟩
              simp [zi_go, zf_X5_tab, zi_ask, zi_new, zi_step, zi_ld, zi_lda, zi_cmp, zi_retOk, zi_isI, zi_f3, zi_cr, zi_ci, zi_cn, zi_get, zi_set, zq_Desk_isScreen, E1 F (by omega), c1, c2, h2, zd_g, zd_s hs, zdS_g hs, c3, zq_Tree_leafNumber, ct, E2 F (by omega), c5]
            have fin : ∃ v, ze_G (D + 2) 6 (some .int) zc_X5_tab 63 [(5, .int (nI n)), (4, .ref (zdT s + 1)), (0, .ref 1), (1, .int (nI s)), (2, .int (nI j)), (3, .int y)] [.int y] (zm_mk μ) (some (.int v)) (zm_mk μ) := by
              by_cases q1 : y = -2
              · subst q1
                have t0 : (-2 : Int32).toInt = -2 := by decide
                obtain ⟨N3, E3⟩ := ze_Tree_shownIn (μ := μ) (D + 1) (zdT_at hs) (x := nI n) (zm_in hn19 (by decide))
                generalize μ (zdT s + 12) (nI n).toNatClampNeg = v at E3
                refine ⟨v, N3, 5, fun F m hF => ?_⟩
                simp [zi_go, zf_X5_tab, zi_ask, zi_new, zi_step, zi_ld, zi_lda, zi_cmp, zi_retOk, zi_isI, zi_f3, zi_cr, zi_ci, zi_cn, zi_get, zi_set, t0, Op.lookupswitch.offset, zq_Tree_shownIn, ct, E3 F (by omega)]
              · by_cases q2 : y = -1
                · subst q2
                  have t0 : (-1 : Int32).toInt = -1 := by decide
                  obtain ⟨N3, E3⟩ := ze_Tree_tabsIn (μ := μ) D (zdT_at hs) hC.1 (nI n)
                  generalize ((Rs s).filter (fun v => decide (μ (zdT s + 3) v = nI n))).length = v at E3
                  refine ⟨nI v, N3, 5, fun F m hF => ?_⟩
                  simp [zi_go, zf_X5_tab, zi_ask, zi_new, zi_step, zi_ld, zi_lda, zi_cmp, zi_retOk, zi_isI, zi_f3, zi_cr, zi_ci, zi_cn, zi_get, zi_set, t0, Op.lookupswitch.offset, zq_Tree_tabsIn, ct, E3 F (by omega)]
                · have q3 : ¬ y < 0 := by
                    intro q
                    have a1 := Int32.le_iff_toInt_le.mp c2
                    have a2 := Int32.lt_iff_toInt_lt.mp q
                    have a3 : ¬ y.toInt = -2 := fun e => q1 (Int32.toInt_inj.mp (by rw [e]; decide))
                    have a4 : ¬ y.toInt = -1 := fun e => q2 (Int32.toInt_inj.mp (by rw [e]; decide))
                    rw [show (-2 : Int32).toInt = -2 by decide] at a1
                    rw [show (0 : Int32).toInt = 0 by decide] at a2
                    omega
                  obtain ⟨i, hi, rfl⟩ := nI_of q3
                  have t0 : (nI i).toInt = (i : Int) := nI_toInt hi
                  have b1 : ¬ (-2 : Int) = (i : Int) := by omega
                  have b2 : ¬ (-1 : Int) = (i : Int) := by omega
                  have b3 : ¬ (i : Int) = -2 := by omega
                  have b4 : ¬ (i : Int) = -1 := by omega
                  obtain ⟨N3, E3⟩ := ze_Tree_tabIn (μ := μ) D (zdT_at hs) hC.1 (nI n) hi
                  generalize (if i < ((Rs s).filter (fun v => decide (μ (zdT s + 3) v = nI n))).length then nI (((Rs s).filter (fun v => decide (μ (zdT s + 3) v = nI n))).getD i 0) else -1000000005) = v at E3
                  refine ⟨v, N3, 6, fun F m hF => ?_⟩
                  simp [zi_go, zf_X5_tab, zi_ask, zi_new, zi_step, zi_ld, zi_lda, zi_cmp, zi_retOk, zi_isI, zi_f3, zi_cr, zi_ci, zi_cn, zi_get, zi_set, t0, Op.lookupswitch.offset, b1, b2, b3, b4, zq_Tree_tabIn, ct, E3 F (by omega)]
            obtain ⟨v, G⟩ := fin
            exact ⟨v, ze_in [(0, .ref 1), (1, .int (nI s)), (2, .int (nI j)), (3, .int y)] zq_Desk_tab (Nat.le_of_ble_eq_true rfl) rfl (S0.end G)⟩
          · rw [if_neg c4] at E2
            have c5 : ¬ (0 : Int32) ≤ -1 := by decide
            refine ⟨-1000000005, ze_in [(0, .ref 1), (1, .int (nI s)), (2, .int (nI j)), (3, .int y)] zq_Desk_tab (Nat.le_of_ble_eq_true rfl) rfl ⟨N1 + N2, 28, fun F n hF => ?_⟩⟩
            simp [zi_go, zf_X5_tab, zi_ask, zi_new, zi_step, zi_ld, zi_lda, zi_cmp, zi_retOk, zi_isI, zi_f3, zi_cr, zi_ci, zi_cn, zi_get, zi_set, zq_Desk_isScreen, E1 F (by omega), c1, c2, h2, zd_g, zd_s hs, zdS_g hs, c3, zq_Tree_leafNumber, ct, E2 F (by omega), c5, n5]
      · refine ⟨-1000000001, ze_in [(0, .ref 1), (1, .int (nI s)), (2, .int x), (3, .int y)] zq_Desk_tab (Nat.le_of_ble_eq_true rfl) rfl ⟨N1, 10, fun F n hF => ?_⟩⟩
        simp [zi_go, zf_X5_tab, zi_ask, zi_new, zi_step, zi_ld, zi_lda, zi_cmp, zi_retOk, zi_isI, zi_f3, zi_cr, zi_ci, zi_cn, zi_get, zi_set, zq_Desk_isScreen, E1 F (by omega), c1, c2, h2, n4]
  · obtain ⟨N1, E1⟩ := ze_isScreen_out (h := zm_mk μ) (D + 1) hout
    refine ⟨-1000000001, ze_in [(0, .ref 1), (1, .int w), (2, .int x), (3, .int y)] zq_Desk_tab (Nat.le_of_ble_eq_true rfl) rfl ⟨N1, 5, fun F n hF => ?_⟩⟩
    simp [zi_go, zf_X5_tab, zi_ask, zi_new, zi_step, zi_ld, zi_lda, zi_cmp, zi_retOk, zi_isI, zi_f3, zi_cr, zi_ci, zi_cn, zi_get, zi_set, zq_Desk_isScreen, E1 F (by omega), n4]
end ZQ3
end
section
/-! the desk: the focus given, between calls -/
section ZQ4
variable {μ ν : zm_M} {row stk : List Nat} {Rs : Nat → List Nat} {ts : Nat → zy_F}
/-- another tab shown, or another share: all else of a Tree stands -/
theorem zt_C_sh {T : Nat} {R : List Nat} {t : zy_F} (h : zt_C μ T R t) (hr : ∀ j, j < 19 → j ≠ 12 → j ≠ 8 → ν (T + j) = μ (T + j)) (h12 : ∀ n ∈ zy_lvs t, ∃ w ∈ R, μ (T + 3) w = nI n ∧ ν (T + 12) n = nI w) : zt_C ν T R t := by
  obtain ⟨⟨i1, i2, i3, i4, i5, -⟩, ⟨o1, o2⟩, l⟩ := h
  have r0 : ν T = μ T := hr 0 (by omega) (by omega) (by omega)
  refine ⟨⟨⟨zr_L_congr (hr 1 (by omega) (by omega) (by omega)) (hr 2 (by omega) (by omega) (by omega)) i1.1, i1.2⟩, ?_, ?_, ?_, ?_, ?_⟩, ⟨by rw [r0]; exact o1, by rw [hr 13 (by omega) (by omega) (by omega)]; exact o2⟩, fun a ha => ?_⟩
  · unfold zt_root zy_okM at *
    rw [r0, hr 7 (by omega) (by omega) (by omega), hr 9 (by omega) (by omega) (by omega), hr 10 (by omega) (by omega) (by omega), hr 11 (by omega) (by omega) (by omega)]
    exact i2
  · rw [hr 7 (by omega) (by omega) (by omega)]; exact i3
  · rw [hr 3 (by omega) (by omega) (by omega)]; exact i4
  · rw [hr 3 (by omega) (by omega) (by omega)]; exact i5
  · rw [hr 3 (by omega) (by omega) (by omega)]; exact h12
  · have := l a ha
    rw [show ν (T + 16 + a) = μ (T + 16 + a) by rw [Nat.add_assoc]; exact hr (16 + a) (by omega) (by omega) (by omega), hr 7 (by omega) (by omega) (by omega), show ν (T + 5 + a) = μ (T + 5 + a) by rw [Nat.add_assoc]; exact hr (5 + a) (by omega) (by omega) (by omega), hr 3 (by omega) (by omega) (by omega)]
    exact this
theorem zt_lsz_sh {T a : Nat} {R : List Nat} {t : zy_F} (hr : ∀ j, j < 19 → j ≠ 12 → j ≠ 8 → ν (T + j) = μ (T + j)) (ha : a < 2) : zt_lsz ν T a R t = zt_lsz μ T a R t := by
  unfold zt_lsz
  rw [hr 7 (by omega) (by omega) (by omega), show ν (T + 5 + a) = μ (T + 5 + a) by rw [Nat.add_assoc]; exact hr (5 + a) (by omega) (by omega) (by omega), hr 3 (by omega) (by omega) (by omega)]
/-- what giveFocus(k) changes -/
noncomputable def zd_foc (μ ν : zm_M) (k : Nat) : Prop :=
  (∀ c b, c ≠ 3 → c ≠ 4 → c ≠ 5 → c ≠ 6 → ¬ (zd_til μ k = true ∧ ∃ s, s < 3 ∧ μ (zdW k) 5 = nI s ∧ c = zdT s + 12 ∧ nI b = μ (zdT s + 3) k) → ν c b = μ c b) ∧
  (zd_til μ k = true → ∀ s, s < 3 → μ (zdW k) 5 = nI s → ν (zdT s + 12) (μ (zdT s + 3) k).toNatClampNeg = nI k)
theorem ze_giveFocusJ (D : Nat) (h : zJ μ row stk Rs ts) {k : Nat} (hk : k < 10) (ht : zd_th μ k = true) : ∃ ν stk', ze_E (D + 15) A_Desk_giveFocus [.ref 1, .int (nI k)] (zm_mk μ) none (zm_mk ν) ∧ zJ ν (k :: row.erase k) stk' Rs ts ∧ zd_foc μ ν k := by
  obtain ⟨hr1, hr2, hs1, hs2⟩ := zJ_rowL h
  obtain ⟨s, hs, hsc⟩ := zJ_shw h hk
  obtain ⟨ν, stk', E, r1, ⟨q1, q2, q3⟩, f, g⟩ := ze_giveFocus (μ := μ) D hk hs hr1 h.1.2.1 hr2 hs1 h.2.1.2.1 hs2 hsc
  have huniq : ∀ q, q < 3 → zd_til μ k = true → μ (zdW k) 5 = nI q → q = s := fun q hq c e => (nI_eq (by omega) (by omega)).mp (e.symm.trans (hsc c).1)
  have hfoc : zd_foc μ ν k := by
    refine ⟨fun c b a1 a2 a3 a4 a5 => f c b a1 a2 a3 a4 (fun e => a5 ⟨e.1, s, hs, (hsc e.1).1, e.2⟩), fun c q hq e => ?_⟩
    rw [huniq q hq c e]
    exact g c
  refine ⟨ν, stk', E, ?_, hfoc⟩
  obtain ⟨h1, h2, h3, h4, h5, h6⟩ := h
  have row : ∀ c, c ≠ 3 → c ≠ 4 → c ≠ 5 → c ≠ 6 → (∀ q, q < 3 → c ≠ zdT q + 12) → ν c = μ c := fun c a1 a2 a3 a4 a5 => funext fun b => f c b a1 a2 a3 a4 (fun e => a5 s hs e.2.1)
  have eW : ∀ j, ν (zdW j) = μ (zdW j) ∨ 10 ≤ j := fun j => by
    by_cases c : j < 10
    · exact Or.inl (row _ (by unfold zdW; omega) (by unfold zdW; omega) (by unfold zdW; omega) (by unfold zdW; omega) (fun q hq => by unfold zdW zdT; omega))
    · exact Or.inr (by omega)
  have eW' : ∀ j, j < 10 → ν (zdW j) = μ (zdW j) := fun j hj => (eW j).resolve_right (by omega)
  have eL : ∀ j, j < 10 → ν (zdW j + 1) = μ (zdW j + 1) := fun j hj => row _ (by unfold zdW; omega) (by unfold zdW; omega) (by unfold zdW; omega) (by unfold zdW; omega) (fun q hq => by unfold zdW zdT; omega)
  have eT : ∀ q, q < 3 → ∀ j, j < 19 → j ≠ 12 → j ≠ 8 → ν (zdT q + j) = μ (zdT q + j) := fun q hq j hj h12 _ => row _ (by unfold zdT; omega) (by unfold zdT; omega) (by unfold zdT; omega) (by unfold zdT; omega) (fun q' hq' => by unfold zdT; omega)
  have eV : ∀ q, q < 3 → ∀ j, j < 19 → ν (zdV q + j) = μ (zdV q + j) := fun q hq j hj => row _ (by unfold zdV; omega) (by unfold zdV; omega) (by unfold zdV; omega) (by unfold zdV; omega) (fun q' hq' => by unfold zdV zdT; omega)
  have eS : ∀ q, q < 3 → ν (zdS q) = μ (zdS q) ∧ ν (zdZ q) = μ (zdZ q) ∧ ν (zdK q) = μ (zdK q) ∧ ν (zdQ q) = μ (zdQ q) := fun q hq => ⟨row _ (by unfold zdS; omega) (by unfold zdS; omega) (by unfold zdS; omega) (by unfold zdS; omega) (fun q' hq' => by unfold zdS zdT; omega), row _ (by unfold zdZ; omega) (by unfold zdZ; omega) (by unfold zdZ; omega) (by unfold zdZ; omega) (fun q' hq' => by unfold zdZ zdT; omega), row _ (by unfold zdK; omega) (by unfold zdK; omega) (by unfold zdK; omega) (by unfold zdK; omega) (fun q' hq' => by unfold zdK zdT; omega), row _ (by unfold zdQ; omega) (by unfold zdQ; omega) (by unfold zdQ; omega) (by unfold zdQ; omega) (fun q' hq' => by unfold zdQ zdT; omega)⟩
  have th : ∀ j, j < 10 → zd_th ν j = zd_th μ j := fun j hj => by unfold zd_th; rw [eW' j hj]
  have til : ∀ j, j < 10 → zd_til ν j = zd_til μ j := fun j hj => by unfold zd_til; rw [eW' j hj]
  refine ⟨⟨r1, ?_, fun j => ?_⟩, ⟨q1, q2, fun j hj => (q3 j hj).elim (hs2 j) (fun q => q.1)⟩, fun j hj hjt => ?_, fun q hq => ?_, fun q hq => ?_, fun q hq hqt => ?_⟩
  · exact List.nodup_cons.mpr ⟨fun q => ((zl_er_mem h1.2.1).mp q).1 rfl, h1.2.1.erase k⟩
  · rw [List.mem_cons, zl_er_mem h1.2.1, h1.2.2 j]
    constructor
    · rintro (rfl | ⟨-, a, b⟩)
      · exact ⟨hk, by rw [th _ hk]; exact ht⟩
      · exact ⟨a, by rw [th j a]; exact b⟩
    · rintro ⟨a, b⟩
      by_cases e : j = k
      · exact Or.inl e
      · exact Or.inr ⟨e, a, by rw [← th j a]; exact b⟩
  · rw [th j hj] at hjt
    obtain ⟨a1, a2, a3, a4, a5⟩ := h3 j hj hjt
    rw [eW' j hj, eL j hj]
    refine ⟨a1, a2, fun q => ?_, fun q => ?_, a5⟩
    · obtain ⟨s', b1, b2, b3⟩ := a3 q
      exact ⟨s', b1, b2, by rw [(eS s' b1).1]; exact b3⟩
    · obtain ⟨o, b1, b2, b3, b4⟩ := a4 q
      exact ⟨o, b1, b2, b3, by rw [th o b1]; exact b4⟩
  · obtain ⟨a1, a2, a3⟩ := h4 q hq
    refine ⟨zt_C_sh a1 (eT q hq) (fun n hn => ?_), fun j => ?_, fun j hj => ?_⟩
    · obtain ⟨w, hw, e1, e2⟩ := a1.1.2.2.2.2.2 n hn
      by_cases c : zd_til μ k = true ∧ q = s ∧ μ (zdT s + 3) k = nI n
      · obtain ⟨c1, rfl, c3⟩ := c
        refine ⟨k, (hsc c1).2.2, c3, ?_⟩
        have := g c1
        have hn19 := a1.1.2.1.2.2.1 n (zt_I_lv a1.1 hn).2
        rw [c3, nI_clamp (by omega)] at this
        exact this
      · refine ⟨w, hw, e1, ?_⟩
        rw [f (zdT q + 12) n (by unfold zdT; omega) (by unfold zdT; omega) (by unfold zdT; omega) (by unfold zdT; omega) (fun e => c ⟨e.1, by have := e.2.1; unfold zdT at this; omega, e.2.2.symm⟩)]
        exact e2
    · rw [a2 j]
      constructor
      · rintro ⟨b1, b2⟩
        exact ⟨b1, by rw [til j b1, eW' j b1]; exact b2⟩
      · rintro ⟨b1, b2⟩
        exact ⟨b1, by rw [til j b1, eW' j b1] at b2; exact b2⟩
    · have hj10 := ((a2 j).mp hj).1
      rw [eT q hq 5 (by omega) (by omega) (by omega), eT q hq 6 (by omega) (by omega) (by omega), eL j hj10]
      exact a3 j hj
  · obtain ⟨a1, a2⟩ := h5 q hq
    refine ⟨zt_C_19 (eV q hq) a1, fun z => ?_⟩
    rw [(eS q hq).2.2.1] at z
    obtain ⟨b1, b2, b3⟩ := a2 z
    refine ⟨by rw [(eS q hq).1]; exact b1, fun j hj => ?_, fun j hj hz => ?_⟩
    · have hj10 := a1.1.1.2.2 j hj
      rw [eV q hq 5 (by omega), eV q hq 6 (by omega), eL j hj10, til j hj10]
      exact b2 j hj
    · rw [(eS q hq).2.2.2] at hz
      rw [th j hj, eW' j hj]
      exact b3 j hj hz
  · rw [(eS q hq).1] at hqt
    obtain ⟨a1, a2⟩ := h6 q hq hqt
    rw [(eS q hq).2.1]
    refine ⟨a1, ?_⟩
    unfold zt_fit at *
    rw [zt_lsz_sh (eT q hq) (by decide), zt_lsz_sh (eT q hq) (by decide), (eS q hq).2.1]
    exact a2
end ZQ4
end
section
/-! the desk: focus, back, toward, neighbour -/
section ZQ5
variable {μ ν : zm_M} {row stk : List Nat} {Rs : Nat → List Nat} {ts : Nat → zy_F}
set_option maxRecDepth 100000 in
theorem ze_focus_no (D : Nat) {w : Int32} (E1 : ze_E (D + 1) A_Desk_isWindow [.ref 1, .int w] (zm_mk μ) (some (.int 0)) (zm_mk μ)) : ze_E (D + 2) A_Desk_focus [.ref 1, .int w] (zm_mk μ) (some (.int (-1000000001))) (zm_mk μ) := by
  have n4 : Int32.ofInt (-1000000001) = -1000000001 := by decide
  obtain ⟨N1, E1⟩ := E1
  refine ze_in [(0, .ref 1), (1, .int w)] zq_Desk_focus (Nat.le_of_ble_eq_true rfl) rfl ⟨N1, 6, fun F n hF => ?_⟩
  simp [zg_0, zg_aload_n, zg_getfield, zg_iconst, zg_ifCond, zg_iload_n, zg_invokevirtual, zg_ireturn, zg_istore_n, zg_ldc, zf_X5_focus, zi_ld, zi_lda, zi_cmp, zi_retOk, zi_isI, zi_f3, zi_cr, zi_ci, zi_cn, zi_get, zi_set, zq_Desk_isWindow, zd_c, E1 F (by omega), n4]
set_option maxRecDepth 100000 in
theorem ze_focus (D : Nat) (h : zJ μ row stk Rs ts) {k : Nat} (hk : k < 10) (ht : zd_th μ k = true) : ∃ ν stk' v, ze_E (D + 16) A_Desk_focus [.ref 1, .int (nI k)] (zm_mk μ) (some (.int v)) (zm_mk ν) ∧ zJ ν (k :: row.erase k) stk' Rs ts ∧ zd_foc μ ν k := by
  obtain ⟨N1, E1⟩ := ze_thW (μ := μ) (D + 14) hk
  rw [if_pos ht] at E1
  obtain ⟨ν, stk', ⟨N2, E2⟩, hJ, hf⟩ := ze_giveFocusJ (μ := μ) D h hk ht
  have hkr : k ∈ row := (h.1.2.2 k).mpr ⟨hk, ht⟩
  have hl : 0 < row.length := List.length_pos_of_mem hkr
  obtain ⟨N3, E3⟩ := ze_Row_getL (μ := μ) (i := 0) (D + 14) zd3_at h.1.1 hl
  rw [nI_0] at E3
  generalize row.getD 0 0 = v at E3
  have cr := zr_c (μ := μ) zd3_at
  refine ⟨ν, stk', nI v, ze_in [(0, .ref 1), (1, .int (nI k))] zq_Desk_focus (Nat.le_of_ble_eq_true rfl) rfl ⟨N1 + N2 + N3, 14, fun F n hF => ?_⟩, hJ, hf⟩
  simp [zg_0, zg_aload_n, zg_getfield, zg_iconst, zg_ifCond, zg_iload_n, zg_invokevirtual, zg_ireturn, zg_istore_n, zg_ldc, zf_X5_focus, zi_ld, zi_lda, zi_cmp, zi_retOk, zi_isI, zi_f3, zi_cr, zi_ci, zi_cn, zi_get, zi_set, zq_Desk_isWindow, zd_c, E1 F (by omega), zd_g, zq_Row_get, cr, E3 F (by omega), zq_Desk_giveFocus, E2 F (by omega)]
set_option maxRecDepth 100000 in
theorem ze_back_no (D : Nat) (h : zJ μ row stk Rs ts) (hl : row.length < 2) : ze_E (D + 2) A_Desk_back [.ref 1] (zm_mk μ) (some (.int (-1000000002))) (zm_mk μ) := by
  have n2 : Int32.ofInt (-1000000002) = -1000000002 := by decide
  obtain ⟨N1, E1⟩ := ze_Row_sizeL (μ := μ) D zd3_at h.1.1
  have cr := zr_c (μ := μ) zd3_at
  have c : ¬ (2 : Int32) ≤ nI row.length := nI_ge (b := 2) hl (by decide)
  refine ze_in [(0, .ref 1)] zq_Desk_back (Nat.le_of_ble_eq_true rfl) rfl ⟨N1, 7, fun F n hF => ?_⟩
  simp [zg_0, zg_aload_n, zg_getfield, zg_iconst, zg_if_icmp, zg_iload_n, zg_invokevirtual, zg_ireturn, zg_istore_n, zg_ldc, zf_X5_back, zi_ld, zi_lda, zi_cmp, zi_retOk, zi_isI, zi_f3, zi_cr, zi_ci, zi_cn, zi_get, zi_set, zd_g, zq_Row_size, cr, E1 F (by omega), c, n2]
set_option maxRecDepth 100000 in
theorem ze_back (D : Nat) (h : zJ μ row stk Rs ts) (hl : ¬ row.length < 2) : ∃ ν stk' v, ze_E (D + 16) A_Desk_back [.ref 1] (zm_mk μ) (some (.int v)) (zm_mk ν) ∧ zJ ν (row.getD 1 0 :: row.erase (row.getD 1 0)) stk' Rs ts ∧ zd_foc μ ν (row.getD 1 0) := by
  obtain ⟨N1, E1⟩ := ze_Row_sizeL (μ := μ) (D + 14) zd3_at h.1.1
  have cr := zr_c (μ := μ) zd3_at
  have hl10 := h.1.1.1
  have c : (2 : Int32) ≤ nI row.length := nI_le (a := 2) (by omega) (by omega)
  obtain ⟨N3, E3⟩ := ze_Row_getL (μ := μ) (i := 1) (D + 14) zd3_at h.1.1 (by omega)
  have hm : row.getD 1 0 ∈ row := zl_mem (by omega)
  generalize row.getD 1 0 = k at E3 hm
  obtain ⟨hk, ht⟩ := (h.1.2.2 k).mp hm
  rw [show nI 1 = 1 by decide] at E3
  obtain ⟨ν, stk', ⟨N2, E2⟩, hJ, hf⟩ := ze_giveFocusJ (μ := μ) D h hk ht
  refine ⟨ν, stk', nI k, ze_in [(0, .ref 1)] zq_Desk_back (Nat.le_of_ble_eq_true rfl) rfl ⟨N1 + N2 + N3, 15, fun F n hF => ?_⟩, hJ, hf⟩
  simp [zg_0, zg_aload_n, zg_getfield, zg_iconst, zg_if_icmp, zg_iload_n, zg_invokevirtual, zg_ireturn, zg_istore_n, zg_ldc, zf_X5_back, zi_ld, zi_lda, zi_cmp, zi_retOk, zi_isI, zi_f3, zi_cr, zi_ci, zi_cn, zi_get, zi_set, zd_g, zq_Row_size, zq_Row_get, cr, E1 F (by omega), c, E3 F (by omega), zq_Desk_giveFocus, zd_c, E2 F (by omega)]
theorem zl_nb_or (f : Nat → Int32) : ∀ (l : List Nat) (b m : Int32), zl_nb f l b m = b ∨ ∃ i ∈ l, zl_nb f l b m = nI i ∧ m < f i := by
  intro l
  induction l with
  | nil => intro b m; exact Or.inl rfl
  | cons x l ih =>
    intro b m
    show (if m < f x then zl_nb f l (nI x) (f x) else zl_nb f l b m) = b ∨ ∃ i ∈ x :: l, (if m < f x then zl_nb f l (nI x) (f x) else zl_nb f l b m) = nI i ∧ m < f i
    by_cases c : m < f x
    · rw [if_pos c]
      right
      rcases ih (nI x) (f x) with e | ⟨i, hi, e, q⟩
      · exact ⟨x, List.mem_cons_self, e, c⟩
      · exact ⟨i, List.mem_cons_of_mem _ hi, e, Int32.lt_trans c q⟩
    · rw [if_neg c]
      rcases ih b m with e | ⟨i, hi, e, q⟩
      · exact Or.inl e
      · exact Or.inr ⟨i, List.mem_cons_of_mem _ hi, e, q⟩
/-- the neighbour of a window on the screen s -/
noncomputable def zd_ngb (ν : zm_M) (s k sd : Nat) : Int32 := zl_nb (zt_nf ν (zdT s) k sd) (List.range 10) (-1000000005) 0
theorem zd_ngb_or (h : zJ μ row stk Rs ts) {s k sd : Nat} (hs : s < 3) : zd_ngb μ s k sd = -1000000005 ∨ ∃ i, i < 10 ∧ zd_ngb μ s k sd = nI i ∧ zd_til μ i = true ∧ μ (zdW i) 5 = nI s := by
  rcases zl_nb_or (zt_nf μ (zdT s) k sd) (List.range 10) (-1000000005) 0 with e | ⟨i, hi, e, q⟩
  · exact Or.inl e
  · right
    have hi := List.mem_range.mp hi
    refine ⟨i, hi, e, ?_⟩
    obtain ⟨a1, a2, -⟩ := h.2.2.2.1 s hs
    have hc : ¬ μ (zdT s + 3) i < 0 := by
      intro c
      have : zt_nf μ (zdT s) k sd i = 0 := if_neg (fun q => q.1.1 c)
      rw [this] at q
      exact absurd q (by decide)
    have hR : i ∈ Rs s := by
      by_cases c : i ∈ Rs s
      · exact c
      · exact absurd (by rw [a1.1.2.2.2.2.1 i hi c]; decide) hc
    exact ((a2 i).mp hR).2
/-- the window k is shown in the tree of the screen s -/
noncomputable def zd_shn (μ : zm_M) (s k : Nat) : Prop := zd_til μ k = true ∧ μ (zdW k) 5 = nI s ∧ μ (zdT s + 12) (μ (zdT s + 3) k).toNatClampNeg = nI k
/-- isShownTile, as it comes out -/
theorem ze_isShownTileJ (D : Nat) (h : zJ μ row stk Rs ts) (w : Int32) : (ze_E (D + 3) A_Desk_isShownTile [.ref 1, .int w] (zm_mk μ) (some (.int 1)) (zm_mk μ) ∧ ∃ k s, k < 10 ∧ s < 3 ∧ w = nI k ∧ zd_shn μ s k) ∨
    (ze_E (D + 3) A_Desk_isShownTile [.ref 1, .int w] (zm_mk μ) (some (.int 0)) (zm_mk μ) ∧ ∀ k s, k < 10 → s < 3 → w = nI k → ¬ zd_shn μ s k) := by
  rcases zd_rng w 10 (by decide) with ⟨k, hk, rfl⟩ | hout
  · obtain ⟨s, hs, hsc⟩ := zJ_shw h hk
    have E := ze_isShownTile (μ := μ) D hk hs (fun q => ⟨(hsc q).1, (hsc q).2.1⟩)
    by_cases c : zd_til μ k = true ∧ (¬ μ (zdT s + 3) k < 0 ∧ μ (zdT s + 12) (μ (zdT s + 3) k).toNatClampNeg = nI k)
    · rw [if_pos c] at E
      exact Or.inl ⟨E, k, s, hk, hs, rfl, c.1, (hsc c.1).1, c.2.2⟩
    · rw [if_neg c] at E
      refine Or.inr ⟨E, fun k' s' hk' hs' e q => c ?_⟩
      have e1 : k = k' := (nI_eq (by omega) (by omega)).mp e
      subst e1
      obtain ⟨q1, q2, q3⟩ := q
      have e2 : s' = s := (nI_eq (by omega) (by omega)).mp (q2.symm.trans (hsc q1).1)
      subst e2
      refine ⟨q1, ?_, q3⟩
      obtain ⟨n, hn, en⟩ := (hsc q1).2.1.2.2.2.1 k (hsc q1).2.2
      have := (hsc q1).2.1.2.1.2.2.1 n (zt_I_lv (hsc q1).2.1 hn).2
      rw [en]
      exact nI_pos (by omega)
  · exact Or.inr ⟨ze_isShownTile_out (D + 1) hout, fun k s hk _ e => by
      rw [e] at hout
      exact absurd hout (fun q => q.elim (nI_pos (by omega)) (nI_ge (b := 10) hk (by decide)))⟩
set_option maxRecDepth 100000 in
theorem ze_neighbour (D : Nat) (h : zJ μ row stk Rs ts) (w x : Int32) : ∃ ν v, ze_E (D + 7) A_Desk_neighbour [.ref 1, .int w, .int x] (zm_mk μ) (some (.int v)) (zm_mk ν) ∧ zJ_eqv μ ν := by
  have n4 : Int32.ofInt (-1000000001) = -1000000001 := by decide
  have n2 : Int32.ofInt (-1000000002) = -1000000002 := by decide
  have hno : ze_E (D + 6) A_Desk_isWindow [.ref 1, .int w] (zm_mk μ) (some (.int 0)) (zm_mk μ) → ∃ ν v, ze_E (D + 7) A_Desk_neighbour [.ref 1, .int w, .int x] (zm_mk μ) (some (.int v)) (zm_mk ν) ∧ zJ_eqv μ ν := by
    rintro ⟨N1, E1⟩
    refine ⟨μ, -1000000001, ze_in [(0, .ref 1), (1, .int w), (2, .int x)] zq_Desk_neighbour (Nat.le_of_ble_eq_true rfl) rfl ⟨N1, 6, fun F n hF => ?_⟩, zJ_eqv.refl⟩
    simp [zg_0, zg_aload_n, zg_ifCond, zg_iload_n, zg_invokestatic, zg_invokevirtual, zg_ireturn, zg_ldc, zf_X5_neighbour, zi_ld, zi_lda, zi_cmp, zi_retOk, zi_isI, zi_f3, zi_cr, zi_ci, zi_cn, zi_get, zi_set, zq_Desk_isWindow, zd_c, E1 F (by omega), n4]
  rcases zd_rng w 10 (by decide) with ⟨k, hk, rfl⟩ | hout
  · have E1 := ze_thW (μ := μ) (D + 5) hk
    by_cases c1 : zd_th μ k = true
    · rw [if_pos c1] at E1
      obtain ⟨N1, E1⟩ := E1
      rcases zd_rng x 4 (by decide) with ⟨sd, hsd, rfl⟩ | ho
      · obtain ⟨N2, E2⟩ := ze_isSide_in (h := zm_mk μ) (D + 5) hsd
        rcases ze_isShownTileJ (D + 3) h (nI k) with ⟨⟨N3, E3⟩, k', s, hk', hs, ek, hsh⟩ | ⟨⟨N3, E3⟩, -⟩
        · have e : k = k' := (nI_eq (by omega) (by omega)).mp ek
          subst e
          obtain ⟨ν, ⟨N4, E4⟩, f4, -⟩ := ze_layTrees (μ := μ) D (fun s hs => (h.2.2.2.1 s hs).1)
          have hJ := h.eqv (zd_frA_eqv f4)
          obtain ⟨N5, E5⟩ := ze_treeOf (μ := ν) (D + 5) hk hs (by rw [zd_frA_eqv f4 _ (zJn_W hk).1]; exact hsh.2.1)
          obtain ⟨N6, E6⟩ := ze_Tree_neighbourTo (μ := ν) (D + 1) (zdT_at hs) (zt_I_hm (hJ.2.2.2.1 s hs).1.1) hk hsd
          obtain ⟨lt, ct⟩ := zt_c (μ := ν) (zdT_at hs)
          generalize zl_nb (zt_nf ν (zdT s) k sd) (List.range 10) (-1000000005) 0 = v at E6
          refine ⟨ν, v, ze_in [(0, .ref 1), (1, .int (nI k)), (2, .int (nI sd))] zq_Desk_neighbour (Nat.le_of_ble_eq_true rfl) rfl ⟨N1 + N2 + N3 + N4 + N5 + N6, 20, fun F n hF => ?_⟩, zd_frA_eqv f4⟩
          simp [zg_0, zg_aload_n, zg_ifCond, zg_iload_n, zg_invokestatic, zg_invokevirtual, zg_ireturn, zg_ldc, zf_X5_neighbour, zi_ld, zi_lda, zi_cmp, zi_retOk, zi_isI, zi_f3, zi_cr, zi_ci, zi_cn, zi_get, zi_set, zq_Desk_isWindow, zd_c, E1 F (by omega), zq_Desk_isSide, E2 F (by omega), zq_Desk_isShownTile, E3 F (by omega), zq_Desk_layTrees, E4 F (by omega), zq_Desk_treeOf, E5 F (by omega), zq_Tree_neighbourTo, ct, E6 F (by omega)]
        · refine ⟨μ, -1000000002, ze_in [(0, .ref 1), (1, .int (nI k)), (2, .int (nI sd))] zq_Desk_neighbour (Nat.le_of_ble_eq_true rfl) rfl ⟨N1 + N2 + N3, 13, fun F n hF => ?_⟩, zJ_eqv.refl⟩
          simp [zg_0, zg_aload_n, zg_ifCond, zg_iload_n, zg_invokestatic, zg_invokevirtual, zg_ireturn, zg_ldc, zf_X5_neighbour, zi_ld, zi_lda, zi_cmp, zi_retOk, zi_isI, zi_f3, zi_cr, zi_ci, zi_cn, zi_get, zi_set, zq_Desk_isWindow, zd_c, E1 F (by omega), zq_Desk_isSide, E2 F (by omega), zq_Desk_isShownTile, E3 F (by omega), n2]
      · obtain ⟨N2, E2⟩ := ze_isSide_out (h := zm_mk μ) (D + 5) ho
        refine ⟨μ, -1000000001, ze_in [(0, .ref 1), (1, .int (nI k)), (2, .int x)] zq_Desk_neighbour (Nat.le_of_ble_eq_true rfl) rfl ⟨N1 + N2, 9, fun F n hF => ?_⟩, zJ_eqv.refl⟩
        simp [zg_0, zg_aload_n, zg_ifCond, zg_iload_n, zg_invokestatic, zg_invokevirtual, zg_ireturn, zg_ldc, zf_X5_neighbour, zi_ld, zi_lda, zi_cmp, zi_retOk, zi_isI, zi_f3, zi_cr, zi_ci, zi_cn, zi_get, zi_set, zq_Desk_isWindow, zd_c, E1 F (by omega), zq_Desk_isSide, E2 F (by omega), n4]
    · rw [if_neg c1] at E1
      exact hno E1
  · exact hno (ze_isWindow_out (D + 5) hout)
set_option maxRecDepth 100000 in
/-- toward(side) -/
theorem ze_toward (D : Nat) (h : zJ μ row stk Rs ts) (x : Int32) : ∃ ν v row' stk', ze_E (D + 16) A_Desk_toward [.ref 1, .int x] (zm_mk μ) (some (.int v)) (zm_mk ν) ∧ zJ ν row' stk' Rs ts ∧
    (((∀ sd, sd < 4 → x = nI sd → ∀ s, s < 3 → row ≠ [] → ¬ zd_shn μ s (row.getD 0 0)) ∧ ν = μ ∧ row' = row) ∨
     (∃ sd s ξ, sd < 4 ∧ s < 3 ∧ x = nI sd ∧ row ≠ [] ∧ zd_shn μ s (row.getD 0 0) ∧ zJ_eqv μ ξ ∧ (∀ q, q < 3 → zd_laid ξ q (Rs q) (ts q)) ∧
       ((zd_ngb ξ s (row.getD 0 0) sd = -1000000005 ∧ ν = ξ ∧ row' = row) ∨ ∃ i, i < 10 ∧ zd_th μ i = true ∧ zd_ngb ξ s (row.getD 0 0) sd = nI i ∧ row' = i :: row.erase i ∧ zd_foc ξ ν i))) := by
  have n4 : Int32.ofInt (-1000000001) = -1000000001 := by decide
  have n2 : Int32.ofInt (-1000000002) = -1000000002 := by decide
  have hl10 := h.1.1.1
  rcases zd_rng x 4 (by decide) with ⟨sd, hsd, rfl⟩ | ho
  · obtain ⟨N1, E1⟩ := ze_isSide_in (h := zm_mk μ) (D + 14) hsd
    have cr := zr_c (μ := μ) zd3_at
    have E2 : ze_E (D + 15) A_Row_get [.ref (3 + 1), .int 0] (zm_mk μ) (some (.int (if row = [] then -1 else nI (row.getD 0 0)))) (zm_mk μ) := by
      by_cases c : row = []
      · rw [if_pos c]
        have := ze_Row_get (μ := μ) (r := 3) (D + 14) 0 zd3_at (by rw [h.1.1.2.1]; exact nI_le (b := 10) h.1.1.1 (by decide))
        rw [if_neg (fun q => by
          have := q.2
          rw [h.1.1.2.1, c] at this
          exact absurd this (by decide))] at this
        exact this
      · rw [if_neg c]
        have := ze_Row_getL (μ := μ) (i := 0) (D + 14) zd3_at h.1.1 (List.length_pos_iff.mpr c)
        rw [nI_0] at this
        exact this
    obtain ⟨N2, E2⟩ := E2
    generalize hw : (if row = [] then (-1 : Int32) else nI (row.getD 0 0)) = w at E2
    rcases ze_isShownTileJ (D + 12) h w with ⟨⟨N3, E3⟩, k, s, hk, hs, ek, hsh⟩ | ⟨⟨N3, E3⟩, hno⟩
    · have hne : row ≠ [] := fun c => by
        rw [if_pos c, ek] at hw
        have : nI k < 0 := by rw [← hw]; decide
        exact nI_pos (by omega) this
      rw [if_neg hne, ek] at hw
      have hm0 : row.getD 0 0 ∈ row := zl_mem (List.length_pos_iff.mpr hne)
      have hb0 := ((h.1.2.2 _).mp hm0).1
      have ek0 : row.getD 0 0 = k := (nI_eq (by omega) (by omega)).mp hw
      subst ek
      obtain ⟨ξ, ⟨N4, E4⟩, f4, hlaid⟩ := ze_layTrees (μ := μ) (D + 9) (fun s hs => (h.2.2.2.1 s hs).1)
      have hev := zd_frA_eqv f4
      have hJ := h.eqv hev
      obtain ⟨N5, E5⟩ := ze_treeOf (μ := ξ) (D + 14) hk hs (by rw [hev _ (zJn_W hk).1]; exact hsh.2.1)
      obtain ⟨N6, E6⟩ := ze_Tree_neighbourTo (μ := ξ) (D + 10) (zdT_at hs) (zt_I_hm (hJ.2.2.2.1 s hs).1.1) hk hsd
      obtain ⟨lt, ct⟩ := zt_c (μ := ξ) (zdT_at hs)
      have hor := zd_ngb_or hJ (s := s) (k := k) (sd := sd) hs
      have E6' : ∀ F, N6 ≤ F → zi_run zi_ms F (D + 10 + 5) A_Tree_neighbourTo [.ref (zdT s + 1), .int (nI k), .int (nI sd)] (zm_mk ξ) [] = some [([], some (.int (zd_ngb ξ s k sd)), zm_mk ξ)] := E6
      generalize hv : zd_ngb ξ s k sd = v at E6' hor
      have S0 : ze_S (D + 15) 4 (some .int) zc_X5_toward 0 [(0, .ref 1), (1, .int (nI sd))] [] (zm_mk μ) 45 [(3, .int v), (2, .int (nI k)), (0, .ref 1), (1, .int (nI sd))] [] (zm_mk ξ) := by
        refine ⟨N1 + N2 + N3 + N4 + N5 + N6, 21, fun F n hF => ?_⟩
        simp [zg_0, zg_aload_n, zg_getfield, zg_iconst, zg_ifCond, zg_iload_n, zg_invokestatic, zg_invokevirtual, zg_ireturn, zg_istore_n, zg_ldc, zf_X5_toward, zi_ld, zi_lda, zi_cmp, zi_retOk, zi_isI, zi_f3, zi_cr, zi_ci, zi_cn, zi_get, zi_set, zq_Desk_isSide, E1 F (by omega), zd_g, zq_Row_get, cr, E2 F (by omega), zq_Desk_isShownTile, zd_c, E3 F (by omega), zq_Desk_layTrees, E4 F (by omega), zq_Desk_treeOf, E5 F (by omega), zq_Tree_neighbourTo, ct, E6' F (by omega)]
      rcases hor with rfl | ⟨i, hi, rfl, hit, his⟩
      · obtain ⟨N7, E7⟩ := ze_isWindow_out (μ := ξ) (D + 14) (x := -1000000005) (Or.inl (by decide))
        refine ⟨ξ, -1000000005, row, stk, ze_in [(0, .ref 1), (1, .int (nI sd))] zq_Desk_toward (Nat.le_of_ble_eq_true rfl) rfl (S0.end ⟨N7, 6, fun F n hF => ?_⟩), hJ, Or.inr ⟨sd, s, ξ, hsd, hs, rfl, hne, by rw [ek0]; exact hsh, hev, hlaid, Or.inl ⟨by rw [ek0]; exact hv, rfl, rfl⟩⟩⟩
        simp [zg_0, zg_aload_n, zg_getfield, zg_iconst, zg_ifCond, zg_iload_n, zg_invokestatic, zg_invokevirtual, zg_ireturn, zg_istore_n, zg_ldc, zf_X5_toward, zi_ld, zi_lda, zi_cmp, zi_retOk, zi_isI, zi_f3, zi_cr, zi_ci, zi_cn, zi_get, zi_set, zq_Desk_isWindow, zd_c, E7 F (by omega)]
      · have hith : zd_th ξ i = true := decide_eq_true (of_decide_eq_true hit).1
        obtain ⟨N7, E7⟩ := ze_thW (μ := ξ) (D + 14) hi
        rw [if_pos hith] at E7
        obtain ⟨ν, stk', ⟨N8, E8⟩, hJ', hf⟩ := ze_giveFocusJ (μ := ξ) D hJ hi hith
        have hith' : zd_th μ i = true := by
          unfold zd_th at *
          rw [hev _ (zJn_W hi).1] at hith
          exact hith
        refine ⟨ν, nI i, i :: row.erase i, stk', ze_in [(0, .ref 1), (1, .int (nI sd))] zq_Desk_toward (Nat.le_of_ble_eq_true rfl) rfl (S0.end ⟨N7 + N8, 9, fun F n hF => ?_⟩), hJ', Or.inr ⟨sd, s, ξ, hsd, hs, rfl, hne, by rw [ek0]; exact hsh, hev, hlaid, Or.inr ⟨i, hi, hith', by rw [ek0]; exact hv, rfl, hf⟩⟩⟩
        simp [zg_0, zg_aload_n, zg_getfield, zg_iconst, zg_ifCond, zg_iload_n, zg_invokestatic, zg_invokevirtual, zg_ireturn, zg_istore_n, zg_ldc, zf_X5_toward, zi_ld, zi_lda, zi_cmp, zi_retOk, zi_isI, zi_f3, zi_cr, zi_ci, zi_cn, zi_get, zi_set, zq_Desk_isWindow, zd_c, E7 F (by omega), zq_Desk_giveFocus, E8 F (by omega)]
    · refine ⟨μ, -1000000002, row, stk, ze_in [(0, .ref 1), (1, .int (nI sd))] zq_Desk_toward (Nat.le_of_ble_eq_true rfl) rfl ⟨N1 + N2 + N3, 14, fun F n hF => ?_⟩, h, Or.inl ⟨fun sd' hsd' e s hs hne => ?_, rfl, rfl⟩⟩
      · simp [zg_0, zg_aload_n, zg_getfield, zg_iconst, zg_ifCond, zg_iload_n, zg_invokestatic, zg_invokevirtual, zg_ireturn, zg_istore_n, zg_ldc, zf_X5_toward, zi_ld, zi_lda, zi_cmp, zi_retOk, zi_isI, zi_f3, zi_cr, zi_ci, zi_cn, zi_get, zi_set, zq_Desk_isSide, E1 F (by omega), zd_g, zq_Row_get, cr, E2 F (by omega), zq_Desk_isShownTile, zd_c, E3 F (by omega), n2]
      · have hm0 : row.getD 0 0 ∈ row := zl_mem (List.length_pos_iff.mpr hne)
        have hb0 := ((h.1.2.2 _).mp hm0).1
        exact hno _ s hb0 hs (by rw [← hw, if_neg hne])
  · obtain ⟨N1, E1⟩ := ze_isSide_out (h := zm_mk μ) (D + 14) ho
    refine ⟨μ, -1000000001, row, stk, ze_in [(0, .ref 1), (1, .int x)] zq_Desk_toward (Nat.le_of_ble_eq_true rfl) rfl ⟨N1, 5, fun F n hF => ?_⟩, h, Or.inl ⟨fun sd hsd e => ?_, rfl, rfl⟩⟩
    · simp [zg_0, zg_aload_n, zg_getfield, zg_iconst, zg_ifCond, zg_iload_n, zg_invokestatic, zg_invokevirtual, zg_ireturn, zg_istore_n, zg_ldc, zf_X5_toward, zi_ld, zi_lda, zi_cmp, zi_retOk, zi_isI, zi_f3, zi_cr, zi_ci, zi_cn, zi_get, zi_set, zq_Desk_isSide, E1 F (by omega), n4]
    · rw [e] at ho
      exact absurd ho (fun q => q.elim (nI_pos (by omega)) (nI_ge (b := 4) hsd (by decide)))
end ZQ5
end
section
/-! the desk: at, move, share -/
noncomputable def zl_dn (n i : Nat) : Int32 := if i < n then nI (n - 1 - i) else -1
set_option maxRecDepth 100000 in
theorem ze_at_1 (D : Nat) {n : Nat} (hn : n ≤ 10) (L : zi_Lc) (h : zi_Hp) : ze_S D 6 (some .int) zc_X5_at 70 L [.int 1, .int (nI n)] h 71 L [.int (zl_dn n 0)] h := by
  refine ⟨0, 1, fun F m hF => ?_⟩
  have e : nI n - 1 = zl_dn n 0 := by
    have : ∀ n, n < 11 → nI n - 1 = zl_dn n 0 := by decide
    exact this n (by omega)
  simp only [zi_go, zf_X5_at, zi_ask, zi_new, zi_step, e]
section ZQ6
variable {μ ν : zm_M} {row stk : List Nat} {Rs : Nat → List Nat} {ts : Nat → zy_F}
set_option maxRecDepth 100000 in
theorem ze_at (D : Nat) (h : zJ μ row stk Rs ts) (w x y : Int32) : ∃ ν v, ze_E (D + 7) A_Desk_at [.ref 1, .int w, .int x, .int y] (zm_mk μ) (some (.int v)) (zm_mk ν) ∧ zJ_eqv μ ν := by
  have n4 : Int32.ofInt (-1000000001) = -1000000001 := by decide
  have n2 : Int32.ofInt (-1000000002) = -1000000002 := by decide
  rcases zd_rng w 3 (by decide) with ⟨s, hs, rfl⟩ | hout
  · obtain ⟨N1, E1⟩ := ze_isScreen_in (h := zm_mk μ) (D + 5) hs
    have A := zdZ_A hs
    by_cases c3 : μ (zdS s) 3 = 0
    · refine ⟨μ, -1000000002, ze_in [(0, .ref 1), (1, .int (nI s)), (2, .int x), (3, .int y)] zq_Desk_at (Nat.le_of_ble_eq_true rfl) rfl ⟨N1, 13, fun F n hF => ?_⟩, zJ_eqv.refl⟩
      simp [zg_0, zg_aaload, zg_aload, zg_aload_n, zg_astore, zg_getfield, zg_goto, zg_iaload, zg_iconst, zg_ifCond, zg_if_icmp, zg_iinc, zg_iload, zg_iload_n, zg_invokestatic, zg_invokevirtual, zg_ireturn, zg_istore, zg_isub, zg_ldc, zf_X5_at, zi_ld, zi_lda, zi_cmp, zi_retOk, zi_isI, zi_f3, zi_cr, zi_ci, zi_cn, zi_get, zi_set, zq_Desk_isScreen, E1 F (by omega), zd_g, zd_s hs, zdS_g hs, c3, n2]
    · by_cases q1 : x < 0
      · refine ⟨μ, -1000000001, ze_in [(0, .ref 1), (1, .int (nI s)), (2, .int x), (3, .int y)] zq_Desk_at (Nat.le_of_ble_eq_true rfl) rfl ⟨N1, 15, fun F n hF => ?_⟩, zJ_eqv.refl⟩
        simp [zg_0, zg_aaload, zg_aload, zg_aload_n, zg_astore, zg_getfield, zg_goto, zg_iaload, zg_iconst, zg_ifCond, zg_if_icmp, zg_iinc, zg_iload, zg_iload_n, zg_invokestatic, zg_invokevirtual, zg_ireturn, zg_istore, zg_isub, zg_ldc, zf_X5_at, zi_ld, zi_lda, zi_cmp, zi_retOk, zi_isI, zi_f3, zi_cr, zi_ci, zi_cn, zi_get, zi_set, zq_Desk_isScreen, E1 F (by omega), zd_g, zd_s hs, zdS_g hs, c3, q1, n4]
      · by_cases q2 : μ (zdZ s) 0 ≤ x
        · refine ⟨μ, -1000000001, ze_in [(0, .ref 1), (1, .int (nI s)), (2, .int x), (3, .int y)] zq_Desk_at (Nat.le_of_ble_eq_true rfl) rfl ⟨N1, 21, fun F n hF => ?_⟩, zJ_eqv.refl⟩
          simp [zg_0, zg_aaload, zg_aload, zg_aload_n, zg_astore, zg_getfield, zg_goto, zg_iaload, zg_iconst, zg_ifCond, zg_if_icmp, zg_iinc, zg_iload, zg_iload_n, zg_invokestatic, zg_invokevirtual, zg_ireturn, zg_istore, zg_isub, zg_ldc, zf_X5_at, zi_ld, zi_lda, zi_cmp, zi_retOk, zi_isI, zi_f3, zi_cr, zi_ci, zi_cn, zi_get, zi_set, zq_Desk_isScreen, E1 F (by omega), zd_g, zd_s hs, zdS_g hs, c3, q1, zm_iald (k := 0) A zm_in0, zm_cl0, q2, n4]
        · by_cases q3 : y < 0
          · refine ⟨μ, -1000000001, ze_in [(0, .ref 1), (1, .int (nI s)), (2, .int x), (3, .int y)] zq_Desk_at (Nat.le_of_ble_eq_true rfl) rfl ⟨N1, 23, fun F n hF => ?_⟩, zJ_eqv.refl⟩
            simp [zg_0, zg_aaload, zg_aload, zg_aload_n, zg_astore, zg_getfield, zg_goto, zg_iaload, zg_iconst, zg_ifCond, zg_if_icmp, zg_iinc, zg_iload, zg_iload_n, zg_invokestatic, zg_invokevirtual, zg_ireturn, zg_istore, zg_isub, zg_ldc, zf_X5_at, zi_ld, zi_lda, zi_cmp, zi_retOk, zi_isI, zi_f3, zi_cr, zi_ci, zi_cn, zi_get, zi_set, zq_Desk_isScreen, E1 F (by omega), zd_g, zd_s hs, zdS_g hs, c3, q1, zm_iald (k := 0) A zm_in0, zm_cl0, q2, q3, n4]
          · by_cases q4 : y < μ (zdZ s) 1
            · obtain ⟨hr1, hr2, hs1, hs2⟩ := zJ_rowL h
              have hl := hs1.1
              obtain ⟨N2, E2⟩ := ze_Row_sizeL (μ := μ) (D + 5) zd5_at hs1
              have cr := zr_c (μ := μ) zd5_at
              have S0 : ze_S (D + 6) 6 (some .int) zc_X5_at 0 [(0, .ref 1), (1, .int (nI s)), (2, .int x), (3, .int y)] [] (zm_mk μ) 70 [(4, .ref (zdS s + 1)), (0, .ref 1), (1, .int (nI s)), (2, .int x), (3, .int y)] [.int 1, .int (nI stk.length)] (zm_mk μ) := by
                refine ⟨N1 + N2, 31, fun F n hF => ?_⟩
                simp [zg_0, zg_aaload, zg_aload, zg_aload_n, zg_astore, zg_getfield, zg_goto, zg_iaload, zg_iconst, zg_ifCond, zg_if_icmp, zg_iinc, zg_iload, zg_iload_n, zg_invokestatic, zg_invokevirtual, zg_ireturn, zg_istore, zg_isub, zg_ldc, zf_X5_at, zi_ld, zi_lda, zi_cmp, zi_retOk, zi_isI, zi_f3, zi_cr, zi_ci, zi_cn, zi_get, zi_set, zq_Desk_isScreen, E1 F (by omega), zd_g, zd_s hs, zdS_g hs, c3, q1, zm_iald (k := 0) A zm_in0, zm_iald (k := 0) A zm_in1, zm_cl0, zm_cl1, q2, q3, q4, zq_Row_size, cr, E2 F (by omega)]
              have key : ∃ r h', ze_G (D + 6) 6 (some .int) zc_X5_at 73 [(5, .int (zl_dn stk.length 0)), (4, .ref (zdS s + 1)), (0, .ref 1), (1, .int (nI s)), (2, .int x), (3, .int y)] [] (zm_mk μ) r h' ∧ ((∃ v, r = some (.int v)) ∧ ∃ ν, zm_mk ν = h' ∧ zJ_eqv μ ν) := by
                refine ze_loop (Q := fun i L hp => i ≤ stk.length ∧ zi_nl L = true ∧ zi_get L 0 = some (.ref 1) ∧ zi_get L 1 = some (.int (nI s)) ∧ zi_get L 2 = some (.int x) ∧ zi_get L 3 = some (.int y) ∧ zi_get L 4 = some (.ref (zdS s + 1)) ∧ zi_get L 5 = some (.int (zl_dn stk.length i)) ∧ zm_mk μ = hp ∧ (True)) (R := fun r h' => (∃ v, r = some (.int v)) ∧ ∃ ν, zm_mk ν = h' ∧ zJ_eqv μ ν) stk.length ?_ ?_ stk.length 0 _ _ (by omega) ⟨by omega, rfl, rfl, rfl, rfl, rfl, rfl, rfl, rfl, trivial⟩
                · rintro i L _ hi ⟨-, nl, g0, g1, g2, g3, g4, g5, rfl, hq⟩
                  have hkm : stk.getD (stk.length - 1 - i) 0 ∈ stk := zl_mem (by omega)
                  obtain ⟨N3, E3⟩ := ze_Row_getL (μ := μ) (i := stk.length - 1 - i) (D + 5) zd5_at hs1 (by omega)
                  have hd0 : zl_dn stk.length i = nI (stk.length - 1 - i) := if_pos hi
                  have hd1 : nI (stk.length - 1 - i) + -1 = zl_dn stk.length (i + 1) := by
                    have : ∀ n, n < 11 → ∀ i, i < n → nI (n - 1 - i) + -1 = zl_dn n (i + 1) := by decide
                    exact this _ (by omega) i hi
                  rw [hd0] at g5
                  generalize stk.getD (stk.length - 1 - i) 0 = k at hkm E3
                  have hk := hs2 k hkm
                  obtain ⟨v, hv, N4, E4⟩ := ze_coversPoint (μ := μ) (D + 1) hk A x y (nI s)
                  have c1 : ¬ nI (stk.length - 1 - i) < 0 := nI_pos (by omega)
                  have cw := zw_c (μ := μ) (zdW_at hk)
                  have om : Int32.ofInt (-1) = -1 := by decide
                  rcases hv with rfl | rfl
                  · left
                    refine ⟨zi_set L 5 (.int (zl_dn stk.length (i + 1))), zm_mk μ, ⟨N3 + N4, 18, fun F m hF => ?_⟩, by omega, ?_, ?_, ?_, ?_, ?_, ?_, zi_get_set_eq, rfl, trivial⟩
                    · simp (maxDischargeDepth := 9) [zg_0, zg_aaload, zg_aload, zg_aload_n, zg_astore, zg_getfield, zg_goto, zg_iaload, zg_iconst, zg_ifCond, zg_if_icmp, zg_iinc, zg_iload, zg_iload_n, zg_invokestatic, zg_invokevirtual, zg_ireturn, zg_istore, zg_isub, zg_ldc, zf_X5_at, zi_ld, zi_lda, zi_cmp, zi_retOk, zi_isI, zi_f3, zi_cr, zi_ci, zi_cn, zi_get_ne, zi_nl_i, zi_nl_r, zi_get_set_eq, nl, g0, g1, g2, g3, g4, g5, c1, zd_g, zq_Row_get, cr, E3 F (by omega), zd_w hk, zdS_g hs, zq_Win_coversPoint, cw, E4 F (by omega), om, hd1, nI_1]
                    · simp (maxDischargeDepth := 9) [zi_get_ne, zi_nl_i, zi_nl_r, zi_get_set_eq, nl]
                    · simp (maxDischargeDepth := 9) [zi_get_ne, zi_nl_i, zi_nl_r, zi_get_set_eq, nl, g0]
                    · simp (maxDischargeDepth := 9) [zi_get_ne, zi_nl_i, zi_nl_r, zi_get_set_eq, nl, g1]
                    · simp (maxDischargeDepth := 9) [zi_get_ne, zi_nl_i, zi_nl_r, zi_get_set_eq, nl, g2]
                    · simp (maxDischargeDepth := 9) [zi_get_ne, zi_nl_i, zi_nl_r, zi_get_set_eq, nl, g3]
                    · simp (maxDischargeDepth := 9) [zi_get_ne, zi_nl_i, zi_nl_r, zi_get_set_eq, nl, g4]
                  · right
                    refine ⟨some (.int (nI k)), zm_mk μ, ⟨N3 + N4, 21, fun F m hF => ?_⟩, ⟨nI k, rfl⟩, μ, rfl, zJ_eqv.refl⟩
                    simp (maxDischargeDepth := 9) [zg_0, zg_aaload, zg_aload, zg_aload_n, zg_astore, zg_getfield, zg_goto, zg_iaload, zg_iconst, zg_ifCond, zg_if_icmp, zg_iinc, zg_iload, zg_iload_n, zg_invokestatic, zg_invokevirtual, zg_ireturn, zg_istore, zg_isub, zg_ldc, zf_X5_at, zi_ld, zi_lda, zi_cmp, zi_retOk, zi_isI, zi_f3, zi_cr, zi_ci, zi_cn, zi_get_ne, zi_nl_i, zi_nl_r, zi_get_set_eq, nl, g0, g1, g2, g3, g4, g5, c1, zd_g, zq_Row_get, cr, E3 F (by omega), zd_w hk, zdS_g hs, zq_Win_coversPoint, cw, E4 F (by omega), nI_1]
                · rintro L _ ⟨-, nl, g0, g1, g2, g3, g4, g5, rfl, hq⟩
                  have hd0 : zl_dn stk.length stk.length = -1 := if_neg (by omega)
                  rw [hd0] at g5
                  obtain ⟨ν, ⟨N4, E4⟩, f4, -⟩ := ze_layTrees (μ := μ) D (fun s hs => (h.2.2.2.1 s hs).1)
                  have hev := zd_frA_eqv f4
                  have hJ := h.eqv hev
                  obtain ⟨v, N5, E5⟩ := ze_shownAt (μ := ν) (D + 1) (zdT_at hs) (zt_I_hm (hJ.2.2.2.1 s hs).1.1) x y
                  obtain ⟨lt, ct⟩ := zt_c (μ := ν) (zdT_at hs)
                  have c1 : (-1 : Int32) < 0 := by decide
                  refine ⟨some (.int v), zm_mk ν, ⟨N4 + N5, 10, fun F m hF => ?_⟩, ⟨v, rfl⟩, ν, rfl, hev⟩
                  simp [zg_0, zg_aaload, zg_aload, zg_aload_n, zg_astore, zg_getfield, zg_goto, zg_iaload, zg_iconst, zg_ifCond, zg_if_icmp, zg_iinc, zg_iload, zg_iload_n, zg_invokestatic, zg_invokevirtual, zg_ireturn, zg_istore, zg_isub, zg_ldc, zf_X5_at, zi_ld, zi_lda, zi_cmp, zi_retOk, zi_isI, zi_f3, zi_cr, zi_ci, zi_cn, g0, g2, g3, g4, g5, c1, zdS_g hs, zq_Desk_layTrees, zd_c, E4 F (by omega), zq_Tree_shownAt, ct, E5 F (by omega)]
              obtain ⟨r, h', G, ⟨v, rfl⟩, ν, rfl, hev⟩ := key
              refine ⟨ν, v, ze_in [(0, .ref 1), (1, .int (nI s)), (2, .int x), (3, .int y)] zq_Desk_at (Nat.le_of_ble_eq_true rfl) rfl ((S0.trans (ze_at_1 (D + 6) hl _ _)).end (ze_S.end (p2 := 73) (s2 := []) (h2 := zm_mk μ) ⟨0, 1, fun F m hF => ?_⟩ G)), hev⟩
              simp [zg_0, zg_aaload, zg_aload, zg_aload_n, zg_astore, zg_getfield, zg_goto, zg_iaload, zg_iconst, zg_ifCond, zg_if_icmp, zg_iinc, zg_iload, zg_iload_n, zg_invokestatic, zg_invokevirtual, zg_ireturn, zg_istore, zg_isub, zg_ldc, zf_X5_at, zi_ld, zi_lda, zi_cmp, zi_retOk, zi_isI, zi_f3, zi_cr, zi_ci, zi_cn, zi_get, zi_set]
            · refine ⟨μ, -1000000001, ze_in [(0, .ref 1), (1, .int (nI s)), (2, .int x), (3, .int y)] zq_Desk_at (Nat.le_of_ble_eq_true rfl) rfl ⟨N1, 29, fun F n hF => ?_⟩, zJ_eqv.refl⟩
              simp [zg_0, zg_aaload, zg_aload, zg_aload_n, zg_astore, zg_getfield, zg_goto, zg_iaload, zg_iconst, zg_ifCond, zg_if_icmp, zg_iinc, zg_iload, zg_iload_n, zg_invokestatic, zg_invokevirtual, zg_ireturn, zg_istore, zg_isub, zg_ldc, zf_X5_at, zi_ld, zi_lda, zi_cmp, zi_retOk, zi_isI, zi_f3, zi_cr, zi_ci, zi_cn, zi_get, zi_set, zq_Desk_isScreen, E1 F (by omega), zd_g, zd_s hs, zdS_g hs, c3, q1, zm_iald (k := 0) A zm_in0, zm_iald (k := 0) A zm_in1, zm_cl0, zm_cl1, q2, q3, q4, n4]
  · obtain ⟨N1, E1⟩ := ze_isScreen_out (h := zm_mk μ) (D + 5) hout
    refine ⟨μ, -1000000001, ze_in [(0, .ref 1), (1, .int w), (2, .int x), (3, .int y)] zq_Desk_at (Nat.le_of_ble_eq_true rfl) rfl ⟨N1, 5, fun F n hF => ?_⟩, zJ_eqv.refl⟩
    simp [zg_0, zg_aaload, zg_aload, zg_aload_n, zg_astore, zg_getfield, zg_goto, zg_iaload, zg_iconst, zg_ifCond, zg_if_icmp, zg_iinc, zg_iload, zg_iload_n, zg_invokestatic, zg_invokevirtual, zg_ireturn, zg_istore, zg_isub, zg_ldc, zf_X5_at, zi_ld, zi_lda, zi_cmp, zi_retOk, zi_isI, zi_f3, zi_cr, zi_ci, zi_cn, zi_get, zi_set, zq_Desk_isScreen, E1 F (by omega), n4]
/-- what is forgotten takes nothing else away -/
theorem zJ.fgt {p : Nat → Bool} (h : zJ μ row stk Rs ts) (f : zd_fgt μ ν p) : zJ ν row stk Rs ts := by
  obtain ⟨h1, h2, h3, h4, h5, h6⟩ := h
  obtain ⟨f1, f2⟩ := f
  have rw' : ∀ c, (∀ s, s < 3 → c ≠ zdK s) → ν c = μ c := fun c hc => funext fun b => f2 c b (fun s hs e => absurd e (hc s hs))
  have eW : ∀ k, k < 10 → ν (zdW k) = μ (zdW k) := fun k hk => rw' _ (fun s hs => by unfold zdW zdK; omega)
  have eL : ∀ k, k < 10 → ν (zdW k + 1) = μ (zdW k + 1) := fun k hk => rw' _ (fun s hs => by unfold zdW zdK; omega)
  have eT : ∀ s, s < 3 → ∀ j, j < 19 → ν (zdT s + j) = μ (zdT s + j) := fun s hs j hj => rw' _ (fun s hs => by unfold zdT zdK; omega)
  have eV : ∀ s, s < 3 → ∀ j, j < 19 → ν (zdV s + j) = μ (zdV s + j) := fun s hs j hj => rw' _ (fun s hs => by unfold zdV zdK; omega)
  have eS : ∀ s, s < 3 → ν (zdS s) = μ (zdS s) ∧ ν (zdZ s) = μ (zdZ s) ∧ ν (zdQ s) = μ (zdQ s) := fun s hs => ⟨rw' _ (fun s hs => by unfold zdS zdK; omega), rw' _ (fun s hs => by unfold zdZ zdK; omega), rw' _ (fun s hs => by unfold zdQ zdK; omega)⟩
  have th : ∀ k, k < 10 → zd_th ν k = zd_th μ k := fun k hk => by unfold zd_th; rw [eW k hk]
  have til : ∀ k, k < 10 → zd_til ν k = zd_til μ k := fun k hk => by unfold zd_til; rw [eW k hk]
  have e0 : ∀ c, c < 7 → ν c = μ c := fun c hc => rw' c (fun s hs => by unfold zdK; omega)
  refine ⟨⟨zr_L_congr (e0 _ (by decide)) (e0 _ (by decide)) h1.1, h1.2.1, fun k => ?_⟩, ⟨zr_L_congr (e0 _ (by decide)) (e0 _ (by decide)) h2.1, h2.2⟩, fun k hk ht => ?_, fun s hs => ?_, fun s hs => ?_, fun s hs ht => ?_⟩
  · rw [h1.2.2 k]
    constructor
    · rintro ⟨a, b⟩
      exact ⟨a, by rw [th k a]; exact b⟩
    · rintro ⟨a, b⟩
      exact ⟨a, by rw [← th k a]; exact b⟩
  · rw [th k hk] at ht
    obtain ⟨a1, a2, a3, a4, a5⟩ := h3 k hk ht
    rw [eW k hk, eL k hk]
    refine ⟨a1, a2, fun q => ?_, fun q => ?_, a5⟩
    · obtain ⟨s, b1, b2, b3⟩ := a3 q
      exact ⟨s, b1, b2, by rw [(eS s b1).1]; exact b3⟩
    · obtain ⟨o, b1, b2, b3, b4⟩ := a4 q
      exact ⟨o, b1, b2, b3, by rw [th o b1]; exact b4⟩
  · obtain ⟨a1, a2, a3⟩ := h4 s hs
    refine ⟨zt_C_19 (eT s hs) a1, fun k => ?_, fun k hk => ?_⟩
    · rw [a2 k]
      constructor
      · rintro ⟨b1, b2⟩
        exact ⟨b1, by rw [til k b1, eW k b1]; exact b2⟩
      · rintro ⟨b1, b2⟩
        exact ⟨b1, by rw [til k b1, eW k b1] at b2; exact b2⟩
    · have hk10 := ((a2 k).mp hk).1
      rw [eT s hs 5 (by omega), eT s hs 6 (by omega), eL k hk10]
      exact a3 k hk
  · obtain ⟨a1, a2⟩ := h5 s hs
    refine ⟨zt_C_19 (eV s hs) a1, fun q => ?_⟩
    have q' : ¬ μ (zdK s) 3 = 0 := fun e => q (by rw [f1 s hs, e]; split <;> rfl)
    obtain ⟨b1, b2, b3⟩ := a2 q'
    refine ⟨by rw [(eS s hs).1]; exact b1, fun k hk => ?_, fun k hk hq => ?_⟩
    · have hk10 := a1.1.1.2.2 k hk
      rw [eV s hs 5 (by omega), eV s hs 6 (by omega), eL k hk10, til k hk10]
      exact b2 k hk
    · rw [(eS s hs).2.2] at hq
      rw [th k hk, eW k hk]
      exact b3 k hk hq
  · rw [(eS s hs).1] at ht
    obtain ⟨a1, a2⟩ := h6 s hs ht
    rw [(eS s hs).2.1]
    refine ⟨a1, ?_⟩
    unfold zt_fit at *
    rw [zt_lsz_19 (eT s hs) (by decide), zt_lsz_19 (eT s hs) (by decide), (eS s hs).2.1]
    exact a2
end ZQ6
end
section
/-! the desk: move, share -/
section ZQ7
variable {μ ν : zm_M} {row stk : List Nat} {Rs : Nat → List Nat} {ts : Nat → zy_F}
/-- a place is a cell that no answer of ours rests on -/
theorem zJ_eqv_W {k : Nat} (hk : k < 10) (f : ∀ c, c ≠ zdW k + 2 → ν c = μ c) : zJ_eqv μ ν := fun c hc => f c (fun e => hc (by unfold zJ_irr; rw [e]; unfold zdW; omega))
/-- move: refused, or what is kept with the window is forgotten -/
noncomputable def zd_mov (μ ν : zm_M) (w x y : Int32) : Prop :=
  (¬ (∃ k, k < 10 ∧ w = nI k ∧ zd_flo μ k = true ∧ (-1000 ≤ x ∧ x ≤ 1000) ∧ -1000 ≤ y ∧ y ≤ 1000) ∧ ν = μ) ∨ ∃ k ξ, k < 10 ∧ w = nI k ∧ zd_flo μ k = true ∧ ((-1000 ≤ x ∧ x ≤ 1000) ∧ -1000 ≤ y ∧ y ≤ 1000) ∧ zd_fgt μ ξ (fun s => zd_has μ s k) ∧ zJ_eqv ξ ν
set_option maxRecDepth 100000 in
theorem ze_move (D : Nat) (h : zJ μ row stk Rs ts) (w x y : Int32) : ∃ ν v, ze_E (D + 5) A_Desk_move [.ref 1, .int w, .int x, .int y] (zm_mk μ) (some (.int v)) (zm_mk ν) ∧ zJ ν row stk Rs ts ∧ zd_mov μ ν w x y := by
  have n4 : Int32.ofInt (-1000000001) = -1000000001 := by decide
  have n2 : Int32.ofInt (-1000000002) = -1000000002 := by decide
  have h400 : (Int16.ofInt 400).toInt32 = (400 : Int32) := by decide
  have hno : ze_E (D + 4) A_Desk_isWindow [.ref 1, .int w] (zm_mk μ) (some (.int 0)) (zm_mk μ) → (∀ k, k < 10 → w = nI k → ¬ zd_th μ k = true) → ∃ ν v, ze_E (D + 5) A_Desk_move [.ref 1, .int w, .int x, .int y] (zm_mk μ) (some (.int v)) (zm_mk ν) ∧ zJ ν row stk Rs ts ∧ zd_mov μ ν w x y := by
    rintro ⟨N1, E1⟩ hn
    refine ⟨μ, -1000000001, ze_in [(0, .ref 1), (1, .int w), (2, .int x), (3, .int y)] zq_Desk_move (Nat.le_of_ble_eq_true rfl) rfl ⟨N1, 6, fun F n hF => ?_⟩, h, Or.inl ⟨fun q => ?_, rfl⟩⟩
    · simp [zg_0, zg_aaload, zg_aload, zg_aload_n, zg_astore, zg_getfield, zg_goto, zg_iastore, zg_iconst, zg_ifCond, zg_iload_n, zg_invokestatic, zg_invokevirtual, zg_ireturn, zg_ldc, zg_sipush, zf_X5_move, zi_ld, zi_lda, zi_cmp, zi_retOk, zi_isI, zi_f3, zi_cr, zi_ci, zi_cn, zi_get, zi_set, zq_Desk_isWindow, zd_c, E1 F (by omega), n4]
    · obtain ⟨k, hk, e, hf, -⟩ := q
      exact hn k hk e (decide_eq_true (of_decide_eq_true hf).1)
  rcases zd_rng w 10 (by decide) with ⟨k, hk, rfl⟩ | hout
  · have inj : ∀ k', k' < 10 → nI k = nI k' → k' = k := fun k' hk' e => ((nI_eq (by omega) (by omega)).mp e).symm
    have E1 := ze_thW (μ := μ) (D + 3) hk
    by_cases c1 : zd_th μ k = true
    · rw [if_pos c1] at E1
      obtain ⟨N1, E1⟩ := E1
      obtain ⟨N2, E2⟩ := ze_isPlace (h := zm_mk μ) (D + 3) x
      obtain ⟨N3, E3⟩ := ze_isPlace (h := zm_mk μ) (D + 3) y
      by_cases c2 : -1000 ≤ x ∧ x ≤ 1000
      · have z2 : zb (-1000 ≤ x ∧ x ≤ 1000) = 1 := if_pos c2
        rw [z2] at E2
        by_cases c3 : -1000 ≤ y ∧ y ≤ 1000
        · have z3 : zb (-1000 ≤ y ∧ y ≤ 1000) = 1 := if_pos c3
          rw [z3] at E3
          obtain ⟨N4, E4⟩ := ze_floW (μ := μ) (D + 3) hk
          have cw := zw_c (μ := μ) (zdW_at hk)
          by_cases c4 : zd_flo μ k = true
          · rw [if_pos c4] at E4
            obtain ⟨ξ, ⟨N5, E5⟩, hf⟩ := ze_forgetKeptWith (μ := μ) (D + 1) hk
            have hJ := h.fgt hf
            have ew : ξ (zdW k) = μ (zdW k) := funext fun b => hf.2 _ b (fun s hs e => by unfold zdW zdK at e; omega)
            obtain ⟨N6, E6⟩ := ze_stiW (μ := ξ) (D + 3) hk
            have cw' := zw_c (μ := ξ) (zdW_at hk)
            have w2 := (zdW_at hk).2.2
            have S0 : ze_S (D + 4) 5 (some .int) zc_X5_move 0 [(0, .ref 1), (1, .int (nI k)), (2, .int x), (3, .int y)] [] (zm_mk μ) 49 [(4, .ref (zdW k + 1)), (0, .ref 1), (1, .int (nI k)), (2, .int x), (3, .int y)] [] (zm_mk ξ) := by
              refine ⟨N1 + N2 + N3 + N4 + N5, 21, fun F n hF => ?_⟩
              simp [zg_0, zg_aaload, zg_aload, zg_aload_n, zg_astore, zg_getfield, zg_goto, zg_iastore, zg_iconst, zg_ifCond, zg_iload_n, zg_invokestatic, zg_invokevirtual, zg_ireturn, zg_ldc, zg_sipush, zf_X5_move, zi_ld, zi_lda, zi_cmp, zi_retOk, zi_isI, zi_f3, zi_cr, zi_ci, zi_cn, zi_get, zi_set, zq_Desk_isWindow, zd_c, E1 F (by omega), zq_Desk_isPlace, E2 F (by omega), E3 F (by omega), zd_g, zd_w hk, zq_Win_isFloating, cw, E4 F (by omega), zq_Desk_forgetKeptWith, E5 F (by omega)]
            by_cases c5 : zd_sti ξ k = true
            · rw [if_pos c5] at E6
              obtain ⟨N7, E7⟩ := ze_between (h := zm_mk ξ) (D + 2) 0 x 400
              let ν1 := zm_up ξ (zdW k + 2) 0 (zi_bt 0 x 400)
              obtain ⟨N8, E8⟩ := ze_between (h := zm_mk ν1) (D + 2) 0 y 400
              have ev : zJ_eqv ξ (zm_up ν1 (zdW k + 2) 1 (zi_bt 0 y 400)) := zJ_eqv_W hk (fun c hc => by rw [zm_up_row hc]; exact zm_up_row hc)
              refine ⟨zm_up ν1 (zdW k + 2) 1 (zi_bt 0 y 400), 0, ze_in [(0, .ref 1), (1, .int (nI k)), (2, .int x), (3, .int y)] zq_Desk_move (Nat.le_of_ble_eq_true rfl) rfl (S0.end ⟨N6 + N7 + N8, 22, fun F n hF => ?_⟩), hJ.eqv ev, Or.inr ⟨k, ξ, hk, rfl, c4, ⟨c2, c3⟩, hf, ev⟩⟩
              have m1 : zm_up ξ (zdW k + 2) 0 (zi_bt 0 x 400) = ν1 := rfl
              simp [zg_0, zg_aaload, zg_aload, zg_aload_n, zg_astore, zg_getfield, zg_goto, zg_iastore, zg_iconst, zg_ifCond, zg_iload_n, zg_invokestatic, zg_invokevirtual, zg_ireturn, zg_ldc, zg_sipush, zf_X5_move, zi_ld, zi_lda, zi_cmp, zi_retOk, zi_isI, zi_f3, zi_cr, zi_ci, zi_cn, zi_get, zi_set, zq_Win_isSticky, cw', E6 F (by omega), zw_g (zdW_at hk), h400, zq_Desk_between, E7 F (by omega), zm_iast w2 zm_in0, zm_iast w2 zm_in1, zm_cl0, zm_cl1, m1, E8 F (by omega)]
            · rw [if_neg c5] at E6
              have h4 : ¬ ξ (zdW k) 3 = 4 := fun e => c5 (decide_eq_true ⟨by rw [ew]; exact (of_decide_eq_true c1), e⟩)
              obtain ⟨-, -, a3, -, -⟩ := h.2.2.1 k hk c1
              obtain ⟨s, hs, es, -⟩ := a3 (by rw [← ew]; exact h4)
              have es' : ξ (zdW k) 5 = nI s := by rw [ew]; exact es
              obtain ⟨N7, E7⟩ := ze_putAt (μ := ξ) D (zdW_at hk) (zdZ_A hs) (by unfold zdZ zdW; omega) x y
              have ev : zJ_eqv ξ (zw_put ξ (zdW k) (zdZ s) x y) := zJ_eqv_W hk (fun c hc => by unfold zw_put; rw [zm_up_row hc, zm_up_row hc])
              refine ⟨zw_put ξ (zdW k) (zdZ s) x y, 0, ze_in [(0, .ref 1), (1, .int (nI k)), (2, .int x), (3, .int y)] zq_Desk_move (Nat.le_of_ble_eq_true rfl) rfl (S0.end ⟨N6 + N7, 15, fun F n hF => ?_⟩), hJ.eqv ev, Or.inr ⟨k, ξ, hk, rfl, c4, ⟨c2, c3⟩, hf, ev⟩⟩
              simp [zg_0, zg_aaload, zg_aload, zg_aload_n, zg_astore, zg_getfield, zg_goto, zg_iastore, zg_iconst, zg_ifCond, zg_iload_n, zg_invokestatic, zg_invokevirtual, zg_ireturn, zg_ldc, zg_sipush, zf_X5_move, zi_ld, zi_lda, zi_cmp, zi_retOk, zi_isI, zi_f3, zi_cr, zi_ci, zi_cn, zi_get, zi_set, zq_Win_isSticky, cw', E6 F (by omega), zw_g (zdW_at hk), zd_g, es', zd_s hs, zdS_g hs, zq_Win_putAt, E7 F (by omega)]
          · rw [if_neg c4] at E4
            refine ⟨μ, -1000000002, ze_in [(0, .ref 1), (1, .int (nI k)), (2, .int x), (3, .int y)] zq_Desk_move (Nat.le_of_ble_eq_true rfl) rfl ⟨N1 + N2 + N3 + N4, 20, fun F n hF => ?_⟩, h, Or.inl ⟨fun q => ?_, rfl⟩⟩
            · simp [zg_0, zg_aaload, zg_aload, zg_aload_n, zg_astore, zg_getfield, zg_goto, zg_iastore, zg_iconst, zg_ifCond, zg_iload_n, zg_invokestatic, zg_invokevirtual, zg_ireturn, zg_ldc, zg_sipush, zf_X5_move, zi_ld, zi_lda, zi_cmp, zi_retOk, zi_isI, zi_f3, zi_cr, zi_ci, zi_cn, zi_get, zi_set, zq_Desk_isWindow, zd_c, E1 F (by omega), zq_Desk_isPlace, E2 F (by omega), E3 F (by omega), zd_g, zd_w hk, zq_Win_isFloating, cw, E4 F (by omega), n2]
            · obtain ⟨k', hk', e, hf, -⟩ := q
              rw [inj k' hk' e] at hf
              exact c4 hf
        · have z3 : zb (-1000 ≤ y ∧ y ≤ 1000) = 0 := if_neg c3
          rw [z3] at E3
          refine ⟨μ, -1000000001, ze_in [(0, .ref 1), (1, .int (nI k)), (2, .int x), (3, .int y)] zq_Desk_move (Nat.le_of_ble_eq_true rfl) rfl ⟨N1 + N2 + N3, 12, fun F n hF => ?_⟩, h, Or.inl ⟨fun q => ?_, rfl⟩⟩
          · simp [zg_0, zg_aaload, zg_aload, zg_aload_n, zg_astore, zg_getfield, zg_goto, zg_iastore, zg_iconst, zg_ifCond, zg_iload_n, zg_invokestatic, zg_invokevirtual, zg_ireturn, zg_ldc, zg_sipush, zf_X5_move, zi_ld, zi_lda, zi_cmp, zi_retOk, zi_isI, zi_f3, zi_cr, zi_ci, zi_cn, zi_get, zi_set, zq_Desk_isWindow, zd_c, E1 F (by omega), zq_Desk_isPlace, E2 F (by omega), E3 F (by omega), n4]
          · obtain ⟨k', hk', e, hf, -, q⟩ := q
            exact c3 q
      · have z2 : zb (-1000 ≤ x ∧ x ≤ 1000) = 0 := if_neg c2
        rw [z2] at E2
        refine ⟨μ, -1000000001, ze_in [(0, .ref 1), (1, .int (nI k)), (2, .int x), (3, .int y)] zq_Desk_move (Nat.le_of_ble_eq_true rfl) rfl ⟨N1 + N2, 9, fun F n hF => ?_⟩, h, Or.inl ⟨fun q => ?_, rfl⟩⟩
        · simp [zg_0, zg_aaload, zg_aload, zg_aload_n, zg_astore, zg_getfield, zg_goto, zg_iastore, zg_iconst, zg_ifCond, zg_iload_n, zg_invokestatic, zg_invokevirtual, zg_ireturn, zg_ldc, zg_sipush, zf_X5_move, zi_ld, zi_lda, zi_cmp, zi_retOk, zi_isI, zi_f3, zi_cr, zi_ci, zi_cn, zi_get, zi_set, zq_Desk_isWindow, zd_c, E1 F (by omega), zq_Desk_isPlace, E2 F (by omega), n4]
        · obtain ⟨k', hk', e, hf, q, -⟩ := q
          exact c2 q
    · rw [if_neg c1] at E1
      exact hno E1 (fun k' hk' e => by rw [inj k' hk' e]; exact c1)
  · exact hno (ze_isWindow_out (D + 3) hout) (fun k hk e => by
      rw [e] at hout
      exact absurd hout (fun q => q.elim (nI_pos (by omega)) (nI_ge (b := 10) hk (by decide))))
end ZQ7
end
