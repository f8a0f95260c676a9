/-! the desk's questions: about, told, count, neighbour -/
section ZQ2
variable {μ : zm_M} {row stk : List Nat} {Rs : Nat → List Nat} {ts : Nat → zy_F}
theorem zd_sw {x : Int32} {n : Nat} (hn : n < 2 ^ 31) (h : x < 0 ∨ nI n ≤ x) : x.toInt < 0 ∨ (n : Int) ≤ x.toInt := by
  rcases h with q | q
  · left
    exact Int32.lt_iff_toInt_lt.mp q
  · right
    have := Int32.le_iff_toInt_le.mp q
    rw [nI_toInt hn] at this
    exact this
theorem zJ_rowL (h : zJ μ row stk Rs ts) : zr_L μ 3 row ∧ (∀ j ∈ row, j < 10) ∧ zr_L μ 5 stk ∧ (∀ j ∈ stk, j < 10) := ⟨h.1.1, fun j hj => ((h.1.2.2 j).mp hj).1, h.2.1.1, h.2.1.2.2⟩
set_option maxRecDepth 100000 in
theorem ze_about (D : Nat) (h : zJ μ row stk Rs ts) (w x : Int32) : ∃ v, ze_E (D + 4) A_Desk_about [.ref 1, .int w, .int x] (zm_mk μ) (some (.int v)) (zm_mk μ) := by
  have n4 : Int32.ofInt (-1000000001) = -1000000001 := by decide
  have n5 : Int32.ofInt (-1000000005) = -1000000005 := by decide
  obtain ⟨hr1, hr2, hs1, hs2⟩ := zJ_rowL h
  have hno : ze_E (D + 3) A_Desk_isWindow [.ref 1, .int w] (zm_mk μ) (some (.int 0)) (zm_mk μ) → ∃ v, ze_E (D + 4) A_Desk_about [.ref 1, .int w, .int x] (zm_mk μ) (some (.int v)) (zm_mk μ) := by
    rintro ⟨N1, E1⟩
    refine ⟨-1000000001, ze_in [(0, .ref 1), (1, .int w), (2, .int x)] zq_Desk_about (Nat.le_of_ble_eq_true rfl) rfl ⟨N1, 6, fun F n hF => ?_⟩⟩
    simp [zg_0, zg_aaload, zg_aload_n, zg_astore_n, zg_getfield, zg_goto, zg_iaload, zg_iconst, zg_ifCond, zg_iload_n, zg_invokevirtual, zg_ireturn, zg_isub, zg_ldc, zg_tableswitch, zf_X5_about, zi_ld, zi_lda, zi_cmp, zi_retOk, zi_isI, zi_f3, zi_cr, zi_ci, zi_cn, zi_get, zi_set, zq_Desk_isWindow, zd_c, E1 F (by omega), n4]
  rcases zd_rng w 10 (by decide) with ⟨k, hk, rfl⟩ | hout
  · have E1 := ze_thW (μ := μ) (D + 2) hk
    by_cases c1 : zd_th μ k = true
    · rw [if_pos c1] at E1
      obtain ⟨N1, E1⟩ := E1
      have cw := zw_c (μ := μ) (zdW_at hk)
      have S0 : ze_S (D + 3) 4 (some .int) zc_X5_about 0 [(0, .ref 1), (1, .int (nI k)), (2, .int x)] [] (zm_mk μ) 19 [(3, .ref (zdW k + 1)), (0, .ref 1), (1, .int (nI k)), (2, .int x)] [.int x] (zm_mk μ) := by
        refine ⟨N1, 10, fun F n hF => ?_⟩
        simp [zg_0, zg_aaload, zg_aload_n, zg_astore_n, zg_getfield, zg_goto, zg_iaload, zg_iconst, zg_ifCond, zg_iload_n, zg_invokevirtual, zg_ireturn, zg_isub, zg_ldc, zg_tableswitch, zf_X5_about, zi_ld, zi_lda, zi_cmp, zi_retOk, zi_isI, zi_f3, zi_cr, zi_ci, zi_cn, zi_get, zi_set, zq_Desk_isWindow, zd_c, E1 F (by omega), zd_g, zd_w hk]
      have fin : ∃ v, ze_G (D + 3) 4 (some .int) zc_X5_about 19 [(3, .ref (zdW k + 1)), (0, .ref 1), (1, .int (nI k)), (2, .int x)] [.int x] (zm_mk μ) (some (.int v)) (zm_mk μ) := by
        have w1 := (zdW_at hk).2.1
        rcases zd_rng x 7 (by decide) with ⟨j, hj, rfl⟩ | ho
        · match j, hj with
          | 0, _ =>
            have t0 : (nI 0).toInt = 0 := by decide
            refine ⟨μ (zdW k) 3, 0, 4, fun F n hF => ?_⟩
            simp [zg_0, zg_aaload, zg_aload_n, zg_astore_n, zg_getfield, zg_goto, zg_iaload, zg_iconst, zg_ifCond, zg_iload_n, zg_invokevirtual, zg_ireturn, zg_isub, zg_ldc, zg_tableswitch, zf_X5_about, zi_ld, zi_lda, zi_cmp, zi_retOk, zi_isI, zi_f3, zi_cr, zi_ci, zi_cn, zi_get, zi_set, t0, zw_g (zdW_at hk)]
          | 1, _ =>
            have t0 : (nI 1).toInt = 1 := by decide
            have hm : nI 1 - 1 = 0 := by decide
            refine ⟨μ (zdW k + 1) 0, 0, 8, fun F n hF => ?_⟩
            simp [zg_0, zg_aaload, zg_aload_n, zg_astore_n, zg_getfield, zg_goto, zg_iaload, zg_iconst, zg_ifCond, zg_iload_n, zg_invokevirtual, zg_ireturn, zg_isub, zg_ldc, zg_tableswitch, zf_X5_about, zi_ld, zi_lda, zi_cmp, zi_retOk, zi_isI, zi_f3, zi_cr, zi_ci, zi_cn, zi_get, zi_set, t0, hm, zw_g (zdW_at hk), zm_iald (k := 0) w1 zm_in0, zm_cl0]
          | 2, _ =>
            have t0 : (nI 2).toInt = 2 := by decide
            have hm : nI 2 - 1 = 1 := by decide
            refine ⟨μ (zdW k + 1) 1, 0, 8, fun F n hF => ?_⟩
            simp [zg_0, zg_aaload, zg_aload_n, zg_astore_n, zg_getfield, zg_goto, zg_iaload, zg_iconst, zg_ifCond, zg_iload_n, zg_invokevirtual, zg_ireturn, zg_isub, zg_ldc, zg_tableswitch, zf_X5_about, zi_ld, zi_lda, zi_cmp, zi_retOk, zi_isI, zi_f3, zi_cr, zi_ci, zi_cn, zi_get, zi_set, t0, hm, zw_g (zdW_at hk), zm_iald (k := 0) w1 zm_in1, zm_cl1]
          | 3, _ =>
            have t0 : (nI 3).toInt = 3 := by decide
            by_cases c2 : (0 : Int32) ≤ μ (zdW k) 4
            · refine ⟨μ (zdW k) 4, 0, 7, fun F n hF => ?_⟩
              simp [zg_0, zg_aaload, zg_aload_n, zg_astore_n, zg_getfield, zg_goto, zg_iaload, zg_iconst, zg_ifCond, zg_iload_n, zg_invokevirtual, zg_ireturn, zg_isub, zg_ldc, zg_tableswitch, zf_X5_about, zi_ld, zi_lda, zi_cmp, zi_retOk, zi_isI, zi_f3, zi_cr, zi_ci, zi_cn, zi_get, zi_set, t0, zw_g (zdW_at hk), c2]
            · refine ⟨-1000000005, 0, 7, fun F n hF => ?_⟩
              simp [zg_0, zg_aaload, zg_aload_n, zg_astore_n, zg_getfield, zg_goto, zg_iaload, zg_iconst, zg_ifCond, zg_iload_n, zg_invokevirtual, zg_ireturn, zg_isub, zg_ldc, zg_tableswitch, zf_X5_about, zi_ld, zi_lda, zi_cmp, zi_retOk, zi_isI, zi_f3, zi_cr, zi_ci, zi_cn, zi_get, zi_set, t0, zw_g (zdW_at hk), c2, n5]
          | 4, _ =>
            have t0 : (nI 4).toInt = 4 := by decide
            obtain ⟨N2, E2⟩ := ze_floW (μ := μ) (D + 2) hk
            by_cases c2 : zd_flo μ k = true
            · rw [if_pos c2] at E2
              refine ⟨1, N2, 7, fun F n hF => ?_⟩
              simp [zg_0, zg_aaload, zg_aload_n, zg_astore_n, zg_getfield, zg_goto, zg_iaload, zg_iconst, zg_ifCond, zg_iload_n, zg_invokevirtual, zg_ireturn, zg_isub, zg_ldc, zg_tableswitch, zf_X5_about, zi_ld, zi_lda, zi_cmp, zi_retOk, zi_isI, zi_f3, zi_cr, zi_ci, zi_cn, zi_get, zi_set, t0, zq_Win_isFloating, cw, E2 F (by omega)]
            · rw [if_neg c2] at E2
              obtain ⟨s, hs, hsc⟩ := zJ_shw h hk
              obtain ⟨N3, E3⟩ := ze_isShownTile (μ := μ) D hk hs (fun q => ⟨(hsc q).1, (hsc q).2.1⟩)
              by_cases c3 : zd_til μ k = true ∧ (¬ μ (zdT s + 3) k < 0 ∧ μ (zdT s + 12) (μ (zdT s + 3) k).toNatClampNeg = nI k)
              · rw [if_pos c3] at E3
                refine ⟨1, N2 + N3, 11, fun F n hF => ?_⟩
                simp [zg_0, zg_aaload, zg_aload_n, zg_astore_n, zg_getfield, zg_goto, zg_iaload, zg_iconst, zg_ifCond, zg_iload_n, zg_invokevirtual, zg_ireturn, zg_isub, zg_ldc, zg_tableswitch, zf_X5_about, zi_ld, zi_lda, zi_cmp, zi_retOk, zi_isI, zi_f3, zi_cr, zi_ci, zi_cn, zi_get, zi_set, t0, zq_Win_isFloating, cw, E2 F (by omega), zq_Desk_isShownTile, zd_c, E3 F (by omega)]
              · rw [if_neg c3] at E3
                refine ⟨0, N2 + N3, 10, fun F n hF => ?_⟩
                simp [zg_0, zg_aaload, zg_aload_n, zg_astore_n, zg_getfield, zg_goto, zg_iaload, zg_iconst, zg_ifCond, zg_iload_n, zg_invokevirtual, zg_ireturn, zg_isub, zg_ldc, zg_tableswitch, zf_X5_about, zi_ld, zi_lda, zi_cmp, zi_retOk, zi_isI, zi_f3, zi_cr, zi_ci, zi_cn, zi_get, zi_set, t0, zq_Win_isFloating, cw, E2 F (by omega), zq_Desk_isShownTile, zd_c, E3 F (by omega)]
          | 5, _ =>
            have t0 : (nI 5).toInt = 5 := by decide
            obtain ⟨N2, E2⟩ := ze_Row_placeOf (μ := μ) (D + 2) zd3_at hr1 hr2 hk
            have cr := zr_c (μ := μ) zd3_at
            generalize zr_ix row k 0 = v at E2
            refine ⟨v, N2, 6, fun F n hF => ?_⟩
            simp [zg_0, zg_aaload, zg_aload_n, zg_astore_n, zg_getfield, zg_goto, zg_iaload, zg_iconst, zg_ifCond, zg_iload_n, zg_invokevirtual, zg_ireturn, zg_isub, zg_ldc, zg_tableswitch, zf_X5_about, zi_ld, zi_lda, zi_cmp, zi_retOk, zi_isI, zi_f3, zi_cr, zi_ci, zi_cn, zi_get, zi_set, t0, zd_g, zq_Row_placeOf, cr, E2 F (by omega)]
          | 6, _ =>
            have t0 : (nI 6).toInt = 6 := by decide
            obtain ⟨N2, E2⟩ := ze_floW (μ := μ) (D + 2) hk
            by_cases c2 : zd_flo μ k = true
            · rw [if_pos c2] at E2
              obtain ⟨N3, E3⟩ := ze_Row_placeOf (μ := μ) (D + 2) zd5_at hs1 hs2 hk
              have cr := zr_c (μ := μ) zd5_at
              generalize zr_ix stk k 0 = v at E3
              refine ⟨v, N2 + N3, 10, fun F n hF => ?_⟩
              simp [zg_0, zg_aaload, zg_aload_n, zg_astore_n, zg_getfield, zg_goto, zg_iaload, zg_iconst, zg_ifCond, zg_iload_n, zg_invokevirtual, zg_ireturn, zg_isub, zg_ldc, zg_tableswitch, zf_X5_about, zi_ld, zi_lda, zi_cmp, zi_retOk, zi_isI, zi_f3, zi_cr, zi_ci, zi_cn, zi_get, zi_set, t0, zq_Win_isFloating, cw, E2 F (by omega), zd_g, zq_Row_placeOf, cr, E3 F (by omega)]
            · rw [if_neg c2] at E2
              refine ⟨-1000000005, N2, 6, fun F n hF => ?_⟩
              simp [zg_0, zg_aaload, zg_aload_n, zg_astore_n, zg_getfield, zg_goto, zg_iaload, zg_iconst, zg_ifCond, zg_iload_n, zg_invokevirtual, zg_ireturn, zg_isub, zg_ldc, zg_tableswitch, zf_X5_about, zi_ld, zi_lda, zi_cmp, zi_retOk, zi_isI, zi_f3, zi_cr, zi_ci, zi_cn, zi_get, zi_set, t0, zq_Win_isFloating, cw, E2 F (by omega), n5]
        · have ho' : x.toInt < 0 ∨ 6 < x.toInt := by
            rcases zd_sw (by decide) ho with q | q
            · exact Or.inl q
            · right; omega
          refine ⟨-1000000001, 0, 3, fun F n hF => ?_⟩
          simp [zg_0, zg_aaload, zg_aload_n, zg_astore_n, zg_getfield, zg_goto, zg_iaload, zg_iconst, zg_ifCond, zg_iload_n, zg_invokevirtual, zg_ireturn, zg_isub, zg_ldc, zg_tableswitch, zf_X5_about, zi_ld, zi_lda, zi_cmp, zi_retOk, zi_isI, zi_f3, zi_cr, zi_ci, zi_cn, zi_get, zi_set, ho', n4]
      obtain ⟨v, G⟩ := fin
      exact ⟨v, ze_in [(0, .ref 1), (1, .int (nI k)), (2, .int x)] zq_Desk_about (Nat.le_of_ble_eq_true rfl) rfl (S0.end G)⟩
    · rw [if_neg c1] at E1
      exact hno E1
  · exact hno (ze_isWindow_out (D + 2) hout)
set_option maxRecDepth 100000 in
theorem ze_count (D : Nat) (h : zJ μ row stk Rs ts) (x : Int32) : ∃ v, ze_E (D + 3) A_Desk_count [.ref 1, .int x] (zm_mk μ) (some (.int v)) (zm_mk μ) := by
  have n4 : Int32.ofInt (-1000000001) = -1000000001 := by decide
  have n5 : Int32.ofInt (-1000000005) = -1000000005 := by decide
  obtain ⟨hr1, hr2, hs1, hs2⟩ := zJ_rowL h
  rcases zd_rng x 6 (by decide) with ⟨j, hj, rfl⟩ | ho
  · match j, hj with
    | 0, _ =>
      have t0 : (nI 0).toInt = 0 := by decide
      obtain ⟨v, N1, E1⟩ := ze_screensThere (μ := μ) (D + 1)
      refine ⟨v, ze_in [(0, .ref 1), (1, .int (nI 0))] zq_Desk_count (Nat.le_of_ble_eq_true rfl) rfl ⟨N1, 5, fun F n hF => ?_⟩⟩
      simp [zg_0, zg_aload_n, zg_getfield, zg_goto, zg_iconst, zg_ifCond, zg_iload_n, zg_invokevirtual, zg_ireturn, zg_ldc, zg_tableswitch, zf_X5_count, zi_ld, zi_lda, zi_cmp, zi_retOk, zi_isI, zi_f3, zi_cr, zi_ci, zi_cn, zi_get, zi_set, t0, zq_Desk_screensThere, zd_c, E1 F (by omega)]
    | 1, _ =>
      have t0 : (nI 1).toInt = 1 := by decide
      obtain ⟨v, N1, E1⟩ := ze_windowsUnder (μ := μ) D 0
      refine ⟨v, ze_in [(0, .ref 1), (1, .int (nI 1))] zq_Desk_count (Nat.le_of_ble_eq_true rfl) rfl ⟨N1, 6, fun F n hF => ?_⟩⟩
      simp [zg_0, zg_aload_n, zg_getfield, zg_goto, zg_iconst, zg_ifCond, zg_iload_n, zg_invokevirtual, zg_ireturn, zg_ldc, zg_tableswitch, zf_X5_count, zi_ld, zi_lda, zi_cmp, zi_retOk, zi_isI, zi_f3, zi_cr, zi_ci, zi_cn, zi_get, zi_set, t0, zq_Desk_windowsUnder, zd_c, E1 F (by omega)]
    | 2, _ =>
      have t0 : (nI 2).toInt = 2 := by decide
      obtain ⟨v, N1, E1⟩ := ze_windowsUnder (μ := μ) D 1
      refine ⟨v, ze_in [(0, .ref 1), (1, .int (nI 2))] zq_Desk_count (Nat.le_of_ble_eq_true rfl) rfl ⟨N1, 6, fun F n hF => ?_⟩⟩
      simp [zg_0, zg_aload_n, zg_getfield, zg_goto, zg_iconst, zg_ifCond, zg_iload_n, zg_invokevirtual, zg_ireturn, zg_ldc, zg_tableswitch, zf_X5_count, zi_ld, zi_lda, zi_cmp, zi_retOk, zi_isI, zi_f3, zi_cr, zi_ci, zi_cn, zi_get, zi_set, t0, zq_Desk_windowsUnder, zd_c, E1 F (by omega)]
    | 3, _ =>
      have t0 : (nI 3).toInt = 3 := by decide
      obtain ⟨v, N1, E1⟩ := ze_windowsUnder (μ := μ) D 2
      refine ⟨v, ze_in [(0, .ref 1), (1, .int (nI 3))] zq_Desk_count (Nat.le_of_ble_eq_true rfl) rfl ⟨N1, 6, fun F n hF => ?_⟩⟩
      simp [zg_0, zg_aload_n, zg_getfield, zg_goto, zg_iconst, zg_ifCond, zg_iload_n, zg_invokevirtual, zg_ireturn, zg_ldc, zg_tableswitch, zf_X5_count, zi_ld, zi_lda, zi_cmp, zi_retOk, zi_isI, zi_f3, zi_cr, zi_ci, zi_cn, zi_get, zi_set, t0, zq_Desk_windowsUnder, zd_c, E1 F (by omega)]
    | 4, _ =>
      have t0 : (nI 4).toInt = 4 := by decide
      obtain ⟨N1, E1⟩ := ze_Row_sizeL (μ := μ) (D + 1) zd3_at hr1
      have cr := zr_c (μ := μ) zd3_at
      by_cases c : row.length = 0
      · have e : nI row.length = 0 := by rw [c]; exact nI_0
        rw [e] at E1
        refine ⟨-1000000005, ze_in [(0, .ref 1), (1, .int (nI 4))] zq_Desk_count (Nat.le_of_ble_eq_true rfl) rfl ⟨N1, 9, fun F n hF => ?_⟩⟩
        simp [zg_0, zg_aload_n, zg_getfield, zg_goto, zg_iconst, zg_ifCond, zg_iload_n, zg_invokevirtual, zg_ireturn, zg_ldc, zg_tableswitch, zf_X5_count, zi_ld, zi_lda, zi_cmp, zi_retOk, zi_isI, zi_f3, zi_cr, zi_ci, zi_cn, zi_get, zi_set, t0, zd_g, zq_Row_size, cr, E1 F (by omega), n5]
      · obtain ⟨N2, E2⟩ := ze_Row_getL (μ := μ) (i := 0) (D + 1) zd3_at hr1 (by omega)
        rw [nI_0] at E2
        have hl := hr1.1
        have e : ¬ nI row.length = 0 := fun q => c ((nI_eq (b := 0) (by omega) (by decide)).mp q)
        generalize row.getD 0 0 = v at E2
        refine ⟨nI v, ze_in [(0, .ref 1), (1, .int (nI 4))] zq_Desk_count (Nat.le_of_ble_eq_true rfl) rfl ⟨N1 + N2, 11, fun F n hF => ?_⟩⟩
        simp [zg_0, zg_aload_n, zg_getfield, zg_goto, zg_iconst, zg_ifCond, zg_iload_n, zg_invokevirtual, zg_ireturn, zg_ldc, zg_tableswitch, zf_X5_count, zi_ld, zi_lda, zi_cmp, zi_retOk, zi_isI, zi_f3, zi_cr, zi_ci, zi_cn, zi_get, zi_set, t0, zd_g, zq_Row_size, cr, E1 F (by omega), e, zq_Row_get, E2 F (by omega)]
    | 5, _ =>
      have t0 : (nI 5).toInt = 5 := by decide
      obtain ⟨v, N1, E1⟩ := ze_screensWithKept (μ := μ) (D + 1)
      refine ⟨v, ze_in [(0, .ref 1), (1, .int (nI 5))] zq_Desk_count (Nat.le_of_ble_eq_true rfl) rfl ⟨N1, 5, fun F n hF => ?_⟩⟩
      simp [zg_0, zg_aload_n, zg_getfield, zg_goto, zg_iconst, zg_ifCond, zg_iload_n, zg_invokevirtual, zg_ireturn, zg_ldc, zg_tableswitch, zf_X5_count, zi_ld, zi_lda, zi_cmp, zi_retOk, zi_isI, zi_f3, zi_cr, zi_ci, zi_cn, zi_get, zi_set, t0, zq_Desk_screensWithKept, zd_c, E1 F (by omega)]
  · have ho' : x.toInt < 0 ∨ 5 < x.toInt := by
      rcases zd_sw (by decide) ho with q | q
      · exact Or.inl q
      · right; omega
    refine ⟨-1000000001, ze_in [(0, .ref 1), (1, .int x)] zq_Desk_count (Nat.le_of_ble_eq_true rfl) rfl ⟨0, 4, fun F n hF => ?_⟩⟩
    simp [zg_0, zg_aload_n, zg_getfield, zg_goto, zg_iconst, zg_ifCond, zg_iload_n, zg_invokevirtual, zg_ireturn, zg_ldc, zg_tableswitch, zf_X5_count, zi_ld, zi_lda, zi_cmp, zi_retOk, zi_isI, zi_f3, zi_cr, zi_ci, zi_cn, zi_get, zi_set, ho', n4]
end ZQ2
