/-! the desk's questions: told, tab, neighbour -/
section ZQ3
variable {μ : zm_M} {row stk : List Nat} {Rs : Nat → List Nat} {ts : Nat → zy_F}
set_option maxRecDepth 100000 in
theorem ze_told (D : Nat) (h : zJ μ row stk Rs ts) (w x : Int32) : ∃ v, ze_E (D + 4) A_Desk_told [.ref 1, .int w, .int x] (zm_mk μ) (some (.int v)) (zm_mk μ) := by
  have n4 : Int32.ofInt (-1000000001) = -1000000001 := by decide
  have n2 : Int32.ofInt (-1000000002) = -1000000002 := by decide
  have h6 : (Int8.ofInt 6).toInt32 = (6 : Int32) := by decide
  rcases zd_rng w 3 (by decide) with ⟨s, hs, rfl⟩ | hout
  · obtain ⟨N1, E1⟩ := ze_isScreen_in (h := zm_mk μ) (D + 2) hs
    rcases zd_rng x 7 (by decide) with ⟨j, hj, rfl⟩ | ho
    · have c1 : ¬ nI j < 0 := nI_pos (by omega)
      have c2 : nI j ≤ 6 := nI_le (b := 6) (by omega) (by decide)
      by_cases c3 : μ (zdS s) 3 = 0
      · refine ⟨-1000000002, ze_in [(0, .ref 1), (1, .int (nI s)), (2, .int (nI j))] zq_Desk_told (Nat.le_of_ble_eq_true rfl) rfl ⟨N1, 18, fun F n hF => ?_⟩⟩
        simp [zg_0, zg_aaload, zg_aload_n, zg_astore_n, zg_bipush, zg_getfield, zg_iaload, zg_iconst, zg_ifCond, zg_if_icmp, zg_iload_n, zg_invokestatic, zg_invokevirtual, zg_ireturn, zg_isub, zg_ldc, zg_tableswitch, zf_X5_told, zi_ld, zi_lda, zi_cmp, zi_retOk, zi_isI, zi_f3, zi_cr, zi_ci, zi_cn, zi_get, zi_set, zq_Desk_isScreen, E1 F (by omega), c1, c2, h6, zd_g, zd_s hs, zdS_g hs, c3, n2]
      · have S0 : ze_S (D + 3) 4 (some .int) zc_X5_told 0 [(0, .ref 1), (1, .int (nI s)), (2, .int (nI j))] [] (zm_mk μ) 38 [(3, .ref (zdS s + 1)), (0, .ref 1), (1, .int (nI s)), (2, .int (nI j))] [.int (nI j)] (zm_mk μ) := by
          refine ⟨N1, 17, fun F n hF => ?_⟩
          simp [zg_0, zg_aaload, zg_aload_n, zg_astore_n, zg_bipush, zg_getfield, zg_iaload, zg_iconst, zg_ifCond, zg_if_icmp, zg_iload_n, zg_invokestatic, zg_invokevirtual, zg_ireturn, zg_isub, zg_ldc, zg_tableswitch, zf_X5_told, zi_ld, zi_lda, zi_cmp, zi_retOk, zi_isI, zi_f3, zi_cr, zi_ci, zi_cn, zi_get, zi_set, zq_Desk_isScreen, E1 F (by omega), c1, c2, h6, zd_g, zd_s hs, zdS_g hs, c3]
        obtain ⟨lt, ct⟩ := zt_c (μ := μ) (zdT_at hs)
        have fin : ∃ v, ze_G (D + 3) 4 (some .int) zc_X5_told 38 [(3, .ref (zdS s + 1)), (0, .ref 1), (1, .int (nI s)), (2, .int (nI j))] [.int (nI j)] (zm_mk μ) (some (.int v)) (zm_mk μ) := by
          match j, hj with
          | 0, _ =>
            have t0 : (nI 0).toInt = 0 := by decide
            have e0 : nI 0 = 0 := nI_0
            refine ⟨μ (zdZ s) 0, 0, 6, fun F n hF => ?_⟩
            simp [zg_0, zg_aaload, zg_aload_n, zg_astore_n, zg_bipush, zg_getfield, zg_iaload, zg_iconst, zg_ifCond, zg_if_icmp, zg_iload_n, zg_invokestatic, zg_invokevirtual, zg_ireturn, zg_isub, zg_ldc, zg_tableswitch, zf_X5_told, zi_ld, zi_lda, zi_cmp, zi_retOk, zi_isI, zi_f3, zi_cr, zi_ci, zi_cn, zi_get, zi_set, t0, zdS_g hs]
            rw [e0]
            simp [zm_iald (k := 0) (zdZ_A hs) zm_in0, zm_cl0, zg_0, zg_aaload, zg_aload_n, zg_astore_n, zg_bipush, zg_getfield, zg_iaload, zg_iconst, zg_ifCond, zg_if_icmp, zg_iload_n, zg_invokestatic, zg_invokevirtual, zg_ireturn, zg_isub, zg_ldc, zg_tableswitch, zf_X5_told, zi_ld, zi_lda, zi_cmp, zi_retOk, zi_isI, zi_f3, zi_cr, zi_ci, zi_cn]
          | 1, _ =>
            have t0 : (nI 1).toInt = 1 := by decide
            have e0 : nI 1 = 1 := by decide
            refine ⟨μ (zdZ s) 1, 0, 6, fun F n hF => ?_⟩
            simp [zg_0, zg_aaload, zg_aload_n, zg_astore_n, zg_bipush, zg_getfield, zg_iaload, zg_iconst, zg_ifCond, zg_if_icmp, zg_iload_n, zg_invokestatic, zg_invokevirtual, zg_ireturn, zg_isub, zg_ldc, zg_tableswitch, zf_X5_told, zi_ld, zi_lda, zi_cmp, zi_retOk, zi_isI, zi_f3, zi_cr, zi_ci, zi_cn, zi_get, zi_set, t0, zdS_g hs]
            rw [e0]
            simp [zm_iald (k := 0) (zdZ_A hs) zm_in1, zm_cl1, zg_0, zg_aaload, zg_aload_n, zg_astore_n, zg_bipush, zg_getfield, zg_iaload, zg_iconst, zg_ifCond, zg_if_icmp, zg_iload_n, zg_invokestatic, zg_invokevirtual, zg_ireturn, zg_isub, zg_ldc, zg_tableswitch, zf_X5_told, zi_ld, zi_lda, zi_cmp, zi_retOk, zi_isI, zi_f3, zi_cr, zi_ci, zi_cn]
          | 2, _ =>
            have t0 : (nI 2).toInt = 2 := by decide
            obtain ⟨N2, E2⟩ := ze_Tree_leaves (μ := μ) (D + 2) (zdT_at hs)
            generalize (μ (zdT s) 12 + 1) / 2 = v at E2
            refine ⟨v, N2, 5, fun F n hF => ?_⟩
            simp [zg_0, zg_aaload, zg_aload_n, zg_astore_n, zg_bipush, zg_getfield, zg_iaload, zg_iconst, zg_ifCond, zg_if_icmp, zg_iload_n, zg_invokestatic, zg_invokevirtual, zg_ireturn, zg_isub, zg_ldc, zg_tableswitch, zf_X5_told, zi_ld, zi_lda, zi_cmp, zi_retOk, zi_isI, zi_f3, zi_cr, zi_ci, zi_cn, zi_get, zi_set, t0, zdS_g hs, zq_Tree_leaves, ct, E2 F (by omega)]
          | 3, _ =>
            have t0 : (nI 3).toInt = 3 := by decide
            obtain ⟨N2, E2⟩ := ze_Tree_cuts (μ := μ) (D + 2) (zdT_at hs)
            generalize μ (zdT s) 12 / 2 = v at E2
            refine ⟨v, N2, 5, fun F n hF => ?_⟩
            simp [zg_0, zg_aaload, zg_aload_n, zg_astore_n, zg_bipush, zg_getfield, zg_iaload, zg_iconst, zg_ifCond, zg_if_icmp, zg_iload_n, zg_invokestatic, zg_invokevirtual, zg_ireturn, zg_isub, zg_ldc, zg_tableswitch, zf_X5_told, zi_ld, zi_lda, zi_cmp, zi_retOk, zi_isI, zi_f3, zi_cr, zi_ci, zi_cn, zi_get, zi_set, t0, zdS_g hs, zq_Tree_cuts, ct, E2 F (by omega)]
          | 4, _ =>
            have t0 : (nI 4).toInt = 4 := by decide
            have hm : nI 4 - 4 = nI 0 := by decide
            obtain ⟨N2, E2⟩ := ze_Tree_leastOf (μ := μ) (D + 2) (zdT_at hs) (a := 0) (by decide) (zt_root_in (h.2.2.2.1 s hs).1.1)
            generalize (if μ (zdT s) 9 < 0 then 0 else μ (zdT s + 16 + 0) (μ (zdT s) 9).toNatClampNeg) = v at E2
            refine ⟨v, N2, 8, fun F n hF => ?_⟩
            simp [zg_0, zg_aaload, zg_aload_n, zg_astore_n, zg_bipush, zg_getfield, zg_iaload, zg_iconst, zg_ifCond, zg_if_icmp, zg_iload_n, zg_invokestatic, zg_invokevirtual, zg_ireturn, zg_isub, zg_ldc, zg_tableswitch, zf_X5_told, zi_ld, zi_lda, zi_cmp, zi_retOk, zi_isI, zi_f3, zi_cr, zi_ci, zi_cn, zi_get, zi_set, t0, hm, zdS_g hs, zq_Tree_leastOf, ct, E2 F (by omega)]
          | 5, _ =>
            have t0 : (nI 5).toInt = 5 := by decide
            have hm : nI 5 - 4 = nI 1 := by decide
            obtain ⟨N2, E2⟩ := ze_Tree_leastOf (μ := μ) (D + 2) (zdT_at hs) (a := 1) (by decide) (zt_root_in (h.2.2.2.1 s hs).1.1)
            generalize (if μ (zdT s) 9 < 0 then 0 else μ (zdT s + 16 + 1) (μ (zdT s) 9).toNatClampNeg) = v at E2
            refine ⟨v, N2, 8, fun F n hF => ?_⟩
            simp [zg_0, zg_aaload, zg_aload_n, zg_astore_n, zg_bipush, zg_getfield, zg_iaload, zg_iconst, zg_ifCond, zg_if_icmp, zg_iload_n, zg_invokestatic, zg_invokevirtual, zg_ireturn, zg_isub, zg_ldc, zg_tableswitch, zf_X5_told, zi_ld, zi_lda, zi_cmp, zi_retOk, zi_isI, zi_f3, zi_cr, zi_ci, zi_cn, zi_get, zi_set, t0, hm, zdS_g hs, zq_Tree_leastOf, ct, E2 F (by omega)]
          | 6, _ =>
            have t0 : (nI 6).toInt = 6 := by decide
            obtain ⟨v, N2, E2⟩ := ze_looseOnes (μ := μ) D (nI s)
            refine ⟨v, N2, 5, fun F n hF => ?_⟩
            simp [zg_0, zg_aaload, zg_aload_n, zg_astore_n, zg_bipush, zg_getfield, zg_iaload, zg_iconst, zg_ifCond, zg_if_icmp, zg_iload_n, zg_invokestatic, zg_invokevirtual, zg_ireturn, zg_isub, zg_ldc, zg_tableswitch, zf_X5_told, zi_ld, zi_lda, zi_cmp, zi_retOk, zi_isI, zi_f3, zi_cr, zi_ci, zi_cn, zi_get, zi_set, t0, zq_Desk_looseOnes, zd_c, E2 F (by omega)]
        obtain ⟨v, G⟩ := fin
        exact ⟨v, ze_in [(0, .ref 1), (1, .int (nI s)), (2, .int (nI j))] zq_Desk_told (Nat.le_of_ble_eq_true rfl) rfl (S0.end G)⟩
    · by_cases c1 : x < 0
      · refine ⟨-1000000001, ze_in [(0, .ref 1), (1, .int (nI s)), (2, .int x)] zq_Desk_told (Nat.le_of_ble_eq_true rfl) rfl ⟨N1, 7, fun F n hF => ?_⟩⟩
        simp [zg_0, zg_aaload, zg_aload_n, zg_astore_n, zg_bipush, zg_getfield, zg_iaload, zg_iconst, zg_ifCond, zg_if_icmp, zg_iload_n, zg_invokestatic, zg_invokevirtual, zg_ireturn, zg_isub, zg_ldc, zg_tableswitch, zf_X5_told, zi_ld, zi_lda, zi_cmp, zi_retOk, zi_isI, zi_f3, zi_cr, zi_ci, zi_cn, zi_get, zi_set, zq_Desk_isScreen, E1 F (by omega), c1, n4]
      · have c2 : ¬ x ≤ 6 := by
          have q := ho.resolve_left c1
          have e : (6 : Int32) < nI 7 := by decide
          exact Int32.not_le.mpr (Int32.lt_of_lt_of_le e q)
        refine ⟨-1000000001, ze_in [(0, .ref 1), (1, .int (nI s)), (2, .int x)] zq_Desk_told (Nat.le_of_ble_eq_true rfl) rfl ⟨N1, 10, fun F n hF => ?_⟩⟩
        simp [zg_0, zg_aaload, zg_aload_n, zg_astore_n, zg_bipush, zg_getfield, zg_iaload, zg_iconst, zg_ifCond, zg_if_icmp, zg_iload_n, zg_invokestatic, zg_invokevirtual, zg_ireturn, zg_isub, zg_ldc, zg_tableswitch, zf_X5_told, zi_ld, zi_lda, zi_cmp, zi_retOk, zi_isI, zi_f3, zi_cr, zi_ci, zi_cn, zi_get, zi_set, zq_Desk_isScreen, E1 F (by omega), c1, c2, h6, n4]
  · obtain ⟨N1, E1⟩ := ze_isScreen_out (h := zm_mk μ) (D + 2) hout
    refine ⟨-1000000001, ze_in [(0, .ref 1), (1, .int w), (2, .int x)] zq_Desk_told (Nat.le_of_ble_eq_true rfl) rfl ⟨N1, 5, fun F n hF => ?_⟩⟩
    simp [zg_0, zg_aaload, zg_aload_n, zg_astore_n, zg_bipush, zg_getfield, zg_iaload, zg_iconst, zg_ifCond, zg_if_icmp, zg_iload_n, zg_invokestatic, zg_invokevirtual, zg_ireturn, zg_isub, zg_ldc, zg_tableswitch, zf_X5_told, zi_ld, zi_lda, zi_cmp, zi_retOk, zi_isI, zi_f3, zi_cr, zi_ci, zi_cn, zi_get, zi_set, zq_Desk_isScreen, E1 F (by omega), n4]
set_option maxRecDepth 100000 in
theorem ze_tab (D : Nat) (h : zJ μ row stk Rs ts) (w x y : Int32) : ∃ v, ze_E (D + 3) A_Desk_tab [.ref 1, .int w, .int x, .int y] (zm_mk μ) (some (.int v)) (zm_mk μ) := by
  have n4 : Int32.ofInt (-1000000001) = -1000000001 := by decide
  have n2 : Int32.ofInt (-1000000002) = -1000000002 := by decide
  have n5 : Int32.ofInt (-1000000005) = -1000000005 := by decide
  have h2 : (Int8.ofInt (-2)).toInt32 = (-2 : Int32) := by decide
  rcases zd_rng w 3 (by decide) with ⟨s, hs, rfl⟩ | hout
  · obtain ⟨N1, E1⟩ := ze_isScreen_in (h := zm_mk μ) (D + 1) hs
    by_cases c1 : x < 0
    · refine ⟨-1000000001, ze_in [(0, .ref 1), (1, .int (nI s)), (2, .int x), (3, .int y)] zq_Desk_tab (Nat.le_of_ble_eq_true rfl) rfl ⟨N1, 7, fun F n hF => ?_⟩⟩
      simp [zi_go, zf_X5_tab, zi_ask, zi_new, zi_step, zi_ld, zi_lda, zi_cmp, zi_retOk, zi_isI, zi_f3, zi_cr, zi_ci, zi_cn, zi_get, zi_set, zq_Desk_isScreen, E1 F (by omega), c1, n4]
    · by_cases c2 : (-2 : Int32) ≤ y
      · by_cases c3 : μ (zdS s) 3 = 0
        · refine ⟨-1000000002, ze_in [(0, .ref 1), (1, .int (nI s)), (2, .int x), (3, .int y)] zq_Desk_tab (Nat.le_of_ble_eq_true rfl) rfl ⟨N1, 16, fun F n hF => ?_⟩⟩
          simp [zi_go, zf_X5_tab, zi_ask, zi_new, zi_step, zi_ld, zi_lda, zi_cmp, zi_retOk, zi_isI, zi_f3, zi_cr, zi_ci, zi_cn, zi_get, zi_set, zq_Desk_isScreen, E1 F (by omega), c1, c2, h2, zd_g, zd_s hs, zdS_g hs, c3, n2]
        · obtain ⟨j, hj, rfl⟩ := nI_of c1
          have hC := (h.2.2.2.1 s hs).1
          obtain ⟨N2, E2⟩ := ze_Tree_leafNumber (μ := μ) (D + 1) (zdT_at hs) hC hj
          obtain ⟨lt, ct⟩ := zt_c (μ := μ) (zdT_at hs)
          by_cases c4 : j < (zy_lvs (ts s)).length
          · rw [if_pos c4] at E2
            have hm := zl_mem c4
            have hn19 := hC.1.2.1.2.2.1 _ (zt_I_lv hC.1 hm).2
            generalize (zy_lvs (ts s)).getD j 0 = n at E2 hm hn19
            have c5 : (0 : Int32) ≤ nI n := nI_pos' (by omega)
            have S0 : ze_S (D + 2) 6 (some .int) zc_X5_tab 0 [(0, .ref 1), (1, .int (nI s)), (2, .int (nI j)), (3, .int y)] [] (zm_mk μ) 63 [(5, .int (nI n)), (4, .ref (zdT s + 1)), (0, .ref 1), (1, .int (nI s)), (2, .int (nI j)), (3, .int y)] [.int y] (zm_mk μ) := by
              refine ⟨N1 + N2, 27, fun F n hF => ?_⟩
              simp [zi_go, zf_X5_tab, zi_ask, zi_new, zi_step, zi_ld, zi_lda, zi_cmp, zi_retOk, zi_isI, zi_f3, zi_cr, zi_ci, zi_cn, zi_get, zi_set, zq_Desk_isScreen, E1 F (by omega), c1, c2, h2, zd_g, zd_s hs, zdS_g hs, c3, zq_Tree_leafNumber, ct, E2 F (by omega), c5]
            have fin : ∃ v, ze_G (D + 2) 6 (some .int) zc_X5_tab 63 [(5, .int (nI n)), (4, .ref (zdT s + 1)), (0, .ref 1), (1, .int (nI s)), (2, .int (nI j)), (3, .int y)] [.int y] (zm_mk μ) (some (.int v)) (zm_mk μ) := by
              by_cases q1 : y = -2
              · subst q1
                have t0 : (-2 : Int32).toInt = -2 := by decide
                obtain ⟨N3, E3⟩ := ze_Tree_shownIn (μ := μ) (D + 1) (zdT_at hs) (x := nI n) (zm_in hn19 (by decide))
                generalize μ (zdT s + 12) (nI n).toNatClampNeg = v at E3
                refine ⟨v, N3, 5, fun F m hF => ?_⟩
                simp [zi_go, zf_X5_tab, zi_ask, zi_new, zi_step, zi_ld, zi_lda, zi_cmp, zi_retOk, zi_isI, zi_f3, zi_cr, zi_ci, zi_cn, zi_get, zi_set, t0, Op.lookupswitch.offset, zq_Tree_shownIn, ct, E3 F (by omega)]
              · by_cases q2 : y = -1
                · subst q2
                  have t0 : (-1 : Int32).toInt = -1 := by decide
                  obtain ⟨N3, E3⟩ := ze_Tree_tabsIn (μ := μ) D (zdT_at hs) hC.1 (nI n)
                  generalize ((Rs s).filter (fun v => decide (μ (zdT s + 3) v = nI n))).length = v at E3
                  refine ⟨nI v, N3, 5, fun F m hF => ?_⟩
                  simp [zi_go, zf_X5_tab, zi_ask, zi_new, zi_step, zi_ld, zi_lda, zi_cmp, zi_retOk, zi_isI, zi_f3, zi_cr, zi_ci, zi_cn, zi_get, zi_set, t0, Op.lookupswitch.offset, zq_Tree_tabsIn, ct, E3 F (by omega)]
                · have q3 : ¬ y < 0 := by
                    intro q
                    have a1 := Int32.le_iff_toInt_le.mp c2
                    have a2 := Int32.lt_iff_toInt_lt.mp q
                    have a3 : ¬ y.toInt = -2 := fun e => q1 (Int32.toInt_inj.mp (by rw [e]; decide))
                    have a4 : ¬ y.toInt = -1 := fun e => q2 (Int32.toInt_inj.mp (by rw [e]; decide))
                    rw [show (-2 : Int32).toInt = -2 by decide] at a1
                    rw [show (0 : Int32).toInt = 0 by decide] at a2
                    omega
                  obtain ⟨i, hi, rfl⟩ := nI_of q3
                  have t0 : (nI i).toInt = (i : Int) := nI_toInt hi
                  have b1 : ¬ (-2 : Int) = (i : Int) := by omega
                  have b2 : ¬ (-1 : Int) = (i : Int) := by omega
                  have b3 : ¬ (i : Int) = -2 := by omega
                  have b4 : ¬ (i : Int) = -1 := by omega
                  obtain ⟨N3, E3⟩ := ze_Tree_tabIn (μ := μ) D (zdT_at hs) hC.1 (nI n) hi
                  generalize (if i < ((Rs s).filter (fun v => decide (μ (zdT s + 3) v = nI n))).length then nI (((Rs s).filter (fun v => decide (μ (zdT s + 3) v = nI n))).getD i 0) else -1000000005) = v at E3
                  refine ⟨v, N3, 6, fun F m hF => ?_⟩
                  simp [zi_go, zf_X5_tab, zi_ask, zi_new, zi_step, zi_ld, zi_lda, zi_cmp, zi_retOk, zi_isI, zi_f3, zi_cr, zi_ci, zi_cn, zi_get, zi_set, t0, Op.lookupswitch.offset, b1, b2, b3, b4, zq_Tree_tabIn, ct, E3 F (by omega)]
            obtain ⟨v, G⟩ := fin
            exact ⟨v, ze_in [(0, .ref 1), (1, .int (nI s)), (2, .int (nI j)), (3, .int y)] zq_Desk_tab (Nat.le_of_ble_eq_true rfl) rfl (S0.end G)⟩
          · rw [if_neg c4] at E2
            have c5 : ¬ (0 : Int32) ≤ -1 := by decide
            refine ⟨-1000000005, ze_in [(0, .ref 1), (1, .int (nI s)), (2, .int (nI j)), (3, .int y)] zq_Desk_tab (Nat.le_of_ble_eq_true rfl) rfl ⟨N1 + N2, 28, fun F n hF => ?_⟩⟩
            simp [zi_go, zf_X5_tab, zi_ask, zi_new, zi_step, zi_ld, zi_lda, zi_cmp, zi_retOk, zi_isI, zi_f3, zi_cr, zi_ci, zi_cn, zi_get, zi_set, zq_Desk_isScreen, E1 F (by omega), c1, c2, h2, zd_g, zd_s hs, zdS_g hs, c3, zq_Tree_leafNumber, ct, E2 F (by omega), c5, n5]
      · refine ⟨-1000000001, ze_in [(0, .ref 1), (1, .int (nI s)), (2, .int x), (3, .int y)] zq_Desk_tab (Nat.le_of_ble_eq_true rfl) rfl ⟨N1, 10, fun F n hF => ?_⟩⟩
        simp [zi_go, zf_X5_tab, zi_ask, zi_new, zi_step, zi_ld, zi_lda, zi_cmp, zi_retOk, zi_isI, zi_f3, zi_cr, zi_ci, zi_cn, zi_get, zi_set, zq_Desk_isScreen, E1 F (by omega), c1, c2, h2, n4]
  · obtain ⟨N1, E1⟩ := ze_isScreen_out (h := zm_mk μ) (D + 1) hout
    refine ⟨-1000000001, ze_in [(0, .ref 1), (1, .int w), (2, .int x), (3, .int y)] zq_Desk_tab (Nat.le_of_ble_eq_true rfl) rfl ⟨N1, 5, fun F n hF => ?_⟩⟩
    simp [zi_go, zf_X5_tab, zi_ask, zi_new, zi_step, zi_ld, zi_lda, zi_cmp, zi_retOk, zi_isI, zi_f3, zi_cr, zi_ci, zi_cn, zi_get, zi_set, zq_Desk_isScreen, E1 F (by omega), n4]
end ZQ3
