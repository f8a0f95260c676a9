/-! the reference: tab, count -/
section ZWG
variable {μ : zm_M} {row stk : List Nat} {us : Nat → zy_F}
theorem zv_nI_of {x : Int32} {n : Nat} (h0 : 0 ≤ x) (h1 : x < nI n) (hn : n < 2 ^ 31) : ∃ j, j < n ∧ x = nI j := by
  rcases zd_rng x n hn with h | h | h
  · exact h
  · exact absurd h (Int32.not_lt.mpr h0)
  · exact absurd h1 (Int32.not_lt.mpr h)
set_option maxRecDepth 100000 in
theorem ze_Mtab (D : Nat) (h : zR μ row stk us) (w x y : Int32) : ∃ ν v, ze_E (D + 29) A_Mod_tab [.ref 232, .int w, .int x, .int y] (zm_mk μ) (some (.int v)) (zm_mk ν) ∧ zM_fr μ ν := by
  have n1 : Int32.ofInt (-1000000001) = -1000000001 := by decide
  have n2 : Int32.ofInt (-1000000002) = -1000000002 := by decide
  have n5 : Int32.ofInt (-1000000005) = -1000000005 := by decide
  have m2 : (Int8.ofInt (-2)).toInt32 = (-2 : Int32) := by decide
  have h10 : (Int8.ofInt 10).toInt32 = (10 : Int32) := by decide
  obtain ⟨lc, cM⟩ := zM_c (μ := μ)
  rcases zM_isIn (hp := zm_mk μ) (D + 27) w (n := 2) (b := 2) (by decide) (by decide) with ⟨s, hs, rfl, N1, E1⟩ | ⟨⟨N1, E1⟩, hno⟩
  · have hs : s < 3 := hs
    have is : zi_in (nI s) 3 = true := zm_in hs (by decide)
    have cs : (nI s).toNatClampNeg = s := nI_clamp (by omega)
    by_cases q1 : x < 0
    · refine ⟨μ, -1000000001, ze_in [(0, .ref 232), (1, .int (nI s)), (2, .int x), (3, .int y)] zq_Mod_tab (Nat.le_of_ble_eq_true rfl) rfl ⟨N1, 9, fun F n hF => ?_⟩, zM_fr.refl⟩
      simp [zg_0, zg_aload_n, zg_bipush, zg_getfield, zg_goto, zg_iadd, zg_iaload, zg_iconst, zg_ifCond, zg_if_icmp, zg_iload, zg_iload_n, zg_imul, zg_invokestatic, zg_invokevirtual, zg_ireturn, zg_istore, zg_ldc, zg_ldc_w, zf_X6_tab, zi_ld, zi_lda, zi_cmp, zi_retOk, zi_isI, zi_f3, zi_cr, zi_ci, zi_cn, zi_get, zi_set, zq_Mod_isIn, E1 F (by omega), q1, n1]
    · by_cases q2 : -2 ≤ y
      · by_cases c0 : μ 232 s = 0
        · refine ⟨μ, -1000000002, ze_in [(0, .ref 232), (1, .int (nI s)), (2, .int x), (3, .int y)] zq_Mod_tab (Nat.le_of_ble_eq_true rfl) rfl ⟨N1, 17, fun F n hF => ?_⟩, zM_fr.refl⟩
          simp [zg_0, zg_aload_n, zg_bipush, zg_getfield, zg_goto, zg_iadd, zg_iaload, zg_iconst, zg_ifCond, zg_if_icmp, zg_iload, zg_iload_n, zg_imul, zg_invokestatic, zg_invokevirtual, zg_ireturn, zg_istore, zg_ldc, zg_ldc_w, zf_X6_tab, zi_ld, zi_lda, zi_cmp, zi_retOk, zi_isI, zi_f3, zi_cr, zi_ci, zi_cn, zi_get, zi_set, zM_g, m2, zq_Mod_isIn, E1 F (by omega), q1, q2, zm_iald (k := 0) zM_A232 is, cs, c0, n2]
        · obtain ⟨ab, hI⟩ := (h.2.2.2.2.1 s hs).1
          obtain ⟨hndl, h24, hlen⟩ := zu_lvs_nodup hI
          obtain ⟨ν, ⟨N3, E3⟩, hl, f⟩ := ze_MclearLeaves (μ := μ) (D + 2) (τ := s) (by omega) hI
          have hR := h.fr f.fr
          obtain ⟨lc2, cM2⟩ := zM_c (μ := ν)
          have S0 : ze_S (D + 28) 5 (some .int) zc_X6_tab 0 [(0, .ref 232), (1, .int (nI s)), (2, .int x), (3, .int y)] [] (zm_mk μ) 39 [(0, .ref 232), (1, .int (nI s)), (2, .int x), (3, .int y)] [] (zm_mk ν) := by
            refine ⟨N1 + N3, 18, fun F n hF => ?_⟩
            simp [zg_0, zg_aload_n, zg_bipush, zg_getfield, zg_goto, zg_iadd, zg_iaload, zg_iconst, zg_ifCond, zg_if_icmp, zg_iload, zg_iload_n, zg_imul, zg_invokestatic, zg_invokevirtual, zg_ireturn, zg_istore, zg_ldc, zg_ldc_w, zf_X6_tab, zi_ld, zi_lda, zi_cmp, zi_retOk, zi_isI, zi_f3, zi_cr, zi_ci, zi_cn, zi_get, zi_set, zM_g, m2, cM, zq_Mod_isIn, zq_Mod_clearLeaves, E1 F (by omega), E3 F (by omega), q1, q2, zm_iald (k := 0) zM_A232 is, cs, c0]
          by_cases q3 : x < nI (zy_lvs (us s)).length
          · obtain ⟨i, hi, rfl⟩ := zv_nI_of (Int32.not_lt.mp q1) q3 (by omega)
            have ii : zi_in (nI i) 24 = true := zm_in (by omega) (by decide)
            have ci : (nI i).toNatClampNeg = i := nI_clamp (by omega)
            have e2 := hl.2 i hi
            have hm := zl_mem hi
            have hm24 := h24 _ hm
            obtain ⟨ab2, hI2⟩ := (hR.2.2.2.2.1 s hs).1
            obtain ⟨t1, t2, t3⟩ := zu_I_tb hI2 hm
            generalize (zy_lvs (us s)).getD i 0 = m at e2 hm hm24 t1 t2 t3
            obtain ⟨N4, E4⟩ := ze_spot (h := zm_mk ν) (D + 27) (t := s) (n := m) (by omega)
            have iy : zi_in (nI (24 * s + m)) 168 = true := zm_in (by omega) (by decide)
            have cy : (nI (24 * s + m)).toNatClampNeg = 24 * s + m := nI_clamp (by omega)
            have S1 : ze_S (D + 28) 5 (some .int) zc_X6_tab 39 [(0, .ref 232), (1, .int (nI s)), (2, .int (nI i)), (3, .int y)] [] (zm_mk ν) 63 [(4, .int (nI (24 * s + m))), (0, .ref 232), (1, .int (nI s)), (2, .int (nI i)), (3, .int y)] [] (zm_mk ν) := by
              refine ⟨N4, 11, fun F n hF => ?_⟩
              simp [zg_0, zg_aload_n, zg_bipush, zg_getfield, zg_goto, zg_iadd, zg_iaload, zg_iconst, zg_ifCond, zg_if_icmp, zg_iload, zg_iload_n, zg_imul, zg_invokestatic, zg_invokevirtual, zg_ireturn, zg_istore, zg_ldc, zg_ldc_w, zf_X6_tab, zi_ld, zi_lda, zi_cmp, zi_retOk, zi_isI, zi_f3, zi_cr, zi_ci, zi_cn, zi_get, zi_set, zM_g, hl.1, q3, zm_iald (k := 0) zM_A259 ii, ci, e2, zq_Mod_spot, E4 F (by omega)]
            have fin : ∃ v, ze_G (D + 28) 5 (some .int) zc_X6_tab 63 [(4, .int (nI (24 * s + m))), (0, .ref 232), (1, .int (nI s)), (2, .int (nI i)), (3, .int y)] [] (zm_mk ν) (some (.int v)) (zm_mk ν) := by
              by_cases q4 : 0 ≤ y
              · by_cases q5 : y < nI (zu_tb ν s m).length
                · have l10 := t1.1
                  obtain ⟨j, hj, rfl⟩ := zv_nI_of q4 q5 (by omega)
                  have mk : (10 : Int32) * nI (24 * s + m) = nI (10 * (24 * s + m)) := nI_mul10 (by omega)
                  have ij : zi_in (nI (10 * (24 * s + m) + j)) 1680 = true := zm_in (by omega) (by decide)
                  have cj : (nI (10 * (24 * s + m) + j)).toNatClampNeg = 10 * (24 * s + m) + j := nI_clamp (by omega)
                  have q5' : ¬ nI (zu_tb ν s m).length ≤ nI j := Int32.not_le.mpr q5
                  refine ⟨ν 248 (10 * (24 * s + m) + j), 0, 18, fun F n hF => ?_⟩
                  simp [zg_0, zg_aload_n, zg_bipush, zg_getfield, zg_goto, zg_iadd, zg_iaload, zg_iconst, zg_ifCond, zg_if_icmp, zg_iload, zg_iload_n, zg_imul, zg_invokestatic, zg_invokevirtual, zg_ireturn, zg_istore, zg_ldc, zg_ldc_w, zf_X6_tab, zi_ld, zi_lda, zi_cmp, zi_retOk, zi_isI, zi_f3, zi_cr, zi_ci, zi_cn, zi_get, zi_set, zM_g, h10, q4, q5', zm_iald (k := 0) zM_A249 iy, cy, t1.2.1, mk, nI_add, zm_iald (k := 0) zM_A248 ij, cj]
                · have q5' : nI (zu_tb ν s m).length ≤ y := Int32.not_lt.mp q5
                  refine ⟨-1000000005, 0, 10, fun F n hF => ?_⟩
                  simp [zg_0, zg_aload_n, zg_bipush, zg_getfield, zg_goto, zg_iadd, zg_iaload, zg_iconst, zg_ifCond, zg_if_icmp, zg_iload, zg_iload_n, zg_imul, zg_invokestatic, zg_invokevirtual, zg_ireturn, zg_istore, zg_ldc, zg_ldc_w, zf_X6_tab, zi_ld, zi_lda, zi_cmp, zi_retOk, zi_isI, zi_f3, zi_cr, zi_ci, zi_cn, zi_get, zi_set, zM_g, q4, q5', zm_iald (k := 0) zM_A249 iy, cy, t1.2.1, n5]
              · by_cases q6 : y = -1
                · subst q6
                  refine ⟨ν 249 (24 * s + m), 0, 11, fun F n hF => ?_⟩
                  simp [zg_0, zg_aload_n, zg_bipush, zg_getfield, zg_goto, zg_iadd, zg_iaload, zg_iconst, zg_ifCond, zg_if_icmp, zg_iload, zg_iload_n, zg_imul, zg_invokestatic, zg_invokevirtual, zg_ireturn, zg_istore, zg_ldc, zg_ldc_w, zf_X6_tab, zi_ld, zi_lda, zi_cmp, zi_retOk, zi_isI, zi_f3, zi_cr, zi_ci, zi_cn, zi_get, zi_set, zM_g, q4, zm_iald (k := 0) zM_A249 iy, cy]
                · refine ⟨ν 250 (24 * s + m), 0, 10, fun F n hF => ?_⟩
                  simp [zg_0, zg_aload_n, zg_bipush, zg_getfield, zg_goto, zg_iadd, zg_iaload, zg_iconst, zg_ifCond, zg_if_icmp, zg_iload, zg_iload_n, zg_imul, zg_invokestatic, zg_invokevirtual, zg_ireturn, zg_istore, zg_ldc, zg_ldc_w, zf_X6_tab, zi_ld, zi_lda, zi_cmp, zi_retOk, zi_isI, zi_f3, zi_cr, zi_ci, zi_cn, zi_get, zi_set, zM_g, q4, q6, zm_iald (k := 0) zM_A250 iy, cy]
            obtain ⟨v, G⟩ := fin
            exact ⟨ν, v, ze_in [(0, .ref 232), (1, .int (nI s)), (2, .int (nI i)), (3, .int y)] zq_Mod_tab (Nat.le_of_ble_eq_true rfl) rfl (S0.end (S1.end G)), f.fr⟩
          · refine ⟨ν, -1000000005, ze_in [(0, .ref 232), (1, .int (nI s)), (2, .int x), (3, .int y)] zq_Mod_tab (Nat.le_of_ble_eq_true rfl) rfl (S0.end ⟨0, 6, fun F n hF => ?_⟩), f.fr⟩
            simp [zg_0, zg_aload_n, zg_bipush, zg_getfield, zg_goto, zg_iadd, zg_iaload, zg_iconst, zg_ifCond, zg_if_icmp, zg_iload, zg_iload_n, zg_imul, zg_invokestatic, zg_invokevirtual, zg_ireturn, zg_istore, zg_ldc, zg_ldc_w, zf_X6_tab, zi_ld, zi_lda, zi_cmp, zi_retOk, zi_isI, zi_f3, zi_cr, zi_ci, zi_cn, zi_get, zi_set, zM_g, hl.1, q3, n5]
      · refine ⟨μ, -1000000001, ze_in [(0, .ref 232), (1, .int (nI s)), (2, .int x), (3, .int y)] zq_Mod_tab (Nat.le_of_ble_eq_true rfl) rfl ⟨N1, 12, fun F n hF => ?_⟩, zM_fr.refl⟩
        simp [zg_0, zg_aload_n, zg_bipush, zg_getfield, zg_goto, zg_iadd, zg_iaload, zg_iconst, zg_ifCond, zg_if_icmp, zg_iload, zg_iload_n, zg_imul, zg_invokestatic, zg_invokevirtual, zg_ireturn, zg_istore, zg_ldc, zg_ldc_w, zf_X6_tab, zi_ld, zi_lda, zi_cmp, zi_retOk, zi_isI, zi_f3, zi_cr, zi_ci, zi_cn, zi_get, zi_set, m2, zq_Mod_isIn, E1 F (by omega), q1, q2, n1]
  · refine ⟨μ, -1000000001, ze_in [(0, .ref 232), (1, .int w), (2, .int x), (3, .int y)] zq_Mod_tab (Nat.le_of_ble_eq_true rfl) rfl ⟨N1, 7, fun F n hF => ?_⟩, zM_fr.refl⟩
    simp [zg_0, zg_aload_n, zg_bipush, zg_getfield, zg_goto, zg_iadd, zg_iaload, zg_iconst, zg_ifCond, zg_if_icmp, zg_iload, zg_iload_n, zg_imul, zg_invokestatic, zg_invokevirtual, zg_ireturn, zg_istore, zg_ldc, zg_ldc_w, zf_X6_tab, zi_ld, zi_lda, zi_cmp, zi_retOk, zi_isI, zi_f3, zi_cr, zi_ci, zi_cn, zi_get, zi_set, zq_Mod_isIn, E1 F (by omega), n1]
theorem zv_ctA (D : Nat) (L0 : zi_Lc) (nl0 : zi_nl L0 = true) (a0 : zi_get L0 0 = some (.ref 232)) (a2 : zi_get L0 2 = some (.int 0)) (a3 : zi_get L0 3 = some (.int (nI 0))) : ∃ r h', ze_G D 4 (some .int) zc_X6_count 42 L0 [] (zm_mk μ) r h' ∧ ((∃ v, r = some (.int v)) ∧ zm_mk μ = h') := by
  refine ze_loop (Q := fun i L hp => i ≤ 3 ∧ zi_nl L = true ∧ zi_get L 0 = some (.ref 232) ∧ zi_get L 3 = some (.int (nI i)) ∧ zm_mk μ = hp ∧ ∃ (z : Int32), zi_get L 2 = some (.int z) ∧ (True)) (R := fun r h' => (∃ v, r = some (.int v)) ∧ zm_mk μ = h') 3 ?_ ?_ 3 0 _ _ (by omega) ⟨by omega, nl0, a0, a3, rfl, 0, a2, trivial⟩
  · rintro i L _ hi ⟨-, nl, g0, g3, rfl, z, g2, hq⟩
    have c1 : ¬ (3 : Int32) ≤ nI i := nI_ge (b := 3) hi (by decide)
    have ik : zi_in (nI i) 3 = true := zm_in hi (by decide)
    have ck : (nI i).toNatClampNeg = i := nI_clamp (by omega)
    by_cases c2 : μ 232 i ≤ 0
    · left
      refine ⟨zi_set (zi_set L 2 (.int (z + 0))) 3 (.int (nI (i + 1))), zm_mk μ, ⟨0, 14, fun F m hF => ?_⟩, by omega, ?_, ?_, zi_get_set_eq, rfl, z + 0, ?_, trivial⟩
      · simp (maxDischargeDepth := 9) [zg_0, zg_aload_n, zg_baload, zg_bipush, zg_getfield, zg_goto, zg_iadd, zg_iaload, zg_iconst, zg_ifCond, zg_if_icmp, zg_iinc, zg_iload_n, zg_ireturn, zg_istore_n, zg_ldc, zg_ldc_w, zg_tableswitch, zf_X6_count, zi_ld, zi_lda, zi_cmp, zi_retOk, zi_isI, zi_f3, zi_cr, zi_ci, zi_cn, zi_get_ne, zi_nl_i, zi_nl_r, zi_get_set_eq, nl, g0, g3, g2, c1, zM_g, zm_iald (k := 0) zM_A232 ik, ck, c2, nI_1]
      · simp (maxDischargeDepth := 9) [zi_get_ne, zi_nl_i, zi_nl_r, zi_get_set_eq, nl]
      · simp (maxDischargeDepth := 9) [zi_get_ne, zi_nl_i, zi_nl_r, zi_get_set_eq, nl, g0]
      · simp (maxDischargeDepth := 9) [zi_get_ne, zi_nl_i, zi_nl_r, zi_get_set_eq, nl, g2]
    · left
      refine ⟨zi_set (zi_set L 2 (.int (z + 1))) 3 (.int (nI (i + 1))), zm_mk μ, ⟨0, 15, fun F m hF => ?_⟩, by omega, ?_, ?_, zi_get_set_eq, rfl, z + 1, ?_, trivial⟩
      · simp (maxDischargeDepth := 9) [zg_0, zg_aload_n, zg_baload, zg_bipush, zg_getfield, zg_goto, zg_iadd, zg_iaload, zg_iconst, zg_ifCond, zg_if_icmp, zg_iinc, zg_iload_n, zg_ireturn, zg_istore_n, zg_ldc, zg_ldc_w, zg_tableswitch, zf_X6_count, zi_ld, zi_lda, zi_cmp, zi_retOk, zi_isI, zi_f3, zi_cr, zi_ci, zi_cn, zi_get_ne, zi_nl_i, zi_nl_r, zi_get_set_eq, nl, g0, g3, g2, c1, zM_g, zm_iald (k := 0) zM_A232 ik, ck, c2, nI_1]
      · simp (maxDischargeDepth := 9) [zi_get_ne, zi_nl_i, zi_nl_r, zi_get_set_eq, nl]
      · simp (maxDischargeDepth := 9) [zi_get_ne, zi_nl_i, zi_nl_r, zi_get_set_eq, nl, g0]
      · simp (maxDischargeDepth := 9) [zi_get_ne, zi_nl_i, zi_nl_r, zi_get_set_eq, nl, g2]
  · rintro L _ ⟨-, nl, g0, g3, rfl, z, g2, hq⟩
    have c1 : (3 : Int32) ≤ nI 3 := by decide
    refine ⟨some (.int z), zm_mk μ, ⟨0, 5, fun F m hF => ?_⟩, ⟨z, rfl⟩, rfl⟩
    simp [zg_0, zg_aload_n, zg_baload, zg_bipush, zg_getfield, zg_goto, zg_iadd, zg_iaload, zg_iconst, zg_ifCond, zg_if_icmp, zg_iinc, zg_iload_n, zg_ireturn, zg_istore_n, zg_ldc, zg_ldc_w, zg_tableswitch, zf_X6_count, zi_ld, zi_lda, zi_cmp, zi_retOk, zi_isI, zi_f3, zi_cr, zi_ci, zi_cn, g0, g2, g3, c1]
theorem zv_ctB (D : Nat) (L0 : zi_Lc) (nl0 : zi_nl L0 = true) (a0 : zi_get L0 0 = some (.ref 232)) (a2 : zi_get L0 2 = some (.int 0)) (a3 : zi_get L0 3 = some (.int (nI 0))) : ∃ r h', ze_G D 4 (some .int) zc_X6_count 79 L0 [] (zm_mk μ) r h' ∧ ((∃ v, r = some (.int v)) ∧ zm_mk μ = h') := by
  have h10 : (Int8.ofInt 10).toInt32 = (10 : Int32) := by decide
  refine ze_loop (Q := fun i L hp => i ≤ 10 ∧ zi_nl L = true ∧ zi_get L 0 = some (.ref 232) ∧ zi_get L 3 = some (.int (nI i)) ∧ zm_mk μ = hp ∧ ∃ (z : Int32), zi_get L 2 = some (.int z) ∧ (True)) (R := fun r h' => (∃ v, r = some (.int v)) ∧ zm_mk μ = h') 10 ?_ ?_ 10 0 _ _ (by omega) ⟨by omega, nl0, a0, a3, rfl, 0, a2, trivial⟩
  · rintro i L _ hi ⟨-, nl, g0, g3, rfl, z, g2, hq⟩
    have c1 : ¬ (10 : Int32) ≤ nI i := nI_ge (b := 10) hi (by decide)
    have ik : zi_in (nI i) 10 = true := zm_in hi (by decide)
    have ck : (nI i).toNatClampNeg = i := nI_clamp (by omega)
    by_cases c2 : μ 234 i = 1
    · left
      refine ⟨zi_set (zi_set L 2 (.int (z + 1))) 3 (.int (nI (i + 1))), zm_mk μ, ⟨0, 16, fun F m hF => ?_⟩, by omega, ?_, ?_, zi_get_set_eq, rfl, z + 1, ?_, trivial⟩
      · simp (maxDischargeDepth := 9) [zg_0, zg_aload_n, zg_baload, zg_bipush, zg_getfield, zg_goto, zg_iadd, zg_iaload, zg_iconst, zg_ifCond, zg_if_icmp, zg_iinc, zg_iload_n, zg_ireturn, zg_istore_n, zg_ldc, zg_ldc_w, zg_tableswitch, zf_X6_count, zi_ld, zi_lda, zi_cmp, zi_retOk, zi_isI, zi_f3, zi_cr, zi_ci, zi_cn, zi_get_ne, zi_nl_i, zi_nl_r, zi_get_set_eq, nl, g0, g3, g2, h10, c1, zM_g, zm_iald (k := 0) zM_A234 ik, ck, c2, nI_1]
      · simp (maxDischargeDepth := 9) [zi_get_ne, zi_nl_i, zi_nl_r, zi_get_set_eq, nl]
      · simp (maxDischargeDepth := 9) [zi_get_ne, zi_nl_i, zi_nl_r, zi_get_set_eq, nl, g0]
      · simp (maxDischargeDepth := 9) [zi_get_ne, zi_nl_i, zi_nl_r, zi_get_set_eq, nl, g2]
    · left
      refine ⟨zi_set (zi_set L 2 (.int (z + 0))) 3 (.int (nI (i + 1))), zm_mk μ, ⟨0, 15, fun F m hF => ?_⟩, by omega, ?_, ?_, zi_get_set_eq, rfl, z + 0, ?_, trivial⟩
      · simp (maxDischargeDepth := 9) [zg_0, zg_aload_n, zg_baload, zg_bipush, zg_getfield, zg_goto, zg_iadd, zg_iaload, zg_iconst, zg_ifCond, zg_if_icmp, zg_iinc, zg_iload_n, zg_ireturn, zg_istore_n, zg_ldc, zg_ldc_w, zg_tableswitch, zf_X6_count, zi_ld, zi_lda, zi_cmp, zi_retOk, zi_isI, zi_f3, zi_cr, zi_ci, zi_cn, zi_get_ne, zi_nl_i, zi_nl_r, zi_get_set_eq, nl, g0, g3, g2, h10, c1, zM_g, zm_iald (k := 0) zM_A234 ik, ck, c2, nI_1]
      · simp (maxDischargeDepth := 9) [zi_get_ne, zi_nl_i, zi_nl_r, zi_get_set_eq, nl]
      · simp (maxDischargeDepth := 9) [zi_get_ne, zi_nl_i, zi_nl_r, zi_get_set_eq, nl, g0]
      · simp (maxDischargeDepth := 9) [zi_get_ne, zi_nl_i, zi_nl_r, zi_get_set_eq, nl, g2]
  · rintro L _ ⟨-, nl, g0, g3, rfl, z, g2, hq⟩
    have c1 : (10 : Int32) ≤ nI 10 := by decide
    refine ⟨some (.int z), zm_mk μ, ⟨0, 5, fun F m hF => ?_⟩, ⟨z, rfl⟩, rfl⟩
    simp [zg_0, zg_aload_n, zg_baload, zg_bipush, zg_getfield, zg_goto, zg_iadd, zg_iaload, zg_iconst, zg_ifCond, zg_if_icmp, zg_iinc, zg_iload_n, zg_ireturn, zg_istore_n, zg_ldc, zg_ldc_w, zg_tableswitch, zf_X6_count, zi_ld, zi_lda, zi_cmp, zi_retOk, zi_isI, zi_f3, zi_cr, zi_ci, zi_cn, g0, g2, g3, h10, c1]
theorem zv_ctC (D : Nat) (L0 : zi_Lc) (nl0 : zi_nl L0 = true) (a0 : zi_get L0 0 = some (.ref 232)) (a2 : zi_get L0 2 = some (.int 0)) (a3 : zi_get L0 3 = some (.int (nI 0))) : ∃ r h', ze_G D 4 (some .int) zc_X6_count 138 L0 [] (zm_mk μ) r h' ∧ ((∃ v, r = some (.int v)) ∧ zm_mk μ = h') := by
  refine ze_loop (Q := fun i L hp => i ≤ 3 ∧ zi_nl L = true ∧ zi_get L 0 = some (.ref 232) ∧ zi_get L 3 = some (.int (nI i)) ∧ zm_mk μ = hp ∧ ∃ (z : Int32), zi_get L 2 = some (.int z) ∧ (True)) (R := fun r h' => (∃ v, r = some (.int v)) ∧ zm_mk μ = h') 3 ?_ ?_ 3 0 _ _ (by omega) ⟨by omega, nl0, a0, a3, rfl, 0, a2, trivial⟩
  · rintro i L _ hi ⟨-, nl, g0, g3, rfl, z, g2, hq⟩
    have c1 : ¬ (3 : Int32) ≤ nI i := nI_ge (b := 3) hi (by decide)
    have ik : zi_in (nI i) 3 = true := zm_in hi (by decide)
    have ck : (nI i).toNatClampNeg = i := nI_clamp (by omega)
    by_cases c2 : μ 251 i = 0
    · left
      refine ⟨zi_set (zi_set L 2 (.int (z + 0))) 3 (.int (nI (i + 1))), zm_mk μ, ⟨0, 14, fun F m hF => ?_⟩, by omega, ?_, ?_, zi_get_set_eq, rfl, z + 0, ?_, trivial⟩
      · simp (maxDischargeDepth := 9) [zg_0, zg_aload_n, zg_baload, zg_bipush, zg_getfield, zg_goto, zg_iadd, zg_iaload, zg_iconst, zg_ifCond, zg_if_icmp, zg_iinc, zg_iload_n, zg_ireturn, zg_istore_n, zg_ldc, zg_ldc_w, zg_tableswitch, zf_X6_count, zi_ld, zi_lda, zi_cmp, zi_retOk, zi_isI, zi_f3, zi_cr, zi_ci, zi_cn, zi_get_ne, zi_nl_i, zi_nl_r, zi_get_set_eq, nl, g0, g3, g2, c1, zM_g, zm_bald zM_A251 ik, ck, c2, nI_1]
      · simp (maxDischargeDepth := 9) [zi_get_ne, zi_nl_i, zi_nl_r, zi_get_set_eq, nl]
      · simp (maxDischargeDepth := 9) [zi_get_ne, zi_nl_i, zi_nl_r, zi_get_set_eq, nl, g0]
      · simp (maxDischargeDepth := 9) [zi_get_ne, zi_nl_i, zi_nl_r, zi_get_set_eq, nl, g2]
    · left
      refine ⟨zi_set (zi_set L 2 (.int (z + 1))) 3 (.int (nI (i + 1))), zm_mk μ, ⟨0, 15, fun F m hF => ?_⟩, by omega, ?_, ?_, zi_get_set_eq, rfl, z + 1, ?_, trivial⟩
      · simp (maxDischargeDepth := 9) [zg_0, zg_aload_n, zg_baload, zg_bipush, zg_getfield, zg_goto, zg_iadd, zg_iaload, zg_iconst, zg_ifCond, zg_if_icmp, zg_iinc, zg_iload_n, zg_ireturn, zg_istore_n, zg_ldc, zg_ldc_w, zg_tableswitch, zf_X6_count, zi_ld, zi_lda, zi_cmp, zi_retOk, zi_isI, zi_f3, zi_cr, zi_ci, zi_cn, zi_get_ne, zi_nl_i, zi_nl_r, zi_get_set_eq, nl, g0, g3, g2, c1, zM_g, zm_bald zM_A251 ik, ck, c2, nI_1]
      · simp (maxDischargeDepth := 9) [zi_get_ne, zi_nl_i, zi_nl_r, zi_get_set_eq, nl]
      · simp (maxDischargeDepth := 9) [zi_get_ne, zi_nl_i, zi_nl_r, zi_get_set_eq, nl, g0]
      · simp (maxDischargeDepth := 9) [zi_get_ne, zi_nl_i, zi_nl_r, zi_get_set_eq, nl, g2]
  · rintro L _ ⟨-, nl, g0, g3, rfl, z, g2, hq⟩
    have c1 : (3 : Int32) ≤ nI 3 := by decide
    refine ⟨some (.int z), zm_mk μ, ⟨0, 5, fun F m hF => ?_⟩, ⟨z, rfl⟩, rfl⟩
    simp [zg_0, zg_aload_n, zg_baload, zg_bipush, zg_getfield, zg_goto, zg_iadd, zg_iaload, zg_iconst, zg_ifCond, zg_if_icmp, zg_iinc, zg_iload_n, zg_ireturn, zg_istore_n, zg_ldc, zg_ldc_w, zg_tableswitch, zf_X6_count, zi_ld, zi_lda, zi_cmp, zi_retOk, zi_isI, zi_f3, zi_cr, zi_ci, zi_cn, g0, g2, g3, c1]
set_option maxRecDepth 100000 in
theorem ze_Mcount (D : Nat) (x : Int32) : ∃ v, ze_E (D + 1) A_Mod_count [.ref 232, .int x] (zm_mk μ) (some (.int v)) (zm_mk μ) := by
  have n1 : Int32.ofInt (-1000000001) = -1000000001 := by decide
  have n5 : Int32.ofInt (-1000000005) = -1000000005 := by decide
  have i0 : zi_in (0 : Int32) 10 = true := by decide
  have z0 : (0 : Int32).toNatClampNeg = 0 := by decide
  have fin : ∃ v, ze_G D 4 (some .int) zc_X6_count 0 [(0, .ref 232), (1, .int x)] [] (zm_mk μ) (some (.int v)) (zm_mk μ) := by
    rcases zd_rng x 6 (by decide) with ⟨j, hj, rfl⟩ | ho
    · match j, hj with
      | 0, _ =>
        have t0 : (nI 0).toInt = 0 := by decide
        obtain ⟨r, h', G, ⟨v, rfl⟩, rfl⟩ := zv_ctA (μ := μ) D [(3, .int (nI 0)), (2, .int 0), (0, .ref 232), (1, .int (nI 0))] rfl rfl rfl rfl
        refine ⟨v, ze_S.end ⟨0, 6, fun F n hF => ?_⟩ G⟩
        simp [zg_0, zg_aload_n, zg_baload, zg_bipush, zg_getfield, zg_goto, zg_iadd, zg_iaload, zg_iconst, zg_ifCond, zg_if_icmp, zg_iinc, zg_iload_n, zg_ireturn, zg_istore_n, zg_ldc, zg_ldc_w, zg_tableswitch, zf_X6_count, zi_ld, zi_lda, zi_cmp, zi_retOk, zi_isI, zi_f3, zi_cr, zi_ci, zi_cn, zi_get, zi_set, t0, nI_0]
      | 1, _ =>
        have t0 : (nI 1).toInt = 1 := by decide
        refine ⟨μ 231 12, 0, 7, fun F n hF => ?_⟩
        simp [zg_0, zg_aload_n, zg_baload, zg_bipush, zg_getfield, zg_goto, zg_iadd, zg_iaload, zg_iconst, zg_ifCond, zg_if_icmp, zg_iinc, zg_iload_n, zg_ireturn, zg_istore_n, zg_ldc, zg_ldc_w, zg_tableswitch, zf_X6_count, zi_ld, zi_lda, zi_cmp, zi_retOk, zi_isI, zi_f3, zi_cr, zi_ci, zi_cn, zi_get, zi_set, t0, zM_g]
      | 2, _ =>
        have t0 : (nI 2).toInt = 2 := by decide
        obtain ⟨r, h', G, ⟨v, rfl⟩, rfl⟩ := zv_ctB (μ := μ) D [(3, .int (nI 0)), (2, .int 0), (0, .ref 232), (1, .int (nI 2))] rfl rfl rfl rfl
        refine ⟨v, ze_S.end ⟨0, 6, fun F n hF => ?_⟩ G⟩
        simp [zg_0, zg_aload_n, zg_baload, zg_bipush, zg_getfield, zg_goto, zg_iadd, zg_iaload, zg_iconst, zg_ifCond, zg_if_icmp, zg_iinc, zg_iload_n, zg_ireturn, zg_istore_n, zg_ldc, zg_ldc_w, zg_tableswitch, zf_X6_count, zi_ld, zi_lda, zi_cmp, zi_retOk, zi_isI, zi_f3, zi_cr, zi_ci, zi_cn, zi_get, zi_set, t0, nI_0]
      | 3, _ =>
        have t0 : (nI 3).toInt = 3 := by decide
        refine ⟨μ 231 10, 0, 7, fun F n hF => ?_⟩
        simp [zg_0, zg_aload_n, zg_baload, zg_bipush, zg_getfield, zg_goto, zg_iadd, zg_iaload, zg_iconst, zg_ifCond, zg_if_icmp, zg_iinc, zg_iload_n, zg_ireturn, zg_istore_n, zg_ldc, zg_ldc_w, zg_tableswitch, zf_X6_count, zi_ld, zi_lda, zi_cmp, zi_retOk, zi_isI, zi_f3, zi_cr, zi_ci, zi_cn, zi_get, zi_set, t0, zM_g]
      | 4, _ =>
        have t0 : (nI 4).toInt = 4 := by decide
        by_cases c : μ 231 12 ≤ 0
        · refine ⟨-1000000005, 0, 9, fun F n hF => ?_⟩
          simp [zg_0, zg_aload_n, zg_baload, zg_bipush, zg_getfield, zg_goto, zg_iadd, zg_iaload, zg_iconst, zg_ifCond, zg_if_icmp, zg_iinc, zg_iload_n, zg_ireturn, zg_istore_n, zg_ldc, zg_ldc_w, zg_tableswitch, zf_X6_count, zi_ld, zi_lda, zi_cmp, zi_retOk, zi_isI, zi_f3, zi_cr, zi_ci, zi_cn, zi_get, zi_set, t0, zM_g, c, n5]
        · refine ⟨μ 242 0, 0, 13, fun F n hF => ?_⟩
          simp [zg_0, zg_aload_n, zg_baload, zg_bipush, zg_getfield, zg_goto, zg_iadd, zg_iaload, zg_iconst, zg_ifCond, zg_if_icmp, zg_iinc, zg_iload_n, zg_ireturn, zg_istore_n, zg_ldc, zg_ldc_w, zg_tableswitch, zf_X6_count, zi_ld, zi_lda, zi_cmp, zi_retOk, zi_isI, zi_f3, zi_cr, zi_ci, zi_cn, zi_get, zi_set, t0, zM_g, c, zm_iald (k := 0) zM_A242 i0, z0]
      | 5, _ =>
        have t0 : (nI 5).toInt = 5 := by decide
        obtain ⟨r, h', G, ⟨v, rfl⟩, rfl⟩ := zv_ctC (μ := μ) D [(3, .int (nI 0)), (2, .int 0), (0, .ref 232), (1, .int (nI 5))] rfl rfl rfl rfl
        refine ⟨v, ze_S.end ⟨0, 6, fun F n hF => ?_⟩ G⟩
        simp [zg_0, zg_aload_n, zg_baload, zg_bipush, zg_getfield, zg_goto, zg_iadd, zg_iaload, zg_iconst, zg_ifCond, zg_if_icmp, zg_iinc, zg_iload_n, zg_ireturn, zg_istore_n, zg_ldc, zg_ldc_w, zg_tableswitch, zf_X6_count, zi_ld, zi_lda, zi_cmp, zi_retOk, zi_isI, zi_f3, zi_cr, zi_ci, zi_cn, zi_get, zi_set, t0, nI_0]
    · have ho' : x.toInt < 0 ∨ 5 < x.toInt := by
        rcases zd_sw (by decide) ho with q | q
        · exact Or.inl q
        · right; omega
      refine ⟨-1000000001, 0, 6, fun F n hF => ?_⟩
      simp [zg_0, zg_aload_n, zg_baload, zg_bipush, zg_getfield, zg_goto, zg_iadd, zg_iaload, zg_iconst, zg_ifCond, zg_if_icmp, zg_iinc, zg_iload_n, zg_ireturn, zg_istore_n, zg_ldc, zg_ldc_w, zg_tableswitch, zf_X6_count, zi_ld, zi_lda, zi_cmp, zi_retOk, zi_isI, zi_f3, zi_cr, zi_ci, zi_cn, zi_get, zi_set, ho', n1]
  obtain ⟨v, G⟩ := fin
  exact ⟨v, ze_in [(0, .ref 232), (1, .int x)] zq_Mod_count (Nat.le_of_ble_eq_true rfl) rfl G⟩
end ZWG
