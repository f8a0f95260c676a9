section
/-! the reference: neighbourOf whole -/
section ZVO
variable {μ : zm_M} {u : zy_F} {ab : Nat → Int32} {lo : Nat → Nat}
set_option maxRecDepth 100000 in
theorem zv_nbL (D : Nat) {k s sd : Nat} (hk : k < 10) (hs : s < 3) (hsd : sd < 4) (hI : zu_I μ s u ab) (hp : lo k < 24) (hlo : ∀ j, j < 10 → μ 234 j = 1 → μ 238 j = nI s → zu_at μ s u j (lo j)) :
    ∃ r h', ze_G (D + 4) 11 (some .int) zc_X6_neighbourOf 29 [(7, .int (nI 0)), (6, .int 0), (5, .int (-1)), (4, .int (nI (lo k))), (3, .int (nI s)), (0, .ref 232), (1, .int (nI k)), (2, .int (nI sd))] [] (zm_mk μ) r h' ∧ (r = some (.int (zl_nb (zv_nf μ s k sd lo) (List.range 10) (-1) 0)) ∧ zm_mk μ = h') := by
  have h10 : (Int8.ofInt 10).toInt32 = (10 : Int32) := by decide
  obtain ⟨lc, cM⟩ := zM_c (μ := μ)
  refine ze_loop (Q := fun i L hp => i ≤ 10 ∧ zi_nl L = true ∧ zi_get L 0 = some (.ref 232) ∧ zi_get L 1 = some (.int (nI k)) ∧ zi_get L 2 = some (.int (nI sd)) ∧ zi_get L 3 = some (.int (nI s)) ∧ zi_get L 4 = some (.int (nI (lo k))) ∧ zi_get L 7 = some (.int (nI i)) ∧ zm_mk μ = hp ∧ ∃ (b : Int32) (v : Int32), zi_get L 5 = some (.int b) ∧ zi_get L 6 = some (.int v) ∧ (0 ≤ v ∧ zl_nb (zv_nf μ s k sd lo) (List.range 10) (-1) 0 = zl_nb (zv_nf μ s k sd lo) ((List.range 10).drop i) b v)) (R := fun r h' => r = some (.int (zl_nb (zv_nf μ s k sd lo) (List.range 10) (-1) 0)) ∧ zm_mk μ = h') 10 ?_ ?_ 10 0 _ _ (by omega) ⟨by omega, rfl, rfl, rfl, rfl, rfl, rfl, rfl, rfl, -1, 0, rfl, rfl, Int32.le_refl _, rfl⟩
  · rintro i L _ hi ⟨-, nl, g0, g1, g2, g3, g4, g7, rfl, b, v, g5, g6, hq⟩
    obtain ⟨hv, hq⟩ := hq
    rw [zl_drop10 hi] at hq
    have hq' : zl_nb (zv_nf μ s k sd lo) (List.range 10) (-1) 0 = if v < zv_nf μ s k sd lo i then zl_nb (zv_nf μ s k sd lo) ((List.range 10).drop (i + 1)) (nI i) (zv_nf μ s k sd lo i) else zl_nb (zv_nf μ s k sd lo) ((List.range 10).drop (i + 1)) b v := hq
    have hn0 : ¬ v < 0 := Int32.not_lt.mpr hv
    have c1 : ¬ (10 : Int32) ≤ nI i := nI_ge (b := 10) hi (by decide)
    have ik : zi_in (nI i) 10 = true := zm_in hi (by decide)
    have ck : (nI i).toNatClampNeg = i := nI_clamp (by omega)
    by_cases c2 : i = k
    · have ef : zv_nf μ s k sd lo i = 0 := if_neg (fun q => q.1.1 c2)
      rw [ef, if_neg hn0] at hq'
      subst c2
      left
      refine ⟨zi_set L 7 (.int (nI (i + 1))), zm_mk μ, ⟨0, 8, fun F m hF => ?_⟩, by omega, ?_, ?_, ?_, ?_, ?_, ?_, zi_get_set_eq, rfl, b, v, ?_, ?_, ⟨hv, hq'⟩⟩
      · simp (maxDischargeDepth := 9) [zg_0, zg_aload_n, zg_bipush, zg_getfield, zg_goto, zg_iadd, zg_iaload, zg_iconst, zg_ifCond, zg_if_icmp, zg_iinc, zg_iload, zg_iload_n, zg_invokestatic, zg_invokevirtual, zg_ireturn, zg_istore, zg_istore_n, zf_X6_neighbourOf, zi_ld, zi_lda, zi_cmp, zi_retOk, zi_isI, zi_f3, zi_cr, zi_ci, zi_cn, zi_get_ne, zi_nl_i, zi_nl_r, zi_get_set_eq, nl, g0, g1, g2, g3, g4, g7, g5, g6, h10, c1, nI_1]
      · simp (maxDischargeDepth := 9) [zi_get_ne, zi_nl_i, zi_nl_r, zi_get_set_eq, nl]
      · simp (maxDischargeDepth := 9) [zi_get_ne, zi_nl_i, zi_nl_r, zi_get_set_eq, nl, g0]
      · simp (maxDischargeDepth := 9) [zi_get_ne, zi_nl_i, zi_nl_r, zi_get_set_eq, nl, g1]
      · simp (maxDischargeDepth := 9) [zi_get_ne, zi_nl_i, zi_nl_r, zi_get_set_eq, nl, g2]
      · simp (maxDischargeDepth := 9) [zi_get_ne, zi_nl_i, zi_nl_r, zi_get_set_eq, nl, g3]
      · simp (maxDischargeDepth := 9) [zi_get_ne, zi_nl_i, zi_nl_r, zi_get_set_eq, nl, g4]
      · simp (maxDischargeDepth := 9) [zi_get_ne, zi_nl_i, zi_nl_r, zi_get_set_eq, nl, g5]
      · simp (maxDischargeDepth := 9) [zi_get_ne, zi_nl_i, zi_nl_r, zi_get_set_eq, nl, g6]
    · have ne : ¬ nI i = nI k := fun e => c2 ((nI_eq (by omega) (by omega)).mp e)
      by_cases c3 : μ 234 i = 1
      · by_cases c4 : μ 238 i = nI s
        · have hat := hlo i hi c3 c4
          have hq24 : lo i < 24 := zu_I_lt hI hat.1
          obtain ⟨N1, E1⟩ := ze_MisShown (μ := μ) D hi c3 hs c4 hI hat
          obtain ⟨N2, E2⟩ := ze_MleafOf_at (μ := μ) (D + 1) (by omega) hI hi hat
          by_cases c5 : μ 250 (24 * s + lo i) = nI i
          · rw [if_pos c5] at E1
            have a0 : zi_get (zi_set L 8 (.int (nI (lo i)))) 0 = some (.ref 232) := by simp (maxDischargeDepth := 9) [zi_get_ne, zi_nl_i, zi_nl_r, zi_get_set_eq, nl, g0]
            have a2 : zi_get (zi_set L 8 (.int (nI (lo i)))) 2 = some (.int (nI sd)) := by simp (maxDischargeDepth := 9) [zi_get_ne, zi_nl_i, zi_nl_r, zi_get_set_eq, nl, g2]
            have a4 : zi_get (zi_set L 8 (.int (nI (lo i)))) 4 = some (.int (nI (lo k))) := by simp (maxDischargeDepth := 9) [zi_get_ne, zi_nl_i, zi_nl_r, zi_get_set_eq, nl, g4]
            have anl : zi_nl (zi_set L 8 (.int (nI (lo i)))) = true := by simp (maxDischargeDepth := 9) [zi_get_ne, zi_nl_i, zi_nl_r, zi_get_set_eq, nl]
            have A := zv_nbA (ν := μ) (D + 4) hsd hp hq24 _ a0 a2 a4 zi_get_set_eq
            have S0 : ze_S (D + 4) 11 (some .int) zc_X6_neighbourOf 29 L [] (zm_mk μ) 82 (zi_set L 8 (.int (nI (lo i)))) [] (zm_mk μ) := by
              refine ⟨N1 + N2, 27, fun F m hF => ?_⟩
              simp (maxDischargeDepth := 9) [zg_0, zg_aload_n, zg_bipush, zg_getfield, zg_goto, zg_iadd, zg_iaload, zg_iconst, zg_ifCond, zg_if_icmp, zg_iinc, zg_iload, zg_iload_n, zg_invokestatic, zg_invokevirtual, zg_ireturn, zg_istore, zg_istore_n, zf_X6_neighbourOf, zi_ld, zi_lda, zi_cmp, zi_retOk, zi_isI, zi_f3, zi_cr, zi_ci, zi_cn, zi_get_ne, zi_nl_i, zi_nl_r, zi_get_set_eq, nl, g0, g1, g2, g3, g4, g5, g6, g7, h10, c1, ne, zM_g, zm_iald (k := 0) zM_A234 ik, zm_iald (k := 0) zM_A238 ik, ck, c3, c4, cM, zq_Mod_isShown, zq_Mod_leafOf, E1 F (by omega), E2 F (by omega)]
            by_cases c6 : zv_me μ sd (lo k) (lo i) = true
            · rw [if_pos c6] at A
              have B := zv_nbB (ν := μ) (D + 3) hsd hp hq24 _ 1 anl a0 a2 a4 zi_get_set_eq
              have ef : zv_nf μ s k sd lo i = zv_cb μ sd (lo k) (lo i) := if_pos ⟨⟨c2, c3, c4, c5⟩, c6⟩
              rw [ef] at hq'
              generalize zv_cb μ sd (lo k) (lo i) = z at hq' B
              have S1 := S0.trans (A.trans B)
              by_cases c7 : v < z
              · rw [if_pos c7] at hq'
                have c7' : ¬ z ≤ v := Int32.not_le.mpr c7
                left
                refine ⟨zi_set (zi_set (zi_set (zi_set (zi_set (zi_set L 8 (.int (nI (lo i)))) 9 (.int 1)) 10 (.int z)) 6 (.int z)) 5 (.int (nI i))) 7 (.int (nI (i + 1))), zm_mk μ, ze_S.trans S1 ⟨0, 11, fun F m hF => ?_⟩, by omega, ?_, ?_, ?_, ?_, ?_, ?_, zi_get_set_eq, rfl, nI i, z, ?_, ?_, Int32.le_of_lt (Int32.lt_of_le_of_lt hv c7), hq'⟩
                · simp (maxDischargeDepth := 9) [zg_0, zg_aload_n, zg_bipush, zg_getfield, zg_goto, zg_iadd, zg_iaload, zg_iconst, zg_ifCond, zg_if_icmp, zg_iinc, zg_iload, zg_iload_n, zg_invokestatic, zg_invokevirtual, zg_ireturn, zg_istore, zg_istore_n, zf_X6_neighbourOf, zi_ld, zi_lda, zi_cmp, zi_retOk, zi_isI, zi_f3, zi_cr, zi_ci, zi_cn, zi_get_ne, zi_nl_i, zi_nl_r, zi_get_set_eq, nl, g0, g1, g2, g3, g4, g5, g6, g7, c7', nI_1]
                · simp (maxDischargeDepth := 9) [zi_get_ne, zi_nl_i, zi_nl_r, zi_get_set_eq, nl]
                · simp (maxDischargeDepth := 9) [zi_get_ne, zi_nl_i, zi_nl_r, zi_get_set_eq, nl, g0]
                · simp (maxDischargeDepth := 9) [zi_get_ne, zi_nl_i, zi_nl_r, zi_get_set_eq, nl, g1]
                · simp (maxDischargeDepth := 9) [zi_get_ne, zi_nl_i, zi_nl_r, zi_get_set_eq, nl, g2]
                · simp (maxDischargeDepth := 9) [zi_get_ne, zi_nl_i, zi_nl_r, zi_get_set_eq, nl, g3]
                · simp (maxDischargeDepth := 9) [zi_get_ne, zi_nl_i, zi_nl_r, zi_get_set_eq, nl, g4]
                · simp (maxDischargeDepth := 9) [zi_get_ne, zi_nl_i, zi_nl_r, zi_get_set_eq, nl]
                · simp (maxDischargeDepth := 9) [zi_get_ne, zi_nl_i, zi_nl_r, zi_get_set_eq, nl]
              · rw [if_neg c7] at hq'
                have c7' : z ≤ v := Int32.not_lt.mp c7
                left
                refine ⟨zi_set (zi_set (zi_set (zi_set L 8 (.int (nI (lo i)))) 9 (.int 1)) 10 (.int z)) 7 (.int (nI (i + 1))), zm_mk μ, ze_S.trans S1 ⟨0, 7, fun F m hF => ?_⟩, by omega, ?_, ?_, ?_, ?_, ?_, ?_, zi_get_set_eq, rfl, b, v, ?_, ?_, hv, hq'⟩
                · simp (maxDischargeDepth := 9) [zg_0, zg_aload_n, zg_bipush, zg_getfield, zg_goto, zg_iadd, zg_iaload, zg_iconst, zg_ifCond, zg_if_icmp, zg_iinc, zg_iload, zg_iload_n, zg_invokestatic, zg_invokevirtual, zg_ireturn, zg_istore, zg_istore_n, zf_X6_neighbourOf, zi_ld, zi_lda, zi_cmp, zi_retOk, zi_isI, zi_f3, zi_cr, zi_ci, zi_cn, zi_get_ne, zi_nl_i, zi_nl_r, zi_get_set_eq, nl, g0, g1, g2, g3, g4, g5, g6, g7, c7', nI_1]
                · simp (maxDischargeDepth := 9) [zi_get_ne, zi_nl_i, zi_nl_r, zi_get_set_eq, nl]
                · simp (maxDischargeDepth := 9) [zi_get_ne, zi_nl_i, zi_nl_r, zi_get_set_eq, nl, g0]
                · simp (maxDischargeDepth := 9) [zi_get_ne, zi_nl_i, zi_nl_r, zi_get_set_eq, nl, g1]
                · simp (maxDischargeDepth := 9) [zi_get_ne, zi_nl_i, zi_nl_r, zi_get_set_eq, nl, g2]
                · simp (maxDischargeDepth := 9) [zi_get_ne, zi_nl_i, zi_nl_r, zi_get_set_eq, nl, g3]
                · simp (maxDischargeDepth := 9) [zi_get_ne, zi_nl_i, zi_nl_r, zi_get_set_eq, nl, g4]
                · simp (maxDischargeDepth := 9) [zi_get_ne, zi_nl_i, zi_nl_r, zi_get_set_eq, nl, g5]
                · simp (maxDischargeDepth := 9) [zi_get_ne, zi_nl_i, zi_nl_r, zi_get_set_eq, nl, g6]
            · rw [if_neg c6] at A
              have B := zv_nbB (ν := μ) (D + 3) hsd hp hq24 _ 0 anl a0 a2 a4 zi_get_set_eq
              have ef : zv_nf μ s k sd lo i = 0 := if_neg (fun q => c6 q.2)
              rw [ef, if_neg hn0] at hq'
              generalize zv_cb μ sd (lo k) (lo i) = z at B
              have S1 := S0.trans (A.trans B)
              left
              refine ⟨zi_set (zi_set (zi_set (zi_set L 8 (.int (nI (lo i)))) 9 (.int 0)) 10 (.int z)) 7 (.int (nI (i + 1))), zm_mk μ, ze_S.trans S1 ⟨0, 4, fun F m hF => ?_⟩, by omega, ?_, ?_, ?_, ?_, ?_, ?_, zi_get_set_eq, rfl, b, v, ?_, ?_, hv, hq'⟩
              · simp (maxDischargeDepth := 9) [zg_0, zg_aload_n, zg_bipush, zg_getfield, zg_goto, zg_iadd, zg_iaload, zg_iconst, zg_ifCond, zg_if_icmp, zg_iinc, zg_iload, zg_iload_n, zg_invokestatic, zg_invokevirtual, zg_ireturn, zg_istore, zg_istore_n, zf_X6_neighbourOf, zi_ld, zi_lda, zi_cmp, zi_retOk, zi_isI, zi_f3, zi_cr, zi_ci, zi_cn, zi_get_ne, zi_nl_i, zi_nl_r, zi_get_set_eq, nl, g0, g1, g2, g3, g4, g5, g6, g7, nI_1]
              · simp (maxDischargeDepth := 9) [zi_get_ne, zi_nl_i, zi_nl_r, zi_get_set_eq, nl]
              · simp (maxDischargeDepth := 9) [zi_get_ne, zi_nl_i, zi_nl_r, zi_get_set_eq, nl, g0]
              · simp (maxDischargeDepth := 9) [zi_get_ne, zi_nl_i, zi_nl_r, zi_get_set_eq, nl, g1]
              · simp (maxDischargeDepth := 9) [zi_get_ne, zi_nl_i, zi_nl_r, zi_get_set_eq, nl, g2]
              · simp (maxDischargeDepth := 9) [zi_get_ne, zi_nl_i, zi_nl_r, zi_get_set_eq, nl, g3]
              · simp (maxDischargeDepth := 9) [zi_get_ne, zi_nl_i, zi_nl_r, zi_get_set_eq, nl, g4]
              · simp (maxDischargeDepth := 9) [zi_get_ne, zi_nl_i, zi_nl_r, zi_get_set_eq, nl, g5]
              · simp (maxDischargeDepth := 9) [zi_get_ne, zi_nl_i, zi_nl_r, zi_get_set_eq, nl, g6]
          · rw [if_neg c5] at E1
            have ef : zv_nf μ s k sd lo i = 0 := if_neg (fun q => c5 q.1.2.2.2)
            rw [ef, if_neg hn0] at hq'
            left
            refine ⟨zi_set L 7 (.int (nI (i + 1))), zm_mk μ, ⟨N1, 24, fun F m hF => ?_⟩, by omega, ?_, ?_, ?_, ?_, ?_, ?_, zi_get_set_eq, rfl, b, v, ?_, ?_, hv, hq'⟩
            · simp (maxDischargeDepth := 9) [zg_0, zg_aload_n, zg_bipush, zg_getfield, zg_goto, zg_iadd, zg_iaload, zg_iconst, zg_ifCond, zg_if_icmp, zg_iinc, zg_iload, zg_iload_n, zg_invokestatic, zg_invokevirtual, zg_ireturn, zg_istore, zg_istore_n, zf_X6_neighbourOf, zi_ld, zi_lda, zi_cmp, zi_retOk, zi_isI, zi_f3, zi_cr, zi_ci, zi_cn, zi_get_ne, zi_nl_i, zi_nl_r, zi_get_set_eq, nl, g0, g1, g2, g3, g4, g5, g6, g7, h10, c1, ne, zM_g, zm_iald (k := 0) zM_A234 ik, zm_iald (k := 0) zM_A238 ik, ck, c3, c4, cM, zq_Mod_isShown, E1 F (by omega), nI_1]
            · simp (maxDischargeDepth := 9) [zi_get_ne, zi_nl_i, zi_nl_r, zi_get_set_eq, nl]
            · simp (maxDischargeDepth := 9) [zi_get_ne, zi_nl_i, zi_nl_r, zi_get_set_eq, nl, g0]
            · simp (maxDischargeDepth := 9) [zi_get_ne, zi_nl_i, zi_nl_r, zi_get_set_eq, nl, g1]
            · simp (maxDischargeDepth := 9) [zi_get_ne, zi_nl_i, zi_nl_r, zi_get_set_eq, nl, g2]
            · simp (maxDischargeDepth := 9) [zi_get_ne, zi_nl_i, zi_nl_r, zi_get_set_eq, nl, g3]
            · simp (maxDischargeDepth := 9) [zi_get_ne, zi_nl_i, zi_nl_r, zi_get_set_eq, nl, g4]
            · simp (maxDischargeDepth := 9) [zi_get_ne, zi_nl_i, zi_nl_r, zi_get_set_eq, nl, g5]
            · simp (maxDischargeDepth := 9) [zi_get_ne, zi_nl_i, zi_nl_r, zi_get_set_eq, nl, g6]
        · have ef : zv_nf μ s k sd lo i = 0 := if_neg (fun q => c4 q.1.2.2.1)
          rw [ef, if_neg hn0] at hq'
          left
          refine ⟨zi_set L 7 (.int (nI (i + 1))), zm_mk μ, ⟨0, 20, fun F m hF => ?_⟩, by omega, ?_, ?_, ?_, ?_, ?_, ?_, zi_get_set_eq, rfl, b, v, ?_, ?_, ⟨hv, hq'⟩⟩
          · simp (maxDischargeDepth := 9) [zg_0, zg_aload_n, zg_bipush, zg_getfield, zg_goto, zg_iadd, zg_iaload, zg_iconst, zg_ifCond, zg_if_icmp, zg_iinc, zg_iload, zg_iload_n, zg_invokestatic, zg_invokevirtual, zg_ireturn, zg_istore, zg_istore_n, zf_X6_neighbourOf, zi_ld, zi_lda, zi_cmp, zi_retOk, zi_isI, zi_f3, zi_cr, zi_ci, zi_cn, zi_get_ne, zi_nl_i, zi_nl_r, zi_get_set_eq, nl, g0, g1, g2, g3, g4, g7, g5, g6, h10, c1, ne, zM_g, zm_iald (k := 0) zM_A234 ik, zm_iald (k := 0) zM_A238 ik, ck, c3, c4, nI_1]
          · simp (maxDischargeDepth := 9) [zi_get_ne, zi_nl_i, zi_nl_r, zi_get_set_eq, nl]
          · simp (maxDischargeDepth := 9) [zi_get_ne, zi_nl_i, zi_nl_r, zi_get_set_eq, nl, g0]
          · simp (maxDischargeDepth := 9) [zi_get_ne, zi_nl_i, zi_nl_r, zi_get_set_eq, nl, g1]
          · simp (maxDischargeDepth := 9) [zi_get_ne, zi_nl_i, zi_nl_r, zi_get_set_eq, nl, g2]
          · simp (maxDischargeDepth := 9) [zi_get_ne, zi_nl_i, zi_nl_r, zi_get_set_eq, nl, g3]
          · simp (maxDischargeDepth := 9) [zi_get_ne, zi_nl_i, zi_nl_r, zi_get_set_eq, nl, g4]
          · simp (maxDischargeDepth := 9) [zi_get_ne, zi_nl_i, zi_nl_r, zi_get_set_eq, nl, g5]
          · simp (maxDischargeDepth := 9) [zi_get_ne, zi_nl_i, zi_nl_r, zi_get_set_eq, nl, g6]
      · have ef : zv_nf μ s k sd lo i = 0 := if_neg (fun q => c3 q.1.2.1)
        rw [ef, if_neg hn0] at hq'
        left
        refine ⟨zi_set L 7 (.int (nI (i + 1))), zm_mk μ, ⟨0, 14, fun F m hF => ?_⟩, by omega, ?_, ?_, ?_, ?_, ?_, ?_, zi_get_set_eq, rfl, b, v, ?_, ?_, ⟨hv, hq'⟩⟩
        · simp (maxDischargeDepth := 9) [zg_0, zg_aload_n, zg_bipush, zg_getfield, zg_goto, zg_iadd, zg_iaload, zg_iconst, zg_ifCond, zg_if_icmp, zg_iinc, zg_iload, zg_iload_n, zg_invokestatic, zg_invokevirtual, zg_ireturn, zg_istore, zg_istore_n, zf_X6_neighbourOf, zi_ld, zi_lda, zi_cmp, zi_retOk, zi_isI, zi_f3, zi_cr, zi_ci, zi_cn, zi_get_ne, zi_nl_i, zi_nl_r, zi_get_set_eq, nl, g0, g1, g2, g3, g4, g7, g5, g6, h10, c1, ne, zM_g, zm_iald (k := 0) zM_A234 ik, ck, c3, nI_1]
        · simp (maxDischargeDepth := 9) [zi_get_ne, zi_nl_i, zi_nl_r, zi_get_set_eq, nl]
        · simp (maxDischargeDepth := 9) [zi_get_ne, zi_nl_i, zi_nl_r, zi_get_set_eq, nl, g0]
        · simp (maxDischargeDepth := 9) [zi_get_ne, zi_nl_i, zi_nl_r, zi_get_set_eq, nl, g1]
        · simp (maxDischargeDepth := 9) [zi_get_ne, zi_nl_i, zi_nl_r, zi_get_set_eq, nl, g2]
        · simp (maxDischargeDepth := 9) [zi_get_ne, zi_nl_i, zi_nl_r, zi_get_set_eq, nl, g3]
        · simp (maxDischargeDepth := 9) [zi_get_ne, zi_nl_i, zi_nl_r, zi_get_set_eq, nl, g4]
        · simp (maxDischargeDepth := 9) [zi_get_ne, zi_nl_i, zi_nl_r, zi_get_set_eq, nl, g5]
        · simp (maxDischargeDepth := 9) [zi_get_ne, zi_nl_i, zi_nl_r, zi_get_set_eq, nl, g6]
  · rintro L _ ⟨-, nl, g0, g1, g2, g3, g4, g7, rfl, b, v, g5, g6, hq⟩
    obtain ⟨-, hq⟩ := hq
    rw [zl_drop10'] at hq
    have hq : zl_nb (zv_nf μ s k sd lo) (List.range 10) (-1) 0 = b := hq
    rw [hq]
    have c1 : (10 : Int32) ≤ nI 10 := by decide
    refine ⟨_, zm_mk μ, ⟨0, 5, fun F m hF => ?_⟩, rfl, rfl⟩
    simp [zg_0, zg_aload_n, zg_bipush, zg_getfield, zg_goto, zg_iadd, zg_iaload, zg_iconst, zg_ifCond, zg_if_icmp, zg_iinc, zg_iload, zg_iload_n, zg_invokestatic, zg_invokevirtual, zg_ireturn, zg_istore, zg_istore_n, zf_X6_neighbourOf, zi_ld, zi_lda, zi_cmp, zi_retOk, zi_isI, zi_f3, zi_cr, zi_ci, zi_cn, g0, g5, g7, h10, c1]
theorem zv_frY_eqT {ν : zm_M} {τ : Nat} (f : zv_frY μ ν) : zu_eqT μ τ ν τ := by
  refine ⟨f _ _ (by omega) (by omega), fun c n hc _ => f _ _ (by rintro ⟨rfl, -⟩; revert hc; decide) ?_, fun n j _ _ => f _ _ (by omega) (by omega)⟩
  rintro ⟨h1, h2⟩
  have : c = 255 ∨ c = 256 ∨ c = 257 ∨ c = 258 ∨ c = 259 := by omega
  rcases this with rfl | rfl | rfl | rfl | rfl <;> revert hc <;> decide
theorem zu_at_eqT {ν : zm_M} {τ σ k m : Nat} (hI : zu_I μ τ u ab) (hq : zu_eqT μ τ ν σ) (h : zu_at μ τ u k m) : zu_at ν σ u k m :=
  ⟨h.1, by rw [hq.tb (zu_I_lt hI h.1) (zu_I_tbl hI h.1)]; exact h.2.1, fun n hn g => h.2.2 n hn (by rw [hq.tb (zu_I_lt hI hn) (zu_I_tbl hI hn)] at g; exact g)⟩
set_option maxRecDepth 100000 in
theorem ze_MneighbourOf (D : Nat) {k s sd : Nat} (hk : k < 10) (hs : s < 3) (hsd : sd < 4) (hI : zu_I μ s u ab) (hkind : μ 234 k = 1) (hhome : μ 238 k = nI s) (hlo : ∀ j, j < 10 → μ 234 j = 1 → μ 238 j = nI s → zu_at μ s u j (lo j)) :
    ∃ ν, ze_E (D + 28) A_Mod_neighbourOf [.ref 232, .int (nI k), .int (nI sd)] (zm_mk μ) (some (.int (zl_nb (zv_nf ν s k sd lo) (List.range 10) (-1) 0))) (zm_mk ν) ∧ (zy_wf u → zy_laid (zu_P ν) (zu_fm μ s) (fun n => μ 247 (24 * s + n)) (zu_lsz μ s 0) (zu_lsz μ s 1) u 0 0 (μ 232 s) (μ 233 s)) ∧ zv_frY μ ν := by
  obtain ⟨lc, cM⟩ := zM_c (μ := μ)
  have ik : zi_in (nI k) 10 = true := zm_in hk (by decide)
  have ck : (nI k).toNatClampNeg = k := nI_clamp (by omega)
  obtain ⟨ν, ⟨N1, E1⟩, hl, -, f⟩ := ze_MlayAll (μ := μ) D hs hI
  obtain ⟨lc1, cM1⟩ := zM_c (μ := ν)
  have hq := zv_frY_eqT (τ := s) f
  have hI1 := hq.I hI
  have hat := zu_at_eqT hI hq (hlo k hk hkind hhome)
  have hlo1 : ∀ j, j < 10 → ν 234 j = 1 → ν 238 j = nI s → zu_at ν s u j (lo j) := fun j hj a b => by
    rw [f _ _ (by omega) (by omega)] at a b
    exact zu_at_eqT hI hq (hlo j hj a b)
  obtain ⟨N2, E2⟩ := ze_MleafOf_at (μ := ν) (D + 24) (by omega) hI1 hk hat
  obtain ⟨r, h', G, rfl, rfl⟩ := zv_nbL (μ := ν) (D + 23) hk hs hsd hI1 (zu_I_lt hI1 hat.1) hlo1
  refine ⟨ν, ze_in [(0, .ref 232), (1, .int (nI k)), (2, .int (nI sd))] zq_Mod_neighbourOf (Nat.le_of_ble_eq_true rfl) rfl (ze_S.end ⟨N1 + N2, 19, fun F m hF => ?_⟩ G), hl, f⟩
  simp [zg_0, zg_aload_n, zg_bipush, zg_getfield, zg_goto, zg_iadd, zg_iaload, zg_iconst, zg_ifCond, zg_if_icmp, zg_iinc, zg_iload, zg_iload_n, zg_invokestatic, zg_invokevirtual, zg_ireturn, zg_istore, zg_istore_n, zf_X6_neighbourOf, zi_ld, zi_lda, zi_cmp, zi_retOk, zi_isI, zi_f3, zi_cr, zi_ci, zi_cn, zi_get, zi_set, zM_g, cM, cM1, zm_iald (k := 0) zM_A238 ik, ck, hhome, zq_Mod_layAll, zq_Mod_leafOf, E1 F (by omega), E2 F (by omega), nI_0]
end ZVO
end
section
/-! the reference: tile -/
noncomputable def zv_lah (μ : zm_M) (s : Nat) (lo : Nat → Nat) : List Nat → Int32
  | [] => -1
  | x :: l => if μ 234 x = 1 ∧ μ 238 x = nI s then nI (lo x) else zv_lah μ s lo l
noncomputable def zv_dn : Nat → Int32
  | 0 => -1
  | j + 1 => nI j
theorem zv_dn_1 {n : Nat} (h : n ≤ 10) : nI n - 1 = zv_dn n := by
  have : ∀ n, n < 11 → nI n - 1 = zv_dn n := by decide
  exact this n (by omega)
theorem zv_dn_s {n : Nat} (h : n ≤ 10) : nI n + -1 = zv_dn n := by
  have : ∀ n, n < 11 → nI n + -1 = zv_dn n := by decide
  exact this n (by omega)
theorem zl_drop_get {l : List Nat} {j : Nat} (h : j < l.length) : l.drop j = l.getD j 0 :: l.drop (j + 1) := by
  rw [List.getD_eq_getElem?_getD, List.getElem?_eq_getElem h]
  exact List.drop_eq_getElem_cons h
section ZVP
variable {μ : zm_M} {u : zy_F} {ab : Nat → Int32} {lo : Nat → Nat} {row : List Nat}
set_option maxRecDepth 100000 in
theorem zv_tile0 (D : Nat) {k s : Nat} (hs : s < 3) (hI : zu_I μ s u ab) (hR : zv_L μ 242 12 row) (hb : ∀ x ∈ row, x < 10) (hlo : ∀ j, j < 10 → μ 234 j = 1 → μ 238 j = nI s → zu_at μ s u j (lo j)) : ∀ (j : Nat), j ≤ row.length → ∀ (L : zi_Lc) (n : Int32), zi_nl L = true → zi_get L 0 = some (.ref 232) → zi_get L 1 = some (.int (nI k)) → zi_get L 2 = some (.int (nI s)) → zi_get L 3 = some (.int n) → zi_get L 4 = some (.int (zv_dn j)) → n = zv_lah μ s lo (row.drop j) →
    ∃ L', ze_S (D + 3) 6 (some .boolean) zc_X6_tile 10 L [] (zm_mk μ) 70 L' [] (zm_mk μ) ∧ zi_nl L' = true ∧ zi_get L' 0 = some (.ref 232) ∧ zi_get L' 1 = some (.int (nI k)) ∧ zi_get L' 2 = some (.int (nI s)) ∧ zi_get L' 3 = some (.int (zv_lah μ s lo row))
  | 0, _, L, n, nl, g0, g1, g2, g3, g4, hn => by
    have g4 : zi_get L 4 = some (.int (-1)) := g4
    refine ⟨L, ⟨0, 2, fun F m hF => ?_⟩, nl, g0, g1, g2, by rw [g3, hn]; rfl⟩
    simp (maxDischargeDepth := 9) [zg_0, zg_aload_n, zg_bipush, zg_getfield, zg_goto, zg_iaload, zg_iastore, zg_iconst, zg_ifCond, zg_if_icmp, zg_iinc, zg_iload, zg_iload_n, zg_invokevirtual, zg_ireturn, zg_istore, zg_istore_n, zg_isub, zf_X6_tile, zi_ld, zi_lda, zi_cmp, zi_retOk, zi_isI, zi_f3, zi_cr, zi_ci, zi_cn, zi_get_ne, zi_nl_i, zi_nl_r, zi_get_set_eq, nl, g0, g1, g2, g3, g4]
  | j + 1, hj, L, n, nl, g0, g1, g2, g3, g4, hn => by
    obtain ⟨lc, cM⟩ := zM_c (μ := μ)
    have g4 : zi_get L 4 = some (.int (nI j)) := g4
    have h10 := hR.1
    have hx : row.getD j 0 ∈ row := zl_mem (by omega)
    have hx10 := hb _ hx
    have ij : zi_in (nI j) 10 = true := zm_in (by omega) (by decide)
    have cj : (nI j).toNatClampNeg = j := nI_clamp (by omega)
    have ix : zi_in (nI (row.getD j 0)) 10 = true := zm_in hx10 (by decide)
    have cx : (nI (row.getD j 0)).toNatClampNeg = row.getD j 0 := nI_clamp (by omega)
    have er : μ 242 j = nI (row.getD j 0) := hR.2.2 j (by omega)
    have c0 : ¬ nI j < 0 := nI_pos (by omega)
    have ed := zv_dn_s (n := j) (by omega)
    have hd : row.drop j = row.getD j 0 :: row.drop (j + 1) := zl_drop_get (by omega)
    have hr : zv_lah μ s lo (row.drop j) = if μ 234 (row.getD j 0) = 1 ∧ μ 238 (row.getD j 0) = nI s then nI (lo (row.getD j 0)) else zv_lah μ s lo (row.drop (j + 1)) := by rw [hd]; rfl
    rw [← hn] at hr
    have rec_ : ∀ (L1 : zi_Lc) (n1 : Int32), zi_nl L1 = true → zi_get L1 0 = some (.ref 232) → zi_get L1 1 = some (.int (nI k)) → zi_get L1 2 = some (.int (nI s)) → zi_get L1 3 = some (.int n1) → zi_get L1 4 = some (.int (zv_dn j)) → n1 = zv_lah μ s lo (row.drop j) → _ := zv_tile0 D (k := k) hs hI hR hb hlo j (by omega)
    generalize row.getD j 0 = x at *
    by_cases c3 : μ 234 x = 1
    · by_cases c4 : μ 238 x = nI s
      · obtain ⟨N1, E1⟩ := ze_MleafOf_at (μ := μ) D (by omega) hI hx10 (hlo x hx10 c3 c4)
        rw [if_pos ⟨c3, c4⟩] at hr
        obtain ⟨L', s1, q⟩ := rec_ (zi_set (zi_set L 3 (.int (nI (lo x)))) 4 (.int (zv_dn j))) (nI (lo x)) (by simp (maxDischargeDepth := 9) [zi_get_ne, zi_nl_i, zi_nl_r, zi_get_set_eq, nl]) (by simp (maxDischargeDepth := 9) [zi_get_ne, zi_nl_i, zi_nl_r, zi_get_set_eq, nl, g0]) (by simp (maxDischargeDepth := 9) [zi_get_ne, zi_nl_i, zi_nl_r, zi_get_set_eq, nl, g1]) (by simp (maxDischargeDepth := 9) [zi_get_ne, zi_nl_i, zi_nl_r, zi_get_set_eq, nl, g2]) (by simp (maxDischargeDepth := 9) [zi_get_ne, zi_nl_i, zi_nl_r, zi_get_set_eq, nl]) zi_get_set_eq hr.symm
        refine ⟨L', ze_S.trans ⟨N1, 31, fun F m hF => ?_⟩ s1, q⟩
        simp (maxDischargeDepth := 9) [zg_0, zg_aload_n, zg_bipush, zg_getfield, zg_goto, zg_iaload, zg_iastore, zg_iconst, zg_ifCond, zg_if_icmp, zg_iinc, zg_iload, zg_iload_n, zg_invokevirtual, zg_ireturn, zg_istore, zg_istore_n, zg_isub, zf_X6_tile, zi_ld, zi_lda, zi_cmp, zi_retOk, zi_isI, zi_f3, zi_cr, zi_ci, zi_cn, zi_get_ne, zi_nl_i, zi_nl_r, zi_get_set_eq, nl, g0, g1, g2, g3, g4, c0, zM_g, zm_iald (k := 0) zM_A242 ij, zm_iald (k := 0) zM_A234 ix, zm_iald (k := 0) zM_A238 ix, cj, cx, er, c3, c4, cM, zq_Mod_leafOf, E1 F (by omega), ed]
      · rw [if_neg (fun h => c4 h.2)] at hr
        obtain ⟨L', s1, q⟩ := rec_ (zi_set (zi_set L 3 (.int n)) 4 (.int (zv_dn j))) n (by simp (maxDischargeDepth := 9) [zi_get_ne, zi_nl_i, zi_nl_r, zi_get_set_eq, nl]) (by simp (maxDischargeDepth := 9) [zi_get_ne, zi_nl_i, zi_nl_r, zi_get_set_eq, nl, g0]) (by simp (maxDischargeDepth := 9) [zi_get_ne, zi_nl_i, zi_nl_r, zi_get_set_eq, nl, g1]) (by simp (maxDischargeDepth := 9) [zi_get_ne, zi_nl_i, zi_nl_r, zi_get_set_eq, nl, g2]) (by simp (maxDischargeDepth := 9) [zi_get_ne, zi_nl_i, zi_nl_r, zi_get_set_eq, nl]) zi_get_set_eq hr.symm
        refine ⟨L', ze_S.trans ⟨0, 24, fun F m hF => ?_⟩ s1, q⟩
        simp (maxDischargeDepth := 9) [zg_0, zg_aload_n, zg_bipush, zg_getfield, zg_goto, zg_iaload, zg_iastore, zg_iconst, zg_ifCond, zg_if_icmp, zg_iinc, zg_iload, zg_iload_n, zg_invokevirtual, zg_ireturn, zg_istore, zg_istore_n, zg_isub, zf_X6_tile, zi_ld, zi_lda, zi_cmp, zi_retOk, zi_isI, zi_f3, zi_cr, zi_ci, zi_cn, zi_get_ne, zi_nl_i, zi_nl_r, zi_get_set_eq, nl, g0, g1, g2, g3, g4, c0, zM_g, zm_iald (k := 0) zM_A242 ij, zm_iald (k := 0) zM_A234 ix, zm_iald (k := 0) zM_A238 ix, cj, cx, er, c3, c4, ed]
    · rw [if_neg (fun h => c3 h.1)] at hr
      obtain ⟨L', s1, q⟩ := rec_ (zi_set (zi_set L 3 (.int n)) 4 (.int (zv_dn j))) n (by simp (maxDischargeDepth := 9) [zi_get_ne, zi_nl_i, zi_nl_r, zi_get_set_eq, nl]) (by simp (maxDischargeDepth := 9) [zi_get_ne, zi_nl_i, zi_nl_r, zi_get_set_eq, nl, g0]) (by simp (maxDischargeDepth := 9) [zi_get_ne, zi_nl_i, zi_nl_r, zi_get_set_eq, nl, g1]) (by simp (maxDischargeDepth := 9) [zi_get_ne, zi_nl_i, zi_nl_r, zi_get_set_eq, nl, g2]) (by simp (maxDischargeDepth := 9) [zi_get_ne, zi_nl_i, zi_nl_r, zi_get_set_eq, nl]) zi_get_set_eq hr.symm
      refine ⟨L', ze_S.trans ⟨0, 15, fun F m hF => ?_⟩ s1, q⟩
      simp (maxDischargeDepth := 9) [zg_0, zg_aload_n, zg_bipush, zg_getfield, zg_goto, zg_iaload, zg_iastore, zg_iconst, zg_ifCond, zg_if_icmp, zg_iinc, zg_iload, zg_iload_n, zg_invokevirtual, zg_ireturn, zg_istore, zg_istore_n, zg_isub, zf_X6_tile, zi_ld, zi_lda, zi_cmp, zi_retOk, zi_isI, zi_f3, zi_cr, zi_ci, zi_cn, zi_get_ne, zi_nl_i, zi_nl_r, zi_get_set_eq, nl, g0, g1, g2, g3, g4, c0, zM_g, zm_iald (k := 0) zM_A242 ij, zm_iald (k := 0) zM_A234 ix, cj, cx, er, c3, ed]
end ZVP
end
section
/-! the reference: tile, one way after the other -/
section ZVQ
variable {μ : zm_M} {u : zy_F} {ab : Nat → Int32}
theorem zu_cq_I {s : Nat} (hs : s < 6) (hI : zu_I μ s u ab) : zu_I (zu_cq μ s 6 24 240) 6 u ab := zu_cq_eqT.I hI
theorem zu_fr_out {τ : Nat} {ν : zm_M} (f : zu_fr τ μ ν) {c d : Nat} (h : c < 243 ∨ 250 < c) : ν c d = μ c d := f c d (zu_in_not h)
set_option maxRecDepth 100000 in
theorem zv_way (D : Nat) {k s m w : Nat} (hk : k < 10) (hs : s < 3) (hw : w < 2) (ac : Bool) (hI : zu_I μ s u ab) (hm : m ∈ zy_lvs u) (hlen : (zy_ids u).length + 2 ≤ 24) (h0 : 0 ≤ μ 232 s) (h1 : 0 ≤ μ 233 s) (L : zi_Lc) (nl : zi_nl L = true) (g0 : zi_get L 0 = some (.ref 232)) (g1 : zi_get L 1 = some (.int (nI k))) (g2 : zi_get L 2 = some (.int (nI s))) (g3 : zi_get L 3 = some (.int (nI m))) (g4 : zi_get L 4 = some (.int (if ac = true then 1 else 0))) (g5 : zi_get L 5 = some (.int (nI w))) :
    ∃ ξ ab' c f, zu_isCut (zu_cq μ s 6 24 240) 6 u m k (if ac = true then w else 1 - w) false ξ ab' c f ∧ zu_fr 6 μ ξ ∧
      (zu_fit ξ 6 (zy_cut m c f u) (μ 232 s) (μ 233 s) = true → ze_G (D + 27) 6 (some .boolean) zc_X6_tile 130 L [] (zm_mk μ) (some (.int 1)) (zm_mk (zu_cq ξ 6 s 24 240))) ∧
      (zu_fit ξ 6 (zy_cut m c f u) (μ 232 s) (μ 233 s) = false → ze_S (D + 27) 6 (some .boolean) zc_X6_tile 130 L [] (zm_mk μ) 130 (zi_set L 5 (.int (nI (w + 1)))) [] (zm_mk ξ)) := by
  obtain ⟨lc, cM⟩ := zM_c (μ := μ)
  have h6 : (Int8.ofInt 6).toInt32 = (6 : Int32) := by decide
  have n6 : nI 6 = (6 : Int32) := by decide
  obtain ⟨N1, E1⟩ := ze_McopyTree (μ := μ) (D + 25) (f := s) (t := 6) (by omega) (by decide) (by omega)
  obtain ⟨lc1, cM1⟩ := zM_c (μ := zu_cq μ s 6 24 240)
  have hI1 := zu_cq_I (by omega : s < 6) hI
  have fr1 : zu_fr 6 μ (zu_cq μ s 6 24 240) := zu_cq_fr
  generalize zu_cq μ s 6 24 240 = μ1 at *
  have ha : (if ac = true then w else 1 - w) < 2 := by split <;> omega
  obtain ⟨ξ, ab', c, f, ⟨N2, E2⟩, hc⟩ := ze_McutLeaf (μ := μ1) (D + 23) (by decide : 6 < 7) hI1 hm hk ha false hlen
  have fr2 : zu_fr 6 μ ξ := fr1.trans hc.2.2.2.2.2.2.2.2
  have E2 : ∀ F, N2 ≤ F → zi_run zi_ms F (D + 27) A_Mod_cutLeaf [.ref 232, .int (nI 6), .int (nI m), .int (nI ((if ac = true then w else 1 - w) + 2)), .int (nI k), .int 0] (zm_mk μ1) [] = some [([], none, zm_mk ξ)] := E2
  obtain ⟨lc2, cM2⟩ := zM_c (μ := ξ)
  have e0 : ξ 232 s = μ 232 s := zu_fr_out fr2 (by omega)
  have e1 : ξ 233 s = μ 233 s := zu_fr_out fr2 (by omega)
  have hI2 : zu_I ξ 6 (zy_cut m c f u) ab' := hc.1
  obtain ⟨N3, E3⟩ := ze_MtakesTrial (μ := ξ) D hs hI2 (by rw [e0]; exact h0) (by rw [e1]; exact h1)
  rw [e0, e1] at E3
  refine ⟨ξ, ab', c, f, hc, fr2, fun hf => ?_, fun hf => ?_⟩
  · rw [hf, if_pos rfl, if_pos rfl] at E3
    rw [n6] at E1 E2
    rcases (by omega : w = 0 ∨ w = 1) with rfl | rfl
    · have n0 : nI 0 = (0 : Int32) := by decide
      rw [n0] at g5
      cases ac with
      | true =>
        have E2 : ∀ F, N2 ≤ F → zi_run zi_ms F (D + 27) A_Mod_cutLeaf [.ref 232, .int 6, .int (nI m), .int 2, .int (nI k), .int 0] (zm_mk μ1) [] = some [([], none, zm_mk ξ)] := E2
        have g4 : zi_get L 4 = some (.int 1) := g4
        refine ⟨N1 + N2 + N3, 31, fun F m hF => ?_⟩
        simp [zg_0, zg_aload_n, zg_bipush, zg_getfield, zg_goto, zg_iaload, zg_iastore, zg_iconst, zg_ifCond, zg_if_icmp, zg_iinc, zg_iload, zg_iload_n, zg_invokevirtual, zg_ireturn, zg_istore, zg_istore_n, zg_isub, zf_X6_tile, zi_ld, zi_lda, zi_cmp, zi_retOk, zi_isI, zi_f3, zi_cr, zi_ci, zi_cn, g0, g1, g2, g3, g4, g5, h6, cM, cM1, cM2, zq_Mod_copyTree, zq_Mod_cutLeaf, zq_Mod_takesTrial, E1 F (by omega), E2 F (by omega), E3 F (by omega)]
      | false =>
        have E2 : ∀ F, N2 ≤ F → zi_run zi_ms F (D + 27) A_Mod_cutLeaf [.ref 232, .int 6, .int (nI m), .int 3, .int (nI k), .int 0] (zm_mk μ1) [] = some [([], none, zm_mk ξ)] := E2
        have g4 : zi_get L 4 = some (.int 0) := g4
        refine ⟨N1 + N2 + N3, 30, fun F m hF => ?_⟩
        simp [zg_0, zg_aload_n, zg_bipush, zg_getfield, zg_goto, zg_iaload, zg_iastore, zg_iconst, zg_ifCond, zg_if_icmp, zg_iinc, zg_iload, zg_iload_n, zg_invokevirtual, zg_ireturn, zg_istore, zg_istore_n, zg_isub, zf_X6_tile, zi_ld, zi_lda, zi_cmp, zi_retOk, zi_isI, zi_f3, zi_cr, zi_ci, zi_cn, g0, g1, g2, g3, g4, g5, h6, cM, cM1, cM2, zq_Mod_copyTree, zq_Mod_cutLeaf, zq_Mod_takesTrial, E1 F (by omega), E2 F (by omega), E3 F (by omega)]
    · have n0 : nI 1 = (1 : Int32) := by decide
      rw [n0] at g5
      cases ac with
      | true =>
        have E2 : ∀ F, N2 ≤ F → zi_run zi_ms F (D + 27) A_Mod_cutLeaf [.ref 232, .int 6, .int (nI m), .int 3, .int (nI k), .int 0] (zm_mk μ1) [] = some [([], none, zm_mk ξ)] := E2
        have g4 : zi_get L 4 = some (.int 1) := g4
        refine ⟨N1 + N2 + N3, 29, fun F m hF => ?_⟩
        simp [zg_0, zg_aload_n, zg_bipush, zg_getfield, zg_goto, zg_iaload, zg_iastore, zg_iconst, zg_ifCond, zg_if_icmp, zg_iinc, zg_iload, zg_iload_n, zg_invokevirtual, zg_ireturn, zg_istore, zg_istore_n, zg_isub, zf_X6_tile, zi_ld, zi_lda, zi_cmp, zi_retOk, zi_isI, zi_f3, zi_cr, zi_ci, zi_cn, g0, g1, g2, g3, g4, g5, h6, cM, cM1, cM2, zq_Mod_copyTree, zq_Mod_cutLeaf, zq_Mod_takesTrial, E1 F (by omega), E2 F (by omega), E3 F (by omega)]
      | false =>
        have E2 : ∀ F, N2 ≤ F → zi_run zi_ms F (D + 27) A_Mod_cutLeaf [.ref 232, .int 6, .int (nI m), .int 2, .int (nI k), .int 0] (zm_mk μ1) [] = some [([], none, zm_mk ξ)] := E2
        have g4 : zi_get L 4 = some (.int 0) := g4
        refine ⟨N1 + N2 + N3, 30, fun F m hF => ?_⟩
        simp [zg_0, zg_aload_n, zg_bipush, zg_getfield, zg_goto, zg_iaload, zg_iastore, zg_iconst, zg_ifCond, zg_if_icmp, zg_iinc, zg_iload, zg_iload_n, zg_invokevirtual, zg_ireturn, zg_istore, zg_istore_n, zg_isub, zf_X6_tile, zi_ld, zi_lda, zi_cmp, zi_retOk, zi_isI, zi_f3, zi_cr, zi_ci, zi_cn, g0, g1, g2, g3, g4, g5, h6, cM, cM1, cM2, zq_Mod_copyTree, zq_Mod_cutLeaf, zq_Mod_takesTrial, E1 F (by omega), E2 F (by omega), E3 F (by omega)]
  · rw [hf, if_neg (by decide), if_neg (by decide)] at E3
    rw [n6] at E1 E2
    rcases (by omega : w = 0 ∨ w = 1) with rfl | rfl
    · have n0 : nI 0 = (0 : Int32) := by decide
      rw [n0] at g5
      have n1 : nI (0 + 1) = (1 : Int32) := by decide
      rw [n1]
      cases ac with
      | true =>
        have E2 : ∀ F, N2 ≤ F → zi_run zi_ms F (D + 27) A_Mod_cutLeaf [.ref 232, .int 6, .int (nI m), .int 2, .int (nI k), .int 0] (zm_mk μ1) [] = some [([], none, zm_mk ξ)] := E2
        have g4 : zi_get L 4 = some (.int 1) := g4
        refine ⟨N1 + N2 + N3, 31, fun F m hF => ?_⟩
        simp (maxDischargeDepth := 9) [zg_0, zg_aload_n, zg_bipush, zg_getfield, zg_goto, zg_iaload, zg_iastore, zg_iconst, zg_ifCond, zg_if_icmp, zg_iinc, zg_iload, zg_iload_n, zg_invokevirtual, zg_ireturn, zg_istore, zg_istore_n, zg_isub, zf_X6_tile, zi_ld, zi_lda, zi_cmp, zi_retOk, zi_isI, zi_f3, zi_cr, zi_ci, zi_cn, zi_get_ne, zi_nl_i, zi_nl_r, zi_get_set_eq, nl, g0, g1, g2, g3, g4, g5, h6, cM, cM1, cM2, zq_Mod_copyTree, zq_Mod_cutLeaf, zq_Mod_takesTrial, E1 F (by omega), E2 F (by omega), E3 F (by omega)]
      | false =>
        have E2 : ∀ F, N2 ≤ F → zi_run zi_ms F (D + 27) A_Mod_cutLeaf [.ref 232, .int 6, .int (nI m), .int 3, .int (nI k), .int 0] (zm_mk μ1) [] = some [([], none, zm_mk ξ)] := E2
        have g4 : zi_get L 4 = some (.int 0) := g4
        refine ⟨N1 + N2 + N3, 30, fun F m hF => ?_⟩
        simp (maxDischargeDepth := 9) [zg_0, zg_aload_n, zg_bipush, zg_getfield, zg_goto, zg_iaload, zg_iastore, zg_iconst, zg_ifCond, zg_if_icmp, zg_iinc, zg_iload, zg_iload_n, zg_invokevirtual, zg_ireturn, zg_istore, zg_istore_n, zg_isub, zf_X6_tile, zi_ld, zi_lda, zi_cmp, zi_retOk, zi_isI, zi_f3, zi_cr, zi_ci, zi_cn, zi_get_ne, zi_nl_i, zi_nl_r, zi_get_set_eq, nl, g0, g1, g2, g3, g4, g5, h6, cM, cM1, cM2, zq_Mod_copyTree, zq_Mod_cutLeaf, zq_Mod_takesTrial, E1 F (by omega), E2 F (by omega), E3 F (by omega)]
    · have n0 : nI 1 = (1 : Int32) := by decide
      rw [n0] at g5
      have n1 : nI (1 + 1) = (2 : Int32) := by decide
      rw [n1]
      cases ac with
      | true =>
        have E2 : ∀ F, N2 ≤ F → zi_run zi_ms F (D + 27) A_Mod_cutLeaf [.ref 232, .int 6, .int (nI m), .int 3, .int (nI k), .int 0] (zm_mk μ1) [] = some [([], none, zm_mk ξ)] := E2
        have g4 : zi_get L 4 = some (.int 1) := g4
        refine ⟨N1 + N2 + N3, 29, fun F m hF => ?_⟩
        simp (maxDischargeDepth := 9) [zg_0, zg_aload_n, zg_bipush, zg_getfield, zg_goto, zg_iaload, zg_iastore, zg_iconst, zg_ifCond, zg_if_icmp, zg_iinc, zg_iload, zg_iload_n, zg_invokevirtual, zg_ireturn, zg_istore, zg_istore_n, zg_isub, zf_X6_tile, zi_ld, zi_lda, zi_cmp, zi_retOk, zi_isI, zi_f3, zi_cr, zi_ci, zi_cn, zi_get_ne, zi_nl_i, zi_nl_r, zi_get_set_eq, nl, g0, g1, g2, g3, g4, g5, h6, cM, cM1, cM2, zq_Mod_copyTree, zq_Mod_cutLeaf, zq_Mod_takesTrial, E1 F (by omega), E2 F (by omega), E3 F (by omega)]
      | false =>
        have E2 : ∀ F, N2 ≤ F → zi_run zi_ms F (D + 27) A_Mod_cutLeaf [.ref 232, .int 6, .int (nI m), .int 2, .int (nI k), .int 0] (zm_mk μ1) [] = some [([], none, zm_mk ξ)] := E2
        have g4 : zi_get L 4 = some (.int 0) := g4
        refine ⟨N1 + N2 + N3, 30, fun F m hF => ?_⟩
        simp (maxDischargeDepth := 9) [zg_0, zg_aload_n, zg_bipush, zg_getfield, zg_goto, zg_iaload, zg_iastore, zg_iconst, zg_ifCond, zg_if_icmp, zg_iinc, zg_iload, zg_iload_n, zg_invokevirtual, zg_ireturn, zg_istore, zg_istore_n, zg_isub, zf_X6_tile, zi_ld, zi_lda, zi_cmp, zi_retOk, zi_isI, zi_f3, zi_cr, zi_ci, zi_cn, zi_get_ne, zi_nl_i, zi_nl_r, zi_get_set_eq, nl, g0, g1, g2, g3, g4, g5, h6, cM, cM1, cM2, zq_Mod_copyTree, zq_Mod_cutLeaf, zq_Mod_takesTrial, E1 F (by omega), E2 F (by omega), E3 F (by omega)]
end ZVQ
end
