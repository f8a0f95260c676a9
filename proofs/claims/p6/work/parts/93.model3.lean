/-! the reference: the leaf of a window, what is above a node -/
section ZM3
variable {μ : zm_M} {τ : Nat} {tb : Nat → List Nat}
def zu_lo (μ : zm_M) (τ : Nat) (tb : Nat → List Nat) (k : Nat) : Int32 := zl_fi (fun n => decide (μ 244 (24 * τ + n) = 1 ∧ k ∈ tb n)) (-1) 24 0
set_option maxRecDepth 100000 in
theorem ze_MleafOf (D : Nat) (ht : τ < 7) (hT : ∀ n, n < 24 → μ 244 (24 * τ + n) = 1 → zu_T μ τ n (tb n) ∧ ∀ x ∈ tb n, x < 10) {k : Nat} (hk : k < 10) : ze_E (D + 3) A_Mod_leafOf [.ref 232, .int (nI τ), .int (nI k)] (zm_mk μ) (some (.int (zu_lo μ τ tb k))) (zm_mk μ) := by
  have h24 : (Int8.ofInt 24).toInt32 = (24 : Int32) := by decide
  have key : ∃ r h', ze_G (D + 2) 4 (some .int) zc_X6_leafOf 2 [(3, .int (nI 0)), (0, .ref 232), (1, .int (nI τ)), (2, .int (nI k))] [] (zm_mk μ) r h' ∧ (r = some (.int (zu_lo μ τ tb k)) ∧ zm_mk μ = h') := by
    refine ze_loop (Q := fun i L hp => i ≤ 24 ∧ zi_nl L = true ∧ zi_get L 0 = some (.ref 232) ∧ zi_get L 1 = some (.int (nI τ)) ∧ zi_get L 2 = some (.int (nI k)) ∧ zi_get L 3 = some (.int (nI i)) ∧ zm_mk μ = hp ∧ (zu_lo μ τ tb k = zl_fi (fun n => decide (μ 244 (24 * τ + n) = 1 ∧ k ∈ tb n)) (-1) (24 - i) i)) (R := fun r h' => r = some (.int (zu_lo μ τ tb k)) ∧ zm_mk μ = h') 24 ?_ ?_ 24 0 _ _ (by omega) ⟨by omega, rfl, rfl, rfl, rfl, rfl, rfl, rfl⟩
    · rintro i L _ hi ⟨-, nl, g0, g1, g2, g3, rfl, hq⟩
      rw [zl_fi_s hi] at hq
      have c1 : ¬ (24 : Int32) ≤ nI i := nI_ge (b := 24) hi (by decide)
      obtain ⟨N1, E1⟩ := ze_spot (h := zm_mk μ) (n := i) (D + 1) ht
      have ia : zi_in (nI (24 * τ + i)) 168 = true := zm_in (by omega) (by decide)
      have ca : (nI (24 * τ + i)).toNatClampNeg = 24 * τ + i := nI_clamp (by omega)
      obtain ⟨lm, cm⟩ := zM_c (μ := μ)
      by_cases c2 : μ 244 (24 * τ + i) = 1
      · obtain ⟨hTi, hbi⟩ := hT i hi c2
        obtain ⟨N2, E2⟩ := ze_placeOfTab (μ := μ) D ht hi hTi hbi hk
        by_cases c3 : k ∈ tb i
        · rw [if_pos (by simp [c2, c3])] at hq
          rw [zr_ix_in c3] at E2
          have hix : (tb i).idxOf k < 10 := Nat.lt_of_lt_of_le (List.idxOf_lt_length_of_mem c3) hTi.1
          have c4 : ¬ nI (0 + (tb i).idxOf k) < 0 := nI_pos (by omega)
          generalize nI (0 + (tb i).idxOf k) = p at E2 c4
          right
          refine ⟨some (.int (nI i)), zm_mk μ, ⟨N1 + N2, 19, fun F m hF => ?_⟩, by rw [hq], rfl⟩
          simp (maxDischargeDepth := 9) [zg_0, zg_aload_n, zg_bipush, zg_getfield, zg_goto, zg_iaload, zg_iconst, zg_ifCond, zg_if_icmp, zg_iinc, zg_iload_n, zg_invokestatic, zg_invokevirtual, zg_ireturn, zg_istore_n, zf_X6_leafOf, zi_ld, zi_lda, zi_cmp, zi_retOk, zi_isI, zi_f3, zi_cr, zi_ci, zi_cn, zi_get_ne, zi_nl_i, zi_nl_r, zi_get_set_eq, nl, g0, g1, g2, g3, h24, c1, zM_g, zq_Mod_spot, E1 F (by omega), zm_iald (k := 0) zM_A244 ia, ca, c2, zq_Mod_placeOfTab, cm, E2 F (by omega), c4, nI_1]
        · rw [if_neg (by simp [c3])] at hq
          rw [zr_ix_out c3] at E2
          have c4 : (-1 : Int32) < 0 := by decide
          left
          refine ⟨zi_set L 3 (.int (nI (i + 1))), zm_mk μ, ⟨N1 + N2, 19, fun F m hF => ?_⟩, by omega, ?_, ?_, ?_, ?_, zi_get_set_eq, rfl, hq⟩
          · simp (maxDischargeDepth := 9) [zg_0, zg_aload_n, zg_bipush, zg_getfield, zg_goto, zg_iaload, zg_iconst, zg_ifCond, zg_if_icmp, zg_iinc, zg_iload_n, zg_invokestatic, zg_invokevirtual, zg_ireturn, zg_istore_n, zf_X6_leafOf, zi_ld, zi_lda, zi_cmp, zi_retOk, zi_isI, zi_f3, zi_cr, zi_ci, zi_cn, zi_get_ne, zi_nl_i, zi_nl_r, zi_get_set_eq, nl, g0, g1, g2, g3, h24, c1, zM_g, zq_Mod_spot, E1 F (by omega), zm_iald (k := 0) zM_A244 ia, ca, c2, zq_Mod_placeOfTab, cm, E2 F (by omega), c4, nI_1]
          · simp (maxDischargeDepth := 9) [zi_get_ne, zi_nl_i, zi_nl_r, zi_get_set_eq, nl]
          · simp (maxDischargeDepth := 9) [zi_get_ne, zi_nl_i, zi_nl_r, zi_get_set_eq, nl, g0]
          · simp (maxDischargeDepth := 9) [zi_get_ne, zi_nl_i, zi_nl_r, zi_get_set_eq, nl, g1]
          · simp (maxDischargeDepth := 9) [zi_get_ne, zi_nl_i, zi_nl_r, zi_get_set_eq, nl, g2]
      · have N2 : Nat := 0
        rw [if_neg (by simp [c2])] at hq
        left
        refine ⟨zi_set L 3 (.int (nI (i + 1))), zm_mk μ, ⟨N1 + N2, 13, fun F m hF => ?_⟩, by omega, ?_, ?_, ?_, ?_, zi_get_set_eq, rfl, hq⟩
        · simp (maxDischargeDepth := 9) [zg_0, zg_aload_n, zg_bipush, zg_getfield, zg_goto, zg_iaload, zg_iconst, zg_ifCond, zg_if_icmp, zg_iinc, zg_iload_n, zg_invokestatic, zg_invokevirtual, zg_ireturn, zg_istore_n, zf_X6_leafOf, zi_ld, zi_lda, zi_cmp, zi_retOk, zi_isI, zi_f3, zi_cr, zi_ci, zi_cn, zi_get_ne, zi_nl_i, zi_nl_r, zi_get_set_eq, nl, g0, g1, g2, g3, h24, c1, zM_g, zq_Mod_spot, E1 F (by omega), zm_iald (k := 0) zM_A244 ia, ca, c2, nI_1]
        · simp (maxDischargeDepth := 9) [zi_get_ne, zi_nl_i, zi_nl_r, zi_get_set_eq, nl]
        · simp (maxDischargeDepth := 9) [zi_get_ne, zi_nl_i, zi_nl_r, zi_get_set_eq, nl, g0]
        · simp (maxDischargeDepth := 9) [zi_get_ne, zi_nl_i, zi_nl_r, zi_get_set_eq, nl, g1]
        · simp (maxDischargeDepth := 9) [zi_get_ne, zi_nl_i, zi_nl_r, zi_get_set_eq, nl, g2]
    · rintro L _ ⟨-, nl, g0, g1, g2, g3, rfl, hq⟩
      rw [hq]
      have c1 : (24 : Int32) ≤ nI 24 := by decide
      refine ⟨some (.int (-1)), zm_mk μ, ⟨0, 5, fun F m hF => ?_⟩, rfl, rfl⟩
      simp [zg_0, zg_aload_n, zg_bipush, zg_getfield, zg_goto, zg_iaload, zg_iconst, zg_ifCond, zg_if_icmp, zg_iinc, zg_iload_n, zg_invokestatic, zg_invokevirtual, zg_ireturn, zg_istore_n, zf_X6_leafOf, zi_ld, zi_lda, zi_cmp, zi_retOk, zi_isI, zi_f3, zi_cr, zi_ci, zi_cn, g0, g3, h24, c1]
  obtain ⟨r, h', G, rfl, rfl⟩ := key
  refine ze_in [(0, .ref 232), (1, .int (nI τ)), (2, .int (nI k))] zq_Mod_leafOf (Nat.le_of_ble_eq_true rfl) rfl (ze_S.end ⟨0, 2, fun F m hF => ?_⟩ G)
  simp [zg_0, zg_aload_n, zg_bipush, zg_getfield, zg_goto, zg_iaload, zg_iconst, zg_ifCond, zg_if_icmp, zg_iinc, zg_iload_n, zg_invokestatic, zg_invokevirtual, zg_ireturn, zg_istore_n, zf_X6_leafOf, zi_ld, zi_lda, zi_cmp, zi_retOk, zi_isI, zi_f3, zi_cr, zi_ci, zi_cn, zi_get, zi_set, nI_0]
def zu_ab (μ : zm_M) (τ : Nat) (x : Int32) : Int32 := zl_fi (fun n => decide (1 < μ 244 (24 * τ + n) ∧ (μ 245 (24 * τ + n) = x ∨ μ 246 (24 * τ + n) = x))) (-1) 24 0
set_option maxRecDepth 100000 in
theorem ze_Mabove (D : Nat) (ht : τ < 7) (x : Int32) : ze_E (D + 2) A_Mod_above [.ref 232, .int (nI τ), .int x] (zm_mk μ) (some (.int (zu_ab μ τ x))) (zm_mk μ) := by
  have h24 : (Int8.ofInt 24).toInt32 = (24 : Int32) := by decide
  have key : ∃ r h', ze_G (D + 1) 4 (some .int) zc_X6_above 2 [(3, .int (nI 0)), (0, .ref 232), (1, .int (nI τ)), (2, .int x)] [] (zm_mk μ) r h' ∧ (r = some (.int (zu_ab μ τ x)) ∧ zm_mk μ = h') := by
    refine ze_loop (Q := fun i L hp => i ≤ 24 ∧ zi_nl L = true ∧ zi_get L 0 = some (.ref 232) ∧ zi_get L 1 = some (.int (nI τ)) ∧ zi_get L 2 = some (.int x) ∧ zi_get L 3 = some (.int (nI i)) ∧ zm_mk μ = hp ∧ (zu_ab μ τ x = zl_fi (fun n => decide (1 < μ 244 (24 * τ + n) ∧ (μ 245 (24 * τ + n) = x ∨ μ 246 (24 * τ + n) = x))) (-1) (24 - i) i)) (R := fun r h' => r = some (.int (zu_ab μ τ x)) ∧ zm_mk μ = h') 24 ?_ ?_ 24 0 _ _ (by omega) ⟨by omega, rfl, rfl, rfl, rfl, rfl, rfl, rfl⟩
    · rintro i L _ hi ⟨-, nl, g0, g1, g2, g3, rfl, hq⟩
      rw [zl_fi_s hi] at hq
      have c1 : ¬ (24 : Int32) ≤ nI i := nI_ge (b := 24) hi (by decide)
      obtain ⟨N1, E1⟩ := ze_spot (h := zm_mk μ) (n := i) D ht
      have ia : zi_in (nI (24 * τ + i)) 168 = true := zm_in (by omega) (by decide)
      have ca : (nI (24 * τ + i)).toNatClampNeg = 24 * τ + i := nI_clamp (by omega)
      by_cases c2 : μ 244 (24 * τ + i) ≤ 1
      · have c2' : ¬ 1 < μ 244 (24 * τ + i) := Int32.not_lt.mpr c2
        rw [if_neg (by simp [c2'])] at hq
        left
        refine ⟨zi_set L 3 (.int (nI (i + 1))), zm_mk μ, ⟨N1, 13, fun F m hF => ?_⟩, by omega, ?_, ?_, ?_, ?_, zi_get_set_eq, rfl, hq⟩
        · simp (maxDischargeDepth := 9) [zg_0, zg_aload_n, zg_bipush, zg_getfield, zg_goto, zg_iaload, zg_iconst, zg_if_icmp, zg_iinc, zg_iload_n, zg_invokestatic, zg_ireturn, zg_istore_n, zf_X6_above, zi_ld, zi_lda, zi_cmp, zi_retOk, zi_isI, zi_f3, zi_cr, zi_ci, zi_cn, zi_get_ne, zi_nl_i, zi_nl_r, zi_get_set_eq, nl, g0, g1, g2, g3, h24, c1, zM_g, zq_Mod_spot, E1 F (by omega), zm_iald (k := 0) zM_A244 ia, ca, c2, nI_1]
        · simp (maxDischargeDepth := 9) [zi_get_ne, zi_nl_i, zi_nl_r, zi_get_set_eq, nl]
        · simp (maxDischargeDepth := 9) [zi_get_ne, zi_nl_i, zi_nl_r, zi_get_set_eq, nl, g0]
        · simp (maxDischargeDepth := 9) [zi_get_ne, zi_nl_i, zi_nl_r, zi_get_set_eq, nl, g1]
        · simp (maxDischargeDepth := 9) [zi_get_ne, zi_nl_i, zi_nl_r, zi_get_set_eq, nl, g2]
      · have c2' : 1 < μ 244 (24 * τ + i) := Int32.not_le.mp c2
        by_cases c3 : μ 245 (24 * τ + i) = x
        · rw [if_pos (by simp [c2', c3])] at hq
          right
          refine ⟨some (.int (nI i)), zm_mk μ, ⟨N1, 21, fun F m hF => ?_⟩, by rw [hq], rfl⟩
          simp (maxDischargeDepth := 9) [zg_0, zg_aload_n, zg_bipush, zg_getfield, zg_goto, zg_iaload, zg_iconst, zg_if_icmp, zg_iinc, zg_iload_n, zg_invokestatic, zg_ireturn, zg_istore_n, zf_X6_above, zi_ld, zi_lda, zi_cmp, zi_retOk, zi_isI, zi_f3, zi_cr, zi_ci, zi_cn, zi_get_ne, zi_nl_i, zi_nl_r, zi_get_set_eq, nl, g0, g1, g2, g3, h24, c1, zM_g, zq_Mod_spot, E1 F (by omega), zm_iald (k := 0) zM_A244 ia, zm_iald (k := 0) zM_A245 ia, ca, c2, c3, nI_1]
        · by_cases c4 : μ 246 (24 * τ + i) = x
          · rw [if_pos (by simp [c2', c4])] at hq
            right
            refine ⟨some (.int (nI i)), zm_mk μ, ⟨N1, 29, fun F m hF => ?_⟩, by rw [hq], rfl⟩
            simp (maxDischargeDepth := 9) [zg_0, zg_aload_n, zg_bipush, zg_getfield, zg_goto, zg_iaload, zg_iconst, zg_if_icmp, zg_iinc, zg_iload_n, zg_invokestatic, zg_ireturn, zg_istore_n, zf_X6_above, zi_ld, zi_lda, zi_cmp, zi_retOk, zi_isI, zi_f3, zi_cr, zi_ci, zi_cn, zi_get_ne, zi_nl_i, zi_nl_r, zi_get_set_eq, nl, g0, g1, g2, g3, h24, c1, zM_g, zq_Mod_spot, E1 F (by omega), zm_iald (k := 0) zM_A244 ia, zm_iald (k := 0) zM_A245 ia, zm_iald (k := 0) zM_A246 ia, ca, c2, c3, c4, nI_1]
          · rw [if_neg (by simp [c3, c4])] at hq
            left
            refine ⟨zi_set L 3 (.int (nI (i + 1))), zm_mk μ, ⟨N1, 29, fun F m hF => ?_⟩, by omega, ?_, ?_, ?_, ?_, zi_get_set_eq, rfl, hq⟩
            · simp (maxDischargeDepth := 9) [zg_0, zg_aload_n, zg_bipush, zg_getfield, zg_goto, zg_iaload, zg_iconst, zg_if_icmp, zg_iinc, zg_iload_n, zg_invokestatic, zg_ireturn, zg_istore_n, zf_X6_above, zi_ld, zi_lda, zi_cmp, zi_retOk, zi_isI, zi_f3, zi_cr, zi_ci, zi_cn, zi_get_ne, zi_nl_i, zi_nl_r, zi_get_set_eq, nl, g0, g1, g2, g3, h24, c1, zM_g, zq_Mod_spot, E1 F (by omega), zm_iald (k := 0) zM_A244 ia, zm_iald (k := 0) zM_A245 ia, zm_iald (k := 0) zM_A246 ia, ca, c2, c3, c4, nI_1]
            · simp (maxDischargeDepth := 9) [zi_get_ne, zi_nl_i, zi_nl_r, zi_get_set_eq, nl]
            · simp (maxDischargeDepth := 9) [zi_get_ne, zi_nl_i, zi_nl_r, zi_get_set_eq, nl, g0]
            · simp (maxDischargeDepth := 9) [zi_get_ne, zi_nl_i, zi_nl_r, zi_get_set_eq, nl, g1]
            · simp (maxDischargeDepth := 9) [zi_get_ne, zi_nl_i, zi_nl_r, zi_get_set_eq, nl, g2]
    · rintro L _ ⟨-, nl, g0, g1, g2, g3, rfl, hq⟩
      rw [hq]
      have c1 : (24 : Int32) ≤ nI 24 := by decide
      refine ⟨some (.int (-1)), zm_mk μ, ⟨0, 5, fun F m hF => ?_⟩, rfl, rfl⟩
      simp [zg_0, zg_aload_n, zg_bipush, zg_getfield, zg_goto, zg_iaload, zg_iconst, zg_if_icmp, zg_iinc, zg_iload_n, zg_invokestatic, zg_ireturn, zg_istore_n, zf_X6_above, zi_ld, zi_lda, zi_cmp, zi_retOk, zi_isI, zi_f3, zi_cr, zi_ci, zi_cn, g0, g3, h24, c1]
  obtain ⟨r, h', G, rfl, rfl⟩ := key
  refine ze_in [(0, .ref 232), (1, .int (nI τ)), (2, .int x)] zq_Mod_above (Nat.le_of_ble_eq_true rfl) rfl (ze_S.end ⟨0, 2, fun F m hF => ?_⟩ G)
  simp [zg_0, zg_aload_n, zg_bipush, zg_getfield, zg_goto, zg_iaload, zg_iconst, zg_if_icmp, zg_iinc, zg_iload_n, zg_invokestatic, zg_ireturn, zg_istore_n, zf_X6_above, zi_ld, zi_lda, zi_cmp, zi_retOk, zi_isI, zi_f3, zi_cr, zi_ci, zi_cn, zi_get, zi_set, nI_0]
end ZM3
