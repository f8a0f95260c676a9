/-! the reference: lies, at -/
section ZWH
variable {μ : zm_M} {row stk : List Nat} {us : Nat → zy_F}
set_option maxRecDepth 100000 in
theorem zv_liesC (D : Nat) {k : Nat} (hk : k < 10) (x y p q : Int32) (s : Nat) : ∃ v : Int32, (v = 0 ∨ v = 1) ∧ ze_G (D + 1) 7 (some .boolean) zc_X6_lies 138 [(6, .int q), (5, .int p), (0, .ref 232), (1, .int (nI k)), (2, .int (nI s)), (3, .int x), (4, .int y)] [] (zm_mk μ) (some (.int v)) (zm_mk μ) := by
  have ik : zi_in (nI k) 10 = true := zm_in hk (by decide)
  have ck : (nI k).toNatClampNeg = k := nI_clamp (by omega)
  by_cases c1 : x < p
  · refine ⟨0, Or.inl rfl, 0, 5, fun F n hF => ?_⟩
    simp [zg_0, zg_aload_n, zg_getfield, zg_goto, zg_iadd, zg_iaload, zg_iconst, zg_ifCond, zg_if_icmp, zg_iload, zg_iload_n, zg_invokestatic, zg_invokevirtual, zg_ireturn, zg_istore, zg_isub, zf_X6_lies, zi_ld, zi_lda, zi_cmp, zi_retOk, zi_isI, zi_f3, zi_cr, zi_ci, zi_cn, zi_get, zi_set, c1]
  · by_cases c2 : p + μ 235 k ≤ x
    · refine ⟨0, Or.inl rfl, 0, 13, fun F n hF => ?_⟩
      simp [zg_0, zg_aload_n, zg_getfield, zg_goto, zg_iadd, zg_iaload, zg_iconst, zg_ifCond, zg_if_icmp, zg_iload, zg_iload_n, zg_invokestatic, zg_invokevirtual, zg_ireturn, zg_istore, zg_isub, zf_X6_lies, zi_ld, zi_lda, zi_cmp, zi_retOk, zi_isI, zi_f3, zi_cr, zi_ci, zi_cn, zi_get, zi_set, c1, zM_g, zm_iald (k := 0) zM_A235 ik, ck, c2]
    · by_cases c3 : y < q
      · refine ⟨0, Or.inl rfl, 0, 16, fun F n hF => ?_⟩
        simp [zg_0, zg_aload_n, zg_getfield, zg_goto, zg_iadd, zg_iaload, zg_iconst, zg_ifCond, zg_if_icmp, zg_iload, zg_iload_n, zg_invokestatic, zg_invokevirtual, zg_ireturn, zg_istore, zg_isub, zf_X6_lies, zi_ld, zi_lda, zi_cmp, zi_retOk, zi_isI, zi_f3, zi_cr, zi_ci, zi_cn, zi_get, zi_set, c1, zM_g, zm_iald (k := 0) zM_A235 ik, ck, c2, c3]
      · by_cases c4 : q + μ 236 k ≤ y
        · refine ⟨0, Or.inl rfl, 0, 24, fun F n hF => ?_⟩
          simp [zg_0, zg_aload_n, zg_getfield, zg_goto, zg_iadd, zg_iaload, zg_iconst, zg_ifCond, zg_if_icmp, zg_iload, zg_iload_n, zg_invokestatic, zg_invokevirtual, zg_ireturn, zg_istore, zg_isub, zf_X6_lies, zi_ld, zi_lda, zi_cmp, zi_retOk, zi_isI, zi_f3, zi_cr, zi_ci, zi_cn, zi_get, zi_set, c1, zM_g, zm_iald (k := 0) zM_A235 ik, zm_iald (k := 0) zM_A236 ik, ck, c2, c3, c4]
        · refine ⟨1, Or.inr rfl, 0, 25, fun F n hF => ?_⟩
          simp [zg_0, zg_aload_n, zg_getfield, zg_goto, zg_iadd, zg_iaload, zg_iconst, zg_ifCond, zg_if_icmp, zg_iload, zg_iload_n, zg_invokestatic, zg_invokevirtual, zg_ireturn, zg_istore, zg_isub, zf_X6_lies, zi_ld, zi_lda, zi_cmp, zi_retOk, zi_isI, zi_f3, zi_cr, zi_ci, zi_cn, zi_get, zi_set, c1, zM_g, zm_iald (k := 0) zM_A235 ik, zm_iald (k := 0) zM_A236 ik, ck, c2, c3, c4]
set_option maxRecDepth 100000 in
theorem ze_Mlies (D : Nat) {k s : Nat} (hk : k < 10) (hs : s < 3) (x y : Int32) : ∃ v : Int32, (v = 0 ∨ v = 1) ∧ ze_E (D + 2) A_Mod_lies [.ref 232, .int (nI k), .int (nI s), .int x, .int y] (zm_mk μ) (some (.int v)) (zm_mk μ) := by
  have ik : zi_in (nI k) 10 = true := zm_in hk (by decide)
  have ck : (nI k).toNatClampNeg = k := nI_clamp (by omega)
  have is : zi_in (nI s) 3 = true := zm_in hs (by decide)
  have cs : (nI s).toNatClampNeg = s := nI_clamp (by omega)
  obtain ⟨lc, cM⟩ := zM_c (μ := μ)
  by_cases c1 : μ 234 k = 4
  · obtain ⟨N1, E1⟩ := ze_McanBeWhole (μ := μ) D hk (μ 232 s) (μ 233 s)
    by_cases c2 : μ 235 k ≤ μ 232 s ∧ μ 236 k ≤ μ 233 s
    · rw [if_pos c2] at E1
      obtain ⟨d1, hd1⟩ := zv_opq (μ 232 s) (μ 235 k)
      obtain ⟨d2, hd2⟩ := zv_opq (μ 233 s) (μ 236 k)
      obtain ⟨N2, E2⟩ := ze_Mnearest (h := zm_mk μ) D (μ 239 k) d1
      obtain ⟨N3, E3⟩ := ze_Mnearest (h := zm_mk μ) D (μ 240 k) d2
      generalize zv_ne (μ 239 k) d1 = p at E2
      generalize zv_ne (μ 240 k) d2 = q at E3
      obtain ⟨v, hv, G⟩ := zv_liesC (μ := μ) D hk x y p q s
      refine ⟨v, hv, ze_in [(0, .ref 232), (1, .int (nI k)), (2, .int (nI s)), (3, .int x), (4, .int y)] zq_Mod_lies (Nat.le_of_ble_eq_true rfl) rfl (ze_S.end ⟨N1 + N2 + N3, 68, fun F n hF => ?_⟩ G)⟩
      simp [zg_0, zg_aload_n, zg_getfield, zg_goto, zg_iadd, zg_iaload, zg_iconst, zg_ifCond, zg_if_icmp, zg_iload, zg_iload_n, zg_invokestatic, zg_invokevirtual, zg_ireturn, zg_istore, zg_isub, zf_X6_lies, zi_ld, zi_lda, zi_cmp, zi_retOk, zi_isI, zi_f3, zi_cr, zi_ci, zi_cn, zi_get, zi_set, zM_g, cM, zm_iald (k := 0) zM_A234 ik, zm_iald (k := 0) zM_A235 ik, zm_iald (k := 0) zM_A236 ik, zm_iald (k := 0) zM_A239 ik, zm_iald (k := 0) zM_A240 ik, zm_iald (k := 0) zM_A232 is, zm_iald (k := 0) zM_A233 is, ck, cs, c1, hd1, hd2, zq_Mod_canBeWhole, zq_Mod_nearest, E1 F (by omega), E2 F (by omega), E3 F (by omega)]
    · rw [if_neg c2] at E1
      refine ⟨0, Or.inl rfl, ze_in [(0, .ref 232), (1, .int (nI k)), (2, .int (nI s)), (3, .int x), (4, .int y)] zq_Mod_lies (Nat.le_of_ble_eq_true rfl) rfl ⟨N1, 26, fun F n hF => ?_⟩⟩
      simp [zg_0, zg_aload_n, zg_getfield, zg_goto, zg_iadd, zg_iaload, zg_iconst, zg_ifCond, zg_if_icmp, zg_iload, zg_iload_n, zg_invokestatic, zg_invokevirtual, zg_ireturn, zg_istore, zg_isub, zf_X6_lies, zi_ld, zi_lda, zi_cmp, zi_retOk, zi_isI, zi_f3, zi_cr, zi_ci, zi_cn, zi_get, zi_set, zM_g, cM, zm_iald (k := 0) zM_A234 ik, zm_iald (k := 0) zM_A232 is, zm_iald (k := 0) zM_A233 is, ck, cs, c1, zq_Mod_canBeWhole, E1 F (by omega)]
  · by_cases c2 : μ 238 k = nI s
    · obtain ⟨v, hv, G⟩ := zv_liesC (μ := μ) D hk x y (μ 239 k) (μ 240 k) s
      refine ⟨v, hv, ze_in [(0, .ref 232), (1, .int (nI k)), (2, .int (nI s)), (3, .int x), (4, .int y)] zq_Mod_lies (Nat.le_of_ble_eq_true rfl) rfl (ze_S.end ⟨0, 40, fun F n hF => ?_⟩ G)⟩
      simp [zg_0, zg_aload_n, zg_getfield, zg_goto, zg_iadd, zg_iaload, zg_iconst, zg_ifCond, zg_if_icmp, zg_iload, zg_iload_n, zg_invokestatic, zg_invokevirtual, zg_ireturn, zg_istore, zg_isub, zf_X6_lies, zi_ld, zi_lda, zi_cmp, zi_retOk, zi_isI, zi_f3, zi_cr, zi_ci, zi_cn, zi_get, zi_set, zM_g, zm_iald (k := 0) zM_A234 ik, zm_iald (k := 0) zM_A238 ik, zm_iald (k := 0) zM_A239 ik, zm_iald (k := 0) zM_A240 ik, ck, c1, c2]
    · refine ⟨0, Or.inl rfl, ze_in [(0, .ref 232), (1, .int (nI k)), (2, .int (nI s)), (3, .int x), (4, .int y)] zq_Mod_lies (Nat.le_of_ble_eq_true rfl) rfl ⟨0, 14, fun F n hF => ?_⟩⟩
      simp [zg_0, zg_aload_n, zg_getfield, zg_goto, zg_iadd, zg_iaload, zg_iconst, zg_ifCond, zg_if_icmp, zg_iload, zg_iload_n, zg_invokestatic, zg_invokevirtual, zg_ireturn, zg_istore, zg_isub, zf_X6_lies, zi_ld, zi_lda, zi_cmp, zi_retOk, zi_isI, zi_f3, zi_cr, zi_ci, zi_cn, zi_get, zi_set, zM_g, zm_iald (k := 0) zM_A234 ik, zm_iald (k := 0) zM_A238 ik, ck, c1, c2]
set_option maxRecDepth 100000 in
/-- the leaf at a point -/
theorem zv_atL (D : Nat) {s : Nat} (hs : s < 3) {l : List Nat} (hl : zu_lv μ l) (h24 : ∀ n ∈ l, n < 24) (hlen : l.length ≤ 24) (x y : Int32) (L0 : zi_Lc) (nl0 : zi_nl L0 = true) (a0 : zi_get L0 0 = some (.ref 232)) (a1 : zi_get L0 1 = some (.int (nI s))) (a2 : zi_get L0 2 = some (.int x)) (a3 : zi_get L0 3 = some (.int y)) (a4 : zi_get L0 4 = some (.int (nI 0))) :
    ∃ r h', ze_G (D + 1) 6 (some .int) zc_X6_at 111 L0 [] (zm_mk μ) r h' ∧ ((∃ v, r = some (.int v)) ∧ zm_mk μ = h') := by
  have n5 : Int32.ofInt (-1000000005) = -1000000005 := by decide
  have k1 := hl.1
  refine ze_loop (Q := fun i L hp => i ≤ l.length ∧ zi_nl L = true ∧ zi_get L 0 = some (.ref 232) ∧ zi_get L 1 = some (.int (nI s)) ∧ zi_get L 2 = some (.int x) ∧ zi_get L 3 = some (.int y) ∧ zi_get L 4 = some (.int (nI i)) ∧ zm_mk μ = hp ∧ (True)) (R := fun r h' => (∃ v, r = some (.int v)) ∧ zm_mk μ = h') l.length ?_ ?_ l.length 0 _ _ (by omega) ⟨by omega, nl0, a0, a1, a2, a3, a4, rfl, trivial⟩
  · rintro i L _ hi ⟨-, nl, g0, g1, g2, g3, g4, rfl, hq⟩
    have k2 := hl.2 i hi
    have hmem := h24 _ (zl_mem hi)
    have c1 : ¬ nI l.length ≤ nI i := nI_ge hi (by omega)
    have ii : zi_in (nI i) 24 = true := zm_in (by omega) (by decide)
    have ci : (nI i).toNatClampNeg = i := nI_clamp (by omega)
    generalize l.getD i 0 = m at k2 hmem
    have im : zi_in (nI m) 24 = true := zm_in hmem (by decide)
    have cm : (nI m).toNatClampNeg = m := nI_clamp (by omega)
    obtain ⟨N1, E1⟩ := ze_spot (h := zm_mk μ) D (t := s) (n := m) (by omega)
    by_cases c2 : x < μ 255 m
    · left
      refine ⟨zi_set (zi_set L 5 (.int (nI m))) 4 (.int (nI (i + 1))), zm_mk μ, ⟨N1, 17, fun F m hF => ?_⟩, by omega, ?_, ?_, ?_, ?_, ?_, zi_get_set_eq, rfl, trivial⟩
      · simp (maxDischargeDepth := 9) [zg_0, zg_aload_n, zg_getfield, zg_goto, zg_iadd, zg_iaload, zg_iconst, zg_ifCond, zg_if_icmp, zg_iinc, zg_iload, zg_iload_n, zg_invokestatic, zg_invokevirtual, zg_ireturn, zg_istore, zg_isub, zg_ldc, zg_ldc_w, zf_X6_at, zi_ld, zi_lda, zi_cmp, zi_retOk, zi_isI, zi_f3, zi_cr, zi_ci, zi_cn, zi_get_ne, zi_nl_i, zi_nl_r, zi_get_set_eq, nl, g0, g1, g2, g3, g4, zM_g, k1, c1, zm_iald (k := 0) zM_A259 ii, ci, k2, zm_iald (k := 0) zM_A255 im, cm, c2, nI_1]
      · simp (maxDischargeDepth := 9) [zi_get_ne, zi_nl_i, zi_nl_r, zi_get_set_eq, nl]
      · simp (maxDischargeDepth := 9) [zi_get_ne, zi_nl_i, zi_nl_r, zi_get_set_eq, nl, g0]
      · simp (maxDischargeDepth := 9) [zi_get_ne, zi_nl_i, zi_nl_r, zi_get_set_eq, nl, g1]
      · simp (maxDischargeDepth := 9) [zi_get_ne, zi_nl_i, zi_nl_r, zi_get_set_eq, nl, g2]
      · simp (maxDischargeDepth := 9) [zi_get_ne, zi_nl_i, zi_nl_r, zi_get_set_eq, nl, g3]
    · by_cases c3 : μ 255 m + μ 257 m ≤ x
      · left
        refine ⟨zi_set (zi_set L 5 (.int (nI m))) 4 (.int (nI (i + 1))), zm_mk μ, ⟨N1, 28, fun F m hF => ?_⟩, by omega, ?_, ?_, ?_, ?_, ?_, zi_get_set_eq, rfl, trivial⟩
        · simp (maxDischargeDepth := 9) [zg_0, zg_aload_n, zg_getfield, zg_goto, zg_iadd, zg_iaload, zg_iconst, zg_ifCond, zg_if_icmp, zg_iinc, zg_iload, zg_iload_n, zg_invokestatic, zg_invokevirtual, zg_ireturn, zg_istore, zg_isub, zg_ldc, zg_ldc_w, zf_X6_at, zi_ld, zi_lda, zi_cmp, zi_retOk, zi_isI, zi_f3, zi_cr, zi_ci, zi_cn, zi_get_ne, zi_nl_i, zi_nl_r, zi_get_set_eq, nl, g0, g1, g2, g3, g4, zM_g, k1, c1, zm_iald (k := 0) zM_A259 ii, ci, k2, zm_iald (k := 0) zM_A255 im, zm_iald (k := 0) zM_A257 im, cm, c2, c3, nI_1]
        · simp (maxDischargeDepth := 9) [zi_get_ne, zi_nl_i, zi_nl_r, zi_get_set_eq, nl]
        · simp (maxDischargeDepth := 9) [zi_get_ne, zi_nl_i, zi_nl_r, zi_get_set_eq, nl, g0]
        · simp (maxDischargeDepth := 9) [zi_get_ne, zi_nl_i, zi_nl_r, zi_get_set_eq, nl, g1]
        · simp (maxDischargeDepth := 9) [zi_get_ne, zi_nl_i, zi_nl_r, zi_get_set_eq, nl, g2]
        · simp (maxDischargeDepth := 9) [zi_get_ne, zi_nl_i, zi_nl_r, zi_get_set_eq, nl, g3]
      · by_cases c4 : y < μ 256 m
        · left
          refine ⟨zi_set (zi_set L 5 (.int (nI m))) 4 (.int (nI (i + 1))), zm_mk μ, ⟨N1, 34, fun F m hF => ?_⟩, by omega, ?_, ?_, ?_, ?_, ?_, zi_get_set_eq, rfl, trivial⟩
          · simp (maxDischargeDepth := 9) [zg_0, zg_aload_n, zg_getfield, zg_goto, zg_iadd, zg_iaload, zg_iconst, zg_ifCond, zg_if_icmp, zg_iinc, zg_iload, zg_iload_n, zg_invokestatic, zg_invokevirtual, zg_ireturn, zg_istore, zg_isub, zg_ldc, zg_ldc_w, zf_X6_at, zi_ld, zi_lda, zi_cmp, zi_retOk, zi_isI, zi_f3, zi_cr, zi_ci, zi_cn, zi_get_ne, zi_nl_i, zi_nl_r, zi_get_set_eq, nl, g0, g1, g2, g3, g4, zM_g, k1, c1, zm_iald (k := 0) zM_A259 ii, ci, k2, zm_iald (k := 0) zM_A255 im, zm_iald (k := 0) zM_A257 im, zm_iald (k := 0) zM_A256 im, cm, c2, c3, c4, nI_1]
          · simp (maxDischargeDepth := 9) [zi_get_ne, zi_nl_i, zi_nl_r, zi_get_set_eq, nl]
          · simp (maxDischargeDepth := 9) [zi_get_ne, zi_nl_i, zi_nl_r, zi_get_set_eq, nl, g0]
          · simp (maxDischargeDepth := 9) [zi_get_ne, zi_nl_i, zi_nl_r, zi_get_set_eq, nl, g1]
          · simp (maxDischargeDepth := 9) [zi_get_ne, zi_nl_i, zi_nl_r, zi_get_set_eq, nl, g2]
          · simp (maxDischargeDepth := 9) [zi_get_ne, zi_nl_i, zi_nl_r, zi_get_set_eq, nl, g3]
        · by_cases c5 : μ 256 m + μ 258 m ≤ y
          · left
            refine ⟨zi_set (zi_set L 5 (.int (nI m))) 4 (.int (nI (i + 1))), zm_mk μ, ⟨N1, 45, fun F m hF => ?_⟩, by omega, ?_, ?_, ?_, ?_, ?_, zi_get_set_eq, rfl, trivial⟩
            · simp (maxDischargeDepth := 9) [zg_0, zg_aload_n, zg_getfield, zg_goto, zg_iadd, zg_iaload, zg_iconst, zg_ifCond, zg_if_icmp, zg_iinc, zg_iload, zg_iload_n, zg_invokestatic, zg_invokevirtual, zg_ireturn, zg_istore, zg_isub, zg_ldc, zg_ldc_w, zf_X6_at, zi_ld, zi_lda, zi_cmp, zi_retOk, zi_isI, zi_f3, zi_cr, zi_ci, zi_cn, zi_get_ne, zi_nl_i, zi_nl_r, zi_get_set_eq, nl, g0, g1, g2, g3, g4, zM_g, k1, c1, zm_iald (k := 0) zM_A259 ii, ci, k2, zm_iald (k := 0) zM_A255 im, zm_iald (k := 0) zM_A257 im, zm_iald (k := 0) zM_A256 im, zm_iald (k := 0) zM_A258 im, cm, c2, c3, c4, c5, nI_1]
            · simp (maxDischargeDepth := 9) [zi_get_ne, zi_nl_i, zi_nl_r, zi_get_set_eq, nl]
            · simp (maxDischargeDepth := 9) [zi_get_ne, zi_nl_i, zi_nl_r, zi_get_set_eq, nl, g0]
            · simp (maxDischargeDepth := 9) [zi_get_ne, zi_nl_i, zi_nl_r, zi_get_set_eq, nl, g1]
            · simp (maxDischargeDepth := 9) [zi_get_ne, zi_nl_i, zi_nl_r, zi_get_set_eq, nl, g2]
            · simp (maxDischargeDepth := 9) [zi_get_ne, zi_nl_i, zi_nl_r, zi_get_set_eq, nl, g3]
          · have iy : zi_in (nI (24 * s + m)) 168 = true := zm_in (by omega) (by decide)
            have cy : (nI (24 * s + m)).toNatClampNeg = 24 * s + m := nI_clamp (by omega)
            right
            refine ⟨some (.int (μ 250 (24 * s + m))), zm_mk μ, ⟨N1, 50, fun F m hF => ?_⟩, ⟨_, rfl⟩, rfl⟩
            simp (maxDischargeDepth := 9) [zg_0, zg_aload_n, zg_getfield, zg_goto, zg_iadd, zg_iaload, zg_iconst, zg_ifCond, zg_if_icmp, zg_iinc, zg_iload, zg_iload_n, zg_invokestatic, zg_invokevirtual, zg_ireturn, zg_istore, zg_isub, zg_ldc, zg_ldc_w, zf_X6_at, zi_ld, zi_lda, zi_cmp, zi_retOk, zi_isI, zi_f3, zi_cr, zi_ci, zi_cn, zi_get_ne, zi_nl_i, zi_nl_r, zi_get_set_eq, nl, g0, g1, g2, g3, g4, zM_g, k1, c1, zm_iald (k := 0) zM_A259 ii, ci, k2, zm_iald (k := 0) zM_A255 im, zm_iald (k := 0) zM_A257 im, zm_iald (k := 0) zM_A256 im, zm_iald (k := 0) zM_A258 im, cm, c2, c3, c4, c5, zq_Mod_spot, E1 F (by omega), zm_iald (k := 0) zM_A250 iy, cy, nI_1]
  · rintro L _ ⟨-, nl, g0, g1, g2, g3, g4, rfl, hq⟩
    have c1 : nI l.length ≤ nI l.length := Int32.le_refl _
    refine ⟨some (.int (-1000000005)), zm_mk μ, ⟨0, 6, fun F m hF => ?_⟩, ⟨_, rfl⟩, rfl⟩
    simp [zg_0, zg_aload_n, zg_getfield, zg_goto, zg_iadd, zg_iaload, zg_iconst, zg_ifCond, zg_if_icmp, zg_iinc, zg_iload, zg_iload_n, zg_invokestatic, zg_invokevirtual, zg_ireturn, zg_istore, zg_isub, zg_ldc, zg_ldc_w, zf_X6_at, zi_ld, zi_lda, zi_cmp, zi_retOk, zi_isI, zi_f3, zi_cr, zi_ci, zi_cn, g0, g1, g2, g3, g4, zM_g, k1, c1, n5]

set_option maxRecDepth 100000 in
theorem zv_atT (D : Nat) {s : Nat} (hs : s < 3) {l : List Nat} (hL : zv_L μ 241 10 l) (hb : ∀ k ∈ l, k < 10) (x y : Int32) : ∀ (j : Nat), j ≤ l.length → ∀ (L : zi_Lc), zi_nl L = true → zi_get L 0 = some (.ref 232) → zi_get L 1 = some (.int (nI s)) → zi_get L 2 = some (.int x) → zi_get L 3 = some (.int y) → zi_get L 4 = some (.int (zv_dn j)) →
    (∃ v, ze_G (D + 2) 6 (some .int) zc_X6_at 67 L [] (zm_mk μ) (some (.int v)) (zm_mk μ)) ∨ ∃ L', ze_S (D + 2) 6 (some .int) zc_X6_at 67 L [] (zm_mk μ) 103 L' [] (zm_mk μ) ∧ zi_nl L' = true ∧ zi_get L' 0 = some (.ref 232) ∧ zi_get L' 1 = some (.int (nI s)) ∧ zi_get L' 2 = some (.int x) ∧ zi_get L' 3 = some (.int y) := by
  obtain ⟨lc, cM⟩ := zM_c (μ := μ)
  have om : Int32.ofInt (-1) = -1 := by decide
  intro j
  induction j with
  | zero =>
    intro hj L nl g0 g1 g2 g3 g4
    have c1 : zv_dn 0 < 0 := by decide
    refine Or.inr ⟨L, ⟨0, 2, fun F m hF => ?_⟩, nl, g0, g1, g2, g3⟩
    simp (maxDischargeDepth := 9) [zg_0, zg_aload_n, zg_getfield, zg_goto, zg_iadd, zg_iaload, zg_iconst, zg_ifCond, zg_if_icmp, zg_iinc, zg_iload, zg_iload_n, zg_invokestatic, zg_invokevirtual, zg_ireturn, zg_istore, zg_isub, zg_ldc, zg_ldc_w, zf_X6_at, zi_ld, zi_lda, zi_cmp, zi_retOk, zi_isI, zi_f3, zi_cr, zi_ci, zi_cn, zi_get_ne, zi_nl_i, zi_nl_r, zi_get_set_eq, nl, g0, g1, g2, g3, g4, c1]
  | succ j ih =>
    intro hj L nl g0 g1 g2 g3 g4
    have g4 : zi_get L 4 = some (.int (nI j)) := g4
    have l10 := hL.1
    have e1 := hL.2.2 j (by omega)
    have hk := hb _ (zl_mem (show j < l.length by omega))
    generalize l.getD j 0 = k at e1 hk
    have c1 : ¬ nI j < 0 := nI_pos (by omega)
    have ij : zi_in (nI j) 10 = true := zm_in (by omega) (by decide)
    have cj : (nI j).toNatClampNeg = j := nI_clamp (by omega)
    have hd : nI j + -1 = zv_dn j := zv_dn_s (by omega)
    obtain ⟨v, hv, N1, E1⟩ := ze_Mlies (μ := μ) D hk hs x y
    rcases hv with rfl | rfl
    · rcases ih (by omega) (zi_set L 4 (.int (zv_dn j))) (by simp (maxDischargeDepth := 9) [zi_get_ne, zi_nl_i, zi_nl_r, zi_get_set_eq, nl]) (by simp (maxDischargeDepth := 9) [zi_get_ne, zi_nl_i, zi_nl_r, zi_get_set_eq, nl, g0]) (by simp (maxDischargeDepth := 9) [zi_get_ne, zi_nl_i, zi_nl_r, zi_get_set_eq, nl, g1]) (by simp (maxDischargeDepth := 9) [zi_get_ne, zi_nl_i, zi_nl_r, zi_get_set_eq, nl, g2]) (by simp (maxDischargeDepth := 9) [zi_get_ne, zi_nl_i, zi_nl_r, zi_get_set_eq, nl, g3]) zi_get_set_eq with ⟨v, G⟩ | ⟨L', S, q⟩
      · refine Or.inl ⟨v, ze_S.end ⟨N1, 14, fun F m hF => ?_⟩ G⟩
        simp (maxDischargeDepth := 9) [zg_0, zg_aload_n, zg_getfield, zg_goto, zg_iadd, zg_iaload, zg_iconst, zg_ifCond, zg_if_icmp, zg_iinc, zg_iload, zg_iload_n, zg_invokestatic, zg_invokevirtual, zg_ireturn, zg_istore, zg_isub, zg_ldc, zg_ldc_w, zf_X6_at, zi_ld, zi_lda, zi_cmp, zi_retOk, zi_isI, zi_f3, zi_cr, zi_ci, zi_cn, zi_get_ne, zi_nl_i, zi_nl_r, zi_get_set_eq, nl, g0, g1, g2, g3, g4, c1, zM_g, zm_iald (k := 0) zM_A241 ij, cj, e1, cM, zq_Mod_lies, E1 F (by omega), om, hd]
      · refine Or.inr ⟨L', ze_S.trans ⟨N1, 14, fun F m hF => ?_⟩ S, q⟩
        simp (maxDischargeDepth := 9) [zg_0, zg_aload_n, zg_getfield, zg_goto, zg_iadd, zg_iaload, zg_iconst, zg_ifCond, zg_if_icmp, zg_iinc, zg_iload, zg_iload_n, zg_invokestatic, zg_invokevirtual, zg_ireturn, zg_istore, zg_isub, zg_ldc, zg_ldc_w, zf_X6_at, zi_ld, zi_lda, zi_cmp, zi_retOk, zi_isI, zi_f3, zi_cr, zi_ci, zi_cn, zi_get_ne, zi_nl_i, zi_nl_r, zi_get_set_eq, nl, g0, g1, g2, g3, g4, c1, zM_g, zm_iald (k := 0) zM_A241 ij, cj, e1, cM, zq_Mod_lies, E1 F (by omega), om, hd]
    · refine Or.inl ⟨nI k, N1, 17, fun F m hF => ?_⟩
      simp (maxDischargeDepth := 9) [zg_0, zg_aload_n, zg_getfield, zg_goto, zg_iadd, zg_iaload, zg_iconst, zg_ifCond, zg_if_icmp, zg_iinc, zg_iload, zg_iload_n, zg_invokestatic, zg_invokevirtual, zg_ireturn, zg_istore, zg_isub, zg_ldc, zg_ldc_w, zf_X6_at, zi_ld, zi_lda, zi_cmp, zi_retOk, zi_isI, zi_f3, zi_cr, zi_ci, zi_cn, zi_get_ne, zi_nl_i, zi_nl_r, zi_get_set_eq, nl, g0, g1, g2, g3, g4, c1, zM_g, zm_iald (k := 0) zM_A241 ij, cj, e1, cM, zq_Mod_lies, E1 F (by omega)]
set_option maxRecDepth 100000 in
theorem zv_at_1 (D : Nat) {n : Nat} (hn : n ≤ 10) (L : zi_Lc) (h : zi_Hp) : ze_S D 6 (some .int) zc_X6_at 64 L [.int 1, .int (nI n)] h 67 (zi_set L 4 (.int (zv_dn n))) [] h := by
  have hd : nI n - 1 = zv_dn n := zv_dn_1 hn
  refine ⟨0, 2, fun F m hF => ?_⟩
  generalize zv_dn n = d at hd ⊢
  simp [zg_0, zg_aload_n, zg_getfield, zg_goto, zg_iadd, zg_iaload, zg_iconst, zg_ifCond, zg_if_icmp, zg_iinc, zg_iload, zg_iload_n, zg_invokestatic, zg_invokevirtual, zg_ireturn, zg_istore, zg_isub, zg_ldc, zg_ldc_w, zf_X6_at, zi_ld, zi_lda, zi_cmp, zi_retOk, zi_isI, zi_f3, zi_cr, zi_ci, zi_cn, hd]
set_option maxRecDepth 100000 in
theorem ze_Mat (D : Nat) (h : zR μ row stk us) (w x y : Int32) : ∃ ν v, ze_E (D + 29) A_Mod_at [.ref 232, .int w, .int x, .int y] (zm_mk μ) (some (.int v)) (zm_mk ν) ∧ zM_fr μ ν := by
  have n1 : Int32.ofInt (-1000000001) = -1000000001 := by decide
  have n2 : Int32.ofInt (-1000000002) = -1000000002 := by decide
  obtain ⟨lc, cM⟩ := zM_c (μ := μ)
  rcases zM_isIn (hp := zm_mk μ) (D + 27) w (n := 2) (b := 2) (by decide) (by decide) with ⟨s, hs, rfl, N1, E1⟩ | ⟨⟨N1, E1⟩, hno⟩
  · have hs : s < 3 := hs
    have is : zi_in (nI s) 3 = true := zm_in hs (by decide)
    have cs : (nI s).toNatClampNeg = s := nI_clamp (by omega)
    by_cases c0 : μ 232 s = 0
    · refine ⟨μ, -1000000002, ze_in [(0, .ref 232), (1, .int (nI s)), (2, .int x), (3, .int y)] zq_Mod_at (Nat.le_of_ble_eq_true rfl) rfl ⟨N1, 12, fun F n hF => ?_⟩, zM_fr.refl⟩
      simp [zg_0, zg_aload_n, zg_getfield, zg_goto, zg_iadd, zg_iaload, zg_iconst, zg_ifCond, zg_if_icmp, zg_iinc, zg_iload, zg_iload_n, zg_invokestatic, zg_invokevirtual, zg_ireturn, zg_istore, zg_isub, zg_ldc, zg_ldc_w, zf_X6_at, zi_ld, zi_lda, zi_cmp, zi_retOk, zi_isI, zi_f3, zi_cr, zi_ci, zi_cn, zi_get, zi_set, zM_g, zq_Mod_isIn, E1 F (by omega), zm_iald (k := 0) zM_A232 is, cs, c0, n2]
    · obtain ⟨d1, hd1⟩ := zv_opq (μ 232 s) 1
      obtain ⟨d2, hd2⟩ := zv_opq (μ 233 s) 1
      obtain ⟨N2, E2⟩ := ze_isIn (h := zm_mk μ) (D + 27) x 0 d1
      obtain ⟨N3, E3⟩ := ze_isIn (h := zm_mk μ) (D + 27) y 0 d2
      by_cases c1 : 0 ≤ x ∧ x ≤ d1
      · rw [if_pos c1] at E2
        by_cases c2 : 0 ≤ y ∧ y ≤ d2
        · rw [if_pos c2] at E3
          have hL := h.2.2.1.1
          have hb : ∀ k ∈ stk, k < 10 := fun k hk => ((h.2.2.1.2.2 k).mp hk).1
          have S0 : ze_S (D + 28) 6 (some .int) zc_X6_at 0 [(0, .ref 232), (1, .int (nI s)), (2, .int x), (3, .int y)] [] (zm_mk μ) 64 [(0, .ref 232), (1, .int (nI s)), (2, .int x), (3, .int y)] [.int 1, .int (nI stk.length)] (zm_mk μ) := by
            refine ⟨N1 + N2 + N3, 33, fun F n hF => ?_⟩
            simp [zg_0, zg_aload_n, zg_getfield, zg_goto, zg_iadd, zg_iaload, zg_iconst, zg_ifCond, zg_if_icmp, zg_iinc, zg_iload, zg_iload_n, zg_invokestatic, zg_invokevirtual, zg_ireturn, zg_istore, zg_isub, zg_ldc, zg_ldc_w, zf_X6_at, zi_ld, zi_lda, zi_cmp, zi_retOk, zi_isI, zi_f3, zi_cr, zi_ci, zi_cn, zi_get, zi_set, zM_g, zq_Mod_isIn, E1 F (by omega), E2 F (by omega), E3 F (by omega), zm_iald (k := 0) zM_A232 is, zm_iald (k := 0) zM_A233 is, cs, c0, hd1, hd2, hL.2.1]
          have S1 := zv_at_1 (D + 28) hL.1 [(0, .ref 232), (1, .int (nI s)), (2, .int x), (3, .int y)] (zm_mk μ)
          rcases zv_atT (μ := μ) (D + 26) hs hL hb x y stk.length (Nat.le_refl _) (zi_set [(0, .ref 232), (1, .int (nI s)), (2, .int x), (3, .int y)] 4 (.int (zv_dn stk.length))) (zi_nl_i rfl) (zi_get_ne rfl (by decide)) (zi_get_ne rfl (by decide)) (zi_get_ne rfl (by decide)) (zi_get_ne rfl (by decide)) zi_get_set_eq with ⟨v, G⟩ | ⟨L', S2, nl', b0, b1, b2, b3⟩
          · exact ⟨μ, v, ze_in [(0, .ref 232), (1, .int (nI s)), (2, .int x), (3, .int y)] zq_Mod_at (Nat.le_of_ble_eq_true rfl) rfl (S0.end (S1.end G)), zM_fr.refl⟩
          · obtain ⟨ab, hI⟩ := (h.2.2.2.2.1 s hs).1
            obtain ⟨ν, ⟨N4, E4⟩, -, hl, f⟩ := ze_MlayAll (μ := μ) (D + 1) hs hI
            obtain ⟨hndl, h24, hlen⟩ := zu_lvs_nodup hI
            obtain ⟨r, h', G, ⟨v, rfl⟩, rfl⟩ := zv_atL (μ := ν) (D + 27) hs hl h24 hlen x y (zi_set L' 4 (.int (nI 0))) (zi_nl_i nl') ((zi_get_ne nl' (by decide)).trans b0) ((zi_get_ne nl' (by decide)).trans b1) ((zi_get_ne nl' (by decide)).trans b2) ((zi_get_ne nl' (by decide)).trans b3) zi_get_set_eq
            refine ⟨ν, v, ze_in [(0, .ref 232), (1, .int (nI s)), (2, .int x), (3, .int y)] zq_Mod_at (Nat.le_of_ble_eq_true rfl) rfl (S0.end (S1.end (S2.end (ze_S.end ⟨N4, 5, fun F n hF => ?_⟩ G)))), f.fr⟩
            simp [zg_0, zg_aload_n, zg_getfield, zg_goto, zg_iadd, zg_iaload, zg_iconst, zg_ifCond, zg_if_icmp, zg_iinc, zg_iload, zg_iload_n, zg_invokestatic, zg_invokevirtual, zg_ireturn, zg_istore, zg_isub, zg_ldc, zg_ldc_w, zf_X6_at, zi_ld, zi_lda, zi_cmp, zi_retOk, zi_isI, zi_f3, zi_cr, zi_ci, zi_cn, b0, b1, cM, zq_Mod_layAll, E4 F (by omega), nI_0]
        · rw [if_neg c2] at E3
          refine ⟨μ, -1000000001, ze_in [(0, .ref 232), (1, .int (nI s)), (2, .int x), (3, .int y)] zq_Mod_at (Nat.le_of_ble_eq_true rfl) rfl ⟨N1 + N2 + N3, 32, fun F n hF => ?_⟩, zM_fr.refl⟩
          simp [zg_0, zg_aload_n, zg_getfield, zg_goto, zg_iadd, zg_iaload, zg_iconst, zg_ifCond, zg_if_icmp, zg_iinc, zg_iload, zg_iload_n, zg_invokestatic, zg_invokevirtual, zg_ireturn, zg_istore, zg_isub, zg_ldc, zg_ldc_w, zf_X6_at, zi_ld, zi_lda, zi_cmp, zi_retOk, zi_isI, zi_f3, zi_cr, zi_ci, zi_cn, zi_get, zi_set, zM_g, zq_Mod_isIn, E1 F (by omega), E2 F (by omega), E3 F (by omega), zm_iald (k := 0) zM_A232 is, zm_iald (k := 0) zM_A233 is, cs, c0, hd1, hd2, n1]
      · rw [if_neg c1] at E2
        refine ⟨μ, -1000000001, ze_in [(0, .ref 232), (1, .int (nI s)), (2, .int x), (3, .int y)] zq_Mod_at (Nat.le_of_ble_eq_true rfl) rfl ⟨N1 + N2, 22, fun F n hF => ?_⟩, zM_fr.refl⟩
        simp [zg_0, zg_aload_n, zg_getfield, zg_goto, zg_iadd, zg_iaload, zg_iconst, zg_ifCond, zg_if_icmp, zg_iinc, zg_iload, zg_iload_n, zg_invokestatic, zg_invokevirtual, zg_ireturn, zg_istore, zg_isub, zg_ldc, zg_ldc_w, zf_X6_at, zi_ld, zi_lda, zi_cmp, zi_retOk, zi_isI, zi_f3, zi_cr, zi_ci, zi_cn, zi_get, zi_set, zM_g, zq_Mod_isIn, E1 F (by omega), E2 F (by omega), zm_iald (k := 0) zM_A232 is, cs, c0, hd1, n1]
  · refine ⟨μ, -1000000001, ze_in [(0, .ref 232), (1, .int w), (2, .int x), (3, .int y)] zq_Mod_at (Nat.le_of_ble_eq_true rfl) rfl ⟨N1, 7, fun F n hF => ?_⟩, zM_fr.refl⟩
    simp [zg_0, zg_aload_n, zg_getfield, zg_goto, zg_iadd, zg_iaload, zg_iconst, zg_ifCond, zg_if_icmp, zg_iinc, zg_iload, zg_iload_n, zg_invokestatic, zg_invokevirtual, zg_ireturn, zg_istore, zg_isub, zg_ldc, zg_ldc_w, zf_X6_at, zi_ld, zi_lda, zi_cmp, zi_retOk, zi_isI, zi_f3, zi_cr, zi_ci, zi_cn, zi_get, zi_set, zq_Mod_isIn, E1 F (by omega), n1]
end ZWH
