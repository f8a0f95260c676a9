/-! the reference: comesBack, does all find room? -/
def zv_gd (p : Nat → Bool) (b : Bool) : Nat → Bool
  | 0 => b
  | n + 1 => zv_gd p b n && p n
def zv_room (μ : zm_M) (g : Nat → Bool) (s k : Nat) : Bool := !g k || decide (μ 234 k = 1) || decide (μ 235 k ≤ μ 232 s ∧ μ 236 k ≤ μ 233 s)
section ZVL
variable {μ : zm_M} {g : Nat → Bool}
set_option maxRecDepth 100000 in
theorem zv_comes1 (D : Nat) {s : Nat} (hs : s < 3) (hg : zv_cm μ g) (b0 : Bool) (L0 : zi_Lc) (nl0 : zi_nl L0 = true) (a0 : zi_get L0 0 = some (.ref 232)) (a1 : zi_get L0 1 = some (.int (nI s))) (a2 : zi_get L0 2 = some (.int (if b0 = true then 1 else 0))) (a3 : zi_get L0 3 = some (.int (nI 0))) :
    ∃ r h', ze_G (D + 1) 4 (some .boolean) zc_X6_comesBack 57 L0 [] (zm_mk μ) r h' ∧ (r = some (.int (if zv_gd (zv_room μ g s) b0 10 = true then 1 else 0)) ∧ zm_mk μ = h') := by
  have h10 : (Int8.ofInt 10).toInt32 = (10 : Int32) := by decide
  have is : zi_in (nI s) 3 = true := zm_in hs (by decide)
  have cs : (nI s).toNatClampNeg = s := nI_clamp (by omega)
  have n1 : ¬ (1 : Int32) = 0 := by decide
  obtain ⟨lc, cM⟩ := zM_c (μ := μ)
  refine ze_loop (Q := fun i L hp => i ≤ 10 ∧ zi_nl L = true ∧ zi_get L 0 = some (.ref 232) ∧ zi_get L 1 = some (.int (nI s)) ∧ zi_get L 3 = some (.int (nI i)) ∧ zm_mk μ = hp ∧ ∃ (b : Bool), zi_get L 2 = some (.int (if b = true then 1 else 0)) ∧ (b = zv_gd (zv_room μ g s) b0 i)) (R := fun r h' => r = some (.int (if zv_gd (zv_room μ g s) b0 10 = true then 1 else 0)) ∧ zm_mk μ = h') 10 ?_ ?_ 10 0 _ _ (by omega) ⟨by omega, nl0, a0, a1, a3, rfl, b0, a2, rfl⟩
  · rintro i L _ hi ⟨-, nl, g0, g1, g3, rfl, b, g2, hq⟩
    have c1 : ¬ (10 : Int32) ≤ nI i := nI_ge (b := 10) hi (by decide)
    have ik : zi_in (nI i) 10 = true := zm_in hi (by decide)
    have ck : (nI i).toNatClampNeg = i := nI_clamp (by omega)
    have ec := hg i hi
    obtain ⟨N1, E1⟩ := ze_McanBeWhole (μ := μ) D hi (μ 232 s) (μ 233 s)
    have hs1 : zv_gd (zv_room μ g s) b0 (i + 1) = (b && zv_room μ g s i) := by rw [hq]; rfl
    cases b with
    | false =>
      have g2 : zi_get L 2 = some (.int 0) := g2
      left
      refine ⟨zi_set (zi_set L 2 (.int 0)) 3 (.int (nI (i + 1))), zm_mk μ, ⟨N1, 9, fun F m hF => ?_⟩, by omega, ?_, ?_, ?_, zi_get_set_eq, rfl, false, ?_, hs1.symm⟩
      · simp (maxDischargeDepth := 9) [zg_0, zg_aload_n, zg_baload, zg_bastore, zg_bipush, zg_getfield, zg_goto, zg_iadd, zg_iaload, zg_iconst, zg_ifCond, zg_if_icmp, zg_iinc, zg_iload_n, zg_imul, zg_invokevirtual, zg_ireturn, zg_istore_n, zf_X6_comesBack, zi_ld, zi_lda, zi_cmp, zi_retOk, zi_isI, zi_f3, zi_cr, zi_ci, zi_cn, zi_get_ne, zi_nl_i, zi_nl_r, zi_get_set_eq, nl, g0, g1, g3, g2, h10, c1, nI_1]
      · simp (maxDischargeDepth := 9) [zi_get_ne, zi_nl_i, zi_nl_r, zi_get_set_eq, nl]
      · simp (maxDischargeDepth := 9) [zi_get_ne, zi_nl_i, zi_nl_r, zi_get_set_eq, nl, g0]
      · simp (maxDischargeDepth := 9) [zi_get_ne, zi_nl_i, zi_nl_r, zi_get_set_eq, nl, g1]
      · simp (maxDischargeDepth := 9) [zi_get_ne, zi_nl_i, zi_nl_r, zi_get_set_eq, nl, g2]
    | true =>
      have g2 : zi_get L 2 = some (.int 1) := g2
      have hr : zv_room μ g s i = (!g i || decide (μ 234 i = 1) || decide (μ 235 i ≤ μ 232 s ∧ μ 236 i ≤ μ 233 s)) := rfl
      rw [hr] at hs1
      by_cases c2 : g i = true
      · rw [if_pos c2] at ec
        by_cases c3 : μ 234 i = 1
        · left
          refine ⟨zi_set (zi_set L 2 (.int 1)) 3 (.int (nI (i + 1))), zm_mk μ, ⟨N1, 21, fun F m hF => ?_⟩, by omega, ?_, ?_, ?_, zi_get_set_eq, rfl, true, ?_, by rw [hs1, c2, decide_eq_true c3]; rfl⟩
          · simp (maxDischargeDepth := 9) [zg_0, zg_aload_n, zg_baload, zg_bastore, zg_bipush, zg_getfield, zg_goto, zg_iadd, zg_iaload, zg_iconst, zg_ifCond, zg_if_icmp, zg_iinc, zg_iload_n, zg_imul, zg_invokevirtual, zg_ireturn, zg_istore_n, zf_X6_comesBack, zi_ld, zi_lda, zi_cmp, zi_retOk, zi_isI, zi_f3, zi_cr, zi_ci, zi_cn, zi_get_ne, zi_nl_i, zi_nl_r, zi_get_set_eq, nl, g0, g1, g3, g2, h10, c1, n1, zM_g, zm_bald zM_A260 ik, ck, ec, zm_iald (k := 0) zM_A234 ik, c3, nI_1]
          · simp (maxDischargeDepth := 9) [zi_get_ne, zi_nl_i, zi_nl_r, zi_get_set_eq, nl]
          · simp (maxDischargeDepth := 9) [zi_get_ne, zi_nl_i, zi_nl_r, zi_get_set_eq, nl, g0]
          · simp (maxDischargeDepth := 9) [zi_get_ne, zi_nl_i, zi_nl_r, zi_get_set_eq, nl, g1]
          · simp (maxDischargeDepth := 9) [zi_get_ne, zi_nl_i, zi_nl_r, zi_get_set_eq, nl, g2]
        · by_cases c4 : μ 235 i ≤ μ 232 s ∧ μ 236 i ≤ μ 233 s
          · rw [if_pos c4] at E1
            left
            refine ⟨zi_set (zi_set L 2 (.int 1)) 3 (.int (nI (i + 1))), zm_mk μ, ⟨N1, 33, fun F m hF => ?_⟩, by omega, ?_, ?_, ?_, zi_get_set_eq, rfl, true, ?_, by rw [hs1, decide_eq_true c4, Bool.or_true]; rfl⟩
            · simp (maxDischargeDepth := 9) [zg_0, zg_aload_n, zg_baload, zg_bastore, zg_bipush, zg_getfield, zg_goto, zg_iadd, zg_iaload, zg_iconst, zg_ifCond, zg_if_icmp, zg_iinc, zg_iload_n, zg_imul, zg_invokevirtual, zg_ireturn, zg_istore_n, zf_X6_comesBack, zi_ld, zi_lda, zi_cmp, zi_retOk, zi_isI, zi_f3, zi_cr, zi_ci, zi_cn, zi_get_ne, zi_nl_i, zi_nl_r, zi_get_set_eq, nl, g0, g1, g3, g2, h10, c1, n1, zM_g, zm_bald zM_A260 ik, ck, ec, zm_iald (k := 0) zM_A234 ik, c3, zm_iald (k := 0) zM_A232 is, zm_iald (k := 0) zM_A233 is, cs, cM, zq_Mod_canBeWhole, E1 F (by omega), nI_1]
            · simp (maxDischargeDepth := 9) [zi_get_ne, zi_nl_i, zi_nl_r, zi_get_set_eq, nl]
            · simp (maxDischargeDepth := 9) [zi_get_ne, zi_nl_i, zi_nl_r, zi_get_set_eq, nl, g0]
            · simp (maxDischargeDepth := 9) [zi_get_ne, zi_nl_i, zi_nl_r, zi_get_set_eq, nl, g1]
            · simp (maxDischargeDepth := 9) [zi_get_ne, zi_nl_i, zi_nl_r, zi_get_set_eq, nl, g2]
          · rw [if_neg c4] at E1
            left
            refine ⟨zi_set (zi_set L 2 (.int 0)) 3 (.int (nI (i + 1))), zm_mk μ, ⟨N1, 32, fun F m hF => ?_⟩, by omega, ?_, ?_, ?_, zi_get_set_eq, rfl, false, ?_, by rw [hs1, decide_eq_false c4, decide_eq_false c3, c2]; rfl⟩
            · simp (maxDischargeDepth := 9) [zg_0, zg_aload_n, zg_baload, zg_bastore, zg_bipush, zg_getfield, zg_goto, zg_iadd, zg_iaload, zg_iconst, zg_ifCond, zg_if_icmp, zg_iinc, zg_iload_n, zg_imul, zg_invokevirtual, zg_ireturn, zg_istore_n, zf_X6_comesBack, zi_ld, zi_lda, zi_cmp, zi_retOk, zi_isI, zi_f3, zi_cr, zi_ci, zi_cn, zi_get_ne, zi_nl_i, zi_nl_r, zi_get_set_eq, nl, g0, g1, g3, g2, h10, c1, n1, zM_g, zm_bald zM_A260 ik, ck, ec, zm_iald (k := 0) zM_A234 ik, c3, zm_iald (k := 0) zM_A232 is, zm_iald (k := 0) zM_A233 is, cs, cM, zq_Mod_canBeWhole, E1 F (by omega), nI_1]
            · simp (maxDischargeDepth := 9) [zi_get_ne, zi_nl_i, zi_nl_r, zi_get_set_eq, nl]
            · simp (maxDischargeDepth := 9) [zi_get_ne, zi_nl_i, zi_nl_r, zi_get_set_eq, nl, g0]
            · simp (maxDischargeDepth := 9) [zi_get_ne, zi_nl_i, zi_nl_r, zi_get_set_eq, nl, g1]
            · simp (maxDischargeDepth := 9) [zi_get_ne, zi_nl_i, zi_nl_r, zi_get_set_eq, nl, g2]
      · rw [if_neg c2] at ec
        have c2' : g i = false := by simpa using c2
        left
        refine ⟨zi_set (zi_set L 2 (.int 1)) 3 (.int (nI (i + 1))), zm_mk μ, ⟨N1, 15, fun F m hF => ?_⟩, by omega, ?_, ?_, ?_, zi_get_set_eq, rfl, true, ?_, by rw [hs1, c2']; rfl⟩
        · simp (maxDischargeDepth := 9) [zg_0, zg_aload_n, zg_baload, zg_bastore, zg_bipush, zg_getfield, zg_goto, zg_iadd, zg_iaload, zg_iconst, zg_ifCond, zg_if_icmp, zg_iinc, zg_iload_n, zg_imul, zg_invokevirtual, zg_ireturn, zg_istore_n, zf_X6_comesBack, zi_ld, zi_lda, zi_cmp, zi_retOk, zi_isI, zi_f3, zi_cr, zi_ci, zi_cn, zi_get_ne, zi_nl_i, zi_nl_r, zi_get_set_eq, nl, g0, g1, g3, g2, h10, c1, n1, zM_g, zm_bald zM_A260 ik, ck, ec, nI_1]
        · simp (maxDischargeDepth := 9) [zi_get_ne, zi_nl_i, zi_nl_r, zi_get_set_eq, nl]
        · simp (maxDischargeDepth := 9) [zi_get_ne, zi_nl_i, zi_nl_r, zi_get_set_eq, nl, g0]
        · simp (maxDischargeDepth := 9) [zi_get_ne, zi_nl_i, zi_nl_r, zi_get_set_eq, nl, g1]
        · simp (maxDischargeDepth := 9) [zi_get_ne, zi_nl_i, zi_nl_r, zi_get_set_eq, nl, g2]
  · rintro L _ ⟨-, nl, g0, g1, g3, rfl, b, g2, hq⟩
    have c1 : (10 : Int32) ≤ nI 10 := by decide
    subst hq
    generalize zv_gd (zv_room μ g s) b0 10 = b at g2 ⊢
    cases b with
    | false =>
      have g2 : zi_get L 2 = some (.int 0) := g2
      refine ⟨some (.int 0), zm_mk μ, ⟨0, 5, fun F m hF => ?_⟩, rfl, rfl⟩
      simp [zg_0, zg_aload_n, zg_baload, zg_bastore, zg_bipush, zg_getfield, zg_goto, zg_iadd, zg_iaload, zg_iconst, zg_ifCond, zg_if_icmp, zg_iinc, zg_iload_n, zg_imul, zg_invokevirtual, zg_ireturn, zg_istore_n, zf_X6_comesBack, zi_ld, zi_lda, zi_cmp, zi_retOk, zi_isI, zi_f3, zi_cr, zi_ci, zi_cn, g0, g1, g2, g3, h10, c1]
    | true =>
      have g2 : zi_get L 2 = some (.int 1) := g2
      refine ⟨some (.int 1), zm_mk μ, ⟨0, 5, fun F m hF => ?_⟩, rfl, rfl⟩
      simp [zg_0, zg_aload_n, zg_baload, zg_bastore, zg_bipush, zg_getfield, zg_goto, zg_iadd, zg_iaload, zg_iconst, zg_ifCond, zg_if_icmp, zg_iinc, zg_iload_n, zg_imul, zg_invokevirtual, zg_ireturn, zg_istore_n, zf_X6_comesBack, zi_ld, zi_lda, zi_cmp, zi_retOk, zi_isI, zi_f3, zi_cr, zi_ci, zi_cn, g0, g1, g2, g3, h10, c1]
end ZVL
