/-! the reference: screen, its pieces -/
/-- does the window k of the screen s find room in w, v? -/
def zv_srm (μ : zm_M) (s : Nat) (w v : Int32) (k : Nat) : Bool := !zv_on μ k (nI s) || decide (μ 235 k ≤ w ∧ μ 236 k ≤ v)
section ZWT
variable {μ ξ ν : zm_M} {row stk : List Nat} {us : Nat → zy_F} {s : Nat}
set_option maxRecDepth 100000 in
theorem zv_scA (D : Nat) {w v : Int32} (hs : s < 3) (b0 : Bool) (L0 : zi_Lc) (nl0 : zi_nl L0 = true) (a0 : zi_get L0 0 = some (.ref 232)) (a1 : zi_get L0 1 = some (.int (nI s))) (a2 : zi_get L0 2 = some (.int w)) (a3 : zi_get L0 3 = some (.int v)) (a4 : zi_get L0 4 = some (.int (if b0 = true then 1 else 0))) (a5 : zi_get L0 5 = some (.int (nI 0))) :
    ∃ L' h', ze_S (D + 1) 6 (some .int) zc_X6_screen 114 L0 [] (zm_mk μ) 160 L' [] h' ∧ (zi_nl L' = true ∧ zi_get L' 0 = some (.ref 232) ∧ zi_get L' 1 = some (.int (nI s)) ∧ zi_get L' 2 = some (.int w) ∧ zi_get L' 3 = some (.int v) ∧ zi_get L' 4 = some (.int (if zv_gd (zv_srm μ s w v) b0 10 = true then 1 else 0)) ∧ zm_mk μ = h') := by
  have h10 : (Int8.ofInt 10).toInt32 = (10 : Int32) := by decide
  have n1 : ¬ (1 : Int32) = 0 := by decide
  obtain ⟨lc, cM⟩ := zM_c (μ := μ)
  refine ze_loopS (Q := fun i L hp => i ≤ 10 ∧ zi_nl L = true ∧ zi_get L 0 = some (.ref 232) ∧ zi_get L 1 = some (.int (nI s)) ∧ zi_get L 2 = some (.int w) ∧ zi_get L 3 = some (.int v) ∧ zi_get L 5 = some (.int (nI i)) ∧ zm_mk μ = hp ∧ ∃ (b : Bool), zi_get L 4 = some (.int (if b = true then 1 else 0)) ∧ (b = zv_gd (zv_srm μ s w v) b0 i)) (R := fun L' h' => zi_nl L' = true ∧ zi_get L' 0 = some (.ref 232) ∧ zi_get L' 1 = some (.int (nI s)) ∧ zi_get L' 2 = some (.int w) ∧ zi_get L' 3 = some (.int v) ∧ zi_get L' 4 = some (.int (if zv_gd (zv_srm μ s w v) b0 10 = true then 1 else 0)) ∧ zm_mk μ = h') 10 ?_ ?_ 10 0 _ _ (by omega) ⟨by omega, nl0, a0, a1, a2, a3, a5, rfl, b0, a4, rfl⟩
  · rintro i L _ hi ⟨-, nl, g0, g1, g2, g3, g5, rfl, b, g4, hq⟩
    have c1 : ¬ (10 : Int32) ≤ nI i := nI_ge (b := 10) hi (by decide)
    obtain ⟨N1, E1⟩ := ze_McanBeWhole (μ := μ) D hi w v
    obtain ⟨N2, E2⟩ := ze_MisOnScreen (μ := μ) D hi (nI s)
    have hs1 : zv_gd (zv_srm μ s w v) b0 (i + 1) = (b && zv_srm μ s w v i) := by rw [hq]; rfl
    have hr : zv_srm μ s w v i = (!zv_on μ i (nI s) || decide (μ 235 i ≤ w ∧ μ 236 i ≤ v)) := rfl
    rw [hr] at hs1
    cases b with
    | false =>
      have g4 : zi_get L 4 = some (.int 0) := g4
      refine ⟨zi_set (zi_set L 4 (.int 0)) 5 (.int (nI (i + 1))), zm_mk μ, ⟨N1 + N2, 9, fun F m hF => ?_⟩, by omega, ?_, ?_, ?_, ?_, ?_, zi_get_set_eq, rfl, false, ?_, hs1.symm⟩
      · simp (maxDischargeDepth := 9) [zg_0, zg_aload_n, zg_baload, zg_bastore, zg_bipush, zg_getfield, zg_goto, zg_iaload, zg_iastore, zg_iconst, zg_ifCond, zg_if_icmp, zg_iinc, zg_iload, zg_iload_n, zg_invokestatic, zg_invokevirtual, zg_ireturn, zg_istore, zg_ldc, zg_sipush, zf_X6_screen, zi_ld, zi_lda, zi_cmp, zi_retOk, zi_isI, zi_f3, zi_cr, zi_ci, zi_cn, zi_get_ne, zi_nl_i, zi_nl_r, zi_get_set_eq, nl, g0, g1, g2, g3, g5, g4, h10, c1, nI_1]
      · simp (maxDischargeDepth := 9) [zi_get_ne, zi_nl_i, zi_nl_r, zi_get_set_eq, nl]
      · simp (maxDischargeDepth := 9) [zi_get_ne, zi_nl_i, zi_nl_r, zi_get_set_eq, nl, g0]
      · simp (maxDischargeDepth := 9) [zi_get_ne, zi_nl_i, zi_nl_r, zi_get_set_eq, nl, g1]
      · simp (maxDischargeDepth := 9) [zi_get_ne, zi_nl_i, zi_nl_r, zi_get_set_eq, nl, g2]
      · simp (maxDischargeDepth := 9) [zi_get_ne, zi_nl_i, zi_nl_r, zi_get_set_eq, nl, g3]
      · simp (maxDischargeDepth := 9) [zi_get_ne, zi_nl_i, zi_nl_r, zi_get_set_eq, nl, g4]
    | true =>
      have g4 : zi_get L 4 = some (.int 1) := g4
      by_cases c2 : zv_on μ i (nI s) = true
      · rw [if_pos c2] at E2
        rw [c2] at hs1
        by_cases c4 : μ 235 i ≤ w ∧ μ 236 i ≤ v
        · rw [if_pos c4] at E1
          refine ⟨zi_set (zi_set L 4 (.int 1)) 5 (.int (nI (i + 1))), zm_mk μ, ⟨N1 + N2, 21, fun F m hF => ?_⟩, by omega, ?_, ?_, ?_, ?_, ?_, zi_get_set_eq, rfl, true, ?_, by rw [hs1, decide_eq_true c4]; rfl⟩
          · simp (maxDischargeDepth := 9) [zg_0, zg_aload_n, zg_baload, zg_bastore, zg_bipush, zg_getfield, zg_goto, zg_iaload, zg_iastore, zg_iconst, zg_ifCond, zg_if_icmp, zg_iinc, zg_iload, zg_iload_n, zg_invokestatic, zg_invokevirtual, zg_ireturn, zg_istore, zg_ldc, zg_sipush, zf_X6_screen, zi_ld, zi_lda, zi_cmp, zi_retOk, zi_isI, zi_f3, zi_cr, zi_ci, zi_cn, zi_get_ne, zi_nl_i, zi_nl_r, zi_get_set_eq, nl, g0, g1, g2, g3, g5, g4, h10, c1, n1, cM, zq_Mod_isOnScreen, zq_Mod_canBeWhole, E1 F (by omega), E2 F (by omega), nI_1]
          · simp (maxDischargeDepth := 9) [zi_get_ne, zi_nl_i, zi_nl_r, zi_get_set_eq, nl]
          · simp (maxDischargeDepth := 9) [zi_get_ne, zi_nl_i, zi_nl_r, zi_get_set_eq, nl, g0]
          · simp (maxDischargeDepth := 9) [zi_get_ne, zi_nl_i, zi_nl_r, zi_get_set_eq, nl, g1]
          · simp (maxDischargeDepth := 9) [zi_get_ne, zi_nl_i, zi_nl_r, zi_get_set_eq, nl, g2]
          · simp (maxDischargeDepth := 9) [zi_get_ne, zi_nl_i, zi_nl_r, zi_get_set_eq, nl, g3]
          · simp (maxDischargeDepth := 9) [zi_get_ne, zi_nl_i, zi_nl_r, zi_get_set_eq, nl, g4]
        · rw [if_neg c4] at E1
          refine ⟨zi_set (zi_set L 4 (.int 0)) 5 (.int (nI (i + 1))), zm_mk μ, ⟨N1 + N2, 20, fun F m hF => ?_⟩, by omega, ?_, ?_, ?_, ?_, ?_, zi_get_set_eq, rfl, false, ?_, by rw [hs1, decide_eq_false c4]; rfl⟩
          · simp (maxDischargeDepth := 9) [zg_0, zg_aload_n, zg_baload, zg_bastore, zg_bipush, zg_getfield, zg_goto, zg_iaload, zg_iastore, zg_iconst, zg_ifCond, zg_if_icmp, zg_iinc, zg_iload, zg_iload_n, zg_invokestatic, zg_invokevirtual, zg_ireturn, zg_istore, zg_ldc, zg_sipush, zf_X6_screen, zi_ld, zi_lda, zi_cmp, zi_retOk, zi_isI, zi_f3, zi_cr, zi_ci, zi_cn, zi_get_ne, zi_nl_i, zi_nl_r, zi_get_set_eq, nl, g0, g1, g2, g3, g5, g4, h10, c1, n1, cM, zq_Mod_isOnScreen, zq_Mod_canBeWhole, E1 F (by omega), E2 F (by omega), nI_1]
          · simp (maxDischargeDepth := 9) [zi_get_ne, zi_nl_i, zi_nl_r, zi_get_set_eq, nl]
          · simp (maxDischargeDepth := 9) [zi_get_ne, zi_nl_i, zi_nl_r, zi_get_set_eq, nl, g0]
          · simp (maxDischargeDepth := 9) [zi_get_ne, zi_nl_i, zi_nl_r, zi_get_set_eq, nl, g1]
          · simp (maxDischargeDepth := 9) [zi_get_ne, zi_nl_i, zi_nl_r, zi_get_set_eq, nl, g2]
          · simp (maxDischargeDepth := 9) [zi_get_ne, zi_nl_i, zi_nl_r, zi_get_set_eq, nl, g3]
          · simp (maxDischargeDepth := 9) [zi_get_ne, zi_nl_i, zi_nl_r, zi_get_set_eq, nl, g4]
      · rw [if_neg c2] at E2
        have c2' : zv_on μ i (nI s) = false := by simpa using c2
        refine ⟨zi_set (zi_set L 4 (.int 1)) 5 (.int (nI (i + 1))), zm_mk μ, ⟨N1 + N2, 15, fun F m hF => ?_⟩, by omega, ?_, ?_, ?_, ?_, ?_, zi_get_set_eq, rfl, true, ?_, by rw [hs1, c2']; rfl⟩
        · simp (maxDischargeDepth := 9) [zg_0, zg_aload_n, zg_baload, zg_bastore, zg_bipush, zg_getfield, zg_goto, zg_iaload, zg_iastore, zg_iconst, zg_ifCond, zg_if_icmp, zg_iinc, zg_iload, zg_iload_n, zg_invokestatic, zg_invokevirtual, zg_ireturn, zg_istore, zg_ldc, zg_sipush, zf_X6_screen, zi_ld, zi_lda, zi_cmp, zi_retOk, zi_isI, zi_f3, zi_cr, zi_ci, zi_cn, zi_get_ne, zi_nl_i, zi_nl_r, zi_get_set_eq, nl, g0, g1, g2, g3, g5, g4, h10, c1, n1, cM, zq_Mod_isOnScreen, E2 F (by omega), nI_1]
        · simp (maxDischargeDepth := 9) [zi_get_ne, zi_nl_i, zi_nl_r, zi_get_set_eq, nl]
        · simp (maxDischargeDepth := 9) [zi_get_ne, zi_nl_i, zi_nl_r, zi_get_set_eq, nl, g0]
        · simp (maxDischargeDepth := 9) [zi_get_ne, zi_nl_i, zi_nl_r, zi_get_set_eq, nl, g1]
        · simp (maxDischargeDepth := 9) [zi_get_ne, zi_nl_i, zi_nl_r, zi_get_set_eq, nl, g2]
        · simp (maxDischargeDepth := 9) [zi_get_ne, zi_nl_i, zi_nl_r, zi_get_set_eq, nl, g3]
        · simp (maxDischargeDepth := 9) [zi_get_ne, zi_nl_i, zi_nl_r, zi_get_set_eq, nl, g4]
  · rintro L _ ⟨-, nl, g0, g1, g2, g3, g5, rfl, b, g4, hq⟩
    subst hq
    have c1 : (10 : Int32) ≤ nI 10 := by decide
    refine ⟨L, zm_mk μ, ⟨0, 3, fun F m hF => ?_⟩, nl, g0, g1, g2, g3, g4, rfl⟩
    simp (maxDischargeDepth := 9) [zg_0, zg_aload_n, zg_baload, zg_bastore, zg_bipush, zg_getfield, zg_goto, zg_iaload, zg_iastore, zg_iconst, zg_ifCond, zg_if_icmp, zg_iinc, zg_iload, zg_iload_n, zg_invokestatic, zg_invokevirtual, zg_ireturn, zg_istore, zg_ldc, zg_sipush, zf_X6_screen, zi_ld, zi_lda, zi_cmp, zi_retOk, zi_isI, zi_f3, zi_cr, zi_ci, zi_cn, zi_get_ne, zi_nl_i, zi_nl_r, zi_get_set_eq, nl, g0, g1, g2, g3, g5, h10, c1]
/-- only places differ -/
def zv_pl (μ ν : zm_M) : Prop := ∀ c d, c ≠ 239 → c ≠ 240 → ν c d = μ c d
set_option maxRecDepth 100000 in
theorem zv_scB (D : Nat) (hs : s < 3) (L0 : zi_Lc) (nl0 : zi_nl L0 = true) (a0 : zi_get L0 0 = some (.ref 232)) (a1 : zi_get L0 1 = some (.int (nI s))) (a5 : zi_get L0 5 = some (.int (nI 0))) :
    ∃ r h', ze_G (D + 2) 6 (some .int) zc_X6_screen 185 L0 [] (zm_mk μ) r h' ∧ (r = some (.int 0) ∧ ∃ ν, zm_mk ν = h' ∧ zv_pl μ ν) := by
  have h10 : (Int8.ofInt 10).toInt32 = (10 : Int32) := by decide
  refine ze_loop (Q := fun i L hp => i ≤ 10 ∧ zi_nl L = true ∧ zi_get L 0 = some (.ref 232) ∧ zi_get L 1 = some (.int (nI s)) ∧ zi_get L 5 = some (.int (nI i)) ∧ ∃ ξ : zm_M, zm_mk ξ = hp ∧ (zv_pl μ ξ) ∧ (True)) (R := fun r h' => r = some (.int 0) ∧ ∃ ν, zm_mk ν = h' ∧ zv_pl μ ν) 10 ?_ ?_ 10 0 _ _ (by omega) ⟨by omega, nl0, a0, a1, a5, μ, rfl, (fun _ _ _ _ => rfl), trivial⟩
  · rintro i L _ hi ⟨-, nl, g0, g1, g5, ξ, rfl, f1, hq⟩
    have c1 : ¬ (10 : Int32) ≤ nI i := nI_ge (b := 10) hi (by decide)
    have ik : zi_in (nI i) 10 = true := zm_in hi (by decide)
    have ck : (nI i).toNatClampNeg = i := nI_clamp (by omega)
    obtain ⟨lc, cM⟩ := zM_c (μ := ξ)
    obtain ⟨N2, E2⟩ := ze_MisOnScreen (μ := ξ) (D + 1) hi (nI s)
    by_cases c2 : zv_on ξ i (nI s) = true
    · rw [if_pos c2] at E2
      obtain ⟨pp, qq, ⟨N1, E1⟩, -, -⟩ := ze_MputAt (μ := ξ) D hi hs (ξ 239 i) (ξ 240 i)
      have e8 : ξ 238 i = nI s := (of_decide_eq_true c2).2.2
      have f1' : zv_pl μ (zv_put ξ i s pp qq) := fun c d r1 r2 => by
        unfold zv_put
        rw [zm_up_ne (by omega), zm_up_ne (by omega)]
        by_cases e : c = 238 ∧ d = i
        · rw [e.1, e.2, zm_up_eq, ← e8]
          exact f1 _ _ (by decide) (by decide)
        · rw [zm_up_ne e]
          exact f1 c d r1 r2
      left
      refine ⟨zi_set L 5 (.int (nI (i + 1))), zm_mk (zv_put ξ i s pp qq), ⟨N1 + N2, 22, fun F m hF => ?_⟩, by omega, ?_, ?_, ?_, zi_get_set_eq, _, rfl, f1', trivial⟩
      · simp (maxDischargeDepth := 9) [zg_0, zg_aload_n, zg_baload, zg_bastore, zg_bipush, zg_getfield, zg_goto, zg_iaload, zg_iastore, zg_iconst, zg_ifCond, zg_if_icmp, zg_iinc, zg_iload, zg_iload_n, zg_invokestatic, zg_invokevirtual, zg_ireturn, zg_istore, zg_ldc, zg_sipush, zf_X6_screen, zi_ld, zi_lda, zi_cmp, zi_retOk, zi_isI, zi_f3, zi_cr, zi_ci, zi_cn, zi_get_ne, zi_nl_i, zi_nl_r, zi_get_set_eq, nl, g0, g1, g5, h10, c1, cM, zM_g, zq_Mod_isOnScreen, zq_Mod_putAt, E1 F (by omega), E2 F (by omega), zm_iald (k := 0) zM_A239 ik, zm_iald (k := 0) zM_A240 ik, ck, nI_1]
      · simp (maxDischargeDepth := 9) [zi_get_ne, zi_nl_i, zi_nl_r, zi_get_set_eq, nl]
      · simp (maxDischargeDepth := 9) [zi_get_ne, zi_nl_i, zi_nl_r, zi_get_set_eq, nl, g0]
      · simp (maxDischargeDepth := 9) [zi_get_ne, zi_nl_i, zi_nl_r, zi_get_set_eq, nl, g1]
    · rw [if_neg c2] at E2
      left
      refine ⟨zi_set L 5 (.int (nI (i + 1))), zm_mk ξ, ⟨N2, 10, fun F m hF => ?_⟩, by omega, ?_, ?_, ?_, zi_get_set_eq, _, rfl, f1, trivial⟩
      · simp (maxDischargeDepth := 9) [zg_0, zg_aload_n, zg_baload, zg_bastore, zg_bipush, zg_getfield, zg_goto, zg_iaload, zg_iastore, zg_iconst, zg_ifCond, zg_if_icmp, zg_iinc, zg_iload, zg_iload_n, zg_invokestatic, zg_invokevirtual, zg_ireturn, zg_istore, zg_ldc, zg_sipush, zf_X6_screen, zi_ld, zi_lda, zi_cmp, zi_retOk, zi_isI, zi_f3, zi_cr, zi_ci, zi_cn, zi_get_ne, zi_nl_i, zi_nl_r, zi_get_set_eq, nl, g0, g1, g5, h10, c1, cM, zq_Mod_isOnScreen, E2 F (by omega), nI_1]
      · simp (maxDischargeDepth := 9) [zi_get_ne, zi_nl_i, zi_nl_r, zi_get_set_eq, nl]
      · simp (maxDischargeDepth := 9) [zi_get_ne, zi_nl_i, zi_nl_r, zi_get_set_eq, nl, g0]
      · simp (maxDischargeDepth := 9) [zi_get_ne, zi_nl_i, zi_nl_r, zi_get_set_eq, nl, g1]
  · rintro L _ ⟨-, nl, g0, g1, g5, ξ, rfl, f1, hq⟩
    have c1 : (10 : Int32) ≤ nI 10 := by decide
    refine ⟨some (.int 0), zm_mk ξ, ⟨0, 5, fun F m hF => ?_⟩, rfl, ξ, rfl, f1⟩
    simp [zg_0, zg_aload_n, zg_baload, zg_bastore, zg_bipush, zg_getfield, zg_goto, zg_iaload, zg_iastore, zg_iconst, zg_ifCond, zg_if_icmp, zg_iinc, zg_iload, zg_iload_n, zg_invokestatic, zg_invokevirtual, zg_ireturn, zg_istore, zg_ldc, zg_sipush, zf_X6_screen, zi_ld, zi_lda, zi_cmp, zi_retOk, zi_isI, zi_f3, zi_cr, zi_ci, zi_cn, g0, g1, g5, h10, c1]
end ZWT
