/-! Tree.neighbourTo -/
section ZNB
variable {T : Nat} {μ : zm_M}
/-- the one with the longest border, the least number first -/
def zl_nb (f : Nat → Int32) : List Nat → Int32 → Int32 → Int32
  | [], b, _ => b
  | i :: l, b, m => if m < f i then zl_nb f l (nI i) (f i) else zl_nb f l b m
def zt_nf (μ : zm_M) (T k s o : Nat) : Int32 := if (¬ μ (T + 3) o < 0 ∧ μ (T + 12) (μ (T + 3) o).toNatClampNeg = nI o) ∧ zt_me μ T k o s = true then zt_cb μ T k o (1 - s / 2) else 0
theorem zl_range {n i : Nat} (h : i < n) : (List.range n).getD i 0 = i := by
  rw [List.getD_eq_getElem?_getD, List.getElem?_range h]
  rfl
theorem zl_drop10 {i : Nat} (h : i < 10) : (List.range 10).drop i = i :: (List.range 10).drop (i + 1) := by
  have := zl_drop (l := List.range 10) (i := i) (by rw [List.length_range]; exact h)
  rw [zl_range h] at this
  exact this
theorem zl_drop10' : (List.range 10).drop 10 = [] := rfl
set_option maxRecDepth 100000 in
theorem ze_Tree_neighbourTo (D : Nat) (h : zt_at T) (hm : zt_hm μ T) {k s : Nat} (hk : k < 10) (hs : s < 4) : ze_E (D + 5) A_Tree_neighbourTo [.ref (T + 1), .int (nI k), .int (nI s)] (zm_mk μ) (some (.int (zl_nb (zt_nf μ T k s) (List.range 10) (-1000000005) 0))) (zm_mk μ) := by
  have ha : s / 2 < 2 := by omega
  have h10 : (Int8.ofInt 10).toInt32 = (10 : Int32) := by decide
  have hax : (1 : Int32) - nI (s / 2) = nI (1 - s / 2) := by
    rcases (by omega : s / 2 = 0 ∨ s / 2 = 1) with e | e <;> rw [e] <;> decide
  have key : ∃ r h', ze_G (D + 4) 8 (some .int) zc_X3_neighbourTo 9 [(5, .int (nI 0)), (4, .int 0), (3, .int (-1000000005)), (0, .ref (T + 1)), (1, .int (nI k)), (2, .int (nI s))] [] (zm_mk μ) r h' ∧ (r = some (.int (zl_nb (zt_nf μ T k s) (List.range 10) (-1000000005) 0)) ∧ zm_mk μ = h') := by
    refine ze_loop (Q := fun i L hp => i ≤ 10 ∧ zi_nl L = true ∧ zi_get L 0 = some (.ref (T + 1)) ∧ zi_get L 1 = some (.int (nI k)) ∧ zi_get L 2 = some (.int (nI s)) ∧ zi_get L 5 = some (.int (nI i)) ∧ zm_mk μ = hp ∧ ∃ (b : Int32) (v : Int32), zi_get L 3 = some (.int b) ∧ zi_get L 4 = some (.int v) ∧ (zl_nb (zt_nf μ T k s) (List.range 10) (-1000000005) 0 = zl_nb (zt_nf μ T k s) ((List.range 10).drop i) b v)) (R := fun r h' => r = some (.int (zl_nb (zt_nf μ T k s) (List.range 10) (-1000000005) 0)) ∧ zm_mk μ = h') 10 ?_ ?_ 10 0 _ _ (by omega) ⟨by omega, rfl, rfl, rfl, rfl, rfl, rfl, -1000000005, 0, rfl, rfl, rfl⟩
    · rintro i L _ hi ⟨-, nl, g0, g1, g2, g5, rfl, b, v, g3, g4, hq⟩
      rw [zl_drop10 hi] at hq
      have hq' : zl_nb (zt_nf μ T k s) (List.range 10) (-1000000005) 0 = if v < zt_nf μ T k s i then zl_nb (zt_nf μ T k s) ((List.range 10).drop (i + 1)) (nI i) (zt_nf μ T k s i) else zl_nb (zt_nf μ T k s) ((List.range 10).drop (i + 1)) b v := hq
      have c1 : ¬ (10 : Int32) ≤ nI i := nI_ge (b := 10) hi (by decide)
      obtain ⟨N1, E1⟩ := ze_Tree_isShown (μ := μ) (D + 2) h hm hi
      obtain ⟨N2, E2⟩ := ze_Tree_meets (μ := μ) D h hm hk hi hs
      obtain ⟨N3, E3⟩ := ze_axisOf (h := zm_mk μ) (D + 3) hs
      obtain ⟨N4, E4⟩ := ze_Tree_commonBorder (μ := μ) (a := 1 - s / 2) D h hm hk hi (by omega)
      obtain ⟨lc, hc⟩ := zt_c (μ := μ) h
      by_cases c2 : ¬ μ (T + 3) i < 0 ∧ μ (T + 12) (μ (T + 3) i).toNatClampNeg = nI i
      · have z1 : zb (¬ μ (T + 3) i < 0 ∧ μ (T + 12) (μ (T + 3) i).toNatClampNeg = nI i) = 1 := if_pos c2
        rw [z1] at E1
        by_cases c3 : zt_me μ T k i s = true
        · have z2 : zb (zt_me μ T k i s = true) = 1 := if_pos c3
          rw [z2] at E2
          have ef : zt_nf μ T k s i = zt_cb μ T k i (1 - s / 2) := if_pos ⟨c2, c3⟩
          rw [ef] at hq'
          by_cases c4 : v < zt_cb μ T k i (1 - s / 2)
          · rw [if_pos c4] at hq'
            have c4' : ¬ zt_cb μ T k i (1 - s / 2) ≤ v := Int32.not_le.mpr c4
            left
            refine ⟨zi_set (zi_set (zi_set (zi_set (zi_set L 6 (.int 1)) 7 (.int (zt_cb μ T k i (1 - s / 2)))) 3 (.int (nI i))) 4 (.int (zt_cb μ T k i (1 - s / 2)))) 5 (.int (nI (i + 1))), zm_mk μ, ⟨N1 + N2 + N3 + N4, 37, fun F m hF => ?_⟩, by omega, ?_, ?_, ?_, ?_, zi_get_set_eq, rfl, nI i, zt_cb μ T k i (1 - s / 2), ?_, ?_, hq'⟩
            · simp (maxDischargeDepth := 9) [zg_0, zg_aload_n, zg_bipush, zg_goto, zg_iconst, zg_ifCond, zg_if_icmp, zg_iinc, zg_iload, zg_iload_n, zg_invokestatic, zg_invokevirtual, zg_ireturn, zg_istore, zg_istore_n, zg_isub, zg_ldc, zf_X3_neighbourTo, zi_ld, zi_lda, zi_cmp, zi_retOk, zi_isI, zi_f3, zi_cr, zi_ci, zi_cn, zi_get_ne, zi_nl_i, zi_nl_r, zi_get_set_eq, nl, g0, g1, g2, g5, g3, g4, h10, c1, zq_Tree_isShown, zq_Tree_meets, zq_Desk_axisOf, zq_Tree_commonBorder, hc, E1 F (by omega), E2 F (by omega), E3 F (by omega), hax, E4 F (by omega), c4', nI_1]
            · simp (maxDischargeDepth := 9) [zi_get_ne, zi_nl_i, zi_nl_r, zi_get_set_eq, nl]
            · simp (maxDischargeDepth := 9) [zi_get_ne, zi_nl_i, zi_nl_r, zi_get_set_eq, nl, g0]
            · simp (maxDischargeDepth := 9) [zi_get_ne, zi_nl_i, zi_nl_r, zi_get_set_eq, nl, g1]
            · simp (maxDischargeDepth := 9) [zi_get_ne, zi_nl_i, zi_nl_r, zi_get_set_eq, nl, g2]
            · simp (maxDischargeDepth := 9) [zi_get_ne, zi_nl_i, zi_nl_r, zi_get_set_eq, nl, g3]
            · simp (maxDischargeDepth := 9) [zi_get_ne, zi_nl_i, zi_nl_r, zi_get_set_eq, nl, g4]
          · rw [if_neg c4] at hq'
            have c4' : zt_cb μ T k i (1 - s / 2) ≤ v := Int32.not_lt.mp c4
            left
            refine ⟨zi_set (zi_set (zi_set L 6 (.int 1)) 7 (.int (zt_cb μ T k i (1 - s / 2)))) 5 (.int (nI (i + 1))), zm_mk μ, ⟨N1 + N2 + N3 + N4, 33, fun F m hF => ?_⟩, by omega, ?_, ?_, ?_, ?_, zi_get_set_eq, rfl, b, v, ?_, ?_, hq'⟩
            · simp (maxDischargeDepth := 9) [zg_0, zg_aload_n, zg_bipush, zg_goto, zg_iconst, zg_ifCond, zg_if_icmp, zg_iinc, zg_iload, zg_iload_n, zg_invokestatic, zg_invokevirtual, zg_ireturn, zg_istore, zg_istore_n, zg_isub, zg_ldc, zf_X3_neighbourTo, zi_ld, zi_lda, zi_cmp, zi_retOk, zi_isI, zi_f3, zi_cr, zi_ci, zi_cn, zi_get_ne, zi_nl_i, zi_nl_r, zi_get_set_eq, nl, g0, g1, g2, g5, g3, g4, h10, c1, zq_Tree_isShown, zq_Tree_meets, zq_Desk_axisOf, zq_Tree_commonBorder, hc, E1 F (by omega), E2 F (by omega), E3 F (by omega), hax, E4 F (by omega), c4', nI_1]
            · simp (maxDischargeDepth := 9) [zi_get_ne, zi_nl_i, zi_nl_r, zi_get_set_eq, nl]
            · simp (maxDischargeDepth := 9) [zi_get_ne, zi_nl_i, zi_nl_r, zi_get_set_eq, nl, g0]
            · simp (maxDischargeDepth := 9) [zi_get_ne, zi_nl_i, zi_nl_r, zi_get_set_eq, nl, g1]
            · simp (maxDischargeDepth := 9) [zi_get_ne, zi_nl_i, zi_nl_r, zi_get_set_eq, nl, g2]
            · simp (maxDischargeDepth := 9) [zi_get_ne, zi_nl_i, zi_nl_r, zi_get_set_eq, nl, g3]
            · simp (maxDischargeDepth := 9) [zi_get_ne, zi_nl_i, zi_nl_r, zi_get_set_eq, nl, g4]
        · have z2 : zb (zt_me μ T k i s = true) = 0 := if_neg c3
          rw [z2] at E2
          have ef : zt_nf μ T k s i = 0 := if_neg (fun q => c3 q.2)
          rw [ef] at hq'
          by_cases c4 : v < 0
          · rw [if_pos c4] at hq'
            have c4' : ¬ (0 : Int32) ≤ v := Int32.not_le.mpr c4
            left
            refine ⟨zi_set (zi_set (zi_set (zi_set (zi_set L 6 (.int 0)) 7 (.int 0)) 3 (.int (nI i))) 4 (.int 0)) 5 (.int (nI (i + 1))), zm_mk μ, ⟨N1 + N2 + N3 + N4, 28, fun F m hF => ?_⟩, by omega, ?_, ?_, ?_, ?_, zi_get_set_eq, rfl, nI i, 0, ?_, ?_, hq'⟩
            · simp (maxDischargeDepth := 9) [zg_0, zg_aload_n, zg_bipush, zg_goto, zg_iconst, zg_ifCond, zg_if_icmp, zg_iinc, zg_iload, zg_iload_n, zg_invokestatic, zg_invokevirtual, zg_ireturn, zg_istore, zg_istore_n, zg_isub, zg_ldc, zf_X3_neighbourTo, zi_ld, zi_lda, zi_cmp, zi_retOk, zi_isI, zi_f3, zi_cr, zi_ci, zi_cn, zi_get_ne, zi_nl_i, zi_nl_r, zi_get_set_eq, nl, g0, g1, g2, g5, g3, g4, h10, c1, zq_Tree_isShown, zq_Tree_meets, hc, E1 F (by omega), E2 F (by omega), c4', nI_1]
            · simp (maxDischargeDepth := 9) [zi_get_ne, zi_nl_i, zi_nl_r, zi_get_set_eq, nl]
            · simp (maxDischargeDepth := 9) [zi_get_ne, zi_nl_i, zi_nl_r, zi_get_set_eq, nl, g0]
            · simp (maxDischargeDepth := 9) [zi_get_ne, zi_nl_i, zi_nl_r, zi_get_set_eq, nl, g1]
            · simp (maxDischargeDepth := 9) [zi_get_ne, zi_nl_i, zi_nl_r, zi_get_set_eq, nl, g2]
            · simp (maxDischargeDepth := 9) [zi_get_ne, zi_nl_i, zi_nl_r, zi_get_set_eq, nl, g3]
            · simp (maxDischargeDepth := 9) [zi_get_ne, zi_nl_i, zi_nl_r, zi_get_set_eq, nl, g4]
          · rw [if_neg c4] at hq'
            have c4' : (0 : Int32) ≤ v := Int32.not_lt.mp c4
            left
            refine ⟨zi_set (zi_set (zi_set L 6 (.int 0)) 7 (.int 0)) 5 (.int (nI (i + 1))), zm_mk μ, ⟨N1 + N2 + N3 + N4, 24, fun F m hF => ?_⟩, by omega, ?_, ?_, ?_, ?_, zi_get_set_eq, rfl, b, v, ?_, ?_, hq'⟩
            · simp (maxDischargeDepth := 9) [zg_0, zg_aload_n, zg_bipush, zg_goto, zg_iconst, zg_ifCond, zg_if_icmp, zg_iinc, zg_iload, zg_iload_n, zg_invokestatic, zg_invokevirtual, zg_ireturn, zg_istore, zg_istore_n, zg_isub, zg_ldc, zf_X3_neighbourTo, zi_ld, zi_lda, zi_cmp, zi_retOk, zi_isI, zi_f3, zi_cr, zi_ci, zi_cn, zi_get_ne, zi_nl_i, zi_nl_r, zi_get_set_eq, nl, g0, g1, g2, g5, g3, g4, h10, c1, zq_Tree_isShown, zq_Tree_meets, hc, E1 F (by omega), E2 F (by omega), c4', nI_1]
            · simp (maxDischargeDepth := 9) [zi_get_ne, zi_nl_i, zi_nl_r, zi_get_set_eq, nl]
            · simp (maxDischargeDepth := 9) [zi_get_ne, zi_nl_i, zi_nl_r, zi_get_set_eq, nl, g0]
            · simp (maxDischargeDepth := 9) [zi_get_ne, zi_nl_i, zi_nl_r, zi_get_set_eq, nl, g1]
            · simp (maxDischargeDepth := 9) [zi_get_ne, zi_nl_i, zi_nl_r, zi_get_set_eq, nl, g2]
            · simp (maxDischargeDepth := 9) [zi_get_ne, zi_nl_i, zi_nl_r, zi_get_set_eq, nl, g3]
            · simp (maxDischargeDepth := 9) [zi_get_ne, zi_nl_i, zi_nl_r, zi_get_set_eq, nl, g4]
      · have z1 : zb (¬ μ (T + 3) i < 0 ∧ μ (T + 12) (μ (T + 3) i).toNatClampNeg = nI i) = 0 := if_neg c2
        rw [z1] at E1
        have ef : zt_nf μ T k s i = 0 := if_neg (fun q => c2 q.1)
        rw [ef] at hq'
        by_cases c4 : v < 0
        · rw [if_pos c4] at hq'
          have c4' : ¬ (0 : Int32) ≤ v := Int32.not_le.mpr c4
          left
          refine ⟨zi_set (zi_set (zi_set (zi_set (zi_set L 6 (.int 0)) 7 (.int 0)) 3 (.int (nI i))) 4 (.int 0)) 5 (.int (nI (i + 1))), zm_mk μ, ⟨N1 + N2 + N3 + N4, 22, fun F m hF => ?_⟩, by omega, ?_, ?_, ?_, ?_, zi_get_set_eq, rfl, nI i, 0, ?_, ?_, hq'⟩
          · simp (maxDischargeDepth := 9) [zg_0, zg_aload_n, zg_bipush, zg_goto, zg_iconst, zg_ifCond, zg_if_icmp, zg_iinc, zg_iload, zg_iload_n, zg_invokestatic, zg_invokevirtual, zg_ireturn, zg_istore, zg_istore_n, zg_isub, zg_ldc, zf_X3_neighbourTo, zi_ld, zi_lda, zi_cmp, zi_retOk, zi_isI, zi_f3, zi_cr, zi_ci, zi_cn, zi_get_ne, zi_nl_i, zi_nl_r, zi_get_set_eq, nl, g0, g1, g2, g5, g3, g4, h10, c1, zq_Tree_isShown, hc, E1 F (by omega), c4', nI_1]
          · simp (maxDischargeDepth := 9) [zi_get_ne, zi_nl_i, zi_nl_r, zi_get_set_eq, nl]
          · simp (maxDischargeDepth := 9) [zi_get_ne, zi_nl_i, zi_nl_r, zi_get_set_eq, nl, g0]
          · simp (maxDischargeDepth := 9) [zi_get_ne, zi_nl_i, zi_nl_r, zi_get_set_eq, nl, g1]
          · simp (maxDischargeDepth := 9) [zi_get_ne, zi_nl_i, zi_nl_r, zi_get_set_eq, nl, g2]
          · simp (maxDischargeDepth := 9) [zi_get_ne, zi_nl_i, zi_nl_r, zi_get_set_eq, nl, g3]
          · simp (maxDischargeDepth := 9) [zi_get_ne, zi_nl_i, zi_nl_r, zi_get_set_eq, nl, g4]
        · rw [if_neg c4] at hq'
          have c4' : (0 : Int32) ≤ v := Int32.not_lt.mp c4
          left
          refine ⟨zi_set (zi_set (zi_set L 6 (.int 0)) 7 (.int 0)) 5 (.int (nI (i + 1))), zm_mk μ, ⟨N1 + N2 + N3 + N4, 18, fun F m hF => ?_⟩, by omega, ?_, ?_, ?_, ?_, zi_get_set_eq, rfl, b, v, ?_, ?_, hq'⟩
          · simp (maxDischargeDepth := 9) [zg_0, zg_aload_n, zg_bipush, zg_goto, zg_iconst, zg_ifCond, zg_if_icmp, zg_iinc, zg_iload, zg_iload_n, zg_invokestatic, zg_invokevirtual, zg_ireturn, zg_istore, zg_istore_n, zg_isub, zg_ldc, zf_X3_neighbourTo, zi_ld, zi_lda, zi_cmp, zi_retOk, zi_isI, zi_f3, zi_cr, zi_ci, zi_cn, zi_get_ne, zi_nl_i, zi_nl_r, zi_get_set_eq, nl, g0, g1, g2, g5, g3, g4, h10, c1, zq_Tree_isShown, hc, E1 F (by omega), c4', nI_1]
          · simp (maxDischargeDepth := 9) [zi_get_ne, zi_nl_i, zi_nl_r, zi_get_set_eq, nl]
          · simp (maxDischargeDepth := 9) [zi_get_ne, zi_nl_i, zi_nl_r, zi_get_set_eq, nl, g0]
          · simp (maxDischargeDepth := 9) [zi_get_ne, zi_nl_i, zi_nl_r, zi_get_set_eq, nl, g1]
          · simp (maxDischargeDepth := 9) [zi_get_ne, zi_nl_i, zi_nl_r, zi_get_set_eq, nl, g2]
          · simp (maxDischargeDepth := 9) [zi_get_ne, zi_nl_i, zi_nl_r, zi_get_set_eq, nl, g3]
          · simp (maxDischargeDepth := 9) [zi_get_ne, zi_nl_i, zi_nl_r, zi_get_set_eq, nl, g4]
    · rintro L _ ⟨-, nl, g0, g1, g2, g5, rfl, b, v, g3, g4, hq⟩
      rw [zl_drop10'] at hq
      have hq : zl_nb (zt_nf μ T k s) (List.range 10) (-1000000005) 0 = b := hq
      rw [hq]
      have c1 : (10 : Int32) ≤ nI 10 := by decide
      refine ⟨_, zm_mk μ, ⟨0, 5, fun F m hF => ?_⟩, rfl, rfl⟩
      simp [zg_0, zg_aload_n, zg_bipush, zg_goto, zg_iconst, zg_ifCond, zg_if_icmp, zg_iinc, zg_iload, zg_iload_n, zg_invokestatic, zg_invokevirtual, zg_ireturn, zg_istore, zg_istore_n, zg_isub, zg_ldc, zf_X3_neighbourTo, zi_ld, zi_lda, zi_cmp, zi_retOk, zi_isI, zi_f3, zi_cr, zi_ci, zi_cn, g0, g3, g5, h10, c1]
  obtain ⟨r, h', G, rfl, rfl⟩ := key
  refine ze_in [(0, .ref (T + 1)), (1, .int (nI k)), (2, .int (nI s))] zq_Tree_neighbourTo (Nat.le_of_ble_eq_true rfl) rfl (ze_S.end ⟨0, 6, fun F m hF => ?_⟩ G)
  simp [zg_0, zg_aload_n, zg_bipush, zg_goto, zg_iconst, zg_ifCond, zg_if_icmp, zg_iinc, zg_iload, zg_iload_n, zg_invokestatic, zg_invokevirtual, zg_ireturn, zg_istore, zg_istore_n, zg_isub, zg_ldc, zf_X3_neighbourTo, zi_ld, zi_lda, zi_cmp, zi_retOk, zi_isI, zi_f3, zi_cr, zi_ci, zi_cn, zi_get, zi_set, nI_0]
end ZNB
