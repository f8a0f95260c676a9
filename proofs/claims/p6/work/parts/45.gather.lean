/-! the desk: dialogs gathered -/
section ZG2
variable {μ : zm_M}
theorem zd_dl_of {ν : zm_M} (f : ∀ c, c ≠ 31 → ν c = μ c) (k : Nat) : zd_th ν k = zd_th μ k ∧ ν (zdW k) = μ (zdW k) := by
  have : ∀ k, ν (zdW k) = μ (zdW k) := fun k => f _ (by unfold zdW; omega)
  refine ⟨?_, this k⟩
  unfold zd_th
  rw [this]
set_option maxRecDepth 100000 in
theorem ze_gatherDialogs (D : Nat) {g : Nat → Bool} (hg : zd_gr μ g) : ∃ ν, ze_E (D + 2) A_Desk_gatherDialogs [.ref 1] (zm_mk μ) none (zm_mk ν) ∧ (∀ c, c ≠ 31 → ν c = μ c) ∧ zd_gr ν (zl_spn (zd_dl μ) (zd_ow μ) g 10) := by
  have h10 : (Int8.ofInt 10).toInt32 = (10 : Int32) := by decide
  have key : ∃ r h', ze_G (D + 1) 3 none zc_X5_gatherDialogs 2 [(1, .int (nI 0)), (0, .ref 1)] [] (zm_mk μ) r h' ∧ (r = none ∧ ∃ ν, zm_mk ν = h' ∧ (∀ c, c ≠ 31 → ν c = μ c) ∧ zd_gr ν (zl_spn (zd_dl μ) (zd_ow μ) g 10)) := by
    refine ze_loop (Q := fun i L hp => i ≤ 10 ∧ zi_nl L = true ∧ zi_get L 0 = some (.ref 1) ∧ zi_get L 1 = some (.int (nI i)) ∧ ∃ ν : zm_M, zm_mk ν = hp ∧ (∀ c, c ≠ 31 → ν c = μ c) ∧ zd_gr ν (zl_spn (zd_dl μ) (zd_ow μ) g i)) (R := fun r h' => r = none ∧ ∃ ν, zm_mk ν = h' ∧ (∀ c, c ≠ 31 → ν c = μ c) ∧ zd_gr ν (zl_spn (zd_dl μ) (zd_ow μ) g 10)) 10 ?_ ?_ 10 0 _ _ (by omega) ⟨by omega, rfl, rfl, rfl, μ, rfl, fun _ _ => rfl, hg⟩
    · rintro i0 L _ hi0 ⟨-, nl, g0, g1, ν, rfl, f, hA⟩
      left
      generalize hG : zl_spn (zd_dl μ) (zd_ow μ) g i0 = G at hA
      have hG1 : zl_spn (zd_dl μ) (zd_ow μ) g (i0 + 1) = zl_sp1 (zd_dl μ) (zd_ow μ) G 10 := by rw [← hG]; rfl
      have inner : ∃ L' h', ze_S (D + 1) 3 none zc_X5_gatherDialogs 10 (zi_set L 2 (.int (nI 0))) [] (zm_mk ν) 70 L' [] h' ∧ (zi_nl L' = true ∧ zi_get L' 0 = some (.ref 1) ∧ zi_get L' 1 = some (.int (nI i0)) ∧ ∃ ξ : zm_M, zm_mk ξ = h' ∧ (∀ c, c ≠ 31 → ξ c = μ c) ∧ zd_gr ξ (zl_sp1 (zd_dl μ) (zd_ow μ) G 10)) := by
        have z0 : zi_nl (zi_set L 2 (.int (nI 0))) = true := by simp (maxDischargeDepth := 9) [zi_get_ne, zi_nl_i, zi_nl_r, zi_get_set_eq, nl]
        have z1 : zi_get (zi_set L 2 (.int (nI 0))) 0 = some (.ref 1) := by simp (maxDischargeDepth := 9) [zi_get_ne, zi_nl_i, zi_nl_r, zi_get_set_eq, nl, g0]
        have z2 : zi_get (zi_set L 2 (.int (nI 0))) 1 = some (.int (nI i0)) := by simp (maxDischargeDepth := 9) [zi_get_ne, zi_nl_i, zi_nl_r, zi_get_set_eq, nl, g1]
        have z3 : zi_get (zi_set L 2 (.int (nI 0))) 2 = some (.int (nI 0)) := zi_get_set_eq
        generalize zi_set L 2 (.int (nI 0)) = L0 at z0 z1 z2 z3
        refine ze_loopS (Q := fun i L hp => i ≤ 10 ∧ zi_nl L = true ∧ zi_get L 0 = some (.ref 1) ∧ zi_get L 1 = some (.int (nI i0)) ∧ zi_get L 2 = some (.int (nI i)) ∧ ∃ ξ : zm_M, zm_mk ξ = hp ∧ (∀ c, c ≠ 31 → ξ c = μ c) ∧ (zd_gr ξ (zl_sp1 (zd_dl μ) (zd_ow μ) G i)) ∧ (True)) (R := fun L' h' => zi_nl L' = true ∧ zi_get L' 0 = some (.ref 1) ∧ zi_get L' 1 = some (.int (nI i0)) ∧ ∃ ξ : zm_M, zm_mk ξ = h' ∧ (∀ c, c ≠ 31 → ξ c = μ c) ∧ zd_gr ξ (zl_sp1 (zd_dl μ) (zd_ow μ) G 10)) 10 ?_ ?_ 10 0 _ _ (by omega) ⟨by omega, z0, z1, z2, z3, ν, rfl, f, hA, trivial⟩
        · rintro i L _ hi ⟨-, nl, g0, g1, g2, ξ, rfl, f', hB, hq⟩
          have c1 : ¬ (10 : Int32) ≤ nI i := nI_ge (b := 10) hi (by decide)
          have i1 : zi_in (nI i) 10 = true := zm_in hi (by decide)
          have e1 : (nI i).toNatClampNeg = i := nI_clamp (by omega)
          obtain ⟨w1, w2⟩ := zd_dl_of f' i
          obtain ⟨N1, E1⟩ := ze_thW (μ := ξ) D hi
          rw [w1] at E1
          have hno : zd_dl μ i = false → zd_gr ξ (zl_sp1 (zd_dl μ) (zd_ow μ) G (i + 1)) := by
            intro hd k hk
            rw [hB k hk]
            show _ = if (if k = i then zl_sp1 (zd_dl μ) (zd_ow μ) G i i || (zd_dl μ i && zl_sp1 (zd_dl μ) (zd_ow μ) G i (zd_ow μ i)) else zl_sp1 (zd_dl μ) (zd_ow μ) G i k) = true then _ else _
            by_cases e : k = i
            · subst e
              rw [if_pos rfl, hd, Bool.false_and, Bool.or_false]
            · rw [if_neg e]
          by_cases c2 : zd_th μ i = true
          · rw [if_pos c2] at E1
            have c2' : ¬ μ (zdW i) 2 = 0 := of_decide_eq_true c2
            rcases zd_rng (μ (zdW i) 4) 10 (by decide) with ⟨o, ho, eo⟩ | hout
            · obtain ⟨u1, u2⟩ := zd_dl_of f' o
              obtain ⟨N2, E2⟩ := ze_thW (μ := ξ) D ho
              rw [u1] at E2
              have io : zi_in (nI o) 10 = true := zm_in ho (by decide)
              have co : (nI o).toNatClampNeg = o := nI_clamp (by omega)
              have eow : zd_ow μ i = o := by unfold zd_ow; rw [eo, co]
              have x4 : ξ (zdW i) 4 = nI o := by rw [w2]; exact eo
              by_cases c3 : zd_th μ o = true
              · rw [if_pos c3] at E2
                have hd : zd_dl μ i = true := decide_eq_true ⟨c2', ⟨by rw [eo]; exact nI_pos (by omega), by rw [eo]; exact nI_ge (b := 10) ho (by decide)⟩, by rw [eow]; exact of_decide_eq_true c3⟩
                have hbo := hB o ho
                by_cases c4 : zl_sp1 (zd_dl μ) (zd_ow μ) G i o = true
                · rw [if_pos c4] at hbo
                  have hyes : zd_gr (zm_up ξ 31 i 1) (zl_sp1 (zd_dl μ) (zd_ow μ) G (i + 1)) := by
                    intro k hk
                    rw [zm_up_pt]
                    show _ = if (if k = i then zl_sp1 (zd_dl μ) (zd_ow μ) G i i || (zd_dl μ i && zl_sp1 (zd_dl μ) (zd_ow μ) G i (zd_ow μ i)) else zl_sp1 (zd_dl μ) (zd_ow μ) G i k) = true then _ else _
                    by_cases e : k = i
                    · subst e
                      rw [if_pos rfl, if_pos rfl, hd, eow, c4, Bool.true_and, Bool.or_true, if_pos rfl]
                    · rw [if_neg e, if_neg e]
                      exact hB k hk
                  refine ⟨zi_set L 2 (.int (nI (i + 1))), zm_mk (zm_up ξ 31 i 1), ⟨N1 + N2, 31, fun F m hF => ?_⟩, by omega, ?_, ?_, ?_, zi_get_set_eq, _, rfl, (fun c hc => (zm_up_row hc).trans (f' c hc)), hyes, trivial⟩
                  · simp (maxDischargeDepth := 9) [zg_0, zg_aaload, zg_aload_n, zg_baload, zg_bastore, zg_bipush, zg_getfield, zg_goto, zg_iconst, zg_ifCond, zg_if_icmp, zg_iinc, zg_iload_n, zg_invokevirtual, zg_istore_n, zg_return, zf_X5_gatherDialogs, zi_ld, zi_lda, zi_cmp, zi_retOk, zi_isI, zi_f3, zi_cr, zi_ci, zi_cn, zi_get_ne, zi_nl_i, zi_nl_r, zi_get_set_eq, nl, g0, g1, g2, h10, c1, zd_g, zd_w hi, zw_g (zdW_at hi), zq_Desk_isWindow, zd_c, x4, E1 F (by omega), E2 F (by omega), zm_bald zd31_A io, co, hbo, zm_bast zd31_A i1 (Or.inr rfl), e1, nI_1]
                  · simp (maxDischargeDepth := 9) [zi_get_ne, zi_nl_i, zi_nl_r, zi_get_set_eq, nl]
                  · simp (maxDischargeDepth := 9) [zi_get_ne, zi_nl_i, zi_nl_r, zi_get_set_eq, nl, g0]
                  · simp (maxDischargeDepth := 9) [zi_get_ne, zi_nl_i, zi_nl_r, zi_get_set_eq, nl, g1]
                · rw [if_neg c4] at hbo
                  have hno' : zd_gr ξ (zl_sp1 (zd_dl μ) (zd_ow μ) G (i + 1)) := by
                    intro k hk
                    rw [hB k hk]
                    show _ = if (if k = i then zl_sp1 (zd_dl μ) (zd_ow μ) G i i || (zd_dl μ i && zl_sp1 (zd_dl μ) (zd_ow μ) G i (zd_ow μ i)) else zl_sp1 (zd_dl μ) (zd_ow μ) G i k) = true then _ else _
                    have c4' : zl_sp1 (zd_dl μ) (zd_ow μ) G i o = false := by simpa using c4
                    by_cases e : k = i
                    · subst e
                      rw [if_pos rfl, eow, c4', Bool.and_false, Bool.or_false]
                    · rw [if_neg e]
                  refine ⟨zi_set L 2 (.int (nI (i + 1))), zm_mk ξ, ⟨N1 + N2, 26, fun F m hF => ?_⟩, by omega, ?_, ?_, ?_, zi_get_set_eq, ξ, rfl, f', hno', trivial⟩
                  · simp (maxDischargeDepth := 9) [zg_0, zg_aaload, zg_aload_n, zg_baload, zg_bastore, zg_bipush, zg_getfield, zg_goto, zg_iconst, zg_ifCond, zg_if_icmp, zg_iinc, zg_iload_n, zg_invokevirtual, zg_istore_n, zg_return, zf_X5_gatherDialogs, zi_ld, zi_lda, zi_cmp, zi_retOk, zi_isI, zi_f3, zi_cr, zi_ci, zi_cn, zi_get_ne, zi_nl_i, zi_nl_r, zi_get_set_eq, nl, g0, g1, g2, h10, c1, zd_g, zd_w hi, zw_g (zdW_at hi), zq_Desk_isWindow, zd_c, x4, E1 F (by omega), E2 F (by omega), zm_bald zd31_A io, co, hbo, nI_1]
                  · simp (maxDischargeDepth := 9) [zi_get_ne, zi_nl_i, zi_nl_r, zi_get_set_eq, nl]
                  · simp (maxDischargeDepth := 9) [zi_get_ne, zi_nl_i, zi_nl_r, zi_get_set_eq, nl, g0]
                  · simp (maxDischargeDepth := 9) [zi_get_ne, zi_nl_i, zi_nl_r, zi_get_set_eq, nl, g1]
              · rw [if_neg c3] at E2
                have hd : zd_dl μ i = false := decide_eq_false (fun q => c3 (decide_eq_true (by have := q.2.2; rw [eow] at this; exact this)))
                refine ⟨zi_set L 2 (.int (nI (i + 1))), zm_mk ξ, ⟨N1 + N2, 17, fun F m hF => ?_⟩, by omega, ?_, ?_, ?_, zi_get_set_eq, ξ, rfl, f', hno hd, trivial⟩
                · simp (maxDischargeDepth := 9) [zg_0, zg_aaload, zg_aload_n, zg_baload, zg_bastore, zg_bipush, zg_getfield, zg_goto, zg_iconst, zg_ifCond, zg_if_icmp, zg_iinc, zg_iload_n, zg_invokevirtual, zg_istore_n, zg_return, zf_X5_gatherDialogs, zi_ld, zi_lda, zi_cmp, zi_retOk, zi_isI, zi_f3, zi_cr, zi_ci, zi_cn, zi_get_ne, zi_nl_i, zi_nl_r, zi_get_set_eq, nl, g0, g1, g2, h10, c1, zd_g, zd_w hi, zw_g (zdW_at hi), zq_Desk_isWindow, zd_c, x4, E1 F (by omega), E2 F (by omega), nI_1]
                · simp (maxDischargeDepth := 9) [zi_get_ne, zi_nl_i, zi_nl_r, zi_get_set_eq, nl]
                · simp (maxDischargeDepth := 9) [zi_get_ne, zi_nl_i, zi_nl_r, zi_get_set_eq, nl, g0]
                · simp (maxDischargeDepth := 9) [zi_get_ne, zi_nl_i, zi_nl_r, zi_get_set_eq, nl, g1]
            · have hd : zd_dl μ i = false := decide_eq_false (fun q => hout.elim q.2.1.1 q.2.1.2)
              have hout' : ξ (zdW i) 4 < 0 ∨ (10 : Int32) ≤ ξ (zdW i) 4 := by rw [w2]; exact hout
              obtain ⟨N2, E2⟩ := ze_isWindow_out (μ := ξ) D hout'
              refine ⟨zi_set L 2 (.int (nI (i + 1))), zm_mk ξ, ⟨N1 + N2, 17, fun F m hF => ?_⟩, by omega, ?_, ?_, ?_, zi_get_set_eq, ξ, rfl, f', hno hd, trivial⟩
              · simp (maxDischargeDepth := 9) [zg_0, zg_aaload, zg_aload_n, zg_baload, zg_bastore, zg_bipush, zg_getfield, zg_goto, zg_iconst, zg_ifCond, zg_if_icmp, zg_iinc, zg_iload_n, zg_invokevirtual, zg_istore_n, zg_return, zf_X5_gatherDialogs, zi_ld, zi_lda, zi_cmp, zi_retOk, zi_isI, zi_f3, zi_cr, zi_ci, zi_cn, zi_get_ne, zi_nl_i, zi_nl_r, zi_get_set_eq, nl, g0, g1, g2, h10, c1, zd_g, zd_w hi, zw_g (zdW_at hi), zq_Desk_isWindow, zd_c, E1 F (by omega), E2 F (by omega), nI_1]
              · simp (maxDischargeDepth := 9) [zi_get_ne, zi_nl_i, zi_nl_r, zi_get_set_eq, nl]
              · simp (maxDischargeDepth := 9) [zi_get_ne, zi_nl_i, zi_nl_r, zi_get_set_eq, nl, g0]
              · simp (maxDischargeDepth := 9) [zi_get_ne, zi_nl_i, zi_nl_r, zi_get_set_eq, nl, g1]
          · rw [if_neg c2] at E1
            have N2 : Nat := 0
            have hd : zd_dl μ i = false := decide_eq_false (fun q => c2 (decide_eq_true q.1))
            refine ⟨zi_set L 2 (.int (nI (i + 1))), zm_mk ξ, ⟨N1 + N2, 9, fun F m hF => ?_⟩, by omega, ?_, ?_, ?_, zi_get_set_eq, ξ, rfl, f', hno hd, trivial⟩
            · simp (maxDischargeDepth := 9) [zg_0, zg_aaload, zg_aload_n, zg_baload, zg_bastore, zg_bipush, zg_getfield, zg_goto, zg_iconst, zg_ifCond, zg_if_icmp, zg_iinc, zg_iload_n, zg_invokevirtual, zg_istore_n, zg_return, zf_X5_gatherDialogs, zi_ld, zi_lda, zi_cmp, zi_retOk, zi_isI, zi_f3, zi_cr, zi_ci, zi_cn, zi_get_ne, zi_nl_i, zi_nl_r, zi_get_set_eq, nl, g0, g1, g2, h10, c1, zq_Desk_isWindow, zd_c, E1 F (by omega), nI_1]
            · simp (maxDischargeDepth := 9) [zi_get_ne, zi_nl_i, zi_nl_r, zi_get_set_eq, nl]
            · simp (maxDischargeDepth := 9) [zi_get_ne, zi_nl_i, zi_nl_r, zi_get_set_eq, nl, g0]
            · simp (maxDischargeDepth := 9) [zi_get_ne, zi_nl_i, zi_nl_r, zi_get_set_eq, nl, g1]
        · rintro L _ ⟨-, nl, g0, g1, g2, ξ, rfl, f', hB, hq⟩
          have c1 : (10 : Int32) ≤ nI 10 := by decide
          refine ⟨L, zm_mk ξ, ⟨0, 3, fun F m hF => ?_⟩, nl, g0, g1, ξ, rfl, f', hB⟩
          simp [zg_0, zg_aaload, zg_aload_n, zg_baload, zg_bastore, zg_bipush, zg_getfield, zg_goto, zg_iconst, zg_ifCond, zg_if_icmp, zg_iinc, zg_iload_n, zg_invokevirtual, zg_istore_n, zg_return, zf_X5_gatherDialogs, zi_ld, zi_lda, zi_cmp, zi_retOk, zi_isI, zi_f3, zi_cr, zi_ci, zi_cn, g2, h10, c1]
      obtain ⟨L', h', S1, nl', g0', g1', ξ, rfl, f', hB⟩ := inner
      have c1 : ¬ (10 : Int32) ≤ nI i0 := nI_ge (b := 10) hi0 (by decide)
      refine ⟨zi_set L' 1 (.int (nI (i0 + 1))), zm_mk ξ, ?_, by omega, ?_, ?_, zi_get_set_eq, ξ, rfl, f', by rw [hG1]; exact hB⟩
      · refine ze_S.trans (p2 := 10) (L2 := zi_set L 2 (.int (nI 0))) (s2 := []) (h2 := zm_mk ν) ⟨0, 5, fun F m hF => ?_⟩ (S1.trans ⟨0, 2, fun F m hF => ?_⟩)
        · simp (maxDischargeDepth := 9) [zg_0, zg_aaload, zg_aload_n, zg_baload, zg_bastore, zg_bipush, zg_getfield, zg_goto, zg_iconst, zg_ifCond, zg_if_icmp, zg_iinc, zg_iload_n, zg_invokevirtual, zg_istore_n, zg_return, zf_X5_gatherDialogs, zi_ld, zi_lda, zi_cmp, zi_retOk, zi_isI, zi_f3, zi_cr, zi_ci, zi_cn, zi_get_ne, zi_nl_i, zi_nl_r, zi_get_set_eq, nl, g0, g1, h10, c1, nI_0]
        · simp [zg_0, zg_aaload, zg_aload_n, zg_baload, zg_bastore, zg_bipush, zg_getfield, zg_goto, zg_iconst, zg_ifCond, zg_if_icmp, zg_iinc, zg_iload_n, zg_invokevirtual, zg_istore_n, zg_return, zf_X5_gatherDialogs, zi_ld, zi_lda, zi_cmp, zi_retOk, zi_isI, zi_f3, zi_cr, zi_ci, zi_cn, g1', nI_1]
      · have nl := nl'
        simp (maxDischargeDepth := 9) [zi_get_ne, zi_nl_i, zi_nl_r, zi_get_set_eq, nl]
      · have nl := nl'
        simp (maxDischargeDepth := 9) [zi_get_ne, zi_nl_i, zi_nl_r, zi_get_set_eq, nl, g0']
    · rintro L _ ⟨-, nl, g0, g1, ν, rfl, f, hA⟩
      have c1 : (10 : Int32) ≤ nI 10 := by decide
      refine ⟨none, zm_mk ν, ⟨0, 4, fun F m hF => ?_⟩, rfl, ν, rfl, f, hA⟩
      simp [zg_0, zg_aaload, zg_aload_n, zg_baload, zg_bastore, zg_bipush, zg_getfield, zg_goto, zg_iconst, zg_ifCond, zg_if_icmp, zg_iinc, zg_iload_n, zg_invokevirtual, zg_istore_n, zg_return, zf_X5_gatherDialogs, zi_ld, zi_lda, zi_cmp, zi_retOk, zi_isI, zi_f3, zi_cr, zi_ci, zi_cn, g1, h10, c1]
  obtain ⟨r, h', G, rfl, ν, rfl, f, hA⟩ := key
  refine ⟨ν, ze_in [(0, .ref 1)] zq_Desk_gatherDialogs (Nat.le_of_ble_eq_true rfl) rfl (ze_S.end ⟨0, 2, fun F m hF => ?_⟩ G), f, hA⟩
  simp [zg_0, zg_aaload, zg_aload_n, zg_baload, zg_bastore, zg_bipush, zg_getfield, zg_goto, zg_iconst, zg_ifCond, zg_if_icmp, zg_iinc, zg_iload_n, zg_invokevirtual, zg_istore_n, zg_return, zf_X5_gatherDialogs, zi_ld, zi_lda, zi_cmp, zi_retOk, zi_isI, zi_f3, zi_cr, zi_ci, zi_cn, zi_get, zi_set, nI_0]
set_option maxRecDepth 100000 in
theorem ze_gatherWithDialogs (D : Nat) {w : Nat} (hw : w < 10) : ∃ ν, ze_E (D + 3) A_Desk_gatherWithDialogs [.ref 1, .int (nI w)] (zm_mk μ) none (zm_mk ν) ∧ (∀ c, c ≠ 31 → ν c = μ c) ∧ zd_gr ν (zl_spn (zd_dl μ) (zd_ow μ) (fun k => decide (k = w)) 10) := by
  have h10 : (Int8.ofInt 10).toInt32 = (10 : Int32) := by decide
  have key : ∃ r h', ze_G (D + 2) 3 none zc_X5_gatherWithDialogs 2 [(2, .int (nI 0)), (0, .ref 1), (1, .int (nI w))] [] (zm_mk μ) r h' ∧ (r = none ∧ ∃ ν, zm_mk ν = h' ∧ (∀ c, c ≠ 31 → ν c = μ c) ∧ zd_gr ν (zl_spn (zd_dl μ) (zd_ow μ) (fun k => decide (k = w)) 10)) := by
    refine ze_loop (Q := fun i L hp => i ≤ 10 ∧ zi_nl L = true ∧ zi_get L 0 = some (.ref 1) ∧ zi_get L 1 = some (.int (nI w)) ∧ zi_get L 2 = some (.int (nI i)) ∧ ∃ ν : zm_M, zm_mk ν = hp ∧ (∀ c, c ≠ 31 → ν c = μ c) ∧ (∀ k, k < i → ν 31 k = if k = w then 1 else 0) ∧ (True)) (R := fun r h' => r = none ∧ ∃ ν, zm_mk ν = h' ∧ (∀ c, c ≠ 31 → ν c = μ c) ∧ zd_gr ν (zl_spn (zd_dl μ) (zd_ow μ) (fun k => decide (k = w)) 10)) 10 ?_ ?_ 10 0 _ _ (by omega) ⟨by omega, rfl, rfl, rfl, rfl, μ, rfl, fun _ _ => rfl, (fun k hk => absurd hk (by omega)), trivial⟩
    · rintro i L _ hi ⟨-, nl, g0, g1, g2, ν, rfl, f, hB, hq⟩
      have c1 : ¬ (10 : Int32) ≤ nI i := nI_ge (b := 10) hi (by decide)
      have i1 : zi_in (nI i) 10 = true := zm_in hi (by decide)
      have e1 : (nI i).toNatClampNeg = i := nI_clamp (by omega)
      have hst : ∀ x : Int32, x = (if i = w then 1 else 0) → ∀ k, k < i + 1 → zm_up ν 31 i x 31 k = if k = w then 1 else 0 := by
        intro x hx k hk
        rw [zm_up_pt]
        by_cases e : k = i
        · rw [if_pos e, hx, e]
        · rw [if_neg e]
          exact hB k (by omega)
      by_cases c2 : i = w
      · subst c2
        left
        refine ⟨zi_set L 2 (.int (nI (i + 1))), zm_mk (zm_up ν 31 i 1), ⟨0, 14, fun F m hF => ?_⟩, by omega, ?_, ?_, ?_, zi_get_set_eq, _, rfl, (fun c hc => (zm_up_row hc).trans (f c hc)), hst 1 (by rw [if_pos rfl]), trivial⟩
        · simp (maxDischargeDepth := 9) [zg_0, zg_aload_n, zg_bastore, zg_bipush, zg_getfield, zg_goto, zg_iconst, zg_if_icmp, zg_iinc, zg_iload_n, zg_invokevirtual, zg_istore_n, zg_return, zf_X5_gatherWithDialogs, zi_ld, zi_lda, zi_cmp, zi_retOk, zi_isI, zi_f3, zi_cr, zi_ci, zi_cn, zi_get_ne, zi_nl_i, zi_nl_r, zi_get_set_eq, nl, g0, g1, g2, h10, c1, zd_g, zm_bast zd31_A i1 (Or.inr rfl), e1, nI_1]
        · simp (maxDischargeDepth := 9) [zi_get_ne, zi_nl_i, zi_nl_r, zi_get_set_eq, nl]
        · simp (maxDischargeDepth := 9) [zi_get_ne, zi_nl_i, zi_nl_r, zi_get_set_eq, nl, g0]
        · simp (maxDischargeDepth := 9) [zi_get_ne, zi_nl_i, zi_nl_r, zi_get_set_eq, nl, g1]
      · have c2' : ¬ nI i = nI w := fun e => c2 ((nI_eq (by omega) (by omega)).mp e)
        left
        refine ⟨zi_set L 2 (.int (nI (i + 1))), zm_mk (zm_up ν 31 i 0), ⟨0, 13, fun F m hF => ?_⟩, by omega, ?_, ?_, ?_, zi_get_set_eq, _, rfl, (fun c hc => (zm_up_row hc).trans (f c hc)), hst 0 (by rw [if_neg c2]), trivial⟩
        · simp (maxDischargeDepth := 9) [zg_0, zg_aload_n, zg_bastore, zg_bipush, zg_getfield, zg_goto, zg_iconst, zg_if_icmp, zg_iinc, zg_iload_n, zg_invokevirtual, zg_istore_n, zg_return, zf_X5_gatherWithDialogs, zi_ld, zi_lda, zi_cmp, zi_retOk, zi_isI, zi_f3, zi_cr, zi_ci, zi_cn, zi_get_ne, zi_nl_i, zi_nl_r, zi_get_set_eq, nl, g0, g1, g2, h10, c1, c2', zd_g, zm_bast zd31_A i1 (Or.inl rfl), e1, nI_1]
        · simp (maxDischargeDepth := 9) [zi_get_ne, zi_nl_i, zi_nl_r, zi_get_set_eq, nl]
        · simp (maxDischargeDepth := 9) [zi_get_ne, zi_nl_i, zi_nl_r, zi_get_set_eq, nl, g0]
        · simp (maxDischargeDepth := 9) [zi_get_ne, zi_nl_i, zi_nl_r, zi_get_set_eq, nl, g1]
    · rintro L _ ⟨-, nl, g0, g1, g2, ν, rfl, f, hB, hq⟩
      have c1 : (10 : Int32) ≤ nI 10 := by decide
      have hgr : zd_gr ν (fun k => decide (k = w)) := by
        intro k hk
        rw [hB k hk]
        by_cases e : k = w
        · rw [if_pos e, if_pos (decide_eq_true e)]
        · rw [if_neg e, if_neg (fun q => e (of_decide_eq_true q))]
      obtain ⟨ξ, ⟨N1, E1⟩, f2, hC⟩ := ze_gatherDialogs (μ := ν) D hgr
      have ew : ∀ k, ν (zdW k) = μ (zdW k) := fun k => (zd_dl_of f k).2
      have eo : zd_ow ν = zd_ow μ := by
        funext k
        unfold zd_ow
        rw [ew]
      have ed : zd_dl ν = zd_dl μ := by
        funext k
        unfold zd_dl
        rw [eo, ew, ew]
      rw [eo, ed] at hC
      refine ⟨none, zm_mk ξ, ⟨N1, 6, fun F m hF => ?_⟩, rfl, ξ, rfl, fun c hc => (f2 c hc).trans (f c hc), hC⟩
      simp [zg_0, zg_aload_n, zg_bastore, zg_bipush, zg_getfield, zg_goto, zg_iconst, zg_if_icmp, zg_iinc, zg_iload_n, zg_invokevirtual, zg_istore_n, zg_return, zf_X5_gatherWithDialogs, zi_ld, zi_lda, zi_cmp, zi_retOk, zi_isI, zi_f3, zi_cr, zi_ci, zi_cn, g0, g2, h10, c1, zq_Desk_gatherDialogs, zd_c, E1 F (by omega)]
  obtain ⟨r, h', G, rfl, ν, rfl, f, hA⟩ := key
  refine ⟨ν, ze_in [(0, .ref 1), (1, .int (nI w))] zq_Desk_gatherWithDialogs (Nat.le_of_ble_eq_true rfl) rfl (ze_S.end ⟨0, 2, fun F m hF => ?_⟩ G), f, hA⟩
  simp [zg_0, zg_aload_n, zg_bastore, zg_bipush, zg_getfield, zg_goto, zg_iconst, zg_if_icmp, zg_iinc, zg_iload_n, zg_invokevirtual, zg_istore_n, zg_return, zf_X5_gatherWithDialogs, zi_ld, zi_lda, zi_cmp, zi_retOk, zi_isI, zi_f3, zi_cr, zi_ci, zi_cn, zi_get, zi_set, nI_0]
end ZG2
