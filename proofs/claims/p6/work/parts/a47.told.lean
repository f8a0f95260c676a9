/-! the reference: about, told, tab, count -/
section ZWF
variable {μ : zm_M} {row stk : List Nat} {us : Nat → zy_F}
set_option maxRecDepth 100000 in
theorem ze_Mabout (D : Nat) (h : zR μ row stk us) (w x : Int32) : ∃ v, ze_E (D + 5) A_Mod_about [.ref 232, .int w, .int x] (zm_mk μ) (some (.int v)) (zm_mk μ) := by
  have n1 : Int32.ofInt (-1000000001) = -1000000001 := by decide
  have n5 : Int32.ofInt (-1000000005) = -1000000005 := by decide
  have h6 : (Int8.ofInt 6).toInt32 = (6 : Int32) := by decide
  obtain ⟨lc, cM⟩ := zM_c (μ := μ)
  rcases zR_win (D + 2) h w with ⟨k, hk, rfl, c0, N1, E1⟩ | ⟨⟨N1, E1⟩, c0⟩
  · have ik : zi_in (nI k) 10 = true := zm_in hk (by decide)
    have ck : (nI k).toNatClampNeg = k := nI_clamp (by omega)
    rcases zM_isIn (hp := zm_mk μ) (D + 3) x (n := 6) (b := 6) (by decide) (by decide) with ⟨a, ha, rfl, N2, E2⟩ | ⟨⟨N2, E2⟩, hno⟩
    · have S0 : ze_S (D + 4) 3 (some .int) zc_X6_about 0 [(0, .ref 232), (1, .int (nI k)), (2, .int (nI a))] [] (zm_mk μ) 22 [(0, .ref 232), (1, .int (nI k)), (2, .int (nI a))] [.int (nI a)] (zm_mk μ) := by
        refine ⟨N1 + N2, 10, fun F n hF => ?_⟩
        simp [zg_0, zg_aload_n, zg_bipush, zg_getfield, zg_goto, zg_iaload, zg_iconst, zg_ifCond, zg_if_icmp, zg_iload_n, zg_invokestatic, zg_invokevirtual, zg_ireturn, zg_ldc, zg_ldc_w, zg_tableswitch, zf_X6_about, zi_ld, zi_lda, zi_cmp, zi_retOk, zi_isI, zi_f3, zi_cr, zi_ci, zi_cn, zi_get, zi_set, h6, cM, zq_Mod_isWindow, zq_Mod_isIn, E1 F (by omega), E2 F (by omega)]
      have fin : ∃ v, ze_G (D + 4) 3 (some .int) zc_X6_about 22 [(0, .ref 232), (1, .int (nI k)), (2, .int (nI a))] [.int (nI a)] (zm_mk μ) (some (.int v)) (zm_mk μ) := by
        match a, ha with
        | 0, _ =>
          have t0 : (nI 0).toInt = 0 := by decide
          refine ⟨μ 234 k, 0, 6, fun F n hF => ?_⟩
          simp [zg_0, zg_aload_n, zg_bipush, zg_getfield, zg_goto, zg_iaload, zg_iconst, zg_ifCond, zg_if_icmp, zg_iload_n, zg_invokestatic, zg_invokevirtual, zg_ireturn, zg_ldc, zg_ldc_w, zg_tableswitch, zf_X6_about, zi_ld, zi_lda, zi_cmp, zi_retOk, zi_isI, zi_f3, zi_cr, zi_ci, zi_cn, zi_get, zi_set, t0, zM_g, zm_iald (k := 0) zM_A234 ik, ck]
        | 1, _ =>
          have t0 : (nI 1).toInt = 1 := by decide
          refine ⟨μ 235 k, 0, 6, fun F n hF => ?_⟩
          simp [zg_0, zg_aload_n, zg_bipush, zg_getfield, zg_goto, zg_iaload, zg_iconst, zg_ifCond, zg_if_icmp, zg_iload_n, zg_invokestatic, zg_invokevirtual, zg_ireturn, zg_ldc, zg_ldc_w, zg_tableswitch, zf_X6_about, zi_ld, zi_lda, zi_cmp, zi_retOk, zi_isI, zi_f3, zi_cr, zi_ci, zi_cn, zi_get, zi_set, t0, zM_g, zm_iald (k := 0) zM_A235 ik, ck]
        | 2, _ =>
          have t0 : (nI 2).toInt = 2 := by decide
          refine ⟨μ 236 k, 0, 6, fun F n hF => ?_⟩
          simp [zg_0, zg_aload_n, zg_bipush, zg_getfield, zg_goto, zg_iaload, zg_iconst, zg_ifCond, zg_if_icmp, zg_iload_n, zg_invokestatic, zg_invokevirtual, zg_ireturn, zg_ldc, zg_ldc_w, zg_tableswitch, zf_X6_about, zi_ld, zi_lda, zi_cmp, zi_retOk, zi_isI, zi_f3, zi_cr, zi_ci, zi_cn, zi_get, zi_set, t0, zM_g, zm_iald (k := 0) zM_A236 ik, ck]
        | 3, _ =>
          have t0 : (nI 3).toInt = 3 := by decide
          by_cases c : μ 234 k = 3
          · refine ⟨μ 237 k, 0, 13, fun F n hF => ?_⟩
            simp [zg_0, zg_aload_n, zg_bipush, zg_getfield, zg_goto, zg_iaload, zg_iconst, zg_ifCond, zg_if_icmp, zg_iload_n, zg_invokestatic, zg_invokevirtual, zg_ireturn, zg_ldc, zg_ldc_w, zg_tableswitch, zf_X6_about, zi_ld, zi_lda, zi_cmp, zi_retOk, zi_isI, zi_f3, zi_cr, zi_ci, zi_cn, zi_get, zi_set, t0, zM_g, zm_iald (k := 0) zM_A234 ik, zm_iald (k := 0) zM_A237 ik, ck, c]
          · refine ⟨-1000000005, 0, 9, fun F n hF => ?_⟩
            simp [zg_0, zg_aload_n, zg_bipush, zg_getfield, zg_goto, zg_iaload, zg_iconst, zg_ifCond, zg_if_icmp, zg_iload_n, zg_invokestatic, zg_invokevirtual, zg_ireturn, zg_ldc, zg_ldc_w, zg_tableswitch, zf_X6_about, zi_ld, zi_lda, zi_cmp, zi_retOk, zi_isI, zi_f3, zi_cr, zi_ci, zi_cn, zi_get, zi_set, t0, zM_g, zm_iald (k := 0) zM_A234 ik, ck, c, n5]
        | 4, _ =>
          have t0 : (nI 4).toInt = 4 := by decide
          obtain ⟨N3, E3⟩ := ze_MisFloating (μ := μ) (D + 3) hk
          by_cases c : 2 ≤ μ 234 k
          · rw [if_pos c] at E3
            refine ⟨1, N3, 8, fun F n hF => ?_⟩
            simp [zg_0, zg_aload_n, zg_bipush, zg_getfield, zg_goto, zg_iaload, zg_iconst, zg_ifCond, zg_if_icmp, zg_iload_n, zg_invokestatic, zg_invokevirtual, zg_ireturn, zg_ldc, zg_ldc_w, zg_tableswitch, zf_X6_about, zi_ld, zi_lda, zi_cmp, zi_retOk, zi_isI, zi_f3, zi_cr, zi_ci, zi_cn, zi_get, zi_set, t0, cM, zq_Mod_isFloating, E3 F (by omega)]
          · rw [if_neg c] at E3
            rcases zR_shn D h hk with ⟨⟨N4, E4⟩, -⟩ | ⟨⟨N4, E4⟩, -⟩
            · refine ⟨1, N3 + N4, 12, fun F n hF => ?_⟩
              simp [zg_0, zg_aload_n, zg_bipush, zg_getfield, zg_goto, zg_iaload, zg_iconst, zg_ifCond, zg_if_icmp, zg_iload_n, zg_invokestatic, zg_invokevirtual, zg_ireturn, zg_ldc, zg_ldc_w, zg_tableswitch, zf_X6_about, zi_ld, zi_lda, zi_cmp, zi_retOk, zi_isI, zi_f3, zi_cr, zi_ci, zi_cn, zi_get, zi_set, t0, cM, zq_Mod_isFloating, zq_Mod_isShown, E3 F (by omega), E4 F (by omega)]
            · refine ⟨0, N3 + N4, 11, fun F n hF => ?_⟩
              simp [zg_0, zg_aload_n, zg_bipush, zg_getfield, zg_goto, zg_iaload, zg_iconst, zg_ifCond, zg_if_icmp, zg_iload_n, zg_invokestatic, zg_invokevirtual, zg_ireturn, zg_ldc, zg_ldc_w, zg_tableswitch, zf_X6_about, zi_ld, zi_lda, zi_cmp, zi_retOk, zi_isI, zi_f3, zi_cr, zi_ci, zi_cn, zi_get, zi_set, t0, cM, zq_Mod_isFloating, zq_Mod_isShown, E3 F (by omega), E4 F (by omega)]
        | 5, _ =>
          have t0 : (nI 5).toInt = 5 := by decide
          have hL := h.2.1.1
          obtain ⟨v, E⟩ := ze_MplaceIn (μ := μ) (D + 3) zM_A242 hL.1 (nI k)
          have E3 : ze_E (D + 4) A_Mod_placeIn [.ref 243, .int (nI row.length), .int (nI k)] (zm_mk μ) (some (.int v)) (zm_mk μ) := E
          obtain ⟨N3, E3⟩ := E3
          refine ⟨v, N3, 8, fun F n hF => ?_⟩
          simp [zg_0, zg_aload_n, zg_bipush, zg_getfield, zg_goto, zg_iaload, zg_iconst, zg_ifCond, zg_if_icmp, zg_iload_n, zg_invokestatic, zg_invokevirtual, zg_ireturn, zg_ldc, zg_ldc_w, zg_tableswitch, zf_X6_about, zi_ld, zi_lda, zi_cmp, zi_retOk, zi_isI, zi_f3, zi_cr, zi_ci, zi_cn, zi_get, zi_set, t0, zM_g, hL.2.1, zq_Mod_placeIn, E3 F (by omega)]
        | 6, _ =>
          have t0 : (nI 6).toInt = 6 := by decide
          have hL := h.2.2.1.1
          obtain ⟨v, E⟩ := ze_MplaceIn (μ := μ) (D + 3) zM_A241 hL.1 (nI k)
          have E3 : ze_E (D + 4) A_Mod_placeIn [.ref 242, .int (nI stk.length), .int (nI k)] (zm_mk μ) (some (.int v)) (zm_mk μ) := E
          obtain ⟨N3, E3⟩ := E3
          refine ⟨v, N3, 8, fun F n hF => ?_⟩
          simp [zg_0, zg_aload_n, zg_bipush, zg_getfield, zg_goto, zg_iaload, zg_iconst, zg_ifCond, zg_if_icmp, zg_iload_n, zg_invokestatic, zg_invokevirtual, zg_ireturn, zg_ldc, zg_ldc_w, zg_tableswitch, zf_X6_about, zi_ld, zi_lda, zi_cmp, zi_retOk, zi_isI, zi_f3, zi_cr, zi_ci, zi_cn, zi_get, zi_set, t0, zM_g, hL.2.1, zq_Mod_placeIn, E3 F (by omega)]
      obtain ⟨v, G⟩ := fin
      exact ⟨v, ze_in [(0, .ref 232), (1, .int (nI k)), (2, .int (nI a))] zq_Mod_about (Nat.le_of_ble_eq_true rfl) rfl (S0.end G)⟩
    · refine ⟨-1000000001, ze_in [(0, .ref 232), (1, .int (nI k)), (2, .int x)] zq_Mod_about (Nat.le_of_ble_eq_true rfl) rfl ⟨N1 + N2, 11, fun F n hF => ?_⟩⟩
      simp [zg_0, zg_aload_n, zg_bipush, zg_getfield, zg_goto, zg_iaload, zg_iconst, zg_ifCond, zg_if_icmp, zg_iload_n, zg_invokestatic, zg_invokevirtual, zg_ireturn, zg_ldc, zg_ldc_w, zg_tableswitch, zf_X6_about, zi_ld, zi_lda, zi_cmp, zi_retOk, zi_isI, zi_f3, zi_cr, zi_ci, zi_cn, zi_get, zi_set, h6, cM, zq_Mod_isWindow, zq_Mod_isIn, E1 F (by omega), E2 F (by omega), n1]
  · refine ⟨-1000000001, ze_in [(0, .ref 232), (1, .int w), (2, .int x)] zq_Mod_about (Nat.le_of_ble_eq_true rfl) rfl ⟨N1, 6, fun F n hF => ?_⟩⟩
    simp [zg_0, zg_aload_n, zg_bipush, zg_getfield, zg_goto, zg_iaload, zg_iconst, zg_ifCond, zg_if_icmp, zg_iload_n, zg_invokestatic, zg_invokevirtual, zg_ireturn, zg_ldc, zg_ldc_w, zg_tableswitch, zf_X6_about, zi_ld, zi_lda, zi_cmp, zi_retOk, zi_isI, zi_f3, zi_cr, zi_ci, zi_cn, zi_get, zi_set, cM, zq_Mod_isWindow, E1 F (by omega), n1]
theorem zR_least (D : Nat) (h : zR μ row stk us) {s a : Nat} (hs : s < 3) (ha : a < 2) (c : ¬ μ 243 s < 0) : ∃ v, ze_E (D + 26) A_Mod_least [.ref 232, .int (nI s), .int (μ 243 s), .int (nI (1 - a))] (zm_mk μ) (some (.int v)) (zm_mk μ) := by
  obtain ⟨ab, hI⟩ := (h.2.2.2.2.1 s hs).1
  rcases hI.1 with ⟨-, hr⟩ | ⟨wt, ok, hr, -⟩
  · rw [hr] at c; exact absurd (by decide) c
  · have hl := zy_nodup_le 24 (zy_ids (us s)) hI.2.1 hI.2.2.1
    have hT := fun n hn => (fun (q : zu_T μ s n (zu_tb μ s n) ∧ zu_tb μ s n ≠ [] ∧ ∀ x ∈ zu_tb μ s n, x < 10) => (⟨q.1, q.2.2⟩ : zu_T μ s n (zu_tb μ s n) ∧ ∀ x ∈ zu_tb μ s n, x < 10)) (zu_I_tb hI (n := n) hn)
    have E1 := ze_Mleast (μ := μ) (τ := s) (by omega) ha (us s) wt ok hI.2.2.1 hT (D + 25 - (zy_ids (us s)).length)
    rw [show D + 25 - (zy_ids (us s)).length + 1 + (zy_ids (us s)).length = D + 26 by omega, ← hr] at E1
    exact ⟨_, E1⟩
theorem zv_tdS (D : Nat) {s : Nat} (hs : s < 3) (L0 : zi_Lc) (nl0 : zi_nl L0 = true) (a0 : zi_get L0 0 = some (.ref 232)) (a1 : zi_get L0 1 = some (.int (nI s))) (a3 : zi_get L0 3 = some (.int 0)) (a4 : zi_get L0 4 = some (.int (nI 0))) :
    ∃ r h', ze_G (D + 1) 5 (some .int) zc_X6_told 172 L0 [] (zm_mk μ) r h' ∧ ((∃ v, r = some (.int v)) ∧ zm_mk μ = h') := by
  have h10 : (Int8.ofInt 10).toInt32 = (10 : Int32) := by decide
  obtain ⟨lc, cM⟩ := zM_c (μ := μ)
  refine ze_loop (Q := fun i L hp => i ≤ 10 ∧ zi_nl L = true ∧ zi_get L 0 = some (.ref 232) ∧ zi_get L 1 = some (.int (nI s)) ∧ zi_get L 4 = some (.int (nI i)) ∧ zm_mk μ = hp ∧ ∃ (z : Int32), zi_get L 3 = some (.int z) ∧ (True)) (R := fun r h' => (∃ v, r = some (.int v)) ∧ zm_mk μ = h') 10 ?_ ?_ 10 0 _ _ (by omega) ⟨by omega, nl0, a0, a1, a4, rfl, 0, a3, trivial⟩
  · rintro i L _ hi ⟨-, nl, g0, g1, g4, rfl, z, g3, hq⟩
    have c1 : ¬ (10 : Int32) ≤ nI i := nI_ge (b := 10) hi (by decide)
    obtain ⟨N1, E1⟩ := ze_MisOnScreen (μ := μ) D hi (nI s)
    by_cases c2 : zv_on μ i (nI s) = true
    · rw [if_pos c2] at E1
      left
      refine ⟨zi_set (zi_set L 3 (.int (z + 1))) 4 (.int (nI (i + 1))), zm_mk μ, ⟨N1, 15, fun F m hF => ?_⟩, by omega, ?_, ?_, ?_, zi_get_set_eq, rfl, z + 1, ?_, trivial⟩
      · simp (maxDischargeDepth := 9) [zg_0, zg_aload_n, zg_bipush, zg_getfield, zg_goto, zg_iadd, zg_iaload, zg_iconst, zg_ifCond, zg_if_icmp, zg_iinc, zg_iload, zg_iload_n, zg_invokestatic, zg_invokevirtual, zg_ireturn, zg_istore, zg_istore_n, zg_isub, zg_ldc, zg_tableswitch, zf_X6_told, zi_ld, zi_lda, zi_cmp, zi_retOk, zi_isI, zi_f3, zi_cr, zi_ci, zi_cn, zi_get_ne, zi_nl_i, zi_nl_r, zi_get_set_eq, nl, g0, g1, g4, g3, h10, c1, cM, zq_Mod_isOnScreen, E1 F (by omega), nI_1]
      · simp (maxDischargeDepth := 9) [zi_get_ne, zi_nl_i, zi_nl_r, zi_get_set_eq, nl]
      · simp (maxDischargeDepth := 9) [zi_get_ne, zi_nl_i, zi_nl_r, zi_get_set_eq, nl, g0]
      · simp (maxDischargeDepth := 9) [zi_get_ne, zi_nl_i, zi_nl_r, zi_get_set_eq, nl, g1]
      · simp (maxDischargeDepth := 9) [zi_get_ne, zi_nl_i, zi_nl_r, zi_get_set_eq, nl, g3]
    · rw [if_neg c2] at E1
      left
      refine ⟨zi_set (zi_set L 3 (.int (z + 0))) 4 (.int (nI (i + 1))), zm_mk μ, ⟨N1, 14, fun F m hF => ?_⟩, by omega, ?_, ?_, ?_, zi_get_set_eq, rfl, z + 0, ?_, trivial⟩
      · simp (maxDischargeDepth := 9) [zg_0, zg_aload_n, zg_bipush, zg_getfield, zg_goto, zg_iadd, zg_iaload, zg_iconst, zg_ifCond, zg_if_icmp, zg_iinc, zg_iload, zg_iload_n, zg_invokestatic, zg_invokevirtual, zg_ireturn, zg_istore, zg_istore_n, zg_isub, zg_ldc, zg_tableswitch, zf_X6_told, zi_ld, zi_lda, zi_cmp, zi_retOk, zi_isI, zi_f3, zi_cr, zi_ci, zi_cn, zi_get_ne, zi_nl_i, zi_nl_r, zi_get_set_eq, nl, g0, g1, g4, g3, h10, c1, cM, zq_Mod_isOnScreen, E1 F (by omega), nI_1]
      · simp (maxDischargeDepth := 9) [zi_get_ne, zi_nl_i, zi_nl_r, zi_get_set_eq, nl]
      · simp (maxDischargeDepth := 9) [zi_get_ne, zi_nl_i, zi_nl_r, zi_get_set_eq, nl, g0]
      · simp (maxDischargeDepth := 9) [zi_get_ne, zi_nl_i, zi_nl_r, zi_get_set_eq, nl, g1]
      · simp (maxDischargeDepth := 9) [zi_get_ne, zi_nl_i, zi_nl_r, zi_get_set_eq, nl, g3]
  · rintro L _ ⟨-, nl, g0, g1, g4, rfl, z, g3, hq⟩
    have c1 : (10 : Int32) ≤ nI 10 := by decide
    refine ⟨some (.int z), zm_mk μ, ⟨0, 5, fun F m hF => ?_⟩, ⟨z, rfl⟩, rfl⟩
    simp [zg_0, zg_aload_n, zg_bipush, zg_getfield, zg_goto, zg_iadd, zg_iaload, zg_iconst, zg_ifCond, zg_if_icmp, zg_iinc, zg_iload, zg_iload_n, zg_invokestatic, zg_invokevirtual, zg_ireturn, zg_istore, zg_istore_n, zg_isub, zg_ldc, zg_tableswitch, zf_X6_told, zi_ld, zi_lda, zi_cmp, zi_retOk, zi_isI, zi_f3, zi_cr, zi_ci, zi_cn, g0, g1, g3, g4, h10, c1]
set_option maxRecDepth 100000 in
theorem ze_Mtold (D : Nat) (h : zR μ row stk us) (w x : Int32) : ∃ ν v, ze_E (D + 29) A_Mod_told [.ref 232, .int w, .int x] (zm_mk μ) (some (.int v)) (zm_mk ν) ∧ zM_fr μ ν := by
  have n1 : Int32.ofInt (-1000000001) = -1000000001 := by decide
  have n2 : Int32.ofInt (-1000000002) = -1000000002 := by decide
  have h6 : (Int8.ofInt 6).toInt32 = (6 : Int32) := by decide
  obtain ⟨lc, cM⟩ := zM_c (μ := μ)
  rcases zM_isIn (hp := zm_mk μ) (D + 27) w (n := 2) (b := 2) (by decide) (by decide) with ⟨s, hs, rfl, N1, E1⟩ | ⟨⟨N1, E1⟩, hno⟩
  · have hs : s < 3 := hs
    have is : zi_in (nI s) 3 = true := zm_in hs (by decide)
    have is7 : zi_in (nI s) 7 = true := zm_in (by omega) (by decide)
    have cs : (nI s).toNatClampNeg = s := nI_clamp (by omega)
    rcases zM_isIn (hp := zm_mk μ) (D + 27) x (n := 6) (b := 6) (by decide) (by decide) with ⟨a, ha, rfl, N2, E2⟩ | ⟨⟨N2, E2⟩, hno⟩
    · by_cases c0 : μ 232 s = 0
      · refine ⟨μ, -1000000002, ze_in [(0, .ref 232), (1, .int (nI s)), (2, .int (nI a))] zq_Mod_told (Nat.le_of_ble_eq_true rfl) rfl ⟨N1 + N2, 17, fun F n hF => ?_⟩, zM_fr.refl⟩
        simp [zg_0, zg_aload_n, zg_bipush, zg_getfield, zg_goto, zg_iadd, zg_iaload, zg_iconst, zg_ifCond, zg_if_icmp, zg_iinc, zg_iload, zg_iload_n, zg_invokestatic, zg_invokevirtual, zg_ireturn, zg_istore, zg_istore_n, zg_isub, zg_ldc, zg_tableswitch, zf_X6_told, zi_ld, zi_lda, zi_cmp, zi_retOk, zi_isI, zi_f3, zi_cr, zi_ci, zi_cn, zi_get, zi_set, zM_g, h6, zq_Mod_isIn, E1 F (by omega), E2 F (by omega), zm_iald (k := 0) zM_A232 is, cs, c0, n2]
      · obtain ⟨ab, hI⟩ := (h.2.2.2.2.1 s hs).1
        obtain ⟨ν, ⟨N3, E3⟩, -, f⟩ := ze_MclearLeaves (μ := μ) (D + 2) (τ := s) (by omega) hI
        have hR := h.fr f.fr
        obtain ⟨lc2, cM2⟩ := zM_c (μ := ν)
        have S0 : ze_S (D + 28) 5 (some .int) zc_X6_told 0 [(0, .ref 232), (1, .int (nI s)), (2, .int (nI a))] [] (zm_mk μ) 42 [(3, .int 0), (0, .ref 232), (1, .int (nI s)), (2, .int (nI a))] [.int (nI a)] (zm_mk ν) := by
          refine ⟨N1 + N2 + N3, 21, fun F n hF => ?_⟩
          simp [zg_0, zg_aload_n, zg_bipush, zg_getfield, zg_goto, zg_iadd, zg_iaload, zg_iconst, zg_ifCond, zg_if_icmp, zg_iinc, zg_iload, zg_iload_n, zg_invokestatic, zg_invokevirtual, zg_ireturn, zg_istore, zg_istore_n, zg_isub, zg_ldc, zg_tableswitch, zf_X6_told, zi_ld, zi_lda, zi_cmp, zi_retOk, zi_isI, zi_f3, zi_cr, zi_ci, zi_cn, zi_get, zi_set, zM_g, h6, cM, zq_Mod_isIn, zq_Mod_clearLeaves, E1 F (by omega), E2 F (by omega), E3 F (by omega), zm_iald (k := 0) zM_A232 is, cs, c0]
        have fin : ∃ v, ze_G (D + 28) 5 (some .int) zc_X6_told 42 [(3, .int 0), (0, .ref 232), (1, .int (nI s)), (2, .int (nI a))] [.int (nI a)] (zm_mk ν) (some (.int v)) (zm_mk ν) := by
          match a, ha with
          | 0, _ =>
            have t0 : (nI 0).toInt = 0 := by decide
            refine ⟨ν 232 s, 0, 6, fun F n hF => ?_⟩
            simp [zg_0, zg_aload_n, zg_bipush, zg_getfield, zg_goto, zg_iadd, zg_iaload, zg_iconst, zg_ifCond, zg_if_icmp, zg_iinc, zg_iload, zg_iload_n, zg_invokestatic, zg_invokevirtual, zg_ireturn, zg_istore, zg_istore_n, zg_isub, zg_ldc, zg_tableswitch, zf_X6_told, zi_ld, zi_lda, zi_cmp, zi_retOk, zi_isI, zi_f3, zi_cr, zi_ci, zi_cn, zi_get, zi_set, t0, zM_g, zm_iald (k := 0) zM_A232 is, cs]
          | 1, _ =>
            have t0 : (nI 1).toInt = 1 := by decide
            refine ⟨ν 233 s, 0, 6, fun F n hF => ?_⟩
            simp [zg_0, zg_aload_n, zg_bipush, zg_getfield, zg_goto, zg_iadd, zg_iaload, zg_iconst, zg_ifCond, zg_if_icmp, zg_iinc, zg_iload, zg_iload_n, zg_invokestatic, zg_invokevirtual, zg_ireturn, zg_istore, zg_istore_n, zg_isub, zg_ldc, zg_tableswitch, zf_X6_told, zi_ld, zi_lda, zi_cmp, zi_retOk, zi_isI, zi_f3, zi_cr, zi_ci, zi_cn, zi_get, zi_set, t0, zM_g, zm_iald (k := 0) zM_A233 is, cs]
          | 2, _ =>
            have t0 : (nI 2).toInt = 2 := by decide
            refine ⟨ν 231 30, 0, 4, fun F n hF => ?_⟩
            simp [zg_0, zg_aload_n, zg_bipush, zg_getfield, zg_goto, zg_iadd, zg_iaload, zg_iconst, zg_ifCond, zg_if_icmp, zg_iinc, zg_iload, zg_iload_n, zg_invokestatic, zg_invokevirtual, zg_ireturn, zg_istore, zg_istore_n, zg_isub, zg_ldc, zg_tableswitch, zf_X6_told, zi_ld, zi_lda, zi_cmp, zi_retOk, zi_isI, zi_f3, zi_cr, zi_ci, zi_cn, zi_get, zi_set, t0, zM_g]
          | 3, _ =>
            have t0 : (nI 3).toInt = 3 := by decide
            by_cases c : ν 231 30 ≤ 0
            · refine ⟨0, 0, 6, fun F n hF => ?_⟩
              simp [zg_0, zg_aload_n, zg_bipush, zg_getfield, zg_goto, zg_iadd, zg_iaload, zg_iconst, zg_ifCond, zg_if_icmp, zg_iinc, zg_iload, zg_iload_n, zg_invokestatic, zg_invokevirtual, zg_ireturn, zg_istore, zg_istore_n, zg_isub, zg_ldc, zg_tableswitch, zf_X6_told, zi_ld, zi_lda, zi_cmp, zi_retOk, zi_isI, zi_f3, zi_cr, zi_ci, zi_cn, zi_get, zi_set, t0, zM_g, c]
            · obtain ⟨d, hd⟩ := zv_opq (ν 231 30) 1
              refine ⟨d, 0, 10, fun F n hF => ?_⟩
              simp [zg_0, zg_aload_n, zg_bipush, zg_getfield, zg_goto, zg_iadd, zg_iaload, zg_iconst, zg_ifCond, zg_if_icmp, zg_iinc, zg_iload, zg_iload_n, zg_invokestatic, zg_invokevirtual, zg_ireturn, zg_istore, zg_istore_n, zg_isub, zg_ldc, zg_tableswitch, zf_X6_told, zi_ld, zi_lda, zi_cmp, zi_retOk, zi_isI, zi_f3, zi_cr, zi_ci, zi_cn, zi_get, zi_set, t0, zM_g, c, hd]
          | 4, _ =>
            have t0 : (nI 4).toInt = 4 := by decide
            by_cases c : 0 ≤ ν 243 s
            · obtain ⟨v, N4, E4⟩ := zR_least (D + 2) hR hs (a := 0) (by decide) (Int32.not_lt.mpr c)
              have q : nI (1 - 0) = 1 := by decide
              rw [q] at E4
              refine ⟨v, N4, 15, fun F n hF => ?_⟩
              simp [zg_0, zg_aload_n, zg_bipush, zg_getfield, zg_goto, zg_iadd, zg_iaload, zg_iconst, zg_ifCond, zg_if_icmp, zg_iinc, zg_iload, zg_iload_n, zg_invokestatic, zg_invokevirtual, zg_ireturn, zg_istore, zg_istore_n, zg_isub, zg_ldc, zg_tableswitch, zf_X6_told, zi_ld, zi_lda, zi_cmp, zi_retOk, zi_isI, zi_f3, zi_cr, zi_ci, zi_cn, zi_get, zi_set, t0, zM_g, cM2, zm_iald (k := 0) zM_A243 is7, cs, c, zq_Mod_least, E4 F (by omega)]
            · refine ⟨0, 0, 9, fun F n hF => ?_⟩
              simp [zg_0, zg_aload_n, zg_bipush, zg_getfield, zg_goto, zg_iadd, zg_iaload, zg_iconst, zg_ifCond, zg_if_icmp, zg_iinc, zg_iload, zg_iload_n, zg_invokestatic, zg_invokevirtual, zg_ireturn, zg_istore, zg_istore_n, zg_isub, zg_ldc, zg_tableswitch, zf_X6_told, zi_ld, zi_lda, zi_cmp, zi_retOk, zi_isI, zi_f3, zi_cr, zi_ci, zi_cn, zi_get, zi_set, t0, zM_g, zm_iald (k := 0) zM_A243 is7, cs, c]
          | 5, _ =>
            have t0 : (nI 5).toInt = 5 := by decide
            by_cases c : 0 ≤ ν 243 s
            · obtain ⟨v, N4, E4⟩ := zR_least (D + 2) hR hs (a := 1) (by decide) (Int32.not_lt.mpr c)
              have q : nI (1 - 1) = 0 := by decide
              rw [q] at E4
              refine ⟨v, N4, 15, fun F n hF => ?_⟩
              simp [zg_0, zg_aload_n, zg_bipush, zg_getfield, zg_goto, zg_iadd, zg_iaload, zg_iconst, zg_ifCond, zg_if_icmp, zg_iinc, zg_iload, zg_iload_n, zg_invokestatic, zg_invokevirtual, zg_ireturn, zg_istore, zg_istore_n, zg_isub, zg_ldc, zg_tableswitch, zf_X6_told, zi_ld, zi_lda, zi_cmp, zi_retOk, zi_isI, zi_f3, zi_cr, zi_ci, zi_cn, zi_get, zi_set, t0, zM_g, cM2, zm_iald (k := 0) zM_A243 is7, cs, c, zq_Mod_least, E4 F (by omega)]
            · refine ⟨0, 0, 9, fun F n hF => ?_⟩
              simp [zg_0, zg_aload_n, zg_bipush, zg_getfield, zg_goto, zg_iadd, zg_iaload, zg_iconst, zg_ifCond, zg_if_icmp, zg_iinc, zg_iload, zg_iload_n, zg_invokestatic, zg_invokevirtual, zg_ireturn, zg_istore, zg_istore_n, zg_isub, zg_ldc, zg_tableswitch, zf_X6_told, zi_ld, zi_lda, zi_cmp, zi_retOk, zi_isI, zi_f3, zi_cr, zi_ci, zi_cn, zi_get, zi_set, t0, zM_g, zm_iald (k := 0) zM_A243 is7, cs, c]
          | 6, _ =>
            have t0 : (nI 6).toInt = 6 := by decide
            obtain ⟨r, h', G, ⟨v, rfl⟩, rfl⟩ := zv_tdS (μ := ν) (D + 27) hs [(4, .int (nI 0)), (3, .int 0), (0, .ref 232), (1, .int (nI s)), (2, .int (nI 6))] rfl rfl rfl rfl rfl
            refine ⟨v, ze_S.end ⟨0, 3, fun F n hF => ?_⟩ G⟩
            simp [zg_0, zg_aload_n, zg_bipush, zg_getfield, zg_goto, zg_iadd, zg_iaload, zg_iconst, zg_ifCond, zg_if_icmp, zg_iinc, zg_iload, zg_iload_n, zg_invokestatic, zg_invokevirtual, zg_ireturn, zg_istore, zg_istore_n, zg_isub, zg_ldc, zg_tableswitch, zf_X6_told, zi_ld, zi_lda, zi_cmp, zi_retOk, zi_isI, zi_f3, zi_cr, zi_ci, zi_cn, zi_get, zi_set, t0, nI_0]
        obtain ⟨v, G⟩ := fin
        exact ⟨ν, v, ze_in [(0, .ref 232), (1, .int (nI s)), (2, .int (nI a))] zq_Mod_told (Nat.le_of_ble_eq_true rfl) rfl (S0.end G), f.fr⟩
    · refine ⟨μ, -1000000001, ze_in [(0, .ref 232), (1, .int (nI s)), (2, .int x)] zq_Mod_told (Nat.le_of_ble_eq_true rfl) rfl ⟨N1 + N2, 12, fun F n hF => ?_⟩, zM_fr.refl⟩
      simp [zg_0, zg_aload_n, zg_bipush, zg_getfield, zg_goto, zg_iadd, zg_iaload, zg_iconst, zg_ifCond, zg_if_icmp, zg_iinc, zg_iload, zg_iload_n, zg_invokestatic, zg_invokevirtual, zg_ireturn, zg_istore, zg_istore_n, zg_isub, zg_ldc, zg_tableswitch, zf_X6_told, zi_ld, zi_lda, zi_cmp, zi_retOk, zi_isI, zi_f3, zi_cr, zi_ci, zi_cn, zi_get, zi_set, h6, zq_Mod_isIn, E1 F (by omega), E2 F (by omega), n1]
  · refine ⟨μ, -1000000001, ze_in [(0, .ref 232), (1, .int w), (2, .int x)] zq_Mod_told (Nat.le_of_ble_eq_true rfl) rfl ⟨N1, 7, fun F n hF => ?_⟩, zM_fr.refl⟩
    simp [zg_0, zg_aload_n, zg_bipush, zg_getfield, zg_goto, zg_iadd, zg_iaload, zg_iconst, zg_ifCond, zg_if_icmp, zg_iinc, zg_iload, zg_iload_n, zg_invokestatic, zg_invokevirtual, zg_ireturn, zg_istore, zg_istore_n, zg_isub, zg_ldc, zg_tableswitch, zf_X6_told, zi_ld, zi_lda, zi_cmp, zi_retOk, zi_isI, zi_f3, zi_cr, zi_ci, zi_cn, zi_get, zi_set, zq_Mod_isIn, E1 F (by omega), n1]
end ZWF
