section
/-! the reference: about, told, tab, count -/
section ZWF
variable {μ : zm_M} {row stk : List Nat} {us : Nat → zy_F}
set_option maxRecDepth 100000 in
theorem ze_Mabout (D : Nat) (h : zR μ row stk us) (w x : Int32) : ∃ v, ze_E (D + 5) A_Mod_about [.ref 232, .int w, .int x] (zm_mk μ) (some (.int v)) (zm_mk μ) := by
  have n1 : Int32.ofInt (-1000000001) = -1000000001 := by decide
  have n5 : Int32.ofInt (-1000000005) = -1000000005 := by decide
  have h6 : (Int8.ofInt 6).toInt32 = (6 : Int32) := by decide
  obtain ⟨lc, cM⟩ := zM_c (μ := μ)
  rcases zR_win (D + 2) h w with ⟨k, hk, rfl, c0, N1, E1⟩ | ⟨⟨N1, E1⟩, c0⟩
  · have ik : zi_in (nI k) 10 = true := zm_in hk (by decide)
    have ck : (nI k).toNatClampNeg = k := nI_clamp (by omega)
    rcases zM_isIn (hp := zm_mk μ) (D + 3) x (n := 6) (b := 6) (by decide) (by decide) with ⟨a, ha, rfl, N2, E2⟩ | ⟨⟨N2, E2⟩, hno⟩
    · have S0 : ze_S (D + 4) 3 (some .int) zc_X6_about 0 [(0, .ref 232), (1, .int (nI k)), (2, .int (nI a))] [] (zm_mk μ) 22 [(0, .ref 232), (1, .int (nI k)), (2, .int (nI a))] [.int (nI a)] (zm_mk μ) := by
        refine ⟨N1 + N2, 10, fun F n hF => ?_⟩
        simp [zg_0, zg_aload_n, zg_bipush, zg_getfield, zg_goto, zg_iaload, zg_iconst, zg_ifCond, zg_if_icmp, zg_iload_n, zg_invokestatic, zg_invokevirtual, zg_ireturn, zg_ldc, zg_ldc_w, zg_tableswitch, zf_X6_about, zi_ld, zi_lda, zi_cmp, zi_retOk, zi_isI, zi_f3, zi_cr, zi_ci, zi_cn, zi_get, zi_set, h6, cM, zq_Mod_isWindow, zq_Mod_isIn, E1 F (by omega), E2 F (by omega)]
      have fin : ∃ v, ze_G (D + 4) 3 (some .int) zc_X6_about 22 [(0, .ref 232), (1, .int (nI k)), (2, .int (nI a))] [.int (nI a)] (zm_mk μ) (some (.int v)) (zm_mk μ) := by
        match a, ha with
        | 0, _ =>
          have t0 : (nI 0).toInt = 0 := by decide
          refine ⟨μ 234 k, 0, 6, fun F n hF => ?_⟩
          simp [zg_0, zg_aload_n, zg_bipush, zg_getfield, zg_goto, zg_iaload, zg_iconst, zg_ifCond, zg_if_icmp, zg_iload_n, zg_invokestatic, zg_invokevirtual, zg_ireturn, zg_ldc, zg_ldc_w, zg_tableswitch, zf_X6_about, zi_ld, zi_lda, zi_cmp, zi_retOk, zi_isI, zi_f3, zi_cr, zi_ci, zi_cn, zi_get, zi_set, t0, zM_g, zm_iald (k := 0) zM_A234 ik, ck]
        | 1, _ =>
          have t0 : (nI 1).toInt = 1 := by decide
          refine ⟨μ 235 k, 0, 6, fun F n hF => ?_⟩
          simp [zg_0, zg_aload_n, zg_bipush, zg_getfield, zg_goto, zg_iaload, zg_iconst, zg_ifCond, zg_if_icmp, zg_iload_n, zg_invokestatic, zg_invokevirtual, zg_ireturn, zg_ldc, zg_ldc_w, zg_tableswitch, zf_X6_about, zi_ld, zi_lda, zi_cmp, zi_retOk, zi_isI, zi_f3, zi_cr, zi_ci, zi_cn, zi_get, zi_set, t0, zM_g, zm_iald (k := 0) zM_A235 ik, ck]
        | 2, _ =>
          have t0 : (nI 2).toInt = 2 := by decide
          refine ⟨μ 236 k, 0, 6, fun F n hF => ?_⟩
          simp [zg_0, zg_aload_n, zg_bipush, zg_getfield, zg_goto, zg_iaload, zg_iconst, zg_ifCond, zg_if_icmp, zg_iload_n, zg_invokestatic, zg_invokevirtual, zg_ireturn, zg_ldc, zg_ldc_w, zg_tableswitch, zf_X6_about, zi_ld, zi_lda, zi_cmp, zi_retOk, zi_isI, zi_f3, zi_cr, zi_ci, zi_cn, zi_get, zi_set, t0, zM_g, zm_iald (k := 0) zM_A236 ik, ck]
        | 3, _ =>
          have t0 : (nI 3).toInt = 3 := by decide
          by_cases c : μ 234 k = 3
          · refine ⟨μ 237 k, 0, 13, fun F n hF => ?_⟩
            simp [zg_0, zg_aload_n, zg_bipush, zg_getfield, zg_goto, zg_iaload, zg_iconst, zg_ifCond, zg_if_icmp, zg_iload_n, zg_invokestatic, zg_invokevirtual, zg_ireturn, zg_ldc, zg_ldc_w, zg_tableswitch, zf_X6_about, zi_ld, zi_lda, zi_cmp, zi_retOk, zi_isI, zi_f3, zi_cr, zi_ci, zi_cn, zi_get, zi_set, t0, zM_g, zm_iald (k := 0) zM_A234 ik, zm_iald (k := 0) zM_A237 ik, ck, c]
          · refine ⟨-1000000005, 0, 9, fun F n hF => ?_⟩
            simp [zg_0, zg_aload_n, zg_bipush, zg_getfield, zg_goto, zg_iaload, zg_iconst, zg_ifCond, zg_if_icmp, zg_iload_n, zg_invokestatic, zg_invokevirtual, zg_ireturn, zg_ldc, zg_ldc_w, zg_tableswitch, zf_X6_about, zi_ld, zi_lda, zi_cmp, zi_retOk, zi_isI, zi_f3, zi_cr, zi_ci, zi_cn, zi_get, zi_set, t0, zM_g, zm_iald (k := 0) zM_A234 ik, ck, c, n5]
        | 4, _ =>
          have t0 : (nI 4).toInt = 4 := by decide
          obtain ⟨N3, E3⟩ := ze_MisFloating (μ := μ) (D + 3) hk
          by_cases c : 2 ≤ μ 234 k
          · rw [if_pos c] at E3
            refine ⟨1, N3, 8, fun F n hF => ?_⟩
            simp [zg_0, zg_aload_n, zg_bipush, zg_getfield, zg_goto, zg_iaload, zg_iconst, zg_ifCond, zg_if_icmp, zg_iload_n, zg_invokestatic, zg_invokevirtual, zg_ireturn, zg_ldc, zg_ldc_w, zg_tableswitch, zf_X6_about, zi_ld, zi_lda, zi_cmp, zi_retOk, zi_isI, zi_f3, zi_cr, zi_ci, zi_cn, zi_get, zi_set, t0, cM, zq_Mod_isFloating, E3 F (by omega)]
          · rw [if_neg c] at E3
            rcases zR_shn D h hk with ⟨⟨N4, E4⟩, -⟩ | ⟨⟨N4, E4⟩, -⟩
            · refine ⟨1, N3 + N4, 12, fun F n hF => ?_⟩
              simp [zg_0, zg_aload_n, zg_bipush, zg_getfield, zg_goto, zg_iaload, zg_iconst, zg_ifCond, zg_if_icmp, zg_iload_n, zg_invokestatic, zg_invokevirtual, zg_ireturn, zg_ldc, zg_ldc_w, zg_tableswitch, zf_X6_about, zi_ld, zi_lda, zi_cmp, zi_retOk, zi_isI, zi_f3, zi_cr, zi_ci, zi_cn, zi_get, zi_set, t0, cM, zq_Mod_isFloating, zq_Mod_isShown, E3 F (by omega), E4 F (by omega)]
            · refine ⟨0, N3 + N4, 11, fun F n hF => ?_⟩
              simp [zg_0, zg_aload_n, zg_bipush, zg_getfield, zg_goto, zg_iaload, zg_iconst, zg_ifCond, zg_if_icmp, zg_iload_n, zg_invokestatic, zg_invokevirtual, zg_ireturn, zg_ldc, zg_ldc_w, zg_tableswitch, zf_X6_about, zi_ld, zi_lda, zi_cmp, zi_retOk, zi_isI, zi_f3, zi_cr, zi_ci, zi_cn, zi_get, zi_set, t0, cM, zq_Mod_isFloating, zq_Mod_isShown, E3 F (by omega), E4 F (by omega)]
        | 5, _ =>
          have t0 : (nI 5).toInt = 5 := by decide
          have hL := h.2.1.1
          obtain ⟨v, E⟩ := ze_MplaceIn (μ := μ) (D + 3) zM_A242 hL.1 (nI k)
          have E3 : ze_E (D + 4) A_Mod_placeIn [.ref 243, .int (nI row.length), .int (nI k)] (zm_mk μ) (some (.int v)) (zm_mk μ) := E
          obtain ⟨N3, E3⟩ := E3
          refine ⟨v, N3, 8, fun F n hF => ?_⟩
          simp [zg_0, zg_aload_n, zg_bipush, zg_getfield, zg_goto, zg_iaload, zg_iconst, zg_ifCond, zg_if_icmp, zg_iload_n, zg_invokestatic, zg_invokevirtual, zg_ireturn, zg_ldc, zg_ldc_w, zg_tableswitch, zf_X6_about, zi_ld, zi_lda, zi_cmp, zi_retOk, zi_isI, zi_f3, zi_cr, zi_ci, zi_cn, zi_get, zi_set, t0, zM_g, hL.2.1, zq_Mod_placeIn, E3 F (by omega)]
        | 6, _ =>
          have t0 : (nI 6).toInt = 6 := by decide
          have hL := h.2.2.1.1
          obtain ⟨v, E⟩ := ze_MplaceIn (μ := μ) (D + 3) zM_A241 hL.1 (nI k)
          have E3 : ze_E (D + 4) A_Mod_placeIn [.ref 242, .int (nI stk.length), .int (nI k)] (zm_mk μ) (some (.int v)) (zm_mk μ) := E
          obtain ⟨N3, E3⟩ := E3
          refine ⟨v, N3, 8, fun F n hF => ?_⟩
          simp [zg_0, zg_aload_n, zg_bipush, zg_getfield, zg_goto, zg_iaload, zg_iconst, zg_ifCond, zg_if_icmp, zg_iload_n, zg_invokestatic, zg_invokevirtual, zg_ireturn, zg_ldc, zg_ldc_w, zg_tableswitch, zf_X6_about, zi_ld, zi_lda, zi_cmp, zi_retOk, zi_isI, zi_f3, zi_cr, zi_ci, zi_cn, zi_get, zi_set, t0, zM_g, hL.2.1, zq_Mod_placeIn, E3 F (by omega)]
      obtain ⟨v, G⟩ := fin
      exact ⟨v, ze_in [(0, .ref 232), (1, .int (nI k)), (2, .int (nI a))] zq_Mod_about (Nat.le_of_ble_eq_true rfl) rfl (S0.end G)⟩
    · refine ⟨-1000000001, ze_in [(0, .ref 232), (1, .int (nI k)), (2, .int x)] zq_Mod_about (Nat.le_of_ble_eq_true rfl) rfl ⟨N1 + N2, 11, fun F n hF => ?_⟩⟩
      simp [zg_0, zg_aload_n, zg_bipush, zg_getfield, zg_goto, zg_iaload, zg_iconst, zg_ifCond, zg_if_icmp, zg_iload_n, zg_invokestatic, zg_invokevirtual, zg_ireturn, zg_ldc, zg_ldc_w, zg_tableswitch, zf_X6_about, zi_ld, zi_lda, zi_cmp, zi_retOk, zi_isI, zi_f3, zi_cr, zi_ci, zi_cn, zi_get, zi_set, h6, cM, zq_Mod_isWindow, zq_Mod_isIn, E1 F (by omega), E2 F (by omega), n1]
  · refine ⟨-1000000001, ze_in [(0, .ref 232), (1, .int w), (2, .int x)] zq_Mod_about (Nat.le_of_ble_eq_true rfl) rfl ⟨N1, 6, fun F n hF => ?_⟩⟩
    simp [zg_0, zg_aload_n, zg_bipush, zg_getfield, zg_goto, zg_iaload, zg_iconst, zg_ifCond, zg_if_icmp, zg_iload_n, zg_invokestatic, zg_invokevirtual, zg_ireturn, zg_ldc, zg_ldc_w, zg_tableswitch, zf_X6_about, zi_ld, zi_lda, zi_cmp, zi_retOk, zi_isI, zi_f3, zi_cr, zi_ci, zi_cn, zi_get, zi_set, cM, zq_Mod_isWindow, E1 F (by omega), n1]
theorem zR_least (D : Nat) (h : zR μ row stk us) {s a : Nat} (hs : s < 3) (ha : a < 2) (c : ¬ μ 243 s < 0) : ∃ v, ze_E (D + 26) A_Mod_least [.ref 232, .int (nI s), .int (μ 243 s), .int (nI (1 - a))] (zm_mk μ) (some (.int v)) (zm_mk μ) := by
  obtain ⟨ab, hI⟩ := (h.2.2.2.2.1 s hs).1
  rcases hI.1 with ⟨-, hr⟩ | ⟨wt, ok, hr, -⟩
  · rw [hr] at c; exact absurd (by decide) c
  · have hl := zy_nodup_le 24 (zy_ids (us s)) hI.2.1 hI.2.2.1
    have hT := fun n hn => (fun (q : zu_T μ s n (zu_tb μ s n) ∧ zu_tb μ s n ≠ [] ∧ ∀ x ∈ zu_tb μ s n, x < 10) => (⟨q.1, q.2.2⟩ : zu_T μ s n (zu_tb μ s n) ∧ ∀ x ∈ zu_tb μ s n, x < 10)) (zu_I_tb hI (n := n) hn)
    have E1 := ze_Mleast (μ := μ) (τ := s) (by omega) ha (us s) wt ok hI.2.2.1 hT (D + 25 - (zy_ids (us s)).length)
    rw [show D + 25 - (zy_ids (us s)).length + 1 + (zy_ids (us s)).length = D + 26 by omega, ← hr] at E1
    exact ⟨_, E1⟩
theorem zv_tdS (D : Nat) {s : Nat} (hs : s < 3) (L0 : zi_Lc) (nl0 : zi_nl L0 = true) (a0 : zi_get L0 0 = some (.ref 232)) (a1 : zi_get L0 1 = some (.int (nI s))) (a3 : zi_get L0 3 = some (.int 0)) (a4 : zi_get L0 4 = some (.int (nI 0))) :
    ∃ r h', ze_G (D + 1) 5 (some .int) zc_X6_told 172 L0 [] (zm_mk μ) r h' ∧ ((∃ v, r = some (.int v)) ∧ zm_mk μ = h') := by
  have h10 : (Int8.ofInt 10).toInt32 = (10 : Int32) := by decide
  obtain ⟨lc, cM⟩ := zM_c (μ := μ)
  refine ze_loop (Q := fun i L hp => i ≤ 10 ∧ zi_nl L = true ∧ zi_get L 0 = some (.ref 232) ∧ zi_get L 1 = some (.int (nI s)) ∧ zi_get L 4 = some (.int (nI i)) ∧ zm_mk μ = hp ∧ ∃ (z : Int32), zi_get L 3 = some (.int z) ∧ (True)) (R := fun r h' => (∃ v, r = some (.int v)) ∧ zm_mk μ = h') 10 ?_ ?_ 10 0 _ _ (by omega) ⟨by omega, nl0, a0, a1, a4, rfl, 0, a3, trivial⟩
  · rintro i L _ hi ⟨-, nl, g0, g1, g4, rfl, z, g3, hq⟩
    have c1 : ¬ (10 : Int32) ≤ nI i := nI_ge (b := 10) hi (by decide)
    obtain ⟨N1, E1⟩ := ze_MisOnScreen (μ := μ) D hi (nI s)
    by_cases c2 : zv_on μ i (nI s) = true
    · rw [if_pos c2] at E1
      left
      refine ⟨zi_set (zi_set L 3 (.int (z + 1))) 4 (.int (nI (i + 1))), zm_mk μ, ⟨N1, 15, fun F m hF => ?_⟩, by omega, ?_, ?_, ?_, zi_get_set_eq, rfl, z + 1, ?_, trivial⟩
      · simp (maxDischargeDepth := 9) [zg_0, zg_aload_n, zg_bipush, zg_getfield, zg_goto, zg_iadd, zg_iaload, zg_iconst, zg_ifCond, zg_if_icmp, zg_iinc, zg_iload, zg_iload_n, zg_invokestatic, zg_invokevirtual, zg_ireturn, zg_istore, zg_istore_n, zg_isub, zg_ldc, zg_tableswitch, zf_X6_told, zi_ld, zi_lda, zi_cmp, zi_retOk, zi_isI, zi_f3, zi_cr, zi_ci, zi_cn, zi_get_ne, zi_nl_i, zi_nl_r, zi_get_set_eq, nl, g0, g1, g4, g3, h10, c1, cM, zq_Mod_isOnScreen, E1 F (by omega), nI_1]
      · simp (maxDischargeDepth := 9) [zi_get_ne, zi_nl_i, zi_nl_r, zi_get_set_eq, nl]
      · simp (maxDischargeDepth := 9) [zi_get_ne, zi_nl_i, zi_nl_r, zi_get_set_eq, nl, g0]
      · simp (maxDischargeDepth := 9) [zi_get_ne, zi_nl_i, zi_nl_r, zi_get_set_eq, nl, g1]
      · simp (maxDischargeDepth := 9) [zi_get_ne, zi_nl_i, zi_nl_r, zi_get_set_eq, nl, g3]
    · rw [if_neg c2] at E1
      left
      refine ⟨zi_set (zi_set L 3 (.int (z + 0))) 4 (.int (nI (i + 1))), zm_mk μ, ⟨N1, 14, fun F m hF => ?_⟩, by omega, ?_, ?_, ?_, zi_get_set_eq, rfl, z + 0, ?_, trivial⟩
      · simp (maxDischargeDepth := 9) [zg_0, zg_aload_n, zg_bipush, zg_getfield, zg_goto, zg_iadd, zg_iaload, zg_iconst, zg_ifCond, zg_if_icmp, zg_iinc, zg_iload, zg_iload_n, zg_invokestatic, zg_invokevirtual, zg_ireturn, zg_istore, zg_istore_n, zg_isub, zg_ldc, zg_tableswitch, zf_X6_told, zi_ld, zi_lda, zi_cmp, zi_retOk, zi_isI, zi_f3, zi_cr, zi_ci, zi_cn, zi_get_ne, zi_nl_i, zi_nl_r, zi_get_set_eq, nl, g0, g1, g4, g3, h10, c1, cM, zq_Mod_isOnScreen, E1 F (by omega), nI_1]
      · simp (maxDischargeDepth := 9) [zi_get_ne, zi_nl_i, zi_nl_r, zi_get_set_eq, nl]
      · simp (maxDischargeDepth := 9) [zi_get_ne, zi_nl_i, zi_nl_r, zi_get_set_eq, nl, g0]
      · simp (maxDischargeDepth := 9) [zi_get_ne, zi_nl_i, zi_nl_r, zi_get_set_eq, nl, g1]
      · simp (maxDischargeDepth := 9) [zi_get_ne, zi_nl_i, zi_nl_r, zi_get_set_eq, nl, g3]
  · rintro L _ ⟨-, nl, g0, g1, g4, rfl, z, g3, hq⟩
    have c1 : (10 : Int32) ≤ nI 10 := by decide
    refine ⟨some (.int z), zm_mk μ, ⟨0, 5, fun F m hF => ?_⟩, ⟨z, rfl⟩, rfl⟩
    simp [zg_0, zg_aload_n, zg_bipush, zg_getfield, zg_goto, zg_iadd, zg_iaload, zg_iconst, zg_ifCond, zg_if_icmp, zg_iinc, zg_iload, zg_iload_n, zg_invokestatic, zg_invokevirtual, zg_ireturn, zg_istore, zg_istore_n, zg_isub, zg_ldc, zg_tableswitch, zf_X6_told, zi_ld, zi_lda, zi_cmp, zi_retOk, zi_isI, zi_f3, zi_cr, zi_ci, zi_cn, g0, g1, g3, g4, h10, c1]
set_option maxRecDepth 100000 in
theorem ze_Mtold (D : Nat) (h : zR μ row stk us) (w x : Int32) : ∃ ν v, ze_E (D + 29) A_Mod_told [.ref 232, .int w, .int x] (zm_mk μ) (some (.int v)) (zm_mk ν) ∧ zM_fr μ ν := by
  have n1 : Int32.ofInt (-1000000001) = -1000000001 := by decide
  have n2 : Int32.ofInt (-1000000002) = -1000000002 := by decide
  have h6 : (Int8.ofInt 6).toInt32 = (6 : Int32) := by decide
  obtain ⟨lc, cM⟩ := zM_c (μ := μ)
  rcases zM_isIn (hp := zm_mk μ) (D + 27) w (n := 2) (b := 2) (by decide) (by decide) with ⟨s, hs, rfl, N1, E1⟩ | ⟨⟨N1, E1⟩, hno⟩
  · have hs : s < 3 := hs
    have is : zi_in (nI s) 3 = true := zm_in hs (by decide)
    have is7 : zi_in (nI s) 7 = true := zm_in (by omega) (by decide)
    have cs : (nI s).toNatClampNeg = s := nI_clamp (by omega)
    rcases zM_isIn (hp := zm_mk μ) (D + 27) x (n := 6) (b := 6) (by decide) (by decide) with ⟨a, ha, rfl, N2, E2⟩ | ⟨⟨N2, E2⟩, hno⟩
    · by_cases c0 : μ 232 s = 0
      · refine ⟨μ, -1000000002, ze_in [(0, .ref 232), (1, .int (nI s)), (2, .int (nI a))] zq_Mod_told (Nat.le_of_ble_eq_true rfl) rfl ⟨N1 + N2, 17, fun F n hF => ?_⟩, zM_fr.refl⟩
        simp [zg_0, zg_aload_n, zg_bipush, zg_getfield, zg_goto, zg_iadd, zg_iaload, zg_iconst, zg_ifCond, zg_if_icmp, zg_iinc, zg_iload, zg_iload_n, zg_invokestatic, zg_invokevirtual, zg_ireturn, zg_istore, zg_istore_n, zg_isub, zg_ldc, zg_tableswitch, zf_X6_told, zi_ld, zi_lda, zi_cmp, zi_retOk, zi_isI, zi_f3, zi_cr, zi_ci, zi_cn, zi_get, zi_set, zM_g, h6, zq_Mod_isIn, E1 F (by omega), E2 F (by omega), zm_iald (k := 0) zM_A232 is, cs, c0, n2]
      · obtain ⟨ab, hI⟩ := (h.2.2.2.2.1 s hs).1
        obtain ⟨ν, ⟨N3, E3⟩, -, f⟩ := ze_MclearLeaves (μ := μ) (D + 2) (τ := s) (by omega) hI
        have hR := h.fr f.fr
        obtain ⟨lc2, cM2⟩ := zM_c (μ := ν)
        have S0 : ze_S (D + 28) 5 (some .int) zc_X6_told 0 [(0, .ref 232), (1, .int (nI s)), (2, .int (nI a))] [] (zm_mk μ) 42 [(3, .int 0), (0, .ref 232), (1, .int (nI s)), (2, .int (nI a))] [.int (nI a)] (zm_mk ν) := by
          refine ⟨N1 + N2 + N3, 21, fun F n hF => ?_⟩
          simp [zg_0, zg_aload_n, zg_bipush, zg_getfield, zg_goto, zg_iadd, zg_iaload, zg_iconst, zg_ifCond, zg_if_icmp, zg_iinc, zg_iload, zg_iload_n, zg_invokestatic, zg_invokevirtual, zg_ireturn, zg_istore, zg_istore_n, zg_isub, zg_ldc, zg_tableswitch, zf_X6_told, zi_ld, zi_lda, zi_cmp, zi_retOk, zi_isI, zi_f3, zi_cr, zi_ci, zi_cn, zi_get, zi_set, zM_g, h6, cM, zq_Mod_isIn, zq_Mod_clearLeaves, E1 F (by omega), E2 F (by omega), E3 F (by omega), zm_iald (k := 0) zM_A232 is, cs, c0]
        have fin : ∃ v, ze_G (D + 28) 5 (some .int) zc_X6_told 42 [(3, .int 0), (0, .ref 232), (1, .int (nI s)), (2, .int (nI a))] [.int (nI a)] (zm_mk ν) (some (.int v)) (zm_mk ν) := by
          match a, ha with
          | 0, _ =>
            have t0 : (nI 0).toInt = 0 := by decide
            refine ⟨ν 232 s, 0, 6, fun F n hF => ?_⟩
            simp [zg_0, zg_aload_n, zg_bipush, zg_getfield, zg_goto, zg_iadd, zg_iaload, zg_iconst, zg_ifCond, zg_if_icmp, zg_iinc, zg_iload, zg_iload_n, zg_invokestatic, zg_invokevirtual, zg_ireturn, zg_istore, zg_istore_n, zg_isub, zg_ldc, zg_tableswitch, zf_X6_told, zi_ld, zi_lda, zi_cmp, zi_retOk, zi_isI, zi_f3, zi_cr, zi_ci, zi_cn, zi_get, zi_set, t0, zM_g, zm_iald (k := 0) zM_A232 is, cs]
          | 1, _ =>
            have t0 : (nI 1).toInt = 1 := by decide
            refine ⟨ν 233 s, 0, 6, fun F n hF => ?_⟩
            simp [zg_0, zg_aload_n, zg_bipush, zg_getfield, zg_goto, zg_iadd, zg_iaload, zg_iconst, zg_ifCond, zg_if_icmp, zg_iinc, zg_iload, zg_iload_n, zg_invokestatic, zg_invokevirtual, zg_ireturn, zg_istore, zg_istore_n, zg_isub, zg_ldc, zg_tableswitch, zf_X6_told, zi_ld, zi_lda, zi_cmp, zi_retOk, zi_isI, zi_f3, zi_cr, zi_ci, zi_cn, zi_get, zi_set, t0, zM_g, zm_iald (k := 0) zM_A233 is, cs]
          | 2, _ =>
            have t0 : (nI 2).toInt = 2 := by decide
            refine ⟨ν 231 30, 0, 4, fun F n hF => ?_⟩
            simp [zg_0, zg_aload_n, zg_bipush, zg_getfield, zg_goto, zg_iadd, zg_iaload, zg_iconst, zg_ifCond, zg_if_icmp, zg_iinc, zg_iload, zg_iload_n, zg_invokestatic, zg_invokevirtual, zg_ireturn, zg_istore, zg_istore_n, zg_isub, zg_ldc, zg_tableswitch, zf_X6_told, zi_ld, zi_lda, zi_cmp, zi_retOk, zi_isI, zi_f3, zi_cr, zi_ci, zi_cn, zi_get, zi_set, t0, zM_g]
          | 3, _ =>
            have t0 : (nI 3).toInt = 3 := by decide
            by_cases c : ν 231 30 ≤ 0
            · refine ⟨0, 0, 6, fun F n hF => ?_⟩
              simp [zg_0, zg_aload_n, zg_bipush, zg_getfield, zg_goto, zg_iadd, zg_iaload, zg_iconst, zg_ifCond, zg_if_icmp, zg_iinc, zg_iload, zg_iload_n, zg_invokestatic, zg_invokevirtual, zg_ireturn, zg_istore, zg_istore_n, zg_isub, zg_ldc, zg_tableswitch, zf_X6_told, zi_ld, zi_lda, zi_cmp, zi_retOk, zi_isI, zi_f3, zi_cr, zi_ci, zi_cn, zi_get, zi_set, t0, zM_g, c]
            · obtain ⟨d, hd⟩ := zv_opq (ν 231 30) 1
              refine ⟨d, 0, 10, fun F n hF => ?_⟩
              simp [zg_0, zg_aload_n, zg_bipush, zg_getfield, zg_goto, zg_iadd, zg_iaload, zg_iconst, zg_ifCond, zg_if_icmp, zg_iinc, zg_iload, zg_iload_n, zg_invokestatic, zg_invokevirtual, zg_ireturn, zg_istore, zg_istore_n, zg_isub, zg_ldc, zg_tableswitch, zf_X6_told, zi_ld, zi_lda, zi_cmp, zi_retOk, zi_isI, zi_f3, zi_cr, zi_ci, zi_cn, zi_get, zi_set, t0, zM_g, c, hd]
          | 4, _ =>
            have t0 : (nI 4).toInt = 4 := by decide
            by_cases c : 0 ≤ ν 243 s
            · obtain ⟨v, N4, E4⟩ := zR_least (D + 2) hR hs (a := 0) (by decide) (Int32.not_lt.mpr c)
              have q : nI (1 - 0) = 1 := by decide
              rw [q] at E4
              refine ⟨v, N4, 15, fun F n hF => ?_⟩
              simp [zg_0, zg_aload_n, zg_bipush, zg_getfield, zg_goto, zg_iadd, zg_iaload, zg_iconst, zg_ifCond, zg_if_icmp, zg_iinc, zg_iload, zg_iload_n, zg_invokestatic, zg_invokevirtual, zg_ireturn, zg_istore, zg_istore_n, zg_isub, zg_ldc, zg_tableswitch, zf_X6_told, zi_ld, zi_lda, zi_cmp, zi_retOk, zi_isI, zi_f3, zi_cr, zi_ci, zi_cn, zi_get, zi_set, t0, zM_g, cM2, zm_iald (k := 0) zM_A243 is7, cs, c, zq_Mod_least, E4 F (by omega)]
            · refine ⟨0, 0, 9, fun F n hF => ?_⟩
              simp [zg_0, zg_aload_n, zg_bipush, zg_getfield, zg_goto, zg_iadd, zg_iaload, zg_iconst, zg_ifCond, zg_if_icmp, zg_iinc, zg_iload, zg_iload_n, zg_invokestatic, zg_invokevirtual, zg_ireturn, zg_istore, zg_istore_n, zg_isub, zg_ldc, zg_tableswitch, zf_X6_told, zi_ld, zi_lda, zi_cmp, zi_retOk, zi_isI, zi_f3, zi_cr, zi_ci, zi_cn, zi_get, zi_set, t0, zM_g, zm_iald (k := 0) zM_A243 is7, cs, c]
          | 5, _ =>
            have t0 : (nI 5).toInt = 5 := by decide
            by_cases c : 0 ≤ ν 243 s
            · obtain ⟨v, N4, E4⟩ := zR_least (D + 2) hR hs (a := 1) (by decide) (Int32.not_lt.mpr c)
              have q : nI (1 - 1) = 0 := by decide
              rw [q] at E4
              refine ⟨v, N4, 15, fun F n hF => ?_⟩
              simp [zg_0, zg_aload_n, zg_bipush, zg_getfield, zg_goto, zg_iadd, zg_iaload, zg_iconst, zg_ifCond, zg_if_icmp, zg_iinc, zg_iload, zg_iload_n, zg_invokestatic, zg_invokevirtual, zg_ireturn, zg_istore, zg_istore_n, zg_isub, zg_ldc, zg_tableswitch, zf_X6_told, zi_ld, zi_lda, zi_cmp, zi_retOk, zi_isI, zi_f3, zi_cr, zi_ci, zi_cn, zi_get, zi_set, t0, zM_g, cM2, zm_iald (k := 0) zM_A243 is7, cs, c, zq_Mod_least, E4 F (by omega)]
            · refine ⟨0, 0, 9, fun F n hF => ?_⟩
              simp [zg_0, zg_aload_n, zg_bipush, zg_getfield, zg_goto, zg_iadd, zg_iaload, zg_iconst, zg_ifCond, zg_if_icmp, zg_iinc, zg_iload, zg_iload_n, zg_invokestatic, zg_invokevirtual, zg_ireturn, zg_istore, zg_istore_n, zg_isub, zg_ldc, zg_tableswitch, zf_X6_told, zi_ld, zi_lda, zi_cmp, zi_retOk, zi_isI, zi_f3, zi_cr, zi_ci, zi_cn, zi_get, zi_set, t0, zM_g, zm_iald (k := 0) zM_A243 is7, cs, c]
          | 6, _ =>
            have t0 : (nI 6).toInt = 6 := by decide
            obtain ⟨r, h', G, ⟨v, rfl⟩, rfl⟩ := zv_tdS (μ := ν) (D + 27) hs [(4, .int (nI 0)), (3, .int 0), (0, .ref 232), (1, .int (nI s)), (2, .int (nI 6))] rfl rfl rfl rfl rfl
            refine ⟨v, ze_S.end ⟨0, 3, fun F n hF => ?_⟩ G⟩
            simp [zg_0, zg_aload_n, zg_bipush, zg_getfield, zg_goto, zg_iadd, zg_iaload, zg_iconst, zg_ifCond, zg_if_icmp, zg_iinc, zg_iload, zg_iload_n, zg_invokestatic, zg_invokevirtual, zg_ireturn, zg_istore, zg_istore_n, zg_isub, zg_ldc, zg_tableswitch, zf_X6_told, zi_ld, zi_lda, zi_cmp, zi_retOk, zi_isI, zi_f3, zi_cr, zi_ci, zi_cn, zi_get, zi_set, t0, nI_0]
        obtain ⟨v, G⟩ := fin
        exact ⟨ν, v, ze_in [(0, .ref 232), (1, .int (nI s)), (2, .int (nI a))] zq_Mod_told (Nat.le_of_ble_eq_true rfl) rfl (S0.end G), f.fr⟩
    · refine ⟨μ, -1000000001, ze_in [(0, .ref 232), (1, .int (nI s)), (2, .int x)] zq_Mod_told (Nat.le_of_ble_eq_true rfl) rfl ⟨N1 + N2, 12, fun F n hF => ?_⟩, zM_fr.refl⟩
      simp [zg_0, zg_aload_n, zg_bipush, zg_getfield, zg_goto, zg_iadd, zg_iaload, zg_iconst, zg_ifCond, zg_if_icmp, zg_iinc, zg_iload, zg_iload_n, zg_invokestatic, zg_invokevirtual, zg_ireturn, zg_istore, zg_istore_n, zg_isub, zg_ldc, zg_tableswitch, zf_X6_told, zi_ld, zi_lda, zi_cmp, zi_retOk, zi_isI, zi_f3, zi_cr, zi_ci, zi_cn, zi_get, zi_set, h6, zq_Mod_isIn, E1 F (by omega), E2 F (by omega), n1]
  · refine ⟨μ, -1000000001, ze_in [(0, .ref 232), (1, .int w), (2, .int x)] zq_Mod_told (Nat.le_of_ble_eq_true rfl) rfl ⟨N1, 7, fun F n hF => ?_⟩, zM_fr.refl⟩
    simp [zg_0, zg_aload_n, zg_bipush, zg_getfield, zg_goto, zg_iadd, zg_iaload, zg_iconst, zg_ifCond, zg_if_icmp, zg_iinc, zg_iload, zg_iload_n, zg_invokestatic, zg_invokevirtual, zg_ireturn, zg_istore, zg_istore_n, zg_isub, zg_ldc, zg_tableswitch, zf_X6_told, zi_ld, zi_lda, zi_cmp, zi_retOk, zi_isI, zi_f3, zi_cr, zi_ci, zi_cn, zi_get, zi_set, zq_Mod_isIn, E1 F (by omega), n1]
end ZWF
end
section
/-! the reference: tab, count -/
section ZWG
variable {μ : zm_M} {row stk : List Nat} {us : Nat → zy_F}
theorem zv_nI_of {x : Int32} {n : Nat} (h0 : 0 ≤ x) (h1 : x < nI n) (hn : n < 2 ^ 31) : ∃ j, j < n ∧ x = nI j := by
  rcases zd_rng x n hn with h | h | h
  · exact h
  · exact absurd h (Int32.not_lt.mpr h0)
  · exact absurd h1 (Int32.not_lt.mpr h)
set_option maxRecDepth 100000 in
theorem ze_Mtab (D : Nat) (h : zR μ row stk us) (w x y : Int32) : ∃ ν v, ze_E (D + 29) A_Mod_tab [.ref 232, .int w, .int x, .int y] (zm_mk μ) (some (.int v)) (zm_mk ν) ∧ zM_fr μ ν := by
  have n1 : Int32.ofInt (-1000000001) = -1000000001 := by decide
  have n2 : Int32.ofInt (-1000000002) = -1000000002 := by decide
  have n5 : Int32.ofInt (-1000000005) = -1000000005 := by decide
  have m2 : (Int8.ofInt (-2)).toInt32 = (-2 : Int32) := by decide
  have h10 : (Int8.ofInt 10).toInt32 = (10 : Int32) := by decide
  obtain ⟨lc, cM⟩ := zM_c (μ := μ)
  rcases zM_isIn (hp := zm_mk μ) (D + 27) w (n := 2) (b := 2) (by decide) (by decide) with ⟨s, hs, rfl, N1, E1⟩ | ⟨⟨N1, E1⟩, hno⟩
  · have hs : s < 3 := hs
    have is : zi_in (nI s) 3 = true := zm_in hs (by decide)
    have cs : (nI s).toNatClampNeg = s := nI_clamp (by omega)
    by_cases q1 : x < 0
    · refine ⟨μ, -1000000001, ze_in [(0, .ref 232), (1, .int (nI s)), (2, .int x), (3, .int y)] zq_Mod_tab (Nat.le_of_ble_eq_true rfl) rfl ⟨N1, 9, fun F n hF => ?_⟩, zM_fr.refl⟩
      simp [zg_0, zg_aload_n, zg_bipush, zg_getfield, zg_goto, zg_iadd, zg_iaload, zg_iconst, zg_ifCond, zg_if_icmp, zg_iload, zg_iload_n, zg_imul, zg_invokestatic, zg_invokevirtual, zg_ireturn, zg_istore, zg_ldc, zg_ldc_w, zf_X6_tab, zi_ld, zi_lda, zi_cmp, zi_retOk, zi_isI, zi_f3, zi_cr, zi_ci, zi_cn, zi_get, zi_set, zq_Mod_isIn, E1 F (by omega), q1, n1]
    · by_cases q2 : -2 ≤ y
      · by_cases c0 : μ 232 s = 0
        · refine ⟨μ, -1000000002, ze_in [(0, .ref 232), (1, .int (nI s)), (2, .int x), (3, .int y)] zq_Mod_tab (Nat.le_of_ble_eq_true rfl) rfl ⟨N1, 17, fun F n hF => ?_⟩, zM_fr.refl⟩
          simp [zg_0, zg_aload_n, zg_bipush, zg_getfield, zg_goto, zg_iadd, zg_iaload, zg_iconst, zg_ifCond, zg_if_icmp, zg_iload, zg_iload_n, zg_imul, zg_invokestatic, zg_invokevirtual, zg_ireturn, zg_istore, zg_ldc, zg_ldc_w, zf_X6_tab, zi_ld, zi_lda, zi_cmp, zi_retOk, zi_isI, zi_f3, zi_cr, zi_ci, zi_cn, zi_get, zi_set, zM_g, m2, zq_Mod_isIn, E1 F (by omega), q1, q2, zm_iald (k := 0) zM_A232 is, cs, c0, n2]
        · obtain ⟨ab, hI⟩ := (h.2.2.2.2.1 s hs).1
          obtain ⟨hndl, h24, hlen⟩ := zu_lvs_nodup hI
          obtain ⟨ν, ⟨N3, E3⟩, hl, f⟩ := ze_MclearLeaves (μ := μ) (D + 2) (τ := s) (by omega) hI
          have hR := h.fr f.fr
          obtain ⟨lc2, cM2⟩ := zM_c (μ := ν)
          have S0 : ze_S (D + 28) 5 (some .int) zc_X6_tab 0 [(0, .ref 232), (1, .int (nI s)), (2, .int x), (3, .int y)] [] (zm_mk μ) 39 [(0, .ref 232), (1, .int (nI s)), (2, .int x), (3, .int y)] [] (zm_mk ν) := by
            refine ⟨N1 + N3, 18, fun F n hF => ?_⟩
            simp [zg_0, zg_aload_n, zg_bipush, zg_getfield, zg_goto, zg_iadd, zg_iaload, zg_iconst, zg_ifCond, zg_if_icmp, zg_iload, zg_iload_n, zg_imul, zg_invokestatic, zg_invokevirtual, zg_ireturn, zg_istore, zg_ldc, zg_ldc_w, zf_X6_tab, zi_ld, zi_lda, zi_cmp, zi_retOk, zi_isI, zi_f3, zi_cr, zi_ci, zi_cn, zi_get, zi_set, zM_g, m2, cM, zq_Mod_isIn, zq_Mod_clearLeaves, E1 F (by omega), E3 F (by omega), q1, q2, zm_iald (k := 0) zM_A232 is, cs, c0]
          by_cases q3 : x < nI (zy_lvs (us s)).length
          · obtain ⟨i, hi, rfl⟩ := zv_nI_of (Int32.not_lt.mp q1) q3 (by omega)
            have ii : zi_in (nI i) 24 = true := zm_in (by omega) (by decide)
            have ci : (nI i).toNatClampNeg = i := nI_clamp (by omega)
            have e2 := hl.2 i hi
            have hm := zl_mem hi
            have hm24 := h24 _ hm
            obtain ⟨ab2, hI2⟩ := (hR.2.2.2.2.1 s hs).1
            obtain ⟨t1, t2, t3⟩ := zu_I_tb hI2 hm
            generalize (zy_lvs (us s)).getD i 0 = m at e2 hm hm24 t1 t2 t3
            obtain ⟨N4, E4⟩ := ze_spot (h := zm_mk ν) (D + 27) (t := s) (n := m) (by omega)
            have iy : zi_in (nI (24 * s + m)) 168 = true := zm_in (by omega) (by decide)
            have cy : (nI (24 * s + m)).toNatClampNeg = 24 * s + m := nI_clamp (by omega)
            have S1 : ze_S (D + 28) 5 (some .int) zc_X6_tab 39 [(0, .ref 232), (1, .int (nI s)), (2, .int (nI i)), (3, .int y)] [] (zm_mk ν) 63 [(4, .int (nI (24 * s + m))), (0, .ref 232), (1, .int (nI s)), (2, .int (nI i)), (3, .int y)] [] (zm_mk ν) := by
              refine ⟨N4, 11, fun F n hF => ?_⟩
              simp [zg_0, zg_aload_n, zg_bipush, zg_getfield, zg_goto, zg_iadd, zg_iaload, zg_iconst, zg_ifCond, zg_if_icmp, zg_iload, zg_iload_n, zg_imul, zg_invokestatic, zg_invokevirtual, zg_ireturn, zg_istore, zg_ldc, zg_ldc_w, zf_X6_tab, zi_ld, zi_lda, zi_cmp, zi_retOk, zi_isI, zi_f3, zi_cr, zi_ci, zi_cn, zi_get, zi_set, zM_g, hl.1, q3, zm_iald (k := 0) zM_A259 ii, ci, e2, zq_Mod_spot, E4 F (by omega)]
            have fin : ∃ v, ze_G (D + 28) 5 (some .int) zc_X6_tab 63 [(4, .int (nI (24 * s + m))), (0, .ref 232), (1, .int (nI s)), (2, .int (nI i)), (3, .int y)] [] (zm_mk ν) (some (.int v)) (zm_mk ν) := by
              by_cases q4 : 0 ≤ y
              · by_cases q5 : y < nI (zu_tb ν s m).length
                · have l10 := t1.1
                  obtain ⟨j, hj, rfl⟩ := zv_nI_of q4 q5 (by omega)
                  have mk : (10 : Int32) * nI (24 * s + m) = nI (10 * (24 * s + m)) := nI_mul10 (by omega)
                  have ij : zi_in (nI (10 * (24 * s + m) + j)) 1680 = true := zm_in (by omega) (by decide)
                  have cj : (nI (10 * (24 * s + m) + j)).toNatClampNeg = 10 * (24 * s + m) + j := nI_clamp (by omega)
                  have q5' : ¬ nI (zu_tb ν s m).length ≤ nI j := Int32.not_le.mpr q5
                  refine ⟨ν 248 (10 * (24 * s + m) + j), 0, 18, fun F n hF => ?_⟩
                  simp [zg_0, zg_aload_n, zg_bipush, zg_getfield, zg_goto, zg_iadd, zg_iaload, zg_iconst, zg_ifCond, zg_if_icmp, zg_iload, zg_iload_n, zg_imul, zg_invokestatic, zg_invokevirtual, zg_ireturn, zg_istore, zg_ldc, zg_ldc_w, zf_X6_tab, zi_ld, zi_lda, zi_cmp, zi_retOk, zi_isI, zi_f3, zi_cr, zi_ci, zi_cn, zi_get, zi_set, zM_g, h10, q4, q5', zm_iald (k := 0) zM_A249 iy, cy, t1.2.1, mk, nI_add, zm_iald (k := 0) zM_A248 ij, cj]
                · have q5' : nI (zu_tb ν s m).length ≤ y := Int32.not_lt.mp q5
                  refine ⟨-1000000005, 0, 10, fun F n hF => ?_⟩
                  simp [zg_0, zg_aload_n, zg_bipush, zg_getfield, zg_goto, zg_iadd, zg_iaload, zg_iconst, zg_ifCond, zg_if_icmp, zg_iload, zg_iload_n, zg_imul, zg_invokestatic, zg_invokevirtual, zg_ireturn, zg_istore, zg_ldc, zg_ldc_w, zf_X6_tab, zi_ld, zi_lda, zi_cmp, zi_retOk, zi_isI, zi_f3, zi_cr, zi_ci, zi_cn, zi_get, zi_set, zM_g, q4, q5', zm_iald (k := 0) zM_A249 iy, cy, t1.2.1, n5]
              · by_cases q6 : y = -1
                · subst q6
                  refine ⟨ν 249 (24 * s + m), 0, 11, fun F n hF => ?_⟩
                  simp [zg_0, zg_aload_n, zg_bipush, zg_getfield, zg_goto, zg_iadd, zg_iaload, zg_iconst, zg_ifCond, zg_if_icmp, zg_iload, zg_iload_n, zg_imul, zg_invokestatic, zg_invokevirtual, zg_ireturn, zg_istore, zg_ldc, zg_ldc_w, zf_X6_tab, zi_ld, zi_lda, zi_cmp, zi_retOk, zi_isI, zi_f3, zi_cr, zi_ci, zi_cn, zi_get, zi_set, zM_g, q4, zm_iald (k := 0) zM_A249 iy, cy]
                · refine ⟨ν 250 (24 * s + m), 0, 10, fun F n hF => ?_⟩
                  simp [zg_0, zg_aload_n, zg_bipush, zg_getfield, zg_goto, zg_iadd, zg_iaload, zg_iconst, zg_ifCond, zg_if_icmp, zg_iload, zg_iload_n, zg_imul, zg_invokestatic, zg_invokevirtual, zg_ireturn, zg_istore, zg_ldc, zg_ldc_w, zf_X6_tab, zi_ld, zi_lda, zi_cmp, zi_retOk, zi_isI, zi_f3, zi_cr, zi_ci, zi_cn, zi_get, zi_set, zM_g, q4, q6, zm_iald (k := 0) zM_A250 iy, cy]
            obtain ⟨v, G⟩ := fin
            exact ⟨ν, v, ze_in [(0, .ref 232), (1, .int (nI s)), (2, .int (nI i)), (3, .int y)] zq_Mod_tab (Nat.le_of_ble_eq_true rfl) rfl (S0.end (S1.end G)), f.fr⟩
          · refine ⟨ν, -1000000005, ze_in [(0, .ref 232), (1, .int (nI s)), (2, .int x), (3, .int y)] zq_Mod_tab (Nat.le_of_ble_eq_true rfl) rfl (S0.end ⟨0, 6, fun F n hF => ?_⟩), f.fr⟩
            simp [zg_0, zg_aload_n, zg_bipush, zg_getfield, zg_goto, zg_iadd, zg_iaload, zg_iconst, zg_ifCond, zg_if_icmp, zg_iload, zg_iload_n, zg_imul, zg_invokestatic, zg_invokevirtual, zg_ireturn, zg_istore, zg_ldc, zg_ldc_w, zf_X6_tab, zi_ld, zi_lda, zi_cmp, zi_retOk, zi_isI, zi_f3, zi_cr, zi_ci, zi_cn, zi_get, zi_set, zM_g, hl.1, q3, n5]
      · refine ⟨μ, -1000000001, ze_in [(0, .ref 232), (1, .int (nI s)), (2, .int x), (3, .int y)] zq_Mod_tab (Nat.le_of_ble_eq_true rfl) rfl ⟨N1, 12, fun F n hF => ?_⟩, zM_fr.refl⟩
        simp [zg_0, zg_aload_n, zg_bipush, zg_getfield, zg_goto, zg_iadd, zg_iaload, zg_iconst, zg_ifCond, zg_if_icmp, zg_iload, zg_iload_n, zg_imul, zg_invokestatic, zg_invokevirtual, zg_ireturn, zg_istore, zg_ldc, zg_ldc_w, zf_X6_tab, zi_ld, zi_lda, zi_cmp, zi_retOk, zi_isI, zi_f3, zi_cr, zi_ci, zi_cn, zi_get, zi_set, m2, zq_Mod_isIn, E1 F (by omega), q1, q2, n1]
  · refine ⟨μ, -1000000001, ze_in [(0, .ref 232), (1, .int w), (2, .int x), (3, .int y)] zq_Mod_tab (Nat.le_of_ble_eq_true rfl) rfl ⟨N1, 7, fun F n hF => ?_⟩, zM_fr.refl⟩
    simp [zg_0, zg_aload_n, zg_bipush, zg_getfield, zg_goto, zg_iadd, zg_iaload, zg_iconst, zg_ifCond, zg_if_icmp, zg_iload, zg_iload_n, zg_imul, zg_invokestatic, zg_invokevirtual, zg_ireturn, zg_istore, zg_ldc, zg_ldc_w, zf_X6_tab, zi_ld, zi_lda, zi_cmp, zi_retOk, zi_isI, zi_f3, zi_cr, zi_ci, zi_cn, zi_get, zi_set, zq_Mod_isIn, E1 F (by omega), n1]
theorem zv_ctA (D : Nat) (L0 : zi_Lc) (nl0 : zi_nl L0 = true) (a0 : zi_get L0 0 = some (.ref 232)) (a2 : zi_get L0 2 = some (.int 0)) (a3 : zi_get L0 3 = some (.int (nI 0))) : ∃ r h', ze_G D 4 (some .int) zc_X6_count 42 L0 [] (zm_mk μ) r h' ∧ ((∃ v, r = some (.int v)) ∧ zm_mk μ = h') := by
  refine ze_loop (Q := fun i L hp => i ≤ 3 ∧ zi_nl L = true ∧ zi_get L 0 = some (.ref 232) ∧ zi_get L 3 = some (.int (nI i)) ∧ zm_mk μ = hp ∧ ∃ (z : Int32), zi_get L 2 = some (.int z) ∧ (True)) (R := fun r h' => (∃ v, r = some (.int v)) ∧ zm_mk μ = h') 3 ?_ ?_ 3 0 _ _ (by omega) ⟨by omega, nl0, a0, a3, rfl, 0, a2, trivial⟩
  · rintro i L _ hi ⟨-, nl, g0, g3, rfl, z, g2, hq⟩
    have c1 : ¬ (3 : Int32) ≤ nI i := nI_ge (b := 3) hi (by decide)
    have ik : zi_in (nI i) 3 = true := zm_in hi (by decide)
    have ck : (nI i).toNatClampNeg = i := nI_clamp (by omega)
    by_cases c2 : μ 232 i ≤ 0
    · left
      refine ⟨zi_set (zi_set L 2 (.int (z + 0))) 3 (.int (nI (i + 1))), zm_mk μ, ⟨0, 14, fun F m hF => ?_⟩, by omega, ?_, ?_, zi_get_set_eq, rfl, z + 0, ?_, trivial⟩
      · simp (maxDischargeDepth := 9) [zg_0, zg_aload_n, zg_baload, zg_bipush, zg_getfield, zg_goto, zg_iadd, zg_iaload, zg_iconst, zg_ifCond, zg_if_icmp, zg_iinc, zg_iload_n, zg_ireturn, zg_istore_n, zg_ldc, zg_ldc_w, zg_tableswitch, zf_X6_count, zi_ld, zi_lda, zi_cmp, zi_retOk, zi_isI, zi_f3, zi_cr, zi_ci, zi_cn, zi_get_ne, zi_nl_i, zi_nl_r, zi_get_set_eq, nl, g0, g3, g2, c1, zM_g, zm_iald (k := 0) zM_A232 ik, ck, c2, nI_1]
      · simp (maxDischargeDepth := 9) [zi_get_ne, zi_nl_i, zi_nl_r, zi_get_set_eq, nl]
      · simp (maxDischargeDepth := 9) [zi_get_ne, zi_nl_i, zi_nl_r, zi_get_set_eq, nl, g0]
      · simp (maxDischargeDepth := 9) [zi_get_ne, zi_nl_i, zi_nl_r, zi_get_set_eq, nl, g2]
    · left
      refine ⟨zi_set (zi_set L 2 (.int (z + 1))) 3 (.int (nI (i + 1))), zm_mk μ, ⟨0, 15, fun F m hF => ?_⟩, by omega, ?_, ?_, zi_get_set_eq, rfl, z + 1, ?_, trivial⟩
      · simp (maxDischargeDepth := 9) [zg_0, zg_aload_n, zg_baload, zg_bipush, zg_getfield, zg_goto, zg_iadd, zg_iaload, zg_iconst, zg_ifCond, zg_if_icmp, zg_iinc, zg_iload_n, zg_ireturn, zg_istore_n, zg_ldc, zg_ldc_w, zg_tableswitch, zf_X6_count, zi_ld, zi_lda, zi_cmp, zi_retOk, zi_isI, zi_f3, zi_cr, zi_ci, zi_cn, zi_get_ne, zi_nl_i, zi_nl_r, zi_get_set_eq, nl, g0, g3, g2, c1, zM_g, zm_iald (k := 0) zM_A232 ik, ck, c2, nI_1]
      · simp (maxDischargeDepth := 9) [zi_get_ne, zi_nl_i, zi_nl_r, zi_get_set_eq, nl]
      · simp (maxDischargeDepth := 9) [zi_get_ne, zi_nl_i, zi_nl_r, zi_get_set_eq, nl, g0]
      · simp (maxDischargeDepth := 9) [zi_get_ne, zi_nl_i, zi_nl_r, zi_get_set_eq, nl, g2]
  · rintro L _ ⟨-, nl, g0, g3, rfl, z, g2, hq⟩
    have c1 : (3 : Int32) ≤ nI 3 := by decide
    refine ⟨some (.int z), zm_mk μ, ⟨0, 5, fun F m hF => ?_⟩, ⟨z, rfl⟩, rfl⟩
    simp [zg_0, zg_aload_n, zg_baload, zg_bipush, zg_getfield, zg_goto, zg_iadd, zg_iaload, zg_iconst, zg_ifCond, zg_if_icmp, zg_iinc, zg_iload_n, zg_ireturn, zg_istore_n, zg_ldc, zg_ldc_w, zg_tableswitch, zf_X6_count, zi_ld, zi_lda, zi_cmp, zi_retOk, zi_isI, zi_f3, zi_cr, zi_ci, zi_cn, g0, g2, g3, c1]
theorem zv_ctB (D : Nat) (L0 : zi_Lc) (nl0 : zi_nl L0 = true) (a0 : zi_get L0 0 = some (.ref 232)) (a2 : zi_get L0 2 = some (.int 0)) (a3 : zi_get L0 3 = some (.int (nI 0))) : ∃ r h', ze_G D 4 (some .int) zc_X6_count 79 L0 [] (zm_mk μ) r h' ∧ ((∃ v, r = some (.int v)) ∧ zm_mk μ = h') := by
  have h10 : (Int8.ofInt 10).toInt32 = (10 : Int32) := by decide
  refine ze_loop (Q := fun i L hp => i ≤ 10 ∧ zi_nl L = true ∧ zi_get L 0 = some (.ref 232) ∧ zi_get L 3 = some (.int (nI i)) ∧ zm_mk μ = hp ∧ ∃ (z : Int32), zi_get L 2 = some (.int z) ∧ (True)) (R := fun r h' => (∃ v, r = some (.int v)) ∧ zm_mk μ = h') 10 ?_ ?_ 10 0 _ _ (by omega) ⟨by omega, nl0, a0, a3, rfl, 0, a2, trivial⟩
  · rintro i L _ hi ⟨-, nl, g0, g3, rfl, z, g2, hq⟩
    have c1 : ¬ (10 : Int32) ≤ nI i := nI_ge (b := 10) hi (by decide)
    have ik : zi_in (nI i) 10 = true := zm_in hi (by decide)
    have ck : (nI i).toNatClampNeg = i := nI_clamp (by omega)
    by_cases c2 : μ 234 i = 1
    · left
      refine ⟨zi_set (zi_set L 2 (.int (z + 1))) 3 (.int (nI (i + 1))), zm_mk μ, ⟨0, 16, fun F m hF => ?_⟩, by omega, ?_, ?_, zi_get_set_eq, rfl, z + 1, ?_, trivial⟩
      · simp (maxDischargeDepth := 9) [zg_0, zg_aload_n, zg_baload, zg_bipush, zg_getfield, zg_goto, zg_iadd, zg_iaload, zg_iconst, zg_ifCond, zg_if_icmp, zg_iinc, zg_iload_n, zg_ireturn, zg_istore_n, zg_ldc, zg_ldc_w, zg_tableswitch, zf_X6_count, zi_ld, zi_lda, zi_cmp, zi_retOk, zi_isI, zi_f3, zi_cr, zi_ci, zi_cn, zi_get_ne, zi_nl_i, zi_nl_r, zi_get_set_eq, nl, g0, g3, g2, h10, c1, zM_g, zm_iald (k := 0) zM_A234 ik, ck, c2, nI_1]
      · simp (maxDischargeDepth := 9) [zi_get_ne, zi_nl_i, zi_nl_r, zi_get_set_eq, nl]
      · simp (maxDischargeDepth := 9) [zi_get_ne, zi_nl_i, zi_nl_r, zi_get_set_eq, nl, g0]
      · simp (maxDischargeDepth := 9) [zi_get_ne, zi_nl_i, zi_nl_r, zi_get_set_eq, nl, g2]
    · left
      refine ⟨zi_set (zi_set L 2 (.int (z + 0))) 3 (.int (nI (i + 1))), zm_mk μ, ⟨0, 15, fun F m hF => ?_⟩, by omega, ?_, ?_, zi_get_set_eq, rfl, z + 0, ?_, trivial⟩
      · simp (maxDischargeDepth := 9) [zg_0, zg_aload_n, zg_baload, zg_bipush, zg_getfield, zg_goto, zg_iadd, zg_iaload, zg_iconst, zg_ifCond, zg_if_icmp, zg_iinc, zg_iload_n, zg_ireturn, zg_istore_n, zg_ldc, zg_ldc_w, zg_tableswitch, zf_X6_count, zi_ld, zi_lda, zi_cmp, zi_retOk, zi_isI, zi_f3, zi_cr, zi_ci, zi_cn, zi_get_ne, zi_nl_i, zi_nl_r, zi_get_set_eq, nl, g0, g3, g2, h10, c1, zM_g, zm_iald (k := 0) zM_A234 ik, ck, c2, nI_1]
      · simp (maxDischargeDepth := 9) [zi_get_ne, zi_nl_i, zi_nl_r, zi_get_set_eq, nl]
      · simp (maxDischargeDepth := 9) [zi_get_ne, zi_nl_i, zi_nl_r, zi_get_set_eq, nl, g0]
      · simp (maxDischargeDepth := 9) [zi_get_ne, zi_nl_i, zi_nl_r, zi_get_set_eq, nl, g2]
  · rintro L _ ⟨-, nl, g0, g3, rfl, z, g2, hq⟩
    have c1 : (10 : Int32) ≤ nI 10 := by decide
    refine ⟨some (.int z), zm_mk μ, ⟨0, 5, fun F m hF => ?_⟩, ⟨z, rfl⟩, rfl⟩
    simp [zg_0, zg_aload_n, zg_baload, zg_bipush, zg_getfield, zg_goto, zg_iadd, zg_iaload, zg_iconst, zg_ifCond, zg_if_icmp, zg_iinc, zg_iload_n, zg_ireturn, zg_istore_n, zg_ldc, zg_ldc_w, zg_tableswitch, zf_X6_count, zi_ld, zi_lda, zi_cmp, zi_retOk, zi_isI, zi_f3, zi_cr, zi_ci, zi_cn, g0, g2, g3, h10, c1]
theorem zv_ctC (D : Nat) (L0 : zi_Lc) (nl0 : zi_nl L0 = true) (a0 : zi_get L0 0 = some (.ref 232)) (a2 : zi_get L0 2 = some (.int 0)) (a3 : zi_get L0 3 = some (.int (nI 0))) : ∃ r h', ze_G D 4 (some .int) zc_X6_count 138 L0 [] (zm_mk μ) r h' ∧ ((∃ v, r = some (.int v)) ∧ zm_mk μ = h') := by
  refine ze_loop (Q := fun i L hp => i ≤ 3 ∧ zi_nl L = true ∧ zi_get L 0 = some (.ref 232) ∧ zi_get L 3 = some (.int (nI i)) ∧ zm_mk μ = hp ∧ ∃ (z : Int32), zi_get L 2 = some (.int z) ∧ (True)) (R := fun r h' => (∃ v, r = some (.int v)) ∧ zm_mk μ = h') 3 ?_ ?_ 3 0 _ _ (by omega) ⟨by omega, nl0, a0, a3, rfl, 0, a2, trivial⟩
  · rintro i L _ hi ⟨-, nl, g0, g3, rfl, z, g2, hq⟩
    have c1 : ¬ (3 : Int32) ≤ nI i := nI_ge (b := 3) hi (by decide)
    have ik : zi_in (nI i) 3 = true := zm_in hi (by decide)
    have ck : (nI i).toNatClampNeg = i := nI_clamp (by omega)
    by_cases c2 : μ 251 i = 0
    · left
      refine ⟨zi_set (zi_set L 2 (.int (z + 0))) 3 (.int (nI (i + 1))), zm_mk μ, ⟨0, 14, fun F m hF => ?_⟩, by omega, ?_, ?_, zi_get_set_eq, rfl, z + 0, ?_, trivial⟩
      · simp (maxDischargeDepth := 9) [zg_0, zg_aload_n, zg_baload, zg_bipush, zg_getfield, zg_goto, zg_iadd, zg_iaload, zg_iconst, zg_ifCond, zg_if_icmp, zg_iinc, zg_iload_n, zg_ireturn, zg_istore_n, zg_ldc, zg_ldc_w, zg_tableswitch, zf_X6_count, zi_ld, zi_lda, zi_cmp, zi_retOk, zi_isI, zi_f3, zi_cr, zi_ci, zi_cn, zi_get_ne, zi_nl_i, zi_nl_r, zi_get_set_eq, nl, g0, g3, g2, c1, zM_g, zm_bald zM_A251 ik, ck, c2, nI_1]
      · simp (maxDischargeDepth := 9) [zi_get_ne, zi_nl_i, zi_nl_r, zi_get_set_eq, nl]
      · simp (maxDischargeDepth := 9) [zi_get_ne, zi_nl_i, zi_nl_r, zi_get_set_eq, nl, g0]
      · simp (maxDischargeDepth := 9) [zi_get_ne, zi_nl_i, zi_nl_r, zi_get_set_eq, nl, g2]
    · left
      refine ⟨zi_set (zi_set L 2 (.int (z + 1))) 3 (.int (nI (i + 1))), zm_mk μ, ⟨0, 15, fun F m hF => ?_⟩, by omega, ?_, ?_, zi_get_set_eq, rfl, z + 1, ?_, trivial⟩
      · simp (maxDischargeDepth := 9) [zg_0, zg_aload_n, zg_baload, zg_bipush, zg_getfield, zg_goto, zg_iadd, zg_iaload, zg_iconst, zg_ifCond, zg_if_icmp, zg_iinc, zg_iload_n, zg_ireturn, zg_istore_n, zg_ldc, zg_ldc_w, zg_tableswitch, zf_X6_count, zi_ld, zi_lda, zi_cmp, zi_retOk, zi_isI, zi_f3, zi_cr, zi_ci, zi_cn, zi_get_ne, zi_nl_i, zi_nl_r, zi_get_set_eq, nl, g0, g3, g2, c1, zM_g, zm_bald zM_A251 ik, ck, c2, nI_1]
      · simp (maxDischargeDepth := 9) [zi_get_ne, zi_nl_i, zi_nl_r, zi_get_set_eq, nl]
      · simp (maxDischargeDepth := 9) [zi_get_ne, zi_nl_i, zi_nl_r, zi_get_set_eq, nl, g0]
      · simp (maxDischargeDepth := 9) [zi_get_ne, zi_nl_i, zi_nl_r, zi_get_set_eq, nl, g2]
  · rintro L _ ⟨-, nl, g0, g3, rfl, z, g2, hq⟩
    have c1 : (3 : Int32) ≤ nI 3 := by decide
    refine ⟨some (.int z), zm_mk μ, ⟨0, 5, fun F m hF => ?_⟩, ⟨z, rfl⟩, rfl⟩
    simp [zg_0, zg_aload_n, zg_baload, zg_bipush, zg_getfield, zg_goto, zg_iadd, zg_iaload, zg_iconst, zg_ifCond, zg_if_icmp, zg_iinc, zg_iload_n, zg_ireturn, zg_istore_n, zg_ldc, zg_ldc_w, zg_tableswitch, zf_X6_count, zi_ld, zi_lda, zi_cmp, zi_retOk, zi_isI, zi_f3, zi_cr, zi_ci, zi_cn, g0, g2, g3, c1]
set_option maxRecDepth 100000 in
theorem ze_Mcount (D : Nat) (x : Int32) : ∃ v, ze_E (D + 1) A_Mod_count [.ref 232, .int x] (zm_mk μ) (some (.int v)) (zm_mk μ) := by
  have n1 : Int32.ofInt (-1000000001) = -1000000001 := by decide
  have n5 : Int32.ofInt (-1000000005) = -1000000005 := by decide
  have i0 : zi_in (0 : Int32) 10 = true := by decide
  have z0 : (0 : Int32).toNatClampNeg = 0 := by decide
  have fin : ∃ v, ze_G D 4 (some .int) zc_X6_count 0 [(0, .ref 232), (1, .int x)] [] (zm_mk μ) (some (.int v)) (zm_mk μ) := by
    rcases zd_rng x 6 (by decide) with ⟨j, hj, rfl⟩ | ho
    · match j, hj with
      | 0, _ =>
        have t0 : (nI 0).toInt = 0 := by decide
        obtain ⟨r, h', G, ⟨v, rfl⟩, rfl⟩ := zv_ctA (μ := μ) D [(3, .int (nI 0)), (2, .int 0), (0, .ref 232), (1, .int (nI 0))] rfl rfl rfl rfl
        refine ⟨v, ze_S.end ⟨0, 6, fun F n hF => ?_⟩ G⟩
        simp [zg_0, zg_aload_n, zg_baload, zg_bipush, zg_getfield, zg_goto, zg_iadd, zg_iaload, zg_iconst, zg_ifCond, zg_if_icmp, zg_iinc, zg_iload_n, zg_ireturn, zg_istore_n, zg_ldc, zg_ldc_w, zg_tableswitch, zf_X6_count, zi_ld, zi_lda, zi_cmp, zi_retOk, zi_isI, zi_f3, zi_cr, zi_ci, zi_cn, zi_get, zi_set, t0, nI_0]
      | 1, _ =>
        have t0 : (nI 1).toInt = 1 := by decide
        refine ⟨μ 231 12, 0, 7, fun F n hF => ?_⟩
        simp [zg_0, zg_aload_n, zg_baload, zg_bipush, zg_getfield, zg_goto, zg_iadd, zg_iaload, zg_iconst, zg_ifCond, zg_if_icmp, zg_iinc, zg_iload_n, zg_ireturn, zg_istore_n, zg_ldc, zg_ldc_w, zg_tableswitch, zf_X6_count, zi_ld, zi_lda, zi_cmp, zi_retOk, zi_isI, zi_f3, zi_cr, zi_ci, zi_cn, zi_get, zi_set, t0, zM_g]
      | 2, _ =>
        have t0 : (nI 2).toInt = 2 := by decide
        obtain ⟨r, h', G, ⟨v, rfl⟩, rfl⟩ := zv_ctB (μ := μ) D [(3, .int (nI 0)), (2, .int 0), (0, .ref 232), (1, .int (nI 2))] rfl rfl rfl rfl
        refine ⟨v, ze_S.end ⟨0, 6, fun F n hF => ?_⟩ G⟩
        simp [zg_0, zg_aload_n, zg_baload, zg_bipush, zg_getfield, zg_goto, zg_iadd, zg_iaload, zg_iconst, zg_ifCond, zg_if_icmp, zg_iinc, zg_iload_n, zg_ireturn, zg_istore_n, zg_ldc, zg_ldc_w, zg_tableswitch, zf_X6_count, zi_ld, zi_lda, zi_cmp, zi_retOk, zi_isI, zi_f3, zi_cr, zi_ci, zi_cn, zi_get, zi_set, t0, nI_0]
      | 3, _ =>
        have t0 : (nI 3).toInt = 3 := by decide
        refine ⟨μ 231 10, 0, 7, fun F n hF => ?_⟩
        simp [zg_0, zg_aload_n, zg_baload, zg_bipush, zg_getfield, zg_goto, zg_iadd, zg_iaload, zg_iconst, zg_ifCond, zg_if_icmp, zg_iinc, zg_iload_n, zg_ireturn, zg_istore_n, zg_ldc, zg_ldc_w, zg_tableswitch, zf_X6_count, zi_ld, zi_lda, zi_cmp, zi_retOk, zi_isI, zi_f3, zi_cr, zi_ci, zi_cn, zi_get, zi_set, t0, zM_g]
      | 4, _ =>
        have t0 : (nI 4).toInt = 4 := by decide
        by_cases c : μ 231 12 ≤ 0
        · refine ⟨-1000000005, 0, 9, fun F n hF => ?_⟩
          simp [zg_0, zg_aload_n, zg_baload, zg_bipush, zg_getfield, zg_goto, zg_iadd, zg_iaload, zg_iconst, zg_ifCond, zg_if_icmp, zg_iinc, zg_iload_n, zg_ireturn, zg_istore_n, zg_ldc, zg_ldc_w, zg_tableswitch, zf_X6_count, zi_ld, zi_lda, zi_cmp, zi_retOk, zi_isI, zi_f3, zi_cr, zi_ci, zi_cn, zi_get, zi_set, t0, zM_g, c, n5]
        · refine ⟨μ 242 0, 0, 13, fun F n hF => ?_⟩
          simp [zg_0, zg_aload_n, zg_baload, zg_bipush, zg_getfield, zg_goto, zg_iadd, zg_iaload, zg_iconst, zg_ifCond, zg_if_icmp, zg_iinc, zg_iload_n, zg_ireturn, zg_istore_n, zg_ldc, zg_ldc_w, zg_tableswitch, zf_X6_count, zi_ld, zi_lda, zi_cmp, zi_retOk, zi_isI, zi_f3, zi_cr, zi_ci, zi_cn, zi_get, zi_set, t0, zM_g, c, zm_iald (k := 0) zM_A242 i0, z0]
      | 5, _ =>
        have t0 : (nI 5).toInt = 5 := by decide
        obtain ⟨r, h', G, ⟨v, rfl⟩, rfl⟩ := zv_ctC (μ := μ) D [(3, .int (nI 0)), (2, .int 0), (0, .ref 232), (1, .int (nI 5))] rfl rfl rfl rfl
        refine ⟨v, ze_S.end ⟨0, 6, fun F n hF => ?_⟩ G⟩
        simp [zg_0, zg_aload_n, zg_baload, zg_bipush, zg_getfield, zg_goto, zg_iadd, zg_iaload, zg_iconst, zg_ifCond, zg_if_icmp, zg_iinc, zg_iload_n, zg_ireturn, zg_istore_n, zg_ldc, zg_ldc_w, zg_tableswitch, zf_X6_count, zi_ld, zi_lda, zi_cmp, zi_retOk, zi_isI, zi_f3, zi_cr, zi_ci, zi_cn, zi_get, zi_set, t0, nI_0]
    · have ho' : x.toInt < 0 ∨ 5 < x.toInt := by
        rcases zd_sw (by decide) ho with q | q
        · exact Or.inl q
        · right; omega
      refine ⟨-1000000001, 0, 6, fun F n hF => ?_⟩
      simp [zg_0, zg_aload_n, zg_baload, zg_bipush, zg_getfield, zg_goto, zg_iadd, zg_iaload, zg_iconst, zg_ifCond, zg_if_icmp, zg_iinc, zg_iload_n, zg_ireturn, zg_istore_n, zg_ldc, zg_ldc_w, zg_tableswitch, zf_X6_count, zi_ld, zi_lda, zi_cmp, zi_retOk, zi_isI, zi_f3, zi_cr, zi_ci, zi_cn, zi_get, zi_set, ho', n1]
  obtain ⟨v, G⟩ := fin
  exact ⟨v, ze_in [(0, .ref 232), (1, .int x)] zq_Mod_count (Nat.le_of_ble_eq_true rfl) rfl G⟩
end ZWG
end
section
/-! the reference: lies, at -/
section ZWH
variable {μ : zm_M} {row stk : List Nat} {us : Nat → zy_F}
set_option maxRecDepth 100000 in
theorem zv_liesC (D : Nat) {k : Nat} (hk : k < 10) (x y p q : Int32) (s : Nat) : ∃ v : Int32, (v = 0 ∨ v = 1) ∧ ze_G (D + 1) 7 (some .boolean) zc_X6_lies 138 [(6, .int q), (5, .int p), (0, .ref 232), (1, .int (nI k)), (2, .int (nI s)), (3, .int x), (4, .int y)] [] (zm_mk μ) (some (.int v)) (zm_mk μ) := by
  have ik : zi_in (nI k) 10 = true := zm_in hk (by decide)
  have ck : (nI k).toNatClampNeg = k := nI_clamp (by omega)
  by_cases c1 : x < p
  · refine ⟨0, Or.inl rfl, 0, 5, fun F n hF => ?_⟩
    simp [zg_0, zg_aload_n, zg_getfield, zg_goto, zg_iadd, zg_iaload, zg_iconst, zg_ifCond, zg_if_icmp, zg_iload, zg_iload_n, zg_invokestatic, zg_invokevirtual, zg_ireturn, zg_istore, zg_isub, zf_X6_lies, zi_ld, zi_lda, zi_cmp, zi_retOk, zi_isI, zi_f3, zi_cr, zi_ci, zi_cn, zi_get, zi_set, c1]
  · by_cases c2 : p + μ 235 k ≤ x
    · refine ⟨0, Or.inl rfl, 0, 13, fun F n hF => ?_⟩
      simp [zg_0, zg_aload_n, zg_getfield, zg_goto, zg_iadd, zg_iaload, zg_iconst, zg_ifCond, zg_if_icmp, zg_iload, zg_iload_n, zg_invokestatic, zg_invokevirtual, zg_ireturn, zg_istore, zg_isub, zf_X6_lies, zi_ld, zi_lda, zi_cmp, zi_retOk, zi_isI, zi_f3, zi_cr, zi_ci, zi_cn, zi_get, zi_set, c1, zM_g, zm_iald (k := 0) zM_A235 ik, ck, c2]
    · by_cases c3 : y < q
      · refine ⟨0, Or.inl rfl, 0, 16, fun F n hF => ?_⟩
        simp [zg_0, zg_aload_n, zg_getfield, zg_goto, zg_iadd, zg_iaload, zg_iconst, zg_ifCond, zg_if_icmp, zg_iload, zg_iload_n, zg_invokestatic, zg_invokevirtual, zg_ireturn, zg_istore, zg_isub, zf_X6_lies, zi_ld, zi_lda, zi_cmp, zi_retOk, zi_isI, zi_f3, zi_cr, zi_ci, zi_cn, zi_get, zi_set, c1, zM_g, zm_iald (k := 0) zM_A235 ik, ck, c2, c3]
      · by_cases c4 : q + μ 236 k ≤ y
        · refine ⟨0, Or.inl rfl, 0, 24, fun F n hF => ?_⟩
          simp [zg_0, zg_aload_n, zg_getfield, zg_goto, zg_iadd, zg_iaload, zg_iconst, zg_ifCond, zg_if_icmp, zg_iload, zg_iload_n, zg_invokestatic, zg_invokevirtual, zg_ireturn, zg_istore, zg_isub, zf_X6_lies, zi_ld, zi_lda, zi_cmp, zi_retOk, zi_isI, zi_f3, zi_cr, zi_ci, zi_cn, zi_get, zi_set, c1, zM_g, zm_iald (k := 0) zM_A235 ik, zm_iald (k := 0) zM_A236 ik, ck, c2, c3, c4]
        · refine ⟨1, Or.inr rfl, 0, 25, fun F n hF => ?_⟩
          simp [zg_0, zg_aload_n, zg_getfield, zg_goto, zg_iadd, zg_iaload, zg_iconst, zg_ifCond, zg_if_icmp, zg_iload, zg_iload_n, zg_invokestatic, zg_invokevirtual, zg_ireturn, zg_istore, zg_isub, zf_X6_lies, zi_ld, zi_lda, zi_cmp, zi_retOk, zi_isI, zi_f3, zi_cr, zi_ci, zi_cn, zi_get, zi_set, c1, zM_g, zm_iald (k := 0) zM_A235 ik, zm_iald (k := 0) zM_A236 ik, ck, c2, c3, c4]
set_option maxRecDepth 100000 in
theorem ze_Mlies (D : Nat) {k s : Nat} (hk : k < 10) (hs : s < 3) (x y : Int32) : ∃ v : Int32, (v = 0 ∨ v = 1) ∧ ze_E (D + 2) A_Mod_lies [.ref 232, .int (nI k), .int (nI s), .int x, .int y] (zm_mk μ) (some (.int v)) (zm_mk μ) := by
  have ik : zi_in (nI k) 10 = true := zm_in hk (by decide)
  have ck : (nI k).toNatClampNeg = k := nI_clamp (by omega)
  have is : zi_in (nI s) 3 = true := zm_in hs (by decide)
  have cs : (nI s).toNatClampNeg = s := nI_clamp (by omega)
  obtain ⟨lc, cM⟩ := zM_c (μ := μ)
  by_cases c1 : μ 234 k = 4
  · obtain ⟨N1, E1⟩ := ze_McanBeWhole (μ := μ) D hk (μ 232 s) (μ 233 s)
    by_cases c2 : μ 235 k ≤ μ 232 s ∧ μ 236 k ≤ μ 233 s
    · rw [if_pos c2] at E1
      obtain ⟨d1, hd1⟩ := zv_opq (μ 232 s) (μ 235 k)
      obtain ⟨d2, hd2⟩ := zv_opq (μ 233 s) (μ 236 k)
      obtain ⟨N2, E2⟩ := ze_Mnearest (h := zm_mk μ) D (μ 239 k) d1
      obtain ⟨N3, E3⟩ := ze_Mnearest (h := zm_mk μ) D (μ 240 k) d2
      generalize zv_ne (μ 239 k) d1 = p at E2
      generalize zv_ne (μ 240 k) d2 = q at E3
      obtain ⟨v, hv, G⟩ := zv_liesC (μ := μ) D hk x y p q s
      refine ⟨v, hv, ze_in [(0, .ref 232), (1, .int (nI k)), (2, .int (nI s)), (3, .int x), (4, .int y)] zq_Mod_lies (Nat.le_of_ble_eq_true rfl) rfl (ze_S.end ⟨N1 + N2 + N3, 68, fun F n hF => ?_⟩ G)⟩
      simp [zg_0, zg_aload_n, zg_getfield, zg_goto, zg_iadd, zg_iaload, zg_iconst, zg_ifCond, zg_if_icmp, zg_iload, zg_iload_n, zg_invokestatic, zg_invokevirtual, zg_ireturn, zg_istore, zg_isub, zf_X6_lies, zi_ld, zi_lda, zi_cmp, zi_retOk, zi_isI, zi_f3, zi_cr, zi_ci, zi_cn, zi_get, zi_set, zM_g, cM, zm_iald (k := 0) zM_A234 ik, zm_iald (k := 0) zM_A235 ik, zm_iald (k := 0) zM_A236 ik, zm_iald (k := 0) zM_A239 ik, zm_iald (k := 0) zM_A240 ik, zm_iald (k := 0) zM_A232 is, zm_iald (k := 0) zM_A233 is, ck, cs, c1, hd1, hd2, zq_Mod_canBeWhole, zq_Mod_nearest, E1 F (by omega), E2 F (by omega), E3 F (by omega)]
    · rw [if_neg c2] at E1
      refine ⟨0, Or.inl rfl, ze_in [(0, .ref 232), (1, .int (nI k)), (2, .int (nI s)), (3, .int x), (4, .int y)] zq_Mod_lies (Nat.le_of_ble_eq_true rfl) rfl ⟨N1, 26, fun F n hF => ?_⟩⟩
      simp [zg_0, zg_aload_n, zg_getfield, zg_goto, zg_iadd, zg_iaload, zg_iconst, zg_ifCond, zg_if_icmp, zg_iload, zg_iload_n, zg_invokestatic, zg_invokevirtual, zg_ireturn, zg_istore, zg_isub, zf_X6_lies, zi_ld, zi_lda, zi_cmp, zi_retOk, zi_isI, zi_f3, zi_cr, zi_ci, zi_cn, zi_get, zi_set, zM_g, cM, zm_iald (k := 0) zM_A234 ik, zm_iald (k := 0) zM_A232 is, zm_iald (k := 0) zM_A233 is, ck, cs, c1, zq_Mod_canBeWhole, E1 F (by omega)]
  · by_cases c2 : μ 238 k = nI s
    · obtain ⟨v, hv, G⟩ := zv_liesC (μ := μ) D hk x y (μ 239 k) (μ 240 k) s
      refine ⟨v, hv, ze_in [(0, .ref 232), (1, .int (nI k)), (2, .int (nI s)), (3, .int x), (4, .int y)] zq_Mod_lies (Nat.le_of_ble_eq_true rfl) rfl (ze_S.end ⟨0, 40, fun F n hF => ?_⟩ G)⟩
      simp [zg_0, zg_aload_n, zg_getfield, zg_goto, zg_iadd, zg_iaload, zg_iconst, zg_ifCond, zg_if_icmp, zg_iload, zg_iload_n, zg_invokestatic, zg_invokevirtual, zg_ireturn, zg_istore, zg_isub, zf_X6_lies, zi_ld, zi_lda, zi_cmp, zi_retOk, zi_isI, zi_f3, zi_cr, zi_ci, zi_cn, zi_get, zi_set, zM_g, zm_iald (k := 0) zM_A234 ik, zm_iald (k := 0) zM_A238 ik, zm_iald (k := 0) zM_A239 ik, zm_iald (k := 0) zM_A240 ik, ck, c1, c2]
    · refine ⟨0, Or.inl rfl, ze_in [(0, .ref 232), (1, .int (nI k)), (2, .int (nI s)), (3, .int x), (4, .int y)] zq_Mod_lies (Nat.le_of_ble_eq_true rfl) rfl ⟨0, 14, fun F n hF => ?_⟩⟩
      simp [zg_0, zg_aload_n, zg_getfield, zg_goto, zg_iadd, zg_iaload, zg_iconst, zg_ifCond, zg_if_icmp, zg_iload, zg_iload_n, zg_invokestatic, zg_invokevirtual, zg_ireturn, zg_istore, zg_isub, zf_X6_lies, zi_ld, zi_lda, zi_cmp, zi_retOk, zi_isI, zi_f3, zi_cr, zi_ci, zi_cn, zi_get, zi_set, zM_g, zm_iald (k := 0) zM_A234 ik, zm_iald (k := 0) zM_A238 ik, ck, c1, c2]
set_option maxRecDepth 100000 in
/-- the leaf at a point -/
theorem zv_atL (D : Nat) {s : Nat} (hs : s < 3) {l : List Nat} (hl : zu_lv μ l) (h24 : ∀ n ∈ l, n < 24) (hlen : l.length ≤ 24) (x y : Int32) (L0 : zi_Lc) (nl0 : zi_nl L0 = true) (a0 : zi_get L0 0 = some (.ref 232)) (a1 : zi_get L0 1 = some (.int (nI s))) (a2 : zi_get L0 2 = some (.int x)) (a3 : zi_get L0 3 = some (.int y)) (a4 : zi_get L0 4 = some (.int (nI 0))) :
    ∃ r h', ze_G (D + 1) 6 (some .int) zc_X6_at 111 L0 [] (zm_mk μ) r h' ∧ ((∃ v, r = some (.int v)) ∧ zm_mk μ = h') := by
  have n5 : Int32.ofInt (-1000000005) = -1000000005 := by decide
  have k1 := hl.1
  refine ze_loop (Q := fun i L hp => i ≤ l.length ∧ zi_nl L = true ∧ zi_get L 0 = some (.ref 232) ∧ zi_get L 1 = some (.int (nI s)) ∧ zi_get L 2 = some (.int x) ∧ zi_get L 3 = some (.int y) ∧ zi_get L 4 = some (.int (nI i)) ∧ zm_mk μ = hp ∧ (True)) (R := fun r h' => (∃ v, r = some (.int v)) ∧ zm_mk μ = h') l.length ?_ ?_ l.length 0 _ _ (by omega) ⟨by omega, nl0, a0, a1, a2, a3, a4, rfl, trivial⟩
  · rintro i L _ hi ⟨-, nl, g0, g1, g2, g3, g4, rfl, hq⟩
    have k2 := hl.2 i hi
    have hmem := h24 _ (zl_mem hi)
    have c1 : ¬ nI l.length ≤ nI i := nI_ge hi (by omega)
    have ii : zi_in (nI i) 24 = true := zm_in (by omega) (by decide)
    have ci : (nI i).toNatClampNeg = i := nI_clamp (by omega)
    generalize l.getD i 0 = m at k2 hmem
    have im : zi_in (nI m) 24 = true := zm_in hmem (by decide)
    have cm : (nI m).toNatClampNeg = m := nI_clamp (by omega)
    obtain ⟨N1, E1⟩ := ze_spot (h := zm_mk μ) D (t := s) (n := m) (by omega)
    by_cases c2 : x < μ 255 m
    · left
      refine ⟨zi_set (zi_set L 5 (.int (nI m))) 4 (.int (nI (i + 1))), zm_mk μ, ⟨N1, 17, fun F m hF => ?_⟩, by omega, ?_, ?_, ?_, ?_, ?_, zi_get_set_eq, rfl, trivial⟩
      · simp (maxDischargeDepth := 9) [zg_0, zg_aload_n, zg_getfield, zg_goto, zg_iadd, zg_iaload, zg_iconst, zg_ifCond, zg_if_icmp, zg_iinc, zg_iload, zg_iload_n, zg_invokestatic, zg_invokevirtual, zg_ireturn, zg_istore, zg_isub, zg_ldc, zg_ldc_w, zf_X6_at, zi_ld, zi_lda, zi_cmp, zi_retOk, zi_isI, zi_f3, zi_cr, zi_ci, zi_cn, zi_get_ne, zi_nl_i, zi_nl_r, zi_get_set_eq, nl, g0, g1, g2, g3, g4, zM_g, k1, c1, zm_iald (k := 0) zM_A259 ii, ci, k2, zm_iald (k := 0) zM_A255 im, cm, c2, nI_1]
      · simp (maxDischargeDepth := 9) [zi_get_ne, zi_nl_i, zi_nl_r, zi_get_set_eq, nl]
      · simp (maxDischargeDepth := 9) [zi_get_ne, zi_nl_i, zi_nl_r, zi_get_set_eq, nl, g0]
      · simp (maxDischargeDepth := 9) [zi_get_ne, zi_nl_i, zi_nl_r, zi_get_set_eq, nl, g1]
      · simp (maxDischargeDepth := 9) [zi_get_ne, zi_nl_i, zi_nl_r, zi_get_set_eq, nl, g2]
      · simp (maxDischargeDepth := 9) [zi_get_ne, zi_nl_i, zi_nl_r, zi_get_set_eq, nl, g3]
    · by_cases c3 : μ 255 m + μ 257 m ≤ x
      · left
        refine ⟨zi_set (zi_set L 5 (.int (nI m))) 4 (.int (nI (i + 1))), zm_mk μ, ⟨N1, 28, fun F m hF => ?_⟩, by omega, ?_, ?_, ?_, ?_, ?_, zi_get_set_eq, rfl, trivial⟩
        · simp (maxDischargeDepth := 9) [zg_0, zg_aload_n, zg_getfield, zg_goto, zg_iadd, zg_iaload, zg_iconst, zg_ifCond, zg_if_icmp, zg_iinc, zg_iload, zg_iload_n, zg_invokestatic, zg_invokevirtual, zg_ireturn, zg_istore, zg_isub, zg_ldc, zg_ldc_w, zf_X6_at, zi_ld, zi_lda, zi_cmp, zi_retOk, zi_isI, zi_f3, zi_cr, zi_ci, zi_cn, zi_get_ne, zi_nl_i, zi_nl_r, zi_get_set_eq, nl, g0, g1, g2, g3, g4, zM_g, k1, c1, zm_iald (k := 0) zM_A259 ii, ci, k2, zm_iald (k := 0) zM_A255 im, zm_iald (k := 0) zM_A257 im, cm, c2, c3, nI_1]
        · simp (maxDischargeDepth := 9) [zi_get_ne, zi_nl_i, zi_nl_r, zi_get_set_eq, nl]
        · simp (maxDischargeDepth := 9) [zi_get_ne, zi_nl_i, zi_nl_r, zi_get_set_eq, nl, g0]
        · simp (maxDischargeDepth := 9) [zi_get_ne, zi_nl_i, zi_nl_r, zi_get_set_eq, nl, g1]
        · simp (maxDischargeDepth := 9) [zi_get_ne, zi_nl_i, zi_nl_r, zi_get_set_eq, nl, g2]
        · simp (maxDischargeDepth := 9) [zi_get_ne, zi_nl_i, zi_nl_r, zi_get_set_eq, nl, g3]
      · by_cases c4 : y < μ 256 m
        · left
          refine ⟨zi_set (zi_set L 5 (.int (nI m))) 4 (.int (nI (i + 1))), zm_mk μ, ⟨N1, 34, fun F m hF => ?_⟩, by omega, ?_, ?_, ?_, ?_, ?_, zi_get_set_eq, rfl, trivial⟩
          · simp (maxDischargeDepth := 9) [zg_0, zg_aload_n, zg_getfield, zg_goto, zg_iadd, zg_iaload, zg_iconst, zg_ifCond, zg_if_icmp, zg_iinc, zg_iload, zg_iload_n, zg_invokestatic, zg_invokevirtual, zg_ireturn, zg_istore, zg_isub, zg_ldc, zg_ldc_w, zf_X6_at, zi_ld, zi_lda, zi_cmp, zi_retOk, zi_isI, zi_f3, zi_cr, zi_ci, zi_cn, zi_get_ne, zi_nl_i, zi_nl_r, zi_get_set_eq, nl, g0, g1, g2, g3, g4, zM_g, k1, c1, zm_iald (k := 0) zM_A259 ii, ci, k2, zm_iald (k := 0) zM_A255 im, zm_iald (k := 0) zM_A257 im, zm_iald (k := 0) zM_A256 im, cm, c2, c3, c4, nI_1]
          · simp (maxDischargeDepth := 9) [zi_get_ne, zi_nl_i, zi_nl_r, zi_get_set_eq, nl]
          · simp (maxDischargeDepth := 9) [zi_get_ne, zi_nl_i, zi_nl_r, zi_get_set_eq, nl, g0]
          · simp (maxDischargeDepth := 9) [zi_get_ne, zi_nl_i, zi_nl_r, zi_get_set_eq, nl, g1]
          · simp (maxDischargeDepth := 9) [zi_get_ne, zi_nl_i, zi_nl_r, zi_get_set_eq, nl, g2]
          · simp (maxDischargeDepth := 9) [zi_get_ne, zi_nl_i, zi_nl_r, zi_get_set_eq, nl, g3]
        · by_cases c5 : μ 256 m + μ 258 m ≤ y
          · left
            refine ⟨zi_set (zi_set L 5 (.int (nI m))) 4 (.int (nI (i + 1))), zm_mk μ, ⟨N1, 45, fun F m hF => ?_⟩, by omega, ?_, ?_, ?_, ?_, ?_, zi_get_set_eq, rfl, trivial⟩
            · simp (maxDischargeDepth := 9) [zg_0, zg_aload_n, zg_getfield, zg_goto, zg_iadd, zg_iaload, zg_iconst, zg_ifCond, zg_if_icmp, zg_iinc, zg_iload, zg_iload_n, zg_invokestatic, zg_invokevirtual, zg_ireturn, zg_istore, zg_isub, zg_ldc, zg_ldc_w, zf_X6_at, zi_ld, zi_lda, zi_cmp, zi_retOk, zi_isI, zi_f3, zi_cr, zi_ci, zi_cn, zi_get_ne, zi_nl_i, zi_nl_r, zi_get_set_eq, nl, g0, g1, g2, g3, g4, zM_g, k1, c1, zm_iald (k := 0) zM_A259 ii, ci, k2, zm_iald (k := 0) zM_A255 im, zm_iald (k := 0) zM_A257 im, zm_iald (k := 0) zM_A256 im, zm_iald (k := 0) zM_A258 im, cm, c2, c3, c4, c5, nI_1]
            · simp (maxDischargeDepth := 9) [zi_get_ne, zi_nl_i, zi_nl_r, zi_get_set_eq, nl]
            · simp (maxDischargeDepth := 9) [zi_get_ne, zi_nl_i, zi_nl_r, zi_get_set_eq, nl, g0]
            · simp (maxDischargeDepth := 9) [zi_get_ne, zi_nl_i, zi_nl_r, zi_get_set_eq, nl, g1]
            · simp (maxDischargeDepth := 9) [zi_get_ne, zi_nl_i, zi_nl_r, zi_get_set_eq, nl, g2]
            · simp (maxDischargeDepth := 9) [zi_get_ne, zi_nl_i, zi_nl_r, zi_get_set_eq, nl, g3]
          · have iy : zi_in (nI (24 * s + m)) 168 = true := zm_in (by omega) (by decide)
            have cy : (nI (24 * s + m)).toNatClampNeg = 24 * s + m := nI_clamp (by omega)
            right
            refine ⟨some (.int (μ 250 (24 * s + m))), zm_mk μ, ⟨N1, 50, fun F m hF => ?_⟩, ⟨_, rfl⟩, rfl⟩
            simp (maxDischargeDepth := 9) [zg_0, zg_aload_n, zg_getfield, zg_goto, zg_iadd, zg_iaload, zg_iconst, zg_ifCond, zg_if_icmp, zg_iinc, zg_iload, zg_iload_n, zg_invokestatic, zg_invokevirtual, zg_ireturn, zg_istore, zg_isub, zg_ldc, zg_ldc_w, zf_X6_at, zi_ld, zi_lda, zi_cmp, zi_retOk, zi_isI, zi_f3, zi_cr, zi_ci, zi_cn, zi_get_ne, zi_nl_i, zi_nl_r, zi_get_set_eq, nl, g0, g1, g2, g3, g4, zM_g, k1, c1, zm_iald (k := 0) zM_A259 ii, ci, k2, zm_iald (k := 0) zM_A255 im, zm_iald (k := 0) zM_A257 im, zm_iald (k := 0) zM_A256 im, zm_iald (k := 0) zM_A258 im, cm, c2, c3, c4, c5, zq_Mod_spot, E1 F (by omega), zm_iald (k := 0) zM_A250 iy, cy, nI_1]
  · rintro L _ ⟨-, nl, g0, g1, g2, g3, g4, rfl, hq⟩
    have c1 : nI l.length ≤ nI l.length := Int32.le_refl _
    refine ⟨some (.int (-1000000005)), zm_mk μ, ⟨0, 6, fun F m hF => ?_⟩, ⟨_, rfl⟩, rfl⟩
    simp [zg_0, zg_aload_n, zg_getfield, zg_goto, zg_iadd, zg_iaload, zg_iconst, zg_ifCond, zg_if_icmp, zg_iinc, zg_iload, zg_iload_n, zg_invokestatic, zg_invokevirtual, zg_ireturn, zg_istore, zg_isub, zg_ldc, zg_ldc_w, zf_X6_at, zi_ld, zi_lda, zi_cmp, zi_retOk, zi_isI, zi_f3, zi_cr, zi_ci, zi_cn, g0, g1, g2, g3, g4, zM_g, k1, c1, n5]

set_option maxRecDepth 100000 in
theorem zv_atT (D : Nat) {s : Nat} (hs : s < 3) {l : List Nat} (hL : zv_L μ 241 10 l) (hb : ∀ k ∈ l, k < 10) (x y : Int32) : ∀ (j : Nat), j ≤ l.length → ∀ (L : zi_Lc), zi_nl L = true → zi_get L 0 = some (.ref 232) → zi_get L 1 = some (.int (nI s)) → zi_get L 2 = some (.int x) → zi_get L 3 = some (.int y) → zi_get L 4 = some (.int (zv_dn j)) →
    (∃ v, ze_G (D + 2) 6 (some .int) zc_X6_at 67 L [] (zm_mk μ) (some (.int v)) (zm_mk μ)) ∨ ∃ L', ze_S (D + 2) 6 (some .int) zc_X6_at 67 L [] (zm_mk μ) 103 L' [] (zm_mk μ) ∧ zi_nl L' = true ∧ zi_get L' 0 = some (.ref 232) ∧ zi_get L' 1 = some (.int (nI s)) ∧ zi_get L' 2 = some (.int x) ∧ zi_get L' 3 = some (.int y) := by
  obtain ⟨lc, cM⟩ := zM_c (μ := μ)
  have om : Int32.ofInt (-1) = -1 := by decide
  intro j
  induction j with
  | zero =>
    intro hj L nl g0 g1 g2 g3 g4
    have c1 : zv_dn 0 < 0 := by decide
    refine Or.inr ⟨L, ⟨0, 2, fun F m hF => ?_⟩, nl, g0, g1, g2, g3⟩
    simp (maxDischargeDepth := 9) [zg_0, zg_aload_n, zg_getfield, zg_goto, zg_iadd, zg_iaload, zg_iconst, zg_ifCond, zg_if_icmp, zg_iinc, zg_iload, zg_iload_n, zg_invokestatic, zg_invokevirtual, zg_ireturn, zg_istore, zg_isub, zg_ldc, zg_ldc_w, zf_X6_at, zi_ld, zi_lda, zi_cmp, zi_retOk, zi_isI, zi_f3, zi_cr, zi_ci, zi_cn, zi_get_ne, zi_nl_i, zi_nl_r, zi_get_set_eq, nl, g0, g1, g2, g3, g4, c1]
  | succ j ih =>
    intro hj L nl g0 g1 g2 g3 g4
    have g4 : zi_get L 4 = some (.int (nI j)) := g4
    have l10 := hL.1
    have e1 := hL.2.2 j (by omega)
    have hk := hb _ (zl_mem (show j < l.length by omega))
    generalize l.getD j 0 = k at e1 hk
    have c1 : ¬ nI j < 0 := nI_pos (by omega)
    have ij : zi_in (nI j) 10 = true := zm_in (by omega) (by decide)
    have cj : (nI j).toNatClampNeg = j := nI_clamp (by omega)
    have hd : nI j + -1 = zv_dn j := zv_dn_s (by omega)
    obtain ⟨v, hv, N1, E1⟩ := ze_Mlies (μ := μ) D hk hs x y
    rcases hv with rfl | rfl
    · rcases ih (by omega) (zi_set L 4 (.int (zv_dn j))) (by simp (maxDischargeDepth := 9) [zi_get_ne, zi_nl_i, zi_nl_r, zi_get_set_eq, nl]) (by simp (maxDischargeDepth := 9) [zi_get_ne, zi_nl_i, zi_nl_r, zi_get_set_eq, nl, g0]) (by simp (maxDischargeDepth := 9) [zi_get_ne, zi_nl_i, zi_nl_r, zi_get_set_eq, nl, g1]) (by simp (maxDischargeDepth := 9) [zi_get_ne, zi_nl_i, zi_nl_r, zi_get_set_eq, nl, g2]) (by simp (maxDischargeDepth := 9) [zi_get_ne, zi_nl_i, zi_nl_r, zi_get_set_eq, nl, g3]) zi_get_set_eq with ⟨v, G⟩ | ⟨L', S, q⟩
      · refine Or.inl ⟨v, ze_S.end ⟨N1, 14, fun F m hF => ?_⟩ G⟩
        simp (maxDischargeDepth := 9) [zg_0, zg_aload_n, zg_getfield, zg_goto, zg_iadd, zg_iaload, zg_iconst, zg_ifCond, zg_if_icmp, zg_iinc, zg_iload, zg_iload_n, zg_invokestatic, zg_invokevirtual, zg_ireturn, zg_istore, zg_isub, zg_ldc, zg_ldc_w, zf_X6_at, zi_ld, zi_lda, zi_cmp, zi_retOk, zi_isI, zi_f3, zi_cr, zi_ci, zi_cn, zi_get_ne, zi_nl_i, zi_nl_r, zi_get_set_eq, nl, g0, g1, g2, g3, g4, c1, zM_g, zm_iald (k := 0) zM_A241 ij, cj, e1, cM, zq_Mod_lies, E1 F (by omega), om, hd]
      · refine Or.inr ⟨L', ze_S.trans ⟨N1, 14, fun F m hF => ?_⟩ S, q⟩
        simp (maxDischargeDepth := 9) [zg_0, zg_aload_n, zg_getfield, zg_goto, zg_iadd, zg_iaload, zg_iconst, zg_ifCond, zg_if_icmp, zg_iinc, zg_iload, zg_iload_n, zg_invokestatic, zg_invokevirtual, zg_ireturn, zg_istore, zg_isub, zg_ldc, zg_ldc_w, zf_X6_at, zi_ld, zi_lda, zi_cmp, zi_retOk, zi_isI, zi_f3, zi_cr, zi_ci, zi_cn, zi_get_ne, zi_nl_i, zi_nl_r, zi_get_set_eq, nl, g0, g1, g2, g3, g4, c1, zM_g, zm_iald (k := 0) zM_A241 ij, cj, e1, cM, zq_Mod_lies, E1 F (by omega), om, hd]
    · refine Or.inl ⟨nI k, N1, 17, fun F m hF => ?_⟩
      simp (maxDischargeDepth := 9) [zg_0, zg_aload_n, zg_getfield, zg_goto, zg_iadd, zg_iaload, zg_iconst, zg_ifCond, zg_if_icmp, zg_iinc, zg_iload, zg_iload_n, zg_invokestatic, zg_invokevirtual, zg_ireturn, zg_istore, zg_isub, zg_ldc, zg_ldc_w, zf_X6_at, zi_ld, zi_lda, zi_cmp, zi_retOk, zi_isI, zi_f3, zi_cr, zi_ci, zi_cn, zi_get_ne, zi_nl_i, zi_nl_r, zi_get_set_eq, nl, g0, g1, g2, g3, g4, c1, zM_g, zm_iald (k := 0) zM_A241 ij, cj, e1, cM, zq_Mod_lies, E1 F (by omega)]
set_option maxRecDepth 100000 in
theorem zv_at_1 (D : Nat) {n : Nat} (hn : n ≤ 10) (L : zi_Lc) (h : zi_Hp) : ze_S D 6 (some .int) zc_X6_at 64 L [.int 1, .int (nI n)] h 67 (zi_set L 4 (.int (zv_dn n))) [] h := by
  have hd : nI n - 1 = zv_dn n := zv_dn_1 hn
  refine ⟨0, 2, fun F m hF => ?_⟩
  generalize zv_dn n = d at hd ⊢
  simp [zg_0, zg_aload_n, zg_getfield, zg_goto, zg_iadd, zg_iaload, zg_iconst, zg_ifCond, zg_if_icmp, zg_iinc, zg_iload, zg_iload_n, zg_invokestatic, zg_invokevirtual, zg_ireturn, zg_istore, zg_isub, zg_ldc, zg_ldc_w, zf_X6_at, zi_ld, zi_lda, zi_cmp, zi_retOk, zi_isI, zi_f3, zi_cr, zi_ci, zi_cn, hd]
set_option maxRecDepth 100000 in
theorem ze_Mat (D : Nat) (h : zR μ row stk us) (w x y : Int32) : ∃ ν v, ze_E (D + 29) A_Mod_at [.ref 232, .int w, .int x, .int y] (zm_mk μ) (some (.int v)) (zm_mk ν) ∧ zM_fr μ ν := by
  have n1 : Int32.ofInt (-1000000001) = -1000000001 := by decide
  have n2 : Int32.ofInt (-1000000002) = -1000000002 := by decide
  obtain ⟨lc, cM⟩ := zM_c (μ := μ)
  rcases zM_isIn (hp := zm_mk μ) (D + 27) w (n := 2) (b := 2) (by decide) (by decide) with ⟨s, hs, rfl, N1, E1⟩ | ⟨⟨N1, E1⟩, hno⟩
  · have hs : s < 3 := hs
    have is : zi_in (nI s) 3 = true := zm_in hs (by decide)
    have cs : (nI s).toNatClampNeg = s := nI_clamp (by omega)
    by_cases c0 : μ 232 s = 0
    · refine ⟨μ, -1000000002, ze_in [(0, .ref 232), (1, .int (nI s)), (2, .int x), (3, .int y)] zq_Mod_at (Nat.le_of_ble_eq_true rfl) rfl ⟨N1, 12, fun F n hF => ?_⟩, zM_fr.refl⟩
      simp [zg_0, zg_aload_n, zg_getfield, zg_goto, zg_iadd, zg_iaload, zg_iconst, zg_ifCond, zg_if_icmp, zg_iinc, zg_iload, zg_iload_n, zg_invokestatic, zg_invokevirtual, zg_ireturn, zg_istore, zg_isub, zg_ldc, zg_ldc_w, zf_X6_at, zi_ld, zi_lda, zi_cmp, zi_retOk, zi_isI, zi_f3, zi_cr, zi_ci, zi_cn, zi_get, zi_set, zM_g, zq_Mod_isIn, E1 F (by omega), zm_iald (k := 0) zM_A232 is, cs, c0, n2]
    · obtain ⟨d1, hd1⟩ := zv_opq (μ 232 s) 1
      obtain ⟨d2, hd2⟩ := zv_opq (μ 233 s) 1
      obtain ⟨N2, E2⟩ := ze_isIn (h := zm_mk μ) (D + 27) x 0 d1
      obtain ⟨N3, E3⟩ := ze_isIn (h := zm_mk μ) (D + 27) y 0 d2
      by_cases c1 : 0 ≤ x ∧ x ≤ d1
      · rw [if_pos c1] at E2
        by_cases c2 : 0 ≤ y ∧ y ≤ d2
        · rw [if_pos c2] at E3
          have hL := h.2.2.1.1
          have hb : ∀ k ∈ stk, k < 10 := fun k hk => ((h.2.2.1.2.2 k).mp hk).1
          have S0 : ze_S (D + 28) 6 (some .int) zc_X6_at 0 [(0, .ref 232), (1, .int (nI s)), (2, .int x), (3, .int y)] [] (zm_mk μ) 64 [(0, .ref 232), (1, .int (nI s)), (2, .int x), (3, .int y)] [.int 1, .int (nI stk.length)] (zm_mk μ) := by
            refine ⟨N1 + N2 + N3, 33, fun F n hF => ?_⟩
            simp [zg_0, zg_aload_n, zg_getfield, zg_goto, zg_iadd, zg_iaload, zg_iconst, zg_ifCond, zg_if_icmp, zg_iinc, zg_iload, zg_iload_n, zg_invokestatic, zg_invokevirtual, zg_ireturn, zg_istore, zg_isub, zg_ldc, zg_ldc_w, zf_X6_at, zi_ld, zi_lda, zi_cmp, zi_retOk, zi_isI, zi_f3, zi_cr, zi_ci, zi_cn, zi_get, zi_set, zM_g, zq_Mod_isIn, E1 F (by omega), E2 F (by omega), E3 F (by omega), zm_iald (k := 0) zM_A232 is, zm_iald (k := 0) zM_A233 is, cs, c0, hd1, hd2, hL.2.1]
          have S1 := zv_at_1 (D + 28) hL.1 [(0, .ref 232), (1, .int (nI s)), (2, .int x), (3, .int y)] (zm_mk μ)
          rcases zv_atT (μ := μ) (D + 26) hs hL hb x y stk.length (Nat.le_refl _) (zi_set [(0, .ref 232), (1, .int (nI s)), (2, .int x), (3, .int y)] 4 (.int (zv_dn stk.length))) (zi_nl_i rfl) (zi_get_ne rfl (by decide)) (zi_get_ne rfl (by decide)) (zi_get_ne rfl (by decide)) (zi_get_ne rfl (by decide)) zi_get_set_eq with ⟨v, G⟩ | ⟨L', S2, nl', b0, b1, b2, b3⟩
          · exact ⟨μ, v, ze_in [(0, .ref 232), (1, .int (nI s)), (2, .int x), (3, .int y)] zq_Mod_at (Nat.le_of_ble_eq_true rfl) rfl (S0.end (S1.end G)), zM_fr.refl⟩
          · obtain ⟨ab, hI⟩ := (h.2.2.2.2.1 s hs).1
            obtain ⟨ν, ⟨N4, E4⟩, -, hl, f⟩ := ze_MlayAll (μ := μ) (D + 1) hs hI
            obtain ⟨hndl, h24, hlen⟩ := zu_lvs_nodup hI
            obtain ⟨r, h', G, ⟨v, rfl⟩, rfl⟩ := zv_atL (μ := ν) (D + 27) hs hl h24 hlen x y (zi_set L' 4 (.int (nI 0))) (zi_nl_i nl') ((zi_get_ne nl' (by decide)).trans b0) ((zi_get_ne nl' (by decide)).trans b1) ((zi_get_ne nl' (by decide)).trans b2) ((zi_get_ne nl' (by decide)).trans b3) zi_get_set_eq
            refine ⟨ν, v, ze_in [(0, .ref 232), (1, .int (nI s)), (2, .int x), (3, .int y)] zq_Mod_at (Nat.le_of_ble_eq_true rfl) rfl (S0.end (S1.end (S2.end (ze_S.end ⟨N4, 5, fun F n hF => ?_⟩ G)))), f.fr⟩
            simp [zg_0, zg_aload_n, zg_getfield, zg_goto, zg_iadd, zg_iaload, zg_iconst, zg_ifCond, zg_if_icmp, zg_iinc, zg_iload, zg_iload_n, zg_invokestatic, zg_invokevirtual, zg_ireturn, zg_istore, zg_isub, zg_ldc, zg_ldc_w, zf_X6_at, zi_ld, zi_lda, zi_cmp, zi_retOk, zi_isI, zi_f3, zi_cr, zi_ci, zi_cn, b0, b1, cM, zq_Mod_layAll, E4 F (by omega), nI_0]
        · rw [if_neg c2] at E3
          refine ⟨μ, -1000000001, ze_in [(0, .ref 232), (1, .int (nI s)), (2, .int x), (3, .int y)] zq_Mod_at (Nat.le_of_ble_eq_true rfl) rfl ⟨N1 + N2 + N3, 32, fun F n hF => ?_⟩, zM_fr.refl⟩
          simp [zg_0, zg_aload_n, zg_getfield, zg_goto, zg_iadd, zg_iaload, zg_iconst, zg_ifCond, zg_if_icmp, zg_iinc, zg_iload, zg_iload_n, zg_invokestatic, zg_invokevirtual, zg_ireturn, zg_istore, zg_isub, zg_ldc, zg_ldc_w, zf_X6_at, zi_ld, zi_lda, zi_cmp, zi_retOk, zi_isI, zi_f3, zi_cr, zi_ci, zi_cn, zi_get, zi_set, zM_g, zq_Mod_isIn, E1 F (by omega), E2 F (by omega), E3 F (by omega), zm_iald (k := 0) zM_A232 is, zm_iald (k := 0) zM_A233 is, cs, c0, hd1, hd2, n1]
      · rw [if_neg c1] at E2
        refine ⟨μ, -1000000001, ze_in [(0, .ref 232), (1, .int (nI s)), (2, .int x), (3, .int y)] zq_Mod_at (Nat.le_of_ble_eq_true rfl) rfl ⟨N1 + N2, 22, fun F n hF => ?_⟩, zM_fr.refl⟩
        simp [zg_0, zg_aload_n, zg_getfield, zg_goto, zg_iadd, zg_iaload, zg_iconst, zg_ifCond, zg_if_icmp, zg_iinc, zg_iload, zg_iload_n, zg_invokestatic, zg_invokevirtual, zg_ireturn, zg_istore, zg_isub, zg_ldc, zg_ldc_w, zf_X6_at, zi_ld, zi_lda, zi_cmp, zi_retOk, zi_isI, zi_f3, zi_cr, zi_ci, zi_cn, zi_get, zi_set, zM_g, zq_Mod_isIn, E1 F (by omega), E2 F (by omega), zm_iald (k := 0) zM_A232 is, cs, c0, hd1, n1]
  · refine ⟨μ, -1000000001, ze_in [(0, .ref 232), (1, .int w), (2, .int x), (3, .int y)] zq_Mod_at (Nat.le_of_ble_eq_true rfl) rfl ⟨N1, 7, fun F n hF => ?_⟩, zM_fr.refl⟩
    simp [zg_0, zg_aload_n, zg_getfield, zg_goto, zg_iadd, zg_iaload, zg_iconst, zg_ifCond, zg_if_icmp, zg_iinc, zg_iload, zg_iload_n, zg_invokestatic, zg_invokevirtual, zg_ireturn, zg_istore, zg_isub, zg_ldc, zg_ldc_w, zf_X6_at, zi_ld, zi_lda, zi_cmp, zi_retOk, zi_isI, zi_f3, zi_cr, zi_ci, zi_cn, zi_get, zi_set, zq_Mod_isIn, E1 F (by omega), n1]
end ZWH
end
