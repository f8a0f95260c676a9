/-! tab: the same answer -/
def zx_tab (l : List Nat) (sh y : Int32) : Int32 := if y = -2 then sh else if y = -1 then nI l.length else if y.toNatClampNeg < l.length then nI (l.getD y.toNatClampNeg 0) else -1000000005
section ZXB
variable {μ : zm_M} {row stk : List Nat} {Rs : Nat → List Nat} {ts : Nat → zy_F} {us : Nat → zy_F}
theorem zx_ge0 {y : Int32} (c2 : (-2 : Int32) ≤ y) (q1 : ¬ y = -2) (q2 : ¬ y = -1) : ¬ y < 0 := by
  intro q
  have a1 := Int32.le_iff_toInt_le.mp c2
  have a2 := Int32.lt_iff_toInt_lt.mp q
  have a3 : ¬ y.toInt = -2 := fun e => q1 (Int32.toInt_inj.mp (by rw [e]; decide))
  have a4 : ¬ y.toInt = -1 := fun e => q2 (Int32.toInt_inj.mp (by rw [e]; decide))
  rw [show (-2 : Int32).toInt = -2 by decide] at a1
  rw [show (0 : Int32).toInt = 0 by decide] at a2
  omega
theorem zx_nI2 {i : Nat} (hi : i < 2 ^ 31) : ¬ nI i = -2 ∧ ¬ nI i = -1 := by
  have t0 : (nI i).toInt = (i : Int) := nI_toInt hi
  constructor
  · intro e
    rw [e, show (-2 : Int32).toInt = -2 by decide] at t0
    omega
  · intro e
    rw [e, show (-1 : Int32).toInt = -1 by decide] at t0
    omega
set_option maxRecDepth 100000 in
theorem ze_tab_v (D : Nat) (h : zJ μ row stk Rs ts) {s j : Nat} (hs : s < 3) (hj : j < 2 ^ 31) {y : Int32} (c2 : (-2 : Int32) ≤ y) (c3 : ¬ μ (zdS s) 3 = 0) : ze_E (D + 3) A_Desk_tab [.ref 1, .int (nI s), .int (nI j), .int y] (zm_mk μ) (some (.int (if j < (zy_lvs (ts s)).length then zx_tab (zt_tb μ (zdT s) (Rs s) ((zy_lvs (ts s)).getD j 0)) (μ (zdT s + 12) ((zy_lvs (ts s)).getD j 0)) y else -1000000005))) (zm_mk μ) := by
  have n5 : Int32.ofInt (-1000000005) = -1000000005 := by decide
  have h2 : (Int8.ofInt (-2)).toInt32 = (-2 : Int32) := by decide
  have c1 : ¬ nI j < 0 := nI_pos hj
  obtain ⟨N1, E1⟩ := ze_isScreen_in (h := zm_mk μ) (D + 1) hs
  have hC := (h.2.2.2.1 s hs).1
  obtain ⟨N2, E2⟩ := ze_Tree_leafNumber (μ := μ) (D + 1) (zdT_at hs) hC hj
  obtain ⟨lt, ct⟩ := zt_c (μ := μ) (zdT_at hs)
  by_cases c4 : j < (zy_lvs (ts s)).length
  · rw [if_pos c4] at E2
    rw [if_pos c4]
    have hm := zl_mem c4
    have hn19 := hC.1.2.1.2.2.1 _ (zt_I_lv hC.1 hm).2
    generalize (zy_lvs (ts s)).getD j 0 = n at E2 hm hn19
    have c5 : (0 : Int32) ≤ nI n := nI_pos' (by omega)
    have S0 : ze_S (D + 2) 6 (some .int) zc_X5_tab 0 [(0, .ref 1), (1, .int (nI s)), (2, .int (nI j)), (3, .int y)] [] (zm_mk μ) 63 [(5, .int (nI n)), (4, .ref (zdT s + 1)), (0, .ref 1), (1, .int (nI s)), (2, .int (nI j)), (3, .int y)] [.int y] (zm_mk μ) := by
      refine ⟨N1 + N2, 27, fun F n hF => ?_⟩
      simp [zi_go, zf_X5_tab, zi_ask, zi_new, zi_step, zi_ld, zi_lda, zi_cmp, zi_retOk, zi_isI, zi_f3, zi_cr, zi_ci, zi_cn, zi_get, zi_set, zq_Desk_isScreen, E1 F (by omega), c1, c2, h2, zd_g, zd_s hs, zdS_g hs, c3, zq_Tree_leafNumber, ct, E2 F (by omega), c5]
    refine ze_in [(0, .ref 1), (1, .int (nI s)), (2, .int (nI j)), (3, .int y)] zq_Desk_tab (Nat.le_of_ble_eq_true rfl) rfl (S0.end ?_)
    by_cases q1 : y = -2
    · subst q1
      have t0 : (-2 : Int32).toInt = -2 := by decide
      obtain ⟨N3, E3⟩ := ze_Tree_shownIn (μ := μ) (D + 1) (zdT_at hs) (x := nI n) (zm_in hn19 (by decide))
      rw [nI_clamp (by omega)] at E3
      have ev : zx_tab (zt_tb μ (zdT s) (Rs s) n) (μ (zdT s + 12) n) (-2) = μ (zdT s + 12) n := if_pos rfl
      rw [ev]
      generalize μ (zdT s + 12) n = v at E3
      refine ⟨N3, 5, fun F m hF => ?_⟩
      simp [zi_go, zf_X5_tab, zi_ask, zi_new, zi_step, zi_ld, zi_lda, zi_cmp, zi_retOk, zi_isI, zi_f3, zi_cr, zi_ci, zi_cn, zi_get, zi_set, t0, Op.lookupswitch.offset, zq_Tree_shownIn, ct, E3 F (by omega)]
    · by_cases q2 : y = -1
      · subst q2
        have t0 : (-1 : Int32).toInt = -1 := by decide
        obtain ⟨N3, E3⟩ := ze_Tree_tabsIn (μ := μ) D (zdT_at hs) hC.1 (nI n)
        have ev : zx_tab (zt_tb μ (zdT s) (Rs s) n) (μ (zdT s + 12) n) (-1) = nI ((Rs s).filter (fun v => decide (μ (zdT s + 3) v = nI n))).length := (if_neg q1).trans (if_pos rfl)
        rw [ev]
        generalize ((Rs s).filter (fun v => decide (μ (zdT s + 3) v = nI n))).length = v at E3
        refine ⟨N3, 5, fun F m hF => ?_⟩
        simp [zi_go, zf_X5_tab, zi_ask, zi_new, zi_step, zi_ld, zi_lda, zi_cmp, zi_retOk, zi_isI, zi_f3, zi_cr, zi_ci, zi_cn, zi_get, zi_set, t0, Op.lookupswitch.offset, zq_Tree_tabsIn, ct, E3 F (by omega)]
      · have q3 : ¬ y < 0 := zx_ge0 c2 q1 q2
        obtain ⟨i, hi, rfl⟩ := nI_of q3
        have t0 : (nI i).toInt = (i : Int) := nI_toInt hi
        have b1 : ¬ (-2 : Int) = (i : Int) := by omega
        have b2 : ¬ (-1 : Int) = (i : Int) := by omega
        have b3 : ¬ (i : Int) = -2 := by omega
        have b4 : ¬ (i : Int) = -1 := by omega
        obtain ⟨N3, E3⟩ := ze_Tree_tabIn (μ := μ) D (zdT_at hs) hC.1 (nI n) hi
        have ev : zx_tab (zt_tb μ (zdT s) (Rs s) n) (μ (zdT s + 12) n) (nI i) = (if i < ((Rs s).filter (fun v => decide (μ (zdT s + 3) v = nI n))).length then nI (((Rs s).filter (fun v => decide (μ (zdT s + 3) v = nI n))).getD i 0) else -1000000005) := by
          unfold zx_tab
          rw [if_neg q1, if_neg q2, nI_clamp hi]
          rfl
        rw [ev]
        generalize (if i < ((Rs s).filter (fun v => decide (μ (zdT s + 3) v = nI n))).length then nI (((Rs s).filter (fun v => decide (μ (zdT s + 3) v = nI n))).getD i 0) else -1000000005) = v at E3
        refine ⟨N3, 6, fun F m hF => ?_⟩
        simp [zi_go, zf_X5_tab, zi_ask, zi_new, zi_step, zi_ld, zi_lda, zi_cmp, zi_retOk, zi_isI, zi_f3, zi_cr, zi_ci, zi_cn, zi_get, zi_set, t0, Op.lookupswitch.offset, b1, b2, b3, b4, zq_Tree_tabIn, ct, E3 F (by omega)]
  · rw [if_neg c4] at E2
    rw [if_neg c4]
    have c5 : ¬ (0 : Int32) ≤ -1 := by decide
    refine ze_in [(0, .ref 1), (1, .int (nI s)), (2, .int (nI j)), (3, .int y)] zq_Desk_tab (Nat.le_of_ble_eq_true rfl) rfl ⟨N1 + N2, 28, fun F n hF => ?_⟩
    simp [zi_go, zf_X5_tab, zi_ask, zi_new, zi_step, zi_ld, zi_lda, zi_cmp, zi_retOk, zi_isI, zi_f3, zi_cr, zi_ci, zi_cn, zi_get, zi_set, zq_Desk_isScreen, E1 F (by omega), c1, c2, h2, zd_g, zd_s hs, zdS_g hs, c3, zq_Tree_leafNumber, ct, E2 F (by omega), c5, n5]
set_option maxRecDepth 100000 in
theorem ze_tab_no (D : Nat) {s : Nat} (hs : s < 3) {x y : Int32} (c1 : ¬ x < 0) (c2 : (-2 : Int32) ≤ y) (c3 : μ (zdS s) 3 = 0) : ze_E (D + 3) A_Desk_tab [.ref 1, .int (nI s), .int x, .int y] (zm_mk μ) (some (.int (-1000000002))) (zm_mk μ) := by
  have n2 : Int32.ofInt (-1000000002) = -1000000002 := by decide
  have h2 : (Int8.ofInt (-2)).toInt32 = (-2 : Int32) := by decide
  obtain ⟨N1, E1⟩ := ze_isScreen_in (h := zm_mk μ) (D + 1) hs
  refine ze_in [(0, .ref 1), (1, .int (nI s)), (2, .int x), (3, .int y)] zq_Desk_tab (Nat.le_of_ble_eq_true rfl) rfl ⟨N1, 16, fun F n hF => ?_⟩
  simp [zi_go, zf_X5_tab, zi_ask, zi_new, zi_step, zi_ld, zi_lda, zi_cmp, zi_retOk, zi_isI, zi_f3, zi_cr, zi_ci, zi_cn, zi_get, zi_set, zq_Desk_isScreen, E1 F (by omega), c1, c2, h2, zd_g, zd_s hs, zdS_g hs, c3, n2]
set_option maxRecDepth 100000 in
theorem ze_tab_bad (D : Nat) {w x y : Int32} (hb : (w < 0 ∨ nI 3 ≤ w) ∨ x < 0 ∨ ¬ (-2 : Int32) ≤ y) : ze_E (D + 3) A_Desk_tab [.ref 1, .int w, .int x, .int y] (zm_mk μ) (some (.int (-1000000001))) (zm_mk μ) := by
  have n4 : Int32.ofInt (-1000000001) = -1000000001 := by decide
  have h2 : (Int8.ofInt (-2)).toInt32 = (-2 : Int32) := by decide
  rcases zd_rng w 3 (by decide) with ⟨s, hs, rfl⟩ | hout
  · obtain ⟨N1, E1⟩ := ze_isScreen_in (h := zm_mk μ) (D + 1) hs
    by_cases c1 : x < 0
    · refine ze_in [(0, .ref 1), (1, .int (nI s)), (2, .int x), (3, .int y)] zq_Desk_tab (Nat.le_of_ble_eq_true rfl) rfl ⟨N1, 7, fun F n hF => ?_⟩
      simp [zi_go, zf_X5_tab, zi_ask, zi_new, zi_step, zi_ld, zi_lda, zi_cmp, zi_retOk, zi_isI, zi_f3, zi_cr, zi_ci, zi_cn, zi_get, zi_set, zq_Desk_isScreen, E1 F (by omega), c1, n4]
    · have c2 : ¬ (-2 : Int32) ≤ y := by
        rcases hb with (hb | hb) | hb | hb
        · exact absurd hb (nI_pos (by omega))
        · exact absurd hb (nI_ge (b := 3) hs (by decide))
        · exact absurd hb c1
        · exact hb
      refine ze_in [(0, .ref 1), (1, .int (nI s)), (2, .int x), (3, .int y)] zq_Desk_tab (Nat.le_of_ble_eq_true rfl) rfl ⟨N1, 10, fun F n hF => ?_⟩
      simp [zi_go, zf_X5_tab, zi_ask, zi_new, zi_step, zi_ld, zi_lda, zi_cmp, zi_retOk, zi_isI, zi_f3, zi_cr, zi_ci, zi_cn, zi_get, zi_set, zq_Desk_isScreen, E1 F (by omega), c1, c2, h2, n4]
  · obtain ⟨N1, E1⟩ := ze_isScreen_out (h := zm_mk μ) (D + 1) hout
    refine ze_in [(0, .ref 1), (1, .int w), (2, .int x), (3, .int y)] zq_Desk_tab (Nat.le_of_ble_eq_true rfl) rfl ⟨N1, 5, fun F n hF => ?_⟩
    simp [zi_go, zf_X5_tab, zi_ask, zi_new, zi_step, zi_ld, zi_lda, zi_cmp, zi_retOk, zi_isI, zi_f3, zi_cr, zi_ci, zi_cn, zi_get, zi_set, zq_Desk_isScreen, E1 F (by omega), n4]
set_option maxRecDepth 100000 in
theorem ze_Mtab_v (D : Nat) (h : zR μ row stk us) {s i : Nat} (hs : s < 3) (hi2 : i < 2 ^ 31) {y : Int32} (q2 : (-2 : Int32) ≤ y) (c0 : ¬ μ 232 s = 0) : ∃ ν, ze_E (D + 29) A_Mod_tab [.ref 232, .int (nI s), .int (nI i), .int y] (zm_mk μ) (some (.int (if i < (zy_lvs (us s)).length then zx_tab (zu_tb μ s ((zy_lvs (us s)).getD i 0)) (μ 250 (24 * s + (zy_lvs (us s)).getD i 0)) y else -1000000005))) (zm_mk ν) ∧ zM_fr μ ν := by
  have n5 : Int32.ofInt (-1000000005) = -1000000005 := by decide
  have m2 : (Int8.ofInt (-2)).toInt32 = (-2 : Int32) := by decide
  have h10 : (Int8.ofInt 10).toInt32 = (10 : Int32) := by decide
  have q1 : ¬ nI i < 0 := nI_pos hi2
  obtain ⟨lc, cM⟩ := zM_c (μ := μ)
  rcases zM_isIn (hp := zm_mk μ) (D + 27) (nI s) (n := 2) (b := 2) (by decide) (by decide) with ⟨s', hs', es', N1, E1⟩ | ⟨-, hno⟩
  rotate_left
  · exact absurd rfl (hno s (by omega))
  have is : zi_in (nI s) 3 = true := zm_in hs (by decide)
  have cs : (nI s).toNatClampNeg = s := nI_clamp (by omega)
  obtain ⟨ab, hI⟩ := (h.2.2.2.2.1 s hs).1
  obtain ⟨hndl, h24, hlen⟩ := zu_lvs_nodup hI
  obtain ⟨ν, ⟨N3, E3⟩, hl, f⟩ := ze_MclearLeaves (μ := μ) (D + 2) (τ := s) (by omega) hI
  have hIν : zu_I ν s (us s) ab := f.eqT.I hI
  obtain ⟨lc2, cM2⟩ := zM_c (μ := ν)
  have fc : ∀ c d, 232 ≤ c → c ≤ 258 → ν c d = μ c d := fun c d q1 q2 => f c d (by omega) (by omega)
  have S0 : ze_S (D + 28) 5 (some .int) zc_X6_tab 0 [(0, .ref 232), (1, .int (nI s)), (2, .int (nI i)), (3, .int y)] [] (zm_mk μ) 39 [(0, .ref 232), (1, .int (nI s)), (2, .int (nI i)), (3, .int y)] [] (zm_mk ν) := by
    refine ⟨N1 + N3, 18, fun F n hF => ?_⟩
    simp [zg_0, zg_aload_n, zg_bipush, zg_getfield, zg_goto, zg_iadd, zg_iaload, zg_iconst, zg_ifCond, zg_if_icmp, zg_iload, zg_iload_n, zg_imul, zg_invokestatic, zg_invokevirtual, zg_ireturn, zg_istore, zg_ldc, zg_ldc_w, zf_X6_tab, zi_ld, zi_lda, zi_cmp, zi_retOk, zi_isI, zi_f3, zi_cr, zi_ci, zi_cn, zi_get, zi_set, zM_g, m2, cM, zq_Mod_isIn, zq_Mod_clearLeaves, E1 F (by omega), E3 F (by omega), q1, q2, zm_iald (k := 0) zM_A232 is, cs, c0]
  refine ⟨ν, ze_in [(0, .ref 232), (1, .int (nI s)), (2, .int (nI i)), (3, .int y)] zq_Mod_tab (Nat.le_of_ble_eq_true rfl) rfl (S0.end ?_), f.fr⟩
  by_cases hi : i < (zy_lvs (us s)).length
  · rw [if_pos hi]
    have q3 : nI i < nI (zy_lvs (us s)).length := Int32.not_le.mp (nI_ge hi (by omega))
    have ii : zi_in (nI i) 24 = true := zm_in (by omega) (by decide)
    have ci : (nI i).toNatClampNeg = i := nI_clamp (by omega)
    have e2 := hl.2 i hi
    have hm := zl_mem hi
    have hm24 := h24 _ hm
    obtain ⟨t1, t2, t3⟩ := zu_I_tb hIν hm
    have etb : zu_tb ν s ((zy_lvs (us s)).getD i 0) = zu_tb μ s ((zy_lvs (us s)).getD i 0) := zu_tb_cells (fun d => ⟨fc _ _ (by decide) (by decide), fc _ _ (by decide) (by decide)⟩)
    rw [← fc 250 _ (by decide) (by decide), ← etb]
    generalize (zy_lvs (us s)).getD i 0 = m at e2 hm hm24 t1 t2 t3
    obtain ⟨N4, E4⟩ := ze_spot (h := zm_mk ν) (D + 27) (t := s) (n := m) (by omega)
    have iy : zi_in (nI (24 * s + m)) 168 = true := zm_in (by omega) (by decide)
    have cy : (nI (24 * s + m)).toNatClampNeg = 24 * s + m := nI_clamp (by omega)
    have S1 : ze_S (D + 28) 5 (some .int) zc_X6_tab 39 [(0, .ref 232), (1, .int (nI s)), (2, .int (nI i)), (3, .int y)] [] (zm_mk ν) 63 [(4, .int (nI (24 * s + m))), (0, .ref 232), (1, .int (nI s)), (2, .int (nI i)), (3, .int y)] [] (zm_mk ν) := by
      refine ⟨N4, 11, fun F n hF => ?_⟩
      simp [zg_0, zg_aload_n, zg_bipush, zg_getfield, zg_goto, zg_iadd, zg_iaload, zg_iconst, zg_ifCond, zg_if_icmp, zg_iload, zg_iload_n, zg_imul, zg_invokestatic, zg_invokevirtual, zg_ireturn, zg_istore, zg_ldc, zg_ldc_w, zf_X6_tab, zi_ld, zi_lda, zi_cmp, zi_retOk, zi_isI, zi_f3, zi_cr, zi_ci, zi_cn, zi_get, zi_set, zM_g, hl.1, q3, zm_iald (k := 0) zM_A259 ii, ci, e2, zq_Mod_spot, E4 F (by omega)]
    refine S1.end ?_
    by_cases q6 : y = -2
    · subst q6
      have q4 : ¬ (0 : Int32) ≤ -2 := by decide
      have q7 : ¬ (-2 : Int32) = -1 := by decide
      have ev : zx_tab (zu_tb ν s m) (ν 250 (24 * s + m)) (-2) = ν 250 (24 * s + m) := if_pos rfl
      rw [ev]
      refine ⟨0, 10, fun F n hF => ?_⟩
      simp [zg_0, zg_aload_n, zg_bipush, zg_getfield, zg_goto, zg_iadd, zg_iaload, zg_iconst, zg_ifCond, zg_if_icmp, zg_iload, zg_iload_n, zg_imul, zg_invokestatic, zg_invokevirtual, zg_ireturn, zg_istore, zg_ldc, zg_ldc_w, zf_X6_tab, zi_ld, zi_lda, zi_cmp, zi_retOk, zi_isI, zi_f3, zi_cr, zi_ci, zi_cn, zi_get, zi_set, zM_g, q4, q7, zm_iald (k := 0) zM_A250 iy, cy]
    · by_cases q7 : y = -1
      · subst q7
        have q4 : ¬ (0 : Int32) ≤ -1 := by decide
        have ev : zx_tab (zu_tb ν s m) (ν 250 (24 * s + m)) (-1) = ν 249 (24 * s + m) := ((if_neg q6).trans (if_pos rfl)).trans t1.2.1.symm
        rw [ev]
        refine ⟨0, 11, fun F n hF => ?_⟩
        simp [zg_0, zg_aload_n, zg_bipush, zg_getfield, zg_goto, zg_iadd, zg_iaload, zg_iconst, zg_ifCond, zg_if_icmp, zg_iload, zg_iload_n, zg_imul, zg_invokestatic, zg_invokevirtual, zg_ireturn, zg_istore, zg_ldc, zg_ldc_w, zf_X6_tab, zi_ld, zi_lda, zi_cmp, zi_retOk, zi_isI, zi_f3, zi_cr, zi_ci, zi_cn, zi_get, zi_set, zM_g, q4, zm_iald (k := 0) zM_A249 iy, cy]
      · have q3 : ¬ y < 0 := zx_ge0 q2 q6 q7
        have q4 : 0 ≤ y := Int32.not_lt.mp q3
        obtain ⟨j, hj, rfl⟩ := nI_of q3
        have ev : zx_tab (zu_tb ν s m) (ν 250 (24 * s + m)) (nI j) = (if j < (zu_tb ν s m).length then nI ((zu_tb ν s m).getD j 0) else -1000000005) := by
          unfold zx_tab
          rw [if_neg q6, if_neg q7, nI_clamp hj]
        rw [ev]
        by_cases q5 : j < (zu_tb ν s m).length
        · have l10 := t1.1
          have mk : (10 : Int32) * nI (24 * s + m) = nI (10 * (24 * s + m)) := nI_mul10 (by omega)
          have ij : zi_in (nI (10 * (24 * s + m) + j)) 1680 = true := zm_in (by omega) (by decide)
          have cj : (nI (10 * (24 * s + m) + j)).toNatClampNeg = 10 * (24 * s + m) + j := nI_clamp (by omega)
          have q5' : ¬ nI (zu_tb ν s m).length ≤ nI j := nI_ge q5 (by omega)
          have e3 := t1.2.2 j q5
          rw [if_pos q5, ← e3]
          refine ⟨0, 18, fun F n hF => ?_⟩
          simp [zg_0, zg_aload_n, zg_bipush, zg_getfield, zg_goto, zg_iadd, zg_iaload, zg_iconst, zg_ifCond, zg_if_icmp, zg_iload, zg_iload_n, zg_imul, zg_invokestatic, zg_invokevirtual, zg_ireturn, zg_istore, zg_ldc, zg_ldc_w, zf_X6_tab, zi_ld, zi_lda, zi_cmp, zi_retOk, zi_isI, zi_f3, zi_cr, zi_ci, zi_cn, zi_get, zi_set, zM_g, h10, q4, q5', zm_iald (k := 0) zM_A249 iy, cy, t1.2.1, mk, nI_add, zm_iald (k := 0) zM_A248 ij, cj]
        · have q5' : nI (zu_tb ν s m).length ≤ nI j := nI_le (by omega) hj
          rw [if_neg q5]
          refine ⟨0, 10, fun F n hF => ?_⟩
          simp [zg_0, zg_aload_n, zg_bipush, zg_getfield, zg_goto, zg_iadd, zg_iaload, zg_iconst, zg_ifCond, zg_if_icmp, zg_iload, zg_iload_n, zg_imul, zg_invokestatic, zg_invokevirtual, zg_ireturn, zg_istore, zg_ldc, zg_ldc_w, zf_X6_tab, zi_ld, zi_lda, zi_cmp, zi_retOk, zi_isI, zi_f3, zi_cr, zi_ci, zi_cn, zi_get, zi_set, zM_g, q4, q5', zm_iald (k := 0) zM_A249 iy, cy, t1.2.1, n5]
  · rw [if_neg hi]
    have q3 : ¬ nI i < nI (zy_lvs (us s)).length := Int32.not_lt.mpr (nI_le (by omega) hi2)
    refine ⟨0, 6, fun F n hF => ?_⟩
    simp [zg_0, zg_aload_n, zg_bipush, zg_getfield, zg_goto, zg_iadd, zg_iaload, zg_iconst, zg_ifCond, zg_if_icmp, zg_iload, zg_iload_n, zg_imul, zg_invokestatic, zg_invokevirtual, zg_ireturn, zg_istore, zg_ldc, zg_ldc_w, zf_X6_tab, zi_ld, zi_lda, zi_cmp, zi_retOk, zi_isI, zi_f3, zi_cr, zi_ci, zi_cn, zi_get, zi_set, zM_g, hl.1, q3, n5]
set_option maxRecDepth 100000 in
theorem ze_Mtab_no (D : Nat) {s : Nat} (hs : s < 3) {x y : Int32} (q1 : ¬ x < 0) (q2 : (-2 : Int32) ≤ y) (c0 : μ 232 s = 0) : ze_E (D + 29) A_Mod_tab [.ref 232, .int (nI s), .int x, .int y] (zm_mk μ) (some (.int (-1000000002))) (zm_mk μ) := by
  have n2 : Int32.ofInt (-1000000002) = -1000000002 := by decide
  have m2 : (Int8.ofInt (-2)).toInt32 = (-2 : Int32) := by decide
  rcases zM_isIn (hp := zm_mk μ) (D + 27) (nI s) (n := 2) (b := 2) (by decide) (by decide) with ⟨s', hs', es', N1, E1⟩ | ⟨-, hno⟩
  rotate_left
  · exact absurd rfl (hno s (by omega))
  have is : zi_in (nI s) 3 = true := zm_in hs (by decide)
  have cs : (nI s).toNatClampNeg = s := nI_clamp (by omega)
  refine ze_in [(0, .ref 232), (1, .int (nI s)), (2, .int x), (3, .int y)] zq_Mod_tab (Nat.le_of_ble_eq_true rfl) rfl ⟨N1, 17, fun F n hF => ?_⟩
  simp [zg_0, zg_aload_n, zg_bipush, zg_getfield, zg_goto, zg_iadd, zg_iaload, zg_iconst, zg_ifCond, zg_if_icmp, zg_iload, zg_iload_n, zg_imul, zg_invokestatic, zg_invokevirtual, zg_ireturn, zg_istore, zg_ldc, zg_ldc_w, zf_X6_tab, zi_ld, zi_lda, zi_cmp, zi_retOk, zi_isI, zi_f3, zi_cr, zi_ci, zi_cn, zi_get, zi_set, zM_g, m2, zq_Mod_isIn, E1 F (by omega), q1, q2, zm_iald (k := 0) zM_A232 is, cs, c0, n2]
set_option maxRecDepth 100000 in
theorem ze_Mtab_bad (D : Nat) {w x y : Int32} (hb : (w < 0 ∨ nI 3 ≤ w) ∨ x < 0 ∨ ¬ (-2 : Int32) ≤ y) : ze_E (D + 29) A_Mod_tab [.ref 232, .int w, .int x, .int y] (zm_mk μ) (some (.int (-1000000001))) (zm_mk μ) := by
  have n1 : Int32.ofInt (-1000000001) = -1000000001 := by decide
  have m2 : (Int8.ofInt (-2)).toInt32 = (-2 : Int32) := by decide
  rcases zM_isIn (hp := zm_mk μ) (D + 27) w (n := 2) (b := 2) (by decide) (by decide) with ⟨s, hs, rfl, N1, E1⟩ | ⟨⟨N1, E1⟩, hno⟩
  · by_cases q1 : x < 0
    · refine ze_in [(0, .ref 232), (1, .int (nI s)), (2, .int x), (3, .int y)] zq_Mod_tab (Nat.le_of_ble_eq_true rfl) rfl ⟨N1, 9, fun F n hF => ?_⟩
      simp [zg_0, zg_aload_n, zg_bipush, zg_getfield, zg_goto, zg_iadd, zg_iaload, zg_iconst, zg_ifCond, zg_if_icmp, zg_iload, zg_iload_n, zg_imul, zg_invokestatic, zg_invokevirtual, zg_ireturn, zg_istore, zg_ldc, zg_ldc_w, zf_X6_tab, zi_ld, zi_lda, zi_cmp, zi_retOk, zi_isI, zi_f3, zi_cr, zi_ci, zi_cn, zi_get, zi_set, zq_Mod_isIn, E1 F (by omega), q1, n1]
    · have q2 : ¬ (-2 : Int32) ≤ y := by
        rcases hb with (hb | hb) | hb | hb
        · exact absurd hb (nI_pos (by omega))
        · exact absurd hb (nI_ge (b := 3) hs (by decide))
        · exact absurd hb q1
        · exact hb
      refine ze_in [(0, .ref 232), (1, .int (nI s)), (2, .int x), (3, .int y)] zq_Mod_tab (Nat.le_of_ble_eq_true rfl) rfl ⟨N1, 12, fun F n hF => ?_⟩
      simp [zg_0, zg_aload_n, zg_bipush, zg_getfield, zg_goto, zg_iadd, zg_iaload, zg_iconst, zg_ifCond, zg_if_icmp, zg_iload, zg_iload_n, zg_imul, zg_invokestatic, zg_invokevirtual, zg_ireturn, zg_istore, zg_ldc, zg_ldc_w, zf_X6_tab, zi_ld, zi_lda, zi_cmp, zi_retOk, zi_isI, zi_f3, zi_cr, zi_ci, zi_cn, zi_get, zi_set, m2, zq_Mod_isIn, E1 F (by omega), q1, q2, n1]
  · refine ze_in [(0, .ref 232), (1, .int w), (2, .int x), (3, .int y)] zq_Mod_tab (Nat.le_of_ble_eq_true rfl) rfl ⟨N1, 7, fun F n hF => ?_⟩
    simp [zg_0, zg_aload_n, zg_bipush, zg_getfield, zg_goto, zg_iadd, zg_iaload, zg_iconst, zg_ifCond, zg_if_icmp, zg_iload, zg_iload_n, zg_imul, zg_invokestatic, zg_invokevirtual, zg_ireturn, zg_istore, zg_ldc, zg_ldc_w, zf_X6_tab, zi_ld, zi_lda, zi_cmp, zi_retOk, zi_isI, zi_f3, zi_cr, zi_ci, zi_cn, zi_get, zi_set, zq_Mod_isIn, E1 F (by omega), n1]
end ZXB
section ZXB2
variable {M ξ μ : zm_M} {row stkC stk ord R : List Nat} {Rs : Nat → List Nat} {ts us : Nat → zy_F} {T τ : Nat} {t u : zy_F}
/-- leaf by leaf, in order -/
theorem zs_leaf (hI : zt_I ξ T R t) (h : zs ξ T R t μ τ u) {i : Nat} (hi : i < (zy_lvs t).length) : zs_pl ξ T R μ τ ((zy_lvs t).getD i 0) ((zy_lvs u).getD i 0) := by
  rcases zs_wf hI h with ⟨rfl, rfl⟩ | ⟨wt, wu⟩
  · exact absurd hi (by simp [zy_lvs])
  · have g : zy_sim (fun n m => (zt_tb ξ T R n, ξ (T + 12) n) = (zu_tb μ τ m, μ 250 (24 * τ + m))) (zs_pc ξ T μ τ) t u := zy_sim_mono t wt u wu h.1 (fun n _ m _ p => by rw [p.1, p.2]) (fun _ _ _ _ p => p)
    have e := zy_sim_map (f := fun n => (zt_tb ξ T R n, ξ (T + 12) n)) (g := fun m => (zu_tb μ τ m, μ 250 (24 * τ + m))) t wt u wu g
    have hl : (zy_lvs u).length = (zy_lvs t).length := (zs_len hI h).2
    have e2 := congrArg (fun l => l[i]?) e
    have z1 : (zy_lvs t).getD i 0 = (zy_lvs t)[i] := by rw [List.getD_eq_getElem?_getD, List.getElem?_eq_getElem hi]; rfl
    have z2 : (zy_lvs u).getD i 0 = (zy_lvs u)[i]'(by omega) := by rw [List.getD_eq_getElem?_getD, List.getElem?_eq_getElem (by omega)]; rfl
    simp only [List.getElem?_map, List.getElem?_eq_getElem hi, List.getElem?_eq_getElem (show i < (zy_lvs u).length by omega), Option.map_some, Option.some.injEq, Prod.mk.injEq] at e2
    rw [z1, z2]
    exact ⟨e2.1.symm, e2.2.symm⟩
theorem zW_tab_e (h : zW M) (w x y : Int32) : zW_e M A_Desk_tab A_Mod_tab [.int w, .int x, .int y] := by
  obtain ⟨row, stkC, stk, ord, Rs, ts, us, h⟩ := h
  have hW : zW M := ⟨row, stkC, stk, ord, Rs, ts, us, h⟩
  by_cases hb : (w < 0 ∨ nI 3 ≤ w) ∨ x < 0 ∨ ¬ (-2 : Int32) ≤ y
  · exact ⟨M, M, _, ze_tab_bad 61 hb, ze_Mtab_bad 35 hb, hW⟩
  · have hx : ¬ x < 0 := fun z => hb (Or.inr (Or.inl z))
    have hy : (-2 : Int32) ≤ y := Decidable.not_not.mp (fun z => hb (Or.inr (Or.inr z)))
    rcases zd_rng w 3 (by decide) with ⟨s, hs, rfl⟩ | ho
    · obtain ⟨q1, q2⟩ := zK_size h hs
      by_cases c : M (zdS s) 3 = 0
      · exact ⟨M, M, _, ze_tab_no 61 hs hx hy c, ze_Mtab_no 35 hs hx hy (q1.mp c), hW⟩
      · obtain ⟨i, hi, rfl⟩ := nI_of hx
        have hI := (h.1.2.2.2.1 s hs).1.1
        have hz := h.2.2.2.2.2.1 s hs
        have hl : (zy_lvs (us s)).length = (zy_lvs (ts s)).length := (zs_len hI hz).2
        have E1 := ze_tab_v 61 h.1 hs hi hy c
        obtain ⟨θ, E2, f⟩ := ze_Mtab_v 35 (zK_R h) hs hi hy (fun q => c (q1.mpr q))
        have ev : (if i < (zy_lvs (us s)).length then zx_tab (zu_tb M s ((zy_lvs (us s)).getD i 0)) (M 250 (24 * s + (zy_lvs (us s)).getD i 0)) y else -1000000005) = (if i < (zy_lvs (ts s)).length then zx_tab (zt_tb M (zdT s) (Rs s) ((zy_lvs (ts s)).getD i 0)) (M (zdT s + 12) ((zy_lvs (ts s)).getD i 0)) y else -1000000005) := by
          rw [hl]
          by_cases c4 : i < (zy_lvs (ts s)).length
          · obtain ⟨p1, p2⟩ := zs_leaf hI hz c4
            rw [if_pos c4, if_pos c4, p1, p2]
          · rw [if_neg c4, if_neg c4]
        rw [ev] at E2
        exact ⟨M, θ, _, E1, E2, zW_ro h zJ_eqv.refl f⟩
    · exact absurd (Or.inl ho) hb
end ZXB2
