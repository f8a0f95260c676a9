/-! told: the same answer -/
section ZXT
variable {μ : zm_M} {row stk : List Nat} {Rs : Nat → List Nat} {ts : Nat → zy_F} {us : Nat → zy_F}
set_option maxRecDepth 100000 in
theorem ze_looseOnes_v (D : Nat) (x : Int32) : ze_E (D + 3) A_Desk_looseOnes [.ref 1, .int x] (zm_mk μ) (some (.int (nI (zl_ct (zd_loose μ x) 10)))) (zm_mk μ) := by
  have h10 : (Int8.ofInt 10).toInt32 = (10 : Int32) := by decide
  have key : ∃ r h', ze_G (D + 2) 4 (some .int) zc_X5_looseOnes 4 [(3, .int (nI 0)), (2, .int (nI 0)), (0, .ref 1), (1, .int x)] [] (zm_mk μ) r h' ∧ (r = some (.int (nI (zl_ct (zd_loose μ x) 10))) ∧ zm_mk μ = h') := by
    refine ze_loop (Q := fun i L hp => i ≤ 10 ∧ zi_nl L = true ∧ zi_get L 0 = some (.ref 1) ∧ zi_get L 1 = some (.int x) ∧ zi_get L 3 = some (.int (nI i)) ∧ zm_mk μ = hp ∧ (zi_get L 2 = some (.int (nI (zl_ct (zd_loose μ x) i))))) (R := fun r h' => r = some (.int (nI (zl_ct (zd_loose μ x) 10))) ∧ zm_mk μ = h') 10 ?_ ?_ 10 0 _ _ (by omega) ⟨by omega, rfl, rfl, rfl, rfl, rfl, rfl⟩
    · rintro i L _ hi ⟨-, nl, g0, g1, g3, rfl, hq⟩
      have c1 : ¬ (10 : Int32) ≤ nI i := nI_ge (b := 10) hi (by decide)
      obtain ⟨N1, E1⟩ := ze_looseW (μ := μ) D hi x
      have cw := zw_c (μ := μ) (zdW_at hi)
      have es : zl_ct (zd_loose μ x) (i + 1) = zl_ct (zd_loose μ x) i + if zd_loose μ x i = true then 1 else 0 := rfl
      by_cases c2 : zd_loose μ x i = true
      · rw [if_pos c2] at es E1
        left
        refine ⟨zi_set (zi_set L 2 (.int (nI (zl_ct (zd_loose μ x) i + 1)))) 3 (.int (nI (i + 1))), zm_mk μ, ⟨N1, 17, fun F m hF => ?_⟩, by omega, ?_, ?_, ?_, zi_get_set_eq, rfl, by rw [es]; simp (maxDischargeDepth := 9) [zi_get_ne, zi_nl_i, zi_nl_r, zi_get_set_eq, nl]⟩
        · simp (maxDischargeDepth := 9) [zg_0, zg_aaload, zg_aload_n, zg_bipush, zg_getfield, zg_goto, zg_iadd, zg_iconst, zg_ifCond, zg_if_icmp, zg_iinc, zg_iload_n, zg_invokevirtual, zg_ireturn, zg_istore_n, zf_X5_looseOnes, zi_ld, zi_lda, zi_cmp, zi_retOk, zi_isI, zi_f3, zi_cr, zi_ci, zi_cn, zi_get_ne, zi_nl_i, zi_nl_r, zi_get_set_eq, nl, g0, g1, g3, h10, c1, zd_g, zd_w hi, zq_Win_isLooseOn, cw, E1 F (by omega), hq, nI_1]
        · simp (maxDischargeDepth := 9) [zi_get_ne, zi_nl_i, zi_nl_r, zi_get_set_eq, nl]
        · simp (maxDischargeDepth := 9) [zi_get_ne, zi_nl_i, zi_nl_r, zi_get_set_eq, nl, g0]
        · simp (maxDischargeDepth := 9) [zi_get_ne, zi_nl_i, zi_nl_r, zi_get_set_eq, nl, g1]
      · rw [if_neg c2] at es E1
        rw [Nat.add_zero] at es
        left
        refine ⟨zi_set (zi_set L 2 (.int (nI (zl_ct (zd_loose μ x) i)))) 3 (.int (nI (i + 1))), zm_mk μ, ⟨N1, 16, fun F m hF => ?_⟩, by omega, ?_, ?_, ?_, zi_get_set_eq, rfl, by rw [es]; simp (maxDischargeDepth := 9) [zi_get_ne, zi_nl_i, zi_nl_r, zi_get_set_eq, nl]⟩
        · simp (maxDischargeDepth := 9) [zg_0, zg_aaload, zg_aload_n, zg_bipush, zg_getfield, zg_goto, zg_iadd, zg_iconst, zg_ifCond, zg_if_icmp, zg_iinc, zg_iload_n, zg_invokevirtual, zg_ireturn, zg_istore_n, zf_X5_looseOnes, zi_ld, zi_lda, zi_cmp, zi_retOk, zi_isI, zi_f3, zi_cr, zi_ci, zi_cn, zi_get_ne, zi_nl_i, zi_nl_r, zi_get_set_eq, nl, g0, g1, g3, h10, c1, zd_g, zd_w hi, zq_Win_isLooseOn, cw, E1 F (by omega), hq, nI_1]
        · simp (maxDischargeDepth := 9) [zi_get_ne, zi_nl_i, zi_nl_r, zi_get_set_eq, nl]
        · simp (maxDischargeDepth := 9) [zi_get_ne, zi_nl_i, zi_nl_r, zi_get_set_eq, nl, g0]
        · simp (maxDischargeDepth := 9) [zi_get_ne, zi_nl_i, zi_nl_r, zi_get_set_eq, nl, g1]
    · rintro L _ ⟨-, nl, g0, g1, g3, rfl, hq⟩
      have c1 : (10 : Int32) ≤ nI 10 := by decide
      refine ⟨_, zm_mk μ, ⟨0, 5, fun F m hF => ?_⟩, rfl, rfl⟩
      simp [zg_0, zg_aaload, zg_aload_n, zg_bipush, zg_getfield, zg_goto, zg_iadd, zg_iconst, zg_ifCond, zg_if_icmp, zg_iinc, zg_iload_n, zg_invokevirtual, zg_ireturn, zg_istore_n, zf_X5_looseOnes, zi_ld, zi_lda, zi_cmp, zi_retOk, zi_isI, zi_f3, zi_cr, zi_ci, zi_cn, g0, g3, hq, h10, c1]
  obtain ⟨r, h', G, rfl, rfl⟩ := key
  refine ze_in [(0, .ref 1), (1, .int x)] zq_Desk_looseOnes (Nat.le_of_ble_eq_true rfl) rfl (ze_S.end ⟨0, 4, fun F m hF => ?_⟩ G)
  simp [zg_0, zg_aaload, zg_aload_n, zg_bipush, zg_getfield, zg_goto, zg_iadd, zg_iconst, zg_ifCond, zg_if_icmp, zg_iinc, zg_iload_n, zg_invokevirtual, zg_ireturn, zg_istore_n, zf_X5_looseOnes, zi_ld, zi_lda, zi_cmp, zi_retOk, zi_isI, zi_f3, zi_cr, zi_ci, zi_cn, zi_get, zi_set, nI_0]
theorem zt_nds {T : Nat} {R : List Nat} {t : zy_F} (hC : zt_C μ T R t) : (μ T 12 + 1) / 2 = nI (zy_lvs t).length ∧ μ T 12 / 2 = nI ((zy_lvs t).length - 1) := by
  obtain ⟨⟨-, ⟨k4, k5, k6, -⟩, -⟩, ⟨o1, -⟩, -⟩ := hC
  rw [o1]
  rcases k4 with ⟨rfl, -⟩ | ⟨wt, -, -⟩
  · decide
  · have h1 := zy_len t wt
    have h2 := zy_nodup_le 19 (zy_ids t) k5 k6
    have : ∀ b, b < 11 → 1 ≤ b → (nI (2 * b - 1) + 1) / 2 = nI b ∧ nI (2 * b - 1) / 2 = nI (b - 1) := by decide
    have := this (zy_lvs t).length (by omega) (by omega)
    rw [show 2 * (zy_lvs t).length - 1 = (zy_ids t).length by omega] at this
    exact this
set_option maxRecDepth 100000 in
theorem ze_told_v (D : Nat) (h : zJ μ row stk Rs ts) {s j : Nat} (hs : s < 3) (hj : j < 7) (c3 : ¬ μ (zdS s) 3 = 0) {v : Int32} (e0 : j = 0 → v = μ (zdZ s) 0) (e1 : j = 1 → v = μ (zdZ s) 1) (e2 : j = 2 → v = nI (zy_lvs (ts s)).length) (e3 : j = 3 → v = nI ((zy_lvs (ts s)).length - 1)) (e4 : j = 4 → v = zt_lsz μ (zdT s) 0 (Rs s) (ts s)) (e5 : j = 5 → v = zt_lsz μ (zdT s) 1 (Rs s) (ts s)) (e6 : j = 6 → v = nI (zl_ct (zd_loose μ (nI s)) 10)) : ze_E (D + 4) A_Desk_told [.ref 1, .int (nI s), .int (nI j)] (zm_mk μ) (some (.int v)) (zm_mk μ) := by
  have h6 : (Int8.ofInt 6).toInt32 = (6 : Int32) := by decide
  obtain ⟨N1, E1⟩ := ze_isScreen_in (h := zm_mk μ) (D + 2) hs
  have c1 : ¬ nI j < 0 := nI_pos (by omega)
  have c2 : nI j ≤ 6 := nI_le (b := 6) (by omega) (by decide)
  have S0 : ze_S (D + 3) 4 (some .int) zc_X5_told 0 [(0, .ref 1), (1, .int (nI s)), (2, .int (nI j))] [] (zm_mk μ) 38 [(3, .ref (zdS s + 1)), (0, .ref 1), (1, .int (nI s)), (2, .int (nI j))] [.int (nI j)] (zm_mk μ) := by
    refine ⟨N1, 17, fun F n hF => ?_⟩
    simp [zg_0, zg_aaload, zg_aload_n, zg_astore_n, zg_bipush, zg_getfield, zg_iaload, zg_iconst, zg_ifCond, zg_if_icmp, zg_iload_n, zg_invokestatic, zg_invokevirtual, zg_ireturn, zg_isub, zg_ldc, zg_tableswitch, zf_X5_told, zi_ld, zi_lda, zi_cmp, zi_retOk, zi_isI, zi_f3, zi_cr, zi_ci, zi_cn, zi_get, zi_set, zq_Desk_isScreen, E1 F (by omega), c1, c2, h6, zd_g, zd_s hs, zdS_g hs, c3]
  obtain ⟨lt, ct⟩ := zt_c (μ := μ) (zdT_at hs)
  have hC := (h.2.2.2.1 s hs).1
  obtain ⟨d1, d2⟩ := zt_nds hC
  refine ze_in [(0, .ref 1), (1, .int (nI s)), (2, .int (nI j))] zq_Desk_told (Nat.le_of_ble_eq_true rfl) rfl (S0.end ?_)
  match j, hj with
  | 0, _ =>
    have t0 : (nI 0).toInt = 0 := by decide
    have e0' : nI 0 = 0 := nI_0
    rw [e0 rfl]
    refine ⟨0, 6, fun F n hF => ?_⟩
    simp [zg_0, zg_aaload, zg_aload_n, zg_astore_n, zg_bipush, zg_getfield, zg_iaload, zg_iconst, zg_ifCond, zg_if_icmp, zg_iload_n, zg_invokestatic, zg_invokevirtual, zg_ireturn, zg_isub, zg_ldc, zg_tableswitch, zf_X5_told, zi_ld, zi_lda, zi_cmp, zi_retOk, zi_isI, zi_f3, zi_cr, zi_ci, zi_cn, zi_get, zi_set, t0, zdS_g hs]
    rw [e0']
    simp [zm_iald (k := 0) (zdZ_A hs) zm_in0, zm_cl0, zg_0, zg_aaload, zg_aload_n, zg_astore_n, zg_bipush, zg_getfield, zg_iaload, zg_iconst, zg_ifCond, zg_if_icmp, zg_iload_n, zg_invokestatic, zg_invokevirtual, zg_ireturn, zg_isub, zg_ldc, zg_tableswitch, zf_X5_told, zi_ld, zi_lda, zi_cmp, zi_retOk, zi_isI, zi_f3, zi_cr, zi_ci, zi_cn]
  | 1, _ =>
    have t0 : (nI 1).toInt = 1 := by decide
    have e0' : nI 1 = 1 := by decide
    rw [e1 rfl]
    refine ⟨0, 6, fun F n hF => ?_⟩
    simp [zg_0, zg_aaload, zg_aload_n, zg_astore_n, zg_bipush, zg_getfield, zg_iaload, zg_iconst, zg_ifCond, zg_if_icmp, zg_iload_n, zg_invokestatic, zg_invokevirtual, zg_ireturn, zg_isub, zg_ldc, zg_tableswitch, zf_X5_told, zi_ld, zi_lda, zi_cmp, zi_retOk, zi_isI, zi_f3, zi_cr, zi_ci, zi_cn, zi_get, zi_set, t0, zdS_g hs]
    rw [e0']
    simp [zm_iald (k := 0) (zdZ_A hs) zm_in1, zm_cl1, zg_0, zg_aaload, zg_aload_n, zg_astore_n, zg_bipush, zg_getfield, zg_iaload, zg_iconst, zg_ifCond, zg_if_icmp, zg_iload_n, zg_invokestatic, zg_invokevirtual, zg_ireturn, zg_isub, zg_ldc, zg_tableswitch, zf_X5_told, zi_ld, zi_lda, zi_cmp, zi_retOk, zi_isI, zi_f3, zi_cr, zi_ci, zi_cn]
  | 2, _ =>
    have t0 : (nI 2).toInt = 2 := by decide
    obtain ⟨N2, E2⟩ := ze_Tree_leaves (μ := μ) (D + 2) (zdT_at hs)
    rw [d1, ← e2 rfl] at E2
    refine ⟨N2, 5, fun F n hF => ?_⟩
    simp [zg_0, zg_aaload, zg_aload_n, zg_astore_n, zg_bipush, zg_getfield, zg_iaload, zg_iconst, zg_ifCond, zg_if_icmp, zg_iload_n, zg_invokestatic, zg_invokevirtual, zg_ireturn, zg_isub, zg_ldc, zg_tableswitch, zf_X5_told, zi_ld, zi_lda, zi_cmp, zi_retOk, zi_isI, zi_f3, zi_cr, zi_ci, zi_cn, zi_get, zi_set, t0, zdS_g hs, zq_Tree_leaves, ct, E2 F (by omega)]
  | 3, _ =>
    have t0 : (nI 3).toInt = 3 := by decide
    obtain ⟨N2, E2⟩ := ze_Tree_cuts (μ := μ) (D + 2) (zdT_at hs)
    rw [d2, ← e3 rfl] at E2
    refine ⟨N2, 5, fun F n hF => ?_⟩
    simp [zg_0, zg_aaload, zg_aload_n, zg_astore_n, zg_bipush, zg_getfield, zg_iaload, zg_iconst, zg_ifCond, zg_if_icmp, zg_iload_n, zg_invokestatic, zg_invokevirtual, zg_ireturn, zg_isub, zg_ldc, zg_tableswitch, zf_X5_told, zi_ld, zi_lda, zi_cmp, zi_retOk, zi_isI, zi_f3, zi_cr, zi_ci, zi_cn, zi_get, zi_set, t0, zdS_g hs, zq_Tree_cuts, ct, E2 F (by omega)]
  | 4, _ =>
    have t0 : (nI 4).toInt = 4 := by decide
    have hm : nI 4 - 4 = nI 0 := by decide
    obtain ⟨N2, E2⟩ := ze_Tree_leastOf (μ := μ) (D + 2) (zdT_at hs) (a := 0) (by decide) (zt_root_in hC.1)
    have e4 : v = (if μ (zdT s) 9 < 0 then 0 else μ (zdT s + 16 + 0) (μ (zdT s) 9).toNatClampNeg) := (e4 rfl).trans (zt_ls_C hC (by decide)).symm
    rw [← e4] at E2
    refine ⟨N2, 8, fun F n hF => ?_⟩
    simp [zg_0, zg_aaload, zg_aload_n, zg_astore_n, zg_bipush, zg_getfield, zg_iaload, zg_iconst, zg_ifCond, zg_if_icmp, zg_iload_n, zg_invokestatic, zg_invokevirtual, zg_ireturn, zg_isub, zg_ldc, zg_tableswitch, zf_X5_told, zi_ld, zi_lda, zi_cmp, zi_retOk, zi_isI, zi_f3, zi_cr, zi_ci, zi_cn, zi_get, zi_set, t0, hm, zdS_g hs, zq_Tree_leastOf, ct, E2 F (by omega)]
  | 5, _ =>
    have t0 : (nI 5).toInt = 5 := by decide
    have hm : nI 5 - 4 = nI 1 := by decide
    obtain ⟨N2, E2⟩ := ze_Tree_leastOf (μ := μ) (D + 2) (zdT_at hs) (a := 1) (by decide) (zt_root_in hC.1)
    have e5 : v = (if μ (zdT s) 9 < 0 then 0 else μ (zdT s + 16 + 1) (μ (zdT s) 9).toNatClampNeg) := (e5 rfl).trans (zt_ls_C hC (by decide)).symm
    rw [← e5] at E2
    refine ⟨N2, 8, fun F n hF => ?_⟩
    simp [zg_0, zg_aaload, zg_aload_n, zg_astore_n, zg_bipush, zg_getfield, zg_iaload, zg_iconst, zg_ifCond, zg_if_icmp, zg_iload_n, zg_invokestatic, zg_invokevirtual, zg_ireturn, zg_isub, zg_ldc, zg_tableswitch, zf_X5_told, zi_ld, zi_lda, zi_cmp, zi_retOk, zi_isI, zi_f3, zi_cr, zi_ci, zi_cn, zi_get, zi_set, t0, hm, zdS_g hs, zq_Tree_leastOf, ct, E2 F (by omega)]
  | 6, _ =>
    have t0 : (nI 6).toInt = 6 := by decide
    obtain ⟨N2, E2⟩ := ze_looseOnes_v (μ := μ) D (nI s)
    rw [← e6 rfl] at E2
    refine ⟨N2, 5, fun F n hF => ?_⟩
    simp [zg_0, zg_aaload, zg_aload_n, zg_astore_n, zg_bipush, zg_getfield, zg_iaload, zg_iconst, zg_ifCond, zg_if_icmp, zg_iload_n, zg_invokestatic, zg_invokevirtual, zg_ireturn, zg_isub, zg_ldc, zg_tableswitch, zf_X5_told, zi_ld, zi_lda, zi_cmp, zi_retOk, zi_isI, zi_f3, zi_cr, zi_ci, zi_cn, zi_get, zi_set, t0, zq_Desk_looseOnes, zd_c, E2 F (by omega)]
set_option maxRecDepth 100000 in
theorem ze_told_no (D : Nat) {s j : Nat} (hs : s < 3) (hj : j < 7) (c3 : μ (zdS s) 3 = 0) : ze_E (D + 4) A_Desk_told [.ref 1, .int (nI s), .int (nI j)] (zm_mk μ) (some (.int (-1000000002))) (zm_mk μ) := by
  have n2 : Int32.ofInt (-1000000002) = -1000000002 := by decide
  have h6 : (Int8.ofInt 6).toInt32 = (6 : Int32) := by decide
  obtain ⟨N1, E1⟩ := ze_isScreen_in (h := zm_mk μ) (D + 2) hs
  have c1 : ¬ nI j < 0 := nI_pos (by omega)
  have c2 : nI j ≤ 6 := nI_le (b := 6) (by omega) (by decide)
  refine ze_in [(0, .ref 1), (1, .int (nI s)), (2, .int (nI j))] zq_Desk_told (Nat.le_of_ble_eq_true rfl) rfl ⟨N1, 18, fun F n hF => ?_⟩
  simp [zg_0, zg_aaload, zg_aload_n, zg_astore_n, zg_bipush, zg_getfield, zg_iaload, zg_iconst, zg_ifCond, zg_if_icmp, zg_iload_n, zg_invokestatic, zg_invokevirtual, zg_ireturn, zg_isub, zg_ldc, zg_tableswitch, zf_X5_told, zi_ld, zi_lda, zi_cmp, zi_retOk, zi_isI, zi_f3, zi_cr, zi_ci, zi_cn, zi_get, zi_set, zq_Desk_isScreen, E1 F (by omega), c1, c2, h6, zd_g, zd_s hs, zdS_g hs, c3, n2]
set_option maxRecDepth 100000 in
theorem ze_told_bad (D : Nat) {w x : Int32} (hb : (w < 0 ∨ nI 3 ≤ w) ∨ (x < 0 ∨ nI 7 ≤ x)) : ze_E (D + 4) A_Desk_told [.ref 1, .int w, .int x] (zm_mk μ) (some (.int (-1000000001))) (zm_mk μ) := by
  have n4 : Int32.ofInt (-1000000001) = -1000000001 := by decide
  have h6 : (Int8.ofInt 6).toInt32 = (6 : Int32) := by decide
  rcases zd_rng w 3 (by decide) with ⟨s, hs, rfl⟩ | hout
  · obtain ⟨N1, E1⟩ := ze_isScreen_in (h := zm_mk μ) (D + 2) hs
    rcases hb with hb | ho
    · exfalso
      rcases hb with hb | hb
      · exact nI_pos (by omega) hb
      · exact nI_ge (b := 3) hs (by decide) hb
    · by_cases c1 : x < 0
      · refine ze_in [(0, .ref 1), (1, .int (nI s)), (2, .int x)] zq_Desk_told (Nat.le_of_ble_eq_true rfl) rfl ⟨N1, 7, fun F n hF => ?_⟩
        simp [zg_0, zg_aaload, zg_aload_n, zg_astore_n, zg_bipush, zg_getfield, zg_iaload, zg_iconst, zg_ifCond, zg_if_icmp, zg_iload_n, zg_invokestatic, zg_invokevirtual, zg_ireturn, zg_isub, zg_ldc, zg_tableswitch, zf_X5_told, zi_ld, zi_lda, zi_cmp, zi_retOk, zi_isI, zi_f3, zi_cr, zi_ci, zi_cn, zi_get, zi_set, zq_Desk_isScreen, E1 F (by omega), c1, n4]
      · have c2 : ¬ x ≤ 6 := fun q => by
          rcases ho with ho | ho
          · exact c1 ho
          · exact absurd (Int32.le_trans ho q) (by decide)
        refine ze_in [(0, .ref 1), (1, .int (nI s)), (2, .int x)] zq_Desk_told (Nat.le_of_ble_eq_true rfl) rfl ⟨N1, 10, fun F n hF => ?_⟩
        simp [zg_0, zg_aaload, zg_aload_n, zg_astore_n, zg_bipush, zg_getfield, zg_iaload, zg_iconst, zg_ifCond, zg_if_icmp, zg_iload_n, zg_invokestatic, zg_invokevirtual, zg_ireturn, zg_isub, zg_ldc, zg_tableswitch, zf_X5_told, zi_ld, zi_lda, zi_cmp, zi_retOk, zi_isI, zi_f3, zi_cr, zi_ci, zi_cn, zi_get, zi_set, zq_Desk_isScreen, E1 F (by omega), c1, c2, h6, n4]
  · obtain ⟨N1, E1⟩ := ze_isScreen_out (h := zm_mk μ) (D + 2) hout
    refine ze_in [(0, .ref 1), (1, .int w), (2, .int x)] zq_Desk_told (Nat.le_of_ble_eq_true rfl) rfl ⟨N1, 5, fun F n hF => ?_⟩
    simp [zg_0, zg_aaload, zg_aload_n, zg_astore_n, zg_bipush, zg_getfield, zg_iaload, zg_iconst, zg_ifCond, zg_if_icmp, zg_iload_n, zg_invokestatic, zg_invokevirtual, zg_ireturn, zg_isub, zg_ldc, zg_tableswitch, zf_X5_told, zi_ld, zi_lda, zi_cmp, zi_retOk, zi_isI, zi_f3, zi_cr, zi_ci, zi_cn, zi_get, zi_set, zq_Desk_isScreen, E1 F (by omega), n4]
theorem zv_tdS_v (D : Nat) {s : Nat} (hs : s < 3) (L0 : zi_Lc) (nl0 : zi_nl L0 = true) (a0 : zi_get L0 0 = some (.ref 232)) (a1 : zi_get L0 1 = some (.int (nI s))) (a3 : zi_get L0 3 = some (.int (nI 0))) (a4 : zi_get L0 4 = some (.int (nI 0))) :
    ∃ r h', ze_G (D + 1) 5 (some .int) zc_X6_told 172 L0 [] (zm_mk μ) r h' ∧ (r = some (.int (nI (zl_ct (fun k => zv_on μ k (nI s)) 10))) ∧ zm_mk μ = h') := by
  have h10 : (Int8.ofInt 10).toInt32 = (10 : Int32) := by decide
  obtain ⟨lc, cM⟩ := zM_c (μ := μ)
  refine ze_loop (Q := fun i L hp => i ≤ 10 ∧ zi_nl L = true ∧ zi_get L 0 = some (.ref 232) ∧ zi_get L 1 = some (.int (nI s)) ∧ zi_get L 4 = some (.int (nI i)) ∧ zm_mk μ = hp ∧ (zi_get L 3 = some (.int (nI (zl_ct (fun k => zv_on μ k (nI s)) i))))) (R := fun r h' => r = some (.int (nI (zl_ct (fun k => zv_on μ k (nI s)) 10))) ∧ zm_mk μ = h') 10 ?_ ?_ 10 0 _ _ (by omega) ⟨by omega, nl0, a0, a1, a4, rfl, a3⟩
  · rintro i L _ hi ⟨-, nl, g0, g1, g4, rfl, hq⟩
    have c1 : ¬ (10 : Int32) ≤ nI i := nI_ge (b := 10) hi (by decide)
    obtain ⟨N1, E1⟩ := ze_MisOnScreen (μ := μ) D hi (nI s)
    have es : zl_ct (fun k => zv_on μ k (nI s)) (i + 1) = zl_ct (fun k => zv_on μ k (nI s)) i + if zv_on μ i (nI s) = true then 1 else 0 := rfl
    by_cases c2 : zv_on μ i (nI s) = true
    · rw [if_pos c2] at es E1
      left
      refine ⟨zi_set (zi_set L 3 (.int (nI (zl_ct (fun k => zv_on μ k (nI s)) i + 1)))) 4 (.int (nI (i + 1))), zm_mk μ, ⟨N1, 15, fun F m hF => ?_⟩, by omega, ?_, ?_, ?_, zi_get_set_eq, rfl, by rw [es]; simp (maxDischargeDepth := 9) [zi_get_ne, zi_nl_i, zi_nl_r, zi_get_set_eq, nl]⟩
      · simp (maxDischargeDepth := 9) [zg_0, zg_aload_n, zg_bipush, zg_getfield, zg_goto, zg_iadd, zg_iaload, zg_iconst, zg_ifCond, zg_if_icmp, zg_iinc, zg_iload, zg_iload_n, zg_invokestatic, zg_invokevirtual, zg_ireturn, zg_istore, zg_istore_n, zg_isub, zg_ldc, zg_tableswitch, zf_X6_told, zi_ld, zi_lda, zi_cmp, zi_retOk, zi_isI, zi_f3, zi_cr, zi_ci, zi_cn, zi_get_ne, zi_nl_i, zi_nl_r, zi_get_set_eq, nl, g0, g1, g4, h10, c1, cM, zq_Mod_isOnScreen, E1 F (by omega), hq, nI_1]
      · simp (maxDischargeDepth := 9) [zi_get_ne, zi_nl_i, zi_nl_r, zi_get_set_eq, nl]
      · simp (maxDischargeDepth := 9) [zi_get_ne, zi_nl_i, zi_nl_r, zi_get_set_eq, nl, g0]
      · simp (maxDischargeDepth := 9) [zi_get_ne, zi_nl_i, zi_nl_r, zi_get_set_eq, nl, g1]
    · rw [if_neg c2] at es E1
      rw [Nat.add_zero] at es
      left
      refine ⟨zi_set (zi_set L 3 (.int (nI (zl_ct (fun k => zv_on μ k (nI s)) i)))) 4 (.int (nI (i + 1))), zm_mk μ, ⟨N1, 14, fun F m hF => ?_⟩, by omega, ?_, ?_, ?_, zi_get_set_eq, rfl, by rw [es]; simp (maxDischargeDepth := 9) [zi_get_ne, zi_nl_i, zi_nl_r, zi_get_set_eq, nl]⟩
      · simp (maxDischargeDepth := 9) [zg_0, zg_aload_n, zg_bipush, zg_getfield, zg_goto, zg_iadd, zg_iaload, zg_iconst, zg_ifCond, zg_if_icmp, zg_iinc, zg_iload, zg_iload_n, zg_invokestatic, zg_invokevirtual, zg_ireturn, zg_istore, zg_istore_n, zg_isub, zg_ldc, zg_tableswitch, zf_X6_told, zi_ld, zi_lda, zi_cmp, zi_retOk, zi_isI, zi_f3, zi_cr, zi_ci, zi_cn, zi_get_ne, zi_nl_i, zi_nl_r, zi_get_set_eq, nl, g0, g1, g4, h10, c1, cM, zq_Mod_isOnScreen, E1 F (by omega), hq, nI_1]
      · simp (maxDischargeDepth := 9) [zi_get_ne, zi_nl_i, zi_nl_r, zi_get_set_eq, nl]
      · simp (maxDischargeDepth := 9) [zi_get_ne, zi_nl_i, zi_nl_r, zi_get_set_eq, nl, g0]
      · simp (maxDischargeDepth := 9) [zi_get_ne, zi_nl_i, zi_nl_r, zi_get_set_eq, nl, g1]
  · rintro L _ ⟨-, nl, g0, g1, g4, rfl, hq⟩
    have c1 : (10 : Int32) ≤ nI 10 := by decide
    refine ⟨_, zm_mk μ, ⟨0, 5, fun F m hF => ?_⟩, rfl, rfl⟩
    simp [zg_0, zg_aload_n, zg_bipush, zg_getfield, zg_goto, zg_iadd, zg_iaload, zg_iconst, zg_ifCond, zg_if_icmp, zg_iinc, zg_iload, zg_iload_n, zg_invokestatic, zg_invokevirtual, zg_ireturn, zg_istore, zg_istore_n, zg_isub, zg_ldc, zg_tableswitch, zf_X6_told, zi_ld, zi_lda, zi_cmp, zi_retOk, zi_isI, zi_f3, zi_cr, zi_ci, zi_cn, g0, g1, g4, hq, h10, c1]
theorem zR_least_v (D : Nat) {s a : Nat} {ab : Nat → Int32} (hs : s < 3) (hI : zu_I μ s (us s) ab) (ha : a < 2) (c : ¬ μ 243 s < 0) : ze_E (D + 26) A_Mod_least [.ref 232, .int (nI s), .int (μ 243 s), .int (nI (1 - a))] (zm_mk μ) (some (.int (zu_lsz μ s a (us s)))) (zm_mk μ) := by
  rcases hI.1 with ⟨-, hr⟩ | ⟨wt, ok, hr, -⟩
  · rw [hr] at c; exact absurd (by decide) c
  · have hl := zy_nodup_le 24 (zy_ids (us s)) hI.2.1 hI.2.2.1
    have hT := fun n hn => (fun (q : zu_T μ s n (zu_tb μ s n) ∧ zu_tb μ s n ≠ [] ∧ ∀ x ∈ zu_tb μ s n, x < 10) => (⟨q.1, q.2.2⟩ : zu_T μ s n (zu_tb μ s n) ∧ ∀ x ∈ zu_tb μ s n, x < 10)) (zu_I_tb hI (n := n) hn)
    have E1 := ze_Mleast (μ := μ) (τ := s) (by omega) ha (us s) wt ok hI.2.2.1 hT (D + 25 - (zy_ids (us s)).length)
    rw [show D + 25 - (zy_ids (us s)).length + 1 + (zy_ids (us s)).length = D + 26 by omega, ← hr] at E1
    exact E1
theorem zu_lsz_nil {s a : Nat} {ab : Nat → Int32} (hI : zu_I μ s (us s) ab) (c : μ 243 s < 0) : zu_lsz μ s a (us s) = 0 := by
  rcases hI.1 with ⟨e, -⟩ | ⟨wt, -, hr, -⟩
  · rw [e]; rfl
  · have := hI.2.2.1 _ (zy_id_mem wt)
    rw [hr] at c
    exact absurd c (nI_pos (by omega))
set_option maxRecDepth 100000 in
theorem ze_Mtold_v (D : Nat) (h : zR μ row stk us) {s a : Nat} (hs : s < 3) (ha : a < 7) (c0 : ¬ μ 232 s = 0) {v : Int32} (e0 : a = 0 → v = μ 232 s) (e1 : a = 1 → v = μ 233 s) (e2 : a = 2 → v = nI (zy_lvs (us s)).length) (e3 : a = 3 → v = nI ((zy_lvs (us s)).length - 1)) (e4 : a = 4 → v = zu_lsz μ s 0 (us s)) (e5 : a = 5 → v = zu_lsz μ s 1 (us s)) (e6 : a = 6 → v = nI (zl_ct (fun k => zv_on μ k (nI s)) 10)) : ∃ ν, ze_E (D + 29) A_Mod_told [.ref 232, .int (nI s), .int (nI a)] (zm_mk μ) (some (.int v)) (zm_mk ν) ∧ zM_fr μ ν := by
  have h6 : (Int8.ofInt 6).toInt32 = (6 : Int32) := by decide
  obtain ⟨lc, cM⟩ := zM_c (μ := μ)
  have is : zi_in (nI s) 3 = true := zm_in hs (by decide)
  have is7 : zi_in (nI s) 7 = true := zm_in (by omega) (by decide)
  have cs : (nI s).toNatClampNeg = s := nI_clamp (by omega)
  rcases zM_isIn (hp := zm_mk μ) (D + 27) (nI s) (n := 2) (b := 2) (by decide) (by decide) with ⟨s', hs', es', N1, E1⟩ | ⟨-, hno⟩
  rotate_left
  · exact absurd rfl (hno s (by omega))
  rcases zM_isIn (hp := zm_mk μ) (D + 27) (nI a) (n := 6) (b := 6) (by decide) (by decide) with ⟨a', ha', ea', N2, E2⟩ | ⟨-, hno⟩
  rotate_left
  · exact absurd rfl (hno a (by omega))
  obtain ⟨ab, hI⟩ := (h.2.2.2.2.1 s hs).1
  obtain ⟨hndl, h24, hlen⟩ := zu_lvs_nodup hI
  obtain ⟨ν, ⟨N3, E3⟩, hl, f⟩ := ze_MclearLeaves (μ := μ) (D + 2) (τ := s) (by omega) hI
  have hIν : zu_I ν s (us s) ab := f.eqT.I hI
  obtain ⟨lc2, cM2⟩ := zM_c (μ := ν)
  have fc : ∀ c d, 232 ≤ c → c ≤ 258 → ν c d = μ c d := fun c d q1 q2 => f c d (by omega) (by omega)
  have elf : ∀ b, b < 2 → zu_lsz ν s b (us s) = zu_lsz μ s b (us s) := fun b hb => by
    unfold zu_lsz
    have t : zu_fm ν s = zu_fm μ s := funext fun n => by unfold zu_fm; rw [fc 244 _ (by decide) (by decide)]
    have t2 : zu_tb ν s = zu_tb μ s := funext fun n => zu_tb_cells (fun d => ⟨fc _ _ (by decide) (by decide), fc _ _ (by decide) (by decide)⟩)
    have t3 : zu_lf ν s b = zu_lf μ s b := funext fun n => by
      unfold zu_lf
      rw [t2, show ν (235 + b) = μ (235 + b) from funext fun d => fc _ d (by omega) (by omega)]
    rw [t, t3]
  have S0 : ze_S (D + 28) 5 (some .int) zc_X6_told 0 [(0, .ref 232), (1, .int (nI s)), (2, .int (nI a))] [] (zm_mk μ) 42 [(3, .int 0), (0, .ref 232), (1, .int (nI s)), (2, .int (nI a))] [.int (nI a)] (zm_mk ν) := by
    refine ⟨N1 + N2 + N3, 21, fun F n hF => ?_⟩
    simp [zg_0, zg_aload_n, zg_bipush, zg_getfield, zg_goto, zg_iadd, zg_iaload, zg_iconst, zg_ifCond, zg_if_icmp, zg_iinc, zg_iload, zg_iload_n, zg_invokestatic, zg_invokevirtual, zg_ireturn, zg_istore, zg_istore_n, zg_isub, zg_ldc, zg_tableswitch, zf_X6_told, zi_ld, zi_lda, zi_cmp, zi_retOk, zi_isI, zi_f3, zi_cr, zi_ci, zi_cn, zi_get, zi_set, zM_g, h6, cM, zq_Mod_isIn, zq_Mod_clearLeaves, E1 F (by omega), E2 F (by omega), E3 F (by omega), zm_iald (k := 0) zM_A232 is, cs, c0]
  refine ⟨ν, ze_in [(0, .ref 232), (1, .int (nI s)), (2, .int (nI a))] zq_Mod_told (Nat.le_of_ble_eq_true rfl) rfl (S0.end ?_), f.fr⟩
  match a, ha with
  | 0, _ =>
    have t0 : (nI 0).toInt = 0 := by decide
    rw [e0 rfl, ← fc 232 s (by decide) (by decide)]
    refine ⟨0, 6, fun F n hF => ?_⟩
    simp [zg_0, zg_aload_n, zg_bipush, zg_getfield, zg_goto, zg_iadd, zg_iaload, zg_iconst, zg_ifCond, zg_if_icmp, zg_iinc, zg_iload, zg_iload_n, zg_invokestatic, zg_invokevirtual, zg_ireturn, zg_istore, zg_istore_n, zg_isub, zg_ldc, zg_tableswitch, zf_X6_told, zi_ld, zi_lda, zi_cmp, zi_retOk, zi_isI, zi_f3, zi_cr, zi_ci, zi_cn, zi_get, zi_set, t0, zM_g, zm_iald (k := 0) zM_A232 is, cs]
  | 1, _ =>
    have t0 : (nI 1).toInt = 1 := by decide
    rw [e1 rfl, ← fc 233 s (by decide) (by decide)]
    refine ⟨0, 6, fun F n hF => ?_⟩
    simp [zg_0, zg_aload_n, zg_bipush, zg_getfield, zg_goto, zg_iadd, zg_iaload, zg_iconst, zg_ifCond, zg_if_icmp, zg_iinc, zg_iload, zg_iload_n, zg_invokestatic, zg_invokevirtual, zg_ireturn, zg_istore, zg_istore_n, zg_isub, zg_ldc, zg_tableswitch, zf_X6_told, zi_ld, zi_lda, zi_cmp, zi_retOk, zi_isI, zi_f3, zi_cr, zi_ci, zi_cn, zi_get, zi_set, t0, zM_g, zm_iald (k := 0) zM_A233 is, cs]
  | 2, _ =>
    have t0 : (nI 2).toInt = 2 := by decide
    rw [e2 rfl, ← hl.1]
    refine ⟨0, 4, fun F n hF => ?_⟩
    simp [zg_0, zg_aload_n, zg_bipush, zg_getfield, zg_goto, zg_iadd, zg_iaload, zg_iconst, zg_ifCond, zg_if_icmp, zg_iinc, zg_iload, zg_iload_n, zg_invokestatic, zg_invokevirtual, zg_ireturn, zg_istore, zg_istore_n, zg_isub, zg_ldc, zg_tableswitch, zf_X6_told, zi_ld, zi_lda, zi_cmp, zi_retOk, zi_isI, zi_f3, zi_cr, zi_ci, zi_cn, zi_get, zi_set, t0, zM_g]
  | 3, _ =>
    have t0 : (nI 3).toInt = 3 := by decide
    rw [e3 rfl]
    by_cases c : (zy_lvs (us s)).length = 0
    · have c' : ν 231 30 ≤ 0 := by rw [hl.1, c]; decide
      have z : nI ((zy_lvs (us s)).length - 1) = 0 := by rw [c]; decide
      rw [z]
      refine ⟨0, 6, fun F n hF => ?_⟩
      simp [zg_0, zg_aload_n, zg_bipush, zg_getfield, zg_goto, zg_iadd, zg_iaload, zg_iconst, zg_ifCond, zg_if_icmp, zg_iinc, zg_iload, zg_iload_n, zg_invokestatic, zg_invokevirtual, zg_ireturn, zg_istore, zg_istore_n, zg_isub, zg_ldc, zg_tableswitch, zf_X6_told, zi_ld, zi_lda, zi_cmp, zi_retOk, zi_isI, zi_f3, zi_cr, zi_ci, zi_cn, zi_get, zi_set, t0, zM_g, c']
    · have q : ∀ n, n < 25 → ¬ n = 0 → ¬ nI n ≤ 0 ∧ nI n - 1 = nI (n - 1) := by decide
      obtain ⟨q1, q2⟩ := q _ (by omega) c
      rw [← hl.1] at q1 q2
      refine ⟨0, 10, fun F n hF => ?_⟩
      simp [zg_0, zg_aload_n, zg_bipush, zg_getfield, zg_goto, zg_iadd, zg_iaload, zg_iconst, zg_ifCond, zg_if_icmp, zg_iinc, zg_iload, zg_iload_n, zg_invokestatic, zg_invokevirtual, zg_ireturn, zg_istore, zg_istore_n, zg_isub, zg_ldc, zg_tableswitch, zf_X6_told, zi_ld, zi_lda, zi_cmp, zi_retOk, zi_isI, zi_f3, zi_cr, zi_ci, zi_cn, zi_get, zi_set, t0, zM_g, q1, q2]
  | 4, _ =>
    have t0 : (nI 4).toInt = 4 := by decide
    rw [e4 rfl, ← elf 0 (by decide)]
    by_cases c : 0 ≤ ν 243 s
    · obtain ⟨N4, E4⟩ := zR_least_v (D + 2) hs hIν (a := 0) (by decide) (Int32.not_lt.mpr c)
      have q : nI (1 - 0) = 1 := by decide
      rw [q] at E4
      refine ⟨N4, 15, fun F n hF => ?_⟩
      simp [zg_0, zg_aload_n, zg_bipush, zg_getfield, zg_goto, zg_iadd, zg_iaload, zg_iconst, zg_ifCond, zg_if_icmp, zg_iinc, zg_iload, zg_iload_n, zg_invokestatic, zg_invokevirtual, zg_ireturn, zg_istore, zg_istore_n, zg_isub, zg_ldc, zg_tableswitch, zf_X6_told, zi_ld, zi_lda, zi_cmp, zi_retOk, zi_isI, zi_f3, zi_cr, zi_ci, zi_cn, zi_get, zi_set, t0, zM_g, cM2, zm_iald (k := 0) zM_A243 is7, cs, c, zq_Mod_least, E4 F (by omega)]
    · rw [zu_lsz_nil hIν (Int32.not_le.mp c)]
      refine ⟨0, 9, fun F n hF => ?_⟩
      simp [zg_0, zg_aload_n, zg_bipush, zg_getfield, zg_goto, zg_iadd, zg_iaload, zg_iconst, zg_ifCond, zg_if_icmp, zg_iinc, zg_iload, zg_iload_n, zg_invokestatic, zg_invokevirtual, zg_ireturn, zg_istore, zg_istore_n, zg_isub, zg_ldc, zg_tableswitch, zf_X6_told, zi_ld, zi_lda, zi_cmp, zi_retOk, zi_isI, zi_f3, zi_cr, zi_ci, zi_cn, zi_get, zi_set, t0, zM_g, zm_iald (k := 0) zM_A243 is7, cs, c]
  | 5, _ =>
    have t0 : (nI 5).toInt = 5 := by decide
    rw [e5 rfl, ← elf 1 (by decide)]
    by_cases c : 0 ≤ ν 243 s
    · obtain ⟨N4, E4⟩ := zR_least_v (D + 2) hs hIν (a := 1) (by decide) (Int32.not_lt.mpr c)
      have q : nI (1 - 1) = 0 := by decide
      rw [q] at E4
      refine ⟨N4, 15, fun F n hF => ?_⟩
      simp [zg_0, zg_aload_n, zg_bipush, zg_getfield, zg_goto, zg_iadd, zg_iaload, zg_iconst, zg_ifCond, zg_if_icmp, zg_iinc, zg_iload, zg_iload_n, zg_invokestatic, zg_invokevirtual, zg_ireturn, zg_istore, zg_istore_n, zg_isub, zg_ldc, zg_tableswitch, zf_X6_told, zi_ld, zi_lda, zi_cmp, zi_retOk, zi_isI, zi_f3, zi_cr, zi_ci, zi_cn, zi_get, zi_set, t0, zM_g, cM2, zm_iald (k := 0) zM_A243 is7, cs, c, zq_Mod_least, E4 F (by omega)]
    · rw [zu_lsz_nil hIν (Int32.not_le.mp c)]
      refine ⟨0, 9, fun F n hF => ?_⟩
      simp [zg_0, zg_aload_n, zg_bipush, zg_getfield, zg_goto, zg_iadd, zg_iaload, zg_iconst, zg_ifCond, zg_if_icmp, zg_iinc, zg_iload, zg_iload_n, zg_invokestatic, zg_invokevirtual, zg_ireturn, zg_istore, zg_istore_n, zg_isub, zg_ldc, zg_tableswitch, zf_X6_told, zi_ld, zi_lda, zi_cmp, zi_retOk, zi_isI, zi_f3, zi_cr, zi_ci, zi_cn, zi_get, zi_set, t0, zM_g, zm_iald (k := 0) zM_A243 is7, cs, c]
  | 6, _ =>
    have t0 : (nI 6).toInt = 6 := by decide
    have q : zl_ct (fun k => zv_on ν k (nI s)) 10 = zl_ct (fun k => zv_on μ k (nI s)) 10 := zl_ct_congr 10 (fun k hk => by unfold zv_on; rw [fc 234 k (by decide) (by decide), fc 238 k (by decide) (by decide)])
    rw [e6 rfl, ← q]
    obtain ⟨r, h', G, rfl, rfl⟩ := zv_tdS_v (μ := ν) (D + 27) hs [(4, .int (nI 0)), (3, .int (nI 0)), (0, .ref 232), (1, .int (nI s)), (2, .int (nI 6))] rfl rfl rfl rfl rfl
    refine ze_S.end ⟨0, 3, fun F n hF => ?_⟩ G
    simp [zg_0, zg_aload_n, zg_bipush, zg_getfield, zg_goto, zg_iadd, zg_iaload, zg_iconst, zg_ifCond, zg_if_icmp, zg_iinc, zg_iload, zg_iload_n, zg_invokestatic, zg_invokevirtual, zg_ireturn, zg_istore, zg_istore_n, zg_isub, zg_ldc, zg_tableswitch, zf_X6_told, zi_ld, zi_lda, zi_cmp, zi_retOk, zi_isI, zi_f3, zi_cr, zi_ci, zi_cn, zi_get, zi_set, t0, nI_0]
set_option maxRecDepth 100000 in
theorem ze_Mtold_no (D : Nat) {s a : Nat} (hs : s < 3) (ha : a < 7) (c0 : μ 232 s = 0) : ze_E (D + 29) A_Mod_told [.ref 232, .int (nI s), .int (nI a)] (zm_mk μ) (some (.int (-1000000002))) (zm_mk μ) := by
  have n2 : Int32.ofInt (-1000000002) = -1000000002 := by decide
  have h6 : (Int8.ofInt 6).toInt32 = (6 : Int32) := by decide
  have is : zi_in (nI s) 3 = true := zm_in hs (by decide)
  have cs : (nI s).toNatClampNeg = s := nI_clamp (by omega)
  rcases zM_isIn (hp := zm_mk μ) (D + 27) (nI s) (n := 2) (b := 2) (by decide) (by decide) with ⟨s', hs', es', N1, E1⟩ | ⟨-, hno⟩
  rotate_left
  · exact absurd rfl (hno s (by omega))
  rcases zM_isIn (hp := zm_mk μ) (D + 27) (nI a) (n := 6) (b := 6) (by decide) (by decide) with ⟨a', ha', ea', N2, E2⟩ | ⟨-, hno⟩
  rotate_left
  · exact absurd rfl (hno a (by omega))
  refine ze_in [(0, .ref 232), (1, .int (nI s)), (2, .int (nI a))] zq_Mod_told (Nat.le_of_ble_eq_true rfl) rfl ⟨N1 + N2, 17, fun F n hF => ?_⟩
  simp [zg_0, zg_aload_n, zg_bipush, zg_getfield, zg_goto, zg_iadd, zg_iaload, zg_iconst, zg_ifCond, zg_if_icmp, zg_iinc, zg_iload, zg_iload_n, zg_invokestatic, zg_invokevirtual, zg_ireturn, zg_istore, zg_istore_n, zg_isub, zg_ldc, zg_tableswitch, zf_X6_told, zi_ld, zi_lda, zi_cmp, zi_retOk, zi_isI, zi_f3, zi_cr, zi_ci, zi_cn, zi_get, zi_set, zM_g, h6, zq_Mod_isIn, E1 F (by omega), E2 F (by omega), zm_iald (k := 0) zM_A232 is, cs, c0, n2]
set_option maxRecDepth 100000 in
theorem ze_Mtold_bad (D : Nat) {w x : Int32} (hb : (w < 0 ∨ nI 3 ≤ w) ∨ (x < 0 ∨ nI 7 ≤ x)) : ze_E (D + 29) A_Mod_told [.ref 232, .int w, .int x] (zm_mk μ) (some (.int (-1000000001))) (zm_mk μ) := by
  have n1 : Int32.ofInt (-1000000001) = -1000000001 := by decide
  have h6 : (Int8.ofInt 6).toInt32 = (6 : Int32) := by decide
  rcases zM_isIn (hp := zm_mk μ) (D + 27) w (n := 2) (b := 2) (by decide) (by decide) with ⟨s, hs, rfl, N1, E1⟩ | ⟨⟨N1, E1⟩, hno⟩
  · rcases zM_isIn (hp := zm_mk μ) (D + 27) x (n := 6) (b := 6) (by decide) (by decide) with ⟨a, ha, rfl, N2, E2⟩ | ⟨⟨N2, E2⟩, -⟩
    · exfalso
      rcases hb with (hb | hb) | hb | hb
      · exact nI_pos (by omega) hb
      · exact nI_ge (b := 3) hs (by decide) hb
      · exact nI_pos (by omega) hb
      · exact nI_ge (b := 7) ha (by decide) hb
    · refine ze_in [(0, .ref 232), (1, .int (nI s)), (2, .int x)] zq_Mod_told (Nat.le_of_ble_eq_true rfl) rfl ⟨N1 + N2, 12, fun F n hF => ?_⟩
      simp [zg_0, zg_aload_n, zg_bipush, zg_getfield, zg_goto, zg_iadd, zg_iaload, zg_iconst, zg_ifCond, zg_if_icmp, zg_iinc, zg_iload, zg_iload_n, zg_invokestatic, zg_invokevirtual, zg_ireturn, zg_istore, zg_istore_n, zg_isub, zg_ldc, zg_tableswitch, zf_X6_told, zi_ld, zi_lda, zi_cmp, zi_retOk, zi_isI, zi_f3, zi_cr, zi_ci, zi_cn, zi_get, zi_set, h6, zq_Mod_isIn, E1 F (by omega), E2 F (by omega), n1]
  · refine ze_in [(0, .ref 232), (1, .int w), (2, .int x)] zq_Mod_told (Nat.le_of_ble_eq_true rfl) rfl ⟨N1, 7, fun F n hF => ?_⟩
    simp [zg_0, zg_aload_n, zg_bipush, zg_getfield, zg_goto, zg_iadd, zg_iaload, zg_iconst, zg_ifCond, zg_if_icmp, zg_iinc, zg_iload, zg_iload_n, zg_invokestatic, zg_invokevirtual, zg_ireturn, zg_istore, zg_istore_n, zg_isub, zg_ldc, zg_tableswitch, zf_X6_told, zi_ld, zi_lda, zi_cmp, zi_retOk, zi_isI, zi_f3, zi_cr, zi_ci, zi_cn, zi_get, zi_set, zq_Mod_isIn, E1 F (by omega), n1]
end ZXT
section ZXT2
variable {M ξ μ : zm_M} {row stkC stk ord : List Nat} {Rs : Nat → List Nat} {ts us : Nat → zy_F}
theorem zK_size (h : zK ξ μ row stkC stk ord Rs ts us) {s : Nat} (hs : s < 3) : (ξ (zdS s) 3 = 0 ↔ μ 232 s = 0) ∧ (¬ ξ (zdS s) 3 = 0 → μ 232 s = ξ (zdZ s) 0 ∧ μ 233 s = ξ (zdZ s) 1) := by
  have h2 := h.2.2.1.2 s hs
  refine ⟨⟨fun c => (h2.1 c).1, fun c => ?_⟩, h2.2⟩
  by_cases e : ξ (zdS s) 3 = 0
  · exact e
  · have := (h.1.2.2.2.2.2 s hs e).1.1
    rw [← (h2.2 e).1, c] at this
    exact absurd this (by decide)
theorem zK_loose (h : zK ξ μ row stkC stk ord Rs ts us) {k : Nat} (hk : k < 10) (x : Int32) : zd_loose ξ x k = zv_on μ k x := by
  unfold zd_loose zv_on
  refine decide_eq_decide.mpr ?_
  have h2 := h.2.2.1.1 k hk
  cases e : zd_th ξ k with
  | false =>
    rw [h2.1 e]
    exact ⟨fun z => absurd (of_decide_eq_false e z.1) id, fun z => absurd z.1 (by decide)⟩
  | true =>
    have e' := of_decide_eq_true e
    rw [(h2.2 e).1]
    have kd := (h.1.2.2.1 k hk e).1
    constructor
    · rintro ⟨a, b, c, d⟩
      refine ⟨?_, b, ?_⟩
      · rcases kd with q | q | q | q
        · exact absurd q d
        all_goals rw [q]; decide
      · rw [(h2.2 e).2.2.2 b]; exact c
    · rintro ⟨a, b, c⟩
      exact ⟨e', b, by rw [← (h2.2 e).2.2.2 b]; exact c, fun q => by rw [q] at a; exact absurd a (by decide)⟩
theorem zW_told_e (h : zW M) (w x : Int32) : zW_e M A_Desk_told A_Mod_told [.int w, .int x] := by
  obtain ⟨row, stkC, stk, ord, Rs, ts, us, h⟩ := h
  have hW : zW M := ⟨row, stkC, stk, ord, Rs, ts, us, h⟩
  rcases zd_rng w 3 (by decide) with ⟨s, hs, rfl⟩ | ho
  · rcases zd_rng x 7 (by decide) with ⟨j, hj, rfl⟩ | ho
    · obtain ⟨q1, q2⟩ := zK_size h hs
      by_cases c : M (zdS s) 3 = 0
      · exact ⟨M, M, _, ze_told_no 60 hs hj c, ze_Mtold_no 35 hs hj (q1.mp c), hW⟩
      · obtain ⟨z0, z1⟩ := q2 c
        have hI := (h.1.2.2.2.1 s hs).1.1
        have hz := h.2.2.2.2.2.1 s hs
        have hl : (zy_lvs (us s)).length = (zy_lvs (ts s)).length := (zs_len hI hz).2
        have z4 : zt_lsz M (zdT s) 0 (Rs s) (ts s) = zu_lsz M s 0 (us s) := zs_lsz hI hz (zK_sz h hs) (by decide)
        have z5 : zt_lsz M (zdT s) 1 (Rs s) (ts s) = zu_lsz M s 1 (us s) := zs_lsz hI hz (zK_sz h hs) (by decide)
        have z6 : zl_ct (zd_loose M (nI s)) 10 = zl_ct (fun k => zv_on M k (nI s)) 10 := zl_ct_congr 10 (fun k hk => zK_loose h hk _)
        obtain ⟨v, f0, f1, f2, f3, f4, f5, f6⟩ : ∃ v : Int32, (j = 0 → v = M (zdZ s) 0) ∧ (j = 1 → v = M (zdZ s) 1) ∧ (j = 2 → v = nI (zy_lvs (ts s)).length) ∧ (j = 3 → v = nI ((zy_lvs (ts s)).length - 1)) ∧ (j = 4 → v = zt_lsz M (zdT s) 0 (Rs s) (ts s)) ∧ (j = 5 → v = zt_lsz M (zdT s) 1 (Rs s) (ts s)) ∧ (j = 6 → v = nI (zl_ct (zd_loose M (nI s)) 10)) := by
          have ne : ∀ {a b : Nat} {P : Prop}, a ≠ b → a = b → P := fun n e => absurd e n
          match j, hj with
          | 0, _ => exact ⟨_, fun _ => rfl, ne (by decide), ne (by decide), ne (by decide), ne (by decide), ne (by decide), ne (by decide)⟩
          | 1, _ => exact ⟨_, ne (by decide), fun _ => rfl, ne (by decide), ne (by decide), ne (by decide), ne (by decide), ne (by decide)⟩
          | 2, _ => exact ⟨_, ne (by decide), ne (by decide), fun _ => rfl, ne (by decide), ne (by decide), ne (by decide), ne (by decide)⟩
          | 3, _ => exact ⟨_, ne (by decide), ne (by decide), ne (by decide), fun _ => rfl, ne (by decide), ne (by decide), ne (by decide)⟩
          | 4, _ => exact ⟨_, ne (by decide), ne (by decide), ne (by decide), ne (by decide), fun _ => rfl, ne (by decide), ne (by decide)⟩
          | 5, _ => exact ⟨_, ne (by decide), ne (by decide), ne (by decide), ne (by decide), ne (by decide), fun _ => rfl, ne (by decide)⟩
          | 6, _ => exact ⟨_, ne (by decide), ne (by decide), ne (by decide), ne (by decide), ne (by decide), ne (by decide), fun _ => rfl⟩
        have E1 := ze_told_v 60 h.1 hs hj c f0 f1 f2 f3 f4 f5 f6
        rw [← z0] at f0
        rw [← z1] at f1
        rw [← hl] at f2 f3
        rw [z4] at f4
        rw [z5] at f5
        rw [z6] at f6
        obtain ⟨θ, E2, f⟩ := ze_Mtold_v 35 (zK_R h) hs hj (fun q => c (q1.mpr q)) f0 f1 f2 f3 f4 f5 f6
        exact ⟨M, θ, v, E1, E2, zW_ro h zJ_eqv.refl f⟩
    · exact ⟨M, M, _, ze_told_bad 60 (Or.inr ho), ze_Mtold_bad 35 (Or.inr ho), hW⟩
  · exact ⟨M, M, _, ze_told_bad 60 (Or.inl ho), ze_Mtold_bad 35 (Or.inl ho), hW⟩
end ZXT2
