section
/-! told: the same answer -/
section ZXT
variable {μ : zm_M} {row stk : List Nat} {Rs : Nat → List Nat} {ts : Nat → zy_F} {us : Nat → zy_F}
set_option maxRecDepth 100000 in
theorem ze_looseOnes_v (D : Nat) (x : Int32) : ze_E (D + 3) A_Desk_looseOnes [.ref 1, .int x] (zm_mk μ) (some (.int (nI (zl_ct (zd_loose μ x) 10)))) (zm_mk μ) := by
  have h10 : (Int8.ofInt 10).toInt32 = (10 : Int32) := by decide
  have key : ∃ r h', ze_G (D + 2) 4 (some .int) zc_X5_looseOnes 4 [(3, .int (nI 0)), (2, .int (nI 0)), (0, .ref 1), (1, .int x)] [] (zm_mk μ) r h' ∧ (r = some (.int (nI (zl_ct (zd_loose μ x) 10))) ∧ zm_mk μ = h') := by
    refine ze_loop (Q := fun i L hp => i ≤ 10 ∧ zi_nl L = true ∧ zi_get L 0 = some (.ref 1) ∧ zi_get L 1 = some (.int x) ∧ zi_get L 3 = some (.int (nI i)) ∧ zm_mk μ = hp ∧ (zi_get L 2 = some (.int (nI (zl_ct (zd_loose μ x) i))))) (R := fun r h' => r = some (.int (nI (zl_ct (zd_loose μ x) 10))) ∧ zm_mk μ = h') 10 ?_ ?_ 10 0 _ _ (by omega) ⟨by omega, rfl, rfl, rfl, rfl, rfl, rfl⟩
    · rintro i L _ hi ⟨-, nl, g0, g1, g3, rfl, hq⟩
      have c1 : ¬ (10 : Int32) ≤ nI i := nI_ge (b := 10) hi (by decide)
      obtain ⟨N1, E1⟩ := ze_looseW (μ := μ) D hi x
      have cw := zw_c (μ := μ) (zdW_at hi)
      have es : zl_ct (zd_loose μ x) (i + 1) = zl_ct (zd_loose μ x) i + if zd_loose μ x i = true then 1 else 0 := rfl
      by_cases c2 : zd_loose μ x i = true
      · rw [if_pos c2] at es E1
        left
        refine ⟨zi_set (zi_set L 2 (.int (nI (zl_ct (zd_loose μ x) i + 1)))) 3 (.int (nI (i + 1))), zm_mk μ, ⟨N1, 17, fun F m hF => ?_⟩, by omega, ?_, ?_, ?_, zi_get_set_eq, rfl, by rw [es]; simp (maxDischargeDepth := 9) [zi_get_ne, zi_nl_i, zi_nl_r, zi_get_set_eq, nl]⟩
        · simp (maxDischargeDepth := 9) [zg_0, zg_aaload, zg_aload_n, zg_bipush, zg_getfield, zg_goto, zg_iadd, zg_iconst, zg_ifCond, zg_if_icmp, zg_iinc, zg_iload_n, zg_invokevirtual, zg_ireturn, zg_istore_n, zf_X5_looseOnes, zi_ld, zi_lda, zi_cmp, zi_retOk, zi_isI, zi_f3, zi_cr, zi_ci, zi_cn, zi_get_ne, zi_nl_i, zi_nl_r, zi_get_set_eq, nl, g0, g1, g3, h10, c1, zd_g, zd_w hi, zq_Win_isLooseOn, cw, E1 F (by omega), hq, nI_1]
        · simp (maxDischargeDepth := 9) [zi_get_ne, zi_nl_i, zi_nl_r, zi_get_set_eq, nl]
        · simp (maxDischargeDepth := 9) [zi_get_ne, zi_nl_i, zi_nl_r, zi_get_set_eq, nl, g0]
        · simp (maxDischargeDepth := 9) [zi_get_ne, zi_nl_i, zi_nl_r, zi_get_set_eq, nl, g1]
      · rw [if_neg c2] at es E1
        rw [Nat.add_zero] at es
        left
        refine ⟨zi_set (zi_set L 2 (.int (nI (zl_ct (zd_loose μ x) i)))) 3 (.int (nI (i + 1))), zm_mk μ, ⟨N1, 16, fun F m hF => ?_⟩, by omega, ?_, ?_, ?_, zi_get_set_eq, rfl, by rw [es]; simp (maxDischargeDepth := 9) [zi_get_ne, zi_nl_i, zi_nl_r, zi_get_set_eq, nl]⟩
        · simp (maxDischargeDepth := 9) [zg_0, zg_aaload, zg_aload_n, zg_bipush, zg_getfield, zg_goto, zg_iadd, zg_iconst, zg_ifCond, zg_if_icmp, zg_iinc, zg_iload_n, zg_invokevirtual, zg_ireturn, zg_istore_n, zf_X5_looseOnes, zi_ld, zi_lda, zi_cmp, zi_retOk, zi_isI, zi_f3, zi_cr, zi_ci, zi_cn, zi_get_ne, zi_nl_i, zi_nl_r, zi_get_set_eq, nl, g0, g1, g3, h10, c1, zd_g, zd_w hi, zq_Win_isLooseOn, cw, E1 F (by omega), hq, nI_1]
        · simp (maxDischargeDepth := 9) [zi_get_ne, zi_nl_i, zi_nl_r, zi_get_set_eq, nl]
        · simp (maxDischargeDepth := 9) [zi_get_ne, zi_nl_i, zi_nl_r, zi_get_set_eq, nl, g0]
        · simp (maxDischargeDepth := 9) [zi_get_ne, zi_nl_i, zi_nl_r, zi_get_set_eq, nl, g1]
    · rintro L _ ⟨-, nl, g0, g1, g3, rfl, hq⟩
      have c1 : (10 : Int32) ≤ nI 10 := by decide
      refine ⟨_, zm_mk μ, ⟨0, 5, fun F m hF => ?_⟩, rfl, rfl⟩
      simp [zg_0, zg_aaload, zg_aload_n, zg_bipush, zg_getfield, zg_goto, zg_iadd, zg_iconst, zg_ifCond, zg_if_icmp, zg_iinc, zg_iload_n, zg_invokevirtual, zg_ireturn, zg_istore_n, zf_X5_looseOnes, zi_ld, zi_lda, zi_cmp, zi_retOk, zi_isI, zi_f3, zi_cr, zi_ci, zi_cn, g0, g3, hq, h10, c1]
  obtain ⟨r, h', G, rfl, rfl⟩ := key
  refine ze_in [(0, .ref 1), (1, .int x)] zq_Desk_looseOnes (Nat.le_of_ble_eq_true rfl) rfl (ze_S.end ⟨0, 4, fun F m hF => ?_⟩ G)
  simp [zg_0, zg_aaload, zg_aload_n, zg_bipush, zg_getfield, zg_goto, zg_iadd, zg_iconst, zg_ifCond, zg_if_icmp, zg_iinc, zg_iload_n, zg_invokevirtual, zg_ireturn, zg_istore_n, zf_X5_looseOnes, zi_ld, zi_lda, zi_cmp, zi_retOk, zi_isI, zi_f3, zi_cr, zi_ci, zi_cn, zi_get, zi_set, nI_0]
theorem zt_nds {T : Nat} {R : List Nat} {t : zy_F} (hC : zt_C μ T R t) : (μ T 12 + 1) / 2 = nI (zy_lvs t).length ∧ μ T 12 / 2 = nI ((zy_lvs t).length - 1) := by
  obtain ⟨⟨-, ⟨k4, k5, k6, -⟩, -⟩, ⟨o1, -⟩, -⟩ := hC
  rw [o1]
  rcases k4 with ⟨rfl, -⟩ | ⟨wt, -, -⟩
  · decide
  · have h1 := zy_len t wt
    have h2 := zy_nodup_le 19 (zy_ids t) k5 k6
    have : ∀ b, b < 11 → 1 ≤ b → (nI (2 * b - 1) + 1) / 2 = nI b ∧ nI (2 * b - 1) / 2 = nI (b - 1) := by decide
    have := this (zy_lvs t).length (by omega) (by omega)
    rw [show 2 * (zy_lvs t).length - 1 = (zy_ids t).length by omega] at this
    exact this
set_option maxRecDepth 100000 in
theorem ze_told_v (D : Nat) (h : zJ μ row stk Rs ts) {s j : Nat} (hs : s < 3) (hj : j < 7) (c3 : ¬ μ (zdS s) 3 = 0) {v : Int32} (e0 : j = 0 → v = μ (zdZ s) 0) (e1 : j = 1 → v = μ (zdZ s) 1) (e2 : j = 2 → v = nI (zy_lvs (ts s)).length) (e3 : j = 3 → v = nI ((zy_lvs (ts s)).length - 1)) (e4 : j = 4 → v = zt_lsz μ (zdT s) 0 (Rs s) (ts s)) (e5 : j = 5 → v = zt_lsz μ (zdT s) 1 (Rs s) (ts s)) (e6 : j = 6 → v = nI (zl_ct (zd_loose μ (nI s)) 10)) : ze_E (D + 4) A_Desk_told [.ref 1, .int (nI s), .int (nI j)] (zm_mk μ) (some (.int v)) (zm_mk μ) := by
  have h6 : (Int8.ofInt 6).toInt32 = (6 : Int32) := by decide
  obtain ⟨N1, E1⟩ := ze_isScreen_in (h := zm_mk μ) (D + 2) hs
  have c1 : ¬ nI j < 0 := nI_pos (by omega)
  have c2 : nI j ≤ 6 := nI_le (b := 6) (by omega) (by decide)
  have S0 : ze_S (D + 3) 4 (some .int) zc_X5_told 0 [(0, .ref 1), (1, .int (nI s)), (2, .int (nI j))] [] (zm_mk μ) 38 [(3, .ref (zdS s + 1)), (0, .ref 1), (1, .int (nI s)), (2, .int (nI j))] [.int (nI j)] (zm_mk μ) := by
    refine ⟨N1, 17, fun F n hF => ?_⟩
    simp [zg_0, zg_aaload, zg_aload_n, zg_astore_n, zg_bipush, zg_getfield, zg_iaload, zg_iconst, zg_ifCond, zg_if_icmp, zg_iload_n, zg_invokestatic, zg_invokevirtual, zg_ireturn, zg_isub, zg_ldc, zg_tableswitch, zf_X5_told, zi_ld, zi_lda, zi_cmp, zi_retOk, zi_isI, zi_f3, zi_cr, zi_ci, zi_cn, zi_get, zi_set, zq_Desk_isScreen, E1 F (by omega), c1, c2, h6, zd_g, zd_s hs, zdS_g hs, c3]
  obtain ⟨lt, ct⟩ := zt_c (μ := μ) (zdT_at hs)
  have hC := (h.2.2.2.1 s hs).1
  obtain ⟨d1, d2⟩ := zt_nds hC
  refine ze_in [(0, .ref 1), (1, .int (nI s)), (2, .int (nI j))] zq_Desk_told (Nat.le_of_ble_eq_true rfl) rfl (S0.end ?_)
  match j, hj with
  | 0, _ =>
    have t0 : (nI 0).toInt = 0 := by decide
    have e0' : nI 0 = 0 := nI_0
    rw [e0 rfl]
    refine ⟨0, 6, fun F n hF => ?_⟩
    simp [zg_0, zg_aaload, zg_aload_n, zg_astore_n, zg_bipush, zg_getfield, zg_iaload, zg_iconst, zg_ifCond, zg_if_icmp, zg_iload_n, zg_invokestatic, zg_invokevirtual, zg_ireturn, zg_isub, zg_ldc, zg_tableswitch, zf_X5_told, zi_ld, zi_lda, zi_cmp, zi_retOk, zi_isI, zi_f3, zi_cr, zi_ci, zi_cn, zi_get, zi_set, t0, zdS_g hs]
    rw [e0']
    simp [zm_iald (k := 0) (zdZ_A hs) zm_in0, zm_cl0, zg_0, zg_aaload, zg_aload_n, zg_astore_n, zg_bipush, zg_getfield, zg_iaload, zg_iconst, zg_ifCond, zg_if_icmp, zg_iload_n, zg_invokestatic, zg_invokevirtual, zg_ireturn, zg_isub, zg_ldc, zg_tableswitch, zf_X5_told, zi_ld, zi_lda, zi_cmp, zi_retOk, zi_isI, zi_f3, zi_cr, zi_ci, zi_cn]
  | 1, _ =>
    have t0 : (nI 1).toInt = 1 := by decide
    have e0' : nI 1 = 1 := by decide
    rw [e1 rfl]
    refine ⟨0, 6, fun F n hF => ?_⟩
    simp [zg_0, zg_aaload, zg_aload_n, zg_astore_n, zg_bipush, zg_getfield, zg_iaload, zg_iconst, zg_ifCond, zg_if_icmp, zg_iload_n, zg_invokestatic, zg_invokevirtual, zg_ireturn, zg_isub, zg_ldc, zg_tableswitch, zf_X5_told, zi_ld, zi_lda, zi_cmp, zi_retOk, zi_isI, zi_f3, zi_cr, zi_ci, zi_cn, zi_get, zi_set, t0, zdS_g hs]
    rw [e0']
    simp [zm_iald (k := 0) (zdZ_A hs) zm_in1, zm_cl1, zg_0, zg_aaload, zg_aload_n, zg_astore_n, zg_bipush, zg_getfield, zg_iaload, zg_iconst, zg_ifCond, zg_if_icmp, zg_iload_n, zg_invokestatic, zg_invokevirtual, zg_ireturn, zg_isub, zg_ldc, zg_tableswitch, zf_X5_told, zi_ld, zi_lda, zi_cmp, zi_retOk, zi_isI, zi_f3, zi_cr, zi_ci, zi_cn]
  | 2, _ =>
    have t0 : (nI 2).toInt = 2 := by decide
    obtain ⟨N2, E2⟩ := ze_Tree_leaves (μ := μ) (D + 2) (zdT_at hs)
    rw [d1, ← e2 rfl] at E2
    refine ⟨N2, 5, fun F n hF => ?_⟩
    simp [zg_0, zg_aaload, zg_aload_n, zg_astore_n, zg_bipush, zg_getfield, zg_iaload, zg_iconst, zg_ifCond, zg_if_icmp, zg_iload_n, zg_invokestatic, zg_invokevirtual, zg_ireturn, zg_isub, zg_ldc, zg_tableswitch, zf_X5_told, zi_ld, zi_lda, zi_cmp, zi_retOk, zi_isI, zi_f3, zi_cr, zi_ci, zi_cn, zi_get, zi_set, t0, zdS_g hs, zq_Tree_leaves, ct, E2 F (by omega)]
  | 3, _ =>
    have t0 : (nI 3).toInt = 3 := by decide
    obtain ⟨N2, E2⟩ := ze_Tree_cuts (μ := μ) (D + 2) (zdT_at hs)
    rw [d2, ← e3 rfl] at E2
    refine ⟨N2, 5, fun F n hF => ?_⟩
    simp [zg_0, zg_aaload, zg_aload_n, zg_astore_n, zg_bipush, zg_getfield, zg_iaload, zg_iconst, zg_ifCond, zg_if_icmp, zg_iload_n, zg_invokestatic, zg_invokevirtual, zg_ireturn, zg_isub, zg_ldc, zg_tableswitch, zf_X5_told, zi_ld, zi_lda, zi_cmp, zi_retOk, zi_isI, zi_f3, zi_cr, zi_ci, zi_cn, zi_get, zi_set, t0, zdS_g hs, zq_Tree_cuts, ct, E2 F (by omega)]
  | 4, _ =>
    have t0 : (nI 4).toInt = 4 := by decide
    have hm : nI 4 - 4 = nI 0 := by decide
    obtain ⟨N2, E2⟩ := ze_Tree_leastOf (μ := μ) (D + 2) (zdT_at hs) (a := 0) (by decide) (zt_root_in hC.1)
    have e4 : v = (if μ (zdT s) 9 < 0 then 0 else μ (zdT s + 16 + 0) (μ (zdT s) 9).toNatClampNeg) := (e4 rfl).trans (zt_ls_C hC (by decide)).symm
    rw [← e4] at E2
    refine ⟨N2, 8, fun F n hF => ?_⟩
    simp [zg_0, zg_aaload, zg_aload_n, zg_astore_n, zg_bipush, zg_getfield, zg_iaload, zg_iconst, zg_ifCond, zg_if_icmp, zg_iload_n, zg_invokestatic, zg_invokevirtual, zg_ireturn, zg_isub, zg_ldc, zg_tableswitch, zf_X5_told, zi_ld, zi_lda, zi_cmp, zi_retOk, zi_isI, zi_f3, zi_cr, zi_ci, zi_cn, zi_get, zi_set, t0, hm, zdS_g hs, zq_Tree_leastOf, ct, E2 F (by omega)]
  | 5, _ =>
    have t0 : (nI 5).toInt = 5 := by decide
    have hm : nI 5 - 4 = nI 1 := by decide
    obtain ⟨N2, E2⟩ := ze_Tree_leastOf (μ := μ) (D + 2) (zdT_at hs) (a := 1) (by decide) (zt_root_in hC.1)
    have e5 : v = (if μ (zdT s) 9 < 0 then 0 else μ (zdT s + 16 + 1) (μ (zdT s) 9).toNatClampNeg) := (e5 rfl).trans (zt_ls_C hC (by decide)).symm
    rw [← e5] at E2
    refine ⟨N2, 8, fun F n hF => ?_⟩
    simp [zg_0, zg_aaload, zg_aload_n, zg_astore_n, zg_bipush, zg_getfield, zg_iaload, zg_iconst, zg_ifCond, zg_if_icmp, zg_iload_n, zg_invokestatic, zg_invokevirtual, zg_ireturn, zg_isub, zg_ldc, zg_tableswitch, zf_X5_told, zi_ld, zi_lda, zi_cmp, zi_retOk, zi_isI, zi_f3, zi_cr, zi_ci, zi_cn, zi_get, zi_set, t0, hm, zdS_g hs, zq_Tree_leastOf, ct, E2 F (by omega)]
  | 6, _ =>
    have t0 : (nI 6).toInt = 6 := by decide
    obtain ⟨N2, E2⟩ := ze_looseOnes_v (μ := μ) D (nI s)
    rw [← e6 rfl] at E2
    refine ⟨N2, 5, fun F n hF => ?_⟩
    simp [zg_0, zg_aaload, zg_aload_n, zg_astore_n, zg_bipush, zg_getfield, zg_iaload, zg_iconst, zg_ifCond, zg_if_icmp, zg_iload_n, zg_invokestatic, zg_invokevirtual, zg_ireturn, zg_isub, zg_ldc, zg_tableswitch, zf_X5_told, zi_ld, zi_lda, zi_cmp, zi_retOk, zi_isI, zi_f3, zi_cr, zi_ci, zi_cn, zi_get, zi_set, t0, zq_Desk_looseOnes, zd_c, E2 F (by omega)]
set_option maxRecDepth 100000 in
theorem ze_told_no (D : Nat) {s j : Nat} (hs : s < 3) (hj : j < 7) (c3 : μ (zdS s) 3 = 0) : ze_E (D + 4) A_Desk_told [.ref 1, .int (nI s), .int (nI j)] (zm_mk μ) (some (.int (-1000000002))) (zm_mk μ) := by
  have n2 : Int32.ofInt (-1000000002) = -1000000002 := by decide
  have h6 : (Int8.ofInt 6).toInt32 = (6 : Int32) := by decide
  obtain ⟨N1, E1⟩ := ze_isScreen_in (h := zm_mk μ) (D + 2) hs
  have c1 : ¬ nI j < 0 := nI_pos (by omega)
  have c2 : nI j ≤ 6 := nI_le (b := 6) (by omega) (by decide)
  refine ze_in [(0, .ref 1), (1, .int (nI s)), (2, .int (nI j))] zq_Desk_told (Nat.le_of_ble_eq_true rfl) rfl ⟨N1, 18, fun F n hF => ?_⟩
  simp [zg_0, zg_aaload, zg_aload_n, zg_astore_n, zg_bipush, zg_getfield, zg_iaload, zg_iconst, zg_ifCond, zg_if_icmp, zg_iload_n, zg_invokestatic, zg_invokevirtual, zg_ireturn, zg_isub, zg_ldc, zg_tableswitch, zf_X5_told, zi_ld, zi_lda, zi_cmp, zi_retOk, zi_isI, zi_f3, zi_cr, zi_ci, zi_cn, zi_get, zi_set, zq_Desk_isScreen, E1 F (by omega), c1, c2, h6, zd_g, zd_s hs, zdS_g hs, c3, n2]
set_option maxRecDepth 100000 in
theorem ze_told_bad (D : Nat) {w x : Int32} (hb : (w < 0 ∨ nI 3 ≤ w) ∨ (x < 0 ∨ nI 7 ≤ x)) : ze_E (D + 4) A_Desk_told [.ref 1, .int w, .int x] (zm_mk μ) (some (.int (-1000000001))) (zm_mk μ) := by
  have n4 : Int32.ofInt (-1000000001) = -1000000001 := by decide
  have h6 : (Int8.ofInt 6).toInt32 = (6 : Int32) := by decide
  rcases zd_rng w 3 (by decide) with ⟨s, hs, rfl⟩ | hout
  · obtain ⟨N1, E1⟩ := ze_isScreen_in (h := zm_mk μ) (D + 2) hs
    rcases hb with hb | ho
    · exfalso
      rcases hb with hb | hb
      · exact nI_pos (by omega) hb
      · exact nI_ge (b := 3) hs (by decide) hb
    · by_cases c1 : x < 0
      · refine ze_in [(0, .ref 1), (1, .int (nI s)), (2, .int x)] zq_Desk_told (Nat.le_of_ble_eq_true rfl) rfl ⟨N1, 7, fun F n hF => ?_⟩
        simp [zg_0, zg_aaload, zg_aload_n, zg_astore_n, zg_bipush, zg_getfield, zg_iaload, zg_iconst, zg_ifCond, zg_if_icmp, zg_iload_n, zg_invokestatic, zg_invokevirtual, zg_ireturn, zg_isub, zg_ldc, zg_tableswitch, zf_X5_told, zi_ld, zi_lda, zi_cmp, zi_retOk, zi_isI, zi_f3, zi_cr, zi_ci, zi_cn, zi_get, zi_set, zq_Desk_isScreen, E1 F (by omega), c1, n4]
      · have c2 : ¬ x ≤ 6 := fun q => by
          rcases ho with ho | ho
          · exact c1 ho
          · exact absurd (Int32.le_trans ho q) (by decide)
        refine ze_in [(0, .ref 1), (1, .int (nI s)), (2, .int x)] zq_Desk_told (Nat.le_of_ble_eq_true rfl) rfl ⟨N1, 10, fun F n hF => ?_⟩
        simp [zg_0, zg_aaload, zg_aload_n, zg_astore_n, zg_bipush, zg_getfield, zg_iaload, zg_iconst, zg_ifCond, zg_if_icmp, zg_iload_n, zg_invokestatic, zg_invokevirtual, zg_ireturn, zg_isub, zg_ldc, zg_tableswitch, zf_X5_told, zi_ld, zi_lda, zi_cmp, zi_retOk, zi_isI, zi_f3, zi_cr, zi_ci, zi_cn, zi_get, zi_set, zq_Desk_isScreen, E1 F (by omega), c1, c2, h6, n4]
  · obtain ⟨N1, E1⟩ := ze_isScreen_out (h := zm_mk μ) (D + 2) hout
    refine ze_in [(0, .ref 1), (1, .int w), (2, .int x)] zq_Desk_told (Nat.le_of_ble_eq_true rfl) rfl ⟨N1, 5, fun F n hF => ?_⟩
    simp [zg_0, zg_aaload, zg_aload_n, zg_astore_n, zg_bipush, zg_getfield, zg_iaload, zg_iconst, zg_ifCond, zg_if_icmp, zg_iload_n, zg_invokestatic, zg_invokevirtual, zg_ireturn, zg_isub, zg_ldc, zg_tableswitch, zf_X5_told, zi_ld, zi_lda, zi_cmp, zi_retOk, zi_isI, zi_f3, zi_cr, zi_ci, zi_cn, zi_get, zi_set, zq_Desk_isScreen, E1 F (by omega), n4]
theorem zv_tdS_v (D : Nat) {s : Nat} (hs : s < 3) (L0 : zi_Lc) (nl0 : zi_nl L0 = true) (a0 : zi_get L0 0 = some (.ref 232)) (a1 : zi_get L0 1 = some (.int (nI s))) (a3 : zi_get L0 3 = some (.int (nI 0))) (a4 : zi_get L0 4 = some (.int (nI 0))) :
    ∃ r h', ze_G (D + 1) 5 (some .int) zc_X6_told 172 L0 [] (zm_mk μ) r h' ∧ (r = some (.int (nI (zl_ct (fun k => zv_on μ k (nI s)) 10))) ∧ zm_mk μ = h') := by
  have h10 : (Int8.ofInt 10).toInt32 = (10 : Int32) := by decide
  obtain ⟨lc, cM⟩ := zM_c (μ := μ)
  refine ze_loop (Q := fun i L hp => i ≤ 10 ∧ zi_nl L = true ∧ zi_get L 0 = some (.ref 232) ∧ zi_get L 1 = some (.int (nI s)) ∧ zi_get L 4 = some (.int (nI i)) ∧ zm_mk μ = hp ∧ (zi_get L 3 = some (.int (nI (zl_ct (fun k => zv_on μ k (nI s)) i))))) (R := fun r h' => r = some (.int (nI (zl_ct (fun k => zv_on μ k (nI s)) 10))) ∧ zm_mk μ = h') 10 ?_ ?_ 10 0 _ _ (by omega) ⟨by omega, nl0, a0, a1, a4, rfl, a3⟩
  · rintro i L _ hi ⟨-, nl, g0, g1, g4, rfl, hq⟩
    have c1 : ¬ (10 : Int32) ≤ nI i := nI_ge (b := 10) hi (by decide)
    obtain ⟨N1, E1⟩ := ze_MisOnScreen (μ := μ) D hi (nI s)
    have es : zl_ct (fun k => zv_on μ k (nI s)) (i + 1) = zl_ct (fun k => zv_on μ k (nI s)) i + if zv_on μ i (nI s) = true then 1 else 0 := rfl
    by_cases c2 : zv_on μ i (nI s) = true
    · rw [if_pos c2] at es E1
      left
      refine ⟨zi_set (zi_set L 3 (.int (nI (zl_ct (fun k => zv_on μ k (nI s)) i + 1)))) 4 (.int (nI (i + 1))), zm_mk μ, ⟨N1, 15, fun F m hF => ?_⟩, by omega, ?_, ?_, ?_, zi_get_set_eq, rfl, by rw [es]; simp (maxDischargeDepth := 9) [zi_get_ne, zi_nl_i, zi_nl_r, zi_get_set_eq, nl]⟩
      · simp (maxDischargeDepth := 9) [zg_0, zg_aload_n, zg_bipush, zg_getfield, zg_goto, zg_iadd, zg_iaload, zg_iconst, zg_ifCond, zg_if_icmp, zg_iinc, zg_iload, zg_iload_n, zg_invokestatic, zg_invokevirtual, zg_ireturn, zg_istore, zg_istore_n, zg_isub, zg_ldc, zg_tableswitch, zf_X6_told, zi_ld, zi_lda, zi_cmp, zi_retOk, zi_isI, zi_f3, zi_cr, zi_ci, zi_cn, zi_get_ne, zi_nl_i, zi_nl_r, zi_get_set_eq, nl, g0, g1, g4, h10, c1, cM, zq_Mod_isOnScreen, E1 F (by omega), hq, nI_1]
      · simp (maxDischargeDepth := 9) [zi_get_ne, zi_nl_i, zi_nl_r, zi_get_set_eq, nl]
      · simp (maxDischargeDepth := 9) [zi_get_ne, zi_nl_i, zi_nl_r, zi_get_set_eq, nl, g0]
      · simp (maxDischargeDepth := 9) [zi_get_ne, zi_nl_i, zi_nl_r, zi_get_set_eq, nl, g1]
    · rw [if_neg c2] at es E1
      rw [Nat.add_zero] at es
      left
      refine ⟨zi_set (zi_set L 3 (.int (nI (zl_ct (fun k => zv_on μ k (nI s)) i)))) 4 (.int (nI (i + 1))), zm_mk μ, ⟨N1, 14, fun F m hF => ?_⟩, by omega, ?_, ?_, ?_, zi_get_set_eq, rfl, by rw [es]; simp (maxDischargeDepth := 9) [zi_get_ne, zi_nl_i, zi_nl_r, zi_get_set_eq, nl]⟩
      · simp (maxDischargeDepth := 9) [zg_0, zg_aload_n, zg_bipush, zg_getfield, zg_goto, zg_iadd, zg_iaload, zg_iconst, zg_ifCond, zg_if_icmp, zg_iinc, zg_iload, zg_iload_n, zg_invokestatic, zg_invokevirtual, zg_ireturn, zg_istore, zg_istore_n, zg_isub, zg_ldc, zg_tableswitch, zf_X6_told, zi_ld, zi_lda, zi_cmp, zi_retOk, zi_isI, zi_f3, zi_cr, zi_ci, zi_cn, zi_get_ne, zi_nl_i, zi_nl_r, zi_get_set_eq, nl, g0, g1, g4, h10, c1, cM, zq_Mod_isOnScreen, E1 F (by omega), hq, nI_1]
      · simp (maxDischargeDepth := 9) [zi_get_ne, zi_nl_i, zi_nl_r, zi_get_set_eq, nl]
      · simp (maxDischargeDepth := 9) [zi_get_ne, zi_nl_i, zi_nl_r, zi_get_set_eq, nl, g0]
      · simp (maxDischargeDepth := 9) [zi_get_ne, zi_nl_i, zi_nl_r, zi_get_set_eq, nl, g1]
  · rintro L _ ⟨-, nl, g0, g1, g4, rfl, hq⟩
    have c1 : (10 : Int32) ≤ nI 10 := by decide
    refine ⟨_, zm_mk μ, ⟨0, 5, fun F m hF => ?_⟩, rfl, rfl⟩
    simp [zg_0, zg_aload_n, zg_bipush, zg_getfield, zg_goto, zg_iadd, zg_iaload, zg_iconst, zg_ifCond, zg_if_icmp, zg_iinc, zg_iload, zg_iload_n, zg_invokestatic, zg_invokevirtual, zg_ireturn, zg_istore, zg_istore_n, zg_isub, zg_ldc, zg_tableswitch, zf_X6_told, zi_ld, zi_lda, zi_cmp, zi_retOk, zi_isI, zi_f3, zi_cr, zi_ci, zi_cn, g0, g1, g4, hq, h10, c1]
theorem zR_least_v (D : Nat) {s a : Nat} {ab : Nat → Int32} (hs : s < 3) (hI : zu_I μ s (us s) ab) (ha : a < 2) (c : ¬ μ 243 s < 0) : ze_E (D + 26) A_Mod_least [.ref 232, .int (nI s), .int (μ 243 s), .int (nI (1 - a))] (zm_mk μ) (some (.int (zu_lsz μ s a (us s)))) (zm_mk μ) := by
  rcases hI.1 with ⟨-, hr⟩ | ⟨wt, ok, hr, -⟩
  · rw [hr] at c; exact absurd (by decide) c
  · have hl := zy_nodup_le 24 (zy_ids (us s)) hI.2.1 hI.2.2.1
    have hT := fun n hn => (fun (q : zu_T μ s n (zu_tb μ s n) ∧ zu_tb μ s n ≠ [] ∧ ∀ x ∈ zu_tb μ s n, x < 10) => (⟨q.1, q.2.2⟩ : zu_T μ s n (zu_tb μ s n) ∧ ∀ x ∈ zu_tb μ s n, x < 10)) (zu_I_tb hI (n := n) hn)
    have E1 := ze_Mleast (μ := μ) (τ := s) (by omega) ha (us s) wt ok hI.2.2.1 hT (D + 25 - (zy_ids (us s)).length)
    rw [show D + 25 - (zy_ids (us s)).length + 1 + (zy_ids (us s)).length = D + 26 by omega, ← hr] at E1
    exact E1
theorem zu_lsz_nil {s a : Nat} {ab : Nat → Int32} (hI : zu_I μ s (us s) ab) (c : μ 243 s < 0) : zu_lsz μ s a (us s) = 0 := by
  rcases hI.1 with ⟨e, -⟩ | ⟨wt, -, hr, -⟩
  · rw [e]; rfl
  · have := hI.2.2.1 _ (zy_id_mem wt)
    rw [hr] at c
    exact absurd c (nI_pos (by omega))
set_option maxRecDepth 100000 in
theorem ze_Mtold_v (D : Nat) (h : zR μ row stk us) {s a : Nat} (hs : s < 3) (ha : a < 7) (c0 : ¬ μ 232 s = 0) {v : Int32} (e0 : a = 0 → v = μ 232 s) (e1 : a = 1 → v = μ 233 s) (e2 : a = 2 → v = nI (zy_lvs (us s)).length) (e3 : a = 3 → v = nI ((zy_lvs (us s)).length - 1)) (e4 : a = 4 → v = zu_lsz μ s 0 (us s)) (e5 : a = 5 → v = zu_lsz μ s 1 (us s)) (e6 : a = 6 → v = nI (zl_ct (fun k => zv_on μ k (nI s)) 10)) : ∃ ν, ze_E (D + 29) A_Mod_told [.ref 232, .int (nI s), .int (nI a)] (zm_mk μ) (some (.int v)) (zm_mk ν) ∧ zM_fr μ ν := by
  have h6 : (Int8.ofInt 6).toInt32 = (6 : Int32) := by decide
  obtain ⟨lc, cM⟩ := zM_c (μ := μ)
  have is : zi_in (nI s) 3 = true := zm_in hs (by decide)
  have is7 : zi_in (nI s) 7 = true := zm_in (by omega) (by decide)
  have cs : (nI s).toNatClampNeg = s := nI_clamp (by omega)
  rcases zM_isIn (hp := zm_mk μ) (D + 27) (nI s) (n := 2) (b := 2) (by decide) (by decide) with ⟨s', hs', es', N1, E1⟩ | ⟨-, hno⟩
  rotate_left
  · exact absurd rfl (hno s (by omega))
  rcases zM_isIn (hp := zm_mk μ) (D + 27) (nI a) (n := 6) (b := 6) (by decide) (by decide) with ⟨a', ha', ea', N2, E2⟩ | ⟨-, hno⟩
  rotate_left
  · exact absurd rfl (hno a (by omega))
  obtain ⟨ab, hI⟩ := (h.2.2.2.2.1 s hs).1
  obtain ⟨hndl, h24, hlen⟩ := zu_lvs_nodup hI
  obtain ⟨ν, ⟨N3, E3⟩, hl, f⟩ := ze_MclearLeaves (μ := μ) (D + 2) (τ := s) (by omega) hI
  have hIν : zu_I ν s (us s) ab := f.eqT.I hI
  obtain ⟨lc2, cM2⟩ := zM_c (μ := ν)
  have fc : ∀ c d, 232 ≤ c → c ≤ 258 → ν c d = μ c d := fun c d q1 q2 => f c d (by omega) (by omega)
  have elf : ∀ b, b < 2 → zu_lsz ν s b (us s) = zu_lsz μ s b (us s) := fun b hb => by
    unfold zu_lsz
    have t : zu_fm ν s = zu_fm μ s := funext fun n => by unfold zu_fm; rw [fc 244 _ (by decide) (by decide)]
    have t2 : zu_tb ν s = zu_tb μ s := funext fun n => zu_tb_cells (fun d => ⟨fc _ _ (by decide) (by decide), fc _ _ (by decide) (by decide)⟩)
    have t3 : zu_lf ν s b = zu_lf μ s b := funext fun n => by
      unfold zu_lf
      rw [t2, show ν (235 + b) = μ (235 + b) from funext fun d => fc _ d (by omega) (by omega)]
    rw [t, t3]
  have S0 : ze_S (D + 28) 5 (some .int) zc_X6_told 0 [(0, .ref 232), (1, .int (nI s)), (2, .int (nI a))] [] (zm_mk μ) 42 [(3, .int 0), (0, .ref 232), (1, .int (nI s)), (2, .int (nI a))] [.int (nI a)] (zm_mk ν) := by
    refine ⟨N1 + N2 + N3, 21, fun F n hF => ?_⟩
    simp [zg_0, zg_aload_n, zg_bipush, zg_getfield, zg_goto, zg_iadd, zg_iaload, zg_iconst, zg_ifCond, zg_if_icmp, zg_iinc, zg_iload, zg_iload_n, zg_invokestatic, zg_invokevirtual, zg_ireturn, zg_istore, zg_istore_n, zg_isub, zg_ldc, zg_tableswitch, zf_X6_told, zi_ld, zi_lda, zi_cmp, zi_retOk, zi_isI, zi_f3, zi_cr, zi_ci, zi_cn, zi_get, zi_set, zM_g, h6, cM, zq_Mod_isIn, zq_Mod_clearLeaves, E1 F (by omega), E2 F (by omega), E3 F (by omega), zm_iald (k := 0) zM_A232 is, cs, c0]
  refine ⟨ν, ze_in [(0, .ref 232), (1, .int (nI s)), (2, .int (nI a))] zq_Mod_told (Nat.le_of_ble_eq_true rfl) rfl (S0.end ?_), f.fr⟩
  match a, ha with
  | 0, _ =>
    have t0 : (nI 0).toInt = 0 := by decide
    rw [e0 rfl, ← fc 232 s (by decide) (by decide)]
    refine ⟨0, 6, fun F n hF => ?_⟩
    simp [zg_0, zg_aload_n, zg_bipush, zg_getfield, zg_goto, zg_iadd, zg_iaload, zg_iconst, zg_ifCond, zg_if_icmp, zg_iinc, zg_iload, zg_iload_n, zg_invokestatic, zg_invokevirtual, zg_ireturn, zg_istore, zg_istore_n, zg_isub, zg_ldc, zg_tableswitch, zf_X6_told, zi_ld, zi_lda, zi_cmp, zi_retOk, zi_isI, zi_f3, zi_cr, zi_ci, zi_cn, zi_get, zi_set, t0, zM_g, zm_iald (k := 0) zM_A232 is, cs]
  | 1, _ =>
    have t0 : (nI 1).toInt = 1 := by decide
    rw [e1 rfl, ← fc 233 s (by decide) (by decide)]
    refine ⟨0, 6, fun F n hF => ?_⟩
    simp [zg_0, zg_aload_n, zg_bipush, zg_getfield, zg_goto, zg_iadd, zg_iaload, zg_iconst, zg_ifCond, zg_if_icmp, zg_iinc, zg_iload, zg_iload_n, zg_invokestatic, zg_invokevirtual, zg_ireturn, zg_istore, zg_istore_n, zg_isub, zg_ldc, zg_tableswitch, zf_X6_told, zi_ld, zi_lda, zi_cmp, zi_retOk, zi_isI, zi_f3, zi_cr, zi_ci, zi_cn, zi_get, zi_set, t0, zM_g, zm_iald (k := 0) zM_A233 is, cs]
  | 2, _ =>
    have t0 : (nI 2).toInt = 2 := by decide
    rw [e2 rfl, ← hl.1]
    refine ⟨0, 4, fun F n hF => ?_⟩
    simp [zg_0, zg_aload_n, zg_bipush, zg_getfield, zg_goto, zg_iadd, zg_iaload, zg_iconst, zg_ifCond, zg_if_icmp, zg_iinc, zg_iload, zg_iload_n, zg_invokestatic, zg_invokevirtual, zg_ireturn, zg_istore, zg_istore_n, zg_isub, zg_ldc, zg_tableswitch, zf_X6_told, zi_ld, zi_lda, zi_cmp, zi_retOk, zi_isI, zi_f3, zi_cr, zi_ci, zi_cn, zi_get, zi_set, t0, zM_g]
  | 3, _ =>
    have t0 : (nI 3).toInt = 3 := by decide
    rw [e3 rfl]
    by_cases c : (zy_lvs (us s)).length = 0
    · have c' : ν 231 30 ≤ 0 := by rw [hl.1, c]; decide
      have z : nI ((zy_lvs (us s)).length - 1) = 0 := by rw [c]; decide
      rw [z]
      refine ⟨0, 6, fun F n hF => ?_⟩
      simp [zg_0, zg_aload_n, zg_bipush, zg_getfield, zg_goto, zg_iadd, zg_iaload, zg_iconst, zg_ifCond, zg_if_icmp, zg_iinc, zg_iload, zg_iload_n, zg_invokestatic, zg_invokevirtual, zg_ireturn, zg_istore, zg_istore_n, zg_isub, zg_ldc, zg_tableswitch, zf_X6_told, zi_ld, zi_lda, zi_cmp, zi_retOk, zi_isI, zi_f3, zi_cr, zi_ci, zi_cn, zi_get, zi_set, t0, zM_g, c']
    · have q : ∀ n, n < 25 → ¬ n = 0 → ¬ nI n ≤ 0 ∧ nI n - 1 = nI (n - 1) := by decide
      obtain ⟨q1, q2⟩ := q _ (by omega) c
      rw [← hl.1] at q1 q2
      refine ⟨0, 10, fun F n hF => ?_⟩
      simp [zg_0, zg_aload_n, zg_bipush, zg_getfield, zg_goto, zg_iadd, zg_iaload, zg_iconst, zg_ifCond, zg_if_icmp, zg_iinc, zg_iload, zg_iload_n, zg_invokestatic, zg_invokevirtual, zg_ireturn, zg_istore, zg_istore_n, zg_isub, zg_ldc, zg_tableswitch, zf_X6_told, zi_ld, zi_lda, zi_cmp, zi_retOk, zi_isI, zi_f3, zi_cr, zi_ci, zi_cn, zi_get, zi_set, t0, zM_g, q1, q2]
  | 4, _ =>
    have t0 : (nI 4).toInt = 4 := by decide
    rw [e4 rfl, ← elf 0 (by decide)]
    by_cases c : 0 ≤ ν 243 s
    · obtain ⟨N4, E4⟩ := zR_least_v (D + 2) hs hIν (a := 0) (by decide) (Int32.not_lt.mpr c)
      have q : nI (1 - 0) = 1 := by decide
      rw [q] at E4
      refine ⟨N4, 15, fun F n hF => ?_⟩
      simp [zg_0, zg_aload_n, zg_bipush, zg_getfield, zg_goto, zg_iadd, zg_iaload, zg_iconst, zg_ifCond, zg_if_icmp, zg_iinc, zg_iload, zg_iload_n, zg_invokestatic, zg_invokevirtual, zg_ireturn, zg_istore, zg_istore_n, zg_isub, zg_ldc, zg_tableswitch, zf_X6_told, zi_ld, zi_lda, zi_cmp, zi_retOk, zi_isI, zi_f3, zi_cr, zi_ci, zi_cn, zi_get, zi_set, t0, zM_g, cM2, zm_iald (k := 0) zM_A243 is7, cs, c, zq_Mod_least, E4 F (by omega)]
    · rw [zu_lsz_nil hIν (Int32.not_le.mp c)]
      refine ⟨0, 9, fun F n hF => ?_⟩
      simp [zg_0, zg_aload_n, zg_bipush, zg_getfield, zg_goto, zg_iadd, zg_iaload, zg_iconst, zg_ifCond, zg_if_icmp, zg_iinc, zg_iload, zg_iload_n, zg_invokestatic, zg_invokevirtual, zg_ireturn, zg_istore, zg_istore_n, zg_isub, zg_ldc, zg_tableswitch, zf_X6_told, zi_ld, zi_lda, zi_cmp, zi_retOk, zi_isI, zi_f3, zi_cr, zi_ci, zi_cn, zi_get, zi_set, t0, zM_g, zm_iald (k := 0) zM_A243 is7, cs, c]
  | 5, _ =>
    have t0 : (nI 5).toInt = 5 := by decide
    rw [e5 rfl, ← elf 1 (by decide)]
    by_cases c : 0 ≤ ν 243 s
    · obtain ⟨N4, E4⟩ := zR_least_v (D + 2) hs hIν (a := 1) (by decide) (Int32.not_lt.mpr c)
      have q : nI (1 - 1) = 0 := by decide
      rw [q] at E4
      refine ⟨N4, 15, fun F n hF => ?_⟩
      simp [zg_0, zg_aload_n, zg_bipush, zg_getfield, zg_goto, zg_iadd, zg_iaload, zg_iconst, zg_ifCond, zg_if_icmp, zg_iinc, zg_iload, zg_iload_n, zg_invokestatic, zg_invokevirtual, zg_ireturn, zg_istore, zg_istore_n, zg_isub, zg_ldc, zg_tableswitch, zf_X6_told, zi_ld, zi_lda, zi_cmp, zi_retOk, zi_isI, zi_f3, zi_cr, zi_ci, zi_cn, zi_get, zi_set, t0, zM_g, cM2, zm_iald (k := 0) zM_A243 is7, cs, c, zq_Mod_least, E4 F (by omega)]
    · rw [zu_lsz_nil hIν (Int32.not_le.mp c)]
      refine ⟨0, 9, fun F n hF => ?_⟩
      simp [zg_0, zg_aload_n, zg_bipush, zg_getfield, zg_goto, zg_iadd, zg_iaload, zg_iconst, zg_ifCond, zg_if_icmp, zg_iinc, zg_iload, zg_iload_n, zg_invokestatic, zg_invokevirtual, zg_ireturn, zg_istore, zg_istore_n, zg_isub, zg_ldc, zg_tableswitch, zf_X6_told, zi_ld, zi_lda, zi_cmp, zi_retOk, zi_isI, zi_f3, zi_cr, zi_ci, zi_cn, zi_get, zi_set, t0, zM_g, zm_iald (k := 0) zM_A243 is7, cs, c]
  | 6, _ =>
    have t0 : (nI 6).toInt = 6 := by decide
    have q : zl_ct (fun k => zv_on ν k (nI s)) 10 = zl_ct (fun k => zv_on μ k (nI s)) 10 := zl_ct_congr 10 (fun k hk => by unfold zv_on; rw [fc 234 k (by decide) (by decide), fc 238 k (by decide) (by decide)])
    rw [e6 rfl, ← q]
    obtain ⟨r, h', G, rfl, rfl⟩ := zv_tdS_v (μ := ν) (D + 27) hs [(4, .int (nI 0)), (3, .int (nI 0)), (0, .ref 232), (1, .int (nI s)), (2, .int (nI 6))] rfl rfl rfl rfl rfl
    refine ze_S.end ⟨0, 3, fun F n hF => ?_⟩ G
    simp [zg_0, zg_aload_n, zg_bipush, zg_getfield, zg_goto, zg_iadd, zg_iaload, zg_iconst, zg_ifCond, zg_if_icmp, zg_iinc, zg_iload, zg_iload_n, zg_invokestatic, zg_invokevirtual, zg_ireturn, zg_istore, zg_istore_n, zg_isub, zg_ldc, zg_tableswitch, zf_X6_told, zi_ld, zi_lda, zi_cmp, zi_retOk, zi_isI, zi_f3, zi_cr, zi_ci, zi_cn, zi_get, zi_set, t0, nI_0]
set_option maxRecDepth 100000 in
theorem ze_Mtold_no (D : Nat) {s a : Nat} (hs : s < 3) (ha : a < 7) (c0 : μ 232 s = 0) : ze_E (D + 29) A_Mod_told [.ref 232, .int (nI s), .int (nI a)] (zm_mk μ) (some (.int (-1000000002))) (zm_mk μ) := by
  have n2 : Int32.ofInt (-1000000002) = -1000000002 := by decide
  have h6 : (Int8.ofInt 6).toInt32 = (6 : Int32) := by decide
  have is : zi_in (nI s) 3 = true := zm_in hs (by decide)
  have cs : (nI s).toNatClampNeg = s := nI_clamp (by omega)
  rcases zM_isIn (hp := zm_mk μ) (D + 27) (nI s) (n := 2) (b := 2) (by decide) (by decide) with ⟨s', hs', es', N1, E1⟩ | ⟨-, hno⟩
  rotate_left
  · exact absurd rfl (hno s (by omega))
  rcases zM_isIn (hp := zm_mk μ) (D + 27) (nI a) (n := 6) (b := 6) (by decide) (by decide) with ⟨a', ha', ea', N2, E2⟩ | ⟨-, hno⟩
  rotate_left
  · exact absurd rfl (hno a (by omega))
  refine ze_in [(0, .ref 232), (1, .int (nI s)), (2, .int (nI a))] zq_Mod_told (Nat.le_of_ble_eq_true rfl) rfl ⟨N1 + N2, 17, fun F n hF => ?_⟩
  simp [zg_0, zg_aload_n, zg_bipush, zg_getfield, zg_goto, zg_iadd, zg_iaload, zg_iconst, zg_ifCond, zg_if_icmp, zg_iinc, zg_iload, zg_iload_n, zg_invokestatic, zg_invokevirtual, zg_ireturn, zg_istore, zg_istore_n, zg_isub, zg_ldc, zg_tableswitch, zf_X6_told, zi_ld, zi_lda, zi_cmp, zi_retOk, zi_isI, zi_f3, zi_cr, zi_ci, zi_cn, zi_get, zi_set, zM_g, h6, zq_Mod_isIn, E1 F (by omega), E2 F (by omega), zm_iald (k := 0) zM_A232 is, cs, c0, n2]
set_option maxRecDepth 100000 in
theorem ze_Mtold_bad (D : Nat) {w x : Int32} (hb : (w < 0 ∨ nI 3 ≤ w) ∨ (x < 0 ∨ nI 7 ≤ x)) : ze_E (D + 29) A_Mod_told [.ref 232, .int w, .int x] (zm_mk μ) (some (.int (-1000000001))) (zm_mk μ) := by
  have n1 : Int32.ofInt (-1000000001) = -1000000001 := by decide
  have h6 : (Int8.ofInt 6).toInt32 = (6 : Int32) := by decide
  rcases zM_isIn (hp := zm_mk μ) (D + 27) w (n := 2) (b := 2) (by decide) (by decide) with ⟨s, hs, rfl, N1, E1⟩ | ⟨⟨N1, E1⟩, hno⟩
  · rcases zM_isIn (hp := zm_mk μ) (D + 27) x (n := 6) (b := 6) (by decide) (by decide) with ⟨a, ha, rfl, N2, E2⟩ | ⟨⟨N2, E2⟩, -⟩
    · exfalso
      rcases hb with (hb | hb) | hb | hb
      · exact nI_pos (by omega) hb
      · exact nI_ge (b := 3) hs (by decide) hb
      · exact nI_pos (by omega) hb
      · exact nI_ge (b := 7) ha (by decide) hb
    · refine ze_in [(0, .ref 232), (1, .int (nI s)), (2, .int x)] zq_Mod_told (Nat.le_of_ble_eq_true rfl) rfl ⟨N1 + N2, 12, fun F n hF => ?_⟩
      simp [zg_0, zg_aload_n, zg_bipush, zg_getfield, zg_goto, zg_iadd, zg_iaload, zg_iconst, zg_ifCond, zg_if_icmp, zg_iinc, zg_iload, zg_iload_n, zg_invokestatic, zg_invokevirtual, zg_ireturn, zg_istore, zg_istore_n, zg_isub, zg_ldc, zg_tableswitch, zf_X6_told, zi_ld, zi_lda, zi_cmp, zi_retOk, zi_isI, zi_f3, zi_cr, zi_ci, zi_cn, zi_get, zi_set, h6, zq_Mod_isIn, E1 F (by omega), E2 F (by omega), n1]
  · refine ze_in [(0, .ref 232), (1, .int w), (2, .int x)] zq_Mod_told (Nat.le_of_ble_eq_true rfl) rfl ⟨N1, 7, fun F n hF => ?_⟩
    simp [zg_0, zg_aload_n, zg_bipush, zg_getfield, zg_goto, zg_iadd, zg_iaload, zg_iconst, zg_ifCond, zg_if_icmp, zg_iinc, zg_iload, zg_iload_n, zg_invokestatic, zg_invokevirtual, zg_ireturn, zg_istore, zg_istore_n, zg_isub, zg_ldc, zg_tableswitch, zf_X6_told, zi_ld, zi_lda, zi_cmp, zi_retOk, zi_isI, zi_f3, zi_cr, zi_ci, zi_cn, zi_get, zi_set, zq_Mod_isIn, E1 F (by omega), n1]
end ZXT
section ZXT2
variable {M ξ μ : zm_M} {row stkC stk ord : List Nat} {Rs : Nat → List Nat} {ts us : Nat → zy_F}
theorem zK_size (h : zK ξ μ row stkC stk ord Rs ts us) {s : Nat} (hs : s < 3) : (ξ (zdS s) 3 = 0 ↔ μ 232 s = 0) ∧ (¬ ξ (zdS s) 3 = 0 → μ 232 s = ξ (zdZ s) 0 ∧ μ 233 s = ξ (zdZ s) 1) := by
  have h2 := h.2.2.1.2 s hs
  refine ⟨⟨fun c => (h2.1 c).1, fun c => ?_⟩, h2.2⟩
  by_cases e : ξ (zdS s) 3 = 0
  · exact e
  · have := (h.1.2.2.2.2.2 s hs e).1.1
    rw [← (h2.2 e).1, c] at this
    exact absurd this (by decide)
theorem zK_loose (h : zK ξ μ row stkC stk ord Rs ts us) {k : Nat} (hk : k < 10) (x : Int32) : zd_loose ξ x k = zv_on μ k x := by
  unfold zd_loose zv_on
  refine decide_eq_decide.mpr ?_
  have h2 := h.2.2.1.1 k hk
  cases e : zd_th ξ k with
  | false =>
    rw [h2.1 e]
    exact ⟨fun z => absurd (of_decide_eq_false e z.1) id, fun z => absurd z.1 (by decide)⟩
  | true =>
    have e' := of_decide_eq_true e
    rw [(h2.2 e).1]
    have kd := (h.1.2.2.1 k hk e).1
    constructor
    · rintro ⟨a, b, c, d⟩
      refine ⟨?_, b, ?_⟩
      · rcases kd with q | q | q | q
        · exact absurd q d
        all_goals rw [q]; decide
      · rw [(h2.2 e).2.2.2 b]; exact c
    · rintro ⟨a, b, c⟩
      exact ⟨e', b, by rw [← (h2.2 e).2.2.2 b]; exact c, fun q => by rw [q] at a; exact absurd a (by decide)⟩
theorem zW_told_e (h : zW M) (w x : Int32) : zW_e M A_Desk_told A_Mod_told [.int w, .int x] := by
  obtain ⟨row, stkC, stk, ord, Rs, ts, us, h⟩ := h
  have hW : zW M := ⟨row, stkC, stk, ord, Rs, ts, us, h⟩
  rcases zd_rng w 3 (by decide) with ⟨s, hs, rfl⟩ | ho
  · rcases zd_rng x 7 (by decide) with ⟨j, hj, rfl⟩ | ho
    · obtain ⟨q1, q2⟩ := zK_size h hs
      by_cases c : M (zdS s) 3 = 0
      · exact ⟨M, M, _, ze_told_no 60 hs hj c, ze_Mtold_no 35 hs hj (q1.mp c), hW⟩
      · obtain ⟨z0, z1⟩ := q2 c
        have hI := (h.1.2.2.2.1 s hs).1.1
        have hz := h.2.2.2.2.2.1 s hs
        have hl : (zy_lvs (us s)).length = (zy_lvs (ts s)).length := (zs_len hI hz).2
        have z4 : zt_lsz M (zdT s) 0 (Rs s) (ts s) = zu_lsz M s 0 (us s) := zs_lsz hI hz (zK_sz h hs) (by decide)
        have z5 : zt_lsz M (zdT s) 1 (Rs s) (ts s) = zu_lsz M s 1 (us s) := zs_lsz hI hz (zK_sz h hs) (by decide)
        have z6 : zl_ct (zd_loose M (nI s)) 10 = zl_ct (fun k => zv_on M k (nI s)) 10 := zl_ct_congr 10 (fun k hk => zK_loose h hk _)
        obtain ⟨v, f0, f1, f2, f3, f4, f5, f6⟩ : ∃ v : Int32, (j = 0 → v = M (zdZ s) 0) ∧ (j = 1 → v = M (zdZ s) 1) ∧ (j = 2 → v = nI (zy_lvs (ts s)).length) ∧ (j = 3 → v = nI ((zy_lvs (ts s)).length - 1)) ∧ (j = 4 → v = zt_lsz M (zdT s) 0 (Rs s) (ts s)) ∧ (j = 5 → v = zt_lsz M (zdT s) 1 (Rs s) (ts s)) ∧ (j = 6 → v = nI (zl_ct (zd_loose M (nI s)) 10)) := by
          have ne : ∀ {a b : Nat} {P : Prop}, a ≠ b → a = b → P := fun n e => absurd e n
          match j, hj with
          | 0, _ => exact ⟨_, fun _ => rfl, ne (by decide), ne (by decide), ne (by decide), ne (by decide), ne (by decide), ne (by decide)⟩
          | 1, _ => exact ⟨_, ne (by decide), fun _ => rfl, ne (by decide), ne (by decide), ne (by decide), ne (by decide), ne (by decide)⟩
          | 2, _ => exact ⟨_, ne (by decide), ne (by decide), fun _ => rfl, ne (by decide), ne (by decide), ne (by decide), ne (by decide)⟩
          | 3, _ => exact ⟨_, ne (by decide), ne (by decide), ne (by decide), fun _ => rfl, ne (by decide), ne (by decide), ne (by decide)⟩
          | 4, _ => exact ⟨_, ne (by decide), ne (by decide), ne (by decide), ne (by decide), fun _ => rfl, ne (by decide), ne (by decide)⟩
          | 5, _ => exact ⟨_, ne (by decide), ne (by decide), ne (by decide), ne (by decide), ne (by decide), fun _ => rfl, ne (by decide)⟩
          | 6, _ => exact ⟨_, ne (by decide), ne (by decide), ne (by decide), ne (by decide), ne (by decide), ne (by decide), fun _ => rfl⟩
        have E1 := ze_told_v 60 h.1 hs hj c f0 f1 f2 f3 f4 f5 f6
        rw [← z0] at f0
        rw [← z1] at f1
        rw [← hl] at f2 f3
        rw [z4] at f4
        rw [z5] at f5
        rw [z6] at f6
        obtain ⟨θ, E2, f⟩ := ze_Mtold_v 35 (zK_R h) hs hj (fun q => c (q1.mpr q)) f0 f1 f2 f3 f4 f5 f6
        exact ⟨M, θ, v, E1, E2, zW_ro h zJ_eqv.refl f⟩
    · exact ⟨M, M, _, ze_told_bad 60 (Or.inr ho), ze_Mtold_bad 35 (Or.inr ho), hW⟩
  · exact ⟨M, M, _, ze_told_bad 60 (Or.inl ho), ze_Mtold_bad 35 (Or.inl ho), hW⟩
end ZXT2
end
section
/-! tab: the same answer -/
noncomputable def zx_tab (l : List Nat) (sh y : Int32) : Int32 := if y = -2 then sh else if y = -1 then nI l.length else if y.toNatClampNeg < l.length then nI (l.getD y.toNatClampNeg 0) else -1000000005
section ZXB
variable {μ : zm_M} {row stk : List Nat} {Rs : Nat → List Nat} {ts : Nat → zy_F} {us : Nat → zy_F}
theorem zx_ge0 {y : Int32} (c2 : (-2 : Int32) ≤ y) (q1 : ¬ y = -2) (q2 : ¬ y = -1) : ¬ y < 0 := by
  intro q
  have a1 := Int32.le_iff_toInt_le.mp c2
  have a2 := Int32.lt_iff_toInt_lt.mp q
  have a3 : ¬ y.toInt = -2 := fun e => q1 (Int32.toInt_inj.mp (by rw [e]; decide))
  have a4 : ¬ y.toInt = -1 := fun e => q2 (Int32.toInt_inj.mp (by rw [e]; decide))
  rw [show (-2 : Int32).toInt = -2 by decide] at a1
  rw [show (0 : Int32).toInt = 0 by decide] at a2
  omega
theorem zx_nI2 {i : Nat} (hi : i < 2 ^ 31) : ¬ nI i = -2 ∧ ¬ nI i = -1 := by
  have t0 : (nI i).toInt = (i : Int) := nI_toInt hi
  constructor
  · intro e
    rw [e, show (-2 : Int32).toInt = -2 by decide] at t0
    omega
  · intro e
    rw [e, show (-1 : Int32).toInt = -1 by decide] at t0
    omega
set_option maxRecDepth 100000 in
theorem ze_tab_v (D : Nat) (h : zJ μ row stk Rs ts) {s j : Nat} (hs : s < 3) (hj : j < 2 ^ 31) {y : Int32} (c2 : (-2 : Int32) ≤ y) (c3 : ¬ μ (zdS s) 3 = 0) : ze_E (D + 3) A_Desk_tab [.ref 1, .int (nI s), .int (nI j), .int y] (zm_mk μ) (some (.int (if j < (zy_lvs (ts s)).length then zx_tab (zt_tb μ (zdT s) (Rs s) ((zy_lvs (ts s)).getD j 0)) (μ (zdT s + 12) ((zy_lvs (ts s)).getD j 0)) y else -1000000005))) (zm_mk μ) := by
  have n5 : Int32.ofInt (-1000000005) = -1000000005 := by decide
  have h2 : (Int8.ofInt (-2)).toInt32 = (-2 : Int32) := by decide
  have c1 : ¬ nI j < 0 := nI_pos hj
  obtain ⟨N1, E1⟩ := ze_isScreen_in (h := zm_mk μ) (D + 1) hs
  have hC := (h.2.2.2.1 s hs).1
  obtain ⟨N2, E2⟩ := ze_Tree_leafNumber (μ := μ) (D + 1) (zdT_at hs) hC hj
  obtain ⟨lt, ct⟩ := zt_c (μ := μ) (zdT_at hs)
  by_cases c4 : j < (zy_lvs (ts s)).length
  · rw [if_pos c4] at E2
    rw [if_pos c4]
    have hm := zl_mem c4
    have hn19 := hC.1.2.1.2.2.1 _ (zt_I_lv hC.1 hm).2
    generalize (zy_lvs (ts s)).getD j 0 = n at E2 hm hn19
    have c5 : (0 : Int32) ≤ nI n := nI_pos' (by omega)
    have S0 : ze_S (D + 2) 6 (some .int) zc_X5_tab 0 [(0, .ref 1), (1, .int (nI s)), (2, .int (nI j)), (3, .int y)] [] (zm_mk μ) 63 [(5, .int (nI n)), (4, .ref (zdT s + 1)), (0, .ref 1), (1, .int (nI s)), (2, .int (nI j)), (3, .int y)] [.int y] (zm_mk μ) := by
      refine ⟨N1 + N2, 27, fun F n hF => ?_⟩
      simp [zi_go, zf_X5_tab, zi_ask, zi_new, zi_step, zi_ld, zi_lda, zi_cmp, zi_retOk, zi_isI, zi_f3, zi_cr, zi_ci, zi_cn, zi_get, zi_set, zq_Desk_isScreen, E1 F (by omega), c1, c2, h2, zd_g, zd_s hs, zdS_g hs, c3, zq_Tree_leafNumber, ct, E2 F (by omega), c5]
    refine ze_in [(0, .ref 1), (1, .int (nI s)), (2, .int (nI j)), (3, .int y)] zq_Desk_tab (Nat.le_of_ble_eq_true rfl) rfl (S0.end ?_)
    by_cases q1 : y = -2
    · subst q1
      have t0 : (-2 : Int32).toInt = -2 := by decide
      obtain ⟨N3, E3⟩ := ze_Tree_shownIn (μ := μ) (D + 1) (zdT_at hs) (x := nI n) (zm_in hn19 (by decide))
      rw [nI_clamp (by omega)] at E3
      have ev : zx_tab (zt_tb μ (zdT s) (Rs s) n) (μ (zdT s + 12) n) (-2) = μ (zdT s + 12) n := if_pos rfl
      rw [ev]
      generalize μ (zdT s + 12) n = v at E3
      refine ⟨N3, 5, fun F m hF => ?_⟩
      simp [zi_go, zf_X5_tab, zi_ask, zi_new, zi_step, zi_ld, zi_lda, zi_cmp, zi_retOk, zi_isI, zi_f3, zi_cr, zi_ci, zi_cn, zi_get, zi_set, t0, Op.lookupswitch.offset, zq_Tree_shownIn, ct, E3 F (by omega)]
    · by_cases q2 : y = -1
      · subst q2
        have t0 : (-1 : Int32).toInt = -1 := by decide
        obtain ⟨N3, E3⟩ := ze_Tree_tabsIn (μ := μ) D (zdT_at hs) hC.1 (nI n)
        have ev : zx_tab (zt_tb μ (zdT s) (Rs s) n) (μ (zdT s + 12) n) (-1) = nI ((Rs s).filter (fun v => decide (μ (zdT s + 3) v = nI n))).length := (if_neg q1).trans (if_pos rfl)
        rw [ev]
        generalize ((Rs s).filter (fun v => decide (μ (zdT s + 3) v = nI n))).length = v at E3
        refine ⟨N3, 5, fun F m hF => ?_⟩
        simp [zi_go, zf_X5_tab, zi_ask, zi_new, zi_step, zi_ld, zi_lda, zi_cmp, zi_retOk, zi_isI, zi_f3, zi_cr, zi_ci, zi_cn, zi_get, zi_set, t0, Op.lookupswitch.offset, zq_Tree_tabsIn, ct, E3 F (by omega)]
      · have q3 : ¬ y < 0 := zx_ge0 c2 q1 q2
        obtain ⟨i, hi, rfl⟩ := nI_of q3
        have t0 : (nI i).toInt = (i : Int) := nI_toInt hi
        have b1 : ¬ (-2 : Int) = (i : Int) := by omega
        have b2 : ¬ (-1 : Int) = (i : Int) := by omega
        have b3 : ¬ (i : Int) = -2 := by omega
        have b4 : ¬ (i : Int) = -1 := by omega
        obtain ⟨N3, E3⟩ := ze_Tree_tabIn (μ := μ) D (zdT_at hs) hC.1 (nI n) hi
        have ev : zx_tab (zt_tb μ (zdT s) (Rs s) n) (μ (zdT s + 12) n) (nI i) = (if i < ((Rs s).filter (fun v => decide (μ (zdT s + 3) v = nI n))).length then nI (((Rs s).filter (fun v => decide (μ (zdT s + 3) v = nI n))).getD i 0) else -1000000005) := by
          unfold zx_tab
          rw [if_neg q1, if_neg q2, nI_clamp hi]
          rfl
        rw [ev]
        generalize (if i < ((Rs s).filter (fun v => decide (μ (zdT s + 3) v = nI n))).length then nI (((Rs s).filter (fun v => decide (μ (zdT s + 3) v = nI n))).getD i 0) else -1000000005) = v at E3
        refine ⟨N3, 6, fun F m hF => ?_⟩
        simp [zi_go, zf_X5_tab, zi_ask, zi_new, zi_step, zi_ld, zi_lda, zi_cmp, zi_retOk, zi_isI, zi_f3, zi_cr, zi_ci, zi_cn, zi_get, zi_set, t0, Op.lookupswitch.offset, b1, b2, b3, b4, zq_Tree_tabIn, ct, E3 F (by omega)]
  · rw [if_neg c4] at E2
    rw [if_neg c4]
    have c5 : ¬ (0 : Int32) ≤ -1 := by decide
    refine ze_in [(0, .ref 1), (1, .int (nI s)), (2, .int (nI j)), (3, .int y)] zq_Desk_tab (Nat.le_of_ble_eq_true rfl) rfl ⟨N1 + N2, 28, fun F n hF => ?_⟩
    simp [zi_go, zf_X5_tab, zi_ask, zi_new, zi_step, zi_ld, zi_lda, zi_cmp, zi_retOk, zi_isI, zi_f3, zi_cr, zi_ci, zi_cn, zi_get, zi_set, zq_Desk_isScreen, E1 F (by omega), c1, c2, h2, zd_g, zd_s hs, zdS_g hs, c3, zq_Tree_leafNumber, ct, E2 F (by omega), c5, n5]
set_option maxRecDepth 100000 in
theorem ze_tab_no (D : Nat) {s : Nat} (hs : s < 3) {x y : Int32} (c1 : ¬ x < 0) (c2 : (-2 : Int32) ≤ y) (c3 : μ (zdS s) 3 = 0) : ze_E (D + 3) A_Desk_tab [.ref 1, .int (nI s), .int x, .int y] (zm_mk μ) (some (.int (-1000000002))) (zm_mk μ) := by
  have n2 : Int32.ofInt (-1000000002) = -1000000002 := by decide
  have h2 : (Int8.ofInt (-2)).toInt32 = (-2 : Int32) := by decide
  obtain ⟨N1, E1⟩ := ze_isScreen_in (h := zm_mk μ) (D + 1) hs
  refine ze_in [(0, .ref 1), (1, .int (nI s)), (2, .int x), (3, .int y)] zq_Desk_tab (Nat.le_of_ble_eq_true rfl) rfl ⟨N1, 16, fun F n hF => ?_⟩
  simp [zi_go, zf_X5_tab, zi_ask, zi_new, zi_step, zi_ld, zi_lda, zi_cmp, zi_retOk, zi_isI, zi_f3, zi_cr, zi_ci, zi_cn, zi_get, zi_set, zq_Desk_isScreen, E1 F (by omega), c1, c2, h2, zd_g, zd_s hs, zdS_g hs, c3, n2]
set_option maxRecDepth 100000 in
theorem ze_tab_bad (D : Nat) {w x y : Int32} (hb : (w < 0 ∨ nI 3 ≤ w) ∨ x < 0 ∨ ¬ (-2 : Int32) ≤ y) : ze_E (D + 3) A_Desk_tab [.ref 1, .int w, .int x, .int y] (zm_mk μ) (some (.int (-1000000001))) (zm_mk μ) := by
  have n4 : Int32.ofInt (-1000000001) = -1000000001 := by decide
  have h2 : (Int8.ofInt (-2)).toInt32 = (-2 : Int32) := by decide
  rcases zd_rng w 3 (by decide) with ⟨s, hs, rfl⟩ | hout
  · obtain ⟨N1, E1⟩ := ze_isScreen_in (h := zm_mk μ) (D + 1) hs
    by_cases c1 : x < 0
    · refine ze_in [(0, .ref 1), (1, .int (nI s)), (2, .int x), (3, .int y)] zq_Desk_tab (Nat.le_of_ble_eq_true rfl) rfl ⟨N1, 7, fun F n hF => ?_⟩
      simp [zi_go, zf_X5_tab, zi_ask, zi_new, zi_step, zi_ld, zi_lda, zi_cmp, zi_retOk, zi_isI, zi_f3, zi_cr, zi_ci, zi_cn, zi_get, zi_set, zq_Desk_isScreen, E1 F (by omega), c1, n4]
    · have c2 : ¬ (-2 : Int32) ≤ y := by
        rcases hb with (hb | hb) | hb | hb
        · exact absurd hb (nI_pos (by omega))
        · exact absurd hb (nI_ge (b := 3) hs (by decide))
        · exact absurd hb c1
        · exact hb
      refine ze_in [(0, .ref 1), (1, .int (nI s)), (2, .int x), (3, .int y)] zq_Desk_tab (Nat.le_of_ble_eq_true rfl) rfl ⟨N1, 10, fun F n hF => ?_⟩
      simp [zi_go, zf_X5_tab, zi_ask, zi_new, zi_step, zi_ld, zi_lda, zi_cmp, zi_retOk, zi_isI, zi_f3, zi_cr, zi_ci, zi_cn, zi_get, zi_set, zq_Desk_isScreen, E1 F (by omega), c1, c2, h2, n4]
  · obtain ⟨N1, E1⟩ := ze_isScreen_out (h := zm_mk μ) (D + 1) hout
    refine ze_in [(0, .ref 1), (1, .int w), (2, .int x), (3, .int y)] zq_Desk_tab (Nat.le_of_ble_eq_true rfl) rfl ⟨N1, 5, fun F n hF => ?_⟩
    simp [zi_go, zf_X5_tab, zi_ask, zi_new, zi_step, zi_ld, zi_lda, zi_cmp, zi_retOk, zi_isI, zi_f3, zi_cr, zi_ci, zi_cn, zi_get, zi_set, zq_Desk_isScreen, E1 F (by omega), n4]
set_option maxRecDepth 100000 in
theorem ze_Mtab_v (D : Nat) (h : zR μ row stk us) {s i : Nat} (hs : s < 3) (hi2 : i < 2 ^ 31) {y : Int32} (q2 : (-2 : Int32) ≤ y) (c0 : ¬ μ 232 s = 0) : ∃ ν, ze_E (D + 29) A_Mod_tab [.ref 232, .int (nI s), .int (nI i), .int y] (zm_mk μ) (some (.int (if i < (zy_lvs (us s)).length then zx_tab (zu_tb μ s ((zy_lvs (us s)).getD i 0)) (μ 250 (24 * s + (zy_lvs (us s)).getD i 0)) y else -1000000005))) (zm_mk ν) ∧ zM_fr μ ν := by
  have n5 : Int32.ofInt (-1000000005) = -1000000005 := by decide
  have m2 : (Int8.ofInt (-2)).toInt32 = (-2 : Int32) := by decide
  have h10 : (Int8.ofInt 10).toInt32 = (10 : Int32) := by decide
  have q1 : ¬ nI i < 0 := nI_pos hi2
  obtain ⟨lc, cM⟩ := zM_c (μ := μ)
  rcases zM_isIn (hp := zm_mk μ) (D + 27) (nI s) (n := 2) (b := 2) (by decide) (by decide) with ⟨s', hs', es', N1, E1⟩ | ⟨-, hno⟩
  rotate_left
  · exact absurd rfl (hno s (by omega))
  have is : zi_in (nI s) 3 = true := zm_in hs (by decide)
  have cs : (nI s).toNatClampNeg = s := nI_clamp (by omega)
  obtain ⟨ab, hI⟩ := (h.2.2.2.2.1 s hs).1
  obtain ⟨hndl, h24, hlen⟩ := zu_lvs_nodup hI
  obtain ⟨ν, ⟨N3, E3⟩, hl, f⟩ := ze_MclearLeaves (μ := μ) (D + 2) (τ := s) (by omega) hI
  have hIν : zu_I ν s (us s) ab := f.eqT.I hI
  obtain ⟨lc2, cM2⟩ := zM_c (μ := ν)
  have fc : ∀ c d, 232 ≤ c → c ≤ 258 → ν c d = μ c d := fun c d q1 q2 => f c d (by omega) (by omega)
  have S0 : ze_S (D + 28) 5 (some .int) zc_X6_tab 0 [(0, .ref 232), (1, .int (nI s)), (2, .int (nI i)), (3, .int y)] [] (zm_mk μ) 39 [(0, .ref 232), (1, .int (nI s)), (2, .int (nI i)), (3, .int y)] [] (zm_mk ν) := by
    refine ⟨N1 + N3, 18, fun F n hF => ?_⟩
    simp [zg_0, zg_aload_n, zg_bipush, zg_getfield, zg_goto, zg_iadd, zg_iaload, zg_iconst, zg_ifCond, zg_if_icmp, zg_iload, zg_iload_n, zg_imul, zg_invokestatic, zg_invokevirtual, zg_ireturn, zg_istore, zg_ldc, zg_ldc_w, zf_X6_tab, zi_ld, zi_lda, zi_cmp, zi_retOk, zi_isI, zi_f3, zi_cr, zi_ci, zi_cn, zi_get, zi_set, zM_g, m2, cM, zq_Mod_isIn, zq_Mod_clearLeaves, E1 F (by omega), E3 F (by omega), q1, q2, zm_iald (k := 0) zM_A232 is, cs, c0]
  refine ⟨ν, ze_in [(0, .ref 232), (1, .int (nI s)), (2, .int (nI i)), (3, .int y)] zq_Mod_tab (Nat.le_of_ble_eq_true rfl) rfl (S0.end ?_), f.fr⟩
  by_cases hi : i < (zy_lvs (us s)).length
  · rw [if_pos hi]
    have q3 : nI i < nI (zy_lvs (us s)).length := Int32.not_le.mp (nI_ge hi (by omega))
    have ii : zi_in (nI i) 24 = true := zm_in (by omega) (by decide)
    have ci : (nI i).toNatClampNeg = i := nI_clamp (by omega)
    have e2 := hl.2 i hi
    have hm := zl_mem hi
    have hm24 := h24 _ hm
    obtain ⟨t1, t2, t3⟩ := zu_I_tb hIν hm
    have etb : zu_tb ν s ((zy_lvs (us s)).getD i 0) = zu_tb μ s ((zy_lvs (us s)).getD i 0) := zu_tb_cells (fun d => ⟨fc _ _ (by decide) (by decide), fc _ _ (by decide) (by decide)⟩)
    rw [← fc 250 _ (by decide) (by decide), ← etb]
    generalize (zy_lvs (us s)).getD i 0 = m at e2 hm hm24 t1 t2 t3
    obtain ⟨N4, E4⟩ := ze_spot (h := zm_mk ν) (D + 27) (t := s) (n := m) (by omega)
    have iy : zi_in (nI (24 * s + m)) 168 = true := zm_in (by omega) (by decide)
    have cy : (nI (24 * s + m)).toNatClampNeg = 24 * s + m := nI_clamp (by omega)
    have S1 : ze_S (D + 28) 5 (some .int) zc_X6_tab 39 [(0, .ref 232), (1, .int (nI s)), (2, .int (nI i)), (3, .int y)] [] (zm_mk ν) 63 [(4, .int (nI (24 * s + m))), (0, .ref 232), (1, .int (nI s)), (2, .int (nI i)), (3, .int y)] [] (zm_mk ν) := by
      refine ⟨N4, 11, fun F n hF => ?_⟩
      simp [zg_0, zg_aload_n, zg_bipush, zg_getfield, zg_goto, zg_iadd, zg_iaload, zg_iconst, zg_ifCond, zg_if_icmp, zg_iload, zg_iload_n, zg_imul, zg_invokestatic, zg_invokevirtual, zg_ireturn, zg_istore, zg_ldc, zg_ldc_w, zf_X6_tab, zi_ld, zi_lda, zi_cmp, zi_retOk, zi_isI, zi_f3, zi_cr, zi_ci, zi_cn, zi_get, zi_set, zM_g, hl.1, q3, zm_iald (k := 0) zM_A259 ii, ci, e2, zq_Mod_spot, E4 F (by omega)]
    refine S1.end ?_
    by_cases q6 : y = -2
    · subst q6
      have q4 : ¬ (0 : Int32) ≤ -2 := by decide
      have q7 : ¬ (-2 : Int32) = -1 := by decide
      have ev : zx_tab (zu_tb ν s m) (ν 250 (24 * s + m)) (-2) = ν 250 (24 * s + m) := if_pos rfl
      rw [ev]
      refine ⟨0, 10, fun F n hF => ?_⟩
      simp [zg_0, zg_aload_n, zg_bipush, zg_getfield, zg_goto, zg_iadd, zg_iaload, zg_iconst, zg_ifCond, zg_if_icmp, zg_iload, zg_iload_n, zg_imul, zg_invokestatic, zg_invokevirtual, zg_ireturn, zg_istore, zg_ldc, zg_ldc_w, zf_X6_tab, zi_ld, zi_lda, zi_cmp, zi_retOk, zi_isI, zi_f3, zi_cr, zi_ci, zi_cn, zi_get, zi_set, zM_g, q4, q7, zm_iald (k := 0) zM_A250 iy, cy]
    · by_cases q7 : y = -1
      · subst q7
        have q4 : ¬ (0 : Int32) ≤ -1 := by decide
        have ev : zx_tab (zu_tb ν s m) (ν 250 (24 * s + m)) (-1) = ν 249 (24 * s + m) := ((if_neg q6).trans (if_pos rfl)).trans t1.2.1.symm
        rw [ev]
        refine ⟨0, 11, fun F n hF => ?_⟩
        simp [zg_0, zg_aload_n, zg_bipush, zg_getfield, zg_goto, zg_iadd, zg_iaload, zg_iconst, zg_ifCond, zg_if_icmp, zg_iload, zg_iload_n, zg_imul, zg_invokestatic, zg_invokevirtual, zg_ireturn, zg_istore, zg_ldc, zg_ldc_w, zf_X6_tab, zi_ld, zi_lda, zi_cmp, zi_retOk, zi_isI, zi_f3, zi_cr, zi_ci, zi_cn, zi_get, zi_set, zM_g, q4, zm_iald (k := 0) zM_A249 iy, cy]
      · have q3 : ¬ y < 0 := zx_ge0 q2 q6 q7
        have q4 : 0 ≤ y := Int32.not_lt.mp q3
        obtain ⟨j, hj, rfl⟩ := nI_of q3
        have ev : zx_tab (zu_tb ν s m) (ν 250 (24 * s + m)) (nI j) = (if j < (zu_tb ν s m).length then nI ((zu_tb ν s m).getD j 0) else -1000000005) := by
          unfold zx_tab
          rw [if_neg q6, if_neg q7, nI_clamp hj]
        rw [ev]
        by_cases q5 : j < (zu_tb ν s m).length
        · have l10 := t1.1
          have mk : (10 : Int32) * nI (24 * s + m) = nI (10 * (24 * s + m)) := nI_mul10 (by omega)
          have ij : zi_in (nI (10 * (24 * s + m) + j)) 1680 = true := zm_in (by omega) (by decide)
          have cj : (nI (10 * (24 * s + m) + j)).toNatClampNeg = 10 * (24 * s + m) + j := nI_clamp (by omega)
          have q5' : ¬ nI (zu_tb ν s m).length ≤ nI j := nI_ge q5 (by omega)
          have e3 := t1.2.2 j q5
          rw [if_pos q5, ← e3]
          refine ⟨0, 18, fun F n hF => ?_⟩
          simp [zg_0, zg_aload_n, zg_bipush, zg_getfield, zg_goto, zg_iadd, zg_iaload, zg_iconst, zg_ifCond, zg_if_icmp, zg_iload, zg_iload_n, zg_imul, zg_invokestatic, zg_invokevirtual, zg_ireturn, zg_istore, zg_ldc, zg_ldc_w, zf_X6_tab, zi_ld, zi_lda, zi_cmp, zi_retOk, zi_isI, zi_f3, zi_cr, zi_ci, zi_cn, zi_get, zi_set, zM_g, h10, q4, q5', zm_iald (k := 0) zM_A249 iy, cy, t1.2.1, mk, nI_add, zm_iald (k := 0) zM_A248 ij, cj]
        · have q5' : nI (zu_tb ν s m).length ≤ nI j := nI_le (by omega) hj
          rw [if_neg q5]
          refine ⟨0, 10, fun F n hF => ?_⟩
          simp [zg_0, zg_aload_n, zg_bipush, zg_getfield, zg_goto, zg_iadd, zg_iaload, zg_iconst, zg_ifCond, zg_if_icmp, zg_iload, zg_iload_n, zg_imul, zg_invokestatic, zg_invokevirtual, zg_ireturn, zg_istore, zg_ldc, zg_ldc_w, zf_X6_tab, zi_ld, zi_lda, zi_cmp, zi_retOk, zi_isI, zi_f3, zi_cr, zi_ci, zi_cn, zi_get, zi_set, zM_g, q4, q5', zm_iald (k := 0) zM_A249 iy, cy, t1.2.1, n5]
  · rw [if_neg hi]
    have q3 : ¬ nI i < nI (zy_lvs (us s)).length := Int32.not_lt.mpr (nI_le (by omega) hi2)
    refine ⟨0, 6, fun F n hF => ?_⟩
    simp [zg_0, zg_aload_n, zg_bipush, zg_getfield, zg_goto, zg_iadd, zg_iaload, zg_iconst, zg_ifCond, zg_if_icmp, zg_iload, zg_iload_n, zg_imul, zg_invokestatic, zg_invokevirtual, zg_ireturn, zg_istore, zg_ldc, zg_ldc_w, zf_X6_tab, zi_ld, zi_lda, zi_cmp, zi_retOk, zi_isI, zi_f3, zi_cr, zi_ci, zi_cn, zi_get, zi_set, zM_g, hl.1, q3, n5]
set_option maxRecDepth 100000 in
theorem ze_Mtab_no (D : Nat) {s : Nat} (hs : s < 3) {x y : Int32} (q1 : ¬ x < 0) (q2 : (-2 : Int32) ≤ y) (c0 : μ 232 s = 0) : ze_E (D + 29) A_Mod_tab [.ref 232, .int (nI s), .int x, .int y] (zm_mk μ) (some (.int (-1000000002))) (zm_mk μ) := by
  have n2 : Int32.ofInt (-1000000002) = -1000000002 := by decide
  have m2 : (Int8.ofInt (-2)).toInt32 = (-2 : Int32) := by decide
  rcases zM_isIn (hp := zm_mk μ) (D + 27) (nI s) (n := 2) (b := 2) (by decide) (by decide) with ⟨s', hs', es', N1, E1⟩ | ⟨-, hno⟩
  rotate_left
  · exact absurd rfl (hno s (by omega))
  have is : zi_in (nI s) 3 = true := zm_in hs (by decide)
  have cs : (nI s).toNatClampNeg = s := nI_clamp (by omega)
  refine ze_in [(0, .ref 232), (1, .int (nI s)), (2, .int x), (3, .int y)] zq_Mod_tab (Nat.le_of_ble_eq_true rfl) rfl ⟨N1, 17, fun F n hF => ?_⟩
  simp [zg_0, zg_aload_n, zg_bipush, zg_getfield, zg_goto, zg_iadd, zg_iaload, zg_iconst, zg_ifCond, zg_if_icmp, zg_iload, zg_iload_n, zg_imul, zg_invokestatic, zg_invokevirtual, zg_ireturn, zg_istore, zg_ldc, zg_ldc_w, zf_X6_tab, zi_ld, zi_lda, zi_cmp, zi_retOk, zi_isI, zi_f3, zi_cr, zi_ci, zi_cn, zi_get, zi_set, zM_g, m2, zq_Mod_isIn, E1 F (by omega), q1, q2, zm_iald (k := 0) zM_A232 is, cs, c0, n2]
set_option maxRecDepth 100000 in
theorem ze_Mtab_bad (D : Nat) {w x y : Int32} (hb : (w < 0 ∨ nI 3 ≤ w) ∨ x < 0 ∨ ¬ (-2 : Int32) ≤ y) : ze_E (D + 29) A_Mod_tab [.ref 232, .int w, .int x, .int y] (zm_mk μ) (some (.int (-1000000001))) (zm_mk μ) := by
  have n1 : Int32.ofInt (-1000000001) = -1000000001 := by decide
  have m2 : (Int8.ofInt (-2)).toInt32 = (-2 : Int32) := by decide
  rcases zM_isIn (hp := zm_mk μ) (D + 27) w (n := 2) (b := 2) (by decide) (by decide) with ⟨s, hs, rfl, N1, E1⟩ | ⟨⟨N1, E1⟩, hno⟩
  · by_cases q1 : x < 0
    · refine ze_in [(0, .ref 232), (1, .int (nI s)), (2, .int x), (3, .int y)] zq_Mod_tab (Nat.le_of_ble_eq_true rfl) rfl ⟨N1, 9, fun F n hF => ?_⟩
      simp [zg_0, zg_aload_n, zg_bipush, zg_getfield, zg_goto, zg_iadd, zg_iaload, zg_iconst, zg_ifCond, zg_if_icmp, zg_iload, zg_iload_n, zg_imul, zg_invokestatic, zg_invokevirtual, zg_ireturn, zg_istore, zg_ldc, zg_ldc_w, zf_X6_tab, zi_ld, zi_lda, zi_cmp, zi_retOk, zi_isI, zi_f3, zi_cr, zi_ci, zi_cn, zi_get, zi_set, zq_Mod_isIn, E1 F (by omega), q1, n1]
    · have q2 : ¬ (-2 : Int32) ≤ y := by
        rcases hb with (hb | hb) | hb | hb
        · exact absurd hb (nI_pos (by omega))
        · exact absurd hb (nI_ge (b := 3) hs (by decide))
        · exact absurd hb q1
        · exact hb
      refine ze_in [(0, .ref 232), (1, .int (nI s)), (2, .int x), (3, .int y)] zq_Mod_tab (Nat.le_of_ble_eq_true rfl) rfl ⟨N1, 12, fun F n hF => ?_⟩
      simp [zg_0, zg_aload_n, zg_bipush, zg_getfield, zg_goto, zg_iadd, zg_iaload, zg_iconst, zg_ifCond, zg_if_icmp, zg_iload, zg_iload_n, zg_imul, zg_invokestatic, zg_invokevirtual, zg_ireturn, zg_istore, zg_ldc, zg_ldc_w, zf_X6_tab, zi_ld, zi_lda, zi_cmp, zi_retOk, zi_isI, zi_f3, zi_cr, zi_ci, zi_cn, zi_get, zi_set, m2, zq_Mod_isIn, E1 F (by omega), q1, q2, n1]
  · refine ze_in [(0, .ref 232), (1, .int w), (2, .int x), (3, .int y)] zq_Mod_tab (Nat.le_of_ble_eq_true rfl) rfl ⟨N1, 7, fun F n hF => ?_⟩
    simp [zg_0, zg_aload_n, zg_bipush, zg_getfield, zg_goto, zg_iadd, zg_iaload, zg_iconst, zg_ifCond, zg_if_icmp, zg_iload, zg_iload_n, zg_imul, zg_invokestatic, zg_invokevirtual, zg_ireturn, zg_istore, zg_ldc, zg_ldc_w, zf_X6_tab, zi_ld, zi_lda, zi_cmp, zi_retOk, zi_isI, zi_f3, zi_cr, zi_ci, zi_cn, zi_get, zi_set, zq_Mod_isIn, E1 F (by omega), n1]
end ZXB
section ZXB2
variable {M ξ μ : zm_M} {row stkC stk ord R : List Nat} {Rs : Nat → List Nat} {ts us : Nat → zy_F} {T τ : Nat} {t u : zy_F}
/-- leaf by leaf, in order -/
theorem zs_leaf (hI : zt_I ξ T R t) (h : zs ξ T R t μ τ u) {i : Nat} (hi : i < (zy_lvs t).length) : zs_pl ξ T R μ τ ((zy_lvs t).getD i 0) ((zy_lvs u).getD i 0) := by
  rcases zs_wf hI h with ⟨rfl, rfl⟩ | ⟨wt, wu⟩
  · exact absurd hi (by simp [zy_lvs])
  · have g : zy_sim (fun n m => (zt_tb ξ T R n, ξ (T + 12) n) = (zu_tb μ τ m, μ 250 (24 * τ + m))) (zs_pc ξ T μ τ) t u := zy_sim_mono t wt u wu h.1 (fun n _ m _ p => by rw [p.1, p.2]) (fun _ _ _ _ p => p)
    have e := zy_sim_map (f := fun n => (zt_tb ξ T R n, ξ (T + 12) n)) (g := fun m => (zu_tb μ τ m, μ 250 (24 * τ + m))) t wt u wu g
    have hl : (zy_lvs u).length = (zy_lvs t).length := (zs_len hI h).2
    have e2 := congrArg (fun l => l[i]?) e
    have z1 : (zy_lvs t).getD i 0 = (zy_lvs t)[i] := by rw [List.getD_eq_getElem?_getD, List.getElem?_eq_getElem hi]; rfl
    have z2 : (zy_lvs u).getD i 0 = (zy_lvs u)[i]'(by omega) := by rw [List.getD_eq_getElem?_getD, List.getElem?_eq_getElem (by omega)]; rfl
    simp only [List.getElem?_map, List.getElem?_eq_getElem hi, List.getElem?_eq_getElem (show i < (zy_lvs u).length by omega), Option.map_some, Option.some.injEq, Prod.mk.injEq] at e2
    rw [z1, z2]
    exact ⟨e2.1.symm, e2.2.symm⟩
theorem zW_tab_e (h : zW M) (w x y : Int32) : zW_e M A_Desk_tab A_Mod_tab [.int w, .int x, .int y] := by
  obtain ⟨row, stkC, stk, ord, Rs, ts, us, h⟩ := h
  have hW : zW M := ⟨row, stkC, stk, ord, Rs, ts, us, h⟩
  by_cases hb : (w < 0 ∨ nI 3 ≤ w) ∨ x < 0 ∨ ¬ (-2 : Int32) ≤ y
  · exact ⟨M, M, _, ze_tab_bad 61 hb, ze_Mtab_bad 35 hb, hW⟩
  · have hx : ¬ x < 0 := fun z => hb (Or.inr (Or.inl z))
    have hy : (-2 : Int32) ≤ y := Decidable.not_not.mp (fun z => hb (Or.inr (Or.inr z)))
    rcases zd_rng w 3 (by decide) with ⟨s, hs, rfl⟩ | ho
    · obtain ⟨q1, q2⟩ := zK_size h hs
      by_cases c : M (zdS s) 3 = 0
      · exact ⟨M, M, _, ze_tab_no 61 hs hx hy c, ze_Mtab_no 35 hs hx hy (q1.mp c), hW⟩
      · obtain ⟨i, hi, rfl⟩ := nI_of hx
        have hI := (h.1.2.2.2.1 s hs).1.1
        have hz := h.2.2.2.2.2.1 s hs
        have hl : (zy_lvs (us s)).length = (zy_lvs (ts s)).length := (zs_len hI hz).2
        have E1 := ze_tab_v 61 h.1 hs hi hy c
        obtain ⟨θ, E2, f⟩ := ze_Mtab_v 35 (zK_R h) hs hi hy (fun q => c (q1.mpr q))
        have ev : (if i < (zy_lvs (us s)).length then zx_tab (zu_tb M s ((zy_lvs (us s)).getD i 0)) (M 250 (24 * s + (zy_lvs (us s)).getD i 0)) y else -1000000005) = (if i < (zy_lvs (ts s)).length then zx_tab (zt_tb M (zdT s) (Rs s) ((zy_lvs (ts s)).getD i 0)) (M (zdT s + 12) ((zy_lvs (ts s)).getD i 0)) y else -1000000005) := by
          rw [hl]
          by_cases c4 : i < (zy_lvs (ts s)).length
          · obtain ⟨p1, p2⟩ := zs_leaf hI hz c4
            rw [if_pos c4, if_pos c4, p1, p2]
          · rw [if_neg c4, if_neg c4]
        rw [ev] at E2
        exact ⟨M, θ, _, E1, E2, zW_ro h zJ_eqv.refl f⟩
    · exact absurd (Or.inl ho) hb
end ZXB2
end
section
/-! neighbour, toward: the same answer -/
noncomputable def zx_sd (x : Int32) : Int32 := if 0 ≤ x ∧ x < 4 then -1000000002 else -1000000001
theorem zx_sd_in {sd : Nat} (h : sd < 4) : zx_sd (nI sd) = -1000000002 := by
  have : ∀ sd, sd < 4 → zx_sd (nI sd) = -1000000002 := by decide
  exact this sd h
theorem zx_sd_out {x : Int32} (h : x < 0 ∨ (4 : Int32) ≤ x) : zx_sd x = -1000000001 := by
  unfold zx_sd
  refine if_neg (fun z => ?_)
  rcases h with h | h
  · exact absurd z.1 (Int32.not_le.mpr h)
  · exact absurd z.2 (Int32.not_lt.mpr h)
section ZXN
variable {μ ν : zm_M} {row stk : List Nat} {Rs : Nat → List Nat} {ts : Nat → zy_F}
set_option maxRecDepth 100000 in
theorem ze_neighbour_v (D : Nat) (h : zJ μ row stk Rs ts) (w x : Int32) : ∃ ν v, ze_E (D + 7) A_Desk_neighbour [.ref 1, .int w, .int x] (zm_mk μ) (some (.int v)) (zm_mk ν) ∧ zJ_eqv μ ν ∧ ((v = -1000000001 ∧ ¬ ∃ k sd, k < 10 ∧ sd < 4 ∧ w = nI k ∧ x = nI sd ∧ zd_th μ k = true) ∨ (∃ k sd, k < 10 ∧ sd < 4 ∧ w = nI k ∧ x = nI sd ∧ zd_th μ k = true ∧ ((v = -1000000002 ∧ ∀ s, s < 3 → ¬ zd_shn μ s k) ∨ ∃ s, s < 3 ∧ zd_shn μ s k ∧ v = zd_ngb ν s k sd ∧ ∀ q, q < 3 → zd_laid ν q (Rs q) (ts q)))) := by
  have n4 : Int32.ofInt (-1000000001) = -1000000001 := by decide
  have n2 : Int32.ofInt (-1000000002) = -1000000002 := by decide
  have hno : (∀ k, k < 10 → w = nI k → ¬ zd_th μ k = true) → ze_E (D + 6) A_Desk_isWindow [.ref 1, .int w] (zm_mk μ) (some (.int 0)) (zm_mk μ) → ∃ ν v, ze_E (D + 7) A_Desk_neighbour [.ref 1, .int w, .int x] (zm_mk μ) (some (.int v)) (zm_mk ν) ∧ zJ_eqv μ ν ∧ ((v = -1000000001 ∧ ¬ ∃ k sd, k < 10 ∧ sd < 4 ∧ w = nI k ∧ x = nI sd ∧ zd_th μ k = true) ∨ (∃ k sd, k < 10 ∧ sd < 4 ∧ w = nI k ∧ x = nI sd ∧ zd_th μ k = true ∧ ((v = -1000000002 ∧ ∀ s, s < 3 → ¬ zd_shn μ s k) ∨ ∃ s, s < 3 ∧ zd_shn μ s k ∧ v = zd_ngb ν s k sd ∧ ∀ q, q < 3 → zd_laid ν q (Rs q) (ts q)))) := by
    rintro hn ⟨N1, E1⟩
    refine ⟨μ, -1000000001, ze_in [(0, .ref 1), (1, .int w), (2, .int x)] zq_Desk_neighbour (Nat.le_of_ble_eq_true rfl) rfl ⟨N1, 6, fun F n hF => ?_⟩, zJ_eqv.refl, Or.inl ⟨rfl, fun ⟨k, sd, hk, _, e, _, ht⟩ => hn k hk e ht⟩⟩
    simp [zg_0, zg_aload_n, zg_ifCond, zg_iload_n, zg_invokestatic, zg_invokevirtual, zg_ireturn, zg_ldc, zf_X5_neighbour, zi_ld, zi_lda, zi_cmp, zi_retOk, zi_isI, zi_f3, zi_cr, zi_ci, zi_cn, zi_get, zi_set, zq_Desk_isWindow, zd_c, E1 F (by omega), n4]
  rcases zd_rng w 10 (by decide) with ⟨k, hk, rfl⟩ | hout
  · have E1 := ze_thW (μ := μ) (D + 5) hk
    by_cases c1 : zd_th μ k = true
    · rw [if_pos c1] at E1
      obtain ⟨N1, E1⟩ := E1
      rcases zd_rng x 4 (by decide) with ⟨sd, hsd, rfl⟩ | ho
      · obtain ⟨N2, E2⟩ := ze_isSide_in (h := zm_mk μ) (D + 5) hsd
        rcases ze_isShownTileJ (D + 3) h (nI k) with ⟨⟨N3, E3⟩, k', s, hk', hs, ek, hsh⟩ | ⟨⟨N3, E3⟩, hns⟩
        · have e : k = k' := (nI_eq (by omega) (by omega)).mp ek
          subst e
          obtain ⟨ν, ⟨N4, E4⟩, f4, hlaid⟩ := ze_layTrees (μ := μ) D (fun s hs => (h.2.2.2.1 s hs).1)
          have hJ := h.eqv (zd_frA_eqv f4)
          obtain ⟨N5, E5⟩ := ze_treeOf (μ := ν) (D + 5) hk hs (by rw [zd_frA_eqv f4 _ (zJn_W hk).1]; exact hsh.2.1)
          obtain ⟨N6, E6⟩ := ze_Tree_neighbourTo (μ := ν) (D + 1) (zdT_at hs) (zt_I_hm (hJ.2.2.2.1 s hs).1.1) hk hsd
          obtain ⟨lt, ct⟩ := zt_c (μ := ν) (zdT_at hs)
          generalize hv : zl_nb (zt_nf ν (zdT s) k sd) (List.range 10) (-1000000005) 0 = v at E6
          refine ⟨ν, v, ze_in [(0, .ref 1), (1, .int (nI k)), (2, .int (nI sd))] zq_Desk_neighbour (Nat.le_of_ble_eq_true rfl) rfl ⟨N1 + N2 + N3 + N4 + N5 + N6, 20, fun F n hF => ?_⟩, zd_frA_eqv f4, Or.inr ⟨k, sd, hk, hsd, rfl, rfl, c1, Or.inr ⟨s, hs, hsh, hv.symm, hlaid⟩⟩⟩
          simp [zg_0, zg_aload_n, zg_ifCond, zg_iload_n, zg_invokestatic, zg_invokevirtual, zg_ireturn, zg_ldc, zf_X5_neighbour, zi_ld, zi_lda, zi_cmp, zi_retOk, zi_isI, zi_f3, zi_cr, zi_ci, zi_cn, zi_get, zi_set, zq_Desk_isWindow, zd_c, E1 F (by omega), zq_Desk_isSide, E2 F (by omega), zq_Desk_isShownTile, E3 F (by omega), zq_Desk_layTrees, E4 F (by omega), zq_Desk_treeOf, E5 F (by omega), zq_Tree_neighbourTo, ct, E6 F (by omega)]
        · refine ⟨μ, -1000000002, ze_in [(0, .ref 1), (1, .int (nI k)), (2, .int (nI sd))] zq_Desk_neighbour (Nat.le_of_ble_eq_true rfl) rfl ⟨N1 + N2 + N3, 13, fun F n hF => ?_⟩, zJ_eqv.refl, Or.inr ⟨k, sd, hk, hsd, rfl, rfl, c1, Or.inl ⟨rfl, fun s hs => hns k s hk hs rfl⟩⟩⟩
          simp [zg_0, zg_aload_n, zg_ifCond, zg_iload_n, zg_invokestatic, zg_invokevirtual, zg_ireturn, zg_ldc, zf_X5_neighbour, zi_ld, zi_lda, zi_cmp, zi_retOk, zi_isI, zi_f3, zi_cr, zi_ci, zi_cn, zi_get, zi_set, zq_Desk_isWindow, zd_c, E1 F (by omega), zq_Desk_isSide, E2 F (by omega), zq_Desk_isShownTile, E3 F (by omega), n2]
      · obtain ⟨N2, E2⟩ := ze_isSide_out (h := zm_mk μ) (D + 5) ho
        refine ⟨μ, -1000000001, ze_in [(0, .ref 1), (1, .int (nI k)), (2, .int x)] zq_Desk_neighbour (Nat.le_of_ble_eq_true rfl) rfl ⟨N1 + N2, 9, fun F n hF => ?_⟩, zJ_eqv.refl, Or.inl ⟨rfl, fun ⟨_, sd, _, hsd, _, e, _⟩ => by
          rw [e] at ho
          exact ho.elim (nI_pos (by omega)) (nI_ge (b := 4) hsd (by decide))⟩⟩
        simp [zg_0, zg_aload_n, zg_ifCond, zg_iload_n, zg_invokestatic, zg_invokevirtual, zg_ireturn, zg_ldc, zf_X5_neighbour, zi_ld, zi_lda, zi_cmp, zi_retOk, zi_isI, zi_f3, zi_cr, zi_ci, zi_cn, zi_get, zi_set, zq_Desk_isWindow, zd_c, E1 F (by omega), zq_Desk_isSide, E2 F (by omega), n4]
    · rw [if_neg c1] at E1
      refine hno (fun j hj e => ?_) E1
      rw [← (nI_eq (by omega) (by omega)).mp e]
      exact c1
  · refine hno (fun j hj e => ?_) (ze_isWindow_out (D + 5) hout)
    rw [e] at hout
    exact absurd hout (fun q => q.elim (nI_pos (by omega)) (nI_ge (b := 10) hj (by decide)))
set_option maxRecDepth 100000 in
theorem ze_toward_v (D : Nat) (h : zJ μ row stk Rs ts) (x : Int32) : ∃ ν v row' stk', ze_E (D + 16) A_Desk_toward [.ref 1, .int x] (zm_mk μ) (some (.int v)) (zm_mk ν) ∧ zJ ν row' stk' Rs ts ∧
    (((∀ sd, sd < 4 → x = nI sd → ∀ s, s < 3 → row ≠ [] → ¬ zd_shn μ s (row.getD 0 0)) ∧ ν = μ ∧ row' = row ∧ v = zx_sd x) ∨
     (∃ sd s ξ, sd < 4 ∧ s < 3 ∧ x = nI sd ∧ row ≠ [] ∧ zd_shn μ s (row.getD 0 0) ∧ zJ_eqv μ ξ ∧ (∀ q, q < 3 → zd_laid ξ q (Rs q) (ts q)) ∧
       ((zd_ngb ξ s (row.getD 0 0) sd = -1000000005 ∧ ν = ξ ∧ row' = row ∧ v = -1000000005) ∨ ∃ i, i < 10 ∧ zd_th μ i = true ∧ zd_ngb ξ s (row.getD 0 0) sd = nI i ∧ row' = i :: row.erase i ∧ zd_foc ξ ν i ∧ v = nI i))) := by
  have n4 : Int32.ofInt (-1000000001) = -1000000001 := by decide
  have n2 : Int32.ofInt (-1000000002) = -1000000002 := by decide
  have hl10 := h.1.1.1
  rcases zd_rng x 4 (by decide) with ⟨sd, hsd, rfl⟩ | ho
  · obtain ⟨N1, E1⟩ := ze_isSide_in (h := zm_mk μ) (D + 14) hsd
    have cr := zr_c (μ := μ) zd3_at
    have E2 : ze_E (D + 15) A_Row_get [.ref (3 + 1), .int 0] (zm_mk μ) (some (.int (if row = [] then -1 else nI (row.getD 0 0)))) (zm_mk μ) := by
      by_cases c : row = []
      · rw [if_pos c]
        have := ze_Row_get (μ := μ) (r := 3) (D + 14) 0 zd3_at (by rw [h.1.1.2.1]; exact nI_le (b := 10) h.1.1.1 (by decide))
        rw [if_neg (fun q => by
          have := q.2
          rw [h.1.1.2.1, c] at this
          exact absurd this (by decide))] at this
        exact this
      · rw [if_neg c]
        have := ze_Row_getL (μ := μ) (i := 0) (D + 14) zd3_at h.1.1 (List.length_pos_iff.mpr c)
        rw [nI_0] at this
        exact this
    obtain ⟨N2, E2⟩ := E2
    generalize hw : (if row = [] then (-1 : Int32) else nI (row.getD 0 0)) = w at E2
    rcases ze_isShownTileJ (D + 12) h w with ⟨⟨N3, E3⟩, k, s, hk, hs, ek, hsh⟩ | ⟨⟨N3, E3⟩, hno⟩
    · have hne : row ≠ [] := fun c => by
        rw [if_pos c, ek] at hw
        have : nI k < 0 := by rw [← hw]; decide
        exact nI_pos (by omega) this
      rw [if_neg hne, ek] at hw
      have hm0 : row.getD 0 0 ∈ row := zl_mem (List.length_pos_iff.mpr hne)
      have hb0 := ((h.1.2.2 _).mp hm0).1
      have ek0 : row.getD 0 0 = k := (nI_eq (by omega) (by omega)).mp hw
      subst ek
      obtain ⟨ξ, ⟨N4, E4⟩, f4, hlaid⟩ := ze_layTrees (μ := μ) (D + 9) (fun s hs => (h.2.2.2.1 s hs).1)
      have hev := zd_frA_eqv f4
      have hJ := h.eqv hev
      obtain ⟨N5, E5⟩ := ze_treeOf (μ := ξ) (D + 14) hk hs (by rw [hev _ (zJn_W hk).1]; exact hsh.2.1)
      obtain ⟨N6, E6⟩ := ze_Tree_neighbourTo (μ := ξ) (D + 10) (zdT_at hs) (zt_I_hm (hJ.2.2.2.1 s hs).1.1) hk hsd
      obtain ⟨lt, ct⟩ := zt_c (μ := ξ) (zdT_at hs)
      have hor := zd_ngb_or hJ (s := s) (k := k) (sd := sd) hs
      have E6' : ∀ F, N6 ≤ F → zi_run zi_ms F (D + 10 + 5) A_Tree_neighbourTo [.ref (zdT s + 1), .int (nI k), .int (nI sd)] (zm_mk ξ) [] = some [([], some (.int (zd_ngb ξ s k sd)), zm_mk ξ)] := E6
      generalize hv : zd_ngb ξ s k sd = v at E6' hor
      have S0 : ze_S (D + 15) 4 (some .int) zc_X5_toward 0 [(0, .ref 1), (1, .int (nI sd))] [] (zm_mk μ) 45 [(3, .int v), (2, .int (nI k)), (0, .ref 1), (1, .int (nI sd))] [] (zm_mk ξ) := by
        refine ⟨N1 + N2 + N3 + N4 + N5 + N6, 21, fun F n hF => ?_⟩
        simp [zg_0, zg_aload_n, zg_getfield, zg_iconst, zg_ifCond, zg_iload_n, zg_invokestatic, zg_invokevirtual, zg_ireturn, zg_istore_n, zg_ldc, zf_X5_toward, zi_ld, zi_lda, zi_cmp, zi_retOk, zi_isI, zi_f3, zi_cr, zi_ci, zi_cn, zi_get, zi_set, zq_Desk_isSide, E1 F (by omega), zd_g, zq_Row_get, cr, E2 F (by omega), zq_Desk_isShownTile, zd_c, E3 F (by omega), zq_Desk_layTrees, E4 F (by omega), zq_Desk_treeOf, E5 F (by omega), zq_Tree_neighbourTo, ct, E6' F (by omega)]
      rcases hor with rfl | ⟨i, hi, rfl, hit, his⟩
      · obtain ⟨N7, E7⟩ := ze_isWindow_out (μ := ξ) (D + 14) (x := -1000000005) (Or.inl (by decide))
        refine ⟨ξ, -1000000005, row, stk, ze_in [(0, .ref 1), (1, .int (nI sd))] zq_Desk_toward (Nat.le_of_ble_eq_true rfl) rfl (S0.end ⟨N7, 6, fun F n hF => ?_⟩), hJ, Or.inr ⟨sd, s, ξ, hsd, hs, rfl, hne, by rw [ek0]; exact hsh, hev, hlaid, Or.inl ⟨by rw [ek0]; exact hv, rfl, rfl, rfl⟩⟩⟩
        simp [zg_0, zg_aload_n, zg_getfield, zg_iconst, zg_ifCond, zg_iload_n, zg_invokestatic, zg_invokevirtual, zg_ireturn, zg_istore_n, zg_ldc, zf_X5_toward, zi_ld, zi_lda, zi_cmp, zi_retOk, zi_isI, zi_f3, zi_cr, zi_ci, zi_cn, zi_get, zi_set, zq_Desk_isWindow, zd_c, E7 F (by omega)]
      · have hith : zd_th ξ i = true := decide_eq_true (of_decide_eq_true hit).1
        obtain ⟨N7, E7⟩ := ze_thW (μ := ξ) (D + 14) hi
        rw [if_pos hith] at E7
        obtain ⟨ν, stk', ⟨N8, E8⟩, hJ', hf⟩ := ze_giveFocusJ (μ := ξ) D hJ hi hith
        have hith' : zd_th μ i = true := by
          unfold zd_th at *
          rw [hev _ (zJn_W hi).1] at hith
          exact hith
        refine ⟨ν, nI i, i :: row.erase i, stk', ze_in [(0, .ref 1), (1, .int (nI sd))] zq_Desk_toward (Nat.le_of_ble_eq_true rfl) rfl (S0.end ⟨N7 + N8, 9, fun F n hF => ?_⟩), hJ', Or.inr ⟨sd, s, ξ, hsd, hs, rfl, hne, by rw [ek0]; exact hsh, hev, hlaid, Or.inr ⟨i, hi, hith', by rw [ek0]; exact hv, rfl, hf, rfl⟩⟩⟩
        simp [zg_0, zg_aload_n, zg_getfield, zg_iconst, zg_ifCond, zg_iload_n, zg_invokestatic, zg_invokevirtual, zg_ireturn, zg_istore_n, zg_ldc, zf_X5_toward, zi_ld, zi_lda, zi_cmp, zi_retOk, zi_isI, zi_f3, zi_cr, zi_ci, zi_cn, zi_get, zi_set, zq_Desk_isWindow, zd_c, E7 F (by omega), zq_Desk_giveFocus, E8 F (by omega)]
    · refine ⟨μ, -1000000002, row, stk, ze_in [(0, .ref 1), (1, .int (nI sd))] zq_Desk_toward (Nat.le_of_ble_eq_true rfl) rfl ⟨N1 + N2 + N3, 14, fun F n hF => ?_⟩, h, Or.inl ⟨fun sd' hsd' e s hs hne => ?_, rfl, rfl, (zx_sd_in hsd).symm⟩⟩
      · simp [zg_0, zg_aload_n, zg_getfield, zg_iconst, zg_ifCond, zg_iload_n, zg_invokestatic, zg_invokevirtual, zg_ireturn, zg_istore_n, zg_ldc, zf_X5_toward, zi_ld, zi_lda, zi_cmp, zi_retOk, zi_isI, zi_f3, zi_cr, zi_ci, zi_cn, zi_get, zi_set, zq_Desk_isSide, E1 F (by omega), zd_g, zq_Row_get, cr, E2 F (by omega), zq_Desk_isShownTile, zd_c, E3 F (by omega), n2]
      · have hm0 : row.getD 0 0 ∈ row := zl_mem (List.length_pos_iff.mpr hne)
        have hb0 := ((h.1.2.2 _).mp hm0).1
        exact hno _ s hb0 hs (by rw [← hw, if_neg hne])
  · obtain ⟨N1, E1⟩ := ze_isSide_out (h := zm_mk μ) (D + 14) ho
    refine ⟨μ, -1000000001, row, stk, ze_in [(0, .ref 1), (1, .int x)] zq_Desk_toward (Nat.le_of_ble_eq_true rfl) rfl ⟨N1, 5, fun F n hF => ?_⟩, h, Or.inl ⟨fun sd hsd e => ?_, rfl, rfl, (zx_sd_out ho).symm⟩⟩
    · simp [zg_0, zg_aload_n, zg_getfield, zg_iconst, zg_ifCond, zg_iload_n, zg_invokestatic, zg_invokevirtual, zg_ireturn, zg_istore_n, zg_ldc, zf_X5_toward, zi_ld, zi_lda, zi_cmp, zi_retOk, zi_isI, zi_f3, zi_cr, zi_ci, zi_cn, zi_get, zi_set, zq_Desk_isSide, E1 F (by omega), n4]
    · rw [e] at ho
      exact absurd ho (fun q => q.elim (nI_pos (by omega)) (nI_ge (b := 4) hsd (by decide)))
end ZXN
section ZXN2
variable {μ ν : zm_M} {row stk : List Nat} {us : Nat → zy_F}
set_option maxRecDepth 100000 in
theorem ze_Mneighbour_v (D : Nat) (h : zR μ row stk us) (w x : Int32) : ∃ ν v, ze_E (D + 29) A_Mod_neighbour [.ref 232, .int w, .int x] (zm_mk μ) (some (.int v)) (zm_mk ν) ∧ zM_fr μ ν ∧ ((v = -1000000001 ∧ ¬ ∃ k sd, k < 10 ∧ sd < 4 ∧ w = nI k ∧ x = nI sd ∧ ¬ μ 234 k = 0) ∨ (∃ k sd, k < 10 ∧ sd < 4 ∧ w = nI k ∧ x = nI sd ∧ ¬ μ 234 k = 0 ∧ ((v = -1000000002 ∧ ∀ s, s < 3 → ¬ zv_shn μ us s k) ∨ ∃ s lo, s < 3 ∧ zv_shn μ us s k ∧ zv_los μ us lo ∧ zv_laid μ ν s (us s) ∧ zv_frY μ ν ∧ ((zl_nb (zv_nf ν s k sd lo) (List.range 10) (-1) 0 = -1 ∧ v = -1000000005) ∨ ∃ i, i < 10 ∧ zl_nb (zv_nf ν s k sd lo) (List.range 10) (-1) 0 = nI i ∧ v = nI i)))) := by
  have n1 : Int32.ofInt (-1000000001) = -1000000001 := by decide
  have n2 : Int32.ofInt (-1000000002) = -1000000002 := by decide
  have n5 : Int32.ofInt (-1000000005) = -1000000005 := by decide
  obtain ⟨lc, cM⟩ := zM_c (μ := μ)
  rcases zR_win (D + 26) h w with ⟨k, hk, rfl, c0, N1, E1⟩ | ⟨⟨N1, E1⟩, c0⟩
  · rcases zM_isIn (hp := zm_mk μ) (D + 27) x (n := 3) (b := 3) (by decide) (by decide) with ⟨sd, hsd, rfl, N2, E2⟩ | ⟨⟨N2, E2⟩, hno⟩
    · rcases zR_shn (D + 24) h hk with ⟨⟨N3, E3⟩, s, hs, hsh⟩ | ⟨⟨N3, E3⟩, hns⟩
      · obtain ⟨ν, lo, l1, l2, f, ⟨q3, N4, E4⟩ | ⟨i, hi, -, q3, N4, E4⟩⟩ := zR_nbr D h hk hs hsd hsh.1 hsh.2.1
        · have m1 : ¬ (0 : Int32) ≤ -1 := by decide
          refine ⟨ν, -1000000005, ze_in [(0, .ref 232), (1, .int (nI k)), (2, .int (nI sd))] zq_Mod_neighbour (Nat.le_of_ble_eq_true rfl) rfl ⟨N1 + N2 + N3 + N4, 23, fun F n hF => ?_⟩, f.fr, Or.inr ⟨k, sd, hk, hsd, rfl, rfl, c0, Or.inr ⟨s, lo, hs, hsh, l1, l2, f, Or.inl ⟨q3, rfl⟩⟩⟩⟩
          simp [zg_0, zg_aload_n, zg_goto, zg_iconst, zg_ifCond, zg_iload_n, zg_invokestatic, zg_invokevirtual, zg_ireturn, zg_istore_n, zg_ldc, zg_ldc_w, zf_X6_neighbour, zi_ld, zi_lda, zi_cmp, zi_retOk, zi_isI, zi_f3, zi_cr, zi_ci, zi_cn, zi_get, zi_set, cM, zq_Mod_isWindow, zq_Mod_isIn, zq_Mod_isShown, zq_Mod_neighbourOf, E1 F (by omega), E2 F (by omega), E3 F (by omega), E4 F (by omega), m1, n5]
        · have m1 : (0 : Int32) ≤ nI i := Int32.not_lt.mp (nI_pos (by omega))
          refine ⟨ν, nI i, ze_in [(0, .ref 232), (1, .int (nI k)), (2, .int (nI sd))] zq_Mod_neighbour (Nat.le_of_ble_eq_true rfl) rfl ⟨N1 + N2 + N3 + N4, 22, fun F n hF => ?_⟩, f.fr, Or.inr ⟨k, sd, hk, hsd, rfl, rfl, c0, Or.inr ⟨s, lo, hs, hsh, l1, l2, f, Or.inr ⟨i, hi, q3, rfl⟩⟩⟩⟩
          simp [zg_0, zg_aload_n, zg_goto, zg_iconst, zg_ifCond, zg_iload_n, zg_invokestatic, zg_invokevirtual, zg_ireturn, zg_istore_n, zg_ldc, zg_ldc_w, zf_X6_neighbour, zi_ld, zi_lda, zi_cmp, zi_retOk, zi_isI, zi_f3, zi_cr, zi_ci, zi_cn, zi_get, zi_set, cM, zq_Mod_isWindow, zq_Mod_isIn, zq_Mod_isShown, zq_Mod_neighbourOf, E1 F (by omega), E2 F (by omega), E3 F (by omega), E4 F (by omega), m1]
      · refine ⟨μ, -1000000002, ze_in [(0, .ref 232), (1, .int (nI k)), (2, .int (nI sd))] zq_Mod_neighbour (Nat.le_of_ble_eq_true rfl) rfl ⟨N1 + N2 + N3, 15, fun F n hF => ?_⟩, zM_fr.refl, Or.inr ⟨k, sd, hk, hsd, rfl, rfl, c0, Or.inl ⟨rfl, hns⟩⟩⟩
        simp [zg_0, zg_aload_n, zg_goto, zg_iconst, zg_ifCond, zg_iload_n, zg_invokestatic, zg_invokevirtual, zg_ireturn, zg_istore_n, zg_ldc, zg_ldc_w, zf_X6_neighbour, zi_ld, zi_lda, zi_cmp, zi_retOk, zi_isI, zi_f3, zi_cr, zi_ci, zi_cn, zi_get, zi_set, cM, zq_Mod_isWindow, zq_Mod_isIn, zq_Mod_isShown, E1 F (by omega), E2 F (by omega), E3 F (by omega), n2]
    · refine ⟨μ, -1000000001, ze_in [(0, .ref 232), (1, .int (nI k)), (2, .int x)] zq_Mod_neighbour (Nat.le_of_ble_eq_true rfl) rfl ⟨N1 + N2, 11, fun F n hF => ?_⟩, zM_fr.refl, Or.inl ⟨rfl, fun ⟨_, sd, _, hsd, _, e, _⟩ => hno sd (by omega) e⟩⟩
      simp [zg_0, zg_aload_n, zg_goto, zg_iconst, zg_ifCond, zg_iload_n, zg_invokestatic, zg_invokevirtual, zg_ireturn, zg_istore_n, zg_ldc, zg_ldc_w, zf_X6_neighbour, zi_ld, zi_lda, zi_cmp, zi_retOk, zi_isI, zi_f3, zi_cr, zi_ci, zi_cn, zi_get, zi_set, cM, zq_Mod_isWindow, zq_Mod_isIn, E1 F (by omega), E2 F (by omega), n1]
  · refine ⟨μ, -1000000001, ze_in [(0, .ref 232), (1, .int w), (2, .int x)] zq_Mod_neighbour (Nat.le_of_ble_eq_true rfl) rfl ⟨N1, 6, fun F n hF => ?_⟩, zM_fr.refl, Or.inl ⟨rfl, fun ⟨k, _, hk, _, e, _, z⟩ => z (c0 k hk e)⟩⟩
    simp [zg_0, zg_aload_n, zg_goto, zg_iconst, zg_ifCond, zg_iload_n, zg_invokestatic, zg_invokevirtual, zg_ireturn, zg_istore_n, zg_ldc, zg_ldc_w, zf_X6_neighbour, zi_ld, zi_lda, zi_cmp, zi_retOk, zi_isI, zi_f3, zi_cr, zi_ci, zi_cn, zi_get, zi_set, cM, zq_Mod_isWindow, E1 F (by omega), n1]
noncomputable def zv_twdv (μ ν : zm_M) (row stk : List Nat) (us : Nat → zy_F) (x v : Int32) : Prop :=
  ((∀ sd, sd < 4 → x = nI sd → ∀ s, s < 3 → row ≠ [] → ¬ zv_shn μ us s (row.getD 0 0)) ∧ ν = μ ∧ v = zx_sd x) ∨
  ∃ sd s ξ lo, sd < 4 ∧ s < 3 ∧ x = nI sd ∧ row ≠ [] ∧ zv_shn μ us s (row.getD 0 0) ∧ zv_los μ us lo ∧ zv_laid μ ξ s (us s) ∧ zv_frY μ ξ ∧
    ((zl_nb (zv_nf ξ s (row.getD 0 0) sd lo) (List.range 10) (-1) 0 = -1 ∧ ν = ξ ∧ v = -1000000005) ∨ ∃ i, i < 10 ∧ μ 234 i = 1 ∧ zl_nb (zv_nf ξ s (row.getD 0 0) sd lo) (List.range 10) (-1) 0 = nI i ∧ zv_foc ξ ν row stk us i ∧ v = nI i)
set_option maxRecDepth 100000 in
theorem ze_Mtoward_v (D : Nat) (h : zR μ row stk us) (x : Int32) : ∃ ν v, ze_E (D + 29) A_Mod_toward [.ref 232, .int x] (zm_mk μ) (some (.int v)) (zm_mk ν) ∧ zv_twdv μ ν row stk us x v := by
  have n1 : Int32.ofInt (-1000000001) = -1000000001 := by decide
  have n2 : Int32.ofInt (-1000000002) = -1000000002 := by decide
  have n5 : Int32.ofInt (-1000000005) = -1000000005 := by decide
  obtain ⟨lc, cM⟩ := zM_c (μ := μ)
  have hL := h.2.1.1
  have l10 := hL.1
  have i0 : zi_in (0 : Int32) 10 = true := by decide
  have z0 : (0 : Int32).toNatClampNeg = 0 := by decide
  rcases zM_isIn (hp := zm_mk μ) (D + 27) x (n := 3) (b := 3) (by decide) (by decide) with ⟨sd, hsd, rfl, N2, E2⟩ | ⟨⟨N2, E2⟩, hno⟩
  · by_cases c : row = []
    · have e0 : μ 231 12 = 0 := by rw [hL.2.1, c]; rfl
      refine ⟨μ, -1000000002, ze_in [(0, .ref 232), (1, .int (nI sd))] zq_Mod_toward (Nat.le_of_ble_eq_true rfl) rfl ⟨N2, 10, fun F n hF => ?_⟩, Or.inl ⟨fun _ _ _ _ _ hne => absurd c hne, rfl, (zx_sd_in (by omega)).symm⟩⟩
      simp [zg_0, zg_aload_n, zg_getfield, zg_iaload, zg_iconst, zg_ifCond, zg_iload_n, zg_invokestatic, zg_invokevirtual, zg_ireturn, zg_istore_n, zg_ldc, zg_ldc_w, zf_X6_toward, zi_ld, zi_lda, zi_cmp, zi_retOk, zi_isI, zi_f3, zi_cr, zi_ci, zi_cn, zi_get, zi_set, zM_g, zq_Mod_isIn, E2 F (by omega), e0, n2]
    · have hpos := List.length_pos_iff.mpr c
      have hm : row.getD 0 0 ∈ row := zl_mem hpos
      obtain ⟨hk, ht⟩ := (h.2.1.2.2 _).mp hm
      have e1 : μ 242 0 = nI (row.getD 0 0) := hL.2.2 0 hpos
      have e0 : ¬ μ 231 12 = 0 := by
        rw [hL.2.1]
        intro e
        have := (nI_eq (a := row.length) (b := 0) (by omega) (by decide)).mp e
        omega
      unfold zv_twdv
      generalize row.getD 0 0 = k at hm hk ht e1 ⊢
      rcases zR_shn (D + 24) h hk with ⟨⟨N3, E3⟩, s, hs, hsh⟩ | ⟨⟨N3, E3⟩, hns⟩
      · obtain ⟨ξ, lo, q1, q2, f, ⟨q3, N4, E4⟩ | ⟨i, hi, q4, q5, N4, E4⟩⟩ := zR_nbr D h hk hs (by omega : sd < 4) hsh.1 hsh.2.1
        · have m1 : ¬ (0 : Int32) ≤ -1 := by decide
          refine ⟨ξ, -1000000005, ze_in [(0, .ref 232), (1, .int (nI sd))] zq_Mod_toward (Nat.le_of_ble_eq_true rfl) rfl ⟨N2 + N3 + N4, 27, fun F n hF => ?_⟩, Or.inr ⟨sd, s, ξ, lo, by omega, hs, rfl, c, hsh, q1, q2, f, Or.inl ⟨q3, rfl, rfl⟩⟩⟩
          simp [zg_0, zg_aload_n, zg_getfield, zg_iaload, zg_iconst, zg_ifCond, zg_iload_n, zg_invokestatic, zg_invokevirtual, zg_ireturn, zg_istore_n, zg_ldc, zg_ldc_w, zf_X6_toward, zi_ld, zi_lda, zi_cmp, zi_retOk, zi_isI, zi_f3, zi_cr, zi_ci, zi_cn, zi_get, zi_set, zM_g, cM, zq_Mod_isIn, zq_Mod_isShown, zq_Mod_neighbourOf, E2 F (by omega), E3 F (by omega), E4 F (by omega), e0, zm_iald (k := 0) zM_A242 i0, z0, e1, m1, n5]
        · have m1 : (0 : Int32) ≤ nI i := Int32.not_lt.mp (nI_pos (by omega))
          have h2 := h.fr f.fr
          obtain ⟨lc2, cM2⟩ := zM_c (μ := ξ)
          obtain ⟨ν, ⟨N5, E5⟩, q6⟩ := zR_focused (D + 16) h2 hi (by rw [f _ _ (by omega) (by omega), q4]; decide)
          refine ⟨ν, nI i, ze_in [(0, .ref 232), (1, .int (nI sd))] zq_Mod_toward (Nat.le_of_ble_eq_true rfl) rfl ⟨N2 + N3 + N4 + N5, 30, fun F n hF => ?_⟩, Or.inr ⟨sd, s, ξ, lo, by omega, hs, rfl, c, hsh, q1, q2, f, Or.inr ⟨i, hi, q4, q5, q6, rfl⟩⟩⟩
          simp [zg_0, zg_aload_n, zg_getfield, zg_iaload, zg_iconst, zg_ifCond, zg_iload_n, zg_invokestatic, zg_invokevirtual, zg_ireturn, zg_istore_n, zg_ldc, zg_ldc_w, zf_X6_toward, zi_ld, zi_lda, zi_cmp, zi_retOk, zi_isI, zi_f3, zi_cr, zi_ci, zi_cn, zi_get, zi_set, zM_g, cM, cM2, zq_Mod_isIn, zq_Mod_isShown, zq_Mod_neighbourOf, zq_Mod_focused, E2 F (by omega), E3 F (by omega), E4 F (by omega), E5 F (by omega), e0, zm_iald (k := 0) zM_A242 i0, z0, e1, m1]
      · refine ⟨μ, -1000000002, ze_in [(0, .ref 232), (1, .int (nI sd))] zq_Mod_toward (Nat.le_of_ble_eq_true rfl) rfl ⟨N2 + N3, 17, fun F n hF => ?_⟩, Or.inl ⟨fun _ _ _ s hs _ => hns s hs, rfl, (zx_sd_in (by omega)).symm⟩⟩
        simp [zg_0, zg_aload_n, zg_getfield, zg_iaload, zg_iconst, zg_ifCond, zg_iload_n, zg_invokestatic, zg_invokevirtual, zg_ireturn, zg_istore_n, zg_ldc, zg_ldc_w, zf_X6_toward, zi_ld, zi_lda, zi_cmp, zi_retOk, zi_isI, zi_f3, zi_cr, zi_ci, zi_cn, zi_get, zi_set, zM_g, cM, zq_Mod_isIn, zq_Mod_isShown, E2 F (by omega), E3 F (by omega), e0, zm_iald (k := 0) zM_A242 i0, z0, e1, n2]
  · refine ⟨μ, -1000000001, ze_in [(0, .ref 232), (1, .int x)] zq_Mod_toward (Nat.le_of_ble_eq_true rfl) rfl ⟨N2, 7, fun F n hF => ?_⟩, Or.inl ⟨fun sd hsd e => absurd e (hno sd (by omega)), rfl, (zx_sd_out ((zd_rng x 4 (by decide)).resolve_left (fun ⟨sd, hsd, e⟩ => hno sd hsd e))).symm⟩⟩
    simp [zg_0, zg_aload_n, zg_getfield, zg_iaload, zg_iconst, zg_ifCond, zg_iload_n, zg_invokestatic, zg_invokevirtual, zg_ireturn, zg_istore_n, zg_ldc, zg_ldc_w, zf_X6_toward, zi_ld, zi_lda, zi_cmp, zi_retOk, zi_isI, zi_f3, zi_cr, zi_ci, zi_cn, zi_get, zi_set, zq_Mod_isIn, E2 F (by omega), n1]
end ZXN2
section ZXN3
variable {M N θ : zm_M} {row row' stkC stkC' stk ord : List Nat} {Rs Rs' : Nat → List Nat} {ts ts' us us' : Nat → zy_F}
theorem zd_shn_eqv {s k : Nat} (hk : k < 10) (hs : s < 3) (e : zJ_eqv M N) : zd_shn N s k ↔ zd_shn M s k := by
  unfold zd_shn zd_til
  rw [e _ (zJn_W hk).1, e _ (zJn_T hs (j := 12) (by decide)).1, e _ (zJn_T hs (j := 3) (by decide)).1]
theorem zW_neighbour_e (h : zW M) (w x : Int32) : zW_e M A_Desk_neighbour A_Mod_neighbour [.int w, .int x] := by
  obtain ⟨row, stkC, stk, ord, Rs, ts, us, h⟩ := h
  obtain ⟨N, r1, E1, e, V1⟩ := ze_neighbour_v 57 h.1 w x
  have hm := zW_mid h (zW_eqv e)
  obtain ⟨θ, r2, E2, f, V2⟩ := ze_Mneighbour_v 35 (zK_R hm) w x
  have W := zW_ro h e f
  have key : r2 = r1 := by
    rcases V1 with ⟨rfl, n1⟩ | ⟨k, sd, hk, hsd, rfl, rfl, ht, V1⟩
    · rcases V2 with ⟨rfl, -⟩ | ⟨k, sd, hk, hsd, rfl, rfl, ht, -⟩
      · rfl
      · exact absurd ⟨k, sd, hk, hsd, rfl, rfl, (zK_kind hm hk).2.2.mpr ht⟩ n1
    · rcases V2 with ⟨rfl, n2⟩ | ⟨k', sd', hk', hsd', ek, es, ht', V2⟩
      · exact absurd ⟨k, sd, hk, hsd, rfl, rfl, (zK_kind hm hk).2.2.mp ht⟩ n2
      · have ek := (nI_eq (by omega) (by omega)).mp ek
        have es := (nI_eq (by omega) (by omega)).mp es
        subst ek es
        have sh : ∀ s, s < 3 → (zd_shn M s k ↔ zv_shn N us s k) := fun s hs => zK_shn hm hk hs
        rcases V1 with ⟨rfl, n1⟩ | ⟨s, hs, hsh, rfl, hl⟩
        · rcases V2 with ⟨rfl, -⟩ | ⟨s, lo, hs, hsh, -⟩
          · rfl
          · exact absurd ((sh s hs).mpr hsh) (n1 s hs)
        · rcases V2 with ⟨rfl, n2⟩ | ⟨s', lo, hs', hsh', hlo, hv, fY, V2⟩
          · exact absurd ((sh s hs).mp hsh) (n2 s hs)
          · have e2 := (nI_eq (by omega) (by omega)).mp (((sh s' hs').mpr hsh').2.1.symm.trans hsh.2.1)
            subst e2
            have h2 := hm.scr e (zM_fr.refl (μ := N))
            rcases zK_nbr h2 hs hsd (hl _ hs) hv fY hlo hk ((zd_shn_eqv hk hs e).mpr hsh) with ⟨z1, z2⟩ | ⟨i, hi, z1, z2⟩
            · rcases V2 with ⟨-, rfl⟩ | ⟨i, hi, z3, rfl⟩
              · exact z1.symm
              · rw [z2] at z3
                exact absurd (by rw [← z3]; decide) (nI_pos (n := i) (by omega))
            · rcases V2 with ⟨z3, -⟩ | ⟨j, hj, z3, rfl⟩
              · rw [z2] at z3
                exact absurd (by rw [z3]; decide) (nI_pos (n := i) (by omega))
              · rw [z1, ← z2, z3]
  subst key
  exact ⟨N, θ, r2, E1, E2, W⟩
theorem zW_toward_e (h : zW M) (x : Int32) : zW_e M A_Desk_toward A_Mod_toward [.int x] := by
  obtain ⟨row, stkC, stk, ord, Rs, ts, us, h⟩ := h
  obtain ⟨N, r1, row', stk', E1, hJ, f⟩ := ze_toward_v 48 h.1 x
  have up : zW_up M N := by
    rcases id f with ⟨-, rfl, -⟩ | ⟨sd, s, ξ, -, -, -, -, -, h1, -, ⟨-, rfl, -⟩ | ⟨i, -, -, -, -, h2, -⟩⟩
    · exact zW_up.refl
    · exact zW_eqv h1
    · exact (zW_eqv h1).trans (zW_foc h2)
  have hm := zW_mid h up
  obtain ⟨θ, r2, E2, g⟩ := ze_Mtoward_v 35 (zK_R hm) x
  have f0 : ((∀ sd, sd < 4 → x = nI sd → ∀ s, s < 3 → row ≠ [] → ¬ zd_shn M s (row.getD 0 0)) ∧ N = M ∧ row' = row) ∨
     (∃ sd s ξ1, sd < 4 ∧ s < 3 ∧ x = nI sd ∧ row ≠ [] ∧ zd_shn M s (row.getD 0 0) ∧ zJ_eqv M ξ1 ∧ (∀ q, q < 3 → zd_laid ξ1 q (Rs q) (ts q)) ∧
       ((zd_ngb ξ1 s (row.getD 0 0) sd = -1000000005 ∧ N = ξ1 ∧ row' = row) ∨ ∃ i, i < 10 ∧ zd_th M i = true ∧ zd_ngb ξ1 s (row.getD 0 0) sd = nI i ∧ row' = i :: row.erase i ∧ zd_foc ξ1 N i)) := by
    rcases id f with ⟨a, b, c, -⟩ | ⟨sd, s, ξ, a1, a2, a3, a4, a5, a6, a7, ⟨b1, b2, b3, -⟩ | ⟨i, b1, b2, b3, b4, b5, -⟩⟩
    · exact Or.inl ⟨a, b, c⟩
    · exact Or.inr ⟨sd, s, ξ, a1, a2, a3, a4, a5, a6, a7, Or.inl ⟨b1, b2, b3⟩⟩
    · exact Or.inr ⟨sd, s, ξ, a1, a2, a3, a4, a5, a6, a7, Or.inr ⟨i, b1, b2, b3, b4, b5⟩⟩
  have g0 : zv_twd N θ row stk us x := by
    rcases id g with ⟨a, b, -⟩ | ⟨sd, s, ξ, lo, a1, a2, a3, a4, a5, a6, a7, a8, ⟨b1, b2, -⟩ | ⟨i, b1, b2, b3, b4, -⟩⟩
    · exact Or.inl ⟨a, b⟩
    · exact Or.inr ⟨sd, s, ξ, lo, a1, a2, a3, a4, a5, a6, a7, a8, Or.inl ⟨b1, b2⟩⟩
    · exact Or.inr ⟨sd, s, ξ, lo, a1, a2, a3, a4, a5, a6, a7, a8, Or.inr ⟨i, b1, b2, b3, b4⟩⟩
  obtain ⟨_, _, z⟩ := zK_tow hm hJ f0 g0
  have W := zW_end z (zW_mtwd g0)
  have key : r2 = r1 := by
    rcases f with ⟨f1, -, -, rfl⟩ | ⟨sd, s, ξ1, hsd, hs, rfl, hne, hsh, he, hl, f2⟩
    · rcases g with ⟨-, -, rfl⟩ | ⟨sd, s, μ1, lo, hsd, hs, rfl, hne, hsh, -⟩
      · rfl
      · exact absurd ((zK_shn hm (zJ_row0 h.1 hne) hs).mpr hsh) (f1 sd hsd rfl s hs hne)
    · rcases g with ⟨g1, -, -⟩ | ⟨sd', s', μ1, lo, hsd', hs', ex, -, hsh', hlo, hv, fY, g2⟩
      · exact absurd ((zK_shn hm (zJ_row0 h.1 hne) hs).mp hsh) (g1 sd hsd rfl s hs hne)
      · have e1 := (nI_eq (by omega) (by omega)).mp ex
        subst e1
        have hk := zJ_row0 h.1 hne
        generalize row.getD 0 0 = k at hsh hsh' hk f2 g2
        have e2 := (nI_eq (by omega) (by omega)).mp (((zK_shn hm hk hs').mpr hsh').2.1.symm.trans hsh.2.1)
        subst e2
        have h1 := hm.scr he (zM_fr.refl (μ := N))
        have hnb := zK_nbr h1 hs hsd (hl _ hs) hv fY hlo hk ((zK_shn h1 hk hs).mpr hsh')
        rcases hnb with ⟨z1, z2⟩ | ⟨p, hp, z1, z2⟩
        · rcases f2 with ⟨-, -, -, rfl⟩ | ⟨i, hi, -, f3, -⟩
          · rcases g2 with ⟨-, -, rfl⟩ | ⟨j, hj, -, g3, -⟩
            · rfl
            · rw [z2] at g3
              exact absurd (by rw [← g3]; decide) (nI_pos (n := j) (by omega))
          · rw [z1] at f3
            exact absurd (by rw [← f3]; decide) (nI_pos (n := i) (by omega))
        · rcases f2 with ⟨f3, -, -, -⟩ | ⟨i, hi, -, f3, -, -, rfl⟩
          · rw [z1] at f3
            exact absurd (by rw [f3]; decide) (nI_pos (n := p) (by omega))
          · rcases g2 with ⟨g3, -, -⟩ | ⟨j, hj, -, g3, -, rfl⟩
            · rw [z2] at g3
              exact absurd (by rw [g3]; decide) (nI_pos (n := p) (by omega))
            · rw [← f3, ← g3, z1, z2]
  subst key
  exact ⟨N, θ, r2, E1, E2, W⟩
end ZXN3
end
