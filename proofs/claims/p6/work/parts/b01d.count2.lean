/-! count: the same answer on both sides -/
section ZXD
variable {μ : zm_M} {row stk : List Nat} {Rs : Nat → List Nat} {ts : Nat → zy_F}
set_option maxRecDepth 100000 in
theorem ze_count_v (D : Nat) (hr1 : zr_L μ 3 row) {j : Nat} (hj : j < 6) {v : Int32} (e0 : j = 0 → v = nI (zl_ct (zd_sth μ) 3)) (e1 : j = 1 → v = nI (zl_ct (zd_und μ 0) 10)) (e2 : j = 2 → v = nI (zl_ct (zd_und μ 1) 10)) (e3 : j = 3 → v = nI (zl_ct (zd_und μ 2) 10)) (e4 : j = 4 → v = if row.length = 0 then -1000000005 else nI (row.getD 0 0)) (e5 : j = 5 → v = nI (zl_ct (zd_kth μ) 3)) : ze_E (D + 3) A_Desk_count [.ref 1, .int (nI j)] (zm_mk μ) (some (.int v)) (zm_mk μ) := by
  have n5 : Int32.ofInt (-1000000005) = -1000000005 := by decide
  match j, hj with
  | 0, _ =>
    have t0 : (nI 0).toInt = 0 := by decide
    obtain ⟨N1, E1⟩ := ze_screensThere_v (μ := μ) (D + 1)
    rw [← e0 rfl] at E1
    refine ze_in [(0, .ref 1), (1, .int (nI 0))] zq_Desk_count (Nat.le_of_ble_eq_true rfl) rfl ⟨N1, 5, fun F n hF => ?_⟩
    simp [zg_0, zg_aload_n, zg_getfield, zg_goto, zg_iconst, zg_ifCond, zg_iload_n, zg_invokevirtual, zg_ireturn, zg_ldc, zg_tableswitch, zf_X5_count, zi_ld, zi_lda, zi_cmp, zi_retOk, zi_isI, zi_f3, zi_cr, zi_ci, zi_cn, zi_get, zi_set, t0, zq_Desk_screensThere, zd_c, E1 F (by omega)]
  | 1, _ =>
    have t0 : (nI 1).toInt = 1 := by decide
    obtain ⟨N1, E1⟩ := ze_windowsUnder_v (μ := μ) D 0
    rw [← e1 rfl] at E1
    refine ze_in [(0, .ref 1), (1, .int (nI 1))] zq_Desk_count (Nat.le_of_ble_eq_true rfl) rfl ⟨N1, 6, fun F n hF => ?_⟩
    simp [zg_0, zg_aload_n, zg_getfield, zg_goto, zg_iconst, zg_ifCond, zg_iload_n, zg_invokevirtual, zg_ireturn, zg_ldc, zg_tableswitch, zf_X5_count, zi_ld, zi_lda, zi_cmp, zi_retOk, zi_isI, zi_f3, zi_cr, zi_ci, zi_cn, zi_get, zi_set, t0, zq_Desk_windowsUnder, zd_c, E1 F (by omega)]
  | 2, _ =>
    have t0 : (nI 2).toInt = 2 := by decide
    obtain ⟨N1, E1⟩ := ze_windowsUnder_v (μ := μ) D 1
    rw [← e2 rfl] at E1
    refine ze_in [(0, .ref 1), (1, .int (nI 2))] zq_Desk_count (Nat.le_of_ble_eq_true rfl) rfl ⟨N1, 6, fun F n hF => ?_⟩
    simp [zg_0, zg_aload_n, zg_getfield, zg_goto, zg_iconst, zg_ifCond, zg_iload_n, zg_invokevirtual, zg_ireturn, zg_ldc, zg_tableswitch, zf_X5_count, zi_ld, zi_lda, zi_cmp, zi_retOk, zi_isI, zi_f3, zi_cr, zi_ci, zi_cn, zi_get, zi_set, t0, zq_Desk_windowsUnder, zd_c, E1 F (by omega)]
  | 3, _ =>
    have t0 : (nI 3).toInt = 3 := by decide
    obtain ⟨N1, E1⟩ := ze_windowsUnder_v (μ := μ) D 2
    rw [← e3 rfl] at E1
    refine ze_in [(0, .ref 1), (1, .int (nI 3))] zq_Desk_count (Nat.le_of_ble_eq_true rfl) rfl ⟨N1, 6, fun F n hF => ?_⟩
    simp [zg_0, zg_aload_n, zg_getfield, zg_goto, zg_iconst, zg_ifCond, zg_iload_n, zg_invokevirtual, zg_ireturn, zg_ldc, zg_tableswitch, zf_X5_count, zi_ld, zi_lda, zi_cmp, zi_retOk, zi_isI, zi_f3, zi_cr, zi_ci, zi_cn, zi_get, zi_set, t0, zq_Desk_windowsUnder, zd_c, E1 F (by omega)]
  | 4, _ =>
    have t0 : (nI 4).toInt = 4 := by decide
    obtain ⟨N1, E1⟩ := ze_Row_sizeL (μ := μ) (D + 1) zd3_at hr1
    have cr := zr_c (μ := μ) zd3_at
    have e4 := e4 rfl
    by_cases c : row.length = 0
    · have e : nI row.length = 0 := by rw [c]; exact nI_0
      rw [e] at E1
      rw [if_pos c] at e4
      subst e4
      refine ze_in [(0, .ref 1), (1, .int (nI 4))] zq_Desk_count (Nat.le_of_ble_eq_true rfl) rfl ⟨N1, 9, fun F n hF => ?_⟩
      simp [zg_0, zg_aload_n, zg_getfield, zg_goto, zg_iconst, zg_ifCond, zg_iload_n, zg_invokevirtual, zg_ireturn, zg_ldc, zg_tableswitch, zf_X5_count, zi_ld, zi_lda, zi_cmp, zi_retOk, zi_isI, zi_f3, zi_cr, zi_ci, zi_cn, zi_get, zi_set, t0, zd_g, zq_Row_size, cr, E1 F (by omega), n5]
    · obtain ⟨N2, E2⟩ := ze_Row_getL (μ := μ) (i := 0) (D + 1) zd3_at hr1 (by omega)
      rw [nI_0] at E2
      have hl := hr1.1
      have e : ¬ nI row.length = 0 := fun q => c ((nI_eq (b := 0) (by omega) (by decide)).mp q)
      rw [if_neg c] at e4
      rw [← e4] at E2
      refine ze_in [(0, .ref 1), (1, .int (nI 4))] zq_Desk_count (Nat.le_of_ble_eq_true rfl) rfl ⟨N1 + N2, 11, fun F n hF => ?_⟩
      simp [zg_0, zg_aload_n, zg_getfield, zg_goto, zg_iconst, zg_ifCond, zg_iload_n, zg_invokevirtual, zg_ireturn, zg_ldc, zg_tableswitch, zf_X5_count, zi_ld, zi_lda, zi_cmp, zi_retOk, zi_isI, zi_f3, zi_cr, zi_ci, zi_cn, zi_get, zi_set, t0, zd_g, zq_Row_size, cr, E1 F (by omega), e, zq_Row_get, E2 F (by omega)]
  | 5, _ =>
    have t0 : (nI 5).toInt = 5 := by decide
    obtain ⟨N1, E1⟩ := ze_screensWithKept_v (μ := μ) (D + 1)
    rw [← e5 rfl] at E1
    refine ze_in [(0, .ref 1), (1, .int (nI 5))] zq_Desk_count (Nat.le_of_ble_eq_true rfl) rfl ⟨N1, 5, fun F n hF => ?_⟩
    simp [zg_0, zg_aload_n, zg_getfield, zg_goto, zg_iconst, zg_ifCond, zg_iload_n, zg_invokevirtual, zg_ireturn, zg_ldc, zg_tableswitch, zf_X5_count, zi_ld, zi_lda, zi_cmp, zi_retOk, zi_isI, zi_f3, zi_cr, zi_ci, zi_cn, zi_get, zi_set, t0, zq_Desk_screensWithKept, zd_c, E1 F (by omega)]
set_option maxRecDepth 100000 in
theorem ze_count_bad (D : Nat) {x : Int32} (ho : x < 0 ∨ nI 6 ≤ x) : ze_E (D + 3) A_Desk_count [.ref 1, .int x] (zm_mk μ) (some (.int (-1000000001))) (zm_mk μ) := by
  have n4 : Int32.ofInt (-1000000001) = -1000000001 := by decide
  have ho' : x.toInt < 0 ∨ 5 < x.toInt := by
    rcases zd_sw (by decide) ho with q | q
    · exact Or.inl q
    · right; omega
  refine ze_in [(0, .ref 1), (1, .int x)] zq_Desk_count (Nat.le_of_ble_eq_true rfl) rfl ⟨0, 4, fun F n hF => ?_⟩
  simp [zg_0, zg_aload_n, zg_getfield, zg_goto, zg_iconst, zg_ifCond, zg_iload_n, zg_invokevirtual, zg_ireturn, zg_ldc, zg_tableswitch, zf_X5_count, zi_ld, zi_lda, zi_cmp, zi_retOk, zi_isI, zi_f3, zi_cr, zi_ci, zi_cn, zi_get, zi_set, ho', n4]
set_option maxRecDepth 100000 in
theorem ze_Mcount_v (D : Nat) {j : Nat} (hj : j < 6) {v : Int32} (e0 : j = 0 → v = nI (zl_ct (zv_nA μ) 3)) (e1 : j = 1 → v = μ 231 12) (e2 : j = 2 → v = nI (zl_ct (zv_nB μ) 10)) (e3 : j = 3 → v = μ 231 10) (e4 : j = 4 → v = if μ 231 12 ≤ 0 then -1000000005 else μ 242 0) (e5 : j = 5 → v = nI (zl_ct (zv_nC μ) 3)) : ze_E (D + 1) A_Mod_count [.ref 232, .int (nI j)] (zm_mk μ) (some (.int v)) (zm_mk μ) := by
  have n5 : Int32.ofInt (-1000000005) = -1000000005 := by decide
  have i0 : zi_in (0 : Int32) 10 = true := by decide
  have z0 : (0 : Int32).toNatClampNeg = 0 := by decide
  refine ze_in [(0, .ref 232), (1, .int (nI j))] zq_Mod_count (Nat.le_of_ble_eq_true rfl) rfl ?_
  match j, hj with
  | 0, _ =>
    have t0 : (nI 0).toInt = 0 := by decide
    obtain ⟨r, h', G, rfl, rfl⟩ := zv_ctA_v (μ := μ) D [(3, .int (nI 0)), (2, .int (nI 0)), (0, .ref 232), (1, .int (nI 0))] rfl rfl rfl rfl
    rw [← e0 rfl] at G
    refine ze_S.end ⟨0, 6, fun F n hF => ?_⟩ G
    simp [zg_0, zg_aload_n, zg_baload, zg_bipush, zg_getfield, zg_goto, zg_iadd, zg_iaload, zg_iconst, zg_ifCond, zg_if_icmp, zg_iinc, zg_iload_n, zg_ireturn, zg_istore_n, zg_ldc, zg_ldc_w, zg_tableswitch, zf_X6_count, zi_ld, zi_lda, zi_cmp, zi_retOk, zi_isI, zi_f3, zi_cr, zi_ci, zi_cn, zi_get, zi_set, t0, nI_0]
  | 1, _ =>
    have t0 : (nI 1).toInt = 1 := by decide
    rw [e1 rfl]
    refine ⟨0, 7, fun F n hF => ?_⟩
    simp [zg_0, zg_aload_n, zg_baload, zg_bipush, zg_getfield, zg_goto, zg_iadd, zg_iaload, zg_iconst, zg_ifCond, zg_if_icmp, zg_iinc, zg_iload_n, zg_ireturn, zg_istore_n, zg_ldc, zg_ldc_w, zg_tableswitch, zf_X6_count, zi_ld, zi_lda, zi_cmp, zi_retOk, zi_isI, zi_f3, zi_cr, zi_ci, zi_cn, zi_get, zi_set, t0, zM_g]
  | 2, _ =>
    have t0 : (nI 2).toInt = 2 := by decide
    obtain ⟨r, h', G, rfl, rfl⟩ := zv_ctB_v (μ := μ) D [(3, .int (nI 0)), (2, .int (nI 0)), (0, .ref 232), (1, .int (nI 2))] rfl rfl rfl rfl
    rw [← e2 rfl] at G
    refine ze_S.end ⟨0, 6, fun F n hF => ?_⟩ G
    simp [zg_0, zg_aload_n, zg_baload, zg_bipush, zg_getfield, zg_goto, zg_iadd, zg_iaload, zg_iconst, zg_ifCond, zg_if_icmp, zg_iinc, zg_iload_n, zg_ireturn, zg_istore_n, zg_ldc, zg_ldc_w, zg_tableswitch, zf_X6_count, zi_ld, zi_lda, zi_cmp, zi_retOk, zi_isI, zi_f3, zi_cr, zi_ci, zi_cn, zi_get, zi_set, t0, nI_0]
  | 3, _ =>
    have t0 : (nI 3).toInt = 3 := by decide
    rw [e3 rfl]
    refine ⟨0, 7, fun F n hF => ?_⟩
    simp [zg_0, zg_aload_n, zg_baload, zg_bipush, zg_getfield, zg_goto, zg_iadd, zg_iaload, zg_iconst, zg_ifCond, zg_if_icmp, zg_iinc, zg_iload_n, zg_ireturn, zg_istore_n, zg_ldc, zg_ldc_w, zg_tableswitch, zf_X6_count, zi_ld, zi_lda, zi_cmp, zi_retOk, zi_isI, zi_f3, zi_cr, zi_ci, zi_cn, zi_get, zi_set, t0, zM_g]
  | 4, _ =>
    have t0 : (nI 4).toInt = 4 := by decide
    have e4 := e4 rfl
    by_cases c : μ 231 12 ≤ 0
    · rw [if_pos c] at e4
      subst e4
      refine ⟨0, 9, fun F n hF => ?_⟩
      simp [zg_0, zg_aload_n, zg_baload, zg_bipush, zg_getfield, zg_goto, zg_iadd, zg_iaload, zg_iconst, zg_ifCond, zg_if_icmp, zg_iinc, zg_iload_n, zg_ireturn, zg_istore_n, zg_ldc, zg_ldc_w, zg_tableswitch, zf_X6_count, zi_ld, zi_lda, zi_cmp, zi_retOk, zi_isI, zi_f3, zi_cr, zi_ci, zi_cn, zi_get, zi_set, t0, zM_g, c, n5]
    · rw [if_neg c] at e4
      subst e4
      refine ⟨0, 13, fun F n hF => ?_⟩
      simp [zg_0, zg_aload_n, zg_baload, zg_bipush, zg_getfield, zg_goto, zg_iadd, zg_iaload, zg_iconst, zg_ifCond, zg_if_icmp, zg_iinc, zg_iload_n, zg_ireturn, zg_istore_n, zg_ldc, zg_ldc_w, zg_tableswitch, zf_X6_count, zi_ld, zi_lda, zi_cmp, zi_retOk, zi_isI, zi_f3, zi_cr, zi_ci, zi_cn, zi_get, zi_set, t0, zM_g, c, zm_iald (k := 0) zM_A242 i0, z0]
  | 5, _ =>
    have t0 : (nI 5).toInt = 5 := by decide
    obtain ⟨r, h', G, rfl, rfl⟩ := zv_ctC_v (μ := μ) D [(3, .int (nI 0)), (2, .int (nI 0)), (0, .ref 232), (1, .int (nI 5))] rfl rfl rfl rfl
    rw [← e5 rfl] at G
    refine ze_S.end ⟨0, 6, fun F n hF => ?_⟩ G
    simp [zg_0, zg_aload_n, zg_baload, zg_bipush, zg_getfield, zg_goto, zg_iadd, zg_iaload, zg_iconst, zg_ifCond, zg_if_icmp, zg_iinc, zg_iload_n, zg_ireturn, zg_istore_n, zg_ldc, zg_ldc_w, zg_tableswitch, zf_X6_count, zi_ld, zi_lda, zi_cmp, zi_retOk, zi_isI, zi_f3, zi_cr, zi_ci, zi_cn, zi_get, zi_set, t0, nI_0]
set_option maxRecDepth 100000 in
theorem ze_Mcount_bad (D : Nat) {x : Int32} (ho : x < 0 ∨ nI 6 ≤ x) : ze_E (D + 1) A_Mod_count [.ref 232, .int x] (zm_mk μ) (some (.int (-1000000001))) (zm_mk μ) := by
  have n4 : Int32.ofInt (-1000000001) = -1000000001 := by decide
  have ho' : x.toInt < 0 ∨ 5 < x.toInt := by
    rcases zd_sw (by decide) ho with q | q
    · exact Or.inl q
    · right; omega
  refine ze_in [(0, .ref 232), (1, .int x)] zq_Mod_count (Nat.le_of_ble_eq_true rfl) rfl ⟨0, 6, fun F n hF => ?_⟩
  simp [zg_0, zg_aload_n, zg_baload, zg_bipush, zg_getfield, zg_goto, zg_iadd, zg_iaload, zg_iconst, zg_ifCond, zg_if_icmp, zg_iinc, zg_iload_n, zg_ireturn, zg_istore_n, zg_ldc, zg_ldc_w, zg_tableswitch, zf_X6_count, zi_ld, zi_lda, zi_cmp, zi_retOk, zi_isI, zi_f3, zi_cr, zi_ci, zi_cn, zi_get, zi_set, ho', n4]
end ZXD
section ZXD2
variable {M ξ μ : zm_M} {row stkC stk ord : List Nat} {Rs : Nat → List Nat} {ts us : Nat → zy_F}
theorem zK_flo2 (h : zK ξ μ row stkC stk ord Rs ts us) {k : Nat} (hk : k < 10) : zd_und ξ 2 k = zd_flo ξ k := by
  unfold zd_und zd_flo
  refine decide_eq_decide.mpr ⟨fun ⟨a, b⟩ => ⟨a, ?_⟩, fun ⟨a, b⟩ => ⟨a, Or.inr (Or.inr ⟨rfl, b⟩)⟩⟩
  rcases b with b | b | b
  · rw [b]; decide
  · exact absurd b (by decide)
  · exact b.2
theorem zK_und1 (h : zK ξ μ row stkC stk ord Rs ts us) {k : Nat} (hk : k < 10) : zd_und ξ 1 k = zv_nB μ k := by
  unfold zd_und zv_nB
  refine decide_eq_decide.mpr ?_
  have h2 := h.2.2.1.1 k hk
  cases e : zd_th ξ k with
  | false =>
    rw [h2.1 e]
    exact ⟨fun z => absurd (of_decide_eq_false e z.1) id, fun z => absurd z (by decide)⟩
  | true =>
    rw [(h2.2 e).1]
    refine ⟨fun ⟨a, b⟩ => ?_, fun b => ⟨of_decide_eq_true e, Or.inl b⟩⟩
    rcases b with b | b | b
    · exact b
    · exact absurd b (by decide)
    · exact absurd b.1 (by decide)
theorem zK_row (h : zK ξ μ row stkC stk ord Rs ts us) : row.length = zl_ct (zd_und ξ 0) 10 := by
  refine zl_ct_len 10 row h.1.1.2.1 (fun k => ?_)
  rw [h.1.1.2.2 k]
  refine and_congr_right (fun hk => ?_)
  unfold zd_und zd_th
  rw [decide_eq_true_iff, decide_eq_true_iff]
  exact ⟨fun z => ⟨z, Or.inr (Or.inl rfl)⟩, fun z => z.1⟩
theorem zK_stl (h : zK ξ μ row stkC stk ord Rs ts us) : stk.length = zl_ct (zd_und ξ 2) 10 := by
  rw [zl_ct_congr 10 (fun k hk => zK_flo2 h hk)]
  exact zl_ct_len 10 stk h.2.1.2.2.1 h.2.1.2.2.2
theorem zK_sth (h : zK ξ μ row stkC stk ord Rs ts us) {s : Nat} (hs : s < 3) : zd_sth ξ s = zv_nA μ s := by
  unfold zd_sth zv_nA
  refine decide_eq_decide.mpr ?_
  have h2 := h.2.2.1.2 s hs
  by_cases c : ξ (zdS s) 3 = 0
  · rw [(h2.1 c).1]
    exact ⟨fun z => absurd c z, fun z => absurd z (by decide)⟩
  · rw [(h2.2 c).1]
    have := (h.1.2.2.2.2.2 s hs c).1.1
    exact ⟨fun _ => Int32.lt_of_lt_of_le (by decide) this, fun _ => c⟩
theorem zK_kth (h : zK ξ μ row stkC stk ord Rs ts us) {s : Nat} (hs : s < 3) : zd_kth ξ s = zv_nC μ s := by
  unfold zd_kth zv_nC
  exact decide_eq_decide.mpr (not_congr ((h.2.2.2.2.2.2.2 s hs).1).symm)
theorem zW_count_e (h : zW M) (x : Int32) : zW_e M A_Desk_count A_Mod_count [.int x] := by
  have hW := h
  obtain ⟨row, stkC, stk, ord, Rs, ts, us, h⟩ := h
  rcases zd_rng x 6 (by decide) with ⟨j, hj, rfl⟩ | ho
  · have q0 : zl_ct (zd_sth M) 3 = zl_ct (zv_nA M) 3 := zl_ct_congr 3 (fun s hs => zK_sth h hs)
    have q1 : M 231 12 = nI (zl_ct (zd_und M 0) 10) := by rw [h.2.1.1.2.1, zK_row h]
    have q2 : zl_ct (zd_und M 1) 10 = zl_ct (zv_nB M) 10 := zl_ct_congr 10 (fun k hk => zK_und1 h hk)
    have q3 : M 231 10 = nI (zl_ct (zd_und M 2) 10) := by rw [h.2.1.2.1.2.1, zK_stl h]
    have q5 : zl_ct (zd_kth M) 3 = zl_ct (zv_nC M) 3 := zl_ct_congr 3 (fun s hs => zK_kth h hs)
    have q4 : (if M 231 12 ≤ 0 then -1000000005 else M 242 0) = (if row.length = 0 then -1000000005 else nI (row.getD 0 0) : Int32) := by
      have hL := h.2.1.1
      have l10 := hL.1
      rw [hL.2.1]
      by_cases c : row.length = 0
      · rw [if_pos c, if_pos (by rw [c]; decide)]
      · have : ∀ n, n < 11 → ¬ n = 0 → ¬ nI n ≤ 0 := by decide
        rw [if_neg c, if_neg (this _ (by omega) c), hL.2.2 0 (by omega)]
    refine ⟨M, M, if j = 0 then nI (zl_ct (zd_sth M) 3) else if j = 1 then nI (zl_ct (zd_und M 0) 10) else if j = 2 then nI (zl_ct (zd_und M 1) 10) else if j = 3 then nI (zl_ct (zd_und M 2) 10) else if j = 4 then (if row.length = 0 then -1000000005 else nI (row.getD 0 0)) else nI (zl_ct (zd_kth M) 3), ze_count_v 61 h.1.1.1 hj ?_ ?_ ?_ ?_ ?_ ?_, ze_Mcount_v 63 hj ?_ ?_ ?_ ?_ ?_ ?_, hW⟩
    · rintro rfl; rfl
    · rintro rfl; rfl
    · rintro rfl; rfl
    · rintro rfl; rfl
    · rintro rfl; rfl
    · rintro rfl; rfl
    · rintro rfl; rw [← q0]; rfl
    · rintro rfl; rw [q1]; rfl
    · rintro rfl; rw [← q2]; rfl
    · rintro rfl; rw [q3]; rfl
    · rintro rfl; rw [q4]; rfl
    · rintro rfl; rw [← q5]; rfl
  · exact ⟨M, M, _, ze_count_bad 61 ho, ze_Mcount_bad 63 ho, hW⟩
end ZXD2
