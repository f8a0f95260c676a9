/-! the law: its cases, run -/
section ZWL2
variable {l : List Value} {i : Nat} {a b c d : Int32} {M N θ : zm_M} {r r1 r2 : Int32}
set_option maxRecDepth 100000 in
theorem zw_0 (hn : l.length < 2 ^ 31) (s1 : l[i + 1]? = some (.int a)) (s2 : l[i + 2]? = some (.int b)) (s3 : l[i + 3]? = some (.int c)) (E1 : ze_E 64 A_Desk_screen [.ref 1, .int a, .int b, .int c] (zm_mk M) (some (.int r1)) (zm_mk N)) (E2 : ze_E 64 A_Mod_screen [.ref 232, .int a, .int b, .int c] (zm_mk N) (some (.int r2)) (zm_mk θ)) : zw_S l 124 (zw_L i) [] (zm_mk M) 761 (zw_L i) [] (zm_mk θ) := by
  have w1 : ∀ hp, zi_iald (some l) [] hp (nI i + 1) 0 = some (.int a) := fun hp => zw_ld (j := 1) hn s1 hp
  have w2 : ∀ hp, zi_iald (some l) [] hp (nI i + 2) 0 = some (.int b) := fun hp => zw_ld (j := 2) hn s2 hp
  have w3 : ∀ hp, zi_iald (some l) [] hp (nI i + 3) 0 = some (.int c) := fun hp => zw_ld (j := 3) hn s3 hp
  obtain ⟨N1, E1⟩ := E1
  obtain ⟨N2, E2⟩ := E2
  obtain ⟨lc, cM⟩ := zM_c (μ := N)
  unfold zw_L
  refine ⟨N1 + N2, 37, fun F n hF => ?_⟩
  simp [zg_0, zg_aload_n, zg_arraylength, zg_astore_n, zg_bipush, zg_dup, zg_goto, zg_iadd, zg_iaload, zg_iand, zg_iconst, zg_if_icmp, zg_iinc, zg_iload_n, zg_invokespecial, zg_invokevirtual, zg_ireturn, zg_istore_n, zg_isub, zg_pop, zg_tableswitch, zi_ld, zi_lda, zi_cmp, zi_retOk, zi_isI, zi_f3, zi_cr, zi_ci, zi_cn, zi_get, zi_set, zf_L_0, w1, w2, w3, zd_c, cM, zq_Desk_screen, zq_Mod_screen, E1 F (by omega), E2 F (by omega)]
set_option maxRecDepth 100000 in
theorem zw_1 (hn : l.length < 2 ^ 31) (s1 : l[i + 1]? = some (.int a)) (E1 : ze_E 64 A_Desk_gone [.ref 1, .int a] (zm_mk M) (some (.int r1)) (zm_mk N)) (E2 : ze_E 64 A_Mod_gone [.ref 232, .int a] (zm_mk N) (some (.int r2)) (zm_mk θ)) : zw_S l 167 (zw_L i) [] (zm_mk M) 761 (zw_L i) [] (zm_mk θ) := by
  have w1 : ∀ hp, zi_iald (some l) [] hp (nI i + 1) 0 = some (.int a) := fun hp => zw_ld (j := 1) hn s1 hp
  obtain ⟨N1, E1⟩ := E1
  obtain ⟨N2, E2⟩ := E2
  obtain ⟨lc, cM⟩ := zM_c (μ := N)
  unfold zw_L
  refine ⟨N1 + N2, 17, fun F n hF => ?_⟩
  simp [zg_0, zg_aload_n, zg_arraylength, zg_astore_n, zg_bipush, zg_dup, zg_goto, zg_iadd, zg_iaload, zg_iand, zg_iconst, zg_if_icmp, zg_iinc, zg_iload_n, zg_invokespecial, zg_invokevirtual, zg_ireturn, zg_istore_n, zg_isub, zg_pop, zg_tableswitch, zi_ld, zi_lda, zi_cmp, zi_retOk, zi_isI, zi_f3, zi_cr, zi_ci, zi_cn, zi_get, zi_set, zf_L_1, w1, zd_c, cM, zq_Desk_gone, zq_Mod_gone, E1 F (by omega), E2 F (by omega)]
set_option maxRecDepth 100000 in
theorem zw_2 (hn : l.length < 2 ^ 31) (s1 : l[i + 1]? = some (.int a)) (s2 : l[i + 2]? = some (.int b)) (s3 : l[i + 3]? = some (.int c)) (s4 : l[i + 4]? = some (.int d)) (E1 : ze_E 64 A_Desk_open [.ref 1, .int a, .int b, .int c, .int d] (zm_mk M) (some (.int r1)) (zm_mk N)) (E2 : ze_E 64 A_Mod_open [.ref 232, .int a, .int b, .int c, .int d] (zm_mk N) (some (.int r2)) (zm_mk θ)) : zw_S l 190 (zw_L i) [] (zm_mk M) 761 (zw_L i) [] (zm_mk θ) := by
  have w1 : ∀ hp, zi_iald (some l) [] hp (nI i + 1) 0 = some (.int a) := fun hp => zw_ld (j := 1) hn s1 hp
  have w2 : ∀ hp, zi_iald (some l) [] hp (nI i + 2) 0 = some (.int b) := fun hp => zw_ld (j := 2) hn s2 hp
  have w3 : ∀ hp, zi_iald (some l) [] hp (nI i + 3) 0 = some (.int c) := fun hp => zw_ld (j := 3) hn s3 hp
  have w4 : ∀ hp, zi_iald (some l) [] hp (nI i + 4) 0 = some (.int d) := fun hp => zw_ld (j := 4) hn s4 hp
  obtain ⟨N1, E1⟩ := E1
  obtain ⟨N2, E2⟩ := E2
  obtain ⟨lc, cM⟩ := zM_c (μ := N)
  unfold zw_L
  refine ⟨N1 + N2, 47, fun F n hF => ?_⟩
  simp [zg_0, zg_aload_n, zg_arraylength, zg_astore_n, zg_bipush, zg_dup, zg_goto, zg_iadd, zg_iaload, zg_iand, zg_iconst, zg_if_icmp, zg_iinc, zg_iload_n, zg_invokespecial, zg_invokevirtual, zg_ireturn, zg_istore_n, zg_isub, zg_pop, zg_tableswitch, zi_ld, zi_lda, zi_cmp, zi_retOk, zi_isI, zi_f3, zi_cr, zi_ci, zi_cn, zi_get, zi_set, zf_L_2, w1, w2, w3, w4, zd_c, cM, zq_Desk_open, zq_Mod_open, E1 F (by omega), E2 F (by omega)]
set_option maxRecDepth 100000 in
theorem zw_3 (hn : l.length < 2 ^ 31) (s1 : l[i + 1]? = some (.int a)) (E1 : ze_E 64 A_Desk_close [.ref 1, .int a] (zm_mk M) (some (.int r1)) (zm_mk N)) (E2 : ze_E 64 A_Mod_close [.ref 232, .int a] (zm_mk N) (some (.int r2)) (zm_mk θ)) : zw_S l 243 (zw_L i) [] (zm_mk M) 761 (zw_L i) [] (zm_mk θ) := by
  have w1 : ∀ hp, zi_iald (some l) [] hp (nI i + 1) 0 = some (.int a) := fun hp => zw_ld (j := 1) hn s1 hp
  obtain ⟨N1, E1⟩ := E1
  obtain ⟨N2, E2⟩ := E2
  obtain ⟨lc, cM⟩ := zM_c (μ := N)
  unfold zw_L
  refine ⟨N1 + N2, 17, fun F n hF => ?_⟩
  simp [zg_0, zg_aload_n, zg_arraylength, zg_astore_n, zg_bipush, zg_dup, zg_goto, zg_iadd, zg_iaload, zg_iand, zg_iconst, zg_if_icmp, zg_iinc, zg_iload_n, zg_invokespecial, zg_invokevirtual, zg_ireturn, zg_istore_n, zg_isub, zg_pop, zg_tableswitch, zi_ld, zi_lda, zi_cmp, zi_retOk, zi_isI, zi_f3, zi_cr, zi_ci, zi_cn, zi_get, zi_set, zf_L_3, w1, zd_c, cM, zq_Desk_close, zq_Mod_close, E1 F (by omega), E2 F (by omega)]
set_option maxRecDepth 100000 in
theorem zw_4 (hn : l.length < 2 ^ 31) (s1 : l[i + 1]? = some (.int a)) (E1 : ze_E 64 A_Desk_focus [.ref 1, .int a] (zm_mk M) (some (.int r)) (zm_mk N)) (E2 : ze_E 64 A_Mod_focus [.ref 232, .int a] (zm_mk N) (some (.int r)) (zm_mk θ)) : zw_S l 266 (zw_L i) [] (zm_mk M) 761 (zw_L i) [] (zm_mk θ) := by
  have w1 : ∀ hp, zi_iald (some l) [] hp (nI i + 1) 0 = some (.int a) := fun hp => zw_ld (j := 1) hn s1 hp
  obtain ⟨N1, E1⟩ := E1
  obtain ⟨N2, E2⟩ := E2
  obtain ⟨lc, cM⟩ := zM_c (μ := N)
  unfold zw_L
  refine ⟨N1 + N2, 15, fun F n hF => ?_⟩
  simp [zg_0, zg_aload_n, zg_arraylength, zg_astore_n, zg_bipush, zg_dup, zg_goto, zg_iadd, zg_iaload, zg_iand, zg_iconst, zg_if_icmp, zg_iinc, zg_iload_n, zg_invokespecial, zg_invokevirtual, zg_ireturn, zg_istore_n, zg_isub, zg_pop, zg_tableswitch, zi_ld, zi_lda, zi_cmp, zi_retOk, zi_isI, zi_f3, zi_cr, zi_ci, zi_cn, zi_get, zi_set, zf_L_4, w1, zd_c, cM, zq_Desk_focus, zq_Mod_focus, E1 F (by omega), E2 F (by omega)]
set_option maxRecDepth 100000 in
theorem zw_5 (hn : l.length < 2 ^ 31)  (E1 : ze_E 64 A_Desk_back [.ref 1] (zm_mk M) (some (.int r1)) (zm_mk N)) (E2 : ze_E 64 A_Mod_back [.ref 232] (zm_mk N) (some (.int r2)) (zm_mk θ)) : zw_S l 289 (zw_L i) [] (zm_mk M) 761 (zw_L i) [] (zm_mk θ) := by
  obtain ⟨N1, E1⟩ := E1
  obtain ⟨N2, E2⟩ := E2
  obtain ⟨lc, cM⟩ := zM_c (μ := N)
  unfold zw_L
  refine ⟨N1 + N2, 7, fun F n hF => ?_⟩
  simp [zg_0, zg_aload_n, zg_arraylength, zg_astore_n, zg_bipush, zg_dup, zg_goto, zg_iadd, zg_iaload, zg_iand, zg_iconst, zg_if_icmp, zg_iinc, zg_iload_n, zg_invokespecial, zg_invokevirtual, zg_ireturn, zg_istore_n, zg_isub, zg_pop, zg_tableswitch, zi_ld, zi_lda, zi_cmp, zi_retOk, zi_isI, zi_f3, zi_cr, zi_ci, zi_cn, zi_get, zi_set, zf_L_5, zd_c, cM, zq_Desk_back, zq_Mod_back, E1 F (by omega), E2 F (by omega)]
set_option maxRecDepth 100000 in
theorem zw_6 (hn : l.length < 2 ^ 31) (s1 : l[i + 1]? = some (.int a)) (E1 : ze_E 64 A_Desk_toward [.ref 1, .int a] (zm_mk M) (some (.int r1)) (zm_mk N)) (E2 : ze_E 64 A_Mod_toward [.ref 232, .int a] (zm_mk N) (some (.int r2)) (zm_mk θ)) : zw_S l 302 (zw_L i) [] (zm_mk M) 761 (zw_L i) [] (zm_mk θ) := by
  have w1 : ∀ hp, zi_iald (some l) [] hp (nI i + 1) 0 = some (.int a) := fun hp => zw_ld (j := 1) hn s1 hp
  obtain ⟨N1, E1⟩ := E1
  obtain ⟨N2, E2⟩ := E2
  obtain ⟨lc, cM⟩ := zM_c (μ := N)
  unfold zw_L
  refine ⟨N1 + N2, 17, fun F n hF => ?_⟩
  simp [zg_0, zg_aload_n, zg_arraylength, zg_astore_n, zg_bipush, zg_dup, zg_goto, zg_iadd, zg_iaload, zg_iand, zg_iconst, zg_if_icmp, zg_iinc, zg_iload_n, zg_invokespecial, zg_invokevirtual, zg_ireturn, zg_istore_n, zg_isub, zg_pop, zg_tableswitch, zi_ld, zi_lda, zi_cmp, zi_retOk, zi_isI, zi_f3, zi_cr, zi_ci, zi_cn, zi_get, zi_set, zf_L_6, w1, zd_c, cM, zq_Desk_toward, zq_Mod_toward, E1 F (by omega), E2 F (by omega)]
set_option maxRecDepth 100000 in
theorem zw_7 (hn : l.length < 2 ^ 31) (s1 : l[i + 1]? = some (.int a)) (s2 : l[i + 2]? = some (.int b)) (E1 : ze_E 64 A_Desk_steps [.ref 1, .int a, .int b] (zm_mk M) (some (.int r1)) (zm_mk N)) (E2 : ze_E 64 A_Mod_steps [.ref 232, .int a, .int b] (zm_mk N) (some (.int r2)) (zm_mk θ)) : zw_S l 325 (zw_L i) [] (zm_mk M) 761 (zw_L i) [] (zm_mk θ) := by
  have w1 : ∀ hp, zi_iald (some l) [] hp (nI i + 1) 0 = some (.int a) := fun hp => zw_ld (j := 1) hn s1 hp
  have w2 : ∀ hp, zi_iald (some l) [] hp (nI i + 2) 0 = some (.int b) := fun hp => zw_ld (j := 2) hn s2 hp
  obtain ⟨N1, E1⟩ := E1
  obtain ⟨N2, E2⟩ := E2
  obtain ⟨lc, cM⟩ := zM_c (μ := N)
  unfold zw_L
  refine ⟨N1 + N2, 27, fun F n hF => ?_⟩
  simp [zg_0, zg_aload_n, zg_arraylength, zg_astore_n, zg_bipush, zg_dup, zg_goto, zg_iadd, zg_iaload, zg_iand, zg_iconst, zg_if_icmp, zg_iinc, zg_iload_n, zg_invokespecial, zg_invokevirtual, zg_ireturn, zg_istore_n, zg_isub, zg_pop, zg_tableswitch, zi_ld, zi_lda, zi_cmp, zi_retOk, zi_isI, zi_f3, zi_cr, zi_ci, zi_cn, zi_get, zi_set, zf_L_7, w1, w2, zd_c, cM, zq_Desk_steps, zq_Mod_steps, E1 F (by omega), E2 F (by omega)]
set_option maxRecDepth 100000 in
theorem zw_8 (hn : l.length < 2 ^ 31) (s1 : l[i + 1]? = some (.int a)) (s2 : l[i + 2]? = some (.int b)) (s3 : l[i + 3]? = some (.int c)) (E1 : ze_E 64 A_Desk_drag [.ref 1, .int a, .int b, .int c] (zm_mk M) (some (.int r1)) (zm_mk N)) (E2 : ze_E 64 A_Mod_drag [.ref 232, .int a, .int b, .int c] (zm_mk N) (some (.int r2)) (zm_mk θ)) : zw_S l 358 (zw_L i) [] (zm_mk M) 761 (zw_L i) [] (zm_mk θ) := by
  have w1 : ∀ hp, zi_iald (some l) [] hp (nI i + 1) 0 = some (.int a) := fun hp => zw_ld (j := 1) hn s1 hp
  have w2 : ∀ hp, zi_iald (some l) [] hp (nI i + 2) 0 = some (.int b) := fun hp => zw_ld (j := 2) hn s2 hp
  have w3 : ∀ hp, zi_iald (some l) [] hp (nI i + 3) 0 = some (.int c) := fun hp => zw_ld (j := 3) hn s3 hp
  obtain ⟨N1, E1⟩ := E1
  obtain ⟨N2, E2⟩ := E2
  obtain ⟨lc, cM⟩ := zM_c (μ := N)
  unfold zw_L
  refine ⟨N1 + N2, 37, fun F n hF => ?_⟩
  simp [zg_0, zg_aload_n, zg_arraylength, zg_astore_n, zg_bipush, zg_dup, zg_goto, zg_iadd, zg_iaload, zg_iand, zg_iconst, zg_if_icmp, zg_iinc, zg_iload_n, zg_invokespecial, zg_invokevirtual, zg_ireturn, zg_istore_n, zg_isub, zg_pop, zg_tableswitch, zi_ld, zi_lda, zi_cmp, zi_retOk, zi_isI, zi_f3, zi_cr, zi_ci, zi_cn, zi_get, zi_set, zf_L_8, w1, w2, w3, zd_c, cM, zq_Desk_drag, zq_Mod_drag, E1 F (by omega), E2 F (by omega)]
set_option maxRecDepth 100000 in
theorem zw_9 (hn : l.length < 2 ^ 31) (s1 : l[i + 1]? = some (.int a)) (s2 : l[i + 2]? = some (.int b)) (s3 : l[i + 3]? = some (.int c)) (E1 : ze_E 64 A_Desk_move [.ref 1, .int a, .int b, .int c] (zm_mk M) (some (.int r1)) (zm_mk N)) (E2 : ze_E 64 A_Mod_move [.ref 232, .int a, .int b, .int c] (zm_mk N) (some (.int r2)) (zm_mk θ)) : zw_S l 401 (zw_L i) [] (zm_mk M) 761 (zw_L i) [] (zm_mk θ) := by
  have w1 : ∀ hp, zi_iald (some l) [] hp (nI i + 1) 0 = some (.int a) := fun hp => zw_ld (j := 1) hn s1 hp
  have w2 : ∀ hp, zi_iald (some l) [] hp (nI i + 2) 0 = some (.int b) := fun hp => zw_ld (j := 2) hn s2 hp
  have w3 : ∀ hp, zi_iald (some l) [] hp (nI i + 3) 0 = some (.int c) := fun hp => zw_ld (j := 3) hn s3 hp
  obtain ⟨N1, E1⟩ := E1
  obtain ⟨N2, E2⟩ := E2
  obtain ⟨lc, cM⟩ := zM_c (μ := N)
  unfold zw_L
  refine ⟨N1 + N2, 37, fun F n hF => ?_⟩
  simp [zg_0, zg_aload_n, zg_arraylength, zg_astore_n, zg_bipush, zg_dup, zg_goto, zg_iadd, zg_iaload, zg_iand, zg_iconst, zg_if_icmp, zg_iinc, zg_iload_n, zg_invokespecial, zg_invokevirtual, zg_ireturn, zg_istore_n, zg_isub, zg_pop, zg_tableswitch, zi_ld, zi_lda, zi_cmp, zi_retOk, zi_isI, zi_f3, zi_cr, zi_ci, zi_cn, zi_get, zi_set, zf_L_9, w1, w2, w3, zd_c, cM, zq_Desk_move, zq_Mod_move, E1 F (by omega), E2 F (by omega)]
set_option maxRecDepth 100000 in
theorem zw_10 (hn : l.length < 2 ^ 31) (s1 : l[i + 1]? = some (.int a)) (s2 : l[i + 2]? = some (.int b)) (s3 : l[i + 3]? = some (.int c)) (E1 : ze_E 64 A_Desk_share [.ref 1, .int a, .int b, .int c] (zm_mk M) (some (.int r1)) (zm_mk N)) (E2 : ze_E 64 A_Mod_share [.ref 232, .int a, .int b, .int c] (zm_mk N) (some (.int r2)) (zm_mk θ)) : zw_S l 444 (zw_L i) [] (zm_mk M) 761 (zw_L i) [] (zm_mk θ) := by
  have w1 : ∀ hp, zi_iald (some l) [] hp (nI i + 1) 0 = some (.int a) := fun hp => zw_ld (j := 1) hn s1 hp
  have w2 : ∀ hp, zi_iald (some l) [] hp (nI i + 2) 0 = some (.int b) := fun hp => zw_ld (j := 2) hn s2 hp
  have w3 : ∀ hp, zi_iald (some l) [] hp (nI i + 3) 0 = some (.int c) := fun hp => zw_ld (j := 3) hn s3 hp
  obtain ⟨N1, E1⟩ := E1
  obtain ⟨N2, E2⟩ := E2
  obtain ⟨lc, cM⟩ := zM_c (μ := N)
  unfold zw_L
  refine ⟨N1 + N2, 37, fun F n hF => ?_⟩
  simp [zg_0, zg_aload_n, zg_arraylength, zg_astore_n, zg_bipush, zg_dup, zg_goto, zg_iadd, zg_iaload, zg_iand, zg_iconst, zg_if_icmp, zg_iinc, zg_iload_n, zg_invokespecial, zg_invokevirtual, zg_ireturn, zg_istore_n, zg_isub, zg_pop, zg_tableswitch, zi_ld, zi_lda, zi_cmp, zi_retOk, zi_isI, zi_f3, zi_cr, zi_ci, zi_cn, zi_get, zi_set, zf_L_10, w1, w2, w3, zd_c, cM, zq_Desk_share, zq_Mod_share, E1 F (by omega), E2 F (by omega)]
set_option maxRecDepth 100000 in
theorem zw_11 (hn : l.length < 2 ^ 31) (s1 : l[i + 1]? = some (.int a)) (s2 : l[i + 2]? = some (.int b)) (E1 : ze_E 64 A_Desk_area [.ref 1, .int a, .int b] (zm_mk M) (some (.int r1)) (zm_mk N)) (E2 : ze_E 64 A_Mod_area [.ref 232, .int a, .int b] (zm_mk N) (some (.int r2)) (zm_mk θ)) : zw_S l 487 (zw_L i) [] (zm_mk M) 761 (zw_L i) [] (zm_mk θ) := by
  have w1 : ∀ hp, zi_iald (some l) [] hp (nI i + 1) 0 = some (.int a) := fun hp => zw_ld (j := 1) hn s1 hp
  have w2 : ∀ hp, zi_iald (some l) [] hp (nI i + 2) 0 = some (.int b) := fun hp => zw_ld (j := 2) hn s2 hp
  obtain ⟨N1, E1⟩ := E1
  obtain ⟨N2, E2⟩ := E2
  obtain ⟨lc, cM⟩ := zM_c (μ := N)
  unfold zw_L
  refine ⟨N1 + N2, 27, fun F n hF => ?_⟩
  simp [zg_0, zg_aload_n, zg_arraylength, zg_astore_n, zg_bipush, zg_dup, zg_goto, zg_iadd, zg_iaload, zg_iand, zg_iconst, zg_if_icmp, zg_iinc, zg_iload_n, zg_invokespecial, zg_invokevirtual, zg_ireturn, zg_istore_n, zg_isub, zg_pop, zg_tableswitch, zi_ld, zi_lda, zi_cmp, zi_retOk, zi_isI, zi_f3, zi_cr, zi_ci, zi_cn, zi_get, zi_set, zf_L_11, w1, w2, zd_c, cM, zq_Desk_area, zq_Mod_area, E1 F (by omega), E2 F (by omega)]
set_option maxRecDepth 100000 in
theorem zw_12 (hn : l.length < 2 ^ 31) (s1 : l[i + 1]? = some (.int a)) (s2 : l[i + 2]? = some (.int b)) (E1 : ze_E 64 A_Desk_about [.ref 1, .int a, .int b] (zm_mk M) (some (.int r1)) (zm_mk N)) (E2 : ze_E 64 A_Mod_about [.ref 232, .int a, .int b] (zm_mk N) (some (.int r2)) (zm_mk θ)) : zw_S l 520 (zw_L i) [] (zm_mk M) 761 (zw_L i) [] (zm_mk θ) := by
  have w1 : ∀ hp, zi_iald (some l) [] hp (nI i + 1) 0 = some (.int a) := fun hp => zw_ld (j := 1) hn s1 hp
  have w2 : ∀ hp, zi_iald (some l) [] hp (nI i + 2) 0 = some (.int b) := fun hp => zw_ld (j := 2) hn s2 hp
  obtain ⟨N1, E1⟩ := E1
  obtain ⟨N2, E2⟩ := E2
  obtain ⟨lc, cM⟩ := zM_c (μ := N)
  unfold zw_L
  refine ⟨N1 + N2, 27, fun F n hF => ?_⟩
  simp [zg_0, zg_aload_n, zg_arraylength, zg_astore_n, zg_bipush, zg_dup, zg_goto, zg_iadd, zg_iaload, zg_iand, zg_iconst, zg_if_icmp, zg_iinc, zg_iload_n, zg_invokespecial, zg_invokevirtual, zg_ireturn, zg_istore_n, zg_isub, zg_pop, zg_tableswitch, zi_ld, zi_lda, zi_cmp, zi_retOk, zi_isI, zi_f3, zi_cr, zi_ci, zi_cn, zi_get, zi_set, zf_L_12, w1, w2, zd_c, cM, zq_Desk_about, zq_Mod_about, E1 F (by omega), E2 F (by omega)]
set_option maxRecDepth 100000 in
theorem zw_13 (hn : l.length < 2 ^ 31) (s1 : l[i + 1]? = some (.int a)) (s2 : l[i + 2]? = some (.int b)) (E1 : ze_E 64 A_Desk_isOf [.ref 1, .int a, .int b] (zm_mk M) (some (.int r1)) (zm_mk N)) (E2 : ze_E 64 A_Mod_isOf [.ref 232, .int a, .int b] (zm_mk N) (some (.int r2)) (zm_mk θ)) : zw_S l 553 (zw_L i) [] (zm_mk M) 761 (zw_L i) [] (zm_mk θ) := by
  have w1 : ∀ hp, zi_iald (some l) [] hp (nI i + 1) 0 = some (.int a) := fun hp => zw_ld (j := 1) hn s1 hp
  have w2 : ∀ hp, zi_iald (some l) [] hp (nI i + 2) 0 = some (.int b) := fun hp => zw_ld (j := 2) hn s2 hp
  obtain ⟨N1, E1⟩ := E1
  obtain ⟨N2, E2⟩ := E2
  obtain ⟨lc, cM⟩ := zM_c (μ := N)
  unfold zw_L
  refine ⟨N1 + N2, 27, fun F n hF => ?_⟩
  simp [zg_0, zg_aload_n, zg_arraylength, zg_astore_n, zg_bipush, zg_dup, zg_goto, zg_iadd, zg_iaload, zg_iand, zg_iconst, zg_if_icmp, zg_iinc, zg_iload_n, zg_invokespecial, zg_invokevirtual, zg_ireturn, zg_istore_n, zg_isub, zg_pop, zg_tableswitch, zi_ld, zi_lda, zi_cmp, zi_retOk, zi_isI, zi_f3, zi_cr, zi_ci, zi_cn, zi_get, zi_set, zf_L_13, w1, w2, zd_c, cM, zq_Desk_isOf, zq_Mod_isOf, E1 F (by omega), E2 F (by omega)]
set_option maxRecDepth 100000 in
theorem zw_14 (hn : l.length < 2 ^ 31) (s1 : l[i + 1]? = some (.int a)) (s2 : l[i + 2]? = some (.int b)) (s3 : l[i + 3]? = some (.int c)) (E1 : ze_E 64 A_Desk_at [.ref 1, .int a, .int b, .int c] (zm_mk M) (some (.int r1)) (zm_mk N)) (E2 : ze_E 64 A_Mod_at [.ref 232, .int a, .int b, .int c] (zm_mk N) (some (.int r2)) (zm_mk θ)) : zw_S l 586 (zw_L i) [] (zm_mk M) 761 (zw_L i) [] (zm_mk θ) := by
  have w1 : ∀ hp, zi_iald (some l) [] hp (nI i + 1) 0 = some (.int a) := fun hp => zw_ld (j := 1) hn s1 hp
  have w2 : ∀ hp, zi_iald (some l) [] hp (nI i + 2) 0 = some (.int b) := fun hp => zw_ld (j := 2) hn s2 hp
  have w3 : ∀ hp, zi_iald (some l) [] hp (nI i + 3) 0 = some (.int c) := fun hp => zw_ld (j := 3) hn s3 hp
  obtain ⟨N1, E1⟩ := E1
  obtain ⟨N2, E2⟩ := E2
  obtain ⟨lc, cM⟩ := zM_c (μ := N)
  unfold zw_L
  refine ⟨N1 + N2, 37, fun F n hF => ?_⟩
  simp [zg_0, zg_aload_n, zg_arraylength, zg_astore_n, zg_bipush, zg_dup, zg_goto, zg_iadd, zg_iaload, zg_iand, zg_iconst, zg_if_icmp, zg_iinc, zg_iload_n, zg_invokespecial, zg_invokevirtual, zg_ireturn, zg_istore_n, zg_isub, zg_pop, zg_tableswitch, zi_ld, zi_lda, zi_cmp, zi_retOk, zi_isI, zi_f3, zi_cr, zi_ci, zi_cn, zi_get, zi_set, zf_L_14, w1, w2, w3, zd_c, cM, zq_Desk_at, zq_Mod_at, E1 F (by omega), E2 F (by omega)]
set_option maxRecDepth 100000 in
theorem zw_15 (hn : l.length < 2 ^ 31) (s1 : l[i + 1]? = some (.int a)) (s2 : l[i + 2]? = some (.int b)) (E1 : ze_E 64 A_Desk_neighbour [.ref 1, .int a, .int b] (zm_mk M) (some (.int r1)) (zm_mk N)) (E2 : ze_E 64 A_Mod_neighbour [.ref 232, .int a, .int b] (zm_mk N) (some (.int r2)) (zm_mk θ)) : zw_S l 629 (zw_L i) [] (zm_mk M) 761 (zw_L i) [] (zm_mk θ) := by
  have w1 : ∀ hp, zi_iald (some l) [] hp (nI i + 1) 0 = some (.int a) := fun hp => zw_ld (j := 1) hn s1 hp
  have w2 : ∀ hp, zi_iald (some l) [] hp (nI i + 2) 0 = some (.int b) := fun hp => zw_ld (j := 2) hn s2 hp
  obtain ⟨N1, E1⟩ := E1
  obtain ⟨N2, E2⟩ := E2
  obtain ⟨lc, cM⟩ := zM_c (μ := N)
  unfold zw_L
  refine ⟨N1 + N2, 27, fun F n hF => ?_⟩
  simp [zg_0, zg_aload_n, zg_arraylength, zg_astore_n, zg_bipush, zg_dup, zg_goto, zg_iadd, zg_iaload, zg_iand, zg_iconst, zg_if_icmp, zg_iinc, zg_iload_n, zg_invokespecial, zg_invokevirtual, zg_ireturn, zg_istore_n, zg_isub, zg_pop, zg_tableswitch, zi_ld, zi_lda, zi_cmp, zi_retOk, zi_isI, zi_f3, zi_cr, zi_ci, zi_cn, zi_get, zi_set, zf_L_15, w1, w2, zd_c, cM, zq_Desk_neighbour, zq_Mod_neighbour, E1 F (by omega), E2 F (by omega)]
set_option maxRecDepth 100000 in
theorem zw_16 (hn : l.length < 2 ^ 31) (s1 : l[i + 1]? = some (.int a)) (s2 : l[i + 2]? = some (.int b)) (E1 : ze_E 64 A_Desk_told [.ref 1, .int a, .int b] (zm_mk M) (some (.int r1)) (zm_mk N)) (E2 : ze_E 64 A_Mod_told [.ref 232, .int a, .int b] (zm_mk N) (some (.int r2)) (zm_mk θ)) : zw_S l 662 (zw_L i) [] (zm_mk M) 761 (zw_L i) [] (zm_mk θ) := by
  have w1 : ∀ hp, zi_iald (some l) [] hp (nI i + 1) 0 = some (.int a) := fun hp => zw_ld (j := 1) hn s1 hp
  have w2 : ∀ hp, zi_iald (some l) [] hp (nI i + 2) 0 = some (.int b) := fun hp => zw_ld (j := 2) hn s2 hp
  obtain ⟨N1, E1⟩ := E1
  obtain ⟨N2, E2⟩ := E2
  obtain ⟨lc, cM⟩ := zM_c (μ := N)
  unfold zw_L
  refine ⟨N1 + N2, 27, fun F n hF => ?_⟩
  simp [zg_0, zg_aload_n, zg_arraylength, zg_astore_n, zg_bipush, zg_dup, zg_goto, zg_iadd, zg_iaload, zg_iand, zg_iconst, zg_if_icmp, zg_iinc, zg_iload_n, zg_invokespecial, zg_invokevirtual, zg_ireturn, zg_istore_n, zg_isub, zg_pop, zg_tableswitch, zi_ld, zi_lda, zi_cmp, zi_retOk, zi_isI, zi_f3, zi_cr, zi_ci, zi_cn, zi_get, zi_set, zf_L_16, w1, w2, zd_c, cM, zq_Desk_told, zq_Mod_told, E1 F (by omega), E2 F (by omega)]
set_option maxRecDepth 100000 in
theorem zw_17 (hn : l.length < 2 ^ 31) (s1 : l[i + 1]? = some (.int a)) (s2 : l[i + 2]? = some (.int b)) (s3 : l[i + 3]? = some (.int c)) (E1 : ze_E 64 A_Desk_tab [.ref 1, .int a, .int b, .int c] (zm_mk M) (some (.int r1)) (zm_mk N)) (E2 : ze_E 64 A_Mod_tab [.ref 232, .int a, .int b, .int c] (zm_mk N) (some (.int r2)) (zm_mk θ)) : zw_S l 695 (zw_L i) [] (zm_mk M) 761 (zw_L i) [] (zm_mk θ) := by
  have w1 : ∀ hp, zi_iald (some l) [] hp (nI i + 1) 0 = some (.int a) := fun hp => zw_ld (j := 1) hn s1 hp
  have w2 : ∀ hp, zi_iald (some l) [] hp (nI i + 2) 0 = some (.int b) := fun hp => zw_ld (j := 2) hn s2 hp
  have w3 : ∀ hp, zi_iald (some l) [] hp (nI i + 3) 0 = some (.int c) := fun hp => zw_ld (j := 3) hn s3 hp
  obtain ⟨N1, E1⟩ := E1
  obtain ⟨N2, E2⟩ := E2
  obtain ⟨lc, cM⟩ := zM_c (μ := N)
  unfold zw_L
  refine ⟨N1 + N2, 37, fun F n hF => ?_⟩
  simp [zg_0, zg_aload_n, zg_arraylength, zg_astore_n, zg_bipush, zg_dup, zg_goto, zg_iadd, zg_iaload, zg_iand, zg_iconst, zg_if_icmp, zg_iinc, zg_iload_n, zg_invokespecial, zg_invokevirtual, zg_ireturn, zg_istore_n, zg_isub, zg_pop, zg_tableswitch, zi_ld, zi_lda, zi_cmp, zi_retOk, zi_isI, zi_f3, zi_cr, zi_ci, zi_cn, zi_get, zi_set, zf_L_17, w1, w2, w3, zd_c, cM, zq_Desk_tab, zq_Mod_tab, E1 F (by omega), E2 F (by omega)]
set_option maxRecDepth 100000 in
theorem zw_18 (hn : l.length < 2 ^ 31) (s1 : l[i + 1]? = some (.int a)) (E1 : ze_E 64 A_Desk_count [.ref 1, .int a] (zm_mk M) (some (.int r1)) (zm_mk N)) (E2 : ze_E 64 A_Mod_count [.ref 232, .int a] (zm_mk N) (some (.int r2)) (zm_mk θ)) : zw_S l 738 (zw_L i) [] (zm_mk M) 761 (zw_L i) [] (zm_mk θ) := by
  have w1 : ∀ hp, zi_iald (some l) [] hp (nI i + 1) 0 = some (.int a) := fun hp => zw_ld (j := 1) hn s1 hp
  obtain ⟨N1, E1⟩ := E1
  obtain ⟨N2, E2⟩ := E2
  obtain ⟨lc, cM⟩ := zM_c (μ := N)
  unfold zw_L
  refine ⟨N1 + N2, 17, fun F n hF => ?_⟩
  simp [zg_0, zg_aload_n, zg_arraylength, zg_astore_n, zg_bipush, zg_dup, zg_goto, zg_iadd, zg_iaload, zg_iand, zg_iconst, zg_if_icmp, zg_iinc, zg_iload_n, zg_invokespecial, zg_invokevirtual, zg_ireturn, zg_istore_n, zg_isub, zg_pop, zg_tableswitch, zi_ld, zi_lda, zi_cmp, zi_retOk, zi_isI, zi_f3, zi_cr, zi_ci, zi_cn, zi_get, zi_set, zf_L_18, w1, zd_c, cM, zq_Desk_count, zq_Mod_count, E1 F (by omega), E2 F (by omega)]
end ZWL2
