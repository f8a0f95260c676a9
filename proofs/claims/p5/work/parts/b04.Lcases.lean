section
/-! the law: its cases, run -/
section ZWL2
variable {l : List Value} {i : Nat} {a b c d : Int32} {M N θ : zm_M} {r r1 r2 : Int32}
set_option maxRecDepth 100000 in
theorem zw_0 (hn : l.length < 2 ^ 31) (s1 : l[i + 1]? = some (.int a)) (s2 : l[i + 2]? = some (.int b)) (s3 : l[i + 3]? = some (.int c)) (E1 : ze_E 64 A_Desk_screen [.ref 1, .int a, .int b, .int c] (zm_mk M) (some (.int r1)) (zm_mk N)) (E2 : ze_E 64 A_Mod_screen [.ref 232, .int a, .int b, .int c] (zm_mk N) (some (.int r2)) (zm_mk θ)) : zw_S l 124 (zw_L i) [] (zm_mk M) 761 (zw_L i) [] (zm_mk θ) := by
  have w1 : ∀ hp, zi_iald (some l) [] hp (nI i + 1) 0 = some (.int a) := fun hp => zw_ld (j := 1) hn s1 hp
  have w2 : ∀ hp, zi_iald (some l) [] hp (nI i + 2) 0 = some (.int b) := fun hp => zw_ld (j := 2) hn s2 hp
  have w3 : ∀ hp, zi_iald (some l) [] hp (nI i + 3) 0 = some (.int c) := fun hp => zw_ld (j := 3) hn s3 hp
  obtain ⟨N1, E1⟩ := E1
  obtain ⟨N2, E2⟩ := E2
  obtain ⟨lc, cM⟩ := zM_c (μ := N)
  unfold zw_L
  refine ⟨N1 + N2, 37, fun F n hF => ?_⟩
  simp [zg_0, zg_aload_n, zg_arraylength, zg_astore_n, zg_bipush, zg_dup, zg_goto, zg_iadd, zg_iaload, zg_iand, zg_iconst, zg_if_icmp, zg_iinc, zg_iload_n, zg_invokespecial, zg_invokevirtual, zg_ireturn, zg_istore_n, zg_isub, zg_pop, zg_tableswitch, zi_ld, zi_lda, zi_cmp, zi_retOk, zi_isI, zi_f3, zi_cr, zi_ci, zi_cn, zi_get, zi_set, zf_L_0, w1, w2, w3, zd_c, cM, zq_Desk_screen, zq_Mod_screen, E1 F (by omega), E2 F (by omega)]
set_option maxRecDepth 100000 in
theorem zw_1 (hn : l.length < 2 ^ 31) (s1 : l[i + 1]? = some (.int a)) (E1 : ze_E 64 A_Desk_gone [.ref 1, .int a] (zm_mk M) (some (.int r1)) (zm_mk N)) (E2 : ze_E 64 A_Mod_gone [.ref 232, .int a] (zm_mk N) (some (.int r2)) (zm_mk θ)) : zw_S l 167 (zw_L i) [] (zm_mk M) 761 (zw_L i) [] (zm_mk θ) := by
  have w1 : ∀ hp, zi_iald (some l) [] hp (nI i + 1) 0 = some (.int a) := fun hp => zw_ld (j := 1) hn s1 hp
  obtain ⟨N1, E1⟩ := E1
  obtain ⟨N2, E2⟩ := E2
  obtain ⟨lc, cM⟩ := zM_c (μ := N)
  unfold zw_L
  refine ⟨N1 + N2, 17, fun F n hF => ?_⟩
  simp [zg_0, zg_aload_n, zg_arraylength, zg_astore_n, zg_bipush, zg_dup, zg_goto, zg_iadd, zg_iaload, zg_iand, zg_iconst, zg_if_icmp, zg_iinc, zg_iload_n, zg_invokespecial, zg_invokevirtual, zg_ireturn, zg_istore_n, zg_isub, zg_pop, zg_tableswitch, zi_ld, zi_lda, zi_cmp, zi_retOk, zi_isI, zi_f3, zi_cr, zi_ci, zi_cn, zi_get, zi_set, zf_L_1, w1, zd_c, cM, zq_Desk_gone, zq_Mod_gone, E1 F (by omega), E2 F (by omega)]
set_option maxRecDepth 100000 in
theorem zw_2 (hn : l.length < 2 ^ 31) (s1 : l[i + 1]? = some (.int a)) (s2 : l[i + 2]? = some (.int b)) (s3 : l[i + 3]? = some (.int c)) (s4 : l[i + 4]? = some (.int d)) (E1 : ze_E 64 A_Desk_open [.ref 1, .int a, .int b, .int c, .int d] (zm_mk M) (some (.int r1)) (zm_mk N)) (E2 : ze_E 64 A_Mod_open [.ref 232, .int a, .int b, .int c, .int d] (zm_mk N) (some (.int r2)) (zm_mk θ)) : zw_S l 190 (zw_L i) [] (zm_mk M) 761 (zw_L i) [] (zm_mk θ) := by
  have w1 : ∀ hp, zi_iald (some l) [] hp (nI i + 1) 0 = some (.int a) := fun hp => zw_ld (j := 1) hn s1 hp
  have w2 : ∀ hp, zi_iald (some l) [] hp (nI i + 2) 0 = some (.int b) := fun hp => zw_ld (j := 2) hn s2 hp
  have w3 : ∀ hp, zi_iald (some l) [] hp (nI i + 3) 0 = some (.int c) := fun hp => zw_ld (j := 3) hn s3 hp
  have w4 : ∀ hp, zi_iald (some l) [] hp (nI i + 4) 0 = some (.int d) := fun hp => zw_ld (j := 4) hn s4 hp
  obtain ⟨N1, E1⟩ := E1
  obtain ⟨N2, E2⟩ := E2
  obtain ⟨lc, cM⟩ := zM_c (μ := N)
  unfold zw_L
  refine ⟨N1 + N2, 47, fun F n hF => ?_⟩
  simp [zg_0, zg_aload_n, zg_arraylength, zg_astore_n, zg_bipush, zg_dup, zg_goto, zg_iadd, zg_iaload, zg_iand, zg_iconst, zg_if_icmp, zg_iinc, zg_iload_n, zg_invokespecial, zg_invokevirtual, zg_ireturn, zg_istore_n, zg_isub, zg_pop, zg_tableswitch, zi_ld, zi_lda, zi_cmp, zi_retOk, zi_isI, zi_f3, zi_cr, zi_ci, zi_cn, zi_get, zi_set, zf_L_2, w1, w2, w3, w4, zd_c, cM, zq_Desk_open, zq_Mod_open, E1 F (by omega), E2 F (by omega)]
set_option maxRecDepth 100000 in
theorem zw_3 (hn : l.length < 2 ^ 31) (s1 : l[i + 1]? = some (.int a)) (E1 : ze_E 64 A_Desk_close [.ref 1, .int a] (zm_mk M) (some (.int r)) (zm_mk N)) (E2 : ze_E 64 A_Mod_close [.ref 232, .int a] (zm_mk N) (some (.int r)) (zm_mk θ)) : zw_S l 243 (zw_L i) [] (zm_mk M) 761 (zw_L i) [] (zm_mk θ) := by
  have w1 : ∀ hp, zi_iald (some l) [] hp (nI i + 1) 0 = some (.int a) := fun hp => zw_ld (j := 1) hn s1 hp
  obtain ⟨N1, E1⟩ := E1
  obtain ⟨N2, E2⟩ := E2
  obtain ⟨lc, cM⟩ := zM_c (μ := N)
  unfold zw_L
  refine ⟨N1 + N2, 15, fun F n hF => ?_⟩
  simp [zg_0, zg_aload_n, zg_arraylength, zg_astore_n, zg_bipush, zg_dup, zg_goto, zg_iadd, zg_iaload, zg_iand, zg_iconst, zg_if_icmp, zg_iinc, zg_iload_n, zg_invokespecial, zg_invokevirtual, zg_ireturn, zg_istore_n, zg_isub, zg_pop, zg_tableswitch, zi_ld, zi_lda, zi_cmp, zi_retOk, zi_isI, zi_f3, zi_cr, zi_ci, zi_cn, zi_get, zi_set, zf_L_3, w1, zd_c, cM, zq_Desk_close, zq_Mod_close, E1 F (by omega), E2 F (by omega)]
set_option maxRecDepth 100000 in
theorem zw_4 (hn : l.length < 2 ^ 31) (s1 : l[i + 1]? = some (.int a)) (E1 : ze_E 64 A_Desk_focus [.ref 1, .int a] (zm_mk M) (some (.int r1)) (zm_mk N)) (E2 : ze_E 64 A_Mod_focus [.ref 232, .int a] (zm_mk N) (some (.int r2)) (zm_mk θ)) : zw_S l 266 (zw_L i) [] (zm_mk M) 761 (zw_L i) [] (zm_mk θ) := by
  have w1 : ∀ hp, zi_iald (some l) [] hp (nI i + 1) 0 = some (.int a) := fun hp => zw_ld (j := 1) hn s1 hp
  obtain ⟨N1, E1⟩ := E1
  obtain ⟨N2, E2⟩ := E2
  obtain ⟨lc, cM⟩ := zM_c (μ := N)
  unfold zw_L
  refine ⟨N1 + N2, 17, fun F n hF => ?_⟩
  simp [zg_0, zg_aload_n, zg_arraylength, zg_astore_n, zg_bipush, zg_dup, zg_goto, zg_iadd, zg_iaload, zg_iand, zg_iconst, zg_if_icmp, zg_iinc, zg_iload_n, zg_invokespecial, zg_invokevirtual, zg_ireturn, zg_istore_n, zg_isub, zg_pop, zg_tableswitch, zi_ld, zi_lda, zi_cmp, zi_retOk, zi_isI, zi_f3, zi_cr, zi_ci, zi_cn, zi_get, zi_set, zf_L_4, w1, zd_c, cM, zq_Desk_focus, zq_Mod_focus, E1 F (by omega), E2 F (by omega)]
set_option maxRecDepth 100000 in
theorem zw_5 (hn : l.length < 2 ^ 31)  (E1 : ze_E 64 A_Desk_back [.ref 1] (zm_mk M) (some (.int r1)) (zm_mk N)) (E2 : ze_E 64 A_Mod_back [.ref 232] (zm_mk N) (some (.int r2)) (zm_mk θ)) : zw_S l 289 (zw_L i) [] (zm_mk M) 761 (zw_L i) [] (zm_mk θ) := by
  obtain ⟨N1, E1⟩ := E1
  obtain ⟨N2, E2⟩ := E2
  obtain ⟨lc, cM⟩ := zM_c (μ := N)
  unfold zw_L
  refine ⟨N1 + N2, 7, fun F n hF => ?_⟩
  simp [zg_0, zg_aload_n, zg_arraylength, zg_astore_n, zg_bipush, zg_dup, zg_goto, zg_iadd, zg_iaload, zg_iand, zg_iconst, zg_if_icmp, zg_iinc, zg_iload_n, zg_invokespecial, zg_invokevirtual, zg_ireturn, zg_istore_n, zg_isub, zg_pop, zg_tableswitch, zi_ld, zi_lda, zi_cmp, zi_retOk, zi_isI, zi_f3, zi_cr, zi_ci, zi_cn, zi_get, zi_set, zf_L_5, zd_c, cM, zq_Desk_back, zq_Mod_back, E1 F (by omega), E2 F (by omega)]
set_option maxRecDepth 100000 in
theorem zw_6 (hn : l.length < 2 ^ 31) (s1 : l[i + 1]? = some (.int a)) (E1 : ze_E 64 A_Desk_toward [.ref 1, .int a] (zm_mk M) (some (.int r1)) (zm_mk N)) (E2 : ze_E 64 A_Mod_toward [.ref 232, .int a] (zm_mk N) (some (.int r2)) (zm_mk θ)) : zw_S l 302 (zw_L i) [] (zm_mk M) 761 (zw_L i) [] (zm_mk θ) := by
  have w1 : ∀ hp, zi_iald (some l) [] hp (nI i + 1) 0 = some (.int a) := fun hp => zw_ld (j := 1) hn s1 hp
  obtain ⟨N1, E1⟩ := E1
  obtain ⟨N2, E2⟩ := E2
  obtain ⟨lc, cM⟩ := zM_c (μ := N)
  unfold zw_L
  refine ⟨N1 + N2, 17, fun F n hF => ?_⟩
  simp [zg_0, zg_aload_n, zg_arraylength, zg_astore_n, zg_bipush, zg_dup, zg_goto, zg_iadd, zg_iaload, zg_iand, zg_iconst, zg_if_icmp, zg_iinc, zg_iload_n, zg_invokespecial, zg_invokevirtual, zg_ireturn, zg_istore_n, zg_isub, zg_pop, zg_tableswitch, zi_ld, zi_lda, zi_cmp, zi_retOk, zi_isI, zi_f3, zi_cr, zi_ci, zi_cn, zi_get, zi_set, zf_L_6, w1, zd_c, cM, zq_Desk_toward, zq_Mod_toward, E1 F (by omega), E2 F (by omega)]
set_option maxRecDepth 100000 in
theorem zw_7 (hn : l.length < 2 ^ 31) (s1 : l[i + 1]? = some (.int a)) (s2 : l[i + 2]? = some (.int b)) (E1 : ze_E 64 A_Desk_steps [.ref 1, .int a, .int b] (zm_mk M) (some (.int r1)) (zm_mk N)) (E2 : ze_E 64 A_Mod_steps [.ref 232, .int a, .int b] (zm_mk N) (some (.int r2)) (zm_mk θ)) : zw_S l 325 (zw_L i) [] (zm_mk M) 761 (zw_L i) [] (zm_mk θ) := by
  have w1 : ∀ hp, zi_iald (some l) [] hp (nI i + 1) 0 = some (.int a) := fun hp => zw_ld (j := 1) hn s1 hp
  have w2 : ∀ hp, zi_iald (some l) [] hp (nI i + 2) 0 = some (.int b) := fun hp => zw_ld (j := 2) hn s2 hp
  obtain ⟨N1, E1⟩ := E1
  obtain ⟨N2, E2⟩ := E2
  obtain ⟨lc, cM⟩ := zM_c (μ := N)
  unfold zw_L
  refine ⟨N1 + N2, 27, fun F n hF => ?_⟩
  simp [zg_0, zg_aload_n, zg_arraylength, zg_astore_n, zg_bipush, zg_dup, zg_goto, zg_iadd, zg_iaload, zg_iand, zg_iconst, zg_if_icmp, zg_iinc, zg_iload_n, zg_invokespecial, zg_invokevirtual, zg_ireturn, zg_istore_n, zg_isub, zg_pop, zg_tableswitch, zi_ld, zi_lda, zi_cmp, zi_retOk, zi_isI, zi_f3, zi_cr, zi_ci, zi_cn, zi_get, zi_set, zf_L_7, w1, w2, zd_c, cM, zq_Desk_steps, zq_Mod_steps, E1 F (by omega), E2 F (by omega)]
set_option maxRecDepth 100000 in
theorem zw_8 (hn : l.length < 2 ^ 31) (s1 : l[i + 1]? = some (.int a)) (s2 : l[i + 2]? = some (.int b)) (s3 : l[i + 3]? = some (.int c)) (E1 : ze_E 64 A_Desk_drag [.ref 1, .int a, .int b, .int c] (zm_mk M) (some (.int r1)) (zm_mk N)) (E2 : ze_E 64 A_Mod_drag [.ref 232, .int a, .int b, .int c] (zm_mk N) (some (.int r2)) (zm_mk θ)) : zw_S l 358 (zw_L i) [] (zm_mk M) 761 (zw_L i) [] (zm_mk θ) := by
  have w1 : ∀ hp, zi_iald (some l) [] hp (nI i + 1) 0 = some (.int a) := fun hp => zw_ld (j := 1) hn s1 hp
  have w2 : ∀ hp, zi_iald (some l) [] hp (nI i + 2) 0 = some (.int b) := fun hp => zw_ld (j := 2) hn s2 hp
  have w3 : ∀ hp, zi_iald (some l) [] hp (nI i + 3) 0 = some (.int c) := fun hp => zw_ld (j := 3) hn s3 hp
  obtain ⟨N1, E1⟩ := E1
  obtain ⟨N2, E2⟩ := E2
  obtain ⟨lc, cM⟩ := zM_c (μ := N)
  unfold zw_L
  refine ⟨N1 + N2, 37, fun F n hF => ?_⟩
  simp [zg_0, zg_aload_n, zg_arraylength, zg_astore_n, zg_bipush, zg_dup, zg_goto, zg_iadd, zg_iaload, zg_iand, zg_iconst, zg_if_icmp, zg_iinc, zg_iload_n, zg_invokespecial, zg_invokevirtual, zg_ireturn, zg_istore_n, zg_isub, zg_pop, zg_tableswitch, zi_ld, zi_lda, zi_cmp, zi_retOk, zi_isI, zi_f3, zi_cr, zi_ci, zi_cn, zi_get, zi_set, zf_L_8, w1, w2, w3, zd_c, cM, zq_Desk_drag, zq_Mod_drag, E1 F (by omega), E2 F (by omega)]
set_option maxRecDepth 100000 in
theorem zw_9 (hn : l.length < 2 ^ 31) (s1 : l[i + 1]? = some (.int a)) (s2 : l[i + 2]? = some (.int b)) (s3 : l[i + 3]? = some (.int c)) (E1 : ze_E 64 A_Desk_move [.ref 1, .int a, .int b, .int c] (zm_mk M) (some (.int r1)) (zm_mk N)) (E2 : ze_E 64 A_Mod_move [.ref 232, .int a, .int b, .int c] (zm_mk N) (some (.int r2)) (zm_mk θ)) : zw_S l 401 (zw_L i) [] (zm_mk M) 761 (zw_L i) [] (zm_mk θ) := by
  have w1 : ∀ hp, zi_iald (some l) [] hp (nI i + 1) 0 = some (.int a) := fun hp => zw_ld (j := 1) hn s1 hp
  have w2 : ∀ hp, zi_iald (some l) [] hp (nI i + 2) 0 = some (.int b) := fun hp => zw_ld (j := 2) hn s2 hp
  have w3 : ∀ hp, zi_iald (some l) [] hp (nI i + 3) 0 = some (.int c) := fun hp => zw_ld (j := 3) hn s3 hp
  obtain ⟨N1, E1⟩ := E1
  obtain ⟨N2, E2⟩ := E2
  obtain ⟨lc, cM⟩ := zM_c (μ := N)
  unfold zw_L
  refine ⟨N1 + N2, 37, fun F n hF => ?_⟩
  simp [zg_0, zg_aload_n, zg_arraylength, zg_astore_n, zg_bipush, zg_dup, zg_goto, zg_iadd, zg_iaload, zg_iand, zg_iconst, zg_if_icmp, zg_iinc, zg_iload_n, zg_invokespecial, zg_invokevirtual, zg_ireturn, zg_istore_n, zg_isub, zg_pop, zg_tableswitch, zi_ld, zi_lda, zi_cmp, zi_retOk, zi_isI, zi_f3, zi_cr, zi_ci, zi_cn, zi_get, zi_set, zf_L_9, w1, w2, w3, zd_c, cM, zq_Desk_move, zq_Mod_move, E1 F (by omega), E2 F (by omega)]
set_option maxRecDepth 100000 in
theorem zw_10 (hn : l.length < 2 ^ 31) (s1 : l[i + 1]? = some (.int a)) (s2 : l[i + 2]? = some (.int b)) (s3 : l[i + 3]? = some (.int c)) (E1 : ze_E 64 A_Desk_share [.ref 1, .int a, .int b, .int c] (zm_mk M) (some (.int r1)) (zm_mk N)) (E2 : ze_E 64 A_Mod_share [.ref 232, .int a, .int b, .int c] (zm_mk N) (some (.int r2)) (zm_mk θ)) : zw_S l 444 (zw_L i) [] (zm_mk M) 761 (zw_L i) [] (zm_mk θ) := by
  have w1 : ∀ hp, zi_iald (some l) [] hp (nI i + 1) 0 = some (.int a) := fun hp => zw_ld (j := 1) hn s1 hp
  have w2 : ∀ hp, zi_iald (some l) [] hp (nI i + 2) 0 = some (.int b) := fun hp => zw_ld (j := 2) hn s2 hp
  have w3 : ∀ hp, zi_iald (some l) [] hp (nI i + 3) 0 = some (.int c) := fun hp => zw_ld (j := 3) hn s3 hp
  obtain ⟨N1, E1⟩ := E1
  obtain ⟨N2, E2⟩ := E2
  obtain ⟨lc, cM⟩ := zM_c (μ := N)
  unfold zw_L
  refine ⟨N1 + N2, 37, fun F n hF => ?_⟩
  simp [zg_0, zg_aload_n, zg_arraylength, zg_astore_n, zg_bipush, zg_dup, zg_goto, zg_iadd, zg_iaload, zg_iand, zg_iconst, zg_if_icmp, zg_iinc, zg_iload_n, zg_invokespecial, zg_invokevirtual, zg_ireturn, zg_istore_n, zg_isub, zg_pop, zg_tableswitch, zi_ld, zi_lda, zi_cmp, zi_retOk, zi_isI, zi_f3, zi_cr, zi_ci, zi_cn, zi_get, zi_set, zf_L_10, w1, w2, w3, zd_c, cM, zq_Desk_share, zq_Mod_share, E1 F (by omega), E2 F (by omega)]
set_option maxRecDepth 100000 in
theorem zw_11 (hn : l.length < 2 ^ 31) (s1 : l[i + 1]? = some (.int a)) (s2 : l[i + 2]? = some (.int b)) (E1 : ze_E 64 A_Desk_area [.ref 1, .int a, .int b] (zm_mk M) (some (.int r1)) (zm_mk N)) (E2 : ze_E 64 A_Mod_area [.ref 232, .int a, .int b] (zm_mk N) (some (.int r2)) (zm_mk θ)) : zw_S l 487 (zw_L i) [] (zm_mk M) 761 (zw_L i) [] (zm_mk θ) := by
  have w1 : ∀ hp, zi_iald (some l) [] hp (nI i + 1) 0 = some (.int a) := fun hp => zw_ld (j := 1) hn s1 hp
  have w2 : ∀ hp, zi_iald (some l) [] hp (nI i + 2) 0 = some (.int b) := fun hp => zw_ld (j := 2) hn s2 hp
  obtain ⟨N1, E1⟩ := E1
  obtain ⟨N2, E2⟩ := E2
  obtain ⟨lc, cM⟩ := zM_c (μ := N)
  unfold zw_L
  refine ⟨N1 + N2, 27, fun F n hF => ?_⟩
  simp [zg_0, zg_aload_n, zg_arraylength, zg_astore_n, zg_bipush, zg_dup, zg_goto, zg_iadd, zg_iaload, zg_iand, zg_iconst, zg_if_icmp, zg_iinc, zg_iload_n, zg_invokespecial, zg_invokevirtual, zg_ireturn, zg_istore_n, zg_isub, zg_pop, zg_tableswitch, zi_ld, zi_lda, zi_cmp, zi_retOk, zi_isI, zi_f3, zi_cr, zi_ci, zi_cn, zi_get, zi_set, zf_L_11, w1, w2, zd_c, cM, zq_Desk_area, zq_Mod_area, E1 F (by omega), E2 F (by omega)]
set_option maxRecDepth 100000 in
theorem zw_12 (hn : l.length < 2 ^ 31) (s1 : l[i + 1]? = some (.int a)) (s2 : l[i + 2]? = some (.int b)) (E1 : ze_E 64 A_Desk_about [.ref 1, .int a, .int b] (zm_mk M) (some (.int r1)) (zm_mk N)) (E2 : ze_E 64 A_Mod_about [.ref 232, .int a, .int b] (zm_mk N) (some (.int r2)) (zm_mk θ)) : zw_S l 520 (zw_L i) [] (zm_mk M) 761 (zw_L i) [] (zm_mk θ) := by
  have w1 : ∀ hp, zi_iald (some l) [] hp (nI i + 1) 0 = some (.int a) := fun hp => zw_ld (j := 1) hn s1 hp
  have w2 : ∀ hp, zi_iald (some l) [] hp (nI i + 2) 0 = some (.int b) := fun hp => zw_ld (j := 2) hn s2 hp
  obtain ⟨N1, E1⟩ := E1
  obtain ⟨N2, E2⟩ := E2
  obtain ⟨lc, cM⟩ := zM_c (μ := N)
  unfold zw_L
  refine ⟨N1 + N2, 27, fun F n hF => ?_⟩
  simp [zg_0, zg_aload_n, zg_arraylength, zg_astore_n, zg_bipush, zg_dup, zg_goto, zg_iadd, zg_iaload, zg_iand, zg_iconst, zg_if_icmp, zg_iinc, zg_iload_n, zg_invokespecial, zg_invokevirtual, zg_ireturn, zg_istore_n, zg_isub, zg_pop, zg_tableswitch, zi_ld, zi_lda, zi_cmp, zi_retOk, zi_isI, zi_f3, zi_cr, zi_ci, zi_cn, zi_get, zi_set, zf_L_12, w1, w2, zd_c, cM, zq_Desk_about, zq_Mod_about, E1 F (by omega), E2 F (by omega)]
set_option maxRecDepth 100000 in
theorem zw_13 (hn : l.length < 2 ^ 31) (s1 : l[i + 1]? = some (.int a)) (s2 : l[i + 2]? = some (.int b)) (E1 : ze_E 64 A_Desk_isOf [.ref 1, .int a, .int b] (zm_mk M) (some (.int r1)) (zm_mk N)) (E2 : ze_E 64 A_Mod_isOf [.ref 232, .int a, .int b] (zm_mk N) (some (.int r2)) (zm_mk θ)) : zw_S l 553 (zw_L i) [] (zm_mk M) 761 (zw_L i) [] (zm_mk θ) := by
  have w1 : ∀ hp, zi_iald (some l) [] hp (nI i + 1) 0 = some (.int a) := fun hp => zw_ld (j := 1) hn s1 hp
  have w2 : ∀ hp, zi_iald (some l) [] hp (nI i + 2) 0 = some (.int b) := fun hp => zw_ld (j := 2) hn s2 hp
  obtain ⟨N1, E1⟩ := E1
  obtain ⟨N2, E2⟩ := E2
  obtain ⟨lc, cM⟩ := zM_c (μ := N)
  unfold zw_L
  refine ⟨N1 + N2, 27, fun F n hF => ?_⟩
  simp [zg_0, zg_aload_n, zg_arraylength, zg_astore_n, zg_bipush, zg_dup, zg_goto, zg_iadd, zg_iaload, zg_iand, zg_iconst, zg_if_icmp, zg_iinc, zg_iload_n, zg_invokespecial, zg_invokevirtual, zg_ireturn, zg_istore_n, zg_isub, zg_pop, zg_tableswitch, zi_ld, zi_lda, zi_cmp, zi_retOk, zi_isI, zi_f3, zi_cr, zi_ci, zi_cn, zi_get, zi_set, zf_L_13, w1, w2, zd_c, cM, zq_Desk_isOf, zq_Mod_isOf, E1 F (by omega), E2 F (by omega)]
set_option maxRecDepth 100000 in
theorem zw_14 (hn : l.length < 2 ^ 31) (s1 : l[i + 1]? = some (.int a)) (s2 : l[i + 2]? = some (.int b)) (s3 : l[i + 3]? = some (.int c)) (E1 : ze_E 64 A_Desk_at [.ref 1, .int a, .int b, .int c] (zm_mk M) (some (.int r1)) (zm_mk N)) (E2 : ze_E 64 A_Mod_at [.ref 232, .int a, .int b, .int c] (zm_mk N) (some (.int r2)) (zm_mk θ)) : zw_S l 586 (zw_L i) [] (zm_mk M) 761 (zw_L i) [] (zm_mk θ) := by
  have w1 : ∀ hp, zi_iald (some l) [] hp (nI i + 1) 0 = some (.int a) := fun hp => zw_ld (j := 1) hn s1 hp
  have w2 : ∀ hp, zi_iald (some l) [] hp (nI i + 2) 0 = some (.int b) := fun hp => zw_ld (j := 2) hn s2 hp
  have w3 : ∀ hp, zi_iald (some l) [] hp (nI i + 3) 0 = some (.int c) := fun hp => zw_ld (j := 3) hn s3 hp
  obtain ⟨N1, E1⟩ := E1
  obtain ⟨N2, E2⟩ := E2
  obtain ⟨lc, cM⟩ := zM_c (μ := N)
  unfold zw_L
  refine ⟨N1 + N2, 37, fun F n hF => ?_⟩
  simp [zg_0, zg_aload_n, zg_arraylength, zg_astore_n, zg_bipush, zg_dup, zg_goto, zg_iadd, zg_iaload, zg_iand, zg_iconst, zg_if_icmp, zg_iinc, zg_iload_n, zg_invokespecial, zg_invokevirtual, zg_ireturn, zg_istore_n, zg_isub, zg_pop, zg_tableswitch, zi_ld, zi_lda, zi_cmp, zi_retOk, zi_isI, zi_f3, zi_cr, zi_ci, zi_cn, zi_get, zi_set, zf_L_14, w1, w2, w3, zd_c, cM, zq_Desk_at, zq_Mod_at, E1 F (by omega), E2 F (by omega)]
set_option maxRecDepth 100000 in
theorem zw_15 (hn : l.length < 2 ^ 31) (s1 : l[i + 1]? = some (.int a)) (s2 : l[i + 2]? = some (.int b)) (E1 : ze_E 64 A_Desk_neighbour [.ref 1, .int a, .int b] (zm_mk M) (some (.int r1)) (zm_mk N)) (E2 : ze_E 64 A_Mod_neighbour [.ref 232, .int a, .int b] (zm_mk N) (some (.int r2)) (zm_mk θ)) : zw_S l 629 (zw_L i) [] (zm_mk M) 761 (zw_L i) [] (zm_mk θ) := by
  have w1 : ∀ hp, zi_iald (some l) [] hp (nI i + 1) 0 = some (.int a) := fun hp => zw_ld (j := 1) hn s1 hp
  have w2 : ∀ hp, zi_iald (some l) [] hp (nI i + 2) 0 = some (.int b) := fun hp => zw_ld (j := 2) hn s2 hp
  obtain ⟨N1, E1⟩ := E1
  obtain ⟨N2, E2⟩ := E2
  obtain ⟨lc, cM⟩ := zM_c (μ := N)
  unfold zw_L
  refine ⟨N1 + N2, 27, fun F n hF => ?_⟩
  simp [zg_0, zg_aload_n, zg_arraylength, zg_astore_n, zg_bipush, zg_dup, zg_goto, zg_iadd, zg_iaload, zg_iand, zg_iconst, zg_if_icmp, zg_iinc, zg_iload_n, zg_invokespecial, zg_invokevirtual, zg_ireturn, zg_istore_n, zg_isub, zg_pop, zg_tableswitch, zi_ld, zi_lda, zi_cmp, zi_retOk, zi_isI, zi_f3, zi_cr, zi_ci, zi_cn, zi_get, zi_set, zf_L_15, w1, w2, zd_c, cM, zq_Desk_neighbour, zq_Mod_neighbour, E1 F (by omega), E2 F (by omega)]
set_option maxRecDepth 100000 in
theorem zw_16 (hn : l.length < 2 ^ 31) (s1 : l[i + 1]? = some (.int a)) (s2 : l[i + 2]? = some (.int b)) (E1 : ze_E 64 A_Desk_told [.ref 1, .int a, .int b] (zm_mk M) (some (.int r1)) (zm_mk N)) (E2 : ze_E 64 A_Mod_told [.ref 232, .int a, .int b] (zm_mk N) (some (.int r2)) (zm_mk θ)) : zw_S l 662 (zw_L i) [] (zm_mk M) 761 (zw_L i) [] (zm_mk θ) := by
  have w1 : ∀ hp, zi_iald (some l) [] hp (nI i + 1) 0 = some (.int a) := fun hp => zw_ld (j := 1) hn s1 hp
  have w2 : ∀ hp, zi_iald (some l) [] hp (nI i + 2) 0 = some (.int b) := fun hp => zw_ld (j := 2) hn s2 hp
  obtain ⟨N1, E1⟩ := E1
  obtain ⟨N2, E2⟩ := E2
  obtain ⟨lc, cM⟩ := zM_c (μ := N)
  unfold zw_L
  refine ⟨N1 + N2, 27, fun F n hF => ?_⟩
  simp [zg_0, zg_aload_n, zg_arraylength, zg_astore_n, zg_bipush, zg_dup, zg_goto, zg_iadd, zg_iaload, zg_iand, zg_iconst, zg_if_icmp, zg_iinc, zg_iload_n, zg_invokespecial, zg_invokevirtual, zg_ireturn, zg_istore_n, zg_isub, zg_pop, zg_tableswitch, zi_ld, zi_lda, zi_cmp, zi_retOk, zi_isI, zi_f3, zi_cr, zi_ci, zi_cn, zi_get, zi_set, zf_L_16, w1, w2, zd_c, cM, zq_Desk_told, zq_Mod_told, E1 F (by omega), E2 F (by omega)]
set_option maxRecDepth 100000 in
theorem zw_17 (hn : l.length < 2 ^ 31) (s1 : l[i + 1]? = some (.int a)) (s2 : l[i + 2]? = some (.int b)) (s3 : l[i + 3]? = some (.int c)) (E1 : ze_E 64 A_Desk_tab [.ref 1, .int a, .int b, .int c] (zm_mk M) (some (.int r1)) (zm_mk N)) (E2 : ze_E 64 A_Mod_tab [.ref 232, .int a, .int b, .int c] (zm_mk N) (some (.int r2)) (zm_mk θ)) : zw_S l 695 (zw_L i) [] (zm_mk M) 761 (zw_L i) [] (zm_mk θ) := by
  have w1 : ∀ hp, zi_iald (some l) [] hp (nI i + 1) 0 = some (.int a) := fun hp => zw_ld (j := 1) hn s1 hp
  have w2 : ∀ hp, zi_iald (some l) [] hp (nI i + 2) 0 = some (.int b) := fun hp => zw_ld (j := 2) hn s2 hp
  have w3 : ∀ hp, zi_iald (some l) [] hp (nI i + 3) 0 = some (.int c) := fun hp => zw_ld (j := 3) hn s3 hp
  obtain ⟨N1, E1⟩ := E1
  obtain ⟨N2, E2⟩ := E2
  obtain ⟨lc, cM⟩ := zM_c (μ := N)
  unfold zw_L
  refine ⟨N1 + N2, 37, fun F n hF => ?_⟩
  simp [zg_0, zg_aload_n, zg_arraylength, zg_astore_n, zg_bipush, zg_dup, zg_goto, zg_iadd, zg_iaload, zg_iand, zg_iconst, zg_if_icmp, zg_iinc, zg_iload_n, zg_invokespecial, zg_invokevirtual, zg_ireturn, zg_istore_n, zg_isub, zg_pop, zg_tableswitch, zi_ld, zi_lda, zi_cmp, zi_retOk, zi_isI, zi_f3, zi_cr, zi_ci, zi_cn, zi_get, zi_set, zf_L_17, w1, w2, w3, zd_c, cM, zq_Desk_tab, zq_Mod_tab, E1 F (by omega), E2 F (by omega)]
set_option maxRecDepth 100000 in
theorem zw_18 (hn : l.length < 2 ^ 31) (s1 : l[i + 1]? = some (.int a)) (E1 : ze_E 64 A_Desk_count [.ref 1, .int a] (zm_mk M) (some (.int r1)) (zm_mk N)) (E2 : ze_E 64 A_Mod_count [.ref 232, .int a] (zm_mk N) (some (.int r2)) (zm_mk θ)) : zw_S l 738 (zw_L i) [] (zm_mk M) 761 (zw_L i) [] (zm_mk θ) := by
  have w1 : ∀ hp, zi_iald (some l) [] hp (nI i + 1) 0 = some (.int a) := fun hp => zw_ld (j := 1) hn s1 hp
  obtain ⟨N1, E1⟩ := E1
  obtain ⟨N2, E2⟩ := E2
  obtain ⟨lc, cM⟩ := zM_c (μ := N)
  unfold zw_L
  refine ⟨N1 + N2, 17, fun F n hF => ?_⟩
  simp [zg_0, zg_aload_n, zg_arraylength, zg_astore_n, zg_bipush, zg_dup, zg_goto, zg_iadd, zg_iaload, zg_iand, zg_iconst, zg_if_icmp, zg_iinc, zg_iload_n, zg_invokespecial, zg_invokevirtual, zg_ireturn, zg_istore_n, zg_isub, zg_pop, zg_tableswitch, zi_ld, zi_lda, zi_cmp, zi_retOk, zi_isI, zi_f3, zi_cr, zi_ci, zi_cn, zi_get, zi_set, zf_L_18, w1, zd_c, cM, zq_Desk_count, zq_Mod_count, E1 F (by omega), E2 F (by omega)]
end ZWL2
end
section
/-! the law: its loop -/
section ZWM
variable {l : List Value} {i : Nat} {a : Int32} {M N θ : zm_M}
theorem zw_cmp {n : Nat} (hn : n < 2 ^ 31) (hi : i < 2 ^ 31) : Int32.ofNat n - 5 < nI i ↔ n < i + 5 := by
  have e1 : (Int32.ofNat n).toInt = (n : Int) := nI_toInt hn
  have e2 : (5 : Int32).toInt = 5 := by decide
  rw [Int32.lt_iff_toInt_lt, nI_toInt hi, Int32.toInt_sub, e1, e2]
  have e3 : ((n : Int) - 5).bmod (2 ^ 32) = (n : Int) - 5 := by
    rw [Int.bmod_def]
    split <;> omega
  rw [e3]
  omega
set_option maxRecDepth 100000 in
theorem zw_hd (hn : l.length < 2 ^ 31) (hi : i + 5 ≤ l.length) (s0 : l[i]? = some (.int a)) (h : zi_Hp) : zw_S l 18 (zw_L i) [] h 32 (zw_L i) [.int (a &&& 31)] h := by
  have i1 : zi_in (nI i) l.length = true := zm_in (by omega) (by omega)
  have c1 : (nI i).toNatClampNeg = i := nI_clamp (by omega)
  have w0 : ∀ hp, zi_iald (some l) [] hp (nI i) 0 = some (.int a) := fun hp => by simp [zi_iald, i1, c1, s0]
  have hc : ¬ (Int32.ofNat l.length - 5 < nI i) := fun z => by have := (zw_cmp hn (by omega)).mp z; omega
  have h31 : (Int8.ofInt 31).toInt32 = (31 : Int32) := by decide
  unfold zw_L
  refine ⟨0, 11, fun F n hF => ?_⟩
  simp [zg_0, zg_aload_n, zg_arraylength, zg_astore_n, zg_bipush, zg_dup, zg_goto, zg_iadd, zg_iaload, zg_iand, zg_iconst, zg_if_icmp, zg_iinc, zg_iload_n, zg_invokespecial, zg_invokevirtual, zg_ireturn, zg_istore_n, zg_isub, zg_pop, zg_tableswitch, zi_ld, zi_lda, zi_cmp, zi_retOk, zi_isI, zi_f3, zi_cr, zi_ci, zi_cn, zi_get, zi_set, zf_L_h, zi_alen, hc, w0, h31]
set_option maxRecDepth 100000 in
theorem zw_fin (hn : l.length < 2 ^ 31) (hi : l.length < i + 5) (hi2 : i < 2 ^ 31) (h : zi_Hp) : ∀ F n, zi_go zi_ms (some l) 4 (some .boolean) zc_L 600000 7302250 (zi_run zi_ms F 64) (n + 8) 18 (zw_L i) [] h [] 442 12042 = some [([], some (.int 1), h)] := by
  have hc : Int32.ofNat l.length - 5 < nI i := (zw_cmp hn hi2).mpr hi
  intro F n
  unfold zw_L
  simp [zg_0, zg_aload_n, zg_arraylength, zg_astore_n, zg_bipush, zg_dup, zg_goto, zg_iadd, zg_iaload, zg_iand, zg_iconst, zg_if_icmp, zg_iinc, zg_iload_n, zg_invokespecial, zg_invokevirtual, zg_ireturn, zg_istore_n, zg_isub, zg_pop, zg_tableswitch, zi_ld, zi_lda, zi_cmp, zi_retOk, zi_isI, zi_f3, zi_cr, zi_ci, zi_cn, zi_get, zi_set, zf_L_h, zi_alen, hc]
set_option maxRecDepth 100000 in
theorem zw_tl (hi : i + 5 < 2 ^ 31) (h : zi_Hp) : zw_S l 761 (zw_L i) [] h 18 (zw_L (i + 5)) [] h := by
  have e5 : nI i + 5 = nI (i + 5) := by rw [show (5 : Int32) = nI 5 by decide, nI_add]
  unfold zw_L
  refine ⟨0, 2, fun F n hF => ?_⟩
  simp [zg_0, zg_aload_n, zg_arraylength, zg_astore_n, zg_bipush, zg_dup, zg_goto, zg_iadd, zg_iaload, zg_iand, zg_iconst, zg_if_icmp, zg_iinc, zg_iload_n, zg_invokespecial, zg_invokevirtual, zg_ireturn, zg_istore_n, zg_isub, zg_pop, zg_tableswitch, zi_ld, zi_lda, zi_cmp, zi_retOk, zi_isI, zi_f3, zi_cr, zi_ci, zi_cn, zi_get, zi_set, zf_L_h, e5]
set_option maxRecDepth 100000 in
theorem zw_s0 (h : zi_Hp) : zw_S l 32 (zw_L i) [.int (nI 0)] h 124 (zw_L i) [] h := by
  have e : (nI 0).toInt = 0 := by decide
  refine ⟨0, 1, fun F n hF => ?_⟩
  simp [zg_0, zg_aload_n, zg_arraylength, zg_astore_n, zg_bipush, zg_dup, zg_goto, zg_iadd, zg_iaload, zg_iand, zg_iconst, zg_if_icmp, zg_iinc, zg_iload_n, zg_invokespecial, zg_invokevirtual, zg_ireturn, zg_istore_n, zg_isub, zg_pop, zg_tableswitch, zf_L_h, e]
set_option maxRecDepth 100000 in
theorem zw_s1 (h : zi_Hp) : zw_S l 32 (zw_L i) [.int (nI 1)] h 167 (zw_L i) [] h := by
  have e : (nI 1).toInt = 1 := by decide
  refine ⟨0, 1, fun F n hF => ?_⟩
  simp [zg_0, zg_aload_n, zg_arraylength, zg_astore_n, zg_bipush, zg_dup, zg_goto, zg_iadd, zg_iaload, zg_iand, zg_iconst, zg_if_icmp, zg_iinc, zg_iload_n, zg_invokespecial, zg_invokevirtual, zg_ireturn, zg_istore_n, zg_isub, zg_pop, zg_tableswitch, zf_L_h, e]
set_option maxRecDepth 100000 in
theorem zw_s2 (h : zi_Hp) : zw_S l 32 (zw_L i) [.int (nI 2)] h 190 (zw_L i) [] h := by
  have e : (nI 2).toInt = 2 := by decide
  refine ⟨0, 1, fun F n hF => ?_⟩
  simp [zg_0, zg_aload_n, zg_arraylength, zg_astore_n, zg_bipush, zg_dup, zg_goto, zg_iadd, zg_iaload, zg_iand, zg_iconst, zg_if_icmp, zg_iinc, zg_iload_n, zg_invokespecial, zg_invokevirtual, zg_ireturn, zg_istore_n, zg_isub, zg_pop, zg_tableswitch, zf_L_h, e]
set_option maxRecDepth 100000 in
theorem zw_s3 (h : zi_Hp) : zw_S l 32 (zw_L i) [.int (nI 3)] h 243 (zw_L i) [] h := by
  have e : (nI 3).toInt = 3 := by decide
  refine ⟨0, 1, fun F n hF => ?_⟩
  simp [zg_0, zg_aload_n, zg_arraylength, zg_astore_n, zg_bipush, zg_dup, zg_goto, zg_iadd, zg_iaload, zg_iand, zg_iconst, zg_if_icmp, zg_iinc, zg_iload_n, zg_invokespecial, zg_invokevirtual, zg_ireturn, zg_istore_n, zg_isub, zg_pop, zg_tableswitch, zf_L_h, e]
set_option maxRecDepth 100000 in
theorem zw_s4 (h : zi_Hp) : zw_S l 32 (zw_L i) [.int (nI 4)] h 266 (zw_L i) [] h := by
  have e : (nI 4).toInt = 4 := by decide
  refine ⟨0, 1, fun F n hF => ?_⟩
  simp [zg_0, zg_aload_n, zg_arraylength, zg_astore_n, zg_bipush, zg_dup, zg_goto, zg_iadd, zg_iaload, zg_iand, zg_iconst, zg_if_icmp, zg_iinc, zg_iload_n, zg_invokespecial, zg_invokevirtual, zg_ireturn, zg_istore_n, zg_isub, zg_pop, zg_tableswitch, zf_L_h, e]
set_option maxRecDepth 100000 in
theorem zw_s5 (h : zi_Hp) : zw_S l 32 (zw_L i) [.int (nI 5)] h 289 (zw_L i) [] h := by
  have e : (nI 5).toInt = 5 := by decide
  refine ⟨0, 1, fun F n hF => ?_⟩
  simp [zg_0, zg_aload_n, zg_arraylength, zg_astore_n, zg_bipush, zg_dup, zg_goto, zg_iadd, zg_iaload, zg_iand, zg_iconst, zg_if_icmp, zg_iinc, zg_iload_n, zg_invokespecial, zg_invokevirtual, zg_ireturn, zg_istore_n, zg_isub, zg_pop, zg_tableswitch, zf_L_h, e]
set_option maxRecDepth 100000 in
theorem zw_s6 (h : zi_Hp) : zw_S l 32 (zw_L i) [.int (nI 6)] h 302 (zw_L i) [] h := by
  have e : (nI 6).toInt = 6 := by decide
  refine ⟨0, 1, fun F n hF => ?_⟩
  simp [zg_0, zg_aload_n, zg_arraylength, zg_astore_n, zg_bipush, zg_dup, zg_goto, zg_iadd, zg_iaload, zg_iand, zg_iconst, zg_if_icmp, zg_iinc, zg_iload_n, zg_invokespecial, zg_invokevirtual, zg_ireturn, zg_istore_n, zg_isub, zg_pop, zg_tableswitch, zf_L_h, e]
set_option maxRecDepth 100000 in
theorem zw_s7 (h : zi_Hp) : zw_S l 32 (zw_L i) [.int (nI 7)] h 325 (zw_L i) [] h := by
  have e : (nI 7).toInt = 7 := by decide
  refine ⟨0, 1, fun F n hF => ?_⟩
  simp [zg_0, zg_aload_n, zg_arraylength, zg_astore_n, zg_bipush, zg_dup, zg_goto, zg_iadd, zg_iaload, zg_iand, zg_iconst, zg_if_icmp, zg_iinc, zg_iload_n, zg_invokespecial, zg_invokevirtual, zg_ireturn, zg_istore_n, zg_isub, zg_pop, zg_tableswitch, zf_L_h, e]
set_option maxRecDepth 100000 in
theorem zw_s8 (h : zi_Hp) : zw_S l 32 (zw_L i) [.int (nI 8)] h 358 (zw_L i) [] h := by
  have e : (nI 8).toInt = 8 := by decide
  refine ⟨0, 1, fun F n hF => ?_⟩
  simp [zg_0, zg_aload_n, zg_arraylength, zg_astore_n, zg_bipush, zg_dup, zg_goto, zg_iadd, zg_iaload, zg_iand, zg_iconst, zg_if_icmp, zg_iinc, zg_iload_n, zg_invokespecial, zg_invokevirtual, zg_ireturn, zg_istore_n, zg_isub, zg_pop, zg_tableswitch, zf_L_h, e]
set_option maxRecDepth 100000 in
theorem zw_s9 (h : zi_Hp) : zw_S l 32 (zw_L i) [.int (nI 9)] h 401 (zw_L i) [] h := by
  have e : (nI 9).toInt = 9 := by decide
  refine ⟨0, 1, fun F n hF => ?_⟩
  simp [zg_0, zg_aload_n, zg_arraylength, zg_astore_n, zg_bipush, zg_dup, zg_goto, zg_iadd, zg_iaload, zg_iand, zg_iconst, zg_if_icmp, zg_iinc, zg_iload_n, zg_invokespecial, zg_invokevirtual, zg_ireturn, zg_istore_n, zg_isub, zg_pop, zg_tableswitch, zf_L_h, e]
set_option maxRecDepth 100000 in
theorem zw_s10 (h : zi_Hp) : zw_S l 32 (zw_L i) [.int (nI 10)] h 444 (zw_L i) [] h := by
  have e : (nI 10).toInt = 10 := by decide
  refine ⟨0, 1, fun F n hF => ?_⟩
  simp [zg_0, zg_aload_n, zg_arraylength, zg_astore_n, zg_bipush, zg_dup, zg_goto, zg_iadd, zg_iaload, zg_iand, zg_iconst, zg_if_icmp, zg_iinc, zg_iload_n, zg_invokespecial, zg_invokevirtual, zg_ireturn, zg_istore_n, zg_isub, zg_pop, zg_tableswitch, zf_L_h, e]
set_option maxRecDepth 100000 in
theorem zw_s11 (h : zi_Hp) : zw_S l 32 (zw_L i) [.int (nI 11)] h 487 (zw_L i) [] h := by
  have e : (nI 11).toInt = 11 := by decide
  refine ⟨0, 1, fun F n hF => ?_⟩
  simp [zg_0, zg_aload_n, zg_arraylength, zg_astore_n, zg_bipush, zg_dup, zg_goto, zg_iadd, zg_iaload, zg_iand, zg_iconst, zg_if_icmp, zg_iinc, zg_iload_n, zg_invokespecial, zg_invokevirtual, zg_ireturn, zg_istore_n, zg_isub, zg_pop, zg_tableswitch, zf_L_h, e]
set_option maxRecDepth 100000 in
theorem zw_s12 (h : zi_Hp) : zw_S l 32 (zw_L i) [.int (nI 12)] h 520 (zw_L i) [] h := by
  have e : (nI 12).toInt = 12 := by decide
  refine ⟨0, 1, fun F n hF => ?_⟩
  simp [zg_0, zg_aload_n, zg_arraylength, zg_astore_n, zg_bipush, zg_dup, zg_goto, zg_iadd, zg_iaload, zg_iand, zg_iconst, zg_if_icmp, zg_iinc, zg_iload_n, zg_invokespecial, zg_invokevirtual, zg_ireturn, zg_istore_n, zg_isub, zg_pop, zg_tableswitch, zf_L_h, e]
set_option maxRecDepth 100000 in
theorem zw_s13 (h : zi_Hp) : zw_S l 32 (zw_L i) [.int (nI 13)] h 553 (zw_L i) [] h := by
  have e : (nI 13).toInt = 13 := by decide
  refine ⟨0, 1, fun F n hF => ?_⟩
  simp [zg_0, zg_aload_n, zg_arraylength, zg_astore_n, zg_bipush, zg_dup, zg_goto, zg_iadd, zg_iaload, zg_iand, zg_iconst, zg_if_icmp, zg_iinc, zg_iload_n, zg_invokespecial, zg_invokevirtual, zg_ireturn, zg_istore_n, zg_isub, zg_pop, zg_tableswitch, zf_L_h, e]
set_option maxRecDepth 100000 in
theorem zw_s14 (h : zi_Hp) : zw_S l 32 (zw_L i) [.int (nI 14)] h 586 (zw_L i) [] h := by
  have e : (nI 14).toInt = 14 := by decide
  refine ⟨0, 1, fun F n hF => ?_⟩
  simp [zg_0, zg_aload_n, zg_arraylength, zg_astore_n, zg_bipush, zg_dup, zg_goto, zg_iadd, zg_iaload, zg_iand, zg_iconst, zg_if_icmp, zg_iinc, zg_iload_n, zg_invokespecial, zg_invokevirtual, zg_ireturn, zg_istore_n, zg_isub, zg_pop, zg_tableswitch, zf_L_h, e]
set_option maxRecDepth 100000 in
theorem zw_s15 (h : zi_Hp) : zw_S l 32 (zw_L i) [.int (nI 15)] h 629 (zw_L i) [] h := by
  have e : (nI 15).toInt = 15 := by decide
  refine ⟨0, 1, fun F n hF => ?_⟩
  simp [zg_0, zg_aload_n, zg_arraylength, zg_astore_n, zg_bipush, zg_dup, zg_goto, zg_iadd, zg_iaload, zg_iand, zg_iconst, zg_if_icmp, zg_iinc, zg_iload_n, zg_invokespecial, zg_invokevirtual, zg_ireturn, zg_istore_n, zg_isub, zg_pop, zg_tableswitch, zf_L_h, e]
set_option maxRecDepth 100000 in
theorem zw_s16 (h : zi_Hp) : zw_S l 32 (zw_L i) [.int (nI 16)] h 662 (zw_L i) [] h := by
  have e : (nI 16).toInt = 16 := by decide
  refine ⟨0, 1, fun F n hF => ?_⟩
  simp [zg_0, zg_aload_n, zg_arraylength, zg_astore_n, zg_bipush, zg_dup, zg_goto, zg_iadd, zg_iaload, zg_iand, zg_iconst, zg_if_icmp, zg_iinc, zg_iload_n, zg_invokespecial, zg_invokevirtual, zg_ireturn, zg_istore_n, zg_isub, zg_pop, zg_tableswitch, zf_L_h, e]
set_option maxRecDepth 100000 in
theorem zw_s17 (h : zi_Hp) : zw_S l 32 (zw_L i) [.int (nI 17)] h 695 (zw_L i) [] h := by
  have e : (nI 17).toInt = 17 := by decide
  refine ⟨0, 1, fun F n hF => ?_⟩
  simp [zg_0, zg_aload_n, zg_arraylength, zg_astore_n, zg_bipush, zg_dup, zg_goto, zg_iadd, zg_iaload, zg_iand, zg_iconst, zg_if_icmp, zg_iinc, zg_iload_n, zg_invokespecial, zg_invokevirtual, zg_ireturn, zg_istore_n, zg_isub, zg_pop, zg_tableswitch, zf_L_h, e]
set_option maxRecDepth 100000 in
theorem zw_s18 (h : zi_Hp) : zw_S l 32 (zw_L i) [.int (nI 18)] h 738 (zw_L i) [] h := by
  have e : (nI 18).toInt = 18 := by decide
  refine ⟨0, 1, fun F n hF => ?_⟩
  simp [zg_0, zg_aload_n, zg_arraylength, zg_astore_n, zg_bipush, zg_dup, zg_goto, zg_iadd, zg_iaload, zg_iand, zg_iconst, zg_if_icmp, zg_iinc, zg_iload_n, zg_invokespecial, zg_invokevirtual, zg_ireturn, zg_istore_n, zg_isub, zg_pop, zg_tableswitch, zf_L_h, e]
set_option maxRecDepth 100000 in
theorem zw_sd {j : Nat} (hj : 19 ≤ j) (hj2 : j < 32) (h : zi_Hp) : zw_S l 32 (zw_L i) [.int (nI j)] h 761 (zw_L i) [] h := by
  have e : (nI j).toInt = (j : Int) := nI_toInt (by omega)
  have c : (j : Int) < 0 ∨ 18 < (j : Int) := by omega
  refine ⟨0, 1, fun F n hF => ?_⟩
  simp [zg_0, zg_aload_n, zg_arraylength, zg_astore_n, zg_bipush, zg_dup, zg_goto, zg_iadd, zg_iaload, zg_iand, zg_iconst, zg_if_icmp, zg_iinc, zg_iload_n, zg_invokespecial, zg_invokevirtual, zg_ireturn, zg_istore_n, zg_isub, zg_pop, zg_tableswitch, zf_L_h, e, c]
/-- one round -/
theorem zw_one (hn : l.length < 2 ^ 31) (hl : ∀ j, j < l.length → ∃ x, l[j]? = some (.int x)) (hi : i + 5 ≤ l.length) (hW : zW M) : ∃ θ, zW θ ∧ zw_S l 18 (zw_L i) [] (zm_mk M) 18 (zw_L (i + 5)) [] (zm_mk θ) := by
  obtain ⟨a0, s0⟩ := hl i (by omega)
  obtain ⟨a1, s1⟩ := hl (i + 1) (by omega)
  obtain ⟨a2, s2⟩ := hl (i + 2) (by omega)
  obtain ⟨a3, s3⟩ := hl (i + 3) (by omega)
  obtain ⟨a4, s4⟩ := hl (i + 4) (by omega)
  obtain ⟨j, hj, ej⟩ := pk_andE a0 (m := 31) 5 (by decide)
  have hj : j < 32 := hj
  have H := zw_hd hn hi s0 (zm_mk M)
  rw [ej] at H
  have tl : ∀ h, zw_S l 761 (zw_L i) [] h 18 (zw_L (i + 5)) [] h := fun h => zw_tl (by omega) h
  have key : ∃ θ, zW θ ∧ zw_S l 32 (zw_L i) [.int (nI j)] (zm_mk M) 761 (zw_L i) [] (zm_mk θ) := by
    by_cases c : 19 ≤ j
    · exact ⟨M, hW, zw_sd c hj _⟩
    · have c' : j < 19 := by omega
      match j, c' with
      | 0, _ =>
        obtain ⟨N, θ, r1, r2, E1, E2, q⟩ := zW_screen hW a1 a2 a3
        exact ⟨θ, q, (zw_s0 _).trans (zw_0 hn s1 s2 s3 E1 E2)⟩
      | 1, _ =>
        obtain ⟨N, θ, r1, r2, E1, E2, q⟩ := zW_gone hW a1
        exact ⟨θ, q, (zw_s1 _).trans (zw_1 hn s1 E1 E2)⟩
      | 2, _ =>
        obtain ⟨N, θ, r1, r2, E1, E2, q⟩ := zW_open hW a1 a2 a3 a4
        exact ⟨θ, q, (zw_s2 _).trans (zw_2 hn s1 s2 s3 s4 E1 E2)⟩
      | 3, _ =>
        obtain ⟨N, θ, r, E1, E2, q⟩ := zW_close_e hW a1
        exact ⟨θ, q, (zw_s3 _).trans (zw_3 hn s1 E1 E2)⟩
      | 4, _ =>
        obtain ⟨N, θ, r1, r2, E1, E2, q⟩ := zW_focus hW a1
        exact ⟨θ, q, (zw_s4 _).trans (zw_4 hn s1 E1 E2)⟩
      | 5, _ =>
        obtain ⟨N, θ, r1, r2, E1, E2, q⟩ := zW_back hW 
        exact ⟨θ, q, (zw_s5 _).trans (zw_5 hn  E1 E2)⟩
      | 6, _ =>
        obtain ⟨N, θ, r1, r2, E1, E2, q⟩ := zW_toward hW a1
        exact ⟨θ, q, (zw_s6 _).trans (zw_6 hn s1 E1 E2)⟩
      | 7, _ =>
        obtain ⟨N, θ, r1, r2, E1, E2, q⟩ := zW_steps hW a1 a2
        exact ⟨θ, q, (zw_s7 _).trans (zw_7 hn s1 s2 E1 E2)⟩
      | 8, _ =>
        obtain ⟨N, θ, r1, r2, E1, E2, q⟩ := zW_drag hW a1 a2 a3
        exact ⟨θ, q, (zw_s8 _).trans (zw_8 hn s1 s2 s3 E1 E2)⟩
      | 9, _ =>
        obtain ⟨N, θ, r1, r2, E1, E2, q⟩ := zW_move hW a1 a2 a3
        exact ⟨θ, q, (zw_s9 _).trans (zw_9 hn s1 s2 s3 E1 E2)⟩
      | 10, _ =>
        obtain ⟨N, θ, r1, r2, E1, E2, q⟩ := zW_share hW a1 a2 a3
        exact ⟨θ, q, (zw_s10 _).trans (zw_10 hn s1 s2 s3 E1 E2)⟩
      | 11, _ =>
        obtain ⟨N, θ, r1, r2, E1, E2, q⟩ := zW_area hW a1 a2
        exact ⟨θ, q, (zw_s11 _).trans (zw_11 hn s1 s2 E1 E2)⟩
      | 12, _ =>
        obtain ⟨N, θ, r1, r2, E1, E2, q⟩ := zW_about hW a1 a2
        exact ⟨θ, q, (zw_s12 _).trans (zw_12 hn s1 s2 E1 E2)⟩
      | 13, _ =>
        obtain ⟨N, θ, r1, r2, E1, E2, q⟩ := zW_isOf_c hW a1 a2
        exact ⟨θ, q, (zw_s13 _).trans (zw_13 hn s1 s2 E1 E2)⟩
      | 14, _ =>
        obtain ⟨N, θ, r1, r2, E1, E2, q⟩ := zW_at hW a1 a2 a3
        exact ⟨θ, q, (zw_s14 _).trans (zw_14 hn s1 s2 s3 E1 E2)⟩
      | 15, _ =>
        obtain ⟨N, θ, r1, r2, E1, E2, q⟩ := zW_neighbour hW a1 a2
        exact ⟨θ, q, (zw_s15 _).trans (zw_15 hn s1 s2 E1 E2)⟩
      | 16, _ =>
        obtain ⟨N, θ, r1, r2, E1, E2, q⟩ := zW_told hW a1 a2
        exact ⟨θ, q, (zw_s16 _).trans (zw_16 hn s1 s2 E1 E2)⟩
      | 17, _ =>
        obtain ⟨N, θ, r1, r2, E1, E2, q⟩ := zW_tab hW a1 a2 a3
        exact ⟨θ, q, (zw_s17 _).trans (zw_17 hn s1 s2 s3 E1 E2)⟩
      | 18, _ =>
        obtain ⟨N, θ, r1, r2, E1, E2, q⟩ := zW_count hW a1
        exact ⟨θ, q, (zw_s18 _).trans (zw_18 hn s1 E1 E2)⟩
      | j + 19, c' => exact absurd c' (by omega)
  obtain ⟨θ, q, K⟩ := key
  exact ⟨θ, q, H.trans (K.trans (tl _))⟩
/-- the law answers 1 -/
theorem zw_all (hn : l.length < 2 ^ 31) (hl : ∀ j, j < l.length → ∃ x, l[j]? = some (.int x)) : ∀ m i M, l.length - i ≤ m → i ≤ l.length → zW M → ∃ θ N k, ∀ F n, N ≤ F → zi_go zi_ms (some l) 4 (some .boolean) zc_L 600000 7302250 (zi_run zi_ms F 64) (n + k) 18 (zw_L i) [] (zm_mk M) [] 442 12042 = some [([], some (.int 1), zm_mk θ)] := by
  intro m
  induction m with
  | zero =>
    intro i M h1 h2 hW
    exact ⟨M, 0, 8, fun F n _ => zw_fin hn (by omega) (by omega) _ F n⟩
  | succ m ih =>
    intro i M h1 h2 hW
    by_cases c : i + 5 ≤ l.length
    · obtain ⟨θ, q, N1, k1, S1⟩ := zw_one hn hl c hW
      obtain ⟨ψ, N2, k2, S2⟩ := ih (i + 5) θ (by omega) (by omega) q
      refine ⟨ψ, N1 + N2, k2 + k1, fun F n hF => ?_⟩
      rw [← Nat.add_assoc, S1 F (n + k2) (by omega), S2 F n (by omega)]
    · exact ⟨M, 0, 8, fun F n _ => zw_fin hn (by omega) (by omega) _ F n⟩
theorem zw_law (hn : l.length < 2 ^ 31) (hl : ∀ j, j < l.length → ∃ x, l[j]? = some (.int x)) : ∃ θ F, zi_go zi_ms (some l) 4 (some .boolean) zc_L 600000 7302250 (zi_run zi_ms F 64) F 18 [(3, .int 0), (2, .ref 232), (1, .ref 1), (0, .ref 0)] [] zh_2 [] 442 12042 = some [([], some (.int 1), zm_mk θ)] := by
  obtain ⟨θ, N, k, S⟩ := zw_all hn hl l.length 0 zm_i (by omega) (by omega) zW_ini
  rw [zm_i_mk] at S
  have e : zw_L 0 = [(3, .int 0), (2, .ref 232), (1, .ref 1), (0, .ref 0)] := by unfold zw_L; rw [nI_0]
  rw [e] at S
  exact ⟨θ, N + k, S (N + k) N (by omega)⟩
end ZWM
end
