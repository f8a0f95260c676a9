/-! the law: its loop -/
section ZWM
variable {l : List Value} {i : Nat} {a : Int32} {M N θ : zm_M}
theorem zw_cmp {n : Nat} (hn : n < 2 ^ 31) (hi : i < 2 ^ 31) : Int32.ofNat n - 5 < nI i ↔ n < i + 5 := by
  have e1 : (Int32.ofNat n).toInt = (n : Int) := nI_toInt hn
  have e2 : (5 : Int32).toInt = 5 := by decide
  rw [Int32.lt_iff_toInt_lt, nI_toInt hi, Int32.toInt_sub, e1, e2]
  have e3 : ((n : Int) - 5).bmod (2 ^ 32) = (n : Int) - 5 := by
    rw [Int.bmod_def]
    split <;> omega
  rw [e3]
  omega
set_option maxRecDepth 100000 in
theorem zw_hd (hn : l.length < 2 ^ 31) (hi : i + 5 ≤ l.length) (s0 : l[i]? = some (.int a)) (h : zi_Hp) : zw_S l 18 (zw_L i) [] h 32 (zw_L i) [.int (a &&& 31)] h := by
  have i1 : zi_in (nI i) l.length = true := zm_in (by omega) (by omega)
  have c1 : (nI i).toNatClampNeg = i := nI_clamp (by omega)
  have w0 : ∀ hp, zi_iald (some l) [] hp (nI i) 0 = some (.int a) := fun hp => by simp [zi_iald, i1, c1, s0]
  have hc : ¬ (Int32.ofNat l.length - 5 < nI i) := fun z => by have := (zw_cmp hn (by omega)).mp z; omega
  have h31 : (Int8.ofInt 31).toInt32 = (31 : Int32) := by decide
  unfold zw_L
  refine ⟨0, 11, fun F n hF => ?_⟩
  simp [zg_0, zg_aload_n, zg_arraylength, zg_astore_n, zg_bipush, zg_dup, zg_goto, zg_iadd, zg_iaload, zg_iand, zg_iconst, zg_if_icmp, zg_iinc, zg_iload_n, zg_invokespecial, zg_invokevirtual, zg_ireturn, zg_istore_n, zg_isub, zg_pop, zg_tableswitch, zi_ld, zi_lda, zi_cmp, zi_retOk, zi_isI, zi_f3, zi_cr, zi_ci, zi_cn, zi_get, zi_set, zf_L_h, zi_alen, hc, w0, h31]
set_option maxRecDepth 100000 in
theorem zw_fin (hn : l.length < 2 ^ 31) (hi : l.length < i + 5) (hi2 : i < 2 ^ 31) (h : zi_Hp) : ∀ F n, zi_go zi_ms (some l) 4 (some .boolean) zc_L 600000 7302250 (zi_run zi_ms F 64) (n + 8) 18 (zw_L i) [] h [] 442 12042 = some [([], some (.int 1), h)] := by
  have hc : Int32.ofNat l.length - 5 < nI i := (zw_cmp hn hi2).mpr hi
  intro F n
  unfold zw_L
  simp [zg_0, zg_aload_n, zg_arraylength, zg_astore_n, zg_bipush, zg_dup, zg_goto, zg_iadd, zg_iaload, zg_iand, zg_iconst, zg_if_icmp, zg_iinc, zg_iload_n, zg_invokespecial, zg_invokevirtual, zg_ireturn, zg_istore_n, zg_isub, zg_pop, zg_tableswitch, zi_ld, zi_lda, zi_cmp, zi_retOk, zi_isI, zi_f3, zi_cr, zi_ci, zi_cn, zi_get, zi_set, zf_L_h, zi_alen, hc]
set_option maxRecDepth 100000 in
theorem zw_tl (hi : i + 5 < 2 ^ 31) (h : zi_Hp) : zw_S l 761 (zw_L i) [] h 18 (zw_L (i + 5)) [] h := by
  have e5 : nI i + 5 = nI (i + 5) := by rw [show (5 : Int32) = nI 5 by decide, nI_add]
  unfold zw_L
  refine ⟨0, 2, fun F n hF => ?_⟩
  simp [zg_0, zg_aload_n, zg_arraylength, zg_astore_n, zg_bipush, zg_dup, zg_goto, zg_iadd, zg_iaload, zg_iand, zg_iconst, zg_if_icmp, zg_iinc, zg_iload_n, zg_invokespecial, zg_invokevirtual, zg_ireturn, zg_istore_n, zg_isub, zg_pop, zg_tableswitch, zi_ld, zi_lda, zi_cmp, zi_retOk, zi_isI, zi_f3, zi_cr, zi_ci, zi_cn, zi_get, zi_set, zf_L_h, e5]
set_option maxRecDepth 100000 in
theorem zw_s0 (h : zi_Hp) : zw_S l 32 (zw_L i) [.int (nI 0)] h 124 (zw_L i) [] h := by
  have e : (nI 0).toInt = 0 := by decide
  refine ⟨0, 1, fun F n hF => ?_⟩
  simp [zg_0, zg_aload_n, zg_arraylength, zg_astore_n, zg_bipush, zg_dup, zg_goto, zg_iadd, zg_iaload, zg_iand, zg_iconst, zg_if_icmp, zg_iinc, zg_iload_n, zg_invokespecial, zg_invokevirtual, zg_ireturn, zg_istore_n, zg_isub, zg_pop, zg_tableswitch, zf_L_h, e]
set_option maxRecDepth 100000 in
theorem zw_s1 (h : zi_Hp) : zw_S l 32 (zw_L i) [.int (nI 1)] h 167 (zw_L i) [] h := by
  have e : (nI 1).toInt = 1 := by decide
  refine ⟨0, 1, fun F n hF => ?_⟩
  simp [zg_0, zg_aload_n, zg_arraylength, zg_astore_n, zg_bipush, zg_dup, zg_goto, zg_iadd, zg_iaload, zg_iand, zg_iconst, zg_if_icmp, zg_iinc, zg_iload_n, zg_invokespecial, zg_invokevirtual, zg_ireturn, zg_istore_n, zg_isub, zg_pop, zg_tableswitch, zf_L_h, e]
set_option maxRecDepth 100000 in
theorem zw_s2 (h : zi_Hp) : zw_S l 32 (zw_L i) [.int (nI 2)] h 190 (zw_L i) [] h := by
  have e : (nI 2).toInt = 2 := by decide
  refine ⟨0, 1, fun F n hF => ?_⟩
  simp [zg_0, zg_aload_n, zg_arraylength, zg_astore_n, zg_bipush, zg_dup, zg_goto, zg_iadd, zg_iaload, zg_iand, zg_iconst, zg_if_icmp, zg_iinc, zg_iload_n, zg_invokespecial, zg_invokevirtual, zg_ireturn, zg_istore_n, zg_isub, zg_pop, zg_tableswitch, zf_L_h, e]
set_option maxRecDepth 100000 in
theorem zw_s3 (h : zi_Hp) : zw_S l 32 (zw_L i) [.int (nI 3)] h 243 (zw_L i) [] h := by
  have e : (nI 3).toInt = 3 := by decide
  refine ⟨0, 1, fun F n hF => ?_⟩
  simp [zg_0, zg_aload_n, zg_arraylength, zg_astore_n, zg_bipush, zg_dup, zg_goto, zg_iadd, zg_iaload, zg_iand, zg_iconst, zg_if_icmp, zg_iinc, zg_iload_n, zg_invokespecial, zg_invokevirtual, zg_ireturn, zg_istore_n, zg_isub, zg_pop, zg_tableswitch, zf_L_h, e]
set_option maxRecDepth 100000 in
theorem zw_s4 (h : zi_Hp) : zw_S l 32 (zw_L i) [.int (nI 4)] h 266 (zw_L i) [] h := by
  have e : (nI 4).toInt = 4 := by decide
  refine ⟨0, 1, fun F n hF => ?_⟩
  simp [zg_0, zg_aload_n, zg_arraylength, zg_astore_n, zg_bipush, zg_dup, zg_goto, zg_iadd, zg_iaload, zg_iand, zg_iconst, zg_if_icmp, zg_iinc, zg_iload_n, zg_invokespecial, zg_invokevirtual, zg_ireturn, zg_istore_n, zg_isub, zg_pop, zg_tableswitch, zf_L_h, e]
set_option maxRecDepth 100000 in
theorem zw_s5 (h : zi_Hp) : zw_S l 32 (zw_L i) [.int (nI 5)] h 289 (zw_L i) [] h := by
  have e : (nI 5).toInt = 5 := by decide
  refine ⟨0, 1, fun F n hF => ?_⟩
  simp [zg_0, zg_aload_n, zg_arraylength, zg_astore_n, zg_bipush, zg_dup, zg_goto, zg_iadd, zg_iaload, zg_iand, zg_iconst, zg_if_icmp, zg_iinc, zg_iload_n, zg_invokespecial, zg_invokevirtual, zg_ireturn, zg_istore_n, zg_isub, zg_pop, zg_tableswitch, zf_L_h, e]
set_option maxRecDepth 100000 in
theorem zw_s6 (h : zi_Hp) : zw_S l 32 (zw_L i) [.int (nI 6)] h 302 (zw_L i) [] h := by
  have e : (nI 6).toInt = 6 := by decide
  refine ⟨0, 1, fun F n hF => ?_⟩
  simp [zg_0, zg_aload_n, zg_arraylength, zg_astore_n, zg_bipush, zg_dup, zg_goto, zg_iadd, zg_iaload, zg_iand, zg_iconst, zg_if_icmp, zg_iinc, zg_iload_n, zg_invokespecial, zg_invokevirtual, zg_ireturn, zg_istore_n, zg_isub, zg_pop, zg_tableswitch, zf_L_h, e]
set_option maxRecDepth 100000 in
theorem zw_s7 (h : zi_Hp) : zw_S l 32 (zw_L i) [.int (nI 7)] h 325 (zw_L i) [] h := by
  have e : (nI 7).toInt = 7 := by decide
  refine ⟨0, 1, fun F n hF => ?_⟩
  simp [zg_0, zg_aload_n, zg_arraylength, zg_astore_n, zg_bipush, zg_dup, zg_goto, zg_iadd, zg_iaload, zg_iand, zg_iconst, zg_if_icmp, zg_iinc, zg_iload_n, zg_invokespecial, zg_invokevirtual, zg_ireturn, zg_istore_n, zg_isub, zg_pop, zg_tableswitch, zf_L_h, e]
set_option maxRecDepth 100000 in
theorem zw_s8 (h : zi_Hp) : zw_S l 32 (zw_L i) [.int (nI 8)] h 358 (zw_L i) [] h := by
  have e : (nI 8).toInt = 8 := by decide
  refine ⟨0, 1, fun F n hF => ?_⟩
  simp [zg_0, zg_aload_n, zg_arraylength, zg_astore_n, zg_bipush, zg_dup, zg_goto, zg_iadd, zg_iaload, zg_iand, zg_iconst, zg_if_icmp, zg_iinc, zg_iload_n, zg_invokespecial, zg_invokevirtual, zg_ireturn, zg_istore_n, zg_isub, zg_pop, zg_tableswitch, zf_L_h, e]
set_option maxRecDepth 100000 in
theorem zw_s9 (h : zi_Hp) : zw_S l 32 (zw_L i) [.int (nI 9)] h 401 (zw_L i) [] h := by
  have e : (nI 9).toInt = 9 := by decide
  refine ⟨0, 1, fun F n hF => ?_⟩
  simp [zg_0, zg_aload_n, zg_arraylength, zg_astore_n, zg_bipush, zg_dup, zg_goto, zg_iadd, zg_iaload, zg_iand, zg_iconst, zg_if_icmp, zg_iinc, zg_iload_n, zg_invokespecial, zg_invokevirtual, zg_ireturn, zg_istore_n, zg_isub, zg_pop, zg_tableswitch, zf_L_h, e]
set_option maxRecDepth 100000 in
theorem zw_s10 (h : zi_Hp) : zw_S l 32 (zw_L i) [.int (nI 10)] h 444 (zw_L i) [] h := by
  have e : (nI 10).toInt = 10 := by decide
  refine ⟨0, 1, fun F n hF => ?_⟩
  simp [zg_0, zg_aload_n, zg_arraylength, zg_astore_n, zg_bipush, zg_dup, zg_goto, zg_iadd, zg_iaload, zg_iand, zg_iconst, zg_if_icmp, zg_iinc, zg_iload_n, zg_invokespecial, zg_invokevirtual, zg_ireturn, zg_istore_n, zg_isub, zg_pop, zg_tableswitch, zf_L_h, e]
set_option maxRecDepth 100000 in
theorem zw_s11 (h : zi_Hp) : zw_S l 32 (zw_L i) [.int (nI 11)] h 487 (zw_L i) [] h := by
  have e : (nI 11).toInt = 11 := by decide
  refine ⟨0, 1, fun F n hF => ?_⟩
  simp [zg_0, zg_aload_n, zg_arraylength, zg_astore_n, zg_bipush, zg_dup, zg_goto, zg_iadd, zg_iaload, zg_iand, zg_iconst, zg_if_icmp, zg_iinc, zg_iload_n, zg_invokespecial, zg_invokevirtual, zg_ireturn, zg_istore_n, zg_isub, zg_pop, zg_tableswitch, zf_L_h, e]
set_option maxRecDepth 100000 in
theorem zw_s12 (h : zi_Hp) : zw_S l 32 (zw_L i) [.int (nI 12)] h 520 (zw_L i) [] h := by
  have e : (nI 12).toInt = 12 := by decide
  refine ⟨0, 1, fun F n hF => ?_⟩
  simp [zg_0, zg_aload_n, zg_arraylength, zg_astore_n, zg_bipush, zg_dup, zg_goto, zg_iadd, zg_iaload, zg_iand, zg_iconst, zg_if_icmp, zg_iinc, zg_iload_n, zg_invokespecial, zg_invokevirtual, zg_ireturn, zg_istore_n, zg_isub, zg_pop, zg_tableswitch, zf_L_h, e]
set_option maxRecDepth 100000 in
theorem zw_s13 (h : zi_Hp) : zw_S l 32 (zw_L i) [.int (nI 13)] h 553 (zw_L i) [] h := by
  have e : (nI 13).toInt = 13 := by decide
  refine ⟨0, 1, fun F n hF => ?_⟩
  simp [zg_0, zg_aload_n, zg_arraylength, zg_astore_n, zg_bipush, zg_dup, zg_goto, zg_iadd, zg_iaload, zg_iand, zg_iconst, zg_if_icmp, zg_iinc, zg_iload_n, zg_invokespecial, zg_invokevirtual, zg_ireturn, zg_istore_n, zg_isub, zg_pop, zg_tableswitch, zf_L_h, e]
set_option maxRecDepth 100000 in
theorem zw_s14 (h : zi_Hp) : zw_S l 32 (zw_L i) [.int (nI 14)] h 586 (zw_L i) [] h := by
  have e : (nI 14).toInt = 14 := by decide
  refine ⟨0, 1, fun F n hF => ?_⟩
  simp [zg_0, zg_aload_n, zg_arraylength, zg_astore_n, zg_bipush, zg_dup, zg_goto, zg_iadd, zg_iaload, zg_iand, zg_iconst, zg_if_icmp, zg_iinc, zg_iload_n, zg_invokespecial, zg_invokevirtual, zg_ireturn, zg_istore_n, zg_isub, zg_pop, zg_tableswitch, zf_L_h, e]
set_option maxRecDepth 100000 in
theorem zw_s15 (h : zi_Hp) : zw_S l 32 (zw_L i) [.int (nI 15)] h 629 (zw_L i) [] h := by
  have e : (nI 15).toInt = 15 := by decide
  refine ⟨0, 1, fun F n hF => ?_⟩
  simp [zg_0, zg_aload_n, zg_arraylength, zg_astore_n, zg_bipush, zg_dup, zg_goto, zg_iadd, zg_iaload, zg_iand, zg_iconst, zg_if_icmp, zg_iinc, zg_iload_n, zg_invokespecial, zg_invokevirtual, zg_ireturn, zg_istore_n, zg_isub, zg_pop, zg_tableswitch, zf_L_h, e]
set_option maxRecDepth 100000 in
theorem zw_s16 (h : zi_Hp) : zw_S l 32 (zw_L i) [.int (nI 16)] h 662 (zw_L i) [] h := by
  have e : (nI 16).toInt = 16 := by decide
  refine ⟨0, 1, fun F n hF => ?_⟩
  simp [zg_0, zg_aload_n, zg_arraylength, zg_astore_n, zg_bipush, zg_dup, zg_goto, zg_iadd, zg_iaload, zg_iand, zg_iconst, zg_if_icmp, zg_iinc, zg_iload_n, zg_invokespecial, zg_invokevirtual, zg_ireturn, zg_istore_n, zg_isub, zg_pop, zg_tableswitch, zf_L_h, e]
set_option maxRecDepth 100000 in
theorem zw_s17 (h : zi_Hp) : zw_S l 32 (zw_L i) [.int (nI 17)] h 695 (zw_L i) [] h := by
  have e : (nI 17).toInt = 17 := by decide
  refine ⟨0, 1, fun F n hF => ?_⟩
  simp [zg_0, zg_aload_n, zg_arraylength, zg_astore_n, zg_bipush, zg_dup, zg_goto, zg_iadd, zg_iaload, zg_iand, zg_iconst, zg_if_icmp, zg_iinc, zg_iload_n, zg_invokespecial, zg_invokevirtual, zg_ireturn, zg_istore_n, zg_isub, zg_pop, zg_tableswitch, zf_L_h, e]
set_option maxRecDepth 100000 in
theorem zw_s18 (h : zi_Hp) : zw_S l 32 (zw_L i) [.int (nI 18)] h 738 (zw_L i) [] h := by
  have e : (nI 18).toInt = 18 := by decide
  refine ⟨0, 1, fun F n hF => ?_⟩
  simp [zg_0, zg_aload_n, zg_arraylength, zg_astore_n, zg_bipush, zg_dup, zg_goto, zg_iadd, zg_iaload, zg_iand, zg_iconst, zg_if_icmp, zg_iinc, zg_iload_n, zg_invokespecial, zg_invokevirtual, zg_ireturn, zg_istore_n, zg_isub, zg_pop, zg_tableswitch, zf_L_h, e]
set_option maxRecDepth 100000 in
theorem zw_sd {j : Nat} (hj : 19 ≤ j) (hj2 : j < 32) (h : zi_Hp) : zw_S l 32 (zw_L i) [.int (nI j)] h 761 (zw_L i) [] h := by
  have e : (nI j).toInt = (j : Int) := nI_toInt (by omega)
  have c : (j : Int) < 0 ∨ 18 < (j : Int) := by omega
  refine ⟨0, 1, fun F n hF => ?_⟩
  simp [zg_0, zg_aload_n, zg_arraylength, zg_astore_n, zg_bipush, zg_dup, zg_goto, zg_iadd, zg_iaload, zg_iand, zg_iconst, zg_if_icmp, zg_iinc, zg_iload_n, zg_invokespecial, zg_invokevirtual, zg_ireturn, zg_istore_n, zg_isub, zg_pop, zg_tableswitch, zf_L_h, e, c]
/-- one round -/
theorem zw_one (hn : l.length < 2 ^ 31) (hl : ∀ j, j < l.length → ∃ x, l[j]? = some (.int x)) (hi : i + 5 ≤ l.length) (hW : zW M) : ∃ θ, zW θ ∧ zw_S l 18 (zw_L i) [] (zm_mk M) 18 (zw_L (i + 5)) [] (zm_mk θ) := by
  obtain ⟨a0, s0⟩ := hl i (by omega)
  obtain ⟨a1, s1⟩ := hl (i + 1) (by omega)
  obtain ⟨a2, s2⟩ := hl (i + 2) (by omega)
  obtain ⟨a3, s3⟩ := hl (i + 3) (by omega)
  obtain ⟨a4, s4⟩ := hl (i + 4) (by omega)
  obtain ⟨j, hj, ej⟩ := pk_andE a0 (m := 31) 5 (by decide)
  have hj : j < 32 := hj
  have H := zw_hd hn hi s0 (zm_mk M)
  rw [ej] at H
  have tl : ∀ h, zw_S l 761 (zw_L i) [] h 18 (zw_L (i + 5)) [] h := fun h => zw_tl (by omega) h
  have key : ∃ θ, zW θ ∧ zw_S l 32 (zw_L i) [.int (nI j)] (zm_mk M) 761 (zw_L i) [] (zm_mk θ) := by
    by_cases c : 19 ≤ j
    · exact ⟨M, hW, zw_sd c hj _⟩
    · have c' : j < 19 := by omega
      match j, c' with
      | 0, _ =>
        obtain ⟨N, θ, r1, r2, E1, E2, q⟩ := zW_screen hW a1 a2 a3
        exact ⟨θ, q, (zw_s0 _).trans (zw_0 hn s1 s2 s3 E1 E2)⟩
      | 1, _ =>
        obtain ⟨N, θ, r1, r2, E1, E2, q⟩ := zW_gone hW a1
        exact ⟨θ, q, (zw_s1 _).trans (zw_1 hn s1 E1 E2)⟩
      | 2, _ =>
        obtain ⟨N, θ, r1, r2, E1, E2, q⟩ := zW_open hW a1 a2 a3 a4
        exact ⟨θ, q, (zw_s2 _).trans (zw_2 hn s1 s2 s3 s4 E1 E2)⟩
      | 3, _ =>
        obtain ⟨N, θ, r1, r2, E1, E2, q⟩ := zW_close hW a1
        exact ⟨θ, q, (zw_s3 _).trans (zw_3 hn s1 E1 E2)⟩
      | 4, _ =>
        obtain ⟨N, θ, r, E1, E2, q⟩ := zW_focus_e hW a1
        exact ⟨θ, q, (zw_s4 _).trans (zw_4 hn s1 E1 E2)⟩
      | 5, _ =>
        obtain ⟨N, θ, r1, r2, E1, E2, q⟩ := zW_back hW 
        exact ⟨θ, q, (zw_s5 _).trans (zw_5 hn  E1 E2)⟩
      | 6, _ =>
        obtain ⟨N, θ, r1, r2, E1, E2, q⟩ := zW_toward hW a1
        exact ⟨θ, q, (zw_s6 _).trans (zw_6 hn s1 E1 E2)⟩
      | 7, _ =>
        obtain ⟨N, θ, r1, r2, E1, E2, q⟩ := zW_steps hW a1 a2
        exact ⟨θ, q, (zw_s7 _).trans (zw_7 hn s1 s2 E1 E2)⟩
      | 8, _ =>
        obtain ⟨N, θ, r1, r2, E1, E2, q⟩ := zW_drag hW a1 a2 a3
        exact ⟨θ, q, (zw_s8 _).trans (zw_8 hn s1 s2 s3 E1 E2)⟩
      | 9, _ =>
        obtain ⟨N, θ, r1, r2, E1, E2, q⟩ := zW_move hW a1 a2 a3
        exact ⟨θ, q, (zw_s9 _).trans (zw_9 hn s1 s2 s3 E1 E2)⟩
      | 10, _ =>
        obtain ⟨N, θ, r1, r2, E1, E2, q⟩ := zW_share hW a1 a2 a3
        exact ⟨θ, q, (zw_s10 _).trans (zw_10 hn s1 s2 s3 E1 E2)⟩
      | 11, _ =>
        obtain ⟨N, θ, r1, r2, E1, E2, q⟩ := zW_area hW a1 a2
        exact ⟨θ, q, (zw_s11 _).trans (zw_11 hn s1 s2 E1 E2)⟩
      | 12, _ =>
        obtain ⟨N, θ, r1, r2, E1, E2, q⟩ := zW_about hW a1 a2
        exact ⟨θ, q, (zw_s12 _).trans (zw_12 hn s1 s2 E1 E2)⟩
      | 13, _ =>
        obtain ⟨N, θ, r1, r2, E1, E2, q⟩ := zW_isOf_c hW a1 a2
        exact ⟨θ, q, (zw_s13 _).trans (zw_13 hn s1 s2 E1 E2)⟩
      | 14, _ =>
        obtain ⟨N, θ, r1, r2, E1, E2, q⟩ := zW_at hW a1 a2 a3
        exact ⟨θ, q, (zw_s14 _).trans (zw_14 hn s1 s2 s3 E1 E2)⟩
      | 15, _ =>
        obtain ⟨N, θ, r1, r2, E1, E2, q⟩ := zW_neighbour hW a1 a2
        exact ⟨θ, q, (zw_s15 _).trans (zw_15 hn s1 s2 E1 E2)⟩
      | 16, _ =>
        obtain ⟨N, θ, r1, r2, E1, E2, q⟩ := zW_told hW a1 a2
        exact ⟨θ, q, (zw_s16 _).trans (zw_16 hn s1 s2 E1 E2)⟩
      | 17, _ =>
        obtain ⟨N, θ, r1, r2, E1, E2, q⟩ := zW_tab hW a1 a2 a3
        exact ⟨θ, q, (zw_s17 _).trans (zw_17 hn s1 s2 s3 E1 E2)⟩
      | 18, _ =>
        obtain ⟨N, θ, r1, r2, E1, E2, q⟩ := zW_count hW a1
        exact ⟨θ, q, (zw_s18 _).trans (zw_18 hn s1 E1 E2)⟩
      | j + 19, c' => exact absurd c' (by omega)
  obtain ⟨θ, q, K⟩ := key
  exact ⟨θ, q, H.trans (K.trans (tl _))⟩
/-- the law answers 1 -/
theorem zw_all (hn : l.length < 2 ^ 31) (hl : ∀ j, j < l.length → ∃ x, l[j]? = some (.int x)) : ∀ m i M, l.length - i ≤ m → i ≤ l.length → zW M → ∃ θ N k, ∀ F n, N ≤ F → zi_go zi_ms (some l) 4 (some .boolean) zc_L 600000 7302250 (zi_run zi_ms F 64) (n + k) 18 (zw_L i) [] (zm_mk M) [] 442 12042 = some [([], some (.int 1), zm_mk θ)] := by
  intro m
  induction m with
  | zero =>
    intro i M h1 h2 hW
    exact ⟨M, 0, 8, fun F n _ => zw_fin hn (by omega) (by omega) _ F n⟩
  | succ m ih =>
    intro i M h1 h2 hW
    by_cases c : i + 5 ≤ l.length
    · obtain ⟨θ, q, N1, k1, S1⟩ := zw_one hn hl c hW
      obtain ⟨ψ, N2, k2, S2⟩ := ih (i + 5) θ (by omega) (by omega) q
      refine ⟨ψ, N1 + N2, k2 + k1, fun F n hF => ?_⟩
      rw [← Nat.add_assoc, S1 F (n + k2) (by omega), S2 F n (by omega)]
    · exact ⟨M, 0, 8, fun F n _ => zw_fin hn (by omega) (by omega) _ F n⟩
theorem zw_law (hn : l.length < 2 ^ 31) (hl : ∀ j, j < l.length → ∃ x, l[j]? = some (.int x)) : ∃ θ F, zi_go zi_ms (some l) 4 (some .boolean) zc_L 600000 7302250 (zi_run zi_ms F 64) F 18 [(3, .int 0), (2, .ref 232), (1, .ref 1), (0, .ref 0)] [] zh_2 [] 442 12042 = some [([], some (.int 1), zm_mk θ)] := by
  obtain ⟨θ, N, k, S⟩ := zw_all hn hl l.length 0 zm_i (by omega) (by omega) zW_ini
  rw [zm_i_mk] at S
  have e : zw_L 0 = [(3, .int 0), (2, .ref 232), (1, .ref 1), (0, .ref 0)] := by unfold zw_L; rw [nI_0]
  rw [e] at S
  exact ⟨θ, N + k, S (N + k) N (by omega)⟩
end ZWM
