/-! the reference: open, its pieces -/
/-- what open may be asked -/
def zv_oarg (μ : zm_M) (kd w v o : Int32) : Prop := ((1 ≤ kd ∧ kd ≤ 4) ∧ (1 ≤ w ∧ w ≤ 200) ∧ 1 ≤ v ∧ v ≤ 200) ∧ (kd = 3 → ∃ j, j < 10 ∧ o = nI j ∧ ¬ μ 234 j = 0) ∧ (¬ kd = 3 → o = -1)
/-- the screen that a new window comes to, if there is one -/
def zv_osc (μ : zm_M) (row : List Nat) (kd o : Int32) : Int32 := if kd = 3 then (if μ 234 o.toNatClampNeg = 4 then -1 else μ 238 o.toNatClampNeg) else zv_sah μ row
section ZWQ
variable {μ ν : zm_M} {row stk : List Nat} {us : Nat → zy_F}
set_option maxRecDepth 100000 in
theorem zv_op0 (D : Nat) (h : zR μ row stk us) (kd w v o : Int32) : (zv_oarg μ kd w v o ∧ ∃ g, ze_S (D + 3) 10 (some .int) zc_X6_open 0 [(0, .ref 232), (1, .int kd), (2, .int w), (3, .int v), (4, .int o)] [] (zm_mk μ) 69 [(5, .int g), (0, .ref 232), (1, .int kd), (2, .int w), (3, .int v), (4, .int o)] [] (zm_mk μ)) ∨
    (¬ zv_oarg μ kd w v o ∧ ze_G (D + 3) 10 (some .int) zc_X6_open 0 [(0, .ref 232), (1, .int kd), (2, .int w), (3, .int v), (4, .int o)] [] (zm_mk μ) (some (.int (-1000000001))) (zm_mk μ)) := by
  have n1 : Int32.ofInt (-1000000001) = -1000000001 := by decide
  have h200 : (Int16.ofInt 200).toInt32 = (200 : Int32) := by decide
  have n10 : ¬ (1 : Int32) = 0 := by decide
  obtain ⟨lc, cM⟩ := zM_c (μ := μ)
  obtain ⟨N1, E1⟩ := ze_isIn (h := zm_mk μ) (D + 2) kd 1 4
  obtain ⟨N2, E2⟩ := ze_isIn (h := zm_mk μ) (D + 2) w 1 200
  obtain ⟨N3, E3⟩ := ze_isIn (h := zm_mk μ) (D + 2) v 1 200
  by_cases c1 : 1 ≤ kd ∧ kd ≤ 4
  · rw [if_pos c1] at E1
    by_cases c2 : 1 ≤ w ∧ w ≤ 200
    · rw [if_pos c2] at E2
      by_cases c3 : 1 ≤ v ∧ v ≤ 200
      · rw [if_pos c3] at E3
        have S1 : ze_S (D + 3) 10 (some .int) zc_X6_open 0 [(0, .ref 232), (1, .int kd), (2, .int w), (3, .int v), (4, .int o)] [] (zm_mk μ) 43 [(5, .int 1), (0, .ref 232), (1, .int kd), (2, .int w), (3, .int v), (4, .int o)] [] (zm_mk μ) := by
          refine ⟨N1 + N2 + N3, 20, fun F n hF => ?_⟩
          simp [zg_0, zg_aload_n, zg_bipush, zg_getfield, zg_goto, zg_iadd, zg_iaload, zg_iastore, zg_iconst, zg_ifCond, zg_if_icmp, zg_iload, zg_iload_n, zg_imul, zg_invokestatic, zg_invokevirtual, zg_ireturn, zg_istore, zg_isub, zg_ldc, zg_sipush, zf_X6_open, zi_ld, zi_lda, zi_cmp, zi_retOk, zi_isI, zi_f3, zi_cr, zi_ci, zi_cn, zi_get, zi_set, h200, n10, zq_Mod_isIn, E1 F (by omega), E2 F (by omega), E3 F (by omega)]
        by_cases c4 : kd = 3
        · rcases zR_win (D + 1) h o with ⟨j, hj, rfl, j0, N4, E4⟩ | ⟨⟨N4, E4⟩, hno⟩
          · refine Or.inl ⟨⟨⟨c1, c2, c3⟩, fun _ => ⟨j, hj, rfl, j0⟩, fun z => absurd c4 z⟩, 1, S1.trans ⟨N4, 7, fun F n hF => ?_⟩⟩
            simp [zg_0, zg_aload_n, zg_bipush, zg_getfield, zg_goto, zg_iadd, zg_iaload, zg_iastore, zg_iconst, zg_ifCond, zg_if_icmp, zg_iload, zg_iload_n, zg_imul, zg_invokestatic, zg_invokevirtual, zg_ireturn, zg_istore, zg_isub, zg_ldc, zg_sipush, zf_X6_open, zi_ld, zi_lda, zi_cmp, zi_retOk, zi_isI, zi_f3, zi_cr, zi_ci, zi_cn, zi_get, zi_set, cM, zq_Mod_isWindow, E4 F (by omega), c4]
          · refine Or.inr ⟨fun z => ?_, S1.end ⟨N4, 10, fun F n hF => ?_⟩⟩
            · obtain ⟨j, hj, e, j0⟩ := z.2.1 c4
              exact j0 (hno j hj e)
            · simp [zg_0, zg_aload_n, zg_bipush, zg_getfield, zg_goto, zg_iadd, zg_iaload, zg_iastore, zg_iconst, zg_ifCond, zg_if_icmp, zg_iload, zg_iload_n, zg_imul, zg_invokestatic, zg_invokevirtual, zg_ireturn, zg_istore, zg_isub, zg_ldc, zg_sipush, zf_X6_open, zi_ld, zi_lda, zi_cmp, zi_retOk, zi_isI, zi_f3, zi_cr, zi_ci, zi_cn, zi_get, zi_set, cM, zq_Mod_isWindow, E4 F (by omega), c4, n1]
        · by_cases c5 : o = -1
          · refine Or.inl ⟨⟨⟨c1, c2, c3⟩, fun z => absurd z c4, fun _ => c5⟩, 1, S1.trans ⟨0, 6, fun F n hF => ?_⟩⟩
            simp [zg_0, zg_aload_n, zg_bipush, zg_getfield, zg_goto, zg_iadd, zg_iaload, zg_iastore, zg_iconst, zg_ifCond, zg_if_icmp, zg_iload, zg_iload_n, zg_imul, zg_invokestatic, zg_invokevirtual, zg_ireturn, zg_istore, zg_isub, zg_ldc, zg_sipush, zf_X6_open, zi_ld, zi_lda, zi_cmp, zi_retOk, zi_isI, zi_f3, zi_cr, zi_ci, zi_cn, zi_get, zi_set, c4, c5]
          · refine Or.inr ⟨fun z => c5 (z.2.2 c4), S1.end ⟨0, 8, fun F n hF => ?_⟩⟩
            simp [zg_0, zg_aload_n, zg_bipush, zg_getfield, zg_goto, zg_iadd, zg_iaload, zg_iastore, zg_iconst, zg_ifCond, zg_if_icmp, zg_iload, zg_iload_n, zg_imul, zg_invokestatic, zg_invokevirtual, zg_ireturn, zg_istore, zg_isub, zg_ldc, zg_sipush, zf_X6_open, zi_ld, zi_lda, zi_cmp, zi_retOk, zi_isI, zi_f3, zi_cr, zi_ci, zi_cn, zi_get, zi_set, c4, c5, n1]
      · rw [if_neg c3] at E3
        refine Or.inr ⟨fun z => c3 z.1.2.2, N1 + N2 + N3, 21, fun F n hF => ?_⟩
        simp [zg_0, zg_aload_n, zg_bipush, zg_getfield, zg_goto, zg_iadd, zg_iaload, zg_iastore, zg_iconst, zg_ifCond, zg_if_icmp, zg_iload, zg_iload_n, zg_imul, zg_invokestatic, zg_invokevirtual, zg_ireturn, zg_istore, zg_isub, zg_ldc, zg_sipush, zf_X6_open, zi_ld, zi_lda, zi_cmp, zi_retOk, zi_isI, zi_f3, zi_cr, zi_ci, zi_cn, zi_get, zi_set, h200, zq_Mod_isIn, E1 F (by omega), E2 F (by omega), E3 F (by omega), n1]
    · rw [if_neg c2] at E2
      refine Or.inr ⟨fun z => c2 z.1.2.1, N1 + N2, 16, fun F n hF => ?_⟩
      simp [zg_0, zg_aload_n, zg_bipush, zg_getfield, zg_goto, zg_iadd, zg_iaload, zg_iastore, zg_iconst, zg_ifCond, zg_if_icmp, zg_iload, zg_iload_n, zg_imul, zg_invokestatic, zg_invokevirtual, zg_ireturn, zg_istore, zg_isub, zg_ldc, zg_sipush, zf_X6_open, zi_ld, zi_lda, zi_cmp, zi_retOk, zi_isI, zi_f3, zi_cr, zi_ci, zi_cn, zi_get, zi_set, h200, zq_Mod_isIn, E1 F (by omega), E2 F (by omega), n1]
  · rw [if_neg c1] at E1
    refine Or.inr ⟨fun z => c1 z.1.1, N1, 11, fun F n hF => ?_⟩
    simp [zg_0, zg_aload_n, zg_bipush, zg_getfield, zg_goto, zg_iadd, zg_iaload, zg_iastore, zg_iconst, zg_ifCond, zg_if_icmp, zg_iload, zg_iload_n, zg_imul, zg_invokestatic, zg_invokevirtual, zg_ireturn, zg_istore, zg_isub, zg_ldc, zg_sipush, zf_X6_open, zi_ld, zi_lda, zi_cmp, zi_retOk, zi_isI, zi_f3, zi_cr, zi_ci, zi_cn, zi_get, zi_set, zq_Mod_isIn, E1 F (by omega), n1]
theorem zv_sah_or (h : zR μ row stk us) : ∀ l : List Nat, (∀ j ∈ l, j ∈ row) → zv_sah μ l = -1 ∨ ∃ s, s < 3 ∧ zv_sah μ l = nI s ∧ 0 < μ 232 s
  | [], _ => by
    show zv_lsb μ = -1 ∨ ∃ s, s < 3 ∧ zv_lsb μ = nI s ∧ 0 < μ 232 s
    unfold zv_lsb
    rcases zl_fi_spec (fun s => decide (0 < μ 232 s)) (-1) 3 0 with ⟨k, _, hk, p, _, e⟩ | ⟨_, e⟩
    · exact Or.inr ⟨k, by omega, e, of_decide_eq_true p⟩
    · exact Or.inl e
  | k :: l, hm => by
    have hk := (h.2.1.2.2 k).mp (hm k (List.mem_cons_self ..))
    show (if μ 234 k = 4 then zv_sah μ l else μ 238 k) = -1 ∨ ∃ s, s < 3 ∧ (if μ 234 k = 4 then zv_sah μ l else μ 238 k) = nI s ∧ 0 < μ 232 s
    by_cases c : μ 234 k = 4
    · rw [if_pos c]
      exact zv_sah_or h l (fun j hj => hm j (List.mem_cons_of_mem _ hj))
    · rw [if_neg c]
      obtain ⟨s, h1, h2, h3, -⟩ := h.2.2.2.2.2.1 k hk.1 hk.2 c
      exact Or.inr ⟨s, h1, h2, h3⟩
set_option maxRecDepth 100000 in
/-- 69 to 127: the number and the screen -/
theorem zv_op1 (D : Nat) (h : zR μ row stk us) {kd w v o g : Int32} (ha : zv_oarg μ kd w v o) : (((∀ j, j < 10 → ¬ μ 234 j = 0) ∨ zv_osc μ row kd o = -1) ∧ ∃ r, ze_G (D + 3) 10 (some .int) zc_X6_open 69 [(5, .int g), (0, .ref 232), (1, .int kd), (2, .int w), (3, .int v), (4, .int o)] [] (zm_mk μ) (some (.int r)) (zm_mk μ)) ∨
    ∃ k s, k < 10 ∧ s < 3 ∧ μ 234 k = 0 ∧ (∀ j, j < k → ¬ μ 234 j = 0) ∧ zv_osc μ row kd o = nI s ∧ 0 < μ 232 s ∧ ze_S (D + 3) 10 (some .int) zc_X6_open 69 [(5, .int g), (0, .ref 232), (1, .int kd), (2, .int w), (3, .int v), (4, .int o)] [] (zm_mk μ) 127 [(7, .int (nI s)), (6, .int (nI k)), (5, .int g), (0, .ref 232), (1, .int kd), (2, .int w), (3, .int v), (4, .int o)] [] (zm_mk μ) := by
  have n2 : Int32.ofInt (-1000000002) = -1000000002 := by decide
  have n3 : Int32.ofInt (-1000000003) = -1000000003 := by decide
  have m1 : ¬ (0 : Int32) ≤ -1 := by decide
  obtain ⟨lc, cM⟩ := zM_c (μ := μ)
  obtain ⟨N1, E1⟩ := ze_MfreeNumber (μ := μ) (D + 2)
  rcases zl_fi_spec (fun k => decide (μ 234 k = 0)) (-1) 10 0 with ⟨k, _, hk, p, q, e⟩ | ⟨q, e⟩
  · have hk : k < 10 := by omega
    rw [e] at E1
    have p : μ 234 k = 0 := of_decide_eq_true p
    have q : ∀ j, j < k → ¬ μ 234 j = 0 := fun j hj => of_decide_eq_false (q j (Nat.zero_le _) hj)
    have m2 : (0 : Int32) ≤ nI k := Int32.not_lt.mp (nI_pos (by omega))
    by_cases c4 : kd = 3
    · obtain ⟨j, hj, rfl, j0⟩ := ha.2.1 c4
      have ij : zi_in (nI j) 10 = true := zm_in hj (by decide)
      have cj : (nI j).toNatClampNeg = j := nI_clamp (by omega)
      have eo : zv_osc μ row kd (nI j) = if μ 234 j = 4 then -1 else μ 238 j := by
        unfold zv_osc
        rw [if_pos c4, cj]
      by_cases c5 : μ 234 j = 4
      · rw [if_pos c5] at eo
        refine Or.inl ⟨Or.inr eo, -1000000002, N1, 21, fun F n hF => ?_⟩
        simp [zg_0, zg_aload_n, zg_bipush, zg_getfield, zg_goto, zg_iadd, zg_iaload, zg_iastore, zg_iconst, zg_ifCond, zg_if_icmp, zg_iload, zg_iload_n, zg_imul, zg_invokestatic, zg_invokevirtual, zg_ireturn, zg_istore, zg_isub, zg_ldc, zg_sipush, zf_X6_open, zi_ld, zi_lda, zi_cmp, zi_retOk, zi_isI, zi_f3, zi_cr, zi_ci, zi_cn, zi_get, zi_set, zM_g, cM, zq_Mod_freeNumber, E1 F (by omega), m2, c4, zm_iald (k := 0) zM_A234 ij, cj, c5, m1, n2]
      · rw [if_neg c5] at eo
        obtain ⟨s, hs, hh, h3, -⟩ := h.2.2.2.2.2.1 j hj j0 c5
        have m3 : (0 : Int32) ≤ nI s := Int32.not_lt.mp (nI_pos (by omega))
        refine Or.inr ⟨k, s, hk, hs, p, q, eo.trans hh, h3, N1, 22, fun F n hF => ?_⟩
        simp [zg_0, zg_aload_n, zg_bipush, zg_getfield, zg_goto, zg_iadd, zg_iaload, zg_iastore, zg_iconst, zg_ifCond, zg_if_icmp, zg_iload, zg_iload_n, zg_imul, zg_invokestatic, zg_invokevirtual, zg_ireturn, zg_istore, zg_isub, zg_ldc, zg_sipush, zf_X6_open, zi_ld, zi_lda, zi_cmp, zi_retOk, zi_isI, zi_f3, zi_cr, zi_ci, zi_cn, zi_get, zi_set, zM_g, cM, zq_Mod_freeNumber, E1 F (by omega), m2, c4, zm_iald (k := 0) zM_A234 ij, zm_iald (k := 0) zM_A238 ij, cj, c5, hh, m3]
    · have eo : zv_osc μ row kd o = zv_sah μ row := if_neg c4
      obtain ⟨N2, E2⟩ := ze_MscreenAtHand (μ := μ) (D + 2) h.2.1.1 (fun x hx => ((h.2.1.2.2 x).mp hx).1)
      rcases zv_sah_or h row (fun _ hj => hj) with es | ⟨s, hs, es, h3⟩
      · rw [es] at E2 eo
        refine Or.inl ⟨Or.inr eo, -1000000002, N1 + N2, 15, fun F n hF => ?_⟩
        simp [zg_0, zg_aload_n, zg_bipush, zg_getfield, zg_goto, zg_iadd, zg_iaload, zg_iastore, zg_iconst, zg_ifCond, zg_if_icmp, zg_iload, zg_iload_n, zg_imul, zg_invokestatic, zg_invokevirtual, zg_ireturn, zg_istore, zg_isub, zg_ldc, zg_sipush, zf_X6_open, zi_ld, zi_lda, zi_cmp, zi_retOk, zi_isI, zi_f3, zi_cr, zi_ci, zi_cn, zi_get, zi_set, cM, zq_Mod_freeNumber, zq_Mod_screenAtHand, E1 F (by omega), E2 F (by omega), m2, c4, m1, n2]
      · rw [es] at E2 eo
        have m3 : (0 : Int32) ≤ nI s := Int32.not_lt.mp (nI_pos (by omega))
        refine Or.inr ⟨k, s, hk, hs, p, q, eo, h3, N1 + N2, 13, fun F n hF => ?_⟩
        simp [zg_0, zg_aload_n, zg_bipush, zg_getfield, zg_goto, zg_iadd, zg_iaload, zg_iastore, zg_iconst, zg_ifCond, zg_if_icmp, zg_iload, zg_iload_n, zg_imul, zg_invokestatic, zg_invokevirtual, zg_ireturn, zg_istore, zg_isub, zg_ldc, zg_sipush, zf_X6_open, zi_ld, zi_lda, zi_cmp, zi_retOk, zi_isI, zi_f3, zi_cr, zi_ci, zi_cn, zi_get, zi_set, cM, zq_Mod_freeNumber, zq_Mod_screenAtHand, E1 F (by omega), E2 F (by omega), m2, c4, m3]
  · rw [e] at E1
    refine Or.inl ⟨Or.inl (fun j hj => of_decide_eq_false (q j (Nat.zero_le _) (by omega))), -1000000003, N1, 7, fun F n hF => ?_⟩
    simp [zg_0, zg_aload_n, zg_bipush, zg_getfield, zg_goto, zg_iadd, zg_iaload, zg_iastore, zg_iconst, zg_ifCond, zg_if_icmp, zg_iload, zg_iload_n, zg_imul, zg_invokestatic, zg_invokevirtual, zg_ireturn, zg_istore, zg_isub, zg_ldc, zg_sipush, zf_X6_open, zi_ld, zi_lda, zi_cmp, zi_retOk, zi_isI, zi_f3, zi_cr, zi_ci, zi_cn, zi_get, zi_set, cM, zq_Mod_freeNumber, E1 F (by omega), m1, n3]
set_option maxRecDepth 100000 in
/-- 293 to 349: where a dialog is put -/
theorem zv_op3 (D : Nat) {j k s : Nat} {M : zm_M} (hj : j < 10) (hk : k < 10) (hs : s < 3) (ha : zv_arg M us j) {w v kd g : Int32} :
    ∃ M' p q L', ze_S (D + 28) 10 (some .int) zc_X6_open 293 [(7, .int (nI s)), (6, .int (nI k)), (5, .int g), (0, .ref 232), (1, .int kd), (2, .int w), (3, .int v), (4, .int (nI j))] [] (zm_mk M) 349 L' [] (zm_mk (zv_put M' k s p q)) ∧ zi_get L' 0 = some (.ref 232) ∧ zi_get L' 6 = some (.int (nI k)) ∧ zM_fr M M' := by
  have a1 : nI 1 = (1 : Int32) := by decide
  have a2 : nI 2 = (2 : Int32) := by decide
  have a3 : nI 3 = (3 : Int32) := by decide
  have a4 : nI 4 = (4 : Int32) := by decide
  obtain ⟨l0, c0⟩ := zM_c (μ := M)
  obtain ⟨M1, v1, ⟨N1, E1⟩, f1⟩ := ze_MareaOfG (μ := M) D hj ha (a := 1) (by decide)
  obtain ⟨l1, c1⟩ := zM_c (μ := M1)
  obtain ⟨M2, v2, ⟨N2, E2⟩, f2⟩ := ze_MareaOfG (μ := M1) D hj (ha.fr f1) (a := 3) (by decide)
  obtain ⟨l2, c2⟩ := zM_c (μ := M2)
  obtain ⟨M3, v3, ⟨N3, E3⟩, f3⟩ := ze_MareaOfG (μ := M2) D hj ((ha.fr f1).fr f2) (a := 2) (by decide)
  obtain ⟨l3, c3⟩ := zM_c (μ := M3)
  obtain ⟨M4, v4, ⟨N4, E4⟩, f4⟩ := ze_MareaOfG (μ := M3) D hj (((ha.fr f1).fr f2).fr f3) (a := 4) (by decide)
  obtain ⟨l4, c4⟩ := zM_c (μ := M4)
  rw [a1] at E1
  rw [a3] at E2
  rw [a2] at E3
  rw [a4] at E4
  obtain ⟨d1, hd1⟩ := zv_opq v2 w
  obtain ⟨d2, hd2⟩ := zv_opq v4 v
  obtain ⟨r1, N5, E5⟩ := ze_Mhalf (h := zm_mk M2) (D + 27) d1
  obtain ⟨r2, N6, E6⟩ := ze_Mhalf (h := zm_mk M4) (D + 27) d2
  obtain ⟨x, hx⟩ : ∃ x, v1 + r1 = x := ⟨_, rfl⟩
  obtain ⟨y, hy⟩ : ∃ y, v3 + r2 = y := ⟨_, rfl⟩
  obtain ⟨p, q, ⟨N7, E7⟩, -, -⟩ := ze_MputAt (μ := M4) (D + 26) hk hs x y
  have S1 : ze_S (D + 28) 10 (some .int) zc_X6_open 293 [(7, .int (nI s)), (6, .int (nI k)), (5, .int g), (0, .ref 232), (1, .int kd), (2, .int w), (3, .int v), (4, .int (nI j))] [] (zm_mk M) 315 [(8, .int x), (7, .int (nI s)), (6, .int (nI k)), (5, .int g), (0, .ref 232), (1, .int kd), (2, .int w), (3, .int v), (4, .int (nI j))] [] (zm_mk M2) := by
    refine ⟨N1 + N2 + N5, 13, fun F m hF => ?_⟩
    simp [zg_0, zg_aload_n, zg_bipush, zg_getfield, zg_goto, zg_iadd, zg_iaload, zg_iastore, zg_iconst, zg_ifCond, zg_if_icmp, zg_iload, zg_iload_n, zg_imul, zg_invokestatic, zg_invokevirtual, zg_ireturn, zg_istore, zg_isub, zg_ldc, zg_sipush, zf_X6_open, zi_ld, zi_lda, zi_cmp, zi_retOk, zi_isI, zi_f3, zi_cr, zi_ci, zi_cn, zi_get, zi_set, c0, c1, zq_Mod_areaOf, zq_Mod_half, E1 F (by omega), E2 F (by omega), E5 F (by omega), hd1, hx]
  have S2 : ze_S (D + 28) 10 (some .int) zc_X6_open 315 [(8, .int x), (7, .int (nI s)), (6, .int (nI k)), (5, .int g), (0, .ref 232), (1, .int kd), (2, .int w), (3, .int v), (4, .int (nI j))] [] (zm_mk M2) 337 [(9, .int y), (8, .int x), (7, .int (nI s)), (6, .int (nI k)), (5, .int g), (0, .ref 232), (1, .int kd), (2, .int w), (3, .int v), (4, .int (nI j))] [] (zm_mk M4) := by
    refine ⟨N3 + N4 + N6, 13, fun F m hF => ?_⟩
    simp [zg_0, zg_aload_n, zg_bipush, zg_getfield, zg_goto, zg_iadd, zg_iaload, zg_iastore, zg_iconst, zg_ifCond, zg_if_icmp, zg_iload, zg_iload_n, zg_imul, zg_invokestatic, zg_invokevirtual, zg_ireturn, zg_istore, zg_isub, zg_ldc, zg_sipush, zf_X6_open, zi_ld, zi_lda, zi_cmp, zi_retOk, zi_isI, zi_f3, zi_cr, zi_ci, zi_cn, zi_get, zi_set, c2, c3, zq_Mod_areaOf, zq_Mod_half, E3 F (by omega), E4 F (by omega), E6 F (by omega), hd2, hy]
  refine ⟨M4, p, q, [(9, .int y), (8, .int x), (7, .int (nI s)), (6, .int (nI k)), (5, .int g), (0, .ref 232), (1, .int kd), (2, .int w), (3, .int v), (4, .int (nI j))], S1.trans (S2.trans ⟨N7, 6, fun F m hF => ?_⟩), rfl, rfl, ((f1.trans f2).trans f3).trans f4⟩
  simp [zg_0, zg_aload_n, zg_bipush, zg_getfield, zg_goto, zg_iadd, zg_iaload, zg_iastore, zg_iconst, zg_ifCond, zg_if_icmp, zg_iload, zg_iload_n, zg_imul, zg_invokestatic, zg_invokevirtual, zg_ireturn, zg_istore, zg_isub, zg_ldc, zg_sipush, zf_X6_open, zi_ld, zi_lda, zi_cmp, zi_retOk, zi_isI, zi_f3, zi_cr, zi_ci, zi_cn, zi_get, zi_set, c4, zq_Mod_putAt, E7 F (by omega)]
end ZWQ
