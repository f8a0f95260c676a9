/-! Tree.firstPart, divide, lay -/
section ZT7
variable {T : Nat} {μ : zm_M}
/-- how much of w the first one gets -/
def zy_fp (w sh l m : Int32) : Int32 := zi_bt l (w * sh / 100) (w - m)
set_option maxRecDepth 100000 in
theorem ze_Tree_firstPart (D : Nat) (h : zt_at T) {n i j a : Nat} (ha : a < 2) (hn : n < 19) (hi : i < 19) (hj : j < 19) (hfs : μ (T + 9) n = nI i) (hsd : μ (T + 10) n = nI j) :
    ze_E (D + 3) A_Tree_firstPart [.ref (T + 1), .int (nI n), .int (nI a)] (zm_mk μ) (some (.int (zy_fp (μ (T + 22 + a) n) (μ (T + 8) n) (μ (T + 16 + a) i) (μ (T + 16 + a) j)))) (zm_mk μ) := by
  obtain ⟨N, h1⟩ := ze_between (h := zm_mk μ) D (μ (T + 16 + a) i) (μ (T + 22 + a) n * μ (T + 8) n / 100) (μ (T + 22 + a) n - μ (T + 16 + a) j)
  obtain ⟨⟨y4, y15, y18, y21⟩, A5, A16, A19, A22⟩ := zt_axT (μ := μ) h ha
  have h100 : (Int8.ofInt 100).toInt32 = (100 : Int32) := by decide
  have i1 : zi_in (nI n) 19 = true := zm_in hn (by decide)
  have i2 : zi_in (nI i) 19 = true := zm_in hi (by decide)
  have i3 : zi_in (nI j) 19 = true := zm_in hj (by decide)
  have e1 : (nI n).toNatClampNeg = n := nI_clamp (by omega)
  have e2 : (nI i).toNatClampNeg = i := nI_clamp (by omega)
  have e3 : (nI j).toNatClampNeg = j := nI_clamp (by omega)
  refine ze_in [(0, .ref (T + 1)), (1, .int (nI n)), (2, .int (nI a))] zq_Tree_firstPart (Nat.le_of_ble_eq_true rfl) rfl ⟨N, 39, fun F m hF => ?_⟩
  simp [zg_0, zg_aaload, zg_aload_n, zg_bipush, zg_getfield, zg_iaload, zg_idiv, zg_iload, zg_iload_n, zg_imul, zg_invokestatic, zg_ireturn, zg_istore, zg_istore_n, zg_isub, zf_X3_firstPart, zi_ld, zi_lda, zi_cmp, zi_retOk, zi_isI, zi_f3, zi_cr, zi_ci, zi_cn, zi_get, zi_set, zt_g h, zt_ld h i1, e1, e2, e3, hfs, hsd, y15, y21, zm_iald (k := 0) A22 i1, zm_iald (k := 0) A16 i2, zm_iald (k := 0) A16 i3, h100, zq_Desk_between, h1 F hF, zy_fp]
def zt_u4 (μ : zm_M) (T i j a : Nat) (s1 l1 s2 l2 : Int32) : zm_M := zm_up (zm_up (zm_up (zm_up μ (T + 19 + a) i s1) (T + 22 + a) i l1) (T + 19 + a) j s2) (T + 22 + a) j l2
/-- one axis of divide -/
def zt_dx (μ : zm_M) (T n i j a : Nat) : zm_M :=
  if μ (T + 7) n = nI a then zt_u4 μ T i j a (μ (T + 19 + a) n) (zy_fp (μ (T + 22 + a) n) (μ (T + 8) n) (μ (T + 16 + a) i) (μ (T + 16 + a) j)) (μ (T + 19 + a) n + zy_fp (μ (T + 22 + a) n) (μ (T + 8) n) (μ (T + 16 + a) i) (μ (T + 16 + a) j)) (μ (T + 22 + a) n - zy_fp (μ (T + 22 + a) n) (μ (T + 8) n) (μ (T + 16 + a) i) (μ (T + 16 + a) j))
  else zt_u4 μ T i j a (μ (T + 19 + a) n) (μ (T + 22 + a) n) (μ (T + 19 + a) n) (μ (T + 22 + a) n)
set_option maxRecDepth 100000 in
theorem zt_divide_S (D : Nat) (h : zt_at T) {n i j a : Nat} (ha : a < 2) (hn : n < 19) (hi : i < 19) (hj : j < 19) (hfs : μ (T + 9) n = nI i) (hsd : μ (T + 10) n = nI j) (hni : n ≠ i) {L : zi_Lc} (nl : zi_nl L = true)
    (g0 : zi_get L 0 = some (.ref (T + 1))) (g1 : zi_get L 1 = some (.int (nI n))) (g2 : zi_get L 2 = some (.int (nI i))) (g3 : zi_get L 3 = some (.int (nI j))) (g4 : zi_get L 4 = some (.int (nI a))) :
    ∃ L', ze_S (D + 3) 8 none zc_X3_divide 17 L [] (zm_mk μ) 17 L' [] (zm_mk (zt_dx μ T n i j a)) ∧ zi_nl L' = true ∧ zi_get L' 0 = some (.ref (T + 1)) ∧ zi_get L' 1 = some (.int (nI n)) ∧ zi_get L' 2 = some (.int (nI i)) ∧ zi_get L' 3 = some (.int (nI j)) ∧ zi_get L' 4 = some (.int (nI (a + 1))) := by
  obtain ⟨N, h1⟩ := ze_Tree_firstPart D h ha hn hi hj hfs hsd
  obtain ⟨⟨y4, y15, y18, y21⟩, A5, A16, A19, A22⟩ := zt_axT (μ := μ) h ha
  obtain ⟨lc, cc⟩ := zt_c (μ := μ) h
  have ax : ∀ ν : zm_M, zi_aald (zm_mk ν) (nI a) (T + 18) = some (.ref (T + 19 + a + 1)) ∧ zi_aald (zm_mk ν) (nI a) (T + 21) = some (.ref (T + 22 + a + 1)) := fun ν => by
    obtain ⟨⟨-, -, z18, z21⟩, -⟩ := zt_axT (μ := ν) h ha
    exact ⟨z18, z21⟩
  have ca : ¬ (2 : Int32) ≤ nI a := nI_ge (b := 2) ha (by decide)
  have i1 : zi_in (nI n) 19 = true := zm_in hn (by decide)
  have i2 : zi_in (nI i) 19 = true := zm_in hi (by decide)
  have i3 : zi_in (nI j) 19 = true := zm_in hj (by decide)
  have e1 : (nI n).toNatClampNeg = n := nI_clamp (by omega)
  have e2 : (nI i).toNatClampNeg = i := nI_clamp (by omega)
  have e3 : (nI j).toNatClampNeg = j := nI_clamp (by omega)
  have u1 : ∀ x y, zm_up (zm_up μ (T + 19 + a) i x) (T + 22 + a) i y (T + 19 + a) n = μ (T + 19 + a) n := fun x y => by rw [zm_up_ne (by omega), zm_up_ne (by omega)]
  unfold zt_dx
  by_cases c : μ (T + 7) n = nI a
  · rw [if_pos c]
    generalize zy_fp (μ (T + 22 + a) n) (μ (T + 8) n) (μ (T + 16 + a) i) (μ (T + 16 + a) j) = f at h1
    refine ⟨zi_set (zi_set (zi_set (zi_set L 5 (.int (μ (T + 22 + a) n))) 6 (.int 1)) 7 (.int f)) 4 (.int (nI (a + 1))), ⟨N, 77, fun F m hF => ?_⟩, ?_, ?_, ?_, ?_, ?_, zi_get_set_eq⟩
    · simp (maxDischargeDepth := 9) [zg_0, zg_aaload, zg_aload_n, zg_getfield, zg_goto, zg_iadd, zg_iaload, zg_iastore, zg_iconst, zg_ifCond, zg_if_icmp, zg_iinc, zg_iload, zg_iload_n, zg_invokevirtual, zg_istore, zg_istore_n, zg_isub, zg_return, zf_X3_divide, zi_ld, zi_lda, zi_cmp, zi_retOk, zi_isI, zi_f3, zi_cr, zi_ci, zi_cn, zi_get_ne, zi_nl_i, zi_nl_r, zi_get_set_eq, nl, g0, g1, g2, g3, g4, ca, zt_g h, y21, y18, ax, zm_iald (k := 0) A22 i1, e1, zt_ld h i1, c, zq_Tree_firstPart, cc, h1 F hF, zm_iald (k := 0) A19 i1, zm_iast A19 i2, e2, zm_iast A22 i2, u1, zm_iast A19 i3, e3, zm_iast A22 i3, nI_1, zt_u4]
    · simp (maxDischargeDepth := 9) [zi_get_ne, zi_nl_i, zi_nl_r, zi_get_set_eq, nl]
    · simp (maxDischargeDepth := 9) [zi_get_ne, zi_nl_i, zi_nl_r, zi_get_set_eq, nl, g0]
    · simp (maxDischargeDepth := 9) [zi_get_ne, zi_nl_i, zi_nl_r, zi_get_set_eq, nl, g1]
    · simp (maxDischargeDepth := 9) [zi_get_ne, zi_nl_i, zi_nl_r, zi_get_set_eq, nl, g2]
    · simp (maxDischargeDepth := 9) [zi_get_ne, zi_nl_i, zi_nl_r, zi_get_set_eq, nl, g3]
  · rw [if_neg c]
    refine ⟨zi_set (zi_set (zi_set (zi_set L 5 (.int (μ (T + 22 + a) n))) 6 (.int 0)) 7 (.int (μ (T + 22 + a) n))) 4 (.int (nI (a + 1))), ⟨0, 66, fun F m hF => ?_⟩, ?_, ?_, ?_, ?_, ?_, zi_get_set_eq⟩
    · simp (maxDischargeDepth := 9) [zg_0, zg_aaload, zg_aload_n, zg_getfield, zg_goto, zg_iadd, zg_iaload, zg_iastore, zg_iconst, zg_ifCond, zg_if_icmp, zg_iinc, zg_iload, zg_iload_n, zg_invokevirtual, zg_istore, zg_istore_n, zg_isub, zg_return, zf_X3_divide, zi_ld, zi_lda, zi_cmp, zi_retOk, zi_isI, zi_f3, zi_cr, zi_ci, zi_cn, zi_get_ne, zi_nl_i, zi_nl_r, zi_get_set_eq, nl, g0, g1, g2, g3, g4, ca, zt_g h, y21, y18, ax, zm_iald (k := 0) A22 i1, e1, zt_ld h i1, c, zm_iald (k := 0) A19 i1, zm_iast A19 i2, e2, zm_iast A22 i2, u1, zm_iast A19 i3, e3, zm_iast A22 i3, nI_1, zt_u4]
    · simp (maxDischargeDepth := 9) [zi_get_ne, zi_nl_i, zi_nl_r, zi_get_set_eq, nl]
    · simp (maxDischargeDepth := 9) [zi_get_ne, zi_nl_i, zi_nl_r, zi_get_set_eq, nl, g0]
    · simp (maxDischargeDepth := 9) [zi_get_ne, zi_nl_i, zi_nl_r, zi_get_set_eq, nl, g1]
    · simp (maxDischargeDepth := 9) [zi_get_ne, zi_nl_i, zi_nl_r, zi_get_set_eq, nl, g2]
    · simp (maxDischargeDepth := 9) [zi_get_ne, zi_nl_i, zi_nl_r, zi_get_set_eq, nl, g3]
theorem zt_dx_row {n i j a c : Nat} (h1 : c ≠ T + 19 + a) (h2 : c ≠ T + 22 + a) : zt_dx μ T n i j a c = μ c := by
  unfold zt_dx zt_u4
  split <;> rw [zm_up_row h2, zm_up_row h1, zm_up_row h2, zm_up_row h1]
set_option maxRecDepth 100000 in
theorem ze_Tree_divide (D : Nat) (h : zt_at T) {n i j : Nat} (hn : n < 19) (hi : i < 19) (hj : j < 19) (hfs : μ (T + 9) n = nI i) (hsd : μ (T + 10) n = nI j) (hni : n ≠ i) :
    ze_E (D + 4) A_Tree_divide [.ref (T + 1), .int (nI n)] (zm_mk μ) none (zm_mk (zt_dx (zt_dx μ T n i j 0) T n i j 1)) := by
  have i1 : zi_in (nI n) 19 = true := zm_in hn (by decide)
  have e1 : (nI n).toNatClampNeg = n := nI_clamp (by omega)
  have s0 : ze_S (D + 3) 8 none zc_X3_divide 0 [(0, .ref (T + 1)), (1, .int (nI n))] [] (zm_mk μ) 17 [(4, .int (nI 0)), (3, .int (nI j)), (2, .int (nI i)), (0, .ref (T + 1)), (1, .int (nI n))] [] (zm_mk μ) := by
    refine ⟨0, 12, fun F m _ => ?_⟩
    simp [zg_0, zg_aaload, zg_aload_n, zg_getfield, zg_goto, zg_iadd, zg_iaload, zg_iastore, zg_iconst, zg_ifCond, zg_if_icmp, zg_iinc, zg_iload, zg_iload_n, zg_invokevirtual, zg_istore, zg_istore_n, zg_isub, zg_return, zf_X3_divide, zi_ld, zi_lda, zi_cmp, zi_retOk, zi_isI, zi_f3, zi_cr, zi_ci, zi_cn, zi_get, zi_set, zt_g h, zt_ld h i1, e1, hfs, hsd, nI_0]
  obtain ⟨L1, s1, nl1, a0, a1, a2, a3, a4⟩ := zt_divide_S D h (a := 0) (by decide) hn hi hj hfs hsd hni (L := [(4, .int (nI 0)), (3, .int (nI j)), (2, .int (nI i)), (0, .ref (T + 1)), (1, .int (nI n))]) rfl rfl rfl rfl rfl rfl
  obtain ⟨L2, s2, nl2, b0, b1, b2, b3, b4⟩ := zt_divide_S (μ := zt_dx μ T n i j 0) D h (a := 1) (by decide) hn hi hj (by rw [zt_dx_row (by omega) (by omega)]; exact hfs) (by rw [zt_dx_row (by omega) (by omega)]; exact hsd) hni nl1 a0 a1 a2 a3 a4
  refine ze_in [(0, .ref (T + 1)), (1, .int (nI n))] zq_Tree_divide (Nat.le_of_ble_eq_true rfl) rfl (((s0.trans s1).trans s2).end ⟨0, 4, fun F m _ => ?_⟩)
  have n2 : nI (1 + 1) = 2 := by decide
  simp [zg_0, zg_aaload, zg_aload_n, zg_getfield, zg_goto, zg_iadd, zg_iaload, zg_iastore, zg_iconst, zg_ifCond, zg_if_icmp, zg_iinc, zg_iload, zg_iload_n, zg_invokevirtual, zg_istore, zg_istore_n, zg_isub, zg_return, zf_X3_divide, zi_ld, zi_lda, zi_cmp, zi_retOk, zi_isI, zi_f3, zi_cr, zi_ci, zi_cn, b4, n2]
end ZT7
