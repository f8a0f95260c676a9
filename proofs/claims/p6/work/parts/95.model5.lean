/-! the reference: newLeaf, addTab, clearTree -/
section ZM5
variable {μ : zm_M} {τ : Nat}
set_option maxRecDepth 100000 in
theorem ze_MnewLeaf (D : Nat) (ht : τ < 7) (x : Int32) (h : ∃ u, u < 24 ∧ μ 244 (24 * τ + u) = 0) : ∃ f, (f < 24 ∧ μ 244 (24 * τ + f) = 0) ∧ ze_E (D + 3) A_Mod_newLeaf [.ref 232, .int (nI τ), .int x] (zm_mk μ) (some (.int (nI f))) (zm_mk (zm_up (zm_up (zm_up (zm_up (zm_up μ 244 (24 * τ + f) 1) 249 (24 * τ + f) 0) 248 (10 * (24 * τ + f)) x) 249 (24 * τ + f) 1) 250 (24 * τ + f) x)) := by
  have h10 : (Int8.ofInt 10).toInt32 = (10 : Int32) := by decide
  obtain ⟨f, ⟨f1, f2⟩, N1, E1⟩ := ze_MnewNode' (μ := μ) D ht 1 h
  have ia : zi_in (nI (24 * τ + f)) 168 = true := zm_in (by omega) (by decide)
  have ca : (nI (24 * τ + f)).toNatClampNeg = 24 * τ + f := nI_clamp (by omega)
  have m10 : (10 : Int32) * nI (24 * τ + f) = nI (10 * (24 * τ + f)) := nI_mul10 (by omega)
  have ij : zi_in (nI (10 * (24 * τ + f))) 1680 = true := zm_in (by omega) (by decide)
  have cj : (nI (10 * (24 * τ + f))).toNatClampNeg = 10 * (24 * τ + f) := nI_clamp (by omega)
  refine ⟨f, ⟨f1, f2⟩, ?_⟩
  have sp := fun ν : zm_M => ze_spot (h := zm_mk ν) (n := f) (D + 1) ht
  generalize 24 * τ + f = a at E1 ia ca m10 ij cj sp
  obtain ⟨N2, E2⟩ := sp (zm_up (zm_up μ 244 a 1) 249 a 0)
  obtain ⟨N3, E3⟩ := sp (zm_up (zm_up (zm_up μ 244 a 1) 249 a 0) 248 (10 * a) x)
  obtain ⟨N4, E4⟩ := sp (zm_up (zm_up (zm_up (zm_up μ 244 a 1) 249 a 0) 248 (10 * a) x) 249 a 1)
  obtain ⟨lm, cm⟩ := zM_c (μ := μ)
  refine ze_in [(0, .ref 232), (1, .int (nI τ)), (2, .int x)] zq_Mod_newLeaf (Nat.le_of_ble_eq_true rfl) rfl ⟨N1 + N2 + N3 + N4, 30, fun F n hF => ?_⟩
  simp [zg_0, zg_aload_n, zg_bipush, zg_getfield, zg_iastore, zg_iconst, zg_iload_n, zg_imul, zg_invokestatic, zg_invokevirtual, zg_ireturn, zg_istore_n, zf_X6_newLeaf, zi_ld, zi_lda, zi_cmp, zi_retOk, zi_isI, zi_f3, zi_cr, zi_ci, zi_cn, zi_get, zi_set, h10, zq_Mod_newNode, cm, E1 F (by omega), zM_g, zq_Mod_spot, E2 F (by omega), E3 F (by omega), E4 F (by omega), m10, zm_iast zM_A248 ij, cj, zm_iast zM_A249 ia, zm_iast zM_A250 ia, ca]
end ZM5
