/-! the reference: takesTrial -/
section ZVH
variable {μ : zm_M} {u : zy_F} {ab : Nat → Int32}
set_option maxRecDepth 100000 in
theorem ze_MtakesTrial (D : Nat) {s : Nat} (hs : s < 3) (hI : zu_I μ 6 u ab) (h0 : 0 ≤ μ 232 s) (h1 : 0 ≤ μ 233 s) : ze_E (D + 27) A_Mod_takesTrial [.ref 232, .int (nI s)] (zm_mk μ) (some (.int (if zu_fit μ 6 u (μ 232 s) (μ 233 s) = true then 1 else 0))) (zm_mk (if zu_fit μ 6 u (μ 232 s) (μ 233 s) = true then zu_cq μ 6 s 24 240 else μ)) := by
  obtain ⟨lc, cM⟩ := zM_c (μ := μ)
  have h6 : (Int8.ofInt 6).toInt32 = (6 : Int32) := by decide
  have n6 : nI 6 = (6 : Int32) := by decide
  have is : zi_in (nI s) 3 = true := zm_in hs (by decide)
  have cs : (nI s).toNatClampNeg = s := nI_clamp (by omega)
  obtain ⟨N1, E1⟩ := ze_Mfits (μ := μ) D (by decide : 6 < 7) hI h0 h1
  generalize hb : zu_fit μ 6 u (μ 232 s) (μ 233 s) = b at E1
  obtain ⟨N2, E2⟩ := ze_McopyTree (μ := μ) (D + 24) (f := 6) (t := s) (by decide) (by omega) (by omega)
  generalize zu_cq μ 6 s 24 240 = ν at E2
  rw [n6] at E1 E2
  by_cases c : b = true
  · rw [if_pos c] at E1 ⊢
    rw [if_pos c]
    refine ze_in [(0, .ref 232), (1, .int (nI s))] zq_Mod_takesTrial (Nat.le_of_ble_eq_true rfl) rfl ⟨N1 + N2, 18, fun F m hF => ?_⟩
    simp [zg_0, zg_aload_n, zg_bipush, zg_getfield, zg_iaload, zg_iconst, zg_ifCond, zg_iload_n, zg_invokevirtual, zg_ireturn, zf_X6_takesTrial, zi_ld, zi_lda, zi_cmp, zi_retOk, zi_isI, zi_f3, zi_cr, zi_ci, zi_cn, zi_get, zi_set, zM_g, cM, h6, zq_Mod_fits, zq_Mod_copyTree, E1 F (by omega), E2 F (by omega), zm_iald (k := 0) zM_A232 is, zm_iald (k := 0) zM_A233 is, cs]
  · rw [if_neg c] at E1 ⊢
    rw [if_neg c]
    refine ze_in [(0, .ref 232), (1, .int (nI s))] zq_Mod_takesTrial (Nat.le_of_ble_eq_true rfl) rfl ⟨N1, 14, fun F m hF => ?_⟩
    simp [zg_0, zg_aload_n, zg_bipush, zg_getfield, zg_iaload, zg_iconst, zg_ifCond, zg_iload_n, zg_invokevirtual, zg_ireturn, zf_X6_takesTrial, zi_ld, zi_lda, zi_cmp, zi_retOk, zi_isI, zi_f3, zi_cr, zi_ci, zi_cn, zi_get, zi_set, zM_g, cM, h6, zq_Mod_fits, E1 F (by omega), zm_iald (k := 0) zM_A232 is, zm_iald (k := 0) zM_A233 is, cs]
end ZVH
