/-! the reference: nodes taken and put in place -/
section ZM4
variable {μ : zm_M} {τ : Nat}
def zu_st (μ : zm_M) (τ : Nat) (c x y : Int32) : zm_M := if c < 0 then zm_up μ 243 τ y else if μ 245 (24 * τ + c.toNatClampNeg) = x then zm_up μ 245 (24 * τ + c.toNatClampNeg) y else zm_up μ 246 (24 * τ + c.toNatClampNeg) y
set_option maxRecDepth 100000 in
theorem ze_Mstand (D : Nat) (ht : τ < 7) {c : Int32} (hc : c < 0 ∨ ∃ n, n < 24 ∧ c = nI n) (x y : Int32) : ze_E (D + 2) A_Mod_stand [.ref 232, .int (nI τ), .int c, .int x, .int y] (zm_mk μ) none (zm_mk (zu_st μ τ c x y)) := by
  unfold zu_st
  by_cases c0 : c < 0
  · rw [if_pos c0]
    have c0' : ¬ (0 : Int32) ≤ c := Int32.not_le.mpr c0
    have it : zi_in (nI τ) 7 = true := zm_in ht (by decide)
    have ct : (nI τ).toNatClampNeg = τ := nI_clamp (by omega)
    refine ze_in [(0, .ref 232), (1, .int (nI τ)), (2, .int c), (3, .int x), (4, .int y)] zq_Mod_stand (Nat.le_of_ble_eq_true rfl) rfl ⟨0, 9, fun F m hF => ?_⟩
    simp [zg_0, zg_aload_n, zg_getfield, zg_goto, zg_iaload, zg_iastore, zg_ifCond, zg_if_icmp, zg_iload, zg_iload_n, zg_invokestatic, zg_return, zf_X6_stand, zi_ld, zi_lda, zi_cmp, zi_retOk, zi_isI, zi_f3, zi_cr, zi_ci, zi_cn, zi_get, zi_set, c0', zM_g, zm_iast zM_A243 it, ct]
  · rw [if_neg c0]
    obtain ⟨n, hn, rfl⟩ := hc.resolve_left c0
    have c0' : (0 : Int32) ≤ nI n := nI_pos' (by omega)
    obtain ⟨N1, E1⟩ := ze_spot (h := zm_mk μ) (n := n) D ht
    have ia : zi_in (nI (24 * τ + n)) 168 = true := zm_in (by omega) (by decide)
    have ca : (nI (24 * τ + n)).toNatClampNeg = 24 * τ + n := nI_clamp (by omega)
    have cn : (nI n).toNatClampNeg = n := nI_clamp (by omega)
    rw [cn]
    by_cases c1 : μ 245 (24 * τ + n) = x
    · rw [if_pos c1]
      refine ze_in [(0, .ref 232), (1, .int (nI τ)), (2, .int (nI n)), (3, .int x), (4, .int y)] zq_Mod_stand (Nat.le_of_ble_eq_true rfl) rfl ⟨N1, 19, fun F m hF => ?_⟩
      simp [zg_0, zg_aload_n, zg_getfield, zg_goto, zg_iaload, zg_iastore, zg_ifCond, zg_if_icmp, zg_iload, zg_iload_n, zg_invokestatic, zg_return, zf_X6_stand, zi_ld, zi_lda, zi_cmp, zi_retOk, zi_isI, zi_f3, zi_cr, zi_ci, zi_cn, zi_get, zi_set, c0', zM_g, zq_Mod_spot, E1 F (by omega), zm_iald (k := 0) zM_A245 ia, zm_iast zM_A245 ia, ca, c1]
    · rw [if_neg c1]
      refine ze_in [(0, .ref 232), (1, .int (nI τ)), (2, .int (nI n)), (3, .int x), (4, .int y)] zq_Mod_stand (Nat.le_of_ble_eq_true rfl) rfl ⟨N1, 18, fun F m hF => ?_⟩
      simp [zg_0, zg_aload_n, zg_getfield, zg_goto, zg_iaload, zg_iastore, zg_ifCond, zg_if_icmp, zg_iload, zg_iload_n, zg_invokestatic, zg_return, zf_X6_stand, zi_ld, zi_lda, zi_cmp, zi_retOk, zi_isI, zi_f3, zi_cr, zi_ci, zi_cn, zi_get, zi_set, c0', zM_g, zq_Mod_spot, E1 F (by omega), zm_iald (k := 0) zM_A245 ia, zm_iast zM_A246 ia, ca, c1]
set_option maxRecDepth 100000 in
/-- newNode: a free one is found, if there is one -/
theorem ze_MnewNode (D : Nat) (ht : τ < 7) (x : Int32) : ∀ (m i : Nat) (L : zi_Lc), (∃ u, i ≤ u ∧ u < i + m ∧ u < 24 ∧ μ 244 (24 * τ + u) = 0) → zi_nl L = true → zi_get L 0 = some (.ref 232) → zi_get L 1 = some (.int (nI τ)) → zi_get L 2 = some (.int x) → zi_get L 3 = some (.int (nI i)) →
    ∃ f, (i ≤ f ∧ f < 24 ∧ μ 244 (24 * τ + f) = 0) ∧ ze_G (D + 1) 4 (some .int) zc_X6_newNode 2 L [] (zm_mk μ) (some (.int (nI f))) (zm_mk (zm_up (zm_up μ 244 (24 * τ + f) x) 249 (24 * τ + f) 0)) := by
  intro m
  induction m with
  | zero =>
    rintro i L ⟨u, h1, h2, -⟩
    omega
  | succ m ih =>
    rintro i L ⟨u, h1, h2, h3, h4⟩ nl g0 g1 g2 g3
    have hi : i < 24 := by omega
    have ia : zi_in (nI (24 * τ + i)) 168 = true := zm_in (by omega) (by decide)
    have ca : (nI (24 * τ + i)).toNatClampNeg = 24 * τ + i := nI_clamp (by omega)
    by_cases c : μ 244 (24 * τ + i) = 0
    · obtain ⟨N1, E1⟩ := ze_spot (h := zm_mk μ) (n := i) D ht
      obtain ⟨N2, E2⟩ := ze_spot (h := zm_mk (zm_up μ 244 (24 * τ + i) x)) (n := i) D ht
      refine ⟨i, ⟨Nat.le_refl _, hi, c⟩, N1 + N2, 23, fun F n hF => ?_⟩
      simp (maxDischargeDepth := 9) [zg_0, zg_aload_n, zg_getfield, zg_goto, zg_iaload, zg_iastore, zg_iconst, zg_ifCond, zg_iinc, zg_iload_n, zg_invokestatic, zg_ireturn, zg_istore_n, zf_X6_newNode, zi_ld, zi_lda, zi_cmp, zi_retOk, zi_isI, zi_f3, zi_cr, zi_ci, zi_cn, zi_get_ne, zi_nl_i, zi_nl_r, zi_get_set_eq, nl, g0, g1, g2, g3, zM_g, zq_Mod_spot, E1 F (by omega), zm_iald (k := 0) zM_A244 ia, ca, c, zm_iast zM_A244 ia, E2 F (by omega), zm_iast zM_A249 ia]
    · obtain ⟨N1, E1⟩ := ze_spot (h := zm_mk μ) (n := i) D ht
      have hu : u ≠ i := fun e => c (e ▸ h4)
      obtain ⟨f, hf, G⟩ := ih (i + 1) (zi_set L 3 (.int (nI (i + 1)))) ⟨u, by omega, by omega, h3, h4⟩ (by simp (maxDischargeDepth := 9) [zi_get_ne, zi_nl_i, zi_nl_r, zi_get_set_eq, nl]) (by simp (maxDischargeDepth := 9) [zi_get_ne, zi_nl_i, zi_nl_r, zi_get_set_eq, nl, g0]) (by simp (maxDischargeDepth := 9) [zi_get_ne, zi_nl_i, zi_nl_r, zi_get_set_eq, nl, g1]) (by simp (maxDischargeDepth := 9) [zi_get_ne, zi_nl_i, zi_nl_r, zi_get_set_eq, nl, g2]) zi_get_set_eq
      refine ⟨f, ⟨by omega, hf.2⟩, ze_S.end (p2 := 2) (s2 := []) (h2 := zm_mk μ) ⟨N1, 9, fun F n hF => ?_⟩ G⟩
      simp (maxDischargeDepth := 9) [zg_0, zg_aload_n, zg_getfield, zg_goto, zg_iaload, zg_iastore, zg_iconst, zg_ifCond, zg_iinc, zg_iload_n, zg_invokestatic, zg_ireturn, zg_istore_n, zf_X6_newNode, zi_ld, zi_lda, zi_cmp, zi_retOk, zi_isI, zi_f3, zi_cr, zi_ci, zi_cn, zi_get_ne, zi_nl_i, zi_nl_r, zi_get_set_eq, nl, g0, g1, g2, g3, zM_g, zq_Mod_spot, E1 F (by omega), zm_iald (k := 0) zM_A244 ia, ca, c, nI_1]
set_option maxRecDepth 100000 in
theorem ze_MnewNode' (D : Nat) (ht : τ < 7) (x : Int32) (h : ∃ u, u < 24 ∧ μ 244 (24 * τ + u) = 0) : ∃ f, (f < 24 ∧ μ 244 (24 * τ + f) = 0) ∧ ze_E (D + 2) A_Mod_newNode [.ref 232, .int (nI τ), .int x] (zm_mk μ) (some (.int (nI f))) (zm_mk (zm_up (zm_up μ 244 (24 * τ + f) x) 249 (24 * τ + f) 0)) := by
  obtain ⟨u, h1, h2⟩ := h
  obtain ⟨f, ⟨-, f1, f2⟩, G⟩ := ze_MnewNode (μ := μ) D ht x 24 0 [(3, .int (nI 0)), (0, .ref 232), (1, .int (nI τ)), (2, .int x)] ⟨u, by omega, by omega, h1, h2⟩ rfl rfl rfl rfl rfl
  refine ⟨f, ⟨f1, f2⟩, ze_in [(0, .ref 232), (1, .int (nI τ)), (2, .int x)] zq_Mod_newNode (Nat.le_of_ble_eq_true rfl) rfl (ze_S.end ⟨0, 2, fun F n hF => ?_⟩ G)⟩
  simp [zg_0, zg_aload_n, zg_getfield, zg_goto, zg_iaload, zg_iastore, zg_iconst, zg_ifCond, zg_iinc, zg_iload_n, zg_invokestatic, zg_ireturn, zg_istore_n, zf_X6_newNode, zi_ld, zi_lda, zi_cmp, zi_retOk, zi_isI, zi_f3, zi_cr, zi_ci, zi_cn, zi_get, zi_set, nI_0]
end ZM4
