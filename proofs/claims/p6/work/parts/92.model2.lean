/-! the reference: tabs of a leaf -/
theorem nI_mul10 {s : Nat} (hs : s < 168) : (10 : Int32) * nI s = nI (10 * s) := by
  have : ∀ s, s < 168 → (10 : Int32) * nI s = nI (10 * s) := by decide +kernel
  exact this s hs
/-- the tabs of the node n of the tree τ -/
def zu_T (μ : zm_M) (τ n : Nat) (l : List Nat) : Prop := l.length ≤ 10 ∧ μ 249 (24 * τ + n) = nI l.length ∧ ∀ j, j < l.length → μ 248 (10 * (24 * τ + n) + j) = nI (l.getD j 0)
section ZM2
variable {μ : zm_M} {τ n : Nat} {l : List Nat}
set_option maxRecDepth 100000 in
theorem ze_placeOfTab (D : Nat) (ht : τ < 7) (hn : n < 24) (hT : zu_T μ τ n l) (hb : ∀ x ∈ l, x < 10) {k : Nat} (hk : k < 10) : ze_E (D + 2) A_Mod_placeOfTab [.ref 232, .int (nI τ), .int (nI n), .int (nI k)] (zm_mk μ) (some (.int (zr_ix l k 0))) (zm_mk μ) := by
  obtain ⟨hl, t1, t2⟩ := hT
  have h10 : (Int8.ofInt 10).toInt32 = (10 : Int32) := by decide
  obtain ⟨N1, E1⟩ := ze_spot (h := zm_mk μ) (n := n) D ht
  have ia : zi_in (nI (24 * τ + n)) 168 = true := zm_in (by omega) (by decide)
  have ca : (nI (24 * τ + n)).toNatClampNeg = 24 * τ + n := nI_clamp (by omega)
  have m10 : (10 : Int32) * nI (24 * τ + n) = nI (10 * (24 * τ + n)) := nI_mul10 (by omega)
  generalize 24 * τ + n = a at t1 t2 E1 ia ca m10
  have key : ∃ r h', ze_G (D + 1) 5 (some .int) zc_X6_placeOfTab 3 [(4, .int (nI 0)), (0, .ref 232), (1, .int (nI τ)), (2, .int (nI n)), (3, .int (nI k))] [] (zm_mk μ) r h' ∧ (r = some (.int (zr_ix l k 0)) ∧ zm_mk μ = h') := by
    refine ze_loop (Q := fun i L hp => i ≤ l.length ∧ zi_nl L = true ∧ zi_get L 0 = some (.ref 232) ∧ zi_get L 1 = some (.int (nI τ)) ∧ zi_get L 2 = some (.int (nI n)) ∧ zi_get L 3 = some (.int (nI k)) ∧ zi_get L 4 = some (.int (nI i)) ∧ zm_mk μ = hp ∧ (zr_ix l k 0 = zr_ix (l.drop i) k i)) (R := fun r h' => r = some (.int (zr_ix l k 0)) ∧ zm_mk μ = h') l.length ?_ ?_ l.length 0 _ _ (by omega) ⟨by omega, rfl, rfl, rfl, rfl, rfl, rfl, rfl, rfl⟩
    · rintro i L _ hi ⟨-, nl, g0, g1, g2, g3, g4, rfl, hq⟩
      have hm : l.getD i 0 ∈ l := zl_mem hi
      have tv := t2 i hi
      rw [zl_drop hi] at hq
      generalize l.getD i 0 = v at hm hq tv
      have hv := hb v hm
      have c1 : ¬ nI l.length ≤ nI i := nI_ge hi (by omega)
      have ij : zi_in (nI (10 * a + i)) 1680 = true := by
        have := (zi_in_lt ia).2
        rw [ca] at this
        exact zm_in (by omega) (by decide)
      have a168 := (zi_in_lt ia).2
      rw [ca] at a168
      have cj : (nI (10 * a + i)).toNatClampNeg = 10 * a + i := nI_clamp (by omega)
      have hq' : zr_ix l k 0 = if v = k then nI i else zr_ix (l.drop (i + 1)) k (i + 1) := hq
      by_cases c2 : v = k
      · rw [if_pos c2] at hq'
        subst c2
        right
        refine ⟨some (.int (nI i)), zm_mk μ, ⟨N1, 22, fun F m hF => ?_⟩, by rw [hq'], rfl⟩
        simp (maxDischargeDepth := 9) [zg_0, zg_aload_n, zg_bipush, zg_getfield, zg_goto, zg_iadd, zg_iaload, zg_iconst, zg_if_icmp, zg_iinc, zg_iload, zg_iload_n, zg_imul, zg_invokestatic, zg_ireturn, zg_istore, zf_X6_placeOfTab, zi_ld, zi_lda, zi_cmp, zi_retOk, zi_isI, zi_f3, zi_cr, zi_ci, zi_cn, zi_get_ne, zi_nl_i, zi_nl_r, zi_get_set_eq, nl, g0, g1, g2, g3, g4, zM_g, h10, zq_Mod_spot, E1 F (by omega), zm_iald (k := 0) zM_A249 ia, ca, t1, c1, m10, nI_add, zm_iald (k := 0) zM_A248 ij, cj, tv, nI_1]
      · rw [if_neg c2] at hq'
        have c2' : ¬ nI v = nI k := fun e => c2 ((nI_eq (by omega) (by omega)).mp e)
        left
        refine ⟨zi_set L 4 (.int (nI (i + 1))), zm_mk μ, ⟨N1, 22, fun F m hF => ?_⟩, by omega, ?_, ?_, ?_, ?_, ?_, zi_get_set_eq, rfl, hq'⟩
        · simp (maxDischargeDepth := 9) [zg_0, zg_aload_n, zg_bipush, zg_getfield, zg_goto, zg_iadd, zg_iaload, zg_iconst, zg_if_icmp, zg_iinc, zg_iload, zg_iload_n, zg_imul, zg_invokestatic, zg_ireturn, zg_istore, zf_X6_placeOfTab, zi_ld, zi_lda, zi_cmp, zi_retOk, zi_isI, zi_f3, zi_cr, zi_ci, zi_cn, zi_get_ne, zi_nl_i, zi_nl_r, zi_get_set_eq, nl, g0, g1, g2, g3, g4, zM_g, h10, zq_Mod_spot, E1 F (by omega), zm_iald (k := 0) zM_A249 ia, ca, t1, c1, m10, nI_add, zm_iald (k := 0) zM_A248 ij, cj, tv, c2', nI_1]
        · simp (maxDischargeDepth := 9) [zi_get_ne, zi_nl_i, zi_nl_r, zi_get_set_eq, nl]
        · simp (maxDischargeDepth := 9) [zi_get_ne, zi_nl_i, zi_nl_r, zi_get_set_eq, nl, g0]
        · simp (maxDischargeDepth := 9) [zi_get_ne, zi_nl_i, zi_nl_r, zi_get_set_eq, nl, g1]
        · simp (maxDischargeDepth := 9) [zi_get_ne, zi_nl_i, zi_nl_r, zi_get_set_eq, nl, g2]
        · simp (maxDischargeDepth := 9) [zi_get_ne, zi_nl_i, zi_nl_r, zi_get_set_eq, nl, g3]
    · rintro L _ ⟨-, nl, g0, g1, g2, g3, g4, rfl, hq⟩
      rw [List.drop_length] at hq
      have hq : zr_ix l k 0 = -1 := hq
      rw [hq]
      refine ⟨some (.int (-1)), zm_mk μ, ⟨N1, 10, fun F m hF => ?_⟩, rfl, rfl⟩
      simp [zg_0, zg_aload_n, zg_bipush, zg_getfield, zg_goto, zg_iadd, zg_iaload, zg_iconst, zg_if_icmp, zg_iinc, zg_iload, zg_iload_n, zg_imul, zg_invokestatic, zg_ireturn, zg_istore, zf_X6_placeOfTab, zi_ld, zi_lda, zi_cmp, zi_retOk, zi_isI, zi_f3, zi_cr, zi_ci, zi_cn, g0, g1, g2, g4, zM_g, zq_Mod_spot, E1 F (by omega), zm_iald (k := 0) zM_A249 ia, ca, t1]
  obtain ⟨r, h', G, rfl, rfl⟩ := key
  refine ze_in [(0, .ref 232), (1, .int (nI τ)), (2, .int (nI n)), (3, .int (nI k))] zq_Mod_placeOfTab (Nat.le_of_ble_eq_true rfl) rfl (ze_S.end ⟨0, 2, fun F m hF => ?_⟩ G)
  simp [zg_0, zg_aload_n, zg_bipush, zg_getfield, zg_goto, zg_iadd, zg_iaload, zg_iconst, zg_if_icmp, zg_iinc, zg_iload, zg_iload_n, zg_imul, zg_invokestatic, zg_ireturn, zg_istore, zf_X6_placeOfTab, zi_ld, zi_lda, zi_cmp, zi_retOk, zi_isI, zi_f3, zi_cr, zi_ci, zi_cn, zi_get, zi_set, nI_0]
end ZM2
