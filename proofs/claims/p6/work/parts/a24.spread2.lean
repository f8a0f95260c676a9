/-! the reference: spread whole -/
section ZVJ
variable {μ : zm_M} {dl : Nat → Bool} {ow : Nat → Nat} {g : Nat → Bool}
set_option maxRecDepth 100000 in
theorem ze_Mspread (D : Nat) (hg : zv_cm μ g) (ho : zv_ow μ dl ow) : ∃ ν, ze_E (D + 1) A_Mod_spread [.ref 232] (zm_mk μ) none (zm_mk ν) ∧ zv_cm ν (zl_spn dl ow g 10) ∧ ∀ c d, c ≠ 260 → ν c d = μ c d := by
  have h10 : (Int8.ofInt 10).toInt32 = (10 : Int32) := by decide
  have key : ∃ r h', ze_G D 3 none zc_X6_spread 2 [(1, .int (nI 0)), (0, .ref 232)] [] (zm_mk μ) r h' ∧ (r = none ∧ ∃ ν, zm_mk ν = h' ∧ zv_cm ν (zl_spn dl ow g 10) ∧ ∀ c d, c ≠ 260 → ν c d = μ c d) := by
    refine ze_loop (Q := fun i L hp => i ≤ 10 ∧ zi_nl L = true ∧ zi_get L 0 = some (.ref 232) ∧ zi_get L 1 = some (.int (nI i)) ∧ ∃ ξ : zm_M, zm_mk ξ = hp ∧ (zv_cm ξ (zl_spn dl ow g i)) ∧ (∀ c d, c ≠ 260 → ξ c d = μ c d) ∧ (True)) (R := fun r h' => r = none ∧ ∃ ν, zm_mk ν = h' ∧ zv_cm ν (zl_spn dl ow g 10) ∧ ∀ c d, c ≠ 260 → ν c d = μ c d) 10 ?_ ?_ 10 0 _ _ (by omega) ⟨by omega, rfl, rfl, rfl, μ, rfl, hg, (fun _ _ _ => rfl), trivial⟩
    · rintro i L _ hi ⟨-, nl, g0, g1, ξ, rfl, f1, f2, hq⟩
      have c1 : ¬ (10 : Int32) ≤ nI i := nI_ge (b := 10) hi (by decide)
      have b0 : zi_nl (zi_set L 2 (.int (nI 0))) = true := by simp (maxDischargeDepth := 9) [zi_get_ne, zi_nl_i, zi_nl_r, zi_get_set_eq, nl]
      have b1 : zi_get (zi_set L 2 (.int (nI 0))) 0 = some (.ref 232) := by simp (maxDischargeDepth := 9) [zi_get_ne, zi_nl_i, zi_nl_r, zi_get_set_eq, nl, g0]
      have b2 : zi_get (zi_set L 2 (.int (nI 0))) 1 = some (.int (nI i)) := by simp (maxDischargeDepth := 9) [zi_get_ne, zi_nl_i, zi_nl_r, zi_get_set_eq, nl, g1]
      have ho' : zv_ow ξ dl ow := fun x hx => by
        rw [f2 _ _ (by decide), f2 _ _ (by decide)]
        exact ho x hx
      obtain ⟨L', h', s, nl', p0, p1, ν, rfl, p3, p4⟩ := zv_spread1 (μ := ξ) (dl := dl) (ow := ow) D hi _ b0 b1 b2 zi_get_set_eq f1 ho'
      left
      refine ⟨L', zm_mk ν, ze_S.trans ⟨0, 5, fun F m hF => ?_⟩ s, by omega, nl', p0, p1, ν, rfl, p3, (fun c d h => (p4 c d h).trans (f2 c d h)), trivial⟩
      simp (maxDischargeDepth := 9) [zg_0, zg_aload_n, zg_baload, zg_bastore, zg_bipush, zg_getfield, zg_goto, zg_iaload, zg_iconst, zg_ifCond, zg_if_icmp, zg_iinc, zg_iload_n, zg_istore_n, zg_return, zf_X6_spread, zi_ld, zi_lda, zi_cmp, zi_retOk, zi_isI, zi_f3, zi_cr, zi_ci, zi_cn, zi_get_ne, zi_nl_i, zi_nl_r, zi_get_set_eq, nl, g0, g1, h10, c1, nI_0]
    · rintro L _ ⟨-, nl, g0, g1, ξ, rfl, f1, f2, hq⟩
      have c1 : (10 : Int32) ≤ nI 10 := by decide
      refine ⟨none, zm_mk ξ, ⟨0, 4, fun F m hF => ?_⟩, rfl, ξ, rfl, f1, f2⟩
      simp [zg_0, zg_aload_n, zg_baload, zg_bastore, zg_bipush, zg_getfield, zg_goto, zg_iaload, zg_iconst, zg_ifCond, zg_if_icmp, zg_iinc, zg_iload_n, zg_istore_n, zg_return, zf_X6_spread, zi_ld, zi_lda, zi_cmp, zi_retOk, zi_isI, zi_f3, zi_cr, zi_ci, zi_cn, g0, g1, h10, c1]
  obtain ⟨r, h', G, rfl, ν, rfl, f⟩ := key
  refine ⟨ν, ze_in [(0, .ref 232)] zq_Mod_spread (Nat.le_of_ble_eq_true rfl) rfl (ze_S.end ⟨0, 2, fun F m hF => ?_⟩ G), f⟩
  simp [zg_0, zg_aload_n, zg_baload, zg_bastore, zg_bipush, zg_getfield, zg_goto, zg_iaload, zg_iconst, zg_ifCond, zg_if_icmp, zg_iinc, zg_iload_n, zg_istore_n, zg_return, zf_X6_spread, zi_ld, zi_lda, zi_cmp, zi_retOk, zi_isI, zi_f3, zi_cr, zi_ci, zi_cn, zi_get, zi_set, nI_0]
set_option maxRecDepth 100000 in
theorem ze_MplaceIn (D : Nat) {C : Nat} (hC : zm_isA 7 C 10) {n : Nat} (hn : n ≤ 10) (x : Int32) : ∃ v, ze_E (D + 1) A_Mod_placeIn [.ref (C + 1), .int (nI n), .int x] (zm_mk μ) (some (.int v)) (zm_mk μ) := by
  have key : ∃ r h', ze_G D 4 (some .int) zc_X6_placeIn 2 [(3, .int (nI 0)), (0, .ref (C + 1)), (1, .int (nI n)), (2, .int x)] [] (zm_mk μ) r h' ∧ ((∃ v, r = some (.int v)) ∧ zm_mk μ = h') := by
    refine ze_loop (Q := fun i L hp => i ≤ n ∧ zi_nl L = true ∧ zi_get L 0 = some (.ref (C + 1)) ∧ zi_get L 1 = some (.int (nI n)) ∧ zi_get L 2 = some (.int x) ∧ zi_get L 3 = some (.int (nI i)) ∧ zm_mk μ = hp ∧ (True)) (R := fun r h' => (∃ v, r = some (.int v)) ∧ zm_mk μ = h') n ?_ ?_ n 0 _ _ (by omega) ⟨by omega, rfl, rfl, rfl, rfl, rfl, rfl, trivial⟩
    · rintro i L _ hi ⟨-, nl, g0, g1, g2, g3, rfl, hq⟩
      have c1 : ¬ nI n ≤ nI i := nI_ge hi (by omega)
      have ik : zi_in (nI i) 10 = true := zm_in (by omega) (by decide)
      have ck : (nI i).toNatClampNeg = i := nI_clamp (by omega)
      by_cases c2 : μ C i = x
      · right
        refine ⟨some (.int (nI i)), zm_mk μ, ⟨0, 10, fun F m hF => ?_⟩, ⟨_, rfl⟩, rfl⟩
        simp (maxDischargeDepth := 9) [zg_0, zg_aload_n, zg_goto, zg_iaload, zg_iconst, zg_if_icmp, zg_iinc, zg_iload_n, zg_ireturn, zg_istore_n, zg_ldc_w, zf_X6_placeIn, zi_ld, zi_lda, zi_cmp, zi_retOk, zi_isI, zi_f3, zi_cr, zi_ci, zi_cn, zi_get_ne, zi_nl_i, zi_nl_r, zi_get_set_eq, nl, g0, g1, g2, g3, c1, zm_iald (k := 0) hC ik, ck, c2, nI_1]
      · left
        refine ⟨zi_set L 3 (.int (nI (i + 1))), zm_mk μ, ⟨0, 10, fun F m hF => ?_⟩, by omega, ?_, ?_, ?_, ?_, zi_get_set_eq, rfl, trivial⟩
        · simp (maxDischargeDepth := 9) [zg_0, zg_aload_n, zg_goto, zg_iaload, zg_iconst, zg_if_icmp, zg_iinc, zg_iload_n, zg_ireturn, zg_istore_n, zg_ldc_w, zf_X6_placeIn, zi_ld, zi_lda, zi_cmp, zi_retOk, zi_isI, zi_f3, zi_cr, zi_ci, zi_cn, zi_get_ne, zi_nl_i, zi_nl_r, zi_get_set_eq, nl, g0, g1, g2, g3, c1, zm_iald (k := 0) hC ik, ck, c2, nI_1]
        · simp (maxDischargeDepth := 9) [zi_get_ne, zi_nl_i, zi_nl_r, zi_get_set_eq, nl]
        · simp (maxDischargeDepth := 9) [zi_get_ne, zi_nl_i, zi_nl_r, zi_get_set_eq, nl, g0]
        · simp (maxDischargeDepth := 9) [zi_get_ne, zi_nl_i, zi_nl_r, zi_get_set_eq, nl, g1]
        · simp (maxDischargeDepth := 9) [zi_get_ne, zi_nl_i, zi_nl_r, zi_get_set_eq, nl, g2]
    · rintro L _ ⟨-, nl, g0, g1, g2, g3, rfl, hq⟩
      have c1 : nI n ≤ nI n := Int32.le_refl _
      refine ⟨some (.int (-1000000005)), zm_mk μ, ⟨0, 5, fun F m hF => ?_⟩, ⟨_, rfl⟩, rfl⟩
      simp [zg_0, zg_aload_n, zg_goto, zg_iaload, zg_iconst, zg_if_icmp, zg_iinc, zg_iload_n, zg_ireturn, zg_istore_n, zg_ldc_w, zf_X6_placeIn, zi_ld, zi_lda, zi_cmp, zi_retOk, zi_isI, zi_f3, zi_cr, zi_ci, zi_cn, g0, g1, g2, g3, c1]
  obtain ⟨r, h', G, ⟨v, rfl⟩, rfl⟩ := key
  refine ⟨v, ze_in [(0, .ref (C + 1)), (1, .int (nI n)), (2, .int x)] zq_Mod_placeIn (Nat.le_of_ble_eq_true rfl) rfl (ze_S.end ⟨0, 2, fun F m hF => ?_⟩ G)⟩
  simp [zg_0, zg_aload_n, zg_goto, zg_iaload, zg_iconst, zg_if_icmp, zg_iinc, zg_iload_n, zg_ireturn, zg_istore_n, zg_ldc_w, zf_X6_placeIn, zi_ld, zi_lda, zi_cmp, zi_retOk, zi_isI, zi_f3, zi_cr, zi_ci, zi_cn, zi_get, zi_set, nI_0]
end ZVJ
