/-! the reference: comesBack, what was kept is gathered -/
section ZVK
variable {μ : zm_M}
set_option maxRecDepth 100000 in
theorem zv_comes0 (D : Nat) {s : Nat} (hs : s < 3) (hb : ∀ k, k < 10 → μ 252 (10 * s + k) = 0 ∨ μ 252 (10 * s + k) = 1) :
    ∃ L' h', ze_S D 4 (some .boolean) zc_X6_comesBack 2 [(2, .int (nI 0)), (0, .ref 232), (1, .int (nI s))] [] (zm_mk μ) 31 L' [] h' ∧ (zi_nl L' = true ∧ zi_get L' 0 = some (.ref 232) ∧ zi_get L' 1 = some (.int (nI s)) ∧ ∃ ν, zm_mk ν = h' ∧ zv_cm ν (fun k => decide (¬ μ 252 (10 * s + k) = 0)) ∧ ∀ c d, c ≠ 260 → ν c d = μ c d) := by
  have h10 : (Int8.ofInt 10).toInt32 = (10 : Int32) := by decide
  have mk : (10 : Int32) * nI s = nI (10 * s) := nI_mul10 (by omega)
  refine ze_loopS (Q := fun i L hp => i ≤ 10 ∧ zi_nl L = true ∧ zi_get L 0 = some (.ref 232) ∧ zi_get L 1 = some (.int (nI s)) ∧ zi_get L 2 = some (.int (nI i)) ∧ ∃ ξ : zm_M, zm_mk ξ = hp ∧ (∀ j, j < i → ξ 260 j = if decide (¬ μ 252 (10 * s + j) = 0) = true then 1 else 0) ∧ (∀ c d, c ≠ 260 → ξ c d = μ c d) ∧ (True)) (R := fun L' h' => zi_nl L' = true ∧ zi_get L' 0 = some (.ref 232) ∧ zi_get L' 1 = some (.int (nI s)) ∧ ∃ ν, zm_mk ν = h' ∧ zv_cm ν (fun k => decide (¬ μ 252 (10 * s + k) = 0)) ∧ ∀ c d, c ≠ 260 → ν c d = μ c d) 10 ?_ ?_ 10 0 _ _ (by omega) ⟨by omega, rfl, rfl, rfl, rfl, μ, rfl, (fun j hj => absurd hj (by omega)), (fun _ _ _ => rfl), trivial⟩
  · rintro i L _ hi ⟨-, nl, g0, g1, g2, ξ, rfl, f1, f2, hq⟩
    have c1 : ¬ (10 : Int32) ≤ nI i := nI_ge (b := 10) hi (by decide)
    have ik : zi_in (nI i) 10 = true := zm_in hi (by decide)
    have ck : (nI i).toNatClampNeg = i := nI_clamp (by omega)
    have ij : zi_in (nI (10 * s + i)) 30 = true := zm_in (by omega) (by decide)
    have cj : (nI (10 * s + i)).toNatClampNeg = 10 * s + i := nI_clamp (by omega)
    have e2 : ξ 252 (10 * s + i) = μ 252 (10 * s + i) := f2 _ _ (by decide)
    have hbi := hb i hi
    have u : ∀ j, j < i + 1 → zm_up ξ 260 i (μ 252 (10 * s + i)) 260 j = if decide (¬ μ 252 (10 * s + j) = 0) = true then 1 else 0 := fun j hj => by
      rw [zm_up_pt]
      by_cases e : j = i
      · rw [if_pos e, e]
        rcases hbi with h | h
        · rw [h]; rfl
        · rw [h]; rfl
      · rw [if_neg e]; exact f1 j (by omega)
    have fr : ∀ c d, c ≠ 260 → zm_up ξ 260 i (μ 252 (10 * s + i)) c d = μ c d := fun c d h => by
      rw [zm_up_ne (by omega)]; exact f2 c d h
    generalize μ 252 (10 * s + i) = x at e2 hbi u fr
    refine ⟨zi_set L 2 (.int (nI (i + 1))), zm_mk (zm_up ξ 260 i x), ⟨0, 17, fun F m hF => ?_⟩, by omega, ?_, ?_, ?_, zi_get_set_eq, _, rfl, u, fr, trivial⟩
    · simp (maxDischargeDepth := 9) [zg_0, zg_aload_n, zg_baload, zg_bastore, zg_bipush, zg_getfield, zg_goto, zg_iadd, zg_iaload, zg_iconst, zg_ifCond, zg_if_icmp, zg_iinc, zg_iload_n, zg_imul, zg_invokevirtual, zg_ireturn, zg_istore_n, zf_X6_comesBack, zi_ld, zi_lda, zi_cmp, zi_retOk, zi_isI, zi_f3, zi_cr, zi_ci, zi_cn, zi_get_ne, zi_nl_i, zi_nl_r, zi_get_set_eq, nl, g0, g1, g2, h10, c1, zM_g, mk, nI_add, zm_bald zM_A252 ij, cj, e2, zm_bast zM_A260 ik hbi, ck, nI_1]
    · simp (maxDischargeDepth := 9) [zi_get_ne, zi_nl_i, zi_nl_r, zi_get_set_eq, nl]
    · simp (maxDischargeDepth := 9) [zi_get_ne, zi_nl_i, zi_nl_r, zi_get_set_eq, nl, g0]
    · simp (maxDischargeDepth := 9) [zi_get_ne, zi_nl_i, zi_nl_r, zi_get_set_eq, nl, g1]
  · rintro L _ ⟨-, nl, g0, g1, g2, ξ, rfl, f1, f2, hq⟩
    have c1 : (10 : Int32) ≤ nI 10 := by decide
    refine ⟨L, zm_mk ξ, ⟨0, 3, fun F m hF => ?_⟩, nl, g0, g1, ξ, rfl, f1, f2⟩
    simp (maxDischargeDepth := 9) [zg_0, zg_aload_n, zg_baload, zg_bastore, zg_bipush, zg_getfield, zg_goto, zg_iadd, zg_iaload, zg_iconst, zg_ifCond, zg_if_icmp, zg_iinc, zg_iload_n, zg_imul, zg_invokevirtual, zg_ireturn, zg_istore_n, zf_X6_comesBack, zi_ld, zi_lda, zi_cmp, zi_retOk, zi_isI, zi_f3, zi_cr, zi_ci, zi_cn, zi_get_ne, zi_nl_i, zi_nl_r, zi_get_set_eq, nl, g0, g1, g2, h10, c1, nI_1]
end ZVK
