/-! the reference: addTab, clearTree -/
section ZM6
variable {μ : zm_M} {τ : Nat}
set_option maxRecDepth 100000 in
theorem ze_MaddTab (D : Nat) (ht : τ < 7) {n : Nat} (hn : n < 24) {l : List Nat} (hT : zu_T μ τ n l) (hl : l.length < 10) (x : Int32) : ze_E (D + 2) A_Mod_addTab [.ref 232, .int (nI τ), .int (nI n), .int x] (zm_mk μ) none (zm_mk (zm_up (zm_up μ 248 (10 * (24 * τ + n) + l.length) x) 249 (24 * τ + n) (nI (l.length + 1)))) := by
  have h10 : (Int8.ofInt 10).toInt32 = (10 : Int32) := by decide
  obtain ⟨-, t1, -⟩ := hT
  have ia : zi_in (nI (24 * τ + n)) 168 = true := zm_in (by omega) (by decide)
  have ca : (nI (24 * τ + n)).toNatClampNeg = 24 * τ + n := nI_clamp (by omega)
  have m10 : (10 : Int32) * nI (24 * τ + n) = nI (10 * (24 * τ + n)) := nI_mul10 (by omega)
  have ij : zi_in (nI (10 * (24 * τ + n) + l.length)) 1680 = true := zm_in (by omega) (by decide)
  have cj : (nI (10 * (24 * τ + n) + l.length)).toNatClampNeg = 10 * (24 * τ + n) + l.length := nI_clamp (by omega)
  have sp := fun ν : zm_M => ze_spot (h := zm_mk ν) (n := n) D ht
  generalize 24 * τ + n = a at t1 ia ca m10 ij cj sp
  obtain ⟨N1, E1⟩ := sp μ
  obtain ⟨N2, E2⟩ := sp (zm_up μ 248 (10 * a + l.length) x)
  have t1' : zm_up μ 248 (10 * a + l.length) x 249 a = nI l.length := by rw [zm_up_ne (by omega)]; exact t1
  refine ze_in [(0, .ref 232), (1, .int (nI τ)), (2, .int (nI n)), (3, .int x)] zq_Mod_addTab (Nat.le_of_ble_eq_true rfl) rfl ⟨N1 + N2, 27, fun F m hF => ?_⟩
  simp [zg_0, zg_aload_n, zg_bipush, zg_dup2, zg_getfield, zg_iadd, zg_iaload, zg_iastore, zg_iconst, zg_iload_n, zg_imul, zg_invokestatic, zg_return, zf_X6_addTab, zi_ld, zi_lda, zi_cmp, zi_retOk, zi_isI, zi_f3, zi_cr, zi_ci, zi_cn, zi_get, zi_set, h10, zM_g, zq_Mod_spot, E1 F (by omega), m10, zm_iald (k := 0) zM_A249 ia, ca, t1, nI_add, zm_iast zM_A248 ij, cj, E2 F (by omega), t1', zm_iast zM_A249 ia, nI_1]
theorem zu_T_add {n : Nat} {l : List Nat} (hT : zu_T μ τ n l) (hl : l.length < 10) (k : Nat) : zu_T (zm_up (zm_up μ 248 (10 * (24 * τ + n) + l.length) (nI k)) 249 (24 * τ + n) (nI (l.length + 1))) τ n (l ++ [k]) := by
  obtain ⟨t0, t1, t2⟩ := hT
  refine ⟨by rw [List.length_append]; exact hl, ?_, fun j hj => ?_⟩
  · rw [zm_up_eq, List.length_append]
    rfl
  · rw [List.length_append] at hj
    have hj : j < l.length + 1 := hj
    rw [zm_up_ne (by omega), zm_up_pt]
    by_cases e : j = l.length
    · rw [if_pos (by omega), e, zl_getD_r (Nat.le_refl _), Nat.sub_self]
      rfl
    · rw [if_neg (by omega), zl_getD_l (by omega)]
      exact t2 j (by omega)
set_option maxRecDepth 100000 in
theorem ze_MclearTree (D : Nat) (ht : τ < 7) : ∃ ν, ze_E (D + 2) A_Mod_clearTree [.ref 232, .int (nI τ)] (zm_mk μ) none (zm_mk ν) ∧ ν 243 τ = -1 ∧ (∀ n, n < 24 → ν 244 (24 * τ + n) = 0) ∧ ∀ c d, ¬ (c = 243 ∧ d = τ) → ¬ (c = 244 ∧ 24 * τ ≤ d ∧ d < 24 * τ + 24) → ν c d = μ c d := by
  have h24 : (Int8.ofInt 24).toInt32 = (24 : Int32) := by decide
  have it : zi_in (nI τ) 7 = true := zm_in ht (by decide)
  have ct : (nI τ).toNatClampNeg = τ := nI_clamp (by omega)
  have key : ∃ r h', ze_G (D + 1) 3 none zc_X6_clearTree 9 [(2, .int (nI 0)), (0, .ref 232), (1, .int (nI τ))] [] (zm_mk (zm_up μ 243 τ (-1))) r h' ∧ (r = none ∧ ∃ ν, zm_mk ν = h' ∧ ν 243 τ = -1 ∧ (∀ n, n < 24 → ν 244 (24 * τ + n) = 0) ∧ ∀ c d, ¬ (c = 243 ∧ d = τ) → ¬ (c = 244 ∧ 24 * τ ≤ d ∧ d < 24 * τ + 24) → ν c d = μ c d) := by
    refine ze_loop (Q := fun i L hp => i ≤ 24 ∧ zi_nl L = true ∧ zi_get L 0 = some (.ref 232) ∧ zi_get L 1 = some (.int (nI τ)) ∧ zi_get L 2 = some (.int (nI i)) ∧ ∃ ξ : zm_M, zm_mk ξ = hp ∧ (ξ 243 τ = -1) ∧ (∀ n, n < i → ξ 244 (24 * τ + n) = 0) ∧ (∀ c d, ¬ (c = 243 ∧ d = τ) → ¬ (c = 244 ∧ 24 * τ ≤ d ∧ d < 24 * τ + 24) → ξ c d = μ c d) ∧ (True)) (R := fun r h' => r = none ∧ ∃ ν, zm_mk ν = h' ∧ ν 243 τ = -1 ∧ (∀ n, n < 24 → ν 244 (24 * τ + n) = 0) ∧ ∀ c d, ¬ (c = 243 ∧ d = τ) → ¬ (c = 244 ∧ 24 * τ ≤ d ∧ d < 24 * τ + 24) → ν c d = μ c d) 24 ?_ ?_ 24 0 _ _ (by omega) ⟨by omega, rfl, rfl, rfl, rfl, zm_up μ 243 τ (-1), rfl, zm_up_eq, (fun n hn => absurd hn (by omega)), (fun c d a1 _ => zm_up_ne a1), trivial⟩
    · rintro i L _ hi ⟨-, nl, g0, g1, g2, ξ, rfl, f1, f2, f3, hq⟩
      have c1 : ¬ (24 : Int32) ≤ nI i := nI_ge (b := 24) hi (by decide)
      obtain ⟨N1, E1⟩ := ze_spot (h := zm_mk ξ) (n := i) D ht
      have ia : zi_in (nI (24 * τ + i)) 168 = true := zm_in (by omega) (by decide)
      have ca : (nI (24 * τ + i)).toNatClampNeg = 24 * τ + i := nI_clamp (by omega)
      have f1' : zm_up ξ 244 (24 * τ + i) 0 243 τ = -1 := (zm_up_ne (by omega)).trans f1
      have f2' : ∀ n, n < i + 1 → zm_up ξ 244 (24 * τ + i) 0 244 (24 * τ + n) = 0 := fun n hn => by
        rw [zm_up_pt]
        by_cases e : n = i
        · rw [if_pos (by omega)]
        · rw [if_neg (by omega)]
          exact f2 n (by omega)
      have f3' : ∀ c d, ¬ (c = 243 ∧ d = τ) → ¬ (c = 244 ∧ 24 * τ ≤ d ∧ d < 24 * τ + 24) → zm_up ξ 244 (24 * τ + i) 0 c d = μ c d := fun c d a1 a2 => by
        rw [zm_up_ne (fun e => a2 ⟨e.1, by omega, by omega⟩)]
        exact f3 c d a1 a2
      left
      refine ⟨zi_set L 2 (.int (nI (i + 1))), zm_mk (zm_up ξ 244 (24 * τ + i) 0), ⟨N1, 12, fun F m hF => ?_⟩, by omega, ?_, ?_, ?_, zi_get_set_eq, _, rfl, f1', f2', f3', trivial⟩
      · simp (maxDischargeDepth := 9) [zg_0, zg_aload_n, zg_bipush, zg_getfield, zg_goto, zg_iastore, zg_iconst, zg_if_icmp, zg_iinc, zg_iload_n, zg_invokestatic, zg_istore_n, zg_return, zf_X6_clearTree, zi_ld, zi_lda, zi_cmp, zi_retOk, zi_isI, zi_f3, zi_cr, zi_ci, zi_cn, zi_get_ne, zi_nl_i, zi_nl_r, zi_get_set_eq, nl, g0, g1, g2, h24, c1, zM_g, zq_Mod_spot, E1 F (by omega), zm_iast zM_A244 ia, ca, nI_1]
      · simp (maxDischargeDepth := 9) [zi_get_ne, zi_nl_i, zi_nl_r, zi_get_set_eq, nl]
      · simp (maxDischargeDepth := 9) [zi_get_ne, zi_nl_i, zi_nl_r, zi_get_set_eq, nl, g0]
      · simp (maxDischargeDepth := 9) [zi_get_ne, zi_nl_i, zi_nl_r, zi_get_set_eq, nl, g1]
    · rintro L _ ⟨-, nl, g0, g1, g2, ξ, rfl, f1, f2, f3, hq⟩
      have c1 : (24 : Int32) ≤ nI 24 := by decide
      refine ⟨none, zm_mk ξ, ⟨0, 4, fun F m hF => ?_⟩, rfl, ξ, rfl, f1, f2, f3⟩
      simp [zg_0, zg_aload_n, zg_bipush, zg_getfield, zg_goto, zg_iastore, zg_iconst, zg_if_icmp, zg_iinc, zg_iload_n, zg_invokestatic, zg_istore_n, zg_return, zf_X6_clearTree, zi_ld, zi_lda, zi_cmp, zi_retOk, zi_isI, zi_f3, zi_cr, zi_ci, zi_cn, g0, g2, h24, c1]
  obtain ⟨r, h', G, rfl, ν, rfl, f⟩ := key
  refine ⟨ν, ze_in [(0, .ref 232), (1, .int (nI τ))] zq_Mod_clearTree (Nat.le_of_ble_eq_true rfl) rfl (ze_S.end ⟨0, 7, fun F m hF => ?_⟩ G), f⟩
  simp [zg_0, zg_aload_n, zg_bipush, zg_getfield, zg_goto, zg_iastore, zg_iconst, zg_if_icmp, zg_iinc, zg_iload_n, zg_invokestatic, zg_istore_n, zg_return, zf_X6_clearTree, zi_ld, zi_lda, zi_cmp, zi_retOk, zi_isI, zi_f3, zi_cr, zi_ci, zi_cn, zi_get, zi_set, zM_g, zm_iast zM_A243 it, ct, nI_0]
end ZM6
