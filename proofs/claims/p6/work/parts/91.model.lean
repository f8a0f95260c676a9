/-! the reference's cells; spot, isIn, isWindow -/
theorem zM_h : zh_2[231]? = some (6, [.ref 233, .ref 234, .ref 235, .ref 236, .ref 237, .ref 238, .ref 239, .ref 240, .ref 241, .ref 242, .int 0, .ref 243, .int 0, .ref 244, .ref 245, .ref 246, .ref 247, .ref 248, .ref 249, .ref 250, .ref 251, .ref 252, .ref 253, .ref 254, .ref 255, .ref 256, .ref 257, .ref 258, .ref 259, .ref 260, .int 0, .ref 261, .ref 262]) := by decide +kernel
theorem zM_A232 : zm_isA 7 232 3 := zm_isA_of (by decide +kernel)
theorem zM_A233 : zm_isA 7 233 3 := zm_isA_of (by decide +kernel)
theorem zM_A234 : zm_isA 7 234 10 := zm_isA_of (by decide +kernel)
theorem zM_A235 : zm_isA 7 235 10 := zm_isA_of (by decide +kernel)
theorem zM_A236 : zm_isA 7 236 10 := zm_isA_of (by decide +kernel)
theorem zM_A237 : zm_isA 7 237 10 := zm_isA_of (by decide +kernel)
theorem zM_A238 : zm_isA 7 238 10 := zm_isA_of (by decide +kernel)
theorem zM_A239 : zm_isA 7 239 10 := zm_isA_of (by decide +kernel)
theorem zM_A240 : zm_isA 7 240 10 := zm_isA_of (by decide +kernel)
theorem zM_A241 : zm_isA 7 241 10 := zm_isA_of (by decide +kernel)
theorem zM_A242 : zm_isA 7 242 10 := zm_isA_of (by decide +kernel)
theorem zM_A243 : zm_isA 7 243 7 := zm_isA_of (by decide +kernel)
theorem zM_A244 : zm_isA 7 244 168 := zm_isA_of (by decide +kernel)
theorem zM_A245 : zm_isA 7 245 168 := zm_isA_of (by decide +kernel)
theorem zM_A246 : zm_isA 7 246 168 := zm_isA_of (by decide +kernel)
theorem zM_A247 : zm_isA 7 247 168 := zm_isA_of (by decide +kernel)
theorem zM_A248 : zm_isA 7 248 1680 := zm_isA_of (by decide +kernel)
theorem zM_A249 : zm_isA 7 249 168 := zm_isA_of (by decide +kernel)
theorem zM_A250 : zm_isA 7 250 168 := zm_isA_of (by decide +kernel)
theorem zM_A253 : zm_isA 7 253 30 := zm_isA_of (by decide +kernel)
theorem zM_A254 : zm_isA 7 254 30 := zm_isA_of (by decide +kernel)
theorem zM_A255 : zm_isA 7 255 24 := zm_isA_of (by decide +kernel)
theorem zM_A256 : zm_isA 7 256 24 := zm_isA_of (by decide +kernel)
theorem zM_A257 : zm_isA 7 257 24 := zm_isA_of (by decide +kernel)
theorem zM_A258 : zm_isA 7 258 24 := zm_isA_of (by decide +kernel)
theorem zM_A259 : zm_isA 7 259 24 := zm_isA_of (by decide +kernel)
theorem zM_A261 : zm_isA 7 261 10 := zm_isA_of (by decide +kernel)
theorem zM_A251 : zm_isA 8 251 3 := zm_isA_of (by decide +kernel)
theorem zM_A252 : zm_isA 8 252 30 := zm_isA_of (by decide +kernel)
theorem zM_A260 : zm_isA 8 260 10 := zm_isA_of (by decide +kernel)
section ZM0
variable {μ : zm_M}
theorem zM_g : zi_gf (zm_mk μ) 6 0 231 = some (.ref (232 + 1)) ∧ zi_gf (zm_mk μ) 6 1 231 = some (.ref (233 + 1)) ∧ zi_gf (zm_mk μ) 6 2 231 = some (.ref (234 + 1)) ∧ zi_gf (zm_mk μ) 6 3 231 = some (.ref (235 + 1)) ∧ zi_gf (zm_mk μ) 6 4 231 = some (.ref (236 + 1)) ∧ zi_gf (zm_mk μ) 6 5 231 = some (.ref (237 + 1)) ∧ zi_gf (zm_mk μ) 6 6 231 = some (.ref (238 + 1)) ∧ zi_gf (zm_mk μ) 6 7 231 = some (.ref (239 + 1)) ∧ zi_gf (zm_mk μ) 6 8 231 = some (.ref (240 + 1)) ∧ zi_gf (zm_mk μ) 6 9 231 = some (.ref (241 + 1)) ∧ zi_gf (zm_mk μ) 6 10 231 = some (.int (μ 231 10)) ∧ zi_gf (zm_mk μ) 6 11 231 = some (.ref (242 + 1)) ∧ zi_gf (zm_mk μ) 6 12 231 = some (.int (μ 231 12)) ∧ zi_gf (zm_mk μ) 6 13 231 = some (.ref (243 + 1)) ∧ zi_gf (zm_mk μ) 6 14 231 = some (.ref (244 + 1)) ∧ zi_gf (zm_mk μ) 6 15 231 = some (.ref (245 + 1)) ∧ zi_gf (zm_mk μ) 6 16 231 = some (.ref (246 + 1)) ∧ zi_gf (zm_mk μ) 6 17 231 = some (.ref (247 + 1)) ∧ zi_gf (zm_mk μ) 6 18 231 = some (.ref (248 + 1)) ∧ zi_gf (zm_mk μ) 6 19 231 = some (.ref (249 + 1)) ∧ zi_gf (zm_mk μ) 6 20 231 = some (.ref (250 + 1)) ∧ zi_gf (zm_mk μ) 6 21 231 = some (.ref (251 + 1)) ∧ zi_gf (zm_mk μ) 6 22 231 = some (.ref (252 + 1)) ∧ zi_gf (zm_mk μ) 6 23 231 = some (.ref (253 + 1)) ∧ zi_gf (zm_mk μ) 6 24 231 = some (.ref (254 + 1)) ∧ zi_gf (zm_mk μ) 6 25 231 = some (.ref (255 + 1)) ∧ zi_gf (zm_mk μ) 6 26 231 = some (.ref (256 + 1)) ∧ zi_gf (zm_mk μ) 6 27 231 = some (.ref (257 + 1)) ∧ zi_gf (zm_mk μ) 6 28 231 = some (.ref (258 + 1)) ∧ zi_gf (zm_mk μ) 6 29 231 = some (.ref (259 + 1)) ∧ zi_gf (zm_mk μ) 6 30 231 = some (.int (μ 231 30)) ∧ zi_gf (zm_mk μ) 6 31 231 = some (.ref (260 + 1)) ∧ zi_gf (zm_mk μ) 6 32 231 = some (.ref (261 + 1)) :=
  ⟨zm_gfr zM_h (by decide) rfl, zm_gfr zM_h (by decide) rfl, zm_gfr zM_h (by decide) rfl, zm_gfr zM_h (by decide) rfl, zm_gfr zM_h (by decide) rfl, zm_gfr zM_h (by decide) rfl, zm_gfr zM_h (by decide) rfl, zm_gfr zM_h (by decide) rfl, zm_gfr zM_h (by decide) rfl, zm_gfr zM_h (by decide) rfl, zm_gfi zM_h (by decide) rfl, zm_gfr zM_h (by decide) rfl, zm_gfi zM_h (by decide) rfl, zm_gfr zM_h (by decide) rfl, zm_gfr zM_h (by decide) rfl, zm_gfr zM_h (by decide) rfl, zm_gfr zM_h (by decide) rfl, zm_gfr zM_h (by decide) rfl, zm_gfr zM_h (by decide) rfl, zm_gfr zM_h (by decide) rfl, zm_gfr zM_h (by decide) rfl, zm_gfr zM_h (by decide) rfl, zm_gfr zM_h (by decide) rfl, zm_gfr zM_h (by decide) rfl, zm_gfr zM_h (by decide) rfl, zm_gfr zM_h (by decide) rfl, zm_gfr zM_h (by decide) rfl, zm_gfr zM_h (by decide) rfl, zm_gfr zM_h (by decide) rfl, zm_gfr zM_h (by decide) rfl, zm_gfi zM_h (by decide) rfl, zm_gfr zM_h (by decide) rfl, zm_gfr zM_h (by decide) rfl⟩
theorem zM_c : ∃ l, (zm_mk μ)[231]? = some (6, l) := ⟨_, zm_get zM_h⟩
theorem zM_p10 (x : Int32) : zi_pf (zm_mk μ) 6 10 231 (.int x) = some (zm_mk (zm_up μ 231 10 x)) := zm_pfi zM_h (by decide) rfl rfl
theorem zM_p12 (x : Int32) : zi_pf (zm_mk μ) 6 12 231 (.int x) = some (zm_mk (zm_up μ 231 12 x)) := zm_pfi zM_h (by decide) rfl rfl
theorem zM_p30 (x : Int32) : zi_pf (zm_mk μ) 6 30 231 (.int x) = some (zm_mk (zm_up μ 231 30 x)) := zm_pfi zM_h (by decide) rfl rfl
theorem nI_mul24 {t : Nat} (ht : t < 7) : (24 : Int32) * nI t = nI (24 * t) := by
  have : ∀ t, t < 7 → (24 : Int32) * nI t = nI (24 * t) := by decide
  exact this t ht
set_option maxRecDepth 100000 in
theorem ze_spot {h : zi_Hp} (D : Nat) {t n : Nat} (ht : t < 7) : ze_E (D + 1) A_Mod_spot [.int (nI t), .int (nI n)] h (some (.int (nI (24 * t + n)))) h := by
  have h24 : (Int8.ofInt 24).toInt32 = (24 : Int32) := by decide
  refine ze_in [(0, .int (nI t)), (1, .int (nI n))] zq_Mod_spot (Nat.le_of_ble_eq_true rfl) rfl ⟨0, 6, fun F m hF => ?_⟩
  simp [zg_0, zg_bipush, zg_iadd, zg_iload_n, zg_imul, zg_ireturn, zf_X6_spot, zi_ld, zi_lda, zi_cmp, zi_retOk, zi_isI, zi_f3, zi_cr, zi_ci, zi_cn, zi_get, zi_set, h24, nI_mul24 ht, nI_add]
set_option maxRecDepth 100000 in
theorem ze_isIn {h : zi_Hp} (D : Nat) (v a b : Int32) : ze_E (D + 1) A_Mod_isIn [.int v, .int a, .int b] h (some (.int (if a ≤ v ∧ v ≤ b then 1 else 0))) h := by
  refine ze_in [(0, .int v), (1, .int a), (2, .int b)] zq_Mod_isIn (Nat.le_of_ble_eq_true rfl) rfl ⟨0, 9, fun F m hF => ?_⟩
  by_cases c1 : v < a
  · have c1' : ¬ a ≤ v := Int32.not_le.mpr c1
    simp [zg_0, zg_goto, zg_iconst, zg_if_icmp, zg_iload_n, zg_ireturn, zf_X6_isIn, zi_ld, zi_lda, zi_cmp, zi_retOk, zi_isI, zi_f3, zi_cr, zi_ci, zi_cn, zi_get, zi_set, c1, c1']
  · have c1' : a ≤ v := Int32.not_lt.mp c1
    by_cases c2 : b < v
    · have c2' : ¬ v ≤ b := Int32.not_le.mpr c2
      simp [zg_0, zg_goto, zg_iconst, zg_if_icmp, zg_iload_n, zg_ireturn, zf_X6_isIn, zi_ld, zi_lda, zi_cmp, zi_retOk, zi_isI, zi_f3, zi_cr, zi_ci, zi_cn, zi_get, zi_set, c1, c1', c2, c2']
    · have c2' : v ≤ b := Int32.not_lt.mp c2
      simp [zg_0, zg_goto, zg_iconst, zg_if_icmp, zg_iload_n, zg_ireturn, zf_X6_isIn, zi_ld, zi_lda, zi_cmp, zi_retOk, zi_isI, zi_f3, zi_cr, zi_ci, zi_cn, zi_get, zi_set, c1, c1', c2, c2']
set_option maxRecDepth 100000 in
theorem ze_MisWindow_in (D : Nat) {k : Nat} (hk : k < 10) : ze_E (D + 2) A_Mod_isWindow [.ref 232, .int (nI k)] (zm_mk μ) (some (.int (if 0 < μ 234 k then 1 else 0))) (zm_mk μ) := by
  have h9 : (Int8.ofInt 9).toInt32 = (9 : Int32) := by decide
  obtain ⟨N1, E1⟩ := ze_isIn (h := zm_mk μ) D (nI k) 0 9
  rw [if_pos ⟨nI_pos' (by omega), nI_le (b := 9) (by omega) (by decide)⟩] at E1
  have ik : zi_in (nI k) 10 = true := zm_in hk (by decide)
  have ck : (nI k).toNatClampNeg = k := nI_clamp (by omega)
  refine ze_in [(0, .ref 232), (1, .int (nI k))] zq_Mod_isWindow (Nat.le_of_ble_eq_true rfl) rfl ⟨N1, 14, fun F m hF => ?_⟩
  by_cases c : μ 234 k ≤ 0
  · have c' : ¬ 0 < μ 234 k := Int32.not_lt.mpr c
    simp [zg_0, zg_aload_n, zg_bipush, zg_getfield, zg_goto, zg_iaload, zg_iconst, zg_ifCond, zg_iload_n, zg_invokestatic, zg_ireturn, zf_X6_isWindow, zi_ld, zi_lda, zi_cmp, zi_retOk, zi_isI, zi_f3, zi_cr, zi_ci, zi_cn, zi_get, zi_set, h9, zq_Mod_isIn, E1 F (by omega), zM_g, zm_iald (k := 0) zM_A234 ik, ck, c, c']
  · have c' : 0 < μ 234 k := Int32.not_le.mp c
    simp [zg_0, zg_aload_n, zg_bipush, zg_getfield, zg_goto, zg_iaload, zg_iconst, zg_ifCond, zg_iload_n, zg_invokestatic, zg_ireturn, zf_X6_isWindow, zi_ld, zi_lda, zi_cmp, zi_retOk, zi_isI, zi_f3, zi_cr, zi_ci, zi_cn, zi_get, zi_set, h9, zq_Mod_isIn, E1 F (by omega), zM_g, zm_iald (k := 0) zM_A234 ik, ck, c, c']
set_option maxRecDepth 100000 in
theorem ze_MisWindow_out (D : Nat) {x : Int32} (hx : x < 0 ∨ (10 : Int32) ≤ x) : ze_E (D + 2) A_Mod_isWindow [.ref 232, .int x] (zm_mk μ) (some (.int 0)) (zm_mk μ) := by
  have h9 : (Int8.ofInt 9).toInt32 = (9 : Int32) := by decide
  obtain ⟨N1, E1⟩ := ze_isIn (h := zm_mk μ) D x 0 9
  rw [if_neg (fun q => hx.elim (fun z => Int32.not_le.mpr z q.1) (fun z => absurd (Int32.le_trans z q.2) (by decide)))] at E1
  refine ze_in [(0, .ref 232), (1, .int x)] zq_Mod_isWindow (Nat.le_of_ble_eq_true rfl) rfl ⟨N1, 7, fun F m hF => ?_⟩
  simp [zg_0, zg_aload_n, zg_bipush, zg_getfield, zg_goto, zg_iaload, zg_iconst, zg_ifCond, zg_iload_n, zg_invokestatic, zg_ireturn, zf_X6_isWindow, zi_ld, zi_lda, zi_cmp, zi_retOk, zi_isI, zi_f3, zi_cr, zi_ci, zi_cn, zi_get, zi_set, h9, zq_Mod_isIn, E1 F (by omega)]
end ZM0
