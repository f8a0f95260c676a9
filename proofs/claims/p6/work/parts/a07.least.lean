/-! the reference: least sizes -/
def zu_lf (μ : zm_M) (τ a n : Nat) : Int32 := (zu_tb μ τ n).foldl (fun m w => zi_mx m (μ (235 + a) w)) 0
section ZUS
variable {μ : zm_M} {τ : Nat} {u : zy_F} {ab : Nat → Int32}
theorem zi_mx_le (p q : Int32) : (if p ≤ q then q else p) = zi_mx p q := by
  unfold zi_mx
  by_cases c : p < q
  · rw [if_pos c, if_pos (Int32.le_of_lt c)]
  · rw [if_neg c]
    by_cases c2 : p ≤ q
    · rw [if_pos c2]
      exact Int32.le_antisymm (Int32.not_lt.mp c) c2
    · rw [if_neg c2]
theorem zi_mx_ge (p q : Int32) : (if q ≤ p then p else q) = zi_mx p q := by
  unfold zi_mx
  by_cases c : p < q
  · rw [if_pos c, if_neg (Int32.not_le.mpr c)]
  · rw [if_neg c, if_pos (Int32.not_lt.mp c)]
theorem zm_A35 {a : Nat} (ha : a < 2) : zm_isA 7 (235 + a) 10 := by
  match a, ha with
  | 0, _ => exact zM_A235
  | 1, _ => exact zM_A236
set_option maxRecDepth 100000 in
theorem ze_Mleast_leaf (D : Nat) (ht : τ < 7) {n a : Nat} (hn : n < 24) (ha : a < 2) (h1 : μ 244 (24 * τ + n) = 1) (hT : zu_T μ τ n (zu_tb μ τ n)) (hb : ∀ x ∈ zu_tb μ τ n, x < 10) : ze_E (D + 2) A_Mod_least [.ref 232, .int (nI τ), .int (nI n), .int (nI (1 - a))] (zm_mk μ) (some (.int (zu_lf μ τ a n))) (zm_mk μ) := by
  unfold zu_lf
  generalize zu_tb μ τ n = l at hT hb
  obtain ⟨t0, t1, t2⟩ := hT
  have h10 : (Int8.ofInt 10).toInt32 = (10 : Int32) := by decide
  obtain ⟨N0, E0⟩ := ze_spot (h := zm_mk μ) (n := n) D ht
  have ia : zi_in (nI (24 * τ + n)) 168 = true := zm_in (by omega) (by decide)
  have ca : (nI (24 * τ + n)).toNatClampNeg = 24 * τ + n := nI_clamp (by omega)
  have m10 : (10 : Int32) * nI (24 * τ + n) = nI (10 * (24 * τ + n)) := nI_mul10 (by omega)
  generalize hv : l.foldl (fun m w => zi_mx m (μ (235 + a) w)) 0 = v
  have key : ∃ r h', ze_G (D + 1) 8 (some .int) zc_X6_least 24 [(6, .int (nI 0)), (5, .int 0), (4, .int (nI (24 * τ + n))), (0, .ref 232), (1, .int (nI τ)), (2, .int (nI n)), (3, .int (nI (1 - a)))] [] (zm_mk μ) r h' ∧ (r = some (.int v) ∧ zm_mk μ = h') := by
    refine ze_loop (Q := fun i L hp => i ≤ l.length ∧ zi_nl L = true ∧ zi_get L 0 = some (.ref 232) ∧ zi_get L 1 = some (.int (nI τ)) ∧ zi_get L 2 = some (.int (nI n)) ∧ zi_get L 3 = some (.int (nI (1 - a))) ∧ zi_get L 4 = some (.int (nI (24 * τ + n))) ∧ zi_get L 6 = some (.int (nI i)) ∧ zm_mk μ = hp ∧ ∃ (z : Int32), zi_get L 5 = some (.int z) ∧ ((l.drop i).foldl (fun m w => zi_mx m (μ (235 + a) w)) z = v)) (R := fun r h' => r = some (.int v) ∧ zm_mk μ = h') l.length ?_ ?_ l.length 0 _ _ (by omega) ⟨by omega, rfl, rfl, rfl, rfl, rfl, rfl, rfl, rfl, 0, rfl, hv⟩
    · rintro i L _ hi ⟨-, nl, g0, g1, g2, g3, g4, g6, rfl, z, g5, hq⟩
      have hm : l.getD i 0 ∈ l := zl_mem hi
      have tv := t2 i hi
      rw [zl_drop hi, List.foldl_cons] at hq
      generalize l.getD i 0 = x at hm hq tv
      have hx := hb x hm
      have c1 : ¬ nI l.length ≤ nI i := nI_ge hi (by omega)
      have ij : zi_in (nI (10 * (24 * τ + n) + i)) 1680 = true := zm_in (by omega) (by decide)
      have cj : (nI (10 * (24 * τ + n) + i)).toNatClampNeg = 10 * (24 * τ + n) + i := nI_clamp (by omega)
      have ix : zi_in (nI x) 10 = true := zm_in hx (by decide)
      have cx : (nI x).toNatClampNeg = x := nI_clamp (by omega)
      have hwx := zi_mx_le (μ (235 + a) x) z
      have hcm : zi_mx (μ (235 + a) x) z = zi_mx z (μ (235 + a) x) := by rw [← zi_mx_le, ← zi_mx_ge]
      rw [hcm] at hwx
      match a, ha with
      | 0, _ =>
        have hwx : (if μ 235 x ≤ z then z else μ 235 x) = zi_mx z (μ 235 x) := hwx
        have hq : (l.drop (i + 1)).foldl (fun m w => zi_mx m (μ (235 + 0) w)) (zi_mx z (μ 235 x)) = v := hq
        by_cases c2 : μ 235 x ≤ z
        · rw [if_pos c2] at hwx
          rw [← hwx] at hq
          left
          refine ⟨zi_set (zi_set (zi_set L 7 (.int (μ 235 x))) 5 (.int z)) 6 (.int (nI (i + 1))), zm_mk μ, ⟨0, 28, fun F m hF => ?_⟩, by omega, ?_, ?_, ?_, ?_, ?_, ?_, zi_get_set_eq, rfl, z, ?_, hq⟩
          · simp (maxDischargeDepth := 9) [zg_0, zg_aload_n, zg_bipush, zg_getfield, zg_goto, zg_iadd, zg_iaload, zg_iconst, zg_ifCond, zg_if_icmp, zg_iinc, zg_iload, zg_iload_n, zg_imul, zg_invokestatic, zg_invokevirtual, zg_ireturn, zg_istore, zf_X6_least, zi_ld, zi_lda, zi_cmp, zi_retOk, zi_isI, zi_f3, zi_cr, zi_ci, zi_cn, zi_get_ne, zi_nl_i, zi_nl_r, zi_get_set_eq, nl, g0, g1, g2, g3, g4, g6, g5, zM_g, h10, zm_iald (k := 0) zM_A249 ia, ca, t1, c1, show nI (1 - 0) = 1 from rfl, m10, nI_add, zm_iald (k := 0) zM_A248 ij, cj, tv, zm_iald (k := 0) zM_A235 ix, cx, c2, nI_1]
          · simp (maxDischargeDepth := 9) [zi_get_ne, zi_nl_i, zi_nl_r, zi_get_set_eq, nl]
          · simp (maxDischargeDepth := 9) [zi_get_ne, zi_nl_i, zi_nl_r, zi_get_set_eq, nl, g0]
          · simp (maxDischargeDepth := 9) [zi_get_ne, zi_nl_i, zi_nl_r, zi_get_set_eq, nl, g1]
          · simp (maxDischargeDepth := 9) [zi_get_ne, zi_nl_i, zi_nl_r, zi_get_set_eq, nl, g2]
          · simp (maxDischargeDepth := 9) [zi_get_ne, zi_nl_i, zi_nl_r, zi_get_set_eq, nl, g3]
          · simp (maxDischargeDepth := 9) [zi_get_ne, zi_nl_i, zi_nl_r, zi_get_set_eq, nl, g4]
          · simp (maxDischargeDepth := 9) [zi_get_ne, zi_nl_i, zi_nl_r, zi_get_set_eq, nl, g5]
        · rw [if_neg c2] at hwx
          rw [← hwx] at hq
          left
          refine ⟨zi_set (zi_set (zi_set L 7 (.int (μ 235 x))) 5 (.int (μ 235 x))) 6 (.int (nI (i + 1))), zm_mk μ, ⟨0, 29, fun F m hF => ?_⟩, by omega, ?_, ?_, ?_, ?_, ?_, ?_, zi_get_set_eq, rfl, μ 235 x, ?_, hq⟩
          · simp (maxDischargeDepth := 9) [zg_0, zg_aload_n, zg_bipush, zg_getfield, zg_goto, zg_iadd, zg_iaload, zg_iconst, zg_ifCond, zg_if_icmp, zg_iinc, zg_iload, zg_iload_n, zg_imul, zg_invokestatic, zg_invokevirtual, zg_ireturn, zg_istore, zf_X6_least, zi_ld, zi_lda, zi_cmp, zi_retOk, zi_isI, zi_f3, zi_cr, zi_ci, zi_cn, zi_get_ne, zi_nl_i, zi_nl_r, zi_get_set_eq, nl, g0, g1, g2, g3, g4, g6, g5, zM_g, h10, zm_iald (k := 0) zM_A249 ia, ca, t1, c1, show nI (1 - 0) = 1 from rfl, m10, nI_add, zm_iald (k := 0) zM_A248 ij, cj, tv, zm_iald (k := 0) zM_A235 ix, cx, c2, nI_1]
          · simp (maxDischargeDepth := 9) [zi_get_ne, zi_nl_i, zi_nl_r, zi_get_set_eq, nl]
          · simp (maxDischargeDepth := 9) [zi_get_ne, zi_nl_i, zi_nl_r, zi_get_set_eq, nl, g0]
          · simp (maxDischargeDepth := 9) [zi_get_ne, zi_nl_i, zi_nl_r, zi_get_set_eq, nl, g1]
          · simp (maxDischargeDepth := 9) [zi_get_ne, zi_nl_i, zi_nl_r, zi_get_set_eq, nl, g2]
          · simp (maxDischargeDepth := 9) [zi_get_ne, zi_nl_i, zi_nl_r, zi_get_set_eq, nl, g3]
          · simp (maxDischargeDepth := 9) [zi_get_ne, zi_nl_i, zi_nl_r, zi_get_set_eq, nl, g4]
          · simp (maxDischargeDepth := 9) [zi_get_ne, zi_nl_i, zi_nl_r, zi_get_set_eq, nl, g5]
      | 1, _ =>
        have hwx : (if μ 236 x ≤ z then z else μ 236 x) = zi_mx z (μ 236 x) := hwx
        have hq : (l.drop (i + 1)).foldl (fun m w => zi_mx m (μ (235 + 1) w)) (zi_mx z (μ 236 x)) = v := hq
        by_cases c2 : μ 236 x ≤ z
        · rw [if_pos c2] at hwx
          rw [← hwx] at hq
          left
          refine ⟨zi_set (zi_set (zi_set L 7 (.int (μ 236 x))) 5 (.int z)) 6 (.int (nI (i + 1))), zm_mk μ, ⟨0, 27, fun F m hF => ?_⟩, by omega, ?_, ?_, ?_, ?_, ?_, ?_, zi_get_set_eq, rfl, z, ?_, hq⟩
          · simp (maxDischargeDepth := 9) [zg_0, zg_aload_n, zg_bipush, zg_getfield, zg_goto, zg_iadd, zg_iaload, zg_iconst, zg_ifCond, zg_if_icmp, zg_iinc, zg_iload, zg_iload_n, zg_imul, zg_invokestatic, zg_invokevirtual, zg_ireturn, zg_istore, zf_X6_least, zi_ld, zi_lda, zi_cmp, zi_retOk, zi_isI, zi_f3, zi_cr, zi_ci, zi_cn, zi_get_ne, zi_nl_i, zi_nl_r, zi_get_set_eq, nl, g0, g1, g2, g3, g4, g6, g5, zM_g, h10, zm_iald (k := 0) zM_A249 ia, ca, t1, c1, show nI (1 - 1) = 0 from rfl, m10, nI_add, zm_iald (k := 0) zM_A248 ij, cj, tv, zm_iald (k := 0) zM_A236 ix, cx, c2, nI_1]
          · simp (maxDischargeDepth := 9) [zi_get_ne, zi_nl_i, zi_nl_r, zi_get_set_eq, nl]
          · simp (maxDischargeDepth := 9) [zi_get_ne, zi_nl_i, zi_nl_r, zi_get_set_eq, nl, g0]
          · simp (maxDischargeDepth := 9) [zi_get_ne, zi_nl_i, zi_nl_r, zi_get_set_eq, nl, g1]
          · simp (maxDischargeDepth := 9) [zi_get_ne, zi_nl_i, zi_nl_r, zi_get_set_eq, nl, g2]
          · simp (maxDischargeDepth := 9) [zi_get_ne, zi_nl_i, zi_nl_r, zi_get_set_eq, nl, g3]
          · simp (maxDischargeDepth := 9) [zi_get_ne, zi_nl_i, zi_nl_r, zi_get_set_eq, nl, g4]
          · simp (maxDischargeDepth := 9) [zi_get_ne, zi_nl_i, zi_nl_r, zi_get_set_eq, nl, g5]
        · rw [if_neg c2] at hwx
          rw [← hwx] at hq
          left
          refine ⟨zi_set (zi_set (zi_set L 7 (.int (μ 236 x))) 5 (.int (μ 236 x))) 6 (.int (nI (i + 1))), zm_mk μ, ⟨0, 28, fun F m hF => ?_⟩, by omega, ?_, ?_, ?_, ?_, ?_, ?_, zi_get_set_eq, rfl, μ 236 x, ?_, hq⟩
          · simp (maxDischargeDepth := 9) [zg_0, zg_aload_n, zg_bipush, zg_getfield, zg_goto, zg_iadd, zg_iaload, zg_iconst, zg_ifCond, zg_if_icmp, zg_iinc, zg_iload, zg_iload_n, zg_imul, zg_invokestatic, zg_invokevirtual, zg_ireturn, zg_istore, zf_X6_least, zi_ld, zi_lda, zi_cmp, zi_retOk, zi_isI, zi_f3, zi_cr, zi_ci, zi_cn, zi_get_ne, zi_nl_i, zi_nl_r, zi_get_set_eq, nl, g0, g1, g2, g3, g4, g6, g5, zM_g, h10, zm_iald (k := 0) zM_A249 ia, ca, t1, c1, show nI (1 - 1) = 0 from rfl, m10, nI_add, zm_iald (k := 0) zM_A248 ij, cj, tv, zm_iald (k := 0) zM_A236 ix, cx, c2, nI_1]
          · simp (maxDischargeDepth := 9) [zi_get_ne, zi_nl_i, zi_nl_r, zi_get_set_eq, nl]
          · simp (maxDischargeDepth := 9) [zi_get_ne, zi_nl_i, zi_nl_r, zi_get_set_eq, nl, g0]
          · simp (maxDischargeDepth := 9) [zi_get_ne, zi_nl_i, zi_nl_r, zi_get_set_eq, nl, g1]
          · simp (maxDischargeDepth := 9) [zi_get_ne, zi_nl_i, zi_nl_r, zi_get_set_eq, nl, g2]
          · simp (maxDischargeDepth := 9) [zi_get_ne, zi_nl_i, zi_nl_r, zi_get_set_eq, nl, g3]
          · simp (maxDischargeDepth := 9) [zi_get_ne, zi_nl_i, zi_nl_r, zi_get_set_eq, nl, g4]
          · simp (maxDischargeDepth := 9) [zi_get_ne, zi_nl_i, zi_nl_r, zi_get_set_eq, nl, g5]
    · rintro L _ ⟨-, nl, g0, g1, g2, g3, g4, g6, rfl, z, g5, hq⟩
      rw [List.drop_length] at hq
      have hq : z = v := hq
      subst hq
      refine ⟨some (.int z), zm_mk μ, ⟨0, 8, fun F m hF => ?_⟩, rfl, rfl⟩
      simp [zg_0, zg_aload_n, zg_bipush, zg_getfield, zg_goto, zg_iadd, zg_iaload, zg_iconst, zg_ifCond, zg_if_icmp, zg_iinc, zg_iload, zg_iload_n, zg_imul, zg_invokestatic, zg_invokevirtual, zg_ireturn, zg_istore, zf_X6_least, zi_ld, zi_lda, zi_cmp, zi_retOk, zi_isI, zi_f3, zi_cr, zi_ci, zi_cn, g0, g4, g5, g6, zM_g, zm_iald (k := 0) zM_A249 ia, ca, t1]
  obtain ⟨r, h', G, rfl, rfl⟩ := key
  refine ze_in [(0, .ref 232), (1, .int (nI τ)), (2, .int (nI n)), (3, .int (nI (1 - a)))] zq_Mod_least (Nat.le_of_ble_eq_true rfl) rfl (ze_S.end ⟨N0, 14, fun F m hF => ?_⟩ G)
  simp [zg_0, zg_aload_n, zg_bipush, zg_getfield, zg_goto, zg_iadd, zg_iaload, zg_iconst, zg_ifCond, zg_if_icmp, zg_iinc, zg_iload, zg_iload_n, zg_imul, zg_invokestatic, zg_invokevirtual, zg_ireturn, zg_istore, zf_X6_least, zi_ld, zi_lda, zi_cmp, zi_retOk, zi_isI, zi_f3, zi_cr, zi_ci, zi_cn, zi_get, zi_set, zq_Mod_spot, E0 F (by omega), zM_g, zm_iald (k := 0) zM_A244 ia, ca, h1, nI_0]
set_option maxRecDepth 100000 in
theorem ze_Mleast (ht : τ < 7) {a : Nat} (ha : a < 2) : ∀ c, zy_wf c → zu_ok μ τ ab c → (∀ n ∈ zy_ids c, n < 24) → (∀ n ∈ zy_lvs c, zu_T μ τ n (zu_tb μ τ n) ∧ ∀ x ∈ zu_tb μ τ n, x < 10) → ∀ D, ze_E (D + 1 + (zy_ids c).length) A_Mod_least [.ref 232, .int (nI τ), .int (nI (zy_id c)), .int (nI (1 - a))] (zm_mk μ) (some (.int (zy_ls a (zu_fm μ τ) (zu_lf μ τ a) c))) (zm_mk μ) := by
  apply zy_ind
  · intro n ok hlt hT D
    exact ze_Mleast_leaf D ht (hlt n List.mem_cons_self) ha (zu_fm_leaf ok) (hT n List.mem_cons_self).1 (hT n List.mem_cons_self).2
  · intro n x y wx wy ihx ihy ok hlt hT D
    obtain ⟨⟨q1, q2, q3, -, -⟩, okx, oky⟩ := ok
    have q2 : μ 245 (24 * τ + n) = nI (zy_id x) := q2
    have q3 : μ 246 (24 * τ + n) = nI (zy_id y) := q3
    have hn : n < 24 := hlt n List.mem_cons_self
    have hx : zy_id x < 24 := hlt _ (List.mem_cons_of_mem _ (List.mem_append_left _ (zy_id_mem wx)))
    have hy : zy_id y < 24 := hlt _ (List.mem_cons_of_mem _ (List.mem_append_right _ (zy_id_mem wy)))
    have el : (zy_ids (.append (.tag n x) y)).length = (zy_ids x).length + (zy_ids y).length + 1 := by
      show (n :: (zy_ids x ++ zy_ids y)).length = _
      rw [List.length_cons, List.length_append]
    have E1 := ihx okx (fun m hm => hlt m (List.mem_cons_of_mem _ (List.mem_append_left _ hm))) (fun m hm => hT m (List.mem_append_left _ hm)) (D + (zy_ids y).length)
    have E2 := ihy oky (fun m hm => hlt m (List.mem_cons_of_mem _ (List.mem_append_right _ hm))) (fun m hm => hT m (List.mem_append_right _ hm)) (D + (zy_ids x).length)
    rw [show D + (zy_ids y).length + 1 + (zy_ids x).length = D + (zy_ids x).length + (zy_ids y).length + 1 by omega] at E1
    rw [show D + (zy_ids x).length + 1 + (zy_ids y).length = D + (zy_ids x).length + (zy_ids y).length + 1 by omega] at E2
    rw [el, show D + 1 + ((zy_ids x).length + (zy_ids y).length + 1) = D + (zy_ids x).length + (zy_ids y).length + 1 + 1 by omega]
    have es : zy_ls a (zu_fm μ τ) (zu_lf μ τ a) (.append (.tag n x) y) = if zu_fm μ τ n = nI a then zy_ls a (zu_fm μ τ) (zu_lf μ τ a) x + zy_ls a (zu_fm μ τ) (zu_lf μ τ a) y else zi_mx (zy_ls a (zu_fm μ τ) (zu_lf μ τ a) x) (zy_ls a (zu_fm μ τ) (zu_lf μ τ a) y) := rfl
    rw [es]
    generalize zy_ls a (zu_fm μ τ) (zu_lf μ τ a) x = p at E1
    generalize zy_ls a (zu_fm μ τ) (zu_lf μ τ a) y = q at E2
    obtain ⟨N1, E1⟩ := E1
    obtain ⟨N2, E2⟩ := E2
    obtain ⟨N0, E0⟩ := ze_spot (h := zm_mk μ) (n := n) (D + (zy_ids x).length + (zy_ids y).length) ht
    have ia : zi_in (nI (24 * τ + n)) 168 = true := zm_in (by omega) (by decide)
    have ca : (nI (24 * τ + n)).toNatClampNeg = 24 * τ + n := nI_clamp (by omega)
    obtain ⟨lm, cm⟩ := zM_c (μ := μ)
    show ze_E _ A_Mod_least [.ref 232, .int (nI τ), .int (nI n), .int (nI (1 - a))] _ _ _
    refine ze_in [(0, .ref 232), (1, .int (nI τ)), (2, .int (nI n)), (3, .int (nI (1 - a)))] zq_Mod_least (Nat.le_of_ble_eq_true rfl) rfl ?_
    rcases zu_fm_cut q1 with ⟨f0, e4⟩ | ⟨f0, e4⟩
    · have e4' : ¬ (2 : Int32) = 1 := by decide
      match a, ha with
      | 0, _ =>
        rw [if_pos (by rw [f0]; rfl)]
        refine ⟨N0 + N1 + N2, 43, fun F m hF => ?_⟩
        have E1 := E1 F (by omega)
        have E2 := E2 F (by omega)
        rw [show nI (1 - 0) = 1 from rfl] at *
        simp [zg_0, zg_aload_n, zg_bipush, zg_getfield, zg_goto, zg_iadd, zg_iaload, zg_iconst, zg_ifCond, zg_if_icmp, zg_iinc, zg_iload, zg_iload_n, zg_imul, zg_invokestatic, zg_invokevirtual, zg_ireturn, zg_istore, zf_X6_least, zi_ld, zi_lda, zi_cmp, zi_retOk, zi_isI, zi_f3, zi_cr, zi_ci, zi_cn, zi_get, zi_set, zq_Mod_spot, E0 F (by omega), zM_g, zm_iald (k := 0) zM_A244 ia, zm_iald (k := 0) zM_A245 ia, zm_iald (k := 0) zM_A246 ia, ca, e4, q2, q3, zq_Mod_least, cm, E1, E2]
      | 1, _ =>
        rw [if_neg (by rw [f0]; decide), ← zi_mx_le]
        rw [show nI (1 - 1) = 0 from rfl] at *
        by_cases c2 : p ≤ q
        · rw [if_pos c2]
          refine ⟨N0 + N1 + N2, 43, fun F m hF => ?_⟩
          simp [zg_0, zg_aload_n, zg_bipush, zg_getfield, zg_goto, zg_iadd, zg_iaload, zg_iconst, zg_ifCond, zg_if_icmp, zg_iinc, zg_iload, zg_iload_n, zg_imul, zg_invokestatic, zg_invokevirtual, zg_ireturn, zg_istore, zf_X6_least, zi_ld, zi_lda, zi_cmp, zi_retOk, zi_isI, zi_f3, zi_cr, zi_ci, zi_cn, zi_get, zi_set, zq_Mod_spot, E0 F (by omega), zM_g, zm_iald (k := 0) zM_A244 ia, zm_iald (k := 0) zM_A245 ia, zm_iald (k := 0) zM_A246 ia, ca, e4, q2, q3, zq_Mod_least, cm, E1 F (by omega), E2 F (by omega), c2]
        · rw [if_neg c2]
          refine ⟨N0 + N1 + N2, 44, fun F m hF => ?_⟩
          simp [zg_0, zg_aload_n, zg_bipush, zg_getfield, zg_goto, zg_iadd, zg_iaload, zg_iconst, zg_ifCond, zg_if_icmp, zg_iinc, zg_iload, zg_iload_n, zg_imul, zg_invokestatic, zg_invokevirtual, zg_ireturn, zg_istore, zf_X6_least, zi_ld, zi_lda, zi_cmp, zi_retOk, zi_isI, zi_f3, zi_cr, zi_ci, zi_cn, zi_get, zi_set, zq_Mod_spot, E0 F (by omega), zM_g, zm_iald (k := 0) zM_A244 ia, zm_iald (k := 0) zM_A245 ia, zm_iald (k := 0) zM_A246 ia, ca, e4, q2, q3, zq_Mod_least, cm, E1 F (by omega), E2 F (by omega), c2]
    · match a, ha with
      | 0, _ =>
        rw [if_neg (by rw [f0]; decide), ← zi_mx_le]
        rw [show nI (1 - 0) = 1 from rfl] at *
        by_cases c2 : p ≤ q
        · rw [if_pos c2]
          refine ⟨N0 + N1 + N2, 42, fun F m hF => ?_⟩
          simp [zg_0, zg_aload_n, zg_bipush, zg_getfield, zg_goto, zg_iadd, zg_iaload, zg_iconst, zg_ifCond, zg_if_icmp, zg_iinc, zg_iload, zg_iload_n, zg_imul, zg_invokestatic, zg_invokevirtual, zg_ireturn, zg_istore, zf_X6_least, zi_ld, zi_lda, zi_cmp, zi_retOk, zi_isI, zi_f3, zi_cr, zi_ci, zi_cn, zi_get, zi_set, zq_Mod_spot, E0 F (by omega), zM_g, zm_iald (k := 0) zM_A244 ia, zm_iald (k := 0) zM_A245 ia, zm_iald (k := 0) zM_A246 ia, ca, e4, q2, q3, zq_Mod_least, cm, E1 F (by omega), E2 F (by omega), c2]
        · rw [if_neg c2]
          refine ⟨N0 + N1 + N2, 43, fun F m hF => ?_⟩
          simp [zg_0, zg_aload_n, zg_bipush, zg_getfield, zg_goto, zg_iadd, zg_iaload, zg_iconst, zg_ifCond, zg_if_icmp, zg_iinc, zg_iload, zg_iload_n, zg_imul, zg_invokestatic, zg_invokevirtual, zg_ireturn, zg_istore, zf_X6_least, zi_ld, zi_lda, zi_cmp, zi_retOk, zi_isI, zi_f3, zi_cr, zi_ci, zi_cn, zi_get, zi_set, zq_Mod_spot, E0 F (by omega), zM_g, zm_iald (k := 0) zM_A244 ia, zm_iald (k := 0) zM_A245 ia, zm_iald (k := 0) zM_A246 ia, ca, e4, q2, q3, zq_Mod_least, cm, E1 F (by omega), E2 F (by omega), c2]
      | 1, _ =>
        rw [if_pos (by rw [f0]; decide)]
        rw [show nI (1 - 1) = 0 from rfl] at *
        refine ⟨N0 + N1 + N2, 42, fun F m hF => ?_⟩
        simp [zg_0, zg_aload_n, zg_bipush, zg_getfield, zg_goto, zg_iadd, zg_iaload, zg_iconst, zg_ifCond, zg_if_icmp, zg_iinc, zg_iload, zg_iload_n, zg_imul, zg_invokestatic, zg_invokevirtual, zg_ireturn, zg_istore, zf_X6_least, zi_ld, zi_lda, zi_cmp, zi_retOk, zi_isI, zi_f3, zi_cr, zi_ci, zi_cn, zi_get, zi_set, zq_Mod_spot, E0 F (by omega), zM_g, zm_iald (k := 0) zM_A244 ia, zm_iald (k := 0) zM_A245 ia, zm_iald (k := 0) zM_A246 ia, ca, e4, q2, q3, zq_Mod_least, cm, E1 F (by omega), E2 F (by omega)]
def zu_lsz (μ : zm_M) (τ a : Nat) (u : zy_F) : Int32 := zy_ls a (zu_fm μ τ) (zu_lf μ τ a) u
def zu_fit (μ : zm_M) (τ : Nat) (u : zy_F) (w v : Int32) : Bool := decide (zu_lsz μ τ 0 u ≤ w ∧ zu_lsz μ τ 1 u ≤ v)
set_option maxRecDepth 100000 in
theorem ze_Mfits (D : Nat) (ht : τ < 7) (hI : zu_I μ τ u ab) {w v : Int32} (hw : 0 ≤ w) (hv : 0 ≤ v) : ze_E (D + 26) A_Mod_fits [.ref 232, .int (nI τ), .int w, .int v] (zm_mk μ) (some (.int (if zu_fit μ τ u w v = true then 1 else 0))) (zm_mk μ) := by
  have it : zi_in (nI τ) 7 = true := zm_in ht (by decide)
  have ct : (nI τ).toNatClampNeg = τ := nI_clamp (by omega)
  unfold zu_fit zu_lsz
  rcases hI.1 with ⟨rfl, hr⟩ | ⟨wt, ok, hr, -⟩
  · have c : (-1 : Int32) < 0 := by decide
    rw [if_pos (decide_eq_true ⟨hw, hv⟩)]
    refine ze_in [(0, .ref 232), (1, .int (nI τ)), (2, .int w), (3, .int v)] zq_Mod_fits (Nat.le_of_ble_eq_true rfl) rfl ⟨0, 8, fun F m hF => ?_⟩
    simp [zg_0, zg_aload_n, zg_getfield, zg_goto, zg_iaload, zg_iconst, zg_ifCond, zg_if_icmp, zg_iload_n, zg_invokevirtual, zg_ireturn, zf_X6_fits, zi_ld, zi_lda, zi_cmp, zi_retOk, zi_isI, zi_f3, zi_cr, zi_ci, zi_cn, zi_get, zi_set, zM_g, zm_iald (k := 0) zM_A243 it, ct, hr, c]
  · have hl := zy_nodup_le 24 (zy_ids u) hI.2.1 hI.2.2.1
    have hT := fun n hn => (fun (q : zu_T μ τ n (zu_tb μ τ n) ∧ zu_tb μ τ n ≠ [] ∧ ∀ x ∈ zu_tb μ τ n, x < 10) => (⟨q.1, q.2.2⟩ : zu_T μ τ n (zu_tb μ τ n) ∧ ∀ x ∈ zu_tb μ τ n, x < 10)) (zu_I_tb hI (n := n) hn)
    have E1 := ze_Mleast ht (a := 0) (by decide) u wt ok hI.2.2.1 hT (D + 24 - (zy_ids u).length)
    have E2 := ze_Mleast ht (a := 1) (by decide) u wt ok hI.2.2.1 hT (D + 24 - (zy_ids u).length)
    rw [show D + 24 - (zy_ids u).length + 1 + (zy_ids u).length = D + 25 by omega] at E1 E2
    generalize zy_ls 0 (zu_fm μ τ) (zu_lf μ τ 0) u = p at E1
    generalize zy_ls 1 (zu_fm μ τ) (zu_lf μ τ 1) u = q at E2
    rw [show nI (1 - 0) = 1 from rfl] at E1
    rw [show nI (1 - 1) = 0 from rfl] at E2
    obtain ⟨N1, E1⟩ := E1
    obtain ⟨N2, E2⟩ := E2
    obtain ⟨lm, cm⟩ := zM_c (μ := μ)
    have hid : zy_id u < 24 := hI.2.2.1 _ (zy_id_mem wt)
    have c0 : ¬ nI (zy_id u) < 0 := nI_pos (by omega)
    refine ze_in [(0, .ref 232), (1, .int (nI τ)), (2, .int w), (3, .int v)] zq_Mod_fits (Nat.le_of_ble_eq_true rfl) rfl ?_
    by_cases c1 : p ≤ w
    · have c1' : ¬ w < p := Int32.not_lt.mpr c1
      by_cases c2 : q ≤ v
      · have c2' : ¬ v < q := Int32.not_lt.mpr c2
        rw [if_pos (decide_eq_true ⟨c1, c2⟩)]
        refine ⟨N1 + N2, 28, fun F m hF => ?_⟩
        simp [zg_0, zg_aload_n, zg_getfield, zg_goto, zg_iaload, zg_iconst, zg_ifCond, zg_if_icmp, zg_iload_n, zg_invokevirtual, zg_ireturn, zf_X6_fits, zi_ld, zi_lda, zi_cmp, zi_retOk, zi_isI, zi_f3, zi_cr, zi_ci, zi_cn, zi_get, zi_set, zM_g, zm_iald (k := 0) zM_A243 it, ct, hr, c0, zq_Mod_least, cm, E1 F (by omega), E2 F (by omega), c1', c2']
      · have c2' : v < q := Int32.not_le.mp c2
        rw [if_neg (by simp [c2])]
        refine ⟨N1 + N2, 27, fun F m hF => ?_⟩
        simp [zg_0, zg_aload_n, zg_getfield, zg_goto, zg_iaload, zg_iconst, zg_ifCond, zg_if_icmp, zg_iload_n, zg_invokevirtual, zg_ireturn, zf_X6_fits, zi_ld, zi_lda, zi_cmp, zi_retOk, zi_isI, zi_f3, zi_cr, zi_ci, zi_cn, zi_get, zi_set, zM_g, zm_iald (k := 0) zM_A243 it, ct, hr, c0, zq_Mod_least, cm, E1 F (by omega), E2 F (by omega), c1', c2']
    · have c1' : w < p := Int32.not_le.mp c1
      rw [if_neg (by simp [c1])]
      refine ⟨N1 + N2, 17, fun F m hF => ?_⟩
      simp [zg_0, zg_aload_n, zg_getfield, zg_goto, zg_iaload, zg_iconst, zg_ifCond, zg_if_icmp, zg_iload_n, zg_invokevirtual, zg_ireturn, zf_X6_fits, zi_ld, zi_lda, zi_cmp, zi_retOk, zi_isI, zi_f3, zi_cr, zi_ci, zi_cn, zi_get, zi_set, zM_g, zm_iald (k := 0) zM_A243 it, ct, hr, c0, zq_Mod_least, cm, E1 F (by omega), E2 F (by omega), c1']
end ZUS
