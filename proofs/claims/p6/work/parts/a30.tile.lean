/-! the reference: tile -/
def zv_lah (μ : zm_M) (s : Nat) (lo : Nat → Nat) : List Nat → Int32
  | [] => -1
  | x :: l => if μ 234 x = 1 ∧ μ 238 x = nI s then nI (lo x) else zv_lah μ s lo l
def zv_dn : Nat → Int32
  | 0 => -1
  | j + 1 => nI j
theorem zv_dn_1 {n : Nat} (h : n ≤ 10) : nI n - 1 = zv_dn n := by
  have : ∀ n, n < 11 → nI n - 1 = zv_dn n := by decide
  exact this n (by omega)
theorem zv_dn_s {n : Nat} (h : n ≤ 10) : nI n + -1 = zv_dn n := by
  have : ∀ n, n < 11 → nI n + -1 = zv_dn n := by decide
  exact this n (by omega)
theorem zl_drop_get {l : List Nat} {j : Nat} (h : j < l.length) : l.drop j = l.getD j 0 :: l.drop (j + 1) := by
  rw [List.getD_eq_getElem?_getD, List.getElem?_eq_getElem h]
  exact List.drop_eq_getElem_cons h
section ZVP
variable {μ : zm_M} {u : zy_F} {ab : Nat → Int32} {lo : Nat → Nat} {row : List Nat}
set_option maxRecDepth 100000 in
theorem zv_tile0 (D : Nat) {k s : Nat} (hs : s < 3) (hI : zu_I μ s u ab) (hR : zv_L μ 242 12 row) (hb : ∀ x ∈ row, x < 10) (hlo : ∀ j, j < 10 → μ 234 j = 1 → μ 238 j = nI s → zu_at μ s u j (lo j)) : ∀ (j : Nat), j ≤ row.length → ∀ (L : zi_Lc) (n : Int32), zi_nl L = true → zi_get L 0 = some (.ref 232) → zi_get L 1 = some (.int (nI k)) → zi_get L 2 = some (.int (nI s)) → zi_get L 3 = some (.int n) → zi_get L 4 = some (.int (zv_dn j)) → n = zv_lah μ s lo (row.drop j) →
    ∃ L', ze_S (D + 3) 6 (some .boolean) zc_X6_tile 10 L [] (zm_mk μ) 70 L' [] (zm_mk μ) ∧ zi_nl L' = true ∧ zi_get L' 0 = some (.ref 232) ∧ zi_get L' 1 = some (.int (nI k)) ∧ zi_get L' 2 = some (.int (nI s)) ∧ zi_get L' 3 = some (.int (zv_lah μ s lo row))
  | 0, _, L, n, nl, g0, g1, g2, g3, g4, hn => by
    have g4 : zi_get L 4 = some (.int (-1)) := g4
    refine ⟨L, ⟨0, 2, fun F m hF => ?_⟩, nl, g0, g1, g2, by rw [g3, hn]; rfl⟩
    simp (maxDischargeDepth := 9) [zg_0, zg_aload_n, zg_bipush, zg_getfield, zg_goto, zg_iaload, zg_iastore, zg_iconst, zg_ifCond, zg_if_icmp, zg_iinc, zg_iload, zg_iload_n, zg_invokevirtual, zg_ireturn, zg_istore, zg_istore_n, zg_isub, zf_X6_tile, zi_ld, zi_lda, zi_cmp, zi_retOk, zi_isI, zi_f3, zi_cr, zi_ci, zi_cn, zi_get_ne, zi_nl_i, zi_nl_r, zi_get_set_eq, nl, g0, g1, g2, g3, g4]
  | j + 1, hj, L, n, nl, g0, g1, g2, g3, g4, hn => by
    obtain ⟨lc, cM⟩ := zM_c (μ := μ)
    have g4 : zi_get L 4 = some (.int (nI j)) := g4
    have h10 := hR.1
    have hx : row.getD j 0 ∈ row := zl_mem (by omega)
    have hx10 := hb _ hx
    have ij : zi_in (nI j) 10 = true := zm_in (by omega) (by decide)
    have cj : (nI j).toNatClampNeg = j := nI_clamp (by omega)
    have ix : zi_in (nI (row.getD j 0)) 10 = true := zm_in hx10 (by decide)
    have cx : (nI (row.getD j 0)).toNatClampNeg = row.getD j 0 := nI_clamp (by omega)
    have er : μ 242 j = nI (row.getD j 0) := hR.2.2 j (by omega)
    have c0 : ¬ nI j < 0 := nI_pos (by omega)
    have ed := zv_dn_s (n := j) (by omega)
    have hd : row.drop j = row.getD j 0 :: row.drop (j + 1) := zl_drop_get (by omega)
    have hr : zv_lah μ s lo (row.drop j) = if μ 234 (row.getD j 0) = 1 ∧ μ 238 (row.getD j 0) = nI s then nI (lo (row.getD j 0)) else zv_lah μ s lo (row.drop (j + 1)) := by rw [hd]; rfl
    rw [← hn] at hr
    have rec_ : ∀ (L1 : zi_Lc) (n1 : Int32), zi_nl L1 = true → zi_get L1 0 = some (.ref 232) → zi_get L1 1 = some (.int (nI k)) → zi_get L1 2 = some (.int (nI s)) → zi_get L1 3 = some (.int n1) → zi_get L1 4 = some (.int (zv_dn j)) → n1 = zv_lah μ s lo (row.drop j) → _ := zv_tile0 D (k := k) hs hI hR hb hlo j (by omega)
    generalize row.getD j 0 = x at *
    by_cases c3 : μ 234 x = 1
    · by_cases c4 : μ 238 x = nI s
      · obtain ⟨N1, E1⟩ := ze_MleafOf_at (μ := μ) D (by omega) hI hx10 (hlo x hx10 c3 c4)
        rw [if_pos ⟨c3, c4⟩] at hr
        obtain ⟨L', s1, q⟩ := rec_ (zi_set (zi_set L 3 (.int (nI (lo x)))) 4 (.int (zv_dn j))) (nI (lo x)) (by simp (maxDischargeDepth := 9) [zi_get_ne, zi_nl_i, zi_nl_r, zi_get_set_eq, nl]) (by simp (maxDischargeDepth := 9) [zi_get_ne, zi_nl_i, zi_nl_r, zi_get_set_eq, nl, g0]) (by simp (maxDischargeDepth := 9) [zi_get_ne, zi_nl_i, zi_nl_r, zi_get_set_eq, nl, g1]) (by simp (maxDischargeDepth := 9) [zi_get_ne, zi_nl_i, zi_nl_r, zi_get_set_eq, nl, g2]) (by simp (maxDischargeDepth := 9) [zi_get_ne, zi_nl_i, zi_nl_r, zi_get_set_eq, nl]) zi_get_set_eq hr.symm
        refine ⟨L', ze_S.trans ⟨N1, 31, fun F m hF => ?_⟩ s1, q⟩
        simp (maxDischargeDepth := 9) [zg_0, zg_aload_n, zg_bipush, zg_getfield, zg_goto, zg_iaload, zg_iastore, zg_iconst, zg_ifCond, zg_if_icmp, zg_iinc, zg_iload, zg_iload_n, zg_invokevirtual, zg_ireturn, zg_istore, zg_istore_n, zg_isub, zf_X6_tile, zi_ld, zi_lda, zi_cmp, zi_retOk, zi_isI, zi_f3, zi_cr, zi_ci, zi_cn, zi_get_ne, zi_nl_i, zi_nl_r, zi_get_set_eq, nl, g0, g1, g2, g3, g4, c0, zM_g, zm_iald (k := 0) zM_A242 ij, zm_iald (k := 0) zM_A234 ix, zm_iald (k := 0) zM_A238 ix, cj, cx, er, c3, c4, cM, zq_Mod_leafOf, E1 F (by omega), ed]
      · rw [if_neg (fun h => c4 h.2)] at hr
        obtain ⟨L', s1, q⟩ := rec_ (zi_set (zi_set L 3 (.int n)) 4 (.int (zv_dn j))) n (by simp (maxDischargeDepth := 9) [zi_get_ne, zi_nl_i, zi_nl_r, zi_get_set_eq, nl]) (by simp (maxDischargeDepth := 9) [zi_get_ne, zi_nl_i, zi_nl_r, zi_get_set_eq, nl, g0]) (by simp (maxDischargeDepth := 9) [zi_get_ne, zi_nl_i, zi_nl_r, zi_get_set_eq, nl, g1]) (by simp (maxDischargeDepth := 9) [zi_get_ne, zi_nl_i, zi_nl_r, zi_get_set_eq, nl, g2]) (by simp (maxDischargeDepth := 9) [zi_get_ne, zi_nl_i, zi_nl_r, zi_get_set_eq, nl]) zi_get_set_eq hr.symm
        refine ⟨L', ze_S.trans ⟨0, 24, fun F m hF => ?_⟩ s1, q⟩
        simp (maxDischargeDepth := 9) [zg_0, zg_aload_n, zg_bipush, zg_getfield, zg_goto, zg_iaload, zg_iastore, zg_iconst, zg_ifCond, zg_if_icmp, zg_iinc, zg_iload, zg_iload_n, zg_invokevirtual, zg_ireturn, zg_istore, zg_istore_n, zg_isub, zf_X6_tile, zi_ld, zi_lda, zi_cmp, zi_retOk, zi_isI, zi_f3, zi_cr, zi_ci, zi_cn, zi_get_ne, zi_nl_i, zi_nl_r, zi_get_set_eq, nl, g0, g1, g2, g3, g4, c0, zM_g, zm_iald (k := 0) zM_A242 ij, zm_iald (k := 0) zM_A234 ix, zm_iald (k := 0) zM_A238 ix, cj, cx, er, c3, c4, ed]
    · rw [if_neg (fun h => c3 h.1)] at hr
      obtain ⟨L', s1, q⟩ := rec_ (zi_set (zi_set L 3 (.int n)) 4 (.int (zv_dn j))) n (by simp (maxDischargeDepth := 9) [zi_get_ne, zi_nl_i, zi_nl_r, zi_get_set_eq, nl]) (by simp (maxDischargeDepth := 9) [zi_get_ne, zi_nl_i, zi_nl_r, zi_get_set_eq, nl, g0]) (by simp (maxDischargeDepth := 9) [zi_get_ne, zi_nl_i, zi_nl_r, zi_get_set_eq, nl, g1]) (by simp (maxDischargeDepth := 9) [zi_get_ne, zi_nl_i, zi_nl_r, zi_get_set_eq, nl, g2]) (by simp (maxDischargeDepth := 9) [zi_get_ne, zi_nl_i, zi_nl_r, zi_get_set_eq, nl]) zi_get_set_eq hr.symm
      refine ⟨L', ze_S.trans ⟨0, 15, fun F m hF => ?_⟩ s1, q⟩
      simp (maxDischargeDepth := 9) [zg_0, zg_aload_n, zg_bipush, zg_getfield, zg_goto, zg_iaload, zg_iastore, zg_iconst, zg_ifCond, zg_if_icmp, zg_iinc, zg_iload, zg_iload_n, zg_invokevirtual, zg_ireturn, zg_istore, zg_istore_n, zg_isub, zf_X6_tile, zi_ld, zi_lda, zi_cmp, zi_retOk, zi_isI, zi_f3, zi_cr, zi_ci, zi_cn, zi_get_ne, zi_nl_i, zi_nl_r, zi_get_set_eq, nl, g0, g1, g2, g3, g4, c0, zM_g, zm_iald (k := 0) zM_A242 ij, zm_iald (k := 0) zM_A234 ix, cj, cx, er, c3, ed]
end ZVP
