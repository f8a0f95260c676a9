/-! the reference: tile, one way after the other -/
section ZVQ
variable {μ : zm_M} {u : zy_F} {ab : Nat → Int32}
theorem zu_cq_I {s : Nat} (hs : s < 6) (hI : zu_I μ s u ab) : zu_I (zu_cq μ s 6 24 240) 6 u ab := zu_cq_eqT.I hI
theorem zu_fr_out {τ : Nat} {ν : zm_M} (f : zu_fr τ μ ν) {c d : Nat} (h : c < 243 ∨ 250 < c) : ν c d = μ c d := f c d (zu_in_not h)
set_option maxRecDepth 100000 in
theorem zv_way (D : Nat) {k s m w : Nat} (hk : k < 10) (hs : s < 3) (hw : w < 2) (ac : Bool) (hI : zu_I μ s u ab) (hm : m ∈ zy_lvs u) (hlen : (zy_ids u).length + 2 ≤ 24) (h0 : 0 ≤ μ 232 s) (h1 : 0 ≤ μ 233 s) (L : zi_Lc) (nl : zi_nl L = true) (g0 : zi_get L 0 = some (.ref 232)) (g1 : zi_get L 1 = some (.int (nI k))) (g2 : zi_get L 2 = some (.int (nI s))) (g3 : zi_get L 3 = some (.int (nI m))) (g4 : zi_get L 4 = some (.int (if ac = true then 1 else 0))) (g5 : zi_get L 5 = some (.int (nI w))) :
    ∃ ξ ab' c f, zu_isCut (zu_cq μ s 6 24 240) 6 u m k (if ac = true then w else 1 - w) false ξ ab' c f ∧ zu_fr 6 μ ξ ∧
      (zu_fit ξ 6 (zy_cut m c f u) (μ 232 s) (μ 233 s) = true → ze_G (D + 27) 6 (some .boolean) zc_X6_tile 130 L [] (zm_mk μ) (some (.int 1)) (zm_mk (zu_cq ξ 6 s 24 240))) ∧
      (zu_fit ξ 6 (zy_cut m c f u) (μ 232 s) (μ 233 s) = false → ze_S (D + 27) 6 (some .boolean) zc_X6_tile 130 L [] (zm_mk μ) 130 (zi_set L 5 (.int (nI (w + 1)))) [] (zm_mk ξ)) := by
  obtain ⟨lc, cM⟩ := zM_c (μ := μ)
  have h6 : (Int8.ofInt 6).toInt32 = (6 : Int32) := by decide
  have n6 : nI 6 = (6 : Int32) := by decide
  obtain ⟨N1, E1⟩ := ze_McopyTree (μ := μ) (D + 25) (f := s) (t := 6) (by omega) (by decide) (by omega)
  obtain ⟨lc1, cM1⟩ := zM_c (μ := zu_cq μ s 6 24 240)
  have hI1 := zu_cq_I (by omega : s < 6) hI
  have fr1 : zu_fr 6 μ (zu_cq μ s 6 24 240) := zu_cq_fr
  generalize zu_cq μ s 6 24 240 = μ1 at *
  have ha : (if ac = true then w else 1 - w) < 2 := by split <;> omega
  obtain ⟨ξ, ab', c, f, ⟨N2, E2⟩, hc⟩ := ze_McutLeaf (μ := μ1) (D + 23) (by decide : 6 < 7) hI1 hm hk ha false hlen
  have fr2 : zu_fr 6 μ ξ := fr1.trans hc.2.2.2.2.2.2.2.2
  have E2 : ∀ F, N2 ≤ F → zi_run zi_ms F (D + 27) A_Mod_cutLeaf [.ref 232, .int (nI 6), .int (nI m), .int (nI ((if ac = true then w else 1 - w) + 2)), .int (nI k), .int 0] (zm_mk μ1) [] = some [([], none, zm_mk ξ)] := E2
  obtain ⟨lc2, cM2⟩ := zM_c (μ := ξ)
  have e0 : ξ 232 s = μ 232 s := zu_fr_out fr2 (by omega)
  have e1 : ξ 233 s = μ 233 s := zu_fr_out fr2 (by omega)
  have hI2 : zu_I ξ 6 (zy_cut m c f u) ab' := hc.1
  obtain ⟨N3, E3⟩ := ze_MtakesTrial (μ := ξ) D hs hI2 (by rw [e0]; exact h0) (by rw [e1]; exact h1)
  rw [e0, e1] at E3
  refine ⟨ξ, ab', c, f, hc, fr2, fun hf => ?_, fun hf => ?_⟩
  · rw [hf, if_pos rfl, if_pos rfl] at E3
    rw [n6] at E1 E2
    rcases (by omega : w = 0 ∨ w = 1) with rfl | rfl
    · have n0 : nI 0 = (0 : Int32) := by decide
      rw [n0] at g5
      cases ac with
      | true =>
        have E2 : ∀ F, N2 ≤ F → zi_run zi_ms F (D + 27) A_Mod_cutLeaf [.ref 232, .int 6, .int (nI m), .int 2, .int (nI k), .int 0] (zm_mk μ1) [] = some [([], none, zm_mk ξ)] := E2
        have g4 : zi_get L 4 = some (.int 1) := g4
        refine ⟨N1 + N2 + N3, 31, fun F m hF => ?_⟩
        simp [zg_0, zg_aload_n, zg_bipush, zg_getfield, zg_goto, zg_iaload, zg_iastore, zg_iconst, zg_ifCond, zg_if_icmp, zg_iinc, zg_iload, zg_iload_n, zg_invokevirtual, zg_ireturn, zg_istore, zg_istore_n, zg_isub, zf_X6_tile, zi_ld, zi_lda, zi_cmp, zi_retOk, zi_isI, zi_f3, zi_cr, zi_ci, zi_cn, g0, g1, g2, g3, g4, g5, h6, cM, cM1, cM2, zq_Mod_copyTree, zq_Mod_cutLeaf, zq_Mod_takesTrial, E1 F (by omega), E2 F (by omega), E3 F (by omega)]
      | false =>
        have E2 : ∀ F, N2 ≤ F → zi_run zi_ms F (D + 27) A_Mod_cutLeaf [.ref 232, .int 6, .int (nI m), .int 3, .int (nI k), .int 0] (zm_mk μ1) [] = some [([], none, zm_mk ξ)] := E2
        have g4 : zi_get L 4 = some (.int 0) := g4
        refine ⟨N1 + N2 + N3, 30, fun F m hF => ?_⟩
        simp [zg_0, zg_aload_n, zg_bipush, zg_getfield, zg_goto, zg_iaload, zg_iastore, zg_iconst, zg_ifCond, zg_if_icmp, zg_iinc, zg_iload, zg_iload_n, zg_invokevirtual, zg_ireturn, zg_istore, zg_istore_n, zg_isub, zf_X6_tile, zi_ld, zi_lda, zi_cmp, zi_retOk, zi_isI, zi_f3, zi_cr, zi_ci, zi_cn, g0, g1, g2, g3, g4, g5, h6, cM, cM1, cM2, zq_Mod_copyTree, zq_Mod_cutLeaf, zq_Mod_takesTrial, E1 F (by omega), E2 F (by omega), E3 F (by omega)]
    · have n0 : nI 1 = (1 : Int32) := by decide
      rw [n0] at g5
      cases ac with
      | true =>
        have E2 : ∀ F, N2 ≤ F → zi_run zi_ms F (D + 27) A_Mod_cutLeaf [.ref 232, .int 6, .int (nI m), .int 3, .int (nI k), .int 0] (zm_mk μ1) [] = some [([], none, zm_mk ξ)] := E2
        have g4 : zi_get L 4 = some (.int 1) := g4
        refine ⟨N1 + N2 + N3, 29, fun F m hF => ?_⟩
        simp [zg_0, zg_aload_n, zg_bipush, zg_getfield, zg_goto, zg_iaload, zg_iastore, zg_iconst, zg_ifCond, zg_if_icmp, zg_iinc, zg_iload, zg_iload_n, zg_invokevirtual, zg_ireturn, zg_istore, zg_istore_n, zg_isub, zf_X6_tile, zi_ld, zi_lda, zi_cmp, zi_retOk, zi_isI, zi_f3, zi_cr, zi_ci, zi_cn, g0, g1, g2, g3, g4, g5, h6, cM, cM1, cM2, zq_Mod_copyTree, zq_Mod_cutLeaf, zq_Mod_takesTrial, E1 F (by omega), E2 F (by omega), E3 F (by omega)]
      | false =>
        have E2 : ∀ F, N2 ≤ F → zi_run zi_ms F (D + 27) A_Mod_cutLeaf [.ref 232, .int 6, .int (nI m), .int 2, .int (nI k), .int 0] (zm_mk μ1) [] = some [([], none, zm_mk ξ)] := E2
        have g4 : zi_get L 4 = some (.int 0) := g4
        refine ⟨N1 + N2 + N3, 30, fun F m hF => ?_⟩
        simp [zg_0, zg_aload_n, zg_bipush, zg_getfield, zg_goto, zg_iaload, zg_iastore, zg_iconst, zg_ifCond, zg_if_icmp, zg_iinc, zg_iload, zg_iload_n, zg_invokevirtual, zg_ireturn, zg_istore, zg_istore_n, zg_isub, zf_X6_tile, zi_ld, zi_lda, zi_cmp, zi_retOk, zi_isI, zi_f3, zi_cr, zi_ci, zi_cn, g0, g1, g2, g3, g4, g5, h6, cM, cM1, cM2, zq_Mod_copyTree, zq_Mod_cutLeaf, zq_Mod_takesTrial, E1 F (by omega), E2 F (by omega), E3 F (by omega)]
  · rw [hf, if_neg (by decide), if_neg (by decide)] at E3
    rw [n6] at E1 E2
    rcases (by omega : w = 0 ∨ w = 1) with rfl | rfl
    · have n0 : nI 0 = (0 : Int32) := by decide
      rw [n0] at g5
      have n1 : nI (0 + 1) = (1 : Int32) := by decide
      rw [n1]
      cases ac with
      | true =>
        have E2 : ∀ F, N2 ≤ F → zi_run zi_ms F (D + 27) A_Mod_cutLeaf [.ref 232, .int 6, .int (nI m), .int 2, .int (nI k), .int 0] (zm_mk μ1) [] = some [([], none, zm_mk ξ)] := E2
        have g4 : zi_get L 4 = some (.int 1) := g4
        refine ⟨N1 + N2 + N3, 31, fun F m hF => ?_⟩
        simp (maxDischargeDepth := 9) [zg_0, zg_aload_n, zg_bipush, zg_getfield, zg_goto, zg_iaload, zg_iastore, zg_iconst, zg_ifCond, zg_if_icmp, zg_iinc, zg_iload, zg_iload_n, zg_invokevirtual, zg_ireturn, zg_istore, zg_istore_n, zg_isub, zf_X6_tile, zi_ld, zi_lda, zi_cmp, zi_retOk, zi_isI, zi_f3, zi_cr, zi_ci, zi_cn, zi_get_ne, zi_nl_i, zi_nl_r, zi_get_set_eq, nl, g0, g1, g2, g3, g4, g5, h6, cM, cM1, cM2, zq_Mod_copyTree, zq_Mod_cutLeaf, zq_Mod_takesTrial, E1 F (by omega), E2 F (by omega), E3 F (by omega)]
      | false =>
        have E2 : ∀ F, N2 ≤ F → zi_run zi_ms F (D + 27) A_Mod_cutLeaf [.ref 232, .int 6, .int (nI m), .int 3, .int (nI k), .int 0] (zm_mk μ1) [] = some [([], none, zm_mk ξ)] := E2
        have g4 : zi_get L 4 = some (.int 0) := g4
        refine ⟨N1 + N2 + N3, 30, fun F m hF => ?_⟩
        simp (maxDischargeDepth := 9) [zg_0, zg_aload_n, zg_bipush, zg_getfield, zg_goto, zg_iaload, zg_iastore, zg_iconst, zg_ifCond, zg_if_icmp, zg_iinc, zg_iload, zg_iload_n, zg_invokevirtual, zg_ireturn, zg_istore, zg_istore_n, zg_isub, zf_X6_tile, zi_ld, zi_lda, zi_cmp, zi_retOk, zi_isI, zi_f3, zi_cr, zi_ci, zi_cn, zi_get_ne, zi_nl_i, zi_nl_r, zi_get_set_eq, nl, g0, g1, g2, g3, g4, g5, h6, cM, cM1, cM2, zq_Mod_copyTree, zq_Mod_cutLeaf, zq_Mod_takesTrial, E1 F (by omega), E2 F (by omega), E3 F (by omega)]
    · have n0 : nI 1 = (1 : Int32) := by decide
      rw [n0] at g5
      have n1 : nI (1 + 1) = (2 : Int32) := by decide
      rw [n1]
      cases ac with
      | true =>
        have E2 : ∀ F, N2 ≤ F → zi_run zi_ms F (D + 27) A_Mod_cutLeaf [.ref 232, .int 6, .int (nI m), .int 3, .int (nI k), .int 0] (zm_mk μ1) [] = some [([], none, zm_mk ξ)] := E2
        have g4 : zi_get L 4 = some (.int 1) := g4
        refine ⟨N1 + N2 + N3, 29, fun F m hF => ?_⟩
        simp (maxDischargeDepth := 9) [zg_0, zg_aload_n, zg_bipush, zg_getfield, zg_goto, zg_iaload, zg_iastore, zg_iconst, zg_ifCond, zg_if_icmp, zg_iinc, zg_iload, zg_iload_n, zg_invokevirtual, zg_ireturn, zg_istore, zg_istore_n, zg_isub, zf_X6_tile, zi_ld, zi_lda, zi_cmp, zi_retOk, zi_isI, zi_f3, zi_cr, zi_ci, zi_cn, zi_get_ne, zi_nl_i, zi_nl_r, zi_get_set_eq, nl, g0, g1, g2, g3, g4, g5, h6, cM, cM1, cM2, zq_Mod_copyTree, zq_Mod_cutLeaf, zq_Mod_takesTrial, E1 F (by omega), E2 F (by omega), E3 F (by omega)]
      | false =>
        have E2 : ∀ F, N2 ≤ F → zi_run zi_ms F (D + 27) A_Mod_cutLeaf [.ref 232, .int 6, .int (nI m), .int 2, .int (nI k), .int 0] (zm_mk μ1) [] = some [([], none, zm_mk ξ)] := E2
        have g4 : zi_get L 4 = some (.int 0) := g4
        refine ⟨N1 + N2 + N3, 30, fun F m hF => ?_⟩
        simp (maxDischargeDepth := 9) [zg_0, zg_aload_n, zg_bipush, zg_getfield, zg_goto, zg_iaload, zg_iastore, zg_iconst, zg_ifCond, zg_if_icmp, zg_iinc, zg_iload, zg_iload_n, zg_invokevirtual, zg_ireturn, zg_istore, zg_istore_n, zg_isub, zf_X6_tile, zi_ld, zi_lda, zi_cmp, zi_retOk, zi_isI, zi_f3, zi_cr, zi_ci, zi_cn, zi_get_ne, zi_nl_i, zi_nl_r, zi_get_set_eq, nl, g0, g1, g2, g3, g4, g5, h6, cM, cM1, cM2, zq_Mod_copyTree, zq_Mod_cutLeaf, zq_Mod_takesTrial, E1 F (by omega), E2 F (by omega), E3 F (by omega)]
end ZVQ
