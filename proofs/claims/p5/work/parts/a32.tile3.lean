section
/-! the reference: tile whole -/
noncomputable def zv_tiledN (μ ν : zm_M) (s k m : Nat) (ac : Bool) (u : zy_F) (b : Int32) : Prop :=
  ∃ ξ1 ab1 c1 f1, zu_isCut (zu_cq μ s 6 24 240) 6 u m k (if ac = true then 0 else 1) false ξ1 ab1 c1 f1 ∧ zu_fr 6 μ ξ1 ∧
    ((zu_fit ξ1 6 (zy_cut m c1 f1 u) (μ 232 s) (μ 233 s) = true ∧ b = 1 ∧ ν = zu_cq ξ1 6 s 24 240) ∨
     (zu_fit ξ1 6 (zy_cut m c1 f1 u) (μ 232 s) (μ 233 s) = false ∧ ∃ ξ2 ab2 c2 f2, zu_isCut (zu_cq ξ1 s 6 24 240) 6 u m k (if ac = true then 1 else 0) false ξ2 ab2 c2 f2 ∧ zu_fr 6 ξ1 ξ2 ∧
       ((zu_fit ξ2 6 (zy_cut m c2 f2 u) (μ 232 s) (μ 233 s) = true ∧ b = 1 ∧ ν = zu_cq ξ2 6 s 24 240) ∨
        (zu_fit ξ2 6 (zy_cut m c2 f2 u) (μ 232 s) (μ 233 s) = false ∧ ∃ ξ3 ab3, zu_isTab (zu_cq ξ2 s 6 24 240) 6 u ab3 m k ξ3 ∧ zu_fr 6 ξ2 ξ3 ∧
          ((zu_fit ξ3 6 u (μ 232 s) (μ 233 s) = true ∧ b = 1 ∧ ν = zu_cq ξ3 6 s 24 240) ∨ (zu_fit ξ3 6 u (μ 232 s) (μ 233 s) = false ∧ b = 0 ∧ ν = ξ3))))))
noncomputable def zv_tiled0 (μ ν : zm_M) (s k : Nat) (b : Int32) : Prop :=
  ∃ ξ f, zu_isNew μ 6 k ξ f ∧ ((zu_fit ξ 6 (.tag f .nil) (μ 232 s) (μ 233 s) = true ∧ b = 1 ∧ ν = zu_cq ξ 6 s 24 240) ∨ (zu_fit ξ 6 (.tag f .nil) (μ 232 s) (μ 233 s) = false ∧ b = 0 ∧ ν = ξ))
section ZVR
variable {μ : zm_M} {u : zy_F} {ab : Nat → Int32} {lo : Nat → Nat} {row : List Nat}
set_option maxRecDepth 100000 in
theorem zv_wayT (D : Nat) {k s m : Nat} (hk : k < 10) (hs : s < 3) (hI : zu_I μ s u ab) (hm : m ∈ zy_lvs u) (hl : (zu_tb μ s m).length < 10) (h0 : 0 ≤ μ 232 s) (h1 : 0 ≤ μ 233 s) (L : zi_Lc) (nl : zi_nl L = true) (g0 : zi_get L 0 = some (.ref 232)) (g1 : zi_get L 1 = some (.int (nI k))) (g2 : zi_get L 2 = some (.int (nI s))) (g3 : zi_get L 3 = some (.int (nI m))) (g5 : zi_get L 5 = some (.int 2)) :
    ∃ ξ, zu_isTab (zu_cq μ s 6 24 240) 6 u ab m k ξ ∧ zu_fr 6 μ ξ ∧
      (zu_fit ξ 6 u (μ 232 s) (μ 233 s) = true → ze_G (D + 27) 6 (some .boolean) zc_X6_tile 130 L [] (zm_mk μ) (some (.int 1)) (zm_mk (zu_cq ξ 6 s 24 240))) ∧
      (zu_fit ξ 6 u (μ 232 s) (μ 233 s) = false → ze_G (D + 27) 6 (some .boolean) zc_X6_tile 130 L [] (zm_mk μ) (some (.int 0)) (zm_mk ξ)) := by
  obtain ⟨lc, cM⟩ := zM_c (μ := μ)
  have h6 : (Int8.ofInt 6).toInt32 = (6 : Int32) := by decide
  have n6 : nI 6 = (6 : Int32) := by decide
  obtain ⟨N1, E1⟩ := ze_McopyTree (μ := μ) (D + 25) (f := s) (t := 6) (by omega) (by decide) (by omega)
  obtain ⟨lc1, cM1⟩ := zM_c (μ := zu_cq μ s 6 24 240)
  have hI1 := zu_cq_I (by omega : s < 6) hI
  have fr1 : zu_fr 6 μ (zu_cq μ s 6 24 240) := zu_cq_fr
  have hl1 : (zu_tb (zu_cq μ s 6 24 240) 6 m).length < 10 := by rw [zu_cq_eqT.tb (zu_I_lt hI hm) (zu_I_tbl hI hm)]; exact hl
  generalize zu_cq μ s 6 24 240 = μ1 at *
  obtain ⟨ξ, ⟨N2, E2⟩, hc⟩ := ze_MaddTabI (μ := μ1) (D + 25) (by decide : 6 < 7) hI1 hm hk hl1
  have fr2 : zu_fr 6 μ ξ := fr1.trans hc.2.2.2.2
  obtain ⟨lc2, cM2⟩ := zM_c (μ := ξ)
  have e0 : ξ 232 s = μ 232 s := zu_fr_out fr2 (by omega)
  have e1 : ξ 233 s = μ 233 s := zu_fr_out fr2 (by omega)
  obtain ⟨N3, E3⟩ := ze_MtakesTrial (μ := ξ) D hs hc.1 (by rw [e0]; exact h0) (by rw [e1]; exact h1)
  rw [e0, e1] at E3
  rw [n6] at E1 E2
  refine ⟨ξ, hc, fr2, fun hf => ?_, fun hf => ?_⟩
  · rw [hf, if_pos rfl, if_pos rfl] at E3
    refine ⟨N1 + N2 + N3, 21, fun F m hF => ?_⟩
    simp [zg_0, zg_aload_n, zg_bipush, zg_getfield, zg_goto, zg_iaload, zg_iastore, zg_iconst, zg_ifCond, zg_if_icmp, zg_iinc, zg_iload, zg_iload_n, zg_invokevirtual, zg_ireturn, zg_istore, zg_istore_n, zg_isub, zf_X6_tile, zi_ld, zi_lda, zi_cmp, zi_retOk, zi_isI, zi_f3, zi_cr, zi_ci, zi_cn, g0, g1, g2, g3, g5, h6, cM, cM1, cM2, zq_Mod_copyTree, zq_Mod_addTab, zq_Mod_takesTrial, E1 F (by omega), E2 F (by omega), E3 F (by omega)]
  · rw [hf, if_neg (by decide), if_neg (by decide)] at E3
    refine ⟨N1 + N2 + N3, 26, fun F m hF => ?_⟩
    simp (maxDischargeDepth := 9) [zg_0, zg_aload_n, zg_bipush, zg_getfield, zg_goto, zg_iaload, zg_iastore, zg_iconst, zg_ifCond, zg_if_icmp, zg_iinc, zg_iload, zg_iload_n, zg_invokevirtual, zg_ireturn, zg_istore, zg_istore_n, zg_isub, zf_X6_tile, zi_ld, zi_lda, zi_cmp, zi_retOk, zi_isI, zi_f3, zi_cr, zi_ci, zi_cn, zi_get_ne, zi_nl_i, zi_nl_r, zi_get_set_eq, nl, g0, g1, g2, g3, g5, h6, cM, cM1, cM2, zq_Mod_copyTree, zq_Mod_addTab, zq_Mod_takesTrial, E1 F (by omega), E2 F (by omega), E3 F (by omega)]
set_option maxRecDepth 100000 in
theorem zv_ways (D : Nat) {k s m : Nat} (hk : k < 10) (hs : s < 3) (ac : Bool) (hI : zu_I μ s u ab) (hm : m ∈ zy_lvs u) (hlen : (zy_ids u).length + 2 ≤ 24) (hl : (zu_tb μ s m).length < 10) (h0 : 0 ≤ μ 232 s) (h1 : 0 ≤ μ 233 s) (L : zi_Lc) (nl : zi_nl L = true) (g0 : zi_get L 0 = some (.ref 232)) (g1 : zi_get L 1 = some (.int (nI k))) (g2 : zi_get L 2 = some (.int (nI s))) (g3 : zi_get L 3 = some (.int (nI m))) (g4 : zi_get L 4 = some (.int (if ac = true then 1 else 0))) (g5 : zi_get L 5 = some (.int (nI 0))) :
    ∃ ν b, ze_G (D + 27) 6 (some .boolean) zc_X6_tile 130 L [] (zm_mk μ) (some (.int b)) (zm_mk ν) ∧ zv_tiledN μ ν s k m ac u b := by
  obtain ⟨ξ1, ab1, c1, f1, hc1, r1, G1, S1⟩ := zv_way (μ := μ) D hk hs (w := 0) (by decide) ac hI hm hlen h0 h1 L nl g0 g1 g2 g3 g4 g5
  have q1 : zu_eqT μ s ξ1 s := r1.eqT (by omega)
  by_cases z1 : zu_fit ξ1 6 (zy_cut m c1 f1 u) (μ 232 s) (μ 233 s) = true
  · exact ⟨_, 1, G1 z1, ξ1, ab1, c1, f1, hc1, r1, Or.inl ⟨z1, rfl, rfl⟩⟩
  · have z1 : zu_fit ξ1 6 (zy_cut m c1 f1 u) (μ 232 s) (μ 233 s) = false := by simpa using z1
    have S1 := S1 z1
    have hI1 := q1.I hI
    have e0 : ξ1 232 s = μ 232 s := zu_fr_out r1 (by omega)
    have e1 : ξ1 233 s = μ 233 s := zu_fr_out r1 (by omega)
    obtain ⟨ξ2, ab2, c2, f2, hc2, r2, G2, S2⟩ := zv_way (μ := ξ1) D hk hs (w := 1) (by decide) ac hI1 hm hlen (by rw [e0]; exact h0) (by rw [e1]; exact h1) (zi_set L 5 (.int (nI (0 + 1)))) (by simp (maxDischargeDepth := 9) [zi_get_ne, zi_nl_i, zi_nl_r, zi_get_set_eq, nl]) (by simp (maxDischargeDepth := 9) [zi_get_ne, zi_nl_i, zi_nl_r, zi_get_set_eq, nl, g0]) (by simp (maxDischargeDepth := 9) [zi_get_ne, zi_nl_i, zi_nl_r, zi_get_set_eq, nl, g1]) (by simp (maxDischargeDepth := 9) [zi_get_ne, zi_nl_i, zi_nl_r, zi_get_set_eq, nl, g2]) (by simp (maxDischargeDepth := 9) [zi_get_ne, zi_nl_i, zi_nl_r, zi_get_set_eq, nl, g3]) (by simp (maxDischargeDepth := 9) [zi_get_ne, zi_nl_i, zi_nl_r, zi_get_set_eq, nl, g4]) zi_get_set_eq
    rw [e0, e1] at G2 S2
    have q2 : zu_eqT μ s ξ2 s := q1.trans (r2.eqT (by omega))
    by_cases z2 : zu_fit ξ2 6 (zy_cut m c2 f2 u) (μ 232 s) (μ 233 s) = true
    · exact ⟨_, 1, ze_S.end S1 (G2 z2), ξ1, ab1, c1, f1, hc1, r1, Or.inr ⟨z1, ξ2, ab2, c2, f2, hc2, r2, Or.inl ⟨z2, rfl, rfl⟩⟩⟩
    · have z2 : zu_fit ξ2 6 (zy_cut m c2 f2 u) (μ 232 s) (μ 233 s) = false := by simpa using z2
      have S2 := S2 z2
      have hI2 := q2.I hI
      have e0' : ξ2 232 s = μ 232 s := (zu_fr_out r2 (by omega)).trans e0
      have e1' : ξ2 233 s = μ 233 s := (zu_fr_out r2 (by omega)).trans e1
      have hl2 : (zu_tb ξ2 s m).length < 10 := by rw [q2.tb (zu_I_lt hI hm) (zu_I_tbl hI hm)]; exact hl
      obtain ⟨ξ3, hc3, r3, G3, S3⟩ := zv_wayT (μ := ξ2) D hk hs hI2 hm hl2 (by rw [e0']; exact h0) (by rw [e1']; exact h1) (zi_set (zi_set L 5 (.int (nI (0 + 1)))) 5 (.int (nI (1 + 1)))) (by simp (maxDischargeDepth := 9) [zi_get_ne, zi_nl_i, zi_nl_r, zi_get_set_eq, nl]) (by simp (maxDischargeDepth := 9) [zi_get_ne, zi_nl_i, zi_nl_r, zi_get_set_eq, nl, g0]) (by simp (maxDischargeDepth := 9) [zi_get_ne, zi_nl_i, zi_nl_r, zi_get_set_eq, nl, g1]) (by simp (maxDischargeDepth := 9) [zi_get_ne, zi_nl_i, zi_nl_r, zi_get_set_eq, nl, g2]) (by simp (maxDischargeDepth := 9) [zi_get_ne, zi_nl_i, zi_nl_r, zi_get_set_eq, nl, g3]) zi_get_set_eq
      rw [e0', e1'] at G3 S3
      by_cases z3 : zu_fit ξ3 6 u (μ 232 s) (μ 233 s) = true
      · exact ⟨_, 1, ze_S.end S1 (ze_S.end S2 (G3 z3)), ξ1, ab1, c1, f1, hc1, r1, Or.inr ⟨z1, ξ2, ab2, c2, f2, hc2, r2, Or.inr ⟨z2, ξ3, _, hc3, r3, Or.inl ⟨z3, rfl, rfl⟩⟩⟩⟩
      · have z3 : zu_fit ξ3 6 u (μ 232 s) (μ 233 s) = false := by simpa using z3
        exact ⟨_, 0, ze_S.end S1 (ze_S.end S2 (S3 z3)), ξ1, ab1, c1, f1, hc1, r1, Or.inr ⟨z1, ξ2, ab2, c2, f2, hc2, r2, Or.inr ⟨z2, ξ3, _, hc3, r3, Or.inr ⟨z3, rfl, rfl⟩⟩⟩⟩
set_option maxRecDepth 100000 in
theorem zv_tile1 (D : Nat) {k s : Nat} (hs : s < 3) (hI : zu_I μ s u ab) (hR : zv_L μ 242 12 row) (hb : ∀ x ∈ row, x < 10) (hlo : ∀ j, j < 10 → μ 234 j = 1 → μ 238 j = nI s → zu_at μ s u j (lo j)) :
    ∃ L', ze_S (D + 3) 6 (some .boolean) zc_X6_tile 0 [(0, .ref 232), (1, .int (nI k)), (2, .int (nI s))] [] (zm_mk μ) 70 L' [] (zm_mk μ) ∧ zi_nl L' = true ∧ zi_get L' 0 = some (.ref 232) ∧ zi_get L' 1 = some (.int (nI k)) ∧ zi_get L' 2 = some (.int (nI s)) ∧ zi_get L' 3 = some (.int (zv_lah μ s lo row)) := by
  have h10 := hR.1
  have ed := zv_dn_1 (n := row.length) (by omega)
  obtain ⟨L', S, q⟩ := zv_tile0 (μ := μ) (lo := lo) D (k := k) hs hI hR hb hlo row.length (Nat.le_refl _) [(4, .int (zv_dn row.length)), (3, .int (-1)), (0, .ref 232), (1, .int (nI k)), (2, .int (nI s))] (-1) rfl rfl rfl rfl rfl rfl (by rw [List.drop_length]; rfl)
  refine ⟨L', ze_S.trans ⟨0, 7, fun F m hF => ?_⟩ S, q⟩
  simp [zg_0, zg_aload_n, zg_bipush, zg_getfield, zg_goto, zg_iaload, zg_iastore, zg_iconst, zg_ifCond, zg_if_icmp, zg_iinc, zg_iload, zg_iload_n, zg_invokevirtual, zg_ireturn, zg_istore, zg_istore_n, zg_isub, zf_X6_tile, zi_ld, zi_lda, zi_cmp, zi_retOk, zi_isI, zi_f3, zi_cr, zi_ci, zi_cn, zi_get, zi_set, zM_g, hR.2.1, ed]
set_option maxRecDepth 100000 in
theorem ze_MtileN (D : Nat) {k s m : Nat} (hk : k < 10) (hs : s < 3) (hI : zu_I μ s u ab) (hR : zv_L μ 242 12 row) (hb : ∀ x ∈ row, x < 10) (hlo : ∀ j, j < 10 → μ 234 j = 1 → μ 238 j = nI s → zu_at μ s u j (lo j)) (hlah : zv_lah μ s lo row = nI m) (hm : m ∈ zy_lvs u) (hlen : (zy_ids u).length + 2 ≤ 24) (hl : (zu_tb μ s m).length < 10) (h0 : 0 ≤ μ 232 s) (h1 : 0 ≤ μ 233 s) :
    ∃ μ1 ν b, ze_E (D + 28) A_Mod_tile [.ref 232, .int (nI k), .int (nI s)] (zm_mk μ) (some (.int b)) (zm_mk ν) ∧ zv_frY μ μ1 ∧ (zy_wf u → zy_laid (zu_P μ1) (zu_fm μ s) (fun n => μ 247 (24 * s + n)) (zu_lsz μ s 0) (zu_lsz μ s 1) u 0 0 (μ 232 s) (μ 233 s)) ∧ zv_tiledN μ1 ν s k m (decide (¬ μ1 257 m < μ1 258 m)) u b := by
  obtain ⟨lc, cM⟩ := zM_c (μ := μ)
  obtain ⟨L, S0, nl, g0, g1, g2, g3⟩ := zv_tile1 (μ := μ) (lo := lo) (D + 24) (k := k) hs hI hR hb hlo
  rw [hlah] at g3
  have hm24 := zu_I_lt hI hm
  have im : zi_in (nI m) 24 = true := zm_in hm24 (by decide)
  have cm : (nI m).toNatClampNeg = m := nI_clamp (by omega)
  have c0 : ¬ nI m < 0 := nI_pos (by omega)
  have c0' : 0 ≤ nI m := Int32.not_lt.mp c0
  obtain ⟨μ1, ⟨N1, E1⟩, ld, -, f⟩ := ze_MlayAll (μ := μ) D hs hI
  have hq := zv_frY_eqT (τ := s) f
  have e0 : μ1 232 s = μ 232 s := f _ _ (by omega) (by omega)
  have e1 : μ1 233 s = μ 233 s := f _ _ (by omega) (by omega)
  have hl1 : (zu_tb μ1 s m).length < 10 := by rw [hq.tb hm24 (zu_I_tbl hI hm)]; exact hl
  by_cases c : μ1 257 m < μ1 258 m
  · obtain ⟨ν, b, G, t⟩ := zv_ways (μ := μ1) D hk hs false (hq.I hI) hm hlen hl1 (by rw [e0]; exact h0) (by rw [e1]; exact h1) (zi_set (zi_set L 4 (.int 0)) 5 (.int (nI 0))) (by simp (maxDischargeDepth := 9) [zi_get_ne, zi_nl_i, zi_nl_r, zi_get_set_eq, nl]) (by simp (maxDischargeDepth := 9) [zi_get_ne, zi_nl_i, zi_nl_r, zi_get_set_eq, nl, g0]) (by simp (maxDischargeDepth := 9) [zi_get_ne, zi_nl_i, zi_nl_r, zi_get_set_eq, nl, g1]) (by simp (maxDischargeDepth := 9) [zi_get_ne, zi_nl_i, zi_nl_r, zi_get_set_eq, nl, g2]) (by simp (maxDischargeDepth := 9) [zi_get_ne, zi_nl_i, zi_nl_r, zi_get_set_eq, nl, g3]) (by simp (maxDischargeDepth := 9) [zi_get_ne, zi_nl_i, zi_nl_r, zi_get_set_eq, nl]) zi_get_set_eq
    refine ⟨μ1, ν, b, ze_in [(0, .ref 232), (1, .int (nI k)), (2, .int (nI s))] zq_Mod_tile (Nat.le_of_ble_eq_true rfl) rfl (ze_S.end S0 (ze_S.end ⟨N1, 18, fun F m hF => ?_⟩ G)), f, ld, by rw [decide_eq_false (not_not_intro c)]; exact t⟩
    simp (maxDischargeDepth := 9) [zg_0, zg_aload_n, zg_bipush, zg_getfield, zg_goto, zg_iaload, zg_iastore, zg_iconst, zg_ifCond, zg_if_icmp, zg_iinc, zg_iload, zg_iload_n, zg_invokevirtual, zg_ireturn, zg_istore, zg_istore_n, zg_isub, zf_X6_tile, zi_ld, zi_lda, zi_cmp, zi_retOk, zi_isI, zi_f3, zi_cr, zi_ci, zi_cn, zi_get_ne, zi_nl_i, zi_nl_r, zi_get_set_eq, nl, g0, g1, g2, g3, c0', cM, zq_Mod_layAll, E1 F (by omega), zM_g, zm_iald (k := 0) zM_A257 im, zm_iald (k := 0) zM_A258 im, cm, c, nI_0]
  · obtain ⟨ν, b, G, t⟩ := zv_ways (μ := μ1) D hk hs true (hq.I hI) hm hlen hl1 (by rw [e0]; exact h0) (by rw [e1]; exact h1) (zi_set (zi_set L 4 (.int 1)) 5 (.int (nI 0))) (by simp (maxDischargeDepth := 9) [zi_get_ne, zi_nl_i, zi_nl_r, zi_get_set_eq, nl]) (by simp (maxDischargeDepth := 9) [zi_get_ne, zi_nl_i, zi_nl_r, zi_get_set_eq, nl, g0]) (by simp (maxDischargeDepth := 9) [zi_get_ne, zi_nl_i, zi_nl_r, zi_get_set_eq, nl, g1]) (by simp (maxDischargeDepth := 9) [zi_get_ne, zi_nl_i, zi_nl_r, zi_get_set_eq, nl, g2]) (by simp (maxDischargeDepth := 9) [zi_get_ne, zi_nl_i, zi_nl_r, zi_get_set_eq, nl, g3]) (by simp (maxDischargeDepth := 9) [zi_get_ne, zi_nl_i, zi_nl_r, zi_get_set_eq, nl]) zi_get_set_eq
    refine ⟨μ1, ν, b, ze_in [(0, .ref 232), (1, .int (nI k)), (2, .int (nI s))] zq_Mod_tile (Nat.le_of_ble_eq_true rfl) rfl (ze_S.end S0 (ze_S.end ⟨N1, 19, fun F m hF => ?_⟩ G)), f, ld, by rw [decide_eq_true c]; exact t⟩
    simp (maxDischargeDepth := 9) [zg_0, zg_aload_n, zg_bipush, zg_getfield, zg_goto, zg_iaload, zg_iastore, zg_iconst, zg_ifCond, zg_if_icmp, zg_iinc, zg_iload, zg_iload_n, zg_invokevirtual, zg_ireturn, zg_istore, zg_istore_n, zg_isub, zf_X6_tile, zi_ld, zi_lda, zi_cmp, zi_retOk, zi_isI, zi_f3, zi_cr, zi_ci, zi_cn, zi_get_ne, zi_nl_i, zi_nl_r, zi_get_set_eq, nl, g0, g1, g2, g3, c0', cM, zq_Mod_layAll, E1 F (by omega), zM_g, zm_iald (k := 0) zM_A257 im, zm_iald (k := 0) zM_A258 im, cm, c, nI_0]
set_option maxRecDepth 100000 in
theorem ze_Mtile0 (D : Nat) {k s : Nat} (hk : k < 10) (hs : s < 3) (hI : zu_I μ s u ab) (hR : zv_L μ 242 12 row) (hb : ∀ x ∈ row, x < 10) (hlo : ∀ j, j < 10 → μ 234 j = 1 → μ 238 j = nI s → zu_at μ s u j (lo j)) (hlah : zv_lah μ s lo row = -1) (h0 : 0 ≤ μ 232 s) (h1 : 0 ≤ μ 233 s) :
    ∃ ν b, ze_E (D + 28) A_Mod_tile [.ref 232, .int (nI k), .int (nI s)] (zm_mk μ) (some (.int b)) (zm_mk ν) ∧ zv_tiled0 μ ν s k b := by
  obtain ⟨lc, cM⟩ := zM_c (μ := μ)
  obtain ⟨L, S0, nl, g0, g1, g2, g3⟩ := zv_tile1 (μ := μ) (lo := lo) (D + 24) (k := k) hs hI hR hb hlo
  rw [hlah] at g3
  have h6 : (Int8.ofInt 6).toInt32 = (6 : Int32) := by decide
  have n6 : nI 6 = (6 : Int32) := by decide
  obtain ⟨μ1, ⟨N1, E1⟩, hI1, f1⟩ := ze_MclearTreeI (μ := μ) (τ := 6) (D + 25) (by decide)
  obtain ⟨lc1, cM1⟩ := zM_c (μ := μ1)
  obtain ⟨μ2, f, ⟨N2, E2⟩, hf, hn⟩ := ze_MnewLeafI (μ := μ1) (D + 24) (by decide : 6 < 7) hI1 hk
  have hn' : zu_isNew μ 6 k (zm_up μ2 243 6 (nI f)) f := ⟨hn.1, hn.2.1, hn.2.2.1, hn.2.2.2.1, f1.trans hn.2.2.2.2⟩
  have i6 : zi_in (6 : Int32) 7 = true := by decide
  have c6 : (6 : Int32).toNatClampNeg = 6 := by decide
  have e0 : zm_up μ2 243 6 (nI f) 232 s = μ 232 s := zu_fr_out hn'.2.2.2.2 (by omega)
  have e1 : zm_up μ2 243 6 (nI f) 233 s = μ 233 s := zu_fr_out hn'.2.2.2.2 (by omega)
  obtain ⟨N3, E3⟩ := ze_MtakesTrial (μ := zm_up μ2 243 6 (nI f)) D hs hn'.1 (by rw [e0]; exact h0) (by rw [e1]; exact h1)
  obtain ⟨lc2, cM2⟩ := zM_c (μ := zm_up μ2 243 6 (nI f))
  rw [e0, e1] at E3
  rw [n6] at E1 E2
  have P := @zm_iast
  by_cases z : zu_fit (zm_up μ2 243 6 (nI f)) 6 (.tag f .nil) (μ 232 s) (μ 233 s) = true
  · rw [if_pos z, if_pos z] at E3
    refine ⟨_, 1, ze_in [(0, .ref 232), (1, .int (nI k)), (2, .int (nI s))] zq_Mod_tile (Nat.le_of_ble_eq_true rfl) rfl (ze_S.end S0 ⟨N1 + N2 + N3, 17, fun F m hF => ?_⟩), _, f, hn', Or.inl ⟨z, rfl, rfl⟩⟩
    simp (maxDischargeDepth := 9) [zg_0, zg_aload_n, zg_bipush, zg_getfield, zg_goto, zg_iaload, zg_iastore, zg_iconst, zg_ifCond, zg_if_icmp, zg_iinc, zg_iload, zg_iload_n, zg_invokevirtual, zg_ireturn, zg_istore, zg_istore_n, zg_isub, zf_X6_tile, zi_ld, zi_lda, zi_cmp, zi_retOk, zi_isI, zi_f3, zi_cr, zi_ci, zi_cn, zi_get_ne, zi_nl_i, zi_nl_r, zi_get_set_eq, nl, g0, g1, g2, g3, h6, cM, cM1, cM2, zM_g, zq_Mod_clearTree, zq_Mod_newLeaf, zq_Mod_takesTrial, E1 F (by omega), E2 F (by omega), zm_iast zM_A243 i6, c6, E3 F (by omega)]
  · rw [if_neg z, if_neg z] at E3
    refine ⟨_, 0, ze_in [(0, .ref 232), (1, .int (nI k)), (2, .int (nI s))] zq_Mod_tile (Nat.le_of_ble_eq_true rfl) rfl (ze_S.end S0 ⟨N1 + N2 + N3, 17, fun F m hF => ?_⟩), _, f, hn', Or.inr ⟨by simpa using z, rfl, rfl⟩⟩
    simp (maxDischargeDepth := 9) [zg_0, zg_aload_n, zg_bipush, zg_getfield, zg_goto, zg_iaload, zg_iastore, zg_iconst, zg_ifCond, zg_if_icmp, zg_iinc, zg_iload, zg_iload_n, zg_invokevirtual, zg_ireturn, zg_istore, zg_istore_n, zg_isub, zf_X6_tile, zi_ld, zi_lda, zi_cmp, zi_retOk, zi_isI, zi_f3, zi_cr, zi_ci, zi_cn, zi_get_ne, zi_nl_i, zi_nl_r, zi_get_set_eq, nl, g0, g1, g2, g3, h6, cM, cM1, cM2, zM_g, zq_Mod_clearTree, zq_Mod_newLeaf, zq_Mod_takesTrial, E1 F (by omega), E2 F (by omega), zm_iast zM_A243 i6, c6, E3 F (by omega)]
end ZVR
end
section
/-! the reference: moveTabs -/
/-- the tree behind the tabs W have come to its first leaf n0, or to a new one -/
noncomputable def zu_AD (μ : zm_M) (τ : Nat) (u : zy_F) (emp : Bool) (W : List Nat) (ν : zm_M) (n0 : Nat) : Prop :=
  (∃ ab, zu_I ν τ (zy_ad emp u W n0) ab) ∧ zu_fr τ μ ν ∧ (emp = false → n0 = (zy_lvs u).getD 0 0 ∧ zu_tb ν τ n0 = zu_tb μ τ n0 ++ W ∧ (∀ n ∈ zy_lvs u, n ≠ n0 → zu_tb ν τ n = zu_tb μ τ n) ∧ ∀ n ∈ zy_ids u, ν 250 (24 * τ + n) = μ 250 (24 * τ + n) ∧ ν 247 (24 * τ + n) = μ 247 (24 * τ + n) ∧ zu_fm ν τ n = zu_fm μ τ n) ∧
  (emp = true → W ≠ [] → n0 < 24 ∧ zu_tb ν τ n0 = W ∧ ν 250 (24 * τ + n0) = nI (W.getD 0 0))
noncomputable def zu_n0 (emp : Bool) (W : List Nat) (n0 : Nat) : Int32 := if emp = true ∧ W = [] then -1 else nI n0
section ZVS
variable {μ ν : zm_M} {τ : Nat} {u : zy_F} {emp : Bool} {W : List Nat} {n0 : Nat}
theorem zu_tb_T {n : Nat} {l : List Nat} (h : zu_T μ τ n l) (hb : ∀ x ∈ l, x < 10) : zu_tb μ τ n = l := zu_tb_eq h hb
set_option maxRecDepth 100000 in
theorem zu_AD_step (D : Nat) {f w : Nat} (ht : τ < 7) (he : emp = true → u = .nil) (he' : emp = false → zy_wf u) (hA : zu_AD μ τ u emp W ν n0) (hw : w < 10) (hl : ((if emp = true then [] else zu_tb μ τ n0) ++ W).length < 10) (L : zi_Lc) (nl : zi_nl L = true) (g0 : zi_get L 0 = some (.ref 232)) (g2 : zi_get L 2 = some (.int (nI τ))) (g3 : zi_get L 3 = some (.int (zu_n0 emp W n0))) (g8 : zi_get L 8 = some (.int (nI w))) :
    ∃ ν' n0' L', ze_S (D + 3) 9 (some .int) zc_X6_moveTabs 86 L [] (zm_mk ν) 116 L' [] (zm_mk ν') ∧ zu_AD μ τ u emp (W ++ [w]) ν' n0' ∧ (emp = false → n0' = n0) ∧ zi_nl L' = true ∧ (∀ j x, j ≠ 3 → x.category = 1 → zi_get L j = some x → zi_get L' j = some x) ∧ zi_get L' 3 = some (.int (zu_n0 emp (W ++ [w]) n0')) := by
  obtain ⟨lc, cM⟩ := zM_c (μ := ν)
  obtain ⟨⟨ab, hI⟩, fr, hF, hT⟩ := hA
  by_cases c : emp = true ∧ W = []
  · obtain ⟨e1, e2⟩ := c
    have eu := he e1
    subst eu e1 e2
    have hI : zu_I ν τ .nil ab := hI
    have g3 : zi_get L 3 = some (.int (-1)) := g3
    obtain ⟨ν1, f, ⟨N1, E1⟩, hf, hn⟩ := ze_MnewLeafI (μ := ν) D ht hI hw
    have it : zi_in (nI τ) 7 = true := zm_in ht (by decide)
    have ct : (nI τ).toNatClampNeg = τ := nI_clamp (by omega)
    obtain ⟨lc1, cM1⟩ := zM_c (μ := ν1)
    refine ⟨zm_up ν1 243 τ (nI f), f, zi_set L 3 (.int (nI f)), ⟨N1, 13, fun F m hF => ?_⟩, ⟨⟨_, hn.1⟩, fr.trans hn.2.2.2.2, (fun e => by cases e), fun _ _ => ⟨hf, zu_tb_T hn.2.2.1 (fun x hx => by rw [List.mem_singleton.mp hx]; exact hw), hn.2.2.2.1⟩⟩, (fun e => by cases e), by simp (maxDischargeDepth := 9) [zi_get_ne, zi_nl_i, zi_nl_r, zi_get_set_eq, nl], (fun j x hj hx g => zi_get_set_ne hj g hx), by rw [zi_get_set_eq]; rfl⟩
    simp (maxDischargeDepth := 9) [zg_0, zg_aload_n, zg_bipush, zg_getfield, zg_goto, zg_iadd, zg_iaload, zg_iastore, zg_iconst, zg_ifCond, zg_if_icmp, zg_iinc, zg_iload, zg_iload_n, zg_imul, zg_invokestatic, zg_invokevirtual, zg_ireturn, zg_istore, zg_istore_n, zf_X6_moveTabs, zi_ld, zi_lda, zi_cmp, zi_retOk, zi_isI, zi_f3, zi_cr, zi_ci, zi_cn, zi_get_ne, zi_nl_i, zi_nl_r, zi_get_set_eq, nl, g0, g2, g3, g8, cM, zM_g, zq_Mod_newLeaf, E1 F (by omega), zm_iast zM_A243 it, ct]
  · have g3 : zi_get L 3 = some (.int (nI n0)) := by rw [g3]; unfold zu_n0; rw [if_neg c]
    have hmem : n0 ∈ zy_lvs (zy_ad emp u W n0) ∧ (zu_tb ν τ n0).length < 10 := by
      cases emp with
      | true =>
        have hW : W ≠ [] := fun e => c ⟨rfl, e⟩
        have : zy_ad true u W n0 = .tag n0 .nil := if_pos ⟨rfl, hW⟩
        rw [this, (hT rfl hW).2.1]
        exact ⟨List.mem_singleton.mpr rfl, hl⟩
      | false =>
        have : zy_ad false u W n0 = u := if_neg (fun e => by cases e.1)
        rw [this, (hF rfl).2.1]
        refine ⟨?_, hl⟩
        rw [(hF rfl).1]
        exact zl_mem (zy_lvs_pos (he' rfl))
    obtain ⟨hm, hlen⟩ := hmem
    obtain ⟨ν', ⟨N1, E1⟩, i1, i2, i3, i4, i5⟩ := ze_MaddTabI (μ := ν) (D + 1) ht hI hm hw hlen
    have hn24 := zu_I_lt hI hm
    have c0 : ¬ nI n0 < 0 := nI_pos (by omega)
    have c0' : 0 ≤ nI n0 := Int32.not_lt.mp c0
    have et : zu_tb ν' τ n0 = zu_tb ν τ n0 ++ [w] := zu_tb_T i2 (fun x hx => by
      rcases List.mem_append.mp hx with h | h
      · exact (zu_I_tb hI hm).2.2 x h
      · rw [List.mem_singleton.mp h]; exact hw)
    have ead : zy_ad emp u (W ++ [w]) n0 = zy_ad emp u W n0 := by
      unfold zy_ad
      by_cases e1 : emp = true
      · rw [if_pos ⟨e1, zl_snoc_ne⟩, if_pos ⟨e1, fun e => c ⟨e1, e⟩⟩]
      · rw [if_neg (fun e => e1 e.1), if_neg (fun e => e1 e.1)]
    refine ⟨ν', n0, L, ⟨N1, 7, fun F m hF => ?_⟩, ⟨⟨ab, by rw [ead]; exact i1⟩, fr.trans i5, fun e => ?_, fun e _ => ?_⟩, (fun _ => rfl), nl, (fun j x _ _ g => g), by rw [g3]; unfold zu_n0; rw [if_neg (fun e => zl_snoc_ne e.2)]⟩
    · simp (maxDischargeDepth := 9) [zg_0, zg_aload_n, zg_bipush, zg_getfield, zg_goto, zg_iadd, zg_iaload, zg_iastore, zg_iconst, zg_ifCond, zg_if_icmp, zg_iinc, zg_iload, zg_iload_n, zg_imul, zg_invokestatic, zg_invokevirtual, zg_ireturn, zg_istore, zg_istore_n, zf_X6_moveTabs, zi_ld, zi_lda, zi_cmp, zi_retOk, zi_isI, zi_f3, zi_cr, zi_ci, zi_cn, zi_get_ne, zi_nl_i, zi_nl_r, zi_get_set_eq, nl, g0, g2, g3, g8, cM, c0', zM_g, zq_Mod_addTab, E1 F (by omega)]
    · obtain ⟨h1, h2, h3, h4⟩ := hF e
      refine ⟨h1, by rw [et, h2, List.append_assoc], fun n hn hne => ?_, fun n hn => ?_⟩
      · rw [← h3 n hn hne]
        have hn' : n ∈ zy_lvs (zy_ad emp u W n0) := by
          have : zy_ad emp u W n0 = u := if_neg (fun q => by rw [e] at q; cases q.1)
          rw [this]; exact hn
        obtain ⟨a1, a2, a3⟩ := zu_I_tb hI hn'
        exact zu_tb_T (i3 n hne _ a1) a3
      · obtain ⟨p1, p2, p3⟩ := i4 n
        obtain ⟨q1, q2, q3⟩ := h4 n hn
        exact ⟨p1.trans q1, p2.trans q2, p3.trans q3⟩
    · have hW : W ≠ [] := fun q => c ⟨e, q⟩
      obtain ⟨h1, h2, h3⟩ := hT e hW
      exact ⟨h1, by rw [et, h2], by rw [(i4 n0).1, h3, zl_snoc_0 hW]⟩
end ZVS
section ZVS2
variable {μ : zm_M} {τ : Nat} {u uf : zy_F} {emp : Bool} {n0 : Nat} {abf : Nat → Int32}
set_option maxRecDepth 100000 in
theorem zv_mvI (D : Nat) {f m i0 : Nat} (hf : f < 7) (ht : τ < 7) (hne : f ≠ τ) (hm24 : m < 24) {tb W0 : List Nat} (hT : zu_T μ f m tb) (htb : ∀ x ∈ tb, x < 10) (he : emp = true → u = .nil) (he' : emp = false → zy_wf u) {ν0 : zm_M} (hA : zu_AD μ τ u emp W0 ν0 n0) (hl : ∀ n, (emp = false → n = n0) → ((if emp = true then [] else zu_tb μ τ n) ++ (W0 ++ tb)).length ≤ 10) (L0 : zi_Lc) (nl0 : zi_nl L0 = true) (a0 : zi_get L0 0 = some (.ref 232)) (a1 : zi_get L0 1 = some (.int (nI f))) (a2 : zi_get L0 2 = some (.int (nI τ))) (a3 : zi_get L0 3 = some (.int (zu_n0 emp W0 n0))) (a4 : zi_get L0 4 = some (.int (nI W0.length))) (a5 : zi_get L0 5 = some (.int (nI i0))) (a6 : zi_get L0 6 = some (.int (nI (24 * f + m)))) (a7 : zi_get L0 7 = some (.int (nI 0))) :
    ∃ L' h', ze_S (D + 3) 9 (some .int) zc_X6_moveTabs 59 L0 [] (zm_mk ν0) 125 L' [] h' ∧ (zi_nl L' = true ∧ zi_get L' 0 = some (.ref 232) ∧ zi_get L' 1 = some (.int (nI f)) ∧ zi_get L' 2 = some (.int (nI τ)) ∧ zi_get L' 5 = some (.int (nI i0)) ∧ ∃ ν n1, zm_mk ν = h' ∧ zi_get L' 3 = some (.int (zu_n0 emp (W0 ++ tb) n1)) ∧ zi_get L' 4 = some (.int (nI (W0 ++ tb).length)) ∧ (emp = false → n1 = n0) ∧ zu_AD μ τ u emp (W0 ++ tb) ν n1) := by
  have h10 : (Int8.ofInt 10).toInt32 = (10 : Int32) := by decide
  have mk : (10 : Int32) * nI (24 * f + m) = nI (10 * (24 * f + m)) := nI_mul10 (by omega)
  have ia : zi_in (nI (24 * f + m)) 168 = true := zm_in (by omega) (by decide)
  have ca : (nI (24 * f + m)).toNatClampNeg = 24 * f + m := nI_clamp (by omega)
  have hcell : ∀ ν, zu_fr τ μ ν → ν 249 (24 * f + m) = nI tb.length ∧ ∀ j, j < tb.length → ν 248 (10 * (24 * f + m) + j) = nI (tb.getD j 0) := fun ν fr => by
    have := (fr.eqT hne).T hm24 hT
    exact ⟨this.2.1, this.2.2⟩
  have htl := hT.1
  refine ze_loopS (Q := fun i L hp => i ≤ tb.length ∧ zi_nl L = true ∧ zi_get L 0 = some (.ref 232) ∧ zi_get L 1 = some (.int (nI f)) ∧ zi_get L 2 = some (.int (nI τ)) ∧ zi_get L 5 = some (.int (nI i0)) ∧ zi_get L 6 = some (.int (nI (24 * f + m))) ∧ zi_get L 7 = some (.int (nI i)) ∧ ∃ ξ : zm_M, zm_mk ξ = hp ∧ ∃ (n1 : Nat) (z : Int32), zi_get L 3 = some (.int (zu_n0 emp (W0 ++ tb.take i) n1)) ∧ zi_get L 4 = some (.int z) ∧ (z = nI (W0 ++ tb.take i).length ∧ (emp = false → n1 = n0) ∧ zu_AD μ τ u emp (W0 ++ tb.take i) ξ n1)) (R := fun L' h' => zi_nl L' = true ∧ zi_get L' 0 = some (.ref 232) ∧ zi_get L' 1 = some (.int (nI f)) ∧ zi_get L' 2 = some (.int (nI τ)) ∧ zi_get L' 5 = some (.int (nI i0)) ∧ ∃ ν n1, zm_mk ν = h' ∧ zi_get L' 3 = some (.int (zu_n0 emp (W0 ++ tb) n1)) ∧ zi_get L' 4 = some (.int (nI (W0 ++ tb).length)) ∧ (emp = false → n1 = n0) ∧ zu_AD μ τ u emp (W0 ++ tb) ν n1) tb.length ?_ ?_ tb.length 0 _ _ (by omega) ⟨by omega, nl0, a0, a1, a2, a5, a6, a7, ν0, rfl, n0, _, (by rw [List.take_zero, List.append_nil]; exact a3), a4, (by rw [List.take_zero, List.append_nil]), (fun _ => rfl), (by rw [List.take_zero, List.append_nil]; exact hA)⟩
  · rintro i L _ hi ⟨-, nl, g0, g1, g2, g5, g6, g7, ξ, rfl, n1, z, g3, g4, hq⟩
    obtain ⟨rfl, hn1, hA1⟩ := hq
    obtain ⟨k1, k2⟩ := hcell ξ hA1.2.1
    have k2i := k2 i hi
    have c1 : ¬ nI tb.length ≤ nI i := nI_ge hi (by omega)
    have ij : zi_in (nI (10 * (24 * f + m) + i)) 1680 = true := zm_in (by omega) (by decide)
    have cj : (nI (10 * (24 * f + m) + i)).toNatClampNeg = 10 * (24 * f + m) + i := nI_clamp (by omega)
    have hw : tb.getD i 0 < 10 := htb _ (zl_mem hi)
    have htk : tb.take (i + 1) = tb.take i ++ [tb.getD i 0] := zl_take hi
    generalize tb.getD i 0 = w at k2i hw htk
    have hlen : ((if emp = true then [] else zu_tb μ τ n1) ++ (W0 ++ tb.take i)).length < 10 := by
      have := hl n1 hn1
      rw [List.length_append, List.length_append] at this ⊢
      rw [List.length_take]
      omega
    obtain ⟨ν', n2, L', S1, hA2, hn2, nl', hg, g3'⟩ := zu_AD_step (f := f) D ht he he' hA1 hw hlen (zi_set L 8 (.int (nI w))) (by simp (maxDischargeDepth := 9) [zi_get_ne, zi_nl_i, zi_nl_r, zi_get_set_eq, nl]) (by simp (maxDischargeDepth := 9) [zi_get_ne, zi_nl_i, zi_nl_r, zi_get_set_eq, nl, g0]) (by simp (maxDischargeDepth := 9) [zi_get_ne, zi_nl_i, zi_nl_r, zi_get_set_eq, nl, g2]) (by simp (maxDischargeDepth := 9) [zi_get_ne, zi_nl_i, zi_nl_r, zi_get_set_eq, nl, g3]) zi_get_set_eq
    have hW : (W0 ++ tb.take i) ++ [w] = W0 ++ tb.take (i + 1) := by rw [htk, List.append_assoc]
    rw [hW] at hA2 g3'
    have el : (W0 ++ tb.take (i + 1)).length = (W0 ++ tb.take i).length + 1 := by rw [← hW, List.length_append]; rfl
    have b0 : zi_get L' 0 = some (.ref 232) := hg _ _ (by decide) rfl (by simp (maxDischargeDepth := 9) [zi_get_ne, zi_nl_i, zi_nl_r, zi_get_set_eq, nl, g0])
    have b1 : zi_get L' 1 = some (.int (nI f)) := hg _ _ (by decide) rfl (by simp (maxDischargeDepth := 9) [zi_get_ne, zi_nl_i, zi_nl_r, zi_get_set_eq, nl, g1])
    have b2 : zi_get L' 2 = some (.int (nI τ)) := hg _ _ (by decide) rfl (by simp (maxDischargeDepth := 9) [zi_get_ne, zi_nl_i, zi_nl_r, zi_get_set_eq, nl, g2])
    have b4 : zi_get L' 4 = some (.int (nI (W0 ++ tb.take i).length)) := hg _ _ (by decide) rfl (by simp (maxDischargeDepth := 9) [zi_get_ne, zi_nl_i, zi_nl_r, zi_get_set_eq, nl, g4])
    have b5 : zi_get L' 5 = some (.int (nI i0)) := hg _ _ (by decide) rfl (by simp (maxDischargeDepth := 9) [zi_get_ne, zi_nl_i, zi_nl_r, zi_get_set_eq, nl, g5])
    have b6 : zi_get L' 6 = some (.int (nI (24 * f + m))) := hg _ _ (by decide) rfl (by simp (maxDischargeDepth := 9) [zi_get_ne, zi_nl_i, zi_nl_r, zi_get_set_eq, nl, g6])
    have b7 : zi_get L' 7 = some (.int (nI i)) := hg _ _ (by decide) rfl (by simp (maxDischargeDepth := 9) [zi_get_ne, zi_nl_i, zi_nl_r, zi_get_set_eq, nl, g7])
    generalize (W0 ++ tb.take i).length = q at g4 b4 el
    have S0 : ze_S (D + 3) 9 (some .int) zc_X6_moveTabs 59 L [] (zm_mk ξ) 86 (zi_set L 8 (.int (nI w))) [] (zm_mk ξ) := by
      refine ⟨0, 15, fun F m hF => ?_⟩
      simp (maxDischargeDepth := 9) [zg_0, zg_aload_n, zg_bipush, zg_getfield, zg_goto, zg_iadd, zg_iaload, zg_iastore, zg_iconst, zg_ifCond, zg_if_icmp, zg_iinc, zg_iload, zg_iload_n, zg_imul, zg_invokestatic, zg_invokevirtual, zg_ireturn, zg_istore, zg_istore_n, zf_X6_moveTabs, zi_ld, zi_lda, zi_cmp, zi_retOk, zi_isI, zi_f3, zi_cr, zi_ci, zi_cn, zi_get_ne, zi_nl_i, zi_nl_r, zi_get_set_eq, nl, g0, g1, g2, g4, g5, g6, g7, zM_g, zm_iald (k := 0) zM_A249 ia, ca, k1, c1, h10, mk, nI_add, zm_iald (k := 0) zM_A248 ij, cj, k2i]
    refine ⟨zi_set (zi_set L' 4 (.int (nI (q + 1)))) 7 (.int (nI (i + 1))), zm_mk ν', S0.trans (S1.trans ⟨0, 3, fun F m hF => ?_⟩), by omega, ?_, ?_, ?_, ?_, ?_, ?_, zi_get_set_eq, ν', rfl, n2, nI (q + 1), ?_, ?_, by rw [el], (fun e => (hn2 e).trans (hn1 e)), hA2⟩
    · have nl := nl'
      simp (maxDischargeDepth := 9) [zg_0, zg_aload_n, zg_bipush, zg_getfield, zg_goto, zg_iadd, zg_iaload, zg_iastore, zg_iconst, zg_ifCond, zg_if_icmp, zg_iinc, zg_iload, zg_iload_n, zg_imul, zg_invokestatic, zg_invokevirtual, zg_ireturn, zg_istore, zg_istore_n, zf_X6_moveTabs, zi_ld, zi_lda, zi_cmp, zi_retOk, zi_isI, zi_f3, zi_cr, zi_ci, zi_cn, zi_get_ne, zi_nl_i, zi_nl_r, zi_get_set_eq, nl, b0, b1, b2, b4, b5, b6, b7, nI_1]
    · have nl := nl'
      simp (maxDischargeDepth := 9) [zi_get_ne, zi_nl_i, zi_nl_r, zi_get_set_eq, nl]
    · have nl := nl'
      simp (maxDischargeDepth := 9) [zi_get_ne, zi_nl_i, zi_nl_r, zi_get_set_eq, nl, b0]
    · have nl := nl'
      simp (maxDischargeDepth := 9) [zi_get_ne, zi_nl_i, zi_nl_r, zi_get_set_eq, nl, b1]
    · have nl := nl'
      simp (maxDischargeDepth := 9) [zi_get_ne, zi_nl_i, zi_nl_r, zi_get_set_eq, nl, b2]
    · have nl := nl'
      simp (maxDischargeDepth := 9) [zi_get_ne, zi_nl_i, zi_nl_r, zi_get_set_eq, nl, b5]
    · have nl := nl'
      simp (maxDischargeDepth := 9) [zi_get_ne, zi_nl_i, zi_nl_r, zi_get_set_eq, nl, b6]
    · have nl := nl'
      simp (maxDischargeDepth := 9) [zi_get_ne, zi_nl_i, zi_nl_r, zi_get_set_eq, nl, g3']
    · have nl := nl'
      simp (maxDischargeDepth := 9) [zi_get_ne, zi_nl_i, zi_nl_r, zi_get_set_eq, nl]
  · rintro L _ ⟨-, nl, g0, g1, g2, g5, g6, g7, ξ, rfl, n1, z, g3, g4, hq⟩
    obtain ⟨rfl, hn1, hA1⟩ := hq
    rw [List.take_length] at *
    obtain ⟨k1, k2⟩ := hcell ξ hA1.2.1
    have c1 : nI tb.length ≤ nI tb.length := Int32.le_refl _
    refine ⟨L, zm_mk ξ, ⟨0, 6, fun F m hF => ?_⟩, nl, g0, g1, g2, g5, ξ, n1, rfl, g3, g4, hn1, hA1⟩
    simp (maxDischargeDepth := 9) [zg_0, zg_aload_n, zg_bipush, zg_getfield, zg_goto, zg_iadd, zg_iaload, zg_iastore, zg_iconst, zg_ifCond, zg_if_icmp, zg_iinc, zg_iload, zg_iload_n, zg_imul, zg_invokestatic, zg_invokevirtual, zg_ireturn, zg_istore, zg_istore_n, zf_X6_moveTabs, zi_ld, zi_lda, zi_cmp, zi_retOk, zi_isI, zi_f3, zi_cr, zi_ci, zi_cn, zi_get_ne, zi_nl_i, zi_nl_r, zi_get_set_eq, nl, g0, g1, g2, g4, g5, g6, g7, zM_g, zm_iald (k := 0) zM_A249 ia, ca, k1, c1]
end ZVS2
end
section
/-! the reference: moveTabs whole -/
section ZVT
variable {μ : zm_M} {τ : Nat} {u uf : zy_F} {emp : Bool} {n0 : Nat} {ab abf : Nat → Int32}
set_option maxRecDepth 100000 in
theorem zv_mvO (D : Nat) {f : Nat} (hf : f < 7) (ht : τ < 7) (hne : f ≠ τ) (hF : zu_I μ f uf abf) (he : emp = true → u = .nil) (he' : emp = false → zy_wf u) (hlv : zu_lv μ (zy_lvs uf)) (hA : zu_AD μ τ u emp [] μ n0) (hl : ∀ n, (emp = false → n = n0) → ((if emp = true then [] else zu_tb μ τ n) ++ (zy_lvs uf).flatMap (zu_tb μ f)).length ≤ 10) (L0 : zi_Lc) (nl0 : zi_nl L0 = true) (a0 : zi_get L0 0 = some (.ref 232)) (a1 : zi_get L0 1 = some (.int (nI f))) (a2 : zi_get L0 2 = some (.int (nI τ))) (a3 : zi_get L0 3 = some (.int (zu_n0 emp [] n0))) (a4 : zi_get L0 4 = some (.int (nI 0))) (a5 : zi_get L0 5 = some (.int (nI 0))) :
    ∃ r h', ze_G (D + 3) 9 (some .int) zc_X6_moveTabs 34 L0 [] (zm_mk μ) r h' ∧ (∃ ν n1, r = some (.int (nI ((zy_lvs uf).flatMap (zu_tb μ f)).length)) ∧ zm_mk ν = h' ∧ (emp = false → n1 = n0) ∧ zu_AD μ τ u emp ((zy_lvs uf).flatMap (zu_tb μ f)) ν n1) := by
  obtain ⟨hnd, h24, hlen⟩ := zu_lvs_nodup hF
  have hcell : ∀ ν, zu_fr τ μ ν → ν 231 30 = nI (zy_lvs uf).length ∧ ∀ j, j < (zy_lvs uf).length → ν 259 j = nI ((zy_lvs uf).getD j 0) := fun ν fr =>
    ⟨(zu_fr_out fr (by omega)).trans hlv.1, fun j hj => (zu_fr_out fr (by omega)).trans (hlv.2 j hj)⟩
  refine ze_loop (Q := fun i L hp => i ≤ (zy_lvs uf).length ∧ zi_nl L = true ∧ zi_get L 0 = some (.ref 232) ∧ zi_get L 1 = some (.int (nI f)) ∧ zi_get L 2 = some (.int (nI τ)) ∧ zi_get L 5 = some (.int (nI i)) ∧ ∃ ξ : zm_M, zm_mk ξ = hp ∧ ∃ (n1 : Nat) (z : Int32), zi_get L 3 = some (.int (zu_n0 emp (((zy_lvs uf).take i).flatMap (zu_tb μ f)) n1)) ∧ zi_get L 4 = some (.int z) ∧ (z = nI (((zy_lvs uf).take i).flatMap (zu_tb μ f)).length ∧ (emp = false → n1 = n0) ∧ zu_AD μ τ u emp (((zy_lvs uf).take i).flatMap (zu_tb μ f)) ξ n1)) (R := fun r h' => ∃ ν n1, r = some (.int (nI ((zy_lvs uf).flatMap (zu_tb μ f)).length)) ∧ zm_mk ν = h' ∧ (emp = false → n1 = n0) ∧ zu_AD μ τ u emp ((zy_lvs uf).flatMap (zu_tb μ f)) ν n1) (zy_lvs uf).length ?_ ?_ (zy_lvs uf).length 0 _ _ (by omega) ⟨by omega, nl0, a0, a1, a2, a5, μ, rfl, n0, _, a3, a4, rfl, (fun _ => rfl), hA⟩
  · rintro i L _ hi ⟨-, nl, g0, g1, g2, g5, ξ, rfl, n1, z, g3, g4, hq⟩
    obtain ⟨rfl, hn1, hA1⟩ := hq
    obtain ⟨k1, k2⟩ := hcell ξ hA1.2.1
    have k2i := k2 i hi
    have c1 : ¬ nI (zy_lvs uf).length ≤ nI i := nI_ge hi (by omega)
    have ii : zi_in (nI i) 24 = true := zm_in (by omega) (by decide)
    have ci : (nI i).toNatClampNeg = i := nI_clamp (by omega)
    have hmem : (zy_lvs uf).getD i 0 ∈ zy_lvs uf := zl_mem hi
    have htk := zl_flat_take (f := zu_tb μ f) hi
    have hm24 := h24 _ hmem
    obtain ⟨t1, t2, t3⟩ := zu_I_tb hF hmem
    have hsub : (((zy_lvs uf).take (i + 1)).flatMap (zu_tb μ f)).length ≤ ((zy_lvs uf).flatMap (zu_tb μ f)).length := by
      rw [← List.take_append_drop (i + 1) (zy_lvs uf), List.flatMap_append, List.length_append, List.take_append_drop]
      omega
    generalize (zy_lvs uf).getD i 0 = m at k2i hmem htk hm24 t1 t2 t3
    rw [htk] at hsub
    obtain ⟨N1, E1⟩ := ze_spot (h := zm_mk ξ) (D + 2) (t := f) (n := m) (by omega)
    have hl' : ∀ n, (emp = false → n = n1) → ((if emp = true then [] else zu_tb μ τ n) ++ (((zy_lvs uf).take i).flatMap (zu_tb μ f) ++ zu_tb μ f m)).length ≤ 10 := fun n hn => by
      have := hl n (fun e => (hn e).trans (hn1 e))
      rw [List.length_append] at this ⊢
      omega
    obtain ⟨L', h', S1, nl', b0, b1, b2, b5, ν, n2, rfl, b3, b4, hn2, hA2⟩ := zv_mvI (μ := μ) (i0 := i) D hf ht hne hm24 t1 t3 he he' hA1 hl' (zi_set (zi_set L 6 (.int (nI (24 * f + m)))) 7 (.int (nI 0))) (by simp (maxDischargeDepth := 9) [zi_get_ne, zi_nl_i, zi_nl_r, zi_get_set_eq, nl]) (by simp (maxDischargeDepth := 9) [zi_get_ne, zi_nl_i, zi_nl_r, zi_get_set_eq, nl, g0]) (by simp (maxDischargeDepth := 9) [zi_get_ne, zi_nl_i, zi_nl_r, zi_get_set_eq, nl, g1]) (by simp (maxDischargeDepth := 9) [zi_get_ne, zi_nl_i, zi_nl_r, zi_get_set_eq, nl, g2]) (by simp (maxDischargeDepth := 9) [zi_get_ne, zi_nl_i, zi_nl_r, zi_get_set_eq, nl, g3]) (by simp (maxDischargeDepth := 9) [zi_get_ne, zi_nl_i, zi_nl_r, zi_get_set_eq, nl, g4]) (by simp (maxDischargeDepth := 9) [zi_get_ne, zi_nl_i, zi_nl_r, zi_get_set_eq, nl, g5]) (by simp (maxDischargeDepth := 9) [zi_get_ne, zi_nl_i, zi_nl_r, zi_get_set_eq, nl]) zi_get_set_eq
    rw [← htk] at b3 b4 hA2
    left
    refine ⟨zi_set L' 5 (.int (nI (i + 1))), zm_mk ν, ze_S.trans ⟨N1, 13, fun F m hF => ?_⟩ (S1.trans ⟨0, 2, fun F m hF => ?_⟩), by omega, ?_, ?_, ?_, ?_, zi_get_set_eq, ν, rfl, n2, _, ?_, ?_, rfl, (fun e => (hn2 e).trans (hn1 e)), hA2⟩
    · simp (maxDischargeDepth := 9) [zg_0, zg_aload_n, zg_bipush, zg_getfield, zg_goto, zg_iadd, zg_iaload, zg_iastore, zg_iconst, zg_ifCond, zg_if_icmp, zg_iinc, zg_iload, zg_iload_n, zg_imul, zg_invokestatic, zg_invokevirtual, zg_ireturn, zg_istore, zg_istore_n, zf_X6_moveTabs, zi_ld, zi_lda, zi_cmp, zi_retOk, zi_isI, zi_f3, zi_cr, zi_ci, zi_cn, zi_get_ne, zi_nl_i, zi_nl_r, zi_get_set_eq, nl, g0, g1, g2, g4, g5, zM_g, k1, c1, zm_iald (k := 0) zM_A259 ii, ci, k2i, zq_Mod_spot, E1 F (by omega), nI_0]
    · have nl := nl'
      simp (maxDischargeDepth := 9) [zg_0, zg_aload_n, zg_bipush, zg_getfield, zg_goto, zg_iadd, zg_iaload, zg_iastore, zg_iconst, zg_ifCond, zg_if_icmp, zg_iinc, zg_iload, zg_iload_n, zg_imul, zg_invokestatic, zg_invokevirtual, zg_ireturn, zg_istore, zg_istore_n, zf_X6_moveTabs, zi_ld, zi_lda, zi_cmp, zi_retOk, zi_isI, zi_f3, zi_cr, zi_ci, zi_cn, zi_get_ne, zi_nl_i, zi_nl_r, zi_get_set_eq, nl, b0, b1, b2, b5, nI_1]
    · have nl := nl'
      simp (maxDischargeDepth := 9) [zi_get_ne, zi_nl_i, zi_nl_r, zi_get_set_eq, nl]
    · have nl := nl'
      simp (maxDischargeDepth := 9) [zi_get_ne, zi_nl_i, zi_nl_r, zi_get_set_eq, nl, b0]
    · have nl := nl'
      simp (maxDischargeDepth := 9) [zi_get_ne, zi_nl_i, zi_nl_r, zi_get_set_eq, nl, b1]
    · have nl := nl'
      simp (maxDischargeDepth := 9) [zi_get_ne, zi_nl_i, zi_nl_r, zi_get_set_eq, nl, b2]
    · have nl := nl'
      simp (maxDischargeDepth := 9) [zi_get_ne, zi_nl_i, zi_nl_r, zi_get_set_eq, nl, b3]
    · have nl := nl'
      simp (maxDischargeDepth := 9) [zi_get_ne, zi_nl_i, zi_nl_r, zi_get_set_eq, nl, b4]
  · rintro L _ ⟨-, nl, g0, g1, g2, g5, ξ, rfl, n1, z, g3, g4, hq⟩
    obtain ⟨rfl, hn1, hA1⟩ := hq
    rw [List.take_length] at *
    obtain ⟨k1, k2⟩ := hcell ξ hA1.2.1
    have c1 : nI (zy_lvs uf).length ≤ nI (zy_lvs uf).length := Int32.le_refl _
    refine ⟨_, zm_mk ξ, ⟨0, 6, fun F m hF => ?_⟩, ξ, n1, rfl, rfl, hn1, hA1⟩
    simp [zg_0, zg_aload_n, zg_bipush, zg_getfield, zg_goto, zg_iadd, zg_iaload, zg_iastore, zg_iconst, zg_ifCond, zg_if_icmp, zg_iinc, zg_iload, zg_iload_n, zg_imul, zg_invokestatic, zg_invokevirtual, zg_ireturn, zg_istore, zg_istore_n, zf_X6_moveTabs, zi_ld, zi_lda, zi_cmp, zi_retOk, zi_isI, zi_f3, zi_cr, zi_ci, zi_cn, g0, g1, g2, g4, g5, zM_g, k1, c1]
theorem zu_frv_tb {ν : zm_M} {σ n : Nat} (f : zu_frv μ ν) : zu_tb ν σ n = zu_tb μ σ n := zu_tb_cells (fun d => ⟨f _ _ (by omega) (by decide), f _ _ (by omega) (by decide)⟩)
set_option maxRecDepth 100000 in
theorem zv_mv0 (D : Nat) {f : Nat} {μ1 μ2 : zm_M} (E1 : ze_E (D + 26) A_Mod_clearLeaves [.ref 232, .int (nI τ)] (zm_mk μ) none (zm_mk μ1)) (E2 : ze_E (D + 26) A_Mod_clearLeaves [.ref 232, .int (nI f)] (zm_mk μ1) none (zm_mk μ2)) (k1 : μ1 231 30 = 0) :
    ze_S (D + 26) 9 (some .int) zc_X6_moveTabs 0 [(0, .ref 232), (1, .int (nI f)), (2, .int (nI τ))] [] (zm_mk μ) 34 [(5, .int (nI 0)), (4, .int (nI 0)), (3, .int (-1)), (0, .ref 232), (1, .int (nI f)), (2, .int (nI τ))] [] (zm_mk μ2) := by
  obtain ⟨N1, E1⟩ := E1
  obtain ⟨N2, E2⟩ := E2
  obtain ⟨lc, cM⟩ := zM_c (μ := μ)
  obtain ⟨lc1, cM1⟩ := zM_c (μ := μ1)
  refine ⟨N1 + N2, 15, fun F m hF => ?_⟩
  simp [zg_0, zg_aload_n, zg_bipush, zg_getfield, zg_goto, zg_iadd, zg_iaload, zg_iastore, zg_iconst, zg_ifCond, zg_if_icmp, zg_iinc, zg_iload, zg_iload_n, zg_imul, zg_invokestatic, zg_invokevirtual, zg_ireturn, zg_istore, zg_istore_n, zf_X6_moveTabs, zi_ld, zi_lda, zi_cmp, zi_retOk, zi_isI, zi_f3, zi_cr, zi_ci, zi_cn, zi_get, zi_set, zM_g, cM, cM1, zq_Mod_clearLeaves, E1 F (by omega), E2 F (by omega), k1, nI_0]
set_option maxRecDepth 100000 in
theorem zv_mv1 (D : Nat) {f : Nat} {μ1 μ2 : zm_M} (E1 : ze_E (D + 26) A_Mod_clearLeaves [.ref 232, .int (nI τ)] (zm_mk μ) none (zm_mk μ1)) (E2 : ze_E (D + 26) A_Mod_clearLeaves [.ref 232, .int (nI f)] (zm_mk μ1) none (zm_mk μ2)) (k1 : ¬ μ1 231 30 ≤ 0) {q : Nat} (k2 : μ1 259 0 = nI q) :
    ze_S (D + 26) 9 (some .int) zc_X6_moveTabs 0 [(0, .ref 232), (1, .int (nI f)), (2, .int (nI τ))] [] (zm_mk μ) 34 [(5, .int (nI 0)), (4, .int (nI 0)), (3, .int (nI q)), (0, .ref 232), (1, .int (nI f)), (2, .int (nI τ))] [] (zm_mk μ2) := by
  obtain ⟨N1, E1⟩ := E1
  obtain ⟨N2, E2⟩ := E2
  obtain ⟨lc, cM⟩ := zM_c (μ := μ)
  obtain ⟨lc1, cM1⟩ := zM_c (μ := μ1)
  have i0 : zi_in (0 : Int32) 24 = true := by decide
  have z0 : (0 : Int32).toNatClampNeg = 0 := by decide
  refine ⟨N1 + N2, 19, fun F m hF => ?_⟩
  simp [zg_0, zg_aload_n, zg_bipush, zg_getfield, zg_goto, zg_iadd, zg_iaload, zg_iastore, zg_iconst, zg_ifCond, zg_if_icmp, zg_iinc, zg_iload, zg_iload_n, zg_imul, zg_invokestatic, zg_invokevirtual, zg_ireturn, zg_istore, zg_istore_n, zf_X6_moveTabs, zi_ld, zi_lda, zi_cmp, zi_retOk, zi_isI, zi_f3, zi_cr, zi_ci, zi_cn, zi_get, zi_set, zM_g, cM, cM1, zq_Mod_clearLeaves, E1 F (by omega), E2 F (by omega), k1, k2, zm_iald (k := 0) zM_A259 i0, z0, nI_0]
theorem zv_mv2 {μ1 : zm_M} (he' : zy_wf u) (hI : zu_I μ τ u ab) (v1 : μ1 231 30 = nI (zy_lvs u).length) : ¬ μ1 231 30 ≤ 0 := by
  have hpos := zy_lvs_pos he'
  have h24 := (zu_lvs_nodup hI).2.2
  rw [v1]
  generalize (zy_lvs u).length = n at *
  intro h
  have n0 : (0 : Int32) = nI 0 := by decide
  rw [n0] at h
  exact nI_ge hpos (by omega) h
theorem ze_MmoveTabs (D : Nat) {f : Nat} (hf : f < 7) (ht : τ < 7) (hne : f ≠ τ) (hI : zu_I μ τ u ab) (hF : zu_I μ f uf abf) (he : emp = true → u = .nil) (he' : emp = false → zy_wf u) (hl : ((if emp = true then [] else zu_tb μ τ ((zy_lvs u).getD 0 0)) ++ (zy_lvs uf).flatMap (zu_tb μ f)).length ≤ 10) :
    ∃ ξ ν n1, ze_E (D + 27) A_Mod_moveTabs [.ref 232, .int (nI f), .int (nI τ)] (zm_mk μ) (some (.int (nI ((zy_lvs uf).flatMap (zu_tb μ f)).length))) (zm_mk ν) ∧ zu_frv μ ξ ∧ zu_AD ξ τ u emp ((zy_lvs uf).flatMap (zu_tb μ f)) ν n1 := by
  obtain ⟨μ1, E1, v1, f1⟩ := ze_MclearLeaves (μ := μ) D ht hI
  have hF1 := (f1.eqT (τ := f)).I hF
  have hI1 := (f1.eqT (τ := τ)).I hI
  obtain ⟨μ2, E2, v2, f2⟩ := ze_MclearLeaves (μ := μ1) D hf hF1
  have hF2 := (f2.eqT (τ := f)).I hF1
  have hI2 := (f2.eqT (τ := τ)).I hI1
  have fa : zu_frv μ μ2 := fun c d p q => (f2 c d p q).trans (f1 c d p q)
  have etb : zu_tb μ2 f = zu_tb μ f := funext fun n => zu_frv_tb fa
  have etb' : ∀ n, zu_tb μ2 τ n = zu_tb μ τ n := fun n => zu_frv_tb fa
  have ead : ∀ n, zy_ad emp u [] n = u := fun n => if_neg (fun q => q.2 rfl)
  have hA : ∀ n0, (emp = false → n0 = (zy_lvs u).getD 0 0) → zu_AD μ2 τ u emp [] μ2 n0 := fun n0 h0 =>
    ⟨⟨ab, by rw [ead]; exact hI2⟩, zu_fr.refl, fun e => ⟨h0 e, (List.append_nil _).symm, fun _ _ _ => rfl, fun _ _ => ⟨rfl, rfl, rfl⟩⟩, fun _ h => absurd rfl h⟩
  cases emp with
  | true =>
    have eu := he rfl
    have k1 : μ1 231 30 = 0 := by
      rw [v1.1, eu]
      exact nI_0
    obtain ⟨r, h', G, ν, n1, rfl, rfl, -, hA'⟩ := zv_mvO (μ := μ2) (D + 23) (n0 := 0) hf ht hne hF2 he he' v2 (hA 0 (fun e => by cases e)) (fun n _ => by rw [etb, if_pos rfl]; rw [if_pos rfl] at hl; exact hl) [(5, .int (nI 0)), (4, .int (nI 0)), (3, .int (-1)), (0, .ref 232), (1, .int (nI f)), (2, .int (nI τ))] rfl rfl rfl rfl rfl rfl rfl
    rw [etb] at G hA'
    exact ⟨μ2, ν, n1, ze_in [(0, .ref 232), (1, .int (nI f)), (2, .int (nI τ))] zq_Mod_moveTabs (Nat.le_of_ble_eq_true rfl) rfl (ze_S.end (zv_mv0 D E1 E2 k1) G), fa, hA'⟩
  | false =>
    have k1 : ¬ μ1 231 30 ≤ 0 := zv_mv2 (he' rfl) hI v1.1
    have k2 : μ1 259 0 = nI ((zy_lvs u).getD 0 0) := v1.2 0 (zy_lvs_pos (he' rfl))
    have hA := hA _ (fun _ => rfl)
    generalize (zy_lvs u).getD 0 0 = q at hA k2 hl
    obtain ⟨r, h', G, ν, n1, rfl, rfl, -, hA'⟩ := zv_mvO (μ := μ2) (D + 23) hf ht hne hF2 he he' v2 hA (fun n hn => by rw [etb, hn rfl, etb']; exact hl) [(5, .int (nI 0)), (4, .int (nI 0)), (3, .int (nI q)), (0, .ref 232), (1, .int (nI f)), (2, .int (nI τ))] rfl rfl rfl rfl rfl rfl rfl
    rw [etb] at G hA'
    exact ⟨μ2, ν, n1, ze_in [(0, .ref 232), (1, .int (nI f)), (2, .int (nI τ))] zq_Mod_moveTabs (Nat.le_of_ble_eq_true rfl) rfl (ze_S.end (zv_mv1 D E1 E2 k1 k2) G), fa, hA'⟩
end ZVT
end
