/-! the reference: tile whole -/
def zv_tiledN (μ ν : zm_M) (s k m : Nat) (ac : Bool) (u : zy_F) (b : Int32) : Prop :=
  ∃ ξ1 ab1 c1 f1, zu_isCut (zu_cq μ s 6 24 240) 6 u m k (if ac = true then 0 else 1) false ξ1 ab1 c1 f1 ∧ zu_fr 6 μ ξ1 ∧
    ((zu_fit ξ1 6 (zy_cut m c1 f1 u) (μ 232 s) (μ 233 s) = true ∧ b = 1 ∧ ν = zu_cq ξ1 6 s 24 240) ∨
     (zu_fit ξ1 6 (zy_cut m c1 f1 u) (μ 232 s) (μ 233 s) = false ∧ ∃ ξ2 ab2 c2 f2, zu_isCut (zu_cq ξ1 s 6 24 240) 6 u m k (if ac = true then 1 else 0) false ξ2 ab2 c2 f2 ∧ zu_fr 6 ξ1 ξ2 ∧
       ((zu_fit ξ2 6 (zy_cut m c2 f2 u) (μ 232 s) (μ 233 s) = true ∧ b = 1 ∧ ν = zu_cq ξ2 6 s 24 240) ∨
        (zu_fit ξ2 6 (zy_cut m c2 f2 u) (μ 232 s) (μ 233 s) = false ∧ ∃ ξ3 ab3, zu_isTab (zu_cq ξ2 s 6 24 240) 6 u ab3 m k ξ3 ∧ zu_fr 6 ξ2 ξ3 ∧
          ((zu_fit ξ3 6 u (μ 232 s) (μ 233 s) = true ∧ b = 1 ∧ ν = zu_cq ξ3 6 s 24 240) ∨ (zu_fit ξ3 6 u (μ 232 s) (μ 233 s) = false ∧ b = 0 ∧ ν = ξ3))))))
def zv_tiled0 (μ ν : zm_M) (s k : Nat) (b : Int32) : Prop :=
  ∃ ξ f, zu_isNew μ 6 k ξ f ∧ ((zu_fit ξ 6 (.tag f .nil) (μ 232 s) (μ 233 s) = true ∧ b = 1 ∧ ν = zu_cq ξ 6 s 24 240) ∨ (zu_fit ξ 6 (.tag f .nil) (μ 232 s) (μ 233 s) = false ∧ b = 0 ∧ ν = ξ))
section ZVR
variable {μ : zm_M} {u : zy_F} {ab : Nat → Int32} {lo : Nat → Nat} {row : List Nat}
set_option maxRecDepth 100000 in
theorem zv_wayT (D : Nat) {k s m : Nat} (hk : k < 10) (hs : s < 3) (hI : zu_I μ s u ab) (hm : m ∈ zy_lvs u) (hl : (zu_tb μ s m).length < 10) (h0 : 0 ≤ μ 232 s) (h1 : 0 ≤ μ 233 s) (L : zi_Lc) (nl : zi_nl L = true) (g0 : zi_get L 0 = some (.ref 232)) (g1 : zi_get L 1 = some (.int (nI k))) (g2 : zi_get L 2 = some (.int (nI s))) (g3 : zi_get L 3 = some (.int (nI m))) (g5 : zi_get L 5 = some (.int 2)) :
    ∃ ξ, zu_isTab (zu_cq μ s 6 24 240) 6 u ab m k ξ ∧ zu_fr 6 μ ξ ∧
      (zu_fit ξ 6 u (μ 232 s) (μ 233 s) = true → ze_G (D + 27) 6 (some .boolean) zc_X6_tile 130 L [] (zm_mk μ) (some (.int 1)) (zm_mk (zu_cq ξ 6 s 24 240))) ∧
      (zu_fit ξ 6 u (μ 232 s) (μ 233 s) = false → ze_G (D + 27) 6 (some .boolean) zc_X6_tile 130 L [] (zm_mk μ) (some (.int 0)) (zm_mk ξ)) := by
  obtain ⟨lc, cM⟩ := zM_c (μ := μ)
  have h6 : (Int8.ofInt 6).toInt32 = (6 : Int32) := by decide
  have n6 : nI 6 = (6 : Int32) := by decide
  obtain ⟨N1, E1⟩ := ze_McopyTree (μ := μ) (D + 25) (f := s) (t := 6) (by omega) (by decide) (by omega)
  obtain ⟨lc1, cM1⟩ := zM_c (μ := zu_cq μ s 6 24 240)
  have hI1 := zu_cq_I (by omega : s < 6) hI
  have fr1 : zu_fr 6 μ (zu_cq μ s 6 24 240) := zu_cq_fr
  have hl1 : (zu_tb (zu_cq μ s 6 24 240) 6 m).length < 10 := by rw [zu_cq_eqT.tb (zu_I_lt hI hm) (zu_I_tbl hI hm)]; exact hl
  generalize zu_cq μ s 6 24 240 = μ1 at *
  obtain ⟨ξ, ⟨N2, E2⟩, hc⟩ := ze_MaddTabI (μ := μ1) (D + 25) (by decide : 6 < 7) hI1 hm hk hl1
  have fr2 : zu_fr 6 μ ξ := fr1.trans hc.2.2.2.2
  obtain ⟨lc2, cM2⟩ := zM_c (μ := ξ)
  have e0 : ξ 232 s = μ 232 s := zu_fr_out fr2 (by omega)
  have e1 : ξ 233 s = μ 233 s := zu_fr_out fr2 (by omega)
  obtain ⟨N3, E3⟩ := ze_MtakesTrial (μ := ξ) D hs hc.1 (by rw [e0]; exact h0) (by rw [e1]; exact h1)
  rw [e0, e1] at E3
  rw [n6] at E1 E2
  refine ⟨ξ, hc, fr2, fun hf => ?_, fun hf => ?_⟩
  · rw [hf, if_pos rfl, if_pos rfl] at E3
    refine ⟨N1 + N2 + N3, 21, fun F m hF => ?_⟩
    simp [zg_0, zg_aload_n, zg_bipush, zg_getfield, zg_goto, zg_iaload, zg_iastore, zg_iconst, zg_ifCond, zg_if_icmp, zg_iinc, zg_iload, zg_iload_n, zg_invokevirtual, zg_ireturn, zg_istore, zg_istore_n, zg_isub, zf_X6_tile, zi_ld, zi_lda, zi_cmp, zi_retOk, zi_isI, zi_f3, zi_cr, zi_ci, zi_cn, g0, g1, g2, g3, g5, h6, cM, cM1, cM2, zq_Mod_copyTree, zq_Mod_addTab, zq_Mod_takesTrial, E1 F (by omega), E2 F (by omega), E3 F (by omega)]
  · rw [hf, if_neg (by decide), if_neg (by decide)] at E3
    refine ⟨N1 + N2 + N3, 26, fun F m hF => ?_⟩
    simp (maxDischargeDepth := 9) [zg_0, zg_aload_n, zg_bipush, zg_getfield, zg_goto, zg_iaload, zg_iastore, zg_iconst, zg_ifCond, zg_if_icmp, zg_iinc, zg_iload, zg_iload_n, zg_invokevirtual, zg_ireturn, zg_istore, zg_istore_n, zg_isub, zf_X6_tile, zi_ld, zi_lda, zi_cmp, zi_retOk, zi_isI, zi_f3, zi_cr, zi_ci, zi_cn, zi_get_ne, zi_nl_i, zi_nl_r, zi_get_set_eq, nl, g0, g1, g2, g3, g5, h6, cM, cM1, cM2, zq_Mod_copyTree, zq_Mod_addTab, zq_Mod_takesTrial, E1 F (by omega), E2 F (by omega), E3 F (by omega)]
set_option maxRecDepth 100000 in
theorem zv_ways (D : Nat) {k s m : Nat} (hk : k < 10) (hs : s < 3) (ac : Bool) (hI : zu_I μ s u ab) (hm : m ∈ zy_lvs u) (hlen : (zy_ids u).length + 2 ≤ 24) (hl : (zu_tb μ s m).length < 10) (h0 : 0 ≤ μ 232 s) (h1 : 0 ≤ μ 233 s) (L : zi_Lc) (nl : zi_nl L = true) (g0 : zi_get L 0 = some (.ref 232)) (g1 : zi_get L 1 = some (.int (nI k))) (g2 : zi_get L 2 = some (.int (nI s))) (g3 : zi_get L 3 = some (.int (nI m))) (g4 : zi_get L 4 = some (.int (if ac = true then 1 else 0))) (g5 : zi_get L 5 = some (.int (nI 0))) :
    ∃ ν b, ze_G (D + 27) 6 (some .boolean) zc_X6_tile 130 L [] (zm_mk μ) (some (.int b)) (zm_mk ν) ∧ zv_tiledN μ ν s k m ac u b := by
  obtain ⟨ξ1, ab1, c1, f1, hc1, r1, G1, S1⟩ := zv_way (μ := μ) D hk hs (w := 0) (by decide) ac hI hm hlen h0 h1 L nl g0 g1 g2 g3 g4 g5
  have q1 : zu_eqT μ s ξ1 s := r1.eqT (by omega)
  by_cases z1 : zu_fit ξ1 6 (zy_cut m c1 f1 u) (μ 232 s) (μ 233 s) = true
  · exact ⟨_, 1, G1 z1, ξ1, ab1, c1, f1, hc1, r1, Or.inl ⟨z1, rfl, rfl⟩⟩
  · have z1 : zu_fit ξ1 6 (zy_cut m c1 f1 u) (μ 232 s) (μ 233 s) = false := by simpa using z1
    have S1 := S1 z1
    have hI1 := q1.I hI
    have e0 : ξ1 232 s = μ 232 s := zu_fr_out r1 (by omega)
    have e1 : ξ1 233 s = μ 233 s := zu_fr_out r1 (by omega)
    obtain ⟨ξ2, ab2, c2, f2, hc2, r2, G2, S2⟩ := zv_way (μ := ξ1) D hk hs (w := 1) (by decide) ac hI1 hm hlen (by rw [e0]; exact h0) (by rw [e1]; exact h1) (zi_set L 5 (.int (nI (0 + 1)))) (by simp (maxDischargeDepth := 9) [zi_get_ne, zi_nl_i, zi_nl_r, zi_get_set_eq, nl]) (by simp (maxDischargeDepth := 9) [zi_get_ne, zi_nl_i, zi_nl_r, zi_get_set_eq, nl, g0]) (by simp (maxDischargeDepth := 9) [zi_get_ne, zi_nl_i, zi_nl_r, zi_get_set_eq, nl, g1]) (by simp (maxDischargeDepth := 9) [zi_get_ne, zi_nl_i, zi_nl_r, zi_get_set_eq, nl, g2]) (by simp (maxDischargeDepth := 9) [zi_get_ne, zi_nl_i, zi_nl_r, zi_get_set_eq, nl, g3]) (by simp (maxDischargeDepth := 9) [zi_get_ne, zi_nl_i, zi_nl_r, zi_get_set_eq, nl, g4]) zi_get_set_eq
    rw [e0, e1] at G2 S2
    have q2 : zu_eqT μ s ξ2 s := q1.trans (r2.eqT (by omega))
    by_cases z2 : zu_fit ξ2 6 (zy_cut m c2 f2 u) (μ 232 s) (μ 233 s) = true
    · exact ⟨_, 1, ze_S.end S1 (G2 z2), ξ1, ab1, c1, f1, hc1, r1, Or.inr ⟨z1, ξ2, ab2, c2, f2, hc2, r2, Or.inl ⟨z2, rfl, rfl⟩⟩⟩
    · have z2 : zu_fit ξ2 6 (zy_cut m c2 f2 u) (μ 232 s) (μ 233 s) = false := by simpa using z2
      have S2 := S2 z2
      have hI2 := q2.I hI
      have e0' : ξ2 232 s = μ 232 s := (zu_fr_out r2 (by omega)).trans e0
      have e1' : ξ2 233 s = μ 233 s := (zu_fr_out r2 (by omega)).trans e1
      have hl2 : (zu_tb ξ2 s m).length < 10 := by rw [q2.tb (zu_I_lt hI hm) (zu_I_tbl hI hm)]; exact hl
      obtain ⟨ξ3, hc3, r3, G3, S3⟩ := zv_wayT (μ := ξ2) D hk hs hI2 hm hl2 (by rw [e0']; exact h0) (by rw [e1']; exact h1) (zi_set (zi_set L 5 (.int (nI (0 + 1)))) 5 (.int (nI (1 + 1)))) (by simp (maxDischargeDepth := 9) [zi_get_ne, zi_nl_i, zi_nl_r, zi_get_set_eq, nl]) (by simp (maxDischargeDepth := 9) [zi_get_ne, zi_nl_i, zi_nl_r, zi_get_set_eq, nl, g0]) (by simp (maxDischargeDepth := 9) [zi_get_ne, zi_nl_i, zi_nl_r, zi_get_set_eq, nl, g1]) (by simp (maxDischargeDepth := 9) [zi_get_ne, zi_nl_i, zi_nl_r, zi_get_set_eq, nl, g2]) (by simp (maxDischargeDepth := 9) [zi_get_ne, zi_nl_i, zi_nl_r, zi_get_set_eq, nl, g3]) zi_get_set_eq
      rw [e0', e1'] at G3 S3
      by_cases z3 : zu_fit ξ3 6 u (μ 232 s) (μ 233 s) = true
      · exact ⟨_, 1, ze_S.end S1 (ze_S.end S2 (G3 z3)), ξ1, ab1, c1, f1, hc1, r1, Or.inr ⟨z1, ξ2, ab2, c2, f2, hc2, r2, Or.inr ⟨z2, ξ3, _, hc3, r3, Or.inl ⟨z3, rfl, rfl⟩⟩⟩⟩
      · have z3 : zu_fit ξ3 6 u (μ 232 s) (μ 233 s) = false := by simpa using z3
        exact ⟨_, 0, ze_S.end S1 (ze_S.end S2 (S3 z3)), ξ1, ab1, c1, f1, hc1, r1, Or.inr ⟨z1, ξ2, ab2, c2, f2, hc2, r2, Or.inr ⟨z2, ξ3, _, hc3, r3, Or.inr ⟨z3, rfl, rfl⟩⟩⟩⟩
set_option maxRecDepth 100000 in
theorem zv_tile1 (D : Nat) {k s : Nat} (hs : s < 3) (hI : zu_I μ s u ab) (hR : zv_L μ 242 12 row) (hb : ∀ x ∈ row, x < 10) (hlo : ∀ j, j < 10 → μ 234 j = 1 → μ 238 j = nI s → zu_at μ s u j (lo j)) :
    ∃ L', ze_S (D + 3) 6 (some .boolean) zc_X6_tile 0 [(0, .ref 232), (1, .int (nI k)), (2, .int (nI s))] [] (zm_mk μ) 70 L' [] (zm_mk μ) ∧ zi_nl L' = true ∧ zi_get L' 0 = some (.ref 232) ∧ zi_get L' 1 = some (.int (nI k)) ∧ zi_get L' 2 = some (.int (nI s)) ∧ zi_get L' 3 = some (.int (zv_lah μ s lo row)) := by
  have h10 := hR.1
  have ed := zv_dn_1 (n := row.length) (by omega)
  obtain ⟨L', S, q⟩ := zv_tile0 (μ := μ) (lo := lo) D (k := k) hs hI hR hb hlo row.length (Nat.le_refl _) [(4, .int (zv_dn row.length)), (3, .int (-1)), (0, .ref 232), (1, .int (nI k)), (2, .int (nI s))] (-1) rfl rfl rfl rfl rfl rfl (by rw [List.drop_length]; rfl)
  refine ⟨L', ze_S.trans ⟨0, 7, fun F m hF => ?_⟩ S, q⟩
  simp [zg_0, zg_aload_n, zg_bipush, zg_getfield, zg_goto, zg_iaload, zg_iastore, zg_iconst, zg_ifCond, zg_if_icmp, zg_iinc, zg_iload, zg_iload_n, zg_invokevirtual, zg_ireturn, zg_istore, zg_istore_n, zg_isub, zf_X6_tile, zi_ld, zi_lda, zi_cmp, zi_retOk, zi_isI, zi_f3, zi_cr, zi_ci, zi_cn, zi_get, zi_set, zM_g, hR.2.1, ed]
set_option maxRecDepth 100000 in
theorem ze_MtileN (D : Nat) {k s m : Nat} (hk : k < 10) (hs : s < 3) (hI : zu_I μ s u ab) (hR : zv_L μ 242 12 row) (hb : ∀ x ∈ row, x < 10) (hlo : ∀ j, j < 10 → μ 234 j = 1 → μ 238 j = nI s → zu_at μ s u j (lo j)) (hlah : zv_lah μ s lo row = nI m) (hm : m ∈ zy_lvs u) (hlen : (zy_ids u).length + 2 ≤ 24) (hl : (zu_tb μ s m).length < 10) (h0 : 0 ≤ μ 232 s) (h1 : 0 ≤ μ 233 s) :
    ∃ μ1 ν b, ze_E (D + 28) A_Mod_tile [.ref 232, .int (nI k), .int (nI s)] (zm_mk μ) (some (.int b)) (zm_mk ν) ∧ zv_frY μ μ1 ∧ (zy_wf u → zy_laid (zu_P μ1) (zu_fm μ s) (fun n => μ 247 (24 * s + n)) (zu_lsz μ s 0) (zu_lsz μ s 1) u 0 0 (μ 232 s) (μ 233 s)) ∧ zv_tiledN μ1 ν s k m (decide (¬ μ1 257 m < μ1 258 m)) u b := by
  obtain ⟨lc, cM⟩ := zM_c (μ := μ)
  obtain ⟨L, S0, nl, g0, g1, g2, g3⟩ := zv_tile1 (μ := μ) (lo := lo) (D + 24) (k := k) hs hI hR hb hlo
  rw [hlah] at g3
  have hm24 := zu_I_lt hI hm
  have im : zi_in (nI m) 24 = true := zm_in hm24 (by decide)
  have cm : (nI m).toNatClampNeg = m := nI_clamp (by omega)
  have c0 : ¬ nI m < 0 := nI_pos (by omega)
  have c0' : 0 ≤ nI m := Int32.not_lt.mp c0
  obtain ⟨μ1, ⟨N1, E1⟩, ld, -, f⟩ := ze_MlayAll (μ := μ) D hs hI
  have hq := zv_frY_eqT (τ := s) f
  have e0 : μ1 232 s = μ 232 s := f _ _ (by omega) (by omega)
  have e1 : μ1 233 s = μ 233 s := f _ _ (by omega) (by omega)
  have hl1 : (zu_tb μ1 s m).length < 10 := by rw [hq.tb hm24 (zu_I_tbl hI hm)]; exact hl
  by_cases c : μ1 257 m < μ1 258 m
  · obtain ⟨ν, b, G, t⟩ := zv_ways (μ := μ1) D hk hs false (hq.I hI) hm hlen hl1 (by rw [e0]; exact h0) (by rw [e1]; exact h1) (zi_set (zi_set L 4 (.int 0)) 5 (.int (nI 0))) (by simp (maxDischargeDepth := 9) [zi_get_ne, zi_nl_i, zi_nl_r, zi_get_set_eq, nl]) (by simp (maxDischargeDepth := 9) [zi_get_ne, zi_nl_i, zi_nl_r, zi_get_set_eq, nl, g0]) (by simp (maxDischargeDepth := 9) [zi_get_ne, zi_nl_i, zi_nl_r, zi_get_set_eq, nl, g1]) (by simp (maxDischargeDepth := 9) [zi_get_ne, zi_nl_i, zi_nl_r, zi_get_set_eq, nl, g2]) (by simp (maxDischargeDepth := 9) [zi_get_ne, zi_nl_i, zi_nl_r, zi_get_set_eq, nl, g3]) (by simp (maxDischargeDepth := 9) [zi_get_ne, zi_nl_i, zi_nl_r, zi_get_set_eq, nl]) zi_get_set_eq
    refine ⟨μ1, ν, b, ze_in [(0, .ref 232), (1, .int (nI k)), (2, .int (nI s))] zq_Mod_tile (Nat.le_of_ble_eq_true rfl) rfl (ze_S.end S0 (ze_S.end ⟨N1, 18, fun F m hF => ?_⟩ G)), f, ld, by rw [decide_eq_false (not_not_intro c)]; exact t⟩
    simp (maxDischargeDepth := 9) [zg_0, zg_aload_n, zg_bipush, zg_getfield, zg_goto, zg_iaload, zg_iastore, zg_iconst, zg_ifCond, zg_if_icmp, zg_iinc, zg_iload, zg_iload_n, zg_invokevirtual, zg_ireturn, zg_istore, zg_istore_n, zg_isub, zf_X6_tile, zi_ld, zi_lda, zi_cmp, zi_retOk, zi_isI, zi_f3, zi_cr, zi_ci, zi_cn, zi_get_ne, zi_nl_i, zi_nl_r, zi_get_set_eq, nl, g0, g1, g2, g3, c0', cM, zq_Mod_layAll, E1 F (by omega), zM_g, zm_iald (k := 0) zM_A257 im, zm_iald (k := 0) zM_A258 im, cm, c, nI_0]
  · obtain ⟨ν, b, G, t⟩ := zv_ways (μ := μ1) D hk hs true (hq.I hI) hm hlen hl1 (by rw [e0]; exact h0) (by rw [e1]; exact h1) (zi_set (zi_set L 4 (.int 1)) 5 (.int (nI 0))) (by simp (maxDischargeDepth := 9) [zi_get_ne, zi_nl_i, zi_nl_r, zi_get_set_eq, nl]) (by simp (maxDischargeDepth := 9) [zi_get_ne, zi_nl_i, zi_nl_r, zi_get_set_eq, nl, g0]) (by simp (maxDischargeDepth := 9) [zi_get_ne, zi_nl_i, zi_nl_r, zi_get_set_eq, nl, g1]) (by simp (maxDischargeDepth := 9) [zi_get_ne, zi_nl_i, zi_nl_r, zi_get_set_eq, nl, g2]) (by simp (maxDischargeDepth := 9) [zi_get_ne, zi_nl_i, zi_nl_r, zi_get_set_eq, nl, g3]) (by simp (maxDischargeDepth := 9) [zi_get_ne, zi_nl_i, zi_nl_r, zi_get_set_eq, nl]) zi_get_set_eq
    refine ⟨μ1, ν, b, ze_in [(0, .ref 232), (1, .int (nI k)), (2, .int (nI s))] zq_Mod_tile (Nat.le_of_ble_eq_true rfl) rfl (ze_S.end S0 (ze_S.end ⟨N1, 19, fun F m hF => ?_⟩ G)), f, ld, by rw [decide_eq_true c]; exact t⟩
    simp (maxDischargeDepth := 9) [zg_0, zg_aload_n, zg_bipush, zg_getfield, zg_goto, zg_iaload, zg_iastore, zg_iconst, zg_ifCond, zg_if_icmp, zg_iinc, zg_iload, zg_iload_n, zg_invokevirtual, zg_ireturn, zg_istore, zg_istore_n, zg_isub, zf_X6_tile, zi_ld, zi_lda, zi_cmp, zi_retOk, zi_isI, zi_f3, zi_cr, zi_ci, zi_cn, zi_get_ne, zi_nl_i, zi_nl_r, zi_get_set_eq, nl, g0, g1, g2, g3, c0', cM, zq_Mod_layAll, E1 F (by omega), zM_g, zm_iald (k := 0) zM_A257 im, zm_iald (k := 0) zM_A258 im, cm, c, nI_0]
set_option maxRecDepth 100000 in
theorem ze_Mtile0 (D : Nat) {k s : Nat} (hk : k < 10) (hs : s < 3) (hI : zu_I μ s u ab) (hR : zv_L μ 242 12 row) (hb : ∀ x ∈ row, x < 10) (hlo : ∀ j, j < 10 → μ 234 j = 1 → μ 238 j = nI s → zu_at μ s u j (lo j)) (hlah : zv_lah μ s lo row = -1) (h0 : 0 ≤ μ 232 s) (h1 : 0 ≤ μ 233 s) :
    ∃ ν b, ze_E (D + 28) A_Mod_tile [.ref 232, .int (nI k), .int (nI s)] (zm_mk μ) (some (.int b)) (zm_mk ν) ∧ zv_tiled0 μ ν s k b := by
  obtain ⟨lc, cM⟩ := zM_c (μ := μ)
  obtain ⟨L, S0, nl, g0, g1, g2, g3⟩ := zv_tile1 (μ := μ) (lo := lo) (D + 24) (k := k) hs hI hR hb hlo
  rw [hlah] at g3
  have h6 : (Int8.ofInt 6).toInt32 = (6 : Int32) := by decide
  have n6 : nI 6 = (6 : Int32) := by decide
  obtain ⟨μ1, ⟨N1, E1⟩, hI1, f1⟩ := ze_MclearTreeI (μ := μ) (τ := 6) (D + 25) (by decide)
  obtain ⟨lc1, cM1⟩ := zM_c (μ := μ1)
  obtain ⟨μ2, f, ⟨N2, E2⟩, hf, hn⟩ := ze_MnewLeafI (μ := μ1) (D + 24) (by decide : 6 < 7) hI1 hk
  have hn' : zu_isNew μ 6 k (zm_up μ2 243 6 (nI f)) f := ⟨hn.1, hn.2.1, hn.2.2.1, hn.2.2.2.1, f1.trans hn.2.2.2.2⟩
  have i6 : zi_in (6 : Int32) 7 = true := by decide
  have c6 : (6 : Int32).toNatClampNeg = 6 := by decide
  have e0 : zm_up μ2 243 6 (nI f) 232 s = μ 232 s := zu_fr_out hn'.2.2.2.2 (by omega)
  have e1 : zm_up μ2 243 6 (nI f) 233 s = μ 233 s := zu_fr_out hn'.2.2.2.2 (by omega)
  obtain ⟨N3, E3⟩ := ze_MtakesTrial (μ := zm_up μ2 243 6 (nI f)) D hs hn'.1 (by rw [e0]; exact h0) (by rw [e1]; exact h1)
  obtain ⟨lc2, cM2⟩ := zM_c (μ := zm_up μ2 243 6 (nI f))
  rw [e0, e1] at E3
  rw [n6] at E1 E2
  have P := @zm_iast
  by_cases z : zu_fit (zm_up μ2 243 6 (nI f)) 6 (.tag f .nil) (μ 232 s) (μ 233 s) = true
  · rw [if_pos z, if_pos z] at E3
    refine ⟨_, 1, ze_in [(0, .ref 232), (1, .int (nI k)), (2, .int (nI s))] zq_Mod_tile (Nat.le_of_ble_eq_true rfl) rfl (ze_S.end S0 ⟨N1 + N2 + N3, 17, fun F m hF => ?_⟩), _, f, hn', Or.inl ⟨z, rfl, rfl⟩⟩
    simp (maxDischargeDepth := 9) [zg_0, zg_aload_n, zg_bipush, zg_getfield, zg_goto, zg_iaload, zg_iastore, zg_iconst, zg_ifCond, zg_if_icmp, zg_iinc, zg_iload, zg_iload_n, zg_invokevirtual, zg_ireturn, zg_istore, zg_istore_n, zg_isub, zf_X6_tile, zi_ld, zi_lda, zi_cmp, zi_retOk, zi_isI, zi_f3, zi_cr, zi_ci, zi_cn, zi_get_ne, zi_nl_i, zi_nl_r, zi_get_set_eq, nl, g0, g1, g2, g3, h6, cM, cM1, cM2, zM_g, zq_Mod_clearTree, zq_Mod_newLeaf, zq_Mod_takesTrial, E1 F (by omega), E2 F (by omega), zm_iast zM_A243 i6, c6, E3 F (by omega)]
  · rw [if_neg z, if_neg z] at E3
    refine ⟨_, 0, ze_in [(0, .ref 232), (1, .int (nI k)), (2, .int (nI s))] zq_Mod_tile (Nat.le_of_ble_eq_true rfl) rfl (ze_S.end S0 ⟨N1 + N2 + N3, 17, fun F m hF => ?_⟩), _, f, hn', Or.inr ⟨by simpa using z, rfl, rfl⟩⟩
    simp (maxDischargeDepth := 9) [zg_0, zg_aload_n, zg_bipush, zg_getfield, zg_goto, zg_iaload, zg_iastore, zg_iconst, zg_ifCond, zg_if_icmp, zg_iinc, zg_iload, zg_iload_n, zg_invokevirtual, zg_ireturn, zg_istore, zg_istore_n, zg_isub, zf_X6_tile, zi_ld, zi_lda, zi_cmp, zi_retOk, zi_isI, zi_f3, zi_cr, zi_ci, zi_cn, zi_get_ne, zi_nl_i, zi_nl_r, zi_get_set_eq, nl, g0, g1, g2, g3, h6, cM, cM1, cM2, zM_g, zq_Mod_clearTree, zq_Mod_newLeaf, zq_Mod_takesTrial, E1 F (by omega), E2 F (by omega), zm_iast zM_A243 i6, c6, E3 F (by omega)]
end ZVR
