/-! the reference: moveTabs whole -/
section ZVT
variable {μ : zm_M} {τ : Nat} {u uf : zy_F} {emp : Bool} {n0 : Nat} {ab abf : Nat → Int32}
set_option maxRecDepth 100000 in
theorem zv_mvO (D : Nat) {f : Nat} (hf : f < 7) (ht : τ < 7) (hne : f ≠ τ) (hF : zu_I μ f uf abf) (he : emp = true → u = .nil) (he' : emp = false → zy_wf u) (hlv : zu_lv μ (zy_lvs uf)) (hA : zu_AD μ τ u emp [] μ n0) (hl : ∀ n, (emp = false → n = n0) → ((if emp = true then [] else zu_tb μ τ n) ++ (zy_lvs uf).flatMap (zu_tb μ f)).length ≤ 10) (L0 : zi_Lc) (nl0 : zi_nl L0 = true) (a0 : zi_get L0 0 = some (.ref 232)) (a1 : zi_get L0 1 = some (.int (nI f))) (a2 : zi_get L0 2 = some (.int (nI τ))) (a3 : zi_get L0 3 = some (.int (zu_n0 emp [] n0))) (a4 : zi_get L0 4 = some (.int (nI 0))) (a5 : zi_get L0 5 = some (.int (nI 0))) :
    ∃ r h', ze_G (D + 3) 9 (some .int) zc_X6_moveTabs 34 L0 [] (zm_mk μ) r h' ∧ (∃ ν n1, r = some (.int (nI ((zy_lvs uf).flatMap (zu_tb μ f)).length)) ∧ zm_mk ν = h' ∧ (emp = false → n1 = n0) ∧ zu_AD μ τ u emp ((zy_lvs uf).flatMap (zu_tb μ f)) ν n1) := by
  obtain ⟨hnd, h24, hlen⟩ := zu_lvs_nodup hF
  have hcell : ∀ ν, zu_fr τ μ ν → ν 231 30 = nI (zy_lvs uf).length ∧ ∀ j, j < (zy_lvs uf).length → ν 259 j = nI ((zy_lvs uf).getD j 0) := fun ν fr =>
    ⟨(zu_fr_out fr (by omega)).trans hlv.1, fun j hj => (zu_fr_out fr (by omega)).trans (hlv.2 j hj)⟩
  refine ze_loop (Q := fun i L hp => i ≤ (zy_lvs uf).length ∧ zi_nl L = true ∧ zi_get L 0 = some (.ref 232) ∧ zi_get L 1 = some (.int (nI f)) ∧ zi_get L 2 = some (.int (nI τ)) ∧ zi_get L 5 = some (.int (nI i)) ∧ ∃ ξ : zm_M, zm_mk ξ = hp ∧ ∃ (n1 : Nat) (z : Int32), zi_get L 3 = some (.int (zu_n0 emp (((zy_lvs uf).take i).flatMap (zu_tb μ f)) n1)) ∧ zi_get L 4 = some (.int z) ∧ (z = nI (((zy_lvs uf).take i).flatMap (zu_tb μ f)).length ∧ (emp = false → n1 = n0) ∧ zu_AD μ τ u emp (((zy_lvs uf).take i).flatMap (zu_tb μ f)) ξ n1)) (R := fun r h' => ∃ ν n1, r = some (.int (nI ((zy_lvs uf).flatMap (zu_tb μ f)).length)) ∧ zm_mk ν = h' ∧ (emp = false → n1 = n0) ∧ zu_AD μ τ u emp ((zy_lvs uf).flatMap (zu_tb μ f)) ν n1) (zy_lvs uf).length ?_ ?_ (zy_lvs uf).length 0 _ _ (by omega) ⟨by omega, nl0, a0, a1, a2, a5, μ, rfl, n0, _, a3, a4, rfl, (fun _ => rfl), hA⟩
  · rintro i L _ hi ⟨-, nl, g0, g1, g2, g5, ξ, rfl, n1, z, g3, g4, hq⟩
    obtain ⟨rfl, hn1, hA1⟩ := hq
    obtain ⟨k1, k2⟩ := hcell ξ hA1.2.1
    have k2i := k2 i hi
    have c1 : ¬ nI (zy_lvs uf).length ≤ nI i := nI_ge hi (by omega)
    have ii : zi_in (nI i) 24 = true := zm_in (by omega) (by decide)
    have ci : (nI i).toNatClampNeg = i := nI_clamp (by omega)
    have hmem : (zy_lvs uf).getD i 0 ∈ zy_lvs uf := zl_mem hi
    have htk := zl_flat_take (f := zu_tb μ f) hi
    have hm24 := h24 _ hmem
    obtain ⟨t1, t2, t3⟩ := zu_I_tb hF hmem
    have hsub : (((zy_lvs uf).take (i + 1)).flatMap (zu_tb μ f)).length ≤ ((zy_lvs uf).flatMap (zu_tb μ f)).length := by
      rw [← List.take_append_drop (i + 1) (zy_lvs uf), List.flatMap_append, List.length_append, List.take_append_drop]
      omega
    generalize (zy_lvs uf).getD i 0 = m at k2i hmem htk hm24 t1 t2 t3
    rw [htk] at hsub
    obtain ⟨N1, E1⟩ := ze_spot (h := zm_mk ξ) (D + 2) (t := f) (n := m) (by omega)
    have hl' : ∀ n, (emp = false → n = n1) → ((if emp = true then [] else zu_tb μ τ n) ++ (((zy_lvs uf).take i).flatMap (zu_tb μ f) ++ zu_tb μ f m)).length ≤ 10 := fun n hn => by
      have := hl n (fun e => (hn e).trans (hn1 e))
      rw [List.length_append] at this ⊢
      omega
    obtain ⟨L', h', S1, nl', b0, b1, b2, b5, ν, n2, rfl, b3, b4, hn2, hA2⟩ := zv_mvI (μ := μ) (i0 := i) D hf ht hne hm24 t1 t3 he he' hA1 hl' (zi_set (zi_set L 6 (.int (nI (24 * f + m)))) 7 (.int (nI 0))) (by simp (maxDischargeDepth := 9) [zi_get_ne, zi_nl_i, zi_nl_r, zi_get_set_eq, nl]) (by simp (maxDischargeDepth := 9) [zi_get_ne, zi_nl_i, zi_nl_r, zi_get_set_eq, nl, g0]) (by simp (maxDischargeDepth := 9) [zi_get_ne, zi_nl_i, zi_nl_r, zi_get_set_eq, nl, g1]) (by simp (maxDischargeDepth := 9) [zi_get_ne, zi_nl_i, zi_nl_r, zi_get_set_eq, nl, g2]) (by simp (maxDischargeDepth := 9) [zi_get_ne, zi_nl_i, zi_nl_r, zi_get_set_eq, nl, g3]) (by simp (maxDischargeDepth := 9) [zi_get_ne, zi_nl_i, zi_nl_r, zi_get_set_eq, nl, g4]) (by simp (maxDischargeDepth := 9) [zi_get_ne, zi_nl_i, zi_nl_r, zi_get_set_eq, nl, g5]) (by simp (maxDischargeDepth := 9) [zi_get_ne, zi_nl_i, zi_nl_r, zi_get_set_eq, nl]) zi_get_set_eq
    rw [← htk] at b3 b4 hA2
    left
    refine ⟨zi_set L' 5 (.int (nI (i + 1))), zm_mk ν, ze_S.trans ⟨N1, 13, fun F m hF => ?_⟩ (S1.trans ⟨0, 2, fun F m hF => ?_⟩), by omega, ?_, ?_, ?_, ?_, zi_get_set_eq, ν, rfl, n2, _, ?_, ?_, rfl, (fun e => (hn2 e).trans (hn1 e)), hA2⟩
    · simp (maxDischargeDepth := 9) [zg_0, zg_aload_n, zg_bipush, zg_getfield, zg_goto, zg_iadd, zg_iaload, zg_iastore, zg_iconst, zg_ifCond, zg_if_icmp, zg_iinc, zg_iload, zg_iload_n, zg_imul, zg_invokestatic, zg_invokevirtual, zg_ireturn, zg_istore, zg_istore_n, zf_X6_moveTabs, zi_ld, zi_lda, zi_cmp, zi_retOk, zi_isI, zi_f3, zi_cr, zi_ci, zi_cn, zi_get_ne, zi_nl_i, zi_nl_r, zi_get_set_eq, nl, g0, g1, g2, g4, g5, zM_g, k1, c1, zm_iald (k := 0) zM_A259 ii, ci, k2i, zq_Mod_spot, E1 F (by omega), nI_0]
    · have nl := nl'
      simp (maxDischargeDepth := 9) [zg_0, zg_aload_n, zg_bipush, zg_getfield, zg_goto, zg_iadd, zg_iaload, zg_iastore, zg_iconst, zg_ifCond, zg_if_icmp, zg_iinc, zg_iload, zg_iload_n, zg_imul, zg_invokestatic, zg_invokevirtual, zg_ireturn, zg_istore, zg_istore_n, zf_X6_moveTabs, zi_ld, zi_lda, zi_cmp, zi_retOk, zi_isI, zi_f3, zi_cr, zi_ci, zi_cn, zi_get_ne, zi_nl_i, zi_nl_r, zi_get_set_eq, nl, b0, b1, b2, b5, nI_1]
    · have nl := nl'
      simp (maxDischargeDepth := 9) [zi_get_ne, zi_nl_i, zi_nl_r, zi_get_set_eq, nl]
    · have nl := nl'
      simp (maxDischargeDepth := 9) [zi_get_ne, zi_nl_i, zi_nl_r, zi_get_set_eq, nl, b0]
    · have nl := nl'
      simp (maxDischargeDepth := 9) [zi_get_ne, zi_nl_i, zi_nl_r, zi_get_set_eq, nl, b1]
    · have nl := nl'
      simp (maxDischargeDepth := 9) [zi_get_ne, zi_nl_i, zi_nl_r, zi_get_set_eq, nl, b2]
    · have nl := nl'
      simp (maxDischargeDepth := 9) [zi_get_ne, zi_nl_i, zi_nl_r, zi_get_set_eq, nl, b3]
    · have nl := nl'
      simp (maxDischargeDepth := 9) [zi_get_ne, zi_nl_i, zi_nl_r, zi_get_set_eq, nl, b4]
  · rintro L _ ⟨-, nl, g0, g1, g2, g5, ξ, rfl, n1, z, g3, g4, hq⟩
    obtain ⟨rfl, hn1, hA1⟩ := hq
    rw [List.take_length] at *
    obtain ⟨k1, k2⟩ := hcell ξ hA1.2.1
    have c1 : nI (zy_lvs uf).length ≤ nI (zy_lvs uf).length := Int32.le_refl _
    refine ⟨_, zm_mk ξ, ⟨0, 6, fun F m hF => ?_⟩, ξ, n1, rfl, rfl, hn1, hA1⟩
    simp [zg_0, zg_aload_n, zg_bipush, zg_getfield, zg_goto, zg_iadd, zg_iaload, zg_iastore, zg_iconst, zg_ifCond, zg_if_icmp, zg_iinc, zg_iload, zg_iload_n, zg_imul, zg_invokestatic, zg_invokevirtual, zg_ireturn, zg_istore, zg_istore_n, zf_X6_moveTabs, zi_ld, zi_lda, zi_cmp, zi_retOk, zi_isI, zi_f3, zi_cr, zi_ci, zi_cn, g0, g1, g2, g4, g5, zM_g, k1, c1]
theorem zu_frv_tb {ν : zm_M} {σ n : Nat} (f : zu_frv μ ν) : zu_tb ν σ n = zu_tb μ σ n := zu_tb_cells (fun d => ⟨f _ _ (by omega) (by decide), f _ _ (by omega) (by decide)⟩)
set_option maxRecDepth 100000 in
theorem zv_mv0 (D : Nat) {f : Nat} {μ1 μ2 : zm_M} (E1 : ze_E (D + 26) A_Mod_clearLeaves [.ref 232, .int (nI τ)] (zm_mk μ) none (zm_mk μ1)) (E2 : ze_E (D + 26) A_Mod_clearLeaves [.ref 232, .int (nI f)] (zm_mk μ1) none (zm_mk μ2)) (k1 : μ1 231 30 = 0) :
    ze_S (D + 26) 9 (some .int) zc_X6_moveTabs 0 [(0, .ref 232), (1, .int (nI f)), (2, .int (nI τ))] [] (zm_mk μ) 34 [(5, .int (nI 0)), (4, .int (nI 0)), (3, .int (-1)), (0, .ref 232), (1, .int (nI f)), (2, .int (nI τ))] [] (zm_mk μ2) := by
  obtain ⟨N1, E1⟩ := E1
  obtain ⟨N2, E2⟩ := E2
  obtain ⟨lc, cM⟩ := zM_c (μ := μ)
  obtain ⟨lc1, cM1⟩ := zM_c (μ := μ1)
  refine ⟨N1 + N2, 15, fun F m hF => ?_⟩
  simp [zg_0, zg_aload_n, zg_bipush, zg_getfield, zg_goto, zg_iadd, zg_iaload, zg_iastore, zg_iconst, zg_ifCond, zg_if_icmp, zg_iinc, zg_iload, zg_iload_n, zg_imul, zg_invokestatic, zg_invokevirtual, zg_ireturn, zg_istore, zg_istore_n, zf_X6_moveTabs, zi_ld, zi_lda, zi_cmp, zi_retOk, zi_isI, zi_f3, zi_cr, zi_ci, zi_cn, zi_get, zi_set, zM_g, cM, cM1, zq_Mod_clearLeaves, E1 F (by omega), E2 F (by omega), k1, nI_0]
set_option maxRecDepth 100000 in
theorem zv_mv1 (D : Nat) {f : Nat} {μ1 μ2 : zm_M} (E1 : ze_E (D + 26) A_Mod_clearLeaves [.ref 232, .int (nI τ)] (zm_mk μ) none (zm_mk μ1)) (E2 : ze_E (D + 26) A_Mod_clearLeaves [.ref 232, .int (nI f)] (zm_mk μ1) none (zm_mk μ2)) (k1 : ¬ μ1 231 30 ≤ 0) {q : Nat} (k2 : μ1 259 0 = nI q) :
    ze_S (D + 26) 9 (some .int) zc_X6_moveTabs 0 [(0, .ref 232), (1, .int (nI f)), (2, .int (nI τ))] [] (zm_mk μ) 34 [(5, .int (nI 0)), (4, .int (nI 0)), (3, .int (nI q)), (0, .ref 232), (1, .int (nI f)), (2, .int (nI τ))] [] (zm_mk μ2) := by
  obtain ⟨N1, E1⟩ := E1
  obtain ⟨N2, E2⟩ := E2
  obtain ⟨lc, cM⟩ := zM_c (μ := μ)
  obtain ⟨lc1, cM1⟩ := zM_c (μ := μ1)
  have i0 : zi_in (0 : Int32) 24 = true := by decide
  have z0 : (0 : Int32).toNatClampNeg = 0 := by decide
  refine ⟨N1 + N2, 19, fun F m hF => ?_⟩
  simp [zg_0, zg_aload_n, zg_bipush, zg_getfield, zg_goto, zg_iadd, zg_iaload, zg_iastore, zg_iconst, zg_ifCond, zg_if_icmp, zg_iinc, zg_iload, zg_iload_n, zg_imul, zg_invokestatic, zg_invokevirtual, zg_ireturn, zg_istore, zg_istore_n, zf_X6_moveTabs, zi_ld, zi_lda, zi_cmp, zi_retOk, zi_isI, zi_f3, zi_cr, zi_ci, zi_cn, zi_get, zi_set, zM_g, cM, cM1, zq_Mod_clearLeaves, E1 F (by omega), E2 F (by omega), k1, k2, zm_iald (k := 0) zM_A259 i0, z0, nI_0]
theorem zv_mv2 {μ1 : zm_M} (he' : zy_wf u) (hI : zu_I μ τ u ab) (v1 : μ1 231 30 = nI (zy_lvs u).length) : ¬ μ1 231 30 ≤ 0 := by
  have hpos := zy_lvs_pos he'
  have h24 := (zu_lvs_nodup hI).2.2
  rw [v1]
  generalize (zy_lvs u).length = n at *
  intro h
  have n0 : (0 : Int32) = nI 0 := by decide
  rw [n0] at h
  exact nI_ge hpos (by omega) h
theorem ze_MmoveTabs (D : Nat) {f : Nat} (hf : f < 7) (ht : τ < 7) (hne : f ≠ τ) (hI : zu_I μ τ u ab) (hF : zu_I μ f uf abf) (he : emp = true → u = .nil) (he' : emp = false → zy_wf u) (hl : ((if emp = true then [] else zu_tb μ τ ((zy_lvs u).getD 0 0)) ++ (zy_lvs uf).flatMap (zu_tb μ f)).length ≤ 10) :
    ∃ ξ ν n1, ze_E (D + 27) A_Mod_moveTabs [.ref 232, .int (nI f), .int (nI τ)] (zm_mk μ) (some (.int (nI ((zy_lvs uf).flatMap (zu_tb μ f)).length))) (zm_mk ν) ∧ zu_frv μ ξ ∧ zu_AD ξ τ u emp ((zy_lvs uf).flatMap (zu_tb μ f)) ν n1 := by
  obtain ⟨μ1, E1, v1, f1⟩ := ze_MclearLeaves (μ := μ) D ht hI
  have hF1 := (f1.eqT (τ := f)).I hF
  have hI1 := (f1.eqT (τ := τ)).I hI
  obtain ⟨μ2, E2, v2, f2⟩ := ze_MclearLeaves (μ := μ1) D hf hF1
  have hF2 := (f2.eqT (τ := f)).I hF1
  have hI2 := (f2.eqT (τ := τ)).I hI1
  have fa : zu_frv μ μ2 := fun c d p q => (f2 c d p q).trans (f1 c d p q)
  have etb : zu_tb μ2 f = zu_tb μ f := funext fun n => zu_frv_tb fa
  have etb' : ∀ n, zu_tb μ2 τ n = zu_tb μ τ n := fun n => zu_frv_tb fa
  have ead : ∀ n, zy_ad emp u [] n = u := fun n => if_neg (fun q => q.2 rfl)
  have hA : ∀ n0, (emp = false → n0 = (zy_lvs u).getD 0 0) → zu_AD μ2 τ u emp [] μ2 n0 := fun n0 h0 =>
    ⟨⟨ab, by rw [ead]; exact hI2⟩, zu_fr.refl, fun e => ⟨h0 e, (List.append_nil _).symm, fun _ _ _ => rfl, fun _ _ => ⟨rfl, rfl, rfl⟩⟩, fun _ h => absurd rfl h⟩
  cases emp with
  | true =>
    have eu := he rfl
    have k1 : μ1 231 30 = 0 := by
      rw [v1.1, eu]
      exact nI_0
    obtain ⟨r, h', G, ν, n1, rfl, rfl, -, hA'⟩ := zv_mvO (μ := μ2) (D + 23) (n0 := 0) hf ht hne hF2 he he' v2 (hA 0 (fun e => by cases e)) (fun n _ => by rw [etb, if_pos rfl]; rw [if_pos rfl] at hl; exact hl) [(5, .int (nI 0)), (4, .int (nI 0)), (3, .int (-1)), (0, .ref 232), (1, .int (nI f)), (2, .int (nI τ))] rfl rfl rfl rfl rfl rfl rfl
    rw [etb] at G hA'
    exact ⟨μ2, ν, n1, ze_in [(0, .ref 232), (1, .int (nI f)), (2, .int (nI τ))] zq_Mod_moveTabs (Nat.le_of_ble_eq_true rfl) rfl (ze_S.end (zv_mv0 D E1 E2 k1) G), fa, hA'⟩
  | false =>
    have k1 : ¬ μ1 231 30 ≤ 0 := zv_mv2 (he' rfl) hI v1.1
    have k2 : μ1 259 0 = nI ((zy_lvs u).getD 0 0) := v1.2 0 (zy_lvs_pos (he' rfl))
    have hA := hA _ (fun _ => rfl)
    generalize (zy_lvs u).getD 0 0 = q at hA k2 hl
    obtain ⟨r, h', G, ν, n1, rfl, rfl, -, hA'⟩ := zv_mvO (μ := μ2) (D + 23) hf ht hne hF2 he he' v2 hA (fun n hn => by rw [etb, hn rfl, etb']; exact hl) [(5, .int (nI 0)), (4, .int (nI 0)), (3, .int (nI q)), (0, .ref 232), (1, .int (nI f)), (2, .int (nI τ))] rfl rfl rfl rfl rfl rfl rfl
    rw [etb] at G hA'
    exact ⟨μ2, ν, n1, ze_in [(0, .ref 232), (1, .int (nI f)), (2, .int (nI τ))] zq_Mod_moveTabs (Nat.le_of_ble_eq_true rfl) rfl (ze_S.end (zv_mv1 D E1 E2 k1 k2) G), fa, hA'⟩
end ZVT
