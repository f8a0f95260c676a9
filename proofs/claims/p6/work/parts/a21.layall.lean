/-! the reference: layAll, isShown, common -/
section ZVG
variable {μ : zm_M} {u : zy_F} {ab : Nat → Int32}
def zv_frY (μ ν : zm_M) : Prop := ∀ c d, ¬ (c = 231 ∧ d = 30) → ¬ (255 ≤ c ∧ c ≤ 259) → ν c d = μ c d
theorem zu_tb_cells {ν : zm_M} {τ n : Nat} (h : ∀ d, ν 249 d = μ 249 d ∧ ν 248 d = μ 248 d) : zu_tb ν τ n = zu_tb μ τ n := by
  unfold zu_tb
  rw [(h _).1]
  refine List.map_congr_left fun j _ => ?_
  rw [(h _).2]
theorem zu_lsz_cells {ν : zm_M} {τ a : Nat} (ha : a < 2) (h : ∀ c d, c ≠ 231 → c < 255 → ν c d = μ c d) : zu_fm ν τ = zu_fm μ τ ∧ zu_lsz ν τ a = zu_lsz μ τ a := by
  have e1 : zu_fm ν τ = zu_fm μ τ := funext fun n => by
    unfold zu_fm
    rw [h 244 _ (by decide) (by decide)]
  refine ⟨e1, funext fun v => ?_⟩
  unfold zu_lsz
  rw [e1]
  congr 1
  funext n
  unfold zu_lf
  rw [zu_tb_cells (μ := μ) (ν := ν) (fun d => ⟨h _ d (by decide) (by decide), h _ d (by decide) (by decide)⟩)]
  exact zl_fold_congr (F := zi_mx) _ _ (fun w _ => h _ w (by omega) (by omega))
set_option maxRecDepth 100000 in
theorem ze_MlayAll (D : Nat) {s : Nat} (hs : s < 3) (hI : zu_I μ s u ab) : ∃ ν, ze_E (D + 27) A_Mod_layAll [.ref 232, .int (nI s)] (zm_mk μ) none (zm_mk ν) ∧ (zy_wf u → zy_laid (zu_P ν) (zu_fm μ s) (fun n => μ 247 (24 * s + n)) (zu_lsz μ s 0) (zu_lsz μ s 1) u 0 0 (μ 232 s) (μ 233 s)) ∧ zu_lv ν (zy_lvs u) ∧ zv_frY μ ν := by
  have is : zi_in (nI s) 7 = true := zm_in (by omega) (by decide)
  have is3 : zi_in (nI s) 3 = true := zm_in (by omega) (by decide)
  have cs : (nI s).toNatClampNeg = s := nI_clamp (by omega)
  have hcell : ∀ c d, c ≠ 231 → c < 255 → zm_up μ 231 30 0 c d = μ c d := fun c d h _ => zm_up_ne (by omega)
  have v1 : zm_up μ 231 30 0 243 s = μ 243 s := zm_up_ne (by omega)
  have v2 : zm_up μ 231 30 0 232 s = μ 232 s := zm_up_ne (by omega)
  have v3 : zm_up μ 231 30 0 233 s = μ 233 s := zm_up_ne (by omega)
  rcases hI.1 with ⟨rfl, e⟩ | ⟨w, ok, e, -⟩
  · have c1 : (-1 : Int32) < 0 := by decide
    refine ⟨zm_up μ 231 30 0, ze_in [(0, .ref 232), (1, .int (nI s))] zq_Mod_layAll (Nat.le_of_ble_eq_true rfl) rfl ⟨0, 9, fun F m hF => ?_⟩, fun h => h.elim, ⟨zm_up_eq, fun j hj => by cases hj⟩, fun c d h1 _ => zm_up_ne h1⟩
    simp [zg_0, zg_aload_n, zg_getfield, zg_iaload, zg_iconst, zg_ifCond, zg_iload_n, zg_invokevirtual, zg_putfield, zg_return, zf_X6_layAll, zi_ld, zi_lda, zi_cmp, zi_retOk, zi_isI, zi_f3, zi_cr, zi_ci, zi_cn, zi_get, zi_set, zM_g, zM_p30, zm_iald (k := 0) zM_A243 is, cs, v1, e, c1]
  · have hid : zy_id u < 24 := hI.2.2.1 _ (zy_id_mem w)
    have hl24 := zy_nodup_le 24 (zy_ids u) hI.2.1 hI.2.2.1
    have hq : zu_eqT μ s (zm_up μ 231 30 0) s := ⟨v1, fun c n hc _ => zm_up_ne (by rintro ⟨rfl, -⟩; revert hc; decide), fun n j _ _ => zm_up_ne (by omega)⟩
    have hI1 := hq.I hI
    obtain ⟨-, hll, hll2⟩ := zu_lvs_nodup hI
    obtain ⟨ν, ⟨N1, E1⟩, a1, a2, a3, a4⟩ := ze_Mlay (τ := s) (ab := ab) (by omega) u w (zm_up μ 231 30 0) 0 (D + (24 - (zy_ids u).length)) 0 0 (μ 232 s) (μ 233 s) (zu_I_wf hI1 (zy_id_mem w)).2.1 hI.2.1 hI.2.2.1 (fun n hn => ⟨(zu_I_tb hI1 hn).1, (zu_I_tb hI1 hn).2.2⟩) zm_up_eq (by omega)
    rw [show D + (24 - (zy_ids u).length) + 2 + (zy_ids u).length = D + 26 by omega] at E1
    rw [Nat.zero_add] at a2
    obtain ⟨lc, cM⟩ := zM_c (μ := zm_up μ 231 30 0)
    have c1 : ¬ nI (zy_id u) < 0 := nI_pos (by omega)
    have e5 : (fun n => zm_up μ 231 30 0 247 (24 * s + n)) = fun n => μ 247 (24 * s + n) := funext fun n => zm_up_ne (by omega)
    rw [(zu_lsz_cells (a := 0) (by decide) hcell).1, (zu_lsz_cells (a := 0) (by decide) hcell).2, (zu_lsz_cells (a := 1) (by decide) hcell).2, e5] at a1
    refine ⟨ν, ze_in [(0, .ref 232), (1, .int (nI s))] zq_Mod_layAll (Nat.le_of_ble_eq_true rfl) rfl ⟨N1, 26, fun F m hF => ?_⟩, fun _ => a1, ⟨a2, fun j hj => by have := a3 j hj; rw [Nat.zero_add] at this; exact this⟩, fun c d h1 h2 => ?_⟩
    · simp [zg_0, zg_aload_n, zg_getfield, zg_iaload, zg_iconst, zg_ifCond, zg_iload_n, zg_invokevirtual, zg_putfield, zg_return, zf_X6_layAll, zi_ld, zi_lda, zi_cmp, zi_retOk, zi_isI, zi_f3, zi_cr, zi_ci, zi_cn, zi_get, zi_set, zM_g, zM_p30, zm_iald (k := 0) zM_A243 is, cs, v1, v2, v3, e, c1, zm_iald (k := 0) zM_A232 is3, zm_iald (k := 0) zM_A233 is3, cM, zq_Mod_lay, E1 F (by omega)]
    · rw [a4 c d h1 (by omega) (by omega)]
      exact zm_up_ne h1
set_option maxRecDepth 100000 in
theorem ze_MisShown_no (D : Nat) {k : Nat} (hk : k < 10) (hkind : ¬ μ 234 k = 1) : ze_E (D + 4) A_Mod_isShown [.ref 232, .int (nI k)] (zm_mk μ) (some (.int 0)) (zm_mk μ) := by
  have ik : zi_in (nI k) 10 = true := zm_in hk (by decide)
  have ck : (nI k).toNatClampNeg = k := nI_clamp (by omega)
  refine ze_in [(0, .ref 232), (1, .int (nI k))] zq_Mod_isShown (Nat.le_of_ble_eq_true rfl) rfl ⟨0, 8, fun F m hF => ?_⟩
  simp [zg_0, zg_aload_n, zg_getfield, zg_goto, zg_iaload, zg_iconst, zg_if_icmp, zg_iload_n, zg_invokestatic, zg_invokevirtual, zg_ireturn, zf_X6_isShown, zi_ld, zi_lda, zi_cmp, zi_retOk, zi_isI, zi_f3, zi_cr, zi_ci, zi_cn, zi_get, zi_set, zM_g, zm_iald (k := 0) zM_A234 ik, ck, hkind]
set_option maxRecDepth 100000 in
theorem ze_MisShown (D : Nat) {k s m : Nat} (hk : k < 10) (hkind : μ 234 k = 1) (hs : s < 3) (hhome : μ 238 k = nI s) (hI : zu_I μ s u ab) (hat : zu_at μ s u k m) : ze_E (D + 4) A_Mod_isShown [.ref 232, .int (nI k)] (zm_mk μ) (some (.int (if μ 250 (24 * s + m) = nI k then 1 else 0))) (zm_mk μ) := by
  obtain ⟨lc, cM⟩ := zM_c (μ := μ)
  have hm24 := zu_I_lt hI hat.1
  have ik : zi_in (nI k) 10 = true := zm_in hk (by decide)
  have ck : (nI k).toNatClampNeg = k := nI_clamp (by omega)
  have im : zi_in (nI (24 * s + m)) 168 = true := zm_in (by omega) (by decide)
  have cm : (nI (24 * s + m)).toNatClampNeg = 24 * s + m := nI_clamp (by omega)
  obtain ⟨N3, E3⟩ := ze_MleafOf_at (μ := μ) D (by omega) hI hk hat
  obtain ⟨N4, E4⟩ := ze_spot (h := zm_mk μ) (n := m) (D + 2) (t := s) (by omega)
  by_cases c : μ 250 (24 * s + m) = nI k
  · rw [if_pos c]
    refine ze_in [(0, .ref 232), (1, .int (nI k))] zq_Mod_isShown (Nat.le_of_ble_eq_true rfl) rfl ⟨N3 + N4, 26, fun F m hF => ?_⟩
    simp [zg_0, zg_aload_n, zg_getfield, zg_goto, zg_iaload, zg_iconst, zg_if_icmp, zg_iload_n, zg_invokestatic, zg_invokevirtual, zg_ireturn, zf_X6_isShown, zi_ld, zi_lda, zi_cmp, zi_retOk, zi_isI, zi_f3, zi_cr, zi_ci, zi_cn, zi_get, zi_set, zM_g, cM, zq_Mod_leafOf, zq_Mod_spot, E3 F (by omega), E4 F (by omega), zm_iald (k := 0) zM_A234 ik, zm_iald (k := 0) zM_A238 ik, ck, hkind, hhome, zm_iald (k := 0) zM_A250 im, cm, c]
  · rw [if_neg c]
    refine ze_in [(0, .ref 232), (1, .int (nI k))] zq_Mod_isShown (Nat.le_of_ble_eq_true rfl) rfl ⟨N3 + N4, 25, fun F m hF => ?_⟩
    simp [zg_0, zg_aload_n, zg_getfield, zg_goto, zg_iaload, zg_iconst, zg_if_icmp, zg_iload_n, zg_invokestatic, zg_invokevirtual, zg_ireturn, zf_X6_isShown, zi_ld, zi_lda, zi_cmp, zi_retOk, zi_isI, zi_f3, zi_cr, zi_ci, zi_cn, zi_get, zi_set, zM_g, cM, zq_Mod_leafOf, zq_Mod_spot, E3 F (by omega), E4 F (by omega), zm_iald (k := 0) zM_A234 ik, zm_iald (k := 0) zM_A238 ik, ck, hkind, hhome, zm_iald (k := 0) zM_A250 im, cm, c]
set_option maxRecDepth 100000 in
theorem ze_Mcommon {h : zi_Hp} (D : Nat) (a b c d : Int32) : ze_E (D + 1) A_Mod_common [.int a, .int b, .int c, .int d] h (some (.int ((if b < d then b else d) - (if c < a then a else c)))) h := by
  obtain ⟨q, hq⟩ := zv_opq (if b < d then b else d) (if c < a then a else c)
  rw [hq]
  by_cases c1 : c < a
  · have c1' : ¬ a ≤ c := Int32.not_le.mpr c1
    rw [if_pos c1] at hq
    by_cases c2 : b < d
    · have c2' : ¬ d ≤ b := Int32.not_le.mpr c2
      rw [if_pos c2] at hq
      refine ze_in [(0, .int a), (1, .int b), (2, .int c), (3, .int d)] zq_Mod_common (Nat.le_of_ble_eq_true rfl) rfl ⟨0, 16, fun F mm hF => ?_⟩
      simp [zg_0, zg_goto, zg_if_icmp, zg_iload, zg_iload_n, zg_ireturn, zg_istore, zg_isub, zf_X6_common, zi_ld, zi_lda, zi_cmp, zi_retOk, zi_isI, zi_f3, zi_cr, zi_ci, zi_cn, zi_get, zi_set, c1', c2', hq]
    · have c2' : d ≤ b := Int32.not_lt.mp c2
      rw [if_neg c2] at hq
      refine ze_in [(0, .int a), (1, .int b), (2, .int c), (3, .int d)] zq_Mod_common (Nat.le_of_ble_eq_true rfl) rfl ⟨0, 15, fun F mm hF => ?_⟩
      simp [zg_0, zg_goto, zg_if_icmp, zg_iload, zg_iload_n, zg_ireturn, zg_istore, zg_isub, zf_X6_common, zi_ld, zi_lda, zi_cmp, zi_retOk, zi_isI, zi_f3, zi_cr, zi_ci, zi_cn, zi_get, zi_set, c1', c2', hq]
  · have c1' : a ≤ c := Int32.not_lt.mp c1
    rw [if_neg c1] at hq
    by_cases c2 : b < d
    · have c2' : ¬ d ≤ b := Int32.not_le.mpr c2
      rw [if_pos c2] at hq
      refine ze_in [(0, .int a), (1, .int b), (2, .int c), (3, .int d)] zq_Mod_common (Nat.le_of_ble_eq_true rfl) rfl ⟨0, 15, fun F mm hF => ?_⟩
      simp [zg_0, zg_goto, zg_if_icmp, zg_iload, zg_iload_n, zg_ireturn, zg_istore, zg_isub, zf_X6_common, zi_ld, zi_lda, zi_cmp, zi_retOk, zi_isI, zi_f3, zi_cr, zi_ci, zi_cn, zi_get, zi_set, c1', c2', hq]
    · have c2' : d ≤ b := Int32.not_lt.mp c2
      rw [if_neg c2] at hq
      refine ze_in [(0, .int a), (1, .int b), (2, .int c), (3, .int d)] zq_Mod_common (Nat.le_of_ble_eq_true rfl) rfl ⟨0, 14, fun F mm hF => ?_⟩
      simp [zg_0, zg_goto, zg_if_icmp, zg_iload, zg_iload_n, zg_ireturn, zg_istore, zg_isub, zf_X6_common, zi_ld, zi_lda, zi_cmp, zi_retOk, zi_isI, zi_f3, zi_cr, zi_ci, zi_cn, zi_get, zi_set, c1', c2', hq]
end ZVG
