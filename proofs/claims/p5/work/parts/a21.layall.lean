section
/-! the reference: layAll, isShown, common -/
section ZVG
variable {μ : zm_M} {u : zy_F} {ab : Nat → Int32}
noncomputable def zv_frY (μ ν : zm_M) : Prop := ∀ c d, ¬ (c = 231 ∧ d = 30) → ¬ (255 ≤ c ∧ c ≤ 259) → ν c d = μ c d
theorem zu_tb_cells {ν : zm_M} {τ n : Nat} (h : ∀ d, ν 249 d = μ 249 d ∧ ν 248 d = μ 248 d) : zu_tb ν τ n = zu_tb μ τ n := by
  unfold zu_tb
  rw [(h _).1]
  refine List.map_congr_left fun j _ => ?_
  rw [(h _).2]
theorem zu_lsz_cells {ν : zm_M} {τ a : Nat} (ha : a < 2) (h : ∀ c d, c ≠ 231 → c < 255 → ν c d = μ c d) : zu_fm ν τ = zu_fm μ τ ∧ zu_lsz ν τ a = zu_lsz μ τ a := by
  have e1 : zu_fm ν τ = zu_fm μ τ := funext fun n => by
    unfold zu_fm
    rw [h 244 _ (by decide) (by decide)]
  refine ⟨e1, funext fun v => ?_⟩
  unfold zu_lsz
  rw [e1]
  congr 1
  funext n
  unfold zu_lf
  rw [zu_tb_cells (μ := μ) (ν := ν) (fun d => ⟨h _ d (by decide) (by decide), h _ d (by decide) (by decide)⟩)]
  exact zl_fold_congr (F := zi_mx) _ _ (fun w _ => h _ w (by omega) (by omega))
set_option maxRecDepth 100000 in
theorem ze_MlayAll (D : Nat) {s : Nat} (hs : s < 3) (hI : zu_I μ s u ab) : ∃ ν, ze_E (D + 27) A_Mod_layAll [.ref 232, .int (nI s)] (zm_mk μ) none (zm_mk ν) ∧ (zy_wf u → zy_laid (zu_P ν) (zu_fm μ s) (fun n => μ 247 (24 * s + n)) (zu_lsz μ s 0) (zu_lsz μ s 1) u 0 0 (μ 232 s) (μ 233 s)) ∧ zu_lv ν (zy_lvs u) ∧ zv_frY μ ν := by
  have is : zi_in (nI s) 7 = true := zm_in (by omega) (by decide)
  have is3 : zi_in (nI s) 3 = true := zm_in (by omega) (by decide)
  have cs : (nI s).toNatClampNeg = s := nI_clamp (by omega)
  have hcell : ∀ c d, c ≠ 231 → c < 255 → zm_up μ 231 30 0 c d = μ c d := fun c d h _ => zm_up_ne (by omega)
  have v1 : zm_up μ 231 30 0 243 s = μ 243 s := zm_up_ne (by omega)
  have v2 : zm_up μ 231 30 0 232 s = μ 232 s := zm_up_ne (by omega)
  have v3 : zm_up μ 231 30 0 233 s = μ 233 s := zm_up_ne (by omega)
  rcases hI.1 with ⟨rfl, e⟩ | ⟨w, ok, e, -⟩
  · have c1 : (-1 : Int32) < 0 := by decide
    refine ⟨zm_up μ 231 30 0, ze_in [(0, .ref 232), (1, .int (nI s))] zq_Mod_layAll (Nat.le_of_ble_eq_true rfl) rfl ⟨0, 9, fun F m hF => ?_⟩, fun h => h.elim, ⟨zm_up_eq, fun j hj => by cases hj⟩, fun c d h1 _ => zm_up_ne h1⟩
    simp [zg_0, zg_aload_n, zg_getfield, zg_iaload, zg_iconst, zg_ifCond, zg_iload_n, zg_invokevirtual, zg_putfield, zg_return, zf_X6_layAll, zi_ld, zi_lda, zi_cmp, zi_retOk, zi_isI, zi_f3, zi_cr, zi_ci, zi_cn, zi_get, zi_set, zM_g, zM_p30, zm_iald (k := 0) zM_A243 is, cs, v1, e, c1]
  · have hid : zy_id u < 24 := hI.2.2.1 _ (zy_id_mem w)
    have hl24 := zy_nodup_le 24 (zy_ids u) hI.2.1 hI.2.2.1
    have hq : zu_eqT μ s (zm_up μ 231 30 0) s := ⟨v1, fun c n hc _ => zm_up_ne (by rintro ⟨rfl, -⟩; revert hc; decide), fun n j _ _ => zm_up_ne (by omega)⟩
    have hI1 := hq.I hI
    obtain ⟨-, hll, hll2⟩ := zu_lvs_nodup hI
    obtain ⟨ν, ⟨N1, E1⟩, a1, a2, a3, a4⟩ := ze_Mlay (τ := s) (ab := ab) (by omega) u w (zm_up μ 231 30 0) 0 (D + (24 - (zy_ids u).length)) 0 0 (μ 232 s) (μ 233 s) (zu_I_wf hI1 (zy_id_mem w)).2.1 hI.2.1 hI.2.2.1 (fun n hn => ⟨(zu_I_tb hI1 hn).1, (zu_I_tb hI1 hn).2.2⟩) zm_up_eq (by omega)
    rw [show D + (24 - (zy_ids u).length) + 2 + (zy_ids u).length = D + 26 by omega] at E1
    rw [Nat.zero_add] at a2
    obtain ⟨lc, cM⟩ := zM_c (μ := zm_up μ 231 30 0)
    have c1 : ¬ nI (zy_id u) < 0 := nI_pos (by omega)
    have e5 : (fun n => zm_up μ 231 30 0 247 (24 * s + n)) = fun n => μ 247 (24 * s + n) := funext fun n => zm_up_ne (by omega)
    rw [(zu_lsz_cells (a := 0) (by decide) hcell).1, (zu_lsz_cells (a := 0) (by decide) hcell).2, (zu_lsz_cells (a := 1) (by decide) hcell).2, e5] at a1
    refine ⟨ν, ze_in [(0, .ref 232), (1, .int (nI s))] zq_Mod_layAll (Nat.le_of_ble_eq_true rfl) rfl ⟨N1, 26, fun F m hF => ?_⟩, fun _ => a1, ⟨a2, fun j hj => by have := a3 j hj; rw [Nat.zero_add] at this; exact this⟩, fun c d h1 h2 => ?_⟩
    · simp [zg_0, zg_aload_n, zg_getfield, zg_iaload, zg_iconst, zg_ifCond, zg_iload_n, zg_invokevirtual, zg_putfield, zg_return, zf_X6_layAll, zi_ld, zi_lda, zi_cmp, zi_retOk, zi_isI, zi_f3, zi_cr, zi_ci, zi_cn, zi_get, zi_set, zM_g, zM_p30, zm_iald (k := 0) zM_A243 is, cs, v1, v2, v3, e, c1, zm_iald (k := 0) zM_A232 is3, zm_iald (k := 0) zM_A233 is3, cM, zq_Mod_lay, E1 F (by omega)]
    · rw [a4 c d h1 (by omega) (by omega)]
      exact zm_up_ne h1
set_option maxRecDepth 100000 in
theorem ze_MisShown_no (D : Nat) {k : Nat} (hk : k < 10) (hkind : ¬ μ 234 k = 1) : ze_E (D + 4) A_Mod_isShown [.ref 232, .int (nI k)] (zm_mk μ) (some (.int 0)) (zm_mk μ) := by
  have ik : zi_in (nI k) 10 = true := zm_in hk (by decide)
  have ck : (nI k).toNatClampNeg = k := nI_clamp (by omega)
  refine ze_in [(0, .ref 232), (1, .int (nI k))] zq_Mod_isShown (Nat.le_of_ble_eq_true rfl) rfl ⟨0, 8, fun F m hF => ?_⟩
  simp [zg_0, zg_aload_n, zg_getfield, zg_goto, zg_iaload, zg_iconst, zg_if_icmp, zg_iload_n, zg_invokestatic, zg_invokevirtual, zg_ireturn, zf_X6_isShown, zi_ld, zi_lda, zi_cmp, zi_retOk, zi_isI, zi_f3, zi_cr, zi_ci, zi_cn, zi_get, zi_set, zM_g, zm_iald (k := 0) zM_A234 ik, ck, hkind]
set_option maxRecDepth 100000 in
theorem ze_MisShown (D : Nat) {k s m : Nat} (hk : k < 10) (hkind : μ 234 k = 1) (hs : s < 3) (hhome : μ 238 k = nI s) (hI : zu_I μ s u ab) (hat : zu_at μ s u k m) : ze_E (D + 4) A_Mod_isShown [.ref 232, .int (nI k)] (zm_mk μ) (some (.int (if μ 250 (24 * s + m) = nI k then 1 else 0))) (zm_mk μ) := by
  obtain ⟨lc, cM⟩ := zM_c (μ := μ)
  have hm24 := zu_I_lt hI hat.1
  have ik : zi_in (nI k) 10 = true := zm_in hk (by decide)
  have ck : (nI k).toNatClampNeg = k := nI_clamp (by omega)
  have im : zi_in (nI (24 * s + m)) 168 = true := zm_in (by omega) (by decide)
  have cm : (nI (24 * s + m)).toNatClampNeg = 24 * s + m := nI_clamp (by omega)
  obtain ⟨N3, E3⟩ := ze_MleafOf_at (μ := μ) D (by omega) hI hk hat
  obtain ⟨N4, E4⟩ := ze_spot (h := zm_mk μ) (n := m) (D + 2) (t := s) (by omega)
  by_cases c : μ 250 (24 * s + m) = nI k
  · rw [if_pos c]
    refine ze_in [(0, .ref 232), (1, .int (nI k))] zq_Mod_isShown (Nat.le_of_ble_eq_true rfl) rfl ⟨N3 + N4, 26, fun F m hF => ?_⟩
    simp [zg_0, zg_aload_n, zg_getfield, zg_goto, zg_iaload, zg_iconst, zg_if_icmp, zg_iload_n, zg_invokestatic, zg_invokevirtual, zg_ireturn, zf_X6_isShown, zi_ld, zi_lda, zi_cmp, zi_retOk, zi_isI, zi_f3, zi_cr, zi_ci, zi_cn, zi_get, zi_set, zM_g, cM, zq_Mod_leafOf, zq_Mod_spot, E3 F (by omega), E4 F (by omega), zm_iald (k := 0) zM_A234 ik, zm_iald (k := 0) zM_A238 ik, ck, hkind, hhome, zm_iald (k := 0) zM_A250 im, cm, c]
  · rw [if_neg c]
    refine ze_in [(0, .ref 232), (1, .int (nI k))] zq_Mod_isShown (Nat.le_of_ble_eq_true rfl) rfl ⟨N3 + N4, 25, fun F m hF => ?_⟩
    simp [zg_0, zg_aload_n, zg_getfield, zg_goto, zg_iaload, zg_iconst, zg_if_icmp, zg_iload_n, zg_invokestatic, zg_invokevirtual, zg_ireturn, zf_X6_isShown, zi_ld, zi_lda, zi_cmp, zi_retOk, zi_isI, zi_f3, zi_cr, zi_ci, zi_cn, zi_get, zi_set, zM_g, cM, zq_Mod_leafOf, zq_Mod_spot, E3 F (by omega), E4 F (by omega), zm_iald (k := 0) zM_A234 ik, zm_iald (k := 0) zM_A238 ik, ck, hkind, hhome, zm_iald (k := 0) zM_A250 im, cm, c]
set_option maxRecDepth 100000 in
theorem ze_Mcommon {h : zi_Hp} (D : Nat) (a b c d : Int32) : ze_E (D + 1) A_Mod_common [.int a, .int b, .int c, .int d] h (some (.int ((if b < d then b else d) - (if c < a then a else c)))) h := by
  obtain ⟨q, hq⟩ := zv_opq (if b < d then b else d) (if c < a then a else c)
  rw [hq]
  by_cases c1 : c < a
  · have c1' : ¬ a ≤ c := Int32.not_le.mpr c1
    rw [if_pos c1] at hq
    by_cases c2 : b < d
    · have c2' : ¬ d ≤ b := Int32.not_le.mpr c2
      rw [if_pos c2] at hq
      refine ze_in [(0, .int a), (1, .int b), (2, .int c), (3, .int d)] zq_Mod_common (Nat.le_of_ble_eq_true rfl) rfl ⟨0, 16, fun F mm hF => ?_⟩
      simp [zg_0, zg_goto, zg_if_icmp, zg_iload, zg_iload_n, zg_ireturn, zg_istore, zg_isub, zf_X6_common, zi_ld, zi_lda, zi_cmp, zi_retOk, zi_isI, zi_f3, zi_cr, zi_ci, zi_cn, zi_get, zi_set, c1', c2', hq]
    · have c2' : d ≤ b := Int32.not_lt.mp c2
      rw [if_neg c2] at hq
      refine ze_in [(0, .int a), (1, .int b), (2, .int c), (3, .int d)] zq_Mod_common (Nat.le_of_ble_eq_true rfl) rfl ⟨0, 15, fun F mm hF => ?_⟩
      simp [zg_0, zg_goto, zg_if_icmp, zg_iload, zg_iload_n, zg_ireturn, zg_istore, zg_isub, zf_X6_common, zi_ld, zi_lda, zi_cmp, zi_retOk, zi_isI, zi_f3, zi_cr, zi_ci, zi_cn, zi_get, zi_set, c1', c2', hq]
  · have c1' : a ≤ c := Int32.not_lt.mp c1
    rw [if_neg c1] at hq
    by_cases c2 : b < d
    · have c2' : ¬ d ≤ b := Int32.not_le.mpr c2
      rw [if_pos c2] at hq
      refine ze_in [(0, .int a), (1, .int b), (2, .int c), (3, .int d)] zq_Mod_common (Nat.le_of_ble_eq_true rfl) rfl ⟨0, 15, fun F mm hF => ?_⟩
      simp [zg_0, zg_goto, zg_if_icmp, zg_iload, zg_iload_n, zg_ireturn, zg_istore, zg_isub, zf_X6_common, zi_ld, zi_lda, zi_cmp, zi_retOk, zi_isI, zi_f3, zi_cr, zi_ci, zi_cn, zi_get, zi_set, c1', c2', hq]
    · have c2' : d ≤ b := Int32.not_lt.mp c2
      rw [if_neg c2] at hq
      refine ze_in [(0, .int a), (1, .int b), (2, .int c), (3, .int d)] zq_Mod_common (Nat.le_of_ble_eq_true rfl) rfl ⟨0, 14, fun F mm hF => ?_⟩
      simp [zg_0, zg_goto, zg_if_icmp, zg_iload, zg_iload_n, zg_ireturn, zg_istore, zg_isub, zf_X6_common, zi_ld, zi_lda, zi_cmp, zi_retOk, zi_isI, zi_f3, zi_cr, zi_ci, zi_cn, zi_get, zi_set, c1', c2', hq]
end ZVG
end
section
/-! the reference: takesTrial -/
section ZVH
variable {μ : zm_M} {u : zy_F} {ab : Nat → Int32}
set_option maxRecDepth 100000 in
theorem ze_MtakesTrial (D : Nat) {s : Nat} (hs : s < 3) (hI : zu_I μ 6 u ab) (h0 : 0 ≤ μ 232 s) (h1 : 0 ≤ μ 233 s) : ze_E (D + 27) A_Mod_takesTrial [.ref 232, .int (nI s)] (zm_mk μ) (some (.int (if zu_fit μ 6 u (μ 232 s) (μ 233 s) = true then 1 else 0))) (zm_mk (if zu_fit μ 6 u (μ 232 s) (μ 233 s) = true then zu_cq μ 6 s 24 240 else μ)) := by
  obtain ⟨lc, cM⟩ := zM_c (μ := μ)
  have h6 : (Int8.ofInt 6).toInt32 = (6 : Int32) := by decide
  have n6 : nI 6 = (6 : Int32) := by decide
  have is : zi_in (nI s) 3 = true := zm_in hs (by decide)
  have cs : (nI s).toNatClampNeg = s := nI_clamp (by omega)
  obtain ⟨N1, E1⟩ := ze_Mfits (μ := μ) D (by decide : 6 < 7) hI h0 h1
  generalize hb : zu_fit μ 6 u (μ 232 s) (μ 233 s) = b at E1
  obtain ⟨N2, E2⟩ := ze_McopyTree (μ := μ) (D + 24) (f := 6) (t := s) (by decide) (by omega) (by omega)
  generalize zu_cq μ 6 s 24 240 = ν at E2
  rw [n6] at E1 E2
  by_cases c : b = true
  · rw [if_pos c] at E1 ⊢
    rw [if_pos c]
    refine ze_in [(0, .ref 232), (1, .int (nI s))] zq_Mod_takesTrial (Nat.le_of_ble_eq_true rfl) rfl ⟨N1 + N2, 18, fun F m hF => ?_⟩
    simp [zg_0, zg_aload_n, zg_bipush, zg_getfield, zg_iaload, zg_iconst, zg_ifCond, zg_iload_n, zg_invokevirtual, zg_ireturn, zf_X6_takesTrial, zi_ld, zi_lda, zi_cmp, zi_retOk, zi_isI, zi_f3, zi_cr, zi_ci, zi_cn, zi_get, zi_set, zM_g, cM, h6, zq_Mod_fits, zq_Mod_copyTree, E1 F (by omega), E2 F (by omega), zm_iald (k := 0) zM_A232 is, zm_iald (k := 0) zM_A233 is, cs]
  · rw [if_neg c] at E1 ⊢
    rw [if_neg c]
    refine ze_in [(0, .ref 232), (1, .int (nI s))] zq_Mod_takesTrial (Nat.le_of_ble_eq_true rfl) rfl ⟨N1, 14, fun F m hF => ?_⟩
    simp [zg_0, zg_aload_n, zg_bipush, zg_getfield, zg_iaload, zg_iconst, zg_ifCond, zg_iload_n, zg_invokevirtual, zg_ireturn, zf_X6_takesTrial, zi_ld, zi_lda, zi_cmp, zi_retOk, zi_isI, zi_f3, zi_cr, zi_ci, zi_cn, zi_get, zi_set, zM_g, cM, h6, zq_Mod_fits, E1 F (by omega), zm_iald (k := 0) zM_A232 is, zm_iald (k := 0) zM_A233 is, cs]
end ZVH
end
section
/-! the reference: spread -/
section ZVI
variable {μ : zm_M} {dl : Nat → Bool} {ow : Nat → Nat} {g : Nat → Bool}
noncomputable def zv_cm (μ : zm_M) (g : Nat → Bool) : Prop := ∀ j, j < 10 → μ 260 j = if g j = true then 1 else 0
noncomputable def zv_ow (μ : zm_M) (dl : Nat → Bool) (ow : Nat → Nat) : Prop := ∀ x, x < 10 → (dl x = true ↔ μ 234 x = 3) ∧ (μ 234 x = 3 → ow x < 10 ∧ μ 237 x = nI (ow x))
set_option maxRecDepth 100000 in
theorem zv_spread1 (D : Nat) {r : Nat} (hr : r < 10) (L0 : zi_Lc) (nl0 : zi_nl L0 = true) (a0 : zi_get L0 0 = some (.ref 232)) (a1 : zi_get L0 1 = some (.int (nI r))) (a2 : zi_get L0 2 = some (.int (nI 0))) (hg : zv_cm μ g) (ho : zv_ow μ dl ow) :
    ∃ L' h', ze_S D 3 none zc_X6_spread 10 L0 [] (zm_mk μ) 2 L' [] h' ∧ (zi_nl L' = true ∧ zi_get L' 0 = some (.ref 232) ∧ zi_get L' 1 = some (.int (nI (r + 1))) ∧ ∃ ν, zm_mk ν = h' ∧ zv_cm ν (zl_sp1 dl ow g 10) ∧ ∀ c d, c ≠ 260 → ν c d = μ c d) := by
  have h10 : (Int8.ofInt 10).toInt32 = (10 : Int32) := by decide
  refine ze_loopS (Q := fun i L hp => i ≤ 10 ∧ zi_nl L = true ∧ zi_get L 0 = some (.ref 232) ∧ zi_get L 1 = some (.int (nI r)) ∧ zi_get L 2 = some (.int (nI i)) ∧ ∃ ξ : zm_M, zm_mk ξ = hp ∧ (zv_cm ξ (zl_sp1 dl ow g i)) ∧ (∀ c d, c ≠ 260 → ξ c d = μ c d) ∧ (True)) (R := fun L' h' => zi_nl L' = true ∧ zi_get L' 0 = some (.ref 232) ∧ zi_get L' 1 = some (.int (nI (r + 1))) ∧ ∃ ν, zm_mk ν = h' ∧ zv_cm ν (zl_sp1 dl ow g 10) ∧ ∀ c d, c ≠ 260 → ν c d = μ c d) 10 ?_ ?_ 10 0 _ _ (by omega) ⟨by omega, nl0, a0, a1, a2, μ, rfl, hg, (fun _ _ _ => rfl), trivial⟩
  · rintro i L _ hi ⟨-, nl, g0, g1, g2, ξ, rfl, f1, f2, hq⟩
    have c1 : ¬ (10 : Int32) ≤ nI i := nI_ge (b := 10) hi (by decide)
    have ik : zi_in (nI i) 10 = true := zm_in hi (by decide)
    have ck : (nI i).toNatClampNeg = i := nI_clamp (by omega)
    have e4 : ξ 234 i = μ 234 i := f2 _ _ (by decide)
    have e7 : ξ 237 i = μ 237 i := f2 _ _ (by decide)
    have ec := f1 i hi
    have up : ∀ b : Bool, zl_sp1 dl ow g (i + 1) i = b → zv_cm (zm_up ξ 260 i (if b = true then 1 else 0)) (zl_sp1 dl ow g (i + 1)) := fun b hb j hj => by
      rw [zm_up_pt]
      by_cases e : j = i
      · rw [if_pos e, e, hb]
      · rw [if_neg e, zl_sp1_s, if_neg e]
        exact f1 j hj
    have fr : ∀ x c d, c ≠ 260 → zm_up ξ 260 i x c d = μ c d := fun x c d h => by
      rw [zm_up_ne (by omega)]; exact f2 c d h
    have hs : zl_sp1 dl ow g (i + 1) i = (zl_sp1 dl ow g i i || (dl i && zl_sp1 dl ow g i (ow i))) := by rw [zl_sp1_s, if_pos rfl]
    have n1 : ¬ (1 : Int32) = 0 := by decide
    by_cases c2 : zl_sp1 dl ow g i i = true
    · rw [if_pos c2] at ec
      have u := up true (by rw [hs, c2]; rfl)
      rw [if_pos rfl] at u
      refine ⟨zi_set L 2 (.int (nI (i + 1))), zm_mk (zm_up ξ 260 i 1), ⟨0, 16, fun F m hF => ?_⟩, by omega, ?_, ?_, ?_, zi_get_set_eq, _, rfl, u, fr 1, trivial⟩
      · simp (maxDischargeDepth := 9) [zg_0, zg_aload_n, zg_baload, zg_bastore, zg_bipush, zg_getfield, zg_goto, zg_iaload, zg_iconst, zg_ifCond, zg_if_icmp, zg_iinc, zg_iload_n, zg_istore_n, zg_return, zf_X6_spread, zi_ld, zi_lda, zi_cmp, zi_retOk, zi_isI, zi_f3, zi_cr, zi_ci, zi_cn, zi_get_ne, zi_nl_i, zi_nl_r, zi_get_set_eq, nl, g0, g1, g2, h10, c1, zM_g, zm_bald zM_A260 ik, ck, ec, n1, zm_bast zM_A260 ik (Or.inr rfl), nI_1]
      · simp (maxDischargeDepth := 9) [zi_get_ne, zi_nl_i, zi_nl_r, zi_get_set_eq, nl]
      · simp (maxDischargeDepth := 9) [zi_get_ne, zi_nl_i, zi_nl_r, zi_get_set_eq, nl, g0]
      · simp (maxDischargeDepth := 9) [zi_get_ne, zi_nl_i, zi_nl_r, zi_get_set_eq, nl, g1]
    · rw [if_neg c2] at ec
      have c2' : zl_sp1 dl ow g i i = false := by simpa using c2
      by_cases c3 : μ 234 i = 3
      · obtain ⟨o1, o2⟩ := (ho i hi).2 c3
        have hdl := (ho i hi).1.mpr c3
        have jk : zi_in (nI (ow i)) 10 = true := zm_in o1 (by decide)
        have cj : (nI (ow i)).toNatClampNeg = ow i := nI_clamp (by omega)
        have eo := f1 (ow i) o1
        by_cases c4 : zl_sp1 dl ow g i (ow i) = true
        · rw [if_pos c4] at eo
          have u := up true (by rw [hs, c2', hdl, c4]; rfl)
          rw [if_pos rfl] at u
          refine ⟨zi_set L 2 (.int (nI (i + 1))), zm_mk (zm_up ξ 260 i 1), ⟨0, 30, fun F m hF => ?_⟩, by omega, ?_, ?_, ?_, zi_get_set_eq, _, rfl, u, fr 1, trivial⟩
          · simp (maxDischargeDepth := 9) [zg_0, zg_aload_n, zg_baload, zg_bastore, zg_bipush, zg_getfield, zg_goto, zg_iaload, zg_iconst, zg_ifCond, zg_if_icmp, zg_iinc, zg_iload_n, zg_istore_n, zg_return, zf_X6_spread, zi_ld, zi_lda, zi_cmp, zi_retOk, zi_isI, zi_f3, zi_cr, zi_ci, zi_cn, zi_get_ne, zi_nl_i, zi_nl_r, zi_get_set_eq, nl, g0, g1, g2, h10, c1, zM_g, zm_bald zM_A260 ik, ck, ec, n1, zm_iald (k := 0) zM_A234 ik, e4, c3, zm_iald (k := 0) zM_A237 ik, e7, o2, zm_bald zM_A260 jk, cj, eo, zm_bast zM_A260 ik (Or.inr rfl), nI_1]
          · simp (maxDischargeDepth := 9) [zi_get_ne, zi_nl_i, zi_nl_r, zi_get_set_eq, nl]
          · simp (maxDischargeDepth := 9) [zi_get_ne, zi_nl_i, zi_nl_r, zi_get_set_eq, nl, g0]
          · simp (maxDischargeDepth := 9) [zi_get_ne, zi_nl_i, zi_nl_r, zi_get_set_eq, nl, g1]
        · rw [if_neg c4] at eo
          have c4' : zl_sp1 dl ow g i (ow i) = false := by simpa using c4
          have u := up false (by rw [hs, c2', hdl, c4']; rfl)
          rw [if_neg (by decide)] at u
          refine ⟨zi_set L 2 (.int (nI (i + 1))), zm_mk (zm_up ξ 260 i 0), ⟨0, 29, fun F m hF => ?_⟩, by omega, ?_, ?_, ?_, zi_get_set_eq, _, rfl, u, fr 0, trivial⟩
          · simp (maxDischargeDepth := 9) [zg_0, zg_aload_n, zg_baload, zg_bastore, zg_bipush, zg_getfield, zg_goto, zg_iaload, zg_iconst, zg_ifCond, zg_if_icmp, zg_iinc, zg_iload_n, zg_istore_n, zg_return, zf_X6_spread, zi_ld, zi_lda, zi_cmp, zi_retOk, zi_isI, zi_f3, zi_cr, zi_ci, zi_cn, zi_get_ne, zi_nl_i, zi_nl_r, zi_get_set_eq, nl, g0, g1, g2, h10, c1, zM_g, zm_bald zM_A260 ik, ck, ec, n1, zm_iald (k := 0) zM_A234 ik, e4, c3, zm_iald (k := 0) zM_A237 ik, e7, o2, zm_bald zM_A260 jk, cj, eo, zm_bast zM_A260 ik (Or.inl rfl), nI_1]
          · simp (maxDischargeDepth := 9) [zi_get_ne, zi_nl_i, zi_nl_r, zi_get_set_eq, nl]
          · simp (maxDischargeDepth := 9) [zi_get_ne, zi_nl_i, zi_nl_r, zi_get_set_eq, nl, g0]
          · simp (maxDischargeDepth := 9) [zi_get_ne, zi_nl_i, zi_nl_r, zi_get_set_eq, nl, g1]
      · have hdl : dl i = false := by
          have := mt (ho i hi).1.mp c3
          simpa using this
        have u := up false (by rw [hs, c2', hdl]; rfl)
        rw [if_neg (by decide)] at u
        refine ⟨zi_set L 2 (.int (nI (i + 1))), zm_mk (zm_up ξ 260 i 0), ⟨0, 21, fun F m hF => ?_⟩, by omega, ?_, ?_, ?_, zi_get_set_eq, _, rfl, u, fr 0, trivial⟩
        · simp (maxDischargeDepth := 9) [zg_0, zg_aload_n, zg_baload, zg_bastore, zg_bipush, zg_getfield, zg_goto, zg_iaload, zg_iconst, zg_ifCond, zg_if_icmp, zg_iinc, zg_iload_n, zg_istore_n, zg_return, zf_X6_spread, zi_ld, zi_lda, zi_cmp, zi_retOk, zi_isI, zi_f3, zi_cr, zi_ci, zi_cn, zi_get_ne, zi_nl_i, zi_nl_r, zi_get_set_eq, nl, g0, g1, g2, h10, c1, zM_g, zm_bald zM_A260 ik, ck, ec, n1, zm_iald (k := 0) zM_A234 ik, e4, c3, zm_bast zM_A260 ik (Or.inl rfl), nI_1]
        · simp (maxDischargeDepth := 9) [zi_get_ne, zi_nl_i, zi_nl_r, zi_get_set_eq, nl]
        · simp (maxDischargeDepth := 9) [zi_get_ne, zi_nl_i, zi_nl_r, zi_get_set_eq, nl, g0]
        · simp (maxDischargeDepth := 9) [zi_get_ne, zi_nl_i, zi_nl_r, zi_get_set_eq, nl, g1]
  · rintro L _ ⟨-, nl, g0, g1, g2, ξ, rfl, f1, f2, hq⟩
    have c1 : (10 : Int32) ≤ nI 10 := by decide
    have b0 : zi_nl (zi_set L 1 (.int (nI (r + 1)))) = true := by simp (maxDischargeDepth := 9) [zi_get_ne, zi_nl_i, zi_nl_r, zi_get_set_eq, nl]
    have b1 : zi_get (zi_set L 1 (.int (nI (r + 1)))) 0 = some (.ref 232) := by simp (maxDischargeDepth := 9) [zi_get_ne, zi_nl_i, zi_nl_r, zi_get_set_eq, nl, g0]
    refine ⟨zi_set L 1 (.int (nI (r + 1))), zm_mk ξ, ⟨0, 5, fun F m hF => ?_⟩, b0, b1, zi_get_set_eq, ξ, rfl, f1, f2⟩
    simp (maxDischargeDepth := 9) [zg_0, zg_aload_n, zg_baload, zg_bastore, zg_bipush, zg_getfield, zg_goto, zg_iaload, zg_iconst, zg_ifCond, zg_if_icmp, zg_iinc, zg_iload_n, zg_istore_n, zg_return, zf_X6_spread, zi_ld, zi_lda, zi_cmp, zi_retOk, zi_isI, zi_f3, zi_cr, zi_ci, zi_cn, zi_get_ne, zi_nl_i, zi_nl_r, zi_get_set_eq, nl, g0, g1, g2, h10, c1, nI_add, nI_1]
end ZVI
end
section
/-! the reference: spread whole -/
section ZVJ
variable {μ : zm_M} {dl : Nat → Bool} {ow : Nat → Nat} {g : Nat → Bool}
set_option maxRecDepth 100000 in
theorem ze_Mspread (D : Nat) (hg : zv_cm μ g) (ho : zv_ow μ dl ow) : ∃ ν, ze_E (D + 1) A_Mod_spread [.ref 232] (zm_mk μ) none (zm_mk ν) ∧ zv_cm ν (zl_spn dl ow g 10) ∧ ∀ c d, c ≠ 260 → ν c d = μ c d := by
  have h10 : (Int8.ofInt 10).toInt32 = (10 : Int32) := by decide
  have key : ∃ r h', ze_G D 3 none zc_X6_spread 2 [(1, .int (nI 0)), (0, .ref 232)] [] (zm_mk μ) r h' ∧ (r = none ∧ ∃ ν, zm_mk ν = h' ∧ zv_cm ν (zl_spn dl ow g 10) ∧ ∀ c d, c ≠ 260 → ν c d = μ c d) := by
    refine ze_loop (Q := fun i L hp => i ≤ 10 ∧ zi_nl L = true ∧ zi_get L 0 = some (.ref 232) ∧ zi_get L 1 = some (.int (nI i)) ∧ ∃ ξ : zm_M, zm_mk ξ = hp ∧ (zv_cm ξ (zl_spn dl ow g i)) ∧ (∀ c d, c ≠ 260 → ξ c d = μ c d) ∧ (True)) (R := fun r h' => r = none ∧ ∃ ν, zm_mk ν = h' ∧ zv_cm ν (zl_spn dl ow g 10) ∧ ∀ c d, c ≠ 260 → ν c d = μ c d) 10 ?_ ?_ 10 0 _ _ (by omega) ⟨by omega, rfl, rfl, rfl, μ, rfl, hg, (fun _ _ _ => rfl), trivial⟩
    · rintro i L _ hi ⟨-, nl, g0, g1, ξ, rfl, f1, f2, hq⟩
      have c1 : ¬ (10 : Int32) ≤ nI i := nI_ge (b := 10) hi (by decide)
      have b0 : zi_nl (zi_set L 2 (.int (nI 0))) = true := by simp (maxDischargeDepth := 9) [zi_get_ne, zi_nl_i, zi_nl_r, zi_get_set_eq, nl]
      have b1 : zi_get (zi_set L 2 (.int (nI 0))) 0 = some (.ref 232) := by simp (maxDischargeDepth := 9) [zi_get_ne, zi_nl_i, zi_nl_r, zi_get_set_eq, nl, g0]
      have b2 : zi_get (zi_set L 2 (.int (nI 0))) 1 = some (.int (nI i)) := by simp (maxDischargeDepth := 9) [zi_get_ne, zi_nl_i, zi_nl_r, zi_get_set_eq, nl, g1]
      have ho' : zv_ow ξ dl ow := fun x hx => by
        rw [f2 _ _ (by decide), f2 _ _ (by decide)]
        exact ho x hx
      obtain ⟨L', h', s, nl', p0, p1, ν, rfl, p3, p4⟩ := zv_spread1 (μ := ξ) (dl := dl) (ow := ow) D hi _ b0 b1 b2 zi_get_set_eq f1 ho'
      left
      refine ⟨L', zm_mk ν, ze_S.trans ⟨0, 5, fun F m hF => ?_⟩ s, by omega, nl', p0, p1, ν, rfl, p3, (fun c d h => (p4 c d h).trans (f2 c d h)), trivial⟩
      simp (maxDischargeDepth := 9) [zg_0, zg_aload_n, zg_baload, zg_bastore, zg_bipush, zg_getfield, zg_goto, zg_iaload, zg_iconst, zg_ifCond, zg_if_icmp, zg_iinc, zg_iload_n, zg_istore_n, zg_return, zf_X6_spread, zi_ld, zi_lda, zi_cmp, zi_retOk, zi_isI, zi_f3, zi_cr, zi_ci, zi_cn, zi_get_ne, zi_nl_i, zi_nl_r, zi_get_set_eq, nl, g0, g1, h10, c1, nI_0]
    · rintro L _ ⟨-, nl, g0, g1, ξ, rfl, f1, f2, hq⟩
      have c1 : (10 : Int32) ≤ nI 10 := by decide
      refine ⟨none, zm_mk ξ, ⟨0, 4, fun F m hF => ?_⟩, rfl, ξ, rfl, f1, f2⟩
      simp [zg_0, zg_aload_n, zg_baload, zg_bastore, zg_bipush, zg_getfield, zg_goto, zg_iaload, zg_iconst, zg_ifCond, zg_if_icmp, zg_iinc, zg_iload_n, zg_istore_n, zg_return, zf_X6_spread, zi_ld, zi_lda, zi_cmp, zi_retOk, zi_isI, zi_f3, zi_cr, zi_ci, zi_cn, g0, g1, h10, c1]
  obtain ⟨r, h', G, rfl, ν, rfl, f⟩ := key
  refine ⟨ν, ze_in [(0, .ref 232)] zq_Mod_spread (Nat.le_of_ble_eq_true rfl) rfl (ze_S.end ⟨0, 2, fun F m hF => ?_⟩ G), f⟩
  simp [zg_0, zg_aload_n, zg_baload, zg_bastore, zg_bipush, zg_getfield, zg_goto, zg_iaload, zg_iconst, zg_ifCond, zg_if_icmp, zg_iinc, zg_iload_n, zg_istore_n, zg_return, zf_X6_spread, zi_ld, zi_lda, zi_cmp, zi_retOk, zi_isI, zi_f3, zi_cr, zi_ci, zi_cn, zi_get, zi_set, nI_0]
set_option maxRecDepth 100000 in
theorem ze_MplaceIn (D : Nat) {C : Nat} (hC : zm_isA 7 C 10) {n : Nat} (hn : n ≤ 10) (x : Int32) : ∃ v, ze_E (D + 1) A_Mod_placeIn [.ref (C + 1), .int (nI n), .int x] (zm_mk μ) (some (.int v)) (zm_mk μ) := by
  have key : ∃ r h', ze_G D 4 (some .int) zc_X6_placeIn 2 [(3, .int (nI 0)), (0, .ref (C + 1)), (1, .int (nI n)), (2, .int x)] [] (zm_mk μ) r h' ∧ ((∃ v, r = some (.int v)) ∧ zm_mk μ = h') := by
    refine ze_loop (Q := fun i L hp => i ≤ n ∧ zi_nl L = true ∧ zi_get L 0 = some (.ref (C + 1)) ∧ zi_get L 1 = some (.int (nI n)) ∧ zi_get L 2 = some (.int x) ∧ zi_get L 3 = some (.int (nI i)) ∧ zm_mk μ = hp ∧ (True)) (R := fun r h' => (∃ v, r = some (.int v)) ∧ zm_mk μ = h') n ?_ ?_ n 0 _ _ (by omega) ⟨by omega, rfl, rfl, rfl, rfl, rfl, rfl, trivial⟩
    · rintro i L _ hi ⟨-, nl, g0, g1, g2, g3, rfl, hq⟩
      have c1 : ¬ nI n ≤ nI i := nI_ge hi (by omega)
      have ik : zi_in (nI i) 10 = true := zm_in (by omega) (by decide)
      have ck : (nI i).toNatClampNeg = i := nI_clamp (by omega)
      by_cases c2 : μ C i = x
      · right
        refine ⟨some (.int (nI i)), zm_mk μ, ⟨0, 10, fun F m hF => ?_⟩, ⟨_, rfl⟩, rfl⟩
        simp (maxDischargeDepth := 9) [zg_0, zg_aload_n, zg_goto, zg_iaload, zg_iconst, zg_if_icmp, zg_iinc, zg_iload_n, zg_ireturn, zg_istore_n, zg_ldc_w, zf_X6_placeIn, zi_ld, zi_lda, zi_cmp, zi_retOk, zi_isI, zi_f3, zi_cr, zi_ci, zi_cn, zi_get_ne, zi_nl_i, zi_nl_r, zi_get_set_eq, nl, g0, g1, g2, g3, c1, zm_iald (k := 0) hC ik, ck, c2, nI_1]
      · left
        refine ⟨zi_set L 3 (.int (nI (i + 1))), zm_mk μ, ⟨0, 10, fun F m hF => ?_⟩, by omega, ?_, ?_, ?_, ?_, zi_get_set_eq, rfl, trivial⟩
        · simp (maxDischargeDepth := 9) [zg_0, zg_aload_n, zg_goto, zg_iaload, zg_iconst, zg_if_icmp, zg_iinc, zg_iload_n, zg_ireturn, zg_istore_n, zg_ldc_w, zf_X6_placeIn, zi_ld, zi_lda, zi_cmp, zi_retOk, zi_isI, zi_f3, zi_cr, zi_ci, zi_cn, zi_get_ne, zi_nl_i, zi_nl_r, zi_get_set_eq, nl, g0, g1, g2, g3, c1, zm_iald (k := 0) hC ik, ck, c2, nI_1]
        · simp (maxDischargeDepth := 9) [zi_get_ne, zi_nl_i, zi_nl_r, zi_get_set_eq, nl]
        · simp (maxDischargeDepth := 9) [zi_get_ne, zi_nl_i, zi_nl_r, zi_get_set_eq, nl, g0]
        · simp (maxDischargeDepth := 9) [zi_get_ne, zi_nl_i, zi_nl_r, zi_get_set_eq, nl, g1]
        · simp (maxDischargeDepth := 9) [zi_get_ne, zi_nl_i, zi_nl_r, zi_get_set_eq, nl, g2]
    · rintro L _ ⟨-, nl, g0, g1, g2, g3, rfl, hq⟩
      have c1 : nI n ≤ nI n := Int32.le_refl _
      refine ⟨some (.int (-1000000005)), zm_mk μ, ⟨0, 5, fun F m hF => ?_⟩, ⟨_, rfl⟩, rfl⟩
      simp [zg_0, zg_aload_n, zg_goto, zg_iaload, zg_iconst, zg_if_icmp, zg_iinc, zg_iload_n, zg_ireturn, zg_istore_n, zg_ldc_w, zf_X6_placeIn, zi_ld, zi_lda, zi_cmp, zi_retOk, zi_isI, zi_f3, zi_cr, zi_ci, zi_cn, g0, g1, g2, g3, c1]
  obtain ⟨r, h', G, ⟨v, rfl⟩, rfl⟩ := key
  refine ⟨v, ze_in [(0, .ref (C + 1)), (1, .int (nI n)), (2, .int x)] zq_Mod_placeIn (Nat.le_of_ble_eq_true rfl) rfl (ze_S.end ⟨0, 2, fun F m hF => ?_⟩ G)⟩
  simp [zg_0, zg_aload_n, zg_goto, zg_iaload, zg_iconst, zg_if_icmp, zg_iinc, zg_iload_n, zg_ireturn, zg_istore_n, zg_ldc_w, zf_X6_placeIn, zi_ld, zi_lda, zi_cmp, zi_retOk, zi_isI, zi_f3, zi_cr, zi_ci, zi_cn, zi_get, zi_set, nI_0]
end ZVJ
end
section
/-! the reference: comesBack, what was kept is gathered -/
section ZVK
variable {μ : zm_M}
set_option maxRecDepth 100000 in
theorem zv_comes0 (D : Nat) {s : Nat} (hs : s < 3) (hb : ∀ k, k < 10 → μ 252 (10 * s + k) = 0 ∨ μ 252 (10 * s + k) = 1) :
    ∃ L' h', ze_S D 4 (some .boolean) zc_X6_comesBack 2 [(2, .int (nI 0)), (0, .ref 232), (1, .int (nI s))] [] (zm_mk μ) 31 L' [] h' ∧ (zi_nl L' = true ∧ zi_get L' 0 = some (.ref 232) ∧ zi_get L' 1 = some (.int (nI s)) ∧ ∃ ν, zm_mk ν = h' ∧ zv_cm ν (fun k => decide (¬ μ 252 (10 * s + k) = 0)) ∧ ∀ c d, c ≠ 260 → ν c d = μ c d) := by
  have h10 : (Int8.ofInt 10).toInt32 = (10 : Int32) := by decide
  have mk : (10 : Int32) * nI s = nI (10 * s) := nI_mul10 (by omega)
  refine ze_loopS (Q := fun i L hp => i ≤ 10 ∧ zi_nl L = true ∧ zi_get L 0 = some (.ref 232) ∧ zi_get L 1 = some (.int (nI s)) ∧ zi_get L 2 = some (.int (nI i)) ∧ ∃ ξ : zm_M, zm_mk ξ = hp ∧ (∀ j, j < i → ξ 260 j = if decide (¬ μ 252 (10 * s + j) = 0) = true then 1 else 0) ∧ (∀ c d, c ≠ 260 → ξ c d = μ c d) ∧ (True)) (R := fun L' h' => zi_nl L' = true ∧ zi_get L' 0 = some (.ref 232) ∧ zi_get L' 1 = some (.int (nI s)) ∧ ∃ ν, zm_mk ν = h' ∧ zv_cm ν (fun k => decide (¬ μ 252 (10 * s + k) = 0)) ∧ ∀ c d, c ≠ 260 → ν c d = μ c d) 10 ?_ ?_ 10 0 _ _ (by omega) ⟨by omega, rfl, rfl, rfl, rfl, μ, rfl, (fun j hj => absurd hj (by omega)), (fun _ _ _ => rfl), trivial⟩
  · rintro i L _ hi ⟨-, nl, g0, g1, g2, ξ, rfl, f1, f2, hq⟩
    have c1 : ¬ (10 : Int32) ≤ nI i := nI_ge (b := 10) hi (by decide)
    have ik : zi_in (nI i) 10 = true := zm_in hi (by decide)
    have ck : (nI i).toNatClampNeg = i := nI_clamp (by omega)
    have ij : zi_in (nI (10 * s + i)) 30 = true := zm_in (by omega) (by decide)
    have cj : (nI (10 * s + i)).toNatClampNeg = 10 * s + i := nI_clamp (by omega)
    have e2 : ξ 252 (10 * s + i) = μ 252 (10 * s + i) := f2 _ _ (by decide)
    have hbi := hb i hi
    have u : ∀ j, j < i + 1 → zm_up ξ 260 i (μ 252 (10 * s + i)) 260 j = if decide (¬ μ 252 (10 * s + j) = 0) = true then 1 else 0 := fun j hj => by
      rw [zm_up_pt]
      by_cases e : j = i
      · rw [if_pos e, e]
        rcases hbi with h | h
        · rw [h]; rfl
        · rw [h]; rfl
      · rw [if_neg e]; exact f1 j (by omega)
    have fr : ∀ c d, c ≠ 260 → zm_up ξ 260 i (μ 252 (10 * s + i)) c d = μ c d := fun c d h => by
      rw [zm_up_ne (by omega)]; exact f2 c d h
    generalize μ 252 (10 * s + i) = x at e2 hbi u fr
    refine ⟨zi_set L 2 (.int (nI (i + 1))), zm_mk (zm_up ξ 260 i x), ⟨0, 17, fun F m hF => ?_⟩, by omega, ?_, ?_, ?_, zi_get_set_eq, _, rfl, u, fr, trivial⟩
    · simp (maxDischargeDepth := 9) [zg_0, zg_aload_n, zg_baload, zg_bastore, zg_bipush, zg_getfield, zg_goto, zg_iadd, zg_iaload, zg_iconst, zg_ifCond, zg_if_icmp, zg_iinc, zg_iload_n, zg_imul, zg_invokevirtual, zg_ireturn, zg_istore_n, zf_X6_comesBack, zi_ld, zi_lda, zi_cmp, zi_retOk, zi_isI, zi_f3, zi_cr, zi_ci, zi_cn, zi_get_ne, zi_nl_i, zi_nl_r, zi_get_set_eq, nl, g0, g1, g2, h10, c1, zM_g, mk, nI_add, zm_bald zM_A252 ij, cj, e2, zm_bast zM_A260 ik hbi, ck, nI_1]
    · simp (maxDischargeDepth := 9) [zi_get_ne, zi_nl_i, zi_nl_r, zi_get_set_eq, nl]
    · simp (maxDischargeDepth := 9) [zi_get_ne, zi_nl_i, zi_nl_r, zi_get_set_eq, nl, g0]
    · simp (maxDischargeDepth := 9) [zi_get_ne, zi_nl_i, zi_nl_r, zi_get_set_eq, nl, g1]
  · rintro L _ ⟨-, nl, g0, g1, g2, ξ, rfl, f1, f2, hq⟩
    have c1 : (10 : Int32) ≤ nI 10 := by decide
    refine ⟨L, zm_mk ξ, ⟨0, 3, fun F m hF => ?_⟩, nl, g0, g1, ξ, rfl, f1, f2⟩
    simp (maxDischargeDepth := 9) [zg_0, zg_aload_n, zg_baload, zg_bastore, zg_bipush, zg_getfield, zg_goto, zg_iadd, zg_iaload, zg_iconst, zg_ifCond, zg_if_icmp, zg_iinc, zg_iload_n, zg_imul, zg_invokevirtual, zg_ireturn, zg_istore_n, zf_X6_comesBack, zi_ld, zi_lda, zi_cmp, zi_retOk, zi_isI, zi_f3, zi_cr, zi_ci, zi_cn, zi_get_ne, zi_nl_i, zi_nl_r, zi_get_set_eq, nl, g0, g1, g2, h10, c1, nI_1]
end ZVK
end
section
/-! the reference: comesBack, does all find room? -/
noncomputable def zv_gd (p : Nat → Bool) (b : Bool) : Nat → Bool
  | 0 => b
  | n + 1 => zv_gd p b n && p n
noncomputable def zv_room (μ : zm_M) (g : Nat → Bool) (s k : Nat) : Bool := !g k || decide (μ 234 k = 1) || decide (μ 235 k ≤ μ 232 s ∧ μ 236 k ≤ μ 233 s)
section ZVL
variable {μ : zm_M} {g : Nat → Bool}
set_option maxRecDepth 100000 in
theorem zv_comes1 (D : Nat) {s : Nat} (hs : s < 3) (hg : zv_cm μ g) (b0 : Bool) (L0 : zi_Lc) (nl0 : zi_nl L0 = true) (a0 : zi_get L0 0 = some (.ref 232)) (a1 : zi_get L0 1 = some (.int (nI s))) (a2 : zi_get L0 2 = some (.int (if b0 = true then 1 else 0))) (a3 : zi_get L0 3 = some (.int (nI 0))) :
    ∃ r h', ze_G (D + 1) 4 (some .boolean) zc_X6_comesBack 57 L0 [] (zm_mk μ) r h' ∧ (r = some (.int (if zv_gd (zv_room μ g s) b0 10 = true then 1 else 0)) ∧ zm_mk μ = h') := by
  have h10 : (Int8.ofInt 10).toInt32 = (10 : Int32) := by decide
  have is : zi_in (nI s) 3 = true := zm_in hs (by decide)
  have cs : (nI s).toNatClampNeg = s := nI_clamp (by omega)
  have n1 : ¬ (1 : Int32) = 0 := by decide
  obtain ⟨lc, cM⟩ := zM_c (μ := μ)
  refine ze_loop (Q := fun i L hp => i ≤ 10 ∧ zi_nl L = true ∧ zi_get L 0 = some (.ref 232) ∧ zi_get L 1 = some (.int (nI s)) ∧ zi_get L 3 = some (.int (nI i)) ∧ zm_mk μ = hp ∧ ∃ (b : Bool), zi_get L 2 = some (.int (if b = true then 1 else 0)) ∧ (b = zv_gd (zv_room μ g s) b0 i)) (R := fun r h' => r = some (.int (if zv_gd (zv_room μ g s) b0 10 = true then 1 else 0)) ∧ zm_mk μ = h') 10 ?_ ?_ 10 0 _ _ (by omega) ⟨by omega, nl0, a0, a1, a3, rfl, b0, a2, rfl⟩
  · rintro i L _ hi ⟨-, nl, g0, g1, g3, rfl, b, g2, hq⟩
    have c1 : ¬ (10 : Int32) ≤ nI i := nI_ge (b := 10) hi (by decide)
    have ik : zi_in (nI i) 10 = true := zm_in hi (by decide)
    have ck : (nI i).toNatClampNeg = i := nI_clamp (by omega)
    have ec := hg i hi
    obtain ⟨N1, E1⟩ := ze_McanBeWhole (μ := μ) D hi (μ 232 s) (μ 233 s)
    have hs1 : zv_gd (zv_room μ g s) b0 (i + 1) = (b && zv_room μ g s i) := by rw [hq]; rfl
    cases b with
    | false =>
      have g2 : zi_get L 2 = some (.int 0) := g2
      left
      refine ⟨zi_set (zi_set L 2 (.int 0)) 3 (.int (nI (i + 1))), zm_mk μ, ⟨N1, 9, fun F m hF => ?_⟩, by omega, ?_, ?_, ?_, zi_get_set_eq, rfl, false, ?_, hs1.symm⟩
      · simp (maxDischargeDepth := 9) [zg_0, zg_aload_n, zg_baload, zg_bastore, zg_bipush, zg_getfield, zg_goto, zg_iadd, zg_iaload, zg_iconst, zg_ifCond, zg_if_icmp, zg_iinc, zg_iload_n, zg_imul, zg_invokevirtual, zg_ireturn, zg_istore_n, zf_X6_comesBack, zi_ld, zi_lda, zi_cmp, zi_retOk, zi_isI, zi_f3, zi_cr, zi_ci, zi_cn, zi_get_ne, zi_nl_i, zi_nl_r, zi_get_set_eq, nl, g0, g1, g3, g2, h10, c1, nI_1]
      · simp (maxDischargeDepth := 9) [zi_get_ne, zi_nl_i, zi_nl_r, zi_get_set_eq, nl]
      · simp (maxDischargeDepth := 9) [zi_get_ne, zi_nl_i, zi_nl_r, zi_get_set_eq, nl, g0]
      · simp (maxDischargeDepth := 9) [zi_get_ne, zi_nl_i, zi_nl_r, zi_get_set_eq, nl, g1]
      · simp (maxDischargeDepth := 9) [zi_get_ne, zi_nl_i, zi_nl_r, zi_get_set_eq, nl, g2]
    | true =>
      have g2 : zi_get L 2 = some (.int 1) := g2
      have hr : zv_room μ g s i = (!g i || decide (μ 234 i = 1) || decide (μ 235 i ≤ μ 232 s ∧ μ 236 i ≤ μ 233 s)) := rfl
      rw [hr] at hs1
      by_cases c2 : g i = true
      · rw [if_pos c2] at ec
        by_cases c3 : μ 234 i = 1
        · left
          refine ⟨zi_set (zi_set L 2 (.int 1)) 3 (.int (nI (i + 1))), zm_mk μ, ⟨N1, 21, fun F m hF => ?_⟩, by omega, ?_, ?_, ?_, zi_get_set_eq, rfl, true, ?_, by rw [hs1, c2, decide_eq_true c3]; rfl⟩
          · simp (maxDischargeDepth := 9) [zg_0, zg_aload_n, zg_baload, zg_bastore, zg_bipush, zg_getfield, zg_goto, zg_iadd, zg_iaload, zg_iconst, zg_ifCond, zg_if_icmp, zg_iinc, zg_iload_n, zg_imul, zg_invokevirtual, zg_ireturn, zg_istore_n, zf_X6_comesBack, zi_ld, zi_lda, zi_cmp, zi_retOk, zi_isI, zi_f3, zi_cr, zi_ci, zi_cn, zi_get_ne, zi_nl_i, zi_nl_r, zi_get_set_eq, nl, g0, g1, g3, g2, h10, c1, n1, zM_g, zm_bald zM_A260 ik, ck, ec, zm_iald (k := 0) zM_A234 ik, c3, nI_1]
          · simp (maxDischargeDepth := 9) [zi_get_ne, zi_nl_i, zi_nl_r, zi_get_set_eq, nl]
          · simp (maxDischargeDepth := 9) [zi_get_ne, zi_nl_i, zi_nl_r, zi_get_set_eq, nl, g0]
          · simp (maxDischargeDepth := 9) [zi_get_ne, zi_nl_i, zi_nl_r, zi_get_set_eq, nl, g1]
          · simp (maxDischargeDepth := 9) [zi_get_ne, zi_nl_i, zi_nl_r, zi_get_set_eq, nl, g2]
        · by_cases c4 : μ 235 i ≤ μ 232 s ∧ μ 236 i ≤ μ 233 s
          · rw [if_pos c4] at E1
            left
            refine ⟨zi_set (zi_set L 2 (.int 1)) 3 (.int (nI (i + 1))), zm_mk μ, ⟨N1, 33, fun F m hF => ?_⟩, by omega, ?_, ?_, ?_, zi_get_set_eq, rfl, true, ?_, by rw [hs1, decide_eq_true c4, Bool.or_true]; rfl⟩
            · simp (maxDischargeDepth := 9) [zg_0, zg_aload_n, zg_baload, zg_bastore, zg_bipush, zg_getfield, zg_goto, zg_iadd, zg_iaload, zg_iconst, zg_ifCond, zg_if_icmp, zg_iinc, zg_iload_n, zg_imul, zg_invokevirtual, zg_ireturn, zg_istore_n, zf_X6_comesBack, zi_ld, zi_lda, zi_cmp, zi_retOk, zi_isI, zi_f3, zi_cr, zi_ci, zi_cn, zi_get_ne, zi_nl_i, zi_nl_r, zi_get_set_eq, nl, g0, g1, g3, g2, h10, c1, n1, zM_g, zm_bald zM_A260 ik, ck, ec, zm_iald (k := 0) zM_A234 ik, c3, zm_iald (k := 0) zM_A232 is, zm_iald (k := 0) zM_A233 is, cs, cM, zq_Mod_canBeWhole, E1 F (by omega), nI_1]
            · simp (maxDischargeDepth := 9) [zi_get_ne, zi_nl_i, zi_nl_r, zi_get_set_eq, nl]
            · simp (maxDischargeDepth := 9) [zi_get_ne, zi_nl_i, zi_nl_r, zi_get_set_eq, nl, g0]
            · simp (maxDischargeDepth := 9) [zi_get_ne, zi_nl_i, zi_nl_r, zi_get_set_eq, nl, g1]
            · simp (maxDischargeDepth := 9) [zi_get_ne, zi_nl_i, zi_nl_r, zi_get_set_eq, nl, g2]
          · rw [if_neg c4] at E1
            left
            refine ⟨zi_set (zi_set L 2 (.int 0)) 3 (.int (nI (i + 1))), zm_mk μ, ⟨N1, 32, fun F m hF => ?_⟩, by omega, ?_, ?_, ?_, zi_get_set_eq, rfl, false, ?_, by rw [hs1, decide_eq_false c4, decide_eq_false c3, c2]; rfl⟩
            · simp (maxDischargeDepth := 9) [zg_0, zg_aload_n, zg_baload, zg_bastore, zg_bipush, zg_getfield, zg_goto, zg_iadd, zg_iaload, zg_iconst, zg_ifCond, zg_if_icmp, zg_iinc, zg_iload_n, zg_imul, zg_invokevirtual, zg_ireturn, zg_istore_n, zf_X6_comesBack, zi_ld, zi_lda, zi_cmp, zi_retOk, zi_isI, zi_f3, zi_cr, zi_ci, zi_cn, zi_get_ne, zi_nl_i, zi_nl_r, zi_get_set_eq, nl, g0, g1, g3, g2, h10, c1, n1, zM_g, zm_bald zM_A260 ik, ck, ec, zm_iald (k := 0) zM_A234 ik, c3, zm_iald (k := 0) zM_A232 is, zm_iald (k := 0) zM_A233 is, cs, cM, zq_Mod_canBeWhole, E1 F (by omega), nI_1]
            · simp (maxDischargeDepth := 9) [zi_get_ne, zi_nl_i, zi_nl_r, zi_get_set_eq, nl]
            · simp (maxDischargeDepth := 9) [zi_get_ne, zi_nl_i, zi_nl_r, zi_get_set_eq, nl, g0]
            · simp (maxDischargeDepth := 9) [zi_get_ne, zi_nl_i, zi_nl_r, zi_get_set_eq, nl, g1]
            · simp (maxDischargeDepth := 9) [zi_get_ne, zi_nl_i, zi_nl_r, zi_get_set_eq, nl, g2]
      · rw [if_neg c2] at ec
        have c2' : g i = false := by simpa using c2
        left
        refine ⟨zi_set (zi_set L 2 (.int 1)) 3 (.int (nI (i + 1))), zm_mk μ, ⟨N1, 15, fun F m hF => ?_⟩, by omega, ?_, ?_, ?_, zi_get_set_eq, rfl, true, ?_, by rw [hs1, c2']; rfl⟩
        · simp (maxDischargeDepth := 9) [zg_0, zg_aload_n, zg_baload, zg_bastore, zg_bipush, zg_getfield, zg_goto, zg_iadd, zg_iaload, zg_iconst, zg_ifCond, zg_if_icmp, zg_iinc, zg_iload_n, zg_imul, zg_invokevirtual, zg_ireturn, zg_istore_n, zf_X6_comesBack, zi_ld, zi_lda, zi_cmp, zi_retOk, zi_isI, zi_f3, zi_cr, zi_ci, zi_cn, zi_get_ne, zi_nl_i, zi_nl_r, zi_get_set_eq, nl, g0, g1, g3, g2, h10, c1, n1, zM_g, zm_bald zM_A260 ik, ck, ec, nI_1]
        · simp (maxDischargeDepth := 9) [zi_get_ne, zi_nl_i, zi_nl_r, zi_get_set_eq, nl]
        · simp (maxDischargeDepth := 9) [zi_get_ne, zi_nl_i, zi_nl_r, zi_get_set_eq, nl, g0]
        · simp (maxDischargeDepth := 9) [zi_get_ne, zi_nl_i, zi_nl_r, zi_get_set_eq, nl, g1]
        · simp (maxDischargeDepth := 9) [zi_get_ne, zi_nl_i, zi_nl_r, zi_get_set_eq, nl, g2]
  · rintro L _ ⟨-, nl, g0, g1, g3, rfl, b, g2, hq⟩
    have c1 : (10 : Int32) ≤ nI 10 := by decide
    subst hq
    generalize zv_gd (zv_room μ g s) b0 10 = b at g2 ⊢
    cases b with
    | false =>
      have g2 : zi_get L 2 = some (.int 0) := g2
      refine ⟨some (.int 0), zm_mk μ, ⟨0, 5, fun F m hF => ?_⟩, rfl, rfl⟩
      simp [zg_0, zg_aload_n, zg_baload, zg_bastore, zg_bipush, zg_getfield, zg_goto, zg_iadd, zg_iaload, zg_iconst, zg_ifCond, zg_if_icmp, zg_iinc, zg_iload_n, zg_imul, zg_invokevirtual, zg_ireturn, zg_istore_n, zf_X6_comesBack, zi_ld, zi_lda, zi_cmp, zi_retOk, zi_isI, zi_f3, zi_cr, zi_ci, zi_cn, g0, g1, g2, g3, h10, c1]
    | true =>
      have g2 : zi_get L 2 = some (.int 1) := g2
      refine ⟨some (.int 1), zm_mk μ, ⟨0, 5, fun F m hF => ?_⟩, rfl, rfl⟩
      simp [zg_0, zg_aload_n, zg_baload, zg_bastore, zg_bipush, zg_getfield, zg_goto, zg_iadd, zg_iaload, zg_iconst, zg_ifCond, zg_if_icmp, zg_iinc, zg_iload_n, zg_imul, zg_invokevirtual, zg_ireturn, zg_istore_n, zf_X6_comesBack, zi_ld, zi_lda, zi_cmp, zi_retOk, zi_isI, zi_f3, zi_cr, zi_ci, zi_cn, g0, g1, g2, g3, h10, c1]
end ZVL
end
section
/-! the reference: comesBack whole -/
section ZVM
variable {μ ν : zm_M} {u : zy_F} {ab : Nat → Int32} {dl : Nat → Bool} {ow : Nat → Nat}
theorem zu_fr260 {τ : Nat} (f : ∀ c d, c ≠ 260 → ν c d = μ c d) : zu_eqT μ τ ν τ :=
  ⟨f _ _ (by decide), fun c n hc _ => f _ _ (by rintro rfl; revert hc; decide), fun n j _ _ => f _ _ (by decide)⟩
theorem zu_fit_cells {τ : Nat} {w v : Int32} (h : ∀ c d, c ≠ 231 → c < 255 → ν c d = μ c d) : zu_fit ν τ u w v = zu_fit μ τ u w v := by
  unfold zu_fit
  rw [(zu_lsz_cells (μ := μ) (ν := ν) (τ := τ) (a := 0) (by decide) h).2, (zu_lsz_cells (μ := μ) (ν := ν) (τ := τ) (a := 1) (by decide) h).2]
/-- what comes back with the screen s -/
noncomputable def zv_back (μ : zm_M) (dl : Nat → Bool) (ow : Nat → Nat) (s : Nat) : Nat → Bool := zl_spn dl ow (fun k => decide (¬ μ 252 (10 * s + k) = 0)) 10
set_option maxRecDepth 100000 in
theorem ze_McomesBack (D : Nat) {s : Nat} (hs : s < 3) (hb : ∀ k, k < 10 → μ 252 (10 * s + k) = 0 ∨ μ 252 (10 * s + k) = 1) (ho : zv_ow μ dl ow) (hI : zu_I μ (3 + s) u ab) (h0 : 0 ≤ μ 232 s) (h1 : 0 ≤ μ 233 s) :
    ∃ ν, ze_E (D + 27) A_Mod_comesBack [.ref 232, .int (nI s)] (zm_mk μ) (some (.int (if zv_gd (zv_room μ (zv_back μ dl ow s) s) (zu_fit μ (3 + s) u (μ 232 s) (μ 233 s)) 10 = true then 1 else 0))) (zm_mk ν) ∧ zv_cm ν (zv_back μ dl ow s) ∧ ∀ c d, c ≠ 260 → ν c d = μ c d := by
  obtain ⟨L0, h', s0, nl, p0, p1, μ1, rfl, q1, q2⟩ := zv_comes0 (μ := μ) (D + 26) hs hb
  have ho1 : zv_ow μ1 dl ow := fun x hx => by
    rw [q2 _ _ (by decide), q2 _ _ (by decide)]
    exact ho x hx
  obtain ⟨lc1, cM1⟩ := zM_c (μ := μ1)
  obtain ⟨μ2, ⟨N1, E1⟩, r1, r2⟩ := ze_Mspread (μ := μ1) (D + 25) q1 ho1
  have f2 : ∀ c d, c ≠ 260 → μ2 c d = μ c d := fun c d h => (r2 c d h).trans (q2 c d h)
  obtain ⟨lc2, cM2⟩ := zM_c (μ := μ2)
  have e0 : μ2 232 s = μ 232 s := f2 _ _ (by decide)
  have e1 : μ2 233 s = μ 233 s := f2 _ _ (by decide)
  have hI2 := (zu_fr260 (τ := 3 + s) f2).I hI
  obtain ⟨N2, E2⟩ := ze_Mfits (μ := μ2) D (τ := 3 + s) (by omega) hI2 h0 h1
  have ef : zu_fit μ2 (3 + s) u (μ 232 s) (μ 233 s) = zu_fit μ (3 + s) u (μ 232 s) (μ 233 s) := zu_fit_cells (fun c d _ h => f2 c d (by omega))
  rw [ef] at E2
  have er : zv_room μ2 (zv_back μ dl ow s) s = zv_room μ (zv_back μ dl ow s) s := by
    funext k
    show (!zv_back μ dl ow s k || decide (μ2 234 k = 1) || decide (μ2 235 k ≤ μ2 232 s ∧ μ2 236 k ≤ μ2 233 s)) = (!zv_back μ dl ow s k || decide (μ 234 k = 1) || decide (μ 235 k ≤ μ 232 s ∧ μ 236 k ≤ μ 233 s))
    rw [e0, e1, f2 234 k (by decide), f2 235 k (by decide), f2 236 k (by decide)]
  generalize zu_fit μ (3 + s) u (μ 232 s) (μ 233 s) = b at E2 ⊢
  have is : zi_in (nI s) 3 = true := zm_in hs (by decide)
  have cs : (nI s).toNatClampNeg = s := nI_clamp (by omega)
  have e3 : (3 : Int32) + nI s = nI (3 + s) := by rw [show (3 : Int32) = nI 3 by decide, nI_add]
  have b0 : zi_nl (zi_set (zi_set L0 2 (.int (if b = true then 1 else 0))) 3 (.int (nI 0))) = true := by simp (maxDischargeDepth := 9) [zi_get_ne, zi_nl_i, zi_nl_r, zi_get_set_eq, nl]
  have b1 : zi_get (zi_set (zi_set L0 2 (.int (if b = true then 1 else 0))) 3 (.int (nI 0))) 0 = some (.ref 232) := by simp (maxDischargeDepth := 9) [zi_get_ne, zi_nl_i, zi_nl_r, zi_get_set_eq, nl, p0]
  have b2 : zi_get (zi_set (zi_set L0 2 (.int (if b = true then 1 else 0))) 3 (.int (nI 0))) 1 = some (.int (nI s)) := by simp (maxDischargeDepth := 9) [zi_get_ne, zi_nl_i, zi_nl_r, zi_get_set_eq, nl, p1]
  have b3 : zi_get (zi_set (zi_set L0 2 (.int (if b = true then 1 else 0))) 3 (.int (nI 0))) 2 = some (.int (if b = true then 1 else 0)) := by simp (maxDischargeDepth := 9) [zi_get_ne, zi_nl_i, zi_nl_r, zi_get_set_eq, nl]
  obtain ⟨r, h', G, rfl, rfl⟩ := zv_comes1 (μ := μ2) (g := zv_back μ dl ow s) (D + 25) hs r1 b _ b0 b1 b2 b3 zi_get_set_eq
  rw [er] at G
  refine ⟨μ2, ze_in [(0, .ref 232), (1, .int (nI s))] zq_Mod_comesBack (Nat.le_of_ble_eq_true rfl) rfl (ze_S.end ⟨0, 2, fun F m hF => ?_⟩ (ze_S.end s0 (ze_S.end ⟨N1 + N2, 18, fun F m hF => ?_⟩ G))), r1, f2⟩
  · simp [zg_0, zg_aload_n, zg_baload, zg_bastore, zg_bipush, zg_getfield, zg_goto, zg_iadd, zg_iaload, zg_iconst, zg_ifCond, zg_if_icmp, zg_iinc, zg_iload_n, zg_imul, zg_invokevirtual, zg_ireturn, zg_istore_n, zf_X6_comesBack, zi_ld, zi_lda, zi_cmp, zi_retOk, zi_isI, zi_f3, zi_cr, zi_ci, zi_cn, zi_get, zi_set, nI_0]
  · cases b <;> simp (maxDischargeDepth := 9) [zg_0, zg_aload_n, zg_baload, zg_bastore, zg_bipush, zg_getfield, zg_goto, zg_iadd, zg_iaload, zg_iconst, zg_ifCond, zg_if_icmp, zg_iinc, zg_iload_n, zg_imul, zg_invokevirtual, zg_ireturn, zg_istore_n, zf_X6_comesBack, zi_ld, zi_lda, zi_cmp, zi_retOk, zi_isI, zi_f3, zi_cr, zi_ci, zi_cn, zi_get_ne, zi_nl_i, zi_nl_r, zi_get_set_eq, nl, p0, p1, zM_g, cM1, cM2, zq_Mod_spread, zq_Mod_fits, E1 F (by omega), e3, zm_iald (k := 0) zM_A232 is, zm_iald (k := 0) zM_A233 is, cs, e0, e1, E2 F (by omega), nI_0]
end ZVM
end
section
/-! the reference: neighbourOf -/
noncomputable def zv_me (ν : zm_M) (sd p q : Nat) : Bool := if sd = 0 then decide (ν 255 q + ν 257 q = ν 255 p) else if sd = 1 then decide (ν 255 p + ν 257 p = ν 255 q) else if sd = 2 then decide (ν 256 q + ν 258 q = ν 256 p) else decide (ν 256 p + ν 258 p = ν 256 q)
noncomputable def zv_cb (ν : zm_M) (sd p q : Nat) : Int32 := if sd < 2 then (if ν 256 p + ν 258 p < ν 256 q + ν 258 q then ν 256 p + ν 258 p else ν 256 q + ν 258 q) - (if ν 256 q < ν 256 p then ν 256 p else ν 256 q) else (if ν 255 p + ν 257 p < ν 255 q + ν 257 q then ν 255 p + ν 257 p else ν 255 q + ν 257 q) - (if ν 255 q < ν 255 p then ν 255 p else ν 255 q)
/-- what the window j counts, seen from k over the side sd; lo: in which leaf -/
noncomputable def zv_nf (ν : zm_M) (s k sd : Nat) (lo : Nat → Nat) (j : Nat) : Int32 := if (j ≠ k ∧ ν 234 j = 1 ∧ ν 238 j = nI s ∧ ν 250 (24 * s + lo j) = nI j) ∧ zv_me ν sd (lo k) (lo j) = true then zv_cb ν sd (lo k) (lo j) else 0
section ZVN
variable {ν : zm_M}
set_option maxRecDepth 100000 in
theorem zv_nbA (D : Nat) {sd p q : Nat} (hsd : sd < 4) (hp : p < 24) (hq : q < 24) (L : zi_Lc) (g0 : zi_get L 0 = some (.ref 232)) (g2 : zi_get L 2 = some (.int (nI sd))) (g4 : zi_get L 4 = some (.int (nI p))) (g8 : zi_get L 8 = some (.int (nI q))) :
    ze_S D 11 (some .int) zc_X6_neighbourOf 82 L [] (zm_mk ν) 225 L [.int (if zv_me ν sd p q = true then 1 else 0)] (zm_mk ν) := by
  have ip : zi_in (nI p) 24 = true := zm_in hp (by decide)
  have cp : (nI p).toNatClampNeg = p := nI_clamp (by omega)
  have iq : zi_in (nI q) 24 = true := zm_in hq (by decide)
  have cq : (nI q).toNatClampNeg = q := nI_clamp (by omega)
  rcases (by omega : sd = 0 ∨ sd = 1 ∨ sd = 2 ∨ sd = 3) with rfl | rfl | rfl | rfl
  · have n0 : nI 0 = (0 : Int32) := by decide
    by_cases c : ν 255 q + ν 257 q = ν 255 p
    · have z : zv_me ν 0 p q = true := decide_eq_true c
      rw [z]
      refine ⟨0, 18, fun F m hF => ?_⟩
      simp [zg_0, zg_aload_n, zg_bipush, zg_getfield, zg_goto, zg_iadd, zg_iaload, zg_iconst, zg_ifCond, zg_if_icmp, zg_iinc, zg_iload, zg_iload_n, zg_invokestatic, zg_invokevirtual, zg_ireturn, zg_istore, zg_istore_n, zf_X6_neighbourOf, zi_ld, zi_lda, zi_cmp, zi_retOk, zi_isI, zi_f3, zi_cr, zi_ci, zi_cn, g0, g2, g4, g8, n0, zM_g, zm_iald (k := 0) zM_A255 ip, zm_iald (k := 0) zM_A255 iq, zm_iald (k := 0) zM_A257 iq, cp, cq, c]
    · have z : zv_me ν 0 p q = false := decide_eq_false c
      rw [z]
      refine ⟨0, 18, fun F m hF => ?_⟩
      simp [zg_0, zg_aload_n, zg_bipush, zg_getfield, zg_goto, zg_iadd, zg_iaload, zg_iconst, zg_ifCond, zg_if_icmp, zg_iinc, zg_iload, zg_iload_n, zg_invokestatic, zg_invokevirtual, zg_ireturn, zg_istore, zg_istore_n, zf_X6_neighbourOf, zi_ld, zi_lda, zi_cmp, zi_retOk, zi_isI, zi_f3, zi_cr, zi_ci, zi_cn, g0, g2, g4, g8, n0, zM_g, zm_iald (k := 0) zM_A255 ip, zm_iald (k := 0) zM_A255 iq, zm_iald (k := 0) zM_A257 iq, cp, cq, c]
  · have n0 : ¬ nI 1 = (0 : Int32) := by decide
    have n1 : nI 1 = (1 : Int32) := by decide
    by_cases c : ν 255 p + ν 257 p = ν 255 q
    · have z : zv_me ν 1 p q = true := decide_eq_true c
      rw [z]
      refine ⟨0, 21, fun F m hF => ?_⟩
      simp [zg_0, zg_aload_n, zg_bipush, zg_getfield, zg_goto, zg_iadd, zg_iaload, zg_iconst, zg_ifCond, zg_if_icmp, zg_iinc, zg_iload, zg_iload_n, zg_invokestatic, zg_invokevirtual, zg_ireturn, zg_istore, zg_istore_n, zf_X6_neighbourOf, zi_ld, zi_lda, zi_cmp, zi_retOk, zi_isI, zi_f3, zi_cr, zi_ci, zi_cn, g0, g2, g4, g8, n0, n1, zM_g, zm_iald (k := 0) zM_A255 ip, zm_iald (k := 0) zM_A255 iq, zm_iald (k := 0) zM_A257 ip, cp, cq, c]
    · have z : zv_me ν 1 p q = false := decide_eq_false c
      rw [z]
      refine ⟨0, 21, fun F m hF => ?_⟩
      simp [zg_0, zg_aload_n, zg_bipush, zg_getfield, zg_goto, zg_iadd, zg_iaload, zg_iconst, zg_ifCond, zg_if_icmp, zg_iinc, zg_iload, zg_iload_n, zg_invokestatic, zg_invokevirtual, zg_ireturn, zg_istore, zg_istore_n, zf_X6_neighbourOf, zi_ld, zi_lda, zi_cmp, zi_retOk, zi_isI, zi_f3, zi_cr, zi_ci, zi_cn, g0, g2, g4, g8, n0, n1, zM_g, zm_iald (k := 0) zM_A255 ip, zm_iald (k := 0) zM_A255 iq, zm_iald (k := 0) zM_A257 ip, cp, cq, c]
  · have n0 : ¬ nI 2 = (0 : Int32) := by decide
    have n1 : ¬ nI 2 = (1 : Int32) := by decide
    have n2 : nI 2 = (2 : Int32) := by decide
    have n3 : ¬ (2 : Int32) = 0 := by decide
    have n4 : ¬ (2 : Int32) = 1 := by decide
    by_cases c : ν 256 q + ν 258 q = ν 256 p
    · have z : zv_me ν 2 p q = true := decide_eq_true c
      rw [z]
      refine ⟨0, 24, fun F m hF => ?_⟩
      simp [zg_0, zg_aload_n, zg_bipush, zg_getfield, zg_goto, zg_iadd, zg_iaload, zg_iconst, zg_ifCond, zg_if_icmp, zg_iinc, zg_iload, zg_iload_n, zg_invokestatic, zg_invokevirtual, zg_ireturn, zg_istore, zg_istore_n, zf_X6_neighbourOf, zi_ld, zi_lda, zi_cmp, zi_retOk, zi_isI, zi_f3, zi_cr, zi_ci, zi_cn, g0, g2, g4, g8, n2, n3, n4, zM_g, zm_iald (k := 0) zM_A256 ip, zm_iald (k := 0) zM_A256 iq, zm_iald (k := 0) zM_A258 iq, cp, cq, c]
    · have z : zv_me ν 2 p q = false := decide_eq_false c
      rw [z]
      refine ⟨0, 24, fun F m hF => ?_⟩
      simp [zg_0, zg_aload_n, zg_bipush, zg_getfield, zg_goto, zg_iadd, zg_iaload, zg_iconst, zg_ifCond, zg_if_icmp, zg_iinc, zg_iload, zg_iload_n, zg_invokestatic, zg_invokevirtual, zg_ireturn, zg_istore, zg_istore_n, zf_X6_neighbourOf, zi_ld, zi_lda, zi_cmp, zi_retOk, zi_isI, zi_f3, zi_cr, zi_ci, zi_cn, g0, g2, g4, g8, n2, n3, n4, zM_g, zm_iald (k := 0) zM_A256 ip, zm_iald (k := 0) zM_A256 iq, zm_iald (k := 0) zM_A258 iq, cp, cq, c]
  · have n2 : nI 3 = (3 : Int32) := by decide
    have n3 : ¬ (3 : Int32) = 0 := by decide
    have n4 : ¬ (3 : Int32) = 1 := by decide
    have n5 : ¬ (3 : Int32) = 2 := by decide
    by_cases c : ν 256 p + ν 258 p = ν 256 q
    · have z : zv_me ν 3 p q = true := decide_eq_true c
      rw [z]
      refine ⟨0, 24, fun F m hF => ?_⟩
      simp [zg_0, zg_aload_n, zg_bipush, zg_getfield, zg_goto, zg_iadd, zg_iaload, zg_iconst, zg_ifCond, zg_if_icmp, zg_iinc, zg_iload, zg_iload_n, zg_invokestatic, zg_invokevirtual, zg_ireturn, zg_istore, zg_istore_n, zf_X6_neighbourOf, zi_ld, zi_lda, zi_cmp, zi_retOk, zi_isI, zi_f3, zi_cr, zi_ci, zi_cn, g0, g2, g4, g8, n2, n3, n4, n5, zM_g, zm_iald (k := 0) zM_A256 ip, zm_iald (k := 0) zM_A256 iq, zm_iald (k := 0) zM_A258 ip, cp, cq, c]
    · have z : zv_me ν 3 p q = false := decide_eq_false c
      rw [z]
      refine ⟨0, 23, fun F m hF => ?_⟩
      simp [zg_0, zg_aload_n, zg_bipush, zg_getfield, zg_goto, zg_iadd, zg_iaload, zg_iconst, zg_ifCond, zg_if_icmp, zg_iinc, zg_iload, zg_iload_n, zg_invokestatic, zg_invokevirtual, zg_ireturn, zg_istore, zg_istore_n, zf_X6_neighbourOf, zi_ld, zi_lda, zi_cmp, zi_retOk, zi_isI, zi_f3, zi_cr, zi_ci, zi_cn, g0, g2, g4, g8, n2, n3, n4, n5, zM_g, zm_iald (k := 0) zM_A256 ip, zm_iald (k := 0) zM_A256 iq, zm_iald (k := 0) zM_A258 ip, cp, cq, c]
set_option maxRecDepth 100000 in
theorem zv_nbB (D : Nat) {sd p q : Nat} (hsd : sd < 4) (hp : p < 24) (hq : q < 24) (L : zi_Lc) (x : Int32) (nl : zi_nl L = true) (g0 : zi_get L 0 = some (.ref 232)) (g2 : zi_get L 2 = some (.int (nI sd))) (g4 : zi_get L 4 = some (.int (nI p))) (g8 : zi_get L 8 = some (.int (nI q))) :
    ze_S (D + 1) 11 (some .int) zc_X6_neighbourOf 225 L [.int x] (zm_mk ν) 331 (zi_set (zi_set L 9 (.int x)) 10 (.int (zv_cb ν sd p q))) [] (zm_mk ν) := by
  have ip : zi_in (nI p) 24 = true := zm_in hp (by decide)
  have cp : (nI p).toNatClampNeg = p := nI_clamp (by omega)
  have iq : zi_in (nI q) 24 = true := zm_in hq (by decide)
  have cq : (nI q).toNatClampNeg = q := nI_clamp (by omega)
  by_cases c : sd < 2
  · have hr : zv_cb ν sd p q = (if ν 256 p + ν 258 p < ν 256 q + ν 258 q then ν 256 p + ν 258 p else ν 256 q + ν 258 q) - (if ν 256 q < ν 256 p then ν 256 p else ν 256 q) := if_pos c
    have c1 : ¬ (2 : Int32) ≤ nI sd := nI_ge (b := 2) c (by decide)
    obtain ⟨N1, E1⟩ := ze_Mcommon (h := zm_mk ν) D (ν 256 p) (ν 256 p + ν 258 p) (ν 256 q) (ν 256 q + ν 258 q)
    rw [← hr] at E1
    clear hr
    generalize zv_cb ν sd p q = v at E1 ⊢
    refine ⟨N1, 33, fun F m hF => ?_⟩
    simp (maxDischargeDepth := 9) [zg_0, zg_aload_n, zg_bipush, zg_getfield, zg_goto, zg_iadd, zg_iaload, zg_iconst, zg_ifCond, zg_if_icmp, zg_iinc, zg_iload, zg_iload_n, zg_invokestatic, zg_invokevirtual, zg_ireturn, zg_istore, zg_istore_n, zf_X6_neighbourOf, zi_ld, zi_lda, zi_cmp, zi_retOk, zi_isI, zi_f3, zi_cr, zi_ci, zi_cn, zi_get_ne, zi_nl_i, zi_nl_r, zi_get_set_eq, nl, g0, g2, g4, g8, c1, zM_g, zm_iald (k := 0) zM_A256 ip, zm_iald (k := 0) zM_A256 iq, zm_iald (k := 0) zM_A258 ip, zm_iald (k := 0) zM_A258 iq, cp, cq, zq_Mod_common, E1 F (by omega)]
  · have hr : zv_cb ν sd p q = (if ν 255 p + ν 257 p < ν 255 q + ν 257 q then ν 255 p + ν 257 p else ν 255 q + ν 257 q) - (if ν 255 q < ν 255 p then ν 255 p else ν 255 q) := if_neg c
    have c1 : (2 : Int32) ≤ nI sd := by rcases (by omega : sd = 2 ∨ sd = 3) with rfl | rfl <;> decide
    obtain ⟨N1, E1⟩ := ze_Mcommon (h := zm_mk ν) D (ν 255 p) (ν 255 p + ν 257 p) (ν 255 q) (ν 255 q + ν 257 q)
    rw [← hr] at E1
    clear hr
    generalize zv_cb ν sd p q = v at E1 ⊢
    refine ⟨N1, 32, fun F m hF => ?_⟩
    simp (maxDischargeDepth := 9) [zg_0, zg_aload_n, zg_bipush, zg_getfield, zg_goto, zg_iadd, zg_iaload, zg_iconst, zg_ifCond, zg_if_icmp, zg_iinc, zg_iload, zg_iload_n, zg_invokestatic, zg_invokevirtual, zg_ireturn, zg_istore, zg_istore_n, zf_X6_neighbourOf, zi_ld, zi_lda, zi_cmp, zi_retOk, zi_isI, zi_f3, zi_cr, zi_ci, zi_cn, zi_get_ne, zi_nl_i, zi_nl_r, zi_get_set_eq, nl, g0, g2, g4, g8, c1, zM_g, zm_iald (k := 0) zM_A255 ip, zm_iald (k := 0) zM_A255 iq, zm_iald (k := 0) zM_A257 ip, zm_iald (k := 0) zM_A257 iq, cp, cq, zq_Mod_common, E1 F (by omega)]
end ZVN
end
