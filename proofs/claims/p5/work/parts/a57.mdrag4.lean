section
/-! the reference: drag, run -/
section ZWP
variable {μ ν : zm_M} {row stk : List Nat} {us : Nat → zy_F}
set_option maxRecDepth 100000 in
theorem ze_Mdrag (D : Nat) (h : zR μ row stk us) (w x y : Int32) : ∃ ν v, ze_E (D + 28) A_Mod_drag [.ref 232, .int w, .int x, .int y] (zm_mk μ) (some (.int v)) (zm_mk ν) ∧ zv_drgd μ ν row stk us w x y := by
  have n2 : Int32.ofInt (-1000000002) = -1000000002 := by decide
  have h6 : (Int8.ofInt 6).toInt32 = (6 : Int32) := by decide
  have q6 : nI 6 = (6 : Int32) := by decide
  have h10 : (Int8.ofInt 10).toInt32 = (10 : Int32) := by decide
  rcases zv_dg0 D h w x y with ⟨hno, v, G⟩ | ⟨k, o, sd, a, b, hd, ha, hb, hka, hob, ⟨mk, atk⟩, ⟨mo, ato⟩, S0⟩
  · exact ⟨μ, v, ze_in [(0, .ref 232), (1, .int w), (2, .int x), (3, .int y)] zq_Mod_drag (Nat.le_of_ble_eq_true rfl) rfl G, Or.inl ⟨hno, rfl⟩⟩
  · obtain ⟨⟨hk, ho, hsd⟩, -, ⟨hkt, hot, hko⟩⟩ := id hd
    obtain ⟨μ0, u', n, ab, S1, d1, f1, hI1, hnd1, hno1, at1⟩ := zv_dg1 (x3 := nI sd) D h hk hko ha hb hka atk ato
    obtain ⟨ξ, u2, ab2, m2, S2, d2, f2, hI2, at2⟩ := zv_dg2 (s := nI a) (t := nI b) D hk ho hsd hI1 hnd1 hno1 at1
    have fξ : zu_fr 6 μ ξ := f1.trans f2
    have hsz := h.2.2.2.2.2.2 b hb
    have ib : zi_in (nI b) 3 = true := zm_in hb (by decide)
    have cb : (nI b).toNatClampNeg = b := nI_clamp (by omega)
    have S3 : ze_S (D + 27) 9 (some .int) zc_X6_drag 150 [(6, .int (nI n)), (5, .int (nI b)), (4, .int (nI a)), (0, .ref 232), (1, .int (nI k)), (2, .int (nI o)), (3, .int (nI sd))] [] (zm_mk ξ) 153 [(7, .int (nI 0)), (6, .int (nI n)), (5, .int (nI b)), (4, .int (nI a)), (0, .ref 232), (1, .int (nI k)), (2, .int (nI o)), (3, .int (nI sd))] [] (zm_mk ξ) := by
      refine ⟨0, 2, fun F m hF => ?_⟩
      simp [zg_0, zg_aload_n, zg_baload, zg_bastore, zg_bipush, zg_getfield, zg_goto, zg_iaload, zg_iastore, zg_iconst, zg_ifCond, zg_if_icmp, zg_iinc, zg_iload, zg_iload_n, zg_invokestatic, zg_invokevirtual, zg_irem, zg_ireturn, zg_istore, zg_ldc, zf_X6_drag, zi_ld, zi_lda, zi_cmp, zi_retOk, zi_isI, zi_f3, zi_cr, zi_ci, zi_cn, zi_get, zi_set, nI_0]
    obtain ⟨L4, h4, S4, nl4, b0, b1, b3, b4, b5, θ1, rfl, cm1, g1⟩ := zv_dgA (μ := ξ) (D + 27) hk (s := nI a) (o := nI b) (x3 := nI sd) [(7, .int (nI 0)), (6, .int (nI n)), (5, .int (nI b)), (4, .int (nI a)), (0, .ref 232), (1, .int (nI k)), (2, .int (nI o)), (3, .int (nI sd))] rfl rfl rfl rfl rfl rfl rfl
    have x1 : ∀ c d, c < 243 ∨ 250 < c → c ≠ 260 → θ1 c d = μ c d := fun c d r1 r2 => (g1 c d r2).trans (fξ c d (zu_in_not r1))
    obtain ⟨θ, ⟨N5, E5⟩, cm2, g2⟩ := ze_Mspread (μ := θ1) (D + 26) cm1 (zv_ow_cells (zR_ow h) (fun c d r => x1 c d (by omega) (by omega)))
    have x2 : ∀ c d, c < 243 ∨ 250 < c → c ≠ 260 → θ c d = μ c d := fun c d r1 r2 => (g2 c d r2).trans (x1 c d r1 r2)
    have f0 : ∀ c d, c ≠ 260 → θ c d = ξ c d := fun c d r => (g2 c d r).trans (g1 c d r)
    have t6 : zu_eqT ξ 6 θ 6 := zu_eq_in (fun c d r => f0 c d (fun z => zu_in_not (Or.inr (by omega)) r))
    have hI2' := t6.I hI2
    have efit : zu_fit θ 6 u2 (μ 232 b) (μ 233 b) = zu_fit ξ 6 u2 (μ 232 b) (μ 233 b) := zu_fit_cells (fun c d r1 r2 => f0 c d (by omega))
    obtain ⟨N6, E6⟩ := ze_Mfits (μ := θ) (D + 1) (τ := 6) (by decide) hI2' hsz.1 hsz.2
    rw [efit, q6] at E6
    obtain ⟨lc1, cM1⟩ := zM_c (μ := θ1)
    obtain ⟨lc2, cM2⟩ := zM_c (μ := θ)
    have cm2 : zv_cm θ (zv_grp μ k) := cm2
    have edrm : zv_drm θ k b (zv_grp μ k) = zv_drm μ k b (zv_grp μ k) := funext fun j => by
      unfold zv_drm
      rw [x2 235 j (by decide) (by decide), x2 236 j (by decide) (by decide), x2 232 b (by decide) (by decide), x2 233 b (by decide) (by decide)]
    generalize hfit : zu_fit ξ 6 u2 (μ 232 b) (μ 233 b) = fit at E6
    have S5 : ze_S (D + 27) 9 (some .int) zc_X6_drag 184 L4 [] (zm_mk θ1) 213 (zi_set (zi_set L4 7 (.int (if fit = true then 1 else 0))) 8 (.int (nI 0))) [] (zm_mk θ) := by
      have nl := nl4
      refine ⟨N5 + N6, 16, fun F m hF => ?_⟩
      simp (maxDischargeDepth := 9) [zg_0, zg_aload_n, zg_baload, zg_bastore, zg_bipush, zg_getfield, zg_goto, zg_iaload, zg_iastore, zg_iconst, zg_ifCond, zg_if_icmp, zg_iinc, zg_iload, zg_iload_n, zg_invokestatic, zg_invokevirtual, zg_irem, zg_ireturn, zg_istore, zg_ldc, zf_X6_drag, zi_ld, zi_lda, zi_cmp, zi_retOk, zi_isI, zi_f3, zi_cr, zi_ci, zi_cn, zi_get_ne, zi_nl_i, zi_nl_r, zi_get_set_eq, nl, b0, b1, b3, b4, b5, h6, cM1, cM2, zM_g, zq_Mod_spread, zq_Mod_fits, E5 F (by omega), E6 F (by omega), zm_iald (k := 0) zM_A232 ib, zm_iald (k := 0) zM_A233 ib, cb, x2 232 b (by decide) (by decide), x2 233 b (by decide) (by decide), nI_0]
    have dg : ∃ L6 good, ze_S (D + 27) 9 (some .int) zc_X6_drag 213 (zi_set (zi_set L4 7 (.int (if fit = true then 1 else 0))) 8 (.int (nI 0))) [] (zm_mk θ) 284 L6 [] (zm_mk θ) ∧ zi_nl L6 = true ∧ zi_get L6 0 = some (.ref 232) ∧ zi_get L6 1 = some (.int (nI k)) ∧ zi_get L6 4 = some (.int (nI a)) ∧ zi_get L6 5 = some (.int (nI b)) ∧ zi_get L6 7 = some (.int (if good = true then 1 else 0)) ∧ (good = true ↔ fit = true ∧ (a = b ∨ ∀ j, j < 10 → zv_drm μ k b (zv_grp μ k) j = true)) := by
      have nl := nl4
      by_cases c : a = b
      · have c' : nI a = nI b := by rw [c]
        have c1 : ¬ (10 : Int32) ≤ nI 0 := by decide
        refine ⟨zi_set (zi_set L4 7 (.int (if fit = true then 1 else 0))) 8 (.int (nI 0)), fit, ⟨0, 6, fun F m hF => ?_⟩, by simp (maxDischargeDepth := 9) [zi_get_ne, zi_nl_i, zi_nl_r, zi_get_set_eq, nl], by simp (maxDischargeDepth := 9) [zi_get_ne, zi_nl_i, zi_nl_r, zi_get_set_eq, nl, b0], by simp (maxDischargeDepth := 9) [zi_get_ne, zi_nl_i, zi_nl_r, zi_get_set_eq, nl, b1], by simp (maxDischargeDepth := 9) [zi_get_ne, zi_nl_i, zi_nl_r, zi_get_set_eq, nl, b4], by simp (maxDischargeDepth := 9) [zi_get_ne, zi_nl_i, zi_nl_r, zi_get_set_eq, nl, b5], by simp (maxDischargeDepth := 9) [zi_get_ne, zi_nl_i, zi_nl_r, zi_get_set_eq, nl], ⟨fun z => ⟨z, Or.inl c⟩, fun z => z.1⟩⟩
        simp (maxDischargeDepth := 9) [zg_0, zg_aload_n, zg_baload, zg_bastore, zg_bipush, zg_getfield, zg_goto, zg_iaload, zg_iastore, zg_iconst, zg_ifCond, zg_if_icmp, zg_iinc, zg_iload, zg_iload_n, zg_invokestatic, zg_invokevirtual, zg_irem, zg_ireturn, zg_istore, zg_ldc, zf_X6_drag, zi_ld, zi_lda, zi_cmp, zi_retOk, zi_isI, zi_f3, zi_cr, zi_ci, zi_cn, zi_get_ne, zi_nl_i, zi_nl_r, zi_get_set_eq, nl, b0, b1, b4, b5, h10, c1, c']
      · obtain ⟨L6, h', S, nl6, p0, p1, p4, p5, p7, rfl⟩ := zv_dgB (μ := θ) (D + 26) hk ha hb c cm2 fit (zi_set (zi_set L4 7 (.int (if fit = true then 1 else 0))) 8 (.int (nI 0))) (by simp (maxDischargeDepth := 9) [zi_get_ne, zi_nl_i, zi_nl_r, zi_get_set_eq, nl]) (by simp (maxDischargeDepth := 9) [zi_get_ne, zi_nl_i, zi_nl_r, zi_get_set_eq, nl, b0]) (by simp (maxDischargeDepth := 9) [zi_get_ne, zi_nl_i, zi_nl_r, zi_get_set_eq, nl, b1]) (by simp (maxDischargeDepth := 9) [zi_get_ne, zi_nl_i, zi_nl_r, zi_get_set_eq, nl, b4]) (by simp (maxDischargeDepth := 9) [zi_get_ne, zi_nl_i, zi_nl_r, zi_get_set_eq, nl, b5]) (by simp (maxDischargeDepth := 9) [zi_get_ne, zi_nl_i, zi_nl_r, zi_get_set_eq, nl]) zi_get_set_eq
        rw [edrm] at p7
        exact ⟨L6, _, S, nl6, p0, p1, p4, p5, p7, (zv_gd_iff 10).trans (and_congr Iff.rfl ⟨fun z => Or.inr z, fun z => z.resolve_left c⟩)⟩
    obtain ⟨L6, good, S6, nl6, p0, p1, p4, p5, p7, hg⟩ := dg
    have SS := S0.trans (S1.trans (S2.trans (S3.trans (S4.trans (S5.trans S6)))))
    cases good with
    | false =>
      have p7 : zi_get L6 7 = some (.int 0) := p7
      have hng : ¬ (fit = true ∧ (a = b ∨ ∀ j, j < 10 → zv_drm μ k b (zv_grp μ k) j = true)) := fun z => by cases hg.mpr z
      refine ⟨θ, -1000000002, ze_in [(0, .ref 232), (1, .int w), (2, .int x), (3, .int y)] zq_Mod_drag (Nat.le_of_ble_eq_true rfl) rfl (SS.end ⟨0, 4, fun F m hF => by simp [zg_0, zg_aload_n, zg_baload, zg_bastore, zg_bipush, zg_getfield, zg_goto, zg_iaload, zg_iastore, zg_iconst, zg_ifCond, zg_if_icmp, zg_iinc, zg_iload, zg_iload_n, zg_invokestatic, zg_invokevirtual, zg_irem, zg_ireturn, zg_istore, zg_ldc, zf_X6_drag, zi_ld, zi_lda, zi_cmp, zi_retOk, zi_isI, zi_f3, zi_cr, zi_ci, zi_cn, p7, n2]⟩), Or.inr ⟨k, o, sd, a, b, ξ, u2, hd, ha, hb, hka, hob, fξ, ⟨μ0, u', n, d1, at1, d2⟩, Or.inl ⟨?_, fun c d r1 r2 => (f0 c d r1).trans (fξ c d r2)⟩⟩⟩
      rw [hfit]
      cases fit with
      | false => exact Or.inl rfl
      | true => exact Or.inr ⟨fun e => hng ⟨rfl, Or.inl e⟩, fun e => hng ⟨rfl, Or.inr e⟩⟩
    | true =>
      have p7 : zi_get L6 7 = some (.int 1) := p7
      have n10 : ¬ (1 : Int32) = 0 := by decide
      obtain ⟨ν, ν6, ua, G, q1, q2⟩ := zv_dg3 D h hk ha hb hkt hka atk fξ f0 hI2 at2 cm2 L6 nl6 p0 p1 p4 p5
      have S7 : ze_S (D + 27) 9 (some .int) zc_X6_drag 284 L6 [] (zm_mk θ) 292 L6 [] (zm_mk θ) := by
        refine ⟨0, 2, fun F m hF => ?_⟩
        simp [zg_0, zg_aload_n, zg_baload, zg_bastore, zg_bipush, zg_getfield, zg_goto, zg_iaload, zg_iastore, zg_iconst, zg_ifCond, zg_if_icmp, zg_iinc, zg_iload, zg_iload_n, zg_invokestatic, zg_invokevirtual, zg_irem, zg_ireturn, zg_istore, zg_ldc, zf_X6_drag, zi_ld, zi_lda, zi_cmp, zi_retOk, zi_isI, zi_f3, zi_cr, zi_ci, zi_cn, p7, n10]
      refine ⟨ν, 0, ze_in [(0, .ref 232), (1, .int w), (2, .int x), (3, .int y)] zq_Mod_drag (Nat.le_of_ble_eq_true rfl) rfl (SS.end (S7.end G)), Or.inr ⟨k, o, sd, a, b, ξ, u2, hd, ha, hb, hka, hob, fξ, ⟨μ0, u', n, d1, at1, d2⟩, Or.inr ⟨?_, ν6, ua, q1, q2⟩⟩⟩
      rw [hfit]
      exact hg.mp rfl
end ZWP
end
section
/-! the reference: open, its pieces -/
/-- what open may be asked -/
noncomputable def zv_oarg (μ : zm_M) (kd w v o : Int32) : Prop := ((1 ≤ kd ∧ kd ≤ 4) ∧ (1 ≤ w ∧ w ≤ 200) ∧ 1 ≤ v ∧ v ≤ 200) ∧ (kd = 3 → ∃ j, j < 10 ∧ o = nI j ∧ ¬ μ 234 j = 0) ∧ (¬ kd = 3 → o = -1)
/-- the screen that a new window comes to, if there is one -/
noncomputable def zv_osc (μ : zm_M) (row : List Nat) (kd o : Int32) : Int32 := if kd = 3 then (if μ 234 o.toNatClampNeg = 4 then -1 else μ 238 o.toNatClampNeg) else zv_sah μ row
section ZWQ
variable {μ ν : zm_M} {row stk : List Nat} {us : Nat → zy_F}
set_option maxRecDepth 100000 in
theorem zv_op0 (D : Nat) (h : zR μ row stk us) (kd w v o : Int32) : (zv_oarg μ kd w v o ∧ ∃ g, ze_S (D + 3) 10 (some .int) zc_X6_open 0 [(0, .ref 232), (1, .int kd), (2, .int w), (3, .int v), (4, .int o)] [] (zm_mk μ) 69 [(5, .int g), (0, .ref 232), (1, .int kd), (2, .int w), (3, .int v), (4, .int o)] [] (zm_mk μ)) ∨
    (¬ zv_oarg μ kd w v o ∧ ze_G (D + 3) 10 (some .int) zc_X6_open 0 [(0, .ref 232), (1, .int kd), (2, .int w), (3, .int v), (4, .int o)] [] (zm_mk μ) (some (.int (-1000000001))) (zm_mk μ)) := by
  have n1 : Int32.ofInt (-1000000001) = -1000000001 := by decide
  have h200 : (Int16.ofInt 200).toInt32 = (200 : Int32) := by decide
  have n10 : ¬ (1 : Int32) = 0 := by decide
  obtain ⟨lc, cM⟩ := zM_c (μ := μ)
  obtain ⟨N1, E1⟩ := ze_isIn (h := zm_mk μ) (D + 2) kd 1 4
  obtain ⟨N2, E2⟩ := ze_isIn (h := zm_mk μ) (D + 2) w 1 200
  obtain ⟨N3, E3⟩ := ze_isIn (h := zm_mk μ) (D + 2) v 1 200
  by_cases c1 : 1 ≤ kd ∧ kd ≤ 4
  · rw [if_pos c1] at E1
    by_cases c2 : 1 ≤ w ∧ w ≤ 200
    · rw [if_pos c2] at E2
      by_cases c3 : 1 ≤ v ∧ v ≤ 200
      · rw [if_pos c3] at E3
        have S1 : ze_S (D + 3) 10 (some .int) zc_X6_open 0 [(0, .ref 232), (1, .int kd), (2, .int w), (3, .int v), (4, .int o)] [] (zm_mk μ) 43 [(5, .int 1), (0, .ref 232), (1, .int kd), (2, .int w), (3, .int v), (4, .int o)] [] (zm_mk μ) := by
          refine ⟨N1 + N2 + N3, 20, fun F n hF => ?_⟩
          simp [zg_0, zg_aload_n, zg_bipush, zg_getfield, zg_goto, zg_iadd, zg_iaload, zg_iastore, zg_iconst, zg_ifCond, zg_if_icmp, zg_iload, zg_iload_n, zg_imul, zg_invokestatic, zg_invokevirtual, zg_ireturn, zg_istore, zg_isub, zg_ldc, zg_sipush, zf_X6_open, zi_ld, zi_lda, zi_cmp, zi_retOk, zi_isI, zi_f3, zi_cr, zi_ci, zi_cn, zi_get, zi_set, h200, n10, zq_Mod_isIn, E1 F (by omega), E2 F (by omega), E3 F (by omega)]
        by_cases c4 : kd = 3
        · rcases zR_win (D + 1) h o with ⟨j, hj, rfl, j0, N4, E4⟩ | ⟨⟨N4, E4⟩, hno⟩
          · refine Or.inl ⟨⟨⟨c1, c2, c3⟩, fun _ => ⟨j, hj, rfl, j0⟩, fun z => absurd c4 z⟩, 1, S1.trans ⟨N4, 7, fun F n hF => ?_⟩⟩
            simp [zg_0, zg_aload_n, zg_bipush, zg_getfield, zg_goto, zg_iadd, zg_iaload, zg_iastore, zg_iconst, zg_ifCond, zg_if_icmp, zg_iload, zg_iload_n, zg_imul, zg_invokestatic, zg_invokevirtual, zg_ireturn, zg_istore, zg_isub, zg_ldc, zg_sipush, zf_X6_open, zi_ld, zi_lda, zi_cmp, zi_retOk, zi_isI, zi_f3, zi_cr, zi_ci, zi_cn, zi_get, zi_set, cM, zq_Mod_isWindow, E4 F (by omega), c4]
          · refine Or.inr ⟨fun z => ?_, S1.end ⟨N4, 10, fun F n hF => ?_⟩⟩
            · obtain ⟨j, hj, e, j0⟩ := z.2.1 c4
              exact j0 (hno j hj e)
            · simp [zg_0, zg_aload_n, zg_bipush, zg_getfield, zg_goto, zg_iadd, zg_iaload, zg_iastore, zg_iconst, zg_ifCond, zg_if_icmp, zg_iload, zg_iload_n, zg_imul, zg_invokestatic, zg_invokevirtual, zg_ireturn, zg_istore, zg_isub, zg_ldc, zg_sipush, zf_X6_open, zi_ld, zi_lda, zi_cmp, zi_retOk, zi_isI, zi_f3, zi_cr, zi_ci, zi_cn, zi_get, zi_set, cM, zq_Mod_isWindow, E4 F (by omega), c4, n1]
        · by_cases c5 : o = -1
          · refine Or.inl ⟨⟨⟨c1, c2, c3⟩, fun z => absurd z c4, fun _ => c5⟩, 1, S1.trans ⟨0, 6, fun F n hF => ?_⟩⟩
            simp [zg_0, zg_aload_n, zg_bipush, zg_getfield, zg_goto, zg_iadd, zg_iaload, zg_iastore, zg_iconst, zg_ifCond, zg_if_icmp, zg_iload, zg_iload_n, zg_imul, zg_invokestatic, zg_invokevirtual, zg_ireturn, zg_istore, zg_isub, zg_ldc, zg_sipush, zf_X6_open, zi_ld, zi_lda, zi_cmp, zi_retOk, zi_isI, zi_f3, zi_cr, zi_ci, zi_cn, zi_get, zi_set, c4, c5]
          · refine Or.inr ⟨fun z => c5 (z.2.2 c4), S1.end ⟨0, 8, fun F n hF => ?_⟩⟩
            simp [zg_0, zg_aload_n, zg_bipush, zg_getfield, zg_goto, zg_iadd, zg_iaload, zg_iastore, zg_iconst, zg_ifCond, zg_if_icmp, zg_iload, zg_iload_n, zg_imul, zg_invokestatic, zg_invokevirtual, zg_ireturn, zg_istore, zg_isub, zg_ldc, zg_sipush, zf_X6_open, zi_ld, zi_lda, zi_cmp, zi_retOk, zi_isI, zi_f3, zi_cr, zi_ci, zi_cn, zi_get, zi_set, c4, c5, n1]
      · rw [if_neg c3] at E3
        refine Or.inr ⟨fun z => c3 z.1.2.2, N1 + N2 + N3, 21, fun F n hF => ?_⟩
        simp [zg_0, zg_aload_n, zg_bipush, zg_getfield, zg_goto, zg_iadd, zg_iaload, zg_iastore, zg_iconst, zg_ifCond, zg_if_icmp, zg_iload, zg_iload_n, zg_imul, zg_invokestatic, zg_invokevirtual, zg_ireturn, zg_istore, zg_isub, zg_ldc, zg_sipush, zf_X6_open, zi_ld, zi_lda, zi_cmp, zi_retOk, zi_isI, zi_f3, zi_cr, zi_ci, zi_cn, zi_get, zi_set, h200, zq_Mod_isIn, E1 F (by omega), E2 F (by omega), E3 F (by omega), n1]
    · rw [if_neg c2] at E2
      refine Or.inr ⟨fun z => c2 z.1.2.1, N1 + N2, 16, fun F n hF => ?_⟩
      simp [zg_0, zg_aload_n, zg_bipush, zg_getfield, zg_goto, zg_iadd, zg_iaload, zg_iastore, zg_iconst, zg_ifCond, zg_if_icmp, zg_iload, zg_iload_n, zg_imul, zg_invokestatic, zg_invokevirtual, zg_ireturn, zg_istore, zg_isub, zg_ldc, zg_sipush, zf_X6_open, zi_ld, zi_lda, zi_cmp, zi_retOk, zi_isI, zi_f3, zi_cr, zi_ci, zi_cn, zi_get, zi_set, h200, zq_Mod_isIn, E1 F (by omega), E2 F (by omega), n1]
  · rw [if_neg c1] at E1
    refine Or.inr ⟨fun z => c1 z.1.1, N1, 11, fun F n hF => ?_⟩
    simp [zg_0, zg_aload_n, zg_bipush, zg_getfield, zg_goto, zg_iadd, zg_iaload, zg_iastore, zg_iconst, zg_ifCond, zg_if_icmp, zg_iload, zg_iload_n, zg_imul, zg_invokestatic, zg_invokevirtual, zg_ireturn, zg_istore, zg_isub, zg_ldc, zg_sipush, zf_X6_open, zi_ld, zi_lda, zi_cmp, zi_retOk, zi_isI, zi_f3, zi_cr, zi_ci, zi_cn, zi_get, zi_set, zq_Mod_isIn, E1 F (by omega), n1]
theorem zv_sah_or (h : zR μ row stk us) : ∀ l : List Nat, (∀ j ∈ l, j ∈ row) → zv_sah μ l = -1 ∨ ∃ s, s < 3 ∧ zv_sah μ l = nI s ∧ 0 < μ 232 s
  | [], _ => by
    show zv_lsb μ = -1 ∨ ∃ s, s < 3 ∧ zv_lsb μ = nI s ∧ 0 < μ 232 s
    unfold zv_lsb
    rcases zl_fi_spec (fun s => decide (0 < μ 232 s)) (-1) 3 0 with ⟨k, _, hk, p, _, e⟩ | ⟨_, e⟩
    · exact Or.inr ⟨k, by omega, e, of_decide_eq_true p⟩
    · exact Or.inl e
  | k :: l, hm => by
    have hk := (h.2.1.2.2 k).mp (hm k (List.mem_cons_self ..))
    show (if μ 234 k = 4 then zv_sah μ l else μ 238 k) = -1 ∨ ∃ s, s < 3 ∧ (if μ 234 k = 4 then zv_sah μ l else μ 238 k) = nI s ∧ 0 < μ 232 s
    by_cases c : μ 234 k = 4
    · rw [if_pos c]
      exact zv_sah_or h l (fun j hj => hm j (List.mem_cons_of_mem _ hj))
    · rw [if_neg c]
      obtain ⟨s, h1, h2, h3, -⟩ := h.2.2.2.2.2.1 k hk.1 hk.2 c
      exact Or.inr ⟨s, h1, h2, h3⟩
set_option maxRecDepth 100000 in
/-- 69 to 127: the number and the screen -/
theorem zv_op1 (D : Nat) (h : zR μ row stk us) {kd w v o g : Int32} (ha : zv_oarg μ kd w v o) : (((∀ j, j < 10 → ¬ μ 234 j = 0) ∨ zv_osc μ row kd o = -1) ∧ ∃ r, ze_G (D + 3) 10 (some .int) zc_X6_open 69 [(5, .int g), (0, .ref 232), (1, .int kd), (2, .int w), (3, .int v), (4, .int o)] [] (zm_mk μ) (some (.int r)) (zm_mk μ)) ∨
    ∃ k s, k < 10 ∧ s < 3 ∧ μ 234 k = 0 ∧ (∀ j, j < k → ¬ μ 234 j = 0) ∧ zv_osc μ row kd o = nI s ∧ 0 < μ 232 s ∧ ze_S (D + 3) 10 (some .int) zc_X6_open 69 [(5, .int g), (0, .ref 232), (1, .int kd), (2, .int w), (3, .int v), (4, .int o)] [] (zm_mk μ) 127 [(7, .int (nI s)), (6, .int (nI k)), (5, .int g), (0, .ref 232), (1, .int kd), (2, .int w), (3, .int v), (4, .int o)] [] (zm_mk μ) := by
  have n2 : Int32.ofInt (-1000000002) = -1000000002 := by decide
  have n3 : Int32.ofInt (-1000000003) = -1000000003 := by decide
  have m1 : ¬ (0 : Int32) ≤ -1 := by decide
  obtain ⟨lc, cM⟩ := zM_c (μ := μ)
  obtain ⟨N1, E1⟩ := ze_MfreeNumber (μ := μ) (D + 2)
  rcases zl_fi_spec (fun k => decide (μ 234 k = 0)) (-1) 10 0 with ⟨k, _, hk, p, q, e⟩ | ⟨q, e⟩
  · have hk : k < 10 := by omega
    rw [e] at E1
    have p : μ 234 k = 0 := of_decide_eq_true p
    have q : ∀ j, j < k → ¬ μ 234 j = 0 := fun j hj => of_decide_eq_false (q j (Nat.zero_le _) hj)
    have m2 : (0 : Int32) ≤ nI k := Int32.not_lt.mp (nI_pos (by omega))
    by_cases c4 : kd = 3
    · obtain ⟨j, hj, rfl, j0⟩ := ha.2.1 c4
      have ij : zi_in (nI j) 10 = true := zm_in hj (by decide)
      have cj : (nI j).toNatClampNeg = j := nI_clamp (by omega)
      have eo : zv_osc μ row kd (nI j) = if μ 234 j = 4 then -1 else μ 238 j := by
        unfold zv_osc
        rw [if_pos c4, cj]
      by_cases c5 : μ 234 j = 4
      · rw [if_pos c5] at eo
        refine Or.inl ⟨Or.inr eo, -1000000002, N1, 21, fun F n hF => ?_⟩
        simp [zg_0, zg_aload_n, zg_bipush, zg_getfield, zg_goto, zg_iadd, zg_iaload, zg_iastore, zg_iconst, zg_ifCond, zg_if_icmp, zg_iload, zg_iload_n, zg_imul, zg_invokestatic, zg_invokevirtual, zg_ireturn, zg_istore, zg_isub, zg_ldc, zg_sipush, zf_X6_open, zi_ld, zi_lda, zi_cmp, zi_retOk, zi_isI, zi_f3, zi_cr, zi_ci, zi_cn, zi_get, zi_set, zM_g, cM, zq_Mod_freeNumber, E1 F (by omega), m2, c4, zm_iald (k := 0) zM_A234 ij, cj, c5, m1, n2]
      · rw [if_neg c5] at eo
        obtain ⟨s, hs, hh, h3, -⟩ := h.2.2.2.2.2.1 j hj j0 c5
        have m3 : (0 : Int32) ≤ nI s := Int32.not_lt.mp (nI_pos (by omega))
        refine Or.inr ⟨k, s, hk, hs, p, q, eo.trans hh, h3, N1, 22, fun F n hF => ?_⟩
        simp [zg_0, zg_aload_n, zg_bipush, zg_getfield, zg_goto, zg_iadd, zg_iaload, zg_iastore, zg_iconst, zg_ifCond, zg_if_icmp, zg_iload, zg_iload_n, zg_imul, zg_invokestatic, zg_invokevirtual, zg_ireturn, zg_istore, zg_isub, zg_ldc, zg_sipush, zf_X6_open, zi_ld, zi_lda, zi_cmp, zi_retOk, zi_isI, zi_f3, zi_cr, zi_ci, zi_cn, zi_get, zi_set, zM_g, cM, zq_Mod_freeNumber, E1 F (by omega), m2, c4, zm_iald (k := 0) zM_A234 ij, zm_iald (k := 0) zM_A238 ij, cj, c5, hh, m3]
    · have eo : zv_osc μ row kd o = zv_sah μ row := if_neg c4
      obtain ⟨N2, E2⟩ := ze_MscreenAtHand (μ := μ) (D + 2) h.2.1.1 (fun x hx => ((h.2.1.2.2 x).mp hx).1)
      rcases zv_sah_or h row (fun _ hj => hj) with es | ⟨s, hs, es, h3⟩
      · rw [es] at E2 eo
        refine Or.inl ⟨Or.inr eo, -1000000002, N1 + N2, 15, fun F n hF => ?_⟩
        simp [zg_0, zg_aload_n, zg_bipush, zg_getfield, zg_goto, zg_iadd, zg_iaload, zg_iastore, zg_iconst, zg_ifCond, zg_if_icmp, zg_iload, zg_iload_n, zg_imul, zg_invokestatic, zg_invokevirtual, zg_ireturn, zg_istore, zg_isub, zg_ldc, zg_sipush, zf_X6_open, zi_ld, zi_lda, zi_cmp, zi_retOk, zi_isI, zi_f3, zi_cr, zi_ci, zi_cn, zi_get, zi_set, cM, zq_Mod_freeNumber, zq_Mod_screenAtHand, E1 F (by omega), E2 F (by omega), m2, c4, m1, n2]
      · rw [es] at E2 eo
        have m3 : (0 : Int32) ≤ nI s := Int32.not_lt.mp (nI_pos (by omega))
        refine Or.inr ⟨k, s, hk, hs, p, q, eo, h3, N1 + N2, 13, fun F n hF => ?_⟩
        simp [zg_0, zg_aload_n, zg_bipush, zg_getfield, zg_goto, zg_iadd, zg_iaload, zg_iastore, zg_iconst, zg_ifCond, zg_if_icmp, zg_iload, zg_iload_n, zg_imul, zg_invokestatic, zg_invokevirtual, zg_ireturn, zg_istore, zg_isub, zg_ldc, zg_sipush, zf_X6_open, zi_ld, zi_lda, zi_cmp, zi_retOk, zi_isI, zi_f3, zi_cr, zi_ci, zi_cn, zi_get, zi_set, cM, zq_Mod_freeNumber, zq_Mod_screenAtHand, E1 F (by omega), E2 F (by omega), m2, c4, m3]
  · rw [e] at E1
    refine Or.inl ⟨Or.inl (fun j hj => of_decide_eq_false (q j (Nat.zero_le _) (by omega))), -1000000003, N1, 7, fun F n hF => ?_⟩
    simp [zg_0, zg_aload_n, zg_bipush, zg_getfield, zg_goto, zg_iadd, zg_iaload, zg_iastore, zg_iconst, zg_ifCond, zg_if_icmp, zg_iload, zg_iload_n, zg_imul, zg_invokestatic, zg_invokevirtual, zg_ireturn, zg_istore, zg_isub, zg_ldc, zg_sipush, zf_X6_open, zi_ld, zi_lda, zi_cmp, zi_retOk, zi_isI, zi_f3, zi_cr, zi_ci, zi_cn, zi_get, zi_set, cM, zq_Mod_freeNumber, E1 F (by omega), m1, n3]
set_option maxRecDepth 100000 in
/-- 293 to 349: where a dialog is put -/
theorem zv_op3 (D : Nat) {j k s : Nat} {M : zm_M} (hj : j < 10) (hk : k < 10) (hs : s < 3) (ha : zv_arg M us j) {w v kd g : Int32} :
    ∃ M' p q L', ze_S (D + 28) 10 (some .int) zc_X6_open 293 [(7, .int (nI s)), (6, .int (nI k)), (5, .int g), (0, .ref 232), (1, .int kd), (2, .int w), (3, .int v), (4, .int (nI j))] [] (zm_mk M) 349 L' [] (zm_mk (zv_put M' k s p q)) ∧ zi_get L' 0 = some (.ref 232) ∧ zi_get L' 6 = some (.int (nI k)) ∧ zM_fr M M' := by
  have a1 : nI 1 = (1 : Int32) := by decide
  have a2 : nI 2 = (2 : Int32) := by decide
  have a3 : nI 3 = (3 : Int32) := by decide
  have a4 : nI 4 = (4 : Int32) := by decide
  obtain ⟨l0, c0⟩ := zM_c (μ := M)
  obtain ⟨M1, v1, ⟨N1, E1⟩, f1⟩ := ze_MareaOfG (μ := M) D hj ha (a := 1) (by decide)
  obtain ⟨l1, c1⟩ := zM_c (μ := M1)
  obtain ⟨M2, v2, ⟨N2, E2⟩, f2⟩ := ze_MareaOfG (μ := M1) D hj (ha.fr f1) (a := 3) (by decide)
  obtain ⟨l2, c2⟩ := zM_c (μ := M2)
  obtain ⟨M3, v3, ⟨N3, E3⟩, f3⟩ := ze_MareaOfG (μ := M2) D hj ((ha.fr f1).fr f2) (a := 2) (by decide)
  obtain ⟨l3, c3⟩ := zM_c (μ := M3)
  obtain ⟨M4, v4, ⟨N4, E4⟩, f4⟩ := ze_MareaOfG (μ := M3) D hj (((ha.fr f1).fr f2).fr f3) (a := 4) (by decide)
  obtain ⟨l4, c4⟩ := zM_c (μ := M4)
  rw [a1] at E1
  rw [a3] at E2
  rw [a2] at E3
  rw [a4] at E4
  obtain ⟨d1, hd1⟩ := zv_opq v2 w
  obtain ⟨d2, hd2⟩ := zv_opq v4 v
  obtain ⟨r1, N5, E5⟩ := ze_Mhalf (h := zm_mk M2) (D + 27) d1
  obtain ⟨r2, N6, E6⟩ := ze_Mhalf (h := zm_mk M4) (D + 27) d2
  obtain ⟨x, hx⟩ : ∃ x, v1 + r1 = x := ⟨_, rfl⟩
  obtain ⟨y, hy⟩ : ∃ y, v3 + r2 = y := ⟨_, rfl⟩
  obtain ⟨p, q, ⟨N7, E7⟩, -, -⟩ := ze_MputAt (μ := M4) (D + 26) hk hs x y
  have S1 : ze_S (D + 28) 10 (some .int) zc_X6_open 293 [(7, .int (nI s)), (6, .int (nI k)), (5, .int g), (0, .ref 232), (1, .int kd), (2, .int w), (3, .int v), (4, .int (nI j))] [] (zm_mk M) 315 [(8, .int x), (7, .int (nI s)), (6, .int (nI k)), (5, .int g), (0, .ref 232), (1, .int kd), (2, .int w), (3, .int v), (4, .int (nI j))] [] (zm_mk M2) := by
    refine ⟨N1 + N2 + N5, 13, fun F m hF => ?_⟩
    simp [zg_0, zg_aload_n, zg_bipush, zg_getfield, zg_goto, zg_iadd, zg_iaload, zg_iastore, zg_iconst, zg_ifCond, zg_if_icmp, zg_iload, zg_iload_n, zg_imul, zg_invokestatic, zg_invokevirtual, zg_ireturn, zg_istore, zg_isub, zg_ldc, zg_sipush, zf_X6_open, zi_ld, zi_lda, zi_cmp, zi_retOk, zi_isI, zi_f3, zi_cr, zi_ci, zi_cn, zi_get, zi_set, c0, c1, zq_Mod_areaOf, zq_Mod_half, E1 F (by omega), E2 F (by omega), E5 F (by omega), hd1, hx]
  have S2 : ze_S (D + 28) 10 (some .int) zc_X6_open 315 [(8, .int x), (7, .int (nI s)), (6, .int (nI k)), (5, .int g), (0, .ref 232), (1, .int kd), (2, .int w), (3, .int v), (4, .int (nI j))] [] (zm_mk M2) 337 [(9, .int y), (8, .int x), (7, .int (nI s)), (6, .int (nI k)), (5, .int g), (0, .ref 232), (1, .int kd), (2, .int w), (3, .int v), (4, .int (nI j))] [] (zm_mk M4) := by
    refine ⟨N3 + N4 + N6, 13, fun F m hF => ?_⟩
    simp [zg_0, zg_aload_n, zg_bipush, zg_getfield, zg_goto, zg_iadd, zg_iaload, zg_iastore, zg_iconst, zg_ifCond, zg_if_icmp, zg_iload, zg_iload_n, zg_imul, zg_invokestatic, zg_invokevirtual, zg_ireturn, zg_istore, zg_isub, zg_ldc, zg_sipush, zf_X6_open, zi_ld, zi_lda, zi_cmp, zi_retOk, zi_isI, zi_f3, zi_cr, zi_ci, zi_cn, zi_get, zi_set, c2, c3, zq_Mod_areaOf, zq_Mod_half, E3 F (by omega), E4 F (by omega), E6 F (by omega), hd2, hy]
  refine ⟨M4, p, q, [(9, .int y), (8, .int x), (7, .int (nI s)), (6, .int (nI k)), (5, .int g), (0, .ref 232), (1, .int kd), (2, .int w), (3, .int v), (4, .int (nI j))], S1.trans (S2.trans ⟨N7, 6, fun F m hF => ?_⟩), rfl, rfl, ((f1.trans f2).trans f3).trans f4⟩
  simp [zg_0, zg_aload_n, zg_bipush, zg_getfield, zg_goto, zg_iadd, zg_iaload, zg_iastore, zg_iconst, zg_ifCond, zg_if_icmp, zg_iload, zg_iload_n, zg_imul, zg_invokestatic, zg_invokevirtual, zg_ireturn, zg_istore, zg_isub, zg_ldc, zg_sipush, zf_X6_open, zi_ld, zi_lda, zi_cmp, zi_retOk, zi_isI, zi_f3, zi_cr, zi_ci, zi_cn, zi_get, zi_set, c4, zq_Mod_putAt, E7 F (by omega)]
end ZWQ
end
section
/-! the reference: a new window tiled -/
noncomputable def zv_tlN (μ ν : zm_M) (s k m : Nat) (ac : Bool) (u u' : zy_F) (b : Int32) : Prop :=
  ∃ ξ1 ab1 c1 f1, zu_isCut (zu_cq μ s 6 24 240) 6 u m k (if ac = true then 0 else 1) false ξ1 ab1 c1 f1 ∧ zu_fr 6 μ ξ1 ∧
    ((zu_fit ξ1 6 (zy_cut m c1 f1 u) (μ 232 s) (μ 233 s) = true ∧ b = 1 ∧ ν = zu_cq ξ1 6 s 24 240 ∧ u' = zy_cut m c1 f1 u) ∨
     (zu_fit ξ1 6 (zy_cut m c1 f1 u) (μ 232 s) (μ 233 s) = false ∧ ∃ ξ2 ab2 c2 f2, zu_isCut (zu_cq ξ1 s 6 24 240) 6 u m k (if ac = true then 1 else 0) false ξ2 ab2 c2 f2 ∧ zu_fr 6 ξ1 ξ2 ∧
       ((zu_fit ξ2 6 (zy_cut m c2 f2 u) (μ 232 s) (μ 233 s) = true ∧ b = 1 ∧ ν = zu_cq ξ2 6 s 24 240 ∧ u' = zy_cut m c2 f2 u) ∨
        (zu_fit ξ2 6 (zy_cut m c2 f2 u) (μ 232 s) (μ 233 s) = false ∧ ∃ ξ3 ab3, zu_isTab (zu_cq ξ2 s 6 24 240) 6 u ab3 m k ξ3 ∧ zu_fr 6 ξ2 ξ3 ∧
          ((zu_fit ξ3 6 u (μ 232 s) (μ 233 s) = true ∧ b = 1 ∧ ν = zu_cq ξ3 6 s 24 240 ∧ u' = u) ∨ (zu_fit ξ3 6 u (μ 232 s) (μ 233 s) = false ∧ b = 0 ∧ ν = ξ3))))))
noncomputable def zv_tl0 (μ ν : zm_M) (s k : Nat) (u' : zy_F) (b : Int32) : Prop :=
  ∃ ξ f, zu_isNew μ 6 k ξ f ∧ ((zu_fit ξ 6 (.tag f .nil) (μ 232 s) (μ 233 s) = true ∧ b = 1 ∧ ν = zu_cq ξ 6 s 24 240 ∧ u' = .tag f .nil) ∨ (zu_fit ξ 6 (.tag f .nil) (μ 232 s) (μ 233 s) = false ∧ b = 0 ∧ ν = ξ))
/-- what tile did: u' is the screen's tree then, if b is 1 -/
noncomputable def zv_tl (μ ν : zm_M) (row : List Nat) (u : zy_F) (s k : Nat) (lo : Nat → Nat) (b : Int32) (u' : zy_F) : Prop :=
  (zv_lah μ s lo row = -1 ∧ zv_tl0 μ ν s k u' b) ∨ ∃ m μ1, zv_lah μ s lo row = nI m ∧ m ∈ zy_lvs u ∧ zv_frY μ μ1 ∧ zv_laid μ μ1 s u ∧ zv_tlN μ1 ν s k m (decide (¬ μ1 257 m < μ1 258 m)) u u' b
section ZWR
variable {μ ν M : zm_M} {row stk : List Nat} {us : Nat → zy_F} {u : zy_F} {ab : Nat → Int32} {k s m : Nat} {b : Int32}
/-- what is known of the tree when the window has come -/
noncomputable def zv_tlK (M ν : zm_M) (s k : Nat) (b : Int32) (u' : zy_F) : Prop :=
  (b = 0 ∨ b = 1) ∧ (b = 1 → ∃ ab m, zu_I ν s u' ab ∧ zu_at ν s u' k m) ∧ ∀ c d, ¬ (c = 231 ∧ d = 30) → ¬ (255 ≤ c ∧ c ≤ 259) → ¬ zu_in 6 c d → (b = 1 → ¬ zu_in s c d) → ν c d = M c d
theorem zv_tlN_of {ac : Bool} (hs : s < 3) (hk : k < 10) (hI : zu_I μ s u ab) (hm : m ∈ zy_lvs u) (hno : ∀ n ∈ zy_lvs u, k ∉ zu_tb μ s n) (h : zv_tiledN μ ν s k m ac u b) : ∃ u', zv_tlN μ ν s k m ac u u' b ∧ zv_tlK μ ν s k b u' := by
  have hs6 : s ≠ 6 := by omega
  have h6s : (6 : Nat) ≠ s := by omega
  -- the window in a trial tree that is a copy of the screen's
  have nox : ∀ {A : zm_M}, zu_eqT μ s A s → zu_I (zu_cq A s 6 24 240) 6 u ab ∧ ∀ n ∈ zy_lvs u, k ∉ zu_tb (zu_cq A s 6 24 240) 6 n := fun {A} e => by
    have t := e.trans (zu_cq_eqT (μ := A) (f := s) (t := 6))
    exact ⟨t.I hI, fun n hn => by rw [t.tb (zu_I_lt hI hn) (zu_I_tbl hI hn)]; exact hno n hn⟩
  have toS : ∀ {ξ : zm_M} {u' : zy_F} {ab' : Nat → Int32} {f : Nat}, zu_fr 6 μ ξ → zu_I ξ 6 u' ab' → zu_at ξ 6 u' k f → zv_tlK μ (zu_cq ξ 6 s 24 240) s k 1 u' := fun {ξ u' ab' f} fx i a => by
    have t := zu_cq_eqT (μ := ξ) (f := 6) (t := s)
    exact ⟨Or.inr rfl, fun _ => ⟨ab', f, t.I i, zu_at_eqT i t a⟩, fun c d _ _ r3 r4 => (zu_cq_out (r4 rfl)).trans (fx c d r3)⟩
  obtain ⟨ξ1, ab1, c1, f1, p1, p2, p3⟩ := h
  obtain ⟨i1, n1⟩ := nox (zu_eqT.refl (μ := μ) (τ := s))
  rcases p3 with ⟨q1, q2, q3⟩ | ⟨q1, ξ2, ab2, c2, f2, p4, p5, p6⟩
  · refine ⟨zy_cut m c1 f1 u, ⟨ξ1, ab1, c1, f1, p1, p2, Or.inl ⟨q1, q2, q3, rfl⟩⟩, ?_⟩
    rw [q2, q3]
    exact toS p2 p1.1 (zu_isCut_at i1 hm hk n1 p1)
  · obtain ⟨i2, n2⟩ := nox (p2.eqT hs6)
    have p25 := p2.trans p5
    rcases p6 with ⟨r1, r2, r3⟩ | ⟨r1, ξ3, ab3, p7, p8, p9⟩
    · refine ⟨zy_cut m c2 f2 u, ⟨ξ1, ab1, c1, f1, p1, p2, Or.inr ⟨q1, ξ2, ab2, c2, f2, p4, p5, Or.inl ⟨r1, r2, r3, rfl⟩⟩⟩, ?_⟩
      rw [r2, r3]
      exact toS p25 p4.1 (zu_isCut_at i2 hm hk n2 p4)
    · obtain ⟨i3, n3⟩ := nox (p25.eqT hs6)
      have p258 := p25.trans p8
      rcases p9 with ⟨t1, t2, t3⟩ | ⟨t1, t2, t3⟩
      · refine ⟨u, ⟨ξ1, ab1, c1, f1, p1, p2, Or.inr ⟨q1, ξ2, ab2, c2, f2, p4, p5, Or.inr ⟨r1, ξ3, ab3, p7, p8, Or.inl ⟨t1, t2, t3, rfl⟩⟩⟩⟩, ?_⟩
        rw [t2, t3]
        exact toS p258 p7.1 (zu_isTab_at i3 hm hk n3 p7)
      · refine ⟨u, ⟨ξ1, ab1, c1, f1, p1, p2, Or.inr ⟨q1, ξ2, ab2, c2, f2, p4, p5, Or.inr ⟨r1, ξ3, ab3, p7, p8, Or.inr ⟨t1, t2, t3⟩⟩⟩⟩, Or.inl t2, fun e => ?_, fun c d _ _ r3' _ => ?_⟩
        · rw [t2] at e; exact absurd e (by decide)
        · rw [t3]; exact p258 c d r3'
theorem zv_tl0_of (hs : s < 3) (hk : k < 10) (h : zv_tiled0 μ ν s k b) : ∃ u', zv_tl0 μ ν s k u' b ∧ zv_tlK μ ν s k b u' := by
  obtain ⟨ξ, f, p1, p2⟩ := h
  rcases p2 with ⟨q1, q2, q3⟩ | ⟨q1, q2, q3⟩
  · refine ⟨.tag f .nil, ⟨ξ, f, p1, Or.inl ⟨q1, q2, q3, rfl⟩⟩, Or.inr q2, fun _ => ?_, fun c d _ _ r3 r4 => ?_⟩
    · rw [q3]
      have t := zu_cq_eqT (μ := ξ) (f := 6) (t := s)
      exact ⟨_, f, t.I p1.1, zu_at_eqT p1.1 t (zu_isNew_at hk p1)⟩
    · rw [q3, zu_cq_out (r4 q2)]
      exact p1.2.2.2.2 c d r3
  · refine ⟨.nil, ⟨ξ, f, p1, Or.inr ⟨q1, q2, q3⟩⟩, Or.inl q2, fun e => ?_, fun c d _ _ r3 _ => ?_⟩
    · rw [q2] at e; exact absurd e (by decide)
    · rw [q3]; exact p1.2.2.2.2 c d r3
theorem zv_lah_or {lo : Nat → Nat} (hlo : zv_los μ us lo) (hs : s < 3) : ∀ l : List Nat, (∀ j ∈ l, j < 10) → zv_lah μ s lo l = -1 ∨ ∃ m, zv_lah μ s lo l = nI m ∧ m ∈ zy_lvs (us s)
  | [], _ => Or.inl rfl
  | x :: l, hm => by
    show (if μ 234 x = 1 ∧ μ 238 x = nI s then nI (lo x) else zv_lah μ s lo l) = -1 ∨ ∃ m, (if μ 234 x = 1 ∧ μ 238 x = nI s then nI (lo x) else zv_lah μ s lo l) = nI m ∧ m ∈ zy_lvs (us s)
    by_cases c : μ 234 x = 1 ∧ μ 238 x = nI s
    · rw [if_pos c]
      exact Or.inr ⟨lo x, rfl, (hlo s x hs (hm x (List.mem_cons_self ..)) c.1 c.2).1⟩
    · rw [if_neg c]
      exact zv_lah_or hlo hs l (fun j hj => hm j (List.mem_cons_of_mem _ hj))
/-- tile(k, s) of a window that is not there yet; M is the memory but for its sizes -/
theorem zR_tile (D : Nat) (h : zR μ row stk us) (hk : k < 10) (hs : s < 3) (hk0 : μ 234 k = 0) (fM : ∀ c d, c ≠ 235 → c ≠ 236 → M c d = μ c d) :
    ∃ lo ν b u', zv_los M us lo ∧ ze_E (D + 28) A_Mod_tile [.ref 232, .int (nI k), .int (nI s)] (zm_mk M) (some (.int b)) (zm_mk ν) ∧ zv_tl M ν row (us s) s k lo b u' ∧ zv_tlK M ν s k b u' := by
  obtain ⟨lo, hlo⟩ := zR_lo h
  have tT : ∀ q, zu_eqT μ q M q := fun q => zu_eq_in (fun c d r => fM c d (fun z => zu_in_not (Or.inl (by omega)) r) (fun z => zu_in_not (Or.inl (by omega)) r))
  have hloM : zv_los M us lo := fun q j hq hj a b => by
    rw [fM _ _ (by decide) (by decide)] at a b
    obtain ⟨⟨ab, hI⟩, -⟩ := h.2.2.2.2.1 q hq
    exact zu_at_eqT hI (tT q) (hlo q j hq hj a b)
  obtain ⟨⟨ab, hI⟩, hnd, hw⟩ := h.2.2.2.2.1 s hs
  have hIM := (tT s).I hI
  have hndM := zu_nd_eqT hI hnd (tT s)
  have hno : ∀ n ∈ zy_lvs (us s), k ∉ zu_tb M s n := fun n hn z => by
    rw [(tT s).tb (zu_I_lt hI hn) (zu_I_tbl hI hn)] at z
    have := (hw n hn k z).1
    rw [hk0] at this
    exact absurd this (by decide)
  have hR := h.2.1
  have rb : ∀ x ∈ row, x < 10 := fun x hx => ((hR.2.2 x).mp hx).1
  have hRM : zv_L M 242 12 row := ⟨hR.1.1, (fM _ _ (by decide) (by decide)).trans hR.1.2.1, fun j hj => (fM _ _ (by decide) (by decide)).trans (hR.1.2.2 j hj)⟩
  have hsz := h.2.2.2.2.2.2 s hs
  have h0 : 0 ≤ M 232 s := by rw [fM _ _ (by decide) (by decide)]; exact hsz.1
  have h1 : 0 ≤ M 233 s := by rw [fM _ _ (by decide) (by decide)]; exact hsz.2
  rcases zv_lah_or (s := s) hloM hs row rb with el | ⟨m, el, hm⟩
  · obtain ⟨ν, b, E, q⟩ := ze_Mtile0 (μ := M) D hk hs hIM hRM rb (fun j hj a c => hloM s j hs hj a c) el h0 h1
    obtain ⟨u', q1, q2⟩ := zv_tl0_of hs hk q
    exact ⟨lo, ν, b, u', hloM, E, Or.inl ⟨el, q1⟩, q2⟩
  · obtain ⟨M1, ν, b, E, f1, hl, q⟩ := ze_MtileN (μ := M) D hk hs hIM hRM rb (fun j hj a c => hloM s j hs hj a c) el hm (zu_lvs10 hIM hndM).2 (zu_tb9 hIM hndM hm hk (hno m hm)) h0 h1
    have t1 := zv_frY_eqT (τ := s) f1
    obtain ⟨u', q1, q2, q3, q4⟩ := zv_tlN_of hs hk (t1.I hIM) hm (fun n hn z => by
      rw [t1.tb (zu_I_lt hIM hn) (zu_I_tbl hIM hn)] at z
      exact hno n hn z) q
    refine ⟨lo, ν, b, u', hloM, E, Or.inr ⟨m, M1, el, hm, f1, hl, q1⟩, q2, q3, fun c d r1 r2 r3 r4 => (q4 c d r1 r2 r3 r4).trans (f1 c d r1 r2)⟩
end ZWR
end
