/-! the reference: drag, run -/
section ZWP
variable {μ ν : zm_M} {row stk : List Nat} {us : Nat → zy_F}
set_option maxRecDepth 100000 in
theorem ze_Mdrag (D : Nat) (h : zR μ row stk us) (w x y : Int32) : ∃ ν v, ze_E (D + 28) A_Mod_drag [.ref 232, .int w, .int x, .int y] (zm_mk μ) (some (.int v)) (zm_mk ν) ∧ zv_drgd μ ν row stk us w x y := by
  have n2 : Int32.ofInt (-1000000002) = -1000000002 := by decide
  have h6 : (Int8.ofInt 6).toInt32 = (6 : Int32) := by decide
  have q6 : nI 6 = (6 : Int32) := by decide
  have h10 : (Int8.ofInt 10).toInt32 = (10 : Int32) := by decide
  rcases zv_dg0 D h w x y with ⟨hno, v, G⟩ | ⟨k, o, sd, a, b, hd, ha, hb, hka, hob, ⟨mk, atk⟩, ⟨mo, ato⟩, S0⟩
  · exact ⟨μ, v, ze_in [(0, .ref 232), (1, .int w), (2, .int x), (3, .int y)] zq_Mod_drag (Nat.le_of_ble_eq_true rfl) rfl G, Or.inl ⟨hno, rfl⟩⟩
  · obtain ⟨⟨hk, ho, hsd⟩, -, ⟨hkt, hot, hko⟩⟩ := id hd
    obtain ⟨μ0, u', n, ab, S1, d1, f1, hI1, hnd1, hno1, at1⟩ := zv_dg1 (x3 := nI sd) D h hk hko ha hb hka atk ato
    obtain ⟨ξ, u2, ab2, m2, S2, d2, f2, hI2, at2⟩ := zv_dg2 (s := nI a) (t := nI b) D hk ho hsd hI1 hnd1 hno1 at1
    have fξ : zu_fr 6 μ ξ := f1.trans f2
    have hsz := h.2.2.2.2.2.2 b hb
    have ib : zi_in (nI b) 3 = true := zm_in hb (by decide)
    have cb : (nI b).toNatClampNeg = b := nI_clamp (by omega)
    have S3 : ze_S (D + 27) 9 (some .int) zc_X6_drag 150 [(6, .int (nI n)), (5, .int (nI b)), (4, .int (nI a)), (0, .ref 232), (1, .int (nI k)), (2, .int (nI o)), (3, .int (nI sd))] [] (zm_mk ξ) 153 [(7, .int (nI 0)), (6, .int (nI n)), (5, .int (nI b)), (4, .int (nI a)), (0, .ref 232), (1, .int (nI k)), (2, .int (nI o)), (3, .int (nI sd))] [] (zm_mk ξ) := by
      refine ⟨0, 2, fun F m hF => ?_⟩
      simp [zg_0, zg_aload_n, zg_baload, zg_bastore, zg_bipush, zg_getfield, zg_goto, zg_iaload, zg_iastore, zg_iconst, zg_ifCond, zg_if_icmp, zg_iinc, zg_iload, zg_iload_n, zg_invokestatic, zg_invokevirtual, zg_irem, zg_ireturn, zg_istore, zg_ldc, zf_X6_drag, zi_ld, zi_lda, zi_cmp, zi_retOk, zi_isI, zi_f3, zi_cr, zi_ci, zi_cn, zi_get, zi_set, nI_0]
    obtain ⟨L4, h4, S4, nl4, b0, b1, b3, b4, b5, θ1, rfl, cm1, g1⟩ := zv_dgA (μ := ξ) (D + 27) hk (s := nI a) (o := nI b) (x3 := nI sd) [(7, .int (nI 0)), (6, .int (nI n)), (5, .int (nI b)), (4, .int (nI a)), (0, .ref 232), (1, .int (nI k)), (2, .int (nI o)), (3, .int (nI sd))] rfl rfl rfl rfl rfl rfl rfl
    have x1 : ∀ c d, c < 243 ∨ 250 < c → c ≠ 260 → θ1 c d = μ c d := fun c d r1 r2 => (g1 c d r2).trans (fξ c d (zu_in_not r1))
    obtain ⟨θ, ⟨N5, E5⟩, cm2, g2⟩ := ze_Mspread (μ := θ1) (D + 26) cm1 (zv_ow_cells (zR_ow h) (fun c d r => x1 c d (by omega) (by omega)))
    have x2 : ∀ c d, c < 243 ∨ 250 < c → c ≠ 260 → θ c d = μ c d := fun c d r1 r2 => (g2 c d r2).trans (x1 c d r1 r2)
    have f0 : ∀ c d, c ≠ 260 → θ c d = ξ c d := fun c d r => (g2 c d r).trans (g1 c d r)
    have t6 : zu_eqT ξ 6 θ 6 := zu_eq_in (fun c d r => f0 c d (fun z => zu_in_not (Or.inr (by omega)) r))
    have hI2' := t6.I hI2
    have efit : zu_fit θ 6 u2 (μ 232 b) (μ 233 b) = zu_fit ξ 6 u2 (μ 232 b) (μ 233 b) := zu_fit_cells (fun c d r1 r2 => f0 c d (by omega))
    obtain ⟨N6, E6⟩ := ze_Mfits (μ := θ) (D + 1) (τ := 6) (by decide) hI2' hsz.1 hsz.2
    rw [efit, q6] at E6
    obtain ⟨lc1, cM1⟩ := zM_c (μ := θ1)
    obtain ⟨lc2, cM2⟩ := zM_c (μ := θ)
    have cm2 : zv_cm θ (zv_grp μ k) := cm2
    have edrm : zv_drm θ k b (zv_grp μ k) = zv_drm μ k b (zv_grp μ k) := funext fun j => by
      unfold zv_drm
      rw [x2 235 j (by decide) (by decide), x2 236 j (by decide) (by decide), x2 232 b (by decide) (by decide), x2 233 b (by decide) (by decide)]
    generalize hfit : zu_fit ξ 6 u2 (μ 232 b) (μ 233 b) = fit at E6
    have S5 : ze_S (D + 27) 9 (some .int) zc_X6_drag 184 L4 [] (zm_mk θ1) 213 (zi_set (zi_set L4 7 (.int (if fit = true then 1 else 0))) 8 (.int (nI 0))) [] (zm_mk θ) := by
      have nl := nl4
      refine ⟨N5 + N6, 16, fun F m hF => ?_⟩
      simp (maxDischargeDepth := 9) [zg_0, zg_aload_n, zg_baload, zg_bastore, zg_bipush, zg_getfield, zg_goto, zg_iaload, zg_iastore, zg_iconst, zg_ifCond, zg_if_icmp, zg_iinc, zg_iload, zg_iload_n, zg_invokestatic, zg_invokevirtual, zg_irem, zg_ireturn, zg_istore, zg_ldc, zf_X6_drag, zi_ld, zi_lda, zi_cmp, zi_retOk, zi_isI, zi_f3, zi_cr, zi_ci, zi_cn, zi_get_ne, zi_nl_i, zi_nl_r, zi_get_set_eq, nl, b0, b1, b3, b4, b5, h6, cM1, cM2, zM_g, zq_Mod_spread, zq_Mod_fits, E5 F (by omega), E6 F (by omega), zm_iald (k := 0) zM_A232 ib, zm_iald (k := 0) zM_A233 ib, cb, x2 232 b (by decide) (by decide), x2 233 b (by decide) (by decide), nI_0]
    have dg : ∃ L6 good, ze_S (D + 27) 9 (some .int) zc_X6_drag 213 (zi_set (zi_set L4 7 (.int (if fit = true then 1 else 0))) 8 (.int (nI 0))) [] (zm_mk θ) 284 L6 [] (zm_mk θ) ∧ zi_nl L6 = true ∧ zi_get L6 0 = some (.ref 232) ∧ zi_get L6 1 = some (.int (nI k)) ∧ zi_get L6 4 = some (.int (nI a)) ∧ zi_get L6 5 = some (.int (nI b)) ∧ zi_get L6 7 = some (.int (if good = true then 1 else 0)) ∧ (good = true ↔ fit = true ∧ (a = b ∨ ∀ j, j < 10 → zv_drm μ k b (zv_grp μ k) j = true)) := by
      have nl := nl4
      by_cases c : a = b
      · have c' : nI a = nI b := by rw [c]
        have c1 : ¬ (10 : Int32) ≤ nI 0 := by decide
        refine ⟨zi_set (zi_set L4 7 (.int (if fit = true then 1 else 0))) 8 (.int (nI 0)), fit, ⟨0, 6, fun F m hF => ?_⟩, by simp (maxDischargeDepth := 9) [zi_get_ne, zi_nl_i, zi_nl_r, zi_get_set_eq, nl], by simp (maxDischargeDepth := 9) [zi_get_ne, zi_nl_i, zi_nl_r, zi_get_set_eq, nl, b0], by simp (maxDischargeDepth := 9) [zi_get_ne, zi_nl_i, zi_nl_r, zi_get_set_eq, nl, b1], by simp (maxDischargeDepth := 9) [zi_get_ne, zi_nl_i, zi_nl_r, zi_get_set_eq, nl, b4], by simp (maxDischargeDepth := 9) [zi_get_ne, zi_nl_i, zi_nl_r, zi_get_set_eq, nl, b5], by simp (maxDischargeDepth := 9) [zi_get_ne, zi_nl_i, zi_nl_r, zi_get_set_eq, nl], ⟨fun z => ⟨z, Or.inl c⟩, fun z => z.1⟩⟩
        simp (maxDischargeDepth := 9) [zg_0, zg_aload_n, zg_baload, zg_bastore, zg_bipush, zg_getfield, zg_goto, zg_iaload, zg_iastore, zg_iconst, zg_ifCond, zg_if_icmp, zg_iinc, zg_iload, zg_iload_n, zg_invokestatic, zg_invokevirtual, zg_irem, zg_ireturn, zg_istore, zg_ldc, zf_X6_drag, zi_ld, zi_lda, zi_cmp, zi_retOk, zi_isI, zi_f3, zi_cr, zi_ci, zi_cn, zi_get_ne, zi_nl_i, zi_nl_r, zi_get_set_eq, nl, b0, b1, b4, b5, h10, c1, c']
      · obtain ⟨L6, h', S, nl6, p0, p1, p4, p5, p7, rfl⟩ := zv_dgB (μ := θ) (D + 26) hk ha hb c cm2 fit (zi_set (zi_set L4 7 (.int (if fit = true then 1 else 0))) 8 (.int (nI 0))) (by simp (maxDischargeDepth := 9) [zi_get_ne, zi_nl_i, zi_nl_r, zi_get_set_eq, nl]) (by simp (maxDischargeDepth := 9) [zi_get_ne, zi_nl_i, zi_nl_r, zi_get_set_eq, nl, b0]) (by simp (maxDischargeDepth := 9) [zi_get_ne, zi_nl_i, zi_nl_r, zi_get_set_eq, nl, b1]) (by simp (maxDischargeDepth := 9) [zi_get_ne, zi_nl_i, zi_nl_r, zi_get_set_eq, nl, b4]) (by simp (maxDischargeDepth := 9) [zi_get_ne, zi_nl_i, zi_nl_r, zi_get_set_eq, nl, b5]) (by simp (maxDischargeDepth := 9) [zi_get_ne, zi_nl_i, zi_nl_r, zi_get_set_eq, nl]) zi_get_set_eq
        rw [edrm] at p7
        exact ⟨L6, _, S, nl6, p0, p1, p4, p5, p7, (zv_gd_iff 10).trans (and_congr Iff.rfl ⟨fun z => Or.inr z, fun z => z.resolve_left c⟩)⟩
    obtain ⟨L6, good, S6, nl6, p0, p1, p4, p5, p7, hg⟩ := dg
    have SS := S0.trans (S1.trans (S2.trans (S3.trans (S4.trans (S5.trans S6)))))
    cases good with
    | false =>
      have p7 : zi_get L6 7 = some (.int 0) := p7
      have hng : ¬ (fit = true ∧ (a = b ∨ ∀ j, j < 10 → zv_drm μ k b (zv_grp μ k) j = true)) := fun z => by cases hg.mpr z
      refine ⟨θ, -1000000002, ze_in [(0, .ref 232), (1, .int w), (2, .int x), (3, .int y)] zq_Mod_drag (Nat.le_of_ble_eq_true rfl) rfl (SS.end ⟨0, 4, fun F m hF => by simp [zg_0, zg_aload_n, zg_baload, zg_bastore, zg_bipush, zg_getfield, zg_goto, zg_iaload, zg_iastore, zg_iconst, zg_ifCond, zg_if_icmp, zg_iinc, zg_iload, zg_iload_n, zg_invokestatic, zg_invokevirtual, zg_irem, zg_ireturn, zg_istore, zg_ldc, zf_X6_drag, zi_ld, zi_lda, zi_cmp, zi_retOk, zi_isI, zi_f3, zi_cr, zi_ci, zi_cn, p7, n2]⟩), Or.inr ⟨k, o, sd, a, b, ξ, u2, hd, ha, hb, hka, hob, fξ, ⟨μ0, u', n, d1, at1, d2⟩, Or.inl ⟨?_, fun c d r1 r2 => (f0 c d r1).trans (fξ c d r2)⟩⟩⟩
      rw [hfit]
      cases fit with
      | false => exact Or.inl rfl
      | true => exact Or.inr ⟨fun e => hng ⟨rfl, Or.inl e⟩, fun e => hng ⟨rfl, Or.inr e⟩⟩
    | true =>
      have p7 : zi_get L6 7 = some (.int 1) := p7
      have n10 : ¬ (1 : Int32) = 0 := by decide
      obtain ⟨ν, ν6, ua, G, q1, q2⟩ := zv_dg3 D h hk ha hb hkt hka atk fξ f0 hI2 at2 cm2 L6 nl6 p0 p1 p4 p5
      have S7 : ze_S (D + 27) 9 (some .int) zc_X6_drag 284 L6 [] (zm_mk θ) 292 L6 [] (zm_mk θ) := by
        refine ⟨0, 2, fun F m hF => ?_⟩
        simp [zg_0, zg_aload_n, zg_baload, zg_bastore, zg_bipush, zg_getfield, zg_goto, zg_iaload, zg_iastore, zg_iconst, zg_ifCond, zg_if_icmp, zg_iinc, zg_iload, zg_iload_n, zg_invokestatic, zg_invokevirtual, zg_irem, zg_ireturn, zg_istore, zg_ldc, zf_X6_drag, zi_ld, zi_lda, zi_cmp, zi_retOk, zi_isI, zi_f3, zi_cr, zi_ci, zi_cn, p7, n10]
      refine ⟨ν, 0, ze_in [(0, .ref 232), (1, .int w), (2, .int x), (3, .int y)] zq_Mod_drag (Nat.le_of_ble_eq_true rfl) rfl (SS.end (S7.end G)), Or.inr ⟨k, o, sd, a, b, ξ, u2, hd, ha, hb, hka, hob, fξ, ⟨μ0, u', n, d1, at1, d2⟩, Or.inr ⟨?_, ν6, ua, q1, q2⟩⟩⟩
      rw [hfit]
      exact hg.mp rfl
end ZWP
