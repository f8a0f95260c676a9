/-! the reference: gone, run -/
section ZWK2
variable {μ ν : zm_M} {row stk : List Nat} {us : Nat → zy_F}
set_option maxRecDepth 100000 in
theorem ze_Mgone (D : Nat) (h : zR μ row stk us) (w : Int32) : ∃ ν v, ze_E (D + 28) A_Mod_gone [.ref 232, .int w] (zm_mk μ) (some (.int v)) (zm_mk ν) ∧ zv_gon μ ν us w := by
  have n1 : Int32.ofInt (-1000000001) = -1000000001 := by decide
  have n2 : Int32.ofInt (-1000000002) = -1000000002 := by decide
  have h6 : (Int8.ofInt 6).toInt32 = (6 : Int32) := by decide
  have q6 : nI 6 = (6 : Int32) := by decide
  obtain ⟨lc, cM⟩ := zM_c (μ := μ)
  rcases zM_isIn (hp := zm_mk μ) (D + 26) w (n := 2) (b := 2) (by decide) (by decide) with ⟨s, hs, rfl, N1, E1⟩ | ⟨⟨N1, E1⟩, hno⟩
  · have hs : s < 3 := hs
    have is : zi_in (nI s) 3 = true := zm_in hs (by decide)
    have cs : (nI s).toNatClampNeg = s := nI_clamp (by omega)
    obtain ⟨L1, S1, nl1, a0, a1, a2⟩ := zv_gn0 (μ := μ) D hs E1
    have hlso : zv_lso μ s = zl_fi (fun k => decide (¬ nI k = nI s ∧ 0 < μ 232 k)) (-1) 3 0 := rfl
    by_cases c0 : μ 232 s = 0
    · refine ⟨μ, -1000000002, ze_in [(0, .ref 232), (1, .int (nI s))] zq_Mod_gone (Nat.le_of_ble_eq_true rfl) rfl (S1.end ⟨0, 7, fun F n hF => ?_⟩), Or.inl ⟨fun ⟨s', o, b1, b2, b3, b4, _⟩ => ?_, rfl⟩⟩
      · simp [zi_go, zf_X6_gone, zi_ask, zi_new, zi_step, zi_ld, zi_lda, zi_cmp, zi_retOk, zi_isI, zi_f3, zi_cr, zi_ci, zi_cn, a0, a1, zM_g, zm_iald (k := 0) zM_A232 is, cs, c0, n2]
      · rw [← (nI_eq (by omega) (by omega)).mp b3] at b4
        exact b4 c0
    · rcases zl_fi_spec (fun k => decide (¬ nI k = nI s ∧ 0 < μ 232 k)) (-1) 3 0 with ⟨o, -, ho, po, -, eo⟩ | ⟨-, eo⟩
      · have ho : o < 3 := by omega
        rw [← hlso] at eo
        obtain ⟨p1, p2⟩ := of_decide_eq_true po
        have hso : s ≠ o := fun e => p1 (by rw [e])
        have eo' := eo
        rw [eo] at a2
        have io : zi_in (nI o) 3 = true := zm_in ho (by decide)
        have co : (nI o).toNatClampNeg = o := nI_clamp (by omega)
        have m1 : (0 : Int32) ≤ nI o := Int32.not_lt.mp (nI_pos (by omega))
        obtain ⟨⟨abo, hIo⟩, hndo, hwo⟩ := h.2.2.2.2.1 o ho
        obtain ⟨⟨abs, hIs⟩, hnds, hws⟩ := h.2.2.2.2.1 s hs
        obtain ⟨hWd, hWm⟩ := zR_W h hs
        obtain ⟨hOd, hOm⟩ := zR_W h ho
        obtain ⟨N2, E2⟩ := ze_McopyTree (μ := μ) (D + 25) (f := o) (t := 6) (by omega) (by decide) (by omega)
        rw [q6] at E2
        have tq := zu_cq_eqT (μ := μ) (f := o) (t := 6)
        have fq : zu_fr 6 μ (zu_cq μ o 6 24 240) := zu_cq_fr
        generalize hμa : zu_cq μ o 6 24 240 = μa at E2 tq fq
        obtain ⟨lca, cMa⟩ := zM_c (μ := μa)
        have hIa := tq.I hIo
        have ts := fq.eqT (τ := s) (by omega)
        have hIas := ts.I hIs
        have etb : ∀ n ∈ zy_lvs (us s), zu_tb μa s n = zu_tb μ s n := fun n hn => ts.tb (zu_I_lt hIs hn) (zu_I_tbl hIs hn)
        have eW : (zy_lvs (us s)).flatMap (zu_tb μa s) = (zy_lvs (us s)).flatMap (zu_tb μ s) := by
          have : ∀ l : List Nat, (∀ n ∈ l, zu_tb μa s n = zu_tb μ s n) → l.flatMap (zu_tb μa s) = l.flatMap (zu_tb μ s) := fun l => by
            induction l with
            | nil => intro _; rfl
            | cons a l ih =>
              intro hh
              rw [List.flatMap_cons, List.flatMap_cons, hh a (List.mem_cons_self ..), ih (fun n hn => hh n (List.mem_cons_of_mem _ hn))]
          exact this _ etb
        have hemp : ∃ emp : Bool, (emp = true → us o = .nil) ∧ (emp = false → zy_wf (us o)) := by
          rcases zu_I_or hIo with e | e
          · exact ⟨true, fun _ => e, fun z => by cases z⟩
          · exact ⟨false, (fun z => by cases z), fun _ => e⟩
        obtain ⟨emp, he, he'⟩ := hemp
        obtain ⟨ξ, ξ2, n0, ⟨N3, E3⟩, fv, hA⟩ := ze_MmoveTabs (μ := μa) (D) (f := s) (τ := 6) (emp := emp) (by omega) (by decide) (by omega) hIa hIas he he' (by
          rw [eW]
          refine zv_nodup10 ?_ ?_
          · cases emp with
            | true => rw [if_pos rfl]; exact hWd
            | false =>
              rw [if_neg (by decide)]
              have hm := zl_mem (zy_lvs_pos (he' rfl))
              rw [tq.tb (zu_I_lt hIo hm) (zu_I_tbl hIo hm)]
              refine List.nodup_append.mpr ⟨hndo.1 _ hm, hWd, fun x hx y hy e => ?_⟩
              subst e
              have e1 := (hWm x hy).2.2
              have e2 := (hwo _ hm x hx).2
              exact hso ((nI_eq (by omega) (by omega)).mp (e1.symm.trans e2))
          · intro x hx
            rcases List.mem_append.mp hx with hx | hx
            · cases emp with
              | true => rw [if_pos rfl] at hx; cases hx
              | false =>
                rw [if_neg (by decide)] at hx
                have hm := zl_mem (zy_lvs_pos (he' rfl))
                rw [tq.tb (zu_I_lt hIo hm) (zu_I_tbl hIo hm)] at hx
                exact (zu_I_tb hIo hm).2.2 x hx
            · exact (hWm x hx).1)
        rw [eW] at E3 hA
        rw [q6] at E3
        generalize hW : (zy_lvs (us s)).flatMap (zu_tb μ s) = W at E3 hA
        obtain ⟨lc2, cM2⟩ := zM_c (μ := ξ2)
        have f2 : ∀ c d, ¬ (c = 231 ∧ d = 30) → c ≠ 259 → ¬ zu_in 6 c d → ξ2 c d = μ c d := fun c d r1 r2 r3 => (hA.2.1 c d r3).trans ((fv c d r1 r2).trans (fq c d r3))
        have f23 : ∀ c d, 232 ≤ c → c < 243 → ξ2 c d = μ c d := fun c d r1 r2 => f2 c d (by omega) (by omega) (zu_in_not (Or.inl r2))
        obtain ⟨ab2, hI2⟩ := hA.1
        have hsz := h.2.2.2.2.2.2 o ho
        obtain ⟨N4, E4⟩ := ze_Mfits (μ := ξ2) (D + 1) (τ := 6) (by decide) hI2 hsz.1 hsz.2
        rw [q6] at E4
        generalize hb0 : zu_fit ξ2 6 (zy_ad emp (us o) W n0) (μ 232 o) (μ 233 o) = b0 at E4
        have S2 := zv_gn2 (W := W) (b0 := b0) D hs ho c0 L1 nl1 a0 a1 a2 E2 E3 (f23 232 o (by decide) (by decide)) (f23 233 o (by decide) (by decide)) E4
        obtain ⟨L2, h2, S3, nl2, b0', b1, b2, b3, b4, rfl⟩ := zv_gnB (μ := ξ2) (D + 26) hs ho b0 W.length (zi_set (zi_set (zi_set L1 3 (.int (nI W.length))) 4 (.int (if b0 = true then 1 else 0))) 5 (.int (nI 0))) (zi_nl_i (zi_nl_i (zi_nl_i nl1))) (by have nl := nl1; simp (maxDischargeDepth := 9) [zi_get_ne, zi_nl_i, zi_nl_r, zi_get_set_eq, nl, a0]) (by have nl := nl1; simp (maxDischargeDepth := 9) [zi_get_ne, zi_nl_i, zi_nl_r, zi_get_set_eq, nl, a1]) (by have nl := nl1; simp (maxDischargeDepth := 9) [zi_get_ne, zi_nl_i, zi_nl_r, zi_get_set_eq, nl, a2]) (by have nl := nl1; simp (maxDischargeDepth := 9) [zi_get_ne, zi_nl_i, zi_nl_r, zi_get_set_eq, nl]) (by have nl := nl1; simp (maxDischargeDepth := 9) [zi_get_ne, zi_nl_i, zi_nl_r, zi_get_set_eq, nl]) zi_get_set_eq
        have eon : (fun k => zv_on ξ2 k (nI s)) = fun k => zv_on μ k (nI s) := funext fun k => by
          unfold zv_on
          rw [f23 234 k (by decide) (by decide), f23 238 k (by decide) (by decide)]
        have egr : zv_grm ξ2 s o = zv_grm μ s o := funext fun k => by
          unfold zv_grm zv_on
          rw [f23 234 k (by decide) (by decide), f23 238 k (by decide) (by decide), f23 235 k (by decide) (by decide), f23 236 k (by decide) (by decide), f23 232 o (by decide) (by decide), f23 233 o (by decide) (by decide)]
        rw [eon] at b3
        rw [egr] at b4
        have tail : (zv_gd (zv_grm μ s o) b0 10 = false ∧ ∃ v, ze_G (D + 27) 7 (some .int) zc_X6_gone 174 L2 [] (zm_mk ξ2) (some (.int v)) (zm_mk ξ2)) ∨ (zv_gd (zv_grm μ s o) b0 10 = true ∧ ∃ ν v, ze_G (D + 27) 7 (some .int) zc_X6_gone 174 L2 [] (zm_mk ξ2) (some (.int v)) (zm_mk ν) ∧ zv_gne μ ξ2 ν s o (W.length + zl_ct (fun k => zv_on μ k (nI s)) 10)) := by
          generalize zv_gd (zv_grm μ s o) b0 10 = good at b4
          generalize hn : W.length + zl_ct (fun k => zv_on μ k (nI s)) 10 = n at b3
          cases good with
          | false =>
            have b4 : zi_get L2 4 = some (.int 0) := b4
            refine Or.inl ⟨rfl, -1000000002, 0, 4, fun F m hF => ?_⟩
            simp [zi_go, zf_X6_gone, zi_ask, zi_new, zi_step, zi_ld, zi_lda, zi_cmp, zi_retOk, zi_isI, zi_f3, zi_cr, zi_ci, zi_cn, b4, n2]
          | true =>
            have b4 : zi_get L2 4 = some (.int 1) := b4
            have hn31 : n < 2 ^ 31 := by
              have := zl_ct_le (fun k => zv_on μ k (nI s)) 10
              have : W.length ≤ 10 := by rw [← hW]; exact zv_nodup10 hWd (fun x hx => (hWm x hx).1)
              omega
            obtain ⟨ν, G, q⟩ := zv_gn3 (μ := μ) D hs ho hso h.1 f2 hn31 L2 nl2 b0' b1 b2 b3 b4
            exact Or.inr ⟨rfl, ν, nI n, G, q⟩
        rcases tail with ⟨q1, v, G⟩ | ⟨q1, ν, v, G, q2⟩
        · refine ⟨ξ2, v, ze_in [(0, .ref 232), (1, .int (nI s))] zq_Mod_gone (Nat.le_of_ble_eq_true rfl) rfl ((S1.end (S2.end (S3.end G)))), Or.inr ⟨s, o, emp, ξ, ξ2, n0, W, hs, ho, hso, rfl, c0, p2, eo', he, he', hW.symm, by rw [hμa]; exact fv, hA, Or.inl ⟨by rw [hb0]; exact q1, rfl⟩⟩⟩
        · refine ⟨ν, v, ze_in [(0, .ref 232), (1, .int (nI s))] zq_Mod_gone (Nat.le_of_ble_eq_true rfl) rfl ((S1.end (S2.end (S3.end G)))), Or.inr ⟨s, o, emp, ξ, ξ2, n0, W, hs, ho, hso, rfl, c0, p2, eo', he, he', hW.symm, by rw [hμa]; exact fv, hA, Or.inr ⟨by rw [hb0]; exact q1, q2⟩⟩⟩
      · rw [← hlso] at eo
        rw [eo] at a2
        have m1 : ¬ (0 : Int32) ≤ -1 := by decide
        refine ⟨μ, -1000000002, ze_in [(0, .ref 232), (1, .int (nI s))] zq_Mod_gone (Nat.le_of_ble_eq_true rfl) rfl ((S1.end ⟨0, 9, fun F n hF => ?_⟩)), Or.inl ⟨fun ⟨s', o, b1, b2, b3, b4, b5⟩ => ?_, rfl⟩⟩
        · simp [zi_go, zf_X6_gone, zi_ask, zi_new, zi_step, zi_ld, zi_lda, zi_cmp, zi_retOk, zi_isI, zi_f3, zi_cr, zi_ci, zi_cn, a0, a1, a2, zM_g, zm_iald (k := 0) zM_A232 is, cs, c0, m1, n2]
        · rw [← (nI_eq (by omega) (by omega)).mp b3, eo] at b5
          have : nI o < 0 := by rw [← b5]; decide
          exact nI_pos (by omega) this
  · refine ⟨μ, -1000000001, ze_in [(0, .ref 232), (1, .int w)] zq_Mod_gone (Nat.le_of_ble_eq_true rfl) rfl ⟨N1, 7, fun F n hF => ?_⟩, Or.inl ⟨fun ⟨s', o, b1, b2, b3, _⟩ => hno s' (by omega) b3, rfl⟩⟩
    simp [zi_go, zf_X6_gone, zi_ask, zi_new, zi_step, zi_ld, zi_lda, zi_cmp, zi_retOk, zi_isI, zi_f3, zi_cr, zi_ci, zi_cn, zi_get, zi_set, zq_Mod_isIn, E1 F (by omega), n1]
end ZWK2
