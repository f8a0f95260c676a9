/-! the reference: gone, run -/
theorem zl_flat_congr {f g : Nat → List Nat} : ∀ l : List Nat, (∀ n ∈ l, f n = g n) → l.flatMap f = l.flatMap g
  | [], _ => rfl
  | a :: l, hh => by
    rw [List.flatMap_cons, List.flatMap_cons, hh a (List.mem_cons_self ..), zl_flat_congr l (fun n hn => hh n (List.mem_cons_of_mem _ hn))]
section ZWK2
variable {μ ν : zm_M} {row stk : List Nat} {us : Nat → zy_F}
set_option maxRecDepth 100000 in
theorem zv_gn1a (D : Nat) {o : Nat} (ho : o < 3) : ∃ μa, zu_cq μ o 6 24 240 = μa ∧ ze_E (D + 27) A_Mod_copyTree [.ref 232, .int (nI o), .int 6] (zm_mk μ) none (zm_mk μa) := by
  have q6 : nI 6 = (6 : Int32) := by decide
  obtain ⟨N2, E2⟩ := ze_McopyTree (μ := μ) (D + 25) (f := o) (t := 6) (by omega) (by decide) (by omega)
  rw [q6] at E2
  exact ⟨_, rfl, N2, E2⟩
theorem zv_gn1b (h : zR μ row stk us) {μa : zm_M} {s o : Nat} (hs : s < 3) (ho : o < 3) (hso : s ≠ o) (hμa : zu_cq μ o 6 24 240 = μa) : (zy_lvs (us s)).flatMap (zu_tb μa s) = (zy_lvs (us s)).flatMap (zu_tb μ s) := by
  obtain ⟨⟨abo, hIo⟩, hndo, hwo⟩ := h.2.2.2.2.1 o ho
  obtain ⟨⟨abs, hIs⟩, hnds, hws⟩ := h.2.2.2.2.1 s hs
  have tq := zu_cq_eqT (μ := μ) (f := o) (t := 6)
  have fq : zu_fr 6 μ (zu_cq μ o 6 24 240) := zu_cq_fr
  rw [hμa] at fq tq
  have ts := fq.eqT (τ := s) (by omega)
  have etb : ∀ n ∈ zy_lvs (us s), zu_tb μa s n = zu_tb μ s n := fun n hn => ts.tb (zu_I_lt hIs hn) (zu_I_tbl hIs hn)
  exact zl_flat_congr _ etb
set_option maxRecDepth 100000 in
theorem zv_gn1c (D : Nat) {μa : zm_M} {s : Nat} {uo : zy_F} {abo abs} (hs : s < 3) (emp : Bool) (hIa : zu_I μa 6 uo abo) (hIas : zu_I μa s (us s) abs) (he : emp = true → uo = .nil) (he' : emp = false → zy_wf uo) (eW : (zy_lvs (us s)).flatMap (zu_tb μa s) = (zy_lvs (us s)).flatMap (zu_tb μ s)) (hl : ((if emp = true then [] else zu_tb μa 6 ((zy_lvs uo).getD 0 0)) ++ (zy_lvs (us s)).flatMap (zu_tb μa s)).length ≤ 10) : ∃ ξ ξ2 n0 W, (zy_lvs (us s)).flatMap (zu_tb μ s) = W ∧ ze_E (D + 27) A_Mod_moveTabs [.ref 232, .int (nI s), .int 6] (zm_mk μa) (some (.int (nI W.length))) (zm_mk ξ2) ∧ zu_frv μa ξ ∧ zu_AD ξ 6 uo emp W ξ2 n0 := by
  have q6 : nI 6 = (6 : Int32) := by decide
  obtain ⟨ξ, ξ2, n0, E3, fv, hA⟩ := ze_MmoveTabs (μ := μa) (u := uo) (uf := us s) D (f := s) (τ := 6) (emp := emp) (by omega) (by decide) (by omega) hIa hIas he he' hl
  rw [eW] at E3 hA
  rw [q6] at E3
  exact ⟨ξ, ξ2, n0, _, rfl, E3, fv, hA⟩
theorem zv_gn1 (D : Nat) (h : zR μ row stk us) {s o : Nat} (hs : s < 3) (ho : o < 3) (hso : s ≠ o) : ∃ emp μa ξ ξ2 n0 W, ((emp = true → us o = .nil) ∧ (emp = false → zy_wf (us o)) ∧ (zy_lvs (us s)).flatMap (zu_tb μ s) = W ∧ zu_cq μ o 6 24 240 = μa) ∧ ze_E (D + 27) A_Mod_copyTree [.ref 232, .int (nI o), .int 6] (zm_mk μ) none (zm_mk μa) ∧ ze_E (D + 27) A_Mod_moveTabs [.ref 232, .int (nI s), .int 6] (zm_mk μa) (some (.int (nI W.length))) (zm_mk ξ2) ∧ zu_frv μa ξ ∧ zu_AD ξ 6 (us o) emp W ξ2 n0 ∧ W.length ≤ 10 ∧ ∀ c d, ¬ (c = 231 ∧ d = 30) → c ≠ 259 → ¬ zu_in 6 c d → ξ2 c d = μ c d := by
  obtain ⟨⟨abo, hIo⟩, hndo, hwo⟩ := h.2.2.2.2.1 o ho
  obtain ⟨⟨abs, hIs⟩, hnds, hws⟩ := h.2.2.2.2.1 s hs
  obtain ⟨hWd, hWm⟩ := zR_W h hs
  obtain ⟨μa, hμa, E2⟩ := zv_gn1a (μ := μ) D ho
  have eW := zv_gn1b h hs ho hso hμa
  have tq := zu_cq_eqT (μ := μ) (f := o) (t := 6)
  have fq : zu_fr 6 μ (zu_cq μ o 6 24 240) := zu_cq_fr
  rw [hμa] at fq tq
  have hIa := tq.I hIo
  have hIas := (fq.eqT (τ := s) (by omega)).I hIs
  have hemp : ∃ emp : Bool, (emp = true → us o = .nil) ∧ (emp = false → zy_wf (us o)) := by
    rcases zu_I_or hIo with e | e
    · exact ⟨true, fun _ => e, fun z => by cases z⟩
    · exact ⟨false, (fun z => by cases z), fun _ => e⟩
  obtain ⟨emp, he, he'⟩ := hemp
  have hl : ((if emp = true then [] else zu_tb μa 6 ((zy_lvs (us o)).getD 0 0)) ++ (zy_lvs (us s)).flatMap (zu_tb μa s)).length ≤ 10 := by
    rw [eW]
    cases emp with
    | true =>
      rw [if_pos rfl, List.nil_append]
      exact zv_nodup10 hWd (fun x hx => (hWm x hx).1)
    | false =>
      rw [if_neg Bool.false_ne_true]
      have hm := zl_mem (zy_lvs_pos (he' rfl))
      rw [tq.tb (zu_I_lt hIo hm) (zu_I_tbl hIo hm)]
      refine zv_nodup10 (List.nodup_append.mpr ⟨hndo.1 _ hm, hWd, fun x hx y hy e => ?_⟩) (fun x hx => ?_)
      · have e1 := (hWm y hy).2.2
        have e2 := (hwo _ hm x hx).2
        rw [e] at e2
        exact hso ((nI_eq (by omega) (by omega)).mp (e1.symm.trans e2))
      · rcases List.mem_append.mp hx with hx | hx
        · exact (zu_I_tb hIo hm).2.2 x hx
        · exact (hWm x hx).1
  obtain ⟨ξ, ξ2, n0, W, hW, E3, fv, hA⟩ := zv_gn1c D hs emp hIa hIas he he' eW hl
  exact ⟨emp, μa, ξ, ξ2, n0, W, ⟨he, he', hW, hμa⟩, E2, E3, fv, hA, (by rw [← hW]; exact zv_nodup10 hWd (fun x hx => (hWm x hx).1)), fun c d r1 r2 r3 => (hA.2.1 c d r3).trans ((fv c d r1 r2).trans (fq c d r3))⟩
set_option maxRecDepth 100000 in
theorem ze_Mgone (D : Nat) (h : zR μ row stk us) (w : Int32) : ∃ ν v, ze_E (D + 28) A_Mod_gone [.ref 232, .int w] (zm_mk μ) (some (.int v)) (zm_mk ν) ∧ zv_gon μ ν us w := by
  have n1 : Int32.ofInt (-1000000001) = -1000000001 := by decide
  have n2 : Int32.ofInt (-1000000002) = -1000000002 := by decide
  have h6 : (Int8.ofInt 6).toInt32 = (6 : Int32) := by decide
  have q6 : nI 6 = (6 : Int32) := by decide
  obtain ⟨lc, cM⟩ := zM_c (μ := μ)
  rcases zM_isIn (hp := zm_mk μ) (D + 26) w (n := 2) (b := 2) (by decide) (by decide) with ⟨s, hs, rfl, N1, E1⟩ | ⟨⟨N1, E1⟩, hno⟩
  · have hs : s < 3 := hs
    have is : zi_in (nI s) 3 = true := zm_in hs (by decide)
    have cs : (nI s).toNatClampNeg = s := nI_clamp (by omega)
    obtain ⟨L1, S1, nl1, a0, a1, a2⟩ := zv_gn0 (μ := μ) D hs E1
    have hlso : zv_lso μ s = zl_fi (fun k => decide (¬ nI k = nI s ∧ 0 < μ 232 k)) (-1) 3 0 := rfl
    by_cases c0 : μ 232 s = 0
    · refine ⟨μ, -1000000002, ze_in [(0, .ref 232), (1, .int (nI s))] zq_Mod_gone (Nat.le_of_ble_eq_true rfl) rfl (S1.end ⟨0, 7, fun F n hF => ?_⟩), Or.inl ⟨fun ⟨s', o, b1, b2, b3, b4, _⟩ => ?_, rfl⟩⟩
      · simp [zg_0, zg_aload_n, zg_bastore, zg_bipush, zg_getfield, zg_goto, zg_iadd, zg_iaload, zg_iastore, zg_iconst, zg_ifCond, zg_if_icmp, zg_iinc, zg_iload, zg_iload_n, zg_imul, zg_invokestatic, zg_invokevirtual, zg_ireturn, zg_istore, zg_istore_n, zg_ldc, zf_X6_gone, zi_ld, zi_lda, zi_cmp, zi_retOk, zi_isI, zi_f3, zi_cr, zi_ci, zi_cn, a0, a1, zM_g, zm_iald (k := 0) zM_A232 is, cs, c0, n2]
      · rw [← (nI_eq (by omega) (by omega)).mp b3] at b4
        exact b4 c0
    · rcases zl_fi_spec (fun k => decide (¬ nI k = nI s ∧ 0 < μ 232 k)) (-1) 3 0 with ⟨o, -, ho, po, -, eo⟩ | ⟨-, eo⟩
      · have ho : o < 3 := by omega
        rw [← hlso] at eo
        obtain ⟨p1, p2⟩ := of_decide_eq_true po
        have hso : s ≠ o := fun e => p1 (by rw [e])
        have eo' := eo
        rw [eo] at a2
        have io : zi_in (nI o) 3 = true := zm_in ho (by decide)
        have co : (nI o).toNatClampNeg = o := nI_clamp (by omega)
        have m1 : (0 : Int32) ≤ nI o := Int32.not_lt.mp (nI_pos (by omega))
        obtain ⟨emp, μa, ξ, ξ2, n0, W, ⟨he, he', hW, hμa⟩, ⟨N2, E2⟩, ⟨N3, E3⟩, fv, hA, hW10, f2⟩ := zv_gn1 D h hs ho hso
        have f23 : ∀ c d, 232 ≤ c → c < 243 → ξ2 c d = μ c d := fun c d r1 r2 => f2 c d (by omega) (by omega) (zu_in_not (Or.inl r2))
        obtain ⟨ab2, hI2⟩ := hA.1
        have hsz := h.2.2.2.2.2.2 o ho
        obtain ⟨N4, E4⟩ := ze_Mfits (μ := ξ2) (D + 1) (τ := 6) (by decide) hI2 hsz.1 hsz.2
        rw [q6] at E4
        generalize hb0 : zu_fit ξ2 6 (zy_ad emp (us o) W n0) (μ 232 o) (μ 233 o) = b0 at E4
        have S2 := zv_gn2 (W := W) (b0 := b0) D hs ho c0 L1 nl1 a0 a1 a2 E2 E3 (f23 232 o (by decide) (by decide)) (f23 233 o (by decide) (by decide)) E4
        obtain ⟨L2, h2, S3, nl2, b0', b1, b2, b3, b4, rfl⟩ := zv_gnB (μ := ξ2) (D + 26) hs ho b0 W.length (zi_set (zi_set (zi_set L1 3 (.int (nI W.length))) 4 (.int (if b0 = true then 1 else 0))) 5 (.int (nI 0))) (zi_nl_i (zi_nl_i (zi_nl_i nl1))) (by have nl := nl1; simp (maxDischargeDepth := 9) [zi_get_ne, zi_nl_i, zi_nl_r, zi_get_set_eq, nl, a0]) (by have nl := nl1; simp (maxDischargeDepth := 9) [zi_get_ne, zi_nl_i, zi_nl_r, zi_get_set_eq, nl, a1]) (by have nl := nl1; simp (maxDischargeDepth := 9) [zi_get_ne, zi_nl_i, zi_nl_r, zi_get_set_eq, nl, a2]) (by have nl := nl1; simp (maxDischargeDepth := 9) [zi_get_ne, zi_nl_i, zi_nl_r, zi_get_set_eq, nl]) (by have nl := nl1; simp (maxDischargeDepth := 9) [zi_get_ne, zi_nl_i, zi_nl_r, zi_get_set_eq, nl]) zi_get_set_eq
        have eon : (fun k => zv_on ξ2 k (nI s)) = fun k => zv_on μ k (nI s) := funext fun k => by
          unfold zv_on
          rw [f23 234 k (by decide) (by decide), f23 238 k (by decide) (by decide)]
        have egr : zv_grm ξ2 s o = zv_grm μ s o := funext fun k => by
          unfold zv_grm zv_on
          rw [f23 234 k (by decide) (by decide), f23 238 k (by decide) (by decide), f23 235 k (by decide) (by decide), f23 236 k (by decide) (by decide), f23 232 o (by decide) (by decide), f23 233 o (by decide) (by decide)]
        rw [eon] at b3
        rw [egr] at b4
        have tail : (zv_gd (zv_grm μ s o) b0 10 = false ∧ ∃ v, ze_G (D + 27) 7 (some .int) zc_X6_gone 174 L2 [] (zm_mk ξ2) (some (.int v)) (zm_mk ξ2)) ∨ (zv_gd (zv_grm μ s o) b0 10 = true ∧ ∃ ν v, ze_G (D + 27) 7 (some .int) zc_X6_gone 174 L2 [] (zm_mk ξ2) (some (.int v)) (zm_mk ν) ∧ zv_gne μ ξ2 ν s o (W.length + zl_ct (fun k => zv_on μ k (nI s)) 10)) := by
          generalize zv_gd (zv_grm μ s o) b0 10 = good at b4
          generalize hn : W.length + zl_ct (fun k => zv_on μ k (nI s)) 10 = n at b3
          cases good with
          | false =>
            have b4 : zi_get L2 4 = some (.int 0) := b4
            refine Or.inl ⟨rfl, -1000000002, 0, 4, fun F m hF => ?_⟩
            simp [zg_0, zg_aload_n, zg_bastore, zg_bipush, zg_getfield, zg_goto, zg_iadd, zg_iaload, zg_iastore, zg_iconst, zg_ifCond, zg_if_icmp, zg_iinc, zg_iload, zg_iload_n, zg_imul, zg_invokestatic, zg_invokevirtual, zg_ireturn, zg_istore, zg_istore_n, zg_ldc, zf_X6_gone, zi_ld, zi_lda, zi_cmp, zi_retOk, zi_isI, zi_f3, zi_cr, zi_ci, zi_cn, b4, n2]
          | true =>
            have b4 : zi_get L2 4 = some (.int 1) := b4
            have hn31 : n < 2 ^ 31 := by
              have := zl_ct_le (fun k => zv_on μ k (nI s)) 10
              omega
            obtain ⟨ν, G, q⟩ := zv_gn3 (μ := μ) D hs ho hso h.1 f2 hn31 L2 nl2 b0' b1 b2 b3 b4
            exact Or.inr ⟨rfl, ν, nI n, G, q⟩
        rcases tail with ⟨q1, v, G⟩ | ⟨q1, ν, v, G, q2⟩
        · refine ⟨ξ2, v, ze_in [(0, .ref 232), (1, .int (nI s))] zq_Mod_gone (Nat.le_of_ble_eq_true rfl) rfl ((S1.end (S2.end (S3.end G)))), Or.inr ⟨s, o, emp, ξ, ξ2, n0, W, hs, ho, hso, rfl, c0, p2, eo', he, he', hW.symm, by rw [hμa]; exact fv, hA, Or.inl ⟨by rw [hb0]; exact q1, rfl⟩⟩⟩
        · refine ⟨ν, v, ze_in [(0, .ref 232), (1, .int (nI s))] zq_Mod_gone (Nat.le_of_ble_eq_true rfl) rfl ((S1.end (S2.end (S3.end G)))), Or.inr ⟨s, o, emp, ξ, ξ2, n0, W, hs, ho, hso, rfl, c0, p2, eo', he, he', hW.symm, by rw [hμa]; exact fv, hA, Or.inr ⟨by rw [hb0]; exact q1, q2⟩⟩⟩
      · rw [← hlso] at eo
        rw [eo] at a2
        have m1 : ¬ (0 : Int32) ≤ -1 := by decide
        refine ⟨μ, -1000000002, ze_in [(0, .ref 232), (1, .int (nI s))] zq_Mod_gone (Nat.le_of_ble_eq_true rfl) rfl ((S1.end ⟨0, 9, fun F n hF => ?_⟩)), Or.inl ⟨fun ⟨s', o, b1, b2, b3, b4, b5⟩ => ?_, rfl⟩⟩
        · simp [zg_0, zg_aload_n, zg_bastore, zg_bipush, zg_getfield, zg_goto, zg_iadd, zg_iaload, zg_iastore, zg_iconst, zg_ifCond, zg_if_icmp, zg_iinc, zg_iload, zg_iload_n, zg_imul, zg_invokestatic, zg_invokevirtual, zg_ireturn, zg_istore, zg_istore_n, zg_ldc, zf_X6_gone, zi_ld, zi_lda, zi_cmp, zi_retOk, zi_isI, zi_f3, zi_cr, zi_ci, zi_cn, a0, a1, a2, zM_g, zm_iald (k := 0) zM_A232 is, cs, c0, m1, n2]
        · rw [← (nI_eq (by omega) (by omega)).mp b3, eo] at b5
          have : nI o < 0 := by rw [← b5]; decide
          exact nI_pos (by omega) this
  · refine ⟨μ, -1000000001, ze_in [(0, .ref 232), (1, .int w)] zq_Mod_gone (Nat.le_of_ble_eq_true rfl) rfl ⟨N1, 7, fun F n hF => ?_⟩, Or.inl ⟨fun ⟨s', o, b1, b2, b3, _⟩ => hno s' (by omega) b3, rfl⟩⟩
    simp [zg_0, zg_aload_n, zg_bastore, zg_bipush, zg_getfield, zg_goto, zg_iadd, zg_iaload, zg_iastore, zg_iconst, zg_ifCond, zg_if_icmp, zg_iinc, zg_iload, zg_iload_n, zg_imul, zg_invokestatic, zg_invokevirtual, zg_ireturn, zg_istore, zg_istore_n, zg_ldc, zf_X6_gone, zi_ld, zi_lda, zi_cmp, zi_retOk, zi_isI, zi_f3, zi_cr, zi_ci, zi_cn, zi_get, zi_set, zq_Mod_isIn, E1 F (by omega), n1]
end ZWK2
