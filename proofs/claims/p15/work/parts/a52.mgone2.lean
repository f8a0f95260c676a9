/-! the reference: gone -/
/-- the least screen that is there, but s -/
def zv_lso (μ : zm_M) (s : Nat) : Int32 := zl_fi (fun k => decide (¬ nI k = nI s ∧ 0 < μ 232 k)) (-1) 3 0
/-- what is left when the screen s has gone to o; ξ holds the trial tree -/
def zv_gne (μ ξ ν : zm_M) (s o n : Nat) : Prop :=
  zu_eqT μ s ν (3 + s) ∧ zu_eqT ξ 6 ν o ∧ zu_I ν s .nil (fun _ => -1) ∧ ν 251 s = (if 0 < n then 1 else 0) ∧ (∀ k, k < 10 → ν 252 (10 * s + k) = if zv_ons μ s k = true then 1 else 0) ∧ (∀ k, k < 10 → ν 238 k = if zv_ons μ s k = true then nI o else μ 238 k) ∧ (ν 232 s = 0 ∧ ν 233 s = 0) ∧
  ∀ c d, ¬ (c = 231 ∧ d = 30) → c ≠ 238 → c ≠ 239 → c ≠ 240 → ¬ (253 ≤ c ∧ c ≤ 261) → ¬ (c = 252 ∧ 10 * s ≤ d ∧ d < 10 * s + 10) → ¬ (c = 251 ∧ d = s) → ¬ (c = 232 ∧ d = s) → ¬ (c = 233 ∧ d = s) → ¬ zu_in s c d → ¬ zu_in o c d → ¬ zu_in (3 + s) c d → ¬ zu_in 6 c d → ν c d = μ c d
def zv_gon (μ ν : zm_M) (us : Nat → zy_F) (w : Int32) : Prop :=
  ((¬ ∃ s o, s < 3 ∧ o < 3 ∧ w = nI s ∧ ¬ μ 232 s = 0 ∧ zv_lso μ s = nI o) ∧ ν = μ) ∨
  ∃ s o emp ξ ξ2 n1 W, s < 3 ∧ o < 3 ∧ s ≠ o ∧ w = nI s ∧ ¬ μ 232 s = 0 ∧ 0 < μ 232 o ∧ zv_lso μ s = nI o ∧ (emp = true → us o = .nil) ∧ (emp = false → zy_wf (us o)) ∧ W = (zy_lvs (us s)).flatMap (zu_tb μ s) ∧ zu_frv (zu_cq μ o 6 24 240) ξ ∧ zu_AD ξ 6 (us o) emp W ξ2 n1 ∧
    ((zv_gd (zv_grm μ s o) (zu_fit ξ2 6 (zy_ad emp (us o) W n1) (μ 232 o) (μ 233 o)) 10 = false ∧ ν = ξ2) ∨
     (zv_gd (zv_grm μ s o) (zu_fit ξ2 6 (zy_ad emp (us o) W n1) (μ 232 o) (μ 233 o)) 10 = true ∧ zv_gne μ ξ2 ν s o (W.length + zl_ct (fun k => zv_on μ k (nI s)) 10)))
theorem zl_flat_nodup {f : Nat → List Nat} : ∀ (l : List Nat), l.Nodup → (∀ n ∈ l, (f n).Nodup) → (∀ n ∈ l, ∀ m ∈ l, ∀ w, w ∈ f n → w ∈ f m → n = m) → (l.flatMap f).Nodup
  | [], _, _, _ => List.nodup_nil
  | a :: l, hd, h1, h2 => by
    rw [List.flatMap_cons]
    obtain ⟨ha, hd⟩ := List.nodup_cons.mp hd
    refine List.nodup_append.mpr ⟨h1 a (List.mem_cons_self ..), zl_flat_nodup l hd (fun n hn => h1 n (List.mem_cons_of_mem _ hn)) (fun n hn m hm => h2 n (List.mem_cons_of_mem _ hn) m (List.mem_cons_of_mem _ hm)), fun x hx y hy e => ?_⟩
    subst e
    obtain ⟨n, hn, hxn⟩ := List.mem_flatMap.mp hy
    have := h2 a (List.mem_cons_self ..) n (List.mem_cons_of_mem _ hn) x hx hxn
    exact ha (this ▸ hn)
section ZWK
variable {μ ν : zm_M} {row stk : List Nat} {us : Nat → zy_F}
/-- the windows of a tree, each once -/
theorem zR_W (h : zR μ row stk us) {s : Nat} (hs : s < 3) : ((zy_lvs (us s)).flatMap (zu_tb μ s)).Nodup ∧ ∀ w ∈ (zy_lvs (us s)).flatMap (zu_tb μ s), w < 10 ∧ μ 234 w = 1 ∧ μ 238 w = nI s := by
  obtain ⟨⟨ab, hI⟩, hnd, hw⟩ := h.2.2.2.2.1 s hs
  refine ⟨zl_flat_nodup _ (zu_lvs_nodup hI).1 hnd.1 (fun n hn m hm w => hnd.2 n hn m hm w), fun w hx => ?_⟩
  obtain ⟨n, hn, hxn⟩ := List.mem_flatMap.mp hx
  exact ⟨(zu_I_tb hI hn).2.2 w hxn, hw n hn w hxn⟩
theorem zu_cq_out {f t c d : Nat} (h : ¬ zu_in t c d) : zu_cq μ f t 24 240 c d = μ c d := zu_cq_fr c d h
set_option maxRecDepth 100000 in
theorem ze_Mgone (D : Nat) (h : zR μ row stk us) (w : Int32) : ∃ ν v, ze_E (D + 28) A_Mod_gone [.ref 232, .int w] (zm_mk μ) (some (.int v)) (zm_mk ν) ∧ zv_gon μ ν us w := by
  have n1 : Int32.ofInt (-1000000001) = -1000000001 := by decide
  have n2 : Int32.ofInt (-1000000002) = -1000000002 := by decide
  have h6 : (Int8.ofInt 6).toInt32 = (6 : Int32) := by decide
  have q6 : nI 6 = (6 : Int32) := by decide
  obtain ⟨lc, cM⟩ := zM_c (μ := μ)
  rcases zM_isIn (hp := zm_mk μ) (D + 26) w (n := 2) (b := 2) (by decide) (by decide) with ⟨s, hs, rfl, N1, E1⟩ | ⟨⟨N1, E1⟩, hno⟩
  · have hs : s < 3 := hs
    have is : zi_in (nI s) 3 = true := zm_in hs (by decide)
    have cs : (nI s).toNatClampNeg = s := nI_clamp (by omega)
    have S0 : ze_S (D + 27) 7 (some .int) zc_X6_gone 0 [(0, .ref 232), (1, .int (nI s))] [] (zm_mk μ) 16 [(3, .int 2), (2, .int (-1)), (0, .ref 232), (1, .int (nI s))] [] (zm_mk μ) := by
      refine ⟨N1, 9, fun F n hF => ?_⟩
      simp [zi_go, zf_X6_gone, zi_ask, zi_new, zi_step, zi_ld, zi_lda, zi_cmp, zi_retOk, zi_isI, zi_f3, zi_cr, zi_ci, zi_cn, zi_get, zi_set, zq_Mod_isIn, E1 F (by omega)]
    obtain ⟨L1, S1, nl1, a0, a1, a2⟩ := zv_gnA (μ := μ) (D + 27) hs 3 (by decide) [(3, .int 2), (2, .int (-1)), (0, .ref 232), (1, .int (nI s))] (-1) rfl rfl rfl rfl (by rw [show zv_dn 3 = 2 by decide]; rfl)
    rw [zv_lsc_fi hs] at a2
    have hlso : zv_lso μ s = zl_fi (fun k => decide (¬ nI k = nI s ∧ 0 < μ 232 k)) (-1) 3 0 := rfl
    rw [← hlso] at a2
    by_cases c0 : μ 232 s = 0
    · refine ⟨μ, -1000000002, ze_in [(0, .ref 232), (1, .int (nI s))] zq_Mod_gone (Nat.le_of_ble_eq_true rfl) rfl (S0.end (S1.end ⟨0, 7, fun F n hF => ?_⟩)), Or.inl ⟨fun ⟨s', o, b1, b2, b3, b4, _⟩ => ?_, rfl⟩⟩
      · simp [zi_go, zf_X6_gone, zi_ask, zi_new, zi_step, zi_ld, zi_lda, zi_cmp, zi_retOk, zi_isI, zi_f3, zi_cr, zi_ci, zi_cn, a0, a1, zM_g, zm_iald (k := 0) zM_A232 is, cs, c0, n2]
      · rw [← (nI_eq (by omega) (by omega)).mp b3] at b4
        exact b4 c0
    · rcases zl_fi_spec (fun k => decide (¬ nI k = nI s ∧ 0 < μ 232 k)) (-1) 3 0 with ⟨o, -, ho, po, -, eo⟩ | ⟨-, eo⟩
      · have ho : o < 3 := by omega
        rw [← hlso] at eo
        obtain ⟨p1, p2⟩ := of_decide_eq_true po
        have hso : s ≠ o := fun e => p1 (by rw [e])
        have eo' := eo
        rw [eo] at a2
        have io : zi_in (nI o) 3 = true := zm_in ho (by decide)
        have co : (nI o).toNatClampNeg = o := nI_clamp (by omega)
        have m1 : (0 : Int32) ≤ nI o := Int32.not_lt.mp (nI_pos (by omega))
        obtain ⟨⟨abo, hIo⟩, hndo, hwo⟩ := h.2.2.2.2.1 o ho
        obtain ⟨⟨abs, hIs⟩, hnds, hws⟩ := h.2.2.2.2.1 s hs
        obtain ⟨hWd, hWm⟩ := zR_W h hs
        obtain ⟨hOd, hOm⟩ := zR_W h ho
        obtain ⟨N2, E2⟩ := ze_McopyTree (μ := μ) (D + 25) (f := o) (t := 6) (by omega) (by decide) (by omega)
        rw [q6] at E2
        have tq := zu_cq_eqT (μ := μ) (f := o) (t := 6)
        have fq : zu_fr 6 μ (zu_cq μ o 6 24 240) := zu_cq_fr
        generalize hμa : zu_cq μ o 6 24 240 = μa at E2 tq fq
        obtain ⟨lca, cMa⟩ := zM_c (μ := μa)
        have hIa := tq.I hIo
        have ts := fq.eqT (τ := s) (by omega)
        have hIas := ts.I hIs
        have etb : ∀ n ∈ zy_lvs (us s), zu_tb μa s n = zu_tb μ s n := fun n hn => ts.tb (zu_I_lt hIs hn) (zu_I_tbl hIs hn)
        have eW : (zy_lvs (us s)).flatMap (zu_tb μa s) = (zy_lvs (us s)).flatMap (zu_tb μ s) := by
          have : ∀ l : List Nat, (∀ n ∈ l, zu_tb μa s n = zu_tb μ s n) → l.flatMap (zu_tb μa s) = l.flatMap (zu_tb μ s) := fun l => by
            induction l with
            | nil => intro _; rfl
            | cons a l ih =>
              intro hh
              rw [List.flatMap_cons, List.flatMap_cons, hh a (List.mem_cons_self ..), ih (fun n hn => hh n (List.mem_cons_of_mem _ hn))]
          exact this _ etb
        have hemp : ∃ emp : Bool, (emp = true → us o = .nil) ∧ (emp = false → zy_wf (us o)) := by
          rcases zu_I_or hIo with e | e
          · exact ⟨true, fun _ => e, fun z => by cases z⟩
          · exact ⟨false, fun z => by cases z, fun _ => e⟩
        obtain ⟨emp, he, he'⟩ := hemp
        obtain ⟨ξ, ξ2, n0, ⟨N3, E3⟩, fv, hA⟩ := ze_MmoveTabs (μ := μa) (D) (f := s) (τ := 6) (emp := emp) (by omega) (by decide) (by omega) hIa hIas he he' (by
          rw [eW]
          refine zv_nodup10 ?_ ?_
          · cases emp with
            | true => rw [if_pos rfl]; exact hWd
            | false =>
              rw [if_neg (by decide)]
              have hm := zl_mem (zy_lvs_pos (he' rfl))
              rw [tq.tb (zu_I_lt hIo hm) (zu_I_tbl hIo hm)]
              refine List.nodup_append.mpr ⟨hndo.1 _ hm, hWd, fun x hx y hy e => ?_⟩
              subst e
              have e1 := (hWm x hy).2.2
              have e2 := (hwo _ hm x hx).2
              exact hso ((nI_eq (by omega) (by omega)).mp (e1.symm.trans e2))
          · intro x hx
            rcases List.mem_append.mp hx with hx | hx
            · cases emp with
              | true => rw [if_pos rfl] at hx; cases hx
              | false =>
                rw [if_neg (by decide)] at hx
                have hm := zl_mem (zy_lvs_pos (he' rfl))
                rw [tq.tb (zu_I_lt hIo hm) (zu_I_tbl hIo hm)] at hx
                exact (zu_I_tb hIo hm).2.2 x hx
            · exact (hWm x hx).1)
        rw [eW] at E3 hA
        rw [q6] at E3
        generalize hW : (zy_lvs (us s)).flatMap (zu_tb μ s) = W at E3 hA
        obtain ⟨lc2, cM2⟩ := zM_c (μ := ξ2)
        have f2 : ∀ c d, ¬ (c = 231 ∧ d = 30) → c ≠ 259 → ¬ zu_in 6 c d → ξ2 c d = μ c d := fun c d r1 r2 r3 => (hA.2.1 c d r3).trans ((fv c d r1 r2).trans (fq c d r3))
        have f23 : ∀ c d, 232 ≤ c → c < 243 → ξ2 c d = μ c d := fun c d r1 r2 => f2 c d (by omega) (by omega) (zu_in_not (Or.inl r2))
        obtain ⟨ab2, hI2⟩ := hA.1
        have hsz := h.2.2.2.2.2.2 o ho
        obtain ⟨N4, E4⟩ := ze_Mfits (μ := ξ2) (D + 1) (τ := 6) (by decide) hI2 hsz.1 hsz.2
        rw [q6] at E4
        generalize hb0 : zu_fit ξ2 6 (zy_ad emp (us o) W n0) (μ 232 o) (μ 233 o) = b0 at E4
        have S2 : ze_S (D + 27) 7 (some .int) zc_X6_gone 46 L1 [] (zm_mk μ) 100 (zi_set (zi_set (zi_set L1 3 (.int (nI W.length))) 4 (.int (if b0 = true then 1 else 0))) 5 (.int (nI 0))) [] (zm_mk ξ2) := by
          have nl := nl1
          refine ⟨N2 + N3 + N4, 30, fun F m hF => ?_⟩
          simp (maxDischargeDepth := 9) [zi_go, zf_X6_gone, zi_ask, zi_new, zi_step, zi_ld, zi_lda, zi_cmp, zi_retOk, zi_isI, zi_f3, zi_cr, zi_ci, zi_cn, zi_get_ne, zi_nl_i, zi_nl_r, zi_get_set_eq, nl, a0, a1, a2, zM_g, zm_iald (k := 0) zM_A232 is, zm_iald (k := 0) zM_A232 io, zm_iald (k := 0) zM_A233 io, cs, co, c0, m1, h6, cM, cMa, cM2, zq_Mod_copyTree, zq_Mod_moveTabs, zq_Mod_fits, E2 F (by omega), E3 F (by omega), f23 232 o (by decide) (by decide), f23 233 o (by decide) (by decide), E4 F (by omega), nI_0]
        obtain ⟨L2, h2, S3, nl2, b0', b1, b2, b3, b4, rfl⟩ := zv_gnB (μ := ξ2) (D + 26) hs ho b0 W.length (zi_set (zi_set (zi_set L1 3 (.int (nI W.length))) 4 (.int (if b0 = true then 1 else 0))) 5 (.int (nI 0))) (zi_nl_i (zi_nl_i (zi_nl_i nl1))) (by have nl := nl1; simp (maxDischargeDepth := 9) [zi_get_ne, zi_nl_i, zi_nl_r, zi_get_set_eq, nl, a0]) (by have nl := nl1; simp (maxDischargeDepth := 9) [zi_get_ne, zi_nl_i, zi_nl_r, zi_get_set_eq, nl, a1]) (by have nl := nl1; simp (maxDischargeDepth := 9) [zi_get_ne, zi_nl_i, zi_nl_r, zi_get_set_eq, nl, a2]) (by have nl := nl1; simp (maxDischargeDepth := 9) [zi_get_ne, zi_nl_i, zi_nl_r, zi_get_set_eq, nl]) (by have nl := nl1; simp (maxDischargeDepth := 9) [zi_get_ne, zi_nl_i, zi_nl_r, zi_get_set_eq, nl]) zi_get_set_eq
        have eon : (fun k => zv_on ξ2 k (nI s)) = fun k => zv_on μ k (nI s) := funext fun k => by
          unfold zv_on
          rw [f23 234 k (by decide) (by decide), f23 238 k (by decide) (by decide)]
        have egr : zv_grm ξ2 s o = zv_grm μ s o := funext fun k => by
          unfold zv_grm zv_on
          rw [f23 234 k (by decide) (by decide), f23 238 k (by decide) (by decide), f23 235 k (by decide) (by decide), f23 236 k (by decide) (by decide), f23 232 o (by decide) (by decide), f23 233 o (by decide) (by decide)]
        rw [eon] at b3
        rw [egr] at b4
        have tail : (zv_gd (zv_grm μ s o) b0 10 = false ∧ ∃ v, ze_G (D + 27) 7 (some .int) zc_X6_gone 174 L2 [] (zm_mk ξ2) (some (.int v)) (zm_mk ξ2)) ∨ (zv_gd (zv_grm μ s o) b0 10 = true ∧ ∃ ν v, ze_G (D + 27) 7 (some .int) zc_X6_gone 174 L2 [] (zm_mk ξ2) (some (.int v)) (zm_mk ν) ∧ zv_gne μ ξ2 ν s o (W.length + zl_ct (fun k => zv_on μ k (nI s)) 10)) := by
          generalize zv_gd (zv_grm μ s o) b0 10 = good at b4
          generalize hn : W.length + zl_ct (fun k => zv_on μ k (nI s)) 10 = n at b3
          cases good with
          | false =>
            have b4 : zi_get L2 4 = some (.int 0) := b4
            refine Or.inl ⟨rfl, -1000000002, 0, 4, fun F m hF => ?_⟩
            simp [zi_go, zf_X6_gone, zi_ask, zi_new, zi_step, zi_ld, zi_lda, zi_cmp, zi_retOk, zi_isI, zi_f3, zi_cr, zi_ci, zi_cn, b4, n2]
          | true =>
            have b4 : zi_get L2 4 = some (.int 1) := b4
            have hn31 : n < 2 ^ 31 := by
              have := zl_ct_le (fun k => zv_on μ k (nI s)) 10
              have : W.length ≤ 10 := by rw [← hW]; exact zv_nodup10 hWd (fun x hx => (hWm x hx).1)
              omega
            have e3 : (3 : Int32) + nI s = nI (3 + s) := by rw [show (3 : Int32) = nI 3 by decide, nI_add]
            have n10 : ¬ (1 : Int32) = 0 := by decide
            obtain ⟨N5, E5⟩ := ze_McopyTree (μ := ξ2) (D + 25) (f := s) (t := 3 + s) (by omega) (by omega) (by omega)
            have tb := zu_cq_eqT (μ := ξ2) (f := s) (t := 3 + s)
            have fb : zu_fr (3 + s) ξ2 (zu_cq ξ2 s (3 + s) 24 240) := zu_cq_fr
            generalize zu_cq ξ2 s (3 + s) 24 240 = μb at E5 tb fb
            have hv : ∃ v : Int32, (v = 0 ∨ v = 1) ∧ v = (if 0 < n then 1 else 0) ∧ ze_S (D + 27) 7 (some .int) zc_X6_gone 174 L2 [] (zm_mk ξ2) 208 (zi_set L2 5 (.int (nI 0))) [] (zm_mk (zm_up μb 251 s v)) := by
              have nl := nl2
              by_cases cn : 0 < n
              · have cn' : ¬ nI n ≤ 0 := by
                  have := nI_ge (a := 0) (b := n) cn hn31
                  rw [nI_0] at this
                  exact this
                refine ⟨1, Or.inr rfl, by rw [if_pos cn], N5, 18, fun F m hF => ?_⟩
                have o1 : (1 : Int32) = 0 ∨ (1 : Int32) = 1 := Or.inr rfl
                simp (maxDischargeDepth := 9) [zi_go, zf_X6_gone, zi_ask, zi_new, zi_step, zi_ld, zi_lda, zi_cmp, zi_retOk, zi_isI, zi_f3, zi_cr, zi_ci, zi_cn, zi_get_ne, zi_nl_i, zi_nl_r, zi_get_set_eq, nl, b0', b1, b2, b3, b4, n10, e3, cM2, zM_g, zq_Mod_copyTree, E5 F (by omega), cn', zm_bast zM_A251 is o1, cs, nI_0]
              · have cn' : nI n ≤ 0 := by
                  have : n = 0 := by omega
                  rw [this]; decide
                refine ⟨0, Or.inl rfl, by rw [if_neg cn], N5, 17, fun F m hF => ?_⟩
                have o1 : (0 : Int32) = 0 ∨ (0 : Int32) = 1 := Or.inl rfl
                simp (maxDischargeDepth := 9) [zi_go, zf_X6_gone, zi_ask, zi_new, zi_step, zi_ld, zi_lda, zi_cmp, zi_retOk, zi_isI, zi_f3, zi_cr, zi_ci, zi_cn, zi_get_ne, zi_nl_i, zi_nl_r, zi_get_set_eq, nl, b0', b1, b2, b3, b4, n10, e3, cM2, zM_g, zq_Mod_copyTree, E5 F (by omega), cn', zm_bast zM_A251 is o1, cs, nI_0]
            obtain ⟨v, -, ev, S4⟩ := hv
            have fc : ∀ c d, ¬ (c = 251 ∧ d = s) → zm_up μb 251 s v c d = μb c d := fun c d r => zm_up_ne r
            have ec : zm_up μb 251 s v 251 s = v := zm_up_eq
            generalize zm_up μb 251 s v = μc at S4 fc ec
            have kc : ∀ k, μc 234 k = μ 234 k := fun k => (fc _ _ (by omega)).trans ((fb _ _ (zu_in_not (by decide))).trans (f23 _ _ (by decide) (by decide)))
            have kc8 : ∀ k, μc 238 k = μ 238 k := fun k => (fc _ _ (by omega)).trans ((fb _ _ (zu_in_not (by decide))).trans (f23 _ _ (by decide) (by decide)))
            have eons : ∀ k, zv_ons μc s k = zv_ons μ s k := fun k => by
              unfold zv_ons
              rw [kc, kc8]
            obtain ⟨L3, h3, S5, nl3, d0, d1, d2, d3, μd, rfl, gw⟩ := zv_gnC (μ := μc) (n0 := n) (D + 25) hs ho (fun k hk => by rw [kc]; exact h.1 k hk) (zi_set L2 5 (.int (nI 0))) (zi_nl_i nl2) (by have nl := nl2; simp (maxDischargeDepth := 9) [zi_get_ne, zi_nl_i, zi_nl_r, zi_get_set_eq, nl, b0']) (by have nl := nl2; simp (maxDischargeDepth := 9) [zi_get_ne, zi_nl_i, zi_nl_r, zi_get_set_eq, nl, b1]) (by have nl := nl2; simp (maxDischargeDepth := 9) [zi_get_ne, zi_nl_i, zi_nl_r, zi_get_set_eq, nl, b2]) (by have nl := nl2; simp (maxDischargeDepth := 9) [zi_get_ne, zi_nl_i, zi_nl_r, zi_get_set_eq, nl, b3]) zi_get_set_eq
            obtain ⟨g1, g2, g3⟩ := gw
            obtain ⟨lcd, cMd⟩ := zM_c (μ := μd)
            obtain ⟨N6, E6⟩ := ze_McopyTree (μ := μd) (D + 25) (f := 6) (t := o) (by decide) (by omega) (by omega)
            rw [q6] at E6
            have te := zu_cq_eqT (μ := μd) (f := 6) (t := o)
            have fe : zu_fr o μd (zu_cq μd 6 o 24 240) := zu_cq_fr
            generalize zu_cq μd 6 o 24 240 = μe at E6 te fe
            obtain ⟨lce, cMe⟩ := zM_c (μ := μe)
            obtain ⟨μf, ⟨N7, E7⟩, hE, ff⟩ := ze_MclearTreeI (μ := μe) (D + 25) (τ := s) (by omega)
            have fz : ∀ c d, ¬ (c = 232 ∧ d = s) → ¬ (c = 233 ∧ d = s) → zm_up (zm_up μf 232 s 0) 233 s 0 c d = μf c d := fun c d r1 r2 => by rw [zm_up_ne r2, zm_up_ne r1]
            have z1 : zm_up (zm_up μf 232 s 0) 233 s 0 232 s = 0 := by rw [zm_up_ne (by omega), zm_up_eq]
            have z2 : zm_up (zm_up μf 232 s 0) 233 s 0 233 s = 0 := zm_up_eq
            have G : ze_G (D + 27) 7 (some .int) zc_X6_gone 365 L3 [] (zm_mk μd) (some (.int (nI n))) (zm_mk (zm_up (zm_up μf 232 s 0) 233 s 0)) := by
              refine ⟨N6 + N7, 19, fun F m hF => ?_⟩
              simp [zi_go, zf_X6_gone, zi_ask, zi_new, zi_step, zi_ld, zi_lda, zi_cmp, zi_retOk, zi_isI, zi_f3, zi_cr, zi_ci, zi_cn, d0, d1, d2, d3, h6, zM_g, cMd, cMe, zq_Mod_copyTree, zq_Mod_clearTree, E6 F (by omega), E7 F (by omega), zm_iast zM_A232 is, zm_iast zM_A233 is, cs]
            generalize zm_up (zm_up μf 232 s 0) 233 s 0 = μz at fz z1 z2 G
            refine Or.inr ⟨rfl, μz, nI n, S4.end (S5.end G), ?_⟩
            -- cells that are in no tree
            have fzin : ∀ τ c d, zu_in τ c d → μz c d = μf c d := fun τ c d r => fz c d (fun z => zu_in_not (Or.inl (by omega)) r) (fun z => zu_in_not (Or.inl (by omega)) r)
            have gin : ∀ τ c d, zu_in τ c d → μd c d = μc c d := fun τ c d r => by
              have hc : 243 ≤ c ∧ c ≤ 250 := by
                have := fun z => zu_in_not (τ := τ) (c := c) (d := d) z r
                omega
              exact g3 c d (by omega) (by omega) (by omega) (by omega) (by omega) (by omega)
            have eqin : ∀ {A B : zm_M} {τ : Nat}, (∀ c d, zu_in τ c d → B c d = A c d) → zu_eqT A τ B τ := fun {A B τ} hh => by
              refine ⟨hh _ _ (Or.inl ⟨rfl, rfl⟩), fun c n hc hn => hh _ _ (Or.inr (Or.inl ⟨hc, by omega, by omega⟩)), fun n j hn hj => hh _ _ (Or.inr (Or.inr ⟨rfl, by omega, by omega⟩))⟩
            have cin : ∀ τ c d, zu_in τ c d → μc c d = μb c d := fun τ c d r => fc c d (fun z => zu_in_not (Or.inr (by omega)) r)
            have t3s : zu_eqT μ s μz (3 + s) := by
              have t1 : zu_eqT μ s ξ2 s := eqin fun c d r => f2 c d (fun z => zu_in_not (Or.inl (by omega)) r) (fun z => zu_in_not (Or.inr (by omega)) r) (zu_in_ne r (by omega))
              have t2 : zu_eqT μb (3 + s) μc (3 + s) := eqin (cin _)
              have t3 : zu_eqT μc (3 + s) μd (3 + s) := eqin (gin _)
              have t4 := fe.eqT (τ := 3 + s) (by omega)
              have t5 := ff.eqT (τ := 3 + s) (by omega)
              have t6 : zu_eqT μf (3 + s) μz (3 + s) := eqin (fzin _)
              exact t1.trans (tb.trans (t2.trans (t3.trans (t4.trans (t5.trans t6)))))
            have t6o : zu_eqT ξ2 6 μz o := by
              have t1 := fb.eqT (τ := 6) (by omega)
              have t2 : zu_eqT μb 6 μc 6 := eqin (cin _)
              have t3 : zu_eqT μc 6 μd 6 := eqin (gin _)
              have t5 := ff.eqT (τ := o) (by omega)
              have t6 : zu_eqT μf o μz o := eqin (fzin _)
              exact t1.trans (t2.trans (t3.trans (te.trans (t5.trans t6))))
            have tes : zu_I μz s .nil (fun _ => -1) := (eqin (fzin s) : zu_eqT μf s μz s).I hE
            have up : ∀ c d, c < 243 ∨ 250 < c → ¬ (c = 232 ∧ d = s) → ¬ (c = 233 ∧ d = s) → μz c d = μd c d := fun c d r1 r2 r3 => (fz c d r2 r3).trans ((ff c d (zu_in_not r1)).trans (fe c d (zu_in_not r1)))
            refine ⟨t3s, t6o, tes, ?_, fun k hk => ?_, fun k hk => ?_, ⟨z1, z2⟩, fun c d r1 r2 r3 r4 r5 r6 r7 r8 r9 ra rb rc rd => ?_⟩
            · rw [up _ _ (by decide) (by omega) (by omega), g3 _ _ (by decide) (by decide) (by decide) (by decide) (by decide) (by omega), ec, ev, hn]
            · rw [up _ _ (by decide) (by omega) (by omega), g1 k hk, eons]
            · rw [up _ _ (by decide) (by omega) (by omega), g2 k hk, eons, kc8]
              simp only [hk, decide_true, true_and]
            · rw [fz c d r8 r9, ff c d ra, fe c d rb, g3 c d r2 r3 r4 (by omega) (by omega) r6, fc c d r7, fb c d rc]
              exact f2 c d r1 (by omega) rd
        rcases tail with ⟨q1, v, G⟩ | ⟨q1, ν, v, G, q2⟩
        · refine ⟨ξ2, v, ze_in [(0, .ref 232), (1, .int (nI s))] zq_Mod_gone (Nat.le_of_ble_eq_true rfl) rfl (S0.end (S1.end (S2.end (S3.end G)))), Or.inr ⟨s, o, emp, ξ, ξ2, n0, W, hs, ho, hso, rfl, c0, p2, eo', he, he', hW.symm, by rw [hμa]; exact fv, hA, Or.inl ⟨by rw [hb0]; exact q1, rfl⟩⟩⟩
        · refine ⟨ν, v, ze_in [(0, .ref 232), (1, .int (nI s))] zq_Mod_gone (Nat.le_of_ble_eq_true rfl) rfl (S0.end (S1.end (S2.end (S3.end G)))), Or.inr ⟨s, o, emp, ξ, ξ2, n0, W, hs, ho, hso, rfl, c0, p2, eo', he, he', hW.symm, by rw [hμa]; exact fv, hA, Or.inr ⟨by rw [hb0]; exact q1, q2⟩⟩⟩
      · rw [← hlso] at eo
        rw [eo] at a2
        have m1 : ¬ (0 : Int32) ≤ -1 := by decide
        refine ⟨μ, -1000000002, ze_in [(0, .ref 232), (1, .int (nI s))] zq_Mod_gone (Nat.le_of_ble_eq_true rfl) rfl (S0.end (S1.end ⟨0, 9, fun F n hF => ?_⟩)), Or.inl ⟨fun ⟨s', o, b1, b2, b3, b4, b5⟩ => ?_, rfl⟩⟩
        · simp [zi_go, zf_X6_gone, zi_ask, zi_new, zi_step, zi_ld, zi_lda, zi_cmp, zi_retOk, zi_isI, zi_f3, zi_cr, zi_ci, zi_cn, a0, a1, a2, zM_g, zm_iald (k := 0) zM_A232 is, cs, c0, m1, n2]
        · rw [← (nI_eq (by omega) (by omega)).mp b3, eo] at b5
          have : nI o < 0 := by rw [← b5]; decide
          exact nI_pos (by omega) this
  · refine ⟨μ, -1000000001, ze_in [(0, .ref 232), (1, .int w)] zq_Mod_gone (Nat.le_of_ble_eq_true rfl) rfl ⟨N1, 7, fun F n hF => ?_⟩, Or.inl ⟨fun ⟨s', o, b1, b2, b3, _⟩ => hno s' (by omega) b3, rfl⟩⟩
    simp [zi_go, zf_X6_gone, zi_ask, zi_new, zi_step, zi_ld, zi_lda, zi_cmp, zi_retOk, zi_isI, zi_f3, zi_cr, zi_ci, zi_cn, zi_get, zi_set, zq_Mod_isIn, E1 F (by omega), n1]
end ZWK
