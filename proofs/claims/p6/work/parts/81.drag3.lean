/-! the desk: drag, run -/
section ZDL
variable {μ ν : zm_M} {row stk : List Nat} {Rs : Nat → List Nat} {ts : Nat → zy_F}
set_option maxRecDepth 100000 in
theorem ze_drag (D : Nat) (h : zJ μ row stk Rs ts) (w x y : Int32) : ∃ ν r row' stk' Rs' ts', ze_E (D + 16) A_Desk_drag [.ref 1, .int w, .int x, .int y] (zm_mk μ) (some (.int r)) (zm_mk ν) ∧ zJ ν row' stk' Rs' ts' ∧ zd_drgd μ ν row row' Rs Rs' ts ts' w x y := by
  have n2 : Int32.ofInt (-1000000002) = -1000000002 := by decide
  rcases ze_drag_0 (D + 14) h w x y with ⟨hno, r, G⟩ | ⟨k, o, sd, hd, S0⟩
  · exact ⟨μ, r, row, stk, Rs, ts, ze_in [(0, .ref 1), (1, .int w), (2, .int x), (3, .int y)] zq_Desk_drag (Nat.le_of_ble_eq_true rfl) rfl G, h, Or.inl ⟨hno, rfl, rfl, rfl, rfl⟩⟩
  obtain ⟨⟨hk, ho, hsd⟩, ⟨rfl, rfl, rfl⟩, htk, hto, hko⟩ := id hd
  obtain ⟨a, ha, ea, hkR, n, hn, en⟩ := zJ_til h hk htk
  obtain ⟨b, hb, eb, hoR, -⟩ := zJ_til h ho hto
  have hbt : ¬ μ (zdS b) 3 = 0 := by
    obtain ⟨-, -, a3, -, -⟩ := h.2.2.1 o ho (decide_eq_true (of_decide_eq_true hto).1)
    obtain ⟨s', b1, b2, b3⟩ := a3 (by rw [(of_decide_eq_true hto).2]; decide)
    rw [(nI_eq (by omega) (by omega)).mp (eb.symm.trans b2)]
    exact b3
  obtain ⟨ν1, ν0, R', t', m, ⟨N1, E1⟩, d1, d2, d3, d4, f1⟩ := ze_tryDrag (μ := μ) (D + 10) hk ho hko hb hsd eb (h.2.2.2.1 b hb).1.1 hoR
  obtain ⟨R2, t2, htr⟩ := zd_trl_of d1 d2 d3 d4
  obtain ⟨C1, hR2, h52⟩ := zd_trl_R h hb htr
  -- the group
  obtain ⟨ν2, ⟨N2, E2⟩, f2, hg2⟩ := ze_gatherWithDialogs (μ := ν1) (D + 12) hk
  have w1 : ∀ j, ν1 (zdW j) = μ (zdW j) := fun j => f1 _ (by unfold zt_out zdW; omega)
  have eow : zd_ow ν1 = zd_ow μ := funext fun j => by unfold zd_ow; rw [w1]
  have edl : zd_dl ν1 = zd_dl μ := funext fun j => by unfold zd_dl; rw [eow, w1, w1]
  rw [eow, edl] at hg2
  have hg2 : zd_gr ν2 (zd_grp μ k) := hg2
  have o2 : ∀ c, zt_out 7 c → c ≠ 31 → ν2 c = μ c := fun c h1 h2 => (f2 c h2).trans (f1 c h1)
  have C2 : zt_C ν2 7 R2 t2 := zt_C_congr (fun c h1 h2 => f2 c (by omega)) C1
  have ev2 : zJ_eqv μ ν2 := fun c hc => o2 c (zJn_7 hc) (fun e => hc (by rw [e]; unfold zJ_irr; omega))
  obtain ⟨N3, E3⟩ := ze_fitsC (μ := ν2) (D + 13) zd7_at C2 (zdZ_A hb)
  have efit : zt_fit ν2 7 (zdZ b) R2 t2 = zt_fit ν1 7 (zdZ b) R2 t2 := zt_fit_copy ⟨f2 _ (by decide), f2 _ (by decide), f2 _ (by decide), f2 _ (by decide), f2 _ (by decide), f2 _ (by decide)⟩ (f2 _ (by unfold zdZ; omega))
  rw [efit] at E3
  obtain ⟨N4, E4⟩ := ze_groupCanBeWhole (μ := ν2) (D + 13) hg2 hb
  have egw : zl_al (zd_gwf ν2 (zd_grp μ k) (zdZ b)) 10 = zl_al (zd_gwf μ (zd_grp μ k) (zdZ b)) 10 := by
    have key : ∀ j, j < 10 → zd_gwf ν2 (zd_grp μ k) (zdZ b) j = zd_gwf μ (zd_grp μ k) (zdZ b) j := fun j hj => by
      unfold zd_gwf zd_flo zd_whole
      rw [ev2 _ (zJn_W hj).1, ev2 _ (zJn_W hj).2, ev2 _ (zJn_S hb).2.1]
    cases hc : zl_al (zd_gwf μ (zd_grp μ k) (zdZ b)) 10 with
    | true => exact (zl_al_iff 10).mpr (fun j hj => by rw [key j hj]; exact (zl_al_iff 10).mp hc j hj)
    | false =>
      cases hc2 : zl_al (zd_gwf ν2 (zd_grp μ k) (zdZ b)) 10 with
      | false => rfl
      | true =>
        rw [(zl_al_iff 10).mpr (fun j hj => by rw [← key j hj]; exact (zl_al_iff 10).mp hc2 j hj)] at hc
        cases hc
  rw [egw] at E4
  have S1 : ze_S (D + 15) 6 (some .int) zc_X5_drag 63 [(0, .ref 1), (1, .int (nI k)), (2, .int (nI o)), (3, .int (nI sd))] [] (zm_mk μ) 97 [(5, .int (nI b)), (4, .int (nI a)), (0, .ref 1), (1, .int (nI k)), (2, .int (nI o)), (3, .int (nI sd))] [] (zm_mk ν2) := by
    refine ⟨N1 + N2, 20, fun F n hF => ?_⟩
    simp [zg_0, zg_aaload, zg_aload_n, zg_getfield, zg_iconst, zg_ifCond, zg_if_icmp, zg_iload, zg_iload_n, zg_invokestatic, zg_invokevirtual, zg_ireturn, zg_istore, zg_ldc, zf_X5_drag, zi_ld, zi_lda, zi_cmp, zi_retOk, zi_isI, zi_f3, zi_cr, zi_ci, zi_cn, zi_get, zi_set, zd_g, zd_w hk, zd_w ho, zw_g (zdW_at hk), zw_g (zdW_at ho), ea, eb, zq_Desk_tryDrag, zd_c, E1 F (by omega), zq_Desk_gatherWithDialogs, E2 F (by omega)]
  have SS := S0.trans S1
  generalize hL : ([(5, .int (nI b)), (4, .int (nI a)), (0, .ref 1), (1, .int (nI k)), (2, .int (nI o)), (3, .int (nI sd))] : zi_Lc) = L at SS
  have nl : zi_nl L = true := by rw [← hL]; rfl
  have g0 : zi_get L 0 = some (.ref 1) := by rw [← hL]; rfl
  have g1 : zi_get L 1 = some (.int (nI k)) := by rw [← hL]; rfl
  have g4 : zi_get L 4 = some (.int (nI a)) := by rw [← hL]; rfl
  have g5 : zi_get L 5 = some (.int (nI b)) := by rw [← hL]; rfl
  clear hL
  obtain ⟨l7, c7⟩ := zt_c (μ := ν2) zd7_at
  have refuse : (zt_fit ν1 7 (zdZ b) R2 t2 = false ∨ (¬ a = b ∧ zl_al (zd_gwf μ (zd_grp μ k) (zdZ b)) 10 = false)) → ze_G (D + 15) 6 (some .int) zc_X5_drag 97 L [] (zm_mk ν2) (some (.int (-1000000002))) (zm_mk ν2) → ∃ ν r row' stk' Rs' ts', ze_E (D + 16) A_Desk_drag [.ref 1, .int (nI k), .int (nI o), .int (nI sd)] (zm_mk μ) (some (.int r)) (zm_mk ν) ∧ zJ ν row' stk' Rs' ts' ∧ zd_drgd μ ν row row' Rs Rs' ts ts' (nI k) (nI o) (nI sd) := fun hc G =>
    ⟨ν2, _, row, stk, Rs, ts, ze_in [(0, .ref 1), (1, .int (nI k)), (2, .int (nI o)), (3, .int (nI sd))] zq_Desk_drag (Nat.le_of_ble_eq_true rfl) rfl (SS.end G), h.eqv ev2, Or.inr ⟨k, o, sd, a, b, ν1, R2, t2, hd, ha, hb, ea, eb, f1, htr, Or.inl ⟨hc, ev2, rfl, rfl, rfl⟩⟩⟩
  cases hfit : zt_fit ν1 7 (zdZ b) R2 t2 with
  | false =>
    rw [hfit, if_neg (by decide)] at E3
    refine refuse (Or.inl hfit) ⟨N3, 11, fun F n hF => ?_⟩
    simp (maxDischargeDepth := 9) [zg_0, zg_aaload, zg_aload_n, zg_getfield, zg_iconst, zg_ifCond, zg_if_icmp, zg_iload, zg_iload_n, zg_invokestatic, zg_invokevirtual, zg_ireturn, zg_istore, zg_ldc, zf_X5_drag, zi_ld, zi_lda, zi_cmp, zi_retOk, zi_isI, zi_f3, zi_cr, zi_ci, zi_cn, zi_get_ne, zi_nl_i, zi_nl_r, zi_get_set_eq, nl, g0, g5, zd_g, zd_s hb, zdS_g hb, zq_Tree_fits, c7, E3 F (by omega), n2]
  | true =>
    rw [hfit, if_pos rfl] at E3
    have accept : (a = b ∨ zl_al (zd_gwf μ (zd_grp μ k) (zdZ b)) 10 = true) → ze_S (D + 15) 6 (some .int) zc_X5_drag 97 L [] (zm_mk ν2) 136 L [] (zm_mk ν2) → ∃ ν r row' stk' Rs' ts', ze_E (D + 16) A_Desk_drag [.ref 1, .int (nI k), .int (nI o), .int (nI sd)] (zm_mk μ) (some (.int r)) (zm_mk ν) ∧ zJ ν row' stk' Rs' ts' ∧ zd_drgd μ ν row row' Rs Rs' ts ts' (nI k) (nI o) (nI sd) := by
      intro hab S2
      obtain ⟨ν3, ⟨N5, E5⟩, k3, f3⟩ := ze_forgetKeptWith (μ := ν2) (D + 12) hk
      have hhas : ∀ q, q < 3 → zd_has ν2 q k = zd_has μ q k := fun q hq => by
        unfold zd_has
        rw [ev2 _ (zJn_S hq).2.2.1, ev2 _ (zJn_S hq).2.2.2, ev2 _ (zJn_T hq (j := 3) (by decide)).2]
      have r3 : ∀ c, (∀ q, q < 3 → c ≠ zdK q) → ν3 c = ν2 c := fun c hc => funext fun d => f3 c d (fun q hq e => absurd e (hc q hq))
      have t3 : ∀ q, q < 3 → ∀ j, j < 24 → ν3 (zdT q + j) = μ (zdT q + j) := fun q hq j hj => by
        rw [r3 _ (fun q' hq' => by unfold zdT zdK; omega), o2 _ (by unfold zt_out zdT; omega) (by unfold zdT; omega)]
      have hIa : zt_I ν3 (zdT a) (Rs a) (ts a) := zt_same.I ⟨t3 a ha _ (by omega), t3 a ha _ (by omega), t3 a ha _ (by omega), t3 a ha _ (by omega), t3 a ha _ (by omega), t3 a ha _ (by omega), t3 a ha _ (by omega), t3 a ha _ (by omega), t3 a ha _ (by omega), t3 a ha _ (by omega), t3 a ha _ (by omega), by rw [show ν3 (zdT a) = μ (zdT a) from t3 a ha 0 (by omega)]⟩ (h.2.2.2.1 a ha).1.1
      obtain ⟨ν4, ⟨N6, E6⟩, O4, f4⟩ := ze_takeOutI (μ := μ) (Q := zdT a) (D + 11) (zdT_at ha) hIa ⟨t3 a ha _ (by omega), t3 a ha _ (by omega), t3 a ha _ (by omega), t3 a ha _ (by omega), t3 a ha _ (by omega), t3 a ha _ (by omega)⟩ hn hkR en
      have r4 : ∀ c, 7 ≤ c → c < 31 → ν4 c = ν1 c := fun c h1 h2 => by
        rw [f4 c (by unfold zt_out zdT; omega), r3 c (fun q hq => by unfold zdK; omega), f2 c (by omega)]
      have I4 : zt_I ν4 7 R2 t2 := (zt_C_congr (fun c h1 h2 => r4 c h1 (by omega)) C1).1
      obtain ⟨ν5, ⟨N7, E7⟩, C5, f5, l3, l5, l6, l7', l8, l12⟩ := ze_Tree_copyFrom (μ := ν4) (D + 11) (zdT_at hb) zd7_at (by unfold zdT; omega) I4
      have cp5 : zt_isCopy ν1 7 ν5 (zdT b) := ⟨l3.trans (r4 _ (by omega) (by omega)), l5.trans (r4 _ (by omega) (by omega)), l6.trans (r4 _ (by omega) (by omega)), l7'.trans (r4 _ (by omega) (by omega)), l8.trans (r4 _ (by omega) (by omega)), l12.trans (r4 _ (by omega) (by omega))⟩
      -- frames so far
      have fr5 : ∀ c d, zt_out 7 c → c ≠ 31 → zt_out (zdT a) c → zt_out (zdT b) c → (∀ q, q < 3 → c = zdK q → d ≠ 3) → ν5 c d = μ c d := fun c d a1 a2 a3 a4 a5 => by
        rw [f5 c a4, f4 c a3, f3 c d a5, o2 c a1 a2]
      have fk5 : ∀ q, q < 3 → ν5 (zdK q) 3 = if zd_has μ q k = true then 0 else μ (zdK q) 3 := fun q hq => by
        rw [f5 _ (zJn_out hb (Or.inr (Or.inr (Or.inl ⟨q, hq, Or.inr (Or.inr (Or.inl rfl))⟩)))), f4 _ (zJn_out ha (Or.inr (Or.inr (Or.inl ⟨q, hq, Or.inr (Or.inr (Or.inl rfl))⟩)))), k3 q hq, ev2 _ (zJn_S hq).2.2.1]
        simp only [hhas q hq]
      have O5 : ¬ a = b → zt_isOut μ (zdT a) (Rs a) (ts a) n k ν5 (zdT a) := fun hne => by
        obtain ⟨p1, p2, p3, p4, p5, p6, p7⟩ := O4
        have r : ∀ j, j < 24 → ν5 (zdT a + j) = ν4 (zdT a + j) := fun j hj => f5 _ (by unfold zt_out zdT; omega)
        exact ⟨zt_C_congr (fun c h1 h2 => by have := r (c - zdT a) (by omega); rw [show zdT a + (c - zdT a) = c by omega] at this; exact this) p1, fun v => by rw [r 3 (by omega)]; exact p2 v, by rw [r 5 (by omega)]; exact p3, by rw [r 6 (by omega)]; exact p4, fun i hi => by rw [r 7 (by omega)]; exact p5 i hi, by rw [r 8 (by omega)]; exact p6, fun i => by rw [r 12 (by omega)]; exact p7 i⟩
      have gr5 : zd_gr ν5 (zd_grp μ k) := fun j hj => by
        rw [f5 _ (by unfold zt_out zdT; omega), f4 _ (by unfold zt_out zdT; omega), f3 31 j (fun q hq e => by unfold zdK at e; omega)]
        exact hg2 j hj
      have z5 : ν5 (zdZ b) = ν1 (zdZ b) := by
        funext d
        rw [fr5 _ _ (by unfold zt_out zdZ; omega) (by unfold zdZ; omega) (zJn_out ha (Or.inr (Or.inr (Or.inl ⟨b, hb, Or.inr (Or.inl rfl)⟩)))) (zJn_out hb (Or.inr (Or.inr (Or.inl ⟨b, hb, Or.inr (Or.inl rfl)⟩)))) (fun q hq e => by unfold zdZ zdK at e; omega), f1 _ (by unfold zt_out zdZ; omega)]
      obtain ⟨l3c, c3⟩ := zt_c (μ := ν3) (zdT_at ha)
      obtain ⟨l4c, c4⟩ := zt_c (μ := ν4) (zdT_at hb)
      have S3 : ze_S (D + 15) 6 (some .int) zc_X5_drag 136 L [] (zm_mk ν2) 172 L [] (zm_mk ν5) := by
        refine ⟨N5 + N6 + N7, 18, fun F m hF => ?_⟩
        simp (maxDischargeDepth := 9) [zg_0, zg_aaload, zg_aload_n, zg_getfield, zg_iconst, zg_ifCond, zg_if_icmp, zg_iload, zg_iload_n, zg_invokestatic, zg_invokevirtual, zg_ireturn, zg_istore, zg_ldc, zf_X5_drag, zi_ld, zi_lda, zi_cmp, zi_retOk, zi_isI, zi_f3, zi_cr, zi_ci, zi_cn, zi_get_ne, zi_nl_i, zi_nl_r, zi_get_set_eq, nl, g0, g1, g4, g5, zq_Desk_forgetKeptWith, zd_c, E5 F (by omega), zd_g, zd_s ha, zd_s hb, zdS_g ha, zdS_g hb, zq_Tree_takeOut, c3, E6 F (by omega), zq_Tree_copyFrom, c4, E7 F (by omega)]
      -- the dialogs
      have send : ∃ ν6, ze_S (D + 15) 6 (some .int) zc_X5_drag 172 L [] (zm_mk ν5) 185 L [] (zm_mk ν6) ∧ (∀ j, j < 10 → ν6 (zdW j) 5 = if ¬ a = b ∧ zd_grp μ k j = true then nI b else μ (zdW j) 5) ∧ ∀ c d, (∀ j, j < 10 → c = zdW j → d ≠ 5) → (∀ j, j < 10 → c ≠ zdW j + 2) → ν6 c d = ν5 c d := by
        have w5 : ∀ j, j < 10 → ν5 (zdW j) 5 = μ (zdW j) 5 := fun j hj => fr5 _ _ (by unfold zt_out zdW; omega) (by unfold zdW; omega) (zJn_out ha (Or.inr (Or.inl ⟨j, hj, Or.inl rfl⟩))) (zJn_out hb (Or.inr (Or.inl ⟨j, hj, Or.inl rfl⟩))) (fun q hq e => by unfold zdW zdK at e; omega)
        by_cases e : a = b
        · refine ⟨ν5, ⟨0, 3, fun F m hF => ?_⟩, fun j hj => by rw [if_neg (fun q => q.1 e)]; exact w5 j hj, fun _ _ _ _ => rfl⟩
          simp (maxDischargeDepth := 9) [zg_0, zg_aaload, zg_aload_n, zg_getfield, zg_iconst, zg_ifCond, zg_if_icmp, zg_iload, zg_iload_n, zg_invokestatic, zg_invokevirtual, zg_ireturn, zg_istore, zg_ldc, zf_X5_drag, zi_ld, zi_lda, zi_cmp, zi_retOk, zi_isI, zi_f3, zi_cr, zi_ci, zi_cn, zi_get_ne, zi_nl_i, zi_nl_r, zi_get_set_eq, nl, g4, g5, e]
        · have e' : ¬ nI a = nI b := fun q => e ((nI_eq (by omega) (by omega)).mp q)
          obtain ⟨ν6, ⟨N8, E8⟩, s1, s2⟩ := ze_sendGroup (μ := ν5) (D + 9) gr5 hb
          refine ⟨ν6, ⟨N8, 6, fun F m hF => ?_⟩, fun j hj => ?_, s2⟩
          · simp (maxDischargeDepth := 9) [zg_0, zg_aaload, zg_aload_n, zg_getfield, zg_iconst, zg_ifCond, zg_if_icmp, zg_iload, zg_iload_n, zg_invokestatic, zg_invokevirtual, zg_ireturn, zg_istore, zg_ldc, zf_X5_drag, zi_ld, zi_lda, zi_cmp, zi_retOk, zi_isI, zi_f3, zi_cr, zi_ci, zi_cn, zi_get_ne, zi_nl_i, zi_nl_r, zi_get_set_eq, nl, g0, g4, g5, e', zq_Desk_sendGroup, zd_c, E8 F (by omega)]
          · rw [s1 j hj, w5 j hj]
            by_cases q : zd_grp μ k j = true
            · rw [if_pos q, if_pos ⟨e, q⟩]
            · rw [if_neg q, if_neg (fun z => q z.2)]
      obtain ⟨ν6, S4, w6, f6⟩ := send
      have r6 : ∀ c, (∀ j, j < 10 → c ≠ zdW j) → (∀ j, j < 10 → c ≠ zdW j + 2) → ν6 c = ν5 c := fun c a1 a2 => funext fun d => f6 c d (fun j hj e => absurd e (a1 j hj)) a2
      have rT6 : ∀ q, q < 3 → ∀ j, ν6 (zdT q + j) = ν5 (zdT q + j) := fun q hq j => r6 _ (fun i hi => by unfold zdT zdW; omega) (fun i hi => by unfold zdT zdW; omega)
      have C6 : zt_C ν6 (zdT b) R2 t2 := zt_C_congr (fun c h1 h2 => r6 c (fun i hi => by unfold zdT at h1; unfold zdW; omega) (fun i hi => by unfold zdT at h1; unfold zdW; omega)) C5
      have cp6 : zt_isCopy ν1 7 ν6 (zdT b) := ⟨(rT6 b hb _).trans cp5.1, (rT6 b hb _).trans cp5.2.1, (rT6 b hb _).trans cp5.2.2.1, (rT6 b hb _).trans cp5.2.2.2.1, (rT6 b hb _).trans cp5.2.2.2.2.1, (rT6 b hb _).trans cp5.2.2.2.2.2⟩
      have fr6 : ∀ c d, ¬ zJ_irr c → zt_out (zdT a) c → zt_out (zdT b) c → (∀ q, q < 3 → c = zdK q → d ≠ 3) → (∀ j, j < 10 → c = zdW j → d ≠ 5) → ν6 c d = μ c d := fun c d a1 a2 a3 a4 a5 => by
        rw [f6 c d a5 (fun j hj e => a1 (by rw [e]; unfold zJ_irr zdW; omega))]
        exact fr5 c d (zJn_7 a1) (fun e => a1 (by rw [e]; unfold zJ_irr; omega)) a2 a3 a4
      have fk6 : ∀ q, q < 3 → ν6 (zdK q) 3 = if zd_has μ q k = true then 0 else μ (zdK q) 3 := fun q hq => by
        rw [r6 _ (fun i hi => by unfold zdK zdW; omega) (fun i hi => by unfold zdK zdW; omega)]
        exact fk5 q hq
      have O6 : ¬ a = b → zt_isOut μ (zdT a) (Rs a) (ts a) n k ν6 (zdT a) := fun hne => by
        obtain ⟨p1, p2, p3, p4, p5, p6, p7⟩ := O5 hne
        have r := rT6 a ha
        exact ⟨zt_C_congr (fun c h1 h2 => by have := r (c - zdT a); rw [show zdT a + (c - zdT a) = c by omega] at this; exact this) p1, fun v => by rw [r 3]; exact p2 v, by rw [r 5]; exact p3, by rw [r 6]; exact p4, fun i hi => by rw [r 7]; exact p5 i hi, by rw [r 8]; exact p6, fun i => by rw [r 12]; exact p7 i⟩
      have hJ6 := zJ_drag h hk ha hb hbt htk ea hn (G := zd_grp μ k) zd_grp_k (fun j hj q1 q2 => zd_grp_til h hj q1 q2) fr6 fk6 w6 O6 C6 hR2 (fun j hj => by rw [cp6.2.1, cp6.2.2.1]; exact h52 j hj) (by
        rw [zt_fit_copy (A := ν1) (T := 7) cp6 (by rw [r6 _ (fun i hi => by unfold zdZ zdW; omega) (fun i hi => by unfold zdZ zdW; omega)]; exact z5)]
        exact hfit)
      have htk6 : zd_th ν6 k = true := ((hJ6.1.2.2 k).mp ((h.1.2.2 k).mpr ⟨hk, decide_eq_true (of_decide_eq_true htk).1⟩)).2
      obtain ⟨ν7, stk', ⟨N9, E9⟩, hJ7, hf7⟩ := ze_giveFocusJ (μ := ν6) D hJ6 hk htk6
      refine ⟨ν7, 0, k :: row.erase k, stk', _, _, ze_in [(0, .ref 1), (1, .int (nI k)), (2, .int (nI o)), (3, .int (nI sd))] zq_Desk_drag (Nat.le_of_ble_eq_true rfl) rfl ((((SS.trans S2).trans S3).trans S4).end ⟨N9, 5, fun F m hF => ?_⟩), hJ7, Or.inr ⟨k, o, sd, a, b, ν1, R2, t2, hd, ha, hb, ea, eb, f1, htr, Or.inr ⟨⟨hfit, hab⟩, rfl, n, ν6, hn, en, rfl, rfl, fr6, fk6, w6, O6, cp6, C6, hf7⟩⟩⟩
      simp (maxDischargeDepth := 9) [zg_0, zg_aaload, zg_aload_n, zg_getfield, zg_iconst, zg_ifCond, zg_if_icmp, zg_iload, zg_iload_n, zg_invokestatic, zg_invokevirtual, zg_ireturn, zg_istore, zg_ldc, zf_X5_drag, zi_ld, zi_lda, zi_cmp, zi_retOk, zi_isI, zi_f3, zi_cr, zi_ci, zi_cn, zi_get_ne, zi_nl_i, zi_nl_r, zi_get_set_eq, nl, g0, g1, zq_Desk_giveFocus, zd_c, E9 F (by omega)]
    by_cases e : a = b
    · have e' : nI a = nI b := by rw [e]
      refine accept (Or.inl e) ⟨N3, 12, fun F m hF => ?_⟩
      simp (maxDischargeDepth := 9) [zg_0, zg_aaload, zg_aload_n, zg_getfield, zg_iconst, zg_ifCond, zg_if_icmp, zg_iload, zg_iload_n, zg_invokestatic, zg_invokevirtual, zg_ireturn, zg_istore, zg_ldc, zf_X5_drag, zi_ld, zi_lda, zi_cmp, zi_retOk, zi_isI, zi_f3, zi_cr, zi_ci, zi_cn, zi_get_ne, zi_nl_i, zi_nl_r, zi_get_set_eq, nl, g0, g4, g5, zd_g, zd_s hb, zdS_g hb, zq_Tree_fits, c7, E3 F (by omega), e]
    · have e' : ¬ nI a = nI b := fun q => e ((nI_eq (by omega) (by omega)).mp q)
      cases hgw : zl_al (zd_gwf μ (zd_grp μ k) (zdZ b)) 10 with
      | false =>
        rw [hgw, if_neg (by decide)] at E4
        refine refuse (Or.inr ⟨e, hgw⟩) ⟨N3 + N4, 18, fun F n hF => ?_⟩
        simp (maxDischargeDepth := 9) [zg_0, zg_aaload, zg_aload_n, zg_getfield, zg_iconst, zg_ifCond, zg_if_icmp, zg_iload, zg_iload_n, zg_invokestatic, zg_invokevirtual, zg_ireturn, zg_istore, zg_ldc, zf_X5_drag, zi_ld, zi_lda, zi_cmp, zi_retOk, zi_isI, zi_f3, zi_cr, zi_ci, zi_cn, zi_get_ne, zi_nl_i, zi_nl_r, zi_get_set_eq, nl, g0, g4, g5, zd_g, zd_s hb, zdS_g hb, zq_Tree_fits, c7, E3 F (by omega), e', zq_Desk_groupCanBeWhole, zd_c, E4 F (by omega), n2]
      | true =>
        rw [hgw, if_pos rfl] at E4
        refine accept (Or.inr hgw) ⟨N3 + N4, 16, fun F n hF => ?_⟩
        simp (maxDischargeDepth := 9) [zg_0, zg_aaload, zg_aload_n, zg_getfield, zg_iconst, zg_ifCond, zg_if_icmp, zg_iload, zg_iload_n, zg_invokestatic, zg_invokevirtual, zg_ireturn, zg_istore, zg_ldc, zf_X5_drag, zi_ld, zi_lda, zi_cmp, zi_retOk, zi_isI, zi_f3, zi_cr, zi_ci, zi_cn, zi_get_ne, zi_nl_i, zi_nl_r, zi_get_set_eq, nl, g0, g4, g5, zd_g, zd_s hb, zdS_g hb, zq_Tree_fits, c7, E3 F (by omega), e', zq_Desk_groupCanBeWhole, zd_c, E4 F (by omega)]
end ZDL
