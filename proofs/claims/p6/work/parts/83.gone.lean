/-! the desk: gone -/
section ZGO
variable {μ ν : zm_M} {row stk : List Nat} {Rs : Nat → List Nat} {ts : Nat → zy_F}
/-- the trial tree when the screen s goes to o -/
def zd_gtr (μ ν2 : zm_M) (Rs : Nat → List Nat) (ts : Nat → zy_F) (s o : Nat) (emp : Bool) (W : List Nat) : Prop :=
  ∃ ν1, zt_frT 7 μ ν1 ∧ zt_isCopy μ (zdT o) ν1 7 ∧ zt_C ν1 7 (Rs o) (ts o) ∧ (emp = true → ts o = .nil ∧ Rs o = []) ∧ (emp = false → zy_wf (ts o)) ∧ W = (zy_lvs (ts s)).flatMap (zt_tb μ (zdT s) (Rs s)) ∧ zt_AD ν1 7 (zdT s) (Rs o) (ts o) emp W ν2
def zd_gon (μ ν : zm_M) (Rs Rs' : Nat → List Nat) (ts ts' : Nat → zy_F) (w : Int32) : Prop :=
  ((¬ ∃ s o, s < 3 ∧ o < 3 ∧ w = nI s ∧ ¬ μ (zdS s) 3 = 0 ∧ zd_lsb μ (nI s) = nI o) ∧ ν = μ ∧ Rs' = Rs ∧ ts' = ts) ∨
  ∃ s o ν2 emp W n0, s < 3 ∧ o < 3 ∧ s ≠ o ∧ w = nI s ∧ ¬ μ (zdS s) 3 = 0 ∧ ¬ μ (zdS o) 3 = 0 ∧ zd_lsb μ (nI s) = nI o ∧ zd_gtr μ ν2 Rs ts s o emp W ∧ zt_C ν2 7 (Rs o ++ W) (zy_ad emp (ts o) W n0) ∧
    (((zt_fit ν2 7 (zdZ o) (Rs o ++ W) (zy_ad emp (ts o) W n0) = false ∨ zl_al (zd_lwf μ (nI s) (zdZ o)) 10 = false) ∧ zJ_eqv μ ν ∧ Rs' = Rs ∧ ts' = ts) ∨
     ((zt_fit ν2 7 (zdZ o) (Rs o ++ W) (zy_ad emp (ts o) W n0) = true ∧ zl_al (zd_lwf μ (nI s) (zdZ o)) 10 = true) ∧ Rs' = zd_goR Rs s o (Rs o ++ W) ∧ ts' = zd_goT ts s o (zy_ad emp (ts o) W n0) ∧
       (∀ c d, ¬ zJ_irr c → zt_out (zdT s) c → zt_out (zdT o) c → zt_out (zdV s) c → c ≠ zdQ s → ¬ (c = zdK s ∧ d = 3) → ¬ (c = zdS s ∧ d = 3) → (∀ j, j < 10 → c = zdW j → d ≠ 5) → ν c d = μ c d) ∧ ν (zdS s) 3 = 0 ∧ ν (zdK s) 3 = (if 0 < zl_ct (zd_on μ (nI s)) 10 then 1 else 0) ∧
       (∀ j, j < 10 → ν (zdW j) 5 = if zd_on μ (nI s) j = true then nI o else μ (zdW j) 5) ∧ (∀ j, j < 10 → ν (zdQ s) j = if zd_loose μ (nI s) j = true then 1 else 0) ∧ zt_isCopy μ (zdT s) ν (zdV s) ∧ zt_isCopy ν2 7 ν (zdT o)))
set_option maxRecDepth 100000 in
theorem ze_gone (D : Nat) (h : zJ μ row stk Rs ts) (w : Int32) : ∃ ν r Rs' ts', ze_E (D + 7) A_Desk_gone [.ref 1, .int w] (zm_mk μ) (some (.int r)) (zm_mk ν) ∧ zJ ν row stk Rs' ts' ∧ zd_gon μ ν Rs Rs' ts ts' w := by
  have n4 : Int32.ofInt (-1000000001) = -1000000001 := by decide
  have n2 : Int32.ofInt (-1000000002) = -1000000002 := by decide
  have inj3 : ∀ {x y : Nat}, x < 3 → y < 3 → nI x = nI y → x = y := fun hx hy e => (nI_eq (by omega) (by omega)).mp e
  rcases zd_rng w 3 (by decide) with ⟨s, hs, rfl⟩ | hout
  rotate_left
  · obtain ⟨N1, E1⟩ := ze_isScreen_out (h := zm_mk μ) (D + 5) hout
    refine ⟨μ, -1000000001, Rs, ts, ze_in [(0, .ref 1), (1, .int w)] zq_Desk_gone (Nat.le_of_ble_eq_true rfl) rfl ⟨N1, 5, fun F n hF => ?_⟩, h, Or.inl ⟨fun ⟨s, o, q1, _, q2, _⟩ => ?_, rfl, rfl, rfl⟩⟩
    · simp [zg_0, zg_aaload, zg_aload_n, zg_astore_n, zg_getfield, zg_iconst, zg_ifCond, zg_iload, zg_iload_n, zg_invokestatic, zg_invokevirtual, zg_ireturn, zg_istore, zg_istore_n, zg_ldc, zg_putfield, zf_X5_gone, zi_ld, zi_lda, zi_cmp, zi_retOk, zi_isI, zi_f3, zi_cr, zi_ci, zi_cn, zi_get, zi_set, zq_Desk_isScreen, E1 F (by omega), n4]
    · rw [q2] at hout
      exact hout.elim (nI_pos (by omega)) (nI_ge (b := 3) q1 (by decide))
  obtain ⟨N1, E1⟩ := ze_isScreen_in (h := zm_mk μ) (D + 5) hs
  obtain ⟨N2, E2⟩ := ze_leastScreenBut (μ := μ) (D + 5) (nI s)
  by_cases c1 : μ (zdS s) 3 = 0
  · generalize zd_lsb μ (nI s) = v at E2
    refine ⟨μ, -1000000002, Rs, ts, ze_in [(0, .ref 1), (1, .int (nI s))] zq_Desk_gone (Nat.le_of_ble_eq_true rfl) rfl ⟨N1 + N2, 15, fun F n hF => ?_⟩, h, Or.inl ⟨fun ⟨s', o, q1, _, q2, q3, _⟩ => q3 (by rw [← inj3 hs q1 q2]; exact c1), rfl, rfl, rfl⟩⟩
    simp [zg_0, zg_aaload, zg_aload_n, zg_astore_n, zg_getfield, zg_iconst, zg_ifCond, zg_iload, zg_iload_n, zg_invokestatic, zg_invokevirtual, zg_ireturn, zg_istore, zg_istore_n, zg_ldc, zg_putfield, zf_X5_gone, zi_ld, zi_lda, zi_cmp, zi_retOk, zi_isI, zi_f3, zi_cr, zi_ci, zi_cn, zi_get, zi_set, zq_Desk_isScreen, E1 F (by omega), zq_Desk_leastScreenBut, zd_c, E2 F (by omega), zd_g, zd_s hs, zdS_g hs, c1, n2]
  rcases zd_lsb_or (μ := μ) (nI s) with e1 | ⟨o, ho, e1, hne, hot⟩
  · rw [e1] at E2
    have cm : ¬ (0 : Int32) ≤ -1 := by decide
    refine ⟨μ, -1000000002, Rs, ts, ze_in [(0, .ref 1), (1, .int (nI s))] zq_Desk_gone (Nat.le_of_ble_eq_true rfl) rfl ⟨N1 + N2, 17, fun F n hF => ?_⟩, h, Or.inl ⟨fun ⟨s', o, q1, q2, q3, _, q4⟩ => ?_, rfl, rfl, rfl⟩⟩
    · simp [zg_0, zg_aaload, zg_aload_n, zg_astore_n, zg_getfield, zg_iconst, zg_ifCond, zg_iload, zg_iload_n, zg_invokestatic, zg_invokevirtual, zg_ireturn, zg_istore, zg_istore_n, zg_ldc, zg_putfield, zf_X5_gone, zi_ld, zi_lda, zi_cmp, zi_retOk, zi_isI, zi_f3, zi_cr, zi_ci, zi_cn, zi_get, zi_set, zq_Desk_isScreen, E1 F (by omega), zq_Desk_leastScreenBut, zd_c, E2 F (by omega), zd_g, zd_s hs, zdS_g hs, c1, cm, n2]
    · rw [← q3, e1] at q4
      have : nI o < 0 := by rw [← q4]; decide
      exact nI_pos (by omega) this
  rw [e1] at E2
  have hso : s ≠ o := fun e => hne (by rw [e])
  have co : (0 : Int32) ≤ nI o := nI_pos' (by omega)
  obtain ⟨Co, mo, lo⟩ := h.2.2.2.1 o ho
  obtain ⟨Cs, ms, ls⟩ := h.2.2.2.1 s hs
  -- the trial
  obtain ⟨ν1, ⟨N3, E3⟩, C1, f1, cp1⟩ := ze_Tree_copyFrom (μ := μ) (D + 2) zd7_at (zdT_at ho) (by unfold zdT; omega) Co.1
  have rs1 : ∀ j, ν1 (zdT s + j) = μ (zdT s + j) := fun j => f1 _ (by unfold zt_out zdT; omega)
  have Cs1 : zt_C ν1 (zdT s) (Rs s) (ts s) := zt_C_19 (fun j _ => rs1 j) Cs
  have hdis : ∀ j ∈ Rs s, j ∉ Rs o := fun j q1 q2 => hso (inj3 hs ho (((ms j).mp q1).2.2.symm.trans ((mo j).mp q2).2.2))
  obtain ⟨emp, he, he'⟩ : ∃ emp : Bool, (emp = true → ts o = .nil ∧ Rs o = []) ∧ (emp = false → zy_wf (ts o)) := by
    rcases Co.1.2.1.1 with ⟨e, -⟩ | ⟨e, -⟩
    · exact ⟨true, fun _ => ⟨e, zt_I_nil (μ := μ) (T := zdT o) (by rw [← e]; exact Co.1)⟩, fun q => by cases q⟩
    · exact ⟨false, fun q => (by cases q), fun _ => e⟩
  obtain ⟨ν2, ⟨N4, E4⟩, hAD⟩ := ze_Tree_addAllTabs (μ := ν1) (D + 1) zd7_at (zdT_at hs) (by unfold zdT; omega) he he' C1 Cs1 hdis
  have eW : (zy_lvs (ts s)).flatMap (zt_tb ν1 (zdT s) (Rs s)) = (zy_lvs (ts s)).flatMap (zt_tb μ (zdT s) (Rs s)) := by
    have : zt_tb ν1 (zdT s) (Rs s) = zt_tb μ (zdT s) (Rs s) := funext fun n => zt_tb_congr (rs1 3)
    rw [this]
  rw [eW] at hAD
  generalize hW : (zy_lvs (ts s)).flatMap (zt_tb μ (zdT s) (Rs s)) = W at hAD
  have hWm : ∀ j, j ∈ W ↔ j ∈ Rs s := fun j => by
    rw [← hW, List.mem_flatMap]
    constructor
    · rintro ⟨n, -, q⟩
      exact (zt_tb_mem.mp q).1
    · intro q
      obtain ⟨n, hn, en⟩ := Cs.1.2.2.2.1 j q
      exact ⟨n, hn, zt_tb_mem.mpr ⟨q, en⟩⟩
  have hgtr : zd_gtr μ ν2 Rs ts s o emp W := ⟨ν1, f1, cp1, C1, he, he', hW.symm, hAD⟩
  obtain ⟨n0, C2, f2, -, a3, a5, a6, -⟩ := id hAD
  have fr2 : zt_frT 7 μ ν2 := f1.trans f2
  have ev2 : zJ_eqv μ ν2 := fun c hc => fr2 c (zJn_7 hc)
  generalize ht2 : zy_ad emp (ts o) W n0 = t2 at C2
  obtain ⟨N5, E5⟩ := ze_fitsC (μ := ν2) (D + 4) zd7_at C2 (zdZ_A ho)
  obtain ⟨N6, E6⟩ := ze_looseOnesFit (μ := ν2) (D + 3) (nI s) (zdZ_A ho)
  have elw : zl_al (zd_lwf ν2 (nI s) (zdZ o)) 10 = zl_al (zd_lwf μ (nI s) (zdZ o)) 10 := by
    have key : ∀ j, j < 10 → zd_lwf ν2 (nI s) (zdZ o) j = zd_lwf μ (nI s) (zdZ o) j := fun j hj => by
      unfold zd_lwf zd_loose zd_whole
      rw [ev2 _ (zJn_W hj).1, ev2 _ (zJn_W hj).2, ev2 _ (zJn_S ho).2.1]
    cases hc : zl_al (zd_lwf μ (nI s) (zdZ o)) 10 with
    | true => exact (zl_al_iff 10).mpr (fun j hj => by rw [key j hj]; exact (zl_al_iff 10).mp hc j hj)
    | false =>
      cases hc2 : zl_al (zd_lwf ν2 (nI s) (zdZ o)) 10 with
      | false => rfl
      | true =>
        rw [(zl_al_iff 10).mpr (fun j hj => by rw [← key j hj]; exact (zl_al_iff 10).mp hc2 j hj)] at hc
        cases hc
  rw [zb_dec] at E6
  rw [show (decide (zl_al (zd_lwf ν2 (nI s) (zdZ o)) 10 = true)) = zl_al (zd_lwf μ (nI s) (zdZ o)) 10 by rw [elw]; cases zl_al (zd_lwf μ (nI s) (zdZ o)) 10 <;> rfl] at E6
  have S0 : ze_S (D + 6) 5 (some .int) zc_X5_gone 0 [(0, .ref 1), (1, .int (nI s))] [] (zm_mk μ) 69 [(3, .ref (zdS s + 1)), (2, .int (nI o)), (0, .ref 1), (1, .int (nI s))] [] (zm_mk ν2) := by
    obtain ⟨q7, d7⟩ := zt_c (μ := μ) zd7_at
    obtain ⟨q8, d8⟩ := zt_c (μ := ν1) zd7_at
    refine ⟨N1 + N2 + N3 + N4, 33, fun F n hF => ?_⟩
    simp [zg_0, zg_aaload, zg_aload_n, zg_astore_n, zg_getfield, zg_iconst, zg_ifCond, zg_iload, zg_iload_n, zg_invokestatic, zg_invokevirtual, zg_ireturn, zg_istore, zg_istore_n, zg_ldc, zg_putfield, zf_X5_gone, zi_ld, zi_lda, zi_cmp, zi_retOk, zi_isI, zi_f3, zi_cr, zi_ci, zi_cn, zi_get, zi_set, zq_Desk_isScreen, E1 F (by omega), zq_Desk_leastScreenBut, zd_c, E2 F (by omega), zd_g, zd_s hs, zd_s ho, zdS_g hs, zdS_g ho, c1, co, zq_Tree_copyFrom, d7, E3 F (by omega), zq_Tree_addAllTabs, d8, E4 F (by omega)]
  obtain ⟨q7, d7⟩ := zt_c (μ := ν2) zd7_at
  have refuse : (zt_fit ν2 7 (zdZ o) (Rs o ++ W) t2 = false ∨ zl_al (zd_lwf μ (nI s) (zdZ o)) 10 = false) → ze_G (D + 6) 5 (some .int) zc_X5_gone 69 [(3, .ref (zdS s + 1)), (2, .int (nI o)), (0, .ref 1), (1, .int (nI s))] [] (zm_mk ν2) (some (.int (-1000000002))) (zm_mk ν2) → ∃ ν r Rs' ts', ze_E (D + 7) A_Desk_gone [.ref 1, .int (nI s)] (zm_mk μ) (some (.int r)) (zm_mk ν) ∧ zJ ν row stk Rs' ts' ∧ zd_gon μ ν Rs Rs' ts ts' (nI s) := fun hc G =>
    ⟨ν2, _, Rs, ts, ze_in [(0, .ref 1), (1, .int (nI s))] zq_Desk_gone (Nat.le_of_ble_eq_true rfl) rfl (S0.end G), h.eqv ev2, Or.inr ⟨s, o, ν2, emp, W, n0, hs, ho, hso, rfl, c1, hot, e1, hgtr, by rw [ht2]; exact C2, Or.inl ⟨by rw [ht2]; exact hc, ev2, rfl, rfl⟩⟩⟩
  cases hfit : zt_fit ν2 7 (zdZ o) (Rs o ++ W) t2 with
  | false =>
    rw [hfit, if_neg (by decide)] at E5
    refine refuse (Or.inl hfit) ⟨N5, 11, fun F n hF => ?_⟩
    simp [zg_0, zg_aaload, zg_aload_n, zg_astore_n, zg_getfield, zg_iconst, zg_ifCond, zg_iload, zg_iload_n, zg_invokestatic, zg_invokevirtual, zg_ireturn, zg_istore, zg_istore_n, zg_ldc, zg_putfield, zf_X5_gone, zi_ld, zi_lda, zi_cmp, zi_retOk, zi_isI, zi_f3, zi_cr, zi_ci, zi_cn, zi_get, zi_set, zd_g, zd_s ho, zdS_g ho, zq_Tree_fits, d7, E5 F (by omega), n2]
  | true =>
    rw [hfit, if_pos rfl] at E5
    cases hlw : zl_al (zd_lwf μ (nI s) (zdZ o)) 10 with
    | false =>
      rw [hlw, if_neg (by decide)] at E6
      refine refuse (Or.inr hlw) ⟨N5 + N6, 20, fun F n hF => ?_⟩
      simp [zg_0, zg_aaload, zg_aload_n, zg_astore_n, zg_getfield, zg_iconst, zg_ifCond, zg_iload, zg_iload_n, zg_invokestatic, zg_invokevirtual, zg_ireturn, zg_istore, zg_istore_n, zg_ldc, zg_putfield, zf_X5_gone, zi_ld, zi_lda, zi_cmp, zi_retOk, zi_isI, zi_f3, zi_cr, zi_ci, zi_cn, zi_get, zi_set, zd_g, zd_s ho, zdS_g ho, zq_Tree_fits, d7, E5 F (by omega), zq_Desk_looseOnesFit, zd_c, E6 F (by omega), n2]
    | true =>
      rw [hlw, if_pos rfl] at E6
      have wall : ∀ j, ν2 (zdW j) = μ (zdW j) := fun j => fr2 _ (by unfold zt_out zdW; omega)
      have eon : zd_on ν2 (nI s) = zd_on μ (nI s) := funext fun j => by unfold zd_on; rw [wall]
      have elo : ∀ j, zd_loose ν2 (nI s) j = zd_loose μ (nI s) j := fun j => by unfold zd_loose; rw [wall]
      obtain ⟨N7, E7⟩ := ze_windowsOn (μ := ν2) (D + 4) (nI s)
      generalize nI (zl_ct (zd_on ν2 (nI s)) 10) = mv at E7
      have rs2 : ∀ j, ν2 (zdT s + j) = μ (zdT s + j) := fun j => fr2 _ (by unfold zt_out zdT; omega)
      have I2 : zt_I ν2 (zdT s) (Rs s) (ts s) := (zt_C_19 (fun j _ => rs2 j) Cs).1
      obtain ⟨ν3, ⟨N8, E8⟩, C3, ⟨v3, v5, v6, v7, v8, v12⟩, k3, q3, f3⟩ := ze_keepAll (μ := ν2) (D + 1) hs I2
      rw [eon] at k3
      have w3 : ∀ j, j < 10 → ν3 (zdW j) = μ (zdW j) := fun j hj => by
        rw [← wall j]
        funext d
        exact f3 _ _ (by unfold zt_out zdV zdW; omega) (by unfold zdQ zdW; omega) (by unfold zdP zdW; omega) (by unfold zdP zdW; omega) (fun e => by have := e.1; unfold zdK zdW at this; omega)
      obtain ⟨ν4, ⟨N9, E9⟩, s5, s4⟩ := ze_sendAll (μ := ν3) D (nI s) ho
      have on3 : ∀ j, j < 10 → zd_on ν3 (nI s) j = zd_on μ (nI s) j := fun j hj => by unfold zd_on; rw [w3 j hj]
      have r4 : ∀ c, (∀ j, j < 10 → c ≠ zdW j) → (∀ j, j < 10 → c ≠ zdW j + 2) → ν4 c = ν3 c := fun c a1 a2 => funext fun d => s4 c d (fun j hj e => absurd e (a1 j hj)) a2
      have t4 : ∀ c, 7 ≤ c → c < 31 → ν4 c = ν2 c := fun c h1 h2 => by
        rw [r4 c (fun j hj => by unfold zdW; omega) (fun j hj => by unfold zdW; omega)]
        funext d
        exact f3 c d (by unfold zt_out zdV; omega) (by unfold zdQ; omega) (by unfold zdP; omega) (by unfold zdP; omega) (fun e => by have := e.1; unfold zdK at this; omega)
      obtain ⟨ν5, ⟨N10, E10⟩, C5, f5, x3, x5, x6, x7, x8, x12⟩ := ze_Tree_copyFrom (μ := ν4) (D + 2) (zdT_at ho) zd7_at (by unfold zdT; omega) (zt_C_congr (fun c h1 h2 => t4 c h1 (by omega)) C2).1
      obtain ⟨ν6, ⟨N11, E11⟩, C6, f6⟩ := ze_Tree_clearI (μ := ν5) (D + 4) (zdT_at hs)
      have u7 : ∀ c, c ≠ zdS s → zm_up ν6 (zdS s) 3 0 c = ν6 c := fun c hc => zm_up_row hc
      have cpo : zt_isCopy ν2 7 (zm_up ν6 (zdS s) 3 0) (zdT o) := by
        have r : ∀ j, j < 24 → zm_up ν6 (zdS s) 3 0 (zdT o + j) = ν5 (zdT o + j) := fun j hj => by
          rw [u7 _ (by unfold zdT zdS; omega), f6 _ (by unfold zt_out zdT; omega)]
        exact ⟨(r 3 (by omega)).trans (x3.trans (t4 _ (by omega) (by omega))), (r 5 (by omega)).trans (x5.trans (t4 _ (by omega) (by omega))), (r 6 (by omega)).trans (x6.trans (t4 _ (by omega) (by omega))), (r 7 (by omega)).trans (x7.trans (t4 _ (by omega) (by omega))), (r 8 (by omega)).trans (x8.trans (t4 _ (by omega) (by omega))), (r 12 (by omega)).trans (x12.trans (t4 _ (by omega) (by omega)))⟩
      have rV : ∀ j, j < 24 → zm_up ν6 (zdS s) 3 0 (zdV s + j) = ν3 (zdV s + j) := fun j hj => by
        rw [u7 _ (by unfold zdV zdS; omega), f6 _ (by unfold zt_out zdV zdT; omega), f5 _ (by unfold zt_out zdV zdT; omega), r4 _ (fun i hi => by unfold zdV zdW; omega) (fun i hi => by unfold zdV zdW; omega)]
      have cpV : zt_isCopy μ (zdT s) (zm_up ν6 (zdS s) 3 0) (zdV s) := ⟨(rV 3 (by omega)).trans (v3.trans (rs2 _)), (rV 5 (by omega)).trans (v5.trans (rs2 _)), (rV 6 (by omega)).trans (v6.trans (rs2 _)), (rV 7 (by omega)).trans (v7.trans (rs2 _)), (rV 8 (by omega)).trans (v8.trans (rs2 _)), (rV 12 (by omega)).trans (v12.trans (rs2 _))⟩
      have CV : zt_C (zm_up ν6 (zdS s) 3 0) (zdV s) (Rs s) (ts s) := zt_C_congr (fun c h1 h2 => by have := rV (c - zdV s) (by omega); rw [show zdV s + (c - zdV s) = c by omega] at this; exact this) C3
      have CE : zt_C (zm_up ν6 (zdS s) 3 0) (zdT s) [] .nil := zt_C_congr (fun c h1 h2 => u7 c (by unfold zdT at h1; unfold zdS; omega)) C6
      have CO : zt_C (zm_up ν6 (zdS s) 3 0) (zdT o) (Rs o ++ W) t2 := zt_C_congr (fun c h1 h2 => by rw [u7 c (by unfold zdT at h1 h2; unfold zdS; omega)]; exact f6 c (by unfold zt_out; unfold zdT at *; omega)) C5
      have fr7 : ∀ c d, ¬ zJ_irr c → zt_out (zdT s) c → zt_out (zdT o) c → zt_out (zdV s) c → c ≠ zdQ s → ¬ (c = zdK s ∧ d = 3) → ¬ (c = zdS s ∧ d = 3) → (∀ j, j < 10 → c = zdW j → d ≠ 5) → zm_up ν6 (zdS s) 3 0 c d = μ c d := fun c d a1 a2 a3 a4 a5 a6 a7 a8 => by
        rw [zm_up_ne a7, f6 c a2, f5 c a3, s4 c d a8 (fun j hj e => a1 (by rw [e]; unfold zJ_irr zdW; omega)), f3 c d a4 a5 (fun e => a1 (by rw [e]; unfold zJ_irr zdP; omega)) (fun e => a1 (by rw [e]; unfold zJ_irr zdP; omega)) a6, ev2 c a1]
      have fK7 : zm_up ν6 (zdS s) 3 0 (zdK s) 3 = if 0 < zl_ct (zd_on μ (nI s)) 10 then 1 else 0 := by
        rw [u7 _ (by unfold zdK zdS; omega), f6 _ (by unfold zt_out zdK zdT; omega), f5 _ (by unfold zt_out zdK zdT; omega), r4 _ (fun i hi => by unfold zdK zdW; omega) (fun i hi => by unfold zdK zdW; omega)]
        exact k3
      have fW7 : ∀ j, j < 10 → zm_up ν6 (zdS s) 3 0 (zdW j) 5 = if zd_on μ (nI s) j = true then nI o else μ (zdW j) 5 := fun j hj => by
        rw [u7 _ (by unfold zdW zdS; omega), f6 _ (by unfold zt_out zdW zdT; omega), f5 _ (by unfold zt_out zdW zdT; omega), s5 j hj, w3 j hj]
        simp only [on3 j hj]
      have fQ7 : ∀ j, j < 10 → zm_up ν6 (zdS s) 3 0 (zdQ s) j = if zd_loose μ (nI s) j = true then 1 else 0 := fun j hj => by
        rw [u7 _ (by unfold zdQ zdS; omega), f6 _ (by unfold zt_out zdQ zdT; omega), f5 _ (by unfold zt_out zdQ zdT; omega), r4 _ (fun i hi => by unfold zdQ zdW; omega) (fun i hi => by unfold zdQ zdW; omega), q3 j hj]
        simp only [elo j]
      have hz7 : zm_up ν6 (zdS s) 3 0 (zdZ o) = ν2 (zdZ o) := by
        funext d
        rw [fr7 _ _ (zJn_S ho).2.1 (zJn_out hs (Or.inr (Or.inr (Or.inl ⟨o, ho, Or.inr (Or.inl rfl)⟩)))) (zJn_out ho (Or.inr (Or.inr (Or.inl ⟨o, ho, Or.inr (Or.inl rfl)⟩)))) (by unfold zt_out zdZ zdV; omega) (by unfold zdZ zdQ; omega) (fun e => by have := e.1; unfold zdZ zdK at this; omega) (fun e => by have := e.1; unfold zdZ zdS at this; omega) (fun j hj e => by unfold zdZ zdW at e; omega), ev2 _ (zJn_S ho).2.1]
      have hJ7 := zJ_gone h hs ho hso hot (R2 := Rs o ++ W) (t2 := t2) fr7 zm_up_eq fW7 fQ7 ⟨CV, cpV⟩ CE CO (fun j => by rw [List.mem_append, hWm j]) (fun j hj => by
        rw [cpo.2.1, cpo.2.2.1, a5 j, a6 j]
        by_cases c : j ∈ W
        · have hjs := (hWm j).mp c
          rw [if_pos c, if_pos c, rs1, rs1]
          exact ls j hjs
        · have hjo : j ∈ Rs o := by
            rcases List.mem_append.mp hj with q | q
            · exact q
            · exact absurd q c
          rw [if_neg c, if_neg c, cp1.2.1, cp1.2.2.1]
          exact lo j hjo) (by
        rw [zt_fit_copy (A := ν2) (T := 7) cpo hz7]
        exact hfit)
      refine ⟨zm_up ν6 (zdS s) 3 0, mv, _, _, ze_in [(0, .ref 1), (1, .int (nI s))] zq_Desk_gone (Nat.le_of_ble_eq_true rfl) rfl (S0.end (ze_S.end (p2 := 115) (L2 := [(4, .int mv), (3, .ref (zdS s + 1)), (2, .int (nI o)), (0, .ref 1), (1, .int (nI s))]) (s2 := []) (h2 := zm_mk ν2) ⟨N5 + N6 + N7, 22, fun F n hF => ?_⟩ ⟨N8 + N9 + N10 + N11, 23, fun F n hF => ?_⟩)), hJ7, Or.inr ⟨s, o, ν2, emp, W, n0, hs, ho, hso, rfl, c1, hot, e1, hgtr, by rw [ht2]; exact C2, Or.inr ⟨⟨by rw [ht2]; exact hfit, hlw⟩, rfl, by rw [ht2], fr7, zm_up_eq, fK7, fW7, fQ7, cpV, cpo⟩⟩⟩
      · simp [zg_0, zg_aaload, zg_aload_n, zg_astore_n, zg_getfield, zg_iconst, zg_ifCond, zg_iload, zg_iload_n, zg_invokestatic, zg_invokevirtual, zg_ireturn, zg_istore, zg_istore_n, zg_ldc, zg_putfield, zf_X5_gone, zi_ld, zi_lda, zi_cmp, zi_retOk, zi_isI, zi_f3, zi_cr, zi_ci, zi_cn, zi_get, zi_set, zd_g, zd_s ho, zdS_g ho, zq_Tree_fits, d7, E5 F (by omega), zq_Desk_looseOnesFit, zd_c, E6 F (by omega), zq_Desk_windowsOn, E7 F (by omega)]
      · obtain ⟨y4, z4⟩ := zt_c (μ := ν4) (zdT_at ho)
        obtain ⟨y5, z5⟩ := zt_c (μ := ν5) (zdT_at hs)
        simp [zg_0, zg_aaload, zg_aload_n, zg_astore_n, zg_getfield, zg_iconst, zg_ifCond, zg_iload, zg_iload_n, zg_invokestatic, zg_invokevirtual, zg_ireturn, zg_istore, zg_istore_n, zg_ldc, zg_putfield, zf_X5_gone, zi_ld, zi_lda, zi_cmp, zi_retOk, zi_isI, zi_f3, zi_cr, zi_ci, zi_cn, zi_get, zi_set, zd_g, zd_s ho, zdS_g ho, zdS_g hs, zq_Desk_keepAll, zd_c, E8 F (by omega), zq_Desk_sendAll, E9 F (by omega), zq_Tree_copyFrom, z4, E10 F (by omega), zq_Tree_clear, z5, E11 F (by omega), zdS_p3 hs (Or.inl rfl)]
end ZGO
