/-! the desk: open, up to the room -/
section ZO5
variable {μ ν : zm_M} {row stk : List Nat} {Rs : Nat → List Nat} {ts : Nat → zy_F}
theorem zd_lsb_or (x : Int32) : zd_lsb μ x = -1 ∨ ∃ s, s < 3 ∧ zd_lsb μ x = nI s ∧ ¬ nI s = x ∧ ¬ μ (zdS s) 3 = 0 := by
  rcases zl_fi_spec (fun s => decide (¬ nI s = x ∧ ¬ μ (zdS s) 3 = 0)) (-1) 3 0 with ⟨k, -, h2, h3, -, h5⟩ | ⟨-, h⟩
  · exact Or.inr ⟨k, by omega, h5, (of_decide_eq_true h3).1, (of_decide_eq_true h3).2⟩
  · exact Or.inl h
theorem zd_sah_or (hw : zJ_win μ) : ∀ row : List Nat, (∀ j ∈ row, j < 10 ∧ zd_th μ j = true) → zd_sah μ row = -1 ∨ ∃ s, s < 3 ∧ zd_sah μ row = nI s ∧ ¬ μ (zdS s) 3 = 0 := by
  intro row
  induction row with
  | nil =>
    intro _
    rcases zd_lsb_or (μ := μ) (-1) with h | ⟨s, h1, h2, -, h3⟩
    · exact Or.inl h
    · exact Or.inr ⟨s, h1, h2, h3⟩
  | cons k l ih =>
    intro h
    show (if zd_sti μ k = true then zd_sah μ l else μ (zdW k) 5) = -1 ∨ ∃ s, s < 3 ∧ (if zd_sti μ k = true then zd_sah μ l else μ (zdW k) 5) = nI s ∧ ¬ μ (zdS s) 3 = 0
    by_cases c : zd_sti μ k = true
    · rw [if_pos c]
      exact ih (fun j hj => h j (List.mem_cons_of_mem _ hj))
    · rw [if_neg c]
      obtain ⟨hk, ht⟩ := h k List.mem_cons_self
      obtain ⟨-, -, a3, -, -⟩ := hw k hk ht
      obtain ⟨s, b1, b2, b3⟩ := a3 (fun e => c (decide_eq_true ⟨of_decide_eq_true ht, e⟩))
      exact Or.inr ⟨s, b1, b2, b3⟩
theorem zd_lfn_or : (zd_lfn μ = -1 ∧ ∀ j, j < 10 → zd_th μ j = true) ∨ ∃ k, k < 10 ∧ zd_lfn μ = nI k ∧ zd_th μ k = false ∧ ∀ j, j < k → zd_th μ j = true := by
  rcases zl_fi_spec (fun k => decide (μ (zdW k) 2 = 0)) (-1) 10 0 with ⟨k, -, h2, h3, h4, h5⟩ | ⟨h1, h⟩
  · refine Or.inr ⟨k, by omega, h5, decide_eq_false (fun q => q (of_decide_eq_true h3)), fun j hj => ?_⟩
    have := h4 j (by omega) hj
    exact decide_eq_true (of_decide_eq_false this)
  · refine Or.inl ⟨h, fun j hj => ?_⟩
    have := h1 j (by omega) (by omega)
    exact decide_eq_true (of_decide_eq_false this)
/-- what open may be asked -/
def zd_oarg (μ : zm_M) (kd w v o : Int32) : Prop := ((1 ≤ kd ∧ kd ≤ 4) ∧ (1 ≤ w ∧ w ≤ 200) ∧ 1 ≤ v ∧ v ≤ 200) ∧ (kd = 3 → ∃ j, j < 10 ∧ o = nI j ∧ zd_th μ j = true) ∧ (¬ kd = 3 → o = -1)
set_option maxRecDepth 100000 in
theorem ze_open_0 (D : Nat) (kd w v o : Int32) : (zd_oarg μ kd w v o ∧ ze_S (D + 1) 8 (some .int) zc_X5_open 0 [(0, .ref 1), (1, .int kd), (2, .int w), (3, .int v), (4, .int o)] [] (zm_mk μ) 59 [(5, .int 1), (0, .ref 1), (1, .int kd), (2, .int w), (3, .int v), (4, .int o)] [] (zm_mk μ)) ∨
    (¬ zd_oarg μ kd w v o ∧ ze_G (D + 1) 8 (some .int) zc_X5_open 0 [(0, .ref 1), (1, .int kd), (2, .int w), (3, .int v), (4, .int o)] [] (zm_mk μ) (some (.int (-1000000001))) (zm_mk μ)) := by
  have n4 : Int32.ofInt (-1000000001) = -1000000001 := by decide
  have S1 : ∃ b : Int32, ((b = 1 ∧ (kd = 3 → ∃ j, j < 10 ∧ o = nI j ∧ zd_th μ j = true) ∧ (¬ kd = 3 → o = -1)) ∨ (b = 0 ∧ ¬ ((kd = 3 → ∃ j, j < 10 ∧ o = nI j ∧ zd_th μ j = true) ∧ (¬ kd = 3 → o = -1)))) ∧
      ze_S (D + 1) 8 (some .int) zc_X5_open 0 [(0, .ref 1), (1, .int kd), (2, .int w), (3, .int v), (4, .int o)] [] (zm_mk μ) 27 [(5, .int b), (0, .ref 1), (1, .int kd), (2, .int w), (3, .int v), (4, .int o)] [] (zm_mk μ) := by
    by_cases c : kd = 3
    · have main : ∀ b : Int32, ze_E (D + 1) A_Desk_isWindow [.ref 1, .int o] (zm_mk μ) (some (.int b)) (zm_mk μ) → ze_S (D + 1) 8 (some .int) zc_X5_open 0 [(0, .ref 1), (1, .int kd), (2, .int w), (3, .int v), (4, .int o)] [] (zm_mk μ) 27 [(5, .int b), (0, .ref 1), (1, .int kd), (2, .int w), (3, .int v), (4, .int o)] [] (zm_mk μ) := by
        rintro b ⟨N1, E1⟩
        refine ⟨N1, 8, fun F n hF => ?_⟩
        simp [zg_0, zg_aaload, zg_aload_n, zg_getfield, zg_goto, zg_iconst, zg_ifCond, zg_if_icmp, zg_iload, zg_iload_n, zg_invokestatic, zg_invokevirtual, zg_ireturn, zg_istore, zg_ldc, zg_putfield, zf_X5_open, zi_ld, zi_lda, zi_cmp, zi_retOk, zi_isI, zi_f3, zi_cr, zi_ci, zi_cn, zi_get, zi_set, c, zq_Desk_isWindow, zd_c, E1 F (by omega)]
      rcases zd_rng o 10 (by decide) with ⟨j, hj, rfl⟩ | hout
      · have E := ze_thW (μ := μ) D hj
        by_cases c2 : zd_th μ j = true
        · rw [if_pos c2] at E
          exact ⟨1, Or.inl ⟨rfl, fun _ => ⟨j, hj, rfl, c2⟩, fun q => absurd c q⟩, main 1 E⟩
        · rw [if_neg c2] at E
          refine ⟨0, Or.inr ⟨rfl, fun q => ?_⟩, main 0 E⟩
          obtain ⟨j', h1, h2, h3⟩ := q.1 c
          rw [← (nI_eq (by omega) (by omega)).mp h2] at h3
          exact c2 h3
      · refine ⟨0, Or.inr ⟨rfl, fun q => ?_⟩, main 0 (ze_isWindow_out D hout)⟩
        obtain ⟨j', h1, h2, h3⟩ := q.1 c
        rw [h2] at hout
        exact hout.elim (nI_pos (by omega)) (nI_ge (b := 10) h1 (by decide))
    · by_cases c2 : o = -1
      · refine ⟨1, Or.inl ⟨rfl, fun q => absurd q c, fun _ => c2⟩, 0, 9, fun F n hF => ?_⟩
        simp [zg_0, zg_aaload, zg_aload_n, zg_getfield, zg_goto, zg_iconst, zg_ifCond, zg_if_icmp, zg_iload, zg_iload_n, zg_invokestatic, zg_invokevirtual, zg_ireturn, zg_istore, zg_ldc, zg_putfield, zf_X5_open, zi_ld, zi_lda, zi_cmp, zi_retOk, zi_isI, zi_f3, zi_cr, zi_ci, zi_cn, zi_get, zi_set, c, c2]
      · refine ⟨0, Or.inr ⟨rfl, fun q => c2 (q.2 c)⟩, 0, 8, fun F n hF => ?_⟩
        simp [zg_0, zg_aaload, zg_aload_n, zg_getfield, zg_goto, zg_iconst, zg_ifCond, zg_if_icmp, zg_iload, zg_iload_n, zg_invokestatic, zg_invokevirtual, zg_ireturn, zg_istore, zg_ldc, zg_putfield, zf_X5_open, zi_ld, zi_lda, zi_cmp, zi_retOk, zi_isI, zi_f3, zi_cr, zi_ci, zi_cn, zi_get, zi_set, c, c2]
  obtain ⟨b, hb, S1⟩ := S1
  have bad : (¬ zd_oarg μ kd w v o) → ze_G (D + 1) 8 (some .int) zc_X5_open 27 [(5, .int b), (0, .ref 1), (1, .int kd), (2, .int w), (3, .int v), (4, .int o)] [] (zm_mk μ) (some (.int (-1000000001))) (zm_mk μ) → (zd_oarg μ kd w v o ∧ ze_S (D + 1) 8 (some .int) zc_X5_open 0 [(0, .ref 1), (1, .int kd), (2, .int w), (3, .int v), (4, .int o)] [] (zm_mk μ) 59 [(5, .int 1), (0, .ref 1), (1, .int kd), (2, .int w), (3, .int v), (4, .int o)] [] (zm_mk μ)) ∨
    (¬ zd_oarg μ kd w v o ∧ ze_G (D + 1) 8 (some .int) zc_X5_open 0 [(0, .ref 1), (1, .int kd), (2, .int w), (3, .int v), (4, .int o)] [] (zm_mk μ) (some (.int (-1000000001))) (zm_mk μ)) := fun h g => Or.inr ⟨h, S1.end g⟩
  obtain ⟨N2, E2⟩ := ze_isWindowSize (h := zm_mk μ) D w
  obtain ⟨N3, E3⟩ := ze_isWindowSize (h := zm_mk μ) D v
  by_cases c1 : kd < 1
  · refine bad (fun q => Int32.not_le.mpr c1 q.1.1.1) ⟨0, 5, fun F n hF => ?_⟩
    simp [zg_0, zg_aaload, zg_aload_n, zg_getfield, zg_goto, zg_iconst, zg_ifCond, zg_if_icmp, zg_iload, zg_iload_n, zg_invokestatic, zg_invokevirtual, zg_ireturn, zg_istore, zg_ldc, zg_putfield, zf_X5_open, zi_ld, zi_lda, zi_cmp, zi_retOk, zi_isI, zi_f3, zi_cr, zi_ci, zi_cn, zi_get, zi_set, c1, n4]
  · have c1' : (1 : Int32) ≤ kd := Int32.not_lt.mp c1
    by_cases c2 : (4 : Int32) < kd
    · refine bad (fun q => Int32.not_le.mpr c2 q.1.1.2) ⟨0, 8, fun F n hF => ?_⟩
      simp [zg_0, zg_aaload, zg_aload_n, zg_getfield, zg_goto, zg_iconst, zg_ifCond, zg_if_icmp, zg_iload, zg_iload_n, zg_invokestatic, zg_invokevirtual, zg_ireturn, zg_istore, zg_ldc, zg_putfield, zf_X5_open, zi_ld, zi_lda, zi_cmp, zi_retOk, zi_isI, zi_f3, zi_cr, zi_ci, zi_cn, zi_get, zi_set, c1, c2, n4]
    · have c2' : kd ≤ (4 : Int32) := Int32.not_lt.mp c2
      by_cases c3 : 1 ≤ w ∧ w ≤ 200
      · have z2 : zb (1 ≤ w ∧ w ≤ 200) = 1 := if_pos c3
        rw [z2] at E2
        by_cases c4 : 1 ≤ v ∧ v ≤ 200
        · have z3 : zb (1 ≤ v ∧ v ≤ 200) = 1 := if_pos c4
          rw [z3] at E3
          rcases hb with ⟨rfl, hb⟩ | ⟨rfl, hb⟩
          · left
            refine ⟨⟨⟨⟨c1', c2'⟩, c3, c4⟩, hb⟩, S1.trans ⟨N2 + N3, 14, fun F n hF => ?_⟩⟩
            simp [zg_0, zg_aaload, zg_aload_n, zg_getfield, zg_goto, zg_iconst, zg_ifCond, zg_if_icmp, zg_iload, zg_iload_n, zg_invokestatic, zg_invokevirtual, zg_ireturn, zg_istore, zg_ldc, zg_putfield, zf_X5_open, zi_ld, zi_lda, zi_cmp, zi_retOk, zi_isI, zi_f3, zi_cr, zi_ci, zi_cn, zi_get, zi_set, c1, c2, zq_Desk_isWindowSize, E2 F (by omega), E3 F (by omega)]
          · refine bad (fun q => hb q.2) ⟨N2 + N3, 16, fun F n hF => ?_⟩
            simp [zg_0, zg_aaload, zg_aload_n, zg_getfield, zg_goto, zg_iconst, zg_ifCond, zg_if_icmp, zg_iload, zg_iload_n, zg_invokestatic, zg_invokevirtual, zg_ireturn, zg_istore, zg_ldc, zg_putfield, zf_X5_open, zi_ld, zi_lda, zi_cmp, zi_retOk, zi_isI, zi_f3, zi_cr, zi_ci, zi_cn, zi_get, zi_set, c1, c2, zq_Desk_isWindowSize, E2 F (by omega), E3 F (by omega), n4]
        · have z3 : zb (1 ≤ v ∧ v ≤ 200) = 0 := if_neg c4
          rw [z3] at E3
          refine bad (fun q => c4 q.1.2.2) ⟨N2 + N3, 14, fun F n hF => ?_⟩
          simp [zg_0, zg_aaload, zg_aload_n, zg_getfield, zg_goto, zg_iconst, zg_ifCond, zg_if_icmp, zg_iload, zg_iload_n, zg_invokestatic, zg_invokevirtual, zg_ireturn, zg_istore, zg_ldc, zg_putfield, zf_X5_open, zi_ld, zi_lda, zi_cmp, zi_retOk, zi_isI, zi_f3, zi_cr, zi_ci, zi_cn, zi_get, zi_set, c1, c2, zq_Desk_isWindowSize, E2 F (by omega), E3 F (by omega), n4]
      · have z2 : zb (1 ≤ w ∧ w ≤ 200) = 0 := if_neg c3
        rw [z2] at E2
        refine bad (fun q => c3 q.1.2.1) ⟨N2, 11, fun F n hF => ?_⟩
        simp [zg_0, zg_aaload, zg_aload_n, zg_getfield, zg_goto, zg_iconst, zg_ifCond, zg_if_icmp, zg_iload, zg_iload_n, zg_invokestatic, zg_invokevirtual, zg_ireturn, zg_istore, zg_ldc, zg_putfield, zf_X5_open, zi_ld, zi_lda, zi_cmp, zi_retOk, zi_isI, zi_f3, zi_cr, zi_ci, zi_cn, zi_get, zi_set, c1, c2, zq_Desk_isWindowSize, E2 F (by omega), n4]
/-- the screen that a new window comes to, if there is one -/
def zd_osc (μ : zm_M) (row : List Nat) (kd o : Int32) : Int32 := if kd = 3 then (if zd_sti μ o.toNatClampNeg = true then -1 else μ (zdW o.toNatClampNeg) 5) else zd_sah μ row
set_option maxRecDepth 100000 in
theorem ze_open_1 (D : Nat) (h : zJ μ row stk Rs ts) {kd w v o : Int32} (ha : zd_oarg μ kd w v o) {L : zi_Lc} (nl : zi_nl L = true) (g0 : zi_get L 0 = some (.ref 1)) (g1 : zi_get L 1 = some (.int kd)) (g2 : zi_get L 2 = some (.int w)) (g3 : zi_get L 3 = some (.int v)) (g4 : zi_get L 4 = some (.int o)) :
    (((∀ j, j < 10 → zd_th μ j = true) ∨ zd_osc μ row kd o = -1) ∧ ∃ r, ze_G (D + 2) 8 (some .int) zc_X5_open 59 L [] (zm_mk μ) (some (.int r)) (zm_mk μ)) ∨
    ∃ k s L', k < 10 ∧ s < 3 ∧ zd_th μ k = false ∧ (∀ j, j < k → zd_th μ j = true) ∧ zd_osc μ row kd o = nI s ∧ ¬ μ (zdS s) 3 = 0 ∧ ze_S (D + 2) 8 (some .int) zc_X5_open 59 L [] (zm_mk μ) 126 L' [] (zm_mk μ) ∧ zi_nl L' = true ∧ zi_get L' 0 = some (.ref 1) ∧ zi_get L' 1 = some (.int kd) ∧ zi_get L' 2 = some (.int w) ∧ zi_get L' 3 = some (.int v) ∧ zi_get L' 4 = some (.int o) ∧ zi_get L' 6 = some (.int (nI k)) ∧ zi_get L' 7 = some (.int (nI s)) := by
  have n3 : Int32.ofInt (-1000000003) = -1000000003 := by decide
  have n2 : Int32.ofInt (-1000000002) = -1000000002 := by decide
  obtain ⟨N1, E1⟩ := ze_leastFreeNumber (μ := μ) (D + 1)
  have cm : ¬ (0 : Int32) ≤ -1 := by decide
  rcases zd_lfn_or (μ := μ) with ⟨e1, hall⟩ | ⟨k, hk, e1, hnt, hlt⟩
  · rw [e1] at E1
    left
    refine ⟨Or.inl hall, -1000000003, N1, 7, fun F n hF => ?_⟩
    simp (maxDischargeDepth := 9) [zg_0, zg_aaload, zg_aload_n, zg_getfield, zg_goto, zg_iconst, zg_ifCond, zg_if_icmp, zg_iload, zg_iload_n, zg_invokestatic, zg_invokevirtual, zg_ireturn, zg_istore, zg_ldc, zg_putfield, zf_X5_open, zi_ld, zi_lda, zi_cmp, zi_retOk, zi_isI, zi_f3, zi_cr, zi_ci, zi_cn, zi_get_ne, zi_nl_i, zi_nl_r, zi_get_set_eq, nl, g0, zq_Desk_leastFreeNumber, zd_c, E1 F (by omega), cm, n3]
  · rw [e1] at E1
    have ck : (0 : Int32) ≤ nI k := nI_pos' (by omega)
    by_cases c3 : kd = 3
    · obtain ⟨j, hj, rfl, hjt⟩ := ha.2.1 c3
      have cj : (nI j).toNatClampNeg = j := nI_clamp (by omega)
      have eo : zd_osc μ row kd (nI j) = if zd_sti μ j = true then -1 else μ (zdW j) 5 := by
        unfold zd_osc
        rw [if_pos c3, cj]
      obtain ⟨N2, E2⟩ := ze_stiW (μ := μ) (D + 1) hj
      have cw := zw_c (μ := μ) (zdW_at hj)
      by_cases c4 : zd_sti μ j = true
      · rw [if_pos c4] at E2 eo
        left
        refine ⟨Or.inr eo, -1000000002, N1 + N2, 16, fun F n hF => ?_⟩
        simp (maxDischargeDepth := 9) [zg_0, zg_aaload, zg_aload_n, zg_getfield, zg_goto, zg_iconst, zg_ifCond, zg_if_icmp, zg_iload, zg_iload_n, zg_invokestatic, zg_invokevirtual, zg_ireturn, zg_istore, zg_ldc, zg_putfield, zf_X5_open, zi_ld, zi_lda, zi_cmp, zi_retOk, zi_isI, zi_f3, zi_cr, zi_ci, zi_cn, zi_get_ne, zi_nl_i, zi_nl_r, zi_get_set_eq, nl, g0, g1, g4, zq_Desk_leastFreeNumber, zd_c, E1 F (by omega), ck, c3, zd_g, zd_w hj, zq_Win_isSticky, cw, E2 F (by omega), n2]
      · rw [if_neg c4] at E2 eo
        obtain ⟨-, -, a3, -, -⟩ := h.2.2.1 j hj hjt
        obtain ⟨s, hs, es, hst⟩ := a3 (fun e => c4 (decide_eq_true ⟨of_decide_eq_true hjt, e⟩))
        have cs : (0 : Int32) ≤ nI s := nI_pos' (by omega)
        right
        refine ⟨k, s, zi_set (zi_set L 6 (.int (nI k))) 7 (.int (nI s)), hk, hs, hnt, hlt, by rw [eo, es], hst, ⟨N1 + N2, 26, fun F n hF => ?_⟩, ?_, ?_, ?_, ?_, ?_, ?_, ?_, zi_get_set_eq⟩
        · simp (maxDischargeDepth := 9) [zg_0, zg_aaload, zg_aload_n, zg_getfield, zg_goto, zg_iconst, zg_ifCond, zg_if_icmp, zg_iload, zg_iload_n, zg_invokestatic, zg_invokevirtual, zg_ireturn, zg_istore, zg_ldc, zg_putfield, zf_X5_open, zi_ld, zi_lda, zi_cmp, zi_retOk, zi_isI, zi_f3, zi_cr, zi_ci, zi_cn, zi_get_ne, zi_nl_i, zi_nl_r, zi_get_set_eq, nl, g0, g1, g4, zq_Desk_leastFreeNumber, zd_c, E1 F (by omega), ck, c3, zd_g, zd_w hj, zq_Win_isSticky, cw, E2 F (by omega), zw_g (zdW_at hj), es, cs]
        · simp (maxDischargeDepth := 9) [zi_get_ne, zi_nl_i, zi_nl_r, zi_get_set_eq, nl]
        · simp (maxDischargeDepth := 9) [zi_get_ne, zi_nl_i, zi_nl_r, zi_get_set_eq, nl, g0]
        · simp (maxDischargeDepth := 9) [zi_get_ne, zi_nl_i, zi_nl_r, zi_get_set_eq, nl, g1]
        · simp (maxDischargeDepth := 9) [zi_get_ne, zi_nl_i, zi_nl_r, zi_get_set_eq, nl, g2]
        · simp (maxDischargeDepth := 9) [zi_get_ne, zi_nl_i, zi_nl_r, zi_get_set_eq, nl, g3]
        · simp (maxDischargeDepth := 9) [zi_get_ne, zi_nl_i, zi_nl_r, zi_get_set_eq, nl, g4]
        · simp (maxDischargeDepth := 9) [zi_get_ne, zi_nl_i, zi_nl_r, zi_get_set_eq, nl]
    · have eo : zd_osc μ row kd o = zd_sah μ row := by
        unfold zd_osc
        rw [if_neg c3]
      obtain ⟨N2, E2⟩ := ze_screenAtHand (μ := μ) D h.1.1 (fun j hj => ((h.1.2.2 j).mp hj).1)
      rcases zd_sah_or h.2.2.1 row (fun j hj => (h.1.2.2 j).mp hj) with e2 | ⟨s, hs, e2, hst⟩
      · rw [e2] at E2
        left
        refine ⟨Or.inr (eo.trans e2), -1000000002, N1 + N2, 18, fun F n hF => ?_⟩
        simp (maxDischargeDepth := 9) [zg_0, zg_aaload, zg_aload_n, zg_getfield, zg_goto, zg_iconst, zg_ifCond, zg_if_icmp, zg_iload, zg_iload_n, zg_invokestatic, zg_invokevirtual, zg_ireturn, zg_istore, zg_ldc, zg_putfield, zf_X5_open, zi_ld, zi_lda, zi_cmp, zi_retOk, zi_isI, zi_f3, zi_cr, zi_ci, zi_cn, zi_get_ne, zi_nl_i, zi_nl_r, zi_get_set_eq, nl, g0, g1, zq_Desk_leastFreeNumber, zd_c, E1 F (by omega), ck, c3, zq_Desk_screenAtHand, E2 F (by omega), cm, n2]
      · rw [e2] at E2
        have cs : (0 : Int32) ≤ nI s := nI_pos' (by omega)
        right
        refine ⟨k, s, zi_set (zi_set L 6 (.int (nI k))) 7 (.int (nI s)), hk, hs, hnt, hlt, eo.trans e2, hst, ⟨N1 + N2, 16, fun F n hF => ?_⟩, ?_, ?_, ?_, ?_, ?_, ?_, ?_, zi_get_set_eq⟩
        · simp (maxDischargeDepth := 9) [zg_0, zg_aaload, zg_aload_n, zg_getfield, zg_goto, zg_iconst, zg_ifCond, zg_if_icmp, zg_iload, zg_iload_n, zg_invokestatic, zg_invokevirtual, zg_ireturn, zg_istore, zg_ldc, zg_putfield, zf_X5_open, zi_ld, zi_lda, zi_cmp, zi_retOk, zi_isI, zi_f3, zi_cr, zi_ci, zi_cn, zi_get_ne, zi_nl_i, zi_nl_r, zi_get_set_eq, nl, g0, g1, zq_Desk_leastFreeNumber, zd_c, E1 F (by omega), ck, c3, zq_Desk_screenAtHand, E2 F (by omega), cs]
        · simp (maxDischargeDepth := 9) [zi_get_ne, zi_nl_i, zi_nl_r, zi_get_set_eq, nl]
        · simp (maxDischargeDepth := 9) [zi_get_ne, zi_nl_i, zi_nl_r, zi_get_set_eq, nl, g0]
        · simp (maxDischargeDepth := 9) [zi_get_ne, zi_nl_i, zi_nl_r, zi_get_set_eq, nl, g1]
        · simp (maxDischargeDepth := 9) [zi_get_ne, zi_nl_i, zi_nl_r, zi_get_set_eq, nl, g2]
        · simp (maxDischargeDepth := 9) [zi_get_ne, zi_nl_i, zi_nl_r, zi_get_set_eq, nl, g3]
        · simp (maxDischargeDepth := 9) [zi_get_ne, zi_nl_i, zi_nl_r, zi_get_set_eq, nl, g4]
        · simp (maxDischargeDepth := 9) [zi_get_ne, zi_nl_i, zi_nl_r, zi_get_set_eq, nl]
end ZO5
