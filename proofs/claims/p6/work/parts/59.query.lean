/-! the desk's questions -/
section ZQ1
variable {μ : zm_M} {row stk : List Nat} {Rs : Nat → List Nat} {ts : Nat → zy_F}
set_option maxRecDepth 100000 in
/-- isOf's answer -/
theorem ze_isOf_in (D : Nat) {k : Nat} (hk : k < 10) (x : Int32) : ze_E (D + 2) A_Desk_isOf [.ref 1, .int (nI k), .int x] (zm_mk μ) (some (.int (if zd_th μ k = true ∧ (0 ≤ x ∧ x ≤ 4) then (if μ (zdW k) 3 = x ∨ x = 0 ∨ (x = 2 ∧ ¬ μ (zdW k) 3 = 1) then 1 else 0) else -1000000001))) (zm_mk μ) := by
  obtain ⟨N1, E1⟩ := ze_thW (μ := μ) D hk
  have n4 : Int32.ofInt (-1000000001) = -1000000001 := by decide
  by_cases c1 : zd_th μ k = true
  · rw [if_pos c1] at E1
    by_cases c2 : x < 0
    · rw [if_neg (fun q => Int32.not_le.mpr c2 q.2.1)]
      refine ze_in [(0, .ref 1), (1, .int (nI k)), (2, .int x)] zq_Desk_isOf (Nat.le_of_ble_eq_true rfl) rfl ⟨N1, 8, fun F n hF => ?_⟩
      simp [zg_0, zg_aaload, zg_aload_n, zg_getfield, zg_goto, zg_iconst, zg_ifCond, zg_if_icmp, zg_iload_n, zg_invokevirtual, zg_ireturn, zg_ldc, zf_X5_isOf, zi_ld, zi_lda, zi_cmp, zi_retOk, zi_isI, zi_f3, zi_cr, zi_ci, zi_cn, zi_get, zi_set, zq_Desk_isWindow, zd_c, E1 F (by omega), c2, n4]
    · have c2' : (0 : Int32) ≤ x := Int32.not_lt.mp c2
      by_cases c3 : x ≤ 4
      · rw [if_pos ⟨c1, c2', c3⟩]
        obtain ⟨N2, E2⟩ := ze_fallsUnder (μ := μ) D (zdW_at hk) x
        have cw := zw_c (μ := μ) (zdW_at hk)
        have ht : ¬ μ (zdW k) 2 = 0 := of_decide_eq_true c1
        by_cases c4 : μ (zdW k) 3 = x ∨ x = 0 ∨ (x = 2 ∧ ¬ μ (zdW k) 3 = 1)
        · have z : zb (¬ μ (zdW k) 2 = 0 ∧ (μ (zdW k) 3 = x ∨ x = 0 ∨ (x = 2 ∧ ¬ μ (zdW k) 3 = 1))) = 1 := if_pos ⟨ht, c4⟩
          rw [z] at E2
          rw [if_pos c4]
          refine ze_in [(0, .ref 1), (1, .int (nI k)), (2, .int x)] zq_Desk_isOf (Nat.le_of_ble_eq_true rfl) rfl ⟨N1 + N2, 19, fun F n hF => ?_⟩
          simp [zg_0, zg_aaload, zg_aload_n, zg_getfield, zg_goto, zg_iconst, zg_ifCond, zg_if_icmp, zg_iload_n, zg_invokevirtual, zg_ireturn, zg_ldc, zf_X5_isOf, zi_ld, zi_lda, zi_cmp, zi_retOk, zi_isI, zi_f3, zi_cr, zi_ci, zi_cn, zi_get, zi_set, zq_Desk_isWindow, zd_c, E1 F (by omega), c2, c3, zd_g, zd_w hk, zq_Win_fallsUnder, cw, E2 F (by omega)]
        · have z : zb (¬ μ (zdW k) 2 = 0 ∧ (μ (zdW k) 3 = x ∨ x = 0 ∨ (x = 2 ∧ ¬ μ (zdW k) 3 = 1))) = 0 := if_neg (fun q => c4 q.2)
          rw [z] at E2
          rw [if_neg c4]
          refine ze_in [(0, .ref 1), (1, .int (nI k)), (2, .int x)] zq_Desk_isOf (Nat.le_of_ble_eq_true rfl) rfl ⟨N1 + N2, 18, fun F n hF => ?_⟩
          simp [zg_0, zg_aaload, zg_aload_n, zg_getfield, zg_goto, zg_iconst, zg_ifCond, zg_if_icmp, zg_iload_n, zg_invokevirtual, zg_ireturn, zg_ldc, zf_X5_isOf, zi_ld, zi_lda, zi_cmp, zi_retOk, zi_isI, zi_f3, zi_cr, zi_ci, zi_cn, zi_get, zi_set, zq_Desk_isWindow, zd_c, E1 F (by omega), c2, c3, zd_g, zd_w hk, zq_Win_fallsUnder, cw, E2 F (by omega)]
      · rw [if_neg (fun q => c3 q.2.2)]
        refine ze_in [(0, .ref 1), (1, .int (nI k)), (2, .int x)] zq_Desk_isOf (Nat.le_of_ble_eq_true rfl) rfl ⟨N1, 11, fun F n hF => ?_⟩
        simp [zg_0, zg_aaload, zg_aload_n, zg_getfield, zg_goto, zg_iconst, zg_ifCond, zg_if_icmp, zg_iload_n, zg_invokevirtual, zg_ireturn, zg_ldc, zf_X5_isOf, zi_ld, zi_lda, zi_cmp, zi_retOk, zi_isI, zi_f3, zi_cr, zi_ci, zi_cn, zi_get, zi_set, zq_Desk_isWindow, zd_c, E1 F (by omega), c2, c3, n4]
  · rw [if_neg c1] at E1
    rw [if_neg (fun q => c1 q.1)]
    refine ze_in [(0, .ref 1), (1, .int (nI k)), (2, .int x)] zq_Desk_isOf (Nat.le_of_ble_eq_true rfl) rfl ⟨N1, 6, fun F n hF => ?_⟩
    simp [zg_0, zg_aaload, zg_aload_n, zg_getfield, zg_goto, zg_iconst, zg_ifCond, zg_if_icmp, zg_iload_n, zg_invokevirtual, zg_ireturn, zg_ldc, zf_X5_isOf, zi_ld, zi_lda, zi_cmp, zi_retOk, zi_isI, zi_f3, zi_cr, zi_ci, zi_cn, zi_get, zi_set, zq_Desk_isWindow, zd_c, E1 F (by omega), n4]
set_option maxRecDepth 100000 in
theorem ze_isOf_out (D : Nat) {w : Int32} (hw : w < 0 ∨ (10 : Int32) ≤ w) (x : Int32) : ze_E (D + 2) A_Desk_isOf [.ref 1, .int w, .int x] (zm_mk μ) (some (.int (-1000000001))) (zm_mk μ) := by
  obtain ⟨N1, E1⟩ := ze_isWindow_out (μ := μ) D hw
  have n4 : Int32.ofInt (-1000000001) = -1000000001 := by decide
  refine ze_in [(0, .ref 1), (1, .int w), (2, .int x)] zq_Desk_isOf (Nat.le_of_ble_eq_true rfl) rfl ⟨N1, 6, fun F n hF => ?_⟩
  simp [zg_0, zg_aaload, zg_aload_n, zg_getfield, zg_goto, zg_iconst, zg_ifCond, zg_if_icmp, zg_iload_n, zg_invokevirtual, zg_ireturn, zg_ldc, zf_X5_isOf, zi_ld, zi_lda, zi_cmp, zi_retOk, zi_isI, zi_f3, zi_cr, zi_ci, zi_cn, zi_get, zi_set, zq_Desk_isWindow, zd_c, E1 F (by omega), n4]
/-- a tiled window's screen, tree and leaf -/
theorem zJ_til (h : zJ μ row stk Rs ts) {k : Nat} (hk : k < 10) (ht : zd_til μ k = true) : ∃ s, s < 3 ∧ μ (zdW k) 5 = nI s ∧ k ∈ Rs s ∧ ∃ n ∈ zy_lvs (ts s), μ (zdT s + 3) k = nI n := by
  obtain ⟨h1, h2⟩ := of_decide_eq_true ht
  obtain ⟨-, -, a3, -, -⟩ := h.2.2.1 k hk (decide_eq_true h1)
  obtain ⟨s, hs, e, -⟩ := a3 (by rw [h2]; decide)
  have hR := ((h.2.2.2.1 s hs).2.1 k).mpr ⟨hk, ht, e⟩
  exact ⟨s, hs, e, hR, (h.2.2.2.1 s hs).1.1.2.2.2.1 k hR⟩
theorem zJ_scr (h : zJ μ row stk Rs ts) {k : Nat} (hk : k < 10) : zd_scr μ k := fun ht => by
  obtain ⟨s, hs, e, -, -⟩ := zJ_til h hk ht
  exact ⟨s, Rs s, ts s, hs, e, (h.2.2.2.1 s hs).1.1⟩
/-- a screen for a window, whatever it is -/
theorem zJ_shw (h : zJ μ row stk Rs ts) {k : Nat} (hk : k < 10) : ∃ s, s < 3 ∧ (zd_til μ k = true → μ (zdW k) 5 = nI s ∧ zt_I μ (zdT s) (Rs s) (ts s) ∧ k ∈ Rs s) := by
  by_cases c : zd_til μ k = true
  · obtain ⟨s, hs, e, hR, -⟩ := zJ_til h hk c
    exact ⟨s, hs, fun _ => ⟨e, (h.2.2.2.1 s hs).1.1, hR⟩⟩
  · exact ⟨0, by decide, fun q => absurd q c⟩
theorem zd_frA_eqv {ν : zm_M} (f : zd_frA μ ν) : zJ_eqv μ ν := fun c hc => f c (fun s hs => by
  unfold zJ_irr at hc
  unfold zdT
  omega)
set_option maxRecDepth 100000 in
theorem ze_area (D : Nat) (h : zJ μ row stk Rs ts) (w x : Int32) : ∃ ν v, ze_E (D + 7) A_Desk_area [.ref 1, .int w, .int x] (zm_mk μ) (some (.int v)) (zm_mk ν) ∧ zJ_eqv μ ν := by
  have n4 : Int32.ofInt (-1000000001) = -1000000001 := by decide
  have n5 : Int32.ofInt (-1000000005) = -1000000005 := by decide
  have hno : ze_E (D + 6) A_Desk_isWindow [.ref 1, .int w] (zm_mk μ) (some (.int 0)) (zm_mk μ) → ∃ ν v, ze_E (D + 7) A_Desk_area [.ref 1, .int w, .int x] (zm_mk μ) (some (.int v)) (zm_mk ν) ∧ zJ_eqv μ ν := by
    rintro ⟨N1, E1⟩
    refine ⟨μ, -1000000001, ze_in [(0, .ref 1), (1, .int w), (2, .int x)] zq_Desk_area (Nat.le_of_ble_eq_true rfl) rfl ⟨N1, 6, fun F n hF => ?_⟩, zJ_eqv.refl⟩
    simp [zg_0, zg_aaload, zg_aload_n, zg_getfield, zg_goto, zg_iconst, zg_ifCond, zg_iload_n, zg_invokevirtual, zg_ireturn, zg_isub, zg_ldc, zg_tableswitch, zf_X5_area, zi_ld, zi_lda, zi_cmp, zi_retOk, zi_isI, zi_f3, zi_cr, zi_ci, zi_cn, zi_get, zi_set, zq_Desk_isWindow, zd_c, E1 F (by omega), n4]
  rcases zd_rng w 10 (by decide) with ⟨k, hk, rfl⟩ | hout
  · have E1 := ze_thW (μ := μ) (D + 5) hk
    by_cases c1 : zd_th μ k = true
    · rw [if_pos c1] at E1
      obtain ⟨N1, E1⟩ := E1
      obtain ⟨ν, ⟨N2, E2⟩, f2, -⟩ := ze_layTrees (μ := μ) D (fun s hs => (h.2.2.2.1 s hs).1)
      have hJ := h.eqv (zd_frA_eqv f2)
      have S0 : ze_S (D + 6) 3 (some .int) zc_X5_area 0 [(0, .ref 1), (1, .int (nI k)), (2, .int x)] [] (zm_mk μ) 16 [(0, .ref 1), (1, .int (nI k)), (2, .int x)] [.int x] (zm_mk ν) := by
        refine ⟨N1 + N2, 7, fun F n hF => ?_⟩
        simp [zg_0, zg_aaload, zg_aload_n, zg_getfield, zg_goto, zg_iconst, zg_ifCond, zg_iload_n, zg_invokevirtual, zg_ireturn, zg_isub, zg_ldc, zg_tableswitch, zf_X5_area, zi_ld, zi_lda, zi_cmp, zi_retOk, zi_isI, zi_f3, zi_cr, zi_ci, zi_cn, zi_get, zi_set, zq_Desk_isWindow, zd_c, E1 F (by omega), zq_Desk_layTrees, E2 F (by omega)]
      refine ⟨ν, ?_⟩
      have fin : ∃ v, ze_G (D + 6) 3 (some .int) zc_X5_area 16 [(0, .ref 1), (1, .int (nI k)), (2, .int x)] [.int x] (zm_mk ν) (some (.int v)) (zm_mk ν) := by
        obtain ⟨v1, N3, E3⟩ := ze_startOf (μ := ν) (D + 3) hk (a := 0) (by decide) (zJ_scr hJ hk)
        obtain ⟨v2, N4, E4⟩ := ze_startOf (μ := ν) (D + 3) hk (a := 1) (by decide) (zJ_scr hJ hk)
        obtain ⟨v3, N5, E5⟩ := ze_lengthOf (μ := ν) (D + 3) hk (a := 0) (by decide) (zJ_scr hJ hk)
        obtain ⟨v4, N6, E6⟩ := ze_lengthOf (μ := ν) (D + 3) hk (a := 1) (by decide) (zJ_scr hJ hk)
        rcases zd_rng x 5 (by decide) with ⟨j, hj, rfl⟩ | ho
        · match j, hj with
          | 0, _ =>
            have t0 : (nI 0).toInt = 0 := by decide
            have cw := zw_c (μ := ν) (zdW_at hk)
            obtain ⟨N7, E7⟩ := ze_stiW (μ := ν) (D + 5) hk
            by_cases c2 : zd_sti ν k = true
            · rw [if_pos c2] at E7
              refine ⟨-1000000005, N7, 10, fun F n hF => ?_⟩
              simp [zg_0, zg_aaload, zg_aload_n, zg_getfield, zg_goto, zg_iconst, zg_ifCond, zg_iload_n, zg_invokevirtual, zg_ireturn, zg_isub, zg_ldc, zg_tableswitch, zf_X5_area, zi_ld, zi_lda, zi_cmp, zi_retOk, zi_isI, zi_f3, zi_cr, zi_ci, zi_cn, zi_get, zi_set, t0, zd_g, zd_w hk, zq_Win_isSticky, cw, E7 F (by omega), n5]
            · rw [if_neg c2] at E7
              refine ⟨ν (zdW k) 5, N7, 13, fun F n hF => ?_⟩
              simp [zg_0, zg_aaload, zg_aload_n, zg_getfield, zg_goto, zg_iconst, zg_ifCond, zg_iload_n, zg_invokevirtual, zg_ireturn, zg_isub, zg_ldc, zg_tableswitch, zf_X5_area, zi_ld, zi_lda, zi_cmp, zi_retOk, zi_isI, zi_f3, zi_cr, zi_ci, zi_cn, zi_get, zi_set, t0, zd_g, zd_w hk, zw_g (zdW_at hk), zq_Win_isSticky, cw, E7 F (by omega)]
          | 1, _ =>
            have t0 : (nI 1).toInt = 1 := by decide
            have hm : nI 1 - 1 = nI 0 := by decide
            refine ⟨v1, N3, 8, fun F n hF => ?_⟩
            simp [zg_0, zg_aaload, zg_aload_n, zg_getfield, zg_goto, zg_iconst, zg_ifCond, zg_iload_n, zg_invokevirtual, zg_ireturn, zg_isub, zg_ldc, zg_tableswitch, zf_X5_area, zi_ld, zi_lda, zi_cmp, zi_retOk, zi_isI, zi_f3, zi_cr, zi_ci, zi_cn, zi_get, zi_set, t0, hm, zq_Desk_startOf, zd_c, E3 F (by omega)]
          | 2, _ =>
            have t0 : (nI 2).toInt = 2 := by decide
            have hm : nI 2 - 1 = nI 1 := by decide
            refine ⟨v2, N4, 8, fun F n hF => ?_⟩
            simp [zg_0, zg_aaload, zg_aload_n, zg_getfield, zg_goto, zg_iconst, zg_ifCond, zg_iload_n, zg_invokevirtual, zg_ireturn, zg_isub, zg_ldc, zg_tableswitch, zf_X5_area, zi_ld, zi_lda, zi_cmp, zi_retOk, zi_isI, zi_f3, zi_cr, zi_ci, zi_cn, zi_get, zi_set, t0, hm, zq_Desk_startOf, zd_c, E4 F (by omega)]
          | 3, _ =>
            have t0 : (nI 3).toInt = 3 := by decide
            have hm : nI 3 - 3 = nI 0 := by decide
            refine ⟨v3, N5, 8, fun F n hF => ?_⟩
            simp [zg_0, zg_aaload, zg_aload_n, zg_getfield, zg_goto, zg_iconst, zg_ifCond, zg_iload_n, zg_invokevirtual, zg_ireturn, zg_isub, zg_ldc, zg_tableswitch, zf_X5_area, zi_ld, zi_lda, zi_cmp, zi_retOk, zi_isI, zi_f3, zi_cr, zi_ci, zi_cn, zi_get, zi_set, t0, hm, zq_Desk_lengthOf, zd_c, E5 F (by omega)]
          | 4, _ =>
            have t0 : (nI 4).toInt = 4 := by decide
            have hm : nI 4 - 3 = nI 1 := by decide
            refine ⟨v4, N6, 8, fun F n hF => ?_⟩
            simp [zg_0, zg_aaload, zg_aload_n, zg_getfield, zg_goto, zg_iconst, zg_ifCond, zg_iload_n, zg_invokevirtual, zg_ireturn, zg_isub, zg_ldc, zg_tableswitch, zf_X5_area, zi_ld, zi_lda, zi_cmp, zi_retOk, zi_isI, zi_f3, zi_cr, zi_ci, zi_cn, zi_get, zi_set, t0, hm, zq_Desk_lengthOf, zd_c, E6 F (by omega)]
        · have ho' : x.toInt < 0 ∨ 4 < x.toInt := by
            rcases ho with q | q
            · left
              exact Int32.lt_iff_toInt_lt.mp q
            · right
              have := Int32.le_iff_toInt_le.mp q
              rw [show (nI 5).toInt = 5 by decide] at this
              omega
          refine ⟨-1000000001, 0, 3, fun F n hF => ?_⟩
          simp [zg_0, zg_aaload, zg_aload_n, zg_getfield, zg_goto, zg_iconst, zg_ifCond, zg_iload_n, zg_invokevirtual, zg_ireturn, zg_isub, zg_ldc, zg_tableswitch, zf_X5_area, zi_ld, zi_lda, zi_cmp, zi_retOk, zi_isI, zi_f3, zi_cr, zi_ci, zi_cn, zi_get, zi_set, ho', n4]
      obtain ⟨v, G⟩ := fin
      exact ⟨v, ze_in [(0, .ref 1), (1, .int (nI k)), (2, .int x)] zq_Desk_area (Nat.le_of_ble_eq_true rfl) rfl (S0.end G), zd_frA_eqv f2⟩
    · rw [if_neg c1] at E1
      exact hno E1
  · exact hno (ze_isWindow_out (D + 5) hout)
end ZQ1
