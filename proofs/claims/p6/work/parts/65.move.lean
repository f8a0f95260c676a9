/-! the desk: move, share -/
section ZQ7
variable {μ ν : zm_M} {row stk : List Nat} {Rs : Nat → List Nat} {ts : Nat → zy_F}
/-- a place is a cell that no answer of ours rests on -/
theorem zJ_eqv_W {k : Nat} (hk : k < 10) (f : ∀ c, c ≠ zdW k + 2 → ν c = μ c) : zJ_eqv μ ν := fun c hc => f c (fun e => hc (by unfold zJ_irr; rw [e]; unfold zdW; omega))
/-- move: refused, or what is kept with the window is forgotten -/
def zd_mov (μ ν : zm_M) (w x y : Int32) : Prop :=
  (¬ (∃ k, k < 10 ∧ w = nI k ∧ zd_flo μ k = true ∧ (-1000 ≤ x ∧ x ≤ 1000) ∧ -1000 ≤ y ∧ y ≤ 1000) ∧ ν = μ) ∨ ∃ k ξ, k < 10 ∧ w = nI k ∧ zd_flo μ k = true ∧ ((-1000 ≤ x ∧ x ≤ 1000) ∧ -1000 ≤ y ∧ y ≤ 1000) ∧ zd_fgt μ ξ (fun s => zd_has μ s k) ∧ zJ_eqv ξ ν
set_option maxRecDepth 100000 in
theorem ze_move (D : Nat) (h : zJ μ row stk Rs ts) (w x y : Int32) : ∃ ν v, ze_E (D + 5) A_Desk_move [.ref 1, .int w, .int x, .int y] (zm_mk μ) (some (.int v)) (zm_mk ν) ∧ zJ ν row stk Rs ts ∧ zd_mov μ ν w x y := by
  have n4 : Int32.ofInt (-1000000001) = -1000000001 := by decide
  have n2 : Int32.ofInt (-1000000002) = -1000000002 := by decide
  have h400 : (Int16.ofInt 400).toInt32 = (400 : Int32) := by decide
  have hno : ze_E (D + 4) A_Desk_isWindow [.ref 1, .int w] (zm_mk μ) (some (.int 0)) (zm_mk μ) → (∀ k, k < 10 → w = nI k → ¬ zd_th μ k = true) → ∃ ν v, ze_E (D + 5) A_Desk_move [.ref 1, .int w, .int x, .int y] (zm_mk μ) (some (.int v)) (zm_mk ν) ∧ zJ ν row stk Rs ts ∧ zd_mov μ ν w x y := by
    rintro ⟨N1, E1⟩ hn
    refine ⟨μ, -1000000001, ze_in [(0, .ref 1), (1, .int w), (2, .int x), (3, .int y)] zq_Desk_move (Nat.le_of_ble_eq_true rfl) rfl ⟨N1, 6, fun F n hF => ?_⟩, h, Or.inl ⟨fun q => ?_, rfl⟩⟩
    · simp [zg_0, zg_aaload, zg_aload, zg_aload_n, zg_astore, zg_getfield, zg_goto, zg_iastore, zg_iconst, zg_ifCond, zg_iload_n, zg_invokestatic, zg_invokevirtual, zg_ireturn, zg_ldc, zg_sipush, zf_X5_move, zi_ld, zi_lda, zi_cmp, zi_retOk, zi_isI, zi_f3, zi_cr, zi_ci, zi_cn, zi_get, zi_set, zq_Desk_isWindow, zd_c, E1 F (by omega), n4]
    · obtain ⟨k, hk, e, hf, -⟩ := q
      exact hn k hk e (decide_eq_true (of_decide_eq_true hf).1)
  rcases zd_rng w 10 (by decide) with ⟨k, hk, rfl⟩ | hout
  · have inj : ∀ k', k' < 10 → nI k = nI k' → k' = k := fun k' hk' e => ((nI_eq (by omega) (by omega)).mp e).symm
    have E1 := ze_thW (μ := μ) (D + 3) hk
    by_cases c1 : zd_th μ k = true
    · rw [if_pos c1] at E1
      obtain ⟨N1, E1⟩ := E1
      obtain ⟨N2, E2⟩ := ze_isPlace (h := zm_mk μ) (D + 3) x
      obtain ⟨N3, E3⟩ := ze_isPlace (h := zm_mk μ) (D + 3) y
      by_cases c2 : -1000 ≤ x ∧ x ≤ 1000
      · have z2 : zb (-1000 ≤ x ∧ x ≤ 1000) = 1 := if_pos c2
        rw [z2] at E2
        by_cases c3 : -1000 ≤ y ∧ y ≤ 1000
        · have z3 : zb (-1000 ≤ y ∧ y ≤ 1000) = 1 := if_pos c3
          rw [z3] at E3
          obtain ⟨N4, E4⟩ := ze_floW (μ := μ) (D + 3) hk
          have cw := zw_c (μ := μ) (zdW_at hk)
          by_cases c4 : zd_flo μ k = true
          · rw [if_pos c4] at E4
            obtain ⟨ξ, ⟨N5, E5⟩, hf⟩ := ze_forgetKeptWith (μ := μ) (D + 1) hk
            have hJ := h.fgt hf
            have ew : ξ (zdW k) = μ (zdW k) := funext fun b => hf.2 _ b (fun s hs e => by unfold zdW zdK at e; omega)
            obtain ⟨N6, E6⟩ := ze_stiW (μ := ξ) (D + 3) hk
            have cw' := zw_c (μ := ξ) (zdW_at hk)
            have w2 := (zdW_at hk).2.2
            have S0 : ze_S (D + 4) 5 (some .int) zc_X5_move 0 [(0, .ref 1), (1, .int (nI k)), (2, .int x), (3, .int y)] [] (zm_mk μ) 49 [(4, .ref (zdW k + 1)), (0, .ref 1), (1, .int (nI k)), (2, .int x), (3, .int y)] [] (zm_mk ξ) := by
              refine ⟨N1 + N2 + N3 + N4 + N5, 21, fun F n hF => ?_⟩
              simp [zg_0, zg_aaload, zg_aload, zg_aload_n, zg_astore, zg_getfield, zg_goto, zg_iastore, zg_iconst, zg_ifCond, zg_iload_n, zg_invokestatic, zg_invokevirtual, zg_ireturn, zg_ldc, zg_sipush, zf_X5_move, zi_ld, zi_lda, zi_cmp, zi_retOk, zi_isI, zi_f3, zi_cr, zi_ci, zi_cn, zi_get, zi_set, zq_Desk_isWindow, zd_c, E1 F (by omega), zq_Desk_isPlace, E2 F (by omega), E3 F (by omega), zd_g, zd_w hk, zq_Win_isFloating, cw, E4 F (by omega), zq_Desk_forgetKeptWith, E5 F (by omega)]
            by_cases c5 : zd_sti ξ k = true
            · rw [if_pos c5] at E6
              obtain ⟨N7, E7⟩ := ze_between (h := zm_mk ξ) (D + 2) 0 x 400
              let ν1 := zm_up ξ (zdW k + 2) 0 (zi_bt 0 x 400)
              obtain ⟨N8, E8⟩ := ze_between (h := zm_mk ν1) (D + 2) 0 y 400
              have ev : zJ_eqv ξ (zm_up ν1 (zdW k + 2) 1 (zi_bt 0 y 400)) := zJ_eqv_W hk (fun c hc => by rw [zm_up_row hc]; exact zm_up_row hc)
              refine ⟨zm_up ν1 (zdW k + 2) 1 (zi_bt 0 y 400), 0, ze_in [(0, .ref 1), (1, .int (nI k)), (2, .int x), (3, .int y)] zq_Desk_move (Nat.le_of_ble_eq_true rfl) rfl (S0.end ⟨N6 + N7 + N8, 22, fun F n hF => ?_⟩), hJ.eqv ev, Or.inr ⟨k, ξ, hk, rfl, c4, ⟨c2, c3⟩, hf, ev⟩⟩
              have m1 : zm_up ξ (zdW k + 2) 0 (zi_bt 0 x 400) = ν1 := rfl
              simp [zg_0, zg_aaload, zg_aload, zg_aload_n, zg_astore, zg_getfield, zg_goto, zg_iastore, zg_iconst, zg_ifCond, zg_iload_n, zg_invokestatic, zg_invokevirtual, zg_ireturn, zg_ldc, zg_sipush, zf_X5_move, zi_ld, zi_lda, zi_cmp, zi_retOk, zi_isI, zi_f3, zi_cr, zi_ci, zi_cn, zi_get, zi_set, zq_Win_isSticky, cw', E6 F (by omega), zw_g (zdW_at hk), h400, zq_Desk_between, E7 F (by omega), zm_iast w2 zm_in0, zm_iast w2 zm_in1, zm_cl0, zm_cl1, m1, E8 F (by omega)]
            · rw [if_neg c5] at E6
              have h4 : ¬ ξ (zdW k) 3 = 4 := fun e => c5 (decide_eq_true ⟨by rw [ew]; exact (of_decide_eq_true c1), e⟩)
              obtain ⟨-, -, a3, -, -⟩ := h.2.2.1 k hk c1
              obtain ⟨s, hs, es, -⟩ := a3 (by rw [← ew]; exact h4)
              have es' : ξ (zdW k) 5 = nI s := by rw [ew]; exact es
              obtain ⟨N7, E7⟩ := ze_putAt (μ := ξ) D (zdW_at hk) (zdZ_A hs) (by unfold zdZ zdW; omega) x y
              have ev : zJ_eqv ξ (zw_put ξ (zdW k) (zdZ s) x y) := zJ_eqv_W hk (fun c hc => by unfold zw_put; rw [zm_up_row hc, zm_up_row hc])
              refine ⟨zw_put ξ (zdW k) (zdZ s) x y, 0, ze_in [(0, .ref 1), (1, .int (nI k)), (2, .int x), (3, .int y)] zq_Desk_move (Nat.le_of_ble_eq_true rfl) rfl (S0.end ⟨N6 + N7, 15, fun F n hF => ?_⟩), hJ.eqv ev, Or.inr ⟨k, ξ, hk, rfl, c4, ⟨c2, c3⟩, hf, ev⟩⟩
              simp [zg_0, zg_aaload, zg_aload, zg_aload_n, zg_astore, zg_getfield, zg_goto, zg_iastore, zg_iconst, zg_ifCond, zg_iload_n, zg_invokestatic, zg_invokevirtual, zg_ireturn, zg_ldc, zg_sipush, zf_X5_move, zi_ld, zi_lda, zi_cmp, zi_retOk, zi_isI, zi_f3, zi_cr, zi_ci, zi_cn, zi_get, zi_set, zq_Win_isSticky, cw', E6 F (by omega), zw_g (zdW_at hk), zd_g, es', zd_s hs, zdS_g hs, zq_Win_putAt, E7 F (by omega)]
          · rw [if_neg c4] at E4
            refine ⟨μ, -1000000002, ze_in [(0, .ref 1), (1, .int (nI k)), (2, .int x), (3, .int y)] zq_Desk_move (Nat.le_of_ble_eq_true rfl) rfl ⟨N1 + N2 + N3 + N4, 20, fun F n hF => ?_⟩, h, Or.inl ⟨fun q => ?_, rfl⟩⟩
            · simp [zg_0, zg_aaload, zg_aload, zg_aload_n, zg_astore, zg_getfield, zg_goto, zg_iastore, zg_iconst, zg_ifCond, zg_iload_n, zg_invokestatic, zg_invokevirtual, zg_ireturn, zg_ldc, zg_sipush, zf_X5_move, zi_ld, zi_lda, zi_cmp, zi_retOk, zi_isI, zi_f3, zi_cr, zi_ci, zi_cn, zi_get, zi_set, zq_Desk_isWindow, zd_c, E1 F (by omega), zq_Desk_isPlace, E2 F (by omega), E3 F (by omega), zd_g, zd_w hk, zq_Win_isFloating, cw, E4 F (by omega), n2]
            · obtain ⟨k', hk', e, hf, -⟩ := q
              rw [inj k' hk' e] at hf
              exact c4 hf
        · have z3 : zb (-1000 ≤ y ∧ y ≤ 1000) = 0 := if_neg c3
          rw [z3] at E3
          refine ⟨μ, -1000000001, ze_in [(0, .ref 1), (1, .int (nI k)), (2, .int x), (3, .int y)] zq_Desk_move (Nat.le_of_ble_eq_true rfl) rfl ⟨N1 + N2 + N3, 12, fun F n hF => ?_⟩, h, Or.inl ⟨fun q => ?_, rfl⟩⟩
          · simp [zg_0, zg_aaload, zg_aload, zg_aload_n, zg_astore, zg_getfield, zg_goto, zg_iastore, zg_iconst, zg_ifCond, zg_iload_n, zg_invokestatic, zg_invokevirtual, zg_ireturn, zg_ldc, zg_sipush, zf_X5_move, zi_ld, zi_lda, zi_cmp, zi_retOk, zi_isI, zi_f3, zi_cr, zi_ci, zi_cn, zi_get, zi_set, zq_Desk_isWindow, zd_c, E1 F (by omega), zq_Desk_isPlace, E2 F (by omega), E3 F (by omega), n4]
          · obtain ⟨k', hk', e, hf, -, q⟩ := q
            exact c3 q
      · have z2 : zb (-1000 ≤ x ∧ x ≤ 1000) = 0 := if_neg c2
        rw [z2] at E2
        refine ⟨μ, -1000000001, ze_in [(0, .ref 1), (1, .int (nI k)), (2, .int x), (3, .int y)] zq_Desk_move (Nat.le_of_ble_eq_true rfl) rfl ⟨N1 + N2, 9, fun F n hF => ?_⟩, h, Or.inl ⟨fun q => ?_, rfl⟩⟩
        · simp [zg_0, zg_aaload, zg_aload, zg_aload_n, zg_astore, zg_getfield, zg_goto, zg_iastore, zg_iconst, zg_ifCond, zg_iload_n, zg_invokestatic, zg_invokevirtual, zg_ireturn, zg_ldc, zg_sipush, zf_X5_move, zi_ld, zi_lda, zi_cmp, zi_retOk, zi_isI, zi_f3, zi_cr, zi_ci, zi_cn, zi_get, zi_set, zq_Desk_isWindow, zd_c, E1 F (by omega), zq_Desk_isPlace, E2 F (by omega), n4]
        · obtain ⟨k', hk', e, hf, q, -⟩ := q
          exact c2 q
    · rw [if_neg c1] at E1
      exact hno E1 (fun k' hk' e => by rw [inj k' hk' e]; exact c1)
  · exact hno (ze_isWindow_out (D + 3) hout) (fun k hk e => by
      rw [e] at hout
      exact absurd hout (fun q => q.elim (nI_pos (by omega)) (nI_ge (b := 10) hk (by decide))))
end ZQ7
