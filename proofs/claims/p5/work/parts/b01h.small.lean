/-! focus, back, move, share: the same answer -/
/-- refused: BAD where A doesn't hold, else NO -/
noncomputable def zx_ref (A : Prop) (r : Int32) : Prop := (¬ A ∧ r = -1000000001) ∨ (A ∧ r = -1000000002)
theorem zx_ref_eq {A B : Prop} {r1 r2 : Int32} (h : A ↔ B) (a : zx_ref A r1) (b : zx_ref B r2) : r2 = r1 := by
  rcases a with ⟨a, rfl⟩ | ⟨a, rfl⟩
  · rcases b with ⟨-, rfl⟩ | ⟨b, -⟩
    · rfl
    · exact absurd (h.mpr b) a
  · rcases b with ⟨b, -⟩ | ⟨-, rfl⟩
    · exact absurd (h.mp a) b
    · rfl
section ZXM
variable {μ ν : zm_M} {row stk : List Nat} {Rs : Nat → List Nat} {ts : Nat → zy_F}
set_option maxRecDepth 100000 in
theorem ze_focus_v (D : Nat) (h : zJ μ row stk Rs ts) {k : Nat} (hk : k < 10) (ht : zd_th μ k = true) : ∃ ν stk', ze_E (D + 16) A_Desk_focus [.ref 1, .int (nI k)] (zm_mk μ) (some (.int (nI (row.getD 0 0)))) (zm_mk ν) ∧ zJ ν (k :: row.erase k) stk' Rs ts ∧ zd_foc μ ν k := by
  obtain ⟨N1, E1⟩ := ze_thW (μ := μ) (D + 14) hk
  rw [if_pos ht] at E1
  obtain ⟨ν, stk', ⟨N2, E2⟩, hJ, hf⟩ := ze_giveFocusJ (μ := μ) D h hk ht
  have hkr : k ∈ row := (h.1.2.2 k).mpr ⟨hk, ht⟩
  have hl : 0 < row.length := List.length_pos_of_mem hkr
  obtain ⟨N3, E3⟩ := ze_Row_getL (μ := μ) (i := 0) (D + 14) zd3_at h.1.1 hl
  rw [nI_0] at E3
  generalize row.getD 0 0 = v at E3 ⊢
  have cr := zr_c (μ := μ) zd3_at
  refine ⟨ν, stk', ze_in [(0, .ref 1), (1, .int (nI k))] zq_Desk_focus (Nat.le_of_ble_eq_true rfl) rfl ⟨N1 + N2 + N3, 14, fun F n hF => ?_⟩, hJ, hf⟩
  simp [zg_0, zg_aload_n, zg_getfield, zg_iconst, zg_ifCond, zg_iload_n, zg_invokevirtual, zg_ireturn, zg_istore_n, zg_ldc, zf_X5_focus, zi_ld, zi_lda, zi_cmp, zi_retOk, zi_isI, zi_f3, zi_cr, zi_ci, zi_cn, zi_get, zi_set, zq_Desk_isWindow, zd_c, E1 F (by omega), zd_g, zq_Row_get, cr, E3 F (by omega), zq_Desk_giveFocus, E2 F (by omega)]
set_option maxRecDepth 100000 in
theorem ze_back_v (D : Nat) (h : zJ μ row stk Rs ts) (hl : ¬ row.length < 2) : ∃ ν stk', ze_E (D + 16) A_Desk_back [.ref 1] (zm_mk μ) (some (.int (nI (row.getD 1 0)))) (zm_mk ν) ∧ zJ ν (row.getD 1 0 :: row.erase (row.getD 1 0)) stk' Rs ts ∧ zd_foc μ ν (row.getD 1 0) := by
  obtain ⟨N1, E1⟩ := ze_Row_sizeL (μ := μ) (D + 14) zd3_at h.1.1
  have cr := zr_c (μ := μ) zd3_at
  have hl10 := h.1.1.1
  have c : (2 : Int32) ≤ nI row.length := nI_le (a := 2) (by omega) (by omega)
  obtain ⟨N3, E3⟩ := ze_Row_getL (μ := μ) (i := 1) (D + 14) zd3_at h.1.1 (by omega)
  have hm : row.getD 1 0 ∈ row := zl_mem (by omega)
  generalize row.getD 1 0 = k at E3 hm ⊢
  obtain ⟨hk, ht⟩ := (h.1.2.2 k).mp hm
  rw [show nI 1 = 1 by decide] at E3
  obtain ⟨ν, stk', ⟨N2, E2⟩, hJ, hf⟩ := ze_giveFocusJ (μ := μ) D h hk ht
  refine ⟨ν, stk', ze_in [(0, .ref 1)] zq_Desk_back (Nat.le_of_ble_eq_true rfl) rfl ⟨N1 + N2 + N3, 15, fun F n hF => ?_⟩, hJ, hf⟩
  simp [zg_0, zg_aload_n, zg_getfield, zg_iconst, zg_if_icmp, zg_iload_n, zg_invokevirtual, zg_ireturn, zg_istore_n, zg_ldc, zf_X5_back, zi_ld, zi_lda, zi_cmp, zi_retOk, zi_isI, zi_f3, zi_cr, zi_ci, zi_cn, zi_get, zi_set, zd_g, zq_Row_size, zq_Row_get, cr, E1 F (by omega), c, E3 F (by omega), zq_Desk_giveFocus, zd_c, E2 F (by omega)]
noncomputable def zd_movA (μ : zm_M) (w x y : Int32) : Prop := ∃ k, k < 10 ∧ w = nI k ∧ zd_th μ k = true ∧ (-1000 ≤ x ∧ x ≤ 1000) ∧ -1000 ≤ y ∧ y ≤ 1000
noncomputable def zd_movv (μ ν : zm_M) (w x y v : Int32) : Prop :=
  (¬ (∃ k, k < 10 ∧ w = nI k ∧ zd_flo μ k = true ∧ (-1000 ≤ x ∧ x ≤ 1000) ∧ -1000 ≤ y ∧ y ≤ 1000) ∧ ν = μ ∧ zx_ref (zd_movA μ w x y) v) ∨ ∃ k ξ, k < 10 ∧ w = nI k ∧ zd_flo μ k = true ∧ ((-1000 ≤ x ∧ x ≤ 1000) ∧ -1000 ≤ y ∧ y ≤ 1000) ∧ zd_fgt μ ξ (fun s => zd_has μ s k) ∧ zJ_eqv ξ ν ∧ v = 0
set_option maxRecDepth 100000 in
theorem ze_move_v (D : Nat) (h : zJ μ row stk Rs ts) (w x y : Int32) : ∃ ν v, ze_E (D + 5) A_Desk_move [.ref 1, .int w, .int x, .int y] (zm_mk μ) (some (.int v)) (zm_mk ν) ∧ zJ ν row stk Rs ts ∧ zd_movv μ ν w x y v := by
  have n4 : Int32.ofInt (-1000000001) = -1000000001 := by decide
  have n2 : Int32.ofInt (-1000000002) = -1000000002 := by decide
  have h400 : (Int16.ofInt 400).toInt32 = (400 : Int32) := by decide
  have hno : ze_E (D + 4) A_Desk_isWindow [.ref 1, .int w] (zm_mk μ) (some (.int 0)) (zm_mk μ) → (∀ k, k < 10 → w = nI k → ¬ zd_th μ k = true) → ∃ ν v, ze_E (D + 5) A_Desk_move [.ref 1, .int w, .int x, .int y] (zm_mk μ) (some (.int v)) (zm_mk ν) ∧ zJ ν row stk Rs ts ∧ zd_movv μ ν w x y v := by
    rintro ⟨N1, E1⟩ hn
    refine ⟨μ, -1000000001, ze_in [(0, .ref 1), (1, .int w), (2, .int x), (3, .int y)] zq_Desk_move (Nat.le_of_ble_eq_true rfl) rfl ⟨N1, 6, fun F n hF => ?_⟩, h, Or.inl ⟨fun q => ?_, rfl, Or.inl ⟨fun ⟨k, hk, e, ht, _⟩ => hn k hk e ht, rfl⟩⟩⟩
    · simp [zg_0, zg_aaload, zg_aload, zg_aload_n, zg_astore, zg_getfield, zg_goto, zg_iastore, zg_iconst, zg_ifCond, zg_iload_n, zg_invokestatic, zg_invokevirtual, zg_ireturn, zg_ldc, zg_sipush, zf_X5_move, zi_ld, zi_lda, zi_cmp, zi_retOk, zi_isI, zi_f3, zi_cr, zi_ci, zi_cn, zi_get, zi_set, zq_Desk_isWindow, zd_c, E1 F (by omega), n4]
    · obtain ⟨k, hk, e, hf, -⟩ := q
      exact hn k hk e (decide_eq_true (of_decide_eq_true hf).1)
  rcases zd_rng w 10 (by decide) with ⟨k, hk, rfl⟩ | hout
  · have inj : ∀ k', k' < 10 → nI k = nI k' → k' = k := fun k' hk' e => ((nI_eq (by omega) (by omega)).mp e).symm
    have E1 := ze_thW (μ := μ) (D + 3) hk
    by_cases c1 : zd_th μ k = true
    · rw [if_pos c1] at E1
      obtain ⟨N1, E1⟩ := E1
      obtain ⟨N2, E2⟩ := ze_isPlace (h := zm_mk μ) (D + 3) x
      obtain ⟨N3, E3⟩ := ze_isPlace (h := zm_mk μ) (D + 3) y
      by_cases c2 : -1000 ≤ x ∧ x ≤ 1000
      · have z2 : zb (-1000 ≤ x ∧ x ≤ 1000) = 1 := if_pos c2
        rw [z2] at E2
        by_cases c3 : -1000 ≤ y ∧ y ≤ 1000
        · have z3 : zb (-1000 ≤ y ∧ y ≤ 1000) = 1 := if_pos c3
          rw [z3] at E3
          obtain ⟨N4, E4⟩ := ze_floW (μ := μ) (D + 3) hk
          have cw := zw_c (μ := μ) (zdW_at hk)
          by_cases c4 : zd_flo μ k = true
          · rw [if_pos c4] at E4
            obtain ⟨ξ, ⟨N5, E5⟩, hf⟩ := ze_forgetKeptWith (μ := μ) (D + 1) hk
            have hJ := h.fgt hf
            have ew : ξ (zdW k) = μ (zdW k) := funext fun b => hf.2 _ b (fun s hs e => by unfold zdW zdK at e; omega)
            obtain ⟨N6, E6⟩ := ze_stiW (μ := ξ) (D + 3) hk
            have cw' := zw_c (μ := ξ) (zdW_at hk)
            have w2 := (zdW_at hk).2.2
            have S0 : ze_S (D + 4) 5 (some .int) zc_X5_move 0 [(0, .ref 1), (1, .int (nI k)), (2, .int x), (3, .int y)] [] (zm_mk μ) 49 [(4, .ref (zdW k + 1)), (0, .ref 1), (1, .int (nI k)), (2, .int x), (3, .int y)] [] (zm_mk ξ) := by
              refine ⟨N1 + N2 + N3 + N4 + N5, 21, fun F n hF => ?_⟩
              simp [zg_0, zg_aaload, zg_aload, zg_aload_n, zg_astore, zg_getfield, zg_goto, zg_iastore, zg_iconst, zg_ifCond, zg_iload_n, zg_invokestatic, zg_invokevirtual, zg_ireturn, zg_ldc, zg_sipush, zf_X5_move, zi_ld, zi_lda, zi_cmp, zi_retOk, zi_isI, zi_f3, zi_cr, zi_ci, zi_cn, zi_get, zi_set, zq_Desk_isWindow, zd_c, E1 F (by omega), zq_Desk_isPlace, E2 F (by omega), E3 F (by omega), zd_g, zd_w hk, zq_Win_isFloating, cw, E4 F (by omega), zq_Desk_forgetKeptWith, E5 F (by omega)]
            by_cases c5 : zd_sti ξ k = true
            · rw [if_pos c5] at E6
              obtain ⟨N7, E7⟩ := ze_between (h := zm_mk ξ) (D + 2) 0 x 400
              let ν1 := zm_up ξ (zdW k + 2) 0 (zi_bt 0 x 400)
              obtain ⟨N8, E8⟩ := ze_between (h := zm_mk ν1) (D + 2) 0 y 400
              have ev : zJ_eqv ξ (zm_up ν1 (zdW k + 2) 1 (zi_bt 0 y 400)) := zJ_eqv_W hk (fun c hc => by rw [zm_up_row hc]; exact zm_up_row hc)
              refine ⟨zm_up ν1 (zdW k + 2) 1 (zi_bt 0 y 400), 0, ze_in [(0, .ref 1), (1, .int (nI k)), (2, .int x), (3, .int y)] zq_Desk_move (Nat.le_of_ble_eq_true rfl) rfl (S0.end ⟨N6 + N7 + N8, 22, fun F n hF => ?_⟩), hJ.eqv ev, Or.inr ⟨k, ξ, hk, rfl, c4, ⟨c2, c3⟩, hf, ev, rfl⟩⟩
              have m1 : zm_up ξ (zdW k + 2) 0 (zi_bt 0 x 400) = ν1 := rfl
              simp [zg_0, zg_aaload, zg_aload, zg_aload_n, zg_astore, zg_getfield, zg_goto, zg_iastore, zg_iconst, zg_ifCond, zg_iload_n, zg_invokestatic, zg_invokevirtual, zg_ireturn, zg_ldc, zg_sipush, zf_X5_move, zi_ld, zi_lda, zi_cmp, zi_retOk, zi_isI, zi_f3, zi_cr, zi_ci, zi_cn, zi_get, zi_set, zq_Win_isSticky, cw', E6 F (by omega), zw_g (zdW_at hk), h400, zq_Desk_between, E7 F (by omega), zm_iast w2 zm_in0, zm_iast w2 zm_in1, zm_cl0, zm_cl1, m1, E8 F (by omega)]
            · rw [if_neg c5] at E6
              have h4 : ¬ ξ (zdW k) 3 = 4 := fun e => c5 (decide_eq_true ⟨by rw [ew]; exact (of_decide_eq_true c1), e⟩)
              obtain ⟨-, -, a3, -, -⟩ := h.2.2.1 k hk c1
              obtain ⟨s, hs, es, -⟩ := a3 (by rw [← ew]; exact h4)
              have es' : ξ (zdW k) 5 = nI s := by rw [ew]; exact es
              obtain ⟨N7, E7⟩ := ze_putAt (μ := ξ) D (zdW_at hk) (zdZ_A hs) (by unfold zdZ zdW; omega) x y
              have ev : zJ_eqv ξ (zw_put ξ (zdW k) (zdZ s) x y) := zJ_eqv_W hk (fun c hc => by unfold zw_put; rw [zm_up_row hc, zm_up_row hc])
              refine ⟨zw_put ξ (zdW k) (zdZ s) x y, 0, ze_in [(0, .ref 1), (1, .int (nI k)), (2, .int x), (3, .int y)] zq_Desk_move (Nat.le_of_ble_eq_true rfl) rfl (S0.end ⟨N6 + N7, 15, fun F n hF => ?_⟩), hJ.eqv ev, Or.inr ⟨k, ξ, hk, rfl, c4, ⟨c2, c3⟩, hf, ev, rfl⟩⟩
              simp [zg_0, zg_aaload, zg_aload, zg_aload_n, zg_astore, zg_getfield, zg_goto, zg_iastore, zg_iconst, zg_ifCond, zg_iload_n, zg_invokestatic, zg_invokevirtual, zg_ireturn, zg_ldc, zg_sipush, zf_X5_move, zi_ld, zi_lda, zi_cmp, zi_retOk, zi_isI, zi_f3, zi_cr, zi_ci, zi_cn, zi_get, zi_set, zq_Win_isSticky, cw', E6 F (by omega), zw_g (zdW_at hk), zd_g, es', zd_s hs, zdS_g hs, zq_Win_putAt, E7 F (by omega)]
          · rw [if_neg c4] at E4
            refine ⟨μ, -1000000002, ze_in [(0, .ref 1), (1, .int (nI k)), (2, .int x), (3, .int y)] zq_Desk_move (Nat.le_of_ble_eq_true rfl) rfl ⟨N1 + N2 + N3 + N4, 20, fun F n hF => ?_⟩, h, Or.inl ⟨fun q => ?_, rfl, Or.inr ⟨⟨k, hk, rfl, c1, c2, c3⟩, rfl⟩⟩⟩
            · simp [zg_0, zg_aaload, zg_aload, zg_aload_n, zg_astore, zg_getfield, zg_goto, zg_iastore, zg_iconst, zg_ifCond, zg_iload_n, zg_invokestatic, zg_invokevirtual, zg_ireturn, zg_ldc, zg_sipush, zf_X5_move, zi_ld, zi_lda, zi_cmp, zi_retOk, zi_isI, zi_f3, zi_cr, zi_ci, zi_cn, zi_get, zi_set, zq_Desk_isWindow, zd_c, E1 F (by omega), zq_Desk_isPlace, E2 F (by omega), E3 F (by omega), zd_g, zd_w hk, zq_Win_isFloating, cw, E4 F (by omega), n2]
            · obtain ⟨k', hk', e, hf, -⟩ := q
              rw [inj k' hk' e] at hf
              exact c4 hf
        · have z3 : zb (-1000 ≤ y ∧ y ≤ 1000) = 0 := if_neg c3
          rw [z3] at E3
          refine ⟨μ, -1000000001, ze_in [(0, .ref 1), (1, .int (nI k)), (2, .int x), (3, .int y)] zq_Desk_move (Nat.le_of_ble_eq_true rfl) rfl ⟨N1 + N2 + N3, 12, fun F n hF => ?_⟩, h, Or.inl ⟨fun q => ?_, rfl, Or.inl ⟨fun ⟨_, _, _, _, _, q⟩ => c3 q, rfl⟩⟩⟩
          · simp [zg_0, zg_aaload, zg_aload, zg_aload_n, zg_astore, zg_getfield, zg_goto, zg_iastore, zg_iconst, zg_ifCond, zg_iload_n, zg_invokestatic, zg_invokevirtual, zg_ireturn, zg_ldc, zg_sipush, zf_X5_move, zi_ld, zi_lda, zi_cmp, zi_retOk, zi_isI, zi_f3, zi_cr, zi_ci, zi_cn, zi_get, zi_set, zq_Desk_isWindow, zd_c, E1 F (by omega), zq_Desk_isPlace, E2 F (by omega), E3 F (by omega), n4]
          · obtain ⟨k', hk', e, hf, -, q⟩ := q
            exact c3 q
      · have z2 : zb (-1000 ≤ x ∧ x ≤ 1000) = 0 := if_neg c2
        rw [z2] at E2
        refine ⟨μ, -1000000001, ze_in [(0, .ref 1), (1, .int (nI k)), (2, .int x), (3, .int y)] zq_Desk_move (Nat.le_of_ble_eq_true rfl) rfl ⟨N1 + N2, 9, fun F n hF => ?_⟩, h, Or.inl ⟨fun q => ?_, rfl, Or.inl ⟨fun ⟨_, _, _, _, q, _⟩ => c2 q, rfl⟩⟩⟩
        · simp [zg_0, zg_aaload, zg_aload, zg_aload_n, zg_astore, zg_getfield, zg_goto, zg_iastore, zg_iconst, zg_ifCond, zg_iload_n, zg_invokestatic, zg_invokevirtual, zg_ireturn, zg_ldc, zg_sipush, zf_X5_move, zi_ld, zi_lda, zi_cmp, zi_retOk, zi_isI, zi_f3, zi_cr, zi_ci, zi_cn, zi_get, zi_set, zq_Desk_isWindow, zd_c, E1 F (by omega), zq_Desk_isPlace, E2 F (by omega), n4]
        · obtain ⟨k', hk', e, hf, q, -⟩ := q
          exact c2 q
    · rw [if_neg c1] at E1
      exact hno E1 (fun k' hk' e => by rw [inj k' hk' e]; exact c1)
  · exact hno (ze_isWindow_out (D + 3) hout) (fun k hk e => by
      rw [e] at hout
      exact absurd hout (fun q => q.elim (nI_pos (by omega)) (nI_ge (b := 10) hk (by decide))))
noncomputable def zd_shrA (μ : zm_M) (w x v : Int32) : Prop := ∃ k a, k < 10 ∧ a < 2 ∧ w = nI k ∧ x = nI a ∧ zd_th μ k = true ∧ 10 ≤ v ∧ v ≤ 90
noncomputable def zd_shrv (μ ν : zm_M) (ts : Nat → zy_F) (w x v r : Int32) : Prop :=
  (¬ (∃ k s n a, k < 10 ∧ s < 3 ∧ a < 2 ∧ w = nI k ∧ x = nI a ∧ (10 ≤ v ∧ v ≤ 90) ∧ zd_til μ k = true ∧ μ (zdW k) 5 = nI s ∧ n ∈ zy_lvs (ts s) ∧ μ (zdT s + 3) k = nI n ∧ ¬ zy_nc (μ (zdT s + 7)) x n (ts s) < 0) ∧ ν = μ ∧ zx_ref (zd_shrA μ w x v) r) ∨
  ∃ k s n a, k < 10 ∧ s < 3 ∧ a < 2 ∧ w = nI k ∧ x = nI a ∧ (10 ≤ v ∧ v ≤ 90) ∧ zd_til μ k = true ∧ μ (zdW k) 5 = nI s ∧ n ∈ zy_lvs (ts s) ∧ μ (zdT s + 3) k = nI n ∧ ¬ zy_nc (μ (zdT s + 7)) x n (ts s) < 0 ∧ ν = zm_up μ (zdT s + 8) (zy_nc (μ (zdT s + 7)) x n (ts s)).toNatClampNeg v ∧ r = μ (zdT s + 8) (zy_nc (μ (zdT s + 7)) x n (ts s)).toNatClampNeg
set_option maxRecDepth 100000 in
theorem ze_share_v (D : Nat) (h : zJ μ row stk Rs ts) (w x v : Int32) : ∃ ν r, ze_E (D + 3) A_Desk_share [.ref 1, .int w, .int x, .int v] (zm_mk μ) (some (.int r)) (zm_mk ν) ∧ zJ ν row stk Rs ts ∧ zd_shrv μ ν ts w x v r := by
  have n4 : Int32.ofInt (-1000000001) = -1000000001 := by decide
  have n2 : Int32.ofInt (-1000000002) = -1000000002 := by decide
  have h10 : (Int8.ofInt 10).toInt32 = (10 : Int32) := by decide
  have h90 : (Int8.ofInt 90).toInt32 = (90 : Int32) := by decide
  have hno : ze_E (D + 2) A_Desk_isWindow [.ref 1, .int w] (zm_mk μ) (some (.int 0)) (zm_mk μ) → (∀ k, k < 10 → w = nI k → ¬ zd_th μ k = true) → ∃ ν r, ze_E (D + 3) A_Desk_share [.ref 1, .int w, .int x, .int v] (zm_mk μ) (some (.int r)) (zm_mk ν) ∧ zJ ν row stk Rs ts ∧ zd_shrv μ ν ts w x v r := by
    rintro ⟨N1, E1⟩ hn
    refine ⟨μ, -1000000001, ze_in [(0, .ref 1), (1, .int w), (2, .int x), (3, .int v)] zq_Desk_share (Nat.le_of_ble_eq_true rfl) rfl ⟨N1, 6, fun F n hF => ?_⟩, h, Or.inl ⟨fun q => ?_, rfl, Or.inl ⟨fun ⟨k, _, hk, _, e, _, ht, _⟩ => hn k hk e ht, rfl⟩⟩⟩
    · simp [zg_0, zg_aaload, zg_aload, zg_aload_n, zg_astore, zg_bipush, zg_getfield, zg_goto, zg_ifCond, zg_if_icmp, zg_iload, zg_iload_n, zg_invokestatic, zg_invokevirtual, zg_ireturn, zg_istore, zg_ldc, zf_X5_share, zi_ld, zi_lda, zi_cmp, zi_retOk, zi_isI, zi_f3, zi_cr, zi_ci, zi_cn, zi_get, zi_set, zq_Desk_isWindow, zd_c, E1 F (by omega), n4]
    · obtain ⟨k, s, n, a, hk, -, -, e, -, -, hf, -⟩ := q
      exact hn k hk e (decide_eq_true (of_decide_eq_true hf).1)
  rcases zd_rng w 10 (by decide) with ⟨k, hk, rfl⟩ | hout
  · have inj : ∀ k', k' < 10 → nI k = nI k' → k' = k := fun k' hk' e => ((nI_eq (by omega) (by omega)).mp e).symm
    have E1 := ze_thW (μ := μ) (D + 1) hk
    by_cases c1 : zd_th μ k = true
    · rw [if_pos c1] at E1
      obtain ⟨N1, E1⟩ := E1
      obtain ⟨N2, E2⟩ := ze_isAxis (h := zm_mk μ) (D + 1) x
      by_cases c2 : x = 0 ∨ x = 1
      · have z2 : zb (x = 0 ∨ x = 1) = 1 := if_pos c2
        rw [z2] at E2
        obtain ⟨a, ha, ea⟩ : ∃ a, a < 2 ∧ x = nI a := by
          rcases c2 with e | e
          · exact ⟨0, by decide, by rw [e, nI_0]⟩
          · exact ⟨1, by decide, by rw [e]; decide⟩
        by_cases c3 : v < 10
        · refine ⟨μ, -1000000001, ze_in [(0, .ref 1), (1, .int (nI k)), (2, .int x), (3, .int v)] zq_Desk_share (Nat.le_of_ble_eq_true rfl) rfl ⟨N1 + N2, 12, fun F n hF => ?_⟩, h, Or.inl ⟨fun q => ?_, rfl, Or.inl ⟨fun ⟨_, _, _, _, _, _, _, q, _⟩ => Int32.not_le.mpr c3 q, rfl⟩⟩⟩
          · simp [zg_0, zg_aaload, zg_aload, zg_aload_n, zg_astore, zg_bipush, zg_getfield, zg_goto, zg_ifCond, zg_if_icmp, zg_iload, zg_iload_n, zg_invokestatic, zg_invokevirtual, zg_ireturn, zg_istore, zg_ldc, zf_X5_share, zi_ld, zi_lda, zi_cmp, zi_retOk, zi_isI, zi_f3, zi_cr, zi_ci, zi_cn, zi_get, zi_set, zq_Desk_isWindow, zd_c, E1 F (by omega), zq_Desk_isAxis, E2 F (by omega), h10, c3, n4]
          · obtain ⟨k', s, n, a, -, -, -, -, -, q, -⟩ := q
            exact Int32.not_le.mpr c3 q.1
        · have c3' : (10 : Int32) ≤ v := Int32.not_lt.mp c3
          by_cases c4 : v ≤ 90
          · obtain ⟨N3, E3⟩ := ze_tilW (μ := μ) (D + 1) hk
            have cw := zw_c (μ := μ) (zdW_at hk)
            by_cases c5 : zd_til μ k = true
            · rw [if_pos c5] at E3
              obtain ⟨s, hs, es, hR, n, hn, en⟩ := zJ_til h hk c5
              have hI := (h.2.2.2.1 s hs).1.1
              obtain ⟨N4, E4⟩ := ze_treeOf (μ := μ) (D + 1) hk hs es
              obtain ⟨N5, E5⟩ := ze_Tree_nearestCut (μ := μ) D (zdT_at hs) hI hn hk en ha
              rw [← ea] at E5
              obtain ⟨lt, ct⟩ := zt_c (μ := μ) (zdT_at hs)
              by_cases c6 : zy_nc (μ (zdT s + 7)) x n (ts s) < 0
              · have c6' : ¬ (0 : Int32) ≤ zy_nc (μ (zdT s + 7)) x n (ts s) := Int32.not_le.mpr c6
                refine ⟨μ, -1000000002, ze_in [(0, .ref 1), (1, .int (nI k)), (2, .int x), (3, .int v)] zq_Desk_share (Nat.le_of_ble_eq_true rfl) rfl ⟨N1 + N2 + N3 + N4 + N5, 33, fun F n hF => ?_⟩, h, Or.inl ⟨fun q => ?_, rfl, Or.inr ⟨⟨k, a, hk, ha, rfl, ea, c1, c3', c4⟩, rfl⟩⟩⟩
                · simp [zg_0, zg_aaload, zg_aload, zg_aload_n, zg_astore, zg_bipush, zg_getfield, zg_goto, zg_ifCond, zg_if_icmp, zg_iload, zg_iload_n, zg_invokestatic, zg_invokevirtual, zg_ireturn, zg_istore, zg_ldc, zf_X5_share, zi_ld, zi_lda, zi_cmp, zi_retOk, zi_isI, zi_f3, zi_cr, zi_ci, zi_cn, zi_get, zi_set, zq_Desk_isWindow, zd_c, E1 F (by omega), zq_Desk_isAxis, E2 F (by omega), h10, h90, c3, c4, zd_g, zd_w hk, zq_Win_isTiled, cw, E3 F (by omega), zq_Desk_treeOf, E4 F (by omega), zq_Tree_nearestCut, ct, E5 F (by omega), c6', n2]
                · obtain ⟨k', s', n', a', hk', hs', -, e, -, -, -, q2, q3, q4, q5⟩ := q
                  have e1 := inj k' hk' e
                  subst e1
                  have e2 : s' = s := (nI_eq (by omega) (by omega)).mp (q2.symm.trans es)
                  subst e2
                  have l1 := hI.2.1.2.2.1 n (zt_I_lv hI hn).2
                  have l2 := hI.2.1.2.2.1 n' (zt_I_lv hI q3).2
                  have e3 : n' = n := (nI_eq (by omega) (by omega)).mp (q4.symm.trans en)
                  subst e3
                  exact q5 c6
              · have c6' : (0 : Int32) ≤ zy_nc (μ (zdT s + 7)) x n (ts s) := Int32.not_lt.mp c6
                have hin : zi_in (zy_nc (μ (zdT s + 7)) x n (ts s)) 19 = true := by
                  unfold zy_nc at *
                  by_cases c7 : 0 < ((zy_up n (ts s)).filter (fun y => decide (μ (zdT s + 7) y = x))).length
                  · rw [if_pos c7]
                    have hm := zl_mem c7
                    have hm2 := (List.mem_filter.mp hm).1
                    obtain ⟨wt, ok, -⟩ := zt_I_wf hI (zt_I_lv hI hn).2
                    have hc := (zy_up_ok (n := n) (ts s) wt hI.2.1.2.1 ok hn).1 _ hm2
                    exact zm_in (hI.2.1.2.2.1 _ (zy_cts_ids (ts s) wt _ hc)) (by decide)
                  · rw [if_neg c7] at c6
                    exact absurd (by decide) c6
                obtain ⟨N6, E6⟩ := ze_Tree_changeShare (μ := μ) (D + 1) (zdT_at hs) hin v
                refine ⟨zm_up μ (zdT s + 8) (zy_nc (μ (zdT s + 7)) x n (ts s)).toNatClampNeg v, μ (zdT s + 8) (zy_nc (μ (zdT s + 7)) x n (ts s)).toNatClampNeg, ze_in [(0, .ref 1), (1, .int (nI k)), (2, .int x), (3, .int v)] zq_Desk_share (Nat.le_of_ble_eq_true rfl) rfl ⟨N1 + N2 + N3 + N4 + N5 + N6, 35, fun F n hF => ?_⟩, zJ_share h hs v, Or.inr ⟨k, s, n, a, hk, hs, ha, rfl, ea, ⟨c3', c4⟩, c5, es, hn, en, c6, rfl, rfl⟩⟩
                simp [zg_0, zg_aaload, zg_aload, zg_aload_n, zg_astore, zg_bipush, zg_getfield, zg_goto, zg_ifCond, zg_if_icmp, zg_iload, zg_iload_n, zg_invokestatic, zg_invokevirtual, zg_ireturn, zg_istore, zg_ldc, zf_X5_share, zi_ld, zi_lda, zi_cmp, zi_retOk, zi_isI, zi_f3, zi_cr, zi_ci, zi_cn, zi_get, zi_set, zq_Desk_isWindow, zd_c, E1 F (by omega), zq_Desk_isAxis, E2 F (by omega), h10, h90, c3, c4, zd_g, zd_w hk, zq_Win_isTiled, cw, E3 F (by omega), zq_Desk_treeOf, E4 F (by omega), zq_Tree_nearestCut, ct, E5 F (by omega), c6', zq_Tree_changeShare, E6 F (by omega)]
            · rw [if_neg c5] at E3
              refine ⟨μ, -1000000002, ze_in [(0, .ref 1), (1, .int (nI k)), (2, .int x), (3, .int v)] zq_Desk_share (Nat.le_of_ble_eq_true rfl) rfl ⟨N1 + N2 + N3, 21, fun F n hF => ?_⟩, h, Or.inl ⟨fun q => ?_, rfl, Or.inr ⟨⟨k, a, hk, ha, rfl, ea, c1, c3', c4⟩, rfl⟩⟩⟩
              · simp [zg_0, zg_aaload, zg_aload, zg_aload_n, zg_astore, zg_bipush, zg_getfield, zg_goto, zg_ifCond, zg_if_icmp, zg_iload, zg_iload_n, zg_invokestatic, zg_invokevirtual, zg_ireturn, zg_istore, zg_ldc, zf_X5_share, zi_ld, zi_lda, zi_cmp, zi_retOk, zi_isI, zi_f3, zi_cr, zi_ci, zi_cn, zi_get, zi_set, zq_Desk_isWindow, zd_c, E1 F (by omega), zq_Desk_isAxis, E2 F (by omega), h10, h90, c3, c4, zd_g, zd_w hk, zq_Win_isTiled, cw, E3 F (by omega), n2]
              · obtain ⟨k', s, n, a, hk', -, -, e, -, -, q, -⟩ := q
                rw [inj k' hk' e] at q
                exact c5 q
          · refine ⟨μ, -1000000001, ze_in [(0, .ref 1), (1, .int (nI k)), (2, .int x), (3, .int v)] zq_Desk_share (Nat.le_of_ble_eq_true rfl) rfl ⟨N1 + N2, 15, fun F n hF => ?_⟩, h, Or.inl ⟨fun q => ?_, rfl, Or.inl ⟨fun ⟨_, _, _, _, _, _, _, _, q⟩ => c4 q, rfl⟩⟩⟩
            · simp [zg_0, zg_aaload, zg_aload, zg_aload_n, zg_astore, zg_bipush, zg_getfield, zg_goto, zg_ifCond, zg_if_icmp, zg_iload, zg_iload_n, zg_invokestatic, zg_invokevirtual, zg_ireturn, zg_istore, zg_ldc, zf_X5_share, zi_ld, zi_lda, zi_cmp, zi_retOk, zi_isI, zi_f3, zi_cr, zi_ci, zi_cn, zi_get, zi_set, zq_Desk_isWindow, zd_c, E1 F (by omega), zq_Desk_isAxis, E2 F (by omega), h10, h90, c3, c4, n4]
            · obtain ⟨k', s, n, a, -, -, -, -, -, q, -⟩ := q
              exact c4 q.2
      · have z2 : zb (x = 0 ∨ x = 1) = 0 := if_neg c2
        rw [z2] at E2
        refine ⟨μ, -1000000001, ze_in [(0, .ref 1), (1, .int (nI k)), (2, .int x), (3, .int v)] zq_Desk_share (Nat.le_of_ble_eq_true rfl) rfl ⟨N1 + N2, 9, fun F n hF => ?_⟩, h, Or.inl ⟨fun q => ?_, rfl, Or.inl ⟨fun ⟨_, a, _, ha, _, ea, _⟩ => ?_, rfl⟩⟩⟩
        · simp [zg_0, zg_aaload, zg_aload, zg_aload_n, zg_astore, zg_bipush, zg_getfield, zg_goto, zg_ifCond, zg_if_icmp, zg_iload, zg_iload_n, zg_invokestatic, zg_invokevirtual, zg_ireturn, zg_istore, zg_ldc, zf_X5_share, zi_ld, zi_lda, zi_cmp, zi_retOk, zi_isI, zi_f3, zi_cr, zi_ci, zi_cn, zi_get, zi_set, zq_Desk_isWindow, zd_c, E1 F (by omega), zq_Desk_isAxis, E2 F (by omega), n4]
        · obtain ⟨k', s, n, a, -, -, ha, -, ea, -⟩ := q
          apply c2
          rw [ea]
          match a, ha with
          | 0, _ => exact Or.inl nI_0
          | 1, _ => exact Or.inr (by decide)
        · apply c2
          rw [ea]
          match a, ha with
          | 0, _ => exact Or.inl nI_0
          | 1, _ => exact Or.inr (by decide)
    · rw [if_neg c1] at E1
      exact hno E1 (fun k' hk' e => by rw [inj k' hk' e]; exact c1)
  · exact hno (ze_isWindow_out (D + 1) hout) (fun k hk e => by
      rw [e] at hout
      exact absurd hout (fun q => q.elim (nI_pos (by omega)) (nI_ge (b := 10) hk (by decide))))
end ZXM
section ZXM2
variable {μ ν : zm_M} {row stk : List Nat} {us : Nat → zy_F}
set_option maxRecDepth 100000 in
theorem ze_Mfocus_v (D : Nat) (h : zR μ row stk us) (w : Int32) : ∃ ν v, ze_E (D + 13) A_Mod_focus [.ref 232, .int w] (zm_mk μ) (some (.int v)) (zm_mk ν) ∧ (((∀ k, k < 10 → w = nI k → μ 234 k = 0) ∧ ν = μ ∧ v = -1000000001) ∨ ∃ k, k < 10 ∧ w = nI k ∧ ¬ μ 234 k = 0 ∧ zv_foc μ ν row stk us k ∧ v = μ 242 0) := by
  have n4 : Int32.ofInt (-1000000001) = -1000000001 := by decide
  obtain ⟨lc, cM⟩ := zM_c (μ := μ)
  rcases zR_win (D + 10) h w with ⟨k, hk, rfl, c0, N1, E1⟩ | ⟨⟨N1, E1⟩, c0⟩
  · obtain ⟨ν, ⟨N2, E2⟩, f⟩ := zR_focused D h hk c0
    have i0 : zi_in (0 : Int32) 10 = true := by decide
    have z0 : (0 : Int32).toNatClampNeg = 0 := by decide
    refine ⟨ν, μ 242 0, ze_in [(0, .ref 232), (1, .int (nI k))] zq_Mod_focus (Nat.le_of_ble_eq_true rfl) rfl ⟨N1 + N2, 14, fun F n hF => ?_⟩, Or.inr ⟨k, hk, rfl, c0, f, rfl⟩⟩
    simp [zg_0, zg_aload_n, zg_getfield, zg_iaload, zg_iconst, zg_ifCond, zg_iload_n, zg_invokevirtual, zg_ireturn, zg_istore_n, zg_ldc, zf_X6_focus, zi_ld, zi_lda, zi_cmp, zi_retOk, zi_isI, zi_f3, zi_cr, zi_ci, zi_cn, zi_get, zi_set, zM_g, cM, zq_Mod_isWindow, zq_Mod_focused, E1 F (by omega), E2 F (by omega), zm_iald (k := 0) zM_A242 i0, z0]
  · refine ⟨μ, -1000000001, ze_in [(0, .ref 232), (1, .int w)] zq_Mod_focus (Nat.le_of_ble_eq_true rfl) rfl ⟨N1, 6, fun F n hF => ?_⟩, Or.inl ⟨c0, rfl, rfl⟩⟩
    simp [zg_0, zg_aload_n, zg_getfield, zg_iaload, zg_iconst, zg_ifCond, zg_iload_n, zg_invokevirtual, zg_ireturn, zg_istore_n, zg_ldc, zf_X6_focus, zi_ld, zi_lda, zi_cmp, zi_retOk, zi_isI, zi_f3, zi_cr, zi_ci, zi_cn, zi_get, zi_set, cM, zq_Mod_isWindow, E1 F (by omega), n4]
set_option maxRecDepth 100000 in
theorem ze_Mback_v (D : Nat) (h : zR μ row stk us) : ∃ ν v, ze_E (D + 13) A_Mod_back [.ref 232] (zm_mk μ) (some (.int v)) (zm_mk ν) ∧ ((row.length < 2 ∧ ν = μ ∧ v = -1000000002) ∨ (¬ row.length < 2 ∧ zv_foc μ ν row stk us (row.getD 1 0) ∧ v = nI (row.getD 1 0))) := by
  have n4 : Int32.ofInt (-1000000002) = -1000000002 := by decide
  obtain ⟨lc, cM⟩ := zM_c (μ := μ)
  have hL := h.2.1.1
  have l10 := hL.1
  by_cases c : row.length < 2
  · have c1 : ¬ (2 : Int32) ≤ nI row.length := nI_ge (b := 2) c (by decide)
    refine ⟨μ, -1000000002, ze_in [(0, .ref 232)] zq_Mod_back (Nat.le_of_ble_eq_true rfl) rfl ⟨0, 6, fun F n hF => ?_⟩, Or.inl ⟨c, rfl, rfl⟩⟩
    simp [zg_0, zg_aload_n, zg_getfield, zg_iaload, zg_iconst, zg_if_icmp, zg_iload_n, zg_invokevirtual, zg_ireturn, zg_istore_n, zg_ldc, zf_X6_back, zi_ld, zi_lda, zi_cmp, zi_retOk, zi_isI, zi_f3, zi_cr, zi_ci, zi_cn, zi_get, zi_set, zM_g, hL.2.1, c1, n4]
  · have c1 : (2 : Int32) ≤ nI row.length := by
      have : ∀ n, n < 11 → ¬ n < 2 → (2 : Int32) ≤ nI n := by decide
      exact this _ (by omega) c
    have hm : row.getD 1 0 ∈ row := zl_mem (by omega)
    obtain ⟨hk, ht⟩ := (h.2.1.2.2 _).mp hm
    have e1 : μ 242 1 = nI (row.getD 1 0) := hL.2.2 1 (by omega)
    obtain ⟨ν, ⟨N2, E2⟩, f⟩ := zR_focused D h hk ht
    have i0 : zi_in (1 : Int32) 10 = true := by decide
    have z0 : (1 : Int32).toNatClampNeg = 1 := by decide
    generalize row.getD 1 0 = k at hm hk ht e1 E2 f ⊢
    refine ⟨ν, nI k, ze_in [(0, .ref 232)] zq_Mod_back (Nat.le_of_ble_eq_true rfl) rfl ⟨N2, 14, fun F n hF => ?_⟩, Or.inr ⟨c, f, rfl⟩⟩
    simp [zg_0, zg_aload_n, zg_getfield, zg_iaload, zg_iconst, zg_if_icmp, zg_iload_n, zg_invokevirtual, zg_ireturn, zg_istore_n, zg_ldc, zf_X6_back, zi_ld, zi_lda, zi_cmp, zi_retOk, zi_isI, zi_f3, zi_cr, zi_ci, zi_cn, zi_get, zi_set, zM_g, cM, hL.2.1, c1, zq_Mod_focused, E2 F (by omega), zm_iald (k := 0) zM_A242 i0, z0, e1]
noncomputable def zv_movA (μ : zm_M) (w x y : Int32) : Prop := ∃ k, k < 10 ∧ w = nI k ∧ ¬ μ 234 k = 0 ∧ (-1000 ≤ x ∧ x ≤ 1000) ∧ -1000 ≤ y ∧ y ≤ 1000
noncomputable def zv_movv (μ ν : zm_M) (w x y v : Int32) : Prop :=
  (¬ (∃ k, k < 10 ∧ w = nI k ∧ (¬ μ 234 k = 0 ∧ ¬ μ 234 k = 1) ∧ (-1000 ≤ x ∧ x ≤ 1000) ∧ -1000 ≤ y ∧ y ≤ 1000) ∧ ν = μ ∧ zx_ref (zv_movA μ w x y) v) ∨ ∃ k ξ, k < 10 ∧ w = nI k ∧ (¬ μ 234 k = 0 ∧ ¬ μ 234 k = 1) ∧ ((-1000 ≤ x ∧ x ≤ 1000) ∧ -1000 ≤ y ∧ y ≤ 1000) ∧ (∀ c d, c ≠ 239 → c ≠ 240 → ξ c d = μ c d) ∧ ν = zv_fg ξ k ∧ v = 0
set_option maxRecDepth 100000 in
theorem ze_Mmove_v (D : Nat) (h : zR μ row stk us) (w x y : Int32) : ∃ ν v, ze_E (D + 4) A_Mod_move [.ref 232, .int w, .int x, .int y] (zm_mk μ) (some (.int v)) (zm_mk ν) ∧ zv_movv μ ν w x y v := by
  have n1 : Int32.ofInt (-1000000001) = -1000000001 := by decide
  have n2 : Int32.ofInt (-1000000002) = -1000000002 := by decide
  have h1 : (Int16.ofInt (-1000)).toInt32 = (-1000 : Int32) := by decide
  have h2 : (Int16.ofInt 1000).toInt32 = (1000 : Int32) := by decide
  have h4 : (Int16.ofInt 400).toInt32 = (400 : Int32) := by decide
  obtain ⟨lc, cM⟩ := zM_c (μ := μ)
  rcases zR_win (D + 1) h w with ⟨k, hk, rfl, c0, N1, E1⟩ | ⟨⟨N1, E1⟩, c0⟩
  · have ik : zi_in (nI k) 10 = true := zm_in hk (by decide)
    have ck : (nI k).toNatClampNeg = k := nI_clamp (by omega)
    obtain ⟨N2, E2⟩ := ze_isIn (h := zm_mk μ) (D + 2) x (-1000) 1000
    by_cases c1 : -1000 ≤ x ∧ x ≤ 1000
    · rw [if_pos c1] at E2
      obtain ⟨N3, E3⟩ := ze_isIn (h := zm_mk μ) (D + 2) y (-1000) 1000
      by_cases c2 : -1000 ≤ y ∧ y ≤ 1000
      · rw [if_pos c2] at E3
        obtain ⟨N4, E4⟩ := ze_MisFloating (μ := μ) (D + 2) hk
        by_cases c3 : μ 234 k = 1
        · rw [if_neg (fun z => (zR_fl h hk c0).mp z c3)] at E4
          refine ⟨μ, -1000000002, ze_in [(0, .ref 232), (1, .int (nI k)), (2, .int x), (3, .int y)] zq_Mod_move (Nat.le_of_ble_eq_true rfl) rfl ⟨N1 + N2 + N3 + N4, 20, fun F n hF => ?_⟩, Or.inl ⟨fun ⟨j, hj, e, z, _⟩ => ?_, rfl, Or.inr ⟨⟨k, hk, rfl, c0, c1, c2⟩, rfl⟩⟩⟩
          · simp [zg_0, zg_aload_n, zg_getfield, zg_goto, zg_iaload, zg_iastore, zg_iconst, zg_ifCond, zg_if_icmp, zg_iload_n, zg_invokestatic, zg_invokevirtual, zg_ireturn, zg_ldc, zg_sipush, zf_X6_move, zi_ld, zi_lda, zi_cmp, zi_retOk, zi_isI, zi_f3, zi_cr, zi_ci, zi_cn, zi_get, zi_set, h1, h2, cM, zq_Mod_isWindow, zq_Mod_isIn, zq_Mod_isFloating, E1 F (by omega), E2 F (by omega), E3 F (by omega), E4 F (by omega), n2]
          · rw [← (nI_eq (by omega) (by omega)).mp e] at z
            exact z.2 c3
        · rw [if_pos ((zR_fl h hk c0).mpr c3)] at E4
          by_cases c4 : μ 234 k = 4
          · obtain ⟨N5, E5⟩ := ze_Mnearest (h := zm_mk μ) (D + 2) x 400
            generalize zv_ne x 400 = p at E5
            obtain ⟨N6, E6⟩ := ze_Mnearest (h := zm_mk (zm_up μ 239 k p)) (D + 2) y 400
            generalize zv_ne y 400 = q at E6
            have f : ∀ c d, c ≠ 239 → c ≠ 240 → zm_up (zm_up μ 239 k p) 240 k q c d = μ c d := fun c d a b => by rw [zm_up_ne (by omega), zm_up_ne (by omega)]
            obtain ⟨N7, E7⟩ := ze_Mforget (μ := zm_up (zm_up μ 239 k p) 240 k q) (D + 2) hk
            obtain ⟨lc2, cM2⟩ := zM_c (μ := zm_up (zm_up μ 239 k p) 240 k q)
            refine ⟨zv_fg (zm_up (zm_up μ 239 k p) 240 k q) k, 0, ze_in [(0, .ref 232), (1, .int (nI k)), (2, .int x), (3, .int y)] zq_Mod_move (Nat.le_of_ble_eq_true rfl) rfl ⟨N1 + N2 + N3 + N4 + N5 + N6 + N7, 44, fun F n hF => ?_⟩, Or.inr ⟨k, _, hk, rfl, ⟨c0, c3⟩, ⟨c1, c2⟩, f, rfl, rfl⟩⟩
            simp [zg_0, zg_aload_n, zg_getfield, zg_goto, zg_iaload, zg_iastore, zg_iconst, zg_ifCond, zg_if_icmp, zg_iload_n, zg_invokestatic, zg_invokevirtual, zg_ireturn, zg_ldc, zg_sipush, zf_X6_move, zi_ld, zi_lda, zi_cmp, zi_retOk, zi_isI, zi_f3, zi_cr, zi_ci, zi_cn, zi_get, zi_set, zM_g, h1, h2, h4, cM, cM2, zq_Mod_isWindow, zq_Mod_isIn, zq_Mod_isFloating, zq_Mod_nearest, zq_Mod_forget, E1 F (by omega), E2 F (by omega), E3 F (by omega), E4 F (by omega), E5 F (by omega), E6 F (by omega), E7 F (by omega), zm_iald (k := 0) zM_A234 ik, ck, c4, zm_iast zM_A239 ik, zm_iast zM_A240 ik]
          · obtain ⟨s, hs, hh, -, -⟩ := h.2.2.2.2.2.1 k hk c0 c4
            obtain ⟨p, q, ⟨N5, E5⟩, -, -⟩ := ze_MputAt (μ := μ) (D + 1) hk hs x y
            have f : ∀ c d, c ≠ 239 → c ≠ 240 → zv_put μ k s p q c d = μ c d := fun c d a b => by
              unfold zv_put
              rw [zm_up_ne (by omega), zm_up_ne (by omega)]
              by_cases e : c = 238 ∧ d = k
              · rw [e.1, e.2, zm_up_eq, hh]
              · rw [zm_up_ne e]
            generalize zv_put μ k s p q = ξ at E5 f
            obtain ⟨N7, E7⟩ := ze_Mforget (μ := ξ) (D + 2) hk
            obtain ⟨lc2, cM2⟩ := zM_c (μ := ξ)
            refine ⟨zv_fg ξ k, 0, ze_in [(0, .ref 232), (1, .int (nI k)), (2, .int x), (3, .int y)] zq_Mod_move (Nat.le_of_ble_eq_true rfl) rfl ⟨N1 + N2 + N3 + N4 + N5 + N7, 38, fun F n hF => ?_⟩, Or.inr ⟨k, _, hk, rfl, ⟨c0, c3⟩, ⟨c1, c2⟩, f, rfl, rfl⟩⟩
            simp [zg_0, zg_aload_n, zg_getfield, zg_goto, zg_iaload, zg_iastore, zg_iconst, zg_ifCond, zg_if_icmp, zg_iload_n, zg_invokestatic, zg_invokevirtual, zg_ireturn, zg_ldc, zg_sipush, zf_X6_move, zi_ld, zi_lda, zi_cmp, zi_retOk, zi_isI, zi_f3, zi_cr, zi_ci, zi_cn, zi_get, zi_set, zM_g, h1, h2, h4, cM, cM2, zq_Mod_isWindow, zq_Mod_isIn, zq_Mod_isFloating, zq_Mod_putAt, zq_Mod_forget, E1 F (by omega), E2 F (by omega), E3 F (by omega), E4 F (by omega), E5 F (by omega), E7 F (by omega), zm_iald (k := 0) zM_A234 ik, zm_iald (k := 0) zM_A238 ik, ck, c4, hh]
      · rw [if_neg c2] at E3
        refine ⟨μ, -1000000001, ze_in [(0, .ref 232), (1, .int (nI k)), (2, .int x), (3, .int y)] zq_Mod_move (Nat.le_of_ble_eq_true rfl) rfl ⟨N1 + N2 + N3, 16, fun F n hF => ?_⟩, Or.inl ⟨fun ⟨j, hj, e, z, z1, z2⟩ => c2 z2, rfl, Or.inl ⟨fun ⟨_, _, _, _, _, q⟩ => c2 q, rfl⟩⟩⟩
        simp [zg_0, zg_aload_n, zg_getfield, zg_goto, zg_iaload, zg_iastore, zg_iconst, zg_ifCond, zg_if_icmp, zg_iload_n, zg_invokestatic, zg_invokevirtual, zg_ireturn, zg_ldc, zg_sipush, zf_X6_move, zi_ld, zi_lda, zi_cmp, zi_retOk, zi_isI, zi_f3, zi_cr, zi_ci, zi_cn, zi_get, zi_set, h1, h2, cM, zq_Mod_isWindow, zq_Mod_isIn, E1 F (by omega), E2 F (by omega), E3 F (by omega), n1]
    · rw [if_neg c1] at E2
      refine ⟨μ, -1000000001, ze_in [(0, .ref 232), (1, .int (nI k)), (2, .int x), (3, .int y)] zq_Mod_move (Nat.le_of_ble_eq_true rfl) rfl ⟨N1 + N2, 11, fun F n hF => ?_⟩, Or.inl ⟨fun ⟨j, hj, e, z, z1, z2⟩ => c1 z1, rfl, Or.inl ⟨fun ⟨_, _, _, _, q, _⟩ => c1 q, rfl⟩⟩⟩
      simp [zg_0, zg_aload_n, zg_getfield, zg_goto, zg_iaload, zg_iastore, zg_iconst, zg_ifCond, zg_if_icmp, zg_iload_n, zg_invokestatic, zg_invokevirtual, zg_ireturn, zg_ldc, zg_sipush, zf_X6_move, zi_ld, zi_lda, zi_cmp, zi_retOk, zi_isI, zi_f3, zi_cr, zi_ci, zi_cn, zi_get, zi_set, h1, h2, cM, zq_Mod_isWindow, zq_Mod_isIn, E1 F (by omega), E2 F (by omega), n1]
  · refine ⟨μ, -1000000001, ze_in [(0, .ref 232), (1, .int w), (2, .int x), (3, .int y)] zq_Mod_move (Nat.le_of_ble_eq_true rfl) rfl ⟨N1, 6, fun F n hF => ?_⟩, Or.inl ⟨fun ⟨j, hj, e, z, _⟩ => z.1 (c0 j hj e), rfl, Or.inl ⟨fun ⟨j, hj, e, z, _⟩ => z (c0 j hj e), rfl⟩⟩⟩
    simp [zg_0, zg_aload_n, zg_getfield, zg_goto, zg_iaload, zg_iastore, zg_iconst, zg_ifCond, zg_if_icmp, zg_iload_n, zg_invokestatic, zg_invokevirtual, zg_ireturn, zg_ldc, zg_sipush, zf_X6_move, zi_ld, zi_lda, zi_cmp, zi_retOk, zi_isI, zi_f3, zi_cr, zi_ci, zi_cn, zi_get, zi_set, cM, zq_Mod_isWindow, E1 F (by omega), n1]
noncomputable def zv_shrA (μ : zm_M) (w x v : Int32) : Prop := ∃ k a, k < 10 ∧ a < 2 ∧ w = nI k ∧ x = nI a ∧ ¬ μ 234 k = 0 ∧ 10 ≤ v ∧ v ≤ 90
noncomputable def zv_shrv (μ ν : zm_M) (us : Nat → zy_F) (w x v r : Int32) : Prop :=
  (¬ (∃ k s m a, k < 10 ∧ s < 3 ∧ a < 2 ∧ w = nI k ∧ x = nI a ∧ (10 ≤ v ∧ v ≤ 90) ∧ μ 234 k = 1 ∧ μ 238 k = nI s ∧ zu_at μ s (us s) k m ∧ ¬ zy_nc (zu_fm μ s) x m (us s) < 0) ∧ ν = μ ∧ zx_ref (zv_shrA μ w x v) r) ∨
  ∃ k s m a, k < 10 ∧ s < 3 ∧ a < 2 ∧ w = nI k ∧ x = nI a ∧ (10 ≤ v ∧ v ≤ 90) ∧ μ 234 k = 1 ∧ μ 238 k = nI s ∧ zu_at μ s (us s) k m ∧ ¬ zy_nc (zu_fm μ s) x m (us s) < 0 ∧ ν = zm_up μ 247 (24 * s + (zy_nc (zu_fm μ s) x m (us s)).toNatClampNeg) v ∧ r = μ 247 (24 * s + (zy_nc (zu_fm μ s) x m (us s)).toNatClampNeg)
set_option maxRecDepth 100000 in
theorem ze_Mshare_v (D : Nat) (h : zR μ row stk us) (w x v : Int32) : ∃ ν r, ze_E (D + 4) A_Mod_share [.ref 232, .int w, .int x, .int v] (zm_mk μ) (some (.int r)) (zm_mk ν) ∧ zv_shrv μ ν us w x v r := by
  have n1 : Int32.ofInt (-1000000001) = -1000000001 := by decide
  have n2 : Int32.ofInt (-1000000002) = -1000000002 := by decide
  have h10 : (Int8.ofInt 10).toInt32 = (10 : Int32) := by decide
  have h90 : (Int8.ofInt 90).toInt32 = (90 : Int32) := by decide
  obtain ⟨lc, cM⟩ := zM_c (μ := μ)
  rcases zR_win (D + 1) h w with ⟨k, hk, rfl, c0, N1, E1⟩ | ⟨⟨N1, E1⟩, c0⟩
  · have ik : zi_in (nI k) 10 = true := zm_in hk (by decide)
    have ck : (nI k).toNatClampNeg = k := nI_clamp (by omega)
    rcases zM_isIn (hp := zm_mk μ) (D + 2) x (n := 1) (b := 1) (by decide) (by decide) with ⟨a, ha, rfl, N2, E2⟩ | ⟨⟨N2, E2⟩, hno⟩
    · obtain ⟨N3, E3⟩ := ze_isIn (h := zm_mk μ) (D + 2) v 10 90
      by_cases c1 : 10 ≤ v ∧ v ≤ 90
      · rw [if_pos c1] at E3
        by_cases c2 : μ 234 k = 1
        · obtain ⟨s, m, ab, hs, hh, hI, hat⟩ := zR_til h hk c2
          have is : zi_in (nI s) 3 = true := zm_in hs (by decide)
          obtain ⟨N4, E4⟩ := ze_MleafOf_at (μ := μ) D (by omega) hI hk hat
          obtain ⟨N5, E5⟩ := ze_Mabove (μ := μ) (D + 1) (τ := s) (by omega) (nI m)
          rw [(zu_up_ab hI hat.1).2.1] at E5
          obtain ⟨L', S, nl', p2, p3⟩ := zv_shL (μ := μ) D hs hI hat.1 (by omega : a < 2) (zy_up m (us s)).length 0 [(5, .int (if 0 < (zy_up m (us s)).length then nI ((zy_up m (us s)).getD 0 0) else -1)), (4, .int (nI s)), (0, .ref 232), (1, .int (nI k)), (2, .int (nI a)), (3, .int v)] (Nat.zero_add _) rfl rfl rfl rfl rfl
          generalize hx : (if 0 < (zy_up m (us s)).length then nI ((zy_up m (us s)).getD 0 0) else (-1 : Int32)) = x0 at E5 S p2
          have b0 : zi_get L' 0 = some (.ref 232) := p2 0 (by decide)
          have b3 : zi_get L' 3 = some (.int v) := p2 3 (by decide)
          have b4 : zi_get L' 4 = some (.int (nI s)) := p2 4 (by decide)
          have e5 : zl_ln (fun y => decide (zu_fm μ s y = nI a)) 0 (-1) ((zy_up m (us s)).drop 0) 0 = zy_nc (zu_fm μ s) (nI a) m (us s) := by
            rw [List.drop_zero, zl_ln_eq _ _ _ _ _ (Nat.le_refl _), Nat.sub_zero]
            rfl
          rw [e5] at p3
          have S0 : ze_S (D + 3) 7 (some .int) zc_X6_share 0 [(0, .ref 232), (1, .int (nI k)), (2, .int (nI a)), (3, .int v)] [] (zm_mk μ) 67 [(5, .int x0), (4, .int (nI s)), (0, .ref 232), (1, .int (nI k)), (2, .int (nI a)), (3, .int v)] [] (zm_mk μ) := by
            refine ⟨N1 + N2 + N3 + N4 + N5, 33, fun F n hF => ?_⟩
            simp [zg_0, zg_aload_n, zg_bipush, zg_getfield, zg_goto, zg_iaload, zg_iastore, zg_iconst, zg_ifCond, zg_if_icmp, zg_iload, zg_iload_n, zg_invokestatic, zg_invokevirtual, zg_ireturn, zg_istore, zg_ldc, zf_X6_share, zi_ld, zi_lda, zi_cmp, zi_retOk, zi_isI, zi_f3, zi_cr, zi_ci, zi_cn, zi_get, zi_set, zM_g, h10, h90, cM, zq_Mod_isWindow, zq_Mod_isIn, zq_Mod_leafOf, zq_Mod_above, E1 F (by omega), E2 F (by omega), E3 F (by omega), E4 F (by omega), E5 F (by omega), zm_iald (k := 0) zM_A234 ik, zm_iald (k := 0) zM_A238 ik, ck, c2, hh]
          have uq : ∀ s' m', s' < 3 → μ 238 k = nI s' → zu_at μ s' (us s') k m' → s' = s ∧ m' = m := fun s' m' h1 h2 h3 => by
            have e := (nI_eq (by omega) (by omega)).mp (h2.symm.trans hh)
            subst e
            exact ⟨rfl, hat.2.2 m' h3.1 h3.2.1⟩
          rcases zy_nc_or (fm := zu_fm μ s) (x := nI a) (n := m) (t := us s) with e | ⟨c, hc, e, -⟩
          · rw [e] at p3
            have m1 : ¬ (0 : Int32) ≤ -1 := by decide
            refine ⟨μ, -1000000002, ze_in [(0, .ref 232), (1, .int (nI k)), (2, .int (nI a)), (3, .int v)] zq_Mod_share (Nat.le_of_ble_eq_true rfl) rfl (S0.end (S.end ⟨0, 4, fun F n hF => ?_⟩)), Or.inl ⟨fun ⟨k', s', m', a', q1, q2, q3, q4, q5, q6, q7, q8, q9, q10⟩ => ?_, rfl, Or.inr ⟨⟨k, a, hk, by omega, rfl, rfl, c0, c1⟩, rfl⟩⟩⟩
            · simp [zg_0, zg_aload_n, zg_bipush, zg_getfield, zg_goto, zg_iaload, zg_iastore, zg_iconst, zg_ifCond, zg_if_icmp, zg_iload, zg_iload_n, zg_invokestatic, zg_invokevirtual, zg_ireturn, zg_istore, zg_ldc, zf_X6_share, zi_ld, zi_lda, zi_cmp, zi_retOk, zi_isI, zi_f3, zi_cr, zi_ci, zi_cn, p3, m1, n2]
            · have e1 := (nI_eq (by omega) (by omega)).mp q4
              subst e1
              obtain ⟨e2, e3⟩ := uq s' m' q2 q8 q9
              subst e2; subst e3
              rw [e] at q10
              exact q10 (by decide)
          · have hc24 := zu_I_ct hI ((zu_up_ab hI hat.1).1 c hc)
            have e' := e
            rw [e] at p3
            have m1 : (0 : Int32) ≤ nI c := Int32.not_lt.mp (nI_pos (by omega))
            obtain ⟨N6, E6⟩ := ze_spot (h := zm_mk μ) (D + 2) (t := s) (n := c) (by omega)
            have iy : zi_in (nI (24 * s + c)) 168 = true := zm_in (by omega) (by decide)
            have cy : (nI (24 * s + c)).toNatClampNeg = 24 * s + c := nI_clamp (by omega)
            refine ⟨zm_up μ 247 (24 * s + c) v, μ 247 (24 * s + c), ze_in [(0, .ref 232), (1, .int (nI k)), (2, .int (nI a)), (3, .int v)] zq_Mod_share (Nat.le_of_ble_eq_true rfl) rfl (S0.end (S.end ⟨N6, 18, fun F n hF => ?_⟩)), Or.inr ⟨k, s, m, a, hk, hs, by omega, rfl, rfl, c1, c2, hh, hat, ?_, ?_, ?_⟩⟩
            · have nl := nl'
              simp (maxDischargeDepth := 9) [zg_0, zg_aload_n, zg_bipush, zg_getfield, zg_goto, zg_iaload, zg_iastore, zg_iconst, zg_ifCond, zg_if_icmp, zg_iload, zg_iload_n, zg_invokestatic, zg_invokevirtual, zg_ireturn, zg_istore, zg_ldc, zf_X6_share, zi_ld, zi_lda, zi_cmp, zi_retOk, zi_isI, zi_f3, zi_cr, zi_ci, zi_cn, zi_get_ne, zi_nl_i, zi_nl_r, zi_get_set_eq, nl, p3, b0, b3, b4, m1, zM_g, zq_Mod_spot, E6 F (by omega), zm_iald (k := 0) zM_A247 iy, zm_iast zM_A247 iy, cy]
            · rw [e]; exact nI_pos (by omega)
            · rw [e, nI_clamp (by omega)]
            · rw [e, nI_clamp (by omega)]
        · refine ⟨μ, -1000000002, ze_in [(0, .ref 232), (1, .int (nI k)), (2, .int (nI a)), (3, .int v)] zq_Mod_share (Nat.le_of_ble_eq_true rfl) rfl ⟨N1 + N2 + N3, 22, fun F n hF => ?_⟩, Or.inl ⟨fun ⟨k', s', m', a', q1, q2, q3, q4, q5, q6, q7, _⟩ => ?_, rfl, Or.inr ⟨⟨k, a, hk, by omega, rfl, rfl, c0, c1⟩, rfl⟩⟩⟩
          · simp [zg_0, zg_aload_n, zg_bipush, zg_getfield, zg_goto, zg_iaload, zg_iastore, zg_iconst, zg_ifCond, zg_if_icmp, zg_iload, zg_iload_n, zg_invokestatic, zg_invokevirtual, zg_ireturn, zg_istore, zg_ldc, zf_X6_share, zi_ld, zi_lda, zi_cmp, zi_retOk, zi_isI, zi_f3, zi_cr, zi_ci, zi_cn, zi_get, zi_set, zM_g, h10, h90, cM, zq_Mod_isWindow, zq_Mod_isIn, E1 F (by omega), E2 F (by omega), E3 F (by omega), zm_iald (k := 0) zM_A234 ik, ck, c2, n2]
          · rw [← (nI_eq (by omega) (by omega)).mp q4] at q7
            exact c2 q7
      · rw [if_neg c1] at E3
        refine ⟨μ, -1000000001, ze_in [(0, .ref 232), (1, .int (nI k)), (2, .int (nI a)), (3, .int v)] zq_Mod_share (Nat.le_of_ble_eq_true rfl) rfl ⟨N1 + N2 + N3, 16, fun F n hF => ?_⟩, Or.inl ⟨fun ⟨k', s', m', a', q1, q2, q3, q4, q5, q6, _⟩ => c1 q6, rfl, Or.inl ⟨fun ⟨_, _, _, _, _, _, _, q⟩ => c1 q, rfl⟩⟩⟩
        simp [zg_0, zg_aload_n, zg_bipush, zg_getfield, zg_goto, zg_iaload, zg_iastore, zg_iconst, zg_ifCond, zg_if_icmp, zg_iload, zg_iload_n, zg_invokestatic, zg_invokevirtual, zg_ireturn, zg_istore, zg_ldc, zf_X6_share, zi_ld, zi_lda, zi_cmp, zi_retOk, zi_isI, zi_f3, zi_cr, zi_ci, zi_cn, zi_get, zi_set, h10, h90, cM, zq_Mod_isWindow, zq_Mod_isIn, E1 F (by omega), E2 F (by omega), E3 F (by omega), n1]
    · refine ⟨μ, -1000000001, ze_in [(0, .ref 232), (1, .int (nI k)), (2, .int x), (3, .int v)] zq_Mod_share (Nat.le_of_ble_eq_true rfl) rfl ⟨N1 + N2, 11, fun F n hF => ?_⟩, Or.inl ⟨fun ⟨k', s', m', a', q1, q2, q3, q4, q5, _⟩ => hno a' (by omega) q5, rfl, Or.inl ⟨fun ⟨_, a, _, ha, _, q, _⟩ => hno a (by omega) q, rfl⟩⟩⟩
      simp [zg_0, zg_aload_n, zg_bipush, zg_getfield, zg_goto, zg_iaload, zg_iastore, zg_iconst, zg_ifCond, zg_if_icmp, zg_iload, zg_iload_n, zg_invokestatic, zg_invokevirtual, zg_ireturn, zg_istore, zg_ldc, zf_X6_share, zi_ld, zi_lda, zi_cmp, zi_retOk, zi_isI, zi_f3, zi_cr, zi_ci, zi_cn, zi_get, zi_set, cM, zq_Mod_isWindow, zq_Mod_isIn, E1 F (by omega), E2 F (by omega), n1]
  · refine ⟨μ, -1000000001, ze_in [(0, .ref 232), (1, .int w), (2, .int x), (3, .int v)] zq_Mod_share (Nat.le_of_ble_eq_true rfl) rfl ⟨N1, 6, fun F n hF => ?_⟩, Or.inl ⟨fun ⟨k', s', m', a', q1, q2, q3, q4, q5, q6, q7, _⟩ => by rw [c0 k' q1 q4] at q7; exact absurd q7 (by decide), rfl, Or.inl ⟨fun ⟨k, _, hk, _, e, _, z, _⟩ => z (c0 k hk e), rfl⟩⟩⟩
    simp [zg_0, zg_aload_n, zg_bipush, zg_getfield, zg_goto, zg_iaload, zg_iastore, zg_iconst, zg_ifCond, zg_if_icmp, zg_iload, zg_iload_n, zg_invokestatic, zg_invokevirtual, zg_ireturn, zg_istore, zg_ldc, zf_X6_share, zi_ld, zi_lda, zi_cmp, zi_retOk, zi_isI, zi_f3, zi_cr, zi_ci, zi_cn, zi_get, zi_set, cM, zq_Mod_isWindow, E1 F (by omega), n1]
end ZXM2
section ZXM3
variable {pl pc : Nat → Nat → Prop}
theorem zy_sim_lc : ∀ t, zy_wf t → ∀ u, zy_wf u → zy_sim pl pc t u → ∀ n ∈ zy_cts t, ∃ m ∈ zy_cts u, pc n m := by
  apply zy_sim_ind (P := fun t u => ∀ n ∈ zy_cts t, ∃ m ∈ zy_cts u, pc n m)
  · intro n m h n' hn
    cases hn
  · intro n m a b c d _ _ _ _ p _ _ iha ihb n' hn
    have hn : n' ∈ n :: (zy_cts a ++ zy_cts b) := hn
    show ∃ x ∈ m :: (zy_cts c ++ zy_cts d), pc n' x
    rcases List.mem_cons.mp hn with rfl | hn
    · exact ⟨m, List.mem_cons_self, p⟩
    · rcases List.mem_append.mp hn with hn | hn
      · obtain ⟨x, hx, p⟩ := iha n' hn
        exact ⟨x, List.mem_cons_of_mem _ (List.mem_append_left _ hx), p⟩
      · obtain ⟨x, hx, p⟩ := ihb n' hn
        exact ⟨x, List.mem_cons_of_mem _ (List.mem_append_right _ hx), p⟩
end ZXM3
section ZXM4
variable {M N θ ξ μ ξ' μ' : zm_M} {row row' stkC stkC' stk ord : List Nat} {Rs Rs' : Nat → List Nat} {ts ts' us us' : Nat → zy_F}
theorem zK_shk (h : zK ξ μ row stkC stk ord Rs ts us) : ∀ k s n m a, k < 10 → s < 3 → a < 2 → zd_til ξ k = true → ξ (zdW k) 5 = nI s → n ∈ zy_lvs (ts s) → ξ (zdT s + 3) k = nI n → zu_at μ s (us s) k m → (zy_nc (ξ (zdT s + 7)) (nI a) n (ts s) = -1 ∧ zy_nc (zu_fm μ s) (nI a) m (us s) = -1) ∨ ∃ c c', zy_nc (ξ (zdT s + 7)) (nI a) n (ts s) = nI c ∧ zy_nc (zu_fm μ s) (nI a) m (us s) = nI c' ∧ c < 19 ∧ c' < 24 ∧ μ 247 (24 * s + c') = ξ (zdT s + 8) c := fun k s n m a hk hs ha c1 c2 hn ek hat => by
  have hC := (h.1.2.2.2.1 s hs).1
  have hzs := h.2.2.2.2.2.1 s hs
  have hkR : k ∈ Rs s := ((h.1.2.2.2.1 s hs).2.1 k).mpr ⟨hk, c1, c2⟩
  obtain ⟨m', hat', hp⟩ := zs_at hC.1 hzs hkR hn ek
  have em := hat'.2.2 m hat.1 hat.2.1
  subst em
  obtain ⟨wt, hni⟩ := zt_I_lv hC.1 hn
  obtain ⟨ab, hI⟩ := hzs.2
  have wu := (zu_I_lv hI hat.1).1
  have sim : zy_sim (fun x y => zs_pl ξ (zdT s) (Rs s) μ s x y ∧ (x = n ↔ y = m)) (zs_pc ξ (zdT s) μ s) (ts s) (us s) := zy_sim_mono _ wt _ wu hzs.1 (fun x hx y hy p => ⟨p, zs_iff hC.1 hzs hn hat.1 hp x hx y hy p⟩) (fun x hx y hy p => p)
  rcases zy_sim_nc (fm := ξ (zdT s + 7)) (fm' := zu_fm μ s) (a := nI a) (n := n) (m := m) (fun x y p => p.1.symm) (fun x y p => p.2) _ wt _ wu sim hC.1.2.1.2.1 hI.2.1 with ⟨e1, e2, -, -⟩ | ⟨c, c', e1, e2, e3, e4, -, e5⟩
  · exact Or.inl ⟨e1, e2⟩
  · obtain ⟨y, -, p1, p2⟩ := zy_sim_lc _ wt _ wu e5 c e3
    rw [p2.mp rfl] at p1
    exact Or.inr ⟨c, c', e1, e2, hC.1.2.1.2.2.1 c (zy_cts_ids _ wt c e3), zu_I_ct hI e4, p1.2⟩
theorem zW_focus_e (h : zW M) (w : Int32) : zW_e M A_Desk_focus A_Mod_focus [.int w] := by
  obtain ⟨row, stkC, stk, ord, Rs, ts, us, h⟩ := h
  rcases zW_win h w with ⟨k, hk, rfl, ht, hk0⟩ | ⟨E, hno⟩
  · obtain ⟨N, stk', E1, hJ, f⟩ := ze_focus_v 48 h.1 hk ht
    have hm := zW_mid h (zW_foc f)
    obtain ⟨θ, r2, E2, g⟩ := ze_Mfocus_v 51 (zK_R hm) (nI k)
    rcases g with ⟨g, -, -⟩ | ⟨k', hk', e, -, g, rfl⟩
    · exact absurd (g k hk rfl) ((zK_kind hm hk).2.2.mp ht)
    · have := (nI_eq (by omega) (by omega)).mp e
      subst this
      obtain ⟨_, z⟩ := zK_foc hm hk ht hJ f g
      have hkr : k ∈ row := (h.1.1.2.2 k).mpr ⟨hk, ht⟩
      have e0 : N 242 0 = nI (row.getD 0 0) := hm.2.1.1.2.2 0 (List.length_pos_of_mem hkr)
      rw [e0] at E2
      exact ⟨N, θ, _, E1, E2, zW_end z (zW_mfoc g)⟩
  · obtain ⟨θ, r2, E2, g⟩ := ze_Mfocus_v 51 (zK_R h) w
    rcases g with ⟨-, rfl, rfl⟩ | ⟨k', hk', e, g, -⟩
    · exact ⟨θ, θ, _, ze_focus_no 62 (E 62), E2, _, _, _, _, _, _, _, h⟩
    · exact absurd (hno k' hk' e) g
theorem zW_back_e (h : zW M) : zW_e M A_Desk_back A_Mod_back [] := by
  obtain ⟨row, stkC, stk, ord, Rs, ts, us, h⟩ := h
  by_cases hl : row.length < 2
  · obtain ⟨θ, r2, E2, g⟩ := ze_Mback_v 51 (zK_R h)
    rcases g with ⟨-, rfl, rfl⟩ | ⟨g, -⟩
    · exact ⟨θ, θ, _, ze_back_no 62 h.1 hl, E2, _, _, _, _, _, _, _, h⟩
    · exact absurd hl g
  · obtain ⟨N, stk', E1, hJ, f⟩ := ze_back_v 48 h.1 hl
    have hm := zW_mid h (zW_foc f)
    obtain ⟨θ, r2, E2, g⟩ := ze_Mback_v 51 (zK_R hm)
    rcases g with ⟨g, -, -⟩ | ⟨-, g, rfl⟩
    · exact absurd g hl
    · obtain ⟨hk, ht⟩ := (h.1.1.2.2 (row.getD 1 0)).mp (zl_mem (by omega))
      obtain ⟨_, z⟩ := zK_foc hm hk ht hJ f g
      exact ⟨N, θ, _, E1, E2, zW_end z (zW_mfoc g)⟩
theorem zW_move_e (h : zW M) (w x y : Int32) : zW_e M A_Desk_move A_Mod_move [.int w, .int x, .int y] := by
  obtain ⟨row, stkC, stk, ord, Rs, ts, us, h⟩ := h
  obtain ⟨N, r1, E1, -, f⟩ := ze_move_v 59 h.1 w x y
  have f0 : zd_mov M N w x y := by
    rcases id f with ⟨a, b, -⟩ | ⟨k, ξ, a1, a2, a3, a4, a5, a6, -⟩
    · exact Or.inl ⟨a, b⟩
    · exact Or.inr ⟨k, ξ, a1, a2, a3, a4, a5, a6⟩
  have hm := zW_mid h (zW_mov f0)
  obtain ⟨θ, r2, E2, g⟩ := ze_Mmove_v 60 (zK_R hm) w x y
  have g0 : zv_mov N θ w x y := by
    rcases id g with ⟨a, b, -⟩ | ⟨k, ξ, a1, a2, a3, a4, a5, a6, -⟩
    · exact Or.inl ⟨a, b⟩
    · exact Or.inr ⟨k, ξ, a1, a2, a3, a4, a5, a6⟩
  have W := zW_end (zK_mov hm f0 g0) (zW_mmov g0)
  have key : r2 = r1 := by
    rcases f with ⟨f1, -, f2⟩ | ⟨k, ξ1, hk, rfl, hf, hr, -, -, rfl⟩
    · rcases g with ⟨-, -, g2⟩ | ⟨k, μ1, hk, rfl, hf, hr, -⟩
      · refine zx_ref_eq ?_ f2 g2
        constructor
        · rintro ⟨k, hk, e, ht, q⟩
          exact ⟨k, hk, e, (zK_kind hm hk).2.2.mp ht, q⟩
        · rintro ⟨k, hk, e, ht, q⟩
          exact ⟨k, hk, e, (zK_kind hm hk).2.2.mpr ht, q⟩
      · exact absurd ⟨k, hk, rfl, (zK_flo hm hk).mpr hf, hr⟩ f1
    · rcases g with ⟨g1, -⟩ | ⟨k', μ1, hk', e, -, -, -, -, rfl⟩
      · exact absurd ⟨k, hk, rfl, (zK_flo hm hk).mp hf, hr⟩ g1
      · rfl
  subst key
  exact ⟨N, θ, r2, E1, E2, W⟩
theorem zW_share_e (h : zW M) (w x v : Int32) : zW_e M A_Desk_share A_Mod_share [.int w, .int x, .int v] := by
  obtain ⟨row, stkC, stk, ord, Rs, ts, us, h⟩ := h
  obtain ⟨N, r1, E1, hJ, f⟩ := ze_share_v 61 h.1 w x v
  have f0 : zd_shr M N ts w x v := by
    rcases id f with ⟨a, b, -⟩ | ⟨k, s, n, a, a1, a2, a3, a4, a5, a6, a7, a8, a9, b1, b2, b3, -⟩
    · exact Or.inl ⟨a, b⟩
    · exact Or.inr ⟨k, s, n, a, a1, a2, a3, a4, a5, a6, a7, a8, a9, b1, b2, b3⟩
  have hm := zW_mid h (zW_shr f0)
  obtain ⟨θ, r2, E2, g⟩ := ze_Mshare_v 60 (zK_R hm) w x v
  have g0 : zv_shr N θ us w x v := by
    rcases id g with ⟨a, b, -⟩ | ⟨k, s, n, a, a1, a2, a3, a4, a5, a6, a7, a8, a9, b1, b2, -⟩
    · exact Or.inl ⟨a, b⟩
    · exact Or.inr ⟨k, s, n, a, a1, a2, a3, a4, a5, a6, a7, a8, a9, b1, b2⟩
  have W := zW_end (zK_shr hm hJ f0 g0) (zW_mshr g0)
  have key : r2 = r1 := by
    rcases f with ⟨f1, -, f2⟩ | ⟨k, s, n, a, hk, hs, ha, rfl, rfl, hv, c1, c2, hn, ek, c3, -, rfl⟩
    · rcases g with ⟨-, -, g2⟩ | ⟨k, s, m, a, hk, hs, ha, rfl, rfl, hv, k1, k2, hat, c3, -⟩
      · refine zx_ref_eq ?_ f2 g2
        constructor
        · rintro ⟨k, a, hk, ha, e, e2, ht, q⟩
          exact ⟨k, a, hk, ha, e, e2, (zK_kind hm hk).2.2.mp ht, q⟩
        · rintro ⟨k, a, hk, ha, e, e2, ht, q⟩
          exact ⟨k, a, hk, ha, e, e2, (zK_kind hm hk).2.2.mpr ht, q⟩
      · obtain ⟨q1, q2, -⟩ := zK_kind hm hk
        have a' := q1.mpr k1
        have b' := (q2 a').symm.trans k2
        have hkR : k ∈ Rs s := ((hm.1.2.2.2.1 s hs).2.1 k).mpr ⟨hk, a', b'⟩
        obtain ⟨n, hn, e⟩ := (hm.1.2.2.2.1 s hs).1.1.2.2.2.1 k hkR
        refine absurd ⟨k, s, n, a, hk, hs, ha, rfl, rfl, hv, a', b', hn, e, ?_⟩ f1
        rcases zK_shk hm k s n m a hk hs ha a' b' hn e hat with ⟨-, e2⟩ | ⟨c, c', e1, -, hc, -⟩
        · rw [e2] at c3
          exact absurd (by decide) c3
        · rw [e1]; exact nI_pos (by omega)
    · obtain ⟨q1, q2, -⟩ := zK_kind hm hk
      have hkR : k ∈ Rs s := ((hm.1.2.2.2.1 s hs).2.1 k).mpr ⟨hk, c1, c2⟩
      obtain ⟨n', m, -, -, hat, -⟩ := zs_at' (hm.1.2.2.2.1 s hs).1.1 (hm.2.2.2.2.2.1 s hs) hkR
      rcases zK_shk hm k s n m a hk hs ha c1 c2 hn ek hat with ⟨e1, -⟩ | ⟨c, c', e1, e2, hc, hc', e3⟩
      · rw [e1] at c3
        exact absurd (by decide) c3
      · rcases g with ⟨g1, -⟩ | ⟨k', s', m', a', hk', hs', ha', ek', ea', -, -, k2', hat', -, -, rfl⟩
        · refine absurd ⟨k, s, m, a, hk, hs, ha, rfl, rfl, hv, q1.mp c1, (q2 c1).trans c2, hat, ?_⟩ g1
          rw [e2]; exact nI_pos (by omega)
        · have x1 := (nI_eq (by omega) (by omega)).mp ek'
          subst x1
          have x2 := (nI_eq (by omega) (by omega)).mp (k2'.symm.trans ((q2 c1).trans c2))
          subst x2
          have x3 := hat.2.2 m' hat'.1 hat'.2.1
          subst x3
          rw [e1, e2, nI_clamp (by omega), nI_clamp (by omega)]
          exact e3
  subst key
  exact ⟨N, θ, r2, E1, E2, W⟩
end ZXM4
