/-! the desk: share -/
section ZQ8
variable {μ ν : zm_M} {row stk : List Nat} {Rs : Nat → List Nat} {ts : Nat → zy_F}
/-- share: refused, or the nearest cut's share is v -/
def zd_shr (μ ν : zm_M) (ts : Nat → zy_F) (w x v : Int32) : Prop :=
  (¬ (∃ k s n a, k < 10 ∧ s < 3 ∧ a < 2 ∧ w = nI k ∧ x = nI a ∧ (10 ≤ v ∧ v ≤ 90) ∧ zd_til μ k = true ∧ μ (zdW k) 5 = nI s ∧ n ∈ zy_lvs (ts s) ∧ μ (zdT s + 3) k = nI n ∧ ¬ zy_nc (μ (zdT s + 7)) x n (ts s) < 0) ∧ ν = μ) ∨
  ∃ k s n a, k < 10 ∧ s < 3 ∧ a < 2 ∧ w = nI k ∧ x = nI a ∧ (10 ≤ v ∧ v ≤ 90) ∧ zd_til μ k = true ∧ μ (zdW k) 5 = nI s ∧ n ∈ zy_lvs (ts s) ∧ μ (zdT s + 3) k = nI n ∧ ¬ zy_nc (μ (zdT s + 7)) x n (ts s) < 0 ∧ ν = zm_up μ (zdT s + 8) (zy_nc (μ (zdT s + 7)) x n (ts s)).toNatClampNeg v
theorem zJ_share (h : zJ μ row stk Rs ts) {s c : Nat} (hs : s < 3) (v : Int32) : zJ (zm_up μ (zdT s + 8) c v) row stk Rs ts := by
  obtain ⟨h1, h2, h3, h4, h5, h6⟩ := h
  have rw' : ∀ c', c' ≠ zdT s + 8 → zm_up μ (zdT s + 8) c v c' = μ c' := fun c' hc => zm_up_row hc
  generalize zm_up μ (zdT s + 8) c v = ν at rw'
  have eW : ∀ k, k < 10 → ν (zdW k) = μ (zdW k) := fun k hk => rw' _ (by unfold zdW zdT; omega)
  have eL : ∀ k, k < 10 → ν (zdW k + 1) = μ (zdW k + 1) := fun k hk => rw' _ (by unfold zdW zdT; omega)
  have eT : ∀ q, q < 3 → ∀ j, j < 19 → j ≠ 12 → j ≠ 8 → ν (zdT q + j) = μ (zdT q + j) := fun q hq j hj _ h8 => rw' _ (by unfold zdT; omega)
  have e12 : ∀ q, q < 3 → ν (zdT q + 12) = μ (zdT q + 12) := fun q hq => rw' _ (by unfold zdT; omega)
  have eV : ∀ q, q < 3 → ∀ j, j < 19 → ν (zdV q + j) = μ (zdV q + j) := fun q hq j hj => rw' _ (by unfold zdV zdT; omega)
  have eS : ∀ q, q < 3 → ν (zdS q) = μ (zdS q) ∧ ν (zdZ q) = μ (zdZ q) ∧ ν (zdK q) = μ (zdK q) ∧ ν (zdQ q) = μ (zdQ q) := fun q hq => ⟨rw' _ (by unfold zdS zdT; omega), rw' _ (by unfold zdZ zdT; omega), rw' _ (by unfold zdK zdT; omega), rw' _ (by unfold zdQ zdT; omega)⟩
  have th : ∀ j, j < 10 → zd_th ν j = zd_th μ j := fun j hj => by unfold zd_th; rw [eW j hj]
  have til : ∀ j, j < 10 → zd_til ν j = zd_til μ j := fun j hj => by unfold zd_til; rw [eW j hj]
  have e0 : ∀ c, c < 7 → ν c = μ c := fun c hc => rw' c (by unfold zdT; omega)
  refine ⟨⟨zr_L_congr (e0 _ (by decide)) (e0 _ (by decide)) h1.1, h1.2.1, fun k => ?_⟩, ⟨zr_L_congr (e0 _ (by decide)) (e0 _ (by decide)) h2.1, h2.2⟩, fun k hk ht => ?_, fun q hq => ?_, fun q hq => ?_, fun q hq ht => ?_⟩
  · rw [h1.2.2 k]
    constructor
    · rintro ⟨a, b⟩
      exact ⟨a, by rw [th k a]; exact b⟩
    · rintro ⟨a, b⟩
      exact ⟨a, by rw [← th k a]; exact b⟩
  · rw [th k hk] at ht
    obtain ⟨a1, a2, a3, a4, a5⟩ := h3 k hk ht
    rw [eW k hk, eL k hk]
    refine ⟨a1, a2, fun q => ?_, fun q => ?_, a5⟩
    · obtain ⟨s', b1, b2, b3⟩ := a3 q
      exact ⟨s', b1, b2, by rw [(eS s' b1).1]; exact b3⟩
    · obtain ⟨o, b1, b2, b3, b4⟩ := a4 q
      exact ⟨o, b1, b2, b3, by rw [th o b1]; exact b4⟩
  · obtain ⟨a1, a2, a3⟩ := h4 q hq
    refine ⟨zt_C_sh a1 (eT q hq) (fun n hn => by rw [e12 q hq]; exact a1.1.2.2.2.2.2 n hn), fun k => ?_, fun k hk => ?_⟩
    · rw [a2 k]
      constructor
      · rintro ⟨b1, b2⟩
        exact ⟨b1, by rw [til k b1, eW k b1]; exact b2⟩
      · rintro ⟨b1, b2⟩
        exact ⟨b1, by rw [til k b1, eW k b1] at b2; exact b2⟩
    · have hk10 := ((a2 k).mp hk).1
      rw [eT q hq 5 (by omega) (by omega) (by omega), eT q hq 6 (by omega) (by omega) (by omega), eL k hk10]
      exact a3 k hk
  · obtain ⟨a1, a2⟩ := h5 q hq
    refine ⟨zt_C_19 (eV q hq) a1, fun z => ?_⟩
    rw [(eS q hq).2.2.1] at z
    obtain ⟨b1, b2, b3⟩ := a2 z
    refine ⟨by rw [(eS q hq).1]; exact b1, fun k hk => ?_, fun k hk hz => ?_⟩
    · have hk10 := a1.1.1.2.2 k hk
      rw [eV q hq 5 (by omega), eV q hq 6 (by omega), eL k hk10, til k hk10]
      exact b2 k hk
    · rw [(eS q hq).2.2.2] at hz
      rw [th k hk, eW k hk]
      exact b3 k hk hz
  · rw [(eS q hq).1] at ht
    obtain ⟨a1, a2⟩ := h6 q hq ht
    rw [(eS q hq).2.1]
    refine ⟨a1, ?_⟩
    unfold zt_fit at *
    rw [zt_lsz_sh (eT q hq) (by decide), zt_lsz_sh (eT q hq) (by decide), (eS q hq).2.1]
    exact a2
set_option maxRecDepth 100000 in
theorem ze_share (D : Nat) (h : zJ μ row stk Rs ts) (w x v : Int32) : ∃ ν r, ze_E (D + 3) A_Desk_share [.ref 1, .int w, .int x, .int v] (zm_mk μ) (some (.int r)) (zm_mk ν) ∧ zJ ν row stk Rs ts ∧ zd_shr μ ν ts w x v := by
  have n4 : Int32.ofInt (-1000000001) = -1000000001 := by decide
  have n2 : Int32.ofInt (-1000000002) = -1000000002 := by decide
  have h10 : (Int8.ofInt 10).toInt32 = (10 : Int32) := by decide
  have h90 : (Int8.ofInt 90).toInt32 = (90 : Int32) := by decide
  have hno : ze_E (D + 2) A_Desk_isWindow [.ref 1, .int w] (zm_mk μ) (some (.int 0)) (zm_mk μ) → (∀ k, k < 10 → w = nI k → ¬ zd_th μ k = true) → ∃ ν r, ze_E (D + 3) A_Desk_share [.ref 1, .int w, .int x, .int v] (zm_mk μ) (some (.int r)) (zm_mk ν) ∧ zJ ν row stk Rs ts ∧ zd_shr μ ν ts w x v := by
    rintro ⟨N1, E1⟩ hn
    refine ⟨μ, -1000000001, ze_in [(0, .ref 1), (1, .int w), (2, .int x), (3, .int v)] zq_Desk_share (Nat.le_of_ble_eq_true rfl) rfl ⟨N1, 6, fun F n hF => ?_⟩, h, Or.inl ⟨fun q => ?_, rfl⟩⟩
    · simp [zg_0, zg_aaload, zg_aload, zg_aload_n, zg_astore, zg_bipush, zg_getfield, zg_goto, zg_ifCond, zg_if_icmp, zg_iload, zg_iload_n, zg_invokestatic, zg_invokevirtual, zg_ireturn, zg_istore, zg_ldc, zf_X5_share, zi_ld, zi_lda, zi_cmp, zi_retOk, zi_isI, zi_f3, zi_cr, zi_ci, zi_cn, zi_get, zi_set, zq_Desk_isWindow, zd_c, E1 F (by omega), n4]
    · obtain ⟨k, s, n, a, hk, -, -, e, -, -, hf, -⟩ := q
      exact hn k hk e (decide_eq_true (of_decide_eq_true hf).1)
  rcases zd_rng w 10 (by decide) with ⟨k, hk, rfl⟩ | hout
  · have inj : ∀ k', k' < 10 → nI k = nI k' → k' = k := fun k' hk' e => ((nI_eq (by omega) (by omega)).mp e).symm
    have E1 := ze_thW (μ := μ) (D + 1) hk
    by_cases c1 : zd_th μ k = true
    · rw [if_pos c1] at E1
      obtain ⟨N1, E1⟩ := E1
      obtain ⟨N2, E2⟩ := ze_isAxis (h := zm_mk μ) (D + 1) x
      by_cases c2 : x = 0 ∨ x = 1
      · have z2 : zb (x = 0 ∨ x = 1) = 1 := if_pos c2
        rw [z2] at E2
        obtain ⟨a, ha, ea⟩ : ∃ a, a < 2 ∧ x = nI a := by
          rcases c2 with e | e
          · exact ⟨0, by decide, by rw [e, nI_0]⟩
          · exact ⟨1, by decide, by rw [e]; decide⟩
        by_cases c3 : v < 10
        · refine ⟨μ, -1000000001, ze_in [(0, .ref 1), (1, .int (nI k)), (2, .int x), (3, .int v)] zq_Desk_share (Nat.le_of_ble_eq_true rfl) rfl ⟨N1 + N2, 12, fun F n hF => ?_⟩, h, Or.inl ⟨fun q => ?_, rfl⟩⟩
          · simp [zg_0, zg_aaload, zg_aload, zg_aload_n, zg_astore, zg_bipush, zg_getfield, zg_goto, zg_ifCond, zg_if_icmp, zg_iload, zg_iload_n, zg_invokestatic, zg_invokevirtual, zg_ireturn, zg_istore, zg_ldc, zf_X5_share, zi_ld, zi_lda, zi_cmp, zi_retOk, zi_isI, zi_f3, zi_cr, zi_ci, zi_cn, zi_get, zi_set, zq_Desk_isWindow, zd_c, E1 F (by omega), zq_Desk_isAxis, E2 F (by omega), h10, c3, n4]
          · obtain ⟨k', s, n, a, -, -, -, -, -, q, -⟩ := q
            exact Int32.not_le.mpr c3 q.1
        · have c3' : (10 : Int32) ≤ v := Int32.not_lt.mp c3
          by_cases c4 : v ≤ 90
          · obtain ⟨N3, E3⟩ := ze_tilW (μ := μ) (D + 1) hk
            have cw := zw_c (μ := μ) (zdW_at hk)
            by_cases c5 : zd_til μ k = true
            · rw [if_pos c5] at E3
              obtain ⟨s, hs, es, hR, n, hn, en⟩ := zJ_til h hk c5
              have hI := (h.2.2.2.1 s hs).1.1
              obtain ⟨N4, E4⟩ := ze_treeOf (μ := μ) (D + 1) hk hs es
              obtain ⟨N5, E5⟩ := ze_Tree_nearestCut (μ := μ) D (zdT_at hs) hI hn hk en ha
              rw [← ea] at E5
              obtain ⟨lt, ct⟩ := zt_c (μ := μ) (zdT_at hs)
              by_cases c6 : zy_nc (μ (zdT s + 7)) x n (ts s) < 0
              · have c6' : ¬ (0 : Int32) ≤ zy_nc (μ (zdT s + 7)) x n (ts s) := Int32.not_le.mpr c6
                refine ⟨μ, -1000000002, ze_in [(0, .ref 1), (1, .int (nI k)), (2, .int x), (3, .int v)] zq_Desk_share (Nat.le_of_ble_eq_true rfl) rfl ⟨N1 + N2 + N3 + N4 + N5, 33, fun F n hF => ?_⟩, h, Or.inl ⟨fun q => ?_, rfl⟩⟩
                · simp [zg_0, zg_aaload, zg_aload, zg_aload_n, zg_astore, zg_bipush, zg_getfield, zg_goto, zg_ifCond, zg_if_icmp, zg_iload, zg_iload_n, zg_invokestatic, zg_invokevirtual, zg_ireturn, zg_istore, zg_ldc, zf_X5_share, zi_ld, zi_lda, zi_cmp, zi_retOk, zi_isI, zi_f3, zi_cr, zi_ci, zi_cn, zi_get, zi_set, zq_Desk_isWindow, zd_c, E1 F (by omega), zq_Desk_isAxis, E2 F (by omega), h10, h90, c3, c4, zd_g, zd_w hk, zq_Win_isTiled, cw, E3 F (by omega), zq_Desk_treeOf, E4 F (by omega), zq_Tree_nearestCut, ct, E5 F (by omega), c6', n2]
                · obtain ⟨k', s', n', a', hk', hs', -, e, -, -, -, q2, q3, q4, q5⟩ := q
                  have e1 := inj k' hk' e
                  subst e1
                  have e2 : s' = s := (nI_eq (by omega) (by omega)).mp (q2.symm.trans es)
                  subst e2
                  have l1 := hI.2.1.2.2.1 n (zt_I_lv hI hn).2
                  have l2 := hI.2.1.2.2.1 n' (zt_I_lv hI q3).2
                  have e3 : n' = n := (nI_eq (by omega) (by omega)).mp (q4.symm.trans en)
                  subst e3
                  exact q5 c6
              · have c6' : (0 : Int32) ≤ zy_nc (μ (zdT s + 7)) x n (ts s) := Int32.not_lt.mp c6
                have hin : zi_in (zy_nc (μ (zdT s + 7)) x n (ts s)) 19 = true := by
                  unfold zy_nc at *
                  by_cases c7 : 0 < ((zy_up n (ts s)).filter (fun y => decide (μ (zdT s + 7) y = x))).length
                  · rw [if_pos c7]
                    have hm := zl_mem c7
                    have hm2 := (List.mem_filter.mp hm).1
                    obtain ⟨wt, ok, -⟩ := zt_I_wf hI (zt_I_lv hI hn).2
                    have hc := (zy_up_ok (n := n) (ts s) wt hI.2.1.2.1 ok hn).1 _ hm2
                    exact zm_in (hI.2.1.2.2.1 _ (zy_cts_ids (ts s) wt _ hc)) (by decide)
                  · rw [if_neg c7] at c6
                    exact absurd (by decide) c6
                obtain ⟨N6, E6⟩ := ze_Tree_changeShare (μ := μ) (D + 1) (zdT_at hs) hin v
                refine ⟨zm_up μ (zdT s + 8) (zy_nc (μ (zdT s + 7)) x n (ts s)).toNatClampNeg v, μ (zdT s + 8) (zy_nc (μ (zdT s + 7)) x n (ts s)).toNatClampNeg, ze_in [(0, .ref 1), (1, .int (nI k)), (2, .int x), (3, .int v)] zq_Desk_share (Nat.le_of_ble_eq_true rfl) rfl ⟨N1 + N2 + N3 + N4 + N5 + N6, 35, fun F n hF => ?_⟩, zJ_share h hs v, Or.inr ⟨k, s, n, a, hk, hs, ha, rfl, ea, ⟨c3', c4⟩, c5, es, hn, en, c6, rfl⟩⟩
                simp [zg_0, zg_aaload, zg_aload, zg_aload_n, zg_astore, zg_bipush, zg_getfield, zg_goto, zg_ifCond, zg_if_icmp, zg_iload, zg_iload_n, zg_invokestatic, zg_invokevirtual, zg_ireturn, zg_istore, zg_ldc, zf_X5_share, zi_ld, zi_lda, zi_cmp, zi_retOk, zi_isI, zi_f3, zi_cr, zi_ci, zi_cn, zi_get, zi_set, zq_Desk_isWindow, zd_c, E1 F (by omega), zq_Desk_isAxis, E2 F (by omega), h10, h90, c3, c4, zd_g, zd_w hk, zq_Win_isTiled, cw, E3 F (by omega), zq_Desk_treeOf, E4 F (by omega), zq_Tree_nearestCut, ct, E5 F (by omega), c6', zq_Tree_changeShare, E6 F (by omega)]
            · rw [if_neg c5] at E3
              refine ⟨μ, -1000000002, ze_in [(0, .ref 1), (1, .int (nI k)), (2, .int x), (3, .int v)] zq_Desk_share (Nat.le_of_ble_eq_true rfl) rfl ⟨N1 + N2 + N3, 21, fun F n hF => ?_⟩, h, Or.inl ⟨fun q => ?_, rfl⟩⟩
              · simp [zg_0, zg_aaload, zg_aload, zg_aload_n, zg_astore, zg_bipush, zg_getfield, zg_goto, zg_ifCond, zg_if_icmp, zg_iload, zg_iload_n, zg_invokestatic, zg_invokevirtual, zg_ireturn, zg_istore, zg_ldc, zf_X5_share, zi_ld, zi_lda, zi_cmp, zi_retOk, zi_isI, zi_f3, zi_cr, zi_ci, zi_cn, zi_get, zi_set, zq_Desk_isWindow, zd_c, E1 F (by omega), zq_Desk_isAxis, E2 F (by omega), h10, h90, c3, c4, zd_g, zd_w hk, zq_Win_isTiled, cw, E3 F (by omega), n2]
              · obtain ⟨k', s, n, a, hk', -, -, e, -, -, q, -⟩ := q
                rw [inj k' hk' e] at q
                exact c5 q
          · refine ⟨μ, -1000000001, ze_in [(0, .ref 1), (1, .int (nI k)), (2, .int x), (3, .int v)] zq_Desk_share (Nat.le_of_ble_eq_true rfl) rfl ⟨N1 + N2, 15, fun F n hF => ?_⟩, h, Or.inl ⟨fun q => ?_, rfl⟩⟩
            · simp [zg_0, zg_aaload, zg_aload, zg_aload_n, zg_astore, zg_bipush, zg_getfield, zg_goto, zg_ifCond, zg_if_icmp, zg_iload, zg_iload_n, zg_invokestatic, zg_invokevirtual, zg_ireturn, zg_istore, zg_ldc, zf_X5_share, zi_ld, zi_lda, zi_cmp, zi_retOk, zi_isI, zi_f3, zi_cr, zi_ci, zi_cn, zi_get, zi_set, zq_Desk_isWindow, zd_c, E1 F (by omega), zq_Desk_isAxis, E2 F (by omega), h10, h90, c3, c4, n4]
            · obtain ⟨k', s, n, a, -, -, -, -, -, q, -⟩ := q
              exact c4 q.2
      · have z2 : zb (x = 0 ∨ x = 1) = 0 := if_neg c2
        rw [z2] at E2
        refine ⟨μ, -1000000001, ze_in [(0, .ref 1), (1, .int (nI k)), (2, .int x), (3, .int v)] zq_Desk_share (Nat.le_of_ble_eq_true rfl) rfl ⟨N1 + N2, 9, fun F n hF => ?_⟩, h, Or.inl ⟨fun q => ?_, rfl⟩⟩
        · simp [zg_0, zg_aaload, zg_aload, zg_aload_n, zg_astore, zg_bipush, zg_getfield, zg_goto, zg_ifCond, zg_if_icmp, zg_iload, zg_iload_n, zg_invokestatic, zg_invokevirtual, zg_ireturn, zg_istore, zg_ldc, zf_X5_share, zi_ld, zi_lda, zi_cmp, zi_retOk, zi_isI, zi_f3, zi_cr, zi_ci, zi_cn, zi_get, zi_set, zq_Desk_isWindow, zd_c, E1 F (by omega), zq_Desk_isAxis, E2 F (by omega), n4]
        · obtain ⟨k', s, n, a, -, -, ha, -, ea, -⟩ := q
          apply c2
          rw [ea]
          match a, ha with
          | 0, _ => exact Or.inl nI_0
          | 1, _ => exact Or.inr (by decide)
    · rw [if_neg c1] at E1
      exact hno E1 (fun k' hk' e => by rw [inj k' hk' e]; exact c1)
  · exact hno (ze_isWindow_out (D + 1) hout) (fun k hk e => by
      rw [e] at hout
      exact absurd hout (fun q => q.elim (nI_pos (by omega)) (nI_ge (b := 10) hk (by decide))))
end ZQ8
