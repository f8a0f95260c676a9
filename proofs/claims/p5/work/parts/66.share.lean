section
/-! the desk: share -/
section ZQ8
variable {μ ν : zm_M} {row stk : List Nat} {Rs : Nat → List Nat} {ts : Nat → zy_F}
/-- share: refused, or the nearest cut's share is v -/
noncomputable def zd_shr (μ ν : zm_M) (ts : Nat → zy_F) (w x v : Int32) : Prop :=
  (¬ (∃ k s n a, k < 10 ∧ s < 3 ∧ a < 2 ∧ w = nI k ∧ x = nI a ∧ (10 ≤ v ∧ v ≤ 90) ∧ zd_til μ k = true ∧ μ (zdW k) 5 = nI s ∧ n ∈ zy_lvs (ts s) ∧ μ (zdT s + 3) k = nI n ∧ ¬ zy_nc (μ (zdT s + 7)) x n (ts s) < 0) ∧ ν = μ) ∨
  ∃ k s n a, k < 10 ∧ s < 3 ∧ a < 2 ∧ w = nI k ∧ x = nI a ∧ (10 ≤ v ∧ v ≤ 90) ∧ zd_til μ k = true ∧ μ (zdW k) 5 = nI s ∧ n ∈ zy_lvs (ts s) ∧ μ (zdT s + 3) k = nI n ∧ ¬ zy_nc (μ (zdT s + 7)) x n (ts s) < 0 ∧ ν = zm_up μ (zdT s + 8) (zy_nc (μ (zdT s + 7)) x n (ts s)).toNatClampNeg v
theorem zJ_share (h : zJ μ row stk Rs ts) {s c : Nat} (hs : s < 3) (v : Int32) : zJ (zm_up μ (zdT s + 8) c v) row stk Rs ts := by
  obtain ⟨h1, h2, h3, h4, h5, h6⟩ := h
  have rw' : ∀ c', c' ≠ zdT s + 8 → zm_up μ (zdT s + 8) c v c' = μ c' := fun c' hc => zm_up_row hc
  generalize zm_up μ (zdT s + 8) c v = ν at rw'
  have eW : ∀ k, k < 10 → ν (zdW k) = μ (zdW k) := fun k hk => rw' _ (by unfold zdW zdT; omega)
  have eL : ∀ k, k < 10 → ν (zdW k + 1) = μ (zdW k + 1) := fun k hk => rw' _ (by unfold zdW zdT; omega)
  have eT : ∀ q, q < 3 → ∀ j, j < 19 → j ≠ 12 → j ≠ 8 → ν (zdT q + j) = μ (zdT q + j) := fun q hq j hj _ h8 => rw' _ (by unfold zdT; omega)
  have e12 : ∀ q, q < 3 → ν (zdT q + 12) = μ (zdT q + 12) := fun q hq => rw' _ (by unfold zdT; omega)
  have eV : ∀ q, q < 3 → ∀ j, j < 19 → ν (zdV q + j) = μ (zdV q + j) := fun q hq j hj => rw' _ (by unfold zdV zdT; omega)
  have eS : ∀ q, q < 3 → ν (zdS q) = μ (zdS q) ∧ ν (zdZ q) = μ (zdZ q) ∧ ν (zdK q) = μ (zdK q) ∧ ν (zdQ q) = μ (zdQ q) := fun q hq => ⟨rw' _ (by unfold zdS zdT; omega), rw' _ (by unfold zdZ zdT; omega), rw' _ (by unfold zdK zdT; omega), rw' _ (by unfold zdQ zdT; omega)⟩
  have th : ∀ j, j < 10 → zd_th ν j = zd_th μ j := fun j hj => by unfold zd_th; rw [eW j hj]
  have til : ∀ j, j < 10 → zd_til ν j = zd_til μ j := fun j hj => by unfold zd_til; rw [eW j hj]
  have e0 : ∀ c, c < 7 → ν c = μ c := fun c hc => rw' c (by unfold zdT; omega)
  refine ⟨⟨zr_L_congr (e0 _ (by decide)) (e0 _ (by decide)) h1.1, h1.2.1, fun k => ?_⟩, ⟨zr_L_congr (e0 _ (by decide)) (e0 _ (by decide)) h2.1, h2.2⟩, fun k hk ht => ?_, fun q hq => ?_, fun q hq => ?_, fun q hq ht => ?_⟩
  · rw [h1.2.2 k]
    constructor
    · rintro ⟨a, b⟩
      exact ⟨a, by rw [th k a]; exact b⟩
    · rintro ⟨a, b⟩
      exact ⟨a, by rw [← th k a]; exact b⟩
  · rw [th k hk] at ht
    obtain ⟨a1, a2, a3, a4, a5⟩ := h3 k hk ht
    rw [eW k hk, eL k hk]
    refine ⟨a1, a2, fun q => ?_, fun q => ?_, a5⟩
    · obtain ⟨s', b1, b2, b3⟩ := a3 q
      exact ⟨s', b1, b2, by rw [(eS s' b1).1]; exact b3⟩
    · obtain ⟨o, b1, b2, b3, b4⟩ := a4 q
      exact ⟨o, b1, b2, b3, by rw [th o b1]; exact b4⟩
  · obtain ⟨a1, a2, a3⟩ := h4 q hq
    refine ⟨zt_C_sh a1 (eT q hq) (fun n hn => by rw [e12 q hq]; exact a1.1.2.2.2.2.2 n hn), fun k => ?_, fun k hk => ?_⟩
    · rw [a2 k]
      constructor
      · rintro ⟨b1, b2⟩
        exact ⟨b1, by rw [til k b1, eW k b1]; exact b2⟩
      · rintro ⟨b1, b2⟩
        exact ⟨b1, by rw [til k b1, eW k b1] at b2; exact b2⟩
    · have hk10 := ((a2 k).mp hk).1
      rw [eT q hq 5 (by omega) (by omega) (by omega), eT q hq 6 (by omega) (by omega) (by omega), eL k hk10]
      exact a3 k hk
  · obtain ⟨a1, a2⟩ := h5 q hq
    refine ⟨zt_C_19 (eV q hq) a1, fun z => ?_⟩
    rw [(eS q hq).2.2.1] at z
    obtain ⟨b1, b2, b3⟩ := a2 z
    refine ⟨by rw [(eS q hq).1]; exact b1, fun k hk => ?_, fun k hk hz => ?_⟩
    · have hk10 := a1.1.1.2.2 k hk
      rw [eV q hq 5 (by omega), eV q hq 6 (by omega), eL k hk10, til k hk10]
      exact b2 k hk
    · rw [(eS q hq).2.2.2] at hz
      rw [th k hk, eW k hk]
      exact b3 k hk hz
  · rw [(eS q hq).1] at ht
    obtain ⟨a1, a2⟩ := h6 q hq ht
    rw [(eS q hq).2.1]
    refine ⟨a1, ?_⟩
    unfold zt_fit at *
    rw [zt_lsz_sh (eT q hq) (by decide), zt_lsz_sh (eT q hq) (by decide), (eS q hq).2.1]
    exact a2
set_option maxRecDepth 100000 in
theorem ze_share (D : Nat) (h : zJ μ row stk Rs ts) (w x v : Int32) : ∃ ν r, ze_E (D + 3) A_Desk_share [.ref 1, .int w, .int x, .int v] (zm_mk μ) (some (.int r)) (zm_mk ν) ∧ zJ ν row stk Rs ts ∧ zd_shr μ ν ts w x v := by
  have n4 : Int32.ofInt (-1000000001) = -1000000001 := by decide
  have n2 : Int32.ofInt (-1000000002) = -1000000002 := by decide
  have h10 : (Int8.ofInt 10).toInt32 = (10 : Int32) := by decide
  have h90 : (Int8.ofInt 90).toInt32 = (90 : Int32) := by decide
  have hno : ze_E (D + 2) A_Desk_isWindow [.ref 1, .int w] (zm_mk μ) (some (.int 0)) (zm_mk μ) → (∀ k, k < 10 → w = nI k → ¬ zd_th μ k = true) → ∃ ν r, ze_E (D + 3) A_Desk_share [.ref 1, .int w, .int x, .int v] (zm_mk μ) (some (.int r)) (zm_mk ν) ∧ zJ ν row stk Rs ts ∧ zd_shr μ ν ts w x v := by
    rintro ⟨N1, E1⟩ hn
    refine ⟨μ, -1000000001, ze_in [(0, .ref 1), (1, .int w), (2, .int x), (3, .int v)] zq_Desk_share (Nat.le_of_ble_eq_true rfl) rfl ⟨N1, 6, fun F n hF => ?_⟩, h, Or.inl ⟨fun q => ?_, rfl⟩⟩
    · simp [zg_0, zg_aaload, zg_aload, zg_aload_n, zg_astore, zg_bipush, zg_getfield, zg_goto, zg_ifCond, zg_if_icmp, zg_iload, zg_iload_n, zg_invokestatic, zg_invokevirtual, zg_ireturn, zg_istore, zg_ldc, zf_X5_share, zi_ld, zi_lda, zi_cmp, zi_retOk, zi_isI, zi_f3, zi_cr, zi_ci, zi_cn, zi_get, zi_set, zq_Desk_isWindow, zd_c, E1 F (by omega), n4]
    · obtain ⟨k, s, n, a, hk, -, -, e, -, -, hf, -⟩ := q
      exact hn k hk e (decide_eq_true (of_decide_eq_true hf).1)
  rcases zd_rng w 10 (by decide) with ⟨k, hk, rfl⟩ | hout
  · have inj : ∀ k', k' < 10 → nI k = nI k' → k' = k := fun k' hk' e => ((nI_eq (by omega) (by omega)).mp e).symm
    have E1 := ze_thW (μ := μ) (D + 1) hk
    by_cases c1 : zd_th μ k = true
    · rw [if_pos c1] at E1
      obtain ⟨N1, E1⟩ := E1
      obtain ⟨N2, E2⟩ := ze_isAxis (h := zm_mk μ) (D + 1) x
      by_cases c2 : x = 0 ∨ x = 1
      · have z2 : zb (x = 0 ∨ x = 1) = 1 := if_pos c2
        rw [z2] at E2
        obtain ⟨a, ha, ea⟩ : ∃ a, a < 2 ∧ x = nI a := by
          rcases c2 with e | e
          · exact ⟨0, by decide, by rw [e, nI_0]⟩
          · exact ⟨1, by decide, by rw [e]; decide⟩
        by_cases c3 : v < 10
        · refine ⟨μ, -1000000001, ze_in [(0, .ref 1), (1, .int (nI k)), (2, .int x), (3, .int v)] zq_Desk_share (Nat.le_of_ble_eq_true rfl) rfl ⟨N1 + N2, 12, fun F n hF => ?_⟩, h, Or.inl ⟨fun q => ?_, rfl⟩⟩
          · simp [zg_0, zg_aaload, zg_aload, zg_aload_n, zg_astore, zg_bipush, zg_getfield, zg_goto, zg_ifCond, zg_if_icmp, zg_iload, zg_iload_n, zg_invokestatic, zg_invokevirtual, zg_ireturn, zg_istore, zg_ldc, zf_X5_share, zi_ld, zi_lda, zi_cmp, zi_retOk, zi_isI, zi_f3, zi_cr, zi_ci, zi_cn, zi_get, zi_set, zq_Desk_isWindow, zd_c, E1 F (by omega), zq_Desk_isAxis, E2 F (by omega), h10, c3, n4]
          · obtain ⟨k', s, n, a, -, -, -, -, -, q, -⟩ := q
            exact Int32.not_le.mpr c3 q.1
        · have c3' : (10 : Int32) ≤ v := Int32.not_lt.mp c3
          by_cases c4 : v ≤ 90
          · obtain ⟨N3, E3⟩ := ze_tilW (μ := μ) (D + 1) hk
            have cw := zw_c (μ := μ) (zdW_at hk)
            by_cases c5 : zd_til μ k = true
            · rw [if_pos c5] at E3
              obtain ⟨s, hs, es, hR, n, hn, en⟩ := zJ_til h hk c5
              have hI := (h.2.2.2.1 s hs).1.1
              obtain ⟨N4, E4⟩ := ze_treeOf (μ := μ) (D + 1) hk hs es
              obtain ⟨N5, E5⟩ := ze_Tree_nearestCut (μ := μ) D (zdT_at hs) hI hn hk en ha
              rw [← ea] at E5
              obtain ⟨lt, ct⟩ := zt_c (μ := μ) (zdT_at hs)
              by_cases c6 : zy_nc (μ (zdT s + 7)) x n (ts s) < 0
              · have c6' : ¬ (0 : Int32) ≤ zy_nc (μ (zdT s + 7)) x n (ts s) := Int32.not_le.mpr c6
                refine ⟨μ, -1000000002, ze_in [(0, .ref 1), (1, .int (nI k)), (2, .int x), (3, .int v)] zq_Desk_share (Nat.le_of_ble_eq_true rfl) rfl ⟨N1 + N2 + N3 + N4 + N5, 33, fun F n hF => ?_⟩, h, Or.inl ⟨fun q => ?_, rfl⟩⟩
                · simp [zg_0, zg_aaload, zg_aload, zg_aload_n, zg_astore, zg_bipush, zg_getfield, zg_goto, zg_ifCond, zg_if_icmp, zg_iload, zg_iload_n, zg_invokestatic, zg_invokevirtual, zg_ireturn, zg_istore, zg_ldc, zf_X5_share, zi_ld, zi_lda, zi_cmp, zi_retOk, zi_isI, zi_f3, zi_cr, zi_ci, zi_cn, zi_get, zi_set, zq_Desk_isWindow, zd_c, E1 F (by omega), zq_Desk_isAxis, E2 F (by omega), h10, h90, c3, c4, zd_g, zd_w hk, zq_Win_isTiled, cw, E3 F (by omega), zq_Desk_treeOf, E4 F (by omega), zq_Tree_nearestCut, ct, E5 F (by omega), c6', n2]
                · obtain ⟨k', s', n', a', hk', hs', -, e, -, -, -, q2, q3, q4, q5⟩ := q
                  have e1 := inj k' hk' e
                  subst e1
                  have e2 : s' = s := (nI_eq (by omega) (by omega)).mp (q2.symm.trans es)
                  subst e2
                  have l1 := hI.2.1.2.2.1 n (zt_I_lv hI hn).2
                  have l2 := hI.2.1.2.2.1 n' (zt_I_lv hI q3).2
                  have e3 : n' = n := (nI_eq (by omega) (by omega)).mp (q4.symm.trans en)
                  subst e3
                  exact q5 c6
              · have c6' : (0 : Int32) ≤ zy_nc (μ (zdT s + 7)) x n (ts s) := Int32.not_lt.mp c6
                have hin : zi_in (zy_nc (μ (zdT s + 7)) x n (ts s)) 19 = true := by
                  unfold zy_nc at *
                  by_cases c7 : 0 < ((zy_up n (ts s)).filter (fun y => decide (μ (zdT s + 7) y = x))).length
                  · rw [if_pos c7]
                    have hm := zl_mem c7
                    have hm2 := (List.mem_filter.mp hm).1
                    obtain ⟨wt, ok, -⟩ := zt_I_wf hI (zt_I_lv hI hn).2
                    have hc := (zy_up_ok (n := n) (ts s) wt hI.2.1.2.1 ok hn).1 _ hm2
                    exact zm_in (hI.2.1.2.2.1 _ (zy_cts_ids (ts s) wt _ hc)) (by decide)
                  · rw [if_neg c7] at c6
                    exact absurd (by decide) c6
                obtain ⟨N6, E6⟩ := ze_Tree_changeShare (μ := μ) (D + 1) (zdT_at hs) hin v
                refine ⟨zm_up μ (zdT s + 8) (zy_nc (μ (zdT s + 7)) x n (ts s)).toNatClampNeg v, μ (zdT s + 8) (zy_nc (μ (zdT s + 7)) x n (ts s)).toNatClampNeg, ze_in [(0, .ref 1), (1, .int (nI k)), (2, .int x), (3, .int v)] zq_Desk_share (Nat.le_of_ble_eq_true rfl) rfl ⟨N1 + N2 + N3 + N4 + N5 + N6, 35, fun F n hF => ?_⟩, zJ_share h hs v, Or.inr ⟨k, s, n, a, hk, hs, ha, rfl, ea, ⟨c3', c4⟩, c5, es, hn, en, c6, rfl⟩⟩
                simp [zg_0, zg_aaload, zg_aload, zg_aload_n, zg_astore, zg_bipush, zg_getfield, zg_goto, zg_ifCond, zg_if_icmp, zg_iload, zg_iload_n, zg_invokestatic, zg_invokevirtual, zg_ireturn, zg_istore, zg_ldc, zf_X5_share, zi_ld, zi_lda, zi_cmp, zi_retOk, zi_isI, zi_f3, zi_cr, zi_ci, zi_cn, zi_get, zi_set, zq_Desk_isWindow, zd_c, E1 F (by omega), zq_Desk_isAxis, E2 F (by omega), h10, h90, c3, c4, zd_g, zd_w hk, zq_Win_isTiled, cw, E3 F (by omega), zq_Desk_treeOf, E4 F (by omega), zq_Tree_nearestCut, ct, E5 F (by omega), c6', zq_Tree_changeShare, E6 F (by omega)]
            · rw [if_neg c5] at E3
              refine ⟨μ, -1000000002, ze_in [(0, .ref 1), (1, .int (nI k)), (2, .int x), (3, .int v)] zq_Desk_share (Nat.le_of_ble_eq_true rfl) rfl ⟨N1 + N2 + N3, 21, fun F n hF => ?_⟩, h, Or.inl ⟨fun q => ?_, rfl⟩⟩
              · simp [zg_0, zg_aaload, zg_aload, zg_aload_n, zg_astore, zg_bipush, zg_getfield, zg_goto, zg_ifCond, zg_if_icmp, zg_iload, zg_iload_n, zg_invokestatic, zg_invokevirtual, zg_ireturn, zg_istore, zg_ldc, zf_X5_share, zi_ld, zi_lda, zi_cmp, zi_retOk, zi_isI, zi_f3, zi_cr, zi_ci, zi_cn, zi_get, zi_set, zq_Desk_isWindow, zd_c, E1 F (by omega), zq_Desk_isAxis, E2 F (by omega), h10, h90, c3, c4, zd_g, zd_w hk, zq_Win_isTiled, cw, E3 F (by omega), n2]
              · obtain ⟨k', s, n, a, hk', -, -, e, -, -, q, -⟩ := q
                rw [inj k' hk' e] at q
                exact c5 q
          · refine ⟨μ, -1000000001, ze_in [(0, .ref 1), (1, .int (nI k)), (2, .int x), (3, .int v)] zq_Desk_share (Nat.le_of_ble_eq_true rfl) rfl ⟨N1 + N2, 15, fun F n hF => ?_⟩, h, Or.inl ⟨fun q => ?_, rfl⟩⟩
            · simp [zg_0, zg_aaload, zg_aload, zg_aload_n, zg_astore, zg_bipush, zg_getfield, zg_goto, zg_ifCond, zg_if_icmp, zg_iload, zg_iload_n, zg_invokestatic, zg_invokevirtual, zg_ireturn, zg_istore, zg_ldc, zf_X5_share, zi_ld, zi_lda, zi_cmp, zi_retOk, zi_isI, zi_f3, zi_cr, zi_ci, zi_cn, zi_get, zi_set, zq_Desk_isWindow, zd_c, E1 F (by omega), zq_Desk_isAxis, E2 F (by omega), h10, h90, c3, c4, n4]
            · obtain ⟨k', s, n, a, -, -, -, -, -, q, -⟩ := q
              exact c4 q.2
      · have z2 : zb (x = 0 ∨ x = 1) = 0 := if_neg c2
        rw [z2] at E2
        refine ⟨μ, -1000000001, ze_in [(0, .ref 1), (1, .int (nI k)), (2, .int x), (3, .int v)] zq_Desk_share (Nat.le_of_ble_eq_true rfl) rfl ⟨N1 + N2, 9, fun F n hF => ?_⟩, h, Or.inl ⟨fun q => ?_, rfl⟩⟩
        · simp [zg_0, zg_aaload, zg_aload, zg_aload_n, zg_astore, zg_bipush, zg_getfield, zg_goto, zg_ifCond, zg_if_icmp, zg_iload, zg_iload_n, zg_invokestatic, zg_invokevirtual, zg_ireturn, zg_istore, zg_ldc, zf_X5_share, zi_ld, zi_lda, zi_cmp, zi_retOk, zi_isI, zi_f3, zi_cr, zi_ci, zi_cn, zi_get, zi_set, zq_Desk_isWindow, zd_c, E1 F (by omega), zq_Desk_isAxis, E2 F (by omega), n4]
        · obtain ⟨k', s, n, a, -, -, ha, -, ea, -⟩ := q
          apply c2
          rw [ea]
          match a, ha with
          | 0, _ => exact Or.inl nI_0
          | 1, _ => exact Or.inr (by decide)
    · rw [if_neg c1] at E1
      exact hno E1 (fun k' hk' e => by rw [inj k' hk' e]; exact c1)
  · exact hno (ze_isWindow_out (D + 1) hout) (fun k hk e => by
      rw [e] at hout
      exact absurd hout (fun q => q.elim (nI_pos (by omega)) (nI_ge (b := 10) hk (by decide))))
end ZQ8
end
section
/-! the desk: steps -/
section ZQ9
variable {μ ν : zm_M} {row stk : List Nat} {Rs : Nat → List Nat} {ts : Nat → zy_F}
/-- windows reached, each once, at B steps at most -/
noncomputable def zd_rch (μ ν : zm_M) (l : List Nat) (B : Nat) : Prop := zJ_eqv μ ν ∧ zr_L ν 34 l ∧ l.Nodup ∧ ∀ j ∈ l, j < 10 ∧ zd_til μ j = true ∧ ∃ d, d ≤ B ∧ ν 33 j = nI d
set_option maxRecDepth 100000 in
theorem ze_reachFrom (D : Nat) (h : zJ μ row stk Rs ts) {l : List Nat} {B k : Nat} (hB : B < 100) (hk : k ∈ l) (hr : zd_rch μ ν l B) : ∃ ν' l', ze_E (D + 6) A_Desk_reachFrom [.ref 1, .int (nI k)] (zm_mk ν) none (zm_mk ν') ∧ zd_rch μ ν' l' (B + 1) ∧ ∀ j ∈ l, j ∈ l' := by
  obtain ⟨r1, r2, r3, r4⟩ := hr
  obtain ⟨hk10, hkt, dk, hdk, edk⟩ := r4 k hk
  obtain ⟨s, hs, es, -, -⟩ := zJ_til h hk10 hkt
  have key : ∃ r h', ze_G (D + 5) 4 none zc_X5_reachFrom 2 [(2, .int (nI 0)), (0, .ref 1), (1, .int (nI k))] [] (zm_mk ν) r h' ∧ (r = none ∧ ∃ ν', zm_mk ν' = h' ∧ ∃ l', zd_rch μ ν' l' (B + 1) ∧ ν' 33 k = nI dk ∧ ∀ j ∈ l, j ∈ l') := by
    refine ze_loop (Q := fun i L hp => i ≤ 4 ∧ zi_nl L = true ∧ zi_get L 0 = some (.ref 1) ∧ zi_get L 1 = some (.int (nI k)) ∧ zi_get L 2 = some (.int (nI i)) ∧ ∃ ξ : zm_M, zm_mk ξ = hp ∧ (∃ l1, zd_rch μ ξ l1 (B + 1) ∧ ξ 33 k = nI dk ∧ ∀ j ∈ l, j ∈ l1) ∧ (True)) (R := fun r h' => r = none ∧ ∃ ν', zm_mk ν' = h' ∧ ∃ l', zd_rch μ ν' l' (B + 1) ∧ ν' 33 k = nI dk ∧ ∀ j ∈ l, j ∈ l') 4 ?_ ?_ 4 0 _ _ (by omega) ⟨by omega, rfl, rfl, rfl, rfl, ν, rfl, ⟨l, ⟨r1, r2, r3, fun j hj => ⟨(r4 j hj).1, (r4 j hj).2.1, (r4 j hj).2.2.imp (fun d q => ⟨by omega, q.2⟩)⟩⟩, edk, fun j hj => hj⟩, trivial⟩
    · rintro i L _ hi ⟨-, nl, g0, g1, g2, ξ, rfl, hZ, hq⟩
      obtain ⟨l1, ⟨q1, q2, q3, q4⟩, q5, q6⟩ := hZ
      have c1 : ¬ (4 : Int32) ≤ nI i := nI_ge (b := 4) hi (by decide)
      have hJ := h.eqv q1
      obtain ⟨N1, E1⟩ := ze_treeOf (μ := ξ) (D + 4) hk10 hs (by rw [q1 _ (zJn_W hk10).1]; exact es)
      obtain ⟨N2, E2⟩ := ze_Tree_neighbourTo (μ := ξ) D (zdT_at hs) (zt_I_hm (hJ.2.2.2.1 s hs).1.1) hk10 hi
      have hor := zd_ngb_or hJ (s := s) (k := k) (sd := i) hs
      obtain ⟨lt, ct⟩ := zt_c (μ := ξ) (zdT_at hs)
      have E2 : ∀ F, N2 ≤ F → zi_run zi_ms F (D + 5) A_Tree_neighbourTo [.ref (zdT s + 1), .int (nI k), .int (nI i)] (zm_mk ξ) [] = some [([], some (.int (zd_ngb ξ s k i)), zm_mk ξ)] := E2
      generalize zd_ngb ξ s k i = v at E2 hor
      rcases hor with rfl | ⟨o, ho, rfl, hot, -⟩
      · obtain ⟨N3, E3⟩ := ze_isWindow_out (μ := ξ) (D + 4) (x := -1000000005) (Or.inl (by decide))
        have N4 : Nat := 0
        left
        refine ⟨zi_set (zi_set L 3 (.int (-1000000005))) 2 (.int (nI (i + 1))), zm_mk ξ, ⟨N1 + N2 + N3 + N4, 16, fun F m hF => ?_⟩, by omega, ?_, ?_, ?_, zi_get_set_eq, ξ, rfl, ⟨l1, ⟨q1, q2, q3, q4⟩, q5, q6⟩, trivial⟩
        · simp (maxDischargeDepth := 9) [zg_0, zg_aload_n, zg_getfield, zg_goto, zg_iadd, zg_iaload, zg_iastore, zg_iconst, zg_ifCond, zg_if_icmp, zg_iinc, zg_iload_n, zg_invokevirtual, zg_istore_n, zg_return, zf_X5_reachFrom, zi_ld, zi_lda, zi_cmp, zi_retOk, zi_isI, zi_f3, zi_cr, zi_ci, zi_cn, zi_get_ne, zi_nl_i, zi_nl_r, zi_get_set_eq, nl, g0, g1, g2, c1, zq_Desk_treeOf, zd_c, E1 F (by omega), zq_Tree_neighbourTo, ct, E2 F (by omega), zq_Desk_isWindow, E3 F (by omega), nI_1]
        · simp (maxDischargeDepth := 9) [zi_get_ne, zi_nl_i, zi_nl_r, zi_get_set_eq, nl]
        · simp (maxDischargeDepth := 9) [zi_get_ne, zi_nl_i, zi_nl_r, zi_get_set_eq, nl, g0]
        · simp (maxDischargeDepth := 9) [zi_get_ne, zi_nl_i, zi_nl_r, zi_get_set_eq, nl, g1]
      · have hth : zd_th ξ o = true := decide_eq_true (of_decide_eq_true hot).1
        obtain ⟨N3, E3⟩ := ze_thW (μ := ξ) (D + 4) ho
        rw [if_pos hth] at E3
        have io : zi_in (nI o) 10 = true := zm_in ho (by decide)
        have co : (nI o).toNatClampNeg = o := nI_clamp (by omega)
        have ik : zi_in (nI k) 10 = true := zm_in hk10 (by decide)
        have ck : (nI k).toNatClampNeg = k := nI_clamp (by omega)
        by_cases c2 : (0 : Int32) ≤ ξ 33 o
        · have N4 : Nat := 0
          left
          refine ⟨zi_set (zi_set L 3 (.int (nI o))) 2 (.int (nI (i + 1))), zm_mk ξ, ⟨N1 + N2 + N3 + N4, 21, fun F m hF => ?_⟩, by omega, ?_, ?_, ?_, zi_get_set_eq, ξ, rfl, ⟨l1, ⟨q1, q2, q3, q4⟩, q5, q6⟩, trivial⟩
          · simp (maxDischargeDepth := 9) [zg_0, zg_aload_n, zg_getfield, zg_goto, zg_iadd, zg_iaload, zg_iastore, zg_iconst, zg_ifCond, zg_if_icmp, zg_iinc, zg_iload_n, zg_invokevirtual, zg_istore_n, zg_return, zf_X5_reachFrom, zi_ld, zi_lda, zi_cmp, zi_retOk, zi_isI, zi_f3, zi_cr, zi_ci, zi_cn, zi_get_ne, zi_nl_i, zi_nl_r, zi_get_set_eq, nl, g0, g1, g2, c1, zq_Desk_treeOf, zd_c, E1 F (by omega), zq_Tree_neighbourTo, ct, E2 F (by omega), zq_Desk_isWindow, E3 F (by omega), zd_g, zm_iald (k := 0) zd33_A io, co, c2, nI_1]
          · simp (maxDischargeDepth := 9) [zi_get_ne, zi_nl_i, zi_nl_r, zi_get_set_eq, nl]
          · simp (maxDischargeDepth := 9) [zi_get_ne, zi_nl_i, zi_nl_r, zi_get_set_eq, nl, g0]
          · simp (maxDischargeDepth := 9) [zi_get_ne, zi_nl_i, zi_nl_r, zi_get_set_eq, nl, g1]
        · have hol : o ∉ l1 := fun hm => by
            obtain ⟨-, -, d, hd, e⟩ := q4 o hm
            rw [e] at c2
            exact c2 (nI_pos' (by omega))
          have hok : o ≠ k := fun e => by
            rw [e, q5] at c2
            exact c2 (nI_pos' (by omega))
          let ξ1 := zm_up ξ 33 o (nI (dk + 1))
          have r1 : ∀ c, c ≠ 33 → ξ1 c = ξ c := fun c hc => zm_up_row hc
          have hL1 : zr_L ξ1 34 l1 := zr_L_congr (r1 _ (by decide)) (r1 _ (by decide)) q2
          have hlen : l1.length < 10 := by
            have := zy_nodup_le 10 (o :: l1) (List.nodup_cons.mpr ⟨hol, q3⟩) (fun x hx => by
              rcases List.mem_cons.mp hx with rfl | hx
              · exact ho
              · exact (q4 x hx).1)
            rw [List.length_cons] at this
            omega
          obtain ⟨ξ2, ⟨N4, E4⟩, l2, f2⟩ := ze_Row_append (μ := ξ1) (D + 4) zd34_at hL1 hlen o
          have e2 : ∀ c, c ≠ 33 → c ≠ 34 → c ≠ 35 → ξ2 c = ξ c := fun c a1 a2 a3 => (funext fun b => f2 c b a2 a3).trans (r1 c a1)
          have e33 : ∀ j, ξ2 33 j = if j = o then nI (dk + 1) else ξ 33 j := fun j => by
            rw [f2 33 j (by decide) (by decide)]
            show zm_up _ _ _ _ _ _ = _
            rw [zm_up_pt]
          have hZ' : zd_rch μ ξ2 (l1 ++ [o]) (B + 1) := by
            refine ⟨fun c hc => ?_, l2, (zl_app1 q3 hol (fun w hw => (q4 w hw).1) ho).1, fun j hj => ?_⟩
            · rw [e2 c (fun e => hc (by rw [e]; unfold zJ_irr; omega)) (fun e => hc (by rw [e]; unfold zJ_irr; omega)) (fun e => hc (by rw [e]; unfold zJ_irr; omega))]
              exact q1 c hc
            · rcases List.mem_append.mp hj with hj | hj
              · obtain ⟨a1, a2, d, a3, a4⟩ := q4 j hj
                exact ⟨a1, a2, d, a3, by rw [e33, if_neg (fun (e : j = o) => hol (e ▸ hj))]; exact a4⟩
              · have : j = o := by simpa using hj
                subst this
                refine ⟨ho, ?_, dk + 1, by omega, by rw [e33, if_pos rfl]⟩
                unfold zd_til at *
                rw [q1 _ (zJn_W ho).1] at hot
                exact hot
          have hk' : ξ2 33 k = nI dk := by rw [e33, if_neg (fun (e : k = o) => hok e.symm)]; exact q5
          have m1 : zm_up ξ 33 o (nI (dk + 1)) = ξ1 := rfl
          have cr := zr_c (μ := ξ1) zd34_at
          left
          refine ⟨zi_set (zi_set L 3 (.int (nI o))) 2 (.int (nI (i + 1))), zm_mk ξ2, ⟨N1 + N2 + N3 + N4, 35, fun F m hF => ?_⟩, by omega, ?_, ?_, ?_, zi_get_set_eq, ξ2, rfl, ⟨l1 ++ [o], hZ', hk', fun j hj => List.mem_append_left _ (q6 j hj)⟩, trivial⟩
          · simp (maxDischargeDepth := 9) [zg_0, zg_aload_n, zg_getfield, zg_goto, zg_iadd, zg_iaload, zg_iastore, zg_iconst, zg_ifCond, zg_if_icmp, zg_iinc, zg_iload_n, zg_invokevirtual, zg_istore_n, zg_return, zf_X5_reachFrom, zi_ld, zi_lda, zi_cmp, zi_retOk, zi_isI, zi_f3, zi_cr, zi_ci, zi_cn, zi_get_ne, zi_nl_i, zi_nl_r, zi_get_set_eq, nl, g0, g1, g2, c1, zq_Desk_treeOf, zd_c, E1 F (by omega), zq_Tree_neighbourTo, ct, E2 F (by omega), zq_Desk_isWindow, E3 F (by omega), zd_g, zm_iald (k := 0) zd33_A io, zm_iald (k := 0) zd33_A ik, co, ck, c2, q5, zm_iast zd33_A io, m1, zq_Row_append, cr, E4 F (by omega), nI_1]
          · simp (maxDischargeDepth := 9) [zi_get_ne, zi_nl_i, zi_nl_r, zi_get_set_eq, nl]
          · simp (maxDischargeDepth := 9) [zi_get_ne, zi_nl_i, zi_nl_r, zi_get_set_eq, nl, g0]
          · simp (maxDischargeDepth := 9) [zi_get_ne, zi_nl_i, zi_nl_r, zi_get_set_eq, nl, g1]
    · rintro L _ ⟨-, nl, g0, g1, g2, ξ, rfl, hZ, hq⟩
      have c1 : (4 : Int32) ≤ nI 4 := by decide
      refine ⟨none, zm_mk ξ, ⟨0, 4, fun F m hF => ?_⟩, rfl, ξ, rfl, hZ⟩
      simp [zg_0, zg_aload_n, zg_getfield, zg_goto, zg_iadd, zg_iaload, zg_iastore, zg_iconst, zg_ifCond, zg_if_icmp, zg_iinc, zg_iload_n, zg_invokevirtual, zg_istore_n, zg_return, zf_X5_reachFrom, zi_ld, zi_lda, zi_cmp, zi_retOk, zi_isI, zi_f3, zi_cr, zi_ci, zi_cn, g0, g2, c1]
  obtain ⟨r, h', G, rfl, ν', rfl, l', hZ, -, hsub⟩ := key
  refine ⟨ν', l', ze_in [(0, .ref 1), (1, .int (nI k))] zq_Desk_reachFrom (Nat.le_of_ble_eq_true rfl) rfl (ze_S.end ⟨0, 2, fun F m hF => ?_⟩ G), hZ, hsub⟩
  simp [zg_0, zg_aload_n, zg_getfield, zg_goto, zg_iadd, zg_iaload, zg_iastore, zg_iconst, zg_ifCond, zg_if_icmp, zg_iinc, zg_iload_n, zg_invokevirtual, zg_istore_n, zg_return, zf_X5_reachFrom, zi_ld, zi_lda, zi_cmp, zi_retOk, zi_isI, zi_f3, zi_cr, zi_ci, zi_cn, zi_get, zi_set, nI_0]
set_option maxRecDepth 100000 in
theorem ze_steps (D : Nat) (h : zJ μ row stk Rs ts) (w x : Int32) : ∃ ν v, ze_E (D + 7) A_Desk_steps [.ref 1, .int w, .int x] (zm_mk μ) (some (.int v)) (zm_mk ν) ∧ zJ_eqv μ ν := by
  have n4 : Int32.ofInt (-1000000001) = -1000000001 := by decide
  have n2 : Int32.ofInt (-1000000002) = -1000000002 := by decide
  have n5 : Int32.ofInt (-1000000005) = -1000000005 := by decide
  have h10 : (Int8.ofInt 10).toInt32 = (10 : Int32) := by decide
  have isW : ∀ y : Int32, (∃ b : Int32, (b = 0 ∨ (b = 1 ∧ ∃ k, k < 10 ∧ y = nI k)) ∧ ze_E (D + 6) A_Desk_isWindow [.ref 1, .int y] (zm_mk μ) (some (.int b)) (zm_mk μ)) := by
    intro y
    rcases zd_rng y 10 (by decide) with ⟨k, hk, rfl⟩ | hout
    · have E := ze_thW (μ := μ) (D + 5) hk
      by_cases c : zd_th μ k = true
      · rw [if_pos c] at E
        exact ⟨1, Or.inr ⟨rfl, k, hk, rfl⟩, E⟩
      · rw [if_neg c] at E
        exact ⟨0, Or.inl rfl, E⟩
    · exact ⟨0, Or.inl rfl, ze_isWindow_out (D + 5) hout⟩
  obtain ⟨b1, hb1, N1, E1⟩ := isW w
  rcases hb1 with rfl | ⟨rfl, a, ha, rfl⟩
  · refine ⟨μ, -1000000001, ze_in [(0, .ref 1), (1, .int w), (2, .int x)] zq_Desk_steps (Nat.le_of_ble_eq_true rfl) rfl ⟨N1, 6, fun F n hF => ?_⟩, zJ_eqv.refl⟩
    simp [zg_0, zg_aload_n, zg_bipush, zg_getfield, zg_goto, zg_iaload, zg_iastore, zg_iconst, zg_ifCond, zg_if_icmp, zg_iinc, zg_iload_n, zg_invokestatic, zg_invokevirtual, zg_ireturn, zg_istore_n, zg_ldc, zf_X5_steps, zi_ld, zi_lda, zi_cmp, zi_retOk, zi_isI, zi_f3, zi_cr, zi_ci, zi_cn, zi_get, zi_set, zq_Desk_isWindow, zd_c, E1 F (by omega), n4]
  obtain ⟨b2, hb2, N2, E2⟩ := isW x
  rcases hb2 with rfl | ⟨rfl, b, hb, rfl⟩
  · refine ⟨μ, -1000000001, ze_in [(0, .ref 1), (1, .int (nI a)), (2, .int x)] zq_Desk_steps (Nat.le_of_ble_eq_true rfl) rfl ⟨N1 + N2, 10, fun F n hF => ?_⟩, zJ_eqv.refl⟩
    simp [zg_0, zg_aload_n, zg_bipush, zg_getfield, zg_goto, zg_iaload, zg_iastore, zg_iconst, zg_ifCond, zg_if_icmp, zg_iinc, zg_iload_n, zg_invokestatic, zg_invokevirtual, zg_ireturn, zg_istore_n, zg_ldc, zf_X5_steps, zi_ld, zi_lda, zi_cmp, zi_retOk, zi_isI, zi_f3, zi_cr, zi_ci, zi_cn, zi_get, zi_set, zq_Desk_isWindow, zd_c, E1 F (by omega), E2 F (by omega), n4]
  rcases ze_isShownTileJ (D + 3) h (nI a) with ⟨⟨N3, E3⟩, a', s, ha', hs, ea, hsh⟩ | ⟨⟨N3, E3⟩, -⟩
  rotate_left
  · refine ⟨μ, -1000000002, ze_in [(0, .ref 1), (1, .int (nI a)), (2, .int (nI b))] zq_Desk_steps (Nat.le_of_ble_eq_true rfl) rfl ⟨N1 + N2 + N3, 14, fun F n hF => ?_⟩, zJ_eqv.refl⟩
    simp [zg_0, zg_aload_n, zg_bipush, zg_getfield, zg_goto, zg_iaload, zg_iastore, zg_iconst, zg_ifCond, zg_if_icmp, zg_iinc, zg_iload_n, zg_invokestatic, zg_invokevirtual, zg_ireturn, zg_istore_n, zg_ldc, zf_X5_steps, zi_ld, zi_lda, zi_cmp, zi_retOk, zi_isI, zi_f3, zi_cr, zi_ci, zi_cn, zi_get, zi_set, zq_Desk_isWindow, zd_c, E1 F (by omega), E2 F (by omega), zq_Desk_isShownTile, E3 F (by omega), n2]
  rcases ze_isShownTileJ (D + 3) h (nI b) with ⟨⟨N4, E4⟩, -⟩ | ⟨⟨N4, E4⟩, -⟩
  rotate_left
  · refine ⟨μ, -1000000002, ze_in [(0, .ref 1), (1, .int (nI a)), (2, .int (nI b))] zq_Desk_steps (Nat.le_of_ble_eq_true rfl) rfl ⟨N1 + N2 + N3 + N4, 18, fun F n hF => ?_⟩, zJ_eqv.refl⟩
    simp [zg_0, zg_aload_n, zg_bipush, zg_getfield, zg_goto, zg_iaload, zg_iastore, zg_iconst, zg_ifCond, zg_if_icmp, zg_iinc, zg_iload_n, zg_invokestatic, zg_invokevirtual, zg_ireturn, zg_istore_n, zg_ldc, zf_X5_steps, zi_ld, zi_lda, zi_cmp, zi_retOk, zi_isI, zi_f3, zi_cr, zi_ci, zi_cn, zi_get, zi_set, zq_Desk_isWindow, zd_c, E1 F (by omega), E2 F (by omega), zq_Desk_isShownTile, E3 F (by omega), E4 F (by omega), n2]
  have hat : zd_til μ a = true := by
    have e : a' = a := ((nI_eq (by omega) (by omega)).mp ea).symm
    rw [← e]
    exact hsh.1
  obtain ⟨ν1, ⟨N5, E5⟩, f5, -⟩ := ze_layTrees (μ := μ) D (fun s hs => (h.2.2.2.1 s hs).1)
  have ev1 := zd_frA_eqv f5
  obtain ⟨N6, E6⟩ := ze_fill (μ := ν1) (D + 5) zd33_A (by decide) (-1)
  let ν2 := zm_up (zm_fl ν1 33 (-1) 10) 33 a 0
  have r2 : ∀ c, c ≠ 33 → ν2 c = ν1 c := fun c hc => by
    show zm_up _ _ _ _ _ = _
    rw [zm_up_row hc]
    funext b
    exact if_neg (fun e => hc e.1)
  obtain ⟨N7, E7⟩ := ze_Row_clear (μ := ν2) (D + 5) zd34_at
  obtain ⟨L7, F7⟩ := zr_clear (μ := ν2) zd34_at
  generalize zm_up ν2 34 1 0 = ν3 at E7 L7 F7
  obtain ⟨ν4, ⟨N8, E8⟩, L8, F8⟩ := ze_Row_append (μ := ν3) (D + 5) zd34_at L7 (by decide) a
  have r4 : ∀ c, c ≠ 33 → c ≠ 34 → c ≠ 35 → ν4 c = ν1 c := fun c a1 a2 a3 => by
    rw [funext fun b => F8 c b a2 a3, funext fun b => F7 c b a2 a3]
    exact r2 c a1
  have hz0 : zd_rch μ ν4 [a] 0 := by
    refine ⟨fun c hc => ?_, L8, List.nodup_cons.mpr ⟨List.not_mem_nil, List.nodup_nil⟩, fun j hj => ?_⟩
    · rw [r4 c (fun e => hc (by rw [e]; unfold zJ_irr; omega)) (fun e => hc (by rw [e]; unfold zJ_irr; omega)) (fun e => hc (by rw [e]; unfold zJ_irr; omega))]
      exact ev1 c hc
    · have : j = a := by simpa using hj
      subst this
      refine ⟨ha, hat, 0, Nat.le_refl _, ?_⟩
      rw [F8 33 j (by decide) (by decide), F7 33 j (by decide) (by decide)]
      show zm_up _ _ _ _ _ _ = _
      rw [zm_up_eq, nI_0]
  have ia : zi_in (nI a) 10 = true := zm_in ha (by decide)
  have ca : (nI a).toNatClampNeg = a := nI_clamp (by omega)
  have ib : zi_in (nI b) 10 = true := zm_in hb (by decide)
  have cb : (nI b).toNatClampNeg = b := nI_clamp (by omega)
  have S0 : ze_S (D + 6) 4 (some .int) zc_X5_steps 0 [(0, .ref 1), (1, .int (nI a)), (2, .int (nI b))] [] (zm_mk μ) 74 [(3, .int (nI 0)), (0, .ref 1), (1, .int (nI a)), (2, .int (nI b))] [] (zm_mk ν4) := by
    refine ⟨N1 + N2 + N3 + N4 + N5 + N6 + N7 + N8, 36, fun F n hF => ?_⟩
    have m2 : zm_up (zm_fl ν1 33 (-1) 10) 33 a 0 = ν2 := rfl
    have cr2 := zr_c (μ := ν2) zd34_at
    have cr3 := zr_c (μ := ν3) zd34_at
    simp [zg_0, zg_aload_n, zg_bipush, zg_getfield, zg_goto, zg_iaload, zg_iastore, zg_iconst, zg_ifCond, zg_if_icmp, zg_iinc, zg_iload_n, zg_invokestatic, zg_invokevirtual, zg_ireturn, zg_istore_n, zg_ldc, zf_X5_steps, zi_ld, zi_lda, zi_cmp, zi_retOk, zi_isI, zi_f3, zi_cr, zi_ci, zi_cn, zi_get, zi_set, zq_Desk_isWindow, zd_c, E1 F (by omega), E2 F (by omega), zq_Desk_isShownTile, E3 F (by omega), E4 F (by omega), zq_Desk_layTrees, E5 F (by omega), zd_g, zq_Arr_fill, E6 F (by omega), zm_iast zd33_A ia, ca, m2, zq_Row_clear, cr2, E7 F (by omega), zq_Row_append, cr3, E8 F (by omega), nI_0]
  have tail : ∀ (ξ : zm_M) (L : zi_Lc), zi_get L 0 = some (.ref 1) → zi_get L 2 = some (.int (nI b)) → ∃ v, ze_G (D + 6) 4 (some .int) zc_X5_steps 109 L [] (zm_mk ξ) (some (.int v)) (zm_mk ξ) := by
    intro ξ L g0 g2
    by_cases c : (0 : Int32) ≤ ξ 33 b
    · refine ⟨ξ 33 b, 0, 10, fun F n hF => ?_⟩
      simp [zg_0, zg_aload_n, zg_bipush, zg_getfield, zg_goto, zg_iaload, zg_iastore, zg_iconst, zg_ifCond, zg_if_icmp, zg_iinc, zg_iload_n, zg_invokestatic, zg_invokevirtual, zg_ireturn, zg_istore_n, zg_ldc, zf_X5_steps, zi_ld, zi_lda, zi_cmp, zi_retOk, zi_isI, zi_f3, zi_cr, zi_ci, zi_cn, g0, g2, zd_g, zm_iald (k := 0) zd33_A ib, cb, c]
    · refine ⟨-1000000005, 0, 8, fun F n hF => ?_⟩
      simp [zg_0, zg_aload_n, zg_bipush, zg_getfield, zg_goto, zg_iaload, zg_iastore, zg_iconst, zg_ifCond, zg_if_icmp, zg_iinc, zg_iload_n, zg_invokestatic, zg_invokevirtual, zg_ireturn, zg_istore_n, zg_ldc, zf_X5_steps, zi_ld, zi_lda, zi_cmp, zi_retOk, zi_isI, zi_f3, zi_cr, zi_ci, zi_cn, g0, g2, zd_g, zm_iald (k := 0) zd33_A ib, cb, c, n5]
  have key : ∃ r h', ze_G (D + 6) 4 (some .int) zc_X5_steps 74 [(3, .int (nI 0)), (0, .ref 1), (1, .int (nI a)), (2, .int (nI b))] [] (zm_mk ν4) r h' ∧ ((∃ v, r = some (.int v)) ∧ ∃ ν, zm_mk ν = h' ∧ zJ_eqv μ ν) := by
    refine ze_loop (Q := fun i L hp => i ≤ 10 ∧ zi_nl L = true ∧ zi_get L 0 = some (.ref 1) ∧ zi_get L 2 = some (.int (nI b)) ∧ zi_get L 3 = some (.int (nI i)) ∧ ∃ ξ : zm_M, zm_mk ξ = hp ∧ (∃ l, zd_rch μ ξ l i) ∧ (True)) (R := fun r h' => (∃ v, r = some (.int v)) ∧ ∃ ν, zm_mk ν = h' ∧ zJ_eqv μ ν) 10 ?_ ?_ 10 0 _ _ (by omega) ⟨by omega, rfl, rfl, rfl, rfl, ν4, rfl, ⟨[a], hz0⟩, trivial⟩
    · rintro i L _ hi ⟨-, nl, g0, g2, g3, ξ, rfl, hZ, hq⟩
      obtain ⟨l, hZ⟩ := hZ
      have c1 : ¬ (10 : Int32) ≤ nI i := nI_ge (b := 10) hi (by decide)
      obtain ⟨M1, F1⟩ := ze_Row_sizeL (μ := ξ) (D + 5) zd34_at hZ.2.1
      have cr := zr_c (μ := ξ) zd34_at
      have hl10 := hZ.2.1.1
      by_cases c2 : i < l.length
      · have c2' : ¬ nI l.length ≤ nI i := nI_ge c2 (by omega)
        obtain ⟨M2, F2⟩ := ze_Row_getL (μ := ξ) (D + 5) zd34_at hZ.2.1 c2
        have hm := zl_mem c2
        generalize l.getD i 0 = k at F2 hm
        obtain ⟨ξ', l', ⟨M3, F3⟩, hZ', -⟩ := ze_reachFrom (ν := ξ) D h (B := i) (by omega) hm hZ
        left
        refine ⟨zi_set L 3 (.int (nI (i + 1))), zm_mk ξ', ⟨M1 + M2 + M3, 16, fun F m hF => ?_⟩, by omega, ?_, ?_, ?_, zi_get_set_eq, ξ', rfl, ⟨l', hZ'⟩, trivial⟩
        · simp (maxDischargeDepth := 9) [zg_0, zg_aload_n, zg_bipush, zg_getfield, zg_goto, zg_iaload, zg_iastore, zg_iconst, zg_ifCond, zg_if_icmp, zg_iinc, zg_iload_n, zg_invokestatic, zg_invokevirtual, zg_ireturn, zg_istore_n, zg_ldc, zf_X5_steps, zi_ld, zi_lda, zi_cmp, zi_retOk, zi_isI, zi_f3, zi_cr, zi_ci, zi_cn, zi_get_ne, zi_nl_i, zi_nl_r, zi_get_set_eq, nl, g0, g2, g3, h10, c1, zd_g, zq_Row_size, zq_Row_get, cr, F1 F (by omega), c2', F2 F (by omega), zq_Desk_reachFrom, zd_c, F3 F (by omega), nI_1]
        · simp (maxDischargeDepth := 9) [zi_get_ne, zi_nl_i, zi_nl_r, zi_get_set_eq, nl]
        · simp (maxDischargeDepth := 9) [zi_get_ne, zi_nl_i, zi_nl_r, zi_get_set_eq, nl, g0]
        · simp (maxDischargeDepth := 9) [zi_get_ne, zi_nl_i, zi_nl_r, zi_get_set_eq, nl, g2]
      · have c2' : nI l.length ≤ nI i := nI_le (by omega) (by omega)
        right
        obtain ⟨v, G⟩ := tail ξ L g0 g2
        refine ⟨some (.int v), zm_mk ξ, ze_S.end (p2 := 109) (L2 := L) (s2 := []) (h2 := zm_mk ξ) ⟨M1, 8, fun F m hF => ?_⟩ G, ⟨v, rfl⟩, ξ, rfl, hZ.1⟩
        simp [zg_0, zg_aload_n, zg_bipush, zg_getfield, zg_goto, zg_iaload, zg_iastore, zg_iconst, zg_ifCond, zg_if_icmp, zg_iinc, zg_iload_n, zg_invokestatic, zg_invokevirtual, zg_ireturn, zg_istore_n, zg_ldc, zf_X5_steps, zi_ld, zi_lda, zi_cmp, zi_retOk, zi_isI, zi_f3, zi_cr, zi_ci, zi_cn, g0, g3, h10, c1, zd_g, zq_Row_size, cr, F1 F (by omega), c2']
    · rintro L _ ⟨-, nl, g0, g2, g3, ξ, rfl, hZ, hq⟩
      obtain ⟨l, hZ⟩ := hZ
      have c1 : (10 : Int32) ≤ nI 10 := by decide
      obtain ⟨v, G⟩ := tail ξ L g0 g2
      refine ⟨some (.int v), zm_mk ξ, ze_S.end (p2 := 109) (L2 := L) (s2 := []) (h2 := zm_mk ξ) ⟨0, 3, fun F m hF => ?_⟩ G, ⟨v, rfl⟩, ξ, rfl, hZ.1⟩
      simp [zg_0, zg_aload_n, zg_bipush, zg_getfield, zg_goto, zg_iaload, zg_iastore, zg_iconst, zg_ifCond, zg_if_icmp, zg_iinc, zg_iload_n, zg_invokestatic, zg_invokevirtual, zg_ireturn, zg_istore_n, zg_ldc, zf_X5_steps, zi_ld, zi_lda, zi_cmp, zi_retOk, zi_isI, zi_f3, zi_cr, zi_ci, zi_cn, g0, g3, h10, c1]
  obtain ⟨r, h', G, ⟨v, rfl⟩, ν, rfl, hev⟩ := key
  exact ⟨ν, v, ze_in [(0, .ref 1), (1, .int (nI a)), (2, .int (nI b))] zq_Desk_steps (Nat.le_of_ble_eq_true rfl) rfl (S0.end G), hev⟩
end ZQ9
end
section
/-! the focus given to a window that has just come -/
section ZX1
variable {μ ν : zm_M} {row stk : List Nat} {Rs : Nat → List Nat} {ts : Nat → zy_F}
/-- all of zJ but the row -/
noncomputable def zJ0 (μ : zm_M) (stk : List Nat) (Rs : Nat → List Nat) (ts : Nat → zy_F) : Prop := zJ_stk μ stk ∧ zJ_win μ ∧ zJ_tr μ Rs ts ∧ zJ_kp μ Rs ts ∧ zJ_sz μ Rs ts
theorem zJ0_til (h : zJ0 μ stk Rs ts) {k : Nat} (hk : k < 10) (ht : zd_til μ k = true) : ∃ s, s < 3 ∧ μ (zdW k) 5 = nI s ∧ k ∈ Rs s ∧ ∃ n ∈ zy_lvs (ts s), μ (zdT s + 3) k = nI n := by
  obtain ⟨h1, h2⟩ := of_decide_eq_true ht
  obtain ⟨-, -, a3, -, -⟩ := h.2.1 k hk (decide_eq_true h1)
  obtain ⟨s, hs, e, -⟩ := a3 (by rw [h2]; decide)
  have hR := ((h.2.2.1 s hs).2.1 k).mpr ⟨hk, ht, e⟩
  exact ⟨s, hs, e, hR, (h.2.2.1 s hs).1.1.2.2.2.1 k hR⟩
theorem zJ0_shw (h : zJ0 μ stk Rs ts) {k : Nat} (hk : k < 10) : ∃ s, s < 3 ∧ (zd_til μ k = true → μ (zdW k) 5 = nI s ∧ zt_I μ (zdT s) (Rs s) (ts s) ∧ k ∈ Rs s) := by
  by_cases c : zd_til μ k = true
  · obtain ⟨s, hs, e, hR, -⟩ := zJ0_til h hk c
    exact ⟨s, hs, fun _ => ⟨e, (h.2.2.1 s hs).1.1, hR⟩⟩
  · exact ⟨0, by decide, fun q => absurd q c⟩
theorem ze_giveFocusX (D : Nat) (h : zJ0 μ stk Rs ts) {k : Nat} (hk : k < 10) (ht : zd_th μ k = true) (hrow : zr_L μ 3 row) (hrn : row.Nodup) (hrm : ∀ j ∈ row, j < 10 ∧ zd_th μ j = true) (hrc : ∀ j, j < 10 → zd_th μ j = true → j ∈ row ∨ j = k) : ∃ ν stk', ze_E (D + 15) A_Desk_giveFocus [.ref 1, .int (nI k)] (zm_mk μ) none (zm_mk ν) ∧ zJ ν (k :: row.erase k) stk' Rs ts ∧ zd_foc μ ν k := by
  obtain ⟨s, hs, hsc⟩ := zJ0_shw h hk
  have hs2 := h.1.2.2
  obtain ⟨ν, stk', E, r1, ⟨q1, q2, q3⟩, f, g⟩ := ze_giveFocus (μ := μ) D hk hs hrow hrn (fun j hj => (hrm j hj).1) h.1.1 h.1.2.1 hs2 hsc
  have huniq : ∀ q, q < 3 → zd_til μ k = true → μ (zdW k) 5 = nI q → q = s := fun q hq c e => (nI_eq (by omega) (by omega)).mp (e.symm.trans (hsc c).1)
  have hfoc : zd_foc μ ν k := by
    refine ⟨fun c b a1 a2 a3 a4 a5 => f c b a1 a2 a3 a4 (fun e => a5 ⟨e.1, s, hs, (hsc e.1).1, e.2⟩), fun c q hq e => ?_⟩
    rw [huniq q hq c e]
    exact g c
  refine ⟨ν, stk', E, ?_, hfoc⟩
  obtain ⟨h2, h3, h4, h5, h6⟩ := h
  have row : ∀ c, c ≠ 3 → c ≠ 4 → c ≠ 5 → c ≠ 6 → (∀ q, q < 3 → c ≠ zdT q + 12) → ν c = μ c := fun c a1 a2 a3 a4 a5 => funext fun b => f c b a1 a2 a3 a4 (fun e => a5 s hs e.2.1)
  have eW : ∀ j, ν (zdW j) = μ (zdW j) ∨ 10 ≤ j := fun j => by
    by_cases c : j < 10
    · exact Or.inl (row _ (by unfold zdW; omega) (by unfold zdW; omega) (by unfold zdW; omega) (by unfold zdW; omega) (fun q hq => by unfold zdW zdT; omega))
    · exact Or.inr (by omega)
  have eW' : ∀ j, j < 10 → ν (zdW j) = μ (zdW j) := fun j hj => (eW j).resolve_right (by omega)
  have eL : ∀ j, j < 10 → ν (zdW j + 1) = μ (zdW j + 1) := fun j hj => row _ (by unfold zdW; omega) (by unfold zdW; omega) (by unfold zdW; omega) (by unfold zdW; omega) (fun q hq => by unfold zdW zdT; omega)
  have eT : ∀ q, q < 3 → ∀ j, j < 19 → j ≠ 12 → j ≠ 8 → ν (zdT q + j) = μ (zdT q + j) := fun q hq j hj h12 _ => row _ (by unfold zdT; omega) (by unfold zdT; omega) (by unfold zdT; omega) (by unfold zdT; omega) (fun q' hq' => by unfold zdT; omega)
  have eV : ∀ q, q < 3 → ∀ j, j < 19 → ν (zdV q + j) = μ (zdV q + j) := fun q hq j hj => row _ (by unfold zdV; omega) (by unfold zdV; omega) (by unfold zdV; omega) (by unfold zdV; omega) (fun q' hq' => by unfold zdV zdT; omega)
  have eS : ∀ q, q < 3 → ν (zdS q) = μ (zdS q) ∧ ν (zdZ q) = μ (zdZ q) ∧ ν (zdK q) = μ (zdK q) ∧ ν (zdQ q) = μ (zdQ q) := fun q hq => ⟨row _ (by unfold zdS; omega) (by unfold zdS; omega) (by unfold zdS; omega) (by unfold zdS; omega) (fun q' hq' => by unfold zdS zdT; omega), row _ (by unfold zdZ; omega) (by unfold zdZ; omega) (by unfold zdZ; omega) (by unfold zdZ; omega) (fun q' hq' => by unfold zdZ zdT; omega), row _ (by unfold zdK; omega) (by unfold zdK; omega) (by unfold zdK; omega) (by unfold zdK; omega) (fun q' hq' => by unfold zdK zdT; omega), row _ (by unfold zdQ; omega) (by unfold zdQ; omega) (by unfold zdQ; omega) (by unfold zdQ; omega) (fun q' hq' => by unfold zdQ zdT; omega)⟩
  have th : ∀ j, j < 10 → zd_th ν j = zd_th μ j := fun j hj => by unfold zd_th; rw [eW' j hj]
  have til : ∀ j, j < 10 → zd_til ν j = zd_til μ j := fun j hj => by unfold zd_til; rw [eW' j hj]
  refine ⟨⟨r1, ?_, fun j => ?_⟩, ⟨q1, q2, fun j hj => (q3 j hj).elim (hs2 j) (fun q => q.1)⟩, fun j hj hjt => ?_, fun q hq => ?_, fun q hq => ?_, fun q hq hqt => ?_⟩
  · exact List.nodup_cons.mpr ⟨fun q => ((zl_er_mem hrn).mp q).1 rfl, hrn.erase k⟩
  · rw [List.mem_cons, zl_er_mem hrn]
    constructor
    · rintro (rfl | ⟨-, q⟩)
      · exact ⟨hk, by rw [th _ hk]; exact ht⟩
      · exact ⟨(hrm j q).1, by rw [th j (hrm j q).1]; exact (hrm j q).2⟩
    · rintro ⟨a, b⟩
      by_cases e : j = k
      · exact Or.inl e
      · exact Or.inr ⟨e, (hrc j a (by rw [← th j a]; exact b)).resolve_right e⟩
  · rw [th j hj] at hjt
    obtain ⟨a1, a2, a3, a4, a5⟩ := h3 j hj hjt
    rw [eW' j hj, eL j hj]
    refine ⟨a1, a2, fun q => ?_, fun q => ?_, a5⟩
    · obtain ⟨s', b1, b2, b3⟩ := a3 q
      exact ⟨s', b1, b2, by rw [(eS s' b1).1]; exact b3⟩
    · obtain ⟨o, b1, b2, b3, b4⟩ := a4 q
      exact ⟨o, b1, b2, b3, by rw [th o b1]; exact b4⟩
  · obtain ⟨a1, a2, a3⟩ := h4 q hq
    refine ⟨zt_C_sh a1 (eT q hq) (fun n hn => ?_), fun j => ?_, fun j hj => ?_⟩
    · obtain ⟨w, hw, e1, e2⟩ := a1.1.2.2.2.2.2 n hn
      by_cases c : zd_til μ k = true ∧ q = s ∧ μ (zdT s + 3) k = nI n
      · obtain ⟨c1, rfl, c3⟩ := c
        refine ⟨k, (hsc c1).2.2, c3, ?_⟩
        have := g c1
        have hn19 := a1.1.2.1.2.2.1 n (zt_I_lv a1.1 hn).2
        rw [c3, nI_clamp (by omega)] at this
        exact this
      · refine ⟨w, hw, e1, ?_⟩
        rw [f (zdT q + 12) n (by unfold zdT; omega) (by unfold zdT; omega) (by unfold zdT; omega) (by unfold zdT; omega) (fun e => c ⟨e.1, by have := e.2.1; unfold zdT at this; omega, e.2.2.symm⟩)]
        exact e2
    · rw [a2 j]
      constructor
      · rintro ⟨b1, b2⟩
        exact ⟨b1, by rw [til j b1, eW' j b1]; exact b2⟩
      · rintro ⟨b1, b2⟩
        exact ⟨b1, by rw [til j b1, eW' j b1] at b2; exact b2⟩
    · have hj10 := ((a2 j).mp hj).1
      rw [eT q hq 5 (by omega) (by omega) (by omega), eT q hq 6 (by omega) (by omega) (by omega), eL j hj10]
      exact a3 j hj
  · obtain ⟨a1, a2⟩ := h5 q hq
    refine ⟨zt_C_19 (eV q hq) a1, fun z => ?_⟩
    rw [(eS q hq).2.2.1] at z
    obtain ⟨b1, b2, b3⟩ := a2 z
    refine ⟨by rw [(eS q hq).1]; exact b1, fun j hj => ?_, fun j hj hz => ?_⟩
    · have hj10 := a1.1.1.2.2 j hj
      rw [eV q hq 5 (by omega), eV q hq 6 (by omega), eL j hj10, til j hj10]
      exact b2 j hj
    · rw [(eS q hq).2.2.2] at hz
      rw [th j hj, eW' j hj]
      exact b3 j hj hz
  · rw [(eS q hq).1] at hqt
    obtain ⟨a1, a2⟩ := h6 q hq hqt
    rw [(eS q hq).2.1]
    refine ⟨a1, ?_⟩
    unfold zt_fit at *
    rw [zt_lsz_sh (eT q hq) (by decide), zt_lsz_sh (eT q hq) (by decide), (eS q hq).2.1]
    exact a2
end ZX1
end
section
/-! a window comes: what holds then -/
section ZX2
variable {μ ν : zm_M} {row stk : List Nat} {Rs Rs' : Nat → List Nat} {ts ts' : Nat → zy_F}
theorem zJn_out {s c : Nat} (h : s < 3) (hc : c < 7 ∨ (∃ k, k < 10 ∧ (c = zdW k ∨ c = zdW k + 1)) ∨ (∃ q, q < 3 ∧ (c = zdS q ∨ c = zdZ q ∨ c = zdK q ∨ c = zdQ q ∨ ∃ j, j < 19 ∧ c = zdV q + j)) ∨ 231 ≤ c) : zt_out (zdT s) c := by
  unfold zt_out zdT
  rcases hc with h | ⟨k, hk, h | h⟩ | ⟨q, hq, h | h | h | h | ⟨j, hj, h⟩⟩ | h
  · omega
  · unfold zdW at h; omega
  · unfold zdW at h; omega
  · unfold zdS at h; omega
  · unfold zdZ at h; omega
  · unfold zdK at h; omega
  · unfold zdQ at h; omega
  · unfold zdV at h; omega
  · omega
theorem zJ0_come (h : zJ μ row stk Rs ts) {k : Nat} (hk : k < 10) (hnt : zd_th μ k = false) {kd o w v : Int32} (w2 : ν (zdW k) 2 = 1) (w3 : ν (zdW k) 3 = kd) (w4 : ν (zdW k) 4 = o) (l0 : ν (zdW k + 1) 0 = w) (l1 : ν (zdW k + 1) 1 = v)
    (f : ∀ c, ¬ zJ_irr c → c ≠ zdW k → c ≠ zdW k + 1 → (∀ q, q < 3 → zt_out (zdT q) c) → ν c = μ c)
    (hkd : kd = 1 ∨ kd = 2 ∨ kd = 3 ∨ kd = 4) (hsz : 1 ≤ w ∧ w ≤ 200 ∧ 1 ≤ v ∧ v ≤ 200) (hscr : ¬ kd = 4 → ∃ s, s < 3 ∧ ν (zdW k) 5 = nI s ∧ ¬ μ (zdS s) 3 = 0) (ho3 : kd = 3 → ∃ j, j < 10 ∧ o = nI j ∧ zd_th μ j = true) (ho : ¬ kd = 3 → o = -1)
    (hT : ∀ q, q < 3 → zt_C ν (zdT q) (Rs' q) (ts' q) ∧ (∀ j, j ∈ Rs' q ↔ (j ∈ Rs q ∨ (j = k ∧ kd = 1 ∧ ν (zdW k) 5 = nI q))) ∧ (∀ j ∈ Rs q, ν (zdT q + 5) j = μ (zdT q + 5) j ∧ ν (zdT q + 6) j = μ (zdT q + 6) j) ∧ (k ∈ Rs' q → ν (zdT q + 5) k = w ∧ ν (zdT q + 6) k = v))
    (hfit : ∀ q, q < 3 → ¬ μ (zdS q) 3 = 0 → zt_fit ν (zdT q) (zdZ q) (Rs' q) (ts' q) = true) (hRk : ∀ q, q < 3 → Rs' (3 + q) = Rs (3 + q) ∧ ts' (3 + q) = ts (3 + q)) : zJ0 ν stk Rs' ts' := by
  obtain ⟨h1, h2, h3, h4, h5, h6⟩ := h
  have eW : ∀ j, j < 10 → j ≠ k → ν (zdW j) = μ (zdW j) := fun j hj hne => f _ (zJn_W hj).1 (fun e => hne (zdW_inj e)) (by unfold zdW; omega) (fun q hq => zJn_out hq (Or.inr (Or.inl ⟨j, hj, Or.inl rfl⟩)))
  have eL : ∀ j, j < 10 → j ≠ k → ν (zdW j + 1) = μ (zdW j + 1) := fun j hj hne => f _ (zJn_W hj).2 (by unfold zdW; omega) (by unfold zdW; omega) (fun q hq => zJn_out hq (Or.inr (Or.inl ⟨j, hj, Or.inr rfl⟩)))
  have eS : ∀ q, q < 3 → ν (zdS q) = μ (zdS q) ∧ ν (zdZ q) = μ (zdZ q) ∧ ν (zdK q) = μ (zdK q) ∧ ν (zdQ q) = μ (zdQ q) := fun q hq => ⟨f _ (zJn_S hq).1 (by unfold zdS zdW; omega) (by unfold zdS zdW; omega) (fun q' hq' => zJn_out hq' (Or.inr (Or.inr (Or.inl ⟨q, hq, Or.inl rfl⟩)))), f _ (zJn_S hq).2.1 (by unfold zdZ zdW; omega) (by unfold zdZ zdW; omega) (fun q' hq' => zJn_out hq' (Or.inr (Or.inr (Or.inl ⟨q, hq, Or.inr (Or.inl rfl)⟩)))), f _ (zJn_S hq).2.2.1 (by unfold zdK zdW; omega) (by unfold zdK zdW; omega) (fun q' hq' => zJn_out hq' (Or.inr (Or.inr (Or.inl ⟨q, hq, Or.inr (Or.inr (Or.inl rfl))⟩)))), f _ (zJn_S hq).2.2.2 (by unfold zdQ zdW; omega) (by unfold zdQ zdW; omega) (fun q' hq' => zJn_out hq' (Or.inr (Or.inr (Or.inl ⟨q, hq, Or.inr (Or.inr (Or.inr (Or.inl rfl)))⟩))))⟩
  have eV : ∀ q, q < 3 → ∀ j, j < 19 → ν (zdV q + j) = μ (zdV q + j) := fun q hq j hj => f _ (zJn_T hq hj).2 (by unfold zdV zdW; omega) (by unfold zdV zdW; omega) (fun q' hq' => zJn_out hq' (Or.inr (Or.inr (Or.inl ⟨q, hq, Or.inr (Or.inr (Or.inr (Or.inr ⟨j, hj, rfl⟩)))⟩))))
  have e0 : ∀ c, c < 7 → ν c = μ c := fun c hc => f c (zJn_0 hc) (by unfold zdW; omega) (by unfold zdW; omega) (fun q hq => zJn_out hq (Or.inl hc))
  have th : ∀ j, j < 10 → j ≠ k → zd_th ν j = zd_th μ j := fun j hj hne => by unfold zd_th; rw [eW j hj hne]
  have til : ∀ j, j < 10 → j ≠ k → zd_til ν j = zd_til μ j := fun j hj hne => by unfold zd_til; rw [eW j hj hne]
  have thk : zd_th ν k = true := decide_eq_true (by rw [w2]; decide)
  have ne_of_th : ∀ j, zd_th μ j = true → j ≠ k := fun j q e => by rw [e, hnt] at q; cases q
  have ne_of_til : ∀ j, zd_til μ j = true → j ≠ k := fun j q => ne_of_th j (decide_eq_true (of_decide_eq_true q).1)
  have tilk : zd_til ν k = true ↔ kd = 1 := by
    unfold zd_til
    rw [decide_eq_true_iff, w2, w3]
    exact ⟨fun q => q.2, fun q => ⟨by decide, q⟩⟩
  refine ⟨⟨zr_L_congr (e0 _ (by decide)) (e0 _ (by decide)) h2.1, h2.2⟩, fun j hj ht => ?_, fun q hq => ?_, fun q hq => ?_, fun q hq ht => ?_⟩
  · by_cases e : j = k
    · subst e
      rw [w3, w4, l0, l1]
      refine ⟨hkd, hsz, fun q => ?_, fun q => ?_, ho⟩
      · obtain ⟨s, b1, b2, b3⟩ := hscr q
        exact ⟨s, b1, b2, by rw [(eS s b1).1]; exact b3⟩
      · obtain ⟨i, b1, b2, b3⟩ := ho3 q
        have := ne_of_th i b3
        exact ⟨i, b1, this, b2, by rw [th i b1 this]; exact b3⟩
    · rw [th j hj e] at ht
      obtain ⟨a1, a2, a3, a4, a5⟩ := h3 j hj ht
      rw [eW j hj e, eL j hj e]
      refine ⟨a1, a2, fun q => ?_, fun q => ?_, a5⟩
      · obtain ⟨s, b1, b2, b3⟩ := a3 q
        exact ⟨s, b1, b2, by rw [(eS s b1).1]; exact b3⟩
      · obtain ⟨i, b1, b2, b3, b4⟩ := a4 q
        exact ⟨i, b1, b2, b3, by rw [th i b1 (ne_of_th i b4)]; exact b4⟩
  · obtain ⟨t1, t2, t3, t4⟩ := hT q hq
    obtain ⟨a1, a2, a3⟩ := h4 q hq
    refine ⟨t1, fun j => ?_, fun j hj => ?_⟩
    · rw [t2 j]
      constructor
      · rintro (hj | ⟨rfl, b1, b2⟩)
        · obtain ⟨b1, b2, b3⟩ := (a2 j).mp hj
          have := ne_of_til j b2
          exact ⟨b1, by rw [til j b1 this]; exact b2, by rw [eW j b1 this]; exact b3⟩
        · exact ⟨hk, tilk.mpr b1, b2⟩
      · rintro ⟨b1, b2, b3⟩
        by_cases e : j = k
        · subst e
          exact Or.inr ⟨rfl, tilk.mp b2, b3⟩
        · rw [til j b1 e] at b2
          rw [eW j b1 e] at b3
          exact Or.inl ((a2 j).mpr ⟨b1, b2, b3⟩)
    · by_cases e : j = k
      · subst e
        rw [l0, l1]
        exact t4 hj
      · have hjR : j ∈ Rs q := ((t2 j).mp hj).resolve_right (fun q => e q.1)
        have hj10 := ((a2 j).mp hjR).1
        rw [(t3 j hjR).1, (t3 j hjR).2, eL j hj10 e]
        exact a3 j hjR
  · obtain ⟨a1, a2⟩ := h5 q hq
    rw [(hRk q hq).1, (hRk q hq).2]
    refine ⟨zt_C_19 (eV q hq) a1, fun z => ?_⟩
    rw [(eS q hq).2.2.1] at z
    obtain ⟨b1, b2, b3⟩ := a2 z
    refine ⟨by rw [(eS q hq).1]; exact b1, fun j hj => ?_, fun j hj hz => ?_⟩
    · have hj10 := a1.1.1.2.2 j hj
      have hne := ne_of_til j (b2 j hj).1
      rw [eV q hq 5 (by omega), eV q hq 6 (by omega), eL j hj10 hne, til j hj10 hne]
      exact b2 j hj
    · rw [(eS q hq).2.2.2] at hz
      have hne := ne_of_th j (b3 j hj hz).1
      rw [th j hj hne, eW j hj hne]
      exact b3 j hj hz
  · rw [(eS q hq).1] at ht
    obtain ⟨a1, -⟩ := h6 q hq ht
    rw [(eS q hq).2.1]
    exact ⟨a1, hfit q hq ht⟩
/-- a window that is not there is nothing -/
theorem zJ_free (h : zJ μ row stk Rs ts) {k : Nat} (hk : k < 10) (hnt : zd_th μ k = false) (w2 : ν (zdW k) 2 = μ (zdW k) 2) (f : ∀ c, ¬ zJ_irr c → c ≠ zdW k → c ≠ zdW k + 1 → ν c = μ c) : zJ ν row stk Rs ts := by
  obtain ⟨h1, h2, h3, h4, h5, h6⟩ := h
  have eW : ∀ j, j < 10 → j ≠ k → ν (zdW j) = μ (zdW j) := fun j hj hne => f _ (zJn_W hj).1 (fun e => hne (zdW_inj e)) (by unfold zdW; omega)
  have eL : ∀ j, j < 10 → j ≠ k → ν (zdW j + 1) = μ (zdW j + 1) := fun j hj hne => f _ (zJn_W hj).2 (by unfold zdW; omega) (by unfold zdW; omega)
  have eT : ∀ q, q < 3 → ∀ j, j < 19 → ν (zdT q + j) = μ (zdT q + j) := fun q hq j hj => f _ (zJn_T hq hj).1 (by unfold zdT zdW; omega) (by unfold zdT zdW; omega)
  have eV : ∀ q, q < 3 → ∀ j, j < 19 → ν (zdV q + j) = μ (zdV q + j) := fun q hq j hj => f _ (zJn_T hq hj).2 (by unfold zdV zdW; omega) (by unfold zdV zdW; omega)
  have eS : ∀ q, q < 3 → ν (zdS q) = μ (zdS q) ∧ ν (zdZ q) = μ (zdZ q) ∧ ν (zdK q) = μ (zdK q) ∧ ν (zdQ q) = μ (zdQ q) := fun q hq => ⟨f _ (zJn_S hq).1 (by unfold zdS zdW; omega) (by unfold zdS zdW; omega), f _ (zJn_S hq).2.1 (by unfold zdZ zdW; omega) (by unfold zdZ zdW; omega), f _ (zJn_S hq).2.2.1 (by unfold zdK zdW; omega) (by unfold zdK zdW; omega), f _ (zJn_S hq).2.2.2 (by unfold zdQ zdW; omega) (by unfold zdQ zdW; omega)⟩
  have e0 : ∀ c, c < 7 → ν c = μ c := fun c hc => f c (zJn_0 hc) (by unfold zdW; omega) (by unfold zdW; omega)
  have thk : zd_th ν k = false := by
    unfold zd_th at *
    rw [w2]
    exact hnt
  have th : ∀ j, j < 10 → zd_th ν j = zd_th μ j := fun j hj => by
    by_cases e : j = k
    · rw [e, thk, hnt]
    · unfold zd_th
      rw [eW j hj e]
  have ne_of_th : ∀ j, zd_th μ j = true → j ≠ k := fun j q e => by rw [e, hnt] at q; cases q
  have til : ∀ j, j < 10 → zd_til ν j = zd_til μ j := fun j hj => by
    by_cases e : j = k
    · have a1 : zd_til ν k = false := decide_eq_false (fun q => by
        have : zd_th ν k = true := decide_eq_true q.1
        rw [thk] at this
        cases this)
      have a2 : zd_til μ k = false := decide_eq_false (fun q => by
        have : zd_th μ k = true := decide_eq_true q.1
        rw [hnt] at this
        cases this)
      rw [e, a1, a2]
    · unfold zd_til
      rw [eW j hj e]
  have ne_of_til : ∀ j, zd_til μ j = true → j ≠ k := fun j q => ne_of_th j (decide_eq_true (of_decide_eq_true q).1)
  refine ⟨⟨zr_L_congr (e0 _ (by decide)) (e0 _ (by decide)) h1.1, h1.2.1, fun j => ?_⟩, ⟨zr_L_congr (e0 _ (by decide)) (e0 _ (by decide)) h2.1, h2.2⟩, fun j hj ht => ?_, fun q hq => ?_, fun q hq => ?_, fun q hq ht => ?_⟩
  · rw [h1.2.2 j]
    constructor
    · rintro ⟨a, b⟩
      exact ⟨a, by rw [th j a]; exact b⟩
    · rintro ⟨a, b⟩
      exact ⟨a, by rw [← th j a]; exact b⟩
  · rw [th j hj] at ht
    have e := ne_of_th j ht
    obtain ⟨a1, a2, a3, a4, a5⟩ := h3 j hj ht
    rw [eW j hj e, eL j hj e]
    refine ⟨a1, a2, fun q => ?_, fun q => ?_, a5⟩
    · obtain ⟨s, b1, b2, b3⟩ := a3 q
      exact ⟨s, b1, b2, by rw [(eS s b1).1]; exact b3⟩
    · obtain ⟨i, b1, b2, b3, b4⟩ := a4 q
      exact ⟨i, b1, b2, b3, by rw [th i b1]; exact b4⟩
  · obtain ⟨a1, a2, a3⟩ := h4 q hq
    refine ⟨zt_C_19 (eT q hq) a1, fun j => ?_, fun j hj => ?_⟩
    · rw [a2 j]
      constructor
      · rintro ⟨b1, b2, b3⟩
        have e := ne_of_til j b2
        exact ⟨b1, by rw [til j b1]; exact b2, by rw [eW j b1 e]; exact b3⟩
      · rintro ⟨b1, b2, b3⟩
        rw [til j b1] at b2
        have e := ne_of_til j b2
        rw [eW j b1 e] at b3
        exact ⟨b1, b2, b3⟩
    · obtain ⟨b1, b2, b3⟩ := (a2 j).mp hj
      rw [eT q hq 5 (by omega), eT q hq 6 (by omega), eL j b1 (ne_of_til j b2)]
      exact a3 j hj
  · obtain ⟨a1, a2⟩ := h5 q hq
    refine ⟨zt_C_19 (eV q hq) a1, fun z => ?_⟩
    rw [(eS q hq).2.2.1] at z
    obtain ⟨b1, b2, b3⟩ := a2 z
    refine ⟨by rw [(eS q hq).1]; exact b1, fun j hj => ?_, fun j hj hz => ?_⟩
    · have hj10 := a1.1.1.2.2 j hj
      rw [eV q hq 5 (by omega), eV q hq 6 (by omega), eL j hj10 (ne_of_til j (b2 j hj).1), til j hj10]
      exact b2 j hj
    · rw [(eS q hq).2.2.2] at hz
      have hne := ne_of_th j (b3 j hj hz).1
      rw [th j hj, eW j hj hne]
      exact b3 j hj hz
  · rw [(eS q hq).1] at ht
    obtain ⟨a1, a2⟩ := h6 q hq ht
    rw [(eS q hq).2.1]
    refine ⟨a1, ?_⟩
    unfold zt_fit at *
    rw [zt_lsz_19 (eT q hq) (by decide), zt_lsz_19 (eT q hq) (by decide), (eS q hq).2.1]
    exact a2
end ZX2
end
section
/-! the desk: open, up to the room -/
section ZO5
variable {μ ν : zm_M} {row stk : List Nat} {Rs : Nat → List Nat} {ts : Nat → zy_F}
theorem zd_lsb_or (x : Int32) : zd_lsb μ x = -1 ∨ ∃ s, s < 3 ∧ zd_lsb μ x = nI s ∧ ¬ nI s = x ∧ ¬ μ (zdS s) 3 = 0 := by
  rcases zl_fi_spec (fun s => decide (¬ nI s = x ∧ ¬ μ (zdS s) 3 = 0)) (-1) 3 0 with ⟨k, -, h2, h3, -, h5⟩ | ⟨-, h⟩
  · exact Or.inr ⟨k, by omega, h5, (of_decide_eq_true h3).1, (of_decide_eq_true h3).2⟩
  · exact Or.inl h
theorem zd_sah_or (hw : zJ_win μ) : ∀ row : List Nat, (∀ j ∈ row, j < 10 ∧ zd_th μ j = true) → zd_sah μ row = -1 ∨ ∃ s, s < 3 ∧ zd_sah μ row = nI s ∧ ¬ μ (zdS s) 3 = 0 := by
  intro row
  induction row with
  | nil =>
    intro _
    rcases zd_lsb_or (μ := μ) (-1) with h | ⟨s, h1, h2, -, h3⟩
    · exact Or.inl h
    · exact Or.inr ⟨s, h1, h2, h3⟩
  | cons k l ih =>
    intro h
    show (if zd_sti μ k = true then zd_sah μ l else μ (zdW k) 5) = -1 ∨ ∃ s, s < 3 ∧ (if zd_sti μ k = true then zd_sah μ l else μ (zdW k) 5) = nI s ∧ ¬ μ (zdS s) 3 = 0
    by_cases c : zd_sti μ k = true
    · rw [if_pos c]
      exact ih (fun j hj => h j (List.mem_cons_of_mem _ hj))
    · rw [if_neg c]
      obtain ⟨hk, ht⟩ := h k List.mem_cons_self
      obtain ⟨-, -, a3, -, -⟩ := hw k hk ht
      obtain ⟨s, b1, b2, b3⟩ := a3 (fun e => c (decide_eq_true ⟨of_decide_eq_true ht, e⟩))
      exact Or.inr ⟨s, b1, b2, b3⟩
theorem zd_lfn_or : (zd_lfn μ = -1 ∧ ∀ j, j < 10 → zd_th μ j = true) ∨ ∃ k, k < 10 ∧ zd_lfn μ = nI k ∧ zd_th μ k = false ∧ ∀ j, j < k → zd_th μ j = true := by
  rcases zl_fi_spec (fun k => decide (μ (zdW k) 2 = 0)) (-1) 10 0 with ⟨k, -, h2, h3, h4, h5⟩ | ⟨h1, h⟩
  · refine Or.inr ⟨k, by omega, h5, decide_eq_false (fun q => q (of_decide_eq_true h3)), fun j hj => ?_⟩
    have := h4 j (by omega) hj
    exact decide_eq_true (of_decide_eq_false this)
  · refine Or.inl ⟨h, fun j hj => ?_⟩
    have := h1 j (by omega) (by omega)
    exact decide_eq_true (of_decide_eq_false this)
/-- what open may be asked -/
noncomputable def zd_oarg (μ : zm_M) (kd w v o : Int32) : Prop := ((1 ≤ kd ∧ kd ≤ 4) ∧ (1 ≤ w ∧ w ≤ 200) ∧ 1 ≤ v ∧ v ≤ 200) ∧ (kd = 3 → ∃ j, j < 10 ∧ o = nI j ∧ zd_th μ j = true) ∧ (¬ kd = 3 → o = -1)
set_option maxRecDepth 100000 in
theorem ze_open_0 (D : Nat) (kd w v o : Int32) : (zd_oarg μ kd w v o ∧ ze_S (D + 1) 8 (some .int) zc_X5_open 0 [(0, .ref 1), (1, .int kd), (2, .int w), (3, .int v), (4, .int o)] [] (zm_mk μ) 59 [(5, .int 1), (0, .ref 1), (1, .int kd), (2, .int w), (3, .int v), (4, .int o)] [] (zm_mk μ)) ∨
    (¬ zd_oarg μ kd w v o ∧ ze_G (D + 1) 8 (some .int) zc_X5_open 0 [(0, .ref 1), (1, .int kd), (2, .int w), (3, .int v), (4, .int o)] [] (zm_mk μ) (some (.int (-1000000001))) (zm_mk μ)) := by
  have n4 : Int32.ofInt (-1000000001) = -1000000001 := by decide
  have S1 : ∃ b : Int32, ((b = 1 ∧ (kd = 3 → ∃ j, j < 10 ∧ o = nI j ∧ zd_th μ j = true) ∧ (¬ kd = 3 → o = -1)) ∨ (b = 0 ∧ ¬ ((kd = 3 → ∃ j, j < 10 ∧ o = nI j ∧ zd_th μ j = true) ∧ (¬ kd = 3 → o = -1)))) ∧
      ze_S (D + 1) 8 (some .int) zc_X5_open 0 [(0, .ref 1), (1, .int kd), (2, .int w), (3, .int v), (4, .int o)] [] (zm_mk μ) 27 [(5, .int b), (0, .ref 1), (1, .int kd), (2, .int w), (3, .int v), (4, .int o)] [] (zm_mk μ) := by
    by_cases c : kd = 3
    · have main : ∀ b : Int32, ze_E (D + 1) A_Desk_isWindow [.ref 1, .int o] (zm_mk μ) (some (.int b)) (zm_mk μ) → ze_S (D + 1) 8 (some .int) zc_X5_open 0 [(0, .ref 1), (1, .int kd), (2, .int w), (3, .int v), (4, .int o)] [] (zm_mk μ) 27 [(5, .int b), (0, .ref 1), (1, .int kd), (2, .int w), (3, .int v), (4, .int o)] [] (zm_mk μ) := by
        rintro b ⟨N1, E1⟩
        refine ⟨N1, 8, fun F n hF => ?_⟩
        simp [zg_0, zg_aaload, zg_aload_n, zg_getfield, zg_goto, zg_iconst, zg_ifCond, zg_if_icmp, zg_iload, zg_iload_n, zg_invokestatic, zg_invokevirtual, zg_ireturn, zg_istore, zg_ldc, zg_putfield, zf_X5_open, zi_ld, zi_lda, zi_cmp, zi_retOk, zi_isI, zi_f3, zi_cr, zi_ci, zi_cn, zi_get, zi_set, c, zq_Desk_isWindow, zd_c, E1 F (by omega)]
      rcases zd_rng o 10 (by decide) with ⟨j, hj, rfl⟩ | hout
      · have E := ze_thW (μ := μ) D hj
        by_cases c2 : zd_th μ j = true
        · rw [if_pos c2] at E
          exact ⟨1, Or.inl ⟨rfl, fun _ => ⟨j, hj, rfl, c2⟩, fun q => absurd c q⟩, main 1 E⟩
        · rw [if_neg c2] at E
          refine ⟨0, Or.inr ⟨rfl, fun q => ?_⟩, main 0 E⟩
          obtain ⟨j', h1, h2, h3⟩ := q.1 c
          rw [← (nI_eq (by omega) (by omega)).mp h2] at h3
          exact c2 h3
      · refine ⟨0, Or.inr ⟨rfl, fun q => ?_⟩, main 0 (ze_isWindow_out D hout)⟩
        obtain ⟨j', h1, h2, h3⟩ := q.1 c
        rw [h2] at hout
        exact hout.elim (nI_pos (by omega)) (nI_ge (b := 10) h1 (by decide))
    · by_cases c2 : o = -1
      · refine ⟨1, Or.inl ⟨rfl, fun q => absurd q c, fun _ => c2⟩, 0, 9, fun F n hF => ?_⟩
        simp [zg_0, zg_aaload, zg_aload_n, zg_getfield, zg_goto, zg_iconst, zg_ifCond, zg_if_icmp, zg_iload, zg_iload_n, zg_invokestatic, zg_invokevirtual, zg_ireturn, zg_istore, zg_ldc, zg_putfield, zf_X5_open, zi_ld, zi_lda, zi_cmp, zi_retOk, zi_isI, zi_f3, zi_cr, zi_ci, zi_cn, zi_get, zi_set, c, c2]
      · refine ⟨0, Or.inr ⟨rfl, fun q => c2 (q.2 c)⟩, 0, 8, fun F n hF => ?_⟩
        simp [zg_0, zg_aaload, zg_aload_n, zg_getfield, zg_goto, zg_iconst, zg_ifCond, zg_if_icmp, zg_iload, zg_iload_n, zg_invokestatic, zg_invokevirtual, zg_ireturn, zg_istore, zg_ldc, zg_putfield, zf_X5_open, zi_ld, zi_lda, zi_cmp, zi_retOk, zi_isI, zi_f3, zi_cr, zi_ci, zi_cn, zi_get, zi_set, c, c2]
  obtain ⟨b, hb, S1⟩ := S1
  have bad : (¬ zd_oarg μ kd w v o) → ze_G (D + 1) 8 (some .int) zc_X5_open 27 [(5, .int b), (0, .ref 1), (1, .int kd), (2, .int w), (3, .int v), (4, .int o)] [] (zm_mk μ) (some (.int (-1000000001))) (zm_mk μ) → (zd_oarg μ kd w v o ∧ ze_S (D + 1) 8 (some .int) zc_X5_open 0 [(0, .ref 1), (1, .int kd), (2, .int w), (3, .int v), (4, .int o)] [] (zm_mk μ) 59 [(5, .int 1), (0, .ref 1), (1, .int kd), (2, .int w), (3, .int v), (4, .int o)] [] (zm_mk μ)) ∨
    (¬ zd_oarg μ kd w v o ∧ ze_G (D + 1) 8 (some .int) zc_X5_open 0 [(0, .ref 1), (1, .int kd), (2, .int w), (3, .int v), (4, .int o)] [] (zm_mk μ) (some (.int (-1000000001))) (zm_mk μ)) := fun h g => Or.inr ⟨h, S1.end g⟩
  obtain ⟨N2, E2⟩ := ze_isWindowSize (h := zm_mk μ) D w
  obtain ⟨N3, E3⟩ := ze_isWindowSize (h := zm_mk μ) D v
  by_cases c1 : kd < 1
  · refine bad (fun q => Int32.not_le.mpr c1 q.1.1.1) ⟨0, 5, fun F n hF => ?_⟩
    simp [zg_0, zg_aaload, zg_aload_n, zg_getfield, zg_goto, zg_iconst, zg_ifCond, zg_if_icmp, zg_iload, zg_iload_n, zg_invokestatic, zg_invokevirtual, zg_ireturn, zg_istore, zg_ldc, zg_putfield, zf_X5_open, zi_ld, zi_lda, zi_cmp, zi_retOk, zi_isI, zi_f3, zi_cr, zi_ci, zi_cn, zi_get, zi_set, c1, n4]
  · have c1' : (1 : Int32) ≤ kd := Int32.not_lt.mp c1
    by_cases c2 : (4 : Int32) < kd
    · refine bad (fun q => Int32.not_le.mpr c2 q.1.1.2) ⟨0, 8, fun F n hF => ?_⟩
      simp [zg_0, zg_aaload, zg_aload_n, zg_getfield, zg_goto, zg_iconst, zg_ifCond, zg_if_icmp, zg_iload, zg_iload_n, zg_invokestatic, zg_invokevirtual, zg_ireturn, zg_istore, zg_ldc, zg_putfield, zf_X5_open, zi_ld, zi_lda, zi_cmp, zi_retOk, zi_isI, zi_f3, zi_cr, zi_ci, zi_cn, zi_get, zi_set, c1, c2, n4]
    · have c2' : kd ≤ (4 : Int32) := Int32.not_lt.mp c2
      by_cases c3 : 1 ≤ w ∧ w ≤ 200
      · have z2 : zb (1 ≤ w ∧ w ≤ 200) = 1 := if_pos c3
        rw [z2] at E2
        by_cases c4 : 1 ≤ v ∧ v ≤ 200
        · have z3 : zb (1 ≤ v ∧ v ≤ 200) = 1 := if_pos c4
          rw [z3] at E3
          rcases hb with ⟨rfl, hb⟩ | ⟨rfl, hb⟩
          · left
            refine ⟨⟨⟨⟨c1', c2'⟩, c3, c4⟩, hb⟩, S1.trans ⟨N2 + N3, 14, fun F n hF => ?_⟩⟩
            simp [zg_0, zg_aaload, zg_aload_n, zg_getfield, zg_goto, zg_iconst, zg_ifCond, zg_if_icmp, zg_iload, zg_iload_n, zg_invokestatic, zg_invokevirtual, zg_ireturn, zg_istore, zg_ldc, zg_putfield, zf_X5_open, zi_ld, zi_lda, zi_cmp, zi_retOk, zi_isI, zi_f3, zi_cr, zi_ci, zi_cn, zi_get, zi_set, c1, c2, zq_Desk_isWindowSize, E2 F (by omega), E3 F (by omega)]
          · refine bad (fun q => hb q.2) ⟨N2 + N3, 16, fun F n hF => ?_⟩
            simp [zg_0, zg_aaload, zg_aload_n, zg_getfield, zg_goto, zg_iconst, zg_ifCond, zg_if_icmp, zg_iload, zg_iload_n, zg_invokestatic, zg_invokevirtual, zg_ireturn, zg_istore, zg_ldc, zg_putfield, zf_X5_open, zi_ld, zi_lda, zi_cmp, zi_retOk, zi_isI, zi_f3, zi_cr, zi_ci, zi_cn, zi_get, zi_set, c1, c2, zq_Desk_isWindowSize, E2 F (by omega), E3 F (by omega), n4]
        · have z3 : zb (1 ≤ v ∧ v ≤ 200) = 0 := if_neg c4
          rw [z3] at E3
          refine bad (fun q => c4 q.1.2.2) ⟨N2 + N3, 14, fun F n hF => ?_⟩
          simp [zg_0, zg_aaload, zg_aload_n, zg_getfield, zg_goto, zg_iconst, zg_ifCond, zg_if_icmp, zg_iload, zg_iload_n, zg_invokestatic, zg_invokevirtual, zg_ireturn, zg_istore, zg_ldc, zg_putfield, zf_X5_open, zi_ld, zi_lda, zi_cmp, zi_retOk, zi_isI, zi_f3, zi_cr, zi_ci, zi_cn, zi_get, zi_set, c1, c2, zq_Desk_isWindowSize, E2 F (by omega), E3 F (by omega), n4]
      · have z2 : zb (1 ≤ w ∧ w ≤ 200) = 0 := if_neg c3
        rw [z2] at E2
        refine bad (fun q => c3 q.1.2.1) ⟨N2, 11, fun F n hF => ?_⟩
        simp [zg_0, zg_aaload, zg_aload_n, zg_getfield, zg_goto, zg_iconst, zg_ifCond, zg_if_icmp, zg_iload, zg_iload_n, zg_invokestatic, zg_invokevirtual, zg_ireturn, zg_istore, zg_ldc, zg_putfield, zf_X5_open, zi_ld, zi_lda, zi_cmp, zi_retOk, zi_isI, zi_f3, zi_cr, zi_ci, zi_cn, zi_get, zi_set, c1, c2, zq_Desk_isWindowSize, E2 F (by omega), n4]
/-- the screen that a new window comes to, if there is one -/
noncomputable def zd_osc (μ : zm_M) (row : List Nat) (kd o : Int32) : Int32 := if kd = 3 then (if zd_sti μ o.toNatClampNeg = true then -1 else μ (zdW o.toNatClampNeg) 5) else zd_sah μ row
set_option maxRecDepth 100000 in
theorem ze_open_1 (D : Nat) (h : zJ μ row stk Rs ts) {kd w v o : Int32} (ha : zd_oarg μ kd w v o) {L : zi_Lc} (nl : zi_nl L = true) (g0 : zi_get L 0 = some (.ref 1)) (g1 : zi_get L 1 = some (.int kd)) (g2 : zi_get L 2 = some (.int w)) (g3 : zi_get L 3 = some (.int v)) (g4 : zi_get L 4 = some (.int o)) :
    (((∀ j, j < 10 → zd_th μ j = true) ∨ zd_osc μ row kd o = -1) ∧ ∃ r, ze_G (D + 2) 8 (some .int) zc_X5_open 59 L [] (zm_mk μ) (some (.int r)) (zm_mk μ)) ∨
    ∃ k s L', k < 10 ∧ s < 3 ∧ zd_th μ k = false ∧ (∀ j, j < k → zd_th μ j = true) ∧ zd_osc μ row kd o = nI s ∧ ¬ μ (zdS s) 3 = 0 ∧ ze_S (D + 2) 8 (some .int) zc_X5_open 59 L [] (zm_mk μ) 126 L' [] (zm_mk μ) ∧ zi_nl L' = true ∧ zi_get L' 0 = some (.ref 1) ∧ zi_get L' 1 = some (.int kd) ∧ zi_get L' 2 = some (.int w) ∧ zi_get L' 3 = some (.int v) ∧ zi_get L' 4 = some (.int o) ∧ zi_get L' 6 = some (.int (nI k)) ∧ zi_get L' 7 = some (.int (nI s)) := by
  have n3 : Int32.ofInt (-1000000003) = -1000000003 := by decide
  have n2 : Int32.ofInt (-1000000002) = -1000000002 := by decide
  obtain ⟨N1, E1⟩ := ze_leastFreeNumber (μ := μ) (D + 1)
  have cm : ¬ (0 : Int32) ≤ -1 := by decide
  rcases zd_lfn_or (μ := μ) with ⟨e1, hall⟩ | ⟨k, hk, e1, hnt, hlt⟩
  · rw [e1] at E1
    left
    refine ⟨Or.inl hall, -1000000003, N1, 7, fun F n hF => ?_⟩
    simp (maxDischargeDepth := 9) [zg_0, zg_aaload, zg_aload_n, zg_getfield, zg_goto, zg_iconst, zg_ifCond, zg_if_icmp, zg_iload, zg_iload_n, zg_invokestatic, zg_invokevirtual, zg_ireturn, zg_istore, zg_ldc, zg_putfield, zf_X5_open, zi_ld, zi_lda, zi_cmp, zi_retOk, zi_isI, zi_f3, zi_cr, zi_ci, zi_cn, zi_get_ne, zi_nl_i, zi_nl_r, zi_get_set_eq, nl, g0, zq_Desk_leastFreeNumber, zd_c, E1 F (by omega), cm, n3]
  · rw [e1] at E1
    have ck : (0 : Int32) ≤ nI k := nI_pos' (by omega)
    by_cases c3 : kd = 3
    · obtain ⟨j, hj, rfl, hjt⟩ := ha.2.1 c3
      have cj : (nI j).toNatClampNeg = j := nI_clamp (by omega)
      have eo : zd_osc μ row kd (nI j) = if zd_sti μ j = true then -1 else μ (zdW j) 5 := by
        unfold zd_osc
        rw [if_pos c3, cj]
      obtain ⟨N2, E2⟩ := ze_stiW (μ := μ) (D + 1) hj
      have cw := zw_c (μ := μ) (zdW_at hj)
      by_cases c4 : zd_sti μ j = true
      · rw [if_pos c4] at E2 eo
        left
        refine ⟨Or.inr eo, -1000000002, N1 + N2, 16, fun F n hF => ?_⟩
        simp (maxDischargeDepth := 9) [zg_0, zg_aaload, zg_aload_n, zg_getfield, zg_goto, zg_iconst, zg_ifCond, zg_if_icmp, zg_iload, zg_iload_n, zg_invokestatic, zg_invokevirtual, zg_ireturn, zg_istore, zg_ldc, zg_putfield, zf_X5_open, zi_ld, zi_lda, zi_cmp, zi_retOk, zi_isI, zi_f3, zi_cr, zi_ci, zi_cn, zi_get_ne, zi_nl_i, zi_nl_r, zi_get_set_eq, nl, g0, g1, g4, zq_Desk_leastFreeNumber, zd_c, E1 F (by omega), ck, c3, zd_g, zd_w hj, zq_Win_isSticky, cw, E2 F (by omega), n2]
      · rw [if_neg c4] at E2 eo
        obtain ⟨-, -, a3, -, -⟩ := h.2.2.1 j hj hjt
        obtain ⟨s, hs, es, hst⟩ := a3 (fun e => c4 (decide_eq_true ⟨of_decide_eq_true hjt, e⟩))
        have cs : (0 : Int32) ≤ nI s := nI_pos' (by omega)
        right
        refine ⟨k, s, zi_set (zi_set L 6 (.int (nI k))) 7 (.int (nI s)), hk, hs, hnt, hlt, by rw [eo, es], hst, ⟨N1 + N2, 26, fun F n hF => ?_⟩, ?_, ?_, ?_, ?_, ?_, ?_, ?_, zi_get_set_eq⟩
        · simp (maxDischargeDepth := 9) [zg_0, zg_aaload, zg_aload_n, zg_getfield, zg_goto, zg_iconst, zg_ifCond, zg_if_icmp, zg_iload, zg_iload_n, zg_invokestatic, zg_invokevirtual, zg_ireturn, zg_istore, zg_ldc, zg_putfield, zf_X5_open, zi_ld, zi_lda, zi_cmp, zi_retOk, zi_isI, zi_f3, zi_cr, zi_ci, zi_cn, zi_get_ne, zi_nl_i, zi_nl_r, zi_get_set_eq, nl, g0, g1, g4, zq_Desk_leastFreeNumber, zd_c, E1 F (by omega), ck, c3, zd_g, zd_w hj, zq_Win_isSticky, cw, E2 F (by omega), zw_g (zdW_at hj), es, cs]
        · simp (maxDischargeDepth := 9) [zi_get_ne, zi_nl_i, zi_nl_r, zi_get_set_eq, nl]
        · simp (maxDischargeDepth := 9) [zi_get_ne, zi_nl_i, zi_nl_r, zi_get_set_eq, nl, g0]
        · simp (maxDischargeDepth := 9) [zi_get_ne, zi_nl_i, zi_nl_r, zi_get_set_eq, nl, g1]
        · simp (maxDischargeDepth := 9) [zi_get_ne, zi_nl_i, zi_nl_r, zi_get_set_eq, nl, g2]
        · simp (maxDischargeDepth := 9) [zi_get_ne, zi_nl_i, zi_nl_r, zi_get_set_eq, nl, g3]
        · simp (maxDischargeDepth := 9) [zi_get_ne, zi_nl_i, zi_nl_r, zi_get_set_eq, nl, g4]
        · simp (maxDischargeDepth := 9) [zi_get_ne, zi_nl_i, zi_nl_r, zi_get_set_eq, nl]
    · have eo : zd_osc μ row kd o = zd_sah μ row := by
        unfold zd_osc
        rw [if_neg c3]
      obtain ⟨N2, E2⟩ := ze_screenAtHand (μ := μ) D h.1.1 (fun j hj => ((h.1.2.2 j).mp hj).1)
      rcases zd_sah_or h.2.2.1 row (fun j hj => (h.1.2.2 j).mp hj) with e2 | ⟨s, hs, e2, hst⟩
      · rw [e2] at E2
        left
        refine ⟨Or.inr (eo.trans e2), -1000000002, N1 + N2, 18, fun F n hF => ?_⟩
        simp (maxDischargeDepth := 9) [zg_0, zg_aaload, zg_aload_n, zg_getfield, zg_goto, zg_iconst, zg_ifCond, zg_if_icmp, zg_iload, zg_iload_n, zg_invokestatic, zg_invokevirtual, zg_ireturn, zg_istore, zg_ldc, zg_putfield, zf_X5_open, zi_ld, zi_lda, zi_cmp, zi_retOk, zi_isI, zi_f3, zi_cr, zi_ci, zi_cn, zi_get_ne, zi_nl_i, zi_nl_r, zi_get_set_eq, nl, g0, g1, zq_Desk_leastFreeNumber, zd_c, E1 F (by omega), ck, c3, zq_Desk_screenAtHand, E2 F (by omega), cm, n2]
      · rw [e2] at E2
        have cs : (0 : Int32) ≤ nI s := nI_pos' (by omega)
        right
        refine ⟨k, s, zi_set (zi_set L 6 (.int (nI k))) 7 (.int (nI s)), hk, hs, hnt, hlt, eo.trans e2, hst, ⟨N1 + N2, 16, fun F n hF => ?_⟩, ?_, ?_, ?_, ?_, ?_, ?_, ?_, zi_get_set_eq⟩
        · simp (maxDischargeDepth := 9) [zg_0, zg_aaload, zg_aload_n, zg_getfield, zg_goto, zg_iconst, zg_ifCond, zg_if_icmp, zg_iload, zg_iload_n, zg_invokestatic, zg_invokevirtual, zg_ireturn, zg_istore, zg_ldc, zg_putfield, zf_X5_open, zi_ld, zi_lda, zi_cmp, zi_retOk, zi_isI, zi_f3, zi_cr, zi_ci, zi_cn, zi_get_ne, zi_nl_i, zi_nl_r, zi_get_set_eq, nl, g0, g1, zq_Desk_leastFreeNumber, zd_c, E1 F (by omega), ck, c3, zq_Desk_screenAtHand, E2 F (by omega), cs]
        · simp (maxDischargeDepth := 9) [zi_get_ne, zi_nl_i, zi_nl_r, zi_get_set_eq, nl]
        · simp (maxDischargeDepth := 9) [zi_get_ne, zi_nl_i, zi_nl_r, zi_get_set_eq, nl, g0]
        · simp (maxDischargeDepth := 9) [zi_get_ne, zi_nl_i, zi_nl_r, zi_get_set_eq, nl, g1]
        · simp (maxDischargeDepth := 9) [zi_get_ne, zi_nl_i, zi_nl_r, zi_get_set_eq, nl, g2]
        · simp (maxDischargeDepth := 9) [zi_get_ne, zi_nl_i, zi_nl_r, zi_get_set_eq, nl, g3]
        · simp (maxDischargeDepth := 9) [zi_get_ne, zi_nl_i, zi_nl_r, zi_get_set_eq, nl, g4]
        · simp (maxDischargeDepth := 9) [zi_get_ne, zi_nl_i, zi_nl_r, zi_get_set_eq, nl]
end ZO5
end
section
/-! the desk: open -/
section ZO6
variable {μ ν : zm_M} {row stk : List Nat} {Rs : Nat → List Nat} {ts : Nat → zy_F}
theorem zt_I_nil {T : Nat} {R : List Nat} (h : zt_I μ T R .nil) : R = [] := by
  cases R with
  | nil => rfl
  | cons k l =>
    obtain ⟨n, hn, -⟩ := h.2.2.2.1 k List.mem_cons_self
    cases hn
/-- the new window's number is prepared; the trees are laid -/
noncomputable def zd_prep (μ ξ : zm_M) (Rs : Nat → List Nat) (ts : Nat → zy_F) (k : Nat) (kd w v o : Int32) : Prop :=
  (∀ c, ¬ zJ_irr c → c ≠ zdW k → c ≠ zdW k + 1 → ξ c = μ c) ∧ ξ (zdW k) 2 = μ (zdW k) 2 ∧ ξ (zdW k) 3 = kd ∧ ξ (zdW k) 4 = o ∧ ξ (zdW k + 1) 0 = w ∧ ξ (zdW k + 1) 1 = v ∧ ∀ q, q < 3 → zd_laid ξ q (Rs q) (ts q)
/-- the window k has come to the screen s -/
noncomputable def zd_came (μ ν : zm_M) (k s : Nat) (kd w v o : Int32) : Prop :=
  (∀ c, ¬ zJ_irr c → c ≠ zdW k → c ≠ zdW k + 1 → (kd = 1 → zt_out (zdT s) c) → ν c = μ c) ∧ ν (zdW k) 2 = 1 ∧ ν (zdW k) 3 = kd ∧ ν (zdW k) 4 = o ∧ (¬ kd = 4 → ν (zdW k) 5 = nI s) ∧ ν (zdW k + 1) 0 = w ∧ ν (zdW k + 1) 1 = v
noncomputable def zd_upd {α : Type} (f : Nat → α) (s : Nat) (x : α) : Nat → α := fun q => if q = s then x else f q
/-- what tile did for the window k on the screen s: the tabs and nodes R', t' then -/
noncomputable def zd_tld (ξ ν : zm_M) (s k : Nat) (row : List Nat) (R : List Nat) (t : zy_F) (b : Int32) (R' : List Nat) (t' : zy_F) : Prop :=
  (t = .nil ∧ zd_tiled0 ξ ν s k b ∧ (b = 1 → ∃ n, R' = [k] ∧ t' = .tag n .nil ∧ zt_isNew ξ (zdT s) k (ξ (zdW k + 1) 0) (ξ (zdW k + 1) 1) ν (zdT s) n)) ∨
  (∃ n, n ∈ zy_lvs t ∧ zd_lah ξ (zdT s) t row = nI n ∧ zd_tiledN ξ ν s k n R t b ∧ (b = 1 → R' = R ++ [k] ∧ ((∃ a c f, a < 2 ∧ t' = zy_cut n c f t ∧ zt_isCut ξ (zdT s) R t n k a false (ξ (zdW k + 1) 0) (ξ (zdW k + 1) 1) ν (zdT s) c f) ∨ (t' = t ∧ zt_isTab ξ (zdT s) R t n k (ξ (zdW k + 1) 0) (ξ (zdW k + 1) 1) ν (zdT s)))))
noncomputable def zd_opn (μ ν : zm_M) (row row' : List Nat) (Rs Rs' : Nat → List Nat) (ts ts' : Nat → zy_F) (kd w v o : Int32) : Prop :=
  ((¬ zd_oarg μ kd w v o ∨ (∀ j, j < 10 → zd_th μ j = true) ∨ zd_osc μ row kd o = -1) ∧ ν = μ ∧ row' = row ∧ Rs' = Rs ∧ ts' = ts) ∨
  (zd_oarg μ kd w v o ∧ ∃ k s ξ, k < 10 ∧ s < 3 ∧ zd_th μ k = false ∧ (∀ j, j < k → zd_th μ j = true) ∧ zd_osc μ row kd o = nI s ∧ ¬ μ (zdS s) 3 = 0 ∧ zd_prep μ ξ Rs ts k kd w v o ∧
    ((((kd = 1 ∧ ∃ ν3, zd_tld ξ ν3 s k row (Rs s) (ts s) 0 (Rs s) (ts s)) ∨ (¬ kd = 1 ∧ ¬ kd = 4 ∧ zd_whole ξ (zdZ s) k = false)) ∧ (∀ c, ¬ zJ_irr c → c ≠ zdW k → c ≠ zdW k + 1 → ν c = μ c) ∧ ν (zdW k) 2 = μ (zdW k) 2 ∧ row' = row ∧ Rs' = Rs ∧ ts' = ts) ∨
     (((kd = 1 ∧ ∃ ν3 ν4 R' t', zd_tld ξ ν3 s k row (Rs s) (ts s) 1 R' t' ∧ Rs' = zd_upd Rs s R' ∧ ts' = zd_upd ts s t' ∧ zd_came μ ν4 k s kd w v o ∧ (∀ j, ν4 (zdT s + j) = ν3 (zdT s + j)) ∧ zd_foc ν4 ν k) ∨
       (¬ kd = 1 ∧ (kd = 4 ∨ zd_whole ξ (zdZ s) k = true) ∧ Rs' = Rs ∧ ts' = ts ∧ ∃ ν4, zd_came μ ν4 k s kd w v o ∧ zd_foc ν4 ν k)) ∧ row' = k :: row)))
set_option maxRecDepth 100000 in
theorem ze_open_2 (D : Nat) {ν2 ν3 : zm_M} {kd w v o : Int32} {k s : Nat} {L : zi_Lc} (nl : zi_nl L = true) (g0 : zi_get L 0 = some (.ref 1)) (g6 : zi_get L 6 = some (.int (nI k))) (g7 : zi_get L 7 = some (.int (nI s))) (E : ze_E D A_Desk_findRoom [.ref 1, .int (nI k), .int (nI s)] (zm_mk ν2) (some (.int 0)) (zm_mk ν3)) :
    ze_G D 8 (some .int) zc_X5_open 145 L [] (zm_mk ν2) (some (.int (-1000000002))) (zm_mk ν3) := by
  have n2 : Int32.ofInt (-1000000002) = -1000000002 := by decide
  obtain ⟨N1, E1⟩ := E
  refine ⟨N1, 7, fun F n hF => ?_⟩
  simp (maxDischargeDepth := 9) [zg_0, zg_aaload, zg_aload_n, zg_getfield, zg_goto, zg_iconst, zg_ifCond, zg_if_icmp, zg_iload, zg_iload_n, zg_invokestatic, zg_invokevirtual, zg_ireturn, zg_istore, zg_ldc, zg_putfield, zf_X5_open, zi_ld, zi_lda, zi_cmp, zi_retOk, zi_isI, zi_f3, zi_cr, zi_ci, zi_cn, zi_get_ne, zi_nl_i, zi_nl_r, zi_get_set_eq, nl, g0, g6, g7, zq_Desk_findRoom, zd_c, E1 F (by omega), n2]
set_option maxRecDepth 100000 in
theorem ze_open_3 (D : Nat) {ν2 ν3 ν5 : zm_M} {k s : Nat} (hk : k < 10) {L : zi_Lc} (nl : zi_nl L = true) (g0 : zi_get L 0 = some (.ref 1)) (g6 : zi_get L 6 = some (.int (nI k))) (g7 : zi_get L 7 = some (.int (nI s))) (E : ze_E D A_Desk_findRoom [.ref 1, .int (nI k), .int (nI s)] (zm_mk ν2) (some (.int 1)) (zm_mk ν3)) (E' : ze_E D A_Desk_giveFocus [.ref 1, .int (nI k)] (zm_mk (zm_up ν3 (zdW k) 2 1)) none (zm_mk ν5)) :
    ze_G D 8 (some .int) zc_X5_open 145 L [] (zm_mk ν2) (some (.int (nI k))) (zm_mk ν5) := by
  obtain ⟨N1, E1⟩ := E
  obtain ⟨N2, E2⟩ := E'
  refine ⟨N1 + N2, 16, fun F n hF => ?_⟩
  simp (maxDischargeDepth := 9) [zg_0, zg_aaload, zg_aload_n, zg_getfield, zg_goto, zg_iconst, zg_ifCond, zg_if_icmp, zg_iload, zg_iload_n, zg_invokestatic, zg_invokevirtual, zg_ireturn, zg_istore, zg_ldc, zg_putfield, zf_X5_open, zi_ld, zi_lda, zi_cmp, zi_retOk, zi_isI, zi_f3, zi_cr, zi_ci, zi_cn, zi_get_ne, zi_nl_i, zi_nl_r, zi_get_set_eq, nl, g0, g6, g7, zq_Desk_findRoom, zd_c, E1 F (by omega), zd_g, zd_w hk, zw_p2 (zdW_at hk) (Or.inr rfl), zq_Desk_giveFocus, E2 F (by omega)]
/-- after a window has come, and the focus is its own -/
theorem ze_open_4 (D : Nat) (h : zJ μ row stk Rs ts) {Rs' : Nat → List Nat} {ts' : Nat → zy_F} {kd w v o : Int32} {k s : Nat} (hk : k < 10) (hs : s < 3) (hnt : zd_th μ k = false) {ν4 : zm_M} (hc : zd_came μ ν4 k s kd w v o) (h0 : zJ0 ν4 stk Rs' ts') : ∃ ν5 stk', ze_E (D + 15) A_Desk_giveFocus [.ref 1, .int (nI k)] (zm_mk ν4) none (zm_mk ν5) ∧ zJ ν5 (k :: row) stk' Rs' ts' ∧ zd_foc ν4 ν5 k := by
  obtain ⟨f, w2, -⟩ := hc
  have hkr : k ∉ row := fun q => by rw [((h.1.2.2 k).mp q).2] at hnt; cases hnt
  have e0 : ∀ c, c < 7 → ν4 c = μ c := fun c hc => f c (zJn_0 hc) (by unfold zdW; omega) (by unfold zdW; omega) (fun _ => zJn_out hs (Or.inl hc))
  have th : ∀ j, j < 10 → j ≠ k → zd_th ν4 j = zd_th μ j := fun j hj hne => by
    unfold zd_th
    rw [f _ (zJn_W hj).1 (fun e => hne (zdW_inj e)) (by unfold zdW; omega) (fun _ => zJn_out hs (Or.inr (Or.inl ⟨j, hj, Or.inl rfl⟩)))]
  have thk : zd_th ν4 k = true := decide_eq_true (by rw [w2]; decide)
  have := ze_giveFocusX (row := row) D h0 hk thk (zr_L_congr (e0 _ (by decide)) (e0 _ (by decide)) h.1.1) h.1.2.1 (fun j hj => by
    obtain ⟨a, b⟩ := (h.1.2.2 j).mp hj
    exact ⟨a, by rw [th j a (fun e => hkr (e ▸ hj))]; exact b⟩) (fun j hj ht => by
    by_cases e : j = k
    · exact Or.inr e
    · rw [th j hj e] at ht
      exact Or.inl ((h.1.2.2 j).mpr ⟨hj, ht⟩))
  rw [List.erase_of_not_mem hkr] at this
  exact this
end ZO6
end
section
/-! the desk: open, whole -/
section ZO7
variable {μ ν : zm_M} {row stk : List Nat} {Rs : Nat → List Nat} {ts : Nat → zy_F}
theorem zt_fit_copy {A B : zm_M} {T V z : Nat} {R : List Nat} {t : zy_F} (h : zt_isCopy A T B V) (hz : B z = A z) : zt_fit B V z R t = zt_fit A T z R t := by
  unfold zt_fit
  rw [zt_lsz_copy h (by decide), zt_lsz_copy h (by decide), hz]
theorem zt_isNew_cp {ξ A B : zm_M} {Q k n T V : Nat} {x y : Int32} (h : zt_isNew ξ Q k x y A T n) (g : zt_isNew ξ Q k x y B V n) : zt_isCopy A T B V := by
  obtain ⟨-, -, h3, h5, h6, h7, h8, h12⟩ := h
  obtain ⟨-, -, g3, g5, g6, g7, g8, g12⟩ := g
  exact ⟨funext fun v => (g3 v).trans (h3 v).symm, funext fun v => (g5 v).trans (h5 v).symm, funext fun v => (g6 v).trans (h6 v).symm, funext fun v => (g7 v).trans (h7 v).symm, g8.trans h8.symm, funext fun v => (g12 v).trans (h12 v).symm⟩
theorem zt_isCut_cp {ξ A B : zm_M} {Q n k a c f T V : Nat} {nf : Bool} {R : List Nat} {t : zy_F} {x y : Int32} (h : zt_isCut ξ Q R t n k a nf x y A T c f) (g : zt_isCut ξ Q R t n k a nf x y B V c f) : zt_isCopy A T B V := by
  obtain ⟨-, -, h3, h5, h6, h7, h8, h12⟩ := h
  obtain ⟨-, -, g3, g5, g6, g7, g8, g12⟩ := g
  exact ⟨funext fun v => (g3 v).trans (h3 v).symm, funext fun v => (g5 v).trans (h5 v).symm, funext fun v => (g6 v).trans (h6 v).symm, funext fun v => (g7 v).trans (h7 v).symm, funext fun v => (g8 v).trans (h8 v).symm, funext fun v => (g12 v).trans (h12 v).symm⟩
theorem zt_isTab_cp {ξ A B : zm_M} {Q n k T V : Nat} {R : List Nat} {t : zy_F} {x y : Int32} (h : zt_isTab ξ Q R t n k x y A T) (g : zt_isTab ξ Q R t n k x y B V) : zt_isCopy A T B V := by
  obtain ⟨-, h3, h5, h6, h7, h8, h12⟩ := h
  obtain ⟨-, g3, g5, g6, g7, g8, g12⟩ := g
  exact ⟨funext fun v => (g3 v).trans (h3 v).symm, funext fun v => (g5 v).trans (h5 v).symm, funext fun v => (g6 v).trans (h6 v).symm, g7.trans h7.symm, g8.trans h8.symm, g12.trans h12.symm⟩
theorem zJn_7 {c : Nat} (h : ¬ zJ_irr c) : zt_out 7 c := by
  unfold zJ_irr at h
  unfold zt_out
  omega
/-- a tiled window has come to the screen s -/
theorem zJ0_tiled (h : zJ μ row stk Rs ts) {k s : Nat} (hk : k < 10) (hs : s < 3) (hnt : zd_th μ k = false) (hst : ¬ μ (zdS s) 3 = 0) {w v : Int32} (hsz : 1 ≤ w ∧ w ≤ 200 ∧ 1 ≤ v ∧ v ≤ 200) {ξ ν3 : zm_M} (f : ∀ c, ¬ zJ_irr c → c ≠ zdW k → c ≠ zdW k + 1 → ξ c = μ c) (w3 : ξ (zdW k) 3 = 1) (w4 : ξ (zdW k) 4 = -1) (w5 : ξ (zdW k) 5 = nI s) (l0 : ξ (zdW k + 1) 0 = w) (l1 : ξ (zdW k + 1) 1 = v)
    (fr : ∀ c, zt_out 7 c → zt_out (zdT s) c → ν3 c = ξ c) {R' : List Nat} {t' : zy_F} (hC : zt_C ν3 (zdT s) R' t') (hR : ∀ j, j ∈ R' ↔ (j ∈ Rs s ∨ j = k)) (h5 : ∀ j ∈ Rs s, ν3 (zdT s + 5) j = ξ (zdT s + 5) j ∧ ν3 (zdT s + 6) j = ξ (zdT s + 6) j) (hk5 : ν3 (zdT s + 5) k = w ∧ ν3 (zdT s + 6) k = v) (hfit : zt_fit ν3 (zdT s) (zdZ s) R' t' = true) :
    zJ0 (zm_up ν3 (zdW k) 2 1) stk (zd_upd Rs s R') (zd_upd ts s t') ∧ zd_came μ (zm_up ν3 (zdW k) 2 1) k s 1 w v (-1) ∧ ∀ j, zm_up ν3 (zdW k) 2 1 (zdT s + j) = ν3 (zdT s + j) := by
  have oW : zt_out 7 (zdW k) ∧ zt_out (zdT s) (zdW k) ∧ zt_out 7 (zdW k + 1) ∧ zt_out (zdT s) (zdW k + 1) := by
    unfold zt_out zdW zdT
    omega
  have u : ∀ c, c ≠ zdW k → zm_up ν3 (zdW k) 2 1 c = ν3 c := fun c hc => zm_up_row hc
  have u3 : ∀ b, b ≠ 2 → zm_up ν3 (zdW k) 2 1 (zdW k) b = ξ (zdW k) b := fun b hb => by
    rw [zm_up_ne (fun e => hb e.2), fr _ oW.1 oW.2.1]
  have u1 : zm_up ν3 (zdW k) 2 1 (zdW k + 1) = ξ (zdW k + 1) := by rw [u _ (by omega), fr _ oW.2.2.1 oW.2.2.2]
  have uT : ∀ q, q < 3 → ∀ j, zm_up ν3 (zdW k) 2 1 (zdT q + j) = ν3 (zdT q + j) := fun q hq j => u _ (by unfold zdT zdW; omega)
  have ff : ∀ c, ¬ zJ_irr c → c ≠ zdW k → c ≠ zdW k + 1 → zt_out (zdT s) c → zm_up ν3 (zdW k) 2 1 c = μ c := fun c a1 a2 a3 a4 => by
    rw [u c a2, fr c (zJn_7 a1) a4]
    exact f c a1 a2 a3
  have hcame : zd_came μ (zm_up ν3 (zdW k) 2 1) k s 1 w v (-1) := ⟨fun c a1 a2 a3 a4 => ff c a1 a2 a3 (a4 rfl), zm_up_eq, by rw [u3 3 (by decide)]; exact w3, by rw [u3 4 (by decide)]; exact w4, fun _ => by rw [u3 5 (by decide)]; exact w5, by rw [u1]; exact l0, by rw [u1]; exact l1⟩
  refine ⟨?_, hcame, uT s hs⟩
  obtain ⟨c1, c2, c3, c4, c5, c6, c7⟩ := hcame
  refine zJ0_come (Rs' := zd_upd Rs s R') (ts' := zd_upd ts s t') h hk hnt c2 c3 c4 c6 c7 (fun c a1 a2 a3 a4 => ff c a1 a2 a3 (a4 s hs)) (Or.inl rfl) hsz (fun _ => ⟨s, hs, c5 (by decide), hst⟩) (fun e => absurd e (by decide)) (fun _ => rfl) (fun q hq => ?_) (fun q hq hqt => ?_) (fun q hq => ?_)
  · by_cases e : q = s
    · subst e
      unfold zd_upd
      rw [if_pos rfl, if_pos rfl]
      refine ⟨zt_C_congr (fun c h1 h2 => u c (by unfold zdT at h1; unfold zdW; omega)) hC, fun j => ?_, fun j hj => ?_, fun _ => ?_⟩
      · rw [hR j]
        exact ⟨fun q => q.imp id (fun e => ⟨e, rfl, c5 (by decide)⟩), fun q => q.imp id (fun e => e.1)⟩
      · rw [uT q hq, uT q hq, (h5 j hj).1, (h5 j hj).2, f (zdT q + 5) (zJn_T hq (by decide)).1 (by unfold zdT zdW; omega) (by unfold zdT zdW; omega), f (zdT q + 6) (zJn_T hq (by decide)).1 (by unfold zdT zdW; omega) (by unfold zdT zdW; omega)]
        exact ⟨rfl, rfl⟩
      · rw [uT q hq, uT q hq]
        exact hk5
    · unfold zd_upd
      rw [if_neg e, if_neg e]
      have ro : ∀ j, j < 19 → zm_up ν3 (zdW k) 2 1 (zdT q + j) = μ (zdT q + j) := fun j hj => ff _ (zJn_T hq hj).1 (by unfold zdT zdW; omega) (by unfold zdT zdW; omega) (by unfold zt_out zdT; omega)
      refine ⟨zt_C_19 ro (h.2.2.2.1 q hq).1, fun j => ?_, fun j hj => ?_, fun hj => ?_⟩
      · refine ⟨Or.inl, fun z => z.elim id (fun z => absurd ((nI_eq (by omega) (by omega)).mp (z.2.2.symm.trans (c5 (by decide)))) e)⟩
      · rw [ro 5 (by omega), ro 6 (by omega)]
        exact ⟨rfl, rfl⟩
      · have := ((h.2.2.2.1 q hq).2.1 k).mp hj
        have : zd_th μ k = true := decide_eq_true (of_decide_eq_true this.2.1).1
        rw [hnt] at this
        cases this
  · by_cases e : q = s
    · subst e
      unfold zd_upd
      rw [if_pos rfl, if_pos rfl, zt_fit_copy (A := ν3) (T := zdT q) ⟨uT q hq _, uT q hq _, uT q hq _, uT q hq _, uT q hq _, uT q hq _⟩ (u _ (by unfold zdZ zdW; omega))]
      exact hfit
    · unfold zd_upd
      rw [if_neg e, if_neg e]
      have ro : ∀ j, j < 19 → zm_up ν3 (zdW k) 2 1 (zdT q + j) = μ (zdT q + j) := fun j hj => ff _ (zJn_T hq hj).1 (by unfold zdT zdW; omega) (by unfold zdT zdW; omega) (by unfold zt_out zdT; omega)
      rw [zt_fit_copy (A := μ) (T := zdT q) ⟨ro _ (by omega), ro _ (by omega), ro _ (by omega), ro _ (by omega), ro _ (by omega), ro _ (by omega)⟩ (ff _ (zJn_S hq).2.1 (by unfold zdZ zdW; omega) (by unfold zdZ zdW; omega) (zJn_out hs (Or.inr (Or.inr (Or.inl ⟨q, hq, Or.inr (Or.inl rfl)⟩)))))]
      exact (h.2.2.2.2.2 q hq hqt).2
  · unfold zd_upd
    rw [if_neg (by omega), if_neg (by omega)]
    exact ⟨rfl, rfl⟩
/-- one that is not tiled has come -/
theorem zJ0_other (h : zJ μ row stk Rs ts) {k s : Nat} (hk : k < 10) (hs : s < 3) (hnt : zd_th μ k = false) (hst : ¬ μ (zdS s) 3 = 0) {kd w v o : Int32} (hkd : kd = 2 ∨ kd = 3 ∨ kd = 4) (hsz : 1 ≤ w ∧ w ≤ 200 ∧ 1 ≤ v ∧ v ≤ 200) (ho3 : kd = 3 → ∃ j, j < 10 ∧ o = nI j ∧ zd_th μ j = true) (ho : ¬ kd = 3 → o = -1) {ν4 : zm_M} (hc : zd_came μ ν4 k s kd w v o) : zJ0 ν4 stk Rs ts := by
  obtain ⟨c1, c2, c3, c4, c5, c6, c7⟩ := hc
  have h1 : ¬ kd = 1 := by rcases hkd with e | e | e <;> rw [e] <;> decide
  have ff : ∀ c, ¬ zJ_irr c → c ≠ zdW k → c ≠ zdW k + 1 → ν4 c = μ c := fun c a1 a2 a3 => c1 c a1 a2 a3 (fun e => absurd e h1)
  refine zJ0_come (Rs' := Rs) (ts' := ts) h hk hnt c2 c3 c4 c6 c7 (fun c a1 a2 a3 _ => ff c a1 a2 a3) (Or.inr hkd) hsz (fun q => ⟨s, hs, c5 q, hst⟩) ho3 ho (fun q hq => ?_) (fun q hq hqt => ?_) (fun q hq => ⟨rfl, rfl⟩)
  · have ro : ∀ j, j < 19 → ν4 (zdT q + j) = μ (zdT q + j) := fun j hj => ff _ (zJn_T hq hj).1 (by unfold zdT zdW; omega) (by unfold zdT zdW; omega)
    refine ⟨zt_C_19 ro (h.2.2.2.1 q hq).1, fun j => ⟨Or.inl, fun z => z.elim id (fun z => absurd z.2.1 h1)⟩, fun j hj => ?_, fun hj => ?_⟩
    · rw [ro 5 (by omega), ro 6 (by omega)]
      exact ⟨rfl, rfl⟩
    · have := ((h.2.2.2.1 q hq).2.1 k).mp hj
      have : zd_th μ k = true := decide_eq_true (of_decide_eq_true this.2.1).1
      rw [hnt] at this
      cases this
  · have ro : ∀ j, j < 19 → ν4 (zdT q + j) = μ (zdT q + j) := fun j hj => ff _ (zJn_T hq hj).1 (by unfold zdT zdW; omega) (by unfold zdT zdW; omega)
    rw [zt_fit_copy (A := μ) (T := zdT q) ⟨ro _ (by omega), ro _ (by omega), ro _ (by omega), ro _ (by omega), ro _ (by omega), ro _ (by omega)⟩ (ff _ (zJn_S hq).2.1 (by unfold zdZ zdW; omega) (by unfold zdZ zdW; omega))]
    exact (h.2.2.2.2.2 q hq hqt).2
end ZO7
end
section
/-! the desk: open, run -/
section ZO8
variable {μ ν : zm_M} {row stk : List Nat} {Rs : Nat → List Nat} {ts : Nat → zy_F}
set_option maxRecDepth 100000 in
theorem ze_open (D : Nat) (h : zJ μ row stk Rs ts) (kd w v o : Int32) : ∃ ν r row' stk' Rs' ts', ze_E (D + 16) A_Desk_open [.ref 1, .int kd, .int w, .int v, .int o] (zm_mk μ) (some (.int r)) (zm_mk ν) ∧ zJ ν row' stk' Rs' ts' ∧ zd_opn μ ν row row' Rs Rs' ts ts' kd w v o := by
  rcases ze_open_0 (μ := μ) (D + 14) kd w v o with ⟨ha, S0⟩ | ⟨hna, G⟩
  rotate_left
  · exact ⟨μ, _, row, stk, Rs, ts, ze_in [(0, .ref 1), (1, .int kd), (2, .int w), (3, .int v), (4, .int o)] zq_Desk_open (Nat.le_of_ble_eq_true rfl) rfl G, h, Or.inl ⟨Or.inl hna, rfl, rfl, rfl, rfl⟩⟩
  rcases ze_open_1 (D + 13) h ha (L := [(5, .int 1), (0, .ref 1), (1, .int kd), (2, .int w), (3, .int v), (4, .int o)]) rfl rfl rfl rfl rfl rfl with ⟨hc, r, G⟩ | ⟨k, s, L, hk, hs, hnt, hlt, eo, hst, S1, nl, g0, g1, g2, g3, g4, g6, g7⟩
  · exact ⟨μ, r, row, stk, Rs, ts, ze_in [(0, .ref 1), (1, .int kd), (2, .int w), (3, .int v), (4, .int o)] zq_Desk_open (Nat.le_of_ble_eq_true rfl) rfl (S0.end G), h, Or.inl ⟨Or.inr hc, rfl, rfl, rfl, rfl⟩⟩
  obtain ⟨ν1, ⟨N1, E1⟩, f1, hlaid⟩ := ze_layTrees (μ := μ) (D + 9) (fun s hs => (h.2.2.2.1 s hs).1)
  have ev1 := zd_frA_eqv f1
  obtain ⟨N2, E2⟩ := ze_prepare (μ := ν1) (D + 14) (zdW_at hk) kd w v o
  have p2 : ∀ c, c ≠ zdW k → c ≠ zdW k + 1 → zm_up (zm_up (zm_up (zm_up (zm_up ν1 (zdW k) 3 kd) (zdW k + 1) 0 w) (zdW k + 1) 1 v) (zdW k) 4 o) (zdW k) 5 (-1) c = ν1 c := fun c a1 a2 => by
    rw [zm_up_row a1, zm_up_row a1, zm_up_row a2, zm_up_row a2, zm_up_row a1]
  have q2 : zm_up (zm_up (zm_up (zm_up (zm_up ν1 (zdW k) 3 kd) (zdW k + 1) 0 w) (zdW k + 1) 1 v) (zdW k) 4 o) (zdW k) 5 (-1) (zdW k) 2 = ν1 (zdW k) 2 := by
    rw [zm_up_ne (by omega), zm_up_ne (by omega), zm_up_ne (by omega), zm_up_ne (by omega), zm_up_ne (by omega)]
  have q3 : zm_up (zm_up (zm_up (zm_up (zm_up ν1 (zdW k) 3 kd) (zdW k + 1) 0 w) (zdW k + 1) 1 v) (zdW k) 4 o) (zdW k) 5 (-1) (zdW k) 3 = kd := by
    rw [zm_up_ne (by omega), zm_up_ne (by omega), zm_up_ne (by omega), zm_up_ne (by omega), zm_up_eq]
  have q4 : zm_up (zm_up (zm_up (zm_up (zm_up ν1 (zdW k) 3 kd) (zdW k + 1) 0 w) (zdW k + 1) 1 v) (zdW k) 4 o) (zdW k) 5 (-1) (zdW k) 4 = o := by
    rw [zm_up_ne (by omega), zm_up_eq]
  have r0 : zm_up (zm_up (zm_up (zm_up (zm_up ν1 (zdW k) 3 kd) (zdW k + 1) 0 w) (zdW k + 1) 1 v) (zdW k) 4 o) (zdW k) 5 (-1) (zdW k + 1) 0 = w := by
    rw [zm_up_ne (by omega), zm_up_ne (by omega), zm_up_ne (by omega), zm_up_eq]
  have r1 : zm_up (zm_up (zm_up (zm_up (zm_up ν1 (zdW k) 3 kd) (zdW k + 1) 0 w) (zdW k + 1) 1 v) (zdW k) 4 o) (zdW k) 5 (-1) (zdW k + 1) 1 = v := by
    rw [zm_up_ne (by omega), zm_up_ne (by omega), zm_up_eq]
  have S2 : ze_S (D + 15) 8 (some .int) zc_X5_open 126 L [] (zm_mk μ) 145 L [] (zm_mk (zm_up (zm_up (zm_up (zm_up (zm_up ν1 (zdW k) 3 kd) (zdW k + 1) 0 w) (zdW k + 1) 1 v) (zdW k) 4 o) (zdW k) 5 (-1))) := by
    have cw := zw_c (μ := ν1) (zdW_at hk)
    refine ⟨N1 + N2, 11, fun F n hF => ?_⟩
    simp (maxDischargeDepth := 9) [zg_0, zg_aaload, zg_aload_n, zg_getfield, zg_goto, zg_iconst, zg_ifCond, zg_if_icmp, zg_iload, zg_iload_n, zg_invokestatic, zg_invokevirtual, zg_ireturn, zg_istore, zg_ldc, zg_putfield, zf_X5_open, zi_ld, zi_lda, zi_cmp, zi_retOk, zi_isI, zi_f3, zi_cr, zi_ci, zi_cn, zi_get_ne, zi_nl_i, zi_nl_r, zi_get_set_eq, nl, g0, g1, g2, g3, g4, g6, zq_Desk_layTrees, zd_c, E1 F (by omega), zd_g, zd_w hk, zq_Win_prepare, cw, E2 F (by omega)]
  generalize zm_up (zm_up (zm_up (zm_up (zm_up ν1 (zdW k) 3 kd) (zdW k + 1) 0 w) (zdW k + 1) 1 v) (zdW k) 4 o) (zdW k) 5 (-1) = ν2 at p2 q2 q3 q4 r0 r1 S2
  clear E1 E2
  have f2 : ∀ c, ¬ zJ_irr c → c ≠ zdW k → c ≠ zdW k + 1 → ν2 c = μ c := fun c a1 a2 a3 => (p2 c a2 a3).trans (ev1 c a1)
  have w22 : ν2 (zdW k) 2 = μ (zdW k) 2 := by rw [q2, ev1 _ (zJn_W hk).1]
  have SS := (S0.trans S1).trans S2
  have laid_of : ∀ ξ : zm_M, (∀ c, c ≠ zdW k → c ≠ zdW k + 1 → ξ c = ν1 c) → ∀ q, q < 3 → zd_laid ξ q (Rs q) (ts q) := by
    intro ξ hξ q hq
    have := hlaid q hq
    have rT : ∀ j, ξ (zdT q + j) = ν1 (zdT q + j) := fun j => hξ _ (by unfold zdT zdW; omega) (by unfold zdT zdW; omega)
    have rZ : ξ (zdZ q) = ν1 (zdZ q) := hξ _ (by unfold zdZ zdW; omega) (by unfold zdZ zdW; omega)
    unfold zd_laid at *
    have eP : zt_P ξ (zdT q) = zt_P ν1 (zdT q) := by
      funext n x y a b
      unfold zt_P
      rw [rT, rT, rT, rT]
    rw [eP, rT, rT, rT, rT, rT, rZ]
    exact this
  have hsz : 1 ≤ w ∧ w ≤ 200 ∧ 1 ≤ v ∧ v ≤ 200 := ⟨ha.1.2.1.1, ha.1.2.1.2, ha.1.2.2⟩
  by_cases c1 : kd = 1
  · subst c1
    have ho : o = -1 := ha.2.2 (by decide)
    let ξ := zm_up ν2 (zdW k) 5 (nI s)
    have fξ : ∀ c, ¬ zJ_irr c → c ≠ zdW k → c ≠ zdW k + 1 → ξ c = μ c := fun c a1 a2 a3 => (zm_up_row a2).trans (f2 c a1 a2 a3)
    have ξ2 : ξ (zdW k) 2 = μ (zdW k) 2 := (zm_up_ne (by omega)).trans w22
    have ξ3 : ξ (zdW k) 3 = 1 := (zm_up_ne (by omega)).trans q3
    have ξ4 : ξ (zdW k) 4 = o := (zm_up_ne (by omega)).trans q4
    have ξ5 : ξ (zdW k) 5 = nI s := zm_up_eq
    have ξL : ξ (zdW k + 1) = ν2 (zdW k + 1) := zm_up_row (by omega)
    have hprep : zd_prep μ ξ Rs ts k 1 w v o := ⟨fξ, ξ2, ξ3, ξ4, by rw [ξL]; exact r0, by rw [ξL]; exact r1, laid_of ξ (fun c a1 a2 => (zm_up_row a1).trans (p2 c a1 a2))⟩
    have hJ : zJ ξ row stk Rs ts := zJ_free h hk hnt ξ2 fξ
    have hC := (hJ.2.2.2.1 s hs).1
    have hkR : k ∉ Rs s := fun q => by
      have := ((h.2.2.2.1 s hs).2.1 k).mp q
      have : zd_th μ k = true := decide_eq_true (of_decide_eq_true this.2.1).1
      rw [hnt] at this
      cases this
    have hrb : ∀ j ∈ row, j < 10 := fun j hj => ((h.1.2.2 j).mp hj).1
    have refuse : ∀ ν3 : zm_M, (∀ c, zt_out 7 c → ν3 c = ξ c) → ze_E (D + 15) A_Desk_findRoom [.ref 1, .int (nI k), .int (nI s)] (zm_mk ν2) (some (.int 0)) (zm_mk ν3) → zd_tld ξ ν3 s k row (Rs s) (ts s) 0 (Rs s) (ts s) → ∃ ν r row' stk' Rs' ts', ze_E (D + 16) A_Desk_open [.ref 1, .int 1, .int w, .int v, .int o] (zm_mk μ) (some (.int r)) (zm_mk ν) ∧ zJ ν row' stk' Rs' ts' ∧ zd_opn μ ν row row' Rs Rs' ts ts' 1 w v o := by
      intro ν3 fr E hT
      have f3 : ∀ c, ¬ zJ_irr c → c ≠ zdW k → c ≠ zdW k + 1 → ν3 c = μ c := fun c a1 a2 a3 => (fr c (zJn_7 a1)).trans (fξ c a1 a2 a3)
      have w3 : ν3 (zdW k) 2 = μ (zdW k) 2 := by rw [fr _ (by unfold zt_out zdW; omega)]; exact ξ2
      exact ⟨ν3, _, row, stk, Rs, ts, ze_in [(0, .ref 1), (1, .int 1), (2, .int w), (3, .int v), (4, .int o)] zq_Desk_open (Nat.le_of_ble_eq_true rfl) rfl (SS.end (ze_open_2 (kd := 1) (w := w) (v := v) (o := o) (D + 15) nl g0 g6 g7 E)), zJ_free h hk hnt w3 f3, Or.inr ⟨ha, k, s, ξ, hk, hs, hnt, hlt, eo, hst, hprep, Or.inl ⟨Or.inl ⟨rfl, ν3, hT⟩, f3, w3, rfl, rfl, rfl⟩⟩⟩
    have accept : ∀ (ν3 : zm_M) (R' : List Nat) (t' : zy_F), (∀ c, zt_out 7 c → zt_out (zdT s) c → ν3 c = ξ c) → ze_E (D + 15) A_Desk_findRoom [.ref 1, .int (nI k), .int (nI s)] (zm_mk ν2) (some (.int 1)) (zm_mk ν3) → zd_tld ξ ν3 s k row (Rs s) (ts s) 1 R' t' → zt_C ν3 (zdT s) R' t' → (∀ j, j ∈ R' ↔ (j ∈ Rs s ∨ j = k)) → (∀ u, ν3 (zdT s + 5) u = if u = k then ξ (zdW k + 1) 0 else ξ (zdT s + 5) u) → (∀ u, ν3 (zdT s + 6) u = if u = k then ξ (zdW k + 1) 1 else ξ (zdT s + 6) u) → zt_fit ν3 (zdT s) (zdZ s) R' t' = true → ∃ ν r row' stk' Rs' ts', ze_E (D + 16) A_Desk_open [.ref 1, .int 1, .int w, .int v, .int o] (zm_mk μ) (some (.int r)) (zm_mk ν) ∧ zJ ν row' stk' Rs' ts' ∧ zd_opn μ ν row row' Rs Rs' ts ts' 1 w v o := by
      intro ν3 R' t' fr E hT hC' hR' h5 h6 hfit
      obtain ⟨h0, hcame, hrows⟩ := zJ0_tiled h hk hs hnt hst hsz fξ ξ3 (ξ4.trans ho) ξ5 (by rw [ξL]; exact r0) (by rw [ξL]; exact r1) fr hC' hR' (fun j hj => ⟨by rw [h5, if_neg (fun (e : j = k) => hkR (e ▸ hj))], by rw [h6, if_neg (fun (e : j = k) => hkR (e ▸ hj))]⟩) ⟨by rw [h5, if_pos rfl, ξL]; exact r0, by rw [h6, if_pos rfl, ξL]; exact r1⟩ hfit
      obtain ⟨ν5, stk', E5, hJ5, hf5⟩ := ze_open_4 D h hk hs hnt hcame h0
      rw [← ho] at hcame
      exact ⟨ν5, _, k :: row, stk', zd_upd Rs s R', zd_upd ts s t', ze_in [(0, .ref 1), (1, .int 1), (2, .int w), (3, .int v), (4, .int o)] zq_Desk_open (Nat.le_of_ble_eq_true rfl) rfl (SS.end (ze_open_3 (D + 15) hk nl g0 g6 g7 E E5)), hJ5, Or.inr ⟨ha, k, s, ξ, hk, hs, hnt, hlt, eo, hst, hprep, Or.inr ⟨Or.inl ⟨rfl, ν3, _, R', t', hT, rfl, rfl, hcame, hrows, hf5⟩, rfl⟩⟩⟩
    rcases zd_lah_or hC.1 row hrb with ⟨et, -⟩ | ⟨n, hn, elah⟩
    · have hRn : Rs s = [] := zt_I_nil (μ := ξ) (T := zdT s) (by rw [← et]; exact hC.1)
      have hC0 : zt_C ξ (zdT s) [] .nil := by
        rw [← et, ← hRn]
        exact hC
      obtain ⟨ν3, b, E3, hT0, fr⟩ := ze_tile0 (μ := ξ) (D + 8) hk hs hJ.1.1 hrb hC0
      obtain ⟨ξ7, n, f7, hN, hcase⟩ := id hT0
      rcases hcase with ⟨hfit, rfl, hN'⟩ | ⟨hfit, rfl, fr'⟩
      · refine accept ν3 [k] (.tag n .nil) fr (ze_findRoom_1 (D + 14) hk hs q3 (Or.inr rfl) E3) (Or.inl ⟨et, hT0, fun _ => ⟨n, rfl, rfl, hN'⟩⟩) hN'.1 (fun j => ?_) hN'.2.2.2.1 hN'.2.2.2.2.1 ?_
        · rw [hRn]
          simp
        · rw [zt_fit_copy (A := ξ7) (T := 7) (zt_isNew_cp hN hN') (by rw [fr _ (by unfold zt_out zdZ; omega) (by unfold zt_out zdZ zdT; omega), f7 _ (by unfold zt_out zdZ; omega)])]
          exact hfit
      · exact refuse ν3 fr' (ze_findRoom_1 (D + 14) hk hs q3 (Or.inl rfl) E3) (Or.inl ⟨et, hT0, fun e => absurd e (by decide)⟩)
    · obtain ⟨ν3, b, E3, hTN, fr⟩ := ze_tileN (μ := ξ) (D + 8) hk hs hJ.1.1 hrb hC hkR hn elah
      have hz : ∀ ξ7 : zm_M, zt_frT 7 ξ ξ7 → ν3 (zdZ s) = ξ7 (zdZ s) := fun ξ7 f7 => by rw [fr _ (by unfold zt_out zdZ; omega) (by unfold zt_out zdZ zdT; omega), f7 _ (by unfold zt_out zdZ; omega)]
      have hmem : ∀ j, j ∈ Rs s ++ [k] ↔ (j ∈ Rs s ∨ j = k) := fun j => by simp
      obtain ⟨ξ1, c1, d1, g1', hK1, hcase⟩ := id hTN
      obtain ⟨a, ha2, ea⟩ : ∃ a, a < 2 ∧ (if ξ (zdT s + 23) n ≤ ξ (zdT s + 22) n then 0 else 1) = a := ⟨_, by split <;> omega, rfl⟩
      rw [ea] at hK1 hcase
      rcases hcase with ⟨hfit, rfl, hK'⟩ | ⟨hfit, ξ2', c2, d2, g2', hK2, hcase⟩
      · refine accept ν3 (Rs s ++ [k]) (zy_cut n c1 d1 (ts s)) fr (ze_findRoom_1 (D + 14) hk hs q3 (Or.inr rfl) E3) (Or.inr ⟨n, hn, elah, hTN, fun _ => ⟨rfl, Or.inl ⟨a, c1, d1, ha2, rfl, hK'⟩⟩⟩) hK'.1 hmem hK'.2.2.2.1 hK'.2.2.2.2.1 ?_
        rw [zt_fit_copy (A := ξ1) (T := 7) (zt_isCut_cp hK1 hK') (hz ξ1 g1')]
        exact hfit
      · rcases hcase with ⟨hfit2, rfl, hK'⟩ | ⟨hfit2, ξ3', g3', hK3, hcase⟩
        · refine accept ν3 (Rs s ++ [k]) (zy_cut n c2 d2 (ts s)) fr (ze_findRoom_1 (D + 14) hk hs q3 (Or.inr rfl) E3) (Or.inr ⟨n, hn, elah, hTN, fun _ => ⟨rfl, Or.inl ⟨1 - a, c2, d2, by omega, rfl, hK'⟩⟩⟩) hK'.1 hmem hK'.2.2.2.1 hK'.2.2.2.2.1 ?_
          rw [zt_fit_copy (A := ξ2') (T := 7) (zt_isCut_cp hK2 hK') (hz ξ2' g2')]
          exact hfit2
        · rcases hcase with ⟨hfit3, rfl, hK'⟩ | ⟨hfit3, rfl, fr'⟩
          · refine accept ν3 (Rs s ++ [k]) (ts s) fr (ze_findRoom_1 (D + 14) hk hs q3 (Or.inr rfl) E3) (Or.inr ⟨n, hn, elah, hTN, fun _ => ⟨rfl, Or.inr ⟨rfl, hK'⟩⟩⟩) hK'.1 hmem hK'.2.2.1 hK'.2.2.2.1 ?_
            rw [zt_fit_copy (A := ξ3') (T := 7) (zt_isTab_cp hK3 hK') (hz ξ3' g3')]
            exact hfit3
          · exact refuse ν3 fr' (ze_findRoom_1 (D + 14) hk hs q3 (Or.inl rfl) E3) (Or.inr ⟨n, hn, elah, hTN, fun e => absurd e (by decide)⟩)
  · have hkd : kd = 2 ∨ kd = 3 ∨ kd = 4 := by
      obtain ⟨⟨a1, a2⟩, -⟩ := ha.1
      have b1 := Int32.le_iff_toInt_le.mp a1
      have b2 := Int32.le_iff_toInt_le.mp a2
      rw [show (1 : Int32).toInt = 1 by decide] at b1
      rw [show (4 : Int32).toInt = 4 by decide] at b2
      have b3 : kd.toInt ≠ 1 := fun e => c1 (Int32.toInt_inj.mp (by rw [e]; decide))
      rcases (by omega : kd.toInt = 2 ∨ kd.toInt = 3 ∨ kd.toInt = 4) with e | e | e
      · exact Or.inl (Int32.toInt_inj.mp (by rw [e]; decide))
      · exact Or.inr (Or.inl (Int32.toInt_inj.mp (by rw [e]; decide)))
      · exact Or.inr (Or.inr (Int32.toInt_inj.mp (by rw [e]; decide)))
    have hprep : zd_prep μ ν2 Rs ts k kd w v o := ⟨f2, w22, q3, q4, r0, r1, laid_of ν2 p2⟩
    have accept : ∀ ν3 : zm_M, (∀ c b, ¬ (c = zdW k ∧ b = 5) → c ≠ zdW k + 2 → ν3 c b = ν2 c b) → (¬ kd = 4 → ν3 (zdW k) 5 = nI s) → ze_E (D + 15) A_Desk_findRoom [.ref 1, .int (nI k), .int (nI s)] (zm_mk ν2) (some (.int 1)) (zm_mk ν3) → (kd = 4 ∨ zd_whole ν2 (zdZ s) k = true) → ∃ ν r row' stk' Rs' ts', ze_E (D + 16) A_Desk_open [.ref 1, .int kd, .int w, .int v, .int o] (zm_mk μ) (some (.int r)) (zm_mk ν) ∧ zJ ν row' stk' Rs' ts' ∧ zd_opn μ ν row row' Rs Rs' ts ts' kd w v o := by
      intro ν3 fr h5 E hc
      have e1 : ν3 (zdW k + 1) = ν2 (zdW k + 1) := funext fun b => fr _ b (by omega) (by omega)
      have hcame : zd_came μ (zm_up ν3 (zdW k) 2 1) k s kd w v o := by
        refine ⟨fun c a1 a2 a3 _ => ?_, zm_up_eq, ?_, ?_, fun q => ?_, ?_, ?_⟩
        · rw [zm_up_row a2, ← f2 c a1 a2 a3]
          funext b
          exact fr c b (fun e => a2 e.1) (fun e => a1 (by unfold zJ_irr; rw [e]; unfold zdW; omega))
        · rw [zm_up_ne (by omega), fr _ _ (by omega) (by omega)]; exact q3
        · rw [zm_up_ne (by omega), fr _ _ (by omega) (by omega)]; exact q4
        · rw [zm_up_ne (by omega)]; exact h5 q
        · rw [zm_up_ne (by omega), e1]; exact r0
        · rw [zm_up_ne (by omega), e1]; exact r1
      obtain ⟨ν5, stk', E5, hJ5, hf5⟩ := ze_open_4 D h hk hs hnt hcame (zJ0_other h hk hs hnt hst hkd hsz ha.2.1 ha.2.2 hcame)
      exact ⟨ν5, _, k :: row, stk', Rs, ts, ze_in [(0, .ref 1), (1, .int kd), (2, .int w), (3, .int v), (4, .int o)] zq_Desk_open (Nat.le_of_ble_eq_true rfl) rfl (SS.end (ze_open_3 (D + 15) hk nl g0 g6 g7 E E5)), hJ5, Or.inr ⟨ha, k, s, ν2, hk, hs, hnt, hlt, eo, hst, hprep, Or.inr ⟨Or.inr ⟨c1, hc, rfl, rfl, _, hcame, hf5⟩, rfl⟩⟩⟩
    by_cases c4 : kd = 4
    · obtain ⟨ν3, E3, f3⟩ := ze_findRoom_4 (μ := ν2) (D + 14) hk (nI s) (q3.trans c4)
      exact accept ν3 (fun c b _ a2 => by rw [f3 c a2]) (fun q => absurd c4 q) E3 (Or.inl c4)
    · have n1 : ¬ ν2 (zdW k) 3 = 1 := by rw [q3]; exact c1
      have n4 : ¬ ν2 (zdW k) 3 = 4 := by rw [q3]; exact c4
      cases hw : zd_whole ν2 (zdZ s) k with
      | true =>
        have hJ2 : zJ ν2 row stk Rs ts := zJ_free h hk hnt w22 f2
        obtain ⟨ν3, E3, w5, f3⟩ := ze_findRoom_23 (μ := ν2) (D + 10) hk hs n1 n4 hw (fun e => by
          obtain ⟨j, hj, ej, hjt⟩ := ha.2.1 (by rw [← q3]; exact e)
          exact ⟨j, hj, fun e => (by rw [e, hnt] at hjt; cases hjt), (by rw [q4]; exact ej), zJ_scr hJ2 hj⟩)
        exact accept ν3 f3 (fun _ => w5) E3 (Or.inr hw)
      | false =>
        have E3 := ze_findRoom_no (μ := ν2) (D + 13) hk hs n1 n4 hw
        exact ⟨ν2, _, row, stk, Rs, ts, ze_in [(0, .ref 1), (1, .int kd), (2, .int w), (3, .int v), (4, .int o)] zq_Desk_open (Nat.le_of_ble_eq_true rfl) rfl (SS.end (ze_open_2 (kd := kd) (w := w) (v := v) (o := o) (D + 15) nl g0 g6 g7 E3)), zJ_free h hk hnt w22 f2, Or.inr ⟨ha, k, s, ν2, hk, hs, hnt, hlt, eo, hst, hprep, Or.inl ⟨Or.inr ⟨c1, c4, hw⟩, f2, w22, rfl, rfl, rfl⟩⟩⟩
end ZO8
end
section
/-! least sizes as numbers; they don't grow when a tab goes -/
theorem nI_max {a b : Nat} (ha : a < 2 ^ 31) (hb : b < 2 ^ 31) : zi_mx (nI a) (nI b) = nI (max a b) := by
  unfold zi_mx
  by_cases c : a < b
  · rw [if_pos (nI_lt c hb), Nat.max_eq_right (by omega)]
  · rw [if_neg (Int32.not_lt.mpr (nI_le (by omega) ha)), Nat.max_eq_left (by omega)]
noncomputable def zt_lfN (tl : Nat → Nat) (hm : Nat → Int32) (R : List Nat) (n : Nat) : Nat := R.foldl (fun m w => if hm w = nI n then max m (tl w) else m) 0
theorem zt_lfN_le {tl : Nat → Nat} {hm : Nat → Int32} {n B : Nat} : ∀ (R : List Nat) (m : Nat), m ≤ B → (∀ w ∈ R, tl w ≤ B) → R.foldl (fun m w => if hm w = nI n then max m (tl w) else m) m ≤ B := by
  intro R
  induction R with
  | nil => intro m hm _; exact hm
  | cons w R ih =>
    intro m hmB h
    rw [List.foldl_cons]
    refine ih _ ?_ (fun x hx => h x (List.mem_cons_of_mem _ hx))
    have := h w List.mem_cons_self
    split
    · exact Nat.max_le.mpr ⟨hmB, this⟩
    · exact hmB
theorem zt_lf_N {tl : Nat → Nat} {tlI hm : Nat → Int32} {n : Nat} : ∀ (R : List Nat) (m : Nat), m ≤ 200 → (∀ w ∈ R, tlI w = nI (tl w) ∧ tl w ≤ 200) → R.foldl (fun m w => if hm w = nI n then zi_mx m (tlI w) else m) (nI m) = nI (R.foldl (fun m w => if hm w = nI n then max m (tl w) else m) m) := by
  intro R
  induction R with
  | nil => intro m _ _; rfl
  | cons w R ih =>
    intro m hle h
    obtain ⟨e, hb⟩ := h w List.mem_cons_self
    rw [List.foldl_cons, List.foldl_cons]
    by_cases c : hm w = nI n
    · rw [if_pos c, if_pos c, e, nI_max (by omega) (by omega)]
      exact ih _ (Nat.max_le.mpr ⟨hle, hb⟩) (fun x hx => h x (List.mem_cons_of_mem _ hx))
    · rw [if_neg c, if_neg c]
      exact ih _ hle (fun x hx => h x (List.mem_cons_of_mem _ hx))
noncomputable def zy_lsN (a : Nat) (fm : Nat → Int32) (lf : Nat → Nat) : zy_F → Nat
  | .append (.tag n x) y => if fm n = nI a then zy_lsN a fm lf x + zy_lsN a fm lf y else max (zy_lsN a fm lf x) (zy_lsN a fm lf y)
  | .tag n _ => lf n
  | _ => 0
theorem zy_ls_N {a : Nat} {fm lfI : Nat → Int32} {lf : Nat → Nat} : ∀ t, zy_wf t → (zy_lvs t).length ≤ 100 → (∀ n ∈ zy_lvs t, lfI n = nI (lf n) ∧ lf n ≤ 200) → zy_ls a fm lfI t = nI (zy_lsN a fm lf t) ∧ zy_lsN a fm lf t ≤ 200 * (zy_lvs t).length := by
  apply zy_ind
  · intro n _ h
    obtain ⟨e, hb⟩ := h n List.mem_cons_self
    refine ⟨e, ?_⟩
    show lf n ≤ 200 * 1
    omega
  · intro n x y wx wy hx hy hl h
    have hl' : (zy_lvs x ++ zy_lvs y).length ≤ 100 := hl
    rw [List.length_append] at hl'
    obtain ⟨e1, b1⟩ := hx (by omega) (fun m hm => h m (List.mem_append_left _ hm))
    obtain ⟨e2, b2⟩ := hy (by omega) (fun m hm => h m (List.mem_append_right _ hm))
    show (if fm n = nI a then zy_ls a fm lfI x + zy_ls a fm lfI y else zi_mx (zy_ls a fm lfI x) (zy_ls a fm lfI y)) = nI (if fm n = nI a then zy_lsN a fm lf x + zy_lsN a fm lf y else max (zy_lsN a fm lf x) (zy_lsN a fm lf y)) ∧ (if fm n = nI a then zy_lsN a fm lf x + zy_lsN a fm lf y else max (zy_lsN a fm lf x) (zy_lsN a fm lf y)) ≤ 200 * (zy_lvs x ++ zy_lvs y).length
    rw [List.length_append, e1, e2]
    by_cases c : fm n = nI a
    · rw [if_pos c, if_pos c, nI_add]
      exact ⟨rfl, by omega⟩
    · rw [if_neg c, if_neg c, nI_max (by omega) (by omega)]
      exact ⟨rfl, by omega⟩
theorem zy_lsN_mono {a : Nat} {fm fm' : Nat → Int32} {lf lf' : Nat → Nat} : ∀ t, zy_wf t → (∀ n ∈ zy_ids t, fm' n = fm n) → (∀ n ∈ zy_lvs t, lf' n ≤ lf n) → zy_lsN a fm' lf' t ≤ zy_lsN a fm lf t := by
  apply zy_ind
  · intro n _ h
    exact h n List.mem_cons_self
  · intro n x y wx wy hx hy h1 h2
    have b1 := hx (fun m hm => h1 m (List.mem_cons_of_mem _ (List.mem_append_left _ hm))) (fun m hm => h2 m (List.mem_append_left _ hm))
    have b2 := hy (fun m hm => h1 m (List.mem_cons_of_mem _ (List.mem_append_right _ hm))) (fun m hm => h2 m (List.mem_append_right _ hm))
    show (if fm' n = nI a then zy_lsN a fm' lf' x + zy_lsN a fm' lf' y else max (zy_lsN a fm' lf' x) (zy_lsN a fm' lf' y)) ≤ (if fm n = nI a then zy_lsN a fm lf x + zy_lsN a fm lf y else max (zy_lsN a fm lf x) (zy_lsN a fm lf y))
    rw [h1 n List.mem_cons_self]
    split <;> omega
theorem zy_lsN_del {a n : Nat} {fm : Nat → Int32} {lf : Nat → Nat} : ∀ t, zy_wf t → zy_lsN a fm lf (zy_del n t) ≤ zy_lsN a fm lf t := by
  apply zy_ind
  · intro m
    exact Nat.le_refl _
  · intro c x y wx wy hx hy
    show zy_lsN a fm lf (if zy_id x = n then y else if zy_id y = n then x else .append (.tag c (zy_del n x)) (zy_del n y)) ≤ (if fm c = nI a then zy_lsN a fm lf x + zy_lsN a fm lf y else max (zy_lsN a fm lf x) (zy_lsN a fm lf y))
    split
    · split <;> omega
    · split
      · split <;> omega
      · show (if fm c = nI a then zy_lsN a fm lf (zy_del n x) + zy_lsN a fm lf (zy_del n y) else max (zy_lsN a fm lf (zy_del n x)) (zy_lsN a fm lf (zy_del n y))) ≤ _
        split <;> omega
theorem zy_lsN_out {a n : Nat} {fm : Nat → Int32} {lf : Nat → Nat} (t : zy_F) (h : zy_wf t) : zy_lsN a fm lf (zy_out n t) ≤ zy_lsN a fm lf t := by
  unfold zy_out
  split
  · exact Nat.zero_le _
  · exact zy_lsN_del t h
theorem zt_lfN_erase {tl : Nat → Nat} {hm : Nat → Int32} {n w : Nat} : ∀ (R : List Nat) (m m' : Nat), m' ≤ m → (R.erase w).foldl (fun m w => if hm w = nI n then max m (tl w) else m) m' ≤ R.foldl (fun m w => if hm w = nI n then max m (tl w) else m) m := by
  have mono : ∀ (R : List Nat) (m m' : Nat), m' ≤ m → R.foldl (fun m w => if hm w = nI n then max m (tl w) else m) m' ≤ R.foldl (fun m w => if hm w = nI n then max m (tl w) else m) m := by
    intro R
    induction R with
    | nil => intro m m' h; exact h
    | cons x R ih =>
      intro m m' h
      rw [List.foldl_cons, List.foldl_cons]
      apply ih
      split
      · omega
      · exact h
  intro R
  induction R with
  | nil => intro m m' h; exact h
  | cons x R ih =>
    intro m m' h
    rw [List.erase_cons]
    split
    · rw [List.foldl_cons]
      apply mono
      split
      · omega
      · exact h
    · rw [List.foldl_cons, List.foldl_cons]
      apply ih
      split
      · omega
      · exact h
section ZLN
variable {μ ν : zm_M} {R : List Nat} {t : zy_F}
/-- the tabs' least sizes are small numbers -/
noncomputable def zt_sm (μ : zm_M) (Q : Nat) (R : List Nat) : Prop := ∀ w ∈ R, ∀ a, a < 2 → ∃ x, x ≤ 200 ∧ μ (Q + 5 + a) w = nI x
noncomputable def zt_tlN (μ : zm_M) (Q a w : Nat) : Nat := (μ (Q + 5 + a) w).toNatClampNeg
theorem zt_sm_tl {Q : Nat} (h : zt_sm μ Q R) {a : Nat} (ha : a < 2) : ∀ w ∈ R, μ (Q + 5 + a) w = nI (zt_tlN μ Q a w) ∧ zt_tlN μ Q a w ≤ 200 := by
  intro w hw
  obtain ⟨x, hx, e⟩ := h w hw a ha
  unfold zt_tlN
  rw [e, nI_clamp (by omega)]
  exact ⟨rfl, hx⟩
theorem zt_lsz_N {Q : Nat} (hI : zt_I μ Q R t) (h : zt_sm μ Q R) {a : Nat} (ha : a < 2) : zt_lsz μ Q a R t = nI (zy_lsN a (μ (Q + 7)) (zt_lfN (zt_tlN μ Q a) (μ (Q + 3)) R) t) ∧ zy_lsN a (μ (Q + 7)) (zt_lfN (zt_tlN μ Q a) (μ (Q + 3)) R) t ≤ 2000 := by
  have h10 := hI.1.1.1
  have hl := zt_I_len hI
  rcases hI.2.1.1 with ⟨rfl, _⟩ | ⟨wt, -, -⟩
  · exact ⟨rfl, Nat.zero_le _⟩
  · have := zy_ls_N (a := a) (fm := μ (Q + 7)) (lfI := zt_lf (μ (Q + 5 + a)) (μ (Q + 3)) R) (lf := zt_lfN (zt_tlN μ Q a) (μ (Q + 3)) R) t wt (by omega) (fun n _ => ⟨zt_lf_N R 0 (Nat.zero_le _) (zt_sm_tl h ha), zt_lfN_le R 0 (Nat.zero_le _) (fun w hw => (zt_sm_tl h ha w hw).2)⟩)
    exact ⟨this.1, by omega⟩
theorem zt_lfN_congr {tl tl' : Nat → Nat} {hm hm' : Nat → Int32} {n : Nat} : ∀ (R : List Nat) (m : Nat), (∀ w ∈ R, tl' w = tl w ∧ hm' w = hm w) → R.foldl (fun m w => if hm' w = nI n then max m (tl' w) else m) m = R.foldl (fun m w => if hm w = nI n then max m (tl w) else m) m := by
  intro R
  induction R with
  | nil => intro m _; rfl
  | cons w R ih =>
    intro m h
    obtain ⟨e1, e2⟩ := h w List.mem_cons_self
    rw [List.foldl_cons, List.foldl_cons, e1, e2]
    exact ih _ (fun x hx => h x (List.mem_cons_of_mem _ hx))
/-- a tab that goes makes no least size greater -/
theorem zt_fit_out {Q T n k z : Nat} (hC : zt_C μ Q R t) (h : zt_sm μ Q R) (hn : n ∈ zy_lvs t) (ho : zt_isOut μ Q R t n k ν T) (hz : ν z = μ z) (hf : zt_fit μ Q z R t = true) : zt_fit ν T z (R.erase k) (if (zt_tb μ Q R n).erase k = [] then zy_out n t else t) = true := by
  obtain ⟨C, t3, t5, t6, t7, t8, t12⟩ := ho
  have wt := (zt_I_lv hC.1 hn).1
  have hd := hC.1.1.2.1
  have hr5 : ∀ a, a < 2 → ν (T + 5 + a) = μ (Q + 5 + a) := fun a ha => by
    match a, ha with
    | 0, _ => exact t5
    | 1, _ => exact t6
  have h' : zt_sm ν T (R.erase k) := fun w hw a ha => by
    rw [hr5 a ha]
    exact h w (List.mem_of_mem_erase hw) a ha
  have key : ∀ a, a < 2 → zt_lsz ν T a (R.erase k) (if (zt_tb μ Q R n).erase k = [] then zy_out n t else t) ≤ zt_lsz μ Q a R t := by
    intro a ha
    obtain ⟨e1, b1⟩ := zt_lsz_N hC.1 h ha
    obtain ⟨e2, b2⟩ := zt_lsz_N C.1 h' ha
    rw [e1, e2]
    refine nI_le ?_ (by omega)
    have hlf : ∀ m, zt_lfN (zt_tlN ν T a) (ν (T + 3)) (R.erase k) m ≤ zt_lfN (zt_tlN μ Q a) (μ (Q + 3)) R m := fun m => by
      have := zt_lfN_congr (n := m) (tl := zt_tlN μ Q a) (tl' := zt_tlN ν T a) (hm := μ (Q + 3)) (hm' := ν (T + 3)) (R.erase k) 0 (fun w hw => ⟨by unfold zt_tlN; rw [hr5 a ha], by rw [t3, if_neg ((zl_er_mem hd).mp hw).1]⟩)
      unfold zt_lfN
      rw [this]
      exact zt_lfN_erase R 0 0 (Nat.le_refl _)
    by_cases c : (zt_tb μ Q R n).erase k = []
    · rw [if_pos c] at t7 ⊢
      rw [if_pos c] at C
      rcases C.1.2.1.1 with ⟨e, _⟩ | ⟨wo, -, -⟩
      · rw [e]
        exact Nat.zero_le _
      · exact Nat.le_trans (zy_lsN_mono _ wo t7 (fun m _ => hlf m)) (zy_lsN_out t wt)
    · rw [if_neg c] at t7 ⊢
      exact zy_lsN_mono t wt t7 (fun m _ => hlf m)
  unfold zt_fit at *
  obtain ⟨q1, q2⟩ := of_decide_eq_true hf
  rw [hz]
  exact decide_eq_true ⟨Int32.le_trans (key 0 (by decide)) q1, Int32.le_trans (key 1 (by decide)) q2⟩
end ZLN
end
section
/-! ten rounds are enough for a group -/
section ZSP
variable {dl : Nat → Bool} {ow : Nat → Nat} {g : Nat → Bool}
theorem zl_sp1_s {n j : Nat} : zl_sp1 dl ow g (n + 1) j = if j = n then zl_sp1 dl ow g n n || (dl n && zl_sp1 dl ow g n (ow n)) else zl_sp1 dl ow g n j := rfl
theorem zl_sp1_ge : ∀ n j, n ≤ j → zl_sp1 dl ow g n j = g j := by
  intro n
  induction n with
  | zero => intro j _; rfl
  | succ n ih =>
    intro j h
    rw [zl_sp1_s, if_neg (by omega)]
    exact ih j (by omega)
theorem zl_sp1_mono : ∀ n j, g j = true → zl_sp1 dl ow g n j = true := by
  intro n
  induction n with
  | zero => intro j h; exact h
  | succ n ih =>
    intro j h
    rw [zl_sp1_s]
    by_cases e : j = n
    · rw [if_pos e, ih n (e ▸ h)]
      rfl
    · rw [if_neg e]
      exact ih j h
theorem zl_sp1_or : ∀ n j, zl_sp1 dl ow g n j = true → g j = true ∨ dl j = true := by
  intro n
  induction n with
  | zero => intro j h; exact Or.inl h
  | succ n ih =>
    intro j h
    rw [zl_sp1_s] at h
    by_cases e : j = n
    · rw [if_pos e] at h
      subst e
      rcases Bool.or_eq_true_iff.mp h with h | h
      · exact ih j h
      · exact Or.inr (Bool.and_eq_true_iff.mp h).1
    · rw [if_neg e] at h
      exact ih j h
noncomputable def zl_cl (dl : Nat → Bool) (ow : Nat → Nat) (g : Nat → Bool) : Prop := ∀ j, j < 10 → dl j = true → g (ow j) = true → g j = true
theorem zl_sp1_cl (h : zl_cl dl ow g) : ∀ n, n ≤ 10 → zl_sp1 dl ow g n = g := by
  intro n
  induction n with
  | zero => intro _; rfl
  | succ n ih =>
    intro hn
    have e := ih (by omega)
    funext j
    rw [zl_sp1_s, e]
    by_cases c : j = n
    · rw [if_pos c]
      subst c
      cases hg : g j with
      | true => rfl
      | false =>
        rw [Bool.false_or]
        cases hd : dl j with
        | false => rfl
        | true =>
          cases ho : g (ow j) with
          | false => rfl
          | true =>
            have := h j (by omega) hd ho
            rw [hg] at this
            cases this
    · rw [if_neg c]
theorem zl_spn_mono : ∀ m j, g j = true → zl_spn dl ow g m j = true := by
  intro m
  induction m with
  | zero => intro j h; exact h
  | succ m ih => intro j h; exact zl_sp1_mono 10 j (ih j h)
theorem zl_spn_or : ∀ m j, zl_spn dl ow g m j = true → g j = true ∨ dl j = true := by
  intro m
  induction m with
  | zero => intro j h; exact Or.inl h
  | succ m ih =>
    intro j h
    rcases zl_sp1_or 10 j h with h | h
    · exact ih j h
    · exact Or.inr h
theorem zl_ct_mono {p q : Nat → Bool} : ∀ n, (∀ j, j < n → p j = true → q j = true) → zl_ct p n ≤ zl_ct q n := by
  intro n
  induction n with
  | zero => intro _; exact Nat.le_refl _
  | succ n ih =>
    intro h
    have h1 := ih (fun j hj => h j (by omega))
    have h2 := h n (by omega)
    show zl_ct p n + (if p n then 1 else 0) ≤ zl_ct q n + (if q n then 1 else 0)
    cases hp : p n with
    | false => simp; omega
    | true => simp [h2 hp]; omega
theorem zl_ct_lt {p q : Nat → Bool} {i : Nat} : ∀ n, (∀ j, j < n → p j = true → q j = true) → i < n → p i = false → q i = true → zl_ct p n < zl_ct q n := by
  intro n
  induction n with
  | zero => intro _ h; omega
  | succ n ih =>
    intro h hi hp hq
    show zl_ct p n + (if p n then 1 else 0) < zl_ct q n + (if q n then 1 else 0)
    by_cases e : i = n
    · subst e
      have := zl_ct_mono (p := p) (q := q) i (fun j hj => h j (by omega))
      rw [hp, hq]
      simp
      omega
    · have h1 := ih (fun j hj => h j (by omega)) (by omega) hp hq
      have h2 := h n (by omega)
      cases hpn : p n with
      | false => simp; omega
      | true => simp [h2 hpn]; omega
theorem zl_ct_pos {p : Nat → Bool} {i : Nat} : ∀ n, i < n → p i = true → 1 ≤ zl_ct p n := by
  intro n
  induction n with
  | zero => intro h; omega
  | succ n ih =>
    intro hi hp
    show 1 ≤ zl_ct p n + (if p n then 1 else 0)
    by_cases e : i = n
    · subst e
      rw [hp]
      simp
    · have := ih (by omega) hp
      omega
theorem zl_spn_cl {w : Nat} (hw : w < 10) (hg : g w = true) : zl_cl dl ow (zl_spn dl ow g 10) := by
  have main : ∀ m, zl_cl dl ow (zl_spn dl ow g m) ∨ m + 1 ≤ zl_ct (zl_spn dl ow g m) 10 := by
    intro m
    induction m with
    | zero => exact Or.inr (zl_ct_pos 10 hw hg)
    | succ m ih =>
      by_cases c : zl_cl dl ow (zl_spn dl ow g m)
      · left
        have : zl_spn dl ow g (m + 1) = zl_spn dl ow g m := zl_sp1_cl c 10 (Nat.le_refl _)
        rw [this]
        exact c
      · right
        have h1 := ih.resolve_left c
        have : ∃ j, j < 10 ∧ dl j = true ∧ zl_spn dl ow g m (ow j) = true ∧ zl_spn dl ow g m j = false := by
          apply Decidable.byContradiction
          intro hno
          apply c
          intro j hj hd ho
          cases hq : zl_spn dl ow g m j with
          | true => rfl
          | false => exact absurd ⟨j, hj, hd, ho, hq⟩ hno
        obtain ⟨j, hj, hd, ho, hq⟩ := this
        have hj1 : zl_spn dl ow g (m + 1) j = true := by
          show zl_sp1 dl ow (zl_spn dl ow g m) 10 j = true
          have step : zl_sp1 dl ow (zl_spn dl ow g m) (j + 1) j = true := by
            rw [zl_sp1_s, if_pos rfl, hd, zl_sp1_mono j (ow j) ho]
            simp
          have up : ∀ i, zl_sp1 dl ow (zl_spn dl ow g m) (j + 1 + i) j = true := by
            intro i
            induction i with
            | zero => exact step
            | succ i ih2 =>
              rw [show j + 1 + (i + 1) = (j + 1 + i) + 1 by omega, zl_sp1_s, if_neg (by omega)]
              exact ih2
          have := up (9 - j)
          rw [show j + 1 + (9 - j) = 10 by omega] at this
          exact this
        have := zl_ct_lt (p := zl_spn dl ow g m) (q := zl_spn dl ow g (m + 1)) 10 (fun i _ hi => zl_sp1_mono 10 i hi) hj hq hj1
        omega
  rcases main 10 with h | h
  · exact h
  · have := zl_ct_le (zl_spn dl ow g 10) 10
    omega
end ZSP
end
section
/-! the desk: close -/
section ZCL
variable {μ ν : zm_M} {row stk : List Nat} {Rs : Nat → List Nat} {ts : Nat → zy_F}
theorem zl_filter_erase {l : List Nat} (h : l.Nodup) {p : Nat → Bool} {i : Nat} : (l.filter p).erase i = l.filter (fun j => p j && decide (j ≠ i)) := by
  rw [List.Nodup.erase_eq_filter (h.filter p) i, List.filter_filter]
  refine List.filter_congr (fun j _ => ?_)
  by_cases e : j = i
  · simp [e]
  · simp [e]
/-- those of the group that have ended: numbers below i -/
noncomputable def zd_left (G : Nat → Bool) (i : Nat) : Nat → Bool := fun j => !(decide (j < i) && G j)
noncomputable def zd_cls (μ ξ : zm_M) (row stk : List Nat) (G : Nat → Bool) (i k s n : Nat) (R : List Nat) (t : zy_F) : Prop :=
  (zr_L ξ 3 (row.filter (zd_left G i)) ∧ zr_L ξ 5 (stk.filter (zd_left G i))) ∧ (∀ j, j < 10 → ξ (zdW j) 2 = if zd_left G i j = true then μ (zdW j) 2 else 0) ∧ (∀ q, q < 3 → ξ (zdK q) 3 = if zd_hasg μ G i q = true then 0 else μ (zdK q) 3) ∧
  (zd_til μ k = true → k < i → zt_isOut μ (zdT s) R t n k ξ (zdT s)) ∧ zd_gr ξ G ∧
  ∀ c b, c ≠ 3 → c ≠ 4 → c ≠ 5 → c ≠ 6 → c ≠ 31 → (∀ q, q < 3 → c = zdK q → b ≠ 3) → (∀ j, j < 10 → c = zdW j → b ≠ 2) → (zd_til μ k = true → k < i → zt_out (zdT s) c) → ξ c b = μ c b
theorem zd_left_s {G : Nat → Bool} {i j : Nat} (hG : G i = true) : zd_left G (i + 1) j = (zd_left G i j && decide (j ≠ i)) := by
  unfold zd_left
  by_cases e : j = i
  · subst e
    simp [hG]
  · have e1 : decide (j < i + 1) = decide (j < i) := decide_eq_decide.mpr (by omega)
    rw [e1]
    simp [e]
theorem zd_left_n {G : Nat → Bool} {i : Nat} (hG : G i = false) : zd_left G (i + 1) = zd_left G i := by
  funext j
  unfold zd_left
  by_cases e : j = i
  · subst e
    simp [hG]
  · have e1 : decide (j < i + 1) = decide (j < i) := decide_eq_decide.mpr (by omega)
    rw [e1]
theorem zd_hasg_s {G : Nat → Bool} {i q : Nat} : zd_hasg μ G (i + 1) q = (zd_hasg μ G i q || (G i && zd_has μ q i)) := by
  unfold zd_hasg
  show (!(zl_al _ i && !(G i && zd_has μ q i))) = _
  cases zl_al (fun k => !(G k && zd_has μ q k)) i <;> cases G i <;> cases zd_has μ q i <;> rfl
/-- one more of the group ends -/
theorem zd_cls_s (D : Nat) {G : Nat → Bool} {i k s n : Nat} {R : List Nat} {t : zy_F} (hi : i < 10) (hs : s < 3) (hG : G i = true) (hGk : G i = true → zd_til μ i = true → i = k) (hrn : row.Nodup) (hsn : stk.Nodup) (hrb : ∀ j ∈ row, j < 10) (hsb : ∀ j ∈ stk, j < 10)
    (ht : zd_til μ k = true → μ (zdW k) 5 = nI s ∧ zt_I μ (zdT s) R t ∧ n ∈ zy_lvs t ∧ k ∈ R ∧ μ (zdT s + 3) k = nI n) {ξ : zm_M} (h : zd_cls μ ξ row stk G i k s n R t) : ∃ ξ', ze_E (D + 5) A_Desk_end [.ref 1, .int (nI i)] (zm_mk ξ) none (zm_mk ξ') ∧ zd_cls μ ξ' row stk G (i + 1) k s n R t := by
  obtain ⟨⟨r3, r5⟩, a2, ak, at', ag, af⟩ := h
  have wi2 : ξ (zdW i) 2 = μ (zdW i) 2 := by
    rw [a2 i hi, if_pos (by unfold zd_left; simp)]
  have wo : ∀ j, j < 10 → ∀ b, b ≠ 2 → ξ (zdW j) b = μ (zdW j) b := fun j hj b hb => af _ _ (by unfold zdW; omega) (by unfold zdW; omega) (by unfold zdW; omega) (by unfold zdW; omega) (by unfold zdW; omega) (fun q hq e => by unfold zdW zdK at e; omega) (fun _ _ _ => hb) (fun _ _ => zJn_out hs (Or.inr (Or.inl ⟨j, hj, Or.inl rfl⟩)))
  have tili : zd_til ξ i = zd_til μ i := by
    unfold zd_til
    rw [wi2, wo i hi 3 (by decide)]
  have hrm : ∀ j ∈ row.filter (zd_left G i), j < 10 := fun j hj => hrb j (List.mem_filter.mp hj).1
  have hsm : ∀ j ∈ stk.filter (zd_left G i), j < 10 := fun j hj => hsb j (List.mem_filter.mp hj).1
  have rT : ¬ (zd_til μ k = true ∧ k < i) → ∀ j, j < 24 → ξ (zdT s + j) = μ (zdT s + j) := fun hno j hj => funext fun b => af _ _ (by unfold zdT; omega) (by unfold zdT; omega) (by unfold zdT; omega) (by unfold zdT; omega) (by unfold zdT; omega) (fun q hq e => by unfold zdT zdK at e; omega) (fun j' hj' e => by unfold zdT zdW at e; omega) (fun q1 q2 => absurd ⟨q1, q2⟩ hno)
  obtain ⟨ξ', E, e3, e5, eK, e2, eT, eF⟩ := ze_end (μ := ξ) D hi hs r3 hrm r5 hsm (R := R) (t := t) (n := n) (fun hq => by
    rw [tili] at hq
    have e := hGk hG hq
    subst e
    obtain ⟨b1, b2, b3, b4, b5⟩ := ht hq
    have r := rT (fun q => by omega)
    refine ⟨by rw [wo i hi 5 (by decide)]; exact b1, ?_, b3, b4, by rw [r 3 (by omega)]; exact b5⟩
    exact zt_same.I ⟨r _ (by omega), r _ (by omega), r _ (by omega), r _ (by omega), r _ (by omega), r _ (by omega), r _ (by omega), r _ (by omega), r _ (by omega), r _ (by omega), r _ (by omega), by rw [show ξ (zdT s) = μ (zdT s) from r 0 (by omega)]⟩ b2)
  refine ⟨ξ', E, ⟨?_, ?_⟩, fun j hj => ?_, fun q hq => ?_, fun hq hki => ?_, fun j hj => ?_, fun c b c3 c4 c5 c6 c31 cK cW cT => ?_⟩
  · rw [zl_filter_erase hrn] at e3
    have : (fun j => zd_left G i j && decide (j ≠ i)) = zd_left G (i + 1) := funext fun j => (zd_left_s hG).symm
    rw [this] at e3
    exact e3
  · rw [zl_filter_erase hsn] at e5
    have : (fun j => zd_left G i j && decide (j ≠ i)) = zd_left G (i + 1) := funext fun j => (zd_left_s hG).symm
    rw [this] at e5
    exact e5
  · by_cases e : j = i
    · subst e
      rw [e2, zd_left_s hG, if_neg (by simp)]
    · rw [eF (zdW j) 2 (by unfold zdW; omega) (by unfold zdW; omega) (by unfold zdW; omega) (by unfold zdW; omega) (fun q hq e' => by unfold zdW zdK at e'; omega) (fun q => e (zdW_inj q.1)) (fun _ => zJn_out hs (Or.inr (Or.inl ⟨j, hj, Or.inl rfl⟩))), a2 j hj, zd_left_s hG]
      simp [e]
  · rw [eK q hq, zd_hasg_s, hG, Bool.true_and]
    have q2 := ak q hq
    cases ph : zd_hasg μ G i q with
    | true =>
      rw [ph, if_pos rfl] at q2
      rw [Bool.true_or, if_pos rfl, q2]
      split <;> rfl
    | false =>
      rw [ph, if_neg (by decide)] at q2
      have eh : zd_has ξ q i = zd_has μ q i := by
        unfold zd_has
        rw [q2, af (zdQ q) i (by unfold zdQ; omega) (by unfold zdQ; omega) (by unfold zdQ; omega) (by unfold zdQ; omega) (by unfold zdQ; omega) (fun q' hq' e => by unfold zdQ zdK at e; omega) (fun j hj e => by unfold zdQ zdW at e; omega) (fun _ _ => zJn_out hs (Or.inr (Or.inr (Or.inl ⟨q, hq, Or.inr (Or.inr (Or.inr (Or.inl rfl)))⟩)))), af (zdV q + 3) i (by unfold zdV; omega) (by unfold zdV; omega) (by unfold zdV; omega) (by unfold zdV; omega) (by unfold zdV; omega) (fun q' hq' e => by unfold zdV zdK at e; omega) (fun j hj e => by unfold zdV zdW at e; omega) (fun _ _ => zJn_out hs (Or.inr (Or.inr (Or.inl ⟨q, hq, Or.inr (Or.inr (Or.inr (Or.inr ⟨3, by decide, rfl⟩)))⟩))))]
      simp only [eh]
      rw [Bool.false_or, q2]
  · by_cases e : k < i
    · have hne : ¬ zd_til ξ i = true := fun q => by
        rw [tili] at q
        have := hGk hG q
        omega
      obtain ⟨o1, o2, o3, o4, o5, o6, o7⟩ := at' hq e
      have r : ∀ j, j < 24 → ξ' (zdT s + j) = ξ (zdT s + j) := fun j hj => funext fun b => eF _ _ (by unfold zdT; omega) (by unfold zdT; omega) (by unfold zdT; omega) (by unfold zdT; omega) (fun q hq e => by unfold zdT zdK at e; omega) (fun e => by have := e.1; unfold zdT zdW at this; omega) (fun q => absurd q hne)
      exact ⟨zt_C_congr (fun c h1 h2 => by have := r (c - zdT s) (by omega); rw [show zdT s + (c - zdT s) = c by omega] at this; exact this) o1, fun v => by rw [r 3 (by omega)]; exact o2 v, by rw [r 5 (by omega)]; exact o3, by rw [r 6 (by omega)]; exact o4, fun i hi => by rw [r 7 (by omega)]; exact o5 i hi, by rw [r 8 (by omega)]; exact o6, fun i => by rw [r 12 (by omega)]; exact o7 i⟩
    · have e : i = k := by omega
      subst e
      have O := eT (by rw [tili]; exact hq)
      have r := rT (fun q => by omega)
      unfold zt_isOut at *
      rw [zt_tb_congr (μ := μ) (Q := zdT s) (r 3 (by omega)), r 3 (by omega), r 5 (by omega), r 6 (by omega), r 7 (by omega), r 8 (by omega), r 12 (by omega)] at O
      exact O
  · rw [eF 31 j (by decide) (by decide) (by decide) (by decide) (fun q hq e => by unfold zdK at e; omega) (fun e => by have := e.1; unfold zdW at this; omega) (fun _ => by unfold zt_out zdT; omega)]
    exact ag j hj
  · rw [eF c b c3 c4 c5 c6 cK (fun e => cW i hi e.1 e.2) (fun q => ?_)]
    · exact af c b c3 c4 c5 c6 c31 cK cW (fun q1 q2 => cT q1 (by omega))
    · rw [tili] at q
      have e := hGk hG q
      subst e
      exact cT q (by omega)
end ZCL
end
