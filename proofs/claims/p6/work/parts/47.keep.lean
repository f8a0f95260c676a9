/-! the desk: all is kept; trees laid -/
section ZK2
variable {μ : zm_M} {R : List Nat} {t : zy_F}
set_option maxRecDepth 100000 in
theorem ze_setSize (D : Nat) {s : Nat} (hs : s < 3) : ze_E (D + 1) A_Scr_setSize [.ref (zdS s + 1), .ref 33] (zm_mk μ) none (zm_mk (zm_up (zm_up μ (zdZ s) 0 (μ 32 0)) (zdZ s) 1 (μ 32 1))) := by
  refine ze_in [(0, .ref (zdS s + 1)), (1, .ref 33)] zq_Scr_setSize (Nat.le_of_ble_eq_true rfl) rfl ⟨0, 15, fun F n hF => ?_⟩
  have r1 : zm_up μ (zdZ s) 0 (μ 32 0) 32 1 = μ 32 1 := zm_up_ne (by unfold zdZ; omega)
  simp [zg_0, zg_aload_n, zg_getfield, zg_iaload, zg_iastore, zg_iconst, zg_return, zf_X2_setSize, zi_ld, zi_lda, zi_cmp, zi_retOk, zi_isI, zi_f3, zi_cr, zi_ci, zi_cn, zi_get, zi_set, zdS_g hs, zm_iald (k := 0) zd32_A zm_in0, zm_iald (k := 0) zd32_A zm_in1, zm_cl0, zm_cl1, zm_iast (zdZ_A hs) zm_in0, zm_iast (zdZ_A hs) zm_in1, r1]
set_option maxRecDepth 100000 in
theorem ze_keepAll (D : Nat) {s : Nat} (hs : s < 3) (hI : zt_I μ (zdT s) R t) : ∃ ν, ze_E (D + 5) A_Desk_keepAll [.ref 1, .int (nI s)] (zm_mk μ) none (zm_mk ν) ∧ zt_C ν (zdV s) R t ∧
    (ν (zdV s + 3) = μ (zdT s + 3) ∧ ν (zdV s + 5) = μ (zdT s + 5) ∧ ν (zdV s + 6) = μ (zdT s + 6) ∧ ν (zdV s + 7) = μ (zdT s + 7) ∧ ν (zdV s + 8) = μ (zdT s + 8) ∧ ν (zdV s + 12) = μ (zdT s + 12)) ∧
    ν (zdK s) 3 = (if 0 < zl_ct (zd_on μ (nI s)) 10 then 1 else 0) ∧ (∀ k, k < 10 → ν (zdQ s) k = if zd_loose μ (nI s) k = true then 1 else 0) ∧
    ∀ c b, zt_out (zdV s) c → c ≠ zdQ s → c ≠ zdP s + 1 → c ≠ zdP s + 2 → ¬ (c = zdK s ∧ b = 3) → ν c b = μ c b := by
  have h10 : (Int8.ofInt 10).toInt32 = (10 : Int32) := by decide
  let kv : Int32 := if 0 < zl_ct (zd_on μ (nI s)) 10 then 1 else 0
  let μ1 := zm_up μ (zdK s) 3 kv
  have r1 : ∀ c, c ≠ zdK s → μ1 c = μ c := fun c hc => zm_up_row hc
  have hI1 : zt_I μ1 (zdT s) R t := by
    have : ∀ j, j < 24 → μ1 (zdT s + j) = μ (zdT s + j) := fun j hj => r1 _ (by unfold zdT zdK; omega)
    have h0 : μ1 (zdT s) = μ (zdT s) := r1 _ (by unfold zdT zdK; omega)
    exact zt_same.I ⟨this _ (by omega), this _ (by omega), this _ (by omega), this _ (by omega), this _ (by omega), this _ (by omega), this _ (by omega), this _ (by omega), this _ (by omega), this _ (by omega), this _ (by omega), by rw [h0]⟩ hI
  obtain ⟨μ2, ⟨N2, E2⟩, C2, f2, l3, l5, l6, l7, l8, l12⟩ := ze_Tree_copyFrom (μ := μ1) D (zdV_at hs) (zdT_at hs) (by unfold zdV zdT; omega) hI1
  have key : ∃ r h', ze_G (D + 4) 4 none zc_X5_keepAll 45 [(3, .int (nI 0)), (2, .ref (zdK s + 1)), (0, .ref 1), (1, .int (nI s))] [] (zm_mk μ2) r h' ∧ (r = none ∧ ∃ ν, zm_mk ν = h' ∧ (∀ c, c ≠ zdQ s → c ≠ zdP s + 1 → c ≠ zdP s + 2 → ν c = μ2 c) ∧ (∀ k, k < 10 → ν (zdQ s) k = if zd_loose μ (nI s) k = true then 1 else 0)) := by
    refine ze_loop (Q := fun i L hp => i ≤ 10 ∧ zi_nl L = true ∧ zi_get L 0 = some (.ref 1) ∧ zi_get L 1 = some (.int (nI s)) ∧ zi_get L 2 = some (.ref (zdK s + 1)) ∧ zi_get L 3 = some (.int (nI i)) ∧ ∃ ν : zm_M, zm_mk ν = hp ∧ (∀ c, c ≠ zdQ s → c ≠ zdP s + 1 → c ≠ zdP s + 2 → ν c = μ2 c) ∧ (∀ k, k < i → ν (zdQ s) k = if zd_loose μ (nI s) k = true then 1 else 0) ∧ (True)) (R := fun r h' => r = none ∧ ∃ ν, zm_mk ν = h' ∧ (∀ c, c ≠ zdQ s → c ≠ zdP s + 1 → c ≠ zdP s + 2 → ν c = μ2 c) ∧ (∀ k, k < 10 → ν (zdQ s) k = if zd_loose μ (nI s) k = true then 1 else 0)) 10 ?_ ?_ 10 0 _ _ (by omega) ⟨by omega, rfl, rfl, rfl, rfl, rfl, μ2, rfl, fun _ _ _ _ => rfl, (fun k hk => absurd hk (by omega)), trivial⟩
    · rintro i L _ hi ⟨-, nl, g0, g1, g2, g3, ν, rfl, f1, f3, hq⟩
      have c1 : ¬ (10 : Int32) ≤ nI i := nI_ge (b := 10) hi (by decide)
      have hw : ν (zdW i) = μ (zdW i) := by
        rw [f1 _ (by unfold zdW zdQ; omega) (by unfold zdW zdP; omega) (by unfold zdW zdP; omega), f2 _ (by unfold zt_out zdW zdV; omega), r1 _ (by unfold zdW zdK; omega)]
      have el : zd_loose ν (nI s) i = zd_loose μ (nI s) i := by
        unfold zd_loose
        rw [hw]
      obtain ⟨N1, E1⟩ := ze_looseW (μ := ν) (D + 2) hi (nI s)
      rw [el] at E1
      have cw := zw_c (μ := ν) (zdW_at hi)
      have ck := zdK_c (μ := ν) hs
      obtain ⟨x, hx, ex⟩ : ∃ x : Int32, (x = 0 ∨ x = 1) ∧ (if zd_loose μ (nI s) i = true then (1 : Int32) else 0) = x := ⟨_, by split <;> simp, rfl⟩
      rw [ex] at E1
      obtain ⟨N3, E3⟩ := ze_keepPlace (μ := ν) (D + 3) hs hi hx
      have f1' : ∀ c, c ≠ zdQ s → c ≠ zdP s + 1 → c ≠ zdP s + 2 → zm_up (zm_up (zm_up ν (zdQ s) i x) (zdP s + 1) i (ν (zdW i + 2) 0)) (zdP s + 2) i (ν (zdW i + 2) 1) c = μ2 c := fun c q1 q2 q3 => by
        rw [zm_up_row q3, zm_up_row q2, zm_up_row q1]
        exact f1 c q1 q2 q3
      have f3' : ∀ k, k < i + 1 → zm_up (zm_up (zm_up ν (zdQ s) i x) (zdP s + 1) i (ν (zdW i + 2) 0)) (zdP s + 2) i (ν (zdW i + 2) 1) (zdQ s) k = if zd_loose μ (nI s) k = true then 1 else 0 := fun k hk => by
        rw [zm_up_ne (by unfold zdQ zdP; omega), zm_up_ne (by unfold zdQ zdP; omega), zm_up_pt]
        by_cases e : k = i
        · rw [if_pos e, e, ex]
        · rw [if_neg e]
          exact f3 k (by omega)
      generalize zm_up (zm_up (zm_up ν (zdQ s) i x) (zdP s + 1) i (ν (zdW i + 2) 0)) (zdP s + 2) i (ν (zdW i + 2) 1) = ξ at E3 f1' f3'
      left
      refine ⟨zi_set L 3 (.int (nI (i + 1))), zm_mk ξ, ⟨N1 + N3, 19, fun F m hF => ?_⟩, by omega, ?_, ?_, ?_, ?_, zi_get_set_eq, ξ, rfl, f1', f3', trivial⟩
      · simp (maxDischargeDepth := 9) [zg_0, zg_aaload, zg_aload_n, zg_astore_n, zg_bipush, zg_getfield, zg_goto, zg_iconst, zg_ifCond, zg_if_icmp, zg_iinc, zg_iload_n, zg_invokevirtual, zg_istore_n, zg_putfield, zg_return, zf_X5_keepAll, zi_ld, zi_lda, zi_cmp, zi_retOk, zi_isI, zi_f3, zi_cr, zi_ci, zi_cn, zi_get_ne, zi_nl_i, zi_nl_r, zi_get_set_eq, nl, g0, g1, g2, g3, h10, c1, zd_g, zd_w hi, zw_g (zdW_at hi), zq_Win_isLooseOn, zq_Kept_keepPlace, cw, ck, E1 F (by omega), E3 F (by omega), nI_1]
      · simp (maxDischargeDepth := 9) [zi_get_ne, zi_nl_i, zi_nl_r, zi_get_set_eq, nl]
      · simp (maxDischargeDepth := 9) [zi_get_ne, zi_nl_i, zi_nl_r, zi_get_set_eq, nl, g0]
      · simp (maxDischargeDepth := 9) [zi_get_ne, zi_nl_i, zi_nl_r, zi_get_set_eq, nl, g1]
      · simp (maxDischargeDepth := 9) [zi_get_ne, zi_nl_i, zi_nl_r, zi_get_set_eq, nl, g2]
    · rintro L _ ⟨-, nl, g0, g1, g2, g3, ν, rfl, f1, f3, hq⟩
      have c1 : (10 : Int32) ≤ nI 10 := by decide
      refine ⟨none, zm_mk ν, ⟨0, 4, fun F m hF => ?_⟩, rfl, ν, rfl, f1, f3⟩
      simp [zg_0, zg_aaload, zg_aload_n, zg_astore_n, zg_bipush, zg_getfield, zg_goto, zg_iconst, zg_ifCond, zg_if_icmp, zg_iinc, zg_iload_n, zg_invokevirtual, zg_istore_n, zg_putfield, zg_return, zf_X5_keepAll, zi_ld, zi_lda, zi_cmp, zi_retOk, zi_isI, zi_f3, zi_cr, zi_ci, zi_cn, g0, g3, h10, c1]
  obtain ⟨r, h', G, rfl, ν, rfl, f1, f3⟩ := key
  have fv : ∀ j, j < 24 → ν (zdV s + j) = μ2 (zdV s + j) := fun j hj => f1 _ (by unfold zdV zdQ; omega) (by unfold zdV zdP; omega) (by unfold zdV zdP; omega)
  have rT : ∀ j, j < 24 → μ1 (zdT s + j) = μ (zdT s + j) := fun j hj => r1 _ (by unfold zdT zdK; omega)
  refine ⟨ν, ?_, zt_C_congr (fun c h1 h2 => f1 c (by unfold zdV zdQ at *; omega) (by unfold zdV zdP at *; omega) (by unfold zdV zdP at *; omega)) C2, ⟨?_, ?_, ?_, ?_, ?_, ?_⟩, ?_, f3, fun c b h1 h2 h3 h4 h5 => ?_⟩
  · obtain ⟨N1, E1⟩ := ze_windowsOn (μ := μ) (D + 2) (nI s)
    have ct := zl_ct_le (zd_on μ (nI s)) 10
    obtain ⟨lv, cv⟩ := zt_c (μ := μ1) (zdV_at hs)
    refine ze_in [(0, .ref 1), (1, .int (nI s))] zq_Desk_keepAll (Nat.le_of_ble_eq_true rfl) rfl (ze_S.end (p2 := 45) (L2 := [(3, .int (nI 0)), (2, .ref (zdK s + 1)), (0, .ref 1), (1, .int (nI s))]) (s2 := []) (h2 := zm_mk μ2) ?_ G)
    by_cases c : 0 < zl_ct (zd_on μ (nI s)) 10
    · have ek : kv = 1 := if_pos c
      have c' : ¬ nI (zl_ct (zd_on μ (nI s)) 10) ≤ 0 := nI_ge (a := 0) c (by omega)
      have m1 : zm_up μ (zdK s) 3 1 = μ1 := by rw [← ek]
      refine ⟨N1 + N2, 24, fun F m hF => ?_⟩
      simp [zg_0, zg_aaload, zg_aload_n, zg_astore_n, zg_bipush, zg_getfield, zg_goto, zg_iconst, zg_ifCond, zg_if_icmp, zg_iinc, zg_iload_n, zg_invokevirtual, zg_istore_n, zg_putfield, zg_return, zf_X5_keepAll, zi_ld, zi_lda, zi_cmp, zi_retOk, zi_isI, zi_f3, zi_cr, zi_ci, zi_cn, zi_get, zi_set, zd_g, zd_s hs, zdS_g hs, zdK_g hs, zq_Desk_windowsOn, zd_c, E1 F (by omega), c', zdK_p3 hs (Or.inr rfl), m1, zq_Tree_copyFrom, cv, E2 F (by omega), nI_0]
    · have ek : kv = 0 := if_neg c
      have c' : nI (zl_ct (zd_on μ (nI s)) 10) ≤ 0 := nI_le (b := 0) (by omega) (by decide)
      have m1 : zm_up μ (zdK s) 3 0 = μ1 := by rw [← ek]
      refine ⟨N1 + N2, 23, fun F m hF => ?_⟩
      simp [zg_0, zg_aaload, zg_aload_n, zg_astore_n, zg_bipush, zg_getfield, zg_goto, zg_iconst, zg_ifCond, zg_if_icmp, zg_iinc, zg_iload_n, zg_invokevirtual, zg_istore_n, zg_putfield, zg_return, zf_X5_keepAll, zi_ld, zi_lda, zi_cmp, zi_retOk, zi_isI, zi_f3, zi_cr, zi_ci, zi_cn, zi_get, zi_set, zd_g, zd_s hs, zdS_g hs, zdK_g hs, zq_Desk_windowsOn, zd_c, E1 F (by omega), c', zdK_p3 hs (Or.inl rfl), m1, zq_Tree_copyFrom, cv, E2 F (by omega), nI_0]
  · rw [fv 3 (by omega), l3, rT _ (by omega)]
  · rw [fv 5 (by omega), l5, rT _ (by omega)]
  · rw [fv 6 (by omega), l6, rT _ (by omega)]
  · rw [fv 7 (by omega), l7, rT _ (by omega)]
  · rw [fv 8 (by omega), l8, rT _ (by omega)]
  · rw [fv 12 (by omega), l12, rT _ (by omega)]
  · rw [f1 _ (by unfold zdK zdQ; omega) (by unfold zdK zdP; omega) (by unfold zdK zdP; omega), f2 _ (by unfold zt_out zdK zdV; omega)]
    exact zm_up_eq
  · rw [f1 c h2 h3 h4, f2 c h1]
    exact zm_up_ne h5
end ZK2
