section
/-! the desk: all is kept; trees laid -/
section ZK2
variable {μ : zm_M} {R : List Nat} {t : zy_F}
set_option maxRecDepth 100000 in
theorem ze_setSize (D : Nat) {s : Nat} (hs : s < 3) : ze_E (D + 1) A_Scr_setSize [.ref (zdS s + 1), .ref 33] (zm_mk μ) none (zm_mk (zm_up (zm_up μ (zdZ s) 0 (μ 32 0)) (zdZ s) 1 (μ 32 1))) := by
  refine ze_in [(0, .ref (zdS s + 1)), (1, .ref 33)] zq_Scr_setSize (Nat.le_of_ble_eq_true rfl) rfl ⟨0, 15, fun F n hF => ?_⟩
  have r1 : zm_up μ (zdZ s) 0 (μ 32 0) 32 1 = μ 32 1 := zm_up_ne (by unfold zdZ; omega)
  simp [zg_0, zg_aload_n, zg_getfield, zg_iaload, zg_iastore, zg_iconst, zg_return, zf_X2_setSize, zi_ld, zi_lda, zi_cmp, zi_retOk, zi_isI, zi_f3, zi_cr, zi_ci, zi_cn, zi_get, zi_set, zdS_g hs, zm_iald (k := 0) zd32_A zm_in0, zm_iald (k := 0) zd32_A zm_in1, zm_cl0, zm_cl1, zm_iast (zdZ_A hs) zm_in0, zm_iast (zdZ_A hs) zm_in1, r1]
set_option maxRecDepth 100000 in
theorem ze_keepAll (D : Nat) {s : Nat} (hs : s < 3) (hI : zt_I μ (zdT s) R t) : ∃ ν, ze_E (D + 5) A_Desk_keepAll [.ref 1, .int (nI s)] (zm_mk μ) none (zm_mk ν) ∧ zt_C ν (zdV s) R t ∧
    (ν (zdV s + 3) = μ (zdT s + 3) ∧ ν (zdV s + 5) = μ (zdT s + 5) ∧ ν (zdV s + 6) = μ (zdT s + 6) ∧ ν (zdV s + 7) = μ (zdT s + 7) ∧ ν (zdV s + 8) = μ (zdT s + 8) ∧ ν (zdV s + 12) = μ (zdT s + 12)) ∧
    ν (zdK s) 3 = (if 0 < zl_ct (zd_on μ (nI s)) 10 then 1 else 0) ∧ (∀ k, k < 10 → ν (zdQ s) k = if zd_loose μ (nI s) k = true then 1 else 0) ∧
    ∀ c b, zt_out (zdV s) c → c ≠ zdQ s → c ≠ zdP s + 1 → c ≠ zdP s + 2 → ¬ (c = zdK s ∧ b = 3) → ν c b = μ c b := by
  have h10 : (Int8.ofInt 10).toInt32 = (10 : Int32) := by decide
  let kv : Int32 := if 0 < zl_ct (zd_on μ (nI s)) 10 then 1 else 0
  let μ1 := zm_up μ (zdK s) 3 kv
  have r1 : ∀ c, c ≠ zdK s → μ1 c = μ c := fun c hc => zm_up_row hc
  have hI1 : zt_I μ1 (zdT s) R t := by
    have : ∀ j, j < 24 → μ1 (zdT s + j) = μ (zdT s + j) := fun j hj => r1 _ (by unfold zdT zdK; omega)
    have h0 : μ1 (zdT s) = μ (zdT s) := r1 _ (by unfold zdT zdK; omega)
    exact zt_same.I ⟨this _ (by omega), this _ (by omega), this _ (by omega), this _ (by omega), this _ (by omega), this _ (by omega), this _ (by omega), this _ (by omega), this _ (by omega), this _ (by omega), this _ (by omega), by rw [h0]⟩ hI
  obtain ⟨μ2, ⟨N2, E2⟩, C2, f2, l3, l5, l6, l7, l8, l12⟩ := ze_Tree_copyFrom (μ := μ1) D (zdV_at hs) (zdT_at hs) (by unfold zdV zdT; omega) hI1
  have key : ∃ r h', ze_G (D + 4) 4 none zc_X5_keepAll 45 [(3, .int (nI 0)), (2, .ref (zdK s + 1)), (0, .ref 1), (1, .int (nI s))] [] (zm_mk μ2) r h' ∧ (r = none ∧ ∃ ν, zm_mk ν = h' ∧ (∀ c, c ≠ zdQ s → c ≠ zdP s + 1 → c ≠ zdP s + 2 → ν c = μ2 c) ∧ (∀ k, k < 10 → ν (zdQ s) k = if zd_loose μ (nI s) k = true then 1 else 0)) := by
    refine ze_loop (Q := fun i L hp => i ≤ 10 ∧ zi_nl L = true ∧ zi_get L 0 = some (.ref 1) ∧ zi_get L 1 = some (.int (nI s)) ∧ zi_get L 2 = some (.ref (zdK s + 1)) ∧ zi_get L 3 = some (.int (nI i)) ∧ ∃ ν : zm_M, zm_mk ν = hp ∧ (∀ c, c ≠ zdQ s → c ≠ zdP s + 1 → c ≠ zdP s + 2 → ν c = μ2 c) ∧ (∀ k, k < i → ν (zdQ s) k = if zd_loose μ (nI s) k = true then 1 else 0) ∧ (True)) (R := fun r h' => r = none ∧ ∃ ν, zm_mk ν = h' ∧ (∀ c, c ≠ zdQ s → c ≠ zdP s + 1 → c ≠ zdP s + 2 → ν c = μ2 c) ∧ (∀ k, k < 10 → ν (zdQ s) k = if zd_loose μ (nI s) k = true then 1 else 0)) 10 ?_ ?_ 10 0 _ _ (by omega) ⟨by omega, rfl, rfl, rfl, rfl, rfl, μ2, rfl, fun _ _ _ _ => rfl, (fun k hk => absurd hk (by omega)), trivial⟩
    · rintro i L _ hi ⟨-, nl, g0, g1, g2, g3, ν, rfl, f1, f3, hq⟩
      have c1 : ¬ (10 : Int32) ≤ nI i := nI_ge (b := 10) hi (by decide)
      have hw : ν (zdW i) = μ (zdW i) := by
        rw [f1 _ (by unfold zdW zdQ; omega) (by unfold zdW zdP; omega) (by unfold zdW zdP; omega), f2 _ (by unfold zt_out zdW zdV; omega), r1 _ (by unfold zdW zdK; omega)]
      have el : zd_loose ν (nI s) i = zd_loose μ (nI s) i := by
        unfold zd_loose
        rw [hw]
      obtain ⟨N1, E1⟩ := ze_looseW (μ := ν) (D + 2) hi (nI s)
      rw [el] at E1
      have cw := zw_c (μ := ν) (zdW_at hi)
      have ck := zdK_c (μ := ν) hs
      obtain ⟨x, hx, ex⟩ : ∃ x : Int32, (x = 0 ∨ x = 1) ∧ (if zd_loose μ (nI s) i = true then (1 : Int32) else 0) = x := ⟨_, by split <;> simp, rfl⟩
      rw [ex] at E1
      obtain ⟨N3, E3⟩ := ze_keepPlace (μ := ν) (D + 3) hs hi hx
      have f1' : ∀ c, c ≠ zdQ s → c ≠ zdP s + 1 → c ≠ zdP s + 2 → zm_up (zm_up (zm_up ν (zdQ s) i x) (zdP s + 1) i (ν (zdW i + 2) 0)) (zdP s + 2) i (ν (zdW i + 2) 1) c = μ2 c := fun c q1 q2 q3 => by
        rw [zm_up_row q3, zm_up_row q2, zm_up_row q1]
        exact f1 c q1 q2 q3
      have f3' : ∀ k, k < i + 1 → zm_up (zm_up (zm_up ν (zdQ s) i x) (zdP s + 1) i (ν (zdW i + 2) 0)) (zdP s + 2) i (ν (zdW i + 2) 1) (zdQ s) k = if zd_loose μ (nI s) k = true then 1 else 0 := fun k hk => by
        rw [zm_up_ne (by unfold zdQ zdP; omega), zm_up_ne (by unfold zdQ zdP; omega), zm_up_pt]
        by_cases e : k = i
        · rw [if_pos e, e, ex]
        · rw [if_neg e]
          exact f3 k (by omega)
      generalize zm_up (zm_up (zm_up ν (zdQ s) i x) (zdP s + 1) i (ν (zdW i + 2) 0)) (zdP s + 2) i (ν (zdW i + 2) 1) = ξ at E3 f1' f3'
      left
      refine ⟨zi_set L 3 (.int (nI (i + 1))), zm_mk ξ, ⟨N1 + N3, 19, fun F m hF => ?_⟩, by omega, ?_, ?_, ?_, ?_, zi_get_set_eq, ξ, rfl, f1', f3', trivial⟩
      · simp (maxDischargeDepth := 9) [zg_0, zg_aaload, zg_aload_n, zg_astore_n, zg_bipush, zg_getfield, zg_goto, zg_iconst, zg_ifCond, zg_if_icmp, zg_iinc, zg_iload_n, zg_invokevirtual, zg_istore_n, zg_putfield, zg_return, zf_X5_keepAll, zi_ld, zi_lda, zi_cmp, zi_retOk, zi_isI, zi_f3, zi_cr, zi_ci, zi_cn, zi_get_ne, zi_nl_i, zi_nl_r, zi_get_set_eq, nl, g0, g1, g2, g3, h10, c1, zd_g, zd_w hi, zw_g (zdW_at hi), zq_Win_isLooseOn, zq_Kept_keepPlace, cw, ck, E1 F (by omega), E3 F (by omega), nI_1]
      · simp (maxDischargeDepth := 9) [zi_get_ne, zi_nl_i, zi_nl_r, zi_get_set_eq, nl]
      · simp (maxDischargeDepth := 9) [zi_get_ne, zi_nl_i, zi_nl_r, zi_get_set_eq, nl, g0]
      · simp (maxDischargeDepth := 9) [zi_get_ne, zi_nl_i, zi_nl_r, zi_get_set_eq, nl, g1]
      · simp (maxDischargeDepth := 9) [zi_get_ne, zi_nl_i, zi_nl_r, zi_get_set_eq, nl, g2]
    · rintro L _ ⟨-, nl, g0, g1, g2, g3, ν, rfl, f1, f3, hq⟩
      have c1 : (10 : Int32) ≤ nI 10 := by decide
      refine ⟨none, zm_mk ν, ⟨0, 4, fun F m hF => ?_⟩, rfl, ν, rfl, f1, f3⟩
      simp [zg_0, zg_aaload, zg_aload_n, zg_astore_n, zg_bipush, zg_getfield, zg_goto, zg_iconst, zg_ifCond, zg_if_icmp, zg_iinc, zg_iload_n, zg_invokevirtual, zg_istore_n, zg_putfield, zg_return, zf_X5_keepAll, zi_ld, zi_lda, zi_cmp, zi_retOk, zi_isI, zi_f3, zi_cr, zi_ci, zi_cn, g0, g3, h10, c1]
  obtain ⟨r, h', G, rfl, ν, rfl, f1, f3⟩ := key
  have fv : ∀ j, j < 24 → ν (zdV s + j) = μ2 (zdV s + j) := fun j hj => f1 _ (by unfold zdV zdQ; omega) (by unfold zdV zdP; omega) (by unfold zdV zdP; omega)
  have rT : ∀ j, j < 24 → μ1 (zdT s + j) = μ (zdT s + j) := fun j hj => r1 _ (by unfold zdT zdK; omega)
  refine ⟨ν, ?_, zt_C_congr (fun c h1 h2 => f1 c (by unfold zdV zdQ at *; omega) (by unfold zdV zdP at *; omega) (by unfold zdV zdP at *; omega)) C2, ⟨?_, ?_, ?_, ?_, ?_, ?_⟩, ?_, f3, fun c b h1 h2 h3 h4 h5 => ?_⟩
  · obtain ⟨N1, E1⟩ := ze_windowsOn (μ := μ) (D + 2) (nI s)
    have ct := zl_ct_le (zd_on μ (nI s)) 10
    obtain ⟨lv, cv⟩ := zt_c (μ := μ1) (zdV_at hs)
    refine ze_in [(0, .ref 1), (1, .int (nI s))] zq_Desk_keepAll (Nat.le_of_ble_eq_true rfl) rfl (ze_S.end (p2 := 45) (L2 := [(3, .int (nI 0)), (2, .ref (zdK s + 1)), (0, .ref 1), (1, .int (nI s))]) (s2 := []) (h2 := zm_mk μ2) ?_ G)
    by_cases c : 0 < zl_ct (zd_on μ (nI s)) 10
    · have ek : kv = 1 := if_pos c
      have c' : ¬ nI (zl_ct (zd_on μ (nI s)) 10) ≤ 0 := nI_ge (a := 0) c (by omega)
      have m1 : zm_up μ (zdK s) 3 1 = μ1 := by rw [← ek]
      refine ⟨N1 + N2, 24, fun F m hF => ?_⟩
      simp [zg_0, zg_aaload, zg_aload_n, zg_astore_n, zg_bipush, zg_getfield, zg_goto, zg_iconst, zg_ifCond, zg_if_icmp, zg_iinc, zg_iload_n, zg_invokevirtual, zg_istore_n, zg_putfield, zg_return, zf_X5_keepAll, zi_ld, zi_lda, zi_cmp, zi_retOk, zi_isI, zi_f3, zi_cr, zi_ci, zi_cn, zi_get, zi_set, zd_g, zd_s hs, zdS_g hs, zdK_g hs, zq_Desk_windowsOn, zd_c, E1 F (by omega), c', zdK_p3 hs (Or.inr rfl), m1, zq_Tree_copyFrom, cv, E2 F (by omega), nI_0]
    · have ek : kv = 0 := if_neg c
      have c' : nI (zl_ct (zd_on μ (nI s)) 10) ≤ 0 := nI_le (b := 0) (by omega) (by decide)
      have m1 : zm_up μ (zdK s) 3 0 = μ1 := by rw [← ek]
      refine ⟨N1 + N2, 23, fun F m hF => ?_⟩
      simp [zg_0, zg_aaload, zg_aload_n, zg_astore_n, zg_bipush, zg_getfield, zg_goto, zg_iconst, zg_ifCond, zg_if_icmp, zg_iinc, zg_iload_n, zg_invokevirtual, zg_istore_n, zg_putfield, zg_return, zf_X5_keepAll, zi_ld, zi_lda, zi_cmp, zi_retOk, zi_isI, zi_f3, zi_cr, zi_ci, zi_cn, zi_get, zi_set, zd_g, zd_s hs, zdS_g hs, zdK_g hs, zq_Desk_windowsOn, zd_c, E1 F (by omega), c', zdK_p3 hs (Or.inl rfl), m1, zq_Tree_copyFrom, cv, E2 F (by omega), nI_0]
  · rw [fv 3 (by omega), l3, rT _ (by omega)]
  · rw [fv 5 (by omega), l5, rT _ (by omega)]
  · rw [fv 6 (by omega), l6, rT _ (by omega)]
  · rw [fv 7 (by omega), l7, rT _ (by omega)]
  · rw [fv 8 (by omega), l8, rT _ (by omega)]
  · rw [fv 12 (by omega), l12, rT _ (by omega)]
  · rw [f1 _ (by unfold zdK zdQ; omega) (by unfold zdK zdP; omega) (by unfold zdK zdP; omega), f2 _ (by unfold zt_out zdK zdV; omega)]
    exact zm_up_eq
  · rw [f1 c h2 h3 h4, f2 c h1]
    exact zm_up_ne h5
end ZK2
end
section
/-! the desk: raised windows; the focus -/
section ZR1
variable {μ : zm_M} {stk row : List Nat}
theorem zl_er_len {l : List Nat} (hd : l.Nodup) (hb : ∀ x ∈ l, x < 10) {k : Nat} (hk : k < 10) : (l.erase k).length < 10 := by
  have := zy_nodup_le 10 (k :: l.erase k) (List.nodup_cons.mpr ⟨fun h => ((zl_er_mem hd).mp h).1 rfl, hd.erase k⟩) (fun x hx => by
    rcases List.mem_cons.mp hx with rfl | hx
    · exact hk
    · exact hb x (List.mem_of_mem_erase hx))
  rw [List.length_cons] at this
  omega
set_option maxRecDepth 100000 in
theorem ze_dialogsOf (D : Nat) (hs : zr_L μ 5 stk) (hb : ∀ k ∈ stk, k < 10) (x : Int32) : ∃ d, d ≤ 10 ∧ ze_E (D + 2) A_Desk_dialogsOf [.ref 1, .int x] (zm_mk μ) (some (.int (nI d))) (zm_mk μ) := by
  have hl := hs.1
  have key : ∃ r h', ze_G (D + 1) 4 (some .int) zc_X5_dialogsOf 4 [(3, .int (nI 0)), (2, .int (nI 0)), (0, .ref 1), (1, .int x)] [] (zm_mk μ) r h' ∧ ((∃ d, d ≤ 10 ∧ r = some (.int (nI d))) ∧ zm_mk μ = h') := by
    refine ze_loop (Q := fun i L hp => i ≤ stk.length ∧ zi_nl L = true ∧ zi_get L 0 = some (.ref 1) ∧ zi_get L 1 = some (.int x) ∧ zi_get L 3 = some (.int (nI i)) ∧ zm_mk μ = hp ∧ ∃ (d : Nat), zi_get L 2 = some (.int (nI d)) ∧ (d ≤ i)) (R := fun r h' => (∃ d, d ≤ 10 ∧ r = some (.int (nI d))) ∧ zm_mk μ = h') stk.length ?_ ?_ stk.length 0 _ _ (by omega) ⟨by omega, rfl, rfl, rfl, rfl, rfl, 0, rfl, Nat.le_refl _⟩
    · rintro i L _ hi ⟨-, nl, g0, g1, g3, rfl, d, g2, hq⟩
      have hkm : stk.getD i 0 ∈ stk := zl_mem hi
      obtain ⟨N1, E1⟩ := ze_Row_sizeL (μ := μ) D zd5_at hs
      obtain ⟨N2, E2⟩ := ze_Row_getL (μ := μ) D zd5_at hs hi
      generalize stk.getD i 0 = k at hkm E2
      have hk := hb k hkm
      have c1 : ¬ nI stk.length ≤ nI i := nI_ge hi (by omega)
      have cr := zr_c (μ := μ) zd5_at
      by_cases c2 : μ (zdW k) 4 = x
      · left
        refine ⟨zi_set (zi_set L 2 (.int (nI (d + 1)))) 3 (.int (nI (i + 1))), zm_mk μ, ⟨N1 + N2, 22, fun F m hF => ?_⟩, by omega, ?_, ?_, ?_, zi_get_set_eq, rfl, d + 1, ?_, by omega⟩
        · simp (maxDischargeDepth := 9) [zg_0, zg_aaload, zg_aload_n, zg_getfield, zg_goto, zg_iadd, zg_iconst, zg_if_icmp, zg_iinc, zg_iload_n, zg_invokevirtual, zg_ireturn, zg_istore_n, zf_X5_dialogsOf, zi_ld, zi_lda, zi_cmp, zi_retOk, zi_isI, zi_f3, zi_cr, zi_ci, zi_cn, zi_get_ne, zi_nl_i, zi_nl_r, zi_get_set_eq, nl, g0, g1, g3, g2, c1, zd_g, zq_Row_size, zq_Row_get, cr, E1 F (by omega), E2 F (by omega), zd_w hk, zw_g (zdW_at hk), c2, nI_1]
        · simp (maxDischargeDepth := 9) [zi_get_ne, zi_nl_i, zi_nl_r, zi_get_set_eq, nl]
        · simp (maxDischargeDepth := 9) [zi_get_ne, zi_nl_i, zi_nl_r, zi_get_set_eq, nl, g0]
        · simp (maxDischargeDepth := 9) [zi_get_ne, zi_nl_i, zi_nl_r, zi_get_set_eq, nl, g1]
        · simp (maxDischargeDepth := 9) [zi_get_ne, zi_nl_i, zi_nl_r, zi_get_set_eq, nl, g2]
      · left
        refine ⟨zi_set (zi_set L 2 (.int (nI d))) 3 (.int (nI (i + 1))), zm_mk μ, ⟨N1 + N2, 21, fun F m hF => ?_⟩, by omega, ?_, ?_, ?_, zi_get_set_eq, rfl, d, ?_, by omega⟩
        · simp (maxDischargeDepth := 9) [zg_0, zg_aaload, zg_aload_n, zg_getfield, zg_goto, zg_iadd, zg_iconst, zg_if_icmp, zg_iinc, zg_iload_n, zg_invokevirtual, zg_ireturn, zg_istore_n, zf_X5_dialogsOf, zi_ld, zi_lda, zi_cmp, zi_retOk, zi_isI, zi_f3, zi_cr, zi_ci, zi_cn, zi_get_ne, zi_nl_i, zi_nl_r, zi_get_set_eq, nl, g0, g1, g3, g2, c1, zd_g, zq_Row_size, zq_Row_get, cr, E1 F (by omega), E2 F (by omega), zd_w hk, zw_g (zdW_at hk), c2, nI_1]
        · simp (maxDischargeDepth := 9) [zi_get_ne, zi_nl_i, zi_nl_r, zi_get_set_eq, nl]
        · simp (maxDischargeDepth := 9) [zi_get_ne, zi_nl_i, zi_nl_r, zi_get_set_eq, nl, g0]
        · simp (maxDischargeDepth := 9) [zi_get_ne, zi_nl_i, zi_nl_r, zi_get_set_eq, nl, g1]
        · simp (maxDischargeDepth := 9) [zi_get_ne, zi_nl_i, zi_nl_r, zi_get_set_eq, nl, g2]
    · rintro L _ ⟨-, nl, g0, g1, g3, rfl, d, g2, hq⟩
      obtain ⟨N1, E1⟩ := ze_Row_sizeL (μ := μ) D zd5_at hs
      have cr := zr_c (μ := μ) zd5_at
      refine ⟨some (.int (nI d)), zm_mk μ, ⟨N1, 7, fun F m hF => ?_⟩, ⟨d, by omega, rfl⟩, rfl⟩
      simp [zg_0, zg_aaload, zg_aload_n, zg_getfield, zg_goto, zg_iadd, zg_iconst, zg_if_icmp, zg_iinc, zg_iload_n, zg_invokevirtual, zg_ireturn, zg_istore_n, zf_X5_dialogsOf, zi_ld, zi_lda, zi_cmp, zi_retOk, zi_isI, zi_f3, zi_cr, zi_ci, zi_cn, g0, g2, g3, zd_g, zq_Row_size, cr, E1 F (by omega)]
  obtain ⟨r, h', G, ⟨d, hd, rfl⟩, rfl⟩ := key
  refine ⟨d, hd, ze_in [(0, .ref 1), (1, .int x)] zq_Desk_dialogsOf (Nat.le_of_ble_eq_true rfl) rfl (ze_S.end ⟨0, 4, fun F m hF => ?_⟩ G)⟩
  simp [zg_0, zg_aaload, zg_aload_n, zg_getfield, zg_goto, zg_iadd, zg_iconst, zg_if_icmp, zg_iinc, zg_iload_n, zg_invokevirtual, zg_ireturn, zg_istore_n, zf_X5_dialogsOf, zi_ld, zi_lda, zi_cmp, zi_retOk, zi_isI, zi_f3, zi_cr, zi_ci, zi_cn, zi_get, zi_set, nI_0]
set_option maxRecDepth 100000 in
theorem ze_lowestDialogOf (D : Nat) (hs : zr_L μ 5 stk) (hb : ∀ k ∈ stk, k < 10) (x : Int32) : ∃ v : Int32, (v = -1 ∨ ∃ k, k < 10 ∧ v = nI k) ∧ ze_E (D + 2) A_Desk_lowestDialogOf [.ref 1, .int x] (zm_mk μ) (some (.int v)) (zm_mk μ) := by
  have hl := hs.1
  have key : ∃ r h', ze_G (D + 1) 3 (some .int) zc_X5_lowestDialogOf 2 [(2, .int (nI 0)), (0, .ref 1), (1, .int x)] [] (zm_mk μ) r h' ∧ ((∃ v : Int32, (v = -1 ∨ ∃ k, k < 10 ∧ v = nI k) ∧ r = some (.int v)) ∧ zm_mk μ = h') := by
    refine ze_loop (Q := fun i L hp => i ≤ stk.length ∧ zi_nl L = true ∧ zi_get L 0 = some (.ref 1) ∧ zi_get L 1 = some (.int x) ∧ zi_get L 2 = some (.int (nI i)) ∧ zm_mk μ = hp ∧ (True)) (R := fun r h' => (∃ v : Int32, (v = -1 ∨ ∃ k, k < 10 ∧ v = nI k) ∧ r = some (.int v)) ∧ zm_mk μ = h') stk.length ?_ ?_ stk.length 0 _ _ (by omega) ⟨by omega, rfl, rfl, rfl, rfl, rfl, trivial⟩
    · rintro i L _ hi ⟨-, nl, g0, g1, g2, rfl, hq⟩
      have hkm : stk.getD i 0 ∈ stk := zl_mem hi
      obtain ⟨N1, E1⟩ := ze_Row_sizeL (μ := μ) D zd5_at hs
      obtain ⟨N2, E2⟩ := ze_Row_getL (μ := μ) D zd5_at hs hi
      generalize stk.getD i 0 = k at hkm E2
      have hk := hb k hkm
      have c1 : ¬ nI stk.length ≤ nI i := nI_ge hi (by omega)
      have cr := zr_c (μ := μ) zd5_at
      by_cases c2 : μ (zdW k) 4 = x
      · right
        refine ⟨some (.int (nI k)), zm_mk μ, ⟨N1 + N2, 20, fun F m hF => ?_⟩, ⟨nI k, Or.inr ⟨k, hk, rfl⟩, rfl⟩, rfl⟩
        simp (maxDischargeDepth := 9) [zg_0, zg_aaload, zg_aload_n, zg_getfield, zg_goto, zg_iconst, zg_if_icmp, zg_iinc, zg_iload_n, zg_invokevirtual, zg_ireturn, zg_istore_n, zf_X5_lowestDialogOf, zi_ld, zi_lda, zi_cmp, zi_retOk, zi_isI, zi_f3, zi_cr, zi_ci, zi_cn, zi_get_ne, zi_nl_i, zi_nl_r, zi_get_set_eq, nl, g0, g1, g2, c1, zd_g, zq_Row_size, zq_Row_get, cr, E1 F (by omega), E2 F (by omega), zd_w hk, zw_g (zdW_at hk), c2, nI_1]
      · left
        refine ⟨zi_set L 2 (.int (nI (i + 1))), zm_mk μ, ⟨N1 + N2, 17, fun F m hF => ?_⟩, by omega, ?_, ?_, ?_, zi_get_set_eq, rfl, trivial⟩
        · simp (maxDischargeDepth := 9) [zg_0, zg_aaload, zg_aload_n, zg_getfield, zg_goto, zg_iconst, zg_if_icmp, zg_iinc, zg_iload_n, zg_invokevirtual, zg_ireturn, zg_istore_n, zf_X5_lowestDialogOf, zi_ld, zi_lda, zi_cmp, zi_retOk, zi_isI, zi_f3, zi_cr, zi_ci, zi_cn, zi_get_ne, zi_nl_i, zi_nl_r, zi_get_set_eq, nl, g0, g1, g2, c1, zd_g, zq_Row_size, zq_Row_get, cr, E1 F (by omega), E2 F (by omega), zd_w hk, zw_g (zdW_at hk), c2, nI_1]
        · simp (maxDischargeDepth := 9) [zi_get_ne, zi_nl_i, zi_nl_r, zi_get_set_eq, nl]
        · simp (maxDischargeDepth := 9) [zi_get_ne, zi_nl_i, zi_nl_r, zi_get_set_eq, nl, g0]
        · simp (maxDischargeDepth := 9) [zi_get_ne, zi_nl_i, zi_nl_r, zi_get_set_eq, nl, g1]
    · rintro L _ ⟨-, nl, g0, g1, g2, rfl, hq⟩
      obtain ⟨N1, E1⟩ := ze_Row_sizeL (μ := μ) D zd5_at hs
      have cr := zr_c (μ := μ) zd5_at
      refine ⟨some (.int (-1)), zm_mk μ, ⟨N1, 7, fun F m hF => ?_⟩, ⟨-1, Or.inl rfl, rfl⟩, rfl⟩
      simp [zg_0, zg_aaload, zg_aload_n, zg_getfield, zg_goto, zg_iconst, zg_if_icmp, zg_iinc, zg_iload_n, zg_invokevirtual, zg_ireturn, zg_istore_n, zf_X5_lowestDialogOf, zi_ld, zi_lda, zi_cmp, zi_retOk, zi_isI, zi_f3, zi_cr, zi_ci, zi_cn, g0, g2, zd_g, zq_Row_size, cr, E1 F (by omega)]
  obtain ⟨r, h', G, ⟨v, hv, rfl⟩, rfl⟩ := key
  refine ⟨v, hv, ze_in [(0, .ref 1), (1, .int x)] zq_Desk_lowestDialogOf (Nat.le_of_ble_eq_true rfl) rfl (ze_S.end ⟨0, 2, fun F m hF => ?_⟩ G)⟩
  simp [zg_0, zg_aaload, zg_aload_n, zg_getfield, zg_goto, zg_iconst, zg_if_icmp, zg_iinc, zg_iload_n, zg_invokevirtual, zg_ireturn, zg_istore_n, zf_X5_lowestDialogOf, zi_ld, zi_lda, zi_cmp, zi_retOk, zi_isI, zi_f3, zi_cr, zi_ci, zi_cn, zi_get, zi_set, nI_0]
/-- a stack of windows, each once; none but those and floating ones come to it -/
noncomputable def zd_stk (μ ν : zm_M) (stk stk' : List Nat) : Prop := zr_L ν 5 stk' ∧ stk'.Nodup ∧ (∀ k ∈ stk', k ∈ stk ∨ (k < 10 ∧ zd_flo μ k = true)) ∧ ∀ c, c ≠ 5 → c ≠ 6 → ν c = μ c
theorem zd_stk.trans {ν ξ : zm_M} {s1 s2 s3 : List Nat} (h : zd_stk μ ν s1 s2) (g : zd_stk ν ξ s2 s3) : zd_stk μ ξ s1 s3 := by
  obtain ⟨h1, h2, h3, h4⟩ := h
  obtain ⟨g1, g2, g3, g4⟩ := g
  refine ⟨g1, g2, fun k hk => ?_, fun c q1 q2 => (g4 c q1 q2).trans (h4 c q1 q2)⟩
  rcases g3 k hk with q | q
  · exact h3 k q
  · refine Or.inr ⟨q.1, ?_⟩
    have := q.2
    unfold zd_flo at *
    rw [h4 (zdW k) (by unfold zdW; omega) (by unfold zdW; omega)] at this
    exact this
theorem zd_stk_b {ν : zm_M} {s1 s2 : List Nat} (h : zd_stk μ ν s1 s2) (hb : ∀ k ∈ s1, k < 10) : ∀ k ∈ s2, k < 10 := fun k hk => (h.2.2.1 k hk).elim (hb k) (fun q => q.1)
set_option maxRecDepth 100000 in
theorem ze_raise (D : Nat) : ∀ (m d : Nat), d + m = 10 → ∀ (μ : zm_M) (stk : List Nat) (x : Int32), zr_L μ 5 stk → stk.Nodup → (∀ k ∈ stk, k < 10) → (x = -1 ∨ ∃ k, k < 10 ∧ x = nI k) →
    ∃ ν stk', ze_E (D + 4 + m) A_Desk_raise [.ref 1, .int x, .int (nI d)] (zm_mk μ) none (zm_mk ν) ∧ zd_stk μ ν stk stk' := by
  have h10 : (Int8.ofInt 10).toInt32 = (10 : Int32) := by decide
  intro m
  induction m with
  | zero =>
    intro d hd μ stk x hs hn hb hx
    have : d = 10 := by omega
    subst this
    refine ⟨μ, stk, ze_in [(0, .ref 1), (1, .int x), (2, .int (nI 10))] zq_Desk_raise (Nat.le_of_ble_eq_true rfl) rfl ⟨0, 4, fun F n hF => ?_⟩, hs, hn, fun k hk => Or.inl hk, fun _ _ _ => rfl⟩
    have c1 : (10 : Int32) ≤ nI 10 := by decide
    simp [zg_0, zg_aaload, zg_aload_n, zg_bipush, zg_getfield, zg_goto, zg_iadd, zg_iconst, zg_ifCond, zg_if_icmp, zg_iinc, zg_iload, zg_iload_n, zg_invokevirtual, zg_istore, zg_istore_n, zg_return, zf_X5_raise, zi_ld, zi_lda, zi_cmp, zi_retOk, zi_isI, zi_f3, zi_cr, zi_ci, zi_cn, zi_get, zi_set, h10, c1]
  | succ m ih =>
    intro d hd μ stk x hs hn hb hx
    have c1 : ¬ (10 : Int32) ≤ nI d := nI_ge (b := 10) (by omega) (by decide)
    have hno : ze_E (D + 3 + m + 1) A_Desk_isWindow [.ref 1, .int x] (zm_mk μ) (some (.int 0)) (zm_mk μ) → ∃ ν stk', ze_E (D + 4 + (m + 1)) A_Desk_raise [.ref 1, .int x, .int (nI d)] (zm_mk μ) none (zm_mk ν) ∧ zd_stk μ ν stk stk' := by
      rintro ⟨N1, E1⟩
      refine ⟨μ, stk, ze_in [(0, .ref 1), (1, .int x), (2, .int (nI d))] zq_Desk_raise (Nat.le_of_ble_eq_true rfl) rfl ⟨N1, 8, fun F n hF => ?_⟩, hs, hn, fun k hk => Or.inl hk, fun _ _ _ => rfl⟩
      have E1 := E1 F (by omega)
      rw [show D + 3 + m + 1 = D + 4 + m by omega] at E1
      simp [zg_0, zg_aaload, zg_aload_n, zg_bipush, zg_getfield, zg_goto, zg_iadd, zg_iconst, zg_ifCond, zg_if_icmp, zg_iinc, zg_iload, zg_iload_n, zg_invokevirtual, zg_istore, zg_istore_n, zg_return, zf_X5_raise, zi_ld, zi_lda, zi_cmp, zi_retOk, zi_isI, zi_f3, zi_cr, zi_ci, zi_cn, zi_get, zi_set, h10, c1, zq_Desk_isWindow, zd_c, E1]
    rcases hx with rfl | ⟨k, hk, rfl⟩
    · exact hno (ze_isWindow_out (D + 3 + m) (Or.inl (by decide)))
    · have E1 := ze_thW (μ := μ) (D + 3 + m) hk
      by_cases c2 : zd_th μ k = true
      · rw [if_pos c2] at E1
        rw [show D + 3 + m + 1 = D + 4 + m by omega] at E1
        obtain ⟨N1, E1⟩ := E1
        -- the window itself
        have first : ∃ ν stk', zd_stk μ ν stk stk' ∧ ze_S (D + 4 + m) 5 none zc_X5_raise 0 [(0, .ref 1), (1, .int (nI k)), (2, .int (nI d))] [] (zm_mk μ) 35 [(0, .ref 1), (1, .int (nI k)), (2, .int (nI d))] [] (zm_mk ν) := by
          have E2 := ze_floW (μ := μ) (D + 3 + m) hk
          rw [show D + 3 + m + 1 = D + 4 + m by omega] at E2
          obtain ⟨N2, E2⟩ := E2
          have cw := zw_c (μ := μ) (zdW_at hk)
          by_cases c3 : zd_flo μ k = true
          · rw [if_pos c3] at E2
            obtain ⟨ν, E3, l3, f3⟩ := ze_Row_putLast (μ := μ) (D + 1 + m) zd5_at hs hb hk (zl_er_len hn hb hk)
            rw [show D + 1 + m + 3 = D + 4 + m by omega] at E3
            obtain ⟨N3, E3⟩ := E3
            refine ⟨ν, stk.erase k ++ [k], ⟨l3, ?_, fun j hj => ?_, fun c q1 q2 => funext fun b => f3 c b q1 q2⟩, ⟨N1 + N2 + N3, 17, fun F n hF => ?_⟩⟩
            · exact (zl_app1 (R := stk.erase k) (hn.erase k) (fun h => ((zl_er_mem hn).mp h).1 rfl) (fun w hw => hb w (List.mem_of_mem_erase hw)) hk).1
            · rcases List.mem_append.mp hj with hj | hj
              · exact Or.inl (List.mem_of_mem_erase hj)
              · have : j = k := by simpa using hj
                subst this
                exact Or.inr ⟨hk, c3⟩
            · have cr := zr_c (μ := μ) zd5_at
              simp [zg_0, zg_aaload, zg_aload_n, zg_bipush, zg_getfield, zg_goto, zg_iadd, zg_iconst, zg_ifCond, zg_if_icmp, zg_iinc, zg_iload, zg_iload_n, zg_invokevirtual, zg_istore, zg_istore_n, zg_return, zf_X5_raise, zi_ld, zi_lda, zi_cmp, zi_retOk, zi_isI, zi_f3, zi_cr, zi_ci, zi_cn, zi_get, zi_set, h10, c1, zq_Desk_isWindow, zd_c, E1 F (by omega), zd_g, zd_w hk, zq_Win_isFloating, cw, E2 F (by omega), zq_Row_putLast, cr, E3 F (by omega)]
          · rw [if_neg c3] at E2
            refine ⟨μ, stk, ⟨hs, hn, fun j hj => Or.inl hj, fun _ _ _ => rfl⟩, ⟨N1 + N2, 13, fun F n hF => ?_⟩⟩
            simp [zg_0, zg_aaload, zg_aload_n, zg_bipush, zg_getfield, zg_goto, zg_iadd, zg_iconst, zg_ifCond, zg_if_icmp, zg_iinc, zg_iload, zg_iload_n, zg_invokevirtual, zg_istore, zg_istore_n, zg_return, zf_X5_raise, zi_ld, zi_lda, zi_cmp, zi_retOk, zi_isI, zi_f3, zi_cr, zi_ci, zi_cn, zi_get, zi_set, h10, c1, zq_Desk_isWindow, zd_c, E1 F (by omega), zd_g, zd_w hk, zq_Win_isFloating, cw, E2 F (by omega)]
        obtain ⟨ν0, stk0, hZ0, S0⟩ := first
        have hb0 := zd_stk_b hZ0 hb
        obtain ⟨dd, hdd, E4⟩ := ze_dialogsOf (μ := ν0) (D + 2 + m) hZ0.1 hb0 (nI k)
        rw [show D + 2 + m + 2 = D + 4 + m by omega] at E4
        obtain ⟨N4, E4⟩ := E4
        have key : ∃ r h', ze_G (D + 4 + m) 5 none zc_X5_raise 44 [(4, .int (nI 0)), (3, .int (nI dd)), (0, .ref 1), (1, .int (nI k)), (2, .int (nI d))] [] (zm_mk ν0) r h' ∧ (r = none ∧ ∃ ν, zm_mk ν = h' ∧ ∃ stk', zd_stk μ ν stk stk') := by
          refine ze_loop (Q := fun i L hp => i ≤ dd ∧ zi_nl L = true ∧ zi_get L 0 = some (.ref 1) ∧ zi_get L 1 = some (.int (nI k)) ∧ zi_get L 2 = some (.int (nI d)) ∧ zi_get L 3 = some (.int (nI dd)) ∧ zi_get L 4 = some (.int (nI i)) ∧ ∃ ν : zm_M, zm_mk ν = hp ∧ (∃ stk', zd_stk μ ν stk stk') ∧ (True)) (R := fun r h' => r = none ∧ ∃ ν, zm_mk ν = h' ∧ ∃ stk', zd_stk μ ν stk stk') dd ?_ ?_ dd 0 _ _ (by omega) ⟨by omega, rfl, rfl, rfl, rfl, rfl, rfl, ν0, rfl, ⟨stk0, hZ0⟩, trivial⟩
          · rintro i L _ hi ⟨-, nl, g0, g1, g2, g3, g4, ν, rfl, hZ, hq⟩
            obtain ⟨stk1, hZ⟩ := hZ
            have hb1 := zd_stk_b hZ hb
            obtain ⟨v, hv, E5⟩ := ze_lowestDialogOf (μ := ν) (D + 2 + m) hZ.1 hb1 (nI k)
            rw [show D + 2 + m + 2 = D + 4 + m by omega] at E5
            obtain ⟨N5, E5⟩ := E5
            obtain ⟨ξ, stk2, ⟨N6, E6⟩, hY⟩ := ih (d + 1) (by omega) ν stk1 v hZ.1 hZ.2.1 hb1 hv
            have hX := hZ.trans hY
            have c3 : ¬ nI dd ≤ nI i := nI_ge hi (by omega)
            left
            refine ⟨zi_set L 4 (.int (nI (i + 1))), zm_mk ξ, ⟨N5 + N6, 13, fun F m hF => ?_⟩, by omega, ?_, ?_, ?_, ?_, ?_, zi_get_set_eq, ξ, rfl, ⟨stk2, hX⟩, trivial⟩
            · simp (maxDischargeDepth := 9) [zg_0, zg_aaload, zg_aload_n, zg_bipush, zg_getfield, zg_goto, zg_iadd, zg_iconst, zg_ifCond, zg_if_icmp, zg_iinc, zg_iload, zg_iload_n, zg_invokevirtual, zg_istore, zg_istore_n, zg_return, zf_X5_raise, zi_ld, zi_lda, zi_cmp, zi_retOk, zi_isI, zi_f3, zi_cr, zi_ci, zi_cn, zi_get_ne, zi_nl_i, zi_nl_r, zi_get_set_eq, nl, g0, g1, g2, g3, g4, c3, zq_Desk_lowestDialogOf, zq_Desk_raise, zd_c, E5 F (by omega), E6 F (by omega), nI_1]
            · simp (maxDischargeDepth := 9) [zi_get_ne, zi_nl_i, zi_nl_r, zi_get_set_eq, nl]
            · simp (maxDischargeDepth := 9) [zi_get_ne, zi_nl_i, zi_nl_r, zi_get_set_eq, nl, g0]
            · simp (maxDischargeDepth := 9) [zi_get_ne, zi_nl_i, zi_nl_r, zi_get_set_eq, nl, g1]
            · simp (maxDischargeDepth := 9) [zi_get_ne, zi_nl_i, zi_nl_r, zi_get_set_eq, nl, g2]
            · simp (maxDischargeDepth := 9) [zi_get_ne, zi_nl_i, zi_nl_r, zi_get_set_eq, nl, g3]
          · rintro L _ ⟨-, nl, g0, g1, g2, g3, g4, ν, rfl, hZ, hq⟩
            refine ⟨none, zm_mk ν, ⟨0, 4, fun F m hF => ?_⟩, rfl, ν, rfl, hZ⟩
            simp [zg_0, zg_aaload, zg_aload_n, zg_bipush, zg_getfield, zg_goto, zg_iadd, zg_iconst, zg_ifCond, zg_if_icmp, zg_iinc, zg_iload, zg_iload_n, zg_invokevirtual, zg_istore, zg_istore_n, zg_return, zf_X5_raise, zi_ld, zi_lda, zi_cmp, zi_retOk, zi_isI, zi_f3, zi_cr, zi_ci, zi_cn, g0, g3, g4]
        obtain ⟨r, h', G, rfl, ν, rfl, stk', hZ⟩ := key
        refine ⟨ν, stk', ze_in [(0, .ref 1), (1, .int (nI k)), (2, .int (nI d))] zq_Desk_raise (Nat.le_of_ble_eq_true rfl) rfl (S0.end (ze_S.end (p2 := 44) (L2 := [(4, .int (nI 0)), (3, .int (nI dd)), (0, .ref 1), (1, .int (nI k)), (2, .int (nI d))]) (s2 := []) (h2 := zm_mk ν0) ⟨N4, 6, fun F n hF => ?_⟩ G)), hZ⟩
        simp [zg_0, zg_aaload, zg_aload_n, zg_bipush, zg_getfield, zg_goto, zg_iadd, zg_iconst, zg_ifCond, zg_if_icmp, zg_iinc, zg_iload, zg_iload_n, zg_invokevirtual, zg_istore, zg_istore_n, zg_return, zf_X5_raise, zi_ld, zi_lda, zi_cmp, zi_retOk, zi_isI, zi_f3, zi_cr, zi_ci, zi_cn, zi_get, zi_set, zq_Desk_dialogsOf, zd_c, E4 F (by omega), nI_0]
      · rw [if_neg c2] at E1
        exact hno E1
end ZR1
end
section
/-! the desk: trees laid; the focus; areas asked -/
section ZF1
variable {μ : zm_M} {row stk : List Nat} {R : List Nat} {t : zy_F}
/-- the tree of a screen is laid -/
noncomputable def zd_laid (ν : zm_M) (s : Nat) (R : List Nat) (t : zy_F) : Prop := zy_wf t → zy_laid (zt_P ν (zdT s)) (ν (zdT s + 7)) (ν (zdT s + 8)) (zy_ls 0 (ν (zdT s + 7)) (zt_lf (ν (zdT s + 5)) (ν (zdT s + 3)) R)) (zy_ls 1 (ν (zdT s + 7)) (zt_lf (ν (zdT s + 6)) (ν (zdT s + 3)) R)) t 0 0 (ν (zdZ s) 0) (ν (zdZ s) 1)
theorem ze_Tree_layC (D : Nat) {s : Nat} (hs : s < 3) (hC : zt_C μ (zdT s) R t) : ∃ ν, ze_E (D + 5) A_Tree_lay [.ref (zdT s + 1), .ref (zdZ s + 1)] (zm_mk μ) none (zm_mk ν) ∧ zt_frL (zdT s) μ ν ∧ zd_laid ν s R t := by
  obtain ⟨⟨-, ⟨k4, k5, k6, -⟩, -⟩, ho, hl⟩ := hC
  obtain ⟨ν, E, f, d⟩ := ze_Tree_lay (μ := μ) D (zdT_at hs) k4 k6 k5 ho (hl 0 (by decide)) (hl 1 (by decide)) (zdZ_A hs) (by unfold zdZ zdT; omega)
  refine ⟨ν, E, f, fun hw => ?_⟩
  have := d hw
  have r : ∀ j, j < 19 → ν (zdT s + j) = μ (zdT s + j) := fun j hj => f _ (by omega) (by omega) (by omega) (by omega)
  rw [r 7 (by omega), r 8 (by omega), r 5 (by omega), r 6 (by omega), r 3 (by omega), f (zdZ s) (by unfold zdZ zdT; omega) (by unfold zdZ zdT; omega) (by unfold zdZ zdT; omega) (by unfold zdZ zdT; omega)]
  exact this
/-- only the areas of the three trees differ -/
noncomputable def zd_frA (μ ν : zm_M) : Prop := ∀ c, (∀ s, s < 3 → c ≠ zdT s + 19 ∧ c ≠ zdT s + 20 ∧ c ≠ zdT s + 22 ∧ c ≠ zdT s + 23) → ν c = μ c
set_option maxRecDepth 100000 in
theorem ze_layTrees (D : Nat) {Rs : Nat → List Nat} {ts : Nat → zy_F} (hC : ∀ s, s < 3 → zt_C μ (zdT s) (Rs s) (ts s)) : ∃ ν, ze_E (D + 6) A_Desk_layTrees [.ref 1] (zm_mk μ) none (zm_mk ν) ∧ zd_frA μ ν ∧ ∀ s, s < 3 → zd_laid ν s (Rs s) (ts s) := by
  have key : ∃ r h', ze_G (D + 5) 2 none zc_X5_layTrees 2 [(1, .int (nI 0)), (0, .ref 1)] [] (zm_mk μ) r h' ∧ (r = none ∧ ∃ ν, zm_mk ν = h' ∧ zd_frA μ ν ∧ ∀ s, s < 3 → zd_laid ν s (Rs s) (ts s)) := by
    refine ze_loop (Q := fun i L hp => i ≤ 3 ∧ zi_nl L = true ∧ zi_get L 0 = some (.ref 1) ∧ zi_get L 1 = some (.int (nI i)) ∧ ∃ ν : zm_M, zm_mk ν = hp ∧ (zd_frA μ ν) ∧ (∀ s, s < i → zd_laid ν s (Rs s) (ts s)) ∧ (True)) (R := fun r h' => r = none ∧ ∃ ν, zm_mk ν = h' ∧ zd_frA μ ν ∧ ∀ s, s < 3 → zd_laid ν s (Rs s) (ts s)) 3 ?_ ?_ 3 0 _ _ (by omega) ⟨by omega, rfl, rfl, rfl, μ, rfl, fun _ _ => rfl, (fun s hs => absurd hs (by omega)), trivial⟩
    · rintro i L _ hi ⟨-, nl, g0, g1, ν, rfl, f, d, hq⟩
      have c1 : ¬ (3 : Int32) ≤ nI i := nI_ge (b := 3) hi (by decide)
      have hCν : zt_C ν (zdT i) (Rs i) (ts i) := by
        obtain ⟨⟨i1, i2, i3, i4, i5, i6⟩, ⟨o1, o2⟩, l⟩ := hC i hi
        have r : ∀ j, j < 19 → ν (zdT i + j) = μ (zdT i + j) := fun j hj => f _ (fun s hs => by unfold zdT; omega)
        have r0 : ν (zdT i) = μ (zdT i) := r 0 (by omega)
        refine ⟨zt_same.I ⟨r 1 (by omega), r 2 (by omega), r 3 (by omega), r 5 (by omega), r 6 (by omega), r 7 (by omega), r 8 (by omega), r 9 (by omega), r 10 (by omega), r 11 (by omega), r 12 (by omega), by rw [r0]⟩ (hC i hi).1, ⟨by rw [r0]; exact o1, by rw [r 13 (by omega)]; exact o2⟩, fun a ha => ?_⟩
        have e16 : ν (zdT i + 16 + a) = μ (zdT i + 16 + a) := by rw [Nat.add_assoc]; exact r (16 + a) (by omega)
        have e5 : ν (zdT i + 5 + a) = μ (zdT i + 5 + a) := by rw [Nat.add_assoc]; exact r (5 + a) (by omega)
        rw [e16, e5, r 7 (by omega), r 3 (by omega)]
        exact l a ha
      obtain ⟨ξ, ⟨N1, E1⟩, f1, d1⟩ := ze_Tree_layC (μ := ν) D hi hCν
      have f' : zd_frA μ ξ := fun c hc => (f1 c (hc i hi).1 (hc i hi).2.1 (hc i hi).2.2.1 (hc i hi).2.2.2).trans (f c hc)
      have d' : ∀ s, s < i + 1 → zd_laid ξ s (Rs s) (ts s) := by
        intro s hs
        by_cases e : s = i
        · subst e
          exact d1
        · have := d s (by omega)
          have r : ∀ j, j < 24 → ξ (zdT s + j) = ν (zdT s + j) := fun j hj => f1 _ (by unfold zdT; omega) (by unfold zdT; omega) (by unfold zdT; omega) (by unfold zdT; omega)
          have rz : ξ (zdZ s) = ν (zdZ s) := f1 _ (by unfold zdZ zdT; omega) (by unfold zdZ zdT; omega) (by unfold zdZ zdT; omega) (by unfold zdZ zdT; omega)
          unfold zd_laid at *
          have eP : zt_P ξ (zdT s) = zt_P ν (zdT s) := by
            funext n x y w v
            unfold zt_P
            rw [r 19 (by omega), r 20 (by omega), r 22 (by omega), r 23 (by omega)]
          rw [eP, r 7 (by omega), r 8 (by omega), r 5 (by omega), r 6 (by omega), r 3 (by omega), rz]
          exact this
      obtain ⟨lc, cc⟩ := zt_c (μ := ν) (zdT_at hi)
      left
      refine ⟨zi_set L 1 (.int (nI (i + 1))), zm_mk ξ, ⟨N1, 16, fun F m hF => ?_⟩, by omega, ?_, ?_, zi_get_set_eq, ξ, rfl, f', d', trivial⟩
      · simp (maxDischargeDepth := 9) [zg_0, zg_aaload, zg_aload_n, zg_getfield, zg_goto, zg_iconst, zg_if_icmp, zg_iinc, zg_iload_n, zg_invokevirtual, zg_istore_n, zg_return, zf_X5_layTrees, zi_ld, zi_lda, zi_cmp, zi_retOk, zi_isI, zi_f3, zi_cr, zi_ci, zi_cn, zi_get_ne, zi_nl_i, zi_nl_r, zi_get_set_eq, nl, g0, g1, c1, zd_g, zd_s hi, zdS_g hi, zq_Tree_lay, cc, E1 F (by omega), nI_1]
      · simp (maxDischargeDepth := 9) [zi_get_ne, zi_nl_i, zi_nl_r, zi_get_set_eq, nl]
      · simp (maxDischargeDepth := 9) [zi_get_ne, zi_nl_i, zi_nl_r, zi_get_set_eq, nl, g0]
    · rintro L _ ⟨-, nl, g0, g1, ν, rfl, f, d, hq⟩
      have c1 : (3 : Int32) ≤ nI 3 := by decide
      refine ⟨none, zm_mk ν, ⟨0, 4, fun F m hF => ?_⟩, rfl, ν, rfl, f, d⟩
      simp [zg_0, zg_aaload, zg_aload_n, zg_getfield, zg_goto, zg_iconst, zg_if_icmp, zg_iinc, zg_iload_n, zg_invokevirtual, zg_istore_n, zg_return, zf_X5_layTrees, zi_ld, zi_lda, zi_cmp, zi_retOk, zi_isI, zi_f3, zi_cr, zi_ci, zi_cn, g0, g1, c1]
  obtain ⟨r, h', G, rfl, ν, rfl, f, d⟩ := key
  refine ⟨ν, ze_in [(0, .ref 1)] zq_Desk_layTrees (Nat.le_of_ble_eq_true rfl) rfl (ze_S.end ⟨0, 2, fun F m hF => ?_⟩ G), f, d⟩
  simp [zg_0, zg_aaload, zg_aload_n, zg_getfield, zg_goto, zg_iconst, zg_if_icmp, zg_iinc, zg_iload_n, zg_invokevirtual, zg_istore_n, zg_return, zf_X5_layTrees, zi_ld, zi_lda, zi_cmp, zi_retOk, zi_isI, zi_f3, zi_cr, zi_ci, zi_cn, zi_get, zi_set, nI_0]
/-- the homes of a Tree's tabs are nodes -/
theorem zt_I_hm {T : Nat} (hI : zt_I μ T R t) : zt_hm μ T := by
  intro k hk
  obtain ⟨-, ⟨k4, -, k6, -⟩, -, k9, k10, -⟩ := hI
  by_cases c : k ∈ R
  · obtain ⟨n, hn, e⟩ := k9 k c
    have := zy_lvs_lt (k4.imp (·.1) (·.1)) k6 n hn
    exact Or.inr (by rw [e]; exact zm_in this (by decide))
  · exact Or.inl (by rw [k10 k hk c]; decide)
set_option maxRecDepth 100000 in
/-- isShownTile(k), its screen known if it is tiled -/
theorem ze_isShownTile (D : Nat) {k s : Nat} (hk : k < 10) (hs : s < 3) (hsc : zd_til μ k = true → μ (zdW k) 5 = nI s ∧ zt_I μ (zdT s) R t) :
    ze_E (D + 3) A_Desk_isShownTile [.ref 1, .int (nI k)] (zm_mk μ) (some (.int (if zd_til μ k = true ∧ (¬ μ (zdT s + 3) k < 0 ∧ μ (zdT s + 12) (μ (zdT s + 3) k).toNatClampNeg = nI k) then 1 else 0))) (zm_mk μ) := by
  obtain ⟨N1, E1⟩ := ze_thW (μ := μ) (D + 1) hk
  obtain ⟨N2, E2⟩ := ze_tilW (μ := μ) (D + 1) hk
  have cw := zw_c (μ := μ) (zdW_at hk)
  by_cases c1 : zd_th μ k = true
  · rw [if_pos c1] at E1
    by_cases c2 : zd_til μ k = true
    · rw [if_pos c2] at E2
      obtain ⟨h1, h2⟩ := hsc c2
      obtain ⟨N3, E3⟩ := ze_treeOf (μ := μ) (D + 1) hk hs h1
      obtain ⟨N4, E4⟩ := ze_Tree_isShown (μ := μ) D (zdT_at hs) (zt_I_hm h2) hk
      obtain ⟨lc, ct⟩ := zt_c (μ := μ) (zdT_at hs)
      by_cases c3 : ¬ μ (zdT s + 3) k < 0 ∧ μ (zdT s + 12) (μ (zdT s + 3) k).toNatClampNeg = nI k
      · have z : zb (¬ μ (zdT s + 3) k < 0 ∧ μ (zdT s + 12) (μ (zdT s + 3) k).toNatClampNeg = nI k) = 1 := if_pos c3
        rw [z] at E4
        rw [if_pos ⟨c2, c3⟩]
        refine ze_in [(0, .ref 1), (1, .int (nI k))] zq_Desk_isShownTile (Nat.le_of_ble_eq_true rfl) rfl ⟨N1 + N2 + N3 + N4, 19, fun F m hF => ?_⟩
        simp [zg_0, zg_aaload, zg_aload_n, zg_getfield, zg_goto, zg_iconst, zg_ifCond, zg_iload_n, zg_invokevirtual, zg_ireturn, zf_X5_isShownTile, zi_ld, zi_lda, zi_cmp, zi_retOk, zi_isI, zi_f3, zi_cr, zi_ci, zi_cn, zi_get, zi_set, zq_Desk_isWindow, zd_c, E1 F (by omega), zd_g, zd_w hk, zq_Win_isTiled, cw, E2 F (by omega), zq_Desk_treeOf, E3 F (by omega), zq_Tree_isShown, ct, E4 F (by omega)]
      · have z : zb (¬ μ (zdT s + 3) k < 0 ∧ μ (zdT s + 12) (μ (zdT s + 3) k).toNatClampNeg = nI k) = 0 := if_neg c3
        rw [z] at E4
        rw [if_neg (fun q => c3 q.2)]
        refine ze_in [(0, .ref 1), (1, .int (nI k))] zq_Desk_isShownTile (Nat.le_of_ble_eq_true rfl) rfl ⟨N1 + N2 + N3 + N4, 18, fun F m hF => ?_⟩
        simp [zg_0, zg_aaload, zg_aload_n, zg_getfield, zg_goto, zg_iconst, zg_ifCond, zg_iload_n, zg_invokevirtual, zg_ireturn, zf_X5_isShownTile, zi_ld, zi_lda, zi_cmp, zi_retOk, zi_isI, zi_f3, zi_cr, zi_ci, zi_cn, zi_get, zi_set, zq_Desk_isWindow, zd_c, E1 F (by omega), zd_g, zd_w hk, zq_Win_isTiled, cw, E2 F (by omega), zq_Desk_treeOf, E3 F (by omega), zq_Tree_isShown, ct, E4 F (by omega)]
    · rw [if_neg c2] at E2
      rw [if_neg (fun q => c2 q.1)]
      refine ze_in [(0, .ref 1), (1, .int (nI k))] zq_Desk_isShownTile (Nat.le_of_ble_eq_true rfl) rfl ⟨N1 + N2, 12, fun F m hF => ?_⟩
      simp [zg_0, zg_aaload, zg_aload_n, zg_getfield, zg_goto, zg_iconst, zg_ifCond, zg_iload_n, zg_invokevirtual, zg_ireturn, zf_X5_isShownTile, zi_ld, zi_lda, zi_cmp, zi_retOk, zi_isI, zi_f3, zi_cr, zi_ci, zi_cn, zi_get, zi_set, zq_Desk_isWindow, zd_c, E1 F (by omega), zd_g, zd_w hk, zq_Win_isTiled, cw, E2 F (by omega)]
  · rw [if_neg c1] at E1
    have c2 : ¬ zd_til μ k = true := fun q => c1 (decide_eq_true (of_decide_eq_true q).1)
    rw [if_neg (fun q => c2 q.1)]
    refine ze_in [(0, .ref 1), (1, .int (nI k))] zq_Desk_isShownTile (Nat.le_of_ble_eq_true rfl) rfl ⟨N1, 6, fun F m hF => ?_⟩
    simp [zg_0, zg_aaload, zg_aload_n, zg_getfield, zg_goto, zg_iconst, zg_ifCond, zg_iload_n, zg_invokevirtual, zg_ireturn, zf_X5_isShownTile, zi_ld, zi_lda, zi_cmp, zi_retOk, zi_isI, zi_f3, zi_cr, zi_ci, zi_cn, zi_get, zi_set, zq_Desk_isWindow, zd_c, E1 F (by omega)]
set_option maxRecDepth 100000 in
theorem ze_isShownTile_out (D : Nat) {x : Int32} (hx : x < 0 ∨ (10 : Int32) ≤ x) : ze_E (D + 2) A_Desk_isShownTile [.ref 1, .int x] (zm_mk μ) (some (.int 0)) (zm_mk μ) := by
  obtain ⟨N1, E1⟩ := ze_isWindow_out (μ := μ) D hx
  refine ze_in [(0, .ref 1), (1, .int x)] zq_Desk_isShownTile (Nat.le_of_ble_eq_true rfl) rfl ⟨N1, 6, fun F m hF => ?_⟩
  simp [zg_0, zg_aaload, zg_aload_n, zg_getfield, zg_goto, zg_iconst, zg_ifCond, zg_iload_n, zg_invokevirtual, zg_ireturn, zf_X5_isShownTile, zi_ld, zi_lda, zi_cmp, zi_retOk, zi_isI, zi_f3, zi_cr, zi_ci, zi_cn, zi_get, zi_set, zq_Desk_isWindow, zd_c, E1 F (by omega)]
set_option maxRecDepth 100000 in
/-- giveFocus(k); its screen known if it is tiled -/
theorem ze_giveFocus (D : Nat) {k s : Nat} (hk : k < 10) (hs : s < 3) (hrow : zr_L μ 3 row) (hrn : row.Nodup) (hrb : ∀ j ∈ row, j < 10) (hstk : zr_L μ 5 stk) (hsn : stk.Nodup) (hsb : ∀ j ∈ stk, j < 10) (hsc : zd_til μ k = true → μ (zdW k) 5 = nI s ∧ zt_I μ (zdT s) R t ∧ k ∈ R) :
    ∃ ν stk', ze_E (D + 15) A_Desk_giveFocus [.ref 1, .int (nI k)] (zm_mk μ) none (zm_mk ν) ∧ zr_L ν 3 (k :: row.erase k) ∧ (zr_L ν 5 stk' ∧ stk'.Nodup ∧ ∀ j ∈ stk', j ∈ stk ∨ (j < 10 ∧ zd_flo μ j = true)) ∧
      (∀ c b, c ≠ 3 → c ≠ 4 → c ≠ 5 → c ≠ 6 → ¬ (zd_til μ k = true ∧ c = zdT s + 12 ∧ nI b = μ (zdT s + 3) k) → ν c b = μ c b) ∧ (zd_til μ k = true → ν (zdT s + 12) (μ (zdT s + 3) k).toNatClampNeg = nI k) := by
  obtain ⟨ν1, E1, l1, f1⟩ := ze_Row_putFirst (μ := μ) (D + 10) zd3_at hrow hrb hk (zl_er_len hrn hrb hk)
  have f1' : ∀ c, c ≠ 3 → c ≠ 4 → ν1 c = μ c := fun c h1 h2 => funext fun b => f1 c b h1 h2
  obtain ⟨N1, E1⟩ := E1
  have ew : ν1 (zdW k) = μ (zdW k) := f1' _ (by unfold zdW; omega) (by unfold zdW; omega)
  have et : zd_til ν1 k = zd_til μ k := by unfold zd_til; rw [ew]
  obtain ⟨N2, E2⟩ := ze_tilW (μ := ν1) (D + 13) hk
  rw [et] at E2
  have cr := zr_c (μ := μ) zd3_at
  have cw := zw_c (μ := ν1) (zdW_at hk)
  by_cases c2 : zd_til μ k = true
  · rw [if_pos c2] at E2
    obtain ⟨h1, h2, h3⟩ := hsc c2
    obtain ⟨N3, E3⟩ := ze_treeOf (μ := ν1) (D + 13) hk hs (by rw [ew]; exact h1)
    have eT : ∀ j, ν1 (zdT s + j) = μ (zdT s + j) := fun j => f1' _ (by unfold zdT; omega) (by unfold zdT; omega)
    have hm : zt_hm ν1 (zdT s) := by
      have := zt_I_hm h2
      unfold zt_hm at *
      rw [eT]
      exact this
    obtain ⟨N4, E4⟩ := ze_Tree_show (μ := ν1) (D + 12) (zdT_at hs) hm hk
    obtain ⟨n, hn, en⟩ := h2.2.2.2.1 k h3
    have hn19 := h2.2.1.2.2.1 n (zt_I_lv h2 hn).2
    have hneg : ¬ ν1 (zdT s + 3) k < 0 := by rw [eT, en]; exact nI_pos (by omega)
    rw [if_neg hneg, eT, en, nI_clamp (by omega)] at E4
    let ν2 := zm_up ν1 (zdT s + 12) n (nI k)
    have f2 : ∀ c, c ≠ zdT s + 12 → ν2 c = ν1 c := fun c hc => zm_up_row hc
    have m2 : zm_up ν1 (zdT s + 12) n (nI k) = ν2 := rfl
    rw [m2] at E4
    have hstk2 : zr_L ν2 5 stk := zr_L_congr (by rw [f2 _ (by unfold zdT; omega), f1' _ (by decide) (by decide)]) (by rw [f2 _ (by unfold zdT; omega), f1' _ (by decide) (by decide)]) hstk
    obtain ⟨ν, stk', ⟨N5, E5⟩, hZ⟩ := ze_raise D 10 0 rfl ν2 stk (nI k) hstk2 hsn hsb (Or.inr ⟨k, hk, rfl⟩)
    obtain ⟨z1, z2, z3, z4⟩ := hZ
    have ef : ∀ j, j < 10 → zd_flo ν2 j = zd_flo μ j := fun j hj => by
      unfold zd_flo
      rw [f2 _ (by unfold zdT zdW; omega), f1' _ (by unfold zdW; omega) (by unfold zdW; omega)]
    refine ⟨ν, stk', ?_, ?_, ⟨z1, z2, fun j hj => (z3 j hj).imp id (fun q => ⟨q.1, by rw [← ef j q.1]; exact q.2⟩)⟩, fun c b q1 q2 q3 q4 q5 => ?_, fun _ => ?_⟩
    · obtain ⟨lc, ct⟩ := zt_c (μ := ν1) (zdT_at hs)
      refine ze_in [(0, .ref 1), (1, .int (nI k))] zq_Desk_giveFocus (Nat.le_of_ble_eq_true rfl) rfl ⟨N1 + N2 + N3 + N4 + N5, 20, fun F m hF => ?_⟩
      have E5 := E5 F (by omega)
      rw [nI_0] at E5
      simp [zg_0, zg_aaload, zg_aload_n, zg_getfield, zg_iconst, zg_ifCond, zg_iload_n, zg_invokevirtual, zg_return, zf_X5_giveFocus, zi_ld, zi_lda, zi_cmp, zi_retOk, zi_isI, zi_f3, zi_cr, zi_ci, zi_cn, zi_get, zi_set, zd_g, zq_Row_putFirst, cr, E1 F (by omega), zd_w hk, zq_Win_isTiled, cw, E2 F (by omega), zq_Desk_treeOf, zd_c, E3 F (by omega), zq_Tree_show, ct, E4 F (by omega), zq_Desk_raise, E5]
    · exact zr_L_congr (by rw [z4 _ (by decide) (by decide), f2 _ (by unfold zdT; omega)]) (by rw [z4 _ (by decide) (by decide), f2 _ (by unfold zdT; omega)]) l1
    · rw [z4 c q3 q4, ← f1' c q1 q2]
      refine zm_up_ne (fun e => q5 ⟨c2, e.1, ?_⟩)
      rw [e.2, en]
    · rw [z4 _ (by unfold zdT; omega) (by unfold zdT; omega), en, nI_clamp (by omega)]
      exact zm_up_eq
  · rw [if_neg c2] at E2
    have hstk2 : zr_L ν1 5 stk := zr_L_congr (f1' _ (by decide) (by decide)) (f1' _ (by decide) (by decide)) hstk
    obtain ⟨ν, stk', ⟨N5, E5⟩, hZ⟩ := ze_raise D 10 0 rfl ν1 stk (nI k) hstk2 hsn hsb (Or.inr ⟨k, hk, rfl⟩)
    obtain ⟨z1, z2, z3, z4⟩ := hZ
    have ef : ∀ j, j < 10 → zd_flo ν1 j = zd_flo μ j := fun j hj => by
      unfold zd_flo
      rw [f1' _ (by unfold zdW; omega) (by unfold zdW; omega)]
    refine ⟨ν, stk', ?_, ?_, ⟨z1, z2, fun j hj => (z3 j hj).imp id (fun q => ⟨q.1, by rw [← ef j q.1]; exact q.2⟩)⟩, fun c b q1 q2 q3 q4 q5 => ?_, fun q => absurd q c2⟩
    · refine ze_in [(0, .ref 1), (1, .int (nI k))] zq_Desk_giveFocus (Nat.le_of_ble_eq_true rfl) rfl ⟨N1 + N2 + N5, 15, fun F m hF => ?_⟩
      have E5 := E5 F (by omega)
      rw [nI_0] at E5
      simp [zg_0, zg_aaload, zg_aload_n, zg_getfield, zg_iconst, zg_ifCond, zg_iload_n, zg_invokevirtual, zg_return, zf_X5_giveFocus, zi_ld, zi_lda, zi_cmp, zi_retOk, zi_isI, zi_f3, zi_cr, zi_ci, zi_cn, zi_get, zi_set, zd_g, zq_Row_putFirst, cr, E1 F (by omega), zd_w hk, zq_Win_isTiled, cw, E2 F (by omega), zd_c, zq_Desk_raise, E5]
    · exact zr_L_congr (z4 _ (by decide) (by decide)) (z4 _ (by decide) (by decide)) l1
    · rw [z4 c q3 q4, f1' c q1 q2]
end ZF1
end
section
/-! the desk: what is at hand -/
section ZH1
variable {μ : zm_M} {row : List Nat} {R : List Nat} {t : zy_F}
noncomputable def zd_sah (μ : zm_M) : List Nat → Int32
  | [] => zd_lsb μ (-1)
  | k :: l => if zd_sti μ k = true then zd_sah μ l else μ (zdW k) 5
set_option maxRecDepth 100000 in
theorem ze_screenAtHand (D : Nat) (hrow : zr_L μ 3 row) (hrb : ∀ j ∈ row, j < 10) : ze_E (D + 2) A_Desk_screenAtHand [.ref 1] (zm_mk μ) (some (.int (zd_sah μ row))) (zm_mk μ) := by
  have hl := hrow.1
  have key : ∃ r h', ze_G (D + 1) 3 (some .int) zc_X5_screenAtHand 2 [(1, .int (nI 0)), (0, .ref 1)] [] (zm_mk μ) r h' ∧ (r = some (.int (zd_sah μ row)) ∧ zm_mk μ = h') := by
    refine ze_loop (Q := fun i L hp => i ≤ row.length ∧ zi_nl L = true ∧ zi_get L 0 = some (.ref 1) ∧ zi_get L 1 = some (.int (nI i)) ∧ zm_mk μ = hp ∧ (zd_sah μ row = zd_sah μ (row.drop i))) (R := fun r h' => r = some (.int (zd_sah μ row)) ∧ zm_mk μ = h') row.length ?_ ?_ row.length 0 _ _ (by omega) ⟨by omega, rfl, rfl, rfl, rfl, rfl⟩
    · rintro i L _ hi ⟨-, nl, g0, g1, rfl, hq⟩
      have hkm : row.getD i 0 ∈ row := zl_mem hi
      rw [zl_drop hi] at hq
      obtain ⟨N1, E1⟩ := ze_Row_sizeL (μ := μ) D zd3_at hrow
      obtain ⟨N2, E2⟩ := ze_Row_getL (μ := μ) D zd3_at hrow hi
      generalize row.getD i 0 = k at hkm E2 hq
      have hk := hrb k hkm
      have hq' : zd_sah μ row = if zd_sti μ k = true then zd_sah μ (row.drop (i + 1)) else μ (zdW k) 5 := hq
      have c1 : ¬ nI row.length ≤ nI i := nI_ge hi (by omega)
      have cr := zr_c (μ := μ) zd3_at
      have cw := zw_c (μ := μ) (zdW_at hk)
      obtain ⟨N3, E3⟩ := ze_stiW (μ := μ) D hk
      by_cases c2 : zd_sti μ k = true
      · rw [if_pos c2] at E3 hq'
        left
        refine ⟨zi_set (zi_set L 2 (.ref (zdW k + 1))) 1 (.int (nI (i + 1))), zm_mk μ, ⟨N1 + N2 + N3, 18, fun F m hF => ?_⟩, by omega, ?_, ?_, zi_get_set_eq, rfl, hq'⟩
        · simp (maxDischargeDepth := 9) [zg_0, zg_aaload, zg_aload_n, zg_astore_n, zg_getfield, zg_goto, zg_iconst, zg_ifCond, zg_if_icmp, zg_iinc, zg_iload_n, zg_invokevirtual, zg_ireturn, zg_istore_n, zf_X5_screenAtHand, zi_ld, zi_lda, zi_cmp, zi_retOk, zi_isI, zi_f3, zi_cr, zi_ci, zi_cn, zi_get_ne, zi_nl_i, zi_nl_r, zi_get_set_eq, nl, g0, g1, c1, zd_g, zq_Row_size, zq_Row_get, cr, E1 F (by omega), E2 F (by omega), zd_w hk, zq_Win_isSticky, cw, E3 F (by omega), nI_1]
        · simp (maxDischargeDepth := 9) [zi_get_ne, zi_nl_i, zi_nl_r, zi_get_set_eq, nl]
        · simp (maxDischargeDepth := 9) [zi_get_ne, zi_nl_i, zi_nl_r, zi_get_set_eq, nl, g0]
      · rw [if_neg c2] at E3 hq'
        right
        refine ⟨some (.int (μ (zdW k) 5)), zm_mk μ, ⟨N1 + N2 + N3, 19, fun F m hF => ?_⟩, by rw [hq'], rfl⟩
        simp (maxDischargeDepth := 9) [zg_0, zg_aaload, zg_aload_n, zg_astore_n, zg_getfield, zg_goto, zg_iconst, zg_ifCond, zg_if_icmp, zg_iinc, zg_iload_n, zg_invokevirtual, zg_ireturn, zg_istore_n, zf_X5_screenAtHand, zi_ld, zi_lda, zi_cmp, zi_retOk, zi_isI, zi_f3, zi_cr, zi_ci, zi_cn, zi_get_ne, zi_nl_i, zi_nl_r, zi_get_set_eq, nl, g0, g1, c1, zd_g, zq_Row_size, zq_Row_get, cr, E1 F (by omega), E2 F (by omega), zd_w hk, zw_g (zdW_at hk), zq_Win_isSticky, cw, E3 F (by omega), nI_1]
    · rintro L _ ⟨-, nl, g0, g1, rfl, hq⟩
      obtain ⟨N1, E1⟩ := ze_Row_sizeL (μ := μ) D zd3_at hrow
      obtain ⟨N2, E2⟩ := ze_leastScreenBut (μ := μ) D (-1)
      have cr := zr_c (μ := μ) zd3_at
      rw [List.drop_length] at hq
      have hq : zd_sah μ row = zd_lsb μ (-1) := hq
      rw [hq]
      refine ⟨_, zm_mk μ, ⟨N1 + N2, 9, fun F m hF => ?_⟩, rfl, rfl⟩
      simp [zg_0, zg_aaload, zg_aload_n, zg_astore_n, zg_getfield, zg_goto, zg_iconst, zg_ifCond, zg_if_icmp, zg_iinc, zg_iload_n, zg_invokevirtual, zg_ireturn, zg_istore_n, zf_X5_screenAtHand, zi_ld, zi_lda, zi_cmp, zi_retOk, zi_isI, zi_f3, zi_cr, zi_ci, zi_cn, g0, g1, zd_g, zq_Row_size, cr, E1 F (by omega), zq_Desk_leastScreenBut, zd_c, E2 F (by omega)]
  obtain ⟨r, h', G, rfl, rfl⟩ := key
  refine ze_in [(0, .ref 1)] zq_Desk_screenAtHand (Nat.le_of_ble_eq_true rfl) rfl (ze_S.end ⟨0, 2, fun F m hF => ?_⟩ G)
  simp [zg_0, zg_aaload, zg_aload_n, zg_astore_n, zg_getfield, zg_goto, zg_iconst, zg_ifCond, zg_if_icmp, zg_iinc, zg_iload_n, zg_invokevirtual, zg_ireturn, zg_istore_n, zf_X5_screenAtHand, zi_ld, zi_lda, zi_cmp, zi_retOk, zi_isI, zi_f3, zi_cr, zi_ci, zi_cn, zi_get, zi_set, nI_0]
noncomputable def zd_lah (μ : zm_M) (T : Nat) (t : zy_F) : List Nat → Int32
  | [] => if 0 < (zy_lvs t).length then nI ((zy_lvs t).getD 0 0) else -1
  | k :: l => if μ (T + 3) k < 0 then zd_lah μ T t l else μ (T + 3) k
set_option maxRecDepth 100000 in
theorem ze_leafAtHand (D : Nat) (hrow : zr_L μ 3 row) (hrb : ∀ j ∈ row, j < 10) {T : Nat} (hT : zt_at T) (hC : zt_C μ T R t) : ze_E (D + 2) A_Desk_leafAtHand [.ref 1, .ref (T + 1)] (zm_mk μ) (some (.int (zd_lah μ T t row))) (zm_mk μ) := by
  have hl := hrow.1
  obtain ⟨lt, ct⟩ := zt_c (μ := μ) hT
  have key : ∃ r h', ze_G (D + 1) 4 (some .int) zc_X5_leafAtHand 2 [(2, .int (nI 0)), (0, .ref 1), (1, .ref (T + 1))] [] (zm_mk μ) r h' ∧ (r = some (.int (zd_lah μ T t row)) ∧ zm_mk μ = h') := by
    refine ze_loop (Q := fun i L hp => i ≤ row.length ∧ zi_nl L = true ∧ zi_get L 0 = some (.ref 1) ∧ zi_get L 1 = some (.ref (T + 1)) ∧ zi_get L 2 = some (.int (nI i)) ∧ zm_mk μ = hp ∧ (zd_lah μ T t row = zd_lah μ T t (row.drop i))) (R := fun r h' => r = some (.int (zd_lah μ T t row)) ∧ zm_mk μ = h') row.length ?_ ?_ row.length 0 _ _ (by omega) ⟨by omega, rfl, rfl, rfl, rfl, rfl, rfl⟩
    · rintro i L _ hi ⟨-, nl, g0, g1, g2, rfl, hq⟩
      have hkm : row.getD i 0 ∈ row := zl_mem hi
      rw [zl_drop hi] at hq
      obtain ⟨N1, E1⟩ := ze_Row_sizeL (μ := μ) D zd3_at hrow
      obtain ⟨N2, E2⟩ := ze_Row_getL (μ := μ) D zd3_at hrow hi
      generalize row.getD i 0 = k at hkm E2 hq
      have hk := hrb k hkm
      have hq' : zd_lah μ T t row = if μ (T + 3) k < 0 then zd_lah μ T t (row.drop (i + 1)) else μ (T + 3) k := hq
      have c1 : ¬ nI row.length ≤ nI i := nI_ge hi (by omega)
      have cr := zr_c (μ := μ) zd3_at
      obtain ⟨N3, E3⟩ := ze_Tree_leafOf (μ := μ) D hT hk
      by_cases c2 : μ (T + 3) k < 0
      · rw [if_pos c2] at hq'
        left
        refine ⟨zi_set (zi_set L 3 (.int (μ (T + 3) k))) 2 (.int (nI (i + 1))), zm_mk μ, ⟨N1 + N2 + N3, 16, fun F m hF => ?_⟩, by omega, ?_, ?_, ?_, zi_get_set_eq, rfl, hq'⟩
        · simp (maxDischargeDepth := 9) [zg_0, zg_aload_n, zg_getfield, zg_goto, zg_iconst, zg_ifCond, zg_if_icmp, zg_iinc, zg_iload_n, zg_invokevirtual, zg_ireturn, zg_istore_n, zf_X5_leafAtHand, zi_ld, zi_lda, zi_cmp, zi_retOk, zi_isI, zi_f3, zi_cr, zi_ci, zi_cn, zi_get_ne, zi_nl_i, zi_nl_r, zi_get_set_eq, nl, g0, g1, g2, c1, zd_g, zq_Row_size, zq_Row_get, cr, E1 F (by omega), E2 F (by omega), zq_Tree_leafOf, ct, E3 F (by omega), c2, nI_1]
        · simp (maxDischargeDepth := 9) [zi_get_ne, zi_nl_i, zi_nl_r, zi_get_set_eq, nl]
        · simp (maxDischargeDepth := 9) [zi_get_ne, zi_nl_i, zi_nl_r, zi_get_set_eq, nl, g0]
        · simp (maxDischargeDepth := 9) [zi_get_ne, zi_nl_i, zi_nl_r, zi_get_set_eq, nl, g1]
      · rw [if_neg c2] at hq'
        right
        refine ⟨some (.int (μ (T + 3) k)), zm_mk μ, ⟨N1 + N2 + N3, 16, fun F m hF => ?_⟩, by rw [hq'], rfl⟩
        simp (maxDischargeDepth := 9) [zg_0, zg_aload_n, zg_getfield, zg_goto, zg_iconst, zg_ifCond, zg_if_icmp, zg_iinc, zg_iload_n, zg_invokevirtual, zg_ireturn, zg_istore_n, zf_X5_leafAtHand, zi_ld, zi_lda, zi_cmp, zi_retOk, zi_isI, zi_f3, zi_cr, zi_ci, zi_cn, zi_get_ne, zi_nl_i, zi_nl_r, zi_get_set_eq, nl, g0, g1, g2, c1, zd_g, zq_Row_size, zq_Row_get, cr, E1 F (by omega), E2 F (by omega), zq_Tree_leafOf, ct, E3 F (by omega), c2, nI_1]
    · rintro L _ ⟨-, nl, g0, g1, g2, rfl, hq⟩
      obtain ⟨N1, E1⟩ := ze_Row_sizeL (μ := μ) D zd3_at hrow
      obtain ⟨N2, E2⟩ := ze_Tree_leafNumber (μ := μ) D hT hC (j := 0) (by decide)
      have cr := zr_c (μ := μ) zd3_at
      rw [List.drop_length] at hq
      have hq : zd_lah μ T t row = if 0 < (zy_lvs t).length then nI ((zy_lvs t).getD 0 0) else -1 := hq
      rw [hq]
      refine ⟨_, zm_mk μ, ⟨N1 + N2, 9, fun F m hF => ?_⟩, rfl, rfl⟩
      have E2 := E2 F (by omega)
      rw [nI_0] at E2
      generalize (if 0 < (zy_lvs t).length then nI ((zy_lvs t).getD 0 0) else -1) = v at E2
      simp [zg_0, zg_aload_n, zg_getfield, zg_goto, zg_iconst, zg_ifCond, zg_if_icmp, zg_iinc, zg_iload_n, zg_invokevirtual, zg_ireturn, zg_istore_n, zf_X5_leafAtHand, zi_ld, zi_lda, zi_cmp, zi_retOk, zi_isI, zi_f3, zi_cr, zi_ci, zi_cn, g0, g1, g2, zd_g, zq_Row_size, cr, E1 F (by omega), zq_Tree_leafNumber, ct, E2]
  obtain ⟨r, h', G, rfl, rfl⟩ := key
  refine ze_in [(0, .ref 1), (1, .ref (T + 1))] zq_Desk_leafAtHand (Nat.le_of_ble_eq_true rfl) rfl (ze_S.end ⟨0, 2, fun F m hF => ?_⟩ G)
  simp [zg_0, zg_aload_n, zg_getfield, zg_goto, zg_iconst, zg_ifCond, zg_if_icmp, zg_iinc, zg_iload_n, zg_invokevirtual, zg_ireturn, zg_istore_n, zf_X5_leafAtHand, zi_ld, zi_lda, zi_cmp, zi_retOk, zi_isI, zi_f3, zi_cr, zi_ci, zi_cn, zi_get, zi_set, nI_0]
end ZH1
end
section
/-! the desk: a window tiled -/
section ZT1
variable {μ : zm_M} {R : List Nat} {t : zy_F}
/-- the least size of a Tree along the axis a -/
noncomputable def zt_lsz (μ : zm_M) (T a : Nat) (R : List Nat) (t : zy_F) : Int32 := zy_ls a (μ (T + 7)) (zt_lf (μ (T + 5 + a)) (μ (T + 3)) R) t
theorem zt_ls_C {T a : Nat} (hC : zt_C μ T R t) (ha : a < 2) : zt_ls μ T a = zt_lsz μ T a R t := by
  obtain ⟨⟨-, ⟨k4, k5, k6, -⟩, -⟩, -, hl⟩ := hC
  unfold zt_ls zt_lsz
  rcases k4 with ⟨rfl, e⟩ | ⟨wt, ok, e⟩
  · rw [if_pos (by rw [e]; decide)]
    rfl
  · have := k6 _ (zy_id_mem wt)
    rw [if_neg (by rw [e]; exact nI_pos (by omega)), e, nI_clamp (by omega)]
    exact zy_lso_id t wt (hl a ha)
theorem zt_root_in {T : Nat} (hI : zt_I μ T R t) : μ T 9 < 0 ∨ zi_in (μ T 9) 19 = true := by
  obtain ⟨-, ⟨k4, k5, k6, -⟩, -⟩ := hI
  rcases k4 with ⟨rfl, e⟩ | ⟨wt, ok, e⟩
  · exact Or.inl (by rw [e]; decide)
  · exact Or.inr (by rw [e]; exact zm_in (k6 _ (zy_id_mem wt)) (by decide))
noncomputable def zt_fit (μ : zm_M) (T z : Nat) (R : List Nat) (t : zy_F) : Bool := decide (zt_lsz μ T 0 R t ≤ μ z 0 ∧ zt_lsz μ T 1 R t ≤ μ z 1)
theorem ze_fitsC (D : Nat) {T z : Nat} (h : zt_at T) (hC : zt_C μ T R t) (hz : zm_isA 7 z 2) : ze_E (D + 2) A_Tree_fits [.ref (T + 1), .ref (z + 1)] (zm_mk μ) (some (.int (if zt_fit μ T z R t = true then 1 else 0))) (zm_mk μ) := by
  have := ze_Tree_fits (μ := μ) D h (zt_root_in hC.1) hz
  rw [zt_ls_C hC (by decide), zt_ls_C hC (by decide), zb_dec] at this
  exact this
/-- the Tree at T is that at Q with the leaf n cut, for the window k -/
noncomputable def zt_isCut (μ : zm_M) (Q : Nat) (R : List Nat) (t : zy_F) (n k a : Nat) (nf : Bool) (x y : Int32) (ν : zm_M) (T c f : Nat) : Prop :=
  zt_C ν T (R ++ [k]) (zy_sub n (.append (.tag c (.tag (if nf then f else n) .nil)) (.tag (if nf then n else f) .nil)) t) ∧ (c < 19 ∧ f < 19 ∧ c ∉ zy_ids t ∧ f ∉ zy_ids t ∧ c ≠ f) ∧
      (∀ v, ν (T + 3) v = if v = k then nI f else μ (Q + 3) v) ∧ (∀ v, ν (T + 5) v = if v = k then x else μ (Q + 5) v) ∧ (∀ v, ν (T + 6) v = if v = k then y else μ (Q + 6) v) ∧ (∀ i, ν (T + 7) i = if i = f then 2 else if i = c then nI a else μ (Q + 7) i) ∧ (∀ i, ν (T + 8) i = if i = c then 50 else μ (Q + 8) i) ∧ (∀ i, ν (T + 12) i = if i = f then nI k else μ (Q + 12) i)
/-- with a tab more -/
noncomputable def zt_isTab (μ : zm_M) (Q : Nat) (R : List Nat) (t : zy_F) (n k : Nat) (x y : Int32) (ν : zm_M) (T : Nat) : Prop :=
  zt_C ν T (R ++ [k]) t ∧ (∀ v, ν (T + 3) v = if v = k then nI n else μ (Q + 3) v) ∧ (∀ v, ν (T + 5) v = if v = k then x else μ (Q + 5) v) ∧ (∀ v, ν (T + 6) v = if v = k then y else μ (Q + 6) v) ∧ ν (T + 7) = μ (Q + 7) ∧ ν (T + 8) = μ (Q + 8) ∧ ν (T + 12) = μ (Q + 12)
/-- with its first leaf -/
noncomputable def zt_isNew (μ : zm_M) (Q k : Nat) (x y : Int32) (ν : zm_M) (T n : Nat) : Prop :=
  zt_C ν T [k] (.tag n .nil) ∧ n < 19 ∧ (∀ v, ν (T + 3) v = if v = k then nI n else μ (Q + 3) v) ∧ (∀ v, ν (T + 5) v = if v = k then x else μ (Q + 5) v) ∧ (∀ v, ν (T + 6) v = if v = k then y else μ (Q + 6) v) ∧ (∀ i, ν (T + 7) i = if i = n then 2 else μ (Q + 7) i) ∧ ν (T + 8) = μ (Q + 8) ∧ (∀ i, ν (T + 12) i = if i = n then nI k else μ (Q + 12) i)
/-- the Tree at V in ξ is a copy of that at T in ν -/
noncomputable def zt_isCopy (ν : zm_M) (T : Nat) (ξ : zm_M) (V : Nat) : Prop := ξ (V + 3) = ν (T + 3) ∧ ξ (V + 5) = ν (T + 5) ∧ ξ (V + 6) = ν (T + 6) ∧ ξ (V + 7) = ν (T + 7) ∧ ξ (V + 8) = ν (T + 8) ∧ ξ (V + 12) = ν (T + 12)
theorem zt_lsz_copy {ν ξ : zm_M} {T V a : Nat} (h : zt_isCopy ν T ξ V) (ha : a < 2) : zt_lsz ξ V a R t = zt_lsz ν T a R t := by
  obtain ⟨c3, c5, c6, c7, -, -⟩ := h
  unfold zt_lsz
  match a, ha with
  | 0, _ => rw [c7, c3, show V + 5 + 0 = V + 5 from rfl, show T + 5 + 0 = T + 5 from rfl, c5]
  | 1, _ => rw [c7, c3, show V + 5 + 1 = V + 6 from rfl, show T + 5 + 1 = T + 6 from rfl, c6]
set_option maxRecDepth 100000 in
theorem ze_tryCut_no (D : Nat) {k s : Nat} {z a : Int32} (hz : z < 0) : ze_E (D + 1) A_Desk_tryCut [.ref 1, .int (nI k), .ref (zdS s + 1), .int z, .int a] (zm_mk μ) (some (.int 0)) (zm_mk μ) := by
  have c : ¬ (0 : Int32) ≤ z := Int32.not_le.mpr hz
  refine ze_in [(0, .ref 1), (1, .int (nI k)), (2, .ref (zdS s + 1)), (3, .int z), (4, .int a)] zq_Desk_tryCut (Nat.le_of_ble_eq_true rfl) rfl ⟨0, 4, fun F m hF => ?_⟩
  simp [zg_0, zg_aaload, zg_aload, zg_aload_n, zg_astore, zg_getfield, zg_iaload, zg_iconst, zg_ifCond, zg_iload, zg_iload_n, zg_invokevirtual, zg_ireturn, zf_X5_tryCut, zi_ld, zi_lda, zi_cmp, zi_retOk, zi_isI, zi_f3, zi_cr, zi_ci, zi_cn, zi_get, zi_set, c]
set_option maxRecDepth 100000 in
theorem ze_tryCut (D : Nat) {k s n a : Nat} (hk : k < 10) (hs : s < 3) (hI : zt_I μ (zdT s) R t) (hn : n ∈ zy_lvs t) (hkR : k ∉ R) (ha : a < 2) :
    ∃ ν c f, ze_E (D + 5) A_Desk_tryCut [.ref 1, .int (nI k), .ref (zdS s + 1), .int (nI n), .int (nI a)] (zm_mk μ) (some (.int (if zt_fit ν 7 (zdZ s) (R ++ [k]) (zy_sub n (.append (.tag c (.tag n .nil)) (.tag f .nil)) t) = true then 1 else 0))) (zm_mk ν) ∧ zt_frT 7 μ ν ∧ zt_isCut μ (zdT s) R t n k a false (μ (zdW k + 1) 0) (μ (zdW k + 1) 1) ν 7 c f := by
  obtain ⟨ν1, ⟨N1, E1⟩, C1, f1, l3, l5, l6, l7, l8, l12⟩ := ze_Tree_copyFrom (μ := μ) D zd7_at (zdT_at hs) (by unfold zdT; omega) hI
  obtain ⟨ν, c, f, ⟨N2, E2⟩, C2, f2, hcf, t3, t5, t6, t7, t8, t12⟩ := ze_Tree_cutLeaf (μ := ν1) D zd7_at C1.1 hn hk hkR ha false (μ (zdW k + 1) 0) (μ (zdW k + 1) 1)
  have hn19 := hI.2.1.2.2.1 n (zt_I_lv hI hn).2
  have e1 : (if false = true then (1 : Int32) else 0) = 0 := rfl
  rw [e1] at E2
  have C2' : zt_C ν 7 (R ++ [k]) (zy_sub n (.append (.tag c (.tag n .nil)) (.tag f .nil)) t) := C2
  obtain ⟨N3, E3⟩ := ze_fitsC (μ := ν) (D + 2) zd7_at C2' (zdZ_A hs)
  refine ⟨ν, c, f, ?_, f1.trans f2, C2, hcf, fun v => by rw [t3, l3], fun v => by rw [t5, l5], fun v => by rw [t6, l6], fun v => by rw [t7, l7], fun v => by rw [t8, l8], fun v => by rw [t12, l12]⟩
  have hb : (if zt_fit ν 7 (zdZ s) (R ++ [k]) (zy_sub n (.append (.tag c (.tag n .nil)) (.tag f .nil)) t) = true then (1 : Int32) else 0) = 0 ∨ (if zt_fit ν 7 (zdZ s) (R ++ [k]) (zy_sub n (.append (.tag c (.tag n .nil)) (.tag f .nil)) t) = true then (1 : Int32) else 0) = 1 := by split <;> simp
  generalize (if zt_fit ν 7 (zdZ s) (R ++ [k]) (zy_sub n (.append (.tag c (.tag n .nil)) (.tag f .nil)) t) = true then (1 : Int32) else 0) = b at E3 hb
  refine ze_in [(0, .ref 1), (1, .int (nI k)), (2, .ref (zdS s + 1)), (3, .int (nI n)), (4, .int (nI a))] zq_Desk_tryCut (Nat.le_of_ble_eq_true rfl) rfl ⟨N1 + N2 + N3, 32, fun F m hF => ?_⟩
  have c0 : (0 : Int32) ≤ nI n := nI_pos' (by omega)
  obtain ⟨q1, d1⟩ := zt_c (μ := μ) zd7_at
  obtain ⟨q2, d2⟩ := zt_c (μ := ν1) zd7_at
  obtain ⟨q3, d3⟩ := zt_c (μ := ν) zd7_at
  have w1 := (zdW_at hk).2.1
  have r1 : ν1 (zdW k + 1) = μ (zdW k + 1) := f1 _ (by unfold zt_out zdW; omega)
  simp [zg_0, zg_aaload, zg_aload, zg_aload_n, zg_astore, zg_getfield, zg_iaload, zg_iconst, zg_ifCond, zg_iload, zg_iload_n, zg_invokevirtual, zg_ireturn, zf_X5_tryCut, zi_ld, zi_lda, zi_cmp, zi_retOk, zi_isI, zi_f3, zi_cr, zi_ci, zi_cn, zi_get, zi_set, c0, zd_g, zd_w hk, zw_g (zdW_at hk), zdS_g hs, zq_Tree_copyFrom, d1, E1 F (by omega), zm_iald (k := 0) w1 zm_in0, zm_iald (k := 0) w1 zm_in1, zm_cl0, zm_cl1, r1, zq_Tree_cutLeaf, d2, E2 F (by omega), zq_Tree_fits, d3, E3 F (by omega)]
  rcases hb with e | e <;> simp [e]
set_option maxRecDepth 100000 in
theorem ze_tryTab (D : Nat) {k s n : Nat} (hk : k < 10) (hs : s < 3) (hI : zt_I μ (zdT s) R t) (hn : n ∈ zy_lvs t) (hkR : k ∉ R) :
    ∃ ν, ze_E (D + 5) A_Desk_tryTab [.ref 1, .int (nI k), .ref (zdS s + 1), .int (nI n)] (zm_mk μ) (some (.int (if zt_fit ν 7 (zdZ s) (R ++ [k]) t = true then 1 else 0))) (zm_mk ν) ∧ zt_frT 7 μ ν ∧ zt_isTab μ (zdT s) R t n k (μ (zdW k + 1) 0) (μ (zdW k + 1) 1) ν 7 := by
  obtain ⟨ν1, ⟨N1, E1⟩, C1, f1, l3, l5, l6, l7, l8, l12⟩ := ze_Tree_copyFrom (μ := μ) D zd7_at (zdT_at hs) (by unfold zdT; omega) hI
  obtain ⟨ν, ⟨N2, E2⟩, C2, f2, t3, t5, t6, t7, t8, t12⟩ := ze_Tree_addTab (μ := ν1) D zd7_at C1.1 hn hk hkR (μ (zdW k + 1) 0) (μ (zdW k + 1) 1)
  obtain ⟨N3, E3⟩ := ze_fitsC (μ := ν) (D + 2) zd7_at C2 (zdZ_A hs)
  refine ⟨ν, ?_, f1.trans f2, C2, fun v => by rw [t3, l3], fun v => by rw [t5, l5], fun v => by rw [t6, l6], by rw [t7, l7], by rw [t8, l8], by rw [t12, l12]⟩
  have hb : (if zt_fit ν 7 (zdZ s) (R ++ [k]) t = true then (1 : Int32) else 0) = 0 ∨ (if zt_fit ν 7 (zdZ s) (R ++ [k]) t = true then (1 : Int32) else 0) = 1 := by split <;> simp
  generalize (if zt_fit ν 7 (zdZ s) (R ++ [k]) t = true then (1 : Int32) else 0) = b at E3 hb
  refine ze_in [(0, .ref 1), (1, .int (nI k)), (2, .ref (zdS s + 1)), (3, .int (nI n))] zq_Desk_tryTab (Nat.le_of_ble_eq_true rfl) rfl ⟨N1 + N2 + N3, 28, fun F m hF => ?_⟩
  obtain ⟨q1, d1⟩ := zt_c (μ := μ) zd7_at
  obtain ⟨q2, d2⟩ := zt_c (μ := ν1) zd7_at
  obtain ⟨q3, d3⟩ := zt_c (μ := ν) zd7_at
  have w1 := (zdW_at hk).2.1
  have r1 : ν1 (zdW k + 1) = μ (zdW k + 1) := f1 _ (by unfold zt_out zdW; omega)
  simp [zg_0, zg_aaload, zg_aload, zg_aload_n, zg_astore, zg_getfield, zg_iaload, zg_iconst, zg_iload_n, zg_invokevirtual, zg_ireturn, zf_X5_tryTab, zi_ld, zi_lda, zi_cmp, zi_retOk, zi_isI, zi_f3, zi_cr, zi_ci, zi_cn, zi_get, zi_set, zd_g, zd_w hk, zw_g (zdW_at hk), zdS_g hs, zq_Tree_copyFrom, d1, E1 F (by omega), zm_iald (k := 0) w1 zm_in0, zm_iald (k := 0) w1 zm_in1, zm_cl0, zm_cl1, r1, zq_Tree_addTab, d2, E2 F (by omega), zq_Tree_fits, d3, E3 F (by omega)]
  rcases hb with e | e <;> simp [e]
set_option maxRecDepth 100000 in
theorem ze_tryTab_0 (D : Nat) {k s : Nat} (hk : k < 10) (hs : s < 3) (hI : zt_I μ (zdT s) [] .nil) :
    ∃ ν n, ze_E (D + 5) A_Desk_tryTab [.ref 1, .int (nI k), .ref (zdS s + 1), .int (-1)] (zm_mk μ) (some (.int (if zt_fit ν 7 (zdZ s) [k] (.tag n .nil) = true then 1 else 0))) (zm_mk ν) ∧ zt_frT 7 μ ν ∧ zt_isNew μ (zdT s) k (μ (zdW k + 1) 0) (μ (zdW k + 1) 1) ν 7 n := by
  obtain ⟨ν1, ⟨N1, E1⟩, C1, f1, l3, l5, l6, l7, l8, l12⟩ := ze_Tree_copyFrom (μ := μ) D zd7_at (zdT_at hs) (by unfold zdT; omega) hI
  obtain ⟨ν, n, ⟨N2, E2⟩, C2, f2, hn, t3, t5, t6, t7, t8, t12⟩ := ze_Tree_addTab_0 (μ := ν1) D zd7_at C1.1 hk (z := -1) (by decide) (μ (zdW k + 1) 0) (μ (zdW k + 1) 1)
  obtain ⟨N3, E3⟩ := ze_fitsC (μ := ν) (D + 2) zd7_at C2 (zdZ_A hs)
  refine ⟨ν, n, ?_, f1.trans f2, C2, hn, fun v => by rw [t3, l3], fun v => by rw [t5, l5], fun v => by rw [t6, l6], fun v => by rw [t7, l7], by rw [t8, l8], fun v => by rw [t12, l12]⟩
  have hb : (if zt_fit ν 7 (zdZ s) [k] (.tag n .nil) = true then (1 : Int32) else 0) = 0 ∨ (if zt_fit ν 7 (zdZ s) [k] (.tag n .nil) = true then (1 : Int32) else 0) = 1 := by split <;> simp
  generalize (if zt_fit ν 7 (zdZ s) [k] (.tag n .nil) = true then (1 : Int32) else 0) = b at E3 hb
  refine ze_in [(0, .ref 1), (1, .int (nI k)), (2, .ref (zdS s + 1)), (3, .int (-1))] zq_Desk_tryTab (Nat.le_of_ble_eq_true rfl) rfl ⟨N1 + N2 + N3, 28, fun F m hF => ?_⟩
  obtain ⟨q1, d1⟩ := zt_c (μ := μ) zd7_at
  obtain ⟨q2, d2⟩ := zt_c (μ := ν1) zd7_at
  obtain ⟨q3, d3⟩ := zt_c (μ := ν) zd7_at
  have w1 := (zdW_at hk).2.1
  have r1 : ν1 (zdW k + 1) = μ (zdW k + 1) := f1 _ (by unfold zt_out zdW; omega)
  simp [zg_0, zg_aaload, zg_aload, zg_aload_n, zg_astore, zg_getfield, zg_iaload, zg_iconst, zg_iload_n, zg_invokevirtual, zg_ireturn, zf_X5_tryTab, zi_ld, zi_lda, zi_cmp, zi_retOk, zi_isI, zi_f3, zi_cr, zi_ci, zi_cn, zi_get, zi_set, zd_g, zd_w hk, zw_g (zdW_at hk), zdS_g hs, zq_Tree_copyFrom, d1, E1 F (by omega), zm_iald (k := 0) w1 zm_in0, zm_iald (k := 0) w1 zm_in1, zm_cl0, zm_cl1, r1, zq_Tree_addTab, d2, E2 F (by omega), zq_Tree_fits, d3, E3 F (by omega)]
  rcases hb with e | e <;> simp [e]
end ZT1
end
section
/-! the desk: tile -/
section ZT2
variable {μ : zm_M} {row : List Nat} {R : List Nat} {t : zy_F}
theorem zt_isCut_src {μ' : zm_M} {Q n k a c f T : Nat} {nf : Bool} {x y : Int32} {ν : zm_M} (h : zt_isCopy μ Q μ' Q) (g : zt_isCut μ' Q R t n k a nf x y ν T c f) : zt_isCut μ Q R t n k a nf x y ν T c f := by
  obtain ⟨c3, c5, c6, c7, c8, c12⟩ := h
  unfold zt_isCut at *
  rw [c3, c5, c6, c7, c8, c12] at g
  exact g
theorem zt_isTab_src {μ' : zm_M} {Q n k T : Nat} {x y : Int32} {ν : zm_M} (h : zt_isCopy μ Q μ' Q) (g : zt_isTab μ' Q R t n k x y ν T) : zt_isTab μ Q R t n k x y ν T := by
  obtain ⟨c3, c5, c6, c7, c8, c12⟩ := h
  unfold zt_isTab at *
  rw [c3, c5, c6, c7, c8, c12] at g
  exact g
theorem zt_isCut_to {Q n k a c f T V : Nat} {nf : Bool} {x y : Int32} {ν ξ : zm_M} (h : zt_isCopy ν T ξ V) (hC : zt_C ξ V (R ++ [k]) (zy_sub n (.append (.tag c (.tag (if nf then f else n) .nil)) (.tag (if nf then n else f) .nil)) t)) (g : zt_isCut μ Q R t n k a nf x y ν T c f) : zt_isCut μ Q R t n k a nf x y ξ V c f := by
  obtain ⟨c3, c5, c6, c7, c8, c12⟩ := h
  obtain ⟨-, g2, g3, g5, g6, g7, g8, g12⟩ := g
  rw [← c3] at g3
  rw [← c5] at g5
  rw [← c6] at g6
  rw [← c7] at g7
  rw [← c8] at g8
  rw [← c12] at g12
  exact ⟨hC, g2, g3, g5, g6, g7, g8, g12⟩
theorem zt_isTab_to {Q n k T V : Nat} {x y : Int32} {ν ξ : zm_M} (h : zt_isCopy ν T ξ V) (hC : zt_C ξ V (R ++ [k]) t) (g : zt_isTab μ Q R t n k x y ν T) : zt_isTab μ Q R t n k x y ξ V := by
  obtain ⟨c3, c5, c6, c7, c8, c12⟩ := h
  obtain ⟨-, g3, g5, g6, g7, g8, g12⟩ := g
  rw [← c3] at g3
  rw [← c5] at g5
  rw [← c6] at g6
  rw [← c7] at g7
  rw [← c8] at g8
  rw [← c12] at g12
  exact ⟨hC, g3, g5, g6, g7, g8, g12⟩
theorem zt_isNew_to {Q n k T V : Nat} {x y : Int32} {ν ξ : zm_M} (h : zt_isCopy ν T ξ V) (hC : zt_C ξ V [k] (.tag n .nil)) (g : zt_isNew μ Q k x y ν T n) : zt_isNew μ Q k x y ξ V n := by
  obtain ⟨c3, c5, c6, c7, c8, c12⟩ := h
  obtain ⟨-, g2, g3, g5, g6, g7, g8, g12⟩ := g
  rw [← c3] at g3
  rw [← c5] at g5
  rw [← c6] at g6
  rw [← c7] at g7
  rw [← c8] at g8
  rw [← c12] at g12
  exact ⟨hC, g2, g3, g5, g6, g7, g8, g12⟩
theorem zd_lah_or {T : Nat} (hI : zt_I μ T R t) : ∀ row : List Nat, (∀ j ∈ row, j < 10) → (t = .nil ∧ zd_lah μ T t row = -1) ∨ ∃ n ∈ zy_lvs t, zd_lah μ T t row = nI n := by
  intro row
  obtain ⟨-, ⟨k4, -, -, -⟩, -, k9, k10, -⟩ := hI
  induction row with
  | nil =>
    intro _
    rcases k4 with ⟨rfl, _⟩ | ⟨wt, _⟩
    · exact Or.inl ⟨rfl, rfl⟩
    · have := zy_lvs_pos wt
      right
      refine ⟨_, zl_mem this, ?_⟩
      show (if _ then _ else _ : Int32) = _
      rw [if_pos this]
  | cons k l ih =>
    intro h
    show (t = .nil ∧ (if μ (T + 3) k < 0 then zd_lah μ T t l else μ (T + 3) k) = -1) ∨ ∃ n ∈ zy_lvs t, (if μ (T + 3) k < 0 then zd_lah μ T t l else μ (T + 3) k) = nI n
    by_cases c : μ (T + 3) k < 0
    · rw [if_pos c]
      exact ih (fun j hj => h j (List.mem_cons_of_mem _ hj))
    · rw [if_neg c]
      have hk := h k List.mem_cons_self
      have hkR : k ∈ R := by
        by_cases e : k ∈ R
        · exact e
        · rw [k10 k hk e] at c
          exact absurd (by decide) c
      obtain ⟨n, hn, e⟩ := k9 k hkR
      exact Or.inr ⟨n, hn, e⟩
noncomputable def zy_cut (n c f : Nat) (t : zy_F) : zy_F := zy_sub n (.append (.tag c (.tag n .nil)) (.tag f .nil)) t
/-- what tile leaves, a leaf n at hand: a cut, the other cut, a tab, or nothing -/
noncomputable def zd_tiledN (μ ν : zm_M) (s k n : Nat) (R : List Nat) (t : zy_F) (b : Int32) : Prop :=
  let a := if μ (zdT s + 23) n ≤ μ (zdT s + 22) n then 0 else 1
  let x := μ (zdW k + 1) 0
  let y := μ (zdW k + 1) 1
  ∃ ξ1 c1 f1, zt_frT 7 μ ξ1 ∧ zt_isCut μ (zdT s) R t n k a false x y ξ1 7 c1 f1 ∧
    ((zt_fit ξ1 7 (zdZ s) (R ++ [k]) (zy_cut n c1 f1 t) = true ∧ b = 1 ∧ zt_isCut μ (zdT s) R t n k a false x y ν (zdT s) c1 f1) ∨
     (zt_fit ξ1 7 (zdZ s) (R ++ [k]) (zy_cut n c1 f1 t) = false ∧ ∃ ξ2 c2 f2, zt_frT 7 μ ξ2 ∧ zt_isCut μ (zdT s) R t n k (1 - a) false x y ξ2 7 c2 f2 ∧
       ((zt_fit ξ2 7 (zdZ s) (R ++ [k]) (zy_cut n c2 f2 t) = true ∧ b = 1 ∧ zt_isCut μ (zdT s) R t n k (1 - a) false x y ν (zdT s) c2 f2) ∨
        (zt_fit ξ2 7 (zdZ s) (R ++ [k]) (zy_cut n c2 f2 t) = false ∧ ∃ ξ3, zt_frT 7 μ ξ3 ∧ zt_isTab μ (zdT s) R t n k x y ξ3 7 ∧
          ((zt_fit ξ3 7 (zdZ s) (R ++ [k]) t = true ∧ b = 1 ∧ zt_isTab μ (zdT s) R t n k x y ν (zdT s)) ∨ (zt_fit ξ3 7 (zdZ s) (R ++ [k]) t = false ∧ b = 0 ∧ zt_frT 7 μ ν))))))
noncomputable def zd_tiled0 (μ ν : zm_M) (s k : Nat) (b : Int32) : Prop :=
  ∃ ξ n, zt_frT 7 μ ξ ∧ zt_isNew μ (zdT s) k (μ (zdW k + 1) 0) (μ (zdW k + 1) 1) ξ 7 n ∧
    ((zt_fit ξ 7 (zdZ s) [k] (.tag n .nil) = true ∧ b = 1 ∧ zt_isNew μ (zdT s) k (μ (zdW k + 1) 0) (μ (zdW k + 1) 1) ν (zdT s) n) ∨ (zt_fit ξ 7 (zdZ s) [k] (.tag n .nil) = false ∧ b = 0 ∧ zt_frT 7 μ ν))
set_option maxRecDepth 100000 in
/-- from the found value on -/
theorem ze_tile_end_1 (D : Nat) {k s : Nat} (hs : s < 3) {ν : zm_M} (hI : zt_I ν 7 R t) {L : zi_Lc} (nl : zi_nl L = true) (g0 : zi_get L 0 = some (.ref 1)) (g2 : zi_get L 2 = some (.ref (zdS s + 1))) :
    ∃ ξ, ze_G (D + 4) 6 (some .boolean) zc_X5_tile 72 L [.int 1] (zm_mk ν) (some (.int 1)) (zm_mk ξ) ∧ zt_C ξ (zdT s) R t ∧ zt_frT (zdT s) ν ξ ∧ zt_isCopy ν 7 ξ (zdT s) := by
  obtain ⟨ξ, ⟨N1, E1⟩, C1, f1, l⟩ := ze_Tree_copyFrom (μ := ν) D (zdT_at hs) zd7_at (by unfold zdT; omega) hI
  refine ⟨ξ, ⟨N1, 10, fun F m hF => ?_⟩, C1, f1, l⟩
  obtain ⟨q1, d1⟩ := zt_c (μ := ν) (zdT_at hs)
  simp (maxDischargeDepth := 9) [zg_0, zg_aload_n, zg_getfield, zg_goto, zg_iconst, zg_ifCond, zg_iload, zg_iload_n, zg_invokevirtual, zg_ireturn, zg_istore, zg_istore_n, zg_isub, zf_X5_tile, zi_ld, zi_lda, zi_cmp, zi_retOk, zi_isI, zi_f3, zi_cr, zi_ci, zi_cn, zi_get_ne, zi_nl_i, zi_nl_r, zi_get_set_eq, nl, g0, g2, zdS_g hs, zd_g, zq_Tree_copyFrom, d1, E1 F (by omega)]
set_option maxRecDepth 100000 in
theorem ze_tile_end_0 (D : Nat) {ν : zm_M} {L : zi_Lc} (nl : zi_nl L = true) : ze_G D 6 (some .boolean) zc_X5_tile 72 L [.int 0] (zm_mk ν) (some (.int 0)) (zm_mk ν) := by
  refine ⟨0, 5, fun F m hF => ?_⟩
  simp (maxDischargeDepth := 9) [zg_0, zg_aload_n, zg_getfield, zg_goto, zg_iconst, zg_ifCond, zg_iload, zg_iload_n, zg_invokevirtual, zg_ireturn, zg_istore, zg_istore_n, zg_isub, zf_X5_tile, zi_ld, zi_lda, zi_cmp, zi_retOk, zi_isI, zi_f3, zi_cr, zi_ci, zi_cn, zi_get_ne, zi_nl_i, zi_nl_r, zi_get_set_eq, nl]
end ZT2
end
section
/-! the desk: tile, run -/
section ZT3
variable {μ : zm_M} {row : List Nat} {R : List Nat} {t : zy_F}
/-- what a try leaves of the rest -/
theorem zd_try {ν : zm_M} {s k : Nat} (hs : s < 3) (hk : k < 10) (f : zt_frT 7 μ ν) (hC : zt_C μ (zdT s) R t) : zt_C ν (zdT s) R t ∧ zt_isCopy μ (zdT s) ν (zdT s) ∧ ν (zdW k + 1) = μ (zdW k + 1) ∧ ν (zdZ s) = μ (zdZ s) := by
  have r : ∀ j, ν (zdT s + j) = μ (zdT s + j) := fun j => f _ (by unfold zt_out zdT; omega)
  refine ⟨zt_C_congr (fun c h1 h2 => f c (by unfold zt_out; unfold zdT at h1; omega)) hC, ⟨r _, r _, r _, r _, r _, r _⟩, f _ (by unfold zt_out zdW; omega), f _ (by unfold zt_out zdZ; omega)⟩
theorem zd_fr2 {ν ξ : zm_M} {s : Nat} (f : zt_frT 7 μ ν) (g : zt_frT (zdT s) ν ξ) : ∀ c, zt_out 7 c → zt_out (zdT s) c → ξ c = μ c := fun c h1 h2 => (g c h2).trans (f c h1)
set_option maxRecDepth 100000 in
theorem ze_tile0 (D : Nat) {k s : Nat} (hk : k < 10) (hs : s < 3) (hrow : zr_L μ 3 row) (hrb : ∀ j ∈ row, j < 10) (hC : zt_C μ (zdT s) [] .nil) :
    ∃ ν b, ze_E (D + 6) A_Desk_tile [.ref 1, .int (nI k), .ref (zdS s + 1)] (zm_mk μ) (some (.int b)) (zm_mk ν) ∧ zd_tiled0 μ ν s k b ∧ ∀ c, zt_out 7 c → zt_out (zdT s) c → ν c = μ c := by
  have hlah : zd_lah μ (zdT s) .nil row = -1 := by
    rcases zd_lah_or hC.1 row hrb with ⟨-, h⟩ | ⟨n, hn, -⟩
    · exact h
    · cases hn
  obtain ⟨N1, E1⟩ := ze_leafAtHand (μ := μ) (D + 3) hrow hrb (zdT_at hs) hC
  rw [hlah] at E1
  obtain ⟨N2, E2⟩ := ze_tryCut_no (μ := μ) (D + 4) (k := k) (s := s) (z := -1) (a := 1) (by decide)
  obtain ⟨N3, E3⟩ := ze_tryCut_no (μ := μ) (D + 4) (k := k) (s := s) (z := -1) (a := 0) (by decide)
  obtain ⟨ν1, n, ⟨N4, E4⟩, f4, hN⟩ := ze_tryTab_0 (μ := μ) D hk hs hC.1
  have cm : (-1 : Int32) < 0 := by decide
  have h11 : (1 : Int32) - 1 = 0 := by decide
  have S1 : ∀ b : Int32, (if zt_fit ν1 7 (zdZ s) [k] (.tag n .nil) = true then (1 : Int32) else 0) = b → (b = 0 ∨ b = 1) → ze_S (D + 5) 6 (some .boolean) zc_X5_tile 0 [(0, .ref 1), (1, .int (nI k)), (2, .ref (zdS s + 1))] [] (zm_mk μ) 72 [(4, .int 1), (3, .int (-1)), (0, .ref 1), (1, .int (nI k)), (2, .ref (zdS s + 1))] [.int b] (zm_mk ν1) := by
    intro b eb hb
    rw [eb] at E4
    have hq : zi_nl [(4, .int 1), (3, .int (-1)), (0, .ref 1), (1, .int (nI k)), (2, .ref (zdS s + 1))] = true := rfl
    have S0 : ze_S (D + 5) 6 (some .boolean) zc_X5_tile 0 [(0, .ref 1), (1, .int (nI k)), (2, .ref (zdS s + 1))] [] (zm_mk μ) 31 [(4, .int 1), (3, .int (-1)), (0, .ref 1), (1, .int (nI k)), (2, .ref (zdS s + 1))] [] (zm_mk μ) := by
      refine ⟨N1, 9, fun F m hF => ?_⟩
      simp [zg_0, zg_aload_n, zg_getfield, zg_goto, zg_iconst, zg_ifCond, zg_iload, zg_iload_n, zg_invokevirtual, zg_ireturn, zg_istore, zg_istore_n, zg_isub, zf_X5_tile, zi_ld, zi_lda, zi_cmp, zi_retOk, zi_isI, zi_f3, zi_cr, zi_ci, zi_cn, zi_get, zi_set, zdS_g hs, zq_Desk_leafAtHand, zd_c, E1 F (by omega), cm]
    refine S0.trans ?_
    rcases hb with rfl | rfl
    · refine ⟨N2 + N3 + N4, 23, fun F m hF => ?_⟩
      simp [zg_0, zg_aload_n, zg_getfield, zg_goto, zg_iconst, zg_ifCond, zg_iload, zg_iload_n, zg_invokevirtual, zg_ireturn, zg_istore, zg_istore_n, zg_isub, zf_X5_tile, zi_ld, zi_lda, zi_cmp, zi_retOk, zi_isI, zi_f3, zi_cr, zi_ci, zi_cn, zi_get, zi_set, zd_c, zq_Desk_tryCut, E2 F (by omega), h11, E3 F (by omega), zq_Desk_tryTab, E4 F (by omega)]
    · refine ⟨N2 + N3 + N4, 24, fun F m hF => ?_⟩
      simp [zg_0, zg_aload_n, zg_getfield, zg_goto, zg_iconst, zg_ifCond, zg_iload, zg_iload_n, zg_invokevirtual, zg_ireturn, zg_istore, zg_istore_n, zg_isub, zf_X5_tile, zi_ld, zi_lda, zi_cmp, zi_retOk, zi_isI, zi_f3, zi_cr, zi_ci, zi_cn, zi_get, zi_set, zd_c, zq_Desk_tryCut, E2 F (by omega), h11, E3 F (by omega), zq_Desk_tryTab, E4 F (by omega)]
  cases hfit : zt_fit ν1 7 (zdZ s) [k] (.tag n .nil) with
  | true =>
    obtain ⟨ξ, G, C1, f1, l⟩ := ze_tile_end_1 (D + 1) (k := k) hs hN.1.1 (L := [(4, .int 1), (3, .int (-1)), (0, .ref 1), (1, .int (nI k)), (2, .ref (zdS s + 1))]) rfl rfl rfl
    refine ⟨ξ, 1, ze_in [(0, .ref 1), (1, .int (nI k)), (2, .ref (zdS s + 1))] zq_Desk_tile (Nat.le_of_ble_eq_true rfl) rfl ((S1 1 (by rw [hfit, if_pos rfl]) (Or.inr rfl)).end G), ⟨ν1, n, f4, hN, Or.inl ⟨hfit, rfl, zt_isNew_to l C1 hN⟩⟩, zd_fr2 f4 f1⟩
  | false =>
    refine ⟨ν1, 0, ze_in [(0, .ref 1), (1, .int (nI k)), (2, .ref (zdS s + 1))] zq_Desk_tile (Nat.le_of_ble_eq_true rfl) rfl ((S1 0 (by rw [hfit]; rfl) (Or.inl rfl)).end (ze_tile_end_0 (D + 5) rfl)), ⟨ν1, n, f4, hN, Or.inr ⟨hfit, rfl, f4⟩⟩, fun c h1 _ => f4 c h1⟩
set_option maxRecDepth 100000 in
theorem ze_tileN (D : Nat) {k s n : Nat} (hk : k < 10) (hs : s < 3) (hrow : zr_L μ 3 row) (hrb : ∀ j ∈ row, j < 10) (hC : zt_C μ (zdT s) R t) (hkR : k ∉ R) (hn : n ∈ zy_lvs t) (hlah : zd_lah μ (zdT s) t row = nI n) :
    ∃ ν b, ze_E (D + 6) A_Desk_tile [.ref 1, .int (nI k), .ref (zdS s + 1)] (zm_mk μ) (some (.int b)) (zm_mk ν) ∧ zd_tiledN μ ν s k n R t b ∧ ∀ c, zt_out 7 c → zt_out (zdT s) c → ν c = μ c := by
  have hn19 := hC.1.2.1.2.2.1 n (zt_I_lv hC.1 hn).2
  obtain ⟨N1, E1⟩ := ze_leafAtHand (μ := μ) (D + 3) hrow hrb (zdT_at hs) hC
  rw [hlah] at E1
  obtain ⟨N0, E0⟩ := ze_Tree_isWide (μ := μ) (D + 4) (zdT_at hs) (x := nI n) (zm_in hn19 (by decide))
  rw [nI_clamp (by omega), zb_dec] at E0
  obtain ⟨a, ha, ea⟩ : ∃ a, a < 2 ∧ (if μ (zdT s + 23) n ≤ μ (zdT s + 22) n then 0 else 1) = a := ⟨_, by split <;> omega, rfl⟩
  have hax : (1 : Int32) - nI a = nI (1 - a) := by
    rcases (by omega : a = 0 ∨ a = 1) with e | e <;> rw [e] <;> decide
  have S0 : ze_S (D + 5) 6 (some .boolean) zc_X5_tile 0 [(0, .ref 1), (1, .int (nI k)), (2, .ref (zdS s + 1))] [] (zm_mk μ) 31 [(4, .int (nI a)), (3, .int (nI n)), (0, .ref 1), (1, .int (nI k)), (2, .ref (zdS s + 1))] [] (zm_mk μ) := by
    obtain ⟨lt, ct⟩ := zt_c (μ := μ) (zdT_at hs)
    have cn : ¬ nI n < 0 := nI_pos (by omega)
    by_cases c : μ (zdT s + 23) n ≤ μ (zdT s + 22) n
    · rw [if_pos c] at ea
      subst ea
      rw [if_pos (decide_eq_true c)] at E0
      refine ⟨N0 + N1, 15, fun F m hF => ?_⟩
      simp [zg_0, zg_aload_n, zg_getfield, zg_goto, zg_iconst, zg_ifCond, zg_iload, zg_iload_n, zg_invokevirtual, zg_ireturn, zg_istore, zg_istore_n, zg_isub, zf_X5_tile, zi_ld, zi_lda, zi_cmp, zi_retOk, zi_isI, zi_f3, zi_cr, zi_ci, zi_cn, zi_get, zi_set, zdS_g hs, zq_Desk_leafAtHand, zd_c, E1 F (by omega), cn, zq_Tree_isWide, ct, E0 F (by omega), nI_0]
    · rw [if_neg c] at ea
      subst ea
      rw [if_neg (fun q => c (of_decide_eq_true q))] at E0
      have n1 : nI 1 = 1 := by decide
      refine ⟨N0 + N1, 14, fun F m hF => ?_⟩
      simp [zg_0, zg_aload_n, zg_getfield, zg_goto, zg_iconst, zg_ifCond, zg_iload, zg_iload_n, zg_invokevirtual, zg_ireturn, zg_istore, zg_istore_n, zg_isub, zf_X5_tile, zi_ld, zi_lda, zi_cmp, zi_retOk, zi_isI, zi_f3, zi_cr, zi_ci, zi_cn, zi_get, zi_set, zdS_g hs, zq_Desk_leafAtHand, zd_c, E1 F (by omega), cn, zq_Tree_isWide, ct, E0 F (by omega), n1]
  generalize hL : ([(4, .int (nI a)), (3, .int (nI n)), (0, .ref 1), (1, .int (nI k)), (2, .ref (zdS s + 1))] : zi_Lc) = L at S0
  have nl : zi_nl L = true := by rw [← hL]; rfl
  have g0 : zi_get L 0 = some (.ref 1) := by rw [← hL]; rfl
  have g1 : zi_get L 1 = some (.int (nI k)) := by rw [← hL]; rfl
  have g2 : zi_get L 2 = some (.ref (zdS s + 1)) := by rw [← hL]; rfl
  have g3 : zi_get L 3 = some (.int (nI n)) := by rw [← hL]; rfl
  have g4 : zi_get L 4 = some (.int (nI a)) := by rw [← hL]; rfl
  clear hL
  obtain ⟨ν1, c1, f1, ⟨N2, E2⟩, fr1, hK1⟩ := ze_tryCut (μ := μ) D hk hs hC.1 hn hkR ha
  unfold zd_tiledN
  dsimp only
  rw [ea]
  cases hf1 : zt_fit ν1 7 (zdZ s) (R ++ [k]) (zy_cut n c1 f1 t) with
  | true =>
    have hf1' : (if zt_fit ν1 7 (zdZ s) (R ++ [k]) (zy_sub n (.append (.tag c1 (.tag n .nil)) (.tag f1 .nil)) t) = true then (1 : Int32) else 0) = 1 := if_pos hf1
    rw [hf1'] at E2
    obtain ⟨ξ, G, C1, fx, l⟩ := ze_tile_end_1 (D + 1) (k := k) hs hK1.1.1 nl g0 g2
    refine ⟨ξ, 1, ze_in [(0, .ref 1), (1, .int (nI k)), (2, .ref (zdS s + 1))] zq_Desk_tile (Nat.le_of_ble_eq_true rfl) rfl (S0.end (ze_S.end (p2 := 72) (L2 := L) (s2 := [.int 1]) (h2 := zm_mk ν1) ⟨N2, 9, fun F m hF => ?_⟩ G)), ⟨ν1, c1, f1, fr1, hK1, Or.inl ⟨hf1, rfl, zt_isCut_to l C1 hK1⟩⟩, zd_fr2 fr1 fx⟩
    simp (maxDischargeDepth := 9) [zg_0, zg_aload_n, zg_getfield, zg_goto, zg_iconst, zg_ifCond, zg_iload, zg_iload_n, zg_invokevirtual, zg_ireturn, zg_istore, zg_istore_n, zg_isub, zf_X5_tile, zi_ld, zi_lda, zi_cmp, zi_retOk, zi_isI, zi_f3, zi_cr, zi_ci, zi_cn, zi_get_ne, zi_nl_i, zi_nl_r, zi_get_set_eq, nl, g0, g1, g2, g3, g4, zd_c, zq_Desk_tryCut, E2 F (by omega)]
  | false =>
    have hf1' : (if zt_fit ν1 7 (zdZ s) (R ++ [k]) (zy_sub n (.append (.tag c1 (.tag n .nil)) (.tag f1 .nil)) t) = true then (1 : Int32) else 0) = 0 := if_neg (by rw [show zy_sub n (.append (.tag c1 (.tag n .nil)) (.tag f1 .nil)) t = zy_cut n c1 f1 t from rfl, hf1]; decide)
    rw [hf1'] at E2
    obtain ⟨Cν1, cp1, w1, z1⟩ := zd_try (k := k) hs hk fr1 hC
    obtain ⟨ν2, c2, f2, ⟨N3, E3⟩, fr2, hK2⟩ := ze_tryCut (μ := ν1) D hk hs Cν1.1 hn hkR (a := 1 - a) (by omega)
    rw [w1] at hK2
    have hK2' := zt_isCut_src cp1 hK2
    cases hf2 : zt_fit ν2 7 (zdZ s) (R ++ [k]) (zy_cut n c2 f2 t) with
    | true =>
      have hf2' : (if zt_fit ν2 7 (zdZ s) (R ++ [k]) (zy_sub n (.append (.tag c2 (.tag n .nil)) (.tag f2 .nil)) t) = true then (1 : Int32) else 0) = 1 := if_pos hf2
      rw [hf2'] at E3
      obtain ⟨ξ, G, C1, fx, l⟩ := ze_tile_end_1 (D + 1) (k := k) hs hK2.1.1 nl g0 g2
      refine ⟨ξ, 1, ze_in [(0, .ref 1), (1, .int (nI k)), (2, .ref (zdS s + 1))] zq_Desk_tile (Nat.le_of_ble_eq_true rfl) rfl (S0.end (ze_S.end (p2 := 72) (L2 := L) (s2 := [.int 1]) (h2 := zm_mk ν2) ⟨N2 + N3, 18, fun F m hF => ?_⟩ G)), ⟨ν1, c1, f1, fr1, hK1, Or.inr ⟨hf1, ν2, c2, f2, fr1.trans fr2, hK2', Or.inl ⟨hf2, rfl, zt_isCut_to l C1 hK2'⟩⟩⟩, zd_fr2 (fr1.trans fr2) fx⟩
      simp (maxDischargeDepth := 9) [zg_0, zg_aload_n, zg_getfield, zg_goto, zg_iconst, zg_ifCond, zg_iload, zg_iload_n, zg_invokevirtual, zg_ireturn, zg_istore, zg_istore_n, zg_isub, zf_X5_tile, zi_ld, zi_lda, zi_cmp, zi_retOk, zi_isI, zi_f3, zi_cr, zi_ci, zi_cn, zi_get_ne, zi_nl_i, zi_nl_r, zi_get_set_eq, nl, g0, g1, g2, g3, g4, zd_c, zq_Desk_tryCut, E2 F (by omega), hax, E3 F (by omega)]
    | false =>
      have hf2' : (if zt_fit ν2 7 (zdZ s) (R ++ [k]) (zy_sub n (.append (.tag c2 (.tag n .nil)) (.tag f2 .nil)) t) = true then (1 : Int32) else 0) = 0 := if_neg (by rw [show zy_sub n (.append (.tag c2 (.tag n .nil)) (.tag f2 .nil)) t = zy_cut n c2 f2 t from rfl, hf2]; decide)
      rw [hf2'] at E3
      obtain ⟨Cν2, cp2, w2, z2⟩ := zd_try (k := k) hs hk (fr1.trans fr2) hC
      obtain ⟨ν3, ⟨N4, E4⟩, fr3, hK3⟩ := ze_tryTab (μ := ν2) D hk hs Cν2.1 hn hkR
      rw [w2] at hK3
      have hK3' := zt_isTab_src cp2 hK3
      have frr := (fr1.trans fr2).trans fr3
      cases hf3 : zt_fit ν3 7 (zdZ s) (R ++ [k]) t with
      | true =>
        rw [hf3, if_pos rfl] at E4
        obtain ⟨ξ, G, C1, fx, l⟩ := ze_tile_end_1 (D + 1) (k := k) hs hK3.1.1 nl g0 g2
        refine ⟨ξ, 1, ze_in [(0, .ref 1), (1, .int (nI k)), (2, .ref (zdS s + 1))] zq_Desk_tile (Nat.le_of_ble_eq_true rfl) rfl (S0.end (ze_S.end (p2 := 72) (L2 := L) (s2 := [.int 1]) (h2 := zm_mk ν3) ⟨N2 + N3 + N4, 24, fun F m hF => ?_⟩ G)), ⟨ν1, c1, f1, fr1, hK1, Or.inr ⟨hf1, ν2, c2, f2, fr1.trans fr2, hK2', Or.inr ⟨hf2, ν3, frr, hK3', Or.inl ⟨hf3, rfl, zt_isTab_to l C1 hK3'⟩⟩⟩⟩, zd_fr2 frr fx⟩
        simp (maxDischargeDepth := 9) [zg_0, zg_aload_n, zg_getfield, zg_goto, zg_iconst, zg_ifCond, zg_iload, zg_iload_n, zg_invokevirtual, zg_ireturn, zg_istore, zg_istore_n, zg_isub, zf_X5_tile, zi_ld, zi_lda, zi_cmp, zi_retOk, zi_isI, zi_f3, zi_cr, zi_ci, zi_cn, zi_get_ne, zi_nl_i, zi_nl_r, zi_get_set_eq, nl, g0, g1, g2, g3, g4, zd_c, zq_Desk_tryCut, E2 F (by omega), hax, E3 F (by omega), zq_Desk_tryTab, E4 F (by omega)]
      | false =>
        rw [hf3, if_neg (by decide)] at E4
        refine ⟨ν3, 0, ze_in [(0, .ref 1), (1, .int (nI k)), (2, .ref (zdS s + 1))] zq_Desk_tile (Nat.le_of_ble_eq_true rfl) rfl (S0.end (ze_S.end (p2 := 72) (L2 := L) (s2 := [.int 0]) (h2 := zm_mk ν3) ⟨N2 + N3 + N4, 23, fun F m hF => ?_⟩ (ze_tile_end_0 (D + 5) nl))), ⟨ν1, c1, f1, fr1, hK1, Or.inr ⟨hf1, ν2, c2, f2, fr1.trans fr2, hK2', Or.inr ⟨hf2, ν3, frr, hK3', Or.inr ⟨hf3, rfl, frr⟩⟩⟩⟩, fun c h1 _ => frr c h1⟩
        simp (maxDischargeDepth := 9) [zg_0, zg_aload_n, zg_getfield, zg_goto, zg_iconst, zg_ifCond, zg_iload, zg_iload_n, zg_invokevirtual, zg_ireturn, zg_istore, zg_istore_n, zg_isub, zf_X5_tile, zi_ld, zi_lda, zi_cmp, zi_retOk, zi_isI, zi_f3, zi_cr, zi_ci, zi_cn, zi_get_ne, zi_nl_i, zi_nl_r, zi_get_set_eq, nl, g0, g1, g2, g3, g4, zd_c, zq_Desk_tryCut, E2 F (by omega), hax, E3 F (by omega), zq_Desk_tryTab, E4 F (by omega)]
end ZT3
end
section
/-! the desk: room for a new window -/
set_option maxRecDepth 100000 in
theorem ze_fd_3 (q x y : Int32) (h : zi_Hp) (D : Nat) : ze_G D 3 (some .int) zc_J9_floorDiv_7cf53 17 [(2, .int q), (0, .int x), (1, .int y)] [] h (some (.int (q - 1))) h := by
  refine ⟨0, 4, fun F n hF => ?_⟩
  simp [zg_0, zg_iconst, zg_idiv, zg_ifCond, zg_if_icmp, zg_iload_n, zg_imul, zg_ireturn, zg_istore_n, zg_isub, zg_ixor, zf_J9_floorDiv_7cf53, zi_ld, zi_lda, zi_cmp, zi_retOk, zi_isI, zi_f3, zi_cr, zi_ci, zi_cn, zi_get, zi_set]
section ZM1
variable {μ : zm_M} {row stk : List Nat} {R : List Nat} {t : zy_F}
set_option maxRecDepth 100000 in
theorem ze_floorDiv {h : zi_Hp} (D : Nat) (x : Int32) : ∃ v, ze_E (D + 1) A_Math_floorDiv [.int x, .int 2] h (some (.int v)) h := by
  have z : ¬ (2 : Int32) = 0 := by decide
  by_cases c1 : (0 : Int32) ≤ x ^^^ 2
  · refine ⟨x / 2, ze_in [(0, .int x), (1, .int 2)] zq_Math_floorDiv (Nat.le_of_ble_eq_true rfl) rfl ⟨0, 10, fun F n hF => ?_⟩⟩
    simp [zg_0, zg_iconst, zg_idiv, zg_ifCond, zg_if_icmp, zg_iload_n, zg_imul, zg_ireturn, zg_istore_n, zg_isub, zg_ixor, zf_J9_floorDiv_7cf53, zi_ld, zi_lda, zi_cmp, zi_retOk, zi_isI, zi_f3, zi_cr, zi_ci, zi_cn, zi_get, zi_set, z, c1]
  · by_cases c2 : x / 2 * 2 = x
    · refine ⟨x / 2, ze_in [(0, .int x), (1, .int 2)] zq_Math_floorDiv (Nat.le_of_ble_eq_true rfl) rfl ⟨0, 15, fun F n hF => ?_⟩⟩
      simp [zg_0, zg_iconst, zg_idiv, zg_ifCond, zg_if_icmp, zg_iload_n, zg_imul, zg_ireturn, zg_istore_n, zg_isub, zg_ixor, zf_J9_floorDiv_7cf53, zi_ld, zi_lda, zi_cmp, zi_retOk, zi_isI, zi_f3, zi_cr, zi_ci, zi_cn, zi_get, zi_set, z, c1, c2]
    · refine ⟨x / 2 - 1, ze_in [(0, .int x), (1, .int 2)] zq_Math_floorDiv (Nat.le_of_ble_eq_true rfl) rfl (ze_S.end (p2 := 17) (L2 := [(2, .int (x / 2)), (0, .int x), (1, .int 2)]) (s2 := []) (h2 := h) ⟨0, 13, fun F n hF => ?_⟩ (ze_fd_3 (x / 2) x 2 h D))⟩
      simp [zg_0, zg_iconst, zg_idiv, zg_ifCond, zg_if_icmp, zg_iload_n, zg_imul, zg_ireturn, zg_istore_n, zg_isub, zg_ixor, zf_J9_floorDiv_7cf53, zi_ld, zi_lda, zi_cmp, zi_retOk, zi_isI, zi_f3, zi_cr, zi_ci, zi_cn, zi_get, zi_set, z, c1, c2]
/-- the screen of a tiled window is known -/
noncomputable def zd_scr (μ : zm_M) (k : Nat) : Prop := zd_til μ k = true → ∃ s R t, s < 3 ∧ μ (zdW k) 5 = nI s ∧ zt_I μ (zdT s) R t
set_option maxRecDepth 100000 in
theorem ze_startOf (D : Nat) {k a : Nat} (hk : k < 10) (ha : a < 2) (hs : zd_scr μ k) : ∃ v, ze_E (D + 3) A_Desk_startOf [.ref 1, .int (nI k), .int (nI a)] (zm_mk μ) (some (.int v)) (zm_mk μ) := by
  obtain ⟨N1, E1⟩ := ze_tilW (μ := μ) (D + 1) hk
  have cw := zw_c (μ := μ) (zdW_at hk)
  by_cases c : zd_til μ k = true
  · rw [if_pos c] at E1
    obtain ⟨s, R, t, hs3, h1, h2⟩ := hs c
    obtain ⟨N2, E2⟩ := ze_treeOf (μ := μ) (D + 1) hk hs3 h1
    obtain ⟨N3, E3⟩ := ze_Tree_startOf (μ := μ) D (zdT_at hs3) (zt_I_hm h2) hk ha
    obtain ⟨lt, ct⟩ := zt_c (μ := μ) (zdT_at hs3)
    refine ⟨zt_so μ (zdT s) a k, ze_in [(0, .ref 1), (1, .int (nI k)), (2, .int (nI a))] zq_Desk_startOf (Nat.le_of_ble_eq_true rfl) rfl ⟨N1 + N2 + N3, 14, fun F n hF => ?_⟩⟩
    simp [zg_0, zg_aaload, zg_aload_n, zg_getfield, zg_goto, zg_iaload, zg_ifCond, zg_iload_n, zg_invokevirtual, zg_ireturn, zf_X5_startOf, zi_ld, zi_lda, zi_cmp, zi_retOk, zi_isI, zi_f3, zi_cr, zi_ci, zi_cn, zi_get, zi_set, zd_g, zd_w hk, zq_Win_isTiled, cw, E1 F (by omega), zq_Desk_treeOf, zd_c, E2 F (by omega), zq_Tree_startOf, ct, E3 F (by omega)]
  · rw [if_neg c] at E1
    have ia : zi_in (nI a) 2 = true := zm_in ha (by decide)
    refine ⟨μ (zdW k + 2) a, ze_in [(0, .ref 1), (1, .int (nI k)), (2, .int (nI a))] zq_Desk_startOf (Nat.le_of_ble_eq_true rfl) rfl ⟨N1, 14, fun F n hF => ?_⟩⟩
    simp [zg_0, zg_aaload, zg_aload_n, zg_getfield, zg_goto, zg_iaload, zg_ifCond, zg_iload_n, zg_invokevirtual, zg_ireturn, zf_X5_startOf, zi_ld, zi_lda, zi_cmp, zi_retOk, zi_isI, zi_f3, zi_cr, zi_ci, zi_cn, zi_get, zi_set, zd_g, zd_w hk, zq_Win_isTiled, cw, E1 F (by omega), zw_g (zdW_at hk), zm_iald (k := 0) (zdW_at hk).2.2 ia, nI_clamp (show a < 2 ^ 31 by omega)]
set_option maxRecDepth 100000 in
theorem ze_lengthOf (D : Nat) {k a : Nat} (hk : k < 10) (ha : a < 2) (hs : zd_scr μ k) : ∃ v, ze_E (D + 3) A_Desk_lengthOf [.ref 1, .int (nI k), .int (nI a)] (zm_mk μ) (some (.int v)) (zm_mk μ) := by
  obtain ⟨N1, E1⟩ := ze_tilW (μ := μ) (D + 1) hk
  have cw := zw_c (μ := μ) (zdW_at hk)
  by_cases c : zd_til μ k = true
  · rw [if_pos c] at E1
    obtain ⟨s, R, t, hs3, h1, h2⟩ := hs c
    obtain ⟨N2, E2⟩ := ze_treeOf (μ := μ) (D + 1) hk hs3 h1
    obtain ⟨N3, E3⟩ := ze_Tree_lengthOf (μ := μ) D (zdT_at hs3) (zt_I_hm h2) hk ha
    obtain ⟨lt, ct⟩ := zt_c (μ := μ) (zdT_at hs3)
    refine ⟨zt_lo μ (zdT s) a k, ze_in [(0, .ref 1), (1, .int (nI k)), (2, .int (nI a))] zq_Desk_lengthOf (Nat.le_of_ble_eq_true rfl) rfl ⟨N1 + N2 + N3, 14, fun F n hF => ?_⟩⟩
    simp [zg_0, zg_aaload, zg_aload_n, zg_getfield, zg_goto, zg_iaload, zg_ifCond, zg_iload_n, zg_invokevirtual, zg_ireturn, zf_X5_lengthOf, zi_ld, zi_lda, zi_cmp, zi_retOk, zi_isI, zi_f3, zi_cr, zi_ci, zi_cn, zi_get, zi_set, zd_g, zd_w hk, zq_Win_isTiled, cw, E1 F (by omega), zq_Desk_treeOf, zd_c, E2 F (by omega), zq_Tree_lengthOf, ct, E3 F (by omega)]
  · rw [if_neg c] at E1
    have ia : zi_in (nI a) 2 = true := zm_in ha (by decide)
    refine ⟨μ (zdW k + 1) a, ze_in [(0, .ref 1), (1, .int (nI k)), (2, .int (nI a))] zq_Desk_lengthOf (Nat.le_of_ble_eq_true rfl) rfl ⟨N1, 14, fun F n hF => ?_⟩⟩
    simp [zg_0, zg_aaload, zg_aload_n, zg_getfield, zg_goto, zg_iaload, zg_ifCond, zg_iload_n, zg_invokevirtual, zg_ireturn, zf_X5_lengthOf, zi_ld, zi_lda, zi_cmp, zi_retOk, zi_isI, zi_f3, zi_cr, zi_ci, zi_cn, zi_get, zi_set, zd_g, zd_w hk, zq_Win_isTiled, cw, E1 F (by omega), zw_g (zdW_at hk), zm_iald (k := 0) (zdW_at hk).2.1 ia, nI_clamp (show a < 2 ^ 31 by omega)]
set_option maxRecDepth 100000 in
theorem ze_mid_1 (x y : Int32) (L : zi_Lc) (st : List Value) (h : zi_Hp) (D : Nat) : ∃ v, ze_S D 4 (some .int) zc_X5_middleOf 15 L (.int y :: .int x :: st) h 16 L (.int v :: st) h := by
  refine ⟨x - y, 0, 1, fun F n hF => ?_⟩
  simp only [zi_go, zf_X5_middleOf, zi_ask, zi_new, zi_step]
set_option maxRecDepth 100000 in
theorem ze_middleOf (D : Nat) {k o a : Nat} (hk : k < 10) (ho : o < 10) (ha : a < 2) (eo : μ (zdW k) 4 = nI o) (hs : zd_scr μ o) : ∃ v, ze_E (D + 4) A_Desk_middleOf [.ref 1, .ref (zdW k + 1), .int (nI a)] (zm_mk μ) (some (.int v)) (zm_mk μ) := by
  obtain ⟨v1, N1, E1⟩ := ze_lengthOf (μ := μ) D ho ha hs
  obtain ⟨v2, N2, E2⟩ := ze_startOf (μ := μ) D ho ha hs
  have ia : zi_in (nI a) 2 = true := zm_in ha (by decide)
  have ca : (nI a).toNatClampNeg = a := nI_clamp (by omega)
  obtain ⟨v3, S2⟩ := ze_mid_1 v1 (μ (zdW k + 1) a) [(0, .ref 1), (1, .ref (zdW k + 1)), (2, .int (nI a))] [] (zm_mk μ) (D + 3)
  obtain ⟨v4, N4, E4⟩ := ze_floorDiv (h := zm_mk μ) (D + 2) v3
  refine ⟨v2 + v4, ze_in [(0, .ref 1), (1, .ref (zdW k + 1)), (2, .int (nI a))] zq_Desk_middleOf (Nat.le_of_ble_eq_true rfl) rfl (ze_S.end (ze_S.trans (p2 := 15) (L2 := [(0, .ref 1), (1, .ref (zdW k + 1)), (2, .int (nI a))]) (s2 := [.int (μ (zdW k + 1) a), .int v1]) (h2 := zm_mk μ) ⟨N1, 9, fun F n hF => ?_⟩ S2) ⟨N2 + N4, 11, fun F n hF => ?_⟩)⟩
  · simp [zg_0, zg_aload_n, zg_getfield, zg_iadd, zg_iaload, zg_iconst, zg_iload_n, zg_invokestatic, zg_invokevirtual, zg_ireturn, zg_istore_n, zg_isub, zf_X5_middleOf, zi_ld, zi_lda, zi_cmp, zi_retOk, zi_isI, zi_f3, zi_cr, zi_ci, zi_cn, zi_get, zi_set, zw_g (zdW_at hk), eo, zq_Desk_lengthOf, zd_c, E1 F (by omega), zm_iald (k := 0) (zdW_at hk).2.1 ia, ca]
  · simp [zg_0, zg_aload_n, zg_getfield, zg_iadd, zg_iaload, zg_iconst, zg_iload_n, zg_invokestatic, zg_invokevirtual, zg_ireturn, zg_istore_n, zg_isub, zf_X5_middleOf, zi_ld, zi_lda, zi_cmp, zi_retOk, zi_isI, zi_f3, zi_cr, zi_ci, zi_cn, zi_get, zi_set, zw_g (zdW_at hk), eo, zq_Desk_startOf, zd_c, E2 F (by omega), zq_Math_floorDiv, E4 F (by omega)]
set_option maxRecDepth 100000 in
/-- findRoom of a tiled window -/
theorem ze_findRoom_1 (D : Nat) {k s : Nat} (hk : k < 10) (hs : s < 3) (hkd : μ (zdW k) 3 = 1) {ν : zm_M} {b : Int32} (hb : b = 0 ∨ b = 1) (ht : ze_E D A_Desk_tile [.ref 1, .int (nI k), .ref (zdS s + 1)] (zm_mk (zm_up μ (zdW k) 5 (nI s))) (some (.int b)) (zm_mk ν)) :
    ze_E (D + 1) A_Desk_findRoom [.ref 1, .int (nI k), .int (nI s)] (zm_mk μ) (some (.int b)) (zm_mk ν) := by
  obtain ⟨N1, E1⟩ := ht
  refine ze_in [(0, .ref 1), (1, .int (nI k)), (2, .int (nI s))] zq_Desk_findRoom (Nat.le_of_ble_eq_true rfl) rfl ⟨N1, 20, fun F n hF => ?_⟩
  rcases hb with rfl | rfl <;> simp [zg_0, zg_aaload, zg_aload_n, zg_astore_n, zg_bipush, zg_getfield, zg_goto, zg_iastore, zg_iconst, zg_ifCond, zg_if_icmp, zg_iload, zg_iload_n, zg_imul, zg_invokevirtual, zg_ireturn, zg_istore, zg_putfield, zf_X5_findRoom, zi_ld, zi_lda, zi_cmp, zi_retOk, zi_isI, zi_f3, zi_cr, zi_ci, zi_cn, zi_get, zi_set, zd_g, zd_w hk, zw_g (zdW_at hk), hkd, zw_p5 (zdW_at hk), zd_s hs, zq_Desk_tile, zd_c, E1 F (by omega)]
set_option maxRecDepth 100000 in
theorem ze_findRoom_4 (D : Nat) {k : Nat} (hk : k < 10) (s : Int32) (hkd : μ (zdW k) 3 = 4) : ∃ ν, ze_E (D + 1) A_Desk_findRoom [.ref 1, .int (nI k), .int s] (zm_mk μ) (some (.int 1)) (zm_mk ν) ∧ ∀ c, c ≠ zdW k + 2 → ν c = μ c := by
  have h10 : (Int8.ofInt 10).toInt32 = (10 : Int32) := by decide
  have c1 : ¬ (4 : Int32) = 1 := by decide
  refine ⟨zm_up (zm_up μ (zdW k + 2) 0 (10 * nI k)) (zdW k + 2) 1 (10 * nI k), ze_in [(0, .ref 1), (1, .int (nI k)), (2, .int s)] zq_Desk_findRoom (Nat.le_of_ble_eq_true rfl) rfl ⟨0, 29, fun F n hF => ?_⟩, fun c hc => by rw [zm_up_row hc, zm_up_row hc]⟩
  have w2 := (zdW_at hk).2.2
  generalize hm : 10 * nI k = m
  simp [zg_0, zg_aaload, zg_aload_n, zg_astore_n, zg_bipush, zg_getfield, zg_goto, zg_iastore, zg_iconst, zg_ifCond, zg_if_icmp, zg_iload, zg_iload_n, zg_imul, zg_invokevirtual, zg_ireturn, zg_istore, zg_putfield, zf_X5_findRoom, zi_ld, zi_lda, zi_cmp, zi_retOk, zi_isI, zi_f3, zi_cr, zi_ci, zi_cn, zi_get, zi_set, zd_g, zd_w hk, zw_g (zdW_at hk), hkd, c1, h10, hm, zm_iast w2 zm_in0, zm_iast w2 zm_in1, zm_cl0, zm_cl1]
set_option maxRecDepth 100000 in
theorem ze_findRoom_no (D : Nat) {k s : Nat} (hk : k < 10) (hs : s < 3) (h1 : ¬ μ (zdW k) 3 = 1) (h4 : ¬ μ (zdW k) 3 = 4) (hw : zd_whole μ (zdZ s) k = false) : ze_E (D + 2) A_Desk_findRoom [.ref 1, .int (nI k), .int (nI s)] (zm_mk μ) (some (.int 0)) (zm_mk μ) := by
  obtain ⟨N1, E1⟩ := ze_wholeW (μ := μ) D hk (zdZ_A hs)
  rw [hw, if_neg (by decide)] at E1
  have cw := zw_c (μ := μ) (zdW_at hk)
  refine ze_in [(0, .ref 1), (1, .int (nI k)), (2, .int (nI s))] zq_Desk_findRoom (Nat.le_of_ble_eq_true rfl) rfl ⟨N1, 23, fun F n hF => ?_⟩
  simp [zg_0, zg_aaload, zg_aload_n, zg_astore_n, zg_bipush, zg_getfield, zg_goto, zg_iastore, zg_iconst, zg_ifCond, zg_if_icmp, zg_iload, zg_iload_n, zg_imul, zg_invokevirtual, zg_ireturn, zg_istore, zg_putfield, zf_X5_findRoom, zi_ld, zi_lda, zi_cmp, zi_retOk, zi_isI, zi_f3, zi_cr, zi_ci, zi_cn, zi_get, zi_set, zd_g, zd_w hk, zw_g (zdW_at hk), h1, h4, zd_s hs, zdS_g hs, zq_Win_canBeWhole, cw, E1 F (by omega)]
set_option maxRecDepth 100000 in
/-- findRoom of one that floats, or of a dialog -/
theorem ze_findRoom_23 (D : Nat) {k s : Nat} (hk : k < 10) (hs : s < 3) (h1 : ¬ μ (zdW k) 3 = 1) (h4 : ¬ μ (zdW k) 3 = 4) (hw : zd_whole μ (zdZ s) k = true) (ho : μ (zdW k) 3 = 3 → ∃ o, o < 10 ∧ o ≠ k ∧ μ (zdW k) 4 = nI o ∧ zd_scr μ o) :
    ∃ ν, ze_E (D + 5) A_Desk_findRoom [.ref 1, .int (nI k), .int (nI s)] (zm_mk μ) (some (.int 1)) (zm_mk ν) ∧ ν (zdW k) 5 = nI s ∧ ∀ c b, ¬ (c = zdW k ∧ b = 5) → c ≠ zdW k + 2 → ν c b = μ c b := by
  have h10 : (Int8.ofInt 10).toInt32 = (10 : Int32) := by decide
  obtain ⟨N1, E1⟩ := ze_wholeW (μ := μ) (D + 3) hk (zdZ_A hs)
  rw [hw, if_pos rfl] at E1
  have cw := zw_c (μ := μ) (zdW_at hk)
  let μ1 := zm_up μ (zdW k) 5 (nI s)
  have cw1 := zw_c (μ := μ1) (zdW_at hk)
  have e3 : μ1 (zdW k) 3 = μ (zdW k) 3 := zm_up_ne (by omega)
  have e4 : μ1 (zdW k) 4 = μ (zdW k) 4 := zm_up_ne (by omega)
  have S1 : ze_S (D + 4) 6 (some .boolean) zc_X5_findRoom 0 [(0, .ref 1), (1, .int (nI k)), (2, .int (nI s))] [] (zm_mk μ) 85 [(3, .ref (zdW k + 1)), (0, .ref 1), (1, .int (nI k)), (2, .int (nI s))] [] (zm_mk μ1) := by
    refine ⟨N1, 24, fun F n hF => ?_⟩
    have m1 : zm_up μ (zdW k) 5 (nI s) = μ1 := rfl
    simp [zg_0, zg_aaload, zg_aload_n, zg_astore_n, zg_bipush, zg_getfield, zg_goto, zg_iastore, zg_iconst, zg_ifCond, zg_if_icmp, zg_iload, zg_iload_n, zg_imul, zg_invokevirtual, zg_ireturn, zg_istore, zg_putfield, zf_X5_findRoom, zi_ld, zi_lda, zi_cmp, zi_retOk, zi_isI, zi_f3, zi_cr, zi_ci, zi_cn, zi_get, zi_set, zd_g, zd_w hk, zw_g (zdW_at hk), h1, h4, zd_s hs, zdS_g hs, zq_Win_canBeWhole, cw, E1 F (by omega), zw_p5 (zdW_at hk), m1]
  have S2 : ∃ x y : Int32, ze_S (D + 4) 6 (some .boolean) zc_X5_findRoom 85 [(3, .ref (zdW k + 1)), (0, .ref 1), (1, .int (nI k)), (2, .int (nI s))] [] (zm_mk μ1) 131 [(5, .int y), (4, .int x), (3, .ref (zdW k + 1)), (0, .ref 1), (1, .int (nI k)), (2, .int (nI s))] [] (zm_mk μ1) := by
    by_cases c3 : μ (zdW k) 3 = 3
    · obtain ⟨o, ho1, ho2, ho3, ho4⟩ := ho c3
      have hsc : zd_scr μ1 o := by
        intro ht
        have ew : μ1 (zdW o) = μ (zdW o) := zm_up_row (fun e => ho2 (zdW_inj e))
        have ht' : zd_til μ o = true := by
          unfold zd_til at *
          rw [ew] at ht
          exact ht
        obtain ⟨q, R, t, q1, q2, q3⟩ := ho4 ht'
        refine ⟨q, R, t, q1, by rw [ew]; exact q2, ?_⟩
        have r : ∀ j, μ1 (zdT q + j) = μ (zdT q + j) := fun j => zm_up_row (by unfold zdT zdW; omega)
        exact zt_same.I ⟨r _, r _, r _, r _, r _, r _, r _, r _, r _, r _, r _, by rw [show μ1 (zdT q) = μ (zdT q) from r 0]⟩ q3
      obtain ⟨x, N2, E2⟩ := ze_middleOf (μ := μ1) D hk ho1 (a := 0) (by decide) (by rw [e4]; exact ho3) hsc
      obtain ⟨y, N3, E3⟩ := ze_middleOf (μ := μ1) D hk ho1 (a := 1) (by decide) (by rw [e4]; exact ho3) hsc
      refine ⟨x, y, N2 + N3, 20, fun F n hF => ?_⟩
      have E2 := E2 F (by omega)
      have E3 := E3 F (by omega)
      rw [nI_0] at E2
      rw [show nI 1 = 1 by decide] at E3
      simp [zg_0, zg_aaload, zg_aload_n, zg_astore_n, zg_bipush, zg_getfield, zg_goto, zg_iastore, zg_iconst, zg_ifCond, zg_if_icmp, zg_iload, zg_iload_n, zg_imul, zg_invokevirtual, zg_ireturn, zg_istore, zg_putfield, zf_X5_findRoom, zi_ld, zi_lda, zi_cmp, zi_retOk, zi_isI, zi_f3, zi_cr, zi_ci, zi_cn, zi_get, zi_set, zw_g (zdW_at hk), e3, c3, zq_Desk_middleOf, zd_c, E2, E3]
    · generalize hm : 10 * nI k = m
      refine ⟨m, m, 0, 16, fun F n hF => ?_⟩
      simp [zg_0, zg_aaload, zg_aload_n, zg_astore_n, zg_bipush, zg_getfield, zg_goto, zg_iastore, zg_iconst, zg_ifCond, zg_if_icmp, zg_iload, zg_iload_n, zg_imul, zg_invokevirtual, zg_ireturn, zg_istore, zg_putfield, zf_X5_findRoom, zi_ld, zi_lda, zi_cmp, zi_retOk, zi_isI, zi_f3, zi_cr, zi_ci, zi_cn, zi_get, zi_set, zw_g (zdW_at hk), e3, c3, h10, hm]
  obtain ⟨x, y, S2⟩ := S2
  obtain ⟨N4, E4⟩ := ze_putAt (μ := μ1) D (zdW_at hk) (zdZ_A hs) (by unfold zdZ zdW; omega) x y
  refine ⟨zw_put μ1 (zdW k) (zdZ s) x y, ze_in [(0, .ref 1), (1, .int (nI k)), (2, .int (nI s))] zq_Desk_findRoom (Nat.le_of_ble_eq_true rfl) rfl ((S1.trans S2).end ⟨N4, 11, fun F n hF => ?_⟩), ?_, fun c b q1 q2 => ?_⟩
  · simp [zg_0, zg_aaload, zg_aload_n, zg_astore_n, zg_bipush, zg_getfield, zg_goto, zg_iastore, zg_iconst, zg_ifCond, zg_if_icmp, zg_iload, zg_iload_n, zg_imul, zg_invokevirtual, zg_ireturn, zg_istore, zg_putfield, zf_X5_findRoom, zi_ld, zi_lda, zi_cmp, zi_retOk, zi_isI, zi_f3, zi_cr, zi_ci, zi_cn, zi_get, zi_set, zd_g, zd_s hs, zdS_g hs, zq_Win_putAt, cw1, E4 F (by omega)]
  · unfold zw_put
    rw [zm_up_ne (by omega), zm_up_ne (by omega)]
    exact zm_up_eq
  · unfold zw_put
    rw [zm_up_row q2, zm_up_row q2]
    exact zm_up_ne q1
end ZM1
end
section
/-! the desk: a window ends; one taken back; a drag tried -/
section ZE1
variable {μ : zm_M} {row stk : List Nat} {R : List Nat} {t : zy_F}
/-- the Tree at T is that at Q without the window k -/
noncomputable def zt_isOut (μ : zm_M) (Q : Nat) (R : List Nat) (t : zy_F) (n k : Nat) (ν : zm_M) (T : Nat) : Prop :=
  zt_C ν T (R.erase k) (if (zt_tb μ Q R n).erase k = [] then zy_out n t else t) ∧ (∀ v, ν (T + 3) v = if v = k then -1 else μ (Q + 3) v) ∧ ν (T + 5) = μ (Q + 5) ∧ ν (T + 6) = μ (Q + 6) ∧ (∀ i ∈ zy_ids (if (zt_tb μ Q R n).erase k = [] then zy_out n t else t), ν (T + 7) i = μ (Q + 7) i) ∧ ν (T + 8) = μ (Q + 8) ∧ (∀ i, ν (T + 12) i = if i = n ∧ μ (Q + 12) n = nI k then zl_nx (zt_tb μ Q R n) k else μ (Q + 12) i)
theorem zt_tb_congr {ν : zm_M} {T Q n : Nat} (h : ν (T + 3) = μ (Q + 3)) : zt_tb ν T R n = zt_tb μ Q R n := by
  unfold zt_tb
  rw [h]
theorem ze_takeOutI (D : Nat) {T Q : Nat} (h : zt_at T) {ν : zm_M} (hI : zt_I ν T R t) (hc : zt_isCopy μ Q ν T) {n k : Nat} (hn : n ∈ zy_lvs t) (hkR : k ∈ R) (hkn : μ (Q + 3) k = nI n) :
    ∃ ξ, ze_E (D + 4) A_Tree_takeOut [.ref (T + 1), .int (nI k)] (zm_mk ν) none (zm_mk ξ) ∧ zt_isOut μ Q R t n k ξ T ∧ zt_frT T ν ξ := by
  obtain ⟨c3, c5, c6, c7, c8, c12⟩ := hc
  obtain ⟨ξ, E, C, f, t3, t5, t6, t7, t8, t12⟩ := ze_Tree_takeOut (μ := ν) D h hI hn hkR (by rw [c3]; exact hkn)
  refine ⟨ξ, E, ?_, f⟩
  have eb : zt_tb ν T R n = zt_tb μ Q R n := zt_tb_congr c3
  rw [eb] at C t7 t12
  rw [c3] at t3
  rw [c7] at t7
  rw [c12] at t12
  exact ⟨C, t3, t5.trans c5, t6.trans c6, t7, t8.trans c8, t12⟩
theorem zt_isCopy.refl {T : Nat} : zt_isCopy μ T μ T := ⟨rfl, rfl, rfl, rfl, rfl, rfl⟩
set_option maxRecDepth 100000 in
theorem ze_end (D : Nat) {k s n : Nat} (hk : k < 10) (hs : s < 3) (hrow : zr_L μ 3 row) (hrb : ∀ j ∈ row, j < 10) (hstk : zr_L μ 5 stk) (hsb : ∀ j ∈ stk, j < 10) (ht : zd_til μ k = true → μ (zdW k) 5 = nI s ∧ zt_I μ (zdT s) R t ∧ n ∈ zy_lvs t ∧ k ∈ R ∧ μ (zdT s + 3) k = nI n) :
    ∃ ν, ze_E (D + 5) A_Desk_end [.ref 1, .int (nI k)] (zm_mk μ) none (zm_mk ν) ∧ zr_L ν 3 (row.erase k) ∧ zr_L ν 5 (stk.erase k) ∧ (∀ q, q < 3 → ν (zdK q) 3 = if zd_has μ q k = true then 0 else μ (zdK q) 3) ∧ ν (zdW k) 2 = 0 ∧ (zd_til μ k = true → zt_isOut μ (zdT s) R t n k ν (zdT s)) ∧
      ∀ c b, c ≠ 3 → c ≠ 4 → c ≠ 5 → c ≠ 6 → (∀ q, q < 3 → c = zdK q → b ≠ 3) → ¬ (c = zdW k ∧ b = 2) → (zd_til μ k = true → zt_out (zdT s) c) → ν c b = μ c b := by
  obtain ⟨ν1, ⟨N1, E1⟩, k1, f1⟩ := ze_forgetKeptWith (μ := μ) (D + 1) hk
  have f1r : ∀ c, (∀ q, q < 3 → c ≠ zdK q) → ν1 c = μ c := fun c hc => funext fun b => f1 c b (fun q hq e => absurd e (hc q hq))
  have ew : ν1 (zdW k) = μ (zdW k) := f1r _ (fun q hq => by unfold zdW zdK; omega)
  have et : zd_til ν1 k = zd_til μ k := by unfold zd_til; rw [ew]
  obtain ⟨N2, E2⟩ := ze_tilW (μ := ν1) (D + 3) hk
  rw [et] at E2
  have cw := zw_c (μ := ν1) (zdW_at hk)
  -- the tree
  have tree : ∃ ν2, ze_S (D + 4) 2 none zc_X5_end 0 [(0, .ref 1), (1, .int (nI k))] [] (zm_mk μ) 26 [(0, .ref 1), (1, .int (nI k))] [] (zm_mk ν2) ∧ (zd_til μ k = true → zt_isOut μ (zdT s) R t n k ν2 (zdT s)) ∧ ∀ c, (zd_til μ k = true → zt_out (zdT s) c) → ν2 c = ν1 c := by
    by_cases c : zd_til μ k = true
    · rw [if_pos c] at E2
      obtain ⟨h1, h2, h3, h4, h5⟩ := ht c
      have r : ∀ j, j < 24 → ν1 (zdT s + j) = μ (zdT s + j) := fun j hj => f1r _ (fun q hq => by unfold zdT zdK; omega)
      have hI1 : zt_I ν1 (zdT s) R t := zt_same.I ⟨r _ (by omega), r _ (by omega), r _ (by omega), r _ (by omega), r _ (by omega), r _ (by omega), r _ (by omega), r _ (by omega), r _ (by omega), r _ (by omega), r _ (by omega), by rw [show ν1 (zdT s) = μ (zdT s) from r 0 (by omega)]⟩ h2
      obtain ⟨N3, E3⟩ := ze_treeOf (μ := ν1) (D + 3) hk hs (by rw [ew]; exact h1)
      obtain ⟨ν2, ⟨N4, E4⟩, O, f2⟩ := ze_takeOutI (μ := μ) (Q := zdT s) D (zdT_at hs) hI1 ⟨r _ (by omega), r _ (by omega), r _ (by omega), r _ (by omega), r _ (by omega), r _ (by omega)⟩ h3 h4 h5
      obtain ⟨lt, ct⟩ := zt_c (μ := ν1) (zdT_at hs)
      refine ⟨ν2, ⟨N1 + N2 + N3 + N4, 14, fun F m hF => ?_⟩, fun _ => O, fun c' hc => f2 c' (hc c)⟩
      simp [zg_0, zg_aaload, zg_aload_n, zg_getfield, zg_iconst, zg_ifCond, zg_iload_n, zg_invokevirtual, zg_putfield, zg_return, zf_X5_end, zi_ld, zi_lda, zi_cmp, zi_retOk, zi_isI, zi_f3, zi_cr, zi_ci, zi_cn, zi_get, zi_set, zq_Desk_forgetKeptWith, zd_c, E1 F (by omega), zd_g, zd_w hk, zq_Win_isTiled, cw, E2 F (by omega), zq_Desk_treeOf, E3 F (by omega), zq_Tree_takeOut, ct, E4 F (by omega)]
    · rw [if_neg c] at E2
      refine ⟨ν1, ⟨N1 + N2, 9, fun F m hF => ?_⟩, fun q => absurd q c, fun _ _ => rfl⟩
      simp [zg_0, zg_aaload, zg_aload_n, zg_getfield, zg_iconst, zg_ifCond, zg_iload_n, zg_invokevirtual, zg_putfield, zg_return, zf_X5_end, zi_ld, zi_lda, zi_cmp, zi_retOk, zi_isI, zi_f3, zi_cr, zi_ci, zi_cn, zi_get, zi_set, zq_Desk_forgetKeptWith, zd_c, E1 F (by omega), zd_g, zd_w hk, zq_Win_isTiled, cw, E2 F (by omega)]
  obtain ⟨ν2, S2, O2, f2⟩ := tree
  have g2 : ∀ c, c < 7 → ν2 c = μ c := fun c hc => (f2 c (fun _ => by unfold zt_out zdT; omega)).trans (f1r c (fun q hq => by unfold zdK; omega))
  obtain ⟨ν3, ⟨N5, E5⟩, l5, f5⟩ := ze_Row_takeOut (μ := ν2) (D + 2) zd3_at (zr_L_congr (g2 _ (by omega)) (g2 _ (by omega)) hrow) hrb hk
  have f5' : ∀ c, c ≠ 3 → c ≠ 4 → ν3 c = ν2 c := fun c h1 h2 => funext fun b => f5 c b h1 h2
  obtain ⟨ν4, ⟨N6, E6⟩, l6, f6⟩ := ze_Row_takeOut (μ := ν3) (D + 2) zd5_at (zr_L_congr (by rw [f5' _ (by omega) (by omega)]; exact g2 _ (by omega)) (by rw [f5' _ (by omega) (by omega)]; exact g2 _ (by omega)) hstk) hsb hk
  have f6' : ∀ c, c ≠ 5 → c ≠ 6 → ν4 c = ν3 c := fun c h1 h2 => funext fun b => f6 c b h1 h2
  have w4 : ∀ c, c ≠ zdW k → zm_up ν4 (zdW k) 2 0 c = ν4 c := fun c hc => zm_up_row hc
  have g4 : ∀ c, c ≠ 3 → c ≠ 4 → c ≠ 5 → c ≠ 6 → ν4 c = ν2 c := fun c a1 a2 a3 a4 => (f6' c a3 a4).trans (f5' c a1 a2)
  refine ⟨zm_up ν4 (zdW k) 2 0, ze_in [(0, .ref 1), (1, .int (nI k))] zq_Desk_end (Nat.le_of_ble_eq_true rfl) rfl (S2.end ⟨N5 + N6, 15, fun F m hF => ?_⟩), ?_, ?_, fun q hq => ?_, zm_up_eq, fun c => ?_, fun c b a1 a2 a3 a4 a5 a6 a7 => ?_⟩
  · have cr3 := zr_c (μ := ν2) zd3_at
    have cr5 := zr_c (μ := ν3) zd5_at
    simp [zg_0, zg_aaload, zg_aload_n, zg_getfield, zg_iconst, zg_ifCond, zg_iload_n, zg_invokevirtual, zg_putfield, zg_return, zf_X5_end, zi_ld, zi_lda, zi_cmp, zi_retOk, zi_isI, zi_f3, zi_cr, zi_ci, zi_cn, zi_get, zi_set, zd_g, zq_Row_takeOut, cr3, cr5, E5 F (by omega), E6 F (by omega), zd_w hk, zw_p2 (zdW_at hk) (Or.inl rfl)]
  · exact zr_L_congr (by rw [w4 _ (by unfold zdW; omega), f6' _ (by omega) (by omega)]) (by rw [w4 _ (by unfold zdW; omega), f6' _ (by omega) (by omega)]) l5
  · exact zr_L_congr (w4 _ (by unfold zdW; omega)) (w4 _ (by unfold zdW; omega)) l6
  · rw [w4 _ (by unfold zdK zdW; omega), g4 _ (by unfold zdK; omega) (by unfold zdK; omega) (by unfold zdK; omega) (by unfold zdK; omega), f2 _ (fun _ => by unfold zt_out zdK zdT; omega)]
    exact k1 q hq
  · obtain ⟨o1, o2, o3, o4, o5, o6, o7⟩ := O2 c
    have r : ∀ j, zm_up ν4 (zdW k) 2 0 (zdT s + j) = ν2 (zdT s + j) := fun j => by
      rw [w4 _ (by unfold zdT zdW; omega), g4 _ (by unfold zdT; omega) (by unfold zdT; omega) (by unfold zdT; omega) (by unfold zdT; omega)]
    refine ⟨zt_C_congr (fun c h1 h2 => ?_) o1, fun v => by rw [r]; exact o2 v, by rw [r]; exact o3, by rw [r]; exact o4, fun i hi => by rw [r]; exact o5 i hi, by rw [r]; exact o6, fun i => by rw [r]; exact o7 i⟩
    have := r (c - zdT s)
    rw [show zdT s + (c - zdT s) = c by omega] at this
    exact this
  · rw [zm_up_ne a6, g4 c a1 a2 a3 a4, f2 c a7]
    exact f1 c b a5
end ZE1
end
section
/-! the desk: one taken back; a drag tried -/
section ZB1
variable {μ : zm_M} {row stk : List Nat} {R : List Nat} {t : zy_F}
set_option maxRecDepth 100000 in
/-- takeBack of a tiled window -/
theorem ze_takeBack_1 (D : Nat) {k s n q : Nat} (hk : k < 10) (hs : s < 3) (ht : zd_til μ k = true) (h1 : μ (zdW k) 5 = nI s) (hI : zt_I μ (zdT s) R t) (hn : n ∈ zy_lvs t) (hkR : k ∈ R) (hkn : μ (zdT s + 3) k = nI n) :
    ∃ ν, ze_E (D + 5) A_Desk_takeBack [.ref 1, .int (nI k), .ref (zdK q + 1)] (zm_mk μ) none (zm_mk ν) ∧ zt_isOut μ (zdT s) R t n k ν (zdT s) ∧ zt_frT (zdT s) μ ν := by
  obtain ⟨N2, E2⟩ := ze_tilW (μ := μ) (D + 3) hk
  rw [if_pos ht] at E2
  obtain ⟨N3, E3⟩ := ze_treeOf (μ := μ) (D + 3) hk hs h1
  obtain ⟨ν, ⟨N4, E4⟩, O, f⟩ := ze_takeOutI (μ := μ) (Q := zdT s) D (zdT_at hs) hI zt_isCopy.refl hn hkR hkn
  have cw := zw_c (μ := μ) (zdW_at hk)
  obtain ⟨lt, ct⟩ := zt_c (μ := μ) (zdT_at hs)
  refine ⟨ν, ze_in [(0, .ref 1), (1, .int (nI k)), (2, .ref (zdK q + 1))] zq_Desk_takeBack (Nat.le_of_ble_eq_true rfl) rfl ⟨N2 + N3 + N4, 13, fun F m hF => ?_⟩, O, f⟩
  simp [zg_0, zg_aaload, zg_aload_n, zg_getfield, zg_goto, zg_iaload, zg_iastore, zg_iconst, zg_ifCond, zg_iload_n, zg_invokevirtual, zg_return, zf_X5_takeBack, zi_ld, zi_lda, zi_cmp, zi_retOk, zi_isI, zi_f3, zi_cr, zi_ci, zi_cn, zi_get, zi_set, zd_g, zd_w hk, zq_Win_isTiled, cw, E2 F (by omega), zq_Desk_treeOf, zd_c, E3 F (by omega), zq_Tree_takeOut, ct, E4 F (by omega)]
set_option maxRecDepth 100000 in
/-- takeBack of another one -/
theorem ze_takeBack_2 (D : Nat) {k q : Nat} (hk : k < 10) (hq : q < 3) (ht : zd_til μ k = false) :
    ∃ ν, ze_E (D + 2) A_Desk_takeBack [.ref 1, .int (nI k), .ref (zdK q + 1)] (zm_mk μ) none (zm_mk ν) ∧ ∀ c, c ≠ zdW k + 2 → ν c = μ c := by
  obtain ⟨N2, E2⟩ := ze_tilW (μ := μ) D hk
  rw [ht, if_neg (by decide)] at E2
  have cw := zw_c (μ := μ) (zdW_at hk)
  obtain ⟨p0, p1, p2, p3⟩ := zdP_h hq
  have w2 := (zdW_at hk).2.2
  have ik : zi_in (nI k) 10 = true := zm_in hk (by decide)
  have ck : (nI k).toNatClampNeg = k := nI_clamp (by omega)
  refine ⟨zm_up (zm_up μ (zdW k + 2) 0 (μ (zdP q + 1) k)) (zdW k + 2) 1 (zm_up μ (zdW k + 2) 0 (μ (zdP q + 1) k) (zdP q + 2) k), ze_in [(0, .ref 1), (1, .int (nI k)), (2, .ref (zdK q + 1))] zq_Desk_takeBack (Nat.le_of_ble_eq_true rfl) rfl ⟨N2, 33, fun F m hF => ?_⟩, fun c hc => by rw [zm_up_row hc, zm_up_row hc]⟩
  simp [zg_0, zg_aaload, zg_aload_n, zg_getfield, zg_goto, zg_iaload, zg_iastore, zg_iconst, zg_ifCond, zg_iload_n, zg_invokevirtual, zg_return, zf_X5_takeBack, zi_ld, zi_lda, zi_cmp, zi_retOk, zi_isI, zi_f3, zi_cr, zi_ci, zi_cn, zi_get, zi_set, zd_g, zd_w hk, zq_Win_isTiled, cw, E2 F (by omega), zw_g (zdW_at hk), zdK_g hq, zm_ax0 p0, zm_ax1 p0, zm_iald (k := 0) p1 ik, zm_iald (k := 0) p2 ik, ck, zm_iast w2 zm_in0, zm_iast w2 zm_in1, zm_cl0, zm_cl1]
/-- the tree of a drag before the window comes to it: R, t at Q without k, if k is there -/
noncomputable def zt_isDr (μ : zm_M) (Q : Nat) (R : List Nat) (t : zy_F) (k : Nat) (ν : zm_M) (T : Nat) (R' : List Nat) (t' : zy_F) : Prop :=
  (k ∉ R ∧ R' = R ∧ t' = t ∧ zt_isCopy μ Q ν T ∧ zt_C ν T R t) ∨ (k ∈ R ∧ ∃ n ∈ zy_lvs t, μ (Q + 3) k = nI n ∧ R' = R.erase k ∧ t' = (if (zt_tb μ Q R n).erase k = [] then zy_out n t else t) ∧ zt_isOut μ Q R t n k ν T)
theorem zt_isDr_C {Q T k : Nat} {ν : zm_M} {R' : List Nat} {t' : zy_F} (h : zt_isDr μ Q R t k ν T R' t') : zt_C ν T R' t' := by
  rcases h with ⟨-, e1, e2, -, h⟩ | ⟨-, n, -, -, e1, e2, h⟩
  · rw [e1, e2]; exact h
  · rw [e1, e2]; exact h.1
set_option maxRecDepth 100000 in
theorem ze_tryDrag_0 (D : Nat) {k o s : Nat} (hk : k < 10) (ho : o < 10) (hs : s < 3) (h1 : μ (zdW o) 5 = nI s) (hI : zt_I μ (zdT s) R t) :
    ∃ ν R' t', zt_isDr μ (zdT s) R t k ν 7 R' t' ∧ zt_frT 7 μ ν ∧ ∀ sd, ze_S (D + 4) 6 none zc_X5_tryDrag 0 [(0, .ref 1), (1, .int (nI k)), (2, .int (nI o)), (3, .int (nI sd))] [] (zm_mk μ) 41 [(5, .int (ν 10 o)), (4, .ref (zdW k + 1 + 1)), (0, .ref 1), (1, .int (nI k)), (2, .int (nI o)), (3, .int (nI sd))] [] (zm_mk ν) := by
  obtain ⟨ν1, ⟨N1, E1⟩, C1, f1, l⟩ := ze_Tree_copyFrom (μ := μ) D zd7_at (zdT_at hs) (by unfold zdT; omega) hI
  obtain ⟨N2, E2⟩ := ze_treeOf (μ := μ) (D + 3) ho hs h1
  obtain ⟨l1, d1⟩ := zt_c (μ := μ) zd7_at
  obtain ⟨l2, d2⟩ := zt_c (μ := ν1) zd7_at
  have w1 := (zdW_at hk).2.1
  by_cases c : k ∈ R
  · obtain ⟨n, hn, en⟩ := hI.2.2.2.1 k c
    obtain ⟨ν, ⟨N3, E3⟩, O, f3⟩ := ze_takeOutI (μ := μ) (Q := zdT s) D zd7_at C1.1 l hn c en
    obtain ⟨N4, E4⟩ := ze_Tree_leafOf (μ := ν) (D + 3) zd7_at ho
    obtain ⟨l3, d3⟩ := zt_c (μ := ν) zd7_at
    refine ⟨ν, _, _, Or.inr ⟨c, n, hn, en, rfl, rfl, O⟩, f1.trans f3, fun sd => ⟨N1 + N2 + N3 + N4, 21, fun F m hF => ?_⟩⟩
    simp [zg_0, zg_aaload, zg_aload, zg_aload_n, zg_astore, zg_getfield, zg_goto, zg_iaload, zg_iconst, zg_ifCond, zg_if_icmp, zg_iload, zg_iload_n, zg_invokestatic, zg_invokevirtual, zg_istore, zg_return, zf_X5_tryDrag, zi_ld, zi_lda, zi_cmp, zi_retOk, zi_isI, zi_f3, zi_cr, zi_ci, zi_cn, zi_get, zi_set, zd_g, zd_w hk, zw_g (zdW_at hk), zq_Desk_treeOf, zd_c, E2 F (by omega), zq_Tree_copyFrom, d1, E1 F (by omega), zq_Tree_takeOut, d2, E3 F (by omega), zq_Tree_leafOf, d3, E4 F (by omega)]
  · have hneg : ν1 (7 + 3) k < 0 := by rw [C1.1.2.2.2.2.1 k hk c]; decide
    obtain ⟨N3, E3⟩ := ze_Tree_takeOut_no (μ := ν1) (D + 2) zd7_at hk hneg
    obtain ⟨N4, E4⟩ := ze_Tree_leafOf (μ := ν1) (D + 3) zd7_at ho
    refine ⟨ν1, R, t, Or.inl ⟨c, rfl, rfl, l, C1⟩, f1, fun sd => ⟨N1 + N2 + N3 + N4, 21, fun F m hF => ?_⟩⟩
    simp [zg_0, zg_aaload, zg_aload, zg_aload_n, zg_astore, zg_getfield, zg_goto, zg_iaload, zg_iconst, zg_ifCond, zg_if_icmp, zg_iload, zg_iload_n, zg_invokestatic, zg_invokevirtual, zg_istore, zg_return, zf_X5_tryDrag, zi_ld, zi_lda, zi_cmp, zi_retOk, zi_isI, zi_f3, zi_cr, zi_ci, zi_cn, zi_get, zi_set, zd_g, zd_w hk, zw_g (zdW_at hk), zq_Desk_treeOf, zd_c, E2 F (by omega), zq_Tree_copyFrom, d1, E1 F (by omega), zq_Tree_takeOut, d2, E3 F (by omega), zq_Tree_leafOf, E4 F (by omega)]
/-- what a drag's try leaves in the trial tree: ν0 is before the window comes -/
noncomputable def zd_drg (μ ν0 ν : zm_M) (R' : List Nat) (t' : zy_F) (k n sd : Nat) : Prop :=
  (sd = 4 ∧ zt_isTab ν0 7 R' t' n k (μ (zdW k + 1) 0) (μ (zdW k + 1) 1) ν 7) ∨ (sd < 4 ∧ ∃ c f, zt_isCut ν0 7 R' t' n k (sd / 2) (decide (sd % 2 = 0)) (μ (zdW k + 1) 0) (μ (zdW k + 1) 1) ν 7 c f)
set_option maxRecDepth 100000 in
theorem ze_tryDrag (D : Nat) {k o s sd : Nat} (hk : k < 10) (ho : o < 10) (hko : k ≠ o) (hs : s < 3) (hsd : sd < 5) (h1 : μ (zdW o) 5 = nI s) (hI : zt_I μ (zdT s) R t) (hoR : o ∈ R) :
    ∃ ν ν0 R' t' n, ze_E (D + 5) A_Desk_tryDrag [.ref 1, .int (nI k), .int (nI o), .int (nI sd)] (zm_mk μ) none (zm_mk ν) ∧ zt_isDr μ (zdT s) R t k ν0 7 R' t' ∧ n ∈ zy_lvs t' ∧ ν0 (7 + 3) o = nI n ∧ zd_drg μ ν0 ν R' t' k n sd ∧ zt_frT 7 μ ν := by
  obtain ⟨ν0, R', t', hd, f0, S0⟩ := ze_tryDrag_0 (μ := μ) D hk ho hs h1 hI
  have hC := zt_isDr_C hd
  have hmem : k ∉ R' ∧ o ∈ R' := by
    rcases hd with ⟨q, e1, -, -, -⟩ | ⟨-, n, -, -, e1, -, -⟩
    · rw [e1]; exact ⟨q, hoR⟩
    · rw [e1]
      exact ⟨fun h => ((zl_er_mem hI.1.2.1).mp h).1 rfl, (zl_er_mem hI.1.2.1).mpr ⟨Ne.symm hko, hoR⟩⟩
  obtain ⟨n, hn, en⟩ := hC.1.2.2.2.1 o hmem.2
  have en' : ν0 10 o = nI n := en
  have hn19 := hC.1.2.1.2.2.1 n (zt_I_lv hC.1 hn).2
  have w1 := (zdW_at hk).2.1
  have r1 : ν0 (zdW k + 1) = μ (zdW k + 1) := f0 _ (by unfold zt_out zdW; omega)
  have S0 := S0 sd
  rw [en'] at S0
  obtain ⟨l1, d1⟩ := zt_c (μ := ν0) zd7_at
  by_cases c4 : sd = 4
  · subst c4
    obtain ⟨ν, ⟨N1, E1⟩, C, f, t3, t5, t6, t7, t8, t12⟩ := ze_Tree_addTab (μ := ν0) D zd7_at hC.1 hn hk hmem.1 (μ (zdW k + 1) 0) (μ (zdW k + 1) 1)
    refine ⟨ν, ν0, R', t', n, ze_in [(0, .ref 1), (1, .int (nI k)), (2, .int (nI o)), (3, .int (nI 4))] zq_Desk_tryDrag (Nat.le_of_ble_eq_true rfl) rfl (S0.end ⟨N1, 16, fun F m hF => ?_⟩), hd, hn, en, Or.inl ⟨rfl, C, t3, t5, t6, t7, t8, t12⟩, f0.trans f⟩
    have n4 : nI 4 = 4 := by decide
    simp [zg_0, zg_aaload, zg_aload, zg_aload_n, zg_astore, zg_getfield, zg_goto, zg_iaload, zg_iconst, zg_ifCond, zg_if_icmp, zg_iload, zg_iload_n, zg_invokestatic, zg_invokevirtual, zg_istore, zg_return, zf_X5_tryDrag, zi_ld, zi_lda, zi_cmp, zi_retOk, zi_isI, zi_f3, zi_cr, zi_ci, zi_cn, zi_get, zi_set, n4, zd_g, zm_iald (k := 0) w1 zm_in0, zm_iald (k := 0) w1 zm_in1, zm_cl0, zm_cl1, r1, zq_Tree_addTab, d1, E1 F (by omega)]
  · have hs4 : sd < 4 := by omega
    obtain ⟨N2, E2⟩ := ze_axisOf (h := zm_mk ν0) (D + 3) hs4
    obtain ⟨N3, E3⟩ := ze_isAfter (h := zm_mk ν0) (D + 3) hs4
    obtain ⟨ν, c, f, ⟨N1, E1⟩, C, fr, hcf, t3, t5, t6, t7, t8, t12⟩ := ze_Tree_cutLeaf (μ := ν0) D zd7_at hC.1 hn hk hmem.1 (a := sd / 2) (by omega) (decide (sd % 2 = 0)) (μ (zdW k + 1) 0) (μ (zdW k + 1) 1)
    have c4' : ¬ nI sd = 4 := fun e => c4 ((nI_eq (a := sd) (b := 4) (by omega) (by decide)).mp e)
    refine ⟨ν, ν0, R', t', n, ze_in [(0, .ref 1), (1, .int (nI k)), (2, .int (nI o)), (3, .int (nI sd))] zq_Desk_tryDrag (Nat.le_of_ble_eq_true rfl) rfl (S0.end ?_), hd, hn, en, Or.inr ⟨hs4, c, f, C, hcf, t3, t5, t6, t7, t8, t12⟩, f0.trans fr⟩
    by_cases c2 : sd % 2 = 1
    · have z : zb (sd % 2 = 1) = 1 := if_pos c2
      have z2 : (if decide (sd % 2 = 0) = true then (1 : Int32) else 0) = 0 := if_neg (by simp [c2])
      rw [z] at E3
      rw [z2] at E1
      refine ⟨N1 + N2 + N3, 21, fun F m hF => ?_⟩
      simp [zg_0, zg_aaload, zg_aload, zg_aload_n, zg_astore, zg_getfield, zg_goto, zg_iaload, zg_iconst, zg_ifCond, zg_if_icmp, zg_iload, zg_iload_n, zg_invokestatic, zg_invokevirtual, zg_istore, zg_return, zf_X5_tryDrag, zi_ld, zi_lda, zi_cmp, zi_retOk, zi_isI, zi_f3, zi_cr, zi_ci, zi_cn, zi_get, zi_set, c4', zd_g, zq_Desk_axisOf, E2 F (by omega), zq_Desk_isAfter, E3 F (by omega), zm_iald (k := 0) w1 zm_in0, zm_iald (k := 0) w1 zm_in1, zm_cl0, zm_cl1, r1, zq_Tree_cutLeaf, d1, E1 F (by omega)]
    · have z : zb (sd % 2 = 1) = 0 := if_neg c2
      have z2 : (if decide (sd % 2 = 0) = true then (1 : Int32) else 0) = 1 := if_pos (by simp; omega)
      rw [z] at E3
      rw [z2] at E1
      refine ⟨N1 + N2 + N3, 22, fun F m hF => ?_⟩
      simp [zg_0, zg_aaload, zg_aload, zg_aload_n, zg_astore, zg_getfield, zg_goto, zg_iaload, zg_iconst, zg_ifCond, zg_if_icmp, zg_iload, zg_iload_n, zg_invokestatic, zg_invokevirtual, zg_istore, zg_return, zf_X5_tryDrag, zi_ld, zi_lda, zi_cmp, zi_retOk, zi_isI, zi_f3, zi_cr, zi_ci, zi_cn, zi_get, zi_set, c4', zd_g, zq_Desk_axisOf, E2 F (by omega), zq_Desk_isAfter, E3 F (by omega), zm_iald (k := 0) w1 zm_in0, zm_iald (k := 0) w1 zm_in1, zm_cl0, zm_cl1, r1, zq_Tree_cutLeaf, d1, E1 F (by omega)]
end ZB1
end
