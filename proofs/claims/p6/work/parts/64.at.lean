/-! the desk: at, move, share -/
def zl_dn (n i : Nat) : Int32 := if i < n then nI (n - 1 - i) else -1
set_option maxRecDepth 100000 in
theorem ze_at_1 (D : Nat) {n : Nat} (hn : n ≤ 10) (L : zi_Lc) (h : zi_Hp) : ze_S D 6 (some .int) zc_X5_at 70 L [.int 1, .int (nI n)] h 71 L [.int (zl_dn n 0)] h := by
  refine ⟨0, 1, fun F m hF => ?_⟩
  have e : nI n - 1 = zl_dn n 0 := by
    have : ∀ n, n < 11 → nI n - 1 = zl_dn n 0 := by decide
    exact this n (by omega)
  simp only [zi_go, zf_X5_at, zi_ask, zi_new, zi_step, e]
section ZQ6
variable {μ ν : zm_M} {row stk : List Nat} {Rs : Nat → List Nat} {ts : Nat → zy_F}
set_option maxRecDepth 100000 in
theorem ze_at (D : Nat) (h : zJ μ row stk Rs ts) (w x y : Int32) : ∃ ν v, ze_E (D + 7) A_Desk_at [.ref 1, .int w, .int x, .int y] (zm_mk μ) (some (.int v)) (zm_mk ν) ∧ zJ_eqv μ ν := by
  have n4 : Int32.ofInt (-1000000001) = -1000000001 := by decide
  have n2 : Int32.ofInt (-1000000002) = -1000000002 := by decide
  rcases zd_rng w 3 (by decide) with ⟨s, hs, rfl⟩ | hout
  · obtain ⟨N1, E1⟩ := ze_isScreen_in (h := zm_mk μ) (D + 5) hs
    have A := zdZ_A hs
    by_cases c3 : μ (zdS s) 3 = 0
    · refine ⟨μ, -1000000002, ze_in [(0, .ref 1), (1, .int (nI s)), (2, .int x), (3, .int y)] zq_Desk_at (Nat.le_of_ble_eq_true rfl) rfl ⟨N1, 13, fun F n hF => ?_⟩, zJ_eqv.refl⟩
      simp [zg_0, zg_aaload, zg_aload, zg_aload_n, zg_astore, zg_getfield, zg_goto, zg_iaload, zg_iconst, zg_ifCond, zg_if_icmp, zg_iinc, zg_iload, zg_iload_n, zg_invokestatic, zg_invokevirtual, zg_ireturn, zg_istore, zg_isub, zg_ldc, zf_X5_at, zi_ld, zi_lda, zi_cmp, zi_retOk, zi_isI, zi_f3, zi_cr, zi_ci, zi_cn, zi_get, zi_set, zq_Desk_isScreen, E1 F (by omega), zd_g, zd_s hs, zdS_g hs, c3, n2]
    · by_cases q1 : x < 0
      · refine ⟨μ, -1000000001, ze_in [(0, .ref 1), (1, .int (nI s)), (2, .int x), (3, .int y)] zq_Desk_at (Nat.le_of_ble_eq_true rfl) rfl ⟨N1, 15, fun F n hF => ?_⟩, zJ_eqv.refl⟩
        simp [zg_0, zg_aaload, zg_aload, zg_aload_n, zg_astore, zg_getfield, zg_goto, zg_iaload, zg_iconst, zg_ifCond, zg_if_icmp, zg_iinc, zg_iload, zg_iload_n, zg_invokestatic, zg_invokevirtual, zg_ireturn, zg_istore, zg_isub, zg_ldc, zf_X5_at, zi_ld, zi_lda, zi_cmp, zi_retOk, zi_isI, zi_f3, zi_cr, zi_ci, zi_cn, zi_get, zi_set, zq_Desk_isScreen, E1 F (by omega), zd_g, zd_s hs, zdS_g hs, c3, q1, n4]
      · by_cases q2 : μ (zdZ s) 0 ≤ x
        · refine ⟨μ, -1000000001, ze_in [(0, .ref 1), (1, .int (nI s)), (2, .int x), (3, .int y)] zq_Desk_at (Nat.le_of_ble_eq_true rfl) rfl ⟨N1, 21, fun F n hF => ?_⟩, zJ_eqv.refl⟩
          simp [zg_0, zg_aaload, zg_aload, zg_aload_n, zg_astore, zg_getfield, zg_goto, zg_iaload, zg_iconst, zg_ifCond, zg_if_icmp, zg_iinc, zg_iload, zg_iload_n, zg_invokestatic, zg_invokevirtual, zg_ireturn, zg_istore, zg_isub, zg_ldc, zf_X5_at, zi_ld, zi_lda, zi_cmp, zi_retOk, zi_isI, zi_f3, zi_cr, zi_ci, zi_cn, zi_get, zi_set, zq_Desk_isScreen, E1 F (by omega), zd_g, zd_s hs, zdS_g hs, c3, q1, zm_iald (k := 0) A zm_in0, zm_cl0, q2, n4]
        · by_cases q3 : y < 0
          · refine ⟨μ, -1000000001, ze_in [(0, .ref 1), (1, .int (nI s)), (2, .int x), (3, .int y)] zq_Desk_at (Nat.le_of_ble_eq_true rfl) rfl ⟨N1, 23, fun F n hF => ?_⟩, zJ_eqv.refl⟩
            simp [zg_0, zg_aaload, zg_aload, zg_aload_n, zg_astore, zg_getfield, zg_goto, zg_iaload, zg_iconst, zg_ifCond, zg_if_icmp, zg_iinc, zg_iload, zg_iload_n, zg_invokestatic, zg_invokevirtual, zg_ireturn, zg_istore, zg_isub, zg_ldc, zf_X5_at, zi_ld, zi_lda, zi_cmp, zi_retOk, zi_isI, zi_f3, zi_cr, zi_ci, zi_cn, zi_get, zi_set, zq_Desk_isScreen, E1 F (by omega), zd_g, zd_s hs, zdS_g hs, c3, q1, zm_iald (k := 0) A zm_in0, zm_cl0, q2, q3, n4]
          · by_cases q4 : y < μ (zdZ s) 1
            · obtain ⟨hr1, hr2, hs1, hs2⟩ := zJ_rowL h
              have hl := hs1.1
              obtain ⟨N2, E2⟩ := ze_Row_sizeL (μ := μ) (D + 5) zd5_at hs1
              have cr := zr_c (μ := μ) zd5_at
              have S0 : ze_S (D + 6) 6 (some .int) zc_X5_at 0 [(0, .ref 1), (1, .int (nI s)), (2, .int x), (3, .int y)] [] (zm_mk μ) 70 [(4, .ref (zdS s + 1)), (0, .ref 1), (1, .int (nI s)), (2, .int x), (3, .int y)] [.int 1, .int (nI stk.length)] (zm_mk μ) := by
                refine ⟨N1 + N2, 31, fun F n hF => ?_⟩
                simp [zg_0, zg_aaload, zg_aload, zg_aload_n, zg_astore, zg_getfield, zg_goto, zg_iaload, zg_iconst, zg_ifCond, zg_if_icmp, zg_iinc, zg_iload, zg_iload_n, zg_invokestatic, zg_invokevirtual, zg_ireturn, zg_istore, zg_isub, zg_ldc, zf_X5_at, zi_ld, zi_lda, zi_cmp, zi_retOk, zi_isI, zi_f3, zi_cr, zi_ci, zi_cn, zi_get, zi_set, zq_Desk_isScreen, E1 F (by omega), zd_g, zd_s hs, zdS_g hs, c3, q1, zm_iald (k := 0) A zm_in0, zm_iald (k := 0) A zm_in1, zm_cl0, zm_cl1, q2, q3, q4, zq_Row_size, cr, E2 F (by omega)]
              have key : ∃ r h', ze_G (D + 6) 6 (some .int) zc_X5_at 73 [(5, .int (zl_dn stk.length 0)), (4, .ref (zdS s + 1)), (0, .ref 1), (1, .int (nI s)), (2, .int x), (3, .int y)] [] (zm_mk μ) r h' ∧ ((∃ v, r = some (.int v)) ∧ ∃ ν, zm_mk ν = h' ∧ zJ_eqv μ ν) := by
                refine ze_loop (Q := fun i L hp => i ≤ stk.length ∧ zi_nl L = true ∧ zi_get L 0 = some (.ref 1) ∧ zi_get L 1 = some (.int (nI s)) ∧ zi_get L 2 = some (.int x) ∧ zi_get L 3 = some (.int y) ∧ zi_get L 4 = some (.ref (zdS s + 1)) ∧ zi_get L 5 = some (.int (zl_dn stk.length i)) ∧ zm_mk μ = hp ∧ (True)) (R := fun r h' => (∃ v, r = some (.int v)) ∧ ∃ ν, zm_mk ν = h' ∧ zJ_eqv μ ν) stk.length ?_ ?_ stk.length 0 _ _ (by omega) ⟨by omega, rfl, rfl, rfl, rfl, rfl, rfl, rfl, rfl, trivial⟩
                · rintro i L _ hi ⟨-, nl, g0, g1, g2, g3, g4, g5, rfl, hq⟩
                  have hkm : stk.getD (stk.length - 1 - i) 0 ∈ stk := zl_mem (by omega)
                  obtain ⟨N3, E3⟩ := ze_Row_getL (μ := μ) (i := stk.length - 1 - i) (D + 5) zd5_at hs1 (by omega)
                  have hd0 : zl_dn stk.length i = nI (stk.length - 1 - i) := if_pos hi
                  have hd1 : nI (stk.length - 1 - i) + -1 = zl_dn stk.length (i + 1) := by
                    have : ∀ n, n < 11 → ∀ i, i < n → nI (n - 1 - i) + -1 = zl_dn n (i + 1) := by decide
                    exact this _ (by omega) i hi
                  rw [hd0] at g5
                  generalize stk.getD (stk.length - 1 - i) 0 = k at hkm E3
                  have hk := hs2 k hkm
                  obtain ⟨v, hv, N4, E4⟩ := ze_coversPoint (μ := μ) (D + 1) hk A x y (nI s)
                  have c1 : ¬ nI (stk.length - 1 - i) < 0 := nI_pos (by omega)
                  have cw := zw_c (μ := μ) (zdW_at hk)
                  have om : Int32.ofInt (-1) = -1 := by decide
                  rcases hv with rfl | rfl
                  · left
                    refine ⟨zi_set L 5 (.int (zl_dn stk.length (i + 1))), zm_mk μ, ⟨N3 + N4, 18, fun F m hF => ?_⟩, by omega, ?_, ?_, ?_, ?_, ?_, ?_, zi_get_set_eq, rfl, trivial⟩
                    · simp (maxDischargeDepth := 9) [zg_0, zg_aaload, zg_aload, zg_aload_n, zg_astore, zg_getfield, zg_goto, zg_iaload, zg_iconst, zg_ifCond, zg_if_icmp, zg_iinc, zg_iload, zg_iload_n, zg_invokestatic, zg_invokevirtual, zg_ireturn, zg_istore, zg_isub, zg_ldc, zf_X5_at, zi_ld, zi_lda, zi_cmp, zi_retOk, zi_isI, zi_f3, zi_cr, zi_ci, zi_cn, zi_get_ne, zi_nl_i, zi_nl_r, zi_get_set_eq, nl, g0, g1, g2, g3, g4, g5, c1, zd_g, zq_Row_get, cr, E3 F (by omega), zd_w hk, zdS_g hs, zq_Win_coversPoint, cw, E4 F (by omega), om, hd1, nI_1]
                    · simp (maxDischargeDepth := 9) [zi_get_ne, zi_nl_i, zi_nl_r, zi_get_set_eq, nl]
                    · simp (maxDischargeDepth := 9) [zi_get_ne, zi_nl_i, zi_nl_r, zi_get_set_eq, nl, g0]
                    · simp (maxDischargeDepth := 9) [zi_get_ne, zi_nl_i, zi_nl_r, zi_get_set_eq, nl, g1]
                    · simp (maxDischargeDepth := 9) [zi_get_ne, zi_nl_i, zi_nl_r, zi_get_set_eq, nl, g2]
                    · simp (maxDischargeDepth := 9) [zi_get_ne, zi_nl_i, zi_nl_r, zi_get_set_eq, nl, g3]
                    · simp (maxDischargeDepth := 9) [zi_get_ne, zi_nl_i, zi_nl_r, zi_get_set_eq, nl, g4]
                  · right
                    refine ⟨some (.int (nI k)), zm_mk μ, ⟨N3 + N4, 21, fun F m hF => ?_⟩, ⟨nI k, rfl⟩, μ, rfl, zJ_eqv.refl⟩
                    simp (maxDischargeDepth := 9) [zg_0, zg_aaload, zg_aload, zg_aload_n, zg_astore, zg_getfield, zg_goto, zg_iaload, zg_iconst, zg_ifCond, zg_if_icmp, zg_iinc, zg_iload, zg_iload_n, zg_invokestatic, zg_invokevirtual, zg_ireturn, zg_istore, zg_isub, zg_ldc, zf_X5_at, zi_ld, zi_lda, zi_cmp, zi_retOk, zi_isI, zi_f3, zi_cr, zi_ci, zi_cn, zi_get_ne, zi_nl_i, zi_nl_r, zi_get_set_eq, nl, g0, g1, g2, g3, g4, g5, c1, zd_g, zq_Row_get, cr, E3 F (by omega), zd_w hk, zdS_g hs, zq_Win_coversPoint, cw, E4 F (by omega), nI_1]
                · rintro L _ ⟨-, nl, g0, g1, g2, g3, g4, g5, rfl, hq⟩
                  have hd0 : zl_dn stk.length stk.length = -1 := if_neg (by omega)
                  rw [hd0] at g5
                  obtain ⟨ν, ⟨N4, E4⟩, f4, -⟩ := ze_layTrees (μ := μ) D (fun s hs => (h.2.2.2.1 s hs).1)
                  have hev := zd_frA_eqv f4
                  have hJ := h.eqv hev
                  obtain ⟨v, N5, E5⟩ := ze_shownAt (μ := ν) (D + 1) (zdT_at hs) (zt_I_hm (hJ.2.2.2.1 s hs).1.1) x y
                  obtain ⟨lt, ct⟩ := zt_c (μ := ν) (zdT_at hs)
                  have c1 : (-1 : Int32) < 0 := by decide
                  refine ⟨some (.int v), zm_mk ν, ⟨N4 + N5, 10, fun F m hF => ?_⟩, ⟨v, rfl⟩, ν, rfl, hev⟩
                  simp [zg_0, zg_aaload, zg_aload, zg_aload_n, zg_astore, zg_getfield, zg_goto, zg_iaload, zg_iconst, zg_ifCond, zg_if_icmp, zg_iinc, zg_iload, zg_iload_n, zg_invokestatic, zg_invokevirtual, zg_ireturn, zg_istore, zg_isub, zg_ldc, zf_X5_at, zi_ld, zi_lda, zi_cmp, zi_retOk, zi_isI, zi_f3, zi_cr, zi_ci, zi_cn, g0, g2, g3, g4, g5, c1, zdS_g hs, zq_Desk_layTrees, zd_c, E4 F (by omega), zq_Tree_shownAt, ct, E5 F (by omega)]
              obtain ⟨r, h', G, ⟨v, rfl⟩, ν, rfl, hev⟩ := key
              refine ⟨ν, v, ze_in [(0, .ref 1), (1, .int (nI s)), (2, .int x), (3, .int y)] zq_Desk_at (Nat.le_of_ble_eq_true rfl) rfl ((S0.trans (ze_at_1 (D + 6) hl _ _)).end (ze_S.end (p2 := 73) (s2 := []) (h2 := zm_mk μ) ⟨0, 1, fun F m hF => ?_⟩ G)), hev⟩
              simp [zg_0, zg_aaload, zg_aload, zg_aload_n, zg_astore, zg_getfield, zg_goto, zg_iaload, zg_iconst, zg_ifCond, zg_if_icmp, zg_iinc, zg_iload, zg_iload_n, zg_invokestatic, zg_invokevirtual, zg_ireturn, zg_istore, zg_isub, zg_ldc, zf_X5_at, zi_ld, zi_lda, zi_cmp, zi_retOk, zi_isI, zi_f3, zi_cr, zi_ci, zi_cn, zi_get, zi_set]
            · refine ⟨μ, -1000000001, ze_in [(0, .ref 1), (1, .int (nI s)), (2, .int x), (3, .int y)] zq_Desk_at (Nat.le_of_ble_eq_true rfl) rfl ⟨N1, 29, fun F n hF => ?_⟩, zJ_eqv.refl⟩
              simp [zg_0, zg_aaload, zg_aload, zg_aload_n, zg_astore, zg_getfield, zg_goto, zg_iaload, zg_iconst, zg_ifCond, zg_if_icmp, zg_iinc, zg_iload, zg_iload_n, zg_invokestatic, zg_invokevirtual, zg_ireturn, zg_istore, zg_isub, zg_ldc, zf_X5_at, zi_ld, zi_lda, zi_cmp, zi_retOk, zi_isI, zi_f3, zi_cr, zi_ci, zi_cn, zi_get, zi_set, zq_Desk_isScreen, E1 F (by omega), zd_g, zd_s hs, zdS_g hs, c3, q1, zm_iald (k := 0) A zm_in0, zm_iald (k := 0) A zm_in1, zm_cl0, zm_cl1, q2, q3, q4, n4]
  · obtain ⟨N1, E1⟩ := ze_isScreen_out (h := zm_mk μ) (D + 5) hout
    refine ⟨μ, -1000000001, ze_in [(0, .ref 1), (1, .int w), (2, .int x), (3, .int y)] zq_Desk_at (Nat.le_of_ble_eq_true rfl) rfl ⟨N1, 5, fun F n hF => ?_⟩, zJ_eqv.refl⟩
    simp [zg_0, zg_aaload, zg_aload, zg_aload_n, zg_astore, zg_getfield, zg_goto, zg_iaload, zg_iconst, zg_ifCond, zg_if_icmp, zg_iinc, zg_iload, zg_iload_n, zg_invokestatic, zg_invokevirtual, zg_ireturn, zg_istore, zg_isub, zg_ldc, zf_X5_at, zi_ld, zi_lda, zi_cmp, zi_retOk, zi_isI, zi_f3, zi_cr, zi_ci, zi_cn, zi_get, zi_set, zq_Desk_isScreen, E1 F (by omega), n4]
/-- what is forgotten takes nothing else away -/
theorem zJ.fgt {p : Nat → Bool} (h : zJ μ row stk Rs ts) (f : zd_fgt μ ν p) : zJ ν row stk Rs ts := by
  obtain ⟨h1, h2, h3, h4, h5, h6⟩ := h
  obtain ⟨f1, f2⟩ := f
  have rw' : ∀ c, (∀ s, s < 3 → c ≠ zdK s) → ν c = μ c := fun c hc => funext fun b => f2 c b (fun s hs e => absurd e (hc s hs))
  have eW : ∀ k, k < 10 → ν (zdW k) = μ (zdW k) := fun k hk => rw' _ (fun s hs => by unfold zdW zdK; omega)
  have eL : ∀ k, k < 10 → ν (zdW k + 1) = μ (zdW k + 1) := fun k hk => rw' _ (fun s hs => by unfold zdW zdK; omega)
  have eT : ∀ s, s < 3 → ∀ j, j < 19 → ν (zdT s + j) = μ (zdT s + j) := fun s hs j hj => rw' _ (fun s hs => by unfold zdT zdK; omega)
  have eV : ∀ s, s < 3 → ∀ j, j < 19 → ν (zdV s + j) = μ (zdV s + j) := fun s hs j hj => rw' _ (fun s hs => by unfold zdV zdK; omega)
  have eS : ∀ s, s < 3 → ν (zdS s) = μ (zdS s) ∧ ν (zdZ s) = μ (zdZ s) ∧ ν (zdQ s) = μ (zdQ s) := fun s hs => ⟨rw' _ (fun s hs => by unfold zdS zdK; omega), rw' _ (fun s hs => by unfold zdZ zdK; omega), rw' _ (fun s hs => by unfold zdQ zdK; omega)⟩
  have th : ∀ k, k < 10 → zd_th ν k = zd_th μ k := fun k hk => by unfold zd_th; rw [eW k hk]
  have til : ∀ k, k < 10 → zd_til ν k = zd_til μ k := fun k hk => by unfold zd_til; rw [eW k hk]
  have e0 : ∀ c, c < 7 → ν c = μ c := fun c hc => rw' c (fun s hs => by unfold zdK; omega)
  refine ⟨⟨zr_L_congr (e0 _ (by decide)) (e0 _ (by decide)) h1.1, h1.2.1, fun k => ?_⟩, ⟨zr_L_congr (e0 _ (by decide)) (e0 _ (by decide)) h2.1, h2.2⟩, fun k hk ht => ?_, fun s hs => ?_, fun s hs => ?_, fun s hs ht => ?_⟩
  · rw [h1.2.2 k]
    constructor
    · rintro ⟨a, b⟩
      exact ⟨a, by rw [th k a]; exact b⟩
    · rintro ⟨a, b⟩
      exact ⟨a, by rw [← th k a]; exact b⟩
  · rw [th k hk] at ht
    obtain ⟨a1, a2, a3, a4, a5⟩ := h3 k hk ht
    rw [eW k hk, eL k hk]
    refine ⟨a1, a2, fun q => ?_, fun q => ?_, a5⟩
    · obtain ⟨s, b1, b2, b3⟩ := a3 q
      exact ⟨s, b1, b2, by rw [(eS s b1).1]; exact b3⟩
    · obtain ⟨o, b1, b2, b3, b4⟩ := a4 q
      exact ⟨o, b1, b2, b3, by rw [th o b1]; exact b4⟩
  · obtain ⟨a1, a2, a3⟩ := h4 s hs
    refine ⟨zt_C_19 (eT s hs) a1, fun k => ?_, fun k hk => ?_⟩
    · rw [a2 k]
      constructor
      · rintro ⟨b1, b2⟩
        exact ⟨b1, by rw [til k b1, eW k b1]; exact b2⟩
      · rintro ⟨b1, b2⟩
        exact ⟨b1, by rw [til k b1, eW k b1] at b2; exact b2⟩
    · have hk10 := ((a2 k).mp hk).1
      rw [eT s hs 5 (by omega), eT s hs 6 (by omega), eL k hk10]
      exact a3 k hk
  · obtain ⟨a1, a2⟩ := h5 s hs
    refine ⟨zt_C_19 (eV s hs) a1, fun q => ?_⟩
    have q' : ¬ μ (zdK s) 3 = 0 := fun e => q (by rw [f1 s hs, e]; split <;> rfl)
    obtain ⟨b1, b2, b3⟩ := a2 q'
    refine ⟨by rw [(eS s hs).1]; exact b1, fun k hk => ?_, fun k hk hq => ?_⟩
    · have hk10 := a1.1.1.2.2 k hk
      rw [eV s hs 5 (by omega), eV s hs 6 (by omega), eL k hk10, til k hk10]
      exact b2 k hk
    · rw [(eS s hs).2.2] at hq
      rw [th k hk, eW k hk]
      exact b3 k hk hq
  · rw [(eS s hs).1] at ht
    obtain ⟨a1, a2⟩ := h6 s hs ht
    rw [(eS s hs).2.1]
    refine ⟨a1, ?_⟩
    unfold zt_fit at *
    rw [zt_lsz_19 (eT s hs) (by decide), zt_lsz_19 (eT s hs) (by decide), (eS s hs).2.1]
    exact a2
end ZQ6
