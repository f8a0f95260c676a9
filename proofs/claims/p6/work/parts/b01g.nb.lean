/-! neighbour, toward: the same answer -/
def zx_sd (x : Int32) : Int32 := if 0 ≤ x ∧ x < 4 then -1000000002 else -1000000001
theorem zx_sd_in {sd : Nat} (h : sd < 4) : zx_sd (nI sd) = -1000000002 := by
  have : ∀ sd, sd < 4 → zx_sd (nI sd) = -1000000002 := by decide
  exact this sd h
theorem zx_sd_out {x : Int32} (h : x < 0 ∨ (4 : Int32) ≤ x) : zx_sd x = -1000000001 := by
  unfold zx_sd
  refine if_neg (fun z => ?_)
  rcases h with h | h
  · exact absurd z.1 (Int32.not_le.mpr h)
  · exact absurd z.2 (Int32.not_lt.mpr h)
section ZXN
variable {μ ν : zm_M} {row stk : List Nat} {Rs : Nat → List Nat} {ts : Nat → zy_F}
set_option maxRecDepth 100000 in
theorem ze_neighbour_v (D : Nat) (h : zJ μ row stk Rs ts) (w x : Int32) : ∃ ν v, ze_E (D + 7) A_Desk_neighbour [.ref 1, .int w, .int x] (zm_mk μ) (some (.int v)) (zm_mk ν) ∧ zJ_eqv μ ν ∧ ((v = -1000000001 ∧ ¬ ∃ k sd, k < 10 ∧ sd < 4 ∧ w = nI k ∧ x = nI sd ∧ zd_th μ k = true) ∨ (∃ k sd, k < 10 ∧ sd < 4 ∧ w = nI k ∧ x = nI sd ∧ zd_th μ k = true ∧ ((v = -1000000002 ∧ ∀ s, s < 3 → ¬ zd_shn μ s k) ∨ ∃ s, s < 3 ∧ zd_shn μ s k ∧ v = zd_ngb ν s k sd ∧ ∀ q, q < 3 → zd_laid ν q (Rs q) (ts q)))) := by
  have n4 : Int32.ofInt (-1000000001) = -1000000001 := by decide
  have n2 : Int32.ofInt (-1000000002) = -1000000002 := by decide
  have hno : (∀ k, k < 10 → w = nI k → ¬ zd_th μ k = true) → ze_E (D + 6) A_Desk_isWindow [.ref 1, .int w] (zm_mk μ) (some (.int 0)) (zm_mk μ) → ∃ ν v, ze_E (D + 7) A_Desk_neighbour [.ref 1, .int w, .int x] (zm_mk μ) (some (.int v)) (zm_mk ν) ∧ zJ_eqv μ ν ∧ ((v = -1000000001 ∧ ¬ ∃ k sd, k < 10 ∧ sd < 4 ∧ w = nI k ∧ x = nI sd ∧ zd_th μ k = true) ∨ (∃ k sd, k < 10 ∧ sd < 4 ∧ w = nI k ∧ x = nI sd ∧ zd_th μ k = true ∧ ((v = -1000000002 ∧ ∀ s, s < 3 → ¬ zd_shn μ s k) ∨ ∃ s, s < 3 ∧ zd_shn μ s k ∧ v = zd_ngb ν s k sd ∧ ∀ q, q < 3 → zd_laid ν q (Rs q) (ts q)))) := by
    rintro hn ⟨N1, E1⟩
    refine ⟨μ, -1000000001, ze_in [(0, .ref 1), (1, .int w), (2, .int x)] zq_Desk_neighbour (Nat.le_of_ble_eq_true rfl) rfl ⟨N1, 6, fun F n hF => ?_⟩, zJ_eqv.refl, Or.inl ⟨rfl, fun ⟨k, sd, hk, _, e, _, ht⟩ => hn k hk e ht⟩⟩
    simp [zg_0, zg_aload_n, zg_ifCond, zg_iload_n, zg_invokestatic, zg_invokevirtual, zg_ireturn, zg_ldc, zf_X5_neighbour, zi_ld, zi_lda, zi_cmp, zi_retOk, zi_isI, zi_f3, zi_cr, zi_ci, zi_cn, zi_get, zi_set, zq_Desk_isWindow, zd_c, E1 F (by omega), n4]
  rcases zd_rng w 10 (by decide) with ⟨k, hk, rfl⟩ | hout
  · have E1 := ze_thW (μ := μ) (D + 5) hk
    by_cases c1 : zd_th μ k = true
    · rw [if_pos c1] at E1
      obtain ⟨N1, E1⟩ := E1
      rcases zd_rng x 4 (by decide) with ⟨sd, hsd, rfl⟩ | ho
      · obtain ⟨N2, E2⟩ := ze_isSide_in (h := zm_mk μ) (D + 5) hsd
        rcases ze_isShownTileJ (D + 3) h (nI k) with ⟨⟨N3, E3⟩, k', s, hk', hs, ek, hsh⟩ | ⟨⟨N3, E3⟩, hns⟩
        · have e : k = k' := (nI_eq (by omega) (by omega)).mp ek
          subst e
          obtain ⟨ν, ⟨N4, E4⟩, f4, hlaid⟩ := ze_layTrees (μ := μ) D (fun s hs => (h.2.2.2.1 s hs).1)
          have hJ := h.eqv (zd_frA_eqv f4)
          obtain ⟨N5, E5⟩ := ze_treeOf (μ := ν) (D + 5) hk hs (by rw [zd_frA_eqv f4 _ (zJn_W hk).1]; exact hsh.2.1)
          obtain ⟨N6, E6⟩ := ze_Tree_neighbourTo (μ := ν) (D + 1) (zdT_at hs) (zt_I_hm (hJ.2.2.2.1 s hs).1.1) hk hsd
          obtain ⟨lt, ct⟩ := zt_c (μ := ν) (zdT_at hs)
          generalize hv : zl_nb (zt_nf ν (zdT s) k sd) (List.range 10) (-1000000005) 0 = v at E6
          refine ⟨ν, v, ze_in [(0, .ref 1), (1, .int (nI k)), (2, .int (nI sd))] zq_Desk_neighbour (Nat.le_of_ble_eq_true rfl) rfl ⟨N1 + N2 + N3 + N4 + N5 + N6, 20, fun F n hF => ?_⟩, zd_frA_eqv f4, Or.inr ⟨k, sd, hk, hsd, rfl, rfl, c1, Or.inr ⟨s, hs, hsh, hv.symm, hlaid⟩⟩⟩
          simp [zg_0, zg_aload_n, zg_ifCond, zg_iload_n, zg_invokestatic, zg_invokevirtual, zg_ireturn, zg_ldc, zf_X5_neighbour, zi_ld, zi_lda, zi_cmp, zi_retOk, zi_isI, zi_f3, zi_cr, zi_ci, zi_cn, zi_get, zi_set, zq_Desk_isWindow, zd_c, E1 F (by omega), zq_Desk_isSide, E2 F (by omega), zq_Desk_isShownTile, E3 F (by omega), zq_Desk_layTrees, E4 F (by omega), zq_Desk_treeOf, E5 F (by omega), zq_Tree_neighbourTo, ct, E6 F (by omega)]
        · refine ⟨μ, -1000000002, ze_in [(0, .ref 1), (1, .int (nI k)), (2, .int (nI sd))] zq_Desk_neighbour (Nat.le_of_ble_eq_true rfl) rfl ⟨N1 + N2 + N3, 13, fun F n hF => ?_⟩, zJ_eqv.refl, Or.inr ⟨k, sd, hk, hsd, rfl, rfl, c1, Or.inl ⟨rfl, fun s hs => hns k s hk hs rfl⟩⟩⟩
          simp [zg_0, zg_aload_n, zg_ifCond, zg_iload_n, zg_invokestatic, zg_invokevirtual, zg_ireturn, zg_ldc, zf_X5_neighbour, zi_ld, zi_lda, zi_cmp, zi_retOk, zi_isI, zi_f3, zi_cr, zi_ci, zi_cn, zi_get, zi_set, zq_Desk_isWindow, zd_c, E1 F (by omega), zq_Desk_isSide, E2 F (by omega), zq_Desk_isShownTile, E3 F (by omega), n2]
      · obtain ⟨N2, E2⟩ := ze_isSide_out (h := zm_mk μ) (D + 5) ho
        refine ⟨μ, -1000000001, ze_in [(0, .ref 1), (1, .int (nI k)), (2, .int x)] zq_Desk_neighbour (Nat.le_of_ble_eq_true rfl) rfl ⟨N1 + N2, 9, fun F n hF => ?_⟩, zJ_eqv.refl, Or.inl ⟨rfl, fun ⟨_, sd, _, hsd, _, e, _⟩ => by
          rw [e] at ho
          exact ho.elim (nI_pos (by omega)) (nI_ge (b := 4) hsd (by decide))⟩⟩
        simp [zg_0, zg_aload_n, zg_ifCond, zg_iload_n, zg_invokestatic, zg_invokevirtual, zg_ireturn, zg_ldc, zf_X5_neighbour, zi_ld, zi_lda, zi_cmp, zi_retOk, zi_isI, zi_f3, zi_cr, zi_ci, zi_cn, zi_get, zi_set, zq_Desk_isWindow, zd_c, E1 F (by omega), zq_Desk_isSide, E2 F (by omega), n4]
    · rw [if_neg c1] at E1
      refine hno (fun j hj e => ?_) E1
      rw [← (nI_eq (by omega) (by omega)).mp e]
      exact c1
  · refine hno (fun j hj e => ?_) (ze_isWindow_out (D + 5) hout)
    rw [e] at hout
    exact absurd hout (fun q => q.elim (nI_pos (by omega)) (nI_ge (b := 10) hj (by decide)))
set_option maxRecDepth 100000 in
theorem ze_toward_v (D : Nat) (h : zJ μ row stk Rs ts) (x : Int32) : ∃ ν v row' stk', ze_E (D + 16) A_Desk_toward [.ref 1, .int x] (zm_mk μ) (some (.int v)) (zm_mk ν) ∧ zJ ν row' stk' Rs ts ∧
    (((∀ sd, sd < 4 → x = nI sd → ∀ s, s < 3 → row ≠ [] → ¬ zd_shn μ s (row.getD 0 0)) ∧ ν = μ ∧ row' = row ∧ v = zx_sd x) ∨
     (∃ sd s ξ, sd < 4 ∧ s < 3 ∧ x = nI sd ∧ row ≠ [] ∧ zd_shn μ s (row.getD 0 0) ∧ zJ_eqv μ ξ ∧ (∀ q, q < 3 → zd_laid ξ q (Rs q) (ts q)) ∧
       ((zd_ngb ξ s (row.getD 0 0) sd = -1000000005 ∧ ν = ξ ∧ row' = row ∧ v = -1000000005) ∨ ∃ i, i < 10 ∧ zd_th μ i = true ∧ zd_ngb ξ s (row.getD 0 0) sd = nI i ∧ row' = i :: row.erase i ∧ zd_foc ξ ν i ∧ v = nI i))) := by
  have n4 : Int32.ofInt (-1000000001) = -1000000001 := by decide
  have n2 : Int32.ofInt (-1000000002) = -1000000002 := by decide
  have hl10 := h.1.1.1
  rcases zd_rng x 4 (by decide) with ⟨sd, hsd, rfl⟩ | ho
  · obtain ⟨N1, E1⟩ := ze_isSide_in (h := zm_mk μ) (D + 14) hsd
    have cr := zr_c (μ := μ) zd3_at
    have E2 : ze_E (D + 15) A_Row_get [.ref (3 + 1), .int 0] (zm_mk μ) (some (.int (if row = [] then -1 else nI (row.getD 0 0)))) (zm_mk μ) := by
      by_cases c : row = []
      · rw [if_pos c]
        have := ze_Row_get (μ := μ) (r := 3) (D + 14) 0 zd3_at (by rw [h.1.1.2.1]; exact nI_le (b := 10) h.1.1.1 (by decide))
        rw [if_neg (fun q => by
          have := q.2
          rw [h.1.1.2.1, c] at this
          exact absurd this (by decide))] at this
        exact this
      · rw [if_neg c]
        have := ze_Row_getL (μ := μ) (i := 0) (D + 14) zd3_at h.1.1 (List.length_pos_iff.mpr c)
        rw [nI_0] at this
        exact this
    obtain ⟨N2, E2⟩ := E2
    generalize hw : (if row = [] then (-1 : Int32) else nI (row.getD 0 0)) = w at E2
    rcases ze_isShownTileJ (D + 12) h w with ⟨⟨N3, E3⟩, k, s, hk, hs, ek, hsh⟩ | ⟨⟨N3, E3⟩, hno⟩
    · have hne : row ≠ [] := fun c => by
        rw [if_pos c, ek] at hw
        have : nI k < 0 := by rw [← hw]; decide
        exact nI_pos (by omega) this
      rw [if_neg hne, ek] at hw
      have hm0 : row.getD 0 0 ∈ row := zl_mem (List.length_pos_iff.mpr hne)
      have hb0 := ((h.1.2.2 _).mp hm0).1
      have ek0 : row.getD 0 0 = k := (nI_eq (by omega) (by omega)).mp hw
      subst ek
      obtain ⟨ξ, ⟨N4, E4⟩, f4, hlaid⟩ := ze_layTrees (μ := μ) (D + 9) (fun s hs => (h.2.2.2.1 s hs).1)
      have hev := zd_frA_eqv f4
      have hJ := h.eqv hev
      obtain ⟨N5, E5⟩ := ze_treeOf (μ := ξ) (D + 14) hk hs (by rw [hev _ (zJn_W hk).1]; exact hsh.2.1)
      obtain ⟨N6, E6⟩ := ze_Tree_neighbourTo (μ := ξ) (D + 10) (zdT_at hs) (zt_I_hm (hJ.2.2.2.1 s hs).1.1) hk hsd
      obtain ⟨lt, ct⟩ := zt_c (μ := ξ) (zdT_at hs)
      have hor := zd_ngb_or hJ (s := s) (k := k) (sd := sd) hs
      have E6' : ∀ F, N6 ≤ F → zi_run zi_ms F (D + 10 + 5) A_Tree_neighbourTo [.ref (zdT s + 1), .int (nI k), .int (nI sd)] (zm_mk ξ) [] = some [([], some (.int (zd_ngb ξ s k sd)), zm_mk ξ)] := E6
      generalize hv : zd_ngb ξ s k sd = v at E6' hor
      have S0 : ze_S (D + 15) 4 (some .int) zc_X5_toward 0 [(0, .ref 1), (1, .int (nI sd))] [] (zm_mk μ) 45 [(3, .int v), (2, .int (nI k)), (0, .ref 1), (1, .int (nI sd))] [] (zm_mk ξ) := by
        refine ⟨N1 + N2 + N3 + N4 + N5 + N6, 21, fun F n hF => ?_⟩
        simp [zg_0, zg_aload_n, zg_getfield, zg_iconst, zg_ifCond, zg_iload_n, zg_invokestatic, zg_invokevirtual, zg_ireturn, zg_istore_n, zg_ldc, zf_X5_toward, zi_ld, zi_lda, zi_cmp, zi_retOk, zi_isI, zi_f3, zi_cr, zi_ci, zi_cn, zi_get, zi_set, zq_Desk_isSide, E1 F (by omega), zd_g, zq_Row_get, cr, E2 F (by omega), zq_Desk_isShownTile, zd_c, E3 F (by omega), zq_Desk_layTrees, E4 F (by omega), zq_Desk_treeOf, E5 F (by omega), zq_Tree_neighbourTo, ct, E6' F (by omega)]
      rcases hor with rfl | ⟨i, hi, rfl, hit, his⟩
      · obtain ⟨N7, E7⟩ := ze_isWindow_out (μ := ξ) (D + 14) (x := -1000000005) (Or.inl (by decide))
        refine ⟨ξ, -1000000005, row, stk, ze_in [(0, .ref 1), (1, .int (nI sd))] zq_Desk_toward (Nat.le_of_ble_eq_true rfl) rfl (S0.end ⟨N7, 6, fun F n hF => ?_⟩), hJ, Or.inr ⟨sd, s, ξ, hsd, hs, rfl, hne, by rw [ek0]; exact hsh, hev, hlaid, Or.inl ⟨by rw [ek0]; exact hv, rfl, rfl, rfl⟩⟩⟩
        simp [zg_0, zg_aload_n, zg_getfield, zg_iconst, zg_ifCond, zg_iload_n, zg_invokestatic, zg_invokevirtual, zg_ireturn, zg_istore_n, zg_ldc, zf_X5_toward, zi_ld, zi_lda, zi_cmp, zi_retOk, zi_isI, zi_f3, zi_cr, zi_ci, zi_cn, zi_get, zi_set, zq_Desk_isWindow, zd_c, E7 F (by omega)]
      · have hith : zd_th ξ i = true := decide_eq_true (of_decide_eq_true hit).1
        obtain ⟨N7, E7⟩ := ze_thW (μ := ξ) (D + 14) hi
        rw [if_pos hith] at E7
        obtain ⟨ν, stk', ⟨N8, E8⟩, hJ', hf⟩ := ze_giveFocusJ (μ := ξ) D hJ hi hith
        have hith' : zd_th μ i = true := by
          unfold zd_th at *
          rw [hev _ (zJn_W hi).1] at hith
          exact hith
        refine ⟨ν, nI i, i :: row.erase i, stk', ze_in [(0, .ref 1), (1, .int (nI sd))] zq_Desk_toward (Nat.le_of_ble_eq_true rfl) rfl (S0.end ⟨N7 + N8, 9, fun F n hF => ?_⟩), hJ', Or.inr ⟨sd, s, ξ, hsd, hs, rfl, hne, by rw [ek0]; exact hsh, hev, hlaid, Or.inr ⟨i, hi, hith', by rw [ek0]; exact hv, rfl, hf, rfl⟩⟩⟩
        simp [zg_0, zg_aload_n, zg_getfield, zg_iconst, zg_ifCond, zg_iload_n, zg_invokestatic, zg_invokevirtual, zg_ireturn, zg_istore_n, zg_ldc, zf_X5_toward, zi_ld, zi_lda, zi_cmp, zi_retOk, zi_isI, zi_f3, zi_cr, zi_ci, zi_cn, zi_get, zi_set, zq_Desk_isWindow, zd_c, E7 F (by omega), zq_Desk_giveFocus, E8 F (by omega)]
    · refine ⟨μ, -1000000002, row, stk, ze_in [(0, .ref 1), (1, .int (nI sd))] zq_Desk_toward (Nat.le_of_ble_eq_true rfl) rfl ⟨N1 + N2 + N3, 14, fun F n hF => ?_⟩, h, Or.inl ⟨fun sd' hsd' e s hs hne => ?_, rfl, rfl, (zx_sd_in hsd).symm⟩⟩
      · simp [zg_0, zg_aload_n, zg_getfield, zg_iconst, zg_ifCond, zg_iload_n, zg_invokestatic, zg_invokevirtual, zg_ireturn, zg_istore_n, zg_ldc, zf_X5_toward, zi_ld, zi_lda, zi_cmp, zi_retOk, zi_isI, zi_f3, zi_cr, zi_ci, zi_cn, zi_get, zi_set, zq_Desk_isSide, E1 F (by omega), zd_g, zq_Row_get, cr, E2 F (by omega), zq_Desk_isShownTile, zd_c, E3 F (by omega), n2]
      · have hm0 : row.getD 0 0 ∈ row := zl_mem (List.length_pos_iff.mpr hne)
        have hb0 := ((h.1.2.2 _).mp hm0).1
        exact hno _ s hb0 hs (by rw [← hw, if_neg hne])
  · obtain ⟨N1, E1⟩ := ze_isSide_out (h := zm_mk μ) (D + 14) ho
    refine ⟨μ, -1000000001, row, stk, ze_in [(0, .ref 1), (1, .int x)] zq_Desk_toward (Nat.le_of_ble_eq_true rfl) rfl ⟨N1, 5, fun F n hF => ?_⟩, h, Or.inl ⟨fun sd hsd e => ?_, rfl, rfl, (zx_sd_out ho).symm⟩⟩
    · simp [zg_0, zg_aload_n, zg_getfield, zg_iconst, zg_ifCond, zg_iload_n, zg_invokestatic, zg_invokevirtual, zg_ireturn, zg_istore_n, zg_ldc, zf_X5_toward, zi_ld, zi_lda, zi_cmp, zi_retOk, zi_isI, zi_f3, zi_cr, zi_ci, zi_cn, zi_get, zi_set, zq_Desk_isSide, E1 F (by omega), n4]
    · rw [e] at ho
      exact absurd ho (fun q => q.elim (nI_pos (by omega)) (nI_ge (b := 4) hsd (by decide)))
end ZXN
section ZXN2
variable {μ ν : zm_M} {row stk : List Nat} {us : Nat → zy_F}
set_option maxRecDepth 100000 in
theorem ze_Mneighbour_v (D : Nat) (h : zR μ row stk us) (w x : Int32) : ∃ ν v, ze_E (D + 29) A_Mod_neighbour [.ref 232, .int w, .int x] (zm_mk μ) (some (.int v)) (zm_mk ν) ∧ zM_fr μ ν ∧ ((v = -1000000001 ∧ ¬ ∃ k sd, k < 10 ∧ sd < 4 ∧ w = nI k ∧ x = nI sd ∧ ¬ μ 234 k = 0) ∨ (∃ k sd, k < 10 ∧ sd < 4 ∧ w = nI k ∧ x = nI sd ∧ ¬ μ 234 k = 0 ∧ ((v = -1000000002 ∧ ∀ s, s < 3 → ¬ zv_shn μ us s k) ∨ ∃ s lo, s < 3 ∧ zv_shn μ us s k ∧ zv_los μ us lo ∧ zv_laid μ ν s (us s) ∧ zv_frY μ ν ∧ ((zl_nb (zv_nf ν s k sd lo) (List.range 10) (-1) 0 = -1 ∧ v = -1000000005) ∨ ∃ i, i < 10 ∧ zl_nb (zv_nf ν s k sd lo) (List.range 10) (-1) 0 = nI i ∧ v = nI i)))) := by
  have n1 : Int32.ofInt (-1000000001) = -1000000001 := by decide
  have n2 : Int32.ofInt (-1000000002) = -1000000002 := by decide
  have n5 : Int32.ofInt (-1000000005) = -1000000005 := by decide
  obtain ⟨lc, cM⟩ := zM_c (μ := μ)
  rcases zR_win (D + 26) h w with ⟨k, hk, rfl, c0, N1, E1⟩ | ⟨⟨N1, E1⟩, c0⟩
  · rcases zM_isIn (hp := zm_mk μ) (D + 27) x (n := 3) (b := 3) (by decide) (by decide) with ⟨sd, hsd, rfl, N2, E2⟩ | ⟨⟨N2, E2⟩, hno⟩
    · rcases zR_shn (D + 24) h hk with ⟨⟨N3, E3⟩, s, hs, hsh⟩ | ⟨⟨N3, E3⟩, hns⟩
      · obtain ⟨ν, lo, l1, l2, f, ⟨q3, N4, E4⟩ | ⟨i, hi, -, q3, N4, E4⟩⟩ := zR_nbr D h hk hs hsd hsh.1 hsh.2.1
        · have m1 : ¬ (0 : Int32) ≤ -1 := by decide
          refine ⟨ν, -1000000005, ze_in [(0, .ref 232), (1, .int (nI k)), (2, .int (nI sd))] zq_Mod_neighbour (Nat.le_of_ble_eq_true rfl) rfl ⟨N1 + N2 + N3 + N4, 23, fun F n hF => ?_⟩, f.fr, Or.inr ⟨k, sd, hk, hsd, rfl, rfl, c0, Or.inr ⟨s, lo, hs, hsh, l1, l2, f, Or.inl ⟨q3, rfl⟩⟩⟩⟩
          simp [zg_0, zg_aload_n, zg_goto, zg_iconst, zg_ifCond, zg_iload_n, zg_invokestatic, zg_invokevirtual, zg_ireturn, zg_istore_n, zg_ldc, zg_ldc_w, zf_X6_neighbour, zi_ld, zi_lda, zi_cmp, zi_retOk, zi_isI, zi_f3, zi_cr, zi_ci, zi_cn, zi_get, zi_set, cM, zq_Mod_isWindow, zq_Mod_isIn, zq_Mod_isShown, zq_Mod_neighbourOf, E1 F (by omega), E2 F (by omega), E3 F (by omega), E4 F (by omega), m1, n5]
        · have m1 : (0 : Int32) ≤ nI i := Int32.not_lt.mp (nI_pos (by omega))
          refine ⟨ν, nI i, ze_in [(0, .ref 232), (1, .int (nI k)), (2, .int (nI sd))] zq_Mod_neighbour (Nat.le_of_ble_eq_true rfl) rfl ⟨N1 + N2 + N3 + N4, 22, fun F n hF => ?_⟩, f.fr, Or.inr ⟨k, sd, hk, hsd, rfl, rfl, c0, Or.inr ⟨s, lo, hs, hsh, l1, l2, f, Or.inr ⟨i, hi, q3, rfl⟩⟩⟩⟩
          simp [zg_0, zg_aload_n, zg_goto, zg_iconst, zg_ifCond, zg_iload_n, zg_invokestatic, zg_invokevirtual, zg_ireturn, zg_istore_n, zg_ldc, zg_ldc_w, zf_X6_neighbour, zi_ld, zi_lda, zi_cmp, zi_retOk, zi_isI, zi_f3, zi_cr, zi_ci, zi_cn, zi_get, zi_set, cM, zq_Mod_isWindow, zq_Mod_isIn, zq_Mod_isShown, zq_Mod_neighbourOf, E1 F (by omega), E2 F (by omega), E3 F (by omega), E4 F (by omega), m1]
      · refine ⟨μ, -1000000002, ze_in [(0, .ref 232), (1, .int (nI k)), (2, .int (nI sd))] zq_Mod_neighbour (Nat.le_of_ble_eq_true rfl) rfl ⟨N1 + N2 + N3, 15, fun F n hF => ?_⟩, zM_fr.refl, Or.inr ⟨k, sd, hk, hsd, rfl, rfl, c0, Or.inl ⟨rfl, hns⟩⟩⟩
        simp [zg_0, zg_aload_n, zg_goto, zg_iconst, zg_ifCond, zg_iload_n, zg_invokestatic, zg_invokevirtual, zg_ireturn, zg_istore_n, zg_ldc, zg_ldc_w, zf_X6_neighbour, zi_ld, zi_lda, zi_cmp, zi_retOk, zi_isI, zi_f3, zi_cr, zi_ci, zi_cn, zi_get, zi_set, cM, zq_Mod_isWindow, zq_Mod_isIn, zq_Mod_isShown, E1 F (by omega), E2 F (by omega), E3 F (by omega), n2]
    · refine ⟨μ, -1000000001, ze_in [(0, .ref 232), (1, .int (nI k)), (2, .int x)] zq_Mod_neighbour (Nat.le_of_ble_eq_true rfl) rfl ⟨N1 + N2, 11, fun F n hF => ?_⟩, zM_fr.refl, Or.inl ⟨rfl, fun ⟨_, sd, _, hsd, _, e, _⟩ => hno sd (by omega) e⟩⟩
      simp [zg_0, zg_aload_n, zg_goto, zg_iconst, zg_ifCond, zg_iload_n, zg_invokestatic, zg_invokevirtual, zg_ireturn, zg_istore_n, zg_ldc, zg_ldc_w, zf_X6_neighbour, zi_ld, zi_lda, zi_cmp, zi_retOk, zi_isI, zi_f3, zi_cr, zi_ci, zi_cn, zi_get, zi_set, cM, zq_Mod_isWindow, zq_Mod_isIn, E1 F (by omega), E2 F (by omega), n1]
  · refine ⟨μ, -1000000001, ze_in [(0, .ref 232), (1, .int w), (2, .int x)] zq_Mod_neighbour (Nat.le_of_ble_eq_true rfl) rfl ⟨N1, 6, fun F n hF => ?_⟩, zM_fr.refl, Or.inl ⟨rfl, fun ⟨k, _, hk, _, e, _, z⟩ => z (c0 k hk e)⟩⟩
    simp [zg_0, zg_aload_n, zg_goto, zg_iconst, zg_ifCond, zg_iload_n, zg_invokestatic, zg_invokevirtual, zg_ireturn, zg_istore_n, zg_ldc, zg_ldc_w, zf_X6_neighbour, zi_ld, zi_lda, zi_cmp, zi_retOk, zi_isI, zi_f3, zi_cr, zi_ci, zi_cn, zi_get, zi_set, cM, zq_Mod_isWindow, E1 F (by omega), n1]
def zv_twdv (μ ν : zm_M) (row stk : List Nat) (us : Nat → zy_F) (x v : Int32) : Prop :=
  ((∀ sd, sd < 4 → x = nI sd → ∀ s, s < 3 → row ≠ [] → ¬ zv_shn μ us s (row.getD 0 0)) ∧ ν = μ ∧ v = zx_sd x) ∨
  ∃ sd s ξ lo, sd < 4 ∧ s < 3 ∧ x = nI sd ∧ row ≠ [] ∧ zv_shn μ us s (row.getD 0 0) ∧ zv_los μ us lo ∧ zv_laid μ ξ s (us s) ∧ zv_frY μ ξ ∧
    ((zl_nb (zv_nf ξ s (row.getD 0 0) sd lo) (List.range 10) (-1) 0 = -1 ∧ ν = ξ ∧ v = -1000000005) ∨ ∃ i, i < 10 ∧ μ 234 i = 1 ∧ zl_nb (zv_nf ξ s (row.getD 0 0) sd lo) (List.range 10) (-1) 0 = nI i ∧ zv_foc ξ ν row stk us i ∧ v = nI i)
set_option maxRecDepth 100000 in
theorem ze_Mtoward_v (D : Nat) (h : zR μ row stk us) (x : Int32) : ∃ ν v, ze_E (D + 29) A_Mod_toward [.ref 232, .int x] (zm_mk μ) (some (.int v)) (zm_mk ν) ∧ zv_twdv μ ν row stk us x v := by
  have n1 : Int32.ofInt (-1000000001) = -1000000001 := by decide
  have n2 : Int32.ofInt (-1000000002) = -1000000002 := by decide
  have n5 : Int32.ofInt (-1000000005) = -1000000005 := by decide
  obtain ⟨lc, cM⟩ := zM_c (μ := μ)
  have hL := h.2.1.1
  have l10 := hL.1
  have i0 : zi_in (0 : Int32) 10 = true := by decide
  have z0 : (0 : Int32).toNatClampNeg = 0 := by decide
  rcases zM_isIn (hp := zm_mk μ) (D + 27) x (n := 3) (b := 3) (by decide) (by decide) with ⟨sd, hsd, rfl, N2, E2⟩ | ⟨⟨N2, E2⟩, hno⟩
  · by_cases c : row = []
    · have e0 : μ 231 12 = 0 := by rw [hL.2.1, c]; rfl
      refine ⟨μ, -1000000002, ze_in [(0, .ref 232), (1, .int (nI sd))] zq_Mod_toward (Nat.le_of_ble_eq_true rfl) rfl ⟨N2, 10, fun F n hF => ?_⟩, Or.inl ⟨fun _ _ _ _ _ hne => absurd c hne, rfl, (zx_sd_in (by omega)).symm⟩⟩
      simp [zg_0, zg_aload_n, zg_getfield, zg_iaload, zg_iconst, zg_ifCond, zg_iload_n, zg_invokestatic, zg_invokevirtual, zg_ireturn, zg_istore_n, zg_ldc, zg_ldc_w, zf_X6_toward, zi_ld, zi_lda, zi_cmp, zi_retOk, zi_isI, zi_f3, zi_cr, zi_ci, zi_cn, zi_get, zi_set, zM_g, zq_Mod_isIn, E2 F (by omega), e0, n2]
    · have hpos := List.length_pos_iff.mpr c
      have hm : row.getD 0 0 ∈ row := zl_mem hpos
      obtain ⟨hk, ht⟩ := (h.2.1.2.2 _).mp hm
      have e1 : μ 242 0 = nI (row.getD 0 0) := hL.2.2 0 hpos
      have e0 : ¬ μ 231 12 = 0 := by
        rw [hL.2.1]
        intro e
        have := (nI_eq (a := row.length) (b := 0) (by omega) (by decide)).mp e
        omega
      unfold zv_twdv
      generalize row.getD 0 0 = k at hm hk ht e1 ⊢
      rcases zR_shn (D + 24) h hk with ⟨⟨N3, E3⟩, s, hs, hsh⟩ | ⟨⟨N3, E3⟩, hns⟩
      · obtain ⟨ξ, lo, q1, q2, f, ⟨q3, N4, E4⟩ | ⟨i, hi, q4, q5, N4, E4⟩⟩ := zR_nbr D h hk hs (by omega : sd < 4) hsh.1 hsh.2.1
        · have m1 : ¬ (0 : Int32) ≤ -1 := by decide
          refine ⟨ξ, -1000000005, ze_in [(0, .ref 232), (1, .int (nI sd))] zq_Mod_toward (Nat.le_of_ble_eq_true rfl) rfl ⟨N2 + N3 + N4, 27, fun F n hF => ?_⟩, Or.inr ⟨sd, s, ξ, lo, by omega, hs, rfl, c, hsh, q1, q2, f, Or.inl ⟨q3, rfl, rfl⟩⟩⟩
          simp [zg_0, zg_aload_n, zg_getfield, zg_iaload, zg_iconst, zg_ifCond, zg_iload_n, zg_invokestatic, zg_invokevirtual, zg_ireturn, zg_istore_n, zg_ldc, zg_ldc_w, zf_X6_toward, zi_ld, zi_lda, zi_cmp, zi_retOk, zi_isI, zi_f3, zi_cr, zi_ci, zi_cn, zi_get, zi_set, zM_g, cM, zq_Mod_isIn, zq_Mod_isShown, zq_Mod_neighbourOf, E2 F (by omega), E3 F (by omega), E4 F (by omega), e0, zm_iald (k := 0) zM_A242 i0, z0, e1, m1, n5]
        · have m1 : (0 : Int32) ≤ nI i := Int32.not_lt.mp (nI_pos (by omega))
          have h2 := h.fr f.fr
          obtain ⟨lc2, cM2⟩ := zM_c (μ := ξ)
          obtain ⟨ν, ⟨N5, E5⟩, q6⟩ := zR_focused (D + 16) h2 hi (by rw [f _ _ (by omega) (by omega), q4]; decide)
          refine ⟨ν, nI i, ze_in [(0, .ref 232), (1, .int (nI sd))] zq_Mod_toward (Nat.le_of_ble_eq_true rfl) rfl ⟨N2 + N3 + N4 + N5, 30, fun F n hF => ?_⟩, Or.inr ⟨sd, s, ξ, lo, by omega, hs, rfl, c, hsh, q1, q2, f, Or.inr ⟨i, hi, q4, q5, q6, rfl⟩⟩⟩
          simp [zg_0, zg_aload_n, zg_getfield, zg_iaload, zg_iconst, zg_ifCond, zg_iload_n, zg_invokestatic, zg_invokevirtual, zg_ireturn, zg_istore_n, zg_ldc, zg_ldc_w, zf_X6_toward, zi_ld, zi_lda, zi_cmp, zi_retOk, zi_isI, zi_f3, zi_cr, zi_ci, zi_cn, zi_get, zi_set, zM_g, cM, cM2, zq_Mod_isIn, zq_Mod_isShown, zq_Mod_neighbourOf, zq_Mod_focused, E2 F (by omega), E3 F (by omega), E4 F (by omega), E5 F (by omega), e0, zm_iald (k := 0) zM_A242 i0, z0, e1, m1]
      · refine ⟨μ, -1000000002, ze_in [(0, .ref 232), (1, .int (nI sd))] zq_Mod_toward (Nat.le_of_ble_eq_true rfl) rfl ⟨N2 + N3, 17, fun F n hF => ?_⟩, Or.inl ⟨fun _ _ _ s hs _ => hns s hs, rfl, (zx_sd_in (by omega)).symm⟩⟩
        simp [zg_0, zg_aload_n, zg_getfield, zg_iaload, zg_iconst, zg_ifCond, zg_iload_n, zg_invokestatic, zg_invokevirtual, zg_ireturn, zg_istore_n, zg_ldc, zg_ldc_w, zf_X6_toward, zi_ld, zi_lda, zi_cmp, zi_retOk, zi_isI, zi_f3, zi_cr, zi_ci, zi_cn, zi_get, zi_set, zM_g, cM, zq_Mod_isIn, zq_Mod_isShown, E2 F (by omega), E3 F (by omega), e0, zm_iald (k := 0) zM_A242 i0, z0, e1, n2]
  · refine ⟨μ, -1000000001, ze_in [(0, .ref 232), (1, .int x)] zq_Mod_toward (Nat.le_of_ble_eq_true rfl) rfl ⟨N2, 7, fun F n hF => ?_⟩, Or.inl ⟨fun sd hsd e => absurd e (hno sd (by omega)), rfl, (zx_sd_out ((zd_rng x 4 (by decide)).resolve_left (fun ⟨sd, hsd, e⟩ => hno sd hsd e))).symm⟩⟩
    simp [zg_0, zg_aload_n, zg_getfield, zg_iaload, zg_iconst, zg_ifCond, zg_iload_n, zg_invokestatic, zg_invokevirtual, zg_ireturn, zg_istore_n, zg_ldc, zg_ldc_w, zf_X6_toward, zi_ld, zi_lda, zi_cmp, zi_retOk, zi_isI, zi_f3, zi_cr, zi_ci, zi_cn, zi_get, zi_set, zq_Mod_isIn, E2 F (by omega), n1]
end ZXN2
section ZXN3
variable {M N θ : zm_M} {row row' stkC stkC' stk ord : List Nat} {Rs Rs' : Nat → List Nat} {ts ts' us us' : Nat → zy_F}
theorem zd_shn_eqv {s k : Nat} (hk : k < 10) (hs : s < 3) (e : zJ_eqv M N) : zd_shn N s k ↔ zd_shn M s k := by
  unfold zd_shn zd_til
  rw [e _ (zJn_W hk).1, e _ (zJn_T hs (j := 12) (by decide)).1, e _ (zJn_T hs (j := 3) (by decide)).1]
theorem zW_neighbour_e (h : zW M) (w x : Int32) : zW_e M A_Desk_neighbour A_Mod_neighbour [.int w, .int x] := by
  obtain ⟨row, stkC, stk, ord, Rs, ts, us, h⟩ := h
  obtain ⟨N, r1, E1, e, V1⟩ := ze_neighbour_v 57 h.1 w x
  have hm := zW_mid h (zW_eqv e)
  obtain ⟨θ, r2, E2, f, V2⟩ := ze_Mneighbour_v 35 (zK_R hm) w x
  have W := zW_ro h e f
  have key : r2 = r1 := by
    rcases V1 with ⟨rfl, n1⟩ | ⟨k, sd, hk, hsd, rfl, rfl, ht, V1⟩
    · rcases V2 with ⟨rfl, -⟩ | ⟨k, sd, hk, hsd, rfl, rfl, ht, -⟩
      · rfl
      · exact absurd ⟨k, sd, hk, hsd, rfl, rfl, (zK_kind hm hk).2.2.mpr ht⟩ n1
    · rcases V2 with ⟨rfl, n2⟩ | ⟨k', sd', hk', hsd', ek, es, ht', V2⟩
      · exact absurd ⟨k, sd, hk, hsd, rfl, rfl, (zK_kind hm hk).2.2.mp ht⟩ n2
      · have ek := (nI_eq (by omega) (by omega)).mp ek
        have es := (nI_eq (by omega) (by omega)).mp es
        subst ek es
        have sh : ∀ s, s < 3 → (zd_shn M s k ↔ zv_shn N us s k) := fun s hs => zK_shn hm hk hs
        rcases V1 with ⟨rfl, n1⟩ | ⟨s, hs, hsh, rfl, hl⟩
        · rcases V2 with ⟨rfl, -⟩ | ⟨s, lo, hs, hsh, -⟩
          · rfl
          · exact absurd ((sh s hs).mpr hsh) (n1 s hs)
        · rcases V2 with ⟨rfl, n2⟩ | ⟨s', lo, hs', hsh', hlo, hv, fY, V2⟩
          · exact absurd ((sh s hs).mp hsh) (n2 s hs)
          · have e2 := (nI_eq (by omega) (by omega)).mp (((sh s' hs').mpr hsh').2.1.symm.trans hsh.2.1)
            subst e2
            have h2 := hm.scr e (zM_fr.refl (μ := N))
            rcases zK_nbr h2 hs hsd (hl _ hs) hv fY hlo hk ((zd_shn_eqv hk hs e).mpr hsh) with ⟨z1, z2⟩ | ⟨i, hi, z1, z2⟩
            · rcases V2 with ⟨-, rfl⟩ | ⟨i, hi, z3, rfl⟩
              · exact z1.symm
              · rw [z2] at z3
                exact absurd (by rw [← z3]; decide) (nI_pos (n := i) (by omega))
            · rcases V2 with ⟨z3, -⟩ | ⟨j, hj, z3, rfl⟩
              · rw [z2] at z3
                exact absurd (by rw [z3]; decide) (nI_pos (n := i) (by omega))
              · rw [z1, ← z2, z3]
  subst key
  exact ⟨N, θ, r2, E1, E2, W⟩
theorem zW_toward_e (h : zW M) (x : Int32) : zW_e M A_Desk_toward A_Mod_toward [.int x] := by
  obtain ⟨row, stkC, stk, ord, Rs, ts, us, h⟩ := h
  obtain ⟨N, r1, row', stk', E1, hJ, f⟩ := ze_toward_v 48 h.1 x
  have up : zW_up M N := by
    rcases id f with ⟨-, rfl, -⟩ | ⟨sd, s, ξ, -, -, -, -, -, h1, -, ⟨-, rfl, -⟩ | ⟨i, -, -, -, -, h2, -⟩⟩
    · exact zW_up.refl
    · exact zW_eqv h1
    · exact (zW_eqv h1).trans (zW_foc h2)
  have hm := zW_mid h up
  obtain ⟨θ, r2, E2, g⟩ := ze_Mtoward_v 35 (zK_R hm) x
  have f0 : ((∀ sd, sd < 4 → x = nI sd → ∀ s, s < 3 → row ≠ [] → ¬ zd_shn M s (row.getD 0 0)) ∧ N = M ∧ row' = row) ∨
     (∃ sd s ξ1, sd < 4 ∧ s < 3 ∧ x = nI sd ∧ row ≠ [] ∧ zd_shn M s (row.getD 0 0) ∧ zJ_eqv M ξ1 ∧ (∀ q, q < 3 → zd_laid ξ1 q (Rs q) (ts q)) ∧
       ((zd_ngb ξ1 s (row.getD 0 0) sd = -1000000005 ∧ N = ξ1 ∧ row' = row) ∨ ∃ i, i < 10 ∧ zd_th M i = true ∧ zd_ngb ξ1 s (row.getD 0 0) sd = nI i ∧ row' = i :: row.erase i ∧ zd_foc ξ1 N i)) := by
    rcases id f with ⟨a, b, c, -⟩ | ⟨sd, s, ξ, a1, a2, a3, a4, a5, a6, a7, ⟨b1, b2, b3, -⟩ | ⟨i, b1, b2, b3, b4, b5, -⟩⟩
    · exact Or.inl ⟨a, b, c⟩
    · exact Or.inr ⟨sd, s, ξ, a1, a2, a3, a4, a5, a6, a7, Or.inl ⟨b1, b2, b3⟩⟩
    · exact Or.inr ⟨sd, s, ξ, a1, a2, a3, a4, a5, a6, a7, Or.inr ⟨i, b1, b2, b3, b4, b5⟩⟩
  have g0 : zv_twd N θ row stk us x := by
    rcases id g with ⟨a, b, -⟩ | ⟨sd, s, ξ, lo, a1, a2, a3, a4, a5, a6, a7, a8, ⟨b1, b2, -⟩ | ⟨i, b1, b2, b3, b4, -⟩⟩
    · exact Or.inl ⟨a, b⟩
    · exact Or.inr ⟨sd, s, ξ, lo, a1, a2, a3, a4, a5, a6, a7, a8, Or.inl ⟨b1, b2⟩⟩
    · exact Or.inr ⟨sd, s, ξ, lo, a1, a2, a3, a4, a5, a6, a7, a8, Or.inr ⟨i, b1, b2, b3, b4⟩⟩
  obtain ⟨_, _, z⟩ := zK_tow hm hJ f0 g0
  have W := zW_end z (zW_mtwd g0)
  have key : r2 = r1 := by
    rcases f with ⟨f1, -, -, rfl⟩ | ⟨sd, s, ξ1, hsd, hs, rfl, hne, hsh, he, hl, f2⟩
    · rcases g with ⟨-, -, rfl⟩ | ⟨sd, s, μ1, lo, hsd, hs, rfl, hne, hsh, -⟩
      · rfl
      · exact absurd ((zK_shn hm (zJ_row0 h.1 hne) hs).mpr hsh) (f1 sd hsd rfl s hs hne)
    · rcases g with ⟨g1, -, -⟩ | ⟨sd', s', μ1, lo, hsd', hs', ex, -, hsh', hlo, hv, fY, g2⟩
      · exact absurd ((zK_shn hm (zJ_row0 h.1 hne) hs).mp hsh) (g1 sd hsd rfl s hs hne)
      · have e1 := (nI_eq (by omega) (by omega)).mp ex
        subst e1
        have hk := zJ_row0 h.1 hne
        generalize row.getD 0 0 = k at hsh hsh' hk f2 g2
        have e2 := (nI_eq (by omega) (by omega)).mp (((zK_shn hm hk hs').mpr hsh').2.1.symm.trans hsh.2.1)
        subst e2
        have h1 := hm.scr he (zM_fr.refl (μ := N))
        have hnb := zK_nbr h1 hs hsd (hl _ hs) hv fY hlo hk ((zK_shn h1 hk hs).mpr hsh')
        rcases hnb with ⟨z1, z2⟩ | ⟨p, hp, z1, z2⟩
        · rcases f2 with ⟨-, -, -, rfl⟩ | ⟨i, hi, -, f3, -⟩
          · rcases g2 with ⟨-, -, rfl⟩ | ⟨j, hj, -, g3, -⟩
            · rfl
            · rw [z2] at g3
              exact absurd (by rw [← g3]; decide) (nI_pos (n := j) (by omega))
          · rw [z1] at f3
            exact absurd (by rw [← f3]; decide) (nI_pos (n := i) (by omega))
        · rcases f2 with ⟨f3, -, -, -⟩ | ⟨i, hi, -, f3, -, -, rfl⟩
          · rw [z1] at f3
            exact absurd (by rw [f3]; decide) (nI_pos (n := p) (by omega))
          · rcases g2 with ⟨g3, -, -⟩ | ⟨j, hj, -, g3, -, rfl⟩
            · rw [z2] at g3
              exact absurd (by rw [g3]; decide) (nI_pos (n := p) (by omega))
            · rw [← f3, ← g3, z1, z2]
  subst key
  exact ⟨N, θ, r2, E1, E2, W⟩
end ZXN3
