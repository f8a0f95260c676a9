/-! places: what stands when a call only asks -/
/-- cells that no answer rests on: zJ_irr but for the places -/
def zJ_irs (c : Nat) : Prop := (7 ≤ c ∧ c < 36) ∨ (66 ≤ c ∧ c < 231 ∧ ((c - 66) % 55 = 21 ∨ (c - 66) % 55 = 22 ∨ (c - 66) % 55 = 24 ∨ (c - 66) % 55 = 25 ∨ (c - 66) % 55 = 46 ∨ (c - 66) % 55 = 47 ∨ (c - 66) % 55 = 49 ∨ (c - 66) % 55 = 50))
def zJ_eqs (μ ν : zm_M) : Prop := ∀ c, ¬ zJ_irs c → ν c = μ c
def zM_frs (μ ν : zm_M) : Prop := ∀ c d, ¬ (c = 231 ∧ d = 30) → c + 1 ≠ 0 → c + 2 ≠ 0 → ¬ (255 ≤ c ∧ c ≤ 261) → ν c d = μ c d
/-- the class's places stand -/
def zd_kpp (μ ν : zm_M) : Prop := ∀ s, s < 3 → ∀ j, j < 10 → ∀ a, a < 2 → ν (zdP s + 1 + a) j = μ (zdP s + 1 + a) j
def zd_plc (μ ν : zm_M) : Prop := (∀ k, k < 10 → ∀ a, a < 2 → ν (zdW k + 2) a = μ (zdW k + 2) a) ∧ zd_kpp μ ν
/-- the class's places stand, by whole cells -/
def zd_pls (μ ν : zm_M) : Prop := (∀ k, k < 10 → ν (zdW k + 2) = μ (zdW k + 2)) ∧ ∀ s, s < 3 → ∀ a, a < 2 → ν (zdP s + 1 + a) = μ (zdP s + 1 + a)
/-- the reference's places stand -/
def zv_plc (μ ν : zm_M) : Prop := ∀ c d, c = 239 ∨ c = 240 ∨ c = 253 ∨ c = 254 → ν c d = μ c d
section ZXS
variable {μ ν ξ : zm_M} {row stk : List Nat} {Rs : Nat → List Nat} {ts us : Nat → zy_F} {R : List Nat} {t : zy_F}
theorem zJ_eqs.v (h : zJ_eqs μ ν) : zJ_eqv μ ν := fun c hc => h c (fun z => hc (by unfold zJ_irs at z; unfold zJ_irr; omega))
theorem zJ_eqs.refl : zJ_eqs μ μ := fun _ _ => rfl
theorem zJ_eqs.trans (h : zJ_eqs μ ν) (g : zJ_eqs ν ξ) : zJ_eqs μ ξ := fun c hc => (g c hc).trans (h c hc)
theorem zd_pls.p (h : zd_pls μ ν) : zd_plc μ ν := ⟨fun k hk a _ => congrFun (h.1 k hk) a, fun s hs j _ a ha => congrFun (h.2 s hs a ha) j⟩
theorem zJ_eqs.p (h : zJ_eqs μ ν) : zd_plc μ ν := zd_pls.p ⟨fun k hk => h _ (by unfold zJ_irs zdW; omega), fun s hs a ha => h _ (by unfold zJ_irs zdP; omega)⟩
theorem zd_frA_eqs (f : zd_frA μ ν) : zJ_eqs μ ν := fun c hc => f c (fun s hs => by unfold zJ_irs at hc; unfold zdT; omega)
theorem zd_kpp.refl : zd_kpp μ μ := fun _ _ _ _ _ _ => rfl
theorem zd_kpp.trans (h : zd_kpp μ ν) (g : zd_kpp ν ξ) : zd_kpp μ ξ := fun s hs j hj a ha => (g s hs j hj a ha).trans (h s hs j hj a ha)
theorem zd_plc.refl : zd_plc μ μ := ⟨fun _ _ _ _ => rfl, zd_kpp.refl⟩
theorem zd_plc.trans (h : zd_plc μ ν) (g : zd_plc ν ξ) : zd_plc μ ξ := ⟨fun k hk a ha => (g.1 k hk a ha).trans (h.1 k hk a ha), h.2.trans g.2⟩
theorem zv_plc.refl : zv_plc μ μ := fun _ _ _ => rfl
theorem zv_plc.trans (h : zv_plc μ ν) (g : zv_plc ν ξ) : zv_plc μ ξ := fun c d hc => (g c d hc).trans (h c d hc)
theorem zM_frs.w (h : zM_frs μ ν) : zM_fr μ ν := fun c d h1 _ _ h4 => h c d h1 (by omega) (by omega) (by omega)
theorem zM_frs.p (h : zM_frs μ ν) : zv_plc μ ν := fun c d hc => h c d (by omega) (by omega) (by omega) (by omega)
theorem zM_frs.refl : zM_frs μ μ := fun _ _ _ _ _ _ => rfl
theorem zM_frs.trans (a : zM_frs μ ν) (b : zM_frs ν ξ) : zM_frs μ ξ := fun c d h1 h2 h3 h4 => (b c d h1 h2 h3 h4).trans (a c d h1 h2 h3 h4)
theorem zv_frY.frs (h : zv_frY μ ν) : zM_frs μ ν := fun c d h1 _ _ h4 => h c d h1 (by omega)
theorem zu_frv.frs (h : zu_frv μ ν) : zM_frs μ ν := fun c d h1 _ _ h4 => h c d h1 (by omega)
set_option maxRecDepth 100000 in
theorem ze_area_s (D : Nat) (h : zJ μ row stk Rs ts) (w x : Int32) : ∃ ν v, ze_E (D + 7) A_Desk_area [.ref 1, .int w, .int x] (zm_mk μ) (some (.int v)) (zm_mk ν) ∧ zJ_eqs μ ν := by
  have n4 : Int32.ofInt (-1000000001) = -1000000001 := by decide
  have n5 : Int32.ofInt (-1000000005) = -1000000005 := by decide
  have hno : ze_E (D + 6) A_Desk_isWindow [.ref 1, .int w] (zm_mk μ) (some (.int 0)) (zm_mk μ) → ∃ ν v, ze_E (D + 7) A_Desk_area [.ref 1, .int w, .int x] (zm_mk μ) (some (.int v)) (zm_mk ν) ∧ zJ_eqs μ ν := by
    rintro ⟨N1, E1⟩
    refine ⟨μ, -1000000001, ze_in [(0, .ref 1), (1, .int w), (2, .int x)] zq_Desk_area (Nat.le_of_ble_eq_true rfl) rfl ⟨N1, 6, fun F n hF => ?_⟩, zJ_eqs.refl⟩
    simp [zi_go, zf_X5_area, zi_ask, zi_new, zi_step, zi_ld, zi_lda, zi_cmp, zi_retOk, zi_isI, zi_f3, zi_cr, zi_ci, zi_cn, zi_get, zi_set, zq_Desk_isWindow, zd_c, E1 F (by omega), n4]
  rcases zd_rng w 10 (by decide) with ⟨k, hk, rfl⟩ | hout
  · have E1 := ze_thW (μ := μ) (D + 5) hk
    by_cases c1 : zd_th μ k = true
    · rw [if_pos c1] at E1
      obtain ⟨N1, E1⟩ := E1
      obtain ⟨ν, ⟨N2, E2⟩, f2, -⟩ := ze_layTrees (μ := μ) D (fun s hs => (h.2.2.2.1 s hs).1)
      have hJ := h.eqv (zd_frA_eqv f2)
      have S0 : ze_S (D + 6) 3 (some .int) zc_X5_area 0 [(0, .ref 1), (1, .int (nI k)), (2, .int x)] [] (zm_mk μ) 16 [(0, .ref 1), (1, .int (nI k)), (2, .int x)] [.int x] (zm_mk ν) := by
        refine ⟨N1 + N2, 7, fun F n hF => ?_⟩
        simp [zi_go, zf_X5_area, zi_ask, zi_new, zi_step, zi_ld, zi_lda, zi_cmp, zi_retOk, zi_isI, zi_f3, zi_cr, zi_ci, zi_cn, zi_get, zi_set, zq_Desk_isWindow, zd_c, E1 F (by omega), zq_Desk_layTrees, E2 F (by omega)]
      refine ⟨ν, ?_⟩
      have fin : ∃ v, ze_G (D + 6) 3 (some .int) zc_X5_area 16 [(0, .ref 1), (1, .int (nI k)), (2, .int x)] [.int x] (zm_mk ν) (some (.int v)) (zm_mk ν) := by
        obtain ⟨v1, N3, E3⟩ := ze_startOf (μ := ν) (D + 3) hk (a := 0) (by decide) (zJ_scr hJ hk)
        obtain ⟨v2, N4, E4⟩ := ze_startOf (μ := ν) (D + 3) hk (a := 1) (by decide) (zJ_scr hJ hk)
        obtain ⟨v3, N5, E5⟩ := ze_lengthOf (μ := ν) (D + 3) hk (a := 0) (by decide) (zJ_scr hJ hk)
        obtain ⟨v4, N6, E6⟩ := ze_lengthOf (μ := ν) (D + 3) hk (a := 1) (by decide) (zJ_scr hJ hk)
        rcases zd_rng x 5 (by decide) with ⟨j, hj, rfl⟩ | ho
        · match j, hj with
          | 0, _ =>
            have t0 : (nI 0).toInt = 0 := by decide
            have cw := zw_c (μ := ν) (zdW_at hk)
            obtain ⟨N7, E7⟩ := ze_stiW (μ := ν) (D + 5) hk
            by_cases c2 : zd_sti ν k = true
            · rw [if_pos c2] at E7
              refine ⟨-1000000005, N7, 10, fun F n hF => ?_⟩
              simp [zi_go, zf_X5_area, zi_ask, zi_new, zi_step, zi_ld, zi_lda, zi_cmp, zi_retOk, zi_isI, zi_f3, zi_cr, zi_ci, zi_cn, zi_get, zi_set, t0, zd_g, zd_w hk, zq_Win_isSticky, cw, E7 F (by omega), n5]
            · rw [if_neg c2] at E7
              refine ⟨ν (zdW k) 5, N7, 13, fun F n hF => ?_⟩
              simp [zi_go, zf_X5_area, zi_ask, zi_new, zi_step, zi_ld, zi_lda, zi_cmp, zi_retOk, zi_isI, zi_f3, zi_cr, zi_ci, zi_cn, zi_get, zi_set, t0, zd_g, zd_w hk, zw_g (zdW_at hk), zq_Win_isSticky, cw, E7 F (by omega)]
          | 1, _ =>
            have t0 : (nI 1).toInt = 1 := by decide
            have hm : nI 1 - 1 = nI 0 := by decide
            refine ⟨v1, N3, 8, fun F n hF => ?_⟩
            simp [zi_go, zf_X5_area, zi_ask, zi_new, zi_step, zi_ld, zi_lda, zi_cmp, zi_retOk, zi_isI, zi_f3, zi_cr, zi_ci, zi_cn, zi_get, zi_set, t0, hm, zq_Desk_startOf, zd_c, E3 F (by omega)]
          | 2, _ =>
            have t0 : (nI 2).toInt = 2 := by decide
            have hm : nI 2 - 1 = nI 1 := by decide
            refine ⟨v2, N4, 8, fun F n hF => ?_⟩
            simp [zi_go, zf_X5_area, zi_ask, zi_new, zi_step, zi_ld, zi_lda, zi_cmp, zi_retOk, zi_isI, zi_f3, zi_cr, zi_ci, zi_cn, zi_get, zi_set, t0, hm, zq_Desk_startOf, zd_c, E4 F (by omega)]
          | 3, _ =>
            have t0 : (nI 3).toInt = 3 := by decide
            have hm : nI 3 - 3 = nI 0 := by decide
            refine ⟨v3, N5, 8, fun F n hF => ?_⟩
            simp [zi_go, zf_X5_area, zi_ask, zi_new, zi_step, zi_ld, zi_lda, zi_cmp, zi_retOk, zi_isI, zi_f3, zi_cr, zi_ci, zi_cn, zi_get, zi_set, t0, hm, zq_Desk_lengthOf, zd_c, E5 F (by omega)]
          | 4, _ =>
            have t0 : (nI 4).toInt = 4 := by decide
            have hm : nI 4 - 3 = nI 1 := by decide
            refine ⟨v4, N6, 8, fun F n hF => ?_⟩
            simp [zi_go, zf_X5_area, zi_ask, zi_new, zi_step, zi_ld, zi_lda, zi_cmp, zi_retOk, zi_isI, zi_f3, zi_cr, zi_ci, zi_cn, zi_get, zi_set, t0, hm, zq_Desk_lengthOf, zd_c, E6 F (by omega)]
        · have ho' : x.toInt < 0 ∨ 4 < x.toInt := by
            rcases ho with q | q
            · left
              exact Int32.lt_iff_toInt_lt.mp q
            · right
              have := Int32.le_iff_toInt_le.mp q
              rw [show (nI 5).toInt = 5 by decide] at this
              omega
          refine ⟨-1000000001, 0, 3, fun F n hF => ?_⟩
          simp [zi_go, zf_X5_area, zi_ask, zi_new, zi_step, zi_ld, zi_lda, zi_cmp, zi_retOk, zi_isI, zi_f3, zi_cr, zi_ci, zi_cn, zi_get, zi_set, ho', n4]
      obtain ⟨v, G⟩ := fin
      exact ⟨v, ze_in [(0, .ref 1), (1, .int (nI k)), (2, .int x)] zq_Desk_area (Nat.le_of_ble_eq_true rfl) rfl (S0.end G), zd_frA_eqs f2⟩
    · rw [if_neg c1] at E1
      exact hno E1
  · exact hno (ze_isWindow_out (D + 5) hout)
set_option maxRecDepth 100000 in
theorem ze_neighbour_s (D : Nat) (h : zJ μ row stk Rs ts) (w x : Int32) : ∃ ν v, ze_E (D + 7) A_Desk_neighbour [.ref 1, .int w, .int x] (zm_mk μ) (some (.int v)) (zm_mk ν) ∧ zJ_eqs μ ν := by
  have n4 : Int32.ofInt (-1000000001) = -1000000001 := by decide
  have n2 : Int32.ofInt (-1000000002) = -1000000002 := by decide
  have hno : ze_E (D + 6) A_Desk_isWindow [.ref 1, .int w] (zm_mk μ) (some (.int 0)) (zm_mk μ) → ∃ ν v, ze_E (D + 7) A_Desk_neighbour [.ref 1, .int w, .int x] (zm_mk μ) (some (.int v)) (zm_mk ν) ∧ zJ_eqs μ ν := by
    rintro ⟨N1, E1⟩
    refine ⟨μ, -1000000001, ze_in [(0, .ref 1), (1, .int w), (2, .int x)] zq_Desk_neighbour (Nat.le_of_ble_eq_true rfl) rfl ⟨N1, 6, fun F n hF => ?_⟩, zJ_eqs.refl⟩
    simp [zi_go, zf_X5_neighbour, zi_ask, zi_new, zi_step, zi_ld, zi_lda, zi_cmp, zi_retOk, zi_isI, zi_f3, zi_cr, zi_ci, zi_cn, zi_get, zi_set, zq_Desk_isWindow, zd_c, E1 F (by omega), n4]
  rcases zd_rng w 10 (by decide) with ⟨k, hk, rfl⟩ | hout
  · have E1 := ze_thW (μ := μ) (D + 5) hk
    by_cases c1 : zd_th μ k = true
    · rw [if_pos c1] at E1
      obtain ⟨N1, E1⟩ := E1
      rcases zd_rng x 4 (by decide) with ⟨sd, hsd, rfl⟩ | ho
      · obtain ⟨N2, E2⟩ := ze_isSide_in (h := zm_mk μ) (D + 5) hsd
        rcases ze_isShownTileJ (D + 3) h (nI k) with ⟨⟨N3, E3⟩, k', s, hk', hs, ek, hsh⟩ | ⟨⟨N3, E3⟩, -⟩
        · have e : k = k' := (nI_eq (by omega) (by omega)).mp ek
          subst e
          obtain ⟨ν, ⟨N4, E4⟩, f4, -⟩ := ze_layTrees (μ := μ) D (fun s hs => (h.2.2.2.1 s hs).1)
          have hJ := h.eqv (zd_frA_eqv f4)
          obtain ⟨N5, E5⟩ := ze_treeOf (μ := ν) (D + 5) hk hs (by rw [zd_frA_eqv f4 _ (zJn_W hk).1]; exact hsh.2.1)
          obtain ⟨N6, E6⟩ := ze_Tree_neighbourTo (μ := ν) (D + 1) (zdT_at hs) (zt_I_hm (hJ.2.2.2.1 s hs).1.1) hk hsd
          obtain ⟨lt, ct⟩ := zt_c (μ := ν) (zdT_at hs)
          generalize zl_nb (zt_nf ν (zdT s) k sd) (List.range 10) (-1000000005) 0 = v at E6
          refine ⟨ν, v, ze_in [(0, .ref 1), (1, .int (nI k)), (2, .int (nI sd))] zq_Desk_neighbour (Nat.le_of_ble_eq_true rfl) rfl ⟨N1 + N2 + N3 + N4 + N5 + N6, 20, fun F n hF => ?_⟩, zd_frA_eqs f4⟩
          simp [zi_go, zf_X5_neighbour, zi_ask, zi_new, zi_step, zi_ld, zi_lda, zi_cmp, zi_retOk, zi_isI, zi_f3, zi_cr, zi_ci, zi_cn, zi_get, zi_set, zq_Desk_isWindow, zd_c, E1 F (by omega), zq_Desk_isSide, E2 F (by omega), zq_Desk_isShownTile, E3 F (by omega), zq_Desk_layTrees, E4 F (by omega), zq_Desk_treeOf, E5 F (by omega), zq_Tree_neighbourTo, ct, E6 F (by omega)]
        · refine ⟨μ, -1000000002, ze_in [(0, .ref 1), (1, .int (nI k)), (2, .int (nI sd))] zq_Desk_neighbour (Nat.le_of_ble_eq_true rfl) rfl ⟨N1 + N2 + N3, 13, fun F n hF => ?_⟩, zJ_eqs.refl⟩
          simp [zi_go, zf_X5_neighbour, zi_ask, zi_new, zi_step, zi_ld, zi_lda, zi_cmp, zi_retOk, zi_isI, zi_f3, zi_cr, zi_ci, zi_cn, zi_get, zi_set, zq_Desk_isWindow, zd_c, E1 F (by omega), zq_Desk_isSide, E2 F (by omega), zq_Desk_isShownTile, E3 F (by omega), n2]
      · obtain ⟨N2, E2⟩ := ze_isSide_out (h := zm_mk μ) (D + 5) ho
        refine ⟨μ, -1000000001, ze_in [(0, .ref 1), (1, .int (nI k)), (2, .int x)] zq_Desk_neighbour (Nat.le_of_ble_eq_true rfl) rfl ⟨N1 + N2, 9, fun F n hF => ?_⟩, zJ_eqs.refl⟩
        simp [zi_go, zf_X5_neighbour, zi_ask, zi_new, zi_step, zi_ld, zi_lda, zi_cmp, zi_retOk, zi_isI, zi_f3, zi_cr, zi_ci, zi_cn, zi_get, zi_set, zq_Desk_isWindow, zd_c, E1 F (by omega), zq_Desk_isSide, E2 F (by omega), n4]
    · rw [if_neg c1] at E1
      exact hno E1
  · exact hno (ze_isWindow_out (D + 5) hout)
set_option maxRecDepth 100000 in
theorem ze_at_s (D : Nat) (h : zJ μ row stk Rs ts) (w x y : Int32) : ∃ ν v, ze_E (D + 7) A_Desk_at [.ref 1, .int w, .int x, .int y] (zm_mk μ) (some (.int v)) (zm_mk ν) ∧ zJ_eqs μ ν := by
  have n4 : Int32.ofInt (-1000000001) = -1000000001 := by decide
  have n2 : Int32.ofInt (-1000000002) = -1000000002 := by decide
  rcases zd_rng w 3 (by decide) with ⟨s, hs, rfl⟩ | hout
  · obtain ⟨N1, E1⟩ := ze_isScreen_in (h := zm_mk μ) (D + 5) hs
    have A := zdZ_A hs
    by_cases c3 : μ (zdS s) 3 = 0
    · refine ⟨μ, -1000000002, ze_in [(0, .ref 1), (1, .int (nI s)), (2, .int x), (3, .int y)] zq_Desk_at (Nat.le_of_ble_eq_true rfl) rfl ⟨N1, 13, fun F n hF => ?_⟩, zJ_eqs.refl⟩
      simp [zi_go, zf_X5_at, zi_ask, zi_new, zi_step, zi_ld, zi_lda, zi_cmp, zi_retOk, zi_isI, zi_f3, zi_cr, zi_ci, zi_cn, zi_get, zi_set, zq_Desk_isScreen, E1 F (by omega), zd_g, zd_s hs, zdS_g hs, c3, n2]
    · by_cases q1 : x < 0
      · refine ⟨μ, -1000000001, ze_in [(0, .ref 1), (1, .int (nI s)), (2, .int x), (3, .int y)] zq_Desk_at (Nat.le_of_ble_eq_true rfl) rfl ⟨N1, 15, fun F n hF => ?_⟩, zJ_eqs.refl⟩
        simp [zi_go, zf_X5_at, zi_ask, zi_new, zi_step, zi_ld, zi_lda, zi_cmp, zi_retOk, zi_isI, zi_f3, zi_cr, zi_ci, zi_cn, zi_get, zi_set, zq_Desk_isScreen, E1 F (by omega), zd_g, zd_s hs, zdS_g hs, c3, q1, n4]
      · by_cases q2 : μ (zdZ s) 0 ≤ x
        · refine ⟨μ, -1000000001, ze_in [(0, .ref 1), (1, .int (nI s)), (2, .int x), (3, .int y)] zq_Desk_at (Nat.le_of_ble_eq_true rfl) rfl ⟨N1, 21, fun F n hF => ?_⟩, zJ_eqs.refl⟩
          simp [zi_go, zf_X5_at, zi_ask, zi_new, zi_step, zi_ld, zi_lda, zi_cmp, zi_retOk, zi_isI, zi_f3, zi_cr, zi_ci, zi_cn, zi_get, zi_set, zq_Desk_isScreen, E1 F (by omega), zd_g, zd_s hs, zdS_g hs, c3, q1, zm_iald (k := 0) A zm_in0, zm_cl0, q2, n4]
        · by_cases q3 : y < 0
          · refine ⟨μ, -1000000001, ze_in [(0, .ref 1), (1, .int (nI s)), (2, .int x), (3, .int y)] zq_Desk_at (Nat.le_of_ble_eq_true rfl) rfl ⟨N1, 23, fun F n hF => ?_⟩, zJ_eqs.refl⟩
            simp [zi_go, zf_X5_at, zi_ask, zi_new, zi_step, zi_ld, zi_lda, zi_cmp, zi_retOk, zi_isI, zi_f3, zi_cr, zi_ci, zi_cn, zi_get, zi_set, zq_Desk_isScreen, E1 F (by omega), zd_g, zd_s hs, zdS_g hs, c3, q1, zm_iald (k := 0) A zm_in0, zm_cl0, q2, q3, n4]
          · by_cases q4 : y < μ (zdZ s) 1
            · obtain ⟨hr1, hr2, hs1, hs2⟩ := zJ_rowL h
              have hl := hs1.1
              obtain ⟨N2, E2⟩ := ze_Row_sizeL (μ := μ) (D + 5) zd5_at hs1
              have cr := zr_c (μ := μ) zd5_at
              have S0 : ze_S (D + 6) 6 (some .int) zc_X5_at 0 [(0, .ref 1), (1, .int (nI s)), (2, .int x), (3, .int y)] [] (zm_mk μ) 70 [(4, .ref (zdS s + 1)), (0, .ref 1), (1, .int (nI s)), (2, .int x), (3, .int y)] [.int 1, .int (nI stk.length)] (zm_mk μ) := by
                refine ⟨N1 + N2, 31, fun F n hF => ?_⟩
                simp [zi_go, zf_X5_at, zi_ask, zi_new, zi_step, zi_ld, zi_lda, zi_cmp, zi_retOk, zi_isI, zi_f3, zi_cr, zi_ci, zi_cn, zi_get, zi_set, zq_Desk_isScreen, E1 F (by omega), zd_g, zd_s hs, zdS_g hs, c3, q1, zm_iald (k := 0) A zm_in0, zm_iald (k := 0) A zm_in1, zm_cl0, zm_cl1, q2, q3, q4, zq_Row_size, cr, E2 F (by omega)]
              have key : ∃ r h', ze_G (D + 6) 6 (some .int) zc_X5_at 73 [(5, .int (zl_dn stk.length 0)), (4, .ref (zdS s + 1)), (0, .ref 1), (1, .int (nI s)), (2, .int x), (3, .int y)] [] (zm_mk μ) r h' ∧ ((∃ v, r = some (.int v)) ∧ ∃ ν, zm_mk ν = h' ∧ zJ_eqs μ ν) := by
                refine ze_loop (Q := fun i L hp => i ≤ stk.length ∧ zi_nl L = true ∧ zi_get L 0 = some (.ref 1) ∧ zi_get L 1 = some (.int (nI s)) ∧ zi_get L 2 = some (.int x) ∧ zi_get L 3 = some (.int y) ∧ zi_get L 4 = some (.ref (zdS s + 1)) ∧ zi_get L 5 = some (.int (zl_dn stk.length i)) ∧ zm_mk μ = hp ∧ (True)) (R := fun r h' => (∃ v, r = some (.int v)) ∧ ∃ ν, zm_mk ν = h' ∧ zJ_eqs μ ν) stk.length ?_ ?_ stk.length 0 _ _ (by omega) ⟨by omega, rfl, rfl, rfl, rfl, rfl, rfl, rfl, rfl, trivial⟩
                · rintro i L _ hi ⟨-, nl, g0, g1, g2, g3, g4, g5, rfl, hq⟩
                  have hkm : stk.getD (stk.length - 1 - i) 0 ∈ stk := zl_mem (by omega)
                  obtain ⟨N3, E3⟩ := ze_Row_getL (μ := μ) (i := stk.length - 1 - i) (D + 5) zd5_at hs1 (by omega)
                  have hd0 : zl_dn stk.length i = nI (stk.length - 1 - i) := if_pos hi
                  have hd1 : nI (stk.length - 1 - i) + -1 = zl_dn stk.length (i + 1) := by
                    have : ∀ n, n < 11 → ∀ i, i < n → nI (n - 1 - i) + -1 = zl_dn n (i + 1) := by decide
                    exact this _ (by omega) i hi
                  rw [hd0] at g5
                  generalize stk.getD (stk.length - 1 - i) 0 = k at hkm E3
                  have hk := hs2 k hkm
                  obtain ⟨v, hv, N4, E4⟩ := ze_coversPoint (μ := μ) (D + 1) hk A x y (nI s)
                  have c1 : ¬ nI (stk.length - 1 - i) < 0 := nI_pos (by omega)
                  have cw := zw_c (μ := μ) (zdW_at hk)
                  have om : Int32.ofInt (-1) = -1 := by decide
                  rcases hv with rfl | rfl
                  · left
                    refine ⟨zi_set L 5 (.int (zl_dn stk.length (i + 1))), zm_mk μ, ⟨N3 + N4, 18, fun F m hF => ?_⟩, by omega, ?_, ?_, ?_, ?_, ?_, ?_, zi_get_set_eq, rfl, trivial⟩
                    · simp (maxDischargeDepth := 9) [zi_go, zf_X5_at, zi_ask, zi_new, zi_step, zi_ld, zi_lda, zi_cmp, zi_retOk, zi_isI, zi_f3, zi_cr, zi_ci, zi_cn, zi_get_ne, zi_nl_i, zi_nl_r, zi_get_set_eq, nl, g0, g1, g2, g3, g4, g5, c1, zd_g, zq_Row_get, cr, E3 F (by omega), zd_w hk, zdS_g hs, zq_Win_coversPoint, cw, E4 F (by omega), om, hd1, nI_1]
                    · simp (maxDischargeDepth := 9) [zi_get_ne, zi_nl_i, zi_nl_r, zi_get_set_eq, nl]
                    · simp (maxDischargeDepth := 9) [zi_get_ne, zi_nl_i, zi_nl_r, zi_get_set_eq, nl, g0]
                    · simp (maxDischargeDepth := 9) [zi_get_ne, zi_nl_i, zi_nl_r, zi_get_set_eq, nl, g1]
                    · simp (maxDischargeDepth := 9) [zi_get_ne, zi_nl_i, zi_nl_r, zi_get_set_eq, nl, g2]
                    · simp (maxDischargeDepth := 9) [zi_get_ne, zi_nl_i, zi_nl_r, zi_get_set_eq, nl, g3]
                    · simp (maxDischargeDepth := 9) [zi_get_ne, zi_nl_i, zi_nl_r, zi_get_set_eq, nl, g4]
                  · right
                    refine ⟨some (.int (nI k)), zm_mk μ, ⟨N3 + N4, 21, fun F m hF => ?_⟩, ⟨nI k, rfl⟩, μ, rfl, zJ_eqs.refl⟩
                    simp (maxDischargeDepth := 9) [zi_go, zf_X5_at, zi_ask, zi_new, zi_step, zi_ld, zi_lda, zi_cmp, zi_retOk, zi_isI, zi_f3, zi_cr, zi_ci, zi_cn, zi_get_ne, zi_nl_i, zi_nl_r, zi_get_set_eq, nl, g0, g1, g2, g3, g4, g5, c1, zd_g, zq_Row_get, cr, E3 F (by omega), zd_w hk, zdS_g hs, zq_Win_coversPoint, cw, E4 F (by omega), nI_1]
                · rintro L _ ⟨-, nl, g0, g1, g2, g3, g4, g5, rfl, hq⟩
                  have hd0 : zl_dn stk.length stk.length = -1 := if_neg (by omega)
                  rw [hd0] at g5
                  obtain ⟨ν, ⟨N4, E4⟩, f4, -⟩ := ze_layTrees (μ := μ) D (fun s hs => (h.2.2.2.1 s hs).1)
                  have hev := zd_frA_eqs f4
                  have hJ := h.eqv hev.v
                  obtain ⟨v, N5, E5⟩ := ze_shownAt (μ := ν) (D + 1) (zdT_at hs) (zt_I_hm (hJ.2.2.2.1 s hs).1.1) x y
                  obtain ⟨lt, ct⟩ := zt_c (μ := ν) (zdT_at hs)
                  have c1 : (-1 : Int32) < 0 := by decide
                  refine ⟨some (.int v), zm_mk ν, ⟨N4 + N5, 10, fun F m hF => ?_⟩, ⟨v, rfl⟩, ν, rfl, hev⟩
                  simp [zi_go, zf_X5_at, zi_ask, zi_new, zi_step, zi_ld, zi_lda, zi_cmp, zi_retOk, zi_isI, zi_f3, zi_cr, zi_ci, zi_cn, g0, g2, g3, g4, g5, c1, zdS_g hs, zq_Desk_layTrees, zd_c, E4 F (by omega), zq_Tree_shownAt, ct, E5 F (by omega)]
              obtain ⟨r, h', G, ⟨v, rfl⟩, ν, rfl, hev⟩ := key
              refine ⟨ν, v, ze_in [(0, .ref 1), (1, .int (nI s)), (2, .int x), (3, .int y)] zq_Desk_at (Nat.le_of_ble_eq_true rfl) rfl ((S0.trans (ze_at_1 (D + 6) hl _ _)).end (ze_S.end (p2 := 73) (s2 := []) (h2 := zm_mk μ) ⟨0, 1, fun F m hF => ?_⟩ G)), hev⟩
              simp [zi_go, zf_X5_at, zi_ask, zi_new, zi_step, zi_ld, zi_lda, zi_cmp, zi_retOk, zi_isI, zi_f3, zi_cr, zi_ci, zi_cn, zi_get, zi_set]
            · refine ⟨μ, -1000000001, ze_in [(0, .ref 1), (1, .int (nI s)), (2, .int x), (3, .int y)] zq_Desk_at (Nat.le_of_ble_eq_true rfl) rfl ⟨N1, 29, fun F n hF => ?_⟩, zJ_eqs.refl⟩
              simp [zi_go, zf_X5_at, zi_ask, zi_new, zi_step, zi_ld, zi_lda, zi_cmp, zi_retOk, zi_isI, zi_f3, zi_cr, zi_ci, zi_cn, zi_get, zi_set, zq_Desk_isScreen, E1 F (by omega), zd_g, zd_s hs, zdS_g hs, c3, q1, zm_iald (k := 0) A zm_in0, zm_iald (k := 0) A zm_in1, zm_cl0, zm_cl1, q2, q3, q4, n4]
  · obtain ⟨N1, E1⟩ := ze_isScreen_out (h := zm_mk μ) (D + 5) hout
    refine ⟨μ, -1000000001, ze_in [(0, .ref 1), (1, .int w), (2, .int x), (3, .int y)] zq_Desk_at (Nat.le_of_ble_eq_true rfl) rfl ⟨N1, 5, fun F n hF => ?_⟩, zJ_eqs.refl⟩
    simp [zi_go, zf_X5_at, zi_ask, zi_new, zi_step, zi_ld, zi_lda, zi_cmp, zi_retOk, zi_isI, zi_f3, zi_cr, zi_ci, zi_cn, zi_get, zi_set, zq_Desk_isScreen, E1 F (by omega), n4]
def zd_rchs (μ ν : zm_M) (l : List Nat) (B : Nat) : Prop := zJ_eqs μ ν ∧ zr_L ν 34 l ∧ l.Nodup ∧ ∀ j ∈ l, j < 10 ∧ zd_til μ j = true ∧ ∃ d, d ≤ B ∧ ν 33 j = nI d
set_option maxRecDepth 100000 in
theorem ze_reachFrom_s (D : Nat) (h : zJ μ row stk Rs ts) {l : List Nat} {B k : Nat} (hB : B < 100) (hk : k ∈ l) (hr : zd_rchs μ ν l B) : ∃ ν' l', ze_E (D + 6) A_Desk_reachFrom [.ref 1, .int (nI k)] (zm_mk ν) none (zm_mk ν') ∧ zd_rchs μ ν' l' (B + 1) ∧ ∀ j ∈ l, j ∈ l' := by
  obtain ⟨r1, r2, r3, r4⟩ := hr
  obtain ⟨hk10, hkt, dk, hdk, edk⟩ := r4 k hk
  obtain ⟨s, hs, es, -, -⟩ := zJ_til h hk10 hkt
  have key : ∃ r h', ze_G (D + 5) 4 none zc_X5_reachFrom 2 [(2, .int (nI 0)), (0, .ref 1), (1, .int (nI k))] [] (zm_mk ν) r h' ∧ (r = none ∧ ∃ ν', zm_mk ν' = h' ∧ ∃ l', zd_rchs μ ν' l' (B + 1) ∧ ν' 33 k = nI dk ∧ ∀ j ∈ l, j ∈ l') := by
    refine ze_loop (Q := fun i L hp => i ≤ 4 ∧ zi_nl L = true ∧ zi_get L 0 = some (.ref 1) ∧ zi_get L 1 = some (.int (nI k)) ∧ zi_get L 2 = some (.int (nI i)) ∧ ∃ ξ : zm_M, zm_mk ξ = hp ∧ (∃ l1, zd_rchs μ ξ l1 (B + 1) ∧ ξ 33 k = nI dk ∧ ∀ j ∈ l, j ∈ l1) ∧ (True)) (R := fun r h' => r = none ∧ ∃ ν', zm_mk ν' = h' ∧ ∃ l', zd_rchs μ ν' l' (B + 1) ∧ ν' 33 k = nI dk ∧ ∀ j ∈ l, j ∈ l') 4 ?_ ?_ 4 0 _ _ (by omega) ⟨by omega, rfl, rfl, rfl, rfl, ν, rfl, ⟨l, ⟨r1, r2, r3, fun j hj => ⟨(r4 j hj).1, (r4 j hj).2.1, (r4 j hj).2.2.imp (fun d q => ⟨by omega, q.2⟩)⟩⟩, edk, fun j hj => hj⟩, trivial⟩
    · rintro i L _ hi ⟨-, nl, g0, g1, g2, ξ, rfl, hZ, hq⟩
      obtain ⟨l1, ⟨q1, q2, q3, q4⟩, q5, q6⟩ := hZ
      have c1 : ¬ (4 : Int32) ≤ nI i := nI_ge (b := 4) hi (by decide)
      have q1v := q1.v
      have hJ := h.eqv q1v
      obtain ⟨N1, E1⟩ := ze_treeOf (μ := ξ) (D + 4) hk10 hs (by rw [q1v _ (zJn_W hk10).1]; exact es)
      obtain ⟨N2, E2⟩ := ze_Tree_neighbourTo (μ := ξ) D (zdT_at hs) (zt_I_hm (hJ.2.2.2.1 s hs).1.1) hk10 hi
      have hor := zd_ngb_or hJ (s := s) (k := k) (sd := i) hs
      obtain ⟨lt, ct⟩ := zt_c (μ := ξ) (zdT_at hs)
      have E2 : ∀ F, N2 ≤ F → zi_run zi_ms F (D + 5) A_Tree_neighbourTo [.ref (zdT s + 1), .int (nI k), .int (nI i)] (zm_mk ξ) [] = some [([], some (.int (zd_ngb ξ s k i)), zm_mk ξ)] := E2
      generalize zd_ngb ξ s k i = v at E2 hor
      rcases hor with rfl | ⟨o, ho, rfl, hot, -⟩
      · obtain ⟨N3, E3⟩ := ze_isWindow_out (μ := ξ) (D + 4) (x := -1000000005) (Or.inl (by decide))
        have N4 : Nat := 0
        left
        refine ⟨zi_set (zi_set L 3 (.int (-1000000005))) 2 (.int (nI (i + 1))), zm_mk ξ, ⟨N1 + N2 + N3 + N4, 16, fun F m hF => ?_⟩, by omega, ?_, ?_, ?_, zi_get_set_eq, ξ, rfl, ⟨l1, ⟨q1, q2, q3, q4⟩, q5, q6⟩, trivial⟩
        · simp (maxDischargeDepth := 9) [zi_go, zf_X5_reachFrom, zi_ask, zi_new, zi_step, zi_ld, zi_lda, zi_cmp, zi_retOk, zi_isI, zi_f3, zi_cr, zi_ci, zi_cn, zi_get_ne, zi_nl_i, zi_nl_r, zi_get_set_eq, nl, g0, g1, g2, c1, zq_Desk_treeOf, zd_c, E1 F (by omega), zq_Tree_neighbourTo, ct, E2 F (by omega), zq_Desk_isWindow, E3 F (by omega), nI_1]
        · simp (maxDischargeDepth := 9) [zi_get_ne, zi_nl_i, zi_nl_r, zi_get_set_eq, nl]
        · simp (maxDischargeDepth := 9) [zi_get_ne, zi_nl_i, zi_nl_r, zi_get_set_eq, nl, g0]
        · simp (maxDischargeDepth := 9) [zi_get_ne, zi_nl_i, zi_nl_r, zi_get_set_eq, nl, g1]
      · have hth : zd_th ξ o = true := decide_eq_true (of_decide_eq_true hot).1
        obtain ⟨N3, E3⟩ := ze_thW (μ := ξ) (D + 4) ho
        rw [if_pos hth] at E3
        have io : zi_in (nI o) 10 = true := zm_in ho (by decide)
        have co : (nI o).toNatClampNeg = o := nI_clamp (by omega)
        have ik : zi_in (nI k) 10 = true := zm_in hk10 (by decide)
        have ck : (nI k).toNatClampNeg = k := nI_clamp (by omega)
        by_cases c2 : (0 : Int32) ≤ ξ 33 o
        · have N4 : Nat := 0
          left
          refine ⟨zi_set (zi_set L 3 (.int (nI o))) 2 (.int (nI (i + 1))), zm_mk ξ, ⟨N1 + N2 + N3 + N4, 21, fun F m hF => ?_⟩, by omega, ?_, ?_, ?_, zi_get_set_eq, ξ, rfl, ⟨l1, ⟨q1, q2, q3, q4⟩, q5, q6⟩, trivial⟩
          · simp (maxDischargeDepth := 9) [zi_go, zf_X5_reachFrom, zi_ask, zi_new, zi_step, zi_ld, zi_lda, zi_cmp, zi_retOk, zi_isI, zi_f3, zi_cr, zi_ci, zi_cn, zi_get_ne, zi_nl_i, zi_nl_r, zi_get_set_eq, nl, g0, g1, g2, c1, zq_Desk_treeOf, zd_c, E1 F (by omega), zq_Tree_neighbourTo, ct, E2 F (by omega), zq_Desk_isWindow, E3 F (by omega), zd_g, zm_iald (k := 0) zd33_A io, co, c2, nI_1]
          · simp (maxDischargeDepth := 9) [zi_get_ne, zi_nl_i, zi_nl_r, zi_get_set_eq, nl]
          · simp (maxDischargeDepth := 9) [zi_get_ne, zi_nl_i, zi_nl_r, zi_get_set_eq, nl, g0]
          · simp (maxDischargeDepth := 9) [zi_get_ne, zi_nl_i, zi_nl_r, zi_get_set_eq, nl, g1]
        · have hol : o ∉ l1 := fun hm => by
            obtain ⟨-, -, d, hd, e⟩ := q4 o hm
            rw [e] at c2
            exact c2 (nI_pos' (by omega))
          have hok : o ≠ k := fun e => by
            rw [e, q5] at c2
            exact c2 (nI_pos' (by omega))
          let ξ1 := zm_up ξ 33 o (nI (dk + 1))
          have r1 : ∀ c, c ≠ 33 → ξ1 c = ξ c := fun c hc => zm_up_row hc
          have hL1 : zr_L ξ1 34 l1 := zr_L_congr (r1 _ (by decide)) (r1 _ (by decide)) q2
          have hlen : l1.length < 10 := by
            have := zy_nodup_le 10 (o :: l1) (List.nodup_cons.mpr ⟨hol, q3⟩) (fun x hx => by
              rcases List.mem_cons.mp hx with rfl | hx
              · exact ho
              · exact (q4 x hx).1)
            rw [List.length_cons] at this
            omega
          obtain ⟨ξ2, ⟨N4, E4⟩, l2, f2⟩ := ze_Row_append (μ := ξ1) (D + 4) zd34_at hL1 hlen o
          have e2 : ∀ c, c ≠ 33 → c ≠ 34 → c ≠ 35 → ξ2 c = ξ c := fun c a1 a2 a3 => (funext fun b => f2 c b a2 a3).trans (r1 c a1)
          have e33 : ∀ j, ξ2 33 j = if j = o then nI (dk + 1) else ξ 33 j := fun j => by
            rw [f2 33 j (by decide) (by decide)]
            show zm_up _ _ _ _ _ _ = _
            rw [zm_up_pt]
          have hZ' : zd_rchs μ ξ2 (l1 ++ [o]) (B + 1) := by
            refine ⟨fun c hc => ?_, l2, (zl_app1 q3 hol (fun w hw => (q4 w hw).1) ho).1, fun j hj => ?_⟩
            · rw [e2 c (fun e => hc (by rw [e]; unfold zJ_irs; omega)) (fun e => hc (by rw [e]; unfold zJ_irs; omega)) (fun e => hc (by rw [e]; unfold zJ_irs; omega))]
              exact q1 c hc
            · rcases List.mem_append.mp hj with hj | hj
              · obtain ⟨a1, a2, d, a3, a4⟩ := q4 j hj
                exact ⟨a1, a2, d, a3, by rw [e33, if_neg (fun (e : j = o) => hol (e ▸ hj))]; exact a4⟩
              · have : j = o := by simpa using hj
                subst this
                refine ⟨ho, ?_, dk + 1, by omega, by rw [e33, if_pos rfl]⟩
                unfold zd_til at *
                rw [q1v _ (zJn_W ho).1] at hot
                exact hot
          have hk' : ξ2 33 k = nI dk := by rw [e33, if_neg (fun (e : k = o) => hok e.symm)]; exact q5
          have m1 : zm_up ξ 33 o (nI (dk + 1)) = ξ1 := rfl
          have cr := zr_c (μ := ξ1) zd34_at
          left
          refine ⟨zi_set (zi_set L 3 (.int (nI o))) 2 (.int (nI (i + 1))), zm_mk ξ2, ⟨N1 + N2 + N3 + N4, 35, fun F m hF => ?_⟩, by omega, ?_, ?_, ?_, zi_get_set_eq, ξ2, rfl, ⟨l1 ++ [o], hZ', hk', fun j hj => List.mem_append_left _ (q6 j hj)⟩, trivial⟩
          · simp (maxDischargeDepth := 9) [zi_go, zf_X5_reachFrom, zi_ask, zi_new, zi_step, zi_ld, zi_lda, zi_cmp, zi_retOk, zi_isI, zi_f3, zi_cr, zi_ci, zi_cn, zi_get_ne, zi_nl_i, zi_nl_r, zi_get_set_eq, nl, g0, g1, g2, c1, zq_Desk_treeOf, zd_c, E1 F (by omega), zq_Tree_neighbourTo, ct, E2 F (by omega), zq_Desk_isWindow, E3 F (by omega), zd_g, zm_iald (k := 0) zd33_A io, zm_iald (k := 0) zd33_A ik, co, ck, c2, q5, zm_iast zd33_A io, m1, zq_Row_append, cr, E4 F (by omega), nI_1]
          · simp (maxDischargeDepth := 9) [zi_get_ne, zi_nl_i, zi_nl_r, zi_get_set_eq, nl]
          · simp (maxDischargeDepth := 9) [zi_get_ne, zi_nl_i, zi_nl_r, zi_get_set_eq, nl, g0]
          · simp (maxDischargeDepth := 9) [zi_get_ne, zi_nl_i, zi_nl_r, zi_get_set_eq, nl, g1]
    · rintro L _ ⟨-, nl, g0, g1, g2, ξ, rfl, hZ, hq⟩
      have c1 : (4 : Int32) ≤ nI 4 := by decide
      refine ⟨none, zm_mk ξ, ⟨0, 4, fun F m hF => ?_⟩, rfl, ξ, rfl, hZ⟩
      simp [zi_go, zf_X5_reachFrom, zi_ask, zi_new, zi_step, zi_ld, zi_lda, zi_cmp, zi_retOk, zi_isI, zi_f3, zi_cr, zi_ci, zi_cn, g0, g2, c1]
  obtain ⟨r, h', G, rfl, ν', rfl, l', hZ, -, hsub⟩ := key
  refine ⟨ν', l', ze_in [(0, .ref 1), (1, .int (nI k))] zq_Desk_reachFrom (Nat.le_of_ble_eq_true rfl) rfl (ze_S.end ⟨0, 2, fun F m hF => ?_⟩ G), hZ, hsub⟩
  simp [zi_go, zf_X5_reachFrom, zi_ask, zi_new, zi_step, zi_ld, zi_lda, zi_cmp, zi_retOk, zi_isI, zi_f3, zi_cr, zi_ci, zi_cn, zi_get, zi_set, nI_0]
set_option maxRecDepth 100000 in
theorem ze_steps_s (D : Nat) (h : zJ μ row stk Rs ts) (w x : Int32) : ∃ ν v, ze_E (D + 7) A_Desk_steps [.ref 1, .int w, .int x] (zm_mk μ) (some (.int v)) (zm_mk ν) ∧ zJ_eqs μ ν := by
  have n4 : Int32.ofInt (-1000000001) = -1000000001 := by decide
  have n2 : Int32.ofInt (-1000000002) = -1000000002 := by decide
  have n5 : Int32.ofInt (-1000000005) = -1000000005 := by decide
  have h10 : (Int8.ofInt 10).toInt32 = (10 : Int32) := by decide
  have isW : ∀ y : Int32, (∃ b : Int32, (b = 0 ∨ (b = 1 ∧ ∃ k, k < 10 ∧ y = nI k)) ∧ ze_E (D + 6) A_Desk_isWindow [.ref 1, .int y] (zm_mk μ) (some (.int b)) (zm_mk μ)) := by
    intro y
    rcases zd_rng y 10 (by decide) with ⟨k, hk, rfl⟩ | hout
    · have E := ze_thW (μ := μ) (D + 5) hk
      by_cases c : zd_th μ k = true
      · rw [if_pos c] at E
        exact ⟨1, Or.inr ⟨rfl, k, hk, rfl⟩, E⟩
      · rw [if_neg c] at E
        exact ⟨0, Or.inl rfl, E⟩
    · exact ⟨0, Or.inl rfl, ze_isWindow_out (D + 5) hout⟩
  obtain ⟨b1, hb1, N1, E1⟩ := isW w
  rcases hb1 with rfl | ⟨rfl, a, ha, rfl⟩
  · refine ⟨μ, -1000000001, ze_in [(0, .ref 1), (1, .int w), (2, .int x)] zq_Desk_steps (Nat.le_of_ble_eq_true rfl) rfl ⟨N1, 6, fun F n hF => ?_⟩, zJ_eqs.refl⟩
    simp [zi_go, zf_X5_steps, zi_ask, zi_new, zi_step, zi_ld, zi_lda, zi_cmp, zi_retOk, zi_isI, zi_f3, zi_cr, zi_ci, zi_cn, zi_get, zi_set, zq_Desk_isWindow, zd_c, E1 F (by omega), n4]
  obtain ⟨b2, hb2, N2, E2⟩ := isW x
  rcases hb2 with rfl | ⟨rfl, b, hb, rfl⟩
  · refine ⟨μ, -1000000001, ze_in [(0, .ref 1), (1, .int (nI a)), (2, .int x)] zq_Desk_steps (Nat.le_of_ble_eq_true rfl) rfl ⟨N1 + N2, 10, fun F n hF => ?_⟩, zJ_eqs.refl⟩
    simp [zi_go, zf_X5_steps, zi_ask, zi_new, zi_step, zi_ld, zi_lda, zi_cmp, zi_retOk, zi_isI, zi_f3, zi_cr, zi_ci, zi_cn, zi_get, zi_set, zq_Desk_isWindow, zd_c, E1 F (by omega), E2 F (by omega), n4]
  rcases ze_isShownTileJ (D + 3) h (nI a) with ⟨⟨N3, E3⟩, a', s, ha', hs, ea, hsh⟩ | ⟨⟨N3, E3⟩, -⟩
  rotate_left
  · refine ⟨μ, -1000000002, ze_in [(0, .ref 1), (1, .int (nI a)), (2, .int (nI b))] zq_Desk_steps (Nat.le_of_ble_eq_true rfl) rfl ⟨N1 + N2 + N3, 14, fun F n hF => ?_⟩, zJ_eqs.refl⟩
    simp [zi_go, zf_X5_steps, zi_ask, zi_new, zi_step, zi_ld, zi_lda, zi_cmp, zi_retOk, zi_isI, zi_f3, zi_cr, zi_ci, zi_cn, zi_get, zi_set, zq_Desk_isWindow, zd_c, E1 F (by omega), E2 F (by omega), zq_Desk_isShownTile, E3 F (by omega), n2]
  rcases ze_isShownTileJ (D + 3) h (nI b) with ⟨⟨N4, E4⟩, -⟩ | ⟨⟨N4, E4⟩, -⟩
  rotate_left
  · refine ⟨μ, -1000000002, ze_in [(0, .ref 1), (1, .int (nI a)), (2, .int (nI b))] zq_Desk_steps (Nat.le_of_ble_eq_true rfl) rfl ⟨N1 + N2 + N3 + N4, 18, fun F n hF => ?_⟩, zJ_eqs.refl⟩
    simp [zi_go, zf_X5_steps, zi_ask, zi_new, zi_step, zi_ld, zi_lda, zi_cmp, zi_retOk, zi_isI, zi_f3, zi_cr, zi_ci, zi_cn, zi_get, zi_set, zq_Desk_isWindow, zd_c, E1 F (by omega), E2 F (by omega), zq_Desk_isShownTile, E3 F (by omega), E4 F (by omega), n2]
  have hat : zd_til μ a = true := by
    have e : a' = a := ((nI_eq (by omega) (by omega)).mp ea).symm
    rw [← e]
    exact hsh.1
  obtain ⟨ν1, ⟨N5, E5⟩, f5, -⟩ := ze_layTrees (μ := μ) D (fun s hs => (h.2.2.2.1 s hs).1)
  have ev1 := zd_frA_eqs f5
  obtain ⟨N6, E6⟩ := ze_fill (μ := ν1) (D + 5) zd33_A (by decide) (-1)
  let ν2 := zm_up (zm_fl ν1 33 (-1) 10) 33 a 0
  have r2 : ∀ c, c ≠ 33 → ν2 c = ν1 c := fun c hc => by
    show zm_up _ _ _ _ _ = _
    rw [zm_up_row hc]
    funext b
    exact if_neg (fun e => hc e.1)
  obtain ⟨N7, E7⟩ := ze_Row_clear (μ := ν2) (D + 5) zd34_at
  obtain ⟨L7, F7⟩ := zr_clear (μ := ν2) zd34_at
  generalize zm_up ν2 34 1 0 = ν3 at E7 L7 F7
  obtain ⟨ν4, ⟨N8, E8⟩, L8, F8⟩ := ze_Row_append (μ := ν3) (D + 5) zd34_at L7 (by decide) a
  have r4 : ∀ c, c ≠ 33 → c ≠ 34 → c ≠ 35 → ν4 c = ν1 c := fun c a1 a2 a3 => by
    rw [funext fun b => F8 c b a2 a3, funext fun b => F7 c b a2 a3]
    exact r2 c a1
  have hz0 : zd_rchs μ ν4 [a] 0 := by
    refine ⟨fun c hc => ?_, L8, List.nodup_cons.mpr ⟨List.not_mem_nil, List.nodup_nil⟩, fun j hj => ?_⟩
    · rw [r4 c (fun e => hc (by rw [e]; unfold zJ_irs; omega)) (fun e => hc (by rw [e]; unfold zJ_irs; omega)) (fun e => hc (by rw [e]; unfold zJ_irs; omega))]
      exact ev1 c hc
    · have : j = a := by simpa using hj
      subst this
      refine ⟨ha, hat, 0, Nat.le_refl _, ?_⟩
      rw [F8 33 j (by decide) (by decide), F7 33 j (by decide) (by decide)]
      show zm_up _ _ _ _ _ _ = _
      rw [zm_up_eq, nI_0]
  have ia : zi_in (nI a) 10 = true := zm_in ha (by decide)
  have ca : (nI a).toNatClampNeg = a := nI_clamp (by omega)
  have ib : zi_in (nI b) 10 = true := zm_in hb (by decide)
  have cb : (nI b).toNatClampNeg = b := nI_clamp (by omega)
  have S0 : ze_S (D + 6) 4 (some .int) zc_X5_steps 0 [(0, .ref 1), (1, .int (nI a)), (2, .int (nI b))] [] (zm_mk μ) 74 [(3, .int (nI 0)), (0, .ref 1), (1, .int (nI a)), (2, .int (nI b))] [] (zm_mk ν4) := by
    refine ⟨N1 + N2 + N3 + N4 + N5 + N6 + N7 + N8, 36, fun F n hF => ?_⟩
    have m2 : zm_up (zm_fl ν1 33 (-1) 10) 33 a 0 = ν2 := rfl
    have cr2 := zr_c (μ := ν2) zd34_at
    have cr3 := zr_c (μ := ν3) zd34_at
    simp [zi_go, zf_X5_steps, zi_ask, zi_new, zi_step, zi_ld, zi_lda, zi_cmp, zi_retOk, zi_isI, zi_f3, zi_cr, zi_ci, zi_cn, zi_get, zi_set, zq_Desk_isWindow, zd_c, E1 F (by omega), E2 F (by omega), zq_Desk_isShownTile, E3 F (by omega), E4 F (by omega), zq_Desk_layTrees, E5 F (by omega), zd_g, zq_Arr_fill, E6 F (by omega), zm_iast zd33_A ia, ca, m2, zq_Row_clear, cr2, E7 F (by omega), zq_Row_append, cr3, E8 F (by omega), nI_0]
  have tail : ∀ (ξ : zm_M) (L : zi_Lc), zi_get L 0 = some (.ref 1) → zi_get L 2 = some (.int (nI b)) → ∃ v, ze_G (D + 6) 4 (some .int) zc_X5_steps 109 L [] (zm_mk ξ) (some (.int v)) (zm_mk ξ) := by
    intro ξ L g0 g2
    by_cases c : (0 : Int32) ≤ ξ 33 b
    · refine ⟨ξ 33 b, 0, 10, fun F n hF => ?_⟩
      simp [zi_go, zf_X5_steps, zi_ask, zi_new, zi_step, zi_ld, zi_lda, zi_cmp, zi_retOk, zi_isI, zi_f3, zi_cr, zi_ci, zi_cn, g0, g2, zd_g, zm_iald (k := 0) zd33_A ib, cb, c]
    · refine ⟨-1000000005, 0, 8, fun F n hF => ?_⟩
      simp [zi_go, zf_X5_steps, zi_ask, zi_new, zi_step, zi_ld, zi_lda, zi_cmp, zi_retOk, zi_isI, zi_f3, zi_cr, zi_ci, zi_cn, g0, g2, zd_g, zm_iald (k := 0) zd33_A ib, cb, c, n5]
  have key : ∃ r h', ze_G (D + 6) 4 (some .int) zc_X5_steps 74 [(3, .int (nI 0)), (0, .ref 1), (1, .int (nI a)), (2, .int (nI b))] [] (zm_mk ν4) r h' ∧ ((∃ v, r = some (.int v)) ∧ ∃ ν, zm_mk ν = h' ∧ zJ_eqs μ ν) := by
    refine ze_loop (Q := fun i L hp => i ≤ 10 ∧ zi_nl L = true ∧ zi_get L 0 = some (.ref 1) ∧ zi_get L 2 = some (.int (nI b)) ∧ zi_get L 3 = some (.int (nI i)) ∧ ∃ ξ : zm_M, zm_mk ξ = hp ∧ (∃ l, zd_rchs μ ξ l i) ∧ (True)) (R := fun r h' => (∃ v, r = some (.int v)) ∧ ∃ ν, zm_mk ν = h' ∧ zJ_eqs μ ν) 10 ?_ ?_ 10 0 _ _ (by omega) ⟨by omega, rfl, rfl, rfl, rfl, ν4, rfl, ⟨[a], hz0⟩, trivial⟩
    · rintro i L _ hi ⟨-, nl, g0, g2, g3, ξ, rfl, hZ, hq⟩
      obtain ⟨l, hZ⟩ := hZ
      have c1 : ¬ (10 : Int32) ≤ nI i := nI_ge (b := 10) hi (by decide)
      obtain ⟨M1, F1⟩ := ze_Row_sizeL (μ := ξ) (D + 5) zd34_at hZ.2.1
      have cr := zr_c (μ := ξ) zd34_at
      have hl10 := hZ.2.1.1
      by_cases c2 : i < l.length
      · have c2' : ¬ nI l.length ≤ nI i := nI_ge c2 (by omega)
        obtain ⟨M2, F2⟩ := ze_Row_getL (μ := ξ) (D + 5) zd34_at hZ.2.1 c2
        have hm := zl_mem c2
        generalize l.getD i 0 = k at F2 hm
        obtain ⟨ξ', l', ⟨M3, F3⟩, hZ', -⟩ := ze_reachFrom_s (ν := ξ) D h (B := i) (by omega) hm hZ
        left
        refine ⟨zi_set L 3 (.int (nI (i + 1))), zm_mk ξ', ⟨M1 + M2 + M3, 16, fun F m hF => ?_⟩, by omega, ?_, ?_, ?_, zi_get_set_eq, ξ', rfl, ⟨l', hZ'⟩, trivial⟩
        · simp (maxDischargeDepth := 9) [zi_go, zf_X5_steps, zi_ask, zi_new, zi_step, zi_ld, zi_lda, zi_cmp, zi_retOk, zi_isI, zi_f3, zi_cr, zi_ci, zi_cn, zi_get_ne, zi_nl_i, zi_nl_r, zi_get_set_eq, nl, g0, g2, g3, h10, c1, zd_g, zq_Row_size, zq_Row_get, cr, F1 F (by omega), c2', F2 F (by omega), zq_Desk_reachFrom, zd_c, F3 F (by omega), nI_1]
        · simp (maxDischargeDepth := 9) [zi_get_ne, zi_nl_i, zi_nl_r, zi_get_set_eq, nl]
        · simp (maxDischargeDepth := 9) [zi_get_ne, zi_nl_i, zi_nl_r, zi_get_set_eq, nl, g0]
        · simp (maxDischargeDepth := 9) [zi_get_ne, zi_nl_i, zi_nl_r, zi_get_set_eq, nl, g2]
      · have c2' : nI l.length ≤ nI i := nI_le (by omega) (by omega)
        right
        obtain ⟨v, G⟩ := tail ξ L g0 g2
        refine ⟨some (.int v), zm_mk ξ, ze_S.end (p2 := 109) (L2 := L) (s2 := []) (h2 := zm_mk ξ) ⟨M1, 8, fun F m hF => ?_⟩ G, ⟨v, rfl⟩, ξ, rfl, hZ.1⟩
        simp [zi_go, zf_X5_steps, zi_ask, zi_new, zi_step, zi_ld, zi_lda, zi_cmp, zi_retOk, zi_isI, zi_f3, zi_cr, zi_ci, zi_cn, g0, g3, h10, c1, zd_g, zq_Row_size, cr, F1 F (by omega), c2']
    · rintro L _ ⟨-, nl, g0, g2, g3, ξ, rfl, hZ, hq⟩
      obtain ⟨l, hZ⟩ := hZ
      have c1 : (10 : Int32) ≤ nI 10 := by decide
      obtain ⟨v, G⟩ := tail ξ L g0 g2
      refine ⟨some (.int v), zm_mk ξ, ze_S.end (p2 := 109) (L2 := L) (s2 := []) (h2 := zm_mk ξ) ⟨0, 3, fun F m hF => ?_⟩ G, ⟨v, rfl⟩, ξ, rfl, hZ.1⟩
      simp [zi_go, zf_X5_steps, zi_ask, zi_new, zi_step, zi_ld, zi_lda, zi_cmp, zi_retOk, zi_isI, zi_f3, zi_cr, zi_ci, zi_cn, g0, g3, h10, c1]
  obtain ⟨r, h', G, ⟨v, rfl⟩, ν, rfl, hev⟩ := key
  exact ⟨ν, v, ze_in [(0, .ref 1), (1, .int (nI a)), (2, .int (nI b))] zq_Desk_steps (Nat.le_of_ble_eq_true rfl) rfl (S0.end G), hev⟩
set_option maxRecDepth 100000 in
theorem ze_MareaOfG_s (D : Nat) {k : Nat} (hk : k < 10) (h : zv_arg μ us k) {a : Nat} (ha : a < 5) : ∃ ν v, ze_E (D + 28) A_Mod_areaOf [.ref 232, .int (nI k), .int (nI a)] (zm_mk μ) (some (.int v)) (zm_mk ν) ∧ zM_frs μ ν := by
  have n5 : Int32.ofInt (-1000000005) = -1000000005 := by decide
  obtain ⟨lc, cM⟩ := zM_c (μ := μ)
  have ik : zi_in (nI k) 10 = true := zm_in hk (by decide)
  have ck : (nI k).toNatClampNeg = k := nI_clamp (by omega)
  have a0 : nI 0 = (0 : Int32) := by decide
  have a1 : nI 1 = (1 : Int32) := by decide
  have a2 : nI 2 = (2 : Int32) := by decide
  have a3 : nI 3 = (3 : Int32) := by decide
  have a4 : nI 4 = (4 : Int32) := by decide
  by_cases c : a = 0
  · subst c
    rw [a0]
    by_cases c1 : μ 234 k = 4
    · refine ⟨μ, -1000000005, ze_in [(0, .ref 232), (1, .int (nI k)), (2, .int 0)] zq_Mod_areaOf (Nat.le_of_ble_eq_true rfl) rfl ⟨0, 11, fun F n hF => ?_⟩, zM_frs.refl⟩
      simp [zi_go, zf_X6_areaOf, zi_ask, zi_new, zi_step, zi_ld, zi_lda, zi_cmp, zi_retOk, zi_isI, zi_f3, zi_cr, zi_ci, zi_cn, zi_get, zi_set, zM_g, zm_iald (k := 0) zM_A234 ik, ck, c1, n5]
    · refine ⟨μ, μ 238 k, ze_in [(0, .ref 232), (1, .int (nI k)), (2, .int 0)] zq_Mod_areaOf (Nat.le_of_ble_eq_true rfl) rfl ⟨0, 13, fun F n hF => ?_⟩, zM_frs.refl⟩
      simp [zi_go, zf_X6_areaOf, zi_ask, zi_new, zi_step, zi_ld, zi_lda, zi_cmp, zi_retOk, zi_isI, zi_f3, zi_cr, zi_ci, zi_cn, zi_get, zi_set, zM_g, zm_iald (k := 0) zM_A234 ik, zm_iald (k := 0) zM_A238 ik, ck, c1]
  · obtain ⟨N1, E1⟩ := ze_MisFloating (μ := μ) (D + 26) hk
    by_cases c1 : μ 234 k = 1
    · rw [if_neg (fun z => h.1.mp z c1)] at E1
      obtain ⟨q, m, ab, hq, hh, hI, hat⟩ := h.2 c1
      obtain ⟨ν, ⟨N2, E2⟩, -, -, f⟩ := ze_MlayAll (μ := μ) D hq hI
      obtain ⟨lc1, cM1⟩ := zM_c (μ := ν)
      have hT := zv_frY_eqT (τ := q) f
      obtain ⟨N3, E3⟩ := ze_MleafOf_at (μ := ν) (D + 24) (by omega) (hT.I hI) hk (zu_at_eqT hI hT hat)
      have e8 : ν 238 k = nI q := (f _ _ (by omega) (by omega)).trans hh
      have hm24 := zu_I_lt hI hat.1
      have im : zi_in (nI m) 24 = true := zm_in hm24 (by decide)
      have cm : (nI m).toNatClampNeg = m := nI_clamp (by omega)
      rcases (by omega : a = 1 ∨ a = 2 ∨ a = 3 ∨ a = 4) with rfl | rfl | rfl | rfl
      · rw [a1]
        refine ⟨ν, ν 255 m, ze_in [(0, .ref 232), (1, .int (nI k)), (2, .int 1)] zq_Mod_areaOf (Nat.le_of_ble_eq_true rfl) rfl ⟨N1 + N2 + N3, 29, fun F n hF => ?_⟩, f.frs⟩
        simp [zi_go, zf_X6_areaOf, zi_ask, zi_new, zi_step, zi_ld, zi_lda, zi_cmp, zi_retOk, zi_isI, zi_f3, zi_cr, zi_ci, zi_cn, zi_get, zi_set, zM_g, cM, cM1, zq_Mod_isFloating, zq_Mod_layAll, zq_Mod_leafOf, E1 F (by omega), E2 F (by omega), E3 F (by omega), zm_iald (k := 0) zM_A238 ik, ck, hh, e8, zm_iald (k := 0) zM_A255 im, cm]
      · rw [a2]
        refine ⟨ν, ν 256 m, ze_in [(0, .ref 232), (1, .int (nI k)), (2, .int 2)] zq_Mod_areaOf (Nat.le_of_ble_eq_true rfl) rfl ⟨N1 + N2 + N3, 32, fun F n hF => ?_⟩, f.frs⟩
        simp [zi_go, zf_X6_areaOf, zi_ask, zi_new, zi_step, zi_ld, zi_lda, zi_cmp, zi_retOk, zi_isI, zi_f3, zi_cr, zi_ci, zi_cn, zi_get, zi_set, zM_g, cM, cM1, zq_Mod_isFloating, zq_Mod_layAll, zq_Mod_leafOf, E1 F (by omega), E2 F (by omega), E3 F (by omega), zm_iald (k := 0) zM_A238 ik, ck, hh, e8, zm_iald (k := 0) zM_A256 im, cm]
      · rw [a3]
        refine ⟨ν, ν 257 m, ze_in [(0, .ref 232), (1, .int (nI k)), (2, .int 3)] zq_Mod_areaOf (Nat.le_of_ble_eq_true rfl) rfl ⟨N1 + N2 + N3, 35, fun F n hF => ?_⟩, f.frs⟩
        simp [zi_go, zf_X6_areaOf, zi_ask, zi_new, zi_step, zi_ld, zi_lda, zi_cmp, zi_retOk, zi_isI, zi_f3, zi_cr, zi_ci, zi_cn, zi_get, zi_set, zM_g, cM, cM1, zq_Mod_isFloating, zq_Mod_layAll, zq_Mod_leafOf, E1 F (by omega), E2 F (by omega), E3 F (by omega), zm_iald (k := 0) zM_A238 ik, ck, hh, e8, zm_iald (k := 0) zM_A257 im, cm]
      · rw [a4]
        refine ⟨ν, ν 258 m, ze_in [(0, .ref 232), (1, .int (nI k)), (2, .int 4)] zq_Mod_areaOf (Nat.le_of_ble_eq_true rfl) rfl ⟨N1 + N2 + N3, 34, fun F n hF => ?_⟩, f.frs⟩
        simp [zi_go, zf_X6_areaOf, zi_ask, zi_new, zi_step, zi_ld, zi_lda, zi_cmp, zi_retOk, zi_isI, zi_f3, zi_cr, zi_ci, zi_cn, zi_get, zi_set, zM_g, cM, cM1, zq_Mod_isFloating, zq_Mod_layAll, zq_Mod_leafOf, E1 F (by omega), E2 F (by omega), E3 F (by omega), zm_iald (k := 0) zM_A238 ik, ck, hh, e8, zm_iald (k := 0) zM_A258 im, cm]
    · rw [if_pos (h.1.mpr c1)] at E1
      rcases (by omega : a = 1 ∨ a = 2 ∨ a = 3 ∨ a = 4) with rfl | rfl | rfl | rfl
      · rw [a1]
        refine ⟨μ, μ 239 k, ze_in [(0, .ref 232), (1, .int (nI k)), (2, .int 1)] zq_Mod_areaOf (Nat.le_of_ble_eq_true rfl) rfl ⟨N1, 15, fun F n hF => ?_⟩, zM_frs.refl⟩
        simp [zi_go, zf_X6_areaOf, zi_ask, zi_new, zi_step, zi_ld, zi_lda, zi_cmp, zi_retOk, zi_isI, zi_f3, zi_cr, zi_ci, zi_cn, zi_get, zi_set, zM_g, cM, zq_Mod_isFloating, E1 F (by omega), zm_iald (k := 0) zM_A239 ik, ck]
      · rw [a2]
        refine ⟨μ, μ 240 k, ze_in [(0, .ref 232), (1, .int (nI k)), (2, .int 2)] zq_Mod_areaOf (Nat.le_of_ble_eq_true rfl) rfl ⟨N1, 18, fun F n hF => ?_⟩, zM_frs.refl⟩
        simp [zi_go, zf_X6_areaOf, zi_ask, zi_new, zi_step, zi_ld, zi_lda, zi_cmp, zi_retOk, zi_isI, zi_f3, zi_cr, zi_ci, zi_cn, zi_get, zi_set, zM_g, cM, zq_Mod_isFloating, E1 F (by omega), zm_iald (k := 0) zM_A240 ik, ck]
      · rw [a3]
        refine ⟨μ, μ 235 k, ze_in [(0, .ref 232), (1, .int (nI k)), (2, .int 3)] zq_Mod_areaOf (Nat.le_of_ble_eq_true rfl) rfl ⟨N1, 21, fun F n hF => ?_⟩, zM_frs.refl⟩
        simp [zi_go, zf_X6_areaOf, zi_ask, zi_new, zi_step, zi_ld, zi_lda, zi_cmp, zi_retOk, zi_isI, zi_f3, zi_cr, zi_ci, zi_cn, zi_get, zi_set, zM_g, cM, zq_Mod_isFloating, E1 F (by omega), zm_iald (k := 0) zM_A235 ik, ck]
      · rw [a4]
        refine ⟨μ, μ 236 k, ze_in [(0, .ref 232), (1, .int (nI k)), (2, .int 4)] zq_Mod_areaOf (Nat.le_of_ble_eq_true rfl) rfl ⟨N1, 20, fun F n hF => ?_⟩, zM_frs.refl⟩
        simp [zi_go, zf_X6_areaOf, zi_ask, zi_new, zi_step, zi_ld, zi_lda, zi_cmp, zi_retOk, zi_isI, zi_f3, zi_cr, zi_ci, zi_cn, zi_get, zi_set, zM_g, cM, zq_Mod_isFloating, E1 F (by omega), zm_iald (k := 0) zM_A236 ik, ck]
set_option maxRecDepth 100000 in
theorem ze_MareaOf_s (D : Nat) (h : zR μ row stk us) {k : Nat} (hk : k < 10) (ht : ¬ μ 234 k = 0) {a : Nat} (ha : a < 5) : ∃ ν v, ze_E (D + 28) A_Mod_areaOf [.ref 232, .int (nI k), .int (nI a)] (zm_mk μ) (some (.int v)) (zm_mk ν) ∧ zM_frs μ ν :=
  ze_MareaOfG_s D hk ⟨zR_fl h hk ht, fun c => zR_til h hk c⟩ ha
set_option maxRecDepth 100000 in
theorem ze_Marea_s (D : Nat) (h : zR μ row stk us) (w x : Int32) : ∃ ν v, ze_E (D + 29) A_Mod_area [.ref 232, .int w, .int x] (zm_mk μ) (some (.int v)) (zm_mk ν) ∧ zM_frs μ ν := by
  have n4 : Int32.ofInt (-1000000001) = -1000000001 := by decide
  obtain ⟨lc, cM⟩ := zM_c (μ := μ)
  rcases zR_win (D + 26) h w with ⟨k, hk, rfl, c0, N1, E1⟩ | ⟨⟨N1, E1⟩, c0⟩
  · rcases zM_isIn (hp := zm_mk μ) (D + 27) x (n := 4) (b := 4) (by decide) (by decide) with ⟨a, ha, rfl, N2, E2⟩ | ⟨⟨N2, E2⟩, -⟩
    · obtain ⟨ν, v, ⟨N3, E3⟩, f⟩ := ze_MareaOf_s D h hk c0 ha
      refine ⟨ν, v, ze_in [(0, .ref 232), (1, .int (nI k)), (2, .int (nI a))] zq_Mod_area (Nat.le_of_ble_eq_true rfl) rfl ⟨N1 + N2 + N3, 15, fun F n hF => ?_⟩, f⟩
      simp [zi_go, zf_X6_area, zi_ask, zi_new, zi_step, zi_ld, zi_lda, zi_cmp, zi_retOk, zi_isI, zi_f3, zi_cr, zi_ci, zi_cn, zi_get, zi_set, cM, zq_Mod_isWindow, zq_Mod_isIn, zq_Mod_areaOf, E1 F (by omega), E2 F (by omega), E3 F (by omega)]
    · refine ⟨μ, -1000000001, ze_in [(0, .ref 232), (1, .int (nI k)), (2, .int x)] zq_Mod_area (Nat.le_of_ble_eq_true rfl) rfl ⟨N1 + N2, 11, fun F n hF => ?_⟩, zM_frs.refl⟩
      simp [zi_go, zf_X6_area, zi_ask, zi_new, zi_step, zi_ld, zi_lda, zi_cmp, zi_retOk, zi_isI, zi_f3, zi_cr, zi_ci, zi_cn, zi_get, zi_set, cM, zq_Mod_isWindow, zq_Mod_isIn, E1 F (by omega), E2 F (by omega), n4]
  · refine ⟨μ, -1000000001, ze_in [(0, .ref 232), (1, .int w), (2, .int x)] zq_Mod_area (Nat.le_of_ble_eq_true rfl) rfl ⟨N1, 6, fun F n hF => ?_⟩, zM_frs.refl⟩
    simp [zi_go, zf_X6_area, zi_ask, zi_new, zi_step, zi_ld, zi_lda, zi_cmp, zi_retOk, zi_isI, zi_f3, zi_cr, zi_ci, zi_cn, zi_get, zi_set, cM, zq_Mod_isWindow, E1 F (by omega), n4]
set_option maxRecDepth 100000 in
theorem ze_Mneighbour_s (D : Nat) (h : zR μ row stk us) (w x : Int32) : ∃ ν v, ze_E (D + 29) A_Mod_neighbour [.ref 232, .int w, .int x] (zm_mk μ) (some (.int v)) (zm_mk ν) ∧ zM_frs μ ν := by
  have n1 : Int32.ofInt (-1000000001) = -1000000001 := by decide
  have n2 : Int32.ofInt (-1000000002) = -1000000002 := by decide
  have n5 : Int32.ofInt (-1000000005) = -1000000005 := by decide
  obtain ⟨lc, cM⟩ := zM_c (μ := μ)
  rcases zR_win (D + 26) h w with ⟨k, hk, rfl, c0, N1, E1⟩ | ⟨⟨N1, E1⟩, c0⟩
  · rcases zM_isIn (hp := zm_mk μ) (D + 27) x (n := 3) (b := 3) (by decide) (by decide) with ⟨sd, hsd, rfl, N2, E2⟩ | ⟨⟨N2, E2⟩, -⟩
    · rcases zR_shn (D + 24) h hk with ⟨⟨N3, E3⟩, s, hs, c1, hh, -⟩ | ⟨⟨N3, E3⟩, -⟩
      · obtain ⟨ν, lo, -, -, f, ⟨-, N4, E4⟩ | ⟨i, hi, -, -, N4, E4⟩⟩ := zR_nbr D h hk hs hsd c1 hh
        · have m1 : ¬ (0 : Int32) ≤ -1 := by decide
          refine ⟨ν, -1000000005, ze_in [(0, .ref 232), (1, .int (nI k)), (2, .int (nI sd))] zq_Mod_neighbour (Nat.le_of_ble_eq_true rfl) rfl ⟨N1 + N2 + N3 + N4, 23, fun F n hF => ?_⟩, f.frs⟩
          simp [zi_go, zf_X6_neighbour, zi_ask, zi_new, zi_step, zi_ld, zi_lda, zi_cmp, zi_retOk, zi_isI, zi_f3, zi_cr, zi_ci, zi_cn, zi_get, zi_set, cM, zq_Mod_isWindow, zq_Mod_isIn, zq_Mod_isShown, zq_Mod_neighbourOf, E1 F (by omega), E2 F (by omega), E3 F (by omega), E4 F (by omega), m1, n5]
        · have m1 : (0 : Int32) ≤ nI i := Int32.not_lt.mp (nI_pos (by omega))
          refine ⟨ν, nI i, ze_in [(0, .ref 232), (1, .int (nI k)), (2, .int (nI sd))] zq_Mod_neighbour (Nat.le_of_ble_eq_true rfl) rfl ⟨N1 + N2 + N3 + N4, 22, fun F n hF => ?_⟩, f.frs⟩
          simp [zi_go, zf_X6_neighbour, zi_ask, zi_new, zi_step, zi_ld, zi_lda, zi_cmp, zi_retOk, zi_isI, zi_f3, zi_cr, zi_ci, zi_cn, zi_get, zi_set, cM, zq_Mod_isWindow, zq_Mod_isIn, zq_Mod_isShown, zq_Mod_neighbourOf, E1 F (by omega), E2 F (by omega), E3 F (by omega), E4 F (by omega), m1]
      · refine ⟨μ, -1000000002, ze_in [(0, .ref 232), (1, .int (nI k)), (2, .int (nI sd))] zq_Mod_neighbour (Nat.le_of_ble_eq_true rfl) rfl ⟨N1 + N2 + N3, 15, fun F n hF => ?_⟩, zM_frs.refl⟩
        simp [zi_go, zf_X6_neighbour, zi_ask, zi_new, zi_step, zi_ld, zi_lda, zi_cmp, zi_retOk, zi_isI, zi_f3, zi_cr, zi_ci, zi_cn, zi_get, zi_set, cM, zq_Mod_isWindow, zq_Mod_isIn, zq_Mod_isShown, E1 F (by omega), E2 F (by omega), E3 F (by omega), n2]
    · refine ⟨μ, -1000000001, ze_in [(0, .ref 232), (1, .int (nI k)), (2, .int x)] zq_Mod_neighbour (Nat.le_of_ble_eq_true rfl) rfl ⟨N1 + N2, 11, fun F n hF => ?_⟩, zM_frs.refl⟩
      simp [zi_go, zf_X6_neighbour, zi_ask, zi_new, zi_step, zi_ld, zi_lda, zi_cmp, zi_retOk, zi_isI, zi_f3, zi_cr, zi_ci, zi_cn, zi_get, zi_set, cM, zq_Mod_isWindow, zq_Mod_isIn, E1 F (by omega), E2 F (by omega), n1]
  · refine ⟨μ, -1000000001, ze_in [(0, .ref 232), (1, .int w), (2, .int x)] zq_Mod_neighbour (Nat.le_of_ble_eq_true rfl) rfl ⟨N1, 6, fun F n hF => ?_⟩, zM_frs.refl⟩
    simp [zi_go, zf_X6_neighbour, zi_ask, zi_new, zi_step, zi_ld, zi_lda, zi_cmp, zi_retOk, zi_isI, zi_f3, zi_cr, zi_ci, zi_cn, zi_get, zi_set, cM, zq_Mod_isWindow, E1 F (by omega), n1]
set_option maxRecDepth 100000 in
theorem ze_Mtold_s (D : Nat) (h : zR μ row stk us) (w x : Int32) : ∃ ν v, ze_E (D + 29) A_Mod_told [.ref 232, .int w, .int x] (zm_mk μ) (some (.int v)) (zm_mk ν) ∧ zM_frs μ ν := by
  have n1 : Int32.ofInt (-1000000001) = -1000000001 := by decide
  have n2 : Int32.ofInt (-1000000002) = -1000000002 := by decide
  have h6 : (Int8.ofInt 6).toInt32 = (6 : Int32) := by decide
  obtain ⟨lc, cM⟩ := zM_c (μ := μ)
  rcases zM_isIn (hp := zm_mk μ) (D + 27) w (n := 2) (b := 2) (by decide) (by decide) with ⟨s, hs, rfl, N1, E1⟩ | ⟨⟨N1, E1⟩, hno⟩
  · have hs : s < 3 := hs
    have is : zi_in (nI s) 3 = true := zm_in hs (by decide)
    have is7 : zi_in (nI s) 7 = true := zm_in (by omega) (by decide)
    have cs : (nI s).toNatClampNeg = s := nI_clamp (by omega)
    rcases zM_isIn (hp := zm_mk μ) (D + 27) x (n := 6) (b := 6) (by decide) (by decide) with ⟨a, ha, rfl, N2, E2⟩ | ⟨⟨N2, E2⟩, hno⟩
    · by_cases c0 : μ 232 s = 0
      · refine ⟨μ, -1000000002, ze_in [(0, .ref 232), (1, .int (nI s)), (2, .int (nI a))] zq_Mod_told (Nat.le_of_ble_eq_true rfl) rfl ⟨N1 + N2, 17, fun F n hF => ?_⟩, zM_frs.refl⟩
        simp [zi_go, zf_X6_told, zi_ask, zi_new, zi_step, zi_ld, zi_lda, zi_cmp, zi_retOk, zi_isI, zi_f3, zi_cr, zi_ci, zi_cn, zi_get, zi_set, zM_g, h6, zq_Mod_isIn, E1 F (by omega), E2 F (by omega), zm_iald (k := 0) zM_A232 is, cs, c0, n2]
      · obtain ⟨ab, hI⟩ := (h.2.2.2.2.1 s hs).1
        obtain ⟨ν, ⟨N3, E3⟩, -, f⟩ := ze_MclearLeaves (μ := μ) (D + 2) (τ := s) (by omega) hI
        have hR := h.fr f.fr
        obtain ⟨lc2, cM2⟩ := zM_c (μ := ν)
        have S0 : ze_S (D + 28) 5 (some .int) zc_X6_told 0 [(0, .ref 232), (1, .int (nI s)), (2, .int (nI a))] [] (zm_mk μ) 42 [(3, .int 0), (0, .ref 232), (1, .int (nI s)), (2, .int (nI a))] [.int (nI a)] (zm_mk ν) := by
          refine ⟨N1 + N2 + N3, 21, fun F n hF => ?_⟩
          simp [zi_go, zf_X6_told, zi_ask, zi_new, zi_step, zi_ld, zi_lda, zi_cmp, zi_retOk, zi_isI, zi_f3, zi_cr, zi_ci, zi_cn, zi_get, zi_set, zM_g, h6, cM, zq_Mod_isIn, zq_Mod_clearLeaves, E1 F (by omega), E2 F (by omega), E3 F (by omega), zm_iald (k := 0) zM_A232 is, cs, c0]
        have fin : ∃ v, ze_G (D + 28) 5 (some .int) zc_X6_told 42 [(3, .int 0), (0, .ref 232), (1, .int (nI s)), (2, .int (nI a))] [.int (nI a)] (zm_mk ν) (some (.int v)) (zm_mk ν) := by
          match a, ha with
          | 0, _ =>
            have t0 : (nI 0).toInt = 0 := by decide
            refine ⟨ν 232 s, 0, 6, fun F n hF => ?_⟩
            simp [zi_go, zf_X6_told, zi_ask, zi_new, zi_step, zi_ld, zi_lda, zi_cmp, zi_retOk, zi_isI, zi_f3, zi_cr, zi_ci, zi_cn, zi_get, zi_set, t0, zM_g, zm_iald (k := 0) zM_A232 is, cs]
          | 1, _ =>
            have t0 : (nI 1).toInt = 1 := by decide
            refine ⟨ν 233 s, 0, 6, fun F n hF => ?_⟩
            simp [zi_go, zf_X6_told, zi_ask, zi_new, zi_step, zi_ld, zi_lda, zi_cmp, zi_retOk, zi_isI, zi_f3, zi_cr, zi_ci, zi_cn, zi_get, zi_set, t0, zM_g, zm_iald (k := 0) zM_A233 is, cs]
          | 2, _ =>
            have t0 : (nI 2).toInt = 2 := by decide
            refine ⟨ν 231 30, 0, 4, fun F n hF => ?_⟩
            simp [zi_go, zf_X6_told, zi_ask, zi_new, zi_step, zi_ld, zi_lda, zi_cmp, zi_retOk, zi_isI, zi_f3, zi_cr, zi_ci, zi_cn, zi_get, zi_set, t0, zM_g]
          | 3, _ =>
            have t0 : (nI 3).toInt = 3 := by decide
            by_cases c : ν 231 30 ≤ 0
            · refine ⟨0, 0, 6, fun F n hF => ?_⟩
              simp [zi_go, zf_X6_told, zi_ask, zi_new, zi_step, zi_ld, zi_lda, zi_cmp, zi_retOk, zi_isI, zi_f3, zi_cr, zi_ci, zi_cn, zi_get, zi_set, t0, zM_g, c]
            · obtain ⟨d, hd⟩ := zv_opq (ν 231 30) 1
              refine ⟨d, 0, 10, fun F n hF => ?_⟩
              simp [zi_go, zf_X6_told, zi_ask, zi_new, zi_step, zi_ld, zi_lda, zi_cmp, zi_retOk, zi_isI, zi_f3, zi_cr, zi_ci, zi_cn, zi_get, zi_set, t0, zM_g, c, hd]
          | 4, _ =>
            have t0 : (nI 4).toInt = 4 := by decide
            by_cases c : 0 ≤ ν 243 s
            · obtain ⟨v, N4, E4⟩ := zR_least (D + 2) hR hs (a := 0) (by decide) (Int32.not_lt.mpr c)
              have q : nI (1 - 0) = 1 := by decide
              rw [q] at E4
              refine ⟨v, N4, 15, fun F n hF => ?_⟩
              simp [zi_go, zf_X6_told, zi_ask, zi_new, zi_step, zi_ld, zi_lda, zi_cmp, zi_retOk, zi_isI, zi_f3, zi_cr, zi_ci, zi_cn, zi_get, zi_set, t0, zM_g, cM2, zm_iald (k := 0) zM_A243 is7, cs, c, zq_Mod_least, E4 F (by omega)]
            · refine ⟨0, 0, 9, fun F n hF => ?_⟩
              simp [zi_go, zf_X6_told, zi_ask, zi_new, zi_step, zi_ld, zi_lda, zi_cmp, zi_retOk, zi_isI, zi_f3, zi_cr, zi_ci, zi_cn, zi_get, zi_set, t0, zM_g, zm_iald (k := 0) zM_A243 is7, cs, c]
          | 5, _ =>
            have t0 : (nI 5).toInt = 5 := by decide
            by_cases c : 0 ≤ ν 243 s
            · obtain ⟨v, N4, E4⟩ := zR_least (D + 2) hR hs (a := 1) (by decide) (Int32.not_lt.mpr c)
              have q : nI (1 - 1) = 0 := by decide
              rw [q] at E4
              refine ⟨v, N4, 15, fun F n hF => ?_⟩
              simp [zi_go, zf_X6_told, zi_ask, zi_new, zi_step, zi_ld, zi_lda, zi_cmp, zi_retOk, zi_isI, zi_f3, zi_cr, zi_ci, zi_cn, zi_get, zi_set, t0, zM_g, cM2, zm_iald (k := 0) zM_A243 is7, cs, c, zq_Mod_least, E4 F (by omega)]
            · refine ⟨0, 0, 9, fun F n hF => ?_⟩
              simp [zi_go, zf_X6_told, zi_ask, zi_new, zi_step, zi_ld, zi_lda, zi_cmp, zi_retOk, zi_isI, zi_f3, zi_cr, zi_ci, zi_cn, zi_get, zi_set, t0, zM_g, zm_iald (k := 0) zM_A243 is7, cs, c]
          | 6, _ =>
            have t0 : (nI 6).toInt = 6 := by decide
            obtain ⟨r, h', G, ⟨v, rfl⟩, rfl⟩ := zv_tdS (μ := ν) (D + 27) hs [(4, .int (nI 0)), (3, .int 0), (0, .ref 232), (1, .int (nI s)), (2, .int (nI 6))] rfl rfl rfl rfl rfl
            refine ⟨v, ze_S.end ⟨0, 3, fun F n hF => ?_⟩ G⟩
            simp [zi_go, zf_X6_told, zi_ask, zi_new, zi_step, zi_ld, zi_lda, zi_cmp, zi_retOk, zi_isI, zi_f3, zi_cr, zi_ci, zi_cn, zi_get, zi_set, t0, nI_0]
        obtain ⟨v, G⟩ := fin
        exact ⟨ν, v, ze_in [(0, .ref 232), (1, .int (nI s)), (2, .int (nI a))] zq_Mod_told (Nat.le_of_ble_eq_true rfl) rfl (S0.end G), f.frs⟩
    · refine ⟨μ, -1000000001, ze_in [(0, .ref 232), (1, .int (nI s)), (2, .int x)] zq_Mod_told (Nat.le_of_ble_eq_true rfl) rfl ⟨N1 + N2, 12, fun F n hF => ?_⟩, zM_frs.refl⟩
      simp [zi_go, zf_X6_told, zi_ask, zi_new, zi_step, zi_ld, zi_lda, zi_cmp, zi_retOk, zi_isI, zi_f3, zi_cr, zi_ci, zi_cn, zi_get, zi_set, h6, zq_Mod_isIn, E1 F (by omega), E2 F (by omega), n1]
  · refine ⟨μ, -1000000001, ze_in [(0, .ref 232), (1, .int w), (2, .int x)] zq_Mod_told (Nat.le_of_ble_eq_true rfl) rfl ⟨N1, 7, fun F n hF => ?_⟩, zM_frs.refl⟩
    simp [zi_go, zf_X6_told, zi_ask, zi_new, zi_step, zi_ld, zi_lda, zi_cmp, zi_retOk, zi_isI, zi_f3, zi_cr, zi_ci, zi_cn, zi_get, zi_set, zq_Mod_isIn, E1 F (by omega), n1]
set_option maxRecDepth 100000 in
theorem ze_Mtab_s (D : Nat) (h : zR μ row stk us) (w x y : Int32) : ∃ ν v, ze_E (D + 29) A_Mod_tab [.ref 232, .int w, .int x, .int y] (zm_mk μ) (some (.int v)) (zm_mk ν) ∧ zM_frs μ ν := by
  have n1 : Int32.ofInt (-1000000001) = -1000000001 := by decide
  have n2 : Int32.ofInt (-1000000002) = -1000000002 := by decide
  have n5 : Int32.ofInt (-1000000005) = -1000000005 := by decide
  have m2 : (Int8.ofInt (-2)).toInt32 = (-2 : Int32) := by decide
  have h10 : (Int8.ofInt 10).toInt32 = (10 : Int32) := by decide
  obtain ⟨lc, cM⟩ := zM_c (μ := μ)
  rcases zM_isIn (hp := zm_mk μ) (D + 27) w (n := 2) (b := 2) (by decide) (by decide) with ⟨s, hs, rfl, N1, E1⟩ | ⟨⟨N1, E1⟩, hno⟩
  · have hs : s < 3 := hs
    have is : zi_in (nI s) 3 = true := zm_in hs (by decide)
    have cs : (nI s).toNatClampNeg = s := nI_clamp (by omega)
    by_cases q1 : x < 0
    · refine ⟨μ, -1000000001, ze_in [(0, .ref 232), (1, .int (nI s)), (2, .int x), (3, .int y)] zq_Mod_tab (Nat.le_of_ble_eq_true rfl) rfl ⟨N1, 9, fun F n hF => ?_⟩, zM_frs.refl⟩
      simp [zi_go, zf_X6_tab, zi_ask, zi_new, zi_step, zi_ld, zi_lda, zi_cmp, zi_retOk, zi_isI, zi_f3, zi_cr, zi_ci, zi_cn, zi_get, zi_set, zq_Mod_isIn, E1 F (by omega), q1, n1]
    · by_cases q2 : -2 ≤ y
      · by_cases c0 : μ 232 s = 0
        · refine ⟨μ, -1000000002, ze_in [(0, .ref 232), (1, .int (nI s)), (2, .int x), (3, .int y)] zq_Mod_tab (Nat.le_of_ble_eq_true rfl) rfl ⟨N1, 17, fun F n hF => ?_⟩, zM_frs.refl⟩
          simp [zi_go, zf_X6_tab, zi_ask, zi_new, zi_step, zi_ld, zi_lda, zi_cmp, zi_retOk, zi_isI, zi_f3, zi_cr, zi_ci, zi_cn, zi_get, zi_set, zM_g, m2, zq_Mod_isIn, E1 F (by omega), q1, q2, zm_iald (k := 0) zM_A232 is, cs, c0, n2]
        · obtain ⟨ab, hI⟩ := (h.2.2.2.2.1 s hs).1
          obtain ⟨hndl, h24, hlen⟩ := zu_lvs_nodup hI
          obtain ⟨ν, ⟨N3, E3⟩, hl, f⟩ := ze_MclearLeaves (μ := μ) (D + 2) (τ := s) (by omega) hI
          have hR := h.fr f.fr
          obtain ⟨lc2, cM2⟩ := zM_c (μ := ν)
          have S0 : ze_S (D + 28) 5 (some .int) zc_X6_tab 0 [(0, .ref 232), (1, .int (nI s)), (2, .int x), (3, .int y)] [] (zm_mk μ) 39 [(0, .ref 232), (1, .int (nI s)), (2, .int x), (3, .int y)] [] (zm_mk ν) := by
            refine ⟨N1 + N3, 18, fun F n hF => ?_⟩
            simp [zi_go, zf_X6_tab, zi_ask, zi_new, zi_step, zi_ld, zi_lda, zi_cmp, zi_retOk, zi_isI, zi_f3, zi_cr, zi_ci, zi_cn, zi_get, zi_set, zM_g, m2, cM, zq_Mod_isIn, zq_Mod_clearLeaves, E1 F (by omega), E3 F (by omega), q1, q2, zm_iald (k := 0) zM_A232 is, cs, c0]
          by_cases q3 : x < nI (zy_lvs (us s)).length
          · obtain ⟨i, hi, rfl⟩ := zv_nI_of (Int32.not_lt.mp q1) q3 (by omega)
            have ii : zi_in (nI i) 24 = true := zm_in (by omega) (by decide)
            have ci : (nI i).toNatClampNeg = i := nI_clamp (by omega)
            have e2 := hl.2 i hi
            have hm := zl_mem hi
            have hm24 := h24 _ hm
            obtain ⟨ab2, hI2⟩ := (hR.2.2.2.2.1 s hs).1
            obtain ⟨t1, t2, t3⟩ := zu_I_tb hI2 hm
            generalize (zy_lvs (us s)).getD i 0 = m at e2 hm hm24 t1 t2 t3
            obtain ⟨N4, E4⟩ := ze_spot (h := zm_mk ν) (D + 27) (t := s) (n := m) (by omega)
            have iy : zi_in (nI (24 * s + m)) 168 = true := zm_in (by omega) (by decide)
            have cy : (nI (24 * s + m)).toNatClampNeg = 24 * s + m := nI_clamp (by omega)
            have S1 : ze_S (D + 28) 5 (some .int) zc_X6_tab 39 [(0, .ref 232), (1, .int (nI s)), (2, .int (nI i)), (3, .int y)] [] (zm_mk ν) 63 [(4, .int (nI (24 * s + m))), (0, .ref 232), (1, .int (nI s)), (2, .int (nI i)), (3, .int y)] [] (zm_mk ν) := by
              refine ⟨N4, 11, fun F n hF => ?_⟩
              simp [zi_go, zf_X6_tab, zi_ask, zi_new, zi_step, zi_ld, zi_lda, zi_cmp, zi_retOk, zi_isI, zi_f3, zi_cr, zi_ci, zi_cn, zi_get, zi_set, zM_g, hl.1, q3, zm_iald (k := 0) zM_A259 ii, ci, e2, zq_Mod_spot, E4 F (by omega)]
            have fin : ∃ v, ze_G (D + 28) 5 (some .int) zc_X6_tab 63 [(4, .int (nI (24 * s + m))), (0, .ref 232), (1, .int (nI s)), (2, .int (nI i)), (3, .int y)] [] (zm_mk ν) (some (.int v)) (zm_mk ν) := by
              by_cases q4 : 0 ≤ y
              · by_cases q5 : y < nI (zu_tb ν s m).length
                · have l10 := t1.1
                  obtain ⟨j, hj, rfl⟩ := zv_nI_of q4 q5 (by omega)
                  have mk : (10 : Int32) * nI (24 * s + m) = nI (10 * (24 * s + m)) := nI_mul10 (by omega)
                  have ij : zi_in (nI (10 * (24 * s + m) + j)) 1680 = true := zm_in (by omega) (by decide)
                  have cj : (nI (10 * (24 * s + m) + j)).toNatClampNeg = 10 * (24 * s + m) + j := nI_clamp (by omega)
                  have q5' : ¬ nI (zu_tb ν s m).length ≤ nI j := Int32.not_le.mpr q5
                  refine ⟨ν 248 (10 * (24 * s + m) + j), 0, 18, fun F n hF => ?_⟩
                  simp [zi_go, zf_X6_tab, zi_ask, zi_new, zi_step, zi_ld, zi_lda, zi_cmp, zi_retOk, zi_isI, zi_f3, zi_cr, zi_ci, zi_cn, zi_get, zi_set, zM_g, h10, q4, q5', zm_iald (k := 0) zM_A249 iy, cy, t1.2.1, mk, nI_add, zm_iald (k := 0) zM_A248 ij, cj]
                · have q5' : nI (zu_tb ν s m).length ≤ y := Int32.not_lt.mp q5
                  refine ⟨-1000000005, 0, 10, fun F n hF => ?_⟩
                  simp [zi_go, zf_X6_tab, zi_ask, zi_new, zi_step, zi_ld, zi_lda, zi_cmp, zi_retOk, zi_isI, zi_f3, zi_cr, zi_ci, zi_cn, zi_get, zi_set, zM_g, q4, q5', zm_iald (k := 0) zM_A249 iy, cy, t1.2.1, n5]
              · by_cases q6 : y = -1
                · subst q6
                  refine ⟨ν 249 (24 * s + m), 0, 11, fun F n hF => ?_⟩
                  simp [zi_go, zf_X6_tab, zi_ask, zi_new, zi_step, zi_ld, zi_lda, zi_cmp, zi_retOk, zi_isI, zi_f3, zi_cr, zi_ci, zi_cn, zi_get, zi_set, zM_g, q4, zm_iald (k := 0) zM_A249 iy, cy]
                · refine ⟨ν 250 (24 * s + m), 0, 10, fun F n hF => ?_⟩
                  simp [zi_go, zf_X6_tab, zi_ask, zi_new, zi_step, zi_ld, zi_lda, zi_cmp, zi_retOk, zi_isI, zi_f3, zi_cr, zi_ci, zi_cn, zi_get, zi_set, zM_g, q4, q6, zm_iald (k := 0) zM_A250 iy, cy]
            obtain ⟨v, G⟩ := fin
            exact ⟨ν, v, ze_in [(0, .ref 232), (1, .int (nI s)), (2, .int (nI i)), (3, .int y)] zq_Mod_tab (Nat.le_of_ble_eq_true rfl) rfl (S0.end (S1.end G)), f.frs⟩
          · refine ⟨ν, -1000000005, ze_in [(0, .ref 232), (1, .int (nI s)), (2, .int x), (3, .int y)] zq_Mod_tab (Nat.le_of_ble_eq_true rfl) rfl (S0.end ⟨0, 6, fun F n hF => ?_⟩), f.frs⟩
            simp [zi_go, zf_X6_tab, zi_ask, zi_new, zi_step, zi_ld, zi_lda, zi_cmp, zi_retOk, zi_isI, zi_f3, zi_cr, zi_ci, zi_cn, zi_get, zi_set, zM_g, hl.1, q3, n5]
      · refine ⟨μ, -1000000001, ze_in [(0, .ref 232), (1, .int (nI s)), (2, .int x), (3, .int y)] zq_Mod_tab (Nat.le_of_ble_eq_true rfl) rfl ⟨N1, 12, fun F n hF => ?_⟩, zM_frs.refl⟩
        simp [zi_go, zf_X6_tab, zi_ask, zi_new, zi_step, zi_ld, zi_lda, zi_cmp, zi_retOk, zi_isI, zi_f3, zi_cr, zi_ci, zi_cn, zi_get, zi_set, m2, zq_Mod_isIn, E1 F (by omega), q1, q2, n1]
  · refine ⟨μ, -1000000001, ze_in [(0, .ref 232), (1, .int w), (2, .int x), (3, .int y)] zq_Mod_tab (Nat.le_of_ble_eq_true rfl) rfl ⟨N1, 7, fun F n hF => ?_⟩, zM_frs.refl⟩
    simp [zi_go, zf_X6_tab, zi_ask, zi_new, zi_step, zi_ld, zi_lda, zi_cmp, zi_retOk, zi_isI, zi_f3, zi_cr, zi_ci, zi_cn, zi_get, zi_set, zq_Mod_isIn, E1 F (by omega), n1]
set_option maxRecDepth 100000 in
theorem ze_Mat_s (D : Nat) (h : zR μ row stk us) (w x y : Int32) : ∃ ν v, ze_E (D + 29) A_Mod_at [.ref 232, .int w, .int x, .int y] (zm_mk μ) (some (.int v)) (zm_mk ν) ∧ zM_frs μ ν := by
  have n1 : Int32.ofInt (-1000000001) = -1000000001 := by decide
  have n2 : Int32.ofInt (-1000000002) = -1000000002 := by decide
  obtain ⟨lc, cM⟩ := zM_c (μ := μ)
  rcases zM_isIn (hp := zm_mk μ) (D + 27) w (n := 2) (b := 2) (by decide) (by decide) with ⟨s, hs, rfl, N1, E1⟩ | ⟨⟨N1, E1⟩, hno⟩
  · have hs : s < 3 := hs
    have is : zi_in (nI s) 3 = true := zm_in hs (by decide)
    have cs : (nI s).toNatClampNeg = s := nI_clamp (by omega)
    by_cases c0 : μ 232 s = 0
    · refine ⟨μ, -1000000002, ze_in [(0, .ref 232), (1, .int (nI s)), (2, .int x), (3, .int y)] zq_Mod_at (Nat.le_of_ble_eq_true rfl) rfl ⟨N1, 12, fun F n hF => ?_⟩, zM_frs.refl⟩
      simp [zi_go, zf_X6_at, zi_ask, zi_new, zi_step, zi_ld, zi_lda, zi_cmp, zi_retOk, zi_isI, zi_f3, zi_cr, zi_ci, zi_cn, zi_get, zi_set, zM_g, zq_Mod_isIn, E1 F (by omega), zm_iald (k := 0) zM_A232 is, cs, c0, n2]
    · obtain ⟨d1, hd1⟩ := zv_opq (μ 232 s) 1
      obtain ⟨d2, hd2⟩ := zv_opq (μ 233 s) 1
      obtain ⟨N2, E2⟩ := ze_isIn (h := zm_mk μ) (D + 27) x 0 d1
      obtain ⟨N3, E3⟩ := ze_isIn (h := zm_mk μ) (D + 27) y 0 d2
      by_cases c1 : 0 ≤ x ∧ x ≤ d1
      · rw [if_pos c1] at E2
        by_cases c2 : 0 ≤ y ∧ y ≤ d2
        · rw [if_pos c2] at E3
          have hL := h.2.2.1.1
          have hb : ∀ k ∈ stk, k < 10 := fun k hk => ((h.2.2.1.2.2 k).mp hk).1
          have S0 : ze_S (D + 28) 6 (some .int) zc_X6_at 0 [(0, .ref 232), (1, .int (nI s)), (2, .int x), (3, .int y)] [] (zm_mk μ) 64 [(0, .ref 232), (1, .int (nI s)), (2, .int x), (3, .int y)] [.int 1, .int (nI stk.length)] (zm_mk μ) := by
            refine ⟨N1 + N2 + N3, 33, fun F n hF => ?_⟩
            simp [zi_go, zf_X6_at, zi_ask, zi_new, zi_step, zi_ld, zi_lda, zi_cmp, zi_retOk, zi_isI, zi_f3, zi_cr, zi_ci, zi_cn, zi_get, zi_set, zM_g, zq_Mod_isIn, E1 F (by omega), E2 F (by omega), E3 F (by omega), zm_iald (k := 0) zM_A232 is, zm_iald (k := 0) zM_A233 is, cs, c0, hd1, hd2, hL.2.1]
          have S1 := zv_at_1 (D + 28) hL.1 [(0, .ref 232), (1, .int (nI s)), (2, .int x), (3, .int y)] (zm_mk μ)
          rcases zv_atT (μ := μ) (D + 26) hs hL hb x y stk.length (Nat.le_refl _) (zi_set [(0, .ref 232), (1, .int (nI s)), (2, .int x), (3, .int y)] 4 (.int (zv_dn stk.length))) (zi_nl_i rfl) (zi_get_ne rfl (by decide)) (zi_get_ne rfl (by decide)) (zi_get_ne rfl (by decide)) (zi_get_ne rfl (by decide)) zi_get_set_eq with ⟨v, G⟩ | ⟨L', S2, nl', b0, b1, b2, b3⟩
          · exact ⟨μ, v, ze_in [(0, .ref 232), (1, .int (nI s)), (2, .int x), (3, .int y)] zq_Mod_at (Nat.le_of_ble_eq_true rfl) rfl (S0.end (S1.end G)), zM_frs.refl⟩
          · obtain ⟨ab, hI⟩ := (h.2.2.2.2.1 s hs).1
            obtain ⟨ν, ⟨N4, E4⟩, -, hl, f⟩ := ze_MlayAll (μ := μ) (D + 1) hs hI
            obtain ⟨hndl, h24, hlen⟩ := zu_lvs_nodup hI
            obtain ⟨r, h', G, ⟨v, rfl⟩, rfl⟩ := zv_atL (μ := ν) (D + 27) hs hl h24 hlen x y (zi_set L' 4 (.int (nI 0))) (zi_nl_i nl') ((zi_get_ne nl' (by decide)).trans b0) ((zi_get_ne nl' (by decide)).trans b1) ((zi_get_ne nl' (by decide)).trans b2) ((zi_get_ne nl' (by decide)).trans b3) zi_get_set_eq
            refine ⟨ν, v, ze_in [(0, .ref 232), (1, .int (nI s)), (2, .int x), (3, .int y)] zq_Mod_at (Nat.le_of_ble_eq_true rfl) rfl (S0.end (S1.end (S2.end (ze_S.end ⟨N4, 5, fun F n hF => ?_⟩ G)))), f.frs⟩
            simp [zi_go, zf_X6_at, zi_ask, zi_new, zi_step, zi_ld, zi_lda, zi_cmp, zi_retOk, zi_isI, zi_f3, zi_cr, zi_ci, zi_cn, b0, b1, cM, zq_Mod_layAll, E4 F (by omega), nI_0]
        · rw [if_neg c2] at E3
          refine ⟨μ, -1000000001, ze_in [(0, .ref 232), (1, .int (nI s)), (2, .int x), (3, .int y)] zq_Mod_at (Nat.le_of_ble_eq_true rfl) rfl ⟨N1 + N2 + N3, 32, fun F n hF => ?_⟩, zM_frs.refl⟩
          simp [zi_go, zf_X6_at, zi_ask, zi_new, zi_step, zi_ld, zi_lda, zi_cmp, zi_retOk, zi_isI, zi_f3, zi_cr, zi_ci, zi_cn, zi_get, zi_set, zM_g, zq_Mod_isIn, E1 F (by omega), E2 F (by omega), E3 F (by omega), zm_iald (k := 0) zM_A232 is, zm_iald (k := 0) zM_A233 is, cs, c0, hd1, hd2, n1]
      · rw [if_neg c1] at E2
        refine ⟨μ, -1000000001, ze_in [(0, .ref 232), (1, .int (nI s)), (2, .int x), (3, .int y)] zq_Mod_at (Nat.le_of_ble_eq_true rfl) rfl ⟨N1 + N2, 22, fun F n hF => ?_⟩, zM_frs.refl⟩
        simp [zi_go, zf_X6_at, zi_ask, zi_new, zi_step, zi_ld, zi_lda, zi_cmp, zi_retOk, zi_isI, zi_f3, zi_cr, zi_ci, zi_cn, zi_get, zi_set, zM_g, zq_Mod_isIn, E1 F (by omega), E2 F (by omega), zm_iald (k := 0) zM_A232 is, cs, c0, hd1, n1]
  · refine ⟨μ, -1000000001, ze_in [(0, .ref 232), (1, .int w), (2, .int x), (3, .int y)] zq_Mod_at (Nat.le_of_ble_eq_true rfl) rfl ⟨N1, 7, fun F n hF => ?_⟩, zM_frs.refl⟩
    simp [zi_go, zf_X6_at, zi_ask, zi_new, zi_step, zi_ld, zi_lda, zi_cmp, zi_retOk, zi_isI, zi_f3, zi_cr, zi_ci, zi_cn, zi_get, zi_set, zq_Mod_isIn, E1 F (by omega), n1]
set_option maxRecDepth 100000 in
theorem zv_stS_s (D : Nat) (h : zR μ row stk us) {k d : Nat} (hk : k < 10) (hd : d < 10) : ∀ (j sd : Nat) (L : zi_Lc) (ν : zm_M), sd + j = 4 → zi_nl L = true → zi_get L 0 = some (.ref 232) → zi_get L 3 = some (.int (nI d)) → zi_get L 4 = some (.int (nI k)) → zi_get L 5 = some (.int (nI sd)) → zM_frs μ ν → zv_far μ ν →
    ∃ L' ν', ze_S (D + 28) 7 (some .int) zc_X6_steps 89 L [] (zm_mk ν) 147 L' [] (zm_mk ν') ∧ zi_nl L' = true ∧ (∀ q, q ≠ 5 → q ≠ 6 → zi_get L' q = zi_get L q) ∧ zM_frs μ ν' ∧ zv_far μ ν' := by
  have ik : zi_in (nI k) 10 = true := zm_in hk (by decide)
  have ck : (nI k).toNatClampNeg = k := nI_clamp (by omega)
  intro j
  induction j with
  | zero =>
    intro sd L ν hj nl g0 g3 g4 g5 f hv
    have : sd = 4 := by omega
    subst this
    have c1 : (4 : Int32) ≤ nI 4 := by decide
    refine ⟨L, ν, ⟨0, 3, fun F m hF => ?_⟩, nl, fun _ _ _ => rfl, f, hv⟩
    simp (maxDischargeDepth := 9) [zi_go, zf_X6_steps, zi_ask, zi_new, zi_step, zi_ld, zi_lda, zi_cmp, zi_retOk, zi_isI, zi_f3, zi_cr, zi_ci, zi_cn, zi_get_ne, zi_nl_i, zi_nl_r, zi_get_set_eq, nl, g0, g3, g4, g5, c1]
  | succ j ih =>
    intro sd L ν hj nl g0 g3 g4 g5 f hv
    have c1 : ¬ (4 : Int32) ≤ nI sd := nI_ge (b := 4) (by omega) (by decide)
    by_cases c2 : ν 261 k = nI d
    · have ht : μ 234 k = 1 := (hv k hk).resolve_left (fun e => by rw [c2] at e; exact nI_pos (by omega) e)
      have hR := h.fr f.w
      obtain ⟨s, m, ab, hs, hh, -, -⟩ := zR_til h hk ht
      obtain ⟨lc, cM⟩ := zM_c (μ := ν)
      have e4 : ν 234 k = 1 := by rw [f _ _ (by omega) (by decide) (by decide) (by omega)]; exact ht
      have e8 : ν 238 k = nI s := by rw [f _ _ (by omega) (by decide) (by decide) (by omega)]; exact hh
      obtain ⟨ξ, lo, -, -, g, ⟨-, N4, E4⟩ | ⟨i, hi, hit, -, N4, E4⟩⟩ := zR_nbr D hR hk hs (by omega : sd < 4) e4 e8
      · have f' : zM_frs μ ξ := f.trans g.frs
        have hv' : zv_far μ ξ := fun q hq => by rw [g _ _ (by omega) (by omega)]; exact hv q hq
        have m1 : (-1 : Int32) < 0 := by decide
        obtain ⟨L', ν', S, nl', q1, q2, q3⟩ := ih (sd + 1) (zi_set (zi_set L 6 (.int (-1))) 5 (.int (nI (sd + 1)))) ξ (by omega) (by simp (maxDischargeDepth := 9) [zi_get_ne, zi_nl_i, zi_nl_r, zi_get_set_eq, nl]) (by simp (maxDischargeDepth := 9) [zi_get_ne, zi_nl_i, zi_nl_r, zi_get_set_eq, nl, g0]) (by simp (maxDischargeDepth := 9) [zi_get_ne, zi_nl_i, zi_nl_r, zi_get_set_eq, nl, g3]) (by simp (maxDischargeDepth := 9) [zi_get_ne, zi_nl_i, zi_nl_r, zi_get_set_eq, nl, g4]) zi_get_set_eq f' hv'
        refine ⟨L', ν', ze_S.trans ⟨N4, 18, fun F m hF => ?_⟩ S, nl', fun q a b => ?_, q2, q3⟩
        · simp (maxDischargeDepth := 9) [zi_go, zf_X6_steps, zi_ask, zi_new, zi_step, zi_ld, zi_lda, zi_cmp, zi_retOk, zi_isI, zi_f3, zi_cr, zi_ci, zi_cn, zi_get_ne, zi_nl_i, zi_nl_r, zi_get_set_eq, nl, g0, g3, g4, g5, c1, zM_g, zm_iald (k := 0) zM_A261 ik, ck, c2, cM, zq_Mod_neighbourOf, E4 F (by omega), m1, nI_1]
        · rw [q1 q a b]
          simp (maxDischargeDepth := 9) [zi_get_ne, zi_nl_i, zi_nl_r, zi_get_set_eq, nl, a, b]
      · have f' : zM_frs μ ξ := f.trans g.frs
        have hv' : zv_far μ ξ := fun q hq => by rw [g _ _ (by omega) (by omega)]; exact hv q hq
        have m1 : ¬ nI i < 0 := nI_pos (by omega)
        have ii : zi_in (nI i) 10 = true := zm_in hi (by decide)
        have ci : (nI i).toNatClampNeg = i := nI_clamp (by omega)
        rw [f _ _ (by omega) (by decide) (by decide) (by omega)] at hit
        by_cases c3 : 0 ≤ ξ 261 i
        · obtain ⟨L', ν', S, nl', q1, q2, q3⟩ := ih (sd + 1) (zi_set (zi_set L 6 (.int (nI i))) 5 (.int (nI (sd + 1)))) ξ (by omega) (by simp (maxDischargeDepth := 9) [zi_get_ne, zi_nl_i, zi_nl_r, zi_get_set_eq, nl]) (by simp (maxDischargeDepth := 9) [zi_get_ne, zi_nl_i, zi_nl_r, zi_get_set_eq, nl, g0]) (by simp (maxDischargeDepth := 9) [zi_get_ne, zi_nl_i, zi_nl_r, zi_get_set_eq, nl, g3]) (by simp (maxDischargeDepth := 9) [zi_get_ne, zi_nl_i, zi_nl_r, zi_get_set_eq, nl, g4]) zi_get_set_eq f' hv'
          refine ⟨L', ν', ze_S.trans ⟨N4, 23, fun F m hF => ?_⟩ S, nl', fun q a b => ?_, q2, q3⟩
          · simp (maxDischargeDepth := 9) [zi_go, zf_X6_steps, zi_ask, zi_new, zi_step, zi_ld, zi_lda, zi_cmp, zi_retOk, zi_isI, zi_f3, zi_cr, zi_ci, zi_cn, zi_get_ne, zi_nl_i, zi_nl_r, zi_get_set_eq, nl, g0, g3, g4, g5, c1, zM_g, zm_iald (k := 0) zM_A261 ik, zm_iald (k := 0) zM_A261 ii, ck, ci, c2, c3, cM, zq_Mod_neighbourOf, E4 F (by omega), m1, nI_1]
          · rw [q1 q a b]
            simp (maxDischargeDepth := 9) [zi_get_ne, zi_nl_i, zi_nl_r, zi_get_set_eq, nl, a, b]
        · have f2 : zM_frs μ (zm_up ξ 261 i (nI (d + 1))) := f'.trans (fun c e _ _ _ a => zm_up_ne (by omega))
          have hv2 : zv_far μ (zm_up ξ 261 i (nI (d + 1))) := fun q hq => by
            by_cases e : q = i
            · rw [e]; exact Or.inr hit
            · rw [zm_up_ne (by omega)]; exact hv' q hq
          obtain ⟨L', ν', S, nl', q1, q2, q3⟩ := ih (sd + 1) (zi_set (zi_set L 6 (.int (nI i))) 5 (.int (nI (sd + 1)))) _ (by omega) (by simp (maxDischargeDepth := 9) [zi_get_ne, zi_nl_i, zi_nl_r, zi_get_set_eq, nl]) (by simp (maxDischargeDepth := 9) [zi_get_ne, zi_nl_i, zi_nl_r, zi_get_set_eq, nl, g0]) (by simp (maxDischargeDepth := 9) [zi_get_ne, zi_nl_i, zi_nl_r, zi_get_set_eq, nl, g3]) (by simp (maxDischargeDepth := 9) [zi_get_ne, zi_nl_i, zi_nl_r, zi_get_set_eq, nl, g4]) zi_get_set_eq f2 hv2
          refine ⟨L', ν', ze_S.trans ⟨N4, 30, fun F m hF => ?_⟩ S, nl', fun q a b => ?_, q2, q3⟩
          · simp (maxDischargeDepth := 9) [zi_go, zf_X6_steps, zi_ask, zi_new, zi_step, zi_ld, zi_lda, zi_cmp, zi_retOk, zi_isI, zi_f3, zi_cr, zi_ci, zi_cn, zi_get_ne, zi_nl_i, zi_nl_r, zi_get_set_eq, nl, g0, g3, g4, g5, c1, zM_g, zm_iald (k := 0) zM_A261 ik, zm_iald (k := 0) zM_A261 ii, zm_iast zM_A261 ii, ck, ci, c2, c3, cM, zq_Mod_neighbourOf, E4 F (by omega), m1, nI_1]
          · rw [q1 q a b]
            simp (maxDischargeDepth := 9) [zi_get_ne, zi_nl_i, zi_nl_r, zi_get_set_eq, nl, a, b]
    · refine ⟨L, ν, ⟨0, 9, fun F m hF => ?_⟩, nl, fun _ _ _ => rfl, f, hv⟩
      simp (maxDischargeDepth := 9) [zi_go, zf_X6_steps, zi_ask, zi_new, zi_step, zi_ld, zi_lda, zi_cmp, zi_retOk, zi_isI, zi_f3, zi_cr, zi_ci, zi_cn, zi_get_ne, zi_nl_i, zi_nl_r, zi_get_set_eq, nl, g0, g3, g4, g5, c1, zM_g, zm_iald (k := 0) zM_A261 ik, ck, c2]
set_option maxRecDepth 100000 in
theorem zv_stK_s (D : Nat) (h : zR μ row stk us) {d b : Nat} (hd : d < 10) {ν0 : zm_M} (f0 : zM_frs μ ν0) (v0 : zv_far μ ν0) (L0 : zi_Lc) (nl0 : zi_nl L0 = true) (a0 : zi_get L0 0 = some (.ref 232)) (a2 : zi_get L0 2 = some (.int (nI b))) (a3 : zi_get L0 3 = some (.int (nI d))) (a4 : zi_get L0 4 = some (.int (nI 0))) :
    ∃ L' h', ze_S (D + 28) 7 (some .int) zc_X6_steps 79 L0 [] (zm_mk ν0) 153 L' [] h' ∧ (zi_nl L' = true ∧ zi_get L' 0 = some (.ref 232) ∧ zi_get L' 2 = some (.int (nI b)) ∧ zi_get L' 3 = some (.int (nI d)) ∧ ∃ ν, zm_mk ν = h' ∧ zM_frs μ ν ∧ zv_far μ ν) := by
  have h10 : (Int8.ofInt 10).toInt32 = (10 : Int32) := by decide
  refine ze_loopS (Q := fun i L hp => i ≤ 10 ∧ zi_nl L = true ∧ zi_get L 0 = some (.ref 232) ∧ zi_get L 2 = some (.int (nI b)) ∧ zi_get L 3 = some (.int (nI d)) ∧ zi_get L 4 = some (.int (nI i)) ∧ ∃ ξ : zm_M, zm_mk ξ = hp ∧ (zM_frs μ ξ) ∧ (zv_far μ ξ) ∧ (True)) (R := fun L' h' => zi_nl L' = true ∧ zi_get L' 0 = some (.ref 232) ∧ zi_get L' 2 = some (.int (nI b)) ∧ zi_get L' 3 = some (.int (nI d)) ∧ ∃ ν, zm_mk ν = h' ∧ zM_frs μ ν ∧ zv_far μ ν) 10 ?_ ?_ 10 0 _ _ (by omega) ⟨by omega, nl0, a0, a2, a3, a4, ν0, rfl, f0, v0, trivial⟩
  · rintro i L _ hi ⟨-, nl, g0, g2, g3, g4, ξ, rfl, f1, f2, hq⟩
    have c1 : ¬ (10 : Int32) ≤ nI i := nI_ge (b := 10) hi (by decide)
    obtain ⟨L', ν', S, nl', q1, q2, q3⟩ := zv_stS_s D h hi hd 4 0 (zi_set L 5 (.int (nI 0))) ξ rfl (by simp (maxDischargeDepth := 9) [zi_get_ne, zi_nl_i, zi_nl_r, zi_get_set_eq, nl]) (by simp (maxDischargeDepth := 9) [zi_get_ne, zi_nl_i, zi_nl_r, zi_get_set_eq, nl, g0]) (by simp (maxDischargeDepth := 9) [zi_get_ne, zi_nl_i, zi_nl_r, zi_get_set_eq, nl, g3]) (by simp (maxDischargeDepth := 9) [zi_get_ne, zi_nl_i, zi_nl_r, zi_get_set_eq, nl, g4]) zi_get_set_eq f1 f2
    have b0 : zi_get L' 0 = some (.ref 232) := by
      rw [q1 0 (by decide) (by decide)]
      simp (maxDischargeDepth := 9) [zi_get_ne, zi_nl_i, zi_nl_r, zi_get_set_eq, nl, g0]
    have b2 : zi_get L' 2 = some (.int (nI b)) := by
      rw [q1 2 (by decide) (by decide)]
      simp (maxDischargeDepth := 9) [zi_get_ne, zi_nl_i, zi_nl_r, zi_get_set_eq, nl, g2]
    have b3 : zi_get L' 3 = some (.int (nI d)) := by
      rw [q1 3 (by decide) (by decide)]
      simp (maxDischargeDepth := 9) [zi_get_ne, zi_nl_i, zi_nl_r, zi_get_set_eq, nl, g3]
    have b4 : zi_get L' 4 = some (.int (nI i)) := by
      rw [q1 4 (by decide) (by decide)]
      simp (maxDischargeDepth := 9) [zi_get_ne, zi_nl_i, zi_nl_r, zi_get_set_eq, nl, g4]
    refine ⟨zi_set L' 4 (.int (nI (i + 1))), zm_mk ν', ze_S.trans ⟨0, 5, fun F m hF => ?_⟩ (S.trans ⟨0, 2, fun F m hF => ?_⟩), by omega, ?_, ?_, ?_, ?_, zi_get_set_eq, ν', rfl, q2, q3, trivial⟩
    · simp (maxDischargeDepth := 9) [zi_go, zf_X6_steps, zi_ask, zi_new, zi_step, zi_ld, zi_lda, zi_cmp, zi_retOk, zi_isI, zi_f3, zi_cr, zi_ci, zi_cn, zi_get_ne, zi_nl_i, zi_nl_r, zi_get_set_eq, nl, g0, g2, g3, g4, h10, c1, nI_0]
    · have nl := nl'
      simp (maxDischargeDepth := 9) [zi_go, zf_X6_steps, zi_ask, zi_new, zi_step, zi_ld, zi_lda, zi_cmp, zi_retOk, zi_isI, zi_f3, zi_cr, zi_ci, zi_cn, zi_get_ne, zi_nl_i, zi_nl_r, zi_get_set_eq, nl, b0, b2, b3, b4, nI_1]
    · have nl := nl'
      simp (maxDischargeDepth := 9) [zi_get_ne, zi_nl_i, zi_nl_r, zi_get_set_eq, nl]
    · have nl := nl'
      simp (maxDischargeDepth := 9) [zi_get_ne, zi_nl_i, zi_nl_r, zi_get_set_eq, nl, b0]
    · have nl := nl'
      simp (maxDischargeDepth := 9) [zi_get_ne, zi_nl_i, zi_nl_r, zi_get_set_eq, nl, b2]
    · have nl := nl'
      simp (maxDischargeDepth := 9) [zi_get_ne, zi_nl_i, zi_nl_r, zi_get_set_eq, nl, b3]
  · rintro L _ ⟨-, nl, g0, g2, g3, g4, ξ, rfl, f1, f2, hq⟩
    have c1 : (10 : Int32) ≤ nI 10 := by decide
    refine ⟨L, zm_mk ξ, ⟨0, 3, fun F m hF => ?_⟩, nl, g0, g2, g3, ξ, rfl, f1, f2⟩
    simp (maxDischargeDepth := 9) [zi_go, zf_X6_steps, zi_ask, zi_new, zi_step, zi_ld, zi_lda, zi_cmp, zi_retOk, zi_isI, zi_f3, zi_cr, zi_ci, zi_cn, zi_get_ne, zi_nl_i, zi_nl_r, zi_get_set_eq, nl, g0, g2, g3, g4, h10, c1, nI_1]
set_option maxRecDepth 100000 in
theorem zv_stD_s (D : Nat) (h : zR μ row stk us) {b : Nat} {ν0 : zm_M} (f0 : zM_frs μ ν0) (v0 : zv_far μ ν0) (L0 : zi_Lc) (nl0 : zi_nl L0 = true) (a0 : zi_get L0 0 = some (.ref 232)) (a2 : zi_get L0 2 = some (.int (nI b))) (a3 : zi_get L0 3 = some (.int (nI 0))) :
    ∃ L' h', ze_S (D + 28) 7 (some .int) zc_X6_steps 70 L0 [] (zm_mk ν0) 159 L' [] h' ∧ (zi_nl L' = true ∧ zi_get L' 0 = some (.ref 232) ∧ zi_get L' 2 = some (.int (nI b)) ∧ ∃ ν, zm_mk ν = h' ∧ zM_frs μ ν) := by
  have h10 : (Int8.ofInt 10).toInt32 = (10 : Int32) := by decide
  refine ze_loopS (Q := fun i L hp => i ≤ 10 ∧ zi_nl L = true ∧ zi_get L 0 = some (.ref 232) ∧ zi_get L 2 = some (.int (nI b)) ∧ zi_get L 3 = some (.int (nI i)) ∧ ∃ ξ : zm_M, zm_mk ξ = hp ∧ (zM_frs μ ξ) ∧ (zv_far μ ξ) ∧ (True)) (R := fun L' h' => zi_nl L' = true ∧ zi_get L' 0 = some (.ref 232) ∧ zi_get L' 2 = some (.int (nI b)) ∧ ∃ ν, zm_mk ν = h' ∧ zM_frs μ ν) 10 ?_ ?_ 10 0 _ _ (by omega) ⟨by omega, nl0, a0, a2, a3, ν0, rfl, f0, v0, trivial⟩
  · rintro i L _ hi ⟨-, nl, g0, g2, g3, ξ, rfl, f1, f2, hq⟩
    have c1 : ¬ (10 : Int32) ≤ nI i := nI_ge (b := 10) hi (by decide)
    obtain ⟨L', h', S, nl', b0, b2, b3, ν', rfl, q2, q3⟩ := zv_stK_s (b := b) D h hi f1 f2 (zi_set L 4 (.int (nI 0))) (by simp (maxDischargeDepth := 9) [zi_get_ne, zi_nl_i, zi_nl_r, zi_get_set_eq, nl]) (by simp (maxDischargeDepth := 9) [zi_get_ne, zi_nl_i, zi_nl_r, zi_get_set_eq, nl, g0]) (by simp (maxDischargeDepth := 9) [zi_get_ne, zi_nl_i, zi_nl_r, zi_get_set_eq, nl, g2]) (by simp (maxDischargeDepth := 9) [zi_get_ne, zi_nl_i, zi_nl_r, zi_get_set_eq, nl, g3]) zi_get_set_eq
    refine ⟨zi_set L' 3 (.int (nI (i + 1))), zm_mk ν', ze_S.trans ⟨0, 5, fun F m hF => ?_⟩ (S.trans ⟨0, 2, fun F m hF => ?_⟩), by omega, ?_, ?_, ?_, zi_get_set_eq, ν', rfl, q2, q3, trivial⟩
    · simp (maxDischargeDepth := 9) [zi_go, zf_X6_steps, zi_ask, zi_new, zi_step, zi_ld, zi_lda, zi_cmp, zi_retOk, zi_isI, zi_f3, zi_cr, zi_ci, zi_cn, zi_get_ne, zi_nl_i, zi_nl_r, zi_get_set_eq, nl, g0, g2, g3, h10, c1, nI_0]
    · have nl := nl'
      simp (maxDischargeDepth := 9) [zi_go, zf_X6_steps, zi_ask, zi_new, zi_step, zi_ld, zi_lda, zi_cmp, zi_retOk, zi_isI, zi_f3, zi_cr, zi_ci, zi_cn, zi_get_ne, zi_nl_i, zi_nl_r, zi_get_set_eq, nl, b0, b2, b3, nI_1]
    · have nl := nl'
      simp (maxDischargeDepth := 9) [zi_get_ne, zi_nl_i, zi_nl_r, zi_get_set_eq, nl]
    · have nl := nl'
      simp (maxDischargeDepth := 9) [zi_get_ne, zi_nl_i, zi_nl_r, zi_get_set_eq, nl, b0]
    · have nl := nl'
      simp (maxDischargeDepth := 9) [zi_get_ne, zi_nl_i, zi_nl_r, zi_get_set_eq, nl, b2]
  · rintro L _ ⟨-, nl, g0, g2, g3, ξ, rfl, f1, f2, hq⟩
    have c1 : (10 : Int32) ≤ nI 10 := by decide
    refine ⟨L, zm_mk ξ, ⟨0, 3, fun F m hF => ?_⟩, nl, g0, g2, ξ, rfl, f1⟩
    simp (maxDischargeDepth := 9) [zi_go, zf_X6_steps, zi_ask, zi_new, zi_step, zi_ld, zi_lda, zi_cmp, zi_retOk, zi_isI, zi_f3, zi_cr, zi_ci, zi_cn, zi_get_ne, zi_nl_i, zi_nl_r, zi_get_set_eq, nl, g0, g2, g3, h10, c1, nI_1]
set_option maxRecDepth 100000 in
theorem ze_Msteps_s (D : Nat) (h : zR μ row stk us) (w x : Int32) : ∃ ν v, ze_E (D + 29) A_Mod_steps [.ref 232, .int w, .int x] (zm_mk μ) (some (.int v)) (zm_mk ν) ∧ zM_frs μ ν := by
  have n1 : Int32.ofInt (-1000000001) = -1000000001 := by decide
  have n2 : Int32.ofInt (-1000000002) = -1000000002 := by decide
  have n5 : Int32.ofInt (-1000000005) = -1000000005 := by decide
  obtain ⟨lc, cM⟩ := zM_c (μ := μ)
  rcases zR_win (D + 26) h w with ⟨a, ha, rfl, a0, N1, E1⟩ | ⟨⟨N1, E1⟩, c0⟩
  · rcases zR_win (D + 26) h x with ⟨b, hb, rfl, b0, N2, E2⟩ | ⟨⟨N2, E2⟩, c0⟩
    · rcases zR_shn (D + 24) h ha with ⟨⟨N3, E3⟩, s, hs, c1, -⟩ | ⟨⟨N3, E3⟩, -⟩
      · rcases zR_shn (D + 24) h hb with ⟨⟨N4, E4⟩, -⟩ | ⟨⟨N4, E4⟩, -⟩
        · obtain ⟨L1, h1, S1, nl1, p0, p2, ν1, rfl, f1, f2⟩ := zv_stF (μ := μ) (b := b) (D + 28) ha [(3, .int (nI 0)), (0, .ref 232), (1, .int (nI a)), (2, .int (nI b))] rfl rfl rfl rfl rfl
          have g1 : zM_frs μ ν1 := fun c e _ _ _ q => f1 c e (by omega)
          have v1 : zv_far μ ν1 := fun j hj => (f2 j hj).imp id (fun e => by rw [e]; exact c1)
          obtain ⟨L2, h2, S2, nl2, q0, q2, ν2, rfl, g2⟩ := zv_stD_s (b := b) D h g1 v1 (zi_set L1 3 (.int (nI 0))) (zi_nl_i nl1) ((zi_get_ne nl1 (by decide)).trans p0) ((zi_get_ne nl1 (by decide)).trans p2) zi_get_set_eq
          have ib : zi_in (nI b) 10 = true := zm_in hb (by decide)
          have cb : (nI b).toNatClampNeg = b := nI_clamp (by omega)
          have S3 : ze_S (D + 28) 7 (some .int) zc_X6_steps 68 L1 [] (zm_mk ν1) 70 (zi_set L1 3 (.int (nI 0))) [] (zm_mk ν1) := by
            refine ⟨0, 2, fun F m hF => ?_⟩
            simp [zi_go, zf_X6_steps, zi_ask, zi_new, zi_step, zi_ld, zi_lda, zi_cmp, zi_retOk, zi_isI, zi_f3, zi_cr, zi_ci, zi_cn, nI_0]
          have S0 : ze_S (D + 28) 7 (some .int) zc_X6_steps 0 [(0, .ref 232), (1, .int (nI a)), (2, .int (nI b))] [] (zm_mk μ) 40 [(3, .int (nI 0)), (0, .ref 232), (1, .int (nI a)), (2, .int (nI b))] [] (zm_mk μ) := by
            refine ⟨N1 + N2 + N3 + N4, 18, fun F m hF => ?_⟩
            simp [zi_go, zf_X6_steps, zi_ask, zi_new, zi_step, zi_ld, zi_lda, zi_cmp, zi_retOk, zi_isI, zi_f3, zi_cr, zi_ci, zi_cn, zi_get, zi_set, cM, zq_Mod_isWindow, zq_Mod_isShown, E1 F (by omega), E2 F (by omega), E3 F (by omega), E4 F (by omega), nI_0]
          by_cases c5 : ν2 261 b < 0
          · have c5' : ¬ 0 ≤ ν2 261 b := Int32.not_le.mpr c5
            refine ⟨ν2, -1000000005, ze_in [(0, .ref 232), (1, .int (nI a)), (2, .int (nI b))] zq_Mod_steps (Nat.le_of_ble_eq_true rfl) rfl (S0.end (S1.end (S3.end (S2.end ⟨0, 8, fun F m hF => ?_⟩)))), g2⟩
            simp [zi_go, zf_X6_steps, zi_ask, zi_new, zi_step, zi_ld, zi_lda, zi_cmp, zi_retOk, zi_isI, zi_f3, zi_cr, zi_ci, zi_cn, q0, q2, zM_g, zm_iald (k := 0) zM_A261 ib, cb, c5', n5]
          · have c5' : 0 ≤ ν2 261 b := Int32.not_lt.mp c5
            refine ⟨ν2, ν2 261 b, ze_in [(0, .ref 232), (1, .int (nI a)), (2, .int (nI b))] zq_Mod_steps (Nat.le_of_ble_eq_true rfl) rfl (S0.end (S1.end (S3.end (S2.end ⟨0, 10, fun F m hF => ?_⟩)))), g2⟩
            simp [zi_go, zf_X6_steps, zi_ask, zi_new, zi_step, zi_ld, zi_lda, zi_cmp, zi_retOk, zi_isI, zi_f3, zi_cr, zi_ci, zi_cn, q0, q2, zM_g, zm_iald (k := 0) zM_A261 ib, cb, c5']
        · refine ⟨μ, -1000000002, ze_in [(0, .ref 232), (1, .int (nI a)), (2, .int (nI b))] zq_Mod_steps (Nat.le_of_ble_eq_true rfl) rfl ⟨N1 + N2 + N3 + N4, 18, fun F n hF => ?_⟩, zM_frs.refl⟩
          simp [zi_go, zf_X6_steps, zi_ask, zi_new, zi_step, zi_ld, zi_lda, zi_cmp, zi_retOk, zi_isI, zi_f3, zi_cr, zi_ci, zi_cn, zi_get, zi_set, cM, zq_Mod_isWindow, zq_Mod_isShown, E1 F (by omega), E2 F (by omega), E3 F (by omega), E4 F (by omega), n2]
      · refine ⟨μ, -1000000002, ze_in [(0, .ref 232), (1, .int (nI a)), (2, .int (nI b))] zq_Mod_steps (Nat.le_of_ble_eq_true rfl) rfl ⟨N1 + N2 + N3, 14, fun F n hF => ?_⟩, zM_frs.refl⟩
        simp [zi_go, zf_X6_steps, zi_ask, zi_new, zi_step, zi_ld, zi_lda, zi_cmp, zi_retOk, zi_isI, zi_f3, zi_cr, zi_ci, zi_cn, zi_get, zi_set, cM, zq_Mod_isWindow, zq_Mod_isShown, E1 F (by omega), E2 F (by omega), E3 F (by omega), n2]
    · refine ⟨μ, -1000000001, ze_in [(0, .ref 232), (1, .int (nI a)), (2, .int x)] zq_Mod_steps (Nat.le_of_ble_eq_true rfl) rfl ⟨N1 + N2, 10, fun F n hF => ?_⟩, zM_frs.refl⟩
      simp [zi_go, zf_X6_steps, zi_ask, zi_new, zi_step, zi_ld, zi_lda, zi_cmp, zi_retOk, zi_isI, zi_f3, zi_cr, zi_ci, zi_cn, zi_get, zi_set, cM, zq_Mod_isWindow, E1 F (by omega), E2 F (by omega), n1]
  · refine ⟨μ, -1000000001, ze_in [(0, .ref 232), (1, .int w), (2, .int x)] zq_Mod_steps (Nat.le_of_ble_eq_true rfl) rfl ⟨N1, 6, fun F n hF => ?_⟩, zM_frs.refl⟩
    simp [zi_go, zf_X6_steps, zi_ask, zi_new, zi_step, zi_ld, zi_lda, zi_cmp, zi_retOk, zi_isI, zi_f3, zi_cr, zi_ci, zi_cn, zi_get, zi_set, cM, zq_Mod_isWindow, E1 F (by omega), n1]
end ZXS
