/-! places: what area answers -/
/-- what the class's area answers -/
def zd_arv (μ ν : zm_M) (Rs : Nat → List Nat) (ts : Nat → zy_F) (w x v : Int32) : Prop :=
  (v = -1000000001 ∧ ¬ ∃ k a, k < 10 ∧ a < 5 ∧ w = nI k ∧ x = nI a ∧ zd_th μ k = true) ∨ ∃ k a, k < 10 ∧ a < 5 ∧ w = nI k ∧ x = nI a ∧ zd_th μ k = true ∧ (∀ q, q < 3 → zd_laid ν q (Rs q) (ts q)) ∧
    (a = 0 → v = if zd_sti ν k = true then -1000000005 else ν (zdW k) 5) ∧ (¬ a = 0 → v = if a < 3 then zd_sto ν k (a - 1) else zd_lno ν k (a - 3))
def zv_arv (μ : zm_M) (us : Nat → zy_F) (w x v : Int32) : Prop :=
  (v = -1000000001 ∧ ¬ ∃ k a, k < 10 ∧ a < 5 ∧ w = nI k ∧ x = nI a ∧ ¬ μ 234 k = 0) ∨ ∃ k a, k < 10 ∧ a < 5 ∧ w = nI k ∧ x = nI a ∧ ¬ μ 234 k = 0 ∧ zv_av μ us k a v
section ZXB
variable {μ ν M : zm_M} {row stk ord : List Nat} {Rs : Nat → List Nat} {ts us : Nat → zy_F} {k s : Nat}
set_option maxRecDepth 100000 in
theorem ze_area_v (D : Nat) (h : zJ μ row stk Rs ts) (w x : Int32) : ∃ ν v, ze_E (D + 7) A_Desk_area [.ref 1, .int w, .int x] (zm_mk μ) (some (.int v)) (zm_mk ν) ∧ zJ_eqs μ ν ∧ zd_arv μ ν Rs ts w x v := by
  have n4 : Int32.ofInt (-1000000001) = -1000000001 := by decide
  have n5 : Int32.ofInt (-1000000005) = -1000000005 := by decide
  have hno : (∀ k, k < 10 → w = nI k → ¬ zd_th μ k = true) → ze_E (D + 6) A_Desk_isWindow [.ref 1, .int w] (zm_mk μ) (some (.int 0)) (zm_mk μ) → ∃ ν v, ze_E (D + 7) A_Desk_area [.ref 1, .int w, .int x] (zm_mk μ) (some (.int v)) (zm_mk ν) ∧ zJ_eqs μ ν ∧ zd_arv μ ν Rs ts w x v := by
    rintro hw ⟨N1, E1⟩
    refine ⟨μ, -1000000001, ze_in [(0, .ref 1), (1, .int w), (2, .int x)] zq_Desk_area (Nat.le_of_ble_eq_true rfl) rfl ⟨N1, 6, fun F n hF => ?_⟩, zJ_eqs.refl, Or.inl ⟨rfl, fun ⟨k, a, h1, _, h3, _, h5⟩ => hw k h1 h3 h5⟩⟩
    simp [zi_go, zf_X5_area, zi_ask, zi_new, zi_step, zi_ld, zi_lda, zi_cmp, zi_retOk, zi_isI, zi_f3, zi_cr, zi_ci, zi_cn, zi_get, zi_set, zq_Desk_isWindow, zd_c, E1 F (by omega), n4]
  rcases zd_rng w 10 (by decide) with ⟨k, hk, rfl⟩ | hout
  · have E1 := ze_thW (μ := μ) (D + 5) hk
    by_cases c1 : zd_th μ k = true
    · rw [if_pos c1] at E1
      obtain ⟨N1, E1⟩ := E1
      obtain ⟨ν, ⟨N2, E2⟩, f2, hl⟩ := ze_layTrees (μ := μ) D (fun s hs => (h.2.2.2.1 s hs).1)
      have hJ := h.eqv (zd_frA_eqv f2)
      have S0 : ze_S (D + 6) 3 (some .int) zc_X5_area 0 [(0, .ref 1), (1, .int (nI k)), (2, .int x)] [] (zm_mk μ) 16 [(0, .ref 1), (1, .int (nI k)), (2, .int x)] [.int x] (zm_mk ν) := by
        refine ⟨N1 + N2, 7, fun F n hF => ?_⟩
        simp [zi_go, zf_X5_area, zi_ask, zi_new, zi_step, zi_ld, zi_lda, zi_cmp, zi_retOk, zi_isI, zi_f3, zi_cr, zi_ci, zi_cn, zi_get, zi_set, zq_Desk_isWindow, zd_c, E1 F (by omega), zq_Desk_layTrees, E2 F (by omega)]
      refine ⟨ν, ?_⟩
      have fin : ∃ v, ze_G (D + 6) 3 (some .int) zc_X5_area 16 [(0, .ref 1), (1, .int (nI k)), (2, .int x)] [.int x] (zm_mk ν) (some (.int v)) (zm_mk ν) ∧ zd_arv μ ν Rs ts (nI k) x v := by
        obtain ⟨N3, E3⟩ := ze_startOf_v (μ := ν) (D + 3) hk (a := 0) (by decide) (zJ_scr hJ hk)
        obtain ⟨N4, E4⟩ := ze_startOf_v (μ := ν) (D + 3) hk (a := 1) (by decide) (zJ_scr hJ hk)
        obtain ⟨N5, E5⟩ := ze_lengthOf_v (μ := ν) (D + 3) hk (a := 0) (by decide) (zJ_scr hJ hk)
        obtain ⟨N6, E6⟩ := ze_lengthOf_v (μ := ν) (D + 3) hk (a := 1) (by decide) (zJ_scr hJ hk)
        rcases zd_rng x 5 (by decide) with ⟨j, hj, rfl⟩ | ho
        · match j, hj with
          | 0, _ =>
            have t0 : (nI 0).toInt = 0 := by decide
            have cw := zw_c (μ := ν) (zdW_at hk)
            obtain ⟨N7, E7⟩ := ze_stiW (μ := ν) (D + 5) hk
            by_cases c2 : zd_sti ν k = true
            · rw [if_pos c2] at E7
              refine ⟨-1000000005, ⟨N7, 10, fun F n hF => ?_⟩, ?_⟩
              · simp [zi_go, zf_X5_area, zi_ask, zi_new, zi_step, zi_ld, zi_lda, zi_cmp, zi_retOk, zi_isI, zi_f3, zi_cr, zi_ci, zi_cn, zi_get, zi_set, t0, zd_g, zd_w hk, zq_Win_isSticky, cw, E7 F (by omega), n5]
              · exact Or.inr ⟨k, 0, hk, by decide, rfl, rfl, c1, hl, fun _ => (if_pos c2).symm, fun z => absurd rfl z⟩
            · rw [if_neg c2] at E7
              refine ⟨ν (zdW k) 5, ⟨N7, 13, fun F n hF => ?_⟩, ?_⟩
              · simp [zi_go, zf_X5_area, zi_ask, zi_new, zi_step, zi_ld, zi_lda, zi_cmp, zi_retOk, zi_isI, zi_f3, zi_cr, zi_ci, zi_cn, zi_get, zi_set, t0, zd_g, zd_w hk, zw_g (zdW_at hk), zq_Win_isSticky, cw, E7 F (by omega)]
              · exact Or.inr ⟨k, 0, hk, by decide, rfl, rfl, c1, hl, fun _ => (if_neg c2).symm, fun z => absurd rfl z⟩
          | 1, _ =>
            have t0 : (nI 1).toInt = 1 := by decide
            have hm : nI 1 - 1 = nI 0 := by decide
            refine ⟨zd_sto ν k 0, ⟨N3, 8, fun F n hF => ?_⟩, ?_⟩
            · simp [zi_go, zf_X5_area, zi_ask, zi_new, zi_step, zi_ld, zi_lda, zi_cmp, zi_retOk, zi_isI, zi_f3, zi_cr, zi_ci, zi_cn, zi_get, zi_set, t0, hm, zq_Desk_startOf, zd_c, E3 F (by omega)]
            · exact Or.inr ⟨k, 1, hk, by decide, rfl, rfl, c1, hl, fun z => absurd z (by decide), fun _ => rfl⟩
          | 2, _ =>
            have t0 : (nI 2).toInt = 2 := by decide
            have hm : nI 2 - 1 = nI 1 := by decide
            refine ⟨zd_sto ν k 1, ⟨N4, 8, fun F n hF => ?_⟩, ?_⟩
            · simp [zi_go, zf_X5_area, zi_ask, zi_new, zi_step, zi_ld, zi_lda, zi_cmp, zi_retOk, zi_isI, zi_f3, zi_cr, zi_ci, zi_cn, zi_get, zi_set, t0, hm, zq_Desk_startOf, zd_c, E4 F (by omega)]
            · exact Or.inr ⟨k, 2, hk, by decide, rfl, rfl, c1, hl, fun z => absurd z (by decide), fun _ => rfl⟩
          | 3, _ =>
            have t0 : (nI 3).toInt = 3 := by decide
            have hm : nI 3 - 3 = nI 0 := by decide
            refine ⟨zd_lno ν k 0, ⟨N5, 8, fun F n hF => ?_⟩, ?_⟩
            · simp [zi_go, zf_X5_area, zi_ask, zi_new, zi_step, zi_ld, zi_lda, zi_cmp, zi_retOk, zi_isI, zi_f3, zi_cr, zi_ci, zi_cn, zi_get, zi_set, t0, hm, zq_Desk_lengthOf, zd_c, E5 F (by omega)]
            · exact Or.inr ⟨k, 3, hk, by decide, rfl, rfl, c1, hl, fun z => absurd z (by decide), fun _ => rfl⟩
          | 4, _ =>
            have t0 : (nI 4).toInt = 4 := by decide
            have hm : nI 4 - 3 = nI 1 := by decide
            refine ⟨zd_lno ν k 1, ⟨N6, 8, fun F n hF => ?_⟩, ?_⟩
            · simp [zi_go, zf_X5_area, zi_ask, zi_new, zi_step, zi_ld, zi_lda, zi_cmp, zi_retOk, zi_isI, zi_f3, zi_cr, zi_ci, zi_cn, zi_get, zi_set, t0, hm, zq_Desk_lengthOf, zd_c, E6 F (by omega)]
            · exact Or.inr ⟨k, 4, hk, by decide, rfl, rfl, c1, hl, fun z => absurd z (by decide), fun _ => rfl⟩
        · have hx : ∀ a, a < 5 → x = nI a → False := fun a h2 e => by
            subst e
            rcases ho with q | q
            · exact nI_pos (by omega) q
            · exact absurd q (nI_ge (b := 5) (by omega) (by decide))
          have ho' : x.toInt < 0 ∨ 4 < x.toInt := by
            rcases ho with q | q
            · left
              exact Int32.lt_iff_toInt_lt.mp q
            · right
              have := Int32.le_iff_toInt_le.mp q
              rw [show (nI 5).toInt = 5 by decide] at this
              omega
          refine ⟨-1000000001, ⟨0, 3, fun F n hF => ?_⟩, ?_⟩
          · simp [zi_go, zf_X5_area, zi_ask, zi_new, zi_step, zi_ld, zi_lda, zi_cmp, zi_retOk, zi_isI, zi_f3, zi_cr, zi_ci, zi_cn, zi_get, zi_set, ho', n4]
          · exact Or.inl ⟨rfl, fun ⟨k2, a, _, h2, _, h4, _⟩ => hx a h2 h4⟩
      obtain ⟨v, G, hv⟩ := fin
      exact ⟨v, ze_in [(0, .ref 1), (1, .int (nI k)), (2, .int x)] zq_Desk_area (Nat.le_of_ble_eq_true rfl) rfl (S0.end G), zd_frA_eqs f2, hv⟩
    · rw [if_neg c1] at E1
      exact hno (fun j hj e z => by
        have := (nI_eq (by omega) (by omega)).mp e
        subst this
        exact c1 z) E1
  · exact hno (fun k hk e => by
      rcases hout with q | q
      · exact absurd q (by rw [e]; exact nI_pos (by omega))
      · exact absurd q (by rw [e]; exact nI_ge (b := 10) (by omega) (by decide))) (ze_isWindow_out (D + 5) hout)

set_option maxRecDepth 100000 in
theorem ze_Marea_v (D : Nat) (h : zR μ row stk us) (w x : Int32) : ∃ ν v, ze_E (D + 29) A_Mod_area [.ref 232, .int w, .int x] (zm_mk μ) (some (.int v)) (zm_mk ν) ∧ zM_frs μ ν ∧ zv_arv μ us w x v := by
  have n4 : Int32.ofInt (-1000000001) = -1000000001 := by decide
  obtain ⟨lc, cM⟩ := zM_c (μ := μ)
  rcases zR_win (D + 26) h w with ⟨k, hk, rfl, c0, N1, E1⟩ | ⟨⟨N1, E1⟩, c0⟩
  · rcases zM_isIn (hp := zm_mk μ) (D + 27) x (n := 4) (b := 4) (by decide) (by decide) with ⟨a, ha, rfl, N2, E2⟩ | ⟨⟨N2, E2⟩, hx⟩
    · obtain ⟨ν, v, ⟨N3, E3⟩, f, hv⟩ := ze_MareaOf_v D h hk c0 ha
      refine ⟨ν, v, ze_in [(0, .ref 232), (1, .int (nI k)), (2, .int (nI a))] zq_Mod_area (Nat.le_of_ble_eq_true rfl) rfl ⟨N1 + N2 + N3, 15, fun F n hF => ?_⟩, f, Or.inr ⟨k, a, hk, ha, rfl, rfl, c0, hv⟩⟩
      simp [zi_go, zf_X6_area, zi_ask, zi_new, zi_step, zi_ld, zi_lda, zi_cmp, zi_retOk, zi_isI, zi_f3, zi_cr, zi_ci, zi_cn, zi_get, zi_set, cM, zq_Mod_isWindow, zq_Mod_isIn, zq_Mod_areaOf, E1 F (by omega), E2 F (by omega), E3 F (by omega)]
    · refine ⟨μ, -1000000001, ze_in [(0, .ref 232), (1, .int (nI k)), (2, .int x)] zq_Mod_area (Nat.le_of_ble_eq_true rfl) rfl ⟨N1 + N2, 11, fun F n hF => ?_⟩, zM_frs.refl, Or.inl ⟨rfl, fun ⟨_, a, _, h2, _, h4, _⟩ => hx a h2 h4⟩⟩
      simp [zi_go, zf_X6_area, zi_ask, zi_new, zi_step, zi_ld, zi_lda, zi_cmp, zi_retOk, zi_isI, zi_f3, zi_cr, zi_ci, zi_cn, zi_get, zi_set, cM, zq_Mod_isWindow, zq_Mod_isIn, E1 F (by omega), E2 F (by omega), n4]
  · refine ⟨μ, -1000000001, ze_in [(0, .ref 232), (1, .int w), (2, .int x)] zq_Mod_area (Nat.le_of_ble_eq_true rfl) rfl ⟨N1, 6, fun F n hF => ?_⟩, zM_frs.refl, Or.inl ⟨rfl, fun ⟨k, _, h1, _, h3, _, h5⟩ => h5 (c0 k h1 h3)⟩⟩
    simp [zi_go, zf_X6_area, zi_ask, zi_new, zi_step, zi_ld, zi_lda, zi_cmp, zi_retOk, zi_isI, zi_f3, zi_cr, zi_ci, zi_cn, zi_get, zi_set, cM, zq_Mod_isWindow, E1 F (by omega), n4]

theorem zd_foc_p (h : zd_foc μ ν k) : zd_plc μ ν := ⟨fun j hj a ha => h.1 _ _ (by unfold zdW; omega) (by unfold zdW; omega) (by unfold zdW; omega) (by unfold zdW; omega) (fun ⟨_, s, hs, _, e, _⟩ => by unfold zdW zdT at e; omega), fun s hs j hj a ha => h.1 _ _ (by unfold zdP; omega) (by unfold zdP; omega) (by unfold zdP; omega) (by unfold zdP; omega) (fun ⟨_, q, hq, _, e, _⟩ => by unfold zdP zdT at e; omega)⟩
set_option maxRecDepth 100000 in
theorem ze_toward_s (D : Nat) (h : zJ μ row stk Rs ts) (x : Int32) : ∃ ν v, ze_E (D + 16) A_Desk_toward [.ref 1, .int x] (zm_mk μ) (some (.int v)) (zm_mk ν) ∧ zd_plc μ ν := by
  have n4 : Int32.ofInt (-1000000001) = -1000000001 := by decide
  have n2 : Int32.ofInt (-1000000002) = -1000000002 := by decide
  have hl10 := h.1.1.1
  rcases zd_rng x 4 (by decide) with ⟨sd, hsd, rfl⟩ | ho
  · obtain ⟨N1, E1⟩ := ze_isSide_in (h := zm_mk μ) (D + 14) hsd
    have cr := zr_c (μ := μ) zd3_at
    have E2 : ze_E (D + 15) A_Row_get [.ref (3 + 1), .int 0] (zm_mk μ) (some (.int (if row = [] then -1 else nI (row.getD 0 0)))) (zm_mk μ) := by
      by_cases c : row = []
      · rw [if_pos c]
        have := ze_Row_get (μ := μ) (r := 3) (D + 14) 0 zd3_at (by rw [h.1.1.2.1]; exact nI_le (b := 10) h.1.1.1 (by decide))
        rw [if_neg (fun q => by
          have := q.2
          rw [h.1.1.2.1, c] at this
          exact absurd this (by decide))] at this
        exact this
      · rw [if_neg c]
        have := ze_Row_getL (μ := μ) (i := 0) (D + 14) zd3_at h.1.1 (List.length_pos_iff.mpr c)
        rw [nI_0] at this
        exact this
    obtain ⟨N2, E2⟩ := E2
    generalize hw : (if row = [] then (-1 : Int32) else nI (row.getD 0 0)) = w at E2
    rcases ze_isShownTileJ (D + 12) h w with ⟨⟨N3, E3⟩, k, s, hk, hs, ek, hsh⟩ | ⟨⟨N3, E3⟩, hno⟩
    · have hne : row ≠ [] := fun c => by
        rw [if_pos c, ek] at hw
        have : nI k < 0 := by rw [← hw]; decide
        exact nI_pos (by omega) this
      rw [if_neg hne, ek] at hw
      have hm0 : row.getD 0 0 ∈ row := zl_mem (List.length_pos_iff.mpr hne)
      have hb0 := ((h.1.2.2 _).mp hm0).1
      have ek0 : row.getD 0 0 = k := (nI_eq (by omega) (by omega)).mp hw
      subst ek
      obtain ⟨ξ, ⟨N4, E4⟩, f4, hlaid⟩ := ze_layTrees (μ := μ) (D + 9) (fun s hs => (h.2.2.2.1 s hs).1)
      have hev := zd_frA_eqv f4
      have hJ := h.eqv hev
      obtain ⟨N5, E5⟩ := ze_treeOf (μ := ξ) (D + 14) hk hs (by rw [hev _ (zJn_W hk).1]; exact hsh.2.1)
      obtain ⟨N6, E6⟩ := ze_Tree_neighbourTo (μ := ξ) (D + 10) (zdT_at hs) (zt_I_hm (hJ.2.2.2.1 s hs).1.1) hk hsd
      obtain ⟨lt, ct⟩ := zt_c (μ := ξ) (zdT_at hs)
      have hor := zd_ngb_or hJ (s := s) (k := k) (sd := sd) hs
      have E6' : ∀ F, N6 ≤ F → zi_run zi_ms F (D + 10 + 5) A_Tree_neighbourTo [.ref (zdT s + 1), .int (nI k), .int (nI sd)] (zm_mk ξ) [] = some [([], some (.int (zd_ngb ξ s k sd)), zm_mk ξ)] := E6
      generalize hv : zd_ngb ξ s k sd = v at E6' hor
      have S0 : ze_S (D + 15) 4 (some .int) zc_X5_toward 0 [(0, .ref 1), (1, .int (nI sd))] [] (zm_mk μ) 45 [(3, .int v), (2, .int (nI k)), (0, .ref 1), (1, .int (nI sd))] [] (zm_mk ξ) := by
        refine ⟨N1 + N2 + N3 + N4 + N5 + N6, 21, fun F n hF => ?_⟩
        simp [zi_go, zf_X5_toward, zi_ask, zi_new, zi_step, zi_ld, zi_lda, zi_cmp, zi_retOk, zi_isI, zi_f3, zi_cr, zi_ci, zi_cn, zi_get, zi_set, zq_Desk_isSide, E1 F (by omega), zd_g, zq_Row_get, cr, E2 F (by omega), zq_Desk_isShownTile, zd_c, E3 F (by omega), zq_Desk_layTrees, E4 F (by omega), zq_Desk_treeOf, E5 F (by omega), zq_Tree_neighbourTo, ct, E6' F (by omega)]
      rcases hor with rfl | ⟨i, hi, rfl, hit, his⟩
      · obtain ⟨N7, E7⟩ := ze_isWindow_out (μ := ξ) (D + 14) (x := -1000000005) (Or.inl (by decide))
        refine ⟨ξ, -1000000005, ze_in [(0, .ref 1), (1, .int (nI sd))] zq_Desk_toward (Nat.le_of_ble_eq_true rfl) rfl (S0.end ⟨N7, 6, fun F n hF => ?_⟩), (zd_frA_eqs f4).p⟩
        simp [zi_go, zf_X5_toward, zi_ask, zi_new, zi_step, zi_ld, zi_lda, zi_cmp, zi_retOk, zi_isI, zi_f3, zi_cr, zi_ci, zi_cn, zi_get, zi_set, zq_Desk_isWindow, zd_c, E7 F (by omega)]
      · have hith : zd_th ξ i = true := decide_eq_true (of_decide_eq_true hit).1
        obtain ⟨N7, E7⟩ := ze_thW (μ := ξ) (D + 14) hi
        rw [if_pos hith] at E7
        obtain ⟨ν, stk', ⟨N8, E8⟩, hJ', hf⟩ := ze_giveFocusJ (μ := ξ) D hJ hi hith
        have hith' : zd_th μ i = true := by
          unfold zd_th at *
          rw [hev _ (zJn_W hi).1] at hith
          exact hith
        refine ⟨ν, nI i, ze_in [(0, .ref 1), (1, .int (nI sd))] zq_Desk_toward (Nat.le_of_ble_eq_true rfl) rfl (S0.end ⟨N7 + N8, 9, fun F n hF => ?_⟩), (zd_frA_eqs f4).p.trans (zd_foc_p hf)⟩
        simp [zi_go, zf_X5_toward, zi_ask, zi_new, zi_step, zi_ld, zi_lda, zi_cmp, zi_retOk, zi_isI, zi_f3, zi_cr, zi_ci, zi_cn, zi_get, zi_set, zq_Desk_isWindow, zd_c, E7 F (by omega), zq_Desk_giveFocus, E8 F (by omega)]
    · refine ⟨μ, -1000000002, ze_in [(0, .ref 1), (1, .int (nI sd))] zq_Desk_toward (Nat.le_of_ble_eq_true rfl) rfl ⟨N1 + N2 + N3, 14, fun F n hF => ?_⟩, zd_plc.refl⟩
      simp [zi_go, zf_X5_toward, zi_ask, zi_new, zi_step, zi_ld, zi_lda, zi_cmp, zi_retOk, zi_isI, zi_f3, zi_cr, zi_ci, zi_cn, zi_get, zi_set, zq_Desk_isSide, E1 F (by omega), zd_g, zq_Row_get, cr, E2 F (by omega), zq_Desk_isShownTile, zd_c, E3 F (by omega), n2]
  · obtain ⟨N1, E1⟩ := ze_isSide_out (h := zm_mk μ) (D + 14) ho
    refine ⟨μ, -1000000001, ze_in [(0, .ref 1), (1, .int x)] zq_Desk_toward (Nat.le_of_ble_eq_true rfl) rfl ⟨N1, 5, fun F n hF => ?_⟩, zd_plc.refl⟩
    simp [zi_go, zf_X5_toward, zi_ask, zi_new, zi_step, zi_ld, zi_lda, zi_cmp, zi_retOk, zi_isI, zi_f3, zi_cr, zi_ci, zi_cn, zi_get, zi_set, zq_Desk_isSide, E1 F (by omega), n4]

end ZXB
