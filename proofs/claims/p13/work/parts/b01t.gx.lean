/-! the calls that give the focus, with the stack after it -/
section ZXT
variable {μ ν : zm_M} {row stk : List Nat} {Rs : Nat → List Nat} {ts : Nat → zy_F}
def zd_fox (μ ν : zm_M) (k : Nat) : Prop := zd_foc μ ν k ∧ ∀ S rk, zr_L μ 5 S → S.Nodup → (∀ j ∈ S, j < 10 ∧ zd_flo μ j = true) → zd_rkc μ rk → zr_L ν 5 (zd_rz μ 10 k S)
theorem ze_gf_det (D : Nat) {R : List Nat} {t : zy_F} {k s : Nat} (hk : k < 10) (ht : zd_th μ k = true) (hs : s < 3) (hrow : zr_L μ 3 row) (hrn : row.Nodup) (hrb : ∀ j ∈ row, j < 10) (hsc : zd_til μ k = true → μ (zdW k) 5 = nI s ∧ zt_I μ (zdT s) R t ∧ k ∈ R) (E : ze_E (D + 15) A_Desk_giveFocus [.ref 1, .int (nI k)] (zm_mk μ) none (zm_mk ν)) : ∀ S rk, zr_L μ 5 S → S.Nodup → (∀ j ∈ S, j < 10 ∧ zd_flo μ j = true) → zd_rkc μ rk → zr_L ν 5 (zd_rz μ 10 k S) := fun S rk l n b r => by
  obtain ⟨ν', E', l'⟩ := ze_giveFocus_v (μ := μ) D r hk ht hs hrow hrn hrb l n b hsc
  exact zr_L_mk (ze_E_det E' E).2 zd5_at l'
theorem ze_giveFocusJx (D : Nat) (h : zJ μ row stk Rs ts) {k : Nat} (hk : k < 10) (ht : zd_th μ k = true) : ∃ ν stk', ze_E (D + 15) A_Desk_giveFocus [.ref 1, .int (nI k)] (zm_mk μ) none (zm_mk ν) ∧ zJ ν (k :: row.erase k) stk' Rs ts ∧ zd_fox μ ν k := by
  obtain ⟨hr1, hr2, -, -⟩ := zJ_rowL h
  obtain ⟨s, hs, hsc⟩ := zJ_shw h hk
  obtain ⟨ν, stk', E, hJ, hf⟩ := ze_giveFocusJ D h hk ht
  exact ⟨ν, stk', E, hJ, hf, ze_gf_det D hk ht hs hr1 h.1.2.1 hr2 hsc E⟩
theorem ze_open_4x (D : Nat) (h : zJ μ row stk Rs ts) {Rs' : Nat → List Nat} {ts' : Nat → zy_F} {kd w v o : Int32} {k s : Nat} (hk : k < 10) (hs : s < 3) (hnt : zd_th μ k = false) {ν4 : zm_M} (hc : zd_came μ ν4 k s kd w v o) (h0 : zJ0 ν4 stk Rs' ts') : ∃ ν5 stk', ze_E (D + 15) A_Desk_giveFocus [.ref 1, .int (nI k)] (zm_mk ν4) none (zm_mk ν5) ∧ zJ ν5 (k :: row) stk' Rs' ts' ∧ zd_fox ν4 ν5 k := by
  obtain ⟨ν, stk', E, hJ, hf⟩ := ze_open_4 D h hk hs hnt hc h0
  obtain ⟨q, hq, hsc⟩ := zJ0_shw h0 hk
  obtain ⟨f, w2, -⟩ := hc
  have e0 : ∀ c, c < 7 → ν4 c = μ c := fun c hc => f c (zJn_0 hc) (by unfold zdW; omega) (by unfold zdW; omega) (fun _ => zJn_out hs (Or.inl hc))
  exact ⟨ν, stk', E, hJ, hf, ze_gf_det (row := row) D hk (decide_eq_true (by rw [w2]; decide)) hq (zr_L_congr (e0 _ (by decide)) (e0 _ (by decide)) h.1.1) h.1.2.1 (fun j hj => ((h.1.2.2 j).mp hj).1) hsc E⟩
set_option maxRecDepth 100000 in
theorem ze_focus_x (D : Nat) (h : zJ μ row stk Rs ts) {k : Nat} (hk : k < 10) (ht : zd_th μ k = true) : ∃ ν stk', ze_E (D + 16) A_Desk_focus [.ref 1, .int (nI k)] (zm_mk μ) (some (.int (nI (row.getD 0 0)))) (zm_mk ν) ∧ zJ ν (k :: row.erase k) stk' Rs ts ∧ zd_fox μ ν k := by
  obtain ⟨N1, E1⟩ := ze_thW (μ := μ) (D + 14) hk
  rw [if_pos ht] at E1
  obtain ⟨ν, stk', ⟨N2, E2⟩, hJ, hf⟩ := ze_giveFocusJx (μ := μ) D h hk ht
  have hkr : k ∈ row := (h.1.2.2 k).mpr ⟨hk, ht⟩
  have hl : 0 < row.length := List.length_pos_of_mem hkr
  obtain ⟨N3, E3⟩ := ze_Row_getL (μ := μ) (i := 0) (D + 14) zd3_at h.1.1 hl
  rw [nI_0] at E3
  generalize row.getD 0 0 = v at E3 ⊢
  have cr := zr_c (μ := μ) zd3_at
  refine ⟨ν, stk', ze_in [(0, .ref 1), (1, .int (nI k))] zq_Desk_focus (Nat.le_of_ble_eq_true rfl) rfl ⟨N1 + N2 + N3, 14, fun F n hF => ?_⟩, hJ, hf⟩
  simp [zi_go, zf_X5_focus, zi_ask, zi_new, zi_step, zi_ld, zi_lda, zi_cmp, zi_retOk, zi_isI, zi_f3, zi_cr, zi_ci, zi_cn, zi_get, zi_set, zq_Desk_isWindow, zd_c, E1 F (by omega), zd_g, zq_Row_get, cr, E3 F (by omega), zq_Desk_giveFocus, E2 F (by omega)]
set_option maxRecDepth 100000 in
theorem ze_back_x (D : Nat) (h : zJ μ row stk Rs ts) (hl : ¬ row.length < 2) : ∃ ν stk', ze_E (D + 16) A_Desk_back [.ref 1] (zm_mk μ) (some (.int (nI (row.getD 1 0)))) (zm_mk ν) ∧ zJ ν (row.getD 1 0 :: row.erase (row.getD 1 0)) stk' Rs ts ∧ zd_fox μ ν (row.getD 1 0) := by
  obtain ⟨N1, E1⟩ := ze_Row_sizeL (μ := μ) (D + 14) zd3_at h.1.1
  have cr := zr_c (μ := μ) zd3_at
  have hl10 := h.1.1.1
  have c : (2 : Int32) ≤ nI row.length := nI_le (a := 2) (by omega) (by omega)
  obtain ⟨N3, E3⟩ := ze_Row_getL (μ := μ) (i := 1) (D + 14) zd3_at h.1.1 (by omega)
  have hm : row.getD 1 0 ∈ row := zl_mem (by omega)
  generalize row.getD 1 0 = k at E3 hm ⊢
  obtain ⟨hk, ht⟩ := (h.1.2.2 k).mp hm
  rw [show nI 1 = 1 by decide] at E3
  obtain ⟨ν, stk', ⟨N2, E2⟩, hJ, hf⟩ := ze_giveFocusJx (μ := μ) D h hk ht
  refine ⟨ν, stk', ze_in [(0, .ref 1)] zq_Desk_back (Nat.le_of_ble_eq_true rfl) rfl ⟨N1 + N2 + N3, 15, fun F n hF => ?_⟩, hJ, hf⟩
  simp [zi_go, zf_X5_back, zi_ask, zi_new, zi_step, zi_ld, zi_lda, zi_cmp, zi_retOk, zi_isI, zi_f3, zi_cr, zi_ci, zi_cn, zi_get, zi_set, zd_g, zq_Row_size, zq_Row_get, cr, E1 F (by omega), c, E3 F (by omega), zq_Desk_giveFocus, zd_c, E2 F (by omega)]
set_option maxRecDepth 100000 in
theorem ze_toward_x (D : Nat) (h : zJ μ row stk Rs ts) (x : Int32) : ∃ ν v row' stk', ze_E (D + 16) A_Desk_toward [.ref 1, .int x] (zm_mk μ) (some (.int v)) (zm_mk ν) ∧ zJ ν row' stk' Rs ts ∧
    (((∀ sd, sd < 4 → x = nI sd → ∀ s, s < 3 → row ≠ [] → ¬ zd_shn μ s (row.getD 0 0)) ∧ ν = μ ∧ row' = row ∧ v = zx_sd x) ∨
     (∃ sd s ξ, sd < 4 ∧ s < 3 ∧ x = nI sd ∧ row ≠ [] ∧ zd_shn μ s (row.getD 0 0) ∧ zJ_eqv μ ξ ∧ (∀ q, q < 3 → zd_laid ξ q (Rs q) (ts q)) ∧
       ((zd_ngb ξ s (row.getD 0 0) sd = -1000000005 ∧ ν = ξ ∧ row' = row ∧ v = -1000000005) ∨ ∃ i, i < 10 ∧ zd_th μ i = true ∧ zd_ngb ξ s (row.getD 0 0) sd = nI i ∧ row' = i :: row.erase i ∧ zd_fox ξ ν i ∧ v = nI i))) := by
  have n4 : Int32.ofInt (-1000000001) = -1000000001 := by decide
  have n2 : Int32.ofInt (-1000000002) = -1000000002 := by decide
  have hl10 := h.1.1.1
  rcases zd_rng x 4 (by decide) with ⟨sd, hsd, rfl⟩ | ho
  · obtain ⟨N1, E1⟩ := ze_isSide_in (h := zm_mk μ) (D + 14) hsd
    have cr := zr_c (μ := μ) zd3_at
    have E2 : ze_E (D + 15) A_Row_get [.ref (3 + 1), .int 0] (zm_mk μ) (some (.int (if row = [] then -1 else nI (row.getD 0 0)))) (zm_mk μ) := by
      by_cases c : row = []
      · rw [if_pos c]
        have := ze_Row_get (μ := μ) (r := 3) (D + 14) 0 zd3_at (by rw [h.1.1.2.1]; exact nI_le (b := 10) h.1.1.1 (by decide))
        rw [if_neg (fun q => by
          have := q.2
          rw [h.1.1.2.1, c] at this
          exact absurd this (by decide))] at this
        exact this
      · rw [if_neg c]
        have := ze_Row_getL (μ := μ) (i := 0) (D + 14) zd3_at h.1.1 (List.length_pos_iff.mpr c)
        rw [nI_0] at this
        exact this
    obtain ⟨N2, E2⟩ := E2
    generalize hw : (if row = [] then (-1 : Int32) else nI (row.getD 0 0)) = w at E2
    rcases ze_isShownTileJ (D + 12) h w with ⟨⟨N3, E3⟩, k, s, hk, hs, ek, hsh⟩ | ⟨⟨N3, E3⟩, hno⟩
    · have hne : row ≠ [] := fun c => by
        rw [if_pos c, ek] at hw
        have : nI k < 0 := by rw [← hw]; decide
        exact nI_pos (by omega) this
      rw [if_neg hne, ek] at hw
      have hm0 : row.getD 0 0 ∈ row := zl_mem (List.length_pos_iff.mpr hne)
      have hb0 := ((h.1.2.2 _).mp hm0).1
      have ek0 : row.getD 0 0 = k := (nI_eq (by omega) (by omega)).mp hw
      subst ek
      obtain ⟨ξ, ⟨N4, E4⟩, f4, hlaid⟩ := ze_layTrees (μ := μ) (D + 9) (fun s hs => (h.2.2.2.1 s hs).1)
      have hev := zd_frA_eqv f4
      have hJ := h.eqv hev
      obtain ⟨N5, E5⟩ := ze_treeOf (μ := ξ) (D + 14) hk hs (by rw [hev _ (zJn_W hk).1]; exact hsh.2.1)
      obtain ⟨N6, E6⟩ := ze_Tree_neighbourTo (μ := ξ) (D + 10) (zdT_at hs) (zt_I_hm (hJ.2.2.2.1 s hs).1.1) hk hsd
      obtain ⟨lt, ct⟩ := zt_c (μ := ξ) (zdT_at hs)
      have hor := zd_ngb_or hJ (s := s) (k := k) (sd := sd) hs
      have E6' : ∀ F, N6 ≤ F → zi_run zi_ms F (D + 10 + 5) A_Tree_neighbourTo [.ref (zdT s + 1), .int (nI k), .int (nI sd)] (zm_mk ξ) [] = some [([], some (.int (zd_ngb ξ s k sd)), zm_mk ξ)] := E6
      generalize hv : zd_ngb ξ s k sd = v at E6' hor
      have S0 : ze_S (D + 15) 4 (some .int) zc_X5_toward 0 [(0, .ref 1), (1, .int (nI sd))] [] (zm_mk μ) 45 [(3, .int v), (2, .int (nI k)), (0, .ref 1), (1, .int (nI sd))] [] (zm_mk ξ) := by
        refine ⟨N1 + N2 + N3 + N4 + N5 + N6, 21, fun F n hF => ?_⟩
        simp [zi_go, zf_X5_toward, zi_ask, zi_new, zi_step, zi_ld, zi_lda, zi_cmp, zi_retOk, zi_isI, zi_f3, zi_cr, zi_ci, zi_cn, zi_get, zi_set, zq_Desk_isSide, E1 F (by omega), zd_g, zq_Row_get, cr, E2 F (by omega), zq_Desk_isShownTile, zd_c, E3 F (by omega), zq_Desk_layTrees, E4 F (by omega), zq_Desk_treeOf, E5 F (by omega), zq_Tree_neighbourTo, ct, E6' F (by omega)]
      rcases hor with rfl | ⟨i, hi, rfl, hit, his⟩
      · obtain ⟨N7, E7⟩ := ze_isWindow_out (μ := ξ) (D + 14) (x := -1000000005) (Or.inl (by decide))
        refine ⟨ξ, -1000000005, row, stk, ze_in [(0, .ref 1), (1, .int (nI sd))] zq_Desk_toward (Nat.le_of_ble_eq_true rfl) rfl (S0.end ⟨N7, 6, fun F n hF => ?_⟩), hJ, Or.inr ⟨sd, s, ξ, hsd, hs, rfl, hne, by rw [ek0]; exact hsh, hev, hlaid, Or.inl ⟨by rw [ek0]; exact hv, rfl, rfl, rfl⟩⟩⟩
        simp [zi_go, zf_X5_toward, zi_ask, zi_new, zi_step, zi_ld, zi_lda, zi_cmp, zi_retOk, zi_isI, zi_f3, zi_cr, zi_ci, zi_cn, zi_get, zi_set, zq_Desk_isWindow, zd_c, E7 F (by omega)]
      · have hith : zd_th ξ i = true := decide_eq_true (of_decide_eq_true hit).1
        obtain ⟨N7, E7⟩ := ze_thW (μ := ξ) (D + 14) hi
        rw [if_pos hith] at E7
        obtain ⟨ν, stk', ⟨N8, E8⟩, hJ', hf⟩ := ze_giveFocusJx (μ := ξ) D hJ hi hith
        have hith' : zd_th μ i = true := by
          unfold zd_th at *
          rw [hev _ (zJn_W hi).1] at hith
          exact hith
        refine ⟨ν, nI i, i :: row.erase i, stk', ze_in [(0, .ref 1), (1, .int (nI sd))] zq_Desk_toward (Nat.le_of_ble_eq_true rfl) rfl (S0.end ⟨N7 + N8, 9, fun F n hF => ?_⟩), hJ', Or.inr ⟨sd, s, ξ, hsd, hs, rfl, hne, by rw [ek0]; exact hsh, hev, hlaid, Or.inr ⟨i, hi, hith', by rw [ek0]; exact hv, rfl, hf, rfl⟩⟩⟩
        simp [zi_go, zf_X5_toward, zi_ask, zi_new, zi_step, zi_ld, zi_lda, zi_cmp, zi_retOk, zi_isI, zi_f3, zi_cr, zi_ci, zi_cn, zi_get, zi_set, zq_Desk_isWindow, zd_c, E7 F (by omega), zq_Desk_giveFocus, E8 F (by omega)]
    · refine ⟨μ, -1000000002, row, stk, ze_in [(0, .ref 1), (1, .int (nI sd))] zq_Desk_toward (Nat.le_of_ble_eq_true rfl) rfl ⟨N1 + N2 + N3, 14, fun F n hF => ?_⟩, h, Or.inl ⟨fun sd' hsd' e s hs hne => ?_, rfl, rfl, (zx_sd_in hsd).symm⟩⟩
      · simp [zi_go, zf_X5_toward, zi_ask, zi_new, zi_step, zi_ld, zi_lda, zi_cmp, zi_retOk, zi_isI, zi_f3, zi_cr, zi_ci, zi_cn, zi_get, zi_set, zq_Desk_isSide, E1 F (by omega), zd_g, zq_Row_get, cr, E2 F (by omega), zq_Desk_isShownTile, zd_c, E3 F (by omega), n2]
      · have hm0 : row.getD 0 0 ∈ row := zl_mem (List.length_pos_iff.mpr hne)
        have hb0 := ((h.1.2.2 _).mp hm0).1
        exact hno _ s hb0 hs (by rw [← hw, if_neg hne])
  · obtain ⟨N1, E1⟩ := ze_isSide_out (h := zm_mk μ) (D + 14) ho
    refine ⟨μ, -1000000001, row, stk, ze_in [(0, .ref 1), (1, .int x)] zq_Desk_toward (Nat.le_of_ble_eq_true rfl) rfl ⟨N1, 5, fun F n hF => ?_⟩, h, Or.inl ⟨fun sd hsd e => ?_, rfl, rfl, (zx_sd_out ho).symm⟩⟩
    · simp [zi_go, zf_X5_toward, zi_ask, zi_new, zi_step, zi_ld, zi_lda, zi_cmp, zi_retOk, zi_isI, zi_f3, zi_cr, zi_ci, zi_cn, zi_get, zi_set, zq_Desk_isSide, E1 F (by omega), n4]
    · rw [e] at ho
      exact absurd ho (fun q => q.elim (nI_pos (by omega)) (nI_ge (b := 4) hsd (by decide)))
def zd_opnx (μ ν : zm_M) (row row' : List Nat) (Rs Rs' : Nat → List Nat) (ts ts' : Nat → zy_F) (kd w v o r : Int32) : Prop :=
  ((¬ zd_oarg μ kd w v o ∨ (∀ j, j < 10 → zd_th μ j = true) ∨ zd_osc μ row kd o = -1) ∧ ν = μ ∧ row' = row ∧ Rs' = Rs ∧ ts' = ts ∧ zx_op (zd_oarg μ kd w v o) (∀ j, j < 10 → zd_th μ j = true) r) ∨
  (zd_oarg μ kd w v o ∧ ∃ k s ξ, k < 10 ∧ s < 3 ∧ zd_th μ k = false ∧ (∀ j, j < k → zd_th μ j = true) ∧ zd_osc μ row kd o = nI s ∧ ¬ μ (zdS s) 3 = 0 ∧ zd_prep μ ξ Rs ts k kd w v o ∧
    ((((kd = 1 ∧ ∃ ν3, zd_tld ξ ν3 s k row (Rs s) (ts s) 0 (Rs s) (ts s)) ∨ (¬ kd = 1 ∧ ¬ kd = 4 ∧ zd_whole ξ (zdZ s) k = false)) ∧ (∀ c, ¬ zJ_irr c → c ≠ zdW k → c ≠ zdW k + 1 → ν c = μ c) ∧ ν (zdW k) 2 = μ (zdW k) 2 ∧ row' = row ∧ Rs' = Rs ∧ ts' = ts ∧ r = -1000000002) ∨
     (((kd = 1 ∧ ∃ ν3 ν4 R' t', zd_tld ξ ν3 s k row (Rs s) (ts s) 1 R' t' ∧ Rs' = zd_upd Rs s R' ∧ ts' = zd_upd ts s t' ∧ zd_came μ ν4 k s kd w v o ∧ (∀ j, ν4 (zdT s + j) = ν3 (zdT s + j)) ∧ zd_fox ν4 ν k) ∨
       (¬ kd = 1 ∧ (kd = 4 ∨ zd_whole ξ (zdZ s) k = true) ∧ Rs' = Rs ∧ ts' = ts ∧ ∃ ν4, zd_came μ ν4 k s kd w v o ∧ zd_fox ν4 ν k)) ∧ row' = k :: row ∧ r = nI k)))
set_option maxRecDepth 100000 in
theorem ze_open_x (D : Nat) (h : zJ μ row stk Rs ts) (kd w v o : Int32) : ∃ ν r row' stk' Rs' ts', ze_E (D + 16) A_Desk_open [.ref 1, .int kd, .int w, .int v, .int o] (zm_mk μ) (some (.int r)) (zm_mk ν) ∧ zJ ν row' stk' Rs' ts' ∧ zd_opnx μ ν row row' Rs Rs' ts ts' kd w v o r := by
  rcases ze_open_0 (μ := μ) (D + 14) kd w v o with ⟨ha, S0⟩ | ⟨hna, G⟩
  rotate_left
  · exact ⟨μ, _, row, stk, Rs, ts, ze_in [(0, .ref 1), (1, .int kd), (2, .int w), (3, .int v), (4, .int o)] zq_Desk_open (Nat.le_of_ble_eq_true rfl) rfl G, h, Or.inl ⟨Or.inl hna, rfl, rfl, rfl, rfl, Or.inl ⟨hna, rfl⟩⟩⟩
  rcases ze_open_1_v (D + 13) h ha (L := [(5, .int 1), (0, .ref 1), (1, .int kd), (2, .int w), (3, .int v), (4, .int o)]) rfl rfl rfl rfl rfl rfl with ⟨hc, r, hr, G⟩ | ⟨k, s, L, hk, hs, hnt, hlt, eo, hst, S1, nl, g0, g1, g2, g3, g4, g6, g7⟩
  · exact ⟨μ, r, row, stk, Rs, ts, ze_in [(0, .ref 1), (1, .int kd), (2, .int w), (3, .int v), (4, .int o)] zq_Desk_open (Nat.le_of_ble_eq_true rfl) rfl (S0.end G), h, Or.inl ⟨Or.inr hc, rfl, rfl, rfl, rfl, Or.inr ⟨ha, hr⟩⟩⟩
  obtain ⟨ν1, ⟨N1, E1⟩, f1, hlaid⟩ := ze_layTrees (μ := μ) (D + 9) (fun s hs => (h.2.2.2.1 s hs).1)
  have ev1 := zd_frA_eqv f1
  obtain ⟨N2, E2⟩ := ze_prepare (μ := ν1) (D + 14) (zdW_at hk) kd w v o
  have p2 : ∀ c, c ≠ zdW k → c ≠ zdW k + 1 → zm_up (zm_up (zm_up (zm_up (zm_up ν1 (zdW k) 3 kd) (zdW k + 1) 0 w) (zdW k + 1) 1 v) (zdW k) 4 o) (zdW k) 5 (-1) c = ν1 c := fun c a1 a2 => by
    rw [zm_up_row a1, zm_up_row a1, zm_up_row a2, zm_up_row a2, zm_up_row a1]
  have q2 : zm_up (zm_up (zm_up (zm_up (zm_up ν1 (zdW k) 3 kd) (zdW k + 1) 0 w) (zdW k + 1) 1 v) (zdW k) 4 o) (zdW k) 5 (-1) (zdW k) 2 = ν1 (zdW k) 2 := by
    rw [zm_up_ne (by omega), zm_up_ne (by omega), zm_up_ne (by omega), zm_up_ne (by omega), zm_up_ne (by omega)]
  have q3 : zm_up (zm_up (zm_up (zm_up (zm_up ν1 (zdW k) 3 kd) (zdW k + 1) 0 w) (zdW k + 1) 1 v) (zdW k) 4 o) (zdW k) 5 (-1) (zdW k) 3 = kd := by
    rw [zm_up_ne (by omega), zm_up_ne (by omega), zm_up_ne (by omega), zm_up_ne (by omega), zm_up_eq]
  have q4 : zm_up (zm_up (zm_up (zm_up (zm_up ν1 (zdW k) 3 kd) (zdW k + 1) 0 w) (zdW k + 1) 1 v) (zdW k) 4 o) (zdW k) 5 (-1) (zdW k) 4 = o := by
    rw [zm_up_ne (by omega), zm_up_eq]
  have r0 : zm_up (zm_up (zm_up (zm_up (zm_up ν1 (zdW k) 3 kd) (zdW k + 1) 0 w) (zdW k + 1) 1 v) (zdW k) 4 o) (zdW k) 5 (-1) (zdW k + 1) 0 = w := by
    rw [zm_up_ne (by omega), zm_up_ne (by omega), zm_up_ne (by omega), zm_up_eq]
  have r1 : zm_up (zm_up (zm_up (zm_up (zm_up ν1 (zdW k) 3 kd) (zdW k + 1) 0 w) (zdW k + 1) 1 v) (zdW k) 4 o) (zdW k) 5 (-1) (zdW k + 1) 1 = v := by
    rw [zm_up_ne (by omega), zm_up_ne (by omega), zm_up_eq]
  have S2 : ze_S (D + 15) 8 (some .int) zc_X5_open 126 L [] (zm_mk μ) 145 L [] (zm_mk (zm_up (zm_up (zm_up (zm_up (zm_up ν1 (zdW k) 3 kd) (zdW k + 1) 0 w) (zdW k + 1) 1 v) (zdW k) 4 o) (zdW k) 5 (-1))) := by
    have cw := zw_c (μ := ν1) (zdW_at hk)
    refine ⟨N1 + N2, 11, fun F n hF => ?_⟩
    simp (maxDischargeDepth := 9) [zi_go, zf_X5_open, zi_ask, zi_new, zi_step, zi_ld, zi_lda, zi_cmp, zi_retOk, zi_isI, zi_f3, zi_cr, zi_ci, zi_cn, zi_get_ne, zi_nl_i, zi_nl_r, zi_get_set_eq, nl, g0, g1, g2, g3, g4, g6, zq_Desk_layTrees, zd_c, E1 F (by omega), zd_g, zd_w hk, zq_Win_prepare, cw, E2 F (by omega)]
  generalize zm_up (zm_up (zm_up (zm_up (zm_up ν1 (zdW k) 3 kd) (zdW k + 1) 0 w) (zdW k + 1) 1 v) (zdW k) 4 o) (zdW k) 5 (-1) = ν2 at p2 q2 q3 q4 r0 r1 S2
  clear E1 E2
  have f2 : ∀ c, ¬ zJ_irr c → c ≠ zdW k → c ≠ zdW k + 1 → ν2 c = μ c := fun c a1 a2 a3 => (p2 c a2 a3).trans (ev1 c a1)
  have w22 : ν2 (zdW k) 2 = μ (zdW k) 2 := by rw [q2, ev1 _ (zJn_W hk).1]
  have SS := (S0.trans S1).trans S2
  have laid_of : ∀ ξ : zm_M, (∀ c, c ≠ zdW k → c ≠ zdW k + 1 → ξ c = ν1 c) → ∀ q, q < 3 → zd_laid ξ q (Rs q) (ts q) := by
    intro ξ hξ q hq
    have := hlaid q hq
    have rT : ∀ j, ξ (zdT q + j) = ν1 (zdT q + j) := fun j => hξ _ (by unfold zdT zdW; omega) (by unfold zdT zdW; omega)
    have rZ : ξ (zdZ q) = ν1 (zdZ q) := hξ _ (by unfold zdZ zdW; omega) (by unfold zdZ zdW; omega)
    unfold zd_laid at *
    have eP : zt_P ξ (zdT q) = zt_P ν1 (zdT q) := by
      funext n x y a b
      unfold zt_P
      rw [rT, rT, rT, rT]
    rw [eP, rT, rT, rT, rT, rT, rZ]
    exact this
  have hsz : 1 ≤ w ∧ w ≤ 200 ∧ 1 ≤ v ∧ v ≤ 200 := ⟨ha.1.2.1.1, ha.1.2.1.2, ha.1.2.2⟩
  by_cases c1 : kd = 1
  · subst c1
    have ho : o = -1 := ha.2.2 (by decide)
    let ξ := zm_up ν2 (zdW k) 5 (nI s)
    have fξ : ∀ c, ¬ zJ_irr c → c ≠ zdW k → c ≠ zdW k + 1 → ξ c = μ c := fun c a1 a2 a3 => (zm_up_row a2).trans (f2 c a1 a2 a3)
    have ξ2 : ξ (zdW k) 2 = μ (zdW k) 2 := (zm_up_ne (by omega)).trans w22
    have ξ3 : ξ (zdW k) 3 = 1 := (zm_up_ne (by omega)).trans q3
    have ξ4 : ξ (zdW k) 4 = o := (zm_up_ne (by omega)).trans q4
    have ξ5 : ξ (zdW k) 5 = nI s := zm_up_eq
    have ξL : ξ (zdW k + 1) = ν2 (zdW k + 1) := zm_up_row (by omega)
    have hprep : zd_prep μ ξ Rs ts k 1 w v o := ⟨fξ, ξ2, ξ3, ξ4, by rw [ξL]; exact r0, by rw [ξL]; exact r1, laid_of ξ (fun c a1 a2 => (zm_up_row a1).trans (p2 c a1 a2))⟩
    have hJ : zJ ξ row stk Rs ts := zJ_free h hk hnt ξ2 fξ
    have hC := (hJ.2.2.2.1 s hs).1
    have hkR : k ∉ Rs s := fun q => by
      have := ((h.2.2.2.1 s hs).2.1 k).mp q
      have : zd_th μ k = true := decide_eq_true (of_decide_eq_true this.2.1).1
      rw [hnt] at this
      cases this
    have hrb : ∀ j ∈ row, j < 10 := fun j hj => ((h.1.2.2 j).mp hj).1
    have refuse : ∀ ν3 : zm_M, (∀ c, zt_out 7 c → ν3 c = ξ c) → ze_E (D + 15) A_Desk_findRoom [.ref 1, .int (nI k), .int (nI s)] (zm_mk ν2) (some (.int 0)) (zm_mk ν3) → zd_tld ξ ν3 s k row (Rs s) (ts s) 0 (Rs s) (ts s) → ∃ ν r row' stk' Rs' ts', ze_E (D + 16) A_Desk_open [.ref 1, .int 1, .int w, .int v, .int o] (zm_mk μ) (some (.int r)) (zm_mk ν) ∧ zJ ν row' stk' Rs' ts' ∧ zd_opnx μ ν row row' Rs Rs' ts ts' 1 w v o r := by
      intro ν3 fr E hT
      have f3 : ∀ c, ¬ zJ_irr c → c ≠ zdW k → c ≠ zdW k + 1 → ν3 c = μ c := fun c a1 a2 a3 => (fr c (zJn_7 a1)).trans (fξ c a1 a2 a3)
      have w3 : ν3 (zdW k) 2 = μ (zdW k) 2 := by rw [fr _ (by unfold zt_out zdW; omega)]; exact ξ2
      exact ⟨ν3, _, row, stk, Rs, ts, ze_in [(0, .ref 1), (1, .int 1), (2, .int w), (3, .int v), (4, .int o)] zq_Desk_open (Nat.le_of_ble_eq_true rfl) rfl (SS.end (ze_open_2 (kd := 1) (w := w) (v := v) (o := o) (D + 15) nl g0 g6 g7 E)), zJ_free h hk hnt w3 f3, Or.inr ⟨ha, k, s, ξ, hk, hs, hnt, hlt, eo, hst, hprep, Or.inl ⟨Or.inl ⟨rfl, ν3, hT⟩, f3, w3, rfl, rfl, rfl, rfl⟩⟩⟩
    have accept : ∀ (ν3 : zm_M) (R' : List Nat) (t' : zy_F), (∀ c, zt_out 7 c → zt_out (zdT s) c → ν3 c = ξ c) → ze_E (D + 15) A_Desk_findRoom [.ref 1, .int (nI k), .int (nI s)] (zm_mk ν2) (some (.int 1)) (zm_mk ν3) → zd_tld ξ ν3 s k row (Rs s) (ts s) 1 R' t' → zt_C ν3 (zdT s) R' t' → (∀ j, j ∈ R' ↔ (j ∈ Rs s ∨ j = k)) → (∀ u, ν3 (zdT s + 5) u = if u = k then ξ (zdW k + 1) 0 else ξ (zdT s + 5) u) → (∀ u, ν3 (zdT s + 6) u = if u = k then ξ (zdW k + 1) 1 else ξ (zdT s + 6) u) → zt_fit ν3 (zdT s) (zdZ s) R' t' = true → ∃ ν r row' stk' Rs' ts', ze_E (D + 16) A_Desk_open [.ref 1, .int 1, .int w, .int v, .int o] (zm_mk μ) (some (.int r)) (zm_mk ν) ∧ zJ ν row' stk' Rs' ts' ∧ zd_opnx μ ν row row' Rs Rs' ts ts' 1 w v o r := by
      intro ν3 R' t' fr E hT hC' hR' h5 h6 hfit
      obtain ⟨h0, hcame, hrows⟩ := zJ0_tiled h hk hs hnt hst hsz fξ ξ3 (ξ4.trans ho) ξ5 (by rw [ξL]; exact r0) (by rw [ξL]; exact r1) fr hC' hR' (fun j hj => ⟨by rw [h5, if_neg (fun (e : j = k) => hkR (e ▸ hj))], by rw [h6, if_neg (fun (e : j = k) => hkR (e ▸ hj))]⟩) ⟨by rw [h5, if_pos rfl, ξL]; exact r0, by rw [h6, if_pos rfl, ξL]; exact r1⟩ hfit
      obtain ⟨ν5, stk', E5, hJ5, hf5⟩ := ze_open_4x D h hk hs hnt hcame h0
      rw [← ho] at hcame
      exact ⟨ν5, _, k :: row, stk', zd_upd Rs s R', zd_upd ts s t', ze_in [(0, .ref 1), (1, .int 1), (2, .int w), (3, .int v), (4, .int o)] zq_Desk_open (Nat.le_of_ble_eq_true rfl) rfl (SS.end (ze_open_3 (D + 15) hk nl g0 g6 g7 E E5)), hJ5, Or.inr ⟨ha, k, s, ξ, hk, hs, hnt, hlt, eo, hst, hprep, Or.inr ⟨Or.inl ⟨rfl, ν3, _, R', t', hT, rfl, rfl, hcame, hrows, hf5⟩, rfl, rfl⟩⟩⟩
    rcases zd_lah_or hC.1 row hrb with ⟨et, -⟩ | ⟨n, hn, elah⟩
    · have hRn : Rs s = [] := zt_I_nil (μ := ξ) (T := zdT s) (by rw [← et]; exact hC.1)
      have hC0 : zt_C ξ (zdT s) [] .nil := by
        rw [← et, ← hRn]
        exact hC
      obtain ⟨ν3, b, E3, hT0, fr⟩ := ze_tile0 (μ := ξ) (D + 8) hk hs hJ.1.1 hrb hC0
      obtain ⟨ξ7, n, f7, hN, hcase⟩ := id hT0
      rcases hcase with ⟨hfit, rfl, hN'⟩ | ⟨hfit, rfl, fr'⟩
      · refine accept ν3 [k] (.tag n .nil) fr (ze_findRoom_1 (D + 14) hk hs q3 (Or.inr rfl) E3) (Or.inl ⟨et, hT0, fun _ => ⟨n, rfl, rfl, hN'⟩⟩) hN'.1 (fun j => ?_) hN'.2.2.2.1 hN'.2.2.2.2.1 ?_
        · rw [hRn]
          simp
        · rw [zt_fit_copy (A := ξ7) (T := 7) (zt_isNew_cp hN hN') (by rw [fr _ (by unfold zt_out zdZ; omega) (by unfold zt_out zdZ zdT; omega), f7 _ (by unfold zt_out zdZ; omega)])]
          exact hfit
      · exact refuse ν3 fr' (ze_findRoom_1 (D + 14) hk hs q3 (Or.inl rfl) E3) (Or.inl ⟨et, hT0, fun e => absurd e (by decide)⟩)
    · obtain ⟨ν3, b, E3, hTN, fr⟩ := ze_tileN (μ := ξ) (D + 8) hk hs hJ.1.1 hrb hC hkR hn elah
      have hz : ∀ ξ7 : zm_M, zt_frT 7 ξ ξ7 → ν3 (zdZ s) = ξ7 (zdZ s) := fun ξ7 f7 => by rw [fr _ (by unfold zt_out zdZ; omega) (by unfold zt_out zdZ zdT; omega), f7 _ (by unfold zt_out zdZ; omega)]
      have hmem : ∀ j, j ∈ Rs s ++ [k] ↔ (j ∈ Rs s ∨ j = k) := fun j => by simp
      obtain ⟨ξ1, c1, d1, g1', hK1, hcase⟩ := id hTN
      obtain ⟨a, ha2, ea⟩ : ∃ a, a < 2 ∧ (if ξ (zdT s + 23) n ≤ ξ (zdT s + 22) n then 0 else 1) = a := ⟨_, by split <;> omega, rfl⟩
      rw [ea] at hK1 hcase
      rcases hcase with ⟨hfit, rfl, hK'⟩ | ⟨hfit, ξ2', c2, d2, g2', hK2, hcase⟩
      · refine accept ν3 (Rs s ++ [k]) (zy_cut n c1 d1 (ts s)) fr (ze_findRoom_1 (D + 14) hk hs q3 (Or.inr rfl) E3) (Or.inr ⟨n, hn, elah, hTN, fun _ => ⟨rfl, Or.inl ⟨a, c1, d1, ha2, rfl, hK'⟩⟩⟩) hK'.1 hmem hK'.2.2.2.1 hK'.2.2.2.2.1 ?_
        rw [zt_fit_copy (A := ξ1) (T := 7) (zt_isCut_cp hK1 hK') (hz ξ1 g1')]
        exact hfit
      · rcases hcase with ⟨hfit2, rfl, hK'⟩ | ⟨hfit2, ξ3', g3', hK3, hcase⟩
        · refine accept ν3 (Rs s ++ [k]) (zy_cut n c2 d2 (ts s)) fr (ze_findRoom_1 (D + 14) hk hs q3 (Or.inr rfl) E3) (Or.inr ⟨n, hn, elah, hTN, fun _ => ⟨rfl, Or.inl ⟨1 - a, c2, d2, by omega, rfl, hK'⟩⟩⟩) hK'.1 hmem hK'.2.2.2.1 hK'.2.2.2.2.1 ?_
          rw [zt_fit_copy (A := ξ2') (T := 7) (zt_isCut_cp hK2 hK') (hz ξ2' g2')]
          exact hfit2
        · rcases hcase with ⟨hfit3, rfl, hK'⟩ | ⟨hfit3, rfl, fr'⟩
          · refine accept ν3 (Rs s ++ [k]) (ts s) fr (ze_findRoom_1 (D + 14) hk hs q3 (Or.inr rfl) E3) (Or.inr ⟨n, hn, elah, hTN, fun _ => ⟨rfl, Or.inr ⟨rfl, hK'⟩⟩⟩) hK'.1 hmem hK'.2.2.1 hK'.2.2.2.1 ?_
            rw [zt_fit_copy (A := ξ3') (T := 7) (zt_isTab_cp hK3 hK') (hz ξ3' g3')]
            exact hfit3
          · exact refuse ν3 fr' (ze_findRoom_1 (D + 14) hk hs q3 (Or.inl rfl) E3) (Or.inr ⟨n, hn, elah, hTN, fun e => absurd e (by decide)⟩)
  · have hkd : kd = 2 ∨ kd = 3 ∨ kd = 4 := by
      obtain ⟨⟨a1, a2⟩, -⟩ := ha.1
      have b1 := Int32.le_iff_toInt_le.mp a1
      have b2 := Int32.le_iff_toInt_le.mp a2
      rw [show (1 : Int32).toInt = 1 by decide] at b1
      rw [show (4 : Int32).toInt = 4 by decide] at b2
      have b3 : kd.toInt ≠ 1 := fun e => c1 (Int32.toInt_inj.mp (by rw [e]; decide))
      rcases (by omega : kd.toInt = 2 ∨ kd.toInt = 3 ∨ kd.toInt = 4) with e | e | e
      · exact Or.inl (Int32.toInt_inj.mp (by rw [e]; decide))
      · exact Or.inr (Or.inl (Int32.toInt_inj.mp (by rw [e]; decide)))
      · exact Or.inr (Or.inr (Int32.toInt_inj.mp (by rw [e]; decide)))
    have hprep : zd_prep μ ν2 Rs ts k kd w v o := ⟨f2, w22, q3, q4, r0, r1, laid_of ν2 p2⟩
    have accept : ∀ ν3 : zm_M, (∀ c b, ¬ (c = zdW k ∧ b = 5) → c ≠ zdW k + 2 → ν3 c b = ν2 c b) → (¬ kd = 4 → ν3 (zdW k) 5 = nI s) → ze_E (D + 15) A_Desk_findRoom [.ref 1, .int (nI k), .int (nI s)] (zm_mk ν2) (some (.int 1)) (zm_mk ν3) → (kd = 4 ∨ zd_whole ν2 (zdZ s) k = true) → ∃ ν r row' stk' Rs' ts', ze_E (D + 16) A_Desk_open [.ref 1, .int kd, .int w, .int v, .int o] (zm_mk μ) (some (.int r)) (zm_mk ν) ∧ zJ ν row' stk' Rs' ts' ∧ zd_opnx μ ν row row' Rs Rs' ts ts' kd w v o r := by
      intro ν3 fr h5 E hc
      have e1 : ν3 (zdW k + 1) = ν2 (zdW k + 1) := funext fun b => fr _ b (by omega) (by omega)
      have hcame : zd_came μ (zm_up ν3 (zdW k) 2 1) k s kd w v o := by
        refine ⟨fun c a1 a2 a3 _ => ?_, zm_up_eq, ?_, ?_, fun q => ?_, ?_, ?_⟩
        · rw [zm_up_row a2, ← f2 c a1 a2 a3]
          funext b
          exact fr c b (fun e => a2 e.1) (fun e => a1 (by unfold zJ_irr; rw [e]; unfold zdW; omega))
        · rw [zm_up_ne (by omega), fr _ _ (by omega) (by omega)]; exact q3
        · rw [zm_up_ne (by omega), fr _ _ (by omega) (by omega)]; exact q4
        · rw [zm_up_ne (by omega)]; exact h5 q
        · rw [zm_up_ne (by omega), e1]; exact r0
        · rw [zm_up_ne (by omega), e1]; exact r1
      obtain ⟨ν5, stk', E5, hJ5, hf5⟩ := ze_open_4x D h hk hs hnt hcame (zJ0_other h hk hs hnt hst hkd hsz ha.2.1 ha.2.2 hcame)
      exact ⟨ν5, _, k :: row, stk', Rs, ts, ze_in [(0, .ref 1), (1, .int kd), (2, .int w), (3, .int v), (4, .int o)] zq_Desk_open (Nat.le_of_ble_eq_true rfl) rfl (SS.end (ze_open_3 (D + 15) hk nl g0 g6 g7 E E5)), hJ5, Or.inr ⟨ha, k, s, ν2, hk, hs, hnt, hlt, eo, hst, hprep, Or.inr ⟨Or.inr ⟨c1, hc, rfl, rfl, _, hcame, hf5⟩, rfl, rfl⟩⟩⟩
    by_cases c4 : kd = 4
    · obtain ⟨ν3, E3, f3⟩ := ze_findRoom_4 (μ := ν2) (D + 14) hk (nI s) (q3.trans c4)
      exact accept ν3 (fun c b _ a2 => by rw [f3 c a2]) (fun q => absurd c4 q) E3 (Or.inl c4)
    · have n1 : ¬ ν2 (zdW k) 3 = 1 := by rw [q3]; exact c1
      have n4 : ¬ ν2 (zdW k) 3 = 4 := by rw [q3]; exact c4
      cases hw : zd_whole ν2 (zdZ s) k with
      | true =>
        have hJ2 : zJ ν2 row stk Rs ts := zJ_free h hk hnt w22 f2
        obtain ⟨ν3, E3, w5, f3⟩ := ze_findRoom_23 (μ := ν2) (D + 10) hk hs n1 n4 hw (fun e => by
          obtain ⟨j, hj, ej, hjt⟩ := ha.2.1 (by rw [← q3]; exact e)
          exact ⟨j, hj, fun e => (by rw [e, hnt] at hjt; cases hjt), (by rw [q4]; exact ej), zJ_scr hJ2 hj⟩)
        exact accept ν3 f3 (fun _ => w5) E3 (Or.inr hw)
      | false =>
        have E3 := ze_findRoom_no (μ := ν2) (D + 13) hk hs n1 n4 hw
        exact ⟨ν2, _, row, stk, Rs, ts, ze_in [(0, .ref 1), (1, .int kd), (2, .int w), (3, .int v), (4, .int o)] zq_Desk_open (Nat.le_of_ble_eq_true rfl) rfl (SS.end (ze_open_2 (kd := kd) (w := w) (v := v) (o := o) (D + 15) nl g0 g6 g7 E3)), zJ_free h hk hnt w22 f2, Or.inr ⟨ha, k, s, ν2, hk, hs, hnt, hlt, eo, hst, hprep, Or.inl ⟨Or.inr ⟨c1, c4, hw⟩, f2, w22, rfl, rfl, rfl, rfl⟩⟩⟩
def zd_drgdx (μ ν : zm_M) (row row' : List Nat) (Rs Rs' : Nat → List Nat) (ts ts' : Nat → zy_F) (w x y r : Int32) : Prop :=
  ((¬ ∃ k o sd, zd_darg μ w x y k o sd) ∧ ν = μ ∧ row' = row ∧ Rs' = Rs ∧ ts' = ts ∧ zx_ref (zd_drA μ w x y) r) ∨
  ∃ k o sd a b ν1 R2 t2, zd_darg μ w x y k o sd ∧ a < 3 ∧ b < 3 ∧ μ (zdW k) 5 = nI a ∧ μ (zdW o) 5 = nI b ∧ zt_frT 7 μ ν1 ∧ zd_trl μ ν1 Rs ts k o sd b R2 t2 ∧
    (((zt_fit ν1 7 (zdZ b) R2 t2 = false ∨ (¬ a = b ∧ zl_al (zd_gwf μ (zd_grp μ k) (zdZ b)) 10 = false)) ∧ zJ_eqv μ ν ∧ row' = row ∧ Rs' = Rs ∧ ts' = ts ∧ r = -1000000002) ∨
     ((zt_fit ν1 7 (zdZ b) R2 t2 = true ∧ (a = b ∨ zl_al (zd_gwf μ (zd_grp μ k) (zdZ b)) 10 = true)) ∧ row' = k :: row.erase k ∧ ∃ n ν6, n ∈ zy_lvs (ts a) ∧ μ (zdT a + 3) k = nI n ∧ Rs' = zd_drR Rs k a b R2 ∧ ts' = zd_drT μ Rs ts k a b n t2 ∧
        (∀ c d, ¬ zJ_irr c → zt_out (zdT a) c → zt_out (zdT b) c → (∀ q, q < 3 → c = zdK q → d ≠ 3) → (∀ j, j < 10 → c = zdW j → d ≠ 5) → ν6 c d = μ c d) ∧ (∀ q, q < 3 → ν6 (zdK q) 3 = if zd_has μ q k = true then 0 else μ (zdK q) 3) ∧
        (∀ j, j < 10 → ν6 (zdW j) 5 = if ¬ a = b ∧ zd_grp μ k j = true then nI b else μ (zdW j) 5) ∧ (¬ a = b → zt_isOut μ (zdT a) (Rs a) (ts a) n k ν6 (zdT a)) ∧ zt_isCopy ν1 7 ν6 (zdT b) ∧ zt_C ν6 (zdT b) R2 t2 ∧ zd_fox ν6 ν k ∧ r = 0))
set_option maxRecDepth 100000 in
theorem ze_drag_x (D : Nat) (h : zJ μ row stk Rs ts) (w x y : Int32) : ∃ ν r row' stk' Rs' ts', ze_E (D + 16) A_Desk_drag [.ref 1, .int w, .int x, .int y] (zm_mk μ) (some (.int r)) (zm_mk ν) ∧ zJ ν row' stk' Rs' ts' ∧ zd_drgdx μ ν row row' Rs Rs' ts ts' w x y r := by
  have n2 : Int32.ofInt (-1000000002) = -1000000002 := by decide
  rcases ze_drag_0_v (D + 14) h w x y with ⟨hno, r, hr, G⟩ | ⟨k, o, sd, hd, S0⟩
  · exact ⟨μ, r, row, stk, Rs, ts, ze_in [(0, .ref 1), (1, .int w), (2, .int x), (3, .int y)] zq_Desk_drag (Nat.le_of_ble_eq_true rfl) rfl G, h, Or.inl ⟨hno, rfl, rfl, rfl, rfl, hr⟩⟩
  obtain ⟨⟨hk, ho, hsd⟩, ⟨rfl, rfl, rfl⟩, htk, hto, hko⟩ := id hd
  obtain ⟨a, ha, ea, hkR, n, hn, en⟩ := zJ_til h hk htk
  obtain ⟨b, hb, eb, hoR, -⟩ := zJ_til h ho hto
  have hbt : ¬ μ (zdS b) 3 = 0 := by
    obtain ⟨-, -, a3, -, -⟩ := h.2.2.1 o ho (decide_eq_true (of_decide_eq_true hto).1)
    obtain ⟨s', b1, b2, b3⟩ := a3 (by rw [(of_decide_eq_true hto).2]; decide)
    rw [(nI_eq (by omega) (by omega)).mp (eb.symm.trans b2)]
    exact b3
  obtain ⟨ν1, ν0, R', t', m, ⟨N1, E1⟩, d1, d2, d3, d4, f1⟩ := ze_tryDrag (μ := μ) (D + 10) hk ho hko hb hsd eb (h.2.2.2.1 b hb).1.1 hoR
  obtain ⟨R2, t2, htr⟩ := zd_trl_of d1 d2 d3 d4
  obtain ⟨C1, hR2, h52⟩ := zd_trl_R h hb htr
  -- the group
  obtain ⟨ν2, ⟨N2, E2⟩, f2, hg2⟩ := ze_gatherWithDialogs (μ := ν1) (D + 12) hk
  have w1 : ∀ j, ν1 (zdW j) = μ (zdW j) := fun j => f1 _ (by unfold zt_out zdW; omega)
  have eow : zd_ow ν1 = zd_ow μ := funext fun j => by unfold zd_ow; rw [w1]
  have edl : zd_dl ν1 = zd_dl μ := funext fun j => by unfold zd_dl; rw [eow, w1, w1]
  rw [eow, edl] at hg2
  have hg2 : zd_gr ν2 (zd_grp μ k) := hg2
  have o2 : ∀ c, zt_out 7 c → c ≠ 31 → ν2 c = μ c := fun c h1 h2 => (f2 c h2).trans (f1 c h1)
  have C2 : zt_C ν2 7 R2 t2 := zt_C_congr (fun c h1 h2 => f2 c (by omega)) C1
  have ev2 : zJ_eqv μ ν2 := fun c hc => o2 c (zJn_7 hc) (fun e => hc (by rw [e]; unfold zJ_irr; omega))
  obtain ⟨N3, E3⟩ := ze_fitsC (μ := ν2) (D + 13) zd7_at C2 (zdZ_A hb)
  have efit : zt_fit ν2 7 (zdZ b) R2 t2 = zt_fit ν1 7 (zdZ b) R2 t2 := zt_fit_copy ⟨f2 _ (by decide), f2 _ (by decide), f2 _ (by decide), f2 _ (by decide), f2 _ (by decide), f2 _ (by decide)⟩ (f2 _ (by unfold zdZ; omega))
  rw [efit] at E3
  obtain ⟨N4, E4⟩ := ze_groupCanBeWhole (μ := ν2) (D + 13) hg2 hb
  have egw : zl_al (zd_gwf ν2 (zd_grp μ k) (zdZ b)) 10 = zl_al (zd_gwf μ (zd_grp μ k) (zdZ b)) 10 := by
    have key : ∀ j, j < 10 → zd_gwf ν2 (zd_grp μ k) (zdZ b) j = zd_gwf μ (zd_grp μ k) (zdZ b) j := fun j hj => by
      unfold zd_gwf zd_flo zd_whole
      rw [ev2 _ (zJn_W hj).1, ev2 _ (zJn_W hj).2, ev2 _ (zJn_S hb).2.1]
    cases hc : zl_al (zd_gwf μ (zd_grp μ k) (zdZ b)) 10 with
    | true => exact (zl_al_iff 10).mpr (fun j hj => by rw [key j hj]; exact (zl_al_iff 10).mp hc j hj)
    | false =>
      cases hc2 : zl_al (zd_gwf ν2 (zd_grp μ k) (zdZ b)) 10 with
      | false => rfl
      | true =>
        rw [(zl_al_iff 10).mpr (fun j hj => by rw [← key j hj]; exact (zl_al_iff 10).mp hc2 j hj)] at hc
        cases hc
  rw [egw] at E4
  have S1 : ze_S (D + 15) 6 (some .int) zc_X5_drag 63 [(0, .ref 1), (1, .int (nI k)), (2, .int (nI o)), (3, .int (nI sd))] [] (zm_mk μ) 97 [(5, .int (nI b)), (4, .int (nI a)), (0, .ref 1), (1, .int (nI k)), (2, .int (nI o)), (3, .int (nI sd))] [] (zm_mk ν2) := by
    refine ⟨N1 + N2, 20, fun F n hF => ?_⟩
    simp [zi_go, zf_X5_drag, zi_ask, zi_new, zi_step, zi_ld, zi_lda, zi_cmp, zi_retOk, zi_isI, zi_f3, zi_cr, zi_ci, zi_cn, zi_get, zi_set, zd_g, zd_w hk, zd_w ho, zw_g (zdW_at hk), zw_g (zdW_at ho), ea, eb, zq_Desk_tryDrag, zd_c, E1 F (by omega), zq_Desk_gatherWithDialogs, E2 F (by omega)]
  have SS := S0.trans S1
  generalize hL : ([(5, .int (nI b)), (4, .int (nI a)), (0, .ref 1), (1, .int (nI k)), (2, .int (nI o)), (3, .int (nI sd))] : zi_Lc) = L at SS
  have nl : zi_nl L = true := by rw [← hL]; rfl
  have g0 : zi_get L 0 = some (.ref 1) := by rw [← hL]; rfl
  have g1 : zi_get L 1 = some (.int (nI k)) := by rw [← hL]; rfl
  have g4 : zi_get L 4 = some (.int (nI a)) := by rw [← hL]; rfl
  have g5 : zi_get L 5 = some (.int (nI b)) := by rw [← hL]; rfl
  clear hL
  obtain ⟨l7, c7⟩ := zt_c (μ := ν2) zd7_at
  have refuse : (zt_fit ν1 7 (zdZ b) R2 t2 = false ∨ (¬ a = b ∧ zl_al (zd_gwf μ (zd_grp μ k) (zdZ b)) 10 = false)) → ze_G (D + 15) 6 (some .int) zc_X5_drag 97 L [] (zm_mk ν2) (some (.int (-1000000002))) (zm_mk ν2) → ∃ ν r row' stk' Rs' ts', ze_E (D + 16) A_Desk_drag [.ref 1, .int (nI k), .int (nI o), .int (nI sd)] (zm_mk μ) (some (.int r)) (zm_mk ν) ∧ zJ ν row' stk' Rs' ts' ∧ zd_drgdx μ ν row row' Rs Rs' ts ts' (nI k) (nI o) (nI sd) r := fun hc G =>
    ⟨ν2, _, row, stk, Rs, ts, ze_in [(0, .ref 1), (1, .int (nI k)), (2, .int (nI o)), (3, .int (nI sd))] zq_Desk_drag (Nat.le_of_ble_eq_true rfl) rfl (SS.end G), h.eqv ev2, Or.inr ⟨k, o, sd, a, b, ν1, R2, t2, hd, ha, hb, ea, eb, f1, htr, Or.inl ⟨hc, ev2, rfl, rfl, rfl, rfl⟩⟩⟩
  cases hfit : zt_fit ν1 7 (zdZ b) R2 t2 with
  | false =>
    rw [hfit, if_neg (by decide)] at E3
    refine refuse (Or.inl hfit) ⟨N3, 11, fun F n hF => ?_⟩
    simp (maxDischargeDepth := 9) [zi_go, zf_X5_drag, zi_ask, zi_new, zi_step, zi_ld, zi_lda, zi_cmp, zi_retOk, zi_isI, zi_f3, zi_cr, zi_ci, zi_cn, zi_get_ne, zi_nl_i, zi_nl_r, zi_get_set_eq, nl, g0, g5, zd_g, zd_s hb, zdS_g hb, zq_Tree_fits, c7, E3 F (by omega), n2]
  | true =>
    rw [hfit, if_pos rfl] at E3
    have accept : (a = b ∨ zl_al (zd_gwf μ (zd_grp μ k) (zdZ b)) 10 = true) → ze_S (D + 15) 6 (some .int) zc_X5_drag 97 L [] (zm_mk ν2) 136 L [] (zm_mk ν2) → ∃ ν r row' stk' Rs' ts', ze_E (D + 16) A_Desk_drag [.ref 1, .int (nI k), .int (nI o), .int (nI sd)] (zm_mk μ) (some (.int r)) (zm_mk ν) ∧ zJ ν row' stk' Rs' ts' ∧ zd_drgdx μ ν row row' Rs Rs' ts ts' (nI k) (nI o) (nI sd) r := by
      intro hab S2
      obtain ⟨ν3, ⟨N5, E5⟩, k3, f3⟩ := ze_forgetKeptWith (μ := ν2) (D + 12) hk
      have hhas : ∀ q, q < 3 → zd_has ν2 q k = zd_has μ q k := fun q hq => by
        unfold zd_has
        rw [ev2 _ (zJn_S hq).2.2.1, ev2 _ (zJn_S hq).2.2.2, ev2 _ (zJn_T hq (j := 3) (by decide)).2]
      have r3 : ∀ c, (∀ q, q < 3 → c ≠ zdK q) → ν3 c = ν2 c := fun c hc => funext fun d => f3 c d (fun q hq e => absurd e (hc q hq))
      have t3 : ∀ q, q < 3 → ∀ j, j < 24 → ν3 (zdT q + j) = μ (zdT q + j) := fun q hq j hj => by
        rw [r3 _ (fun q' hq' => by unfold zdT zdK; omega), o2 _ (by unfold zt_out zdT; omega) (by unfold zdT; omega)]
      have hIa : zt_I ν3 (zdT a) (Rs a) (ts a) := zt_same.I ⟨t3 a ha _ (by omega), t3 a ha _ (by omega), t3 a ha _ (by omega), t3 a ha _ (by omega), t3 a ha _ (by omega), t3 a ha _ (by omega), t3 a ha _ (by omega), t3 a ha _ (by omega), t3 a ha _ (by omega), t3 a ha _ (by omega), t3 a ha _ (by omega), by rw [show ν3 (zdT a) = μ (zdT a) from t3 a ha 0 (by omega)]⟩ (h.2.2.2.1 a ha).1.1
      obtain ⟨ν4, ⟨N6, E6⟩, O4, f4⟩ := ze_takeOutI (μ := μ) (Q := zdT a) (D + 11) (zdT_at ha) hIa ⟨t3 a ha _ (by omega), t3 a ha _ (by omega), t3 a ha _ (by omega), t3 a ha _ (by omega), t3 a ha _ (by omega), t3 a ha _ (by omega)⟩ hn hkR en
      have r4 : ∀ c, 7 ≤ c → c < 31 → ν4 c = ν1 c := fun c h1 h2 => by
        rw [f4 c (by unfold zt_out zdT; omega), r3 c (fun q hq => by unfold zdK; omega), f2 c (by omega)]
      have I4 : zt_I ν4 7 R2 t2 := (zt_C_congr (fun c h1 h2 => r4 c h1 (by omega)) C1).1
      obtain ⟨ν5, ⟨N7, E7⟩, C5, f5, l3, l5, l6, l7', l8, l12⟩ := ze_Tree_copyFrom (μ := ν4) (D + 11) (zdT_at hb) zd7_at (by unfold zdT; omega) I4
      have cp5 : zt_isCopy ν1 7 ν5 (zdT b) := ⟨l3.trans (r4 _ (by omega) (by omega)), l5.trans (r4 _ (by omega) (by omega)), l6.trans (r4 _ (by omega) (by omega)), l7'.trans (r4 _ (by omega) (by omega)), l8.trans (r4 _ (by omega) (by omega)), l12.trans (r4 _ (by omega) (by omega))⟩
      -- frames so far
      have fr5 : ∀ c d, zt_out 7 c → c ≠ 31 → zt_out (zdT a) c → zt_out (zdT b) c → (∀ q, q < 3 → c = zdK q → d ≠ 3) → ν5 c d = μ c d := fun c d a1 a2 a3 a4 a5 => by
        rw [f5 c a4, f4 c a3, f3 c d a5, o2 c a1 a2]
      have fk5 : ∀ q, q < 3 → ν5 (zdK q) 3 = if zd_has μ q k = true then 0 else μ (zdK q) 3 := fun q hq => by
        rw [f5 _ (zJn_out hb (Or.inr (Or.inr (Or.inl ⟨q, hq, Or.inr (Or.inr (Or.inl rfl))⟩)))), f4 _ (zJn_out ha (Or.inr (Or.inr (Or.inl ⟨q, hq, Or.inr (Or.inr (Or.inl rfl))⟩)))), k3 q hq, ev2 _ (zJn_S hq).2.2.1]
        simp only [hhas q hq]
      have O5 : ¬ a = b → zt_isOut μ (zdT a) (Rs a) (ts a) n k ν5 (zdT a) := fun hne => by
        obtain ⟨p1, p2, p3, p4, p5, p6, p7⟩ := O4
        have r : ∀ j, j < 24 → ν5 (zdT a + j) = ν4 (zdT a + j) := fun j hj => f5 _ (by unfold zt_out zdT; omega)
        exact ⟨zt_C_congr (fun c h1 h2 => by have := r (c - zdT a) (by omega); rw [show zdT a + (c - zdT a) = c by omega] at this; exact this) p1, fun v => by rw [r 3 (by omega)]; exact p2 v, by rw [r 5 (by omega)]; exact p3, by rw [r 6 (by omega)]; exact p4, fun i hi => by rw [r 7 (by omega)]; exact p5 i hi, by rw [r 8 (by omega)]; exact p6, fun i => by rw [r 12 (by omega)]; exact p7 i⟩
      have gr5 : zd_gr ν5 (zd_grp μ k) := fun j hj => by
        rw [f5 _ (by unfold zt_out zdT; omega), f4 _ (by unfold zt_out zdT; omega), f3 31 j (fun q hq e => by unfold zdK at e; omega)]
        exact hg2 j hj
      have z5 : ν5 (zdZ b) = ν1 (zdZ b) := by
        funext d
        rw [fr5 _ _ (by unfold zt_out zdZ; omega) (by unfold zdZ; omega) (zJn_out ha (Or.inr (Or.inr (Or.inl ⟨b, hb, Or.inr (Or.inl rfl)⟩)))) (zJn_out hb (Or.inr (Or.inr (Or.inl ⟨b, hb, Or.inr (Or.inl rfl)⟩)))) (fun q hq e => by unfold zdZ zdK at e; omega), f1 _ (by unfold zt_out zdZ; omega)]
      obtain ⟨l3c, c3⟩ := zt_c (μ := ν3) (zdT_at ha)
      obtain ⟨l4c, c4⟩ := zt_c (μ := ν4) (zdT_at hb)
      have S3 : ze_S (D + 15) 6 (some .int) zc_X5_drag 136 L [] (zm_mk ν2) 172 L [] (zm_mk ν5) := by
        refine ⟨N5 + N6 + N7, 18, fun F m hF => ?_⟩
        simp (maxDischargeDepth := 9) [zi_go, zf_X5_drag, zi_ask, zi_new, zi_step, zi_ld, zi_lda, zi_cmp, zi_retOk, zi_isI, zi_f3, zi_cr, zi_ci, zi_cn, zi_get_ne, zi_nl_i, zi_nl_r, zi_get_set_eq, nl, g0, g1, g4, g5, zq_Desk_forgetKeptWith, zd_c, E5 F (by omega), zd_g, zd_s ha, zd_s hb, zdS_g ha, zdS_g hb, zq_Tree_takeOut, c3, E6 F (by omega), zq_Tree_copyFrom, c4, E7 F (by omega)]
      -- the dialogs
      have send : ∃ ν6, ze_S (D + 15) 6 (some .int) zc_X5_drag 172 L [] (zm_mk ν5) 185 L [] (zm_mk ν6) ∧ (∀ j, j < 10 → ν6 (zdW j) 5 = if ¬ a = b ∧ zd_grp μ k j = true then nI b else μ (zdW j) 5) ∧ ∀ c d, (∀ j, j < 10 → c = zdW j → d ≠ 5) → (∀ j, j < 10 → c ≠ zdW j + 2) → ν6 c d = ν5 c d := by
        have w5 : ∀ j, j < 10 → ν5 (zdW j) 5 = μ (zdW j) 5 := fun j hj => fr5 _ _ (by unfold zt_out zdW; omega) (by unfold zdW; omega) (zJn_out ha (Or.inr (Or.inl ⟨j, hj, Or.inl rfl⟩))) (zJn_out hb (Or.inr (Or.inl ⟨j, hj, Or.inl rfl⟩))) (fun q hq e => by unfold zdW zdK at e; omega)
        by_cases e : a = b
        · refine ⟨ν5, ⟨0, 3, fun F m hF => ?_⟩, fun j hj => by rw [if_neg (fun q => q.1 e)]; exact w5 j hj, fun _ _ _ _ => rfl⟩
          simp (maxDischargeDepth := 9) [zi_go, zf_X5_drag, zi_ask, zi_new, zi_step, zi_ld, zi_lda, zi_cmp, zi_retOk, zi_isI, zi_f3, zi_cr, zi_ci, zi_cn, zi_get_ne, zi_nl_i, zi_nl_r, zi_get_set_eq, nl, g4, g5, e]
        · have e' : ¬ nI a = nI b := fun q => e ((nI_eq (by omega) (by omega)).mp q)
          obtain ⟨ν6, ⟨N8, E8⟩, s1, s2⟩ := ze_sendGroup (μ := ν5) (D + 9) gr5 hb
          refine ⟨ν6, ⟨N8, 6, fun F m hF => ?_⟩, fun j hj => ?_, s2⟩
          · simp (maxDischargeDepth := 9) [zi_go, zf_X5_drag, zi_ask, zi_new, zi_step, zi_ld, zi_lda, zi_cmp, zi_retOk, zi_isI, zi_f3, zi_cr, zi_ci, zi_cn, zi_get_ne, zi_nl_i, zi_nl_r, zi_get_set_eq, nl, g0, g4, g5, e', zq_Desk_sendGroup, zd_c, E8 F (by omega)]
          · rw [s1 j hj, w5 j hj]
            by_cases q : zd_grp μ k j = true
            · rw [if_pos q, if_pos ⟨e, q⟩]
            · rw [if_neg q, if_neg (fun z => q z.2)]
      obtain ⟨ν6, S4, w6, f6⟩ := send
      have r6 : ∀ c, (∀ j, j < 10 → c ≠ zdW j) → (∀ j, j < 10 → c ≠ zdW j + 2) → ν6 c = ν5 c := fun c a1 a2 => funext fun d => f6 c d (fun j hj e => absurd e (a1 j hj)) a2
      have rT6 : ∀ q, q < 3 → ∀ j, ν6 (zdT q + j) = ν5 (zdT q + j) := fun q hq j => r6 _ (fun i hi => by unfold zdT zdW; omega) (fun i hi => by unfold zdT zdW; omega)
      have C6 : zt_C ν6 (zdT b) R2 t2 := zt_C_congr (fun c h1 h2 => r6 c (fun i hi => by unfold zdT at h1; unfold zdW; omega) (fun i hi => by unfold zdT at h1; unfold zdW; omega)) C5
      have cp6 : zt_isCopy ν1 7 ν6 (zdT b) := ⟨(rT6 b hb _).trans cp5.1, (rT6 b hb _).trans cp5.2.1, (rT6 b hb _).trans cp5.2.2.1, (rT6 b hb _).trans cp5.2.2.2.1, (rT6 b hb _).trans cp5.2.2.2.2.1, (rT6 b hb _).trans cp5.2.2.2.2.2⟩
      have fr6 : ∀ c d, ¬ zJ_irr c → zt_out (zdT a) c → zt_out (zdT b) c → (∀ q, q < 3 → c = zdK q → d ≠ 3) → (∀ j, j < 10 → c = zdW j → d ≠ 5) → ν6 c d = μ c d := fun c d a1 a2 a3 a4 a5 => by
        rw [f6 c d a5 (fun j hj e => a1 (by rw [e]; unfold zJ_irr zdW; omega))]
        exact fr5 c d (zJn_7 a1) (fun e => a1 (by rw [e]; unfold zJ_irr; omega)) a2 a3 a4
      have fk6 : ∀ q, q < 3 → ν6 (zdK q) 3 = if zd_has μ q k = true then 0 else μ (zdK q) 3 := fun q hq => by
        rw [r6 _ (fun i hi => by unfold zdK zdW; omega) (fun i hi => by unfold zdK zdW; omega)]
        exact fk5 q hq
      have O6 : ¬ a = b → zt_isOut μ (zdT a) (Rs a) (ts a) n k ν6 (zdT a) := fun hne => by
        obtain ⟨p1, p2, p3, p4, p5, p6, p7⟩ := O5 hne
        have r := rT6 a ha
        exact ⟨zt_C_congr (fun c h1 h2 => by have := r (c - zdT a); rw [show zdT a + (c - zdT a) = c by omega] at this; exact this) p1, fun v => by rw [r 3]; exact p2 v, by rw [r 5]; exact p3, by rw [r 6]; exact p4, fun i hi => by rw [r 7]; exact p5 i hi, by rw [r 8]; exact p6, fun i => by rw [r 12]; exact p7 i⟩
      have hJ6 := zJ_drag h hk ha hb hbt htk ea hn (G := zd_grp μ k) zd_grp_k (fun j hj q1 q2 => zd_grp_til h hj q1 q2) fr6 fk6 w6 O6 C6 hR2 (fun j hj => by rw [cp6.2.1, cp6.2.2.1]; exact h52 j hj) (by
        rw [zt_fit_copy (A := ν1) (T := 7) cp6 (by rw [r6 _ (fun i hi => by unfold zdZ zdW; omega) (fun i hi => by unfold zdZ zdW; omega)]; exact z5)]
        exact hfit)
      have htk6 : zd_th ν6 k = true := ((hJ6.1.2.2 k).mp ((h.1.2.2 k).mpr ⟨hk, decide_eq_true (of_decide_eq_true htk).1⟩)).2
      obtain ⟨ν7, stk', ⟨N9, E9⟩, hJ7, hf7⟩ := ze_giveFocusJx (μ := ν6) D hJ6 hk htk6
      refine ⟨ν7, 0, k :: row.erase k, stk', _, _, ze_in [(0, .ref 1), (1, .int (nI k)), (2, .int (nI o)), (3, .int (nI sd))] zq_Desk_drag (Nat.le_of_ble_eq_true rfl) rfl ((((SS.trans S2).trans S3).trans S4).end ⟨N9, 5, fun F m hF => ?_⟩), hJ7, Or.inr ⟨k, o, sd, a, b, ν1, R2, t2, hd, ha, hb, ea, eb, f1, htr, Or.inr ⟨⟨hfit, hab⟩, rfl, n, ν6, hn, en, rfl, rfl, fr6, fk6, w6, O6, cp6, C6, hf7, rfl⟩⟩⟩
      simp (maxDischargeDepth := 9) [zi_go, zf_X5_drag, zi_ask, zi_new, zi_step, zi_ld, zi_lda, zi_cmp, zi_retOk, zi_isI, zi_f3, zi_cr, zi_ci, zi_cn, zi_get_ne, zi_nl_i, zi_nl_r, zi_get_set_eq, nl, g0, g1, zq_Desk_giveFocus, zd_c, E9 F (by omega)]
    by_cases e : a = b
    · have e' : nI a = nI b := by rw [e]
      refine accept (Or.inl e) ⟨N3, 12, fun F m hF => ?_⟩
      simp (maxDischargeDepth := 9) [zi_go, zf_X5_drag, zi_ask, zi_new, zi_step, zi_ld, zi_lda, zi_cmp, zi_retOk, zi_isI, zi_f3, zi_cr, zi_ci, zi_cn, zi_get_ne, zi_nl_i, zi_nl_r, zi_get_set_eq, nl, g0, g4, g5, zd_g, zd_s hb, zdS_g hb, zq_Tree_fits, c7, E3 F (by omega), e]
    · have e' : ¬ nI a = nI b := fun q => e ((nI_eq (by omega) (by omega)).mp q)
      cases hgw : zl_al (zd_gwf μ (zd_grp μ k) (zdZ b)) 10 with
      | false =>
        rw [hgw, if_neg (by decide)] at E4
        refine refuse (Or.inr ⟨e, hgw⟩) ⟨N3 + N4, 18, fun F n hF => ?_⟩
        simp (maxDischargeDepth := 9) [zi_go, zf_X5_drag, zi_ask, zi_new, zi_step, zi_ld, zi_lda, zi_cmp, zi_retOk, zi_isI, zi_f3, zi_cr, zi_ci, zi_cn, zi_get_ne, zi_nl_i, zi_nl_r, zi_get_set_eq, nl, g0, g4, g5, zd_g, zd_s hb, zdS_g hb, zq_Tree_fits, c7, E3 F (by omega), e', zq_Desk_groupCanBeWhole, zd_c, E4 F (by omega), n2]
      | true =>
        rw [hgw, if_pos rfl] at E4
        refine accept (Or.inr hgw) ⟨N3 + N4, 16, fun F n hF => ?_⟩
        simp (maxDischargeDepth := 9) [zi_go, zf_X5_drag, zi_ask, zi_new, zi_step, zi_ld, zi_lda, zi_cmp, zi_retOk, zi_isI, zi_f3, zi_cr, zi_ci, zi_cn, zi_get_ne, zi_nl_i, zi_nl_r, zi_get_set_eq, nl, g0, g4, g5, zd_g, zd_s hb, zdS_g hb, zq_Tree_fits, c7, E3 F (by omega), e', zq_Desk_groupCanBeWhole, zd_c, E4 F (by omega)]
end ZXT
section ZXU
variable {μ ν : zm_M} {row stk ord : List Nat} {us : Nat → zy_F} {k s : Nat}
def zv_fox (μ ν : zm_M) (row stk : List Nat) (us : Nat → zy_F) (k : Nat) : Prop := zv_foc μ ν row stk us k ∧ ∀ fl ow, zv_flow μ fl ow → zv_L ν 241 10 (zl_rz fl ow 10 k stk)
theorem zv_L_mk {μ ν : zm_M} (e : zm_mk μ = zm_mk ν) {l : List Nat} (h : zv_L μ 241 10 l) : zv_L ν 241 10 l :=
  ⟨h.1, (zm_mk_inj e zM_h rfl).symm.trans h.2.1, fun j hj => (zm_mk_A e zM_A241 (by have := h.1; omega)).symm.trans (h.2.2 j hj)⟩
theorem zv_focusedx (D : Nat) {rk : Nat → Nat} (hr : zv_rk μ rk) {k : Nat} (hk : k < 10) (ht : μ 234 k = 1 → ∃ q m ab, q < 3 ∧ μ 238 k = nI q ∧ zu_I μ q (us q) ab ∧ zu_at μ q (us q) k m) (hL : zv_L μ 241 10 stk) (hd : stk.Nodup) (hb : ∀ x ∈ stk, x < 10) (hR : zv_L μ 242 12 row) (rd : row.Nodup) (rb : ∀ x ∈ row, x < 10) :
    ∃ ν, ze_E (D + 12) A_Mod_focused [.ref 232, .int (nI k)] (zm_mk μ) none (zm_mk ν) ∧ zv_fox μ ν row stk us k := by
  obtain ⟨ν, E, hf⟩ := zv_focused (us := us) D hr hk ht hL hd hb hR rd rb
  refine ⟨ν, E, hf, fun fl ow hw => ?_⟩
  by_cases c : μ 234 k = 1
  · obtain ⟨q, m, ab, hq, hh, hI, hat⟩ := ht c
    obtain ⟨ν', E', l'⟩ := ze_Mfocused_t_v (μ := μ) (fl := fl) (ow := ow) D hr hw hk c hq hh hI hat hL hd hb hR rd rb
    exact zv_L_mk (ze_E_det E' E).2 l'
  · obtain ⟨ν', E', l'⟩ := ze_Mfocused_f_v (μ := μ) (fl := fl) (ow := ow) D hr hw hk c hL hd hb hR rd rb
    exact zv_L_mk (ze_E_det E' E).2 l'

theorem zR_focusedx (D : Nat) (h : zR μ row stk us) {k : Nat} (hk : k < 10) (ht : ¬ μ 234 k = 0) : ∃ ν, ze_E (D + 12) A_Mod_focused [.ref 232, .int (nI k)] (zm_mk μ) none (zm_mk ν) ∧ zv_fox μ ν row stk us k := by
  obtain ⟨h1, h2, h3, ⟨rk, h4⟩, h5, h6, h7⟩ := h
  refine zv_focusedx D h4 hk (fun c => ?_) h3.1 h3.2.1 (fun x hx => ((h3.2.2 x).mp hx).1) h2.1 h2.2.1 (fun x hx => ((h2.2.2 x).mp hx).1)
  obtain ⟨q, b1, b2, b3, b4⟩ := h6 k hk ht (by rw [c]; decide)
  obtain ⟨m, b5⟩ := b4 c
  obtain ⟨⟨ab, a1⟩, -⟩ := h5 q b1
  exact ⟨q, m, ab, b1, b2, a1, b5⟩
set_option maxRecDepth 100000 in
theorem ze_Mfocus_x (D : Nat) (h : zR μ row stk us) (w : Int32) : ∃ ν v, ze_E (D + 13) A_Mod_focus [.ref 232, .int w] (zm_mk μ) (some (.int v)) (zm_mk ν) ∧ (((∀ k, k < 10 → w = nI k → μ 234 k = 0) ∧ ν = μ ∧ v = -1000000001) ∨ ∃ k, k < 10 ∧ w = nI k ∧ ¬ μ 234 k = 0 ∧ zv_fox μ ν row stk us k ∧ v = μ 242 0) := by
  have n4 : Int32.ofInt (-1000000001) = -1000000001 := by decide
  obtain ⟨lc, cM⟩ := zM_c (μ := μ)
  rcases zR_win (D + 10) h w with ⟨k, hk, rfl, c0, N1, E1⟩ | ⟨⟨N1, E1⟩, c0⟩
  · obtain ⟨ν, ⟨N2, E2⟩, f⟩ := zR_focusedx D h hk c0
    have i0 : zi_in (0 : Int32) 10 = true := by decide
    have z0 : (0 : Int32).toNatClampNeg = 0 := by decide
    refine ⟨ν, μ 242 0, ze_in [(0, .ref 232), (1, .int (nI k))] zq_Mod_focus (Nat.le_of_ble_eq_true rfl) rfl ⟨N1 + N2, 14, fun F n hF => ?_⟩, Or.inr ⟨k, hk, rfl, c0, f, rfl⟩⟩
    simp [zi_go, zf_X6_focus, zi_ask, zi_new, zi_step, zi_ld, zi_lda, zi_cmp, zi_retOk, zi_isI, zi_f3, zi_cr, zi_ci, zi_cn, zi_get, zi_set, zM_g, cM, zq_Mod_isWindow, zq_Mod_focused, E1 F (by omega), E2 F (by omega), zm_iald (k := 0) zM_A242 i0, z0]
  · refine ⟨μ, -1000000001, ze_in [(0, .ref 232), (1, .int w)] zq_Mod_focus (Nat.le_of_ble_eq_true rfl) rfl ⟨N1, 6, fun F n hF => ?_⟩, Or.inl ⟨c0, rfl, rfl⟩⟩
    simp [zi_go, zf_X6_focus, zi_ask, zi_new, zi_step, zi_ld, zi_lda, zi_cmp, zi_retOk, zi_isI, zi_f3, zi_cr, zi_ci, zi_cn, zi_get, zi_set, cM, zq_Mod_isWindow, E1 F (by omega), n4]
set_option maxRecDepth 100000 in
theorem ze_Mback_x (D : Nat) (h : zR μ row stk us) : ∃ ν v, ze_E (D + 13) A_Mod_back [.ref 232] (zm_mk μ) (some (.int v)) (zm_mk ν) ∧ ((row.length < 2 ∧ ν = μ ∧ v = -1000000002) ∨ (¬ row.length < 2 ∧ zv_fox μ ν row stk us (row.getD 1 0) ∧ v = nI (row.getD 1 0))) := by
  have n4 : Int32.ofInt (-1000000002) = -1000000002 := by decide
  obtain ⟨lc, cM⟩ := zM_c (μ := μ)
  have hL := h.2.1.1
  have l10 := hL.1
  by_cases c : row.length < 2
  · have c1 : ¬ (2 : Int32) ≤ nI row.length := nI_ge (b := 2) c (by decide)
    refine ⟨μ, -1000000002, ze_in [(0, .ref 232)] zq_Mod_back (Nat.le_of_ble_eq_true rfl) rfl ⟨0, 6, fun F n hF => ?_⟩, Or.inl ⟨c, rfl, rfl⟩⟩
    simp [zi_go, zf_X6_back, zi_ask, zi_new, zi_step, zi_ld, zi_lda, zi_cmp, zi_retOk, zi_isI, zi_f3, zi_cr, zi_ci, zi_cn, zi_get, zi_set, zM_g, hL.2.1, c1, n4]
  · have c1 : (2 : Int32) ≤ nI row.length := by
      have : ∀ n, n < 11 → ¬ n < 2 → (2 : Int32) ≤ nI n := by decide
      exact this _ (by omega) c
    have hm : row.getD 1 0 ∈ row := zl_mem (by omega)
    obtain ⟨hk, ht⟩ := (h.2.1.2.2 _).mp hm
    have e1 : μ 242 1 = nI (row.getD 1 0) := hL.2.2 1 (by omega)
    obtain ⟨ν, ⟨N2, E2⟩, f⟩ := zR_focusedx D h hk ht
    have i0 : zi_in (1 : Int32) 10 = true := by decide
    have z0 : (1 : Int32).toNatClampNeg = 1 := by decide
    generalize row.getD 1 0 = k at hm hk ht e1 E2 f ⊢
    refine ⟨ν, nI k, ze_in [(0, .ref 232)] zq_Mod_back (Nat.le_of_ble_eq_true rfl) rfl ⟨N2, 14, fun F n hF => ?_⟩, Or.inr ⟨c, f, rfl⟩⟩
    simp [zi_go, zf_X6_back, zi_ask, zi_new, zi_step, zi_ld, zi_lda, zi_cmp, zi_retOk, zi_isI, zi_f3, zi_cr, zi_ci, zi_cn, zi_get, zi_set, zM_g, cM, hL.2.1, c1, zq_Mod_focused, E2 F (by omega), zm_iald (k := 0) zM_A242 i0, z0, e1]
def zv_twdx (μ ν : zm_M) (row stk : List Nat) (us : Nat → zy_F) (x v : Int32) : Prop :=
  ((∀ sd, sd < 4 → x = nI sd → ∀ s, s < 3 → row ≠ [] → ¬ zv_shn μ us s (row.getD 0 0)) ∧ ν = μ ∧ v = zx_sd x) ∨
  ∃ sd s ξ lo, sd < 4 ∧ s < 3 ∧ x = nI sd ∧ row ≠ [] ∧ zv_shn μ us s (row.getD 0 0) ∧ zv_los μ us lo ∧ zv_laid μ ξ s (us s) ∧ zv_frY μ ξ ∧
    ((zl_nb (zv_nf ξ s (row.getD 0 0) sd lo) (List.range 10) (-1) 0 = -1 ∧ ν = ξ ∧ v = -1000000005) ∨ ∃ i, i < 10 ∧ μ 234 i = 1 ∧ zl_nb (zv_nf ξ s (row.getD 0 0) sd lo) (List.range 10) (-1) 0 = nI i ∧ zv_fox ξ ν row stk us i ∧ v = nI i)
set_option maxRecDepth 100000 in
theorem ze_Mtoward_x (D : Nat) (h : zR μ row stk us) (x : Int32) : ∃ ν v, ze_E (D + 29) A_Mod_toward [.ref 232, .int x] (zm_mk μ) (some (.int v)) (zm_mk ν) ∧ zv_twdx μ ν row stk us x v := by
  have n1 : Int32.ofInt (-1000000001) = -1000000001 := by decide
  have n2 : Int32.ofInt (-1000000002) = -1000000002 := by decide
  have n5 : Int32.ofInt (-1000000005) = -1000000005 := by decide
  obtain ⟨lc, cM⟩ := zM_c (μ := μ)
  have hL := h.2.1.1
  have l10 := hL.1
  have i0 : zi_in (0 : Int32) 10 = true := by decide
  have z0 : (0 : Int32).toNatClampNeg = 0 := by decide
  rcases zM_isIn (hp := zm_mk μ) (D + 27) x (n := 3) (b := 3) (by decide) (by decide) with ⟨sd, hsd, rfl, N2, E2⟩ | ⟨⟨N2, E2⟩, hno⟩
  · by_cases c : row = []
    · have e0 : μ 231 12 = 0 := by rw [hL.2.1, c]; rfl
      refine ⟨μ, -1000000002, ze_in [(0, .ref 232), (1, .int (nI sd))] zq_Mod_toward (Nat.le_of_ble_eq_true rfl) rfl ⟨N2, 10, fun F n hF => ?_⟩, Or.inl ⟨fun _ _ _ _ _ hne => absurd c hne, rfl, (zx_sd_in (by omega)).symm⟩⟩
      simp [zi_go, zf_X6_toward, zi_ask, zi_new, zi_step, zi_ld, zi_lda, zi_cmp, zi_retOk, zi_isI, zi_f3, zi_cr, zi_ci, zi_cn, zi_get, zi_set, zM_g, zq_Mod_isIn, E2 F (by omega), e0, n2]
    · have hpos := List.length_pos_iff.mpr c
      have hm : row.getD 0 0 ∈ row := zl_mem hpos
      obtain ⟨hk, ht⟩ := (h.2.1.2.2 _).mp hm
      have e1 : μ 242 0 = nI (row.getD 0 0) := hL.2.2 0 hpos
      have e0 : ¬ μ 231 12 = 0 := by
        rw [hL.2.1]
        intro e
        have := (nI_eq (a := row.length) (b := 0) (by omega) (by decide)).mp e
        omega
      unfold zv_twdx
      generalize row.getD 0 0 = k at hm hk ht e1 ⊢
      rcases zR_shn (D + 24) h hk with ⟨⟨N3, E3⟩, s, hs, hsh⟩ | ⟨⟨N3, E3⟩, hns⟩
      · obtain ⟨ξ, lo, q1, q2, f, ⟨q3, N4, E4⟩ | ⟨i, hi, q4, q5, N4, E4⟩⟩ := zR_nbr D h hk hs (by omega : sd < 4) hsh.1 hsh.2.1
        · have m1 : ¬ (0 : Int32) ≤ -1 := by decide
          refine ⟨ξ, -1000000005, ze_in [(0, .ref 232), (1, .int (nI sd))] zq_Mod_toward (Nat.le_of_ble_eq_true rfl) rfl ⟨N2 + N3 + N4, 27, fun F n hF => ?_⟩, Or.inr ⟨sd, s, ξ, lo, by omega, hs, rfl, c, hsh, q1, q2, f, Or.inl ⟨q3, rfl, rfl⟩⟩⟩
          simp [zi_go, zf_X6_toward, zi_ask, zi_new, zi_step, zi_ld, zi_lda, zi_cmp, zi_retOk, zi_isI, zi_f3, zi_cr, zi_ci, zi_cn, zi_get, zi_set, zM_g, cM, zq_Mod_isIn, zq_Mod_isShown, zq_Mod_neighbourOf, E2 F (by omega), E3 F (by omega), E4 F (by omega), e0, zm_iald (k := 0) zM_A242 i0, z0, e1, m1, n5]
        · have m1 : (0 : Int32) ≤ nI i := Int32.not_lt.mp (nI_pos (by omega))
          have h2 := h.fr f.fr
          obtain ⟨lc2, cM2⟩ := zM_c (μ := ξ)
          obtain ⟨ν, ⟨N5, E5⟩, q6⟩ := zR_focusedx (D + 16) h2 hi (by rw [f _ _ (by omega) (by omega), q4]; decide)
          refine ⟨ν, nI i, ze_in [(0, .ref 232), (1, .int (nI sd))] zq_Mod_toward (Nat.le_of_ble_eq_true rfl) rfl ⟨N2 + N3 + N4 + N5, 30, fun F n hF => ?_⟩, Or.inr ⟨sd, s, ξ, lo, by omega, hs, rfl, c, hsh, q1, q2, f, Or.inr ⟨i, hi, q4, q5, q6, rfl⟩⟩⟩
          simp [zi_go, zf_X6_toward, zi_ask, zi_new, zi_step, zi_ld, zi_lda, zi_cmp, zi_retOk, zi_isI, zi_f3, zi_cr, zi_ci, zi_cn, zi_get, zi_set, zM_g, cM, cM2, zq_Mod_isIn, zq_Mod_isShown, zq_Mod_neighbourOf, zq_Mod_focused, E2 F (by omega), E3 F (by omega), E4 F (by omega), E5 F (by omega), e0, zm_iald (k := 0) zM_A242 i0, z0, e1, m1]
      · refine ⟨μ, -1000000002, ze_in [(0, .ref 232), (1, .int (nI sd))] zq_Mod_toward (Nat.le_of_ble_eq_true rfl) rfl ⟨N2 + N3, 17, fun F n hF => ?_⟩, Or.inl ⟨fun _ _ _ s hs _ => hns s hs, rfl, (zx_sd_in (by omega)).symm⟩⟩
        simp [zi_go, zf_X6_toward, zi_ask, zi_new, zi_step, zi_ld, zi_lda, zi_cmp, zi_retOk, zi_isI, zi_f3, zi_cr, zi_ci, zi_cn, zi_get, zi_set, zM_g, cM, zq_Mod_isIn, zq_Mod_isShown, E2 F (by omega), E3 F (by omega), e0, zm_iald (k := 0) zM_A242 i0, z0, e1, n2]
  · refine ⟨μ, -1000000001, ze_in [(0, .ref 232), (1, .int x)] zq_Mod_toward (Nat.le_of_ble_eq_true rfl) rfl ⟨N2, 7, fun F n hF => ?_⟩, Or.inl ⟨fun sd hsd e => absurd e (hno sd (by omega)), rfl, (zx_sd_out ((zd_rng x 4 (by decide)).resolve_left (fun ⟨sd, hsd, e⟩ => hno sd hsd e))).symm⟩⟩
    simp [zi_go, zf_X6_toward, zi_ask, zi_new, zi_step, zi_ld, zi_lda, zi_cmp, zi_retOk, zi_isI, zi_f3, zi_cr, zi_ci, zi_cn, zi_get, zi_set, zq_Mod_isIn, E2 F (by omega), n1]
def zv_drgdx (μ ν : zm_M) (row stk : List Nat) (us : Nat → zy_F) (w x y v : Int32) : Prop :=
  ((¬ ∃ k o sd, zv_darg μ w x y k o sd) ∧ ν = μ ∧ zx_ref (zv_drA μ w x y) v) ∨
  ∃ k o sd a b ξ u2, zv_darg μ w x y k o sd ∧ a < 3 ∧ b < 3 ∧ μ 238 k = nI a ∧ μ 238 o = nI b ∧ zu_fr 6 μ ξ ∧ zv_trl μ ξ us a k o sd b u2 ∧
    (((zu_fit ξ 6 u2 (μ 232 b) (μ 233 b) = false ∨ (a ≠ b ∧ ¬ ∀ j, j < 10 → zv_drm μ k b (zv_grp μ k) j = true)) ∧ (∀ c d, c ≠ 260 → ¬ zu_in 6 c d → ν c d = μ c d) ∧ v = -1000000002) ∨
     ((zu_fit ξ 6 u2 (μ 232 b) (μ 233 b) = true ∧ (a = b ∨ ∀ j, j < 10 → zv_drm μ k b (zv_grp μ k) j = true)) ∧ ∃ ν6 ua, zv_drx μ ξ ν6 us k a b ua ∧ zv_fox ν6 ν row stk (zv_drU us a b ua u2) k ∧ v = 0))
set_option maxRecDepth 100000 in
theorem zv_dg3x (D : Nat) (h : zR μ row stk us) {k a b m2 mk : Nat} {u2 : zy_F} {ab2 : Nat → Int32} (hk : k < 10) (ha : a < 3) (hb : b < 3) (hkt : μ 234 k = 1) (hka : μ 238 k = nI a) (atk : zu_at μ a (us a) k mk) {ξ θ : zm_M} (fξ : zu_fr 6 μ ξ) (f0 : ∀ c d, c ≠ 260 → θ c d = ξ c d) (hI2 : zu_I ξ 6 u2 ab2) (hat2 : zu_at ξ 6 u2 k m2) (hcm : zv_cm θ (zv_grp μ k))
    (L : zi_Lc) (nl : zi_nl L = true) (g0 : zi_get L 0 = some (.ref 232)) (g1 : zi_get L 1 = some (.int (nI k))) (g4 : zi_get L 4 = some (.int (nI a))) (g5 : zi_get L 5 = some (.int (nI b))) :
    ∃ ν ν6 ua, ze_G (D + 27) 9 (some .int) zc_X6_drag 292 L [] (zm_mk θ) (some (.int 0)) (zm_mk ν) ∧ zv_drx μ ξ ν6 us k a b ua ∧ zv_fox ν6 ν row stk (zv_drU us a b ua u2) k := by
  have h6 : (Int8.ofInt 6).toInt32 = (6 : Int32) := by decide
  have q6 : nI 6 = (6 : Int32) := by decide
  have h10 : (Int8.ofInt 10).toInt32 = (10 : Int32) := by decide
  have ik : zi_in (nI k) 10 = true := zm_in hk (by decide)
  have ck : (nI k).toNatClampNeg = k := nI_clamp (by omega)
  obtain ⟨lc, cM⟩ := zM_c (μ := θ)
  obtain ⟨⟨aba, hIa⟩, hnda, hwa⟩ := h.2.2.2.2.1 a ha
  obtain ⟨N1, E1⟩ := ze_Mforget (μ := θ) (D + 26) hk
  have f1 : ∀ c d, c ≠ 251 → zv_fg θ k c d = θ c d := fun c d r => zv_fg_ne r
  have e1 : ∀ s, s < 3 → zv_fg θ k 251 s = if ¬ θ 251 s = 0 ∧ ¬ θ 252 (10 * s + k) = 0 then 0 else θ 251 s := fun s hs => zv_fg_at hs
  generalize zv_fg θ k = θ1 at E1 f1 e1
  obtain ⟨lc1, cM1⟩ := zM_c (μ := θ1)
  have g12 : ∀ c d, c ≠ 251 → c ≠ 260 → ¬ zu_in 6 c d → θ1 c d = μ c d := fun c d r1 r2 r3 => (f1 c d r1).trans ((f0 c d r2).trans (fξ c d r3))
  have t6 : zu_eqT ξ 6 θ1 6 := zu_eq_in (fun c d r => (f1 c d (fun z => zu_in_not (Or.inr (by omega)) r)).trans (f0 c d (fun z => zu_in_not (Or.inr (by omega)) r)))
  have tA : zu_eqT μ a θ1 a := zu_eq_in (fun c d r => g12 c d (fun z => zu_in_not (Or.inr (by omega)) r) (fun z => zu_in_not (Or.inr (by omega)) r) (zu_in_ne r (by omega)))
  -- the window leaves its tree
  have lv : ∃ θ2 ua, ze_S (D + 27) 9 (some .int) zc_X6_drag 292 L [] (zm_mk θ) 311 L [] (zm_mk θ2) ∧ (a ≠ b → ∃ m ab', zu_at μ a (us a) k m ∧ zu_isOut θ1 a (us a) m k θ2 ab' ∧ ua = (if (zu_tb θ1 a m).erase k = [] then zy_out m (us a) else us a)) ∧ (∀ c d, ¬ zu_in a c d → θ2 c d = θ1 c d) ∧ (a = b → θ2 = θ1) := by
    by_cases c : a = b
    · have c' : nI a = nI b := by rw [c]
      refine ⟨θ1, .nil, ⟨N1, 6, fun F m hF => ?_⟩, fun z => absurd c z, fun _ _ _ => rfl, fun _ => rfl⟩
      simp (maxDischargeDepth := 9) [zi_go, zf_X6_drag, zi_ask, zi_new, zi_step, zi_ld, zi_lda, zi_cmp, zi_retOk, zi_isI, zi_f3, zi_cr, zi_ci, zi_cn, zi_get_ne, zi_nl_i, zi_nl_r, zi_get_set_eq, nl, g0, g1, g4, g5, cM, zq_Mod_forget, E1 F (by omega), c']
    · have c' : ¬ nI a = nI b := fun e => c ((nI_eq (by omega) (by omega)).mp e)
      obtain ⟨θ2, ab', ⟨N2, E2⟩, ho⟩ := ze_Mleave (μ := θ1) (D + 23) (τ := a) (by omega) (tA.I hIa) hk (zu_at_eqT hIa tA atk)
      refine ⟨θ2, _, ⟨N1 + N2, 10, fun F m hF => ?_⟩, fun _ => ⟨mk, ab', atk, ho, rfl⟩, ho.2.2.2.2, fun z => absurd z c⟩
      simp (maxDischargeDepth := 9) [zi_go, zf_X6_drag, zi_ask, zi_new, zi_step, zi_ld, zi_lda, zi_cmp, zi_retOk, zi_isI, zi_f3, zi_cr, zi_ci, zi_cn, zi_get_ne, zi_nl_i, zi_nl_r, zi_get_set_eq, nl, g0, g1, g4, g5, cM, cM1, zq_Mod_forget, zq_Mod_leave, E1 F (by omega), E2 F (by omega), c']
  obtain ⟨θ2, ua, S1, o1, o2, o3⟩ := lv
  obtain ⟨lc2, cM2⟩ := zM_c (μ := θ2)
  obtain ⟨N3, E3⟩ := ze_McopyTree (μ := θ2) (D + 25) (f := 6) (t := b) (by decide) (by omega) (by omega)
  rw [q6] at E3
  have t3 := zu_cq_eqT (μ := θ2) (f := 6) (t := b)
  have f3 : zu_fr b θ2 (zu_cq θ2 6 b 24 240) := zu_cq_fr
  generalize zu_cq θ2 6 b 24 240 = θ3 at E3 t3 f3
  have f4 : ∀ c d, ¬ (c = 238 ∧ d = k) → zm_up θ3 238 k (nI b) c d = θ3 c d := fun c d r => zm_up_ne r
  have e4 : zm_up θ3 238 k (nI b) 238 k = nI b := zm_up_eq
  have S2 : ze_S (D + 27) 9 (some .int) zc_X6_drag 311 L [] (zm_mk θ2) 330 (zi_set L 8 (.int (nI 0))) [] (zm_mk (zm_up θ3 238 k (nI b))) := by
    refine ⟨N3, 11, fun F m hF => ?_⟩
    simp (maxDischargeDepth := 9) [zi_go, zf_X6_drag, zi_ask, zi_new, zi_step, zi_ld, zi_lda, zi_cmp, zi_retOk, zi_isI, zi_f3, zi_cr, zi_ci, zi_cn, zi_get_ne, zi_nl_i, zi_nl_r, zi_get_set_eq, nl, g0, g1, g4, g5, h6, cM2, zM_g, zq_Mod_copyTree, E3 F (by omega), zm_iast zM_A238 ik, ck, nI_0]
  generalize zm_up θ3 238 k (nI b) = θ4 at f4 e4 S2
  -- cells that are in no tree
  have up : ∀ c d, c < 243 ∨ 250 < c → ¬ (c = 238 ∧ d = k) → θ4 c d = θ1 c d := fun c d r1 r2 => (f4 c d r2).trans ((f3 c d (zu_in_not r1)).trans (o2 c d (zu_in_not r1)))
  have upμ : ∀ c d, c < 243 ∨ 250 < c → ¬ (c = 238 ∧ d = k) → c ≠ 251 → c ≠ 260 → θ4 c d = μ c d := fun c d r1 r2 r3 r4 => (up c d r1 r2).trans (g12 c d r3 r4 (zu_in_not r1))
  have hcm4 : zv_cm θ4 (zv_grp μ k) := fun j hj => by
    rw [up _ _ (by decide) (by omega), f1 _ _ (by decide)]
    exact hcm j hj
  -- its dialogs come along
  have dg : ∃ ν6 L6, ze_S (D + 27) 9 (some .int) zc_X6_drag 330 (zi_set L 8 (.int (nI 0))) [] (zm_mk θ4) 394 L6 [] (zm_mk ν6) ∧ zi_get L6 0 = some (.ref 232) ∧ zi_get L6 1 = some (.int (nI k)) ∧ (a = b → ν6 = θ4) ∧ (a ≠ b → zv_dgw θ4 ν6 k b (zv_grp μ k) 10) := by
    by_cases c : a = b
    · have c' : nI a = nI b := by rw [c]
      have c1 : ¬ (10 : Int32) ≤ nI 0 := by decide
      refine ⟨θ4, zi_set L 8 (.int (nI 0)), ⟨0, 6, fun F m hF => ?_⟩, by simp (maxDischargeDepth := 9) [zi_get_ne, zi_nl_i, zi_nl_r, zi_get_set_eq, nl, g0], by simp (maxDischargeDepth := 9) [zi_get_ne, zi_nl_i, zi_nl_r, zi_get_set_eq, nl, g1], fun _ => rfl, fun z => absurd c z⟩
      simp (maxDischargeDepth := 9) [zi_go, zf_X6_drag, zi_ask, zi_new, zi_step, zi_ld, zi_lda, zi_cmp, zi_retOk, zi_isI, zi_f3, zi_cr, zi_ci, zi_cn, zi_get_ne, zi_nl_i, zi_nl_r, zi_get_set_eq, nl, g0, g1, g4, g5, h10, c1, c']
    · obtain ⟨L', h', S, nl', b0, b1, ν6, rfl, q⟩ := zv_dgC (μ := θ4) (D + 25) hk ha hb c hcm4 (zi_set L 8 (.int (nI 0))) (by simp (maxDischargeDepth := 9) [zi_get_ne, zi_nl_i, zi_nl_r, zi_get_set_eq, nl]) (by simp (maxDischargeDepth := 9) [zi_get_ne, zi_nl_i, zi_nl_r, zi_get_set_eq, nl, g0]) (by simp (maxDischargeDepth := 9) [zi_get_ne, zi_nl_i, zi_nl_r, zi_get_set_eq, nl, g1]) (by simp (maxDischargeDepth := 9) [zi_get_ne, zi_nl_i, zi_nl_r, zi_get_set_eq, nl, g4]) (by simp (maxDischargeDepth := 9) [zi_get_ne, zi_nl_i, zi_nl_r, zi_get_set_eq, nl, g5]) zi_get_set_eq
      exact ⟨ν6, L', S, b0, b1, fun z => absurd z c, fun _ => q⟩
  obtain ⟨ν6, L6, S3, b0, b1, d1, d2⟩ := dg
  have d3 : ∀ c d, c ≠ 238 → c ≠ 239 → c ≠ 240 → c ≠ 251 → ν6 c d = θ4 c d := fun c d r1 r2 r3 r4 => by
    by_cases e : a = b
    · rw [d1 e]
    · exact (d2 e).2.2 c d r1 r2 r3 r4
  have din : ∀ τ c d, zu_in τ c d → ν6 c d = θ3 c d := fun τ c d r => (d3 c d (fun z => zu_in_not (Or.inl (by omega)) r) (fun z => zu_in_not (Or.inl (by omega)) r) (fun z => zu_in_not (Or.inl (by omega)) r) (fun z => zu_in_not (Or.inr (by omega)) r)).trans (f4 c d (fun z => zu_in_not (Or.inl (by omega)) r))
  have tb6 : zu_eqT ξ 6 ν6 b := by
    have t1 : zu_eqT θ1 6 θ2 6 := zu_eq_in (fun c d r => o2 c d (zu_in_ne r (by omega)))
    exact t6.trans (t1.trans (t3.trans (zu_eq_in (din b))))
  have x8 : ∀ j, j < 10 → ν6 238 j = if j = k ∨ (a ≠ b ∧ zv_grp μ k j = true) then nI b else μ 238 j := fun j hj => by
    by_cases e : a = b
    · rw [d1 e]
      by_cases ek : j = k
      · rw [if_pos (Or.inl ek), ek, e4]
      · rw [if_neg (fun z => z.elim ek (fun z => z.1 e)), upμ _ _ (by decide) (by omega) (by decide) (by decide)]
    · rw [(d2 e).1 j hj]
      by_cases ek : j = k
      · rw [if_pos (Or.inl ek), if_neg (fun z => z.2.2 ek), ek, e4]
      · by_cases eg : zv_grp μ k j = true
        · rw [if_pos ⟨hj, eg, ek⟩, if_pos (Or.inr ⟨e, eg⟩)]
        · rw [if_neg (fun z => eg z.2.1), if_neg (fun z => z.elim ek (fun z => eg z.2)), upμ _ _ (by decide) (by omega) (by decide) (by decide)]
  have x4 : ∀ d, ν6 234 d = μ 234 d := fun d => (d3 _ _ (by decide) (by decide) (by decide) (by decide)).trans (upμ _ _ (by decide) (by omega) (by decide) (by decide))
  have x7 : ∀ d, ν6 237 d = μ 237 d := fun d => (d3 _ _ (by decide) (by decide) (by decide) (by decide)).trans (upμ _ _ (by decide) (by omega) (by decide) (by decide))
  have θ51 : ∀ s, θ 251 s = μ 251 s ∧ ∀ j, θ 252 j = μ 252 j := fun s => ⟨(f0 _ _ (by decide)).trans (fξ _ _ (zu_in_not (by decide))), fun j => (f0 _ _ (by decide)).trans (fξ _ _ (zu_in_not (by decide)))⟩
  have x51 : ∀ s, s < 3 → (ν6 251 s = 0 ∨ ν6 251 s = μ 251 s) ∧ (ν6 251 s = 0 ↔ μ 251 s = 0 ∨ ∃ j, j < 10 ∧ (j = k ∨ (a ≠ b ∧ zv_grp μ k j = true)) ∧ ¬ μ 252 (10 * s + j) = 0) := fun s hs => by
    have e4s : θ4 251 s = θ1 251 s := up _ _ (by decide) (by omega)
    have e1s := e1 s hs
    rw [(θ51 s).1, (θ51 s).2] at e1s
    have base : (θ4 251 s = 0 ∨ θ4 251 s = μ 251 s) ∧ (θ4 251 s = 0 ↔ μ 251 s = 0 ∨ ¬ μ 252 (10 * s + k) = 0) := by
      rw [e4s, e1s]
      by_cases c : ¬ μ 251 s = 0 ∧ ¬ μ 252 (10 * s + k) = 0
      · rw [if_pos c]
        exact ⟨Or.inl rfl, fun _ => Or.inr c.2, fun _ => rfl⟩
      · rw [if_neg c]
        exact ⟨Or.inr rfl, fun z => Or.inl z, fun z => z.elim id (fun z => Decidable.byContradiction fun w => c ⟨w, z⟩)⟩
    by_cases e : a = b
    · rw [d1 e]
      refine ⟨base.1, base.2.trans (or_congr Iff.rfl ⟨fun z => ⟨k, hk, Or.inl rfl, z⟩, fun ⟨j, _, z, w⟩ => ?_⟩)⟩
      rcases z with z | z
      · rw [← z]; exact w
      · exact absurd e z.1
    · obtain ⟨p1, p2⟩ := (d2 e).2.1 s hs
      have e252 : ∀ j, θ4 252 j = μ 252 j := fun j => upμ _ _ (by decide) (by omega) (by decide) (by decide)
      refine ⟨p1.elim Or.inl (fun z => ?_), p2.trans ⟨fun z => ?_, fun z => ?_⟩⟩
      · rw [z]; exact base.1
      · rcases z with z | ⟨j, hj, z, w⟩
        · exact (base.2.mp z).imp id (fun z => ⟨k, hk, Or.inl rfl, z⟩)
        · rw [e252] at w
          exact Or.inr ⟨j, hj, Or.inr ⟨e, z.1⟩, w⟩
      · rcases z with z | ⟨j, hj, z, w⟩
        · exact Or.inl (base.2.mpr (Or.inl z))
        · by_cases ek : j = k
          · rw [ek] at w; exact Or.inl (base.2.mpr (Or.inr w))
          · refine Or.inr ⟨j, hj, ⟨z.elim (fun z => absurd z ek) (fun z => z.2), ek⟩, ?_⟩
            rw [e252]; exact w
  have hdrx : zv_drx μ ξ ν6 us k a b ua := by
    refine ⟨tb6, fun e => ?_, x8, x51, fun c d r1 r2 r3 r4 r5 r6 r7 r8 => ?_⟩
    · obtain ⟨m, ab', q1, q2, q3⟩ := o1 e
      refine ⟨m, ab', θ1, θ2, q1, tA, q2, zu_eq_in (fun c d r => (din a c d r).trans (f3 c d (zu_in_ne r e))), q3⟩
    · rw [d3 c d r1 r2 r3 r4, f4 c d (fun z => r1 z.1), f3 c d r8, o2 c d r7]
      exact g12 c d r4 r5 r6
  obtain ⟨rk, hr⟩ := h.2.2.2.1
  have hr6 : zv_rk ν6 rk := ⟨hr.1, fun x hx e => by
    rw [x4] at e
    rw [x7]
    exact hr.2 x hx e⟩
  have rest : ∀ c d, c = 231 ∨ c = 241 ∨ c = 242 → ν6 c d = μ c d := fun c d r => (d3 c d (by omega) (by omega) (by omega) (by omega)).trans (upμ c d (by omega) (by omega) (by omega) (by omega))
  have hR := h.2.1
  have hS := h.2.2.1
  have hR6 : zv_L ν6 242 12 row := ⟨hR.1.1, (rest _ _ (Or.inl rfl)).trans hR.1.2.1, fun j hj => (rest _ _ (Or.inr (Or.inr rfl))).trans (hR.1.2.2 j hj)⟩
  have hS6 : zv_L ν6 241 10 stk := ⟨hS.1.1, (rest _ _ (Or.inl rfl)).trans hS.1.2.1, fun j hj => (rest _ _ (Or.inr (Or.inl rfl))).trans (hS.1.2.2 j hj)⟩
  obtain ⟨ν, ⟨N5, E5⟩, hf⟩ := zv_focusedx (μ := ν6) (us := zv_drU us a b ua u2) (D + 15) hr6 hk (fun _ => ⟨b, m2, ab2, hb, by rw [x8 k hk, if_pos (Or.inl rfl)], by
    show zu_I ν6 b (if b = b then u2 else _) ab2
    rw [if_pos rfl]
    exact tb6.I hI2, by
    show zu_at ν6 b (if b = b then u2 else _) k m2
    rw [if_pos rfl]
    exact zu_at_eqT hI2 tb6 hat2⟩) hS6 hS.2.1 (fun x hx => ((hS.2.2 x).mp hx).1) hR6 hR.2.1 (fun x hx => ((hR.2.2 x).mp hx).1)
  obtain ⟨lc6, cM6⟩ := zM_c (μ := ν6)
  refine ⟨ν, ν6, ua, S1.end (S2.end (S3.end ⟨N5, 5, fun F m hF => ?_⟩)), hdrx, hf⟩
  simp [zi_go, zf_X6_drag, zi_ask, zi_new, zi_step, zi_ld, zi_lda, zi_cmp, zi_retOk, zi_isI, zi_f3, zi_cr, zi_ci, zi_cn, b0, b1, cM6, zq_Mod_focused, E5 F (by omega)]
set_option maxRecDepth 100000 in
theorem ze_Mdrag_x (D : Nat) (h : zR μ row stk us) (w x y : Int32) : ∃ ν v, ze_E (D + 28) A_Mod_drag [.ref 232, .int w, .int x, .int y] (zm_mk μ) (some (.int v)) (zm_mk ν) ∧ zv_drgdx μ ν row stk us w x y v := by
  have n2 : Int32.ofInt (-1000000002) = -1000000002 := by decide
  have h6 : (Int8.ofInt 6).toInt32 = (6 : Int32) := by decide
  have q6 : nI 6 = (6 : Int32) := by decide
  have h10 : (Int8.ofInt 10).toInt32 = (10 : Int32) := by decide
  rcases zv_dg0_v D h w x y with ⟨hno, v, hv, G⟩ | ⟨k, o, sd, a, b, hd, ha, hb, hka, hob, ⟨mk, atk⟩, ⟨mo, ato⟩, S0⟩
  · exact ⟨μ, v, ze_in [(0, .ref 232), (1, .int w), (2, .int x), (3, .int y)] zq_Mod_drag (Nat.le_of_ble_eq_true rfl) rfl G, Or.inl ⟨hno, rfl, hv⟩⟩
  · obtain ⟨⟨hk, ho, hsd⟩, -, ⟨hkt, hot, hko⟩⟩ := id hd
    obtain ⟨μ0, u', n, ab, S1, d1, f1, hI1, hnd1, hno1, at1⟩ := zv_dg1 (x3 := nI sd) D h hk hko ha hb hka atk ato
    obtain ⟨ξ, u2, ab2, m2, S2, d2, f2, hI2, at2⟩ := zv_dg2 (s := nI a) (t := nI b) D hk ho hsd hI1 hnd1 hno1 at1
    have fξ : zu_fr 6 μ ξ := f1.trans f2
    have hsz := h.2.2.2.2.2.2 b hb
    have ib : zi_in (nI b) 3 = true := zm_in hb (by decide)
    have cb : (nI b).toNatClampNeg = b := nI_clamp (by omega)
    have S3 : ze_S (D + 27) 9 (some .int) zc_X6_drag 150 [(6, .int (nI n)), (5, .int (nI b)), (4, .int (nI a)), (0, .ref 232), (1, .int (nI k)), (2, .int (nI o)), (3, .int (nI sd))] [] (zm_mk ξ) 153 [(7, .int (nI 0)), (6, .int (nI n)), (5, .int (nI b)), (4, .int (nI a)), (0, .ref 232), (1, .int (nI k)), (2, .int (nI o)), (3, .int (nI sd))] [] (zm_mk ξ) := by
      refine ⟨0, 2, fun F m hF => ?_⟩
      simp [zi_go, zf_X6_drag, zi_ask, zi_new, zi_step, zi_ld, zi_lda, zi_cmp, zi_retOk, zi_isI, zi_f3, zi_cr, zi_ci, zi_cn, zi_get, zi_set, nI_0]
    obtain ⟨L4, h4, S4, nl4, b0, b1, b3, b4, b5, θ1, rfl, cm1, g1⟩ := zv_dgA (μ := ξ) (D + 27) hk (s := nI a) (o := nI b) (x3 := nI sd) [(7, .int (nI 0)), (6, .int (nI n)), (5, .int (nI b)), (4, .int (nI a)), (0, .ref 232), (1, .int (nI k)), (2, .int (nI o)), (3, .int (nI sd))] rfl rfl rfl rfl rfl rfl rfl
    have x1 : ∀ c d, c < 243 ∨ 250 < c → c ≠ 260 → θ1 c d = μ c d := fun c d r1 r2 => (g1 c d r2).trans (fξ c d (zu_in_not r1))
    obtain ⟨θ, ⟨N5, E5⟩, cm2, g2⟩ := ze_Mspread (μ := θ1) (D + 26) cm1 (zv_ow_cells (zR_ow h) (fun c d r => x1 c d (by omega) (by omega)))
    have x2 : ∀ c d, c < 243 ∨ 250 < c → c ≠ 260 → θ c d = μ c d := fun c d r1 r2 => (g2 c d r2).trans (x1 c d r1 r2)
    have f0 : ∀ c d, c ≠ 260 → θ c d = ξ c d := fun c d r => (g2 c d r).trans (g1 c d r)
    have t6 : zu_eqT ξ 6 θ 6 := zu_eq_in (fun c d r => f0 c d (fun z => zu_in_not (Or.inr (by omega)) r))
    have hI2' := t6.I hI2
    have efit : zu_fit θ 6 u2 (μ 232 b) (μ 233 b) = zu_fit ξ 6 u2 (μ 232 b) (μ 233 b) := zu_fit_cells (fun c d r1 r2 => f0 c d (by omega))
    obtain ⟨N6, E6⟩ := ze_Mfits (μ := θ) (D + 1) (τ := 6) (by decide) hI2' hsz.1 hsz.2
    rw [efit, q6] at E6
    obtain ⟨lc1, cM1⟩ := zM_c (μ := θ1)
    obtain ⟨lc2, cM2⟩ := zM_c (μ := θ)
    have cm2 : zv_cm θ (zv_grp μ k) := cm2
    have edrm : zv_drm θ k b (zv_grp μ k) = zv_drm μ k b (zv_grp μ k) := funext fun j => by
      unfold zv_drm
      rw [x2 235 j (by decide) (by decide), x2 236 j (by decide) (by decide), x2 232 b (by decide) (by decide), x2 233 b (by decide) (by decide)]
    generalize hfit : zu_fit ξ 6 u2 (μ 232 b) (μ 233 b) = fit at E6
    have S5 : ze_S (D + 27) 9 (some .int) zc_X6_drag 184 L4 [] (zm_mk θ1) 213 (zi_set (zi_set L4 7 (.int (if fit = true then 1 else 0))) 8 (.int (nI 0))) [] (zm_mk θ) := by
      have nl := nl4
      refine ⟨N5 + N6, 16, fun F m hF => ?_⟩
      simp (maxDischargeDepth := 9) [zi_go, zf_X6_drag, zi_ask, zi_new, zi_step, zi_ld, zi_lda, zi_cmp, zi_retOk, zi_isI, zi_f3, zi_cr, zi_ci, zi_cn, zi_get_ne, zi_nl_i, zi_nl_r, zi_get_set_eq, nl, b0, b1, b3, b4, b5, h6, cM1, cM2, zM_g, zq_Mod_spread, zq_Mod_fits, E5 F (by omega), E6 F (by omega), zm_iald (k := 0) zM_A232 ib, zm_iald (k := 0) zM_A233 ib, cb, x2 232 b (by decide) (by decide), x2 233 b (by decide) (by decide), nI_0]
    have dg : ∃ L6 good, ze_S (D + 27) 9 (some .int) zc_X6_drag 213 (zi_set (zi_set L4 7 (.int (if fit = true then 1 else 0))) 8 (.int (nI 0))) [] (zm_mk θ) 284 L6 [] (zm_mk θ) ∧ zi_nl L6 = true ∧ zi_get L6 0 = some (.ref 232) ∧ zi_get L6 1 = some (.int (nI k)) ∧ zi_get L6 4 = some (.int (nI a)) ∧ zi_get L6 5 = some (.int (nI b)) ∧ zi_get L6 7 = some (.int (if good = true then 1 else 0)) ∧ (good = true ↔ fit = true ∧ (a = b ∨ ∀ j, j < 10 → zv_drm μ k b (zv_grp μ k) j = true)) := by
      have nl := nl4
      by_cases c : a = b
      · have c' : nI a = nI b := by rw [c]
        have c1 : ¬ (10 : Int32) ≤ nI 0 := by decide
        refine ⟨zi_set (zi_set L4 7 (.int (if fit = true then 1 else 0))) 8 (.int (nI 0)), fit, ⟨0, 6, fun F m hF => ?_⟩, by simp (maxDischargeDepth := 9) [zi_get_ne, zi_nl_i, zi_nl_r, zi_get_set_eq, nl], by simp (maxDischargeDepth := 9) [zi_get_ne, zi_nl_i, zi_nl_r, zi_get_set_eq, nl, b0], by simp (maxDischargeDepth := 9) [zi_get_ne, zi_nl_i, zi_nl_r, zi_get_set_eq, nl, b1], by simp (maxDischargeDepth := 9) [zi_get_ne, zi_nl_i, zi_nl_r, zi_get_set_eq, nl, b4], by simp (maxDischargeDepth := 9) [zi_get_ne, zi_nl_i, zi_nl_r, zi_get_set_eq, nl, b5], by simp (maxDischargeDepth := 9) [zi_get_ne, zi_nl_i, zi_nl_r, zi_get_set_eq, nl], ⟨fun z => ⟨z, Or.inl c⟩, fun z => z.1⟩⟩
        simp (maxDischargeDepth := 9) [zi_go, zf_X6_drag, zi_ask, zi_new, zi_step, zi_ld, zi_lda, zi_cmp, zi_retOk, zi_isI, zi_f3, zi_cr, zi_ci, zi_cn, zi_get_ne, zi_nl_i, zi_nl_r, zi_get_set_eq, nl, b0, b1, b4, b5, h10, c1, c']
      · obtain ⟨L6, h', S, nl6, p0, p1, p4, p5, p7, rfl⟩ := zv_dgB (μ := θ) (D + 26) hk ha hb c cm2 fit (zi_set (zi_set L4 7 (.int (if fit = true then 1 else 0))) 8 (.int (nI 0))) (by simp (maxDischargeDepth := 9) [zi_get_ne, zi_nl_i, zi_nl_r, zi_get_set_eq, nl]) (by simp (maxDischargeDepth := 9) [zi_get_ne, zi_nl_i, zi_nl_r, zi_get_set_eq, nl, b0]) (by simp (maxDischargeDepth := 9) [zi_get_ne, zi_nl_i, zi_nl_r, zi_get_set_eq, nl, b1]) (by simp (maxDischargeDepth := 9) [zi_get_ne, zi_nl_i, zi_nl_r, zi_get_set_eq, nl, b4]) (by simp (maxDischargeDepth := 9) [zi_get_ne, zi_nl_i, zi_nl_r, zi_get_set_eq, nl, b5]) (by simp (maxDischargeDepth := 9) [zi_get_ne, zi_nl_i, zi_nl_r, zi_get_set_eq, nl]) zi_get_set_eq
        rw [edrm] at p7
        exact ⟨L6, _, S, nl6, p0, p1, p4, p5, p7, (zv_gd_iff 10).trans (and_congr Iff.rfl ⟨fun z => Or.inr z, fun z => z.resolve_left c⟩)⟩
    obtain ⟨L6, good, S6, nl6, p0, p1, p4, p5, p7, hg⟩ := dg
    have SS := S0.trans (S1.trans (S2.trans (S3.trans (S4.trans (S5.trans S6)))))
    cases good with
    | false =>
      have p7 : zi_get L6 7 = some (.int 0) := p7
      have hng : ¬ (fit = true ∧ (a = b ∨ ∀ j, j < 10 → zv_drm μ k b (zv_grp μ k) j = true)) := fun z => by cases hg.mpr z
      refine ⟨θ, -1000000002, ze_in [(0, .ref 232), (1, .int w), (2, .int x), (3, .int y)] zq_Mod_drag (Nat.le_of_ble_eq_true rfl) rfl (SS.end ⟨0, 4, fun F m hF => by simp [zi_go, zf_X6_drag, zi_ask, zi_new, zi_step, zi_ld, zi_lda, zi_cmp, zi_retOk, zi_isI, zi_f3, zi_cr, zi_ci, zi_cn, p7, n2]⟩), Or.inr ⟨k, o, sd, a, b, ξ, u2, hd, ha, hb, hka, hob, fξ, ⟨μ0, u', n, d1, at1, d2⟩, Or.inl ⟨?_, fun c d r1 r2 => (f0 c d r1).trans (fξ c d r2), rfl⟩⟩⟩
      rw [hfit]
      cases fit with
      | false => exact Or.inl rfl
      | true => exact Or.inr ⟨fun e => hng ⟨rfl, Or.inl e⟩, fun e => hng ⟨rfl, Or.inr e⟩⟩
    | true =>
      have p7 : zi_get L6 7 = some (.int 1) := p7
      have n10 : ¬ (1 : Int32) = 0 := by decide
      obtain ⟨ν, ν6, ua, G, q1, q2⟩ := zv_dg3x D h hk ha hb hkt hka atk fξ f0 hI2 at2 cm2 L6 nl6 p0 p1 p4 p5
      have S7 : ze_S (D + 27) 9 (some .int) zc_X6_drag 284 L6 [] (zm_mk θ) 292 L6 [] (zm_mk θ) := by
        refine ⟨0, 2, fun F m hF => ?_⟩
        simp [zi_go, zf_X6_drag, zi_ask, zi_new, zi_step, zi_ld, zi_lda, zi_cmp, zi_retOk, zi_isI, zi_f3, zi_cr, zi_ci, zi_cn, p7, n10]
      refine ⟨ν, 0, ze_in [(0, .ref 232), (1, .int w), (2, .int x), (3, .int y)] zq_Mod_drag (Nat.le_of_ble_eq_true rfl) rfl (SS.end (S7.end G)), Or.inr ⟨k, o, sd, a, b, ξ, u2, hd, ha, hb, hka, hob, fξ, ⟨μ0, u', n, d1, at1, d2⟩, Or.inr ⟨?_, ν6, ua, q1, q2, rfl⟩⟩⟩
      rw [hfit]
      exact hg.mp rfl
def zv_opnx (μ ν : zm_M) (row stk : List Nat) (us : Nat → zy_F) (kd w v o r : Int32) : Prop :=
  ((¬ zv_oarg μ kd w v o ∨ (∀ j, j < 10 → ¬ μ 234 j = 0) ∨ zv_osc μ row kd o = -1) ∧ ν = μ ∧ zx_op (zv_oarg μ kd w v o) (∀ j, j < 10 → ¬ μ 234 j = 0) r) ∨
  (zv_oarg μ kd w v o ∧ ∃ k s M, k < 10 ∧ s < 3 ∧ μ 234 k = 0 ∧ (∀ j, j < k → ¬ μ 234 j = 0) ∧ zv_osc μ row kd o = nI s ∧ 0 < μ 232 s ∧ (M 235 k = w ∧ M 236 k = v ∧ ∀ c d, ¬ (c = 235 ∧ d = k) → ¬ (c = 236 ∧ d = k) → M c d = μ c d) ∧
    ((kd = 1 ∧ ∃ lo ν3 b u', zv_los M us lo ∧ zv_tl M ν3 row (us s) s k lo b u' ∧ ((b = 0 ∧ (∀ c d, ¬ (c = 231 ∧ d = 30) → ¬ (255 ≤ c ∧ c ≤ 259) → ¬ zu_in 6 c d → ν c d = M c d) ∧ r = -1000000002) ∨ (b = 1 ∧ ∃ ν4, zv_cam μ ν4 k s kd w v o ∧ zu_eqT ν3 s ν4 s ∧ zv_fox ν4 ν row stk (zd_upd us s u') k ∧ r = nI k))) ∨
     (¬ kd = 1 ∧ ((¬ kd = 4 ∧ ¬ (w ≤ μ 232 s ∧ v ≤ μ 233 s) ∧ ν = M ∧ r = -1000000002) ∨ ((kd = 4 ∨ (w ≤ μ 232 s ∧ v ≤ μ 233 s)) ∧ ∃ ν4, zv_cam μ ν4 k s kd w v o ∧ zv_fox ν4 ν row stk us k ∧ r = nI k)))))
set_option maxRecDepth 100000 in
theorem zv_op4x (D : Nat) (h : zR μ row stk us) (hord : zv_ord μ ord) {kd w v o : Int32} (ha : zv_oarg μ kd w v o) (hk : k < 10) (hk0 : μ 234 k = 0) (hc : zv_cam μ ν k s kd w v o) (hs : s < 3) {us' : Nat → zy_F} (ht : kd = 1 → ∃ m ab, zu_I ν s (us' s) ab ∧ zu_at ν s (us' s) k m) (L : zi_Lc) (g0 : zi_get L 0 = some (.ref 232)) (g6 : zi_get L 6 = some (.int (nI k))) :
    ∃ ν', ze_G (D + 28) 10 (some .int) zc_X6_open 349 L [] (zm_mk ν) (some (.int (nI k))) (zm_mk ν') ∧ zv_fox ν ν' row stk us' k := by
  obtain ⟨⟨c1, c2, c3, c4, c5⟩, fr⟩ := hc
  have hkd := zv_kd ha.1.1
  have cell : ∀ c d, ¬ (c = 231 ∧ d = 30) → ¬ (234 ≤ c ∧ c ≤ 238 ∧ d = k) → c < 239 ∨ c = 241 ∨ c = 242 → ν c d = μ c d := fun c d r1 r2 r3 => fr c d r1 r2 (by omega) (by omega) (by omega) (fun _ => ⟨zu_in_not (by omega), zu_in_not (by omega)⟩)
  have ho2 := zv_ord_new (ν := ν) hord hk hk0 (by rw [c1]; rcases hkd with e | e | e | e <;> rw [e] <;> decide) (fun x hx => ⟨cell _ _ (by omega) (by omega) (by omega), cell _ _ (by omega) (by omega) (by omega)⟩) (fun e => by
    rw [c1] at e
    rw [c2]
    exact ha.2.1 e)
  obtain ⟨rk, hr⟩ := zv_ord_rk ho2
  have hR := h.2.1
  have hS := h.2.2.1
  have hR2 : zv_L ν 242 12 row := ⟨hR.1.1, (cell _ _ (by omega) (by omega) (by omega)).trans hR.1.2.1, fun j hj => (cell _ _ (by omega) (by omega) (by omega)).trans (hR.1.2.2 j hj)⟩
  have hS2 : zv_L ν 241 10 stk := ⟨hS.1.1, (cell _ _ (by omega) (by omega) (by omega)).trans hS.1.2.1, fun j hj => (cell _ _ (by omega) (by omega) (by omega)).trans (hS.1.2.2 j hj)⟩
  obtain ⟨ν', ⟨N5, E5⟩, hf⟩ := zv_focusedx (μ := ν) (us := us') (D + 16) hr hk (fun e => by
    rw [c1] at e
    obtain ⟨m, ab, q1, q2⟩ := ht e
    exact ⟨s, m, ab, hs, c5 (by rw [e]; decide), q1, q2⟩) hS2 hS.2.1 (fun x hx => ((hS.2.2 x).mp hx).1) hR2 hR.2.1 (fun x hx => ((hR.2.2 x).mp hx).1)
  obtain ⟨lc6, cM6⟩ := zM_c (μ := ν)
  refine ⟨ν', ⟨N5, 5, fun F m hF => ?_⟩, hf⟩
  simp [zi_go, zf_X6_open, zi_ask, zi_new, zi_step, zi_ld, zi_lda, zi_cmp, zi_retOk, zi_isI, zi_f3, zi_cr, zi_ci, zi_cn, g0, g6, cM6, zq_Mod_focused, E5 F (by omega)]
set_option maxRecDepth 100000 in
theorem ze_Mopen_x (D : Nat) (h : zR μ row stk us) (hord : zv_ord μ ord) (kd w v o : Int32) : ∃ ν r, ze_E (D + 29) A_Mod_open [.ref 232, .int kd, .int w, .int v, .int o] (zm_mk μ) (some (.int r)) (zm_mk ν) ∧ zv_opnx μ ν row stk us kd w v o r := by
  have n2 : Int32.ofInt (-1000000002) = -1000000002 := by decide
  have h10 : (Int8.ofInt 10).toInt32 = (10 : Int32) := by decide
  have enter : ∀ {ν r}, ze_G (D + 28) 10 (some .int) zc_X6_open 0 [(0, .ref 232), (1, .int kd), (2, .int w), (3, .int v), (4, .int o)] [] (zm_mk μ) (some (.int r)) (zm_mk ν) → ze_E (D + 29) A_Mod_open [.ref 232, .int kd, .int w, .int v, .int o] (zm_mk μ) (some (.int r)) (zm_mk ν) := fun G => ze_in [(0, .ref 232), (1, .int kd), (2, .int w), (3, .int v), (4, .int o)] zq_Mod_open (Nat.le_of_ble_eq_true rfl) rfl G
  rcases zv_op0 (D + 25) h kd w v o with ⟨ha, g, S0⟩ | ⟨ha, G⟩
  · rcases zv_op1_v (D + 25) h (g := g) ha with ⟨q, r, hr, G⟩ | ⟨k, s, hk, hs, hk0, hkl, eo, hst, S1⟩
    · exact ⟨μ, r, enter (S0.end G), Or.inl ⟨Or.inr q, rfl, Or.inr ⟨ha, hr⟩⟩⟩
    · have ik : zi_in (nI k) 10 = true := zm_in hk (by decide)
      have ck : (nI k).toNatClampNeg = k := nI_clamp (by omega)
      have is : zi_in (nI s) 3 = true := zm_in hs (by decide)
      have cs : (nI s).toNatClampNeg = s := nI_clamp (by omega)
      have S2 : ze_S (D + 28) 10 (some .int) zc_X6_open 127 [(7, .int (nI s)), (6, .int (nI k)), (5, .int g), (0, .ref 232), (1, .int kd), (2, .int w), (3, .int v), (4, .int o)] [] (zm_mk μ) 143 [(7, .int (nI s)), (6, .int (nI k)), (5, .int g), (0, .ref 232), (1, .int kd), (2, .int w), (3, .int v), (4, .int o)] [] (zm_mk (zm_up (zm_up μ 235 k w) 236 k v)) := by
        refine ⟨0, 10, fun F m hF => ?_⟩
        simp [zi_go, zf_X6_open, zi_ask, zi_new, zi_step, zi_ld, zi_lda, zi_cmp, zi_retOk, zi_isI, zi_f3, zi_cr, zi_ci, zi_cn, zi_get, zi_set, zM_g, zm_iast zM_A235 ik, zm_iast zM_A236 ik, ck]
      have m1 : zm_up (zm_up μ 235 k w) 236 k v 235 k = w := by rw [zm_up_ne (by omega), zm_up_eq]
      have m2 : zm_up (zm_up μ 235 k w) 236 k v 236 k = v := zm_up_eq
      have fM : ∀ c d, ¬ (c = 235 ∧ d = k) → ¬ (c = 236 ∧ d = k) → zm_up (zm_up μ 235 k w) 236 k v c d = μ c d := fun c d r1 r2 => by rw [zm_up_ne r2, zm_up_ne r1]
      generalize zm_up (zm_up μ 235 k w) 236 k v = M at S2 m1 m2 fM
      obtain ⟨lcM, cMM⟩ := zM_c (μ := M)
      have SS := S0.trans (S1.trans S2)
      -- kind and owner
      have S5 : ∀ X : zm_M, ze_S (D + 28) 10 (some .int) zc_X6_open 205 [(7, .int (nI s)), (6, .int (nI k)), (5, .int g), (0, .ref 232), (1, .int kd), (2, .int w), (3, .int v), (4, .int o)] [] (zm_mk X) 222 [(7, .int (nI s)), (6, .int (nI k)), (5, .int g), (0, .ref 232), (1, .int kd), (2, .int w), (3, .int v), (4, .int o)] [] (zm_mk (zm_up (zm_up X 234 k kd) 237 k o)) := fun X => by
        refine ⟨0, 10, fun F m hF => ?_⟩
        simp [zi_go, zf_X6_open, zi_ask, zi_new, zi_step, zi_ld, zi_lda, zi_cmp, zi_retOk, zi_isI, zi_f3, zi_cr, zi_ci, zi_cn, zi_get, zi_set, zM_g, zm_iast zM_A234 ik, zm_iast zM_A237 ik, ck]
      have up5 : ∀ (X : zm_M), zm_up (zm_up X 234 k kd) 237 k o 234 k = kd ∧ zm_up (zm_up X 234 k kd) 237 k o 237 k = o ∧ ∀ c d, ¬ (c = 234 ∧ d = k) → ¬ (c = 237 ∧ d = k) → zm_up (zm_up X 234 k kd) 237 k o c d = X c d := fun X => ⟨by rw [zm_up_ne (by omega), zm_up_eq], zm_up_eq, fun c d r1 r2 => by rw [zm_up_ne r2, zm_up_ne r1]⟩
      rcases zv_kd ha.1.1 with rfl | rfl | rfl | rfl
      · -- tiled
        obtain ⟨lo, ν3, b, u', hlo, ⟨N3, E3⟩, htl, hb, hT, f3⟩ := zR_tile D h hk hs hk0 (M := M) (fun c d r1 r2 => fM c d (fun z => r1 z.1) (fun z => r2 z.1))
        rcases hb with rfl | rfl
        · refine ⟨ν3, -1000000002, enter (SS.end ⟨N3, 10, fun F m hF => ?_⟩), Or.inr ⟨ha, k, s, M, hk, hs, hk0, hkl, eo, hst, ⟨m1, m2, fM⟩, Or.inl ⟨rfl, lo, ν3, 0, u', hlo, htl, Or.inl ⟨rfl, fun c d r1 r2 r3 => f3 c d r1 r2 r3 (fun e => absurd e (by decide)), rfl⟩⟩⟩⟩
          simp [zi_go, zf_X6_open, zi_ask, zi_new, zi_step, zi_ld, zi_lda, zi_cmp, zi_retOk, zi_isI, zi_f3, zi_cr, zi_ci, zi_cn, zi_get, zi_set, cMM, zq_Mod_tile, E3 F (by omega), n2]
        · have S3 : ze_S (D + 28) 10 (some .int) zc_X6_open 143 [(7, .int (nI s)), (6, .int (nI k)), (5, .int g), (0, .ref 232), (1, .int 1), (2, .int w), (3, .int v), (4, .int o)] [] (zm_mk M) 205 [(7, .int (nI s)), (6, .int (nI k)), (5, .int g), (0, .ref 232), (1, .int 1), (2, .int w), (3, .int v), (4, .int o)] [] (zm_mk (zm_up ν3 238 k (nI s))) := by
            refine ⟨N3, 14, fun F m hF => ?_⟩
            simp [zi_go, zf_X6_open, zi_ask, zi_new, zi_step, zi_ld, zi_lda, zi_cmp, zi_retOk, zi_isI, zi_f3, zi_cr, zi_ci, zi_cn, zi_get, zi_set, zM_g, cMM, zq_Mod_tile, E3 F (by omega), zm_iast zM_A238 ik, ck]
          have S6 := S5 (zm_up ν3 238 k (nI s))
          obtain ⟨u1, u2, u3⟩ := up5 (zm_up ν3 238 k (nI s))
          have fX : ∀ c d, ¬ (c = 238 ∧ d = k) → zm_up ν3 238 k (nI s) c d = ν3 c d := fun c d r => zm_up_ne r
          have eX : zm_up ν3 238 k (nI s) 238 k = nI s := zm_up_eq
          generalize zm_up (zm_up (zm_up ν3 238 k (nI s)) 234 k 1) 237 k o = ν4 at S6 u1 u2 u3
          generalize zm_up ν3 238 k (nI s) = X at S3 S6 u3 fX eX
          have hc : zv_cam μ ν4 k s 1 w v o := by
            have f3' : ∀ c d, c < 243 ∨ 261 < c → ¬ (c = 231 ∧ d = 30) → ν3 c d = M c d := fun c d r1 r2 => f3 c d r2 (by omega) (zu_in_not (by omega)) (fun _ => zu_in_not (by omega))
            refine ⟨⟨u1, u2, ?_, ?_, fun _ => ?_⟩, fun c d r1 r2 r3 r4 r5 r6 => ?_⟩
            · rw [u3 _ _ (by omega) (by omega), fX _ _ (by omega), f3' _ _ (by omega) (by omega), m1]
            · rw [u3 _ _ (by omega) (by omega), fX _ _ (by omega), f3' _ _ (by omega) (by omega), m2]
            · rw [u3 _ _ (by omega) (by omega), eX]
            · rw [u3 c d (by omega) (by omega), fX c d (by omega), f3 c d r1 (by omega) (r6 rfl).1 (fun _ => (r6 rfl).2), fM c d (by omega) (by omega)]
          have tS : zu_eqT ν3 s ν4 s := zu_eq_in (fun c d r => (u3 c d (fun z => zu_in_not (Or.inl (by omega)) r) (fun z => zu_in_not (Or.inl (by omega)) r)).trans (fX c d (fun z => zu_in_not (Or.inl (by omega)) r)))
          obtain ⟨ab, m, q1, q2⟩ := hT rfl
          have eus : zd_upd us s u' s = u' := if_pos rfl
          obtain ⟨ν, G, hf⟩ := zv_op4x D h hord ha hk hk0 hc hs (us' := zd_upd us s u') (fun _ => ⟨m, ab, by rw [eus]; exact tS.I q1, by rw [eus]; exact zu_at_eqT q1 tS q2⟩) [(7, .int (nI s)), (6, .int (nI k)), (5, .int g), (0, .ref 232), (1, .int 1), (2, .int w), (3, .int v), (4, .int o)] rfl rfl
          refine ⟨ν, nI k, enter (SS.end (S3.end (S6.end (ze_S.end ⟨0, 9, fun F m hF => ?_⟩ G)))), Or.inr ⟨ha, k, s, M, hk, hs, hk0, hkl, eo, hst, ⟨m1, m2, fM⟩, Or.inl ⟨rfl, lo, ν3, 1, u', hlo, htl, Or.inr ⟨rfl, ν4, hc, tS, hf, rfl⟩⟩⟩⟩
          simp [zi_go, zf_X6_open, zi_ask, zi_new, zi_step, zi_ld, zi_lda, zi_cmp, zi_retOk, zi_isI, zi_f3, zi_cr, zi_ci, zi_cn, zi_get, zi_set]
      · -- floating
        obtain ⟨N3, E3⟩ := ze_McanBeWhole (μ := M) (D + 27) hk (μ 232 s) (μ 233 s)
        rw [m1, m2] at E3
        have x2 : M 232 s = μ 232 s := fM _ _ (by omega) (by omega)
        have x3 : M 233 s = μ 233 s := fM _ _ (by omega) (by omega)
        by_cases c : w ≤ μ 232 s ∧ v ≤ μ 233 s
        · rw [if_pos c] at E3
          have S3 : ze_S (D + 28) 10 (some .int) zc_X6_open 143 [(7, .int (nI s)), (6, .int (nI k)), (5, .int g), (0, .ref 232), (1, .int 2), (2, .int w), (3, .int v), (4, .int o)] [] (zm_mk M) 205 [(7, .int (nI s)), (6, .int (nI k)), (5, .int g), (0, .ref 232), (1, .int 2), (2, .int w), (3, .int v), (4, .int o)] [] (zm_mk M) := by
            refine ⟨N3, 18, fun F m hF => ?_⟩
            simp [zi_go, zf_X6_open, zi_ask, zi_new, zi_step, zi_ld, zi_lda, zi_cmp, zi_retOk, zi_isI, zi_f3, zi_cr, zi_ci, zi_cn, zi_get, zi_set, zM_g, cMM, zm_iald (k := 0) zM_A232 is, zm_iald (k := 0) zM_A233 is, cs, x2, x3, zq_Mod_canBeWhole, E3 F (by omega)]
          have S6 := S5 M
          obtain ⟨u1, u2, u3⟩ := up5 M
          generalize zm_up (zm_up M 234 k 2) 237 k o = Y at S6 u1 u2 u3
          obtain ⟨lcY, cMY⟩ := zM_c (μ := Y)
          obtain ⟨p, q, ⟨N4, E4⟩, -, -⟩ := ze_MputAt (μ := Y) (D + 26) hk hs (10 * nI k) (10 * nI k)
          have fP : ∀ c d, ¬ (c = 238 ∧ d = k) → c ≠ 239 → c ≠ 240 → zv_put Y k s p q c d = Y c d := fun c d r1 r2 r3 => by unfold zv_put; rw [zm_up_ne (by omega), zm_up_ne (by omega), zm_up_ne r1]
          have eP : zv_put Y k s p q 238 k = nI s := by unfold zv_put; rw [zm_up_ne (by omega), zm_up_ne (by omega), zm_up_eq]
          generalize zv_put Y k s p q = ν4 at E4 fP eP
          have hc : zv_cam μ ν4 k s 2 w v o := by
            refine ⟨⟨?_, ?_, ?_, ?_, fun _ => eP⟩, fun c d r1 r2 r3 r4 r5 r6 => ?_⟩
            · rw [fP _ _ (by omega) (by omega) (by omega), u1]
            · rw [fP _ _ (by omega) (by omega) (by omega), u2]
            · rw [fP _ _ (by omega) (by omega) (by omega), u3 _ _ (by omega) (by omega), m1]
            · rw [fP _ _ (by omega) (by omega) (by omega), u3 _ _ (by omega) (by omega), m2]
            · rw [fP c d (by omega) r3 r4, u3 c d (by omega) (by omega), fM c d (by omega) (by omega)]
          obtain ⟨ν, G, hf⟩ := zv_op4x D h hord ha hk hk0 hc hs (us' := us) (fun e => absurd e (by decide)) [(7, .int (nI s)), (6, .int (nI k)), (5, .int g), (0, .ref 232), (1, .int 2), (2, .int w), (3, .int v), (4, .int o)] rfl rfl
          refine ⟨ν, nI k, enter (SS.end (S3.end (S6.end (ze_S.end ⟨N4, 14, fun F m hF => ?_⟩ G)))), Or.inr ⟨ha, k, s, M, hk, hs, hk0, hkl, eo, hst, ⟨m1, m2, fM⟩, Or.inr ⟨by decide, Or.inr ⟨Or.inr c, ν4, hc, hf, rfl⟩⟩⟩⟩
          simp [zi_go, zf_X6_open, zi_ask, zi_new, zi_step, zi_ld, zi_lda, zi_cmp, zi_retOk, zi_isI, zi_f3, zi_cr, zi_ci, zi_cn, zi_get, zi_set, h10, cMY, zq_Mod_putAt, E4 F (by omega)]
        · rw [if_neg c] at E3
          refine ⟨M, -1000000002, enter (SS.end ⟨N3, 20, fun F m hF => ?_⟩), Or.inr ⟨ha, k, s, M, hk, hs, hk0, hkl, eo, hst, ⟨m1, m2, fM⟩, Or.inr ⟨by decide, Or.inl ⟨by decide, c, rfl, rfl⟩⟩⟩⟩
          simp [zi_go, zf_X6_open, zi_ask, zi_new, zi_step, zi_ld, zi_lda, zi_cmp, zi_retOk, zi_isI, zi_f3, zi_cr, zi_ci, zi_cn, zi_get, zi_set, zM_g, cMM, zm_iald (k := 0) zM_A232 is, zm_iald (k := 0) zM_A233 is, cs, x2, x3, zq_Mod_canBeWhole, E3 F (by omega), n2]
      · -- a dialog
        obtain ⟨j, hj, rfl, hj0⟩ := ha.2.1 rfl
        obtain ⟨N3, E3⟩ := ze_McanBeWhole (μ := M) (D + 27) hk (μ 232 s) (μ 233 s)
        rw [m1, m2] at E3
        have x2 : M 232 s = μ 232 s := fM _ _ (by omega) (by omega)
        have x3 : M 233 s = μ 233 s := fM _ _ (by omega) (by omega)
        by_cases c : w ≤ μ 232 s ∧ v ≤ μ 233 s
        · rw [if_pos c] at E3
          have S3 : ze_S (D + 28) 10 (some .int) zc_X6_open 143 [(7, .int (nI s)), (6, .int (nI k)), (5, .int g), (0, .ref 232), (1, .int 3), (2, .int w), (3, .int v), (4, .int (nI j))] [] (zm_mk M) 205 [(7, .int (nI s)), (6, .int (nI k)), (5, .int g), (0, .ref 232), (1, .int 3), (2, .int w), (3, .int v), (4, .int (nI j))] [] (zm_mk M) := by
            refine ⟨N3, 18, fun F m hF => ?_⟩
            simp [zi_go, zf_X6_open, zi_ask, zi_new, zi_step, zi_ld, zi_lda, zi_cmp, zi_retOk, zi_isI, zi_f3, zi_cr, zi_ci, zi_cn, zi_get, zi_set, zM_g, cMM, zm_iald (k := 0) zM_A232 is, zm_iald (k := 0) zM_A233 is, cs, x2, x3, zq_Mod_canBeWhole, E3 F (by omega)]
          have S6 := S5 M
          obtain ⟨u1, u2, u3⟩ := up5 M
          generalize zm_up (zm_up M 234 k 3) 237 k (nI j) = Y at S6 u1 u2 u3
          have hjk : j ≠ k := fun e => hj0 (by rw [e]; exact hk0)
          have y4 : Y 234 j = μ 234 j := by rw [u3 _ _ (by omega) (by omega), fM _ _ (by omega) (by omega)]
          have y8 : Y 238 j = μ 238 j := by rw [u3 _ _ (by omega) (by omega), fM _ _ (by omega) (by omega)]
          have hA : zv_arg Y us j := by
            refine ⟨by rw [y4]; exact zR_fl h hj hj0, fun e => ?_⟩
            rw [y4] at e
            obtain ⟨q, m, ab, r1, r2, r3, r4⟩ := zR_til h hj e
            have t : zu_eqT μ q Y q := zu_eq_in (fun c d r => (u3 c d (fun z => zu_in_not (Or.inl (by omega)) r) (fun z => zu_in_not (Or.inl (by omega)) r)).trans (fM c d (fun z => zu_in_not (Or.inl (by omega)) r) (fun z => zu_in_not (Or.inl (by omega)) r)))
            exact ⟨q, m, ab, r1, by rw [y8]; exact r2, t.I r3, zu_at_eqT r3 t r4⟩
          obtain ⟨M', p, q, L', S7, g0, g6, fM'⟩ := zv_op3 D hj hk hs hA (w := w) (v := v) (kd := 3) (g := g)
          have fP : ∀ c d, ¬ (c = 238 ∧ d = k) → c ≠ 239 → c ≠ 240 → zv_put M' k s p q c d = M' c d := fun c d r1 r2 r3 => by unfold zv_put; rw [zm_up_ne (by omega), zm_up_ne (by omega), zm_up_ne r1]
          have eP : zv_put M' k s p q 238 k = nI s := by unfold zv_put; rw [zm_up_ne (by omega), zm_up_ne (by omega), zm_up_eq]
          generalize zv_put M' k s p q = ν4 at S7 fP eP
          have hc : zv_cam μ ν4 k s 3 w v (nI j) := by
            refine ⟨⟨?_, ?_, ?_, ?_, fun _ => eP⟩, fun c d r1 r2 r3 r4 r5 r6 => ?_⟩
            · rw [fP _ _ (by omega) (by omega) (by omega), fM' _ _ (by omega) (by omega) (by omega) (by omega), u1]
            · rw [fP _ _ (by omega) (by omega) (by omega), fM' _ _ (by omega) (by omega) (by omega) (by omega), u2]
            · rw [fP _ _ (by omega) (by omega) (by omega), fM' _ _ (by omega) (by omega) (by omega) (by omega), u3 _ _ (by omega) (by omega), m1]
            · rw [fP _ _ (by omega) (by omega) (by omega), fM' _ _ (by omega) (by omega) (by omega) (by omega), u3 _ _ (by omega) (by omega), m2]
            · rw [fP c d (by omega) r3 r4, fM' c d r1 r3 r4 r5, u3 c d (by omega) (by omega), fM c d (by omega) (by omega)]
          obtain ⟨ν, G, hf⟩ := zv_op4x D h hord ha hk hk0 hc hs (us' := us) (fun e => absurd e (by decide)) L' g0 g6
          refine ⟨ν, nI k, enter (SS.end (S3.end (S6.end (ze_S.end (p2 := 293) (L2 := [(7, .int (nI s)), (6, .int (nI k)), (5, .int g), (0, .ref 232), (1, .int 3), (2, .int w), (3, .int v), (4, .int (nI j))]) (s2 := []) (h2 := zm_mk Y) ⟨0, 9, fun F m hF => ?_⟩ (S7.end G))))), Or.inr ⟨ha, k, s, M, hk, hs, hk0, hkl, eo, hst, ⟨m1, m2, fM⟩, Or.inr ⟨by decide, Or.inr ⟨Or.inr c, ν4, hc, hf, rfl⟩⟩⟩⟩
          simp [zi_go, zf_X6_open, zi_ask, zi_new, zi_step, zi_ld, zi_lda, zi_cmp, zi_retOk, zi_isI, zi_f3, zi_cr, zi_ci, zi_cn, zi_get, zi_set]
        · rw [if_neg c] at E3
          refine ⟨M, -1000000002, enter (SS.end ⟨N3, 20, fun F m hF => ?_⟩), Or.inr ⟨ha, k, s, M, hk, hs, hk0, hkl, eo, hst, ⟨m1, m2, fM⟩, Or.inr ⟨by decide, Or.inl ⟨by decide, c, rfl, rfl⟩⟩⟩⟩
          simp [zi_go, zf_X6_open, zi_ask, zi_new, zi_step, zi_ld, zi_lda, zi_cmp, zi_retOk, zi_isI, zi_f3, zi_cr, zi_ci, zi_cn, zi_get, zi_set, zM_g, cMM, zm_iald (k := 0) zM_A232 is, zm_iald (k := 0) zM_A233 is, cs, x2, x3, zq_Mod_canBeWhole, E3 F (by omega), n2]
      · -- sticky
        have S3 : ze_S (D + 28) 10 (some .int) zc_X6_open 143 [(7, .int (nI s)), (6, .int (nI k)), (5, .int g), (0, .ref 232), (1, .int 4), (2, .int w), (3, .int v), (4, .int o)] [] (zm_mk M) 205 [(7, .int (nI s)), (6, .int (nI k)), (5, .int g), (0, .ref 232), (1, .int 4), (2, .int w), (3, .int v), (4, .int o)] [] (zm_mk M) := by
          refine ⟨0, 6, fun F m hF => ?_⟩
          simp [zi_go, zf_X6_open, zi_ask, zi_new, zi_step, zi_ld, zi_lda, zi_cmp, zi_retOk, zi_isI, zi_f3, zi_cr, zi_ci, zi_cn, zi_get, zi_set]
        have S6 := S5 M
        obtain ⟨u1, u2, u3⟩ := up5 M
        generalize zm_up (zm_up M 234 k 4) 237 k o = Y at S6 u1 u2 u3
        have S7 : ze_S (D + 28) 10 (some .int) zc_X6_open 222 [(7, .int (nI s)), (6, .int (nI k)), (5, .int g), (0, .ref 232), (1, .int 4), (2, .int w), (3, .int v), (4, .int o)] [] (zm_mk Y) 349 [(7, .int (nI s)), (6, .int (nI k)), (5, .int g), (0, .ref 232), (1, .int 4), (2, .int w), (3, .int v), (4, .int o)] [] (zm_mk (zm_up (zm_up (zm_up Y 238 k (-1)) 239 k (10 * nI k)) 240 k (10 * nI k))) := by
          refine ⟨0, 26, fun F m hF => ?_⟩
          simp [zi_go, zf_X6_open, zi_ask, zi_new, zi_step, zi_ld, zi_lda, zi_cmp, zi_retOk, zi_isI, zi_f3, zi_cr, zi_ci, zi_cn, zi_get, zi_set, zM_g, h10, zm_iast zM_A238 ik, zm_iast zM_A239 ik, zm_iast zM_A240 ik, ck]
        have fP : ∀ c d, ¬ (c = 238 ∧ d = k) → c ≠ 239 → c ≠ 240 → zm_up (zm_up (zm_up Y 238 k (-1)) 239 k (10 * nI k)) 240 k (10 * nI k) c d = Y c d := fun c d r1 r2 r3 => by rw [zm_up_ne (by omega), zm_up_ne (by omega), zm_up_ne r1]
        generalize zm_up (zm_up (zm_up Y 238 k (-1)) 239 k (10 * nI k)) 240 k (10 * nI k) = ν4 at S7 fP
        have hc : zv_cam μ ν4 k s 4 w v o := by
          refine ⟨⟨?_, ?_, ?_, ?_, fun e => absurd rfl e⟩, fun c d r1 r2 r3 r4 r5 r6 => ?_⟩
          · rw [fP _ _ (by omega) (by omega) (by omega), u1]
          · rw [fP _ _ (by omega) (by omega) (by omega), u2]
          · rw [fP _ _ (by omega) (by omega) (by omega), u3 _ _ (by omega) (by omega), m1]
          · rw [fP _ _ (by omega) (by omega) (by omega), u3 _ _ (by omega) (by omega), m2]
          · rw [fP c d (by omega) r3 r4, u3 c d (by omega) (by omega), fM c d (by omega) (by omega)]
        obtain ⟨ν, G, hf⟩ := zv_op4x D h hord ha hk hk0 hc hs (us' := us) (fun e => absurd e (by decide)) [(7, .int (nI s)), (6, .int (nI k)), (5, .int g), (0, .ref 232), (1, .int 4), (2, .int w), (3, .int v), (4, .int o)] rfl rfl
        exact ⟨ν, nI k, enter (SS.end (S3.end (S6.end (S7.end G)))), Or.inr ⟨ha, k, s, M, hk, hs, hk0, hkl, eo, hst, ⟨m1, m2, fM⟩, Or.inr ⟨by decide, Or.inr ⟨Or.inl rfl, ν4, hc, hf, rfl⟩⟩⟩⟩
  · exact ⟨μ, _, enter G, Or.inl ⟨Or.inl ha, rfl, Or.inl ⟨ha, rfl⟩⟩⟩
end ZXU
