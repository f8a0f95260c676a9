/-! drag: the same answer -/
def zd_drA (μ : zm_M) (w x y : Int32) : Prop := ∃ k o sd, (k < 10 ∧ o < 10 ∧ sd < 5) ∧ (w = nI k ∧ x = nI o ∧ y = nI sd) ∧ zd_th μ k = true ∧ zd_th μ o = true ∧ k ≠ o
def zv_drA (μ : zm_M) (w x y : Int32) : Prop := ∃ k o sd, (k < 10 ∧ o < 10 ∧ sd < 5) ∧ (w = nI k ∧ x = nI o ∧ y = nI sd) ∧ ¬ μ 234 k = 0 ∧ ¬ μ 234 o = 0 ∧ k ≠ o
def zd_drgdv (μ ν : zm_M) (row row' : List Nat) (Rs Rs' : Nat → List Nat) (ts ts' : Nat → zy_F) (w x y r : Int32) : Prop :=
  ((¬ ∃ k o sd, zd_darg μ w x y k o sd) ∧ ν = μ ∧ row' = row ∧ Rs' = Rs ∧ ts' = ts ∧ zx_ref (zd_drA μ w x y) r) ∨
  ∃ k o sd a b ν1 R2 t2, zd_darg μ w x y k o sd ∧ a < 3 ∧ b < 3 ∧ μ (zdW k) 5 = nI a ∧ μ (zdW o) 5 = nI b ∧ zt_frT 7 μ ν1 ∧ zd_trl μ ν1 Rs ts k o sd b R2 t2 ∧
    (((zt_fit ν1 7 (zdZ b) R2 t2 = false ∨ (¬ a = b ∧ zl_al (zd_gwf μ (zd_grp μ k) (zdZ b)) 10 = false)) ∧ zJ_eqv μ ν ∧ row' = row ∧ Rs' = Rs ∧ ts' = ts ∧ r = -1000000002) ∨
     ((zt_fit ν1 7 (zdZ b) R2 t2 = true ∧ (a = b ∨ zl_al (zd_gwf μ (zd_grp μ k) (zdZ b)) 10 = true)) ∧ row' = k :: row.erase k ∧ ∃ n ν6, n ∈ zy_lvs (ts a) ∧ μ (zdT a + 3) k = nI n ∧ Rs' = zd_drR Rs k a b R2 ∧ ts' = zd_drT μ Rs ts k a b n t2 ∧
        (∀ c d, ¬ zJ_irr c → zt_out (zdT a) c → zt_out (zdT b) c → (∀ q, q < 3 → c = zdK q → d ≠ 3) → (∀ j, j < 10 → c = zdW j → d ≠ 5) → ν6 c d = μ c d) ∧ (∀ q, q < 3 → ν6 (zdK q) 3 = if zd_has μ q k = true then 0 else μ (zdK q) 3) ∧
        (∀ j, j < 10 → ν6 (zdW j) 5 = if ¬ a = b ∧ zd_grp μ k j = true then nI b else μ (zdW j) 5) ∧ (¬ a = b → zt_isOut μ (zdT a) (Rs a) (ts a) n k ν6 (zdT a)) ∧ zt_isCopy ν1 7 ν6 (zdT b) ∧ zt_C ν6 (zdT b) R2 t2 ∧ zd_foc ν6 ν k ∧ r = 0))
def zv_drgdv (μ ν : zm_M) (row stk : List Nat) (us : Nat → zy_F) (w x y v : Int32) : Prop :=
  ((¬ ∃ k o sd, zv_darg μ w x y k o sd) ∧ ν = μ ∧ zx_ref (zv_drA μ w x y) v) ∨
  ∃ k o sd a b ξ u2, zv_darg μ w x y k o sd ∧ a < 3 ∧ b < 3 ∧ μ 238 k = nI a ∧ μ 238 o = nI b ∧ zu_fr 6 μ ξ ∧ zv_trl μ ξ us a k o sd b u2 ∧
    (((zu_fit ξ 6 u2 (μ 232 b) (μ 233 b) = false ∨ (a ≠ b ∧ ¬ ∀ j, j < 10 → zv_drm μ k b (zv_grp μ k) j = true)) ∧ (∀ c d, c ≠ 260 → ¬ zu_in 6 c d → ν c d = μ c d) ∧ v = -1000000002) ∨
     ((zu_fit ξ 6 u2 (μ 232 b) (μ 233 b) = true ∧ (a = b ∨ ∀ j, j < 10 → zv_drm μ k b (zv_grp μ k) j = true)) ∧ ∃ ν6 ua, zv_drx μ ξ ν6 us k a b ua ∧ zv_foc ν6 ν row stk (zv_drU us a b ua u2) k ∧ v = 0))
section ZXR
variable {μ ν : zm_M} {row stk : List Nat} {Rs : Nat → List Nat} {ts : Nat → zy_F}
set_option maxRecDepth 100000 in
theorem ze_drag_0_v (D : Nat) (h : zJ μ row stk Rs ts) (w x y : Int32) : ((¬ ∃ k o sd, zd_darg μ w x y k o sd) ∧ ∃ r, zx_ref (zd_drA μ w x y) r ∧ ze_G (D + 1) 6 (some .int) zc_X5_drag 0 [(0, .ref 1), (1, .int w), (2, .int x), (3, .int y)] [] (zm_mk μ) (some (.int r)) (zm_mk μ)) ∨
    ∃ k o sd, zd_darg μ w x y k o sd ∧ ze_S (D + 1) 6 (some .int) zc_X5_drag 0 [(0, .ref 1), (1, .int w), (2, .int x), (3, .int y)] [] (zm_mk μ) 63 [(0, .ref 1), (1, .int w), (2, .int x), (3, .int y)] [] (zm_mk μ) := by
  have n4 : Int32.ofInt (-1000000001) = -1000000001 := by decide
  have n2 : Int32.ofInt (-1000000002) = -1000000002 := by decide
  have isW : ∀ z : Int32, (ze_E (D + 1) A_Desk_isWindow [.ref 1, .int z] (zm_mk μ) (some (.int 0)) (zm_mk μ) ∧ ∀ k, k < 10 → z = nI k → ¬ zd_th μ k = true) ∨ (ze_E (D + 1) A_Desk_isWindow [.ref 1, .int z] (zm_mk μ) (some (.int 1)) (zm_mk μ) ∧ ∃ k, k < 10 ∧ z = nI k ∧ zd_th μ k = true) := by
    intro z
    rcases zd_rng z 10 (by decide) with ⟨k, hk, rfl⟩ | hout
    · have E := ze_thW (μ := μ) D hk
      by_cases c : zd_th μ k = true
      · rw [if_pos c] at E
        exact Or.inr ⟨E, k, hk, rfl, c⟩
      · rw [if_neg c] at E
        exact Or.inl ⟨E, fun k' hk' e => by rw [← (nI_eq (by omega) (by omega)).mp e]; exact c⟩
    · exact Or.inl ⟨ze_isWindow_out D hout, fun k hk e => by
        rw [e] at hout
        exact absurd hout (fun q => q.elim (nI_pos (by omega)) (nI_ge (b := 10) hk (by decide)))⟩
  have thof : ∀ {j : Nat}, zd_til μ j = true → zd_th μ j = true := fun q => decide_eq_true (of_decide_eq_true q).1
  rcases isW w with ⟨⟨N1, E1⟩, hno⟩ | ⟨⟨N1, E1⟩, k, hk, rfl, htk⟩
  · refine Or.inl ⟨fun ⟨k, o, sd, ⟨q1, _, _⟩, ⟨q2, _, _⟩, q3, _, _⟩ => hno k q1 q2 (thof q3), -1000000001, Or.inl ⟨fun ⟨k, _, _, ⟨q1, _, _⟩, ⟨q2, _, _⟩, q3, _, _⟩ => hno k q1 q2 q3, rfl⟩, N1, 6, fun F n hF => ?_⟩
    simp [zi_go, zf_X5_drag, zi_ask, zi_new, zi_step, zi_ld, zi_lda, zi_cmp, zi_retOk, zi_isI, zi_f3, zi_cr, zi_ci, zi_cn, zi_get, zi_set, zq_Desk_isWindow, zd_c, E1 F (by omega), n4]
  rcases isW x with ⟨⟨N2, E2⟩, hno⟩ | ⟨⟨N2, E2⟩, o, ho, rfl, hto⟩
  · refine Or.inl ⟨fun ⟨k, o, sd, ⟨_, q1, _⟩, ⟨_, q2, _⟩, _, q3, _⟩ => hno o q1 q2 (thof q3), -1000000001, Or.inl ⟨fun ⟨_, o, _, ⟨_, q1, _⟩, ⟨_, q2, _⟩, _, q3, _⟩ => hno o q1 q2 q3, rfl⟩, N1 + N2, 10, fun F n hF => ?_⟩
    simp [zi_go, zf_X5_drag, zi_ask, zi_new, zi_step, zi_ld, zi_lda, zi_cmp, zi_retOk, zi_isI, zi_f3, zi_cr, zi_ci, zi_cn, zi_get, zi_set, zq_Desk_isWindow, zd_c, E1 F (by omega), E2 F (by omega), n4]
  have inj : ∀ {i j : Nat}, i < 10 → j < 10 → nI i = nI j → i = j := fun h1 h2 e => (nI_eq (by omega) (by omega)).mp e
  by_cases c3 : k = o
  · subst c3
    refine Or.inl ⟨fun ⟨k', o', sd, ⟨q1, q2, _⟩, ⟨q3, q4, _⟩, _, _, q5⟩ => q5 ((inj q1 hk q3.symm).trans (inj q2 hk q4.symm).symm), -1000000001, Or.inl ⟨fun ⟨k', o', sd, ⟨q1, q2, _⟩, ⟨q3, q4, _⟩, _, _, q5⟩ => q5 ((inj q1 hk q3.symm).trans (inj q2 hk q4.symm).symm), rfl⟩, N1 + N2, 13, fun F n hF => ?_⟩
    simp [zi_go, zf_X5_drag, zi_ask, zi_new, zi_step, zi_ld, zi_lda, zi_cmp, zi_retOk, zi_isI, zi_f3, zi_cr, zi_ci, zi_cn, zi_get, zi_set, zq_Desk_isWindow, zd_c, E1 F (by omega), n4]
  have c3' : ¬ nI k = nI o := fun e => c3 (inj hk ho e)
  have side : (∃ sd, sd < 5 ∧ y = nI sd ∧ ze_S (D + 1) 6 (some .int) zc_X5_drag 0 [(0, .ref 1), (1, .int (nI k)), (2, .int (nI o)), (3, .int y)] [] (zm_mk μ) 36 [(0, .ref 1), (1, .int (nI k)), (2, .int (nI o)), (3, .int y)] [] (zm_mk μ)) ∨ ((∀ sd, sd < 5 → ¬ y = nI sd) ∧ ze_G (D + 1) 6 (some .int) zc_X5_drag 0 [(0, .ref 1), (1, .int (nI k)), (2, .int (nI o)), (3, .int y)] [] (zm_mk μ) (some (.int (-1000000001))) (zm_mk μ)) := by
    rcases zd_rng y 4 (by decide) with ⟨sd, hsd, rfl⟩ | hout
    · obtain ⟨N3, E3⟩ := ze_isSide_in (h := zm_mk μ) D hsd
      left
      refine ⟨sd, by omega, rfl, N1 + N2 + N3, 14, fun F n hF => ?_⟩
      simp [zi_go, zf_X5_drag, zi_ask, zi_new, zi_step, zi_ld, zi_lda, zi_cmp, zi_retOk, zi_isI, zi_f3, zi_cr, zi_ci, zi_cn, zi_get, zi_set, zq_Desk_isWindow, zd_c, E1 F (by omega), E2 F (by omega), c3', zq_Desk_isSide, E3 F (by omega)]
    · obtain ⟨N3, E3⟩ := ze_isSide_out (h := zm_mk μ) D hout
      by_cases c4 : y = 4
      · left
        refine ⟨4, by decide, c4, N1 + N2 + N3, 17, fun F n hF => ?_⟩
        have E3 := E3 F (by omega)
        rw [c4] at E3
        simp [zi_go, zf_X5_drag, zi_ask, zi_new, zi_step, zi_ld, zi_lda, zi_cmp, zi_retOk, zi_isI, zi_f3, zi_cr, zi_ci, zi_cn, zi_get, zi_set, zq_Desk_isWindow, zd_c, E1 F (by omega), E2 F (by omega), c3', zq_Desk_isSide, E3, c4]
      · right
        refine ⟨fun sd hsd e => ?_, N1 + N2 + N3, 19, fun F n hF => ?_⟩
        · by_cases e4 : sd = 4
          · rw [e4] at e
            exact c4 e
          · rw [e] at hout
            exact hout.elim (nI_pos (by omega)) (nI_ge (b := 4) (by omega) (by decide))
        · simp [zi_go, zf_X5_drag, zi_ask, zi_new, zi_step, zi_ld, zi_lda, zi_cmp, zi_retOk, zi_isI, zi_f3, zi_cr, zi_ci, zi_cn, zi_get, zi_set, zq_Desk_isWindow, zd_c, E1 F (by omega), E2 F (by omega), c3', zq_Desk_isSide, E3 F (by omega), c4, n4]
  rcases side with ⟨sd, hsd, rfl, S1⟩ | ⟨hno, G⟩
  rotate_left
  · exact Or.inl ⟨fun ⟨k, o, sd, ⟨_, _, q1⟩, ⟨_, _, q2⟩, _⟩ => hno sd q1 q2, _, Or.inl ⟨fun ⟨_, _, sd, ⟨_, _, q1⟩, ⟨_, _, q2⟩, _⟩ => hno sd q1 q2, rfl⟩, G⟩
  obtain ⟨N4, E4⟩ := ze_tilW (μ := μ) D hk
  obtain ⟨N5, E5⟩ := ze_tilW (μ := μ) D ho
  have cwk := zw_c (μ := μ) (zdW_at hk)
  have cwo := zw_c (μ := μ) (zdW_at ho)
  by_cases c5 : zd_til μ k = true
  · rw [if_pos c5] at E4
    by_cases c6 : zd_til μ o = true
    · rw [if_pos c6] at E5
      right
      refine ⟨k, o, sd, ⟨⟨hk, ho, hsd⟩, ⟨rfl, rfl, rfl⟩, c5, c6, c3⟩, S1.trans ⟨N4 + N5, 12, fun F n hF => ?_⟩⟩
      simp [zi_go, zf_X5_drag, zi_ask, zi_new, zi_step, zi_ld, zi_lda, zi_cmp, zi_retOk, zi_isI, zi_f3, zi_cr, zi_ci, zi_cn, zi_get, zi_set, zd_g, zd_w hk, zd_w ho, zq_Win_isTiled, cwk, cwo, E4 F (by omega), E5 F (by omega)]
    · rw [if_neg c6] at E5
      refine Or.inl ⟨fun ⟨k', o', sd', ⟨q1, q2, _⟩, ⟨q3, q4, _⟩, _, q5, _⟩ => c6 (by rw [inj ho q2 q4]; exact q5), -1000000002, Or.inr ⟨⟨k, o, sd, ⟨hk, ho, hsd⟩, ⟨rfl, rfl, rfl⟩, htk, hto, c3⟩, rfl⟩, S1.end ⟨N4 + N5, 14, fun F n hF => ?_⟩⟩
      simp [zi_go, zf_X5_drag, zi_ask, zi_new, zi_step, zi_ld, zi_lda, zi_cmp, zi_retOk, zi_isI, zi_f3, zi_cr, zi_ci, zi_cn, zi_get, zi_set, zd_g, zd_w hk, zd_w ho, zq_Win_isTiled, cwk, cwo, E4 F (by omega), E5 F (by omega), n2]
  · rw [if_neg c5] at E4
    refine Or.inl ⟨fun ⟨k', o', sd', ⟨q1, q2, _⟩, ⟨q3, q4, _⟩, q5, _, _⟩ => c5 (by rw [inj hk q1 q3]; exact q5), -1000000002, Or.inr ⟨⟨k, o, sd, ⟨hk, ho, hsd⟩, ⟨rfl, rfl, rfl⟩, htk, hto, c3⟩, rfl⟩, S1.end ⟨N4, 8, fun F n hF => ?_⟩⟩
    simp [zi_go, zf_X5_drag, zi_ask, zi_new, zi_step, zi_ld, zi_lda, zi_cmp, zi_retOk, zi_isI, zi_f3, zi_cr, zi_ci, zi_cn, zi_get, zi_set, zd_g, zd_w hk, zq_Win_isTiled, cwk, E4 F (by omega), n2]
set_option maxRecDepth 100000 in
theorem ze_drag_v (D : Nat) (h : zJ μ row stk Rs ts) (w x y : Int32) : ∃ ν r row' stk' Rs' ts', ze_E (D + 16) A_Desk_drag [.ref 1, .int w, .int x, .int y] (zm_mk μ) (some (.int r)) (zm_mk ν) ∧ zJ ν row' stk' Rs' ts' ∧ zd_drgdv μ ν row row' Rs Rs' ts ts' w x y r := by
  have n2 : Int32.ofInt (-1000000002) = -1000000002 := by decide
  rcases ze_drag_0_v (D + 14) h w x y with ⟨hno, r, hr, G⟩ | ⟨k, o, sd, hd, S0⟩
  · exact ⟨μ, r, row, stk, Rs, ts, ze_in [(0, .ref 1), (1, .int w), (2, .int x), (3, .int y)] zq_Desk_drag (Nat.le_of_ble_eq_true rfl) rfl G, h, Or.inl ⟨hno, rfl, rfl, rfl, rfl, hr⟩⟩
  obtain ⟨⟨hk, ho, hsd⟩, ⟨rfl, rfl, rfl⟩, htk, hto, hko⟩ := id hd
  obtain ⟨a, ha, ea, hkR, n, hn, en⟩ := zJ_til h hk htk
  obtain ⟨b, hb, eb, hoR, -⟩ := zJ_til h ho hto
  have hbt : ¬ μ (zdS b) 3 = 0 := by
    obtain ⟨-, -, a3, -, -⟩ := h.2.2.1 o ho (decide_eq_true (of_decide_eq_true hto).1)
    obtain ⟨s', b1, b2, b3⟩ := a3 (by rw [(of_decide_eq_true hto).2]; decide)
    rw [(nI_eq (by omega) (by omega)).mp (eb.symm.trans b2)]
    exact b3
  obtain ⟨ν1, ν0, R', t', m, ⟨N1, E1⟩, d1, d2, d3, d4, f1⟩ := ze_tryDrag (μ := μ) (D + 10) hk ho hko hb hsd eb (h.2.2.2.1 b hb).1.1 hoR
  obtain ⟨R2, t2, htr⟩ := zd_trl_of d1 d2 d3 d4
  obtain ⟨C1, hR2, h52⟩ := zd_trl_R h hb htr
  -- the group
  obtain ⟨ν2, ⟨N2, E2⟩, f2, hg2⟩ := ze_gatherWithDialogs (μ := ν1) (D + 12) hk
  have w1 : ∀ j, ν1 (zdW j) = μ (zdW j) := fun j => f1 _ (by unfold zt_out zdW; omega)
  have eow : zd_ow ν1 = zd_ow μ := funext fun j => by unfold zd_ow; rw [w1]
  have edl : zd_dl ν1 = zd_dl μ := funext fun j => by unfold zd_dl; rw [eow, w1, w1]
  rw [eow, edl] at hg2
  have hg2 : zd_gr ν2 (zd_grp μ k) := hg2
  have o2 : ∀ c, zt_out 7 c → c ≠ 31 → ν2 c = μ c := fun c h1 h2 => (f2 c h2).trans (f1 c h1)
  have C2 : zt_C ν2 7 R2 t2 := zt_C_congr (fun c h1 h2 => f2 c (by omega)) C1
  have ev2 : zJ_eqv μ ν2 := fun c hc => o2 c (zJn_7 hc) (fun e => hc (by rw [e]; unfold zJ_irr; omega))
  obtain ⟨N3, E3⟩ := ze_fitsC (μ := ν2) (D + 13) zd7_at C2 (zdZ_A hb)
  have efit : zt_fit ν2 7 (zdZ b) R2 t2 = zt_fit ν1 7 (zdZ b) R2 t2 := zt_fit_copy ⟨f2 _ (by decide), f2 _ (by decide), f2 _ (by decide), f2 _ (by decide), f2 _ (by decide), f2 _ (by decide)⟩ (f2 _ (by unfold zdZ; omega))
  rw [efit] at E3
  obtain ⟨N4, E4⟩ := ze_groupCanBeWhole (μ := ν2) (D + 13) hg2 hb
  have egw : zl_al (zd_gwf ν2 (zd_grp μ k) (zdZ b)) 10 = zl_al (zd_gwf μ (zd_grp μ k) (zdZ b)) 10 := by
    have key : ∀ j, j < 10 → zd_gwf ν2 (zd_grp μ k) (zdZ b) j = zd_gwf μ (zd_grp μ k) (zdZ b) j := fun j hj => by
      unfold zd_gwf zd_flo zd_whole
      rw [ev2 _ (zJn_W hj).1, ev2 _ (zJn_W hj).2, ev2 _ (zJn_S hb).2.1]
    cases hc : zl_al (zd_gwf μ (zd_grp μ k) (zdZ b)) 10 with
    | true => exact (zl_al_iff 10).mpr (fun j hj => by rw [key j hj]; exact (zl_al_iff 10).mp hc j hj)
    | false =>
      cases hc2 : zl_al (zd_gwf ν2 (zd_grp μ k) (zdZ b)) 10 with
      | false => rfl
      | true =>
        rw [(zl_al_iff 10).mpr (fun j hj => by rw [← key j hj]; exact (zl_al_iff 10).mp hc2 j hj)] at hc
        cases hc
  rw [egw] at E4
  have S1 : ze_S (D + 15) 6 (some .int) zc_X5_drag 63 [(0, .ref 1), (1, .int (nI k)), (2, .int (nI o)), (3, .int (nI sd))] [] (zm_mk μ) 97 [(5, .int (nI b)), (4, .int (nI a)), (0, .ref 1), (1, .int (nI k)), (2, .int (nI o)), (3, .int (nI sd))] [] (zm_mk ν2) := by
    refine ⟨N1 + N2, 20, fun F n hF => ?_⟩
    simp [zi_go, zf_X5_drag, zi_ask, zi_new, zi_step, zi_ld, zi_lda, zi_cmp, zi_retOk, zi_isI, zi_f3, zi_cr, zi_ci, zi_cn, zi_get, zi_set, zd_g, zd_w hk, zd_w ho, zw_g (zdW_at hk), zw_g (zdW_at ho), ea, eb, zq_Desk_tryDrag, zd_c, E1 F (by omega), zq_Desk_gatherWithDialogs, E2 F (by omega)]
  have SS := S0.trans S1
  generalize hL : ([(5, .int (nI b)), (4, .int (nI a)), (0, .ref 1), (1, .int (nI k)), (2, .int (nI o)), (3, .int (nI sd))] : zi_Lc) = L at SS
  have nl : zi_nl L = true := by rw [← hL]; rfl
  have g0 : zi_get L 0 = some (.ref 1) := by rw [← hL]; rfl
  have g1 : zi_get L 1 = some (.int (nI k)) := by rw [← hL]; rfl
  have g4 : zi_get L 4 = some (.int (nI a)) := by rw [← hL]; rfl
  have g5 : zi_get L 5 = some (.int (nI b)) := by rw [← hL]; rfl
  clear hL
  obtain ⟨l7, c7⟩ := zt_c (μ := ν2) zd7_at
  have refuse : (zt_fit ν1 7 (zdZ b) R2 t2 = false ∨ (¬ a = b ∧ zl_al (zd_gwf μ (zd_grp μ k) (zdZ b)) 10 = false)) → ze_G (D + 15) 6 (some .int) zc_X5_drag 97 L [] (zm_mk ν2) (some (.int (-1000000002))) (zm_mk ν2) → ∃ ν r row' stk' Rs' ts', ze_E (D + 16) A_Desk_drag [.ref 1, .int (nI k), .int (nI o), .int (nI sd)] (zm_mk μ) (some (.int r)) (zm_mk ν) ∧ zJ ν row' stk' Rs' ts' ∧ zd_drgdv μ ν row row' Rs Rs' ts ts' (nI k) (nI o) (nI sd) r := fun hc G =>
    ⟨ν2, _, row, stk, Rs, ts, ze_in [(0, .ref 1), (1, .int (nI k)), (2, .int (nI o)), (3, .int (nI sd))] zq_Desk_drag (Nat.le_of_ble_eq_true rfl) rfl (SS.end G), h.eqv ev2, Or.inr ⟨k, o, sd, a, b, ν1, R2, t2, hd, ha, hb, ea, eb, f1, htr, Or.inl ⟨hc, ev2, rfl, rfl, rfl, rfl⟩⟩⟩
  cases hfit : zt_fit ν1 7 (zdZ b) R2 t2 with
  | false =>
    rw [hfit, if_neg (by decide)] at E3
    refine refuse (Or.inl hfit) ⟨N3, 11, fun F n hF => ?_⟩
    simp (maxDischargeDepth := 9) [zi_go, zf_X5_drag, zi_ask, zi_new, zi_step, zi_ld, zi_lda, zi_cmp, zi_retOk, zi_isI, zi_f3, zi_cr, zi_ci, zi_cn, zi_get_ne, zi_nl_i, zi_nl_r, zi_get_set_eq, nl, g0, g5, zd_g, zd_s hb, zdS_g hb, zq_Tree_fits, c7, E3 F (by omega), n2]
  | true =>
    rw [hfit, if_pos rfl] at E3
    have accept : (a = b ∨ zl_al (zd_gwf μ (zd_grp μ k) (zdZ b)) 10 = true) → ze_S (D + 15) 6 (some .int) zc_X5_drag 97 L [] (zm_mk ν2) 136 L [] (zm_mk ν2) → ∃ ν r row' stk' Rs' ts', ze_E (D + 16) A_Desk_drag [.ref 1, .int (nI k), .int (nI o), .int (nI sd)] (zm_mk μ) (some (.int r)) (zm_mk ν) ∧ zJ ν row' stk' Rs' ts' ∧ zd_drgdv μ ν row row' Rs Rs' ts ts' (nI k) (nI o) (nI sd) r := by
      intro hab S2
      obtain ⟨ν3, ⟨N5, E5⟩, k3, f3⟩ := ze_forgetKeptWith (μ := ν2) (D + 12) hk
      have hhas : ∀ q, q < 3 → zd_has ν2 q k = zd_has μ q k := fun q hq => by
        unfold zd_has
        rw [ev2 _ (zJn_S hq).2.2.1, ev2 _ (zJn_S hq).2.2.2, ev2 _ (zJn_T hq (j := 3) (by decide)).2]
      have r3 : ∀ c, (∀ q, q < 3 → c ≠ zdK q) → ν3 c = ν2 c := fun c hc => funext fun d => f3 c d (fun q hq e => absurd e (hc q hq))
      have t3 : ∀ q, q < 3 → ∀ j, j < 24 → ν3 (zdT q + j) = μ (zdT q + j) := fun q hq j hj => by
        rw [r3 _ (fun q' hq' => by unfold zdT zdK; omega), o2 _ (by unfold zt_out zdT; omega) (by unfold zdT; omega)]
      have hIa : zt_I ν3 (zdT a) (Rs a) (ts a) := zt_same.I ⟨t3 a ha _ (by omega), t3 a ha _ (by omega), t3 a ha _ (by omega), t3 a ha _ (by omega), t3 a ha _ (by omega), t3 a ha _ (by omega), t3 a ha _ (by omega), t3 a ha _ (by omega), t3 a ha _ (by omega), t3 a ha _ (by omega), t3 a ha _ (by omega), by rw [show ν3 (zdT a) = μ (zdT a) from t3 a ha 0 (by omega)]⟩ (h.2.2.2.1 a ha).1.1
      obtain ⟨ν4, ⟨N6, E6⟩, O4, f4⟩ := ze_takeOutI (μ := μ) (Q := zdT a) (D + 11) (zdT_at ha) hIa ⟨t3 a ha _ (by omega), t3 a ha _ (by omega), t3 a ha _ (by omega), t3 a ha _ (by omega), t3 a ha _ (by omega), t3 a ha _ (by omega)⟩ hn hkR en
      have r4 : ∀ c, 7 ≤ c → c < 31 → ν4 c = ν1 c := fun c h1 h2 => by
        rw [f4 c (by unfold zt_out zdT; omega), r3 c (fun q hq => by unfold zdK; omega), f2 c (by omega)]
      have I4 : zt_I ν4 7 R2 t2 := (zt_C_congr (fun c h1 h2 => r4 c h1 (by omega)) C1).1
      obtain ⟨ν5, ⟨N7, E7⟩, C5, f5, l3, l5, l6, l7', l8, l12⟩ := ze_Tree_copyFrom (μ := ν4) (D + 11) (zdT_at hb) zd7_at (by unfold zdT; omega) I4
      have cp5 : zt_isCopy ν1 7 ν5 (zdT b) := ⟨l3.trans (r4 _ (by omega) (by omega)), l5.trans (r4 _ (by omega) (by omega)), l6.trans (r4 _ (by omega) (by omega)), l7'.trans (r4 _ (by omega) (by omega)), l8.trans (r4 _ (by omega) (by omega)), l12.trans (r4 _ (by omega) (by omega))⟩
      -- frames so far
      have fr5 : ∀ c d, zt_out 7 c → c ≠ 31 → zt_out (zdT a) c → zt_out (zdT b) c → (∀ q, q < 3 → c = zdK q → d ≠ 3) → ν5 c d = μ c d := fun c d a1 a2 a3 a4 a5 => by
        rw [f5 c a4, f4 c a3, f3 c d a5, o2 c a1 a2]
      have fk5 : ∀ q, q < 3 → ν5 (zdK q) 3 = if zd_has μ q k = true then 0 else μ (zdK q) 3 := fun q hq => by
        rw [f5 _ (zJn_out hb (Or.inr (Or.inr (Or.inl ⟨q, hq, Or.inr (Or.inr (Or.inl rfl))⟩)))), f4 _ (zJn_out ha (Or.inr (Or.inr (Or.inl ⟨q, hq, Or.inr (Or.inr (Or.inl rfl))⟩)))), k3 q hq, ev2 _ (zJn_S hq).2.2.1]
        simp only [hhas q hq]
      have O5 : ¬ a = b → zt_isOut μ (zdT a) (Rs a) (ts a) n k ν5 (zdT a) := fun hne => by
        obtain ⟨p1, p2, p3, p4, p5, p6, p7⟩ := O4
        have r : ∀ j, j < 24 → ν5 (zdT a + j) = ν4 (zdT a + j) := fun j hj => f5 _ (by unfold zt_out zdT; omega)
        exact ⟨zt_C_congr (fun c h1 h2 => by have := r (c - zdT a) (by omega); rw [show zdT a + (c - zdT a) = c by omega] at this; exact this) p1, fun v => by rw [r 3 (by omega)]; exact p2 v, by rw [r 5 (by omega)]; exact p3, by rw [r 6 (by omega)]; exact p4, fun i hi => by rw [r 7 (by omega)]; exact p5 i hi, by rw [r 8 (by omega)]; exact p6, fun i => by rw [r 12 (by omega)]; exact p7 i⟩
      have gr5 : zd_gr ν5 (zd_grp μ k) := fun j hj => by
        rw [f5 _ (by unfold zt_out zdT; omega), f4 _ (by unfold zt_out zdT; omega), f3 31 j (fun q hq e => by unfold zdK at e; omega)]
        exact hg2 j hj
      have z5 : ν5 (zdZ b) = ν1 (zdZ b) := by
        funext d
        rw [fr5 _ _ (by unfold zt_out zdZ; omega) (by unfold zdZ; omega) (zJn_out ha (Or.inr (Or.inr (Or.inl ⟨b, hb, Or.inr (Or.inl rfl)⟩)))) (zJn_out hb (Or.inr (Or.inr (Or.inl ⟨b, hb, Or.inr (Or.inl rfl)⟩)))) (fun q hq e => by unfold zdZ zdK at e; omega), f1 _ (by unfold zt_out zdZ; omega)]
      obtain ⟨l3c, c3⟩ := zt_c (μ := ν3) (zdT_at ha)
      obtain ⟨l4c, c4⟩ := zt_c (μ := ν4) (zdT_at hb)
      have S3 : ze_S (D + 15) 6 (some .int) zc_X5_drag 136 L [] (zm_mk ν2) 172 L [] (zm_mk ν5) := by
        refine ⟨N5 + N6 + N7, 18, fun F m hF => ?_⟩
        simp (maxDischargeDepth := 9) [zi_go, zf_X5_drag, zi_ask, zi_new, zi_step, zi_ld, zi_lda, zi_cmp, zi_retOk, zi_isI, zi_f3, zi_cr, zi_ci, zi_cn, zi_get_ne, zi_nl_i, zi_nl_r, zi_get_set_eq, nl, g0, g1, g4, g5, zq_Desk_forgetKeptWith, zd_c, E5 F (by omega), zd_g, zd_s ha, zd_s hb, zdS_g ha, zdS_g hb, zq_Tree_takeOut, c3, E6 F (by omega), zq_Tree_copyFrom, c4, E7 F (by omega)]
      -- the dialogs
      have send : ∃ ν6, ze_S (D + 15) 6 (some .int) zc_X5_drag 172 L [] (zm_mk ν5) 185 L [] (zm_mk ν6) ∧ (∀ j, j < 10 → ν6 (zdW j) 5 = if ¬ a = b ∧ zd_grp μ k j = true then nI b else μ (zdW j) 5) ∧ ∀ c d, (∀ j, j < 10 → c = zdW j → d ≠ 5) → (∀ j, j < 10 → c ≠ zdW j + 2) → ν6 c d = ν5 c d := by
        have w5 : ∀ j, j < 10 → ν5 (zdW j) 5 = μ (zdW j) 5 := fun j hj => fr5 _ _ (by unfold zt_out zdW; omega) (by unfold zdW; omega) (zJn_out ha (Or.inr (Or.inl ⟨j, hj, Or.inl rfl⟩))) (zJn_out hb (Or.inr (Or.inl ⟨j, hj, Or.inl rfl⟩))) (fun q hq e => by unfold zdW zdK at e; omega)
        by_cases e : a = b
        · refine ⟨ν5, ⟨0, 3, fun F m hF => ?_⟩, fun j hj => by rw [if_neg (fun q => q.1 e)]; exact w5 j hj, fun _ _ _ _ => rfl⟩
          simp (maxDischargeDepth := 9) [zi_go, zf_X5_drag, zi_ask, zi_new, zi_step, zi_ld, zi_lda, zi_cmp, zi_retOk, zi_isI, zi_f3, zi_cr, zi_ci, zi_cn, zi_get_ne, zi_nl_i, zi_nl_r, zi_get_set_eq, nl, g4, g5, e]
        · have e' : ¬ nI a = nI b := fun q => e ((nI_eq (by omega) (by omega)).mp q)
          obtain ⟨ν6, ⟨N8, E8⟩, s1, s2⟩ := ze_sendGroup (μ := ν5) (D + 9) gr5 hb
          refine ⟨ν6, ⟨N8, 6, fun F m hF => ?_⟩, fun j hj => ?_, s2⟩
          · simp (maxDischargeDepth := 9) [zi_go, zf_X5_drag, zi_ask, zi_new, zi_step, zi_ld, zi_lda, zi_cmp, zi_retOk, zi_isI, zi_f3, zi_cr, zi_ci, zi_cn, zi_get_ne, zi_nl_i, zi_nl_r, zi_get_set_eq, nl, g0, g4, g5, e', zq_Desk_sendGroup, zd_c, E8 F (by omega)]
          · rw [s1 j hj, w5 j hj]
            by_cases q : zd_grp μ k j = true
            · rw [if_pos q, if_pos ⟨e, q⟩]
            · rw [if_neg q, if_neg (fun z => q z.2)]
      obtain ⟨ν6, S4, w6, f6⟩ := send
      have r6 : ∀ c, (∀ j, j < 10 → c ≠ zdW j) → (∀ j, j < 10 → c ≠ zdW j + 2) → ν6 c = ν5 c := fun c a1 a2 => funext fun d => f6 c d (fun j hj e => absurd e (a1 j hj)) a2
      have rT6 : ∀ q, q < 3 → ∀ j, ν6 (zdT q + j) = ν5 (zdT q + j) := fun q hq j => r6 _ (fun i hi => by unfold zdT zdW; omega) (fun i hi => by unfold zdT zdW; omega)
      have C6 : zt_C ν6 (zdT b) R2 t2 := zt_C_congr (fun c h1 h2 => r6 c (fun i hi => by unfold zdT at h1; unfold zdW; omega) (fun i hi => by unfold zdT at h1; unfold zdW; omega)) C5
      have cp6 : zt_isCopy ν1 7 ν6 (zdT b) := ⟨(rT6 b hb _).trans cp5.1, (rT6 b hb _).trans cp5.2.1, (rT6 b hb _).trans cp5.2.2.1, (rT6 b hb _).trans cp5.2.2.2.1, (rT6 b hb _).trans cp5.2.2.2.2.1, (rT6 b hb _).trans cp5.2.2.2.2.2⟩
      have fr6 : ∀ c d, ¬ zJ_irr c → zt_out (zdT a) c → zt_out (zdT b) c → (∀ q, q < 3 → c = zdK q → d ≠ 3) → (∀ j, j < 10 → c = zdW j → d ≠ 5) → ν6 c d = μ c d := fun c d a1 a2 a3 a4 a5 => by
        rw [f6 c d a5 (fun j hj e => a1 (by rw [e]; unfold zJ_irr zdW; omega))]
        exact fr5 c d (zJn_7 a1) (fun e => a1 (by rw [e]; unfold zJ_irr; omega)) a2 a3 a4
      have fk6 : ∀ q, q < 3 → ν6 (zdK q) 3 = if zd_has μ q k = true then 0 else μ (zdK q) 3 := fun q hq => by
        rw [r6 _ (fun i hi => by unfold zdK zdW; omega) (fun i hi => by unfold zdK zdW; omega)]
        exact fk5 q hq
      have O6 : ¬ a = b → zt_isOut μ (zdT a) (Rs a) (ts a) n k ν6 (zdT a) := fun hne => by
        obtain ⟨p1, p2, p3, p4, p5, p6, p7⟩ := O5 hne
        have r := rT6 a ha
        exact ⟨zt_C_congr (fun c h1 h2 => by have := r (c - zdT a); rw [show zdT a + (c - zdT a) = c by omega] at this; exact this) p1, fun v => by rw [r 3]; exact p2 v, by rw [r 5]; exact p3, by rw [r 6]; exact p4, fun i hi => by rw [r 7]; exact p5 i hi, by rw [r 8]; exact p6, fun i => by rw [r 12]; exact p7 i⟩
      have hJ6 := zJ_drag h hk ha hb hbt htk ea hn (G := zd_grp μ k) zd_grp_k (fun j hj q1 q2 => zd_grp_til h hj q1 q2) fr6 fk6 w6 O6 C6 hR2 (fun j hj => by rw [cp6.2.1, cp6.2.2.1]; exact h52 j hj) (by
        rw [zt_fit_copy (A := ν1) (T := 7) cp6 (by rw [r6 _ (fun i hi => by unfold zdZ zdW; omega) (fun i hi => by unfold zdZ zdW; omega)]; exact z5)]
        exact hfit)
      have htk6 : zd_th ν6 k = true := ((hJ6.1.2.2 k).mp ((h.1.2.2 k).mpr ⟨hk, decide_eq_true (of_decide_eq_true htk).1⟩)).2
      obtain ⟨ν7, stk', ⟨N9, E9⟩, hJ7, hf7⟩ := ze_giveFocusJ (μ := ν6) D hJ6 hk htk6
      refine ⟨ν7, 0, k :: row.erase k, stk', _, _, ze_in [(0, .ref 1), (1, .int (nI k)), (2, .int (nI o)), (3, .int (nI sd))] zq_Desk_drag (Nat.le_of_ble_eq_true rfl) rfl ((((SS.trans S2).trans S3).trans S4).end ⟨N9, 5, fun F m hF => ?_⟩), hJ7, Or.inr ⟨k, o, sd, a, b, ν1, R2, t2, hd, ha, hb, ea, eb, f1, htr, Or.inr ⟨⟨hfit, hab⟩, rfl, n, ν6, hn, en, rfl, rfl, fr6, fk6, w6, O6, cp6, C6, hf7, rfl⟩⟩⟩
      simp (maxDischargeDepth := 9) [zi_go, zf_X5_drag, zi_ask, zi_new, zi_step, zi_ld, zi_lda, zi_cmp, zi_retOk, zi_isI, zi_f3, zi_cr, zi_ci, zi_cn, zi_get_ne, zi_nl_i, zi_nl_r, zi_get_set_eq, nl, g0, g1, zq_Desk_giveFocus, zd_c, E9 F (by omega)]
    by_cases e : a = b
    · have e' : nI a = nI b := by rw [e]
      refine accept (Or.inl e) ⟨N3, 12, fun F m hF => ?_⟩
      simp (maxDischargeDepth := 9) [zi_go, zf_X5_drag, zi_ask, zi_new, zi_step, zi_ld, zi_lda, zi_cmp, zi_retOk, zi_isI, zi_f3, zi_cr, zi_ci, zi_cn, zi_get_ne, zi_nl_i, zi_nl_r, zi_get_set_eq, nl, g0, g4, g5, zd_g, zd_s hb, zdS_g hb, zq_Tree_fits, c7, E3 F (by omega), e]
    · have e' : ¬ nI a = nI b := fun q => e ((nI_eq (by omega) (by omega)).mp q)
      cases hgw : zl_al (zd_gwf μ (zd_grp μ k) (zdZ b)) 10 with
      | false =>
        rw [hgw, if_neg (by decide)] at E4
        refine refuse (Or.inr ⟨e, hgw⟩) ⟨N3 + N4, 18, fun F n hF => ?_⟩
        simp (maxDischargeDepth := 9) [zi_go, zf_X5_drag, zi_ask, zi_new, zi_step, zi_ld, zi_lda, zi_cmp, zi_retOk, zi_isI, zi_f3, zi_cr, zi_ci, zi_cn, zi_get_ne, zi_nl_i, zi_nl_r, zi_get_set_eq, nl, g0, g4, g5, zd_g, zd_s hb, zdS_g hb, zq_Tree_fits, c7, E3 F (by omega), e', zq_Desk_groupCanBeWhole, zd_c, E4 F (by omega), n2]
      | true =>
        rw [hgw, if_pos rfl] at E4
        refine accept (Or.inr hgw) ⟨N3 + N4, 16, fun F n hF => ?_⟩
        simp (maxDischargeDepth := 9) [zi_go, zf_X5_drag, zi_ask, zi_new, zi_step, zi_ld, zi_lda, zi_cmp, zi_retOk, zi_isI, zi_f3, zi_cr, zi_ci, zi_cn, zi_get_ne, zi_nl_i, zi_nl_r, zi_get_set_eq, nl, g0, g4, g5, zd_g, zd_s hb, zdS_g hb, zq_Tree_fits, c7, E3 F (by omega), e', zq_Desk_groupCanBeWhole, zd_c, E4 F (by omega)]
end ZXR
section ZXR2
variable {μ ν : zm_M} {row stk : List Nat} {us : Nat → zy_F}
set_option maxRecDepth 100000 in
theorem zv_dg0_v (D : Nat) (h : zR μ row stk us) (w x y : Int32) : ((¬ ∃ k o sd, zv_darg μ w x y k o sd) ∧ ∃ v, zx_ref (zv_drA μ w x y) v ∧ ze_G (D + 27) 9 (some .int) zc_X6_drag 0 [(0, .ref 232), (1, .int w), (2, .int x), (3, .int y)] [] (zm_mk μ) (some (.int v)) (zm_mk μ)) ∨
    ∃ k o sd a b, zv_darg μ w x y k o sd ∧ a < 3 ∧ b < 3 ∧ μ 238 k = nI a ∧ μ 238 o = nI b ∧ (∃ m, zu_at μ a (us a) k m) ∧ (∃ m, zu_at μ b (us b) o m) ∧ ze_S (D + 27) 9 (some .int) zc_X6_drag 0 [(0, .ref 232), (1, .int w), (2, .int x), (3, .int y)] [] (zm_mk μ) 72 [(5, .int (nI b)), (4, .int (nI a)), (0, .ref 232), (1, .int (nI k)), (2, .int (nI o)), (3, .int (nI sd))] [] (zm_mk μ) := by
  have n1 : Int32.ofInt (-1000000001) = -1000000001 := by decide
  have n2 : Int32.ofInt (-1000000002) = -1000000002 := by decide
  obtain ⟨lc, cM⟩ := zM_c (μ := μ)
  rcases zR_win (D + 25) h w with ⟨k, hk, rfl, k0, N1, E1⟩ | ⟨⟨N1, E1⟩, c0⟩
  · have ik : zi_in (nI k) 10 = true := zm_in hk (by decide)
    have ck : (nI k).toNatClampNeg = k := nI_clamp (by omega)
    rcases zR_win (D + 25) h x with ⟨o, ho, rfl, o0, N2, E2⟩ | ⟨⟨N2, E2⟩, c0⟩
    · have io : zi_in (nI o) 10 = true := zm_in ho (by decide)
      have co : (nI o).toNatClampNeg = o := nI_clamp (by omega)
      by_cases c1 : k = o
      · subst c1
        refine Or.inl ⟨fun ⟨k', o', sd, q1, q2, q3⟩ => ?_, -1000000001, Or.inl ⟨fun ⟨k', o', sd, q1, q2, q3⟩ => q3.2.2 (((nI_eq (by omega) (by omega)).mp q2.1).symm.trans ((nI_eq (by omega) (by omega)).mp q2.2.1)), rfl⟩, N1 + N2, 13, fun F n hF => ?_⟩
        · have e1 := (nI_eq (by omega) (by omega)).mp q2.1
          have e2 := (nI_eq (by omega) (by omega)).mp q2.2.1
          exact q3.2.2 (e1.symm.trans e2)
        · simp [zi_go, zf_X6_drag, zi_ask, zi_new, zi_step, zi_ld, zi_lda, zi_cmp, zi_retOk, zi_isI, zi_f3, zi_cr, zi_ci, zi_cn, zi_get, zi_set, cM, zq_Mod_isWindow, E1 F (by omega), E2 F (by omega), n1]
      · have c1' : ¬ nI k = nI o := fun e => c1 ((nI_eq (by omega) (by omega)).mp e)
        rcases zM_isIn (hp := zm_mk μ) (D + 26) y (n := 4) (b := 4) (by decide) (by decide) with ⟨sd, hsd, rfl, N3, E3⟩ | ⟨⟨N3, E3⟩, hno⟩
        · by_cases c2 : μ 234 k = 1
          · by_cases c3 : μ 234 o = 1
            · obtain ⟨a, ma, aba, ha, hha, hIa, hata⟩ := zR_til h hk c2
              obtain ⟨b, mb, abb, hb, hhb, hIb, hatb⟩ := zR_til h ho c3
              refine Or.inr ⟨k, o, sd, a, b, ⟨⟨hk, ho, hsd⟩, ⟨rfl, rfl, rfl⟩, c2, c3, c1⟩, ha, hb, hha, hhb, ⟨ma, hata⟩, ⟨mb, hatb⟩, N1 + N2 + N3, 38, fun F n hF => ?_⟩
              simp [zi_go, zf_X6_drag, zi_ask, zi_new, zi_step, zi_ld, zi_lda, zi_cmp, zi_retOk, zi_isI, zi_f3, zi_cr, zi_ci, zi_cn, zi_get, zi_set, zM_g, cM, zq_Mod_isWindow, zq_Mod_isIn, E1 F (by omega), E2 F (by omega), E3 F (by omega), c1', zm_iald (k := 0) zM_A234 ik, zm_iald (k := 0) zM_A234 io, zm_iald (k := 0) zM_A238 ik, zm_iald (k := 0) zM_A238 io, ck, co, c2, c3, hha, hhb]
            · refine Or.inl ⟨fun ⟨k', o', sd', q1, q2, q3⟩ => ?_, -1000000002, Or.inr ⟨⟨k, o, sd, ⟨hk, ho, hsd⟩, ⟨rfl, rfl, rfl⟩, k0, o0, c1⟩, rfl⟩, N1 + N2 + N3, 30, fun F n hF => ?_⟩
              · rw [← (nI_eq (by omega) (by omega)).mp q2.2.1] at q3
                exact c3 q3.2.1
              · simp [zi_go, zf_X6_drag, zi_ask, zi_new, zi_step, zi_ld, zi_lda, zi_cmp, zi_retOk, zi_isI, zi_f3, zi_cr, zi_ci, zi_cn, zi_get, zi_set, zM_g, cM, zq_Mod_isWindow, zq_Mod_isIn, E1 F (by omega), E2 F (by omega), E3 F (by omega), c1', zm_iald (k := 0) zM_A234 ik, zm_iald (k := 0) zM_A234 io, ck, co, c2, c3, n2]
          · refine Or.inl ⟨fun ⟨k', o', sd', q1, q2, q3⟩ => ?_, -1000000002, Or.inr ⟨⟨k, o, sd, ⟨hk, ho, hsd⟩, ⟨rfl, rfl, rfl⟩, k0, o0, c1⟩, rfl⟩, N1 + N2 + N3, 24, fun F n hF => ?_⟩
            · rw [← (nI_eq (by omega) (by omega)).mp q2.1] at q3
              exact c2 q3.1
            · simp [zi_go, zf_X6_drag, zi_ask, zi_new, zi_step, zi_ld, zi_lda, zi_cmp, zi_retOk, zi_isI, zi_f3, zi_cr, zi_ci, zi_cn, zi_get, zi_set, zM_g, cM, zq_Mod_isWindow, zq_Mod_isIn, E1 F (by omega), E2 F (by omega), E3 F (by omega), c1', zm_iald (k := 0) zM_A234 ik, ck, c2, n2]
        · refine Or.inl ⟨fun ⟨k', o', sd', q1, q2, q3⟩ => hno sd' (by omega) q2.2.2, -1000000001, Or.inl ⟨fun ⟨k', o', sd', q1, q2, q3⟩ => hno sd' (by omega) q2.2.2, rfl⟩, N1 + N2 + N3, 18, fun F n hF => ?_⟩
          simp [zi_go, zf_X6_drag, zi_ask, zi_new, zi_step, zi_ld, zi_lda, zi_cmp, zi_retOk, zi_isI, zi_f3, zi_cr, zi_ci, zi_cn, zi_get, zi_set, cM, zq_Mod_isWindow, zq_Mod_isIn, E1 F (by omega), E2 F (by omega), E3 F (by omega), c1', n1]
    · refine Or.inl ⟨fun ⟨k', o', sd', q1, q2, q3⟩ => ?_, -1000000001, Or.inl ⟨fun ⟨k', o', sd', q1, q2, q3⟩ => q3.2.1 (c0 o' q1.2.1 q2.2.1), rfl⟩, N1 + N2, 10, fun F n hF => ?_⟩
      · rw [c0 o' q1.2.1 q2.2.1] at q3
        exact absurd q3.2.1 (by decide)
      · simp [zi_go, zf_X6_drag, zi_ask, zi_new, zi_step, zi_ld, zi_lda, zi_cmp, zi_retOk, zi_isI, zi_f3, zi_cr, zi_ci, zi_cn, zi_get, zi_set, cM, zq_Mod_isWindow, E1 F (by omega), E2 F (by omega), n1]
  · refine Or.inl ⟨fun ⟨k', o', sd', q1, q2, q3⟩ => ?_, -1000000001, Or.inl ⟨fun ⟨k', o', sd', q1, q2, q3⟩ => q3.1 (c0 k' q1.1 q2.1), rfl⟩, N1, 6, fun F n hF => ?_⟩
    · rw [c0 k' q1.1 q2.1] at q3
      exact absurd q3.1 (by decide)
    · simp [zi_go, zf_X6_drag, zi_ask, zi_new, zi_step, zi_ld, zi_lda, zi_cmp, zi_retOk, zi_isI, zi_f3, zi_cr, zi_ci, zi_cn, zi_get, zi_set, cM, zq_Mod_isWindow, E1 F (by omega), n1]
set_option maxRecDepth 100000 in
theorem ze_Mdrag_v (D : Nat) (h : zR μ row stk us) (w x y : Int32) : ∃ ν v, ze_E (D + 28) A_Mod_drag [.ref 232, .int w, .int x, .int y] (zm_mk μ) (some (.int v)) (zm_mk ν) ∧ zv_drgdv μ ν row stk us w x y v := by
  have n2 : Int32.ofInt (-1000000002) = -1000000002 := by decide
  have h6 : (Int8.ofInt 6).toInt32 = (6 : Int32) := by decide
  have q6 : nI 6 = (6 : Int32) := by decide
  have h10 : (Int8.ofInt 10).toInt32 = (10 : Int32) := by decide
  rcases zv_dg0_v D h w x y with ⟨hno, v, hv, G⟩ | ⟨k, o, sd, a, b, hd, ha, hb, hka, hob, ⟨mk, atk⟩, ⟨mo, ato⟩, S0⟩
  · exact ⟨μ, v, ze_in [(0, .ref 232), (1, .int w), (2, .int x), (3, .int y)] zq_Mod_drag (Nat.le_of_ble_eq_true rfl) rfl G, Or.inl ⟨hno, rfl, hv⟩⟩
  · obtain ⟨⟨hk, ho, hsd⟩, -, ⟨hkt, hot, hko⟩⟩ := id hd
    obtain ⟨μ0, u', n, ab, S1, d1, f1, hI1, hnd1, hno1, at1⟩ := zv_dg1 (x3 := nI sd) D h hk hko ha hb hka atk ato
    obtain ⟨ξ, u2, ab2, m2, S2, d2, f2, hI2, at2⟩ := zv_dg2 (s := nI a) (t := nI b) D hk ho hsd hI1 hnd1 hno1 at1
    have fξ : zu_fr 6 μ ξ := f1.trans f2
    have hsz := h.2.2.2.2.2.2 b hb
    have ib : zi_in (nI b) 3 = true := zm_in hb (by decide)
    have cb : (nI b).toNatClampNeg = b := nI_clamp (by omega)
    have S3 : ze_S (D + 27) 9 (some .int) zc_X6_drag 150 [(6, .int (nI n)), (5, .int (nI b)), (4, .int (nI a)), (0, .ref 232), (1, .int (nI k)), (2, .int (nI o)), (3, .int (nI sd))] [] (zm_mk ξ) 153 [(7, .int (nI 0)), (6, .int (nI n)), (5, .int (nI b)), (4, .int (nI a)), (0, .ref 232), (1, .int (nI k)), (2, .int (nI o)), (3, .int (nI sd))] [] (zm_mk ξ) := by
      refine ⟨0, 2, fun F m hF => ?_⟩
      simp [zi_go, zf_X6_drag, zi_ask, zi_new, zi_step, zi_ld, zi_lda, zi_cmp, zi_retOk, zi_isI, zi_f3, zi_cr, zi_ci, zi_cn, zi_get, zi_set, nI_0]
    obtain ⟨L4, h4, S4, nl4, b0, b1, b3, b4, b5, θ1, rfl, cm1, g1⟩ := zv_dgA (μ := ξ) (D + 27) hk (s := nI a) (o := nI b) (x3 := nI sd) [(7, .int (nI 0)), (6, .int (nI n)), (5, .int (nI b)), (4, .int (nI a)), (0, .ref 232), (1, .int (nI k)), (2, .int (nI o)), (3, .int (nI sd))] rfl rfl rfl rfl rfl rfl rfl
    have x1 : ∀ c d, c < 243 ∨ 250 < c → c ≠ 260 → θ1 c d = μ c d := fun c d r1 r2 => (g1 c d r2).trans (fξ c d (zu_in_not r1))
    obtain ⟨θ, ⟨N5, E5⟩, cm2, g2⟩ := ze_Mspread (μ := θ1) (D + 26) cm1 (zv_ow_cells (zR_ow h) (fun c d r => x1 c d (by omega) (by omega)))
    have x2 : ∀ c d, c < 243 ∨ 250 < c → c ≠ 260 → θ c d = μ c d := fun c d r1 r2 => (g2 c d r2).trans (x1 c d r1 r2)
    have f0 : ∀ c d, c ≠ 260 → θ c d = ξ c d := fun c d r => (g2 c d r).trans (g1 c d r)
    have t6 : zu_eqT ξ 6 θ 6 := zu_eq_in (fun c d r => f0 c d (fun z => zu_in_not (Or.inr (by omega)) r))
    have hI2' := t6.I hI2
    have efit : zu_fit θ 6 u2 (μ 232 b) (μ 233 b) = zu_fit ξ 6 u2 (μ 232 b) (μ 233 b) := zu_fit_cells (fun c d r1 r2 => f0 c d (by omega))
    obtain ⟨N6, E6⟩ := ze_Mfits (μ := θ) (D + 1) (τ := 6) (by decide) hI2' hsz.1 hsz.2
    rw [efit, q6] at E6
    obtain ⟨lc1, cM1⟩ := zM_c (μ := θ1)
    obtain ⟨lc2, cM2⟩ := zM_c (μ := θ)
    have cm2 : zv_cm θ (zv_grp μ k) := cm2
    have edrm : zv_drm θ k b (zv_grp μ k) = zv_drm μ k b (zv_grp μ k) := funext fun j => by
      unfold zv_drm
      rw [x2 235 j (by decide) (by decide), x2 236 j (by decide) (by decide), x2 232 b (by decide) (by decide), x2 233 b (by decide) (by decide)]
    generalize hfit : zu_fit ξ 6 u2 (μ 232 b) (μ 233 b) = fit at E6
    have S5 : ze_S (D + 27) 9 (some .int) zc_X6_drag 184 L4 [] (zm_mk θ1) 213 (zi_set (zi_set L4 7 (.int (if fit = true then 1 else 0))) 8 (.int (nI 0))) [] (zm_mk θ) := by
      have nl := nl4
      refine ⟨N5 + N6, 16, fun F m hF => ?_⟩
      simp (maxDischargeDepth := 9) [zi_go, zf_X6_drag, zi_ask, zi_new, zi_step, zi_ld, zi_lda, zi_cmp, zi_retOk, zi_isI, zi_f3, zi_cr, zi_ci, zi_cn, zi_get_ne, zi_nl_i, zi_nl_r, zi_get_set_eq, nl, b0, b1, b3, b4, b5, h6, cM1, cM2, zM_g, zq_Mod_spread, zq_Mod_fits, E5 F (by omega), E6 F (by omega), zm_iald (k := 0) zM_A232 ib, zm_iald (k := 0) zM_A233 ib, cb, x2 232 b (by decide) (by decide), x2 233 b (by decide) (by decide), nI_0]
    have dg : ∃ L6 good, ze_S (D + 27) 9 (some .int) zc_X6_drag 213 (zi_set (zi_set L4 7 (.int (if fit = true then 1 else 0))) 8 (.int (nI 0))) [] (zm_mk θ) 284 L6 [] (zm_mk θ) ∧ zi_nl L6 = true ∧ zi_get L6 0 = some (.ref 232) ∧ zi_get L6 1 = some (.int (nI k)) ∧ zi_get L6 4 = some (.int (nI a)) ∧ zi_get L6 5 = some (.int (nI b)) ∧ zi_get L6 7 = some (.int (if good = true then 1 else 0)) ∧ (good = true ↔ fit = true ∧ (a = b ∨ ∀ j, j < 10 → zv_drm μ k b (zv_grp μ k) j = true)) := by
      have nl := nl4
      by_cases c : a = b
      · have c' : nI a = nI b := by rw [c]
        have c1 : ¬ (10 : Int32) ≤ nI 0 := by decide
        refine ⟨zi_set (zi_set L4 7 (.int (if fit = true then 1 else 0))) 8 (.int (nI 0)), fit, ⟨0, 6, fun F m hF => ?_⟩, by simp (maxDischargeDepth := 9) [zi_get_ne, zi_nl_i, zi_nl_r, zi_get_set_eq, nl], by simp (maxDischargeDepth := 9) [zi_get_ne, zi_nl_i, zi_nl_r, zi_get_set_eq, nl, b0], by simp (maxDischargeDepth := 9) [zi_get_ne, zi_nl_i, zi_nl_r, zi_get_set_eq, nl, b1], by simp (maxDischargeDepth := 9) [zi_get_ne, zi_nl_i, zi_nl_r, zi_get_set_eq, nl, b4], by simp (maxDischargeDepth := 9) [zi_get_ne, zi_nl_i, zi_nl_r, zi_get_set_eq, nl, b5], by simp (maxDischargeDepth := 9) [zi_get_ne, zi_nl_i, zi_nl_r, zi_get_set_eq, nl], ⟨fun z => ⟨z, Or.inl c⟩, fun z => z.1⟩⟩
        simp (maxDischargeDepth := 9) [zi_go, zf_X6_drag, zi_ask, zi_new, zi_step, zi_ld, zi_lda, zi_cmp, zi_retOk, zi_isI, zi_f3, zi_cr, zi_ci, zi_cn, zi_get_ne, zi_nl_i, zi_nl_r, zi_get_set_eq, nl, b0, b1, b4, b5, h10, c1, c']
      · obtain ⟨L6, h', S, nl6, p0, p1, p4, p5, p7, rfl⟩ := zv_dgB (μ := θ) (D + 26) hk ha hb c cm2 fit (zi_set (zi_set L4 7 (.int (if fit = true then 1 else 0))) 8 (.int (nI 0))) (by simp (maxDischargeDepth := 9) [zi_get_ne, zi_nl_i, zi_nl_r, zi_get_set_eq, nl]) (by simp (maxDischargeDepth := 9) [zi_get_ne, zi_nl_i, zi_nl_r, zi_get_set_eq, nl, b0]) (by simp (maxDischargeDepth := 9) [zi_get_ne, zi_nl_i, zi_nl_r, zi_get_set_eq, nl, b1]) (by simp (maxDischargeDepth := 9) [zi_get_ne, zi_nl_i, zi_nl_r, zi_get_set_eq, nl, b4]) (by simp (maxDischargeDepth := 9) [zi_get_ne, zi_nl_i, zi_nl_r, zi_get_set_eq, nl, b5]) (by simp (maxDischargeDepth := 9) [zi_get_ne, zi_nl_i, zi_nl_r, zi_get_set_eq, nl]) zi_get_set_eq
        rw [edrm] at p7
        exact ⟨L6, _, S, nl6, p0, p1, p4, p5, p7, (zv_gd_iff 10).trans (and_congr Iff.rfl ⟨fun z => Or.inr z, fun z => z.resolve_left c⟩)⟩
    obtain ⟨L6, good, S6, nl6, p0, p1, p4, p5, p7, hg⟩ := dg
    have SS := S0.trans (S1.trans (S2.trans (S3.trans (S4.trans (S5.trans S6)))))
    cases good with
    | false =>
      have p7 : zi_get L6 7 = some (.int 0) := p7
      have hng : ¬ (fit = true ∧ (a = b ∨ ∀ j, j < 10 → zv_drm μ k b (zv_grp μ k) j = true)) := fun z => by cases hg.mpr z
      refine ⟨θ, -1000000002, ze_in [(0, .ref 232), (1, .int w), (2, .int x), (3, .int y)] zq_Mod_drag (Nat.le_of_ble_eq_true rfl) rfl (SS.end ⟨0, 4, fun F m hF => by simp [zi_go, zf_X6_drag, zi_ask, zi_new, zi_step, zi_ld, zi_lda, zi_cmp, zi_retOk, zi_isI, zi_f3, zi_cr, zi_ci, zi_cn, p7, n2]⟩), Or.inr ⟨k, o, sd, a, b, ξ, u2, hd, ha, hb, hka, hob, fξ, ⟨μ0, u', n, d1, at1, d2⟩, Or.inl ⟨?_, fun c d r1 r2 => (f0 c d r1).trans (fξ c d r2), rfl⟩⟩⟩
      rw [hfit]
      cases fit with
      | false => exact Or.inl rfl
      | true => exact Or.inr ⟨fun e => hng ⟨rfl, Or.inl e⟩, fun e => hng ⟨rfl, Or.inr e⟩⟩
    | true =>
      have p7 : zi_get L6 7 = some (.int 1) := p7
      have n10 : ¬ (1 : Int32) = 0 := by decide
      obtain ⟨ν, ν6, ua, G, q1, q2⟩ := zv_dg3 D h hk ha hb hkt hka atk fξ f0 hI2 at2 cm2 L6 nl6 p0 p1 p4 p5
      have S7 : ze_S (D + 27) 9 (some .int) zc_X6_drag 284 L6 [] (zm_mk θ) 292 L6 [] (zm_mk θ) := by
        refine ⟨0, 2, fun F m hF => ?_⟩
        simp [zi_go, zf_X6_drag, zi_ask, zi_new, zi_step, zi_ld, zi_lda, zi_cmp, zi_retOk, zi_isI, zi_f3, zi_cr, zi_ci, zi_cn, p7, n10]
      refine ⟨ν, 0, ze_in [(0, .ref 232), (1, .int w), (2, .int x), (3, .int y)] zq_Mod_drag (Nat.le_of_ble_eq_true rfl) rfl (SS.end (S7.end G)), Or.inr ⟨k, o, sd, a, b, ξ, u2, hd, ha, hb, hka, hob, fξ, ⟨μ0, u', n, d1, at1, d2⟩, Or.inr ⟨?_, ν6, ua, q1, q2, rfl⟩⟩⟩
      rw [hfit]
      exact hg.mp rfl
end ZXR2
section ZXR3
variable {M N θ : zm_M}
theorem zW_drag_e (h : zW M) (w x y : Int32) : zW_e M A_Desk_drag A_Mod_drag [.int w, .int x, .int y] := by
  obtain ⟨row, stkC, stk, ord, Rs, ts, us, h⟩ := h
  obtain ⟨N, r1, row', stk', Rs', ts', E1, hJ, f⟩ := ze_drag_v 48 h.1 w x y
  have f0 : zd_drgd M N row row' Rs Rs' ts ts' w x y := by
    rcases id f with ⟨a, b, c, d, e, -⟩ | ⟨k, o, sd, a, b, ν1, R2, t2, a1, a2, a3, a4, a5, a6, a7, ⟨b1, b2, b3, b4, b5, -⟩ | ⟨b1, b2, n, ν6, c1, c2, c3, c4, c5, c6, c7, c8, c9, d1, d2, -⟩⟩
    · exact Or.inl ⟨a, b, c, d, e⟩
    · exact Or.inr ⟨k, o, sd, a, b, ν1, R2, t2, a1, a2, a3, a4, a5, a6, a7, Or.inl ⟨b1, b2, b3, b4, b5⟩⟩
    · exact Or.inr ⟨k, o, sd, a, b, ν1, R2, t2, a1, a2, a3, a4, a5, a6, a7, Or.inr ⟨b1, b2, n, ν6, c1, c2, c3, c4, c5, c6, c7, c8, c9, d1, d2⟩⟩
  have hm := zW_mid h (zW_drgd f0)
  obtain ⟨θ, r2, E2, g⟩ := ze_Mdrag_v 36 (zK_R hm) w x y
  have g0 : zv_drgd N θ row stk us w x y := by
    rcases id g with ⟨a, b, -⟩ | ⟨k, o, sd, a, b, ξ, u2, a1, a2, a3, a4, a5, a6, a7, ⟨b1, b2, -⟩ | ⟨b1, ν6, ua, c1, c2, -⟩⟩
    · exact Or.inl ⟨a, b⟩
    · exact Or.inr ⟨k, o, sd, a, b, ξ, u2, a1, a2, a3, a4, a5, a6, a7, Or.inl ⟨b1, b2⟩⟩
    · exact Or.inr ⟨k, o, sd, a, b, ξ, u2, a1, a2, a3, a4, a5, a6, a7, Or.inr ⟨b1, ν6, ua, c1, c2⟩⟩
  obtain ⟨_, _, _, _, z⟩ := zK_drgd hm hJ f0 g0
  have key : r2 = r1 := by
    have arg : ∀ k o sd, zd_darg M w x y k o sd ↔ zv_darg N w x y k o sd := fun k o sd => by
      unfold zd_darg zv_darg
      refine and_congr_right fun a => and_congr_right fun _ => ?_
      rw [(zK_kind hm a.1).1, (zK_kind hm a.2.1).1]
    have ref : zd_drA M w x y ↔ zv_drA N w x y := by
      unfold zd_drA zv_drA
      refine exists_congr fun k => exists_congr fun o => exists_congr fun sd => and_congr_right fun a => and_congr_right fun _ => ?_
      rw [(zK_kind hm a.1).2.2, (zK_kind hm a.2.1).2.2]
    rcases f with ⟨f, -, -, -, -, f1⟩ | ⟨k, o, sd, a, b, ν1, R2, t2, fa, ha, hb, ek, eo, fr, ft, f⟩
    · rcases g with ⟨-, -, g1⟩ | ⟨k, o, sd, a, b, ξ, u2, ga, -⟩
      · exact zx_ref_eq ref f1 g1
      · exact (f ⟨k, o, sd, (arg k o sd).mpr ga⟩).elim
    · rcases g with ⟨z, -⟩ | ⟨k', o', sd', a', b', ξ, u2, ga, ha', hb', ek', eo', gr, gt, g⟩
      · exact (z ⟨k, o, sd, (arg k o sd).mp fa⟩).elim
      · obtain ⟨⟨hk, ho, hsd⟩, ⟨w1, w2, w3⟩, hkt, hot, hko⟩ := id fa
        obtain ⟨⟨hk', ho', hsd'⟩, ⟨w1', w2', w3'⟩, -⟩ := id ga
        have e1 := (nI_eq (by omega) (by omega)).mp (w1'.symm.trans w1)
        have e2 := (nI_eq (by omega) (by omega)).mp (w2'.symm.trans w2)
        have e3 := (nI_eq (by omega) (by omega)).mp (w3'.symm.trans w3)
        subst e1
        subst e2
        subst e3
        have e4 := (nI_eq (by omega) (by omega)).mp (ek'.symm.trans (((zK_kind hm hk).2.1 hkt).trans ek))
        have e5 := (nI_eq (by omega) (by omega)).mp (eo'.symm.trans (((zK_kind hm ho).2.1 hot).trans eo))
        subst e4
        subst e5
        have hbt : ¬ M (zdS b') 3 = 0 := by
          obtain ⟨-, -, w3, -⟩ := hm.1.2.2.1 o' ho (decide_eq_true (of_decide_eq_true hot).1)
          obtain ⟨s, hs, q1, q2⟩ := w3 (by rw [(of_decide_eq_true hot).2]; decide)
          rw [← (nI_eq (by omega) (by omega)).mp (q1.symm.trans eo)]
          exact q2
        have hz1 := zK_trl hm hk ho hb hkt hot hko ek ha eo ft gt
        obtain ⟨t1, t2', t3⟩ := zd_trl_R hm.1 hb ft
        have hfit := zK_trf hm hk hkt hb hbt t1 t2' t3 fr gr hz1
        have hgrm := zK_grm hm hkt hb hbt
        rcases f with ⟨f, -, -, -, -, rfl⟩ | ⟨f, -, n, ξ6, -, -, -, -, -, -, -, -, -, -, -, rfl⟩
        · rcases g with ⟨-, -, rfl⟩ | ⟨⟨g1, g2⟩, -⟩
          · rfl
          · rw [← hfit] at g1
            rcases f with f | ⟨f, f'⟩
            · rw [f] at g1
              cases g1
            · rw [hgrm.mpr (g2.resolve_left f)] at f'
              cases f'
        · rcases g with ⟨g, -⟩ | ⟨-, μ6, ua, -, -, rfl⟩
          · rw [← hfit] at g
            rcases g with g | ⟨g, g'⟩
            · rw [f.1] at g
              cases g
            · exact (g' (hgrm.mp (f.2.resolve_left g))).elim
          · rfl
  subst key
  exact ⟨N, θ, r2, E1, E2, zW_end z (zW_mdrgd g0)⟩
end ZXR3
