/-! about: the same answer -/
section ZAB
variable {μ : zm_M} {row stk : List Nat} {Rs : Nat → List Nat} {ts us : Nat → zy_F}
def zx_abC (μ : zm_M) (row stk : List Nat) (k j : Nat) (v : Int32) : Prop :=
  (j = 0 ∧ v = μ (zdW k) 3) ∨ (j = 1 ∧ v = μ (zdW k + 1) 0) ∨ (j = 2 ∧ v = μ (zdW k + 1) 1) ∨ (j = 3 ∧ ((0 ≤ μ (zdW k) 4 ∧ v = μ (zdW k) 4) ∨ (¬ 0 ≤ μ (zdW k) 4 ∧ v = -1000000005))) ∨
  (j = 4 ∧ ((zd_flo μ k = true ∧ v = 1) ∨ (¬ zd_flo μ k = true ∧ ((v = 1 ∧ ∃ s, s < 3 ∧ zd_shn μ s k) ∨ (v = 0 ∧ ∀ s, s < 3 → ¬ zd_shn μ s k))))) ∨ (j = 5 ∧ v = zr_ix row k 0) ∨ (j = 6 ∧ ((zd_flo μ k = true ∧ v = zr_ix stk k 0) ∨ (¬ zd_flo μ k = true ∧ v = -1000000005)))
def zx_abA (μ : zm_M) (w x : Int32) : Prop := ∃ k j, k < 10 ∧ j < 7 ∧ w = nI k ∧ x = nI j ∧ zd_th μ k = true
def zx_abv (μ : zm_M) (row stk : List Nat) (w x v : Int32) : Prop := (¬ zx_abA μ w x ∧ v = -1000000001) ∨ ∃ k j, k < 10 ∧ j < 7 ∧ w = nI k ∧ x = nI j ∧ zd_th μ k = true ∧ zx_abC μ row stk k j v
set_option maxRecDepth 100000 in
theorem ze_about_v (D : Nat) (h : zJ μ row stk Rs ts) (w x : Int32) : ∃ v, ze_E (D + 4) A_Desk_about [.ref 1, .int w, .int x] (zm_mk μ) (some (.int v)) (zm_mk μ) ∧ zx_abv μ row stk w x v := by
  have n4 : Int32.ofInt (-1000000001) = -1000000001 := by decide
  have n5 : Int32.ofInt (-1000000005) = -1000000005 := by decide
  obtain ⟨hr1, hr2, hs1, hs2⟩ := zJ_rowL h
  have hno : ze_E (D + 3) A_Desk_isWindow [.ref 1, .int w] (zm_mk μ) (some (.int 0)) (zm_mk μ) → (∀ k, k < 10 → w = nI k → ¬ zd_th μ k = true) → ∃ v, ze_E (D + 4) A_Desk_about [.ref 1, .int w, .int x] (zm_mk μ) (some (.int v)) (zm_mk μ) ∧ zx_abv μ row stk w x v := by
    rintro ⟨N1, E1⟩ hn
    refine ⟨-1000000001, ze_in [(0, .ref 1), (1, .int w), (2, .int x)] zq_Desk_about (Nat.le_of_ble_eq_true rfl) rfl ⟨N1, 6, fun F n hF => ?_⟩, Or.inl ⟨fun ⟨k, _, hk, _, e, _, ht⟩ => hn k hk e ht, rfl⟩⟩
    simp [zi_go, zf_X5_about, zi_ask, zi_new, zi_step, zi_ld, zi_lda, zi_cmp, zi_retOk, zi_isI, zi_f3, zi_cr, zi_ci, zi_cn, zi_get, zi_set, zq_Desk_isWindow, zd_c, E1 F (by omega), n4]
  rcases zd_rng w 10 (by decide) with ⟨k, hk, rfl⟩ | hout
  · have E1 := ze_thW (μ := μ) (D + 2) hk
    by_cases c1 : zd_th μ k = true
    · rw [if_pos c1] at E1
      obtain ⟨N1, E1⟩ := E1
      have cw := zw_c (μ := μ) (zdW_at hk)
      have S0 : ze_S (D + 3) 4 (some .int) zc_X5_about 0 [(0, .ref 1), (1, .int (nI k)), (2, .int x)] [] (zm_mk μ) 19 [(3, .ref (zdW k + 1)), (0, .ref 1), (1, .int (nI k)), (2, .int x)] [.int x] (zm_mk μ) := by
        refine ⟨N1, 10, fun F n hF => ?_⟩
        simp [zi_go, zf_X5_about, zi_ask, zi_new, zi_step, zi_ld, zi_lda, zi_cmp, zi_retOk, zi_isI, zi_f3, zi_cr, zi_ci, zi_cn, zi_get, zi_set, zq_Desk_isWindow, zd_c, E1 F (by omega), zd_g, zd_w hk]
      have fin : ∃ v, ze_G (D + 3) 4 (some .int) zc_X5_about 19 [(3, .ref (zdW k + 1)), (0, .ref 1), (1, .int (nI k)), (2, .int x)] [.int x] (zm_mk μ) (some (.int v)) (zm_mk μ) ∧ zx_abv μ row stk (nI k) x v := by
        have w1 := (zdW_at hk).2.1
        rcases zd_rng x 7 (by decide) with ⟨j, hj, rfl⟩ | ho
        · match j, hj with
          | 0, _ =>
            have t0 : (nI 0).toInt = 0 := by decide
            refine ⟨μ (zdW k) 3, ⟨0, 4, fun F n hF => ?_⟩, Or.inr ⟨k, 0, hk, by decide, rfl, rfl, c1, Or.inl ⟨rfl, rfl⟩⟩⟩
            simp [zi_go, zf_X5_about, zi_ask, zi_new, zi_step, zi_ld, zi_lda, zi_cmp, zi_retOk, zi_isI, zi_f3, zi_cr, zi_ci, zi_cn, zi_get, zi_set, t0, zw_g (zdW_at hk)]
          | 1, _ =>
            have t0 : (nI 1).toInt = 1 := by decide
            have hm : nI 1 - 1 = 0 := by decide
            refine ⟨μ (zdW k + 1) 0, ⟨0, 8, fun F n hF => ?_⟩, Or.inr ⟨k, 1, hk, by decide, rfl, rfl, c1, Or.inr (Or.inl ⟨rfl, rfl⟩)⟩⟩
            simp [zi_go, zf_X5_about, zi_ask, zi_new, zi_step, zi_ld, zi_lda, zi_cmp, zi_retOk, zi_isI, zi_f3, zi_cr, zi_ci, zi_cn, zi_get, zi_set, t0, hm, zw_g (zdW_at hk), zm_iald (k := 0) w1 zm_in0, zm_cl0]
          | 2, _ =>
            have t0 : (nI 2).toInt = 2 := by decide
            have hm : nI 2 - 1 = 1 := by decide
            refine ⟨μ (zdW k + 1) 1, ⟨0, 8, fun F n hF => ?_⟩, Or.inr ⟨k, 2, hk, by decide, rfl, rfl, c1, Or.inr (Or.inr (Or.inl ⟨rfl, rfl⟩))⟩⟩
            simp [zi_go, zf_X5_about, zi_ask, zi_new, zi_step, zi_ld, zi_lda, zi_cmp, zi_retOk, zi_isI, zi_f3, zi_cr, zi_ci, zi_cn, zi_get, zi_set, t0, hm, zw_g (zdW_at hk), zm_iald (k := 0) w1 zm_in1, zm_cl1]
          | 3, _ =>
            have t0 : (nI 3).toInt = 3 := by decide
            by_cases c2 : (0 : Int32) ≤ μ (zdW k) 4
            · refine ⟨μ (zdW k) 4, ⟨0, 7, fun F n hF => ?_⟩, Or.inr ⟨k, 3, hk, by decide, rfl, rfl, c1, Or.inr (Or.inr (Or.inr (Or.inl ⟨rfl, Or.inl ⟨c2, rfl⟩⟩)))⟩⟩
              simp [zi_go, zf_X5_about, zi_ask, zi_new, zi_step, zi_ld, zi_lda, zi_cmp, zi_retOk, zi_isI, zi_f3, zi_cr, zi_ci, zi_cn, zi_get, zi_set, t0, zw_g (zdW_at hk), c2]
            · refine ⟨-1000000005, ⟨0, 7, fun F n hF => ?_⟩, Or.inr ⟨k, 3, hk, by decide, rfl, rfl, c1, Or.inr (Or.inr (Or.inr (Or.inl ⟨rfl, Or.inr ⟨c2, rfl⟩⟩)))⟩⟩
              simp [zi_go, zf_X5_about, zi_ask, zi_new, zi_step, zi_ld, zi_lda, zi_cmp, zi_retOk, zi_isI, zi_f3, zi_cr, zi_ci, zi_cn, zi_get, zi_set, t0, zw_g (zdW_at hk), c2, n5]
          | 4, _ =>
            have t0 : (nI 4).toInt = 4 := by decide
            obtain ⟨N2, E2⟩ := ze_floW (μ := μ) (D + 2) hk
            by_cases c2 : zd_flo μ k = true
            · rw [if_pos c2] at E2
              refine ⟨1, ⟨N2, 7, fun F n hF => ?_⟩, Or.inr ⟨k, 4, hk, by decide, rfl, rfl, c1, Or.inr (Or.inr (Or.inr (Or.inr (Or.inl ⟨rfl, Or.inl ⟨c2, rfl⟩⟩))))⟩⟩
              simp [zi_go, zf_X5_about, zi_ask, zi_new, zi_step, zi_ld, zi_lda, zi_cmp, zi_retOk, zi_isI, zi_f3, zi_cr, zi_ci, zi_cn, zi_get, zi_set, t0, zq_Win_isFloating, cw, E2 F (by omega)]
            · rw [if_neg c2] at E2
              rcases ze_isShownTileJ D h (nI k) with ⟨⟨N3, E3⟩, k', s, hk', hs, ek, hsh⟩ | ⟨⟨N3, E3⟩, hns⟩
              · have e0 : k = k' := (nI_eq (by omega) (by omega)).mp ek
                subst e0
                refine ⟨1, ⟨N2 + N3, 11, fun F n hF => ?_⟩, Or.inr ⟨k, 4, hk, by decide, rfl, rfl, c1, Or.inr (Or.inr (Or.inr (Or.inr (Or.inl ⟨rfl, Or.inr ⟨c2, Or.inl ⟨rfl, s, hs, hsh⟩⟩⟩))))⟩⟩
                simp [zi_go, zf_X5_about, zi_ask, zi_new, zi_step, zi_ld, zi_lda, zi_cmp, zi_retOk, zi_isI, zi_f3, zi_cr, zi_ci, zi_cn, zi_get, zi_set, t0, zq_Win_isFloating, cw, E2 F (by omega), zq_Desk_isShownTile, zd_c, E3 F (by omega)]
              · refine ⟨0, ⟨N2 + N3, 10, fun F n hF => ?_⟩, Or.inr ⟨k, 4, hk, by decide, rfl, rfl, c1, Or.inr (Or.inr (Or.inr (Or.inr (Or.inl ⟨rfl, Or.inr ⟨c2, Or.inr ⟨rfl, fun s hs => hns k s hk hs rfl⟩⟩⟩))))⟩⟩
                simp [zi_go, zf_X5_about, zi_ask, zi_new, zi_step, zi_ld, zi_lda, zi_cmp, zi_retOk, zi_isI, zi_f3, zi_cr, zi_ci, zi_cn, zi_get, zi_set, t0, zq_Win_isFloating, cw, E2 F (by omega), zq_Desk_isShownTile, zd_c, E3 F (by omega)]
          | 5, _ =>
            have t0 : (nI 5).toInt = 5 := by decide
            obtain ⟨N2, E2⟩ := ze_Row_placeOf (μ := μ) (D + 2) zd3_at hr1 hr2 hk
            have cr := zr_c (μ := μ) zd3_at
            generalize ev : zr_ix row k 0 = v at E2
            refine ⟨v, ⟨N2, 6, fun F n hF => ?_⟩, Or.inr ⟨k, 5, hk, by decide, rfl, rfl, c1, Or.inr (Or.inr (Or.inr (Or.inr (Or.inr (Or.inl ⟨rfl, ev.symm⟩)))))⟩⟩
            simp [zi_go, zf_X5_about, zi_ask, zi_new, zi_step, zi_ld, zi_lda, zi_cmp, zi_retOk, zi_isI, zi_f3, zi_cr, zi_ci, zi_cn, zi_get, zi_set, t0, zd_g, zq_Row_placeOf, cr, E2 F (by omega)]
          | 6, _ =>
            have t0 : (nI 6).toInt = 6 := by decide
            obtain ⟨N2, E2⟩ := ze_floW (μ := μ) (D + 2) hk
            by_cases c2 : zd_flo μ k = true
            · rw [if_pos c2] at E2
              obtain ⟨N3, E3⟩ := ze_Row_placeOf (μ := μ) (D + 2) zd5_at hs1 hs2 hk
              have cr := zr_c (μ := μ) zd5_at
              generalize ev : zr_ix stk k 0 = v at E3
              refine ⟨v, ⟨N2 + N3, 10, fun F n hF => ?_⟩, Or.inr ⟨k, 6, hk, by decide, rfl, rfl, c1, Or.inr (Or.inr (Or.inr (Or.inr (Or.inr (Or.inr ⟨rfl, Or.inl ⟨c2, ev.symm⟩⟩)))))⟩⟩
              simp [zi_go, zf_X5_about, zi_ask, zi_new, zi_step, zi_ld, zi_lda, zi_cmp, zi_retOk, zi_isI, zi_f3, zi_cr, zi_ci, zi_cn, zi_get, zi_set, t0, zq_Win_isFloating, cw, E2 F (by omega), zd_g, zq_Row_placeOf, cr, E3 F (by omega)]
            · rw [if_neg c2] at E2
              refine ⟨-1000000005, ⟨N2, 6, fun F n hF => ?_⟩, Or.inr ⟨k, 6, hk, by decide, rfl, rfl, c1, Or.inr (Or.inr (Or.inr (Or.inr (Or.inr (Or.inr ⟨rfl, Or.inr ⟨c2, rfl⟩⟩)))))⟩⟩
              simp [zi_go, zf_X5_about, zi_ask, zi_new, zi_step, zi_ld, zi_lda, zi_cmp, zi_retOk, zi_isI, zi_f3, zi_cr, zi_ci, zi_cn, zi_get, zi_set, t0, zq_Win_isFloating, cw, E2 F (by omega), n5]
        · have ho' : x.toInt < 0 ∨ 6 < x.toInt := by
            rcases zd_sw (by decide) ho with q | q
            · exact Or.inl q
            · right; omega
          refine ⟨-1000000001, ⟨0, 3, fun F n hF => ?_⟩, Or.inl ⟨fun ⟨_, j, _, hj, _, e, _⟩ => by rw [e] at ho; exact absurd ho (fun q => q.elim (nI_pos (by omega)) (nI_ge (b := 7) hj (by decide))), rfl⟩⟩
          simp [zi_go, zf_X5_about, zi_ask, zi_new, zi_step, zi_ld, zi_lda, zi_cmp, zi_retOk, zi_isI, zi_f3, zi_cr, zi_ci, zi_cn, zi_get, zi_set, ho', n4]
      obtain ⟨v, G, V⟩ := fin
      exact ⟨v, ze_in [(0, .ref 1), (1, .int (nI k)), (2, .int x)] zq_Desk_about (Nat.le_of_ble_eq_true rfl) rfl (S0.end G), V⟩
    · rw [if_neg c1] at E1
      exact hno E1 (fun k' hk' e => by rw [← (nI_eq (by omega) (by omega)).mp e]; exact c1)
  · exact hno (ze_isWindow_out (D + 2) hout) (fun k hk e => by
      rw [e] at hout
      exact absurd hout (fun q => q.elim (nI_pos (by omega)) (nI_ge (b := 10) hk (by decide))))
/-- where k lies in a row, as the reference has it -/
def zr_in (l : List Nat) (k : Nat) : Int32 := if k ∈ l then nI (l.idxOf k) else -1000000005
set_option maxRecDepth 100000 in
theorem ze_MplaceIn_v (D : Nat) {C : Nat} (hC : zm_isA 7 C 10) {l : List Nat} (hn : l.length ≤ 10) (hl : ∀ j, j < l.length → μ C j = nI (l.getD j 0)) (hb : ∀ x ∈ l, x < 10) {k : Nat} (hk : k < 10) : ze_E (D + 1) A_Mod_placeIn [.ref (C + 1), .int (nI l.length), .int (nI k)] (zm_mk μ) (some (.int (zr_in l k))) (zm_mk μ) := by
  have key : ∃ r h', ze_G D 4 (some .int) zc_X6_placeIn 2 [(3, .int (nI 0)), (0, .ref (C + 1)), (1, .int (nI l.length)), (2, .int (nI k))] [] (zm_mk μ) r h' ∧ (r = some (.int (zr_in l k)) ∧ zm_mk μ = h') := by
    refine ze_loop (Q := fun i L hp => i ≤ l.length ∧ zi_nl L = true ∧ zi_get L 0 = some (.ref (C + 1)) ∧ zi_get L 1 = some (.int (nI l.length)) ∧ zi_get L 2 = some (.int (nI k)) ∧ zi_get L 3 = some (.int (nI i)) ∧ zm_mk μ = hp ∧ (k ∉ l.take i)) (R := fun r h' => r = some (.int (zr_in l k)) ∧ zm_mk μ = h') l.length ?_ ?_ l.length 0 _ _ (by omega) ⟨by omega, rfl, rfl, rfl, rfl, rfl, rfl, (by rw [List.take_zero]; exact List.not_mem_nil)⟩
    · rintro i L _ hi ⟨-, nl, g0, g1, g2, g3, rfl, hq⟩
      have c1 : ¬ nI l.length ≤ nI i := nI_ge hi (by omega)
      have ei := hl i hi
      have hx := hb _ (zl_mem hi)
      have etk := zl_take hi
      have edr : l = l.take i ++ (l.getD i 0 :: l.drop (i + 1)) := by
        have : l.drop i = l.getD i 0 :: l.drop (i + 1) := by
          rw [List.drop_eq_getElem_cons hi, List.getD_eq_getElem?_getD, List.getElem?_eq_getElem hi]
          rfl
        rw [← this, List.take_append_drop]
      generalize l.getD i 0 = y at ei hx etk edr
      have ik : zi_in (nI i) 10 = true := zm_in (by omega) (by decide)
      have ck : (nI i).toNatClampNeg = i := nI_clamp (by omega)
      by_cases c0 : y = k
      · have c2 : μ C i = nI k := by rw [ei, c0]
        have ev : zr_in l k = nI i := by
          subst c0
          unfold zr_in
          have hm : y ∈ l := by rw [edr]; exact List.mem_append_right _ List.mem_cons_self
          rw [if_pos hm]
          congr 1
          rw [edr, List.idxOf_append, if_neg hq, List.idxOf_cons_self, Nat.zero_add, List.length_take]
          omega
        rw [ev]
        right
        refine ⟨some (.int (nI i)), zm_mk μ, ⟨0, 10, fun F m hF => ?_⟩, rfl, rfl⟩
        simp (maxDischargeDepth := 9) [zi_go, zf_X6_placeIn, zi_ask, zi_new, zi_step, zi_ld, zi_lda, zi_cmp, zi_retOk, zi_isI, zi_f3, zi_cr, zi_ci, zi_cn, zi_get_ne, zi_nl_i, zi_nl_r, zi_get_set_eq, nl, g0, g1, g2, g3, c1, zm_iald (k := 0) hC ik, ck, c2, nI_1]
      · have c2 : ¬ μ C i = nI k := by
          rw [ei]
          exact fun e => c0 ((nI_eq (by omega) (by omega)).mp e)
        left
        refine ⟨zi_set L 3 (.int (nI (i + 1))), zm_mk μ, ⟨0, 10, fun F m hF => ?_⟩, by omega, ?_, ?_, ?_, ?_, zi_get_set_eq, rfl, by rw [etk]; exact fun z => (List.mem_append.mp z).elim hq (fun z => c0 (List.mem_singleton.mp z).symm)⟩
        · simp (maxDischargeDepth := 9) [zi_go, zf_X6_placeIn, zi_ask, zi_new, zi_step, zi_ld, zi_lda, zi_cmp, zi_retOk, zi_isI, zi_f3, zi_cr, zi_ci, zi_cn, zi_get_ne, zi_nl_i, zi_nl_r, zi_get_set_eq, nl, g0, g1, g2, g3, c1, zm_iald (k := 0) hC ik, ck, c2, nI_1]
        · simp (maxDischargeDepth := 9) [zi_get_ne, zi_nl_i, zi_nl_r, zi_get_set_eq, nl]
        · simp (maxDischargeDepth := 9) [zi_get_ne, zi_nl_i, zi_nl_r, zi_get_set_eq, nl, g0]
        · simp (maxDischargeDepth := 9) [zi_get_ne, zi_nl_i, zi_nl_r, zi_get_set_eq, nl, g1]
        · simp (maxDischargeDepth := 9) [zi_get_ne, zi_nl_i, zi_nl_r, zi_get_set_eq, nl, g2]
    · rintro L _ ⟨-, nl, g0, g1, g2, g3, rfl, hq⟩
      rw [List.take_length] at hq
      have ev : zr_in l k = -1000000005 := if_neg hq
      rw [ev]
      have c1 : nI l.length ≤ nI l.length := Int32.le_refl _
      refine ⟨some (.int (-1000000005)), zm_mk μ, ⟨0, 5, fun F m hF => ?_⟩, rfl, rfl⟩
      simp [zi_go, zf_X6_placeIn, zi_ask, zi_new, zi_step, zi_ld, zi_lda, zi_cmp, zi_retOk, zi_isI, zi_f3, zi_cr, zi_ci, zi_cn, g0, g1, g2, g3, c1]
  obtain ⟨r, h', G, rfl, rfl⟩ := key
  refine ze_in [(0, .ref (C + 1)), (1, .int (nI l.length)), (2, .int (nI k))] zq_Mod_placeIn (Nat.le_of_ble_eq_true rfl) rfl (ze_S.end ⟨0, 2, fun F m hF => ?_⟩ G)
  simp [zi_go, zf_X6_placeIn, zi_ask, zi_new, zi_step, zi_ld, zi_lda, zi_cmp, zi_retOk, zi_isI, zi_f3, zi_cr, zi_ci, zi_cn, zi_get, zi_set, nI_0]
def zx_abM (μ : zm_M) (row stk : List Nat) (us : Nat → zy_F) (k j : Nat) (v : Int32) : Prop :=
  (j = 0 ∧ v = μ 234 k) ∨ (j = 1 ∧ v = μ 235 k) ∨ (j = 2 ∧ v = μ 236 k) ∨ (j = 3 ∧ ((μ 234 k = 3 ∧ v = μ 237 k) ∨ (¬ μ 234 k = 3 ∧ v = -1000000005))) ∨
  (j = 4 ∧ ((2 ≤ μ 234 k ∧ v = 1) ∨ (¬ 2 ≤ μ 234 k ∧ ((v = 1 ∧ ∃ s, s < 3 ∧ zv_shn μ us s k) ∨ (v = 0 ∧ ∀ s, s < 3 → ¬ zv_shn μ us s k))))) ∨ (j = 5 ∧ v = zr_in row k) ∨ (j = 6 ∧ v = zr_in stk k)
def zx_abMv (μ : zm_M) (row stk : List Nat) (us : Nat → zy_F) (w x v : Int32) : Prop := (¬ (∃ k j, k < 10 ∧ j < 7 ∧ w = nI k ∧ x = nI j ∧ ¬ μ 234 k = 0) ∧ v = -1000000001) ∨ ∃ k j, k < 10 ∧ j < 7 ∧ w = nI k ∧ x = nI j ∧ ¬ μ 234 k = 0 ∧ zx_abM μ row stk us k j v
set_option maxRecDepth 100000 in
theorem ze_Mabout_v (D : Nat) (h : zR μ row stk us) (w x : Int32) : ∃ v, ze_E (D + 5) A_Mod_about [.ref 232, .int w, .int x] (zm_mk μ) (some (.int v)) (zm_mk μ) ∧ zx_abMv μ row stk us w x v := by
  have n1 : Int32.ofInt (-1000000001) = -1000000001 := by decide
  have n5 : Int32.ofInt (-1000000005) = -1000000005 := by decide
  have h6 : (Int8.ofInt 6).toInt32 = (6 : Int32) := by decide
  obtain ⟨lc, cM⟩ := zM_c (μ := μ)
  rcases zR_win (D + 2) h w with ⟨k, hk, rfl, c0, N1, E1⟩ | ⟨⟨N1, E1⟩, c0⟩
  · have ik : zi_in (nI k) 10 = true := zm_in hk (by decide)
    have ck : (nI k).toNatClampNeg = k := nI_clamp (by omega)
    rcases zM_isIn (hp := zm_mk μ) (D + 3) x (n := 6) (b := 6) (by decide) (by decide) with ⟨a, ha, rfl, N2, E2⟩ | ⟨⟨N2, E2⟩, hno⟩
    · have S0 : ze_S (D + 4) 3 (some .int) zc_X6_about 0 [(0, .ref 232), (1, .int (nI k)), (2, .int (nI a))] [] (zm_mk μ) 22 [(0, .ref 232), (1, .int (nI k)), (2, .int (nI a))] [.int (nI a)] (zm_mk μ) := by
        refine ⟨N1 + N2, 10, fun F n hF => ?_⟩
        simp [zi_go, zf_X6_about, zi_ask, zi_new, zi_step, zi_ld, zi_lda, zi_cmp, zi_retOk, zi_isI, zi_f3, zi_cr, zi_ci, zi_cn, zi_get, zi_set, h6, cM, zq_Mod_isWindow, zq_Mod_isIn, E1 F (by omega), E2 F (by omega)]
      have fin : ∃ v, ze_G (D + 4) 3 (some .int) zc_X6_about 22 [(0, .ref 232), (1, .int (nI k)), (2, .int (nI a))] [.int (nI a)] (zm_mk μ) (some (.int v)) (zm_mk μ) ∧ zx_abM μ row stk us k a v := by
        match a, ha with
        | 0, _ =>
          have t0 : (nI 0).toInt = 0 := by decide
          refine ⟨μ 234 k, ⟨0, 6, fun F n hF => ?_⟩, Or.inl ⟨rfl, rfl⟩⟩
          simp [zi_go, zf_X6_about, zi_ask, zi_new, zi_step, zi_ld, zi_lda, zi_cmp, zi_retOk, zi_isI, zi_f3, zi_cr, zi_ci, zi_cn, zi_get, zi_set, t0, zM_g, zm_iald (k := 0) zM_A234 ik, ck]
        | 1, _ =>
          have t0 : (nI 1).toInt = 1 := by decide
          refine ⟨μ 235 k, ⟨0, 6, fun F n hF => ?_⟩, Or.inr (Or.inl ⟨rfl, rfl⟩)⟩
          simp [zi_go, zf_X6_about, zi_ask, zi_new, zi_step, zi_ld, zi_lda, zi_cmp, zi_retOk, zi_isI, zi_f3, zi_cr, zi_ci, zi_cn, zi_get, zi_set, t0, zM_g, zm_iald (k := 0) zM_A235 ik, ck]
        | 2, _ =>
          have t0 : (nI 2).toInt = 2 := by decide
          refine ⟨μ 236 k, ⟨0, 6, fun F n hF => ?_⟩, Or.inr (Or.inr (Or.inl ⟨rfl, rfl⟩))⟩
          simp [zi_go, zf_X6_about, zi_ask, zi_new, zi_step, zi_ld, zi_lda, zi_cmp, zi_retOk, zi_isI, zi_f3, zi_cr, zi_ci, zi_cn, zi_get, zi_set, t0, zM_g, zm_iald (k := 0) zM_A236 ik, ck]
        | 3, _ =>
          have t0 : (nI 3).toInt = 3 := by decide
          by_cases c : μ 234 k = 3
          · refine ⟨μ 237 k, ⟨0, 13, fun F n hF => ?_⟩, Or.inr (Or.inr (Or.inr (Or.inl ⟨rfl, Or.inl ⟨c, rfl⟩⟩)))⟩
            simp [zi_go, zf_X6_about, zi_ask, zi_new, zi_step, zi_ld, zi_lda, zi_cmp, zi_retOk, zi_isI, zi_f3, zi_cr, zi_ci, zi_cn, zi_get, zi_set, t0, zM_g, zm_iald (k := 0) zM_A234 ik, zm_iald (k := 0) zM_A237 ik, ck, c]
          · refine ⟨-1000000005, ⟨0, 9, fun F n hF => ?_⟩, Or.inr (Or.inr (Or.inr (Or.inl ⟨rfl, Or.inr ⟨c, rfl⟩⟩)))⟩
            simp [zi_go, zf_X6_about, zi_ask, zi_new, zi_step, zi_ld, zi_lda, zi_cmp, zi_retOk, zi_isI, zi_f3, zi_cr, zi_ci, zi_cn, zi_get, zi_set, t0, zM_g, zm_iald (k := 0) zM_A234 ik, ck, c, n5]
        | 4, _ =>
          have t0 : (nI 4).toInt = 4 := by decide
          obtain ⟨N3, E3⟩ := ze_MisFloating (μ := μ) (D + 3) hk
          by_cases c : 2 ≤ μ 234 k
          · rw [if_pos c] at E3
            refine ⟨1, ⟨N3, 8, fun F n hF => ?_⟩, Or.inr (Or.inr (Or.inr (Or.inr (Or.inl ⟨rfl, Or.inl ⟨c, rfl⟩⟩))))⟩
            simp [zi_go, zf_X6_about, zi_ask, zi_new, zi_step, zi_ld, zi_lda, zi_cmp, zi_retOk, zi_isI, zi_f3, zi_cr, zi_ci, zi_cn, zi_get, zi_set, t0, cM, zq_Mod_isFloating, E3 F (by omega)]
          · rw [if_neg c] at E3
            rcases zR_shn D h hk with ⟨⟨N4, E4⟩, hsh⟩ | ⟨⟨N4, E4⟩, hsh⟩
            · refine ⟨1, ⟨N3 + N4, 12, fun F n hF => ?_⟩, Or.inr (Or.inr (Or.inr (Or.inr (Or.inl ⟨rfl, Or.inr ⟨c, Or.inl ⟨rfl, hsh⟩⟩⟩))))⟩
              simp [zi_go, zf_X6_about, zi_ask, zi_new, zi_step, zi_ld, zi_lda, zi_cmp, zi_retOk, zi_isI, zi_f3, zi_cr, zi_ci, zi_cn, zi_get, zi_set, t0, cM, zq_Mod_isFloating, zq_Mod_isShown, E3 F (by omega), E4 F (by omega)]
            · refine ⟨0, ⟨N3 + N4, 11, fun F n hF => ?_⟩, Or.inr (Or.inr (Or.inr (Or.inr (Or.inl ⟨rfl, Or.inr ⟨c, Or.inr ⟨rfl, hsh⟩⟩⟩))))⟩
              simp [zi_go, zf_X6_about, zi_ask, zi_new, zi_step, zi_ld, zi_lda, zi_cmp, zi_retOk, zi_isI, zi_f3, zi_cr, zi_ci, zi_cn, zi_get, zi_set, t0, cM, zq_Mod_isFloating, zq_Mod_isShown, E3 F (by omega), E4 F (by omega)]
        | 5, _ =>
          have t0 : (nI 5).toInt = 5 := by decide
          have hL := h.2.1.1
          have E := ze_MplaceIn_v (μ := μ) (D + 3) zM_A242 hL.1 hL.2.2 (fun x hx => ((h.2.1.2.2 x).mp hx).1) hk
          generalize ev : zr_in row k = v at E
          have E3 : ze_E (D + 4) A_Mod_placeIn [.ref 243, .int (nI row.length), .int (nI k)] (zm_mk μ) (some (.int v)) (zm_mk μ) := E
          obtain ⟨N3, E3⟩ := E3
          refine ⟨v, ⟨N3, 8, fun F n hF => ?_⟩, Or.inr (Or.inr (Or.inr (Or.inr (Or.inr (Or.inl ⟨rfl, ev.symm⟩)))))⟩
          simp [zi_go, zf_X6_about, zi_ask, zi_new, zi_step, zi_ld, zi_lda, zi_cmp, zi_retOk, zi_isI, zi_f3, zi_cr, zi_ci, zi_cn, zi_get, zi_set, t0, zM_g, hL.2.1, zq_Mod_placeIn, E3 F (by omega)]
        | 6, _ =>
          have t0 : (nI 6).toInt = 6 := by decide
          have hL := h.2.2.1.1
          have E := ze_MplaceIn_v (μ := μ) (D + 3) zM_A241 hL.1 hL.2.2 (fun x hx => ((h.2.2.1.2.2 x).mp hx).1) hk
          generalize ev : zr_in stk k = v at E
          have E3 : ze_E (D + 4) A_Mod_placeIn [.ref 242, .int (nI stk.length), .int (nI k)] (zm_mk μ) (some (.int v)) (zm_mk μ) := E
          obtain ⟨N3, E3⟩ := E3
          refine ⟨v, ⟨N3, 8, fun F n hF => ?_⟩, Or.inr (Or.inr (Or.inr (Or.inr (Or.inr (Or.inr ⟨rfl, ev.symm⟩)))))⟩
          simp [zi_go, zf_X6_about, zi_ask, zi_new, zi_step, zi_ld, zi_lda, zi_cmp, zi_retOk, zi_isI, zi_f3, zi_cr, zi_ci, zi_cn, zi_get, zi_set, t0, zM_g, hL.2.1, zq_Mod_placeIn, E3 F (by omega)]
      obtain ⟨v, G, V⟩ := fin
      exact ⟨v, ze_in [(0, .ref 232), (1, .int (nI k)), (2, .int (nI a))] zq_Mod_about (Nat.le_of_ble_eq_true rfl) rfl (S0.end G), Or.inr ⟨k, a, hk, by omega, rfl, rfl, c0, V⟩⟩
    · refine ⟨-1000000001, ze_in [(0, .ref 232), (1, .int (nI k)), (2, .int x)] zq_Mod_about (Nat.le_of_ble_eq_true rfl) rfl ⟨N1 + N2, 11, fun F n hF => ?_⟩, Or.inl ⟨fun ⟨_, j, _, hj, _, e, _⟩ => absurd e (hno j (by omega)), rfl⟩⟩
      simp [zi_go, zf_X6_about, zi_ask, zi_new, zi_step, zi_ld, zi_lda, zi_cmp, zi_retOk, zi_isI, zi_f3, zi_cr, zi_ci, zi_cn, zi_get, zi_set, h6, cM, zq_Mod_isWindow, zq_Mod_isIn, E1 F (by omega), E2 F (by omega), n1]
  · refine ⟨-1000000001, ze_in [(0, .ref 232), (1, .int w), (2, .int x)] zq_Mod_about (Nat.le_of_ble_eq_true rfl) rfl ⟨N1, 6, fun F n hF => ?_⟩, Or.inl ⟨fun ⟨k, _, hk, _, e, _, z⟩ => z (c0 k hk e), rfl⟩⟩
    simp [zi_go, zf_X6_about, zi_ask, zi_new, zi_step, zi_ld, zi_lda, zi_cmp, zi_retOk, zi_isI, zi_f3, zi_cr, zi_ci, zi_cn, zi_get, zi_set, cM, zq_Mod_isWindow, E1 F (by omega), n1]
end ZAB
