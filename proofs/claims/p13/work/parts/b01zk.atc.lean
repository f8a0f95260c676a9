/-! places: at, exactly: the class -/
def zd_spn (μ : zm_M) (k z a : Nat) (x : Int32) : Bool := decide (zi_bt 0 (μ (zdW k + 2) a) (μ z a - μ (zdW k + 1) a) ≤ x ∧ x < zi_bt 0 (μ (zdW k + 2) a) (μ z a - μ (zdW k + 1) a) + μ (zdW k + 1) a)
/-- does the floating window k of the screen s (size z) cover the point? -/
def zd_cov (μ : zm_M) (k z : Nat) (s x y : Int32) : Bool := (zd_loose μ s k || (zd_sti μ k && zd_whole μ z k)) && (zd_spn μ k z 0 x && zd_spn μ k z 1 y)
/-- the shown tab k lies at the point -/
def zt_shp (μ : zm_M) (T k : Nat) (x y : Int32) : Prop := (¬ μ (T + 3) k < 0 ∧ μ (T + 12) (μ (T + 3) k).toNatClampNeg = nI k) ∧ (zt_so μ T 0 k ≤ x ∧ x < zt_so μ T 0 k + zt_lo μ T 0 k) ∧ (zt_so μ T 1 k ≤ y ∧ y < zt_so μ T 1 k + zt_lo μ T 1 k)
def zt_shv (μ : zm_M) (T : Nat) (x y v : Int32) : Prop := (∃ k, k < 10 ∧ zt_shp μ T k x y ∧ v = nI k) ∨ ((∀ k, k < 10 → ¬ zt_shp μ T k x y) ∧ v = -1000000005)
/-- the last of a list of which p holds -/
def zl_topP (p : Nat → Bool) (l : List Nat) (v : Int32) : Prop := ∃ j, j < l.length ∧ p (l.getD j 0) = true ∧ (∀ i, j < i → i < l.length → p (l.getD i 0) = false) ∧ v = nI (l.getD j 0)
def zd_atv (μ ν : zm_M) (stk : List Nat) (Rs : Nat → List Nat) (ts : Nat → zy_F) (w x y v : Int32) : Prop :=
  ((¬ ∃ s, s < 3 ∧ w = nI s) ∧ v = -1000000001) ∨ ∃ s, s < 3 ∧ w = nI s ∧ ((μ (zdS s) 3 = 0 ∧ v = -1000000002) ∨ (¬ μ (zdS s) 3 = 0 ∧
    ((¬ (0 ≤ x ∧ x < μ (zdZ s) 0 ∧ 0 ≤ y ∧ y < μ (zdZ s) 1) ∧ v = -1000000001) ∨ ((0 ≤ x ∧ x < μ (zdZ s) 0 ∧ 0 ≤ y ∧ y < μ (zdZ s) 1) ∧
      (zl_topP (fun k => zd_cov μ k (zdZ s) (nI s) x y) stk v ∨ ((∀ i, i < stk.length → zd_cov μ (stk.getD i 0) (zdZ s) (nI s) x y = false) ∧ zd_laid ν s (Rs s) (ts s) ∧ zt_shv ν (zdT s) x y v))))))
section ZXL
variable {μ ν : zm_M} {row stk : List Nat} {Rs : Nat → List Nat} {ts : Nat → zy_F}
set_option maxRecDepth 100000 in
theorem ze_Win_spans_v (D : Nat) {k z a : Nat} (hk : k < 10) (hz : zm_isA 7 z 2) (ha : a < 2) (x : Int32) : ze_E (D + 4) A_Win_spans [.ref (zdW k + 1), .int x, .int (nI a), .ref (z + 1)] (zm_mk μ) (some (.int (if zd_spn μ k z a x = true then 1 else 0))) (zm_mk μ) := by
  have ia : zi_in (nI a) 2 = true := zm_in ha (by decide)
  have ca : (nI a).toNatClampNeg = a := nI_clamp (by omega)
  obtain ⟨N1, E1⟩ := ze_nearest (μ := μ) D (zdW_at hk) hz (μ (zdW k + 2) a) (nI a) ia
  have cw := zw_c (μ := μ) (zdW_at hk)
  rw [ca] at E1
  unfold zd_spn
  generalize zi_bt 0 (μ (zdW k + 2) a) (μ z a - μ (zdW k + 1) a) = st at E1 ⊢
  by_cases c1 : x < st
  · rw [if_neg (fun q => Int32.not_lt.mpr (of_decide_eq_true q).1 c1)]
    refine ze_in [(0, .ref (zdW k + 1)), (1, .int x), (2, .int (nI a)), (3, .ref (z + 1))] zq_Win_spans (Nat.le_of_ble_eq_true rfl) rfl ⟨N1, 14, fun F n hF => ?_⟩
    simp [zi_go, zf_X4_spans, zi_ask, zi_new, zi_step, zi_ld, zi_lda, zi_cmp, zi_retOk, zi_isI, zi_f3, zi_cr, zi_ci, zi_cn, zi_get, zi_set, zw_g (zdW_at hk), zm_iald (k := 0) (zdW_at hk).2.2 ia, ca, zq_Win_nearest, cw, E1 F (by omega), c1]
  · by_cases c2 : st + μ (zdW k + 1) a ≤ x
    · rw [if_neg (fun q => Int32.not_le.mpr (of_decide_eq_true q).2 c2)]
      refine ze_in [(0, .ref (zdW k + 1)), (1, .int x), (2, .int (nI a)), (3, .ref (z + 1))] zq_Win_spans (Nat.le_of_ble_eq_true rfl) rfl ⟨N1, 22, fun F n hF => ?_⟩
      simp [zi_go, zf_X4_spans, zi_ask, zi_new, zi_step, zi_ld, zi_lda, zi_cmp, zi_retOk, zi_isI, zi_f3, zi_cr, zi_ci, zi_cn, zi_get, zi_set, zw_g (zdW_at hk), zm_iald (k := 0) (zdW_at hk).2.2 ia, zm_iald (k := 0) (zdW_at hk).2.1 ia, ca, zq_Win_nearest, cw, E1 F (by omega), c1, c2]
    · rw [if_pos (decide_eq_true ⟨Int32.not_lt.mp c1, Int32.not_le.mp c2⟩)]
      refine ze_in [(0, .ref (zdW k + 1)), (1, .int x), (2, .int (nI a)), (3, .ref (z + 1))] zq_Win_spans (Nat.le_of_ble_eq_true rfl) rfl ⟨N1, 23, fun F n hF => ?_⟩
      simp [zi_go, zf_X4_spans, zi_ask, zi_new, zi_step, zi_ld, zi_lda, zi_cmp, zi_retOk, zi_isI, zi_f3, zi_cr, zi_ci, zi_cn, zi_get, zi_set, zw_g (zdW_at hk), zm_iald (k := 0) (zdW_at hk).2.2 ia, zm_iald (k := 0) (zdW_at hk).2.1 ia, ca, zq_Win_nearest, cw, E1 F (by omega), c1, c2]
set_option maxRecDepth 100000 in
theorem ze_coversPoint_v (D : Nat) {k z : Nat} (hk : k < 10) (hz : zm_isA 7 z 2) (x y s : Int32) : ze_E (D + 5) A_Win_coversPoint [.ref (zdW k + 1), .int x, .int y, .int s, .ref (z + 1)] (zm_mk μ) (some (.int (if zd_cov μ k z s x y = true then 1 else 0))) (zm_mk μ) := by
  obtain ⟨N1, E1⟩ := ze_looseW (μ := μ) (D + 2) hk s
  obtain ⟨N2, E2⟩ := ze_stiW (μ := μ) (D + 3) hk
  obtain ⟨N3, E3⟩ := ze_wholeW (μ := μ) (D + 3) hk hz
  obtain ⟨N4, E4⟩ := ze_Win_spans_v (μ := μ) D hk hz (a := 0) (by decide) x
  obtain ⟨N5, E5⟩ := ze_Win_spans_v (μ := μ) D hk hz (a := 1) (by decide) y
  rw [nI_0] at E4
  rw [show nI 1 = 1 by decide] at E5
  have cw := zw_c (μ := μ) (zdW_at hk)
  have S1 : ∃ b : Bool, b = (zd_loose μ s k || (zd_sti μ k && zd_whole μ z k)) ∧ ze_S (D + 4) 6 (some .boolean) zc_X4_coversPoint 0 [(0, .ref (zdW k + 1)), (1, .int x), (2, .int y), (3, .int s), (4, .ref (z + 1))] [] (zm_mk μ) 31 [(5, .int (if b = true then 1 else 0)), (0, .ref (zdW k + 1)), (1, .int x), (2, .int y), (3, .int s), (4, .ref (z + 1))] [] (zm_mk μ) := by
    by_cases c1 : zd_loose μ s k = true
    · rw [if_pos c1] at E1
      refine ⟨true, by rw [c1]; rfl, N1, 7, fun F n hF => ?_⟩
      simp [zi_go, zf_X4_coversPoint, zi_ask, zi_new, zi_step, zi_ld, zi_lda, zi_cmp, zi_retOk, zi_isI, zi_f3, zi_cr, zi_ci, zi_cn, zi_get, zi_set, zq_Win_isLooseOn, cw, E1 F (by omega)]
    · rw [if_neg c1] at E1
      by_cases c2 : zd_sti μ k = true
      · rw [if_pos c2] at E2
        by_cases c3 : zd_whole μ z k = true
        · rw [if_pos c3] at E3
          refine ⟨true, by rw [Bool.not_eq_true] at c1; rw [c1, c2, c3]; rfl, N1 + N2 + N3, 14, fun F n hF => ?_⟩
          simp [zi_go, zf_X4_coversPoint, zi_ask, zi_new, zi_step, zi_ld, zi_lda, zi_cmp, zi_retOk, zi_isI, zi_f3, zi_cr, zi_ci, zi_cn, zi_get, zi_set, zq_Win_isLooseOn, zq_Win_isSticky, zq_Win_canBeWhole, cw, E1 F (by omega), E2 F (by omega), E3 F (by omega)]
        · rw [if_neg c3] at E3
          refine ⟨false, by rw [Bool.not_eq_true] at c1 c3; rw [c1, c2, c3]; rfl, N1 + N2 + N3, 13, fun F n hF => ?_⟩
          simp [zi_go, zf_X4_coversPoint, zi_ask, zi_new, zi_step, zi_ld, zi_lda, zi_cmp, zi_retOk, zi_isI, zi_f3, zi_cr, zi_ci, zi_cn, zi_get, zi_set, zq_Win_isLooseOn, zq_Win_isSticky, zq_Win_canBeWhole, cw, E1 F (by omega), E2 F (by omega), E3 F (by omega)]
      · rw [if_neg c2] at E2
        refine ⟨false, by rw [Bool.not_eq_true] at c1 c2; rw [c1, c2]; rfl, N1 + N2, 9, fun F n hF => ?_⟩
        simp [zi_go, zf_X4_coversPoint, zi_ask, zi_new, zi_step, zi_ld, zi_lda, zi_cmp, zi_retOk, zi_isI, zi_f3, zi_cr, zi_ci, zi_cn, zi_get, zi_set, zq_Win_isLooseOn, zq_Win_isSticky, cw, E1 F (by omega), E2 F (by omega)]
  obtain ⟨b, hb, S1⟩ := S1
  unfold zd_cov
  rw [← hb]
  cases b with
  | false =>
    refine ze_in [(0, .ref (zdW k + 1)), (1, .int x), (2, .int y), (3, .int s), (4, .ref (z + 1))] zq_Win_coversPoint (Nat.le_of_ble_eq_true rfl) rfl (S1.end ⟨0, 4, fun F n hF => ?_⟩)
    simp [zi_go, zf_X4_coversPoint, zi_ask, zi_new, zi_step, zi_ld, zi_lda, zi_cmp, zi_retOk, zi_isI, zi_f3, zi_cr, zi_ci, zi_cn, zi_get, zi_set]
  | true =>
    cases c4 : zd_spn μ k z 0 x with
    | false =>
      rw [c4] at E4
      refine ze_in [(0, .ref (zdW k + 1)), (1, .int x), (2, .int y), (3, .int s), (4, .ref (z + 1))] zq_Win_coversPoint (Nat.le_of_ble_eq_true rfl) rfl (S1.end ⟨N4, 10, fun F n hF => ?_⟩)
      simp [zi_go, zf_X4_coversPoint, zi_ask, zi_new, zi_step, zi_ld, zi_lda, zi_cmp, zi_retOk, zi_isI, zi_f3, zi_cr, zi_ci, zi_cn, zi_get, zi_set, zq_Win_spans, cw, E4 F (by omega)]
    | true =>
      rw [c4] at E4
      cases c5 : zd_spn μ k z 1 y with
      | false =>
        rw [c5] at E5
        refine ze_in [(0, .ref (zdW k + 1)), (1, .int x), (2, .int y), (3, .int s), (4, .ref (z + 1))] zq_Win_coversPoint (Nat.le_of_ble_eq_true rfl) rfl (S1.end ⟨N4 + N5, 16, fun F n hF => ?_⟩)
        simp [zi_go, zf_X4_coversPoint, zi_ask, zi_new, zi_step, zi_ld, zi_lda, zi_cmp, zi_retOk, zi_isI, zi_f3, zi_cr, zi_ci, zi_cn, zi_get, zi_set, zq_Win_spans, cw, E4 F (by omega), E5 F (by omega)]
      | true =>
        rw [c5] at E5
        refine ze_in [(0, .ref (zdW k + 1)), (1, .int x), (2, .int y), (3, .int s), (4, .ref (z + 1))] zq_Win_coversPoint (Nat.le_of_ble_eq_true rfl) rfl (S1.end ⟨N4 + N5, 17, fun F n hF => ?_⟩)
        simp [zi_go, zf_X4_coversPoint, zi_ask, zi_new, zi_step, zi_ld, zi_lda, zi_cmp, zi_retOk, zi_isI, zi_f3, zi_cr, zi_ci, zi_cn, zi_get, zi_set, zq_Win_spans, cw, E4 F (by omega), E5 F (by omega)]
set_option maxRecDepth 100000 in
theorem ze_shownAt_v (D : Nat) {T : Nat} (h : zt_at T) (hm : zt_hm μ T) (x y : Int32) : ∃ v, ze_E (D + 5) A_Tree_shownAt [.ref (T + 1), .int x, .int y] (zm_mk μ) (some (.int v)) (zm_mk μ) ∧ zt_shv μ T x y v := by
  have h10 : (Int8.ofInt 10).toInt32 = (10 : Int32) := by decide
  have key : ∃ r h', ze_G (D + 4) 4 (some .int) zc_X3_shownAt 2 [(3, .int (nI 0)), (0, .ref (T + 1)), (1, .int x), (2, .int y)] [] (zm_mk μ) r h' ∧ ((∃ v, r = some (.int v) ∧ zt_shv μ T x y v) ∧ zm_mk μ = h') := by
    refine ze_loop (Q := fun i L hp => i ≤ 10 ∧ zi_nl L = true ∧ zi_get L 0 = some (.ref (T + 1)) ∧ zi_get L 1 = some (.int x) ∧ zi_get L 2 = some (.int y) ∧ zi_get L 3 = some (.int (nI i)) ∧ zm_mk μ = hp ∧ (∀ j, j < i → ¬ zt_shp μ T j x y)) (R := fun r h' => (∃ v, r = some (.int v) ∧ zt_shv μ T x y v) ∧ zm_mk μ = h') 10 ?_ ?_ 10 0 _ _ (by omega) ⟨by omega, rfl, rfl, rfl, rfl, rfl, rfl, fun j hj => absurd hj (Nat.not_lt_zero _)⟩
    · rintro i L _ hi ⟨-, nl, g0, g1, g2, g3, rfl, hq⟩
      have c1 : ¬ (10 : Int32) ≤ nI i := nI_ge (b := 10) hi (by decide)
      obtain ⟨N1, E1⟩ := ze_Tree_isShown (μ := μ) (D + 2) h hm hi
      obtain ⟨N2, E2⟩ := ze_Tree_spans (μ := μ) D h hm hi (a := 0) (by decide) x
      obtain ⟨N3, E3⟩ := ze_Tree_spans (μ := μ) D h hm hi (a := 1) (by decide) y
      rw [nI_0] at E2
      rw [show nI 1 = 1 by decide] at E3
      rw [zb_dec] at E1 E2 E3
      obtain ⟨lt, ct⟩ := zt_c (μ := μ) h
      by_cases q1 : decide (¬ μ (T + 3) i < 0 ∧ μ (T + 12) (μ (T + 3) i).toNatClampNeg = nI i) = true
      · rw [if_pos q1] at E1
        by_cases q2 : decide (zt_so μ T 0 i ≤ x ∧ x < zt_so μ T 0 i + zt_lo μ T 0 i) = true
        · rw [if_pos q2] at E2
          by_cases q3 : decide (zt_so μ T 1 i ≤ y ∧ y < zt_so μ T 1 i + zt_lo μ T 1 i) = true
          · rw [if_pos q3] at E3
            right
            refine ⟨some (.int (nI i)), zm_mk μ, ⟨N1 + N2 + N3, 21, fun F m hF => ?_⟩, ⟨nI i, rfl, Or.inl ⟨i, hi, ⟨of_decide_eq_true q1, of_decide_eq_true q2, of_decide_eq_true q3⟩, rfl⟩⟩, rfl⟩
            simp (maxDischargeDepth := 9) [zi_go, zf_X3_shownAt, zi_ask, zi_new, zi_step, zi_ld, zi_lda, zi_cmp, zi_retOk, zi_isI, zi_f3, zi_cr, zi_ci, zi_cn, zi_get_ne, zi_nl_i, zi_nl_r, zi_get_set_eq, nl, g0, g1, g2, g3, h10, c1, zq_Tree_isShown, zq_Tree_spans, ct, E1 F (by omega), E2 F (by omega), E3 F (by omega), nI_1]
          · rw [if_neg q3] at E3
            left
            refine ⟨zi_set L 3 (.int (nI (i + 1))), zm_mk μ, ⟨N1 + N2 + N3, 21, fun F m hF => ?_⟩, by omega, ?_, ?_, ?_, ?_, zi_get_set_eq, rfl, zl_lt_s (P := fun j => ¬ zt_shp μ T j x y) hq (fun z => q3 (decide_eq_true z.2.2))⟩
            · simp (maxDischargeDepth := 9) [zi_go, zf_X3_shownAt, zi_ask, zi_new, zi_step, zi_ld, zi_lda, zi_cmp, zi_retOk, zi_isI, zi_f3, zi_cr, zi_ci, zi_cn, zi_get_ne, zi_nl_i, zi_nl_r, zi_get_set_eq, nl, g0, g1, g2, g3, h10, c1, zq_Tree_isShown, zq_Tree_spans, ct, E1 F (by omega), E2 F (by omega), E3 F (by omega), nI_1]
            · simp (maxDischargeDepth := 9) [zi_get_ne, zi_nl_i, zi_nl_r, zi_get_set_eq, nl]
            · simp (maxDischargeDepth := 9) [zi_get_ne, zi_nl_i, zi_nl_r, zi_get_set_eq, nl, g0]
            · simp (maxDischargeDepth := 9) [zi_get_ne, zi_nl_i, zi_nl_r, zi_get_set_eq, nl, g1]
            · simp (maxDischargeDepth := 9) [zi_get_ne, zi_nl_i, zi_nl_r, zi_get_set_eq, nl, g2]
        · rw [if_neg q2] at E2
          left
          refine ⟨zi_set L 3 (.int (nI (i + 1))), zm_mk μ, ⟨N1 + N2 + N3, 15, fun F m hF => ?_⟩, by omega, ?_, ?_, ?_, ?_, zi_get_set_eq, rfl, zl_lt_s (P := fun j => ¬ zt_shp μ T j x y) hq (fun z => q2 (decide_eq_true z.2.1))⟩
          · simp (maxDischargeDepth := 9) [zi_go, zf_X3_shownAt, zi_ask, zi_new, zi_step, zi_ld, zi_lda, zi_cmp, zi_retOk, zi_isI, zi_f3, zi_cr, zi_ci, zi_cn, zi_get_ne, zi_nl_i, zi_nl_r, zi_get_set_eq, nl, g0, g1, g2, g3, h10, c1, zq_Tree_isShown, zq_Tree_spans, ct, E1 F (by omega), E2 F (by omega), nI_1]
          · simp (maxDischargeDepth := 9) [zi_get_ne, zi_nl_i, zi_nl_r, zi_get_set_eq, nl]
          · simp (maxDischargeDepth := 9) [zi_get_ne, zi_nl_i, zi_nl_r, zi_get_set_eq, nl, g0]
          · simp (maxDischargeDepth := 9) [zi_get_ne, zi_nl_i, zi_nl_r, zi_get_set_eq, nl, g1]
          · simp (maxDischargeDepth := 9) [zi_get_ne, zi_nl_i, zi_nl_r, zi_get_set_eq, nl, g2]
      · rw [if_neg q1] at E1
        left
        refine ⟨zi_set L 3 (.int (nI (i + 1))), zm_mk μ, ⟨N1 + N2 + N3, 9, fun F m hF => ?_⟩, by omega, ?_, ?_, ?_, ?_, zi_get_set_eq, rfl, zl_lt_s (P := fun j => ¬ zt_shp μ T j x y) hq (fun z => q1 (decide_eq_true z.1))⟩
        · simp (maxDischargeDepth := 9) [zi_go, zf_X3_shownAt, zi_ask, zi_new, zi_step, zi_ld, zi_lda, zi_cmp, zi_retOk, zi_isI, zi_f3, zi_cr, zi_ci, zi_cn, zi_get_ne, zi_nl_i, zi_nl_r, zi_get_set_eq, nl, g0, g1, g2, g3, h10, c1, zq_Tree_isShown, ct, E1 F (by omega), nI_1]
        · simp (maxDischargeDepth := 9) [zi_get_ne, zi_nl_i, zi_nl_r, zi_get_set_eq, nl]
        · simp (maxDischargeDepth := 9) [zi_get_ne, zi_nl_i, zi_nl_r, zi_get_set_eq, nl, g0]
        · simp (maxDischargeDepth := 9) [zi_get_ne, zi_nl_i, zi_nl_r, zi_get_set_eq, nl, g1]
        · simp (maxDischargeDepth := 9) [zi_get_ne, zi_nl_i, zi_nl_r, zi_get_set_eq, nl, g2]
    · rintro L _ ⟨-, nl, g0, g1, g2, g3, rfl, hq⟩
      have c1 : (10 : Int32) ≤ nI 10 := by decide
      refine ⟨some (.int (-1000000005)), zm_mk μ, ⟨0, 5, fun F m hF => ?_⟩, ⟨_, rfl, Or.inr ⟨hq, rfl⟩⟩, rfl⟩
      simp [zi_go, zf_X3_shownAt, zi_ask, zi_new, zi_step, zi_ld, zi_lda, zi_cmp, zi_retOk, zi_isI, zi_f3, zi_cr, zi_ci, zi_cn, g0, g3, h10, c1]
  obtain ⟨r, h', G, ⟨v, rfl, hv⟩, rfl⟩ := key
  refine ⟨v, ze_in [(0, .ref (T + 1)), (1, .int x), (2, .int y)] zq_Tree_shownAt (Nat.le_of_ble_eq_true rfl) rfl (ze_S.end ⟨0, 2, fun F m hF => ?_⟩ G), hv⟩
  simp [zi_go, zf_X3_shownAt, zi_ask, zi_new, zi_step, zi_ld, zi_lda, zi_cmp, zi_retOk, zi_isI, zi_f3, zi_cr, zi_ci, zi_cn, zi_get, zi_set, nI_0]
set_option maxRecDepth 100000 in
theorem ze_at_v (D : Nat) (h : zJ μ row stk Rs ts) (w x y : Int32) : ∃ ν v, ze_E (D + 7) A_Desk_at [.ref 1, .int w, .int x, .int y] (zm_mk μ) (some (.int v)) (zm_mk ν) ∧ zJ_eqs μ ν ∧ zd_atv μ ν stk Rs ts w x y v := by
  have n4 : Int32.ofInt (-1000000001) = -1000000001 := by decide
  have n2 : Int32.ofInt (-1000000002) = -1000000002 := by decide
  rcases zd_rng w 3 (by decide) with ⟨s, hs, rfl⟩ | hout
  · obtain ⟨N1, E1⟩ := ze_isScreen_in (h := zm_mk μ) (D + 5) hs
    have A := zdZ_A hs
    by_cases c3 : μ (zdS s) 3 = 0
    · refine ⟨μ, -1000000002, ze_in [(0, .ref 1), (1, .int (nI s)), (2, .int x), (3, .int y)] zq_Desk_at (Nat.le_of_ble_eq_true rfl) rfl ⟨N1, 13, fun F n hF => ?_⟩, zJ_eqs.refl, Or.inr ⟨s, hs, rfl, Or.inl ⟨c3, rfl⟩⟩⟩
      simp [zi_go, zf_X5_at, zi_ask, zi_new, zi_step, zi_ld, zi_lda, zi_cmp, zi_retOk, zi_isI, zi_f3, zi_cr, zi_ci, zi_cn, zi_get, zi_set, zq_Desk_isScreen, E1 F (by omega), zd_g, zd_s hs, zdS_g hs, c3, n2]
    · by_cases q1 : x < 0
      · refine ⟨μ, -1000000001, ze_in [(0, .ref 1), (1, .int (nI s)), (2, .int x), (3, .int y)] zq_Desk_at (Nat.le_of_ble_eq_true rfl) rfl ⟨N1, 15, fun F n hF => ?_⟩, zJ_eqs.refl, Or.inr ⟨s, hs, rfl, Or.inr ⟨c3, Or.inl ⟨fun z => Int32.not_lt.mpr z.1 q1, rfl⟩⟩⟩⟩
        simp [zi_go, zf_X5_at, zi_ask, zi_new, zi_step, zi_ld, zi_lda, zi_cmp, zi_retOk, zi_isI, zi_f3, zi_cr, zi_ci, zi_cn, zi_get, zi_set, zq_Desk_isScreen, E1 F (by omega), zd_g, zd_s hs, zdS_g hs, c3, q1, n4]
      · by_cases q2 : μ (zdZ s) 0 ≤ x
        · refine ⟨μ, -1000000001, ze_in [(0, .ref 1), (1, .int (nI s)), (2, .int x), (3, .int y)] zq_Desk_at (Nat.le_of_ble_eq_true rfl) rfl ⟨N1, 21, fun F n hF => ?_⟩, zJ_eqs.refl, Or.inr ⟨s, hs, rfl, Or.inr ⟨c3, Or.inl ⟨fun z => Int32.not_le.mpr z.2.1 q2, rfl⟩⟩⟩⟩
          simp [zi_go, zf_X5_at, zi_ask, zi_new, zi_step, zi_ld, zi_lda, zi_cmp, zi_retOk, zi_isI, zi_f3, zi_cr, zi_ci, zi_cn, zi_get, zi_set, zq_Desk_isScreen, E1 F (by omega), zd_g, zd_s hs, zdS_g hs, c3, q1, zm_iald (k := 0) A zm_in0, zm_cl0, q2, n4]
        · by_cases q3 : y < 0
          · refine ⟨μ, -1000000001, ze_in [(0, .ref 1), (1, .int (nI s)), (2, .int x), (3, .int y)] zq_Desk_at (Nat.le_of_ble_eq_true rfl) rfl ⟨N1, 23, fun F n hF => ?_⟩, zJ_eqs.refl, Or.inr ⟨s, hs, rfl, Or.inr ⟨c3, Or.inl ⟨fun z => Int32.not_lt.mpr z.2.2.1 q3, rfl⟩⟩⟩⟩
            simp [zi_go, zf_X5_at, zi_ask, zi_new, zi_step, zi_ld, zi_lda, zi_cmp, zi_retOk, zi_isI, zi_f3, zi_cr, zi_ci, zi_cn, zi_get, zi_set, zq_Desk_isScreen, E1 F (by omega), zd_g, zd_s hs, zdS_g hs, c3, q1, zm_iald (k := 0) A zm_in0, zm_cl0, q2, q3, n4]
          · by_cases q4 : y < μ (zdZ s) 1
            · obtain ⟨hr1, hr2, hs1, hs2⟩ := zJ_rowL h
              have hl := hs1.1
              obtain ⟨N2, E2⟩ := ze_Row_sizeL (μ := μ) (D + 5) zd5_at hs1
              have cr := zr_c (μ := μ) zd5_at
              have S0 : ze_S (D + 6) 6 (some .int) zc_X5_at 0 [(0, .ref 1), (1, .int (nI s)), (2, .int x), (3, .int y)] [] (zm_mk μ) 70 [(4, .ref (zdS s + 1)), (0, .ref 1), (1, .int (nI s)), (2, .int x), (3, .int y)] [.int 1, .int (nI stk.length)] (zm_mk μ) := by
                refine ⟨N1 + N2, 31, fun F n hF => ?_⟩
                simp [zi_go, zf_X5_at, zi_ask, zi_new, zi_step, zi_ld, zi_lda, zi_cmp, zi_retOk, zi_isI, zi_f3, zi_cr, zi_ci, zi_cn, zi_get, zi_set, zq_Desk_isScreen, E1 F (by omega), zd_g, zd_s hs, zdS_g hs, c3, q1, zm_iald (k := 0) A zm_in0, zm_iald (k := 0) A zm_in1, zm_cl0, zm_cl1, q2, q3, q4, zq_Row_size, cr, E2 F (by omega)]
              have key : ∃ r h', ze_G (D + 6) 6 (some .int) zc_X5_at 73 [(5, .int (zl_dn stk.length 0)), (4, .ref (zdS s + 1)), (0, .ref 1), (1, .int (nI s)), (2, .int x), (3, .int y)] [] (zm_mk μ) r h' ∧ (∃ v ν, r = some (.int v) ∧ zm_mk ν = h' ∧ zJ_eqs μ ν ∧ (zl_topP (fun k => zd_cov μ k (zdZ s) (nI s) x y) stk v ∨ ((∀ i, i < stk.length → zd_cov μ (stk.getD i 0) (zdZ s) (nI s) x y = false) ∧ zd_laid ν s (Rs s) (ts s) ∧ zt_shv ν (zdT s) x y v))) := by
                refine ze_loop (Q := fun i L hp => i ≤ stk.length ∧ zi_nl L = true ∧ zi_get L 0 = some (.ref 1) ∧ zi_get L 1 = some (.int (nI s)) ∧ zi_get L 2 = some (.int x) ∧ zi_get L 3 = some (.int y) ∧ zi_get L 4 = some (.ref (zdS s + 1)) ∧ zi_get L 5 = some (.int (zl_dn stk.length i)) ∧ zm_mk μ = hp ∧ (∀ j, j < i → zd_cov μ (stk.getD (stk.length - 1 - j) 0) (zdZ s) (nI s) x y = false)) (R := fun r h' => ∃ v ν, r = some (.int v) ∧ zm_mk ν = h' ∧ zJ_eqs μ ν ∧ (zl_topP (fun k => zd_cov μ k (zdZ s) (nI s) x y) stk v ∨ ((∀ i, i < stk.length → zd_cov μ (stk.getD i 0) (zdZ s) (nI s) x y = false) ∧ zd_laid ν s (Rs s) (ts s) ∧ zt_shv ν (zdT s) x y v))) stk.length ?_ ?_ stk.length 0 _ _ (by omega) ⟨by omega, rfl, rfl, rfl, rfl, rfl, rfl, rfl, rfl, fun j hj => absurd hj (Nat.not_lt_zero _)⟩
                · rintro i L _ hi ⟨-, nl, g0, g1, g2, g3, g4, g5, rfl, hq⟩
                  have hkm : stk.getD (stk.length - 1 - i) 0 ∈ stk := zl_mem (by omega)
                  obtain ⟨N3, E3⟩ := ze_Row_getL (μ := μ) (i := stk.length - 1 - i) (D + 5) zd5_at hs1 (by omega)
                  have hd0 : zl_dn stk.length i = nI (stk.length - 1 - i) := if_pos hi
                  have hd1 : nI (stk.length - 1 - i) + -1 = zl_dn stk.length (i + 1) := by
                    have : ∀ n, n < 11 → ∀ i, i < n → nI (n - 1 - i) + -1 = zl_dn n (i + 1) := by decide
                    exact this _ (by omega) i hi
                  rw [hd0] at g5
                  generalize ek : stk.getD (stk.length - 1 - i) 0 = k at hkm E3
                  have hk := hs2 k hkm
                  obtain ⟨N4, E4⟩ := ze_coversPoint_v (μ := μ) (D + 1) hk A x y (nI s)
                  have c1 : ¬ nI (stk.length - 1 - i) < 0 := nI_pos (by omega)
                  have cw := zw_c (μ := μ) (zdW_at hk)
                  have om : Int32.ofInt (-1) = -1 := by decide
                  cases cv : zd_cov μ k (zdZ s) (nI s) x y with
                  | false =>
                    rw [cv, if_neg (by decide)] at E4
                    left
                    refine ⟨zi_set L 5 (.int (zl_dn stk.length (i + 1))), zm_mk μ, ⟨N3 + N4, 18, fun F m hF => ?_⟩, by omega, ?_, ?_, ?_, ?_, ?_, ?_, zi_get_set_eq, rfl, zl_lt_s (P := fun j => zd_cov μ (stk.getD (stk.length - 1 - j) 0) (zdZ s) (nI s) x y = false) hq (by rw [ek]; exact cv)⟩
                    · simp (maxDischargeDepth := 9) [zi_go, zf_X5_at, zi_ask, zi_new, zi_step, zi_ld, zi_lda, zi_cmp, zi_retOk, zi_isI, zi_f3, zi_cr, zi_ci, zi_cn, zi_get_ne, zi_nl_i, zi_nl_r, zi_get_set_eq, nl, g0, g1, g2, g3, g4, g5, c1, zd_g, zq_Row_get, cr, E3 F (by omega), zd_w hk, zdS_g hs, zq_Win_coversPoint, cw, E4 F (by omega), om, hd1, nI_1]
                    · simp (maxDischargeDepth := 9) [zi_get_ne, zi_nl_i, zi_nl_r, zi_get_set_eq, nl]
                    · simp (maxDischargeDepth := 9) [zi_get_ne, zi_nl_i, zi_nl_r, zi_get_set_eq, nl, g0]
                    · simp (maxDischargeDepth := 9) [zi_get_ne, zi_nl_i, zi_nl_r, zi_get_set_eq, nl, g1]
                    · simp (maxDischargeDepth := 9) [zi_get_ne, zi_nl_i, zi_nl_r, zi_get_set_eq, nl, g2]
                    · simp (maxDischargeDepth := 9) [zi_get_ne, zi_nl_i, zi_nl_r, zi_get_set_eq, nl, g3]
                    · simp (maxDischargeDepth := 9) [zi_get_ne, zi_nl_i, zi_nl_r, zi_get_set_eq, nl, g4]
                  | true =>
                    rw [cv, if_pos rfl] at E4
                    have htop : zl_topP (fun k => zd_cov μ k (zdZ s) (nI s) x y) stk (nI k) := by
                      refine ⟨stk.length - 1 - i, by omega, by rw [ek]; exact cv, fun i' h1 h2 => ?_, by rw [ek]⟩
                      have := hq (stk.length - 1 - i') (by omega)
                      rw [show stk.length - 1 - (stk.length - 1 - i') = i' by omega] at this
                      exact this
                    right
                    refine ⟨some (.int (nI k)), zm_mk μ, ⟨N3 + N4, 21, fun F m hF => ?_⟩, ⟨nI k, μ, rfl, rfl, zJ_eqs.refl, Or.inl htop⟩⟩
                    simp (maxDischargeDepth := 9) [zi_go, zf_X5_at, zi_ask, zi_new, zi_step, zi_ld, zi_lda, zi_cmp, zi_retOk, zi_isI, zi_f3, zi_cr, zi_ci, zi_cn, zi_get_ne, zi_nl_i, zi_nl_r, zi_get_set_eq, nl, g0, g1, g2, g3, g4, g5, c1, zd_g, zq_Row_get, cr, E3 F (by omega), zd_w hk, zdS_g hs, zq_Win_coversPoint, cw, E4 F (by omega), nI_1]
                · rintro L _ ⟨-, nl, g0, g1, g2, g3, g4, g5, rfl, hq⟩
                  have hd0 : zl_dn stk.length stk.length = -1 := if_neg (by omega)
                  rw [hd0] at g5
                  have hall : ∀ i, i < stk.length → zd_cov μ (stk.getD i 0) (zdZ s) (nI s) x y = false := fun i hi => by
                    have := hq (stk.length - 1 - i) (by omega)
                    rw [show stk.length - 1 - (stk.length - 1 - i) = i by omega] at this
                    exact this
                  obtain ⟨ν, ⟨N4, E4⟩, f4, hlaid⟩ := ze_layTrees (μ := μ) D (fun s hs => (h.2.2.2.1 s hs).1)
                  have hev := zd_frA_eqs f4
                  have hJ := h.eqv hev.v
                  obtain ⟨v, ⟨N5, E5⟩, hv⟩ := ze_shownAt_v (μ := ν) (D + 1) (zdT_at hs) (zt_I_hm (hJ.2.2.2.1 s hs).1.1) x y
                  obtain ⟨lt, ct⟩ := zt_c (μ := ν) (zdT_at hs)
                  have c1 : (-1 : Int32) < 0 := by decide
                  refine ⟨some (.int v), zm_mk ν, ⟨N4 + N5, 10, fun F m hF => ?_⟩, v, ν, rfl, rfl, hev, Or.inr ⟨hall, hlaid s hs, hv⟩⟩
                  simp [zi_go, zf_X5_at, zi_ask, zi_new, zi_step, zi_ld, zi_lda, zi_cmp, zi_retOk, zi_isI, zi_f3, zi_cr, zi_ci, zi_cn, g0, g2, g3, g4, g5, c1, zdS_g hs, zq_Desk_layTrees, zd_c, E4 F (by omega), zq_Tree_shownAt, ct, E5 F (by omega)]
              obtain ⟨r, h', G, v, ν, rfl, rfl, hev, hans⟩ := key
              refine ⟨ν, v, ze_in [(0, .ref 1), (1, .int (nI s)), (2, .int x), (3, .int y)] zq_Desk_at (Nat.le_of_ble_eq_true rfl) rfl ((S0.trans (ze_at_1 (D + 6) hl _ _)).end (ze_S.end (p2 := 73) (s2 := []) (h2 := zm_mk μ) ⟨0, 1, fun F m hF => ?_⟩ G)), hev, Or.inr ⟨s, hs, rfl, Or.inr ⟨c3, Or.inr ⟨⟨Int32.not_lt.mp q1, Int32.not_le.mp q2, Int32.not_lt.mp q3, q4⟩, hans⟩⟩⟩⟩
              simp [zi_go, zf_X5_at, zi_ask, zi_new, zi_step, zi_ld, zi_lda, zi_cmp, zi_retOk, zi_isI, zi_f3, zi_cr, zi_ci, zi_cn, zi_get, zi_set]
            · refine ⟨μ, -1000000001, ze_in [(0, .ref 1), (1, .int (nI s)), (2, .int x), (3, .int y)] zq_Desk_at (Nat.le_of_ble_eq_true rfl) rfl ⟨N1, 29, fun F n hF => ?_⟩, zJ_eqs.refl, Or.inr ⟨s, hs, rfl, Or.inr ⟨c3, Or.inl ⟨fun z => q4 z.2.2.2, rfl⟩⟩⟩⟩
              simp [zi_go, zf_X5_at, zi_ask, zi_new, zi_step, zi_ld, zi_lda, zi_cmp, zi_retOk, zi_isI, zi_f3, zi_cr, zi_ci, zi_cn, zi_get, zi_set, zq_Desk_isScreen, E1 F (by omega), zd_g, zd_s hs, zdS_g hs, c3, q1, zm_iald (k := 0) A zm_in0, zm_iald (k := 0) A zm_in1, zm_cl0, zm_cl1, q2, q3, q4, n4]
  · obtain ⟨N1, E1⟩ := ze_isScreen_out (h := zm_mk μ) (D + 5) hout
    refine ⟨μ, -1000000001, ze_in [(0, .ref 1), (1, .int w), (2, .int x), (3, .int y)] zq_Desk_at (Nat.le_of_ble_eq_true rfl) rfl ⟨N1, 5, fun F n hF => ?_⟩, zJ_eqs.refl, Or.inl ⟨fun ⟨s, hs, e⟩ => ?_, rfl⟩⟩
    rotate_left
    · rw [e] at hout
      rcases hout with c | c
      · exact nI_pos (by omega) c
      · exact nI_ge (b := 3) hs (by decide) c
    simp [zi_go, zf_X5_at, zi_ask, zi_new, zi_step, zi_ld, zi_lda, zi_cmp, zi_retOk, zi_isI, zi_f3, zi_cr, zi_ci, zi_cn, zi_get, zi_set, zq_Desk_isScreen, E1 F (by omega), n4]
end ZXL
