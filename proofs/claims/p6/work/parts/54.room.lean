/-! the desk: room for a new window -/
set_option maxRecDepth 100000 in
theorem ze_fd_3 (q x y : Int32) (h : zi_Hp) (D : Nat) : ze_G D 3 (some .int) zc_J9_floorDiv_7cf53 17 [(2, .int q), (0, .int x), (1, .int y)] [] h (some (.int (q - 1))) h := by
  refine ⟨0, 4, fun F n hF => ?_⟩
  simp [zg_0, zg_iconst, zg_idiv, zg_ifCond, zg_if_icmp, zg_iload_n, zg_imul, zg_ireturn, zg_istore_n, zg_isub, zg_ixor, zf_J9_floorDiv_7cf53, zi_ld, zi_lda, zi_cmp, zi_retOk, zi_isI, zi_f3, zi_cr, zi_ci, zi_cn, zi_get, zi_set]
section ZM1
variable {μ : zm_M} {row stk : List Nat} {R : List Nat} {t : zy_F}
set_option maxRecDepth 100000 in
theorem ze_floorDiv {h : zi_Hp} (D : Nat) (x : Int32) : ∃ v, ze_E (D + 1) A_Math_floorDiv [.int x, .int 2] h (some (.int v)) h := by
  have z : ¬ (2 : Int32) = 0 := by decide
  by_cases c1 : (0 : Int32) ≤ x ^^^ 2
  · refine ⟨x / 2, ze_in [(0, .int x), (1, .int 2)] zq_Math_floorDiv (Nat.le_of_ble_eq_true rfl) rfl ⟨0, 10, fun F n hF => ?_⟩⟩
    simp [zg_0, zg_iconst, zg_idiv, zg_ifCond, zg_if_icmp, zg_iload_n, zg_imul, zg_ireturn, zg_istore_n, zg_isub, zg_ixor, zf_J9_floorDiv_7cf53, zi_ld, zi_lda, zi_cmp, zi_retOk, zi_isI, zi_f3, zi_cr, zi_ci, zi_cn, zi_get, zi_set, z, c1]
  · by_cases c2 : x / 2 * 2 = x
    · refine ⟨x / 2, ze_in [(0, .int x), (1, .int 2)] zq_Math_floorDiv (Nat.le_of_ble_eq_true rfl) rfl ⟨0, 15, fun F n hF => ?_⟩⟩
      simp [zg_0, zg_iconst, zg_idiv, zg_ifCond, zg_if_icmp, zg_iload_n, zg_imul, zg_ireturn, zg_istore_n, zg_isub, zg_ixor, zf_J9_floorDiv_7cf53, zi_ld, zi_lda, zi_cmp, zi_retOk, zi_isI, zi_f3, zi_cr, zi_ci, zi_cn, zi_get, zi_set, z, c1, c2]
    · refine ⟨x / 2 - 1, ze_in [(0, .int x), (1, .int 2)] zq_Math_floorDiv (Nat.le_of_ble_eq_true rfl) rfl (ze_S.end (p2 := 17) (L2 := [(2, .int (x / 2)), (0, .int x), (1, .int 2)]) (s2 := []) (h2 := h) ⟨0, 13, fun F n hF => ?_⟩ (ze_fd_3 (x / 2) x 2 h D))⟩
      simp [zg_0, zg_iconst, zg_idiv, zg_ifCond, zg_if_icmp, zg_iload_n, zg_imul, zg_ireturn, zg_istore_n, zg_isub, zg_ixor, zf_J9_floorDiv_7cf53, zi_ld, zi_lda, zi_cmp, zi_retOk, zi_isI, zi_f3, zi_cr, zi_ci, zi_cn, zi_get, zi_set, z, c1, c2]
/-- the screen of a tiled window is known -/
def zd_scr (μ : zm_M) (k : Nat) : Prop := zd_til μ k = true → ∃ s R t, s < 3 ∧ μ (zdW k) 5 = nI s ∧ zt_I μ (zdT s) R t
set_option maxRecDepth 100000 in
theorem ze_startOf (D : Nat) {k a : Nat} (hk : k < 10) (ha : a < 2) (hs : zd_scr μ k) : ∃ v, ze_E (D + 3) A_Desk_startOf [.ref 1, .int (nI k), .int (nI a)] (zm_mk μ) (some (.int v)) (zm_mk μ) := by
  obtain ⟨N1, E1⟩ := ze_tilW (μ := μ) (D + 1) hk
  have cw := zw_c (μ := μ) (zdW_at hk)
  by_cases c : zd_til μ k = true
  · rw [if_pos c] at E1
    obtain ⟨s, R, t, hs3, h1, h2⟩ := hs c
    obtain ⟨N2, E2⟩ := ze_treeOf (μ := μ) (D + 1) hk hs3 h1
    obtain ⟨N3, E3⟩ := ze_Tree_startOf (μ := μ) D (zdT_at hs3) (zt_I_hm h2) hk ha
    obtain ⟨lt, ct⟩ := zt_c (μ := μ) (zdT_at hs3)
    refine ⟨zt_so μ (zdT s) a k, ze_in [(0, .ref 1), (1, .int (nI k)), (2, .int (nI a))] zq_Desk_startOf (Nat.le_of_ble_eq_true rfl) rfl ⟨N1 + N2 + N3, 14, fun F n hF => ?_⟩⟩
    simp [zg_0, zg_aaload, zg_aload_n, zg_getfield, zg_goto, zg_iaload, zg_ifCond, zg_iload_n, zg_invokevirtual, zg_ireturn, zf_X5_startOf, zi_ld, zi_lda, zi_cmp, zi_retOk, zi_isI, zi_f3, zi_cr, zi_ci, zi_cn, zi_get, zi_set, zd_g, zd_w hk, zq_Win_isTiled, cw, E1 F (by omega), zq_Desk_treeOf, zd_c, E2 F (by omega), zq_Tree_startOf, ct, E3 F (by omega)]
  · rw [if_neg c] at E1
    have ia : zi_in (nI a) 2 = true := zm_in ha (by decide)
    refine ⟨μ (zdW k + 2) a, ze_in [(0, .ref 1), (1, .int (nI k)), (2, .int (nI a))] zq_Desk_startOf (Nat.le_of_ble_eq_true rfl) rfl ⟨N1, 14, fun F n hF => ?_⟩⟩
    simp [zg_0, zg_aaload, zg_aload_n, zg_getfield, zg_goto, zg_iaload, zg_ifCond, zg_iload_n, zg_invokevirtual, zg_ireturn, zf_X5_startOf, zi_ld, zi_lda, zi_cmp, zi_retOk, zi_isI, zi_f3, zi_cr, zi_ci, zi_cn, zi_get, zi_set, zd_g, zd_w hk, zq_Win_isTiled, cw, E1 F (by omega), zw_g (zdW_at hk), zm_iald (k := 0) (zdW_at hk).2.2 ia, nI_clamp (show a < 2 ^ 31 by omega)]
set_option maxRecDepth 100000 in
theorem ze_lengthOf (D : Nat) {k a : Nat} (hk : k < 10) (ha : a < 2) (hs : zd_scr μ k) : ∃ v, ze_E (D + 3) A_Desk_lengthOf [.ref 1, .int (nI k), .int (nI a)] (zm_mk μ) (some (.int v)) (zm_mk μ) := by
  obtain ⟨N1, E1⟩ := ze_tilW (μ := μ) (D + 1) hk
  have cw := zw_c (μ := μ) (zdW_at hk)
  by_cases c : zd_til μ k = true
  · rw [if_pos c] at E1
    obtain ⟨s, R, t, hs3, h1, h2⟩ := hs c
    obtain ⟨N2, E2⟩ := ze_treeOf (μ := μ) (D + 1) hk hs3 h1
    obtain ⟨N3, E3⟩ := ze_Tree_lengthOf (μ := μ) D (zdT_at hs3) (zt_I_hm h2) hk ha
    obtain ⟨lt, ct⟩ := zt_c (μ := μ) (zdT_at hs3)
    refine ⟨zt_lo μ (zdT s) a k, ze_in [(0, .ref 1), (1, .int (nI k)), (2, .int (nI a))] zq_Desk_lengthOf (Nat.le_of_ble_eq_true rfl) rfl ⟨N1 + N2 + N3, 14, fun F n hF => ?_⟩⟩
    simp [zg_0, zg_aaload, zg_aload_n, zg_getfield, zg_goto, zg_iaload, zg_ifCond, zg_iload_n, zg_invokevirtual, zg_ireturn, zf_X5_lengthOf, zi_ld, zi_lda, zi_cmp, zi_retOk, zi_isI, zi_f3, zi_cr, zi_ci, zi_cn, zi_get, zi_set, zd_g, zd_w hk, zq_Win_isTiled, cw, E1 F (by omega), zq_Desk_treeOf, zd_c, E2 F (by omega), zq_Tree_lengthOf, ct, E3 F (by omega)]
  · rw [if_neg c] at E1
    have ia : zi_in (nI a) 2 = true := zm_in ha (by decide)
    refine ⟨μ (zdW k + 1) a, ze_in [(0, .ref 1), (1, .int (nI k)), (2, .int (nI a))] zq_Desk_lengthOf (Nat.le_of_ble_eq_true rfl) rfl ⟨N1, 14, fun F n hF => ?_⟩⟩
    simp [zg_0, zg_aaload, zg_aload_n, zg_getfield, zg_goto, zg_iaload, zg_ifCond, zg_iload_n, zg_invokevirtual, zg_ireturn, zf_X5_lengthOf, zi_ld, zi_lda, zi_cmp, zi_retOk, zi_isI, zi_f3, zi_cr, zi_ci, zi_cn, zi_get, zi_set, zd_g, zd_w hk, zq_Win_isTiled, cw, E1 F (by omega), zw_g (zdW_at hk), zm_iald (k := 0) (zdW_at hk).2.1 ia, nI_clamp (show a < 2 ^ 31 by omega)]
set_option maxRecDepth 100000 in
theorem ze_mid_1 (x y : Int32) (L : zi_Lc) (st : List Value) (h : zi_Hp) (D : Nat) : ∃ v, ze_S D 4 (some .int) zc_X5_middleOf 15 L (.int y :: .int x :: st) h 16 L (.int v :: st) h := by
  refine ⟨x - y, 0, 1, fun F n hF => ?_⟩
  simp only [zi_go, zf_X5_middleOf, zi_ask, zi_new, zi_step]
set_option maxRecDepth 100000 in
theorem ze_middleOf (D : Nat) {k o a : Nat} (hk : k < 10) (ho : o < 10) (ha : a < 2) (eo : μ (zdW k) 4 = nI o) (hs : zd_scr μ o) : ∃ v, ze_E (D + 4) A_Desk_middleOf [.ref 1, .ref (zdW k + 1), .int (nI a)] (zm_mk μ) (some (.int v)) (zm_mk μ) := by
  obtain ⟨v1, N1, E1⟩ := ze_lengthOf (μ := μ) D ho ha hs
  obtain ⟨v2, N2, E2⟩ := ze_startOf (μ := μ) D ho ha hs
  have ia : zi_in (nI a) 2 = true := zm_in ha (by decide)
  have ca : (nI a).toNatClampNeg = a := nI_clamp (by omega)
  obtain ⟨v3, S2⟩ := ze_mid_1 v1 (μ (zdW k + 1) a) [(0, .ref 1), (1, .ref (zdW k + 1)), (2, .int (nI a))] [] (zm_mk μ) (D + 3)
  obtain ⟨v4, N4, E4⟩ := ze_floorDiv (h := zm_mk μ) (D + 2) v3
  refine ⟨v2 + v4, ze_in [(0, .ref 1), (1, .ref (zdW k + 1)), (2, .int (nI a))] zq_Desk_middleOf (Nat.le_of_ble_eq_true rfl) rfl (ze_S.end (ze_S.trans (p2 := 15) (L2 := [(0, .ref 1), (1, .ref (zdW k + 1)), (2, .int (nI a))]) (s2 := [.int (μ (zdW k + 1) a), .int v1]) (h2 := zm_mk μ) ⟨N1, 9, fun F n hF => ?_⟩ S2) ⟨N2 + N4, 11, fun F n hF => ?_⟩)⟩
  · simp [zg_0, zg_aload_n, zg_getfield, zg_iadd, zg_iaload, zg_iconst, zg_iload_n, zg_invokestatic, zg_invokevirtual, zg_ireturn, zg_istore_n, zg_isub, zf_X5_middleOf, zi_ld, zi_lda, zi_cmp, zi_retOk, zi_isI, zi_f3, zi_cr, zi_ci, zi_cn, zi_get, zi_set, zw_g (zdW_at hk), eo, zq_Desk_lengthOf, zd_c, E1 F (by omega), zm_iald (k := 0) (zdW_at hk).2.1 ia, ca]
  · simp [zg_0, zg_aload_n, zg_getfield, zg_iadd, zg_iaload, zg_iconst, zg_iload_n, zg_invokestatic, zg_invokevirtual, zg_ireturn, zg_istore_n, zg_isub, zf_X5_middleOf, zi_ld, zi_lda, zi_cmp, zi_retOk, zi_isI, zi_f3, zi_cr, zi_ci, zi_cn, zi_get, zi_set, zw_g (zdW_at hk), eo, zq_Desk_startOf, zd_c, E2 F (by omega), zq_Math_floorDiv, E4 F (by omega)]
set_option maxRecDepth 100000 in
/-- findRoom of a tiled window -/
theorem ze_findRoom_1 (D : Nat) {k s : Nat} (hk : k < 10) (hs : s < 3) (hkd : μ (zdW k) 3 = 1) {ν : zm_M} {b : Int32} (hb : b = 0 ∨ b = 1) (ht : ze_E D A_Desk_tile [.ref 1, .int (nI k), .ref (zdS s + 1)] (zm_mk (zm_up μ (zdW k) 5 (nI s))) (some (.int b)) (zm_mk ν)) :
    ze_E (D + 1) A_Desk_findRoom [.ref 1, .int (nI k), .int (nI s)] (zm_mk μ) (some (.int b)) (zm_mk ν) := by
  obtain ⟨N1, E1⟩ := ht
  refine ze_in [(0, .ref 1), (1, .int (nI k)), (2, .int (nI s))] zq_Desk_findRoom (Nat.le_of_ble_eq_true rfl) rfl ⟨N1, 20, fun F n hF => ?_⟩
  rcases hb with rfl | rfl <;> simp [zg_0, zg_aaload, zg_aload_n, zg_astore_n, zg_bipush, zg_getfield, zg_goto, zg_iastore, zg_iconst, zg_ifCond, zg_if_icmp, zg_iload, zg_iload_n, zg_imul, zg_invokevirtual, zg_ireturn, zg_istore, zg_putfield, zf_X5_findRoom, zi_ld, zi_lda, zi_cmp, zi_retOk, zi_isI, zi_f3, zi_cr, zi_ci, zi_cn, zi_get, zi_set, zd_g, zd_w hk, zw_g (zdW_at hk), hkd, zw_p5 (zdW_at hk), zd_s hs, zq_Desk_tile, zd_c, E1 F (by omega)]
set_option maxRecDepth 100000 in
theorem ze_findRoom_4 (D : Nat) {k : Nat} (hk : k < 10) (s : Int32) (hkd : μ (zdW k) 3 = 4) : ∃ ν, ze_E (D + 1) A_Desk_findRoom [.ref 1, .int (nI k), .int s] (zm_mk μ) (some (.int 1)) (zm_mk ν) ∧ ∀ c, c ≠ zdW k + 2 → ν c = μ c := by
  have h10 : (Int8.ofInt 10).toInt32 = (10 : Int32) := by decide
  have c1 : ¬ (4 : Int32) = 1 := by decide
  refine ⟨zm_up (zm_up μ (zdW k + 2) 0 (10 * nI k)) (zdW k + 2) 1 (10 * nI k), ze_in [(0, .ref 1), (1, .int (nI k)), (2, .int s)] zq_Desk_findRoom (Nat.le_of_ble_eq_true rfl) rfl ⟨0, 29, fun F n hF => ?_⟩, fun c hc => by rw [zm_up_row hc, zm_up_row hc]⟩
  have w2 := (zdW_at hk).2.2
  generalize hm : 10 * nI k = m
  simp [zg_0, zg_aaload, zg_aload_n, zg_astore_n, zg_bipush, zg_getfield, zg_goto, zg_iastore, zg_iconst, zg_ifCond, zg_if_icmp, zg_iload, zg_iload_n, zg_imul, zg_invokevirtual, zg_ireturn, zg_istore, zg_putfield, zf_X5_findRoom, zi_ld, zi_lda, zi_cmp, zi_retOk, zi_isI, zi_f3, zi_cr, zi_ci, zi_cn, zi_get, zi_set, zd_g, zd_w hk, zw_g (zdW_at hk), hkd, c1, h10, hm, zm_iast w2 zm_in0, zm_iast w2 zm_in1, zm_cl0, zm_cl1]
set_option maxRecDepth 100000 in
theorem ze_findRoom_no (D : Nat) {k s : Nat} (hk : k < 10) (hs : s < 3) (h1 : ¬ μ (zdW k) 3 = 1) (h4 : ¬ μ (zdW k) 3 = 4) (hw : zd_whole μ (zdZ s) k = false) : ze_E (D + 2) A_Desk_findRoom [.ref 1, .int (nI k), .int (nI s)] (zm_mk μ) (some (.int 0)) (zm_mk μ) := by
  obtain ⟨N1, E1⟩ := ze_wholeW (μ := μ) D hk (zdZ_A hs)
  rw [hw, if_neg (by decide)] at E1
  have cw := zw_c (μ := μ) (zdW_at hk)
  refine ze_in [(0, .ref 1), (1, .int (nI k)), (2, .int (nI s))] zq_Desk_findRoom (Nat.le_of_ble_eq_true rfl) rfl ⟨N1, 23, fun F n hF => ?_⟩
  simp [zg_0, zg_aaload, zg_aload_n, zg_astore_n, zg_bipush, zg_getfield, zg_goto, zg_iastore, zg_iconst, zg_ifCond, zg_if_icmp, zg_iload, zg_iload_n, zg_imul, zg_invokevirtual, zg_ireturn, zg_istore, zg_putfield, zf_X5_findRoom, zi_ld, zi_lda, zi_cmp, zi_retOk, zi_isI, zi_f3, zi_cr, zi_ci, zi_cn, zi_get, zi_set, zd_g, zd_w hk, zw_g (zdW_at hk), h1, h4, zd_s hs, zdS_g hs, zq_Win_canBeWhole, cw, E1 F (by omega)]
set_option maxRecDepth 100000 in
/-- findRoom of one that floats, or of a dialog -/
theorem ze_findRoom_23 (D : Nat) {k s : Nat} (hk : k < 10) (hs : s < 3) (h1 : ¬ μ (zdW k) 3 = 1) (h4 : ¬ μ (zdW k) 3 = 4) (hw : zd_whole μ (zdZ s) k = true) (ho : μ (zdW k) 3 = 3 → ∃ o, o < 10 ∧ o ≠ k ∧ μ (zdW k) 4 = nI o ∧ zd_scr μ o) :
    ∃ ν, ze_E (D + 5) A_Desk_findRoom [.ref 1, .int (nI k), .int (nI s)] (zm_mk μ) (some (.int 1)) (zm_mk ν) ∧ ν (zdW k) 5 = nI s ∧ ∀ c b, ¬ (c = zdW k ∧ b = 5) → c ≠ zdW k + 2 → ν c b = μ c b := by
  have h10 : (Int8.ofInt 10).toInt32 = (10 : Int32) := by decide
  obtain ⟨N1, E1⟩ := ze_wholeW (μ := μ) (D + 3) hk (zdZ_A hs)
  rw [hw, if_pos rfl] at E1
  have cw := zw_c (μ := μ) (zdW_at hk)
  let μ1 := zm_up μ (zdW k) 5 (nI s)
  have cw1 := zw_c (μ := μ1) (zdW_at hk)
  have e3 : μ1 (zdW k) 3 = μ (zdW k) 3 := zm_up_ne (by omega)
  have e4 : μ1 (zdW k) 4 = μ (zdW k) 4 := zm_up_ne (by omega)
  have S1 : ze_S (D + 4) 6 (some .boolean) zc_X5_findRoom 0 [(0, .ref 1), (1, .int (nI k)), (2, .int (nI s))] [] (zm_mk μ) 85 [(3, .ref (zdW k + 1)), (0, .ref 1), (1, .int (nI k)), (2, .int (nI s))] [] (zm_mk μ1) := by
    refine ⟨N1, 24, fun F n hF => ?_⟩
    have m1 : zm_up μ (zdW k) 5 (nI s) = μ1 := rfl
    simp [zg_0, zg_aaload, zg_aload_n, zg_astore_n, zg_bipush, zg_getfield, zg_goto, zg_iastore, zg_iconst, zg_ifCond, zg_if_icmp, zg_iload, zg_iload_n, zg_imul, zg_invokevirtual, zg_ireturn, zg_istore, zg_putfield, zf_X5_findRoom, zi_ld, zi_lda, zi_cmp, zi_retOk, zi_isI, zi_f3, zi_cr, zi_ci, zi_cn, zi_get, zi_set, zd_g, zd_w hk, zw_g (zdW_at hk), h1, h4, zd_s hs, zdS_g hs, zq_Win_canBeWhole, cw, E1 F (by omega), zw_p5 (zdW_at hk), m1]
  have S2 : ∃ x y : Int32, ze_S (D + 4) 6 (some .boolean) zc_X5_findRoom 85 [(3, .ref (zdW k + 1)), (0, .ref 1), (1, .int (nI k)), (2, .int (nI s))] [] (zm_mk μ1) 131 [(5, .int y), (4, .int x), (3, .ref (zdW k + 1)), (0, .ref 1), (1, .int (nI k)), (2, .int (nI s))] [] (zm_mk μ1) := by
    by_cases c3 : μ (zdW k) 3 = 3
    · obtain ⟨o, ho1, ho2, ho3, ho4⟩ := ho c3
      have hsc : zd_scr μ1 o := by
        intro ht
        have ew : μ1 (zdW o) = μ (zdW o) := zm_up_row (fun e => ho2 (zdW_inj e))
        have ht' : zd_til μ o = true := by
          unfold zd_til at *
          rw [ew] at ht
          exact ht
        obtain ⟨q, R, t, q1, q2, q3⟩ := ho4 ht'
        refine ⟨q, R, t, q1, by rw [ew]; exact q2, ?_⟩
        have r : ∀ j, μ1 (zdT q + j) = μ (zdT q + j) := fun j => zm_up_row (by unfold zdT zdW; omega)
        exact zt_same.I ⟨r _, r _, r _, r _, r _, r _, r _, r _, r _, r _, r _, by rw [show μ1 (zdT q) = μ (zdT q) from r 0]⟩ q3
      obtain ⟨x, N2, E2⟩ := ze_middleOf (μ := μ1) D hk ho1 (a := 0) (by decide) (by rw [e4]; exact ho3) hsc
      obtain ⟨y, N3, E3⟩ := ze_middleOf (μ := μ1) D hk ho1 (a := 1) (by decide) (by rw [e4]; exact ho3) hsc
      refine ⟨x, y, N2 + N3, 20, fun F n hF => ?_⟩
      have E2 := E2 F (by omega)
      have E3 := E3 F (by omega)
      rw [nI_0] at E2
      rw [show nI 1 = 1 by decide] at E3
      simp [zg_0, zg_aaload, zg_aload_n, zg_astore_n, zg_bipush, zg_getfield, zg_goto, zg_iastore, zg_iconst, zg_ifCond, zg_if_icmp, zg_iload, zg_iload_n, zg_imul, zg_invokevirtual, zg_ireturn, zg_istore, zg_putfield, zf_X5_findRoom, zi_ld, zi_lda, zi_cmp, zi_retOk, zi_isI, zi_f3, zi_cr, zi_ci, zi_cn, zi_get, zi_set, zw_g (zdW_at hk), e3, c3, zq_Desk_middleOf, zd_c, E2, E3]
    · generalize hm : 10 * nI k = m
      refine ⟨m, m, 0, 16, fun F n hF => ?_⟩
      simp [zg_0, zg_aaload, zg_aload_n, zg_astore_n, zg_bipush, zg_getfield, zg_goto, zg_iastore, zg_iconst, zg_ifCond, zg_if_icmp, zg_iload, zg_iload_n, zg_imul, zg_invokevirtual, zg_ireturn, zg_istore, zg_putfield, zf_X5_findRoom, zi_ld, zi_lda, zi_cmp, zi_retOk, zi_isI, zi_f3, zi_cr, zi_ci, zi_cn, zi_get, zi_set, zw_g (zdW_at hk), e3, c3, h10, hm]
  obtain ⟨x, y, S2⟩ := S2
  obtain ⟨N4, E4⟩ := ze_putAt (μ := μ1) D (zdW_at hk) (zdZ_A hs) (by unfold zdZ zdW; omega) x y
  refine ⟨zw_put μ1 (zdW k) (zdZ s) x y, ze_in [(0, .ref 1), (1, .int (nI k)), (2, .int (nI s))] zq_Desk_findRoom (Nat.le_of_ble_eq_true rfl) rfl ((S1.trans S2).end ⟨N4, 11, fun F n hF => ?_⟩), ?_, fun c b q1 q2 => ?_⟩
  · simp [zg_0, zg_aaload, zg_aload_n, zg_astore_n, zg_bipush, zg_getfield, zg_goto, zg_iastore, zg_iconst, zg_ifCond, zg_if_icmp, zg_iload, zg_iload_n, zg_imul, zg_invokevirtual, zg_ireturn, zg_istore, zg_putfield, zf_X5_findRoom, zi_ld, zi_lda, zi_cmp, zi_retOk, zi_isI, zi_f3, zi_cr, zi_ci, zi_cn, zi_get, zi_set, zd_g, zd_s hs, zdS_g hs, zq_Win_putAt, cw1, E4 F (by omega)]
  · unfold zw_put
    rw [zm_up_ne (by omega), zm_up_ne (by omega)]
    exact zm_up_eq
  · unfold zw_put
    rw [zm_up_row q2, zm_up_row q2]
    exact zm_up_ne q1
end ZM1
