/-! the desk: one taken back; a drag tried -/
section ZB1
variable {μ : zm_M} {row stk : List Nat} {R : List Nat} {t : zy_F}
set_option maxRecDepth 100000 in
/-- takeBack of a tiled window -/
theorem ze_takeBack_1 (D : Nat) {k s n q : Nat} (hk : k < 10) (hs : s < 3) (ht : zd_til μ k = true) (h1 : μ (zdW k) 5 = nI s) (hI : zt_I μ (zdT s) R t) (hn : n ∈ zy_lvs t) (hkR : k ∈ R) (hkn : μ (zdT s + 3) k = nI n) :
    ∃ ν, ze_E (D + 5) A_Desk_takeBack [.ref 1, .int (nI k), .ref (zdK q + 1)] (zm_mk μ) none (zm_mk ν) ∧ zt_isOut μ (zdT s) R t n k ν (zdT s) ∧ zt_frT (zdT s) μ ν := by
  obtain ⟨N2, E2⟩ := ze_tilW (μ := μ) (D + 3) hk
  rw [if_pos ht] at E2
  obtain ⟨N3, E3⟩ := ze_treeOf (μ := μ) (D + 3) hk hs h1
  obtain ⟨ν, ⟨N4, E4⟩, O, f⟩ := ze_takeOutI (μ := μ) (Q := zdT s) D (zdT_at hs) hI zt_isCopy.refl hn hkR hkn
  have cw := zw_c (μ := μ) (zdW_at hk)
  obtain ⟨lt, ct⟩ := zt_c (μ := μ) (zdT_at hs)
  refine ⟨ν, ze_in [(0, .ref 1), (1, .int (nI k)), (2, .ref (zdK q + 1))] zq_Desk_takeBack (Nat.le_of_ble_eq_true rfl) rfl ⟨N2 + N3 + N4, 13, fun F m hF => ?_⟩, O, f⟩
  simp [zg_0, zg_aaload, zg_aload_n, zg_getfield, zg_goto, zg_iaload, zg_iastore, zg_iconst, zg_ifCond, zg_iload_n, zg_invokevirtual, zg_return, zf_X5_takeBack, zi_ld, zi_lda, zi_cmp, zi_retOk, zi_isI, zi_f3, zi_cr, zi_ci, zi_cn, zi_get, zi_set, zd_g, zd_w hk, zq_Win_isTiled, cw, E2 F (by omega), zq_Desk_treeOf, zd_c, E3 F (by omega), zq_Tree_takeOut, ct, E4 F (by omega)]
set_option maxRecDepth 100000 in
/-- takeBack of another one -/
theorem ze_takeBack_2 (D : Nat) {k q : Nat} (hk : k < 10) (hq : q < 3) (ht : zd_til μ k = false) :
    ∃ ν, ze_E (D + 2) A_Desk_takeBack [.ref 1, .int (nI k), .ref (zdK q + 1)] (zm_mk μ) none (zm_mk ν) ∧ ∀ c, c ≠ zdW k + 2 → ν c = μ c := by
  obtain ⟨N2, E2⟩ := ze_tilW (μ := μ) D hk
  rw [ht, if_neg (by decide)] at E2
  have cw := zw_c (μ := μ) (zdW_at hk)
  obtain ⟨p0, p1, p2, p3⟩ := zdP_h hq
  have w2 := (zdW_at hk).2.2
  have ik : zi_in (nI k) 10 = true := zm_in hk (by decide)
  have ck : (nI k).toNatClampNeg = k := nI_clamp (by omega)
  refine ⟨zm_up (zm_up μ (zdW k + 2) 0 (μ (zdP q + 1) k)) (zdW k + 2) 1 (zm_up μ (zdW k + 2) 0 (μ (zdP q + 1) k) (zdP q + 2) k), ze_in [(0, .ref 1), (1, .int (nI k)), (2, .ref (zdK q + 1))] zq_Desk_takeBack (Nat.le_of_ble_eq_true rfl) rfl ⟨N2, 33, fun F m hF => ?_⟩, fun c hc => by rw [zm_up_row hc, zm_up_row hc]⟩
  simp [zg_0, zg_aaload, zg_aload_n, zg_getfield, zg_goto, zg_iaload, zg_iastore, zg_iconst, zg_ifCond, zg_iload_n, zg_invokevirtual, zg_return, zf_X5_takeBack, zi_ld, zi_lda, zi_cmp, zi_retOk, zi_isI, zi_f3, zi_cr, zi_ci, zi_cn, zi_get, zi_set, zd_g, zd_w hk, zq_Win_isTiled, cw, E2 F (by omega), zw_g (zdW_at hk), zdK_g hq, zm_ax0 p0, zm_ax1 p0, zm_iald (k := 0) p1 ik, zm_iald (k := 0) p2 ik, ck, zm_iast w2 zm_in0, zm_iast w2 zm_in1, zm_cl0, zm_cl1]
/-- the tree of a drag before the window comes to it: R, t at Q without k, if k is there -/
def zt_isDr (μ : zm_M) (Q : Nat) (R : List Nat) (t : zy_F) (k : Nat) (ν : zm_M) (T : Nat) (R' : List Nat) (t' : zy_F) : Prop :=
  (k ∉ R ∧ R' = R ∧ t' = t ∧ zt_isCopy μ Q ν T ∧ zt_C ν T R t) ∨ (k ∈ R ∧ ∃ n ∈ zy_lvs t, μ (Q + 3) k = nI n ∧ R' = R.erase k ∧ t' = (if (zt_tb μ Q R n).erase k = [] then zy_out n t else t) ∧ zt_isOut μ Q R t n k ν T)
theorem zt_isDr_C {Q T k : Nat} {ν : zm_M} {R' : List Nat} {t' : zy_F} (h : zt_isDr μ Q R t k ν T R' t') : zt_C ν T R' t' := by
  rcases h with ⟨-, e1, e2, -, h⟩ | ⟨-, n, -, -, e1, e2, h⟩
  · rw [e1, e2]; exact h
  · rw [e1, e2]; exact h.1
set_option maxRecDepth 100000 in
theorem ze_tryDrag_0 (D : Nat) {k o s : Nat} (hk : k < 10) (ho : o < 10) (hs : s < 3) (h1 : μ (zdW o) 5 = nI s) (hI : zt_I μ (zdT s) R t) :
    ∃ ν R' t', zt_isDr μ (zdT s) R t k ν 7 R' t' ∧ zt_frT 7 μ ν ∧ ∀ sd, ze_S (D + 4) 6 none zc_X5_tryDrag 0 [(0, .ref 1), (1, .int (nI k)), (2, .int (nI o)), (3, .int (nI sd))] [] (zm_mk μ) 41 [(5, .int (ν 10 o)), (4, .ref (zdW k + 1 + 1)), (0, .ref 1), (1, .int (nI k)), (2, .int (nI o)), (3, .int (nI sd))] [] (zm_mk ν) := by
  obtain ⟨ν1, ⟨N1, E1⟩, C1, f1, l⟩ := ze_Tree_copyFrom (μ := μ) D zd7_at (zdT_at hs) (by unfold zdT; omega) hI
  obtain ⟨N2, E2⟩ := ze_treeOf (μ := μ) (D + 3) ho hs h1
  obtain ⟨l1, d1⟩ := zt_c (μ := μ) zd7_at
  obtain ⟨l2, d2⟩ := zt_c (μ := ν1) zd7_at
  have w1 := (zdW_at hk).2.1
  by_cases c : k ∈ R
  · obtain ⟨n, hn, en⟩ := hI.2.2.2.1 k c
    obtain ⟨ν, ⟨N3, E3⟩, O, f3⟩ := ze_takeOutI (μ := μ) (Q := zdT s) D zd7_at C1.1 l hn c en
    obtain ⟨N4, E4⟩ := ze_Tree_leafOf (μ := ν) (D + 3) zd7_at ho
    obtain ⟨l3, d3⟩ := zt_c (μ := ν) zd7_at
    refine ⟨ν, _, _, Or.inr ⟨c, n, hn, en, rfl, rfl, O⟩, f1.trans f3, fun sd => ⟨N1 + N2 + N3 + N4, 21, fun F m hF => ?_⟩⟩
    simp [zg_0, zg_aaload, zg_aload, zg_aload_n, zg_astore, zg_getfield, zg_goto, zg_iaload, zg_iconst, zg_ifCond, zg_if_icmp, zg_iload, zg_iload_n, zg_invokestatic, zg_invokevirtual, zg_istore, zg_return, zf_X5_tryDrag, zi_ld, zi_lda, zi_cmp, zi_retOk, zi_isI, zi_f3, zi_cr, zi_ci, zi_cn, zi_get, zi_set, zd_g, zd_w hk, zw_g (zdW_at hk), zq_Desk_treeOf, zd_c, E2 F (by omega), zq_Tree_copyFrom, d1, E1 F (by omega), zq_Tree_takeOut, d2, E3 F (by omega), zq_Tree_leafOf, d3, E4 F (by omega)]
  · have hneg : ν1 (7 + 3) k < 0 := by rw [C1.1.2.2.2.2.1 k hk c]; decide
    obtain ⟨N3, E3⟩ := ze_Tree_takeOut_no (μ := ν1) (D + 2) zd7_at hk hneg
    obtain ⟨N4, E4⟩ := ze_Tree_leafOf (μ := ν1) (D + 3) zd7_at ho
    refine ⟨ν1, R, t, Or.inl ⟨c, rfl, rfl, l, C1⟩, f1, fun sd => ⟨N1 + N2 + N3 + N4, 21, fun F m hF => ?_⟩⟩
    simp [zg_0, zg_aaload, zg_aload, zg_aload_n, zg_astore, zg_getfield, zg_goto, zg_iaload, zg_iconst, zg_ifCond, zg_if_icmp, zg_iload, zg_iload_n, zg_invokestatic, zg_invokevirtual, zg_istore, zg_return, zf_X5_tryDrag, zi_ld, zi_lda, zi_cmp, zi_retOk, zi_isI, zi_f3, zi_cr, zi_ci, zi_cn, zi_get, zi_set, zd_g, zd_w hk, zw_g (zdW_at hk), zq_Desk_treeOf, zd_c, E2 F (by omega), zq_Tree_copyFrom, d1, E1 F (by omega), zq_Tree_takeOut, d2, E3 F (by omega), zq_Tree_leafOf, E4 F (by omega)]
/-- what a drag's try leaves in the trial tree: ν0 is before the window comes -/
def zd_drg (μ ν0 ν : zm_M) (R' : List Nat) (t' : zy_F) (k n sd : Nat) : Prop :=
  (sd = 4 ∧ zt_isTab ν0 7 R' t' n k (μ (zdW k + 1) 0) (μ (zdW k + 1) 1) ν 7) ∨ (sd < 4 ∧ ∃ c f, zt_isCut ν0 7 R' t' n k (sd / 2) (decide (sd % 2 = 0)) (μ (zdW k + 1) 0) (μ (zdW k + 1) 1) ν 7 c f)
set_option maxRecDepth 100000 in
theorem ze_tryDrag (D : Nat) {k o s sd : Nat} (hk : k < 10) (ho : o < 10) (hko : k ≠ o) (hs : s < 3) (hsd : sd < 5) (h1 : μ (zdW o) 5 = nI s) (hI : zt_I μ (zdT s) R t) (hoR : o ∈ R) :
    ∃ ν ν0 R' t' n, ze_E (D + 5) A_Desk_tryDrag [.ref 1, .int (nI k), .int (nI o), .int (nI sd)] (zm_mk μ) none (zm_mk ν) ∧ zt_isDr μ (zdT s) R t k ν0 7 R' t' ∧ n ∈ zy_lvs t' ∧ ν0 (7 + 3) o = nI n ∧ zd_drg μ ν0 ν R' t' k n sd ∧ zt_frT 7 μ ν := by
  obtain ⟨ν0, R', t', hd, f0, S0⟩ := ze_tryDrag_0 (μ := μ) D hk ho hs h1 hI
  have hC := zt_isDr_C hd
  have hmem : k ∉ R' ∧ o ∈ R' := by
    rcases hd with ⟨q, e1, -, -, -⟩ | ⟨-, n, -, -, e1, -, -⟩
    · rw [e1]; exact ⟨q, hoR⟩
    · rw [e1]
      exact ⟨fun h => ((zl_er_mem hI.1.2.1).mp h).1 rfl, (zl_er_mem hI.1.2.1).mpr ⟨Ne.symm hko, hoR⟩⟩
  obtain ⟨n, hn, en⟩ := hC.1.2.2.2.1 o hmem.2
  have en' : ν0 10 o = nI n := en
  have hn19 := hC.1.2.1.2.2.1 n (zt_I_lv hC.1 hn).2
  have w1 := (zdW_at hk).2.1
  have r1 : ν0 (zdW k + 1) = μ (zdW k + 1) := f0 _ (by unfold zt_out zdW; omega)
  have S0 := S0 sd
  rw [en'] at S0
  obtain ⟨l1, d1⟩ := zt_c (μ := ν0) zd7_at
  by_cases c4 : sd = 4
  · subst c4
    obtain ⟨ν, ⟨N1, E1⟩, C, f, t3, t5, t6, t7, t8, t12⟩ := ze_Tree_addTab (μ := ν0) D zd7_at hC.1 hn hk hmem.1 (μ (zdW k + 1) 0) (μ (zdW k + 1) 1)
    refine ⟨ν, ν0, R', t', n, ze_in [(0, .ref 1), (1, .int (nI k)), (2, .int (nI o)), (3, .int (nI 4))] zq_Desk_tryDrag (Nat.le_of_ble_eq_true rfl) rfl (S0.end ⟨N1, 16, fun F m hF => ?_⟩), hd, hn, en, Or.inl ⟨rfl, C, t3, t5, t6, t7, t8, t12⟩, f0.trans f⟩
    have n4 : nI 4 = 4 := by decide
    simp [zg_0, zg_aaload, zg_aload, zg_aload_n, zg_astore, zg_getfield, zg_goto, zg_iaload, zg_iconst, zg_ifCond, zg_if_icmp, zg_iload, zg_iload_n, zg_invokestatic, zg_invokevirtual, zg_istore, zg_return, zf_X5_tryDrag, zi_ld, zi_lda, zi_cmp, zi_retOk, zi_isI, zi_f3, zi_cr, zi_ci, zi_cn, zi_get, zi_set, n4, zd_g, zm_iald (k := 0) w1 zm_in0, zm_iald (k := 0) w1 zm_in1, zm_cl0, zm_cl1, r1, zq_Tree_addTab, d1, E1 F (by omega)]
  · have hs4 : sd < 4 := by omega
    obtain ⟨N2, E2⟩ := ze_axisOf (h := zm_mk ν0) (D + 3) hs4
    obtain ⟨N3, E3⟩ := ze_isAfter (h := zm_mk ν0) (D + 3) hs4
    obtain ⟨ν, c, f, ⟨N1, E1⟩, C, fr, hcf, t3, t5, t6, t7, t8, t12⟩ := ze_Tree_cutLeaf (μ := ν0) D zd7_at hC.1 hn hk hmem.1 (a := sd / 2) (by omega) (decide (sd % 2 = 0)) (μ (zdW k + 1) 0) (μ (zdW k + 1) 1)
    have c4' : ¬ nI sd = 4 := fun e => c4 ((nI_eq (a := sd) (b := 4) (by omega) (by decide)).mp e)
    refine ⟨ν, ν0, R', t', n, ze_in [(0, .ref 1), (1, .int (nI k)), (2, .int (nI o)), (3, .int (nI sd))] zq_Desk_tryDrag (Nat.le_of_ble_eq_true rfl) rfl (S0.end ?_), hd, hn, en, Or.inr ⟨hs4, c, f, C, hcf, t3, t5, t6, t7, t8, t12⟩, f0.trans fr⟩
    by_cases c2 : sd % 2 = 1
    · have z : zb (sd % 2 = 1) = 1 := if_pos c2
      have z2 : (if decide (sd % 2 = 0) = true then (1 : Int32) else 0) = 0 := if_neg (by simp [c2])
      rw [z] at E3
      rw [z2] at E1
      refine ⟨N1 + N2 + N3, 21, fun F m hF => ?_⟩
      simp [zg_0, zg_aaload, zg_aload, zg_aload_n, zg_astore, zg_getfield, zg_goto, zg_iaload, zg_iconst, zg_ifCond, zg_if_icmp, zg_iload, zg_iload_n, zg_invokestatic, zg_invokevirtual, zg_istore, zg_return, zf_X5_tryDrag, zi_ld, zi_lda, zi_cmp, zi_retOk, zi_isI, zi_f3, zi_cr, zi_ci, zi_cn, zi_get, zi_set, c4', zd_g, zq_Desk_axisOf, E2 F (by omega), zq_Desk_isAfter, E3 F (by omega), zm_iald (k := 0) w1 zm_in0, zm_iald (k := 0) w1 zm_in1, zm_cl0, zm_cl1, r1, zq_Tree_cutLeaf, d1, E1 F (by omega)]
    · have z : zb (sd % 2 = 1) = 0 := if_neg c2
      have z2 : (if decide (sd % 2 = 0) = true then (1 : Int32) else 0) = 1 := if_pos (by simp; omega)
      rw [z] at E3
      rw [z2] at E1
      refine ⟨N1 + N2 + N3, 22, fun F m hF => ?_⟩
      simp [zg_0, zg_aaload, zg_aload, zg_aload_n, zg_astore, zg_getfield, zg_goto, zg_iaload, zg_iconst, zg_ifCond, zg_if_icmp, zg_iload, zg_iload_n, zg_invokestatic, zg_invokevirtual, zg_istore, zg_return, zf_X5_tryDrag, zi_ld, zi_lda, zi_cmp, zi_retOk, zi_isI, zi_f3, zi_cr, zi_ci, zi_cn, zi_get, zi_set, c4', zd_g, zq_Desk_axisOf, E2 F (by omega), zq_Desk_isAfter, E3 F (by omega), zm_iald (k := 0) w1 zm_in0, zm_iald (k := 0) w1 zm_in1, zm_cl0, zm_cl1, r1, zq_Tree_cutLeaf, d1, E1 F (by omega)]
end ZB1
