/-! the desk: trees laid; the focus; areas asked -/
section ZF1
variable {μ : zm_M} {row stk : List Nat} {R : List Nat} {t : zy_F}
/-- the tree of a screen is laid -/
def zd_laid (ν : zm_M) (s : Nat) (R : List Nat) (t : zy_F) : Prop := zy_wf t → zy_laid (zt_P ν (zdT s)) (ν (zdT s + 7)) (ν (zdT s + 8)) (zy_ls 0 (ν (zdT s + 7)) (zt_lf (ν (zdT s + 5)) (ν (zdT s + 3)) R)) (zy_ls 1 (ν (zdT s + 7)) (zt_lf (ν (zdT s + 6)) (ν (zdT s + 3)) R)) t 0 0 (ν (zdZ s) 0) (ν (zdZ s) 1)
theorem ze_Tree_layC (D : Nat) {s : Nat} (hs : s < 3) (hC : zt_C μ (zdT s) R t) : ∃ ν, ze_E (D + 5) A_Tree_lay [.ref (zdT s + 1), .ref (zdZ s + 1)] (zm_mk μ) none (zm_mk ν) ∧ zt_frL (zdT s) μ ν ∧ zd_laid ν s R t := by
  obtain ⟨⟨-, ⟨k4, k5, k6, -⟩, -⟩, ho, hl⟩ := hC
  obtain ⟨ν, E, f, d⟩ := ze_Tree_lay (μ := μ) D (zdT_at hs) k4 k6 k5 ho (hl 0 (by decide)) (hl 1 (by decide)) (zdZ_A hs) (by unfold zdZ zdT; omega)
  refine ⟨ν, E, f, fun hw => ?_⟩
  have := d hw
  have r : ∀ j, j < 19 → ν (zdT s + j) = μ (zdT s + j) := fun j hj => f _ (by omega) (by omega) (by omega) (by omega)
  rw [r 7 (by omega), r 8 (by omega), r 5 (by omega), r 6 (by omega), r 3 (by omega), f (zdZ s) (by unfold zdZ zdT; omega) (by unfold zdZ zdT; omega) (by unfold zdZ zdT; omega) (by unfold zdZ zdT; omega)]
  exact this
/-- only the areas of the three trees differ -/
def zd_frA (μ ν : zm_M) : Prop := ∀ c, (∀ s, s < 3 → c ≠ zdT s + 19 ∧ c ≠ zdT s + 20 ∧ c ≠ zdT s + 22 ∧ c ≠ zdT s + 23) → ν c = μ c
set_option maxRecDepth 100000 in
theorem ze_layTrees (D : Nat) {Rs : Nat → List Nat} {ts : Nat → zy_F} (hC : ∀ s, s < 3 → zt_C μ (zdT s) (Rs s) (ts s)) : ∃ ν, ze_E (D + 6) A_Desk_layTrees [.ref 1] (zm_mk μ) none (zm_mk ν) ∧ zd_frA μ ν ∧ ∀ s, s < 3 → zd_laid ν s (Rs s) (ts s) := by
  have key : ∃ r h', ze_G (D + 5) 2 none zc_X5_layTrees 2 [(1, .int (nI 0)), (0, .ref 1)] [] (zm_mk μ) r h' ∧ (r = none ∧ ∃ ν, zm_mk ν = h' ∧ zd_frA μ ν ∧ ∀ s, s < 3 → zd_laid ν s (Rs s) (ts s)) := by
    refine ze_loop (Q := fun i L hp => i ≤ 3 ∧ zi_nl L = true ∧ zi_get L 0 = some (.ref 1) ∧ zi_get L 1 = some (.int (nI i)) ∧ ∃ ν : zm_M, zm_mk ν = hp ∧ (zd_frA μ ν) ∧ (∀ s, s < i → zd_laid ν s (Rs s) (ts s)) ∧ (True)) (R := fun r h' => r = none ∧ ∃ ν, zm_mk ν = h' ∧ zd_frA μ ν ∧ ∀ s, s < 3 → zd_laid ν s (Rs s) (ts s)) 3 ?_ ?_ 3 0 _ _ (by omega) ⟨by omega, rfl, rfl, rfl, μ, rfl, fun _ _ => rfl, (fun s hs => absurd hs (by omega)), trivial⟩
    · rintro i L _ hi ⟨-, nl, g0, g1, ν, rfl, f, d, hq⟩
      have c1 : ¬ (3 : Int32) ≤ nI i := nI_ge (b := 3) hi (by decide)
      have hCν : zt_C ν (zdT i) (Rs i) (ts i) := by
        obtain ⟨⟨i1, i2, i3, i4, i5, i6⟩, ⟨o1, o2⟩, l⟩ := hC i hi
        have r : ∀ j, j < 19 → ν (zdT i + j) = μ (zdT i + j) := fun j hj => f _ (fun s hs => by unfold zdT; omega)
        have r0 : ν (zdT i) = μ (zdT i) := r 0 (by omega)
        refine ⟨zt_same.I ⟨r 1 (by omega), r 2 (by omega), r 3 (by omega), r 5 (by omega), r 6 (by omega), r 7 (by omega), r 8 (by omega), r 9 (by omega), r 10 (by omega), r 11 (by omega), r 12 (by omega), by rw [r0]⟩ (hC i hi).1, ⟨by rw [r0]; exact o1, by rw [r 13 (by omega)]; exact o2⟩, fun a ha => ?_⟩
        have e16 : ν (zdT i + 16 + a) = μ (zdT i + 16 + a) := by rw [Nat.add_assoc]; exact r (16 + a) (by omega)
        have e5 : ν (zdT i + 5 + a) = μ (zdT i + 5 + a) := by rw [Nat.add_assoc]; exact r (5 + a) (by omega)
        rw [e16, e5, r 7 (by omega), r 3 (by omega)]
        exact l a ha
      obtain ⟨ξ, ⟨N1, E1⟩, f1, d1⟩ := ze_Tree_layC (μ := ν) D hi hCν
      have f' : zd_frA μ ξ := fun c hc => (f1 c (hc i hi).1 (hc i hi).2.1 (hc i hi).2.2.1 (hc i hi).2.2.2).trans (f c hc)
      have d' : ∀ s, s < i + 1 → zd_laid ξ s (Rs s) (ts s) := by
        intro s hs
        by_cases e : s = i
        · subst e
          exact d1
        · have := d s (by omega)
          have r : ∀ j, j < 24 → ξ (zdT s + j) = ν (zdT s + j) := fun j hj => f1 _ (by unfold zdT; omega) (by unfold zdT; omega) (by unfold zdT; omega) (by unfold zdT; omega)
          have rz : ξ (zdZ s) = ν (zdZ s) := f1 _ (by unfold zdZ zdT; omega) (by unfold zdZ zdT; omega) (by unfold zdZ zdT; omega) (by unfold zdZ zdT; omega)
          unfold zd_laid at *
          have eP : zt_P ξ (zdT s) = zt_P ν (zdT s) := by
            funext n x y w v
            unfold zt_P
            rw [r 19 (by omega), r 20 (by omega), r 22 (by omega), r 23 (by omega)]
          rw [eP, r 7 (by omega), r 8 (by omega), r 5 (by omega), r 6 (by omega), r 3 (by omega), rz]
          exact this
      obtain ⟨lc, cc⟩ := zt_c (μ := ν) (zdT_at hi)
      left
      refine ⟨zi_set L 1 (.int (nI (i + 1))), zm_mk ξ, ⟨N1, 16, fun F m hF => ?_⟩, by omega, ?_, ?_, zi_get_set_eq, ξ, rfl, f', d', trivial⟩
      · simp (maxDischargeDepth := 9) [zg_0, zg_aaload, zg_aload_n, zg_getfield, zg_goto, zg_iconst, zg_if_icmp, zg_iinc, zg_iload_n, zg_invokevirtual, zg_istore_n, zg_return, zf_X5_layTrees, zi_ld, zi_lda, zi_cmp, zi_retOk, zi_isI, zi_f3, zi_cr, zi_ci, zi_cn, zi_get_ne, zi_nl_i, zi_nl_r, zi_get_set_eq, nl, g0, g1, c1, zd_g, zd_s hi, zdS_g hi, zq_Tree_lay, cc, E1 F (by omega), nI_1]
      · simp (maxDischargeDepth := 9) [zi_get_ne, zi_nl_i, zi_nl_r, zi_get_set_eq, nl]
      · simp (maxDischargeDepth := 9) [zi_get_ne, zi_nl_i, zi_nl_r, zi_get_set_eq, nl, g0]
    · rintro L _ ⟨-, nl, g0, g1, ν, rfl, f, d, hq⟩
      have c1 : (3 : Int32) ≤ nI 3 := by decide
      refine ⟨none, zm_mk ν, ⟨0, 4, fun F m hF => ?_⟩, rfl, ν, rfl, f, d⟩
      simp [zg_0, zg_aaload, zg_aload_n, zg_getfield, zg_goto, zg_iconst, zg_if_icmp, zg_iinc, zg_iload_n, zg_invokevirtual, zg_istore_n, zg_return, zf_X5_layTrees, zi_ld, zi_lda, zi_cmp, zi_retOk, zi_isI, zi_f3, zi_cr, zi_ci, zi_cn, g0, g1, c1]
  obtain ⟨r, h', G, rfl, ν, rfl, f, d⟩ := key
  refine ⟨ν, ze_in [(0, .ref 1)] zq_Desk_layTrees (Nat.le_of_ble_eq_true rfl) rfl (ze_S.end ⟨0, 2, fun F m hF => ?_⟩ G), f, d⟩
  simp [zg_0, zg_aaload, zg_aload_n, zg_getfield, zg_goto, zg_iconst, zg_if_icmp, zg_iinc, zg_iload_n, zg_invokevirtual, zg_istore_n, zg_return, zf_X5_layTrees, zi_ld, zi_lda, zi_cmp, zi_retOk, zi_isI, zi_f3, zi_cr, zi_ci, zi_cn, zi_get, zi_set, nI_0]
/-- the homes of a Tree's tabs are nodes -/
theorem zt_I_hm {T : Nat} (hI : zt_I μ T R t) : zt_hm μ T := by
  intro k hk
  obtain ⟨-, ⟨k4, -, k6, -⟩, -, k9, k10, -⟩ := hI
  by_cases c : k ∈ R
  · obtain ⟨n, hn, e⟩ := k9 k c
    have := zy_lvs_lt (k4.imp (·.1) (·.1)) k6 n hn
    exact Or.inr (by rw [e]; exact zm_in this (by decide))
  · exact Or.inl (by rw [k10 k hk c]; decide)
set_option maxRecDepth 100000 in
/-- isShownTile(k), its screen known if it is tiled -/
theorem ze_isShownTile (D : Nat) {k s : Nat} (hk : k < 10) (hs : s < 3) (hsc : zd_til μ k = true → μ (zdW k) 5 = nI s ∧ zt_I μ (zdT s) R t) :
    ze_E (D + 3) A_Desk_isShownTile [.ref 1, .int (nI k)] (zm_mk μ) (some (.int (if zd_til μ k = true ∧ (¬ μ (zdT s + 3) k < 0 ∧ μ (zdT s + 12) (μ (zdT s + 3) k).toNatClampNeg = nI k) then 1 else 0))) (zm_mk μ) := by
  obtain ⟨N1, E1⟩ := ze_thW (μ := μ) (D + 1) hk
  obtain ⟨N2, E2⟩ := ze_tilW (μ := μ) (D + 1) hk
  have cw := zw_c (μ := μ) (zdW_at hk)
  by_cases c1 : zd_th μ k = true
  · rw [if_pos c1] at E1
    by_cases c2 : zd_til μ k = true
    · rw [if_pos c2] at E2
      obtain ⟨h1, h2⟩ := hsc c2
      obtain ⟨N3, E3⟩ := ze_treeOf (μ := μ) (D + 1) hk hs h1
      obtain ⟨N4, E4⟩ := ze_Tree_isShown (μ := μ) D (zdT_at hs) (zt_I_hm h2) hk
      obtain ⟨lc, ct⟩ := zt_c (μ := μ) (zdT_at hs)
      by_cases c3 : ¬ μ (zdT s + 3) k < 0 ∧ μ (zdT s + 12) (μ (zdT s + 3) k).toNatClampNeg = nI k
      · have z : zb (¬ μ (zdT s + 3) k < 0 ∧ μ (zdT s + 12) (μ (zdT s + 3) k).toNatClampNeg = nI k) = 1 := if_pos c3
        rw [z] at E4
        rw [if_pos ⟨c2, c3⟩]
        refine ze_in [(0, .ref 1), (1, .int (nI k))] zq_Desk_isShownTile (Nat.le_of_ble_eq_true rfl) rfl ⟨N1 + N2 + N3 + N4, 19, fun F m hF => ?_⟩
        simp [zg_0, zg_aaload, zg_aload_n, zg_getfield, zg_goto, zg_iconst, zg_ifCond, zg_iload_n, zg_invokevirtual, zg_ireturn, zf_X5_isShownTile, zi_ld, zi_lda, zi_cmp, zi_retOk, zi_isI, zi_f3, zi_cr, zi_ci, zi_cn, zi_get, zi_set, zq_Desk_isWindow, zd_c, E1 F (by omega), zd_g, zd_w hk, zq_Win_isTiled, cw, E2 F (by omega), zq_Desk_treeOf, E3 F (by omega), zq_Tree_isShown, ct, E4 F (by omega)]
      · have z : zb (¬ μ (zdT s + 3) k < 0 ∧ μ (zdT s + 12) (μ (zdT s + 3) k).toNatClampNeg = nI k) = 0 := if_neg c3
        rw [z] at E4
        rw [if_neg (fun q => c3 q.2)]
        refine ze_in [(0, .ref 1), (1, .int (nI k))] zq_Desk_isShownTile (Nat.le_of_ble_eq_true rfl) rfl ⟨N1 + N2 + N3 + N4, 18, fun F m hF => ?_⟩
        simp [zg_0, zg_aaload, zg_aload_n, zg_getfield, zg_goto, zg_iconst, zg_ifCond, zg_iload_n, zg_invokevirtual, zg_ireturn, zf_X5_isShownTile, zi_ld, zi_lda, zi_cmp, zi_retOk, zi_isI, zi_f3, zi_cr, zi_ci, zi_cn, zi_get, zi_set, zq_Desk_isWindow, zd_c, E1 F (by omega), zd_g, zd_w hk, zq_Win_isTiled, cw, E2 F (by omega), zq_Desk_treeOf, E3 F (by omega), zq_Tree_isShown, ct, E4 F (by omega)]
    · rw [if_neg c2] at E2
      rw [if_neg (fun q => c2 q.1)]
      refine ze_in [(0, .ref 1), (1, .int (nI k))] zq_Desk_isShownTile (Nat.le_of_ble_eq_true rfl) rfl ⟨N1 + N2, 12, fun F m hF => ?_⟩
      simp [zg_0, zg_aaload, zg_aload_n, zg_getfield, zg_goto, zg_iconst, zg_ifCond, zg_iload_n, zg_invokevirtual, zg_ireturn, zf_X5_isShownTile, zi_ld, zi_lda, zi_cmp, zi_retOk, zi_isI, zi_f3, zi_cr, zi_ci, zi_cn, zi_get, zi_set, zq_Desk_isWindow, zd_c, E1 F (by omega), zd_g, zd_w hk, zq_Win_isTiled, cw, E2 F (by omega)]
  · rw [if_neg c1] at E1
    have c2 : ¬ zd_til μ k = true := fun q => c1 (decide_eq_true (of_decide_eq_true q).1)
    rw [if_neg (fun q => c2 q.1)]
    refine ze_in [(0, .ref 1), (1, .int (nI k))] zq_Desk_isShownTile (Nat.le_of_ble_eq_true rfl) rfl ⟨N1, 6, fun F m hF => ?_⟩
    simp [zg_0, zg_aaload, zg_aload_n, zg_getfield, zg_goto, zg_iconst, zg_ifCond, zg_iload_n, zg_invokevirtual, zg_ireturn, zf_X5_isShownTile, zi_ld, zi_lda, zi_cmp, zi_retOk, zi_isI, zi_f3, zi_cr, zi_ci, zi_cn, zi_get, zi_set, zq_Desk_isWindow, zd_c, E1 F (by omega)]
set_option maxRecDepth 100000 in
theorem ze_isShownTile_out (D : Nat) {x : Int32} (hx : x < 0 ∨ (10 : Int32) ≤ x) : ze_E (D + 2) A_Desk_isShownTile [.ref 1, .int x] (zm_mk μ) (some (.int 0)) (zm_mk μ) := by
  obtain ⟨N1, E1⟩ := ze_isWindow_out (μ := μ) D hx
  refine ze_in [(0, .ref 1), (1, .int x)] zq_Desk_isShownTile (Nat.le_of_ble_eq_true rfl) rfl ⟨N1, 6, fun F m hF => ?_⟩
  simp [zg_0, zg_aaload, zg_aload_n, zg_getfield, zg_goto, zg_iconst, zg_ifCond, zg_iload_n, zg_invokevirtual, zg_ireturn, zf_X5_isShownTile, zi_ld, zi_lda, zi_cmp, zi_retOk, zi_isI, zi_f3, zi_cr, zi_ci, zi_cn, zi_get, zi_set, zq_Desk_isWindow, zd_c, E1 F (by omega)]
set_option maxRecDepth 100000 in
/-- giveFocus(k); its screen known if it is tiled -/
theorem ze_giveFocus (D : Nat) {k s : Nat} (hk : k < 10) (hs : s < 3) (hrow : zr_L μ 3 row) (hrn : row.Nodup) (hrb : ∀ j ∈ row, j < 10) (hstk : zr_L μ 5 stk) (hsn : stk.Nodup) (hsb : ∀ j ∈ stk, j < 10) (hsc : zd_til μ k = true → μ (zdW k) 5 = nI s ∧ zt_I μ (zdT s) R t ∧ k ∈ R) :
    ∃ ν stk', ze_E (D + 15) A_Desk_giveFocus [.ref 1, .int (nI k)] (zm_mk μ) none (zm_mk ν) ∧ zr_L ν 3 (k :: row.erase k) ∧ (zr_L ν 5 stk' ∧ stk'.Nodup ∧ ∀ j ∈ stk', j ∈ stk ∨ (j < 10 ∧ zd_flo μ j = true)) ∧
      (∀ c b, c ≠ 3 → c ≠ 4 → c ≠ 5 → c ≠ 6 → ¬ (zd_til μ k = true ∧ c = zdT s + 12 ∧ nI b = μ (zdT s + 3) k) → ν c b = μ c b) ∧ (zd_til μ k = true → ν (zdT s + 12) (μ (zdT s + 3) k).toNatClampNeg = nI k) := by
  obtain ⟨ν1, E1, l1, f1⟩ := ze_Row_putFirst (μ := μ) (D + 10) zd3_at hrow hrb hk (zl_er_len hrn hrb hk)
  have f1' : ∀ c, c ≠ 3 → c ≠ 4 → ν1 c = μ c := fun c h1 h2 => funext fun b => f1 c b h1 h2
  obtain ⟨N1, E1⟩ := E1
  have ew : ν1 (zdW k) = μ (zdW k) := f1' _ (by unfold zdW; omega) (by unfold zdW; omega)
  have et : zd_til ν1 k = zd_til μ k := by unfold zd_til; rw [ew]
  obtain ⟨N2, E2⟩ := ze_tilW (μ := ν1) (D + 13) hk
  rw [et] at E2
  have cr := zr_c (μ := μ) zd3_at
  have cw := zw_c (μ := ν1) (zdW_at hk)
  by_cases c2 : zd_til μ k = true
  · rw [if_pos c2] at E2
    obtain ⟨h1, h2, h3⟩ := hsc c2
    obtain ⟨N3, E3⟩ := ze_treeOf (μ := ν1) (D + 13) hk hs (by rw [ew]; exact h1)
    have eT : ∀ j, ν1 (zdT s + j) = μ (zdT s + j) := fun j => f1' _ (by unfold zdT; omega) (by unfold zdT; omega)
    have hm : zt_hm ν1 (zdT s) := by
      have := zt_I_hm h2
      unfold zt_hm at *
      rw [eT]
      exact this
    obtain ⟨N4, E4⟩ := ze_Tree_show (μ := ν1) (D + 12) (zdT_at hs) hm hk
    obtain ⟨n, hn, en⟩ := h2.2.2.2.1 k h3
    have hn19 := h2.2.1.2.2.1 n (zt_I_lv h2 hn).2
    have hneg : ¬ ν1 (zdT s + 3) k < 0 := by rw [eT, en]; exact nI_pos (by omega)
    rw [if_neg hneg, eT, en, nI_clamp (by omega)] at E4
    let ν2 := zm_up ν1 (zdT s + 12) n (nI k)
    have f2 : ∀ c, c ≠ zdT s + 12 → ν2 c = ν1 c := fun c hc => zm_up_row hc
    have m2 : zm_up ν1 (zdT s + 12) n (nI k) = ν2 := rfl
    rw [m2] at E4
    have hstk2 : zr_L ν2 5 stk := zr_L_congr (by rw [f2 _ (by unfold zdT; omega), f1' _ (by decide) (by decide)]) (by rw [f2 _ (by unfold zdT; omega), f1' _ (by decide) (by decide)]) hstk
    obtain ⟨ν, stk', ⟨N5, E5⟩, hZ⟩ := ze_raise D 10 0 rfl ν2 stk (nI k) hstk2 hsn hsb (Or.inr ⟨k, hk, rfl⟩)
    obtain ⟨z1, z2, z3, z4⟩ := hZ
    have ef : ∀ j, j < 10 → zd_flo ν2 j = zd_flo μ j := fun j hj => by
      unfold zd_flo
      rw [f2 _ (by unfold zdT zdW; omega), f1' _ (by unfold zdW; omega) (by unfold zdW; omega)]
    refine ⟨ν, stk', ?_, ?_, ⟨z1, z2, fun j hj => (z3 j hj).imp id (fun q => ⟨q.1, by rw [← ef j q.1]; exact q.2⟩)⟩, fun c b q1 q2 q3 q4 q5 => ?_, fun _ => ?_⟩
    · obtain ⟨lc, ct⟩ := zt_c (μ := ν1) (zdT_at hs)
      refine ze_in [(0, .ref 1), (1, .int (nI k))] zq_Desk_giveFocus (Nat.le_of_ble_eq_true rfl) rfl ⟨N1 + N2 + N3 + N4 + N5, 20, fun F m hF => ?_⟩
      have E5 := E5 F (by omega)
      rw [nI_0] at E5
      simp [zg_0, zg_aaload, zg_aload_n, zg_getfield, zg_iconst, zg_ifCond, zg_iload_n, zg_invokevirtual, zg_return, zf_X5_giveFocus, zi_ld, zi_lda, zi_cmp, zi_retOk, zi_isI, zi_f3, zi_cr, zi_ci, zi_cn, zi_get, zi_set, zd_g, zq_Row_putFirst, cr, E1 F (by omega), zd_w hk, zq_Win_isTiled, cw, E2 F (by omega), zq_Desk_treeOf, zd_c, E3 F (by omega), zq_Tree_show, ct, E4 F (by omega), zq_Desk_raise, E5]
    · exact zr_L_congr (by rw [z4 _ (by decide) (by decide), f2 _ (by unfold zdT; omega)]) (by rw [z4 _ (by decide) (by decide), f2 _ (by unfold zdT; omega)]) l1
    · rw [z4 c q3 q4, ← f1' c q1 q2]
      refine zm_up_ne (fun e => q5 ⟨c2, e.1, ?_⟩)
      rw [e.2, en]
    · rw [z4 _ (by unfold zdT; omega) (by unfold zdT; omega), en, nI_clamp (by omega)]
      exact zm_up_eq
  · rw [if_neg c2] at E2
    have hstk2 : zr_L ν1 5 stk := zr_L_congr (f1' _ (by decide) (by decide)) (f1' _ (by decide) (by decide)) hstk
    obtain ⟨ν, stk', ⟨N5, E5⟩, hZ⟩ := ze_raise D 10 0 rfl ν1 stk (nI k) hstk2 hsn hsb (Or.inr ⟨k, hk, rfl⟩)
    obtain ⟨z1, z2, z3, z4⟩ := hZ
    have ef : ∀ j, j < 10 → zd_flo ν1 j = zd_flo μ j := fun j hj => by
      unfold zd_flo
      rw [f1' _ (by unfold zdW; omega) (by unfold zdW; omega)]
    refine ⟨ν, stk', ?_, ?_, ⟨z1, z2, fun j hj => (z3 j hj).imp id (fun q => ⟨q.1, by rw [← ef j q.1]; exact q.2⟩)⟩, fun c b q1 q2 q3 q4 q5 => ?_, fun q => absurd q c2⟩
    · refine ze_in [(0, .ref 1), (1, .int (nI k))] zq_Desk_giveFocus (Nat.le_of_ble_eq_true rfl) rfl ⟨N1 + N2 + N5, 15, fun F m hF => ?_⟩
      have E5 := E5 F (by omega)
      rw [nI_0] at E5
      simp [zg_0, zg_aaload, zg_aload_n, zg_getfield, zg_iconst, zg_ifCond, zg_iload_n, zg_invokevirtual, zg_return, zf_X5_giveFocus, zi_ld, zi_lda, zi_cmp, zi_retOk, zi_isI, zi_f3, zi_cr, zi_ci, zi_cn, zi_get, zi_set, zd_g, zq_Row_putFirst, cr, E1 F (by omega), zd_w hk, zq_Win_isTiled, cw, E2 F (by omega), zd_c, zq_Desk_raise, E5]
    · exact zr_L_congr (z4 _ (by decide) (by decide)) (z4 _ (by decide) (by decide)) l1
    · rw [z4 c q3 q4, f1' c q1 q2]
end ZF1
