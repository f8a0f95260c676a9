/-! the desk: focus, back, toward, neighbour -/
section ZQ5
variable {μ ν : zm_M} {row stk : List Nat} {Rs : Nat → List Nat} {ts : Nat → zy_F}
set_option maxRecDepth 100000 in
theorem ze_focus_no (D : Nat) {w : Int32} (E1 : ze_E (D + 1) A_Desk_isWindow [.ref 1, .int w] (zm_mk μ) (some (.int 0)) (zm_mk μ)) : ze_E (D + 2) A_Desk_focus [.ref 1, .int w] (zm_mk μ) (some (.int (-1000000001))) (zm_mk μ) := by
  have n4 : Int32.ofInt (-1000000001) = -1000000001 := by decide
  obtain ⟨N1, E1⟩ := E1
  refine ze_in [(0, .ref 1), (1, .int w)] zq_Desk_focus (Nat.le_of_ble_eq_true rfl) rfl ⟨N1, 6, fun F n hF => ?_⟩
  simp [zg_0, zg_aload_n, zg_getfield, zg_iconst, zg_ifCond, zg_iload_n, zg_invokevirtual, zg_ireturn, zg_istore_n, zg_ldc, zf_X5_focus, zi_ld, zi_lda, zi_cmp, zi_retOk, zi_isI, zi_f3, zi_cr, zi_ci, zi_cn, zi_get, zi_set, zq_Desk_isWindow, zd_c, E1 F (by omega), n4]
set_option maxRecDepth 100000 in
theorem ze_focus (D : Nat) (h : zJ μ row stk Rs ts) {k : Nat} (hk : k < 10) (ht : zd_th μ k = true) : ∃ ν stk' v, ze_E (D + 16) A_Desk_focus [.ref 1, .int (nI k)] (zm_mk μ) (some (.int v)) (zm_mk ν) ∧ zJ ν (k :: row.erase k) stk' Rs ts ∧ zd_foc μ ν k := by
  obtain ⟨N1, E1⟩ := ze_thW (μ := μ) (D + 14) hk
  rw [if_pos ht] at E1
  obtain ⟨ν, stk', ⟨N2, E2⟩, hJ, hf⟩ := ze_giveFocusJ (μ := μ) D h hk ht
  have hkr : k ∈ row := (h.1.2.2 k).mpr ⟨hk, ht⟩
  have hl : 0 < row.length := List.length_pos_of_mem hkr
  obtain ⟨N3, E3⟩ := ze_Row_getL (μ := μ) (i := 0) (D + 14) zd3_at h.1.1 hl
  rw [nI_0] at E3
  generalize row.getD 0 0 = v at E3
  have cr := zr_c (μ := μ) zd3_at
  refine ⟨ν, stk', nI v, ze_in [(0, .ref 1), (1, .int (nI k))] zq_Desk_focus (Nat.le_of_ble_eq_true rfl) rfl ⟨N1 + N2 + N3, 14, fun F n hF => ?_⟩, hJ, hf⟩
  simp [zg_0, zg_aload_n, zg_getfield, zg_iconst, zg_ifCond, zg_iload_n, zg_invokevirtual, zg_ireturn, zg_istore_n, zg_ldc, zf_X5_focus, zi_ld, zi_lda, zi_cmp, zi_retOk, zi_isI, zi_f3, zi_cr, zi_ci, zi_cn, zi_get, zi_set, zq_Desk_isWindow, zd_c, E1 F (by omega), zd_g, zq_Row_get, cr, E3 F (by omega), zq_Desk_giveFocus, E2 F (by omega)]
set_option maxRecDepth 100000 in
theorem ze_back_no (D : Nat) (h : zJ μ row stk Rs ts) (hl : row.length < 2) : ze_E (D + 2) A_Desk_back [.ref 1] (zm_mk μ) (some (.int (-1000000002))) (zm_mk μ) := by
  have n2 : Int32.ofInt (-1000000002) = -1000000002 := by decide
  obtain ⟨N1, E1⟩ := ze_Row_sizeL (μ := μ) D zd3_at h.1.1
  have cr := zr_c (μ := μ) zd3_at
  have c : ¬ (2 : Int32) ≤ nI row.length := nI_ge (b := 2) hl (by decide)
  refine ze_in [(0, .ref 1)] zq_Desk_back (Nat.le_of_ble_eq_true rfl) rfl ⟨N1, 7, fun F n hF => ?_⟩
  simp [zg_0, zg_aload_n, zg_getfield, zg_iconst, zg_if_icmp, zg_iload_n, zg_invokevirtual, zg_ireturn, zg_istore_n, zg_ldc, zf_X5_back, zi_ld, zi_lda, zi_cmp, zi_retOk, zi_isI, zi_f3, zi_cr, zi_ci, zi_cn, zi_get, zi_set, zd_g, zq_Row_size, cr, E1 F (by omega), c, n2]
set_option maxRecDepth 100000 in
theorem ze_back (D : Nat) (h : zJ μ row stk Rs ts) (hl : ¬ row.length < 2) : ∃ ν stk' v, ze_E (D + 16) A_Desk_back [.ref 1] (zm_mk μ) (some (.int v)) (zm_mk ν) ∧ zJ ν (row.getD 1 0 :: row.erase (row.getD 1 0)) stk' Rs ts ∧ zd_foc μ ν (row.getD 1 0) := by
  obtain ⟨N1, E1⟩ := ze_Row_sizeL (μ := μ) (D + 14) zd3_at h.1.1
  have cr := zr_c (μ := μ) zd3_at
  have hl10 := h.1.1.1
  have c : (2 : Int32) ≤ nI row.length := nI_le (a := 2) (by omega) (by omega)
  obtain ⟨N3, E3⟩ := ze_Row_getL (μ := μ) (i := 1) (D + 14) zd3_at h.1.1 (by omega)
  have hm : row.getD 1 0 ∈ row := zl_mem (by omega)
  generalize row.getD 1 0 = k at E3 hm
  obtain ⟨hk, ht⟩ := (h.1.2.2 k).mp hm
  rw [show nI 1 = 1 by decide] at E3
  obtain ⟨ν, stk', ⟨N2, E2⟩, hJ, hf⟩ := ze_giveFocusJ (μ := μ) D h hk ht
  refine ⟨ν, stk', nI k, ze_in [(0, .ref 1)] zq_Desk_back (Nat.le_of_ble_eq_true rfl) rfl ⟨N1 + N2 + N3, 15, fun F n hF => ?_⟩, hJ, hf⟩
  simp [zg_0, zg_aload_n, zg_getfield, zg_iconst, zg_if_icmp, zg_iload_n, zg_invokevirtual, zg_ireturn, zg_istore_n, zg_ldc, zf_X5_back, zi_ld, zi_lda, zi_cmp, zi_retOk, zi_isI, zi_f3, zi_cr, zi_ci, zi_cn, zi_get, zi_set, zd_g, zq_Row_size, zq_Row_get, cr, E1 F (by omega), c, E3 F (by omega), zq_Desk_giveFocus, zd_c, E2 F (by omega)]
theorem zl_nb_or (f : Nat → Int32) : ∀ (l : List Nat) (b m : Int32), zl_nb f l b m = b ∨ ∃ i ∈ l, zl_nb f l b m = nI i ∧ m < f i := by
  intro l
  induction l with
  | nil => intro b m; exact Or.inl rfl
  | cons x l ih =>
    intro b m
    show (if m < f x then zl_nb f l (nI x) (f x) else zl_nb f l b m) = b ∨ ∃ i ∈ x :: l, (if m < f x then zl_nb f l (nI x) (f x) else zl_nb f l b m) = nI i ∧ m < f i
    by_cases c : m < f x
    · rw [if_pos c]
      right
      rcases ih (nI x) (f x) with e | ⟨i, hi, e, q⟩
      · exact ⟨x, List.mem_cons_self, e, c⟩
      · exact ⟨i, List.mem_cons_of_mem _ hi, e, Int32.lt_trans c q⟩
    · rw [if_neg c]
      rcases ih b m with e | ⟨i, hi, e, q⟩
      · exact Or.inl e
      · exact Or.inr ⟨i, List.mem_cons_of_mem _ hi, e, q⟩
/-- the neighbour of a window on the screen s -/
def zd_ngb (ν : zm_M) (s k sd : Nat) : Int32 := zl_nb (zt_nf ν (zdT s) k sd) (List.range 10) (-1000000005) 0
theorem zd_ngb_or (h : zJ μ row stk Rs ts) {s k sd : Nat} (hs : s < 3) : zd_ngb μ s k sd = -1000000005 ∨ ∃ i, i < 10 ∧ zd_ngb μ s k sd = nI i ∧ zd_til μ i = true ∧ μ (zdW i) 5 = nI s := by
  rcases zl_nb_or (zt_nf μ (zdT s) k sd) (List.range 10) (-1000000005) 0 with e | ⟨i, hi, e, q⟩
  · exact Or.inl e
  · right
    have hi := List.mem_range.mp hi
    refine ⟨i, hi, e, ?_⟩
    obtain ⟨a1, a2, -⟩ := h.2.2.2.1 s hs
    have hc : ¬ μ (zdT s + 3) i < 0 := by
      intro c
      have : zt_nf μ (zdT s) k sd i = 0 := if_neg (fun q => q.1.1 c)
      rw [this] at q
      exact absurd q (by decide)
    have hR : i ∈ Rs s := by
      by_cases c : i ∈ Rs s
      · exact c
      · exact absurd (by rw [a1.1.2.2.2.2.1 i hi c]; decide) hc
    exact ((a2 i).mp hR).2
/-- the window k is shown in the tree of the screen s -/
def zd_shn (μ : zm_M) (s k : Nat) : Prop := zd_til μ k = true ∧ μ (zdW k) 5 = nI s ∧ μ (zdT s + 12) (μ (zdT s + 3) k).toNatClampNeg = nI k
/-- isShownTile, as it comes out -/
theorem ze_isShownTileJ (D : Nat) (h : zJ μ row stk Rs ts) (w : Int32) : (ze_E (D + 3) A_Desk_isShownTile [.ref 1, .int w] (zm_mk μ) (some (.int 1)) (zm_mk μ) ∧ ∃ k s, k < 10 ∧ s < 3 ∧ w = nI k ∧ zd_shn μ s k) ∨
    (ze_E (D + 3) A_Desk_isShownTile [.ref 1, .int w] (zm_mk μ) (some (.int 0)) (zm_mk μ) ∧ ∀ k s, k < 10 → s < 3 → w = nI k → ¬ zd_shn μ s k) := by
  rcases zd_rng w 10 (by decide) with ⟨k, hk, rfl⟩ | hout
  · obtain ⟨s, hs, hsc⟩ := zJ_shw h hk
    have E := ze_isShownTile (μ := μ) D hk hs (fun q => ⟨(hsc q).1, (hsc q).2.1⟩)
    by_cases c : zd_til μ k = true ∧ (¬ μ (zdT s + 3) k < 0 ∧ μ (zdT s + 12) (μ (zdT s + 3) k).toNatClampNeg = nI k)
    · rw [if_pos c] at E
      exact Or.inl ⟨E, k, s, hk, hs, rfl, c.1, (hsc c.1).1, c.2.2⟩
    · rw [if_neg c] at E
      refine Or.inr ⟨E, fun k' s' hk' hs' e q => c ?_⟩
      have e1 : k = k' := (nI_eq (by omega) (by omega)).mp e
      subst e1
      obtain ⟨q1, q2, q3⟩ := q
      have e2 : s' = s := (nI_eq (by omega) (by omega)).mp (q2.symm.trans (hsc q1).1)
      subst e2
      refine ⟨q1, ?_, q3⟩
      obtain ⟨n, hn, en⟩ := (hsc q1).2.1.2.2.2.1 k (hsc q1).2.2
      have := (hsc q1).2.1.2.1.2.2.1 n (zt_I_lv (hsc q1).2.1 hn).2
      rw [en]
      exact nI_pos (by omega)
  · exact Or.inr ⟨ze_isShownTile_out (D + 1) hout, fun k s hk _ e => by
      rw [e] at hout
      exact absurd hout (fun q => q.elim (nI_pos (by omega)) (nI_ge (b := 10) hk (by decide)))⟩
set_option maxRecDepth 100000 in
theorem ze_neighbour (D : Nat) (h : zJ μ row stk Rs ts) (w x : Int32) : ∃ ν v, ze_E (D + 7) A_Desk_neighbour [.ref 1, .int w, .int x] (zm_mk μ) (some (.int v)) (zm_mk ν) ∧ zJ_eqv μ ν := by
  have n4 : Int32.ofInt (-1000000001) = -1000000001 := by decide
  have n2 : Int32.ofInt (-1000000002) = -1000000002 := by decide
  have hno : ze_E (D + 6) A_Desk_isWindow [.ref 1, .int w] (zm_mk μ) (some (.int 0)) (zm_mk μ) → ∃ ν v, ze_E (D + 7) A_Desk_neighbour [.ref 1, .int w, .int x] (zm_mk μ) (some (.int v)) (zm_mk ν) ∧ zJ_eqv μ ν := by
    rintro ⟨N1, E1⟩
    refine ⟨μ, -1000000001, ze_in [(0, .ref 1), (1, .int w), (2, .int x)] zq_Desk_neighbour (Nat.le_of_ble_eq_true rfl) rfl ⟨N1, 6, fun F n hF => ?_⟩, zJ_eqv.refl⟩
    simp [zg_0, zg_aload_n, zg_ifCond, zg_iload_n, zg_invokestatic, zg_invokevirtual, zg_ireturn, zg_ldc, zf_X5_neighbour, zi_ld, zi_lda, zi_cmp, zi_retOk, zi_isI, zi_f3, zi_cr, zi_ci, zi_cn, zi_get, zi_set, zq_Desk_isWindow, zd_c, E1 F (by omega), n4]
  rcases zd_rng w 10 (by decide) with ⟨k, hk, rfl⟩ | hout
  · have E1 := ze_thW (μ := μ) (D + 5) hk
    by_cases c1 : zd_th μ k = true
    · rw [if_pos c1] at E1
      obtain ⟨N1, E1⟩ := E1
      rcases zd_rng x 4 (by decide) with ⟨sd, hsd, rfl⟩ | ho
      · obtain ⟨N2, E2⟩ := ze_isSide_in (h := zm_mk μ) (D + 5) hsd
        rcases ze_isShownTileJ (D + 3) h (nI k) with ⟨⟨N3, E3⟩, k', s, hk', hs, ek, hsh⟩ | ⟨⟨N3, E3⟩, -⟩
        · have e : k = k' := (nI_eq (by omega) (by omega)).mp ek
          subst e
          obtain ⟨ν, ⟨N4, E4⟩, f4, -⟩ := ze_layTrees (μ := μ) D (fun s hs => (h.2.2.2.1 s hs).1)
          have hJ := h.eqv (zd_frA_eqv f4)
          obtain ⟨N5, E5⟩ := ze_treeOf (μ := ν) (D + 5) hk hs (by rw [zd_frA_eqv f4 _ (zJn_W hk).1]; exact hsh.2.1)
          obtain ⟨N6, E6⟩ := ze_Tree_neighbourTo (μ := ν) (D + 1) (zdT_at hs) (zt_I_hm (hJ.2.2.2.1 s hs).1.1) hk hsd
          obtain ⟨lt, ct⟩ := zt_c (μ := ν) (zdT_at hs)
          generalize zl_nb (zt_nf ν (zdT s) k sd) (List.range 10) (-1000000005) 0 = v at E6
          refine ⟨ν, v, ze_in [(0, .ref 1), (1, .int (nI k)), (2, .int (nI sd))] zq_Desk_neighbour (Nat.le_of_ble_eq_true rfl) rfl ⟨N1 + N2 + N3 + N4 + N5 + N6, 20, fun F n hF => ?_⟩, zd_frA_eqv f4⟩
          simp [zg_0, zg_aload_n, zg_ifCond, zg_iload_n, zg_invokestatic, zg_invokevirtual, zg_ireturn, zg_ldc, zf_X5_neighbour, zi_ld, zi_lda, zi_cmp, zi_retOk, zi_isI, zi_f3, zi_cr, zi_ci, zi_cn, zi_get, zi_set, zq_Desk_isWindow, zd_c, E1 F (by omega), zq_Desk_isSide, E2 F (by omega), zq_Desk_isShownTile, E3 F (by omega), zq_Desk_layTrees, E4 F (by omega), zq_Desk_treeOf, E5 F (by omega), zq_Tree_neighbourTo, ct, E6 F (by omega)]
        · refine ⟨μ, -1000000002, ze_in [(0, .ref 1), (1, .int (nI k)), (2, .int (nI sd))] zq_Desk_neighbour (Nat.le_of_ble_eq_true rfl) rfl ⟨N1 + N2 + N3, 13, fun F n hF => ?_⟩, zJ_eqv.refl⟩
          simp [zg_0, zg_aload_n, zg_ifCond, zg_iload_n, zg_invokestatic, zg_invokevirtual, zg_ireturn, zg_ldc, zf_X5_neighbour, zi_ld, zi_lda, zi_cmp, zi_retOk, zi_isI, zi_f3, zi_cr, zi_ci, zi_cn, zi_get, zi_set, zq_Desk_isWindow, zd_c, E1 F (by omega), zq_Desk_isSide, E2 F (by omega), zq_Desk_isShownTile, E3 F (by omega), n2]
      · obtain ⟨N2, E2⟩ := ze_isSide_out (h := zm_mk μ) (D + 5) ho
        refine ⟨μ, -1000000001, ze_in [(0, .ref 1), (1, .int (nI k)), (2, .int x)] zq_Desk_neighbour (Nat.le_of_ble_eq_true rfl) rfl ⟨N1 + N2, 9, fun F n hF => ?_⟩, zJ_eqv.refl⟩
        simp [zg_0, zg_aload_n, zg_ifCond, zg_iload_n, zg_invokestatic, zg_invokevirtual, zg_ireturn, zg_ldc, zf_X5_neighbour, zi_ld, zi_lda, zi_cmp, zi_retOk, zi_isI, zi_f3, zi_cr, zi_ci, zi_cn, zi_get, zi_set, zq_Desk_isWindow, zd_c, E1 F (by omega), zq_Desk_isSide, E2 F (by omega), n4]
    · rw [if_neg c1] at E1
      exact hno E1
  · exact hno (ze_isWindow_out (D + 5) hout)
set_option maxRecDepth 100000 in
/-- toward(side) -/
theorem ze_toward (D : Nat) (h : zJ μ row stk Rs ts) (x : Int32) : ∃ ν v row' stk', ze_E (D + 16) A_Desk_toward [.ref 1, .int x] (zm_mk μ) (some (.int v)) (zm_mk ν) ∧ zJ ν row' stk' Rs ts ∧
    (((∀ sd, sd < 4 → x = nI sd → ∀ s, s < 3 → row ≠ [] → ¬ zd_shn μ s (row.getD 0 0)) ∧ ν = μ ∧ row' = row) ∨
     (∃ sd s ξ, sd < 4 ∧ s < 3 ∧ x = nI sd ∧ row ≠ [] ∧ zd_shn μ s (row.getD 0 0) ∧ zJ_eqv μ ξ ∧ (∀ q, q < 3 → zd_laid ξ q (Rs q) (ts q)) ∧
       ((zd_ngb ξ s (row.getD 0 0) sd = -1000000005 ∧ ν = ξ ∧ row' = row) ∨ ∃ i, i < 10 ∧ zd_th μ i = true ∧ zd_ngb ξ s (row.getD 0 0) sd = nI i ∧ row' = i :: row.erase i ∧ zd_foc ξ ν i))) := by
  have n4 : Int32.ofInt (-1000000001) = -1000000001 := by decide
  have n2 : Int32.ofInt (-1000000002) = -1000000002 := by decide
  have hl10 := h.1.1.1
  rcases zd_rng x 4 (by decide) with ⟨sd, hsd, rfl⟩ | ho
  · obtain ⟨N1, E1⟩ := ze_isSide_in (h := zm_mk μ) (D + 14) hsd
    have cr := zr_c (μ := μ) zd3_at
    have E2 : ze_E (D + 15) A_Row_get [.ref (3 + 1), .int 0] (zm_mk μ) (some (.int (if row = [] then -1 else nI (row.getD 0 0)))) (zm_mk μ) := by
      by_cases c : row = []
      · rw [if_pos c]
        have := ze_Row_get (μ := μ) (r := 3) (D + 14) 0 zd3_at (by rw [h.1.1.2.1]; exact nI_le (b := 10) h.1.1.1 (by decide))
        rw [if_neg (fun q => by
          have := q.2
          rw [h.1.1.2.1, c] at this
          exact absurd this (by decide))] at this
        exact this
      · rw [if_neg c]
        have := ze_Row_getL (μ := μ) (i := 0) (D + 14) zd3_at h.1.1 (List.length_pos_iff.mpr c)
        rw [nI_0] at this
        exact this
    obtain ⟨N2, E2⟩ := E2
    generalize hw : (if row = [] then (-1 : Int32) else nI (row.getD 0 0)) = w at E2
    rcases ze_isShownTileJ (D + 12) h w with ⟨⟨N3, E3⟩, k, s, hk, hs, ek, hsh⟩ | ⟨⟨N3, E3⟩, hno⟩
    · have hne : row ≠ [] := fun c => by
        rw [if_pos c, ek] at hw
        have : nI k < 0 := by rw [← hw]; decide
        exact nI_pos (by omega) this
      rw [if_neg hne, ek] at hw
      have hm0 : row.getD 0 0 ∈ row := zl_mem (List.length_pos_iff.mpr hne)
      have hb0 := ((h.1.2.2 _).mp hm0).1
      have ek0 : row.getD 0 0 = k := (nI_eq (by omega) (by omega)).mp hw
      subst ek
      obtain ⟨ξ, ⟨N4, E4⟩, f4, hlaid⟩ := ze_layTrees (μ := μ) (D + 9) (fun s hs => (h.2.2.2.1 s hs).1)
      have hev := zd_frA_eqv f4
      have hJ := h.eqv hev
      obtain ⟨N5, E5⟩ := ze_treeOf (μ := ξ) (D + 14) hk hs (by rw [hev _ (zJn_W hk).1]; exact hsh.2.1)
      obtain ⟨N6, E6⟩ := ze_Tree_neighbourTo (μ := ξ) (D + 10) (zdT_at hs) (zt_I_hm (hJ.2.2.2.1 s hs).1.1) hk hsd
      obtain ⟨lt, ct⟩ := zt_c (μ := ξ) (zdT_at hs)
      have hor := zd_ngb_or hJ (s := s) (k := k) (sd := sd) hs
      have E6' : ∀ F, N6 ≤ F → zi_run zi_ms F (D + 10 + 5) A_Tree_neighbourTo [.ref (zdT s + 1), .int (nI k), .int (nI sd)] (zm_mk ξ) [] = some [([], some (.int (zd_ngb ξ s k sd)), zm_mk ξ)] := E6
      generalize hv : zd_ngb ξ s k sd = v at E6' hor
      have S0 : ze_S (D + 15) 4 (some .int) zc_X5_toward 0 [(0, .ref 1), (1, .int (nI sd))] [] (zm_mk μ) 45 [(3, .int v), (2, .int (nI k)), (0, .ref 1), (1, .int (nI sd))] [] (zm_mk ξ) := by
        refine ⟨N1 + N2 + N3 + N4 + N5 + N6, 21, fun F n hF => ?_⟩
        simp [zg_0, zg_aload_n, zg_getfield, zg_iconst, zg_ifCond, zg_iload_n, zg_invokestatic, zg_invokevirtual, zg_ireturn, zg_istore_n, zg_ldc, zf_X5_toward, zi_ld, zi_lda, zi_cmp, zi_retOk, zi_isI, zi_f3, zi_cr, zi_ci, zi_cn, zi_get, zi_set, zq_Desk_isSide, E1 F (by omega), zd_g, zq_Row_get, cr, E2 F (by omega), zq_Desk_isShownTile, zd_c, E3 F (by omega), zq_Desk_layTrees, E4 F (by omega), zq_Desk_treeOf, E5 F (by omega), zq_Tree_neighbourTo, ct, E6' F (by omega)]
      rcases hor with rfl | ⟨i, hi, rfl, hit, his⟩
      · obtain ⟨N7, E7⟩ := ze_isWindow_out (μ := ξ) (D + 14) (x := -1000000005) (Or.inl (by decide))
        refine ⟨ξ, -1000000005, row, stk, ze_in [(0, .ref 1), (1, .int (nI sd))] zq_Desk_toward (Nat.le_of_ble_eq_true rfl) rfl (S0.end ⟨N7, 6, fun F n hF => ?_⟩), hJ, Or.inr ⟨sd, s, ξ, hsd, hs, rfl, hne, by rw [ek0]; exact hsh, hev, hlaid, Or.inl ⟨by rw [ek0]; exact hv, rfl, rfl⟩⟩⟩
        simp [zg_0, zg_aload_n, zg_getfield, zg_iconst, zg_ifCond, zg_iload_n, zg_invokestatic, zg_invokevirtual, zg_ireturn, zg_istore_n, zg_ldc, zf_X5_toward, zi_ld, zi_lda, zi_cmp, zi_retOk, zi_isI, zi_f3, zi_cr, zi_ci, zi_cn, zi_get, zi_set, zq_Desk_isWindow, zd_c, E7 F (by omega)]
      · have hith : zd_th ξ i = true := decide_eq_true (of_decide_eq_true hit).1
        obtain ⟨N7, E7⟩ := ze_thW (μ := ξ) (D + 14) hi
        rw [if_pos hith] at E7
        obtain ⟨ν, stk', ⟨N8, E8⟩, hJ', hf⟩ := ze_giveFocusJ (μ := ξ) D hJ hi hith
        have hith' : zd_th μ i = true := by
          unfold zd_th at *
          rw [hev _ (zJn_W hi).1] at hith
          exact hith
        refine ⟨ν, nI i, i :: row.erase i, stk', ze_in [(0, .ref 1), (1, .int (nI sd))] zq_Desk_toward (Nat.le_of_ble_eq_true rfl) rfl (S0.end ⟨N7 + N8, 9, fun F n hF => ?_⟩), hJ', Or.inr ⟨sd, s, ξ, hsd, hs, rfl, hne, by rw [ek0]; exact hsh, hev, hlaid, Or.inr ⟨i, hi, hith', by rw [ek0]; exact hv, rfl, hf⟩⟩⟩
        simp [zg_0, zg_aload_n, zg_getfield, zg_iconst, zg_ifCond, zg_iload_n, zg_invokestatic, zg_invokevirtual, zg_ireturn, zg_istore_n, zg_ldc, zf_X5_toward, zi_ld, zi_lda, zi_cmp, zi_retOk, zi_isI, zi_f3, zi_cr, zi_ci, zi_cn, zi_get, zi_set, zq_Desk_isWindow, zd_c, E7 F (by omega), zq_Desk_giveFocus, E8 F (by omega)]
    · refine ⟨μ, -1000000002, row, stk, ze_in [(0, .ref 1), (1, .int (nI sd))] zq_Desk_toward (Nat.le_of_ble_eq_true rfl) rfl ⟨N1 + N2 + N3, 14, fun F n hF => ?_⟩, h, Or.inl ⟨fun sd' hsd' e s hs hne => ?_, rfl, rfl⟩⟩
      · simp [zg_0, zg_aload_n, zg_getfield, zg_iconst, zg_ifCond, zg_iload_n, zg_invokestatic, zg_invokevirtual, zg_ireturn, zg_istore_n, zg_ldc, zf_X5_toward, zi_ld, zi_lda, zi_cmp, zi_retOk, zi_isI, zi_f3, zi_cr, zi_ci, zi_cn, zi_get, zi_set, zq_Desk_isSide, E1 F (by omega), zd_g, zq_Row_get, cr, E2 F (by omega), zq_Desk_isShownTile, zd_c, E3 F (by omega), n2]
      · have hm0 : row.getD 0 0 ∈ row := zl_mem (List.length_pos_iff.mpr hne)
        have hb0 := ((h.1.2.2 _).mp hm0).1
        exact hno _ s hb0 hs (by rw [← hw, if_neg hne])
  · obtain ⟨N1, E1⟩ := ze_isSide_out (h := zm_mk μ) (D + 14) ho
    refine ⟨μ, -1000000001, row, stk, ze_in [(0, .ref 1), (1, .int x)] zq_Desk_toward (Nat.le_of_ble_eq_true rfl) rfl ⟨N1, 5, fun F n hF => ?_⟩, h, Or.inl ⟨fun sd hsd e => ?_, rfl, rfl⟩⟩
    · simp [zg_0, zg_aload_n, zg_getfield, zg_iconst, zg_ifCond, zg_iload_n, zg_invokestatic, zg_invokevirtual, zg_ireturn, zg_istore_n, zg_ldc, zf_X5_toward, zi_ld, zi_lda, zi_cmp, zi_retOk, zi_isI, zi_f3, zi_cr, zi_ci, zi_cn, zi_get, zi_set, zq_Desk_isSide, E1 F (by omega), n4]
    · rw [e] at ho
      exact absurd ho (fun q => q.elim (nI_pos (by omega)) (nI_ge (b := 4) hsd (by decide)))
end ZQ5
