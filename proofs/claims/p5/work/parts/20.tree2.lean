section
/-! Tree: more that goes straight -/
section ZT2
variable {μ : zm_M} {T : Nat}
/-- the leaves that windows stand in are nodes, or none -/
noncomputable def zt_hm (μ : zm_M) (T : Nat) : Prop := ∀ k, k < 10 → μ (T + 3) k < 0 ∨ zi_in (μ (T + 3) k) 19 = true
set_option maxRecDepth 100000 in
theorem ze_Tree_isShown (D : Nat) (h : zt_at T) (hm : zt_hm μ T) {k : Nat} (hk : k < 10) : ze_E (D + 2) A_Tree_isShown [.ref (T + 1), .int (nI k)] (zm_mk μ) (some (.int (zb (¬ μ (T + 3) k < 0 ∧ μ (T + 12) (μ (T + 3) k).toNatClampNeg = nI k)))) (zm_mk μ) := by
  obtain ⟨N, h1⟩ := ze_Tree_leafOf (μ := μ) D h hk
  obtain ⟨lc, hc⟩ := zt_c (μ := μ) h
  refine ze_in [(0, .ref (T + 1)), (1, .int (nI k))] zq_Tree_isShown (Nat.le_of_ble_eq_true rfl) rfl ⟨N, 20, fun F n hF => ?_⟩
  by_cases c : μ (T + 3) k < 0
  · simp [zg_0, zg_aload_n, zg_getfield, zg_goto, zg_iaload, zg_iconst, zg_ifCond, zg_if_icmp, zg_iload_n, zg_invokevirtual, zg_ireturn, zg_istore_n, zf_X3_isShown, zi_ld, zi_lda, zi_cmp, zi_retOk, zi_isI, zi_f3, zi_cr, zi_ci, zi_cn, zi_get, zi_set, zq_Tree_leafOf, hc, h1 F hF, c, zb]
  · have hin := (hm k hk).resolve_left c
    by_cases c2 : μ (T + 12) (μ (T + 3) k).toNatClampNeg = nI k <;> simp [zg_0, zg_aload_n, zg_getfield, zg_goto, zg_iaload, zg_iconst, zg_ifCond, zg_if_icmp, zg_iload_n, zg_invokevirtual, zg_ireturn, zg_istore_n, zf_X3_isShown, zi_ld, zi_lda, zi_cmp, zi_retOk, zi_isI, zi_f3, zi_cr, zi_ci, zi_cn, zi_get, zi_set, zq_Tree_leafOf, hc, h1 F hF, zt_g h, c, zm_iald (k := 0) h.2.2.2.2.1.2.2.2.2.2.1 hin, c2, zb]
set_option maxRecDepth 100000 in
theorem ze_Tree_show (D : Nat) (h : zt_at T) (hm : zt_hm μ T) {k : Nat} (hk : k < 10) : ze_E (D + 2) A_Tree_show [.ref (T + 1), .int (nI k)] (zm_mk μ) none (zm_mk (if μ (T + 3) k < 0 then μ else zm_up μ (T + 12) (μ (T + 3) k).toNatClampNeg (nI k))) := by
  obtain ⟨N, h1⟩ := ze_Tree_leafOf (μ := μ) D h hk
  obtain ⟨lc, hc⟩ := zt_c (μ := μ) h
  refine ze_in [(0, .ref (T + 1)), (1, .int (nI k))] zq_Tree_show (Nat.le_of_ble_eq_true rfl) rfl ⟨N, 20, fun F n hF => ?_⟩
  by_cases c : μ (T + 3) k < 0
  · rw [if_pos c]
    simp [zg_0, zg_aload_n, zg_getfield, zg_iastore, zg_ifCond, zg_iload_n, zg_invokevirtual, zg_istore_n, zg_return, zf_X3_show, zi_ld, zi_lda, zi_cmp, zi_retOk, zi_isI, zi_f3, zi_cr, zi_ci, zi_cn, zi_get, zi_set, zq_Tree_leafOf, hc, h1 F hF, c]
  · have hin := (hm k hk).resolve_left c
    rw [if_neg c]
    simp [zg_0, zg_aload_n, zg_getfield, zg_iastore, zg_ifCond, zg_iload_n, zg_invokevirtual, zg_istore_n, zg_return, zf_X3_show, zi_ld, zi_lda, zi_cmp, zi_retOk, zi_isI, zi_f3, zi_cr, zi_ci, zi_cn, zi_get, zi_set, zq_Tree_leafOf, hc, h1 F hF, zt_g h, c, zm_iast h.2.2.2.2.1.2.2.2.2.2.1 hin]
/-- the least size of the whole tree -/
noncomputable def zt_ls (μ : zm_M) (T a : Nat) : Int32 := if μ T 9 < 0 then 0 else μ (T + 16 + a) (μ T 9).toNatClampNeg
set_option maxRecDepth 100000 in
theorem ze_Tree_fits (D : Nat) (h : zt_at T) (hr : μ T 9 < 0 ∨ zi_in (μ T 9) 19 = true) {z : Nat} (hz : zm_isA 7 z 2) : ze_E (D + 2) A_Tree_fits [.ref (T + 1), .ref (z + 1)] (zm_mk μ) (some (.int (zb (zt_ls μ T 0 ≤ μ z 0 ∧ zt_ls μ T 1 ≤ μ z 1)))) (zm_mk μ) := by
  obtain ⟨N, h1⟩ := ze_Tree_leastOf (μ := μ) D h (a := 0) (by decide) hr
  obtain ⟨M, h2⟩ := ze_Tree_leastOf (μ := μ) D h (a := 1) (by decide) hr
  obtain ⟨lc, hc⟩ := zt_c (μ := μ) h
  have n0 : nI 0 = 0 := nI_0
  have n1 : nI 1 = 1 := by decide
  rw [n0] at h1
  rw [n1] at h2
  have h1 : ∀ F, N ≤ F → zi_run zi_ms F (D + 1) A_Tree_leastOf [.ref (T + 1), .int 0] (zm_mk μ) [] = some [([], some (.int (zt_ls μ T 0)), zm_mk μ)] := h1
  have h2 : ∀ F, M ≤ F → zi_run zi_ms F (D + 1) A_Tree_leastOf [.ref (T + 1), .int 1] (zm_mk μ) [] = some [([], some (.int (zt_ls μ T 1)), zm_mk μ)] := h2
  refine ze_in [(0, .ref (T + 1)), (1, .ref (z + 1))] zq_Tree_fits (Nat.le_of_ble_eq_true rfl) rfl ⟨N + M, 24, fun F n hF => ?_⟩
  by_cases c : μ z 0 < zt_ls μ T 0
  · have c' : ¬ zt_ls μ T 0 ≤ μ z 0 := Int32.not_le.mpr c
    simp [zg_0, zg_aload_n, zg_goto, zg_iaload, zg_iconst, zg_if_icmp, zg_invokevirtual, zg_ireturn, zf_X3_fits, zi_ld, zi_lda, zi_cmp, zi_retOk, zi_isI, zi_f3, zi_cr, zi_ci, zi_cn, zi_get, zq_Tree_leastOf, hc, h1 F (by omega), zm_iald (k := 0) hz zm_in0, zm_cl0, c, c', zb]
  · have c' : zt_ls μ T 0 ≤ μ z 0 := Int32.not_lt.mp c
    by_cases c2 : μ z 1 < zt_ls μ T 1
    · have c2' : ¬ zt_ls μ T 1 ≤ μ z 1 := Int32.not_le.mpr c2
      simp [zg_0, zg_aload_n, zg_goto, zg_iaload, zg_iconst, zg_if_icmp, zg_invokevirtual, zg_ireturn, zf_X3_fits, zi_ld, zi_lda, zi_cmp, zi_retOk, zi_isI, zi_f3, zi_cr, zi_ci, zi_cn, zi_get, zq_Tree_leastOf, hc, h1 F (by omega), h2 F (by omega), zm_iald (k := 0) hz zm_in0, zm_iald (k := 0) hz zm_in1, zm_cl0, zm_cl1, c, c', c2, c2', zb]
    · have c2' : zt_ls μ T 1 ≤ μ z 1 := Int32.not_lt.mp c2
      simp [zg_0, zg_aload_n, zg_goto, zg_iaload, zg_iconst, zg_if_icmp, zg_invokevirtual, zg_ireturn, zf_X3_fits, zi_ld, zi_lda, zi_cmp, zi_retOk, zi_isI, zi_f3, zi_cr, zi_ci, zi_cn, zi_get, zq_Tree_leastOf, hc, h1 F (by omega), h2 F (by omega), zm_iald (k := 0) hz zm_in0, zm_iald (k := 0) hz zm_in1, zm_cl0, zm_cl1, c, c', c2, c2', zb]
set_option maxRecDepth 100000 in
theorem ze_Tree_isWide (D : Nat) (h : zt_at T) {x : Int32} (hx : zi_in x 19 = true) : ze_E (D + 1) A_Tree_isWide [.ref (T + 1), .int x] (zm_mk μ) (some (.int (zb (μ (T + 23) x.toNatClampNeg ≤ μ (T + 22) x.toNatClampNeg)))) (zm_mk μ) := by
  refine ze_in [(0, .ref (T + 1)), (1, .int x)] zq_Tree_isWide (Nat.le_of_ble_eq_true rfl) rfl ⟨0, 20, fun F n hF => ?_⟩
  by_cases c : μ (T + 22) x.toNatClampNeg < μ (T + 23) x.toNatClampNeg
  · have c' : ¬ μ (T + 23) x.toNatClampNeg ≤ μ (T + 22) x.toNatClampNeg := Int32.not_le.mpr c
    simp [zg_0, zg_aaload, zg_aload_n, zg_getfield, zg_goto, zg_iaload, zg_iconst, zg_if_icmp, zg_iload_n, zg_ireturn, zf_X3_isWide, zi_ld, zi_lda, zi_cmp, zi_retOk, zi_isI, zi_f3, zi_cr, zi_ci, zi_cn, zi_get, zt_g h, zm_ax0 h.2.2.2.2.2.2.2.1, zm_ax1 h.2.2.2.2.2.2.2.1, zm_iald (k := 0) h.2.2.2.2.2.2.2.2.1 hx, zm_iald (k := 0) h.2.2.2.2.2.2.2.2.2 hx, c, c', zb]
  · have c' : μ (T + 23) x.toNatClampNeg ≤ μ (T + 22) x.toNatClampNeg := Int32.not_lt.mp c
    simp [zg_0, zg_aaload, zg_aload_n, zg_getfield, zg_goto, zg_iaload, zg_iconst, zg_if_icmp, zg_iload_n, zg_ireturn, zf_X3_isWide, zi_ld, zi_lda, zi_cmp, zi_retOk, zi_isI, zi_f3, zi_cr, zi_ci, zi_cn, zi_get, zt_g h, zm_ax0 h.2.2.2.2.2.2.2.1, zm_ax1 h.2.2.2.2.2.2.2.1, zm_iald (k := 0) h.2.2.2.2.2.2.2.2.1 hx, zm_iald (k := 0) h.2.2.2.2.2.2.2.2.2 hx, c, c', zb]
/-- where a window's leaf begins, and how long it is -/
noncomputable def zt_so (μ : zm_M) (T a k : Nat) : Int32 := if μ (T + 3) k < 0 then 0 else μ (T + 19 + a) (μ (T + 3) k).toNatClampNeg
noncomputable def zt_lo (μ : zm_M) (T a k : Nat) : Int32 := if μ (T + 3) k < 0 then 0 else μ (T + 22 + a) (μ (T + 3) k).toNatClampNeg
set_option maxRecDepth 100000 in
theorem ze_Tree_startOf (D : Nat) (h : zt_at T) (hm : zt_hm μ T) {k a : Nat} (hk : k < 10) (ha : a < 2) : ze_E (D + 2) A_Tree_startOf [.ref (T + 1), .int (nI k), .int (nI a)] (zm_mk μ) (some (.int (zt_so μ T a k))) (zm_mk μ) := by
  obtain ⟨N, h1⟩ := ze_Tree_leafOf (μ := μ) D h hk
  obtain ⟨lc, hc⟩ := zt_c (μ := μ) h
  refine ze_in [(0, .ref (T + 1)), (1, .int (nI k)), (2, .int (nI a))] zq_Tree_startOf (Nat.le_of_ble_eq_true rfl) rfl ⟨N, 20, fun F n hF => ?_⟩
  have n0 : nI 0 = 0 := nI_0
  have n1 : nI 1 = 1 := by decide
  unfold zt_so
  by_cases c : μ (T + 3) k < 0
  · have c' : ¬ (0 : Int32) ≤ μ (T + 3) k := Int32.not_le.mpr c
    simp [zg_0, zg_aaload, zg_aload_n, zg_getfield, zg_goto, zg_iaload, zg_iconst, zg_ifCond, zg_iload_n, zg_invokevirtual, zg_ireturn, zg_istore_n, zf_X3_startOf, zi_ld, zi_lda, zi_cmp, zi_retOk, zi_isI, zi_f3, zi_cr, zi_ci, zi_cn, zi_get, zi_set, zq_Tree_leafOf, hc, h1 F hF, c, c']
  · have c' : (0 : Int32) ≤ μ (T + 3) k := Int32.not_lt.mp c
    have hin := (hm k hk).resolve_left c
    match a, ha with
    | 0, _ => simp [zg_0, zg_aaload, zg_aload_n, zg_getfield, zg_goto, zg_iaload, zg_iconst, zg_ifCond, zg_iload_n, zg_invokevirtual, zg_ireturn, zg_istore_n, zf_X3_startOf, zi_ld, zi_lda, zi_cmp, zi_retOk, zi_isI, zi_f3, zi_cr, zi_ci, zi_cn, zi_get, zi_set, zq_Tree_leafOf, hc, h1 F hF, zt_g h, c, c', n0, zm_ax0 h.2.2.2.2.2.2.1.1, zm_iald (k := 0) h.2.2.2.2.2.2.1.2.1 hin]
    | 1, _ => simp [zg_0, zg_aaload, zg_aload_n, zg_getfield, zg_goto, zg_iaload, zg_iconst, zg_ifCond, zg_iload_n, zg_invokevirtual, zg_ireturn, zg_istore_n, zf_X3_startOf, zi_ld, zi_lda, zi_cmp, zi_retOk, zi_isI, zi_f3, zi_cr, zi_ci, zi_cn, zi_get, zi_set, zq_Tree_leafOf, hc, h1 F hF, zt_g h, c, c', n1, zm_ax1 h.2.2.2.2.2.2.1.1, zm_iald (k := 0) h.2.2.2.2.2.2.1.2.2 hin]
set_option maxRecDepth 100000 in
theorem ze_Tree_lengthOf (D : Nat) (h : zt_at T) (hm : zt_hm μ T) {k a : Nat} (hk : k < 10) (ha : a < 2) : ze_E (D + 2) A_Tree_lengthOf [.ref (T + 1), .int (nI k), .int (nI a)] (zm_mk μ) (some (.int (zt_lo μ T a k))) (zm_mk μ) := by
  obtain ⟨N, h1⟩ := ze_Tree_leafOf (μ := μ) D h hk
  obtain ⟨lc, hc⟩ := zt_c (μ := μ) h
  refine ze_in [(0, .ref (T + 1)), (1, .int (nI k)), (2, .int (nI a))] zq_Tree_lengthOf (Nat.le_of_ble_eq_true rfl) rfl ⟨N, 20, fun F n hF => ?_⟩
  have n0 : nI 0 = 0 := nI_0
  have n1 : nI 1 = 1 := by decide
  unfold zt_lo
  by_cases c : μ (T + 3) k < 0
  · have c' : ¬ (0 : Int32) ≤ μ (T + 3) k := Int32.not_le.mpr c
    simp [zg_0, zg_aaload, zg_aload_n, zg_getfield, zg_goto, zg_iaload, zg_iconst, zg_ifCond, zg_iload_n, zg_invokevirtual, zg_ireturn, zg_istore_n, zf_X3_lengthOf, zi_ld, zi_lda, zi_cmp, zi_retOk, zi_isI, zi_f3, zi_cr, zi_ci, zi_cn, zi_get, zi_set, zq_Tree_leafOf, hc, h1 F hF, c, c']
  · have c' : (0 : Int32) ≤ μ (T + 3) k := Int32.not_lt.mp c
    have hin := (hm k hk).resolve_left c
    match a, ha with
    | 0, _ => simp [zg_0, zg_aaload, zg_aload_n, zg_getfield, zg_goto, zg_iaload, zg_iconst, zg_ifCond, zg_iload_n, zg_invokevirtual, zg_ireturn, zg_istore_n, zf_X3_lengthOf, zi_ld, zi_lda, zi_cmp, zi_retOk, zi_isI, zi_f3, zi_cr, zi_ci, zi_cn, zi_get, zi_set, zq_Tree_leafOf, hc, h1 F hF, zt_g h, c, c', n0, zm_ax0 h.2.2.2.2.2.2.2.1, zm_iald (k := 0) h.2.2.2.2.2.2.2.2.1 hin]
    | 1, _ => simp [zg_0, zg_aaload, zg_aload_n, zg_getfield, zg_goto, zg_iaload, zg_iconst, zg_ifCond, zg_iload_n, zg_invokevirtual, zg_ireturn, zg_istore_n, zf_X3_lengthOf, zi_ld, zi_lda, zi_cmp, zi_retOk, zi_isI, zi_f3, zi_cr, zi_ci, zi_cn, zi_get, zi_set, zq_Tree_leafOf, hc, h1 F hF, zt_g h, c, c', n1, zm_ax1 h.2.2.2.2.2.2.2.1, zm_iald (k := 0) h.2.2.2.2.2.2.2.2.2 hin]
set_option maxRecDepth 100000 in
theorem ze_Tree_endOf (D : Nat) (h : zt_at T) (hm : zt_hm μ T) {k a : Nat} (hk : k < 10) (ha : a < 2) : ze_E (D + 3) A_Tree_endOf [.ref (T + 1), .int (nI k), .int (nI a)] (zm_mk μ) (some (.int (zt_so μ T a k + zt_lo μ T a k))) (zm_mk μ) := by
  obtain ⟨N, h1⟩ := ze_Tree_startOf (μ := μ) D h hm hk ha
  obtain ⟨M, h2⟩ := ze_Tree_lengthOf (μ := μ) D h hm hk ha
  obtain ⟨lc, hc⟩ := zt_c (μ := μ) h
  refine ze_in [(0, .ref (T + 1)), (1, .int (nI k)), (2, .int (nI a))] zq_Tree_endOf (Nat.le_of_ble_eq_true rfl) rfl ⟨N + M, 14, fun F n hF => ?_⟩
  simp [zg_0, zg_aload_n, zg_iadd, zg_iload_n, zg_invokevirtual, zg_ireturn, zf_X3_endOf, zi_ld, zi_lda, zi_cmp, zi_retOk, zi_isI, zi_f3, zi_cr, zi_ci, zi_cn, zi_get, zq_Tree_startOf, zq_Tree_lengthOf, hc, h1 F (by omega), h2 F (by omega)]
set_option maxRecDepth 100000 in
theorem ze_Tree_spans (D : Nat) (h : zt_at T) (hm : zt_hm μ T) {k a : Nat} (hk : k < 10) (ha : a < 2) (x : Int32) : ze_E (D + 4) A_Tree_spans [.ref (T + 1), .int (nI k), .int x, .int (nI a)] (zm_mk μ) (some (.int (zb (zt_so μ T a k ≤ x ∧ x < zt_so μ T a k + zt_lo μ T a k)))) (zm_mk μ) := by
  obtain ⟨N, h1⟩ := ze_Tree_startOf (μ := μ) (D + 1) h hm hk ha
  obtain ⟨M, h2⟩ := ze_Tree_endOf (μ := μ) D h hm hk ha
  obtain ⟨lc, hc⟩ := zt_c (μ := μ) h
  refine ze_in [(0, .ref (T + 1)), (1, .int (nI k)), (2, .int x), (3, .int (nI a))] zq_Tree_spans (Nat.le_of_ble_eq_true rfl) rfl ⟨N + M, 20, fun F n hF => ?_⟩
  by_cases c : x < zt_so μ T a k
  · have c' : ¬ zt_so μ T a k ≤ x := Int32.not_le.mpr c
    simp [zg_0, zg_aload_n, zg_goto, zg_iconst, zg_if_icmp, zg_iload_n, zg_invokevirtual, zg_ireturn, zf_X3_spans, zi_ld, zi_lda, zi_cmp, zi_retOk, zi_isI, zi_f3, zi_cr, zi_ci, zi_cn, zi_get, zq_Tree_startOf, zq_Tree_endOf, hc, h1 F (by omega), c, c', zb]
  · have c' : zt_so μ T a k ≤ x := Int32.not_lt.mp c
    by_cases c2 : zt_so μ T a k + zt_lo μ T a k ≤ x
    · have c2' : ¬ x < zt_so μ T a k + zt_lo μ T a k := Int32.not_lt.mpr c2
      simp [zg_0, zg_aload_n, zg_goto, zg_iconst, zg_if_icmp, zg_iload_n, zg_invokevirtual, zg_ireturn, zf_X3_spans, zi_ld, zi_lda, zi_cmp, zi_retOk, zi_isI, zi_f3, zi_cr, zi_ci, zi_cn, zi_get, zq_Tree_startOf, zq_Tree_endOf, hc, h1 F (by omega), h2 F (by omega), c, c', c2, c2', zb]
    · have c2' : x < zt_so μ T a k + zt_lo μ T a k := Int32.not_le.mp c2
      simp [zg_0, zg_aload_n, zg_goto, zg_iconst, zg_if_icmp, zg_iload_n, zg_invokevirtual, zg_ireturn, zf_X3_spans, zi_ld, zi_lda, zi_cmp, zi_retOk, zi_isI, zi_f3, zi_cr, zi_ci, zi_cn, zi_get, zq_Tree_startOf, zq_Tree_endOf, hc, h1 F (by omega), h2 F (by omega), c, c', c2, c2', zb]
set_option maxRecDepth 100000 in
theorem ze_Tree_clear (D : Nat) (h : zt_at T) : ze_E (D + 2) A_Tree_clear [.ref (T + 1)] (zm_mk μ) none (zm_mk (zm_up (zm_up (zm_fl (zm_fl (zm_up μ (T + 1) 1 0) (T + 3) (-1) 10) (T + 7) 3 19) T 9 (-1)) T 12 0)) := by
  obtain ⟨N1, h1⟩ := ze_Row_clear (μ := μ) D h.2.1
  obtain ⟨N2, h2⟩ := ze_fill (μ := zm_up μ (T + 1) 1 0) D h.2.2.1 (by decide) (-1)
  obtain ⟨N3, h3⟩ := ze_fill (μ := zm_fl (zm_up μ (T + 1) 1 0) (T + 3) (-1) 10) D h.2.2.2.2.1.1 (by decide) 3
  refine ze_in [(0, .ref (T + 1))] zq_Tree_clear (Nat.le_of_ble_eq_true rfl) rfl ⟨N1 + N2 + N3, 24, fun F n hF => ?_⟩
  have cr := zr_c (μ := μ) h.2.1
  simp [zg_0, zg_aload_n, zg_getfield, zg_iconst, zg_invokestatic, zg_invokevirtual, zg_putfield, zg_return, zf_X3_clear, zi_ld, zi_lda, zi_cmp, zi_retOk, zi_isI, zi_f3, zi_cr, zi_ci, zi_cn, zi_get, zq_Row_clear, zq_Arr_fill, zt_g h, cr, h1 F (by omega), h2 F (by omega), h3 F (by omega), zt_p9 h, zt_p12 h]
end ZT2
end
section
/-! Tree: nodes are taken, put in place of others, dropped -/
section ZT3
variable {μ : zm_M} {T : Nat}
/-- the first node that is not used (at most 18) -/
noncomputable def zt_fr (μ : zm_M) (T : Nat) : Nat → Nat → Nat
  | 0, i => i
  | m + 1, i => if μ (T + 7) i = 3 then i else zt_fr μ T m (i + 1)
theorem zt_fr_le : ∀ (m i : Nat), zt_fr μ T m i ≤ i + m
  | 0, i => Nat.le_refl _
  | m + 1, i => by
    unfold zt_fr
    split
    · omega
    · have := zt_fr_le m (i + 1)
      omega
set_option maxRecDepth 100000 in
theorem zt_newNode_loop (D : Nat) (h : zt_at T) (f : Int32) :
    ∀ (m i : Nat) (L : zi_Lc), i + m = 18 → zi_get L 0 = some (.ref (T + 1)) → zi_get L 1 = some (.int f) → zi_get L 2 = some (.int (nI i)) →
      ze_G D 3 (some .int) zc_X3_newNode 2 L [] (zm_mk μ) (some (.int (nI (zt_fr μ T m i)))) (zm_mk (zm_up μ (T + 7) (zt_fr μ T m i) f)) := by
  have h18 : (Int8.ofInt 18).toInt32 = (18 : Int32) := by decide
  intro m
  induction m with
  | zero =>
    intro i L him g0 g1 g2
    have e : i = 18 := by omega
    subst e
    have hin : zi_in (nI 18) 19 = true := zm_in (by decide) (by decide)
    have hcl : (nI 18).toNatClampNeg = 18 := nI_clamp (by decide)
    have hx : (18 : Int32) ≤ nI 18 := by decide
    refine ⟨0, 20, fun F n _ => ?_⟩
    simp [zg_0, zg_aload_n, zg_bipush, zg_getfield, zg_goto, zg_iaload, zg_iastore, zg_iconst, zg_if_icmp, zg_iinc, zg_iload_n, zg_ireturn, zg_istore_n, zf_X3_newNode, zi_ld, zi_lda, zi_cmp, zi_retOk, zi_isI, zi_f3, zi_cr, zi_ci, zi_cn, g0, g1, g2, h18, hx, zt_g h, zm_iast h.2.2.2.2.1.1 hin, hcl, zt_fr]
  | succ m ih =>
    intro i L him g0 g1 g2
    have hc : ¬ (18 : Int32) ≤ nI i := nI_ge (b := 18) (by omega) (by decide)
    have hin : zi_in (nI i) 19 = true := zm_in (by omega) (by decide)
    have hcl : (nI i).toNatClampNeg = i := nI_clamp (by omega)
    unfold zt_fr
    by_cases c : μ (T + 7) i = 3
    · rw [if_pos c]
      refine ⟨0, 20, fun F n _ => ?_⟩
      simp [zg_0, zg_aload_n, zg_bipush, zg_getfield, zg_goto, zg_iaload, zg_iastore, zg_iconst, zg_if_icmp, zg_iinc, zg_iload_n, zg_ireturn, zg_istore_n, zf_X3_newNode, zi_ld, zi_lda, zi_cmp, zi_retOk, zi_isI, zi_f3, zi_cr, zi_ci, zi_cn, g0, g1, g2, h18, hc, zt_g h, zm_iald (k := 0) h.2.2.2.2.1.1 hin, zm_iast h.2.2.2.2.1.1 hin, hcl, c]
    · rw [if_neg c]
      refine ze_S.end (p2 := 2) (L2 := zi_set L 2 (.int (nI (i + 1)))) (s2 := []) (h2 := zm_mk μ) ⟨0, 11, fun F n _ => ?_⟩ (ih (i + 1) _ (by omega) (zi_get_set_ne (by decide) g0 rfl) (zi_get_set_ne (by decide) g1 rfl) zi_get_set_eq)
      simp [zg_0, zg_aload_n, zg_bipush, zg_getfield, zg_goto, zg_iaload, zg_iastore, zg_iconst, zg_if_icmp, zg_iinc, zg_iload_n, zg_ireturn, zg_istore_n, zf_X3_newNode, zi_ld, zi_lda, zi_cmp, zi_retOk, zi_isI, zi_f3, zi_cr, zi_ci, zi_cn, g0, g1, g2, h18, hc, zt_g h, zm_iald (k := 0) h.2.2.2.2.1.1 hin, hcl, c, nI_1]
set_option maxRecDepth 100000 in
theorem ze_Tree_newNode (D : Nat) (h : zt_at T) (f : Int32) : ze_E (D + 1) A_Tree_newNode [.ref (T + 1), .int f] (zm_mk μ) (some (.int (nI (zt_fr μ T 18 0)))) (zm_mk (zm_up μ (T + 7) (zt_fr μ T 18 0) f)) := by
  refine ze_in [(0, .ref (T + 1)), (1, .int f)] zq_Tree_newNode (Nat.le_of_ble_eq_true rfl) rfl ?_
  refine ze_S.end (p2 := 2) (L2 := [(2, .int (nI 0)), (0, .ref (T + 1)), (1, .int f)]) (s2 := []) (h2 := zm_mk μ) ⟨0, 2, fun F n hF => ?_⟩ (zt_newNode_loop D h f 18 0 _ (by omega) rfl rfl rfl)
  simp [zg_0, zg_aload_n, zg_bipush, zg_getfield, zg_goto, zg_iaload, zg_iastore, zg_iconst, zg_if_icmp, zg_iinc, zg_iload_n, zg_ireturn, zg_istore_n, zf_X3_newNode, zi_ld, zi_lda, zi_cmp, zi_retOk, zi_isI, zi_f3, zi_cr, zi_ci, zi_cn, zi_get, zi_set, nI_0]
/-- what putInPlaceOf(old, fresh) leaves -/
noncomputable def zt_pp (μ : zm_M) (T a b : Nat) : zm_M :=
  let ab := μ (T + 11) a
  let μ1 := zm_up μ (T + 11) b ab
  if ab < 0 then zm_up μ1 T 9 (nI b) else if μ (T + 9) ab.toNatClampNeg = nI a then zm_up μ1 (T + 9) ab.toNatClampNeg (nI b) else zm_up μ1 (T + 10) ab.toNatClampNeg (nI b)
set_option maxRecDepth 100000 in
theorem ze_Tree_putInPlaceOf (D : Nat) (h : zt_at T) {a b : Nat} (ha : a < 19) (hb : b < 19) (hab : μ (T + 11) a < 0 ∨ zi_in (μ (T + 11) a) 19 = true) : ze_E (D + 1) A_Tree_putInPlaceOf [.ref (T + 1), .int (nI a), .int (nI b)] (zm_mk μ) none (zm_mk (zt_pp μ T a b)) := by
  refine ze_in [(0, .ref (T + 1)), (1, .int (nI a)), (2, .int (nI b))] zq_Tree_putInPlaceOf (Nat.le_of_ble_eq_true rfl) rfl ⟨0, 34, fun F n hF => ?_⟩
  have ia : zi_in (nI a) 19 = true := zm_in ha (by decide)
  have ib : zi_in (nI b) 19 = true := zm_in hb (by decide)
  have ca : (nI a).toNatClampNeg = a := nI_clamp (by omega)
  have cb : (nI b).toNatClampNeg = b := nI_clamp (by omega)
  unfold zt_pp
  by_cases c : μ (T + 11) a < 0
  · have c' : ¬ (0 : Int32) ≤ μ (T + 11) a := Int32.not_le.mpr c
    simp [zg_0, zg_aload_n, zg_getfield, zg_goto, zg_iaload, zg_iastore, zg_ifCond, zg_if_icmp, zg_iload_n, zg_istore_n, zg_putfield, zg_return, zf_X3_putInPlaceOf, zi_ld, zi_lda, zi_cmp, zi_retOk, zi_isI, zi_f3, zi_cr, zi_ci, zi_cn, zi_get, zi_set, zt_g h, zm_iald (k := 0) h.2.2.2.2.1.2.2.2.2.1 ia, zm_iast h.2.2.2.2.1.2.2.2.2.1 ib, ca, cb, c, c', zt_p9 h]
  · have c' : (0 : Int32) ≤ μ (T + 11) a := Int32.not_lt.mp c
    have iab := hab.resolve_left c
    have e1 : zm_up μ (T + 11) b (μ (T + 11) a) (T + 9) (μ (T + 11) a).toNatClampNeg = μ (T + 9) (μ (T + 11) a).toNatClampNeg := zm_up_ne (by omega)
    by_cases c2 : μ (T + 9) (μ (T + 11) a).toNatClampNeg = nI a
    · simp [zg_0, zg_aload_n, zg_getfield, zg_goto, zg_iaload, zg_iastore, zg_ifCond, zg_if_icmp, zg_iload_n, zg_istore_n, zg_putfield, zg_return, zf_X3_putInPlaceOf, zi_ld, zi_lda, zi_cmp, zi_retOk, zi_isI, zi_f3, zi_cr, zi_ci, zi_cn, zi_get, zi_set, zt_g h, zm_iald (k := 0) h.2.2.2.2.1.2.2.2.2.1 ia, zm_iast h.2.2.2.2.1.2.2.2.2.1 ib, ca, cb, c, c', zm_iald (k := 0) h.2.2.2.2.1.2.2.1 iab, e1, c2, zm_iast h.2.2.2.2.1.2.2.1 iab]
    · simp [zg_0, zg_aload_n, zg_getfield, zg_goto, zg_iaload, zg_iastore, zg_ifCond, zg_if_icmp, zg_iload_n, zg_istore_n, zg_putfield, zg_return, zf_X3_putInPlaceOf, zi_ld, zi_lda, zi_cmp, zi_retOk, zi_isI, zi_f3, zi_cr, zi_ci, zi_cn, zi_get, zi_set, zt_g h, zm_iald (k := 0) h.2.2.2.2.1.2.2.2.2.1 ia, zm_iast h.2.2.2.2.1.2.2.2.2.1 ib, ca, cb, c, c', zm_iald (k := 0) h.2.2.2.2.1.2.2.1 iab, e1, c2, zm_iast h.2.2.2.2.1.2.2.2.1 iab]
set_option maxRecDepth 100000 in
/-- enter(leaf, window, w, h) -/
theorem ze_Tree_enter (D : Nat) (h : zt_at T) {l : List Nat} (hl : zr_L μ (T + 1) l) (hn : l.length < 10) {k : Nat} (hk : k < 10) (f x y : Int32) :
    ∃ ν, ze_E (D + 2) A_Tree_enter [.ref (T + 1), .int f, .int (nI k), .int x, .int y] (zm_mk μ) none (zm_mk (zm_up (zm_up (zm_up ν (T + 3) k f) (T + 5) k x) (T + 6) k y)) ∧ zr_L ν (T + 1) (l ++ [k]) ∧ zr_fr (T + 1) μ ν := by
  obtain ⟨ν, ⟨N, h1⟩, h2, h3⟩ := ze_Row_append D h.2.1 hl hn k
  refine ⟨ν, ?_, h2, h3⟩
  have cr := zr_c (μ := μ) h.2.1
  have ik : zi_in (nI k) 10 = true := zm_in hk (by decide)
  have ck : (nI k).toNatClampNeg = k := nI_clamp (by omega)
  refine ze_in [(0, .ref (T + 1)), (1, .int f), (2, .int (nI k)), (3, .int x), (4, .int y)] zq_Tree_enter (Nat.le_of_ble_eq_true rfl) rfl ⟨N, 30, fun F n hF => ?_⟩
  simp [zg_0, zg_aaload, zg_aload_n, zg_getfield, zg_iastore, zg_iconst, zg_iload, zg_iload_n, zg_invokevirtual, zg_return, zf_X3_enter, zi_ld, zi_lda, zi_cmp, zi_retOk, zi_isI, zi_f3, zi_cr, zi_ci, zi_cn, zi_get, zt_g h, zq_Row_append, cr, h1 F hF, zm_iast h.2.2.1 ik, ck, zm_ax0 h.2.2.2.1.1, zm_ax1 h.2.2.2.1.1, zm_iast h.2.2.2.1.2.1 ik, zm_iast h.2.2.2.1.2.2 ik]
/-- what dropLeaf(leaf) leaves -/
noncomputable def zt_dl (μ : zm_M) (T a : Nat) : zm_M :=
  let cut := μ (T + 11) a
  let μ1 := zm_up μ (T + 7) a 3
  if cut < 0 then zm_up μ1 T 9 (-1)
  else zm_up (zt_pp μ1 T cut.toNatClampNeg (if μ (T + 9) cut.toNatClampNeg = nI a then μ (T + 10) cut.toNatClampNeg else μ (T + 9) cut.toNatClampNeg).toNatClampNeg) (T + 7) cut.toNatClampNeg 3
theorem zt_nI {x : Int32} {n : Nat} (h : zi_in x n = true) (hn : n < 2 ^ 31) : x = nI x.toNatClampNeg ∧ x.toNatClampNeg < n := by
  obtain ⟨h1, h2⟩ := zi_in_lt h
  obtain ⟨j, hj, e⟩ := vp_in_of h1 hn
  refine ⟨?_, h2⟩
  rw [e, nI_clamp (by omega)]
set_option maxRecDepth 100000 in
theorem ze_Tree_dropLeaf (D : Nat) (h : zt_at T) {a : Nat} (ha : a < 19) (hab : μ (T + 11) a < 0 ∨ zi_in (μ (T + 11) a) 19 = true)
    (hk : ¬ μ (T + 11) a < 0 → zi_in (μ (T + 9) (μ (T + 11) a).toNatClampNeg) 19 = true ∧ zi_in (μ (T + 10) (μ (T + 11) a).toNatClampNeg) 19 = true ∧ (μ (T + 11) (μ (T + 11) a).toNatClampNeg < 0 ∨ zi_in (μ (T + 11) (μ (T + 11) a).toNatClampNeg) 19 = true)) :
    ze_E (D + 2) A_Tree_dropLeaf [.ref (T + 1), .int (nI a)] (zm_mk μ) none (zm_mk (zt_dl μ T a)) := by
  have ia : zi_in (nI a) 19 = true := zm_in ha (by decide)
  have ca : (nI a).toNatClampNeg = a := nI_clamp (by omega)
  obtain ⟨lc, hc⟩ := zt_c (μ := zm_up μ (T + 7) a 3) h
  unfold zt_dl
  by_cases c : μ (T + 11) a < 0
  · have c' : ¬ (0 : Int32) ≤ μ (T + 11) a := Int32.not_le.mpr c
    refine ze_in [(0, .ref (T + 1)), (1, .int (nI a))] zq_Tree_dropLeaf (Nat.le_of_ble_eq_true rfl) rfl ⟨0, 34, fun F n hF => ?_⟩
    simp [zg_0, zg_aload_n, zg_getfield, zg_goto, zg_iaload, zg_iastore, zg_iconst, zg_ifCond, zg_if_icmp, zg_iload_n, zg_invokevirtual, zg_istore_n, zg_putfield, zg_return, zf_X3_dropLeaf, zi_ld, zi_lda, zi_cmp, zi_retOk, zi_isI, zi_f3, zi_cr, zi_ci, zi_cn, zi_get, zi_set, zt_g h, zm_iald (k := 0) h.2.2.2.2.1.2.2.2.2.1 ia, zm_iast h.2.2.2.2.1.1 ia, ca, c, c', zt_p9 h]
  · have c' : (0 : Int32) ≤ μ (T + 11) a := Int32.not_lt.mp c
    obtain ⟨k1, k2, k3⟩ := hk c
    have iab := hab.resolve_left c
    obtain ⟨e0, l0⟩ := zt_nI iab (by decide)
    obtain ⟨e1, l1⟩ := zt_nI k1 (by decide)
    obtain ⟨e2, l2⟩ := zt_nI k2 (by decide)
    have u9 : zm_up μ (T + 7) a 3 (T + 9) (μ (T + 11) a).toNatClampNeg = μ (T + 9) (μ (T + 11) a).toNatClampNeg := zm_up_ne (by omega)
    have u10 : zm_up μ (T + 7) a 3 (T + 10) (μ (T + 11) a).toNatClampNeg = μ (T + 10) (μ (T + 11) a).toNatClampNeg := zm_up_ne (by omega)
    have u11 : zm_up μ (T + 7) a 3 (T + 11) (μ (T + 11) a).toNatClampNeg = μ (T + 11) (μ (T + 11) a).toNatClampNeg := zm_up_ne (by omega)
    by_cases c2 : μ (T + 9) (μ (T + 11) a).toNatClampNeg = nI a
    · obtain ⟨N, h1⟩ := ze_Tree_putInPlaceOf (μ := zm_up μ (T + 7) a 3) D h l0 l2 (by rw [u11]; exact k3)
      rw [← e0, ← e2] at h1
      refine ze_in [(0, .ref (T + 1)), (1, .int (nI a))] zq_Tree_dropLeaf (Nat.le_of_ble_eq_true rfl) rfl ⟨N, 40, fun F n hF => ?_⟩
      simp [zg_0, zg_aload_n, zg_getfield, zg_goto, zg_iaload, zg_iastore, zg_iconst, zg_ifCond, zg_if_icmp, zg_iload_n, zg_invokevirtual, zg_istore_n, zg_putfield, zg_return, zf_X3_dropLeaf, zi_ld, zi_lda, zi_cmp, zi_retOk, zi_isI, zi_f3, zi_cr, zi_ci, zi_cn, zi_get, zi_set, zt_g h, zm_iald (k := 0) h.2.2.2.2.1.2.2.2.2.1 ia, zm_iast h.2.2.2.2.1.1 ia, ca, c, c', zm_iald (k := 0) h.2.2.2.2.1.2.2.1 iab, u9, c2, zm_iald (k := 0) h.2.2.2.2.1.2.2.2.1 iab, u10, zq_Tree_putInPlaceOf, hc, h1 F hF, zm_iast h.2.2.2.2.1.1 iab]
    · obtain ⟨N, h1⟩ := ze_Tree_putInPlaceOf (μ := zm_up μ (T + 7) a 3) D h l0 l1 (by rw [u11]; exact k3)
      rw [← e0, ← e1] at h1
      refine ze_in [(0, .ref (T + 1)), (1, .int (nI a))] zq_Tree_dropLeaf (Nat.le_of_ble_eq_true rfl) rfl ⟨N, 40, fun F n hF => ?_⟩
      simp [zg_0, zg_aload_n, zg_getfield, zg_goto, zg_iaload, zg_iastore, zg_iconst, zg_ifCond, zg_if_icmp, zg_iload_n, zg_invokevirtual, zg_istore_n, zg_putfield, zg_return, zf_X3_dropLeaf, zi_ld, zi_lda, zi_cmp, zi_retOk, zi_isI, zi_f3, zi_cr, zi_ci, zi_cn, zi_get, zi_set, zt_g h, zm_iald (k := 0) h.2.2.2.2.1.2.2.2.2.1 ia, zm_iast h.2.2.2.2.1.1 ia, ca, c, c', zm_iald (k := 0) h.2.2.2.2.1.2.2.1 iab, u9, c2, zq_Tree_putInPlaceOf, hc, h1 F hF, zm_iast h.2.2.2.2.1.1 iab]
end ZT3
end
section
/-! trees of node numbers: a leaf is .tag n .nil, a cut .append (.tag n a) b, no tree .nil -/
noncomputable abbrev zy_F : Type := Std.Format
noncomputable def zy_id : zy_F → Nat
  | .append (.tag n _) _ => n
  | .tag n _ => n
  | _ => 0
noncomputable def zy_ids : zy_F → List Nat
  | .append (.tag n a) b => n :: (zy_ids a ++ zy_ids b)
  | .tag n _ => [n]
  | _ => []
noncomputable def zy_lvs : zy_F → List Nat
  | .append (.tag _ a) b => zy_lvs a ++ zy_lvs b
  | .tag n _ => [n]
  | _ => []
noncomputable def zy_wf : zy_F → Prop
  | .append (.tag _ a) b => zy_wf a ∧ zy_wf b
  | .tag _ .nil => True
  | _ => False
theorem zy_ind {P : zy_F → Prop} (hl : ∀ n, P (.tag n .nil)) (hc : ∀ n a b, zy_wf a → zy_wf b → P a → P b → P (.append (.tag n a) b)) : ∀ t, zy_wf t → P t
  | .append (.tag n a) b, h => hc n a b h.1 h.2 (zy_ind hl hc a h.1) (zy_ind hl hc b h.2)
  | .tag n .nil, _ => hl n
  | .nil, h => False.elim h
  | .line, h => False.elim h
  | .align _, h => False.elim h
  | .text _, h => False.elim h
  | .nest _ _, h => False.elim h
  | .group _ _, h => False.elim h
  | .append .nil _, h => False.elim h
  | .append .line _, h => False.elim h
  | .append (.align _) _, h => False.elim h
  | .append (.text _) _, h => False.elim h
  | .append (.nest _ _) _, h => False.elim h
  | .append (.group _ _) _, h => False.elim h
  | .append (.append _ _) _, h => False.elim h
  | .tag _ .line, h => False.elim h
  | .tag _ (.align _), h => False.elim h
  | .tag _ (.text _), h => False.elim h
  | .tag _ (.nest _ _), h => False.elim h
  | .tag _ (.group _ _), h => False.elim h
  | .tag _ (.append _ _), h => False.elim h
  | .tag _ (.tag _ _), h => False.elim h
theorem zy_id_ids : ∀ t, zy_wf t → ∃ r, zy_ids t = zy_id t :: r := by
  apply zy_ind
  · intro n
    exact ⟨[], rfl⟩
  · intro n a b _ _ _ _
    exact ⟨zy_ids a ++ zy_ids b, rfl⟩
theorem zy_id_mem {t : zy_F} (h : zy_wf t) : zy_id t ∈ zy_ids t := by
  obtain ⟨r, e⟩ := zy_id_ids t h
  rw [e]
  exact List.mem_cons_self
theorem zy_lvs_ids : ∀ t, zy_wf t → ∀ n ∈ zy_lvs t, n ∈ zy_ids t := by
  apply zy_ind
  · intro n m h
    exact h
  · intro n a b _ _ ha hb m h
    rcases List.mem_append.mp h with h | h
    · exact List.mem_cons_of_mem _ (List.mem_append_left _ (ha m h))
    · exact List.mem_cons_of_mem _ (List.mem_append_right _ (hb m h))
theorem zy_len : ∀ t, zy_wf t → (zy_ids t).length + 1 = 2 * (zy_lvs t).length := by
  apply zy_ind
  · intro n
    rfl
  · intro n a b _ _ ha hb
    show (n :: (zy_ids a ++ zy_ids b)).length + 1 = 2 * (zy_lvs a ++ zy_lvs b).length
    simp only [List.length_cons, List.length_append]
    omega
theorem zy_len_pos {t : zy_F} (h : zy_wf t) : 0 < (zy_ids t).length := by
  obtain ⟨r, e⟩ := zy_id_ids t h
  rw [e]
  exact Nat.succ_pos _
/-- a list of different numbers below n is no longer than n -/
theorem zy_nodup_le : ∀ (n : Nat) (l : List Nat), l.Nodup → (∀ x ∈ l, x < n) → l.length ≤ n := by
  intro n
  induction n with
  | zero =>
    intro l _ h
    cases l with
    | nil => exact Nat.le_refl _
    | cons x l => exact absurd (h x List.mem_cons_self) (Nat.not_lt_zero _)
  | succ n ih =>
    intro l hn h
    have h1 := ih (l.erase n) (hn.erase n) (fun x hx => by
      have h2 := (List.Nodup.mem_erase_iff hn).mp hx
      have := h x h2.2
      have := h2.1
      omega)
    have h3 := List.length_erase (l := l) (a := n)
    split at h3 <;> omega
/-- fields of nodes: forms, firsts, seconds, what is above -/
noncomputable def zy_ok (fm fs sd ab : Nat → Int32) : zy_F → Prop
  | .append (.tag n a) b => ((fm n = 0 ∨ fm n = 1) ∧ fs n = nI (zy_id a) ∧ sd n = nI (zy_id b) ∧ ab (zy_id a) = nI n ∧ ab (zy_id b) = nI n) ∧ zy_ok fm fs sd ab a ∧ zy_ok fm fs sd ab b
  | .tag n .nil => fm n = 2
  | _ => False
theorem zy_ok_c {fm fs sd ab : Nat → Int32} {n : Nat} {a b : zy_F} : zy_ok fm fs sd ab (.append (.tag n a) b) = (((fm n = 0 ∨ fm n = 1) ∧ fs n = nI (zy_id a) ∧ sd n = nI (zy_id b) ∧ ab (zy_id a) = nI n ∧ ab (zy_id b) = nI n) ∧ zy_ok fm fs sd ab a ∧ zy_ok fm fs sd ab b) := rfl
theorem zm_up_row {μ : zm_M} {i j a : Nat} {x : Int32} (h : a ≠ i) : zm_up μ i j x a = μ a := by
  funext b
  exact zm_up_ne (fun e => h e.1)
/-- a loop: Q i holds at its head behind i rounds; it goes round, or to the method's end -/
theorem ze_loop {D nL pc : Nat} {ret : Option FieldType} {code0 : List zi_Row} {Q : Nat → zi_Lc → zi_Hp → Prop} {R : Option Value → zi_Hp → Prop} (n : Nat)
    (hs : ∀ i L h, i < n → Q i L h → (∃ L' h', ze_S D nL ret code0 pc L [] h pc L' [] h' ∧ Q (i + 1) L' h') ∨ ∃ r h', ze_G D nL ret code0 pc L [] h r h' ∧ R r h')
    (he : ∀ L h, Q n L h → ∃ r h', ze_G D nL ret code0 pc L [] h r h' ∧ R r h') : ∀ m i L h, i + m = n → Q i L h → ∃ r h', ze_G D nL ret code0 pc L [] h r h' ∧ R r h' := by
  intro m
  induction m with
  | zero =>
    intro i L h him q
    have : i = n := by omega
    subst this
    exact he L h q
  | succ m ih =>
    intro i L h him q
    rcases hs i L h (by omega) q with ⟨L', h', s, q'⟩ | g
    · obtain ⟨r, h2, g, hr⟩ := ih (i + 1) L' h' (by omega) q'
      exact ⟨r, h2, s.end g, hr⟩
    · exact g
/-- a loop that is left for another place of the code -/
theorem ze_loopS {D nL pc pc2 : Nat} {ret : Option FieldType} {code0 : List zi_Row} {Q : Nat → zi_Lc → zi_Hp → Prop} {R : zi_Lc → zi_Hp → Prop} (n : Nat)
    (hs : ∀ i L h, i < n → Q i L h → (∃ L' h', ze_S D nL ret code0 pc L [] h pc L' [] h' ∧ Q (i + 1) L' h'))
    (he : ∀ L h, Q n L h → ∃ L' h', ze_S D nL ret code0 pc L [] h pc2 L' [] h' ∧ R L' h') : ∀ m i L h, i + m = n → Q i L h → ∃ L' h', ze_S D nL ret code0 pc L [] h pc2 L' [] h' ∧ R L' h' := by
  intro m
  induction m with
  | zero =>
    intro i L h him q
    have : i = n := by omega
    subst this
    exact he L h q
  | succ m ih =>
    intro i L h him q
    obtain ⟨L', h', s, q'⟩ := hs i L h (by omega) q
    obtain ⟨L2, h2, g, hr⟩ := ih (i + 1) L' h' (by omega) q'
    exact ⟨L2, h2, s.trans g, hr⟩
end
section
/-! Tree.listNodes -/
section ZT4
variable {T : Nat}
/-- what listNodes leaves as it was -/
noncomputable def zt_frO (T : Nat) (μ μ' : zm_M) : Prop := (∀ a, a ≠ T → a ≠ T + 13 → a ≠ T + 14 → μ' a = μ a) ∧ ∀ b, b ≠ 12 → μ' T b = μ T b
theorem zt_frO.trans {μ ν ξ : zm_M} (h : zt_frO T μ ν) (g : zt_frO T ν ξ) : zt_frO T μ ξ := ⟨fun a h1 h2 h3 => (g.1 a h1 h2 h3).trans (h.1 a h1 h2 h3), fun b hb => (g.2 b hb).trans (h.2 b hb)⟩
noncomputable def zy_okM (μ : zm_M) (T : Nat) (t : zy_F) : Prop := zy_ok (μ (T + 7)) (μ (T + 9)) (μ (T + 10)) (μ (T + 11)) t
theorem zt_frO.ok {μ ν : zm_M} {t : zy_F} (h : zt_frO T μ ν) (g : zy_okM μ T t) : zy_okM ν T t := by
  unfold zy_okM at *
  rw [h.1 (T + 7) (by omega) (by omega) (by omega), h.1 (T + 9) (by omega) (by omega) (by omega), h.1 (T + 10) (by omega) (by omega) (by omega), h.1 (T + 11) (by omega) (by omega) (by omega)]
  exact g
set_option maxRecDepth 100000 in
theorem zt_list_S (D : Nat) (h : zt_at T) : ∀ t, zy_wf t → ∀ (μ : zm_M) (L : zi_Lc) (lf i k : Nat), zy_okM μ T t → (∀ n ∈ zy_ids t, n < 19) →
    zi_get L 0 = some (.ref (T + 1)) → zi_get L 1 = some (.int (nI (lf + 1))) → zi_get L 2 = some (.int (nI i)) → μ (T + 14) lf = nI (zy_id t) → μ T 12 = nI k →
    i + (zy_ids t).length ≤ 19 → k + (zy_ids t).length ≤ 19 → lf + (zy_ids t).length ≤ 19 →
    ∃ μ' L', ze_S D 4 none zc_X3_listNodes 29 L [] (zm_mk μ) 29 L' [] (zm_mk μ') ∧ zi_get L' 0 = some (.ref (T + 1)) ∧ zi_get L' 1 = some (.int (nI lf)) ∧ zi_get L' 2 = some (.int (nI (i + (zy_ids t).length))) ∧
      zt_frO T μ μ' ∧ (∀ b, b < lf → μ' (T + 14) b = μ (T + 14) b) ∧ (∀ b, b < k → μ' (T + 13) b = μ (T + 13) b) ∧ μ' T 12 = nI (k + (zy_ids t).length) ∧ ∀ j, j < (zy_ids t).length → μ' (T + 13) (k + j) = nI ((zy_ids t).getD j 0) := by
  have h19 : (Int8.ofInt 19).toInt32 = (19 : Int32) := by decide
  have n2 : nI 2 = 2 := by decide
  apply zy_ind
  · intro n μ L lf i k hok hlt g0 g1 g2 hw hk hi hk2 hlf
    have hn : n < 19 := hlt n List.mem_cons_self
    have hfm : μ (T + 7) n = 2 := hok
    have hi : i + 1 ≤ 19 := hi
    have hk2 : k + 1 ≤ 19 := hk2
    have hlf : lf + 1 ≤ 19 := hlf
    have c1 : ¬ (19 : Int32) ≤ nI i := nI_ge (b := 19) (by omega) (by decide)
    have c2 : ¬ nI (lf + 1) ≤ 0 := nI_nle (by omega) (by omega)
    have i1 : zi_in (nI lf) 19 = true := zm_in (by omega) (by decide)
    have i2 : zi_in (nI k) 19 = true := zm_in (by omega) (by decide)
    have i3 : zi_in (nI n) 19 = true := zm_in (by omega) (by decide)
    have e1 : (nI lf).toNatClampNeg = lf := nI_clamp (by omega)
    have e2 : (nI k).toNatClampNeg = k := nI_clamp (by omega)
    have e3 : (nI n).toNatClampNeg = n := nI_clamp (by omega)
    have hw : μ (T + 14) lf = nI n := hw
    have u1 : zm_up μ (T + 13) k (nI n) T 12 = nI k := by rw [zm_up_ne (by omega)]; exact hk
    have u2 : ∀ x, zm_up (zm_up μ (T + 13) k (nI n)) T 12 x (T + 7) n = 2 := fun x => by rw [zm_up_ne (by omega), zm_up_ne (by omega)]; exact hfm
    refine ⟨zm_up (zm_up μ (T + 13) k (nI n)) T 12 (nI (k + 1)), zi_set (zi_set (zi_set L 1 (.int (nI lf))) 3 (.int (nI n))) 2 (.int (nI (i + 1))), ⟨0, 31, fun F m _ => ?_⟩, zi_get_set_ne (by decide) (zi_get_set_ne (by decide) (zi_get_set_ne (by decide) g0 rfl) rfl) rfl, zi_get_set_ne (by decide) (zi_get_set_ne (by decide) zi_get_set_eq rfl) rfl, zi_get_set_eq, ⟨fun a h1 h2 h3 => ?_, fun b hb => ?_⟩, fun b hb => ?_, fun b hb => ?_, zm_up_eq, fun j hj => ?_⟩
    · have q0 : zi_get (zi_set L 1 (.int (nI lf))) 0 = some (.ref (T + 1)) := zi_get_set_ne (by decide) g0 rfl
      have q2 : zi_get (zi_set L 1 (.int (nI lf))) 2 = some (.int (nI i)) := zi_get_set_ne (by decide) g2 rfl
      have q1 : zi_get (zi_set L 1 (.int (nI lf))) 1 = some (.int (nI lf)) := zi_get_set_eq
      have r0 : zi_get (zi_set (zi_set L 1 (.int (nI lf))) 3 (.int (nI n))) 0 = some (.ref (T + 1)) := zi_get_set_ne (by decide) q0 rfl
      have r2 : zi_get (zi_set (zi_set L 1 (.int (nI lf))) 3 (.int (nI n))) 2 = some (.int (nI i)) := zi_get_set_ne (by decide) q2 rfl
      have r3 : zi_get (zi_set (zi_set L 1 (.int (nI lf))) 3 (.int (nI n))) 3 = some (.int (nI n)) := zi_get_set_eq
      simp [zg_0, zg_aload_n, zg_bipush, zg_dup, zg_getfield, zg_goto, zg_iadd, zg_iaload, zg_iastore, zg_iconst, zg_ifCond, zg_if_icmp, zg_iinc, zg_iload_n, zg_istore_n, zg_putfield, zg_return, zf_X3_listNodes, zi_ld, zi_lda, zi_cmp, zi_retOk, zi_isI, zi_f3, zi_cr, zi_ci, zi_cn, g0, g1, g2, q0, q1, q2, r0, r2, r3, h19, c1, c2, pk_m1, zt_g h, zm_iald (k := 0) h.2.2.2.2.1.2.2.2.2.2.2.2 i1, e1, hw, hk, zm_iast h.2.2.2.2.1.2.2.2.2.2.2.1 i2, e2, u1, nI_1, zt_p12 h, zm_iald (k := 0) h.2.2.2.2.1.1 i3, e3, u2]
    · rw [zm_up_row h1, zm_up_row h2]
    · rw [zm_up_ne (by omega), zm_up_ne (by omega)]
    · rw [zm_up_ne (by omega), zm_up_ne (by omega)]
    · rw [zm_up_ne (by omega), zm_up_ne (by omega)]
    · have : j = 0 := by
        have : j < 1 := hj
        omega
      subst this
      rw [zm_up_ne (by omega)]
      exact zm_up_eq
  · intro n a b wa wb iha ihb μ L lf i k hok hlt g0 g1 g2 hw hk hi hk2 hlf
    have hlen : (zy_ids (.append (.tag n a) b)).length = (zy_ids a).length + (zy_ids b).length + 1 := by
      show (n :: (zy_ids a ++ zy_ids b)).length = _
      simp only [List.length_cons, List.length_append]
    rw [hlen] at hi hk2 hlf ⊢
    have pa := zy_len_pos wa
    have pb := zy_len_pos wb
    have hn : n < 19 := hlt n List.mem_cons_self
    have hla : ∀ m ∈ zy_ids a, m < 19 := fun m hm => hlt m (List.mem_cons_of_mem _ (List.mem_append_left _ hm))
    have hlb : ∀ m ∈ zy_ids b, m < 19 := fun m hm => hlt m (List.mem_cons_of_mem _ (List.mem_append_right _ hm))
    have hok0 := hok
    obtain ⟨⟨hfm, hfs, hsd, -, -⟩, oka, okb⟩ := hok0
    have hfm2 : ¬ μ (T + 7) n = 2 := by rcases hfm with e | e <;> rw [e] <;> decide
    have c1 : ¬ (19 : Int32) ≤ nI i := nI_ge (b := 19) (by omega) (by decide)
    have c2 : ¬ nI (lf + 1) ≤ 0 := nI_nle (by omega) (by omega)
    have i1 : zi_in (nI lf) 19 = true := zm_in (by omega) (by decide)
    have i1' : zi_in (nI (lf + 1)) 19 = true := zm_in (by omega) (by decide)
    have i2 : zi_in (nI k) 19 = true := zm_in (by omega) (by decide)
    have i3 : zi_in (nI n) 19 = true := zm_in (by omega) (by decide)
    have e1 : (nI lf).toNatClampNeg = lf := nI_clamp (by omega)
    have e1' : (nI (lf + 1)).toNatClampNeg = lf + 1 := nI_clamp (by omega)
    have e2 : (nI k).toNatClampNeg = k := nI_clamp (by omega)
    have e3 : (nI n).toNatClampNeg = n := nI_clamp (by omega)
    have hw : μ (T + 14) lf = nI n := hw
    let ν := zm_up (zm_up μ (T + 13) k (nI n)) T 12 (nI (k + 1))
    have hν : zm_up (zm_up μ (T + 13) k (nI n)) T 12 (nI (k + 1)) = ν := rfl
    have u1 : zm_up μ (T + 13) k (nI n) T 12 = nI k := by rw [zm_up_ne (by omega)]; exact hk
    have v7 : ν (T + 7) n = μ (T + 7) n := by show zm_up _ _ _ _ _ _ = _; rw [zm_up_ne (by omega), zm_up_ne (by omega)]
    have v10 : ν (T + 10) n = nI (zy_id b) := by show zm_up _ _ _ _ _ _ = _; rw [zm_up_ne (by omega), zm_up_ne (by omega)]; exact hsd
    have v9 : zm_up ν (T + 14) lf (nI (zy_id b)) (T + 9) n = nI (zy_id a) := by rw [zm_up_ne (by omega)]; show zm_up _ _ _ _ _ _ = _; rw [zm_up_ne (by omega), zm_up_ne (by omega)]; exact hfs
    let ξ := zm_up (zm_up ν (T + 14) lf (nI (zy_id b))) (T + 14) (lf + 1) (nI (zy_id a))
    have fξ : zt_frO T μ ξ := ⟨fun a h1 h2 h3 => by show zm_up _ _ _ _ _ = _; rw [zm_up_row h3, zm_up_row h3]; show zm_up _ _ _ _ _ = _; rw [zm_up_row h1, zm_up_row h2], fun b hb => by show zm_up _ _ _ _ _ _ = _; rw [zm_up_ne (by omega), zm_up_ne (by omega)]; show zm_up _ _ _ _ _ _ = _; rw [zm_up_ne (by omega), zm_up_ne (by omega)]⟩
    have x12 : ξ T 12 = nI (k + 1) := by show zm_up _ _ _ _ _ _ = _; rw [zm_up_ne (by omega), zm_up_ne (by omega)]; exact zm_up_eq
    have xl : ξ (T + 14) lf = nI (zy_id b) := by show zm_up _ _ _ _ _ _ = _; rw [zm_up_ne (by omega)]; exact zm_up_eq
    have xl' : ξ (T + 14) (lf + 1) = nI (zy_id a) := zm_up_eq
    let M0 := zi_set (zi_set L 1 (.int (nI lf))) 3 (.int (nI n))
    let M := zi_set (zi_set M0 1 (.int (nI (lf + 2)))) 2 (.int (nI (i + 1)))
    have q0 : zi_get (zi_set L 1 (.int (nI lf))) 0 = some (.ref (T + 1)) := zi_get_set_ne (by decide) g0 rfl
    have q2 : zi_get (zi_set L 1 (.int (nI lf))) 2 = some (.int (nI i)) := zi_get_set_ne (by decide) g2 rfl
    have q1 : zi_get (zi_set L 1 (.int (nI lf))) 1 = some (.int (nI lf)) := zi_get_set_eq
    have r0 : zi_get M0 0 = some (.ref (T + 1)) := zi_get_set_ne (by decide) q0 rfl
    have r1 : zi_get M0 1 = some (.int (nI lf)) := zi_get_set_ne (by decide) q1 rfl
    have r2 : zi_get M0 2 = some (.int (nI i)) := zi_get_set_ne (by decide) q2 rfl
    have r3 : zi_get M0 3 = some (.int (nI n)) := zi_get_set_eq
    have hM0 : zi_set (zi_set L 1 (.int (nI lf))) 3 (.int (nI n)) = M0 := rfl
    have s0 : zi_get (zi_set M0 1 (.int (nI (lf + 2)))) 0 = some (.ref (T + 1)) := zi_get_set_ne (by decide) r0 rfl
    have s2 : zi_get (zi_set M0 1 (.int (nI (lf + 2)))) 2 = some (.int (nI i)) := zi_get_set_ne (by decide) r2 rfl
    have s1 : zi_get (zi_set M0 1 (.int (nI (lf + 2)))) 1 = some (.int (nI (lf + 2))) := zi_get_set_eq
    have a2 : nI lf + 2 = nI (lf + 2) := by rw [← n2, nI_add]
    have step : ze_S D 4 none zc_X3_listNodes 29 L [] (zm_mk μ) 29 M [] (zm_mk ξ) := by
      refine ⟨0, 50, fun F m _ => ?_⟩
      simp [zg_0, zg_aload_n, zg_bipush, zg_dup, zg_getfield, zg_goto, zg_iadd, zg_iaload, zg_iastore, zg_iconst, zg_ifCond, zg_if_icmp, zg_iinc, zg_iload_n, zg_istore_n, zg_putfield, zg_return, zf_X3_listNodes, zi_ld, zi_lda, zi_cmp, zi_retOk, zi_isI, zi_f3, zi_cr, zi_ci, zi_cn, g0, g1, g2, q0, q1, q2, hM0, r0, r1, r2, r3, s0, s2, h19, c1, c2, pk_m1, zt_g h, zm_iald (k := 0) h.2.2.2.2.1.2.2.2.2.2.2.2 i1, e1, hw, hk, zm_iast h.2.2.2.2.1.2.2.2.2.2.2.1 i2, e2, u1, nI_1, zt_p12 h, hν, zm_iald (k := 0) h.2.2.2.2.1.1 i3, e3, v7, hfm2, zm_iald (k := 0) h.2.2.2.2.1.2.2.2.1 i3, v10, zm_iast h.2.2.2.2.1.2.2.2.2.2.2.2 i1, v9, zm_iald (k := 0) h.2.2.2.2.1.2.2.1 i3, zm_iast h.2.2.2.2.1.2.2.2.2.2.2.2 i1', e1', a2]
      rfl
    obtain ⟨μ2, L2, S2, a0, a1, a2', fr2, w2, o2, n2', p2⟩ := iha ξ M (lf + 1) (i + 1) (k + 1) (fξ.ok oka) hla (zi_get_set_ne (by decide) s0 rfl) (zi_get_set_ne (by decide) s1 rfl) zi_get_set_eq xl' x12 (by omega) (by omega) (by omega)
    obtain ⟨μ3, L3, S3, b0, b1, b2, fr3, w3, o3, n3, p3⟩ := ihb μ2 L2 lf (i + 1 + (zy_ids a).length) (k + 1 + (zy_ids a).length) (fr2.ok (fξ.ok okb)) hlb a0 a1 a2' (by rw [w2 lf (by omega)]; exact xl) n2' (by omega) (by omega) (by omega)
    have ek : k + 1 + (zy_ids a).length + (zy_ids b).length = k + ((zy_ids a).length + (zy_ids b).length + 1) := by omega
    have ei : i + 1 + (zy_ids a).length + (zy_ids b).length = i + ((zy_ids a).length + (zy_ids b).length + 1) := by omega
    rw [ek] at n3
    rw [ei] at b2
    refine ⟨μ3, L3, (step.trans S2).trans S3, b0, b1, b2, (fξ.trans fr2).trans fr3, fun c hc => ?_, fun c hc => ?_, n3, fun j hj => ?_⟩
    · rw [w3 c hc, w2 c (by omega)]
      show zm_up _ _ _ _ _ _ = _
      rw [zm_up_ne (by omega), zm_up_ne (by omega)]
      show zm_up _ _ _ _ _ _ = _
      rw [zm_up_ne (by omega), zm_up_ne (by omega)]
    · rw [o3 c (by omega), o2 c (by omega)]
      show zm_up _ _ _ _ _ _ = _
      rw [zm_up_ne (by omega), zm_up_ne (by omega)]
      show zm_up _ _ _ _ _ _ = _
      rw [zm_up_ne (by omega), zm_up_ne (by omega)]
    · show _ = nI ((n :: (zy_ids a ++ zy_ids b)).getD j 0)
      cases j with
      | zero =>
        rw [o3 (k + 0) (by omega), o2 (k + 0) (by omega)]
        show zm_up _ _ _ _ _ _ = _
        rw [zm_up_ne (by omega), zm_up_ne (by omega)]
        show zm_up _ _ _ _ _ _ = _
        rw [zm_up_ne (by omega)]
        exact zm_up_eq
      | succ j =>
        show _ = nI ((zy_ids a ++ zy_ids b).getD j 0)
        by_cases hj2 : j < (zy_ids a).length
        · rw [o3 _ (by omega), show k + (j + 1) = k + 1 + j by omega, p2 j hj2]
          congr 1
          rw [List.getD_eq_getElem?_getD, List.getD_eq_getElem?_getD, List.getElem?_append_left hj2]
        · rw [show k + (j + 1) = k + 1 + (zy_ids a).length + (j - (zy_ids a).length) by omega, p3 _ (by omega)]
          congr 1
          rw [List.getD_eq_getElem?_getD, List.getD_eq_getElem?_getD, List.getElem?_append_right (by omega)]
end ZT4
end
section
/-! locals without longs; rows of an axis; Tree.listNodes whole, measureLeaves -/
noncomputable def zi_nl (L : zi_Lc) : Bool := L.all (fun q => q.2.category == 1)
theorem zi_nl_set {L : zi_Lc} {k : Nat} {v : Value} (hv : v.category = 1) (h : zi_nl L = true) : zi_nl (zi_set L k v) = true := by
  unfold zi_nl at *
  unfold zi_set
  rw [List.all_eq_true] at *
  intro q hq
  rcases List.mem_cons.mp hq with rfl | hq
  · simpa using hv
  · exact h q (List.mem_filter.mp hq).1
theorem zi_nl_i {L : zi_Lc} {k : Nat} {x : Int32} (h : zi_nl L = true) : zi_nl (zi_set L k (.int x)) = true := zi_nl_set rfl h
theorem zi_nl_r {L : zi_Lc} {k x : Nat} (h : zi_nl L = true) : zi_nl (zi_set L k (.ref x)) = true := zi_nl_set rfl h
theorem zi_get_ne {L : zi_Lc} {j k : Nat} {v : Value} (h : zi_nl L = true) (hj : j ≠ k) : zi_get (zi_set L k v) j = zi_get L j := by
  have h0 : (k == j) = false := by simpa using Ne.symm hj
  unfold zi_get zi_set
  rw [List.find?_cons, h0]
  dsimp only
  congr 1
  induction L with
  | nil => rfl
  | cons a L ih =>
    have h2 : a.2.category = 1 ∧ zi_nl L = true := by simpa [zi_nl] using h
    have hL := h2.2
    have ha := h2.1
    have e2 : (a.2.category == 2) = false := by rw [ha]; rfl
    rw [List.filter_cons, e2, Bool.and_false, Bool.not_false, Bool.and_true]
    by_cases e : (a.1 == k) = true
    · rw [e]
      have e3 : (a.1 == j) = false := by
        have : a.1 = k := by simpa using e
        rw [this]; exact h0
      simp only [Bool.not_true, Bool.false_eq_true, if_false]
      rw [List.find?_cons, e3]
      exact ih hL
    · have e : (a.1 == k) = false := by simpa using e
      rw [e]
      simp only [Bool.not_false, if_true]
      rw [List.find?_cons, List.find?_cons, ih hL]
section ZAX
variable {μ : zm_M}
theorem zm_ax {o a : Nat} (h : zh_2[o]? = some (11, [.ref (o + 2), .ref (o + 3)])) (ha : a < 2) : zi_aald (zm_mk μ) (nI a) o = some (.ref (o + 1 + a + 1)) := by
  match a, ha with
  | 0, _ => exact zm_ax0 h
  | 1, _ => exact zm_ax1 h
theorem zt_axT {T a : Nat} (h : zt_at T) (ha : a < 2) : (zi_aald (zm_mk μ) (nI a) (T + 4) = some (.ref (T + 5 + a + 1)) ∧ zi_aald (zm_mk μ) (nI a) (T + 15) = some (.ref (T + 16 + a + 1)) ∧ zi_aald (zm_mk μ) (nI a) (T + 18) = some (.ref (T + 19 + a + 1)) ∧ zi_aald (zm_mk μ) (nI a) (T + 21) = some (.ref (T + 22 + a + 1))) ∧ zm_isA 7 (T + 5 + a) 10 ∧ zm_isA 7 (T + 16 + a) 19 ∧ zm_isA 7 (T + 19 + a) 19 ∧ zm_isA 7 (T + 22 + a) 19 := by
  refine ⟨⟨zm_ax h.2.2.2.1.1 ha, zm_ax h.2.2.2.2.2.1.1 ha, zm_ax h.2.2.2.2.2.2.1.1 ha, zm_ax h.2.2.2.2.2.2.2.1 ha⟩, ?_⟩
  match a, ha with
  | 0, _ => exact ⟨h.2.2.2.1.2.1, h.2.2.2.2.2.1.2.1, h.2.2.2.2.2.2.1.2.1, h.2.2.2.2.2.2.2.2.1⟩
  | 1, _ => exact ⟨h.2.2.2.1.2.2, h.2.2.2.2.2.1.2.2, h.2.2.2.2.2.2.1.2.2, h.2.2.2.2.2.2.2.2.2⟩
theorem ze_Row_sizeL {r : Nat} {l : List Nat} (D : Nat) (h : zr_at r) (hl : zr_L μ r l) : ze_E (D + 1) A_Row_size [.ref (r + 1)] (zm_mk μ) (some (.int (nI l.length))) (zm_mk μ) := by
  have := ze_Row_size (μ := μ) D h
  rw [hl.2.1] at this
  exact this
theorem ze_Row_getL {r i : Nat} {l : List Nat} (D : Nat) (h : zr_at r) (hl : zr_L μ r l) (hi : i < l.length) : ze_E (D + 1) A_Row_get [.ref (r + 1), .int (nI i)] (zm_mk μ) (some (.int (nI (l.getD i 0)))) (zm_mk μ) := by
  have h10 := hl.1
  have := ze_Row_get (μ := μ) D (nI i) h (by rw [hl.2.1]; exact nI_le (b := 10) hl.1 (by decide))
  rw [if_pos ⟨nI_pos' (by omega), by rw [hl.2.1]; exact nI_lt hi (by omega)⟩, nI_clamp (by omega), hl.2.2 i hi] at this
  exact this
end ZAX
section ZT5
variable {μ : zm_M} {T : Nat} {t : zy_F}
/-- no tree, or one; its root -/
noncomputable def zt_root (μ : zm_M) (T : Nat) (t : zy_F) : Prop := (t = .nil ∧ μ T 9 = -1) ∨ (zy_wf t ∧ zy_okM μ T t ∧ μ T 9 = nI (zy_id t))
noncomputable def zt_O (μ : zm_M) (T : Nat) (t : zy_F) : Prop := μ T 12 = nI (zy_ids t).length ∧ ∀ j, j < (zy_ids t).length → μ (T + 13) j = nI ((zy_ids t).getD j 0)
set_option maxRecDepth 100000 in
theorem ze_Tree_listNodes (D : Nat) (h : zt_at T) (hr : zt_root μ T t) (hlt : ∀ n ∈ zy_ids t, n < 19) (hnd : (zy_ids t).Nodup) :
    ∃ μ', ze_E (D + 1) A_Tree_listNodes [.ref (T + 1)] (zm_mk μ) none (zm_mk μ') ∧ zt_frO T μ μ' ∧ zt_O μ' T t := by
  have h19 : (Int8.ofInt 19).toInt32 = (19 : Int32) := by decide
  have n0 : nI 0 = 0 := nI_0
  rcases hr with ⟨rfl, hr⟩ | ⟨hw, hok, hr⟩
  · refine ⟨zm_up μ T 12 0, ze_in [(0, .ref (T + 1))] zq_Tree_listNodes (Nat.le_of_ble_eq_true rfl) rfl ⟨0, 16, fun F n hF => ?_⟩, ⟨fun a h1 _ _ => zm_up_row h1, fun b hb => zm_up_ne (by omega)⟩, ?_, fun j hj => by cases hj⟩
    · have u : zm_up μ T 12 0 T 9 = -1 := by rw [zm_up_ne (by omega)]; exact hr
      have c : (-1 : Int32) < 0 := by decide
      simp [zg_0, zg_aload_n, zg_bipush, zg_dup, zg_getfield, zg_goto, zg_iadd, zg_iaload, zg_iastore, zg_iconst, zg_ifCond, zg_if_icmp, zg_iinc, zg_iload_n, zg_istore_n, zg_putfield, zg_return, zf_X3_listNodes, zi_ld, zi_lda, zi_cmp, zi_retOk, zi_isI, zi_f3, zi_cr, zi_ci, zi_cn, zi_get, zi_set, zt_g h, zt_p12 h, u, c, h19]
    · rw [zm_up_eq]
      exact n0.symm
  · have hl19 := zy_nodup_le 19 (zy_ids t) hnd hlt
    have hpos := zy_len_pos hw
    have hid : zy_id t < 19 := hlt _ (zy_id_mem hw)
    let ν := zm_up (zm_up μ T 12 0) (T + 14) 0 (nI (zy_id t))
    have fν : zt_frO T μ ν := ⟨fun a h1 h2 h3 => by show zm_up _ _ _ _ _ = _; rw [zm_up_row h3, zm_up_row h1], fun b hb => by show zm_up _ _ _ _ _ _ = _; rw [zm_up_ne (by omega), zm_up_ne (by omega)]⟩
    have x12 : ν T 12 = nI 0 := by show zm_up _ _ _ _ _ _ = _; rw [zm_up_ne (by omega), zm_up_eq, n0]
    obtain ⟨μ', L', S, a0, a1, a2, fr, -, -, hn, hp⟩ := zt_list_S D h t hw ν [(2, .int (nI 0)), (1, .int (nI (0 + 1))), (0, .ref (T + 1))] 0 0 0 (fν.ok hok) hlt rfl rfl rfl zm_up_eq x12 (by omega) (by omega) (by omega)
    refine ⟨μ', ze_in [(0, .ref (T + 1))] zq_Tree_listNodes (Nat.le_of_ble_eq_true rfl) rfl ?_, fν.trans fr, ?_, fun j hj => ?_⟩
    · have s0 : ze_S D 4 none zc_X3_listNodes 0 [(0, .ref (T + 1))] [] (zm_mk μ) 29 [(2, .int (nI 0)), (1, .int (nI (0 + 1))), (0, .ref (T + 1))] [] (zm_mk ν) := by
        refine ⟨0, 17, fun F n _ => ?_⟩
        have u : zm_up μ T 12 0 T 9 = nI (zy_id t) := by rw [zm_up_ne (by omega)]; exact hr
        have c : ¬ nI (zy_id t) < 0 := nI_pos (by omega)
        have i1 : zi_in 0 19 = true := by decide
        have n1 : nI 1 = 1 := by decide
        simp [zg_0, zg_aload_n, zg_bipush, zg_dup, zg_getfield, zg_goto, zg_iadd, zg_iaload, zg_iastore, zg_iconst, zg_ifCond, zg_if_icmp, zg_iinc, zg_iload_n, zg_istore_n, zg_putfield, zg_return, zf_X3_listNodes, zi_ld, zi_lda, zi_cmp, zi_retOk, zi_isI, zi_f3, zi_cr, zi_ci, zi_cn, zi_get, zi_set, zt_g h, zt_p12 h, u, c, h19, zm_iast h.2.2.2.2.1.2.2.2.2.2.2.2 i1, zm_cl0, n0, n1]
        rfl
      refine (s0.trans S).end ⟨0, 6, fun F n _ => ?_⟩
      by_cases c : (19 : Int32) ≤ nI (0 + (zy_ids t).length) <;> simp [zg_0, zg_aload_n, zg_bipush, zg_dup, zg_getfield, zg_goto, zg_iadd, zg_iaload, zg_iastore, zg_iconst, zg_ifCond, zg_if_icmp, zg_iinc, zg_iload_n, zg_istore_n, zg_putfield, zg_return, zf_X3_listNodes, zi_ld, zi_lda, zi_cmp, zi_retOk, zi_isI, zi_f3, zi_cr, zi_ci, zi_cn, a0, a1, a2, h19, c, n0]
    · rw [hn, Nat.zero_add]
    · rw [← hp j hj, Nat.zero_add]
/-- the least size of a leaf: the greatest of its tabs' -/
noncomputable def zt_lf (tl hm : Nat → Int32) (R : List Nat) (n : Nat) : Int32 := R.foldl (fun m w => if hm w = nI n then zi_mx m (tl w) else m) 0
theorem zt_lf_snoc {tl hm : Nat → Int32} {R : List Nat} {w n : Nat} : zt_lf tl hm (R ++ [w]) n = if hm w = nI n then zi_mx (zt_lf tl hm R n) (tl w) else zt_lf tl hm R n := by
  unfold zt_lf
  rw [List.foldl_append]
  rfl
theorem zl_take {l : List Nat} {i : Nat} (h : i < l.length) : l.take (i + 1) = l.take i ++ [l.getD i 0] := by
  rw [List.take_succ, List.getD_eq_getElem?_getD, List.getElem?_eq_getElem h]
  rfl
theorem zl_mem {l : List Nat} {i : Nat} (h : i < l.length) : l.getD i 0 ∈ l := by
  rw [List.getD_eq_getElem?_getD, List.getElem?_eq_getElem h]
  exact List.getElem_mem h
set_option maxRecDepth 100000 in
theorem ze_Tree_measureLeaves (D : Nat) (h : zt_at T) {R : List Nat} (hR : zr_L μ (T + 1) R) (hb : ∀ w ∈ R, w < 10) (hm : ∀ w ∈ R, ∃ n, n < 19 ∧ μ (T + 3) w = nI n) {a : Nat} (ha : a < 2) :
    ∃ μ', ze_E (D + 2) A_Tree_measureLeaves [.ref (T + 1), .int (nI a)] (zm_mk μ) none (zm_mk μ') ∧ (∀ c, c ≠ T + 16 + a → μ' c = μ c) ∧ ∀ n, n < 19 → μ' (T + 16 + a) n = zt_lf (μ (T + 5 + a)) (μ (T + 3)) R n := by
  obtain ⟨⟨x4, x15, -, -⟩, A5, A16, -, -⟩ := zt_axT (μ := μ) h ha
  have hfl : ∀ n, n < 19 → zm_fl μ (T + 16 + a) 0 19 (T + 16 + a) n = 0 := fun n hn => if_pos ⟨rfl, hn⟩
  have hfl2 : ∀ c, c ≠ T + 16 + a → zm_fl μ (T + 16 + a) 0 19 c = μ c := fun c hc => by
    funext b
    exact if_neg (by omega)
  have key : ∃ r h', ze_G (D + 1) 5 none zc_X3_measureLeaves 12 [(2, .int (nI 0)), (0, .ref (T + 1)), (1, .int (nI a))] [] (zm_mk (zm_fl μ (T + 16 + a) 0 19)) r h' ∧ (r = none ∧ ∃ μ', zm_mk μ' = h' ∧ (∀ c, c ≠ T + 16 + a → μ' c = μ c) ∧ ∀ n, n < 19 → μ' (T + 16 + a) n = zt_lf (μ (T + 5 + a)) (μ (T + 3)) R n) := by
    refine ze_loop (Q := fun i L hp => i ≤ R.length ∧ zi_nl L = true ∧ zi_get L 0 = some (.ref (T + 1)) ∧ zi_get L 1 = some (.int (nI a)) ∧ zi_get L 2 = some (.int (nI i)) ∧ ∃ ν, zm_mk ν = hp ∧ (∀ c, c ≠ T + 16 + a → ν c = μ c) ∧ ∀ n, n < 19 → ν (T + 16 + a) n = zt_lf (μ (T + 5 + a)) (μ (T + 3)) (R.take i) n) (R := fun r h' => r = none ∧ ∃ μ', zm_mk μ' = h' ∧ (∀ c, c ≠ T + 16 + a → μ' c = μ c) ∧ ∀ n, n < 19 → μ' (T + 16 + a) n = zt_lf (μ (T + 5 + a)) (μ (T + 3)) R n) R.length ?_ ?_ R.length 0 _ _ (by omega) ⟨by omega, rfl, rfl, rfl, rfl, _, rfl, hfl2, hfl⟩
    · rintro i L _ hi ⟨-, nl, g0, g1, g2, ν, rfl, f1, f2⟩
      left
      have hR' : zr_L ν (T + 1) R := by
        refine ⟨hR.1, ?_, ?_⟩
        · rw [f1 (T + 1) (by omega)]; exact hR.2.1
        · rw [f1 (T + 2) (by omega)]; exact hR.2.2
      have hR10 := hR.1
      have hwm : R.getD i 0 ∈ R := zl_mem hi
      have htk : R.take (i + 1) = R.take i ++ [R.getD i 0] := zl_take hi
      obtain ⟨N1, h1⟩ := ze_Row_sizeL (μ := ν) D h.2.1 hR'
      obtain ⟨N2, h2⟩ := ze_Row_getL (μ := ν) D h.2.1 hR' hi
      generalize R.getD i 0 = w at hwm htk h2
      have hw := hb w hwm
      obtain ⟨l, hl, el⟩ := hm w hwm
      obtain ⟨N3, h3⟩ := ze_max (h := zm_mk ν) D (ν (T + 16 + a) l) (ν (T + 5 + a) w)
      obtain ⟨⟨y4, y15, -, -⟩, -, -, -, -⟩ := zt_axT (μ := ν) h ha
      have c1 : ¬ nI R.length ≤ nI i := nI_ge hi (by omega)
      have i1 : zi_in (nI w) 10 = true := zm_in hw (by decide)
      have i2 : zi_in (nI l) 19 = true := zm_in hl (by decide)
      have e1 : (nI w).toNatClampNeg = w := nI_clamp (by omega)
      have e2 : (nI l).toNatClampNeg = l := nI_clamp (by omega)
      have el' : ν (T + 3) w = nI l := by rw [f1 _ (by omega)]; exact el
      have cr := zr_c (μ := ν) h.2.1
      refine ⟨zi_set (zi_set (zi_set L 3 (.int (nI w))) 4 (.int (nI l))) 2 (.int (nI (i + 1))), zm_mk (zm_up ν (T + 16 + a) l (zi_mx (ν (T + 16 + a) l) (ν (T + 5 + a) w))), ⟨N1 + N2 + N3, 36, fun F n hF => ?_⟩, by omega, ?_, ?_, ?_, ?_, _, rfl, fun c hc => ?_, fun n hn => ?_⟩
      · simp (maxDischargeDepth := 9) [zg_0, zg_aaload, zg_aload_n, zg_getfield, zg_goto, zg_iaload, zg_iastore, zg_iconst, zg_if_icmp, zg_iinc, zg_iload, zg_iload_n, zg_invokestatic, zg_invokevirtual, zg_istore, zg_istore_n, zg_return, zf_X3_measureLeaves, zi_ld, zi_lda, zi_cmp, zi_retOk, zi_isI, zi_f3, zi_cr, zi_ci, zi_cn, zi_get_ne, zi_nl_i, zi_nl_r, zi_get_set_eq, nl, g0, g1, g2, zt_g h, zq_Row_size, zq_Row_get, zq_Math_max, cr, h1 F (by omega), h2 F (by omega), h3 F (by omega), c1, zm_iald (k := 0) h.2.2.1 i1, e1, e2, el', y4, y15, zm_iald (k := 0) A16 i2, zm_iald (k := 0) A5 i1, zm_iast A16 i2, nI_1]
      · simp (maxDischargeDepth := 9) [zi_nl_i, zi_nl_r, nl]
      · simp (maxDischargeDepth := 9) [zi_get_ne, zi_nl_i, zi_nl_r, zi_ci, nl, g0]
      · simp (maxDischargeDepth := 9) [zi_get_ne, zi_nl_i, zi_nl_r, zi_ci, nl, g1]
      · exact zi_get_set_eq
      · rw [zm_up_row hc]; exact f1 c hc
      · rw [htk, zt_lf_snoc]
        by_cases e : n = l
        · subst e
          rw [zm_up_eq, if_pos el, f2 n hn, f1 _ (by omega)]
        · rw [zm_up_ne (by omega), if_neg (by rw [el, nI_eq (by omega) (by omega)]; omega)]
          exact f2 n hn
    · rintro L _ ⟨-, nl, g0, g1, g2, ν, rfl, f1, f2⟩
      have hR' : zr_L ν (T + 1) R := by
        refine ⟨hR.1, ?_, ?_⟩
        · rw [f1 (T + 1) (by omega)]; exact hR.2.1
        · rw [f1 (T + 2) (by omega)]; exact hR.2.2
      obtain ⟨N1, h1⟩ := ze_Row_sizeL (μ := ν) D h.2.1 hR'
      have cr := zr_c (μ := ν) h.2.1
      rw [List.take_length] at f2
      refine ⟨none, zm_mk ν, ⟨N1, 7, fun F n hF => ?_⟩, rfl, ν, rfl, f1, f2⟩
      simp [zg_0, zg_aaload, zg_aload_n, zg_getfield, zg_goto, zg_iaload, zg_iastore, zg_iconst, zg_if_icmp, zg_iinc, zg_iload, zg_iload_n, zg_invokestatic, zg_invokevirtual, zg_istore, zg_istore_n, zg_return, zf_X3_measureLeaves, zi_ld, zi_lda, zi_cmp, zi_retOk, zi_isI, zi_f3, zi_cr, zi_ci, zi_cn, g0, g1, g2, zt_g h, zq_Row_size, cr, h1 F (by omega)]
  obtain ⟨r, h', G, rfl, μ', rfl, p1, p2⟩ := key
  obtain ⟨N, hf⟩ := ze_fill (μ := μ) D A16 (by decide) 0
  refine ⟨μ', ze_in [(0, .ref (T + 1)), (1, .int (nI a))] zq_Tree_measureLeaves (Nat.le_of_ble_eq_true rfl) rfl (ze_S.end ⟨N, 8, fun F n hF => ?_⟩ G), p1, p2⟩
  simp [zg_0, zg_aaload, zg_aload_n, zg_getfield, zg_goto, zg_iaload, zg_iastore, zg_iconst, zg_if_icmp, zg_iinc, zg_iload, zg_iload_n, zg_invokestatic, zg_invokevirtual, zg_istore, zg_istore_n, zg_return, zf_X3_measureLeaves, zi_ld, zi_lda, zi_cmp, zi_retOk, zi_isI, zi_f3, zi_cr, zi_ci, zi_cn, zi_get, zi_set, zt_g h, x15, zq_Arr_fill, hf F hF, nI_0]
end ZT5
end
section
/-! Tree.measureCuts, settle -/
section ZT6
variable {T : Nat}
/-- all arrays of nodes at one place: read, written -/
theorem zt_ld {μ : zm_M} {j : Int32} (h : zt_at T) (hj : zi_in j 19 = true) : zi_iald none [] (zm_mk μ) j (T + 7 + 1) = some (.int (μ (T + 7) j.toNatClampNeg)) ∧ zi_iald none [] (zm_mk μ) j (T + 8 + 1) = some (.int (μ (T + 8) j.toNatClampNeg)) ∧ zi_iald none [] (zm_mk μ) j (T + 9 + 1) = some (.int (μ (T + 9) j.toNatClampNeg)) ∧ zi_iald none [] (zm_mk μ) j (T + 10 + 1) = some (.int (μ (T + 10) j.toNatClampNeg)) ∧ zi_iald none [] (zm_mk μ) j (T + 11 + 1) = some (.int (μ (T + 11) j.toNatClampNeg)) ∧ zi_iald none [] (zm_mk μ) j (T + 12 + 1) = some (.int (μ (T + 12) j.toNatClampNeg)) ∧ zi_iald none [] (zm_mk μ) j (T + 13 + 1) = some (.int (μ (T + 13) j.toNatClampNeg)) ∧ zi_iald none [] (zm_mk μ) j (T + 14 + 1) = some (.int (μ (T + 14) j.toNatClampNeg)) := by
  obtain ⟨-, -, -, -, ⟨a7, a8, a9, a10, a11, a12, a13, a14⟩, -⟩ := h
  exact ⟨zm_iald (k := 0) a7 hj, zm_iald (k := 0) a8 hj, zm_iald (k := 0) a9 hj, zm_iald (k := 0) a10 hj, zm_iald (k := 0) a11 hj, zm_iald (k := 0) a12 hj, zm_iald (k := 0) a13 hj, zm_iald (k := 0) a14 hj⟩
theorem zt_st {μ : zm_M} {j : Int32} (h : zt_at T) (hj : zi_in j 19 = true) (x : Int32) : zi_iast (zm_mk μ) j (T + 7) (.int x) = some (zm_mk (zm_up μ (T + 7) j.toNatClampNeg x)) ∧ zi_iast (zm_mk μ) j (T + 8) (.int x) = some (zm_mk (zm_up μ (T + 8) j.toNatClampNeg x)) ∧ zi_iast (zm_mk μ) j (T + 9) (.int x) = some (zm_mk (zm_up μ (T + 9) j.toNatClampNeg x)) ∧ zi_iast (zm_mk μ) j (T + 10) (.int x) = some (zm_mk (zm_up μ (T + 10) j.toNatClampNeg x)) ∧ zi_iast (zm_mk μ) j (T + 11) (.int x) = some (zm_mk (zm_up μ (T + 11) j.toNatClampNeg x)) ∧ zi_iast (zm_mk μ) j (T + 12) (.int x) = some (zm_mk (zm_up μ (T + 12) j.toNatClampNeg x)) ∧ zi_iast (zm_mk μ) j (T + 13) (.int x) = some (zm_mk (zm_up μ (T + 13) j.toNatClampNeg x)) ∧ zi_iast (zm_mk μ) j (T + 14) (.int x) = some (zm_mk (zm_up μ (T + 14) j.toNatClampNeg x)) := by
  obtain ⟨-, -, -, -, ⟨a7, a8, a9, a10, a11, a12, a13, a14⟩, -⟩ := h
  exact ⟨zm_iast a7 hj, zm_iast a8 hj, zm_iast a9 hj, zm_iast a10 hj, zm_iast a11 hj, zm_iast a12 hj, zm_iast a13 hj, zm_iast a14 hj⟩
noncomputable def zy_ls (a : Nat) (fm lf : Nat → Int32) : zy_F → Int32
  | .append (.tag n x) y => if fm n = nI a then zy_ls a fm lf x + zy_ls a fm lf y else zi_mx (zy_ls a fm lf x) (zy_ls a fm lf y)
  | .tag n _ => lf n
  | _ => 0
noncomputable def zy_lso (g : Nat → Int32) (a : Nat) (fm lf : Nat → Int32) : zy_F → Prop
  | .append (.tag n x) y => g n = zy_ls a fm lf (.append (.tag n x) y) ∧ zy_lso g a fm lf x ∧ zy_lso g a fm lf y
  | .tag n _ => g n = lf n
  | _ => True
theorem zy_lso_id {g : Nat → Int32} {a : Nat} {fm lf : Nat → Int32} : ∀ t, zy_wf t → zy_lso g a fm lf t → g (zy_id t) = zy_ls a fm lf t := by
  apply zy_ind
  · intro n h
    exact h
  · intro n x y _ _ _ _ h
    exact h.1
theorem zy_lso_congr {g g' : Nat → Int32} {a : Nat} {fm lf : Nat → Int32} : ∀ t, zy_wf t → (∀ n ∈ zy_ids t, g' n = g n) → zy_lso g a fm lf t → zy_lso g' a fm lf t := by
  apply zy_ind
  · intro n e h
    exact (e n List.mem_cons_self).trans h
  · intro n x y _ _ ix iy e h
    refine ⟨(e n List.mem_cons_self).trans h.1, ix (fun m hm => e m (List.mem_cons_of_mem _ (List.mem_append_left _ hm))) h.2.1, iy (fun m hm => e m (List.mem_cons_of_mem _ (List.mem_append_right _ hm))) h.2.2⟩
theorem zi_subm (x : Int32) : x + (-1) = x - 1 := by
  rw [Int32.sub_eq_add_neg]
set_option maxRecDepth 100000 in
theorem zt_cuts_S (D : Nat) (h : zt_at T) {a : Nat} (ha : a < 2) (fm lf : Nat → Int32) : ∀ t, zy_wf t → ∀ (μ : zm_M) (L : zi_Lc) (p : Nat), μ (T + 7) = fm → zy_okM μ T t → (∀ n ∈ zy_ids t, n < 19) → (zy_ids t).Nodup →
    (∀ j, j < (zy_ids t).length → μ (T + 13) (p + j) = nI ((zy_ids t).getD j 0)) → zi_nl L = true → zi_get L 0 = some (.ref (T + 1)) → zi_get L 1 = some (.int (nI a)) → zi_get L 2 = some (.int (nI (p + (zy_ids t).length) - 1)) → p + (zy_ids t).length ≤ 19 →
    (∀ n ∈ zy_lvs t, μ (T + 16 + a) n = lf n) →
    ∃ μ' L', ze_S (D + 1) 6 none zc_X3_measureCuts 7 L [] (zm_mk μ) 7 L' [] (zm_mk μ') ∧ zi_nl L' = true ∧ zi_get L' 0 = some (.ref (T + 1)) ∧ zi_get L' 1 = some (.int (nI a)) ∧ zi_get L' 2 = some (.int (nI p - 1)) ∧
      (∀ c, c ≠ T + 16 + a → μ' c = μ c) ∧ (∀ n, n ∉ zy_ids t → μ' (T + 16 + a) n = μ (T + 16 + a) n) ∧ zy_lso (μ' (T + 16 + a)) a fm lf t := by
  apply zy_ind
  · intro n μ L p hf hok hlt hnd ho nl g0 g1 g2 hp hlv
    have hn : n < 19 := hlt n List.mem_cons_self
    have hfm : μ (T + 7) n = 2 := hok
    have hp : p + 1 ≤ 19 := hp
    have g2 : zi_get L 2 = some (.int (nI (p + 1) - 1)) := g2
    rw [nI_pred] at g2
    have ho : μ (T + 13) p = nI n := ho 0 (Nat.zero_lt_one)
    have c1 : ¬ nI p < 0 := nI_pos (by omega)
    have i1 : zi_in (nI p) 19 = true := zm_in (by omega) (by decide)
    have i2 : zi_in (nI n) 19 = true := zm_in (by omega) (by decide)
    have e1 : (nI p).toNatClampNeg = p := nI_clamp (by omega)
    have e2 : (nI n).toNatClampNeg = n := nI_clamp (by omega)
    refine ⟨μ, zi_set (zi_set L 3 (.int (nI n))) 2 (.int (nI p - 1)), ⟨0, 15, fun F m _ => ?_⟩, ?_, ?_, ?_, ?_, fun c _ => rfl, fun m _ => rfl, hlv n List.mem_cons_self⟩
    · simp (maxDischargeDepth := 9) [zg_0, zg_aaload, zg_aload_n, zg_getfield, zg_goto, zg_iadd, zg_iaload, zg_iastore, zg_iconst, zg_ifCond, zg_if_icmp, zg_iinc, zg_iload, zg_iload_n, zg_invokestatic, zg_istore, zg_istore_n, zg_isub, zg_return, zf_X3_measureCuts, zi_ld, zi_lda, zi_cmp, zi_retOk, zi_isI, zi_f3, zi_cr, zi_ci, zi_cn, zi_get_ne, zi_nl_i, zi_nl_r, zi_get_set_eq, nl, g0, g1, g2, c1, zt_g h, zt_ld h i1, e1, ho, zt_ld h i2, e2, hfm, zi_subm]
    · simp (maxDischargeDepth := 9) [zi_get_ne, zi_nl_i, zi_nl_r, zi_get_set_eq, nl]
    · simp (maxDischargeDepth := 9) [zi_get_ne, zi_nl_i, zi_nl_r, zi_get_set_eq, nl, g0]
    · simp (maxDischargeDepth := 9) [zi_get_ne, zi_nl_i, zi_nl_r, zi_get_set_eq, nl, g1]
    · exact zi_get_set_eq
  · intro n x y wx wy ihx ihy μ L p hf hok hlt hnd ho nl g0 g1 g2 hp hlv
    have hlen : (zy_ids (.append (.tag n x) y)).length = (zy_ids x).length + (zy_ids y).length + 1 := by
      show (n :: (zy_ids x ++ zy_ids y)).length = _
      simp only [List.length_cons, List.length_append]
    rw [hlen] at ho g2 hp
    have ho' : ∀ j, j < (zy_ids x).length + (zy_ids y).length + 1 → μ (T + 13) (p + j) = nI ((n :: (zy_ids x ++ zy_ids y)).getD j 0) := ho
    have hnd' : (n :: (zy_ids x ++ zy_ids y)).Nodup := hnd
    obtain ⟨hn1, hn2⟩ := List.nodup_cons.mp hnd'
    obtain ⟨ndx, ndy, dis⟩ := List.nodup_append.mp hn2
    have hn : n < 19 := hlt n List.mem_cons_self
    have hlx : ∀ m ∈ zy_ids x, m < 19 := fun m hm => hlt m (List.mem_cons_of_mem _ (List.mem_append_left _ hm))
    have hly : ∀ m ∈ zy_ids y, m < 19 := fun m hm => hlt m (List.mem_cons_of_mem _ (List.mem_append_right _ hm))
    obtain ⟨⟨hfm, hfs, hsd, -, -⟩, okx, oky⟩ := hok
    have lx := hlx _ (zy_id_mem wx)
    have ly := hly _ (zy_id_mem wy)
    obtain ⟨μ1, L1, S1, nl1, a0, a1, a2, f1, o1, l1⟩ := ihy μ L (p + 1 + (zy_ids x).length) hf oky hly ndy (fun j hj => by
      have := ho' (1 + (zy_ids x).length + j) (by omega)
      rw [show p + (1 + (zy_ids x).length + j) = p + 1 + (zy_ids x).length + j by omega] at this
      rw [this, show 1 + (zy_ids x).length + j = ((zy_ids x).length + j) + 1 by omega]
      show nI ((zy_ids x ++ zy_ids y).getD ((zy_ids x).length + j) 0) = _
      rw [List.getD_eq_getElem?_getD, List.getElem?_append_right (by omega), List.getD_eq_getElem?_getD, show (zy_ids x).length + j - (zy_ids x).length = j by omega]) nl g0 g1 (by rw [g2]; congr 4; omega) (by omega) (fun m hm => hlv m (List.mem_append_right _ hm))
    have ok1 : zy_okM μ1 T x := by
      unfold zy_okM
      rw [f1 (T + 7) (by omega), f1 (T + 9) (by omega), f1 (T + 10) (by omega), f1 (T + 11) (by omega)]
      exact okx
    obtain ⟨μ2, L2, S2, nl2, b0, b1, b2, f2, o2, l2⟩ := ihx μ1 L1 (p + 1) (by rw [f1 (T + 7) (by omega)]; exact hf) ok1 hlx ndx (fun j hj => by
      rw [f1 (T + 13) (by omega)]
      have := ho' (1 + j) (by omega)
      rw [show p + (1 + j) = p + 1 + j by omega] at this
      rw [this, show 1 + j = j + 1 by omega]
      show nI ((zy_ids x ++ zy_ids y).getD j 0) = _
      rw [List.getD_eq_getElem?_getD, List.getElem?_append_left hj, List.getD_eq_getElem?_getD]) nl1 a0 a1 a2 (by omega) (fun m hm => by
      rw [o1 m (fun hm2 => dis m (zy_lvs_ids x wx m hm) m hm2 rfl)]
      exact hlv m (List.mem_append_left _ hm))
    have f12 : ∀ c, c ≠ T + 16 + a → μ2 c = μ c := fun c hc => (f2 c hc).trans (f1 c hc)
    have l1' : zy_lso (μ2 (T + 16 + a)) a fm lf y := zy_lso_congr y wy (fun m hm => o2 m (fun hm2 => dis m hm2 m hm rfl)) l1
    have ex := zy_lso_id x wx l2
    have ey := zy_lso_id y wy l1'
    have g7 : μ2 (T + 7) n = fm n := by rw [f12 _ (by omega), hf]
    have g9 : μ2 (T + 9) n = nI (zy_id x) := by rw [f12 _ (by omega)]; exact hfs
    have g10 : μ2 (T + 10) n = nI (zy_id y) := by rw [f12 _ (by omega)]; exact hsd
    have g13 : μ2 (T + 13) p = nI n := by rw [f12 _ (by omega)]; exact ho' 0 (by omega)
    rw [hf] at hfm
    have hfm2 : ¬ fm n = 2 := by rcases hfm with e | e <;> rw [e] <;> decide
    rw [nI_pred] at b2
    have nl := nl2
    have c1 : ¬ nI p < 0 := nI_pos (by omega)
    have i1 : zi_in (nI p) 19 = true := zm_in (by omega) (by decide)
    have i2 : zi_in (nI n) 19 = true := zm_in (by omega) (by decide)
    have i3 : zi_in (nI (zy_id x)) 19 = true := zm_in lx (by decide)
    have i4 : zi_in (nI (zy_id y)) 19 = true := zm_in ly (by decide)
    have e1 : (nI p).toNatClampNeg = p := nI_clamp (by omega)
    have e2 : (nI n).toNatClampNeg = n := nI_clamp (by omega)
    have e3 : (nI (zy_id x)).toNatClampNeg = zy_id x := nI_clamp (by omega)
    have e4 : (nI (zy_id y)).toNatClampNeg = zy_id y := nI_clamp (by omega)
    obtain ⟨⟨-, y15, -, -⟩, -, A16, -, -⟩ := zt_axT (μ := μ2) h ha
    obtain ⟨N3, h3⟩ := ze_max (h := zm_mk μ2) D (zy_ls a fm lf x) (zy_ls a fm lf y)
    let v := zy_ls a fm lf (.append (.tag n x) y)
    have hv : v = if fm n = nI a then zy_ls a fm lf x + zy_ls a fm lf y else zi_mx (zy_ls a fm lf x) (zy_ls a fm lf y) := rfl
    have S3 : ze_S (D + 1) 6 none zc_X3_measureCuts 7 L2 [] (zm_mk μ2) 7 (zi_set (zi_set (zi_set (zi_set L2 3 (.int (nI n))) 4 (.int (zy_ls a fm lf x))) 5 (.int (zy_ls a fm lf y))) 2 (.int (nI p - 1))) [] (zm_mk (zm_up μ2 (T + 16 + a) n v)) := by
      by_cases c : fm n = nI a
      · rw [if_pos c] at hv
        rw [hv]
        have hfm3 : ¬ nI a = 2 := c ▸ hfm2
        refine ⟨0, 51, fun F m _ => ?_⟩
        simp (maxDischargeDepth := 9) [zg_0, zg_aaload, zg_aload_n, zg_getfield, zg_goto, zg_iadd, zg_iaload, zg_iastore, zg_iconst, zg_ifCond, zg_if_icmp, zg_iinc, zg_iload, zg_iload_n, zg_invokestatic, zg_istore, zg_istore_n, zg_isub, zg_return, zf_X3_measureCuts, zi_ld, zi_lda, zi_cmp, zi_retOk, zi_isI, zi_f3, zi_cr, zi_ci, zi_cn, zi_get_ne, zi_nl_i, zi_nl_r, zi_get_set_eq, nl, b0, b1, b2, c1, zt_g h, zt_ld h i1, e1, g13, zt_ld h i2, e2, g7, c, hfm3, y15, g9, g10, zm_iald (k := 0) A16 i3, zm_iald (k := 0) A16 i4, zm_iast A16 i2, e3, e4, ex, ey, zi_subm]
      · rw [if_neg c] at hv
        rw [hv]
        refine ⟨N3, 50, fun F m hF => ?_⟩
        simp (maxDischargeDepth := 9) [zg_0, zg_aaload, zg_aload_n, zg_getfield, zg_goto, zg_iadd, zg_iaload, zg_iastore, zg_iconst, zg_ifCond, zg_if_icmp, zg_iinc, zg_iload, zg_iload_n, zg_invokestatic, zg_istore, zg_istore_n, zg_isub, zg_return, zf_X3_measureCuts, zi_ld, zi_lda, zi_cmp, zi_retOk, zi_isI, zi_f3, zi_cr, zi_ci, zi_cn, zi_get_ne, zi_nl_i, zi_nl_r, zi_get_set_eq, nl, b0, b1, b2, c1, zt_g h, zt_ld h i1, e1, g13, zt_ld h i2, e2, g7, c, hfm2, y15, g9, g10, zm_iald (k := 0) A16 i3, zm_iald (k := 0) A16 i4, zm_iast A16 i2, e3, e4, ex, ey, zi_subm, zq_Math_max, h3 F hF]
    refine ⟨_, _, (S1.trans S2).trans S3, ?_, ?_, ?_, zi_get_set_eq, fun c hc => ?_, fun m hm => ?_, ?_, ?_, ?_⟩
    · simp (maxDischargeDepth := 9) [zi_get_ne, zi_nl_i, zi_nl_r, zi_get_set_eq, nl]
    · simp (maxDischargeDepth := 9) [zi_get_ne, zi_nl_i, zi_nl_r, zi_get_set_eq, nl, b0]
    · simp (maxDischargeDepth := 9) [zi_get_ne, zi_nl_i, zi_nl_r, zi_get_set_eq, nl, b1]
    · rw [zm_up_row hc]
      exact f12 c hc
    · have hm1 : m ≠ n := fun e => hm (e ▸ List.mem_cons_self)
      have hm2 : m ∉ zy_ids x := fun e => hm (List.mem_cons_of_mem _ (List.mem_append_left _ e))
      have hm3 : m ∉ zy_ids y := fun e => hm (List.mem_cons_of_mem _ (List.mem_append_right _ e))
      rw [zm_up_ne (by omega), o2 m hm2, o1 m hm3]
    · exact zm_up_eq
    · exact zy_lso_congr x wx (fun m hm => zm_up_ne (fun e => hn1 (e.2 ▸ List.mem_append_left _ hm))) l2
    · exact zy_lso_congr y wy (fun m hm => zm_up_ne (fun e => hn1 (e.2 ▸ List.mem_append_right _ hm))) l1'
set_option maxRecDepth 100000 in
theorem ze_Tree_measureCuts {μ : zm_M} {t : zy_F} (D : Nat) (h : zt_at T) {a : Nat} (ha : a < 2) (lf : Nat → Int32) (hr : zt_root μ T t) (hlt : ∀ n ∈ zy_ids t, n < 19) (hnd : (zy_ids t).Nodup) (ho : zt_O μ T t) (hlv : ∀ n ∈ zy_lvs t, μ (T + 16 + a) n = lf n) :
    ∃ μ', ze_E (D + 2) A_Tree_measureCuts [.ref (T + 1), .int (nI a)] (zm_mk μ) none (zm_mk μ') ∧ (∀ c, c ≠ T + 16 + a → μ' c = μ c) ∧ zy_lso (μ' (T + 16 + a)) a (μ (T + 7)) lf t := by
  have hl19 := zy_nodup_le 19 (zy_ids t) hnd hlt
  have s0 : ze_S (D + 1) 6 none zc_X3_measureCuts 0 [(0, .ref (T + 1)), (1, .int (nI a))] [] (zm_mk μ) 7 [(2, .int (nI (0 + (zy_ids t).length) - 1)), (0, .ref (T + 1)), (1, .int (nI a))] [] (zm_mk μ) := by
    refine ⟨0, 5, fun F n _ => ?_⟩
    simp [zg_0, zg_aaload, zg_aload_n, zg_getfield, zg_goto, zg_iadd, zg_iaload, zg_iastore, zg_iconst, zg_ifCond, zg_if_icmp, zg_iinc, zg_iload, zg_iload_n, zg_invokestatic, zg_istore, zg_istore_n, zg_isub, zg_return, zf_X3_measureCuts, zi_ld, zi_lda, zi_cmp, zi_retOk, zi_isI, zi_f3, zi_cr, zi_ci, zi_cn, zi_get, zi_set, zt_g h, ho.1]
  have hend : ∀ (L : zi_Lc) (ν : zm_M), zi_get L 2 = some (.int (nI 0 - 1)) → ze_G (D + 1) 6 none zc_X3_measureCuts 7 L [] (zm_mk ν) none (zm_mk ν) := by
    intro L ν g2
    have c : nI 0 - 1 < 0 := by decide
    refine ⟨0, 3, fun F n _ => ?_⟩
    simp [zg_0, zg_aaload, zg_aload_n, zg_getfield, zg_goto, zg_iadd, zg_iaload, zg_iastore, zg_iconst, zg_ifCond, zg_if_icmp, zg_iinc, zg_iload, zg_iload_n, zg_invokestatic, zg_istore, zg_istore_n, zg_isub, zg_return, zf_X3_measureCuts, zi_ld, zi_lda, zi_cmp, zi_retOk, zi_isI, zi_f3, zi_cr, zi_ci, zi_cn, g2, c]
  rcases hr with ⟨rfl, hr⟩ | ⟨hw, hok, hr⟩
  · exact ⟨μ, ze_in [(0, .ref (T + 1)), (1, .int (nI a))] zq_Tree_measureCuts (Nat.le_of_ble_eq_true rfl) rfl (s0.end (hend _ _ rfl)), fun _ _ => rfl, trivial⟩
  · obtain ⟨μ', L', S, -, -, -, g2, f, -, l⟩ := zt_cuts_S D h ha (μ (T + 7)) lf t hw μ [(2, .int (nI (0 + (zy_ids t).length) - 1)), (0, .ref (T + 1)), (1, .int (nI a))] 0 rfl hok hlt hnd (fun j hj => by rw [Nat.zero_add]; exact ho.2 j hj) rfl rfl rfl rfl (by omega) hlv
    exact ⟨μ', ze_in [(0, .ref (T + 1)), (1, .int (nI a))] zq_Tree_measureCuts (Nat.le_of_ble_eq_true rfl) rfl ((s0.trans S).end (hend _ _ g2)), f, l⟩
/-- what the tree's found fields say -/
noncomputable def zt_Z (μ : zm_M) (T : Nat) (R : List Nat) (t : zy_F) : Prop := zt_O μ T t ∧ ∀ a, a < 2 → zy_lso (μ (T + 16 + a)) a (μ (T + 7)) (zt_lf (μ (T + 5 + a)) (μ (T + 3)) R) t
/-- what settle leaves as it was -/
noncomputable def zt_frZ (T : Nat) (μ μ' : zm_M) : Prop := (∀ c, c ≠ T → c ≠ T + 13 → c ≠ T + 14 → c ≠ T + 16 → c ≠ T + 17 → μ' c = μ c) ∧ ∀ b, b ≠ 12 → μ' T b = μ T b
theorem zt_frZ.trans {μ ν ξ : zm_M} (h : zt_frZ T μ ν) (g : zt_frZ T ν ξ) : zt_frZ T μ ξ := ⟨fun a h1 h2 h3 h4 h5 => (g.1 a h1 h2 h3 h4 h5).trans (h.1 a h1 h2 h3 h4 h5), fun b hb => (g.2 b hb).trans (h.2 b hb)⟩
theorem zt_frZ.root {μ ν : zm_M} {t : zy_F} (h : zt_frZ T μ ν) (g : zt_root μ T t) : zt_root ν T t := by
  unfold zt_root zy_okM at *
  rw [h.1 (T + 7) (by omega) (by omega) (by omega) (by omega) (by omega), h.1 (T + 9) (by omega) (by omega) (by omega) (by omega) (by omega), h.1 (T + 10) (by omega) (by omega) (by omega) (by omega) (by omega), h.1 (T + 11) (by omega) (by omega) (by omega) (by omega) (by omega), h.2 9 (by decide)]
  exact g
theorem zt_frZ.rowL {μ ν : zm_M} {R : List Nat} (h : zt_frZ T μ ν) (g : zr_L μ (T + 1) R) : zr_L ν (T + 1) R := by
  unfold zr_L at *
  rw [h.1 (T + 1) (by omega) (by omega) (by omega) (by omega) (by omega), show T + 1 + 1 = T + 2 from rfl, h.1 (T + 2) (by omega) (by omega) (by omega) (by omega) (by omega)]
  exact g
theorem zy_lvs_lt {t : zy_F} (hr : t = .nil ∨ zy_wf t) (hlt : ∀ n ∈ zy_ids t, n < 19) : ∀ n ∈ zy_lvs t, n < 19 := by
  rcases hr with rfl | hw
  · intro n hn; cases hn
  · exact fun n hn => hlt n (zy_lvs_ids t hw n hn)
set_option maxRecDepth 100000 in
theorem ze_Tree_settle {μ : zm_M} {t : zy_F} {R : List Nat} (D : Nat) (h : zt_at T) (hr : zt_root μ T t) (hlt : ∀ n ∈ zy_ids t, n < 19) (hnd : (zy_ids t).Nodup) (hR : zr_L μ (T + 1) R) (hb : ∀ w ∈ R, w < 10) (hm : ∀ w ∈ R, ∃ n, n < 19 ∧ μ (T + 3) w = nI n) :
    ∃ μ', ze_E (D + 3) A_Tree_settle [.ref (T + 1)] (zm_mk μ) none (zm_mk μ') ∧ zt_frZ T μ μ' ∧ zt_Z μ' T R t := by
  have hlv19 := zy_lvs_lt (hr.imp (·.1) (·.1)) hlt
  obtain ⟨μ1, ⟨N1, E1⟩, f1, o1⟩ := ze_Tree_listNodes (D + 1) h hr hlt hnd
  have F1 : zt_frZ T μ μ1 := ⟨fun c h1 h2 h3 _ _ => f1.1 c h1 h2 h3, f1.2⟩
  have two : ∀ (a : Nat) (ν : zm_M), a < 2 → zt_frZ T μ ν → ∃ ν1 ν2, ze_E (D + 2) A_Tree_measureLeaves [.ref (T + 1), .int (nI a)] (zm_mk ν) none (zm_mk ν1) ∧ (zt_O ν T t → ze_E (D + 2) A_Tree_measureCuts [.ref (T + 1), .int (nI a)] (zm_mk ν1) none (zm_mk ν2) ∧ (∀ c, c ≠ T + 16 + a → ν2 c = ν c) ∧ zy_lso (ν2 (T + 16 + a)) a (μ (T + 7)) (zt_lf (μ (T + 5 + a)) (μ (T + 3)) R) t) := by
    intro a ν ha fν
    have e3 := fν.1 (T + 3) (by omega) (by omega) (by omega) (by omega) (by omega)
    have e5 := fν.1 (T + 5 + a) (by omega) (by omega) (by omega) (by omega) (by omega)
    have e7 := fν.1 (T + 7) (by omega) (by omega) (by omega) (by omega) (by omega)
    obtain ⟨ν1, E, g1, g2⟩ := ze_Tree_measureLeaves (μ := ν) D h (fν.rowL hR) hb (by rw [e3]; exact hm) ha
    rw [e3, e5] at g2
    by_cases ho : zt_O ν T t
    · have r1 : zt_root ν1 T t := by
        have := fν.root hr
        unfold zt_root zy_okM at *
        rw [g1 (T + 7) (by omega), g1 (T + 9) (by omega), g1 (T + 10) (by omega), g1 (T + 11) (by omega), g1 T (by omega)]
        exact this
      have o1 : zt_O ν1 T t := by
        unfold zt_O at *
        rw [g1 T (by omega), g1 (T + 13) (by omega)]
        exact ho
      obtain ⟨ν2, E2, k1, k2⟩ := ze_Tree_measureCuts (μ := ν1) D h ha (zt_lf (μ (T + 5 + a)) (μ (T + 3)) R) r1 hlt hnd o1 (fun n hn => g2 n (hlv19 n hn))
      rw [g1 (T + 7) (by omega), e7] at k2
      exact ⟨ν1, ν2, E, fun _ => ⟨E2, fun c hc => (k1 c hc).trans (g1 c hc), k2⟩⟩
    · exact ⟨ν1, ν1, E, fun ho2 => absurd ho2 ho⟩
  obtain ⟨μ2, μ3, ⟨N2, E2⟩, q⟩ := two 0 μ1 (by decide) F1
  obtain ⟨⟨N3, E3⟩, f3, l3⟩ := q o1
  have F3 : zt_frZ T μ μ3 := F1.trans ⟨fun c _ _ _ h4 _ => f3 c (by omega), fun b _ => by rw [f3 T (by omega)]⟩
  have o3 : zt_O μ3 T t := by
    unfold zt_O at *
    rw [f3 T (by omega), f3 (T + 13) (by omega)]
    exact o1
  obtain ⟨μ4, μ5, ⟨N4, E4⟩, q⟩ := two 1 μ3 (by decide) F3
  obtain ⟨⟨N5, E5⟩, f5, l5⟩ := q o3
  have F5 : zt_frZ T μ μ5 := F3.trans ⟨fun c _ _ _ _ h5 => f5 c (by omega), fun b _ => by rw [f5 T (by omega)]⟩
  have o5 : zt_O μ5 T t := by
    unfold zt_O at *
    rw [f5 T (by omega), f5 (T + 13) (by omega)]
    exact o3
  refine ⟨μ5, ze_in [(0, .ref (T + 1))] zq_Tree_settle (Nat.le_of_ble_eq_true rfl) rfl ⟨N1 + N2 + N3 + N4 + N5, 32, fun F n hF => ?_⟩, F5, o5, fun a ha => ?_⟩
  · have n0 : nI 0 = 0 := nI_0
    have n1 : nI 1 = 1 := by decide
    rw [n0] at E2 E3
    rw [n1] at E4 E5
    obtain ⟨l0, k0⟩ := zt_c (μ := μ) h
    obtain ⟨l1, k1⟩ := zt_c (μ := μ1) h
    obtain ⟨l2, k2⟩ := zt_c (μ := μ2) h
    obtain ⟨l3, k3⟩ := zt_c (μ := μ3) h
    obtain ⟨l4, k4⟩ := zt_c (μ := μ4) h
    simp [zg_0, zg_aload_n, zg_goto, zg_iconst, zg_if_icmp, zg_iinc, zg_iload_n, zg_invokevirtual, zg_istore_n, zg_return, zf_X3_settle, zi_ld, zi_lda, zi_cmp, zi_retOk, zi_isI, zi_f3, zi_cr, zi_ci, zi_cn, zi_get, zi_set, zq_Tree_listNodes, zq_Tree_measureLeaves, zq_Tree_measureCuts, k0, k1, k2, k3, k4, E1 F (by omega), E2 F (by omega), E3 F (by omega), E4 F (by omega), E5 F (by omega)]
  · rw [F5.1 (T + 7) (by omega) (by omega) (by omega) (by omega) (by omega), F5.1 (T + 3) (by omega) (by omega) (by omega) (by omega) (by omega), F5.1 (T + 5 + a) (by omega) (by omega) (by omega) (by omega) (by omega)]
    match a, ha with
    | 0, _ =>
      have := f5 (T + 16 + 0) (by omega)
      rw [this]
      exact l3
    | 1, _ => exact l5
end ZT6
end
section
/-! Tree.firstPart, divide, lay -/
section ZT7
variable {T : Nat} {μ : zm_M}
/-- how much of w the first one gets -/
noncomputable def zy_fp (w sh l m : Int32) : Int32 := zi_bt l (w * sh / 100) (w - m)
set_option maxRecDepth 100000 in
theorem ze_Tree_firstPart (D : Nat) (h : zt_at T) {n i j a : Nat} (ha : a < 2) (hn : n < 19) (hi : i < 19) (hj : j < 19) (hfs : μ (T + 9) n = nI i) (hsd : μ (T + 10) n = nI j) :
    ze_E (D + 3) A_Tree_firstPart [.ref (T + 1), .int (nI n), .int (nI a)] (zm_mk μ) (some (.int (zy_fp (μ (T + 22 + a) n) (μ (T + 8) n) (μ (T + 16 + a) i) (μ (T + 16 + a) j)))) (zm_mk μ) := by
  obtain ⟨N, h1⟩ := ze_between (h := zm_mk μ) D (μ (T + 16 + a) i) (μ (T + 22 + a) n * μ (T + 8) n / 100) (μ (T + 22 + a) n - μ (T + 16 + a) j)
  obtain ⟨⟨y4, y15, y18, y21⟩, A5, A16, A19, A22⟩ := zt_axT (μ := μ) h ha
  have h100 : (Int8.ofInt 100).toInt32 = (100 : Int32) := by decide
  have i1 : zi_in (nI n) 19 = true := zm_in hn (by decide)
  have i2 : zi_in (nI i) 19 = true := zm_in hi (by decide)
  have i3 : zi_in (nI j) 19 = true := zm_in hj (by decide)
  have e1 : (nI n).toNatClampNeg = n := nI_clamp (by omega)
  have e2 : (nI i).toNatClampNeg = i := nI_clamp (by omega)
  have e3 : (nI j).toNatClampNeg = j := nI_clamp (by omega)
  refine ze_in [(0, .ref (T + 1)), (1, .int (nI n)), (2, .int (nI a))] zq_Tree_firstPart (Nat.le_of_ble_eq_true rfl) rfl ⟨N, 39, fun F m hF => ?_⟩
  simp [zg_0, zg_aaload, zg_aload_n, zg_bipush, zg_getfield, zg_iaload, zg_idiv, zg_iload, zg_iload_n, zg_imul, zg_invokestatic, zg_ireturn, zg_istore, zg_istore_n, zg_isub, zf_X3_firstPart, zi_ld, zi_lda, zi_cmp, zi_retOk, zi_isI, zi_f3, zi_cr, zi_ci, zi_cn, zi_get, zi_set, zt_g h, zt_ld h i1, e1, e2, e3, hfs, hsd, y15, y21, zm_iald (k := 0) A22 i1, zm_iald (k := 0) A16 i2, zm_iald (k := 0) A16 i3, h100, zq_Desk_between, h1 F hF, zy_fp]
noncomputable def zt_u4 (μ : zm_M) (T i j a : Nat) (s1 l1 s2 l2 : Int32) : zm_M := zm_up (zm_up (zm_up (zm_up μ (T + 19 + a) i s1) (T + 22 + a) i l1) (T + 19 + a) j s2) (T + 22 + a) j l2
/-- one axis of divide -/
noncomputable def zt_dx (μ : zm_M) (T n i j a : Nat) : zm_M :=
  if μ (T + 7) n = nI a then zt_u4 μ T i j a (μ (T + 19 + a) n) (zy_fp (μ (T + 22 + a) n) (μ (T + 8) n) (μ (T + 16 + a) i) (μ (T + 16 + a) j)) (μ (T + 19 + a) n + zy_fp (μ (T + 22 + a) n) (μ (T + 8) n) (μ (T + 16 + a) i) (μ (T + 16 + a) j)) (μ (T + 22 + a) n - zy_fp (μ (T + 22 + a) n) (μ (T + 8) n) (μ (T + 16 + a) i) (μ (T + 16 + a) j))
  else zt_u4 μ T i j a (μ (T + 19 + a) n) (μ (T + 22 + a) n) (μ (T + 19 + a) n) (μ (T + 22 + a) n)
set_option maxRecDepth 100000 in
theorem zt_divide_S (D : Nat) (h : zt_at T) {n i j a : Nat} (ha : a < 2) (hn : n < 19) (hi : i < 19) (hj : j < 19) (hfs : μ (T + 9) n = nI i) (hsd : μ (T + 10) n = nI j) (hni : n ≠ i) {L : zi_Lc} (nl : zi_nl L = true)
    (g0 : zi_get L 0 = some (.ref (T + 1))) (g1 : zi_get L 1 = some (.int (nI n))) (g2 : zi_get L 2 = some (.int (nI i))) (g3 : zi_get L 3 = some (.int (nI j))) (g4 : zi_get L 4 = some (.int (nI a))) :
    ∃ L', ze_S (D + 3) 8 none zc_X3_divide 17 L [] (zm_mk μ) 17 L' [] (zm_mk (zt_dx μ T n i j a)) ∧ zi_nl L' = true ∧ zi_get L' 0 = some (.ref (T + 1)) ∧ zi_get L' 1 = some (.int (nI n)) ∧ zi_get L' 2 = some (.int (nI i)) ∧ zi_get L' 3 = some (.int (nI j)) ∧ zi_get L' 4 = some (.int (nI (a + 1))) := by
  obtain ⟨N, h1⟩ := ze_Tree_firstPart D h ha hn hi hj hfs hsd
  obtain ⟨⟨y4, y15, y18, y21⟩, A5, A16, A19, A22⟩ := zt_axT (μ := μ) h ha
  obtain ⟨lc, cc⟩ := zt_c (μ := μ) h
  have ax : ∀ ν : zm_M, zi_aald (zm_mk ν) (nI a) (T + 18) = some (.ref (T + 19 + a + 1)) ∧ zi_aald (zm_mk ν) (nI a) (T + 21) = some (.ref (T + 22 + a + 1)) := fun ν => by
    obtain ⟨⟨-, -, z18, z21⟩, -⟩ := zt_axT (μ := ν) h ha
    exact ⟨z18, z21⟩
  have ca : ¬ (2 : Int32) ≤ nI a := nI_ge (b := 2) ha (by decide)
  have i1 : zi_in (nI n) 19 = true := zm_in hn (by decide)
  have i2 : zi_in (nI i) 19 = true := zm_in hi (by decide)
  have i3 : zi_in (nI j) 19 = true := zm_in hj (by decide)
  have e1 : (nI n).toNatClampNeg = n := nI_clamp (by omega)
  have e2 : (nI i).toNatClampNeg = i := nI_clamp (by omega)
  have e3 : (nI j).toNatClampNeg = j := nI_clamp (by omega)
  have u1 : ∀ x y, zm_up (zm_up μ (T + 19 + a) i x) (T + 22 + a) i y (T + 19 + a) n = μ (T + 19 + a) n := fun x y => by rw [zm_up_ne (by omega), zm_up_ne (by omega)]
  unfold zt_dx
  by_cases c : μ (T + 7) n = nI a
  · rw [if_pos c]
    generalize zy_fp (μ (T + 22 + a) n) (μ (T + 8) n) (μ (T + 16 + a) i) (μ (T + 16 + a) j) = f at h1
    refine ⟨zi_set (zi_set (zi_set (zi_set L 5 (.int (μ (T + 22 + a) n))) 6 (.int 1)) 7 (.int f)) 4 (.int (nI (a + 1))), ⟨N, 77, fun F m hF => ?_⟩, ?_, ?_, ?_, ?_, ?_, zi_get_set_eq⟩
    · simp (maxDischargeDepth := 9) [zg_0, zg_aaload, zg_aload_n, zg_getfield, zg_goto, zg_iadd, zg_iaload, zg_iastore, zg_iconst, zg_ifCond, zg_if_icmp, zg_iinc, zg_iload, zg_iload_n, zg_invokevirtual, zg_istore, zg_istore_n, zg_isub, zg_return, zf_X3_divide, zi_ld, zi_lda, zi_cmp, zi_retOk, zi_isI, zi_f3, zi_cr, zi_ci, zi_cn, zi_get_ne, zi_nl_i, zi_nl_r, zi_get_set_eq, nl, g0, g1, g2, g3, g4, ca, zt_g h, y21, y18, ax, zm_iald (k := 0) A22 i1, e1, zt_ld h i1, c, zq_Tree_firstPart, cc, h1 F hF, zm_iald (k := 0) A19 i1, zm_iast A19 i2, e2, zm_iast A22 i2, u1, zm_iast A19 i3, e3, zm_iast A22 i3, nI_1, zt_u4]
    · simp (maxDischargeDepth := 9) [zi_get_ne, zi_nl_i, zi_nl_r, zi_get_set_eq, nl]
    · simp (maxDischargeDepth := 9) [zi_get_ne, zi_nl_i, zi_nl_r, zi_get_set_eq, nl, g0]
    · simp (maxDischargeDepth := 9) [zi_get_ne, zi_nl_i, zi_nl_r, zi_get_set_eq, nl, g1]
    · simp (maxDischargeDepth := 9) [zi_get_ne, zi_nl_i, zi_nl_r, zi_get_set_eq, nl, g2]
    · simp (maxDischargeDepth := 9) [zi_get_ne, zi_nl_i, zi_nl_r, zi_get_set_eq, nl, g3]
  · rw [if_neg c]
    refine ⟨zi_set (zi_set (zi_set (zi_set L 5 (.int (μ (T + 22 + a) n))) 6 (.int 0)) 7 (.int (μ (T + 22 + a) n))) 4 (.int (nI (a + 1))), ⟨0, 66, fun F m hF => ?_⟩, ?_, ?_, ?_, ?_, ?_, zi_get_set_eq⟩
    · simp (maxDischargeDepth := 9) [zg_0, zg_aaload, zg_aload_n, zg_getfield, zg_goto, zg_iadd, zg_iaload, zg_iastore, zg_iconst, zg_ifCond, zg_if_icmp, zg_iinc, zg_iload, zg_iload_n, zg_invokevirtual, zg_istore, zg_istore_n, zg_isub, zg_return, zf_X3_divide, zi_ld, zi_lda, zi_cmp, zi_retOk, zi_isI, zi_f3, zi_cr, zi_ci, zi_cn, zi_get_ne, zi_nl_i, zi_nl_r, zi_get_set_eq, nl, g0, g1, g2, g3, g4, ca, zt_g h, y21, y18, ax, zm_iald (k := 0) A22 i1, e1, zt_ld h i1, c, zm_iald (k := 0) A19 i1, zm_iast A19 i2, e2, zm_iast A22 i2, u1, zm_iast A19 i3, e3, zm_iast A22 i3, nI_1, zt_u4]
    · simp (maxDischargeDepth := 9) [zi_get_ne, zi_nl_i, zi_nl_r, zi_get_set_eq, nl]
    · simp (maxDischargeDepth := 9) [zi_get_ne, zi_nl_i, zi_nl_r, zi_get_set_eq, nl, g0]
    · simp (maxDischargeDepth := 9) [zi_get_ne, zi_nl_i, zi_nl_r, zi_get_set_eq, nl, g1]
    · simp (maxDischargeDepth := 9) [zi_get_ne, zi_nl_i, zi_nl_r, zi_get_set_eq, nl, g2]
    · simp (maxDischargeDepth := 9) [zi_get_ne, zi_nl_i, zi_nl_r, zi_get_set_eq, nl, g3]
theorem zt_dx_row {n i j a c : Nat} (h1 : c ≠ T + 19 + a) (h2 : c ≠ T + 22 + a) : zt_dx μ T n i j a c = μ c := by
  unfold zt_dx zt_u4
  split <;> rw [zm_up_row h2, zm_up_row h1, zm_up_row h2, zm_up_row h1]
set_option maxRecDepth 100000 in
theorem ze_Tree_divide (D : Nat) (h : zt_at T) {n i j : Nat} (hn : n < 19) (hi : i < 19) (hj : j < 19) (hfs : μ (T + 9) n = nI i) (hsd : μ (T + 10) n = nI j) (hni : n ≠ i) :
    ze_E (D + 4) A_Tree_divide [.ref (T + 1), .int (nI n)] (zm_mk μ) none (zm_mk (zt_dx (zt_dx μ T n i j 0) T n i j 1)) := by
  have i1 : zi_in (nI n) 19 = true := zm_in hn (by decide)
  have e1 : (nI n).toNatClampNeg = n := nI_clamp (by omega)
  have s0 : ze_S (D + 3) 8 none zc_X3_divide 0 [(0, .ref (T + 1)), (1, .int (nI n))] [] (zm_mk μ) 17 [(4, .int (nI 0)), (3, .int (nI j)), (2, .int (nI i)), (0, .ref (T + 1)), (1, .int (nI n))] [] (zm_mk μ) := by
    refine ⟨0, 12, fun F m _ => ?_⟩
    simp [zg_0, zg_aaload, zg_aload_n, zg_getfield, zg_goto, zg_iadd, zg_iaload, zg_iastore, zg_iconst, zg_ifCond, zg_if_icmp, zg_iinc, zg_iload, zg_iload_n, zg_invokevirtual, zg_istore, zg_istore_n, zg_isub, zg_return, zf_X3_divide, zi_ld, zi_lda, zi_cmp, zi_retOk, zi_isI, zi_f3, zi_cr, zi_ci, zi_cn, zi_get, zi_set, zt_g h, zt_ld h i1, e1, hfs, hsd, nI_0]
  obtain ⟨L1, s1, nl1, a0, a1, a2, a3, a4⟩ := zt_divide_S D h (a := 0) (by decide) hn hi hj hfs hsd hni (L := [(4, .int (nI 0)), (3, .int (nI j)), (2, .int (nI i)), (0, .ref (T + 1)), (1, .int (nI n))]) rfl rfl rfl rfl rfl rfl
  obtain ⟨L2, s2, nl2, b0, b1, b2, b3, b4⟩ := zt_divide_S (μ := zt_dx μ T n i j 0) D h (a := 1) (by decide) hn hi hj (by rw [zt_dx_row (by omega) (by omega)]; exact hfs) (by rw [zt_dx_row (by omega) (by omega)]; exact hsd) hni nl1 a0 a1 a2 a3 a4
  refine ze_in [(0, .ref (T + 1)), (1, .int (nI n))] zq_Tree_divide (Nat.le_of_ble_eq_true rfl) rfl (((s0.trans s1).trans s2).end ⟨0, 4, fun F m _ => ?_⟩)
  have n2 : nI (1 + 1) = 2 := by decide
  simp [zg_0, zg_aaload, zg_aload_n, zg_getfield, zg_goto, zg_iadd, zg_iaload, zg_iastore, zg_iconst, zg_ifCond, zg_if_icmp, zg_iinc, zg_iload, zg_iload_n, zg_invokevirtual, zg_istore, zg_istore_n, zg_isub, zg_return, zf_X3_divide, zi_ld, zi_lda, zi_cmp, zi_retOk, zi_isI, zi_f3, zi_cr, zi_ci, zi_cn, b4, n2]
end ZT7
end
section
/-! Tree.lay -/
/-- every node of a tree that is laid into a rectangle has its own -/
noncomputable def zy_laid (P : Nat → Int32 → Int32 → Int32 → Int32 → Prop) (fm sh : Nat → Int32) (l0 l1 : zy_F → Int32) : zy_F → Int32 → Int32 → Int32 → Int32 → Prop
  | .append (.tag n a) b, x, y, w, v => P n x y w v ∧ (if fm n = 0 then zy_laid P fm sh l0 l1 a x y (zy_fp w (sh n) (l0 a) (l0 b)) v ∧ zy_laid P fm sh l0 l1 b (x + zy_fp w (sh n) (l0 a) (l0 b)) y (w - zy_fp w (sh n) (l0 a) (l0 b)) v
      else zy_laid P fm sh l0 l1 a x y w (zy_fp v (sh n) (l1 a) (l1 b)) ∧ zy_laid P fm sh l0 l1 b x (y + zy_fp v (sh n) (l1 a) (l1 b)) w (v - zy_fp v (sh n) (l1 a) (l1 b)))
  | .tag n _, x, y, w, v => P n x y w v
  | _, _, _, _, _ => True
theorem zy_laid_mono {P P' : Nat → Int32 → Int32 → Int32 → Int32 → Prop} {fm sh : Nat → Int32} {l0 l1 : zy_F → Int32} : ∀ t, zy_wf t → ∀ x y w v, (∀ n ∈ zy_ids t, ∀ x y w v, P n x y w v → P' n x y w v) → zy_laid P fm sh l0 l1 t x y w v → zy_laid P' fm sh l0 l1 t x y w v := by
  apply zy_ind
  · intro n x y w v e h
    exact e n List.mem_cons_self x y w v h
  · intro n a b _ _ ia ib x y w v e h
    have ea : ∀ m ∈ zy_ids a, ∀ x y w v, P m x y w v → P' m x y w v := fun m hm => e m (List.mem_cons_of_mem _ (List.mem_append_left _ hm))
    have eb : ∀ m ∈ zy_ids b, ∀ x y w v, P m x y w v → P' m x y w v := fun m hm => e m (List.mem_cons_of_mem _ (List.mem_append_right _ hm))
    refine ⟨e n List.mem_cons_self x y w v h.1, ?_⟩
    have h2 := h.2
    by_cases c : fm n = 0
    · rw [if_pos c] at h2 ⊢
      exact ⟨ia _ _ _ _ ea h2.1, ib _ _ _ _ eb h2.2⟩
    · rw [if_neg c] at h2 ⊢
      exact ⟨ia _ _ _ _ ea h2.1, ib _ _ _ _ eb h2.2⟩
theorem zy_laid_id {P : Nat → Int32 → Int32 → Int32 → Int32 → Prop} {fm sh : Nat → Int32} {l0 l1 : zy_F → Int32} : ∀ t, zy_wf t → ∀ x y w v, zy_laid P fm sh l0 l1 t x y w v → P (zy_id t) x y w v := by
  apply zy_ind
  · intro n x y w v h
    exact h
  · intro n a b _ _ _ _ x y w v h
    exact h.1
section ZT8
variable {T : Nat}
noncomputable def zt_P (μ : zm_M) (T n : Nat) (x y w v : Int32) : Prop := μ (T + 19) n = x ∧ μ (T + 20) n = y ∧ μ (T + 22) n = w ∧ μ (T + 23) n = v
theorem zt_u4_P {μ : zm_M} {i j a : Nat} {s1 l1 s2 l2 : Int32} (hij : i ≠ j) : zt_u4 μ T i j a s1 l1 s2 l2 (T + 19 + a) i = s1 ∧ zt_u4 μ T i j a s1 l1 s2 l2 (T + 22 + a) i = l1 ∧ zt_u4 μ T i j a s1 l1 s2 l2 (T + 19 + a) j = s2 ∧ zt_u4 μ T i j a s1 l1 s2 l2 (T + 22 + a) j = l2 ∧ ∀ m, m ≠ i → m ≠ j → ∀ c, zt_u4 μ T i j a s1 l1 s2 l2 c m = μ c m := by
  unfold zt_u4
  refine ⟨?_, ?_, ?_, zm_up_eq, fun m h1 h2 c => ?_⟩
  · rw [zm_up_ne (by omega), zm_up_ne (by omega), zm_up_ne (by omega), zm_up_eq]
  · rw [zm_up_ne (by omega), zm_up_ne (by omega), zm_up_eq]
  · rw [zm_up_ne (by omega), zm_up_eq]
  · rw [zm_up_ne (by omega), zm_up_ne (by omega), zm_up_ne (by omega), zm_up_ne (by omega)]
theorem zt_dx_m {μ : zm_M} {n i j a m : Nat} (hij : i ≠ j) (h1 : m ≠ i) (h2 : m ≠ j) (c : Nat) : zt_dx μ T n i j a c m = μ c m := by
  unfold zt_dx
  split <;> exact (zt_u4_P hij).2.2.2.2 m h1 h2 c
theorem zt_dx_A {μ : zm_M} {n i j a : Nat} (hij : i ≠ j) (c : μ (T + 7) n = nI a) : zt_dx μ T n i j a (T + 19 + a) i = μ (T + 19 + a) n ∧ zt_dx μ T n i j a (T + 22 + a) i = zy_fp (μ (T + 22 + a) n) (μ (T + 8) n) (μ (T + 16 + a) i) (μ (T + 16 + a) j) ∧ zt_dx μ T n i j a (T + 19 + a) j = μ (T + 19 + a) n + zy_fp (μ (T + 22 + a) n) (μ (T + 8) n) (μ (T + 16 + a) i) (μ (T + 16 + a) j) ∧ zt_dx μ T n i j a (T + 22 + a) j = μ (T + 22 + a) n - zy_fp (μ (T + 22 + a) n) (μ (T + 8) n) (μ (T + 16 + a) i) (μ (T + 16 + a) j) := by
  unfold zt_dx
  rw [if_pos c]
  obtain ⟨a1, a2, a3, a4, -⟩ := zt_u4_P (T := T) (μ := μ) (a := a) (s1 := μ (T + 19 + a) n) (l1 := zy_fp (μ (T + 22 + a) n) (μ (T + 8) n) (μ (T + 16 + a) i) (μ (T + 16 + a) j)) (s2 := μ (T + 19 + a) n + zy_fp (μ (T + 22 + a) n) (μ (T + 8) n) (μ (T + 16 + a) i) (μ (T + 16 + a) j)) (l2 := μ (T + 22 + a) n - zy_fp (μ (T + 22 + a) n) (μ (T + 8) n) (μ (T + 16 + a) i) (μ (T + 16 + a) j)) hij
  exact ⟨a1, a2, a3, a4⟩
theorem zt_dx_B {μ : zm_M} {n i j a : Nat} (hij : i ≠ j) (c : ¬ μ (T + 7) n = nI a) : zt_dx μ T n i j a (T + 19 + a) i = μ (T + 19 + a) n ∧ zt_dx μ T n i j a (T + 22 + a) i = μ (T + 22 + a) n ∧ zt_dx μ T n i j a (T + 19 + a) j = μ (T + 19 + a) n ∧ zt_dx μ T n i j a (T + 22 + a) j = μ (T + 22 + a) n := by
  unfold zt_dx
  rw [if_neg c]
  obtain ⟨a1, a2, a3, a4, -⟩ := zt_u4_P (T := T) (μ := μ) (a := a) (s1 := μ (T + 19 + a) n) (l1 := μ (T + 22 + a) n) (s2 := μ (T + 19 + a) n) (l2 := μ (T + 22 + a) n) hij
  exact ⟨a1, a2, a3, a4⟩
/-- divide, both axes: the two parts of a cut -/
theorem zt_dx_P {μ : zm_M} {n i j : Nat} {x y w v : Int32} (hn : n ≠ i ∧ n ≠ j) (hij : i ≠ j) (hf : μ (T + 7) n = 0 ∨ μ (T + 7) n = 1) (hP : zt_P μ T n x y w v) :
    if μ (T + 7) n = 0 then zt_P (zt_dx (zt_dx μ T n i j 0) T n i j 1) T i x y (zy_fp w (μ (T + 8) n) (μ (T + 16) i) (μ (T + 16) j)) v ∧ zt_P (zt_dx (zt_dx μ T n i j 0) T n i j 1) T j (x + zy_fp w (μ (T + 8) n) (μ (T + 16) i) (μ (T + 16) j)) y (w - zy_fp w (μ (T + 8) n) (μ (T + 16) i) (μ (T + 16) j)) v
    else zt_P (zt_dx (zt_dx μ T n i j 0) T n i j 1) T i x y w (zy_fp v (μ (T + 8) n) (μ (T + 17) i) (μ (T + 17) j)) ∧ zt_P (zt_dx (zt_dx μ T n i j 0) T n i j 1) T j x (y + zy_fp v (μ (T + 8) n) (μ (T + 17) i) (μ (T + 17) j)) w (v - zy_fp v (μ (T + 8) n) (μ (T + 17) i) (μ (T + 17) j)) := by
  obtain ⟨p1, p2, p3, p4⟩ := hP
  have r : ∀ c, c ≠ T + 19 → c ≠ T + 22 → zt_dx μ T n i j 0 c = μ c := fun c h1 h2 => zt_dx_row h1 h2
  have r2 : ∀ c, c ≠ T + 20 → c ≠ T + 23 → zt_dx (zt_dx μ T n i j 0) T n i j 1 c = zt_dx μ T n i j 0 c := fun c h1 h2 => zt_dx_row h1 h2
  unfold zt_P
  rw [r2 (T + 19) (by omega) (by omega), r2 (T + 22) (by omega) (by omega)]
  by_cases c : μ (T + 7) n = 0
  · rw [if_pos c]
    obtain ⟨a1, a2, a3, a4⟩ := zt_dx_A (T := T) (i := i) (j := j) (a := 0) hij c
    have c1 : ¬ zt_dx μ T n i j 0 (T + 7) n = nI 1 := by rw [r _ (by omega) (by omega), c]; decide
    obtain ⟨b1, b2, b3, b4⟩ := zt_dx_B (T := T) (i := i) (j := j) hij c1
    rw [r (T + 19 + 1) (by omega) (by omega)] at b1 b3
    rw [r (T + 22 + 1) (by omega) (by omega)] at b2 b4
    exact ⟨⟨a1.trans p1, b1.trans p2, by rw [← p3]; exact a2, b2.trans p4⟩, ⟨by rw [← p1, ← p3]; exact a3, b3.trans p2, by rw [← p3]; exact a4, b4.trans p4⟩⟩
  · rw [if_neg c]
    have c0 := hf.resolve_left c
    obtain ⟨b1, b2, b3, b4⟩ := zt_dx_B (T := T) (i := i) (j := j) (a := 0) hij c
    have c1 : zt_dx μ T n i j 0 (T + 7) n = nI 1 := by rw [r _ (by omega) (by omega), c0]; decide
    obtain ⟨a1, a2, a3, a4⟩ := zt_dx_A (T := T) (i := i) (j := j) hij c1
    rw [r (T + 19 + 1) (by omega) (by omega)] at a1 a3
    rw [r (T + 22 + 1) (by omega) (by omega), r (T + 8) (by omega) (by omega), r (T + 16 + 1) (by omega) (by omega)] at a2 a3 a4
    exact ⟨⟨b1.trans p1, a1.trans p2, b2.trans p3, by rw [← p4]; exact a2⟩, ⟨b3.trans p1, by rw [← p2, ← p4]; exact a3, b4.trans p3, by rw [← p4]; exact a4⟩⟩
noncomputable def zt_frL (T : Nat) (μ μ' : zm_M) : Prop := ∀ c, c ≠ T + 19 → c ≠ T + 20 → c ≠ T + 22 → c ≠ T + 23 → μ' c = μ c
set_option maxRecDepth 100000 in
theorem zt_lay_S (D : Nat) (h : zt_at T) (fm sh lf0 lf1 : Nat → Int32) (k : Nat) (hk : k ≤ 19) : ∀ t, zy_wf t → ∀ (μ : zm_M) (L : zi_Lc) (p : Nat) (x y w v : Int32), μ (T + 7) = fm → μ (T + 8) = sh → zy_okM μ T t → (∀ n ∈ zy_ids t, n < 19) → (zy_ids t).Nodup →
    (∀ j, j < (zy_ids t).length → μ (T + 13) (p + j) = nI ((zy_ids t).getD j 0)) → zi_nl L = true → zi_get L 0 = some (.ref (T + 1)) → zi_get L 2 = some (.int (nI p)) → μ T 12 = nI k → p + (zy_ids t).length ≤ k →
    zy_lso (μ (T + 16)) 0 fm lf0 t → zy_lso (μ (T + 17)) 1 fm lf1 t → zt_P μ T (zy_id t) x y w v →
    ∃ μ' L', ze_S (D + 4) 3 none zc_X3_lay 48 L [] (zm_mk μ) 48 L' [] (zm_mk μ') ∧ zi_nl L' = true ∧ zi_get L' 0 = some (.ref (T + 1)) ∧ zi_get L' 2 = some (.int (nI (p + (zy_ids t).length))) ∧
      zt_frL T μ μ' ∧ (∀ n, n ∉ zy_ids t → ∀ c, μ' c n = μ c n) ∧ zy_laid (zt_P μ' T) fm sh (zy_ls 0 fm lf0) (zy_ls 1 fm lf1) t x y w v := by
  apply zy_ind
  · intro n μ L p x y w v hf hs hok hlt hnd ho nl g0 g2 h12 hp l0 l1 hP
    have hn : n < 19 := hlt n List.mem_cons_self
    have hfm : μ (T + 7) n = 2 := hok
    have hp : p + 1 ≤ k := hp
    have ho : μ (T + 13) p = nI n := ho 0 (Nat.zero_lt_one)
    have c1 : ¬ nI k ≤ nI p := nI_ge (by omega) (by omega)
    have i1 : zi_in (nI p) 19 = true := zm_in (by omega) (by decide)
    have i2 : zi_in (nI n) 19 = true := zm_in (by omega) (by decide)
    have e1 : (nI p).toNatClampNeg = p := nI_clamp (by omega)
    have e2 : (nI n).toNatClampNeg = n := nI_clamp (by omega)
    refine ⟨μ, zi_set L 2 (.int (nI (p + 1))), ⟨0, 15, fun F m _ => ?_⟩, ?_, ?_, zi_get_set_eq, fun c _ _ _ _ => rfl, fun m _ c => rfl, hP⟩
    · simp (maxDischargeDepth := 9) [zg_0, zg_aaload, zg_aload_n, zg_getfield, zg_goto, zg_iaload, zg_iastore, zg_iconst, zg_ifCond, zg_if_icmp, zg_iinc, zg_iload_n, zg_invokevirtual, zg_istore_n, zg_return, zf_X3_lay, zi_ld, zi_lda, zi_cmp, zi_retOk, zi_isI, zi_f3, zi_cr, zi_ci, zi_cn, zi_get_ne, zi_nl_i, zi_nl_r, zi_get_set_eq, nl, g0, g2, c1, h12, zt_g h, zt_ld h i1, e1, ho, zt_ld h i2, e2, hfm, nI_1]
    · simp (maxDischargeDepth := 9) [zi_get_ne, zi_nl_i, zi_nl_r, zi_get_set_eq, nl]
    · simp (maxDischargeDepth := 9) [zi_get_ne, zi_nl_i, zi_nl_r, zi_get_set_eq, nl, g0]
  · intro n a b wa wb iha ihb μ L p x y w v hf hs hok hlt hnd ho nl g0 g2 h12 hp l0 l1 hP
    have hlen : (zy_ids (.append (.tag n a) b)).length = (zy_ids a).length + (zy_ids b).length + 1 := by
      show (n :: (zy_ids a ++ zy_ids b)).length = _
      simp only [List.length_cons, List.length_append]
    rw [hlen] at ho hp ⊢
    have ho' : ∀ j, j < (zy_ids a).length + (zy_ids b).length + 1 → μ (T + 13) (p + j) = nI ((n :: (zy_ids a ++ zy_ids b)).getD j 0) := ho
    have hnd' : (n :: (zy_ids a ++ zy_ids b)).Nodup := hnd
    obtain ⟨hn1, hn2⟩ := List.nodup_cons.mp hnd'
    obtain ⟨nda, ndb, dis⟩ := List.nodup_append.mp hn2
    have hn : n < 19 := hlt n List.mem_cons_self
    have hla : ∀ m ∈ zy_ids a, m < 19 := fun m hm => hlt m (List.mem_cons_of_mem _ (List.mem_append_left _ hm))
    have hlb : ∀ m ∈ zy_ids b, m < 19 := fun m hm => hlt m (List.mem_cons_of_mem _ (List.mem_append_right _ hm))
    obtain ⟨⟨hfm, hfs, hsd, -, -⟩, oka, okb⟩ := hok
    have la := hla _ (zy_id_mem wa)
    have lb := hlb _ (zy_id_mem wb)
    have na : n ≠ zy_id a := fun e => hn1 (e ▸ List.mem_append_left _ (zy_id_mem wa))
    have nb : n ≠ zy_id b := fun e => hn1 (e ▸ List.mem_append_right _ (zy_id_mem wb))
    have nab : zy_id a ≠ zy_id b := fun e => dis _ (zy_id_mem wa) _ (zy_id_mem wb) e
    obtain ⟨N, E⟩ := ze_Tree_divide (μ := μ) D h hn la lb hfs hsd na
    have hP1 := zt_dx_P (T := T) ⟨na, nb⟩ nab hfm hP
    let ν := zt_dx (zt_dx μ T n (zy_id a) (zy_id b) 0) T n (zy_id a) (zy_id b) 1
    have hν : zt_dx (zt_dx μ T n (zy_id a) (zy_id b) 0) T n (zy_id a) (zy_id b) 1 = ν := rfl
    rw [hν] at hP1 E
    have fν : zt_frL T μ ν := fun c h1 h2 h3 h4 => (zt_dx_row h2 h4).trans (zt_dx_row h1 h3)
    have mν : ∀ m, m ≠ zy_id a → m ≠ zy_id b → ∀ c, ν c m = μ c m := fun m h1 h2 c => (zt_dx_m nab h1 h2 c).trans (zt_dx_m nab h1 h2 c)
    have hfm2 : ¬ μ (T + 7) n = 2 := by rcases hfm with e | e <;> rw [e] <;> decide
    have o0 := ho' 0 (by omega)
    have o0 : μ (T + 13) p = nI n := o0
    have c1 : ¬ nI k ≤ nI p := nI_ge (by omega) (by omega)
    have i1 : zi_in (nI p) 19 = true := zm_in (by omega) (by decide)
    have i2 : zi_in (nI n) 19 = true := zm_in (by omega) (by decide)
    have e1 : (nI p).toNatClampNeg = p := nI_clamp (by omega)
    have e2 : (nI n).toNatClampNeg = n := nI_clamp (by omega)
    obtain ⟨lc, cc⟩ := zt_c (μ := μ) h
    have S0 : ze_S (D + 4) 3 none zc_X3_lay 48 L [] (zm_mk μ) 48 (zi_set L 2 (.int (nI (p + 1)))) [] (zm_mk ν) := by
      refine ⟨N, 21, fun F m hF => ?_⟩
      simp (maxDischargeDepth := 9) [zg_0, zg_aaload, zg_aload_n, zg_getfield, zg_goto, zg_iaload, zg_iastore, zg_iconst, zg_ifCond, zg_if_icmp, zg_iinc, zg_iload_n, zg_invokevirtual, zg_istore_n, zg_return, zf_X3_lay, zi_ld, zi_lda, zi_cmp, zi_retOk, zi_isI, zi_f3, zi_cr, zi_ci, zi_cn, zi_get_ne, zi_nl_i, zi_nl_r, zi_get_set_eq, nl, g0, g2, c1, h12, zt_g h, zt_ld h i1, e1, o0, zt_ld h i2, e2, hfm2, nI_1, zq_Tree_divide, cc, E F hF]
    have okν : ∀ s, zy_okM μ T s → zy_okM ν T s := fun s hs => by
      unfold zy_okM at *
      rw [fν (T + 7) (by omega) (by omega) (by omega) (by omega), fν (T + 9) (by omega) (by omega) (by omega) (by omega), fν (T + 10) (by omega) (by omega) (by omega) (by omega), fν (T + 11) (by omega) (by omega) (by omega) (by omega)]
      exact hs
    have e7 : ν (T + 7) = fm := (fν _ (by omega) (by omega) (by omega) (by omega)).trans hf
    have e8 : ν (T + 8) = sh := (fν _ (by omega) (by omega) (by omega) (by omega)).trans hs
    have e13 : ν (T + 13) = μ (T + 13) := fν _ (by omega) (by omega) (by omega) (by omega)
    have e16 : ν (T + 16) = μ (T + 16) := fν _ (by omega) (by omega) (by omega) (by omega)
    have e17 : ν (T + 17) = μ (T + 17) := fν _ (by omega) (by omega) (by omega) (by omega)
    have eT : ν T = μ T := fν _ (by omega) (by omega) (by omega) (by omega)
    rw [zy_lso_id a wa l0.2.1, zy_lso_id b wb l0.2.2, zy_lso_id a wa l1.2.1, zy_lso_id b wb l1.2.2, hf, hs] at hP1
    have fin : ∀ (xa ya wa' va xb yb wb' vb : Int32), zt_P ν T (zy_id a) xa ya wa' va → zt_P ν T (zy_id b) xb yb wb' vb →
      ∃ μ' L', ze_S (D + 4) 3 none zc_X3_lay 48 L [] (zm_mk μ) 48 L' [] (zm_mk μ') ∧ zi_nl L' = true ∧ zi_get L' 0 = some (.ref (T + 1)) ∧ zi_get L' 2 = some (.int (nI (p + ((zy_ids a).length + (zy_ids b).length + 1)))) ∧
      zt_frL T μ μ' ∧ (∀ m, m ∉ zy_ids (.append (.tag n a) b) → ∀ c, μ' c m = μ c m) ∧ zt_P μ' T n x y w v ∧ zy_laid (zt_P μ' T) fm sh (zy_ls 0 fm lf0) (zy_ls 1 fm lf1) a xa ya wa' va ∧ zy_laid (zt_P μ' T) fm sh (zy_ls 0 fm lf0) (zy_ls 1 fm lf1) b xb yb wb' vb := by
      intro xa ya wa' va xb yb wb' vb Pa Pb
      obtain ⟨μ1, L1, S1, nl1, a0, a2, f1, m1, d1⟩ := iha ν (zi_set L 2 (.int (nI (p + 1)))) (p + 1) xa ya wa' va e7 e8 (okν a oka) hla nda (fun j hj => by
        rw [e13]
        have := ho' (1 + j) (by omega)
        rw [show p + (1 + j) = p + 1 + j by omega] at this
        rw [this, show 1 + j = j + 1 by omega]
        show nI ((zy_ids a ++ zy_ids b).getD j 0) = _
        rw [List.getD_eq_getElem?_getD, List.getElem?_append_left hj, List.getD_eq_getElem?_getD]) (by simp (maxDischargeDepth := 9) [zi_get_ne, zi_nl_i, zi_nl_r, zi_get_set_eq, nl]) (by simp (maxDischargeDepth := 9) [zi_get_ne, zi_nl_i, zi_nl_r, zi_get_set_eq, nl, g0]) zi_get_set_eq (by rw [eT]; exact h12) (by omega) (by rw [e16]; exact l0.2.1) (by rw [e17]; exact l1.2.1) Pa
      have Pb1 : zt_P μ1 T (zy_id b) xb yb wb' vb := by
        have := m1 (zy_id b) (fun e => dis _ e _ (zy_id_mem wb) rfl)
        unfold zt_P at *
        rw [this, this, this, this]
        exact Pb
      have ok1 : zy_okM μ1 T b := by
        have := okν b okb
        unfold zy_okM at *
        rw [f1 (T + 7) (by omega) (by omega) (by omega) (by omega), f1 (T + 9) (by omega) (by omega) (by omega) (by omega), f1 (T + 10) (by omega) (by omega) (by omega) (by omega), f1 (T + 11) (by omega) (by omega) (by omega) (by omega)]
        exact this
      obtain ⟨μ2, L2, S2, nl2, b0, b2, f2, m2, d2⟩ := ihb μ1 L1 (p + 1 + (zy_ids a).length) xb yb wb' vb ((f1 _ (by omega) (by omega) (by omega) (by omega)).trans e7) ((f1 _ (by omega) (by omega) (by omega) (by omega)).trans e8) ok1 hlb ndb (fun j hj => by
        rw [f1 (T + 13) (by omega) (by omega) (by omega) (by omega), e13]
        have := ho' (1 + (zy_ids a).length + j) (by omega)
        rw [show p + (1 + (zy_ids a).length + j) = p + 1 + (zy_ids a).length + j by omega] at this
        rw [this, show 1 + (zy_ids a).length + j = ((zy_ids a).length + j) + 1 by omega]
        show nI ((zy_ids a ++ zy_ids b).getD ((zy_ids a).length + j) 0) = _
        rw [List.getD_eq_getElem?_getD, List.getElem?_append_right (by omega), List.getD_eq_getElem?_getD, show (zy_ids a).length + j - (zy_ids a).length = j by omega]) nl1 a0 a2 (by rw [f1 T (by omega) (by omega) (by omega) (by omega), eT]; exact h12) (by omega) (by rw [f1 (T + 16) (by omega) (by omega) (by omega) (by omega), e16]; exact l0.2.2) (by rw [f1 (T + 17) (by omega) (by omega) (by omega) (by omega), e17]; exact l1.2.2) Pb1
      refine ⟨μ2, L2, (S0.trans S1).trans S2, nl2, b0, ?_, fun c h1 h2 h3 h4 => ((f2 c h1 h2 h3 h4).trans (f1 c h1 h2 h3 h4)).trans (fν c h1 h2 h3 h4), fun m hm c => ?_, ?_, ?_, d2⟩
      · rw [b2, show p + 1 + (zy_ids a).length + (zy_ids b).length = p + ((zy_ids a).length + (zy_ids b).length + 1) by omega]
      · have hm2 : m ∉ zy_ids a := fun e => hm (List.mem_cons_of_mem _ (List.mem_append_left _ e))
        have hm3 : m ∉ zy_ids b := fun e => hm (List.mem_cons_of_mem _ (List.mem_append_right _ e))
        rw [m2 m hm3, m1 m hm2, mν m (fun e => hm2 (e ▸ zy_id_mem wa)) (fun e => hm3 (e ▸ zy_id_mem wb))]
      · have q : ∀ c, μ2 c n = μ c n := fun c => by rw [m2 n (fun e => hn1 (List.mem_append_right _ e)), m1 n (fun e => hn1 (List.mem_append_left _ e)), mν n na nb]
        unfold zt_P
        rw [q, q, q, q]
        exact hP
      · refine zy_laid_mono a wa _ _ _ _ (fun m hm x y w v hP => ?_) d1
        have q := m2 m (fun e => dis _ hm _ e rfl)
        unfold zt_P at *
        rw [q, q, q, q]
        exact hP
    by_cases c : fm n = 0
    · rw [if_pos c] at hP1
      obtain ⟨μ', L', r1, r2, r3, r4, r5, r6, r7, r8, r9⟩ := fin _ _ _ _ _ _ _ _ hP1.1 hP1.2
      refine ⟨μ', L', r1, r2, r3, r4, r5, r6, r7, ?_⟩
      rw [if_pos c]
      exact ⟨r8, r9⟩
    · rw [if_neg c] at hP1
      obtain ⟨μ', L', r1, r2, r3, r4, r5, r6, r7, r8, r9⟩ := fin _ _ _ _ _ _ _ _ hP1.1 hP1.2
      refine ⟨μ', L', r1, r2, r3, r4, r5, r6, r7, ?_⟩
      rw [if_neg c]
      exact ⟨r8, r9⟩
end ZT8
end
