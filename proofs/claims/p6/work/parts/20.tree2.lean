/-! Tree: more that goes straight -/
section ZT2
variable {μ : zm_M} {T : Nat}
/-- the leaves that windows stand in are nodes, or none -/
def zt_hm (μ : zm_M) (T : Nat) : Prop := ∀ k, k < 10 → μ (T + 3) k < 0 ∨ zi_in (μ (T + 3) k) 19 = true
set_option maxRecDepth 100000 in
theorem ze_Tree_isShown (D : Nat) (h : zt_at T) (hm : zt_hm μ T) {k : Nat} (hk : k < 10) : ze_E (D + 2) A_Tree_isShown [.ref (T + 1), .int (nI k)] (zm_mk μ) (some (.int (zb (¬ μ (T + 3) k < 0 ∧ μ (T + 12) (μ (T + 3) k).toNatClampNeg = nI k)))) (zm_mk μ) := by
  obtain ⟨N, h1⟩ := ze_Tree_leafOf (μ := μ) D h hk
  obtain ⟨lc, hc⟩ := zt_c (μ := μ) h
  refine ze_in [(0, .ref (T + 1)), (1, .int (nI k))] zq_Tree_isShown (Nat.le_of_ble_eq_true rfl) rfl ⟨N, 20, fun F n hF => ?_⟩
  by_cases c : μ (T + 3) k < 0
  · simp [zg_0, zg_aload_n, zg_getfield, zg_goto, zg_iaload, zg_iconst, zg_ifCond, zg_if_icmp, zg_iload_n, zg_invokevirtual, zg_ireturn, zg_istore_n, zf_X3_isShown, zi_ld, zi_lda, zi_cmp, zi_retOk, zi_isI, zi_f3, zi_cr, zi_ci, zi_cn, zi_get, zi_set, zq_Tree_leafOf, hc, h1 F hF, c, zb]
  · have hin := (hm k hk).resolve_left c
    by_cases c2 : μ (T + 12) (μ (T + 3) k).toNatClampNeg = nI k <;> simp [zg_0, zg_aload_n, zg_getfield, zg_goto, zg_iaload, zg_iconst, zg_ifCond, zg_if_icmp, zg_iload_n, zg_invokevirtual, zg_ireturn, zg_istore_n, zf_X3_isShown, zi_ld, zi_lda, zi_cmp, zi_retOk, zi_isI, zi_f3, zi_cr, zi_ci, zi_cn, zi_get, zi_set, zq_Tree_leafOf, hc, h1 F hF, zt_g h, c, zm_iald (k := 0) h.2.2.2.2.1.2.2.2.2.2.1 hin, c2, zb]
set_option maxRecDepth 100000 in
theorem ze_Tree_show (D : Nat) (h : zt_at T) (hm : zt_hm μ T) {k : Nat} (hk : k < 10) : ze_E (D + 2) A_Tree_show [.ref (T + 1), .int (nI k)] (zm_mk μ) none (zm_mk (if μ (T + 3) k < 0 then μ else zm_up μ (T + 12) (μ (T + 3) k).toNatClampNeg (nI k))) := by
  obtain ⟨N, h1⟩ := ze_Tree_leafOf (μ := μ) D h hk
  obtain ⟨lc, hc⟩ := zt_c (μ := μ) h
  refine ze_in [(0, .ref (T + 1)), (1, .int (nI k))] zq_Tree_show (Nat.le_of_ble_eq_true rfl) rfl ⟨N, 20, fun F n hF => ?_⟩
  by_cases c : μ (T + 3) k < 0
  · rw [if_pos c]
    simp [zg_0, zg_aload_n, zg_getfield, zg_iastore, zg_ifCond, zg_iload_n, zg_invokevirtual, zg_istore_n, zg_return, zf_X3_show, zi_ld, zi_lda, zi_cmp, zi_retOk, zi_isI, zi_f3, zi_cr, zi_ci, zi_cn, zi_get, zi_set, zq_Tree_leafOf, hc, h1 F hF, c]
  · have hin := (hm k hk).resolve_left c
    rw [if_neg c]
    simp [zg_0, zg_aload_n, zg_getfield, zg_iastore, zg_ifCond, zg_iload_n, zg_invokevirtual, zg_istore_n, zg_return, zf_X3_show, zi_ld, zi_lda, zi_cmp, zi_retOk, zi_isI, zi_f3, zi_cr, zi_ci, zi_cn, zi_get, zi_set, zq_Tree_leafOf, hc, h1 F hF, zt_g h, c, zm_iast h.2.2.2.2.1.2.2.2.2.2.1 hin]
/-- the least size of the whole tree -/
def zt_ls (μ : zm_M) (T a : Nat) : Int32 := if μ T 9 < 0 then 0 else μ (T + 16 + a) (μ T 9).toNatClampNeg
set_option maxRecDepth 100000 in
theorem ze_Tree_fits (D : Nat) (h : zt_at T) (hr : μ T 9 < 0 ∨ zi_in (μ T 9) 19 = true) {z : Nat} (hz : zm_isA 7 z 2) : ze_E (D + 2) A_Tree_fits [.ref (T + 1), .ref (z + 1)] (zm_mk μ) (some (.int (zb (zt_ls μ T 0 ≤ μ z 0 ∧ zt_ls μ T 1 ≤ μ z 1)))) (zm_mk μ) := by
  obtain ⟨N, h1⟩ := ze_Tree_leastOf (μ := μ) D h (a := 0) (by decide) hr
  obtain ⟨M, h2⟩ := ze_Tree_leastOf (μ := μ) D h (a := 1) (by decide) hr
  obtain ⟨lc, hc⟩ := zt_c (μ := μ) h
  have n0 : nI 0 = 0 := nI_0
  have n1 : nI 1 = 1 := by decide
  rw [n0] at h1
  rw [n1] at h2
  have h1 : ∀ F, N ≤ F → zi_run zi_ms F (D + 1) A_Tree_leastOf [.ref (T + 1), .int 0] (zm_mk μ) [] = some [([], some (.int (zt_ls μ T 0)), zm_mk μ)] := h1
  have h2 : ∀ F, M ≤ F → zi_run zi_ms F (D + 1) A_Tree_leastOf [.ref (T + 1), .int 1] (zm_mk μ) [] = some [([], some (.int (zt_ls μ T 1)), zm_mk μ)] := h2
  refine ze_in [(0, .ref (T + 1)), (1, .ref (z + 1))] zq_Tree_fits (Nat.le_of_ble_eq_true rfl) rfl ⟨N + M, 24, fun F n hF => ?_⟩
  by_cases c : μ z 0 < zt_ls μ T 0
  · have c' : ¬ zt_ls μ T 0 ≤ μ z 0 := Int32.not_le.mpr c
    simp [zg_0, zg_aload_n, zg_goto, zg_iaload, zg_iconst, zg_if_icmp, zg_invokevirtual, zg_ireturn, zf_X3_fits, zi_ld, zi_lda, zi_cmp, zi_retOk, zi_isI, zi_f3, zi_cr, zi_ci, zi_cn, zi_get, zq_Tree_leastOf, hc, h1 F (by omega), zm_iald (k := 0) hz zm_in0, zm_cl0, c, c', zb]
  · have c' : zt_ls μ T 0 ≤ μ z 0 := Int32.not_lt.mp c
    by_cases c2 : μ z 1 < zt_ls μ T 1
    · have c2' : ¬ zt_ls μ T 1 ≤ μ z 1 := Int32.not_le.mpr c2
      simp [zg_0, zg_aload_n, zg_goto, zg_iaload, zg_iconst, zg_if_icmp, zg_invokevirtual, zg_ireturn, zf_X3_fits, zi_ld, zi_lda, zi_cmp, zi_retOk, zi_isI, zi_f3, zi_cr, zi_ci, zi_cn, zi_get, zq_Tree_leastOf, hc, h1 F (by omega), h2 F (by omega), zm_iald (k := 0) hz zm_in0, zm_iald (k := 0) hz zm_in1, zm_cl0, zm_cl1, c, c', c2, c2', zb]
    · have c2' : zt_ls μ T 1 ≤ μ z 1 := Int32.not_lt.mp c2
      simp [zg_0, zg_aload_n, zg_goto, zg_iaload, zg_iconst, zg_if_icmp, zg_invokevirtual, zg_ireturn, zf_X3_fits, zi_ld, zi_lda, zi_cmp, zi_retOk, zi_isI, zi_f3, zi_cr, zi_ci, zi_cn, zi_get, zq_Tree_leastOf, hc, h1 F (by omega), h2 F (by omega), zm_iald (k := 0) hz zm_in0, zm_iald (k := 0) hz zm_in1, zm_cl0, zm_cl1, c, c', c2, c2', zb]
set_option maxRecDepth 100000 in
theorem ze_Tree_isWide (D : Nat) (h : zt_at T) {x : Int32} (hx : zi_in x 19 = true) : ze_E (D + 1) A_Tree_isWide [.ref (T + 1), .int x] (zm_mk μ) (some (.int (zb (μ (T + 23) x.toNatClampNeg ≤ μ (T + 22) x.toNatClampNeg)))) (zm_mk μ) := by
  refine ze_in [(0, .ref (T + 1)), (1, .int x)] zq_Tree_isWide (Nat.le_of_ble_eq_true rfl) rfl ⟨0, 20, fun F n hF => ?_⟩
  by_cases c : μ (T + 22) x.toNatClampNeg < μ (T + 23) x.toNatClampNeg
  · have c' : ¬ μ (T + 23) x.toNatClampNeg ≤ μ (T + 22) x.toNatClampNeg := Int32.not_le.mpr c
    simp [zg_0, zg_aaload, zg_aload_n, zg_getfield, zg_goto, zg_iaload, zg_iconst, zg_if_icmp, zg_iload_n, zg_ireturn, zf_X3_isWide, zi_ld, zi_lda, zi_cmp, zi_retOk, zi_isI, zi_f3, zi_cr, zi_ci, zi_cn, zi_get, zt_g h, zm_ax0 h.2.2.2.2.2.2.2.1, zm_ax1 h.2.2.2.2.2.2.2.1, zm_iald (k := 0) h.2.2.2.2.2.2.2.2.1 hx, zm_iald (k := 0) h.2.2.2.2.2.2.2.2.2 hx, c, c', zb]
  · have c' : μ (T + 23) x.toNatClampNeg ≤ μ (T + 22) x.toNatClampNeg := Int32.not_lt.mp c
    simp [zg_0, zg_aaload, zg_aload_n, zg_getfield, zg_goto, zg_iaload, zg_iconst, zg_if_icmp, zg_iload_n, zg_ireturn, zf_X3_isWide, zi_ld, zi_lda, zi_cmp, zi_retOk, zi_isI, zi_f3, zi_cr, zi_ci, zi_cn, zi_get, zt_g h, zm_ax0 h.2.2.2.2.2.2.2.1, zm_ax1 h.2.2.2.2.2.2.2.1, zm_iald (k := 0) h.2.2.2.2.2.2.2.2.1 hx, zm_iald (k := 0) h.2.2.2.2.2.2.2.2.2 hx, c, c', zb]
/-- where a window's leaf begins, and how long it is -/
def zt_so (μ : zm_M) (T a k : Nat) : Int32 := if μ (T + 3) k < 0 then 0 else μ (T + 19 + a) (μ (T + 3) k).toNatClampNeg
def zt_lo (μ : zm_M) (T a k : Nat) : Int32 := if μ (T + 3) k < 0 then 0 else μ (T + 22 + a) (μ (T + 3) k).toNatClampNeg
set_option maxRecDepth 100000 in
theorem ze_Tree_startOf (D : Nat) (h : zt_at T) (hm : zt_hm μ T) {k a : Nat} (hk : k < 10) (ha : a < 2) : ze_E (D + 2) A_Tree_startOf [.ref (T + 1), .int (nI k), .int (nI a)] (zm_mk μ) (some (.int (zt_so μ T a k))) (zm_mk μ) := by
  obtain ⟨N, h1⟩ := ze_Tree_leafOf (μ := μ) D h hk
  obtain ⟨lc, hc⟩ := zt_c (μ := μ) h
  refine ze_in [(0, .ref (T + 1)), (1, .int (nI k)), (2, .int (nI a))] zq_Tree_startOf (Nat.le_of_ble_eq_true rfl) rfl ⟨N, 20, fun F n hF => ?_⟩
  have n0 : nI 0 = 0 := nI_0
  have n1 : nI 1 = 1 := by decide
  unfold zt_so
  by_cases c : μ (T + 3) k < 0
  · have c' : ¬ (0 : Int32) ≤ μ (T + 3) k := Int32.not_le.mpr c
    simp [zg_0, zg_aaload, zg_aload_n, zg_getfield, zg_goto, zg_iaload, zg_iconst, zg_ifCond, zg_iload_n, zg_invokevirtual, zg_ireturn, zg_istore_n, zf_X3_startOf, zi_ld, zi_lda, zi_cmp, zi_retOk, zi_isI, zi_f3, zi_cr, zi_ci, zi_cn, zi_get, zi_set, zq_Tree_leafOf, hc, h1 F hF, c, c']
  · have c' : (0 : Int32) ≤ μ (T + 3) k := Int32.not_lt.mp c
    have hin := (hm k hk).resolve_left c
    match a, ha with
    | 0, _ => simp [zg_0, zg_aaload, zg_aload_n, zg_getfield, zg_goto, zg_iaload, zg_iconst, zg_ifCond, zg_iload_n, zg_invokevirtual, zg_ireturn, zg_istore_n, zf_X3_startOf, zi_ld, zi_lda, zi_cmp, zi_retOk, zi_isI, zi_f3, zi_cr, zi_ci, zi_cn, zi_get, zi_set, zq_Tree_leafOf, hc, h1 F hF, zt_g h, c, c', n0, zm_ax0 h.2.2.2.2.2.2.1.1, zm_iald (k := 0) h.2.2.2.2.2.2.1.2.1 hin]
    | 1, _ => simp [zg_0, zg_aaload, zg_aload_n, zg_getfield, zg_goto, zg_iaload, zg_iconst, zg_ifCond, zg_iload_n, zg_invokevirtual, zg_ireturn, zg_istore_n, zf_X3_startOf, zi_ld, zi_lda, zi_cmp, zi_retOk, zi_isI, zi_f3, zi_cr, zi_ci, zi_cn, zi_get, zi_set, zq_Tree_leafOf, hc, h1 F hF, zt_g h, c, c', n1, zm_ax1 h.2.2.2.2.2.2.1.1, zm_iald (k := 0) h.2.2.2.2.2.2.1.2.2 hin]
set_option maxRecDepth 100000 in
theorem ze_Tree_lengthOf (D : Nat) (h : zt_at T) (hm : zt_hm μ T) {k a : Nat} (hk : k < 10) (ha : a < 2) : ze_E (D + 2) A_Tree_lengthOf [.ref (T + 1), .int (nI k), .int (nI a)] (zm_mk μ) (some (.int (zt_lo μ T a k))) (zm_mk μ) := by
  obtain ⟨N, h1⟩ := ze_Tree_leafOf (μ := μ) D h hk
  obtain ⟨lc, hc⟩ := zt_c (μ := μ) h
  refine ze_in [(0, .ref (T + 1)), (1, .int (nI k)), (2, .int (nI a))] zq_Tree_lengthOf (Nat.le_of_ble_eq_true rfl) rfl ⟨N, 20, fun F n hF => ?_⟩
  have n0 : nI 0 = 0 := nI_0
  have n1 : nI 1 = 1 := by decide
  unfold zt_lo
  by_cases c : μ (T + 3) k < 0
  · have c' : ¬ (0 : Int32) ≤ μ (T + 3) k := Int32.not_le.mpr c
    simp [zg_0, zg_aaload, zg_aload_n, zg_getfield, zg_goto, zg_iaload, zg_iconst, zg_ifCond, zg_iload_n, zg_invokevirtual, zg_ireturn, zg_istore_n, zf_X3_lengthOf, zi_ld, zi_lda, zi_cmp, zi_retOk, zi_isI, zi_f3, zi_cr, zi_ci, zi_cn, zi_get, zi_set, zq_Tree_leafOf, hc, h1 F hF, c, c']
  · have c' : (0 : Int32) ≤ μ (T + 3) k := Int32.not_lt.mp c
    have hin := (hm k hk).resolve_left c
    match a, ha with
    | 0, _ => simp [zg_0, zg_aaload, zg_aload_n, zg_getfield, zg_goto, zg_iaload, zg_iconst, zg_ifCond, zg_iload_n, zg_invokevirtual, zg_ireturn, zg_istore_n, zf_X3_lengthOf, zi_ld, zi_lda, zi_cmp, zi_retOk, zi_isI, zi_f3, zi_cr, zi_ci, zi_cn, zi_get, zi_set, zq_Tree_leafOf, hc, h1 F hF, zt_g h, c, c', n0, zm_ax0 h.2.2.2.2.2.2.2.1, zm_iald (k := 0) h.2.2.2.2.2.2.2.2.1 hin]
    | 1, _ => simp [zg_0, zg_aaload, zg_aload_n, zg_getfield, zg_goto, zg_iaload, zg_iconst, zg_ifCond, zg_iload_n, zg_invokevirtual, zg_ireturn, zg_istore_n, zf_X3_lengthOf, zi_ld, zi_lda, zi_cmp, zi_retOk, zi_isI, zi_f3, zi_cr, zi_ci, zi_cn, zi_get, zi_set, zq_Tree_leafOf, hc, h1 F hF, zt_g h, c, c', n1, zm_ax1 h.2.2.2.2.2.2.2.1, zm_iald (k := 0) h.2.2.2.2.2.2.2.2.2 hin]
set_option maxRecDepth 100000 in
theorem ze_Tree_endOf (D : Nat) (h : zt_at T) (hm : zt_hm μ T) {k a : Nat} (hk : k < 10) (ha : a < 2) : ze_E (D + 3) A_Tree_endOf [.ref (T + 1), .int (nI k), .int (nI a)] (zm_mk μ) (some (.int (zt_so μ T a k + zt_lo μ T a k))) (zm_mk μ) := by
  obtain ⟨N, h1⟩ := ze_Tree_startOf (μ := μ) D h hm hk ha
  obtain ⟨M, h2⟩ := ze_Tree_lengthOf (μ := μ) D h hm hk ha
  obtain ⟨lc, hc⟩ := zt_c (μ := μ) h
  refine ze_in [(0, .ref (T + 1)), (1, .int (nI k)), (2, .int (nI a))] zq_Tree_endOf (Nat.le_of_ble_eq_true rfl) rfl ⟨N + M, 14, fun F n hF => ?_⟩
  simp [zg_0, zg_aload_n, zg_iadd, zg_iload_n, zg_invokevirtual, zg_ireturn, zf_X3_endOf, zi_ld, zi_lda, zi_cmp, zi_retOk, zi_isI, zi_f3, zi_cr, zi_ci, zi_cn, zi_get, zq_Tree_startOf, zq_Tree_lengthOf, hc, h1 F (by omega), h2 F (by omega)]
set_option maxRecDepth 100000 in
theorem ze_Tree_spans (D : Nat) (h : zt_at T) (hm : zt_hm μ T) {k a : Nat} (hk : k < 10) (ha : a < 2) (x : Int32) : ze_E (D + 4) A_Tree_spans [.ref (T + 1), .int (nI k), .int x, .int (nI a)] (zm_mk μ) (some (.int (zb (zt_so μ T a k ≤ x ∧ x < zt_so μ T a k + zt_lo μ T a k)))) (zm_mk μ) := by
  obtain ⟨N, h1⟩ := ze_Tree_startOf (μ := μ) (D + 1) h hm hk ha
  obtain ⟨M, h2⟩ := ze_Tree_endOf (μ := μ) D h hm hk ha
  obtain ⟨lc, hc⟩ := zt_c (μ := μ) h
  refine ze_in [(0, .ref (T + 1)), (1, .int (nI k)), (2, .int x), (3, .int (nI a))] zq_Tree_spans (Nat.le_of_ble_eq_true rfl) rfl ⟨N + M, 20, fun F n hF => ?_⟩
  by_cases c : x < zt_so μ T a k
  · have c' : ¬ zt_so μ T a k ≤ x := Int32.not_le.mpr c
    simp [zg_0, zg_aload_n, zg_goto, zg_iconst, zg_if_icmp, zg_iload_n, zg_invokevirtual, zg_ireturn, zf_X3_spans, zi_ld, zi_lda, zi_cmp, zi_retOk, zi_isI, zi_f3, zi_cr, zi_ci, zi_cn, zi_get, zq_Tree_startOf, zq_Tree_endOf, hc, h1 F (by omega), c, c', zb]
  · have c' : zt_so μ T a k ≤ x := Int32.not_lt.mp c
    by_cases c2 : zt_so μ T a k + zt_lo μ T a k ≤ x
    · have c2' : ¬ x < zt_so μ T a k + zt_lo μ T a k := Int32.not_lt.mpr c2
      simp [zg_0, zg_aload_n, zg_goto, zg_iconst, zg_if_icmp, zg_iload_n, zg_invokevirtual, zg_ireturn, zf_X3_spans, zi_ld, zi_lda, zi_cmp, zi_retOk, zi_isI, zi_f3, zi_cr, zi_ci, zi_cn, zi_get, zq_Tree_startOf, zq_Tree_endOf, hc, h1 F (by omega), h2 F (by omega), c, c', c2, c2', zb]
    · have c2' : x < zt_so μ T a k + zt_lo μ T a k := Int32.not_le.mp c2
      simp [zg_0, zg_aload_n, zg_goto, zg_iconst, zg_if_icmp, zg_iload_n, zg_invokevirtual, zg_ireturn, zf_X3_spans, zi_ld, zi_lda, zi_cmp, zi_retOk, zi_isI, zi_f3, zi_cr, zi_ci, zi_cn, zi_get, zq_Tree_startOf, zq_Tree_endOf, hc, h1 F (by omega), h2 F (by omega), c, c', c2, c2', zb]
set_option maxRecDepth 100000 in
theorem ze_Tree_clear (D : Nat) (h : zt_at T) : ze_E (D + 2) A_Tree_clear [.ref (T + 1)] (zm_mk μ) none (zm_mk (zm_up (zm_up (zm_fl (zm_fl (zm_up μ (T + 1) 1 0) (T + 3) (-1) 10) (T + 7) 3 19) T 9 (-1)) T 12 0)) := by
  obtain ⟨N1, h1⟩ := ze_Row_clear (μ := μ) D h.2.1
  obtain ⟨N2, h2⟩ := ze_fill (μ := zm_up μ (T + 1) 1 0) D h.2.2.1 (by decide) (-1)
  obtain ⟨N3, h3⟩ := ze_fill (μ := zm_fl (zm_up μ (T + 1) 1 0) (T + 3) (-1) 10) D h.2.2.2.2.1.1 (by decide) 3
  refine ze_in [(0, .ref (T + 1))] zq_Tree_clear (Nat.le_of_ble_eq_true rfl) rfl ⟨N1 + N2 + N3, 24, fun F n hF => ?_⟩
  have cr := zr_c (μ := μ) h.2.1
  simp [zg_0, zg_aload_n, zg_getfield, zg_iconst, zg_invokestatic, zg_invokevirtual, zg_putfield, zg_return, zf_X3_clear, zi_ld, zi_lda, zi_cmp, zi_retOk, zi_isI, zi_f3, zi_cr, zi_ci, zi_cn, zi_get, zq_Row_clear, zq_Arr_fill, zt_g h, cr, h1 F (by omega), h2 F (by omega), h3 F (by omega), zt_p9 h, zt_p12 h]
end ZT2
