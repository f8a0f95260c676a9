/-! Tree: nodes are taken, put in place of others, dropped -/
section ZT3
variable {μ : zm_M} {T : Nat}
/-- the first node that is not used (at most 18) -/
def zt_fr (μ : zm_M) (T : Nat) : Nat → Nat → Nat
  | 0, i => i
  | m + 1, i => if μ (T + 7) i = 3 then i else zt_fr μ T m (i + 1)
theorem zt_fr_le : ∀ (m i : Nat), zt_fr μ T m i ≤ i + m
  | 0, i => Nat.le_refl _
  | m + 1, i => by
    unfold zt_fr
    split
    · omega
    · have := zt_fr_le m (i + 1)
      omega
set_option maxRecDepth 100000 in
theorem zt_newNode_loop (D : Nat) (h : zt_at T) (f : Int32) :
    ∀ (m i : Nat) (L : zi_Lc), i + m = 18 → zi_get L 0 = some (.ref (T + 1)) → zi_get L 1 = some (.int f) → zi_get L 2 = some (.int (nI i)) →
      ze_G D 3 (some .int) zc_X3_newNode 2 L [] (zm_mk μ) (some (.int (nI (zt_fr μ T m i)))) (zm_mk (zm_up μ (T + 7) (zt_fr μ T m i) f)) := by
  have h18 : (Int8.ofInt 18).toInt32 = (18 : Int32) := by decide
  intro m
  induction m with
  | zero =>
    intro i L him g0 g1 g2
    have e : i = 18 := by omega
    subst e
    have hin : zi_in (nI 18) 19 = true := zm_in (by decide) (by decide)
    have hcl : (nI 18).toNatClampNeg = 18 := nI_clamp (by decide)
    have hx : (18 : Int32) ≤ nI 18 := by decide
    refine ⟨0, 20, fun F n _ => ?_⟩
    simp [zg_0, zg_aload_n, zg_bipush, zg_getfield, zg_goto, zg_iaload, zg_iastore, zg_iconst, zg_if_icmp, zg_iinc, zg_iload_n, zg_ireturn, zg_istore_n, zf_X3_newNode, zi_ld, zi_lda, zi_cmp, zi_retOk, zi_isI, zi_f3, zi_cr, zi_ci, zi_cn, g0, g1, g2, h18, hx, zt_g h, zm_iast h.2.2.2.2.1.1 hin, hcl, zt_fr]
  | succ m ih =>
    intro i L him g0 g1 g2
    have hc : ¬ (18 : Int32) ≤ nI i := nI_ge (b := 18) (by omega) (by decide)
    have hin : zi_in (nI i) 19 = true := zm_in (by omega) (by decide)
    have hcl : (nI i).toNatClampNeg = i := nI_clamp (by omega)
    unfold zt_fr
    by_cases c : μ (T + 7) i = 3
    · rw [if_pos c]
      refine ⟨0, 20, fun F n _ => ?_⟩
      simp [zg_0, zg_aload_n, zg_bipush, zg_getfield, zg_goto, zg_iaload, zg_iastore, zg_iconst, zg_if_icmp, zg_iinc, zg_iload_n, zg_ireturn, zg_istore_n, zf_X3_newNode, zi_ld, zi_lda, zi_cmp, zi_retOk, zi_isI, zi_f3, zi_cr, zi_ci, zi_cn, g0, g1, g2, h18, hc, zt_g h, zm_iald (k := 0) h.2.2.2.2.1.1 hin, zm_iast h.2.2.2.2.1.1 hin, hcl, c]
    · rw [if_neg c]
      refine ze_S.end (p2 := 2) (L2 := zi_set L 2 (.int (nI (i + 1)))) (s2 := []) (h2 := zm_mk μ) ⟨0, 11, fun F n _ => ?_⟩ (ih (i + 1) _ (by omega) (zi_get_set_ne (by decide) g0 rfl) (zi_get_set_ne (by decide) g1 rfl) zi_get_set_eq)
      simp [zg_0, zg_aload_n, zg_bipush, zg_getfield, zg_goto, zg_iaload, zg_iastore, zg_iconst, zg_if_icmp, zg_iinc, zg_iload_n, zg_ireturn, zg_istore_n, zf_X3_newNode, zi_ld, zi_lda, zi_cmp, zi_retOk, zi_isI, zi_f3, zi_cr, zi_ci, zi_cn, g0, g1, g2, h18, hc, zt_g h, zm_iald (k := 0) h.2.2.2.2.1.1 hin, hcl, c, nI_1]
set_option maxRecDepth 100000 in
theorem ze_Tree_newNode (D : Nat) (h : zt_at T) (f : Int32) : ze_E (D + 1) A_Tree_newNode [.ref (T + 1), .int f] (zm_mk μ) (some (.int (nI (zt_fr μ T 18 0)))) (zm_mk (zm_up μ (T + 7) (zt_fr μ T 18 0) f)) := by
  refine ze_in [(0, .ref (T + 1)), (1, .int f)] zq_Tree_newNode (Nat.le_of_ble_eq_true rfl) rfl ?_
  refine ze_S.end (p2 := 2) (L2 := [(2, .int (nI 0)), (0, .ref (T + 1)), (1, .int f)]) (s2 := []) (h2 := zm_mk μ) ⟨0, 2, fun F n hF => ?_⟩ (zt_newNode_loop D h f 18 0 _ (by omega) rfl rfl rfl)
  simp [zg_0, zg_aload_n, zg_bipush, zg_getfield, zg_goto, zg_iaload, zg_iastore, zg_iconst, zg_if_icmp, zg_iinc, zg_iload_n, zg_ireturn, zg_istore_n, zf_X3_newNode, zi_ld, zi_lda, zi_cmp, zi_retOk, zi_isI, zi_f3, zi_cr, zi_ci, zi_cn, zi_get, zi_set, nI_0]
/-- what putInPlaceOf(old, fresh) leaves -/
def zt_pp (μ : zm_M) (T a b : Nat) : zm_M :=
  let ab := μ (T + 11) a
  let μ1 := zm_up μ (T + 11) b ab
  if ab < 0 then zm_up μ1 T 9 (nI b) else if μ (T + 9) ab.toNatClampNeg = nI a then zm_up μ1 (T + 9) ab.toNatClampNeg (nI b) else zm_up μ1 (T + 10) ab.toNatClampNeg (nI b)
set_option maxRecDepth 100000 in
theorem ze_Tree_putInPlaceOf (D : Nat) (h : zt_at T) {a b : Nat} (ha : a < 19) (hb : b < 19) (hab : μ (T + 11) a < 0 ∨ zi_in (μ (T + 11) a) 19 = true) : ze_E (D + 1) A_Tree_putInPlaceOf [.ref (T + 1), .int (nI a), .int (nI b)] (zm_mk μ) none (zm_mk (zt_pp μ T a b)) := by
  refine ze_in [(0, .ref (T + 1)), (1, .int (nI a)), (2, .int (nI b))] zq_Tree_putInPlaceOf (Nat.le_of_ble_eq_true rfl) rfl ⟨0, 34, fun F n hF => ?_⟩
  have ia : zi_in (nI a) 19 = true := zm_in ha (by decide)
  have ib : zi_in (nI b) 19 = true := zm_in hb (by decide)
  have ca : (nI a).toNatClampNeg = a := nI_clamp (by omega)
  have cb : (nI b).toNatClampNeg = b := nI_clamp (by omega)
  unfold zt_pp
  by_cases c : μ (T + 11) a < 0
  · have c' : ¬ (0 : Int32) ≤ μ (T + 11) a := Int32.not_le.mpr c
    simp [zg_0, zg_aload_n, zg_getfield, zg_goto, zg_iaload, zg_iastore, zg_ifCond, zg_if_icmp, zg_iload_n, zg_istore_n, zg_putfield, zg_return, zf_X3_putInPlaceOf, zi_ld, zi_lda, zi_cmp, zi_retOk, zi_isI, zi_f3, zi_cr, zi_ci, zi_cn, zi_get, zi_set, zt_g h, zm_iald (k := 0) h.2.2.2.2.1.2.2.2.2.1 ia, zm_iast h.2.2.2.2.1.2.2.2.2.1 ib, ca, cb, c, c', zt_p9 h]
  · have c' : (0 : Int32) ≤ μ (T + 11) a := Int32.not_lt.mp c
    have iab := hab.resolve_left c
    have e1 : zm_up μ (T + 11) b (μ (T + 11) a) (T + 9) (μ (T + 11) a).toNatClampNeg = μ (T + 9) (μ (T + 11) a).toNatClampNeg := zm_up_ne (by omega)
    by_cases c2 : μ (T + 9) (μ (T + 11) a).toNatClampNeg = nI a
    · simp [zg_0, zg_aload_n, zg_getfield, zg_goto, zg_iaload, zg_iastore, zg_ifCond, zg_if_icmp, zg_iload_n, zg_istore_n, zg_putfield, zg_return, zf_X3_putInPlaceOf, zi_ld, zi_lda, zi_cmp, zi_retOk, zi_isI, zi_f3, zi_cr, zi_ci, zi_cn, zi_get, zi_set, zt_g h, zm_iald (k := 0) h.2.2.2.2.1.2.2.2.2.1 ia, zm_iast h.2.2.2.2.1.2.2.2.2.1 ib, ca, cb, c, c', zm_iald (k := 0) h.2.2.2.2.1.2.2.1 iab, e1, c2, zm_iast h.2.2.2.2.1.2.2.1 iab]
    · simp [zg_0, zg_aload_n, zg_getfield, zg_goto, zg_iaload, zg_iastore, zg_ifCond, zg_if_icmp, zg_iload_n, zg_istore_n, zg_putfield, zg_return, zf_X3_putInPlaceOf, zi_ld, zi_lda, zi_cmp, zi_retOk, zi_isI, zi_f3, zi_cr, zi_ci, zi_cn, zi_get, zi_set, zt_g h, zm_iald (k := 0) h.2.2.2.2.1.2.2.2.2.1 ia, zm_iast h.2.2.2.2.1.2.2.2.2.1 ib, ca, cb, c, c', zm_iald (k := 0) h.2.2.2.2.1.2.2.1 iab, e1, c2, zm_iast h.2.2.2.2.1.2.2.2.1 iab]
set_option maxRecDepth 100000 in
/-- enter(leaf, window, w, h) -/
theorem ze_Tree_enter (D : Nat) (h : zt_at T) {l : List Nat} (hl : zr_L μ (T + 1) l) (hn : l.length < 10) {k : Nat} (hk : k < 10) (f x y : Int32) :
    ∃ ν, ze_E (D + 2) A_Tree_enter [.ref (T + 1), .int f, .int (nI k), .int x, .int y] (zm_mk μ) none (zm_mk (zm_up (zm_up (zm_up ν (T + 3) k f) (T + 5) k x) (T + 6) k y)) ∧ zr_L ν (T + 1) (l ++ [k]) ∧ zr_fr (T + 1) μ ν := by
  obtain ⟨ν, ⟨N, h1⟩, h2, h3⟩ := ze_Row_append D h.2.1 hl hn k
  refine ⟨ν, ?_, h2, h3⟩
  have cr := zr_c (μ := μ) h.2.1
  have ik : zi_in (nI k) 10 = true := zm_in hk (by decide)
  have ck : (nI k).toNatClampNeg = k := nI_clamp (by omega)
  refine ze_in [(0, .ref (T + 1)), (1, .int f), (2, .int (nI k)), (3, .int x), (4, .int y)] zq_Tree_enter (Nat.le_of_ble_eq_true rfl) rfl ⟨N, 30, fun F n hF => ?_⟩
  simp [zg_0, zg_aaload, zg_aload_n, zg_getfield, zg_iastore, zg_iconst, zg_iload, zg_iload_n, zg_invokevirtual, zg_return, zf_X3_enter, zi_ld, zi_lda, zi_cmp, zi_retOk, zi_isI, zi_f3, zi_cr, zi_ci, zi_cn, zi_get, zt_g h, zq_Row_append, cr, h1 F hF, zm_iast h.2.2.1 ik, ck, zm_ax0 h.2.2.2.1.1, zm_ax1 h.2.2.2.1.1, zm_iast h.2.2.2.1.2.1 ik, zm_iast h.2.2.2.1.2.2 ik]
/-- what dropLeaf(leaf) leaves -/
def zt_dl (μ : zm_M) (T a : Nat) : zm_M :=
  let cut := μ (T + 11) a
  let μ1 := zm_up μ (T + 7) a 3
  if cut < 0 then zm_up μ1 T 9 (-1)
  else zm_up (zt_pp μ1 T cut.toNatClampNeg (if μ (T + 9) cut.toNatClampNeg = nI a then μ (T + 10) cut.toNatClampNeg else μ (T + 9) cut.toNatClampNeg).toNatClampNeg) (T + 7) cut.toNatClampNeg 3
theorem zt_nI {x : Int32} {n : Nat} (h : zi_in x n = true) (hn : n < 2 ^ 31) : x = nI x.toNatClampNeg ∧ x.toNatClampNeg < n := by
  obtain ⟨h1, h2⟩ := zi_in_lt h
  obtain ⟨j, hj, e⟩ := vp_in_of h1 hn
  refine ⟨?_, h2⟩
  rw [e, nI_clamp (by omega)]
set_option maxRecDepth 100000 in
theorem ze_Tree_dropLeaf (D : Nat) (h : zt_at T) {a : Nat} (ha : a < 19) (hab : μ (T + 11) a < 0 ∨ zi_in (μ (T + 11) a) 19 = true)
    (hk : ¬ μ (T + 11) a < 0 → zi_in (μ (T + 9) (μ (T + 11) a).toNatClampNeg) 19 = true ∧ zi_in (μ (T + 10) (μ (T + 11) a).toNatClampNeg) 19 = true ∧ (μ (T + 11) (μ (T + 11) a).toNatClampNeg < 0 ∨ zi_in (μ (T + 11) (μ (T + 11) a).toNatClampNeg) 19 = true)) :
    ze_E (D + 2) A_Tree_dropLeaf [.ref (T + 1), .int (nI a)] (zm_mk μ) none (zm_mk (zt_dl μ T a)) := by
  have ia : zi_in (nI a) 19 = true := zm_in ha (by decide)
  have ca : (nI a).toNatClampNeg = a := nI_clamp (by omega)
  obtain ⟨lc, hc⟩ := zt_c (μ := zm_up μ (T + 7) a 3) h
  unfold zt_dl
  by_cases c : μ (T + 11) a < 0
  · have c' : ¬ (0 : Int32) ≤ μ (T + 11) a := Int32.not_le.mpr c
    refine ze_in [(0, .ref (T + 1)), (1, .int (nI a))] zq_Tree_dropLeaf (Nat.le_of_ble_eq_true rfl) rfl ⟨0, 34, fun F n hF => ?_⟩
    simp [zg_0, zg_aload_n, zg_getfield, zg_goto, zg_iaload, zg_iastore, zg_iconst, zg_ifCond, zg_if_icmp, zg_iload_n, zg_invokevirtual, zg_istore_n, zg_putfield, zg_return, zf_X3_dropLeaf, zi_ld, zi_lda, zi_cmp, zi_retOk, zi_isI, zi_f3, zi_cr, zi_ci, zi_cn, zi_get, zi_set, zt_g h, zm_iald (k := 0) h.2.2.2.2.1.2.2.2.2.1 ia, zm_iast h.2.2.2.2.1.1 ia, ca, c, c', zt_p9 h]
  · have c' : (0 : Int32) ≤ μ (T + 11) a := Int32.not_lt.mp c
    obtain ⟨k1, k2, k3⟩ := hk c
    have iab := hab.resolve_left c
    obtain ⟨e0, l0⟩ := zt_nI iab (by decide)
    obtain ⟨e1, l1⟩ := zt_nI k1 (by decide)
    obtain ⟨e2, l2⟩ := zt_nI k2 (by decide)
    have u9 : zm_up μ (T + 7) a 3 (T + 9) (μ (T + 11) a).toNatClampNeg = μ (T + 9) (μ (T + 11) a).toNatClampNeg := zm_up_ne (by omega)
    have u10 : zm_up μ (T + 7) a 3 (T + 10) (μ (T + 11) a).toNatClampNeg = μ (T + 10) (μ (T + 11) a).toNatClampNeg := zm_up_ne (by omega)
    have u11 : zm_up μ (T + 7) a 3 (T + 11) (μ (T + 11) a).toNatClampNeg = μ (T + 11) (μ (T + 11) a).toNatClampNeg := zm_up_ne (by omega)
    by_cases c2 : μ (T + 9) (μ (T + 11) a).toNatClampNeg = nI a
    · obtain ⟨N, h1⟩ := ze_Tree_putInPlaceOf (μ := zm_up μ (T + 7) a 3) D h l0 l2 (by rw [u11]; exact k3)
      rw [← e0, ← e2] at h1
      refine ze_in [(0, .ref (T + 1)), (1, .int (nI a))] zq_Tree_dropLeaf (Nat.le_of_ble_eq_true rfl) rfl ⟨N, 40, fun F n hF => ?_⟩
      simp [zg_0, zg_aload_n, zg_getfield, zg_goto, zg_iaload, zg_iastore, zg_iconst, zg_ifCond, zg_if_icmp, zg_iload_n, zg_invokevirtual, zg_istore_n, zg_putfield, zg_return, zf_X3_dropLeaf, zi_ld, zi_lda, zi_cmp, zi_retOk, zi_isI, zi_f3, zi_cr, zi_ci, zi_cn, zi_get, zi_set, zt_g h, zm_iald (k := 0) h.2.2.2.2.1.2.2.2.2.1 ia, zm_iast h.2.2.2.2.1.1 ia, ca, c, c', zm_iald (k := 0) h.2.2.2.2.1.2.2.1 iab, u9, c2, zm_iald (k := 0) h.2.2.2.2.1.2.2.2.1 iab, u10, zq_Tree_putInPlaceOf, hc, h1 F hF, zm_iast h.2.2.2.2.1.1 iab]
    · obtain ⟨N, h1⟩ := ze_Tree_putInPlaceOf (μ := zm_up μ (T + 7) a 3) D h l0 l1 (by rw [u11]; exact k3)
      rw [← e0, ← e1] at h1
      refine ze_in [(0, .ref (T + 1)), (1, .int (nI a))] zq_Tree_dropLeaf (Nat.le_of_ble_eq_true rfl) rfl ⟨N, 40, fun F n hF => ?_⟩
      simp [zg_0, zg_aload_n, zg_getfield, zg_goto, zg_iaload, zg_iastore, zg_iconst, zg_ifCond, zg_if_icmp, zg_iload_n, zg_invokevirtual, zg_istore_n, zg_putfield, zg_return, zf_X3_dropLeaf, zi_ld, zi_lda, zi_cmp, zi_retOk, zi_isI, zi_f3, zi_cr, zi_ci, zi_cn, zi_get, zi_set, zt_g h, zm_iald (k := 0) h.2.2.2.2.1.2.2.2.2.1 ia, zm_iast h.2.2.2.2.1.1 ia, ca, c, c', zm_iald (k := 0) h.2.2.2.2.1.2.2.1 iab, u9, c2, zq_Tree_putInPlaceOf, hc, h1 F hF, zm_iast h.2.2.2.2.1.1 iab]
end ZT3
