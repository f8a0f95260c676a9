/-! Window's rest; Arrays.fill; Tree: what goes straight -/
section ZT0
variable {μ : zm_M} {w : Nat}
/-- sent to a screen -/
def zw_send (μ : zm_M) (w z : Nat) (s : Int32) : zm_M := if ¬ μ w 2 = 0 ∧ ¬ μ w 3 = 1 then zw_put (zm_up μ w 5 s) w z (μ (w + 2) 0) (μ (w + 2) 1) else zm_up μ w 5 s
set_option maxRecDepth 100000 in
theorem ze_sendTo (D : Nat) (h : zw_at w) {z : Nat} (hz : zm_isA 7 z 2) (hd : z ≠ w + 2) (s : Int32) : ze_E (D + 5) A_Win_sendTo [.ref (w + 1), .int s, .ref (z + 1)] (zm_mk μ) none (zm_mk (zw_send μ w z s)) := by
  obtain ⟨N, h1⟩ := ze_isFloating (μ := zm_up μ w 5 s) (D + 3) h
  obtain ⟨M, h2⟩ := ze_putAt (μ := zm_up μ w 5 s) D h hz hd (μ (w + 2) 0) (μ (w + 2) 1)
  rw [zm_up_ne (by omega), zm_up_ne (by omega)] at h1
  refine ze_in [(0, .ref (w + 1)), (1, .int s), (2, .ref (z + 1))] zq_Win_sendTo (Nat.le_of_ble_eq_true rfl) rfl ⟨N + M, 24, fun F n hF => ?_⟩
  have e0 : zm_up μ w 5 s (w + 2) 0 = μ (w + 2) 0 := zm_up_ne (by omega)
  have e1 : zm_up μ w 5 s (w + 2) 1 = μ (w + 2) 1 := zm_up_ne (by omega)
  by_cases c : ¬ μ w 2 = 0 ∧ ¬ μ w 3 = 1
  · have eb : zb (¬ μ w 2 = 0 ∧ ¬ μ w 3 = 1) = 1 := if_pos c
    rw [eb] at h1
    have es : zw_send μ w z s = zw_put (zm_up μ w 5 s) w z (μ (w + 2) 0) (μ (w + 2) 1) := if_pos c
    rw [es]
    simp [zg_0, zg_aload_n, zg_getfield, zg_iaload, zg_iconst, zg_ifCond, zg_iload_n, zg_invokevirtual, zg_putfield, zg_return, zf_X4_sendTo, zi_ld, zi_lda, zi_cmp, zi_retOk, zi_isI, zi_f3, zi_cr, zi_ci, zi_cn, zi_get, zq_Win_isFloating, zq_Win_putAt, zw_c h, zw_g h, zw_p5 h, h1 F (by omega), zm_iald (k := 0) h.2.2 zm_in0, zm_iald (k := 0) h.2.2 zm_in1, zm_cl0, zm_cl1, e0, e1, h2 F (by omega)]
  · have eb : zb (¬ μ w 2 = 0 ∧ ¬ μ w 3 = 1) = 0 := if_neg c
    rw [eb] at h1
    have es : zw_send μ w z s = zm_up μ w 5 s := if_neg c
    rw [es]
    simp [zg_0, zg_aload_n, zg_getfield, zg_iaload, zg_iconst, zg_ifCond, zg_iload_n, zg_invokevirtual, zg_putfield, zg_return, zf_X4_sendTo, zi_ld, zi_lda, zi_cmp, zi_retOk, zi_isI, zi_f3, zi_cr, zi_ci, zi_cn, zi_get, zq_Win_isFloating, zw_c h, zw_g h, zw_p5 h, h1 F (by omega)]
end ZT0
section ZT1
variable {μ : zm_M}
/-- an array with its places below i set to x -/
def zm_fl (μ : zm_M) (c : Nat) (x : Int32) (i : Nat) : zm_M := fun a b => if a = c ∧ b < i then x else μ a b
theorem zm_fl_0 {c : Nat} {x : Int32} : zm_fl μ c x 0 = μ := by
  funext a b
  unfold zm_fl
  rw [if_neg (by omega)]
theorem zm_fl_s {c i : Nat} {x : Int32} : zm_up (zm_fl μ c x i) c i x = zm_fl μ c x (i + 1) := by
  funext a b
  unfold zm_up zm_fl
  by_cases e : a = c ∧ b = i
  · rw [if_pos e, if_pos ⟨e.1, by omega⟩]
  · rw [if_neg e]
    by_cases e2 : a = c ∧ b < i
    · rw [if_pos e2, if_pos ⟨e2.1, by omega⟩]
    · rw [if_neg e2, if_neg (by omega)]
set_option maxRecDepth 100000 in
theorem zm_fill_loop (D : Nat) {c n0 : Nat} (hc : zm_isA 7 c n0) (hn : n0 < 2 ^ 31) (x : Int32) :
    ∀ (m i : Nat) (L : zi_Lc), i + m = n0 → zi_get L 0 = some (.ref (c + 1)) → zi_get L 1 = some (.int x) → zi_get L 2 = some (.int (nI i)) → zi_get L 3 = some (.int (nI n0)) →
      ze_G D 4 none zc_J7_fill_53178 5 L [] (zm_mk (zm_fl μ c x i)) none (zm_mk (zm_fl μ c x n0)) := by
  intro m
  induction m with
  | zero =>
    intro i L him g0 g1 g2 g3
    have e : i = n0 := by omega
    subst e
    refine ⟨0, 6, fun F n _ => ?_⟩
    simp [zg_0, zg_aload_n, zg_arraylength, zg_goto, zg_iastore, zg_iconst, zg_if_icmp, zg_iinc, zg_iload_n, zg_istore_n, zg_return, zf_J7_fill_53178, zi_ld, zi_lda, zi_cmp, zi_retOk, zi_isI, zi_f3, zi_cr, zi_ci, zi_cn, g0, g1, g2, g3]
  | succ m ih =>
    intro i L him g0 g1 g2 g3
    have hc2 : ¬ nI n0 ≤ nI i := nI_ge (by omega) hn
    have hin : zi_in (nI i) n0 = true := zm_in (by omega) hn
    have eu : zm_up (zm_fl μ c x i) c (nI i).toNatClampNeg x = zm_fl μ c x (i + 1) := by
      rw [nI_clamp (by omega)]
      exact zm_fl_s
    refine ze_S.end (p2 := 5) (L2 := zi_set L 2 (.int (nI (i + 1)))) (s2 := []) (h2 := zm_mk (zm_fl μ c x (i + 1))) ⟨0, 9, fun F n _ => ?_⟩ (ih (i + 1) _ (by omega) (zi_get_set_ne (by decide) g0 rfl) (zi_get_set_ne (by decide) g1 rfl) zi_get_set_eq (zi_get_set_ne (by decide) g3 rfl))
    simp [zg_0, zg_aload_n, zg_arraylength, zg_goto, zg_iastore, zg_iconst, zg_if_icmp, zg_iinc, zg_iload_n, zg_istore_n, zg_return, zf_J7_fill_53178, zi_ld, zi_lda, zi_cmp, zi_retOk, zi_isI, zi_f3, zi_cr, zi_ci, zi_cn, g0, g1, g2, g3, hc2, zm_iast hc hin, eu, nI_1]
theorem zm_alen {c n0 : Nat} (hc : zm_isA 7 c n0) : zi_alen none (zm_mk μ) (c + 1) = some (.int (nI n0)) := by
  obtain ⟨l, h1, rfl, -⟩ := hc
  unfold zi_alen
  simp only [zm_get h1, List.length_mapIdx]
  rfl
set_option maxRecDepth 100000 in
theorem ze_fill (D : Nat) {c n0 : Nat} (hc : zm_isA 7 c n0) (hn : n0 < 2 ^ 31) (x : Int32) : ze_E (D + 1) A_Arr_fill [.ref (c + 1), .int x] (zm_mk μ) none (zm_mk (zm_fl μ c x n0)) := by
  refine ze_in [(0, .ref (c + 1)), (1, .int x)] zq_Arr_fill (Nat.le_of_ble_eq_true rfl) rfl ?_
  have hloop := zm_fill_loop (μ := μ) D hc hn x n0 0 [(3, .int (nI n0)), (2, .int (nI 0)), (0, .ref (c + 1)), (1, .int x)] (by omega) rfl rfl rfl rfl
  rw [zm_fl_0] at hloop
  refine ze_S.end (p2 := 5) (L2 := _) (s2 := []) (h2 := _) ⟨0, 5, fun F n hF => ?_⟩ hloop
  simp [zg_0, zg_aload_n, zg_arraylength, zg_goto, zg_iastore, zg_iconst, zg_if_icmp, zg_iinc, zg_iload_n, zg_istore_n, zg_return, zf_J7_fill_53178, zi_ld, zi_lda, zi_cmp, zi_retOk, zi_isI, zi_f3, zi_cr, zi_ci, zi_cn, zi_get, zi_set, zm_alen hc, nI_0]
/-- a Tree at cell T -/
def zt_at (T : Nat) : Prop := zh_2[T]? = some (3, [.ref (T + 2), .ref (T + 4), .ref (T + 5), .ref (T + 8), .ref (T + 9), .ref (T + 10), .ref (T + 11), .ref (T + 12), .ref (T + 13), .int (-1), .ref (T + 14), .ref (T + 15), .int 0, .ref (T + 16), .ref (T + 19), .ref (T + 22)]) ∧ zr_at (T + 1) ∧ zm_isA 7 (T + 3) 10 ∧
  (zh_2[T + 4]? = some (11, [.ref (T + 6), .ref (T + 7)]) ∧ zm_isA 7 (T + 5) 10 ∧ zm_isA 7 (T + 6) 10) ∧ (zm_isA 7 (T + 7) 19 ∧ zm_isA 7 (T + 8) 19 ∧ zm_isA 7 (T + 9) 19 ∧ zm_isA 7 (T + 10) 19 ∧ zm_isA 7 (T + 11) 19 ∧ zm_isA 7 (T + 12) 19 ∧ zm_isA 7 (T + 13) 19 ∧ zm_isA 7 (T + 14) 19) ∧
  (zh_2[T + 15]? = some (11, [.ref (T + 17), .ref (T + 18)]) ∧ zm_isA 7 (T + 16) 19 ∧ zm_isA 7 (T + 17) 19) ∧ (zh_2[T + 18]? = some (11, [.ref (T + 20), .ref (T + 21)]) ∧ zm_isA 7 (T + 19) 19 ∧ zm_isA 7 (T + 20) 19) ∧ (zh_2[T + 21]? = some (11, [.ref (T + 23), .ref (T + 24)]) ∧ zm_isA 7 (T + 22) 19 ∧ zm_isA 7 (T + 23) 19)
def zt_cells : List Nat := [7, 68, 93, 123, 148, 178, 203]
set_option maxRecDepth 100000 in
theorem zt_at_of : ∀ T ∈ zt_cells, zt_at T := by
  intro T hT
  simp only [zt_cells, List.mem_cons, List.not_mem_nil, or_false] at hT
  rcases hT with rfl | rfl | rfl | rfl | rfl | rfl | rfl <;> exact ⟨by decide +kernel, zr_at_of _ (by decide), zm_isA_of (by decide +kernel), ⟨by decide +kernel, zm_isA_of (by decide +kernel), zm_isA_of (by decide +kernel)⟩, ⟨zm_isA_of (by decide +kernel), zm_isA_of (by decide +kernel), zm_isA_of (by decide +kernel), zm_isA_of (by decide +kernel), zm_isA_of (by decide +kernel), zm_isA_of (by decide +kernel), zm_isA_of (by decide +kernel), zm_isA_of (by decide +kernel)⟩, ⟨by decide +kernel, zm_isA_of (by decide +kernel), zm_isA_of (by decide +kernel)⟩, ⟨by decide +kernel, zm_isA_of (by decide +kernel), zm_isA_of (by decide +kernel)⟩, ⟨by decide +kernel, zm_isA_of (by decide +kernel), zm_isA_of (by decide +kernel)⟩⟩
variable {T : Nat}
theorem zt_c (h : zt_at T) : ∃ l, (zm_mk μ)[T]? = some (3, l) := ⟨_, zm_get h.1⟩
theorem zt_g (h : zt_at T) : zi_gf (zm_mk μ) 3 0 T = some (.ref (T + 1 + 1)) ∧ zi_gf (zm_mk μ) 3 1 T = some (.ref (T + 3 + 1)) ∧ zi_gf (zm_mk μ) 3 2 T = some (.ref (T + 4 + 1)) ∧ zi_gf (zm_mk μ) 3 3 T = some (.ref (T + 7 + 1)) ∧ zi_gf (zm_mk μ) 3 4 T = some (.ref (T + 8 + 1)) ∧ zi_gf (zm_mk μ) 3 5 T = some (.ref (T + 9 + 1)) ∧ zi_gf (zm_mk μ) 3 6 T = some (.ref (T + 10 + 1)) ∧ zi_gf (zm_mk μ) 3 7 T = some (.ref (T + 11 + 1)) ∧ zi_gf (zm_mk μ) 3 8 T = some (.ref (T + 12 + 1)) ∧ zi_gf (zm_mk μ) 3 9 T = some (.int (μ T 9)) ∧ zi_gf (zm_mk μ) 3 10 T = some (.ref (T + 13 + 1)) ∧ zi_gf (zm_mk μ) 3 11 T = some (.ref (T + 14 + 1)) ∧ zi_gf (zm_mk μ) 3 12 T = some (.int (μ T 12)) ∧ zi_gf (zm_mk μ) 3 13 T = some (.ref (T + 15 + 1)) ∧ zi_gf (zm_mk μ) 3 14 T = some (.ref (T + 18 + 1)) ∧ zi_gf (zm_mk μ) 3 15 T = some (.ref (T + 21 + 1)) :=
  ⟨zm_gfr h.1 (by decide) rfl, zm_gfr h.1 (by decide) rfl, zm_gfr h.1 (by decide) rfl, zm_gfr h.1 (by decide) rfl, zm_gfr h.1 (by decide) rfl, zm_gfr h.1 (by decide) rfl, zm_gfr h.1 (by decide) rfl, zm_gfr h.1 (by decide) rfl, zm_gfr h.1 (by decide) rfl, zm_gfi h.1 (by decide) rfl, zm_gfr h.1 (by decide) rfl, zm_gfr h.1 (by decide) rfl, zm_gfi h.1 (by decide) rfl, zm_gfr h.1 (by decide) rfl, zm_gfr h.1 (by decide) rfl, zm_gfr h.1 (by decide) rfl⟩
theorem zt_p9 (h : zt_at T) (x : Int32) : zi_pf (zm_mk μ) 3 9 T (.int x) = some (zm_mk (zm_up μ T 9 x)) := zm_pfi h.1 (by decide) rfl rfl
theorem zt_p12 (h : zt_at T) (x : Int32) : zi_pf (zm_mk μ) 3 12 T (.int x) = some (zm_mk (zm_up μ T 12 x)) := zm_pfi h.1 (by decide) rfl rfl
/-- the two rows of an axis -/
theorem zm_ax0 {o : Nat} (h : zh_2[o]? = some (11, [.ref (o + 2), .ref (o + 3)])) : zi_aald (zm_mk μ) 0 o = some (.ref (o + 1 + 1)) := zm_aald h (by decide) zm_in0 rfl
theorem zm_ax1 {o : Nat} (h : zh_2[o]? = some (11, [.ref (o + 2), .ref (o + 3)])) : zi_aald (zm_mk μ) 1 o = some (.ref (o + 2 + 1)) := zm_aald h (by decide) zm_in1 rfl
set_option maxRecDepth 100000 in
theorem ze_Tree_leafOf (D : Nat) (h : zt_at T) {k : Nat} (hk : k < 10) : ze_E (D + 1) A_Tree_leafOf [.ref (T + 1), .int (nI k)] (zm_mk μ) (some (.int (μ (T + 3) k))) (zm_mk μ) := by
  refine ze_in [(0, .ref (T + 1)), (1, .int (nI k))] zq_Tree_leafOf (Nat.le_of_ble_eq_true rfl) rfl ⟨0, 16, fun F n hF => ?_⟩
  have h10 : (Int8.ofInt 10).toInt32 = (10 : Int32) := by decide
  have c1 : ¬ nI k < 0 := nI_pos (by omega)
  have c2 : ¬ (10 : Int32) ≤ nI k := nI_ge (b := 10) hk (by decide)
  have hin : zi_in (nI k) 10 = true := zm_in hk (by decide)
  have hcl : (nI k).toNatClampNeg = k := nI_clamp (by omega)
  simp [zg_0, zg_aload_n, zg_bipush, zg_getfield, zg_goto, zg_iaload, zg_iconst, zg_ifCond, zg_if_icmp, zg_iload_n, zg_ireturn, zf_X3_leafOf, zi_ld, zi_lda, zi_cmp, zi_retOk, zi_isI, zi_f3, zi_cr, zi_ci, zi_cn, zi_get, zt_g h, h10, c1, c2, zm_iald (k := 0) h.2.2.1 hin, hcl]
set_option maxRecDepth 100000 in
theorem ze_Tree_leafOf_out (D : Nat) (h : zt_at T) {x : Int32} (hx : x < 0) : ze_E (D + 1) A_Tree_leafOf [.ref (T + 1), .int x] (zm_mk μ) (some (.int (-1))) (zm_mk μ) := by
  refine ze_in [(0, .ref (T + 1)), (1, .int x)] zq_Tree_leafOf (Nat.le_of_ble_eq_true rfl) rfl ⟨0, 16, fun F n hF => ?_⟩
  simp [zg_0, zg_aload_n, zg_bipush, zg_getfield, zg_goto, zg_iaload, zg_iconst, zg_ifCond, zg_if_icmp, zg_iload_n, zg_ireturn, zf_X3_leafOf, zi_ld, zi_lda, zi_cmp, zi_retOk, zi_isI, zi_f3, zi_cr, zi_ci, zi_cn, zi_get, zt_g h, hx]
set_option maxRecDepth 100000 in
theorem ze_Tree_leaves (D : Nat) (h : zt_at T) : ze_E (D + 1) A_Tree_leaves [.ref (T + 1)] (zm_mk μ) (some (.int ((μ T 12 + 1) / 2))) (zm_mk μ) := by
  refine ze_in [(0, .ref (T + 1))] zq_Tree_leaves (Nat.le_of_ble_eq_true rfl) rfl ⟨0, 10, fun F n hF => ?_⟩
  simp [zg_0, zg_aload_n, zg_getfield, zg_iadd, zg_iconst, zg_idiv, zg_ireturn, zf_X3_leaves, zi_ld, zi_lda, zi_cmp, zi_retOk, zi_isI, zi_f3, zi_cr, zi_ci, zi_cn, zi_get, zt_g h]
set_option maxRecDepth 100000 in
theorem ze_Tree_cuts (D : Nat) (h : zt_at T) : ze_E (D + 1) A_Tree_cuts [.ref (T + 1)] (zm_mk μ) (some (.int (μ T 12 / 2))) (zm_mk μ) := by
  refine ze_in [(0, .ref (T + 1))] zq_Tree_cuts (Nat.le_of_ble_eq_true rfl) rfl ⟨0, 10, fun F n hF => ?_⟩
  simp [zg_0, zg_aload_n, zg_getfield, zg_iconst, zg_idiv, zg_ireturn, zf_X3_cuts, zi_ld, zi_lda, zi_cmp, zi_retOk, zi_isI, zi_f3, zi_cr, zi_ci, zi_cn, zi_get, zt_g h]
set_option maxRecDepth 100000 in
theorem ze_Tree_shownIn (D : Nat) (h : zt_at T) {x : Int32} (hx : zi_in x 19 = true) : ze_E (D + 1) A_Tree_shownIn [.ref (T + 1), .int x] (zm_mk μ) (some (.int (μ (T + 12) x.toNatClampNeg))) (zm_mk μ) := by
  refine ze_in [(0, .ref (T + 1)), (1, .int x)] zq_Tree_shownIn (Nat.le_of_ble_eq_true rfl) rfl ⟨0, 10, fun F n hF => ?_⟩
  simp [zg_0, zg_aload_n, zg_getfield, zg_iaload, zg_iload_n, zg_ireturn, zf_X3_shownIn, zi_ld, zi_lda, zi_cmp, zi_retOk, zi_isI, zi_f3, zi_cr, zi_ci, zi_cn, zi_get, zt_g h, zm_iald (k := 0) h.2.2.2.2.1.2.2.2.2.2.1 hx]
set_option maxRecDepth 100000 in
theorem ze_Tree_changeShare (D : Nat) (h : zt_at T) {x : Int32} (hx : zi_in x 19 = true) (v : Int32) : ze_E (D + 1) A_Tree_changeShare [.ref (T + 1), .int x, .int v] (zm_mk μ) (some (.int (μ (T + 8) x.toNatClampNeg))) (zm_mk (zm_up μ (T + 8) x.toNatClampNeg v)) := by
  refine ze_in [(0, .ref (T + 1)), (1, .int x), (2, .int v)] zq_Tree_changeShare (Nat.le_of_ble_eq_true rfl) rfl ⟨0, 14, fun F n hF => ?_⟩
  simp [zg_0, zg_aload_n, zg_getfield, zg_iaload, zg_iastore, zg_iload_n, zg_ireturn, zg_istore_n, zf_X3_changeShare, zi_ld, zi_lda, zi_cmp, zi_retOk, zi_isI, zi_f3, zi_cr, zi_ci, zi_cn, zi_get, zi_set, zt_g h, zm_iald (k := 0) h.2.2.2.2.1.2.1 hx, zm_iast h.2.2.2.2.1.2.1 hx]
set_option maxRecDepth 100000 in
theorem ze_Tree_leastOf (D : Nat) (h : zt_at T) {a : Nat} (ha : a < 2) (hr : μ T 9 < 0 ∨ zi_in (μ T 9) 19 = true) : ze_E (D + 1) A_Tree_leastOf [.ref (T + 1), .int (nI a)] (zm_mk μ) (some (.int (if μ T 9 < 0 then 0 else μ (T + 16 + a) (μ T 9).toNatClampNeg))) (zm_mk μ) := by
  refine ze_in [(0, .ref (T + 1)), (1, .int (nI a))] zq_Tree_leastOf (Nat.le_of_ble_eq_true rfl) rfl ⟨0, 16, fun F n hF => ?_⟩
  have n0 : nI 0 = 0 := nI_0
  have n1 : nI 1 = 1 := by decide
  by_cases c : μ T 9 < 0
  · have c' : ¬ (0 : Int32) ≤ μ T 9 := Int32.not_le.mpr c
    simp [zg_0, zg_aaload, zg_aload_n, zg_getfield, zg_goto, zg_iaload, zg_iconst, zg_ifCond, zg_iload_n, zg_ireturn, zf_X3_leastOf, zi_ld, zi_lda, zi_cmp, zi_retOk, zi_isI, zi_f3, zi_cr, zi_ci, zi_cn, zi_get, zt_g h, c, c']
  · have c' : (0 : Int32) ≤ μ T 9 := Int32.not_lt.mp c
    have hin : zi_in (μ T 9) 19 = true := hr.resolve_left c
    match a, ha with
    | 0, _ => simp [zg_0, zg_aaload, zg_aload_n, zg_getfield, zg_goto, zg_iaload, zg_iconst, zg_ifCond, zg_iload_n, zg_ireturn, zf_X3_leastOf, zi_ld, zi_lda, zi_cmp, zi_retOk, zi_isI, zi_f3, zi_cr, zi_ci, zi_cn, zi_get, zt_g h, c, c', n0, zm_ax0 h.2.2.2.2.2.1.1, zm_iald (k := 0) h.2.2.2.2.2.1.2.1 hin]
    | 1, _ => simp [zg_0, zg_aaload, zg_aload_n, zg_getfield, zg_goto, zg_iaload, zg_iconst, zg_ifCond, zg_iload_n, zg_ireturn, zf_X3_leastOf, zi_ld, zi_lda, zi_cmp, zi_retOk, zi_isI, zi_f3, zi_cr, zi_ci, zi_cn, zi_get, zt_g h, c, c', n1, zm_ax1 h.2.2.2.2.2.1.1, zm_iald (k := 0) h.2.2.2.2.2.1.2.2 hin]
end ZT1
