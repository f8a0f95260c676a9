/-! the desk: a window tiled -/
section ZT1
variable {μ : zm_M} {R : List Nat} {t : zy_F}
/-- the least size of a Tree along the axis a -/
def zt_lsz (μ : zm_M) (T a : Nat) (R : List Nat) (t : zy_F) : Int32 := zy_ls a (μ (T + 7)) (zt_lf (μ (T + 5 + a)) (μ (T + 3)) R) t
theorem zt_ls_C {T a : Nat} (hC : zt_C μ T R t) (ha : a < 2) : zt_ls μ T a = zt_lsz μ T a R t := by
  obtain ⟨⟨-, ⟨k4, k5, k6, -⟩, -⟩, -, hl⟩ := hC
  unfold zt_ls zt_lsz
  rcases k4 with ⟨rfl, e⟩ | ⟨wt, ok, e⟩
  · rw [if_pos (by rw [e]; decide)]
    rfl
  · have := k6 _ (zy_id_mem wt)
    rw [if_neg (by rw [e]; exact nI_pos (by omega)), e, nI_clamp (by omega)]
    exact zy_lso_id t wt (hl a ha)
theorem zt_root_in {T : Nat} (hI : zt_I μ T R t) : μ T 9 < 0 ∨ zi_in (μ T 9) 19 = true := by
  obtain ⟨-, ⟨k4, k5, k6, -⟩, -⟩ := hI
  rcases k4 with ⟨rfl, e⟩ | ⟨wt, ok, e⟩
  · exact Or.inl (by rw [e]; decide)
  · exact Or.inr (by rw [e]; exact zm_in (k6 _ (zy_id_mem wt)) (by decide))
def zt_fit (μ : zm_M) (T z : Nat) (R : List Nat) (t : zy_F) : Bool := decide (zt_lsz μ T 0 R t ≤ μ z 0 ∧ zt_lsz μ T 1 R t ≤ μ z 1)
theorem ze_fitsC (D : Nat) {T z : Nat} (h : zt_at T) (hC : zt_C μ T R t) (hz : zm_isA 7 z 2) : ze_E (D + 2) A_Tree_fits [.ref (T + 1), .ref (z + 1)] (zm_mk μ) (some (.int (if zt_fit μ T z R t = true then 1 else 0))) (zm_mk μ) := by
  have := ze_Tree_fits (μ := μ) D h (zt_root_in hC.1) hz
  rw [zt_ls_C hC (by decide), zt_ls_C hC (by decide), zb_dec] at this
  exact this
/-- the Tree at T is that at Q with the leaf n cut, for the window k -/
def zt_isCut (μ : zm_M) (Q : Nat) (R : List Nat) (t : zy_F) (n k a : Nat) (nf : Bool) (x y : Int32) (ν : zm_M) (T c f : Nat) : Prop :=
  zt_C ν T (R ++ [k]) (zy_sub n (.append (.tag c (.tag (if nf then f else n) .nil)) (.tag (if nf then n else f) .nil)) t) ∧ (c < 19 ∧ f < 19 ∧ c ∉ zy_ids t ∧ f ∉ zy_ids t ∧ c ≠ f) ∧
      (∀ v, ν (T + 3) v = if v = k then nI f else μ (Q + 3) v) ∧ (∀ v, ν (T + 5) v = if v = k then x else μ (Q + 5) v) ∧ (∀ v, ν (T + 6) v = if v = k then y else μ (Q + 6) v) ∧ (∀ i, ν (T + 7) i = if i = f then 2 else if i = c then nI a else μ (Q + 7) i) ∧ (∀ i, ν (T + 8) i = if i = c then 50 else μ (Q + 8) i) ∧ (∀ i, ν (T + 12) i = if i = f then nI k else μ (Q + 12) i)
/-- with a tab more -/
def zt_isTab (μ : zm_M) (Q : Nat) (R : List Nat) (t : zy_F) (n k : Nat) (x y : Int32) (ν : zm_M) (T : Nat) : Prop :=
  zt_C ν T (R ++ [k]) t ∧ (∀ v, ν (T + 3) v = if v = k then nI n else μ (Q + 3) v) ∧ (∀ v, ν (T + 5) v = if v = k then x else μ (Q + 5) v) ∧ (∀ v, ν (T + 6) v = if v = k then y else μ (Q + 6) v) ∧ ν (T + 7) = μ (Q + 7) ∧ ν (T + 8) = μ (Q + 8) ∧ ν (T + 12) = μ (Q + 12)
/-- with its first leaf -/
def zt_isNew (μ : zm_M) (Q k : Nat) (x y : Int32) (ν : zm_M) (T n : Nat) : Prop :=
  zt_C ν T [k] (.tag n .nil) ∧ n < 19 ∧ (∀ v, ν (T + 3) v = if v = k then nI n else μ (Q + 3) v) ∧ (∀ v, ν (T + 5) v = if v = k then x else μ (Q + 5) v) ∧ (∀ v, ν (T + 6) v = if v = k then y else μ (Q + 6) v) ∧ (∀ i, ν (T + 7) i = if i = n then 2 else μ (Q + 7) i) ∧ ν (T + 8) = μ (Q + 8) ∧ (∀ i, ν (T + 12) i = if i = n then nI k else μ (Q + 12) i)
/-- the Tree at V in ξ is a copy of that at T in ν -/
def zt_isCopy (ν : zm_M) (T : Nat) (ξ : zm_M) (V : Nat) : Prop := ξ (V + 3) = ν (T + 3) ∧ ξ (V + 5) = ν (T + 5) ∧ ξ (V + 6) = ν (T + 6) ∧ ξ (V + 7) = ν (T + 7) ∧ ξ (V + 8) = ν (T + 8) ∧ ξ (V + 12) = ν (T + 12)
theorem zt_lsz_copy {ν ξ : zm_M} {T V a : Nat} (h : zt_isCopy ν T ξ V) (ha : a < 2) : zt_lsz ξ V a R t = zt_lsz ν T a R t := by
  obtain ⟨c3, c5, c6, c7, -, -⟩ := h
  unfold zt_lsz
  match a, ha with
  | 0, _ => rw [c7, c3, show V + 5 + 0 = V + 5 from rfl, show T + 5 + 0 = T + 5 from rfl, c5]
  | 1, _ => rw [c7, c3, show V + 5 + 1 = V + 6 from rfl, show T + 5 + 1 = T + 6 from rfl, c6]
set_option maxRecDepth 100000 in
theorem ze_tryCut_no (D : Nat) {k s : Nat} {z a : Int32} (hz : z < 0) : ze_E (D + 1) A_Desk_tryCut [.ref 1, .int (nI k), .ref (zdS s + 1), .int z, .int a] (zm_mk μ) (some (.int 0)) (zm_mk μ) := by
  have c : ¬ (0 : Int32) ≤ z := Int32.not_le.mpr hz
  refine ze_in [(0, .ref 1), (1, .int (nI k)), (2, .ref (zdS s + 1)), (3, .int z), (4, .int a)] zq_Desk_tryCut (Nat.le_of_ble_eq_true rfl) rfl ⟨0, 4, fun F m hF => ?_⟩
  simp [zg_0, zg_aaload, zg_aload, zg_aload_n, zg_astore, zg_getfield, zg_iaload, zg_iconst, zg_ifCond, zg_iload, zg_iload_n, zg_invokevirtual, zg_ireturn, zf_X5_tryCut, zi_ld, zi_lda, zi_cmp, zi_retOk, zi_isI, zi_f3, zi_cr, zi_ci, zi_cn, zi_get, zi_set, c]
set_option maxRecDepth 100000 in
theorem ze_tryCut (D : Nat) {k s n a : Nat} (hk : k < 10) (hs : s < 3) (hI : zt_I μ (zdT s) R t) (hn : n ∈ zy_lvs t) (hkR : k ∉ R) (ha : a < 2) :
    ∃ ν c f, ze_E (D + 5) A_Desk_tryCut [.ref 1, .int (nI k), .ref (zdS s + 1), .int (nI n), .int (nI a)] (zm_mk μ) (some (.int (if zt_fit ν 7 (zdZ s) (R ++ [k]) (zy_sub n (.append (.tag c (.tag n .nil)) (.tag f .nil)) t) = true then 1 else 0))) (zm_mk ν) ∧ zt_frT 7 μ ν ∧ zt_isCut μ (zdT s) R t n k a false (μ (zdW k + 1) 0) (μ (zdW k + 1) 1) ν 7 c f := by
  obtain ⟨ν1, ⟨N1, E1⟩, C1, f1, l3, l5, l6, l7, l8, l12⟩ := ze_Tree_copyFrom (μ := μ) D zd7_at (zdT_at hs) (by unfold zdT; omega) hI
  obtain ⟨ν, c, f, ⟨N2, E2⟩, C2, f2, hcf, t3, t5, t6, t7, t8, t12⟩ := ze_Tree_cutLeaf (μ := ν1) D zd7_at C1.1 hn hk hkR ha false (μ (zdW k + 1) 0) (μ (zdW k + 1) 1)
  have hn19 := hI.2.1.2.2.1 n (zt_I_lv hI hn).2
  have e1 : (if false = true then (1 : Int32) else 0) = 0 := rfl
  rw [e1] at E2
  have C2' : zt_C ν 7 (R ++ [k]) (zy_sub n (.append (.tag c (.tag n .nil)) (.tag f .nil)) t) := C2
  obtain ⟨N3, E3⟩ := ze_fitsC (μ := ν) (D + 2) zd7_at C2' (zdZ_A hs)
  refine ⟨ν, c, f, ?_, f1.trans f2, C2, hcf, fun v => by rw [t3, l3], fun v => by rw [t5, l5], fun v => by rw [t6, l6], fun v => by rw [t7, l7], fun v => by rw [t8, l8], fun v => by rw [t12, l12]⟩
  have hb : (if zt_fit ν 7 (zdZ s) (R ++ [k]) (zy_sub n (.append (.tag c (.tag n .nil)) (.tag f .nil)) t) = true then (1 : Int32) else 0) = 0 ∨ (if zt_fit ν 7 (zdZ s) (R ++ [k]) (zy_sub n (.append (.tag c (.tag n .nil)) (.tag f .nil)) t) = true then (1 : Int32) else 0) = 1 := by split <;> simp
  generalize (if zt_fit ν 7 (zdZ s) (R ++ [k]) (zy_sub n (.append (.tag c (.tag n .nil)) (.tag f .nil)) t) = true then (1 : Int32) else 0) = b at E3 hb
  refine ze_in [(0, .ref 1), (1, .int (nI k)), (2, .ref (zdS s + 1)), (3, .int (nI n)), (4, .int (nI a))] zq_Desk_tryCut (Nat.le_of_ble_eq_true rfl) rfl ⟨N1 + N2 + N3, 32, fun F m hF => ?_⟩
  have c0 : (0 : Int32) ≤ nI n := nI_pos' (by omega)
  obtain ⟨q1, d1⟩ := zt_c (μ := μ) zd7_at
  obtain ⟨q2, d2⟩ := zt_c (μ := ν1) zd7_at
  obtain ⟨q3, d3⟩ := zt_c (μ := ν) zd7_at
  have w1 := (zdW_at hk).2.1
  have r1 : ν1 (zdW k + 1) = μ (zdW k + 1) := f1 _ (by unfold zt_out zdW; omega)
  simp [zg_0, zg_aaload, zg_aload, zg_aload_n, zg_astore, zg_getfield, zg_iaload, zg_iconst, zg_ifCond, zg_iload, zg_iload_n, zg_invokevirtual, zg_ireturn, zf_X5_tryCut, zi_ld, zi_lda, zi_cmp, zi_retOk, zi_isI, zi_f3, zi_cr, zi_ci, zi_cn, zi_get, zi_set, c0, zd_g, zd_w hk, zw_g (zdW_at hk), zdS_g hs, zq_Tree_copyFrom, d1, E1 F (by omega), zm_iald (k := 0) w1 zm_in0, zm_iald (k := 0) w1 zm_in1, zm_cl0, zm_cl1, r1, zq_Tree_cutLeaf, d2, E2 F (by omega), zq_Tree_fits, d3, E3 F (by omega)]
  rcases hb with e | e <;> simp [e]
set_option maxRecDepth 100000 in
theorem ze_tryTab (D : Nat) {k s n : Nat} (hk : k < 10) (hs : s < 3) (hI : zt_I μ (zdT s) R t) (hn : n ∈ zy_lvs t) (hkR : k ∉ R) :
    ∃ ν, ze_E (D + 5) A_Desk_tryTab [.ref 1, .int (nI k), .ref (zdS s + 1), .int (nI n)] (zm_mk μ) (some (.int (if zt_fit ν 7 (zdZ s) (R ++ [k]) t = true then 1 else 0))) (zm_mk ν) ∧ zt_frT 7 μ ν ∧ zt_isTab μ (zdT s) R t n k (μ (zdW k + 1) 0) (μ (zdW k + 1) 1) ν 7 := by
  obtain ⟨ν1, ⟨N1, E1⟩, C1, f1, l3, l5, l6, l7, l8, l12⟩ := ze_Tree_copyFrom (μ := μ) D zd7_at (zdT_at hs) (by unfold zdT; omega) hI
  obtain ⟨ν, ⟨N2, E2⟩, C2, f2, t3, t5, t6, t7, t8, t12⟩ := ze_Tree_addTab (μ := ν1) D zd7_at C1.1 hn hk hkR (μ (zdW k + 1) 0) (μ (zdW k + 1) 1)
  obtain ⟨N3, E3⟩ := ze_fitsC (μ := ν) (D + 2) zd7_at C2 (zdZ_A hs)
  refine ⟨ν, ?_, f1.trans f2, C2, fun v => by rw [t3, l3], fun v => by rw [t5, l5], fun v => by rw [t6, l6], by rw [t7, l7], by rw [t8, l8], by rw [t12, l12]⟩
  have hb : (if zt_fit ν 7 (zdZ s) (R ++ [k]) t = true then (1 : Int32) else 0) = 0 ∨ (if zt_fit ν 7 (zdZ s) (R ++ [k]) t = true then (1 : Int32) else 0) = 1 := by split <;> simp
  generalize (if zt_fit ν 7 (zdZ s) (R ++ [k]) t = true then (1 : Int32) else 0) = b at E3 hb
  refine ze_in [(0, .ref 1), (1, .int (nI k)), (2, .ref (zdS s + 1)), (3, .int (nI n))] zq_Desk_tryTab (Nat.le_of_ble_eq_true rfl) rfl ⟨N1 + N2 + N3, 28, fun F m hF => ?_⟩
  obtain ⟨q1, d1⟩ := zt_c (μ := μ) zd7_at
  obtain ⟨q2, d2⟩ := zt_c (μ := ν1) zd7_at
  obtain ⟨q3, d3⟩ := zt_c (μ := ν) zd7_at
  have w1 := (zdW_at hk).2.1
  have r1 : ν1 (zdW k + 1) = μ (zdW k + 1) := f1 _ (by unfold zt_out zdW; omega)
  simp [zg_0, zg_aaload, zg_aload, zg_aload_n, zg_astore, zg_getfield, zg_iaload, zg_iconst, zg_iload_n, zg_invokevirtual, zg_ireturn, zf_X5_tryTab, zi_ld, zi_lda, zi_cmp, zi_retOk, zi_isI, zi_f3, zi_cr, zi_ci, zi_cn, zi_get, zi_set, zd_g, zd_w hk, zw_g (zdW_at hk), zdS_g hs, zq_Tree_copyFrom, d1, E1 F (by omega), zm_iald (k := 0) w1 zm_in0, zm_iald (k := 0) w1 zm_in1, zm_cl0, zm_cl1, r1, zq_Tree_addTab, d2, E2 F (by omega), zq_Tree_fits, d3, E3 F (by omega)]
  rcases hb with e | e <;> simp [e]
set_option maxRecDepth 100000 in
theorem ze_tryTab_0 (D : Nat) {k s : Nat} (hk : k < 10) (hs : s < 3) (hI : zt_I μ (zdT s) [] .nil) :
    ∃ ν n, ze_E (D + 5) A_Desk_tryTab [.ref 1, .int (nI k), .ref (zdS s + 1), .int (-1)] (zm_mk μ) (some (.int (if zt_fit ν 7 (zdZ s) [k] (.tag n .nil) = true then 1 else 0))) (zm_mk ν) ∧ zt_frT 7 μ ν ∧ zt_isNew μ (zdT s) k (μ (zdW k + 1) 0) (μ (zdW k + 1) 1) ν 7 n := by
  obtain ⟨ν1, ⟨N1, E1⟩, C1, f1, l3, l5, l6, l7, l8, l12⟩ := ze_Tree_copyFrom (μ := μ) D zd7_at (zdT_at hs) (by unfold zdT; omega) hI
  obtain ⟨ν, n, ⟨N2, E2⟩, C2, f2, hn, t3, t5, t6, t7, t8, t12⟩ := ze_Tree_addTab_0 (μ := ν1) D zd7_at C1.1 hk (z := -1) (by decide) (μ (zdW k + 1) 0) (μ (zdW k + 1) 1)
  obtain ⟨N3, E3⟩ := ze_fitsC (μ := ν) (D + 2) zd7_at C2 (zdZ_A hs)
  refine ⟨ν, n, ?_, f1.trans f2, C2, hn, fun v => by rw [t3, l3], fun v => by rw [t5, l5], fun v => by rw [t6, l6], fun v => by rw [t7, l7], by rw [t8, l8], fun v => by rw [t12, l12]⟩
  have hb : (if zt_fit ν 7 (zdZ s) [k] (.tag n .nil) = true then (1 : Int32) else 0) = 0 ∨ (if zt_fit ν 7 (zdZ s) [k] (.tag n .nil) = true then (1 : Int32) else 0) = 1 := by split <;> simp
  generalize (if zt_fit ν 7 (zdZ s) [k] (.tag n .nil) = true then (1 : Int32) else 0) = b at E3 hb
  refine ze_in [(0, .ref 1), (1, .int (nI k)), (2, .ref (zdS s + 1)), (3, .int (-1))] zq_Desk_tryTab (Nat.le_of_ble_eq_true rfl) rfl ⟨N1 + N2 + N3, 28, fun F m hF => ?_⟩
  obtain ⟨q1, d1⟩ := zt_c (μ := μ) zd7_at
  obtain ⟨q2, d2⟩ := zt_c (μ := ν1) zd7_at
  obtain ⟨q3, d3⟩ := zt_c (μ := ν) zd7_at
  have w1 := (zdW_at hk).2.1
  have r1 : ν1 (zdW k + 1) = μ (zdW k + 1) := f1 _ (by unfold zt_out zdW; omega)
  simp [zg_0, zg_aaload, zg_aload, zg_aload_n, zg_astore, zg_getfield, zg_iaload, zg_iconst, zg_iload_n, zg_invokevirtual, zg_ireturn, zf_X5_tryTab, zi_ld, zi_lda, zi_cmp, zi_retOk, zi_isI, zi_f3, zi_cr, zi_ci, zi_cn, zi_get, zi_set, zd_g, zd_w hk, zw_g (zdW_at hk), zdS_g hs, zq_Tree_copyFrom, d1, E1 F (by omega), zm_iald (k := 0) w1 zm_in0, zm_iald (k := 0) w1 zm_in1, zm_cl0, zm_cl1, r1, zq_Tree_addTab, d2, E2 F (by omega), zq_Tree_fits, d3, E3 F (by omega)]
  rcases hb with e | e <;> simp [e]
end ZT1
