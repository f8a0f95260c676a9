/-! Row: window numbers in an order -/
/-- a Row at cell r: its ints at r + 1 -/
def zr_at (r : Nat) : Prop := zh_2[r]? = some (1, [.ref (r + 2), .int 0]) ∧ zm_isA 7 (r + 1) 10
def zr_cells : List Nat := [3, 5, 34, 8, 69, 94, 124, 149, 179, 204]
theorem zr_at_of : ∀ r ∈ zr_cells, zr_at r := by
  intro r hr
  simp only [zr_cells, List.mem_cons, List.not_mem_nil, or_false] at hr
  rcases hr with rfl | rfl | rfl | rfl | rfl | rfl | rfl | rfl | rfl | rfl <;> exact ⟨by decide +kernel, zm_isA_of (by decide +kernel)⟩
section ZR
variable {μ : zm_M} {r : Nat}
theorem zr_g0 (h : zr_at r) : zi_gf (zm_mk μ) 1 0 r = some (.ref (r + 1 + 1)) := zm_gfr h.1 (by decide) rfl
theorem zr_g1 (h : zr_at r) : zi_gf (zm_mk μ) 1 1 r = some (.int (μ r 1)) := zm_gfi h.1 (by decide) rfl
theorem zr_p1 (h : zr_at r) (x : Int32) : zi_pf (zm_mk μ) 1 1 r (.int x) = some (zm_mk (zm_up μ r 1 x)) := zm_pfi h.1 (by decide) rfl rfl
set_option maxRecDepth 100000 in
/-- size() -/
theorem ze_Row_size (D : Nat) (h : zr_at r) : ze_E (D + 1) A_Row_size [.ref (r + 1)] (zm_mk μ) (some (.int (μ r 1))) (zm_mk μ) := by
  refine ze_enter (nL := 1) (ret := some .int) (code0 := zc_X1_size) rfl (Nat.le_of_ble_eq_true rfl) ⟨0, 10, fun F n _ => ?_⟩
  simp [zg_0, zg_aload_n, zg_getfield, zg_ireturn, zf_X1_size, zi_lda, zi_get, lv_args, Value.category, zr_g1 h, zi_retOk, zi_isI]
set_option maxRecDepth 100000 in
/-- get(i) -/
theorem ze_Row_get (D : Nat) (i : Int32) (h : zr_at r) (hs : μ r 1 ≤ 10) : ze_E (D + 1) A_Row_get [.ref (r + 1), .int i] (zm_mk μ) (some (.int (if 0 ≤ i ∧ i < μ r 1 then μ (r + 1) i.toNatClampNeg else -1))) (zm_mk μ) := by
  refine ze_enter (nL := 2) (ret := some .int) (code0 := zc_X1_get) rfl (Nat.le_of_ble_eq_true rfl) ⟨0, 20, fun F n _ => ?_⟩
  by_cases h1 : i < 0
  · have h2 : ¬ (0 : Int32) ≤ i := Int32.not_le.mpr h1
    simp [zg_0, zg_aload_n, zg_getfield, zg_goto, zg_iaload, zg_iconst, zg_ifCond, zg_if_icmp, zg_iload_n, zg_ireturn, zf_X1_get, zi_ld, zi_lda, zi_get, lv_args, Value.category, zr_g0 h, zr_g1 h, zi_retOk, zi_isI, zi_cmp, h1, h2]
  · have h2 : (0 : Int32) ≤ i := Int32.not_lt.mp h1
    by_cases h3 : μ r 1 ≤ i
    · have h4 : ¬ i < μ r 1 := Int32.not_lt.mpr h3
      simp [zg_0, zg_aload_n, zg_getfield, zg_goto, zg_iaload, zg_iconst, zg_ifCond, zg_if_icmp, zg_iload_n, zg_ireturn, zf_X1_get, zi_ld, zi_lda, zi_get, lv_args, Value.category, zr_g0 h, zr_g1 h, zi_retOk, zi_isI, zi_cmp, h1, h2, h3, h4]
    · have h4 : i < μ r 1 := Int32.not_le.mp h3
      have h5 : zi_in i 10 = true := by
        unfold zi_in
        refine decide_eq_true ?_
        have := vp_in_iff (x := i) (n := 10)
        refine this.mpr ?_
        rw [Int32.le_iff_toInt_le] at h2 hs
        rw [Int32.lt_iff_toInt_lt] at h4
        have e0 : (0 : Int32).toInt = 0 := by decide
        have e10 : (10 : Int32).toInt = 10 := by decide
        omega
      simp [zg_0, zg_aload_n, zg_getfield, zg_goto, zg_iaload, zg_iconst, zg_ifCond, zg_if_icmp, zg_iload_n, zg_ireturn, zf_X1_get, zi_ld, zi_lda, zi_get, lv_args, Value.category, zr_g0 h, zr_g1 h, zi_retOk, zi_isI, zi_cmp, h1, h2, h3, h4, zm_iald (k := 0) h.2 h5]
end ZR
/-- a Row's list -/
def zr_L (μ : zm_M) (r : Nat) (l : List Nat) : Prop := l.length ≤ 10 ∧ μ r 1 = nI l.length ∧ ∀ j, j < l.length → μ (r + 1) j = nI (l.getD j 0)
/-- all other cells stay -/
def zr_fr (r : Nat) (μ μ' : zm_M) : Prop := ∀ a b, a ≠ r → a ≠ r + 1 → μ' a b = μ a b
theorem zr_fr.refl {r : Nat} {μ : zm_M} : zr_fr r μ μ := fun _ _ _ _ => rfl
theorem zr_fr.trans {r : Nat} {μ ν ξ : zm_M} (h : zr_fr r μ ν) (g : zr_fr r ν ξ) : zr_fr r μ ξ := fun a b h1 h2 => (g a b h1 h2).trans (h a b h1 h2)
/-- the place of k, from i on -/
def zr_ix : List Nat → Nat → Nat → Int32
  | [], _, _ => -1
  | x :: xs, k, i => if x = k then nI i else zr_ix xs k (i + 1)
theorem zr_ix_in {k : Nat} : ∀ {l : List Nat} {i : Nat}, k ∈ l → zr_ix l k i = nI (i + l.idxOf k)
  | [], _, h => by cases h
  | x :: xs, i, h => by
    unfold zr_ix
    by_cases e : x = k
    · subst e
      simp
    · rw [if_neg e, zr_ix_in (by rcases List.mem_cons.mp h with h | h; exact absurd h.symm e; exact h), List.idxOf_cons, show (x == k) = false from by simpa using e]
      dsimp only [cond_false]
      congr 1
      omega
theorem zr_ix_out {k : Nat} : ∀ {l : List Nat} {i : Nat}, k ∉ l → zr_ix l k i = -1
  | [], _, _ => rfl
  | x :: xs, i, h => by
    unfold zr_ix
    rw [if_neg (fun e => h (by rw [e]; exact List.mem_cons_self)), zr_ix_out (fun g => h (List.mem_cons_of_mem _ g))]
section ZR2
variable {μ : zm_M} {r : Nat} {l : List Nat}
set_option maxRecDepth 100000 in
theorem zr_placeOf_loop (D : Nat) (h : zr_at r) (hl : zr_L μ r l) (hb : ∀ x ∈ l, x < 10) {k : Nat} (hk : k < 10) :
    ∀ (m i : Nat) (L : zi_Lc), i + m = l.length → zi_get L 0 = some (.ref (r + 1)) → zi_get L 1 = some (.int (nI k)) → zi_get L 2 = some (.int (nI i)) →
      ze_G D 3 (some .int) zc_X1_placeOf 2 L [] (zm_mk μ) (some (.int (zr_ix (l.drop i) k i))) (zm_mk μ) := by
  intro m
  induction m with
  | zero =>
    intro i L him g0 g1 g2
    have e : i = l.length := by omega
    subst e
    rw [List.drop_length]
    refine ⟨0, 10, fun F n _ => ?_⟩
    simp [zg_0, zg_aload_n, zg_getfield, zg_goto, zg_iaload, zg_iconst, zg_if_icmp, zg_iinc, zg_iload_n, zg_ireturn, zg_istore_n, zf_X1_placeOf, zi_ld, zi_lda, g0, g1, g2, zr_g1 h, hl.2.1, zi_cmp, zi_retOk, zi_isI, zr_ix]
  | succ m ih =>
    intro i L him g0 g1 g2
    have hi : i < l.length := by omega
    have hn : ¬ nI l.length ≤ nI i := nI_ge hi (by have := hl.1; omega)
    have hin : zi_in (nI i) 10 = true := zm_in (by have := hl.1; omega) (by decide)
    have hit : μ (r + 1) (nI i).toNatClampNeg = nI (l.getD i 0) := by rw [nI_clamp (by have := hl.1; omega)]; exact hl.2.2 i hi
    have hdr : l.drop i = l.getD i 0 :: l.drop (i + 1) := by
      rw [List.drop_eq_getElem_cons hi, List.getD_eq_getElem?_getD, List.getElem?_eq_getElem hi]
      rfl
    have hx : l.getD i 0 < 10 := hb _ (by rw [List.getD_eq_getElem?_getD, List.getElem?_eq_getElem hi]; exact List.getElem_mem hi)
    rw [hdr]
    generalize l.getD i 0 = x at hit hx ⊢
    unfold zr_ix
    by_cases e : x = k
    · rw [if_pos e]
      refine ⟨0, 20, fun F n _ => ?_⟩
      simp [zg_0, zg_aload_n, zg_getfield, zg_goto, zg_iaload, zg_iconst, zg_if_icmp, zg_iinc, zg_iload_n, zg_ireturn, zg_istore_n, zf_X1_placeOf, zi_ld, zi_lda, g0, g1, g2, zr_g0 h, zr_g1 h, hl.2.1, zi_cmp, zi_retOk, zi_isI, hn, zm_iald (k := 0) h.2 hin, hit, e]
    · rw [if_neg e]
      have ne : ¬ nI x = nI k := fun q => e ((nI_eq (by omega) (by omega)).mp q)
      have e1 : nI i + Int32.ofInt 1 = nI (i + 1) := nI_1 i
      refine ze_S.end (p2 := 2) (L2 := zi_set L 2 (.int (nI (i + 1)))) (s2 := []) (h2 := zm_mk μ) ⟨0, 12, fun F n _ => ?_⟩ (ih (i + 1) _ (by omega) (zi_get_set_ne (by decide) g0 rfl) (zi_get_set_ne (by decide) g1 rfl) zi_get_set_eq)
      simp [zg_0, zg_aload_n, zg_getfield, zg_goto, zg_iaload, zg_iconst, zg_if_icmp, zg_iinc, zg_iload_n, zg_ireturn, zg_istore_n, zf_X1_placeOf, zi_ld, zi_lda, g0, g1, g2, zr_g0 h, zr_g1 h, hl.2.1, zi_cmp, zi_retOk, zi_isI, hn, zm_iald (k := 0) h.2 hin, hit, ne, nI_1]
set_option maxRecDepth 100000 in
/-- placeOf(k) -/
theorem ze_Row_placeOf (D : Nat) (h : zr_at r) (hl : zr_L μ r l) (hb : ∀ x ∈ l, x < 10) {k : Nat} (hk : k < 10) : ze_E (D + 1) A_Row_placeOf [.ref (r + 1), .int (nI k)] (zm_mk μ) (some (.int (zr_ix l k 0))) (zm_mk μ) := by
  refine ze_enter (nL := 3) (ret := some .int) (code0 := zc_X1_placeOf) zq_Row_placeOf (Nat.le_of_ble_eq_true rfl) ?_
  refine ze_S.end (p2 := 2) (L2 := [(2, .int (nI 0)), (0, .ref (r + 1)), (1, .int (nI k))]) (s2 := []) (h2 := zm_mk μ) ⟨0, 2, fun F n _ => ?_⟩ (zr_placeOf_loop D h hl hb hk l.length 0 _ (by omega) rfl rfl rfl)
  simp [zg_0, zg_aload_n, zg_getfield, zg_goto, zg_iaload, zg_iconst, zg_if_icmp, zg_iinc, zg_iload_n, zg_ireturn, zg_istore_n, zf_X1_placeOf, lv_args, Value.category, zi_isI, zi_set, nI_0]
end ZR2
