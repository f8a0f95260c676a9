/-! Row: its changes -/
section ZR3
variable {μ : zm_M} {r : Nat} {l : List Nat}
theorem zr_c (h : zr_at r) : (zm_mk μ)[r]? = some (1, [.ref (r + 2), .int (μ r 1)]) := zm_get h.1
/-- the ints of the row from p to i moved down by one -/
def zr_sh (μ : zm_M) (r p i : Nat) : zm_M := fun a b => if a = r + 1 ∧ p ≤ b ∧ b < i then μ a (b + 1) else μ a b
theorem zr_sh_0 {p : Nat} : zr_sh μ r p p = μ := by
  funext a b
  unfold zr_sh
  rw [if_neg (by omega)]
theorem zr_sh_s {p i : Nat} (hp : p ≤ i) : zm_up (zr_sh μ r p i) (r + 1) i (μ (r + 1) (i + 1)) = zr_sh μ r p (i + 1) := by
  funext a b
  unfold zm_up zr_sh
  by_cases e : a = r + 1 ∧ b = i
  · obtain ⟨rfl, rfl⟩ := e
    rw [if_pos ⟨rfl, rfl⟩, if_pos ⟨rfl, hp, by omega⟩]
  · rw [if_neg e]
    by_cases e2 : a = r + 1 ∧ p ≤ b ∧ b < i
    · rw [if_pos e2, if_pos ⟨e2.1, e2.2.1, by omega⟩]
    · rw [if_neg e2, if_neg (by omega)]
set_option maxRecDepth 100000 in
theorem zr_takeOut_loop (D : Nat) (h : zr_at r) {p n0 : Nat} (hn : n0 < 10) (hs : μ r 1 = nI n0) :
    ∀ (m i : Nat) (L : zi_Lc), i + m = n0 → p ≤ i → zi_get L 0 = some (.ref (r + 1)) → zi_get L 3 = some (.int (nI i)) →
      ze_G D 4 none zc_X1_takeOut 23 L [] (zm_mk (zr_sh μ r p i)) none (zm_mk (zr_sh μ r p n0)) := by
  intro m
  induction m with
  | zero =>
    intro i L him hp g0 g3
    have e : i = n0 := by omega
    subst e
    have hs' : zr_sh μ r p i r 1 = nI i := by
      unfold zr_sh
      rw [if_neg (by omega)]
      exact hs
    refine ⟨0, 10, fun F n _ => ?_⟩
    simp [zg_0, zg_aload_n, zg_dup, zg_getfield, zg_goto, zg_iadd, zg_iaload, zg_iastore, zg_iconst, zg_ifCond, zg_if_icmp, zg_iinc, zg_iload_n, zg_invokevirtual, zg_istore_n, zg_isub, zg_putfield, zg_return, zf_X1_takeOut, zi_ld, zi_lda, zi_cmp, zi_retOk, zi_isI, zi_f3, zi_cr, zi_ci, zi_cn, g0, g3, zr_g1 h, hs']
  | succ m ih =>
    intro i L him hp g0 g3
    have hs' : zr_sh μ r p i r 1 = nI n0 := by
      unfold zr_sh
      rw [if_neg (by omega)]
      exact hs
    have hc : ¬ nI n0 ≤ nI i := nI_ge (by omega) (by omega)
    have hin : zi_in (nI i) 10 = true := zm_in (by omega) (by decide)
    have hin1 : zi_in (nI (i + 1)) 10 = true := zm_in (by omega) (by decide)
    have ev : zr_sh μ r p i (r + 1) (nI (i + 1)).toNatClampNeg = μ (r + 1) (i + 1) := by
      rw [nI_clamp (by omega)]
      unfold zr_sh
      rw [if_neg (by omega)]
    have eu : zm_up (zr_sh μ r p i) (r + 1) (nI i).toNatClampNeg (μ (r + 1) (i + 1)) = zr_sh μ r p (i + 1) := by
      rw [nI_clamp (by omega)]
      exact zr_sh_s hp
    refine ze_S.end (p2 := 23) (L2 := zi_set L 3 (.int (nI (i + 1)))) (s2 := []) (h2 := zm_mk (zr_sh μ r p (i + 1))) ⟨0, 16, fun F n _ => ?_⟩ (ih (i + 1) _ (by omega) (by omega) (zi_get_set_ne (by decide) g0 rfl) zi_get_set_eq)
    simp [zg_0, zg_aload_n, zg_dup, zg_getfield, zg_goto, zg_iadd, zg_iaload, zg_iastore, zg_iconst, zg_ifCond, zg_if_icmp, zg_iinc, zg_iload_n, zg_invokevirtual, zg_istore_n, zg_isub, zg_putfield, zg_return, zf_X1_takeOut, zi_ld, zi_lda, zi_cmp, zi_retOk, zi_isI, zi_f3, zi_cr, zi_ci, zi_cn, g0, g3, zr_g0 h, zr_g1 h, hs', hc, nI_1, zm_iald (k := 0) h.2 hin1, ev, zm_iast h.2 hin, eu]
theorem zr_erase {k : Nat} (hl : zr_L μ r l) (hk : k ∈ l) : zr_L (zr_sh (zm_up μ r 1 (nI (l.length - 1))) r (l.idxOf k) (l.length - 1)) r (l.erase k) := by
  have hlen : (l.erase k).length = l.length - 1 := List.length_erase_of_mem hk
  have hp : l.idxOf k < l.length := List.idxOf_lt_length_of_mem hk
  refine ⟨by rw [hlen]; have := hl.1; omega, ?_, fun j hj => ?_⟩
  · unfold zr_sh
    rw [if_neg (by omega), zm_up_eq, hlen]
  · rw [hlen] at hj
    have he : l.erase k = l.eraseIdx (l.idxOf k) := List.erase_eq_eraseIdx_of_idxOf rfl
    rw [he, List.getD_eq_getElem?_getD, List.getElem?_eraseIdx]
    unfold zr_sh
    by_cases c : j < l.idxOf k
    · rw [if_neg (by omega), if_pos c, zm_up_ne (by omega), ← List.getD_eq_getElem?_getD]
      exact hl.2.2 j (by omega)
    · rw [if_pos ⟨rfl, by omega, hj⟩, if_neg c, zm_up_ne (by omega), ← List.getD_eq_getElem?_getD]
      exact hl.2.2 (j + 1) (by omega)
set_option maxRecDepth 100000 in
/-- takeOut(k) -/
theorem ze_Row_takeOut (D : Nat) (h : zr_at r) (hl : zr_L μ r l) (hb : ∀ x ∈ l, x < 10) {k : Nat} (hk : k < 10) :
    ∃ μ', ze_E (D + 2) A_Row_takeOut [.ref (r + 1), .int (nI k)] (zm_mk μ) none (zm_mk μ') ∧ zr_L μ' r (l.erase k) ∧ zr_fr r μ μ' := by
  obtain ⟨N, hc⟩ := ze_Row_placeOf D h hl hb hk
  by_cases hm : k ∈ l
  · have hp : l.idxOf k < l.length := List.idxOf_lt_length_of_mem hm
    have h10 := hl.1
    rw [zr_ix_in hm, Nat.zero_add] at hc
    have hpos : (0 : Int32) ≤ nI (l.idxOf k) := nI_pos' (by omega)
    have hsub : nI l.length - 1 = nI (l.length - 1) := by
      obtain ⟨q, hq⟩ : ∃ q, l.length = q + 1 := ⟨l.length - 1, by omega⟩
      rw [hq]
      exact nI_pred q
    refine ⟨_, ?_, zr_erase hl hm, fun a b h1 h2 => ?_⟩
    · refine ze_in [(0, .ref (r + 1)), (1, .int (nI k))] zq_Row_takeOut (Nat.le_of_ble_eq_true rfl) rfl ?_
      have hloop := zr_takeOut_loop (D + 1) (μ := zm_up μ r 1 (nI (l.length - 1))) h (p := l.idxOf k) (n0 := l.length - 1) (by omega) zm_up_eq (l.length - 1 - l.idxOf k) (l.idxOf k) [(3, .int (nI (l.idxOf k))), (2, .int (nI (l.idxOf k))), (0, .ref (r + 1)), (1, .int (nI k))] (by omega) (Nat.le_refl _) rfl rfl
      rw [zr_sh_0] at hloop
      refine ze_S.end (p2 := 23) (L2 := _) (s2 := []) (h2 := _) ⟨N, 14, fun F n hF => ?_⟩ hloop
      simp [zg_0, zg_aload_n, zg_dup, zg_getfield, zg_goto, zg_iadd, zg_iaload, zg_iastore, zg_iconst, zg_ifCond, zg_if_icmp, zg_iinc, zg_iload_n, zg_invokevirtual, zg_istore_n, zg_isub, zg_putfield, zg_return, zf_X1_takeOut, zi_ld, zi_lda, zi_cmp, zi_retOk, zi_isI, zi_f3, zi_cr, zi_ci, zi_cn, zi_get, zi_set, zq_Row_placeOf, zr_c h, hc F hF, hpos, zr_g1 h, hl.2.1, hsub, zr_p1 h]
    · unfold zr_sh
      rw [if_neg (by omega), zm_up_ne (by omega)]
  · rw [zr_ix_out hm] at hc
    refine ⟨μ, ?_, by rw [List.erase_of_not_mem hm]; exact hl, zr_fr.refl⟩
    refine ze_in [(0, .ref (r + 1)), (1, .int (nI k))] zq_Row_takeOut (Nat.le_of_ble_eq_true rfl) rfl ⟨N, 10, fun F n hF => ?_⟩
    have hneg : ¬ (0 : Int32) ≤ -1 := by decide
    simp [zg_0, zg_aload_n, zg_dup, zg_getfield, zg_goto, zg_iadd, zg_iaload, zg_iastore, zg_iconst, zg_ifCond, zg_if_icmp, zg_iinc, zg_iload_n, zg_invokevirtual, zg_istore_n, zg_isub, zg_putfield, zg_return, zf_X1_takeOut, zi_ld, zi_lda, zi_cmp, zi_retOk, zi_isI, zi_f3, zi_cr, zi_ci, zi_cn, zi_get, zi_set, zq_Row_placeOf, zr_c h, hc F hF, hneg]
set_option maxRecDepth 100000 in
/-- clear() -/
theorem ze_Row_clear (D : Nat) (h : zr_at r) : ze_E (D + 1) A_Row_clear [.ref (r + 1)] (zm_mk μ) none (zm_mk (zm_up μ r 1 0)) := by
  refine ze_in [(0, .ref (r + 1))] zq_Row_clear (Nat.le_of_ble_eq_true rfl) rfl ⟨0, 10, fun F n hF => ?_⟩
  simp [zg_0, zg_aload_n, zg_iconst, zg_putfield, zg_return, zf_X1_clear, zi_ld, zi_lda, zi_cmp, zi_retOk, zi_isI, zi_f3, zi_cr, zi_ci, zi_cn, zi_get, zr_p1 h]
theorem zr_clear (h : zr_at r) : zr_L (zm_up μ r 1 0) r [] ∧ zr_fr r μ (zm_up μ r 1 0) := ⟨⟨Nat.zero_le _, zm_up_eq, fun j hj => by cases hj⟩, fun a b h1 h2 => zm_up_ne (by omega)⟩
set_option maxRecDepth 100000 in
/-- append(k) -/
theorem ze_Row_append (D : Nat) (h : zr_at r) (hl : zr_L μ r l) (hn : l.length < 10) (k : Nat) :
    ∃ μ', ze_E (D + 1) A_Row_append [.ref (r + 1), .int (nI k)] (zm_mk μ) none (zm_mk μ') ∧ zr_L μ' r (l ++ [k]) ∧ zr_fr r μ μ' := by
  refine ⟨zm_up (zm_up μ (r + 1) l.length (nI k)) r 1 (nI (l.length + 1)), ?_, ⟨by simp; omega, by rw [zm_up_eq]; simp, fun j hj => ?_⟩, fun a b h1 h2 => ?_⟩
  · refine ze_in [(0, .ref (r + 1)), (1, .int (nI k))] zq_Row_append (Nat.le_of_ble_eq_true rfl) rfl ⟨0, 30, fun F n hF => ?_⟩
    have hc : ¬ (10 : Int32) ≤ nI l.length := nI_ge (b := 10) hn (by decide)
    have hin : zi_in (nI l.length) 10 = true := zm_in hn (by decide)
    have hcl : (nI l.length).toNatClampNeg = l.length := nI_clamp (by omega)
    have hs2 : zm_up μ (r + 1) l.length (nI k) r 1 = nI l.length := by rw [zm_up_ne (by omega)]; exact hl.2.1
    have h10 : (Int8.ofInt 10).toInt32 = (10 : Int32) := by decide
    simp [zg_0, zg_aload_n, zg_bipush, zg_dup, zg_getfield, zg_iadd, zg_iastore, zg_iconst, zg_if_icmp, zg_iload_n, zg_putfield, zg_return, zf_X1_append, zi_ld, zi_lda, zi_cmp, zi_retOk, zi_isI, zi_f3, zi_cr, zi_ci, zi_cn, zi_get, zr_g0 h, zr_g1 h, hl.2.1, hc, zm_iast h.2 hin, hcl, hs2, nI_1, zr_p1 h, h10]
  · simp only [List.length_append, List.length_singleton] at hj
    by_cases e : j < l.length
    · rw [zm_up_ne (by omega), zm_up_ne (by omega), hl.2.2 j e, List.getD_eq_getElem?_getD, List.getD_eq_getElem?_getD, List.getElem?_append_left e]
    · have e2 : j = l.length := by omega
      subst e2
      rw [zm_up_ne (by omega), zm_up_eq]
      simp
  · rw [zm_up_ne (by omega), zm_up_ne (by omega)]
set_option maxRecDepth 100000 in
/-- putLast(k) -/
theorem ze_Row_putLast (D : Nat) (h : zr_at r) (hl : zr_L μ r l) (hb : ∀ x ∈ l, x < 10) {k : Nat} (hk : k < 10) (hn : (l.erase k).length < 10) :
    ∃ μ', ze_E (D + 3) A_Row_putLast [.ref (r + 1), .int (nI k)] (zm_mk μ) none (zm_mk μ') ∧ zr_L μ' r (l.erase k ++ [k]) ∧ zr_fr r μ μ' := by
  obtain ⟨ν, ⟨N, h1⟩, h2, h3⟩ := ze_Row_takeOut D h hl hb hk
  obtain ⟨ξ, ⟨M, g1⟩, g2, g3⟩ := ze_Row_append (D + 1) h h2 hn k
  refine ⟨ξ, ?_, g2, h3.trans g3⟩
  refine ze_in [(0, .ref (r + 1)), (1, .int (nI k))] zq_Row_putLast (Nat.le_of_ble_eq_true rfl) rfl ⟨N + M, 10, fun F n hF => ?_⟩
  simp [zg_0, zg_aload_n, zg_iload_n, zg_invokevirtual, zg_return, zf_X1_putLast, zi_ld, zi_lda, zi_cmp, zi_retOk, zi_isI, zi_f3, zi_cr, zi_ci, zi_cn, zi_get, zq_Row_takeOut, zq_Row_append, zr_c h, h1 F (by omega), g1 F (by omega)]
end ZR3
