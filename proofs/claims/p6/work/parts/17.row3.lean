/-! Row: putFirst, copyFrom; copies of whole arrays -/
def zm_cp (μ : zm_M) (i0 i1 : Nat) : zm_M := fun a b => if a = i1 then μ i0 b else μ a b
theorem zm_cpy {μ : zm_M} {i0 i1 n : Nat} {x : Int32} (h0 : zm_isA 7 i0 n) (h1 : zm_isA 7 i1 n) (hx : x = nI n) (hn : n < 2 ^ 31) : zi_cpy (zm_mk μ) i0 0 i1 0 x = some (zm_mk (zm_cp μ i0 i1)) := by
  obtain ⟨l0, a0, a1, a2⟩ := h0
  obtain ⟨l1, c0, c1, c2⟩ := h1
  subst hx
  have hz : (0 : Int32).toNatClampNeg = 0 := by decide
  have hcl : (nI n).toNatClampNeg = n := nI_clamp hn
  have hneg : ¬ nI n < 0 := nI_pos hn
  have h00 : ¬ (0 : Int32) < 0 := by decide
  unfold zi_cpy
  simp only [zm_get a0, zm_get c0]
  rw [if_neg (by rw [hz, hcl, List.length_mapIdx, List.length_mapIdx, a1, c1]; simp [h00, hneg])]
  refine congrArg some ?_
  rw [hz, hcl]
  apply List.ext_getElem?
  intro a
  rw [List.getElem?_set]
  have hi : i1 < zh_2.length := (List.getElem?_eq_some_iff.mp c0).1
  by_cases e : i1 = a
  · subst e
    rw [if_pos rfl, if_pos (by unfold zm_mk; rw [List.length_mapIdx]; exact hi), zm_get c0]
    congr 2
    apply List.ext_getElem?
    intro b
    simp only [List.take_zero, List.nil_append, List.drop_zero, Nat.zero_add]
    by_cases hb : b < n
    · obtain ⟨y0, e0⟩ := a2 b hb
      obtain ⟨y1, e1⟩ := c2 b hb
      rw [List.getElem?_append_left (by rw [List.length_take, List.length_mapIdx]; omega), List.getElem?_take, if_pos hb, List.getElem?_mapIdx, List.getElem?_mapIdx, e0, e1]
      simp [zm_v, zm_cp]
    · rw [List.getElem?_eq_none (by simp only [List.length_append, List.length_take, List.length_drop, List.length_mapIdx]; omega), List.getElem?_eq_none (by rw [List.length_mapIdx]; omega)]
  · rw [if_neg e]
    unfold zm_mk
    rw [List.getElem?_mapIdx, List.getElem?_mapIdx]
    cases zh_2[a]? with
    | none => rfl
    | some c =>
      simp only [Option.map_some]
      congr 2
      apply List.ext_getElem?
      intro b
      rw [List.getElem?_mapIdx, List.getElem?_mapIdx]
      cases c.2[b]? with
      | none => rfl
      | some v =>
        simp only [Option.map_some]
        congr 1
        unfold zm_v
        cases v <;> first | rfl | (unfold zm_cp; rw [if_neg (fun q => e q.symm)])
section ZR4
variable {μ : zm_M} {r : Nat} {l : List Nat}
/-- the ints of the row above i moved up by one -/
def zr_sr (μ : zm_M) (r i n : Nat) : zm_M := fun a b => if a = r + 1 ∧ i < b ∧ b < n then μ a (b - 1) else μ a b
theorem zr_sr_0 {n : Nat} : zr_sr μ r (n - 1) n = μ := by
  funext a b
  unfold zr_sr
  rw [if_neg (by omega)]
theorem zr_sr_s {i n : Nat} (hi : i + 1 < n) : zm_up (zr_sr μ r (i + 1) n) (r + 1) (i + 1) (μ (r + 1) i) = zr_sr μ r i n := by
  funext a b
  unfold zm_up zr_sr
  by_cases e : a = r + 1 ∧ b = i + 1
  · obtain ⟨rfl, rfl⟩ := e
    rw [if_pos ⟨rfl, rfl⟩, if_pos ⟨rfl, by omega, hi⟩]
    rfl
  · rw [if_neg e]
    by_cases e2 : a = r + 1 ∧ i + 1 < b ∧ b < n
    · rw [if_pos e2, if_pos ⟨e2.1, by omega, e2.2.2⟩]
    · rw [if_neg e2, if_neg (by omega)]
set_option maxRecDepth 100000 in
theorem zr_putFirst_loop (D : Nat) (h : zr_at r) {n0 : Nat} (hn : n0 ≤ 10) (h1 : 1 ≤ n0) (x : Int32) :
    ∀ (i : Nat) (L : zi_Lc), i < n0 → zi_get L 0 = some (.ref (r + 1)) → zi_get L 1 = some (.int x) → zi_get L 2 = some (.int (nI i)) →
      ze_G D 3 none zc_X1_putFirst 12 L [] (zm_mk (zr_sr μ r i n0)) none (zm_mk (zm_up (zr_sr μ r 0 n0) (r + 1) 0 x)) := by
  intro i
  induction i with
  | zero =>
    intro L hi g0 g1 g2
    have hin : zi_in 0 10 = true := zm_in (k := 0) (by decide) (by decide)
    have hz : (0 : Int32).toNatClampNeg = 0 := by decide
    rw [nI_0] at g2
    refine ⟨0, 10, fun F n _ => ?_⟩
    simp [zg_0, zg_aload_n, zg_getfield, zg_goto, zg_iaload, zg_iastore, zg_iconst, zg_ifCond, zg_iinc, zg_iload_n, zg_invokevirtual, zg_istore_n, zg_isub, zg_return, zf_X1_putFirst, zi_ld, zi_lda, zi_cmp, zi_retOk, zi_isI, zi_f3, zi_cr, zi_ci, zi_cn, g0, g1, g2, zr_g0 h, zm_iast h.2 hin, hz]
  | succ i ih =>
    intro L hi g0 g1 g2
    have hc : ¬ nI (i + 1) ≤ 0 := nI_nle (by omega) (by omega)
    have hin : zi_in (nI i) 10 = true := zm_in (by omega) (by decide)
    have hin1 : zi_in (nI (i + 1)) 10 = true := zm_in (by omega) (by decide)
    have ev : zr_sr μ r (i + 1) n0 (r + 1) (nI i).toNatClampNeg = μ (r + 1) i := by
      rw [nI_clamp (by omega)]
      unfold zr_sr
      rw [if_neg (by omega)]
    have eu : zm_up (zr_sr μ r (i + 1) n0) (r + 1) (nI (i + 1)).toNatClampNeg (μ (r + 1) i) = zr_sr μ r i n0 := by
      rw [nI_clamp (by omega)]
      exact zr_sr_s hi
    refine ze_S.end (p2 := 12) (L2 := zi_set L 2 (.int (nI i))) (s2 := []) (h2 := zm_mk (zr_sr μ r i n0)) ⟨0, 14, fun F n _ => ?_⟩ (ih _ (by omega) (zi_get_set_ne (by decide) g0 rfl) (zi_get_set_ne (by decide) g1 rfl) zi_get_set_eq)
    simp [zg_0, zg_aload_n, zg_getfield, zg_goto, zg_iaload, zg_iastore, zg_iconst, zg_ifCond, zg_iinc, zg_iload_n, zg_invokevirtual, zg_istore_n, zg_isub, zg_return, zf_X1_putFirst, zi_ld, zi_lda, zi_cmp, zi_retOk, zi_isI, zi_f3, zi_cr, zi_ci, zi_cn, g0, g1, g2, zr_g0 h, hc, nI_pred, pk_m1, zm_iald (k := 0) h.2 hin, ev, zm_iast h.2 hin1, eu]
set_option maxRecDepth 100000 in
/-- putFirst(k) -/
theorem ze_Row_putFirst (D : Nat) (h : zr_at r) (hl : zr_L μ r l) (hb : ∀ x ∈ l, x < 10) {k : Nat} (hk : k < 10) (hn : (l.erase k).length < 10) :
    ∃ μ', ze_E (D + 4) A_Row_putFirst [.ref (r + 1), .int (nI k)] (zm_mk μ) none (zm_mk μ') ∧ zr_L μ' r (k :: l.erase k) ∧ zr_fr r μ μ' := by
  obtain ⟨ν, ⟨N, h1⟩, h2, h3⟩ := ze_Row_putLast D h hl hb hk hn
  have hlen : (l.erase k ++ [k]).length = (l.erase k).length + 1 := by simp
  have hsz : ν r 1 = nI ((l.erase k).length + 1) := by rw [← hlen]; exact h2.2.1
  refine ⟨zm_up (zr_sr ν r 0 ((l.erase k).length + 1)) (r + 1) 0 (nI k), ?_, ⟨by simp; omega, ?_, fun j hj => ?_⟩, fun a b q1 q2 => ?_⟩
  · refine ze_in [(0, .ref (r + 1)), (1, .int (nI k))] zq_Row_putFirst (Nat.le_of_ble_eq_true rfl) rfl ?_
    have hloop := zr_putFirst_loop (μ := ν) (D + 3) h (n0 := (l.erase k).length + 1) (by omega) (by omega) (nI k) (l.erase k).length [(2, .int (nI (l.erase k).length)), (0, .ref (r + 1)), (1, .int (nI k))] (by omega) rfl rfl rfl
    rw [show zr_sr ν r (l.erase k).length ((l.erase k).length + 1) = ν from zr_sr_0 (n := (l.erase k).length + 1)] at hloop
    refine ze_S.end (p2 := 12) (L2 := _) (s2 := []) (h2 := _) ⟨N, 8, fun F n hF => ?_⟩ hloop
    simp [zg_0, zg_aload_n, zg_getfield, zg_goto, zg_iaload, zg_iastore, zg_iconst, zg_ifCond, zg_iinc, zg_iload_n, zg_invokevirtual, zg_istore_n, zg_isub, zg_return, zf_X1_putFirst, zi_ld, zi_lda, zi_cmp, zi_retOk, zi_isI, zi_f3, zi_cr, zi_ci, zi_cn, zi_get, zi_set, zq_Row_putLast, zr_c h, h1 F hF, zr_g1 h, hsz, nI_pred]
  · rw [zm_up_ne (by omega)]
    unfold zr_sr
    rw [if_neg (by omega), hsz]
    simp
  · have hj : j < (l.erase k).length + 1 := by simpa using hj
    cases j with
    | zero =>
      rw [zm_up_eq]
      rfl
    | succ j =>
      rw [zm_up_ne (by omega)]
      unfold zr_sr
      rw [if_pos ⟨rfl, by omega, hj⟩]
      have := h2.2.2 j (by rw [hlen]; omega)
      rw [show j + 1 - 1 = j from rfl, this, List.getD_eq_getElem?_getD, List.getElem?_append_left (by omega)]
      rfl
  · rw [zm_up_ne (by omega)]
    unfold zr_sr
    rw [if_neg (by omega)]
    exact h3 a b q1 q2
set_option maxRecDepth 100000 in
/-- copyFrom(other) -/
theorem ze_Row_copyFrom (D : Nat) {q : Nat} (h : zr_at r) (hq : zr_at q) (hd : q ≠ r + 1) (hd2 : q ≠ r) (hl : zr_L μ q l) :
    ∃ μ', ze_E (D + 1) A_Row_copyFrom [.ref (r + 1), .ref (q + 1)] (zm_mk μ) none (zm_mk μ') ∧ zr_L μ' r l ∧ zr_fr r μ μ' := by
  refine ⟨zm_up (zm_cp μ (q + 1) (r + 1)) r 1 (μ q 1), ?_, ⟨hl.1, by rw [zm_up_eq]; exact hl.2.1, fun j hj => ?_⟩, fun a b q1 q2 => ?_⟩
  · refine ze_in [(0, .ref (r + 1)), (1, .ref (q + 1))] zq_Row_copyFrom (Nat.le_of_ble_eq_true rfl) rfl ⟨0, 20, fun F n hF => ?_⟩
    have h10 : (Int8.ofInt 10).toInt32 = (10 : Int32) := by decide
    have hcp := zm_cpy (μ := μ) (x := 10) hq.2 h.2 (by decide) (by decide)
    have hs : zm_cp μ (q + 1) (r + 1) q 1 = μ q 1 := by unfold zm_cp; rw [if_neg hd]
    simp [zg_0, zg_aload_n, zg_bipush, zg_getfield, zg_iconst, zg_invokestatic, zg_putfield, zg_return, zf_X1_copyFrom, zi_ld, zi_lda, zi_cmp, zi_retOk, zi_isI, zi_f3, zi_cr, zi_ci, zi_cn, zi_get, zr_g0 h, zr_g0 hq, zr_g1 hq, h10, hcp, hs, zr_p1 h]
  · rw [zm_up_ne (by omega)]
    unfold zm_cp
    rw [if_pos rfl]
    exact hl.2.2 j hj
  · rw [zm_up_ne (by omega)]
    unfold zm_cp
    rw [if_neg q2]
end ZR4
