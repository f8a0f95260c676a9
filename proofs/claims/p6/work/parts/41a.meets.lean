/-! Tree.neighbourTo, shownAt -/
set_option maxRecDepth 100000 in
theorem ze_axisOf {h : zi_Hp} (D : Nat) {s : Nat} (hs : s < 4) : ze_E (D + 1) A_Desk_axisOf [.int (nI s)] h (some (.int (nI (s / 2)))) h := by
  refine ze_in [(0, .int (nI s))] zq_Desk_axisOf (Nat.le_of_ble_eq_true rfl) rfl ⟨0, 7, fun F n hF => ?_⟩
  have h0 : nI 0 = 0 := nI_0
  have h1 : nI 1 = 1 := by decide
  match s, hs with
  | 0, _ => have c : ¬ (2 : Int32) ≤ nI 0 := by decide
            simp [zg_0, zg_goto, zg_iconst, zg_if_icmp, zg_iload_n, zg_ireturn, zf_X5_axisOf, zi_ld, zi_lda, zi_cmp, zi_retOk, zi_isI, zi_f3, zi_cr, zi_ci, zi_cn, zi_get, c, h0]
  | 1, _ => have c : ¬ (2 : Int32) ≤ nI 1 := by decide
            simp [zg_0, zg_goto, zg_iconst, zg_if_icmp, zg_iload_n, zg_ireturn, zf_X5_axisOf, zi_ld, zi_lda, zi_cmp, zi_retOk, zi_isI, zi_f3, zi_cr, zi_ci, zi_cn, zi_get, c, h0]
  | 2, _ => have c : (2 : Int32) ≤ nI 2 := by decide
            simp [zg_0, zg_goto, zg_iconst, zg_if_icmp, zg_iload_n, zg_ireturn, zf_X5_axisOf, zi_ld, zi_lda, zi_cmp, zi_retOk, zi_isI, zi_f3, zi_cr, zi_ci, zi_cn, zi_get, c, h1]
  | 3, _ => have c : (2 : Int32) ≤ nI 3 := by decide
            simp [zg_0, zg_goto, zg_iconst, zg_if_icmp, zg_iload_n, zg_ireturn, zf_X5_axisOf, zi_ld, zi_lda, zi_cmp, zi_retOk, zi_isI, zi_f3, zi_cr, zi_ci, zi_cn, zi_get, c, h1]
set_option maxRecDepth 100000 in
theorem ze_isAfter {h : zi_Hp} (D : Nat) {s : Nat} (hs : s < 4) : ze_E (D + 1) A_Desk_isAfter [.int (nI s)] h (some (.int (zb (s % 2 = 1)))) h := by
  refine ze_in [(0, .int (nI s))] zq_Desk_isAfter (Nat.le_of_ble_eq_true rfl) rfl ⟨0, 12, fun F n hF => ?_⟩
  have z : ¬ (2 : Int32) = 0 := by decide
  match s, hs with
  | 0, _ => have c : ¬ (nI 0 - nI 0 / 2 * 2) = 1 := by decide
            simp [zg_0, zg_goto, zg_iconst, zg_if_icmp, zg_iload_n, zg_irem, zg_ireturn, zf_X5_isAfter, zi_ld, zi_lda, zi_cmp, zi_retOk, zi_isI, zi_f3, zi_cr, zi_ci, zi_cn, zi_get, z, c, zb]
  | 1, _ => have c : (nI 1 - nI 1 / 2 * 2) = 1 := by decide
            simp [zg_0, zg_goto, zg_iconst, zg_if_icmp, zg_iload_n, zg_irem, zg_ireturn, zf_X5_isAfter, zi_ld, zi_lda, zi_cmp, zi_retOk, zi_isI, zi_f3, zi_cr, zi_ci, zi_cn, zi_get, z, c, zb]
  | 2, _ => have c : ¬ (nI 2 - nI 2 / 2 * 2) = 1 := by decide
            simp [zg_0, zg_goto, zg_iconst, zg_if_icmp, zg_iload_n, zg_irem, zg_ireturn, zf_X5_isAfter, zi_ld, zi_lda, zi_cmp, zi_retOk, zi_isI, zi_f3, zi_cr, zi_ci, zi_cn, zi_get, z, c, zb]
  | 3, _ => have c : (nI 3 - nI 3 / 2 * 2) = 1 := by decide
            simp [zg_0, zg_goto, zg_iconst, zg_if_icmp, zg_iload_n, zg_irem, zg_ireturn, zf_X5_isAfter, zi_ld, zi_lda, zi_cmp, zi_retOk, zi_isI, zi_f3, zi_cr, zi_ci, zi_cn, zi_get, z, c, zb]
section ZNB
variable {T : Nat} {μ : zm_M}
/-- the other lies at the side of the window -/
def zt_me (μ : zm_M) (T k o s : Nat) : Bool := if s % 2 = 1 then decide (zt_so μ T (s / 2) o = zt_so μ T (s / 2) k + zt_lo μ T (s / 2) k) else decide (zt_so μ T (s / 2) o + zt_lo μ T (s / 2) o = zt_so μ T (s / 2) k)
def zt_cb (μ : zm_M) (T k o a : Nat) : Int32 := zi_mn (zt_so μ T a k + zt_lo μ T a k) (zt_so μ T a o + zt_lo μ T a o) - zi_mx (zt_so μ T a k) (zt_so μ T a o)
set_option maxRecDepth 100000 in
theorem ze_Tree_meets (D : Nat) (h : zt_at T) (hm : zt_hm μ T) {k o s : Nat} (hk : k < 10) (ho : o < 10) (hs : s < 4) : ze_E (D + 4) A_Tree_meets [.ref (T + 1), .int (nI k), .int (nI o), .int (nI s)] (zm_mk μ) (some (.int (zb (zt_me μ T k o s = true)))) (zm_mk μ) := by
  have ha : s / 2 < 2 := by omega
  obtain ⟨N1, E1⟩ := ze_axisOf (h := zm_mk μ) (D + 2) hs
  obtain ⟨N2, E2⟩ := ze_isAfter (h := zm_mk μ) (D + 2) hs
  obtain ⟨N3, E3⟩ := ze_Tree_startOf (μ := μ) (D + 1) h hm hk ha
  obtain ⟨N4, E4⟩ := ze_Tree_startOf (μ := μ) (D + 1) h hm ho ha
  obtain ⟨N5, E5⟩ := ze_Tree_endOf (μ := μ) D h hm hk ha
  obtain ⟨N6, E6⟩ := ze_Tree_endOf (μ := μ) D h hm ho ha
  obtain ⟨lc, hc⟩ := zt_c (μ := μ) h
  refine ze_in [(0, .ref (T + 1)), (1, .int (nI k)), (2, .int (nI o)), (3, .int (nI s))] zq_Tree_meets (Nat.le_of_ble_eq_true rfl) rfl ⟨N1 + N2 + N3 + N4 + N5 + N6, 24, fun F n hF => ?_⟩
  by_cases c : s % 2 = 1
  · have ez : zb (s % 2 = 1) = 1 := if_pos c
    rw [ez] at E2
    by_cases c2 : zt_so μ T (s / 2) o = zt_so μ T (s / 2) k + zt_lo μ T (s / 2) k
    · have er : zb (zt_me μ T k o s = true) = 1 := if_pos (by unfold zt_me; rw [if_pos c]; simpa using c2)
      simp [zg_0, zg_aload_n, zg_goto, zg_iconst, zg_ifCond, zg_if_icmp, zg_iload, zg_iload_n, zg_invokestatic, zg_invokevirtual, zg_ireturn, zg_istore, zf_X3_meets, zi_ld, zi_lda, zi_cmp, zi_retOk, zi_isI, zi_f3, zi_cr, zi_ci, zi_cn, zi_get, zi_set, zq_Desk_axisOf, zq_Desk_isAfter, zq_Tree_startOf, zq_Tree_endOf, hc, E1 F (by omega), E2 F (by omega), E4 F (by omega), E5 F (by omega), c2, er]
    · have er : zb (zt_me μ T k o s = true) = 0 := if_neg (by unfold zt_me; rw [if_pos c]; simpa using c2)
      simp [zg_0, zg_aload_n, zg_goto, zg_iconst, zg_ifCond, zg_if_icmp, zg_iload, zg_iload_n, zg_invokestatic, zg_invokevirtual, zg_ireturn, zg_istore, zf_X3_meets, zi_ld, zi_lda, zi_cmp, zi_retOk, zi_isI, zi_f3, zi_cr, zi_ci, zi_cn, zi_get, zi_set, zq_Desk_axisOf, zq_Desk_isAfter, zq_Tree_startOf, zq_Tree_endOf, hc, E1 F (by omega), E2 F (by omega), E4 F (by omega), E5 F (by omega), c2, er]
  · have ez : zb (s % 2 = 1) = 0 := if_neg c
    rw [ez] at E2
    by_cases c2 : zt_so μ T (s / 2) o + zt_lo μ T (s / 2) o = zt_so μ T (s / 2) k
    · have er : zb (zt_me μ T k o s = true) = 1 := if_pos (by unfold zt_me; rw [if_neg c]; simpa using c2)
      simp [zg_0, zg_aload_n, zg_goto, zg_iconst, zg_ifCond, zg_if_icmp, zg_iload, zg_iload_n, zg_invokestatic, zg_invokevirtual, zg_ireturn, zg_istore, zf_X3_meets, zi_ld, zi_lda, zi_cmp, zi_retOk, zi_isI, zi_f3, zi_cr, zi_ci, zi_cn, zi_get, zi_set, zq_Desk_axisOf, zq_Desk_isAfter, zq_Tree_startOf, zq_Tree_endOf, hc, E1 F (by omega), E2 F (by omega), E3 F (by omega), E6 F (by omega), c2, er]
    · have er : zb (zt_me μ T k o s = true) = 0 := if_neg (by unfold zt_me; rw [if_neg c]; simpa using c2)
      simp [zg_0, zg_aload_n, zg_goto, zg_iconst, zg_ifCond, zg_if_icmp, zg_iload, zg_iload_n, zg_invokestatic, zg_invokevirtual, zg_ireturn, zg_istore, zf_X3_meets, zi_ld, zi_lda, zi_cmp, zi_retOk, zi_isI, zi_f3, zi_cr, zi_ci, zi_cn, zi_get, zi_set, zq_Desk_axisOf, zq_Desk_isAfter, zq_Tree_startOf, zq_Tree_endOf, hc, E1 F (by omega), E2 F (by omega), E3 F (by omega), E6 F (by omega), c2, er]
end ZNB
