/-! Tree.leafNumber, tabsIn, tabIn -/
/-- the i-th of those that p holds of; s have been seen; d if there is none -/
def zl_ln (p : Nat → Bool) (i : Nat) (d : Int32) : List Nat → Nat → Int32
  | [], _ => d
  | x :: l, s => if p x then (if s = i then nI x else zl_ln p i d l (s + 1)) else zl_ln p i d l s
theorem zl_ln_eq (p : Nat → Bool) (i : Nat) (d : Int32) : ∀ (l : List Nat) (s : Nat), s ≤ i → zl_ln p i d l s = if i - s < (l.filter p).length then nI ((l.filter p).getD (i - s) 0) else d := by
  intro l
  induction l with
  | nil => intro s _; rfl
  | cons x l ih =>
    intro s hs
    show (if p x then (if s = i then nI x else zl_ln p i d l (s + 1)) else zl_ln p i d l s) = _
    rw [List.filter_cons]
    by_cases c : p x = true
    · rw [if_pos c, if_pos c]
      by_cases e : s = i
      · subst e
        rw [if_pos rfl, Nat.sub_self, if_pos (by rw [List.length_cons]; omega)]
        rfl
      · rw [if_neg e, ih (s + 1) (by omega), List.length_cons]
        have e2 : i - s = i - (s + 1) + 1 := by omega
        rw [e2, List.getD_cons_succ]
        by_cases c2 : i - (s + 1) < (l.filter p).length
        · rw [if_pos c2, if_pos (by omega)]
        · rw [if_neg c2, if_neg (by omega)]
    · rw [if_neg c, if_neg c]
      exact ih s hs
theorem zy_ids_filter {fm fs sd ab : Nat → Int32} : ∀ t, zy_wf t → zy_ok fm fs sd ab t → (zy_ids t).filter (fun n => decide (fm n = 2)) = zy_lvs t := by
  apply zy_ind
  · intro n h
    have h : fm n = 2 := h
    show [n].filter _ = [n]
    rw [List.filter_cons, if_pos (by simpa using h)]
    rfl
  · intro n a b wa wb ha hb h
    have hn : ¬ fm n = 2 := by rcases h.1.1 with e | e <;> rw [e] <;> decide
    show (n :: (zy_ids a ++ zy_ids b)).filter _ = zy_lvs a ++ zy_lvs b
    rw [List.filter_cons, if_neg (by simpa using hn), List.filter_append, ha h.2.1, hb h.2.2]
section ZFD
variable {T : Nat} {μ : zm_M} {R : List Nat} {t : zy_F}
set_option maxRecDepth 100000 in
theorem ze_Tree_leafNumber (D : Nat) (h : zt_at T) (hC : zt_C μ T R t) {j : Nat} (hj : j < 2 ^ 31) :
    ze_E (D + 1) A_Tree_leafNumber [.ref (T + 1), .int (nI j)] (zm_mk μ) (some (.int (if j < (zy_lvs t).length then nI ((zy_lvs t).getD j 0) else -1))) (zm_mk μ) := by
  obtain ⟨hI, ⟨o1, o2⟩, -⟩ := hC
  obtain ⟨-, ⟨k4, k5, k6, k7⟩, -⟩ := hI
  have hl19 := zy_nodup_le 19 (zy_ids t) k5 k6
  have hv : (if j < (zy_lvs t).length then nI ((zy_lvs t).getD j 0) else -1) = zl_ln (fun n => decide (μ (T + 7) n = 2)) j (-1) (zy_ids t) 0 := by
    rw [zl_ln_eq _ _ _ _ _ (Nat.zero_le _), Nat.sub_zero]
    rcases k4 with ⟨rfl, _⟩ | ⟨wt, ok, _⟩
    · rfl
    · rw [zy_ids_filter t wt ok]
  rw [hv]
  have key : ∃ r h', ze_G D 4 (some .int) zc_X3_leafNumber 4 [(3, .int (nI 0)), (2, .int (nI 0)), (0, .ref (T + 1)), (1, .int (nI j))] [] (zm_mk μ) r h' ∧ (r = some (.int (zl_ln (fun n => decide (μ (T + 7) n = 2)) j (-1) (zy_ids t) 0)) ∧ zm_mk μ = h') := by
    refine ze_loop (Q := fun i L hp => i ≤ (zy_ids t).length ∧ zi_nl L = true ∧ zi_get L 0 = some (.ref (T + 1)) ∧ zi_get L 1 = some (.int (nI j)) ∧ zi_get L 3 = some (.int (nI i)) ∧ zm_mk μ = hp ∧ ∃ (s : Nat), zi_get L 2 = some (.int (nI s)) ∧ (s ≤ i ∧ zl_ln (fun n => decide (μ (T + 7) n = 2)) j (-1) (zy_ids t) 0 = zl_ln (fun n => decide (μ (T + 7) n = 2)) j (-1) ((zy_ids t).drop i) s)) (R := fun r h' => r = some (.int (zl_ln (fun n => decide (μ (T + 7) n = 2)) j (-1) (zy_ids t) 0)) ∧ zm_mk μ = h') (zy_ids t).length ?_ ?_ (zy_ids t).length 0 _ _ (by omega) ⟨by omega, rfl, rfl, rfl, rfl, rfl, 0, rfl, Nat.le_refl _, rfl⟩
    · rintro i L _ hi ⟨-, nl, g0, g1, g3, rfl, s, g2, hq⟩
      have hnm : (zy_ids t).getD i 0 ∈ zy_ids t := zl_mem hi
      have ho := o2 i hi
      rw [zl_drop hi] at hq
      generalize (zy_ids t).getD i 0 = n at hnm hq ho
      have hn := k6 n hnm
      have c1 : ¬ nI (zy_ids t).length ≤ nI i := nI_ge hi (by omega)
      obtain ⟨-, -, -, -, ⟨a7, a8, a9, a10, a11, a12, a13, -⟩, -⟩ := id h
      have i1 : zi_in (nI i) 19 = true := zm_in (by omega) (by decide)
      have e1 : (nI i).toNatClampNeg = i := nI_clamp (by omega)
      have i2 : zi_in (nI n) 19 = true := zm_in hn (by decide)
      have e2 : (nI n).toNatClampNeg = n := nI_clamp (by omega)
      obtain ⟨hsi, hq⟩ := hq
      have hq' : zl_ln (fun n => decide (μ (T + 7) n = 2)) j (-1) (zy_ids t) 0 = if decide (μ (T + 7) n = 2) = true then (if s = j then nI n else zl_ln (fun n => decide (μ (T + 7) n = 2)) j (-1) ((zy_ids t).drop (i + 1)) (s + 1)) else zl_ln (fun n => decide (μ (T + 7) n = 2)) j (-1) ((zy_ids t).drop (i + 1)) s := hq
      by_cases c2 : μ (T + 7) n = 2
      · rw [if_pos (by simpa using c2)] at hq'
        by_cases c3 : s = j
        · rw [if_pos c3] at hq'
          subst c3
          right
          refine ⟨some (.int (nI n)), zm_mk μ, ⟨0, 21, fun F m hF => ?_⟩, by rw [hq'], rfl⟩
          simp (maxDischargeDepth := 9) [zg_0, zg_aload_n, zg_getfield, zg_goto, zg_iaload, zg_iconst, zg_if_icmp, zg_iinc, zg_iload_n, zg_ireturn, zg_istore_n, zf_X3_leafNumber, zi_ld, zi_lda, zi_cmp, zi_retOk, zi_isI, zi_f3, zi_cr, zi_ci, zi_cn, zi_get_ne, zi_nl_i, zi_nl_r, zi_get_set_eq, nl, g0, g1, g3, g2, zt_g h, o1, c1, zm_iald (k := 0) a13 i1, e1, ho, zm_iald (k := 0) a7 i2, e2, c2, nI_1]
        · rw [if_neg c3] at hq'
          have c3' : ¬ nI s = nI j := fun e => c3 ((nI_eq (by omega) hj).mp e)
          left
          refine ⟨zi_set (zi_set L 2 (.int (nI (s + 1)))) 3 (.int (nI (i + 1))), zm_mk μ, ⟨0, 19, fun F m hF => ?_⟩, by omega, ?_, ?_, ?_, zi_get_set_eq, rfl, s + 1, ?_, ⟨by omega, hq'⟩⟩
          · simp (maxDischargeDepth := 9) [zg_0, zg_aload_n, zg_getfield, zg_goto, zg_iaload, zg_iconst, zg_if_icmp, zg_iinc, zg_iload_n, zg_ireturn, zg_istore_n, zf_X3_leafNumber, zi_ld, zi_lda, zi_cmp, zi_retOk, zi_isI, zi_f3, zi_cr, zi_ci, zi_cn, zi_get_ne, zi_nl_i, zi_nl_r, zi_get_set_eq, nl, g0, g1, g3, g2, zt_g h, o1, c1, zm_iald (k := 0) a13 i1, e1, ho, zm_iald (k := 0) a7 i2, e2, c2, c3', nI_1]
          · simp (maxDischargeDepth := 9) [zi_get_ne, zi_nl_i, zi_nl_r, zi_get_set_eq, nl]
          · simp (maxDischargeDepth := 9) [zi_get_ne, zi_nl_i, zi_nl_r, zi_get_set_eq, nl, g0]
          · simp (maxDischargeDepth := 9) [zi_get_ne, zi_nl_i, zi_nl_r, zi_get_set_eq, nl, g1]
          · simp (maxDischargeDepth := 9) [zi_get_ne, zi_nl_i, zi_nl_r, zi_get_set_eq, nl, g2]
      · rw [if_neg (by simpa using c2)] at hq'
        left
        refine ⟨zi_set L 3 (.int (nI (i + 1))), zm_mk μ, ⟨0, 15, fun F m hF => ?_⟩, by omega, ?_, ?_, ?_, zi_get_set_eq, rfl, s, ?_, ⟨by omega, hq'⟩⟩
        · simp (maxDischargeDepth := 9) [zg_0, zg_aload_n, zg_getfield, zg_goto, zg_iaload, zg_iconst, zg_if_icmp, zg_iinc, zg_iload_n, zg_ireturn, zg_istore_n, zf_X3_leafNumber, zi_ld, zi_lda, zi_cmp, zi_retOk, zi_isI, zi_f3, zi_cr, zi_ci, zi_cn, zi_get_ne, zi_nl_i, zi_nl_r, zi_get_set_eq, nl, g0, g1, g3, g2, zt_g h, o1, c1, zm_iald (k := 0) a13 i1, e1, ho, zm_iald (k := 0) a7 i2, e2, c2, nI_1]
        · simp (maxDischargeDepth := 9) [zi_get_ne, zi_nl_i, zi_nl_r, zi_get_set_eq, nl]
        · simp (maxDischargeDepth := 9) [zi_get_ne, zi_nl_i, zi_nl_r, zi_get_set_eq, nl, g0]
        · simp (maxDischargeDepth := 9) [zi_get_ne, zi_nl_i, zi_nl_r, zi_get_set_eq, nl, g1]
        · simp (maxDischargeDepth := 9) [zi_get_ne, zi_nl_i, zi_nl_r, zi_get_set_eq, nl, g2]
    · rintro L _ ⟨-, nl, g0, g1, g3, rfl, s, g2, hq⟩
      rw [List.drop_length] at hq
      have hq : zl_ln (fun n => decide (μ (T + 7) n = 2)) j (-1) (zy_ids t) 0 = -1 := hq.2
      rw [hq]
      refine ⟨some (.int (-1)), zm_mk μ, ⟨0, 6, fun F m hF => ?_⟩, rfl, rfl⟩
      simp [zg_0, zg_aload_n, zg_getfield, zg_goto, zg_iaload, zg_iconst, zg_if_icmp, zg_iinc, zg_iload_n, zg_ireturn, zg_istore_n, zf_X3_leafNumber, zi_ld, zi_lda, zi_cmp, zi_retOk, zi_isI, zi_f3, zi_cr, zi_ci, zi_cn, g0, g3, zt_g h, o1]
  obtain ⟨r, h', G, rfl, rfl⟩ := key
  refine ze_in [(0, .ref (T + 1)), (1, .int (nI j))] zq_Tree_leafNumber (Nat.le_of_ble_eq_true rfl) rfl (ze_S.end ⟨0, 4, fun F m hF => ?_⟩ G)
  simp [zg_0, zg_aload_n, zg_getfield, zg_goto, zg_iaload, zg_iconst, zg_if_icmp, zg_iinc, zg_iload_n, zg_ireturn, zg_istore_n, zf_X3_leafNumber, zi_ld, zi_lda, zi_cmp, zi_retOk, zi_isI, zi_f3, zi_cr, zi_ci, zi_cn, zi_get, zi_set, nI_0]
/-- how many p holds of -/
theorem zl_cnt {l : List Nat} {p : Nat → Bool} {i : Nat} (hi : i < l.length) : ((l.take (i + 1)).filter p).length = ((l.take i).filter p).length + (if p (l.getD i 0) then 1 else 0) := by
  rw [zl_take hi, List.filter_append, List.length_append]
  by_cases c : p (l.getD i 0) = true
  · rw [if_pos c, List.filter_cons, if_pos c]; rfl
  · rw [if_neg c, List.filter_cons, if_neg c]; rfl
set_option maxRecDepth 100000 in
theorem ze_Tree_tabsIn (D : Nat) (h : zt_at T) (hI : zt_I μ T R t) (x : Int32) :
    ze_E (D + 2) A_Tree_tabsIn [.ref (T + 1), .int x] (zm_mk μ) (some (.int (nI (R.filter (fun v => decide (μ (T + 3) v = x))).length))) (zm_mk μ) := by
  obtain ⟨⟨hR, -, hb⟩, -⟩ := hI
  have hR10 := hR.1
  have key : ∃ r h', ze_G (D + 1) 4 (some .int) zc_X3_tabsIn 4 [(3, .int (nI 0)), (2, .int (nI 0)), (0, .ref (T + 1)), (1, .int x)] [] (zm_mk μ) r h' ∧ (r = some (.int (nI (R.filter (fun v => decide (μ (T + 3) v = x))).length)) ∧ zm_mk μ = h') := by
    refine ze_loop (Q := fun i L hp => i ≤ R.length ∧ zi_nl L = true ∧ zi_get L 0 = some (.ref (T + 1)) ∧ zi_get L 1 = some (.int x) ∧ zi_get L 3 = some (.int (nI i)) ∧ zm_mk μ = hp ∧ (zi_get L 2 = some (.int (nI ((R.take i).filter (fun v => decide (μ (T + 3) v = x))).length)))) (R := fun r h' => r = some (.int (nI (R.filter (fun v => decide (μ (T + 3) v = x))).length)) ∧ zm_mk μ = h') R.length ?_ ?_ R.length 0 _ _ (by omega) ⟨by omega, rfl, rfl, rfl, rfl, rfl, rfl⟩
    · rintro i L _ hi ⟨-, nl, g0, g1, g3, rfl, hq⟩
      have hwm : R.getD i 0 ∈ R := zl_mem hi
      have hc := zl_cnt (p := fun v => decide (μ (T + 3) v = x)) hi
      obtain ⟨N1, h1⟩ := ze_Row_sizeL (μ := μ) D h.2.1 hR
      obtain ⟨N2, h2⟩ := ze_Row_getL (μ := μ) D h.2.1 hR hi
      generalize R.getD i 0 = w at hwm h2 hc
      have hw := hb w hwm
      have c1 : ¬ nI R.length ≤ nI i := nI_ge hi (by omega)
      have i1 : zi_in (nI w) 10 = true := zm_in hw (by decide)
      have e1 : (nI w).toNatClampNeg = w := nI_clamp (by omega)
      have cr := zr_c (μ := μ) h.2.1
      by_cases c2 : μ (T + 3) w = x
      · rw [if_pos (by simpa using c2)] at hc
        left
        refine ⟨zi_set (zi_set L 2 (.int (nI (((R.take i).filter (fun v => decide (μ (T + 3) v = x))).length + 1)))) 3 (.int (nI (i + 1))), zm_mk μ, ⟨N1 + N2, 21, fun F m hF => ?_⟩, by omega, ?_, ?_, ?_, zi_get_set_eq, rfl, by rw [hc]; simp (maxDischargeDepth := 9) [zi_get_ne, zi_nl_i, zi_nl_r, zi_get_set_eq, nl]⟩
        · simp (maxDischargeDepth := 9) [zg_0, zg_aload_n, zg_getfield, zg_goto, zg_iadd, zg_iaload, zg_iconst, zg_if_icmp, zg_iinc, zg_iload_n, zg_invokevirtual, zg_ireturn, zg_istore_n, zf_X3_tabsIn, zi_ld, zi_lda, zi_cmp, zi_retOk, zi_isI, zi_f3, zi_cr, zi_ci, zi_cn, zi_get_ne, zi_nl_i, zi_nl_r, zi_get_set_eq, nl, g0, g1, g3, hq, zt_g h, zq_Row_size, zq_Row_get, cr, h1 F (by omega), h2 F (by omega), c1, zm_iald (k := 0) h.2.2.1 i1, e1, c2, nI_1]
        · simp (maxDischargeDepth := 9) [zi_get_ne, zi_nl_i, zi_nl_r, zi_get_set_eq, nl]
        · simp (maxDischargeDepth := 9) [zi_get_ne, zi_nl_i, zi_nl_r, zi_get_set_eq, nl, g0]
        · simp (maxDischargeDepth := 9) [zi_get_ne, zi_nl_i, zi_nl_r, zi_get_set_eq, nl, g1]
      · rw [if_neg (by simpa using c2), Nat.add_zero] at hc
        left
        refine ⟨zi_set (zi_set L 2 (.int (nI (((R.take i).filter (fun v => decide (μ (T + 3) v = x))).length)))) 3 (.int (nI (i + 1))), zm_mk μ, ⟨N1 + N2, 20, fun F m hF => ?_⟩, by omega, ?_, ?_, ?_, zi_get_set_eq, rfl, by rw [hc]; simp (maxDischargeDepth := 9) [zi_get_ne, zi_nl_i, zi_nl_r, zi_get_set_eq, nl]⟩
        · simp (maxDischargeDepth := 9) [zg_0, zg_aload_n, zg_getfield, zg_goto, zg_iadd, zg_iaload, zg_iconst, zg_if_icmp, zg_iinc, zg_iload_n, zg_invokevirtual, zg_ireturn, zg_istore_n, zf_X3_tabsIn, zi_ld, zi_lda, zi_cmp, zi_retOk, zi_isI, zi_f3, zi_cr, zi_ci, zi_cn, zi_get_ne, zi_nl_i, zi_nl_r, zi_get_set_eq, nl, g0, g1, g3, hq, zt_g h, zq_Row_size, zq_Row_get, cr, h1 F (by omega), h2 F (by omega), c1, zm_iald (k := 0) h.2.2.1 i1, e1, c2, nI_1]
        · simp (maxDischargeDepth := 9) [zi_get_ne, zi_nl_i, zi_nl_r, zi_get_set_eq, nl]
        · simp (maxDischargeDepth := 9) [zi_get_ne, zi_nl_i, zi_nl_r, zi_get_set_eq, nl, g0]
        · simp (maxDischargeDepth := 9) [zi_get_ne, zi_nl_i, zi_nl_r, zi_get_set_eq, nl, g1]
    · rintro L _ ⟨-, nl, g0, g1, g3, rfl, hq⟩
      rw [List.take_length] at hq
      obtain ⟨N1, h1⟩ := ze_Row_sizeL (μ := μ) D h.2.1 hR
      have cr := zr_c (μ := μ) h.2.1
      refine ⟨_, zm_mk μ, ⟨N1, 7, fun F m hF => ?_⟩, rfl, rfl⟩
      simp [zg_0, zg_aload_n, zg_getfield, zg_goto, zg_iadd, zg_iaload, zg_iconst, zg_if_icmp, zg_iinc, zg_iload_n, zg_invokevirtual, zg_ireturn, zg_istore_n, zf_X3_tabsIn, zi_ld, zi_lda, zi_cmp, zi_retOk, zi_isI, zi_f3, zi_cr, zi_ci, zi_cn, g0, g3, hq, zt_g h, zq_Row_size, cr, h1 F (by omega)]
  obtain ⟨r, h', G, rfl, rfl⟩ := key
  refine ze_in [(0, .ref (T + 1)), (1, .int x)] zq_Tree_tabsIn (Nat.le_of_ble_eq_true rfl) rfl (ze_S.end ⟨0, 4, fun F m hF => ?_⟩ G)
  simp [zg_0, zg_aload_n, zg_getfield, zg_goto, zg_iadd, zg_iaload, zg_iconst, zg_if_icmp, zg_iinc, zg_iload_n, zg_invokevirtual, zg_ireturn, zg_istore_n, zf_X3_tabsIn, zi_ld, zi_lda, zi_cmp, zi_retOk, zi_isI, zi_f3, zi_cr, zi_ci, zi_cn, zi_get, zi_set, nI_0]
set_option maxRecDepth 100000 in
theorem ze_Tree_tabIn (D : Nat) (h : zt_at T) (hI : zt_I μ T R t) (x : Int32) {j : Nat} (hj : j < 2 ^ 31) :
    ze_E (D + 2) A_Tree_tabIn [.ref (T + 1), .int x, .int (nI j)] (zm_mk μ) (some (.int (if j < (R.filter (fun v => decide (μ (T + 3) v = x))).length then nI ((R.filter (fun v => decide (μ (T + 3) v = x))).getD j 0) else -1000000005))) (zm_mk μ) := by
  obtain ⟨⟨hR, -, hb⟩, -⟩ := hI
  have hR10 := hR.1
  have hv := zl_ln_eq (fun v => decide (μ (T + 3) v = x)) j (-1000000005) R 0 (Nat.zero_le _)
  rw [Nat.sub_zero] at hv
  rw [← hv]
  have key : ∃ r h', ze_G (D + 1) 5 (some .int) zc_X3_tabIn 5 [(4, .int (nI 0)), (3, .int (nI 0)), (0, .ref (T + 1)), (1, .int x), (2, .int (nI j))] [] (zm_mk μ) r h' ∧ (r = some (.int (zl_ln (fun v => decide (μ (T + 3) v = x)) j (-1000000005) R 0)) ∧ zm_mk μ = h') := by
    refine ze_loop (Q := fun i L hp => i ≤ R.length ∧ zi_nl L = true ∧ zi_get L 0 = some (.ref (T + 1)) ∧ zi_get L 1 = some (.int x) ∧ zi_get L 2 = some (.int (nI j)) ∧ zi_get L 4 = some (.int (nI i)) ∧ zm_mk μ = hp ∧ ∃ (s : Nat), zi_get L 3 = some (.int (nI s)) ∧ (s ≤ i ∧ zl_ln (fun v => decide (μ (T + 3) v = x)) j (-1000000005) R 0 = zl_ln (fun v => decide (μ (T + 3) v = x)) j (-1000000005) (R.drop i) s)) (R := fun r h' => r = some (.int (zl_ln (fun v => decide (μ (T + 3) v = x)) j (-1000000005) R 0)) ∧ zm_mk μ = h') R.length ?_ ?_ R.length 0 _ _ (by omega) ⟨by omega, rfl, rfl, rfl, rfl, rfl, rfl, 0, rfl, Nat.le_refl _, rfl⟩
    · rintro i L _ hi ⟨-, nl, g0, g1, g2, g4, rfl, s, g3, hq⟩
      have hwm : R.getD i 0 ∈ R := zl_mem hi
      rw [zl_drop hi] at hq
      obtain ⟨N1, h1⟩ := ze_Row_sizeL (μ := μ) D h.2.1 hR
      obtain ⟨N2, h2⟩ := ze_Row_getL (μ := μ) D h.2.1 hR hi
      generalize R.getD i 0 = w at hwm h2 hq
      have hw := hb w hwm
      have c1 : ¬ nI R.length ≤ nI i := nI_ge hi (by omega)
      have i1 : zi_in (nI w) 10 = true := zm_in hw (by decide)
      have e1 : (nI w).toNatClampNeg = w := nI_clamp (by omega)
      have cr := zr_c (μ := μ) h.2.1
      obtain ⟨hsi, hq⟩ := hq
      have hq' : zl_ln (fun v => decide (μ (T + 3) v = x)) j (-1000000005) R 0 = if decide (μ (T + 3) w = x) = true then (if s = j then nI w else zl_ln (fun v => decide (μ (T + 3) v = x)) j (-1000000005) (R.drop (i + 1)) (s + 1)) else zl_ln (fun v => decide (μ (T + 3) v = x)) j (-1000000005) (R.drop (i + 1)) s := hq
      by_cases c2 : μ (T + 3) w = x
      · rw [if_pos (by simpa using c2)] at hq'
        by_cases c3 : s = j
        · rw [if_pos c3] at hq'
          subst c3
          right
          refine ⟨some (.int (nI w)), zm_mk μ, ⟨N1 + N2, 22, fun F m hF => ?_⟩, by rw [hq'], rfl⟩
          simp (maxDischargeDepth := 9) [zg_0, zg_aload_n, zg_getfield, zg_goto, zg_iaload, zg_iconst, zg_if_icmp, zg_iinc, zg_iload, zg_iload_n, zg_invokevirtual, zg_ireturn, zg_istore, zg_istore_n, zg_ldc, zf_X3_tabIn, zi_ld, zi_lda, zi_cmp, zi_retOk, zi_isI, zi_f3, zi_cr, zi_ci, zi_cn, zi_get_ne, zi_nl_i, zi_nl_r, zi_get_set_eq, nl, g0, g1, g2, g4, g3, zt_g h, zq_Row_size, zq_Row_get, cr, h1 F (by omega), h2 F (by omega), c1, zm_iald (k := 0) h.2.2.1 i1, e1, c2, nI_1]
        · rw [if_neg c3] at hq'
          have c3' : ¬ nI s = nI j := fun e => c3 ((nI_eq (by omega) hj).mp e)
          left
          refine ⟨zi_set (zi_set L 3 (.int (nI (s + 1)))) 4 (.int (nI (i + 1))), zm_mk μ, ⟨N1 + N2, 20, fun F m hF => ?_⟩, by omega, ?_, ?_, ?_, ?_, zi_get_set_eq, rfl, s + 1, ?_, ⟨by omega, hq'⟩⟩
          · simp (maxDischargeDepth := 9) [zg_0, zg_aload_n, zg_getfield, zg_goto, zg_iaload, zg_iconst, zg_if_icmp, zg_iinc, zg_iload, zg_iload_n, zg_invokevirtual, zg_ireturn, zg_istore, zg_istore_n, zg_ldc, zf_X3_tabIn, zi_ld, zi_lda, zi_cmp, zi_retOk, zi_isI, zi_f3, zi_cr, zi_ci, zi_cn, zi_get_ne, zi_nl_i, zi_nl_r, zi_get_set_eq, nl, g0, g1, g2, g4, g3, zt_g h, zq_Row_size, zq_Row_get, cr, h1 F (by omega), h2 F (by omega), c1, zm_iald (k := 0) h.2.2.1 i1, e1, c2, c3', nI_1]
          · simp (maxDischargeDepth := 9) [zi_get_ne, zi_nl_i, zi_nl_r, zi_get_set_eq, nl]
          · simp (maxDischargeDepth := 9) [zi_get_ne, zi_nl_i, zi_nl_r, zi_get_set_eq, nl, g0]
          · simp (maxDischargeDepth := 9) [zi_get_ne, zi_nl_i, zi_nl_r, zi_get_set_eq, nl, g1]
          · simp (maxDischargeDepth := 9) [zi_get_ne, zi_nl_i, zi_nl_r, zi_get_set_eq, nl, g2]
          · simp (maxDischargeDepth := 9) [zi_get_ne, zi_nl_i, zi_nl_r, zi_get_set_eq, nl, g3]
      · rw [if_neg (by simpa using c2)] at hq'
        left
        refine ⟨zi_set L 4 (.int (nI (i + 1))), zm_mk μ, ⟨N1 + N2, 16, fun F m hF => ?_⟩, by omega, ?_, ?_, ?_, ?_, zi_get_set_eq, rfl, s, ?_, ⟨by omega, hq'⟩⟩
        · simp (maxDischargeDepth := 9) [zg_0, zg_aload_n, zg_getfield, zg_goto, zg_iaload, zg_iconst, zg_if_icmp, zg_iinc, zg_iload, zg_iload_n, zg_invokevirtual, zg_ireturn, zg_istore, zg_istore_n, zg_ldc, zf_X3_tabIn, zi_ld, zi_lda, zi_cmp, zi_retOk, zi_isI, zi_f3, zi_cr, zi_ci, zi_cn, zi_get_ne, zi_nl_i, zi_nl_r, zi_get_set_eq, nl, g0, g1, g2, g4, g3, zt_g h, zq_Row_size, zq_Row_get, cr, h1 F (by omega), h2 F (by omega), c1, zm_iald (k := 0) h.2.2.1 i1, e1, c2, nI_1]
        · simp (maxDischargeDepth := 9) [zi_get_ne, zi_nl_i, zi_nl_r, zi_get_set_eq, nl]
        · simp (maxDischargeDepth := 9) [zi_get_ne, zi_nl_i, zi_nl_r, zi_get_set_eq, nl, g0]
        · simp (maxDischargeDepth := 9) [zi_get_ne, zi_nl_i, zi_nl_r, zi_get_set_eq, nl, g1]
        · simp (maxDischargeDepth := 9) [zi_get_ne, zi_nl_i, zi_nl_r, zi_get_set_eq, nl, g2]
        · simp (maxDischargeDepth := 9) [zi_get_ne, zi_nl_i, zi_nl_r, zi_get_set_eq, nl, g3]
    · rintro L _ ⟨-, nl, g0, g1, g2, g4, rfl, s, g3, hq⟩
      rw [List.drop_length] at hq
      have hq : zl_ln (fun v => decide (μ (T + 3) v = x)) j (-1000000005) R 0 = -1000000005 := hq.2
      rw [hq]
      obtain ⟨N1, h1⟩ := ze_Row_sizeL (μ := μ) D h.2.1 hR
      have cr := zr_c (μ := μ) h.2.1
      refine ⟨_, zm_mk μ, ⟨N1, 7, fun F m hF => ?_⟩, rfl, rfl⟩
      simp [zg_0, zg_aload_n, zg_getfield, zg_goto, zg_iaload, zg_iconst, zg_if_icmp, zg_iinc, zg_iload, zg_iload_n, zg_invokevirtual, zg_ireturn, zg_istore, zg_istore_n, zg_ldc, zf_X3_tabIn, zi_ld, zi_lda, zi_cmp, zi_retOk, zi_isI, zi_f3, zi_cr, zi_ci, zi_cn, g0, g4, zt_g h, zq_Row_size, cr, h1 F (by omega)]
  obtain ⟨r, h', G, rfl, rfl⟩ := key
  refine ze_in [(0, .ref (T + 1)), (1, .int x), (2, .int (nI j))] zq_Tree_tabIn (Nat.le_of_ble_eq_true rfl) rfl (ze_S.end ⟨0, 4, fun F m hF => ?_⟩ G)
  simp [zg_0, zg_aload_n, zg_getfield, zg_goto, zg_iaload, zg_iconst, zg_if_icmp, zg_iinc, zg_iload, zg_iload_n, zg_invokevirtual, zg_ireturn, zg_istore, zg_istore_n, zg_ldc, zf_X3_tabIn, zi_ld, zi_lda, zi_cmp, zi_retOk, zi_isI, zi_f3, zi_cr, zi_ci, zi_cn, zi_get, zi_set, nI_0]
end ZFD
