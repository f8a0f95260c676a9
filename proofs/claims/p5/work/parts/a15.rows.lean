section
/-! the reference: forget, unstack, front -/
/-- a row of windows in the cell C, its length in the field q -/
noncomputable def zv_L (μ : zm_M) (C q : Nat) (l : List Nat) : Prop := l.length ≤ 10 ∧ μ 231 q = nI l.length ∧ ∀ j, j < l.length → μ C j = nI (l.getD j 0)
noncomputable def zv_fg (μ : zm_M) (k : Nat) : zm_M := fun c d => if c = 251 ∧ d < 3 ∧ ¬ μ 251 d = 0 ∧ ¬ μ 252 (10 * d + k) = 0 then 0 else μ c d
section ZVB
variable {μ : zm_M}
theorem zv_fg_ne {k c d : Nat} (h : c ≠ 251) : zv_fg μ k c d = μ c d := if_neg (fun e => h e.1)
theorem zv_fg_at {k d : Nat} (h : d < 3) : zv_fg μ k 251 d = if ¬ μ 251 d = 0 ∧ ¬ μ 252 (10 * d + k) = 0 then 0 else μ 251 d := by
  unfold zv_fg
  by_cases c : ¬ μ 251 d = 0 ∧ ¬ μ 252 (10 * d + k) = 0
  · rw [if_pos c, if_pos ⟨rfl, h, c⟩]
  · rw [if_neg c, if_neg (fun e => c e.2.2)]
set_option maxRecDepth 100000 in
theorem ze_Mforget (D : Nat) {k : Nat} (hk : k < 10) : ze_E (D + 1) A_Mod_forget [.ref 232, .int (nI k)] (zm_mk μ) none (zm_mk (zv_fg μ k)) := by
  have h10 : (Int8.ofInt 10).toInt32 = (10 : Int32) := by decide
  have key : ∃ r h', ze_G D 3 none zc_X6_forget 2 [(2, .int (nI 0)), (0, .ref 232), (1, .int (nI k))] [] (zm_mk μ) r h' ∧ (r = none ∧ zm_mk (zv_fg μ k) = h') := by
    refine ze_loop (Q := fun i L hp => i ≤ 3 ∧ zi_nl L = true ∧ zi_get L 0 = some (.ref 232) ∧ zi_get L 1 = some (.int (nI k)) ∧ zi_get L 2 = some (.int (nI i)) ∧ ∃ ξ : zm_M, zm_mk ξ = hp ∧ (∀ d, d < i → ξ 251 d = zv_fg μ k 251 d) ∧ (∀ c d, c ≠ 251 ∨ i ≤ d → ξ c d = μ c d) ∧ (True)) (R := fun r h' => r = none ∧ zm_mk (zv_fg μ k) = h') 3 ?_ ?_ 3 0 _ _ (by omega) ⟨by omega, rfl, rfl, rfl, rfl, μ, rfl, (fun d hd => absurd hd (by omega)), (fun _ _ _ => rfl), trivial⟩
    · rintro i L _ hi ⟨-, nl, g0, g1, g2, ξ, rfl, f1, f2, hq⟩
      have c1 : ¬ (3 : Int32) ≤ nI i := nI_ge (b := 3) hi (by decide)
      have ik : zi_in (nI i) 3 = true := zm_in hi (by decide)
      have ck : (nI i).toNatClampNeg = i := nI_clamp (by omega)
      have mk : (10 : Int32) * nI i = nI (10 * i) := nI_mul10 (by omega)
      have ij : zi_in (nI (10 * i + k)) 30 = true := zm_in (by omega) (by decide)
      have cj : (nI (10 * i + k)).toNatClampNeg = 10 * i + k := nI_clamp (by omega)
      have e1 : ξ 251 i = μ 251 i := f2 _ _ (by omega)
      have e2 : ξ 252 (10 * i + k) = μ 252 (10 * i + k) := f2 _ _ (by omega)
      have z3 : ((nI 3 : Int32)) = 3 := by decide
      by_cases c2 : μ 251 i = 0
      · have g1' : ∀ d, d < i + 1 → ξ 251 d = zv_fg μ k 251 d := fun d hd => by
          by_cases e : d = i
          · rw [e, zv_fg_at hi, if_neg (fun q => q.1 c2)]; exact e1
          · exact f1 d (by omega)
        left
        refine ⟨zi_set L 2 (.int (nI (i + 1))), zm_mk ξ, ⟨0, 10, fun F m hF => ?_⟩, by omega, ?_, ?_, ?_, zi_get_set_eq, ξ, rfl, g1', (fun c d h => f2 c d (by omega)), trivial⟩
        · simp (maxDischargeDepth := 9) [zg_0, zg_aload_n, zg_baload, zg_bastore, zg_bipush, zg_getfield, zg_goto, zg_iadd, zg_iconst, zg_ifCond, zg_if_icmp, zg_iinc, zg_iload_n, zg_imul, zg_istore_n, zg_return, zf_X6_forget, zi_ld, zi_lda, zi_cmp, zi_retOk, zi_isI, zi_f3, zi_cr, zi_ci, zi_cn, zi_get_ne, zi_nl_i, zi_nl_r, zi_get_set_eq, nl, g0, g1, g2, h10, c1, zM_g, zm_bald zM_A251 ik, ck, e1, c2, nI_1]
        · simp (maxDischargeDepth := 9) [zi_get_ne, zi_nl_i, zi_nl_r, zi_get_set_eq, nl]
        · simp (maxDischargeDepth := 9) [zi_get_ne, zi_nl_i, zi_nl_r, zi_get_set_eq, nl, g0]
        · simp (maxDischargeDepth := 9) [zi_get_ne, zi_nl_i, zi_nl_r, zi_get_set_eq, nl, g1]
      · by_cases c3 : μ 252 (10 * i + k) = 0
        · have g1' : ∀ d, d < i + 1 → ξ 251 d = zv_fg μ k 251 d := fun d hd => by
            by_cases e : d = i
            · rw [e, zv_fg_at hi, if_neg (fun q => q.2 c3)]; exact e1
            · exact f1 d (by omega)
          left
          refine ⟨zi_set L 2 (.int (nI (i + 1))), zm_mk ξ, ⟨0, 19, fun F m hF => ?_⟩, by omega, ?_, ?_, ?_, zi_get_set_eq, ξ, rfl, g1', (fun c d h => f2 c d (by omega)), trivial⟩
          · simp (maxDischargeDepth := 9) [zg_0, zg_aload_n, zg_baload, zg_bastore, zg_bipush, zg_getfield, zg_goto, zg_iadd, zg_iconst, zg_ifCond, zg_if_icmp, zg_iinc, zg_iload_n, zg_imul, zg_istore_n, zg_return, zf_X6_forget, zi_ld, zi_lda, zi_cmp, zi_retOk, zi_isI, zi_f3, zi_cr, zi_ci, zi_cn, zi_get_ne, zi_nl_i, zi_nl_r, zi_get_set_eq, nl, g0, g1, g2, h10, c1, zM_g, zm_bald zM_A251 ik, ck, e1, c2, mk, nI_add, zm_bald zM_A252 ij, cj, e2, c3, nI_1]
          · simp (maxDischargeDepth := 9) [zi_get_ne, zi_nl_i, zi_nl_r, zi_get_set_eq, nl]
          · simp (maxDischargeDepth := 9) [zi_get_ne, zi_nl_i, zi_nl_r, zi_get_set_eq, nl, g0]
          · simp (maxDischargeDepth := 9) [zi_get_ne, zi_nl_i, zi_nl_r, zi_get_set_eq, nl, g1]
        · have g1' : ∀ d, d < i + 1 → zm_up ξ 251 i 0 251 d = zv_fg μ k 251 d := fun d hd => by
            rw [zm_up_pt]
            by_cases e : d = i
            · rw [e, if_pos rfl, zv_fg_at hi, if_pos ⟨c2, c3⟩]
            · rw [if_neg e]; exact f1 d (by omega)
          have g2' : ∀ c d, c ≠ 251 ∨ i + 1 ≤ d → zm_up ξ 251 i 0 c d = μ c d := fun c d h => by
            rw [zm_up_ne (by omega)]; exact f2 c d (by omega)
          left
          refine ⟨zi_set L 2 (.int (nI (i + 1))), zm_mk (zm_up ξ 251 i 0), ⟨0, 24, fun F m hF => ?_⟩, by omega, ?_, ?_, ?_, zi_get_set_eq, _, rfl, g1', g2', trivial⟩
          · simp (maxDischargeDepth := 9) [zg_0, zg_aload_n, zg_baload, zg_bastore, zg_bipush, zg_getfield, zg_goto, zg_iadd, zg_iconst, zg_ifCond, zg_if_icmp, zg_iinc, zg_iload_n, zg_imul, zg_istore_n, zg_return, zf_X6_forget, zi_ld, zi_lda, zi_cmp, zi_retOk, zi_isI, zi_f3, zi_cr, zi_ci, zi_cn, zi_get_ne, zi_nl_i, zi_nl_r, zi_get_set_eq, nl, g0, g1, g2, h10, c1, zM_g, zm_bald zM_A251 ik, ck, e1, c2, mk, nI_add, zm_bald zM_A252 ij, cj, e2, c3, zm_bast zM_A251 ik (Or.inl rfl), nI_1]
          · simp (maxDischargeDepth := 9) [zi_get_ne, zi_nl_i, zi_nl_r, zi_get_set_eq, nl]
          · simp (maxDischargeDepth := 9) [zi_get_ne, zi_nl_i, zi_nl_r, zi_get_set_eq, nl, g0]
          · simp (maxDischargeDepth := 9) [zi_get_ne, zi_nl_i, zi_nl_r, zi_get_set_eq, nl, g1]
    · rintro L _ ⟨-, nl, g0, g1, g2, ξ, rfl, f1, f2, hq⟩
      have c1 : (3 : Int32) ≤ nI 3 := by decide
      have e : ξ = zv_fg μ k := by
        funext c d
        by_cases h : c = 251 ∧ d < 3
        · rw [h.1]; exact f1 d h.2
        · rw [f2 c d (by omega)]
          exact (if_neg (fun q => h ⟨q.1, q.2.1⟩)).symm
      subst e
      refine ⟨none, _, ⟨0, 4, fun F m hF => ?_⟩, rfl, rfl⟩
      simp [zg_0, zg_aload_n, zg_baload, zg_bastore, zg_bipush, zg_getfield, zg_goto, zg_iadd, zg_iconst, zg_ifCond, zg_if_icmp, zg_iinc, zg_iload_n, zg_imul, zg_istore_n, zg_return, zf_X6_forget, zi_ld, zi_lda, zi_cmp, zi_retOk, zi_isI, zi_f3, zi_cr, zi_ci, zi_cn, g0, g2, c1]
  obtain ⟨r, h', G, rfl, rfl⟩ := key
  refine ze_in [(0, .ref 232), (1, .int (nI k))] zq_Mod_forget (Nat.le_of_ble_eq_true rfl) rfl (ze_S.end ⟨0, 2, fun F m hF => ?_⟩ G)
  simp [zg_0, zg_aload_n, zg_baload, zg_bastore, zg_bipush, zg_getfield, zg_goto, zg_iadd, zg_iconst, zg_ifCond, zg_if_icmp, zg_iinc, zg_iload_n, zg_imul, zg_istore_n, zg_return, zf_X6_forget, zi_ld, zi_lda, zi_cmp, zi_retOk, zi_isI, zi_f3, zi_cr, zi_ci, zi_cn, zi_get, zi_set, nI_0]
theorem zl_take_f {l : List Nat} {i k : Nat} (hi : i < l.length) : (l.take (i + 1)).filter (fun x => decide (x ≠ k)) = (l.take i).filter (fun x => decide (x ≠ k)) ++ if l.getD i 0 = k then [] else [l.getD i 0] := by
  rw [List.take_add_one, List.getElem?_eq_getElem hi, Option.toList_some, List.filter_append]
  have e : l.getD i 0 = l[i] := by rw [List.getD_eq_getElem?_getD, List.getElem?_eq_getElem hi]; rfl
  rw [e]
  congr 1
  by_cases c : l[i] = k
  · rw [if_pos c, List.filter_cons_of_neg (by simp [c])]
    rfl
  · rw [if_neg c, List.filter_cons_of_pos (by simp [c])]
    rfl
theorem zl_fl_le {l : List Nat} {p : Nat → Bool} {i : Nat} : ((l.take i).filter p).length ≤ i := Nat.le_trans (List.length_filter_le _ _) (List.length_take_le _ _)
set_option maxRecDepth 100000 in
theorem ze_Munstack (D : Nat) {k : Nat} (hk : k < 10) {l : List Nat} (hL : zv_L μ 241 10 l) (hb : ∀ x ∈ l, x < 10) : ∃ ν, ze_E (D + 1) A_Mod_unstack [.ref 232, .int (nI k)] (zm_mk μ) none (zm_mk ν) ∧ zv_L ν 241 10 (l.filter (fun x => decide (x ≠ k))) ∧ ∀ c d, c ≠ 241 → ¬ (c = 231 ∧ d = 10) → ν c d = μ c d := by
  obtain ⟨l1, l2, l3⟩ := hL
  have key : ∃ r h', ze_G D 4 none zc_X6_unstack 4 [(3, .int (nI 0)), (2, .int (nI 0)), (0, .ref 232), (1, .int (nI k))] [] (zm_mk μ) r h' ∧ (r = none ∧ ∃ ν, zm_mk ν = h' ∧ zv_L ν 241 10 (l.filter (fun x => decide (x ≠ k))) ∧ ∀ c d, c ≠ 241 → ¬ (c = 231 ∧ d = 10) → ν c d = μ c d) := by
    refine ze_loop (Q := fun i L hp => i ≤ l.length ∧ zi_nl L = true ∧ zi_get L 0 = some (.ref 232) ∧ zi_get L 1 = some (.int (nI k)) ∧ zi_get L 3 = some (.int (nI i)) ∧ ∃ ξ : zm_M, zm_mk ξ = hp ∧ (∀ c d, c ≠ 241 → ξ c d = μ c d) ∧ ∃ (n : Nat), zi_get L 2 = some (.int (nI n)) ∧ (n = ((l.take i).filter (fun x => decide (x ≠ k))).length ∧ (∀ j, j < n → ξ 241 j = nI (((l.take i).filter (fun x => decide (x ≠ k))).getD j 0)) ∧ ∀ j, i ≤ j → ξ 241 j = μ 241 j)) (R := fun r h' => r = none ∧ ∃ ν, zm_mk ν = h' ∧ zv_L ν 241 10 (l.filter (fun x => decide (x ≠ k))) ∧ ∀ c d, c ≠ 241 → ¬ (c = 231 ∧ d = 10) → ν c d = μ c d) l.length ?_ ?_ l.length 0 _ _ (by omega) ⟨by omega, rfl, rfl, rfl, rfl, μ, rfl, (fun _ _ _ => rfl), 0, rfl, ⟨rfl, (fun j hj => absurd hj (by omega)), fun _ _ => rfl⟩⟩
    · rintro i L _ hi ⟨-, nl, g0, g1, g3, ξ, rfl, f1, n, g2, hq⟩
      obtain ⟨q1, q2, q3⟩ := hq
      have hni : n ≤ i := by rw [q1]; exact zl_fl_le
      have e10 : ξ 231 10 = nI l.length := (f1 _ _ (by decide)).trans l2
      have c1 : ¬ nI l.length ≤ nI i := nI_ge hi (by omega)
      have ik : zi_in (nI i) 10 = true := zm_in (by omega) (by decide)
      have ck : (nI i).toNatClampNeg = i := nI_clamp (by omega)
      have jk : zi_in (nI n) 10 = true := zm_in (by omega) (by decide)
      have cj : (nI n).toNatClampNeg = n := nI_clamp (by omega)
      have e1 : ξ 241 i = nI (l.getD i 0) := (q3 i (Nat.le_refl _)).trans (l3 i hi)
      have hx := hb _ (zl_mem hi)
      have ef := zl_take_f (k := k) hi
      generalize l.getD i 0 = x at e1 hx ef
      by_cases c2 : x = k
      · have c2' : nI x = nI k := by rw [c2]
        rw [if_pos c2, List.append_nil] at ef
        rw [← ef] at q1 q2
        left
        refine ⟨zi_set L 3 (.int (nI (i + 1))), zm_mk ξ, ⟨0, 12, fun F m hF => ?_⟩, by omega, ?_, ?_, ?_, zi_get_set_eq, ξ, rfl, f1, n, ?_, ⟨q1, q2, fun j hj => q3 j (by omega)⟩⟩
        · simp (maxDischargeDepth := 9) [zg_0, zg_aload_n, zg_getfield, zg_goto, zg_iaload, zg_iastore, zg_iconst, zg_if_icmp, zg_iinc, zg_iload_n, zg_istore_n, zg_putfield, zg_return, zf_X6_unstack, zi_ld, zi_lda, zi_cmp, zi_retOk, zi_isI, zi_f3, zi_cr, zi_ci, zi_cn, zi_get_ne, zi_nl_i, zi_nl_r, zi_get_set_eq, nl, g0, g1, g3, g2, c1, zM_g, e10, zm_iald (k := 0) zM_A241 ik, ck, e1, c2', nI_1]
        · simp (maxDischargeDepth := 9) [zi_get_ne, zi_nl_i, zi_nl_r, zi_get_set_eq, nl]
        · simp (maxDischargeDepth := 9) [zi_get_ne, zi_nl_i, zi_nl_r, zi_get_set_eq, nl, g0]
        · simp (maxDischargeDepth := 9) [zi_get_ne, zi_nl_i, zi_nl_r, zi_get_set_eq, nl, g1]
        · simp (maxDischargeDepth := 9) [zi_get_ne, zi_nl_i, zi_nl_r, zi_get_set_eq, nl, g2]
      · have c2' : ¬ nI x = nI k := fun e => c2 ((nI_eq (by omega) (by omega)).mp e)
        rw [if_neg c2] at ef
        have p1 : n + 1 = ((l.take (i + 1)).filter (fun x => decide (x ≠ k))).length := by rw [ef, List.length_append, ← q1]; rfl
        have p2 : ∀ j, j < n + 1 → zm_up ξ 241 n (nI x) 241 j = nI (((l.take (i + 1)).filter (fun x => decide (x ≠ k))).getD j 0) := fun j hj => by
          rw [ef, zm_up_pt]
          by_cases e : j = n
          · rw [if_pos e, zl_getD_r (by omega), e, q1, Nat.sub_self]; rfl
          · rw [if_neg e, zl_getD_l (by omega)]; exact q2 j (by omega)
        have p3 : ∀ j, i + 1 ≤ j → zm_up ξ 241 n (nI x) 241 j = μ 241 j := fun j hj => by
          rw [zm_up_ne (by omega)]; exact q3 j (by omega)
        have p4 : ∀ c d, c ≠ 241 → zm_up ξ 241 n (nI x) c d = μ c d := fun c d h => by
          rw [zm_up_ne (by omega)]; exact f1 c d h
        left
        refine ⟨zi_set (zi_set L 2 (.int (nI (n + 1)))) 3 (.int (nI (i + 1))), zm_mk (zm_up ξ 241 n (nI x)), ⟨0, 21, fun F m hF => ?_⟩, by omega, ?_, ?_, ?_, zi_get_set_eq, _, rfl, p4, n + 1, ?_, ⟨p1, p2, p3⟩⟩
        · simp (maxDischargeDepth := 9) [zg_0, zg_aload_n, zg_getfield, zg_goto, zg_iaload, zg_iastore, zg_iconst, zg_if_icmp, zg_iinc, zg_iload_n, zg_istore_n, zg_putfield, zg_return, zf_X6_unstack, zi_ld, zi_lda, zi_cmp, zi_retOk, zi_isI, zi_f3, zi_cr, zi_ci, zi_cn, zi_get_ne, zi_nl_i, zi_nl_r, zi_get_set_eq, nl, g0, g1, g3, g2, c1, zM_g, e10, zm_iald (k := 0) zM_A241 ik, ck, e1, c2', zm_iast zM_A241 jk, cj, nI_add, nI_1, nI_1]
        · simp (maxDischargeDepth := 9) [zi_get_ne, zi_nl_i, zi_nl_r, zi_get_set_eq, nl]
        · simp (maxDischargeDepth := 9) [zi_get_ne, zi_nl_i, zi_nl_r, zi_get_set_eq, nl, g0]
        · simp (maxDischargeDepth := 9) [zi_get_ne, zi_nl_i, zi_nl_r, zi_get_set_eq, nl, g1]
        · simp (maxDischargeDepth := 9) [zi_get_ne, zi_nl_i, zi_nl_r, zi_get_set_eq, nl, g2]
    · rintro L _ ⟨-, nl, g0, g1, g3, ξ, rfl, f1, n, g2, hq⟩
      obtain ⟨q1, q2, q3⟩ := hq
      rw [List.take_length] at q1 q2
      have e10 : ξ 231 10 = nI l.length := (f1 _ _ (by decide)).trans l2
      have c1 : nI l.length ≤ nI l.length := Int32.le_refl _
      have hfl : (l.filter (fun x => decide (x ≠ k))).length ≤ l.length := List.length_filter_le _ _
      refine ⟨none, zm_mk (zm_up ξ 231 10 (nI n)), ⟨0, 8, fun F m hF => ?_⟩, rfl, _, rfl, ⟨by omega, by rw [zm_up_eq, q1], fun j hj => ?_⟩, fun c d h1 h2 => ?_⟩
      · simp [zg_0, zg_aload_n, zg_getfield, zg_goto, zg_iaload, zg_iastore, zg_iconst, zg_if_icmp, zg_iinc, zg_iload_n, zg_istore_n, zg_putfield, zg_return, zf_X6_unstack, zi_ld, zi_lda, zi_cmp, zi_retOk, zi_isI, zi_f3, zi_cr, zi_ci, zi_cn, g0, g2, g3, zM_g, e10, c1, zM_p10]
      · rw [zm_up_ne (by omega)]; exact q2 j (by omega)
      · rw [zm_up_ne h2]; exact f1 c d h1
  obtain ⟨r, h', G, rfl, ν, rfl, f⟩ := key
  refine ⟨ν, ze_in [(0, .ref 232), (1, .int (nI k))] zq_Mod_unstack (Nat.le_of_ble_eq_true rfl) rfl (ze_S.end ⟨0, 4, fun F m hF => ?_⟩ G), f⟩
  simp [zg_0, zg_aload_n, zg_getfield, zg_goto, zg_iaload, zg_iastore, zg_iconst, zg_if_icmp, zg_iinc, zg_iload_n, zg_istore_n, zg_putfield, zg_return, zf_X6_unstack, zi_ld, zi_lda, zi_cmp, zi_retOk, zi_isI, zi_f3, zi_cr, zi_ci, zi_cn, zi_get, zi_set, nI_0]
end ZVB
end
section
/-! the reference: front, screenAtHand -/
section ZVC
variable {μ : zm_M}
theorem zl_mem_getD {k : Nat} : ∀ {l : List Nat}, k ∈ l → ∃ j, j < l.length ∧ l.getD j 0 = k
  | a :: l, h => by
    rcases List.mem_cons.mp h with e | e
    · exact ⟨0, Nat.succ_pos _, e.symm⟩
    · obtain ⟨j, h1, h2⟩ := zl_mem_getD e
      exact ⟨j + 1, Nat.succ_lt_succ h1, h2⟩
theorem zl_idxOf {k : Nat} : ∀ (l : List Nat) (i : Nat), i < l.length → l.getD i 0 = k → (∀ j, j < i → l.getD j 0 ≠ k) → l.idxOf k = i
  | [], i, h, _, _ => by cases h
  | a :: l, 0, _, e, _ => by
    have e : a = k := e
    rw [e, List.idxOf_cons_self]
  | a :: l, i + 1, h, e, g => by
    have e1 : a ≠ k := g 0 (by omega)
    have h' : i + 1 < l.length + 1 := h
    have e2 : l.getD i 0 = k := e
    have : List.idxOf k l = i := zl_idxOf l i (by omega) e2 (fun j hj => g (j + 1) (by omega))
    rw [List.idxOf_cons, this]
    have hb : (a == k) = false := by simp [e1]
    rw [hb]
    rfl
set_option maxRecDepth 100000 in
theorem ze_Mfront (D : Nat) {k : Nat} (hk : k < 10) {l : List Nat} (hL : zv_L μ 242 12 l) (hd : l.Nodup) (hb : ∀ x ∈ l, x < 10) : ∃ ν, ze_E (D + 1) A_Mod_front [.ref 232, .int (nI k)] (zm_mk μ) none (zm_mk ν) ∧ zv_L ν 242 12 (k :: l.erase k) ∧ ∀ c d, c ≠ 242 → ¬ (c = 231 ∧ d = 12) → ν c d = μ c d := by
  obtain ⟨l1, l2, l3⟩ := hL
  have key : ∃ r h', ze_G D 5 none zc_X6_front 4 [(3, .int (nI 0)), (2, .int (nI k)), (0, .ref 232), (1, .int (nI k))] [] (zm_mk μ) r h' ∧ (r = none ∧ ∃ ν, zm_mk ν = h' ∧ zv_L ν 242 12 (k :: l.erase k) ∧ ∀ c d, c ≠ 242 → ¬ (c = 231 ∧ d = 12) → ν c d = μ c d) := by
    refine ze_loop (Q := fun i L hp => i ≤ l.length ∧ zi_nl L = true ∧ zi_get L 0 = some (.ref 232) ∧ zi_get L 1 = some (.int (nI k)) ∧ zi_get L 3 = some (.int (nI i)) ∧ ∃ ξ : zm_M, zm_mk ξ = hp ∧ (∀ c d, c ≠ 242 → ξ c d = μ c d) ∧ ∃ (x : Nat), zi_get L 2 = some (.int (nI x)) ∧ (x = (k :: l).getD i 0 ∧ (∀ j, j < i → ξ 242 j = nI ((k :: l).getD j 0)) ∧ (∀ j, i ≤ j → ξ 242 j = μ 242 j) ∧ ∀ j, j < i → l.getD j 0 ≠ k)) (R := fun r h' => r = none ∧ ∃ ν, zm_mk ν = h' ∧ zv_L ν 242 12 (k :: l.erase k) ∧ ∀ c d, c ≠ 242 → ¬ (c = 231 ∧ d = 12) → ν c d = μ c d) l.length ?_ ?_ l.length 0 _ _ (by omega) ⟨by omega, rfl, rfl, rfl, rfl, μ, rfl, (fun _ _ _ => rfl), k, rfl, ⟨rfl, (fun j hj => absurd hj (by omega)), (fun _ _ => rfl), fun j hj => absurd hj (by omega)⟩⟩
    · rintro i L _ hi ⟨-, nl, g0, g1, g3, ξ, rfl, f1, x, g2, hq⟩
      obtain ⟨q1, q2, q3, q4⟩ := hq
      have e12 : ξ 231 12 = nI l.length := (f1 _ _ (by decide)).trans l2
      have c1 : ¬ nI l.length ≤ nI i := nI_ge hi (by omega)
      have ik : zi_in (nI i) 10 = true := zm_in (by omega) (by decide)
      have ck : (nI i).toNatClampNeg = i := nI_clamp (by omega)
      have e1 : ξ 242 i = nI (l.getD i 0) := (q3 i (Nat.le_refl _)).trans (l3 i hi)
      have hx := hb _ (zl_mem hi)
      have p2 : ∀ j, j < i + 1 → zm_up ξ 242 i (nI x) 242 j = nI ((k :: l).getD j 0) := fun j hj => by
        rw [zm_up_pt]
        by_cases e : j = i
        · rw [if_pos e, q1, e]
        · rw [if_neg e]; exact q2 j (by omega)
      have p3 : ∀ j, i + 1 ≤ j → zm_up ξ 242 i (nI x) 242 j = μ 242 j := fun j hj => by
        rw [zm_up_ne (by omega)]; exact q3 j (by omega)
      have p4 : ∀ c d, c ≠ 242 → zm_up ξ 242 i (nI x) c d = μ c d := fun c d h => by
        rw [zm_up_ne (by omega)]; exact f1 c d h
      by_cases c2 : l.getD i 0 = k
      · have c2' : nI (l.getD i 0) = nI k := by rw [c2]
        have hkl : k ∈ l := c2 ▸ zl_mem hi
        have hix : l.idxOf k = i := zl_idxOf l i hi c2 q4
        have hle : (k :: l.erase k).length = l.length := by rw [List.length_cons, List.length_erase_of_mem hkl]; omega
        right
        refine ⟨none, zm_mk (zm_up ξ 242 i (nI x)), ⟨0, 20, fun F m hF => ?_⟩, rfl, _, rfl, ⟨by omega, by rw [hle, p4 231 12 (by decide)]; exact l2, fun j hj => ?_⟩, fun c d h1 _ => p4 c d h1⟩
        · generalize l.getD i 0 = y at e1 c2'
          simp (maxDischargeDepth := 9) [zg_0, zg_aload_n, zg_dup, zg_getfield, zg_goto, zg_iadd, zg_iaload, zg_iastore, zg_iconst, zg_if_icmp, zg_iinc, zg_iload, zg_iload_n, zg_istore, zg_istore_n, zg_putfield, zg_return, zf_X6_front, zi_ld, zi_lda, zi_cmp, zi_retOk, zi_isI, zi_f3, zi_cr, zi_ci, zi_cn, zi_get_ne, zi_nl_i, zi_nl_r, zi_get_set_eq, nl, g0, g1, g3, g2, c1, zM_g, e12, zm_iald (k := 0) zM_A242 ik, ck, e1, zm_iast zM_A242 ik, c2', nI_1]
        · rw [hle] at hj
          cases j with
          | zero => exact p2 0 (by omega)
          | succ j =>
            show _ = nI ((l.erase k).getD j 0)
            have hj2 : j < (l.erase k).length := by rw [List.length_cons] at hle; omega
            rw [zl_idx_er hj2, hix]
            by_cases e : j < i
            · rw [if_pos e]; exact p2 (j + 1) (by omega)
            · rw [if_neg e, p3 (j + 1) (by omega)]; exact l3 (j + 1) hj
      · have c2' : ¬ nI (l.getD i 0) = nI k := fun e => c2 ((nI_eq (by omega) (by omega)).mp e)
        have p1 : l.getD i 0 = (k :: l).getD (i + 1) 0 := rfl
        have p5 : ∀ j, j < i + 1 → l.getD j 0 ≠ k := fun j hj => by
          by_cases e : j = i
          · rw [e]; exact c2
          · exact q4 j (by omega)
        generalize l.getD i 0 = y at e1 c2' p1
        left
        refine ⟨zi_set (zi_set (zi_set L 4 (.int (nI y))) 2 (.int (nI y))) 3 (.int (nI (i + 1))), zm_mk (zm_up ξ 242 i (nI x)), ⟨0, 21, fun F m hF => ?_⟩, by omega, ?_, ?_, ?_, zi_get_set_eq, _, rfl, p4, y, ?_, ⟨p1, p2, p3, p5⟩⟩
        · simp (maxDischargeDepth := 9) [zg_0, zg_aload_n, zg_dup, zg_getfield, zg_goto, zg_iadd, zg_iaload, zg_iastore, zg_iconst, zg_if_icmp, zg_iinc, zg_iload, zg_iload_n, zg_istore, zg_istore_n, zg_putfield, zg_return, zf_X6_front, zi_ld, zi_lda, zi_cmp, zi_retOk, zi_isI, zi_f3, zi_cr, zi_ci, zi_cn, zi_get_ne, zi_nl_i, zi_nl_r, zi_get_set_eq, nl, g0, g1, g3, g2, c1, zM_g, e12, zm_iald (k := 0) zM_A242 ik, ck, e1, zm_iast zM_A242 ik, c2', nI_1]
        · simp (maxDischargeDepth := 9) [zi_get_ne, zi_nl_i, zi_nl_r, zi_get_set_eq, nl]
        · simp (maxDischargeDepth := 9) [zi_get_ne, zi_nl_i, zi_nl_r, zi_get_set_eq, nl, g0]
        · simp (maxDischargeDepth := 9) [zi_get_ne, zi_nl_i, zi_nl_r, zi_get_set_eq, nl, g1]
        · simp (maxDischargeDepth := 9) [zi_get_ne, zi_nl_i, zi_nl_r, zi_get_set_eq, nl, g2]
    · rintro L _ ⟨-, nl, g0, g1, g3, ξ, rfl, f1, x, g2, hq⟩
      obtain ⟨q1, q2, q3, q4⟩ := hq
      have e12 : ξ 231 12 = nI l.length := (f1 _ _ (by decide)).trans l2
      have c1 : nI l.length ≤ nI l.length := Int32.le_refl _
      have hkl : k ∉ l := fun h => by
        obtain ⟨j, hj, e⟩ := zl_mem_getD h
        exact q4 j hj e
      have hle : (k :: l).length ≤ 10 := zy_nodup_le 10 (k :: l) (List.nodup_cons.mpr ⟨hkl, hd⟩) (fun x hx => by
        rcases List.mem_cons.mp hx with e | e
        · rw [e]; exact hk
        · exact hb x e)
      have hle' : l.length + 1 ≤ 10 := hle
      have ik : zi_in (nI l.length) 10 = true := zm_in (by omega) (by decide)
      have ck : (nI l.length).toNatClampNeg = l.length := nI_clamp (by omega)
      have e12' : zm_up ξ 242 l.length (nI x) 231 12 = nI l.length := (zm_up_ne (by omega)).trans e12
      rw [List.erase_of_not_mem hkl]
      refine ⟨none, zm_mk (zm_up (zm_up ξ 242 l.length (nI x)) 231 12 (nI (l.length + 1))), ⟨0, 17, fun F m hF => ?_⟩, rfl, _, rfl, ⟨hle, by rw [zm_up_eq]; rfl, fun j hj => ?_⟩, fun c d h1 h2 => ?_⟩
      · simp [zg_0, zg_aload_n, zg_dup, zg_getfield, zg_goto, zg_iadd, zg_iaload, zg_iastore, zg_iconst, zg_if_icmp, zg_iinc, zg_iload, zg_iload_n, zg_istore, zg_istore_n, zg_putfield, zg_return, zf_X6_front, zi_ld, zi_lda, zi_cmp, zi_retOk, zi_isI, zi_f3, zi_cr, zi_ci, zi_cn, g0, g2, g3, zM_g, e12, c1, zm_iast zM_A242 ik, ck, e12', nI_add, nI_1, zM_p12]
      · rw [zm_up_ne (by omega), zm_up_pt]
        have hj : j < l.length + 1 := hj
        by_cases e : j = l.length
        · rw [if_pos e, q1, e]
        · rw [if_neg e]; exact q2 j (by omega)
      · rw [zm_up_ne h2, zm_up_ne (by omega)]; exact f1 c d h1
  obtain ⟨r, h', G, rfl, ν, rfl, f⟩ := key
  refine ⟨ν, ze_in [(0, .ref 232), (1, .int (nI k))] zq_Mod_front (Nat.le_of_ble_eq_true rfl) rfl (ze_S.end ⟨0, 4, fun F m hF => ?_⟩ G), f⟩
  simp [zg_0, zg_aload_n, zg_dup, zg_getfield, zg_goto, zg_iadd, zg_iaload, zg_iastore, zg_iconst, zg_if_icmp, zg_iinc, zg_iload, zg_iload_n, zg_istore, zg_istore_n, zg_putfield, zg_return, zf_X6_front, zi_ld, zi_lda, zi_cmp, zi_retOk, zi_isI, zi_f3, zi_cr, zi_ci, zi_cn, zi_get, zi_set, nI_0]
noncomputable def zv_lsb (μ : zm_M) : Int32 := zl_fi (fun s => decide (0 < μ 232 s)) (-1) 3 0
noncomputable def zv_sah (μ : zm_M) : List Nat → Int32
  | [] => zv_lsb μ
  | k :: l => if μ 234 k = 4 then zv_sah μ l else μ 238 k
set_option maxRecDepth 100000 in
theorem ze_MscreenAtHand (D : Nat) {l : List Nat} (hL : zv_L μ 242 12 l) (hb : ∀ x ∈ l, x < 10) : ze_E (D + 1) A_Mod_screenAtHand [.ref 232] (zm_mk μ) (some (.int (zv_sah μ l))) (zm_mk μ) := by
  obtain ⟨l1, l2, l3⟩ := hL
  have key2 : ∀ L0, zi_nl L0 = true → zi_get L0 0 = some (.ref 232) → zi_get L0 1 = some (.int (nI 0)) → ∃ r h', ze_G D 2 (some .int) zc_X6_screenAtHand 45 L0 [] (zm_mk μ) r h' ∧ (r = some (.int (zv_lsb μ)) ∧ zm_mk μ = h') := by
    intro L0 nl0 a0 a1
    refine ze_loop (Q := fun i L hp => i ≤ 3 ∧ zi_nl L = true ∧ zi_get L 0 = some (.ref 232) ∧ zi_get L 1 = some (.int (nI i)) ∧ zm_mk μ = hp ∧ (zv_lsb μ = zl_fi (fun s => decide (0 < μ 232 s)) (-1) (3 - i) i)) (R := fun r h' => r = some (.int (zv_lsb μ)) ∧ zm_mk μ = h') 3 ?_ ?_ 3 0 _ _ (by omega) ⟨by omega, nl0, a0, a1, rfl, rfl⟩
    · rintro i L _ hi ⟨-, nl, g0, g1, rfl, hq⟩
      have c1 : ¬ (3 : Int32) ≤ nI i := nI_ge (b := 3) hi (by decide)
      have ik : zi_in (nI i) 3 = true := zm_in hi (by decide)
      have ck : (nI i).toNatClampNeg = i := nI_clamp (by omega)
      rw [zl_fi_s hi] at hq
      by_cases c2 : 0 < μ 232 i
      · have c2' : ¬ μ 232 i ≤ 0 := Int32.not_le.mpr c2
        rw [if_pos (decide_eq_true c2)] at hq
        right
        refine ⟨some (.int (nI i)), zm_mk μ, ⟨0, 10, fun F m hF => ?_⟩, by rw [hq], rfl⟩
        simp (maxDischargeDepth := 9) [zg_0, zg_aload_n, zg_getfield, zg_goto, zg_iaload, zg_iconst, zg_ifCond, zg_if_icmp, zg_iinc, zg_iload_n, zg_ireturn, zg_istore_n, zf_X6_screenAtHand, zi_ld, zi_lda, zi_cmp, zi_retOk, zi_isI, zi_f3, zi_cr, zi_ci, zi_cn, zi_get_ne, zi_nl_i, zi_nl_r, zi_get_set_eq, nl, g0, g1, c1, zM_g, zm_iald (k := 0) zM_A232 ik, ck, c2', nI_1]
      · have c2' : μ 232 i ≤ 0 := Int32.not_lt.mp c2
        rw [if_neg (fun e => c2 (of_decide_eq_true e))] at hq
        left
        refine ⟨zi_set L 1 (.int (nI (i + 1))), zm_mk μ, ⟨0, 10, fun F m hF => ?_⟩, by omega, ?_, ?_, zi_get_set_eq, rfl, hq⟩
        · simp (maxDischargeDepth := 9) [zg_0, zg_aload_n, zg_getfield, zg_goto, zg_iaload, zg_iconst, zg_ifCond, zg_if_icmp, zg_iinc, zg_iload_n, zg_ireturn, zg_istore_n, zf_X6_screenAtHand, zi_ld, zi_lda, zi_cmp, zi_retOk, zi_isI, zi_f3, zi_cr, zi_ci, zi_cn, zi_get_ne, zi_nl_i, zi_nl_r, zi_get_set_eq, nl, g0, g1, c1, zM_g, zm_iald (k := 0) zM_A232 ik, ck, c2', nI_1]
        · simp (maxDischargeDepth := 9) [zi_get_ne, zi_nl_i, zi_nl_r, zi_get_set_eq, nl]
        · simp (maxDischargeDepth := 9) [zi_get_ne, zi_nl_i, zi_nl_r, zi_get_set_eq, nl, g0]
    · rintro L _ ⟨-, nl, g0, g1, rfl, hq⟩
      have c1 : (3 : Int32) ≤ nI 3 := by decide
      have hq : zv_lsb μ = -1 := hq
      rw [hq]
      refine ⟨_, zm_mk μ, ⟨0, 5, fun F m hF => ?_⟩, rfl, rfl⟩
      simp [zg_0, zg_aload_n, zg_getfield, zg_goto, zg_iaload, zg_iconst, zg_ifCond, zg_if_icmp, zg_iinc, zg_iload_n, zg_ireturn, zg_istore_n, zf_X6_screenAtHand, zi_ld, zi_lda, zi_cmp, zi_retOk, zi_isI, zi_f3, zi_cr, zi_ci, zi_cn, g0, g1, c1]
  have key : ∃ r h', ze_G D 2 (some .int) zc_X6_screenAtHand 2 [(1, .int (nI 0)), (0, .ref 232)] [] (zm_mk μ) r h' ∧ (r = some (.int (zv_sah μ l)) ∧ zm_mk μ = h') := by
    refine ze_loop (Q := fun i L hp => i ≤ l.length ∧ zi_nl L = true ∧ zi_get L 0 = some (.ref 232) ∧ zi_get L 1 = some (.int (nI i)) ∧ zm_mk μ = hp ∧ (zv_sah μ l = zv_sah μ (l.drop i))) (R := fun r h' => r = some (.int (zv_sah μ l)) ∧ zm_mk μ = h') l.length ?_ ?_ l.length 0 _ _ (by omega) ⟨by omega, rfl, rfl, rfl, rfl, rfl⟩
    · rintro i L _ hi ⟨-, nl, g0, g1, rfl, hq⟩
      have c1 : ¬ nI l.length ≤ nI i := nI_ge hi (by omega)
      have ik : zi_in (nI i) 10 = true := zm_in (by omega) (by decide)
      have ck : (nI i).toNatClampNeg = i := nI_clamp (by omega)
      have e1 := l3 i hi
      have hx := hb _ (zl_mem hi)
      rw [zl_drop hi] at hq
      generalize l.getD i 0 = x at e1 hx hq
      have jk : zi_in (nI x) 10 = true := zm_in (by omega) (by decide)
      have cj : (nI x).toNatClampNeg = x := nI_clamp (by omega)
      have hq : zv_sah μ l = if μ 234 x = 4 then zv_sah μ (l.drop (i + 1)) else μ 238 x := hq
      by_cases c2 : μ 234 x = 4
      · rw [if_pos c2] at hq
        left
        refine ⟨zi_set L 1 (.int (nI (i + 1))), zm_mk μ, ⟨0, 15, fun F m hF => ?_⟩, by omega, ?_, ?_, zi_get_set_eq, rfl, hq⟩
        · simp (maxDischargeDepth := 9) [zg_0, zg_aload_n, zg_getfield, zg_goto, zg_iaload, zg_iconst, zg_ifCond, zg_if_icmp, zg_iinc, zg_iload_n, zg_ireturn, zg_istore_n, zf_X6_screenAtHand, zi_ld, zi_lda, zi_cmp, zi_retOk, zi_isI, zi_f3, zi_cr, zi_ci, zi_cn, zi_get_ne, zi_nl_i, zi_nl_r, zi_get_set_eq, nl, g0, g1, c1, zM_g, l2, zm_iald (k := 0) zM_A242 ik, ck, e1, zm_iald (k := 0) zM_A234 jk, cj, c2, nI_1]
        · simp (maxDischargeDepth := 9) [zi_get_ne, zi_nl_i, zi_nl_r, zi_get_set_eq, nl]
        · simp (maxDischargeDepth := 9) [zi_get_ne, zi_nl_i, zi_nl_r, zi_get_set_eq, nl, g0]
      · rw [if_neg c2] at hq
        right
        refine ⟨some (.int (μ 238 x)), zm_mk μ, ⟨0, 21, fun F m hF => ?_⟩, by rw [hq], rfl⟩
        simp (maxDischargeDepth := 9) [zg_0, zg_aload_n, zg_getfield, zg_goto, zg_iaload, zg_iconst, zg_ifCond, zg_if_icmp, zg_iinc, zg_iload_n, zg_ireturn, zg_istore_n, zf_X6_screenAtHand, zi_ld, zi_lda, zi_cmp, zi_retOk, zi_isI, zi_f3, zi_cr, zi_ci, zi_cn, zi_get_ne, zi_nl_i, zi_nl_r, zi_get_set_eq, nl, g0, g1, c1, zM_g, l2, zm_iald (k := 0) zM_A242 ik, ck, e1, zm_iald (k := 0) zM_A234 jk, cj, c2, zm_iald (k := 0) zM_A238 jk, nI_1]
    · rintro L _ ⟨-, nl, g0, g1, rfl, hq⟩
      have c1 : nI l.length ≤ nI l.length := Int32.le_refl _
      rw [List.drop_length] at hq
      have hq : zv_sah μ l = zv_lsb μ := hq
      have b0 : zi_nl (zi_set L 1 (.int (nI 0))) = true := by simp (maxDischargeDepth := 9) [zi_get_ne, zi_nl_i, zi_nl_r, zi_get_set_eq, nl]
      have b1 : zi_get (zi_set L 1 (.int (nI 0))) 0 = some (.ref 232) := by simp (maxDischargeDepth := 9) [zi_get_ne, zi_nl_i, zi_nl_r, zi_get_set_eq, nl, g0]
      obtain ⟨r, h', G, hr, hh⟩ := key2 _ b0 b1 zi_get_set_eq
      refine ⟨r, h', ze_S.end ⟨0, 6, fun F m hF => ?_⟩ G, by rw [hr, hq], hh⟩
      simp (maxDischargeDepth := 9) [zg_0, zg_aload_n, zg_getfield, zg_goto, zg_iaload, zg_iconst, zg_ifCond, zg_if_icmp, zg_iinc, zg_iload_n, zg_ireturn, zg_istore_n, zf_X6_screenAtHand, zi_ld, zi_lda, zi_cmp, zi_retOk, zi_isI, zi_f3, zi_cr, zi_ci, zi_cn, zi_get_ne, zi_nl_i, zi_nl_r, zi_get_set_eq, nl, g0, g1, zM_g, l2, c1, nI_0]
  obtain ⟨r, h', G, rfl, rfl⟩ := key
  refine ze_in [(0, .ref 232)] zq_Mod_screenAtHand (Nat.le_of_ble_eq_true rfl) rfl (ze_S.end ⟨0, 2, fun F m hF => ?_⟩ G)
  simp [zg_0, zg_aload_n, zg_getfield, zg_goto, zg_iaload, zg_iconst, zg_ifCond, zg_if_icmp, zg_iinc, zg_iload_n, zg_ireturn, zg_istore_n, zf_X6_screenAtHand, zi_ld, zi_lda, zi_cmp, zi_retOk, zi_isI, zi_f3, zi_cr, zi_ci, zi_cn, zi_get, zi_set, nI_0]
end ZVC
end
section
/-! windows packed into a long, four bits each -/
noncomputable def zv_pn (c : List Nat) : Nat := c.foldr (fun x a => x + 16 * a) 0
theorem zv_pn_app : ∀ (c : List Nat) (x : Nat), zv_pn (c ++ [x]) = zv_pn c + 16 ^ c.length * x
  | [], x => by
    show x + 16 * 0 = 0 + 16 ^ 0 * x
    omega
  | a :: c, x => by
    show a + 16 * zv_pn (c ++ [x]) = a + 16 * zv_pn c + 16 ^ (c.length + 1) * x
    rw [zv_pn_app c x, Nat.pow_succ, Nat.mul_add, Nat.mul_comm (16 ^ c.length) 16, Nat.mul_assoc]
    omega
theorem zv_pn_lt : ∀ (c : List Nat), (∀ x ∈ c, x < 10) → zv_pn c < 16 ^ c.length
  | [], _ => by decide
  | a :: c, h => by
    show a + 16 * zv_pn c < 16 ^ (c.length + 1)
    have h1 := zv_pn_lt c (fun x hx => h x (List.mem_cons_of_mem _ hx))
    have h2 := h a List.mem_cons_self
    rw [Nat.pow_succ]
    omega
theorem zv_pn_dec : ∀ (c : List Nat) (i : Nat), (∀ x ∈ c, x < 10) → zv_pn c / 16 ^ i % 16 = c.getD i 0
  | [], i, _ => by
    show 0 / 16 ^ i % 16 = 0
    rw [Nat.zero_div]
  | a :: c, 0, h => by
    have h2 := h a List.mem_cons_self
    show (a + 16 * zv_pn c) / 16 ^ 0 % 16 = a
    rw [Nat.pow_zero, Nat.div_one]
    omega
  | a :: c, i + 1, h => by
    have h2 := h a List.mem_cons_self
    show (a + 16 * zv_pn c) / 16 ^ (i + 1) % 16 = c.getD i 0
    rw [Nat.pow_succ, Nat.mul_comm (16 ^ i) 16, ← Nat.div_div_eq_div_mul]
    have : (a + 16 * zv_pn c) / 16 = zv_pn c := by omega
    rw [this]
    exact zv_pn_dec c i (fun x hx => h x (List.mem_cons_of_mem _ hx))
theorem zv_sh63 : ∀ n, n < 10 → ((nI (4 * n)).toInt64 &&& 63).toBitVec.smod 64 = BitVec.ofNat 64 (4 * n) := by decide +kernel
theorem zv_i64 : ∀ x, x < 10 → (nI x).toInt64.toBitVec = BitVec.ofNat 64 x := by decide +kernel
theorem zv_i32 : ∀ x, x < 16 → (Int64.ofBitVec (BitVec.ofNat 64 x)).toInt32 = nI x := by decide +kernel
theorem zv_16 (n : Nat) : 16 ^ n = 2 ^ (4 * n) := by rw [Nat.pow_mul]
theorem zv_16le {n : Nat} (h : n ≤ 10) : 2 ^ (4 * n) ≤ 2 ^ 40 := Nat.pow_le_pow_right (by decide) (by omega)
/-- one more -/
theorem zv_enc {W : Int64} {c : List Nat} {x : Nat} (hW : W.toBitVec.toNat = zv_pn c) (hc : ∀ y ∈ c, y < 10) (hx : x < 10) (hn : c.length < 10) : (W ||| ((nI x).toInt64 <<< ((nI (4 * c.length)).toInt64 &&& 63))).toBitVec.toNat = zv_pn (c ++ [x]) := by
  rw [Int64.toBitVec_or, Int64.toBitVec_shiftLeft, zv_sh63 _ hn, zv_i64 x hx, BitVec.toNat_or, hW, zv_pn_app]
  have hlt := zv_pn_lt c hc
  rw [zv_16] at hlt ⊢
  have hle := zv_16le (n := c.length + 1) (by omega)
  rw [BitVec.shiftLeft_eq', BitVec.toNat_shiftLeft, BitVec.toNat_ofNat, BitVec.toNat_ofNat, Nat.mod_eq_of_lt (a := 4 * c.length) (by omega), Nat.mod_eq_of_lt (a := x) (by omega), Nat.shiftLeft_eq]
  have h4 : 2 ^ (4 * (c.length + 1)) = 2 ^ (4 * c.length) * 16 := by rw [Nat.mul_add, Nat.pow_add]
  rw [h4] at hle
  have hb : x * 2 ^ (4 * c.length) < 2 ^ 64 := by
    have : x * 2 ^ (4 * c.length) ≤ 16 * 2 ^ (4 * c.length) := Nat.mul_le_mul_right _ (by omega)
    omega
  rw [Nat.mod_eq_of_lt hb, Nat.or_comm, ← Nat.shiftLeft_eq, ← Nat.shiftLeft_add_eq_or_of_lt hlt, Nat.shiftLeft_eq, Nat.add_comm, Nat.mul_comm]
/-- the one at i -/
theorem zv_dec {W : Int64} {c : List Nat} {i : Nat} (hW : W.toBitVec.toNat = zv_pn c) (hc : ∀ y ∈ c, y < 10) (hn : c.length ≤ 10) (hi : i < c.length) : ((W >>> ((nI (4 * i)).toInt64 &&& 63)) &&& 15).toInt32 = nI (c.getD i 0) := by
  have hlt := zv_pn_lt c hc
  rw [zv_16] at hlt
  have hle := zv_16le hn
  have hm : W.toBitVec.msb = false := by
    rw [BitVec.msb_eq_false_iff_two_mul_lt, hW]
    have : (2 : Nat) ^ 40 * 2 ≤ 2 ^ 64 := by decide
    omega
  have hd := zv_pn_dec c i hc
  have h10 : c.getD i 0 < 10 := hc _ (zl_mem hi)
  have e : (W >>> ((nI (4 * i)).toInt64 &&& 63)) &&& 15 = Int64.ofBitVec (BitVec.ofNat 64 (c.getD i 0)) := by
    apply Int64.toBitVec_inj.mp
    rw [Int64.toBitVec_and, Int64.toBitVec_shiftRight, zv_sh63 _ (by omega), Int64.toBitVec_ofBitVec]
    apply BitVec.eq_of_toNat_eq
    have e15 : (15 : Int64).toBitVec.toNat = 2 ^ 4 - 1 := by decide
    rw [BitVec.toNat_and, e15, Nat.and_two_pow_sub_one_eq_mod]
    have : (W.toBitVec.sshiftRight' (BitVec.ofNat 64 (4 * i))).toNat = zv_pn c / 16 ^ i := by
      rw [BitVec.sshiftRight_eq', BitVec.sshiftRight_eq_of_msb_false hm, BitVec.toNat_ushiftRight, hW, BitVec.toNat_ofNat, Nat.mod_eq_of_lt (by omega), Nat.shiftRight_eq_div_pow, zv_16]
    rw [this, BitVec.toNat_ofNat, Nat.mod_eq_of_lt (a := c.getD i 0) (by omega)]
    exact hd
  rw [e, zv_i32 _ (by omega)]
end
section
/-! the reference: raise -/
noncomputable def zi_n3 (L : zi_Lc) : Bool := L.all (fun q => q.2.category == 1 || q.1 == 3)
theorem zi_n3_i {L : zi_Lc} {k : Nat} {x : Int32} (h : zi_n3 L = true) : zi_n3 (zi_set L k (.int x)) = true := by
  unfold zi_n3 at *
  unfold zi_set
  rw [List.all_eq_true] at *
  intro q hq
  rcases List.mem_cons.mp hq with rfl | hq
  · rfl
  · exact h q (List.mem_filter.mp hq).1
theorem zi_n3_2 {L : zi_Lc} {x : Int64} (h : zi_n3 L = true) : zi_n3 (zi_set2 L 3 (.long x)) = true := by
  unfold zi_n3 at *
  unfold zi_set2
  rw [List.all_eq_true] at *
  intro q hq
  rcases List.mem_cons.mp hq with rfl | hq
  · rfl
  · exact h q (List.mem_filter.mp hq).1
theorem zi_find_filter {L : zi_Lc} {j : Nat} {p : Nat × Value → Bool} (h : ∀ q ∈ L, q.1 = j → p q = true) : (L.filter p).find? (fun q => q.1 == j) = L.find? (fun q => q.1 == j) := by
  induction L with
  | nil => rfl
  | cons a L ih =>
    have ih := ih (fun q hq => h q (List.mem_cons_of_mem _ hq))
    by_cases e : a.1 = j
    · have e' : (a.1 == j) = true := by simp [e]
      rw [List.filter_cons_of_pos (h a List.mem_cons_self e), List.find?_cons, List.find?_cons, e']
    · have e' : (a.1 == j) = false := by simp [e]
      rw [List.find?_cons (a := a), e']
      by_cases g : p a = true
      · rw [List.filter_cons_of_pos g, List.find?_cons, e']
        exact ih
      · rw [List.filter_cons_of_neg g]
        exact ih
theorem zi_g3_ne {L : zi_Lc} {j k : Nat} {v : Value} (h : zi_n3 L = true) (hj : j ≠ k) (hk : k ≠ 4) : zi_get (zi_set L k v) j = zi_get L j := by
  have h0 : (k == j) = false := by simpa using Ne.symm hj
  unfold zi_get zi_set
  rw [List.find?_cons, h0]
  dsimp only
  rw [zi_find_filter]
  intro q hq e
  have h1 := List.all_eq_true.mp h q hq
  have e1 : (q.1 == k) = false := by simp [e, hj]
  rw [e1]
  rcases Bool.or_eq_true_iff.mp h1 with h2 | h2
  · have : (q.2.category == 2) = false := by
      have h3 : q.2.category = 1 := by simpa using h2
      rw [h3]; rfl
    rw [this, Bool.and_false]
    rfl
  · have h3 : q.1 = 3 := by simpa using h2
    have : (q.1 + 1 == k) = false := by
      rw [h3]
      simpa using Ne.symm hk
    rw [this]
    rfl
theorem zi_g3_2ne {L : zi_Lc} {j : Nat} {v : Value} (h : zi_n3 L = true) (hj : j ≠ 3) (hj4 : j ≠ 4) : zi_get (zi_set2 L 3 v) j = zi_get L j := by
  have h0 : (3 == j) = false := by simpa using Ne.symm hj
  unfold zi_get zi_set2
  rw [List.find?_cons, h0]
  dsimp only
  rw [zi_find_filter]
  intro q hq e
  have h1 := List.all_eq_true.mp h q hq
  have e1 : (q.1 == 3) = false := by simp [e, hj]
  have e2 : (q.1 == 3 + 1) = false := by simp [e, hj4]
  rw [e1, e2]
  rcases Bool.or_eq_true_iff.mp h1 with h2 | h2
  · have : (q.2.category == 2) = false := by
      have h3 : q.2.category = 1 := by simpa using h2
      rw [h3]; rfl
    rw [this, Bool.and_false]
    rfl
  · rw [e1] at h2
    cases h2
theorem zi_g3_2eq {L : zi_Lc} {k : Nat} {v : Value} : zi_get (zi_set2 L k v) k = some v := by
  simp [zi_get, zi_set2]
theorem zl_take_p {l : List Nat} {i : Nat} {p : Nat → Bool} (hi : i < l.length) : (l.take (i + 1)).filter p = (l.take i).filter p ++ if p (l.getD i 0) = true then [l.getD i 0] else [] := by
  rw [List.take_add_one, List.getElem?_eq_getElem hi, Option.toList_some, List.filter_append]
  have e : l.getD i 0 = l[i] := by rw [List.getD_eq_getElem?_getD, List.getElem?_eq_getElem hi]; rfl
  rw [e]
  congr 1
  by_cases c : p l[i] = true
  · rw [if_pos c, List.filter_cons_of_pos c]
    rfl
  · rw [if_neg c, List.filter_cons_of_neg c]
    rfl
theorem zv_nodup10 {l : List Nat} (hd : l.Nodup) (hb : ∀ x ∈ l, x < 10) : l.length ≤ 10 := zy_nodup_le 10 l hd hb
section ZVD
variable {μ : zm_M}
/-- the first step of raise: the window on top -/
theorem zv_raise0 (D : Nat) {k : Nat} (hk : k < 10) {l : List Nat} (hL : zv_L μ 241 10 l) (hd : l.Nodup) (hb : ∀ x ∈ l, x < 10) : ∃ ν l', ze_S (D + 1) 6 none zc_X6_raise 0 [(0, .ref 232), (1, .int (nI k))] [] (zm_mk μ) 33 [(0, .ref 232), (1, .int (nI k))] [] (zm_mk ν) ∧ zv_L ν 241 10 l' ∧ l'.Nodup ∧ (∀ x, x ∈ l' ↔ x ∈ l ∨ (x = k ∧ 2 ≤ μ 234 k)) ∧ ∀ c d, c ≠ 241 → ¬ (c = 231 ∧ d = 10) → ν c d = μ c d := by
  obtain ⟨lc, cM⟩ := zM_c (μ := μ)
  obtain ⟨N1, E1⟩ := ze_MisFloating (μ := μ) D hk
  by_cases c : 2 ≤ μ 234 k
  · rw [if_pos c] at E1
    obtain ⟨ν, ⟨N2, E2⟩, ⟨b1, b2, b3⟩, b4⟩ := ze_Munstack (μ := μ) D hk hL hb
    have hd' : (l.filter (fun x => decide (x ≠ k)) ++ [k]).Nodup := by
      refine List.nodup_append.mpr ⟨hd.filter _, by simp, fun a ha b hb2 => ?_⟩
      rw [List.mem_singleton.mp hb2]
      exact of_decide_eq_true (List.mem_filter.mp ha).2
    have hb' : ∀ x ∈ l.filter (fun x => decide (x ≠ k)) ++ [k], x < 10 := fun x hx => by
      rcases List.mem_append.mp hx with h | h
      · exact hb x (List.mem_filter.mp h).1
      · rw [List.mem_singleton.mp h]; exact hk
    have hlen := zv_nodup10 hd' hb'
    have hmem : ∀ x, x ∈ l.filter (fun x => decide (x ≠ k)) ++ [k] ↔ x ∈ l ∨ (x = k ∧ 2 ≤ μ 234 k) := fun x => by
      rw [List.mem_append, List.mem_singleton, List.mem_filter]
      constructor
      · rintro (h | h)
        · exact Or.inl h.1
        · exact Or.inr ⟨h, c⟩
      · rintro (h | h)
        · by_cases e : x = k
          · exact Or.inr e
          · exact Or.inl ⟨h, decide_eq_true e⟩
        · exact Or.inr h.1
    generalize l.filter (fun x => decide (x ≠ k)) = f at *
    rw [List.length_append] at hlen
    have hlen : f.length + 1 ≤ 10 := hlen
    have ik : zi_in (nI f.length) 10 = true := zm_in (by omega) (by decide)
    have ck : (nI f.length).toNatClampNeg = f.length := nI_clamp (by omega)
    have e10 : zm_up ν 241 f.length (nI k) 231 10 = nI f.length := (zm_up_ne (by omega)).trans b2
    refine ⟨zm_up (zm_up ν 241 f.length (nI k)) 231 10 (nI (f.length + 1)), f ++ [k], ⟨N1 + N2, 19, fun F m hF => ?_⟩, ⟨by rw [List.length_append]; exact hlen, by rw [zm_up_eq, List.length_append]; rfl, fun j hj => ?_⟩, hd', hmem, fun c d h1 h2 => ?_⟩
    · simp [zg_0, zg_aload_n, zg_dup, zg_getfield, zg_goto, zg_i2l, zg_iadd, zg_iaload, zg_iastore, zg_iconst, zg_ifCond, zg_if_icmp, zg_iinc, zg_iload, zg_iload_n, zg_imul, zg_invokevirtual, zg_istore, zg_istore_n, zg_l2i, zg_land, zg_lconst, zg_ldc2_w, zg_lload_n, zg_lor, zg_lshl, zg_lshr, zg_lstore_n, zg_putfield, zg_return, zf_X6_raise, zi_ld, zi_lda, zi_cmp, zi_retOk, zi_isI, zi_f3, zi_cr, zi_ci, zi_cn, zi_get, zi_set, zM_g, cM, zq_Mod_isFloating, zq_Mod_unstack, E1 F (by omega), E2 F (by omega), b2, zm_iast zM_A241 ik, ck, e10, nI_add, nI_1, zM_p10]
    · rw [List.length_append] at hj
      have hj : j < f.length + 1 := hj
      rw [zm_up_ne (by omega), zm_up_pt]
      by_cases e : j = f.length
      · rw [if_pos e, e, zl_getD_r (Nat.le_refl _), Nat.sub_self]
        rfl
      · rw [if_neg e, zl_getD_l (by omega)]
        exact b3 j (by omega)
    · rw [zm_up_ne h2, zm_up_ne (by omega)]
      exact b4 c d h1 h2
  · rw [if_neg c] at E1
    refine ⟨μ, l, ⟨N1, 4, fun F m hF => ?_⟩, hL, hd, fun x => ⟨Or.inl, fun h => h.elim id (fun h => absurd h.2 c)⟩, fun _ _ _ _ => rfl⟩
    simp [zg_0, zg_aload_n, zg_dup, zg_getfield, zg_goto, zg_i2l, zg_iadd, zg_iaload, zg_iastore, zg_iconst, zg_ifCond, zg_if_icmp, zg_iinc, zg_iload, zg_iload_n, zg_imul, zg_invokevirtual, zg_istore, zg_istore_n, zg_l2i, zg_land, zg_lconst, zg_ldc2_w, zg_lload_n, zg_lor, zg_lshl, zg_lshr, zg_lstore_n, zg_putfield, zg_return, zf_X6_raise, zi_ld, zi_lda, zi_cmp, zi_retOk, zi_isI, zi_f3, zi_cr, zi_ci, zi_cn, zi_get, zi_set, zM_g, cM, zq_Mod_isFloating, E1 F (by omega)]
set_option maxRecDepth 100000 in
/-- its dialogs are gathered -/
theorem zv_raise1 (D : Nat) {k : Nat} (hk : k < 10) {l : List Nat} (hL : zv_L μ 241 10 l) (hb : ∀ x ∈ l, x < 10) (ho : ∀ x ∈ l, μ 234 x = 3 → ∃ o, o < 10 ∧ μ 237 x = nI o) :
    ∃ L' h', ze_S D 6 none zc_X6_raise 33 [(0, .ref 232), (1, .int (nI k))] [] (zm_mk μ) 108 L' [] h' ∧ (zm_mk μ = h' ∧ zi_n3 L' = true ∧ zi_get L' 0 = some (.ref 232) ∧ zi_get L' 1 = some (.int (nI k)) ∧ zi_get L' 5 = some (.int (nI 0)) ∧ zi_get L' 2 = some (.int (nI (l.filter (fun x => decide (μ 234 x = 3 ∧ μ 237 x = nI k))).length)) ∧ ∃ W : Int64, zi_get L' 3 = some (.long W) ∧ W.toBitVec.toNat = zv_pn (l.filter (fun x => decide (μ 234 x = 3 ∧ μ 237 x = nI k)))) := by
  obtain ⟨l1, l2, l3⟩ := hL
  have s0 : ze_S D 6 none zc_X6_raise 33 [(0, .ref 232), (1, .int (nI k))] [] (zm_mk μ) 40 [(5, .int (nI 0)), (3, .long 0), (2, .int (nI 0)), (0, .ref 232), (1, .int (nI k))] [] (zm_mk μ) := by
    refine ⟨0, 6, fun F m hF => ?_⟩
    simp [zg_0, zg_aload_n, zg_dup, zg_getfield, zg_goto, zg_i2l, zg_iadd, zg_iaload, zg_iastore, zg_iconst, zg_ifCond, zg_if_icmp, zg_iinc, zg_iload, zg_iload_n, zg_imul, zg_invokevirtual, zg_istore, zg_istore_n, zg_l2i, zg_land, zg_lconst, zg_ldc2_w, zg_lload_n, zg_lor, zg_lshl, zg_lshr, zg_lstore_n, zg_putfield, zg_return, zf_X6_raise, zi_ld, zi_lda, zi_cmp, zi_retOk, zi_isI, zi_f3, zi_cr, zi_ci, zi_cn, zi_get, zi_set, zi_set2, nI_0]
  have key := ze_loopS (D := D) (nL := 6) (ret := none) (code0 := zc_X6_raise) (pc := 40) (pc2 := 108) (Q := fun i L hp => zm_mk μ = hp ∧ zi_n3 L = true ∧ zi_get L 0 = some (.ref 232) ∧ zi_get L 1 = some (.int (nI k)) ∧ zi_get L 5 = some (.int (nI i)) ∧ zi_get L 2 = some (.int (nI ((l.take i).filter (fun x => decide (μ 234 x = 3 ∧ μ 237 x = nI k))).length)) ∧ ∃ W : Int64, zi_get L 3 = some (.long W) ∧ W.toBitVec.toNat = zv_pn ((l.take i).filter (fun x => decide (μ 234 x = 3 ∧ μ 237 x = nI k))))
    (R := fun L' h' => zm_mk μ = h' ∧ zi_n3 L' = true ∧ zi_get L' 0 = some (.ref 232) ∧ zi_get L' 1 = some (.int (nI k)) ∧ zi_get L' 5 = some (.int (nI 0)) ∧ zi_get L' 2 = some (.int (nI (l.filter (fun x => decide (μ 234 x = 3 ∧ μ 237 x = nI k))).length)) ∧ ∃ W : Int64, zi_get L' 3 = some (.long W) ∧ W.toBitVec.toNat = zv_pn (l.filter (fun x => decide (μ 234 x = 3 ∧ μ 237 x = nI k)))) l.length ?_ ?_ l.length 0 [(5, .int (nI 0)), (3, .long 0), (2, .int (nI 0)), (0, .ref 232), (1, .int (nI k))] (zm_mk μ) (by omega) ⟨rfl, rfl, rfl, rfl, rfl, rfl, 0, rfl, rfl⟩
  · obtain ⟨L', h', s, r⟩ := key
    exact ⟨L', h', s0.trans s, r⟩
  · rintro i L _ hi ⟨rfl, nl, g0, g1, g5, g2, W, g3, hW⟩
    have c1 : ¬ nI l.length ≤ nI i := nI_ge hi (by omega)
    have ik : zi_in (nI i) 10 = true := zm_in (by omega) (by decide)
    have ck : (nI i).toNatClampNeg = i := nI_clamp (by omega)
    have e1 := l3 i hi
    have hxm := zl_mem hi
    have hx := hb _ hxm
    have ef := zl_take_p (p := fun x => decide (μ 234 x = 3 ∧ μ 237 x = nI k)) hi
    have hfb : ∀ y ∈ (l.take i).filter (fun x => decide (μ 234 x = 3 ∧ μ 237 x = nI k)), y < 10 := fun y hy => hb y (List.mem_of_mem_take (List.mem_filter.mp hy).1)
    have hfl : ((l.take i).filter (fun x => decide (μ 234 x = 3 ∧ μ 237 x = nI k))).length ≤ i := zl_fl_le
    generalize (l.take i).filter (fun x => decide (μ 234 x = 3 ∧ μ 237 x = nI k)) = f at *
    generalize (l.take (i + 1)).filter (fun x => decide (μ 234 x = 3 ∧ μ 237 x = nI k)) = f' at *
    generalize l.getD i 0 = x at *
    have jk : zi_in (nI x) 10 = true := zm_in (by omega) (by decide)
    have cj : (nI x).toNatClampNeg = x := nI_clamp (by omega)
    by_cases c2 : μ 234 x = 3
    · by_cases c3 : μ 237 x = nI k
      · rw [if_pos (decide_eq_true ⟨c2, c3⟩)] at ef
        subst ef
        have m4 : (4 : Int32) * nI f.length = nI (4 * f.length) := by
          have : ∀ n, n < 10 → (4 : Int32) * nI n = nI (4 * n) := by decide
          exact this _ (by omega)
        have hW' := zv_enc (x := x) hW hfb hx (by omega)
        generalize hV : (W ||| ((nI x).toInt64 <<< ((nI (4 * f.length)).toInt64 &&& 63))) = V at hW'
        refine ⟨zi_set (zi_set (zi_set2 L 3 (.long V)) 2 (.int (nI (f.length + 1)))) 5 (.int (nI (i + 1))), zm_mk μ, ⟨0, 37, fun F m hF => ?_⟩, rfl, ?_, ?_, ?_, zi_get_set_eq, ?_, V, ?_, hW'⟩
        · simp (maxDischargeDepth := 9) [zg_0, zg_aload_n, zg_dup, zg_getfield, zg_goto, zg_i2l, zg_iadd, zg_iaload, zg_iastore, zg_iconst, zg_ifCond, zg_if_icmp, zg_iinc, zg_iload, zg_iload_n, zg_imul, zg_invokevirtual, zg_istore, zg_istore_n, zg_l2i, zg_land, zg_lconst, zg_ldc2_w, zg_lload_n, zg_lor, zg_lshl, zg_lshr, zg_lstore_n, zg_putfield, zg_return, zf_X6_raise, zi_ld, zi_lda, zi_cmp, zi_retOk, zi_isI, zi_f3, zi_cr, zi_ci, zi_cn, zi_g3_ne, zi_n3_i, zi_n3_2, zi_g3_2ne, zi_g3_2eq, zi_get_set_eq, nl, g0, g1, g5, g2, g3, c1, zM_g, l2, zm_iald (k := 0) zM_A241 ik, ck, e1, zm_iald (k := 0) zM_A234 jk, zm_iald (k := 0) zM_A237 jk, cj, c2, c3, m4, hV, nI_add, nI_1]
        · simp (maxDischargeDepth := 9) [zi_g3_ne, zi_n3_i, zi_n3_2, zi_g3_2ne, zi_g3_2eq, zi_get_set_eq, nl]
        · simp (maxDischargeDepth := 9) [zi_g3_ne, zi_n3_i, zi_n3_2, zi_g3_2ne, zi_g3_2eq, zi_get_set_eq, nl, g0]
        · simp (maxDischargeDepth := 9) [zi_g3_ne, zi_n3_i, zi_n3_2, zi_g3_2ne, zi_g3_2eq, zi_get_set_eq, nl, g1]
        · rw [List.length_append]
          simp (maxDischargeDepth := 9) [zi_g3_ne, zi_n3_i, zi_n3_2, zi_g3_2ne, zi_g3_2eq, zi_get_set_eq, nl]
        · simp (maxDischargeDepth := 9) [zi_g3_ne, zi_n3_i, zi_n3_2, zi_g3_2ne, zi_g3_2eq, zi_get_set_eq, nl]
      · rw [if_neg (fun e => c3 (of_decide_eq_true e).2), List.append_nil] at ef
        subst ef
        obtain ⟨o, ho1, ho2⟩ := ho x hxm c2
        have c3' : ¬ nI o = nI k := fun e => c3 (ho2.trans e)
        refine ⟨zi_set L 5 (.int (nI (i + 1))), zm_mk μ, ⟨0, 24, fun F m hF => ?_⟩, rfl, ?_, ?_, ?_, zi_get_set_eq, ?_, W, ?_, hW⟩
        · simp (maxDischargeDepth := 9) [zg_0, zg_aload_n, zg_dup, zg_getfield, zg_goto, zg_i2l, zg_iadd, zg_iaload, zg_iastore, zg_iconst, zg_ifCond, zg_if_icmp, zg_iinc, zg_iload, zg_iload_n, zg_imul, zg_invokevirtual, zg_istore, zg_istore_n, zg_l2i, zg_land, zg_lconst, zg_ldc2_w, zg_lload_n, zg_lor, zg_lshl, zg_lshr, zg_lstore_n, zg_putfield, zg_return, zf_X6_raise, zi_ld, zi_lda, zi_cmp, zi_retOk, zi_isI, zi_f3, zi_cr, zi_ci, zi_cn, zi_g3_ne, zi_n3_i, zi_get_set_eq, nl, g0, g1, g5, g2, g3, c1, zM_g, l2, zm_iald (k := 0) zM_A241 ik, ck, e1, zm_iald (k := 0) zM_A234 jk, zm_iald (k := 0) zM_A237 jk, cj, c2, ho2, c3', nI_add, nI_1]
        · simp (maxDischargeDepth := 9) [zi_g3_ne, zi_n3_i, zi_get_set_eq, nl]
        · simp (maxDischargeDepth := 9) [zi_g3_ne, zi_n3_i, zi_get_set_eq, nl, g0]
        · simp (maxDischargeDepth := 9) [zi_g3_ne, zi_n3_i, zi_get_set_eq, nl, g1]
        · simp (maxDischargeDepth := 9) [zi_g3_ne, zi_n3_i, zi_get_set_eq, nl, g2]
        · simp (maxDischargeDepth := 9) [zi_g3_ne, zi_n3_i, zi_get_set_eq, nl, g3]
    · rw [if_neg (fun e => c2 (of_decide_eq_true e).1), List.append_nil] at ef
      subst ef
      refine ⟨zi_set L 5 (.int (nI (i + 1))), zm_mk μ, ⟨0, 15, fun F m hF => ?_⟩, rfl, ?_, ?_, ?_, zi_get_set_eq, ?_, W, ?_, hW⟩
      · simp (maxDischargeDepth := 9) [zg_0, zg_aload_n, zg_dup, zg_getfield, zg_goto, zg_i2l, zg_iadd, zg_iaload, zg_iastore, zg_iconst, zg_ifCond, zg_if_icmp, zg_iinc, zg_iload, zg_iload_n, zg_imul, zg_invokevirtual, zg_istore, zg_istore_n, zg_l2i, zg_land, zg_lconst, zg_ldc2_w, zg_lload_n, zg_lor, zg_lshl, zg_lshr, zg_lstore_n, zg_putfield, zg_return, zf_X6_raise, zi_ld, zi_lda, zi_cmp, zi_retOk, zi_isI, zi_f3, zi_cr, zi_ci, zi_cn, zi_g3_ne, zi_n3_i, zi_get_set_eq, nl, g0, g1, g5, g2, g3, c1, zM_g, l2, zm_iald (k := 0) zM_A241 ik, ck, e1, zm_iald (k := 0) zM_A234 jk, cj, c2, nI_add, nI_1]
      · simp (maxDischargeDepth := 9) [zi_g3_ne, zi_n3_i, zi_get_set_eq, nl]
      · simp (maxDischargeDepth := 9) [zi_g3_ne, zi_n3_i, zi_get_set_eq, nl, g0]
      · simp (maxDischargeDepth := 9) [zi_g3_ne, zi_n3_i, zi_get_set_eq, nl, g1]
      · simp (maxDischargeDepth := 9) [zi_g3_ne, zi_n3_i, zi_get_set_eq, nl, g2]
      · simp (maxDischargeDepth := 9) [zi_g3_ne, zi_n3_i, zi_get_set_eq, nl, g3]
  · rintro L _ ⟨rfl, nl, g0, g1, g5, g2, W, g3, hW⟩
    rw [List.take_length] at g2 hW
    have c1 : nI l.length ≤ nI l.length := Int32.le_refl _
    refine ⟨zi_set L 5 (.int (nI 0)), zm_mk μ, ⟨0, 6, fun F m hF => ?_⟩, rfl, ?_, ?_, ?_, zi_get_set_eq, ?_, W, ?_, hW⟩
    · simp (maxDischargeDepth := 9) [zg_0, zg_aload_n, zg_dup, zg_getfield, zg_goto, zg_i2l, zg_iadd, zg_iaload, zg_iastore, zg_iconst, zg_ifCond, zg_if_icmp, zg_iinc, zg_iload, zg_iload_n, zg_imul, zg_invokevirtual, zg_istore, zg_istore_n, zg_l2i, zg_land, zg_lconst, zg_ldc2_w, zg_lload_n, zg_lor, zg_lshl, zg_lshr, zg_lstore_n, zg_putfield, zg_return, zf_X6_raise, zi_ld, zi_lda, zi_cmp, zi_retOk, zi_isI, zi_f3, zi_cr, zi_ci, zi_cn, zi_g3_ne, zi_n3_i, zi_get_set_eq, nl, g0, g1, g5, g2, g3, c1, zM_g, l2, nI_0]
    · simp (maxDischargeDepth := 9) [zi_g3_ne, zi_n3_i, zi_get_set_eq, nl]
    · simp (maxDischargeDepth := 9) [zi_g3_ne, zi_n3_i, zi_get_set_eq, nl, g0]
    · simp (maxDischargeDepth := 9) [zi_g3_ne, zi_n3_i, zi_get_set_eq, nl, g1]
    · simp (maxDischargeDepth := 9) [zi_g3_ne, zi_n3_i, zi_get_set_eq, nl, g2]
    · simp (maxDischargeDepth := 9) [zi_g3_ne, zi_n3_i, zi_get_set_eq, nl, g3]
end ZVD
end
section
/-! the reference: raise whole -/
section ZVE
variable {rk : Nat → Nat} {B : Nat} {K O : Nat → Int32}
set_option maxRecDepth 100000 in
theorem ze_Mraise (hB : ∀ x, x < 10 → rk x ≤ B) (hr : ∀ o k, o < 10 → k < 10 → K o = 3 → O o = nI k → rk k < rk o) : ∀ (n k D : Nat), k < 10 → B - rk k ≤ n → ∀ (μ : zm_M) (l : List Nat), (∀ x, x < 10 → μ 234 x = K x ∧ μ 237 x = O x) → zv_L μ 241 10 l → l.Nodup → (∀ x ∈ l, x < 10) → (∀ x, x < 10 → K x = 3 → ∃ o, o < 10 ∧ O x = nI o) →
    ∃ ν l', ze_E (D + 2 + n) A_Mod_raise [.ref 232, .int (nI k)] (zm_mk μ) none (zm_mk ν) ∧ zv_L ν 241 10 l' ∧ l'.Nodup ∧ (∀ x, x ∈ l' ↔ x ∈ l ∨ (x = k ∧ 2 ≤ K k)) ∧ ∀ c d, c ≠ 241 → ¬ (c = 231 ∧ d = 10) → ν c d = μ c d := by
  intro n
  induction n with
  | zero =>
    intro k D hk hn μ l hKO hL hd hb ho
    obtain ⟨μ1, l1, s1, L1, d1, m1, f1⟩ := zv_raise0 (μ := μ) D hk hL hd hb
    rw [(hKO k hk).1] at m1
    have hb1 : ∀ x ∈ l1, x < 10 := fun x hx => by
      rcases (m1 x).mp hx with h | h
      · exact hb x h
      · rw [h.1]; exact hk
    have hKO1 : ∀ x, x < 10 → μ1 234 x = K x ∧ μ1 237 x = O x := fun x hx => by
      rw [f1 _ _ (by decide) (by omega), f1 _ _ (by decide) (by omega)]; exact hKO x hx
    obtain ⟨L', h', s2, rfl, nl, g0, g1, g5, g2, W, g3, hW⟩ := zv_raise1 (μ := μ1) (D + 1) hk L1 hb1 (fun x hx e => by
      rw [(hKO1 x (hb1 x hx)).1] at e
      rw [(hKO1 x (hb1 x hx)).2]
      exact ho x (hb1 x hx) e)
    have e0 : l1.filter (fun x => decide (μ1 234 x = 3 ∧ μ1 237 x = nI k)) = [] := by
      refine List.eq_nil_iff_forall_not_mem.mpr fun x hx => ?_
      obtain ⟨h1, h2⟩ := List.mem_filter.mp hx
      have hx10 := hb1 x h1
      have h2 := of_decide_eq_true h2
      rw [(hKO1 x hx10).1, (hKO1 x hx10).2] at h2
      have := hr x k hx10 hk h2.1 h2.2
      have := hB x hx10
      omega
    rw [e0] at g2
    have c1 : nI ([] : List Nat).length ≤ nI 0 := by decide
    refine ⟨μ1, l1, ze_in [(0, .ref 232), (1, .int (nI k))] zq_Mod_raise (Nat.le_of_ble_eq_true rfl) rfl ((s1.trans s2).end ⟨0, 4, fun F m hF => ?_⟩), L1, d1, m1, f1⟩
    simp [zg_0, zg_aload_n, zg_dup, zg_getfield, zg_goto, zg_i2l, zg_iadd, zg_iaload, zg_iastore, zg_iconst, zg_ifCond, zg_if_icmp, zg_iinc, zg_iload, zg_iload_n, zg_imul, zg_invokevirtual, zg_istore, zg_istore_n, zg_l2i, zg_land, zg_lconst, zg_ldc2_w, zg_lload_n, zg_lor, zg_lshl, zg_lshr, zg_lstore_n, zg_putfield, zg_return, zf_X6_raise, zi_ld, zi_lda, zi_cmp, zi_retOk, zi_isI, zi_f3, zi_cr, zi_ci, zi_cn, g5, g2, c1]
  | succ n ih =>
    intro k D hk hn μ l hKO hL hd hb ho
    obtain ⟨μ1, l1, s1, L1, d1, m1, f1⟩ := zv_raise0 (μ := μ) (D + 1 + n) hk hL hd hb
    have eD : D + 1 + n + 1 = D + 2 + n := by omega
    rw [eD] at s1
    rw [(hKO k hk).1] at m1
    have hb1 : ∀ x ∈ l1, x < 10 := fun x hx => by
      rcases (m1 x).mp hx with h | h
      · exact hb x h
      · rw [h.1]; exact hk
    have hKO1 : ∀ x, x < 10 → μ1 234 x = K x ∧ μ1 237 x = O x := fun x hx => by
      rw [f1 _ _ (by decide) (by omega), f1 _ _ (by decide) (by omega)]; exact hKO x hx
    obtain ⟨L', h', s2, rfl, nl, g0, g1, g5, g2, W, g3, hW⟩ := zv_raise1 (μ := μ1) (D + 2 + n) hk L1 hb1 (fun x hx e => by
      rw [(hKO1 x (hb1 x hx)).1] at e
      rw [(hKO1 x (hb1 x hx)).2]
      exact ho x (hb1 x hx) e)
    have hc : ∀ x ∈ l1.filter (fun x => decide (μ1 234 x = 3 ∧ μ1 237 x = nI k)), x ∈ l1 ∧ x < 10 ∧ B - rk x ≤ n := fun x hx => by
      obtain ⟨h1, h2⟩ := List.mem_filter.mp hx
      have hx10 := hb1 x h1
      have h2 := of_decide_eq_true h2
      rw [(hKO1 x hx10).1, (hKO1 x hx10).2] at h2
      have := hr x k hx10 hk h2.1 h2.2
      have := hB x hx10
      exact ⟨h1, hx10, by omega⟩
    have hcl : (l1.filter (fun x => decide (μ1 234 x = 3 ∧ μ1 237 x = nI k))).length ≤ 10 := Nat.le_trans (List.length_filter_le _ _) L1.1
    generalize l1.filter (fun x => decide (μ1 234 x = 3 ∧ μ1 237 x = nI k)) = c at *
    have key := ze_loop (D := D + 2 + n) (nL := 6) (ret := none) (code0 := zc_X6_raise) (pc := 108) (Q := fun i L hp => zi_n3 L = true ∧ zi_get L 0 = some (.ref 232) ∧ zi_get L 1 = some (.int (nI k)) ∧ zi_get L 5 = some (.int (nI i)) ∧ zi_get L 2 = some (.int (nI c.length)) ∧ zi_get L 3 = some (.long W) ∧ ∃ ξ l', zm_mk ξ = hp ∧ zv_L ξ 241 10 l' ∧ l'.Nodup ∧ (∀ x, x ∈ l' ↔ x ∈ l1) ∧ ∀ c d, c ≠ 241 → ¬ (c = 231 ∧ d = 10) → ξ c d = μ1 c d)
      (R := fun r h' => r = none ∧ ∃ ξ l', zm_mk ξ = h' ∧ zv_L ξ 241 10 l' ∧ l'.Nodup ∧ (∀ x, x ∈ l' ↔ x ∈ l1) ∧ ∀ c d, c ≠ 241 → ¬ (c = 231 ∧ d = 10) → ξ c d = μ1 c d) c.length ?_ ?_ c.length 0 L' (zm_mk μ1) (by omega) ⟨nl, g0, g1, g5, g2, g3, μ1, l1, rfl, L1, d1, fun _ => Iff.rfl, fun _ _ _ _ => rfl⟩
    · obtain ⟨r, h', G, rfl, ν, l', rfl, a1, a2, a3, a4⟩ := key
      refine ⟨ν, l', ze_in [(0, .ref 232), (1, .int (nI k))] zq_Mod_raise (Nat.le_of_ble_eq_true rfl) rfl ((s1.trans s2).end G), a1, a2, fun x => (a3 x).trans (m1 x), fun c d h1 h2 => (a4 c d h1 h2).trans (f1 c d h1 h2)⟩
    · rintro i L _ hi ⟨nl, g0, g1, g5, g2, g3, ξ, l', rfl, a1, a2, a3, a4⟩
      left
      have c1 : ¬ nI c.length ≤ nI i := nI_ge hi (by omega)
      have m4 : (4 : Int32) * nI i = nI (4 * i) := by
        have : ∀ n, n < 10 → (4 : Int32) * nI n = nI (4 * n) := by decide
        exact this _ (by omega)
      have hdec := zv_dec hW (fun y hy => (hc y hy).2.1) hcl hi
      obtain ⟨x1, x2, x3⟩ := hc _ (zl_mem hi)
      generalize c.getD i 0 = x at hdec x1 x2 x3
      obtain ⟨ν, l2, ⟨N1, E1⟩, b1, b2, b3, b4⟩ := ih x D x2 x3 ξ l' (fun y hy => by rw [a4 _ _ (by decide) (by omega), a4 _ _ (by decide) (by omega)]; exact hKO1 y hy) a1 a2 (fun y hy => hb1 y ((a3 y).mp hy)) ho
      obtain ⟨lc, cM⟩ := zM_c (μ := ξ)
      generalize hV : ((W >>> ((nI (4 * i)).toInt64 &&& 63)) &&& 15) = V at hdec
      have h15 : Int64.ofInt 15 = 15 := by decide
      refine ⟨zi_set L 5 (.int (nI (i + 1))), zm_mk ν, ⟨N1, 15, fun F m hF => ?_⟩, ?_, ?_, ?_, zi_get_set_eq, ?_, ?_, ν, l2, rfl, b1, b2, fun y => ?_, fun c d h1 h2 => (b4 c d h1 h2).trans (a4 c d h1 h2)⟩
      · simp (maxDischargeDepth := 9) [zg_0, zg_aload_n, zg_dup, zg_getfield, zg_goto, zg_i2l, zg_iadd, zg_iaload, zg_iastore, zg_iconst, zg_ifCond, zg_if_icmp, zg_iinc, zg_iload, zg_iload_n, zg_imul, zg_invokevirtual, zg_istore, zg_istore_n, zg_l2i, zg_land, zg_lconst, zg_ldc2_w, zg_lload_n, zg_lor, zg_lshl, zg_lshr, zg_lstore_n, zg_putfield, zg_return, zf_X6_raise, zi_ld, zi_lda, zi_cmp, zi_retOk, zi_isI, zi_f3, zi_cr, zi_ci, zi_cn, zi_g3_ne, zi_n3_i, zi_get_set_eq, nl, g0, g1, g5, g2, g3, c1, m4, h15, hV, hdec, zq_Mod_raise, cM, E1 F (by omega), nI_add, nI_1]
      · simp (maxDischargeDepth := 9) [zi_g3_ne, zi_n3_i, zi_get_set_eq, nl]
      · simp (maxDischargeDepth := 9) [zi_g3_ne, zi_n3_i, zi_get_set_eq, nl, g0]
      · simp (maxDischargeDepth := 9) [zi_g3_ne, zi_n3_i, zi_get_set_eq, nl, g1]
      · simp (maxDischargeDepth := 9) [zi_g3_ne, zi_n3_i, zi_get_set_eq, nl, g2]
      · simp (maxDischargeDepth := 9) [zi_g3_ne, zi_n3_i, zi_get_set_eq, nl, g3]
      · rw [b3, a3]
        exact ⟨fun h => h.elim id (fun h => h.1 ▸ x1), Or.inl⟩
    · rintro L _ ⟨nl, g0, g1, g5, g2, g3, ξ, l', rfl, a1, a2, a3, a4⟩
      have c1 : nI c.length ≤ nI c.length := Int32.le_refl _
      refine ⟨none, zm_mk ξ, ⟨0, 4, fun F m hF => ?_⟩, rfl, ξ, l', rfl, a1, a2, a3, a4⟩
      simp [zg_0, zg_aload_n, zg_dup, zg_getfield, zg_goto, zg_i2l, zg_iadd, zg_iaload, zg_iastore, zg_iconst, zg_ifCond, zg_if_icmp, zg_iinc, zg_iload, zg_iload_n, zg_imul, zg_invokevirtual, zg_istore, zg_istore_n, zg_l2i, zg_land, zg_lconst, zg_ldc2_w, zg_lload_n, zg_lor, zg_lshl, zg_lshr, zg_lstore_n, zg_putfield, zg_return, zf_X6_raise, zi_ld, zi_lda, zi_cmp, zi_retOk, zi_isI, zi_f3, zi_cr, zi_ci, zi_cn, g5, g2, c1]
end ZVE
end
section
/-! the reference: focused -/
section ZVF
variable {μ : zm_M} {rk : Nat → Nat}
/-- what raise and focused rest on -/
noncomputable def zv_rk (μ : zm_M) (rk : Nat → Nat) : Prop := (∀ x, x < 10 → rk x ≤ 9) ∧ ∀ x, x < 10 → μ 234 x = 3 → ∃ o, o < 10 ∧ μ 237 x = nI o ∧ rk o < rk x
theorem ze_MraiseR (D : Nat) (h : zv_rk μ rk) {k : Nat} (hk : k < 10) {l : List Nat} (hL : zv_L μ 241 10 l) (hd : l.Nodup) (hb : ∀ x ∈ l, x < 10) :
    ∃ ν l', ze_E (D + 11) A_Mod_raise [.ref 232, .int (nI k)] (zm_mk μ) none (zm_mk ν) ∧ zv_L ν 241 10 l' ∧ l'.Nodup ∧ (∀ x, x ∈ l' ↔ x ∈ l ∨ (x = k ∧ 2 ≤ μ 234 k)) ∧ ∀ c d, c ≠ 241 → ¬ (c = 231 ∧ d = 10) → ν c d = μ c d :=
  ze_Mraise (rk := rk) (B := 9) (K := μ 234) (O := μ 237) h.1 (fun o k ho hk e1 e2 => by
    obtain ⟨p, hp, e3, h3⟩ := h.2 o ho e1
    have : p = k := (nI_eq (by omega) (by omega)).mp (e3.symm.trans e2)
    rw [← this]; exact h3) 9 k D hk (by omega) μ l (fun x _ => ⟨rfl, rfl⟩) hL hd hb (fun x hx e => by
    obtain ⟨p, hp, e3, -⟩ := h.2 x hx e
    exact ⟨p, hp, e3⟩)
set_option maxRecDepth 100000 in
theorem ze_Mfocused_f (D : Nat) (h : zv_rk μ rk) {k : Nat} (hk : k < 10) (hkind : ¬ μ 234 k = 1) {l r : List Nat} (hL : zv_L μ 241 10 l) (hd : l.Nodup) (hb : ∀ x ∈ l, x < 10) (hR : zv_L μ 242 12 r) (rd : r.Nodup) (rb : ∀ x ∈ r, x < 10) :
    ∃ ν l', ze_E (D + 12) A_Mod_focused [.ref 232, .int (nI k)] (zm_mk μ) none (zm_mk ν) ∧ zv_L ν 241 10 l' ∧ l'.Nodup ∧ (∀ x, x ∈ l' ↔ x ∈ l ∨ (x = k ∧ 2 ≤ μ 234 k)) ∧ zv_L ν 242 12 (k :: r.erase k) ∧ ∀ c d, c ≠ 241 → c ≠ 242 → ¬ (c = 231 ∧ (d = 10 ∨ d = 12)) → ν c d = μ c d := by
  obtain ⟨lc, cM⟩ := zM_c (μ := μ)
  have ik : zi_in (nI k) 10 = true := zm_in hk (by decide)
  have ck : (nI k).toNatClampNeg = k := nI_clamp (by omega)
  obtain ⟨μ1, ⟨N1, E1⟩, ⟨p1, p2, p3⟩, f1⟩ := ze_Mfront (μ := μ) (D + 10) hk hR rd rb
  obtain ⟨lc1, cM1⟩ := zM_c (μ := μ1)
  have e4 : ∀ x, μ1 234 x = μ 234 x := fun x => f1 _ _ (by decide) (by omega)
  have e7 : ∀ x, μ1 237 x = μ 237 x := fun x => f1 _ _ (by decide) (by omega)
  have h1 : zv_rk μ1 rk := ⟨h.1, fun x hx e => by rw [e7]; rw [e4] at e; exact h.2 x hx e⟩
  have hL1 : zv_L μ1 241 10 l := ⟨hL.1, (f1 _ _ (by decide) (by omega)).trans hL.2.1, fun j hj => (f1 _ _ (by decide) (by omega)).trans (hL.2.2 j hj)⟩
  obtain ⟨ν, l', ⟨N2, E2⟩, b1, b2, b3, b4⟩ := ze_MraiseR (μ := μ1) D h1 hk hL1 hd hb
  refine ⟨ν, l', ze_in [(0, .ref 232), (1, .int (nI k))] zq_Mod_focused (Nat.le_of_ble_eq_true rfl) rfl ⟨N1 + N2, 13, fun F m hF => ?_⟩, b1, b2, by rw [e4] at b3; exact b3, ⟨p1, by rw [b4 _ _ (by decide) (by omega)]; exact p2, fun j hj => by rw [b4 _ _ (by decide) (by omega)]; exact p3 j hj⟩, fun c d g1 g2 g3 => ?_⟩
  · simp [zg_0, zg_aload_n, zg_getfield, zg_iaload, zg_iastore, zg_iconst, zg_if_icmp, zg_iload_n, zg_invokestatic, zg_invokevirtual, zg_return, zf_X6_focused, zi_ld, zi_lda, zi_cmp, zi_retOk, zi_isI, zi_f3, zi_cr, zi_ci, zi_cn, zi_get, zi_set, zM_g, cM, cM1, zq_Mod_front, zq_Mod_raise, E1 F (by omega), E2 F (by omega), zm_iald (k := 0) zM_A234 ik, ck, e4, hkind]
  · rw [b4 c d g1 (fun e => g3 ⟨e.1, Or.inl e.2⟩)]
    exact f1 c d g2 (fun e => g3 ⟨e.1, Or.inr e.2⟩)
set_option maxRecDepth 100000 in
theorem ze_Mfocused_t (D : Nat) (h : zv_rk μ rk) {k s m : Nat} (hk : k < 10) (hkind : μ 234 k = 1) (hs : s < 3) (hhome : μ 238 k = nI s) {u : zy_F} {ab : Nat → Int32} (hI : zu_I μ s u ab) (hat : zu_at μ s u k m) {l r : List Nat} (hL : zv_L μ 241 10 l) (hd : l.Nodup) (hb : ∀ x ∈ l, x < 10) (hR : zv_L μ 242 12 r) (rd : r.Nodup) (rb : ∀ x ∈ r, x < 10) :
    ∃ ν l', ze_E (D + 12) A_Mod_focused [.ref 232, .int (nI k)] (zm_mk μ) none (zm_mk ν) ∧ zv_L ν 241 10 l' ∧ l'.Nodup ∧ (∀ x, x ∈ l' ↔ x ∈ l) ∧ zv_L ν 242 12 (k :: r.erase k) ∧ ν 250 (24 * s + m) = nI k ∧ ∀ c d, c ≠ 241 → c ≠ 242 → ¬ (c = 231 ∧ (d = 10 ∨ d = 12)) → ¬ (c = 250 ∧ d = 24 * s + m) → ν c d = μ c d := by
  obtain ⟨lc, cM⟩ := zM_c (μ := μ)
  have hm24 := zu_I_lt hI hat.1
  have ik : zi_in (nI k) 10 = true := zm_in hk (by decide)
  have ck : (nI k).toNatClampNeg = k := nI_clamp (by omega)
  have im : zi_in (nI (24 * s + m)) 168 = true := zm_in (by omega) (by decide)
  have cm : (nI (24 * s + m)).toNatClampNeg = 24 * s + m := nI_clamp (by omega)
  obtain ⟨μ1, ⟨N1, E1⟩, ⟨p1, p2, p3⟩, f1⟩ := ze_Mfront (μ := μ) (D + 10) hk hR rd rb
  obtain ⟨lc1, cM1⟩ := zM_c (μ := μ1)
  have e4 : ∀ x, μ1 234 x = μ 234 x := fun x => f1 _ _ (by decide) (by omega)
  have e7 : ∀ x, μ1 237 x = μ 237 x := fun x => f1 _ _ (by decide) (by omega)
  have e8 : μ1 238 k = nI s := (f1 _ _ (by decide) (by omega)).trans hhome
  have e4' : μ1 234 k = 1 := (e4 k).trans hkind
  have hq : zu_eqT μ s μ1 s := ⟨f1 _ _ (by decide) (by omega), fun c n hc _ => f1 _ _ (by rintro rfl; revert hc; decide) (by rintro ⟨rfl, -⟩; revert hc; decide), fun n j _ _ => f1 _ _ (by decide) (by omega)⟩
  have hI1 := hq.I hI
  have hat1 : zu_at μ1 s u k m := ⟨hat.1, by rw [hq.tb hm24 (zu_I_tbl hI hat.1)]; exact hat.2.1, fun n hn g => hat.2.2 n hn (by rw [hq.tb (zu_I_lt hI hn) (zu_I_tbl hI hn)] at g; exact g)⟩
  obtain ⟨N3, E3⟩ := ze_MleafOf_at (μ := μ1) (D + 8) (by omega) hI1 hk hat1
  obtain ⟨N4, E4⟩ := ze_spot (h := zm_mk μ1) (n := m) (D + 10) (t := s) (by omega)
  have h1 : zv_rk (zm_up μ1 250 (24 * s + m) (nI k)) rk := ⟨h.1, fun x hx e => by rw [zm_up_ne (by omega), e7]; rw [zm_up_ne (by omega), e4] at e; exact h.2 x hx e⟩
  have hL1 : zv_L (zm_up μ1 250 (24 * s + m) (nI k)) 241 10 l := ⟨hL.1, (zm_up_ne (by omega)).trans ((f1 _ _ (by decide) (by omega)).trans hL.2.1), fun j hj => (zm_up_ne (by omega)).trans ((f1 _ _ (by decide) (by omega)).trans (hL.2.2 j hj))⟩
  obtain ⟨ν, l', ⟨N2, E2⟩, b1, b2, b3, b4⟩ := ze_MraiseR (μ := zm_up μ1 250 (24 * s + m) (nI k)) D h1 hk hL1 hd hb
  obtain ⟨lc2, cM2⟩ := zM_c (μ := zm_up μ1 250 (24 * s + m) (nI k))
  refine ⟨ν, l', ze_in [(0, .ref 232), (1, .int (nI k))] zq_Mod_focused (Nat.le_of_ble_eq_true rfl) rfl ⟨N1 + N2 + N3 + N4, 29, fun F mm hF => ?_⟩, b1, b2, fun x => ?_, ⟨p1, by rw [b4 _ _ (by decide) (by omega), zm_up_ne (by omega)]; exact p2, fun j hj => by rw [b4 _ _ (by decide) (by omega), zm_up_ne (by omega)]; exact p3 j hj⟩, by rw [b4 _ _ (by decide) (by omega)]; exact zm_up_eq, fun c d g1 g2 g3 g4 => ?_⟩
  · simp [zg_0, zg_aload_n, zg_getfield, zg_iaload, zg_iastore, zg_iconst, zg_if_icmp, zg_iload_n, zg_invokestatic, zg_invokevirtual, zg_return, zf_X6_focused, zi_ld, zi_lda, zi_cmp, zi_retOk, zi_isI, zi_f3, zi_cr, zi_ci, zi_cn, zi_get, zi_set, zM_g, cM, cM1, cM2, zq_Mod_front, zq_Mod_raise, zq_Mod_leafOf, zq_Mod_spot, E1 F (by omega), E2 F (by omega), E3 F (by omega), E4 F (by omega), zm_iald (k := 0) zM_A234 ik, zm_iald (k := 0) zM_A238 ik, ck, e4', e8, zm_iast zM_A250 im, cm]
  · rw [b3, zm_up_ne (by omega), e4']
    exact ⟨fun g => g.elim id (fun g => absurd g.2 (by decide)), Or.inl⟩
  · rw [b4 c d g1 (fun e => g3 ⟨e.1, Or.inl e.2⟩), zm_up_ne g4]
    exact f1 c d g2 (fun e => g3 ⟨e.1, Or.inr e.2⟩)
end ZVF
end
