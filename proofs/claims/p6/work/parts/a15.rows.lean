/-! the reference: forget, unstack, front -/
/-- a row of windows in the cell C, its length in the field q -/
def zv_L (μ : zm_M) (C q : Nat) (l : List Nat) : Prop := l.length ≤ 10 ∧ μ 231 q = nI l.length ∧ ∀ j, j < l.length → μ C j = nI (l.getD j 0)
def zv_fg (μ : zm_M) (k : Nat) : zm_M := fun c d => if c = 251 ∧ d < 3 ∧ ¬ μ 251 d = 0 ∧ ¬ μ 252 (10 * d + k) = 0 then 0 else μ c d
section ZVB
variable {μ : zm_M}
theorem zv_fg_ne {k c d : Nat} (h : c ≠ 251) : zv_fg μ k c d = μ c d := if_neg (fun e => h e.1)
theorem zv_fg_at {k d : Nat} (h : d < 3) : zv_fg μ k 251 d = if ¬ μ 251 d = 0 ∧ ¬ μ 252 (10 * d + k) = 0 then 0 else μ 251 d := by
  unfold zv_fg
  by_cases c : ¬ μ 251 d = 0 ∧ ¬ μ 252 (10 * d + k) = 0
  · rw [if_pos c, if_pos ⟨rfl, h, c⟩]
  · rw [if_neg c, if_neg (fun e => c e.2.2)]
set_option maxRecDepth 100000 in
theorem ze_Mforget (D : Nat) {k : Nat} (hk : k < 10) : ze_E (D + 1) A_Mod_forget [.ref 232, .int (nI k)] (zm_mk μ) none (zm_mk (zv_fg μ k)) := by
  have h10 : (Int8.ofInt 10).toInt32 = (10 : Int32) := by decide
  have key : ∃ r h', ze_G D 3 none zc_X6_forget 2 [(2, .int (nI 0)), (0, .ref 232), (1, .int (nI k))] [] (zm_mk μ) r h' ∧ (r = none ∧ zm_mk (zv_fg μ k) = h') := by
    refine ze_loop (Q := fun i L hp => i ≤ 3 ∧ zi_nl L = true ∧ zi_get L 0 = some (.ref 232) ∧ zi_get L 1 = some (.int (nI k)) ∧ zi_get L 2 = some (.int (nI i)) ∧ ∃ ξ : zm_M, zm_mk ξ = hp ∧ (∀ d, d < i → ξ 251 d = zv_fg μ k 251 d) ∧ (∀ c d, c ≠ 251 ∨ i ≤ d → ξ c d = μ c d) ∧ (True)) (R := fun r h' => r = none ∧ zm_mk (zv_fg μ k) = h') 3 ?_ ?_ 3 0 _ _ (by omega) ⟨by omega, rfl, rfl, rfl, rfl, μ, rfl, (fun d hd => absurd hd (by omega)), (fun _ _ _ => rfl), trivial⟩
    · rintro i L _ hi ⟨-, nl, g0, g1, g2, ξ, rfl, f1, f2, hq⟩
      have c1 : ¬ (3 : Int32) ≤ nI i := nI_ge (b := 3) hi (by decide)
      have ik : zi_in (nI i) 3 = true := zm_in hi (by decide)
      have ck : (nI i).toNatClampNeg = i := nI_clamp (by omega)
      have mk : (10 : Int32) * nI i = nI (10 * i) := nI_mul10 (by omega)
      have ij : zi_in (nI (10 * i + k)) 30 = true := zm_in (by omega) (by decide)
      have cj : (nI (10 * i + k)).toNatClampNeg = 10 * i + k := nI_clamp (by omega)
      have e1 : ξ 251 i = μ 251 i := f2 _ _ (by omega)
      have e2 : ξ 252 (10 * i + k) = μ 252 (10 * i + k) := f2 _ _ (by omega)
      have z3 : ((nI 3 : Int32)) = 3 := by decide
      by_cases c2 : μ 251 i = 0
      · have g1' : ∀ d, d < i + 1 → ξ 251 d = zv_fg μ k 251 d := fun d hd => by
          by_cases e : d = i
          · rw [e, zv_fg_at hi, if_neg (fun q => q.1 c2)]; exact e1
          · exact f1 d (by omega)
        left
        refine ⟨zi_set L 2 (.int (nI (i + 1))), zm_mk ξ, ⟨0, 10, fun F m hF => ?_⟩, by omega, ?_, ?_, ?_, zi_get_set_eq, ξ, rfl, g1', (fun c d h => f2 c d (by omega)), trivial⟩
        · simp (maxDischargeDepth := 9) [zg_0, zg_aload_n, zg_baload, zg_bastore, zg_bipush, zg_getfield, zg_goto, zg_iadd, zg_iconst, zg_ifCond, zg_if_icmp, zg_iinc, zg_iload_n, zg_imul, zg_istore_n, zg_return, zf_X6_forget, zi_ld, zi_lda, zi_cmp, zi_retOk, zi_isI, zi_f3, zi_cr, zi_ci, zi_cn, zi_get_ne, zi_nl_i, zi_nl_r, zi_get_set_eq, nl, g0, g1, g2, h10, c1, zM_g, zm_bald zM_A251 ik, ck, e1, c2, nI_1]
        · simp (maxDischargeDepth := 9) [zi_get_ne, zi_nl_i, zi_nl_r, zi_get_set_eq, nl]
        · simp (maxDischargeDepth := 9) [zi_get_ne, zi_nl_i, zi_nl_r, zi_get_set_eq, nl, g0]
        · simp (maxDischargeDepth := 9) [zi_get_ne, zi_nl_i, zi_nl_r, zi_get_set_eq, nl, g1]
      · by_cases c3 : μ 252 (10 * i + k) = 0
        · have g1' : ∀ d, d < i + 1 → ξ 251 d = zv_fg μ k 251 d := fun d hd => by
            by_cases e : d = i
            · rw [e, zv_fg_at hi, if_neg (fun q => q.2 c3)]; exact e1
            · exact f1 d (by omega)
          left
          refine ⟨zi_set L 2 (.int (nI (i + 1))), zm_mk ξ, ⟨0, 19, fun F m hF => ?_⟩, by omega, ?_, ?_, ?_, zi_get_set_eq, ξ, rfl, g1', (fun c d h => f2 c d (by omega)), trivial⟩
          · simp (maxDischargeDepth := 9) [zg_0, zg_aload_n, zg_baload, zg_bastore, zg_bipush, zg_getfield, zg_goto, zg_iadd, zg_iconst, zg_ifCond, zg_if_icmp, zg_iinc, zg_iload_n, zg_imul, zg_istore_n, zg_return, zf_X6_forget, zi_ld, zi_lda, zi_cmp, zi_retOk, zi_isI, zi_f3, zi_cr, zi_ci, zi_cn, zi_get_ne, zi_nl_i, zi_nl_r, zi_get_set_eq, nl, g0, g1, g2, h10, c1, zM_g, zm_bald zM_A251 ik, ck, e1, c2, mk, nI_add, zm_bald zM_A252 ij, cj, e2, c3, nI_1]
          · simp (maxDischargeDepth := 9) [zi_get_ne, zi_nl_i, zi_nl_r, zi_get_set_eq, nl]
          · simp (maxDischargeDepth := 9) [zi_get_ne, zi_nl_i, zi_nl_r, zi_get_set_eq, nl, g0]
          · simp (maxDischargeDepth := 9) [zi_get_ne, zi_nl_i, zi_nl_r, zi_get_set_eq, nl, g1]
        · have g1' : ∀ d, d < i + 1 → zm_up ξ 251 i 0 251 d = zv_fg μ k 251 d := fun d hd => by
            rw [zm_up_pt]
            by_cases e : d = i
            · rw [e, if_pos rfl, zv_fg_at hi, if_pos ⟨c2, c3⟩]
            · rw [if_neg e]; exact f1 d (by omega)
          have g2' : ∀ c d, c ≠ 251 ∨ i + 1 ≤ d → zm_up ξ 251 i 0 c d = μ c d := fun c d h => by
            rw [zm_up_ne (by omega)]; exact f2 c d (by omega)
          left
          refine ⟨zi_set L 2 (.int (nI (i + 1))), zm_mk (zm_up ξ 251 i 0), ⟨0, 24, fun F m hF => ?_⟩, by omega, ?_, ?_, ?_, zi_get_set_eq, _, rfl, g1', g2', trivial⟩
          · simp (maxDischargeDepth := 9) [zg_0, zg_aload_n, zg_baload, zg_bastore, zg_bipush, zg_getfield, zg_goto, zg_iadd, zg_iconst, zg_ifCond, zg_if_icmp, zg_iinc, zg_iload_n, zg_imul, zg_istore_n, zg_return, zf_X6_forget, zi_ld, zi_lda, zi_cmp, zi_retOk, zi_isI, zi_f3, zi_cr, zi_ci, zi_cn, zi_get_ne, zi_nl_i, zi_nl_r, zi_get_set_eq, nl, g0, g1, g2, h10, c1, zM_g, zm_bald zM_A251 ik, ck, e1, c2, mk, nI_add, zm_bald zM_A252 ij, cj, e2, c3, zm_bast zM_A251 ik (Or.inl rfl), nI_1]
          · simp (maxDischargeDepth := 9) [zi_get_ne, zi_nl_i, zi_nl_r, zi_get_set_eq, nl]
          · simp (maxDischargeDepth := 9) [zi_get_ne, zi_nl_i, zi_nl_r, zi_get_set_eq, nl, g0]
          · simp (maxDischargeDepth := 9) [zi_get_ne, zi_nl_i, zi_nl_r, zi_get_set_eq, nl, g1]
    · rintro L _ ⟨-, nl, g0, g1, g2, ξ, rfl, f1, f2, hq⟩
      have c1 : (3 : Int32) ≤ nI 3 := by decide
      have e : ξ = zv_fg μ k := by
        funext c d
        by_cases h : c = 251 ∧ d < 3
        · rw [h.1]; exact f1 d h.2
        · rw [f2 c d (by omega)]
          exact (if_neg (fun q => h ⟨q.1, q.2.1⟩)).symm
      subst e
      refine ⟨none, _, ⟨0, 4, fun F m hF => ?_⟩, rfl, rfl⟩
      simp [zg_0, zg_aload_n, zg_baload, zg_bastore, zg_bipush, zg_getfield, zg_goto, zg_iadd, zg_iconst, zg_ifCond, zg_if_icmp, zg_iinc, zg_iload_n, zg_imul, zg_istore_n, zg_return, zf_X6_forget, zi_ld, zi_lda, zi_cmp, zi_retOk, zi_isI, zi_f3, zi_cr, zi_ci, zi_cn, g0, g2, c1]
  obtain ⟨r, h', G, rfl, rfl⟩ := key
  refine ze_in [(0, .ref 232), (1, .int (nI k))] zq_Mod_forget (Nat.le_of_ble_eq_true rfl) rfl (ze_S.end ⟨0, 2, fun F m hF => ?_⟩ G)
  simp [zg_0, zg_aload_n, zg_baload, zg_bastore, zg_bipush, zg_getfield, zg_goto, zg_iadd, zg_iconst, zg_ifCond, zg_if_icmp, zg_iinc, zg_iload_n, zg_imul, zg_istore_n, zg_return, zf_X6_forget, zi_ld, zi_lda, zi_cmp, zi_retOk, zi_isI, zi_f3, zi_cr, zi_ci, zi_cn, zi_get, zi_set, nI_0]
theorem zl_take_f {l : List Nat} {i k : Nat} (hi : i < l.length) : (l.take (i + 1)).filter (fun x => decide (x ≠ k)) = (l.take i).filter (fun x => decide (x ≠ k)) ++ if l.getD i 0 = k then [] else [l.getD i 0] := by
  rw [List.take_add_one, List.getElem?_eq_getElem hi, Option.toList_some, List.filter_append]
  have e : l.getD i 0 = l[i] := by rw [List.getD_eq_getElem?_getD, List.getElem?_eq_getElem hi]; rfl
  rw [e]
  congr 1
  by_cases c : l[i] = k
  · rw [if_pos c, List.filter_cons_of_neg (by simp [c])]
    rfl
  · rw [if_neg c, List.filter_cons_of_pos (by simp [c])]
    rfl
theorem zl_fl_le {l : List Nat} {p : Nat → Bool} {i : Nat} : ((l.take i).filter p).length ≤ i := Nat.le_trans (List.length_filter_le _ _) (List.length_take_le _ _)
set_option maxRecDepth 100000 in
theorem ze_Munstack (D : Nat) {k : Nat} (hk : k < 10) {l : List Nat} (hL : zv_L μ 241 10 l) (hb : ∀ x ∈ l, x < 10) : ∃ ν, ze_E (D + 1) A_Mod_unstack [.ref 232, .int (nI k)] (zm_mk μ) none (zm_mk ν) ∧ zv_L ν 241 10 (l.filter (fun x => decide (x ≠ k))) ∧ ∀ c d, c ≠ 241 → ¬ (c = 231 ∧ d = 10) → ν c d = μ c d := by
  obtain ⟨l1, l2, l3⟩ := hL
  have key : ∃ r h', ze_G D 4 none zc_X6_unstack 4 [(3, .int (nI 0)), (2, .int (nI 0)), (0, .ref 232), (1, .int (nI k))] [] (zm_mk μ) r h' ∧ (r = none ∧ ∃ ν, zm_mk ν = h' ∧ zv_L ν 241 10 (l.filter (fun x => decide (x ≠ k))) ∧ ∀ c d, c ≠ 241 → ¬ (c = 231 ∧ d = 10) → ν c d = μ c d) := by
    refine ze_loop (Q := fun i L hp => i ≤ l.length ∧ zi_nl L = true ∧ zi_get L 0 = some (.ref 232) ∧ zi_get L 1 = some (.int (nI k)) ∧ zi_get L 3 = some (.int (nI i)) ∧ ∃ ξ : zm_M, zm_mk ξ = hp ∧ (∀ c d, c ≠ 241 → ξ c d = μ c d) ∧ ∃ (n : Nat), zi_get L 2 = some (.int (nI n)) ∧ (n = ((l.take i).filter (fun x => decide (x ≠ k))).length ∧ (∀ j, j < n → ξ 241 j = nI (((l.take i).filter (fun x => decide (x ≠ k))).getD j 0)) ∧ ∀ j, i ≤ j → ξ 241 j = μ 241 j)) (R := fun r h' => r = none ∧ ∃ ν, zm_mk ν = h' ∧ zv_L ν 241 10 (l.filter (fun x => decide (x ≠ k))) ∧ ∀ c d, c ≠ 241 → ¬ (c = 231 ∧ d = 10) → ν c d = μ c d) l.length ?_ ?_ l.length 0 _ _ (by omega) ⟨by omega, rfl, rfl, rfl, rfl, μ, rfl, (fun _ _ _ => rfl), 0, rfl, ⟨rfl, (fun j hj => absurd hj (by omega)), fun _ _ => rfl⟩⟩
    · rintro i L _ hi ⟨-, nl, g0, g1, g3, ξ, rfl, f1, n, g2, hq⟩
      obtain ⟨q1, q2, q3⟩ := hq
      have hni : n ≤ i := by rw [q1]; exact zl_fl_le
      have e10 : ξ 231 10 = nI l.length := (f1 _ _ (by decide)).trans l2
      have c1 : ¬ nI l.length ≤ nI i := nI_ge hi (by omega)
      have ik : zi_in (nI i) 10 = true := zm_in (by omega) (by decide)
      have ck : (nI i).toNatClampNeg = i := nI_clamp (by omega)
      have jk : zi_in (nI n) 10 = true := zm_in (by omega) (by decide)
      have cj : (nI n).toNatClampNeg = n := nI_clamp (by omega)
      have e1 : ξ 241 i = nI (l.getD i 0) := (q3 i (Nat.le_refl _)).trans (l3 i hi)
      have hx := hb _ (zl_mem hi)
      have ef := zl_take_f (k := k) hi
      generalize l.getD i 0 = x at e1 hx ef
      by_cases c2 : x = k
      · have c2' : nI x = nI k := by rw [c2]
        rw [if_pos c2, List.append_nil] at ef
        rw [← ef] at q1 q2
        left
        refine ⟨zi_set L 3 (.int (nI (i + 1))), zm_mk ξ, ⟨0, 12, fun F m hF => ?_⟩, by omega, ?_, ?_, ?_, zi_get_set_eq, ξ, rfl, f1, n, ?_, ⟨q1, q2, fun j hj => q3 j (by omega)⟩⟩
        · simp (maxDischargeDepth := 9) [zg_0, zg_aload_n, zg_getfield, zg_goto, zg_iaload, zg_iastore, zg_iconst, zg_if_icmp, zg_iinc, zg_iload_n, zg_istore_n, zg_putfield, zg_return, zf_X6_unstack, zi_ld, zi_lda, zi_cmp, zi_retOk, zi_isI, zi_f3, zi_cr, zi_ci, zi_cn, zi_get_ne, zi_nl_i, zi_nl_r, zi_get_set_eq, nl, g0, g1, g3, g2, c1, zM_g, e10, zm_iald (k := 0) zM_A241 ik, ck, e1, c2', nI_1]
        · simp (maxDischargeDepth := 9) [zi_get_ne, zi_nl_i, zi_nl_r, zi_get_set_eq, nl]
        · simp (maxDischargeDepth := 9) [zi_get_ne, zi_nl_i, zi_nl_r, zi_get_set_eq, nl, g0]
        · simp (maxDischargeDepth := 9) [zi_get_ne, zi_nl_i, zi_nl_r, zi_get_set_eq, nl, g1]
        · simp (maxDischargeDepth := 9) [zi_get_ne, zi_nl_i, zi_nl_r, zi_get_set_eq, nl, g2]
      · have c2' : ¬ nI x = nI k := fun e => c2 ((nI_eq (by omega) (by omega)).mp e)
        rw [if_neg c2] at ef
        have p1 : n + 1 = ((l.take (i + 1)).filter (fun x => decide (x ≠ k))).length := by rw [ef, List.length_append, ← q1]; rfl
        have p2 : ∀ j, j < n + 1 → zm_up ξ 241 n (nI x) 241 j = nI (((l.take (i + 1)).filter (fun x => decide (x ≠ k))).getD j 0) := fun j hj => by
          rw [ef, zm_up_pt]
          by_cases e : j = n
          · rw [if_pos e, zl_getD_r (by omega), e, q1, Nat.sub_self]; rfl
          · rw [if_neg e, zl_getD_l (by omega)]; exact q2 j (by omega)
        have p3 : ∀ j, i + 1 ≤ j → zm_up ξ 241 n (nI x) 241 j = μ 241 j := fun j hj => by
          rw [zm_up_ne (by omega)]; exact q3 j (by omega)
        have p4 : ∀ c d, c ≠ 241 → zm_up ξ 241 n (nI x) c d = μ c d := fun c d h => by
          rw [zm_up_ne (by omega)]; exact f1 c d h
        left
        refine ⟨zi_set (zi_set L 2 (.int (nI (n + 1)))) 3 (.int (nI (i + 1))), zm_mk (zm_up ξ 241 n (nI x)), ⟨0, 21, fun F m hF => ?_⟩, by omega, ?_, ?_, ?_, zi_get_set_eq, _, rfl, p4, n + 1, ?_, ⟨p1, p2, p3⟩⟩
        · simp (maxDischargeDepth := 9) [zg_0, zg_aload_n, zg_getfield, zg_goto, zg_iaload, zg_iastore, zg_iconst, zg_if_icmp, zg_iinc, zg_iload_n, zg_istore_n, zg_putfield, zg_return, zf_X6_unstack, zi_ld, zi_lda, zi_cmp, zi_retOk, zi_isI, zi_f3, zi_cr, zi_ci, zi_cn, zi_get_ne, zi_nl_i, zi_nl_r, zi_get_set_eq, nl, g0, g1, g3, g2, c1, zM_g, e10, zm_iald (k := 0) zM_A241 ik, ck, e1, c2', zm_iast zM_A241 jk, cj, nI_add, nI_1, nI_1]
        · simp (maxDischargeDepth := 9) [zi_get_ne, zi_nl_i, zi_nl_r, zi_get_set_eq, nl]
        · simp (maxDischargeDepth := 9) [zi_get_ne, zi_nl_i, zi_nl_r, zi_get_set_eq, nl, g0]
        · simp (maxDischargeDepth := 9) [zi_get_ne, zi_nl_i, zi_nl_r, zi_get_set_eq, nl, g1]
        · simp (maxDischargeDepth := 9) [zi_get_ne, zi_nl_i, zi_nl_r, zi_get_set_eq, nl, g2]
    · rintro L _ ⟨-, nl, g0, g1, g3, ξ, rfl, f1, n, g2, hq⟩
      obtain ⟨q1, q2, q3⟩ := hq
      rw [List.take_length] at q1 q2
      have e10 : ξ 231 10 = nI l.length := (f1 _ _ (by decide)).trans l2
      have c1 : nI l.length ≤ nI l.length := Int32.le_refl _
      have hfl : (l.filter (fun x => decide (x ≠ k))).length ≤ l.length := List.length_filter_le _ _
      refine ⟨none, zm_mk (zm_up ξ 231 10 (nI n)), ⟨0, 8, fun F m hF => ?_⟩, rfl, _, rfl, ⟨by omega, by rw [zm_up_eq, q1], fun j hj => ?_⟩, fun c d h1 h2 => ?_⟩
      · simp [zg_0, zg_aload_n, zg_getfield, zg_goto, zg_iaload, zg_iastore, zg_iconst, zg_if_icmp, zg_iinc, zg_iload_n, zg_istore_n, zg_putfield, zg_return, zf_X6_unstack, zi_ld, zi_lda, zi_cmp, zi_retOk, zi_isI, zi_f3, zi_cr, zi_ci, zi_cn, g0, g2, g3, zM_g, e10, c1, zM_p10]
      · rw [zm_up_ne (by omega)]; exact q2 j (by omega)
      · rw [zm_up_ne h2]; exact f1 c d h1
  obtain ⟨r, h', G, rfl, ν, rfl, f⟩ := key
  refine ⟨ν, ze_in [(0, .ref 232), (1, .int (nI k))] zq_Mod_unstack (Nat.le_of_ble_eq_true rfl) rfl (ze_S.end ⟨0, 4, fun F m hF => ?_⟩ G), f⟩
  simp [zg_0, zg_aload_n, zg_getfield, zg_goto, zg_iaload, zg_iastore, zg_iconst, zg_if_icmp, zg_iinc, zg_iload_n, zg_istore_n, zg_putfield, zg_return, zf_X6_unstack, zi_ld, zi_lda, zi_cmp, zi_retOk, zi_isI, zi_f3, zi_cr, zi_ci, zi_cn, zi_get, zi_set, nI_0]
end ZVB
