/-! the reference: closed, one window -/
section ZVU
variable {μ : zm_M}
set_option maxRecDepth 100000 in
theorem zv_clrow (D : Nat) {k : Nat} (hk : k < 10) {l : List Nat} (hL : zv_L μ 242 12 l) (hb : ∀ x ∈ l, x < 10) :
    ∃ L' h', ze_S D 5 (some .int) zc_X6_closed 38 [(3, .int (nI 0)), (2, .int (nI 0)), (0, .ref 232), (1, .int (nI k))] [] (zm_mk μ) 94 L' [] h' ∧ (zi_nl L' = true ∧ zi_get L' 0 = some (.ref 232) ∧ zi_get L' 1 = some (.int (nI k)) ∧ zi_get L' 3 = some (.int (nI 1)) ∧ zi_get L' 4 = some (.int (nI 0)) ∧ ∃ ν, zm_mk ν = h' ∧ zv_L ν 242 12 (l.filter (fun x => decide (x ≠ k))) ∧ ν 234 k = 0 ∧ ∀ c d, c ≠ 242 → ¬ (c = 231 ∧ d = 12) → ¬ (c = 234 ∧ d = k) → ν c d = μ c d) := by
  obtain ⟨l1, l2, l3⟩ := hL
  have kk : zi_in (nI k) 10 = true := zm_in hk (by decide)
  have ckk : (nI k).toNatClampNeg = k := nI_clamp (by omega)
  refine ze_loopS (Q := fun i L hp => i ≤ l.length ∧ zi_nl L = true ∧ zi_get L 0 = some (.ref 232) ∧ zi_get L 1 = some (.int (nI k)) ∧ zi_get L 3 = some (.int (nI i)) ∧ ∃ ξ : zm_M, zm_mk ξ = hp ∧ (∀ c d, c ≠ 242 → ξ c d = μ c d) ∧ ∃ (n : Nat), zi_get L 2 = some (.int (nI n)) ∧ (n = ((l.take i).filter (fun x => decide (x ≠ k))).length ∧ (∀ j, j < n → ξ 242 j = nI (((l.take i).filter (fun x => decide (x ≠ k))).getD j 0)) ∧ ∀ j, i ≤ j → ξ 242 j = μ 242 j)) (R := fun L' h' => zi_nl L' = true ∧ zi_get L' 0 = some (.ref 232) ∧ zi_get L' 1 = some (.int (nI k)) ∧ zi_get L' 3 = some (.int (nI 1)) ∧ zi_get L' 4 = some (.int (nI 0)) ∧ ∃ ν, zm_mk ν = h' ∧ zv_L ν 242 12 (l.filter (fun x => decide (x ≠ k))) ∧ ν 234 k = 0 ∧ ∀ c d, c ≠ 242 → ¬ (c = 231 ∧ d = 12) → ¬ (c = 234 ∧ d = k) → ν c d = μ c d) l.length ?_ ?_ l.length 0 _ _ (by omega) ⟨by omega, rfl, rfl, rfl, rfl, μ, rfl, (fun _ _ _ => rfl), 0, rfl, ⟨rfl, (fun j hj => absurd hj (by omega)), fun _ _ => rfl⟩⟩
  · rintro i L _ hi ⟨-, nl, g0, g1, g3, ξ, rfl, f1, n, g2, hq⟩
    obtain ⟨q1, q2, q3⟩ := hq
    have hni : n ≤ i := by rw [q1]; exact zl_fl_le
    have e10 : ξ 231 12 = nI l.length := (f1 _ _ (by decide)).trans l2
    have c1 : ¬ nI l.length ≤ nI i := nI_ge hi (by omega)
    have ik : zi_in (nI i) 10 = true := zm_in (by omega) (by decide)
    have ck : (nI i).toNatClampNeg = i := nI_clamp (by omega)
    have jk : zi_in (nI n) 10 = true := zm_in (by omega) (by decide)
    have cj : (nI n).toNatClampNeg = n := nI_clamp (by omega)
    have e1 : ξ 242 i = nI (l.getD i 0) := (q3 i (Nat.le_refl _)).trans (l3 i hi)
    have hx := hb _ (zl_mem hi)
    have ef := zl_take_f (k := k) hi
    generalize l.getD i 0 = x at e1 hx ef
    by_cases c2 : x = k
    · have c2' : nI x = nI k := by rw [c2]
      rw [if_pos c2, List.append_nil] at ef
      rw [← ef] at q1 q2
      refine ⟨zi_set L 3 (.int (nI (i + 1))), zm_mk ξ, ⟨0, 12, fun F m hF => ?_⟩, by omega, ?_, ?_, ?_, zi_get_set_eq, ξ, rfl, f1, n, ?_, ⟨q1, q2, fun j hj => q3 j (by omega)⟩⟩
      · simp (maxDischargeDepth := 9) [zg_0, zg_aload_n, zg_bipush, zg_getfield, zg_goto, zg_iadd, zg_iaload, zg_iastore, zg_iconst, zg_if_icmp, zg_iinc, zg_iload, zg_iload_n, zg_invokevirtual, zg_ireturn, zg_istore, zg_istore_n, zg_putfield, zf_X6_closed, zi_ld, zi_lda, zi_cmp, zi_retOk, zi_isI, zi_f3, zi_cr, zi_ci, zi_cn, zi_get_ne, zi_nl_i, zi_nl_r, zi_get_set_eq, nl, g0, g1, g3, g2, c1, zM_g, e10, zm_iald (k := 0) zM_A242 ik, ck, e1, c2', nI_1]
      · simp (maxDischargeDepth := 9) [zi_get_ne, zi_nl_i, zi_nl_r, zi_get_set_eq, nl]
      · simp (maxDischargeDepth := 9) [zi_get_ne, zi_nl_i, zi_nl_r, zi_get_set_eq, nl, g0]
      · simp (maxDischargeDepth := 9) [zi_get_ne, zi_nl_i, zi_nl_r, zi_get_set_eq, nl, g1]
      · simp (maxDischargeDepth := 9) [zi_get_ne, zi_nl_i, zi_nl_r, zi_get_set_eq, nl, g2]
    · have c2' : ¬ nI x = nI k := fun e => c2 ((nI_eq (by omega) (by omega)).mp e)
      rw [if_neg c2] at ef
      have p1 : n + 1 = ((l.take (i + 1)).filter (fun x => decide (x ≠ k))).length := by rw [ef, List.length_append, ← q1]; rfl
      have p2 : ∀ j, j < n + 1 → zm_up ξ 242 n (nI x) 242 j = nI (((l.take (i + 1)).filter (fun x => decide (x ≠ k))).getD j 0) := fun j hj => by
        rw [ef, zm_up_pt]
        by_cases e : j = n
        · rw [if_pos e, zl_getD_r (by omega), e, q1, Nat.sub_self]; rfl
        · rw [if_neg e, zl_getD_l (by omega)]; exact q2 j (by omega)
      have p3 : ∀ j, i + 1 ≤ j → zm_up ξ 242 n (nI x) 242 j = μ 242 j := fun j hj => by
        rw [zm_up_ne (by omega)]; exact q3 j (by omega)
      have p4 : ∀ c d, c ≠ 242 → zm_up ξ 242 n (nI x) c d = μ c d := fun c d h => by
        rw [zm_up_ne (by omega)]; exact f1 c d h
      refine ⟨zi_set (zi_set L 2 (.int (nI (n + 1)))) 3 (.int (nI (i + 1))), zm_mk (zm_up ξ 242 n (nI x)), ⟨0, 21, fun F m hF => ?_⟩, by omega, ?_, ?_, ?_, zi_get_set_eq, _, rfl, p4, n + 1, ?_, ⟨p1, p2, p3⟩⟩
      · simp (maxDischargeDepth := 9) [zg_0, zg_aload_n, zg_bipush, zg_getfield, zg_goto, zg_iadd, zg_iaload, zg_iastore, zg_iconst, zg_if_icmp, zg_iinc, zg_iload, zg_iload_n, zg_invokevirtual, zg_ireturn, zg_istore, zg_istore_n, zg_putfield, zf_X6_closed, zi_ld, zi_lda, zi_cmp, zi_retOk, zi_isI, zi_f3, zi_cr, zi_ci, zi_cn, zi_get_ne, zi_nl_i, zi_nl_r, zi_get_set_eq, nl, g0, g1, g3, g2, c1, zM_g, e10, zm_iald (k := 0) zM_A242 ik, ck, e1, c2', zm_iast zM_A242 jk, cj, nI_add, nI_1, nI_1]
      · simp (maxDischargeDepth := 9) [zi_get_ne, zi_nl_i, zi_nl_r, zi_get_set_eq, nl]
      · simp (maxDischargeDepth := 9) [zi_get_ne, zi_nl_i, zi_nl_r, zi_get_set_eq, nl, g0]
      · simp (maxDischargeDepth := 9) [zi_get_ne, zi_nl_i, zi_nl_r, zi_get_set_eq, nl, g1]
      · simp (maxDischargeDepth := 9) [zi_get_ne, zi_nl_i, zi_nl_r, zi_get_set_eq, nl, g2]
  · rintro L _ ⟨-, nl, g0, g1, g3, ξ, rfl, f1, n, g2, hq⟩
    obtain ⟨q1, q2, q3⟩ := hq
    rw [List.take_length] at q1 q2
    have e10 : ξ 231 12 = nI l.length := (f1 _ _ (by decide)).trans l2
    have c1 : nI l.length ≤ nI l.length := Int32.le_refl _
    have hfl : (l.filter (fun x => decide (x ≠ k))).length ≤ l.length := List.length_filter_le _ _
    refine ⟨zi_set (zi_set L 3 (.int (nI 1))) 4 (.int (nI 0)), zm_mk (zm_up (zm_up ξ 231 12 (nI n)) 234 k 0), ⟨0, 16, fun F m hF => ?_⟩, ?_, ?_, ?_, ?_, zi_get_set_eq, _, rfl, ⟨by omega, by rw [zm_up_ne (by omega), zm_up_eq, q1], fun j hj => ?_⟩, zm_up_eq, fun c d h1 h2 h3 => ?_⟩
    · have n1 : nI 1 = (1 : Int32) := by decide
      simp (maxDischargeDepth := 9) [zg_0, zg_aload_n, zg_bipush, zg_getfield, zg_goto, zg_iadd, zg_iaload, zg_iastore, zg_iconst, zg_if_icmp, zg_iinc, zg_iload, zg_iload_n, zg_invokevirtual, zg_ireturn, zg_istore, zg_istore_n, zg_putfield, zf_X6_closed, zi_ld, zi_lda, zi_cmp, zi_retOk, zi_isI, zi_f3, zi_cr, zi_ci, zi_cn, zi_get_ne, zi_nl_i, zi_nl_r, zi_get_set_eq, nl, g0, g1, g2, g3, zM_g, e10, c1, zM_p12, zm_iast zM_A234 kk, ckk, nI_0, n1]
    · simp (maxDischargeDepth := 9) [zi_get_ne, zi_nl_i, zi_nl_r, zi_get_set_eq, nl]
    · simp (maxDischargeDepth := 9) [zi_get_ne, zi_nl_i, zi_nl_r, zi_get_set_eq, nl, g0]
    · simp (maxDischargeDepth := 9) [zi_get_ne, zi_nl_i, zi_nl_r, zi_get_set_eq, nl, g1]
    · simp (maxDischargeDepth := 9) [zi_get_ne, zi_nl_i, zi_nl_r, zi_get_set_eq, nl]
    · rw [zm_up_ne (by omega), zm_up_ne (by omega)]; exact q2 j (by omega)
    · rw [zm_up_ne h3, zm_up_ne h2]; exact f1 c d h1
/-- the windows X are gone -/
def zv_cl (μ ν : zm_M) (X : Nat → Bool) (row stk : List Nat) : Prop :=
  (∀ j, j < 10 → ν 234 j = if X j = true then 0 else μ 234 j) ∧ zv_L ν 242 12 (row.filter (fun x => !X x)) ∧ zv_L ν 241 10 (stk.filter (fun x => !X x)) ∧
  (∀ s, s < 3 → (ν 251 s = 0 ∨ ν 251 s = μ 251 s) ∧ (ν 251 s = 0 ↔ (μ 251 s = 0 ∨ ∃ j, j < 10 ∧ X j = true ∧ ¬ μ 252 (10 * s + j) = 0))) ∧
  ∀ c d, c ≠ 234 → c ≠ 241 → c ≠ 242 → c ≠ 251 → ¬ (c = 231 ∧ (d = 10 ∨ d = 12)) → ν c d = μ c d
def zv_add (X : Nat → Bool) (k : Nat) : Nat → Bool := fun j => decide (j = k) || X j
theorem zv_add_k {X : Nat → Bool} {k : Nat} : zv_add X k k = true := by unfold zv_add; rw [decide_eq_true rfl]; rfl
theorem zv_add_ne {X : Nat → Bool} {k j : Nat} (h : j ≠ k) : zv_add X k j = X j := by unfold zv_add; rw [decide_eq_false h]; rfl
theorem zv_add_or {X : Nat → Bool} {k j : Nat} (h : zv_add X k j = true) : j = k ∨ X j = true := by
  by_cases e : j = k
  · exact Or.inl e
  · rw [zv_add_ne e] at h; exact Or.inr h
theorem zl_flt_add {X : Nat → Bool} {k : Nat} {l : List Nat} : (l.filter (fun x => !X x)).filter (fun x => decide (x ≠ k)) = l.filter (fun x => !zv_add X k x) := by
  rw [List.filter_filter]
  refine List.filter_congr fun x _ => ?_
  by_cases e : x = k
  · rw [e, zv_add_k, decide_eq_false (not_not_intro rfl)]; rfl
  · rw [zv_add_ne e, decide_eq_true e]; rfl
set_option maxRecDepth 100000 in
theorem zv_clone (D : Nat) {ν : zm_M} {X : Nat → Bool} {row stk : List Nat} {k : Nat} (hk : k < 10) (h : zv_cl μ ν X row stk) (hX : X k = false) (hkd : ¬ μ 234 k = 1) (rb : ∀ x ∈ row, x < 10) (sb : ∀ x ∈ stk, x < 10) :
    ∃ L' ν', ze_S (D + 1) 5 (some .int) zc_X6_closed 0 [(0, .ref 232), (1, .int (nI k))] [] (zm_mk ν) 94 L' [] (zm_mk ν') ∧ zi_nl L' = true ∧ zi_get L' 0 = some (.ref 232) ∧ zi_get L' 1 = some (.int (nI k)) ∧ zi_get L' 3 = some (.int (nI 1)) ∧ zi_get L' 4 = some (.int (nI 0)) ∧ zv_cl μ ν' (zv_add X k) row stk := by
  obtain ⟨h1, h2, h3, h4, h5⟩ := h
  have kk : zi_in (nI k) 10 = true := zm_in hk (by decide)
  have ckk : (nI k).toNatClampNeg = k := nI_clamp (by omega)
  obtain ⟨lc, cM⟩ := zM_c (μ := ν)
  obtain ⟨N1, E1⟩ := ze_Mforget (μ := ν) D hk
  obtain ⟨lc1, cM1⟩ := zM_c (μ := zv_fg ν k)
  have fne : ∀ c d, c ≠ 251 → zv_fg ν k c d = ν c d := fun c d e => zv_fg_ne e
  have fat : ∀ d, d < 3 → zv_fg ν k 251 d = if ¬ ν 251 d = 0 ∧ ¬ ν 252 (10 * d + k) = 0 then 0 else ν 251 d := fun d e => zv_fg_at e
  generalize zv_fg ν k = ν1 at *
  have hS1 : zv_L ν1 241 10 (stk.filter (fun x => !X x)) := ⟨h3.1, (fne _ _ (by decide)).trans h3.2.1, fun j hj => (fne _ _ (by decide)).trans (h3.2.2 j hj)⟩
  obtain ⟨ν2, ⟨N2, E2⟩, u1, u2⟩ := ze_Munstack (μ := ν1) D hk hS1 (fun x hx => sb x (List.mem_filter.mp hx).1)
  have hR2 : zv_L ν2 242 12 (row.filter (fun x => !X x)) := ⟨h2.1, (u2 _ _ (by decide) (by omega)).trans ((fne _ _ (by decide)).trans h2.2.1), fun j hj => (u2 _ _ (by decide) (by omega)).trans ((fne _ _ (by decide)).trans (h2.2.2 j hj))⟩
  obtain ⟨L', h', S, nl, g0, g1, g3, g4, ν3, rfl, v1, v2, v3⟩ := zv_clrow (μ := ν2) (D + 1) hk hR2 (fun x hx => rb x (List.mem_filter.mp hx).1)
  have e4 : ν1 234 k = μ 234 k := by rw [fne _ _ (by decide), h1 k hk, hX]; rfl
  have c4 : ¬ ν1 234 k = 1 := by rw [e4]; exact hkd
  refine ⟨L', ν3, ze_S.trans ⟨N1 + N2, 16, fun F m hF => ?_⟩ S, nl, g0, g1, g3, g4, fun j hj => ?_, ?_, ?_, fun s hs => ?_, fun c d q1 q2 q3 q4 q5 => ?_⟩
  · simp [zg_0, zg_aload_n, zg_bipush, zg_getfield, zg_goto, zg_iadd, zg_iaload, zg_iastore, zg_iconst, zg_if_icmp, zg_iinc, zg_iload, zg_iload_n, zg_invokevirtual, zg_ireturn, zg_istore, zg_istore_n, zg_putfield, zf_X6_closed, zi_ld, zi_lda, zi_cmp, zi_retOk, zi_isI, zi_f3, zi_cr, zi_ci, zi_cn, zi_get, zi_set, zM_g, cM, cM1, zq_Mod_forget, zq_Mod_unstack, E1 F (by omega), E2 F (by omega), zm_iald (k := 0) zM_A234 kk, ckk, c4, nI_0]
  · by_cases e : j = k
    · rw [e, v2, zv_add_k]; rfl
    · rw [zv_add_ne e, v3 _ _ (by decide) (by omega) (by omega), u2 _ _ (by decide) (by omega), fne _ _ (by decide)]; exact h1 j hj
  · rw [zl_flt_add] at v1; exact v1
  · rw [zl_flt_add] at u1
    exact ⟨u1.1, (v3 _ _ (by decide) (by omega) (by omega)).trans u1.2.1, fun j hj => (v3 _ _ (by decide) (by omega) (by omega)).trans (u1.2.2 j hj)⟩
  · rw [v3 _ _ (by decide) (by omega) (by omega), u2 _ _ (by decide) (by omega), fat s hs]
    obtain ⟨a1, a2⟩ := h4 s hs
    have e5 : ν 252 (10 * s + k) = μ 252 (10 * s + k) := h5 _ _ (by decide) (by decide) (by decide) (by decide) (by omega)
    rw [e5]
    by_cases c : ¬ ν 251 s = 0 ∧ ¬ μ 252 (10 * s + k) = 0
    · rw [if_pos c]
      exact ⟨Or.inl rfl, fun _ => Or.inr ⟨k, hk, zv_add_k, c.2⟩, fun _ => rfl⟩
    · rw [if_neg c]
      refine ⟨a1, fun e => ?_, fun e => ?_⟩
      · rcases a2.mp e with e | ⟨j, hj, e1, e2⟩
        · exact Or.inl e
        · refine Or.inr ⟨j, hj, ?_, e2⟩
          by_cases q : j = k
          · rw [q]; exact zv_add_k
          · rw [zv_add_ne q]; exact e1
      · rcases e with e | ⟨j, hj, e1, e2⟩
        · exact a2.mpr (Or.inl e)
        · rcases zv_add_or e1 with q | q
          · rw [q] at e2
            exact Decidable.byContradiction fun g => c ⟨g, e2⟩
          · exact a2.mpr (Or.inr ⟨j, hj, q, e2⟩)
  · rw [v3 _ _ q3 (fun e => q5 ⟨e.1, Or.inr e.2⟩) (fun e => q1 e.1), u2 _ _ q2 (fun e => q5 ⟨e.1, Or.inl e.2⟩), fne _ _ q4]
    exact h5 c d q1 q2 q3 q4 q5
end ZVU
