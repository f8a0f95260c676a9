section
/-! the reference: closed, one window -/
section ZVU
variable {μ : zm_M}
set_option maxRecDepth 100000 in
theorem zv_clrow (D : Nat) {k : Nat} (hk : k < 10) {l : List Nat} (hL : zv_L μ 242 12 l) (hb : ∀ x ∈ l, x < 10) :
    ∃ L' h', ze_S D 5 (some .int) zc_X6_closed 38 [(3, .int (nI 0)), (2, .int (nI 0)), (0, .ref 232), (1, .int (nI k))] [] (zm_mk μ) 94 L' [] h' ∧ (zi_nl L' = true ∧ zi_get L' 0 = some (.ref 232) ∧ zi_get L' 1 = some (.int (nI k)) ∧ zi_get L' 3 = some (.int (nI 1)) ∧ zi_get L' 4 = some (.int (nI 0)) ∧ ∃ ν, zm_mk ν = h' ∧ zv_L ν 242 12 (l.filter (fun x => decide (x ≠ k))) ∧ ν 234 k = 0 ∧ ∀ c d, c ≠ 242 → ¬ (c = 231 ∧ d = 12) → ¬ (c = 234 ∧ d = k) → ν c d = μ c d) := by
  obtain ⟨l1, l2, l3⟩ := hL
  have kk : zi_in (nI k) 10 = true := zm_in hk (by decide)
  have ckk : (nI k).toNatClampNeg = k := nI_clamp (by omega)
  refine ze_loopS (Q := fun i L hp => i ≤ l.length ∧ zi_nl L = true ∧ zi_get L 0 = some (.ref 232) ∧ zi_get L 1 = some (.int (nI k)) ∧ zi_get L 3 = some (.int (nI i)) ∧ ∃ ξ : zm_M, zm_mk ξ = hp ∧ (∀ c d, c ≠ 242 → ξ c d = μ c d) ∧ ∃ (n : Nat), zi_get L 2 = some (.int (nI n)) ∧ (n = ((l.take i).filter (fun x => decide (x ≠ k))).length ∧ (∀ j, j < n → ξ 242 j = nI (((l.take i).filter (fun x => decide (x ≠ k))).getD j 0)) ∧ ∀ j, i ≤ j → ξ 242 j = μ 242 j)) (R := fun L' h' => zi_nl L' = true ∧ zi_get L' 0 = some (.ref 232) ∧ zi_get L' 1 = some (.int (nI k)) ∧ zi_get L' 3 = some (.int (nI 1)) ∧ zi_get L' 4 = some (.int (nI 0)) ∧ ∃ ν, zm_mk ν = h' ∧ zv_L ν 242 12 (l.filter (fun x => decide (x ≠ k))) ∧ ν 234 k = 0 ∧ ∀ c d, c ≠ 242 → ¬ (c = 231 ∧ d = 12) → ¬ (c = 234 ∧ d = k) → ν c d = μ c d) l.length ?_ ?_ l.length 0 _ _ (by omega) ⟨by omega, rfl, rfl, rfl, rfl, μ, rfl, (fun _ _ _ => rfl), 0, rfl, ⟨rfl, (fun j hj => absurd hj (by omega)), fun _ _ => rfl⟩⟩
  · rintro i L _ hi ⟨-, nl, g0, g1, g3, ξ, rfl, f1, n, g2, hq⟩
    obtain ⟨q1, q2, q3⟩ := hq
    have hni : n ≤ i := by rw [q1]; exact zl_fl_le
    have e10 : ξ 231 12 = nI l.length := (f1 _ _ (by decide)).trans l2
    have c1 : ¬ nI l.length ≤ nI i := nI_ge hi (by omega)
    have ik : zi_in (nI i) 10 = true := zm_in (by omega) (by decide)
    have ck : (nI i).toNatClampNeg = i := nI_clamp (by omega)
    have jk : zi_in (nI n) 10 = true := zm_in (by omega) (by decide)
    have cj : (nI n).toNatClampNeg = n := nI_clamp (by omega)
    have e1 : ξ 242 i = nI (l.getD i 0) := (q3 i (Nat.le_refl _)).trans (l3 i hi)
    have hx := hb _ (zl_mem hi)
    have ef := zl_take_f (k := k) hi
    generalize l.getD i 0 = x at e1 hx ef
    by_cases c2 : x = k
    · have c2' : nI x = nI k := by rw [c2]
      rw [if_pos c2, List.append_nil] at ef
      rw [← ef] at q1 q2
      refine ⟨zi_set L 3 (.int (nI (i + 1))), zm_mk ξ, ⟨0, 12, fun F m hF => ?_⟩, by omega, ?_, ?_, ?_, zi_get_set_eq, ξ, rfl, f1, n, ?_, ⟨q1, q2, fun j hj => q3 j (by omega)⟩⟩
      · simp (maxDischargeDepth := 9) [zg_0, zg_aload_n, zg_bipush, zg_getfield, zg_goto, zg_iadd, zg_iaload, zg_iastore, zg_iconst, zg_if_icmp, zg_iinc, zg_iload, zg_iload_n, zg_invokevirtual, zg_ireturn, zg_istore, zg_istore_n, zg_putfield, zf_X6_closed, zi_ld, zi_lda, zi_cmp, zi_retOk, zi_isI, zi_f3, zi_cr, zi_ci, zi_cn, zi_get_ne, zi_nl_i, zi_nl_r, zi_get_set_eq, nl, g0, g1, g3, g2, c1, zM_g, e10, zm_iald (k := 0) zM_A242 ik, ck, e1, c2', nI_1]
      · simp (maxDischargeDepth := 9) [zi_get_ne, zi_nl_i, zi_nl_r, zi_get_set_eq, nl]
      · simp (maxDischargeDepth := 9) [zi_get_ne, zi_nl_i, zi_nl_r, zi_get_set_eq, nl, g0]
      · simp (maxDischargeDepth := 9) [zi_get_ne, zi_nl_i, zi_nl_r, zi_get_set_eq, nl, g1]
      · simp (maxDischargeDepth := 9) [zi_get_ne, zi_nl_i, zi_nl_r, zi_get_set_eq, nl, g2]
    · have c2' : ¬ nI x = nI k := fun e => c2 ((nI_eq (by omega) (by omega)).mp e)
      rw [if_neg c2] at ef
      have p1 : n + 1 = ((l.take (i + 1)).filter (fun x => decide (x ≠ k))).length := by rw [ef, List.length_append, ← q1]; rfl
      have p2 : ∀ j, j < n + 1 → zm_up ξ 242 n (nI x) 242 j = nI (((l.take (i + 1)).filter (fun x => decide (x ≠ k))).getD j 0) := fun j hj => by
        rw [ef, zm_up_pt]
        by_cases e : j = n
        · rw [if_pos e, zl_getD_r (by omega), e, q1, Nat.sub_self]; rfl
        · rw [if_neg e, zl_getD_l (by omega)]; exact q2 j (by omega)
      have p3 : ∀ j, i + 1 ≤ j → zm_up ξ 242 n (nI x) 242 j = μ 242 j := fun j hj => by
        rw [zm_up_ne (by omega)]; exact q3 j (by omega)
      have p4 : ∀ c d, c ≠ 242 → zm_up ξ 242 n (nI x) c d = μ c d := fun c d h => by
        rw [zm_up_ne (by omega)]; exact f1 c d h
      refine ⟨zi_set (zi_set L 2 (.int (nI (n + 1)))) 3 (.int (nI (i + 1))), zm_mk (zm_up ξ 242 n (nI x)), ⟨0, 21, fun F m hF => ?_⟩, by omega, ?_, ?_, ?_, zi_get_set_eq, _, rfl, p4, n + 1, ?_, ⟨p1, p2, p3⟩⟩
      · simp (maxDischargeDepth := 9) [zg_0, zg_aload_n, zg_bipush, zg_getfield, zg_goto, zg_iadd, zg_iaload, zg_iastore, zg_iconst, zg_if_icmp, zg_iinc, zg_iload, zg_iload_n, zg_invokevirtual, zg_ireturn, zg_istore, zg_istore_n, zg_putfield, zf_X6_closed, zi_ld, zi_lda, zi_cmp, zi_retOk, zi_isI, zi_f3, zi_cr, zi_ci, zi_cn, zi_get_ne, zi_nl_i, zi_nl_r, zi_get_set_eq, nl, g0, g1, g3, g2, c1, zM_g, e10, zm_iald (k := 0) zM_A242 ik, ck, e1, c2', zm_iast zM_A242 jk, cj, nI_add, nI_1, nI_1]
      · simp (maxDischargeDepth := 9) [zi_get_ne, zi_nl_i, zi_nl_r, zi_get_set_eq, nl]
      · simp (maxDischargeDepth := 9) [zi_get_ne, zi_nl_i, zi_nl_r, zi_get_set_eq, nl, g0]
      · simp (maxDischargeDepth := 9) [zi_get_ne, zi_nl_i, zi_nl_r, zi_get_set_eq, nl, g1]
      · simp (maxDischargeDepth := 9) [zi_get_ne, zi_nl_i, zi_nl_r, zi_get_set_eq, nl, g2]
  · rintro L _ ⟨-, nl, g0, g1, g3, ξ, rfl, f1, n, g2, hq⟩
    obtain ⟨q1, q2, q3⟩ := hq
    rw [List.take_length] at q1 q2
    have e10 : ξ 231 12 = nI l.length := (f1 _ _ (by decide)).trans l2
    have c1 : nI l.length ≤ nI l.length := Int32.le_refl _
    have hfl : (l.filter (fun x => decide (x ≠ k))).length ≤ l.length := List.length_filter_le _ _
    refine ⟨zi_set (zi_set L 3 (.int (nI 1))) 4 (.int (nI 0)), zm_mk (zm_up (zm_up ξ 231 12 (nI n)) 234 k 0), ⟨0, 16, fun F m hF => ?_⟩, ?_, ?_, ?_, ?_, zi_get_set_eq, _, rfl, ⟨by omega, by rw [zm_up_ne (by omega), zm_up_eq, q1], fun j hj => ?_⟩, zm_up_eq, fun c d h1 h2 h3 => ?_⟩
    · have n1 : nI 1 = (1 : Int32) := by decide
      simp (maxDischargeDepth := 9) [zg_0, zg_aload_n, zg_bipush, zg_getfield, zg_goto, zg_iadd, zg_iaload, zg_iastore, zg_iconst, zg_if_icmp, zg_iinc, zg_iload, zg_iload_n, zg_invokevirtual, zg_ireturn, zg_istore, zg_istore_n, zg_putfield, zf_X6_closed, zi_ld, zi_lda, zi_cmp, zi_retOk, zi_isI, zi_f3, zi_cr, zi_ci, zi_cn, zi_get_ne, zi_nl_i, zi_nl_r, zi_get_set_eq, nl, g0, g1, g2, g3, zM_g, e10, c1, zM_p12, zm_iast zM_A234 kk, ckk, nI_0, n1]
    · simp (maxDischargeDepth := 9) [zi_get_ne, zi_nl_i, zi_nl_r, zi_get_set_eq, nl]
    · simp (maxDischargeDepth := 9) [zi_get_ne, zi_nl_i, zi_nl_r, zi_get_set_eq, nl, g0]
    · simp (maxDischargeDepth := 9) [zi_get_ne, zi_nl_i, zi_nl_r, zi_get_set_eq, nl, g1]
    · simp (maxDischargeDepth := 9) [zi_get_ne, zi_nl_i, zi_nl_r, zi_get_set_eq, nl]
    · rw [zm_up_ne (by omega), zm_up_ne (by omega)]; exact q2 j (by omega)
    · rw [zm_up_ne h3, zm_up_ne h2]; exact f1 c d h1
/-- the windows X are gone -/
noncomputable def zv_cl (μ ν : zm_M) (X : Nat → Bool) (row stk : List Nat) : Prop :=
  (∀ j, j < 10 → ν 234 j = if X j = true then 0 else μ 234 j) ∧ zv_L ν 242 12 (row.filter (fun x => !X x)) ∧ zv_L ν 241 10 (stk.filter (fun x => !X x)) ∧
  (∀ s, s < 3 → (ν 251 s = 0 ∨ ν 251 s = μ 251 s) ∧ (ν 251 s = 0 ↔ (μ 251 s = 0 ∨ ∃ j, j < 10 ∧ X j = true ∧ ¬ μ 252 (10 * s + j) = 0))) ∧
  ∀ c d, c ≠ 234 → c ≠ 241 → c ≠ 242 → c ≠ 251 → ¬ (c = 231 ∧ (d = 10 ∨ d = 12)) → ν c d = μ c d
noncomputable def zv_add (X : Nat → Bool) (k : Nat) : Nat → Bool := fun j => decide (j = k) || X j
theorem zv_add_k {X : Nat → Bool} {k : Nat} : zv_add X k k = true := by unfold zv_add; rw [decide_eq_true rfl]; rfl
theorem zv_add_ne {X : Nat → Bool} {k j : Nat} (h : j ≠ k) : zv_add X k j = X j := by unfold zv_add; rw [decide_eq_false h]; rfl
theorem zv_add_or {X : Nat → Bool} {k j : Nat} (h : zv_add X k j = true) : j = k ∨ X j = true := by
  by_cases e : j = k
  · exact Or.inl e
  · rw [zv_add_ne e] at h; exact Or.inr h
theorem zl_flt_add {X : Nat → Bool} {k : Nat} {l : List Nat} : (l.filter (fun x => !X x)).filter (fun x => decide (x ≠ k)) = l.filter (fun x => !zv_add X k x) := by
  rw [List.filter_filter]
  refine List.filter_congr fun x _ => ?_
  by_cases e : x = k
  · rw [e, zv_add_k, decide_eq_false (not_not_intro rfl)]; rfl
  · rw [zv_add_ne e, decide_eq_true e]; rfl
set_option maxRecDepth 100000 in
theorem zv_clone (D : Nat) {ν : zm_M} {X : Nat → Bool} {row stk : List Nat} {k : Nat} (hk : k < 10) (h : zv_cl μ ν X row stk) (hX : X k = false) (hkd : ¬ μ 234 k = 1) (rb : ∀ x ∈ row, x < 10) (sb : ∀ x ∈ stk, x < 10) :
    ∃ L' ν', ze_S (D + 1) 5 (some .int) zc_X6_closed 0 [(0, .ref 232), (1, .int (nI k))] [] (zm_mk ν) 94 L' [] (zm_mk ν') ∧ zi_nl L' = true ∧ zi_get L' 0 = some (.ref 232) ∧ zi_get L' 1 = some (.int (nI k)) ∧ zi_get L' 3 = some (.int (nI 1)) ∧ zi_get L' 4 = some (.int (nI 0)) ∧ zv_cl μ ν' (zv_add X k) row stk := by
  obtain ⟨h1, h2, h3, h4, h5⟩ := h
  have kk : zi_in (nI k) 10 = true := zm_in hk (by decide)
  have ckk : (nI k).toNatClampNeg = k := nI_clamp (by omega)
  obtain ⟨lc, cM⟩ := zM_c (μ := ν)
  obtain ⟨N1, E1⟩ := ze_Mforget (μ := ν) D hk
  obtain ⟨lc1, cM1⟩ := zM_c (μ := zv_fg ν k)
  have fne : ∀ c d, c ≠ 251 → zv_fg ν k c d = ν c d := fun c d e => zv_fg_ne e
  have fat : ∀ d, d < 3 → zv_fg ν k 251 d = if ¬ ν 251 d = 0 ∧ ¬ ν 252 (10 * d + k) = 0 then 0 else ν 251 d := fun d e => zv_fg_at e
  generalize zv_fg ν k = ν1 at *
  have hS1 : zv_L ν1 241 10 (stk.filter (fun x => !X x)) := ⟨h3.1, (fne _ _ (by decide)).trans h3.2.1, fun j hj => (fne _ _ (by decide)).trans (h3.2.2 j hj)⟩
  obtain ⟨ν2, ⟨N2, E2⟩, u1, u2⟩ := ze_Munstack (μ := ν1) D hk hS1 (fun x hx => sb x (List.mem_filter.mp hx).1)
  have hR2 : zv_L ν2 242 12 (row.filter (fun x => !X x)) := ⟨h2.1, (u2 _ _ (by decide) (by omega)).trans ((fne _ _ (by decide)).trans h2.2.1), fun j hj => (u2 _ _ (by decide) (by omega)).trans ((fne _ _ (by decide)).trans (h2.2.2 j hj))⟩
  obtain ⟨L', h', S, nl, g0, g1, g3, g4, ν3, rfl, v1, v2, v3⟩ := zv_clrow (μ := ν2) (D + 1) hk hR2 (fun x hx => rb x (List.mem_filter.mp hx).1)
  have e4 : ν1 234 k = μ 234 k := by rw [fne _ _ (by decide), h1 k hk, hX]; rfl
  have c4 : ¬ ν1 234 k = 1 := by rw [e4]; exact hkd
  refine ⟨L', ν3, ze_S.trans ⟨N1 + N2, 16, fun F m hF => ?_⟩ S, nl, g0, g1, g3, g4, fun j hj => ?_, ?_, ?_, fun s hs => ?_, fun c d q1 q2 q3 q4 q5 => ?_⟩
  · simp [zg_0, zg_aload_n, zg_bipush, zg_getfield, zg_goto, zg_iadd, zg_iaload, zg_iastore, zg_iconst, zg_if_icmp, zg_iinc, zg_iload, zg_iload_n, zg_invokevirtual, zg_ireturn, zg_istore, zg_istore_n, zg_putfield, zf_X6_closed, zi_ld, zi_lda, zi_cmp, zi_retOk, zi_isI, zi_f3, zi_cr, zi_ci, zi_cn, zi_get, zi_set, zM_g, cM, cM1, zq_Mod_forget, zq_Mod_unstack, E1 F (by omega), E2 F (by omega), zm_iald (k := 0) zM_A234 kk, ckk, c4, nI_0]
  · by_cases e : j = k
    · rw [e, v2, zv_add_k]; rfl
    · rw [zv_add_ne e, v3 _ _ (by decide) (by omega) (by omega), u2 _ _ (by decide) (by omega), fne _ _ (by decide)]; exact h1 j hj
  · rw [zl_flt_add] at v1; exact v1
  · rw [zl_flt_add] at u1
    exact ⟨u1.1, (v3 _ _ (by decide) (by omega) (by omega)).trans u1.2.1, fun j hj => (v3 _ _ (by decide) (by omega) (by omega)).trans (u1.2.2 j hj)⟩
  · rw [v3 _ _ (by decide) (by omega) (by omega), u2 _ _ (by decide) (by omega), fat s hs]
    obtain ⟨a1, a2⟩ := h4 s hs
    have e5 : ν 252 (10 * s + k) = μ 252 (10 * s + k) := h5 _ _ (by decide) (by decide) (by decide) (by decide) (by omega)
    rw [e5]
    by_cases c : ¬ ν 251 s = 0 ∧ ¬ μ 252 (10 * s + k) = 0
    · rw [if_pos c]
      exact ⟨Or.inl rfl, fun _ => Or.inr ⟨k, hk, zv_add_k, c.2⟩, fun _ => rfl⟩
    · rw [if_neg c]
      refine ⟨a1, fun e => ?_, fun e => ?_⟩
      · rcases a2.mp e with e | ⟨j, hj, e1, e2⟩
        · exact Or.inl e
        · refine Or.inr ⟨j, hj, ?_, e2⟩
          by_cases q : j = k
          · rw [q]; exact zv_add_k
          · rw [zv_add_ne q]; exact e1
      · rcases e with e | ⟨j, hj, e1, e2⟩
        · exact a2.mpr (Or.inl e)
        · rcases zv_add_or e1 with q | q
          · rw [q] at e2
            exact Decidable.byContradiction fun g => c ⟨g, e2⟩
          · exact a2.mpr (Or.inr ⟨j, hj, q, e2⟩)
  · rw [v3 _ _ q3 (fun e => q5 ⟨e.1, Or.inr e.2⟩) (fun e => q1 e.1), u2 _ _ q2 (fun e => q5 ⟨e.1, Or.inl e.2⟩), fne _ _ q4]
    exact h5 c d q1 q2 q3 q4 q5
end ZVU
end
section
/-! the reference: closed whole -/
/-- X' is X and k and what hangs on k -/
noncomputable def zv_gs (μ : zm_M) (k : Nat) (X X' : Nat → Bool) : Prop :=
  X' k = true ∧ (∀ j, X j = true → X' j = true) ∧ (∀ j, j < 10 → X' j = true → X j = false → ∀ d, d < 10 → μ 234 d = 3 → μ 237 d = nI j → X' d = true) ∧
  ∀ Y : Nat → Bool, Y k = true → (∀ d o, d < 10 → o < 10 → μ 234 d = 3 → μ 237 d = nI o → Y o = true → Y d = true) → ∀ j, X' j = true → X j = true ∨ Y j = true
/-- on the way: the numbers below i are done -/
noncomputable def zv_gi (μ : zm_M) (k : Nat) (X X' : Nat → Bool) (i : Nat) : Prop :=
  X' k = true ∧ (∀ j, X j = true → X' j = true) ∧ (∀ j, j < 10 → j ≠ k → X' j = true → X j = false → ∀ d, d < 10 → μ 234 d = 3 → μ 237 d = nI j → X' d = true) ∧ (∀ d, d < i → μ 234 d = 3 → μ 237 d = nI k → X' d = true) ∧
  ∀ Y : Nat → Bool, Y k = true → (∀ d o, d < 10 → o < 10 → μ 234 d = 3 → μ 237 d = nI o → Y o = true → Y d = true) → ∀ j, X' j = true → X j = true ∨ Y j = true
theorem zl_ct_add {X : Nat → Bool} {k : Nat} (hX : X k = false) : ∀ n, zl_ct (zv_add X k) n = zl_ct X n + if k < n then 1 else 0
  | 0 => rfl
  | n + 1 => by
    show zl_ct (zv_add X k) n + (if zv_add X k n then 1 else 0) = zl_ct X n + (if X n then 1 else 0) + if k < n + 1 then 1 else 0
    rw [zl_ct_add hX n]
    by_cases e : n = k
    · subst e
      rw [zv_add_k, hX, if_neg (Nat.lt_irrefl _), if_pos rfl, if_neg (by decide), if_pos (Nat.lt_succ_self _)]
    · rw [zv_add_ne e]
      by_cases c : k < n
      · have c' : k < n + 1 := by omega
        rw [if_pos c, if_pos c']; omega
      · have c' : ¬ k < n + 1 := by omega
        rw [if_neg c, if_neg c']; omega
section ZVW
variable {μ : zm_M} {row stk : List Nat}
theorem zv_gi_0 {k : Nat} {X : Nat → Bool} : zv_gi μ k X (zv_add X k) 0 := by
  refine ⟨zv_add_k, fun j h => ?_, fun j _ hne h1 h2 => ?_, fun d h => absurd h (by omega), fun Y hY _ j h => ?_⟩
  · by_cases e : j = k
    · rw [e]; exact zv_add_k
    · rw [zv_add_ne e]; exact h
  · rw [zv_add_ne hne, h2] at h1; cases h1
  · rcases zv_add_or h with e | e
    · rw [e]; exact Or.inr hY
    · exact Or.inl e
theorem zv_gi_skip {k i : Nat} {X X' : Nat → Bool} (h : zv_gi μ k X X' i) (hn : μ 234 i = 3 → μ 237 i = nI k → X' i = true) : zv_gi μ k X X' (i + 1) :=
  ⟨h.1, h.2.1, h.2.2.1, fun d hd e1 e2 => by
    by_cases e : d = i
    · subst e; exact hn e1 e2
    · exact h.2.2.2.1 d (by omega) e1 e2, h.2.2.2.2⟩
theorem zv_gi_call {k i : Nat} {X X1 X2 : Nat → Bool} (hk : k < 10) (hi : i < 10) (h : zv_gi μ k X X1 i) (e1 : μ 234 i = 3) (e2 : μ 237 i = nI k) (g : zv_gs μ i X1 X2) : zv_gi μ k X X2 (i + 1) := by
  obtain ⟨a1, a2, a3, a4, a5⟩ := h
  obtain ⟨b1, b2, b3, b4⟩ := g
  refine ⟨b2 _ a1, fun j hj => b2 _ (a2 j hj), fun j hj hne hx hX d hd q1 q2 => ?_, fun d hd q1 q2 => ?_, fun Y hY hcl j hj => ?_⟩
  · by_cases c : X1 j = true
    · exact b2 _ (a3 j hj hne c hX d hd q1 q2)
    · exact b3 j hj hx (by simpa using c) d hd q1 q2
  · by_cases e : d = i
    · rw [e]; exact b1
    · exact b2 _ (a4 d (by omega) q1 q2)
  · rcases b4 Y (hcl i k hi hk e1 e2 hY) hcl j hj with c | c
    · exact a5 Y hY hcl j c
    · exact Or.inr c
theorem zv_gi_end {k : Nat} {X X' : Nat → Bool} (h : zv_gi μ k X X' 10) : zv_gs μ k X X' := by
  refine ⟨h.1, h.2.1, fun j hj hx hX d hd q1 q2 => ?_, h.2.2.2.2⟩
  by_cases e : j = k
  · rw [e] at q2; exact h.2.2.2.1 d hd q1 q2
  · exact h.2.2.1 j hj e hx hX d hd q1 q2
set_option maxRecDepth 100000 in
theorem zv_clL (E : Nat) {k : Nat} (hk : k < 10) {X : Nat → Bool} {c0 : Nat} (hc0 : zl_ct X 10 = c0)
    (IH : ∀ o, o < 10 → μ 234 o = 3 → μ 237 o = nI k → ∀ ν X, zv_cl μ ν X row stk → X o = false → ∃ ν' X' a, ze_E E A_Mod_closed [.ref 232, .int (nI o)] (zm_mk ν) (some (.int (nI a))) (zm_mk ν') ∧ zv_cl μ ν' X' row stk ∧ zv_gs μ o X X' ∧ zl_ct X' 10 = zl_ct X 10 + a)
    {ν0 : zm_M} {X0 : Nat → Bool} (h0 : zv_cl μ ν0 X0 row stk) (g : zv_gi μ k X X0 0) (hct : zl_ct X0 10 = c0 + 1)
    (L0 : zi_Lc) (nl0 : zi_nl L0 = true) (b0 : zi_get L0 0 = some (.ref 232)) (b1 : zi_get L0 1 = some (.int (nI k))) (b3 : zi_get L0 3 = some (.int (nI 1))) (b4 : zi_get L0 4 = some (.int (nI 0))) :
    ∃ r h', ze_G E 5 (some .int) zc_X6_closed 94 L0 [] (zm_mk ν0) r h' ∧ (∃ ν' X' a, r = some (.int (nI a)) ∧ zm_mk ν' = h' ∧ zv_cl μ ν' X' row stk ∧ zv_gs μ k X X' ∧ zl_ct X' 10 = c0 + a) := by
  have h10 : (Int8.ofInt 10).toInt32 = (10 : Int32) := by decide
  refine ze_loop (Q := fun i L hp => i ≤ 10 ∧ zi_nl L = true ∧ zi_get L 0 = some (.ref 232) ∧ zi_get L 1 = some (.int (nI k)) ∧ zi_get L 4 = some (.int (nI i)) ∧ ∃ ξ : zm_M, zm_mk ξ = hp ∧ ∃ (a : Nat), zi_get L 3 = some (.int (nI a)) ∧ (∃ X1, zv_cl μ ξ X1 row stk ∧ zv_gi μ k X X1 i ∧ zl_ct X1 10 = c0 + a)) (R := fun r h' => ∃ ν' X' a, r = some (.int (nI a)) ∧ zm_mk ν' = h' ∧ zv_cl μ ν' X' row stk ∧ zv_gs μ k X X' ∧ zl_ct X' 10 = c0 + a) 10 ?_ ?_ 10 0 _ _ (by omega) ⟨by omega, nl0, b0, b1, b4, ν0, rfl, 1, b3, X0, h0, g, hct⟩
  · rintro i L _ hi ⟨-, nl, g0, g1, g4, ξ, rfl, a, g3, hq⟩
    obtain ⟨X1, hc, hg, hct⟩ := hq
    have c1 : ¬ (10 : Int32) ≤ nI i := nI_ge (b := 10) hi (by decide)
    have ik : zi_in (nI i) 10 = true := zm_in hi (by decide)
    have ck : (nI i).toNatClampNeg = i := nI_clamp (by omega)
    have e4 := hc.1 i hi
    have e7 : ξ 237 i = μ 237 i := hc.2.2.2.2 _ _ (by decide) (by decide) (by decide) (by decide) (by omega)
    obtain ⟨lc, cM⟩ := zM_c (μ := ξ)
    by_cases d1 : ξ 234 i = 3
    · have hX1 : X1 i = false := by
        by_cases e : X1 i = true
        · rw [if_pos e] at e4; rw [e4] at d1; exact absurd d1 (by decide)
        · simpa using e
      rw [hX1, if_neg (by decide), d1] at e4
      by_cases d2 : μ 237 i = nI k
      · obtain ⟨ν', X', a', ⟨N1, E1⟩, hc', hg', hct'⟩ := IH i hi e4.symm d2 ξ X1 hc hX1
        left
        refine ⟨zi_set (zi_set L 3 (.int (nI (a + a')))) 4 (.int (nI (i + 1))), zm_mk ν', ⟨N1, 23, fun F m hF => ?_⟩, by omega, ?_, ?_, ?_, zi_get_set_eq, ν', rfl, a + a', ?_, X', hc', zv_gi_call hk hi hg e4.symm d2 hg', by omega⟩
        · simp (maxDischargeDepth := 9) [zg_0, zg_aload_n, zg_bipush, zg_getfield, zg_goto, zg_iadd, zg_iaload, zg_iastore, zg_iconst, zg_if_icmp, zg_iinc, zg_iload, zg_iload_n, zg_invokevirtual, zg_ireturn, zg_istore, zg_istore_n, zg_putfield, zf_X6_closed, zi_ld, zi_lda, zi_cmp, zi_retOk, zi_isI, zi_f3, zi_cr, zi_ci, zi_cn, zi_get_ne, zi_nl_i, zi_nl_r, zi_get_set_eq, nl, g0, g1, g3, g4, h10, c1, zM_g, zm_iald (k := 0) zM_A234 ik, zm_iald (k := 0) zM_A237 ik, ck, d1, e7, d2, cM, zq_Mod_closed, E1 F (by omega), nI_add, nI_1]
        · simp (maxDischargeDepth := 9) [zi_get_ne, zi_nl_i, zi_nl_r, zi_get_set_eq, nl]
        · simp (maxDischargeDepth := 9) [zi_get_ne, zi_nl_i, zi_nl_r, zi_get_set_eq, nl, g0]
        · simp (maxDischargeDepth := 9) [zi_get_ne, zi_nl_i, zi_nl_r, zi_get_set_eq, nl, g1]
        · simp (maxDischargeDepth := 9) [zi_get_ne, zi_nl_i, zi_nl_r, zi_get_set_eq, nl]
      · left
        refine ⟨zi_set L 4 (.int (nI (i + 1))), zm_mk ξ, ⟨0, 17, fun F m hF => ?_⟩, by omega, ?_, ?_, ?_, zi_get_set_eq, ξ, rfl, a, ?_, ⟨X1, hc, zv_gi_skip hg (fun _ e => absurd e d2), hct⟩⟩
        · simp (maxDischargeDepth := 9) [zg_0, zg_aload_n, zg_bipush, zg_getfield, zg_goto, zg_iadd, zg_iaload, zg_iastore, zg_iconst, zg_if_icmp, zg_iinc, zg_iload, zg_iload_n, zg_invokevirtual, zg_ireturn, zg_istore, zg_istore_n, zg_putfield, zf_X6_closed, zi_ld, zi_lda, zi_cmp, zi_retOk, zi_isI, zi_f3, zi_cr, zi_ci, zi_cn, zi_get_ne, zi_nl_i, zi_nl_r, zi_get_set_eq, nl, g0, g1, g4, g3, h10, c1, zM_g, zm_iald (k := 0) zM_A234 ik, zm_iald (k := 0) zM_A237 ik, ck, d1, e7, d2, nI_1]
        · simp (maxDischargeDepth := 9) [zi_get_ne, zi_nl_i, zi_nl_r, zi_get_set_eq, nl]
        · simp (maxDischargeDepth := 9) [zi_get_ne, zi_nl_i, zi_nl_r, zi_get_set_eq, nl, g0]
        · simp (maxDischargeDepth := 9) [zi_get_ne, zi_nl_i, zi_nl_r, zi_get_set_eq, nl, g1]
        · simp (maxDischargeDepth := 9) [zi_get_ne, zi_nl_i, zi_nl_r, zi_get_set_eq, nl, g3]
    · have hsk : μ 234 i = 3 → μ 237 i = nI k → X1 i = true := fun e _ => by
        by_cases q : X1 i = true
        · exact q
        · rw [if_neg q, e] at e4; exact absurd e4 d1
      left
      refine ⟨zi_set L 4 (.int (nI (i + 1))), zm_mk ξ, ⟨0, 11, fun F m hF => ?_⟩, by omega, ?_, ?_, ?_, zi_get_set_eq, ξ, rfl, a, ?_, ⟨X1, hc, zv_gi_skip hg hsk, hct⟩⟩
      · simp (maxDischargeDepth := 9) [zg_0, zg_aload_n, zg_bipush, zg_getfield, zg_goto, zg_iadd, zg_iaload, zg_iastore, zg_iconst, zg_if_icmp, zg_iinc, zg_iload, zg_iload_n, zg_invokevirtual, zg_ireturn, zg_istore, zg_istore_n, zg_putfield, zf_X6_closed, zi_ld, zi_lda, zi_cmp, zi_retOk, zi_isI, zi_f3, zi_cr, zi_ci, zi_cn, zi_get_ne, zi_nl_i, zi_nl_r, zi_get_set_eq, nl, g0, g1, g4, g3, h10, c1, zM_g, zm_iald (k := 0) zM_A234 ik, ck, d1, nI_1]
      · simp (maxDischargeDepth := 9) [zi_get_ne, zi_nl_i, zi_nl_r, zi_get_set_eq, nl]
      · simp (maxDischargeDepth := 9) [zi_get_ne, zi_nl_i, zi_nl_r, zi_get_set_eq, nl, g0]
      · simp (maxDischargeDepth := 9) [zi_get_ne, zi_nl_i, zi_nl_r, zi_get_set_eq, nl, g1]
      · simp (maxDischargeDepth := 9) [zi_get_ne, zi_nl_i, zi_nl_r, zi_get_set_eq, nl, g3]
  · rintro L _ ⟨-, nl, g0, g1, g4, ξ, rfl, a, g3, hq⟩
    obtain ⟨X1, hc, hg, hct⟩ := hq
    have c1 : (10 : Int32) ≤ nI 10 := by decide
    refine ⟨_, zm_mk ξ, ⟨0, 5, fun F m hF => ?_⟩, ξ, X1, a, rfl, rfl, hc, zv_gi_end hg, hct⟩
    simp [zg_0, zg_aload_n, zg_bipush, zg_getfield, zg_goto, zg_iadd, zg_iaload, zg_iastore, zg_iconst, zg_if_icmp, zg_iinc, zg_iload, zg_iload_n, zg_invokevirtual, zg_ireturn, zg_istore, zg_istore_n, zg_putfield, zf_X6_closed, zi_ld, zi_lda, zi_cmp, zi_retOk, zi_isI, zi_f3, zi_cr, zi_ci, zi_cn, g0, g3, g4, h10, c1]
variable {rk : Nat → Nat}
theorem ze_MclosedR (hr : zv_rk μ rk) (rb : ∀ x ∈ row, x < 10) (sb : ∀ x ∈ stk, x < 10) : ∀ (n k D : Nat), k < 10 → 9 - rk k ≤ n → ¬ μ 234 k = 1 → ∀ ν X, zv_cl μ ν X row stk → X k = false →
    ∃ ν' X' a, ze_E (D + 2 + n) A_Mod_closed [.ref 232, .int (nI k)] (zm_mk ν) (some (.int (nI a))) (zm_mk ν') ∧ zv_cl μ ν' X' row stk ∧ zv_gs μ k X X' ∧ zl_ct X' 10 = zl_ct X 10 + a := by
  intro n
  induction n with
  | zero =>
    intro k D hk hn hkd ν X hc hX
    obtain ⟨L', ν1, S, nl, g0, g1, g3, g4, hc1⟩ := zv_clone (μ := μ) D hk hc hX hkd rb sb
    have hct : zl_ct (zv_add X k) 10 = zl_ct X 10 + 1 := by rw [zl_ct_add hX, if_pos hk]
    obtain ⟨r, h', G, ν', X', a, rfl, rfl, q⟩ := zv_clL (μ := μ) (D + 1) hk (X := X) rfl (fun o ho e1 e2 => by
      obtain ⟨p, hp, e3, h3⟩ := hr.2 o ho e1
      have : p = k := (nI_eq (by omega) (by omega)).mp (e3.symm.trans e2)
      have := hr.1 o ho
      subst p
      omega) hc1 zv_gi_0 hct L' nl g0 g1 g3 g4
    exact ⟨ν', X', a, ze_in [(0, .ref 232), (1, .int (nI k))] zq_Mod_closed (Nat.le_of_ble_eq_true rfl) rfl (S.end G), q⟩
  | succ n ih =>
    intro k D hk hn hkd ν X hc hX
    obtain ⟨L', ν1, S, nl, g0, g1, g3, g4, hc1⟩ := zv_clone (μ := μ) (D + 1 + n) hk hc hX hkd rb sb
    have eD : D + 1 + n + 1 = D + 2 + n := by omega
    rw [eD] at S
    have hct : zl_ct (zv_add X k) 10 = zl_ct X 10 + 1 := by rw [zl_ct_add hX, if_pos hk]
    obtain ⟨r, h', G, ν', X', a, rfl, rfl, q⟩ := zv_clL (μ := μ) (D + 2 + n) hk (X := X) rfl (fun o ho e1 e2 => by
      obtain ⟨p, hp, e3, h3⟩ := hr.2 o ho e1
      have : p = k := (nI_eq (by omega) (by omega)).mp (e3.symm.trans e2)
      have := hr.1 o ho
      subst p
      exact ih o D ho (by omega) (by rw [e1]; decide)) hc1 zv_gi_0 hct L' nl g0 g1 g3 g4
    exact ⟨ν', X', a, ze_in [(0, .ref 232), (1, .int (nI k))] zq_Mod_closed (Nat.le_of_ble_eq_true rfl) rfl (S.end G), q⟩
theorem zl_ct_no : ∀ n, zl_ct (fun _ => false) n = 0
  | 0 => rfl
  | n + 1 => zl_ct_no n
theorem zl_flt_no {l : List Nat} : l.filter (fun _ => !false) = l := List.filter_eq_self.mpr (fun _ _ => rfl)
theorem zv_cl_0 (hR : zv_L μ 242 12 row) (hS : zv_L μ 241 10 stk) : zv_cl μ μ (fun _ => false) row stk := by
  refine ⟨fun _ _ => rfl, by rw [zl_flt_no]; exact hR, by rw [zl_flt_no]; exact hS, fun s _ => ⟨Or.inr rfl, fun e => Or.inl e, fun e => e.elim id (fun ⟨_, _, e, _⟩ => by cases e)⟩, fun _ _ _ _ _ _ _ => rfl⟩
/-- closed(k), k not tiled -/
theorem ze_Mclosed_f (D : Nat) (hr : zv_rk μ rk) {k : Nat} (hk : k < 10) (hkd : ¬ μ 234 k = 1) (hR : zv_L μ 242 12 row) (rb : ∀ x ∈ row, x < 10) (hS : zv_L μ 241 10 stk) (sb : ∀ x ∈ stk, x < 10) :
    ∃ ν X a, ze_E (D + 11) A_Mod_closed [.ref 232, .int (nI k)] (zm_mk μ) (some (.int (nI a))) (zm_mk ν) ∧ zv_cl μ ν X row stk ∧ zv_gs μ k (fun _ => false) X ∧ zl_ct X 10 = a := by
  obtain ⟨ν, X, a, E, h1, h2, h3⟩ := ze_MclosedR (μ := μ) hr rb sb 9 k D hk (by omega) hkd μ (fun _ => false) (zv_cl_0 hR hS) rfl
  rw [zl_ct_no, Nat.zero_add] at h3
  exact ⟨ν, X, a, E, h1, h2, h3⟩
variable {u : zy_F} {ab : Nat → Int32}
set_option maxRecDepth 100000 in
/-- closed(k), k tiled -/
theorem ze_Mclosed_t (D : Nat) (hr : zv_rk μ rk) {k s m : Nat} (hk : k < 10) (hs : s < 3) (hkd : μ 234 k = 1) (hhome : μ 238 k = nI s) (hI : zu_I μ s u ab) (hat : zu_at μ s u k m) (hR : zv_L μ 242 12 row) (rb : ∀ x ∈ row, x < 10) (hS : zv_L μ 241 10 stk) (sb : ∀ x ∈ stk, x < 10) (hks : k ∉ stk) :
    ∃ ν2 ν X a ab', ze_E (D + 12) A_Mod_closed [.ref 232, .int (nI k)] (zm_mk μ) (some (.int (nI a))) (zm_mk ν) ∧ zu_isOut (zv_fg μ k) s u m k ν2 ab' ∧ zv_cl ν2 ν X row stk ∧ zv_gs ν2 k (fun _ => false) X ∧ zl_ct X 10 = a := by
  have kk : zi_in (nI k) 10 = true := zm_in hk (by decide)
  have ckk : (nI k).toNatClampNeg = k := nI_clamp (by omega)
  obtain ⟨lc, cM⟩ := zM_c (μ := μ)
  obtain ⟨N1, E1⟩ := ze_Mforget (μ := μ) (D + 10) hk
  obtain ⟨lc1, cM1⟩ := zM_c (μ := zv_fg μ k)
  have fne : ∀ c d, c ≠ 251 → zv_fg μ k c d = μ c d := fun c d e => zv_fg_ne e
  have fat : ∀ d, d < 3 → zv_fg μ k 251 d = if ¬ μ 251 d = 0 ∧ ¬ μ 252 (10 * d + k) = 0 then 0 else μ 251 d := fun d e => zv_fg_at e
  generalize zv_fg μ k = ν1 at *
  have hq : zu_eqT μ s ν1 s := ⟨fne _ _ (by decide), fun c n hc _ => fne _ _ (by rintro rfl; revert hc; decide), fun n j _ _ => fne _ _ (by decide)⟩
  obtain ⟨ν2, ab', ⟨N2, E2⟩, ho⟩ := ze_Mleave (μ := ν1) (D + 7) (τ := s) (by omega) (hq.I hI) hk (zu_at_eqT hI hq hat)
  have fr := ho.2.2.2.2
  have f2 : ∀ c d, c < 243 ∨ 250 < c → c ≠ 251 → ν2 c d = μ c d := fun c d a b => (zu_fr_out fr a).trans (fne c d b)
  have hR2 : zv_L ν2 242 12 row := ⟨hR.1, (f2 _ _ (by omega) (by decide)).trans hR.2.1, fun j hj => (f2 _ _ (by omega) (by decide)).trans (hR.2.2 j hj)⟩
  have hS2 : zv_L ν2 241 10 stk := ⟨hS.1, (f2 _ _ (by omega) (by decide)).trans hS.2.1, fun j hj => (f2 _ _ (by omega) (by decide)).trans (hS.2.2 j hj)⟩
  obtain ⟨L', h', S, nl, g0, g1, g3, g4, ν3, rfl, v1, v2, v3⟩ := zv_clrow (μ := ν2) (D + 11) hk hR2 rb
  have hcl : zv_cl ν2 ν3 (zv_add (fun _ => false) k) row stk := by
    refine ⟨fun j hj => ?_, ?_, ?_, fun q hq => ?_, fun c d q1 q2 q3 q4 q5 => v3 _ _ q3 (fun e => q5 ⟨e.1, Or.inr e.2⟩) (fun e => q1 e.1)⟩
    · by_cases e : j = k
      · rw [e, v2, zv_add_k]; rfl
      · rw [zv_add_ne e, v3 _ _ (by decide) (by omega) (by omega)]; rfl
    · rw [← zl_flt_add, zl_flt_no]; exact v1
    · have hfs : stk.filter (fun x => decide (x ≠ k)) = stk := List.filter_eq_self.mpr (fun x hx => decide_eq_true (fun e : x = k => hks (e ▸ hx)))
      rw [← zl_flt_add, zl_flt_no, hfs]
      exact ⟨hS2.1, (v3 _ _ (by decide) (by omega) (by omega)).trans hS2.2.1, fun j hj => (v3 _ _ (by decide) (by omega) (by omega)).trans (hS2.2.2 j hj)⟩
    · rw [v3 _ _ (by decide) (by omega) (by omega)]
      refine ⟨Or.inr rfl, fun e => Or.inl e, fun e => e.elim id (fun ⟨j, hj, e1, e2⟩ => ?_)⟩
      rcases zv_add_or e1 with w | w
      · rw [w, f2 _ _ (by omega) (by decide)] at e2
        rw [zu_fr_out fr (by omega), fat q hq]
        by_cases c : μ 251 q = 0
        · rw [if_neg (fun z => z.1 c)]; exact c
        · rw [if_pos ⟨c, e2⟩]
      · cases w
  have hr2 : zv_rk ν2 rk := ⟨hr.1, fun x hx e => by
    rw [f2 _ _ (by omega) (by decide)] at e ⊢
    exact hr.2 x hx e⟩
  have hct : zl_ct (zv_add (fun _ => false) k) 10 = 0 + 1 := by rw [zl_ct_add rfl, if_pos hk, zl_ct_no]
  obtain ⟨r, h', G, ν', X', a, rfl, rfl, q1, q2, q3⟩ := zv_clL (μ := ν2) (D + 11) hk (X := fun _ => false) (zl_ct_no 10) (fun o ho e1 e2 => by
    exact ze_MclosedR hr2 rb sb 9 o D ho (by omega) (by rw [e1]; decide)) hcl zv_gi_0 hct L' nl g0 g1 g3 g4
  have e4 : ν1 234 k = 1 := by rw [fne _ _ (by decide)]; exact hkd
  have e8 : ν1 238 k = nI s := by rw [fne _ _ (by decide)]; exact hhome
  refine ⟨ν2, ν', X', a, ab', ze_in [(0, .ref 232), (1, .int (nI k))] zq_Mod_closed (Nat.le_of_ble_eq_true rfl) rfl (ze_S.end ⟨N1 + N2, 21, fun F m hF => ?_⟩ (S.end G)), ho, q1, q2, by omega⟩
  simp [zg_0, zg_aload_n, zg_bipush, zg_getfield, zg_goto, zg_iadd, zg_iaload, zg_iastore, zg_iconst, zg_if_icmp, zg_iinc, zg_iload, zg_iload_n, zg_invokevirtual, zg_ireturn, zg_istore, zg_istore_n, zg_putfield, zf_X6_closed, zi_ld, zi_lda, zi_cmp, zi_retOk, zi_isI, zi_f3, zi_cr, zi_ci, zi_cn, zi_get, zi_set, zM_g, cM, cM1, zq_Mod_forget, zq_Mod_leave, E1 F (by omega), E2 F (by omega), zm_iald (k := 0) zM_A234 kk, zm_iald (k := 0) zM_A238 kk, ckk, e4, e8, nI_0]
end ZVW
end
section
/-! trees with some leaves left out: pure -/
noncomputable def zy_nl : zy_F → Bool
  | .nil => true
  | _ => false
noncomputable def zy_join (n : Nat) (a b : zy_F) : zy_F := if zy_nl a = true then b else if zy_nl b = true then a else .append (.tag n a) b
noncomputable def zy_keep (p : Nat → Bool) : zy_F → zy_F
  | .append (.tag n a) b => zy_join n (zy_keep p a) (zy_keep p b)
  | .tag n .nil => if p n = true then .tag n .nil else .nil
  | _ => .nil
theorem zy_nl_wf {t : zy_F} (h : zy_wf t) : zy_nl t = false := by
  cases t <;> first | rfl | exact h.elim
theorem zy_nl_eq {t : zy_F} (h : zy_nl t = true) : t = .nil := by
  cases t <;> first | rfl | exact Bool.noConfusion h
theorem zy_join_l {n : Nat} {b : zy_F} : zy_join n .nil b = b := rfl
theorem zy_join_r {n : Nat} {a : zy_F} : zy_join n a .nil = a := by
  unfold zy_join
  by_cases h : zy_nl a = true
  · rw [if_pos h, zy_nl_eq h]
  · rw [if_neg h]; rfl
theorem zy_join_c {n : Nat} {a b : zy_F} (ha : zy_wf a) (hb : zy_wf b) : zy_join n a b = .append (.tag n a) b := by
  unfold zy_join
  rw [zy_nl_wf ha, zy_nl_wf hb, if_neg (by decide), if_neg (by decide)]
theorem zy_keep_cut {p : Nat → Bool} {n : Nat} {a b : zy_F} : zy_keep p (.append (.tag n a) b) = zy_join n (zy_keep p a) (zy_keep p b) := rfl
theorem zy_keep_leaf {p : Nat → Bool} {n : Nat} : zy_keep p (.tag n .nil) = if p n = true then .tag n .nil else .nil := rfl
theorem zy_keep_nil {p : Nat → Bool} : zy_keep p .nil = .nil := rfl
theorem zy_keep_or {p : Nat → Bool} : ∀ t, zy_wf t → zy_keep p t = .nil ∨ zy_wf (zy_keep p t) := by
  apply zy_ind
  · intro n
    rw [zy_keep_leaf]
    by_cases h : p n = true
    · rw [if_pos h]; exact Or.inr trivial
    · rw [if_neg h]; exact Or.inl rfl
  · intro n a b _ _ ha hb
    rw [zy_keep_cut]
    rcases ha with e | wa
    · rw [e, zy_join_l]; exact hb
    · rcases hb with e | wb
      · rw [e, zy_join_r]; exact Or.inr wa
      · rw [zy_join_c wa wb]; exact Or.inr ⟨wa, wb⟩
theorem zy_keep_keep {p q : Nat → Bool} : ∀ t, zy_wf t → zy_keep p (zy_keep q t) = zy_keep (fun n => p n && q n) t := by
  apply zy_ind
  · intro n
    rw [zy_keep_leaf, zy_keep_leaf]
    by_cases h : q n = true
    · rw [if_pos h, zy_keep_leaf, h, Bool.and_true]
    · rw [if_neg h, zy_keep_nil]
      have h : q n = false := by simpa using h
      rw [h, Bool.and_false]; rfl
  · intro n a b wa wb ha hb
    rw [zy_keep_cut, zy_keep_cut]
    rcases zy_keep_or (p := q) a wa with e | qa
    · rw [e, zy_join_l, ← ha, e, zy_keep_nil, zy_join_l, hb]
    · rcases zy_keep_or (p := q) b wb with e | qb
      · rw [e, zy_join_r, ← hb, e, zy_keep_nil, zy_join_r, ha]
      · rw [zy_join_c qa qb, zy_keep_cut, ha, hb]
theorem zy_keep_all {p : Nat → Bool} : ∀ t, zy_wf t → (∀ n ∈ zy_lvs t, p n = true) → zy_keep p t = t := by
  apply zy_ind
  · intro n h
    rw [zy_keep_leaf, if_pos (h n (List.mem_singleton.mpr rfl))]
  · intro n a b wa wb ha hb h
    rw [zy_keep_cut, ha (fun x hx => h x (List.mem_append_left _ hx)), hb (fun x hx => h x (List.mem_append_right _ hx)), zy_join_c wa wb]
theorem zy_keep_congr {p q : Nat → Bool} : ∀ t, zy_wf t → (∀ n ∈ zy_lvs t, p n = q n) → zy_keep p t = zy_keep q t := by
  apply zy_ind
  · intro n h
    rw [zy_keep_leaf, zy_keep_leaf, h n (List.mem_singleton.mpr rfl)]
  · intro n a b wa wb ha hb h
    rw [zy_keep_cut, zy_keep_cut, ha (fun x hx => h x (List.mem_append_left _ hx)), hb (fun x hx => h x (List.mem_append_right _ hx))]
theorem zy_keep_lvs {p : Nat → Bool} : ∀ t, zy_wf t → zy_lvs (zy_keep p t) = (zy_lvs t).filter p := by
  apply zy_ind
  · intro n
    rw [zy_keep_leaf]
    show _ = [n].filter p
    by_cases h : p n = true
    · rw [if_pos h, List.filter_cons_of_pos h]; rfl
    · rw [if_neg h, List.filter_cons_of_neg h]; rfl
  · intro n a b wa wb ha hb
    show zy_lvs (zy_keep p (.append (.tag n a) b)) = (zy_lvs a ++ zy_lvs b).filter p
    rw [zy_keep_cut, List.filter_append, ← ha, ← hb]
    rcases zy_keep_or (p := p) a wa with e | qa
    · rw [e, zy_join_l]; rfl
    · rcases zy_keep_or (p := p) b wb with e | qb
      · rw [e, zy_join_r]; exact (List.append_nil _).symm
      · rw [zy_join_c qa qb]; rfl
theorem zy_keep_ids {p : Nat → Bool} {m : Nat} : ∀ t, zy_wf t → m ∈ zy_ids (zy_keep p t) → m ∈ zy_ids t := by
  apply zy_ind
  · intro n h
    rw [zy_keep_leaf] at h
    by_cases c : p n = true
    · rw [if_pos c] at h; exact h
    · rw [if_neg c] at h; cases h
  · intro n a b wa wb ha hb h
    show m ∈ n :: (zy_ids a ++ zy_ids b)
    rw [zy_keep_cut] at h
    rcases zy_keep_or (p := p) a wa with e | qa
    · rw [e, zy_join_l] at h
      exact List.mem_cons_of_mem _ (List.mem_append_right _ (hb h))
    · rcases zy_keep_or (p := p) b wb with e | qb
      · rw [e, zy_join_r] at h
        exact List.mem_cons_of_mem _ (List.mem_append_left _ (ha h))
      · rw [zy_join_c qa qb] at h
        rcases List.mem_cons.mp h with e | h
        · rw [e]; exact List.mem_cons_self
        · rcases List.mem_append.mp h with h | h
          · exact List.mem_cons_of_mem _ (List.mem_append_left _ (ha h))
          · exact List.mem_cons_of_mem _ (List.mem_append_right _ (hb h))
theorem zy_del_wf {m : Nat} : ∀ t, zy_wf t → zy_wf (zy_del m t) := by
  apply zy_ind
  · intro n; exact trivial
  · intro n a b wa wb ha hb
    show zy_wf (if zy_id a = m then b else if zy_id b = m then a else .append (.tag n (zy_del m a)) (zy_del m b))
    by_cases c1 : zy_id a = m
    · rw [if_pos c1]; exact wb
    · rw [if_neg c1]
      by_cases c2 : zy_id b = m
      · rw [if_pos c2]; exact wa
      · rw [if_neg c2]; exact ⟨ha, hb⟩
theorem zy_out_keep {m : Nat} : ∀ t, zy_wf t → (zy_ids t).Nodup → m ∈ zy_lvs t → zy_out m t = zy_keep (fun n => decide (n ≠ m)) t := by
  apply zy_ind
  · intro n _ h
    have h : m = n := List.mem_singleton.mp h
    rw [zy_keep_leaf, decide_eq_false (not_not_intro h.symm)]
    show (if n = m then Std.Format.nil else _) = _
    rw [if_pos h.symm]; rfl
  · intro n a b wa wb ha hb hd h
    have hd' : (n :: (zy_ids a ++ zy_ids b)).Nodup := hd
    obtain ⟨h1, h2⟩ := List.nodup_cons.mp hd'
    obtain ⟨da, db, dis⟩ := List.nodup_append.mp h2
    rw [zy_keep_cut]
    have hdel : zy_del m (.append (.tag n a) b) = if zy_id a = m then b else if zy_id b = m then a else .append (.tag n (zy_del m a)) (zy_del m b) := rfl
    have hout : zy_out m (.append (.tag n a) b) = if n = m then .nil else zy_del m (.append (.tag n a) b) := rfl
    rcases List.mem_append.mp h with h | h
    · have ma := zy_lvs_ids a wa m h
      have mb : m ∉ zy_ids b := fun q => dis m ma m q rfl
      have hn : ¬ n = m := fun e => h1 (List.mem_append_left _ (e ▸ ma))
      have kb : zy_keep (fun n => decide (n ≠ m)) b = b := zy_keep_all b wb (fun x hx => decide_eq_true (fun e => mb (e ▸ zy_lvs_ids b wb x hx)))
      have ib : ¬ zy_id b = m := fun e => mb (e ▸ zy_id_mem wb)
      rw [hout, if_neg hn, hdel, kb, ← ha da h]
      unfold zy_out
      by_cases c : zy_id a = m
      · rw [if_pos c, if_pos c, zy_join_l]
      · rw [if_neg c, if_neg c, if_neg ib, zy_del_out b wb mb, zy_join_c (zy_del_wf a wa) wb]
    · have mb := zy_lvs_ids b wb m h
      have ma : m ∉ zy_ids a := fun q => dis m q m mb rfl
      have hn : ¬ n = m := fun e => h1 (List.mem_append_right _ (e ▸ mb))
      have ka : zy_keep (fun n => decide (n ≠ m)) a = a := zy_keep_all a wa (fun x hx => decide_eq_true (fun e => ma (e ▸ zy_lvs_ids a wa x hx)))
      have ia : ¬ zy_id a = m := fun e => ma (e ▸ zy_id_mem wa)
      rw [hout, if_neg hn, hdel, ka, ← hb db h, if_neg ia]
      unfold zy_out
      by_cases c : zy_id b = m
      · rw [if_pos c, if_pos c, zy_join_r]
      · rw [if_neg c, if_neg c, zy_del_out a wa ma, zy_join_c wa (zy_del_wf b wb)]
section ZYK
variable {pl pc : Nat → Nat → Prop} {p q : Nat → Bool}
theorem zy_sim_keep' : ∀ t, zy_wf t → ∀ u, zy_wf u → zy_sim (fun n m => p n = q m ∧ (p n = true → pl n m)) pc t u → (zy_keep p t = .nil ∧ zy_keep q u = .nil) ∨ (zy_wf (zy_keep p t) ∧ zy_wf (zy_keep q u) ∧ zy_sim pl pc (zy_keep p t) (zy_keep q u)) := by
  apply zy_sim_ind
  · intro n m h
    rw [zy_keep_leaf, zy_keep_leaf, ← h.1]
    by_cases c : p n = true
    · rw [if_pos c, if_pos c]; exact Or.inr ⟨trivial, trivial, h.2 c⟩
    · rw [if_neg c, if_neg c]; exact Or.inl ⟨rfl, rfl⟩
  · intro n m a b c d _ _ _ _ hpc _ _ h1 h2
    rw [zy_keep_cut, zy_keep_cut]
    rcases h1 with ⟨e1, e2⟩ | ⟨w1, w2, s1⟩
    · rw [e1, e2, zy_join_l, zy_join_l]; exact h2
    · rcases h2 with ⟨e1, e2⟩ | ⟨w3, w4, s2⟩
      · rw [e1, e2, zy_join_r, zy_join_r]; exact Or.inr ⟨w1, w2, s1⟩
      · rw [zy_join_c w1 w3, zy_join_c w2 w4]; exact Or.inr ⟨⟨w1, w3⟩, ⟨w2, w4⟩, hpc, s1, s2⟩
theorem zy_sim_keep {t u : zy_F} (wt : zy_wf t) (wu : zy_wf u) (h : zy_sim (fun n m => p n = q m ∧ (p n = true → pl n m)) pc t u) : zy_sim pl pc (zy_keep p t) (zy_keep q u) := by
  rcases zy_sim_keep' t wt u wu h with ⟨e1, e2⟩ | ⟨-, -, s⟩
  · rw [e1, e2]; exact trivial
  · exact s
end ZYK
/-- what is shown of the tabs F, g shown before, when X have gone -/
noncomputable def zl_sw (F : List Nat) (g : Nat) (X : Nat → Bool) : Int32 := nI ((F.filter (fun w => !X w)).getD (min ((F.take (F.idxOf g)).filter (fun w => !X w)).length ((F.filter (fun w => !X w)).length - 1)) 0)
end
section
/-! windows that leave a tree, as a set -/
theorem zl_nd_inj : ∀ (P : List Nat), P.Nodup → ∀ i j, i < P.length → j < P.length → P.getD i 0 = P.getD j 0 → i = j
  | [], _, i, _, h, _, _ => by cases h
  | x :: l, hd, 0, 0, _, _, _ => rfl
  | x :: l, hd, 0, j + 1, _, hj, e => by
    have e : x = l.getD j 0 := e
    exact absurd (e ▸ zl_mem (Nat.lt_of_succ_lt_succ hj)) (List.nodup_cons.mp hd).1
  | x :: l, hd, i + 1, 0, hi, _, e => by
    have e : l.getD i 0 = x := e
    exact absurd (e ▸ zl_mem (Nat.lt_of_succ_lt_succ hi)) (List.nodup_cons.mp hd).1
  | x :: l, hd, i + 1, j + 1, hi, hj, e => by
    have e : l.getD i 0 = l.getD j 0 := e
    rw [zl_nd_inj l (List.nodup_cons.mp hd).2 i j (Nat.lt_of_succ_lt_succ hi) (Nat.lt_of_succ_lt_succ hj) e]
theorem zl_idx_getD : ∀ {l : List Nat} {k : Nat}, k ∈ l → l.getD (l.idxOf k) 0 = k := by
  intro l k h
  have hl := List.idxOf_lt_length_of_mem h
  rw [List.getD_eq_getElem?_getD, List.getElem?_eq_getElem hl]
  exact List.getElem_idxOf hl
theorem zl_sw_AB {A B : List Nat} {w : Nat} (hd : (A ++ B).Nodup) (hb : ∀ x ∈ A ++ B, x < 10) (hw : w ∈ A ++ B) (hne : (A ++ B).erase w ≠ []) :
    nI (((A ++ B).erase w).getD (min (A.erase w).length (((A ++ B).erase w).length - 1)) 0) = if nI ((A ++ B).getD (min A.length ((A ++ B).length - 1)) 0) = nI w then zl_nx (A ++ B) w else nI ((A ++ B).getD (min A.length ((A ++ B).length - 1)) 0) := by
  have hj := List.idxOf_lt_length_of_mem hw
  have hjw := zl_idx_getD hw
  have hlen := List.length_erase_of_mem hw
  have hpos : 0 < ((A ++ B).erase w).length := List.length_pos_iff.mpr hne
  have hA : A.length ≤ (A ++ B).length := by rw [List.length_append]; omega
  have hAm : w ∈ A → (A ++ B).idxOf w < A.length ∧ (A.erase w).length = A.length - 1 := fun h => by
    refine ⟨?_, List.length_erase_of_mem h⟩
    have h1 := List.idxOf_lt_length_of_mem h
    have h2 := zl_idx_getD h
    have := zl_nd_inj _ hd ((A ++ B).idxOf w) (A.idxOf w) hj (by omega) (by rw [hjw, zl_getD_l h1, h2])
    omega
  have hAn : w ∉ A → A.length ≤ (A ++ B).idxOf w ∧ (A.erase w).length = A.length := fun h => by
    refine ⟨Nat.le_of_not_lt fun q => h ?_, by rw [List.erase_of_not_mem h]⟩
    have := zl_mem q
    rw [← zl_getD_l (l' := B) q, hjw] at this
    exact this
  have hnx : zl_nx (A ++ B) w = nI (((A ++ B).erase w).getD (min ((A ++ B).idxOf w) (((A ++ B).erase w).length - 1)) 0) := by
    unfold zl_nx
    rw [if_neg hne]
  have hj' : ∀ i, i < (A ++ B).length → ((A ++ B).getD i 0 = w ↔ i = (A ++ B).idxOf w) := fun i hi =>
    ⟨fun e => zl_nd_inj _ hd _ _ hi hj (e.trans hjw.symm), fun e => by rw [e]; exact hjw⟩
  have her : ∀ t, t < ((A ++ B).erase w).length → ((A ++ B).erase w).getD t 0 = if t < (A ++ B).idxOf w then (A ++ B).getD t 0 else (A ++ B).getD (t + 1) 0 := fun t ht => zl_idx_er ht
  have hb' : ∀ i, i < (A ++ B).length → (nI ((A ++ B).getD i 0) = nI w ↔ (A ++ B).getD i 0 = w) := fun i hi => by
    have h1 := hb _ (zl_mem hi)
    have h2 := hb _ hw
    exact nI_eq (by omega) (by omega)
  generalize A ++ B = P at *
  generalize hjj : P.idxOf w = j at *
  have hi : min A.length (P.length - 1) < P.length := by omega
  by_cases c : min A.length (P.length - 1) = j
  · rw [if_pos ((hb' _ hi).mpr ((hj' _ hi).mpr c)), hnx]
    by_cases m : w ∈ A
    · obtain ⟨h1, h2⟩ := hAm m
      rw [h2]
      congr 2
      omega
    · obtain ⟨h1, h2⟩ := hAn m
      rw [h2]
      congr 2
      omega
  · rw [if_neg (fun e => c ((hj' _ hi).mp ((hb' _ hi).mp e)))]
    by_cases m : w ∈ A
    · obtain ⟨h1, h2⟩ := hAm m
      rw [h2, her _ (by omega)]
      have q : ¬ min (A.length - 1) ((P.erase w).length - 1) < j := by omega
      rw [if_neg q]
      congr 2
      omega
    · obtain ⟨h1, h2⟩ := hAn m
      rw [h2, her _ (by omega)]
      have q : min A.length ((P.erase w).length - 1) < j := by omega
      rw [if_pos q]
      congr 2
      omega
theorem zl_flt_er {l : List Nat} (h : l.Nodup) {X : Nat → Bool} {w : Nat} : l.filter (fun x => !zv_add X w x) = (l.filter (fun x => !X x)).erase w := by
  rw [zl_filter_erase h]
  refine List.filter_congr fun x _ => ?_
  by_cases e : x = w
  · rw [e, zv_add_k, decide_eq_false (not_not_intro rfl), Bool.and_false]; rfl
  · rw [zv_add_ne e, decide_eq_true e, Bool.and_true]
theorem zl_sw_step {F : List Nat} {g w : Nat} {X : Nat → Bool} (hd : F.Nodup) (hb : ∀ x ∈ F, x < 10) (hw : w ∈ F) (hX : X w = false) (hne : (F.filter (fun x => !X x)).erase w ≠ []) :
    zl_sw F g (zv_add X w) = if zl_sw F g X = nI w then zl_nx (F.filter (fun x => !X x)) w else zl_sw F g X := by
  have hdt : (F.take (F.idxOf g)).Nodup := (List.take_sublist _ _).nodup hd
  have hP : F.filter (fun x => !X x) = (F.take (F.idxOf g)).filter (fun x => !X x) ++ (F.drop (F.idxOf g)).filter (fun x => !X x) := by
    rw [← List.filter_append, List.take_append_drop]
  have hdP : (F.filter (fun x => !X x)).Nodup := hd.filter _
  have hwP : w ∈ F.filter (fun x => !X x) := List.mem_filter.mpr ⟨hw, by rw [hX]; rfl⟩
  have hbP : ∀ x ∈ F.filter (fun x => !X x), x < 10 := fun x hx => hb x (List.mem_filter.mp hx).1
  unfold zl_sw
  rw [zl_flt_er hd, zl_flt_er hdt]
  rw [hP] at hdP hwP hbP hne ⊢
  exact zl_sw_AB hdP hbP hwP hne
theorem zl_sw_congr {F : List Nat} {g : Nat} {X X' : Nat → Bool} (h : ∀ x ∈ F, X x = X' x) : zl_sw F g X = zl_sw F g X' := by
  have h1 : F.filter (fun w => !X w) = F.filter (fun w => !X' w) := List.filter_congr fun x hx => by rw [h x hx]
  have h2 : (F.take (F.idxOf g)).filter (fun w => !X w) = (F.take (F.idxOf g)).filter (fun w => !X' w) := List.filter_congr fun x hx => by rw [h x (List.mem_of_mem_take hx)]
  unfold zl_sw
  rw [h1, h2]
theorem zl_sw_0 {F : List Nat} {g : Nat} (hg : g ∈ F) : zl_sw F g (fun _ => false) = nI g := by
  have h := List.idxOf_lt_length_of_mem hg
  unfold zl_sw
  rw [zl_flt_no, zl_flt_no, List.length_take]
  have e : min (min (F.idxOf g) F.length) (F.length - 1) = F.idxOf g := by omega
  rw [e, zl_idx_getD hg]
/-- the tree u' is u when the windows X have left it -/
noncomputable def zu_X (μ ξ : zm_M) (q : Nat) (u u' : zy_F) (X : Nat → Bool) : Prop :=
  (∃ ab, zu_I ξ q u' ab) ∧ u' = zy_keep (fun n => decide ((zu_tb μ q n).filter (fun w => !X w) ≠ [])) u ∧ (∀ n ∈ zy_lvs u', zu_tb ξ q n = (zu_tb μ q n).filter (fun w => !X w) ∧ ∀ g, g ∈ zu_tb μ q n → μ 250 (24 * q + n) = nI g → ξ 250 (24 * q + n) = zl_sw (zu_tb μ q n) g X) ∧
  ∀ n ∈ zy_ids u', ξ 247 (24 * q + n) = μ 247 (24 * q + n) ∧ zu_fm ξ q n = zu_fm μ q n
/-- no window twice in a tree -/
noncomputable def zu_nd (μ : zm_M) (q : Nat) (u : zy_F) : Prop := (∀ n ∈ zy_lvs u, (zu_tb μ q n).Nodup) ∧ ∀ n ∈ zy_lvs u, ∀ m ∈ zy_lvs u, ∀ w, w ∈ zu_tb μ q n → w ∈ zu_tb μ q m → n = m
section ZVX
variable {μ ξ ν : zm_M} {q : Nat} {u u1 : zy_F} {ab : Nat → Int32} {X : Nat → Bool}
theorem zu_I_or (h : zu_I μ q u ab) : u = .nil ∨ zy_wf u := h.1.elim (fun e => Or.inl e.1) (fun e => Or.inr e.1)
theorem zu_X_0 (hI : zu_I μ q u ab) : zu_X μ μ q u u (fun _ => false) := by
  refine ⟨⟨ab, hI⟩, ?_, fun n hn => ⟨zl_flt_no.symm, fun g hg e => by rw [zl_sw_0 hg]; exact e⟩, fun n _ => ⟨rfl, rfl⟩⟩
  rcases zu_I_or hI with e | w
  · rw [e]; rfl
  · refine (zy_keep_all u w fun n hn => decide_eq_true ?_).symm
    rw [zl_flt_no]
    exact (zu_I_tb hI hn).2.1
theorem zu_X_step (hI : zu_I μ q u ab) (hnd : zu_nd μ q u) (h : zu_X μ ξ q u u1 X) {w m : Nat} {ab' : Nat → Int32} (hX : X w = false) (hat : zu_at ξ q u1 w m) (ho : zu_isOut ξ q u1 m w ν ab') :
    zu_X μ ν q u (if (zu_tb ξ q m).erase w = [] then zy_out m u1 else u1) (zv_add X w) := by
  obtain ⟨⟨ab1, hI1⟩, hk, hl, hi⟩ := h
  have wu1 : zy_wf u1 := (zu_I_lv hI1 hat.1).1
  have wu : zy_wf u := by
    rcases zu_I_or hI with e | w
    · rw [e, zy_keep_nil] at hk
      rw [hk] at wu1; exact wu1.elim
    · exact w
  have hsub : ∀ n ∈ zy_lvs u1, n ∈ zy_lvs u := fun n hn => by
    rw [hk, zy_keep_lvs u wu] at hn
    exact (List.mem_filter.mp hn).1
  have hmu := hsub m hat.1
  obtain ⟨e1, e2⟩ := hl m hat.1
  have hwF : w ∈ zu_tb μ q m := by
    have := hat.2.1
    rw [e1] at this
    exact (List.mem_filter.mp this).1
  have hdF := hnd.1 m hmu
  have hbF := (zu_I_tb hI hmu).2.2
  have hoth : ∀ n ∈ zy_lvs u, n ≠ m → ∀ x ∈ zu_tb μ q n, zv_add X w x = X x := fun n hn hne x hx => zv_add_ne (fun e => hne (hnd.2 n hn m hmu w (e ▸ hx) hwF))
  have hof : ∀ n ∈ zy_lvs u, n ≠ m → (zu_tb μ q n).filter (fun x => !zv_add X w x) = (zu_tb μ q n).filter (fun x => !X x) := fun n hn hne => List.filter_congr fun x hx => by rw [hoth n hn hne x hx]
  have hmf : (zu_tb μ q m).filter (fun x => !zv_add X w x) = (zu_tb ξ q m).erase w := by rw [e1]; exact zl_flt_er hdF
  have hout : zy_out m u1 = zy_keep (fun n => decide (n ≠ m)) u1 := zy_out_keep u1 wu1 hI1.2.1 hat.1
  have hids : ∀ n ∈ zy_ids (if (zu_tb ξ q m).erase w = [] then zy_out m u1 else u1), n ∈ zy_ids u1 := fun n hn => by
    by_cases c : (zu_tb ξ q m).erase w = []
    · rw [if_pos c, hout] at hn; exact zy_keep_ids u1 wu1 hn
    · rw [if_neg c] at hn; exact hn
  have hlvs : ∀ n ∈ zy_lvs (if (zu_tb ξ q m).erase w = [] then zy_out m u1 else u1), n ∈ zy_lvs u1 ∧ (n = m → (zu_tb ξ q m).erase w ≠ []) := fun n hn => by
    by_cases c : (zu_tb ξ q m).erase w = []
    · rw [if_pos c, hout, zy_keep_lvs u1 wu1] at hn
      obtain ⟨h1, h2⟩ := List.mem_filter.mp hn
      exact ⟨h1, fun e => absurd e (of_decide_eq_true h2)⟩
    · rw [if_neg c] at hn; exact ⟨hn, fun _ => c⟩
  obtain ⟨o1, o2, o3, o4, o5⟩ := ho
  have hlv2 : ∀ n ∈ zy_lvs (if (zu_tb ξ q m).erase w = [] then zy_out m u1 else u1), n ∈ zy_ids (if (zu_tb ξ q m).erase w = [] then zy_out m u1 else u1) := fun n hn => (zu_I_lv o1 hn).2
  refine ⟨⟨ab', o1⟩, ?_, fun n hn => ?_, fun n hn => ?_⟩
  · by_cases c : (zu_tb ξ q m).erase w = []
    · rw [if_pos c, hout, hk, zy_keep_keep u wu]
      refine zy_keep_congr u wu fun n hn => ?_
      by_cases e : n = m
      · rw [e, hmf, c, decide_eq_false (not_not_intro rfl), decide_eq_false (not_not_intro rfl)]; rfl
      · rw [hof n hn e, decide_eq_true e, Bool.true_and]
    · rw [if_neg c, hk]
      refine zy_keep_congr u wu fun n hn => ?_
      by_cases e : n = m
      · rw [e, hmf, decide_eq_true c, ← e1, decide_eq_true (List.ne_nil_of_mem hat.2.1)]
      · rw [hof n hn e]
  · obtain ⟨h1, h2⟩ := hlvs n hn
    obtain ⟨a1, a2⟩ := hl n h1
    obtain ⟨b1, -⟩ := o4 n (hlv2 n hn)
    by_cases e : n = m
    · subst e
      have h2 := h2 rfl
      refine ⟨?_, fun g hg eg => ?_⟩
      · rw [hmf]
        exact zu_tb_T (o3 h2) (fun x hx => (zu_I_tb hI1 h1).2.2 x (List.mem_of_mem_erase hx))
      · rw [b1, a2 g hg eg, zl_sw_step hdF hbF hwF hX (by rw [← e1]; exact h2), ← e1]
        by_cases c : zl_sw (zu_tb μ q n) g X = nI w
        · rw [if_pos ⟨rfl, c⟩, if_pos c]
        · rw [if_neg (fun z => c z.2), if_neg c]
    · obtain ⟨t1, t2, t3⟩ := zu_I_tb hI1 h1
      refine ⟨?_, fun g hg eg => ?_⟩
      · rw [hof n (hsub n h1) e, ← a1]
        exact zu_tb_T (o2 n h1 e _ t1) t3
      · rw [b1, if_neg (fun z => e z.1), a2 g hg eg]
        exact (zl_sw_congr (hoth n (hsub n h1) e)).symm
  · obtain ⟨-, b2, b3⟩ := o4 n hn
    obtain ⟨c2, c3⟩ := hi n (hids n hn)
    exact ⟨b2.trans c2, b3.trans c3⟩
end ZVX
end
section
/-! the class's trees when a set of windows has left -/
noncomputable def zt_X (μ ξ : zm_M) (T : Nat) (R : List Nat) (t : zy_F) (R' : List Nat) (t' : zy_F) (X : Nat → Bool) : Prop :=
  R' = R.filter (fun w => !X w) ∧ t' = zy_keep (fun n => decide ((zt_tb μ T R n).filter (fun w => !X w) ≠ [])) t ∧ (∀ n ∈ zy_lvs t', zt_tb ξ T R' n = (zt_tb μ T R n).filter (fun w => !X w) ∧ ∀ g, g ∈ zt_tb μ T R n → μ (T + 12) n = nI g → ξ (T + 12) n = zl_sw (zt_tb μ T R n) g X) ∧
  (∀ n ∈ zy_ids t', ξ (T + 7) n = μ (T + 7) n) ∧ ξ (T + 8) = μ (T + 8)
section ZTX
variable {μ ξ ν : zm_M} {T : Nat} {R R1 : List Nat} {t t1 : zy_F} {X X' : Nat → Bool}
theorem zt_I_or (h : zt_I μ T R t) : t = .nil ∨ zy_wf t := h.2.1.1.imp (·.1) (·.1)
theorem zt_tb_ne (hI : zt_I μ T R t) {n : Nat} (hn : n ∈ zy_lvs t) : zt_tb μ T R n ≠ [] := by
  obtain ⟨w, h1, h2, -⟩ := hI.2.2.2.2.2 n hn
  exact List.ne_nil_of_mem (zt_tb_mem.mpr ⟨h1, h2⟩)
theorem zt_X_0 (hI : zt_I μ T R t) : zt_X μ μ T R t R t (fun _ => false) := by
  refine ⟨zl_flt_no.symm, ?_, fun n hn => ⟨zl_flt_no.symm, fun g hg e => by rw [zl_sw_0 hg]; exact e⟩, fun n _ => rfl, rfl⟩
  rcases zt_I_or hI with e | w
  · rw [e]; rfl
  · refine (zy_keep_all t w fun n hn => decide_eq_true ?_).symm
    rw [zl_flt_no]
    exact zt_tb_ne hI hn
theorem zt_X_same {ξ' : zm_M} (h : zt_X μ ξ T R t R1 t1 X) (e : ∀ j, j < 19 → ξ' (T + j) = ξ (T + j)) : zt_X μ ξ' T R t R1 t1 X := by
  obtain ⟨h1, h2, h3, h4, h5⟩ := h
  refine ⟨h1, h2, fun n hn => ?_, fun n hn => by rw [e 7 (by decide)]; exact h4 n hn, by rw [e 8 (by decide)]; exact h5⟩
  rw [zt_tb_congr (e 3 (by decide)), e 12 (by decide)]
  exact h3 n hn
theorem zt_X_congr (h : zt_X μ ξ T R t R1 t1 X) (w : t = .nil ∨ zy_wf t) (e : ∀ x ∈ R, X' x = X x) : zt_X μ ξ T R t R1 t1 X' := by
  obtain ⟨h1, h2, h3, h4, h5⟩ := h
  have ef : ∀ n, (zt_tb μ T R n).filter (fun w => !X' w) = (zt_tb μ T R n).filter (fun w => !X w) := fun n => List.filter_congr fun x hx => by rw [e x (zt_tb_mem.mp hx).1]
  refine ⟨by rw [h1]; exact List.filter_congr fun x hx => by rw [e x hx], ?_, fun n hn => ⟨by rw [ef]; exact (h3 n hn).1, fun g hg q => by rw [(h3 n hn).2 g hg q]; exact zl_sw_congr fun x hx => (e x (zt_tb_mem.mp hx).1).symm⟩, h4, h5⟩
  rw [h2]
  rcases w with w | w
  · rw [w]; rfl
  · exact zy_keep_congr t w fun n _ => by rw [ef]
theorem zt_X_step (hI : zt_I μ T R t) (hI1 : zt_I ξ T R1 t1) (h : zt_X μ ξ T R t R1 t1 X) {w n : Nat} (hX : X w = false) (hn : n ∈ zy_lvs t1) (hwR : w ∈ R1) (hwn : ξ (T + 3) w = nI n) (ho : zt_isOut ξ T R1 t1 n w ν T) :
    zt_X μ ν T R t (R1.erase w) (if (zt_tb ξ T R1 n).erase w = [] then zy_out n t1 else t1) (zv_add X w) := by
  obtain ⟨hR, hk, hl, hi, h8⟩ := h
  have wt1 : zy_wf t1 := by
    rcases zt_I_or hI1 with e | w
    · rw [e] at hn; cases hn
    · exact w
  have wt : zy_wf t := by
    rcases zt_I_or hI with e | w
    · rw [e, zy_keep_nil] at hk
      rw [hk] at wt1; exact wt1.elim
    · exact w
  have hdR := hI.1.2.1
  have hdR1 := hI1.1.2.1
  have hsub : ∀ x ∈ zy_lvs t1, x ∈ zy_lvs t := fun x hx => by
    rw [hk, zy_keep_lvs t wt] at hx
    exact (List.mem_filter.mp hx).1
  have hnt := hsub n hn
  have h19 := (zt_I_lvn hI).2
  obtain ⟨e1, e2⟩ := hl n hn
  have hwF1 : w ∈ zt_tb ξ T R1 n := zt_tb_mem.mpr ⟨hwR, hwn⟩
  have hwF : w ∈ zt_tb μ T R n := by
    rw [e1] at hwF1
    exact (List.mem_filter.mp hwF1).1
  have hdF : ∀ x, (zt_tb μ T R x).Nodup := fun x => hdR.filter _
  have hbF : ∀ x ∈ zt_tb μ T R n, x < 10 := fun x hx => hI.1.2.2 x (zt_tb_mem.mp hx).1
  have hoth : ∀ x ∈ zy_lvs t, x ≠ n → ∀ y ∈ zt_tb μ T R x, zv_add X w y = X y := fun x hx hne y hy => zv_add_ne (fun e => by
    have h1 := (zt_tb_mem.mp hy).2
    have h2 := (zt_tb_mem.mp hwF).2
    rw [e] at h1
    have l1 := h19 x hx
    have l2 := h19 n hnt
    exact hne ((nI_eq (by omega) (by omega)).mp (h1.symm.trans h2)))
  have hof : ∀ x ∈ zy_lvs t, x ≠ n → (zt_tb μ T R x).filter (fun y => !zv_add X w y) = (zt_tb μ T R x).filter (fun y => !X y) := fun x hx hne => List.filter_congr fun y hy => by rw [hoth x hx hne y hy]
  have hmf : (zt_tb μ T R n).filter (fun x => !zv_add X w x) = (zt_tb ξ T R1 n).erase w := by rw [e1]; exact zl_flt_er (hdF n)
  have hout : zy_out n t1 = zy_keep (fun x => decide (x ≠ n)) t1 := zy_out_keep t1 wt1 hI1.2.1.2.1 hn
  have hids : ∀ x ∈ zy_ids (if (zt_tb ξ T R1 n).erase w = [] then zy_out n t1 else t1), x ∈ zy_ids t1 := fun x hx => by
    by_cases c : (zt_tb ξ T R1 n).erase w = []
    · rw [if_pos c, hout] at hx; exact zy_keep_ids t1 wt1 hx
    · rw [if_neg c] at hx; exact hx
  have hlvs : ∀ x ∈ zy_lvs (if (zt_tb ξ T R1 n).erase w = [] then zy_out n t1 else t1), x ∈ zy_lvs t1 ∧ (x = n → (zt_tb ξ T R1 n).erase w ≠ []) := fun x hx => by
    by_cases c : (zt_tb ξ T R1 n).erase w = []
    · rw [if_pos c, hout, zy_keep_lvs t1 wt1] at hx
      obtain ⟨h1, h2⟩ := List.mem_filter.mp hx
      exact ⟨h1, fun e => absurd e (of_decide_eq_true h2)⟩
    · rw [if_neg c] at hx; exact ⟨hx, fun _ => c⟩
  obtain ⟨o1, o3, -, -, o7, o8, o12⟩ := ho
  have etb : ∀ x, zt_tb ν T (R1.erase w) x = (zt_tb ξ T R1 x).erase w := fun x => zt_tb_out hdR1 (fun v hv => by rw [o3 v, if_neg hv])
  refine ⟨?_, ?_, fun x hx => ?_, fun x hx => (o7 x hx).trans (hi x (hids x hx)), o8.trans h8⟩
  · rw [hR]; exact (zl_flt_er hdR).symm
  · by_cases c : (zt_tb ξ T R1 n).erase w = []
    · rw [if_pos c, hout, hk, zy_keep_keep t wt]
      refine zy_keep_congr t wt fun x hx => ?_
      by_cases e : x = n
      · rw [e, hmf, c, decide_eq_false (not_not_intro rfl), decide_eq_false (not_not_intro rfl)]; rfl
      · rw [hof x hx e, decide_eq_true e, Bool.true_and]
    · rw [if_neg c, hk]
      refine zy_keep_congr t wt fun x hx => ?_
      by_cases e : x = n
      · rw [e, hmf, decide_eq_true c, ← e1, decide_eq_true (List.ne_nil_of_mem hwF1)]
      · rw [hof x hx e]
  · obtain ⟨h1, h2⟩ := hlvs x hx
    obtain ⟨a1, a2⟩ := hl x h1
    by_cases e : x = n
    · subst e
      have h2 := h2 rfl
      refine ⟨by rw [etb, hmf], fun g hg eg => ?_⟩
      rw [o12 x, a2 g hg eg, zl_sw_step (hdF x) hbF hwF hX (by rw [← e1]; exact h2), ← e1]
      by_cases c : zl_sw (zt_tb μ T R x) g X = nI w
      · rw [if_pos ⟨rfl, c⟩, if_pos c]
      · rw [if_neg (fun z => c z.2), if_neg c]
    · refine ⟨?_, fun g hg eg => ?_⟩
      · rw [etb, hof x (hsub x h1) e, ← a1]
        refine List.erase_of_not_mem fun q => ?_
        have l1 := h19 x (hsub x h1)
        have l2 := h19 n hnt
        exact e ((nI_eq (by omega) (by omega)).mp ((zt_tb_mem.mp q).2.symm.trans hwn))
      · rw [o12 x, if_neg (fun z => e z.1), a2 g hg eg]
        exact (zl_sw_congr (hoth x (hsub x h1) e)).symm
theorem zd_seq_X {μ0 : zm_M} {Rs0 : Nat → List Nat} {ts0 : Nat → zy_F} (hI0 : ∀ q, q < 3 → zt_I μ0 (zdT q) (Rs0 q) (ts0 q)) (hdj : ∀ q p j, q < 3 → p < 3 → j ∈ Rs0 q → j ∈ Rs0 p → q = p) : ∀ (l : List Nat) (μ : zm_M) (Rs : Nat → List Nat) (ts : Nat → zy_F) (X : Nat → Bool) (ξ : zm_M) (Rs' : Nat → List Nat) (ts' : Nat → zy_F), l.Nodup → (∀ x ∈ l, X x = false) → (∀ q, q < 3 → zt_C μ (zdT q) (Rs q) (ts q)) → (∀ q, q < 3 → zt_X μ0 μ (zdT q) (Rs0 q) (ts0 q) (Rs q) (ts q) X) → zd_seq l μ Rs ts ξ Rs' ts' →
    ∀ q, q < 3 → zt_X μ0 ξ (zdT q) (Rs0 q) (ts0 q) (Rs' q) (ts' q) (fun x => decide (x ∈ l) || X x)
  | [], μ, Rs, ts, X, ξ, Rs', ts', _, _, _, h, hs, q, hq => by
    obtain ⟨e, rfl, rfl⟩ := hs
    exact zt_X_same (h q hq) (e q hq)
  | k :: l, μ, Rs, ts, X, ξ, Rs', ts', hd, hX, hC, h, hs, q, hq => by
    obtain ⟨ν, p, n, ⟨hp, -, hn, hkR, hkn⟩, ho, hoth, -, hs⟩ := hs
    obtain ⟨hkl, hdl⟩ := List.nodup_cons.mp hd
    have hXk := hX k List.mem_cons_self
    have key := zd_seq_X hI0 hdj l ν _ _ (zv_add X k) ξ Rs' ts' hdl (fun x hx => by
      rw [zv_add_ne (fun (e : x = k) => hkl (e ▸ hx))]
      exact hX x (List.mem_cons_of_mem _ hx)) (fun r hr => by
      unfold zd_upd
      by_cases e : r = p
      · subst e
        rw [if_pos rfl, if_pos rfl]
        exact ho.1
      · rw [if_neg e, if_neg e]
        exact zt_C_19 (hoth r hr e) (hC r hr)) (fun r hr => by
      unfold zd_upd
      by_cases e : r = p
      · subst e
        rw [if_pos rfl, if_pos rfl]
        exact zt_X_step (hI0 r hr) (hC r hr).1 (h r hr) hXk hn hkR hkn ho
      · rw [if_neg e, if_neg e]
        refine zt_X_congr (zt_X_same (h r hr) (hoth r hr e)) (zt_I_or (hI0 r hr)) fun x hx => zv_add_ne fun q => e ?_
        have : k ∈ Rs0 p := by
          rw [(h p hp).1] at hkR
          exact (List.mem_filter.mp hkR).1
        exact hdj r p k hr hp (q ▸ hx) this) hs q hq
    refine zt_X_congr key (zt_I_or (hI0 q hq)) fun x _ => ?_
    show (decide (x ∈ k :: l) || X x) = (decide (x ∈ l) || (decide (x = k) || X x))
    by_cases e1 : x = k
    · rw [decide_eq_true (e1 ▸ List.mem_cons_self), decide_eq_true e1, Bool.true_or, Bool.or_true]
    · by_cases e2 : x ∈ l
      · rw [decide_eq_true (List.mem_cons_of_mem _ e2), decide_eq_true e2, Bool.true_or, Bool.true_or]
      · rw [decide_eq_false (fun z => (List.mem_cons.mp z).elim e1 e2), decide_eq_false e2, decide_eq_false e1, Bool.false_or, Bool.false_or]
end ZTX
section ZSX
variable {μ ξ θ ψ : zm_M} {T q : Nat} {R R' : List Nat} {t t' u u' : zy_F} {X : Nat → Bool}
theorem zs_X (hI : zt_I μ T R t) (h : zs μ T R t θ q u) (hc : zt_X μ ξ T R t R' t' X) (hr : zu_X θ ψ q u u' X) : zs ξ T R' t' ψ q u' := by
  obtain ⟨-, k1, l1, i1, e8⟩ := hc
  obtain ⟨hab, k2, l2, i2⟩ := hr
  refine ⟨?_, hab⟩
  obtain ⟨hs, ab0, hI0⟩ := h
  rcases zs_wf hI ⟨hs, ab0, hI0⟩ with ⟨e1, e2⟩ | ⟨wt, wu⟩
  · rw [e1, zy_keep_nil] at k1
    rw [e2, zy_keep_nil] at k2
    rw [k1, k2]; exact trivial
  have hg : ∀ n ∈ zy_lvs t, ∃ g, g ∈ zt_tb μ T R n ∧ μ (T + 12) n = nI g := fun n hn => by
    obtain ⟨w, h1, h2, h3⟩ := hI.2.2.2.2.2 n hn
    exact ⟨w, zt_tb_mem.mpr ⟨h1, h2⟩, h3⟩
  have s1 : zy_sim (fun n m => decide ((zt_tb μ T R n).filter (fun w => !X w) ≠ []) = decide ((zu_tb θ q m).filter (fun w => !X w) ≠ []) ∧ (decide ((zt_tb μ T R n).filter (fun w => !X w) ≠ []) = true → zs_pl μ T R θ q n m)) (zs_pc μ T θ q) t u :=
    zy_sim_mono t wt u wu hs (fun n _ m _ p => ⟨by rw [p.1], fun _ => p⟩) (fun _ _ _ _ p => p)
  have s2 := zy_sim_keep wt wu s1
  rw [← k1, ← k2] at s2
  have or1 := zy_keep_or (p := fun n => decide ((zt_tb μ T R n).filter (fun w => !X w) ≠ [])) t wt
  have or2 := zy_keep_or (p := fun m => decide ((zu_tb θ q m).filter (fun w => !X w) ≠ [])) u wu
  rw [← k1] at or1
  rw [← k2] at or2
  rcases or1 with e | w1
  · rw [e] at s2 ⊢
    have := zy_sim_nil or2 s2
    rw [this]; exact trivial
  have w2 := zy_sim_wf or2 w1 s2
  have sub : ∀ n ∈ zy_lvs t', n ∈ zy_lvs t := fun n hn => by
    rw [k1, zy_keep_lvs t wt] at hn
    exact (List.mem_filter.mp hn).1
  refine zy_sim_mono t' w1 u' w2 s2 (fun n hn m hm p => ?_) (fun n hn m hm p => ?_)
  · obtain ⟨a1, a2⟩ := l1 n hn
    obtain ⟨b1, b2⟩ := l2 m hm
    obtain ⟨g, g1, g2⟩ := hg n (sub n hn)
    refine ⟨by rw [a1, b1, p.1], ?_⟩
    rw [a2 g g1 g2, b2 g (by rw [p.1]; exact g1) (by rw [p.2]; exact g2), p.1]
  · have c1 := zy_cts_ids t' w1 n hn
    have c2 := zy_cts_ids u' w2 m hm
    exact ⟨by rw [(i2 m c2).2, i1 n c1]; exact p.1, by rw [(i2 m c2).1, e8]; exact p.2⟩
end ZSX
end
section
/-! the reference: bring, the tiled ones leave where they are -/
section ZVY
variable {μ ξ ν : zm_M} {q : Nat} {u u1 : zy_F} {ab : Nat → Int32} {X X' : Nat → Bool}
theorem zu_X_eqT (h : zu_X μ ξ q u u1 X) (e : zu_eqT ξ q ν q) : zu_X μ ν q u u1 X := by
  obtain ⟨⟨ab, hI⟩, h2, h3, h4⟩ := h
  refine ⟨⟨ab, e.I hI⟩, h2, fun n hn => ?_, fun n hn => ?_⟩
  · have h24 := zu_I_lt hI hn
    rw [e.tb h24 (zu_I_tbl hI hn), e.2.1 250 n (by decide) h24]
    exact h3 n hn
  · have h24 := hI.2.2.1 n hn
    rw [e.2.1 247 n (by decide) h24, e.fm h24]
    exact h4 n hn
theorem zu_X_congr (h : zu_X μ ξ q u u1 X) (w : u = .nil ∨ zy_wf u) (e : ∀ n ∈ zy_lvs u, ∀ x ∈ zu_tb μ q n, X' x = X x) : zu_X μ ξ q u u1 X' := by
  obtain ⟨h1, h2, h3, h4⟩ := h
  have ef : ∀ n ∈ zy_lvs u, (zu_tb μ q n).filter (fun w => !X' w) = (zu_tb μ q n).filter (fun w => !X w) := fun n hn => List.filter_congr fun x hx => by rw [e n hn x hx]
  have hk : u1 = zy_keep (fun n => decide ((zu_tb μ q n).filter (fun w => !X' w) ≠ [])) u := by
    rw [h2]
    rcases w with w | w
    · rw [w]; rfl
    · exact zy_keep_congr u w fun n hn => by rw [ef n hn]
  refine ⟨h1, hk, fun n hn => ?_, h4⟩
  have hnu : n ∈ zy_lvs u := by
    rcases w with w | w
    · rw [h2, w] at hn; cases hn
    · rw [h2, zy_keep_lvs u w] at hn; exact (List.mem_filter.mp hn).1
  exact ⟨by rw [ef n hnu]; exact (h3 n hn).1, fun g hg q => by rw [(h3 n hn).2 g hg q]; exact zl_sw_congr fun x hx => (e n hnu x hx).symm⟩
theorem zu_X_at (hI : zu_I μ q u ab) (h : zu_X μ ξ q u u1 X) {w m : Nat} (hX : X w = false) (hat : zu_at μ q u w m) : zu_at ξ q u1 w m := by
  obtain ⟨h1, h2, h3, h4⟩ := h
  have wu := (zu_I_lv hI hat.1).1
  have hm : m ∈ zy_lvs u1 := by
    rw [h2, zy_keep_lvs u wu]
    refine List.mem_filter.mpr ⟨hat.1, decide_eq_true (List.ne_nil_of_mem (List.mem_filter.mpr ⟨hat.2.1, ?_⟩))⟩
    rw [hX]; rfl
  refine ⟨hm, ?_, fun n hn hw => ?_⟩
  · rw [(h3 m hm).1]
    exact List.mem_filter.mpr ⟨hat.2.1, by rw [hX]; rfl⟩
  · rw [(h3 n hn).1] at hw
    rw [h2, zy_keep_lvs u wu] at hn
    exact hat.2.2 n (List.mem_filter.mp hn).1 (List.mem_filter.mp hw).1
/-- the windows W have left their trees -/
noncomputable def zv_bs (μ : zm_M) (s : Nat) (us : Nat → zy_F) (ξ : zm_M) (us1 : Nat → zy_F) (W : List Nat) : Prop :=
  (∀ q, q < 3 → zu_X μ ξ q (us q) (us1 q) (fun x => decide (x ∈ W))) ∧ (∀ j, j < 10 → ξ 238 j = if j ∈ W then nI s else μ 238 j) ∧ ∀ c d, c ≠ 238 → (∀ q, q < 3 → ¬ zu_in q c d) → ξ c d = μ c d
noncomputable def zv_lv (μ : zm_M) (us : Nat → zy_F) (w : Nat) : Prop := w < 10 ∧ ∃ q, q < 3 ∧ μ 238 w = nI q ∧ (∃ m, zu_at μ q (us q) w m) ∧ ∀ p, p < 3 → p ≠ q → ∀ n ∈ zy_lvs (us p), w ∉ zu_tb μ p n
variable {us us1 : Nat → zy_F} {s : Nat} {W : List Nat}
theorem zl_mem_snoc {w x : Nat} : decide (x ∈ W ++ [w]) = zv_add (fun x => decide (x ∈ W)) w x := by
  by_cases e : x = w
  · rw [e, zv_add_k]
    exact decide_eq_true (List.mem_append_right _ (List.mem_singleton.mpr rfl))
  · rw [zv_add_ne e]
    by_cases h : x ∈ W
    · rw [decide_eq_true h, decide_eq_true (List.mem_append_left _ h)]
    · rw [decide_eq_false h, decide_eq_false (fun z => (List.mem_append.mp z).elim h (fun z => e (List.mem_singleton.mp z)))]
theorem zu_in_ne {p q c d : Nat} (h : zu_in p c d) (hpq : p ≠ q) : ¬ zu_in q c d := by
  intro g
  rcases h with ⟨h1, h2⟩ | ⟨h1, h2, h3⟩ | ⟨h1, h2, h3⟩
  · rcases g with ⟨g1, g2⟩ | ⟨g1, g2, g3⟩ | ⟨g1, g2, g3⟩
    · omega
    · rw [h1] at g1; revert g1; decide
    · omega
  · rcases g with ⟨g1, g2⟩ | ⟨g1, g2, g3⟩ | ⟨g1, g2, g3⟩
    · rw [g1] at h1; revert h1; decide
    · omega
    · rw [g1] at h1; revert h1; decide
  · rcases g with ⟨g1, g2⟩ | ⟨g1, g2, g3⟩ | ⟨g1, g2, g3⟩
    · omega
    · rw [h1] at g1; revert g1; decide
    · omega
theorem zu_up238 {τ w : Nat} {v : Int32} : zu_eqT ν τ (zm_up ν 238 w v) τ :=
  ⟨zm_up_ne (by omega), fun c n hc _ => zm_up_ne (by rintro ⟨rfl, -⟩; revert hc; decide), fun n j _ _ => zm_up_ne (by omega)⟩
theorem zv_bs_step (D : Nat) (hI : ∀ q, q < 3 → ∃ ab, zu_I μ q (us q) ab) (hnd : ∀ q, q < 3 → zu_nd μ q (us q)) (h : zv_bs μ s us ξ us1 W) {w : Nat} (hw : zv_lv μ us w) (hW : w ∉ W) :
    ∃ q ν us2, q < 3 ∧ ξ 238 w = nI q ∧ ze_E (D + 4) A_Mod_leave [.ref 232, .int (nI q), .int (nI w)] (zm_mk ξ) none (zm_mk ν) ∧ zv_bs μ s us (zm_up ν 238 w (nI s)) us2 (W ++ [w]) := by
  obtain ⟨h1, h2, h3⟩ := h
  obtain ⟨w10, q, hq, hh, ⟨m, hat⟩, hoth⟩ := hw
  obtain ⟨ab0, hI0⟩ := hI q hq
  obtain ⟨ab1, hI1⟩ := (h1 q hq).1
  have hX : (fun x => decide (x ∈ W)) w = false := decide_eq_false hW
  have hat1 := zu_X_at hI0 (h1 q hq) hX hat
  obtain ⟨ν, ab', E, ho⟩ := ze_Mleave (μ := ξ) D (by omega) hI1 w10 hat1
  have fr := ho.2.2.2.2
  have e8 : ξ 238 w = nI q := by rw [h2 w w10, if_neg hW]; exact hh
  refine ⟨q, ν, fun p => if p = q then (if (zu_tb ξ q m).erase w = [] then zy_out m (us1 q) else us1 q) else us1 p, hq, e8, E, fun p hp => ?_, fun j hj => ?_, fun c d hc hd => ?_⟩
  · have eX : (fun x => decide (x ∈ W ++ [w])) = zv_add (fun x => decide (x ∈ W)) w := funext fun x => zl_mem_snoc
    rw [eX]
    refine zu_X_eqT (ξ := ν) ?_ zu_up238
    show zu_X μ ν p (us p) (if p = q then (if (zu_tb ξ q m).erase w = [] then zy_out m (us1 q) else us1 q) else us1 p) (zv_add (fun x => decide (x ∈ W)) w)
    by_cases e : p = q
    · subst e
      rw [if_pos rfl]
      exact zu_X_step hI0 (hnd p hp) (h1 p hp) hX hat1 ho
    · rw [if_neg e]
      obtain ⟨abp, hIp⟩ := hI p hp
      refine zu_X_congr (zu_X_eqT (h1 p hp) (fr.eqT e)) (zu_I_or hIp) fun n hn x hx => zv_add_ne fun z => hoth p hp e n hn (z ▸ hx)
  · rw [zm_up_pt]
    by_cases e : j = w
    · rw [if_pos e, if_pos (e ▸ List.mem_append_right _ (List.mem_singleton.mpr rfl))]
    · rw [if_neg e, zu_fr_out fr (by omega), h2 j hj]
      by_cases c : j ∈ W
      · rw [if_pos c, if_pos (List.mem_append_left _ c)]
      · rw [if_neg c, if_neg (fun z => (List.mem_append.mp z).elim c (fun z => e (List.mem_singleton.mp z)))]
  · rw [zm_up_ne (fun z => hc z.1), fr c d (hd q hq)]
    exact h3 c d hc hd
end ZVY
section ZVY2
variable {μ : zm_M} {us us0 : Nat → zy_F} {s : Nat} {uk : zy_F} {abk : Nat → Int32}
set_option maxRecDepth 100000 in
theorem zv_brI (D : Nat) (hs : s < 3) (hI : ∀ q, q < 3 → ∃ ab, zu_I μ q (us q) ab) (hnd : ∀ q, q < 3 → zu_nd μ q (us q)) {m i0 : Nat} (hm24 : m < 24) {tb W0 : List Nat} (hT : zu_T μ (3 + s) m tb) (htb : tb.Nodup) (hlv : ∀ w ∈ tb, zv_lv μ us w ∧ w ∉ W0) {ν0 : zm_M} (h0 : zv_bs μ s us ν0 us0 W0) (L0 : zi_Lc) (nl0 : zi_nl L0 = true) (a0 : zi_get L0 0 = some (.ref 232)) (a1 : zi_get L0 1 = some (.int (nI s))) (a2 : zi_get L0 2 = some (.int (nI 0))) (a3 : zi_get L0 3 = some (.int (nI i0))) (a4 : zi_get L0 4 = some (.int (nI (24 * (3 + s) + m)))) (a5 : zi_get L0 5 = some (.int (nI 0))) :
    ∃ L' h', ze_S (D + 4) 7 (some .int) zc_X6_bring 36 L0 [] (zm_mk ν0) 90 L' [] h' ∧ (zi_nl L' = true ∧ zi_get L' 0 = some (.ref 232) ∧ zi_get L' 1 = some (.int (nI s)) ∧ zi_get L' 2 = some (.int (nI 0)) ∧ zi_get L' 3 = some (.int (nI i0)) ∧ ∃ ν us1, zm_mk ν = h' ∧ zv_bs μ s us ν us1 (W0 ++ tb)) := by
  have h10 : (Int8.ofInt 10).toInt32 = (10 : Int32) := by decide
  have mk : (10 : Int32) * nI (24 * (3 + s) + m) = nI (10 * (24 * (3 + s) + m)) := nI_mul10 (by omega)
  have ia : zi_in (nI (24 * (3 + s) + m)) 168 = true := zm_in (by omega) (by decide)
  have ca : (nI (24 * (3 + s) + m)).toNatClampNeg = 24 * (3 + s) + m := nI_clamp (by omega)
  have hcell : ∀ ν us1 W, zv_bs μ s us ν us1 W → ν 249 (24 * (3 + s) + m) = nI tb.length ∧ ∀ j, j < tb.length → ν 248 (10 * (24 * (3 + s) + m) + j) = nI (tb.getD j 0) := fun ν us1 W h => by
    have t10 := hT.1
    exact ⟨(h.2.2 _ _ (by decide) (fun q hq => zu_in_ne (p := 3 + s) (Or.inr (Or.inl ⟨by decide, by omega, by omega⟩)) (by omega))).trans hT.2.1, fun j hj => (h.2.2 _ _ (by decide) (fun q hq => zu_in_ne (p := 3 + s) (Or.inr (Or.inr ⟨rfl, by omega, by omega⟩)) (by omega))).trans (hT.2.2 j hj)⟩
  have htl := hT.1
  refine ze_loopS (Q := fun i L hp => i ≤ tb.length ∧ zi_nl L = true ∧ zi_get L 0 = some (.ref 232) ∧ zi_get L 1 = some (.int (nI s)) ∧ zi_get L 2 = some (.int (nI 0)) ∧ zi_get L 3 = some (.int (nI i0)) ∧ zi_get L 4 = some (.int (nI (24 * (3 + s) + m))) ∧ zi_get L 5 = some (.int (nI i)) ∧ ∃ ξ : zm_M, zm_mk ξ = hp ∧ (∃ us1, zv_bs μ s us ξ us1 (W0 ++ tb.take i))) (R := fun L' h' => zi_nl L' = true ∧ zi_get L' 0 = some (.ref 232) ∧ zi_get L' 1 = some (.int (nI s)) ∧ zi_get L' 2 = some (.int (nI 0)) ∧ zi_get L' 3 = some (.int (nI i0)) ∧ ∃ ν us1, zm_mk ν = h' ∧ zv_bs μ s us ν us1 (W0 ++ tb)) tb.length ?_ ?_ tb.length 0 _ _ (by omega) ⟨by omega, nl0, a0, a1, a2, a3, a4, a5, ν0, rfl, us0, (by rw [List.take_zero, List.append_nil]; exact h0)⟩
  · rintro i L _ hi ⟨-, nl, g0, g1, g2, g3, g4, g5, ξ, rfl, hq⟩
    obtain ⟨us1, hq⟩ := hq
    obtain ⟨k1, k2⟩ := hcell ξ us1 _ hq
    have k2i := k2 i hi
    have c1 : ¬ nI tb.length ≤ nI i := nI_ge hi (by omega)
    have ij : zi_in (nI (10 * (24 * (3 + s) + m) + i)) 1680 = true := zm_in (by omega) (by decide)
    have cj : (nI (10 * (24 * (3 + s) + m) + i)).toNatClampNeg = 10 * (24 * (3 + s) + m) + i := nI_clamp (by omega)
    have hwm : tb.getD i 0 ∈ tb := zl_mem hi
    have htk : tb.take (i + 1) = tb.take i ++ [tb.getD i 0] := zl_take hi
    have hnew : tb.getD i 0 ∉ W0 ++ tb.take i := fun z => by
      rcases List.mem_append.mp z with z | z
      · exact (hlv _ hwm).2 z
      · obtain ⟨j, hj, e⟩ := zl_mem_getD z
        rw [List.length_take] at hj
        have e' : tb.getD j 0 = tb.getD i 0 := by
          rw [← e]
          conv => lhs; rw [← List.take_append_drop i tb]
          exact zl_getD_l (by rw [List.length_take]; exact hj)
        have := zl_nd_inj tb htb j i (by omega) hi e'
        omega
    generalize tb.getD i 0 = w at k2i hwm htk hnew
    have hw := (hlv w hwm).1
    have w10 := hw.1
    have iw : zi_in (nI w) 10 = true := zm_in w10 (by decide)
    have cw : (nI w).toNatClampNeg = w := nI_clamp (by omega)
    obtain ⟨q, ν, us2, hq3, e8, ⟨N1, E1⟩, hbs⟩ := zv_bs_step (s := s) D hI hnd hq hw hnew
    rw [List.append_assoc, ← htk] at hbs
    obtain ⟨lc, cM⟩ := zM_c (μ := ξ)
    refine ⟨zi_set (zi_set L 6 (.int (nI w))) 5 (.int (nI (i + 1))), zm_mk (zm_up ν 238 w (nI s)), ⟨N1, 29, fun F m hF => ?_⟩, by omega, ?_, ?_, ?_, ?_, ?_, ?_, zi_get_set_eq, _, rfl, us2, hbs⟩
    · simp (maxDischargeDepth := 9) [zg_0, zg_aload_n, zg_baload, zg_bastore, zg_bipush, zg_getfield, zg_goto, zg_iadd, zg_iaload, zg_iastore, zg_iconst, zg_ifCond, zg_if_icmp, zg_iinc, zg_iload, zg_iload_n, zg_imul, zg_invokestatic, zg_invokevirtual, zg_ireturn, zg_istore, zg_istore_n, zf_X6_bring, zi_ld, zi_lda, zi_cmp, zi_retOk, zi_isI, zi_f3, zi_cr, zi_ci, zi_cn, zi_get_ne, zi_nl_i, zi_nl_r, zi_get_set_eq, nl, g0, g1, g2, g3, g4, g5, zM_g, zm_iald (k := 0) zM_A249 ia, ca, k1, c1, h10, mk, nI_add, zm_iald (k := 0) zM_A248 ij, cj, k2i, zm_iald (k := 0) zM_A238 iw, cw, e8, cM, zq_Mod_leave, E1 F (by omega), zm_iast zM_A238 iw, nI_1]
    · simp (maxDischargeDepth := 9) [zi_get_ne, zi_nl_i, zi_nl_r, zi_get_set_eq, nl]
    · simp (maxDischargeDepth := 9) [zi_get_ne, zi_nl_i, zi_nl_r, zi_get_set_eq, nl, g0]
    · simp (maxDischargeDepth := 9) [zi_get_ne, zi_nl_i, zi_nl_r, zi_get_set_eq, nl, g1]
    · simp (maxDischargeDepth := 9) [zi_get_ne, zi_nl_i, zi_nl_r, zi_get_set_eq, nl, g2]
    · simp (maxDischargeDepth := 9) [zi_get_ne, zi_nl_i, zi_nl_r, zi_get_set_eq, nl, g3]
    · simp (maxDischargeDepth := 9) [zi_get_ne, zi_nl_i, zi_nl_r, zi_get_set_eq, nl, g4]
  · rintro L _ ⟨-, nl, g0, g1, g2, g3, g4, g5, ξ, rfl, hq⟩
    obtain ⟨us1, hq⟩ := hq
    rw [List.take_length] at hq
    obtain ⟨k1, k2⟩ := hcell ξ us1 _ hq
    have c1 : nI tb.length ≤ nI tb.length := Int32.le_refl _
    refine ⟨L, zm_mk ξ, ⟨0, 6, fun F m hF => ?_⟩, nl, g0, g1, g2, g3, ξ, us1, rfl, hq⟩
    simp (maxDischargeDepth := 9) [zg_0, zg_aload_n, zg_baload, zg_bastore, zg_bipush, zg_getfield, zg_goto, zg_iadd, zg_iaload, zg_iastore, zg_iconst, zg_ifCond, zg_if_icmp, zg_iinc, zg_iload, zg_iload_n, zg_imul, zg_invokestatic, zg_invokevirtual, zg_ireturn, zg_istore, zg_istore_n, zf_X6_bring, zi_ld, zi_lda, zi_cmp, zi_retOk, zi_isI, zi_f3, zi_cr, zi_ci, zi_cn, zi_get_ne, zi_nl_i, zi_nl_r, zi_get_set_eq, nl, g0, g1, g2, g3, g4, g5, zM_g, zm_iald (k := 0) zM_A249 ia, ca, k1, c1]
set_option maxRecDepth 100000 in
theorem zv_brO (D : Nat) (hs : s < 3) (hI : ∀ q, q < 3 → ∃ ab, zu_I μ q (us q) ab) (hnd : ∀ q, q < 3 → zu_nd μ q (us q)) (hK : zu_I μ (3 + s) uk abk) (hKd : zu_nd μ (3 + s) uk) (hl : zu_lv μ (zy_lvs uk)) (hlv : ∀ n ∈ zy_lvs uk, ∀ w ∈ zu_tb μ (3 + s) n, zv_lv μ us w) (L0 : zi_Lc) (nl0 : zi_nl L0 = true) (a0 : zi_get L0 0 = some (.ref 232)) (a1 : zi_get L0 1 = some (.int (nI s))) (a2 : zi_get L0 2 = some (.int (nI 0))) (a3 : zi_get L0 3 = some (.int (nI 0))) :
    ∃ L' h', ze_S (D + 4) 7 (some .int) zc_X6_bring 11 L0 [] (zm_mk μ) 96 L' [] h' ∧ (zi_nl L' = true ∧ zi_get L' 0 = some (.ref 232) ∧ zi_get L' 1 = some (.int (nI s)) ∧ zi_get L' 2 = some (.int (nI 0)) ∧ ∃ ν us1, zm_mk ν = h' ∧ zv_bs μ s us ν us1 ((zy_lvs uk).flatMap (zu_tb μ (3 + s)))) := by
  obtain ⟨hndl, h24, hlen⟩ := zu_lvs_nodup hK
  have e3 : (3 : Int32) + nI s = nI (3 + s) := by rw [show (3 : Int32) = nI 3 by decide, nI_add]
  have hcell : ∀ ν us1 W, zv_bs μ s us ν us1 W → ν 231 30 = nI (zy_lvs uk).length ∧ ∀ j, j < (zy_lvs uk).length → ν 259 j = nI ((zy_lvs uk).getD j 0) := fun ν us1 W h =>
    ⟨(h.2.2 _ _ (by decide) (fun q hq => zu_in_not (by omega))).trans hl.1, fun j hj => (h.2.2 _ _ (by decide) (fun q hq => zu_in_not (by omega))).trans (hl.2 j hj)⟩
  have hbs0 : zv_bs μ s us μ us [] := ⟨fun q hq => by
    obtain ⟨ab, h⟩ := hI q hq
    exact zu_X_congr (zu_X_0 h) (zu_I_or h) (fun _ _ _ _ => rfl), fun _ _ => rfl, fun _ _ _ _ => rfl⟩
  refine ze_loopS (Q := fun i L hp => i ≤ (zy_lvs uk).length ∧ zi_nl L = true ∧ zi_get L 0 = some (.ref 232) ∧ zi_get L 1 = some (.int (nI s)) ∧ zi_get L 2 = some (.int (nI 0)) ∧ zi_get L 3 = some (.int (nI i)) ∧ ∃ ξ : zm_M, zm_mk ξ = hp ∧ (∃ us1, zv_bs μ s us ξ us1 (((zy_lvs uk).take i).flatMap (zu_tb μ (3 + s))))) (R := fun L' h' => zi_nl L' = true ∧ zi_get L' 0 = some (.ref 232) ∧ zi_get L' 1 = some (.int (nI s)) ∧ zi_get L' 2 = some (.int (nI 0)) ∧ ∃ ν us1, zm_mk ν = h' ∧ zv_bs μ s us ν us1 ((zy_lvs uk).flatMap (zu_tb μ (3 + s)))) (zy_lvs uk).length ?_ ?_ (zy_lvs uk).length 0 _ _ (by omega) ⟨by omega, nl0, a0, a1, a2, a3, μ, rfl, us, hbs0⟩
  · rintro i L _ hi ⟨-, nl, g0, g1, g2, g3, ξ, rfl, hq⟩
    obtain ⟨us1, hq⟩ := hq
    obtain ⟨k1, k2⟩ := hcell ξ us1 _ hq
    have k2i := k2 i hi
    have c1 : ¬ nI (zy_lvs uk).length ≤ nI i := nI_ge hi (by omega)
    have ii : zi_in (nI i) 24 = true := zm_in (by omega) (by decide)
    have ci : (nI i).toNatClampNeg = i := nI_clamp (by omega)
    have hmem : (zy_lvs uk).getD i 0 ∈ zy_lvs uk := zl_mem hi
    have htk := zl_flat_take (f := zu_tb μ (3 + s)) hi
    have hm24 := h24 _ hmem
    obtain ⟨t1, t2, t3⟩ := zu_I_tb hK hmem
    have hfresh : ∀ w ∈ zu_tb μ (3 + s) ((zy_lvs uk).getD i 0), w ∉ ((zy_lvs uk).take i).flatMap (zu_tb μ (3 + s)) := fun w hw z => by
      obtain ⟨n, hn, hwn⟩ := List.mem_flatMap.mp z
      have e := hKd.2 n (List.mem_of_mem_take hn) _ hmem w hwn hw
      obtain ⟨j, hj, ej⟩ := zl_mem_getD hn
      rw [List.length_take] at hj
      have e' : (zy_lvs uk).getD j 0 = (zy_lvs uk).getD i 0 := by
        rw [← e, ← ej]
        conv => lhs; rw [← List.take_append_drop i (zy_lvs uk)]
        exact zl_getD_l (by rw [List.length_take]; exact hj)
      have := zl_nd_inj _ hndl j i (by omega) hi e'
      omega
    have hd1 := hKd.1 _ hmem
    have hlv1 := hlv _ hmem
    generalize (zy_lvs uk).getD i 0 = m at k2i hmem htk hm24 t1 t2 t3 hfresh hd1 hlv1
    obtain ⟨N1, E1⟩ := ze_spot (h := zm_mk ξ) (D + 3) (t := 3 + s) (n := m) (by omega)
    obtain ⟨L', h', S1, nl', b0, b1, b2, b3, ν, us2, rfl, hbs⟩ := zv_brI (μ := μ) (i0 := i) D hs hI hnd hm24 t1 hd1 (fun w hw => ⟨hlv1 w hw, hfresh w hw⟩) hq (zi_set (zi_set L 4 (.int (nI (24 * (3 + s) + m)))) 5 (.int (nI 0))) (by simp (maxDischargeDepth := 9) [zi_get_ne, zi_nl_i, zi_nl_r, zi_get_set_eq, nl]) (by simp (maxDischargeDepth := 9) [zi_get_ne, zi_nl_i, zi_nl_r, zi_get_set_eq, nl, g0]) (by simp (maxDischargeDepth := 9) [zi_get_ne, zi_nl_i, zi_nl_r, zi_get_set_eq, nl, g1]) (by simp (maxDischargeDepth := 9) [zi_get_ne, zi_nl_i, zi_nl_r, zi_get_set_eq, nl, g2]) (by simp (maxDischargeDepth := 9) [zi_get_ne, zi_nl_i, zi_nl_r, zi_get_set_eq, nl, g3]) (by simp (maxDischargeDepth := 9) [zi_get_ne, zi_nl_i, zi_nl_r, zi_get_set_eq, nl]) zi_get_set_eq
    rw [← htk] at hbs
    refine ⟨zi_set L' 3 (.int (nI (i + 1))), zm_mk ν, ze_S.trans ⟨N1, 15, fun F m hF => ?_⟩ (S1.trans ⟨0, 2, fun F m hF => ?_⟩), by omega, ?_, ?_, ?_, ?_, zi_get_set_eq, ν, rfl, us2, hbs⟩
    · simp (maxDischargeDepth := 9) [zg_0, zg_aload_n, zg_baload, zg_bastore, zg_bipush, zg_getfield, zg_goto, zg_iadd, zg_iaload, zg_iastore, zg_iconst, zg_ifCond, zg_if_icmp, zg_iinc, zg_iload, zg_iload_n, zg_imul, zg_invokestatic, zg_invokevirtual, zg_ireturn, zg_istore, zg_istore_n, zf_X6_bring, zi_ld, zi_lda, zi_cmp, zi_retOk, zi_isI, zi_f3, zi_cr, zi_ci, zi_cn, zi_get_ne, zi_nl_i, zi_nl_r, zi_get_set_eq, nl, g0, g1, g2, g3, zM_g, k1, c1, e3, zm_iald (k := 0) zM_A259 ii, ci, k2i, zq_Mod_spot, E1 F (by omega), nI_0]
    · have nl := nl'
      simp (maxDischargeDepth := 9) [zg_0, zg_aload_n, zg_baload, zg_bastore, zg_bipush, zg_getfield, zg_goto, zg_iadd, zg_iaload, zg_iastore, zg_iconst, zg_ifCond, zg_if_icmp, zg_iinc, zg_iload, zg_iload_n, zg_imul, zg_invokestatic, zg_invokevirtual, zg_ireturn, zg_istore, zg_istore_n, zf_X6_bring, zi_ld, zi_lda, zi_cmp, zi_retOk, zi_isI, zi_f3, zi_cr, zi_ci, zi_cn, zi_get_ne, zi_nl_i, zi_nl_r, zi_get_set_eq, nl, b0, b1, b2, b3, nI_1]
    · have nl := nl'
      simp (maxDischargeDepth := 9) [zi_get_ne, zi_nl_i, zi_nl_r, zi_get_set_eq, nl]
    · have nl := nl'
      simp (maxDischargeDepth := 9) [zi_get_ne, zi_nl_i, zi_nl_r, zi_get_set_eq, nl, b0]
    · have nl := nl'
      simp (maxDischargeDepth := 9) [zi_get_ne, zi_nl_i, zi_nl_r, zi_get_set_eq, nl, b1]
    · have nl := nl'
      simp (maxDischargeDepth := 9) [zi_get_ne, zi_nl_i, zi_nl_r, zi_get_set_eq, nl, b2]
  · rintro L _ ⟨-, nl, g0, g1, g2, g3, ξ, rfl, hq⟩
    obtain ⟨us1, hq⟩ := hq
    rw [List.take_length] at hq
    obtain ⟨k1, k2⟩ := hcell ξ us1 _ hq
    have c1 : nI (zy_lvs uk).length ≤ nI (zy_lvs uk).length := Int32.le_refl _
    refine ⟨L, zm_mk ξ, ⟨0, 4, fun F m hF => ?_⟩, nl, g0, g1, g2, ξ, us1, rfl, hq⟩
    simp (maxDischargeDepth := 9) [zg_0, zg_aload_n, zg_baload, zg_bastore, zg_bipush, zg_getfield, zg_goto, zg_iadd, zg_iaload, zg_iastore, zg_iconst, zg_ifCond, zg_if_icmp, zg_iinc, zg_iload, zg_iload_n, zg_imul, zg_invokestatic, zg_invokevirtual, zg_ireturn, zg_istore, zg_istore_n, zf_X6_bring, zi_ld, zi_lda, zi_cmp, zi_retOk, zi_isI, zi_f3, zi_cr, zi_ci, zi_cn, zi_get_ne, zi_nl_i, zi_nl_r, zi_get_set_eq, nl, g0, g1, g2, g3, zM_g, k1, c1]
end ZVY2
end
