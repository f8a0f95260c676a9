/-! the reference: closed whole -/
/-- X' is X and k and what hangs on k -/
def zv_gs (μ : zm_M) (k : Nat) (X X' : Nat → Bool) : Prop :=
  X' k = true ∧ (∀ j, X j = true → X' j = true) ∧ (∀ j, j < 10 → X' j = true → X j = false → ∀ d, d < 10 → μ 234 d = 3 → μ 237 d = nI j → X' d = true) ∧
  ∀ Y : Nat → Bool, Y k = true → (∀ d o, d < 10 → o < 10 → μ 234 d = 3 → μ 237 d = nI o → Y o = true → Y d = true) → ∀ j, X' j = true → X j = true ∨ Y j = true
/-- on the way: the numbers below i are done -/
def zv_gi (μ : zm_M) (k : Nat) (X X' : Nat → Bool) (i : Nat) : Prop :=
  X' k = true ∧ (∀ j, X j = true → X' j = true) ∧ (∀ j, j < 10 → j ≠ k → X' j = true → X j = false → ∀ d, d < 10 → μ 234 d = 3 → μ 237 d = nI j → X' d = true) ∧ (∀ d, d < i → μ 234 d = 3 → μ 237 d = nI k → X' d = true) ∧
  ∀ Y : Nat → Bool, Y k = true → (∀ d o, d < 10 → o < 10 → μ 234 d = 3 → μ 237 d = nI o → Y o = true → Y d = true) → ∀ j, X' j = true → X j = true ∨ Y j = true
theorem zl_ct_add {X : Nat → Bool} {k : Nat} (hX : X k = false) : ∀ n, zl_ct (zv_add X k) n = zl_ct X n + if k < n then 1 else 0
  | 0 => rfl
  | n + 1 => by
    show zl_ct (zv_add X k) n + (if zv_add X k n then 1 else 0) = zl_ct X n + (if X n then 1 else 0) + if k < n + 1 then 1 else 0
    rw [zl_ct_add hX n]
    by_cases e : n = k
    · subst e
      rw [zv_add_k, hX, if_neg (Nat.lt_irrefl _), if_pos rfl, if_neg (by decide), if_pos (Nat.lt_succ_self _)]
    · rw [zv_add_ne e]
      by_cases c : k < n
      · have c' : k < n + 1 := by omega
        rw [if_pos c, if_pos c']; omega
      · have c' : ¬ k < n + 1 := by omega
        rw [if_neg c, if_neg c']; omega
section ZVW
variable {μ : zm_M} {row stk : List Nat}
theorem zv_gi_0 {k : Nat} {X : Nat → Bool} : zv_gi μ k X (zv_add X k) 0 := by
  refine ⟨zv_add_k, fun j h => ?_, fun j _ hne h1 h2 => ?_, fun d h => absurd h (by omega), fun Y hY _ j h => ?_⟩
  · by_cases e : j = k
    · rw [e]; exact zv_add_k
    · rw [zv_add_ne e]; exact h
  · rw [zv_add_ne hne, h2] at h1; cases h1
  · rcases zv_add_or h with e | e
    · rw [e]; exact Or.inr hY
    · exact Or.inl e
theorem zv_gi_skip {k i : Nat} {X X' : Nat → Bool} (h : zv_gi μ k X X' i) (hn : μ 234 i = 3 → μ 237 i = nI k → X' i = true) : zv_gi μ k X X' (i + 1) :=
  ⟨h.1, h.2.1, h.2.2.1, fun d hd e1 e2 => by
    by_cases e : d = i
    · subst e; exact hn e1 e2
    · exact h.2.2.2.1 d (by omega) e1 e2, h.2.2.2.2⟩
theorem zv_gi_call {k i : Nat} {X X1 X2 : Nat → Bool} (hk : k < 10) (hi : i < 10) (h : zv_gi μ k X X1 i) (e1 : μ 234 i = 3) (e2 : μ 237 i = nI k) (g : zv_gs μ i X1 X2) : zv_gi μ k X X2 (i + 1) := by
  obtain ⟨a1, a2, a3, a4, a5⟩ := h
  obtain ⟨b1, b2, b3, b4⟩ := g
  refine ⟨b2 _ a1, fun j hj => b2 _ (a2 j hj), fun j hj hne hx hX d hd q1 q2 => ?_, fun d hd q1 q2 => ?_, fun Y hY hcl j hj => ?_⟩
  · by_cases c : X1 j = true
    · exact b2 _ (a3 j hj hne c hX d hd q1 q2)
    · exact b3 j hj hx (by simpa using c) d hd q1 q2
  · by_cases e : d = i
    · rw [e]; exact b1
    · exact b2 _ (a4 d (by omega) q1 q2)
  · rcases b4 Y (hcl i k hi hk e1 e2 hY) hcl j hj with c | c
    · exact a5 Y hY hcl j c
    · exact Or.inr c
theorem zv_gi_end {k : Nat} {X X' : Nat → Bool} (h : zv_gi μ k X X' 10) : zv_gs μ k X X' := by
  refine ⟨h.1, h.2.1, fun j hj hx hX d hd q1 q2 => ?_, h.2.2.2.2⟩
  by_cases e : j = k
  · rw [e] at q2; exact h.2.2.2.1 d hd q1 q2
  · exact h.2.2.1 j hj e hx hX d hd q1 q2
set_option maxRecDepth 100000 in
theorem zv_clL (E : Nat) {k : Nat} (hk : k < 10) {X : Nat → Bool} {c0 : Nat} (hc0 : zl_ct X 10 = c0)
    (IH : ∀ o, o < 10 → μ 234 o = 3 → μ 237 o = nI k → ∀ ν X, zv_cl μ ν X row stk → X o = false → ∃ ν' X' a, ze_E E A_Mod_closed [.ref 232, .int (nI o)] (zm_mk ν) (some (.int (nI a))) (zm_mk ν') ∧ zv_cl μ ν' X' row stk ∧ zv_gs μ o X X' ∧ zl_ct X' 10 = zl_ct X 10 + a)
    {ν0 : zm_M} {X0 : Nat → Bool} (h0 : zv_cl μ ν0 X0 row stk) (g : zv_gi μ k X X0 0) (hct : zl_ct X0 10 = c0 + 1)
    (L0 : zi_Lc) (nl0 : zi_nl L0 = true) (b0 : zi_get L0 0 = some (.ref 232)) (b1 : zi_get L0 1 = some (.int (nI k))) (b3 : zi_get L0 3 = some (.int (nI 1))) (b4 : zi_get L0 4 = some (.int (nI 0))) :
    ∃ r h', ze_G E 5 (some .int) zc_X6_closed 94 L0 [] (zm_mk ν0) r h' ∧ (∃ ν' X' a, r = some (.int (nI a)) ∧ zm_mk ν' = h' ∧ zv_cl μ ν' X' row stk ∧ zv_gs μ k X X' ∧ zl_ct X' 10 = c0 + a) := by
  have h10 : (Int8.ofInt 10).toInt32 = (10 : Int32) := by decide
  refine ze_loop (Q := fun i L hp => i ≤ 10 ∧ zi_nl L = true ∧ zi_get L 0 = some (.ref 232) ∧ zi_get L 1 = some (.int (nI k)) ∧ zi_get L 4 = some (.int (nI i)) ∧ ∃ ξ : zm_M, zm_mk ξ = hp ∧ ∃ (a : Nat), zi_get L 3 = some (.int (nI a)) ∧ (∃ X1, zv_cl μ ξ X1 row stk ∧ zv_gi μ k X X1 i ∧ zl_ct X1 10 = c0 + a)) (R := fun r h' => ∃ ν' X' a, r = some (.int (nI a)) ∧ zm_mk ν' = h' ∧ zv_cl μ ν' X' row stk ∧ zv_gs μ k X X' ∧ zl_ct X' 10 = c0 + a) 10 ?_ ?_ 10 0 _ _ (by omega) ⟨by omega, nl0, b0, b1, b4, ν0, rfl, 1, b3, X0, h0, g, hct⟩
  · rintro i L _ hi ⟨-, nl, g0, g1, g4, ξ, rfl, a, g3, hq⟩
    obtain ⟨X1, hc, hg, hct⟩ := hq
    have c1 : ¬ (10 : Int32) ≤ nI i := nI_ge (b := 10) hi (by decide)
    have ik : zi_in (nI i) 10 = true := zm_in hi (by decide)
    have ck : (nI i).toNatClampNeg = i := nI_clamp (by omega)
    have e4 := hc.1 i hi
    have e7 : ξ 237 i = μ 237 i := hc.2.2.2.2 _ _ (by decide) (by decide) (by decide) (by decide) (by omega)
    obtain ⟨lc, cM⟩ := zM_c (μ := ξ)
    by_cases d1 : ξ 234 i = 3
    · have hX1 : X1 i = false := by
        by_cases e : X1 i = true
        · rw [if_pos e] at e4; rw [e4] at d1; exact absurd d1 (by decide)
        · simpa using e
      rw [hX1, if_neg (by decide), d1] at e4
      by_cases d2 : μ 237 i = nI k
      · obtain ⟨ν', X', a', ⟨N1, E1⟩, hc', hg', hct'⟩ := IH i hi e4.symm d2 ξ X1 hc hX1
        left
        refine ⟨zi_set (zi_set L 3 (.int (nI (a + a')))) 4 (.int (nI (i + 1))), zm_mk ν', ⟨N1, 23, fun F m hF => ?_⟩, by omega, ?_, ?_, ?_, zi_get_set_eq, ν', rfl, a + a', ?_, X', hc', zv_gi_call hk hi hg e4.symm d2 hg', by omega⟩
        · simp (maxDischargeDepth := 9) [zg_0, zg_aload_n, zg_bipush, zg_getfield, zg_goto, zg_iadd, zg_iaload, zg_iastore, zg_iconst, zg_if_icmp, zg_iinc, zg_iload, zg_iload_n, zg_invokevirtual, zg_ireturn, zg_istore, zg_istore_n, zg_putfield, zf_X6_closed, zi_ld, zi_lda, zi_cmp, zi_retOk, zi_isI, zi_f3, zi_cr, zi_ci, zi_cn, zi_get_ne, zi_nl_i, zi_nl_r, zi_get_set_eq, nl, g0, g1, g3, g4, h10, c1, zM_g, zm_iald (k := 0) zM_A234 ik, zm_iald (k := 0) zM_A237 ik, ck, d1, e7, d2, cM, zq_Mod_closed, E1 F (by omega), nI_add, nI_1]
        · simp (maxDischargeDepth := 9) [zi_get_ne, zi_nl_i, zi_nl_r, zi_get_set_eq, nl]
        · simp (maxDischargeDepth := 9) [zi_get_ne, zi_nl_i, zi_nl_r, zi_get_set_eq, nl, g0]
        · simp (maxDischargeDepth := 9) [zi_get_ne, zi_nl_i, zi_nl_r, zi_get_set_eq, nl, g1]
        · simp (maxDischargeDepth := 9) [zi_get_ne, zi_nl_i, zi_nl_r, zi_get_set_eq, nl]
      · left
        refine ⟨zi_set L 4 (.int (nI (i + 1))), zm_mk ξ, ⟨0, 17, fun F m hF => ?_⟩, by omega, ?_, ?_, ?_, zi_get_set_eq, ξ, rfl, a, ?_, ⟨X1, hc, zv_gi_skip hg (fun _ e => absurd e d2), hct⟩⟩
        · simp (maxDischargeDepth := 9) [zg_0, zg_aload_n, zg_bipush, zg_getfield, zg_goto, zg_iadd, zg_iaload, zg_iastore, zg_iconst, zg_if_icmp, zg_iinc, zg_iload, zg_iload_n, zg_invokevirtual, zg_ireturn, zg_istore, zg_istore_n, zg_putfield, zf_X6_closed, zi_ld, zi_lda, zi_cmp, zi_retOk, zi_isI, zi_f3, zi_cr, zi_ci, zi_cn, zi_get_ne, zi_nl_i, zi_nl_r, zi_get_set_eq, nl, g0, g1, g4, g3, h10, c1, zM_g, zm_iald (k := 0) zM_A234 ik, zm_iald (k := 0) zM_A237 ik, ck, d1, e7, d2, nI_1]
        · simp (maxDischargeDepth := 9) [zi_get_ne, zi_nl_i, zi_nl_r, zi_get_set_eq, nl]
        · simp (maxDischargeDepth := 9) [zi_get_ne, zi_nl_i, zi_nl_r, zi_get_set_eq, nl, g0]
        · simp (maxDischargeDepth := 9) [zi_get_ne, zi_nl_i, zi_nl_r, zi_get_set_eq, nl, g1]
        · simp (maxDischargeDepth := 9) [zi_get_ne, zi_nl_i, zi_nl_r, zi_get_set_eq, nl, g3]
    · have hsk : μ 234 i = 3 → μ 237 i = nI k → X1 i = true := fun e _ => by
        by_cases q : X1 i = true
        · exact q
        · rw [if_neg q, e] at e4; exact absurd e4 d1
      left
      refine ⟨zi_set L 4 (.int (nI (i + 1))), zm_mk ξ, ⟨0, 11, fun F m hF => ?_⟩, by omega, ?_, ?_, ?_, zi_get_set_eq, ξ, rfl, a, ?_, ⟨X1, hc, zv_gi_skip hg hsk, hct⟩⟩
      · simp (maxDischargeDepth := 9) [zg_0, zg_aload_n, zg_bipush, zg_getfield, zg_goto, zg_iadd, zg_iaload, zg_iastore, zg_iconst, zg_if_icmp, zg_iinc, zg_iload, zg_iload_n, zg_invokevirtual, zg_ireturn, zg_istore, zg_istore_n, zg_putfield, zf_X6_closed, zi_ld, zi_lda, zi_cmp, zi_retOk, zi_isI, zi_f3, zi_cr, zi_ci, zi_cn, zi_get_ne, zi_nl_i, zi_nl_r, zi_get_set_eq, nl, g0, g1, g4, g3, h10, c1, zM_g, zm_iald (k := 0) zM_A234 ik, ck, d1, nI_1]
      · simp (maxDischargeDepth := 9) [zi_get_ne, zi_nl_i, zi_nl_r, zi_get_set_eq, nl]
      · simp (maxDischargeDepth := 9) [zi_get_ne, zi_nl_i, zi_nl_r, zi_get_set_eq, nl, g0]
      · simp (maxDischargeDepth := 9) [zi_get_ne, zi_nl_i, zi_nl_r, zi_get_set_eq, nl, g1]
      · simp (maxDischargeDepth := 9) [zi_get_ne, zi_nl_i, zi_nl_r, zi_get_set_eq, nl, g3]
  · rintro L _ ⟨-, nl, g0, g1, g4, ξ, rfl, a, g3, hq⟩
    obtain ⟨X1, hc, hg, hct⟩ := hq
    have c1 : (10 : Int32) ≤ nI 10 := by decide
    refine ⟨_, zm_mk ξ, ⟨0, 5, fun F m hF => ?_⟩, ξ, X1, a, rfl, rfl, hc, zv_gi_end hg, hct⟩
    simp [zg_0, zg_aload_n, zg_bipush, zg_getfield, zg_goto, zg_iadd, zg_iaload, zg_iastore, zg_iconst, zg_if_icmp, zg_iinc, zg_iload, zg_iload_n, zg_invokevirtual, zg_ireturn, zg_istore, zg_istore_n, zg_putfield, zf_X6_closed, zi_ld, zi_lda, zi_cmp, zi_retOk, zi_isI, zi_f3, zi_cr, zi_ci, zi_cn, g0, g3, g4, h10, c1]
variable {rk : Nat → Nat}
theorem ze_MclosedR (hr : zv_rk μ rk) (rb : ∀ x ∈ row, x < 10) (sb : ∀ x ∈ stk, x < 10) : ∀ (n k D : Nat), k < 10 → 9 - rk k ≤ n → ¬ μ 234 k = 1 → ∀ ν X, zv_cl μ ν X row stk → X k = false →
    ∃ ν' X' a, ze_E (D + 2 + n) A_Mod_closed [.ref 232, .int (nI k)] (zm_mk ν) (some (.int (nI a))) (zm_mk ν') ∧ zv_cl μ ν' X' row stk ∧ zv_gs μ k X X' ∧ zl_ct X' 10 = zl_ct X 10 + a := by
  intro n
  induction n with
  | zero =>
    intro k D hk hn hkd ν X hc hX
    obtain ⟨L', ν1, S, nl, g0, g1, g3, g4, hc1⟩ := zv_clone (μ := μ) D hk hc hX hkd rb sb
    have hct : zl_ct (zv_add X k) 10 = zl_ct X 10 + 1 := by rw [zl_ct_add hX, if_pos hk]
    obtain ⟨r, h', G, ν', X', a, rfl, rfl, q⟩ := zv_clL (μ := μ) (D + 1) hk (X := X) rfl (fun o ho e1 e2 => by
      obtain ⟨p, hp, e3, h3⟩ := hr.2 o ho e1
      have : p = k := (nI_eq (by omega) (by omega)).mp (e3.symm.trans e2)
      have := hr.1 o ho
      subst p
      omega) hc1 zv_gi_0 hct L' nl g0 g1 g3 g4
    exact ⟨ν', X', a, ze_in [(0, .ref 232), (1, .int (nI k))] zq_Mod_closed (Nat.le_of_ble_eq_true rfl) rfl (S.end G), q⟩
  | succ n ih =>
    intro k D hk hn hkd ν X hc hX
    obtain ⟨L', ν1, S, nl, g0, g1, g3, g4, hc1⟩ := zv_clone (μ := μ) (D + 1 + n) hk hc hX hkd rb sb
    have eD : D + 1 + n + 1 = D + 2 + n := by omega
    rw [eD] at S
    have hct : zl_ct (zv_add X k) 10 = zl_ct X 10 + 1 := by rw [zl_ct_add hX, if_pos hk]
    obtain ⟨r, h', G, ν', X', a, rfl, rfl, q⟩ := zv_clL (μ := μ) (D + 2 + n) hk (X := X) rfl (fun o ho e1 e2 => by
      obtain ⟨p, hp, e3, h3⟩ := hr.2 o ho e1
      have : p = k := (nI_eq (by omega) (by omega)).mp (e3.symm.trans e2)
      have := hr.1 o ho
      subst p
      exact ih o D ho (by omega) (by rw [e1]; decide)) hc1 zv_gi_0 hct L' nl g0 g1 g3 g4
    exact ⟨ν', X', a, ze_in [(0, .ref 232), (1, .int (nI k))] zq_Mod_closed (Nat.le_of_ble_eq_true rfl) rfl (S.end G), q⟩
theorem zl_ct_no : ∀ n, zl_ct (fun _ => false) n = 0
  | 0 => rfl
  | n + 1 => zl_ct_no n
theorem zl_flt_no {l : List Nat} : l.filter (fun _ => !false) = l := List.filter_eq_self.mpr (fun _ _ => rfl)
theorem zv_cl_0 (hR : zv_L μ 242 12 row) (hS : zv_L μ 241 10 stk) : zv_cl μ μ (fun _ => false) row stk := by
  refine ⟨fun _ _ => rfl, by rw [zl_flt_no]; exact hR, by rw [zl_flt_no]; exact hS, fun s _ => ⟨Or.inr rfl, fun e => Or.inl e, fun e => e.elim id (fun ⟨_, _, e, _⟩ => by cases e)⟩, fun _ _ _ _ _ _ _ => rfl⟩
/-- closed(k), k not tiled -/
theorem ze_Mclosed_f (D : Nat) (hr : zv_rk μ rk) {k : Nat} (hk : k < 10) (hkd : ¬ μ 234 k = 1) (hR : zv_L μ 242 12 row) (rb : ∀ x ∈ row, x < 10) (hS : zv_L μ 241 10 stk) (sb : ∀ x ∈ stk, x < 10) :
    ∃ ν X a, ze_E (D + 11) A_Mod_closed [.ref 232, .int (nI k)] (zm_mk μ) (some (.int (nI a))) (zm_mk ν) ∧ zv_cl μ ν X row stk ∧ zv_gs μ k (fun _ => false) X ∧ zl_ct X 10 = a := by
  obtain ⟨ν, X, a, E, h1, h2, h3⟩ := ze_MclosedR (μ := μ) hr rb sb 9 k D hk (by omega) hkd μ (fun _ => false) (zv_cl_0 hR hS) rfl
  rw [zl_ct_no, Nat.zero_add] at h3
  exact ⟨ν, X, a, E, h1, h2, h3⟩
variable {u : zy_F} {ab : Nat → Int32}
set_option maxRecDepth 100000 in
/-- closed(k), k tiled -/
theorem ze_Mclosed_t (D : Nat) (hr : zv_rk μ rk) {k s m : Nat} (hk : k < 10) (hs : s < 3) (hkd : μ 234 k = 1) (hhome : μ 238 k = nI s) (hI : zu_I μ s u ab) (hat : zu_at μ s u k m) (hR : zv_L μ 242 12 row) (rb : ∀ x ∈ row, x < 10) (hS : zv_L μ 241 10 stk) (sb : ∀ x ∈ stk, x < 10) (hks : k ∉ stk) :
    ∃ ν2 ν X a ab', ze_E (D + 12) A_Mod_closed [.ref 232, .int (nI k)] (zm_mk μ) (some (.int (nI a))) (zm_mk ν) ∧ zu_isOut (zv_fg μ k) s u m k ν2 ab' ∧ zv_cl ν2 ν X row stk ∧ zv_gs ν2 k (fun _ => false) X ∧ zl_ct X 10 = a := by
  have kk : zi_in (nI k) 10 = true := zm_in hk (by decide)
  have ckk : (nI k).toNatClampNeg = k := nI_clamp (by omega)
  obtain ⟨lc, cM⟩ := zM_c (μ := μ)
  obtain ⟨N1, E1⟩ := ze_Mforget (μ := μ) (D + 10) hk
  obtain ⟨lc1, cM1⟩ := zM_c (μ := zv_fg μ k)
  have fne : ∀ c d, c ≠ 251 → zv_fg μ k c d = μ c d := fun c d e => zv_fg_ne e
  have fat : ∀ d, d < 3 → zv_fg μ k 251 d = if ¬ μ 251 d = 0 ∧ ¬ μ 252 (10 * d + k) = 0 then 0 else μ 251 d := fun d e => zv_fg_at e
  generalize zv_fg μ k = ν1 at *
  have hq : zu_eqT μ s ν1 s := ⟨fne _ _ (by decide), fun c n hc _ => fne _ _ (by rintro rfl; revert hc; decide), fun n j _ _ => fne _ _ (by decide)⟩
  obtain ⟨ν2, ab', ⟨N2, E2⟩, ho⟩ := ze_Mleave (μ := ν1) (D + 7) (τ := s) (by omega) (hq.I hI) hk (zu_at_eqT hI hq hat)
  have fr := ho.2.2.2.2
  have f2 : ∀ c d, c < 243 ∨ 250 < c → c ≠ 251 → ν2 c d = μ c d := fun c d a b => (zu_fr_out fr a).trans (fne c d b)
  have hR2 : zv_L ν2 242 12 row := ⟨hR.1, (f2 _ _ (by omega) (by decide)).trans hR.2.1, fun j hj => (f2 _ _ (by omega) (by decide)).trans (hR.2.2 j hj)⟩
  have hS2 : zv_L ν2 241 10 stk := ⟨hS.1, (f2 _ _ (by omega) (by decide)).trans hS.2.1, fun j hj => (f2 _ _ (by omega) (by decide)).trans (hS.2.2 j hj)⟩
  obtain ⟨L', h', S, nl, g0, g1, g3, g4, ν3, rfl, v1, v2, v3⟩ := zv_clrow (μ := ν2) (D + 11) hk hR2 rb
  have hcl : zv_cl ν2 ν3 (zv_add (fun _ => false) k) row stk := by
    refine ⟨fun j hj => ?_, ?_, ?_, fun q hq => ?_, fun c d q1 q2 q3 q4 q5 => v3 _ _ q3 (fun e => q5 ⟨e.1, Or.inr e.2⟩) (fun e => q1 e.1)⟩
    · by_cases e : j = k
      · rw [e, v2, zv_add_k]; rfl
      · rw [zv_add_ne e, v3 _ _ (by decide) (by omega) (by omega)]; rfl
    · rw [← zl_flt_add, zl_flt_no]; exact v1
    · have hfs : stk.filter (fun x => decide (x ≠ k)) = stk := List.filter_eq_self.mpr (fun x hx => decide_eq_true (fun e : x = k => hks (e ▸ hx)))
      rw [← zl_flt_add, zl_flt_no, hfs]
      exact ⟨hS2.1, (v3 _ _ (by decide) (by omega) (by omega)).trans hS2.2.1, fun j hj => (v3 _ _ (by decide) (by omega) (by omega)).trans (hS2.2.2 j hj)⟩
    · rw [v3 _ _ (by decide) (by omega) (by omega)]
      refine ⟨Or.inr rfl, fun e => Or.inl e, fun e => e.elim id (fun ⟨j, hj, e1, e2⟩ => ?_)⟩
      rcases zv_add_or e1 with w | w
      · rw [w, f2 _ _ (by omega) (by decide)] at e2
        rw [zu_fr_out fr (by omega), fat q hq]
        by_cases c : μ 251 q = 0
        · rw [if_neg (fun z => z.1 c)]; exact c
        · rw [if_pos ⟨c, e2⟩]
      · cases w
  have hr2 : zv_rk ν2 rk := ⟨hr.1, fun x hx e => by
    rw [f2 _ _ (by omega) (by decide)] at e ⊢
    exact hr.2 x hx e⟩
  have hct : zl_ct (zv_add (fun _ => false) k) 10 = 0 + 1 := by rw [zl_ct_add rfl, if_pos hk, zl_ct_no]
  obtain ⟨r, h', G, ν', X', a, rfl, rfl, q1, q2, q3⟩ := zv_clL (μ := ν2) (D + 11) hk (X := fun _ => false) (zl_ct_no 10) (fun o ho e1 e2 => by
    exact ze_MclosedR hr2 rb sb 9 o D ho (by omega) (by rw [e1]; decide)) hcl zv_gi_0 hct L' nl g0 g1 g3 g4
  have e4 : ν1 234 k = 1 := by rw [fne _ _ (by decide)]; exact hkd
  have e8 : ν1 238 k = nI s := by rw [fne _ _ (by decide)]; exact hhome
  refine ⟨ν2, ν', X', a, ab', ze_in [(0, .ref 232), (1, .int (nI k))] zq_Mod_closed (Nat.le_of_ble_eq_true rfl) rfl (ze_S.end ⟨N1 + N2, 21, fun F m hF => ?_⟩ (S.end G)), ho, q1, q2, by omega⟩
  simp [zg_0, zg_aload_n, zg_bipush, zg_getfield, zg_goto, zg_iadd, zg_iaload, zg_iastore, zg_iconst, zg_if_icmp, zg_iinc, zg_iload, zg_iload_n, zg_invokevirtual, zg_ireturn, zg_istore, zg_istore_n, zg_putfield, zf_X6_closed, zi_ld, zi_lda, zi_cmp, zi_retOk, zi_isI, zi_f3, zi_cr, zi_ci, zi_cn, zi_get, zi_set, zM_g, cM, cM1, zq_Mod_forget, zq_Mod_leave, E1 F (by omega), E2 F (by omega), zm_iald (k := 0) zM_A234 kk, zm_iald (k := 0) zM_A238 kk, ckk, e4, e8, nI_0]
end ZVW
