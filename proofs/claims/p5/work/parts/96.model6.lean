section
/-! the reference: addTab, clearTree -/
section ZM6
variable {μ : zm_M} {τ : Nat}
set_option maxRecDepth 100000 in
theorem ze_MaddTab (D : Nat) (ht : τ < 7) {n : Nat} (hn : n < 24) {l : List Nat} (hT : zu_T μ τ n l) (hl : l.length < 10) (x : Int32) : ze_E (D + 2) A_Mod_addTab [.ref 232, .int (nI τ), .int (nI n), .int x] (zm_mk μ) none (zm_mk (zm_up (zm_up μ 248 (10 * (24 * τ + n) + l.length) x) 249 (24 * τ + n) (nI (l.length + 1)))) := by
  have h10 : (Int8.ofInt 10).toInt32 = (10 : Int32) := by decide
  obtain ⟨-, t1, -⟩ := hT
  have ia : zi_in (nI (24 * τ + n)) 168 = true := zm_in (by omega) (by decide)
  have ca : (nI (24 * τ + n)).toNatClampNeg = 24 * τ + n := nI_clamp (by omega)
  have m10 : (10 : Int32) * nI (24 * τ + n) = nI (10 * (24 * τ + n)) := nI_mul10 (by omega)
  have ij : zi_in (nI (10 * (24 * τ + n) + l.length)) 1680 = true := zm_in (by omega) (by decide)
  have cj : (nI (10 * (24 * τ + n) + l.length)).toNatClampNeg = 10 * (24 * τ + n) + l.length := nI_clamp (by omega)
  have sp := fun ν : zm_M => ze_spot (h := zm_mk ν) (n := n) D ht
  generalize 24 * τ + n = a at t1 ia ca m10 ij cj sp
  obtain ⟨N1, E1⟩ := sp μ
  obtain ⟨N2, E2⟩ := sp (zm_up μ 248 (10 * a + l.length) x)
  have t1' : zm_up μ 248 (10 * a + l.length) x 249 a = nI l.length := by rw [zm_up_ne (by omega)]; exact t1
  refine ze_in [(0, .ref 232), (1, .int (nI τ)), (2, .int (nI n)), (3, .int x)] zq_Mod_addTab (Nat.le_of_ble_eq_true rfl) rfl ⟨N1 + N2, 27, fun F m hF => ?_⟩
  simp [zg_0, zg_aload_n, zg_bipush, zg_dup2, zg_getfield, zg_iadd, zg_iaload, zg_iastore, zg_iconst, zg_iload_n, zg_imul, zg_invokestatic, zg_return, zf_X6_addTab, zi_ld, zi_lda, zi_cmp, zi_retOk, zi_isI, zi_f3, zi_cr, zi_ci, zi_cn, zi_get, zi_set, h10, zM_g, zq_Mod_spot, E1 F (by omega), m10, zm_iald (k := 0) zM_A249 ia, ca, t1, nI_add, zm_iast zM_A248 ij, cj, E2 F (by omega), t1', zm_iast zM_A249 ia, nI_1]
theorem zu_T_add {n : Nat} {l : List Nat} (hT : zu_T μ τ n l) (hl : l.length < 10) (k : Nat) : zu_T (zm_up (zm_up μ 248 (10 * (24 * τ + n) + l.length) (nI k)) 249 (24 * τ + n) (nI (l.length + 1))) τ n (l ++ [k]) := by
  obtain ⟨t0, t1, t2⟩ := hT
  refine ⟨by rw [List.length_append]; exact hl, ?_, fun j hj => ?_⟩
  · rw [zm_up_eq, List.length_append]
    rfl
  · rw [List.length_append] at hj
    have hj : j < l.length + 1 := hj
    rw [zm_up_ne (by omega), zm_up_pt]
    by_cases e : j = l.length
    · rw [if_pos (by omega), e, zl_getD_r (Nat.le_refl _), Nat.sub_self]
      rfl
    · rw [if_neg (by omega), zl_getD_l (by omega)]
      exact t2 j (by omega)
set_option maxRecDepth 100000 in
theorem ze_MclearTree (D : Nat) (ht : τ < 7) : ∃ ν, ze_E (D + 2) A_Mod_clearTree [.ref 232, .int (nI τ)] (zm_mk μ) none (zm_mk ν) ∧ ν 243 τ = -1 ∧ (∀ n, n < 24 → ν 244 (24 * τ + n) = 0) ∧ ∀ c d, ¬ (c = 243 ∧ d = τ) → ¬ (c = 244 ∧ 24 * τ ≤ d ∧ d < 24 * τ + 24) → ν c d = μ c d := by
  have h24 : (Int8.ofInt 24).toInt32 = (24 : Int32) := by decide
  have it : zi_in (nI τ) 7 = true := zm_in ht (by decide)
  have ct : (nI τ).toNatClampNeg = τ := nI_clamp (by omega)
  have key : ∃ r h', ze_G (D + 1) 3 none zc_X6_clearTree 9 [(2, .int (nI 0)), (0, .ref 232), (1, .int (nI τ))] [] (zm_mk (zm_up μ 243 τ (-1))) r h' ∧ (r = none ∧ ∃ ν, zm_mk ν = h' ∧ ν 243 τ = -1 ∧ (∀ n, n < 24 → ν 244 (24 * τ + n) = 0) ∧ ∀ c d, ¬ (c = 243 ∧ d = τ) → ¬ (c = 244 ∧ 24 * τ ≤ d ∧ d < 24 * τ + 24) → ν c d = μ c d) := by
    refine ze_loop (Q := fun i L hp => i ≤ 24 ∧ zi_nl L = true ∧ zi_get L 0 = some (.ref 232) ∧ zi_get L 1 = some (.int (nI τ)) ∧ zi_get L 2 = some (.int (nI i)) ∧ ∃ ξ : zm_M, zm_mk ξ = hp ∧ (ξ 243 τ = -1) ∧ (∀ n, n < i → ξ 244 (24 * τ + n) = 0) ∧ (∀ c d, ¬ (c = 243 ∧ d = τ) → ¬ (c = 244 ∧ 24 * τ ≤ d ∧ d < 24 * τ + 24) → ξ c d = μ c d) ∧ (True)) (R := fun r h' => r = none ∧ ∃ ν, zm_mk ν = h' ∧ ν 243 τ = -1 ∧ (∀ n, n < 24 → ν 244 (24 * τ + n) = 0) ∧ ∀ c d, ¬ (c = 243 ∧ d = τ) → ¬ (c = 244 ∧ 24 * τ ≤ d ∧ d < 24 * τ + 24) → ν c d = μ c d) 24 ?_ ?_ 24 0 _ _ (by omega) ⟨by omega, rfl, rfl, rfl, rfl, zm_up μ 243 τ (-1), rfl, zm_up_eq, (fun n hn => absurd hn (by omega)), (fun c d a1 _ => zm_up_ne a1), trivial⟩
    · rintro i L _ hi ⟨-, nl, g0, g1, g2, ξ, rfl, f1, f2, f3, hq⟩
      have c1 : ¬ (24 : Int32) ≤ nI i := nI_ge (b := 24) hi (by decide)
      obtain ⟨N1, E1⟩ := ze_spot (h := zm_mk ξ) (n := i) D ht
      have ia : zi_in (nI (24 * τ + i)) 168 = true := zm_in (by omega) (by decide)
      have ca : (nI (24 * τ + i)).toNatClampNeg = 24 * τ + i := nI_clamp (by omega)
      have f1' : zm_up ξ 244 (24 * τ + i) 0 243 τ = -1 := (zm_up_ne (by omega)).trans f1
      have f2' : ∀ n, n < i + 1 → zm_up ξ 244 (24 * τ + i) 0 244 (24 * τ + n) = 0 := fun n hn => by
        rw [zm_up_pt]
        by_cases e : n = i
        · rw [if_pos (by omega)]
        · rw [if_neg (by omega)]
          exact f2 n (by omega)
      have f3' : ∀ c d, ¬ (c = 243 ∧ d = τ) → ¬ (c = 244 ∧ 24 * τ ≤ d ∧ d < 24 * τ + 24) → zm_up ξ 244 (24 * τ + i) 0 c d = μ c d := fun c d a1 a2 => by
        rw [zm_up_ne (fun e => a2 ⟨e.1, by omega, by omega⟩)]
        exact f3 c d a1 a2
      left
      refine ⟨zi_set L 2 (.int (nI (i + 1))), zm_mk (zm_up ξ 244 (24 * τ + i) 0), ⟨N1, 12, fun F m hF => ?_⟩, by omega, ?_, ?_, ?_, zi_get_set_eq, _, rfl, f1', f2', f3', trivial⟩
      · simp (maxDischargeDepth := 9) [zg_0, zg_aload_n, zg_bipush, zg_getfield, zg_goto, zg_iastore, zg_iconst, zg_if_icmp, zg_iinc, zg_iload_n, zg_invokestatic, zg_istore_n, zg_return, zf_X6_clearTree, zi_ld, zi_lda, zi_cmp, zi_retOk, zi_isI, zi_f3, zi_cr, zi_ci, zi_cn, zi_get_ne, zi_nl_i, zi_nl_r, zi_get_set_eq, nl, g0, g1, g2, h24, c1, zM_g, zq_Mod_spot, E1 F (by omega), zm_iast zM_A244 ia, ca, nI_1]
      · simp (maxDischargeDepth := 9) [zi_get_ne, zi_nl_i, zi_nl_r, zi_get_set_eq, nl]
      · simp (maxDischargeDepth := 9) [zi_get_ne, zi_nl_i, zi_nl_r, zi_get_set_eq, nl, g0]
      · simp (maxDischargeDepth := 9) [zi_get_ne, zi_nl_i, zi_nl_r, zi_get_set_eq, nl, g1]
    · rintro L _ ⟨-, nl, g0, g1, g2, ξ, rfl, f1, f2, f3, hq⟩
      have c1 : (24 : Int32) ≤ nI 24 := by decide
      refine ⟨none, zm_mk ξ, ⟨0, 4, fun F m hF => ?_⟩, rfl, ξ, rfl, f1, f2, f3⟩
      simp [zg_0, zg_aload_n, zg_bipush, zg_getfield, zg_goto, zg_iastore, zg_iconst, zg_if_icmp, zg_iinc, zg_iload_n, zg_invokestatic, zg_istore_n, zg_return, zf_X6_clearTree, zi_ld, zi_lda, zi_cmp, zi_retOk, zi_isI, zi_f3, zi_cr, zi_ci, zi_cn, g0, g2, h24, c1]
  obtain ⟨r, h', G, rfl, ν, rfl, f⟩ := key
  refine ⟨ν, ze_in [(0, .ref 232), (1, .int (nI τ))] zq_Mod_clearTree (Nat.le_of_ble_eq_true rfl) rfl (ze_S.end ⟨0, 7, fun F m hF => ?_⟩ G), f⟩
  simp [zg_0, zg_aload_n, zg_bipush, zg_getfield, zg_goto, zg_iastore, zg_iconst, zg_if_icmp, zg_iinc, zg_iload_n, zg_invokestatic, zg_istore_n, zg_return, zf_X6_clearTree, zi_ld, zi_lda, zi_cmp, zi_retOk, zi_isI, zi_f3, zi_cr, zi_ci, zi_cn, zi_get, zi_set, zM_g, zm_iast zM_A243 it, ct, nI_0]
end ZM6
end
section
/-! the reference: copyTree -/
noncomputable def zu_c6 (c : Nat) : Bool := decide (c = 244) || decide (c = 245) || decide (c = 246) || decide (c = 247) || decide (c = 249) || decide (c = 250)
/-- memory with the first p nodes and the first q tabs of the tree f copied to the tree t -/
noncomputable def zu_cq (μ : zm_M) (f t p q : Nat) : zm_M := fun c d => if c = 243 ∧ d = t then μ 243 f else if zu_c6 c = true ∧ 24 * t ≤ d ∧ d < 24 * t + p then μ c (24 * f + (d - 24 * t)) else if c = 248 ∧ 240 * t ≤ d ∧ d < 240 * t + q then μ 248 (240 * f + (d - 240 * t)) else μ c d
section ZCT
variable {μ : zm_M} {f t : Nat}
theorem zu_cq_0 : zu_cq μ f t 0 0 = zm_up μ 243 t (μ 243 f) := by
  funext c d
  unfold zu_cq zm_up
  by_cases h : c = 243 ∧ d = t
  · rw [if_pos h, if_pos h]
  · rw [if_neg h, if_neg h, if_neg (by omega), if_neg (by omega)]
theorem zu_cq_6 {i q : Nat} (a : Nat) (ha : a = 24 * t + i) (b : Nat) (hb : b = 24 * f + i) : zm_up (zm_up (zm_up (zm_up (zm_up (zm_up (zu_cq μ f t i q) 244 a (μ 244 b)) 245 a (μ 245 b)) 246 a (μ 246 b)) 247 a (μ 247 b)) 249 a (μ 249 b)) 250 a (μ 250 b) = zu_cq μ f t (i + 1) q := by
  subst ha hb
  funext c d
  by_cases hd : d = 24 * t + i
  · subst hd
    by_cases h4 : c = 244
    · subst h4; simp [zm_up, zu_cq, zu_c6]
    by_cases h5 : c = 245
    · subst h5; simp [zm_up, zu_cq, zu_c6]
    by_cases h6 : c = 246
    · subst h6; simp [zm_up, zu_cq, zu_c6]
    by_cases h7 : c = 247
    · subst h7; simp [zm_up, zu_cq, zu_c6]
    by_cases h9 : c = 249
    · subst h9; simp [zm_up, zu_cq, zu_c6]
    by_cases h0 : c = 250
    · subst h0; simp [zm_up, zu_cq, zu_c6]
    simp [zm_up, zu_cq, zu_c6, h4, h5, h6, h7, h9, h0]
  · have e : (d < 24 * t + (i + 1)) = (d < 24 * t + i) := propext (by omega)
    simp only [zm_up, hd, and_false, if_false, zu_cq, e]
theorem zu_cq_1 {p q : Nat} : zm_up (zu_cq μ f t p q) 248 (240 * t + q) (μ 248 (240 * f + q)) = zu_cq μ f t p (q + 1) := by
  funext c d
  by_cases h : c = 248 ∧ d = 240 * t + q
  · obtain ⟨rfl, rfl⟩ := h
    simp [zm_up, zu_cq, zu_c6]
  · have e : (c = 248 ∧ 240 * t ≤ d ∧ d < 240 * t + (q + 1)) = (c = 248 ∧ 240 * t ≤ d ∧ d < 240 * t + q) := propext (by omega)
    simp only [zm_up, h, if_false, zu_cq, e]
theorem zu_cq_src {p q c d : Nat} (hft : f ≠ t) (hp : p ≤ 24) (hq : q ≤ 240) (h : (zu_c6 c = true ∧ 24 * f ≤ d ∧ d < 24 * f + 24) ∨ (c = 248 ∧ 240 * f ≤ d ∧ d < 240 * f + 240)) : zu_cq μ f t p q c d = μ c d := by
  unfold zu_cq
  have h3 : ¬ (c = 243 ∧ d = t) := by
    rintro ⟨rfl, rfl⟩
    rcases h with h | h
    · exact absurd h.1 (by decide)
    · exact absurd h.1 (by decide)
  rw [if_neg h3]
  rcases h with ⟨h1, h2⟩ | ⟨rfl, h2⟩
  · rw [if_neg (by omega), if_neg (by rintro ⟨rfl, -⟩; revert h1; decide)]
  · rw [if_neg (by rintro ⟨h1, -⟩; revert h1; decide), if_neg (by omega)]
set_option maxRecDepth 100000 in
theorem ze_McopyTree (D : Nat) (hf : f < 7) (ht : t < 7) (hft : f ≠ t) : ze_E (D + 2) A_Mod_copyTree [.ref 232, .int (nI f), .int (nI t)] (zm_mk μ) none (zm_mk (zu_cq μ f t 24 240)) := by
  have h24 : (Int8.ofInt 24).toInt32 = (24 : Int32) := by decide
  have h10 : (Int8.ofInt 10).toInt32 = (10 : Int32) := by decide
  have it : zi_in (nI t) 7 = true := zm_in ht (by decide)
  have ct : (nI t).toNatClampNeg = t := nI_clamp (by omega)
  have jf : zi_in (nI f) 7 = true := zm_in hf (by decide)
  have cf : (nI f).toNatClampNeg = f := nI_clamp (by omega)
  have key : ∃ r h', ze_G (D + 1) 7 none zc_X6_copyTree 14 [(3, .int (nI 0)), (0, .ref 232), (1, .int (nI f)), (2, .int (nI t))] [] (zm_mk (zu_cq μ f t 0 0)) r h' ∧ (r = none ∧ zm_mk (zu_cq μ f t 24 240) = h') := by
    refine ze_loop (Q := fun i L hp => i ≤ 24 ∧ zi_nl L = true ∧ zi_get L 0 = some (.ref 232) ∧ zi_get L 1 = some (.int (nI f)) ∧ zi_get L 2 = some (.int (nI t)) ∧ zi_get L 3 = some (.int (nI i)) ∧ zm_mk (zu_cq μ f t i (10 * i)) = hp) (R := fun r h' => r = none ∧ zm_mk (zu_cq μ f t 24 240) = h') 24 ?_ ?_ 24 0 _ _ (by omega) ⟨by omega, rfl, rfl, rfl, rfl, rfl, rfl⟩
    · rintro i0 L _ hi0 ⟨-, nl, g0, g1, g2, g3, rfl⟩
      left
      have ia : zi_in (nI (24 * t + i0)) 168 = true := zm_in (by omega) (by decide)
      have ca : (nI (24 * t + i0)).toNatClampNeg = 24 * t + i0 := nI_clamp (by omega)
      have ib : zi_in (nI (24 * f + i0)) 168 = true := zm_in (by omega) (by decide)
      have cb : (nI (24 * f + i0)).toNatClampNeg = 24 * f + i0 := nI_clamp (by omega)
      have ma : (10 : Int32) * nI (24 * t + i0) = nI (10 * (24 * t + i0)) := nI_mul10 (by omega)
      have mb : (10 : Int32) * nI (24 * f + i0) = nI (10 * (24 * f + i0)) := nI_mul10 (by omega)
      have inner : ∃ L' h', ze_S (D + 1) 7 none zc_X6_copyTree 121 (zi_set (zi_set (zi_set L 4 (.int (nI (24 * f + i0)))) 5 (.int (nI (24 * t + i0)))) 6 (.int (nI 0))) [] (zm_mk (zu_cq μ f t (i0 + 1) (10 * i0 + 0))) 160 L' [] h' ∧ (zi_nl L' = true ∧ zi_get L' 0 = some (.ref 232) ∧ zi_get L' 1 = some (.int (nI f)) ∧ zi_get L' 2 = some (.int (nI t)) ∧ zi_get L' 3 = some (.int (nI i0)) ∧ zm_mk (zu_cq μ f t (i0 + 1) (10 * (i0 + 1))) = h') := by
        have z0 : zi_nl (zi_set (zi_set (zi_set L 4 (.int (nI (24 * f + i0)))) 5 (.int (nI (24 * t + i0)))) 6 (.int (nI 0))) = true := by simp (maxDischargeDepth := 9) [zi_get_ne, zi_nl_i, zi_nl_r, zi_get_set_eq, nl]
        have z1 : zi_get (zi_set (zi_set (zi_set L 4 (.int (nI (24 * f + i0)))) 5 (.int (nI (24 * t + i0)))) 6 (.int (nI 0))) 0 = some (.ref 232) := by simp (maxDischargeDepth := 9) [zi_get_ne, zi_nl_i, zi_nl_r, zi_get_set_eq, nl, g0]
        have z2 : zi_get (zi_set (zi_set (zi_set L 4 (.int (nI (24 * f + i0)))) 5 (.int (nI (24 * t + i0)))) 6 (.int (nI 0))) 1 = some (.int (nI f)) := by simp (maxDischargeDepth := 9) [zi_get_ne, zi_nl_i, zi_nl_r, zi_get_set_eq, nl, g1]
        have z3 : zi_get (zi_set (zi_set (zi_set L 4 (.int (nI (24 * f + i0)))) 5 (.int (nI (24 * t + i0)))) 6 (.int (nI 0))) 2 = some (.int (nI t)) := by simp (maxDischargeDepth := 9) [zi_get_ne, zi_nl_i, zi_nl_r, zi_get_set_eq, nl, g2]
        have z4 : zi_get (zi_set (zi_set (zi_set L 4 (.int (nI (24 * f + i0)))) 5 (.int (nI (24 * t + i0)))) 6 (.int (nI 0))) 3 = some (.int (nI i0)) := by simp (maxDischargeDepth := 9) [zi_get_ne, zi_nl_i, zi_nl_r, zi_get_set_eq, nl, g3]
        have z5 : zi_get (zi_set (zi_set (zi_set L 4 (.int (nI (24 * f + i0)))) 5 (.int (nI (24 * t + i0)))) 6 (.int (nI 0))) 4 = some (.int (nI (24 * f + i0))) := by simp (maxDischargeDepth := 9) [zi_get_ne, zi_nl_i, zi_nl_r, zi_get_set_eq, nl]
        have z6 : zi_get (zi_set (zi_set (zi_set L 4 (.int (nI (24 * f + i0)))) 5 (.int (nI (24 * t + i0)))) 6 (.int (nI 0))) 5 = some (.int (nI (24 * t + i0))) := by simp (maxDischargeDepth := 9) [zi_get_ne, zi_nl_i, zi_nl_r, zi_get_set_eq, nl]
        have z7 : zi_get (zi_set (zi_set (zi_set L 4 (.int (nI (24 * f + i0)))) 5 (.int (nI (24 * t + i0)))) 6 (.int (nI 0))) 6 = some (.int (nI 0)) := zi_get_set_eq
        generalize zi_set (zi_set (zi_set L 4 (.int (nI (24 * f + i0)))) 5 (.int (nI (24 * t + i0)))) 6 (.int (nI 0)) = L0 at z0 z1 z2 z3 z4 z5 z6 z7
        refine ze_loopS (Q := fun i L hp => i ≤ 10 ∧ zi_nl L = true ∧ zi_get L 0 = some (.ref 232) ∧ zi_get L 1 = some (.int (nI f)) ∧ zi_get L 2 = some (.int (nI t)) ∧ zi_get L 3 = some (.int (nI i0)) ∧ zi_get L 4 = some (.int (nI (24 * f + i0))) ∧ zi_get L 5 = some (.int (nI (24 * t + i0))) ∧ zi_get L 6 = some (.int (nI i)) ∧ ∃ ξ : zm_M, zm_mk ξ = hp ∧ (ξ = zu_cq μ f t (i0 + 1) (10 * i0 + i)) ∧ (True)) (R := fun L' h' => zi_nl L' = true ∧ zi_get L' 0 = some (.ref 232) ∧ zi_get L' 1 = some (.int (nI f)) ∧ zi_get L' 2 = some (.int (nI t)) ∧ zi_get L' 3 = some (.int (nI i0)) ∧ zm_mk (zu_cq μ f t (i0 + 1) (10 * (i0 + 1))) = h') 10 ?_ ?_ 10 0 _ _ (by omega) ⟨by omega, z0, z1, z2, z3, z4, z5, z6, z7, _, rfl, rfl, trivial⟩
        · rintro i L _ hi ⟨-, nl, g0, g1, g2, g3, g4, g5, g6, ξ, rfl, hξ, hq⟩
          subst hξ
          have c1 : ¬ (10 : Int32) ≤ nI i := nI_ge (b := 10) hi (by decide)
          have ij : zi_in (nI (10 * (24 * t + i0) + i)) 1680 = true := zm_in (by omega) (by decide)
          have cj : (nI (10 * (24 * t + i0) + i)).toNatClampNeg = 10 * (24 * t + i0) + i := nI_clamp (by omega)
          have ik : zi_in (nI (10 * (24 * f + i0) + i)) 1680 = true := zm_in (by omega) (by decide)
          have ck : (nI (10 * (24 * f + i0) + i)).toNatClampNeg = 10 * (24 * f + i0) + i := nI_clamp (by omega)
          have sv : zu_cq μ f t (i0 + 1) (10 * i0 + i) 248 (10 * (24 * f + i0) + i) = μ 248 (10 * (24 * f + i0) + i) := zu_cq_src hft (by omega) (by omega) (Or.inr ⟨rfl, by omega, by omega⟩)
          have e1 := zu_cq_1 (μ := μ) (f := f) (t := t) (p := i0 + 1) (q := 10 * i0 + i)
          rw [show 240 * t + (10 * i0 + i) = 10 * (24 * t + i0) + i by omega, show 240 * f + (10 * i0 + i) = 10 * (24 * f + i0) + i by omega] at e1
          refine ⟨zi_set L 6 (.int (nI (i + 1))), zm_mk (zu_cq μ f t (i0 + 1) (10 * i0 + (i + 1))), ⟨0, 21, fun F m hF => ?_⟩, by omega, ?_, ?_, ?_, ?_, ?_, ?_, ?_, zi_get_set_eq, _, rfl, rfl, trivial⟩
          · simp (maxDischargeDepth := 9) [zg_0, zg_aload_n, zg_bipush, zg_getfield, zg_goto, zg_iadd, zg_iaload, zg_iastore, zg_iconst, zg_if_icmp, zg_iinc, zg_iload, zg_iload_n, zg_imul, zg_invokestatic, zg_istore, zg_istore_n, zg_return, zf_X6_copyTree, zi_ld, zi_lda, zi_cmp, zi_retOk, zi_isI, zi_f3, zi_cr, zi_ci, zi_cn, zi_get_ne, zi_nl_i, zi_nl_r, zi_get_set_eq, nl, g0, g1, g2, g3, g4, g5, g6, h10, c1, zM_g, ma, mb, nI_add, zm_iald (k := 0) zM_A248 ik, ck, sv, zm_iast zM_A248 ij, cj, e1, Nat.add_assoc, nI_1]
          · simp (maxDischargeDepth := 9) [zi_get_ne, zi_nl_i, zi_nl_r, zi_get_set_eq, nl]
          · simp (maxDischargeDepth := 9) [zi_get_ne, zi_nl_i, zi_nl_r, zi_get_set_eq, nl, g0]
          · simp (maxDischargeDepth := 9) [zi_get_ne, zi_nl_i, zi_nl_r, zi_get_set_eq, nl, g1]
          · simp (maxDischargeDepth := 9) [zi_get_ne, zi_nl_i, zi_nl_r, zi_get_set_eq, nl, g2]
          · simp (maxDischargeDepth := 9) [zi_get_ne, zi_nl_i, zi_nl_r, zi_get_set_eq, nl, g3]
          · simp (maxDischargeDepth := 9) [zi_get_ne, zi_nl_i, zi_nl_r, zi_get_set_eq, nl, g4]
          · simp (maxDischargeDepth := 9) [zi_get_ne, zi_nl_i, zi_nl_r, zi_get_set_eq, nl, g5]
        · rintro L _ ⟨-, nl, g0, g1, g2, g3, g4, g5, g6, ξ, rfl, hξ, hq⟩
          have c1 : (10 : Int32) ≤ nI 10 := by decide
          subst hξ
          rw [show 10 * (i0 + 1) = 10 * i0 + 10 by omega]
          refine ⟨L, _, ⟨0, 3, fun F m hF => ?_⟩, nl, g0, g1, g2, g3, rfl⟩
          simp [zg_0, zg_aload_n, zg_bipush, zg_getfield, zg_goto, zg_iadd, zg_iaload, zg_iastore, zg_iconst, zg_if_icmp, zg_iinc, zg_iload, zg_iload_n, zg_imul, zg_invokestatic, zg_istore, zg_istore_n, zg_return, zf_X6_copyTree, zi_ld, zi_lda, zi_cmp, zi_retOk, zi_isI, zi_f3, zi_cr, zi_ci, zi_cn, g6, h10, c1]
      obtain ⟨L', h', S1, nl', g0', g1', g2', g3', rfl⟩ := inner
      refine ⟨zi_set L' 3 (.int (nI (i0 + 1))), zm_mk (zu_cq μ f t (i0 + 1) (10 * (i0 + 1))), ?_, by omega, ?_, ?_, ?_, ?_, zi_get_set_eq, rfl⟩
      · obtain ⟨N1, E1⟩ := ze_spot (h := zm_mk (zu_cq μ f t i0 (10 * i0))) (n := i0) D hf
        obtain ⟨N2, E2⟩ := ze_spot (h := zm_mk (zu_cq μ f t i0 (10 * i0))) (n := i0) D ht
        refine ze_S.trans (p2 := 121) (s2 := []) ⟨N1 + N2, 61, fun F m hF => ?_⟩ (S1.trans ⟨0, 2, fun F m hF => ?_⟩)
        · have c1 : ¬ (24 : Int32) ≤ nI i0 := nI_ge (b := 24) hi0 (by decide)
          have sv : ∀ c, zu_c6 c = true → zu_cq μ f t i0 (10 * i0) c (24 * f + i0) = μ c (24 * f + i0) := fun c hc => zu_cq_src hft (by omega) (by omega) (Or.inl ⟨hc, by omega, by omega⟩)
          have e6 := zu_cq_6 (μ := μ) (f := f) (t := t) (i := i0) (q := 10 * i0) _ rfl _ rfl
          rw [show 10 * i0 + 0 = 10 * i0 from rfl, ← e6]
          have s4 := sv 244 rfl
          have s5 := sv 245 rfl
          have s6 := sv 246 rfl
          have s7 := sv 247 rfl
          have s9 := sv 249 rfl
          have s0 := sv 250 rfl
          generalize zu_cq μ f t i0 (10 * i0) = M at *
          have r5 : ∀ y, zm_up M 244 (24 * t + i0) y 245 (24 * f + i0) = μ 245 (24 * f + i0) := fun y => (zm_up_ne (by omega)).trans s5
          have r6 : ∀ y z, zm_up (zm_up M 244 (24 * t + i0) y) 245 (24 * t + i0) z 246 (24 * f + i0) = μ 246 (24 * f + i0) := fun y z => ((zm_up_ne (by omega)).trans (zm_up_ne (by omega))).trans s6
          have r7 : ∀ y z w, zm_up (zm_up (zm_up M 244 (24 * t + i0) y) 245 (24 * t + i0) z) 246 (24 * t + i0) w 247 (24 * f + i0) = μ 247 (24 * f + i0) := fun y z w => (((zm_up_ne (by omega)).trans (zm_up_ne (by omega))).trans (zm_up_ne (by omega))).trans s7
          have r9 : ∀ y z w v, zm_up (zm_up (zm_up (zm_up M 244 (24 * t + i0) y) 245 (24 * t + i0) z) 246 (24 * t + i0) w) 247 (24 * t + i0) v 249 (24 * f + i0) = μ 249 (24 * f + i0) := fun y z w v => ((((zm_up_ne (by omega)).trans (zm_up_ne (by omega))).trans (zm_up_ne (by omega))).trans (zm_up_ne (by omega))).trans s9
          have r0 : ∀ y z w v u, zm_up (zm_up (zm_up (zm_up (zm_up M 244 (24 * t + i0) y) 245 (24 * t + i0) z) 246 (24 * t + i0) w) 247 (24 * t + i0) v) 249 (24 * t + i0) u 250 (24 * f + i0) = μ 250 (24 * f + i0) := fun y z w v u => (((((zm_up_ne (by omega)).trans (zm_up_ne (by omega))).trans (zm_up_ne (by omega))).trans (zm_up_ne (by omega))).trans (zm_up_ne (by omega))).trans s0
          simp (maxDischargeDepth := 9) [zg_0, zg_aload_n, zg_bipush, zg_getfield, zg_goto, zg_iadd, zg_iaload, zg_iastore, zg_iconst, zg_if_icmp, zg_iinc, zg_iload, zg_iload_n, zg_imul, zg_invokestatic, zg_istore, zg_istore_n, zg_return, zf_X6_copyTree, zi_ld, zi_lda, zi_cmp, zi_retOk, zi_isI, zi_f3, zi_cr, zi_ci, zi_cn, zi_get_ne, zi_nl_i, zi_nl_r, zi_get_set_eq, nl, g0, g1, g2, g3, h24, c1, zM_g, zq_Mod_spot, E1 F (by omega), E2 F (by omega), zm_iald (k := 0) zM_A244 ib, zm_iald (k := 0) zM_A245 ib, zm_iald (k := 0) zM_A246 ib, zm_iald (k := 0) zM_A247 ib, zm_iald (k := 0) zM_A249 ib, zm_iald (k := 0) zM_A250 ib, cb, s4, r5, r6, r7, r9, r0, zm_iast zM_A244 ia, zm_iast zM_A245 ia, zm_iast zM_A246 ia, zm_iast zM_A247 ia, zm_iast zM_A249 ia, zm_iast zM_A250 ia, ca, nI_0]
        · simp [zg_0, zg_aload_n, zg_bipush, zg_getfield, zg_goto, zg_iadd, zg_iaload, zg_iastore, zg_iconst, zg_if_icmp, zg_iinc, zg_iload, zg_iload_n, zg_imul, zg_invokestatic, zg_istore, zg_istore_n, zg_return, zf_X6_copyTree, zi_ld, zi_lda, zi_cmp, zi_retOk, zi_isI, zi_f3, zi_cr, zi_ci, zi_cn, g3', nI_1]
      · have nl := nl'
        simp (maxDischargeDepth := 9) [zi_get_ne, zi_nl_i, zi_nl_r, zi_get_set_eq, nl]
      · have nl := nl'
        simp (maxDischargeDepth := 9) [zi_get_ne, zi_nl_i, zi_nl_r, zi_get_set_eq, nl, g0']
      · have nl := nl'
        simp (maxDischargeDepth := 9) [zi_get_ne, zi_nl_i, zi_nl_r, zi_get_set_eq, nl, g1']
      · have nl := nl'
        simp (maxDischargeDepth := 9) [zi_get_ne, zi_nl_i, zi_nl_r, zi_get_set_eq, nl, g2']
    · rintro L _ ⟨-, nl, g0, g1, g2, g3, rfl⟩
      have c1 : (24 : Int32) ≤ nI 24 := by decide
      refine ⟨none, _, ⟨0, 4, fun F m hF => ?_⟩, rfl, rfl⟩
      simp [zg_0, zg_aload_n, zg_bipush, zg_getfield, zg_goto, zg_iadd, zg_iaload, zg_iastore, zg_iconst, zg_if_icmp, zg_iinc, zg_iload, zg_iload_n, zg_imul, zg_invokestatic, zg_istore, zg_istore_n, zg_return, zf_X6_copyTree, zi_ld, zi_lda, zi_cmp, zi_retOk, zi_isI, zi_f3, zi_cr, zi_ci, zi_cn, g3, h24, c1]
  obtain ⟨r, h', G, rfl, rfl⟩ := key
  refine ze_in [(0, .ref 232), (1, .int (nI f)), (2, .int (nI t))] zq_Mod_copyTree (Nat.le_of_ble_eq_true rfl) rfl (ze_S.end ⟨0, 10, fun F m hF => ?_⟩ G)
  simp [zg_0, zg_aload_n, zg_bipush, zg_getfield, zg_goto, zg_iadd, zg_iaload, zg_iastore, zg_iconst, zg_if_icmp, zg_iinc, zg_iload, zg_iload_n, zg_imul, zg_invokestatic, zg_istore, zg_istore_n, zg_return, zf_X6_copyTree, zi_ld, zi_lda, zi_cmp, zi_retOk, zi_isI, zi_f3, zi_cr, zi_ci, zi_cn, zi_get, zi_set, zM_g, zm_iald (k := 0) zM_A243 jf, cf, zm_iast zM_A243 it, ct, nI_0, zu_cq_0]
end ZCT
end
section
/-! the reference's trees: what holds of them -/
noncomputable def zu_fm (μ : zm_M) (τ n : Nat) : Int32 := if μ 244 (24 * τ + n) = 1 then 2 else if μ 244 (24 * τ + n) = 2 then 0 else if μ 244 (24 * τ + n) = 3 then 1 else 3
noncomputable def zu_ok (μ : zm_M) (τ : Nat) (ab : Nat → Int32) (u : zy_F) : Prop := zy_ok (zu_fm μ τ) (fun n => μ 245 (24 * τ + n)) (fun n => μ 246 (24 * τ + n)) ab u
noncomputable def zu_I (μ : zm_M) (τ : Nat) (u : zy_F) (ab : Nat → Int32) : Prop :=
  ((u = .nil ∧ μ 243 τ = -1) ∨ (zy_wf u ∧ zu_ok μ τ ab u ∧ μ 243 τ = nI (zy_id u) ∧ ab (zy_id u) = -1)) ∧ (zy_ids u).Nodup ∧ (∀ n ∈ zy_ids u, n < 24) ∧ (∀ n, n < 24 → n ∉ zy_ids u → μ 244 (24 * τ + n) = 0) ∧ ∀ n ∈ zy_lvs u, ∃ l, zu_T μ τ n l ∧ l ≠ [] ∧ ∀ x ∈ l, x < 10
section ZUR
variable {μ ν : zm_M} {τ : Nat} {u : zy_F} {ab : Nat → Int32}
theorem zu_I_wf (h : zu_I μ τ u ab) {n : Nat} (hn : n ∈ zy_ids u) : zy_wf u ∧ zu_ok μ τ ab u ∧ μ 243 τ = nI (zy_id u) ∧ ab (zy_id u) = -1 := by
  rcases h.1 with ⟨rfl, -⟩ | h
  · cases hn
  · exact h
theorem zu_I_lv (h : zu_I μ τ u ab) {n : Nat} (hn : n ∈ zy_lvs u) : zy_wf u ∧ n ∈ zy_ids u := by
  rcases h.1 with ⟨rfl, -⟩ | ⟨w, -⟩
  · cases hn
  · exact ⟨w, zy_lvs_ids u w n hn⟩
theorem zu_fm_leaf {n : Nat} (h : zu_fm μ τ n = 2) : μ 244 (24 * τ + n) = 1 := by
  unfold zu_fm at h
  split at h
  · assumption
  · split at h
    · exact absurd h (by decide)
    · split at h <;> exact absurd h (by decide)
theorem zu_fm_cut {n : Nat} (h : zu_fm μ τ n = 0 ∨ zu_fm μ τ n = 1) : (zu_fm μ τ n = 0 ∧ μ 244 (24 * τ + n) = 2) ∨ (zu_fm μ τ n = 1 ∧ μ 244 (24 * τ + n) = 3) := by
  unfold zu_fm at *
  by_cases c1 : μ 244 (24 * τ + n) = 1
  · rw [if_pos c1] at h
    rcases h with h | h <;> exact absurd h (by decide)
  · rw [if_neg c1] at h ⊢
    by_cases c2 : μ 244 (24 * τ + n) = 2
    · rw [if_pos c2]
      exact Or.inl ⟨rfl, c2⟩
    · rw [if_neg c2] at h ⊢
      by_cases c3 : μ 244 (24 * τ + n) = 3
      · rw [if_pos c3]
        exact Or.inr ⟨rfl, c3⟩
      · rw [if_neg c3] at h
        rcases h with h | h <;> exact absurd h (by decide)
theorem zu_I_leaf (h : zu_I μ τ u ab) {n : Nat} (hn : n ∈ zy_lvs u) : μ 244 (24 * τ + n) = 1 := by
  obtain ⟨w, hi⟩ := zu_I_lv h hn
  exact zu_fm_leaf (zy_ok_lf u w (zu_I_wf h hi).2.1 n hn)
theorem zu_I_cut (h : zu_I μ τ u ab) {n : Nat} (hn : n ∈ zy_cts u) : μ 244 (24 * τ + n) = 2 ∨ μ 244 (24 * τ + n) = 3 := by
  have w : zy_wf u := by
    rcases h.1 with ⟨rfl, -⟩ | ⟨w, -⟩
    · cases hn
    · exact w
  exact (zu_fm_cut (zy_ok_ct u w (zu_I_wf h (zy_cts_ids u w n hn)).2.1 n hn).1).imp (·.2) (·.2)
/-- a node of the type of a leaf is one, of a greater type a cut -/
theorem zu_I_of1 (h : zu_I μ τ u ab) {n : Nat} (hn : n < 24) (e : μ 244 (24 * τ + n) = 1) : n ∈ zy_lvs u := by
  by_cases c : n ∈ zy_ids u
  · rcases zy_ids_or u (zu_I_wf h c).1 n c with h2 | h2
    · rcases zu_I_cut h h2 with e2 | e2 <;> rw [e2] at e <;> exact absurd e (by decide)
    · exact h2
  · rw [h.2.2.2.1 n hn c] at e
    exact absurd e (by decide)
theorem zu_I_of2 (h : zu_I μ τ u ab) {n : Nat} (hn : n < 24) (e : 1 < μ 244 (24 * τ + n)) : n ∈ zy_cts u := by
  by_cases c : n ∈ zy_ids u
  · rcases zy_ids_or u (zu_I_wf h c).1 n c with h2 | h2
    · exact h2
    · rw [zu_I_leaf h h2] at e
      exact absurd e (by decide)
  · rw [h.2.2.2.1 n hn c] at e
    exact absurd e (by decide)
theorem zu_ab_eq (h : zu_I μ τ u ab) {m : Nat} (hm : m ∈ zy_ids u) : zu_ab μ τ (nI m) = ab m := by
  obtain ⟨w, ok, hr, ha⟩ := zu_I_wf h hm
  obtain ⟨-, hd, hlt, hf, -⟩ := id h
  have hm24 := hlt m hm
  unfold zu_ab
  rcases zl_fi_spec (fun n => decide (1 < μ 244 (24 * τ + n) ∧ (μ 245 (24 * τ + n) = nI m ∨ μ 246 (24 * τ + n) = nI m))) (-1) 24 0 with ⟨k, -, hk, hp, -, e⟩ | ⟨hp, e⟩
  · rw [e]
    have hp := of_decide_eq_true hp
    obtain ⟨i, j, hi, hj, -, e1, e2, a1, a2⟩ := zy_ok_kids u w hd ok k (zu_I_of2 h (by omega) hp.1)
    have hi24 := hlt i hi
    have hj24 := hlt j hj
    rcases hp.2 with q | q
    · have : i = m := (nI_eq (by omega) (by omega)).mp (e1.symm.trans q)
      rw [← this]; exact a1.symm
    · have : j = m := (nI_eq (by omega) (by omega)).mp (e2.symm.trans q)
      rw [← this]; exact a2.symm
  · rw [e]
    by_cases c : m = zy_id u
    · rw [c]; exact ha.symm
    · exfalso
      obtain ⟨q, hq, -, ho⟩ := zy_ok_par u w ok m hm c
      have := hp q (Nat.zero_le _) (by rw [Nat.zero_add]; exact hlt q (zy_cts_ids u w q hq))
      refine of_decide_eq_false this ⟨?_, ho⟩
      rcases zu_I_cut h hq with e2 | e2 <;> rw [e2] <;> decide
/-- what is above a node, as an int -/
theorem zu_ab_or (h : zu_I μ τ u ab) {m : Nat} (hm : m ∈ zy_ids u) : ab m < 0 ∨ ∃ n, n < 24 ∧ ab m = nI n := by
  obtain ⟨w, ok, hr, ha⟩ := zu_I_wf h hm
  by_cases c : m = zy_id u
  · left
    rw [c, ha]; decide
  · obtain ⟨q, hq, e, -⟩ := zy_ok_par u w ok m hm c
    exact Or.inr ⟨q, h.2.2.1 q (zy_cts_ids u w q hq), e⟩
/-- y stands in the place of the node m -/
theorem zu_st_ok (h : zu_I μ τ u ab) {m : Nat} (hm : m ∈ zy_ids u) {M : zm_M} (h1 : ∀ q ∈ zy_cts u, M 245 (24 * τ + q) = μ 245 (24 * τ + q)) (h2 : ∀ q ∈ zy_cts u, M 246 (24 * τ + q) = μ 246 (24 * τ + q)) (h0 : M 243 τ = μ 243 τ) (y : Int32) :
    (∀ q ∈ zy_cts u, zu_st M τ (ab m) (nI m) y 245 (24 * τ + q) = if μ 245 (24 * τ + q) = nI m then y else μ 245 (24 * τ + q)) ∧ (∀ q ∈ zy_cts u, zu_st M τ (ab m) (nI m) y 246 (24 * τ + q) = if μ 246 (24 * τ + q) = nI m then y else μ 246 (24 * τ + q)) ∧ (zu_st M τ (ab m) (nI m) y 243 τ = if zy_id u = m then y else μ 243 τ) ∧
    (∀ c d, ¬ (c = 243 ∧ d = τ) → ¬ ((c = 245 ∨ c = 246) ∧ ∃ q ∈ zy_cts u, d = 24 * τ + q) → zu_st M τ (ab m) (nI m) y c d = M c d) := by
  obtain ⟨w, ok, hr, ha⟩ := zu_I_wf h hm
  obtain ⟨-, hd, hlt, hf, -⟩ := id h
  have hm24 := hlt m hm
  by_cases c : zy_id u = m
  · have hneg : ab m < 0 := by rw [← c, ha]; decide
    have hno : ∀ q ∈ zy_cts u, ¬ μ 245 (24 * τ + q) = nI m ∧ ¬ μ 246 (24 * τ + q) = nI m := by
      intro q hq
      obtain ⟨i, j, hi, hj, -, e1, e2, a1, a2⟩ := zy_ok_kids u w hd ok q hq
      have hi24 := hlt i hi
      have hj24 := hlt j hj
      have hq24 := hlt q (zy_cts_ids u w q hq)
      have key : ∀ x : Nat, ab x = nI q → x ≠ m := by
        intro x hx e3
        rw [e3] at hx
        rw [hx] at hneg
        exact nI_pos (by omega) hneg
      exact ⟨fun e3 => key i a1 ((nI_eq (by omega) (by omega)).mp (e1.symm.trans e3)), fun e3 => key j a2 ((nI_eq (by omega) (by omega)).mp (e2.symm.trans e3))⟩
    have eq : zu_st M τ (ab m) (nI m) y = zm_up M 243 τ y := by
      unfold zu_st
      rw [if_pos hneg]
    rw [eq]
    refine ⟨fun q hq => ?_, fun q hq => ?_, ?_, fun c d g1 _ => zm_up_ne g1⟩
    · rw [zm_up_ne (by omega), if_neg (hno q hq).1]; exact h1 q hq
    · rw [zm_up_ne (by omega), if_neg (hno q hq).2]; exact h2 q hq
    · rw [zm_up_eq, if_pos c]
  · obtain ⟨q0, hq0, e0, ho⟩ := zy_ok_par u w ok m hm (Ne.symm c)
    have hq024 := hlt q0 (zy_cts_ids u w q0 hq0)
    have hneg : ¬ ab m < 0 := by rw [e0]; exact nI_pos (by omega)
    have hcl : (ab m).toNatClampNeg = q0 := by rw [e0]; exact nI_clamp (by omega)
    have hun : ∀ q ∈ zy_cts u, (μ 245 (24 * τ + q) = nI m ∨ μ 246 (24 * τ + q) = nI m) → q = q0 := by
      intro q hq hor
      obtain ⟨i, j, hi, hj, -, e1, e2, a1, a2⟩ := zy_ok_kids u w hd ok q hq
      have hi24 := hlt i hi
      have hj24 := hlt j hj
      have hq24 := hlt q (zy_cts_ids u w q hq)
      rcases hor with q1 | q1
      · have : i = m := (nI_eq (by omega) (by omega)).mp (e1.symm.trans q1)
        rw [this, e0] at a1
        exact ((nI_eq (by omega) (by omega)).mp a1).symm
      · have : j = m := (nI_eq (by omega) (by omega)).mp (e2.symm.trans q1)
        rw [this, e0] at a2
        exact ((nI_eq (by omega) (by omega)).mp a2).symm
    have hnb : ¬ (μ 245 (24 * τ + q0) = nI m ∧ μ 246 (24 * τ + q0) = nI m) := by
      rintro ⟨q1, q2⟩
      obtain ⟨i, j, hi, hj, hij, e1, e2, a1, a2⟩ := zy_ok_kids u w hd ok q0 hq0
      have hi24 := hlt i hi
      have hj24 := hlt j hj
      exact hij (((nI_eq (by omega) (by omega)).mp (e1.symm.trans q1)).trans ((nI_eq (by omega) (by omega)).mp (e2.symm.trans q2)).symm)
    by_cases c1 : μ 245 (24 * τ + q0) = nI m
    · have eq : zu_st M τ (ab m) (nI m) y = zm_up M 245 (24 * τ + q0) y := by
        unfold zu_st
        rw [if_neg hneg, hcl, if_pos ((h1 q0 hq0).trans c1)]
      rw [eq]
      refine ⟨fun q hq => ?_, fun q hq => ?_, ?_, fun c d _ g2 => zm_up_ne (fun e => g2 ⟨Or.inl e.1, q0, hq0, e.2⟩)⟩
      · rw [zm_up_pt]
        by_cases e : q = q0
        · subst e
          rw [if_pos rfl, if_pos c1]
        · rw [if_neg (by omega), if_neg (fun e2 => e (hun q hq (Or.inl e2)))]; exact h1 q hq
      · rw [zm_up_ne (by omega), if_neg (fun e2 => hnb (by have := hun q hq (Or.inr e2); subst this; exact ⟨c1, e2⟩))]; exact h2 q hq
      · rw [zm_up_ne (by omega), if_neg c]; exact h0
    · have c2 := ho.resolve_left c1
      have eq : zu_st M τ (ab m) (nI m) y = zm_up M 246 (24 * τ + q0) y := by
        unfold zu_st
        rw [if_neg hneg, hcl, if_neg (fun e => c1 ((h1 q0 hq0).symm.trans e))]
      rw [eq]
      refine ⟨fun q hq => ?_, fun q hq => ?_, ?_, fun c d _ g2 => zm_up_ne (fun e => g2 ⟨Or.inr e.1, q0, hq0, e.2⟩)⟩
      · rw [zm_up_ne (by omega), if_neg (fun e2 => c1 (by have := hun q hq (Or.inl e2); subst this; exact e2))]; exact h1 q hq
      · rw [zm_up_pt]
        by_cases e : q = q0
        · subst e
          rw [if_pos rfl, if_pos c2]
        · rw [if_neg (by omega), if_neg (fun e2 => e (hun q hq (Or.inr e2)))]; exact h2 q hq
      · rw [zm_up_ne (by omega), if_neg c]; exact h0
/-- the same tree at another place -/
noncomputable def zu_eqT (μ : zm_M) (τ : Nat) (ν : zm_M) (σ : Nat) : Prop := ν 243 σ = μ 243 τ ∧ (∀ c n, zu_c6 c = true → n < 24 → ν c (24 * σ + n) = μ c (24 * τ + n)) ∧ ∀ n j, n < 24 → j < 10 → ν 248 (10 * (24 * σ + n) + j) = μ 248 (10 * (24 * τ + n) + j)
theorem zu_eqT.refl : zu_eqT μ τ μ τ := ⟨rfl, fun _ _ _ _ => rfl, fun _ _ _ _ => rfl⟩
theorem zu_eqT.trans {ξ : zm_M} {σ ρ : Nat} (a : zu_eqT μ τ ν σ) (b : zu_eqT ν σ ξ ρ) : zu_eqT μ τ ξ ρ := ⟨b.1.trans a.1, fun c n h1 h2 => (b.2.1 c n h1 h2).trans (a.2.1 c n h1 h2), fun n j h1 h2 => (b.2.2 n j h1 h2).trans (a.2.2 n j h1 h2)⟩
theorem zu_eqT.T {σ n : Nat} {l : List Nat} (a : zu_eqT μ τ ν σ) (hn : n < 24) (h : zu_T μ τ n l) : zu_T ν σ n l := by
  obtain ⟨t0, t1, t2⟩ := h
  exact ⟨t0, (a.2.1 249 n rfl hn).trans t1, fun j hj => (a.2.2 n j hn (by omega)).trans (t2 j hj)⟩
theorem zu_eqT.fm {σ n : Nat} (a : zu_eqT μ τ ν σ) (hn : n < 24) : zu_fm ν σ n = zu_fm μ τ n := by
  unfold zu_fm
  rw [a.2.1 244 n rfl hn]
theorem zu_eqT.I {σ : Nat} (a : zu_eqT μ τ ν σ) (h : zu_I μ τ u ab) : zu_I ν σ u ab := by
  obtain ⟨h1, h2, h3, h4, h5⟩ := h
  refine ⟨h1.imp (fun q => ⟨q.1, a.1.trans q.2⟩) (fun q => ⟨q.1, ?_, a.1.trans q.2.2.1, q.2.2.2⟩), h2, h3, fun n hn hnu => (a.2.1 244 n rfl hn).trans (h4 n hn hnu), fun n hn => ?_⟩
  · exact zy_ok_congr u q.1 h2 (fun x hx => a.fm (h3 x hx)) (fun x hx => ⟨a.2.1 245 x rfl (h3 x (zy_cts_ids u q.1 x hx)), a.2.1 246 x rfl (h3 x (zy_cts_ids u q.1 x hx))⟩) (fun x _ _ => rfl) q.2.1
  · have hn24 : n < 24 := by
      rcases h1 with ⟨rfl, -⟩ | ⟨w, -⟩
      · cases hn
      · exact h3 n (zy_lvs_ids u w n hn)
    obtain ⟨l, t, r⟩ := h5 n hn
    exact ⟨l, a.T hn24 t, r⟩
theorem zu_cq_eqT {f t : Nat} : zu_eqT μ f (zu_cq μ f t 24 240) t := by
  refine ⟨?_, fun c n hc hn => ?_, fun n j hn hj => ?_⟩
  · unfold zu_cq
    rw [if_pos ⟨rfl, rfl⟩]
  · unfold zu_cq
    rw [if_neg (by rintro ⟨rfl, -⟩; revert hc; decide), if_pos ⟨hc, by omega, by omega⟩, Nat.add_sub_cancel_left]
  · unfold zu_cq
    rw [if_neg (by omega), if_neg (by rintro ⟨hc, -⟩; revert hc; decide), if_pos ⟨rfl, by omega, by omega⟩]
    congr 1
    omega
/-- is it a place of the tree τ? -/
noncomputable def zu_in (τ c d : Nat) : Prop := (c = 243 ∧ d = τ) ∨ (zu_c6 c = true ∧ 24 * τ ≤ d ∧ d < 24 * τ + 24) ∨ (c = 248 ∧ 240 * τ ≤ d ∧ d < 240 * τ + 240)
noncomputable def zu_fr (τ : Nat) (μ ν : zm_M) : Prop := ∀ c d, ¬ zu_in τ c d → ν c d = μ c d
theorem zu_fr.refl : zu_fr τ μ μ := fun _ _ _ => rfl
theorem zu_fr.trans {ξ : zm_M} (a : zu_fr τ μ ν) (b : zu_fr τ ν ξ) : zu_fr τ μ ξ := fun c d h => (b c d h).trans (a c d h)
theorem zu_cq_fr {f t : Nat} : zu_fr t μ (zu_cq μ f t 24 240) := fun c d h => by
  unfold zu_cq
  rw [if_neg (fun q => h (Or.inl q)), if_neg (fun q => h (Or.inr (Or.inl q))), if_neg (fun q => h (Or.inr (Or.inr q)))]
theorem zu_fr.eqT {σ : Nat} (a : zu_fr σ μ ν) (h : τ ≠ σ) : zu_eqT μ τ ν τ := by
  refine ⟨a _ _ ?_, fun c n hc hn => a _ _ ?_, fun n j hn hj => a _ _ ?_⟩
  · rintro (h1 | ⟨h1, -⟩ | ⟨h1, -⟩)
    · exact h h1.2
    · revert h1; decide
    · revert h1; decide
  · rintro (⟨rfl, -⟩ | ⟨-, h1⟩ | ⟨rfl, -⟩)
    · revert hc; decide
    · omega
    · revert hc; decide
  · rintro (⟨h1, -⟩ | ⟨h1, -⟩ | ⟨-, h1⟩)
    · revert h1; decide
    · revert h1; decide
    · omega
/-- cells that no tree has -/
theorem zu_in_not {c d : Nat} (h : c < 243 ∨ 250 < c) : ¬ zu_in τ c d := by
  rintro (h1 | ⟨h1, -⟩ | h1)
  · omega
  · unfold zu_c6 at h1
    simp at h1
    omega
  · omega
end ZUR
end
