/-! the reference: copyTree -/
def zu_c6 (c : Nat) : Bool := decide (c = 244) || decide (c = 245) || decide (c = 246) || decide (c = 247) || decide (c = 249) || decide (c = 250)
/-- memory with the first p nodes and the first q tabs of the tree f copied to the tree t -/
def zu_cq (μ : zm_M) (f t p q : Nat) : zm_M := fun c d => if c = 243 ∧ d = t then μ 243 f else if zu_c6 c = true ∧ 24 * t ≤ d ∧ d < 24 * t + p then μ c (24 * f + (d - 24 * t)) else if c = 248 ∧ 240 * t ≤ d ∧ d < 240 * t + q then μ 248 (240 * f + (d - 240 * t)) else μ c d
section ZCT
variable {μ : zm_M} {f t : Nat}
theorem zu_cq_0 : zu_cq μ f t 0 0 = zm_up μ 243 t (μ 243 f) := by
  funext c d
  unfold zu_cq zm_up
  by_cases h : c = 243 ∧ d = t
  · rw [if_pos h, if_pos h]
  · rw [if_neg h, if_neg h, if_neg (by omega), if_neg (by omega)]
theorem zu_cq_6 {i q : Nat} (a : Nat) (ha : a = 24 * t + i) (b : Nat) (hb : b = 24 * f + i) : zm_up (zm_up (zm_up (zm_up (zm_up (zm_up (zu_cq μ f t i q) 244 a (μ 244 b)) 245 a (μ 245 b)) 246 a (μ 246 b)) 247 a (μ 247 b)) 249 a (μ 249 b)) 250 a (μ 250 b) = zu_cq μ f t (i + 1) q := by
  subst ha hb
  funext c d
  by_cases hd : d = 24 * t + i
  · subst hd
    by_cases h4 : c = 244
    · subst h4; simp [zm_up, zu_cq, zu_c6]
    by_cases h5 : c = 245
    · subst h5; simp [zm_up, zu_cq, zu_c6]
    by_cases h6 : c = 246
    · subst h6; simp [zm_up, zu_cq, zu_c6]
    by_cases h7 : c = 247
    · subst h7; simp [zm_up, zu_cq, zu_c6]
    by_cases h9 : c = 249
    · subst h9; simp [zm_up, zu_cq, zu_c6]
    by_cases h0 : c = 250
    · subst h0; simp [zm_up, zu_cq, zu_c6]
    simp [zm_up, zu_cq, zu_c6, h4, h5, h6, h7, h9, h0]
  · have e : (d < 24 * t + (i + 1)) = (d < 24 * t + i) := propext (by omega)
    simp only [zm_up, hd, and_false, if_false, zu_cq, e]
theorem zu_cq_1 {p q : Nat} : zm_up (zu_cq μ f t p q) 248 (240 * t + q) (μ 248 (240 * f + q)) = zu_cq μ f t p (q + 1) := by
  funext c d
  by_cases h : c = 248 ∧ d = 240 * t + q
  · obtain ⟨rfl, rfl⟩ := h
    simp [zm_up, zu_cq, zu_c6]
  · have e : (c = 248 ∧ 240 * t ≤ d ∧ d < 240 * t + (q + 1)) = (c = 248 ∧ 240 * t ≤ d ∧ d < 240 * t + q) := propext (by omega)
    simp only [zm_up, h, if_false, zu_cq, e]
theorem zu_cq_src {p q c d : Nat} (hft : f ≠ t) (hp : p ≤ 24) (hq : q ≤ 240) (h : (zu_c6 c = true ∧ 24 * f ≤ d ∧ d < 24 * f + 24) ∨ (c = 248 ∧ 240 * f ≤ d ∧ d < 240 * f + 240)) : zu_cq μ f t p q c d = μ c d := by
  unfold zu_cq
  have h3 : ¬ (c = 243 ∧ d = t) := by
    rintro ⟨rfl, rfl⟩
    rcases h with h | h
    · exact absurd h.1 (by decide)
    · exact absurd h.1 (by decide)
  rw [if_neg h3]
  rcases h with ⟨h1, h2⟩ | ⟨rfl, h2⟩
  · rw [if_neg (by omega), if_neg (by rintro ⟨rfl, -⟩; revert h1; decide)]
  · rw [if_neg (by rintro ⟨h1, -⟩; revert h1; decide), if_neg (by omega)]
set_option maxRecDepth 100000 in
theorem ze_McopyTree (D : Nat) (hf : f < 7) (ht : t < 7) (hft : f ≠ t) : ze_E (D + 2) A_Mod_copyTree [.ref 232, .int (nI f), .int (nI t)] (zm_mk μ) none (zm_mk (zu_cq μ f t 24 240)) := by
  have h24 : (Int8.ofInt 24).toInt32 = (24 : Int32) := by decide
  have h10 : (Int8.ofInt 10).toInt32 = (10 : Int32) := by decide
  have it : zi_in (nI t) 7 = true := zm_in ht (by decide)
  have ct : (nI t).toNatClampNeg = t := nI_clamp (by omega)
  have jf : zi_in (nI f) 7 = true := zm_in hf (by decide)
  have cf : (nI f).toNatClampNeg = f := nI_clamp (by omega)
  have key : ∃ r h', ze_G (D + 1) 7 none zc_X6_copyTree 14 [(3, .int (nI 0)), (0, .ref 232), (1, .int (nI f)), (2, .int (nI t))] [] (zm_mk (zu_cq μ f t 0 0)) r h' ∧ (r = none ∧ zm_mk (zu_cq μ f t 24 240) = h') := by
    refine ze_loop (Q := fun i L hp => i ≤ 24 ∧ zi_nl L = true ∧ zi_get L 0 = some (.ref 232) ∧ zi_get L 1 = some (.int (nI f)) ∧ zi_get L 2 = some (.int (nI t)) ∧ zi_get L 3 = some (.int (nI i)) ∧ zm_mk (zu_cq μ f t i (10 * i)) = hp) (R := fun r h' => r = none ∧ zm_mk (zu_cq μ f t 24 240) = h') 24 ?_ ?_ 24 0 _ _ (by omega) ⟨by omega, rfl, rfl, rfl, rfl, rfl, rfl⟩
    · rintro i0 L _ hi0 ⟨-, nl, g0, g1, g2, g3, rfl⟩
      left
      have ia : zi_in (nI (24 * t + i0)) 168 = true := zm_in (by omega) (by decide)
      have ca : (nI (24 * t + i0)).toNatClampNeg = 24 * t + i0 := nI_clamp (by omega)
      have ib : zi_in (nI (24 * f + i0)) 168 = true := zm_in (by omega) (by decide)
      have cb : (nI (24 * f + i0)).toNatClampNeg = 24 * f + i0 := nI_clamp (by omega)
      have ma : (10 : Int32) * nI (24 * t + i0) = nI (10 * (24 * t + i0)) := nI_mul10 (by omega)
      have mb : (10 : Int32) * nI (24 * f + i0) = nI (10 * (24 * f + i0)) := nI_mul10 (by omega)
      have inner : ∃ L' h', ze_S (D + 1) 7 none zc_X6_copyTree 121 (zi_set (zi_set (zi_set L 4 (.int (nI (24 * f + i0)))) 5 (.int (nI (24 * t + i0)))) 6 (.int (nI 0))) [] (zm_mk (zu_cq μ f t (i0 + 1) (10 * i0 + 0))) 160 L' [] h' ∧ (zi_nl L' = true ∧ zi_get L' 0 = some (.ref 232) ∧ zi_get L' 1 = some (.int (nI f)) ∧ zi_get L' 2 = some (.int (nI t)) ∧ zi_get L' 3 = some (.int (nI i0)) ∧ zm_mk (zu_cq μ f t (i0 + 1) (10 * (i0 + 1))) = h') := by
        have z0 : zi_nl (zi_set (zi_set (zi_set L 4 (.int (nI (24 * f + i0)))) 5 (.int (nI (24 * t + i0)))) 6 (.int (nI 0))) = true := by simp (maxDischargeDepth := 9) [zi_get_ne, zi_nl_i, zi_nl_r, zi_get_set_eq, nl]
        have z1 : zi_get (zi_set (zi_set (zi_set L 4 (.int (nI (24 * f + i0)))) 5 (.int (nI (24 * t + i0)))) 6 (.int (nI 0))) 0 = some (.ref 232) := by simp (maxDischargeDepth := 9) [zi_get_ne, zi_nl_i, zi_nl_r, zi_get_set_eq, nl, g0]
        have z2 : zi_get (zi_set (zi_set (zi_set L 4 (.int (nI (24 * f + i0)))) 5 (.int (nI (24 * t + i0)))) 6 (.int (nI 0))) 1 = some (.int (nI f)) := by simp (maxDischargeDepth := 9) [zi_get_ne, zi_nl_i, zi_nl_r, zi_get_set_eq, nl, g1]
        have z3 : zi_get (zi_set (zi_set (zi_set L 4 (.int (nI (24 * f + i0)))) 5 (.int (nI (24 * t + i0)))) 6 (.int (nI 0))) 2 = some (.int (nI t)) := by simp (maxDischargeDepth := 9) [zi_get_ne, zi_nl_i, zi_nl_r, zi_get_set_eq, nl, g2]
        have z4 : zi_get (zi_set (zi_set (zi_set L 4 (.int (nI (24 * f + i0)))) 5 (.int (nI (24 * t + i0)))) 6 (.int (nI 0))) 3 = some (.int (nI i0)) := by simp (maxDischargeDepth := 9) [zi_get_ne, zi_nl_i, zi_nl_r, zi_get_set_eq, nl, g3]
        have z5 : zi_get (zi_set (zi_set (zi_set L 4 (.int (nI (24 * f + i0)))) 5 (.int (nI (24 * t + i0)))) 6 (.int (nI 0))) 4 = some (.int (nI (24 * f + i0))) := by simp (maxDischargeDepth := 9) [zi_get_ne, zi_nl_i, zi_nl_r, zi_get_set_eq, nl]
        have z6 : zi_get (zi_set (zi_set (zi_set L 4 (.int (nI (24 * f + i0)))) 5 (.int (nI (24 * t + i0)))) 6 (.int (nI 0))) 5 = some (.int (nI (24 * t + i0))) := by simp (maxDischargeDepth := 9) [zi_get_ne, zi_nl_i, zi_nl_r, zi_get_set_eq, nl]
        have z7 : zi_get (zi_set (zi_set (zi_set L 4 (.int (nI (24 * f + i0)))) 5 (.int (nI (24 * t + i0)))) 6 (.int (nI 0))) 6 = some (.int (nI 0)) := zi_get_set_eq
        generalize zi_set (zi_set (zi_set L 4 (.int (nI (24 * f + i0)))) 5 (.int (nI (24 * t + i0)))) 6 (.int (nI 0)) = L0 at z0 z1 z2 z3 z4 z5 z6 z7
        refine ze_loopS (Q := fun i L hp => i ≤ 10 ∧ zi_nl L = true ∧ zi_get L 0 = some (.ref 232) ∧ zi_get L 1 = some (.int (nI f)) ∧ zi_get L 2 = some (.int (nI t)) ∧ zi_get L 3 = some (.int (nI i0)) ∧ zi_get L 4 = some (.int (nI (24 * f + i0))) ∧ zi_get L 5 = some (.int (nI (24 * t + i0))) ∧ zi_get L 6 = some (.int (nI i)) ∧ ∃ ξ : zm_M, zm_mk ξ = hp ∧ (ξ = zu_cq μ f t (i0 + 1) (10 * i0 + i)) ∧ (True)) (R := fun L' h' => zi_nl L' = true ∧ zi_get L' 0 = some (.ref 232) ∧ zi_get L' 1 = some (.int (nI f)) ∧ zi_get L' 2 = some (.int (nI t)) ∧ zi_get L' 3 = some (.int (nI i0)) ∧ zm_mk (zu_cq μ f t (i0 + 1) (10 * (i0 + 1))) = h') 10 ?_ ?_ 10 0 _ _ (by omega) ⟨by omega, z0, z1, z2, z3, z4, z5, z6, z7, _, rfl, rfl, trivial⟩
        · rintro i L _ hi ⟨-, nl, g0, g1, g2, g3, g4, g5, g6, ξ, rfl, hξ, hq⟩
          subst hξ
          have c1 : ¬ (10 : Int32) ≤ nI i := nI_ge (b := 10) hi (by decide)
          have ij : zi_in (nI (10 * (24 * t + i0) + i)) 1680 = true := zm_in (by omega) (by decide)
          have cj : (nI (10 * (24 * t + i0) + i)).toNatClampNeg = 10 * (24 * t + i0) + i := nI_clamp (by omega)
          have ik : zi_in (nI (10 * (24 * f + i0) + i)) 1680 = true := zm_in (by omega) (by decide)
          have ck : (nI (10 * (24 * f + i0) + i)).toNatClampNeg = 10 * (24 * f + i0) + i := nI_clamp (by omega)
          have sv : zu_cq μ f t (i0 + 1) (10 * i0 + i) 248 (10 * (24 * f + i0) + i) = μ 248 (10 * (24 * f + i0) + i) := zu_cq_src hft (by omega) (by omega) (Or.inr ⟨rfl, by omega, by omega⟩)
          have e1 := zu_cq_1 (μ := μ) (f := f) (t := t) (p := i0 + 1) (q := 10 * i0 + i)
          rw [show 240 * t + (10 * i0 + i) = 10 * (24 * t + i0) + i by omega, show 240 * f + (10 * i0 + i) = 10 * (24 * f + i0) + i by omega] at e1
          refine ⟨zi_set L 6 (.int (nI (i + 1))), zm_mk (zu_cq μ f t (i0 + 1) (10 * i0 + (i + 1))), ⟨0, 21, fun F m hF => ?_⟩, by omega, ?_, ?_, ?_, ?_, ?_, ?_, ?_, zi_get_set_eq, _, rfl, rfl, trivial⟩
          · simp (maxDischargeDepth := 9) [zg_0, zg_aload_n, zg_bipush, zg_getfield, zg_goto, zg_iadd, zg_iaload, zg_iastore, zg_iconst, zg_if_icmp, zg_iinc, zg_iload, zg_iload_n, zg_imul, zg_invokestatic, zg_istore, zg_istore_n, zg_return, zf_X6_copyTree, zi_ld, zi_lda, zi_cmp, zi_retOk, zi_isI, zi_f3, zi_cr, zi_ci, zi_cn, zi_get_ne, zi_nl_i, zi_nl_r, zi_get_set_eq, nl, g0, g1, g2, g3, g4, g5, g6, h10, c1, zM_g, ma, mb, nI_add, zm_iald (k := 0) zM_A248 ik, ck, sv, zm_iast zM_A248 ij, cj, e1, Nat.add_assoc, nI_1]
          · simp (maxDischargeDepth := 9) [zi_get_ne, zi_nl_i, zi_nl_r, zi_get_set_eq, nl]
          · simp (maxDischargeDepth := 9) [zi_get_ne, zi_nl_i, zi_nl_r, zi_get_set_eq, nl, g0]
          · simp (maxDischargeDepth := 9) [zi_get_ne, zi_nl_i, zi_nl_r, zi_get_set_eq, nl, g1]
          · simp (maxDischargeDepth := 9) [zi_get_ne, zi_nl_i, zi_nl_r, zi_get_set_eq, nl, g2]
          · simp (maxDischargeDepth := 9) [zi_get_ne, zi_nl_i, zi_nl_r, zi_get_set_eq, nl, g3]
          · simp (maxDischargeDepth := 9) [zi_get_ne, zi_nl_i, zi_nl_r, zi_get_set_eq, nl, g4]
          · simp (maxDischargeDepth := 9) [zi_get_ne, zi_nl_i, zi_nl_r, zi_get_set_eq, nl, g5]
        · rintro L _ ⟨-, nl, g0, g1, g2, g3, g4, g5, g6, ξ, rfl, hξ, hq⟩
          have c1 : (10 : Int32) ≤ nI 10 := by decide
          subst hξ
          rw [show 10 * (i0 + 1) = 10 * i0 + 10 by omega]
          refine ⟨L, _, ⟨0, 3, fun F m hF => ?_⟩, nl, g0, g1, g2, g3, rfl⟩
          simp [zg_0, zg_aload_n, zg_bipush, zg_getfield, zg_goto, zg_iadd, zg_iaload, zg_iastore, zg_iconst, zg_if_icmp, zg_iinc, zg_iload, zg_iload_n, zg_imul, zg_invokestatic, zg_istore, zg_istore_n, zg_return, zf_X6_copyTree, zi_ld, zi_lda, zi_cmp, zi_retOk, zi_isI, zi_f3, zi_cr, zi_ci, zi_cn, g6, h10, c1]
      obtain ⟨L', h', S1, nl', g0', g1', g2', g3', rfl⟩ := inner
      refine ⟨zi_set L' 3 (.int (nI (i0 + 1))), zm_mk (zu_cq μ f t (i0 + 1) (10 * (i0 + 1))), ?_, by omega, ?_, ?_, ?_, ?_, zi_get_set_eq, rfl⟩
      · obtain ⟨N1, E1⟩ := ze_spot (h := zm_mk (zu_cq μ f t i0 (10 * i0))) (n := i0) D hf
        obtain ⟨N2, E2⟩ := ze_spot (h := zm_mk (zu_cq μ f t i0 (10 * i0))) (n := i0) D ht
        refine ze_S.trans (p2 := 121) (s2 := []) ⟨N1 + N2, 61, fun F m hF => ?_⟩ (S1.trans ⟨0, 2, fun F m hF => ?_⟩)
        · have c1 : ¬ (24 : Int32) ≤ nI i0 := nI_ge (b := 24) hi0 (by decide)
          have sv : ∀ c, zu_c6 c = true → zu_cq μ f t i0 (10 * i0) c (24 * f + i0) = μ c (24 * f + i0) := fun c hc => zu_cq_src hft (by omega) (by omega) (Or.inl ⟨hc, by omega, by omega⟩)
          have e6 := zu_cq_6 (μ := μ) (f := f) (t := t) (i := i0) (q := 10 * i0) _ rfl _ rfl
          rw [show 10 * i0 + 0 = 10 * i0 from rfl, ← e6]
          have s4 := sv 244 rfl
          have s5 := sv 245 rfl
          have s6 := sv 246 rfl
          have s7 := sv 247 rfl
          have s9 := sv 249 rfl
          have s0 := sv 250 rfl
          generalize zu_cq μ f t i0 (10 * i0) = M at *
          have r5 : ∀ y, zm_up M 244 (24 * t + i0) y 245 (24 * f + i0) = μ 245 (24 * f + i0) := fun y => (zm_up_ne (by omega)).trans s5
          have r6 : ∀ y z, zm_up (zm_up M 244 (24 * t + i0) y) 245 (24 * t + i0) z 246 (24 * f + i0) = μ 246 (24 * f + i0) := fun y z => ((zm_up_ne (by omega)).trans (zm_up_ne (by omega))).trans s6
          have r7 : ∀ y z w, zm_up (zm_up (zm_up M 244 (24 * t + i0) y) 245 (24 * t + i0) z) 246 (24 * t + i0) w 247 (24 * f + i0) = μ 247 (24 * f + i0) := fun y z w => (((zm_up_ne (by omega)).trans (zm_up_ne (by omega))).trans (zm_up_ne (by omega))).trans s7
          have r9 : ∀ y z w v, zm_up (zm_up (zm_up (zm_up M 244 (24 * t + i0) y) 245 (24 * t + i0) z) 246 (24 * t + i0) w) 247 (24 * t + i0) v 249 (24 * f + i0) = μ 249 (24 * f + i0) := fun y z w v => ((((zm_up_ne (by omega)).trans (zm_up_ne (by omega))).trans (zm_up_ne (by omega))).trans (zm_up_ne (by omega))).trans s9
          have r0 : ∀ y z w v u, zm_up (zm_up (zm_up (zm_up (zm_up M 244 (24 * t + i0) y) 245 (24 * t + i0) z) 246 (24 * t + i0) w) 247 (24 * t + i0) v) 249 (24 * t + i0) u 250 (24 * f + i0) = μ 250 (24 * f + i0) := fun y z w v u => (((((zm_up_ne (by omega)).trans (zm_up_ne (by omega))).trans (zm_up_ne (by omega))).trans (zm_up_ne (by omega))).trans (zm_up_ne (by omega))).trans s0
          simp (maxDischargeDepth := 9) [zg_0, zg_aload_n, zg_bipush, zg_getfield, zg_goto, zg_iadd, zg_iaload, zg_iastore, zg_iconst, zg_if_icmp, zg_iinc, zg_iload, zg_iload_n, zg_imul, zg_invokestatic, zg_istore, zg_istore_n, zg_return, zf_X6_copyTree, zi_ld, zi_lda, zi_cmp, zi_retOk, zi_isI, zi_f3, zi_cr, zi_ci, zi_cn, zi_get_ne, zi_nl_i, zi_nl_r, zi_get_set_eq, nl, g0, g1, g2, g3, h24, c1, zM_g, zq_Mod_spot, E1 F (by omega), E2 F (by omega), zm_iald (k := 0) zM_A244 ib, zm_iald (k := 0) zM_A245 ib, zm_iald (k := 0) zM_A246 ib, zm_iald (k := 0) zM_A247 ib, zm_iald (k := 0) zM_A249 ib, zm_iald (k := 0) zM_A250 ib, cb, s4, r5, r6, r7, r9, r0, zm_iast zM_A244 ia, zm_iast zM_A245 ia, zm_iast zM_A246 ia, zm_iast zM_A247 ia, zm_iast zM_A249 ia, zm_iast zM_A250 ia, ca, nI_0]
        · simp [zg_0, zg_aload_n, zg_bipush, zg_getfield, zg_goto, zg_iadd, zg_iaload, zg_iastore, zg_iconst, zg_if_icmp, zg_iinc, zg_iload, zg_iload_n, zg_imul, zg_invokestatic, zg_istore, zg_istore_n, zg_return, zf_X6_copyTree, zi_ld, zi_lda, zi_cmp, zi_retOk, zi_isI, zi_f3, zi_cr, zi_ci, zi_cn, g3', nI_1]
      · have nl := nl'
        simp (maxDischargeDepth := 9) [zi_get_ne, zi_nl_i, zi_nl_r, zi_get_set_eq, nl]
      · have nl := nl'
        simp (maxDischargeDepth := 9) [zi_get_ne, zi_nl_i, zi_nl_r, zi_get_set_eq, nl, g0']
      · have nl := nl'
        simp (maxDischargeDepth := 9) [zi_get_ne, zi_nl_i, zi_nl_r, zi_get_set_eq, nl, g1']
      · have nl := nl'
        simp (maxDischargeDepth := 9) [zi_get_ne, zi_nl_i, zi_nl_r, zi_get_set_eq, nl, g2']
    · rintro L _ ⟨-, nl, g0, g1, g2, g3, rfl⟩
      have c1 : (24 : Int32) ≤ nI 24 := by decide
      refine ⟨none, _, ⟨0, 4, fun F m hF => ?_⟩, rfl, rfl⟩
      simp [zg_0, zg_aload_n, zg_bipush, zg_getfield, zg_goto, zg_iadd, zg_iaload, zg_iastore, zg_iconst, zg_if_icmp, zg_iinc, zg_iload, zg_iload_n, zg_imul, zg_invokestatic, zg_istore, zg_istore_n, zg_return, zf_X6_copyTree, zi_ld, zi_lda, zi_cmp, zi_retOk, zi_isI, zi_f3, zi_cr, zi_ci, zi_cn, g3, h24, c1]
  obtain ⟨r, h', G, rfl, rfl⟩ := key
  refine ze_in [(0, .ref 232), (1, .int (nI f)), (2, .int (nI t))] zq_Mod_copyTree (Nat.le_of_ble_eq_true rfl) rfl (ze_S.end ⟨0, 10, fun F m hF => ?_⟩ G)
  simp [zg_0, zg_aload_n, zg_bipush, zg_getfield, zg_goto, zg_iadd, zg_iaload, zg_iastore, zg_iconst, zg_if_icmp, zg_iinc, zg_iload, zg_iload_n, zg_imul, zg_invokestatic, zg_istore, zg_istore_n, zg_return, zf_X6_copyTree, zi_ld, zi_lda, zi_cmp, zi_retOk, zi_isI, zi_f3, zi_cr, zi_ci, zi_cn, zi_get, zi_set, zM_g, zm_iald (k := 0) zM_A243 jf, cf, zm_iast zM_A243 it, ct, nI_0, zu_cq_0]
end ZCT
