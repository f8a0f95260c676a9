/-! the reference: gone, what was on the screen is kept and goes -/
/-- the windows below i have gone to o -/
def zv_gw (μ ξ : zm_M) (s o i : Nat) : Prop :=
  (∀ k, k < i → ξ 252 (10 * s + k) = if zv_ons μ s k = true then 1 else 0) ∧ (∀ k, k < 10 → ξ 238 k = if decide (k < i) = true ∧ zv_ons μ s k = true then nI o else μ 238 k) ∧
  ∀ c d, c ≠ 238 → c ≠ 239 → c ≠ 240 → c ≠ 253 → c ≠ 254 → ¬ (c = 252 ∧ 10 * s ≤ d ∧ d < 10 * s + 10) → ξ c d = μ c d
section ZWJ
variable {μ ξ ν : zm_M} {row stk : List Nat} {us : Nat → zy_F}
theorem zv_gw_s {s o i : Nat} (hi : i < 10) (h : zv_gw μ ξ s o i) (e1 : ν 252 (10 * s + i) = if zv_ons μ s i = true then 1 else 0) (e2 : ν 238 i = if zv_ons μ s i = true then nI o else ξ 238 i) (e3 : ∀ c d, c ≠ 239 → c ≠ 240 → c ≠ 253 → c ≠ 254 → ¬ (c = 252 ∧ d = 10 * s + i) → ¬ (c = 238 ∧ d = i) → ν c d = ξ c d) : zv_gw μ ν s o (i + 1) := by
  obtain ⟨h1, h2, h3⟩ := h
  refine ⟨fun k hk => ?_, fun k hk => ?_, fun c d a1 a2 a3 a4 a5 a6 => ?_⟩
  · by_cases e : k = i
    · rw [e]; exact e1
    · rw [e3 _ _ (by decide) (by decide) (by decide) (by decide) (by omega) (by omega)]
      exact h1 k (by omega)
  · by_cases e : k = i
    · rw [e, e2, h2 i hi]
      by_cases c : zv_ons μ s i = true
      · rw [if_pos c, if_pos ⟨by simp, c⟩]
      · rw [if_neg c, if_neg (fun z => c z.2), if_neg (fun z => c z.2)]
    · rw [e3 _ _ (by decide) (by decide) (by decide) (by decide) (by omega) (by omega), h2 k hk]
      have : decide (k < i + 1) = decide (k < i) := by
        rw [decide_eq_decide]
        omega
      rw [this]
  · rw [e3 c d a2 a3 a4 a5 (by omega) (fun z => a1 z.1)]
    exact h3 c d a1 a2 a3 a4 a5 a6
set_option maxRecDepth 100000 in
/-- 215 to 306: is it on the screen; what is kept of it -/
theorem zv_gnS (D : Nat) {s k : Nat} (hs : s < 3) (hk : k < 10) (hkd : μ 234 k = 0 ∨ μ 234 k = 1 ∨ μ 234 k = 2 ∨ μ 234 k = 3 ∨ μ 234 k = 4) (L : zi_Lc) (nl : zi_nl L = true) (g0 : zi_get L 0 = some (.ref 232)) (g1 : zi_get L 1 = some (.int (nI s))) (g5 : zi_get L 5 = some (.int (nI k))) :
    ∃ ν, ze_S D 7 (some .int) zc_X6_gone 215 L [] (zm_mk μ) 306 (zi_set L 6 (.int (if zv_ons μ s k = true then 1 else 0))) [] (zm_mk ν) ∧ ν 252 (10 * s + k) = (if zv_ons μ s k = true then 1 else 0) ∧ ∀ c d, c ≠ 253 → c ≠ 254 → ¬ (c = 252 ∧ d = 10 * s + k) → ν c d = μ c d := by
  have h10 : (Int8.ofInt 10).toInt32 = (10 : Int32) := by decide
  have ik : zi_in (nI k) 10 = true := zm_in hk (by decide)
  have ck : (nI k).toNatClampNeg = k := nI_clamp (by omega)
  have mk : (10 : Int32) * nI s = nI (10 * s) := nI_mul10 (by omega)
  have ij : zi_in (nI (10 * s + k)) 30 = true := zm_in (by omega) (by decide)
  have cj : (nI (10 * s + k)).toNatClampNeg = 10 * s + k := nI_clamp (by omega)
  have key : ∀ b : Int32, (b = 0 ∨ b = 1) → ∃ ν, ze_S D 7 (some .int) zc_X6_gone 252 L [.int b] (zm_mk μ) 306 (zi_set L 6 (.int b)) [] (zm_mk ν) ∧ ν 252 (10 * s + k) = b ∧ ∀ c d, c ≠ 253 → c ≠ 254 → ¬ (c = 252 ∧ d = 10 * s + k) → ν c d = μ c d := fun b hb => by
    have v1 : zm_up μ 252 (10 * s + k) b 239 k = μ 239 k := zm_up_ne (by omega)
    have v2 : zm_up (zm_up μ 252 (10 * s + k) b) 253 (10 * s + k) (μ 239 k) 240 k = μ 240 k := by rw [zm_up_ne (by omega), zm_up_ne (by omega)]
    refine ⟨zm_up (zm_up (zm_up μ 252 (10 * s + k) b) 253 (10 * s + k) (μ 239 k)) 254 (10 * s + k) (μ 240 k), ⟨0, 34, fun F m hF => ?_⟩, by rw [zm_up_ne (by omega), zm_up_ne (by omega), zm_up_eq], fun c d a b c => by rw [zm_up_ne (by omega), zm_up_ne (by omega), zm_up_ne (by omega)]⟩
    simp (maxDischargeDepth := 9) [zg_0, zg_aload_n, zg_bastore, zg_bipush, zg_getfield, zg_goto, zg_iadd, zg_iaload, zg_iastore, zg_iconst, zg_ifCond, zg_if_icmp, zg_iinc, zg_iload, zg_iload_n, zg_imul, zg_invokestatic, zg_invokevirtual, zg_ireturn, zg_istore, zg_istore_n, zg_ldc, zf_X6_gone, zi_ld, zi_lda, zi_cmp, zi_retOk, zi_isI, zi_f3, zi_cr, zi_ci, zi_cn, zi_get_ne, zi_nl_i, zi_nl_r, zi_get_set_eq, nl, g0, g1, g5, h10, zM_g, mk, nI_add, zm_bast zM_A252 ij hb, zm_iast zM_A253 ij, zm_iast zM_A254 ij, cj, zm_iald (k := 0) zM_A239 ik, zm_iald (k := 0) zM_A240 ik, ck, v1, v2]
  by_cases c0 : μ 234 k = 0
  · have e : zv_ons μ s k = false := decide_eq_false (fun z => by rw [c0] at z; exact absurd z.1 (by decide))
    have c0' : μ 234 k ≤ 0 := by rw [c0]; decide
    obtain ⟨ν, S, q⟩ := key 0 (Or.inl rfl)
    rw [e]
    refine ⟨ν, ze_S.trans ⟨0, 6, fun F m hF => ?_⟩ S, q⟩
    simp (maxDischargeDepth := 9) [zg_0, zg_aload_n, zg_bastore, zg_bipush, zg_getfield, zg_goto, zg_iadd, zg_iaload, zg_iastore, zg_iconst, zg_ifCond, zg_if_icmp, zg_iinc, zg_iload, zg_iload_n, zg_imul, zg_invokestatic, zg_invokevirtual, zg_ireturn, zg_istore, zg_istore_n, zg_ldc, zf_X6_gone, zi_ld, zi_lda, zi_cmp, zi_retOk, zi_isI, zi_f3, zi_cr, zi_ci, zi_cn, zi_get_ne, zi_nl_i, zi_nl_r, zi_get_set_eq, nl, g0, g1, g5, zM_g, zm_iald (k := 0) zM_A234 ik, ck, c0']
  · have c0p : 0 < μ 234 k := by
      rcases hkd with e | e | e | e | e
      · exact absurd e c0
      all_goals rw [e]; decide
    have c0' : ¬ μ 234 k ≤ 0 := Int32.not_le.mpr c0p
    by_cases c4 : μ 234 k = 4
    · have e : zv_ons μ s k = false := decide_eq_false (fun z => z.2.1 c4)
      have c9 : ¬ (4 : Int32) ≤ 0 := by decide
      obtain ⟨ν, S, q⟩ := key 0 (Or.inl rfl)
      rw [e]
      refine ⟨ν, ze_S.trans ⟨0, 12, fun F m hF => ?_⟩ S, q⟩
      simp (maxDischargeDepth := 9) [zg_0, zg_aload_n, zg_bastore, zg_bipush, zg_getfield, zg_goto, zg_iadd, zg_iaload, zg_iastore, zg_iconst, zg_ifCond, zg_if_icmp, zg_iinc, zg_iload, zg_iload_n, zg_imul, zg_invokestatic, zg_invokevirtual, zg_ireturn, zg_istore, zg_istore_n, zg_ldc, zf_X6_gone, zi_ld, zi_lda, zi_cmp, zi_retOk, zi_isI, zi_f3, zi_cr, zi_ci, zi_cn, zi_get_ne, zi_nl_i, zi_nl_r, zi_get_set_eq, nl, g0, g1, g5, zM_g, zm_iald (k := 0) zM_A234 ik, ck, c4, c9]
    · by_cases c8 : μ 238 k = nI s
      · have e : zv_ons μ s k = true := decide_eq_true ⟨c0p, c4, c8⟩
        obtain ⟨ν, S, q⟩ := key 1 (Or.inr rfl)
        rw [e]
        refine ⟨ν, ze_S.trans ⟨0, 19, fun F m hF => ?_⟩ S, q⟩
        simp (maxDischargeDepth := 9) [zg_0, zg_aload_n, zg_bastore, zg_bipush, zg_getfield, zg_goto, zg_iadd, zg_iaload, zg_iastore, zg_iconst, zg_ifCond, zg_if_icmp, zg_iinc, zg_iload, zg_iload_n, zg_imul, zg_invokestatic, zg_invokevirtual, zg_ireturn, zg_istore, zg_istore_n, zg_ldc, zf_X6_gone, zi_ld, zi_lda, zi_cmp, zi_retOk, zi_isI, zi_f3, zi_cr, zi_ci, zi_cn, zi_get_ne, zi_nl_i, zi_nl_r, zi_get_set_eq, nl, g0, g1, g5, zM_g, zm_iald (k := 0) zM_A234 ik, zm_iald (k := 0) zM_A238 ik, ck, c0', c4, c8]
      · have e : zv_ons μ s k = false := decide_eq_false (fun z => c8 z.2.2)
        obtain ⟨ν, S, q⟩ := key 0 (Or.inl rfl)
        rw [e]
        refine ⟨ν, ze_S.trans ⟨0, 18, fun F m hF => ?_⟩ S, q⟩
        simp (maxDischargeDepth := 9) [zg_0, zg_aload_n, zg_bastore, zg_bipush, zg_getfield, zg_goto, zg_iadd, zg_iaload, zg_iastore, zg_iconst, zg_ifCond, zg_if_icmp, zg_iinc, zg_iload, zg_iload_n, zg_imul, zg_invokestatic, zg_invokevirtual, zg_ireturn, zg_istore, zg_istore_n, zg_ldc, zf_X6_gone, zi_ld, zi_lda, zi_cmp, zi_retOk, zi_isI, zi_f3, zi_cr, zi_ci, zi_cn, zi_get_ne, zi_nl_i, zi_nl_r, zi_get_set_eq, nl, g0, g1, g5, zM_g, zm_iald (k := 0) zM_A234 ik, zm_iald (k := 0) zM_A238 ik, ck, c0', c4, c8]
set_option maxRecDepth 100000 in
theorem zv_gnC (D : Nat) {s o n0 : Nat} (hs : s < 3) (ho : o < 3) (hkd : ∀ k, k < 10 → μ 234 k = 0 ∨ μ 234 k = 1 ∨ μ 234 k = 2 ∨ μ 234 k = 3 ∨ μ 234 k = 4) (L0 : zi_Lc) (nl0 : zi_nl L0 = true) (a0 : zi_get L0 0 = some (.ref 232)) (a1 : zi_get L0 1 = some (.int (nI s))) (a2 : zi_get L0 2 = some (.int (nI o))) (a3 : zi_get L0 3 = some (.int (nI n0))) (a5 : zi_get L0 5 = some (.int (nI 0))) :
    ∃ L' h', ze_S (D + 2) 7 (some .int) zc_X6_gone 208 L0 [] (zm_mk μ) 365 L' [] h' ∧ (zi_nl L' = true ∧ zi_get L' 0 = some (.ref 232) ∧ zi_get L' 1 = some (.int (nI s)) ∧ zi_get L' 2 = some (.int (nI o)) ∧ zi_get L' 3 = some (.int (nI n0)) ∧ ∃ ν, zm_mk ν = h' ∧ zv_gw μ ν s o 10) := by
  have h10 : (Int8.ofInt 10).toInt32 = (10 : Int32) := by decide
  refine ze_loopS (Q := fun i L hp => i ≤ 10 ∧ zi_nl L = true ∧ zi_get L 0 = some (.ref 232) ∧ zi_get L 1 = some (.int (nI s)) ∧ zi_get L 2 = some (.int (nI o)) ∧ zi_get L 3 = some (.int (nI n0)) ∧ zi_get L 5 = some (.int (nI i)) ∧ ∃ ξ : zm_M, zm_mk ξ = hp ∧ (zv_gw μ ξ s o i) ∧ (True)) (R := fun L' h' => zi_nl L' = true ∧ zi_get L' 0 = some (.ref 232) ∧ zi_get L' 1 = some (.int (nI s)) ∧ zi_get L' 2 = some (.int (nI o)) ∧ zi_get L' 3 = some (.int (nI n0)) ∧ ∃ ν, zm_mk ν = h' ∧ zv_gw μ ν s o 10) 10 ?_ ?_ 10 0 _ _ (by omega) ⟨by omega, nl0, a0, a1, a2, a3, a5, μ, rfl, ⟨(fun _ q => absurd q (by omega)), (fun k _ => (if_neg (fun z => absurd (of_decide_eq_true z.1) (by omega))).symm), fun _ _ _ _ _ _ _ _ => rfl⟩, trivial⟩
  · rintro i L _ hi ⟨-, nl, g0, g1, g2, g3, g5, ξ, rfl, f1, hq⟩
    have c1 : ¬ (10 : Int32) ≤ nI i := nI_ge (b := 10) hi (by decide)
    have ik : zi_in (nI i) 10 = true := zm_in hi (by decide)
    have ck : (nI i).toNatClampNeg = i := nI_clamp (by omega)
    have x4 : ∀ d, ξ 234 d = μ 234 d := fun d => f1.2.2 _ _ (by decide) (by decide) (by decide) (by decide) (by decide) (by omega)
    have x8 : ξ 238 i = μ 238 i := by
      rw [f1.2.1 i hi, if_neg (fun z => absurd (of_decide_eq_true z.1) (Nat.lt_irrefl _))]
    have eo : zv_ons ξ s i = zv_ons μ s i := by
      unfold zv_ons
      rw [x4, x8]
    obtain ⟨ν1, S1, p1, p2⟩ := zv_gnS (μ := ξ) (D + 2) hs hi (by rw [x4]; exact hkd i hi) L nl g0 g1 g5
    rw [eo] at S1 p1
    have fin : ∀ ν2 L2, ze_S (D + 2) 7 (some .int) zc_X6_gone 306 (zi_set L 6 (.int (if zv_ons μ s i = true then 1 else 0))) [] (zm_mk ν1) 359 L2 [] (zm_mk ν2) → L2 = zi_set L 6 (.int (if zv_ons μ s i = true then 1 else 0)) → (ν2 238 i = if zv_ons μ s i = true then nI o else ν1 238 i) → (∀ c d, c ≠ 239 → c ≠ 240 → ¬ (c = 238 ∧ d = i) → ν2 c d = ν1 c d) → ∃ L' h', ze_S (D + 2) 7 (some .int) zc_X6_gone 208 L [] (zm_mk ξ) 208 L' [] h' ∧ (i + 1 ≤ 10 ∧ zi_nl L' = true ∧ zi_get L' 0 = some (.ref 232) ∧ zi_get L' 1 = some (.int (nI s)) ∧ zi_get L' 2 = some (.int (nI o)) ∧ zi_get L' 3 = some (.int (nI n0)) ∧ zi_get L' 5 = some (.int (nI (i + 1))) ∧ ∃ ξ : zm_M, zm_mk ξ = h' ∧ zv_gw μ ξ s o (i + 1) ∧ True) := fun ν2 L2 S2 e2 q1 q2 => by
      subst e2
      have hg := zv_gw_s hi f1 (ν := ν2) (by rw [q2 _ _ (by decide) (by decide) (by omega)]; exact p1) (by rw [q1, p2 _ _ (by decide) (by decide) (by omega)]) (fun c d r1 r2 r3 r4 r5 r6 => (q2 c d r1 r2 r6).trans (p2 c d r3 r4 r5))
      generalize (if zv_ons μ s i = true then (1 : Int32) else 0) = b at S1 S2
      refine ⟨zi_set (zi_set L 6 (.int b)) 5 (.int (nI (i + 1))), zm_mk ν2, ze_S.trans ⟨0, 3, fun F m hF => ?_⟩ (S1.trans (S2.trans ⟨0, 2, fun F m hF => ?_⟩)), by omega, ?_, ?_, ?_, ?_, ?_, zi_get_set_eq, ν2, rfl, hg, trivial⟩
      · simp (maxDischargeDepth := 9) [zg_0, zg_aload_n, zg_bastore, zg_bipush, zg_getfield, zg_goto, zg_iadd, zg_iaload, zg_iastore, zg_iconst, zg_ifCond, zg_if_icmp, zg_iinc, zg_iload, zg_iload_n, zg_imul, zg_invokestatic, zg_invokevirtual, zg_ireturn, zg_istore, zg_istore_n, zg_ldc, zf_X6_gone, zi_ld, zi_lda, zi_cmp, zi_retOk, zi_isI, zi_f3, zi_cr, zi_ci, zi_cn, zi_get_ne, zi_nl_i, zi_nl_r, zi_get_set_eq, nl, g0, g5, h10, c1]
      · simp (maxDischargeDepth := 9) [zg_0, zg_aload_n, zg_bastore, zg_bipush, zg_getfield, zg_goto, zg_iadd, zg_iaload, zg_iastore, zg_iconst, zg_ifCond, zg_if_icmp, zg_iinc, zg_iload, zg_iload_n, zg_imul, zg_invokestatic, zg_invokevirtual, zg_ireturn, zg_istore, zg_istore_n, zg_ldc, zf_X6_gone, zi_ld, zi_lda, zi_cmp, zi_retOk, zi_isI, zi_f3, zi_cr, zi_ci, zi_cn, zi_get_ne, zi_nl_i, zi_nl_r, zi_get_set_eq, nl, g0, g5, nI_1]
      · simp (maxDischargeDepth := 9) [zi_get_ne, zi_nl_i, zi_nl_r, zi_get_set_eq, nl]
      · simp (maxDischargeDepth := 9) [zi_get_ne, zi_nl_i, zi_nl_r, zi_get_set_eq, nl, g0]
      · simp (maxDischargeDepth := 9) [zi_get_ne, zi_nl_i, zi_nl_r, zi_get_set_eq, nl, g1]
      · simp (maxDischargeDepth := 9) [zi_get_ne, zi_nl_i, zi_nl_r, zi_get_set_eq, nl, g2]
      · simp (maxDischargeDepth := 9) [zi_get_ne, zi_nl_i, zi_nl_r, zi_get_set_eq, nl, g3]
    have y4 : ν1 234 i = μ 234 i := (p2 _ _ (by decide) (by decide) (by omega)).trans (x4 i)
    by_cases c2 : zv_ons μ s i = true
    · rw [if_pos c2] at fin
      have n1 : ¬ (1 : Int32) = 0 := by decide
      by_cases c3 : μ 234 i = 1
      · refine fin (zm_up ν1 238 i (nI o)) _ ⟨0, 14, fun F m hF => ?_⟩ rfl (by rw [zm_up_eq, if_pos c2]) (fun c d r1 r2 r3 => zm_up_ne r3)
        simp (maxDischargeDepth := 9) [zg_0, zg_aload_n, zg_bastore, zg_bipush, zg_getfield, zg_goto, zg_iadd, zg_iaload, zg_iastore, zg_iconst, zg_ifCond, zg_if_icmp, zg_iinc, zg_iload, zg_iload_n, zg_imul, zg_invokestatic, zg_invokevirtual, zg_ireturn, zg_istore, zg_istore_n, zg_ldc, zf_X6_gone, zi_ld, zi_lda, zi_cmp, zi_retOk, zi_isI, zi_f3, zi_cr, zi_ci, zi_cn, zi_get_ne, zi_nl_i, zi_nl_r, zi_get_set_eq, nl, g0, g2, g5, n1, zM_g, zm_iald (k := 0) zM_A234 ik, zm_iast zM_A238 ik, ck, y4, c3]
      · obtain ⟨pp, qq, ⟨N1, E1⟩, -, -⟩ := ze_MputAt (μ := ν1) D hi ho (ν1 239 i) (ν1 240 i)
        obtain ⟨lc, cM⟩ := zM_c (μ := ν1)
        refine fin (zv_put ν1 i o pp qq) _ ⟨N1, 22, fun F m hF => ?_⟩ rfl (by unfold zv_put; rw [zm_up_ne (by omega), zm_up_ne (by omega), zm_up_eq, if_pos c2]) (fun c d r1 r2 r3 => by unfold zv_put; rw [zm_up_ne (by omega), zm_up_ne (by omega), zm_up_ne r3])
        simp (maxDischargeDepth := 9) [zg_0, zg_aload_n, zg_bastore, zg_bipush, zg_getfield, zg_goto, zg_iadd, zg_iaload, zg_iastore, zg_iconst, zg_ifCond, zg_if_icmp, zg_iinc, zg_iload, zg_iload_n, zg_imul, zg_invokestatic, zg_invokevirtual, zg_ireturn, zg_istore, zg_istore_n, zg_ldc, zf_X6_gone, zi_ld, zi_lda, zi_cmp, zi_retOk, zi_isI, zi_f3, zi_cr, zi_ci, zi_cn, zi_get_ne, zi_nl_i, zi_nl_r, zi_get_set_eq, nl, g0, g2, g5, n1, zM_g, zm_iald (k := 0) zM_A234 ik, zm_iald (k := 0) zM_A239 ik, zm_iald (k := 0) zM_A240 ik, ck, y4, c3, cM, zq_Mod_putAt, E1 F (by omega)]
    · rw [if_neg c2] at fin
      refine fin ν1 _ ⟨0, 4, fun F m hF => ?_⟩ rfl (by rw [if_neg c2]) (fun c d _ _ _ => rfl)
      simp (maxDischargeDepth := 9) [zg_0, zg_aload_n, zg_bastore, zg_bipush, zg_getfield, zg_goto, zg_iadd, zg_iaload, zg_iastore, zg_iconst, zg_ifCond, zg_if_icmp, zg_iinc, zg_iload, zg_iload_n, zg_imul, zg_invokestatic, zg_invokevirtual, zg_ireturn, zg_istore, zg_istore_n, zg_ldc, zf_X6_gone, zi_ld, zi_lda, zi_cmp, zi_retOk, zi_isI, zi_f3, zi_cr, zi_ci, zi_cn, zi_get_ne, zi_nl_i, zi_nl_r, zi_get_set_eq, nl, g0, g5]
  · rintro L _ ⟨-, nl, g0, g1, g2, g3, g5, ξ, rfl, f1, hq⟩
    have c1 : (10 : Int32) ≤ nI 10 := by decide
    refine ⟨L, zm_mk ξ, ⟨0, 3, fun F m hF => ?_⟩, nl, g0, g1, g2, g3, ξ, rfl, f1⟩
    simp (maxDischargeDepth := 9) [zg_0, zg_aload_n, zg_bastore, zg_bipush, zg_getfield, zg_goto, zg_iadd, zg_iaload, zg_iastore, zg_iconst, zg_ifCond, zg_if_icmp, zg_iinc, zg_iload, zg_iload_n, zg_imul, zg_invokestatic, zg_invokevirtual, zg_ireturn, zg_istore, zg_istore_n, zg_ldc, zf_X6_gone, zi_ld, zi_lda, zi_cmp, zi_retOk, zi_isI, zi_f3, zi_cr, zi_ci, zi_cn, zi_get_ne, zi_nl_i, zi_nl_r, zi_get_set_eq, nl, g0, g1, g2, g3, g5, h10, c1, nI_1]
end ZWJ
