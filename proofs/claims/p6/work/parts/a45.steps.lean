/-! the reference: steps -/
/-- who is reached is tiled -/
def zv_far (μ ν : zm_M) : Prop := ∀ k, k < 10 → ν 261 k < 0 ∨ μ 234 k = 1
section ZWD
variable {μ : zm_M} {row stk : List Nat} {us : Nat → zy_F}
theorem zv_stS (D : Nat) (h : zR μ row stk us) {k d : Nat} (hk : k < 10) (hd : d < 10) : ∀ (j sd : Nat) (L : zi_Lc) (ν : zm_M), sd + j = 4 → zi_nl L = true → zi_get L 0 = some (.ref 232) → zi_get L 3 = some (.int (nI d)) → zi_get L 4 = some (.int (nI k)) → zi_get L 5 = some (.int (nI sd)) → zM_fr μ ν → zv_far μ ν →
    ∃ L' ν', ze_S (D + 28) 7 (some .int) zc_X6_steps 89 L [] (zm_mk ν) 147 L' [] (zm_mk ν') ∧ zi_nl L' = true ∧ (∀ q, q ≠ 5 → q ≠ 6 → zi_get L' q = zi_get L q) ∧ zM_fr μ ν' ∧ zv_far μ ν' := by
  have ik : zi_in (nI k) 10 = true := zm_in hk (by decide)
  have ck : (nI k).toNatClampNeg = k := nI_clamp (by omega)
  intro j
  induction j with
  | zero =>
    intro sd L ν hj nl g0 g3 g4 g5 f hv
    have : sd = 4 := by omega
    subst this
    have c1 : (4 : Int32) ≤ nI 4 := by decide
    refine ⟨L, ν, ⟨0, 3, fun F m hF => ?_⟩, nl, fun _ _ _ => rfl, f, hv⟩
    simp (maxDischargeDepth := 9) [zg_0, zg_aload_n, zg_bipush, zg_getfield, zg_goto, zg_iadd, zg_iaload, zg_iastore, zg_iconst, zg_ifCond, zg_if_icmp, zg_iinc, zg_iload, zg_iload_n, zg_invokevirtual, zg_ireturn, zg_istore, zg_istore_n, zg_ldc, zg_ldc_w, zf_X6_steps, zi_ld, zi_lda, zi_cmp, zi_retOk, zi_isI, zi_f3, zi_cr, zi_ci, zi_cn, zi_get_ne, zi_nl_i, zi_nl_r, zi_get_set_eq, nl, g0, g3, g4, g5, c1]
  | succ j ih =>
    intro sd L ν hj nl g0 g3 g4 g5 f hv
    have c1 : ¬ (4 : Int32) ≤ nI sd := nI_ge (b := 4) (by omega) (by decide)
    by_cases c2 : ν 261 k = nI d
    · have ht : μ 234 k = 1 := (hv k hk).resolve_left (fun e => by rw [c2] at e; exact nI_pos (by omega) e)
      have hR := h.fr f
      obtain ⟨s, m, ab, hs, hh, -, -⟩ := zR_til h hk ht
      obtain ⟨lc, cM⟩ := zM_c (μ := ν)
      have e4 : ν 234 k = 1 := by rw [f _ _ (by omega) (by decide) (by decide) (by omega)]; exact ht
      have e8 : ν 238 k = nI s := by rw [f _ _ (by omega) (by decide) (by decide) (by omega)]; exact hh
      obtain ⟨ξ, lo, -, -, g, ⟨-, N4, E4⟩ | ⟨i, hi, hit, -, N4, E4⟩⟩ := zR_nbr D hR hk hs (by omega : sd < 4) e4 e8
      · have f' : zM_fr μ ξ := f.trans g.fr
        have hv' : zv_far μ ξ := fun q hq => by rw [g _ _ (by omega) (by omega)]; exact hv q hq
        have m1 : (-1 : Int32) < 0 := by decide
        obtain ⟨L', ν', S, nl', q1, q2, q3⟩ := ih (sd + 1) (zi_set (zi_set L 6 (.int (-1))) 5 (.int (nI (sd + 1)))) ξ (by omega) (by simp (maxDischargeDepth := 9) [zi_get_ne, zi_nl_i, zi_nl_r, zi_get_set_eq, nl]) (by simp (maxDischargeDepth := 9) [zi_get_ne, zi_nl_i, zi_nl_r, zi_get_set_eq, nl, g0]) (by simp (maxDischargeDepth := 9) [zi_get_ne, zi_nl_i, zi_nl_r, zi_get_set_eq, nl, g3]) (by simp (maxDischargeDepth := 9) [zi_get_ne, zi_nl_i, zi_nl_r, zi_get_set_eq, nl, g4]) zi_get_set_eq f' hv'
        refine ⟨L', ν', ze_S.trans ⟨N4, 18, fun F m hF => ?_⟩ S, nl', fun q a b => ?_, q2, q3⟩
        · simp (maxDischargeDepth := 9) [zg_0, zg_aload_n, zg_bipush, zg_getfield, zg_goto, zg_iadd, zg_iaload, zg_iastore, zg_iconst, zg_ifCond, zg_if_icmp, zg_iinc, zg_iload, zg_iload_n, zg_invokevirtual, zg_ireturn, zg_istore, zg_istore_n, zg_ldc, zg_ldc_w, zf_X6_steps, zi_ld, zi_lda, zi_cmp, zi_retOk, zi_isI, zi_f3, zi_cr, zi_ci, zi_cn, zi_get_ne, zi_nl_i, zi_nl_r, zi_get_set_eq, nl, g0, g3, g4, g5, c1, zM_g, zm_iald (k := 0) zM_A261 ik, ck, c2, cM, zq_Mod_neighbourOf, E4 F (by omega), m1, nI_1]
        · rw [q1 q a b]
          simp (maxDischargeDepth := 9) [zi_get_ne, zi_nl_i, zi_nl_r, zi_get_set_eq, nl, a, b]
      · have f' : zM_fr μ ξ := f.trans g.fr
        have hv' : zv_far μ ξ := fun q hq => by rw [g _ _ (by omega) (by omega)]; exact hv q hq
        have m1 : ¬ nI i < 0 := nI_pos (by omega)
        have ii : zi_in (nI i) 10 = true := zm_in hi (by decide)
        have ci : (nI i).toNatClampNeg = i := nI_clamp (by omega)
        rw [f _ _ (by omega) (by decide) (by decide) (by omega)] at hit
        by_cases c3 : 0 ≤ ξ 261 i
        · obtain ⟨L', ν', S, nl', q1, q2, q3⟩ := ih (sd + 1) (zi_set (zi_set L 6 (.int (nI i))) 5 (.int (nI (sd + 1)))) ξ (by omega) (by simp (maxDischargeDepth := 9) [zi_get_ne, zi_nl_i, zi_nl_r, zi_get_set_eq, nl]) (by simp (maxDischargeDepth := 9) [zi_get_ne, zi_nl_i, zi_nl_r, zi_get_set_eq, nl, g0]) (by simp (maxDischargeDepth := 9) [zi_get_ne, zi_nl_i, zi_nl_r, zi_get_set_eq, nl, g3]) (by simp (maxDischargeDepth := 9) [zi_get_ne, zi_nl_i, zi_nl_r, zi_get_set_eq, nl, g4]) zi_get_set_eq f' hv'
          refine ⟨L', ν', ze_S.trans ⟨N4, 23, fun F m hF => ?_⟩ S, nl', fun q a b => ?_, q2, q3⟩
          · simp (maxDischargeDepth := 9) [zg_0, zg_aload_n, zg_bipush, zg_getfield, zg_goto, zg_iadd, zg_iaload, zg_iastore, zg_iconst, zg_ifCond, zg_if_icmp, zg_iinc, zg_iload, zg_iload_n, zg_invokevirtual, zg_ireturn, zg_istore, zg_istore_n, zg_ldc, zg_ldc_w, zf_X6_steps, zi_ld, zi_lda, zi_cmp, zi_retOk, zi_isI, zi_f3, zi_cr, zi_ci, zi_cn, zi_get_ne, zi_nl_i, zi_nl_r, zi_get_set_eq, nl, g0, g3, g4, g5, c1, zM_g, zm_iald (k := 0) zM_A261 ik, zm_iald (k := 0) zM_A261 ii, ck, ci, c2, c3, cM, zq_Mod_neighbourOf, E4 F (by omega), m1, nI_1]
          · rw [q1 q a b]
            simp (maxDischargeDepth := 9) [zi_get_ne, zi_nl_i, zi_nl_r, zi_get_set_eq, nl, a, b]
        · have f2 : zM_fr μ (zm_up ξ 261 i (nI (d + 1))) := f'.trans (fun c e _ _ _ a => zm_up_ne (by omega))
          have hv2 : zv_far μ (zm_up ξ 261 i (nI (d + 1))) := fun q hq => by
            by_cases e : q = i
            · rw [e]; exact Or.inr hit
            · rw [zm_up_ne (by omega)]; exact hv' q hq
          obtain ⟨L', ν', S, nl', q1, q2, q3⟩ := ih (sd + 1) (zi_set (zi_set L 6 (.int (nI i))) 5 (.int (nI (sd + 1)))) _ (by omega) (by simp (maxDischargeDepth := 9) [zi_get_ne, zi_nl_i, zi_nl_r, zi_get_set_eq, nl]) (by simp (maxDischargeDepth := 9) [zi_get_ne, zi_nl_i, zi_nl_r, zi_get_set_eq, nl, g0]) (by simp (maxDischargeDepth := 9) [zi_get_ne, zi_nl_i, zi_nl_r, zi_get_set_eq, nl, g3]) (by simp (maxDischargeDepth := 9) [zi_get_ne, zi_nl_i, zi_nl_r, zi_get_set_eq, nl, g4]) zi_get_set_eq f2 hv2
          refine ⟨L', ν', ze_S.trans ⟨N4, 30, fun F m hF => ?_⟩ S, nl', fun q a b => ?_, q2, q3⟩
          · simp (maxDischargeDepth := 9) [zg_0, zg_aload_n, zg_bipush, zg_getfield, zg_goto, zg_iadd, zg_iaload, zg_iastore, zg_iconst, zg_ifCond, zg_if_icmp, zg_iinc, zg_iload, zg_iload_n, zg_invokevirtual, zg_ireturn, zg_istore, zg_istore_n, zg_ldc, zg_ldc_w, zf_X6_steps, zi_ld, zi_lda, zi_cmp, zi_retOk, zi_isI, zi_f3, zi_cr, zi_ci, zi_cn, zi_get_ne, zi_nl_i, zi_nl_r, zi_get_set_eq, nl, g0, g3, g4, g5, c1, zM_g, zm_iald (k := 0) zM_A261 ik, zm_iald (k := 0) zM_A261 ii, zm_iast zM_A261 ii, ck, ci, c2, c3, cM, zq_Mod_neighbourOf, E4 F (by omega), m1, nI_1]
          · rw [q1 q a b]
            simp (maxDischargeDepth := 9) [zi_get_ne, zi_nl_i, zi_nl_r, zi_get_set_eq, nl, a, b]
    · refine ⟨L, ν, ⟨0, 9, fun F m hF => ?_⟩, nl, fun _ _ _ => rfl, f, hv⟩
      simp (maxDischargeDepth := 9) [zg_0, zg_aload_n, zg_bipush, zg_getfield, zg_goto, zg_iadd, zg_iaload, zg_iastore, zg_iconst, zg_ifCond, zg_if_icmp, zg_iinc, zg_iload, zg_iload_n, zg_invokevirtual, zg_ireturn, zg_istore, zg_istore_n, zg_ldc, zg_ldc_w, zf_X6_steps, zi_ld, zi_lda, zi_cmp, zi_retOk, zi_isI, zi_f3, zi_cr, zi_ci, zi_cn, zi_get_ne, zi_nl_i, zi_nl_r, zi_get_set_eq, nl, g0, g3, g4, g5, c1, zM_g, zm_iald (k := 0) zM_A261 ik, ck, c2]
theorem zv_stK (D : Nat) (h : zR μ row stk us) {d b : Nat} (hd : d < 10) {ν0 : zm_M} (f0 : zM_fr μ ν0) (v0 : zv_far μ ν0) (L0 : zi_Lc) (nl0 : zi_nl L0 = true) (a0 : zi_get L0 0 = some (.ref 232)) (a2 : zi_get L0 2 = some (.int (nI b))) (a3 : zi_get L0 3 = some (.int (nI d))) (a4 : zi_get L0 4 = some (.int (nI 0))) :
    ∃ L' h', ze_S (D + 28) 7 (some .int) zc_X6_steps 79 L0 [] (zm_mk ν0) 153 L' [] h' ∧ (zi_nl L' = true ∧ zi_get L' 0 = some (.ref 232) ∧ zi_get L' 2 = some (.int (nI b)) ∧ zi_get L' 3 = some (.int (nI d)) ∧ ∃ ν, zm_mk ν = h' ∧ zM_fr μ ν ∧ zv_far μ ν) := by
  have h10 : (Int8.ofInt 10).toInt32 = (10 : Int32) := by decide
  refine ze_loopS (Q := fun i L hp => i ≤ 10 ∧ zi_nl L = true ∧ zi_get L 0 = some (.ref 232) ∧ zi_get L 2 = some (.int (nI b)) ∧ zi_get L 3 = some (.int (nI d)) ∧ zi_get L 4 = some (.int (nI i)) ∧ ∃ ξ : zm_M, zm_mk ξ = hp ∧ (zM_fr μ ξ) ∧ (zv_far μ ξ) ∧ (True)) (R := fun L' h' => zi_nl L' = true ∧ zi_get L' 0 = some (.ref 232) ∧ zi_get L' 2 = some (.int (nI b)) ∧ zi_get L' 3 = some (.int (nI d)) ∧ ∃ ν, zm_mk ν = h' ∧ zM_fr μ ν ∧ zv_far μ ν) 10 ?_ ?_ 10 0 _ _ (by omega) ⟨by omega, nl0, a0, a2, a3, a4, ν0, rfl, f0, v0, trivial⟩
  · rintro i L _ hi ⟨-, nl, g0, g2, g3, g4, ξ, rfl, f1, f2, hq⟩
    have c1 : ¬ (10 : Int32) ≤ nI i := nI_ge (b := 10) hi (by decide)
    obtain ⟨L', ν', S, nl', q1, q2, q3⟩ := zv_stS D h hi hd 4 0 (zi_set L 5 (.int (nI 0))) ξ rfl (by simp (maxDischargeDepth := 9) [zi_get_ne, zi_nl_i, zi_nl_r, zi_get_set_eq, nl]) (by simp (maxDischargeDepth := 9) [zi_get_ne, zi_nl_i, zi_nl_r, zi_get_set_eq, nl, g0]) (by simp (maxDischargeDepth := 9) [zi_get_ne, zi_nl_i, zi_nl_r, zi_get_set_eq, nl, g3]) (by simp (maxDischargeDepth := 9) [zi_get_ne, zi_nl_i, zi_nl_r, zi_get_set_eq, nl, g4]) zi_get_set_eq f1 f2
    have b0 : zi_get L' 0 = some (.ref 232) := by
      rw [q1 0 (by decide) (by decide)]
      simp (maxDischargeDepth := 9) [zi_get_ne, zi_nl_i, zi_nl_r, zi_get_set_eq, nl, g0]
    have b2 : zi_get L' 2 = some (.int (nI b)) := by
      rw [q1 2 (by decide) (by decide)]
      simp (maxDischargeDepth := 9) [zi_get_ne, zi_nl_i, zi_nl_r, zi_get_set_eq, nl, g2]
    have b3 : zi_get L' 3 = some (.int (nI d)) := by
      rw [q1 3 (by decide) (by decide)]
      simp (maxDischargeDepth := 9) [zi_get_ne, zi_nl_i, zi_nl_r, zi_get_set_eq, nl, g3]
    have b4 : zi_get L' 4 = some (.int (nI i)) := by
      rw [q1 4 (by decide) (by decide)]
      simp (maxDischargeDepth := 9) [zi_get_ne, zi_nl_i, zi_nl_r, zi_get_set_eq, nl, g4]
    refine ⟨zi_set L' 4 (.int (nI (i + 1))), zm_mk ν', ze_S.trans ⟨0, 5, fun F m hF => ?_⟩ (S.trans ⟨0, 2, fun F m hF => ?_⟩), by omega, ?_, ?_, ?_, ?_, zi_get_set_eq, ν', rfl, q2, q3, trivial⟩
    · simp (maxDischargeDepth := 9) [zg_0, zg_aload_n, zg_bipush, zg_getfield, zg_goto, zg_iadd, zg_iaload, zg_iastore, zg_iconst, zg_ifCond, zg_if_icmp, zg_iinc, zg_iload, zg_iload_n, zg_invokevirtual, zg_ireturn, zg_istore, zg_istore_n, zg_ldc, zg_ldc_w, zf_X6_steps, zi_ld, zi_lda, zi_cmp, zi_retOk, zi_isI, zi_f3, zi_cr, zi_ci, zi_cn, zi_get_ne, zi_nl_i, zi_nl_r, zi_get_set_eq, nl, g0, g2, g3, g4, h10, c1, nI_0]
    · have nl := nl'
      simp (maxDischargeDepth := 9) [zg_0, zg_aload_n, zg_bipush, zg_getfield, zg_goto, zg_iadd, zg_iaload, zg_iastore, zg_iconst, zg_ifCond, zg_if_icmp, zg_iinc, zg_iload, zg_iload_n, zg_invokevirtual, zg_ireturn, zg_istore, zg_istore_n, zg_ldc, zg_ldc_w, zf_X6_steps, zi_ld, zi_lda, zi_cmp, zi_retOk, zi_isI, zi_f3, zi_cr, zi_ci, zi_cn, zi_get_ne, zi_nl_i, zi_nl_r, zi_get_set_eq, nl, b0, b2, b3, b4, nI_1]
    · have nl := nl'
      simp (maxDischargeDepth := 9) [zi_get_ne, zi_nl_i, zi_nl_r, zi_get_set_eq, nl]
    · have nl := nl'
      simp (maxDischargeDepth := 9) [zi_get_ne, zi_nl_i, zi_nl_r, zi_get_set_eq, nl, b0]
    · have nl := nl'
      simp (maxDischargeDepth := 9) [zi_get_ne, zi_nl_i, zi_nl_r, zi_get_set_eq, nl, b2]
    · have nl := nl'
      simp (maxDischargeDepth := 9) [zi_get_ne, zi_nl_i, zi_nl_r, zi_get_set_eq, nl, b3]
  · rintro L _ ⟨-, nl, g0, g2, g3, g4, ξ, rfl, f1, f2, hq⟩
    have c1 : (10 : Int32) ≤ nI 10 := by decide
    refine ⟨L, zm_mk ξ, ⟨0, 3, fun F m hF => ?_⟩, nl, g0, g2, g3, ξ, rfl, f1, f2⟩
    simp (maxDischargeDepth := 9) [zg_0, zg_aload_n, zg_bipush, zg_getfield, zg_goto, zg_iadd, zg_iaload, zg_iastore, zg_iconst, zg_ifCond, zg_if_icmp, zg_iinc, zg_iload, zg_iload_n, zg_invokevirtual, zg_ireturn, zg_istore, zg_istore_n, zg_ldc, zg_ldc_w, zf_X6_steps, zi_ld, zi_lda, zi_cmp, zi_retOk, zi_isI, zi_f3, zi_cr, zi_ci, zi_cn, zi_get_ne, zi_nl_i, zi_nl_r, zi_get_set_eq, nl, g0, g2, g3, g4, h10, c1, nI_1]
theorem zv_stD (D : Nat) (h : zR μ row stk us) {b : Nat} {ν0 : zm_M} (f0 : zM_fr μ ν0) (v0 : zv_far μ ν0) (L0 : zi_Lc) (nl0 : zi_nl L0 = true) (a0 : zi_get L0 0 = some (.ref 232)) (a2 : zi_get L0 2 = some (.int (nI b))) (a3 : zi_get L0 3 = some (.int (nI 0))) :
    ∃ L' h', ze_S (D + 28) 7 (some .int) zc_X6_steps 70 L0 [] (zm_mk ν0) 159 L' [] h' ∧ (zi_nl L' = true ∧ zi_get L' 0 = some (.ref 232) ∧ zi_get L' 2 = some (.int (nI b)) ∧ ∃ ν, zm_mk ν = h' ∧ zM_fr μ ν) := by
  have h10 : (Int8.ofInt 10).toInt32 = (10 : Int32) := by decide
  refine ze_loopS (Q := fun i L hp => i ≤ 10 ∧ zi_nl L = true ∧ zi_get L 0 = some (.ref 232) ∧ zi_get L 2 = some (.int (nI b)) ∧ zi_get L 3 = some (.int (nI i)) ∧ ∃ ξ : zm_M, zm_mk ξ = hp ∧ (zM_fr μ ξ) ∧ (zv_far μ ξ) ∧ (True)) (R := fun L' h' => zi_nl L' = true ∧ zi_get L' 0 = some (.ref 232) ∧ zi_get L' 2 = some (.int (nI b)) ∧ ∃ ν, zm_mk ν = h' ∧ zM_fr μ ν) 10 ?_ ?_ 10 0 _ _ (by omega) ⟨by omega, nl0, a0, a2, a3, ν0, rfl, f0, v0, trivial⟩
  · rintro i L _ hi ⟨-, nl, g0, g2, g3, ξ, rfl, f1, f2, hq⟩
    have c1 : ¬ (10 : Int32) ≤ nI i := nI_ge (b := 10) hi (by decide)
    obtain ⟨L', h', S, nl', b0, b2, b3, ν', rfl, q2, q3⟩ := zv_stK (b := b) D h hi f1 f2 (zi_set L 4 (.int (nI 0))) (by simp (maxDischargeDepth := 9) [zi_get_ne, zi_nl_i, zi_nl_r, zi_get_set_eq, nl]) (by simp (maxDischargeDepth := 9) [zi_get_ne, zi_nl_i, zi_nl_r, zi_get_set_eq, nl, g0]) (by simp (maxDischargeDepth := 9) [zi_get_ne, zi_nl_i, zi_nl_r, zi_get_set_eq, nl, g2]) (by simp (maxDischargeDepth := 9) [zi_get_ne, zi_nl_i, zi_nl_r, zi_get_set_eq, nl, g3]) zi_get_set_eq
    refine ⟨zi_set L' 3 (.int (nI (i + 1))), zm_mk ν', ze_S.trans ⟨0, 5, fun F m hF => ?_⟩ (S.trans ⟨0, 2, fun F m hF => ?_⟩), by omega, ?_, ?_, ?_, zi_get_set_eq, ν', rfl, q2, q3, trivial⟩
    · simp (maxDischargeDepth := 9) [zg_0, zg_aload_n, zg_bipush, zg_getfield, zg_goto, zg_iadd, zg_iaload, zg_iastore, zg_iconst, zg_ifCond, zg_if_icmp, zg_iinc, zg_iload, zg_iload_n, zg_invokevirtual, zg_ireturn, zg_istore, zg_istore_n, zg_ldc, zg_ldc_w, zf_X6_steps, zi_ld, zi_lda, zi_cmp, zi_retOk, zi_isI, zi_f3, zi_cr, zi_ci, zi_cn, zi_get_ne, zi_nl_i, zi_nl_r, zi_get_set_eq, nl, g0, g2, g3, h10, c1, nI_0]
    · have nl := nl'
      simp (maxDischargeDepth := 9) [zg_0, zg_aload_n, zg_bipush, zg_getfield, zg_goto, zg_iadd, zg_iaload, zg_iastore, zg_iconst, zg_ifCond, zg_if_icmp, zg_iinc, zg_iload, zg_iload_n, zg_invokevirtual, zg_ireturn, zg_istore, zg_istore_n, zg_ldc, zg_ldc_w, zf_X6_steps, zi_ld, zi_lda, zi_cmp, zi_retOk, zi_isI, zi_f3, zi_cr, zi_ci, zi_cn, zi_get_ne, zi_nl_i, zi_nl_r, zi_get_set_eq, nl, b0, b2, b3, nI_1]
    · have nl := nl'
      simp (maxDischargeDepth := 9) [zi_get_ne, zi_nl_i, zi_nl_r, zi_get_set_eq, nl]
    · have nl := nl'
      simp (maxDischargeDepth := 9) [zi_get_ne, zi_nl_i, zi_nl_r, zi_get_set_eq, nl, b0]
    · have nl := nl'
      simp (maxDischargeDepth := 9) [zi_get_ne, zi_nl_i, zi_nl_r, zi_get_set_eq, nl, b2]
  · rintro L _ ⟨-, nl, g0, g2, g3, ξ, rfl, f1, f2, hq⟩
    have c1 : (10 : Int32) ≤ nI 10 := by decide
    refine ⟨L, zm_mk ξ, ⟨0, 3, fun F m hF => ?_⟩, nl, g0, g2, ξ, rfl, f1⟩
    simp (maxDischargeDepth := 9) [zg_0, zg_aload_n, zg_bipush, zg_getfield, zg_goto, zg_iadd, zg_iaload, zg_iastore, zg_iconst, zg_ifCond, zg_if_icmp, zg_iinc, zg_iload, zg_iload_n, zg_invokevirtual, zg_ireturn, zg_istore, zg_istore_n, zg_ldc, zg_ldc_w, zf_X6_steps, zi_ld, zi_lda, zi_cmp, zi_retOk, zi_isI, zi_f3, zi_cr, zi_ci, zi_cn, zi_get_ne, zi_nl_i, zi_nl_r, zi_get_set_eq, nl, g0, g2, g3, h10, c1, nI_1]
theorem zv_stF (D : Nat) {a b : Nat} (ha : a < 10) (L0 : zi_Lc) (nl0 : zi_nl L0 = true) (a0 : zi_get L0 0 = some (.ref 232)) (a1 : zi_get L0 1 = some (.int (nI a))) (a2 : zi_get L0 2 = some (.int (nI b))) (a3 : zi_get L0 3 = some (.int (nI 0))) :
    ∃ L' h', ze_S D 7 (some .int) zc_X6_steps 40 L0 [] (zm_mk μ) 68 L' [] h' ∧ (zi_nl L' = true ∧ zi_get L' 0 = some (.ref 232) ∧ zi_get L' 2 = some (.int (nI b)) ∧ ∃ ν, zm_mk ν = h' ∧ (∀ c e, c ≠ 261 → ν c e = μ c e) ∧ ∀ j, j < 10 → ν 261 j < 0 ∨ j = a) := by
  have h10 : (Int8.ofInt 10).toInt32 = (10 : Int32) := by decide
  have m1 : (-1 : Int32) < 0 := by decide
  refine ze_loopS (Q := fun i L hp => i ≤ 10 ∧ zi_nl L = true ∧ zi_get L 0 = some (.ref 232) ∧ zi_get L 1 = some (.int (nI a)) ∧ zi_get L 2 = some (.int (nI b)) ∧ zi_get L 3 = some (.int (nI i)) ∧ ∃ ξ : zm_M, zm_mk ξ = hp ∧ (∀ c e, c ≠ 261 → ξ c e = μ c e) ∧ (∀ j, j < i → ξ 261 j < 0 ∨ j = a) ∧ (True)) (R := fun L' h' => zi_nl L' = true ∧ zi_get L' 0 = some (.ref 232) ∧ zi_get L' 2 = some (.int (nI b)) ∧ ∃ ν, zm_mk ν = h' ∧ (∀ c e, c ≠ 261 → ν c e = μ c e) ∧ ∀ j, j < 10 → ν 261 j < 0 ∨ j = a) 10 ?_ ?_ 10 0 _ _ (by omega) ⟨by omega, nl0, a0, a1, a2, a3, μ, rfl, (fun _ _ _ => rfl), (fun _ q => absurd q (by omega)), trivial⟩
  · rintro i L _ hi ⟨-, nl, g0, g1, g2, g3, ξ, rfl, f1, f2, hq⟩
    have c1 : ¬ (10 : Int32) ≤ nI i := nI_ge (b := 10) hi (by decide)
    have ik : zi_in (nI i) 10 = true := zm_in hi (by decide)
    have ck : (nI i).toNatClampNeg = i := nI_clamp (by omega)
    have f1' : ∀ x c e, c ≠ 261 → zm_up ξ 261 i x c e = μ c e := fun x c e q => (zm_up_ne (by omega)).trans (f1 c e q)
    by_cases c2 : i = a
    · subst c2
      have f2' : ∀ j, j < i + 1 → zm_up ξ 261 i 0 261 j < 0 ∨ j = i := fun j hj => by
        by_cases e : j = i
        · exact Or.inr e
        · rw [zm_up_ne (by omega)]; exact f2 j (by omega)
      refine ⟨zi_set L 3 (.int (nI (i + 1))), zm_mk (zm_up ξ 261 i 0), ⟨0, 14, fun F m hF => ?_⟩, by omega, ?_, ?_, ?_, ?_, zi_get_set_eq, _, rfl, f1' 0, f2', trivial⟩
      · simp (maxDischargeDepth := 9) [zg_0, zg_aload_n, zg_bipush, zg_getfield, zg_goto, zg_iadd, zg_iaload, zg_iastore, zg_iconst, zg_ifCond, zg_if_icmp, zg_iinc, zg_iload, zg_iload_n, zg_invokevirtual, zg_ireturn, zg_istore, zg_istore_n, zg_ldc, zg_ldc_w, zf_X6_steps, zi_ld, zi_lda, zi_cmp, zi_retOk, zi_isI, zi_f3, zi_cr, zi_ci, zi_cn, zi_get_ne, zi_nl_i, zi_nl_r, zi_get_set_eq, nl, g0, g1, g2, g3, h10, c1, zM_g, zm_iast zM_A261 ik, ck, nI_1]
      · simp (maxDischargeDepth := 9) [zi_get_ne, zi_nl_i, zi_nl_r, zi_get_set_eq, nl]
      · simp (maxDischargeDepth := 9) [zi_get_ne, zi_nl_i, zi_nl_r, zi_get_set_eq, nl, g0]
      · simp (maxDischargeDepth := 9) [zi_get_ne, zi_nl_i, zi_nl_r, zi_get_set_eq, nl, g1]
      · simp (maxDischargeDepth := 9) [zi_get_ne, zi_nl_i, zi_nl_r, zi_get_set_eq, nl, g2]
    · have c2' : ¬ nI i = nI a := fun e => c2 ((nI_eq (by omega) (by omega)).mp e)
      have f2' : ∀ j, j < i + 1 → zm_up ξ 261 i (-1) 261 j < 0 ∨ j = a := fun j hj => by
        by_cases e : j = i
        · rw [e, zm_up_eq]; exact Or.inl m1
        · rw [zm_up_ne (by omega)]; exact f2 j (by omega)
      refine ⟨zi_set L 3 (.int (nI (i + 1))), zm_mk (zm_up ξ 261 i (-1)), ⟨0, 13, fun F m hF => ?_⟩, by omega, ?_, ?_, ?_, ?_, zi_get_set_eq, _, rfl, f1' (-1), f2', trivial⟩
      · simp (maxDischargeDepth := 9) [zg_0, zg_aload_n, zg_bipush, zg_getfield, zg_goto, zg_iadd, zg_iaload, zg_iastore, zg_iconst, zg_ifCond, zg_if_icmp, zg_iinc, zg_iload, zg_iload_n, zg_invokevirtual, zg_ireturn, zg_istore, zg_istore_n, zg_ldc, zg_ldc_w, zf_X6_steps, zi_ld, zi_lda, zi_cmp, zi_retOk, zi_isI, zi_f3, zi_cr, zi_ci, zi_cn, zi_get_ne, zi_nl_i, zi_nl_r, zi_get_set_eq, nl, g0, g1, g2, g3, h10, c1, c2', zM_g, zm_iast zM_A261 ik, ck, nI_1]
      · simp (maxDischargeDepth := 9) [zi_get_ne, zi_nl_i, zi_nl_r, zi_get_set_eq, nl]
      · simp (maxDischargeDepth := 9) [zi_get_ne, zi_nl_i, zi_nl_r, zi_get_set_eq, nl, g0]
      · simp (maxDischargeDepth := 9) [zi_get_ne, zi_nl_i, zi_nl_r, zi_get_set_eq, nl, g1]
      · simp (maxDischargeDepth := 9) [zi_get_ne, zi_nl_i, zi_nl_r, zi_get_set_eq, nl, g2]
  · rintro L _ ⟨-, nl, g0, g1, g2, g3, ξ, rfl, f1, f2, hq⟩
    have c1 : (10 : Int32) ≤ nI 10 := by decide
    refine ⟨L, zm_mk ξ, ⟨0, 3, fun F m hF => ?_⟩, nl, g0, g2, ξ, rfl, f1, f2⟩
    simp (maxDischargeDepth := 9) [zg_0, zg_aload_n, zg_bipush, zg_getfield, zg_goto, zg_iadd, zg_iaload, zg_iastore, zg_iconst, zg_ifCond, zg_if_icmp, zg_iinc, zg_iload, zg_iload_n, zg_invokevirtual, zg_ireturn, zg_istore, zg_istore_n, zg_ldc, zg_ldc_w, zf_X6_steps, zi_ld, zi_lda, zi_cmp, zi_retOk, zi_isI, zi_f3, zi_cr, zi_ci, zi_cn, zi_get_ne, zi_nl_i, zi_nl_r, zi_get_set_eq, nl, g0, g1, g2, g3, h10, c1, nI_1]
set_option maxRecDepth 100000 in
theorem ze_Msteps (D : Nat) (h : zR μ row stk us) (w x : Int32) : ∃ ν v, ze_E (D + 29) A_Mod_steps [.ref 232, .int w, .int x] (zm_mk μ) (some (.int v)) (zm_mk ν) ∧ zM_fr μ ν := by
  have n1 : Int32.ofInt (-1000000001) = -1000000001 := by decide
  have n2 : Int32.ofInt (-1000000002) = -1000000002 := by decide
  have n5 : Int32.ofInt (-1000000005) = -1000000005 := by decide
  obtain ⟨lc, cM⟩ := zM_c (μ := μ)
  rcases zR_win (D + 26) h w with ⟨a, ha, rfl, a0, N1, E1⟩ | ⟨⟨N1, E1⟩, c0⟩
  · rcases zR_win (D + 26) h x with ⟨b, hb, rfl, b0, N2, E2⟩ | ⟨⟨N2, E2⟩, c0⟩
    · rcases zR_shn (D + 24) h ha with ⟨⟨N3, E3⟩, s, hs, c1, -⟩ | ⟨⟨N3, E3⟩, -⟩
      · rcases zR_shn (D + 24) h hb with ⟨⟨N4, E4⟩, -⟩ | ⟨⟨N4, E4⟩, -⟩
        · obtain ⟨L1, h1, S1, nl1, p0, p2, ν1, rfl, f1, f2⟩ := zv_stF (μ := μ) (b := b) (D + 28) ha [(3, .int (nI 0)), (0, .ref 232), (1, .int (nI a)), (2, .int (nI b))] rfl rfl rfl rfl rfl
          have g1 : zM_fr μ ν1 := fun c e _ _ _ q => f1 c e (by omega)
          have v1 : zv_far μ ν1 := fun j hj => (f2 j hj).imp id (fun e => by rw [e]; exact c1)
          obtain ⟨L2, h2, S2, nl2, q0, q2, ν2, rfl, g2⟩ := zv_stD (b := b) D h g1 v1 (zi_set L1 3 (.int (nI 0))) (zi_nl_i nl1) ((zi_get_ne nl1 (by decide)).trans p0) ((zi_get_ne nl1 (by decide)).trans p2) zi_get_set_eq
          have ib : zi_in (nI b) 10 = true := zm_in hb (by decide)
          have cb : (nI b).toNatClampNeg = b := nI_clamp (by omega)
          have S3 : ze_S (D + 28) 7 (some .int) zc_X6_steps 68 L1 [] (zm_mk ν1) 70 (zi_set L1 3 (.int (nI 0))) [] (zm_mk ν1) := by
            refine ⟨0, 2, fun F m hF => ?_⟩
            simp [zg_0, zg_aload_n, zg_bipush, zg_getfield, zg_goto, zg_iadd, zg_iaload, zg_iastore, zg_iconst, zg_ifCond, zg_if_icmp, zg_iinc, zg_iload, zg_iload_n, zg_invokevirtual, zg_ireturn, zg_istore, zg_istore_n, zg_ldc, zg_ldc_w, zf_X6_steps, zi_ld, zi_lda, zi_cmp, zi_retOk, zi_isI, zi_f3, zi_cr, zi_ci, zi_cn, nI_0]
          have S0 : ze_S (D + 28) 7 (some .int) zc_X6_steps 0 [(0, .ref 232), (1, .int (nI a)), (2, .int (nI b))] [] (zm_mk μ) 40 [(3, .int (nI 0)), (0, .ref 232), (1, .int (nI a)), (2, .int (nI b))] [] (zm_mk μ) := by
            refine ⟨N1 + N2 + N3 + N4, 18, fun F m hF => ?_⟩
            simp [zg_0, zg_aload_n, zg_bipush, zg_getfield, zg_goto, zg_iadd, zg_iaload, zg_iastore, zg_iconst, zg_ifCond, zg_if_icmp, zg_iinc, zg_iload, zg_iload_n, zg_invokevirtual, zg_ireturn, zg_istore, zg_istore_n, zg_ldc, zg_ldc_w, zf_X6_steps, zi_ld, zi_lda, zi_cmp, zi_retOk, zi_isI, zi_f3, zi_cr, zi_ci, zi_cn, zi_get, zi_set, cM, zq_Mod_isWindow, zq_Mod_isShown, E1 F (by omega), E2 F (by omega), E3 F (by omega), E4 F (by omega), nI_0]
          by_cases c5 : ν2 261 b < 0
          · have c5' : ¬ 0 ≤ ν2 261 b := Int32.not_le.mpr c5
            refine ⟨ν2, -1000000005, ze_in [(0, .ref 232), (1, .int (nI a)), (2, .int (nI b))] zq_Mod_steps (Nat.le_of_ble_eq_true rfl) rfl (S0.end (S1.end (S3.end (S2.end ⟨0, 8, fun F m hF => ?_⟩)))), g2⟩
            simp [zg_0, zg_aload_n, zg_bipush, zg_getfield, zg_goto, zg_iadd, zg_iaload, zg_iastore, zg_iconst, zg_ifCond, zg_if_icmp, zg_iinc, zg_iload, zg_iload_n, zg_invokevirtual, zg_ireturn, zg_istore, zg_istore_n, zg_ldc, zg_ldc_w, zf_X6_steps, zi_ld, zi_lda, zi_cmp, zi_retOk, zi_isI, zi_f3, zi_cr, zi_ci, zi_cn, q0, q2, zM_g, zm_iald (k := 0) zM_A261 ib, cb, c5', n5]
          · have c5' : 0 ≤ ν2 261 b := Int32.not_lt.mp c5
            refine ⟨ν2, ν2 261 b, ze_in [(0, .ref 232), (1, .int (nI a)), (2, .int (nI b))] zq_Mod_steps (Nat.le_of_ble_eq_true rfl) rfl (S0.end (S1.end (S3.end (S2.end ⟨0, 10, fun F m hF => ?_⟩)))), g2⟩
            simp [zg_0, zg_aload_n, zg_bipush, zg_getfield, zg_goto, zg_iadd, zg_iaload, zg_iastore, zg_iconst, zg_ifCond, zg_if_icmp, zg_iinc, zg_iload, zg_iload_n, zg_invokevirtual, zg_ireturn, zg_istore, zg_istore_n, zg_ldc, zg_ldc_w, zf_X6_steps, zi_ld, zi_lda, zi_cmp, zi_retOk, zi_isI, zi_f3, zi_cr, zi_ci, zi_cn, q0, q2, zM_g, zm_iald (k := 0) zM_A261 ib, cb, c5']
        · refine ⟨μ, -1000000002, ze_in [(0, .ref 232), (1, .int (nI a)), (2, .int (nI b))] zq_Mod_steps (Nat.le_of_ble_eq_true rfl) rfl ⟨N1 + N2 + N3 + N4, 18, fun F n hF => ?_⟩, zM_fr.refl⟩
          simp [zg_0, zg_aload_n, zg_bipush, zg_getfield, zg_goto, zg_iadd, zg_iaload, zg_iastore, zg_iconst, zg_ifCond, zg_if_icmp, zg_iinc, zg_iload, zg_iload_n, zg_invokevirtual, zg_ireturn, zg_istore, zg_istore_n, zg_ldc, zg_ldc_w, zf_X6_steps, zi_ld, zi_lda, zi_cmp, zi_retOk, zi_isI, zi_f3, zi_cr, zi_ci, zi_cn, zi_get, zi_set, cM, zq_Mod_isWindow, zq_Mod_isShown, E1 F (by omega), E2 F (by omega), E3 F (by omega), E4 F (by omega), n2]
      · refine ⟨μ, -1000000002, ze_in [(0, .ref 232), (1, .int (nI a)), (2, .int (nI b))] zq_Mod_steps (Nat.le_of_ble_eq_true rfl) rfl ⟨N1 + N2 + N3, 14, fun F n hF => ?_⟩, zM_fr.refl⟩
        simp [zg_0, zg_aload_n, zg_bipush, zg_getfield, zg_goto, zg_iadd, zg_iaload, zg_iastore, zg_iconst, zg_ifCond, zg_if_icmp, zg_iinc, zg_iload, zg_iload_n, zg_invokevirtual, zg_ireturn, zg_istore, zg_istore_n, zg_ldc, zg_ldc_w, zf_X6_steps, zi_ld, zi_lda, zi_cmp, zi_retOk, zi_isI, zi_f3, zi_cr, zi_ci, zi_cn, zi_get, zi_set, cM, zq_Mod_isWindow, zq_Mod_isShown, E1 F (by omega), E2 F (by omega), E3 F (by omega), n2]
    · refine ⟨μ, -1000000001, ze_in [(0, .ref 232), (1, .int (nI a)), (2, .int x)] zq_Mod_steps (Nat.le_of_ble_eq_true rfl) rfl ⟨N1 + N2, 10, fun F n hF => ?_⟩, zM_fr.refl⟩
      simp [zg_0, zg_aload_n, zg_bipush, zg_getfield, zg_goto, zg_iadd, zg_iaload, zg_iastore, zg_iconst, zg_ifCond, zg_if_icmp, zg_iinc, zg_iload, zg_iload_n, zg_invokevirtual, zg_ireturn, zg_istore, zg_istore_n, zg_ldc, zg_ldc_w, zf_X6_steps, zi_ld, zi_lda, zi_cmp, zi_retOk, zi_isI, zi_f3, zi_cr, zi_ci, zi_cn, zi_get, zi_set, cM, zq_Mod_isWindow, E1 F (by omega), E2 F (by omega), n1]
  · refine ⟨μ, -1000000001, ze_in [(0, .ref 232), (1, .int w), (2, .int x)] zq_Mod_steps (Nat.le_of_ble_eq_true rfl) rfl ⟨N1, 6, fun F n hF => ?_⟩, zM_fr.refl⟩
    simp [zg_0, zg_aload_n, zg_bipush, zg_getfield, zg_goto, zg_iadd, zg_iaload, zg_iastore, zg_iconst, zg_ifCond, zg_if_icmp, zg_iinc, zg_iload, zg_iload_n, zg_invokevirtual, zg_ireturn, zg_istore, zg_istore_n, zg_ldc, zg_ldc_w, zf_X6_steps, zi_ld, zi_lda, zi_cmp, zi_retOk, zi_isI, zi_f3, zi_cr, zi_ci, zi_cn, zi_get, zi_set, cM, zq_Mod_isWindow, E1 F (by omega), n1]
end ZWD
