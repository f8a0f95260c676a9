/-! the reference: spread -/
section ZVI
variable {μ : zm_M} {dl : Nat → Bool} {ow : Nat → Nat} {g : Nat → Bool}
def zv_cm (μ : zm_M) (g : Nat → Bool) : Prop := ∀ j, j < 10 → μ 260 j = if g j = true then 1 else 0
def zv_ow (μ : zm_M) (dl : Nat → Bool) (ow : Nat → Nat) : Prop := ∀ x, x < 10 → (dl x = true ↔ μ 234 x = 3) ∧ (μ 234 x = 3 → ow x < 10 ∧ μ 237 x = nI (ow x))
set_option maxRecDepth 100000 in
theorem zv_spread1 (D : Nat) {r : Nat} (hr : r < 10) (L0 : zi_Lc) (nl0 : zi_nl L0 = true) (a0 : zi_get L0 0 = some (.ref 232)) (a1 : zi_get L0 1 = some (.int (nI r))) (a2 : zi_get L0 2 = some (.int (nI 0))) (hg : zv_cm μ g) (ho : zv_ow μ dl ow) :
    ∃ L' h', ze_S D 3 none zc_X6_spread 10 L0 [] (zm_mk μ) 2 L' [] h' ∧ (zi_nl L' = true ∧ zi_get L' 0 = some (.ref 232) ∧ zi_get L' 1 = some (.int (nI (r + 1))) ∧ ∃ ν, zm_mk ν = h' ∧ zv_cm ν (zl_sp1 dl ow g 10) ∧ ∀ c d, c ≠ 260 → ν c d = μ c d) := by
  have h10 : (Int8.ofInt 10).toInt32 = (10 : Int32) := by decide
  refine ze_loopS (Q := fun i L hp => i ≤ 10 ∧ zi_nl L = true ∧ zi_get L 0 = some (.ref 232) ∧ zi_get L 1 = some (.int (nI r)) ∧ zi_get L 2 = some (.int (nI i)) ∧ ∃ ξ : zm_M, zm_mk ξ = hp ∧ (zv_cm ξ (zl_sp1 dl ow g i)) ∧ (∀ c d, c ≠ 260 → ξ c d = μ c d) ∧ (True)) (R := fun L' h' => zi_nl L' = true ∧ zi_get L' 0 = some (.ref 232) ∧ zi_get L' 1 = some (.int (nI (r + 1))) ∧ ∃ ν, zm_mk ν = h' ∧ zv_cm ν (zl_sp1 dl ow g 10) ∧ ∀ c d, c ≠ 260 → ν c d = μ c d) 10 ?_ ?_ 10 0 _ _ (by omega) ⟨by omega, nl0, a0, a1, a2, μ, rfl, hg, (fun _ _ _ => rfl), trivial⟩
  · rintro i L _ hi ⟨-, nl, g0, g1, g2, ξ, rfl, f1, f2, hq⟩
    have c1 : ¬ (10 : Int32) ≤ nI i := nI_ge (b := 10) hi (by decide)
    have ik : zi_in (nI i) 10 = true := zm_in hi (by decide)
    have ck : (nI i).toNatClampNeg = i := nI_clamp (by omega)
    have e4 : ξ 234 i = μ 234 i := f2 _ _ (by decide)
    have e7 : ξ 237 i = μ 237 i := f2 _ _ (by decide)
    have ec := f1 i hi
    have up : ∀ b : Bool, zl_sp1 dl ow g (i + 1) i = b → zv_cm (zm_up ξ 260 i (if b = true then 1 else 0)) (zl_sp1 dl ow g (i + 1)) := fun b hb j hj => by
      rw [zm_up_pt]
      by_cases e : j = i
      · rw [if_pos e, e, hb]
      · rw [if_neg e, zl_sp1_s, if_neg e]
        exact f1 j hj
    have fr : ∀ x c d, c ≠ 260 → zm_up ξ 260 i x c d = μ c d := fun x c d h => by
      rw [zm_up_ne (by omega)]; exact f2 c d h
    have hs : zl_sp1 dl ow g (i + 1) i = (zl_sp1 dl ow g i i || (dl i && zl_sp1 dl ow g i (ow i))) := by rw [zl_sp1_s, if_pos rfl]
    have n1 : ¬ (1 : Int32) = 0 := by decide
    by_cases c2 : zl_sp1 dl ow g i i = true
    · rw [if_pos c2] at ec
      have u := up true (by rw [hs, c2]; rfl)
      rw [if_pos rfl] at u
      refine ⟨zi_set L 2 (.int (nI (i + 1))), zm_mk (zm_up ξ 260 i 1), ⟨0, 16, fun F m hF => ?_⟩, by omega, ?_, ?_, ?_, zi_get_set_eq, _, rfl, u, fr 1, trivial⟩
      · simp (maxDischargeDepth := 9) [zg_0, zg_aload_n, zg_baload, zg_bastore, zg_bipush, zg_getfield, zg_goto, zg_iaload, zg_iconst, zg_ifCond, zg_if_icmp, zg_iinc, zg_iload_n, zg_istore_n, zg_return, zf_X6_spread, zi_ld, zi_lda, zi_cmp, zi_retOk, zi_isI, zi_f3, zi_cr, zi_ci, zi_cn, zi_get_ne, zi_nl_i, zi_nl_r, zi_get_set_eq, nl, g0, g1, g2, h10, c1, zM_g, zm_bald zM_A260 ik, ck, ec, n1, zm_bast zM_A260 ik (Or.inr rfl), nI_1]
      · simp (maxDischargeDepth := 9) [zi_get_ne, zi_nl_i, zi_nl_r, zi_get_set_eq, nl]
      · simp (maxDischargeDepth := 9) [zi_get_ne, zi_nl_i, zi_nl_r, zi_get_set_eq, nl, g0]
      · simp (maxDischargeDepth := 9) [zi_get_ne, zi_nl_i, zi_nl_r, zi_get_set_eq, nl, g1]
    · rw [if_neg c2] at ec
      have c2' : zl_sp1 dl ow g i i = false := by simpa using c2
      by_cases c3 : μ 234 i = 3
      · obtain ⟨o1, o2⟩ := (ho i hi).2 c3
        have hdl := (ho i hi).1.mpr c3
        have jk : zi_in (nI (ow i)) 10 = true := zm_in o1 (by decide)
        have cj : (nI (ow i)).toNatClampNeg = ow i := nI_clamp (by omega)
        have eo := f1 (ow i) o1
        by_cases c4 : zl_sp1 dl ow g i (ow i) = true
        · rw [if_pos c4] at eo
          have u := up true (by rw [hs, c2', hdl, c4]; rfl)
          rw [if_pos rfl] at u
          refine ⟨zi_set L 2 (.int (nI (i + 1))), zm_mk (zm_up ξ 260 i 1), ⟨0, 30, fun F m hF => ?_⟩, by omega, ?_, ?_, ?_, zi_get_set_eq, _, rfl, u, fr 1, trivial⟩
          · simp (maxDischargeDepth := 9) [zg_0, zg_aload_n, zg_baload, zg_bastore, zg_bipush, zg_getfield, zg_goto, zg_iaload, zg_iconst, zg_ifCond, zg_if_icmp, zg_iinc, zg_iload_n, zg_istore_n, zg_return, zf_X6_spread, zi_ld, zi_lda, zi_cmp, zi_retOk, zi_isI, zi_f3, zi_cr, zi_ci, zi_cn, zi_get_ne, zi_nl_i, zi_nl_r, zi_get_set_eq, nl, g0, g1, g2, h10, c1, zM_g, zm_bald zM_A260 ik, ck, ec, n1, zm_iald (k := 0) zM_A234 ik, e4, c3, zm_iald (k := 0) zM_A237 ik, e7, o2, zm_bald zM_A260 jk, cj, eo, zm_bast zM_A260 ik (Or.inr rfl), nI_1]
          · simp (maxDischargeDepth := 9) [zi_get_ne, zi_nl_i, zi_nl_r, zi_get_set_eq, nl]
          · simp (maxDischargeDepth := 9) [zi_get_ne, zi_nl_i, zi_nl_r, zi_get_set_eq, nl, g0]
          · simp (maxDischargeDepth := 9) [zi_get_ne, zi_nl_i, zi_nl_r, zi_get_set_eq, nl, g1]
        · rw [if_neg c4] at eo
          have c4' : zl_sp1 dl ow g i (ow i) = false := by simpa using c4
          have u := up false (by rw [hs, c2', hdl, c4']; rfl)
          rw [if_neg (by decide)] at u
          refine ⟨zi_set L 2 (.int (nI (i + 1))), zm_mk (zm_up ξ 260 i 0), ⟨0, 29, fun F m hF => ?_⟩, by omega, ?_, ?_, ?_, zi_get_set_eq, _, rfl, u, fr 0, trivial⟩
          · simp (maxDischargeDepth := 9) [zg_0, zg_aload_n, zg_baload, zg_bastore, zg_bipush, zg_getfield, zg_goto, zg_iaload, zg_iconst, zg_ifCond, zg_if_icmp, zg_iinc, zg_iload_n, zg_istore_n, zg_return, zf_X6_spread, zi_ld, zi_lda, zi_cmp, zi_retOk, zi_isI, zi_f3, zi_cr, zi_ci, zi_cn, zi_get_ne, zi_nl_i, zi_nl_r, zi_get_set_eq, nl, g0, g1, g2, h10, c1, zM_g, zm_bald zM_A260 ik, ck, ec, n1, zm_iald (k := 0) zM_A234 ik, e4, c3, zm_iald (k := 0) zM_A237 ik, e7, o2, zm_bald zM_A260 jk, cj, eo, zm_bast zM_A260 ik (Or.inl rfl), nI_1]
          · simp (maxDischargeDepth := 9) [zi_get_ne, zi_nl_i, zi_nl_r, zi_get_set_eq, nl]
          · simp (maxDischargeDepth := 9) [zi_get_ne, zi_nl_i, zi_nl_r, zi_get_set_eq, nl, g0]
          · simp (maxDischargeDepth := 9) [zi_get_ne, zi_nl_i, zi_nl_r, zi_get_set_eq, nl, g1]
      · have hdl : dl i = false := by
          have := mt (ho i hi).1.mp c3
          simpa using this
        have u := up false (by rw [hs, c2', hdl]; rfl)
        rw [if_neg (by decide)] at u
        refine ⟨zi_set L 2 (.int (nI (i + 1))), zm_mk (zm_up ξ 260 i 0), ⟨0, 21, fun F m hF => ?_⟩, by omega, ?_, ?_, ?_, zi_get_set_eq, _, rfl, u, fr 0, trivial⟩
        · simp (maxDischargeDepth := 9) [zg_0, zg_aload_n, zg_baload, zg_bastore, zg_bipush, zg_getfield, zg_goto, zg_iaload, zg_iconst, zg_ifCond, zg_if_icmp, zg_iinc, zg_iload_n, zg_istore_n, zg_return, zf_X6_spread, zi_ld, zi_lda, zi_cmp, zi_retOk, zi_isI, zi_f3, zi_cr, zi_ci, zi_cn, zi_get_ne, zi_nl_i, zi_nl_r, zi_get_set_eq, nl, g0, g1, g2, h10, c1, zM_g, zm_bald zM_A260 ik, ck, ec, n1, zm_iald (k := 0) zM_A234 ik, e4, c3, zm_bast zM_A260 ik (Or.inl rfl), nI_1]
        · simp (maxDischargeDepth := 9) [zi_get_ne, zi_nl_i, zi_nl_r, zi_get_set_eq, nl]
        · simp (maxDischargeDepth := 9) [zi_get_ne, zi_nl_i, zi_nl_r, zi_get_set_eq, nl, g0]
        · simp (maxDischargeDepth := 9) [zi_get_ne, zi_nl_i, zi_nl_r, zi_get_set_eq, nl, g1]
  · rintro L _ ⟨-, nl, g0, g1, g2, ξ, rfl, f1, f2, hq⟩
    have c1 : (10 : Int32) ≤ nI 10 := by decide
    have b0 : zi_nl (zi_set L 1 (.int (nI (r + 1)))) = true := by simp (maxDischargeDepth := 9) [zi_get_ne, zi_nl_i, zi_nl_r, zi_get_set_eq, nl]
    have b1 : zi_get (zi_set L 1 (.int (nI (r + 1)))) 0 = some (.ref 232) := by simp (maxDischargeDepth := 9) [zi_get_ne, zi_nl_i, zi_nl_r, zi_get_set_eq, nl, g0]
    refine ⟨zi_set L 1 (.int (nI (r + 1))), zm_mk ξ, ⟨0, 5, fun F m hF => ?_⟩, b0, b1, zi_get_set_eq, ξ, rfl, f1, f2⟩
    simp (maxDischargeDepth := 9) [zg_0, zg_aload_n, zg_baload, zg_bastore, zg_bipush, zg_getfield, zg_goto, zg_iaload, zg_iconst, zg_ifCond, zg_if_icmp, zg_iinc, zg_iload_n, zg_istore_n, zg_return, zf_X6_spread, zi_ld, zi_lda, zi_cmp, zi_retOk, zi_isI, zi_f3, zi_cr, zi_ci, zi_cn, zi_get_ne, zi_nl_i, zi_nl_r, zi_get_set_eq, nl, g0, g1, g2, h10, c1, nI_add, nI_1]
end ZVI
