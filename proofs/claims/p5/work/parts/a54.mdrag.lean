section
/-! the reference: drag, its loops -/
/-- the windows of g below i, but k, have gone to b; what is kept with them is forgotten -/
noncomputable def zv_dgw (μ ξ : zm_M) (k b : Nat) (g : Nat → Bool) (i : Nat) : Prop :=
  (∀ j, j < 10 → ξ 238 j = if j < i ∧ g j = true ∧ j ≠ k then nI b else μ 238 j) ∧ (∀ s, s < 3 → (ξ 251 s = 0 ∨ ξ 251 s = μ 251 s) ∧ (ξ 251 s = 0 ↔ μ 251 s = 0 ∨ ∃ j, j < i ∧ (g j = true ∧ j ≠ k) ∧ ¬ μ 252 (10 * s + j) = 0)) ∧ ∀ c d, c ≠ 238 → c ≠ 239 → c ≠ 240 → c ≠ 251 → ξ c d = μ c d
/-- does the window j of g, other than k, find room on b? -/
noncomputable def zv_drm (μ : zm_M) (k b : Nat) (g : Nat → Bool) (j : Nat) : Bool := !g j || decide (j = k) || decide (μ 235 j ≤ μ 232 b ∧ μ 236 j ≤ μ 233 b)
section ZWM
variable {μ ξ ν : zm_M} {k a b : Nat} {g : Nat → Bool}
theorem zv_dgw_no {i : Nat} (h : zv_dgw μ ξ k b g i) (hg : ¬ (g i = true ∧ i ≠ k)) : zv_dgw μ ξ k b g (i + 1) := by
  obtain ⟨h1, h2, h3⟩ := h
  refine ⟨fun j hj => ?_, fun s hs => ⟨(h2 s hs).1, (h2 s hs).2.trans (or_congr Iff.rfl ⟨fun ⟨j, p, q, r⟩ => ⟨j, by omega, q, r⟩, fun ⟨j, p, q, r⟩ => ⟨j, ?_, q, r⟩⟩)⟩, h3⟩
  · rw [h1 j hj]
    by_cases e : j = i
    · subst e
      rw [if_neg (fun z => hg z.2), if_neg (fun z => hg z.2)]
    · have : (j < i ∧ g j = true ∧ j ≠ k) ↔ (j < i + 1 ∧ g j = true ∧ j ≠ k) := ⟨fun z => ⟨by omega, z.2⟩, fun z => ⟨by omega, z.2⟩⟩
      simp only [this]
  · by_cases e : j = i
    · rw [e] at q; exact absurd q hg
    · omega
theorem zv_dgw_s {i : Nat} (hi : i < 10) (h : zv_dgw μ ξ k b g i) (hg : g i = true ∧ i ≠ k) (e1 : ν 238 i = nI b) (e2 : ∀ c d, c ≠ 239 → c ≠ 240 → ¬ (c = 238 ∧ d = i) → ν c d = ξ c d) : zv_dgw μ (zv_fg ν i) k b g (i + 1) := by
  obtain ⟨h1, h2, h3⟩ := h
  refine ⟨fun j hj => ?_, fun s hs => ?_, fun c d p1 p2 p3 p4 => (zv_fg_ne p4).trans ((e2 c d p2 p3 (fun z => p1 z.1)).trans (h3 c d p1 p2 p3 p4))⟩
  · rw [zv_fg_ne (by decide)]
    by_cases e : j = i
    · rw [e, e1, if_pos ⟨by omega, hg⟩]
    · rw [e2 _ _ (by decide) (by decide) (by omega), h1 j hj]
      have : (j < i ∧ g j = true ∧ j ≠ k) ↔ (j < i + 1 ∧ g j = true ∧ j ≠ k) := ⟨fun z => ⟨by omega, z.2⟩, fun z => ⟨by omega, z.2⟩⟩
      simp only [this]
  · have ea : ν 251 s = ξ 251 s := e2 _ _ (by decide) (by decide) (by omega)
    have eb : ν 252 (10 * s + i) = μ 252 (10 * s + i) := (e2 _ _ (by decide) (by decide) (by omega)).trans (h3 _ _ (by decide) (by decide) (by decide) (by decide))
    rw [zv_fg_at hs, ea, eb]
    obtain ⟨q1, q2⟩ := h2 s hs
    by_cases c : ¬ ξ 251 s = 0 ∧ ¬ μ 252 (10 * s + i) = 0
    · rw [if_pos c]
      exact ⟨Or.inl rfl, fun _ => Or.inr ⟨i, by omega, hg, c.2⟩, fun _ => rfl⟩
    · rw [if_neg c]
      refine ⟨q1, fun z => ?_, fun z => ?_⟩
      · rcases q2.mp z with w | ⟨j, w1, w2, w3⟩
        · exact Or.inl w
        · exact Or.inr ⟨j, by omega, w2, w3⟩
      · rcases z with w | ⟨j, w1, w2, w3⟩
        · exact q2.mpr (Or.inl w)
        · by_cases e : j = i
          · rw [e] at w3
            exact Decidable.byContradiction fun z => c ⟨z, w3⟩
          · exact q2.mpr (Or.inr ⟨j, by omega, w2, w3⟩)
set_option maxRecDepth 100000 in
theorem zv_dgA (D : Nat) (hk : k < 10) {s o x3 : Int32} (L0 : zi_Lc) (nl0 : zi_nl L0 = true) (a0 : zi_get L0 0 = some (.ref 232)) (a1 : zi_get L0 1 = some (.int (nI k))) (a3 : zi_get L0 3 = some (.int x3)) (a4 : zi_get L0 4 = some (.int s)) (a5 : zi_get L0 5 = some (.int o)) (a7 : zi_get L0 7 = some (.int (nI 0))) :
    ∃ L' h', ze_S D 9 (some .int) zc_X6_drag 153 L0 [] (zm_mk μ) 184 L' [] h' ∧ (zi_nl L' = true ∧ zi_get L' 0 = some (.ref 232) ∧ zi_get L' 1 = some (.int (nI k)) ∧ zi_get L' 3 = some (.int x3) ∧ zi_get L' 4 = some (.int s) ∧ zi_get L' 5 = some (.int o) ∧ ∃ ν, zm_mk ν = h' ∧ zv_cm ν (fun j => decide (j = k)) ∧ ∀ c d, c ≠ 260 → ν c d = μ c d) := by
  have h10 : (Int8.ofInt 10).toInt32 = (10 : Int32) := by decide
  have o0 : (0 : Int32) = 0 ∨ (0 : Int32) = 1 := Or.inl rfl
  have o1 : (1 : Int32) = 0 ∨ (1 : Int32) = 1 := Or.inr rfl
  refine ze_loopS (Q := fun i L hp => i ≤ 10 ∧ zi_nl L = true ∧ zi_get L 0 = some (.ref 232) ∧ zi_get L 1 = some (.int (nI k)) ∧ zi_get L 3 = some (.int x3) ∧ zi_get L 4 = some (.int s) ∧ zi_get L 5 = some (.int o) ∧ zi_get L 7 = some (.int (nI i)) ∧ ∃ ξ : zm_M, zm_mk ξ = hp ∧ (∀ c d, c ≠ 260 → ξ c d = μ c d) ∧ (∀ j, j < i → ξ 260 j = if decide (j = k) = true then 1 else 0) ∧ (True)) (R := fun L' h' => zi_nl L' = true ∧ zi_get L' 0 = some (.ref 232) ∧ zi_get L' 1 = some (.int (nI k)) ∧ zi_get L' 3 = some (.int x3) ∧ zi_get L' 4 = some (.int s) ∧ zi_get L' 5 = some (.int o) ∧ ∃ ν, zm_mk ν = h' ∧ zv_cm ν (fun j => decide (j = k)) ∧ ∀ c d, c ≠ 260 → ν c d = μ c d) 10 ?_ ?_ 10 0 _ _ (by omega) ⟨by omega, nl0, a0, a1, a3, a4, a5, a7, μ, rfl, (fun _ _ _ => rfl), (fun _ q => absurd q (by omega)), trivial⟩
  · rintro i L _ hi ⟨-, nl, g0, g1, g3, g4, g5, g7, ξ, rfl, f1, f2, hq⟩
    have c1 : ¬ (10 : Int32) ≤ nI i := nI_ge (b := 10) hi (by decide)
    have ik : zi_in (nI i) 10 = true := zm_in hi (by decide)
    have ck : (nI i).toNatClampNeg = i := nI_clamp (by omega)
    have f1' : ∀ x c e, c ≠ 260 → zm_up ξ 260 i x c e = μ c e := fun x c e q => (zm_up_ne (by omega)).trans (f1 c e q)
    have f2' : ∀ x : Int32, x = (if decide (i = k) = true then 1 else 0) → ∀ j, j < i + 1 → zm_up ξ 260 i x 260 j = if decide (j = k) = true then 1 else 0 := fun x hx j hj => by
      by_cases e : j = i
      · rw [e, zm_up_eq, hx]
      · rw [zm_up_ne (by omega)]; exact f2 j (by omega)
    by_cases c2 : i = k
    · subst c2
      refine ⟨zi_set L 7 (.int (nI (i + 1))), zm_mk (zm_up ξ 260 i 1), ⟨0, 14, fun F m hF => ?_⟩, by omega, ?_, ?_, ?_, ?_, ?_, ?_, zi_get_set_eq, _, rfl, f1' 1, f2' 1 (by rw [if_pos (decide_eq_true rfl)]), trivial⟩
      · simp (maxDischargeDepth := 9) [zg_0, zg_aload_n, zg_baload, zg_bastore, zg_bipush, zg_getfield, zg_goto, zg_iaload, zg_iastore, zg_iconst, zg_ifCond, zg_if_icmp, zg_iinc, zg_iload, zg_iload_n, zg_invokestatic, zg_invokevirtual, zg_irem, zg_ireturn, zg_istore, zg_ldc, zf_X6_drag, zi_ld, zi_lda, zi_cmp, zi_retOk, zi_isI, zi_f3, zi_cr, zi_ci, zi_cn, zi_get_ne, zi_nl_i, zi_nl_r, zi_get_set_eq, nl, g0, g1, g3, g4, g5, g7, h10, c1, zM_g, zm_bast zM_A260 ik o1, ck, nI_1]
      · simp (maxDischargeDepth := 9) [zi_get_ne, zi_nl_i, zi_nl_r, zi_get_set_eq, nl]
      · simp (maxDischargeDepth := 9) [zi_get_ne, zi_nl_i, zi_nl_r, zi_get_set_eq, nl, g0]
      · simp (maxDischargeDepth := 9) [zi_get_ne, zi_nl_i, zi_nl_r, zi_get_set_eq, nl, g1]
      · simp (maxDischargeDepth := 9) [zi_get_ne, zi_nl_i, zi_nl_r, zi_get_set_eq, nl, g3]
      · simp (maxDischargeDepth := 9) [zi_get_ne, zi_nl_i, zi_nl_r, zi_get_set_eq, nl, g4]
      · simp (maxDischargeDepth := 9) [zi_get_ne, zi_nl_i, zi_nl_r, zi_get_set_eq, nl, g5]
    · have c2' : ¬ nI i = nI k := fun e => c2 ((nI_eq (by omega) (by omega)).mp e)
      refine ⟨zi_set L 7 (.int (nI (i + 1))), zm_mk (zm_up ξ 260 i 0), ⟨0, 13, fun F m hF => ?_⟩, by omega, ?_, ?_, ?_, ?_, ?_, ?_, zi_get_set_eq, _, rfl, f1' 0, f2' 0 (by rw [if_neg (by simpa using c2)]), trivial⟩
      · simp (maxDischargeDepth := 9) [zg_0, zg_aload_n, zg_baload, zg_bastore, zg_bipush, zg_getfield, zg_goto, zg_iaload, zg_iastore, zg_iconst, zg_ifCond, zg_if_icmp, zg_iinc, zg_iload, zg_iload_n, zg_invokestatic, zg_invokevirtual, zg_irem, zg_ireturn, zg_istore, zg_ldc, zf_X6_drag, zi_ld, zi_lda, zi_cmp, zi_retOk, zi_isI, zi_f3, zi_cr, zi_ci, zi_cn, zi_get_ne, zi_nl_i, zi_nl_r, zi_get_set_eq, nl, g0, g1, g3, g4, g5, g7, h10, c1, c2', zM_g, zm_bast zM_A260 ik o0, ck, nI_1]
      · simp (maxDischargeDepth := 9) [zi_get_ne, zi_nl_i, zi_nl_r, zi_get_set_eq, nl]
      · simp (maxDischargeDepth := 9) [zi_get_ne, zi_nl_i, zi_nl_r, zi_get_set_eq, nl, g0]
      · simp (maxDischargeDepth := 9) [zi_get_ne, zi_nl_i, zi_nl_r, zi_get_set_eq, nl, g1]
      · simp (maxDischargeDepth := 9) [zi_get_ne, zi_nl_i, zi_nl_r, zi_get_set_eq, nl, g3]
      · simp (maxDischargeDepth := 9) [zi_get_ne, zi_nl_i, zi_nl_r, zi_get_set_eq, nl, g4]
      · simp (maxDischargeDepth := 9) [zi_get_ne, zi_nl_i, zi_nl_r, zi_get_set_eq, nl, g5]
  · rintro L _ ⟨-, nl, g0, g1, g3, g4, g5, g7, ξ, rfl, f1, f2, hq⟩
    have c1 : (10 : Int32) ≤ nI 10 := by decide
    refine ⟨L, zm_mk ξ, ⟨0, 3, fun F m hF => ?_⟩, nl, g0, g1, g3, g4, g5, ξ, rfl, f2, f1⟩
    simp (maxDischargeDepth := 9) [zg_0, zg_aload_n, zg_baload, zg_bastore, zg_bipush, zg_getfield, zg_goto, zg_iaload, zg_iastore, zg_iconst, zg_ifCond, zg_if_icmp, zg_iinc, zg_iload, zg_iload_n, zg_invokestatic, zg_invokevirtual, zg_irem, zg_ireturn, zg_istore, zg_ldc, zf_X6_drag, zi_ld, zi_lda, zi_cmp, zi_retOk, zi_isI, zi_f3, zi_cr, zi_ci, zi_cn, zi_get_ne, zi_nl_i, zi_nl_r, zi_get_set_eq, nl, g0, g1, g3, g4, g5, g7, h10, c1, nI_1]
set_option maxRecDepth 100000 in
theorem zv_dgB (D : Nat) (hk : k < 10) (ha : a < 3) (hb : b < 3) (hab : a ≠ b) (hg : zv_cm μ g) (b0 : Bool) (L0 : zi_Lc) (nl0 : zi_nl L0 = true) (a0 : zi_get L0 0 = some (.ref 232)) (a1 : zi_get L0 1 = some (.int (nI k))) (a4 : zi_get L0 4 = some (.int (nI a))) (a5 : zi_get L0 5 = some (.int (nI b))) (a7 : zi_get L0 7 = some (.int (if b0 = true then 1 else 0))) (a8 : zi_get L0 8 = some (.int (nI 0))) :
    ∃ L' h', ze_S (D + 1) 9 (some .int) zc_X6_drag 213 L0 [] (zm_mk μ) 284 L' [] h' ∧ (zi_nl L' = true ∧ zi_get L' 0 = some (.ref 232) ∧ zi_get L' 1 = some (.int (nI k)) ∧ zi_get L' 4 = some (.int (nI a)) ∧ zi_get L' 5 = some (.int (nI b)) ∧ zi_get L' 7 = some (.int (if zv_gd (zv_drm μ k b g) b0 10 = true then 1 else 0)) ∧ zm_mk μ = h') := by
  have h10 : (Int8.ofInt 10).toInt32 = (10 : Int32) := by decide
  have is : zi_in (nI b) 3 = true := zm_in hb (by decide)
  have cs : (nI b).toNatClampNeg = b := nI_clamp (by omega)
  have n1 : ¬ (1 : Int32) = 0 := by decide
  have nab : ¬ nI a = nI b := fun e => hab ((nI_eq (by omega) (by omega)).mp e)
  obtain ⟨lc, cM⟩ := zM_c (μ := μ)
  refine ze_loopS (Q := fun i L hp => i ≤ 10 ∧ zi_nl L = true ∧ zi_get L 0 = some (.ref 232) ∧ zi_get L 1 = some (.int (nI k)) ∧ zi_get L 4 = some (.int (nI a)) ∧ zi_get L 5 = some (.int (nI b)) ∧ zi_get L 8 = some (.int (nI i)) ∧ zm_mk μ = hp ∧ ∃ (x : Bool), zi_get L 7 = some (.int (if x = true then 1 else 0)) ∧ (x = zv_gd (zv_drm μ k b g) b0 i)) (R := fun L' h' => zi_nl L' = true ∧ zi_get L' 0 = some (.ref 232) ∧ zi_get L' 1 = some (.int (nI k)) ∧ zi_get L' 4 = some (.int (nI a)) ∧ zi_get L' 5 = some (.int (nI b)) ∧ zi_get L' 7 = some (.int (if zv_gd (zv_drm μ k b g) b0 10 = true then 1 else 0)) ∧ zm_mk μ = h') 10 ?_ ?_ 10 0 _ _ (by omega) ⟨by omega, nl0, a0, a1, a4, a5, a8, rfl, b0, a7, rfl⟩
  · rintro i L _ hi ⟨-, nl, g0, g1, g4, g5, g8, rfl, x, g7, hq⟩
    have c1 : ¬ (10 : Int32) ≤ nI i := nI_ge (b := 10) hi (by decide)
    have ik : zi_in (nI i) 10 = true := zm_in hi (by decide)
    have ck : (nI i).toNatClampNeg = i := nI_clamp (by omega)
    have ec := hg i hi
    obtain ⟨N1, E1⟩ := ze_McanBeWhole (μ := μ) D hi (μ 232 b) (μ 233 b)
    have hs1 : zv_gd (zv_drm μ k b g) b0 (i + 1) = (x && zv_drm μ k b g i) := by rw [hq]; rfl
    cases x with
    | false =>
      have g7 : zi_get L 7 = some (.int 0) := g7
      refine ⟨zi_set (zi_set L 7 (.int 0)) 8 (.int (nI (i + 1))), zm_mk μ, ⟨N1, 12, fun F m hF => ?_⟩, by omega, ?_, ?_, ?_, ?_, ?_, zi_get_set_eq, rfl, false, ?_, hs1.symm⟩
      · simp (maxDischargeDepth := 9) [zg_0, zg_aload_n, zg_baload, zg_bastore, zg_bipush, zg_getfield, zg_goto, zg_iaload, zg_iastore, zg_iconst, zg_ifCond, zg_if_icmp, zg_iinc, zg_iload, zg_iload_n, zg_invokestatic, zg_invokevirtual, zg_irem, zg_ireturn, zg_istore, zg_ldc, zf_X6_drag, zi_ld, zi_lda, zi_cmp, zi_retOk, zi_isI, zi_f3, zi_cr, zi_ci, zi_cn, zi_get_ne, zi_nl_i, zi_nl_r, zi_get_set_eq, nl, g0, g1, g4, g5, g8, g7, h10, c1, nab, nI_1]
      · simp (maxDischargeDepth := 9) [zi_get_ne, zi_nl_i, zi_nl_r, zi_get_set_eq, nl]
      · simp (maxDischargeDepth := 9) [zi_get_ne, zi_nl_i, zi_nl_r, zi_get_set_eq, nl, g0]
      · simp (maxDischargeDepth := 9) [zi_get_ne, zi_nl_i, zi_nl_r, zi_get_set_eq, nl, g1]
      · simp (maxDischargeDepth := 9) [zi_get_ne, zi_nl_i, zi_nl_r, zi_get_set_eq, nl, g4]
      · simp (maxDischargeDepth := 9) [zi_get_ne, zi_nl_i, zi_nl_r, zi_get_set_eq, nl, g5]
      · simp (maxDischargeDepth := 9) [zi_get_ne, zi_nl_i, zi_nl_r, zi_get_set_eq, nl, g7]
    | true =>
      have g7 : zi_get L 7 = some (.int 1) := g7
      have hr : zv_drm μ k b g i = (!g i || decide (i = k) || decide (μ 235 i ≤ μ 232 b ∧ μ 236 i ≤ μ 233 b)) := rfl
      rw [hr] at hs1
      by_cases c2 : g i = true
      · rw [if_pos c2] at ec
        by_cases c3 : i = k
        · subst c3
          refine ⟨zi_set (zi_set L 7 (.int 1)) 8 (.int (nI (i + 1))), zm_mk μ, ⟨N1, 21, fun F m hF => ?_⟩, by omega, ?_, ?_, ?_, ?_, ?_, zi_get_set_eq, rfl, true, ?_, by rw [hs1, c2, decide_eq_true rfl]; rfl⟩
          · simp (maxDischargeDepth := 9) [zg_0, zg_aload_n, zg_baload, zg_bastore, zg_bipush, zg_getfield, zg_goto, zg_iaload, zg_iastore, zg_iconst, zg_ifCond, zg_if_icmp, zg_iinc, zg_iload, zg_iload_n, zg_invokestatic, zg_invokevirtual, zg_irem, zg_ireturn, zg_istore, zg_ldc, zf_X6_drag, zi_ld, zi_lda, zi_cmp, zi_retOk, zi_isI, zi_f3, zi_cr, zi_ci, zi_cn, zi_get_ne, zi_nl_i, zi_nl_r, zi_get_set_eq, nl, g0, g1, g4, g5, g8, g7, h10, c1, nab, n1, zM_g, zm_bald zM_A260 ik, ck, ec, nI_1]
          · simp (maxDischargeDepth := 9) [zi_get_ne, zi_nl_i, zi_nl_r, zi_get_set_eq, nl]
          · simp (maxDischargeDepth := 9) [zi_get_ne, zi_nl_i, zi_nl_r, zi_get_set_eq, nl, g0]
          · simp (maxDischargeDepth := 9) [zi_get_ne, zi_nl_i, zi_nl_r, zi_get_set_eq, nl, g1]
          · simp (maxDischargeDepth := 9) [zi_get_ne, zi_nl_i, zi_nl_r, zi_get_set_eq, nl, g4]
          · simp (maxDischargeDepth := 9) [zi_get_ne, zi_nl_i, zi_nl_r, zi_get_set_eq, nl, g5]
          · simp (maxDischargeDepth := 9) [zi_get_ne, zi_nl_i, zi_nl_r, zi_get_set_eq, nl, g7]
        · have c3' : ¬ nI i = nI k := fun e => c3 ((nI_eq (by omega) (by omega)).mp e)
          by_cases c4 : μ 235 i ≤ μ 232 b ∧ μ 236 i ≤ μ 233 b
          · rw [if_pos c4] at E1
            refine ⟨zi_set (zi_set L 7 (.int 1)) 8 (.int (nI (i + 1))), zm_mk μ, ⟨N1, 33, fun F m hF => ?_⟩, by omega, ?_, ?_, ?_, ?_, ?_, zi_get_set_eq, rfl, true, ?_, by rw [hs1, decide_eq_true c4, Bool.or_true]; rfl⟩
            · simp (maxDischargeDepth := 9) [zg_0, zg_aload_n, zg_baload, zg_bastore, zg_bipush, zg_getfield, zg_goto, zg_iaload, zg_iastore, zg_iconst, zg_ifCond, zg_if_icmp, zg_iinc, zg_iload, zg_iload_n, zg_invokestatic, zg_invokevirtual, zg_irem, zg_ireturn, zg_istore, zg_ldc, zf_X6_drag, zi_ld, zi_lda, zi_cmp, zi_retOk, zi_isI, zi_f3, zi_cr, zi_ci, zi_cn, zi_get_ne, zi_nl_i, zi_nl_r, zi_get_set_eq, nl, g0, g1, g4, g5, g8, g7, h10, c1, nab, n1, zM_g, zm_bald zM_A260 ik, ck, ec, c3', zm_iald (k := 0) zM_A232 is, zm_iald (k := 0) zM_A233 is, cs, cM, zq_Mod_canBeWhole, E1 F (by omega), nI_1]
            · simp (maxDischargeDepth := 9) [zi_get_ne, zi_nl_i, zi_nl_r, zi_get_set_eq, nl]
            · simp (maxDischargeDepth := 9) [zi_get_ne, zi_nl_i, zi_nl_r, zi_get_set_eq, nl, g0]
            · simp (maxDischargeDepth := 9) [zi_get_ne, zi_nl_i, zi_nl_r, zi_get_set_eq, nl, g1]
            · simp (maxDischargeDepth := 9) [zi_get_ne, zi_nl_i, zi_nl_r, zi_get_set_eq, nl, g4]
            · simp (maxDischargeDepth := 9) [zi_get_ne, zi_nl_i, zi_nl_r, zi_get_set_eq, nl, g5]
            · simp (maxDischargeDepth := 9) [zi_get_ne, zi_nl_i, zi_nl_r, zi_get_set_eq, nl, g7]
          · rw [if_neg c4] at E1
            refine ⟨zi_set (zi_set L 7 (.int 0)) 8 (.int (nI (i + 1))), zm_mk μ, ⟨N1, 32, fun F m hF => ?_⟩, by omega, ?_, ?_, ?_, ?_, ?_, zi_get_set_eq, rfl, false, ?_, by rw [hs1, decide_eq_false c4, decide_eq_false c3, c2]; rfl⟩
            · simp (maxDischargeDepth := 9) [zg_0, zg_aload_n, zg_baload, zg_bastore, zg_bipush, zg_getfield, zg_goto, zg_iaload, zg_iastore, zg_iconst, zg_ifCond, zg_if_icmp, zg_iinc, zg_iload, zg_iload_n, zg_invokestatic, zg_invokevirtual, zg_irem, zg_ireturn, zg_istore, zg_ldc, zf_X6_drag, zi_ld, zi_lda, zi_cmp, zi_retOk, zi_isI, zi_f3, zi_cr, zi_ci, zi_cn, zi_get_ne, zi_nl_i, zi_nl_r, zi_get_set_eq, nl, g0, g1, g4, g5, g8, g7, h10, c1, nab, n1, zM_g, zm_bald zM_A260 ik, ck, ec, c3', zm_iald (k := 0) zM_A232 is, zm_iald (k := 0) zM_A233 is, cs, cM, zq_Mod_canBeWhole, E1 F (by omega), nI_1]
            · simp (maxDischargeDepth := 9) [zi_get_ne, zi_nl_i, zi_nl_r, zi_get_set_eq, nl]
            · simp (maxDischargeDepth := 9) [zi_get_ne, zi_nl_i, zi_nl_r, zi_get_set_eq, nl, g0]
            · simp (maxDischargeDepth := 9) [zi_get_ne, zi_nl_i, zi_nl_r, zi_get_set_eq, nl, g1]
            · simp (maxDischargeDepth := 9) [zi_get_ne, zi_nl_i, zi_nl_r, zi_get_set_eq, nl, g4]
            · simp (maxDischargeDepth := 9) [zi_get_ne, zi_nl_i, zi_nl_r, zi_get_set_eq, nl, g5]
            · simp (maxDischargeDepth := 9) [zi_get_ne, zi_nl_i, zi_nl_r, zi_get_set_eq, nl, g7]
      · rw [if_neg c2] at ec
        have c2' : g i = false := by simpa using c2
        refine ⟨zi_set (zi_set L 7 (.int 1)) 8 (.int (nI (i + 1))), zm_mk μ, ⟨N1, 18, fun F m hF => ?_⟩, by omega, ?_, ?_, ?_, ?_, ?_, zi_get_set_eq, rfl, true, ?_, by rw [hs1, c2']; rfl⟩
        · simp (maxDischargeDepth := 9) [zg_0, zg_aload_n, zg_baload, zg_bastore, zg_bipush, zg_getfield, zg_goto, zg_iaload, zg_iastore, zg_iconst, zg_ifCond, zg_if_icmp, zg_iinc, zg_iload, zg_iload_n, zg_invokestatic, zg_invokevirtual, zg_irem, zg_ireturn, zg_istore, zg_ldc, zf_X6_drag, zi_ld, zi_lda, zi_cmp, zi_retOk, zi_isI, zi_f3, zi_cr, zi_ci, zi_cn, zi_get_ne, zi_nl_i, zi_nl_r, zi_get_set_eq, nl, g0, g1, g4, g5, g8, g7, h10, c1, nab, n1, zM_g, zm_bald zM_A260 ik, ck, ec, nI_1]
        · simp (maxDischargeDepth := 9) [zi_get_ne, zi_nl_i, zi_nl_r, zi_get_set_eq, nl]
        · simp (maxDischargeDepth := 9) [zi_get_ne, zi_nl_i, zi_nl_r, zi_get_set_eq, nl, g0]
        · simp (maxDischargeDepth := 9) [zi_get_ne, zi_nl_i, zi_nl_r, zi_get_set_eq, nl, g1]
        · simp (maxDischargeDepth := 9) [zi_get_ne, zi_nl_i, zi_nl_r, zi_get_set_eq, nl, g4]
        · simp (maxDischargeDepth := 9) [zi_get_ne, zi_nl_i, zi_nl_r, zi_get_set_eq, nl, g5]
        · simp (maxDischargeDepth := 9) [zi_get_ne, zi_nl_i, zi_nl_r, zi_get_set_eq, nl, g7]
  · rintro L _ ⟨-, nl, g0, g1, g4, g5, g8, rfl, x, g7, hq⟩
    subst hq
    have c1 : (10 : Int32) ≤ nI 10 := by decide
    refine ⟨L, zm_mk μ, ⟨0, 3, fun F m hF => ?_⟩, nl, g0, g1, g4, g5, g7, rfl⟩
    simp (maxDischargeDepth := 9) [zg_0, zg_aload_n, zg_baload, zg_bastore, zg_bipush, zg_getfield, zg_goto, zg_iaload, zg_iastore, zg_iconst, zg_ifCond, zg_if_icmp, zg_iinc, zg_iload, zg_iload_n, zg_invokestatic, zg_invokevirtual, zg_irem, zg_ireturn, zg_istore, zg_ldc, zf_X6_drag, zi_ld, zi_lda, zi_cmp, zi_retOk, zi_isI, zi_f3, zi_cr, zi_ci, zi_cn, zi_get_ne, zi_nl_i, zi_nl_r, zi_get_set_eq, nl, g0, g1, g4, g5, g8, h10, c1]
set_option maxRecDepth 100000 in
theorem zv_dgC (D : Nat) (hk : k < 10) (ha : a < 3) (hb : b < 3) (hab : a ≠ b) (hg : zv_cm μ g) (L0 : zi_Lc) (nl0 : zi_nl L0 = true) (a0 : zi_get L0 0 = some (.ref 232)) (a1 : zi_get L0 1 = some (.int (nI k))) (a4 : zi_get L0 4 = some (.int (nI a))) (a5 : zi_get L0 5 = some (.int (nI b))) (a8 : zi_get L0 8 = some (.int (nI 0))) :
    ∃ L' h', ze_S (D + 2) 9 (some .int) zc_X6_drag 330 L0 [] (zm_mk μ) 394 L' [] h' ∧ (zi_nl L' = true ∧ zi_get L' 0 = some (.ref 232) ∧ zi_get L' 1 = some (.int (nI k)) ∧ ∃ ν, zm_mk ν = h' ∧ zv_dgw μ ν k b g 10) := by
  have h10 : (Int8.ofInt 10).toInt32 = (10 : Int32) := by decide
  have nab : ¬ nI a = nI b := fun e => hab ((nI_eq (by omega) (by omega)).mp e)
  have n1 : ¬ (1 : Int32) = 0 := by decide
  refine ze_loopS (Q := fun i L hp => i ≤ 10 ∧ zi_nl L = true ∧ zi_get L 0 = some (.ref 232) ∧ zi_get L 1 = some (.int (nI k)) ∧ zi_get L 4 = some (.int (nI a)) ∧ zi_get L 5 = some (.int (nI b)) ∧ zi_get L 8 = some (.int (nI i)) ∧ ∃ ξ : zm_M, zm_mk ξ = hp ∧ (zv_dgw μ ξ k b g i) ∧ (True)) (R := fun L' h' => zi_nl L' = true ∧ zi_get L' 0 = some (.ref 232) ∧ zi_get L' 1 = some (.int (nI k)) ∧ ∃ ν, zm_mk ν = h' ∧ zv_dgw μ ν k b g 10) 10 ?_ ?_ 10 0 _ _ (by omega) ⟨by omega, nl0, a0, a1, a4, a5, a8, μ, rfl, ⟨(fun _ _ => (if_neg (fun z => absurd z.1 (by omega))).symm), (fun s _ => ⟨Or.inr rfl, ⟨fun e => Or.inl e, fun e => e.elim id (fun ⟨_, w, _⟩ => absurd w (by omega))⟩⟩), fun _ _ _ _ _ _ => rfl⟩, trivial⟩
  · rintro i L _ hi ⟨-, nl, g0, g1, g4, g5, g8, ξ, rfl, f1, hq⟩
    have c1 : ¬ (10 : Int32) ≤ nI i := nI_ge (b := 10) hi (by decide)
    have ik : zi_in (nI i) 10 = true := zm_in hi (by decide)
    have ck : (nI i).toNatClampNeg = i := nI_clamp (by omega)
    have ec : ξ 260 i = if g i = true then 1 else 0 := (f1.2.2 _ _ (by decide) (by decide) (by decide) (by decide)).trans (hg i hi)
    by_cases c2 : g i = true
    · rw [if_pos c2] at ec
      by_cases c3 : i = k
      · subst c3
        have f1' := zv_dgw_no f1 (fun z => z.2 rfl)
        refine ⟨zi_set L 8 (.int (nI (i + 1))), zm_mk ξ, ⟨0, 16, fun F m hF => ?_⟩, by omega, ?_, ?_, ?_, ?_, ?_, zi_get_set_eq, ξ, rfl, f1', trivial⟩
        · simp (maxDischargeDepth := 9) [zg_0, zg_aload_n, zg_baload, zg_bastore, zg_bipush, zg_getfield, zg_goto, zg_iaload, zg_iastore, zg_iconst, zg_ifCond, zg_if_icmp, zg_iinc, zg_iload, zg_iload_n, zg_invokestatic, zg_invokevirtual, zg_irem, zg_ireturn, zg_istore, zg_ldc, zf_X6_drag, zi_ld, zi_lda, zi_cmp, zi_retOk, zi_isI, zi_f3, zi_cr, zi_ci, zi_cn, zi_get_ne, zi_nl_i, zi_nl_r, zi_get_set_eq, nl, g0, g1, g4, g5, g8, h10, c1, nab, n1, zM_g, zm_bald zM_A260 ik, ck, ec, nI_1]
        · simp (maxDischargeDepth := 9) [zi_get_ne, zi_nl_i, zi_nl_r, zi_get_set_eq, nl]
        · simp (maxDischargeDepth := 9) [zi_get_ne, zi_nl_i, zi_nl_r, zi_get_set_eq, nl, g0]
        · simp (maxDischargeDepth := 9) [zi_get_ne, zi_nl_i, zi_nl_r, zi_get_set_eq, nl, g1]
        · simp (maxDischargeDepth := 9) [zi_get_ne, zi_nl_i, zi_nl_r, zi_get_set_eq, nl, g4]
        · simp (maxDischargeDepth := 9) [zi_get_ne, zi_nl_i, zi_nl_r, zi_get_set_eq, nl, g5]
      · have c3' : ¬ nI i = nI k := fun e => c3 ((nI_eq (by omega) (by omega)).mp e)
        obtain ⟨pp, qq, ⟨N1, E1⟩, -, -⟩ := ze_MputAt (μ := ξ) D hi hb (ξ 239 i) (ξ 240 i)
        have f1' := zv_dgw_s hi f1 ⟨c2, c3⟩ (ν := zv_put ξ i b pp qq) (by unfold zv_put; rw [zm_up_ne (by omega), zm_up_ne (by omega), zm_up_eq]) (fun c d r1 r2 r3 => by unfold zv_put; rw [zm_up_ne (by omega), zm_up_ne (by omega), zm_up_ne r3])
        generalize zv_put ξ i b pp qq = ξ1 at E1 f1'
        obtain ⟨N2, E2⟩ := ze_Mforget (μ := ξ1) (D + 1) hi
        obtain ⟨lc, cM⟩ := zM_c (μ := ξ)
        obtain ⟨lc1, cM1⟩ := zM_c (μ := ξ1)
        refine ⟨zi_set L 8 (.int (nI (i + 1))), zm_mk (zv_fg ξ1 i), ⟨N1 + N2, 31, fun F m hF => ?_⟩, by omega, ?_, ?_, ?_, ?_, ?_, zi_get_set_eq, zv_fg ξ1 i, rfl, f1', trivial⟩
        · simp (maxDischargeDepth := 9) [zg_0, zg_aload_n, zg_baload, zg_bastore, zg_bipush, zg_getfield, zg_goto, zg_iaload, zg_iastore, zg_iconst, zg_ifCond, zg_if_icmp, zg_iinc, zg_iload, zg_iload_n, zg_invokestatic, zg_invokevirtual, zg_irem, zg_ireturn, zg_istore, zg_ldc, zf_X6_drag, zi_ld, zi_lda, zi_cmp, zi_retOk, zi_isI, zi_f3, zi_cr, zi_ci, zi_cn, zi_get_ne, zi_nl_i, zi_nl_r, zi_get_set_eq, nl, g0, g1, g4, g5, g8, h10, c1, nab, n1, zM_g, zm_bald zM_A260 ik, ck, ec, c3', zm_iald (k := 0) zM_A239 ik, zm_iald (k := 0) zM_A240 ik, cM, cM1, zq_Mod_putAt, zq_Mod_forget, E1 F (by omega), E2 F (by omega), nI_1]
        · simp (maxDischargeDepth := 9) [zi_get_ne, zi_nl_i, zi_nl_r, zi_get_set_eq, nl]
        · simp (maxDischargeDepth := 9) [zi_get_ne, zi_nl_i, zi_nl_r, zi_get_set_eq, nl, g0]
        · simp (maxDischargeDepth := 9) [zi_get_ne, zi_nl_i, zi_nl_r, zi_get_set_eq, nl, g1]
        · simp (maxDischargeDepth := 9) [zi_get_ne, zi_nl_i, zi_nl_r, zi_get_set_eq, nl, g4]
        · simp (maxDischargeDepth := 9) [zi_get_ne, zi_nl_i, zi_nl_r, zi_get_set_eq, nl, g5]
    · rw [if_neg c2] at ec
      have f1' := zv_dgw_no f1 (fun z => c2 z.1)
      refine ⟨zi_set L 8 (.int (nI (i + 1))), zm_mk ξ, ⟨0, 13, fun F m hF => ?_⟩, by omega, ?_, ?_, ?_, ?_, ?_, zi_get_set_eq, ξ, rfl, f1', trivial⟩
      · simp (maxDischargeDepth := 9) [zg_0, zg_aload_n, zg_baload, zg_bastore, zg_bipush, zg_getfield, zg_goto, zg_iaload, zg_iastore, zg_iconst, zg_ifCond, zg_if_icmp, zg_iinc, zg_iload, zg_iload_n, zg_invokestatic, zg_invokevirtual, zg_irem, zg_ireturn, zg_istore, zg_ldc, zf_X6_drag, zi_ld, zi_lda, zi_cmp, zi_retOk, zi_isI, zi_f3, zi_cr, zi_ci, zi_cn, zi_get_ne, zi_nl_i, zi_nl_r, zi_get_set_eq, nl, g0, g1, g4, g5, g8, h10, c1, nab, zM_g, zm_bald zM_A260 ik, ck, ec, nI_1]
      · simp (maxDischargeDepth := 9) [zi_get_ne, zi_nl_i, zi_nl_r, zi_get_set_eq, nl]
      · simp (maxDischargeDepth := 9) [zi_get_ne, zi_nl_i, zi_nl_r, zi_get_set_eq, nl, g0]
      · simp (maxDischargeDepth := 9) [zi_get_ne, zi_nl_i, zi_nl_r, zi_get_set_eq, nl, g1]
      · simp (maxDischargeDepth := 9) [zi_get_ne, zi_nl_i, zi_nl_r, zi_get_set_eq, nl, g4]
      · simp (maxDischargeDepth := 9) [zi_get_ne, zi_nl_i, zi_nl_r, zi_get_set_eq, nl, g5]
  · rintro L _ ⟨-, nl, g0, g1, g4, g5, g8, ξ, rfl, f1, hq⟩
    have c1 : (10 : Int32) ≤ nI 10 := by decide
    refine ⟨L, zm_mk ξ, ⟨0, 3, fun F m hF => ?_⟩, nl, g0, g1, ξ, rfl, f1⟩
    simp (maxDischargeDepth := 9) [zg_0, zg_aload_n, zg_baload, zg_bastore, zg_bipush, zg_getfield, zg_goto, zg_iaload, zg_iastore, zg_iconst, zg_ifCond, zg_if_icmp, zg_iinc, zg_iload, zg_iload_n, zg_invokestatic, zg_invokevirtual, zg_irem, zg_ireturn, zg_istore, zg_ldc, zf_X6_drag, zi_ld, zi_lda, zi_cmp, zi_retOk, zi_isI, zi_f3, zi_cr, zi_ci, zi_cn, zi_get_ne, zi_nl_i, zi_nl_r, zi_get_set_eq, nl, g0, g1, g4, g5, g8, h10, c1, nI_1]
end ZWM
end
section
/-! the reference: drag -/
noncomputable def zv_dlg (μ : zm_M) (x : Nat) : Bool := decide (μ 234 x = 3)
noncomputable def zv_own (μ : zm_M) (x : Nat) : Nat := (μ 237 x).toNatClampNeg
/-- the window k and its dialogs -/
noncomputable def zv_grp (μ : zm_M) (k : Nat) : Nat → Bool := zl_spn (zv_dlg μ) (zv_own μ) (fun j => decide (j = k)) 10
noncomputable def zv_darg (μ : zm_M) (w x y : Int32) (k o sd : Nat) : Prop := (k < 10 ∧ o < 10 ∧ sd < 5) ∧ (w = nI k ∧ x = nI o ∧ y = nI sd) ∧ (μ 234 k = 1 ∧ μ 234 o = 1 ∧ k ≠ o)
/-- the tree of a drag before the window comes to it: that of b, without k if k is there -/
noncomputable def zv_isDr (μ : zm_M) (b : Nat) (u : zy_F) (k a : Nat) (μ0 : zm_M) (u' : zy_F) : Prop :=
  (a ≠ b ∧ u' = u ∧ zu_eqT μ b μ0 6) ∨ (a = b ∧ ∃ m ab1, zu_at μ b u k m ∧ zu_isOut (zu_cq μ b 6 24 240) 6 u m k μ0 ab1 ∧ u' = (if (zu_tb (zu_cq μ b 6 24 240) 6 m).erase k = [] then zy_out m u else u))
/-- and with it -/
noncomputable def zv_dn2 (μ0 ξ : zm_M) (u' : zy_F) (k n sd : Nat) (u2 : zy_F) : Prop :=
  (sd = 4 ∧ u2 = u' ∧ ∃ ab, zu_isTab μ0 6 u' ab n k ξ) ∨ (sd < 4 ∧ ∃ ab' c f, u2 = zy_sub n (.append (.tag c (.tag (if decide (sd % 2 = 0) then f else n) .nil)) (.tag (if decide (sd % 2 = 0) then n else f) .nil)) u' ∧ zu_isCut μ0 6 u' n k (sd / 2) (decide (sd % 2 = 0)) ξ ab' c f)
noncomputable def zv_trl (μ ξ : zm_M) (us : Nat → zy_F) (a k o sd b : Nat) (u2 : zy_F) : Prop :=
  ∃ μ0 u' n, zv_isDr μ b (us b) k a μ0 u' ∧ zu_at μ0 6 u' o n ∧ zv_dn2 μ0 ξ u' k n sd u2
/-- the trees behind a drag -/
noncomputable def zv_drU (us : Nat → zy_F) (a b : Nat) (ua u2 : zy_F) : Nat → zy_F := fun q => if q = b then u2 else if q = a then ua else us q
/-- what a drag has changed before the focus is given; ξ holds the trial tree -/
noncomputable def zv_drx (μ ξ ν : zm_M) (us : Nat → zy_F) (k a b : Nat) (ua : zy_F) : Prop :=
  zu_eqT ξ 6 ν b ∧ (a ≠ b → ∃ m ab' A B, zu_at μ a (us a) k m ∧ zu_eqT μ a A a ∧ zu_isOut A a (us a) m k B ab' ∧ zu_eqT B a ν a ∧ ua = (if (zu_tb A a m).erase k = [] then zy_out m (us a) else us a)) ∧
  (∀ j, j < 10 → ν 238 j = if j = k ∨ (a ≠ b ∧ zv_grp μ k j = true) then nI b else μ 238 j) ∧ (∀ s, s < 3 → (ν 251 s = 0 ∨ ν 251 s = μ 251 s) ∧ (ν 251 s = 0 ↔ μ 251 s = 0 ∨ ∃ j, j < 10 ∧ (j = k ∨ (a ≠ b ∧ zv_grp μ k j = true)) ∧ ¬ μ 252 (10 * s + j) = 0)) ∧
  ∀ c d, c ≠ 238 → c ≠ 239 → c ≠ 240 → c ≠ 251 → c ≠ 260 → ¬ zu_in 6 c d → ¬ zu_in a c d → ¬ zu_in b c d → ν c d = μ c d
noncomputable def zv_drgd (μ ν : zm_M) (row stk : List Nat) (us : Nat → zy_F) (w x y : Int32) : Prop :=
  ((¬ ∃ k o sd, zv_darg μ w x y k o sd) ∧ ν = μ) ∨
  ∃ k o sd a b ξ u2, zv_darg μ w x y k o sd ∧ a < 3 ∧ b < 3 ∧ μ 238 k = nI a ∧ μ 238 o = nI b ∧ zu_fr 6 μ ξ ∧ zv_trl μ ξ us a k o sd b u2 ∧
    (((zu_fit ξ 6 u2 (μ 232 b) (μ 233 b) = false ∨ (a ≠ b ∧ ¬ ∀ j, j < 10 → zv_drm μ k b (zv_grp μ k) j = true)) ∧ ∀ c d, c ≠ 260 → ¬ zu_in 6 c d → ν c d = μ c d) ∨
     ((zu_fit ξ 6 u2 (μ 232 b) (μ 233 b) = true ∧ (a = b ∨ ∀ j, j < 10 → zv_drm μ k b (zv_grp μ k) j = true)) ∧ ∃ ν6 ua, zv_drx μ ξ ν6 us k a b ua ∧ zv_foc ν6 ν row stk (zv_drU us a b ua u2) k))
theorem zv_gd_iff {p : Nat → Bool} {b : Bool} : ∀ n, zv_gd p b n = true ↔ b = true ∧ ∀ j, j < n → p j = true
  | 0 => ⟨fun h => ⟨h, fun _ q => absurd q (Nat.not_lt_zero _)⟩, fun h => h.1⟩
  | n + 1 => by
    show (zv_gd p b n && p n) = true ↔ _
    rw [Bool.and_eq_true, zv_gd_iff n]
    constructor
    · rintro ⟨⟨h1, h2⟩, h3⟩
      refine ⟨h1, fun j hj => ?_⟩
      by_cases e : j = n
      · rw [e]; exact h3
      · exact h2 j (by omega)
    · rintro ⟨h1, h2⟩
      exact ⟨⟨h1, fun j hj => h2 j (by omega)⟩, h2 n (by omega)⟩
theorem zu_eq_in {A B : zm_M} {τ : Nat} (hh : ∀ c d, zu_in τ c d → B c d = A c d) : zu_eqT A τ B τ :=
  ⟨hh _ _ (Or.inl ⟨rfl, rfl⟩), fun c n hc hn => hh _ _ (Or.inr (Or.inl ⟨hc, by omega, by omega⟩)), fun n j hn hj => hh _ _ (Or.inr (Or.inr ⟨rfl, by omega, by omega⟩))⟩
section ZWN
variable {μ ν : zm_M} {row stk : List Nat} {us : Nat → zy_F}
set_option maxRecDepth 100000 in
/-- 72 to 94: the trial tree, without the window -/
theorem zv_dg1 (D : Nat) (h : zR μ row stk us) {k o a b : Nat} {x3 : Int32} (hk : k < 10) (hok : k ≠ o) (ha : a < 3) (hb : b < 3) (hka : μ 238 k = nI a) {mk mo : Nat} (atk : zu_at μ a (us a) k mk) (ato : zu_at μ b (us b) o mo) :
    ∃ μ0 u' n ab, ze_S (D + 27) 9 (some .int) zc_X6_drag 72 [(5, .int (nI b)), (4, .int (nI a)), (0, .ref 232), (1, .int (nI k)), (2, .int (nI o)), (3, .int x3)] [] (zm_mk μ) 94 [(5, .int (nI b)), (4, .int (nI a)), (0, .ref 232), (1, .int (nI k)), (2, .int (nI o)), (3, .int x3)] [] (zm_mk μ0) ∧ zv_isDr μ b (us b) k a μ0 u' ∧ zu_fr 6 μ μ0 ∧ zu_I μ0 6 u' ab ∧ zu_nd μ0 6 u' ∧ (∀ n ∈ zy_lvs u', k ∉ zu_tb μ0 6 n) ∧ zu_at μ0 6 u' o n := by
  have h6 : (Int8.ofInt 6).toInt32 = (6 : Int32) := by decide
  have q6 : nI 6 = (6 : Int32) := by decide
  obtain ⟨lc, cM⟩ := zM_c (μ := μ)
  obtain ⟨⟨abb, hIb⟩, hndb, hwb⟩ := h.2.2.2.2.1 b hb
  obtain ⟨N1, E1⟩ := ze_McopyTree (μ := μ) (D + 25) (f := b) (t := 6) (by omega) (by decide) (by omega)
  rw [q6] at E1
  have tq := zu_cq_eqT (μ := μ) (f := b) (t := 6)
  have fq : zu_fr 6 μ (zu_cq μ b 6 24 240) := zu_cq_fr
  by_cases c : a = b
  · subst c
    unfold zv_isDr
    generalize zu_cq μ a 6 24 240 = μa at E1 tq fq
    have hIa := tq.I hIb
    have hnda := zu_nd_eqT hIb hndb tq
    have atk' := zu_at_eqT hIb tq atk
    have ato' := zu_at_eqT hIb tq ato
    obtain ⟨lca, cMa⟩ := zM_c (μ := μa)
    obtain ⟨μ0, ab1, ⟨N2, E2⟩, ho⟩ := ze_Mleave (μ := μa) (D + 23) (τ := 6) (by decide) hIa hk atk'
    rw [q6] at E2
    obtain ⟨n1, n2⟩ := zu_isOut_no hIa hnda atk' ho
    refine ⟨μ0, _, mo, ab1, ⟨N1 + N2, 11, fun F m hF => ?_⟩, Or.inr ⟨rfl, mk, ab1, atk, ho, rfl⟩, fq.trans ho.2.2.2.2, ho.1, n1, n2, zu_isOut_at hIa hnda atk' ho (Ne.symm hok) ato'⟩
    simp [zg_0, zg_aload_n, zg_baload, zg_bastore, zg_bipush, zg_getfield, zg_goto, zg_iaload, zg_iastore, zg_iconst, zg_ifCond, zg_if_icmp, zg_iinc, zg_iload, zg_iload_n, zg_invokestatic, zg_invokevirtual, zg_irem, zg_ireturn, zg_istore, zg_ldc, zf_X6_drag, zi_ld, zi_lda, zi_cmp, zi_retOk, zi_isI, zi_f3, zi_cr, zi_ci, zi_cn, zi_get, zi_set, h6, cM, cMa, zq_Mod_copyTree, zq_Mod_leave, E1 F (by omega), E2 F (by omega)]
  · have nab : ¬ nI a = nI b := fun e => c ((nI_eq (by omega) (by omega)).mp e)
    refine ⟨_, us b, mo, abb, ⟨N1, 7, fun F m hF => ?_⟩, Or.inl ⟨c, rfl, tq⟩, fq, tq.I hIb, zu_nd_eqT hIb hndb tq, fun n hn z => ?_, zu_at_eqT hIb tq ato⟩
    · simp [zg_0, zg_aload_n, zg_baload, zg_bastore, zg_bipush, zg_getfield, zg_goto, zg_iaload, zg_iastore, zg_iconst, zg_ifCond, zg_if_icmp, zg_iinc, zg_iload, zg_iload_n, zg_invokestatic, zg_invokevirtual, zg_irem, zg_ireturn, zg_istore, zg_ldc, zf_X6_drag, zi_ld, zi_lda, zi_cmp, zi_retOk, zi_isI, zi_f3, zi_cr, zi_ci, zi_cn, zi_get, zi_set, h6, cM, zq_Mod_copyTree, E1 F (by omega), nab]
    · rw [tq.tb (zu_I_lt hIb hn) (zu_I_tbl hIb hn)] at z
      exact nab (hka.symm.trans (hwb n hn k z).2)
set_option maxRecDepth 100000 in
/-- 94 to 150: the window comes to it -/
theorem zv_dg2 (D : Nat) {μ0 : zm_M} {u' : zy_F} {ab : Nat → Int32} {k o n sd : Nat} {s t : Int32} (hk : k < 10) (ho : o < 10) (hsd : sd < 5) (hI : zu_I μ0 6 u' ab) (hnd : zu_nd μ0 6 u') (hno : ∀ n ∈ zy_lvs u', k ∉ zu_tb μ0 6 n) (hat : zu_at μ0 6 u' o n) :
    ∃ ξ u2 ab2 m, ze_S (D + 27) 9 (some .int) zc_X6_drag 94 [(5, .int t), (4, .int s), (0, .ref 232), (1, .int (nI k)), (2, .int (nI o)), (3, .int (nI sd))] [] (zm_mk μ0) 150 [(6, .int (nI n)), (5, .int t), (4, .int s), (0, .ref 232), (1, .int (nI k)), (2, .int (nI o)), (3, .int (nI sd))] [] (zm_mk ξ) ∧ zv_dn2 μ0 ξ u' k n sd u2 ∧ zu_fr 6 μ0 ξ ∧ zu_I ξ 6 u2 ab2 ∧ zu_at ξ 6 u2 k m := by
  have h6 : (Int8.ofInt 6).toInt32 = (6 : Int32) := by decide
  have q6 : nI 6 = (6 : Int32) := by decide
  obtain ⟨lc, cM⟩ := zM_c (μ := μ0)
  obtain ⟨N1, E1⟩ := ze_MleafOf_at (μ := μ0) (D + 24) (by decide) hI ho hat
  rw [q6] at E1
  by_cases c : sd = 4
  · subst c
    obtain ⟨ξ, ⟨N2, E2⟩, hT⟩ := ze_MaddTabI (μ := μ0) (D + 25) (τ := 6) (by decide) hI hat.1 hk (zu_tb9 hI hnd hat.1 hk (hno n hat.1))
    rw [q6] at E2
    have c4 : nI 4 = (4 : Int32) := by decide
    refine ⟨ξ, u', ab, n, ⟨N1 + N2, 14, fun F m hF => ?_⟩, Or.inl ⟨rfl, rfl, ab, hT⟩, hT.2.2.2.2, hT.1, zu_isTab_at hI hat.1 hk hno hT⟩
    simp [zg_0, zg_aload_n, zg_baload, zg_bastore, zg_bipush, zg_getfield, zg_goto, zg_iaload, zg_iastore, zg_iconst, zg_ifCond, zg_if_icmp, zg_iinc, zg_iload, zg_iload_n, zg_invokestatic, zg_invokevirtual, zg_irem, zg_ireturn, zg_istore, zg_ldc, zf_X6_drag, zi_ld, zi_lda, zi_cmp, zi_retOk, zi_isI, zi_f3, zi_cr, zi_ci, zi_cn, zi_get, zi_set, h6, cM, zq_Mod_leafOf, zq_Mod_addTab, E1 F (by omega), E2 F (by omega), c4]
  · have hsd4 : sd < 4 := by omega
    obtain ⟨ξ, ab2, cc, f, ⟨N2, E2⟩, hC⟩ := ze_McutLeaf (μ := μ0) (D + 23) (τ := 6) (a := sd / 2) (by decide) hI hat.1 hk (by omega) (decide (sd % 2 = 0)) (zu_lvs10 hI hnd).2
    rw [q6] at E2
    have c4 : ¬ nI sd = 4 := fun e => c ((nI_eq (a := sd) (b := 4) (by omega) (by decide)).mp e)
    have S1 : ze_S (D + 27) 9 (some .int) zc_X6_drag 94 [(5, .int t), (4, .int s), (0, .ref 232), (1, .int (nI k)), (2, .int (nI o)), (3, .int (nI sd))] [] (zm_mk μ0) 120 [(6, .int (nI n)), (5, .int t), (4, .int s), (0, .ref 232), (1, .int (nI k)), (2, .int (nI o)), (3, .int (nI sd))] [] (zm_mk μ0) := by
      refine ⟨N1, 8, fun F m hF => ?_⟩
      simp [zg_0, zg_aload_n, zg_baload, zg_bastore, zg_bipush, zg_getfield, zg_goto, zg_iaload, zg_iastore, zg_iconst, zg_ifCond, zg_if_icmp, zg_iinc, zg_iload, zg_iload_n, zg_invokestatic, zg_invokevirtual, zg_irem, zg_ireturn, zg_istore, zg_ldc, zf_X6_drag, zi_ld, zi_lda, zi_cmp, zi_retOk, zi_isI, zi_f3, zi_cr, zi_ci, zi_cn, zi_get, zi_set, h6, cM, zq_Mod_leafOf, E1 F (by omega), c4]
    have S2 : ze_S (D + 27) 9 (some .int) zc_X6_drag 120 [(6, .int (nI n)), (5, .int t), (4, .int s), (0, .ref 232), (1, .int (nI k)), (2, .int (nI o)), (3, .int (nI sd))] [] (zm_mk μ0) 147 [(6, .int (nI n)), (5, .int t), (4, .int s), (0, .ref 232), (1, .int (nI k)), (2, .int (nI o)), (3, .int (nI sd))] [.int (if decide (sd % 2 = 0) = true then 1 else 0), .int (nI k), .int (nI (sd / 2 + 2)), .int (nI n), .int 6, .ref 232] (zm_mk μ0) := by
      match sd, hsd4 with
      | 0, _ =>
        have r1 : ¬ (2 : Int32) ≤ nI 0 := by decide
        have r2 : nI 0 - nI 0 / 2 * 2 = 0 := by decide
        have r3 : nI (0 / 2 + 2) = 2 := by decide
        refine ⟨0, 15, fun F m hF => ?_⟩
        simp [zg_0, zg_aload_n, zg_baload, zg_bastore, zg_bipush, zg_getfield, zg_goto, zg_iaload, zg_iastore, zg_iconst, zg_ifCond, zg_if_icmp, zg_iinc, zg_iload, zg_iload_n, zg_invokestatic, zg_invokevirtual, zg_irem, zg_ireturn, zg_istore, zg_ldc, zf_X6_drag, zi_ld, zi_lda, zi_cmp, zi_retOk, zi_isI, zi_f3, zi_cr, zi_ci, zi_cn, zi_get, zi_set, h6, r1, r2, r3]
        try rfl
      | 1, _ =>
        have r1 : ¬ (2 : Int32) ≤ nI 1 := by decide
        have r2 : nI 1 - nI 1 / 2 * 2 = 1 := by decide
        have r3 : nI (1 / 2 + 2) = 2 := by decide
        refine ⟨0, 14, fun F m hF => ?_⟩
        simp [zg_0, zg_aload_n, zg_baload, zg_bastore, zg_bipush, zg_getfield, zg_goto, zg_iaload, zg_iastore, zg_iconst, zg_ifCond, zg_if_icmp, zg_iinc, zg_iload, zg_iload_n, zg_invokestatic, zg_invokevirtual, zg_irem, zg_ireturn, zg_istore, zg_ldc, zf_X6_drag, zi_ld, zi_lda, zi_cmp, zi_retOk, zi_isI, zi_f3, zi_cr, zi_ci, zi_cn, zi_get, zi_set, h6, r1, r2, r3]
        try rfl
      | 2, _ =>
        have r1 : (2 : Int32) ≤ nI 2 := by decide
        have r2 : nI 2 - nI 2 / 2 * 2 = 0 := by decide
        have r3 : nI (2 / 2 + 2) = 3 := by decide
        refine ⟨0, 14, fun F m hF => ?_⟩
        simp [zg_0, zg_aload_n, zg_baload, zg_bastore, zg_bipush, zg_getfield, zg_goto, zg_iaload, zg_iastore, zg_iconst, zg_ifCond, zg_if_icmp, zg_iinc, zg_iload, zg_iload_n, zg_invokestatic, zg_invokevirtual, zg_irem, zg_ireturn, zg_istore, zg_ldc, zf_X6_drag, zi_ld, zi_lda, zi_cmp, zi_retOk, zi_isI, zi_f3, zi_cr, zi_ci, zi_cn, zi_get, zi_set, h6, r1, r2, r3]
        try rfl
      | 3, _ =>
        have r1 : (2 : Int32) ≤ nI 3 := by decide
        have r2 : nI 3 - nI 3 / 2 * 2 = 1 := by decide
        have r3 : nI (3 / 2 + 2) = 3 := by decide
        refine ⟨0, 13, fun F m hF => ?_⟩
        simp [zg_0, zg_aload_n, zg_baload, zg_bastore, zg_bipush, zg_getfield, zg_goto, zg_iaload, zg_iastore, zg_iconst, zg_ifCond, zg_if_icmp, zg_iinc, zg_iload, zg_iload_n, zg_invokestatic, zg_invokevirtual, zg_irem, zg_ireturn, zg_istore, zg_ldc, zf_X6_drag, zi_ld, zi_lda, zi_cmp, zi_retOk, zi_isI, zi_f3, zi_cr, zi_ci, zi_cn, zi_get, zi_set, h6, r1, r2, r3]
        try rfl
    generalize (if decide (sd % 2 = 0) = true then (1 : Int32) else 0) = bb at E2 S2
    refine ⟨ξ, _, ab2, f, S1.trans (S2.trans ⟨N2, 1, fun F m hF => ?_⟩), Or.inr ⟨hsd4, ab2, cc, f, rfl, hC⟩, hC.2.2.2.2.2.2.2.2, hC.1, zu_isCut_at hI hat.1 hk hno hC⟩
    simp [zg_0, zg_aload_n, zg_baload, zg_bastore, zg_bipush, zg_getfield, zg_goto, zg_iaload, zg_iastore, zg_iconst, zg_ifCond, zg_if_icmp, zg_iinc, zg_iload, zg_iload_n, zg_invokestatic, zg_invokevirtual, zg_irem, zg_ireturn, zg_istore, zg_ldc, zf_X6_drag, zi_ld, zi_lda, zi_cmp, zi_retOk, zi_isI, zi_f3, zi_cr, zi_ci, zi_cn, cM, zq_Mod_cutLeaf, E2 F (by omega)]
end ZWN
end
section
/-! the reference: drag, whole -/
section ZWO
variable {μ ν : zm_M} {row stk : List Nat} {us : Nat → zy_F}
theorem zR_ow (h : zR μ row stk us) : zv_ow μ (zv_dlg μ) (zv_own μ) := fun x hx => ⟨⟨fun e => of_decide_eq_true e, fun e => decide_eq_true e⟩, fun e => by
  obtain ⟨rk, hr⟩ := h.2.2.2.1
  obtain ⟨o, ho, e2, -⟩ := hr.2 x hx e
  unfold zv_own
  rw [e2, nI_clamp (by omega)]
  exact ⟨ho, rfl⟩⟩
theorem zv_ow_cells {dl : Nat → Bool} {ow : Nat → Nat} (h : zv_ow μ dl ow) (f : ∀ c d, c = 234 ∨ c = 237 → ν c d = μ c d) : zv_ow ν dl ow := fun x hx => by
  rw [f 234 x (Or.inl rfl), f 237 x (Or.inr rfl)]
  exact h x hx
set_option maxRecDepth 100000 in
/-- is drag asked rightly? -/
theorem zv_dg0 (D : Nat) (h : zR μ row stk us) (w x y : Int32) : ((¬ ∃ k o sd, zv_darg μ w x y k o sd) ∧ ∃ v, ze_G (D + 27) 9 (some .int) zc_X6_drag 0 [(0, .ref 232), (1, .int w), (2, .int x), (3, .int y)] [] (zm_mk μ) (some (.int v)) (zm_mk μ)) ∨
    ∃ k o sd a b, zv_darg μ w x y k o sd ∧ a < 3 ∧ b < 3 ∧ μ 238 k = nI a ∧ μ 238 o = nI b ∧ (∃ m, zu_at μ a (us a) k m) ∧ (∃ m, zu_at μ b (us b) o m) ∧ ze_S (D + 27) 9 (some .int) zc_X6_drag 0 [(0, .ref 232), (1, .int w), (2, .int x), (3, .int y)] [] (zm_mk μ) 72 [(5, .int (nI b)), (4, .int (nI a)), (0, .ref 232), (1, .int (nI k)), (2, .int (nI o)), (3, .int (nI sd))] [] (zm_mk μ) := by
  have n1 : Int32.ofInt (-1000000001) = -1000000001 := by decide
  have n2 : Int32.ofInt (-1000000002) = -1000000002 := by decide
  obtain ⟨lc, cM⟩ := zM_c (μ := μ)
  rcases zR_win (D + 25) h w with ⟨k, hk, rfl, k0, N1, E1⟩ | ⟨⟨N1, E1⟩, c0⟩
  · have ik : zi_in (nI k) 10 = true := zm_in hk (by decide)
    have ck : (nI k).toNatClampNeg = k := nI_clamp (by omega)
    rcases zR_win (D + 25) h x with ⟨o, ho, rfl, o0, N2, E2⟩ | ⟨⟨N2, E2⟩, c0⟩
    · have io : zi_in (nI o) 10 = true := zm_in ho (by decide)
      have co : (nI o).toNatClampNeg = o := nI_clamp (by omega)
      by_cases c1 : k = o
      · subst c1
        refine Or.inl ⟨fun ⟨k', o', sd, q1, q2, q3⟩ => ?_, -1000000001, N1 + N2, 13, fun F n hF => ?_⟩
        · have e1 := (nI_eq (by omega) (by omega)).mp q2.1
          have e2 := (nI_eq (by omega) (by omega)).mp q2.2.1
          exact q3.2.2 (e1.symm.trans e2)
        · simp [zg_0, zg_aload_n, zg_baload, zg_bastore, zg_bipush, zg_getfield, zg_goto, zg_iaload, zg_iastore, zg_iconst, zg_ifCond, zg_if_icmp, zg_iinc, zg_iload, zg_iload_n, zg_invokestatic, zg_invokevirtual, zg_irem, zg_ireturn, zg_istore, zg_ldc, zf_X6_drag, zi_ld, zi_lda, zi_cmp, zi_retOk, zi_isI, zi_f3, zi_cr, zi_ci, zi_cn, zi_get, zi_set, cM, zq_Mod_isWindow, E1 F (by omega), E2 F (by omega), n1]
      · have c1' : ¬ nI k = nI o := fun e => c1 ((nI_eq (by omega) (by omega)).mp e)
        rcases zM_isIn (hp := zm_mk μ) (D + 26) y (n := 4) (b := 4) (by decide) (by decide) with ⟨sd, hsd, rfl, N3, E3⟩ | ⟨⟨N3, E3⟩, hno⟩
        · by_cases c2 : μ 234 k = 1
          · by_cases c3 : μ 234 o = 1
            · obtain ⟨a, ma, aba, ha, hha, hIa, hata⟩ := zR_til h hk c2
              obtain ⟨b, mb, abb, hb, hhb, hIb, hatb⟩ := zR_til h ho c3
              refine Or.inr ⟨k, o, sd, a, b, ⟨⟨hk, ho, hsd⟩, ⟨rfl, rfl, rfl⟩, c2, c3, c1⟩, ha, hb, hha, hhb, ⟨ma, hata⟩, ⟨mb, hatb⟩, N1 + N2 + N3, 38, fun F n hF => ?_⟩
              simp [zg_0, zg_aload_n, zg_baload, zg_bastore, zg_bipush, zg_getfield, zg_goto, zg_iaload, zg_iastore, zg_iconst, zg_ifCond, zg_if_icmp, zg_iinc, zg_iload, zg_iload_n, zg_invokestatic, zg_invokevirtual, zg_irem, zg_ireturn, zg_istore, zg_ldc, zf_X6_drag, zi_ld, zi_lda, zi_cmp, zi_retOk, zi_isI, zi_f3, zi_cr, zi_ci, zi_cn, zi_get, zi_set, zM_g, cM, zq_Mod_isWindow, zq_Mod_isIn, E1 F (by omega), E2 F (by omega), E3 F (by omega), c1', zm_iald (k := 0) zM_A234 ik, zm_iald (k := 0) zM_A234 io, zm_iald (k := 0) zM_A238 ik, zm_iald (k := 0) zM_A238 io, ck, co, c2, c3, hha, hhb]
            · refine Or.inl ⟨fun ⟨k', o', sd', q1, q2, q3⟩ => ?_, -1000000002, N1 + N2 + N3, 30, fun F n hF => ?_⟩
              · rw [← (nI_eq (by omega) (by omega)).mp q2.2.1] at q3
                exact c3 q3.2.1
              · simp [zg_0, zg_aload_n, zg_baload, zg_bastore, zg_bipush, zg_getfield, zg_goto, zg_iaload, zg_iastore, zg_iconst, zg_ifCond, zg_if_icmp, zg_iinc, zg_iload, zg_iload_n, zg_invokestatic, zg_invokevirtual, zg_irem, zg_ireturn, zg_istore, zg_ldc, zf_X6_drag, zi_ld, zi_lda, zi_cmp, zi_retOk, zi_isI, zi_f3, zi_cr, zi_ci, zi_cn, zi_get, zi_set, zM_g, cM, zq_Mod_isWindow, zq_Mod_isIn, E1 F (by omega), E2 F (by omega), E3 F (by omega), c1', zm_iald (k := 0) zM_A234 ik, zm_iald (k := 0) zM_A234 io, ck, co, c2, c3, n2]
          · refine Or.inl ⟨fun ⟨k', o', sd', q1, q2, q3⟩ => ?_, -1000000002, N1 + N2 + N3, 24, fun F n hF => ?_⟩
            · rw [← (nI_eq (by omega) (by omega)).mp q2.1] at q3
              exact c2 q3.1
            · simp [zg_0, zg_aload_n, zg_baload, zg_bastore, zg_bipush, zg_getfield, zg_goto, zg_iaload, zg_iastore, zg_iconst, zg_ifCond, zg_if_icmp, zg_iinc, zg_iload, zg_iload_n, zg_invokestatic, zg_invokevirtual, zg_irem, zg_ireturn, zg_istore, zg_ldc, zf_X6_drag, zi_ld, zi_lda, zi_cmp, zi_retOk, zi_isI, zi_f3, zi_cr, zi_ci, zi_cn, zi_get, zi_set, zM_g, cM, zq_Mod_isWindow, zq_Mod_isIn, E1 F (by omega), E2 F (by omega), E3 F (by omega), c1', zm_iald (k := 0) zM_A234 ik, ck, c2, n2]
        · refine Or.inl ⟨fun ⟨k', o', sd', q1, q2, q3⟩ => hno sd' (by omega) q2.2.2, -1000000001, N1 + N2 + N3, 18, fun F n hF => ?_⟩
          simp [zg_0, zg_aload_n, zg_baload, zg_bastore, zg_bipush, zg_getfield, zg_goto, zg_iaload, zg_iastore, zg_iconst, zg_ifCond, zg_if_icmp, zg_iinc, zg_iload, zg_iload_n, zg_invokestatic, zg_invokevirtual, zg_irem, zg_ireturn, zg_istore, zg_ldc, zf_X6_drag, zi_ld, zi_lda, zi_cmp, zi_retOk, zi_isI, zi_f3, zi_cr, zi_ci, zi_cn, zi_get, zi_set, cM, zq_Mod_isWindow, zq_Mod_isIn, E1 F (by omega), E2 F (by omega), E3 F (by omega), c1', n1]
    · refine Or.inl ⟨fun ⟨k', o', sd', q1, q2, q3⟩ => ?_, -1000000001, N1 + N2, 10, fun F n hF => ?_⟩
      · rw [c0 o' q1.2.1 q2.2.1] at q3
        exact absurd q3.2.1 (by decide)
      · simp [zg_0, zg_aload_n, zg_baload, zg_bastore, zg_bipush, zg_getfield, zg_goto, zg_iaload, zg_iastore, zg_iconst, zg_ifCond, zg_if_icmp, zg_iinc, zg_iload, zg_iload_n, zg_invokestatic, zg_invokevirtual, zg_irem, zg_ireturn, zg_istore, zg_ldc, zf_X6_drag, zi_ld, zi_lda, zi_cmp, zi_retOk, zi_isI, zi_f3, zi_cr, zi_ci, zi_cn, zi_get, zi_set, cM, zq_Mod_isWindow, E1 F (by omega), E2 F (by omega), n1]
  · refine Or.inl ⟨fun ⟨k', o', sd', q1, q2, q3⟩ => ?_, -1000000001, N1, 6, fun F n hF => ?_⟩
    · rw [c0 k' q1.1 q2.1] at q3
      exact absurd q3.1 (by decide)
    · simp [zg_0, zg_aload_n, zg_baload, zg_bastore, zg_bipush, zg_getfield, zg_goto, zg_iaload, zg_iastore, zg_iconst, zg_ifCond, zg_if_icmp, zg_iinc, zg_iload, zg_iload_n, zg_invokestatic, zg_invokevirtual, zg_irem, zg_ireturn, zg_istore, zg_ldc, zf_X6_drag, zi_ld, zi_lda, zi_cmp, zi_retOk, zi_isI, zi_f3, zi_cr, zi_ci, zi_cn, zi_get, zi_set, cM, zq_Mod_isWindow, E1 F (by omega), n1]
set_option maxRecDepth 100000 in
/-- 292 on: the drag is done -/
theorem zv_dg3 (D : Nat) (h : zR μ row stk us) {k a b m2 mk : Nat} {u2 : zy_F} {ab2 : Nat → Int32} (hk : k < 10) (ha : a < 3) (hb : b < 3) (hkt : μ 234 k = 1) (hka : μ 238 k = nI a) (atk : zu_at μ a (us a) k mk) {ξ θ : zm_M} (fξ : zu_fr 6 μ ξ) (f0 : ∀ c d, c ≠ 260 → θ c d = ξ c d) (hI2 : zu_I ξ 6 u2 ab2) (hat2 : zu_at ξ 6 u2 k m2) (hcm : zv_cm θ (zv_grp μ k))
    (L : zi_Lc) (nl : zi_nl L = true) (g0 : zi_get L 0 = some (.ref 232)) (g1 : zi_get L 1 = some (.int (nI k))) (g4 : zi_get L 4 = some (.int (nI a))) (g5 : zi_get L 5 = some (.int (nI b))) :
    ∃ ν ν6 ua, ze_G (D + 27) 9 (some .int) zc_X6_drag 292 L [] (zm_mk θ) (some (.int 0)) (zm_mk ν) ∧ zv_drx μ ξ ν6 us k a b ua ∧ zv_foc ν6 ν row stk (zv_drU us a b ua u2) k := by
  have h6 : (Int8.ofInt 6).toInt32 = (6 : Int32) := by decide
  have q6 : nI 6 = (6 : Int32) := by decide
  have h10 : (Int8.ofInt 10).toInt32 = (10 : Int32) := by decide
  have ik : zi_in (nI k) 10 = true := zm_in hk (by decide)
  have ck : (nI k).toNatClampNeg = k := nI_clamp (by omega)
  obtain ⟨lc, cM⟩ := zM_c (μ := θ)
  obtain ⟨⟨aba, hIa⟩, hnda, hwa⟩ := h.2.2.2.2.1 a ha
  obtain ⟨N1, E1⟩ := ze_Mforget (μ := θ) (D + 26) hk
  have f1 : ∀ c d, c ≠ 251 → zv_fg θ k c d = θ c d := fun c d r => zv_fg_ne r
  have e1 : ∀ s, s < 3 → zv_fg θ k 251 s = if ¬ θ 251 s = 0 ∧ ¬ θ 252 (10 * s + k) = 0 then 0 else θ 251 s := fun s hs => zv_fg_at hs
  generalize zv_fg θ k = θ1 at E1 f1 e1
  obtain ⟨lc1, cM1⟩ := zM_c (μ := θ1)
  have g12 : ∀ c d, c ≠ 251 → c ≠ 260 → ¬ zu_in 6 c d → θ1 c d = μ c d := fun c d r1 r2 r3 => (f1 c d r1).trans ((f0 c d r2).trans (fξ c d r3))
  have t6 : zu_eqT ξ 6 θ1 6 := zu_eq_in (fun c d r => (f1 c d (fun z => zu_in_not (Or.inr (by omega)) r)).trans (f0 c d (fun z => zu_in_not (Or.inr (by omega)) r)))
  have tA : zu_eqT μ a θ1 a := zu_eq_in (fun c d r => g12 c d (fun z => zu_in_not (Or.inr (by omega)) r) (fun z => zu_in_not (Or.inr (by omega)) r) (zu_in_ne r (by omega)))
  -- the window leaves its tree
  have lv : ∃ θ2 ua, ze_S (D + 27) 9 (some .int) zc_X6_drag 292 L [] (zm_mk θ) 311 L [] (zm_mk θ2) ∧ (a ≠ b → ∃ m ab', zu_at μ a (us a) k m ∧ zu_isOut θ1 a (us a) m k θ2 ab' ∧ ua = (if (zu_tb θ1 a m).erase k = [] then zy_out m (us a) else us a)) ∧ (∀ c d, ¬ zu_in a c d → θ2 c d = θ1 c d) ∧ (a = b → θ2 = θ1) := by
    by_cases c : a = b
    · have c' : nI a = nI b := by rw [c]
      refine ⟨θ1, .nil, ⟨N1, 6, fun F m hF => ?_⟩, fun z => absurd c z, fun _ _ _ => rfl, fun _ => rfl⟩
      simp (maxDischargeDepth := 9) [zg_0, zg_aload_n, zg_baload, zg_bastore, zg_bipush, zg_getfield, zg_goto, zg_iaload, zg_iastore, zg_iconst, zg_ifCond, zg_if_icmp, zg_iinc, zg_iload, zg_iload_n, zg_invokestatic, zg_invokevirtual, zg_irem, zg_ireturn, zg_istore, zg_ldc, zf_X6_drag, zi_ld, zi_lda, zi_cmp, zi_retOk, zi_isI, zi_f3, zi_cr, zi_ci, zi_cn, zi_get_ne, zi_nl_i, zi_nl_r, zi_get_set_eq, nl, g0, g1, g4, g5, cM, zq_Mod_forget, E1 F (by omega), c']
    · have c' : ¬ nI a = nI b := fun e => c ((nI_eq (by omega) (by omega)).mp e)
      obtain ⟨θ2, ab', ⟨N2, E2⟩, ho⟩ := ze_Mleave (μ := θ1) (D + 23) (τ := a) (by omega) (tA.I hIa) hk (zu_at_eqT hIa tA atk)
      refine ⟨θ2, _, ⟨N1 + N2, 10, fun F m hF => ?_⟩, fun _ => ⟨mk, ab', atk, ho, rfl⟩, ho.2.2.2.2, fun z => absurd z c⟩
      simp (maxDischargeDepth := 9) [zg_0, zg_aload_n, zg_baload, zg_bastore, zg_bipush, zg_getfield, zg_goto, zg_iaload, zg_iastore, zg_iconst, zg_ifCond, zg_if_icmp, zg_iinc, zg_iload, zg_iload_n, zg_invokestatic, zg_invokevirtual, zg_irem, zg_ireturn, zg_istore, zg_ldc, zf_X6_drag, zi_ld, zi_lda, zi_cmp, zi_retOk, zi_isI, zi_f3, zi_cr, zi_ci, zi_cn, zi_get_ne, zi_nl_i, zi_nl_r, zi_get_set_eq, nl, g0, g1, g4, g5, cM, cM1, zq_Mod_forget, zq_Mod_leave, E1 F (by omega), E2 F (by omega), c']
  obtain ⟨θ2, ua, S1, o1, o2, o3⟩ := lv
  obtain ⟨lc2, cM2⟩ := zM_c (μ := θ2)
  obtain ⟨N3, E3⟩ := ze_McopyTree (μ := θ2) (D + 25) (f := 6) (t := b) (by decide) (by omega) (by omega)
  rw [q6] at E3
  have t3 := zu_cq_eqT (μ := θ2) (f := 6) (t := b)
  have f3 : zu_fr b θ2 (zu_cq θ2 6 b 24 240) := zu_cq_fr
  generalize zu_cq θ2 6 b 24 240 = θ3 at E3 t3 f3
  have f4 : ∀ c d, ¬ (c = 238 ∧ d = k) → zm_up θ3 238 k (nI b) c d = θ3 c d := fun c d r => zm_up_ne r
  have e4 : zm_up θ3 238 k (nI b) 238 k = nI b := zm_up_eq
  have S2 : ze_S (D + 27) 9 (some .int) zc_X6_drag 311 L [] (zm_mk θ2) 330 (zi_set L 8 (.int (nI 0))) [] (zm_mk (zm_up θ3 238 k (nI b))) := by
    refine ⟨N3, 11, fun F m hF => ?_⟩
    simp (maxDischargeDepth := 9) [zg_0, zg_aload_n, zg_baload, zg_bastore, zg_bipush, zg_getfield, zg_goto, zg_iaload, zg_iastore, zg_iconst, zg_ifCond, zg_if_icmp, zg_iinc, zg_iload, zg_iload_n, zg_invokestatic, zg_invokevirtual, zg_irem, zg_ireturn, zg_istore, zg_ldc, zf_X6_drag, zi_ld, zi_lda, zi_cmp, zi_retOk, zi_isI, zi_f3, zi_cr, zi_ci, zi_cn, zi_get_ne, zi_nl_i, zi_nl_r, zi_get_set_eq, nl, g0, g1, g4, g5, h6, cM2, zM_g, zq_Mod_copyTree, E3 F (by omega), zm_iast zM_A238 ik, ck, nI_0]
  generalize zm_up θ3 238 k (nI b) = θ4 at f4 e4 S2
  -- cells that are in no tree
  have up : ∀ c d, c < 243 ∨ 250 < c → ¬ (c = 238 ∧ d = k) → θ4 c d = θ1 c d := fun c d r1 r2 => (f4 c d r2).trans ((f3 c d (zu_in_not r1)).trans (o2 c d (zu_in_not r1)))
  have upμ : ∀ c d, c < 243 ∨ 250 < c → ¬ (c = 238 ∧ d = k) → c ≠ 251 → c ≠ 260 → θ4 c d = μ c d := fun c d r1 r2 r3 r4 => (up c d r1 r2).trans (g12 c d r3 r4 (zu_in_not r1))
  have hcm4 : zv_cm θ4 (zv_grp μ k) := fun j hj => by
    rw [up _ _ (by decide) (by omega), f1 _ _ (by decide)]
    exact hcm j hj
  -- its dialogs come along
  have dg : ∃ ν6 L6, ze_S (D + 27) 9 (some .int) zc_X6_drag 330 (zi_set L 8 (.int (nI 0))) [] (zm_mk θ4) 394 L6 [] (zm_mk ν6) ∧ zi_get L6 0 = some (.ref 232) ∧ zi_get L6 1 = some (.int (nI k)) ∧ (a = b → ν6 = θ4) ∧ (a ≠ b → zv_dgw θ4 ν6 k b (zv_grp μ k) 10) := by
    by_cases c : a = b
    · have c' : nI a = nI b := by rw [c]
      have c1 : ¬ (10 : Int32) ≤ nI 0 := by decide
      refine ⟨θ4, zi_set L 8 (.int (nI 0)), ⟨0, 6, fun F m hF => ?_⟩, by simp (maxDischargeDepth := 9) [zi_get_ne, zi_nl_i, zi_nl_r, zi_get_set_eq, nl, g0], by simp (maxDischargeDepth := 9) [zi_get_ne, zi_nl_i, zi_nl_r, zi_get_set_eq, nl, g1], fun _ => rfl, fun z => absurd c z⟩
      simp (maxDischargeDepth := 9) [zg_0, zg_aload_n, zg_baload, zg_bastore, zg_bipush, zg_getfield, zg_goto, zg_iaload, zg_iastore, zg_iconst, zg_ifCond, zg_if_icmp, zg_iinc, zg_iload, zg_iload_n, zg_invokestatic, zg_invokevirtual, zg_irem, zg_ireturn, zg_istore, zg_ldc, zf_X6_drag, zi_ld, zi_lda, zi_cmp, zi_retOk, zi_isI, zi_f3, zi_cr, zi_ci, zi_cn, zi_get_ne, zi_nl_i, zi_nl_r, zi_get_set_eq, nl, g0, g1, g4, g5, h10, c1, c']
    · obtain ⟨L', h', S, nl', b0, b1, ν6, rfl, q⟩ := zv_dgC (μ := θ4) (D + 25) hk ha hb c hcm4 (zi_set L 8 (.int (nI 0))) (by simp (maxDischargeDepth := 9) [zi_get_ne, zi_nl_i, zi_nl_r, zi_get_set_eq, nl]) (by simp (maxDischargeDepth := 9) [zi_get_ne, zi_nl_i, zi_nl_r, zi_get_set_eq, nl, g0]) (by simp (maxDischargeDepth := 9) [zi_get_ne, zi_nl_i, zi_nl_r, zi_get_set_eq, nl, g1]) (by simp (maxDischargeDepth := 9) [zi_get_ne, zi_nl_i, zi_nl_r, zi_get_set_eq, nl, g4]) (by simp (maxDischargeDepth := 9) [zi_get_ne, zi_nl_i, zi_nl_r, zi_get_set_eq, nl, g5]) zi_get_set_eq
      exact ⟨ν6, L', S, b0, b1, fun z => absurd z c, fun _ => q⟩
  obtain ⟨ν6, L6, S3, b0, b1, d1, d2⟩ := dg
  have d3 : ∀ c d, c ≠ 238 → c ≠ 239 → c ≠ 240 → c ≠ 251 → ν6 c d = θ4 c d := fun c d r1 r2 r3 r4 => by
    by_cases e : a = b
    · rw [d1 e]
    · exact (d2 e).2.2 c d r1 r2 r3 r4
  have din : ∀ τ c d, zu_in τ c d → ν6 c d = θ3 c d := fun τ c d r => (d3 c d (fun z => zu_in_not (Or.inl (by omega)) r) (fun z => zu_in_not (Or.inl (by omega)) r) (fun z => zu_in_not (Or.inl (by omega)) r) (fun z => zu_in_not (Or.inr (by omega)) r)).trans (f4 c d (fun z => zu_in_not (Or.inl (by omega)) r))
  have tb6 : zu_eqT ξ 6 ν6 b := by
    have t1 : zu_eqT θ1 6 θ2 6 := zu_eq_in (fun c d r => o2 c d (zu_in_ne r (by omega)))
    exact t6.trans (t1.trans (t3.trans (zu_eq_in (din b))))
  have x8 : ∀ j, j < 10 → ν6 238 j = if j = k ∨ (a ≠ b ∧ zv_grp μ k j = true) then nI b else μ 238 j := fun j hj => by
    by_cases e : a = b
    · rw [d1 e]
      by_cases ek : j = k
      · rw [if_pos (Or.inl ek), ek, e4]
      · rw [if_neg (fun z => z.elim ek (fun z => z.1 e)), upμ _ _ (by decide) (by omega) (by decide) (by decide)]
    · rw [(d2 e).1 j hj]
      by_cases ek : j = k
      · rw [if_pos (Or.inl ek), if_neg (fun z => z.2.2 ek), ek, e4]
      · by_cases eg : zv_grp μ k j = true
        · rw [if_pos ⟨hj, eg, ek⟩, if_pos (Or.inr ⟨e, eg⟩)]
        · rw [if_neg (fun z => eg z.2.1), if_neg (fun z => z.elim ek (fun z => eg z.2)), upμ _ _ (by decide) (by omega) (by decide) (by decide)]
  have x4 : ∀ d, ν6 234 d = μ 234 d := fun d => (d3 _ _ (by decide) (by decide) (by decide) (by decide)).trans (upμ _ _ (by decide) (by omega) (by decide) (by decide))
  have x7 : ∀ d, ν6 237 d = μ 237 d := fun d => (d3 _ _ (by decide) (by decide) (by decide) (by decide)).trans (upμ _ _ (by decide) (by omega) (by decide) (by decide))
  have θ51 : ∀ s, θ 251 s = μ 251 s ∧ ∀ j, θ 252 j = μ 252 j := fun s => ⟨(f0 _ _ (by decide)).trans (fξ _ _ (zu_in_not (by decide))), fun j => (f0 _ _ (by decide)).trans (fξ _ _ (zu_in_not (by decide)))⟩
  have x51 : ∀ s, s < 3 → (ν6 251 s = 0 ∨ ν6 251 s = μ 251 s) ∧ (ν6 251 s = 0 ↔ μ 251 s = 0 ∨ ∃ j, j < 10 ∧ (j = k ∨ (a ≠ b ∧ zv_grp μ k j = true)) ∧ ¬ μ 252 (10 * s + j) = 0) := fun s hs => by
    have e4s : θ4 251 s = θ1 251 s := up _ _ (by decide) (by omega)
    have e1s := e1 s hs
    rw [(θ51 s).1, (θ51 s).2] at e1s
    have base : (θ4 251 s = 0 ∨ θ4 251 s = μ 251 s) ∧ (θ4 251 s = 0 ↔ μ 251 s = 0 ∨ ¬ μ 252 (10 * s + k) = 0) := by
      rw [e4s, e1s]
      by_cases c : ¬ μ 251 s = 0 ∧ ¬ μ 252 (10 * s + k) = 0
      · rw [if_pos c]
        exact ⟨Or.inl rfl, fun _ => Or.inr c.2, fun _ => rfl⟩
      · rw [if_neg c]
        exact ⟨Or.inr rfl, fun z => Or.inl z, fun z => z.elim id (fun z => Decidable.byContradiction fun w => c ⟨w, z⟩)⟩
    by_cases e : a = b
    · rw [d1 e]
      refine ⟨base.1, base.2.trans (or_congr Iff.rfl ⟨fun z => ⟨k, hk, Or.inl rfl, z⟩, fun ⟨j, _, z, w⟩ => ?_⟩)⟩
      rcases z with z | z
      · rw [← z]; exact w
      · exact absurd e z.1
    · obtain ⟨p1, p2⟩ := (d2 e).2.1 s hs
      have e252 : ∀ j, θ4 252 j = μ 252 j := fun j => upμ _ _ (by decide) (by omega) (by decide) (by decide)
      refine ⟨p1.elim Or.inl (fun z => ?_), p2.trans ⟨fun z => ?_, fun z => ?_⟩⟩
      · rw [z]; exact base.1
      · rcases z with z | ⟨j, hj, z, w⟩
        · exact (base.2.mp z).imp id (fun z => ⟨k, hk, Or.inl rfl, z⟩)
        · rw [e252] at w
          exact Or.inr ⟨j, hj, Or.inr ⟨e, z.1⟩, w⟩
      · rcases z with z | ⟨j, hj, z, w⟩
        · exact Or.inl (base.2.mpr (Or.inl z))
        · by_cases ek : j = k
          · rw [ek] at w; exact Or.inl (base.2.mpr (Or.inr w))
          · refine Or.inr ⟨j, hj, ⟨z.elim (fun z => absurd z ek) (fun z => z.2), ek⟩, ?_⟩
            rw [e252]; exact w
  have hdrx : zv_drx μ ξ ν6 us k a b ua := by
    refine ⟨tb6, fun e => ?_, x8, x51, fun c d r1 r2 r3 r4 r5 r6 r7 r8 => ?_⟩
    · obtain ⟨m, ab', q1, q2, q3⟩ := o1 e
      refine ⟨m, ab', θ1, θ2, q1, tA, q2, zu_eq_in (fun c d r => (din a c d r).trans (f3 c d (zu_in_ne r e))), q3⟩
    · rw [d3 c d r1 r2 r3 r4, f4 c d (fun z => r1 z.1), f3 c d r8, o2 c d r7]
      exact g12 c d r4 r5 r6
  obtain ⟨rk, hr⟩ := h.2.2.2.1
  have hr6 : zv_rk ν6 rk := ⟨hr.1, fun x hx e => by
    rw [x4] at e
    rw [x7]
    exact hr.2 x hx e⟩
  have rest : ∀ c d, c = 231 ∨ c = 241 ∨ c = 242 → ν6 c d = μ c d := fun c d r => (d3 c d (by omega) (by omega) (by omega) (by omega)).trans (upμ c d (by omega) (by omega) (by omega) (by omega))
  have hR := h.2.1
  have hS := h.2.2.1
  have hR6 : zv_L ν6 242 12 row := ⟨hR.1.1, (rest _ _ (Or.inl rfl)).trans hR.1.2.1, fun j hj => (rest _ _ (Or.inr (Or.inr rfl))).trans (hR.1.2.2 j hj)⟩
  have hS6 : zv_L ν6 241 10 stk := ⟨hS.1.1, (rest _ _ (Or.inl rfl)).trans hS.1.2.1, fun j hj => (rest _ _ (Or.inr (Or.inl rfl))).trans (hS.1.2.2 j hj)⟩
  obtain ⟨ν, ⟨N5, E5⟩, hf⟩ := zv_focused (μ := ν6) (us := zv_drU us a b ua u2) (D + 15) hr6 hk (fun _ => ⟨b, m2, ab2, hb, by rw [x8 k hk, if_pos (Or.inl rfl)], by
    show zu_I ν6 b (if b = b then u2 else _) ab2
    rw [if_pos rfl]
    exact tb6.I hI2, by
    show zu_at ν6 b (if b = b then u2 else _) k m2
    rw [if_pos rfl]
    exact zu_at_eqT hI2 tb6 hat2⟩) hS6 hS.2.1 (fun x hx => ((hS.2.2 x).mp hx).1) hR6 hR.2.1 (fun x hx => ((hR.2.2 x).mp hx).1)
  obtain ⟨lc6, cM6⟩ := zM_c (μ := ν6)
  refine ⟨ν, ν6, ua, S1.end (S2.end (S3.end ⟨N5, 5, fun F m hF => ?_⟩)), hdrx, hf⟩
  simp [zg_0, zg_aload_n, zg_baload, zg_bastore, zg_bipush, zg_getfield, zg_goto, zg_iaload, zg_iastore, zg_iconst, zg_ifCond, zg_if_icmp, zg_iinc, zg_iload, zg_iload_n, zg_invokestatic, zg_invokevirtual, zg_irem, zg_ireturn, zg_istore, zg_ldc, zf_X6_drag, zi_ld, zi_lda, zi_cmp, zi_retOk, zi_isI, zi_f3, zi_cr, zi_ci, zi_cn, b0, b1, cM6, zq_Mod_focused, E5 F (by omega)]
end ZWO
end
