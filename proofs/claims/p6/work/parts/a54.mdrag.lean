/-! the reference: drag, its loops -/
/-- the windows of g below i, but k, have gone to b; what is kept with them is forgotten -/
def zv_dgw (μ ξ : zm_M) (k b : Nat) (g : Nat → Bool) (i : Nat) : Prop :=
  (∀ j, j < 10 → ξ 238 j = if j < i ∧ g j = true ∧ j ≠ k then nI b else μ 238 j) ∧ (∀ s, s < 3 → (ξ 251 s = 0 ∨ ξ 251 s = μ 251 s) ∧ (ξ 251 s = 0 ↔ μ 251 s = 0 ∨ ∃ j, j < i ∧ (g j = true ∧ j ≠ k) ∧ ¬ μ 252 (10 * s + j) = 0)) ∧ ∀ c d, c ≠ 238 → c ≠ 239 → c ≠ 240 → c ≠ 251 → ξ c d = μ c d
/-- does the window j of g, other than k, find room on b? -/
def zv_drm (μ : zm_M) (k b : Nat) (g : Nat → Bool) (j : Nat) : Bool := !g j || decide (j = k) || decide (μ 235 j ≤ μ 232 b ∧ μ 236 j ≤ μ 233 b)
section ZWM
variable {μ ξ ν : zm_M} {k a b : Nat} {g : Nat → Bool}
theorem zv_dgw_no {i : Nat} (h : zv_dgw μ ξ k b g i) (hg : ¬ (g i = true ∧ i ≠ k)) : zv_dgw μ ξ k b g (i + 1) := by
  obtain ⟨h1, h2, h3⟩ := h
  refine ⟨fun j hj => ?_, fun s hs => ⟨(h2 s hs).1, (h2 s hs).2.trans (or_congr Iff.rfl ⟨fun ⟨j, p, q, r⟩ => ⟨j, by omega, q, r⟩, fun ⟨j, p, q, r⟩ => ⟨j, ?_, q, r⟩⟩)⟩, h3⟩
  · rw [h1 j hj]
    by_cases e : j = i
    · subst e
      rw [if_neg (fun z => hg z.2), if_neg (fun z => hg z.2)]
    · have : (j < i ∧ g j = true ∧ j ≠ k) ↔ (j < i + 1 ∧ g j = true ∧ j ≠ k) := ⟨fun z => ⟨by omega, z.2⟩, fun z => ⟨by omega, z.2⟩⟩
      simp only [this]
  · by_cases e : j = i
    · rw [e] at q; exact absurd q hg
    · omega
theorem zv_dgw_s {i : Nat} (hi : i < 10) (h : zv_dgw μ ξ k b g i) (hg : g i = true ∧ i ≠ k) (e1 : ν 238 i = nI b) (e2 : ∀ c d, c ≠ 239 → c ≠ 240 → ¬ (c = 238 ∧ d = i) → ν c d = ξ c d) : zv_dgw μ (zv_fg ν i) k b g (i + 1) := by
  obtain ⟨h1, h2, h3⟩ := h
  refine ⟨fun j hj => ?_, fun s hs => ?_, fun c d p1 p2 p3 p4 => (zv_fg_ne p4).trans ((e2 c d p2 p3 (fun z => p1 z.1)).trans (h3 c d p1 p2 p3 p4))⟩
  · rw [zv_fg_ne (by decide)]
    by_cases e : j = i
    · rw [e, e1, if_pos ⟨by omega, hg⟩]
    · rw [e2 _ _ (by decide) (by decide) (by omega), h1 j hj]
      have : (j < i ∧ g j = true ∧ j ≠ k) ↔ (j < i + 1 ∧ g j = true ∧ j ≠ k) := ⟨fun z => ⟨by omega, z.2⟩, fun z => ⟨by omega, z.2⟩⟩
      simp only [this]
  · have ea : ν 251 s = ξ 251 s := e2 _ _ (by decide) (by decide) (by omega)
    have eb : ν 252 (10 * s + i) = μ 252 (10 * s + i) := (e2 _ _ (by decide) (by decide) (by omega)).trans (h3 _ _ (by decide) (by decide) (by decide) (by decide))
    rw [zv_fg_at hs, ea, eb]
    obtain ⟨q1, q2⟩ := h2 s hs
    by_cases c : ¬ ξ 251 s = 0 ∧ ¬ μ 252 (10 * s + i) = 0
    · rw [if_pos c]
      exact ⟨Or.inl rfl, fun _ => Or.inr ⟨i, by omega, hg, c.2⟩, fun _ => rfl⟩
    · rw [if_neg c]
      refine ⟨q1, fun z => ?_, fun z => ?_⟩
      · rcases q2.mp z with w | ⟨j, w1, w2, w3⟩
        · exact Or.inl w
        · exact Or.inr ⟨j, by omega, w2, w3⟩
      · rcases z with w | ⟨j, w1, w2, w3⟩
        · exact q2.mpr (Or.inl w)
        · by_cases e : j = i
          · rw [e] at w3
            exact Decidable.byContradiction fun z => c ⟨z, w3⟩
          · exact q2.mpr (Or.inr ⟨j, by omega, w2, w3⟩)
set_option maxRecDepth 100000 in
theorem zv_dgA (D : Nat) (hk : k < 10) {s o x3 : Int32} (L0 : zi_Lc) (nl0 : zi_nl L0 = true) (a0 : zi_get L0 0 = some (.ref 232)) (a1 : zi_get L0 1 = some (.int (nI k))) (a3 : zi_get L0 3 = some (.int x3)) (a4 : zi_get L0 4 = some (.int s)) (a5 : zi_get L0 5 = some (.int o)) (a7 : zi_get L0 7 = some (.int (nI 0))) :
    ∃ L' h', ze_S D 9 (some .int) zc_X6_drag 153 L0 [] (zm_mk μ) 184 L' [] h' ∧ (zi_nl L' = true ∧ zi_get L' 0 = some (.ref 232) ∧ zi_get L' 1 = some (.int (nI k)) ∧ zi_get L' 3 = some (.int x3) ∧ zi_get L' 4 = some (.int s) ∧ zi_get L' 5 = some (.int o) ∧ ∃ ν, zm_mk ν = h' ∧ zv_cm ν (fun j => decide (j = k)) ∧ ∀ c d, c ≠ 260 → ν c d = μ c d) := by
  have h10 : (Int8.ofInt 10).toInt32 = (10 : Int32) := by decide
  have o0 : (0 : Int32) = 0 ∨ (0 : Int32) = 1 := Or.inl rfl
  have o1 : (1 : Int32) = 0 ∨ (1 : Int32) = 1 := Or.inr rfl
  refine ze_loopS (Q := fun i L hp => i ≤ 10 ∧ zi_nl L = true ∧ zi_get L 0 = some (.ref 232) ∧ zi_get L 1 = some (.int (nI k)) ∧ zi_get L 3 = some (.int x3) ∧ zi_get L 4 = some (.int s) ∧ zi_get L 5 = some (.int o) ∧ zi_get L 7 = some (.int (nI i)) ∧ ∃ ξ : zm_M, zm_mk ξ = hp ∧ (∀ c d, c ≠ 260 → ξ c d = μ c d) ∧ (∀ j, j < i → ξ 260 j = if decide (j = k) = true then 1 else 0) ∧ (True)) (R := fun L' h' => zi_nl L' = true ∧ zi_get L' 0 = some (.ref 232) ∧ zi_get L' 1 = some (.int (nI k)) ∧ zi_get L' 3 = some (.int x3) ∧ zi_get L' 4 = some (.int s) ∧ zi_get L' 5 = some (.int o) ∧ ∃ ν, zm_mk ν = h' ∧ zv_cm ν (fun j => decide (j = k)) ∧ ∀ c d, c ≠ 260 → ν c d = μ c d) 10 ?_ ?_ 10 0 _ _ (by omega) ⟨by omega, nl0, a0, a1, a3, a4, a5, a7, μ, rfl, (fun _ _ _ => rfl), (fun _ q => absurd q (by omega)), trivial⟩
  · rintro i L _ hi ⟨-, nl, g0, g1, g3, g4, g5, g7, ξ, rfl, f1, f2, hq⟩
    have c1 : ¬ (10 : Int32) ≤ nI i := nI_ge (b := 10) hi (by decide)
    have ik : zi_in (nI i) 10 = true := zm_in hi (by decide)
    have ck : (nI i).toNatClampNeg = i := nI_clamp (by omega)
    have f1' : ∀ x c e, c ≠ 260 → zm_up ξ 260 i x c e = μ c e := fun x c e q => (zm_up_ne (by omega)).trans (f1 c e q)
    have f2' : ∀ x : Int32, x = (if decide (i = k) = true then 1 else 0) → ∀ j, j < i + 1 → zm_up ξ 260 i x 260 j = if decide (j = k) = true then 1 else 0 := fun x hx j hj => by
      by_cases e : j = i
      · rw [e, zm_up_eq, hx]
      · rw [zm_up_ne (by omega)]; exact f2 j (by omega)
    by_cases c2 : i = k
    · subst c2
      refine ⟨zi_set L 7 (.int (nI (i + 1))), zm_mk (zm_up ξ 260 i 1), ⟨0, 14, fun F m hF => ?_⟩, by omega, ?_, ?_, ?_, ?_, ?_, ?_, zi_get_set_eq, _, rfl, f1' 1, f2' 1 (by rw [if_pos (decide_eq_true rfl)]), trivial⟩
      · simp (maxDischargeDepth := 9) [zg_0, zg_aload_n, zg_baload, zg_bastore, zg_bipush, zg_getfield, zg_goto, zg_iaload, zg_iastore, zg_iconst, zg_ifCond, zg_if_icmp, zg_iinc, zg_iload, zg_iload_n, zg_invokestatic, zg_invokevirtual, zg_irem, zg_ireturn, zg_istore, zg_ldc, zf_X6_drag, zi_ld, zi_lda, zi_cmp, zi_retOk, zi_isI, zi_f3, zi_cr, zi_ci, zi_cn, zi_get_ne, zi_nl_i, zi_nl_r, zi_get_set_eq, nl, g0, g1, g3, g4, g5, g7, h10, c1, zM_g, zm_bast zM_A260 ik o1, ck, nI_1]
      · simp (maxDischargeDepth := 9) [zi_get_ne, zi_nl_i, zi_nl_r, zi_get_set_eq, nl]
      · simp (maxDischargeDepth := 9) [zi_get_ne, zi_nl_i, zi_nl_r, zi_get_set_eq, nl, g0]
      · simp (maxDischargeDepth := 9) [zi_get_ne, zi_nl_i, zi_nl_r, zi_get_set_eq, nl, g1]
      · simp (maxDischargeDepth := 9) [zi_get_ne, zi_nl_i, zi_nl_r, zi_get_set_eq, nl, g3]
      · simp (maxDischargeDepth := 9) [zi_get_ne, zi_nl_i, zi_nl_r, zi_get_set_eq, nl, g4]
      · simp (maxDischargeDepth := 9) [zi_get_ne, zi_nl_i, zi_nl_r, zi_get_set_eq, nl, g5]
    · have c2' : ¬ nI i = nI k := fun e => c2 ((nI_eq (by omega) (by omega)).mp e)
      refine ⟨zi_set L 7 (.int (nI (i + 1))), zm_mk (zm_up ξ 260 i 0), ⟨0, 13, fun F m hF => ?_⟩, by omega, ?_, ?_, ?_, ?_, ?_, ?_, zi_get_set_eq, _, rfl, f1' 0, f2' 0 (by rw [if_neg (by simpa using c2)]), trivial⟩
      · simp (maxDischargeDepth := 9) [zg_0, zg_aload_n, zg_baload, zg_bastore, zg_bipush, zg_getfield, zg_goto, zg_iaload, zg_iastore, zg_iconst, zg_ifCond, zg_if_icmp, zg_iinc, zg_iload, zg_iload_n, zg_invokestatic, zg_invokevirtual, zg_irem, zg_ireturn, zg_istore, zg_ldc, zf_X6_drag, zi_ld, zi_lda, zi_cmp, zi_retOk, zi_isI, zi_f3, zi_cr, zi_ci, zi_cn, zi_get_ne, zi_nl_i, zi_nl_r, zi_get_set_eq, nl, g0, g1, g3, g4, g5, g7, h10, c1, c2', zM_g, zm_bast zM_A260 ik o0, ck, nI_1]
      · simp (maxDischargeDepth := 9) [zi_get_ne, zi_nl_i, zi_nl_r, zi_get_set_eq, nl]
      · simp (maxDischargeDepth := 9) [zi_get_ne, zi_nl_i, zi_nl_r, zi_get_set_eq, nl, g0]
      · simp (maxDischargeDepth := 9) [zi_get_ne, zi_nl_i, zi_nl_r, zi_get_set_eq, nl, g1]
      · simp (maxDischargeDepth := 9) [zi_get_ne, zi_nl_i, zi_nl_r, zi_get_set_eq, nl, g3]
      · simp (maxDischargeDepth := 9) [zi_get_ne, zi_nl_i, zi_nl_r, zi_get_set_eq, nl, g4]
      · simp (maxDischargeDepth := 9) [zi_get_ne, zi_nl_i, zi_nl_r, zi_get_set_eq, nl, g5]
  · rintro L _ ⟨-, nl, g0, g1, g3, g4, g5, g7, ξ, rfl, f1, f2, hq⟩
    have c1 : (10 : Int32) ≤ nI 10 := by decide
    refine ⟨L, zm_mk ξ, ⟨0, 3, fun F m hF => ?_⟩, nl, g0, g1, g3, g4, g5, ξ, rfl, f2, f1⟩
    simp (maxDischargeDepth := 9) [zg_0, zg_aload_n, zg_baload, zg_bastore, zg_bipush, zg_getfield, zg_goto, zg_iaload, zg_iastore, zg_iconst, zg_ifCond, zg_if_icmp, zg_iinc, zg_iload, zg_iload_n, zg_invokestatic, zg_invokevirtual, zg_irem, zg_ireturn, zg_istore, zg_ldc, zf_X6_drag, zi_ld, zi_lda, zi_cmp, zi_retOk, zi_isI, zi_f3, zi_cr, zi_ci, zi_cn, zi_get_ne, zi_nl_i, zi_nl_r, zi_get_set_eq, nl, g0, g1, g3, g4, g5, g7, h10, c1, nI_1]
set_option maxRecDepth 100000 in
theorem zv_dgB (D : Nat) (hk : k < 10) (ha : a < 3) (hb : b < 3) (hab : a ≠ b) (hg : zv_cm μ g) (b0 : Bool) (L0 : zi_Lc) (nl0 : zi_nl L0 = true) (a0 : zi_get L0 0 = some (.ref 232)) (a1 : zi_get L0 1 = some (.int (nI k))) (a4 : zi_get L0 4 = some (.int (nI a))) (a5 : zi_get L0 5 = some (.int (nI b))) (a7 : zi_get L0 7 = some (.int (if b0 = true then 1 else 0))) (a8 : zi_get L0 8 = some (.int (nI 0))) :
    ∃ L' h', ze_S (D + 1) 9 (some .int) zc_X6_drag 213 L0 [] (zm_mk μ) 284 L' [] h' ∧ (zi_nl L' = true ∧ zi_get L' 0 = some (.ref 232) ∧ zi_get L' 1 = some (.int (nI k)) ∧ zi_get L' 4 = some (.int (nI a)) ∧ zi_get L' 5 = some (.int (nI b)) ∧ zi_get L' 7 = some (.int (if zv_gd (zv_drm μ k b g) b0 10 = true then 1 else 0)) ∧ zm_mk μ = h') := by
  have h10 : (Int8.ofInt 10).toInt32 = (10 : Int32) := by decide
  have is : zi_in (nI b) 3 = true := zm_in hb (by decide)
  have cs : (nI b).toNatClampNeg = b := nI_clamp (by omega)
  have n1 : ¬ (1 : Int32) = 0 := by decide
  have nab : ¬ nI a = nI b := fun e => hab ((nI_eq (by omega) (by omega)).mp e)
  obtain ⟨lc, cM⟩ := zM_c (μ := μ)
  refine ze_loopS (Q := fun i L hp => i ≤ 10 ∧ zi_nl L = true ∧ zi_get L 0 = some (.ref 232) ∧ zi_get L 1 = some (.int (nI k)) ∧ zi_get L 4 = some (.int (nI a)) ∧ zi_get L 5 = some (.int (nI b)) ∧ zi_get L 8 = some (.int (nI i)) ∧ zm_mk μ = hp ∧ ∃ (x : Bool), zi_get L 7 = some (.int (if x = true then 1 else 0)) ∧ (x = zv_gd (zv_drm μ k b g) b0 i)) (R := fun L' h' => zi_nl L' = true ∧ zi_get L' 0 = some (.ref 232) ∧ zi_get L' 1 = some (.int (nI k)) ∧ zi_get L' 4 = some (.int (nI a)) ∧ zi_get L' 5 = some (.int (nI b)) ∧ zi_get L' 7 = some (.int (if zv_gd (zv_drm μ k b g) b0 10 = true then 1 else 0)) ∧ zm_mk μ = h') 10 ?_ ?_ 10 0 _ _ (by omega) ⟨by omega, nl0, a0, a1, a4, a5, a8, rfl, b0, a7, rfl⟩
  · rintro i L _ hi ⟨-, nl, g0, g1, g4, g5, g8, rfl, x, g7, hq⟩
    have c1 : ¬ (10 : Int32) ≤ nI i := nI_ge (b := 10) hi (by decide)
    have ik : zi_in (nI i) 10 = true := zm_in hi (by decide)
    have ck : (nI i).toNatClampNeg = i := nI_clamp (by omega)
    have ec := hg i hi
    obtain ⟨N1, E1⟩ := ze_McanBeWhole (μ := μ) D hi (μ 232 b) (μ 233 b)
    have hs1 : zv_gd (zv_drm μ k b g) b0 (i + 1) = (x && zv_drm μ k b g i) := by rw [hq]; rfl
    cases x with
    | false =>
      have g7 : zi_get L 7 = some (.int 0) := g7
      refine ⟨zi_set (zi_set L 7 (.int 0)) 8 (.int (nI (i + 1))), zm_mk μ, ⟨N1, 12, fun F m hF => ?_⟩, by omega, ?_, ?_, ?_, ?_, ?_, zi_get_set_eq, rfl, false, ?_, hs1.symm⟩
      · simp (maxDischargeDepth := 9) [zg_0, zg_aload_n, zg_baload, zg_bastore, zg_bipush, zg_getfield, zg_goto, zg_iaload, zg_iastore, zg_iconst, zg_ifCond, zg_if_icmp, zg_iinc, zg_iload, zg_iload_n, zg_invokestatic, zg_invokevirtual, zg_irem, zg_ireturn, zg_istore, zg_ldc, zf_X6_drag, zi_ld, zi_lda, zi_cmp, zi_retOk, zi_isI, zi_f3, zi_cr, zi_ci, zi_cn, zi_get_ne, zi_nl_i, zi_nl_r, zi_get_set_eq, nl, g0, g1, g4, g5, g8, g7, h10, c1, nab, nI_1]
      · simp (maxDischargeDepth := 9) [zi_get_ne, zi_nl_i, zi_nl_r, zi_get_set_eq, nl]
      · simp (maxDischargeDepth := 9) [zi_get_ne, zi_nl_i, zi_nl_r, zi_get_set_eq, nl, g0]
      · simp (maxDischargeDepth := 9) [zi_get_ne, zi_nl_i, zi_nl_r, zi_get_set_eq, nl, g1]
      · simp (maxDischargeDepth := 9) [zi_get_ne, zi_nl_i, zi_nl_r, zi_get_set_eq, nl, g4]
      · simp (maxDischargeDepth := 9) [zi_get_ne, zi_nl_i, zi_nl_r, zi_get_set_eq, nl, g5]
      · simp (maxDischargeDepth := 9) [zi_get_ne, zi_nl_i, zi_nl_r, zi_get_set_eq, nl, g7]
    | true =>
      have g7 : zi_get L 7 = some (.int 1) := g7
      have hr : zv_drm μ k b g i = (!g i || decide (i = k) || decide (μ 235 i ≤ μ 232 b ∧ μ 236 i ≤ μ 233 b)) := rfl
      rw [hr] at hs1
      by_cases c2 : g i = true
      · rw [if_pos c2] at ec
        by_cases c3 : i = k
        · subst c3
          refine ⟨zi_set (zi_set L 7 (.int 1)) 8 (.int (nI (i + 1))), zm_mk μ, ⟨N1, 21, fun F m hF => ?_⟩, by omega, ?_, ?_, ?_, ?_, ?_, zi_get_set_eq, rfl, true, ?_, by rw [hs1, c2, decide_eq_true rfl]; rfl⟩
          · simp (maxDischargeDepth := 9) [zg_0, zg_aload_n, zg_baload, zg_bastore, zg_bipush, zg_getfield, zg_goto, zg_iaload, zg_iastore, zg_iconst, zg_ifCond, zg_if_icmp, zg_iinc, zg_iload, zg_iload_n, zg_invokestatic, zg_invokevirtual, zg_irem, zg_ireturn, zg_istore, zg_ldc, zf_X6_drag, zi_ld, zi_lda, zi_cmp, zi_retOk, zi_isI, zi_f3, zi_cr, zi_ci, zi_cn, zi_get_ne, zi_nl_i, zi_nl_r, zi_get_set_eq, nl, g0, g1, g4, g5, g8, g7, h10, c1, nab, n1, zM_g, zm_bald zM_A260 ik, ck, ec, nI_1]
          · simp (maxDischargeDepth := 9) [zi_get_ne, zi_nl_i, zi_nl_r, zi_get_set_eq, nl]
          · simp (maxDischargeDepth := 9) [zi_get_ne, zi_nl_i, zi_nl_r, zi_get_set_eq, nl, g0]
          · simp (maxDischargeDepth := 9) [zi_get_ne, zi_nl_i, zi_nl_r, zi_get_set_eq, nl, g1]
          · simp (maxDischargeDepth := 9) [zi_get_ne, zi_nl_i, zi_nl_r, zi_get_set_eq, nl, g4]
          · simp (maxDischargeDepth := 9) [zi_get_ne, zi_nl_i, zi_nl_r, zi_get_set_eq, nl, g5]
          · simp (maxDischargeDepth := 9) [zi_get_ne, zi_nl_i, zi_nl_r, zi_get_set_eq, nl, g7]
        · have c3' : ¬ nI i = nI k := fun e => c3 ((nI_eq (by omega) (by omega)).mp e)
          by_cases c4 : μ 235 i ≤ μ 232 b ∧ μ 236 i ≤ μ 233 b
          · rw [if_pos c4] at E1
            refine ⟨zi_set (zi_set L 7 (.int 1)) 8 (.int (nI (i + 1))), zm_mk μ, ⟨N1, 33, fun F m hF => ?_⟩, by omega, ?_, ?_, ?_, ?_, ?_, zi_get_set_eq, rfl, true, ?_, by rw [hs1, decide_eq_true c4, Bool.or_true]; rfl⟩
            · simp (maxDischargeDepth := 9) [zg_0, zg_aload_n, zg_baload, zg_bastore, zg_bipush, zg_getfield, zg_goto, zg_iaload, zg_iastore, zg_iconst, zg_ifCond, zg_if_icmp, zg_iinc, zg_iload, zg_iload_n, zg_invokestatic, zg_invokevirtual, zg_irem, zg_ireturn, zg_istore, zg_ldc, zf_X6_drag, zi_ld, zi_lda, zi_cmp, zi_retOk, zi_isI, zi_f3, zi_cr, zi_ci, zi_cn, zi_get_ne, zi_nl_i, zi_nl_r, zi_get_set_eq, nl, g0, g1, g4, g5, g8, g7, h10, c1, nab, n1, zM_g, zm_bald zM_A260 ik, ck, ec, c3', zm_iald (k := 0) zM_A232 is, zm_iald (k := 0) zM_A233 is, cs, cM, zq_Mod_canBeWhole, E1 F (by omega), nI_1]
            · simp (maxDischargeDepth := 9) [zi_get_ne, zi_nl_i, zi_nl_r, zi_get_set_eq, nl]
            · simp (maxDischargeDepth := 9) [zi_get_ne, zi_nl_i, zi_nl_r, zi_get_set_eq, nl, g0]
            · simp (maxDischargeDepth := 9) [zi_get_ne, zi_nl_i, zi_nl_r, zi_get_set_eq, nl, g1]
            · simp (maxDischargeDepth := 9) [zi_get_ne, zi_nl_i, zi_nl_r, zi_get_set_eq, nl, g4]
            · simp (maxDischargeDepth := 9) [zi_get_ne, zi_nl_i, zi_nl_r, zi_get_set_eq, nl, g5]
            · simp (maxDischargeDepth := 9) [zi_get_ne, zi_nl_i, zi_nl_r, zi_get_set_eq, nl, g7]
          · rw [if_neg c4] at E1
            refine ⟨zi_set (zi_set L 7 (.int 0)) 8 (.int (nI (i + 1))), zm_mk μ, ⟨N1, 32, fun F m hF => ?_⟩, by omega, ?_, ?_, ?_, ?_, ?_, zi_get_set_eq, rfl, false, ?_, by rw [hs1, decide_eq_false c4, decide_eq_false c3, c2]; rfl⟩
            · simp (maxDischargeDepth := 9) [zg_0, zg_aload_n, zg_baload, zg_bastore, zg_bipush, zg_getfield, zg_goto, zg_iaload, zg_iastore, zg_iconst, zg_ifCond, zg_if_icmp, zg_iinc, zg_iload, zg_iload_n, zg_invokestatic, zg_invokevirtual, zg_irem, zg_ireturn, zg_istore, zg_ldc, zf_X6_drag, zi_ld, zi_lda, zi_cmp, zi_retOk, zi_isI, zi_f3, zi_cr, zi_ci, zi_cn, zi_get_ne, zi_nl_i, zi_nl_r, zi_get_set_eq, nl, g0, g1, g4, g5, g8, g7, h10, c1, nab, n1, zM_g, zm_bald zM_A260 ik, ck, ec, c3', zm_iald (k := 0) zM_A232 is, zm_iald (k := 0) zM_A233 is, cs, cM, zq_Mod_canBeWhole, E1 F (by omega), nI_1]
            · simp (maxDischargeDepth := 9) [zi_get_ne, zi_nl_i, zi_nl_r, zi_get_set_eq, nl]
            · simp (maxDischargeDepth := 9) [zi_get_ne, zi_nl_i, zi_nl_r, zi_get_set_eq, nl, g0]
            · simp (maxDischargeDepth := 9) [zi_get_ne, zi_nl_i, zi_nl_r, zi_get_set_eq, nl, g1]
            · simp (maxDischargeDepth := 9) [zi_get_ne, zi_nl_i, zi_nl_r, zi_get_set_eq, nl, g4]
            · simp (maxDischargeDepth := 9) [zi_get_ne, zi_nl_i, zi_nl_r, zi_get_set_eq, nl, g5]
            · simp (maxDischargeDepth := 9) [zi_get_ne, zi_nl_i, zi_nl_r, zi_get_set_eq, nl, g7]
      · rw [if_neg c2] at ec
        have c2' : g i = false := by simpa using c2
        refine ⟨zi_set (zi_set L 7 (.int 1)) 8 (.int (nI (i + 1))), zm_mk μ, ⟨N1, 18, fun F m hF => ?_⟩, by omega, ?_, ?_, ?_, ?_, ?_, zi_get_set_eq, rfl, true, ?_, by rw [hs1, c2']; rfl⟩
        · simp (maxDischargeDepth := 9) [zg_0, zg_aload_n, zg_baload, zg_bastore, zg_bipush, zg_getfield, zg_goto, zg_iaload, zg_iastore, zg_iconst, zg_ifCond, zg_if_icmp, zg_iinc, zg_iload, zg_iload_n, zg_invokestatic, zg_invokevirtual, zg_irem, zg_ireturn, zg_istore, zg_ldc, zf_X6_drag, zi_ld, zi_lda, zi_cmp, zi_retOk, zi_isI, zi_f3, zi_cr, zi_ci, zi_cn, zi_get_ne, zi_nl_i, zi_nl_r, zi_get_set_eq, nl, g0, g1, g4, g5, g8, g7, h10, c1, nab, n1, zM_g, zm_bald zM_A260 ik, ck, ec, nI_1]
        · simp (maxDischargeDepth := 9) [zi_get_ne, zi_nl_i, zi_nl_r, zi_get_set_eq, nl]
        · simp (maxDischargeDepth := 9) [zi_get_ne, zi_nl_i, zi_nl_r, zi_get_set_eq, nl, g0]
        · simp (maxDischargeDepth := 9) [zi_get_ne, zi_nl_i, zi_nl_r, zi_get_set_eq, nl, g1]
        · simp (maxDischargeDepth := 9) [zi_get_ne, zi_nl_i, zi_nl_r, zi_get_set_eq, nl, g4]
        · simp (maxDischargeDepth := 9) [zi_get_ne, zi_nl_i, zi_nl_r, zi_get_set_eq, nl, g5]
        · simp (maxDischargeDepth := 9) [zi_get_ne, zi_nl_i, zi_nl_r, zi_get_set_eq, nl, g7]
  · rintro L _ ⟨-, nl, g0, g1, g4, g5, g8, rfl, x, g7, hq⟩
    subst hq
    have c1 : (10 : Int32) ≤ nI 10 := by decide
    refine ⟨L, zm_mk μ, ⟨0, 3, fun F m hF => ?_⟩, nl, g0, g1, g4, g5, g7, rfl⟩
    simp (maxDischargeDepth := 9) [zg_0, zg_aload_n, zg_baload, zg_bastore, zg_bipush, zg_getfield, zg_goto, zg_iaload, zg_iastore, zg_iconst, zg_ifCond, zg_if_icmp, zg_iinc, zg_iload, zg_iload_n, zg_invokestatic, zg_invokevirtual, zg_irem, zg_ireturn, zg_istore, zg_ldc, zf_X6_drag, zi_ld, zi_lda, zi_cmp, zi_retOk, zi_isI, zi_f3, zi_cr, zi_ci, zi_cn, zi_get_ne, zi_nl_i, zi_nl_r, zi_get_set_eq, nl, g0, g1, g4, g5, g8, h10, c1]
set_option maxRecDepth 100000 in
theorem zv_dgC (D : Nat) (hk : k < 10) (ha : a < 3) (hb : b < 3) (hab : a ≠ b) (hg : zv_cm μ g) (L0 : zi_Lc) (nl0 : zi_nl L0 = true) (a0 : zi_get L0 0 = some (.ref 232)) (a1 : zi_get L0 1 = some (.int (nI k))) (a4 : zi_get L0 4 = some (.int (nI a))) (a5 : zi_get L0 5 = some (.int (nI b))) (a8 : zi_get L0 8 = some (.int (nI 0))) :
    ∃ L' h', ze_S (D + 2) 9 (some .int) zc_X6_drag 330 L0 [] (zm_mk μ) 394 L' [] h' ∧ (zi_nl L' = true ∧ zi_get L' 0 = some (.ref 232) ∧ zi_get L' 1 = some (.int (nI k)) ∧ ∃ ν, zm_mk ν = h' ∧ zv_dgw μ ν k b g 10) := by
  have h10 : (Int8.ofInt 10).toInt32 = (10 : Int32) := by decide
  have nab : ¬ nI a = nI b := fun e => hab ((nI_eq (by omega) (by omega)).mp e)
  have n1 : ¬ (1 : Int32) = 0 := by decide
  refine ze_loopS (Q := fun i L hp => i ≤ 10 ∧ zi_nl L = true ∧ zi_get L 0 = some (.ref 232) ∧ zi_get L 1 = some (.int (nI k)) ∧ zi_get L 4 = some (.int (nI a)) ∧ zi_get L 5 = some (.int (nI b)) ∧ zi_get L 8 = some (.int (nI i)) ∧ ∃ ξ : zm_M, zm_mk ξ = hp ∧ (zv_dgw μ ξ k b g i) ∧ (True)) (R := fun L' h' => zi_nl L' = true ∧ zi_get L' 0 = some (.ref 232) ∧ zi_get L' 1 = some (.int (nI k)) ∧ ∃ ν, zm_mk ν = h' ∧ zv_dgw μ ν k b g 10) 10 ?_ ?_ 10 0 _ _ (by omega) ⟨by omega, nl0, a0, a1, a4, a5, a8, μ, rfl, ⟨(fun _ _ => (if_neg (fun z => absurd z.1 (by omega))).symm), (fun s _ => ⟨Or.inr rfl, ⟨fun e => Or.inl e, fun e => e.elim id (fun ⟨_, w, _⟩ => absurd w (by omega))⟩⟩), fun _ _ _ _ _ _ => rfl⟩, trivial⟩
  · rintro i L _ hi ⟨-, nl, g0, g1, g4, g5, g8, ξ, rfl, f1, hq⟩
    have c1 : ¬ (10 : Int32) ≤ nI i := nI_ge (b := 10) hi (by decide)
    have ik : zi_in (nI i) 10 = true := zm_in hi (by decide)
    have ck : (nI i).toNatClampNeg = i := nI_clamp (by omega)
    have ec : ξ 260 i = if g i = true then 1 else 0 := (f1.2.2 _ _ (by decide) (by decide) (by decide) (by decide)).trans (hg i hi)
    by_cases c2 : g i = true
    · rw [if_pos c2] at ec
      by_cases c3 : i = k
      · subst c3
        have f1' := zv_dgw_no f1 (fun z => z.2 rfl)
        refine ⟨zi_set L 8 (.int (nI (i + 1))), zm_mk ξ, ⟨0, 16, fun F m hF => ?_⟩, by omega, ?_, ?_, ?_, ?_, ?_, zi_get_set_eq, ξ, rfl, f1', trivial⟩
        · simp (maxDischargeDepth := 9) [zg_0, zg_aload_n, zg_baload, zg_bastore, zg_bipush, zg_getfield, zg_goto, zg_iaload, zg_iastore, zg_iconst, zg_ifCond, zg_if_icmp, zg_iinc, zg_iload, zg_iload_n, zg_invokestatic, zg_invokevirtual, zg_irem, zg_ireturn, zg_istore, zg_ldc, zf_X6_drag, zi_ld, zi_lda, zi_cmp, zi_retOk, zi_isI, zi_f3, zi_cr, zi_ci, zi_cn, zi_get_ne, zi_nl_i, zi_nl_r, zi_get_set_eq, nl, g0, g1, g4, g5, g8, h10, c1, nab, n1, zM_g, zm_bald zM_A260 ik, ck, ec, nI_1]
        · simp (maxDischargeDepth := 9) [zi_get_ne, zi_nl_i, zi_nl_r, zi_get_set_eq, nl]
        · simp (maxDischargeDepth := 9) [zi_get_ne, zi_nl_i, zi_nl_r, zi_get_set_eq, nl, g0]
        · simp (maxDischargeDepth := 9) [zi_get_ne, zi_nl_i, zi_nl_r, zi_get_set_eq, nl, g1]
        · simp (maxDischargeDepth := 9) [zi_get_ne, zi_nl_i, zi_nl_r, zi_get_set_eq, nl, g4]
        · simp (maxDischargeDepth := 9) [zi_get_ne, zi_nl_i, zi_nl_r, zi_get_set_eq, nl, g5]
      · have c3' : ¬ nI i = nI k := fun e => c3 ((nI_eq (by omega) (by omega)).mp e)
        obtain ⟨pp, qq, ⟨N1, E1⟩, -, -⟩ := ze_MputAt (μ := ξ) D hi hb (ξ 239 i) (ξ 240 i)
        have f1' := zv_dgw_s hi f1 ⟨c2, c3⟩ (ν := zv_put ξ i b pp qq) (by unfold zv_put; rw [zm_up_ne (by omega), zm_up_ne (by omega), zm_up_eq]) (fun c d r1 r2 r3 => by unfold zv_put; rw [zm_up_ne (by omega), zm_up_ne (by omega), zm_up_ne r3])
        generalize zv_put ξ i b pp qq = ξ1 at E1 f1'
        obtain ⟨N2, E2⟩ := ze_Mforget (μ := ξ1) (D + 1) hi
        obtain ⟨lc, cM⟩ := zM_c (μ := ξ)
        obtain ⟨lc1, cM1⟩ := zM_c (μ := ξ1)
        refine ⟨zi_set L 8 (.int (nI (i + 1))), zm_mk (zv_fg ξ1 i), ⟨N1 + N2, 31, fun F m hF => ?_⟩, by omega, ?_, ?_, ?_, ?_, ?_, zi_get_set_eq, zv_fg ξ1 i, rfl, f1', trivial⟩
        · simp (maxDischargeDepth := 9) [zg_0, zg_aload_n, zg_baload, zg_bastore, zg_bipush, zg_getfield, zg_goto, zg_iaload, zg_iastore, zg_iconst, zg_ifCond, zg_if_icmp, zg_iinc, zg_iload, zg_iload_n, zg_invokestatic, zg_invokevirtual, zg_irem, zg_ireturn, zg_istore, zg_ldc, zf_X6_drag, zi_ld, zi_lda, zi_cmp, zi_retOk, zi_isI, zi_f3, zi_cr, zi_ci, zi_cn, zi_get_ne, zi_nl_i, zi_nl_r, zi_get_set_eq, nl, g0, g1, g4, g5, g8, h10, c1, nab, n1, zM_g, zm_bald zM_A260 ik, ck, ec, c3', zm_iald (k := 0) zM_A239 ik, zm_iald (k := 0) zM_A240 ik, cM, cM1, zq_Mod_putAt, zq_Mod_forget, E1 F (by omega), E2 F (by omega), nI_1]
        · simp (maxDischargeDepth := 9) [zi_get_ne, zi_nl_i, zi_nl_r, zi_get_set_eq, nl]
        · simp (maxDischargeDepth := 9) [zi_get_ne, zi_nl_i, zi_nl_r, zi_get_set_eq, nl, g0]
        · simp (maxDischargeDepth := 9) [zi_get_ne, zi_nl_i, zi_nl_r, zi_get_set_eq, nl, g1]
        · simp (maxDischargeDepth := 9) [zi_get_ne, zi_nl_i, zi_nl_r, zi_get_set_eq, nl, g4]
        · simp (maxDischargeDepth := 9) [zi_get_ne, zi_nl_i, zi_nl_r, zi_get_set_eq, nl, g5]
    · rw [if_neg c2] at ec
      have f1' := zv_dgw_no f1 (fun z => c2 z.1)
      refine ⟨zi_set L 8 (.int (nI (i + 1))), zm_mk ξ, ⟨0, 13, fun F m hF => ?_⟩, by omega, ?_, ?_, ?_, ?_, ?_, zi_get_set_eq, ξ, rfl, f1', trivial⟩
      · simp (maxDischargeDepth := 9) [zg_0, zg_aload_n, zg_baload, zg_bastore, zg_bipush, zg_getfield, zg_goto, zg_iaload, zg_iastore, zg_iconst, zg_ifCond, zg_if_icmp, zg_iinc, zg_iload, zg_iload_n, zg_invokestatic, zg_invokevirtual, zg_irem, zg_ireturn, zg_istore, zg_ldc, zf_X6_drag, zi_ld, zi_lda, zi_cmp, zi_retOk, zi_isI, zi_f3, zi_cr, zi_ci, zi_cn, zi_get_ne, zi_nl_i, zi_nl_r, zi_get_set_eq, nl, g0, g1, g4, g5, g8, h10, c1, nab, zM_g, zm_bald zM_A260 ik, ck, ec, nI_1]
      · simp (maxDischargeDepth := 9) [zi_get_ne, zi_nl_i, zi_nl_r, zi_get_set_eq, nl]
      · simp (maxDischargeDepth := 9) [zi_get_ne, zi_nl_i, zi_nl_r, zi_get_set_eq, nl, g0]
      · simp (maxDischargeDepth := 9) [zi_get_ne, zi_nl_i, zi_nl_r, zi_get_set_eq, nl, g1]
      · simp (maxDischargeDepth := 9) [zi_get_ne, zi_nl_i, zi_nl_r, zi_get_set_eq, nl, g4]
      · simp (maxDischargeDepth := 9) [zi_get_ne, zi_nl_i, zi_nl_r, zi_get_set_eq, nl, g5]
  · rintro L _ ⟨-, nl, g0, g1, g4, g5, g8, ξ, rfl, f1, hq⟩
    have c1 : (10 : Int32) ≤ nI 10 := by decide
    refine ⟨L, zm_mk ξ, ⟨0, 3, fun F m hF => ?_⟩, nl, g0, g1, ξ, rfl, f1⟩
    simp (maxDischargeDepth := 9) [zg_0, zg_aload_n, zg_baload, zg_bastore, zg_bipush, zg_getfield, zg_goto, zg_iaload, zg_iastore, zg_iconst, zg_ifCond, zg_if_icmp, zg_iinc, zg_iload, zg_iload_n, zg_invokestatic, zg_invokevirtual, zg_irem, zg_ireturn, zg_istore, zg_ldc, zf_X6_drag, zi_ld, zi_lda, zi_cmp, zi_retOk, zi_isI, zi_f3, zi_cr, zi_ci, zi_cn, zi_get_ne, zi_nl_i, zi_nl_r, zi_get_set_eq, nl, g0, g1, g4, g5, g8, h10, c1, nI_1]
end ZWM
