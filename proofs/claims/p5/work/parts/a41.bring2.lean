section
/-! the reference: bring, all that comes -/
section ZVZ
variable {μ : zm_M} {g : Nat → Bool} {s : Nat}
set_option maxRecDepth 100000 in
theorem zv_brF (D : Nat) (hs : s < 3) {k : Nat} (hk : k < 10) {z : Int32} (L0 : zi_Lc) (nl0 : zi_nl L0 = true) (a0 : zi_get L0 0 = some (.ref 232)) (a1 : zi_get L0 1 = some (.int (nI s))) (a2 : zi_get L0 2 = some (.int z)) (a3 : zi_get L0 3 = some (.int (nI k))) (a4 : zi_get L0 4 = some (.int (nI 0))) :
    ∃ L' h', ze_S D 7 (some .int) zc_X6_bring 206 L0 [] (zm_mk μ) 257 L' [] h' ∧ (zi_nl L' = true ∧ zi_get L' 0 = some (.ref 232) ∧ zi_get L' 1 = some (.int (nI s)) ∧ zi_get L' 2 = some (.int z) ∧ zi_get L' 3 = some (.int (nI k)) ∧ ∃ ν, zm_mk ν = h' ∧ (∀ d, d < 3 → ν 251 d = if d ≠ s ∧ ¬ μ 251 d = 0 ∧ ¬ μ 252 (10 * d + k) = 0 then 0 else μ 251 d) ∧ ∀ c d, c ≠ 251 → ν c d = μ c d) := by
  have h10 : (Int8.ofInt 10).toInt32 = (10 : Int32) := by decide
  refine ze_loopS (Q := fun i L hp => i ≤ 3 ∧ zi_nl L = true ∧ zi_get L 0 = some (.ref 232) ∧ zi_get L 1 = some (.int (nI s)) ∧ zi_get L 2 = some (.int z) ∧ zi_get L 3 = some (.int (nI k)) ∧ zi_get L 4 = some (.int (nI i)) ∧ ∃ ξ : zm_M, zm_mk ξ = hp ∧ (∀ d, d < i → ξ 251 d = if d ≠ s ∧ ¬ μ 251 d = 0 ∧ ¬ μ 252 (10 * d + k) = 0 then 0 else μ 251 d) ∧ (∀ d, i ≤ d → ξ 251 d = μ 251 d) ∧ (∀ c d, c ≠ 251 → ξ c d = μ c d) ∧ (True)) (R := fun L' h' => zi_nl L' = true ∧ zi_get L' 0 = some (.ref 232) ∧ zi_get L' 1 = some (.int (nI s)) ∧ zi_get L' 2 = some (.int z) ∧ zi_get L' 3 = some (.int (nI k)) ∧ ∃ ν, zm_mk ν = h' ∧ (∀ d, d < 3 → ν 251 d = if d ≠ s ∧ ¬ μ 251 d = 0 ∧ ¬ μ 252 (10 * d + k) = 0 then 0 else μ 251 d) ∧ ∀ c d, c ≠ 251 → ν c d = μ c d) 3 ?_ ?_ 3 0 _ _ (by omega) ⟨by omega, nl0, a0, a1, a2, a3, a4, μ, rfl, (fun d hd => absurd hd (by omega)), (fun _ _ => rfl), (fun _ _ _ => rfl), trivial⟩
  · rintro i L _ hi ⟨-, nl, g0, g1, g2, g3, g4, ξ, rfl, f1, f2, f3, hq⟩
    have c1 : ¬ (3 : Int32) ≤ nI i := nI_ge (b := 3) hi (by decide)
    have ik : zi_in (nI i) 3 = true := zm_in hi (by decide)
    have ck : (nI i).toNatClampNeg = i := nI_clamp (by omega)
    have mk : (10 : Int32) * nI i = nI (10 * i) := nI_mul10 (by omega)
    have ij : zi_in (nI (10 * i + k)) 30 = true := zm_in (by omega) (by decide)
    have cj : (nI (10 * i + k)).toNatClampNeg = 10 * i + k := nI_clamp (by omega)
    have e2 : ξ 252 (10 * i + k) = μ 252 (10 * i + k) := f3 _ _ (by decide)
    have e1 : ξ 251 i = μ 251 i := f2 i (Nat.le_refl _)
    have nx : ∀ ν : zm_M, (∀ d, d ≠ i → ν 251 d = ξ 251 d) → (ν 251 i = if i ≠ s ∧ ¬ μ 251 i = 0 ∧ ¬ μ 252 (10 * i + k) = 0 then 0 else μ 251 i) → ∀ d, d < i + 1 → ν 251 d = if d ≠ s ∧ ¬ μ 251 d = 0 ∧ ¬ μ 252 (10 * d + k) = 0 then 0 else μ 251 d := fun ν p q d hd => by
      by_cases e : d = i
      · rw [e]; exact q
      · rw [p d e]; exact f1 d (by omega)
    by_cases c2 : i = s
    · have c2' : nI i = nI s := by rw [c2]
      subst c2
      refine ⟨zi_set L 4 (.int (nI (i + 1))), zm_mk ξ, ⟨0, 8, fun F m hF => ?_⟩, by omega, ?_, ?_, ?_, ?_, ?_, zi_get_set_eq, ξ, rfl, (nx ξ (fun _ _ => rfl) (by rw [if_neg (fun z => z.1 rfl)]; exact e1)), (fun d hd => f2 d (by omega)), f3, trivial⟩
      · simp (maxDischargeDepth := 9) [zg_0, zg_aload_n, zg_baload, zg_bastore, zg_bipush, zg_getfield, zg_goto, zg_iadd, zg_iaload, zg_iastore, zg_iconst, zg_ifCond, zg_if_icmp, zg_iinc, zg_iload, zg_iload_n, zg_imul, zg_invokestatic, zg_invokevirtual, zg_ireturn, zg_istore, zg_istore_n, zf_X6_bring, zi_ld, zi_lda, zi_cmp, zi_retOk, zi_isI, zi_f3, zi_cr, zi_ci, zi_cn, zi_get_ne, zi_nl_i, zi_nl_r, zi_get_set_eq, nl, g0, g1, g2, g3, g4, c1, nI_1]
      · simp (maxDischargeDepth := 9) [zi_get_ne, zi_nl_i, zi_nl_r, zi_get_set_eq, nl]
      · simp (maxDischargeDepth := 9) [zi_get_ne, zi_nl_i, zi_nl_r, zi_get_set_eq, nl, g0]
      · simp (maxDischargeDepth := 9) [zi_get_ne, zi_nl_i, zi_nl_r, zi_get_set_eq, nl, g1]
      · simp (maxDischargeDepth := 9) [zi_get_ne, zi_nl_i, zi_nl_r, zi_get_set_eq, nl, g2]
      · simp (maxDischargeDepth := 9) [zi_get_ne, zi_nl_i, zi_nl_r, zi_get_set_eq, nl, g3]
    · have c2' : ¬ nI i = nI s := fun e => c2 ((nI_eq (by omega) (by omega)).mp e)
      by_cases c3 : μ 251 i = 0
      · refine ⟨zi_set L 4 (.int (nI (i + 1))), zm_mk ξ, ⟨0, 13, fun F m hF => ?_⟩, by omega, ?_, ?_, ?_, ?_, ?_, zi_get_set_eq, ξ, rfl, (nx ξ (fun _ _ => rfl) (by rw [if_neg (fun z => z.2.1 c3)]; exact e1)), (fun d hd => f2 d (by omega)), f3, trivial⟩
        · simp (maxDischargeDepth := 9) [zg_0, zg_aload_n, zg_baload, zg_bastore, zg_bipush, zg_getfield, zg_goto, zg_iadd, zg_iaload, zg_iastore, zg_iconst, zg_ifCond, zg_if_icmp, zg_iinc, zg_iload, zg_iload_n, zg_imul, zg_invokestatic, zg_invokevirtual, zg_ireturn, zg_istore, zg_istore_n, zf_X6_bring, zi_ld, zi_lda, zi_cmp, zi_retOk, zi_isI, zi_f3, zi_cr, zi_ci, zi_cn, zi_get_ne, zi_nl_i, zi_nl_r, zi_get_set_eq, nl, g0, g1, g2, g3, g4, c1, c2', zM_g, zm_bald zM_A251 ik, ck, e1, c3, nI_1]
        · simp (maxDischargeDepth := 9) [zi_get_ne, zi_nl_i, zi_nl_r, zi_get_set_eq, nl]
        · simp (maxDischargeDepth := 9) [zi_get_ne, zi_nl_i, zi_nl_r, zi_get_set_eq, nl, g0]
        · simp (maxDischargeDepth := 9) [zi_get_ne, zi_nl_i, zi_nl_r, zi_get_set_eq, nl, g1]
        · simp (maxDischargeDepth := 9) [zi_get_ne, zi_nl_i, zi_nl_r, zi_get_set_eq, nl, g2]
        · simp (maxDischargeDepth := 9) [zi_get_ne, zi_nl_i, zi_nl_r, zi_get_set_eq, nl, g3]
      · by_cases c4 : μ 252 (10 * i + k) = 0
        · refine ⟨zi_set L 4 (.int (nI (i + 1))), zm_mk ξ, ⟨0, 22, fun F m hF => ?_⟩, by omega, ?_, ?_, ?_, ?_, ?_, zi_get_set_eq, ξ, rfl, (nx ξ (fun _ _ => rfl) (by rw [if_neg (fun z => z.2.2 c4)]; exact e1)), (fun d hd => f2 d (by omega)), f3, trivial⟩
          · simp (maxDischargeDepth := 9) [zg_0, zg_aload_n, zg_baload, zg_bastore, zg_bipush, zg_getfield, zg_goto, zg_iadd, zg_iaload, zg_iastore, zg_iconst, zg_ifCond, zg_if_icmp, zg_iinc, zg_iload, zg_iload_n, zg_imul, zg_invokestatic, zg_invokevirtual, zg_ireturn, zg_istore, zg_istore_n, zf_X6_bring, zi_ld, zi_lda, zi_cmp, zi_retOk, zi_isI, zi_f3, zi_cr, zi_ci, zi_cn, zi_get_ne, zi_nl_i, zi_nl_r, zi_get_set_eq, nl, g0, g1, g2, g3, g4, h10, c1, c2', zM_g, zm_bald zM_A251 ik, ck, e1, c3, mk, nI_add, zm_bald zM_A252 ij, cj, e2, c4, nI_1]
          · simp (maxDischargeDepth := 9) [zi_get_ne, zi_nl_i, zi_nl_r, zi_get_set_eq, nl]
          · simp (maxDischargeDepth := 9) [zi_get_ne, zi_nl_i, zi_nl_r, zi_get_set_eq, nl, g0]
          · simp (maxDischargeDepth := 9) [zi_get_ne, zi_nl_i, zi_nl_r, zi_get_set_eq, nl, g1]
          · simp (maxDischargeDepth := 9) [zi_get_ne, zi_nl_i, zi_nl_r, zi_get_set_eq, nl, g2]
          · simp (maxDischargeDepth := 9) [zi_get_ne, zi_nl_i, zi_nl_r, zi_get_set_eq, nl, g3]
        · have f1' := nx (zm_up ξ 251 i 0) (fun d hd => zm_up_ne (by omega)) (by rw [zm_up_eq, if_pos ⟨c2, c3, c4⟩])
          have f2' : ∀ d, i + 1 ≤ d → zm_up ξ 251 i 0 251 d = μ 251 d := fun d hd => (zm_up_ne (by omega)).trans (f2 d (by omega))
          have f3' : ∀ c d, c ≠ 251 → zm_up ξ 251 i 0 c d = μ c d := fun c d h => (zm_up_ne (by omega)).trans (f3 c d h)
          have o0 : (0 : Int32) = 0 ∨ (0 : Int32) = 1 := Or.inl rfl
          refine ⟨zi_set L 4 (.int (nI (i + 1))), zm_mk (zm_up ξ 251 i 0), ⟨0, 27, fun F m hF => ?_⟩, by omega, ?_, ?_, ?_, ?_, ?_, zi_get_set_eq, _, rfl, f1', f2', f3', trivial⟩
          · simp (maxDischargeDepth := 9) [zg_0, zg_aload_n, zg_baload, zg_bastore, zg_bipush, zg_getfield, zg_goto, zg_iadd, zg_iaload, zg_iastore, zg_iconst, zg_ifCond, zg_if_icmp, zg_iinc, zg_iload, zg_iload_n, zg_imul, zg_invokestatic, zg_invokevirtual, zg_ireturn, zg_istore, zg_istore_n, zf_X6_bring, zi_ld, zi_lda, zi_cmp, zi_retOk, zi_isI, zi_f3, zi_cr, zi_ci, zi_cn, zi_get_ne, zi_nl_i, zi_nl_r, zi_get_set_eq, nl, g0, g1, g2, g3, g4, h10, c1, c2', zM_g, zm_bald zM_A251 ik, ck, e1, c3, mk, nI_add, zm_bald zM_A252 ij, cj, e2, c4, zm_bast zM_A251 ik o0, nI_1]
          · simp (maxDischargeDepth := 9) [zi_get_ne, zi_nl_i, zi_nl_r, zi_get_set_eq, nl]
          · simp (maxDischargeDepth := 9) [zi_get_ne, zi_nl_i, zi_nl_r, zi_get_set_eq, nl, g0]
          · simp (maxDischargeDepth := 9) [zi_get_ne, zi_nl_i, zi_nl_r, zi_get_set_eq, nl, g1]
          · simp (maxDischargeDepth := 9) [zi_get_ne, zi_nl_i, zi_nl_r, zi_get_set_eq, nl, g2]
          · simp (maxDischargeDepth := 9) [zi_get_ne, zi_nl_i, zi_nl_r, zi_get_set_eq, nl, g3]
  · rintro L _ ⟨-, nl, g0, g1, g2, g3, g4, ξ, rfl, f1, f2, f3, hq⟩
    have c1 : (3 : Int32) ≤ nI 3 := by decide
    refine ⟨L, zm_mk ξ, ⟨0, 3, fun F m hF => ?_⟩, nl, g0, g1, g2, g3, ξ, rfl, f1, f3⟩
    simp (maxDischargeDepth := 9) [zg_0, zg_aload_n, zg_baload, zg_bastore, zg_bipush, zg_getfield, zg_goto, zg_iadd, zg_iaload, zg_iastore, zg_iconst, zg_ifCond, zg_if_icmp, zg_iinc, zg_iload, zg_iload_n, zg_imul, zg_invokestatic, zg_invokevirtual, zg_ireturn, zg_istore, zg_istore_n, zf_X6_bring, zi_ld, zi_lda, zi_cmp, zi_retOk, zi_isI, zi_f3, zi_cr, zi_ci, zi_cn, zi_get_ne, zi_nl_i, zi_nl_r, zi_get_set_eq, nl, g0, g1, g2, g3, g4, c1, nI_1]
/-- the windows g below i have come to the screen s -/
noncomputable def zv_br (μ ξ : zm_M) (s : Nat) (g : Nat → Bool) (i : Nat) : Prop :=
  (∀ j, j < 10 → ξ 238 j = if (j < i ∧ g j = true) ∧ ¬ μ 234 j = 1 then nI s else μ 238 j) ∧ (∀ o, o < 3 → (ξ 251 o = 0 ∨ ξ 251 o = μ 251 o) ∧ (ξ 251 o = 0 ↔ μ 251 o = 0 ∨ (o ≠ s ∧ ∃ j, j < i ∧ g j = true ∧ ¬ μ 252 (10 * o + j) = 0))) ∧ ∀ c d, c ≠ 238 → c ≠ 239 → c ≠ 240 → c ≠ 251 → ξ c d = μ c d
theorem zv_br_no {ξ : zm_M} {i : Nat} (h : zv_br μ ξ s g i) (hg : ¬ g i = true) : zv_br μ ξ s g (i + 1) := by
  obtain ⟨h1, h2, h3⟩ := h
  refine ⟨fun j hj => ?_, fun o ho => ⟨(h2 o ho).1, (h2 o ho).2.trans ?_⟩, h3⟩
  · rw [h1 j hj]
    by_cases e : j = i
    · subst e
      rw [if_neg (fun z => hg z.1.2), if_neg (fun z => hg z.1.2)]
    · have : (j < i ∧ g j = true) ↔ (j < i + 1 ∧ g j = true) := ⟨fun z => ⟨by omega, z.2⟩, fun z => ⟨by omega, z.2⟩⟩
      simp only [this]
  · refine or_congr Iff.rfl (and_congr Iff.rfl ⟨fun ⟨j, a, b, c⟩ => ⟨j, by omega, b, c⟩, fun ⟨j, a, b, c⟩ => ⟨j, ?_, b, c⟩⟩)
    by_cases e : j = i
    · rw [e] at b; exact absurd b hg
    · omega
theorem zv_br_s {ξ ξ1 ν : zm_M} {i : Nat} (hi : i < 10) (h : zv_br μ ξ s g i) (hg : g i = true) (e1 : ∀ c d, c ≠ 238 → c ≠ 239 → c ≠ 240 → ξ1 c d = ξ c d) (e2 : ∀ j, j ≠ i → ξ1 238 j = ξ 238 j) (e3 : ξ1 238 i = if ¬ μ 234 i = 1 then nI s else ξ 238 i) (n1 : ∀ d, d < 3 → ν 251 d = if d ≠ s ∧ ¬ ξ1 251 d = 0 ∧ ¬ ξ1 252 (10 * d + i) = 0 then 0 else ξ1 251 d) (n2 : ∀ c d, c ≠ 251 → ν c d = ξ1 c d) : zv_br μ ν s g (i + 1) := by
  obtain ⟨h1, h2, h3⟩ := h
  refine ⟨fun j hj => ?_, fun o ho => ?_, fun c d a1 a2 a3 a4 => by rw [n2 c d a4, e1 c d a1 a2 a3]; exact h3 c d a1 a2 a3 a4⟩
  · rw [n2 _ _ (by decide)]
    by_cases e : j = i
    · subst e
      rw [e3]
      by_cases c : μ 234 j = 1
      · rw [if_neg (not_not_intro c), h1 j hj, if_neg (fun z => z.2 c), if_neg (fun z => z.2 c)]
      · rw [if_pos c, if_pos ⟨⟨Nat.lt_succ_self _, hg⟩, c⟩]
    · have : (j < i ∧ g j = true) ↔ (j < i + 1 ∧ g j = true) := ⟨fun z => ⟨by omega, z.2⟩, fun z => ⟨by omega, z.2⟩⟩
      rw [e2 j e, h1 j hj]
      simp only [this]
  · have w1 : ξ1 251 o = ξ 251 o := e1 _ _ (by decide) (by decide) (by decide)
    have w2 : ξ1 252 (10 * o + i) = μ 252 (10 * o + i) := (e1 _ _ (by decide) (by decide) (by decide)).trans (h3 _ _ (by decide) (by decide) (by decide) (by decide))
    rw [n1 o ho, w1, w2]
    obtain ⟨p1, p2⟩ := h2 o ho
    by_cases c : o ≠ s ∧ ¬ ξ 251 o = 0 ∧ ¬ μ 252 (10 * o + i) = 0
    · rw [if_pos c]
      exact ⟨Or.inl rfl, fun _ => Or.inr ⟨c.1, i, Nat.lt_succ_self _, hg, c.2.2⟩, fun _ => rfl⟩
    · rw [if_neg c]
      refine ⟨p1, fun z => ?_, fun z => ?_⟩
      · rcases p2.mp z with z | ⟨z1, j, z2, z3, z4⟩
        · exact Or.inl z
        · exact Or.inr ⟨z1, j, by omega, z3, z4⟩
      · rcases z with z | ⟨z1, j, z2, z3, z4⟩
        · exact p2.mpr (Or.inl z)
        · by_cases e : j = i
          · rw [e] at z4
            exact Decidable.byContradiction fun y => c ⟨z1, y, z4⟩
          · exact p2.mpr (Or.inr ⟨z1, j, by omega, z3, z4⟩)
set_option maxRecDepth 100000 in
theorem zv_brA (D : Nat) (hs : s < 3) {k : Nat} (hk : k < 10) (hb : μ 252 (10 * s + k) = 0 ∨ μ 252 (10 * s + k) = 1) {z : Nat} (L : zi_Lc) (nl : zi_nl L = true) (g0 : zi_get L 0 = some (.ref 232)) (g1 : zi_get L 1 = some (.int (nI s))) (g2 : zi_get L 2 = some (.int (nI z))) (g3 : zi_get L 3 = some (.int (nI k))) :
    ∃ L' ν, ze_S (D + 2) 7 (some .int) zc_X6_bring 121 L [] (zm_mk μ) 206 L' [] (zm_mk ν) ∧ zi_nl L' = true ∧ zi_get L' 0 = some (.ref 232) ∧ zi_get L' 1 = some (.int (nI s)) ∧ zi_get L' 2 = some (.int (nI (z + 1))) ∧ zi_get L' 3 = some (.int (nI k)) ∧ zi_get L' 4 = some (.int (nI 0)) ∧ (∀ c d, c ≠ 238 → c ≠ 239 → c ≠ 240 → ν c d = μ c d) ∧ (∀ j, j ≠ k → ν 238 j = μ 238 j) ∧ (ν 238 k = if ¬ μ 234 k = 1 then nI s else μ 238 k) := by
  have h10 : (Int8.ofInt 10).toInt32 = (10 : Int32) := by decide
  have n1 : (Int8.ofInt 1).toInt32 = (1 : Int32) := by decide
  have ik : zi_in (nI k) 10 = true := zm_in hk (by decide)
  have ck : (nI k).toNatClampNeg = k := nI_clamp (by omega)
  have mk : (10 : Int32) * nI s = nI (10 * s) := nI_mul10 (by omega)
  have ij : zi_in (nI (10 * s + k)) 30 = true := zm_in (by omega) (by decide)
  have cj : (nI (10 * s + k)).toNatClampNeg = 10 * s + k := nI_clamp (by omega)
  obtain ⟨lc, cM⟩ := zM_c (μ := μ)
  by_cases c : μ 234 k = 1
  · refine ⟨zi_set (zi_set L 2 (.int (nI (z + 1)))) 4 (.int (nI 0)), μ, ⟨0, 9, fun F m hF => ?_⟩, by simp (maxDischargeDepth := 9) [zi_get_ne, zi_nl_i, zi_nl_r, zi_get_set_eq, nl], by simp (maxDischargeDepth := 9) [zi_get_ne, zi_nl_i, zi_nl_r, zi_get_set_eq, nl, g0], by simp (maxDischargeDepth := 9) [zi_get_ne, zi_nl_i, zi_nl_r, zi_get_set_eq, nl, g1], by simp (maxDischargeDepth := 9) [zi_get_ne, zi_nl_i, zi_nl_r, zi_get_set_eq, nl], by simp (maxDischargeDepth := 9) [zi_get_ne, zi_nl_i, zi_nl_r, zi_get_set_eq, nl, g3], zi_get_set_eq, fun _ _ _ _ _ => rfl, fun _ _ => rfl, by rw [if_neg (not_not_intro c)]⟩
    simp (maxDischargeDepth := 9) [zg_0, zg_aload_n, zg_baload, zg_bastore, zg_bipush, zg_getfield, zg_goto, zg_iadd, zg_iaload, zg_iastore, zg_iconst, zg_ifCond, zg_if_icmp, zg_iinc, zg_iload, zg_iload_n, zg_imul, zg_invokestatic, zg_invokevirtual, zg_ireturn, zg_istore, zg_istore_n, zf_X6_bring, zi_ld, zi_lda, zi_cmp, zi_retOk, zi_isI, zi_f3, zi_cr, zi_ci, zi_cn, zi_get_ne, zi_nl_i, zi_nl_r, zi_get_set_eq, nl, g0, g1, g2, g3, zM_g, zm_iald (k := 0) zM_A234 ik, ck, c, nI_0, nI_1]
  · have pf : ∀ p q, (∀ c d, c ≠ 238 → c ≠ 239 → c ≠ 240 → zv_put μ k s p q c d = μ c d) ∧ (∀ j, j ≠ k → zv_put μ k s p q 238 j = μ 238 j) ∧ (zv_put μ k s p q 238 k = if ¬ μ 234 k = 1 then nI s else μ 238 k) := fun p q => by
      unfold zv_put
      refine ⟨fun c d a1 a2 a3 => by rw [zm_up_ne (by omega), zm_up_ne (by omega), zm_up_ne (by omega)], fun j hj => by rw [zm_up_ne (by omega), zm_up_ne (by omega), zm_up_ne (by omega)], by rw [if_pos c, zm_up_ne (by omega), zm_up_ne (by omega), zm_up_eq]⟩
    rcases hb with b | b
    · obtain ⟨p, q, ⟨N1, E1⟩, -⟩ := ze_MputAt (μ := μ) D hk hs (μ 239 k) (μ 240 k)
      have pf := pf p q
      generalize zv_put μ k s p q = ν at E1 pf
      refine ⟨zi_set (zi_set (zi_set L 2 (.int (nI (z + 1)))) 4 (.int 0)) 4 (.int (nI 0)), ν, ⟨N1, 34, fun F m hF => ?_⟩, by simp (maxDischargeDepth := 9) [zi_get_ne, zi_nl_i, zi_nl_r, zi_get_set_eq, nl], by simp (maxDischargeDepth := 9) [zi_get_ne, zi_nl_i, zi_nl_r, zi_get_set_eq, nl, g0], by simp (maxDischargeDepth := 9) [zi_get_ne, zi_nl_i, zi_nl_r, zi_get_set_eq, nl, g1], by simp (maxDischargeDepth := 9) [zi_get_ne, zi_nl_i, zi_nl_r, zi_get_set_eq, nl], by simp (maxDischargeDepth := 9) [zi_get_ne, zi_nl_i, zi_nl_r, zi_get_set_eq, nl, g3], zi_get_set_eq, pf⟩
      simp (maxDischargeDepth := 9) [zg_0, zg_aload_n, zg_baload, zg_bastore, zg_bipush, zg_getfield, zg_goto, zg_iadd, zg_iaload, zg_iastore, zg_iconst, zg_ifCond, zg_if_icmp, zg_iinc, zg_iload, zg_iload_n, zg_imul, zg_invokestatic, zg_invokevirtual, zg_ireturn, zg_istore, zg_istore_n, zf_X6_bring, zi_ld, zi_lda, zi_cmp, zi_retOk, zi_isI, zi_f3, zi_cr, zi_ci, zi_cn, zi_get_ne, zi_nl_i, zi_nl_r, zi_get_set_eq, nl, g0, g1, g2, g3, zM_g, h10, mk, nI_add, zm_bald zM_A252 ij, cj, b, zm_iald (k := 0) zM_A234 ik, zm_iald (k := 0) zM_A239 ik, zm_iald (k := 0) zM_A240 ik, ck, c, cM, zq_Mod_putAt, E1 F (by omega), nI_0, nI_1]
    · obtain ⟨p, q, ⟨N1, E1⟩, -⟩ := ze_MputAt (μ := μ) D hk hs (μ 253 (10 * s + k)) (μ 254 (10 * s + k))
      have pf := pf p q
      generalize zv_put μ k s p q = ν at E1 pf
      refine ⟨zi_set (zi_set (zi_set L 2 (.int (nI (z + 1)))) 4 (.int 1)) 4 (.int (nI 0)), ν, ⟨N1, 44, fun F m hF => ?_⟩, by simp (maxDischargeDepth := 9) [zi_get_ne, zi_nl_i, zi_nl_r, zi_get_set_eq, nl], by simp (maxDischargeDepth := 9) [zi_get_ne, zi_nl_i, zi_nl_r, zi_get_set_eq, nl, g0], by simp (maxDischargeDepth := 9) [zi_get_ne, zi_nl_i, zi_nl_r, zi_get_set_eq, nl, g1], by simp (maxDischargeDepth := 9) [zi_get_ne, zi_nl_i, zi_nl_r, zi_get_set_eq, nl], by simp (maxDischargeDepth := 9) [zi_get_ne, zi_nl_i, zi_nl_r, zi_get_set_eq, nl, g3], zi_get_set_eq, pf⟩
      simp (maxDischargeDepth := 9) [zg_0, zg_aload_n, zg_baload, zg_bastore, zg_bipush, zg_getfield, zg_goto, zg_iadd, zg_iaload, zg_iastore, zg_iconst, zg_ifCond, zg_if_icmp, zg_iinc, zg_iload, zg_iload_n, zg_imul, zg_invokestatic, zg_invokevirtual, zg_ireturn, zg_istore, zg_istore_n, zf_X6_bring, zi_ld, zi_lda, zi_cmp, zi_retOk, zi_isI, zi_f3, zi_cr, zi_ci, zi_cn, zi_get_ne, zi_nl_i, zi_nl_r, zi_get_set_eq, nl, g0, g1, g2, g3, zM_g, h10, mk, nI_add, zm_bald zM_A252 ij, zm_iald (k := 0) zM_A253 ij, zm_iald (k := 0) zM_A254 ij, cj, b, zm_iald (k := 0) zM_A234 ik, ck, c, cM, zq_Mod_putAt, E1 F (by omega), nI_0, nI_1]
set_option maxRecDepth 100000 in
theorem zv_brK (D : Nat) (hs : s < 3) (hg : zv_cm μ g) (hb : ∀ k, k < 10 → μ 252 (10 * s + k) = 0 ∨ μ 252 (10 * s + k) = 1) (L0 : zi_Lc) (nl0 : zi_nl L0 = true) (a0 : zi_get L0 0 = some (.ref 232)) (a1 : zi_get L0 1 = some (.int (nI s))) (a2 : zi_get L0 2 = some (.int (nI 0))) (a3 : zi_get L0 3 = some (.int (nI 0))) :
    ∃ r h', ze_G (D + 2) 7 (some .int) zc_X6_bring 106 L0 [] (zm_mk μ) r h' ∧ (r = some (.int (nI (zl_ct g 10))) ∧ ∃ ν, zm_mk ν = h' ∧ zv_br μ ν s g 10) := by
  have h10 : (Int8.ofInt 10).toInt32 = (10 : Int32) := by decide
  refine ze_loop (Q := fun i L hp => i ≤ 10 ∧ zi_nl L = true ∧ zi_get L 0 = some (.ref 232) ∧ zi_get L 1 = some (.int (nI s)) ∧ zi_get L 3 = some (.int (nI i)) ∧ ∃ ξ : zm_M, zm_mk ξ = hp ∧ ∃ (z : Nat), zi_get L 2 = some (.int (nI z)) ∧ (z = zl_ct g i ∧ zv_br μ ξ s g i)) (R := fun r h' => r = some (.int (nI (zl_ct g 10))) ∧ ∃ ν, zm_mk ν = h' ∧ zv_br μ ν s g 10) 10 ?_ ?_ 10 0 _ _ (by omega) ⟨by omega, nl0, a0, a1, a3, μ, rfl, 0, a2, rfl, ⟨fun j hj => by rw [if_neg (fun z => absurd z.1.1 (by omega))], fun o ho => ⟨Or.inr rfl, fun z => Or.inl z, fun z => z.elim id (fun y => (by obtain ⟨-, j, hj, -⟩ := y; omega))⟩, fun _ _ _ _ _ _ => rfl⟩⟩
  · rintro i L _ hi ⟨-, nl, g0, g1, g3, ξ, rfl, z, g2, hq⟩
    obtain ⟨hz, hb1⟩ := hq
    have c1 : ¬ (10 : Int32) ≤ nI i := nI_ge (b := 10) hi (by decide)
    have ik : zi_in (nI i) 10 = true := zm_in hi (by decide)
    have ck : (nI i).toNatClampNeg = i := nI_clamp (by omega)
    have ec : ξ 260 i = if g i = true then 1 else 0 := (hb1.2.2 _ _ (by decide) (by decide) (by decide) (by decide)).trans (hg i hi)
    have es : zl_ct g (i + 1) = zl_ct g i + if g i then 1 else 0 := rfl
    by_cases c2 : g i = true
    · rw [if_pos c2] at ec
      rw [if_pos c2] at es
      have hb2 := hb i hi
      have e25 : ξ 252 (10 * s + i) = μ 252 (10 * s + i) := hb1.2.2 _ _ (by decide) (by decide) (by decide) (by decide)
      rw [← e25] at hb2
      obtain ⟨L1, ξ1, S1, nl1, b0, b1, b2, b3, b4, m1, m2, m3⟩ := zv_brA (μ := ξ) D hs hi hb2 L nl g0 g1 g2 g3
      obtain ⟨L2, h2, S2, nl2, d0, d1, d2, d3, ν, rfl, n1, n2⟩ := zv_brF (μ := ξ1) (D + 2) hs hi L1 nl1 b0 b1 b2 b3 b4
      have e4 : ξ 234 i = μ 234 i := hb1.2.2 _ _ (by decide) (by decide) (by decide) (by decide)
      rw [e4] at m3
      left
      refine ⟨zi_set L2 3 (.int (nI (i + 1))), zm_mk ν, ze_S.trans ⟨0, 8, fun F m hF => ?_⟩ (S1.trans (S2.trans ⟨0, 2, fun F m hF => ?_⟩)), by omega, ?_, ?_, ?_, zi_get_set_eq, ν, rfl, z + 1, ?_, by rw [es, hz], zv_br_s hi hb1 c2 m1 m2 m3 n1 n2⟩
      · simp (maxDischargeDepth := 9) [zg_0, zg_aload_n, zg_baload, zg_bastore, zg_bipush, zg_getfield, zg_goto, zg_iadd, zg_iaload, zg_iastore, zg_iconst, zg_ifCond, zg_if_icmp, zg_iinc, zg_iload, zg_iload_n, zg_imul, zg_invokestatic, zg_invokevirtual, zg_ireturn, zg_istore, zg_istore_n, zf_X6_bring, zi_ld, zi_lda, zi_cmp, zi_retOk, zi_isI, zi_f3, zi_cr, zi_ci, zi_cn, zi_get_ne, zi_nl_i, zi_nl_r, zi_get_set_eq, nl, g0, g1, g2, g3, h10, c1, zM_g, zm_bald zM_A260 ik, ck, ec]
      · have nl := nl2
        simp (maxDischargeDepth := 9) [zg_0, zg_aload_n, zg_baload, zg_bastore, zg_bipush, zg_getfield, zg_goto, zg_iadd, zg_iaload, zg_iastore, zg_iconst, zg_ifCond, zg_if_icmp, zg_iinc, zg_iload, zg_iload_n, zg_imul, zg_invokestatic, zg_invokevirtual, zg_ireturn, zg_istore, zg_istore_n, zf_X6_bring, zi_ld, zi_lda, zi_cmp, zi_retOk, zi_isI, zi_f3, zi_cr, zi_ci, zi_cn, zi_get_ne, zi_nl_i, zi_nl_r, zi_get_set_eq, nl, d0, d1, d2, d3, nI_1]
      · have nl := nl2
        simp (maxDischargeDepth := 9) [zi_get_ne, zi_nl_i, zi_nl_r, zi_get_set_eq, nl]
      · have nl := nl2
        simp (maxDischargeDepth := 9) [zi_get_ne, zi_nl_i, zi_nl_r, zi_get_set_eq, nl, d0]
      · have nl := nl2
        simp (maxDischargeDepth := 9) [zi_get_ne, zi_nl_i, zi_nl_r, zi_get_set_eq, nl, d1]
      · have nl := nl2
        simp (maxDischargeDepth := 9) [zi_get_ne, zi_nl_i, zi_nl_r, zi_get_set_eq, nl, d2]
    · rw [if_neg c2] at ec
      rw [if_neg c2] at es
      left
      refine ⟨zi_set L 3 (.int (nI (i + 1))), zm_mk ξ, ⟨0, 10, fun F m hF => ?_⟩, by omega, ?_, ?_, ?_, zi_get_set_eq, ξ, rfl, z, ?_, ⟨hz.trans es.symm, zv_br_no hb1 c2⟩⟩
      · simp (maxDischargeDepth := 9) [zg_0, zg_aload_n, zg_baload, zg_bastore, zg_bipush, zg_getfield, zg_goto, zg_iadd, zg_iaload, zg_iastore, zg_iconst, zg_ifCond, zg_if_icmp, zg_iinc, zg_iload, zg_iload_n, zg_imul, zg_invokestatic, zg_invokevirtual, zg_ireturn, zg_istore, zg_istore_n, zf_X6_bring, zi_ld, zi_lda, zi_cmp, zi_retOk, zi_isI, zi_f3, zi_cr, zi_ci, zi_cn, zi_get_ne, zi_nl_i, zi_nl_r, zi_get_set_eq, nl, g0, g1, g3, g2, h10, c1, zM_g, zm_bald zM_A260 ik, ck, ec, nI_1]
      · simp (maxDischargeDepth := 9) [zi_get_ne, zi_nl_i, zi_nl_r, zi_get_set_eq, nl]
      · simp (maxDischargeDepth := 9) [zi_get_ne, zi_nl_i, zi_nl_r, zi_get_set_eq, nl, g0]
      · simp (maxDischargeDepth := 9) [zi_get_ne, zi_nl_i, zi_nl_r, zi_get_set_eq, nl, g1]
      · simp (maxDischargeDepth := 9) [zi_get_ne, zi_nl_i, zi_nl_r, zi_get_set_eq, nl, g2]
  · rintro L _ ⟨-, nl, g0, g1, g3, ξ, rfl, z, g2, hq⟩
    obtain ⟨hz, hb1⟩ := hq
    have c1 : (10 : Int32) ≤ nI 10 := by decide
    refine ⟨_, zm_mk ξ, ⟨0, 5, fun F m hF => ?_⟩, by rw [← hz], ξ, rfl, hb1⟩
    simp [zg_0, zg_aload_n, zg_baload, zg_bastore, zg_bipush, zg_getfield, zg_goto, zg_iadd, zg_iaload, zg_iastore, zg_iconst, zg_ifCond, zg_if_icmp, zg_iinc, zg_iload, zg_iload_n, zg_imul, zg_invokestatic, zg_invokevirtual, zg_ireturn, zg_istore, zg_istore_n, zf_X6_bring, zi_ld, zi_lda, zi_cmp, zi_retOk, zi_isI, zi_f3, zi_cr, zi_ci, zi_cn, g0, g2, g3, h10, c1]
variable {us : Nat → zy_F} {uk : zy_F} {abk : Nat → Int32}
set_option maxRecDepth 100000 in
theorem ze_Mbring (D : Nat) (hs : s < 3) (hI : ∀ q, q < 3 → ∃ ab, zu_I μ q (us q) ab) (hnd : ∀ q, q < 3 → zu_nd μ q (us q)) (hK : zu_I μ (3 + s) uk abk) (hKd : zu_nd μ (3 + s) uk) (hlv : ∀ n ∈ zy_lvs uk, ∀ w ∈ zu_tb μ (3 + s) n, zv_lv μ us w) (hg : zv_cm μ g) (hb : ∀ k, k < 10 → μ 252 (10 * s + k) = 0 ∨ μ 252 (10 * s + k) = 1) :
    ∃ μ1 ξ us1 ν, ze_E (D + 27) A_Mod_bring [.ref 232, .int (nI s)] (zm_mk μ) (some (.int (nI (zl_ct g 10)))) (zm_mk ν) ∧ zu_frv μ μ1 ∧ zv_bs μ1 s us ξ us1 ((zy_lvs uk).flatMap (zu_tb μ (3 + s))) ∧ zv_br (zu_cq ξ (3 + s) s 24 240) ν s g 10 := by
  obtain ⟨lc, cM⟩ := zM_c (μ := μ)
  have e3 : (3 : Int32) + nI s = nI (3 + s) := by rw [show (3 : Int32) = nI 3 by decide, nI_add]
  obtain ⟨μ1, ⟨N1, E1⟩, v1, f1⟩ := ze_MclearLeaves (μ := μ) D (τ := 3 + s) (by omega) hK
  have etb : ∀ τ, zu_tb μ1 τ = zu_tb μ τ := fun τ => funext fun n => zu_frv_tb f1
  have hI1 : ∀ q, q < 3 → ∃ ab, zu_I μ1 q (us q) ab := fun q hq => by
    obtain ⟨ab, h⟩ := hI q hq
    exact ⟨ab, (f1.eqT (τ := q)).I h⟩
  have nd1 : ∀ τ u, zu_nd μ τ u → zu_nd μ1 τ u := fun τ u h => by
    unfold zu_nd
    rw [etb]; exact h
  have hlv1 : ∀ w, zv_lv μ us w → zv_lv μ1 us w := fun w ⟨h1, q, h2, h3, ⟨m, h4⟩, h5⟩ => by
    obtain ⟨ab, hIq⟩ := hI q h2
    refine ⟨h1, q, h2, (f1 _ _ (by omega) (by decide)).trans h3, ⟨m, zu_at_eqT hIq (f1.eqT (τ := q)) h4⟩, ?_⟩
    intro p
    rw [etb]
    exact h5 p
  obtain ⟨L1, h1, S1, nl1, b0, b1, b2, ξ, us1, rfl, hbs⟩ := zv_brO (μ := μ1) (us := us) (uk := uk) (D + 22) hs hI1 (fun q hq => nd1 q _ (hnd q hq)) ((f1.eqT (τ := 3 + s)).I hK) (nd1 _ _ hKd) v1 (fun n hn w hw => hlv1 w (hlv n hn w (by rw [etb] at hw; exact hw))) [(3, .int (nI 0)), (2, .int (nI 0)), (0, .ref 232), (1, .int (nI s))] rfl rfl rfl rfl rfl
  rw [etb] at hbs
  obtain ⟨N2, E2⟩ := ze_McopyTree (μ := ξ) (D + 24) (f := 3 + s) (t := s) (by omega) (by omega) (by omega)
  obtain ⟨lc1, cM1⟩ := zM_c (μ := ξ)
  have fc : ∀ c d, 250 < c → zu_cq ξ (3 + s) s 24 240 c d = μ c d ∨ c = 259 := fun c d h => by
    by_cases e : c = 259
    · exact Or.inr e
    · exact Or.inl (((zu_cq_fr c d (zu_in_not (by omega))).trans (hbs.2.2 c d (by omega) (fun q hq => zu_in_not (by omega)))).trans (f1 c d (by omega) e))
  have hg2 : zv_cm (zu_cq ξ (3 + s) s 24 240) g := fun j hj => by
    rw [(fc 260 j (by decide)).resolve_right (by decide)]; exact hg j hj
  have hb2 : ∀ k, k < 10 → zu_cq ξ (3 + s) s 24 240 252 (10 * s + k) = 0 ∨ zu_cq ξ (3 + s) s 24 240 252 (10 * s + k) = 1 := fun k hk => by
    rw [(fc 252 _ (by decide)).resolve_right (by decide)]; exact hb k hk
  have nl := nl1
  obtain ⟨r, h2, G, rfl, ν, rfl, hbr⟩ := zv_brK (μ := zu_cq ξ (3 + s) s 24 240) (D + 24) hs hg2 hb2 (zi_set L1 3 (.int (nI 0))) (by simp (maxDischargeDepth := 9) [zi_get_ne, zi_nl_i, zi_nl_r, zi_get_set_eq, nl]) (by simp (maxDischargeDepth := 9) [zi_get_ne, zi_nl_i, zi_nl_r, zi_get_set_eq, nl, b0]) (by simp (maxDischargeDepth := 9) [zi_get_ne, zi_nl_i, zi_nl_r, zi_get_set_eq, nl, b1]) (by simp (maxDischargeDepth := 9) [zi_get_ne, zi_nl_i, zi_nl_r, zi_get_set_eq, nl, b2]) zi_get_set_eq
  refine ⟨μ1, ξ, us1, ν, ze_in [(0, .ref 232), (1, .int (nI s))] zq_Mod_bring (Nat.le_of_ble_eq_true rfl) rfl (ze_S.end ⟨N1, 9, fun F m hF => ?_⟩ (S1.end (ze_S.end ⟨N2, 8, fun F m hF => ?_⟩ G))), f1, hbs, hbr⟩
  · simp [zg_0, zg_aload_n, zg_baload, zg_bastore, zg_bipush, zg_getfield, zg_goto, zg_iadd, zg_iaload, zg_iastore, zg_iconst, zg_ifCond, zg_if_icmp, zg_iinc, zg_iload, zg_iload_n, zg_imul, zg_invokestatic, zg_invokevirtual, zg_ireturn, zg_istore, zg_istore_n, zf_X6_bring, zi_ld, zi_lda, zi_cmp, zi_retOk, zi_isI, zi_f3, zi_cr, zi_ci, zi_cn, zi_get, zi_set, zM_g, cM, e3, zq_Mod_clearLeaves, E1 F (by omega), nI_0]
  · simp (maxDischargeDepth := 9) [zg_0, zg_aload_n, zg_baload, zg_bastore, zg_bipush, zg_getfield, zg_goto, zg_iadd, zg_iaload, zg_iastore, zg_iconst, zg_ifCond, zg_if_icmp, zg_iinc, zg_iload, zg_iload_n, zg_imul, zg_invokestatic, zg_invokevirtual, zg_ireturn, zg_istore, zg_istore_n, zf_X6_bring, zi_ld, zi_lda, zi_cmp, zi_retOk, zi_isI, zi_f3, zi_cr, zi_ci, zi_cn, zi_get_ne, zi_nl_i, zi_nl_r, zi_get_set_eq, nl, b0, b1, b2, cM1, e3, zq_Mod_copyTree, E2 F (by omega), nI_0]
end ZVZ
end
section
/-! the reference: what holds between calls; isOf, focus, back -/
/-- what holds of the reference between calls -/
noncomputable def zR (μ : zm_M) (row stk : List Nat) (us : Nat → zy_F) : Prop :=
  (∀ k, k < 10 → μ 234 k = 0 ∨ μ 234 k = 1 ∨ μ 234 k = 2 ∨ μ 234 k = 3 ∨ μ 234 k = 4) ∧ (zv_L μ 242 12 row ∧ row.Nodup ∧ ∀ k, k ∈ row ↔ k < 10 ∧ ¬ μ 234 k = 0) ∧ (zv_L μ 241 10 stk ∧ stk.Nodup ∧ ∀ k, k ∈ stk ↔ k < 10 ∧ 2 ≤ μ 234 k) ∧ (∃ rk, zv_rk μ rk) ∧
  (∀ q, q < 3 → (∃ ab, zu_I μ q (us q) ab) ∧ zu_nd μ q (us q) ∧ ∀ n ∈ zy_lvs (us q), ∀ w ∈ zu_tb μ q n, μ 234 w = 1 ∧ μ 238 w = nI q) ∧
  (∀ k, k < 10 → ¬ μ 234 k = 0 → ¬ μ 234 k = 4 → ∃ q, q < 3 ∧ μ 238 k = nI q ∧ 0 < μ 232 q ∧ (μ 234 k = 1 → ∃ m, zu_at μ q (us q) k m)) ∧ ∀ q, q < 3 → 0 ≤ μ 232 q ∧ 0 ≤ μ 233 q
/-- only cells that no answer of ours rests on have changed -/
noncomputable def zM_fr (μ ν : zm_M) : Prop := ∀ c d, ¬ (c = 231 ∧ d = 30) → c ≠ 239 → c ≠ 240 → ¬ (253 ≤ c ∧ c ≤ 261) → ν c d = μ c d
section ZWA
variable {μ ν : zm_M} {row stk : List Nat} {us : Nat → zy_F}
theorem zM_fr.refl : zM_fr μ μ := fun _ _ _ _ _ _ => rfl
theorem zM_fr.trans {ξ : zm_M} (a : zM_fr μ ν) (b : zM_fr ν ξ) : zM_fr μ ξ := fun c d h1 h2 h3 h4 => (b c d h1 h2 h3 h4).trans (a c d h1 h2 h3 h4)
theorem zv_frY.fr (h : zv_frY μ ν) : zM_fr μ ν := fun c d h1 _ _ h4 => h c d h1 (by omega)
theorem zu_frv.fr (h : zu_frv μ ν) : zM_fr μ ν := fun c d h1 _ _ h4 => h c d h1 (by omega)
theorem zM_fr.eqT {τ : Nat} (h : zM_fr μ ν) : zu_eqT μ τ ν τ := by
  refine ⟨h _ _ (by omega) (by decide) (by decide) (by omega), fun c n hc _ => ?_, fun n j _ _ => h _ _ (by omega) (by decide) (by decide) (by omega)⟩
  have : c = 244 ∨ c = 245 ∨ c = 246 ∨ c = 247 ∨ c = 249 ∨ c = 250 := by
    unfold zu_c6 at hc
    simpa [or_assoc] using hc
  exact h _ _ (by omega) (by omega) (by omega) (by omega)
theorem zM_fr.L {C q : Nat} {l : List Nat} (h : zM_fr μ ν) (hC : C = 241 ∨ C = 242) (hq : q = 10 ∨ q = 12) (g : zv_L μ C q l) : zv_L ν C q l :=
  ⟨g.1, (h _ _ (by omega) (by decide) (by decide) (by omega)).trans g.2.1, fun j hj => (h _ _ (by omega) (by omega) (by omega) (by omega)).trans (g.2.2 j hj)⟩
theorem zM_fr.tb {τ : Nat} (h : zM_fr μ ν) : zu_tb ν τ = zu_tb μ τ := funext fun n => zu_tb_cells (fun d => ⟨h _ _ (by omega) (by decide) (by decide) (by omega), h _ _ (by omega) (by decide) (by decide) (by omega)⟩)
theorem zR.fr (h : zR μ row stk us) (f : zM_fr μ ν) : zR ν row stk us := by
  obtain ⟨h1, h2, h3, ⟨rk, h4⟩, h5, h6, h7⟩ := h
  have e : ∀ c d, 232 ≤ c → c ≤ 238 → ν c d = μ c d := fun c d a b => f c d (by omega) (by omega) (by omega) (by omega)
  have e4 : ν 234 = μ 234 := funext fun d => e 234 d (by decide) (by decide)
  have e7 : ν 237 = μ 237 := funext fun d => e 237 d (by decide) (by decide)
  have e8 : ν 238 = μ 238 := funext fun d => e 238 d (by decide) (by decide)
  have e2 : ν 232 = μ 232 := funext fun d => e 232 d (by decide) (by decide)
  have e3 : ν 233 = μ 233 := funext fun d => e 233 d (by decide) (by decide)
  refine ⟨by rw [e4]; exact h1, ⟨f.L (Or.inr rfl) (Or.inr rfl) h2.1, h2.2.1, by rw [e4]; exact h2.2.2⟩, ⟨f.L (Or.inl rfl) (Or.inl rfl) h3.1, h3.2.1, by rw [e4]; exact h3.2.2⟩, ⟨rk, by unfold zv_rk; rw [e4, e7]; exact h4⟩, fun q hq => ?_, fun k hk => ?_, by rw [e2, e3]; exact h7⟩
  · obtain ⟨⟨ab, a1⟩, a2, a3⟩ := h5 q hq
    refine ⟨⟨ab, f.eqT.I a1⟩, ?_, by rw [f.tb, e4, e8]; exact a3⟩
    unfold zu_nd
    rw [f.tb]; exact a2
  · rw [e4, e8, e2]
    intro a b
    obtain ⟨q, b1, b2, b3, b4⟩ := h6 k hk a b
    refine ⟨q, b1, b2, b3, fun c => ?_⟩
    obtain ⟨m, b5⟩ := b4 c
    obtain ⟨⟨ab, a1⟩, -⟩ := h5 q b1
    exact ⟨m, zu_at_eqT a1 f.eqT b5⟩
theorem zR_win (D : Nat) (h : zR μ row stk us) (w : Int32) : (∃ k, k < 10 ∧ w = nI k ∧ ¬ μ 234 k = 0 ∧ ze_E (D + 2) A_Mod_isWindow [.ref 232, .int w] (zm_mk μ) (some (.int 1)) (zm_mk μ)) ∨ (ze_E (D + 2) A_Mod_isWindow [.ref 232, .int w] (zm_mk μ) (some (.int 0)) (zm_mk μ) ∧ ∀ k, k < 10 → w = nI k → μ 234 k = 0) := by
  rcases zd_rng w 10 (by decide) with ⟨k, hk, rfl⟩ | hout
  · have E := ze_MisWindow_in (μ := μ) D hk
    by_cases c : μ 234 k = 0
    · rw [c, if_neg (by decide)] at E
      exact Or.inr ⟨E, fun j hj e => by rw [← (nI_eq (by omega) (by omega)).mp e]; exact c⟩
    · have : 0 < μ 234 k := by
        rcases h.1 k hk with e | e | e | e | e
        · exact absurd e c
        all_goals rw [e]; decide
      rw [if_pos this] at E
      exact Or.inl ⟨k, hk, rfl, c, E⟩
  · refine Or.inr ⟨ze_MisWindow_out (μ := μ) D hout, fun k hk e => ?_⟩
    exfalso
    rw [e] at hout
    rcases hout with c | c
    · exact nI_pos (by omega) c
    · exact nI_ge (b := 10) hk (by decide) c
theorem zR_fl (h : zR μ row stk us) {k : Nat} (hk : k < 10) (ht : ¬ μ 234 k = 0) : (2 ≤ μ 234 k ↔ ¬ μ 234 k = 1) := by
  rcases h.1 k hk with e | e | e | e | e
  · exact absurd e ht
  all_goals rw [e]; decide
set_option maxRecDepth 100000 in
theorem ze_MisOf (D : Nat) (h : zR μ row stk us) {k : Nat} (hk : k < 10) (x : Int32) : ze_E (D + 3) A_Mod_isOf [.ref 232, .int (nI k), .int x] (zm_mk μ) (some (.int (if ¬ μ 234 k = 0 ∧ (0 ≤ x ∧ x ≤ 4) then (if μ 234 k = x ∨ x = 0 ∨ (x = 2 ∧ ¬ μ 234 k = 1) then 1 else 0) else -1000000001))) (zm_mk μ) := by
  have n4 : Int32.ofInt (-1000000001) = -1000000001 := by decide
  obtain ⟨lc, cM⟩ := zM_c (μ := μ)
  have ik : zi_in (nI k) 10 = true := zm_in hk (by decide)
  have ck : (nI k).toNatClampNeg = k := nI_clamp (by omega)
  rcases zR_win D h (nI k) with ⟨k', hk', e, c0, N1, E1⟩ | ⟨⟨N1, E1⟩, c0⟩
  · have e := (nI_eq (by omega) (by omega)).mp e
    subst e
    obtain ⟨N2, E2⟩ := ze_isIn (h := zm_mk μ) (D + 1) x 0 4
    by_cases c1 : 0 ≤ x ∧ x ≤ 4
    · rw [if_pos c1] at E2
      rw [if_pos ⟨c0, c1⟩]
      by_cases c2 : x = 0
      · rw [if_pos (Or.inr (Or.inl c2))]
        subst c2
        refine ze_in [(0, .ref 232), (1, .int (nI k)), (2, .int 0)] zq_Mod_isOf (Nat.le_of_ble_eq_true rfl) rfl ⟨N1 + N2, 14, fun F n hF => ?_⟩
        simp [zg_0, zg_aload_n, zg_getfield, zg_goto, zg_iaload, zg_iconst, zg_ifCond, zg_if_icmp, zg_iload_n, zg_invokestatic, zg_invokevirtual, zg_ireturn, zg_ldc, zf_X6_isOf, zi_ld, zi_lda, zi_cmp, zi_retOk, zi_isI, zi_f3, zi_cr, zi_ci, zi_cn, zi_get, zi_set, cM, zq_Mod_isWindow, zq_Mod_isIn, E1 F (by omega), E2 F (by omega)]
      · by_cases c3 : μ 234 k = x
        · rw [if_pos (Or.inl c3)]
          refine ze_in [(0, .ref 232), (1, .int (nI k)), (2, .int x)] zq_Mod_isOf (Nat.le_of_ble_eq_true rfl) rfl ⟨N1 + N2, 20, fun F n hF => ?_⟩
          simp [zg_0, zg_aload_n, zg_getfield, zg_goto, zg_iaload, zg_iconst, zg_ifCond, zg_if_icmp, zg_iload_n, zg_invokestatic, zg_invokevirtual, zg_ireturn, zg_ldc, zf_X6_isOf, zi_ld, zi_lda, zi_cmp, zi_retOk, zi_isI, zi_f3, zi_cr, zi_ci, zi_cn, zi_get, zi_set, zM_g, cM, zq_Mod_isWindow, zq_Mod_isIn, E1 F (by omega), E2 F (by omega), c2, zm_iald (k := 0) zM_A234 ik, ck, c3]
        · by_cases c4 : x = 2
          · obtain ⟨N3, E3⟩ := ze_MisFloating (μ := μ) (D + 1) hk
            subst c4
            by_cases c5 : μ 234 k = 1
            · rw [if_neg (fun z => z.elim c3 (fun z => z.elim c2 (fun z => z.2 c5)))]
              rw [if_neg (fun z => (zR_fl h hk c0).mp z c5)] at E3
              refine ze_in [(0, .ref 232), (1, .int (nI k)), (2, .int 2)] zq_Mod_isOf (Nat.le_of_ble_eq_true rfl) rfl ⟨N1 + N2 + N3, 26, fun F n hF => ?_⟩
              simp [zg_0, zg_aload_n, zg_getfield, zg_goto, zg_iaload, zg_iconst, zg_ifCond, zg_if_icmp, zg_iload_n, zg_invokestatic, zg_invokevirtual, zg_ireturn, zg_ldc, zf_X6_isOf, zi_ld, zi_lda, zi_cmp, zi_retOk, zi_isI, zi_f3, zi_cr, zi_ci, zi_cn, zi_get, zi_set, zM_g, cM, zq_Mod_isWindow, zq_Mod_isIn, zq_Mod_isFloating, E1 F (by omega), E2 F (by omega), E3 F (by omega), zm_iald (k := 0) zM_A234 ik, ck, c3]
            · rw [if_pos (Or.inr (Or.inr ⟨rfl, c5⟩))]
              rw [if_pos ((zR_fl h hk c0).mpr c5)] at E3
              refine ze_in [(0, .ref 232), (1, .int (nI k)), (2, .int 2)] zq_Mod_isOf (Nat.le_of_ble_eq_true rfl) rfl ⟨N1 + N2 + N3, 27, fun F n hF => ?_⟩
              simp [zg_0, zg_aload_n, zg_getfield, zg_goto, zg_iaload, zg_iconst, zg_ifCond, zg_if_icmp, zg_iload_n, zg_invokestatic, zg_invokevirtual, zg_ireturn, zg_ldc, zf_X6_isOf, zi_ld, zi_lda, zi_cmp, zi_retOk, zi_isI, zi_f3, zi_cr, zi_ci, zi_cn, zi_get, zi_set, zM_g, cM, zq_Mod_isWindow, zq_Mod_isIn, zq_Mod_isFloating, E1 F (by omega), E2 F (by omega), E3 F (by omega), zm_iald (k := 0) zM_A234 ik, ck, c3]
          · rw [if_neg (fun z => z.elim c3 (fun z => z.elim c2 (fun z => c4 z.1)))]
            refine ze_in [(0, .ref 232), (1, .int (nI k)), (2, .int x)] zq_Mod_isOf (Nat.le_of_ble_eq_true rfl) rfl ⟨N1 + N2, 22, fun F n hF => ?_⟩
            simp [zg_0, zg_aload_n, zg_getfield, zg_goto, zg_iaload, zg_iconst, zg_ifCond, zg_if_icmp, zg_iload_n, zg_invokestatic, zg_invokevirtual, zg_ireturn, zg_ldc, zf_X6_isOf, zi_ld, zi_lda, zi_cmp, zi_retOk, zi_isI, zi_f3, zi_cr, zi_ci, zi_cn, zi_get, zi_set, zM_g, cM, zq_Mod_isWindow, zq_Mod_isIn, E1 F (by omega), E2 F (by omega), c2, zm_iald (k := 0) zM_A234 ik, ck, c3, c4]
    · rw [if_neg c1] at E2
      rw [if_neg (fun z => c1 z.2)]
      refine ze_in [(0, .ref 232), (1, .int (nI k)), (2, .int x)] zq_Mod_isOf (Nat.le_of_ble_eq_true rfl) rfl ⟨N1 + N2, 11, fun F n hF => ?_⟩
      simp [zg_0, zg_aload_n, zg_getfield, zg_goto, zg_iaload, zg_iconst, zg_ifCond, zg_if_icmp, zg_iload_n, zg_invokestatic, zg_invokevirtual, zg_ireturn, zg_ldc, zf_X6_isOf, zi_ld, zi_lda, zi_cmp, zi_retOk, zi_isI, zi_f3, zi_cr, zi_ci, zi_cn, zi_get, zi_set, cM, zq_Mod_isWindow, zq_Mod_isIn, E1 F (by omega), E2 F (by omega), n4]
  · rw [if_neg (fun z => z.1 (c0 k hk rfl))]
    refine ze_in [(0, .ref 232), (1, .int (nI k)), (2, .int x)] zq_Mod_isOf (Nat.le_of_ble_eq_true rfl) rfl ⟨N1, 6, fun F n hF => ?_⟩
    simp [zg_0, zg_aload_n, zg_getfield, zg_goto, zg_iaload, zg_iconst, zg_ifCond, zg_if_icmp, zg_iload_n, zg_invokestatic, zg_invokevirtual, zg_ireturn, zg_ldc, zf_X6_isOf, zi_ld, zi_lda, zi_cmp, zi_retOk, zi_isI, zi_f3, zi_cr, zi_ci, zi_cn, zi_get, zi_set, cM, zq_Mod_isWindow, E1 F (by omega), n4]
set_option maxRecDepth 100000 in
theorem ze_MisOf_out (D : Nat) {w : Int32} (hw : w < 0 ∨ (10 : Int32) ≤ w) (x : Int32) : ze_E (D + 3) A_Mod_isOf [.ref 232, .int w, .int x] (zm_mk μ) (some (.int (-1000000001))) (zm_mk μ) := by
  have n4 : Int32.ofInt (-1000000001) = -1000000001 := by decide
  obtain ⟨lc, cM⟩ := zM_c (μ := μ)
  obtain ⟨N1, E1⟩ := ze_MisWindow_out (μ := μ) D hw
  refine ze_in [(0, .ref 232), (1, .int w), (2, .int x)] zq_Mod_isOf (Nat.le_of_ble_eq_true rfl) rfl ⟨N1, 6, fun F n hF => ?_⟩
  simp [zg_0, zg_aload_n, zg_getfield, zg_goto, zg_iaload, zg_iconst, zg_ifCond, zg_if_icmp, zg_iload_n, zg_invokestatic, zg_invokevirtual, zg_ireturn, zg_ldc, zf_X6_isOf, zi_ld, zi_lda, zi_cmp, zi_retOk, zi_isI, zi_f3, zi_cr, zi_ci, zi_cn, zi_get, zi_set, cM, zq_Mod_isWindow, E1 F (by omega), n4]
/-- what focused(k) changes -/
noncomputable def zv_foc (μ ν : zm_M) (row stk : List Nat) (us : Nat → zy_F) (k : Nat) : Prop :=
  (∃ stk', zv_L ν 241 10 stk' ∧ stk'.Nodup ∧ ∀ x, x ∈ stk' ↔ x ∈ stk ∨ (x = k ∧ 2 ≤ μ 234 k)) ∧ zv_L ν 242 12 (k :: row.erase k) ∧ (μ 234 k = 1 → ∀ q m, q < 3 → μ 238 k = nI q → zu_at μ q (us q) k m → ν 250 (24 * q + m) = nI k) ∧
  ∀ c d, c ≠ 241 → c ≠ 242 → ¬ (c = 231 ∧ (d = 10 ∨ d = 12)) → ¬ (μ 234 k = 1 ∧ ∃ q m, q < 3 ∧ μ 238 k = nI q ∧ zu_at μ q (us q) k m ∧ c = 250 ∧ d = 24 * q + m) → ν c d = μ c d
theorem zv_focused (D : Nat) {rk : Nat → Nat} (hr : zv_rk μ rk) {k : Nat} (hk : k < 10) (ht : μ 234 k = 1 → ∃ q m ab, q < 3 ∧ μ 238 k = nI q ∧ zu_I μ q (us q) ab ∧ zu_at μ q (us q) k m) (hL : zv_L μ 241 10 stk) (hd : stk.Nodup) (hb : ∀ x ∈ stk, x < 10) (hR : zv_L μ 242 12 row) (rd : row.Nodup) (rb : ∀ x ∈ row, x < 10) :
    ∃ ν, ze_E (D + 12) A_Mod_focused [.ref 232, .int (nI k)] (zm_mk μ) none (zm_mk ν) ∧ zv_foc μ ν row stk us k := by
  by_cases c : μ 234 k = 1
  · obtain ⟨q, m, ab, hq, hh, hI, hat⟩ := ht c
    obtain ⟨ν, l', E, a1, a2, a3, a4, a5, a6⟩ := ze_Mfocused_t (μ := μ) D hr hk c hq hh hI hat hL hd hb hR rd rb
    have uq : ∀ q' m', q' < 3 → μ 238 k = nI q' → zu_at μ q' (us q') k m' → q' = q ∧ m' = m := fun q' m' h1 h2 h3 => by
      have e := (nI_eq (by omega) (by omega)).mp (h2.symm.trans hh)
      subst e
      exact ⟨rfl, hat.2.2 m' h3.1 h3.2.1⟩
    refine ⟨ν, E, ⟨l', a1, a2, fun x => ?_⟩, a4, fun _ q' m' h1 h2 h3 => ?_, fun c' d h1 h2 h3 h4 => a6 c' d h1 h2 h3 (fun z => h4 ⟨c, q, m, hq, hh, hat, z.1, z.2⟩)⟩
    · rw [a3, c]
      exact ⟨Or.inl, fun z => z.elim id (fun z => absurd z.2 (by decide))⟩
    · obtain ⟨rfl, rfl⟩ := uq q' m' h1 h2 h3
      exact a5
  · obtain ⟨ν, l', E, a1, a2, a3, a4, a5⟩ := ze_Mfocused_f (μ := μ) D hr hk c hL hd hb hR rd rb
    exact ⟨ν, E, ⟨l', a1, a2, a3⟩, a4, fun z => absurd z c, fun c' d h1 h2 h3 _ => a5 c' d h1 h2 h3⟩
theorem zR_focused (D : Nat) (h : zR μ row stk us) {k : Nat} (hk : k < 10) (ht : ¬ μ 234 k = 0) : ∃ ν, ze_E (D + 12) A_Mod_focused [.ref 232, .int (nI k)] (zm_mk μ) none (zm_mk ν) ∧ zv_foc μ ν row stk us k := by
  obtain ⟨h1, h2, h3, ⟨rk, h4⟩, h5, h6, h7⟩ := h
  refine zv_focused D h4 hk (fun c => ?_) h3.1 h3.2.1 (fun x hx => ((h3.2.2 x).mp hx).1) h2.1 h2.2.1 (fun x hx => ((h2.2.2 x).mp hx).1)
  obtain ⟨q, b1, b2, b3, b4⟩ := h6 k hk ht (by rw [c]; decide)
  obtain ⟨m, b5⟩ := b4 c
  obtain ⟨⟨ab, a1⟩, -⟩ := h5 q b1
  exact ⟨q, m, ab, b1, b2, a1, b5⟩
set_option maxRecDepth 100000 in
theorem ze_Mfocus (D : Nat) (h : zR μ row stk us) (w : Int32) : ∃ ν v, ze_E (D + 13) A_Mod_focus [.ref 232, .int w] (zm_mk μ) (some (.int v)) (zm_mk ν) ∧ (((∀ k, k < 10 → w = nI k → μ 234 k = 0) ∧ ν = μ) ∨ ∃ k, k < 10 ∧ w = nI k ∧ ¬ μ 234 k = 0 ∧ zv_foc μ ν row stk us k) := by
  have n4 : Int32.ofInt (-1000000001) = -1000000001 := by decide
  obtain ⟨lc, cM⟩ := zM_c (μ := μ)
  rcases zR_win (D + 10) h w with ⟨k, hk, rfl, c0, N1, E1⟩ | ⟨⟨N1, E1⟩, c0⟩
  · obtain ⟨ν, ⟨N2, E2⟩, f⟩ := zR_focused D h hk c0
    have i0 : zi_in (0 : Int32) 10 = true := by decide
    have z0 : (0 : Int32).toNatClampNeg = 0 := by decide
    refine ⟨ν, μ 242 0, ze_in [(0, .ref 232), (1, .int (nI k))] zq_Mod_focus (Nat.le_of_ble_eq_true rfl) rfl ⟨N1 + N2, 14, fun F n hF => ?_⟩, Or.inr ⟨k, hk, rfl, c0, f⟩⟩
    simp [zg_0, zg_aload_n, zg_getfield, zg_iaload, zg_iconst, zg_ifCond, zg_iload_n, zg_invokevirtual, zg_ireturn, zg_istore_n, zg_ldc, zf_X6_focus, zi_ld, zi_lda, zi_cmp, zi_retOk, zi_isI, zi_f3, zi_cr, zi_ci, zi_cn, zi_get, zi_set, zM_g, cM, zq_Mod_isWindow, zq_Mod_focused, E1 F (by omega), E2 F (by omega), zm_iald (k := 0) zM_A242 i0, z0]
  · refine ⟨μ, -1000000001, ze_in [(0, .ref 232), (1, .int w)] zq_Mod_focus (Nat.le_of_ble_eq_true rfl) rfl ⟨N1, 6, fun F n hF => ?_⟩, Or.inl ⟨c0, rfl⟩⟩
    simp [zg_0, zg_aload_n, zg_getfield, zg_iaload, zg_iconst, zg_ifCond, zg_iload_n, zg_invokevirtual, zg_ireturn, zg_istore_n, zg_ldc, zf_X6_focus, zi_ld, zi_lda, zi_cmp, zi_retOk, zi_isI, zi_f3, zi_cr, zi_ci, zi_cn, zi_get, zi_set, cM, zq_Mod_isWindow, E1 F (by omega), n4]
set_option maxRecDepth 100000 in
theorem ze_Mback (D : Nat) (h : zR μ row stk us) : ∃ ν v, ze_E (D + 13) A_Mod_back [.ref 232] (zm_mk μ) (some (.int v)) (zm_mk ν) ∧ ((row.length < 2 ∧ ν = μ) ∨ (¬ row.length < 2 ∧ zv_foc μ ν row stk us (row.getD 1 0))) := by
  have n4 : Int32.ofInt (-1000000002) = -1000000002 := by decide
  obtain ⟨lc, cM⟩ := zM_c (μ := μ)
  have hL := h.2.1.1
  have l10 := hL.1
  by_cases c : row.length < 2
  · have c1 : ¬ (2 : Int32) ≤ nI row.length := nI_ge (b := 2) c (by decide)
    refine ⟨μ, -1000000002, ze_in [(0, .ref 232)] zq_Mod_back (Nat.le_of_ble_eq_true rfl) rfl ⟨0, 6, fun F n hF => ?_⟩, Or.inl ⟨c, rfl⟩⟩
    simp [zg_0, zg_aload_n, zg_getfield, zg_iaload, zg_iconst, zg_if_icmp, zg_iload_n, zg_invokevirtual, zg_ireturn, zg_istore_n, zg_ldc, zf_X6_back, zi_ld, zi_lda, zi_cmp, zi_retOk, zi_isI, zi_f3, zi_cr, zi_ci, zi_cn, zi_get, zi_set, zM_g, hL.2.1, c1, n4]
  · have c1 : (2 : Int32) ≤ nI row.length := by
      have : ∀ n, n < 11 → ¬ n < 2 → (2 : Int32) ≤ nI n := by decide
      exact this _ (by omega) c
    have hm : row.getD 1 0 ∈ row := zl_mem (by omega)
    obtain ⟨hk, ht⟩ := (h.2.1.2.2 _).mp hm
    have e1 : μ 242 1 = nI (row.getD 1 0) := hL.2.2 1 (by omega)
    obtain ⟨ν, ⟨N2, E2⟩, f⟩ := zR_focused D h hk ht
    have i0 : zi_in (1 : Int32) 10 = true := by decide
    have z0 : (1 : Int32).toNatClampNeg = 1 := by decide
    generalize row.getD 1 0 = k at hm hk ht e1 E2 f ⊢
    refine ⟨ν, nI k, ze_in [(0, .ref 232)] zq_Mod_back (Nat.le_of_ble_eq_true rfl) rfl ⟨N2, 14, fun F n hF => ?_⟩, Or.inr ⟨c, f⟩⟩
    simp [zg_0, zg_aload_n, zg_getfield, zg_iaload, zg_iconst, zg_if_icmp, zg_iload_n, zg_invokevirtual, zg_ireturn, zg_istore_n, zg_ldc, zf_X6_back, zi_ld, zi_lda, zi_cmp, zi_retOk, zi_isI, zi_f3, zi_cr, zi_ci, zi_cn, zi_get, zi_set, zM_g, cM, hL.2.1, c1, zq_Mod_focused, E2 F (by omega), zm_iald (k := 0) zM_A242 i0, z0, e1]
end ZWA
end
section
/-! the reference: areaOf, area, neighbour, toward, move, close -/
section ZWB
variable {μ ν : zm_M} {row stk : List Nat} {us : Nat → zy_F}
theorem zR_til (h : zR μ row stk us) {k : Nat} (hk : k < 10) (c : μ 234 k = 1) : ∃ q m ab, q < 3 ∧ μ 238 k = nI q ∧ zu_I μ q (us q) ab ∧ zu_at μ q (us q) k m := by
  obtain ⟨q, b1, b2, b3, b4⟩ := h.2.2.2.2.2.1 k hk (by rw [c]; decide) (by rw [c]; decide)
  obtain ⟨m, b5⟩ := b4 c
  obtain ⟨⟨ab, a1⟩, -⟩ := h.2.2.2.2.1 q b1
  exact ⟨q, m, ab, b1, b2, a1, b5⟩
/-- what areaOf rests on -/
noncomputable def zv_arg (μ : zm_M) (us : Nat → zy_F) (k : Nat) : Prop := (2 ≤ μ 234 k ↔ ¬ μ 234 k = 1) ∧ (μ 234 k = 1 → ∃ q m ab, q < 3 ∧ μ 238 k = nI q ∧ zu_I μ q (us q) ab ∧ zu_at μ q (us q) k m)
theorem zv_arg.fr {k : Nat} (h : zv_arg μ us k) (f : zM_fr μ ν) : zv_arg ν us k := by
  have e4 : ν 234 k = μ 234 k := f _ _ (by omega) (by decide) (by decide) (by omega)
  have e8 : ν 238 k = μ 238 k := f _ _ (by omega) (by decide) (by decide) (by omega)
  refine ⟨by rw [e4]; exact h.1, fun c => ?_⟩
  rw [e4] at c
  obtain ⟨q, m, ab, h1, h2, h3, h4⟩ := h.2 c
  exact ⟨q, m, ab, h1, by rw [e8]; exact h2, f.eqT.I h3, zu_at_eqT h3 f.eqT h4⟩
set_option maxRecDepth 100000 in
theorem ze_MareaOfG (D : Nat) {k : Nat} (hk : k < 10) (h : zv_arg μ us k) {a : Nat} (ha : a < 5) : ∃ ν v, ze_E (D + 28) A_Mod_areaOf [.ref 232, .int (nI k), .int (nI a)] (zm_mk μ) (some (.int v)) (zm_mk ν) ∧ zM_fr μ ν := by
  have n5 : Int32.ofInt (-1000000005) = -1000000005 := by decide
  obtain ⟨lc, cM⟩ := zM_c (μ := μ)
  have ik : zi_in (nI k) 10 = true := zm_in hk (by decide)
  have ck : (nI k).toNatClampNeg = k := nI_clamp (by omega)
  have a0 : nI 0 = (0 : Int32) := by decide
  have a1 : nI 1 = (1 : Int32) := by decide
  have a2 : nI 2 = (2 : Int32) := by decide
  have a3 : nI 3 = (3 : Int32) := by decide
  have a4 : nI 4 = (4 : Int32) := by decide
  by_cases c : a = 0
  · subst c
    rw [a0]
    by_cases c1 : μ 234 k = 4
    · refine ⟨μ, -1000000005, ze_in [(0, .ref 232), (1, .int (nI k)), (2, .int 0)] zq_Mod_areaOf (Nat.le_of_ble_eq_true rfl) rfl ⟨0, 11, fun F n hF => ?_⟩, zM_fr.refl⟩
      simp [zg_0, zg_aload_n, zg_getfield, zg_goto, zg_iaload, zg_iconst, zg_ifCond, zg_if_icmp, zg_iload_n, zg_invokevirtual, zg_ireturn, zg_istore_n, zg_ldc_w, zf_X6_areaOf, zi_ld, zi_lda, zi_cmp, zi_retOk, zi_isI, zi_f3, zi_cr, zi_ci, zi_cn, zi_get, zi_set, zM_g, zm_iald (k := 0) zM_A234 ik, ck, c1, n5]
    · refine ⟨μ, μ 238 k, ze_in [(0, .ref 232), (1, .int (nI k)), (2, .int 0)] zq_Mod_areaOf (Nat.le_of_ble_eq_true rfl) rfl ⟨0, 13, fun F n hF => ?_⟩, zM_fr.refl⟩
      simp [zg_0, zg_aload_n, zg_getfield, zg_goto, zg_iaload, zg_iconst, zg_ifCond, zg_if_icmp, zg_iload_n, zg_invokevirtual, zg_ireturn, zg_istore_n, zg_ldc_w, zf_X6_areaOf, zi_ld, zi_lda, zi_cmp, zi_retOk, zi_isI, zi_f3, zi_cr, zi_ci, zi_cn, zi_get, zi_set, zM_g, zm_iald (k := 0) zM_A234 ik, zm_iald (k := 0) zM_A238 ik, ck, c1]
  · obtain ⟨N1, E1⟩ := ze_MisFloating (μ := μ) (D + 26) hk
    by_cases c1 : μ 234 k = 1
    · rw [if_neg (fun z => h.1.mp z c1)] at E1
      obtain ⟨q, m, ab, hq, hh, hI, hat⟩ := h.2 c1
      obtain ⟨ν, ⟨N2, E2⟩, -, -, f⟩ := ze_MlayAll (μ := μ) D hq hI
      obtain ⟨lc1, cM1⟩ := zM_c (μ := ν)
      have hT := zv_frY_eqT (τ := q) f
      obtain ⟨N3, E3⟩ := ze_MleafOf_at (μ := ν) (D + 24) (by omega) (hT.I hI) hk (zu_at_eqT hI hT hat)
      have e8 : ν 238 k = nI q := (f _ _ (by omega) (by omega)).trans hh
      have hm24 := zu_I_lt hI hat.1
      have im : zi_in (nI m) 24 = true := zm_in hm24 (by decide)
      have cm : (nI m).toNatClampNeg = m := nI_clamp (by omega)
      rcases (by omega : a = 1 ∨ a = 2 ∨ a = 3 ∨ a = 4) with rfl | rfl | rfl | rfl
      · rw [a1]
        refine ⟨ν, ν 255 m, ze_in [(0, .ref 232), (1, .int (nI k)), (2, .int 1)] zq_Mod_areaOf (Nat.le_of_ble_eq_true rfl) rfl ⟨N1 + N2 + N3, 29, fun F n hF => ?_⟩, f.fr⟩
        simp [zg_0, zg_aload_n, zg_getfield, zg_goto, zg_iaload, zg_iconst, zg_ifCond, zg_if_icmp, zg_iload_n, zg_invokevirtual, zg_ireturn, zg_istore_n, zg_ldc_w, zf_X6_areaOf, zi_ld, zi_lda, zi_cmp, zi_retOk, zi_isI, zi_f3, zi_cr, zi_ci, zi_cn, zi_get, zi_set, zM_g, cM, cM1, zq_Mod_isFloating, zq_Mod_layAll, zq_Mod_leafOf, E1 F (by omega), E2 F (by omega), E3 F (by omega), zm_iald (k := 0) zM_A238 ik, ck, hh, e8, zm_iald (k := 0) zM_A255 im, cm]
      · rw [a2]
        refine ⟨ν, ν 256 m, ze_in [(0, .ref 232), (1, .int (nI k)), (2, .int 2)] zq_Mod_areaOf (Nat.le_of_ble_eq_true rfl) rfl ⟨N1 + N2 + N3, 32, fun F n hF => ?_⟩, f.fr⟩
        simp [zg_0, zg_aload_n, zg_getfield, zg_goto, zg_iaload, zg_iconst, zg_ifCond, zg_if_icmp, zg_iload_n, zg_invokevirtual, zg_ireturn, zg_istore_n, zg_ldc_w, zf_X6_areaOf, zi_ld, zi_lda, zi_cmp, zi_retOk, zi_isI, zi_f3, zi_cr, zi_ci, zi_cn, zi_get, zi_set, zM_g, cM, cM1, zq_Mod_isFloating, zq_Mod_layAll, zq_Mod_leafOf, E1 F (by omega), E2 F (by omega), E3 F (by omega), zm_iald (k := 0) zM_A238 ik, ck, hh, e8, zm_iald (k := 0) zM_A256 im, cm]
      · rw [a3]
        refine ⟨ν, ν 257 m, ze_in [(0, .ref 232), (1, .int (nI k)), (2, .int 3)] zq_Mod_areaOf (Nat.le_of_ble_eq_true rfl) rfl ⟨N1 + N2 + N3, 35, fun F n hF => ?_⟩, f.fr⟩
        simp [zg_0, zg_aload_n, zg_getfield, zg_goto, zg_iaload, zg_iconst, zg_ifCond, zg_if_icmp, zg_iload_n, zg_invokevirtual, zg_ireturn, zg_istore_n, zg_ldc_w, zf_X6_areaOf, zi_ld, zi_lda, zi_cmp, zi_retOk, zi_isI, zi_f3, zi_cr, zi_ci, zi_cn, zi_get, zi_set, zM_g, cM, cM1, zq_Mod_isFloating, zq_Mod_layAll, zq_Mod_leafOf, E1 F (by omega), E2 F (by omega), E3 F (by omega), zm_iald (k := 0) zM_A238 ik, ck, hh, e8, zm_iald (k := 0) zM_A257 im, cm]
      · rw [a4]
        refine ⟨ν, ν 258 m, ze_in [(0, .ref 232), (1, .int (nI k)), (2, .int 4)] zq_Mod_areaOf (Nat.le_of_ble_eq_true rfl) rfl ⟨N1 + N2 + N3, 34, fun F n hF => ?_⟩, f.fr⟩
        simp [zg_0, zg_aload_n, zg_getfield, zg_goto, zg_iaload, zg_iconst, zg_ifCond, zg_if_icmp, zg_iload_n, zg_invokevirtual, zg_ireturn, zg_istore_n, zg_ldc_w, zf_X6_areaOf, zi_ld, zi_lda, zi_cmp, zi_retOk, zi_isI, zi_f3, zi_cr, zi_ci, zi_cn, zi_get, zi_set, zM_g, cM, cM1, zq_Mod_isFloating, zq_Mod_layAll, zq_Mod_leafOf, E1 F (by omega), E2 F (by omega), E3 F (by omega), zm_iald (k := 0) zM_A238 ik, ck, hh, e8, zm_iald (k := 0) zM_A258 im, cm]
    · rw [if_pos (h.1.mpr c1)] at E1
      rcases (by omega : a = 1 ∨ a = 2 ∨ a = 3 ∨ a = 4) with rfl | rfl | rfl | rfl
      · rw [a1]
        refine ⟨μ, μ 239 k, ze_in [(0, .ref 232), (1, .int (nI k)), (2, .int 1)] zq_Mod_areaOf (Nat.le_of_ble_eq_true rfl) rfl ⟨N1, 15, fun F n hF => ?_⟩, zM_fr.refl⟩
        simp [zg_0, zg_aload_n, zg_getfield, zg_goto, zg_iaload, zg_iconst, zg_ifCond, zg_if_icmp, zg_iload_n, zg_invokevirtual, zg_ireturn, zg_istore_n, zg_ldc_w, zf_X6_areaOf, zi_ld, zi_lda, zi_cmp, zi_retOk, zi_isI, zi_f3, zi_cr, zi_ci, zi_cn, zi_get, zi_set, zM_g, cM, zq_Mod_isFloating, E1 F (by omega), zm_iald (k := 0) zM_A239 ik, ck]
      · rw [a2]
        refine ⟨μ, μ 240 k, ze_in [(0, .ref 232), (1, .int (nI k)), (2, .int 2)] zq_Mod_areaOf (Nat.le_of_ble_eq_true rfl) rfl ⟨N1, 18, fun F n hF => ?_⟩, zM_fr.refl⟩
        simp [zg_0, zg_aload_n, zg_getfield, zg_goto, zg_iaload, zg_iconst, zg_ifCond, zg_if_icmp, zg_iload_n, zg_invokevirtual, zg_ireturn, zg_istore_n, zg_ldc_w, zf_X6_areaOf, zi_ld, zi_lda, zi_cmp, zi_retOk, zi_isI, zi_f3, zi_cr, zi_ci, zi_cn, zi_get, zi_set, zM_g, cM, zq_Mod_isFloating, E1 F (by omega), zm_iald (k := 0) zM_A240 ik, ck]
      · rw [a3]
        refine ⟨μ, μ 235 k, ze_in [(0, .ref 232), (1, .int (nI k)), (2, .int 3)] zq_Mod_areaOf (Nat.le_of_ble_eq_true rfl) rfl ⟨N1, 21, fun F n hF => ?_⟩, zM_fr.refl⟩
        simp [zg_0, zg_aload_n, zg_getfield, zg_goto, zg_iaload, zg_iconst, zg_ifCond, zg_if_icmp, zg_iload_n, zg_invokevirtual, zg_ireturn, zg_istore_n, zg_ldc_w, zf_X6_areaOf, zi_ld, zi_lda, zi_cmp, zi_retOk, zi_isI, zi_f3, zi_cr, zi_ci, zi_cn, zi_get, zi_set, zM_g, cM, zq_Mod_isFloating, E1 F (by omega), zm_iald (k := 0) zM_A235 ik, ck]
      · rw [a4]
        refine ⟨μ, μ 236 k, ze_in [(0, .ref 232), (1, .int (nI k)), (2, .int 4)] zq_Mod_areaOf (Nat.le_of_ble_eq_true rfl) rfl ⟨N1, 20, fun F n hF => ?_⟩, zM_fr.refl⟩
        simp [zg_0, zg_aload_n, zg_getfield, zg_goto, zg_iaload, zg_iconst, zg_ifCond, zg_if_icmp, zg_iload_n, zg_invokevirtual, zg_ireturn, zg_istore_n, zg_ldc_w, zf_X6_areaOf, zi_ld, zi_lda, zi_cmp, zi_retOk, zi_isI, zi_f3, zi_cr, zi_ci, zi_cn, zi_get, zi_set, zM_g, cM, zq_Mod_isFloating, E1 F (by omega), zm_iald (k := 0) zM_A236 ik, ck]
theorem ze_MareaOf (D : Nat) (h : zR μ row stk us) {k : Nat} (hk : k < 10) (ht : ¬ μ 234 k = 0) {a : Nat} (ha : a < 5) : ∃ ν v, ze_E (D + 28) A_Mod_areaOf [.ref 232, .int (nI k), .int (nI a)] (zm_mk μ) (some (.int v)) (zm_mk ν) ∧ zM_fr μ ν :=
  ze_MareaOfG D hk ⟨zR_fl h hk ht, fun c => zR_til h hk c⟩ ha
theorem zM_isIn {hp : zi_Hp} (D : Nat) (x : Int32) {n : Nat} {b : Int32} (hn : n < 1000) (e : nI n = b) : (∃ k, k < n + 1 ∧ x = nI k ∧ ze_E (D + 1) A_Mod_isIn [.int x, .int 0, .int b] hp (some (.int 1)) hp) ∨ (ze_E (D + 1) A_Mod_isIn [.int x, .int 0, .int b] hp (some (.int 0)) hp ∧ ∀ k, k < n + 1 → x ≠ nI k) := by
  subst e
  have E := ze_isIn (h := hp) D x 0 (nI n)
  have n0 : (0 : Int32) = nI 0 := by decide
  rcases zd_rng x (n + 1) (by omega) with ⟨k, hk, rfl⟩ | hout
  · rw [if_pos ⟨Int32.not_lt.mp (nI_pos (by omega)), (by
      have := nI_ge (a := k) (b := n + 1) hk (by omega)
      by_cases c : k = n
      · rw [c]; exact Int32.le_refl _
      · have : ¬ nI n ≤ nI k := nI_ge (by omega) (by omega)
        exact Int32.le_of_lt (Int32.not_le.mp this))⟩] at E
    exact Or.inl ⟨k, hk, rfl, E⟩
  · have hno : ∀ k, k < n + 1 → x ≠ nI k := fun k hk e => by
      rw [e] at hout
      rcases hout with c | c
      · exact nI_pos (by omega) c
      · exact nI_ge hk (by omega) c
    have : ¬ (0 ≤ x ∧ x ≤ nI n) := fun z => by
      rcases hout with c | c
      · exact Int32.not_le.mpr c z.1
      · exact nI_ge (a := n) (b := n + 1) (by omega) (by omega) (Int32.le_trans c z.2)
    rw [if_neg this] at E
    exact Or.inr ⟨E, hno⟩
set_option maxRecDepth 100000 in
theorem ze_Marea (D : Nat) (h : zR μ row stk us) (w x : Int32) : ∃ ν v, ze_E (D + 29) A_Mod_area [.ref 232, .int w, .int x] (zm_mk μ) (some (.int v)) (zm_mk ν) ∧ zM_fr μ ν := by
  have n4 : Int32.ofInt (-1000000001) = -1000000001 := by decide
  obtain ⟨lc, cM⟩ := zM_c (μ := μ)
  rcases zR_win (D + 26) h w with ⟨k, hk, rfl, c0, N1, E1⟩ | ⟨⟨N1, E1⟩, c0⟩
  · rcases zM_isIn (hp := zm_mk μ) (D + 27) x (n := 4) (b := 4) (by decide) (by decide) with ⟨a, ha, rfl, N2, E2⟩ | ⟨⟨N2, E2⟩, -⟩
    · obtain ⟨ν, v, ⟨N3, E3⟩, f⟩ := ze_MareaOf D h hk c0 ha
      refine ⟨ν, v, ze_in [(0, .ref 232), (1, .int (nI k)), (2, .int (nI a))] zq_Mod_area (Nat.le_of_ble_eq_true rfl) rfl ⟨N1 + N2 + N3, 15, fun F n hF => ?_⟩, f⟩
      simp [zg_0, zg_aload_n, zg_goto, zg_iconst, zg_ifCond, zg_iload_n, zg_invokestatic, zg_invokevirtual, zg_ireturn, zg_ldc, zf_X6_area, zi_ld, zi_lda, zi_cmp, zi_retOk, zi_isI, zi_f3, zi_cr, zi_ci, zi_cn, zi_get, zi_set, cM, zq_Mod_isWindow, zq_Mod_isIn, zq_Mod_areaOf, E1 F (by omega), E2 F (by omega), E3 F (by omega)]
    · refine ⟨μ, -1000000001, ze_in [(0, .ref 232), (1, .int (nI k)), (2, .int x)] zq_Mod_area (Nat.le_of_ble_eq_true rfl) rfl ⟨N1 + N2, 11, fun F n hF => ?_⟩, zM_fr.refl⟩
      simp [zg_0, zg_aload_n, zg_goto, zg_iconst, zg_ifCond, zg_iload_n, zg_invokestatic, zg_invokevirtual, zg_ireturn, zg_ldc, zf_X6_area, zi_ld, zi_lda, zi_cmp, zi_retOk, zi_isI, zi_f3, zi_cr, zi_ci, zi_cn, zi_get, zi_set, cM, zq_Mod_isWindow, zq_Mod_isIn, E1 F (by omega), E2 F (by omega), n4]
  · refine ⟨μ, -1000000001, ze_in [(0, .ref 232), (1, .int w), (2, .int x)] zq_Mod_area (Nat.le_of_ble_eq_true rfl) rfl ⟨N1, 6, fun F n hF => ?_⟩, zM_fr.refl⟩
    simp [zg_0, zg_aload_n, zg_goto, zg_iconst, zg_ifCond, zg_iload_n, zg_invokestatic, zg_invokevirtual, zg_ireturn, zg_ldc, zf_X6_area, zi_ld, zi_lda, zi_cmp, zi_retOk, zi_isI, zi_f3, zi_cr, zi_ci, zi_cn, zi_get, zi_set, cM, zq_Mod_isWindow, E1 F (by omega), n4]
/-- isShown, as it comes out -/
theorem zR_shown (D : Nat) (h : zR μ row stk us) {k : Nat} (hk : k < 10) : (ze_E (D + 4) A_Mod_isShown [.ref 232, .int (nI k)] (zm_mk μ) (some (.int 1)) (zm_mk μ) ∧ μ 234 k = 1 ∧ ∃ q m, q < 3 ∧ μ 238 k = nI q ∧ zu_at μ q (us q) k m ∧ μ 250 (24 * q + m) = nI k) ∨ (ze_E (D + 4) A_Mod_isShown [.ref 232, .int (nI k)] (zm_mk μ) (some (.int 0)) (zm_mk μ) ∧ ¬ (μ 234 k = 1 ∧ ∃ q m, q < 3 ∧ μ 238 k = nI q ∧ zu_at μ q (us q) k m ∧ μ 250 (24 * q + m) = nI k)) := by
  by_cases c : μ 234 k = 1
  · obtain ⟨q, m, ab, hq, hh, hI, hat⟩ := zR_til h hk c
    have E := ze_MisShown (μ := μ) D hk c hq hh hI hat
    by_cases c2 : μ 250 (24 * q + m) = nI k
    · rw [if_pos c2] at E
      exact Or.inl ⟨E, c, q, m, hq, hh, hat, c2⟩
    · rw [if_neg c2] at E
      refine Or.inr ⟨E, fun ⟨_, q', m', a1, a2, a3, a4⟩ => c2 ?_⟩
      have e := (nI_eq (by omega) (by omega)).mp (a2.symm.trans hh)
      subst e
      rw [← hat.2.2 m' a3.1 a3.2.1]
      exact a4
  · exact Or.inr ⟨ze_MisShown_no (μ := μ) D hk c, fun z => c z.1⟩
/-- in which leaf a tiled window is -/
theorem zR_lo (h : zR μ row stk us) : ∃ lo : Nat → Nat, ∀ s j, s < 3 → j < 10 → μ 234 j = 1 → μ 238 j = nI s → zu_at μ s (us s) j (lo j) := by
  have : ∀ j, ∃ m, ∀ s, s < 3 → j < 10 → μ 234 j = 1 → μ 238 j = nI s → zu_at μ s (us s) j m := fun j => by
    by_cases c : j < 10 ∧ μ 234 j = 1
    · obtain ⟨q, m, ab, hq, hh, hI, hat⟩ := zR_til h c.1 c.2
      refine ⟨m, fun s hs _ _ e => ?_⟩
      have e := (nI_eq (by omega) (by omega)).mp (e.symm.trans hh)
      subst e
      exact hat
    · exact ⟨0, fun s hs a b _ => absurd ⟨a, b⟩ c⟩
  exact ⟨fun j => Classical.choose (this j), fun s j hs a b c => Classical.choose_spec (this j) s hs a b c⟩
theorem zl_nb_or' (f : Nat → Int32) (b : Int32) : zl_nb f (List.range 10) b 0 = b ∨ ∃ i, i < 10 ∧ zl_nb f (List.range 10) b 0 = nI i ∧ 0 < f i := by
  rcases zl_nb_or f (List.range 10) b 0 with e | ⟨i, h1, h2, h3⟩
  · exact Or.inl e
  · exact Or.inr ⟨i, List.mem_range.mp h1, h2, h3⟩
end ZWB
end
