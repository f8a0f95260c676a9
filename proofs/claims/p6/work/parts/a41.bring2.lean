/-! the reference: bring, all that comes -/
section ZVZ
variable {μ : zm_M} {g : Nat → Bool} {s : Nat}
set_option maxRecDepth 100000 in
theorem zv_brF (D : Nat) (hs : s < 3) {k : Nat} (hk : k < 10) {z : Int32} (L0 : zi_Lc) (nl0 : zi_nl L0 = true) (a0 : zi_get L0 0 = some (.ref 232)) (a1 : zi_get L0 1 = some (.int (nI s))) (a2 : zi_get L0 2 = some (.int z)) (a3 : zi_get L0 3 = some (.int (nI k))) (a4 : zi_get L0 4 = some (.int (nI 0))) :
    ∃ L' h', ze_S D 7 (some .int) zc_X6_bring 206 L0 [] (zm_mk μ) 257 L' [] h' ∧ (zi_nl L' = true ∧ zi_get L' 0 = some (.ref 232) ∧ zi_get L' 1 = some (.int (nI s)) ∧ zi_get L' 2 = some (.int z) ∧ zi_get L' 3 = some (.int (nI k)) ∧ ∃ ν, zm_mk ν = h' ∧ (∀ d, d < 3 → ν 251 d = if d ≠ s ∧ ¬ μ 251 d = 0 ∧ ¬ μ 252 (10 * d + k) = 0 then 0 else μ 251 d) ∧ ∀ c d, c ≠ 251 → ν c d = μ c d) := by
  have h10 : (Int8.ofInt 10).toInt32 = (10 : Int32) := by decide
  refine ze_loopS (Q := fun i L hp => i ≤ 3 ∧ zi_nl L = true ∧ zi_get L 0 = some (.ref 232) ∧ zi_get L 1 = some (.int (nI s)) ∧ zi_get L 2 = some (.int z) ∧ zi_get L 3 = some (.int (nI k)) ∧ zi_get L 4 = some (.int (nI i)) ∧ ∃ ξ : zm_M, zm_mk ξ = hp ∧ (∀ d, d < i → ξ 251 d = if d ≠ s ∧ ¬ μ 251 d = 0 ∧ ¬ μ 252 (10 * d + k) = 0 then 0 else μ 251 d) ∧ (∀ d, i ≤ d → ξ 251 d = μ 251 d) ∧ (∀ c d, c ≠ 251 → ξ c d = μ c d) ∧ (True)) (R := fun L' h' => zi_nl L' = true ∧ zi_get L' 0 = some (.ref 232) ∧ zi_get L' 1 = some (.int (nI s)) ∧ zi_get L' 2 = some (.int z) ∧ zi_get L' 3 = some (.int (nI k)) ∧ ∃ ν, zm_mk ν = h' ∧ (∀ d, d < 3 → ν 251 d = if d ≠ s ∧ ¬ μ 251 d = 0 ∧ ¬ μ 252 (10 * d + k) = 0 then 0 else μ 251 d) ∧ ∀ c d, c ≠ 251 → ν c d = μ c d) 3 ?_ ?_ 3 0 _ _ (by omega) ⟨by omega, nl0, a0, a1, a2, a3, a4, μ, rfl, (fun d hd => absurd hd (by omega)), (fun _ _ => rfl), (fun _ _ _ => rfl), trivial⟩
  · rintro i L _ hi ⟨-, nl, g0, g1, g2, g3, g4, ξ, rfl, f1, f2, f3, hq⟩
    have c1 : ¬ (3 : Int32) ≤ nI i := nI_ge (b := 3) hi (by decide)
    have ik : zi_in (nI i) 3 = true := zm_in hi (by decide)
    have ck : (nI i).toNatClampNeg = i := nI_clamp (by omega)
    have mk : (10 : Int32) * nI i = nI (10 * i) := nI_mul10 (by omega)
    have ij : zi_in (nI (10 * i + k)) 30 = true := zm_in (by omega) (by decide)
    have cj : (nI (10 * i + k)).toNatClampNeg = 10 * i + k := nI_clamp (by omega)
    have e2 : ξ 252 (10 * i + k) = μ 252 (10 * i + k) := f3 _ _ (by decide)
    have e1 : ξ 251 i = μ 251 i := f2 i (Nat.le_refl _)
    have nx : ∀ ν : zm_M, (∀ d, d ≠ i → ν 251 d = ξ 251 d) → (ν 251 i = if i ≠ s ∧ ¬ μ 251 i = 0 ∧ ¬ μ 252 (10 * i + k) = 0 then 0 else μ 251 i) → ∀ d, d < i + 1 → ν 251 d = if d ≠ s ∧ ¬ μ 251 d = 0 ∧ ¬ μ 252 (10 * d + k) = 0 then 0 else μ 251 d := fun ν p q d hd => by
      by_cases e : d = i
      · rw [e]; exact q
      · rw [p d e]; exact f1 d (by omega)
    by_cases c2 : i = s
    · have c2' : nI i = nI s := by rw [c2]
      subst c2
      refine ⟨zi_set L 4 (.int (nI (i + 1))), zm_mk ξ, ⟨0, 8, fun F m hF => ?_⟩, by omega, ?_, ?_, ?_, ?_, ?_, zi_get_set_eq, ξ, rfl, (nx ξ (fun _ _ => rfl) (by rw [if_neg (fun z => z.1 rfl)]; exact e1)), (fun d hd => f2 d (by omega)), f3, trivial⟩
      · simp (maxDischargeDepth := 9) [zg_0, zg_aload_n, zg_baload, zg_bastore, zg_bipush, zg_getfield, zg_goto, zg_iadd, zg_iaload, zg_iastore, zg_iconst, zg_ifCond, zg_if_icmp, zg_iinc, zg_iload, zg_iload_n, zg_imul, zg_invokestatic, zg_invokevirtual, zg_ireturn, zg_istore, zg_istore_n, zf_X6_bring, zi_ld, zi_lda, zi_cmp, zi_retOk, zi_isI, zi_f3, zi_cr, zi_ci, zi_cn, zi_get_ne, zi_nl_i, zi_nl_r, zi_get_set_eq, nl, g0, g1, g2, g3, g4, c1, nI_1]
      · simp (maxDischargeDepth := 9) [zi_get_ne, zi_nl_i, zi_nl_r, zi_get_set_eq, nl]
      · simp (maxDischargeDepth := 9) [zi_get_ne, zi_nl_i, zi_nl_r, zi_get_set_eq, nl, g0]
      · simp (maxDischargeDepth := 9) [zi_get_ne, zi_nl_i, zi_nl_r, zi_get_set_eq, nl, g1]
      · simp (maxDischargeDepth := 9) [zi_get_ne, zi_nl_i, zi_nl_r, zi_get_set_eq, nl, g2]
      · simp (maxDischargeDepth := 9) [zi_get_ne, zi_nl_i, zi_nl_r, zi_get_set_eq, nl, g3]
    · have c2' : ¬ nI i = nI s := fun e => c2 ((nI_eq (by omega) (by omega)).mp e)
      by_cases c3 : μ 251 i = 0
      · refine ⟨zi_set L 4 (.int (nI (i + 1))), zm_mk ξ, ⟨0, 13, fun F m hF => ?_⟩, by omega, ?_, ?_, ?_, ?_, ?_, zi_get_set_eq, ξ, rfl, (nx ξ (fun _ _ => rfl) (by rw [if_neg (fun z => z.2.1 c3)]; exact e1)), (fun d hd => f2 d (by omega)), f3, trivial⟩
        · simp (maxDischargeDepth := 9) [zg_0, zg_aload_n, zg_baload, zg_bastore, zg_bipush, zg_getfield, zg_goto, zg_iadd, zg_iaload, zg_iastore, zg_iconst, zg_ifCond, zg_if_icmp, zg_iinc, zg_iload, zg_iload_n, zg_imul, zg_invokestatic, zg_invokevirtual, zg_ireturn, zg_istore, zg_istore_n, zf_X6_bring, zi_ld, zi_lda, zi_cmp, zi_retOk, zi_isI, zi_f3, zi_cr, zi_ci, zi_cn, zi_get_ne, zi_nl_i, zi_nl_r, zi_get_set_eq, nl, g0, g1, g2, g3, g4, c1, c2', zM_g, zm_bald zM_A251 ik, ck, e1, c3, nI_1]
        · simp (maxDischargeDepth := 9) [zi_get_ne, zi_nl_i, zi_nl_r, zi_get_set_eq, nl]
        · simp (maxDischargeDepth := 9) [zi_get_ne, zi_nl_i, zi_nl_r, zi_get_set_eq, nl, g0]
        · simp (maxDischargeDepth := 9) [zi_get_ne, zi_nl_i, zi_nl_r, zi_get_set_eq, nl, g1]
        · simp (maxDischargeDepth := 9) [zi_get_ne, zi_nl_i, zi_nl_r, zi_get_set_eq, nl, g2]
        · simp (maxDischargeDepth := 9) [zi_get_ne, zi_nl_i, zi_nl_r, zi_get_set_eq, nl, g3]
      · by_cases c4 : μ 252 (10 * i + k) = 0
        · refine ⟨zi_set L 4 (.int (nI (i + 1))), zm_mk ξ, ⟨0, 22, fun F m hF => ?_⟩, by omega, ?_, ?_, ?_, ?_, ?_, zi_get_set_eq, ξ, rfl, (nx ξ (fun _ _ => rfl) (by rw [if_neg (fun z => z.2.2 c4)]; exact e1)), (fun d hd => f2 d (by omega)), f3, trivial⟩
          · simp (maxDischargeDepth := 9) [zg_0, zg_aload_n, zg_baload, zg_bastore, zg_bipush, zg_getfield, zg_goto, zg_iadd, zg_iaload, zg_iastore, zg_iconst, zg_ifCond, zg_if_icmp, zg_iinc, zg_iload, zg_iload_n, zg_imul, zg_invokestatic, zg_invokevirtual, zg_ireturn, zg_istore, zg_istore_n, zf_X6_bring, zi_ld, zi_lda, zi_cmp, zi_retOk, zi_isI, zi_f3, zi_cr, zi_ci, zi_cn, zi_get_ne, zi_nl_i, zi_nl_r, zi_get_set_eq, nl, g0, g1, g2, g3, g4, h10, c1, c2', zM_g, zm_bald zM_A251 ik, ck, e1, c3, mk, nI_add, zm_bald zM_A252 ij, cj, e2, c4, nI_1]
          · simp (maxDischargeDepth := 9) [zi_get_ne, zi_nl_i, zi_nl_r, zi_get_set_eq, nl]
          · simp (maxDischargeDepth := 9) [zi_get_ne, zi_nl_i, zi_nl_r, zi_get_set_eq, nl, g0]
          · simp (maxDischargeDepth := 9) [zi_get_ne, zi_nl_i, zi_nl_r, zi_get_set_eq, nl, g1]
          · simp (maxDischargeDepth := 9) [zi_get_ne, zi_nl_i, zi_nl_r, zi_get_set_eq, nl, g2]
          · simp (maxDischargeDepth := 9) [zi_get_ne, zi_nl_i, zi_nl_r, zi_get_set_eq, nl, g3]
        · have f1' := nx (zm_up ξ 251 i 0) (fun d hd => zm_up_ne (by omega)) (by rw [zm_up_eq, if_pos ⟨c2, c3, c4⟩])
          have f2' : ∀ d, i + 1 ≤ d → zm_up ξ 251 i 0 251 d = μ 251 d := fun d hd => (zm_up_ne (by omega)).trans (f2 d (by omega))
          have f3' : ∀ c d, c ≠ 251 → zm_up ξ 251 i 0 c d = μ c d := fun c d h => (zm_up_ne (by omega)).trans (f3 c d h)
          have o0 : (0 : Int32) = 0 ∨ (0 : Int32) = 1 := Or.inl rfl
          refine ⟨zi_set L 4 (.int (nI (i + 1))), zm_mk (zm_up ξ 251 i 0), ⟨0, 27, fun F m hF => ?_⟩, by omega, ?_, ?_, ?_, ?_, ?_, zi_get_set_eq, _, rfl, f1', f2', f3', trivial⟩
          · simp (maxDischargeDepth := 9) [zg_0, zg_aload_n, zg_baload, zg_bastore, zg_bipush, zg_getfield, zg_goto, zg_iadd, zg_iaload, zg_iastore, zg_iconst, zg_ifCond, zg_if_icmp, zg_iinc, zg_iload, zg_iload_n, zg_imul, zg_invokestatic, zg_invokevirtual, zg_ireturn, zg_istore, zg_istore_n, zf_X6_bring, zi_ld, zi_lda, zi_cmp, zi_retOk, zi_isI, zi_f3, zi_cr, zi_ci, zi_cn, zi_get_ne, zi_nl_i, zi_nl_r, zi_get_set_eq, nl, g0, g1, g2, g3, g4, h10, c1, c2', zM_g, zm_bald zM_A251 ik, ck, e1, c3, mk, nI_add, zm_bald zM_A252 ij, cj, e2, c4, zm_bast zM_A251 ik o0, nI_1]
          · simp (maxDischargeDepth := 9) [zi_get_ne, zi_nl_i, zi_nl_r, zi_get_set_eq, nl]
          · simp (maxDischargeDepth := 9) [zi_get_ne, zi_nl_i, zi_nl_r, zi_get_set_eq, nl, g0]
          · simp (maxDischargeDepth := 9) [zi_get_ne, zi_nl_i, zi_nl_r, zi_get_set_eq, nl, g1]
          · simp (maxDischargeDepth := 9) [zi_get_ne, zi_nl_i, zi_nl_r, zi_get_set_eq, nl, g2]
          · simp (maxDischargeDepth := 9) [zi_get_ne, zi_nl_i, zi_nl_r, zi_get_set_eq, nl, g3]
  · rintro L _ ⟨-, nl, g0, g1, g2, g3, g4, ξ, rfl, f1, f2, f3, hq⟩
    have c1 : (3 : Int32) ≤ nI 3 := by decide
    refine ⟨L, zm_mk ξ, ⟨0, 3, fun F m hF => ?_⟩, nl, g0, g1, g2, g3, ξ, rfl, f1, f3⟩
    simp (maxDischargeDepth := 9) [zg_0, zg_aload_n, zg_baload, zg_bastore, zg_bipush, zg_getfield, zg_goto, zg_iadd, zg_iaload, zg_iastore, zg_iconst, zg_ifCond, zg_if_icmp, zg_iinc, zg_iload, zg_iload_n, zg_imul, zg_invokestatic, zg_invokevirtual, zg_ireturn, zg_istore, zg_istore_n, zf_X6_bring, zi_ld, zi_lda, zi_cmp, zi_retOk, zi_isI, zi_f3, zi_cr, zi_ci, zi_cn, zi_get_ne, zi_nl_i, zi_nl_r, zi_get_set_eq, nl, g0, g1, g2, g3, g4, c1, nI_1]
/-- the windows g below i have come to the screen s -/
def zv_br (μ ξ : zm_M) (s : Nat) (g : Nat → Bool) (i : Nat) : Prop :=
  (∀ j, j < 10 → ξ 238 j = if (j < i ∧ g j = true) ∧ ¬ μ 234 j = 1 then nI s else μ 238 j) ∧ (∀ o, o < 3 → (ξ 251 o = 0 ∨ ξ 251 o = μ 251 o) ∧ (ξ 251 o = 0 ↔ μ 251 o = 0 ∨ (o ≠ s ∧ ∃ j, j < i ∧ g j = true ∧ ¬ μ 252 (10 * o + j) = 0))) ∧ ∀ c d, c ≠ 238 → c ≠ 239 → c ≠ 240 → c ≠ 251 → ξ c d = μ c d
theorem zv_br_no {ξ : zm_M} {i : Nat} (h : zv_br μ ξ s g i) (hg : ¬ g i = true) : zv_br μ ξ s g (i + 1) := by
  obtain ⟨h1, h2, h3⟩ := h
  refine ⟨fun j hj => ?_, fun o ho => ⟨(h2 o ho).1, (h2 o ho).2.trans ?_⟩, h3⟩
  · rw [h1 j hj]
    by_cases e : j = i
    · subst e
      rw [if_neg (fun z => hg z.1.2), if_neg (fun z => hg z.1.2)]
    · have : (j < i ∧ g j = true) ↔ (j < i + 1 ∧ g j = true) := ⟨fun z => ⟨by omega, z.2⟩, fun z => ⟨by omega, z.2⟩⟩
      simp only [this]
  · refine or_congr Iff.rfl (and_congr Iff.rfl ⟨fun ⟨j, a, b, c⟩ => ⟨j, by omega, b, c⟩, fun ⟨j, a, b, c⟩ => ⟨j, ?_, b, c⟩⟩)
    by_cases e : j = i
    · rw [e] at b; exact absurd b hg
    · omega
theorem zv_br_s {ξ ξ1 ν : zm_M} {i : Nat} (hi : i < 10) (h : zv_br μ ξ s g i) (hg : g i = true) (e1 : ∀ c d, c ≠ 238 → c ≠ 239 → c ≠ 240 → ξ1 c d = ξ c d) (e2 : ∀ j, j ≠ i → ξ1 238 j = ξ 238 j) (e3 : ξ1 238 i = if ¬ μ 234 i = 1 then nI s else ξ 238 i) (n1 : ∀ d, d < 3 → ν 251 d = if d ≠ s ∧ ¬ ξ1 251 d = 0 ∧ ¬ ξ1 252 (10 * d + i) = 0 then 0 else ξ1 251 d) (n2 : ∀ c d, c ≠ 251 → ν c d = ξ1 c d) : zv_br μ ν s g (i + 1) := by
  obtain ⟨h1, h2, h3⟩ := h
  refine ⟨fun j hj => ?_, fun o ho => ?_, fun c d a1 a2 a3 a4 => by rw [n2 c d a4, e1 c d a1 a2 a3]; exact h3 c d a1 a2 a3 a4⟩
  · rw [n2 _ _ (by decide)]
    by_cases e : j = i
    · subst e
      rw [e3]
      by_cases c : μ 234 j = 1
      · rw [if_neg (not_not_intro c), h1 j hj, if_neg (fun z => z.2 c), if_neg (fun z => z.2 c)]
      · rw [if_pos c, if_pos ⟨⟨Nat.lt_succ_self _, hg⟩, c⟩]
    · have : (j < i ∧ g j = true) ↔ (j < i + 1 ∧ g j = true) := ⟨fun z => ⟨by omega, z.2⟩, fun z => ⟨by omega, z.2⟩⟩
      rw [e2 j e, h1 j hj]
      simp only [this]
  · have w1 : ξ1 251 o = ξ 251 o := e1 _ _ (by decide) (by decide) (by decide)
    have w2 : ξ1 252 (10 * o + i) = μ 252 (10 * o + i) := (e1 _ _ (by decide) (by decide) (by decide)).trans (h3 _ _ (by decide) (by decide) (by decide) (by decide))
    rw [n1 o ho, w1, w2]
    obtain ⟨p1, p2⟩ := h2 o ho
    by_cases c : o ≠ s ∧ ¬ ξ 251 o = 0 ∧ ¬ μ 252 (10 * o + i) = 0
    · rw [if_pos c]
      exact ⟨Or.inl rfl, fun _ => Or.inr ⟨c.1, i, Nat.lt_succ_self _, hg, c.2.2⟩, fun _ => rfl⟩
    · rw [if_neg c]
      refine ⟨p1, fun z => ?_, fun z => ?_⟩
      · rcases p2.mp z with z | ⟨z1, j, z2, z3, z4⟩
        · exact Or.inl z
        · exact Or.inr ⟨z1, j, by omega, z3, z4⟩
      · rcases z with z | ⟨z1, j, z2, z3, z4⟩
        · exact p2.mpr (Or.inl z)
        · by_cases e : j = i
          · rw [e] at z4
            exact Decidable.byContradiction fun y => c ⟨z1, y, z4⟩
          · exact p2.mpr (Or.inr ⟨z1, j, by omega, z3, z4⟩)
set_option maxRecDepth 100000 in
theorem zv_brA (D : Nat) (hs : s < 3) {k : Nat} (hk : k < 10) (hb : μ 252 (10 * s + k) = 0 ∨ μ 252 (10 * s + k) = 1) {z : Nat} (L : zi_Lc) (nl : zi_nl L = true) (g0 : zi_get L 0 = some (.ref 232)) (g1 : zi_get L 1 = some (.int (nI s))) (g2 : zi_get L 2 = some (.int (nI z))) (g3 : zi_get L 3 = some (.int (nI k))) :
    ∃ L' ν, ze_S (D + 2) 7 (some .int) zc_X6_bring 121 L [] (zm_mk μ) 206 L' [] (zm_mk ν) ∧ zi_nl L' = true ∧ zi_get L' 0 = some (.ref 232) ∧ zi_get L' 1 = some (.int (nI s)) ∧ zi_get L' 2 = some (.int (nI (z + 1))) ∧ zi_get L' 3 = some (.int (nI k)) ∧ zi_get L' 4 = some (.int (nI 0)) ∧ (∀ c d, c ≠ 238 → c ≠ 239 → c ≠ 240 → ν c d = μ c d) ∧ (∀ j, j ≠ k → ν 238 j = μ 238 j) ∧ (ν 238 k = if ¬ μ 234 k = 1 then nI s else μ 238 k) := by
  have h10 : (Int8.ofInt 10).toInt32 = (10 : Int32) := by decide
  have n1 : (Int8.ofInt 1).toInt32 = (1 : Int32) := by decide
  have ik : zi_in (nI k) 10 = true := zm_in hk (by decide)
  have ck : (nI k).toNatClampNeg = k := nI_clamp (by omega)
  have mk : (10 : Int32) * nI s = nI (10 * s) := nI_mul10 (by omega)
  have ij : zi_in (nI (10 * s + k)) 30 = true := zm_in (by omega) (by decide)
  have cj : (nI (10 * s + k)).toNatClampNeg = 10 * s + k := nI_clamp (by omega)
  obtain ⟨lc, cM⟩ := zM_c (μ := μ)
  by_cases c : μ 234 k = 1
  · refine ⟨zi_set (zi_set L 2 (.int (nI (z + 1)))) 4 (.int (nI 0)), μ, ⟨0, 9, fun F m hF => ?_⟩, by simp (maxDischargeDepth := 9) [zi_get_ne, zi_nl_i, zi_nl_r, zi_get_set_eq, nl], by simp (maxDischargeDepth := 9) [zi_get_ne, zi_nl_i, zi_nl_r, zi_get_set_eq, nl, g0], by simp (maxDischargeDepth := 9) [zi_get_ne, zi_nl_i, zi_nl_r, zi_get_set_eq, nl, g1], by simp (maxDischargeDepth := 9) [zi_get_ne, zi_nl_i, zi_nl_r, zi_get_set_eq, nl], by simp (maxDischargeDepth := 9) [zi_get_ne, zi_nl_i, zi_nl_r, zi_get_set_eq, nl, g3], zi_get_set_eq, fun _ _ _ _ _ => rfl, fun _ _ => rfl, by rw [if_neg (not_not_intro c)]⟩
    simp (maxDischargeDepth := 9) [zg_0, zg_aload_n, zg_baload, zg_bastore, zg_bipush, zg_getfield, zg_goto, zg_iadd, zg_iaload, zg_iastore, zg_iconst, zg_ifCond, zg_if_icmp, zg_iinc, zg_iload, zg_iload_n, zg_imul, zg_invokestatic, zg_invokevirtual, zg_ireturn, zg_istore, zg_istore_n, zf_X6_bring, zi_ld, zi_lda, zi_cmp, zi_retOk, zi_isI, zi_f3, zi_cr, zi_ci, zi_cn, zi_get_ne, zi_nl_i, zi_nl_r, zi_get_set_eq, nl, g0, g1, g2, g3, zM_g, zm_iald (k := 0) zM_A234 ik, ck, c, nI_0, nI_1]
  · have pf : ∀ p q, (∀ c d, c ≠ 238 → c ≠ 239 → c ≠ 240 → zv_put μ k s p q c d = μ c d) ∧ (∀ j, j ≠ k → zv_put μ k s p q 238 j = μ 238 j) ∧ (zv_put μ k s p q 238 k = if ¬ μ 234 k = 1 then nI s else μ 238 k) := fun p q => by
      unfold zv_put
      refine ⟨fun c d a1 a2 a3 => by rw [zm_up_ne (by omega), zm_up_ne (by omega), zm_up_ne (by omega)], fun j hj => by rw [zm_up_ne (by omega), zm_up_ne (by omega), zm_up_ne (by omega)], by rw [if_pos c, zm_up_ne (by omega), zm_up_ne (by omega), zm_up_eq]⟩
    rcases hb with b | b
    · obtain ⟨p, q, ⟨N1, E1⟩, -⟩ := ze_MputAt (μ := μ) D hk hs (μ 239 k) (μ 240 k)
      have pf := pf p q
      generalize zv_put μ k s p q = ν at E1 pf
      refine ⟨zi_set (zi_set (zi_set L 2 (.int (nI (z + 1)))) 4 (.int 0)) 4 (.int (nI 0)), ν, ⟨N1, 34, fun F m hF => ?_⟩, by simp (maxDischargeDepth := 9) [zi_get_ne, zi_nl_i, zi_nl_r, zi_get_set_eq, nl], by simp (maxDischargeDepth := 9) [zi_get_ne, zi_nl_i, zi_nl_r, zi_get_set_eq, nl, g0], by simp (maxDischargeDepth := 9) [zi_get_ne, zi_nl_i, zi_nl_r, zi_get_set_eq, nl, g1], by simp (maxDischargeDepth := 9) [zi_get_ne, zi_nl_i, zi_nl_r, zi_get_set_eq, nl], by simp (maxDischargeDepth := 9) [zi_get_ne, zi_nl_i, zi_nl_r, zi_get_set_eq, nl, g3], zi_get_set_eq, pf⟩
      simp (maxDischargeDepth := 9) [zg_0, zg_aload_n, zg_baload, zg_bastore, zg_bipush, zg_getfield, zg_goto, zg_iadd, zg_iaload, zg_iastore, zg_iconst, zg_ifCond, zg_if_icmp, zg_iinc, zg_iload, zg_iload_n, zg_imul, zg_invokestatic, zg_invokevirtual, zg_ireturn, zg_istore, zg_istore_n, zf_X6_bring, zi_ld, zi_lda, zi_cmp, zi_retOk, zi_isI, zi_f3, zi_cr, zi_ci, zi_cn, zi_get_ne, zi_nl_i, zi_nl_r, zi_get_set_eq, nl, g0, g1, g2, g3, zM_g, h10, mk, nI_add, zm_bald zM_A252 ij, cj, b, zm_iald (k := 0) zM_A234 ik, zm_iald (k := 0) zM_A239 ik, zm_iald (k := 0) zM_A240 ik, ck, c, cM, zq_Mod_putAt, E1 F (by omega), nI_0, nI_1]
    · obtain ⟨p, q, ⟨N1, E1⟩, -⟩ := ze_MputAt (μ := μ) D hk hs (μ 253 (10 * s + k)) (μ 254 (10 * s + k))
      have pf := pf p q
      generalize zv_put μ k s p q = ν at E1 pf
      refine ⟨zi_set (zi_set (zi_set L 2 (.int (nI (z + 1)))) 4 (.int 1)) 4 (.int (nI 0)), ν, ⟨N1, 44, fun F m hF => ?_⟩, by simp (maxDischargeDepth := 9) [zi_get_ne, zi_nl_i, zi_nl_r, zi_get_set_eq, nl], by simp (maxDischargeDepth := 9) [zi_get_ne, zi_nl_i, zi_nl_r, zi_get_set_eq, nl, g0], by simp (maxDischargeDepth := 9) [zi_get_ne, zi_nl_i, zi_nl_r, zi_get_set_eq, nl, g1], by simp (maxDischargeDepth := 9) [zi_get_ne, zi_nl_i, zi_nl_r, zi_get_set_eq, nl], by simp (maxDischargeDepth := 9) [zi_get_ne, zi_nl_i, zi_nl_r, zi_get_set_eq, nl, g3], zi_get_set_eq, pf⟩
      simp (maxDischargeDepth := 9) [zg_0, zg_aload_n, zg_baload, zg_bastore, zg_bipush, zg_getfield, zg_goto, zg_iadd, zg_iaload, zg_iastore, zg_iconst, zg_ifCond, zg_if_icmp, zg_iinc, zg_iload, zg_iload_n, zg_imul, zg_invokestatic, zg_invokevirtual, zg_ireturn, zg_istore, zg_istore_n, zf_X6_bring, zi_ld, zi_lda, zi_cmp, zi_retOk, zi_isI, zi_f3, zi_cr, zi_ci, zi_cn, zi_get_ne, zi_nl_i, zi_nl_r, zi_get_set_eq, nl, g0, g1, g2, g3, zM_g, h10, mk, nI_add, zm_bald zM_A252 ij, zm_iald (k := 0) zM_A253 ij, zm_iald (k := 0) zM_A254 ij, cj, b, zm_iald (k := 0) zM_A234 ik, ck, c, cM, zq_Mod_putAt, E1 F (by omega), nI_0, nI_1]
set_option maxRecDepth 100000 in
theorem zv_brK (D : Nat) (hs : s < 3) (hg : zv_cm μ g) (hb : ∀ k, k < 10 → μ 252 (10 * s + k) = 0 ∨ μ 252 (10 * s + k) = 1) (L0 : zi_Lc) (nl0 : zi_nl L0 = true) (a0 : zi_get L0 0 = some (.ref 232)) (a1 : zi_get L0 1 = some (.int (nI s))) (a2 : zi_get L0 2 = some (.int (nI 0))) (a3 : zi_get L0 3 = some (.int (nI 0))) :
    ∃ r h', ze_G (D + 2) 7 (some .int) zc_X6_bring 106 L0 [] (zm_mk μ) r h' ∧ (r = some (.int (nI (zl_ct g 10))) ∧ ∃ ν, zm_mk ν = h' ∧ zv_br μ ν s g 10) := by
  have h10 : (Int8.ofInt 10).toInt32 = (10 : Int32) := by decide
  refine ze_loop (Q := fun i L hp => i ≤ 10 ∧ zi_nl L = true ∧ zi_get L 0 = some (.ref 232) ∧ zi_get L 1 = some (.int (nI s)) ∧ zi_get L 3 = some (.int (nI i)) ∧ ∃ ξ : zm_M, zm_mk ξ = hp ∧ ∃ (z : Nat), zi_get L 2 = some (.int (nI z)) ∧ (z = zl_ct g i ∧ zv_br μ ξ s g i)) (R := fun r h' => r = some (.int (nI (zl_ct g 10))) ∧ ∃ ν, zm_mk ν = h' ∧ zv_br μ ν s g 10) 10 ?_ ?_ 10 0 _ _ (by omega) ⟨by omega, nl0, a0, a1, a3, μ, rfl, 0, a2, rfl, ⟨fun j hj => by rw [if_neg (fun z => absurd z.1.1 (by omega))], fun o ho => ⟨Or.inr rfl, fun z => Or.inl z, fun z => z.elim id (fun y => (by obtain ⟨-, j, hj, -⟩ := y; omega))⟩, fun _ _ _ _ _ _ => rfl⟩⟩
  · rintro i L _ hi ⟨-, nl, g0, g1, g3, ξ, rfl, z, g2, hq⟩
    obtain ⟨hz, hb1⟩ := hq
    have c1 : ¬ (10 : Int32) ≤ nI i := nI_ge (b := 10) hi (by decide)
    have ik : zi_in (nI i) 10 = true := zm_in hi (by decide)
    have ck : (nI i).toNatClampNeg = i := nI_clamp (by omega)
    have ec : ξ 260 i = if g i = true then 1 else 0 := (hb1.2.2 _ _ (by decide) (by decide) (by decide) (by decide)).trans (hg i hi)
    have es : zl_ct g (i + 1) = zl_ct g i + if g i then 1 else 0 := rfl
    by_cases c2 : g i = true
    · rw [if_pos c2] at ec
      rw [if_pos c2] at es
      have hb2 := hb i hi
      have e25 : ξ 252 (10 * s + i) = μ 252 (10 * s + i) := hb1.2.2 _ _ (by decide) (by decide) (by decide) (by decide)
      rw [← e25] at hb2
      obtain ⟨L1, ξ1, S1, nl1, b0, b1, b2, b3, b4, m1, m2, m3⟩ := zv_brA (μ := ξ) D hs hi hb2 L nl g0 g1 g2 g3
      obtain ⟨L2, h2, S2, nl2, d0, d1, d2, d3, ν, rfl, n1, n2⟩ := zv_brF (μ := ξ1) (D + 2) hs hi L1 nl1 b0 b1 b2 b3 b4
      have e4 : ξ 234 i = μ 234 i := hb1.2.2 _ _ (by decide) (by decide) (by decide) (by decide)
      rw [e4] at m3
      left
      refine ⟨zi_set L2 3 (.int (nI (i + 1))), zm_mk ν, ze_S.trans ⟨0, 8, fun F m hF => ?_⟩ (S1.trans (S2.trans ⟨0, 2, fun F m hF => ?_⟩)), by omega, ?_, ?_, ?_, zi_get_set_eq, ν, rfl, z + 1, ?_, by rw [es, hz], zv_br_s hi hb1 c2 m1 m2 m3 n1 n2⟩
      · simp (maxDischargeDepth := 9) [zg_0, zg_aload_n, zg_baload, zg_bastore, zg_bipush, zg_getfield, zg_goto, zg_iadd, zg_iaload, zg_iastore, zg_iconst, zg_ifCond, zg_if_icmp, zg_iinc, zg_iload, zg_iload_n, zg_imul, zg_invokestatic, zg_invokevirtual, zg_ireturn, zg_istore, zg_istore_n, zf_X6_bring, zi_ld, zi_lda, zi_cmp, zi_retOk, zi_isI, zi_f3, zi_cr, zi_ci, zi_cn, zi_get_ne, zi_nl_i, zi_nl_r, zi_get_set_eq, nl, g0, g1, g2, g3, h10, c1, zM_g, zm_bald zM_A260 ik, ck, ec]
      · have nl := nl2
        simp (maxDischargeDepth := 9) [zg_0, zg_aload_n, zg_baload, zg_bastore, zg_bipush, zg_getfield, zg_goto, zg_iadd, zg_iaload, zg_iastore, zg_iconst, zg_ifCond, zg_if_icmp, zg_iinc, zg_iload, zg_iload_n, zg_imul, zg_invokestatic, zg_invokevirtual, zg_ireturn, zg_istore, zg_istore_n, zf_X6_bring, zi_ld, zi_lda, zi_cmp, zi_retOk, zi_isI, zi_f3, zi_cr, zi_ci, zi_cn, zi_get_ne, zi_nl_i, zi_nl_r, zi_get_set_eq, nl, d0, d1, d2, d3, nI_1]
      · have nl := nl2
        simp (maxDischargeDepth := 9) [zi_get_ne, zi_nl_i, zi_nl_r, zi_get_set_eq, nl]
      · have nl := nl2
        simp (maxDischargeDepth := 9) [zi_get_ne, zi_nl_i, zi_nl_r, zi_get_set_eq, nl, d0]
      · have nl := nl2
        simp (maxDischargeDepth := 9) [zi_get_ne, zi_nl_i, zi_nl_r, zi_get_set_eq, nl, d1]
      · have nl := nl2
        simp (maxDischargeDepth := 9) [zi_get_ne, zi_nl_i, zi_nl_r, zi_get_set_eq, nl, d2]
    · rw [if_neg c2] at ec
      rw [if_neg c2] at es
      left
      refine ⟨zi_set L 3 (.int (nI (i + 1))), zm_mk ξ, ⟨0, 10, fun F m hF => ?_⟩, by omega, ?_, ?_, ?_, zi_get_set_eq, ξ, rfl, z, ?_, ⟨hz.trans es.symm, zv_br_no hb1 c2⟩⟩
      · simp (maxDischargeDepth := 9) [zg_0, zg_aload_n, zg_baload, zg_bastore, zg_bipush, zg_getfield, zg_goto, zg_iadd, zg_iaload, zg_iastore, zg_iconst, zg_ifCond, zg_if_icmp, zg_iinc, zg_iload, zg_iload_n, zg_imul, zg_invokestatic, zg_invokevirtual, zg_ireturn, zg_istore, zg_istore_n, zf_X6_bring, zi_ld, zi_lda, zi_cmp, zi_retOk, zi_isI, zi_f3, zi_cr, zi_ci, zi_cn, zi_get_ne, zi_nl_i, zi_nl_r, zi_get_set_eq, nl, g0, g1, g3, g2, h10, c1, zM_g, zm_bald zM_A260 ik, ck, ec, nI_1]
      · simp (maxDischargeDepth := 9) [zi_get_ne, zi_nl_i, zi_nl_r, zi_get_set_eq, nl]
      · simp (maxDischargeDepth := 9) [zi_get_ne, zi_nl_i, zi_nl_r, zi_get_set_eq, nl, g0]
      · simp (maxDischargeDepth := 9) [zi_get_ne, zi_nl_i, zi_nl_r, zi_get_set_eq, nl, g1]
      · simp (maxDischargeDepth := 9) [zi_get_ne, zi_nl_i, zi_nl_r, zi_get_set_eq, nl, g2]
  · rintro L _ ⟨-, nl, g0, g1, g3, ξ, rfl, z, g2, hq⟩
    obtain ⟨hz, hb1⟩ := hq
    have c1 : (10 : Int32) ≤ nI 10 := by decide
    refine ⟨_, zm_mk ξ, ⟨0, 5, fun F m hF => ?_⟩, by rw [← hz], ξ, rfl, hb1⟩
    simp [zg_0, zg_aload_n, zg_baload, zg_bastore, zg_bipush, zg_getfield, zg_goto, zg_iadd, zg_iaload, zg_iastore, zg_iconst, zg_ifCond, zg_if_icmp, zg_iinc, zg_iload, zg_iload_n, zg_imul, zg_invokestatic, zg_invokevirtual, zg_ireturn, zg_istore, zg_istore_n, zf_X6_bring, zi_ld, zi_lda, zi_cmp, zi_retOk, zi_isI, zi_f3, zi_cr, zi_ci, zi_cn, g0, g2, g3, h10, c1]
variable {us : Nat → zy_F} {uk : zy_F} {abk : Nat → Int32}
set_option maxRecDepth 100000 in
theorem ze_Mbring (D : Nat) (hs : s < 3) (hI : ∀ q, q < 3 → ∃ ab, zu_I μ q (us q) ab) (hnd : ∀ q, q < 3 → zu_nd μ q (us q)) (hK : zu_I μ (3 + s) uk abk) (hKd : zu_nd μ (3 + s) uk) (hlv : ∀ n ∈ zy_lvs uk, ∀ w ∈ zu_tb μ (3 + s) n, zv_lv μ us w) (hg : zv_cm μ g) (hb : ∀ k, k < 10 → μ 252 (10 * s + k) = 0 ∨ μ 252 (10 * s + k) = 1) :
    ∃ μ1 ξ us1 ν, ze_E (D + 27) A_Mod_bring [.ref 232, .int (nI s)] (zm_mk μ) (some (.int (nI (zl_ct g 10)))) (zm_mk ν) ∧ zu_frv μ μ1 ∧ zv_bs μ1 s us ξ us1 ((zy_lvs uk).flatMap (zu_tb μ (3 + s))) ∧ zv_br (zu_cq ξ (3 + s) s 24 240) ν s g 10 := by
  obtain ⟨lc, cM⟩ := zM_c (μ := μ)
  have e3 : (3 : Int32) + nI s = nI (3 + s) := by rw [show (3 : Int32) = nI 3 by decide, nI_add]
  obtain ⟨μ1, ⟨N1, E1⟩, v1, f1⟩ := ze_MclearLeaves (μ := μ) D (τ := 3 + s) (by omega) hK
  have etb : ∀ τ, zu_tb μ1 τ = zu_tb μ τ := fun τ => funext fun n => zu_frv_tb f1
  have hI1 : ∀ q, q < 3 → ∃ ab, zu_I μ1 q (us q) ab := fun q hq => by
    obtain ⟨ab, h⟩ := hI q hq
    exact ⟨ab, (f1.eqT (τ := q)).I h⟩
  have nd1 : ∀ τ u, zu_nd μ τ u → zu_nd μ1 τ u := fun τ u h => by
    unfold zu_nd
    rw [etb]; exact h
  have hlv1 : ∀ w, zv_lv μ us w → zv_lv μ1 us w := fun w ⟨h1, q, h2, h3, ⟨m, h4⟩, h5⟩ => by
    obtain ⟨ab, hIq⟩ := hI q h2
    refine ⟨h1, q, h2, (f1 _ _ (by omega) (by decide)).trans h3, ⟨m, zu_at_eqT hIq (f1.eqT (τ := q)) h4⟩, ?_⟩
    intro p
    rw [etb]
    exact h5 p
  obtain ⟨L1, h1, S1, nl1, b0, b1, b2, ξ, us1, rfl, hbs⟩ := zv_brO (μ := μ1) (us := us) (uk := uk) (D + 22) hs hI1 (fun q hq => nd1 q _ (hnd q hq)) ((f1.eqT (τ := 3 + s)).I hK) (nd1 _ _ hKd) v1 (fun n hn w hw => hlv1 w (hlv n hn w (by rw [etb] at hw; exact hw))) [(3, .int (nI 0)), (2, .int (nI 0)), (0, .ref 232), (1, .int (nI s))] rfl rfl rfl rfl rfl
  rw [etb] at hbs
  obtain ⟨N2, E2⟩ := ze_McopyTree (μ := ξ) (D + 24) (f := 3 + s) (t := s) (by omega) (by omega) (by omega)
  obtain ⟨lc1, cM1⟩ := zM_c (μ := ξ)
  have fc : ∀ c d, 250 < c → zu_cq ξ (3 + s) s 24 240 c d = μ c d ∨ c = 259 := fun c d h => by
    by_cases e : c = 259
    · exact Or.inr e
    · exact Or.inl (((zu_cq_fr c d (zu_in_not (by omega))).trans (hbs.2.2 c d (by omega) (fun q hq => zu_in_not (by omega)))).trans (f1 c d (by omega) e))
  have hg2 : zv_cm (zu_cq ξ (3 + s) s 24 240) g := fun j hj => by
    rw [(fc 260 j (by decide)).resolve_right (by decide)]; exact hg j hj
  have hb2 : ∀ k, k < 10 → zu_cq ξ (3 + s) s 24 240 252 (10 * s + k) = 0 ∨ zu_cq ξ (3 + s) s 24 240 252 (10 * s + k) = 1 := fun k hk => by
    rw [(fc 252 _ (by decide)).resolve_right (by decide)]; exact hb k hk
  have nl := nl1
  obtain ⟨r, h2, G, rfl, ν, rfl, hbr⟩ := zv_brK (μ := zu_cq ξ (3 + s) s 24 240) (D + 24) hs hg2 hb2 (zi_set L1 3 (.int (nI 0))) (by simp (maxDischargeDepth := 9) [zi_get_ne, zi_nl_i, zi_nl_r, zi_get_set_eq, nl]) (by simp (maxDischargeDepth := 9) [zi_get_ne, zi_nl_i, zi_nl_r, zi_get_set_eq, nl, b0]) (by simp (maxDischargeDepth := 9) [zi_get_ne, zi_nl_i, zi_nl_r, zi_get_set_eq, nl, b1]) (by simp (maxDischargeDepth := 9) [zi_get_ne, zi_nl_i, zi_nl_r, zi_get_set_eq, nl, b2]) zi_get_set_eq
  refine ⟨μ1, ξ, us1, ν, ze_in [(0, .ref 232), (1, .int (nI s))] zq_Mod_bring (Nat.le_of_ble_eq_true rfl) rfl (ze_S.end ⟨N1, 9, fun F m hF => ?_⟩ (S1.end (ze_S.end ⟨N2, 8, fun F m hF => ?_⟩ G))), f1, hbs, hbr⟩
  · simp [zg_0, zg_aload_n, zg_baload, zg_bastore, zg_bipush, zg_getfield, zg_goto, zg_iadd, zg_iaload, zg_iastore, zg_iconst, zg_ifCond, zg_if_icmp, zg_iinc, zg_iload, zg_iload_n, zg_imul, zg_invokestatic, zg_invokevirtual, zg_ireturn, zg_istore, zg_istore_n, zf_X6_bring, zi_ld, zi_lda, zi_cmp, zi_retOk, zi_isI, zi_f3, zi_cr, zi_ci, zi_cn, zi_get, zi_set, zM_g, cM, e3, zq_Mod_clearLeaves, E1 F (by omega), nI_0]
  · simp (maxDischargeDepth := 9) [zg_0, zg_aload_n, zg_baload, zg_bastore, zg_bipush, zg_getfield, zg_goto, zg_iadd, zg_iaload, zg_iastore, zg_iconst, zg_ifCond, zg_if_icmp, zg_iinc, zg_iload, zg_iload_n, zg_imul, zg_invokestatic, zg_invokevirtual, zg_ireturn, zg_istore, zg_istore_n, zf_X6_bring, zi_ld, zi_lda, zi_cmp, zi_retOk, zi_isI, zi_f3, zi_cr, zi_ci, zi_cn, zi_get_ne, zi_nl_i, zi_nl_r, zi_get_set_eq, nl, b0, b1, b2, cM1, e3, zq_Mod_copyTree, E2 F (by omega), nI_0]
end ZVZ
