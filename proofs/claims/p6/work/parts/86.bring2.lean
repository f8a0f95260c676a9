/-! the desk: bringBack, run -/
section ZBS
variable {μ ν : zm_M} {Rs : Nat → List Nat} {ts : Nat → zy_F}
/-- the group that comes back with the screen s -/
def zd_bgr (μ : zm_M) (s : Nat) : Nat → Bool := zl_spn (zd_dl μ) (zd_ow μ) (zd_has μ s) 10
set_option maxRecDepth 100000 in
theorem ze_bring_0 (D : Nat) {s : Nat} (hs : s < 3) : ∃ ν, ze_S (D + 3) 5 (some .int) zc_X5_bringBack 38 [(2, .ref (zdK s + 1)), (0, .ref 1), (1, .int (nI s))] [] (zm_mk μ) 67 [(3, .int (nI 10)), (2, .ref (zdK s + 1)), (0, .ref 1), (1, .int (nI s))] [] (zm_mk ν) ∧ (∀ c, c ≠ 31 → ν c = μ c) ∧ zd_gr ν (zd_bgr μ s) := by
  have h10 : (Int8.ofInt 10).toInt32 = (10 : Int32) := by decide
  have key : ∃ L' h', ze_S (D + 3) 5 (some .int) zc_X5_bringBack 40 [(3, .int (nI 0)), (2, .ref (zdK s + 1)), (0, .ref 1), (1, .int (nI s))] [] (zm_mk μ) 63 L' [] h' ∧ (L' = [(3, .int (nI 10)), (2, .ref (zdK s + 1)), (0, .ref 1), (1, .int (nI s))] ∧ ∃ ν, zm_mk ν = h' ∧ (∀ c, c ≠ 31 → ν c = μ c) ∧ ∀ k, k < 10 → ν 31 k = if zd_has μ s k = true then 1 else 0) := by
    refine ze_loopS (Q := fun i L hp => i ≤ 10 ∧ L = [(3, .int (nI i)), (2, .ref (zdK s + 1)), (0, .ref 1), (1, .int (nI s))] ∧ ∃ ν : zm_M, zm_mk ν = hp ∧ (∀ c, c ≠ 31 → ν c = μ c) ∧ ∀ k, k < i → ν 31 k = if zd_has μ s k = true then 1 else 0) (R := fun L' h' => L' = [(3, .int (nI 10)), (2, .ref (zdK s + 1)), (0, .ref 1), (1, .int (nI s))] ∧ ∃ ν, zm_mk ν = h' ∧ (∀ c, c ≠ 31 → ν c = μ c) ∧ ∀ k, k < 10 → ν 31 k = if zd_has μ s k = true then 1 else 0) 10 ?_ ?_ 10 0 _ _ (by omega) ⟨by omega, rfl, μ, rfl, fun _ _ => rfl, fun k hk => absurd hk (by omega)⟩
    · rintro i L _ hi ⟨-, rfl, ν, rfl, f, g⟩
      have c1 : ¬ (10 : Int32) ≤ nI i := nI_ge (b := 10) hi (by decide)
      have i1 : zi_in (nI i) 10 = true := zm_in hi (by decide)
      have e1 : (nI i).toNatClampNeg = i := nI_clamp (by omega)
      obtain ⟨N1, E1⟩ := ze_has (μ := ν) (D + 1) hs hi
      have eh : zd_has ν s i = zd_has μ s i := by
        unfold zd_has
        rw [f _ (by unfold zdK; omega), f _ (by unfold zdQ; omega), f _ (by unfold zdV; omega)]
      rw [eh] at E1
      have ck := zdK_c (μ := ν) hs
      obtain ⟨x, hx, ex⟩ : ∃ x : Int32, (x = 0 ∨ x = 1) ∧ (if zd_has μ s i = true then (1 : Int32) else 0) = x := ⟨_, by split <;> simp, rfl⟩
      rw [ex] at E1
      refine ⟨_, zm_mk (zm_up ν 31 i x), ⟨N1, 12, fun F m hF => ?_⟩, by omega, rfl, _, rfl, fun c hc => (zm_up_row hc).trans (f c hc), fun k hk => ?_⟩
      · simp [zg_0, zg_aaload, zg_aload_n, zg_astore_n, zg_bastore, zg_bipush, zg_getfield, zg_goto, zg_iconst, zg_ifCond, zg_if_icmp, zg_iinc, zg_iload, zg_iload_n, zg_invokevirtual, zg_ireturn, zg_istore, zg_istore_n, zf_X5_bringBack, zi_ld, zi_lda, zi_cmp, zi_retOk, zi_isI, zi_f3, zi_cr, zi_ci, zi_cn, zi_get, zi_set, h10, c1, zd_g, zq_Kept_has, ck, E1 F (by omega), zm_bast zd31_A i1 hx, e1, nI_1]
      · rw [zm_up_pt]
        by_cases e : k = i
        · rw [if_pos e, e, ex]
        · rw [if_neg e]
          exact g k (by omega)
    · rintro L _ ⟨-, rfl, ν, rfl, f, g⟩
      have c1 : (10 : Int32) ≤ nI 10 := by decide
      refine ⟨_, zm_mk ν, ⟨0, 3, fun F m hF => ?_⟩, rfl, ν, rfl, f, g⟩
      simp [zg_0, zg_aaload, zg_aload_n, zg_astore_n, zg_bastore, zg_bipush, zg_getfield, zg_goto, zg_iconst, zg_ifCond, zg_if_icmp, zg_iinc, zg_iload, zg_iload_n, zg_invokevirtual, zg_ireturn, zg_istore, zg_istore_n, zf_X5_bringBack, zi_ld, zi_lda, zi_cmp, zi_retOk, zi_isI, zi_f3, zi_cr, zi_ci, zi_cn, zi_get, zi_set, h10, c1]
  obtain ⟨L', h', S1, rfl, ν1, rfl, f1, g1⟩ := key
  obtain ⟨ν, ⟨N2, E2⟩, f2, g2⟩ := ze_gatherDialogs (μ := ν1) (g := zd_has μ s) (D + 1) g1
  have w1 : ∀ j, ν1 (zdW j) = μ (zdW j) := fun j => f1 _ (by unfold zdW; omega)
  have eow : zd_ow ν1 = zd_ow μ := funext fun j => by unfold zd_ow; rw [w1]
  have edl : zd_dl ν1 = zd_dl μ := funext fun j => by unfold zd_dl; rw [eow, w1, w1]
  rw [eow, edl] at g2
  refine ⟨ν, ze_S.trans (p2 := 40) (L2 := [(3, .int (nI 0)), (2, .ref (zdK s + 1)), (0, .ref 1), (1, .int (nI s))]) (s2 := []) (h2 := zm_mk μ) ⟨0, 2, fun F m hF => ?_⟩ (S1.trans ⟨N2, 2, fun F m hF => ?_⟩), fun c hc => (f2 c hc).trans (f1 c hc), g2⟩
  · simp [zg_0, zg_aaload, zg_aload_n, zg_astore_n, zg_bastore, zg_bipush, zg_getfield, zg_goto, zg_iconst, zg_ifCond, zg_if_icmp, zg_iinc, zg_iload, zg_iload_n, zg_invokevirtual, zg_ireturn, zg_istore, zg_istore_n, zf_X5_bringBack, zi_ld, zi_lda, zi_cmp, zi_retOk, zi_isI, zi_f3, zi_cr, zi_ci, zi_cn, zi_get, zi_set, nI_0]
  · simp [zg_0, zg_aaload, zg_aload_n, zg_astore_n, zg_bastore, zg_bipush, zg_getfield, zg_goto, zg_iconst, zg_ifCond, zg_if_icmp, zg_iinc, zg_iload, zg_iload_n, zg_invokevirtual, zg_ireturn, zg_istore, zg_istore_n, zf_X5_bringBack, zi_ld, zi_lda, zi_cmp, zi_retOk, zi_isI, zi_f3, zi_cr, zi_ci, zi_cn, zi_get, zi_set, zq_Desk_gatherDialogs, zd_c, E2 F (by omega)]
set_option maxRecDepth 100000 in
theorem ze_bring_1 (D : Nat) {s : Nat} (hs : s < 3) (hC : ∀ q, q < 3 → zt_C μ (zdT q) (Rs q) (ts q)) (htl : ∀ j, j < 10 → zd_til μ j = true → ∃ q, q < 3 ∧ μ (zdW j) 5 = nI q ∧ j ∈ Rs q) (hdj : ∀ q p j, q < 3 → p < 3 → j ∈ Rs q → j ∈ Rs p → q = p) (hsm : ∀ q, q < 3 → zt_sm μ (zdT q) (Rs q)) (hRt : ∀ q j, q < 3 → j ∈ Rs q → zd_til μ j = true) {L : zi_Lc} (nl : zi_nl L = true) (g0 : zi_get L 0 = some (.ref 1)) (g1 : zi_get L 1 = some (.int (nI s))) (g2 : zi_get L 2 = some (.ref (zdK s + 1))) :
    ∃ ν L' v Rs1 ts1, ze_S (D + 6) 5 (some .int) zc_X5_bringBack 77 L [] (zm_mk μ) 114 L' [] (zm_mk ν) ∧ (zi_nl L' = true ∧ zi_get L' 0 = some (.ref 1) ∧ zi_get L' 1 = some (.int (nI s)) ∧ zi_get L' 2 = some (.ref (zdK s + 1)) ∧ zi_get L' 3 = some (.int v)) ∧ zd_tbk μ ν Rs ts (zd_has μ s) 10 Rs1 ts1 := by
  have h10 : (Int8.ofInt 10).toInt32 = (10 : Int32) := by decide
  have z0 : zi_nl (zi_set (zi_set L 3 (.int 0)) 4 (.int (nI 0))) = true := by simp (maxDischargeDepth := 9) [zi_get_ne, zi_nl_i, zi_nl_r, zi_get_set_eq, nl]
  have z1 : zi_get (zi_set (zi_set L 3 (.int 0)) 4 (.int (nI 0))) 0 = some (.ref 1) := by simp (maxDischargeDepth := 9) [zi_get_ne, zi_nl_i, zi_nl_r, zi_get_set_eq, nl, g0]
  have z2 : zi_get (zi_set (zi_set L 3 (.int 0)) 4 (.int (nI 0))) 1 = some (.int (nI s)) := by simp (maxDischargeDepth := 9) [zi_get_ne, zi_nl_i, zi_nl_r, zi_get_set_eq, nl, g1]
  have z3 : zi_get (zi_set (zi_set L 3 (.int 0)) 4 (.int (nI 0))) 2 = some (.ref (zdK s + 1)) := by simp (maxDischargeDepth := 9) [zi_get_ne, zi_nl_i, zi_nl_r, zi_get_set_eq, nl, g2]
  have z4 : zi_get (zi_set (zi_set L 3 (.int 0)) 4 (.int (nI 0))) 3 = some (.int 0) := by simp (maxDischargeDepth := 9) [zi_get_ne, zi_nl_i, zi_nl_r, zi_get_set_eq, nl]
  have z5 : zi_get (zi_set (zi_set L 3 (.int 0)) 4 (.int (nI 0))) 4 = some (.int (nI 0)) := zi_get_set_eq
  have S0 : ze_S (D + 6) 5 (some .int) zc_X5_bringBack 77 L [] (zm_mk μ) 82 (zi_set (zi_set L 3 (.int 0)) 4 (.int (nI 0))) [] (zm_mk μ) := by
    refine ⟨0, 4, fun F m hF => ?_⟩
    simp (maxDischargeDepth := 9) [zg_0, zg_aaload, zg_aload_n, zg_astore_n, zg_bastore, zg_bipush, zg_getfield, zg_goto, zg_iconst, zg_ifCond, zg_if_icmp, zg_iinc, zg_iload, zg_iload_n, zg_invokevirtual, zg_ireturn, zg_istore, zg_istore_n, zf_X5_bringBack, zi_ld, zi_lda, zi_cmp, zi_retOk, zi_isI, zi_f3, zi_cr, zi_ci, zi_cn, zi_get_ne, zi_nl_i, zi_nl_r, zi_get_set_eq, nl, nI_0]
  generalize zi_set (zi_set L 3 (.int 0)) 4 (.int (nI 0)) = L0 at z0 z1 z2 z3 z4 z5 S0
  have hb0 : zd_tbk μ μ Rs ts (zd_has μ s) 0 Rs ts := by
    refine ⟨⟨fun _ _ _ _ => rfl, rfl, rfl⟩, fun q hq => ⟨hC q hq, fun j => ⟨fun z => ⟨z, fun w => by omega⟩, fun z => z.1⟩, rfl, rfl, fun z => z⟩, fun _ _ _ => rfl, rfl, fun _ _ _ => ⟨rfl, rfl⟩⟩
  have key : ∃ L' h', ze_S (D + 6) 5 (some .int) zc_X5_bringBack 82 L0 [] (zm_mk μ) 114 L' [] h' ∧ (∃ v, (zi_nl L' = true ∧ zi_get L' 0 = some (.ref 1) ∧ zi_get L' 1 = some (.int (nI s)) ∧ zi_get L' 2 = some (.ref (zdK s + 1)) ∧ zi_get L' 3 = some (.int v)) ∧ ∃ ν, zm_mk ν = h' ∧ ∃ Rs1 ts1, zd_tbk μ ν Rs ts (zd_has μ s) 10 Rs1 ts1) := by
    refine ze_loopS (Q := fun i L hp => i ≤ 10 ∧ zi_nl L = true ∧ zi_get L 0 = some (.ref 1) ∧ zi_get L 1 = some (.int (nI s)) ∧ zi_get L 2 = some (.ref (zdK s + 1)) ∧ zi_get L 4 = some (.int (nI i)) ∧ ∃ ξ : zm_M, zm_mk ξ = hp ∧ (∃ Rs1 ts1, zd_tbk μ ξ Rs ts (zd_has μ s) i Rs1 ts1) ∧ ∃ (v : Int32), zi_get L 3 = some (.int v) ∧ (True)) (R := fun L' h' => ∃ v, (zi_nl L' = true ∧ zi_get L' 0 = some (.ref 1) ∧ zi_get L' 1 = some (.int (nI s)) ∧ zi_get L' 2 = some (.ref (zdK s + 1)) ∧ zi_get L' 3 = some (.int v)) ∧ ∃ ν, zm_mk ν = h' ∧ ∃ Rs1 ts1, zd_tbk μ ν Rs ts (zd_has μ s) 10 Rs1 ts1) 10 ?_ ?_ 10 0 _ _ (by omega) ⟨by omega, z0, z1, z2, z3, z5, μ, rfl, ⟨Rs, ts, hb0⟩, 0, z4, trivial⟩
    · rintro i L _ hi ⟨-, nl, g0, g1, g2, g4, ξ, rfl, hZ, v, g3, hq⟩
      obtain ⟨Rs1, ts1, hZ⟩ := hZ
      have c1 : ¬ (10 : Int32) ≤ nI i := nI_ge (b := 10) hi (by decide)
      obtain ⟨N1, E1⟩ := ze_has (μ := ξ) (D + 4) hs hi
      have eh : zd_has ξ s i = zd_has μ s i := by
        unfold zd_has
        rw [hZ.2.2.1 _ (zJn_S hs).2.2.1 (fun q hq => zJn_out hq (Or.inr (Or.inr (Or.inl ⟨s, hs, Or.inr (Or.inr (Or.inl rfl))⟩)))), hZ.2.2.1 _ (zJn_S hs).2.2.2 (fun q hq => zJn_out hq (Or.inr (Or.inr (Or.inl ⟨s, hs, Or.inr (Or.inr (Or.inr (Or.inl rfl)))⟩)))), hZ.2.2.1 _ (zJn_T hs (j := 3) (by decide)).2 (fun q hq => zJn_out hq (Or.inr (Or.inr (Or.inl ⟨s, hs, Or.inr (Or.inr (Or.inr (Or.inr ⟨3, by decide, rfl⟩)))⟩))))]
      rw [eh] at E1
      have ck := zdK_c (μ := ξ) hs
      by_cases c2 : zd_has μ s i = true
      · rw [if_pos c2] at E1
        obtain ⟨ξ', Rs2, ts2, ⟨N2, E2⟩, hZ'⟩ := zd_tbk_s (D + 1) hi hs c2 htl hdj hsm hRt hZ
        refine ⟨zi_set (zi_set L 3 (.int (v + 1))) 4 (.int (nI (i + 1))), zm_mk ξ', ⟨N1 + N2, 14, fun F m hF => ?_⟩, by omega, ?_, ?_, ?_, ?_, zi_get_set_eq, ξ', rfl, ⟨Rs2, ts2, hZ'⟩, v + 1, ?_, trivial⟩
        · simp (maxDischargeDepth := 9) [zg_0, zg_aaload, zg_aload_n, zg_astore_n, zg_bastore, zg_bipush, zg_getfield, zg_goto, zg_iconst, zg_ifCond, zg_if_icmp, zg_iinc, zg_iload, zg_iload_n, zg_invokevirtual, zg_ireturn, zg_istore, zg_istore_n, zf_X5_bringBack, zi_ld, zi_lda, zi_cmp, zi_retOk, zi_isI, zi_f3, zi_cr, zi_ci, zi_cn, zi_get_ne, zi_nl_i, zi_nl_r, zi_get_set_eq, nl, g0, g1, g2, g4, g3, h10, c1, zq_Kept_has, ck, E1 F (by omega), zq_Desk_takeBack, zd_c, E2 F (by omega), nI_1]
        · simp (maxDischargeDepth := 9) [zi_get_ne, zi_nl_i, zi_nl_r, zi_get_set_eq, nl]
        · simp (maxDischargeDepth := 9) [zi_get_ne, zi_nl_i, zi_nl_r, zi_get_set_eq, nl, g0]
        · simp (maxDischargeDepth := 9) [zi_get_ne, zi_nl_i, zi_nl_r, zi_get_set_eq, nl, g1]
        · simp (maxDischargeDepth := 9) [zi_get_ne, zi_nl_i, zi_nl_r, zi_get_set_eq, nl, g2]
        · simp (maxDischargeDepth := 9) [zi_get_ne, zi_nl_i, zi_nl_r, zi_get_set_eq, nl, g3]
      · rw [if_neg c2] at E1
        have N2 : Nat := 0
        have c2' : zd_has μ s i = false := by simpa using c2
        have hZ' : zd_tbk μ ξ Rs ts (zd_has μ s) (i + 1) Rs1 ts1 := by
          obtain ⟨y1, y2, y3, y4, y5⟩ := hZ
          refine ⟨?_, fun q hq => ?_, y3, y4, y5⟩
          · rw [zl_range_f, if_neg (by rw [c2']; simp), List.append_nil]
            exact y1
          · obtain ⟨u1, u2, u3⟩ := y2 q hq
            refine ⟨u1, fun j => ?_, u3⟩
            rw [u2 j]
            constructor
            · rintro ⟨a1, a2⟩
              refine ⟨a1, fun z => ?_⟩
              by_cases ej : j = i
              · rw [ej, c2'] at z
                cases z.2
              · exact a2 ⟨by omega, z.2⟩
            · rintro ⟨a1, a2⟩
              exact ⟨a1, fun z => a2 ⟨by omega, z.2⟩⟩
        refine ⟨zi_set L 4 (.int (nI (i + 1))), zm_mk ξ, ⟨N1 + N2, 9, fun F m hF => ?_⟩, by omega, ?_, ?_, ?_, ?_, zi_get_set_eq, ξ, rfl, ⟨Rs1, ts1, hZ'⟩, v, ?_, trivial⟩
        · simp (maxDischargeDepth := 9) [zg_0, zg_aaload, zg_aload_n, zg_astore_n, zg_bastore, zg_bipush, zg_getfield, zg_goto, zg_iconst, zg_ifCond, zg_if_icmp, zg_iinc, zg_iload, zg_iload_n, zg_invokevirtual, zg_ireturn, zg_istore, zg_istore_n, zf_X5_bringBack, zi_ld, zi_lda, zi_cmp, zi_retOk, zi_isI, zi_f3, zi_cr, zi_ci, zi_cn, zi_get_ne, zi_nl_i, zi_nl_r, zi_get_set_eq, nl, g0, g1, g2, g4, g3, h10, c1, zq_Kept_has, ck, E1 F (by omega), nI_1]
        · simp (maxDischargeDepth := 9) [zi_get_ne, zi_nl_i, zi_nl_r, zi_get_set_eq, nl]
        · simp (maxDischargeDepth := 9) [zi_get_ne, zi_nl_i, zi_nl_r, zi_get_set_eq, nl, g0]
        · simp (maxDischargeDepth := 9) [zi_get_ne, zi_nl_i, zi_nl_r, zi_get_set_eq, nl, g1]
        · simp (maxDischargeDepth := 9) [zi_get_ne, zi_nl_i, zi_nl_r, zi_get_set_eq, nl, g2]
        · simp (maxDischargeDepth := 9) [zi_get_ne, zi_nl_i, zi_nl_r, zi_get_set_eq, nl, g3]
    · rintro L _ ⟨-, nl, g0, g1, g2, g4, ξ, rfl, hZ, v, g3, hq⟩
      have c1 : (10 : Int32) ≤ nI 10 := by decide
      refine ⟨L, zm_mk ξ, ⟨0, 3, fun F m hF => ?_⟩, v, ⟨nl, g0, g1, g2, g3⟩, ξ, rfl, hZ⟩
      simp [zg_0, zg_aaload, zg_aload_n, zg_astore_n, zg_bastore, zg_bipush, zg_getfield, zg_goto, zg_iconst, zg_ifCond, zg_if_icmp, zg_iinc, zg_iload, zg_iload_n, zg_invokevirtual, zg_ireturn, zg_istore, zg_istore_n, zf_X5_bringBack, zi_ld, zi_lda, zi_cmp, zi_retOk, zi_isI, zi_f3, zi_cr, zi_ci, zi_cn, g0, g4, h10, c1]
  obtain ⟨L', h', S1, v, hL, ν, rfl, Rs1, ts1, hZ⟩ := key
  exact ⟨ν, L', v, Rs1, ts1, S0.trans S1, hL, hZ⟩
end ZBS
