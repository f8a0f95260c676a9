section
/-! the reference: close; gone, its pieces -/
/-- what close(k) leaves -/
noncomputable def zv_cls (μ ν : zm_M) (row stk : List Nat) (us : Nat → zy_F) (k : Nat) : Prop :=
  (¬ μ 234 k = 1 ∧ ∃ X, zv_cl μ ν X row stk ∧ zv_gs μ k (fun _ => false) X) ∨ (μ 234 k = 1 ∧ ∃ s m ν2 ab' X, s < 3 ∧ μ 238 k = nI s ∧ zu_at μ s (us s) k m ∧ zu_isOut (zv_fg μ k) s (us s) m k ν2 ab' ∧ zv_cl ν2 ν X row stk ∧ zv_gs ν2 k (fun _ => false) X)
noncomputable def zv_lsc (μ : zm_M) (s : Nat) : Nat → Int32 → Int32
  | 0, x => x
  | j + 1, x => zv_lsc μ s j (if j ≠ s ∧ 0 < μ 232 j then nI j else x)
/-- does the window k of the screen s find room on o? -/
noncomputable def zv_grm (μ : zm_M) (s o k : Nat) : Bool := !zv_on μ k (nI s) || decide (μ 235 k ≤ μ 232 o ∧ μ 236 k ≤ μ 233 o)
/-- the window k is on the screen s -/
noncomputable def zv_ons (μ : zm_M) (s k : Nat) : Bool := decide (0 < μ 234 k ∧ ¬ μ 234 k = 4 ∧ μ 238 k = nI s)
section ZWI
variable {μ : zm_M} {row stk : List Nat} {us : Nat → zy_F}
set_option maxRecDepth 100000 in
theorem ze_Mclose (D : Nat) (h : zR μ row stk us) (w : Int32) : ∃ ν v, ze_E (D + 13) A_Mod_close [.ref 232, .int w] (zm_mk μ) (some (.int v)) (zm_mk ν) ∧ (((∀ k, k < 10 → w = nI k → μ 234 k = 0) ∧ ν = μ) ∨ ∃ k, k < 10 ∧ w = nI k ∧ ¬ μ 234 k = 0 ∧ zv_cls μ ν row stk us k) := by
  have n1 : Int32.ofInt (-1000000001) = -1000000001 := by decide
  obtain ⟨lc, cM⟩ := zM_c (μ := μ)
  rcases zR_win (D + 10) h w with ⟨k, hk, rfl, c0, N1, E1⟩ | ⟨⟨N1, E1⟩, c0⟩
  · obtain ⟨rk, hr⟩ := h.2.2.2.1
    have rb : ∀ x ∈ row, x < 10 := fun x hx => ((h.2.1.2.2 x).mp hx).1
    have sb : ∀ x ∈ stk, x < 10 := fun x hx => ((h.2.2.1.2.2 x).mp hx).1
    have key : ∃ ν a, ze_E (D + 12) A_Mod_closed [.ref 232, .int (nI k)] (zm_mk μ) (some (.int (nI a))) (zm_mk ν) ∧ zv_cls μ ν row stk us k := by
      by_cases c : μ 234 k = 1
      · obtain ⟨q, m, ab, hq, hh, hI, hat⟩ := zR_til h hk c
        obtain ⟨ν2, ν, X, a, ab', E, p1, p2, p3, -⟩ := ze_Mclosed_t (μ := μ) D hr hk hq c hh hI hat h.2.1.1 rb h.2.2.1.1 sb (fun z => by
          have := ((h.2.2.1.2.2 k).mp z).2
          rw [c] at this
          exact absurd this (by decide))
        exact ⟨ν, a, E, Or.inr ⟨c, q, m, ν2, ab', X, hq, hh, hat, p1, p2, p3⟩⟩
      · obtain ⟨ν, X, a, E, p1, p2, -⟩ := ze_Mclosed_f (μ := μ) (D + 1) hr hk c h.2.1.1 rb h.2.2.1.1 sb
        exact ⟨ν, a, E, Or.inl ⟨c, X, p1, p2⟩⟩
    obtain ⟨ν, a, ⟨N2, E2⟩, q⟩ := key
    refine ⟨ν, nI a, ze_in [(0, .ref 232), (1, .int (nI k))] zq_Mod_close (Nat.le_of_ble_eq_true rfl) rfl ⟨N1 + N2, 9, fun F n hF => ?_⟩, Or.inr ⟨k, hk, rfl, c0, q⟩⟩
    simp [zg_0, zg_aload_n, zg_goto, zg_ifCond, zg_iload_n, zg_invokevirtual, zg_ireturn, zg_ldc, zf_X6_close, zi_ld, zi_lda, zi_cmp, zi_retOk, zi_isI, zi_f3, zi_cr, zi_ci, zi_cn, zi_get, zi_set, cM, zq_Mod_isWindow, zq_Mod_closed, E1 F (by omega), E2 F (by omega)]
  · refine ⟨μ, -1000000001, ze_in [(0, .ref 232), (1, .int w)] zq_Mod_close (Nat.le_of_ble_eq_true rfl) rfl ⟨N1, 6, fun F n hF => ?_⟩, Or.inl ⟨c0, rfl⟩⟩
    simp [zg_0, zg_aload_n, zg_goto, zg_ifCond, zg_iload_n, zg_invokevirtual, zg_ireturn, zg_ldc, zf_X6_close, zi_ld, zi_lda, zi_cmp, zi_retOk, zi_isI, zi_f3, zi_cr, zi_ci, zi_cn, zi_get, zi_set, cM, zq_Mod_isWindow, E1 F (by omega), n1]
theorem zv_lsc_fi {s : Nat} (hs : s < 3) : zv_lsc μ s 3 (-1) = zl_fi (fun k => decide (¬ nI k = nI s ∧ 0 < μ 232 k)) (-1) 3 0 := by
  have e : ∀ k, k < 3 → (decide (¬ nI k = nI s ∧ 0 < μ 232 k)) = decide (k ≠ s ∧ 0 < μ 232 k) := fun k hk => by
    have : (¬ nI k = nI s) ↔ k ≠ s := not_congr (nI_eq (by omega) (by omega))
    simp only [this]
  have e0 := e 0 (by decide)
  have e1 := e 1 (by decide)
  have e2 := e 2 (by decide)
  simp only [zv_lsc, zl_fi, Nat.zero_add, e0, e1, Nat.reduceAdd, e2]
  by_cases a0 : 0 ≠ s ∧ 0 < μ 232 0
  · simp only [decide_eq_true a0, if_pos a0, if_true]
  · by_cases a1 : 1 ≠ s ∧ 0 < μ 232 1
    · simp only [decide_eq_false a0, decide_eq_true a1, if_neg a0, if_pos a1, if_true]
      simp
    · by_cases a2 : 2 ≠ s ∧ 0 < μ 232 2
      · simp only [decide_eq_false a0, decide_eq_false a1, decide_eq_true a2, if_neg a0, if_neg a1, if_pos a2, if_true]
        simp
      · simp only [decide_eq_false a0, decide_eq_false a1, decide_eq_false a2, if_neg a0, if_neg a1, if_neg a2]
        simp
set_option maxRecDepth 100000 in
theorem zv_gnA (D : Nat) {s : Nat} (hs : s < 3) : ∀ (j : Nat), j ≤ 3 → ∀ (L : zi_Lc) (x : Int32), zi_nl L = true → zi_get L 0 = some (.ref 232) → zi_get L 1 = some (.int (nI s)) → zi_get L 2 = some (.int x) → zi_get L 3 = some (.int (zv_dn j)) →
    ∃ L', ze_S D 7 (some .int) zc_X6_gone 16 L [] (zm_mk μ) 46 L' [] (zm_mk μ) ∧ zi_nl L' = true ∧ zi_get L' 0 = some (.ref 232) ∧ zi_get L' 1 = some (.int (nI s)) ∧ zi_get L' 2 = some (.int (zv_lsc μ s j x)) := by
  have om : Int32.ofInt (-1) = -1 := by decide
  intro j
  induction j with
  | zero =>
    intro hj L x nl g0 g1 g2 g3
    have c1 : zv_dn 0 < 0 := by decide
    refine ⟨L, ⟨0, 2, fun F m hF => ?_⟩, nl, g0, g1, g2⟩
    simp (maxDischargeDepth := 9) [zg_0, zg_aload_n, zg_bastore, zg_bipush, zg_getfield, zg_goto, zg_iadd, zg_iaload, zg_iastore, zg_iconst, zg_ifCond, zg_if_icmp, zg_iinc, zg_iload, zg_iload_n, zg_imul, zg_invokestatic, zg_invokevirtual, zg_ireturn, zg_istore, zg_istore_n, zg_ldc, zf_X6_gone, zi_ld, zi_lda, zi_cmp, zi_retOk, zi_isI, zi_f3, zi_cr, zi_ci, zi_cn, zi_get_ne, zi_nl_i, zi_nl_r, zi_get_set_eq, nl, g0, g1, g2, g3, c1]
  | succ j ih =>
    intro hj L x nl g0 g1 g2 g3
    have g3 : zi_get L 3 = some (.int (nI j)) := g3
    have c1 : ¬ nI j < 0 := nI_pos (by omega)
    have ij : zi_in (nI j) 3 = true := zm_in (by omega) (by decide)
    have cj : (nI j).toNatClampNeg = j := nI_clamp (by omega)
    have hd : nI j + -1 = zv_dn j := zv_dn_s (by omega)
    have fin : ∀ y, (∃ k, ∀ F n, zi_go zi_ms none 7 (some .int) zc_X6_gone 0 0 (zi_run zi_ms F D) (n + k) 16 L [] (zm_mk μ) [] 0 0 = zi_go zi_ms none 7 (some .int) zc_X6_gone 0 0 (zi_run zi_ms F D) n 16 (zi_set (zi_set L 2 (.int y)) 3 (.int (zv_dn j))) [] (zm_mk μ) [] 0 0) → y = (if j ≠ s ∧ 0 < μ 232 j then nI j else x) → ∃ L', ze_S D 7 (some .int) zc_X6_gone 16 L [] (zm_mk μ) 46 L' [] (zm_mk μ) ∧ zi_nl L' = true ∧ zi_get L' 0 = some (.ref 232) ∧ zi_get L' 1 = some (.int (nI s)) ∧ zi_get L' 2 = some (.int (zv_lsc μ s (j + 1) x)) := fun y ⟨k, E⟩ e => by
      obtain ⟨L', S, p⟩ := ih (by omega) (zi_set (zi_set L 2 (.int y)) 3 (.int (zv_dn j))) y (by simp (maxDischargeDepth := 9) [zi_get_ne, zi_nl_i, zi_nl_r, zi_get_set_eq, nl]) (by simp (maxDischargeDepth := 9) [zi_get_ne, zi_nl_i, zi_nl_r, zi_get_set_eq, nl, g0]) (by simp (maxDischargeDepth := 9) [zi_get_ne, zi_nl_i, zi_nl_r, zi_get_set_eq, nl, g1]) (by simp (maxDischargeDepth := 9) [zi_get_ne, zi_nl_i, zi_nl_r, zi_get_set_eq, nl]) zi_get_set_eq
      refine ⟨L', ze_S.trans ⟨0, k, fun F n _ => E F n⟩ S, ?_⟩
      rw [e] at p
      exact p
    by_cases c2 : j = s
    · have c2' : nI j = nI s := by rw [c2]
      have c1s : ¬ nI s < 0 := nI_pos (by omega)
      have hds : nI s + -1 = zv_dn j := by rw [← c2]; exact hd
      refine fin x ⟨9, fun F n => ?_⟩ (by rw [if_neg (fun z => z.1 c2)])
      simp (maxDischargeDepth := 9) [zg_0, zg_aload_n, zg_bastore, zg_bipush, zg_getfield, zg_goto, zg_iadd, zg_iaload, zg_iastore, zg_iconst, zg_ifCond, zg_if_icmp, zg_iinc, zg_iload, zg_iload_n, zg_imul, zg_invokestatic, zg_invokevirtual, zg_ireturn, zg_istore, zg_istore_n, zg_ldc, zf_X6_gone, zi_ld, zi_lda, zi_cmp, zi_retOk, zi_isI, zi_f3, zi_cr, zi_ci, zi_cn, zi_get_ne, zi_nl_i, zi_nl_r, zi_get_set_eq, nl, g0, g1, g2, g3, c1s, c2', om, hds]
    · have c2' : ¬ nI j = nI s := fun e => c2 ((nI_eq (by omega) (by omega)).mp e)
      by_cases c3 : μ 232 j ≤ 0
      · refine fin x ⟨14, fun F n => ?_⟩ (by rw [if_neg (fun z => Int32.not_lt.mpr c3 z.2)])
        simp (maxDischargeDepth := 9) [zg_0, zg_aload_n, zg_bastore, zg_bipush, zg_getfield, zg_goto, zg_iadd, zg_iaload, zg_iastore, zg_iconst, zg_ifCond, zg_if_icmp, zg_iinc, zg_iload, zg_iload_n, zg_imul, zg_invokestatic, zg_invokevirtual, zg_ireturn, zg_istore, zg_istore_n, zg_ldc, zf_X6_gone, zi_ld, zi_lda, zi_cmp, zi_retOk, zi_isI, zi_f3, zi_cr, zi_ci, zi_cn, zi_get_ne, zi_nl_i, zi_nl_r, zi_get_set_eq, nl, g0, g1, g2, g3, c1, c2', zM_g, zm_iald (k := 0) zM_A232 ij, cj, c3, om, hd]
      · refine fin (nI j) ⟨15, fun F n => ?_⟩ (by rw [if_pos ⟨c2, Int32.not_le.mp c3⟩])
        simp (maxDischargeDepth := 9) [zg_0, zg_aload_n, zg_bastore, zg_bipush, zg_getfield, zg_goto, zg_iadd, zg_iaload, zg_iastore, zg_iconst, zg_ifCond, zg_if_icmp, zg_iinc, zg_iload, zg_iload_n, zg_imul, zg_invokestatic, zg_invokevirtual, zg_ireturn, zg_istore, zg_istore_n, zg_ldc, zf_X6_gone, zi_ld, zi_lda, zi_cmp, zi_retOk, zi_isI, zi_f3, zi_cr, zi_ci, zi_cn, zi_get_ne, zi_nl_i, zi_nl_r, zi_get_set_eq, nl, g0, g1, g2, g3, c1, c2', zM_g, zm_iald (k := 0) zM_A232 ij, cj, c3, om, hd]
set_option maxRecDepth 100000 in
theorem zv_gnB (D : Nat) {s o : Nat} (hs : s < 3) (ho : o < 3) (b0 : Bool) (n0 : Nat) (L0 : zi_Lc) (nl0 : zi_nl L0 = true) (a0 : zi_get L0 0 = some (.ref 232)) (a1 : zi_get L0 1 = some (.int (nI s))) (a2 : zi_get L0 2 = some (.int (nI o))) (a3 : zi_get L0 3 = some (.int (nI n0))) (a4 : zi_get L0 4 = some (.int (if b0 = true then 1 else 0))) (a5 : zi_get L0 5 = some (.int (nI 0))) :
    ∃ L' h', ze_S (D + 1) 7 (some .int) zc_X6_gone 100 L0 [] (zm_mk μ) 174 L' [] h' ∧ (zi_nl L' = true ∧ zi_get L' 0 = some (.ref 232) ∧ zi_get L' 1 = some (.int (nI s)) ∧ zi_get L' 2 = some (.int (nI o)) ∧ zi_get L' 3 = some (.int (nI (n0 + zl_ct (fun k => zv_on μ k (nI s)) 10))) ∧ zi_get L' 4 = some (.int (if zv_gd (zv_grm μ s o) b0 10 = true then 1 else 0)) ∧ zm_mk μ = h') := by
  have h10 : (Int8.ofInt 10).toInt32 = (10 : Int32) := by decide
  have is : zi_in (nI o) 3 = true := zm_in ho (by decide)
  have cs : (nI o).toNatClampNeg = o := nI_clamp (by omega)
  have n1 : ¬ (1 : Int32) = 0 := by decide
  obtain ⟨lc, cM⟩ := zM_c (μ := μ)
  refine ze_loopS (Q := fun i L hp => i ≤ 10 ∧ zi_nl L = true ∧ zi_get L 0 = some (.ref 232) ∧ zi_get L 1 = some (.int (nI s)) ∧ zi_get L 2 = some (.int (nI o)) ∧ zi_get L 5 = some (.int (nI i)) ∧ zm_mk μ = hp ∧ ∃ (b : Bool) (z : Nat), zi_get L 4 = some (.int (if b = true then 1 else 0)) ∧ zi_get L 3 = some (.int (nI z)) ∧ (b = zv_gd (zv_grm μ s o) b0 i ∧ z = n0 + zl_ct (fun k => zv_on μ k (nI s)) i)) (R := fun L' h' => zi_nl L' = true ∧ zi_get L' 0 = some (.ref 232) ∧ zi_get L' 1 = some (.int (nI s)) ∧ zi_get L' 2 = some (.int (nI o)) ∧ zi_get L' 3 = some (.int (nI (n0 + zl_ct (fun k => zv_on μ k (nI s)) 10))) ∧ zi_get L' 4 = some (.int (if zv_gd (zv_grm μ s o) b0 10 = true then 1 else 0)) ∧ zm_mk μ = h') 10 ?_ ?_ 10 0 _ _ (by omega) ⟨by omega, nl0, a0, a1, a2, a5, rfl, b0, n0, a4, a3, rfl, rfl⟩
  · rintro i L _ hi ⟨-, nl, g0, g1, g2, g5, rfl, b, z, g4, g3, hq⟩
    obtain ⟨hq1, hq2⟩ := hq
    have c1 : ¬ (10 : Int32) ≤ nI i := nI_ge (b := 10) hi (by decide)
    have ik : zi_in (nI i) 10 = true := zm_in hi (by decide)
    have ck : (nI i).toNatClampNeg = i := nI_clamp (by omega)
    obtain ⟨N1, E1⟩ := ze_McanBeWhole (μ := μ) D hi (μ 232 o) (μ 233 o)
    obtain ⟨N2, E2⟩ := ze_MisOnScreen (μ := μ) D hi (nI s)
    have hs1 : zv_gd (zv_grm μ s o) b0 (i + 1) = (b && zv_grm μ s o i) := by rw [hq1]; rfl
    have hz1 : n0 + zl_ct (fun k => zv_on μ k (nI s)) (i + 1) = z + if zv_on μ i (nI s) = true then 1 else 0 := by rw [hq2]; exact (Nat.add_assoc _ _ _).symm
    have hr : zv_grm μ s o i = (!zv_on μ i (nI s) || decide (μ 235 i ≤ μ 232 o ∧ μ 236 i ≤ μ 233 o)) := rfl
    rw [hr] at hs1
    by_cases c2 : zv_on μ i (nI s) = true
    · rw [if_pos c2] at E2 hz1
      rw [c2] at hs1
      cases b with
      | false =>
        have g4 : zi_get L 4 = some (.int 0) := g4
        refine ⟨zi_set (zi_set (zi_set L 4 (.int 0)) 3 (.int (nI (z + 1)))) 5 (.int (nI (i + 1))), zm_mk μ, ⟨N1 + N2, 19, fun F m hF => ?_⟩, by omega, ?_, ?_, ?_, ?_, zi_get_set_eq, rfl, false, z + 1, ?_, ?_, ⟨hs1.symm, hz1.symm⟩⟩
        · simp (maxDischargeDepth := 9) [zg_0, zg_aload_n, zg_bastore, zg_bipush, zg_getfield, zg_goto, zg_iadd, zg_iaload, zg_iastore, zg_iconst, zg_ifCond, zg_if_icmp, zg_iinc, zg_iload, zg_iload_n, zg_imul, zg_invokestatic, zg_invokevirtual, zg_ireturn, zg_istore, zg_istore_n, zg_ldc, zf_X6_gone, zi_ld, zi_lda, zi_cmp, zi_retOk, zi_isI, zi_f3, zi_cr, zi_ci, zi_cn, zi_get_ne, zi_nl_i, zi_nl_r, zi_get_set_eq, nl, g0, g1, g2, g5, g4, g3, h10, c1, cM, zq_Mod_isOnScreen, E2 F (by omega), nI_1]
        · simp (maxDischargeDepth := 9) [zi_get_ne, zi_nl_i, zi_nl_r, zi_get_set_eq, nl]
        · simp (maxDischargeDepth := 9) [zi_get_ne, zi_nl_i, zi_nl_r, zi_get_set_eq, nl, g0]
        · simp (maxDischargeDepth := 9) [zi_get_ne, zi_nl_i, zi_nl_r, zi_get_set_eq, nl, g1]
        · simp (maxDischargeDepth := 9) [zi_get_ne, zi_nl_i, zi_nl_r, zi_get_set_eq, nl, g2]
        · simp (maxDischargeDepth := 9) [zi_get_ne, zi_nl_i, zi_nl_r, zi_get_set_eq, nl, g4]
        · simp (maxDischargeDepth := 9) [zi_get_ne, zi_nl_i, zi_nl_r, zi_get_set_eq, nl, g3]
      | true =>
        have g4 : zi_get L 4 = some (.int 1) := g4
        by_cases c4 : μ 235 i ≤ μ 232 o ∧ μ 236 i ≤ μ 233 o
        · rw [if_pos c4] at E1
          refine ⟨zi_set (zi_set (zi_set L 4 (.int 1)) 3 (.int (nI (z + 1)))) 5 (.int (nI (i + 1))), zm_mk μ, ⟨N1 + N2, 37, fun F m hF => ?_⟩, by omega, ?_, ?_, ?_, ?_, zi_get_set_eq, rfl, true, z + 1, ?_, ?_, ⟨by rw [hs1, decide_eq_true c4]; rfl, hz1.symm⟩⟩
          · simp (maxDischargeDepth := 9) [zg_0, zg_aload_n, zg_bastore, zg_bipush, zg_getfield, zg_goto, zg_iadd, zg_iaload, zg_iastore, zg_iconst, zg_ifCond, zg_if_icmp, zg_iinc, zg_iload, zg_iload_n, zg_imul, zg_invokestatic, zg_invokevirtual, zg_ireturn, zg_istore, zg_istore_n, zg_ldc, zf_X6_gone, zi_ld, zi_lda, zi_cmp, zi_retOk, zi_isI, zi_f3, zi_cr, zi_ci, zi_cn, zi_get_ne, zi_nl_i, zi_nl_r, zi_get_set_eq, nl, g0, g1, g2, g5, g4, g3, h10, c1, n1, zM_g, zm_iald (k := 0) zM_A232 is, zm_iald (k := 0) zM_A233 is, cs, cM, zq_Mod_isOnScreen, zq_Mod_canBeWhole, E1 F (by omega), E2 F (by omega), nI_1]
          · simp (maxDischargeDepth := 9) [zi_get_ne, zi_nl_i, zi_nl_r, zi_get_set_eq, nl]
          · simp (maxDischargeDepth := 9) [zi_get_ne, zi_nl_i, zi_nl_r, zi_get_set_eq, nl, g0]
          · simp (maxDischargeDepth := 9) [zi_get_ne, zi_nl_i, zi_nl_r, zi_get_set_eq, nl, g1]
          · simp (maxDischargeDepth := 9) [zi_get_ne, zi_nl_i, zi_nl_r, zi_get_set_eq, nl, g2]
          · simp (maxDischargeDepth := 9) [zi_get_ne, zi_nl_i, zi_nl_r, zi_get_set_eq, nl, g4]
          · simp (maxDischargeDepth := 9) [zi_get_ne, zi_nl_i, zi_nl_r, zi_get_set_eq, nl, g3]
        · rw [if_neg c4] at E1
          refine ⟨zi_set (zi_set (zi_set L 4 (.int 0)) 3 (.int (nI (z + 1)))) 5 (.int (nI (i + 1))), zm_mk μ, ⟨N1 + N2, 36, fun F m hF => ?_⟩, by omega, ?_, ?_, ?_, ?_, zi_get_set_eq, rfl, false, z + 1, ?_, ?_, ⟨by rw [hs1, decide_eq_false c4]; rfl, hz1.symm⟩⟩
          · simp (maxDischargeDepth := 9) [zg_0, zg_aload_n, zg_bastore, zg_bipush, zg_getfield, zg_goto, zg_iadd, zg_iaload, zg_iastore, zg_iconst, zg_ifCond, zg_if_icmp, zg_iinc, zg_iload, zg_iload_n, zg_imul, zg_invokestatic, zg_invokevirtual, zg_ireturn, zg_istore, zg_istore_n, zg_ldc, zf_X6_gone, zi_ld, zi_lda, zi_cmp, zi_retOk, zi_isI, zi_f3, zi_cr, zi_ci, zi_cn, zi_get_ne, zi_nl_i, zi_nl_r, zi_get_set_eq, nl, g0, g1, g2, g5, g4, g3, h10, c1, n1, zM_g, zm_iald (k := 0) zM_A232 is, zm_iald (k := 0) zM_A233 is, cs, cM, zq_Mod_isOnScreen, zq_Mod_canBeWhole, E1 F (by omega), E2 F (by omega), nI_1]
          · simp (maxDischargeDepth := 9) [zi_get_ne, zi_nl_i, zi_nl_r, zi_get_set_eq, nl]
          · simp (maxDischargeDepth := 9) [zi_get_ne, zi_nl_i, zi_nl_r, zi_get_set_eq, nl, g0]
          · simp (maxDischargeDepth := 9) [zi_get_ne, zi_nl_i, zi_nl_r, zi_get_set_eq, nl, g1]
          · simp (maxDischargeDepth := 9) [zi_get_ne, zi_nl_i, zi_nl_r, zi_get_set_eq, nl, g2]
          · simp (maxDischargeDepth := 9) [zi_get_ne, zi_nl_i, zi_nl_r, zi_get_set_eq, nl, g4]
          · simp (maxDischargeDepth := 9) [zi_get_ne, zi_nl_i, zi_nl_r, zi_get_set_eq, nl, g3]
    · rw [if_neg c2] at E2 hz1
      have c2' : zv_on μ i (nI s) = false := by simpa using c2
      rw [c2'] at hs1
      cases b with
      | false =>
        have g4 : zi_get L 4 = some (.int 0) := g4
        refine ⟨zi_set (zi_set (zi_set L 4 (.int 0)) 3 (.int (nI z))) 5 (.int (nI (i + 1))), zm_mk μ, ⟨N1 + N2, 18, fun F m hF => ?_⟩, by omega, ?_, ?_, ?_, ?_, zi_get_set_eq, rfl, false, z, ?_, ?_, ⟨hs1.symm, hz1.symm⟩⟩
        · simp (maxDischargeDepth := 9) [zg_0, zg_aload_n, zg_bastore, zg_bipush, zg_getfield, zg_goto, zg_iadd, zg_iaload, zg_iastore, zg_iconst, zg_ifCond, zg_if_icmp, zg_iinc, zg_iload, zg_iload_n, zg_imul, zg_invokestatic, zg_invokevirtual, zg_ireturn, zg_istore, zg_istore_n, zg_ldc, zf_X6_gone, zi_ld, zi_lda, zi_cmp, zi_retOk, zi_isI, zi_f3, zi_cr, zi_ci, zi_cn, zi_get_ne, zi_nl_i, zi_nl_r, zi_get_set_eq, nl, g0, g1, g2, g5, g4, g3, h10, c1, cM, zq_Mod_isOnScreen, E2 F (by omega), nI_1]
        · simp (maxDischargeDepth := 9) [zi_get_ne, zi_nl_i, zi_nl_r, zi_get_set_eq, nl]
        · simp (maxDischargeDepth := 9) [zi_get_ne, zi_nl_i, zi_nl_r, zi_get_set_eq, nl, g0]
        · simp (maxDischargeDepth := 9) [zi_get_ne, zi_nl_i, zi_nl_r, zi_get_set_eq, nl, g1]
        · simp (maxDischargeDepth := 9) [zi_get_ne, zi_nl_i, zi_nl_r, zi_get_set_eq, nl, g2]
        · simp (maxDischargeDepth := 9) [zi_get_ne, zi_nl_i, zi_nl_r, zi_get_set_eq, nl, g4]
        · simp (maxDischargeDepth := 9) [zi_get_ne, zi_nl_i, zi_nl_r, zi_get_set_eq, nl, g3]
      | true =>
        have g4 : zi_get L 4 = some (.int 1) := g4
        refine ⟨zi_set (zi_set (zi_set L 4 (.int 1)) 3 (.int (nI z))) 5 (.int (nI (i + 1))), zm_mk μ, ⟨N1 + N2, 24, fun F m hF => ?_⟩, by omega, ?_, ?_, ?_, ?_, zi_get_set_eq, rfl, true, z, ?_, ?_, ⟨by rw [hs1]; rfl, hz1.symm⟩⟩
        · simp (maxDischargeDepth := 9) [zg_0, zg_aload_n, zg_bastore, zg_bipush, zg_getfield, zg_goto, zg_iadd, zg_iaload, zg_iastore, zg_iconst, zg_ifCond, zg_if_icmp, zg_iinc, zg_iload, zg_iload_n, zg_imul, zg_invokestatic, zg_invokevirtual, zg_ireturn, zg_istore, zg_istore_n, zg_ldc, zf_X6_gone, zi_ld, zi_lda, zi_cmp, zi_retOk, zi_isI, zi_f3, zi_cr, zi_ci, zi_cn, zi_get_ne, zi_nl_i, zi_nl_r, zi_get_set_eq, nl, g0, g1, g2, g5, g4, g3, h10, c1, n1, cM, zq_Mod_isOnScreen, E2 F (by omega), nI_1]
        · simp (maxDischargeDepth := 9) [zi_get_ne, zi_nl_i, zi_nl_r, zi_get_set_eq, nl]
        · simp (maxDischargeDepth := 9) [zi_get_ne, zi_nl_i, zi_nl_r, zi_get_set_eq, nl, g0]
        · simp (maxDischargeDepth := 9) [zi_get_ne, zi_nl_i, zi_nl_r, zi_get_set_eq, nl, g1]
        · simp (maxDischargeDepth := 9) [zi_get_ne, zi_nl_i, zi_nl_r, zi_get_set_eq, nl, g2]
        · simp (maxDischargeDepth := 9) [zi_get_ne, zi_nl_i, zi_nl_r, zi_get_set_eq, nl, g4]
        · simp (maxDischargeDepth := 9) [zi_get_ne, zi_nl_i, zi_nl_r, zi_get_set_eq, nl, g3]
  · rintro L _ ⟨-, nl, g0, g1, g2, g5, rfl, b, z, g4, g3, hq⟩
    obtain ⟨hq1, hq2⟩ := hq
    subst hq1
    subst hq2
    have c1 : (10 : Int32) ≤ nI 10 := by decide
    refine ⟨L, zm_mk μ, ⟨0, 3, fun F m hF => ?_⟩, nl, g0, g1, g2, g3, g4, rfl⟩
    simp (maxDischargeDepth := 9) [zg_0, zg_aload_n, zg_bastore, zg_bipush, zg_getfield, zg_goto, zg_iadd, zg_iaload, zg_iastore, zg_iconst, zg_ifCond, zg_if_icmp, zg_iinc, zg_iload, zg_iload_n, zg_imul, zg_invokestatic, zg_invokevirtual, zg_ireturn, zg_istore, zg_istore_n, zg_ldc, zf_X6_gone, zi_ld, zi_lda, zi_cmp, zi_retOk, zi_isI, zi_f3, zi_cr, zi_ci, zi_cn, zi_get_ne, zi_nl_i, zi_nl_r, zi_get_set_eq, nl, g0, g1, g2, g5, h10, c1]
end ZWI
end
section
/-! the reference: gone, what was on the screen is kept and goes -/
/-- the windows below i have gone to o -/
noncomputable def zv_gw (μ ξ : zm_M) (s o i : Nat) : Prop :=
  (∀ k, k < i → ξ 252 (10 * s + k) = if zv_ons μ s k = true then 1 else 0) ∧ (∀ k, k < 10 → ξ 238 k = if decide (k < i) = true ∧ zv_ons μ s k = true then nI o else μ 238 k) ∧
  ∀ c d, c ≠ 238 → c ≠ 239 → c ≠ 240 → c ≠ 253 → c ≠ 254 → ¬ (c = 252 ∧ 10 * s ≤ d ∧ d < 10 * s + 10) → ξ c d = μ c d
section ZWJ
variable {μ ξ ν : zm_M} {row stk : List Nat} {us : Nat → zy_F}
theorem zv_gw_s {s o i : Nat} (hi : i < 10) (h : zv_gw μ ξ s o i) (e1 : ν 252 (10 * s + i) = if zv_ons μ s i = true then 1 else 0) (e2 : ν 238 i = if zv_ons μ s i = true then nI o else ξ 238 i) (e3 : ∀ c d, c ≠ 239 → c ≠ 240 → c ≠ 253 → c ≠ 254 → ¬ (c = 252 ∧ d = 10 * s + i) → ¬ (c = 238 ∧ d = i) → ν c d = ξ c d) : zv_gw μ ν s o (i + 1) := by
  obtain ⟨h1, h2, h3⟩ := h
  refine ⟨fun k hk => ?_, fun k hk => ?_, fun c d a1 a2 a3 a4 a5 a6 => ?_⟩
  · by_cases e : k = i
    · rw [e]; exact e1
    · rw [e3 _ _ (by decide) (by decide) (by decide) (by decide) (by omega) (by omega)]
      exact h1 k (by omega)
  · by_cases e : k = i
    · rw [e, e2, h2 i hi]
      by_cases c : zv_ons μ s i = true
      · rw [if_pos c, if_pos ⟨by simp, c⟩]
      · rw [if_neg c, if_neg (fun z => c z.2), if_neg (fun z => c z.2)]
    · rw [e3 _ _ (by decide) (by decide) (by decide) (by decide) (by omega) (by omega), h2 k hk]
      have : decide (k < i + 1) = decide (k < i) := by
        rw [decide_eq_decide]
        omega
      rw [this]
  · rw [e3 c d a2 a3 a4 a5 (by omega) (fun z => a1 z.1)]
    exact h3 c d a1 a2 a3 a4 a5 a6
set_option maxRecDepth 100000 in
/-- 215 to 306: is it on the screen; what is kept of it -/
theorem zv_gnS (D : Nat) {s k : Nat} (hs : s < 3) (hk : k < 10) (hkd : μ 234 k = 0 ∨ μ 234 k = 1 ∨ μ 234 k = 2 ∨ μ 234 k = 3 ∨ μ 234 k = 4) (L : zi_Lc) (nl : zi_nl L = true) (g0 : zi_get L 0 = some (.ref 232)) (g1 : zi_get L 1 = some (.int (nI s))) (g5 : zi_get L 5 = some (.int (nI k))) :
    ∃ ν, ze_S D 7 (some .int) zc_X6_gone 215 L [] (zm_mk μ) 306 (zi_set L 6 (.int (if zv_ons μ s k = true then 1 else 0))) [] (zm_mk ν) ∧ ν 252 (10 * s + k) = (if zv_ons μ s k = true then 1 else 0) ∧ ∀ c d, c ≠ 253 → c ≠ 254 → ¬ (c = 252 ∧ d = 10 * s + k) → ν c d = μ c d := by
  have h10 : (Int8.ofInt 10).toInt32 = (10 : Int32) := by decide
  have ik : zi_in (nI k) 10 = true := zm_in hk (by decide)
  have ck : (nI k).toNatClampNeg = k := nI_clamp (by omega)
  have mk : (10 : Int32) * nI s = nI (10 * s) := nI_mul10 (by omega)
  have ij : zi_in (nI (10 * s + k)) 30 = true := zm_in (by omega) (by decide)
  have cj : (nI (10 * s + k)).toNatClampNeg = 10 * s + k := nI_clamp (by omega)
  have key : ∀ b : Int32, (b = 0 ∨ b = 1) → ∃ ν, ze_S D 7 (some .int) zc_X6_gone 252 L [.int b] (zm_mk μ) 306 (zi_set L 6 (.int b)) [] (zm_mk ν) ∧ ν 252 (10 * s + k) = b ∧ ∀ c d, c ≠ 253 → c ≠ 254 → ¬ (c = 252 ∧ d = 10 * s + k) → ν c d = μ c d := fun b hb => by
    have v1 : zm_up μ 252 (10 * s + k) b 239 k = μ 239 k := zm_up_ne (by omega)
    have v2 : zm_up (zm_up μ 252 (10 * s + k) b) 253 (10 * s + k) (μ 239 k) 240 k = μ 240 k := by rw [zm_up_ne (by omega), zm_up_ne (by omega)]
    refine ⟨zm_up (zm_up (zm_up μ 252 (10 * s + k) b) 253 (10 * s + k) (μ 239 k)) 254 (10 * s + k) (μ 240 k), ⟨0, 34, fun F m hF => ?_⟩, by rw [zm_up_ne (by omega), zm_up_ne (by omega), zm_up_eq], fun c d a b c => by rw [zm_up_ne (by omega), zm_up_ne (by omega), zm_up_ne (by omega)]⟩
    simp (maxDischargeDepth := 9) [zg_0, zg_aload_n, zg_bastore, zg_bipush, zg_getfield, zg_goto, zg_iadd, zg_iaload, zg_iastore, zg_iconst, zg_ifCond, zg_if_icmp, zg_iinc, zg_iload, zg_iload_n, zg_imul, zg_invokestatic, zg_invokevirtual, zg_ireturn, zg_istore, zg_istore_n, zg_ldc, zf_X6_gone, zi_ld, zi_lda, zi_cmp, zi_retOk, zi_isI, zi_f3, zi_cr, zi_ci, zi_cn, zi_get_ne, zi_nl_i, zi_nl_r, zi_get_set_eq, nl, g0, g1, g5, h10, zM_g, mk, nI_add, zm_bast zM_A252 ij hb, zm_iast zM_A253 ij, zm_iast zM_A254 ij, cj, zm_iald (k := 0) zM_A239 ik, zm_iald (k := 0) zM_A240 ik, ck, v1, v2]
  by_cases c0 : μ 234 k = 0
  · have e : zv_ons μ s k = false := decide_eq_false (fun z => by rw [c0] at z; exact absurd z.1 (by decide))
    have c0' : μ 234 k ≤ 0 := by rw [c0]; decide
    obtain ⟨ν, S, q⟩ := key 0 (Or.inl rfl)
    rw [e]
    refine ⟨ν, ze_S.trans ⟨0, 6, fun F m hF => ?_⟩ S, q⟩
    simp (maxDischargeDepth := 9) [zg_0, zg_aload_n, zg_bastore, zg_bipush, zg_getfield, zg_goto, zg_iadd, zg_iaload, zg_iastore, zg_iconst, zg_ifCond, zg_if_icmp, zg_iinc, zg_iload, zg_iload_n, zg_imul, zg_invokestatic, zg_invokevirtual, zg_ireturn, zg_istore, zg_istore_n, zg_ldc, zf_X6_gone, zi_ld, zi_lda, zi_cmp, zi_retOk, zi_isI, zi_f3, zi_cr, zi_ci, zi_cn, zi_get_ne, zi_nl_i, zi_nl_r, zi_get_set_eq, nl, g0, g1, g5, zM_g, zm_iald (k := 0) zM_A234 ik, ck, c0']
  · have c0p : 0 < μ 234 k := by
      rcases hkd with e | e | e | e | e
      · exact absurd e c0
      all_goals rw [e]; decide
    have c0' : ¬ μ 234 k ≤ 0 := Int32.not_le.mpr c0p
    by_cases c4 : μ 234 k = 4
    · have e : zv_ons μ s k = false := decide_eq_false (fun z => z.2.1 c4)
      have c9 : ¬ (4 : Int32) ≤ 0 := by decide
      obtain ⟨ν, S, q⟩ := key 0 (Or.inl rfl)
      rw [e]
      refine ⟨ν, ze_S.trans ⟨0, 12, fun F m hF => ?_⟩ S, q⟩
      simp (maxDischargeDepth := 9) [zg_0, zg_aload_n, zg_bastore, zg_bipush, zg_getfield, zg_goto, zg_iadd, zg_iaload, zg_iastore, zg_iconst, zg_ifCond, zg_if_icmp, zg_iinc, zg_iload, zg_iload_n, zg_imul, zg_invokestatic, zg_invokevirtual, zg_ireturn, zg_istore, zg_istore_n, zg_ldc, zf_X6_gone, zi_ld, zi_lda, zi_cmp, zi_retOk, zi_isI, zi_f3, zi_cr, zi_ci, zi_cn, zi_get_ne, zi_nl_i, zi_nl_r, zi_get_set_eq, nl, g0, g1, g5, zM_g, zm_iald (k := 0) zM_A234 ik, ck, c4, c9]
    · by_cases c8 : μ 238 k = nI s
      · have e : zv_ons μ s k = true := decide_eq_true ⟨c0p, c4, c8⟩
        obtain ⟨ν, S, q⟩ := key 1 (Or.inr rfl)
        rw [e]
        refine ⟨ν, ze_S.trans ⟨0, 19, fun F m hF => ?_⟩ S, q⟩
        simp (maxDischargeDepth := 9) [zg_0, zg_aload_n, zg_bastore, zg_bipush, zg_getfield, zg_goto, zg_iadd, zg_iaload, zg_iastore, zg_iconst, zg_ifCond, zg_if_icmp, zg_iinc, zg_iload, zg_iload_n, zg_imul, zg_invokestatic, zg_invokevirtual, zg_ireturn, zg_istore, zg_istore_n, zg_ldc, zf_X6_gone, zi_ld, zi_lda, zi_cmp, zi_retOk, zi_isI, zi_f3, zi_cr, zi_ci, zi_cn, zi_get_ne, zi_nl_i, zi_nl_r, zi_get_set_eq, nl, g0, g1, g5, zM_g, zm_iald (k := 0) zM_A234 ik, zm_iald (k := 0) zM_A238 ik, ck, c0', c4, c8]
      · have e : zv_ons μ s k = false := decide_eq_false (fun z => c8 z.2.2)
        obtain ⟨ν, S, q⟩ := key 0 (Or.inl rfl)
        rw [e]
        refine ⟨ν, ze_S.trans ⟨0, 18, fun F m hF => ?_⟩ S, q⟩
        simp (maxDischargeDepth := 9) [zg_0, zg_aload_n, zg_bastore, zg_bipush, zg_getfield, zg_goto, zg_iadd, zg_iaload, zg_iastore, zg_iconst, zg_ifCond, zg_if_icmp, zg_iinc, zg_iload, zg_iload_n, zg_imul, zg_invokestatic, zg_invokevirtual, zg_ireturn, zg_istore, zg_istore_n, zg_ldc, zf_X6_gone, zi_ld, zi_lda, zi_cmp, zi_retOk, zi_isI, zi_f3, zi_cr, zi_ci, zi_cn, zi_get_ne, zi_nl_i, zi_nl_r, zi_get_set_eq, nl, g0, g1, g5, zM_g, zm_iald (k := 0) zM_A234 ik, zm_iald (k := 0) zM_A238 ik, ck, c0', c4, c8]
set_option maxRecDepth 100000 in
theorem zv_gnC (D : Nat) {s o n0 : Nat} (hs : s < 3) (ho : o < 3) (hkd : ∀ k, k < 10 → μ 234 k = 0 ∨ μ 234 k = 1 ∨ μ 234 k = 2 ∨ μ 234 k = 3 ∨ μ 234 k = 4) (L0 : zi_Lc) (nl0 : zi_nl L0 = true) (a0 : zi_get L0 0 = some (.ref 232)) (a1 : zi_get L0 1 = some (.int (nI s))) (a2 : zi_get L0 2 = some (.int (nI o))) (a3 : zi_get L0 3 = some (.int (nI n0))) (a5 : zi_get L0 5 = some (.int (nI 0))) :
    ∃ L' h', ze_S (D + 2) 7 (some .int) zc_X6_gone 208 L0 [] (zm_mk μ) 365 L' [] h' ∧ (zi_nl L' = true ∧ zi_get L' 0 = some (.ref 232) ∧ zi_get L' 1 = some (.int (nI s)) ∧ zi_get L' 2 = some (.int (nI o)) ∧ zi_get L' 3 = some (.int (nI n0)) ∧ ∃ ν, zm_mk ν = h' ∧ zv_gw μ ν s o 10) := by
  have h10 : (Int8.ofInt 10).toInt32 = (10 : Int32) := by decide
  refine ze_loopS (Q := fun i L hp => i ≤ 10 ∧ zi_nl L = true ∧ zi_get L 0 = some (.ref 232) ∧ zi_get L 1 = some (.int (nI s)) ∧ zi_get L 2 = some (.int (nI o)) ∧ zi_get L 3 = some (.int (nI n0)) ∧ zi_get L 5 = some (.int (nI i)) ∧ ∃ ξ : zm_M, zm_mk ξ = hp ∧ (zv_gw μ ξ s o i) ∧ (True)) (R := fun L' h' => zi_nl L' = true ∧ zi_get L' 0 = some (.ref 232) ∧ zi_get L' 1 = some (.int (nI s)) ∧ zi_get L' 2 = some (.int (nI o)) ∧ zi_get L' 3 = some (.int (nI n0)) ∧ ∃ ν, zm_mk ν = h' ∧ zv_gw μ ν s o 10) 10 ?_ ?_ 10 0 _ _ (by omega) ⟨by omega, nl0, a0, a1, a2, a3, a5, μ, rfl, ⟨(fun _ q => absurd q (by omega)), (fun k _ => (if_neg (fun z => absurd (of_decide_eq_true z.1) (by omega))).symm), fun _ _ _ _ _ _ _ _ => rfl⟩, trivial⟩
  · rintro i L _ hi ⟨-, nl, g0, g1, g2, g3, g5, ξ, rfl, f1, hq⟩
    have c1 : ¬ (10 : Int32) ≤ nI i := nI_ge (b := 10) hi (by decide)
    have ik : zi_in (nI i) 10 = true := zm_in hi (by decide)
    have ck : (nI i).toNatClampNeg = i := nI_clamp (by omega)
    have x4 : ∀ d, ξ 234 d = μ 234 d := fun d => f1.2.2 _ _ (by decide) (by decide) (by decide) (by decide) (by decide) (by omega)
    have x8 : ξ 238 i = μ 238 i := by
      rw [f1.2.1 i hi, if_neg (fun z => absurd (of_decide_eq_true z.1) (Nat.lt_irrefl _))]
    have eo : zv_ons ξ s i = zv_ons μ s i := by
      unfold zv_ons
      rw [x4, x8]
    obtain ⟨ν1, S1, p1, p2⟩ := zv_gnS (μ := ξ) (D + 2) hs hi (by rw [x4]; exact hkd i hi) L nl g0 g1 g5
    rw [eo] at S1 p1
    have fin : ∀ ν2 L2, ze_S (D + 2) 7 (some .int) zc_X6_gone 306 (zi_set L 6 (.int (if zv_ons μ s i = true then 1 else 0))) [] (zm_mk ν1) 359 L2 [] (zm_mk ν2) → L2 = zi_set L 6 (.int (if zv_ons μ s i = true then 1 else 0)) → (ν2 238 i = if zv_ons μ s i = true then nI o else ν1 238 i) → (∀ c d, c ≠ 239 → c ≠ 240 → ¬ (c = 238 ∧ d = i) → ν2 c d = ν1 c d) → ∃ L' h', ze_S (D + 2) 7 (some .int) zc_X6_gone 208 L [] (zm_mk ξ) 208 L' [] h' ∧ (i + 1 ≤ 10 ∧ zi_nl L' = true ∧ zi_get L' 0 = some (.ref 232) ∧ zi_get L' 1 = some (.int (nI s)) ∧ zi_get L' 2 = some (.int (nI o)) ∧ zi_get L' 3 = some (.int (nI n0)) ∧ zi_get L' 5 = some (.int (nI (i + 1))) ∧ ∃ ξ : zm_M, zm_mk ξ = h' ∧ zv_gw μ ξ s o (i + 1) ∧ True) := fun ν2 L2 S2 e2 q1 q2 => by
      subst e2
      have hg := zv_gw_s hi f1 (ν := ν2) (by rw [q2 _ _ (by decide) (by decide) (by omega)]; exact p1) (by rw [q1, p2 _ _ (by decide) (by decide) (by omega)]) (fun c d r1 r2 r3 r4 r5 r6 => (q2 c d r1 r2 r6).trans (p2 c d r3 r4 r5))
      generalize (if zv_ons μ s i = true then (1 : Int32) else 0) = b at S1 S2
      refine ⟨zi_set (zi_set L 6 (.int b)) 5 (.int (nI (i + 1))), zm_mk ν2, ze_S.trans ⟨0, 3, fun F m hF => ?_⟩ (S1.trans (S2.trans ⟨0, 2, fun F m hF => ?_⟩)), by omega, ?_, ?_, ?_, ?_, ?_, zi_get_set_eq, ν2, rfl, hg, trivial⟩
      · simp (maxDischargeDepth := 9) [zg_0, zg_aload_n, zg_bastore, zg_bipush, zg_getfield, zg_goto, zg_iadd, zg_iaload, zg_iastore, zg_iconst, zg_ifCond, zg_if_icmp, zg_iinc, zg_iload, zg_iload_n, zg_imul, zg_invokestatic, zg_invokevirtual, zg_ireturn, zg_istore, zg_istore_n, zg_ldc, zf_X6_gone, zi_ld, zi_lda, zi_cmp, zi_retOk, zi_isI, zi_f3, zi_cr, zi_ci, zi_cn, zi_get_ne, zi_nl_i, zi_nl_r, zi_get_set_eq, nl, g0, g5, h10, c1]
      · simp (maxDischargeDepth := 9) [zg_0, zg_aload_n, zg_bastore, zg_bipush, zg_getfield, zg_goto, zg_iadd, zg_iaload, zg_iastore, zg_iconst, zg_ifCond, zg_if_icmp, zg_iinc, zg_iload, zg_iload_n, zg_imul, zg_invokestatic, zg_invokevirtual, zg_ireturn, zg_istore, zg_istore_n, zg_ldc, zf_X6_gone, zi_ld, zi_lda, zi_cmp, zi_retOk, zi_isI, zi_f3, zi_cr, zi_ci, zi_cn, zi_get_ne, zi_nl_i, zi_nl_r, zi_get_set_eq, nl, g0, g5, nI_1]
      · simp (maxDischargeDepth := 9) [zi_get_ne, zi_nl_i, zi_nl_r, zi_get_set_eq, nl]
      · simp (maxDischargeDepth := 9) [zi_get_ne, zi_nl_i, zi_nl_r, zi_get_set_eq, nl, g0]
      · simp (maxDischargeDepth := 9) [zi_get_ne, zi_nl_i, zi_nl_r, zi_get_set_eq, nl, g1]
      · simp (maxDischargeDepth := 9) [zi_get_ne, zi_nl_i, zi_nl_r, zi_get_set_eq, nl, g2]
      · simp (maxDischargeDepth := 9) [zi_get_ne, zi_nl_i, zi_nl_r, zi_get_set_eq, nl, g3]
    have y4 : ν1 234 i = μ 234 i := (p2 _ _ (by decide) (by decide) (by omega)).trans (x4 i)
    by_cases c2 : zv_ons μ s i = true
    · rw [if_pos c2] at fin
      have n1 : ¬ (1 : Int32) = 0 := by decide
      by_cases c3 : μ 234 i = 1
      · refine fin (zm_up ν1 238 i (nI o)) _ ⟨0, 14, fun F m hF => ?_⟩ rfl (by rw [zm_up_eq, if_pos c2]) (fun c d r1 r2 r3 => zm_up_ne r3)
        simp (maxDischargeDepth := 9) [zg_0, zg_aload_n, zg_bastore, zg_bipush, zg_getfield, zg_goto, zg_iadd, zg_iaload, zg_iastore, zg_iconst, zg_ifCond, zg_if_icmp, zg_iinc, zg_iload, zg_iload_n, zg_imul, zg_invokestatic, zg_invokevirtual, zg_ireturn, zg_istore, zg_istore_n, zg_ldc, zf_X6_gone, zi_ld, zi_lda, zi_cmp, zi_retOk, zi_isI, zi_f3, zi_cr, zi_ci, zi_cn, zi_get_ne, zi_nl_i, zi_nl_r, zi_get_set_eq, nl, g0, g2, g5, n1, zM_g, zm_iald (k := 0) zM_A234 ik, zm_iast zM_A238 ik, ck, y4, c3]
      · obtain ⟨pp, qq, ⟨N1, E1⟩, -, -⟩ := ze_MputAt (μ := ν1) D hi ho (ν1 239 i) (ν1 240 i)
        obtain ⟨lc, cM⟩ := zM_c (μ := ν1)
        refine fin (zv_put ν1 i o pp qq) _ ⟨N1, 22, fun F m hF => ?_⟩ rfl (by unfold zv_put; rw [zm_up_ne (by omega), zm_up_ne (by omega), zm_up_eq, if_pos c2]) (fun c d r1 r2 r3 => by unfold zv_put; rw [zm_up_ne (by omega), zm_up_ne (by omega), zm_up_ne r3])
        simp (maxDischargeDepth := 9) [zg_0, zg_aload_n, zg_bastore, zg_bipush, zg_getfield, zg_goto, zg_iadd, zg_iaload, zg_iastore, zg_iconst, zg_ifCond, zg_if_icmp, zg_iinc, zg_iload, zg_iload_n, zg_imul, zg_invokestatic, zg_invokevirtual, zg_ireturn, zg_istore, zg_istore_n, zg_ldc, zf_X6_gone, zi_ld, zi_lda, zi_cmp, zi_retOk, zi_isI, zi_f3, zi_cr, zi_ci, zi_cn, zi_get_ne, zi_nl_i, zi_nl_r, zi_get_set_eq, nl, g0, g2, g5, n1, zM_g, zm_iald (k := 0) zM_A234 ik, zm_iald (k := 0) zM_A239 ik, zm_iald (k := 0) zM_A240 ik, ck, y4, c3, cM, zq_Mod_putAt, E1 F (by omega)]
    · rw [if_neg c2] at fin
      refine fin ν1 _ ⟨0, 4, fun F m hF => ?_⟩ rfl (by rw [if_neg c2]) (fun c d _ _ _ => rfl)
      simp (maxDischargeDepth := 9) [zg_0, zg_aload_n, zg_bastore, zg_bipush, zg_getfield, zg_goto, zg_iadd, zg_iaload, zg_iastore, zg_iconst, zg_ifCond, zg_if_icmp, zg_iinc, zg_iload, zg_iload_n, zg_imul, zg_invokestatic, zg_invokevirtual, zg_ireturn, zg_istore, zg_istore_n, zg_ldc, zf_X6_gone, zi_ld, zi_lda, zi_cmp, zi_retOk, zi_isI, zi_f3, zi_cr, zi_ci, zi_cn, zi_get_ne, zi_nl_i, zi_nl_r, zi_get_set_eq, nl, g0, g5]
  · rintro L _ ⟨-, nl, g0, g1, g2, g3, g5, ξ, rfl, f1, hq⟩
    have c1 : (10 : Int32) ≤ nI 10 := by decide
    refine ⟨L, zm_mk ξ, ⟨0, 3, fun F m hF => ?_⟩, nl, g0, g1, g2, g3, ξ, rfl, f1⟩
    simp (maxDischargeDepth := 9) [zg_0, zg_aload_n, zg_bastore, zg_bipush, zg_getfield, zg_goto, zg_iadd, zg_iaload, zg_iastore, zg_iconst, zg_ifCond, zg_if_icmp, zg_iinc, zg_iload, zg_iload_n, zg_imul, zg_invokestatic, zg_invokevirtual, zg_ireturn, zg_istore, zg_istore_n, zg_ldc, zf_X6_gone, zi_ld, zi_lda, zi_cmp, zi_retOk, zi_isI, zi_f3, zi_cr, zi_ci, zi_cn, zi_get_ne, zi_nl_i, zi_nl_r, zi_get_set_eq, nl, g0, g1, g2, g3, g5, h10, c1, nI_1]
end ZWJ
end
section
/-! the reference: gone -/
/-- the least screen that is there, but s -/
noncomputable def zv_lso (μ : zm_M) (s : Nat) : Int32 := zl_fi (fun k => decide (¬ nI k = nI s ∧ 0 < μ 232 k)) (-1) 3 0
/-- what is left when the screen s has gone to o; ξ holds the trial tree -/
noncomputable def zv_gne (μ ξ ν : zm_M) (s o n : Nat) : Prop :=
  zu_eqT μ s ν (3 + s) ∧ zu_eqT ξ 6 ν o ∧ zu_I ν s .nil (fun _ => -1) ∧ ν 251 s = (if 0 < n then 1 else 0) ∧ (∀ k, k < 10 → ν 252 (10 * s + k) = if zv_ons μ s k = true then 1 else 0) ∧ (∀ k, k < 10 → ν 238 k = if zv_ons μ s k = true then nI o else μ 238 k) ∧ (ν 232 s = 0 ∧ ν 233 s = 0) ∧
  ∀ c d, ¬ (c = 231 ∧ d = 30) → c ≠ 238 → c ≠ 239 → c ≠ 240 → ¬ (253 ≤ c ∧ c ≤ 261) → ¬ (c = 252 ∧ 10 * s ≤ d ∧ d < 10 * s + 10) → ¬ (c = 251 ∧ d = s) → ¬ (c = 232 ∧ d = s) → ¬ (c = 233 ∧ d = s) → ¬ zu_in s c d → ¬ zu_in o c d → ¬ zu_in (3 + s) c d → ¬ zu_in 6 c d → ν c d = μ c d
noncomputable def zv_gon (μ ν : zm_M) (us : Nat → zy_F) (w : Int32) : Prop :=
  ((¬ ∃ s o, s < 3 ∧ o < 3 ∧ w = nI s ∧ ¬ μ 232 s = 0 ∧ zv_lso μ s = nI o) ∧ ν = μ) ∨
  ∃ s o emp ξ ξ2 n1 W, s < 3 ∧ o < 3 ∧ s ≠ o ∧ w = nI s ∧ ¬ μ 232 s = 0 ∧ 0 < μ 232 o ∧ zv_lso μ s = nI o ∧ (emp = true → us o = .nil) ∧ (emp = false → zy_wf (us o)) ∧ W = (zy_lvs (us s)).flatMap (zu_tb μ s) ∧ zu_frv (zu_cq μ o 6 24 240) ξ ∧ zu_AD ξ 6 (us o) emp W ξ2 n1 ∧
    ((zv_gd (zv_grm μ s o) (zu_fit ξ2 6 (zy_ad emp (us o) W n1) (μ 232 o) (μ 233 o)) 10 = false ∧ ν = ξ2) ∨
     (zv_gd (zv_grm μ s o) (zu_fit ξ2 6 (zy_ad emp (us o) W n1) (μ 232 o) (μ 233 o)) 10 = true ∧ zv_gne μ ξ2 ν s o (W.length + zl_ct (fun k => zv_on μ k (nI s)) 10)))
theorem zl_flat_nodup {f : Nat → List Nat} : ∀ (l : List Nat), l.Nodup → (∀ n ∈ l, (f n).Nodup) → (∀ n ∈ l, ∀ m ∈ l, ∀ w, w ∈ f n → w ∈ f m → n = m) → (l.flatMap f).Nodup
  | [], _, _, _ => List.nodup_nil
  | a :: l, hd, h1, h2 => by
    rw [List.flatMap_cons]
    obtain ⟨ha, hd⟩ := List.nodup_cons.mp hd
    refine List.nodup_append.mpr ⟨h1 a (List.mem_cons_self ..), zl_flat_nodup l hd (fun n hn => h1 n (List.mem_cons_of_mem _ hn)) (fun n hn m hm => h2 n (List.mem_cons_of_mem _ hn) m (List.mem_cons_of_mem _ hm)), fun x hx y hy e => ?_⟩
    subst e
    obtain ⟨n, hn, hxn⟩ := List.mem_flatMap.mp hy
    have := h2 a (List.mem_cons_self ..) n (List.mem_cons_of_mem _ hn) x hx hxn
    exact ha (this ▸ hn)
section ZWK
variable {μ ν : zm_M} {row stk : List Nat} {us : Nat → zy_F}
/-- the windows of a tree, each once -/
theorem zR_W (h : zR μ row stk us) {s : Nat} (hs : s < 3) : ((zy_lvs (us s)).flatMap (zu_tb μ s)).Nodup ∧ ∀ w ∈ (zy_lvs (us s)).flatMap (zu_tb μ s), w < 10 ∧ μ 234 w = 1 ∧ μ 238 w = nI s := by
  obtain ⟨⟨ab, hI⟩, hnd, hw⟩ := h.2.2.2.2.1 s hs
  refine ⟨zl_flat_nodup _ (zu_lvs_nodup hI).1 hnd.1 (fun n hn m hm w => hnd.2 n hn m hm w), fun w hx => ?_⟩
  obtain ⟨n, hn, hxn⟩ := List.mem_flatMap.mp hx
  exact ⟨(zu_I_tb hI hn).2.2 w hxn, hw n hn w hxn⟩
theorem zu_cq_out {f t c d : Nat} (h : ¬ zu_in t c d) : zu_cq μ f t 24 240 c d = μ c d := zu_cq_fr c d h
set_option maxRecDepth 100000 in
theorem zv_gn3 (D : Nat) {s o n : Nat} {ξ2 : zm_M} (hs : s < 3) (ho : o < 3) (hso : s ≠ o) (hkd : ∀ k, k < 10 → μ 234 k = 0 ∨ μ 234 k = 1 ∨ μ 234 k = 2 ∨ μ 234 k = 3 ∨ μ 234 k = 4) (f2 : ∀ c d, ¬ (c = 231 ∧ d = 30) → c ≠ 259 → ¬ zu_in 6 c d → ξ2 c d = μ c d) (hn31 : n < 2 ^ 31) (L2 : zi_Lc) (nl2 : zi_nl L2 = true) (b0' : zi_get L2 0 = some (.ref 232)) (b1 : zi_get L2 1 = some (.int (nI s))) (b2 : zi_get L2 2 = some (.int (nI o))) (b3 : zi_get L2 3 = some (.int (nI n))) (b4 : zi_get L2 4 = some (.int 1)) :
    ∃ ν, ze_G (D + 27) 7 (some .int) zc_X6_gone 174 L2 [] (zm_mk ξ2) (some (.int (nI n))) (zm_mk ν) ∧ zv_gne μ ξ2 ν s o n := by
  have h6 : (Int8.ofInt 6).toInt32 = (6 : Int32) := by decide
  have q6 : nI 6 = (6 : Int32) := by decide
  have is : zi_in (nI s) 3 = true := zm_in hs (by decide)
  have cs : (nI s).toNatClampNeg = s := nI_clamp (by omega)
  obtain ⟨lc2, cM2⟩ := zM_c (μ := ξ2)
  have f23 : ∀ c d, 232 ≤ c → c < 243 → ξ2 c d = μ c d := fun c d r1 r2 => f2 c d (by omega) (by omega) (zu_in_not (Or.inl r2))
  have e3 : (3 : Int32) + nI s = nI (3 + s) := by rw [show (3 : Int32) = nI 3 by decide, nI_add]
  have n10 : ¬ (1 : Int32) = 0 := by decide
  obtain ⟨N5, E5⟩ := ze_McopyTree (μ := ξ2) (D + 25) (f := s) (t := 3 + s) (by omega) (by omega) (by omega)
  have tb := zu_cq_eqT (μ := ξ2) (f := s) (t := 3 + s)
  have fb : zu_fr (3 + s) ξ2 (zu_cq ξ2 s (3 + s) 24 240) := zu_cq_fr
  generalize zu_cq ξ2 s (3 + s) 24 240 = μb at E5 tb fb
  have hv : ∃ v : Int32, (v = 0 ∨ v = 1) ∧ v = (if 0 < n then 1 else 0) ∧ ze_S (D + 27) 7 (some .int) zc_X6_gone 174 L2 [] (zm_mk ξ2) 208 (zi_set L2 5 (.int (nI 0))) [] (zm_mk (zm_up μb 251 s v)) := by
    have nl := nl2
    by_cases cn : 0 < n
    · have cn' : ¬ nI n ≤ 0 := by
        have := nI_ge (a := 0) (b := n) cn hn31
        rw [nI_0] at this
        exact this
      refine ⟨1, Or.inr rfl, by rw [if_pos cn], N5, 18, fun F m hF => ?_⟩
      have o1 : (1 : Int32) = 0 ∨ (1 : Int32) = 1 := Or.inr rfl
      simp (maxDischargeDepth := 9) [zg_0, zg_aload_n, zg_bastore, zg_bipush, zg_getfield, zg_goto, zg_iadd, zg_iaload, zg_iastore, zg_iconst, zg_ifCond, zg_if_icmp, zg_iinc, zg_iload, zg_iload_n, zg_imul, zg_invokestatic, zg_invokevirtual, zg_ireturn, zg_istore, zg_istore_n, zg_ldc, zf_X6_gone, zi_ld, zi_lda, zi_cmp, zi_retOk, zi_isI, zi_f3, zi_cr, zi_ci, zi_cn, zi_get_ne, zi_nl_i, zi_nl_r, zi_get_set_eq, nl, b0', b1, b2, b3, b4, n10, e3, cM2, zM_g, zq_Mod_copyTree, E5 F (by omega), cn', zm_bast zM_A251 is o1, cs, nI_0]
    · have cn' : nI n ≤ 0 := by
        have : n = 0 := by omega
        rw [this]; decide
      refine ⟨0, Or.inl rfl, by rw [if_neg cn], N5, 17, fun F m hF => ?_⟩
      have o1 : (0 : Int32) = 0 ∨ (0 : Int32) = 1 := Or.inl rfl
      simp (maxDischargeDepth := 9) [zg_0, zg_aload_n, zg_bastore, zg_bipush, zg_getfield, zg_goto, zg_iadd, zg_iaload, zg_iastore, zg_iconst, zg_ifCond, zg_if_icmp, zg_iinc, zg_iload, zg_iload_n, zg_imul, zg_invokestatic, zg_invokevirtual, zg_ireturn, zg_istore, zg_istore_n, zg_ldc, zf_X6_gone, zi_ld, zi_lda, zi_cmp, zi_retOk, zi_isI, zi_f3, zi_cr, zi_ci, zi_cn, zi_get_ne, zi_nl_i, zi_nl_r, zi_get_set_eq, nl, b0', b1, b2, b3, b4, n10, e3, cM2, zM_g, zq_Mod_copyTree, E5 F (by omega), cn', zm_bast zM_A251 is o1, cs, nI_0]
  obtain ⟨v, -, ev, S4⟩ := hv
  have fc : ∀ c d, ¬ (c = 251 ∧ d = s) → zm_up μb 251 s v c d = μb c d := fun c d r => zm_up_ne r
  have ec : zm_up μb 251 s v 251 s = v := zm_up_eq
  generalize zm_up μb 251 s v = μc at S4 fc ec
  have kc : ∀ k, μc 234 k = μ 234 k := fun k => (fc _ _ (by omega)).trans ((fb _ _ (zu_in_not (by decide))).trans (f23 _ _ (by decide) (by decide)))
  have kc8 : ∀ k, μc 238 k = μ 238 k := fun k => (fc _ _ (by omega)).trans ((fb _ _ (zu_in_not (by decide))).trans (f23 _ _ (by decide) (by decide)))
  have eons : ∀ k, zv_ons μc s k = zv_ons μ s k := fun k => by
    unfold zv_ons
    rw [kc, kc8]
  obtain ⟨L3, h3, S5, nl3, d0, d1, d2, d3, μd, rfl, gw⟩ := zv_gnC (μ := μc) (n0 := n) (D + 25) hs ho (fun k hk => by rw [kc]; exact hkd k hk) (zi_set L2 5 (.int (nI 0))) (zi_nl_i nl2) (by have nl := nl2; simp (maxDischargeDepth := 9) [zi_get_ne, zi_nl_i, zi_nl_r, zi_get_set_eq, nl, b0']) (by have nl := nl2; simp (maxDischargeDepth := 9) [zi_get_ne, zi_nl_i, zi_nl_r, zi_get_set_eq, nl, b1]) (by have nl := nl2; simp (maxDischargeDepth := 9) [zi_get_ne, zi_nl_i, zi_nl_r, zi_get_set_eq, nl, b2]) (by have nl := nl2; simp (maxDischargeDepth := 9) [zi_get_ne, zi_nl_i, zi_nl_r, zi_get_set_eq, nl, b3]) zi_get_set_eq
  obtain ⟨g1, g2, g3⟩ := gw
  obtain ⟨lcd, cMd⟩ := zM_c (μ := μd)
  obtain ⟨N6, E6⟩ := ze_McopyTree (μ := μd) (D + 25) (f := 6) (t := o) (by decide) (by omega) (by omega)
  rw [q6] at E6
  have te := zu_cq_eqT (μ := μd) (f := 6) (t := o)
  have fe : zu_fr o μd (zu_cq μd 6 o 24 240) := zu_cq_fr
  generalize zu_cq μd 6 o 24 240 = μe at E6 te fe
  obtain ⟨lce, cMe⟩ := zM_c (μ := μe)
  obtain ⟨μf, ⟨N7, E7⟩, hE, ff⟩ := ze_MclearTreeI (μ := μe) (D + 25) (τ := s) (by omega)
  have fz : ∀ c d, ¬ (c = 232 ∧ d = s) → ¬ (c = 233 ∧ d = s) → zm_up (zm_up μf 232 s 0) 233 s 0 c d = μf c d := fun c d r1 r2 => by rw [zm_up_ne r2, zm_up_ne r1]
  have z1 : zm_up (zm_up μf 232 s 0) 233 s 0 232 s = 0 := by rw [zm_up_ne (by omega), zm_up_eq]
  have z2 : zm_up (zm_up μf 232 s 0) 233 s 0 233 s = 0 := zm_up_eq
  have G : ze_G (D + 27) 7 (some .int) zc_X6_gone 365 L3 [] (zm_mk μd) (some (.int (nI n))) (zm_mk (zm_up (zm_up μf 232 s 0) 233 s 0)) := by
    refine ⟨N6 + N7, 19, fun F m hF => ?_⟩
    simp [zg_0, zg_aload_n, zg_bastore, zg_bipush, zg_getfield, zg_goto, zg_iadd, zg_iaload, zg_iastore, zg_iconst, zg_ifCond, zg_if_icmp, zg_iinc, zg_iload, zg_iload_n, zg_imul, zg_invokestatic, zg_invokevirtual, zg_ireturn, zg_istore, zg_istore_n, zg_ldc, zf_X6_gone, zi_ld, zi_lda, zi_cmp, zi_retOk, zi_isI, zi_f3, zi_cr, zi_ci, zi_cn, d0, d1, d2, d3, h6, zM_g, cMd, cMe, zq_Mod_copyTree, zq_Mod_clearTree, E6 F (by omega), E7 F (by omega), zm_iast zM_A232 is, zm_iast zM_A233 is, cs]
  generalize zm_up (zm_up μf 232 s 0) 233 s 0 = μz at fz z1 z2 G
  refine ⟨μz, S4.end (S5.end G), ?_⟩
  -- cells that are in no tree
  have fzin : ∀ τ c d, zu_in τ c d → μz c d = μf c d := fun τ c d r => fz c d (fun z => zu_in_not (Or.inl (by omega)) r) (fun z => zu_in_not (Or.inl (by omega)) r)
  have gin : ∀ τ c d, zu_in τ c d → μd c d = μc c d := fun τ c d r => by
    have hc : 243 ≤ c ∧ c ≤ 250 := by
      refine Decidable.byContradiction fun z => zu_in_not (τ := τ) (c := c) (d := d) (by omega) r
    exact g3 c d (by omega) (by omega) (by omega) (by omega) (by omega) (by omega)
  have eqin : ∀ {A B : zm_M} {τ : Nat}, (∀ c d, zu_in τ c d → B c d = A c d) → zu_eqT A τ B τ := fun {A B τ} hh => by
    refine ⟨hh _ _ (Or.inl ⟨rfl, rfl⟩), fun c n hc hn => hh _ _ (Or.inr (Or.inl ⟨hc, by omega, by omega⟩)), fun n j hn hj => hh _ _ (Or.inr (Or.inr ⟨rfl, by omega, by omega⟩))⟩
  have cin : ∀ τ c d, zu_in τ c d → μc c d = μb c d := fun τ c d r => fc c d (fun z => zu_in_not (Or.inr (by omega)) r)
  have t3s : zu_eqT μ s μz (3 + s) := by
    have t1 : zu_eqT μ s ξ2 s := eqin fun c d r => f2 c d (fun z => zu_in_not (Or.inl (by omega)) r) (fun z => zu_in_not (Or.inr (by omega)) r) (zu_in_ne r (by omega))
    have t2 : zu_eqT μb (3 + s) μc (3 + s) := eqin (cin _)
    have t3 : zu_eqT μc (3 + s) μd (3 + s) := eqin (gin _)
    have t4 := fe.eqT (τ := 3 + s) (by omega)
    have t5 := ff.eqT (τ := 3 + s) (by omega)
    have t6 : zu_eqT μf (3 + s) μz (3 + s) := eqin (fzin _)
    exact t1.trans (tb.trans (t2.trans (t3.trans (t4.trans (t5.trans t6)))))
  have t6o : zu_eqT ξ2 6 μz o := by
    have t1 := fb.eqT (τ := 6) (by omega)
    have t2 : zu_eqT μb 6 μc 6 := eqin (cin _)
    have t3 : zu_eqT μc 6 μd 6 := eqin (gin _)
    have t5 := ff.eqT (τ := o) (by omega)
    have t6 : zu_eqT μf o μz o := eqin (fzin _)
    exact t1.trans (t2.trans (t3.trans (te.trans (t5.trans t6))))
  have tes : zu_I μz s .nil (fun _ => -1) := (eqin (fzin s) : zu_eqT μf s μz s).I hE
  have up : ∀ c d, c < 243 ∨ 250 < c → ¬ (c = 232 ∧ d = s) → ¬ (c = 233 ∧ d = s) → μz c d = μd c d := fun c d r1 r2 r3 => (fz c d r2 r3).trans ((ff c d (zu_in_not r1)).trans (fe c d (zu_in_not r1)))
  refine ⟨t3s, t6o, tes, ?_, fun k hk => ?_, fun k hk => ?_, ⟨z1, z2⟩, fun c d r1 r2 r3 r4 r5 r6 r7 r8 r9 ra rb rc rd => ?_⟩
  · rw [up _ _ (by decide) (by omega) (by omega), g3 _ _ (by decide) (by decide) (by decide) (by decide) (by decide) (by omega), ec, ev]
  · rw [up _ _ (by decide) (by omega) (by omega), g1 k hk, eons]
  · rw [up _ _ (by decide) (by omega) (by omega), g2 k hk, eons, kc8]
    simp only [hk, decide_true, true_and]
  · rw [fz c d r8 r9, ff c d ra, fe c d rb, g3 c d r2 r3 r4 (by omega) (by omega) r6, fc c d r7, fb c d rc]
    exact f2 c d r1 (by omega) rd

set_option maxRecDepth 100000 in
theorem zv_gn0 (D : Nat) {s : Nat} (hs : s < 3) {N1 : Nat} (E1 : ∀ F, N1 ≤ F → zi_run zi_ms F (D + 27) A_Mod_isIn [.int (nI s), .int 0, .int 2] (zm_mk μ) [] = some [([], some (.int 1), zm_mk μ)]) : ∃ L1, ze_S (D + 27) 7 (some .int) zc_X6_gone 0 [(0, .ref 232), (1, .int (nI s))] [] (zm_mk μ) 46 L1 [] (zm_mk μ) ∧ zi_nl L1 = true ∧ zi_get L1 0 = some (.ref 232) ∧ zi_get L1 1 = some (.int (nI s)) ∧ zi_get L1 2 = some (.int (zv_lso μ s)) := by
  have m1 : Int32.ofInt (-1) = -1 := by decide
  have z2 : Int32.ofInt 2 = zv_dn 3 := by decide
  have S0 : ze_S (D + 27) 7 (some .int) zc_X6_gone 0 [(0, .ref 232), (1, .int (nI s))] [] (zm_mk μ) 14 [(2, .int (-1)), (0, .ref 232), (1, .int (nI s))] [] (zm_mk μ) := by
    refine ⟨N1, 7, fun F n hF => ?_⟩
    simp [zg_0, zg_aload_n, zg_bastore, zg_bipush, zg_getfield, zg_goto, zg_iadd, zg_iaload, zg_iastore, zg_iconst, zg_ifCond, zg_if_icmp, zg_iinc, zg_iload, zg_iload_n, zg_imul, zg_invokestatic, zg_invokevirtual, zg_ireturn, zg_istore, zg_istore_n, zg_ldc, zf_X6_gone, zi_ld, zi_lda, zi_cmp, zi_retOk, zi_isI, zi_f3, zi_cr, zi_ci, zi_cn, zi_get, zi_set, zq_Mod_isIn, E1 F (by omega), m1]
  have S1 : ze_S (D + 27) 7 (some .int) zc_X6_gone 14 [(2, .int (-1)), (0, .ref 232), (1, .int (nI s))] [] (zm_mk μ) 16 (zi_set [(2, .int (-1)), (0, .ref 232), (1, .int (nI s))] 3 (.int (zv_dn 3))) [] (zm_mk μ) := by
    rw [← z2]
    refine ⟨0, 2, fun F n hF => ?_⟩
    simp [zg_0, zg_aload_n, zg_bastore, zg_bipush, zg_getfield, zg_goto, zg_iadd, zg_iaload, zg_iastore, zg_iconst, zg_ifCond, zg_if_icmp, zg_iinc, zg_iload, zg_iload_n, zg_imul, zg_invokestatic, zg_invokevirtual, zg_ireturn, zg_istore, zg_istore_n, zg_ldc, zf_X6_gone, zi_ld, zi_lda, zi_cmp, zi_retOk, zi_isI, zi_f3, zi_cr, zi_ci, zi_cn]
  obtain ⟨L1, S2, nl1, a0, a1, a2⟩ := zv_gnA (μ := μ) (D + 27) hs 3 (by decide) (zi_set [(2, .int (-1)), (0, .ref 232), (1, .int (nI s))] 3 (.int (zv_dn 3))) (-1) (zi_nl_i rfl) ((zi_get_ne rfl (by decide)).trans rfl) ((zi_get_ne rfl (by decide)).trans rfl) ((zi_get_ne rfl (by decide)).trans rfl) zi_get_set_eq
  rw [zv_lsc_fi hs] at a2
  exact ⟨L1, S0.trans (S1.trans S2), nl1, a0, a1, a2⟩
set_option maxRecDepth 100000 in
theorem zv_gn2 (D : Nat) {s o N2 N3 N4 : Nat} {μa ξ2 : zm_M} {W : List Nat} {b0 : Bool} (hs : s < 3) (ho : o < 3) (c0 : ¬ μ 232 s = 0) (L1 : zi_Lc) (nl1 : zi_nl L1 = true) (a0 : zi_get L1 0 = some (.ref 232)) (a1 : zi_get L1 1 = some (.int (nI s))) (a2 : zi_get L1 2 = some (.int (nI o))) (E2 : ∀ F, N2 ≤ F → zi_run zi_ms F (D + 25 + 2) A_Mod_copyTree [.ref 232, .int (nI o), .int 6] (zm_mk μ) [] = some [([], none, zm_mk μa)]) (E3 : ∀ F, N3 ≤ F → zi_run zi_ms F (D + 27) A_Mod_moveTabs [.ref 232, .int (nI s), .int 6] (zm_mk μa) [] = some [([], some (.int (nI W.length)), zm_mk ξ2)]) (x1 : ξ2 232 o = μ 232 o) (x2 : ξ2 233 o = μ 233 o) (E4 : ∀ F, N4 ≤ F → zi_run zi_ms F (D + 1 + 26) A_Mod_fits [.ref 232, .int 6, .int (μ 232 o), .int (μ 233 o)] (zm_mk ξ2) [] = some [([], some (.int (if b0 = true then 1 else 0)), zm_mk ξ2)]) :
    ze_S (D + 27) 7 (some .int) zc_X6_gone 46 L1 [] (zm_mk μ) 100 (zi_set (zi_set (zi_set L1 3 (.int (nI W.length))) 4 (.int (if b0 = true then 1 else 0))) 5 (.int (nI 0))) [] (zm_mk ξ2) := by
  have h6 : (Int8.ofInt 6).toInt32 = (6 : Int32) := by decide
  have is : zi_in (nI s) 3 = true := zm_in hs (by decide)
  have cs : (nI s).toNatClampNeg = s := nI_clamp (by omega)
  have io : zi_in (nI o) 3 = true := zm_in ho (by decide)
  have co : (nI o).toNatClampNeg = o := nI_clamp (by omega)
  have m1 : (0 : Int32) ≤ nI o := Int32.not_lt.mp (nI_pos (by omega))
  obtain ⟨lc, cM⟩ := zM_c (μ := μ)
  obtain ⟨lca, cMa⟩ := zM_c (μ := μa)
  obtain ⟨lc2, cM2⟩ := zM_c (μ := ξ2)
  have nl := nl1
  generalize (if b0 = true then (1 : Int32) else 0) = bb at E4 ⊢
  refine ⟨N2 + N3 + N4, 30, fun F m hF => ?_⟩
  simp (maxDischargeDepth := 9) [zg_0, zg_aload_n, zg_bastore, zg_bipush, zg_getfield, zg_goto, zg_iadd, zg_iaload, zg_iastore, zg_iconst, zg_ifCond, zg_if_icmp, zg_iinc, zg_iload, zg_iload_n, zg_imul, zg_invokestatic, zg_invokevirtual, zg_ireturn, zg_istore, zg_istore_n, zg_ldc, zf_X6_gone, zi_ld, zi_lda, zi_cmp, zi_retOk, zi_isI, zi_f3, zi_cr, zi_ci, zi_cn, zi_get_ne, zi_nl_i, zi_nl_r, zi_get_set_eq, nl, a0, a1, a2, zM_g, zm_iald (k := 0) zM_A232 is, zm_iald (k := 0) zM_A232 io, zm_iald (k := 0) zM_A233 io, cs, co, c0, m1, h6, cM, cMa, cM2, zq_Mod_copyTree, zq_Mod_moveTabs, zq_Mod_fits, E2 F (by omega), E3 F (by omega), x1, x2, E4 F (by omega), nI_0]
end ZWK
end
section
/-! the reference's trees: how many leaves; where a new window is -/
section ZWL
variable {μ ν : zm_M} {τ σ : Nat} {u : zy_F} {ab ab' : Nat → Int32} {k m : Nat}
theorem zu_nd_eqT (hI : zu_I μ τ u ab) (hnd : zu_nd μ τ u) (e : zu_eqT μ τ ν σ) : zu_nd ν σ u := by
  have et : ∀ n ∈ zy_lvs u, zu_tb ν σ n = zu_tb μ τ n := fun n hn => e.tb (zu_I_lt hI hn) (zu_I_tbl hI hn)
  exact ⟨fun n hn => by rw [et n hn]; exact hnd.1 n hn, fun n hn m hm w a b => by
    rw [et n hn] at a
    rw [et m hm] at b
    exact hnd.2 n hn m hm w a b⟩
theorem zl_flat_len {f : Nat → List Nat} : ∀ l : List Nat, (∀ n ∈ l, f n ≠ []) → l.length ≤ (l.flatMap f).length
  | [], _ => Nat.le_refl _
  | a :: l, h => by
    rw [List.flatMap_cons, List.length_append, List.length_cons]
    have := zl_flat_len l (fun n hn => h n (List.mem_cons_of_mem _ hn))
    have := List.length_pos_iff.mpr (h a (List.mem_cons_self ..))
    omega
theorem zu_lvs10 (hI : zu_I μ τ u ab) (hnd : zu_nd μ τ u) : (zy_lvs u).length ≤ 10 ∧ (zy_ids u).length + 2 ≤ 24 := by
  have hl := zl_flat_len (f := zu_tb μ τ) (zy_lvs u) (fun n hn => (zu_I_tb hI hn).2.1)
  have hd := zl_flat_nodup (f := zu_tb μ τ) (zy_lvs u) (zu_lvs_nodup hI).1 hnd.1 (fun n hn m hm w => hnd.2 n hn m hm w)
  have h10 := zv_nodup10 hd (fun x hx => by
    obtain ⟨n, hn, hx⟩ := List.mem_flatMap.mp hx
    exact (zu_I_tb hI hn).2.2 x hx)
  refine ⟨by omega, ?_⟩
  rcases zu_I_or hI with e | e
  · rw [e]; decide
  · have := zy_len u e
    omega
theorem zu_tb9 (hI : zu_I μ τ u ab) (hnd : zu_nd μ τ u) (hm : m ∈ zy_lvs u) (hk : k < 10) (hno : k ∉ zu_tb μ τ m) : (zu_tb μ τ m).length < 10 := by
  have := zv_nodup10 (l := k :: zu_tb μ τ m) (List.nodup_cons.mpr ⟨hno, hnd.1 m hm⟩) (fun x hx => by
    rcases List.mem_cons.mp hx with rfl | hx
    · exact hk
    · exact (zu_I_tb hI hm).2.2 x hx)
  rw [List.length_cons] at this
  omega
/-- the tree that a window has left -/
theorem zu_isOut_X (hI : zu_I μ τ u ab) (hnd : zu_nd μ τ u) (hat : zu_at μ τ u k m) (ho : zu_isOut μ τ u m k ν ab') : zu_X μ ν τ u (if (zu_tb μ τ m).erase k = [] then zy_out m u else u) (zv_add (fun _ => false) k) :=
  zu_X_step hI hnd (zu_X_0 hI) rfl hat ho
theorem zu_X_nd (hI : zu_I μ τ u ab) (hnd : zu_nd μ τ u) {u' : zy_F} {X : Nat → Bool} (h : zu_X μ ν τ u u' X) : zu_nd ν τ u' ∧ (∀ n ∈ zy_lvs u', n ∈ zy_lvs u ∧ zu_tb ν τ n = (zu_tb μ τ n).filter (fun w => !X w)) := by
  have hl : ∀ n ∈ zy_lvs u', n ∈ zy_lvs u := fun n hn => by
    rw [h.2.1] at hn
    rcases zu_I_or hI with e | e
    · rw [e] at hn; cases hn
    · rw [zy_keep_lvs u e] at hn
      exact (List.mem_filter.mp hn).1
  have et : ∀ n ∈ zy_lvs u', zu_tb ν τ n = (zu_tb μ τ n).filter (fun w => !X w) := fun n hn => (h.2.2.1 n hn).1
  refine ⟨⟨fun n hn => by rw [et n hn]; exact (hnd.1 n (hl n hn)).filter _, fun n hn m hm w a b => ?_⟩, fun n hn => ⟨hl n hn, et n hn⟩⟩
  rw [et n hn] at a
  rw [et m hm] at b
  exact hnd.2 n (hl n hn) m (hl m hm) w (List.mem_filter.mp a).1 (List.mem_filter.mp b).1
theorem zu_isOut_no (hI : zu_I μ τ u ab) (hnd : zu_nd μ τ u) (hat : zu_at μ τ u k m) (ho : zu_isOut μ τ u m k ν ab') : zu_nd ν τ (if (zu_tb μ τ m).erase k = [] then zy_out m u else u) ∧ ∀ n ∈ zy_lvs (if (zu_tb μ τ m).erase k = [] then zy_out m u else u), k ∉ zu_tb ν τ n := by
  obtain ⟨h1, h2⟩ := zu_X_nd hI hnd (zu_isOut_X hI hnd hat ho)
  refine ⟨h1, fun n hn z => ?_⟩
  rw [(h2 n hn).2] at z
  have := (List.mem_filter.mp z).2
  rw [zv_add_k] at this
  cases this
theorem zu_isOut_at (hI : zu_I μ τ u ab) (hnd : zu_nd μ τ u) (hat : zu_at μ τ u k m) (ho : zu_isOut μ τ u m k ν ab') {o n : Nat} (hok : o ≠ k) (h2 : zu_at μ τ u o n) : zu_at ν τ (if (zu_tb μ τ m).erase k = [] then zy_out m u else u) o n :=
  zu_X_at hI (zu_isOut_X hI hnd hat ho) (zv_add_ne hok) h2
theorem zu_isTab_at (hI : zu_I μ τ u ab) (hm : m ∈ zy_lvs u) (hk : k < 10) (hno : ∀ n ∈ zy_lvs u, k ∉ zu_tb μ τ n) (h : zu_isTab μ τ u ab' m k ν) : zu_at ν τ u k m := by
  have em : zu_tb ν τ m = zu_tb μ τ m ++ [k] := zu_tb_T h.2.1 (fun x hx => by
    rcases List.mem_append.mp hx with hx | hx
    · exact (zu_I_tb hI hm).2.2 x hx
    · rw [List.mem_singleton.mp hx]; exact hk)
  refine ⟨hm, by rw [em]; exact List.mem_append_right _ (List.mem_singleton.mpr rfl), fun n hn g => Decidable.byContradiction fun e => ?_⟩
  rw [zu_tb_T (h.2.2.1 n e _ (zu_I_tb hI hn).1) (zu_I_tb hI hn).2.2] at g
  exact hno n hn g
theorem zu_isNew_at {f : Nat} (hk : k < 10) (h : zu_isNew μ τ k ν f) : zu_at ν τ (.tag f .nil) k f := by
  have em : zu_tb ν τ f = [k] := zu_tb_T h.2.2.1 (fun x hx => by rw [List.mem_singleton.mp hx]; exact hk)
  exact ⟨List.mem_singleton.mpr rfl, by rw [em]; exact List.mem_singleton.mpr rfl, fun n hn _ => List.mem_singleton.mp hn⟩
theorem zu_isCut_lvs (hI : zu_I μ τ u ab) (hm : m ∈ zy_lvs u) {c f : Nat} {nf : Bool} (hf : f ∉ zy_ids u) : ∀ n, n ∈ zy_lvs (zy_sub m (.append (.tag c (.tag (if nf then f else m) .nil)) (.tag (if nf then m else f) .nil)) u) ↔ (n = f ∨ n ∈ zy_lvs u) := by
  obtain ⟨wu, hmi⟩ := zu_I_lv hI hm
  have hfm : f ≠ m := fun e => hf (e ▸ hmi)
  have hp := (zy_sub_perm (n := m) (s := .append (.tag c (.tag (if nf then f else m) .nil)) (.tag (if nf then m else f) .nil)) u wu hI.2.1 hm).2.1
  have hd := zy_lvs_nodup u wu hI.2.1
  have hs : zy_lvs (.append (.tag c (.tag (if nf then f else m) .nil)) (.tag (if nf then m else f) .nil)) = [if nf then f else m, if nf then m else f] := rfl
  rw [hs] at hp
  have hfu : f ∉ zy_lvs u := fun z => hf (zy_lvs_ids u wu f z)
  have hnd : (m :: zy_lvs (zy_sub m (.append (.tag c (.tag (if nf then f else m) .nil)) (.tag (if nf then m else f) .nil)) u)).count m = 2 := by
    rw [hp.count_eq, List.count_append, Nat.le_antisymm (List.nodup_iff_count.mp hd m) (List.count_pos_iff.mpr hm)]
    cases nf <;> simp [hfm]
  intro n
  have hmem := hp.mem_iff (a := n)
  rw [List.mem_cons, List.mem_append] at hmem
  have h2 : n ∈ ([if nf then f else m, if nf then m else f] : List Nat) ↔ (n = f ∨ n = m) := by cases nf <;> simp [or_comm]
  rw [h2] at hmem
  constructor
  · intro h
    rcases hmem.mp (Or.inr h) with (e | e) | e
    · exact Or.inl e
    · exact Or.inr (e ▸ hm)
    · exact Or.inr e
  · intro h
    have h3 : n = m ∨ n ∈ zy_lvs (zy_sub m (.append (.tag c (.tag (if nf then f else m) .nil)) (.tag (if nf then m else f) .nil)) u) := hmem.mpr (h.elim (fun e => Or.inl (Or.inl e)) Or.inr)
    rcases h3 with e | e
    · subst e
      rw [List.count_cons_self] at hnd
      exact List.count_pos_iff.mp (by omega)
    · exact e
theorem zu_isCut_at (hI : zu_I μ τ u ab) (hm : m ∈ zy_lvs u) (hk : k < 10) (hno : ∀ n ∈ zy_lvs u, k ∉ zu_tb μ τ n) {a c f : Nat} {nf : Bool} (h : zu_isCut μ τ u m k a nf ν ab' c f) : zu_at ν τ (zy_sub m (.append (.tag c (.tag (if nf then f else m) .nil)) (.tag (if nf then m else f) .nil)) u) k f := by
  have hl := zu_isCut_lvs (c := c) (nf := nf) hI hm h.2.1.2.2.2.1
  have ef : zu_tb ν τ f = [k] := zu_tb_T h.2.2.1 (fun x hx => by rw [List.mem_singleton.mp hx]; exact hk)
  refine ⟨(hl f).mpr (Or.inl rfl), by rw [ef]; exact List.mem_singleton.mpr rfl, fun n hn g => ?_⟩
  rcases (hl n).mp hn with e | e
  · exact e
  · rw [zu_tb_T (h.2.2.2.2.2.2.1 n e _ (zu_I_tb hI e).1) (zu_I_tb hI e).2.2] at g
    exact absurd g (hno n e)
end ZWL
end
