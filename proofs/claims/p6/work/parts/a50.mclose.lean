/-! the reference: close; gone, its pieces -/
/-- what close(k) leaves -/
def zv_cls (μ ν : zm_M) (row stk : List Nat) (us : Nat → zy_F) (k : Nat) : Prop :=
  (¬ μ 234 k = 1 ∧ ∃ X, zv_cl μ ν X row stk ∧ zv_gs μ k (fun _ => false) X) ∨ (μ 234 k = 1 ∧ ∃ s m ν2 ab' X, s < 3 ∧ μ 238 k = nI s ∧ zu_at μ s (us s) k m ∧ zu_isOut (zv_fg μ k) s (us s) m k ν2 ab' ∧ zv_cl ν2 ν X row stk ∧ zv_gs ν2 k (fun _ => false) X)
def zv_lsc (μ : zm_M) (s : Nat) : Nat → Int32 → Int32
  | 0, x => x
  | j + 1, x => zv_lsc μ s j (if j ≠ s ∧ 0 < μ 232 j then nI j else x)
/-- does the window k of the screen s find room on o? -/
def zv_grm (μ : zm_M) (s o k : Nat) : Bool := !zv_on μ k (nI s) || decide (μ 235 k ≤ μ 232 o ∧ μ 236 k ≤ μ 233 o)
/-- the window k is on the screen s -/
def zv_ons (μ : zm_M) (s k : Nat) : Bool := decide (0 < μ 234 k ∧ ¬ μ 234 k = 4 ∧ μ 238 k = nI s)
section ZWI
variable {μ : zm_M} {row stk : List Nat} {us : Nat → zy_F}
set_option maxRecDepth 100000 in
theorem ze_Mclose (D : Nat) (h : zR μ row stk us) (w : Int32) : ∃ ν v, ze_E (D + 13) A_Mod_close [.ref 232, .int w] (zm_mk μ) (some (.int v)) (zm_mk ν) ∧ (((∀ k, k < 10 → w = nI k → μ 234 k = 0) ∧ ν = μ) ∨ ∃ k, k < 10 ∧ w = nI k ∧ ¬ μ 234 k = 0 ∧ zv_cls μ ν row stk us k) := by
  have n1 : Int32.ofInt (-1000000001) = -1000000001 := by decide
  obtain ⟨lc, cM⟩ := zM_c (μ := μ)
  rcases zR_win (D + 10) h w with ⟨k, hk, rfl, c0, N1, E1⟩ | ⟨⟨N1, E1⟩, c0⟩
  · obtain ⟨rk, hr⟩ := h.2.2.2.1
    have rb : ∀ x ∈ row, x < 10 := fun x hx => ((h.2.1.2.2 x).mp hx).1
    have sb : ∀ x ∈ stk, x < 10 := fun x hx => ((h.2.2.1.2.2 x).mp hx).1
    have key : ∃ ν a, ze_E (D + 12) A_Mod_closed [.ref 232, .int (nI k)] (zm_mk μ) (some (.int (nI a))) (zm_mk ν) ∧ zv_cls μ ν row stk us k := by
      by_cases c : μ 234 k = 1
      · obtain ⟨q, m, ab, hq, hh, hI, hat⟩ := zR_til h hk c
        obtain ⟨ν2, ν, X, a, ab', E, p1, p2, p3, -⟩ := ze_Mclosed_t (μ := μ) D hr hk hq c hh hI hat h.2.1.1 rb h.2.2.1.1 sb (fun z => by
          have := ((h.2.2.1.2.2 k).mp z).2
          rw [c] at this
          exact absurd this (by decide))
        exact ⟨ν, a, E, Or.inr ⟨c, q, m, ν2, ab', X, hq, hh, hat, p1, p2, p3⟩⟩
      · obtain ⟨ν, X, a, E, p1, p2, -⟩ := ze_Mclosed_f (μ := μ) (D + 1) hr hk c h.2.1.1 rb h.2.2.1.1 sb
        exact ⟨ν, a, E, Or.inl ⟨c, X, p1, p2⟩⟩
    obtain ⟨ν, a, ⟨N2, E2⟩, q⟩ := key
    refine ⟨ν, nI a, ze_in [(0, .ref 232), (1, .int (nI k))] zq_Mod_close (Nat.le_of_ble_eq_true rfl) rfl ⟨N1 + N2, 9, fun F n hF => ?_⟩, Or.inr ⟨k, hk, rfl, c0, q⟩⟩
    simp [zg_0, zg_aload_n, zg_goto, zg_ifCond, zg_iload_n, zg_invokevirtual, zg_ireturn, zg_ldc, zf_X6_close, zi_ld, zi_lda, zi_cmp, zi_retOk, zi_isI, zi_f3, zi_cr, zi_ci, zi_cn, zi_get, zi_set, cM, zq_Mod_isWindow, zq_Mod_closed, E1 F (by omega), E2 F (by omega)]
  · refine ⟨μ, -1000000001, ze_in [(0, .ref 232), (1, .int w)] zq_Mod_close (Nat.le_of_ble_eq_true rfl) rfl ⟨N1, 6, fun F n hF => ?_⟩, Or.inl ⟨c0, rfl⟩⟩
    simp [zg_0, zg_aload_n, zg_goto, zg_ifCond, zg_iload_n, zg_invokevirtual, zg_ireturn, zg_ldc, zf_X6_close, zi_ld, zi_lda, zi_cmp, zi_retOk, zi_isI, zi_f3, zi_cr, zi_ci, zi_cn, zi_get, zi_set, cM, zq_Mod_isWindow, E1 F (by omega), n1]
theorem zv_lsc_fi {s : Nat} (hs : s < 3) : zv_lsc μ s 3 (-1) = zl_fi (fun k => decide (¬ nI k = nI s ∧ 0 < μ 232 k)) (-1) 3 0 := by
  have e : ∀ k, k < 3 → (decide (¬ nI k = nI s ∧ 0 < μ 232 k)) = decide (k ≠ s ∧ 0 < μ 232 k) := fun k hk => by
    have : (¬ nI k = nI s) ↔ k ≠ s := not_congr (nI_eq (by omega) (by omega))
    simp only [this]
  have e0 := e 0 (by decide)
  have e1 := e 1 (by decide)
  have e2 := e 2 (by decide)
  simp only [zv_lsc, zl_fi, Nat.zero_add, e0, e1, Nat.reduceAdd, e2]
  by_cases a0 : 0 ≠ s ∧ 0 < μ 232 0
  · simp only [decide_eq_true a0, if_pos a0, if_true]
  · by_cases a1 : 1 ≠ s ∧ 0 < μ 232 1
    · simp only [decide_eq_false a0, decide_eq_true a1, if_neg a0, if_pos a1, if_true]
      simp
    · by_cases a2 : 2 ≠ s ∧ 0 < μ 232 2
      · simp only [decide_eq_false a0, decide_eq_false a1, decide_eq_true a2, if_neg a0, if_neg a1, if_pos a2, if_true]
        simp
      · simp only [decide_eq_false a0, decide_eq_false a1, decide_eq_false a2, if_neg a0, if_neg a1, if_neg a2]
        simp
set_option maxRecDepth 100000 in
theorem zv_gnA (D : Nat) {s : Nat} (hs : s < 3) : ∀ (j : Nat), j ≤ 3 → ∀ (L : zi_Lc) (x : Int32), zi_nl L = true → zi_get L 0 = some (.ref 232) → zi_get L 1 = some (.int (nI s)) → zi_get L 2 = some (.int x) → zi_get L 3 = some (.int (zv_dn j)) →
    ∃ L', ze_S D 7 (some .int) zc_X6_gone 16 L [] (zm_mk μ) 46 L' [] (zm_mk μ) ∧ zi_nl L' = true ∧ zi_get L' 0 = some (.ref 232) ∧ zi_get L' 1 = some (.int (nI s)) ∧ zi_get L' 2 = some (.int (zv_lsc μ s j x)) := by
  have om : Int32.ofInt (-1) = -1 := by decide
  intro j
  induction j with
  | zero =>
    intro hj L x nl g0 g1 g2 g3
    have c1 : zv_dn 0 < 0 := by decide
    refine ⟨L, ⟨0, 2, fun F m hF => ?_⟩, nl, g0, g1, g2⟩
    simp (maxDischargeDepth := 9) [zg_0, zg_aload_n, zg_bastore, zg_bipush, zg_getfield, zg_goto, zg_iadd, zg_iaload, zg_iastore, zg_iconst, zg_ifCond, zg_if_icmp, zg_iinc, zg_iload, zg_iload_n, zg_imul, zg_invokestatic, zg_invokevirtual, zg_ireturn, zg_istore, zg_istore_n, zg_ldc, zf_X6_gone, zi_ld, zi_lda, zi_cmp, zi_retOk, zi_isI, zi_f3, zi_cr, zi_ci, zi_cn, zi_get_ne, zi_nl_i, zi_nl_r, zi_get_set_eq, nl, g0, g1, g2, g3, c1]
  | succ j ih =>
    intro hj L x nl g0 g1 g2 g3
    have g3 : zi_get L 3 = some (.int (nI j)) := g3
    have c1 : ¬ nI j < 0 := nI_pos (by omega)
    have ij : zi_in (nI j) 3 = true := zm_in (by omega) (by decide)
    have cj : (nI j).toNatClampNeg = j := nI_clamp (by omega)
    have hd : nI j + -1 = zv_dn j := zv_dn_s (by omega)
    have fin : ∀ y, (∃ k, ∀ F n, zi_go zi_ms none 7 (some .int) zc_X6_gone 0 0 (zi_run zi_ms F D) (n + k) 16 L [] (zm_mk μ) [] 0 0 = zi_go zi_ms none 7 (some .int) zc_X6_gone 0 0 (zi_run zi_ms F D) n 16 (zi_set (zi_set L 2 (.int y)) 3 (.int (zv_dn j))) [] (zm_mk μ) [] 0 0) → y = (if j ≠ s ∧ 0 < μ 232 j then nI j else x) → ∃ L', ze_S D 7 (some .int) zc_X6_gone 16 L [] (zm_mk μ) 46 L' [] (zm_mk μ) ∧ zi_nl L' = true ∧ zi_get L' 0 = some (.ref 232) ∧ zi_get L' 1 = some (.int (nI s)) ∧ zi_get L' 2 = some (.int (zv_lsc μ s (j + 1) x)) := fun y ⟨k, E⟩ e => by
      obtain ⟨L', S, p⟩ := ih (by omega) (zi_set (zi_set L 2 (.int y)) 3 (.int (zv_dn j))) y (by simp (maxDischargeDepth := 9) [zi_get_ne, zi_nl_i, zi_nl_r, zi_get_set_eq, nl]) (by simp (maxDischargeDepth := 9) [zi_get_ne, zi_nl_i, zi_nl_r, zi_get_set_eq, nl, g0]) (by simp (maxDischargeDepth := 9) [zi_get_ne, zi_nl_i, zi_nl_r, zi_get_set_eq, nl, g1]) (by simp (maxDischargeDepth := 9) [zi_get_ne, zi_nl_i, zi_nl_r, zi_get_set_eq, nl]) zi_get_set_eq
      refine ⟨L', ze_S.trans ⟨0, k, fun F n _ => E F n⟩ S, ?_⟩
      rw [e] at p
      exact p
    by_cases c2 : j = s
    · have c2' : nI j = nI s := by rw [c2]
      have c1s : ¬ nI s < 0 := nI_pos (by omega)
      have hds : nI s + -1 = zv_dn j := by rw [← c2]; exact hd
      refine fin x ⟨9, fun F n => ?_⟩ (by rw [if_neg (fun z => z.1 c2)])
      simp (maxDischargeDepth := 9) [zg_0, zg_aload_n, zg_bastore, zg_bipush, zg_getfield, zg_goto, zg_iadd, zg_iaload, zg_iastore, zg_iconst, zg_ifCond, zg_if_icmp, zg_iinc, zg_iload, zg_iload_n, zg_imul, zg_invokestatic, zg_invokevirtual, zg_ireturn, zg_istore, zg_istore_n, zg_ldc, zf_X6_gone, zi_ld, zi_lda, zi_cmp, zi_retOk, zi_isI, zi_f3, zi_cr, zi_ci, zi_cn, zi_get_ne, zi_nl_i, zi_nl_r, zi_get_set_eq, nl, g0, g1, g2, g3, c1s, c2', om, hds]
    · have c2' : ¬ nI j = nI s := fun e => c2 ((nI_eq (by omega) (by omega)).mp e)
      by_cases c3 : μ 232 j ≤ 0
      · refine fin x ⟨14, fun F n => ?_⟩ (by rw [if_neg (fun z => Int32.not_lt.mpr c3 z.2)])
        simp (maxDischargeDepth := 9) [zg_0, zg_aload_n, zg_bastore, zg_bipush, zg_getfield, zg_goto, zg_iadd, zg_iaload, zg_iastore, zg_iconst, zg_ifCond, zg_if_icmp, zg_iinc, zg_iload, zg_iload_n, zg_imul, zg_invokestatic, zg_invokevirtual, zg_ireturn, zg_istore, zg_istore_n, zg_ldc, zf_X6_gone, zi_ld, zi_lda, zi_cmp, zi_retOk, zi_isI, zi_f3, zi_cr, zi_ci, zi_cn, zi_get_ne, zi_nl_i, zi_nl_r, zi_get_set_eq, nl, g0, g1, g2, g3, c1, c2', zM_g, zm_iald (k := 0) zM_A232 ij, cj, c3, om, hd]
      · refine fin (nI j) ⟨15, fun F n => ?_⟩ (by rw [if_pos ⟨c2, Int32.not_le.mp c3⟩])
        simp (maxDischargeDepth := 9) [zg_0, zg_aload_n, zg_bastore, zg_bipush, zg_getfield, zg_goto, zg_iadd, zg_iaload, zg_iastore, zg_iconst, zg_ifCond, zg_if_icmp, zg_iinc, zg_iload, zg_iload_n, zg_imul, zg_invokestatic, zg_invokevirtual, zg_ireturn, zg_istore, zg_istore_n, zg_ldc, zf_X6_gone, zi_ld, zi_lda, zi_cmp, zi_retOk, zi_isI, zi_f3, zi_cr, zi_ci, zi_cn, zi_get_ne, zi_nl_i, zi_nl_r, zi_get_set_eq, nl, g0, g1, g2, g3, c1, c2', zM_g, zm_iald (k := 0) zM_A232 ij, cj, c3, om, hd]
set_option maxRecDepth 100000 in
theorem zv_gnB (D : Nat) {s o : Nat} (hs : s < 3) (ho : o < 3) (b0 : Bool) (n0 : Nat) (L0 : zi_Lc) (nl0 : zi_nl L0 = true) (a0 : zi_get L0 0 = some (.ref 232)) (a1 : zi_get L0 1 = some (.int (nI s))) (a2 : zi_get L0 2 = some (.int (nI o))) (a3 : zi_get L0 3 = some (.int (nI n0))) (a4 : zi_get L0 4 = some (.int (if b0 = true then 1 else 0))) (a5 : zi_get L0 5 = some (.int (nI 0))) :
    ∃ L' h', ze_S (D + 1) 7 (some .int) zc_X6_gone 100 L0 [] (zm_mk μ) 174 L' [] h' ∧ (zi_nl L' = true ∧ zi_get L' 0 = some (.ref 232) ∧ zi_get L' 1 = some (.int (nI s)) ∧ zi_get L' 2 = some (.int (nI o)) ∧ zi_get L' 3 = some (.int (nI (n0 + zl_ct (fun k => zv_on μ k (nI s)) 10))) ∧ zi_get L' 4 = some (.int (if zv_gd (zv_grm μ s o) b0 10 = true then 1 else 0)) ∧ zm_mk μ = h') := by
  have h10 : (Int8.ofInt 10).toInt32 = (10 : Int32) := by decide
  have is : zi_in (nI o) 3 = true := zm_in ho (by decide)
  have cs : (nI o).toNatClampNeg = o := nI_clamp (by omega)
  have n1 : ¬ (1 : Int32) = 0 := by decide
  obtain ⟨lc, cM⟩ := zM_c (μ := μ)
  refine ze_loopS (Q := fun i L hp => i ≤ 10 ∧ zi_nl L = true ∧ zi_get L 0 = some (.ref 232) ∧ zi_get L 1 = some (.int (nI s)) ∧ zi_get L 2 = some (.int (nI o)) ∧ zi_get L 5 = some (.int (nI i)) ∧ zm_mk μ = hp ∧ ∃ (b : Bool) (z : Nat), zi_get L 4 = some (.int (if b = true then 1 else 0)) ∧ zi_get L 3 = some (.int (nI z)) ∧ (b = zv_gd (zv_grm μ s o) b0 i ∧ z = n0 + zl_ct (fun k => zv_on μ k (nI s)) i)) (R := fun L' h' => zi_nl L' = true ∧ zi_get L' 0 = some (.ref 232) ∧ zi_get L' 1 = some (.int (nI s)) ∧ zi_get L' 2 = some (.int (nI o)) ∧ zi_get L' 3 = some (.int (nI (n0 + zl_ct (fun k => zv_on μ k (nI s)) 10))) ∧ zi_get L' 4 = some (.int (if zv_gd (zv_grm μ s o) b0 10 = true then 1 else 0)) ∧ zm_mk μ = h') 10 ?_ ?_ 10 0 _ _ (by omega) ⟨by omega, nl0, a0, a1, a2, a5, rfl, b0, n0, a4, a3, rfl, rfl⟩
  · rintro i L _ hi ⟨-, nl, g0, g1, g2, g5, rfl, b, z, g4, g3, hq⟩
    obtain ⟨hq1, hq2⟩ := hq
    have c1 : ¬ (10 : Int32) ≤ nI i := nI_ge (b := 10) hi (by decide)
    have ik : zi_in (nI i) 10 = true := zm_in hi (by decide)
    have ck : (nI i).toNatClampNeg = i := nI_clamp (by omega)
    obtain ⟨N1, E1⟩ := ze_McanBeWhole (μ := μ) D hi (μ 232 o) (μ 233 o)
    obtain ⟨N2, E2⟩ := ze_MisOnScreen (μ := μ) D hi (nI s)
    have hs1 : zv_gd (zv_grm μ s o) b0 (i + 1) = (b && zv_grm μ s o i) := by rw [hq1]; rfl
    have hz1 : n0 + zl_ct (fun k => zv_on μ k (nI s)) (i + 1) = z + if zv_on μ i (nI s) = true then 1 else 0 := by rw [hq2]; exact (Nat.add_assoc _ _ _).symm
    have hr : zv_grm μ s o i = (!zv_on μ i (nI s) || decide (μ 235 i ≤ μ 232 o ∧ μ 236 i ≤ μ 233 o)) := rfl
    rw [hr] at hs1
    by_cases c2 : zv_on μ i (nI s) = true
    · rw [if_pos c2] at E2 hz1
      rw [c2] at hs1
      cases b with
      | false =>
        have g4 : zi_get L 4 = some (.int 0) := g4
        refine ⟨zi_set (zi_set (zi_set L 4 (.int 0)) 3 (.int (nI (z + 1)))) 5 (.int (nI (i + 1))), zm_mk μ, ⟨N1 + N2, 19, fun F m hF => ?_⟩, by omega, ?_, ?_, ?_, ?_, zi_get_set_eq, rfl, false, z + 1, ?_, ?_, ⟨hs1.symm, hz1.symm⟩⟩
        · simp (maxDischargeDepth := 9) [zg_0, zg_aload_n, zg_bastore, zg_bipush, zg_getfield, zg_goto, zg_iadd, zg_iaload, zg_iastore, zg_iconst, zg_ifCond, zg_if_icmp, zg_iinc, zg_iload, zg_iload_n, zg_imul, zg_invokestatic, zg_invokevirtual, zg_ireturn, zg_istore, zg_istore_n, zg_ldc, zf_X6_gone, zi_ld, zi_lda, zi_cmp, zi_retOk, zi_isI, zi_f3, zi_cr, zi_ci, zi_cn, zi_get_ne, zi_nl_i, zi_nl_r, zi_get_set_eq, nl, g0, g1, g2, g5, g4, g3, h10, c1, cM, zq_Mod_isOnScreen, E2 F (by omega), nI_1]
        · simp (maxDischargeDepth := 9) [zi_get_ne, zi_nl_i, zi_nl_r, zi_get_set_eq, nl]
        · simp (maxDischargeDepth := 9) [zi_get_ne, zi_nl_i, zi_nl_r, zi_get_set_eq, nl, g0]
        · simp (maxDischargeDepth := 9) [zi_get_ne, zi_nl_i, zi_nl_r, zi_get_set_eq, nl, g1]
        · simp (maxDischargeDepth := 9) [zi_get_ne, zi_nl_i, zi_nl_r, zi_get_set_eq, nl, g2]
        · simp (maxDischargeDepth := 9) [zi_get_ne, zi_nl_i, zi_nl_r, zi_get_set_eq, nl, g4]
        · simp (maxDischargeDepth := 9) [zi_get_ne, zi_nl_i, zi_nl_r, zi_get_set_eq, nl, g3]
      | true =>
        have g4 : zi_get L 4 = some (.int 1) := g4
        by_cases c4 : μ 235 i ≤ μ 232 o ∧ μ 236 i ≤ μ 233 o
        · rw [if_pos c4] at E1
          refine ⟨zi_set (zi_set (zi_set L 4 (.int 1)) 3 (.int (nI (z + 1)))) 5 (.int (nI (i + 1))), zm_mk μ, ⟨N1 + N2, 37, fun F m hF => ?_⟩, by omega, ?_, ?_, ?_, ?_, zi_get_set_eq, rfl, true, z + 1, ?_, ?_, ⟨by rw [hs1, decide_eq_true c4]; rfl, hz1.symm⟩⟩
          · simp (maxDischargeDepth := 9) [zg_0, zg_aload_n, zg_bastore, zg_bipush, zg_getfield, zg_goto, zg_iadd, zg_iaload, zg_iastore, zg_iconst, zg_ifCond, zg_if_icmp, zg_iinc, zg_iload, zg_iload_n, zg_imul, zg_invokestatic, zg_invokevirtual, zg_ireturn, zg_istore, zg_istore_n, zg_ldc, zf_X6_gone, zi_ld, zi_lda, zi_cmp, zi_retOk, zi_isI, zi_f3, zi_cr, zi_ci, zi_cn, zi_get_ne, zi_nl_i, zi_nl_r, zi_get_set_eq, nl, g0, g1, g2, g5, g4, g3, h10, c1, n1, zM_g, zm_iald (k := 0) zM_A232 is, zm_iald (k := 0) zM_A233 is, cs, cM, zq_Mod_isOnScreen, zq_Mod_canBeWhole, E1 F (by omega), E2 F (by omega), nI_1]
          · simp (maxDischargeDepth := 9) [zi_get_ne, zi_nl_i, zi_nl_r, zi_get_set_eq, nl]
          · simp (maxDischargeDepth := 9) [zi_get_ne, zi_nl_i, zi_nl_r, zi_get_set_eq, nl, g0]
          · simp (maxDischargeDepth := 9) [zi_get_ne, zi_nl_i, zi_nl_r, zi_get_set_eq, nl, g1]
          · simp (maxDischargeDepth := 9) [zi_get_ne, zi_nl_i, zi_nl_r, zi_get_set_eq, nl, g2]
          · simp (maxDischargeDepth := 9) [zi_get_ne, zi_nl_i, zi_nl_r, zi_get_set_eq, nl, g4]
          · simp (maxDischargeDepth := 9) [zi_get_ne, zi_nl_i, zi_nl_r, zi_get_set_eq, nl, g3]
        · rw [if_neg c4] at E1
          refine ⟨zi_set (zi_set (zi_set L 4 (.int 0)) 3 (.int (nI (z + 1)))) 5 (.int (nI (i + 1))), zm_mk μ, ⟨N1 + N2, 36, fun F m hF => ?_⟩, by omega, ?_, ?_, ?_, ?_, zi_get_set_eq, rfl, false, z + 1, ?_, ?_, ⟨by rw [hs1, decide_eq_false c4]; rfl, hz1.symm⟩⟩
          · simp (maxDischargeDepth := 9) [zg_0, zg_aload_n, zg_bastore, zg_bipush, zg_getfield, zg_goto, zg_iadd, zg_iaload, zg_iastore, zg_iconst, zg_ifCond, zg_if_icmp, zg_iinc, zg_iload, zg_iload_n, zg_imul, zg_invokestatic, zg_invokevirtual, zg_ireturn, zg_istore, zg_istore_n, zg_ldc, zf_X6_gone, zi_ld, zi_lda, zi_cmp, zi_retOk, zi_isI, zi_f3, zi_cr, zi_ci, zi_cn, zi_get_ne, zi_nl_i, zi_nl_r, zi_get_set_eq, nl, g0, g1, g2, g5, g4, g3, h10, c1, n1, zM_g, zm_iald (k := 0) zM_A232 is, zm_iald (k := 0) zM_A233 is, cs, cM, zq_Mod_isOnScreen, zq_Mod_canBeWhole, E1 F (by omega), E2 F (by omega), nI_1]
          · simp (maxDischargeDepth := 9) [zi_get_ne, zi_nl_i, zi_nl_r, zi_get_set_eq, nl]
          · simp (maxDischargeDepth := 9) [zi_get_ne, zi_nl_i, zi_nl_r, zi_get_set_eq, nl, g0]
          · simp (maxDischargeDepth := 9) [zi_get_ne, zi_nl_i, zi_nl_r, zi_get_set_eq, nl, g1]
          · simp (maxDischargeDepth := 9) [zi_get_ne, zi_nl_i, zi_nl_r, zi_get_set_eq, nl, g2]
          · simp (maxDischargeDepth := 9) [zi_get_ne, zi_nl_i, zi_nl_r, zi_get_set_eq, nl, g4]
          · simp (maxDischargeDepth := 9) [zi_get_ne, zi_nl_i, zi_nl_r, zi_get_set_eq, nl, g3]
    · rw [if_neg c2] at E2 hz1
      have c2' : zv_on μ i (nI s) = false := by simpa using c2
      rw [c2'] at hs1
      cases b with
      | false =>
        have g4 : zi_get L 4 = some (.int 0) := g4
        refine ⟨zi_set (zi_set (zi_set L 4 (.int 0)) 3 (.int (nI z))) 5 (.int (nI (i + 1))), zm_mk μ, ⟨N1 + N2, 18, fun F m hF => ?_⟩, by omega, ?_, ?_, ?_, ?_, zi_get_set_eq, rfl, false, z, ?_, ?_, ⟨hs1.symm, hz1.symm⟩⟩
        · simp (maxDischargeDepth := 9) [zg_0, zg_aload_n, zg_bastore, zg_bipush, zg_getfield, zg_goto, zg_iadd, zg_iaload, zg_iastore, zg_iconst, zg_ifCond, zg_if_icmp, zg_iinc, zg_iload, zg_iload_n, zg_imul, zg_invokestatic, zg_invokevirtual, zg_ireturn, zg_istore, zg_istore_n, zg_ldc, zf_X6_gone, zi_ld, zi_lda, zi_cmp, zi_retOk, zi_isI, zi_f3, zi_cr, zi_ci, zi_cn, zi_get_ne, zi_nl_i, zi_nl_r, zi_get_set_eq, nl, g0, g1, g2, g5, g4, g3, h10, c1, cM, zq_Mod_isOnScreen, E2 F (by omega), nI_1]
        · simp (maxDischargeDepth := 9) [zi_get_ne, zi_nl_i, zi_nl_r, zi_get_set_eq, nl]
        · simp (maxDischargeDepth := 9) [zi_get_ne, zi_nl_i, zi_nl_r, zi_get_set_eq, nl, g0]
        · simp (maxDischargeDepth := 9) [zi_get_ne, zi_nl_i, zi_nl_r, zi_get_set_eq, nl, g1]
        · simp (maxDischargeDepth := 9) [zi_get_ne, zi_nl_i, zi_nl_r, zi_get_set_eq, nl, g2]
        · simp (maxDischargeDepth := 9) [zi_get_ne, zi_nl_i, zi_nl_r, zi_get_set_eq, nl, g4]
        · simp (maxDischargeDepth := 9) [zi_get_ne, zi_nl_i, zi_nl_r, zi_get_set_eq, nl, g3]
      | true =>
        have g4 : zi_get L 4 = some (.int 1) := g4
        refine ⟨zi_set (zi_set (zi_set L 4 (.int 1)) 3 (.int (nI z))) 5 (.int (nI (i + 1))), zm_mk μ, ⟨N1 + N2, 24, fun F m hF => ?_⟩, by omega, ?_, ?_, ?_, ?_, zi_get_set_eq, rfl, true, z, ?_, ?_, ⟨by rw [hs1]; rfl, hz1.symm⟩⟩
        · simp (maxDischargeDepth := 9) [zg_0, zg_aload_n, zg_bastore, zg_bipush, zg_getfield, zg_goto, zg_iadd, zg_iaload, zg_iastore, zg_iconst, zg_ifCond, zg_if_icmp, zg_iinc, zg_iload, zg_iload_n, zg_imul, zg_invokestatic, zg_invokevirtual, zg_ireturn, zg_istore, zg_istore_n, zg_ldc, zf_X6_gone, zi_ld, zi_lda, zi_cmp, zi_retOk, zi_isI, zi_f3, zi_cr, zi_ci, zi_cn, zi_get_ne, zi_nl_i, zi_nl_r, zi_get_set_eq, nl, g0, g1, g2, g5, g4, g3, h10, c1, n1, cM, zq_Mod_isOnScreen, E2 F (by omega), nI_1]
        · simp (maxDischargeDepth := 9) [zi_get_ne, zi_nl_i, zi_nl_r, zi_get_set_eq, nl]
        · simp (maxDischargeDepth := 9) [zi_get_ne, zi_nl_i, zi_nl_r, zi_get_set_eq, nl, g0]
        · simp (maxDischargeDepth := 9) [zi_get_ne, zi_nl_i, zi_nl_r, zi_get_set_eq, nl, g1]
        · simp (maxDischargeDepth := 9) [zi_get_ne, zi_nl_i, zi_nl_r, zi_get_set_eq, nl, g2]
        · simp (maxDischargeDepth := 9) [zi_get_ne, zi_nl_i, zi_nl_r, zi_get_set_eq, nl, g4]
        · simp (maxDischargeDepth := 9) [zi_get_ne, zi_nl_i, zi_nl_r, zi_get_set_eq, nl, g3]
  · rintro L _ ⟨-, nl, g0, g1, g2, g5, rfl, b, z, g4, g3, hq⟩
    obtain ⟨hq1, hq2⟩ := hq
    subst hq1
    subst hq2
    have c1 : (10 : Int32) ≤ nI 10 := by decide
    refine ⟨L, zm_mk μ, ⟨0, 3, fun F m hF => ?_⟩, nl, g0, g1, g2, g3, g4, rfl⟩
    simp (maxDischargeDepth := 9) [zg_0, zg_aload_n, zg_bastore, zg_bipush, zg_getfield, zg_goto, zg_iadd, zg_iaload, zg_iastore, zg_iconst, zg_ifCond, zg_if_icmp, zg_iinc, zg_iload, zg_iload_n, zg_imul, zg_invokestatic, zg_invokevirtual, zg_ireturn, zg_istore, zg_istore_n, zg_ldc, zf_X6_gone, zi_ld, zi_lda, zi_cmp, zi_retOk, zi_isI, zi_f3, zi_cr, zi_ci, zi_cn, zi_get_ne, zi_nl_i, zi_nl_r, zi_get_set_eq, nl, g0, g1, g2, g5, h10, c1]
end ZWI
