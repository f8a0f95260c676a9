/-! what is kept -/
def zdP (s : Nat) : Nat := 117 + 55 * s
def zdQ (s : Nat) : Nat := 120 + 55 * s
theorem zdK_h {s : Nat} (h : s < 3) : zh_2[zdK s]? = some (0, [.ref (zdV s + 1), .ref (zdP s + 1), .ref (zdQ s + 1), .int 0]) := by
  match s, h with
  | 0, _ => decide +kernel
  | 1, _ => decide +kernel
  | 2, _ => decide +kernel
theorem zdP_h {s : Nat} (h : s < 3) : zh_2[zdP s]? = some (11, [.ref (zdP s + 2), .ref (zdP s + 3)]) ∧ zm_isA 7 (zdP s + 1) 10 ∧ zm_isA 7 (zdP s + 2) 10 ∧ zm_isA 8 (zdQ s) 10 := by
  match s, h with
  | 0, _ => exact ⟨by decide +kernel, zm_isA_of (by decide +kernel), zm_isA_of (by decide +kernel), zm_isA_of (by decide +kernel)⟩
  | 1, _ => exact ⟨by decide +kernel, zm_isA_of (by decide +kernel), zm_isA_of (by decide +kernel), zm_isA_of (by decide +kernel)⟩
  | 2, _ => exact ⟨by decide +kernel, zm_isA_of (by decide +kernel), zm_isA_of (by decide +kernel), zm_isA_of (by decide +kernel)⟩
section ZK1
variable {μ : zm_M}
theorem zdK_c {s : Nat} (h : s < 3) : (zm_mk μ)[zdK s]? = some (0, [.ref (zdV s + 1), .ref (zdP s + 1), .ref (zdQ s + 1), .int (μ (zdK s) 3)]) := zm_get (zdK_h h)
theorem zdK_g {s : Nat} (h : s < 3) : zi_gf (zm_mk μ) 0 0 (zdK s) = some (.ref (zdV s + 1)) ∧ zi_gf (zm_mk μ) 0 1 (zdK s) = some (.ref (zdP s + 1)) ∧ zi_gf (zm_mk μ) 0 2 (zdK s) = some (.ref (zdQ s + 1)) ∧ zi_gf (zm_mk μ) 0 3 (zdK s) = some (.int (μ (zdK s) 3)) :=
  ⟨zm_gfr (zdK_h h) (by decide) rfl, zm_gfr (zdK_h h) (by decide) rfl, zm_gfr (zdK_h h) (by decide) rfl, zm_gfi (zdK_h h) (by decide) rfl⟩
theorem zdK_p3 {s : Nat} (h : s < 3) {x : Int32} (hx : x = 0 ∨ x = 1) : zi_pf (zm_mk μ) 0 3 (zdK s) (.int x) = some (zm_mk (zm_up μ (zdK s) 3 x)) := zm_pfi (zdK_h h) (by decide) rfl (by rcases hx with rfl | rfl <;> decide)
def zd_has (μ : zm_M) (s k : Nat) : Bool := decide (¬ μ (zdK s) 3 = 0 ∧ (¬ μ (zdQ s) k = 0 ∨ ¬ μ (zdV s + 3) k < 0))
set_option maxRecDepth 100000 in
theorem ze_has (D : Nat) {s k : Nat} (hs : s < 3) (hk : k < 10) : ze_E (D + 2) A_Kept_has [.ref (zdK s + 1), .int (nI k)] (zm_mk μ) (some (.int (if zd_has μ s k = true then 1 else 0))) (zm_mk μ) := by
  refine ze_in [(0, .ref (zdK s + 1)), (1, .int (nI k))] zq_Kept_has (Nat.le_of_ble_eq_true rfl) rfl ?_
  obtain ⟨N1, E1⟩ := ze_Tree_leafOf (μ := μ) D (zdV_at hs) hk
  obtain ⟨l1, c1⟩ := zt_c (μ := μ) (zdV_at hs)
  have i1 : zi_in (nI k) 10 = true := zm_in hk (by decide)
  have e1 : (nI k).toNatClampNeg = k := nI_clamp (by omega)
  refine ⟨N1, 17, fun F n hF => ?_⟩
  by_cases c2 : μ (zdK s) 3 = 0
  · have hz : ¬ zd_has μ s k = true := fun q => (of_decide_eq_true q).1 c2
    rw [if_neg hz]
    simp [zg_0, zg_aload_n, zg_baload, zg_getfield, zg_goto, zg_iconst, zg_ifCond, zg_iload_n, zg_invokevirtual, zg_ireturn, zf_X0_has, zi_ld, zi_lda, zi_cmp, zi_retOk, zi_isI, zi_f3, zi_cr, zi_ci, zi_cn, zi_get, zi_set, zdK_g hs, c2]
  · by_cases c3 : μ (zdQ s) k = 0
    · by_cases c4 : μ (zdV s + 3) k < 0
      · have hz : ¬ zd_has μ s k = true := fun q => (of_decide_eq_true q).2.elim (fun q => q c3) (fun q => q c4)
        rw [if_neg hz]
        simp [zg_0, zg_aload_n, zg_baload, zg_getfield, zg_goto, zg_iconst, zg_ifCond, zg_iload_n, zg_invokevirtual, zg_ireturn, zf_X0_has, zi_ld, zi_lda, zi_cmp, zi_retOk, zi_isI, zi_f3, zi_cr, zi_ci, zi_cn, zi_get, zi_set, zdK_g hs, c2, zm_bald (zdP_h hs).2.2.2 i1, e1, c3, zq_Tree_leafOf, c1, E1 F (by omega), c4]
      · have hz : zd_has μ s k = true := decide_eq_true ⟨c2, Or.inr c4⟩
        rw [if_pos hz]
        simp [zg_0, zg_aload_n, zg_baload, zg_getfield, zg_goto, zg_iconst, zg_ifCond, zg_iload_n, zg_invokevirtual, zg_ireturn, zf_X0_has, zi_ld, zi_lda, zi_cmp, zi_retOk, zi_isI, zi_f3, zi_cr, zi_ci, zi_cn, zi_get, zi_set, zdK_g hs, c2, zm_bald (zdP_h hs).2.2.2 i1, e1, c3, zq_Tree_leafOf, c1, E1 F (by omega), c4]
    · have hz : zd_has μ s k = true := decide_eq_true ⟨c2, Or.inl c3⟩
      rw [if_pos hz]
      simp [zg_0, zg_aload_n, zg_baload, zg_getfield, zg_goto, zg_iconst, zg_ifCond, zg_iload_n, zg_invokevirtual, zg_ireturn, zf_X0_has, zi_ld, zi_lda, zi_cmp, zi_retOk, zi_isI, zi_f3, zi_cr, zi_ci, zi_cn, zi_get, zi_set, zdK_g hs, c2, zm_bald (zdP_h hs).2.2.2 i1, e1, c3]
set_option maxRecDepth 100000 in
theorem ze_forget (D : Nat) {s : Nat} (hs : s < 3) : ze_E (D + 1) A_Kept_forget [.ref (zdK s + 1)] (zm_mk μ) none (zm_mk (zm_up μ (zdK s) 3 0)) := by
  refine ze_in [(0, .ref (zdK s + 1))] zq_Kept_forget (Nat.le_of_ble_eq_true rfl) rfl ⟨0, 4, fun F n hF => ?_⟩
  simp [zg_0, zg_aload_n, zg_iconst, zg_putfield, zg_return, zf_X0_forget, zi_ld, zi_lda, zi_cmp, zi_retOk, zi_isI, zi_f3, zi_cr, zi_ci, zi_cn, zi_get, zi_set, zdK_p3 hs (Or.inl rfl)]
set_option maxRecDepth 100000 in
theorem ze_keepPlace (D : Nat) {s k : Nat} (hs : s < 3) (hk : k < 10) {x : Int32} (hx : x = 0 ∨ x = 1) : ze_E (D + 1) A_Kept_keepPlace [.ref (zdK s + 1), .int (nI k), .int x, .ref (zdW k + 2 + 1)] (zm_mk μ) none (zm_mk (zm_up (zm_up (zm_up μ (zdQ s) k x) (zdP s + 1) k (μ (zdW k + 2) 0)) (zdP s + 2) k (μ (zdW k + 2) 1))) := by
  refine ze_in [(0, .ref (zdK s + 1)), (1, .int (nI k)), (2, .int x), (3, .ref (zdW k + 2 + 1))] zq_Kept_keepPlace (Nat.le_of_ble_eq_true rfl) rfl ⟨0, 24, fun F n hF => ?_⟩
  have i1 : zi_in (nI k) 10 = true := zm_in hk (by decide)
  have e1 : (nI k).toNatClampNeg = k := nI_clamp (by omega)
  obtain ⟨p0, p1, p2, p3⟩ := zdP_h hs
  have w2 := (zdW_at hk).2.2
  have r1 : zm_up μ (zdQ s) k x (zdW k + 2) 0 = μ (zdW k + 2) 0 := zm_up_ne (by unfold zdQ zdW; omega)
  have r2 : zm_up (zm_up μ (zdQ s) k x) (zdP s + 1) k (μ (zdW k + 2) 0) (zdW k + 2) 1 = μ (zdW k + 2) 1 := by
    rw [zm_up_ne (by unfold zdP zdW; omega), zm_up_ne (by unfold zdQ zdW; omega)]
  simp [zg_0, zg_aaload, zg_aload_n, zg_bastore, zg_getfield, zg_iaload, zg_iastore, zg_iconst, zg_iload_n, zg_return, zf_X0_keepPlace, zi_ld, zi_lda, zi_cmp, zi_retOk, zi_isI, zi_f3, zi_cr, zi_ci, zi_cn, zi_get, zi_set, zdK_g hs, zm_bast p3 i1 hx, e1, zm_ax0 p0, zm_ax1 p0, zm_iald (k := 0) w2 zm_in0, zm_iald (k := 0) w2 zm_in1, zm_cl0, zm_cl1, zm_iast p1 i1, zm_iast p2 i1, r1, r2]
/-- what is kept with the window k is forgotten -/
def zd_fgt (μ ν : zm_M) (p : Nat → Bool) : Prop := (∀ s, s < 3 → ν (zdK s) 3 = if p s = true then 0 else μ (zdK s) 3) ∧ ∀ c b, (∀ s, s < 3 → c = zdK s → b ≠ 3) → ν c b = μ c b
theorem zdK_inj {i j : Nat} (h : zdK i = zdK j) : i = j := by
  unfold zdK at h
  omega
set_option maxRecDepth 100000 in
theorem ze_forgetKeptWith (D : Nat) {k : Nat} (hk : k < 10) : ∃ ν, ze_E (D + 3) A_Desk_forgetKeptWith [.ref 1, .int (nI k)] (zm_mk μ) none (zm_mk ν) ∧ zd_fgt μ ν (fun s => zd_has μ s k) := by
  have key : ∃ r h', ze_G (D + 2) 3 none zc_X5_forgetKeptWith 2 [(2, .int (nI 0)), (0, .ref 1), (1, .int (nI k))] [] (zm_mk μ) r h' ∧ (r = none ∧ ∃ ν, zm_mk ν = h' ∧ zd_fgt μ ν (fun s => zd_has μ s k)) := by
    refine ze_loop (Q := fun i L hp => i ≤ 3 ∧ zi_nl L = true ∧ zi_get L 0 = some (.ref 1) ∧ zi_get L 1 = some (.int (nI k)) ∧ zi_get L 2 = some (.int (nI i)) ∧ ∃ ν : zm_M, zm_mk ν = hp ∧ (∀ s, s < 3 → ν (zdK s) 3 = if s < i ∧ zd_has μ s k = true then 0 else μ (zdK s) 3) ∧ (∀ c b, (∀ s, s < 3 → c = zdK s → b ≠ 3) → ν c b = μ c b) ∧ (True)) (R := fun r h' => r = none ∧ ∃ ν, zm_mk ν = h' ∧ zd_fgt μ ν (fun s => zd_has μ s k)) 3 ?_ ?_ 3 0 _ _ (by omega) ⟨by omega, rfl, rfl, rfl, rfl, μ, rfl, (fun s _ => by rw [if_neg (by omega)]), fun _ _ _ => rfl, trivial⟩
    · rintro i L _ hi ⟨-, nl, g0, g1, g2, ν, rfl, f1, f2, hq⟩
      have c1 : ¬ (3 : Int32) ≤ nI i := nI_ge (b := 3) hi (by decide)
      have hsame : ν (zdK i) 3 = μ (zdK i) 3 := by rw [f1 i hi, if_neg (by omega)]
      have eh : zd_has ν i k = zd_has μ i k := by
        unfold zd_has
        rw [hsame, f2 (zdQ i) k (fun s _ e => by unfold zdQ zdK at e; omega), f2 (zdV i + 3) k (fun s _ e => by unfold zdV zdK at e; omega)]
      obtain ⟨N1, E1⟩ := ze_has (μ := ν) D hi hk
      rw [eh] at E1
      have ck := zdK_c (μ := ν) hi
      by_cases c2 : zd_has μ i k = true
      · rw [if_pos c2] at E1
        obtain ⟨N2, E2⟩ := ze_forget (μ := ν) (D + 1) hi
        have f1' : ∀ s, s < 3 → zm_up ν (zdK i) 3 0 (zdK s) 3 = if s < i + 1 ∧ zd_has μ s k = true then 0 else μ (zdK s) 3 := by
          intro s hs
          by_cases e : s = i
          · subst e
            rw [zm_up_eq, if_pos ⟨by omega, c2⟩]
          · rw [zm_up_ne (fun q => e (zdK_inj q.1)), f1 s hs]
            by_cases q : s < i ∧ zd_has μ s k = true
            · rw [if_pos q, if_pos ⟨by omega, q.2⟩]
            · rw [if_neg q, if_neg (fun z => q ⟨by omega, z.2⟩)]
        left
        refine ⟨zi_set L 2 (.int (nI (i + 1))), zm_mk (zm_up ν (zdK i) 3 0), ⟨N1 + N2, 19, fun F m hF => ?_⟩, by omega, ?_, ?_, ?_, zi_get_set_eq, _, rfl, f1', (fun c b hc => (zm_up_ne (fun q => hc i hi q.1 q.2)).trans (f2 c b hc)), trivial⟩
        · simp (maxDischargeDepth := 9) [zg_0, zg_aaload, zg_aload_n, zg_getfield, zg_goto, zg_iconst, zg_ifCond, zg_if_icmp, zg_iinc, zg_iload_n, zg_invokevirtual, zg_istore_n, zg_return, zf_X5_forgetKeptWith, zi_ld, zi_lda, zi_cmp, zi_retOk, zi_isI, zi_f3, zi_cr, zi_ci, zi_cn, zi_get_ne, zi_nl_i, zi_nl_r, zi_get_set_eq, nl, g0, g1, g2, c1, zd_g, zd_s hi, zdS_g hi, zq_Kept_has, zq_Kept_forget, ck, E1 F (by omega), E2 F (by omega), nI_1]
        · simp (maxDischargeDepth := 9) [zi_get_ne, zi_nl_i, zi_nl_r, zi_get_set_eq, nl]
        · simp (maxDischargeDepth := 9) [zi_get_ne, zi_nl_i, zi_nl_r, zi_get_set_eq, nl, g0]
        · simp (maxDischargeDepth := 9) [zi_get_ne, zi_nl_i, zi_nl_r, zi_get_set_eq, nl, g1]
      · rw [if_neg c2] at E1
        have N2 : Nat := 0
        have f1' : ∀ s, s < 3 → ν (zdK s) 3 = if s < i + 1 ∧ zd_has μ s k = true then 0 else μ (zdK s) 3 := by
          intro s hs
          rw [f1 s hs]
          by_cases q : s < i ∧ zd_has μ s k = true
          · rw [if_pos q, if_pos ⟨by omega, q.2⟩]
          · rw [if_neg q, if_neg (fun z => by
              by_cases e : s = i
              · subst e
                exact c2 z.2
              · exact q ⟨by omega, z.2⟩)]
        left
        refine ⟨zi_set L 2 (.int (nI (i + 1))), zm_mk ν, ⟨N1 + N2, 13, fun F m hF => ?_⟩, by omega, ?_, ?_, ?_, zi_get_set_eq, ν, rfl, f1', f2, trivial⟩
        · simp (maxDischargeDepth := 9) [zg_0, zg_aaload, zg_aload_n, zg_getfield, zg_goto, zg_iconst, zg_ifCond, zg_if_icmp, zg_iinc, zg_iload_n, zg_invokevirtual, zg_istore_n, zg_return, zf_X5_forgetKeptWith, zi_ld, zi_lda, zi_cmp, zi_retOk, zi_isI, zi_f3, zi_cr, zi_ci, zi_cn, zi_get_ne, zi_nl_i, zi_nl_r, zi_get_set_eq, nl, g0, g1, g2, c1, zd_g, zd_s hi, zdS_g hi, zq_Kept_has, ck, E1 F (by omega), nI_1]
        · simp (maxDischargeDepth := 9) [zi_get_ne, zi_nl_i, zi_nl_r, zi_get_set_eq, nl]
        · simp (maxDischargeDepth := 9) [zi_get_ne, zi_nl_i, zi_nl_r, zi_get_set_eq, nl, g0]
        · simp (maxDischargeDepth := 9) [zi_get_ne, zi_nl_i, zi_nl_r, zi_get_set_eq, nl, g1]
    · rintro L _ ⟨-, nl, g0, g1, g2, ν, rfl, f1, f2, hq⟩
      have c1 : (3 : Int32) ≤ nI 3 := by decide
      refine ⟨none, zm_mk ν, ⟨0, 4, fun F m hF => ?_⟩, rfl, ν, rfl, fun s hs => ?_, f2⟩
      · simp [zg_0, zg_aaload, zg_aload_n, zg_getfield, zg_goto, zg_iconst, zg_ifCond, zg_if_icmp, zg_iinc, zg_iload_n, zg_invokevirtual, zg_istore_n, zg_return, zf_X5_forgetKeptWith, zi_ld, zi_lda, zi_cmp, zi_retOk, zi_isI, zi_f3, zi_cr, zi_ci, zi_cn, g0, g2, c1]
      · rw [f1 s hs]
        by_cases q : zd_has μ s k = true
        · rw [if_pos ⟨hs, q⟩, if_pos q]
        · rw [if_neg (fun z => q z.2), if_neg q]
  obtain ⟨r, h', G, rfl, ν, rfl, hA⟩ := key
  refine ⟨ν, ze_in [(0, .ref 1), (1, .int (nI k))] zq_Desk_forgetKeptWith (Nat.le_of_ble_eq_true rfl) rfl (ze_S.end ⟨0, 2, fun F m hF => ?_⟩ G), hA⟩
  simp [zg_0, zg_aaload, zg_aload_n, zg_getfield, zg_goto, zg_iconst, zg_ifCond, zg_if_icmp, zg_iinc, zg_iload_n, zg_invokevirtual, zg_istore_n, zg_return, zf_X5_forgetKeptWith, zi_ld, zi_lda, zi_cmp, zi_retOk, zi_isI, zi_f3, zi_cr, zi_ci, zi_cn, zi_get, zi_set, nI_0]
/-- one of the group is kept there -/
def zd_hasg (μ : zm_M) (g : Nat → Bool) (n s : Nat) : Bool := !zl_al (fun k => !(g k && zd_has μ s k)) n
set_option maxRecDepth 100000 in
theorem ze_forgetKeptWithGroup (D : Nat) {g : Nat → Bool} (hg : zd_gr μ g) : ∃ ν, ze_E (D + 4) A_Desk_forgetKeptWithGroup [.ref 1] (zm_mk μ) none (zm_mk ν) ∧ zd_fgt μ ν (zd_hasg μ g 10) := by
  have h10 : (Int8.ofInt 10).toInt32 = (10 : Int32) := by decide
  have key : ∃ r h', ze_G (D + 3) 2 none zc_X5_forgetKeptWithGroup 2 [(1, .int (nI 0)), (0, .ref 1)] [] (zm_mk μ) r h' ∧ (r = none ∧ ∃ ν, zm_mk ν = h' ∧ zd_fgt μ ν (zd_hasg μ g 10)) := by
    refine ze_loop (Q := fun i L hp => i ≤ 10 ∧ zi_nl L = true ∧ zi_get L 0 = some (.ref 1) ∧ zi_get L 1 = some (.int (nI i)) ∧ ∃ ν : zm_M, zm_mk ν = hp ∧ (zd_fgt μ ν (zd_hasg μ g i)) ∧ (True)) (R := fun r h' => r = none ∧ ∃ ν, zm_mk ν = h' ∧ zd_fgt μ ν (zd_hasg μ g 10)) 10 ?_ ?_ 10 0 _ _ (by omega) ⟨by omega, rfl, rfl, rfl, μ, rfl, ⟨fun s _ => rfl, fun _ _ _ => rfl⟩, trivial⟩
    · rintro i L _ hi ⟨-, nl, g0, g1, ν, rfl, hA, hq⟩
      have c1 : ¬ (10 : Int32) ≤ nI i := nI_ge (b := 10) hi (by decide)
      have i1 : zi_in (nI i) 10 = true := zm_in hi (by decide)
      have e1 : (nI i).toNatClampNeg = i := nI_clamp (by omega)
      obtain ⟨f1, f2⟩ := id hA
      have hgi : ν 31 i = if g i = true then 1 else 0 := by
        rw [f2 31 i (fun s _ e => by unfold zdK at e; omega)]
        exact hg i hi
      have hs1 : ∀ s, zd_hasg μ g (i + 1) s = (zd_hasg μ g i s || (g i && zd_has μ s i)) := by
        intro s
        unfold zd_hasg
        show (!(zl_al _ i && !(g i && zd_has μ s i))) = _
        cases zl_al (fun k => !(g k && zd_has μ s k)) i <;> cases g i <;> cases zd_has μ s i <;> rfl
      by_cases c2 : g i = true
      · rw [if_pos c2] at hgi
        obtain ⟨ξ, ⟨N1, E1⟩, x1, x2⟩ := ze_forgetKeptWith (μ := ν) D hi
        have hA' : zd_fgt μ ξ (zd_hasg μ g (i + 1)) := by
          refine ⟨fun s hs => ?_, fun c b hc => (x2 c b hc).trans (f2 c b hc)⟩
          have q1 := x1 s hs
          have q2 := f1 s hs
          rw [q1, hs1 s, c2, Bool.true_and]
          cases ph : zd_hasg μ g i s with
          | true =>
            rw [ph, if_pos rfl] at q2
            rw [Bool.true_or, if_pos rfl, q2]
            split <;> rfl
          | false =>
            rw [ph, if_neg (by decide)] at q2
            have eh : zd_has ν s i = zd_has μ s i := by
              unfold zd_has
              rw [q2, f2 (zdQ s) i (fun s _ e => by unfold zdQ zdK at e; omega), f2 (zdV s + 3) i (fun s _ e => by unfold zdV zdK at e; omega)]
            simp only [eh]
            rw [Bool.false_or, q2]
        left
        refine ⟨zi_set L 1 (.int (nI (i + 1))), zm_mk ξ, ⟨N1, 13, fun F m hF => ?_⟩, by omega, ?_, ?_, zi_get_set_eq, ξ, rfl, hA', trivial⟩
        · simp (maxDischargeDepth := 9) [zg_0, zg_aload_n, zg_baload, zg_bipush, zg_getfield, zg_goto, zg_iconst, zg_ifCond, zg_if_icmp, zg_iinc, zg_iload_n, zg_invokevirtual, zg_istore_n, zg_return, zf_X5_forgetKeptWithGroup, zi_ld, zi_lda, zi_cmp, zi_retOk, zi_isI, zi_f3, zi_cr, zi_ci, zi_cn, zi_get_ne, zi_nl_i, zi_nl_r, zi_get_set_eq, nl, g0, g1, h10, c1, zd_g, zm_bald zd31_A i1, e1, hgi, zq_Desk_forgetKeptWith, zd_c, E1 F (by omega), nI_1]
        · simp (maxDischargeDepth := 9) [zi_get_ne, zi_nl_i, zi_nl_r, zi_get_set_eq, nl]
        · simp (maxDischargeDepth := 9) [zi_get_ne, zi_nl_i, zi_nl_r, zi_get_set_eq, nl, g0]
      · rw [if_neg c2] at hgi
        have N1 : Nat := 0
        have hA' : zd_fgt μ ν (zd_hasg μ g (i + 1)) := by
          refine ⟨fun s hs => ?_, f2⟩
          have c2' : g i = false := by simpa using c2
          rw [f1 s hs, hs1 s, c2', Bool.false_and, Bool.or_false]
        left
        refine ⟨zi_set L 1 (.int (nI (i + 1))), zm_mk ν, ⟨N1, 10, fun F m hF => ?_⟩, by omega, ?_, ?_, zi_get_set_eq, ν, rfl, hA', trivial⟩
        · simp (maxDischargeDepth := 9) [zg_0, zg_aload_n, zg_baload, zg_bipush, zg_getfield, zg_goto, zg_iconst, zg_ifCond, zg_if_icmp, zg_iinc, zg_iload_n, zg_invokevirtual, zg_istore_n, zg_return, zf_X5_forgetKeptWithGroup, zi_ld, zi_lda, zi_cmp, zi_retOk, zi_isI, zi_f3, zi_cr, zi_ci, zi_cn, zi_get_ne, zi_nl_i, zi_nl_r, zi_get_set_eq, nl, g0, g1, h10, c1, zd_g, zm_bald zd31_A i1, e1, hgi, nI_1]
        · simp (maxDischargeDepth := 9) [zi_get_ne, zi_nl_i, zi_nl_r, zi_get_set_eq, nl]
        · simp (maxDischargeDepth := 9) [zi_get_ne, zi_nl_i, zi_nl_r, zi_get_set_eq, nl, g0]
    · rintro L _ ⟨-, nl, g0, g1, ν, rfl, hA, hq⟩
      have c1 : (10 : Int32) ≤ nI 10 := by decide
      refine ⟨none, zm_mk ν, ⟨0, 4, fun F m hF => ?_⟩, rfl, ν, rfl, hA⟩
      simp [zg_0, zg_aload_n, zg_baload, zg_bipush, zg_getfield, zg_goto, zg_iconst, zg_ifCond, zg_if_icmp, zg_iinc, zg_iload_n, zg_invokevirtual, zg_istore_n, zg_return, zf_X5_forgetKeptWithGroup, zi_ld, zi_lda, zi_cmp, zi_retOk, zi_isI, zi_f3, zi_cr, zi_ci, zi_cn, g0, g1, h10, c1]
  obtain ⟨r, h', G, rfl, ν, rfl, hA⟩ := key
  refine ⟨ν, ze_in [(0, .ref 1)] zq_Desk_forgetKeptWithGroup (Nat.le_of_ble_eq_true rfl) rfl (ze_S.end ⟨0, 2, fun F m hF => ?_⟩ G), hA⟩
  simp [zg_0, zg_aload_n, zg_baload, zg_bipush, zg_getfield, zg_goto, zg_iconst, zg_ifCond, zg_if_icmp, zg_iinc, zg_iload_n, zg_invokevirtual, zg_istore_n, zg_return, zf_X5_forgetKeptWithGroup, zi_ld, zi_lda, zi_cmp, zi_retOk, zi_isI, zi_f3, zi_cr, zi_ci, zi_cn, zi_get, zi_set, nI_0]
end ZK1
