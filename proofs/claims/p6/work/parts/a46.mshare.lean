/-! the reference: share -/
section ZWE
variable {μ : zm_M} {row stk : List Nat} {us : Nat → zy_F} {u : zy_F} {ab : Nat → Int32}
/-- what is above the nodes above the leaf m -/
theorem zu_up_ab {s m : Nat} (hI : zu_I μ s u ab) (hm : m ∈ zy_lvs u) : (∀ y ∈ zy_up m u, y ∈ zy_cts u) ∧ (zu_ab μ s (nI m) = if 0 < (zy_up m u).length then nI ((zy_up m u).getD 0 0) else -1) ∧ ∀ i, i < (zy_up m u).length → zu_ab μ s (nI ((zy_up m u).getD i 0)) = if i + 1 < (zy_up m u).length then nI ((zy_up m u).getD (i + 1) 0) else -1 := by
  obtain ⟨wu, hmi⟩ := zu_I_lv hI hm
  obtain ⟨-, ok, -, hrt⟩ := zu_I_wf hI hmi
  obtain ⟨u1, u2, u3, u4⟩ := zy_up_ok (n := m) u wu hI.2.1 ok hm
  refine ⟨u1, ?_, fun i hi => ?_⟩
  · rw [zu_ab_eq hI hmi]
    by_cases c : 0 < (zy_up m u).length
    · rw [if_pos c]
      exact u3 0 c
    · rw [if_neg c]
      have e : (zy_up m u).length = 0 := by omega
      rw [e] at u4
      have : m = zy_id u := u4
      rw [this]; exact hrt
  · have hy := zy_cts_ids u wu _ (u1 _ (zl_mem hi))
    rw [zu_ab_eq hI hy]
    by_cases c : i + 1 < (zy_up m u).length
    · rw [if_pos c]
      have := u3 (i + 1) c
      rw [List.getD_cons_succ] at this
      exact this
    · rw [if_neg c]
      have e : (zy_up m u).length = i + 1 := by omega
      rw [e, List.getD_cons_succ] at u4
      rw [u4]; exact hrt
theorem zv_shL (D : Nat) {s m a : Nat} (hs : s < 3) (hI : zu_I μ s u ab) (hm : m ∈ zy_lvs u) (ha : a < 2) : ∀ (j i : Nat) (L : zi_Lc), i + j = (zy_up m u).length → zi_nl L = true → zi_get L 0 = some (.ref 232) → zi_get L 2 = some (.int (nI a)) → zi_get L 4 = some (.int (nI s)) → zi_get L 5 = some (.int (if i < (zy_up m u).length then nI ((zy_up m u).getD i 0) else -1)) →
    ∃ L', ze_S (D + 3) 7 (some .int) zc_X6_share 67 L [] (zm_mk μ) 109 L' [] (zm_mk μ) ∧ zi_nl L' = true ∧ (∀ q, q ≠ 5 → zi_get L' q = zi_get L q) ∧ zi_get L' 5 = some (.int (zl_ln (fun y => decide (zu_fm μ s y = nI a)) 0 (-1) ((zy_up m u).drop i) 0)) := by
  obtain ⟨u1, -, u3⟩ := zu_up_ab hI hm
  have h24 : ∀ y ∈ zy_up m u, y < 24 := fun y hy => zu_I_ct hI (u1 y hy)
  have hty : ∀ y ∈ zy_up m u, (μ 244 (24 * s + y) = 2 ∧ zu_fm μ s y = nI 0) ∨ (μ 244 (24 * s + y) = 3 ∧ zu_fm μ s y = nI 1) := fun y hy => by
    rcases zu_I_cut hI (u1 y hy) with e | e
    · exact Or.inl ⟨e, by rw [zu_fm_of e]; decide⟩
    · exact Or.inr ⟨e, by rw [zu_fm_of e]; decide⟩
  obtain ⟨lc, cM⟩ := zM_c (μ := μ)
  generalize zy_up m u = P at *
  have n01 : ¬ nI 0 = nI 1 := by decide
  have n10 : ¬ nI 1 = nI 0 := by decide
  intro j
  induction j with
  | zero =>
    intro i L hj nl g0 g2 g4 g5
    have hi : i = P.length := by omega
    subst hi
    rw [if_neg (Nat.lt_irrefl _)] at g5
    have m1 : (-1 : Int32) < 0 := by decide
    refine ⟨L, ⟨0, 2, fun F m hF => ?_⟩, nl, fun _ _ => rfl, ?_⟩
    · simp (maxDischargeDepth := 9) [zg_0, zg_aload_n, zg_bipush, zg_getfield, zg_goto, zg_iaload, zg_iastore, zg_iconst, zg_ifCond, zg_if_icmp, zg_iload, zg_iload_n, zg_invokestatic, zg_invokevirtual, zg_ireturn, zg_istore, zg_ldc, zf_X6_share, zi_ld, zi_lda, zi_cmp, zi_retOk, zi_isI, zi_f3, zi_cr, zi_ci, zi_cn, zi_get_ne, zi_nl_i, zi_nl_r, zi_get_set_eq, nl, g0, g2, g4, g5, m1]
    · rw [List.drop_length]; exact g5
  | succ j ih =>
    intro i L hj nl g0 g2 g4 g5
    have hi : i < P.length := by omega
    rw [if_pos hi] at g5
    have hmem : P.getD i 0 ∈ P := zl_mem hi
    have hn := u3 i hi
    rw [zl_drop hi]
    generalize P.getD i 0 = y at hmem hn g5
    have hy24 := h24 y hmem
    have m1 : ¬ nI y < 0 := nI_pos (by omega)
    obtain ⟨N1, E1⟩ := ze_spot (h := zm_mk μ) (D + 2) (t := s) (n := y) (by omega)
    have iy : zi_in (nI (24 * s + y)) 168 = true := zm_in (by omega) (by decide)
    have cy : (nI (24 * s + y)).toNatClampNeg = 24 * s + y := nI_clamp (by omega)
    have q1 : ∀ a, a < 2 → (zu_fm μ s y = nI a) → zl_ln (fun y => decide (zu_fm μ s y = nI a)) 0 (-1) (y :: P.drop (i + 1)) 0 = nI y := fun a _ e => by
      show (if decide (zu_fm μ s y = nI a) = true then (if 0 = 0 then nI y else _) else _) = nI y
      rw [if_pos (decide_eq_true e), if_pos rfl]
    have q2 : ∀ a, a < 2 → (¬ zu_fm μ s y = nI a) → zl_ln (fun y => decide (zu_fm μ s y = nI a)) 0 (-1) (y :: P.drop (i + 1)) 0 = zl_ln (fun y => decide (zu_fm μ s y = nI a)) 0 (-1) (P.drop (i + 1)) 0 := fun a _ e => by
      show (if decide (zu_fm μ s y = nI a) = true then (if 0 = 0 then nI y else _) else _) = _
      rw [if_neg (by simpa using e)]
    obtain ⟨N2, E2⟩ := ze_Mabove (μ := μ) (D + 1) (τ := s) (by omega) (nI y)
    rw [hn] at E2
    generalize hx : (if i + 1 < P.length then nI (P.getD (i + 1) 0) else (-1 : Int32)) = x at E2
    rcases (by omega : a = 0 ∨ a = 1) with rfl | rfl
    · rcases hty y hmem with ⟨e1, e2⟩ | ⟨e1, e2⟩
      · rw [q1 0 (by decide) e2]
        refine ⟨L, ⟨N1, 13, fun F m hF => ?_⟩, nl, fun _ _ => rfl, g5⟩
        simp (maxDischargeDepth := 9) [zg_0, zg_aload_n, zg_bipush, zg_getfield, zg_goto, zg_iaload, zg_iastore, zg_iconst, zg_ifCond, zg_if_icmp, zg_iload, zg_iload_n, zg_invokestatic, zg_invokevirtual, zg_ireturn, zg_istore, zg_ldc, zf_X6_share, zi_ld, zi_lda, zi_cmp, zi_retOk, zi_isI, zi_f3, zi_cr, zi_ci, zi_cn, zi_get_ne, zi_nl_i, zi_nl_r, zi_get_set_eq, nl, g0, g2, g4, g5, m1, zM_g, zq_Mod_spot, E1 F (by omega), zm_iald (k := 0) zM_A244 iy, cy, e1, nI_0]
      · rw [q2 0 (by decide) (by rw [e2]; exact n10)]
        obtain ⟨L', S, p1, p2, p3⟩ := ih (i + 1) (zi_set L 5 (.int x)) (by omega) (by simp (maxDischargeDepth := 9) [zi_get_ne, zi_nl_i, zi_nl_r, zi_get_set_eq, nl]) (by simp (maxDischargeDepth := 9) [zi_get_ne, zi_nl_i, zi_nl_r, zi_get_set_eq, nl, g0]) (by simp (maxDischargeDepth := 9) [zi_get_ne, zi_nl_i, zi_nl_r, zi_get_set_eq, nl, g2]) (by simp (maxDischargeDepth := 9) [zi_get_ne, zi_nl_i, zi_nl_r, zi_get_set_eq, nl, g4]) (by rw [hx]; exact zi_get_set_eq)
        refine ⟨L', ze_S.trans ⟨N1 + N2, 19, fun F m hF => ?_⟩ S, p1, fun q hq => ?_, p3⟩
        · simp (maxDischargeDepth := 9) [zg_0, zg_aload_n, zg_bipush, zg_getfield, zg_goto, zg_iaload, zg_iastore, zg_iconst, zg_ifCond, zg_if_icmp, zg_iload, zg_iload_n, zg_invokestatic, zg_invokevirtual, zg_ireturn, zg_istore, zg_ldc, zf_X6_share, zi_ld, zi_lda, zi_cmp, zi_retOk, zi_isI, zi_f3, zi_cr, zi_ci, zi_cn, zi_get_ne, zi_nl_i, zi_nl_r, zi_get_set_eq, nl, g0, g2, g4, g5, m1, zM_g, cM, zq_Mod_spot, zq_Mod_above, E1 F (by omega), E2 F (by omega), zm_iald (k := 0) zM_A244 iy, cy, e1, nI_0]
        · rw [p2 q hq]
          simp (maxDischargeDepth := 9) [zi_get_ne, zi_nl_i, zi_nl_r, zi_get_set_eq, nl, hq]
    · have n1 : ¬ nI 1 = 0 := by decide
      rcases hty y hmem with ⟨e1, e2⟩ | ⟨e1, e2⟩
      · rw [q2 1 (by decide) (by rw [e2]; exact n01)]
        obtain ⟨L', S, p1, p2, p3⟩ := ih (i + 1) (zi_set L 5 (.int x)) (by omega) (by simp (maxDischargeDepth := 9) [zi_get_ne, zi_nl_i, zi_nl_r, zi_get_set_eq, nl]) (by simp (maxDischargeDepth := 9) [zi_get_ne, zi_nl_i, zi_nl_r, zi_get_set_eq, nl, g0]) (by simp (maxDischargeDepth := 9) [zi_get_ne, zi_nl_i, zi_nl_r, zi_get_set_eq, nl, g2]) (by simp (maxDischargeDepth := 9) [zi_get_ne, zi_nl_i, zi_nl_r, zi_get_set_eq, nl, g4]) (by rw [hx]; exact zi_get_set_eq)
        refine ⟨L', ze_S.trans ⟨N1 + N2, 18, fun F m hF => ?_⟩ S, p1, fun q hq => ?_, p3⟩
        · simp (maxDischargeDepth := 9) [zg_0, zg_aload_n, zg_bipush, zg_getfield, zg_goto, zg_iaload, zg_iastore, zg_iconst, zg_ifCond, zg_if_icmp, zg_iload, zg_iload_n, zg_invokestatic, zg_invokevirtual, zg_ireturn, zg_istore, zg_ldc, zf_X6_share, zi_ld, zi_lda, zi_cmp, zi_retOk, zi_isI, zi_f3, zi_cr, zi_ci, zi_cn, zi_get_ne, zi_nl_i, zi_nl_r, zi_get_set_eq, nl, g0, g2, g4, g5, m1, n1, zM_g, cM, zq_Mod_spot, zq_Mod_above, E1 F (by omega), E2 F (by omega), zm_iald (k := 0) zM_A244 iy, cy, e1]
        · rw [p2 q hq]
          simp (maxDischargeDepth := 9) [zi_get_ne, zi_nl_i, zi_nl_r, zi_get_set_eq, nl, hq]
      · rw [q1 1 (by decide) e2]
        refine ⟨L, ⟨N1, 12, fun F m hF => ?_⟩, nl, fun _ _ => rfl, g5⟩
        simp (maxDischargeDepth := 9) [zg_0, zg_aload_n, zg_bipush, zg_getfield, zg_goto, zg_iaload, zg_iastore, zg_iconst, zg_ifCond, zg_if_icmp, zg_iload, zg_iload_n, zg_invokestatic, zg_invokevirtual, zg_ireturn, zg_istore, zg_ldc, zf_X6_share, zi_ld, zi_lda, zi_cmp, zi_retOk, zi_isI, zi_f3, zi_cr, zi_ci, zi_cn, zi_get_ne, zi_nl_i, zi_nl_r, zi_get_set_eq, nl, g0, g2, g4, g5, m1, n1, zM_g, zq_Mod_spot, E1 F (by omega), zm_iald (k := 0) zM_A244 iy, cy, e1]
/-- share: refused, or the nearest cut's share is v -/
def zv_shr (μ ν : zm_M) (us : Nat → zy_F) (w x v : Int32) : Prop :=
  (¬ (∃ k s m a, k < 10 ∧ s < 3 ∧ a < 2 ∧ w = nI k ∧ x = nI a ∧ (10 ≤ v ∧ v ≤ 90) ∧ μ 234 k = 1 ∧ μ 238 k = nI s ∧ zu_at μ s (us s) k m ∧ ¬ zy_nc (zu_fm μ s) x m (us s) < 0) ∧ ν = μ) ∨
  ∃ k s m a, k < 10 ∧ s < 3 ∧ a < 2 ∧ w = nI k ∧ x = nI a ∧ (10 ≤ v ∧ v ≤ 90) ∧ μ 234 k = 1 ∧ μ 238 k = nI s ∧ zu_at μ s (us s) k m ∧ ¬ zy_nc (zu_fm μ s) x m (us s) < 0 ∧ ν = zm_up μ 247 (24 * s + (zy_nc (zu_fm μ s) x m (us s)).toNatClampNeg) v
theorem zy_nc_or {fm : Nat → Int32} {x : Int32} {n : Nat} {t : zy_F} : zy_nc fm x n t = -1 ∨ ∃ c ∈ zy_up n t, zy_nc fm x n t = nI c ∧ fm c = x := by
  unfold zy_nc
  by_cases c : 0 < ((zy_up n t).filter (fun y => decide (fm y = x))).length
  · rw [if_pos c]
    have := zl_mem c
    obtain ⟨h1, h2⟩ := List.mem_filter.mp this
    exact Or.inr ⟨_, h1, rfl, of_decide_eq_true h2⟩
  · rw [if_neg c]; exact Or.inl rfl
set_option maxRecDepth 100000 in
theorem ze_Mshare (D : Nat) (h : zR μ row stk us) (w x v : Int32) : ∃ ν r, ze_E (D + 4) A_Mod_share [.ref 232, .int w, .int x, .int v] (zm_mk μ) (some (.int r)) (zm_mk ν) ∧ zv_shr μ ν us w x v := by
  have n1 : Int32.ofInt (-1000000001) = -1000000001 := by decide
  have n2 : Int32.ofInt (-1000000002) = -1000000002 := by decide
  have h10 : (Int8.ofInt 10).toInt32 = (10 : Int32) := by decide
  have h90 : (Int8.ofInt 90).toInt32 = (90 : Int32) := by decide
  obtain ⟨lc, cM⟩ := zM_c (μ := μ)
  rcases zR_win (D + 1) h w with ⟨k, hk, rfl, c0, N1, E1⟩ | ⟨⟨N1, E1⟩, c0⟩
  · have ik : zi_in (nI k) 10 = true := zm_in hk (by decide)
    have ck : (nI k).toNatClampNeg = k := nI_clamp (by omega)
    rcases zM_isIn (hp := zm_mk μ) (D + 2) x (n := 1) (b := 1) (by decide) (by decide) with ⟨a, ha, rfl, N2, E2⟩ | ⟨⟨N2, E2⟩, hno⟩
    · obtain ⟨N3, E3⟩ := ze_isIn (h := zm_mk μ) (D + 2) v 10 90
      by_cases c1 : 10 ≤ v ∧ v ≤ 90
      · rw [if_pos c1] at E3
        by_cases c2 : μ 234 k = 1
        · obtain ⟨s, m, ab, hs, hh, hI, hat⟩ := zR_til h hk c2
          have is : zi_in (nI s) 3 = true := zm_in hs (by decide)
          obtain ⟨N4, E4⟩ := ze_MleafOf_at (μ := μ) D (by omega) hI hk hat
          obtain ⟨N5, E5⟩ := ze_Mabove (μ := μ) (D + 1) (τ := s) (by omega) (nI m)
          rw [(zu_up_ab hI hat.1).2.1] at E5
          obtain ⟨L', S, nl', p2, p3⟩ := zv_shL (μ := μ) D hs hI hat.1 (by omega : a < 2) (zy_up m (us s)).length 0 [(5, .int (if 0 < (zy_up m (us s)).length then nI ((zy_up m (us s)).getD 0 0) else -1)), (4, .int (nI s)), (0, .ref 232), (1, .int (nI k)), (2, .int (nI a)), (3, .int v)] (Nat.zero_add _) rfl rfl rfl rfl rfl
          generalize hx : (if 0 < (zy_up m (us s)).length then nI ((zy_up m (us s)).getD 0 0) else (-1 : Int32)) = x0 at E5 S p2
          have b0 : zi_get L' 0 = some (.ref 232) := p2 0 (by decide)
          have b3 : zi_get L' 3 = some (.int v) := p2 3 (by decide)
          have b4 : zi_get L' 4 = some (.int (nI s)) := p2 4 (by decide)
          have e5 : zl_ln (fun y => decide (zu_fm μ s y = nI a)) 0 (-1) ((zy_up m (us s)).drop 0) 0 = zy_nc (zu_fm μ s) (nI a) m (us s) := by
            rw [List.drop_zero, zl_ln_eq _ _ _ _ _ (Nat.le_refl _), Nat.sub_zero]
            rfl
          rw [e5] at p3
          have S0 : ze_S (D + 3) 7 (some .int) zc_X6_share 0 [(0, .ref 232), (1, .int (nI k)), (2, .int (nI a)), (3, .int v)] [] (zm_mk μ) 67 [(5, .int x0), (4, .int (nI s)), (0, .ref 232), (1, .int (nI k)), (2, .int (nI a)), (3, .int v)] [] (zm_mk μ) := by
            refine ⟨N1 + N2 + N3 + N4 + N5, 33, fun F n hF => ?_⟩
            simp [zg_0, zg_aload_n, zg_bipush, zg_getfield, zg_goto, zg_iaload, zg_iastore, zg_iconst, zg_ifCond, zg_if_icmp, zg_iload, zg_iload_n, zg_invokestatic, zg_invokevirtual, zg_ireturn, zg_istore, zg_ldc, zf_X6_share, zi_ld, zi_lda, zi_cmp, zi_retOk, zi_isI, zi_f3, zi_cr, zi_ci, zi_cn, zi_get, zi_set, zM_g, h10, h90, cM, zq_Mod_isWindow, zq_Mod_isIn, zq_Mod_leafOf, zq_Mod_above, E1 F (by omega), E2 F (by omega), E3 F (by omega), E4 F (by omega), E5 F (by omega), zm_iald (k := 0) zM_A234 ik, zm_iald (k := 0) zM_A238 ik, ck, c2, hh]
          have uq : ∀ s' m', s' < 3 → μ 238 k = nI s' → zu_at μ s' (us s') k m' → s' = s ∧ m' = m := fun s' m' h1 h2 h3 => by
            have e := (nI_eq (by omega) (by omega)).mp (h2.symm.trans hh)
            subst e
            exact ⟨rfl, hat.2.2 m' h3.1 h3.2.1⟩
          rcases zy_nc_or (fm := zu_fm μ s) (x := nI a) (n := m) (t := us s) with e | ⟨c, hc, e, -⟩
          · rw [e] at p3
            have m1 : ¬ (0 : Int32) ≤ -1 := by decide
            refine ⟨μ, -1000000002, ze_in [(0, .ref 232), (1, .int (nI k)), (2, .int (nI a)), (3, .int v)] zq_Mod_share (Nat.le_of_ble_eq_true rfl) rfl (S0.end (S.end ⟨0, 4, fun F n hF => ?_⟩)), Or.inl ⟨fun ⟨k', s', m', a', q1, q2, q3, q4, q5, q6, q7, q8, q9, q10⟩ => ?_, rfl⟩⟩
            · simp [zg_0, zg_aload_n, zg_bipush, zg_getfield, zg_goto, zg_iaload, zg_iastore, zg_iconst, zg_ifCond, zg_if_icmp, zg_iload, zg_iload_n, zg_invokestatic, zg_invokevirtual, zg_ireturn, zg_istore, zg_ldc, zf_X6_share, zi_ld, zi_lda, zi_cmp, zi_retOk, zi_isI, zi_f3, zi_cr, zi_ci, zi_cn, p3, m1, n2]
            · have e1 := (nI_eq (by omega) (by omega)).mp q4
              subst e1
              obtain ⟨e2, e3⟩ := uq s' m' q2 q8 q9
              subst e2; subst e3
              rw [e] at q10
              exact q10 (by decide)
          · have hc24 := zu_I_ct hI ((zu_up_ab hI hat.1).1 c hc)
            have e' := e
            rw [e] at p3
            have m1 : (0 : Int32) ≤ nI c := Int32.not_lt.mp (nI_pos (by omega))
            obtain ⟨N6, E6⟩ := ze_spot (h := zm_mk μ) (D + 2) (t := s) (n := c) (by omega)
            have iy : zi_in (nI (24 * s + c)) 168 = true := zm_in (by omega) (by decide)
            have cy : (nI (24 * s + c)).toNatClampNeg = 24 * s + c := nI_clamp (by omega)
            refine ⟨zm_up μ 247 (24 * s + c) v, μ 247 (24 * s + c), ze_in [(0, .ref 232), (1, .int (nI k)), (2, .int (nI a)), (3, .int v)] zq_Mod_share (Nat.le_of_ble_eq_true rfl) rfl (S0.end (S.end ⟨N6, 18, fun F n hF => ?_⟩)), Or.inr ⟨k, s, m, a, hk, hs, by omega, rfl, rfl, c1, c2, hh, hat, ?_, ?_⟩⟩
            · have nl := nl'
              simp (maxDischargeDepth := 9) [zg_0, zg_aload_n, zg_bipush, zg_getfield, zg_goto, zg_iaload, zg_iastore, zg_iconst, zg_ifCond, zg_if_icmp, zg_iload, zg_iload_n, zg_invokestatic, zg_invokevirtual, zg_ireturn, zg_istore, zg_ldc, zf_X6_share, zi_ld, zi_lda, zi_cmp, zi_retOk, zi_isI, zi_f3, zi_cr, zi_ci, zi_cn, zi_get_ne, zi_nl_i, zi_nl_r, zi_get_set_eq, nl, p3, b0, b3, b4, m1, zM_g, zq_Mod_spot, E6 F (by omega), zm_iald (k := 0) zM_A247 iy, zm_iast zM_A247 iy, cy]
            · rw [e]; exact nI_pos (by omega)
            · rw [e, nI_clamp (by omega)]
        · refine ⟨μ, -1000000002, ze_in [(0, .ref 232), (1, .int (nI k)), (2, .int (nI a)), (3, .int v)] zq_Mod_share (Nat.le_of_ble_eq_true rfl) rfl ⟨N1 + N2 + N3, 22, fun F n hF => ?_⟩, Or.inl ⟨fun ⟨k', s', m', a', q1, q2, q3, q4, q5, q6, q7, _⟩ => ?_, rfl⟩⟩
          · simp [zg_0, zg_aload_n, zg_bipush, zg_getfield, zg_goto, zg_iaload, zg_iastore, zg_iconst, zg_ifCond, zg_if_icmp, zg_iload, zg_iload_n, zg_invokestatic, zg_invokevirtual, zg_ireturn, zg_istore, zg_ldc, zf_X6_share, zi_ld, zi_lda, zi_cmp, zi_retOk, zi_isI, zi_f3, zi_cr, zi_ci, zi_cn, zi_get, zi_set, zM_g, h10, h90, cM, zq_Mod_isWindow, zq_Mod_isIn, E1 F (by omega), E2 F (by omega), E3 F (by omega), zm_iald (k := 0) zM_A234 ik, ck, c2, n2]
          · rw [← (nI_eq (by omega) (by omega)).mp q4] at q7
            exact c2 q7
      · rw [if_neg c1] at E3
        refine ⟨μ, -1000000001, ze_in [(0, .ref 232), (1, .int (nI k)), (2, .int (nI a)), (3, .int v)] zq_Mod_share (Nat.le_of_ble_eq_true rfl) rfl ⟨N1 + N2 + N3, 16, fun F n hF => ?_⟩, Or.inl ⟨fun ⟨k', s', m', a', q1, q2, q3, q4, q5, q6, _⟩ => c1 q6, rfl⟩⟩
        simp [zg_0, zg_aload_n, zg_bipush, zg_getfield, zg_goto, zg_iaload, zg_iastore, zg_iconst, zg_ifCond, zg_if_icmp, zg_iload, zg_iload_n, zg_invokestatic, zg_invokevirtual, zg_ireturn, zg_istore, zg_ldc, zf_X6_share, zi_ld, zi_lda, zi_cmp, zi_retOk, zi_isI, zi_f3, zi_cr, zi_ci, zi_cn, zi_get, zi_set, h10, h90, cM, zq_Mod_isWindow, zq_Mod_isIn, E1 F (by omega), E2 F (by omega), E3 F (by omega), n1]
    · refine ⟨μ, -1000000001, ze_in [(0, .ref 232), (1, .int (nI k)), (2, .int x), (3, .int v)] zq_Mod_share (Nat.le_of_ble_eq_true rfl) rfl ⟨N1 + N2, 11, fun F n hF => ?_⟩, Or.inl ⟨fun ⟨k', s', m', a', q1, q2, q3, q4, q5, _⟩ => hno a' (by omega) q5, rfl⟩⟩
      simp [zg_0, zg_aload_n, zg_bipush, zg_getfield, zg_goto, zg_iaload, zg_iastore, zg_iconst, zg_ifCond, zg_if_icmp, zg_iload, zg_iload_n, zg_invokestatic, zg_invokevirtual, zg_ireturn, zg_istore, zg_ldc, zf_X6_share, zi_ld, zi_lda, zi_cmp, zi_retOk, zi_isI, zi_f3, zi_cr, zi_ci, zi_cn, zi_get, zi_set, cM, zq_Mod_isWindow, zq_Mod_isIn, E1 F (by omega), E2 F (by omega), n1]
  · refine ⟨μ, -1000000001, ze_in [(0, .ref 232), (1, .int w), (2, .int x), (3, .int v)] zq_Mod_share (Nat.le_of_ble_eq_true rfl) rfl ⟨N1, 6, fun F n hF => ?_⟩, Or.inl ⟨fun ⟨k', s', m', a', q1, q2, q3, q4, q5, q6, q7, _⟩ => by rw [c0 k' q1 q4] at q7; exact absurd q7 (by decide), rfl⟩⟩
    simp [zg_0, zg_aload_n, zg_bipush, zg_getfield, zg_goto, zg_iaload, zg_iastore, zg_iconst, zg_ifCond, zg_if_icmp, zg_iload, zg_iload_n, zg_invokestatic, zg_invokevirtual, zg_ireturn, zg_istore, zg_ldc, zf_X6_share, zi_ld, zi_lda, zi_cmp, zi_retOk, zi_isI, zi_f3, zi_cr, zi_ci, zi_cn, zi_get, zi_set, cM, zq_Mod_isWindow, E1 F (by omega), n1]
end ZWE
