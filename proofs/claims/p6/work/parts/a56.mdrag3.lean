/-! the reference: drag, whole -/
section ZWO
variable {μ ν : zm_M} {row stk : List Nat} {us : Nat → zy_F}
theorem zR_ow (h : zR μ row stk us) : zv_ow μ (zv_dlg μ) (zv_own μ) := fun x hx => ⟨⟨fun e => of_decide_eq_true e, fun e => decide_eq_true e⟩, fun e => by
  obtain ⟨rk, hr⟩ := h.2.2.2.1
  obtain ⟨o, ho, e2, -⟩ := hr.2 x hx e
  unfold zv_own
  rw [e2, nI_clamp (by omega)]
  exact ⟨ho, rfl⟩⟩
theorem zv_ow_cells {dl : Nat → Bool} {ow : Nat → Nat} (h : zv_ow μ dl ow) (f : ∀ c d, c = 234 ∨ c = 237 → ν c d = μ c d) : zv_ow ν dl ow := fun x hx => by
  rw [f 234 x (Or.inl rfl), f 237 x (Or.inr rfl)]
  exact h x hx
set_option maxRecDepth 100000 in
/-- is drag asked rightly? -/
theorem zv_dg0 (D : Nat) (h : zR μ row stk us) (w x y : Int32) : ((¬ ∃ k o sd, zv_darg μ w x y k o sd) ∧ ∃ v, ze_G (D + 27) 9 (some .int) zc_X6_drag 0 [(0, .ref 232), (1, .int w), (2, .int x), (3, .int y)] [] (zm_mk μ) (some (.int v)) (zm_mk μ)) ∨
    ∃ k o sd a b, zv_darg μ w x y k o sd ∧ a < 3 ∧ b < 3 ∧ μ 238 k = nI a ∧ μ 238 o = nI b ∧ (∃ m, zu_at μ a (us a) k m) ∧ (∃ m, zu_at μ b (us b) o m) ∧ ze_S (D + 27) 9 (some .int) zc_X6_drag 0 [(0, .ref 232), (1, .int w), (2, .int x), (3, .int y)] [] (zm_mk μ) 72 [(5, .int (nI b)), (4, .int (nI a)), (0, .ref 232), (1, .int (nI k)), (2, .int (nI o)), (3, .int (nI sd))] [] (zm_mk μ) := by
  have n1 : Int32.ofInt (-1000000001) = -1000000001 := by decide
  have n2 : Int32.ofInt (-1000000002) = -1000000002 := by decide
  obtain ⟨lc, cM⟩ := zM_c (μ := μ)
  rcases zR_win (D + 25) h w with ⟨k, hk, rfl, k0, N1, E1⟩ | ⟨⟨N1, E1⟩, c0⟩
  · have ik : zi_in (nI k) 10 = true := zm_in hk (by decide)
    have ck : (nI k).toNatClampNeg = k := nI_clamp (by omega)
    rcases zR_win (D + 25) h x with ⟨o, ho, rfl, o0, N2, E2⟩ | ⟨⟨N2, E2⟩, c0⟩
    · have io : zi_in (nI o) 10 = true := zm_in ho (by decide)
      have co : (nI o).toNatClampNeg = o := nI_clamp (by omega)
      by_cases c1 : k = o
      · subst c1
        refine Or.inl ⟨fun ⟨k', o', sd, q1, q2, q3⟩ => ?_, -1000000001, N1 + N2, 13, fun F n hF => ?_⟩
        · have e1 := (nI_eq (by omega) (by omega)).mp q2.1
          have e2 := (nI_eq (by omega) (by omega)).mp q2.2.1
          exact q3.2.2 (e1.symm.trans e2)
        · simp [zg_0, zg_aload_n, zg_baload, zg_bastore, zg_bipush, zg_getfield, zg_goto, zg_iaload, zg_iastore, zg_iconst, zg_ifCond, zg_if_icmp, zg_iinc, zg_iload, zg_iload_n, zg_invokestatic, zg_invokevirtual, zg_irem, zg_ireturn, zg_istore, zg_ldc, zf_X6_drag, zi_ld, zi_lda, zi_cmp, zi_retOk, zi_isI, zi_f3, zi_cr, zi_ci, zi_cn, zi_get, zi_set, cM, zq_Mod_isWindow, E1 F (by omega), E2 F (by omega), n1]
      · have c1' : ¬ nI k = nI o := fun e => c1 ((nI_eq (by omega) (by omega)).mp e)
        rcases zM_isIn (hp := zm_mk μ) (D + 26) y (n := 4) (b := 4) (by decide) (by decide) with ⟨sd, hsd, rfl, N3, E3⟩ | ⟨⟨N3, E3⟩, hno⟩
        · by_cases c2 : μ 234 k = 1
          · by_cases c3 : μ 234 o = 1
            · obtain ⟨a, ma, aba, ha, hha, hIa, hata⟩ := zR_til h hk c2
              obtain ⟨b, mb, abb, hb, hhb, hIb, hatb⟩ := zR_til h ho c3
              refine Or.inr ⟨k, o, sd, a, b, ⟨⟨hk, ho, hsd⟩, ⟨rfl, rfl, rfl⟩, c2, c3, c1⟩, ha, hb, hha, hhb, ⟨ma, hata⟩, ⟨mb, hatb⟩, N1 + N2 + N3, 38, fun F n hF => ?_⟩
              simp [zg_0, zg_aload_n, zg_baload, zg_bastore, zg_bipush, zg_getfield, zg_goto, zg_iaload, zg_iastore, zg_iconst, zg_ifCond, zg_if_icmp, zg_iinc, zg_iload, zg_iload_n, zg_invokestatic, zg_invokevirtual, zg_irem, zg_ireturn, zg_istore, zg_ldc, zf_X6_drag, zi_ld, zi_lda, zi_cmp, zi_retOk, zi_isI, zi_f3, zi_cr, zi_ci, zi_cn, zi_get, zi_set, zM_g, cM, zq_Mod_isWindow, zq_Mod_isIn, E1 F (by omega), E2 F (by omega), E3 F (by omega), c1', zm_iald (k := 0) zM_A234 ik, zm_iald (k := 0) zM_A234 io, zm_iald (k := 0) zM_A238 ik, zm_iald (k := 0) zM_A238 io, ck, co, c2, c3, hha, hhb]
            · refine Or.inl ⟨fun ⟨k', o', sd', q1, q2, q3⟩ => ?_, -1000000002, N1 + N2 + N3, 30, fun F n hF => ?_⟩
              · rw [← (nI_eq (by omega) (by omega)).mp q2.2.1] at q3
                exact c3 q3.2.1
              · simp [zg_0, zg_aload_n, zg_baload, zg_bastore, zg_bipush, zg_getfield, zg_goto, zg_iaload, zg_iastore, zg_iconst, zg_ifCond, zg_if_icmp, zg_iinc, zg_iload, zg_iload_n, zg_invokestatic, zg_invokevirtual, zg_irem, zg_ireturn, zg_istore, zg_ldc, zf_X6_drag, zi_ld, zi_lda, zi_cmp, zi_retOk, zi_isI, zi_f3, zi_cr, zi_ci, zi_cn, zi_get, zi_set, zM_g, cM, zq_Mod_isWindow, zq_Mod_isIn, E1 F (by omega), E2 F (by omega), E3 F (by omega), c1', zm_iald (k := 0) zM_A234 ik, zm_iald (k := 0) zM_A234 io, ck, co, c2, c3, n2]
          · refine Or.inl ⟨fun ⟨k', o', sd', q1, q2, q3⟩ => ?_, -1000000002, N1 + N2 + N3, 24, fun F n hF => ?_⟩
            · rw [← (nI_eq (by omega) (by omega)).mp q2.1] at q3
              exact c2 q3.1
            · simp [zg_0, zg_aload_n, zg_baload, zg_bastore, zg_bipush, zg_getfield, zg_goto, zg_iaload, zg_iastore, zg_iconst, zg_ifCond, zg_if_icmp, zg_iinc, zg_iload, zg_iload_n, zg_invokestatic, zg_invokevirtual, zg_irem, zg_ireturn, zg_istore, zg_ldc, zf_X6_drag, zi_ld, zi_lda, zi_cmp, zi_retOk, zi_isI, zi_f3, zi_cr, zi_ci, zi_cn, zi_get, zi_set, zM_g, cM, zq_Mod_isWindow, zq_Mod_isIn, E1 F (by omega), E2 F (by omega), E3 F (by omega), c1', zm_iald (k := 0) zM_A234 ik, ck, c2, n2]
        · refine Or.inl ⟨fun ⟨k', o', sd', q1, q2, q3⟩ => hno sd' (by omega) q2.2.2, -1000000001, N1 + N2 + N3, 18, fun F n hF => ?_⟩
          simp [zg_0, zg_aload_n, zg_baload, zg_bastore, zg_bipush, zg_getfield, zg_goto, zg_iaload, zg_iastore, zg_iconst, zg_ifCond, zg_if_icmp, zg_iinc, zg_iload, zg_iload_n, zg_invokestatic, zg_invokevirtual, zg_irem, zg_ireturn, zg_istore, zg_ldc, zf_X6_drag, zi_ld, zi_lda, zi_cmp, zi_retOk, zi_isI, zi_f3, zi_cr, zi_ci, zi_cn, zi_get, zi_set, cM, zq_Mod_isWindow, zq_Mod_isIn, E1 F (by omega), E2 F (by omega), E3 F (by omega), c1', n1]
    · refine Or.inl ⟨fun ⟨k', o', sd', q1, q2, q3⟩ => ?_, -1000000001, N1 + N2, 10, fun F n hF => ?_⟩
      · rw [c0 o' q1.2.1 q2.2.1] at q3
        exact absurd q3.2.1 (by decide)
      · simp [zg_0, zg_aload_n, zg_baload, zg_bastore, zg_bipush, zg_getfield, zg_goto, zg_iaload, zg_iastore, zg_iconst, zg_ifCond, zg_if_icmp, zg_iinc, zg_iload, zg_iload_n, zg_invokestatic, zg_invokevirtual, zg_irem, zg_ireturn, zg_istore, zg_ldc, zf_X6_drag, zi_ld, zi_lda, zi_cmp, zi_retOk, zi_isI, zi_f3, zi_cr, zi_ci, zi_cn, zi_get, zi_set, cM, zq_Mod_isWindow, E1 F (by omega), E2 F (by omega), n1]
  · refine Or.inl ⟨fun ⟨k', o', sd', q1, q2, q3⟩ => ?_, -1000000001, N1, 6, fun F n hF => ?_⟩
    · rw [c0 k' q1.1 q2.1] at q3
      exact absurd q3.1 (by decide)
    · simp [zg_0, zg_aload_n, zg_baload, zg_bastore, zg_bipush, zg_getfield, zg_goto, zg_iaload, zg_iastore, zg_iconst, zg_ifCond, zg_if_icmp, zg_iinc, zg_iload, zg_iload_n, zg_invokestatic, zg_invokevirtual, zg_irem, zg_ireturn, zg_istore, zg_ldc, zf_X6_drag, zi_ld, zi_lda, zi_cmp, zi_retOk, zi_isI, zi_f3, zi_cr, zi_ci, zi_cn, zi_get, zi_set, cM, zq_Mod_isWindow, E1 F (by omega), n1]
set_option maxRecDepth 100000 in
/-- 292 on: the drag is done -/
theorem zv_dg3 (D : Nat) (h : zR μ row stk us) {k a b m2 mk : Nat} {u2 : zy_F} {ab2 : Nat → Int32} (hk : k < 10) (ha : a < 3) (hb : b < 3) (hkt : μ 234 k = 1) (hka : μ 238 k = nI a) (atk : zu_at μ a (us a) k mk) {ξ θ : zm_M} (fξ : zu_fr 6 μ ξ) (f0 : ∀ c d, c ≠ 260 → θ c d = ξ c d) (hI2 : zu_I ξ 6 u2 ab2) (hat2 : zu_at ξ 6 u2 k m2) (hcm : zv_cm θ (zv_grp μ k))
    (L : zi_Lc) (nl : zi_nl L = true) (g0 : zi_get L 0 = some (.ref 232)) (g1 : zi_get L 1 = some (.int (nI k))) (g4 : zi_get L 4 = some (.int (nI a))) (g5 : zi_get L 5 = some (.int (nI b))) :
    ∃ ν ν6 ua, ze_G (D + 27) 9 (some .int) zc_X6_drag 292 L [] (zm_mk θ) (some (.int 0)) (zm_mk ν) ∧ zv_drx μ ξ ν6 us k a b ua ∧ zv_foc ν6 ν row stk (zv_drU us a b ua u2) k := by
  have h6 : (Int8.ofInt 6).toInt32 = (6 : Int32) := by decide
  have q6 : nI 6 = (6 : Int32) := by decide
  have h10 : (Int8.ofInt 10).toInt32 = (10 : Int32) := by decide
  have ik : zi_in (nI k) 10 = true := zm_in hk (by decide)
  have ck : (nI k).toNatClampNeg = k := nI_clamp (by omega)
  obtain ⟨lc, cM⟩ := zM_c (μ := θ)
  obtain ⟨⟨aba, hIa⟩, hnda, hwa⟩ := h.2.2.2.2.1 a ha
  obtain ⟨N1, E1⟩ := ze_Mforget (μ := θ) (D + 26) hk
  have f1 : ∀ c d, c ≠ 251 → zv_fg θ k c d = θ c d := fun c d r => zv_fg_ne r
  have e1 : ∀ s, s < 3 → zv_fg θ k 251 s = if ¬ θ 251 s = 0 ∧ ¬ θ 252 (10 * s + k) = 0 then 0 else θ 251 s := fun s hs => zv_fg_at hs
  generalize zv_fg θ k = θ1 at E1 f1 e1
  obtain ⟨lc1, cM1⟩ := zM_c (μ := θ1)
  have g12 : ∀ c d, c ≠ 251 → c ≠ 260 → ¬ zu_in 6 c d → θ1 c d = μ c d := fun c d r1 r2 r3 => (f1 c d r1).trans ((f0 c d r2).trans (fξ c d r3))
  have t6 : zu_eqT ξ 6 θ1 6 := zu_eq_in (fun c d r => (f1 c d (fun z => zu_in_not (Or.inr (by omega)) r)).trans (f0 c d (fun z => zu_in_not (Or.inr (by omega)) r)))
  have tA : zu_eqT μ a θ1 a := zu_eq_in (fun c d r => g12 c d (fun z => zu_in_not (Or.inr (by omega)) r) (fun z => zu_in_not (Or.inr (by omega)) r) (zu_in_ne r (by omega)))
  -- the window leaves its tree
  have lv : ∃ θ2 ua, ze_S (D + 27) 9 (some .int) zc_X6_drag 292 L [] (zm_mk θ) 311 L [] (zm_mk θ2) ∧ (a ≠ b → ∃ m ab', zu_at μ a (us a) k m ∧ zu_isOut θ1 a (us a) m k θ2 ab' ∧ ua = (if (zu_tb θ1 a m).erase k = [] then zy_out m (us a) else us a)) ∧ (∀ c d, ¬ zu_in a c d → θ2 c d = θ1 c d) ∧ (a = b → θ2 = θ1) := by
    by_cases c : a = b
    · have c' : nI a = nI b := by rw [c]
      refine ⟨θ1, .nil, ⟨N1, 6, fun F m hF => ?_⟩, fun z => absurd c z, fun _ _ _ => rfl, fun _ => rfl⟩
      simp (maxDischargeDepth := 9) [zg_0, zg_aload_n, zg_baload, zg_bastore, zg_bipush, zg_getfield, zg_goto, zg_iaload, zg_iastore, zg_iconst, zg_ifCond, zg_if_icmp, zg_iinc, zg_iload, zg_iload_n, zg_invokestatic, zg_invokevirtual, zg_irem, zg_ireturn, zg_istore, zg_ldc, zf_X6_drag, zi_ld, zi_lda, zi_cmp, zi_retOk, zi_isI, zi_f3, zi_cr, zi_ci, zi_cn, zi_get_ne, zi_nl_i, zi_nl_r, zi_get_set_eq, nl, g0, g1, g4, g5, cM, zq_Mod_forget, E1 F (by omega), c']
    · have c' : ¬ nI a = nI b := fun e => c ((nI_eq (by omega) (by omega)).mp e)
      obtain ⟨θ2, ab', ⟨N2, E2⟩, ho⟩ := ze_Mleave (μ := θ1) (D + 23) (τ := a) (by omega) (tA.I hIa) hk (zu_at_eqT hIa tA atk)
      refine ⟨θ2, _, ⟨N1 + N2, 10, fun F m hF => ?_⟩, fun _ => ⟨mk, ab', atk, ho, rfl⟩, ho.2.2.2.2, fun z => absurd z c⟩
      simp (maxDischargeDepth := 9) [zg_0, zg_aload_n, zg_baload, zg_bastore, zg_bipush, zg_getfield, zg_goto, zg_iaload, zg_iastore, zg_iconst, zg_ifCond, zg_if_icmp, zg_iinc, zg_iload, zg_iload_n, zg_invokestatic, zg_invokevirtual, zg_irem, zg_ireturn, zg_istore, zg_ldc, zf_X6_drag, zi_ld, zi_lda, zi_cmp, zi_retOk, zi_isI, zi_f3, zi_cr, zi_ci, zi_cn, zi_get_ne, zi_nl_i, zi_nl_r, zi_get_set_eq, nl, g0, g1, g4, g5, cM, cM1, zq_Mod_forget, zq_Mod_leave, E1 F (by omega), E2 F (by omega), c']
  obtain ⟨θ2, ua, S1, o1, o2, o3⟩ := lv
  obtain ⟨lc2, cM2⟩ := zM_c (μ := θ2)
  obtain ⟨N3, E3⟩ := ze_McopyTree (μ := θ2) (D + 25) (f := 6) (t := b) (by decide) (by omega) (by omega)
  rw [q6] at E3
  have t3 := zu_cq_eqT (μ := θ2) (f := 6) (t := b)
  have f3 : zu_fr b θ2 (zu_cq θ2 6 b 24 240) := zu_cq_fr
  generalize zu_cq θ2 6 b 24 240 = θ3 at E3 t3 f3
  have f4 : ∀ c d, ¬ (c = 238 ∧ d = k) → zm_up θ3 238 k (nI b) c d = θ3 c d := fun c d r => zm_up_ne r
  have e4 : zm_up θ3 238 k (nI b) 238 k = nI b := zm_up_eq
  have S2 : ze_S (D + 27) 9 (some .int) zc_X6_drag 311 L [] (zm_mk θ2) 330 (zi_set L 8 (.int (nI 0))) [] (zm_mk (zm_up θ3 238 k (nI b))) := by
    refine ⟨N3, 11, fun F m hF => ?_⟩
    simp (maxDischargeDepth := 9) [zg_0, zg_aload_n, zg_baload, zg_bastore, zg_bipush, zg_getfield, zg_goto, zg_iaload, zg_iastore, zg_iconst, zg_ifCond, zg_if_icmp, zg_iinc, zg_iload, zg_iload_n, zg_invokestatic, zg_invokevirtual, zg_irem, zg_ireturn, zg_istore, zg_ldc, zf_X6_drag, zi_ld, zi_lda, zi_cmp, zi_retOk, zi_isI, zi_f3, zi_cr, zi_ci, zi_cn, zi_get_ne, zi_nl_i, zi_nl_r, zi_get_set_eq, nl, g0, g1, g4, g5, h6, cM2, zM_g, zq_Mod_copyTree, E3 F (by omega), zm_iast zM_A238 ik, ck, nI_0]
  generalize zm_up θ3 238 k (nI b) = θ4 at f4 e4 S2
  -- cells that are in no tree
  have up : ∀ c d, c < 243 ∨ 250 < c → ¬ (c = 238 ∧ d = k) → θ4 c d = θ1 c d := fun c d r1 r2 => (f4 c d r2).trans ((f3 c d (zu_in_not r1)).trans (o2 c d (zu_in_not r1)))
  have upμ : ∀ c d, c < 243 ∨ 250 < c → ¬ (c = 238 ∧ d = k) → c ≠ 251 → c ≠ 260 → θ4 c d = μ c d := fun c d r1 r2 r3 r4 => (up c d r1 r2).trans (g12 c d r3 r4 (zu_in_not r1))
  have hcm4 : zv_cm θ4 (zv_grp μ k) := fun j hj => by
    rw [up _ _ (by decide) (by omega), f1 _ _ (by decide)]
    exact hcm j hj
  -- its dialogs come along
  have dg : ∃ ν6 L6, ze_S (D + 27) 9 (some .int) zc_X6_drag 330 (zi_set L 8 (.int (nI 0))) [] (zm_mk θ4) 394 L6 [] (zm_mk ν6) ∧ zi_get L6 0 = some (.ref 232) ∧ zi_get L6 1 = some (.int (nI k)) ∧ (a = b → ν6 = θ4) ∧ (a ≠ b → zv_dgw θ4 ν6 k b (zv_grp μ k) 10) := by
    by_cases c : a = b
    · have c' : nI a = nI b := by rw [c]
      have c1 : ¬ (10 : Int32) ≤ nI 0 := by decide
      refine ⟨θ4, zi_set L 8 (.int (nI 0)), ⟨0, 6, fun F m hF => ?_⟩, by simp (maxDischargeDepth := 9) [zi_get_ne, zi_nl_i, zi_nl_r, zi_get_set_eq, nl, g0], by simp (maxDischargeDepth := 9) [zi_get_ne, zi_nl_i, zi_nl_r, zi_get_set_eq, nl, g1], fun _ => rfl, fun z => absurd c z⟩
      simp (maxDischargeDepth := 9) [zg_0, zg_aload_n, zg_baload, zg_bastore, zg_bipush, zg_getfield, zg_goto, zg_iaload, zg_iastore, zg_iconst, zg_ifCond, zg_if_icmp, zg_iinc, zg_iload, zg_iload_n, zg_invokestatic, zg_invokevirtual, zg_irem, zg_ireturn, zg_istore, zg_ldc, zf_X6_drag, zi_ld, zi_lda, zi_cmp, zi_retOk, zi_isI, zi_f3, zi_cr, zi_ci, zi_cn, zi_get_ne, zi_nl_i, zi_nl_r, zi_get_set_eq, nl, g0, g1, g4, g5, h10, c1, c']
    · obtain ⟨L', h', S, nl', b0, b1, ν6, rfl, q⟩ := zv_dgC (μ := θ4) (D + 25) hk ha hb c hcm4 (zi_set L 8 (.int (nI 0))) (by simp (maxDischargeDepth := 9) [zi_get_ne, zi_nl_i, zi_nl_r, zi_get_set_eq, nl]) (by simp (maxDischargeDepth := 9) [zi_get_ne, zi_nl_i, zi_nl_r, zi_get_set_eq, nl, g0]) (by simp (maxDischargeDepth := 9) [zi_get_ne, zi_nl_i, zi_nl_r, zi_get_set_eq, nl, g1]) (by simp (maxDischargeDepth := 9) [zi_get_ne, zi_nl_i, zi_nl_r, zi_get_set_eq, nl, g4]) (by simp (maxDischargeDepth := 9) [zi_get_ne, zi_nl_i, zi_nl_r, zi_get_set_eq, nl, g5]) zi_get_set_eq
      exact ⟨ν6, L', S, b0, b1, fun z => absurd z c, fun _ => q⟩
  obtain ⟨ν6, L6, S3, b0, b1, d1, d2⟩ := dg
  have d3 : ∀ c d, c ≠ 238 → c ≠ 239 → c ≠ 240 → c ≠ 251 → ν6 c d = θ4 c d := fun c d r1 r2 r3 r4 => by
    by_cases e : a = b
    · rw [d1 e]
    · exact (d2 e).2.2 c d r1 r2 r3 r4
  have din : ∀ τ c d, zu_in τ c d → ν6 c d = θ3 c d := fun τ c d r => (d3 c d (fun z => zu_in_not (Or.inl (by omega)) r) (fun z => zu_in_not (Or.inl (by omega)) r) (fun z => zu_in_not (Or.inl (by omega)) r) (fun z => zu_in_not (Or.inr (by omega)) r)).trans (f4 c d (fun z => zu_in_not (Or.inl (by omega)) r))
  have tb6 : zu_eqT ξ 6 ν6 b := by
    have t1 : zu_eqT θ1 6 θ2 6 := zu_eq_in (fun c d r => o2 c d (zu_in_ne r (by omega)))
    exact t6.trans (t1.trans (t3.trans (zu_eq_in (din b))))
  have x8 : ∀ j, j < 10 → ν6 238 j = if j = k ∨ (a ≠ b ∧ zv_grp μ k j = true) then nI b else μ 238 j := fun j hj => by
    by_cases e : a = b
    · rw [d1 e]
      by_cases ek : j = k
      · rw [if_pos (Or.inl ek), ek, e4]
      · rw [if_neg (fun z => z.elim ek (fun z => z.1 e)), upμ _ _ (by decide) (by omega) (by decide) (by decide)]
    · rw [(d2 e).1 j hj]
      by_cases ek : j = k
      · rw [if_pos (Or.inl ek), if_neg (fun z => z.2.2 ek), ek, e4]
      · by_cases eg : zv_grp μ k j = true
        · rw [if_pos ⟨hj, eg, ek⟩, if_pos (Or.inr ⟨e, eg⟩)]
        · rw [if_neg (fun z => eg z.2.1), if_neg (fun z => z.elim ek (fun z => eg z.2)), upμ _ _ (by decide) (by omega) (by decide) (by decide)]
  have x4 : ∀ d, ν6 234 d = μ 234 d := fun d => (d3 _ _ (by decide) (by decide) (by decide) (by decide)).trans (upμ _ _ (by decide) (by omega) (by decide) (by decide))
  have x7 : ∀ d, ν6 237 d = μ 237 d := fun d => (d3 _ _ (by decide) (by decide) (by decide) (by decide)).trans (upμ _ _ (by decide) (by omega) (by decide) (by decide))
  have θ51 : ∀ s, θ 251 s = μ 251 s ∧ ∀ j, θ 252 j = μ 252 j := fun s => ⟨(f0 _ _ (by decide)).trans (fξ _ _ (zu_in_not (by decide))), fun j => (f0 _ _ (by decide)).trans (fξ _ _ (zu_in_not (by decide)))⟩
  have x51 : ∀ s, s < 3 → (ν6 251 s = 0 ∨ ν6 251 s = μ 251 s) ∧ (ν6 251 s = 0 ↔ μ 251 s = 0 ∨ ∃ j, j < 10 ∧ (j = k ∨ (a ≠ b ∧ zv_grp μ k j = true)) ∧ ¬ μ 252 (10 * s + j) = 0) := fun s hs => by
    have e4s : θ4 251 s = θ1 251 s := up _ _ (by decide) (by omega)
    have e1s := e1 s hs
    rw [(θ51 s).1, (θ51 s).2] at e1s
    have base : (θ4 251 s = 0 ∨ θ4 251 s = μ 251 s) ∧ (θ4 251 s = 0 ↔ μ 251 s = 0 ∨ ¬ μ 252 (10 * s + k) = 0) := by
      rw [e4s, e1s]
      by_cases c : ¬ μ 251 s = 0 ∧ ¬ μ 252 (10 * s + k) = 0
      · rw [if_pos c]
        exact ⟨Or.inl rfl, fun _ => Or.inr c.2, fun _ => rfl⟩
      · rw [if_neg c]
        exact ⟨Or.inr rfl, fun z => Or.inl z, fun z => z.elim id (fun z => Decidable.byContradiction fun w => c ⟨w, z⟩)⟩
    by_cases e : a = b
    · rw [d1 e]
      refine ⟨base.1, base.2.trans (or_congr Iff.rfl ⟨fun z => ⟨k, hk, Or.inl rfl, z⟩, fun ⟨j, _, z, w⟩ => ?_⟩)⟩
      rcases z with z | z
      · rw [← z]; exact w
      · exact absurd e z.1
    · obtain ⟨p1, p2⟩ := (d2 e).2.1 s hs
      have e252 : ∀ j, θ4 252 j = μ 252 j := fun j => upμ _ _ (by decide) (by omega) (by decide) (by decide)
      refine ⟨p1.elim Or.inl (fun z => ?_), p2.trans ⟨fun z => ?_, fun z => ?_⟩⟩
      · rw [z]; exact base.1
      · rcases z with z | ⟨j, hj, z, w⟩
        · exact (base.2.mp z).imp id (fun z => ⟨k, hk, Or.inl rfl, z⟩)
        · rw [e252] at w
          exact Or.inr ⟨j, hj, Or.inr ⟨e, z.1⟩, w⟩
      · rcases z with z | ⟨j, hj, z, w⟩
        · exact Or.inl (base.2.mpr (Or.inl z))
        · by_cases ek : j = k
          · rw [ek] at w; exact Or.inl (base.2.mpr (Or.inr w))
          · refine Or.inr ⟨j, hj, ⟨z.elim (fun z => absurd z ek) (fun z => z.2), ek⟩, ?_⟩
            rw [e252]; exact w
  have hdrx : zv_drx μ ξ ν6 us k a b ua := by
    refine ⟨tb6, fun e => ?_, x8, x51, fun c d r1 r2 r3 r4 r5 r6 r7 r8 => ?_⟩
    · obtain ⟨m, ab', q1, q2, q3⟩ := o1 e
      refine ⟨m, ab', θ1, θ2, q1, tA, q2, zu_eq_in (fun c d r => (din a c d r).trans (f3 c d (zu_in_ne r e))), q3⟩
    · rw [d3 c d r1 r2 r3 r4, f4 c d (fun z => r1 z.1), f3 c d r8, o2 c d r7]
      exact g12 c d r4 r5 r6
  obtain ⟨rk, hr⟩ := h.2.2.2.1
  have hr6 : zv_rk ν6 rk := ⟨hr.1, fun x hx e => by
    rw [x4] at e
    rw [x7]
    exact hr.2 x hx e⟩
  have rest : ∀ c d, c = 231 ∨ c = 241 ∨ c = 242 → ν6 c d = μ c d := fun c d r => (d3 c d (by omega) (by omega) (by omega) (by omega)).trans (upμ c d (by omega) (by omega) (by omega) (by omega))
  have hR := h.2.1
  have hS := h.2.2.1
  have hR6 : zv_L ν6 242 12 row := ⟨hR.1.1, (rest _ _ (Or.inl rfl)).trans hR.1.2.1, fun j hj => (rest _ _ (Or.inr (Or.inr rfl))).trans (hR.1.2.2 j hj)⟩
  have hS6 : zv_L ν6 241 10 stk := ⟨hS.1.1, (rest _ _ (Or.inl rfl)).trans hS.1.2.1, fun j hj => (rest _ _ (Or.inr (Or.inl rfl))).trans (hS.1.2.2 j hj)⟩
  obtain ⟨ν, ⟨N5, E5⟩, hf⟩ := zv_focused (μ := ν6) (us := zv_drU us a b ua u2) (D + 15) hr6 hk (fun _ => ⟨b, m2, ab2, hb, by rw [x8 k hk, if_pos (Or.inl rfl)], by
    show zu_I ν6 b (if b = b then u2 else _) ab2
    rw [if_pos rfl]
    exact tb6.I hI2, by
    show zu_at ν6 b (if b = b then u2 else _) k m2
    rw [if_pos rfl]
    exact zu_at_eqT hI2 tb6 hat2⟩) hS6 hS.2.1 (fun x hx => ((hS.2.2 x).mp hx).1) hR6 hR.2.1 (fun x hx => ((hR.2.2 x).mp hx).1)
  obtain ⟨lc6, cM6⟩ := zM_c (μ := ν6)
  refine ⟨ν, ν6, ua, S1.end (S2.end (S3.end ⟨N5, 5, fun F m hF => ?_⟩)), hdrx, hf⟩
  simp [zg_0, zg_aload_n, zg_baload, zg_bastore, zg_bipush, zg_getfield, zg_goto, zg_iaload, zg_iastore, zg_iconst, zg_ifCond, zg_if_icmp, zg_iinc, zg_iload, zg_iload_n, zg_invokestatic, zg_invokevirtual, zg_irem, zg_ireturn, zg_istore, zg_ldc, zf_X6_drag, zi_ld, zi_lda, zi_cmp, zi_retOk, zi_isI, zi_f3, zi_cr, zi_ci, zi_cn, b0, b1, cM6, zq_Mod_focused, E5 F (by omega)]
end ZWO
