/-! the reference: screen -/
/-- what is kept of the screens that are gone: trees of windows that are there -/
def zv_kep (μ : zm_M) (us : Nat → zy_F) : Prop := (∀ s, s < 3 → ¬ μ 251 s = 0 → (∃ ab, zu_I μ (3 + s) (us (3 + s)) ab) ∧ zu_nd μ (3 + s) (us (3 + s)) ∧ ∀ n ∈ zy_lvs (us (3 + s)), ∀ w ∈ zu_tb μ (3 + s) n, μ 234 w = 1) ∧ ∀ d, d < 30 → μ 252 d = 0 ∨ μ 252 d = 1
/-- the screen s is there now, of the size x, y; nothing has come to it yet -/
def zv_nw (μ M : zm_M) (s : Nat) (x y : Int32) : Prop := (M 232 s = x ∧ M 233 s = y) ∧ zu_I M s .nil (fun _ => -1) ∧ ∀ c d, ¬ (c = 232 ∧ d = s) → ¬ (c = 233 ∧ d = s) → ¬ zu_in s c d → M c d = μ c d
/-- does all come back? -/
def zv_bk (M : zm_M) (us : Nat → zy_F) (dl : Nat → Bool) (ow : Nat → Nat) (s : Nat) : Bool := zv_gd (zv_room M (zv_back M dl ow s) s) (zu_fit M (3 + s) (us (3 + s)) (M 232 s) (M 233 s)) 10
def zv_scr (μ ν : zm_M) (us : Nat → zy_F) (w x y : Int32) : Prop :=
  ((¬ ∃ s, zd_sarg w x y s) ∧ ν = μ) ∨
  ∃ s, zd_sarg w x y s ∧
    ((¬ μ 232 s = 0 ∧ ((zv_gd (zv_srm μ s x y) (zu_fit μ s (us s) x y) 10 = false ∧ ν = μ) ∨ (zv_gd (zv_srm μ s x y) (zu_fit μ s (us s) x y) 10 = true ∧ (ν 232 s = x ∧ ν 233 s = y) ∧ ∀ c d, c ≠ 239 → c ≠ 240 → ¬ (c = 232 ∧ d = s) → ¬ (c = 233 ∧ d = s) → ν c d = μ c d))) ∨
     (μ 232 s = 0 ∧ ∃ M, zv_nw μ M s x y ∧
       (((μ 251 s = 0 ∨ zv_bk M us (zv_dlg μ) (zv_own μ) s = false) ∧ ν 251 s = 0 ∧ ∀ c d, c ≠ 260 → ¬ (c = 251 ∧ d = s) → ν c d = M c d) ∨
        (¬ μ 251 s = 0 ∧ zv_bk M us (zv_dlg μ) (zv_own μ) s = true ∧ ∃ M2 ξ us1 ν1, (∀ c d, ¬ (c = 231 ∧ d = 30) → c ≠ 259 → c ≠ 260 → M2 c d = M c d) ∧ zv_bs M2 s us ξ us1 ((zy_lvs (us (3 + s))).flatMap (zu_tb M (3 + s))) ∧ zv_br (zu_cq ξ (3 + s) s 24 240) ν1 s (zv_back M (zv_dlg μ) (zv_own μ) s) 10 ∧ ν = zm_up ν1 251 s 0))))
section ZWU
variable {μ ν : zm_M} {row stk : List Nat} {us : Nat → zy_F} {s : Nat}
theorem zR_lv (h : zR μ row stk us) {w : Nat} (hw : w < 10) (c : μ 234 w = 1) : zv_lv μ us w := by
  obtain ⟨q, m, ab, hq, hh, hI, hat⟩ := zR_til h hw c
  refine ⟨hw, q, hq, hh, ⟨m, hat⟩, fun p hp hpq n hn z => ?_⟩
  have := ((h.2.2.2.2.1 p hp).2.2 n hn w z).2
  exact hpq ((nI_eq (by omega) (by omega)).mp (this.symm.trans hh))
/-- a screen that isn't there has no tree -/
theorem zR_none (h : zR μ row stk us) (hs : s < 3) (c : μ 232 s = 0) : us s = .nil := by
  obtain ⟨⟨ab, hI⟩, hnd, hw⟩ := h.2.2.2.2.1 s hs
  refine (zu_I_or hI).resolve_right (fun wf => ?_)
  have hm := zl_mem (zy_lvs_pos wf)
  obtain ⟨t1, t2, t3⟩ := zu_I_tb hI hm
  obtain ⟨w, hwm⟩ := List.exists_mem_of_ne_nil _ t2
  obtain ⟨e1, e2⟩ := hw _ hm w hwm
  obtain ⟨q, hq, hh, hp, -⟩ := h.2.2.2.2.2.1 w (t3 w hwm) (by rw [e1]; decide) (by rw [e1]; decide)
  have := (nI_eq (by omega) (by omega)).mp (hh.symm.trans e2)
  rw [this, c] at hp
  exact absurd hp (by decide)
set_option maxRecDepth 100000 in
theorem ze_Mscreen (D : Nat) (h : zR μ row stk us) (hK : zv_kep μ us) (w x y : Int32) : ∃ ν v, ze_E (D + 28) A_Mod_screen [.ref 232, .int w, .int x, .int y] (zm_mk μ) (some (.int v)) (zm_mk ν) ∧ zv_scr μ ν us w x y := by
  have n1 : Int32.ofInt (-1000000001) = -1000000001 := by decide
  have n2 : Int32.ofInt (-1000000002) = -1000000002 := by decide
  have h40 : (Int8.ofInt 40).toInt32 = (40 : Int32) := by decide
  have h400 : (Int16.ofInt 400).toInt32 = (400 : Int32) := by decide
  obtain ⟨lc, cM⟩ := zM_c (μ := μ)
  have enter : ∀ {ν r}, ze_G (D + 27) 6 (some .int) zc_X6_screen 0 [(0, .ref 232), (1, .int w), (2, .int x), (3, .int y)] [] (zm_mk μ) (some (.int r)) (zm_mk ν) → ze_E (D + 28) A_Mod_screen [.ref 232, .int w, .int x, .int y] (zm_mk μ) (some (.int r)) (zm_mk ν) := fun G => ze_in [(0, .ref 232), (1, .int w), (2, .int x), (3, .int y)] zq_Mod_screen (Nat.le_of_ble_eq_true rfl) rfl G
  rcases zM_isIn (hp := zm_mk μ) (D + 26) w (n := 2) (b := 2) (by decide) (by decide) with ⟨s, hs, rfl, N1, E1⟩ | ⟨⟨N1, E1⟩, hno⟩
  · have hs : s < 3 := hs
    have is : zi_in (nI s) 3 = true := zm_in hs (by decide)
    have cs : (nI s).toNatClampNeg = s := nI_clamp (by omega)
    obtain ⟨N2, E2⟩ := ze_isIn (h := zm_mk μ) (D + 26) x 40 400
    by_cases c1 : 40 ≤ x ∧ x ≤ 400
    · rw [if_pos c1] at E2
      obtain ⟨N3, E3⟩ := ze_isIn (h := zm_mk μ) (D + 26) y 40 400
      by_cases c2 : 40 ≤ y ∧ y ≤ 400
      · rw [if_pos c2] at E3
        have hsa : zd_sarg (nI s) x y s := ⟨hs, rfl, c1, c2⟩
        have p40 : (0 : Int32) ≤ 40 := by decide
        have hx0 : 0 ≤ x := Int32.le_trans p40 c1.1
        have hy0 : 0 ≤ y := Int32.le_trans p40 c2.1
        have S0 : ze_S (D + 27) 6 (some .int) zc_X6_screen 0 [(0, .ref 232), (1, .int (nI s)), (2, .int x), (3, .int y)] [] (zm_mk μ) 36 [(0, .ref 232), (1, .int (nI s)), (2, .int x), (3, .int y)] [] (zm_mk μ) := by
          refine ⟨N1 + N2 + N3, 15, fun F n hF => ?_⟩
          simp [zg_0, zg_aload_n, zg_baload, zg_bastore, zg_bipush, zg_getfield, zg_goto, zg_iaload, zg_iastore, zg_iconst, zg_ifCond, zg_if_icmp, zg_iinc, zg_iload, zg_iload_n, zg_invokestatic, zg_invokevirtual, zg_ireturn, zg_istore, zg_ldc, zg_sipush, zf_X6_screen, zi_ld, zi_lda, zi_cmp, zi_retOk, zi_isI, zi_f3, zi_cr, zi_ci, zi_cn, zi_get, zi_set, h40, h400, zq_Mod_isIn, E1 F (by omega), E2 F (by omega), E3 F (by omega)]
        by_cases c0 : μ 232 s = 0
        · -- the screen comes
          have hnil := zR_none h hs c0
          have w1 : zm_up (zm_up μ 232 s x) 233 s y 232 s = x := by rw [zm_up_ne (by omega), zm_up_eq]
          have w2 : zm_up (zm_up μ 232 s x) 233 s y 233 s = y := zm_up_eq
          have w3 : ∀ c d, ¬ (c = 232 ∧ d = s) → ¬ (c = 233 ∧ d = s) → zm_up (zm_up μ 232 s x) 233 s y c d = μ c d := fun c d r1 r2 => by rw [zm_up_ne r2, zm_up_ne r1]
          have S1 : ze_S (D + 27) 6 (some .int) zc_X6_screen 36 [(0, .ref 232), (1, .int (nI s)), (2, .int x), (3, .int y)] [] (zm_mk μ) 59 [(0, .ref 232), (1, .int (nI s)), (2, .int x), (3, .int y)] [] (zm_mk (zm_up (zm_up μ 232 s x) 233 s y)) := by
            refine ⟨0, 15, fun F n hF => ?_⟩
            simp [zg_0, zg_aload_n, zg_baload, zg_bastore, zg_bipush, zg_getfield, zg_goto, zg_iaload, zg_iastore, zg_iconst, zg_ifCond, zg_if_icmp, zg_iinc, zg_iload, zg_iload_n, zg_invokestatic, zg_invokevirtual, zg_ireturn, zg_istore, zg_ldc, zg_sipush, zf_X6_screen, zi_ld, zi_lda, zi_cmp, zi_retOk, zi_isI, zi_f3, zi_cr, zi_ci, zi_cn, zi_get, zi_set, zM_g, zm_iald (k := 0) zM_A232 is, zm_iast zM_A232 is, zm_iast zM_A233 is, cs, c0]
          generalize zm_up (zm_up μ 232 s x) 233 s y = A at S1 w1 w2 w3
          obtain ⟨lcA, cMA⟩ := zM_c (μ := A)
          obtain ⟨M, ⟨N4, E4⟩, hE, fE⟩ := ze_MclearTreeI (μ := A) (D + 25) (τ := s) (by omega)
          have hM : zv_nw μ M s x y := ⟨⟨(fE _ _ (zu_in_not (by decide))).trans w1, (fE _ _ (zu_in_not (by decide))).trans w2⟩, hE, fun c d r1 r2 r3 => (fE c d r3).trans (w3 c d r1 r2)⟩
          obtain ⟨lcM, cMM⟩ := zM_c (μ := M)
          have x51 : M 251 s = μ 251 s := hM.2.2 _ _ (by omega) (by omega) (zu_in_not (by decide))
          have tail : ∀ (X : zm_M) (r : Int32) (L : zi_Lc), zi_get L 0 = some (.ref 232) → zi_get L 1 = some (.int (nI s)) → zi_nl L = true → ze_G (D + 27) 6 (some .int) zc_X6_screen 90 L [.int r] (zm_mk X) (some (.int r)) (zm_mk (zm_up X 251 s 0)) := fun X r L g0 g1 nl => by
            have o0 : (0 : Int32) = 0 ∨ (0 : Int32) = 1 := Or.inl rfl
            refine ⟨0, 8, fun F n hF => ?_⟩
            simp (maxDischargeDepth := 9) [zg_0, zg_aload_n, zg_baload, zg_bastore, zg_bipush, zg_getfield, zg_goto, zg_iaload, zg_iastore, zg_iconst, zg_ifCond, zg_if_icmp, zg_iinc, zg_iload, zg_iload_n, zg_invokestatic, zg_invokevirtual, zg_ireturn, zg_istore, zg_ldc, zg_sipush, zf_X6_screen, zi_ld, zi_lda, zi_cmp, zi_retOk, zi_isI, zi_f3, zi_cr, zi_ci, zi_cn, zi_get_ne, zi_nl_i, zi_nl_r, zi_get_set_eq, nl, g0, g1, zM_g, zm_bast zM_A251 is o0, cs]
          have L0g : zi_get [(0, .ref 232), (1, .int (nI s)), (2, .int x), (3, .int y)] 0 = some (.ref 232) ∧ zi_get [(0, .ref 232), (1, .int (nI s)), (2, .int x), (3, .int y)] 1 = some (.int (nI s)) := ⟨rfl, rfl⟩
          by_cases c3 : μ 251 s = 0
          · have c3' : M 251 s = 0 := x51.trans c3
            refine ⟨zm_up M 251 s 0, 0, enter (S0.end (S1.end (ze_S.end ⟨N4, 9, fun F n hF => ?_⟩ (tail M 0 _ L0g.1 L0g.2 rfl)))), Or.inr ⟨s, hsa, Or.inr ⟨c0, M, hM, Or.inl ⟨Or.inl c3, zm_up_eq, fun c d _ r => zm_up_ne r⟩⟩⟩⟩
            simp [zg_0, zg_aload_n, zg_baload, zg_bastore, zg_bipush, zg_getfield, zg_goto, zg_iaload, zg_iastore, zg_iconst, zg_ifCond, zg_if_icmp, zg_iinc, zg_iload, zg_iload_n, zg_invokestatic, zg_invokevirtual, zg_ireturn, zg_istore, zg_ldc, zg_sipush, zf_X6_screen, zi_ld, zi_lda, zi_cmp, zi_retOk, zi_isI, zi_f3, zi_cr, zi_ci, zi_cn, zi_get, zi_set, zM_g, cMA, zq_Mod_clearTree, E4 F (by omega), zm_bald zM_A251 is, cs, c3']
          · have c3' : ¬ M 251 s = 0 := by rw [x51]; exact c3
            obtain ⟨⟨⟨abk, hIk⟩, hKd, hKw⟩, h252⟩ := And.intro (hK.1 s hs c3) hK.2
            have tK : zu_eqT μ (3 + s) M (3 + s) := zu_eq_in (fun c d r => hM.2.2 c d (fun z => zu_in_not (Or.inl (by omega)) r) (fun z => zu_in_not (Or.inl (by omega)) r) (zu_in_ne r (by omega)))
            have hIkM := tK.I hIk
            have low : ∀ c d, 234 ≤ c → c < 243 ∨ 250 < c → M c d = μ c d := fun c d r1 r2 => hM.2.2 c d (by omega) (by omega) (zu_in_not r2)
            have hb : ∀ k, k < 10 → M 252 (10 * s + k) = 0 ∨ M 252 (10 * s + k) = 1 := fun k hk => by
              rw [low _ _ (by decide) (by decide)]
              exact h252 _ (by omega)
            have how := zv_ow_cells (ν := M) (zR_ow h) (fun c d r => low c d (by omega) (by omega))
            obtain ⟨θ, ⟨N5, E5⟩, hcm, fθ⟩ := ze_McomesBack (μ := M) D hs hb how hIkM (by rw [hM.1.1]; exact hx0) (by rw [hM.1.2]; exact hy0)
            obtain ⟨lcθ, cMθ⟩ := zM_c (μ := θ)
            have ebk : zv_gd (zv_room M (zv_back M (zv_dlg μ) (zv_own μ) s) s) (zu_fit M (3 + s) (us (3 + s)) (M 232 s) (M 233 s)) 10 = zv_bk M us (zv_dlg μ) (zv_own μ) s := rfl
            rw [ebk] at E5
            by_cases c4 : zv_bk M us (zv_dlg μ) (zv_own μ) s = true
            · rw [if_pos c4] at E5
              have tθ : ∀ q, q < 3 → zu_I θ q (us q) (fun n => zu_ab θ q (nI n)) ∨ ∃ ab, zu_I θ q (us q) ab := fun q hq => by
                refine Or.inr ?_
                by_cases e : q = s
                · rw [e, hnil]
                  exact ⟨_, (zu_fr260 (τ := s) fθ).I hE⟩
                · obtain ⟨⟨ab, hI⟩, -⟩ := h.2.2.2.2.1 q hq
                  have t1 : zu_eqT μ q M q := zu_eq_in (fun c d r => hM.2.2 c d (fun z => zu_in_not (Or.inl (by omega)) r) (fun z => zu_in_not (Or.inl (by omega)) r) (zu_in_ne r e))
                  exact ⟨ab, (t1.trans (zu_fr260 (τ := q) fθ)).I hI⟩
              have hIθ : ∀ q, q < 3 → ∃ ab, zu_I θ q (us q) ab := fun q hq => (tθ q hq).elim (fun z => ⟨_, z⟩) id
              have teq : ∀ q, q < 3 → q ≠ s → zu_eqT μ q θ q := fun q hq e => by
                have t1 : zu_eqT μ q M q := zu_eq_in (fun c d r => hM.2.2 c d (fun z => zu_in_not (Or.inl (by omega)) r) (fun z => zu_in_not (Or.inl (by omega)) r) (zu_in_ne r e))
                exact t1.trans (zu_fr260 (τ := q) fθ)
              have hndθ : ∀ q, q < 3 → zu_nd θ q (us q) := fun q hq => by
                by_cases e : q = s
                · rw [e, hnil]
                  exact ⟨fun n hn => (by cases hn), fun n hn => (by cases hn)⟩
                · obtain ⟨⟨ab, hI⟩, hnd, -⟩ := h.2.2.2.2.1 q hq
                  exact zu_nd_eqT hI hnd (teq q hq e)
              have tKθ := tK.trans (zu_fr260 (τ := 3 + s) fθ)
              have hKdθ := zu_nd_eqT hIk hKd tKθ
              have etb : ∀ n ∈ zy_lvs (us (3 + s)), zu_tb θ (3 + s) n = zu_tb μ (3 + s) n := fun n hn => tKθ.tb (zu_I_lt hIk hn) (zu_I_tbl hIk hn)
              have hlvθ : ∀ n ∈ zy_lvs (us (3 + s)), ∀ w ∈ zu_tb θ (3 + s) n, zv_lv θ us w := fun n hn w hw => by
                rw [etb n hn] at hw
                obtain ⟨b1, q, b2, b3, ⟨m, b4⟩, b5⟩ := zR_lv h ((zu_I_tb hIk hn).2.2 w hw) (hKw n hn w hw)
                have hqs : q ≠ s := fun e => by
                  rw [e, hnil] at b4
                  cases b4.1
                obtain ⟨⟨ab, hI⟩, -⟩ := h.2.2.2.2.1 q b2
                refine ⟨b1, q, b2, by rw [fθ _ _ (by decide), low _ _ (by decide) (by decide)]; exact b3, ⟨m, zu_at_eqT hI (teq q b2 hqs) b4⟩, fun p hp hpq n hn z => ?_⟩
                by_cases e : p = s
                · rw [e, hnil] at hn
                  cases hn
                · obtain ⟨⟨ab, hI⟩, -⟩ := h.2.2.2.2.1 p hp
                  rw [(teq p hp e).tb (zu_I_lt hI hn) (zu_I_tbl hI hn)] at z
                  exact b5 p hp hpq n hn z
              have hbθ : ∀ k, k < 10 → θ 252 (10 * s + k) = 0 ∨ θ 252 (10 * s + k) = 1 := fun k hk => by
                rw [fθ _ _ (by decide)]
                exact hb k hk
              obtain ⟨M2, ξ, us1, ν1, ⟨N6, E6⟩, fv, hbs, hbr⟩ := ze_Mbring (μ := θ) (us := us) D hs hIθ hndθ (tKθ.I hIk) hKdθ hlvθ hcm hbθ
              have eW : (zy_lvs (us (3 + s))).flatMap (zu_tb θ (3 + s)) = (zy_lvs (us (3 + s))).flatMap (zu_tb M (3 + s)) := by
                have : zu_tb θ (3 + s) = zu_tb M (3 + s) := funext fun n => zu_tb_cells (fun d => ⟨fθ _ _ (by decide), fθ _ _ (by decide)⟩)
                rw [this]
              rw [eW] at hbs
              refine ⟨zm_up ν1 251 s 0, nI (zl_ct (zv_back M (zv_dlg μ) (zv_own μ) s) 10), enter (S0.end (S1.end (ze_S.end ⟨N4 + N5 + N6, 16, fun F n hF => ?_⟩ (tail ν1 _ _ L0g.1 L0g.2 rfl)))), Or.inr ⟨s, hsa, Or.inr ⟨c0, M, hM, Or.inr ⟨c3, c4, M2, ξ, us1, ν1, fun c d r1 r2 r3 => (fv c d r1 r2).trans (fθ c d r3), hbs, hbr, rfl⟩⟩⟩⟩
              simp [zg_0, zg_aload_n, zg_baload, zg_bastore, zg_bipush, zg_getfield, zg_goto, zg_iaload, zg_iastore, zg_iconst, zg_ifCond, zg_if_icmp, zg_iinc, zg_iload, zg_iload_n, zg_invokestatic, zg_invokevirtual, zg_ireturn, zg_istore, zg_ldc, zg_sipush, zf_X6_screen, zi_ld, zi_lda, zi_cmp, zi_retOk, zi_isI, zi_f3, zi_cr, zi_ci, zi_cn, zi_get, zi_set, zM_g, cMA, cMM, cMθ, zq_Mod_clearTree, zq_Mod_comesBack, zq_Mod_bring, E4 F (by omega), E5 F (by omega), E6 F (by omega), zm_bald zM_A251 is, cs, c3']
            · rw [if_neg c4] at E5
              refine ⟨zm_up θ 251 s 0, 0, enter (S0.end (S1.end (ze_S.end ⟨N4 + N5, 13, fun F n hF => ?_⟩ (tail θ 0 _ L0g.1 L0g.2 rfl)))), Or.inr ⟨s, hsa, Or.inr ⟨c0, M, hM, Or.inl ⟨Or.inr (by simpa using c4), zm_up_eq, fun c d r1 r => (zm_up_ne r).trans (fθ c d r1)⟩⟩⟩⟩
              simp [zg_0, zg_aload_n, zg_baload, zg_bastore, zg_bipush, zg_getfield, zg_goto, zg_iaload, zg_iastore, zg_iconst, zg_ifCond, zg_if_icmp, zg_iinc, zg_iload, zg_iload_n, zg_invokestatic, zg_invokevirtual, zg_ireturn, zg_istore, zg_ldc, zg_sipush, zf_X6_screen, zi_ld, zi_lda, zi_cmp, zi_retOk, zi_isI, zi_f3, zi_cr, zi_ci, zi_cn, zi_get, zi_set, zM_g, cMA, cMM, zq_Mod_clearTree, zq_Mod_comesBack, E4 F (by omega), E5 F (by omega), zm_bald zM_A251 is, cs, c3']
        · -- another size
          obtain ⟨⟨ab, hI⟩, hnd, hw⟩ := h.2.2.2.2.1 s hs
          obtain ⟨N4, E4⟩ := ze_Mfits (μ := μ) (D + 1) (τ := s) (by omega) hI hx0 hy0
          generalize hb0 : zu_fit μ s (us s) x y = b0 at E4
          have S1 : ze_S (D + 27) 6 (some .int) zc_X6_screen 36 [(0, .ref 232), (1, .int (nI s)), (2, .int x), (3, .int y)] [] (zm_mk μ) 114 [(5, .int (nI 0)), (4, .int (if b0 = true then 1 else 0)), (0, .ref 232), (1, .int (nI s)), (2, .int x), (3, .int y)] [] (zm_mk μ) := by
            refine ⟨N4, 13, fun F n hF => ?_⟩
            simp [zg_0, zg_aload_n, zg_baload, zg_bastore, zg_bipush, zg_getfield, zg_goto, zg_iaload, zg_iastore, zg_iconst, zg_ifCond, zg_if_icmp, zg_iinc, zg_iload, zg_iload_n, zg_invokestatic, zg_invokevirtual, zg_ireturn, zg_istore, zg_ldc, zg_sipush, zf_X6_screen, zi_ld, zi_lda, zi_cmp, zi_retOk, zi_isI, zi_f3, zi_cr, zi_ci, zi_cn, zi_get, zi_set, zM_g, cM, zq_Mod_fits, E4 F (by omega), zm_iald (k := 0) zM_A232 is, cs, c0, nI_0]
          obtain ⟨L2, h2, S2, nl2, a0, a1, a2, a3, a4, rfl⟩ := zv_scA (μ := μ) (w := x) (v := y) (D + 26) hs b0 [(5, .int (nI 0)), (4, .int (if b0 = true then 1 else 0)), (0, .ref 232), (1, .int (nI s)), (2, .int x), (3, .int y)] rfl rfl rfl rfl rfl rfl rfl
          generalize hg : zv_gd (zv_srm μ s x y) b0 10 = good at a4
          cases good with
          | false =>
            have a4 : zi_get L2 4 = some (.int 0) := a4
            refine ⟨μ, -1000000002, enter (S0.end (S1.end (S2.end ⟨0, 4, fun F n hF => ?_⟩))), Or.inr ⟨s, hsa, Or.inl ⟨c0, Or.inl ⟨by rw [hb0]; exact hg, rfl⟩⟩⟩⟩
            simp [zg_0, zg_aload_n, zg_baload, zg_bastore, zg_bipush, zg_getfield, zg_goto, zg_iaload, zg_iastore, zg_iconst, zg_ifCond, zg_if_icmp, zg_iinc, zg_iload, zg_iload_n, zg_invokestatic, zg_invokevirtual, zg_ireturn, zg_istore, zg_ldc, zg_sipush, zf_X6_screen, zi_ld, zi_lda, zi_cmp, zi_retOk, zi_isI, zi_f3, zi_cr, zi_ci, zi_cn, a4, n2]
          | true =>
            have a4 : zi_get L2 4 = some (.int 1) := a4
            have n10 : ¬ (1 : Int32) = 0 := by decide
            have w1 : zm_up (zm_up μ 232 s x) 233 s y 232 s = x := by rw [zm_up_ne (by omega), zm_up_eq]
            have w2 : zm_up (zm_up μ 232 s x) 233 s y 233 s = y := zm_up_eq
            have w3 : ∀ c d, ¬ (c = 232 ∧ d = s) → ¬ (c = 233 ∧ d = s) → zm_up (zm_up μ 232 s x) 233 s y c d = μ c d := fun c d r1 r2 => by rw [zm_up_ne r2, zm_up_ne r1]
            have S3 : ze_S (D + 27) 6 (some .int) zc_X6_screen 160 L2 [] (zm_mk μ) 185 (zi_set L2 5 (.int (nI 0))) [] (zm_mk (zm_up (zm_up μ 232 s x) 233 s y)) := by
              have nl := nl2
              refine ⟨0, 14, fun F n hF => ?_⟩
              simp (maxDischargeDepth := 9) [zg_0, zg_aload_n, zg_baload, zg_bastore, zg_bipush, zg_getfield, zg_goto, zg_iaload, zg_iastore, zg_iconst, zg_ifCond, zg_if_icmp, zg_iinc, zg_iload, zg_iload_n, zg_invokestatic, zg_invokevirtual, zg_ireturn, zg_istore, zg_ldc, zg_sipush, zf_X6_screen, zi_ld, zi_lda, zi_cmp, zi_retOk, zi_isI, zi_f3, zi_cr, zi_ci, zi_cn, zi_get_ne, zi_nl_i, zi_nl_r, zi_get_set_eq, nl, a0, a1, a2, a3, a4, n10, zM_g, zm_iast zM_A232 is, zm_iast zM_A233 is, cs, nI_0]
            generalize zm_up (zm_up μ 232 s x) 233 s y = A at S3 w1 w2 w3
            obtain ⟨r, h', G, rfl, ν, rfl, hpl⟩ := zv_scB (μ := A) (D + 25) hs (zi_set L2 5 (.int (nI 0))) (zi_nl_i nl2) ((zi_get_ne nl2 (by decide)).trans a0) ((zi_get_ne nl2 (by decide)).trans a1) zi_get_set_eq
            exact ⟨ν, 0, enter (S0.end (S1.end (S2.end (S3.end G)))), Or.inr ⟨s, hsa, Or.inl ⟨c0, Or.inr ⟨by rw [hb0]; exact hg, ⟨(hpl _ _ (by decide) (by decide)).trans w1, (hpl _ _ (by decide) (by decide)).trans w2⟩, fun c d r1 r2 r3 r4 => (hpl c d r1 r2).trans (w3 c d r3 r4)⟩⟩⟩⟩
      · rw [if_neg c2] at E3
        refine ⟨μ, -1000000001, enter ⟨N1 + N2 + N3, 17, fun F n hF => ?_⟩, Or.inl ⟨fun ⟨s', q⟩ => c2 q.2.2.2, rfl⟩⟩
        simp [zg_0, zg_aload_n, zg_baload, zg_bastore, zg_bipush, zg_getfield, zg_goto, zg_iaload, zg_iastore, zg_iconst, zg_ifCond, zg_if_icmp, zg_iinc, zg_iload, zg_iload_n, zg_invokestatic, zg_invokevirtual, zg_ireturn, zg_istore, zg_ldc, zg_sipush, zf_X6_screen, zi_ld, zi_lda, zi_cmp, zi_retOk, zi_isI, zi_f3, zi_cr, zi_ci, zi_cn, zi_get, zi_set, h40, h400, zq_Mod_isIn, E1 F (by omega), E2 F (by omega), E3 F (by omega), n1]
    · rw [if_neg c1] at E2
      refine ⟨μ, -1000000001, enter ⟨N1 + N2, 12, fun F n hF => ?_⟩, Or.inl ⟨fun ⟨s', q⟩ => c1 q.2.2.1, rfl⟩⟩
      simp [zg_0, zg_aload_n, zg_baload, zg_bastore, zg_bipush, zg_getfield, zg_goto, zg_iaload, zg_iastore, zg_iconst, zg_ifCond, zg_if_icmp, zg_iinc, zg_iload, zg_iload_n, zg_invokestatic, zg_invokevirtual, zg_ireturn, zg_istore, zg_ldc, zg_sipush, zf_X6_screen, zi_ld, zi_lda, zi_cmp, zi_retOk, zi_isI, zi_f3, zi_cr, zi_ci, zi_cn, zi_get, zi_set, h40, h400, zq_Mod_isIn, E1 F (by omega), E2 F (by omega), n1]
  · refine ⟨μ, -1000000001, enter ⟨N1, 7, fun F n hF => ?_⟩, Or.inl ⟨fun ⟨s', q⟩ => hno s' q.1 q.2.1, rfl⟩⟩
    simp [zg_0, zg_aload_n, zg_baload, zg_bastore, zg_bipush, zg_getfield, zg_goto, zg_iaload, zg_iastore, zg_iconst, zg_ifCond, zg_if_icmp, zg_iinc, zg_iload, zg_iload_n, zg_invokestatic, zg_invokevirtual, zg_ireturn, zg_istore, zg_ldc, zg_sipush, zf_X6_screen, zi_ld, zi_lda, zi_cmp, zi_retOk, zi_isI, zi_f3, zi_cr, zi_ci, zi_cn, zi_get, zi_set, zq_Mod_isIn, E1 F (by omega), n1]
end ZWU
