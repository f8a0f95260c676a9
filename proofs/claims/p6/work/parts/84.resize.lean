/-! the desk: a screen's size -/
section ZSZ
variable {μ ν : zm_M} {row stk : List Nat} {Rs : Nat → List Nat} {ts : Nat → zy_F}
theorem zJ_size (h : zJ μ row stk Rs ts) {z : Nat} (hz : z < 3) (e : ∀ c, ¬ zJ_irr c → c ≠ zdZ z → ν c = μ c) (hsz : 40 ≤ ν (zdZ z) 0 ∧ ν (zdZ z) 0 ≤ 400 ∧ 40 ≤ ν (zdZ z) 1 ∧ ν (zdZ z) 1 ≤ 400) (hfit : ¬ μ (zdS z) 3 = 0 → zt_fit ν (zdT z) (zdZ z) (Rs z) (ts z) = true) : zJ ν row stk Rs ts := by
  obtain ⟨h1, h2, h3, h4, h5, h6⟩ := h
  have eW : ∀ k, k < 10 → ν (zdW k) = μ (zdW k) := fun k hk => e _ (zJn_W hk).1 (by unfold zdW zdZ; omega)
  have eL : ∀ k, k < 10 → ν (zdW k + 1) = μ (zdW k + 1) := fun k hk => e _ (zJn_W hk).2 (by unfold zdW zdZ; omega)
  have eT : ∀ s, s < 3 → ∀ j, j < 19 → ν (zdT s + j) = μ (zdT s + j) := fun s hs j hj => e _ (zJn_T hs hj).1 (by unfold zdT zdZ; omega)
  have eV : ∀ s, s < 3 → ∀ j, j < 19 → ν (zdV s + j) = μ (zdV s + j) := fun s hs j hj => e _ (zJn_T hs hj).2 (by unfold zdV zdZ; omega)
  have eS : ∀ s, s < 3 → ν (zdS s) = μ (zdS s) ∧ ν (zdK s) = μ (zdK s) ∧ ν (zdQ s) = μ (zdQ s) := fun s hs => ⟨e _ (zJn_S hs).1 (by unfold zdS zdZ; omega), e _ (zJn_S hs).2.2.1 (by unfold zdK zdZ; omega), e _ (zJn_S hs).2.2.2 (by unfold zdQ zdZ; omega)⟩
  have e0 : ∀ c, c < 7 → ν c = μ c := fun c hc => e _ (zJn_0 hc) (by unfold zdZ; omega)
  have th : ∀ k, k < 10 → zd_th ν k = zd_th μ k := fun k hk => by unfold zd_th; rw [eW k hk]
  have til : ∀ k, k < 10 → zd_til ν k = zd_til μ k := fun k hk => by unfold zd_til; rw [eW k hk]
  refine ⟨⟨zr_L_congr (e0 _ (by decide)) (e0 _ (by decide)) h1.1, h1.2.1, fun k => ?_⟩, ⟨zr_L_congr (e0 _ (by decide)) (e0 _ (by decide)) h2.1, h2.2⟩, fun k hk ht => ?_, fun s hs => ?_, fun s hs => ?_, fun s hs ht => ?_⟩
  · rw [h1.2.2 k]
    constructor
    · rintro ⟨a, b⟩
      exact ⟨a, by rw [th k a]; exact b⟩
    · rintro ⟨a, b⟩
      exact ⟨a, by rw [← th k a]; exact b⟩
  · rw [th k hk] at ht
    obtain ⟨a1, a2, a3, a4, a5⟩ := h3 k hk ht
    rw [eW k hk, eL k hk]
    refine ⟨a1, a2, fun q => ?_, fun q => ?_, a5⟩
    · obtain ⟨s, b1, b2, b3⟩ := a3 q
      exact ⟨s, b1, b2, by rw [(eS s b1).1]; exact b3⟩
    · obtain ⟨o, b1, b2, b3, b4⟩ := a4 q
      exact ⟨o, b1, b2, b3, by rw [th o b1]; exact b4⟩
  · obtain ⟨a1, a2, a3⟩ := h4 s hs
    refine ⟨zt_C_19 (eT s hs) a1, fun k => ?_, fun k hk => ?_⟩
    · rw [a2 k]
      constructor
      · rintro ⟨b1, b2⟩
        exact ⟨b1, by rw [til k b1, eW k b1]; exact b2⟩
      · rintro ⟨b1, b2⟩
        exact ⟨b1, by rw [til k b1, eW k b1] at b2; exact b2⟩
    · have hk10 := ((a2 k).mp hk).1
      rw [eT s hs 5 (by omega), eT s hs 6 (by omega), eL k hk10]
      exact a3 k hk
  · obtain ⟨a1, a2⟩ := h5 s hs
    refine ⟨zt_C_19 (eV s hs) a1, fun q => ?_⟩
    rw [(eS s hs).2.1] at q
    obtain ⟨b1, b2, b3⟩ := a2 q
    refine ⟨by rw [(eS s hs).1]; exact b1, fun k hk => ?_, fun k hk hq => ?_⟩
    · have hk10 := a1.1.1.2.2 k hk
      rw [eV s hs 5 (by omega), eV s hs 6 (by omega), eL k hk10, til k hk10]
      exact b2 k hk
    · rw [(eS s hs).2.2] at hq
      rw [th k hk, eW k hk]
      exact b3 k hk hq
  · rw [(eS s hs).1] at ht
    obtain ⟨a1, a2⟩ := h6 s hs ht
    by_cases c : s = z
    · subst c
      exact ⟨hsz, hfit ht⟩
    · have ez : ν (zdZ s) = μ (zdZ s) := e _ (zJn_S hs).2.1 (by unfold zdZ; omega)
      rw [ez]
      refine ⟨a1, ?_⟩
      unfold zt_fit at *
      rw [zt_lsz_19 (eT s hs) (by decide), zt_lsz_19 (eT s hs) (by decide), ez]
      exact a2
/-- what screen may be asked -/
def zd_sarg (w x y : Int32) (s : Nat) : Prop := s < 3 ∧ w = nI s ∧ (40 ≤ x ∧ x ≤ 400) ∧ 40 ≤ y ∧ y ≤ 400
set_option maxRecDepth 100000 in
theorem ze_screen_0 (D : Nat) (w x y : Int32) : ((¬ ∃ s, zd_sarg w x y s) ∧ ze_G (D + 1) 6 (some .int) zc_X5_screen 0 [(0, .ref 1), (1, .int w), (2, .int x), (3, .int y)] [] (zm_mk μ) (some (.int (-1000000001))) (zm_mk μ)) ∨
    ∃ s, zd_sarg w x y s ∧ ze_S (D + 1) 6 (some .int) zc_X5_screen 0 [(0, .ref 1), (1, .int w), (2, .int x), (3, .int y)] [] (zm_mk μ) 46 [(4, .ref (zdS s + 1)), (0, .ref 1), (1, .int w), (2, .int x), (3, .int y)] [] (zm_mk (zm_up (zm_up μ 32 0 x) 32 1 y)) := by
  have n4 : Int32.ofInt (-1000000001) = -1000000001 := by decide
  rcases zd_rng w 3 (by decide) with ⟨s, hs, rfl⟩ | hout
  · obtain ⟨N1, E1⟩ := ze_isScreen_in (h := zm_mk μ) D hs
    obtain ⟨N2, E2⟩ := ze_isScreenSize (h := zm_mk μ) D x
    obtain ⟨N3, E3⟩ := ze_isScreenSize (h := zm_mk μ) D y
    by_cases c2 : 40 ≤ x ∧ x ≤ 400
    · have z2 : zb (40 ≤ x ∧ x ≤ 400) = 1 := if_pos c2
      rw [z2] at E2
      by_cases c3 : 40 ≤ y ∧ y ≤ 400
      · have z3 : zb (40 ≤ y ∧ y ≤ 400) = 1 := if_pos c3
        rw [z3] at E3
        right
        refine ⟨s, ⟨hs, rfl, c2, c3⟩, N1 + N2 + N3, 24, fun F n hF => ?_⟩
        simp [zg_0, zg_aaload, zg_aload, zg_aload_n, zg_astore, zg_getfield, zg_iastore, zg_iconst, zg_ifCond, zg_iload, zg_iload_n, zg_invokestatic, zg_invokevirtual, zg_ireturn, zg_istore, zg_ldc, zg_putfield, zf_X5_screen, zi_ld, zi_lda, zi_cmp, zi_retOk, zi_isI, zi_f3, zi_cr, zi_ci, zi_cn, zi_get, zi_set, zq_Desk_isScreen, E1 F (by omega), zq_Desk_isScreenSize, E2 F (by omega), E3 F (by omega), zd_g, zm_iast zd32_A zm_in0, zm_iast zd32_A zm_in1, zm_cl0, zm_cl1, zd_s hs]
      · have z3 : zb (40 ≤ y ∧ y ≤ 400) = 0 := if_neg c3
        rw [z3] at E3
        left
        refine ⟨fun ⟨s', _, _, _, q⟩ => c3 q, N1 + N2 + N3, 11, fun F n hF => ?_⟩
        simp [zg_0, zg_aaload, zg_aload, zg_aload_n, zg_astore, zg_getfield, zg_iastore, zg_iconst, zg_ifCond, zg_iload, zg_iload_n, zg_invokestatic, zg_invokevirtual, zg_ireturn, zg_istore, zg_ldc, zg_putfield, zf_X5_screen, zi_ld, zi_lda, zi_cmp, zi_retOk, zi_isI, zi_f3, zi_cr, zi_ci, zi_cn, zi_get, zi_set, zq_Desk_isScreen, E1 F (by omega), zq_Desk_isScreenSize, E2 F (by omega), E3 F (by omega), n4]
    · have z2 : zb (40 ≤ x ∧ x ≤ 400) = 0 := if_neg c2
      rw [z2] at E2
      left
      refine ⟨fun ⟨s', _, _, q, _⟩ => c2 q, N1 + N2, 8, fun F n hF => ?_⟩
      simp [zg_0, zg_aaload, zg_aload, zg_aload_n, zg_astore, zg_getfield, zg_iastore, zg_iconst, zg_ifCond, zg_iload, zg_iload_n, zg_invokestatic, zg_invokevirtual, zg_ireturn, zg_istore, zg_ldc, zg_putfield, zf_X5_screen, zi_ld, zi_lda, zi_cmp, zi_retOk, zi_isI, zi_f3, zi_cr, zi_ci, zi_cn, zi_get, zi_set, zq_Desk_isScreen, E1 F (by omega), zq_Desk_isScreenSize, E2 F (by omega), n4]
  · obtain ⟨N1, E1⟩ := ze_isScreen_out (h := zm_mk μ) D hout
    left
    refine ⟨fun ⟨s', q1, q2, _, _⟩ => ?_, N1, 5, fun F n hF => ?_⟩
    · rw [q2] at hout
      exact hout.elim (nI_pos (by omega)) (nI_ge (b := 3) q1 (by decide))
    · simp [zg_0, zg_aaload, zg_aload, zg_aload_n, zg_astore, zg_getfield, zg_iastore, zg_iconst, zg_ifCond, zg_iload, zg_iload_n, zg_invokestatic, zg_invokevirtual, zg_ireturn, zg_istore, zg_ldc, zg_putfield, zf_X5_screen, zi_ld, zi_lda, zi_cmp, zi_retOk, zi_isI, zi_f3, zi_cr, zi_ci, zi_cn, zi_get, zi_set, zq_Desk_isScreen, E1 F (by omega), n4]
/-- a screen that is there: refused, or of another size -/
def zd_rsz (μ ν : zm_M) (Rs : Nat → List Nat) (ts : Nat → zy_F) (s : Nat) (x y : Int32) : Prop :=
  ∃ ξ, zJ_eqv μ ξ ∧ ξ 32 0 = x ∧ ξ 32 1 = y ∧
    (((zt_fit ξ (zdT s) 32 (Rs s) (ts s) = false ∨ zl_al (zd_lwf ξ (nI s) 32) 10 = false) ∧ ν = ξ) ∨
     ((zt_fit ξ (zdT s) 32 (Rs s) (ts s) = true ∧ zl_al (zd_lwf ξ (nI s) 32) 10 = true) ∧ (∀ c, ¬ zJ_irr c → c ≠ zdZ s → ν c = μ c) ∧ ν (zdZ s) 0 = x ∧ ν (zdZ s) 1 = y))
set_option maxRecDepth 100000 in
theorem ze_screen_1 (D : Nat) (h : zJ μ row stk Rs ts) {w x y : Int32} {s : Nat} (ha : zd_sarg w x y s) (hst : ¬ μ (zdS s) 3 = 0) : ∃ ν r, ze_E (D + 7) A_Desk_screen [.ref 1, .int w, .int x, .int y] (zm_mk μ) (some (.int r)) (zm_mk ν) ∧ zJ ν row stk Rs ts ∧ zd_rsz μ ν Rs ts s x y := by
  have n2 : Int32.ofInt (-1000000002) = -1000000002 := by decide
  rcases ze_screen_0 (μ := μ) (D + 5) w x y with ⟨hno, -⟩ | ⟨s', ha', S0⟩
  · exact absurd ⟨s, ha⟩ hno
  obtain ⟨hs, rfl, hx, hy⟩ := ha
  have es : s' = s := (nI_eq (by have := ha'.1; omega) (by omega)).mp ha'.2.1.symm
  subst es
  let ξ := zm_up (zm_up μ 32 0 x) 32 1 y
  have rξ : ∀ c, c ≠ 32 → ξ c = μ c := fun c hc => (zm_up_row hc).trans (zm_up_row hc)
  have evξ : zJ_eqv μ ξ := fun c hc => rξ c (fun e => hc (by rw [e]; unfold zJ_irr; omega))
  have x0 : ξ 32 0 = x := (zm_up_ne (by decide)).trans zm_up_eq
  have x1 : ξ 32 1 = y := zm_up_eq
  have hJ := h.eqv evξ
  obtain ⟨C, m, l⟩ := hJ.2.2.2.1 s' hs
  obtain ⟨N1, E1⟩ := ze_fitsC (μ := ξ) (D + 4) (zdT_at hs) C zd32_A
  obtain ⟨N2, E2⟩ := ze_looseOnesFit (μ := ξ) (D + 3) (nI s') zd32_A
  rw [zb_dec, show (decide (zl_al (zd_lwf ξ (nI s') 32) 10 = true)) = zl_al (zd_lwf ξ (nI s') 32) 10 by cases zl_al (zd_lwf ξ (nI s') 32) 10 <;> rfl] at E2
  obtain ⟨lt, ct⟩ := zt_c (μ := ξ) (zdT_at hs)
  have hst' : ¬ ξ (zdS s') 3 = 0 := by rw [rξ _ (by unfold zdS; omega)]; exact hst
  have S0 : ze_S (D + 6) 6 (some .int) zc_X5_screen 0 [(0, .ref 1), (1, .int (nI s')), (2, .int x), (3, .int y)] [] (zm_mk μ) 46 [(4, .ref (zdS s' + 1)), (0, .ref 1), (1, .int (nI s')), (2, .int x), (3, .int y)] [] (zm_mk ξ) := S0
  cases hfit : zt_fit ξ (zdT s') 32 (Rs s') (ts s') with
  | false =>
    rw [hfit, if_neg (by decide)] at E1
    refine ⟨ξ, -1000000002, ze_in [(0, .ref 1), (1, .int (nI s')), (2, .int x), (3, .int y)] zq_Desk_screen (Nat.le_of_ble_eq_true rfl) rfl (S0.end ⟨N1, 11, fun F n hF => ?_⟩), hJ, ξ, evξ, x0, x1, Or.inl ⟨Or.inl hfit, rfl⟩⟩
    simp [zg_0, zg_aaload, zg_aload, zg_aload_n, zg_astore, zg_getfield, zg_iastore, zg_iconst, zg_ifCond, zg_iload, zg_iload_n, zg_invokestatic, zg_invokevirtual, zg_ireturn, zg_istore, zg_ldc, zg_putfield, zf_X5_screen, zi_ld, zi_lda, zi_cmp, zi_retOk, zi_isI, zi_f3, zi_cr, zi_ci, zi_cn, zi_get, zi_set, zdS_g hs, hst', zd_g, zq_Tree_fits, ct, E1 F (by omega), n2]
  | true =>
    rw [hfit, if_pos rfl] at E1
    cases hlw : zl_al (zd_lwf ξ (nI s') 32) 10 with
    | false =>
      rw [hlw, if_neg (by decide)] at E2
      refine ⟨ξ, -1000000002, ze_in [(0, .ref 1), (1, .int (nI s')), (2, .int x), (3, .int y)] zq_Desk_screen (Nat.le_of_ble_eq_true rfl) rfl (S0.end ⟨N1 + N2, 17, fun F n hF => ?_⟩), hJ, ξ, evξ, x0, x1, Or.inl ⟨Or.inr hlw, rfl⟩⟩
      simp [zg_0, zg_aaload, zg_aload, zg_aload_n, zg_astore, zg_getfield, zg_iastore, zg_iconst, zg_ifCond, zg_iload, zg_iload_n, zg_invokestatic, zg_invokevirtual, zg_ireturn, zg_istore, zg_ldc, zg_putfield, zf_X5_screen, zi_ld, zi_lda, zi_cmp, zi_retOk, zi_isI, zi_f3, zi_cr, zi_ci, zi_cn, zi_get, zi_set, zdS_g hs, hst', zd_g, zq_Tree_fits, ct, E1 F (by omega), zq_Desk_looseOnesFit, zd_c, E2 F (by omega), n2]
    | true =>
      rw [hlw, if_pos rfl] at E2
      obtain ⟨N3, E3⟩ := ze_setSize (μ := ξ) (D + 5) hs
      rw [x0, x1] at E3
      let ξ2 := zm_up (zm_up ξ (zdZ s') 0 x) (zdZ s') 1 y
      have m2 : zm_up (zm_up ξ (zdZ s') 0 x) (zdZ s') 1 y = ξ2 := rfl
      rw [m2] at E3
      obtain ⟨ν, ⟨N4, E4⟩, s5, s4⟩ := ze_sendAll (μ := ξ2) D (nI s') hs
      have r2 : ∀ c, c ≠ zdZ s' → ξ2 c = ξ c := fun c hc => (zm_up_row hc).trans (zm_up_row hc)
      have w2 : ∀ j, j < 10 → ξ2 (zdW j) = μ (zdW j) := fun j hj => by rw [r2 _ (by unfold zdW zdZ; omega), evξ _ (zJn_W hj).1]
      have f : ∀ c, ¬ zJ_irr c → c ≠ zdZ s' → ν c = μ c := fun c a1 a2 => by
        by_cases cw : ∃ j, j < 10 ∧ c = zdW j
        · obtain ⟨j, hj, rfl⟩ := cw
          funext d
          by_cases hd : d = 5
          · subst hd
            rw [s5 j hj, w2 j hj]
            by_cases q : zd_on ξ2 (nI s') j = true
            · rw [if_pos q]
              have := (of_decide_eq_true q).2.2
              rw [w2 j hj] at this
              exact this.symm
            · rw [if_neg q]
          · rw [s4 _ _ (fun _ _ _ => hd) (fun i hi => by unfold zdW; omega), w2 j hj]
        · funext d
          rw [s4 c d (fun j hj e => absurd ⟨j, hj, e⟩ cw) (fun j hj e => a1 (by rw [e]; unfold zJ_irr zdW; omega)), r2 c a2, evξ c a1]
      have hz0 : ν (zdZ s') 0 = x := by
        rw [s4 _ _ (fun j hj e => by unfold zdZ zdW at e; omega) (fun j hj => by unfold zdZ zdW; omega)]
        exact (zm_up_ne (by omega)).trans zm_up_eq
      have hz1 : ν (zdZ s') 1 = y := by
        rw [s4 _ _ (fun j hj e => by unfold zdZ zdW at e; omega) (fun j hj => by unfold zdZ zdW; omega)]
        exact zm_up_eq
      have rT : ∀ j, j < 19 → ν (zdT s' + j) = ξ (zdT s' + j) := fun j hj => by
        rw [f _ (zJn_T hs hj).1 (by unfold zdT zdZ; omega), evξ _ (zJn_T hs hj).1]
      have hfit' : zt_fit ν (zdT s') (zdZ s') (Rs s') (ts s') = true := by
        unfold zt_fit at *
        rw [zt_lsz_19 rT (by decide), zt_lsz_19 rT (by decide), hz0, hz1]
        rw [x0, x1] at hfit
        exact hfit
      refine ⟨ν, 0, ze_in [(0, .ref 1), (1, .int (nI s')), (2, .int x), (3, .int y)] zq_Desk_screen (Nat.le_of_ble_eq_true rfl) rfl (S0.end ⟨N1 + N2 + N3 + N4, 25, fun F n hF => ?_⟩), zJ_size h hs f (by rw [hz0, hz1]; exact ⟨hx.1, hx.2, hy⟩) (fun _ => hfit'), ξ, evξ, x0, x1, Or.inr ⟨⟨hfit, hlw⟩, f, hz0, hz1⟩⟩
      have cs : (zm_mk ξ)[zdS s']? = some (2, [.ref (zdZ s' + 1), .ref (zdT s' + 1), .ref (zdK s' + 1), .int (ξ (zdS s') 3)]) := zm_get (zdS_h hs)
      simp [zg_0, zg_aaload, zg_aload, zg_aload_n, zg_astore, zg_getfield, zg_iastore, zg_iconst, zg_ifCond, zg_iload, zg_iload_n, zg_invokestatic, zg_invokevirtual, zg_ireturn, zg_istore, zg_ldc, zg_putfield, zf_X5_screen, zi_ld, zi_lda, zi_cmp, zi_retOk, zi_isI, zi_f3, zi_cr, zi_ci, zi_cn, zi_get, zi_set, zdS_g hs, hst', zd_g, zq_Tree_fits, ct, E1 F (by omega), zq_Desk_looseOnesFit, zd_c, E2 F (by omega), zq_Scr_setSize, cs, E3 F (by omega), zq_Desk_sendAll, E4 F (by omega)]
end ZSZ
