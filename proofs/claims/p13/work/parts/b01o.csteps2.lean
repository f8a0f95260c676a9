/-! steps: the class's answer -/
/-- both are windows; both are shown -/
def zx_stA (μ : zm_M) (w x : Int32) : Prop := (∃ k, k < 10 ∧ w = nI k ∧ zd_th μ k = true) ∧ ∃ k, k < 10 ∧ x = nI k ∧ zd_th μ k = true
def zx_stB (μ : zm_M) (w x : Int32) : Prop := (∃ k s, k < 10 ∧ s < 3 ∧ w = nI k ∧ zd_shn μ s k) ∧ ∃ k s, k < 10 ∧ s < 3 ∧ x = nI k ∧ zd_shn μ s k
/-- how far b is from a -/
def zx_far (G : Nat → Nat → Nat → Prop) (a b : Nat) (v : Int32) : Prop := (∃ n, n ≤ 10 ∧ zb_d G a n b ∧ v = nI n) ∨ ((∀ n, ¬ zb_W G a n b) ∧ v = -1000000005)
section ZBE
variable {μ ν : zm_M} {row stk : List Nat} {Rs : Nat → List Nat} {ts : Nat → zy_F}
set_option maxRecDepth 100000 in
theorem ze_steps_v (D : Nat) (h : zJ μ row stk Rs ts) (w x : Int32) : ∃ ν v, ze_E (D + 7) A_Desk_steps [.ref 1, .int w, .int x] (zm_mk μ) (some (.int v)) (zm_mk ν) ∧ zJ_eqv μ ν ∧ ((¬ zx_stA μ w x ∧ v = -1000000001) ∨ (zx_stA μ w x ∧ ¬ zx_stB μ w x ∧ v = -1000000002) ∨ ∃ a b s ν1, a < 10 ∧ b < 10 ∧ s < 3 ∧ w = nI a ∧ x = nI b ∧ zd_shn μ s a ∧ (∃ s', s' < 3 ∧ zd_shn μ s' b) ∧ zJ_eqv μ ν1 ∧ (∀ q, q < 3 → zd_laid ν1 q (Rs q) (ts q)) ∧ zx_far (zx_G ν1 s) a b v) := by
  have n4 : Int32.ofInt (-1000000001) = -1000000001 := by decide
  have n2 : Int32.ofInt (-1000000002) = -1000000002 := by decide
  have n5 : Int32.ofInt (-1000000005) = -1000000005 := by decide
  have h10 : (Int8.ofInt 10).toInt32 = (10 : Int32) := by decide
  have isW : ∀ y : Int32, (∃ b : Int32, ((b = 0 ∧ ∀ k, k < 10 → y = nI k → ¬ zd_th μ k = true) ∨ (b = 1 ∧ ∃ k, k < 10 ∧ y = nI k ∧ zd_th μ k = true)) ∧ ze_E (D + 6) A_Desk_isWindow [.ref 1, .int y] (zm_mk μ) (some (.int b)) (zm_mk μ)) := by
    intro y
    rcases zd_rng y 10 (by decide) with ⟨k, hk, rfl⟩ | hout
    · have E := ze_thW (μ := μ) (D + 5) hk
      by_cases c : zd_th μ k = true
      · rw [if_pos c] at E
        exact ⟨1, Or.inr ⟨rfl, k, hk, rfl, c⟩, E⟩
      · rw [if_neg c] at E
        exact ⟨0, Or.inl ⟨rfl, fun j hj e => by rw [← (nI_eq (by omega) (by omega)).mp e]; exact c⟩, E⟩
    · exact ⟨0, Or.inl ⟨rfl, fun j hj e => by
        rw [e] at hout
        exact absurd hout (fun q => q.elim (nI_pos (by omega)) (nI_ge (b := 10) hj (by decide)))⟩, ze_isWindow_out (D + 5) hout⟩
  obtain ⟨b1, hb1, N1, E1⟩ := isW w
  rcases hb1 with ⟨rfl, hno⟩ | ⟨rfl, a, ha, rfl, hta⟩
  · refine ⟨μ, -1000000001, ze_in [(0, .ref 1), (1, .int w), (2, .int x)] zq_Desk_steps (Nat.le_of_ble_eq_true rfl) rfl ⟨N1, 6, fun F n hF => ?_⟩, zJ_eqv.refl, Or.inl ⟨fun z => z.1.elim (fun k q => hno k q.1 q.2.1 q.2.2), rfl⟩⟩
    simp [zi_go, zf_X5_steps, zi_ask, zi_new, zi_step, zi_ld, zi_lda, zi_cmp, zi_retOk, zi_isI, zi_f3, zi_cr, zi_ci, zi_cn, zi_get, zi_set, zq_Desk_isWindow, zd_c, E1 F (by omega), n4]
  obtain ⟨b2, hb2, N2, E2⟩ := isW x
  rcases hb2 with ⟨rfl, hno⟩ | ⟨rfl, b, hb, rfl, htb⟩
  · refine ⟨μ, -1000000001, ze_in [(0, .ref 1), (1, .int (nI a)), (2, .int x)] zq_Desk_steps (Nat.le_of_ble_eq_true rfl) rfl ⟨N1 + N2, 10, fun F n hF => ?_⟩, zJ_eqv.refl, Or.inl ⟨fun z => z.2.elim (fun k q => hno k q.1 q.2.1 q.2.2), rfl⟩⟩
    simp [zi_go, zf_X5_steps, zi_ask, zi_new, zi_step, zi_ld, zi_lda, zi_cmp, zi_retOk, zi_isI, zi_f3, zi_cr, zi_ci, zi_cn, zi_get, zi_set, zq_Desk_isWindow, zd_c, E1 F (by omega), E2 F (by omega), n4]
  rcases ze_isShownTileJ (D + 3) h (nI a) with ⟨⟨N3, E3⟩, a', s, ha', hs, ea, hsh⟩ | ⟨⟨N3, E3⟩, hns⟩
  rotate_left
  · refine ⟨μ, -1000000002, ze_in [(0, .ref 1), (1, .int (nI a)), (2, .int (nI b))] zq_Desk_steps (Nat.le_of_ble_eq_true rfl) rfl ⟨N1 + N2 + N3, 14, fun F n hF => ?_⟩, zJ_eqv.refl, Or.inr (Or.inl ⟨⟨⟨a, ha, rfl, hta⟩, b, hb, rfl, htb⟩, fun z => z.1.elim (fun k q => q.elim (fun s q => hns k s q.1 q.2.1 q.2.2.1 q.2.2.2)), rfl⟩)⟩
    simp [zi_go, zf_X5_steps, zi_ask, zi_new, zi_step, zi_ld, zi_lda, zi_cmp, zi_retOk, zi_isI, zi_f3, zi_cr, zi_ci, zi_cn, zi_get, zi_set, zq_Desk_isWindow, zd_c, E1 F (by omega), E2 F (by omega), zq_Desk_isShownTile, E3 F (by omega), n2]
  rcases ze_isShownTileJ (D + 3) h (nI b) with ⟨⟨N4, E4⟩, b', sb, hb', hsb, eb, hshb⟩ | ⟨⟨N4, E4⟩, hns⟩
  rotate_left
  · refine ⟨μ, -1000000002, ze_in [(0, .ref 1), (1, .int (nI a)), (2, .int (nI b))] zq_Desk_steps (Nat.le_of_ble_eq_true rfl) rfl ⟨N1 + N2 + N3 + N4, 18, fun F n hF => ?_⟩, zJ_eqv.refl, Or.inr (Or.inl ⟨⟨⟨a, ha, rfl, hta⟩, b, hb, rfl, htb⟩, fun z => z.2.elim (fun k q => q.elim (fun s q => hns k s q.1 q.2.1 q.2.2.1 q.2.2.2)), rfl⟩)⟩
    simp [zi_go, zf_X5_steps, zi_ask, zi_new, zi_step, zi_ld, zi_lda, zi_cmp, zi_retOk, zi_isI, zi_f3, zi_cr, zi_ci, zi_cn, zi_get, zi_set, zq_Desk_isWindow, zd_c, E1 F (by omega), E2 F (by omega), zq_Desk_isShownTile, E3 F (by omega), E4 F (by omega), n2]
  have ea : a' = a := ((nI_eq (by omega) (by omega)).mp ea).symm
  have eb : b' = b := ((nI_eq (by omega) (by omega)).mp eb).symm
  rw [ea] at hsh
  rw [eb] at hshb
  obtain ⟨ν1, ⟨N5, E5⟩, f5, hlaid⟩ := ze_layTrees (μ := μ) D (fun s hs => (h.2.2.2.1 s hs).1)
  have ev1 := zd_frA_eqv f5
  have hJ1 := h.eqv ev1
  have hsh1 : zd_shn ν1 s a := (zd_shn_eqv ha hs ev1).mpr hsh
  obtain ⟨N6, E6⟩ := ze_fill (μ := ν1) (D + 5) zd33_A (by decide) (-1)
  let ν2 := zm_up (zm_fl ν1 33 (-1) 10) 33 a 0
  have r2 : ∀ c, c ≠ 33 → ν2 c = ν1 c := fun c hc => by
    show zm_up _ _ _ _ _ = _
    rw [zm_up_row hc]
    funext b
    exact if_neg (fun e => hc e.1)
  obtain ⟨N7, E7⟩ := ze_Row_clear (μ := ν2) (D + 5) zd34_at
  obtain ⟨L7, F7⟩ := zr_clear (μ := ν2) zd34_at
  generalize zm_up ν2 34 1 0 = ν3 at E7 L7 F7
  obtain ⟨ν4, ⟨N8, E8⟩, L8, F8⟩ := ze_Row_append (μ := ν3) (D + 5) zd34_at L7 (by decide) a
  have r4 : ∀ c, c ≠ 33 → c ≠ 34 → c ≠ 35 → ν4 c = ν1 c := fun c a1 a2 a3 => by
    rw [funext fun b => F8 c b a2 a3, funext fun b => F7 c b a2 a3]
    exact r2 c a1
  have hz0 : zx_rch ν1 ν4 s a [a] 0 0 0 := by
    have e33 : ∀ j, j < 10 → ν4 33 j = if j = a then 0 else -1 := fun j hj => by
      rw [F8 33 j (by decide) (by decide), F7 33 j (by decide) (by decide)]
      show zm_up _ _ _ _ _ _ = _
      rw [zm_up_pt]
      by_cases c : j = a
      · rw [if_pos c, if_pos c]
      · rw [if_neg c, if_neg c]
        exact if_pos ⟨rfl, hj⟩
    refine ⟨fun c a1 a2 a3 => r4 c a1 a2 a3, L8, zb_S_0, fun j hj => ?_, fun j hj hjn => ?_⟩
    · have : j = a := by simpa using hj
      subst this
      exact ⟨ha, hsh1, 0, Nat.le_refl _, zb_d_a, by rw [e33 j ha, if_pos rfl, nI_0]⟩
    · rw [e33 j hj, if_neg (fun e => hjn (by rw [e]; exact List.mem_singleton.mpr rfl))]
  have ia : zi_in (nI a) 10 = true := zm_in ha (by decide)
  have ca : (nI a).toNatClampNeg = a := nI_clamp (by omega)
  have ib : zi_in (nI b) 10 = true := zm_in hb (by decide)
  have cb : (nI b).toNatClampNeg = b := nI_clamp (by omega)
  have S0 : ze_S (D + 6) 4 (some .int) zc_X5_steps 0 [(0, .ref 1), (1, .int (nI a)), (2, .int (nI b))] [] (zm_mk μ) 74 [(3, .int (nI 0)), (0, .ref 1), (1, .int (nI a)), (2, .int (nI b))] [] (zm_mk ν4) := by
    refine ⟨N1 + N2 + N3 + N4 + N5 + N6 + N7 + N8, 36, fun F n hF => ?_⟩
    have m2 : zm_up (zm_fl ν1 33 (-1) 10) 33 a 0 = ν2 := rfl
    have cr2 := zr_c (μ := ν2) zd34_at
    have cr3 := zr_c (μ := ν3) zd34_at
    simp [zi_go, zf_X5_steps, zi_ask, zi_new, zi_step, zi_ld, zi_lda, zi_cmp, zi_retOk, zi_isI, zi_f3, zi_cr, zi_ci, zi_cn, zi_get, zi_set, zq_Desk_isWindow, zd_c, E1 F (by omega), E2 F (by omega), zq_Desk_isShownTile, E3 F (by omega), E4 F (by omega), zq_Desk_layTrees, E5 F (by omega), zd_g, zq_Arr_fill, E6 F (by omega), zm_iast zd33_A ia, ca, m2, zq_Row_clear, cr2, E7 F (by omega), zq_Row_append, cr3, E8 F (by omega), nI_0]
  have tail : ∀ (ξ : zm_M) (L : zi_Lc) (l : List Nat) (i : Nat), i ≤ 10 → l.length ≤ i → zx_rch ν1 ξ s a l i 0 i → zi_get L 0 = some (.ref 1) → zi_get L 2 = some (.int (nI b)) → ∃ v, zx_far (zx_G ν1 s) a b v ∧ ze_G (D + 6) 4 (some .int) zc_X5_steps 109 L [] (zm_mk ξ) (some (.int v)) (zm_mk ξ) := by
    intro ξ L l i hi hli hZ g0 g2
    obtain ⟨z1, z2, z3, z4, z5⟩ := hZ
    by_cases cm : b ∈ l
    · obtain ⟨-, -, d, hd, hdd, e⟩ := z4 b cm
      have c : (0 : Int32) ≤ ξ 33 b := by rw [e]; exact nI_pos' (by omega)
      refine ⟨ξ 33 b, Or.inl ⟨d, by omega, hdd, e⟩, 0, 10, fun F n hF => ?_⟩
      simp [zi_go, zf_X5_steps, zi_ask, zi_new, zi_step, zi_ld, zi_lda, zi_cmp, zi_retOk, zi_isI, zi_f3, zi_cr, zi_ci, zi_cn, g0, g2, zd_g, zm_iald (k := 0) zd33_A ib, cb, c]
    · have c : ¬ (0 : Int32) ≤ ξ 33 b := by rw [z5 b hb cm]; decide
      refine ⟨-1000000005, Or.inr ⟨fun n q => cm (zb_S_end z3 hli n b q), rfl⟩, 0, 8, fun F n hF => ?_⟩
      simp [zi_go, zf_X5_steps, zi_ask, zi_new, zi_step, zi_ld, zi_lda, zi_cmp, zi_retOk, zi_isI, zi_f3, zi_cr, zi_ci, zi_cn, g0, g2, zd_g, zm_iald (k := 0) zd33_A ib, cb, c, n5]
  have e34 : ∀ ξ : zm_M, zx_34 ν1 ξ → zJ_eqv μ ξ := fun ξ q c hc => (q c (fun e => hc (by rw [e]; unfold zJ_irr; omega)) (fun e => hc (by rw [e]; unfold zJ_irr; omega)) (fun e => hc (by rw [e]; unfold zJ_irr; omega))).trans (ev1 c hc)
  have key : ∃ r h', ze_G (D + 6) 4 (some .int) zc_X5_steps 74 [(3, .int (nI 0)), (0, .ref 1), (1, .int (nI a)), (2, .int (nI b))] [] (zm_mk ν4) r h' ∧ ((∃ v, zx_far (zx_G ν1 s) a b v ∧ r = some (.int v)) ∧ ∃ ν, zm_mk ν = h' ∧ zJ_eqv μ ν) := by
    refine ze_loop (Q := fun i L hp => i ≤ 10 ∧ zi_nl L = true ∧ zi_get L 0 = some (.ref 1) ∧ zi_get L 2 = some (.int (nI b)) ∧ zi_get L 3 = some (.int (nI i)) ∧ ∃ ξ : zm_M, zm_mk ξ = hp ∧ (∃ l, zx_rch ν1 ξ s a l i 0 i) ∧ (True)) (R := fun r h' => (∃ v, zx_far (zx_G ν1 s) a b v ∧ r = some (.int v)) ∧ ∃ ν, zm_mk ν = h' ∧ zJ_eqv μ ν) 10 ?_ ?_ 10 0 _ _ (by omega) ⟨by omega, rfl, rfl, rfl, rfl, ν4, rfl, ⟨[a], hz0⟩, trivial⟩
    · rintro i L _ hi ⟨-, nl, g0, g2, g3, ξ, rfl, hZ, hq⟩
      obtain ⟨l, hZ⟩ := hZ
      have c1 : ¬ (10 : Int32) ≤ nI i := nI_ge (b := 10) hi (by decide)
      obtain ⟨M1, F1⟩ := ze_Row_sizeL (μ := ξ) (D + 5) zd34_at hZ.2.1
      have cr := zr_c (μ := ξ) zd34_at
      have hl10 := hZ.2.1.1
      by_cases c2 : i < l.length
      · have c2' : ¬ nI l.length ≤ nI i := nI_ge c2 (by omega)
        obtain ⟨M2, F2⟩ := ze_Row_getL (μ := ξ) (D + 5) zd34_at hZ.2.1 c2
        obtain ⟨ξ', l', ⟨M3, F3⟩, ⟨y1, y2, y3, y4, y5⟩, hil⟩ := ze_reachFrom_v (ξ0 := ξ) D hJ1 hs (B := i) (by omega) c2 hZ
        generalize l.getD i 0 = k at F2 F3
        have hZ' : zx_rch ν1 ξ' s a l' (i + 1) 0 (i + 1) := ⟨y1, y2, zb_S_next y3 hil, y4, y5⟩
        left
        refine ⟨zi_set L 3 (.int (nI (i + 1))), zm_mk ξ', ⟨M1 + M2 + M3, 16, fun F m hF => ?_⟩, by omega, ?_, ?_, ?_, zi_get_set_eq, ξ', rfl, ⟨l', hZ'⟩, trivial⟩
        · simp (maxDischargeDepth := 9) [zi_go, zf_X5_steps, zi_ask, zi_new, zi_step, zi_ld, zi_lda, zi_cmp, zi_retOk, zi_isI, zi_f3, zi_cr, zi_ci, zi_cn, zi_get_ne, zi_nl_i, zi_nl_r, zi_get_set_eq, nl, g0, g2, g3, h10, c1, zd_g, zq_Row_size, zq_Row_get, cr, F1 F (by omega), c2', F2 F (by omega), zq_Desk_reachFrom, zd_c, F3 F (by omega), nI_1]
        · simp (maxDischargeDepth := 9) [zi_get_ne, zi_nl_i, zi_nl_r, zi_get_set_eq, nl]
        · simp (maxDischargeDepth := 9) [zi_get_ne, zi_nl_i, zi_nl_r, zi_get_set_eq, nl, g0]
        · simp (maxDischargeDepth := 9) [zi_get_ne, zi_nl_i, zi_nl_r, zi_get_set_eq, nl, g2]
      · have c2' : nI l.length ≤ nI i := nI_le (by omega) (by omega)
        right
        obtain ⟨v, hv, G⟩ := tail ξ L l i (by omega) (by omega) hZ g0 g2
        refine ⟨some (.int v), zm_mk ξ, ze_S.end (p2 := 109) (L2 := L) (s2 := []) (h2 := zm_mk ξ) ⟨M1, 8, fun F m hF => ?_⟩ G, ⟨v, hv, rfl⟩, ξ, rfl, e34 ξ hZ.1⟩
        simp [zi_go, zf_X5_steps, zi_ask, zi_new, zi_step, zi_ld, zi_lda, zi_cmp, zi_retOk, zi_isI, zi_f3, zi_cr, zi_ci, zi_cn, g0, g3, h10, c1, zd_g, zq_Row_size, cr, F1 F (by omega), c2']
    · rintro L _ ⟨-, nl, g0, g2, g3, ξ, rfl, hZ, hq⟩
      obtain ⟨l, hZ⟩ := hZ
      have c1 : (10 : Int32) ≤ nI 10 := by decide
      obtain ⟨v, hv, G⟩ := tail ξ L l 10 (Nat.le_refl _) hZ.2.1.1 hZ g0 g2
      refine ⟨some (.int v), zm_mk ξ, ze_S.end (p2 := 109) (L2 := L) (s2 := []) (h2 := zm_mk ξ) ⟨0, 3, fun F m hF => ?_⟩ G, ⟨v, hv, rfl⟩, ξ, rfl, e34 ξ hZ.1⟩
      simp [zi_go, zf_X5_steps, zi_ask, zi_new, zi_step, zi_ld, zi_lda, zi_cmp, zi_retOk, zi_isI, zi_f3, zi_cr, zi_ci, zi_cn, g0, g3, h10, c1]
  obtain ⟨r, h', G, ⟨v, hv, rfl⟩, ν, rfl, hev⟩ := key
  exact ⟨ν, v, ze_in [(0, .ref 1), (1, .int (nI a)), (2, .int (nI b))] zq_Desk_steps (Nat.le_of_ble_eq_true rfl) rfl (S0.end G), hev, Or.inr (Or.inr ⟨a, b, s, ν1, ha, hb, hs, rfl, rfl, hsh, ⟨sb, hsb, hshb⟩, ev1, hlaid, hv⟩)⟩

end ZBE
