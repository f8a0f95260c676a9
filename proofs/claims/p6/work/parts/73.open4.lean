/-! the desk: open, run -/
section ZO8
variable {μ ν : zm_M} {row stk : List Nat} {Rs : Nat → List Nat} {ts : Nat → zy_F}
set_option maxRecDepth 100000 in
theorem ze_open (D : Nat) (h : zJ μ row stk Rs ts) (kd w v o : Int32) : ∃ ν r row' stk' Rs' ts', ze_E (D + 16) A_Desk_open [.ref 1, .int kd, .int w, .int v, .int o] (zm_mk μ) (some (.int r)) (zm_mk ν) ∧ zJ ν row' stk' Rs' ts' ∧ zd_opn μ ν row row' Rs Rs' ts ts' kd w v o := by
  rcases ze_open_0 (μ := μ) (D + 14) kd w v o with ⟨ha, S0⟩ | ⟨hna, G⟩
  rotate_left
  · exact ⟨μ, _, row, stk, Rs, ts, ze_in [(0, .ref 1), (1, .int kd), (2, .int w), (3, .int v), (4, .int o)] zq_Desk_open (Nat.le_of_ble_eq_true rfl) rfl G, h, Or.inl ⟨Or.inl hna, rfl, rfl, rfl, rfl⟩⟩
  rcases ze_open_1 (D + 13) h ha (L := [(5, .int 1), (0, .ref 1), (1, .int kd), (2, .int w), (3, .int v), (4, .int o)]) rfl rfl rfl rfl rfl rfl with ⟨hc, r, G⟩ | ⟨k, s, L, hk, hs, hnt, hlt, eo, hst, S1, nl, g0, g1, g2, g3, g4, g6, g7⟩
  · exact ⟨μ, r, row, stk, Rs, ts, ze_in [(0, .ref 1), (1, .int kd), (2, .int w), (3, .int v), (4, .int o)] zq_Desk_open (Nat.le_of_ble_eq_true rfl) rfl (S0.end G), h, Or.inl ⟨Or.inr hc, rfl, rfl, rfl, rfl⟩⟩
  obtain ⟨ν1, ⟨N1, E1⟩, f1, hlaid⟩ := ze_layTrees (μ := μ) (D + 9) (fun s hs => (h.2.2.2.1 s hs).1)
  have ev1 := zd_frA_eqv f1
  obtain ⟨N2, E2⟩ := ze_prepare (μ := ν1) (D + 14) (zdW_at hk) kd w v o
  have p2 : ∀ c, c ≠ zdW k → c ≠ zdW k + 1 → zm_up (zm_up (zm_up (zm_up (zm_up ν1 (zdW k) 3 kd) (zdW k + 1) 0 w) (zdW k + 1) 1 v) (zdW k) 4 o) (zdW k) 5 (-1) c = ν1 c := fun c a1 a2 => by
    rw [zm_up_row a1, zm_up_row a1, zm_up_row a2, zm_up_row a2, zm_up_row a1]
  have q2 : zm_up (zm_up (zm_up (zm_up (zm_up ν1 (zdW k) 3 kd) (zdW k + 1) 0 w) (zdW k + 1) 1 v) (zdW k) 4 o) (zdW k) 5 (-1) (zdW k) 2 = ν1 (zdW k) 2 := by
    rw [zm_up_ne (by omega), zm_up_ne (by omega), zm_up_ne (by omega), zm_up_ne (by omega), zm_up_ne (by omega)]
  have q3 : zm_up (zm_up (zm_up (zm_up (zm_up ν1 (zdW k) 3 kd) (zdW k + 1) 0 w) (zdW k + 1) 1 v) (zdW k) 4 o) (zdW k) 5 (-1) (zdW k) 3 = kd := by
    rw [zm_up_ne (by omega), zm_up_ne (by omega), zm_up_ne (by omega), zm_up_ne (by omega), zm_up_eq]
  have q4 : zm_up (zm_up (zm_up (zm_up (zm_up ν1 (zdW k) 3 kd) (zdW k + 1) 0 w) (zdW k + 1) 1 v) (zdW k) 4 o) (zdW k) 5 (-1) (zdW k) 4 = o := by
    rw [zm_up_ne (by omega), zm_up_eq]
  have r0 : zm_up (zm_up (zm_up (zm_up (zm_up ν1 (zdW k) 3 kd) (zdW k + 1) 0 w) (zdW k + 1) 1 v) (zdW k) 4 o) (zdW k) 5 (-1) (zdW k + 1) 0 = w := by
    rw [zm_up_ne (by omega), zm_up_ne (by omega), zm_up_ne (by omega), zm_up_eq]
  have r1 : zm_up (zm_up (zm_up (zm_up (zm_up ν1 (zdW k) 3 kd) (zdW k + 1) 0 w) (zdW k + 1) 1 v) (zdW k) 4 o) (zdW k) 5 (-1) (zdW k + 1) 1 = v := by
    rw [zm_up_ne (by omega), zm_up_ne (by omega), zm_up_eq]
  have S2 : ze_S (D + 15) 8 (some .int) zc_X5_open 126 L [] (zm_mk μ) 145 L [] (zm_mk (zm_up (zm_up (zm_up (zm_up (zm_up ν1 (zdW k) 3 kd) (zdW k + 1) 0 w) (zdW k + 1) 1 v) (zdW k) 4 o) (zdW k) 5 (-1))) := by
    have cw := zw_c (μ := ν1) (zdW_at hk)
    refine ⟨N1 + N2, 11, fun F n hF => ?_⟩
    simp (maxDischargeDepth := 9) [zg_0, zg_aaload, zg_aload_n, zg_getfield, zg_goto, zg_iconst, zg_ifCond, zg_if_icmp, zg_iload, zg_iload_n, zg_invokestatic, zg_invokevirtual, zg_ireturn, zg_istore, zg_ldc, zg_putfield, zf_X5_open, zi_ld, zi_lda, zi_cmp, zi_retOk, zi_isI, zi_f3, zi_cr, zi_ci, zi_cn, zi_get_ne, zi_nl_i, zi_nl_r, zi_get_set_eq, nl, g0, g1, g2, g3, g4, g6, zq_Desk_layTrees, zd_c, E1 F (by omega), zd_g, zd_w hk, zq_Win_prepare, cw, E2 F (by omega)]
  generalize zm_up (zm_up (zm_up (zm_up (zm_up ν1 (zdW k) 3 kd) (zdW k + 1) 0 w) (zdW k + 1) 1 v) (zdW k) 4 o) (zdW k) 5 (-1) = ν2 at p2 q2 q3 q4 r0 r1 S2
  clear E1 E2
  have f2 : ∀ c, ¬ zJ_irr c → c ≠ zdW k → c ≠ zdW k + 1 → ν2 c = μ c := fun c a1 a2 a3 => (p2 c a2 a3).trans (ev1 c a1)
  have w22 : ν2 (zdW k) 2 = μ (zdW k) 2 := by rw [q2, ev1 _ (zJn_W hk).1]
  have SS := (S0.trans S1).trans S2
  have laid_of : ∀ ξ : zm_M, (∀ c, c ≠ zdW k → c ≠ zdW k + 1 → ξ c = ν1 c) → ∀ q, q < 3 → zd_laid ξ q (Rs q) (ts q) := by
    intro ξ hξ q hq
    have := hlaid q hq
    have rT : ∀ j, ξ (zdT q + j) = ν1 (zdT q + j) := fun j => hξ _ (by unfold zdT zdW; omega) (by unfold zdT zdW; omega)
    have rZ : ξ (zdZ q) = ν1 (zdZ q) := hξ _ (by unfold zdZ zdW; omega) (by unfold zdZ zdW; omega)
    unfold zd_laid at *
    have eP : zt_P ξ (zdT q) = zt_P ν1 (zdT q) := by
      funext n x y a b
      unfold zt_P
      rw [rT, rT, rT, rT]
    rw [eP, rT, rT, rT, rT, rT, rZ]
    exact this
  have hsz : 1 ≤ w ∧ w ≤ 200 ∧ 1 ≤ v ∧ v ≤ 200 := ⟨ha.1.2.1.1, ha.1.2.1.2, ha.1.2.2⟩
  by_cases c1 : kd = 1
  · subst c1
    have ho : o = -1 := ha.2.2 (by decide)
    let ξ := zm_up ν2 (zdW k) 5 (nI s)
    have fξ : ∀ c, ¬ zJ_irr c → c ≠ zdW k → c ≠ zdW k + 1 → ξ c = μ c := fun c a1 a2 a3 => (zm_up_row a2).trans (f2 c a1 a2 a3)
    have ξ2 : ξ (zdW k) 2 = μ (zdW k) 2 := (zm_up_ne (by omega)).trans w22
    have ξ3 : ξ (zdW k) 3 = 1 := (zm_up_ne (by omega)).trans q3
    have ξ4 : ξ (zdW k) 4 = o := (zm_up_ne (by omega)).trans q4
    have ξ5 : ξ (zdW k) 5 = nI s := zm_up_eq
    have ξL : ξ (zdW k + 1) = ν2 (zdW k + 1) := zm_up_row (by omega)
    have hprep : zd_prep μ ξ Rs ts k 1 w v o := ⟨fξ, ξ2, ξ3, ξ4, by rw [ξL]; exact r0, by rw [ξL]; exact r1, laid_of ξ (fun c a1 a2 => (zm_up_row a1).trans (p2 c a1 a2))⟩
    have hJ : zJ ξ row stk Rs ts := zJ_free h hk hnt ξ2 fξ
    have hC := (hJ.2.2.2.1 s hs).1
    have hkR : k ∉ Rs s := fun q => by
      have := ((h.2.2.2.1 s hs).2.1 k).mp q
      have : zd_th μ k = true := decide_eq_true (of_decide_eq_true this.2.1).1
      rw [hnt] at this
      cases this
    have hrb : ∀ j ∈ row, j < 10 := fun j hj => ((h.1.2.2 j).mp hj).1
    have refuse : ∀ ν3 : zm_M, (∀ c, zt_out 7 c → ν3 c = ξ c) → ze_E (D + 15) A_Desk_findRoom [.ref 1, .int (nI k), .int (nI s)] (zm_mk ν2) (some (.int 0)) (zm_mk ν3) → zd_tld ξ ν3 s k row (Rs s) (ts s) 0 (Rs s) (ts s) → ∃ ν r row' stk' Rs' ts', ze_E (D + 16) A_Desk_open [.ref 1, .int 1, .int w, .int v, .int o] (zm_mk μ) (some (.int r)) (zm_mk ν) ∧ zJ ν row' stk' Rs' ts' ∧ zd_opn μ ν row row' Rs Rs' ts ts' 1 w v o := by
      intro ν3 fr E hT
      have f3 : ∀ c, ¬ zJ_irr c → c ≠ zdW k → c ≠ zdW k + 1 → ν3 c = μ c := fun c a1 a2 a3 => (fr c (zJn_7 a1)).trans (fξ c a1 a2 a3)
      have w3 : ν3 (zdW k) 2 = μ (zdW k) 2 := by rw [fr _ (by unfold zt_out zdW; omega)]; exact ξ2
      exact ⟨ν3, _, row, stk, Rs, ts, ze_in [(0, .ref 1), (1, .int 1), (2, .int w), (3, .int v), (4, .int o)] zq_Desk_open (Nat.le_of_ble_eq_true rfl) rfl (SS.end (ze_open_2 (kd := 1) (w := w) (v := v) (o := o) (D + 15) nl g0 g6 g7 E)), zJ_free h hk hnt w3 f3, Or.inr ⟨ha, k, s, ξ, hk, hs, hnt, hlt, eo, hst, hprep, Or.inl ⟨Or.inl ⟨rfl, ν3, hT⟩, f3, w3, rfl, rfl, rfl⟩⟩⟩
    have accept : ∀ (ν3 : zm_M) (R' : List Nat) (t' : zy_F), (∀ c, zt_out 7 c → zt_out (zdT s) c → ν3 c = ξ c) → ze_E (D + 15) A_Desk_findRoom [.ref 1, .int (nI k), .int (nI s)] (zm_mk ν2) (some (.int 1)) (zm_mk ν3) → zd_tld ξ ν3 s k row (Rs s) (ts s) 1 R' t' → zt_C ν3 (zdT s) R' t' → (∀ j, j ∈ R' ↔ (j ∈ Rs s ∨ j = k)) → (∀ u, ν3 (zdT s + 5) u = if u = k then ξ (zdW k + 1) 0 else ξ (zdT s + 5) u) → (∀ u, ν3 (zdT s + 6) u = if u = k then ξ (zdW k + 1) 1 else ξ (zdT s + 6) u) → zt_fit ν3 (zdT s) (zdZ s) R' t' = true → ∃ ν r row' stk' Rs' ts', ze_E (D + 16) A_Desk_open [.ref 1, .int 1, .int w, .int v, .int o] (zm_mk μ) (some (.int r)) (zm_mk ν) ∧ zJ ν row' stk' Rs' ts' ∧ zd_opn μ ν row row' Rs Rs' ts ts' 1 w v o := by
      intro ν3 R' t' fr E hT hC' hR' h5 h6 hfit
      obtain ⟨h0, hcame, hrows⟩ := zJ0_tiled h hk hs hnt hst hsz fξ ξ3 (ξ4.trans ho) ξ5 (by rw [ξL]; exact r0) (by rw [ξL]; exact r1) fr hC' hR' (fun j hj => ⟨by rw [h5, if_neg (fun (e : j = k) => hkR (e ▸ hj))], by rw [h6, if_neg (fun (e : j = k) => hkR (e ▸ hj))]⟩) ⟨by rw [h5, if_pos rfl, ξL]; exact r0, by rw [h6, if_pos rfl, ξL]; exact r1⟩ hfit
      obtain ⟨ν5, stk', E5, hJ5, hf5⟩ := ze_open_4 D h hk hs hnt hcame h0
      rw [← ho] at hcame
      exact ⟨ν5, _, k :: row, stk', zd_upd Rs s R', zd_upd ts s t', ze_in [(0, .ref 1), (1, .int 1), (2, .int w), (3, .int v), (4, .int o)] zq_Desk_open (Nat.le_of_ble_eq_true rfl) rfl (SS.end (ze_open_3 (D + 15) hk nl g0 g6 g7 E E5)), hJ5, Or.inr ⟨ha, k, s, ξ, hk, hs, hnt, hlt, eo, hst, hprep, Or.inr ⟨Or.inl ⟨rfl, ν3, _, R', t', hT, rfl, rfl, hcame, hrows, hf5⟩, rfl⟩⟩⟩
    rcases zd_lah_or hC.1 row hrb with ⟨et, -⟩ | ⟨n, hn, elah⟩
    · have hRn : Rs s = [] := zt_I_nil (μ := ξ) (T := zdT s) (by rw [← et]; exact hC.1)
      have hC0 : zt_C ξ (zdT s) [] .nil := by
        rw [← et, ← hRn]
        exact hC
      obtain ⟨ν3, b, E3, hT0, fr⟩ := ze_tile0 (μ := ξ) (D + 8) hk hs hJ.1.1 hrb hC0
      obtain ⟨ξ7, n, f7, hN, hcase⟩ := id hT0
      rcases hcase with ⟨hfit, rfl, hN'⟩ | ⟨hfit, rfl, fr'⟩
      · refine accept ν3 [k] (.tag n .nil) fr (ze_findRoom_1 (D + 14) hk hs q3 (Or.inr rfl) E3) (Or.inl ⟨et, hT0, fun _ => ⟨n, rfl, rfl, hN'⟩⟩) hN'.1 (fun j => ?_) hN'.2.2.2.1 hN'.2.2.2.2.1 ?_
        · rw [hRn]
          simp
        · rw [zt_fit_copy (A := ξ7) (T := 7) (zt_isNew_cp hN hN') (by rw [fr _ (by unfold zt_out zdZ; omega) (by unfold zt_out zdZ zdT; omega), f7 _ (by unfold zt_out zdZ; omega)])]
          exact hfit
      · exact refuse ν3 fr' (ze_findRoom_1 (D + 14) hk hs q3 (Or.inl rfl) E3) (Or.inl ⟨et, hT0, fun e => absurd e (by decide)⟩)
    · obtain ⟨ν3, b, E3, hTN, fr⟩ := ze_tileN (μ := ξ) (D + 8) hk hs hJ.1.1 hrb hC hkR hn elah
      have hz : ∀ ξ7 : zm_M, zt_frT 7 ξ ξ7 → ν3 (zdZ s) = ξ7 (zdZ s) := fun ξ7 f7 => by rw [fr _ (by unfold zt_out zdZ; omega) (by unfold zt_out zdZ zdT; omega), f7 _ (by unfold zt_out zdZ; omega)]
      have hmem : ∀ j, j ∈ Rs s ++ [k] ↔ (j ∈ Rs s ∨ j = k) := fun j => by simp
      obtain ⟨ξ1, c1, d1, g1', hK1, hcase⟩ := id hTN
      obtain ⟨a, ha2, ea⟩ : ∃ a, a < 2 ∧ (if ξ (zdT s + 23) n ≤ ξ (zdT s + 22) n then 0 else 1) = a := ⟨_, by split <;> omega, rfl⟩
      rw [ea] at hK1 hcase
      rcases hcase with ⟨hfit, rfl, hK'⟩ | ⟨hfit, ξ2', c2, d2, g2', hK2, hcase⟩
      · refine accept ν3 (Rs s ++ [k]) (zy_cut n c1 d1 (ts s)) fr (ze_findRoom_1 (D + 14) hk hs q3 (Or.inr rfl) E3) (Or.inr ⟨n, hn, elah, hTN, fun _ => ⟨rfl, Or.inl ⟨a, c1, d1, ha2, rfl, hK'⟩⟩⟩) hK'.1 hmem hK'.2.2.2.1 hK'.2.2.2.2.1 ?_
        rw [zt_fit_copy (A := ξ1) (T := 7) (zt_isCut_cp hK1 hK') (hz ξ1 g1')]
        exact hfit
      · rcases hcase with ⟨hfit2, rfl, hK'⟩ | ⟨hfit2, ξ3', g3', hK3, hcase⟩
        · refine accept ν3 (Rs s ++ [k]) (zy_cut n c2 d2 (ts s)) fr (ze_findRoom_1 (D + 14) hk hs q3 (Or.inr rfl) E3) (Or.inr ⟨n, hn, elah, hTN, fun _ => ⟨rfl, Or.inl ⟨1 - a, c2, d2, by omega, rfl, hK'⟩⟩⟩) hK'.1 hmem hK'.2.2.2.1 hK'.2.2.2.2.1 ?_
          rw [zt_fit_copy (A := ξ2') (T := 7) (zt_isCut_cp hK2 hK') (hz ξ2' g2')]
          exact hfit2
        · rcases hcase with ⟨hfit3, rfl, hK'⟩ | ⟨hfit3, rfl, fr'⟩
          · refine accept ν3 (Rs s ++ [k]) (ts s) fr (ze_findRoom_1 (D + 14) hk hs q3 (Or.inr rfl) E3) (Or.inr ⟨n, hn, elah, hTN, fun _ => ⟨rfl, Or.inr ⟨rfl, hK'⟩⟩⟩) hK'.1 hmem hK'.2.2.1 hK'.2.2.2.1 ?_
            rw [zt_fit_copy (A := ξ3') (T := 7) (zt_isTab_cp hK3 hK') (hz ξ3' g3')]
            exact hfit3
          · exact refuse ν3 fr' (ze_findRoom_1 (D + 14) hk hs q3 (Or.inl rfl) E3) (Or.inr ⟨n, hn, elah, hTN, fun e => absurd e (by decide)⟩)
  · have hkd : kd = 2 ∨ kd = 3 ∨ kd = 4 := by
      obtain ⟨⟨a1, a2⟩, -⟩ := ha.1
      have b1 := Int32.le_iff_toInt_le.mp a1
      have b2 := Int32.le_iff_toInt_le.mp a2
      rw [show (1 : Int32).toInt = 1 by decide] at b1
      rw [show (4 : Int32).toInt = 4 by decide] at b2
      have b3 : kd.toInt ≠ 1 := fun e => c1 (Int32.toInt_inj.mp (by rw [e]; decide))
      rcases (by omega : kd.toInt = 2 ∨ kd.toInt = 3 ∨ kd.toInt = 4) with e | e | e
      · exact Or.inl (Int32.toInt_inj.mp (by rw [e]; decide))
      · exact Or.inr (Or.inl (Int32.toInt_inj.mp (by rw [e]; decide)))
      · exact Or.inr (Or.inr (Int32.toInt_inj.mp (by rw [e]; decide)))
    have hprep : zd_prep μ ν2 Rs ts k kd w v o := ⟨f2, w22, q3, q4, r0, r1, laid_of ν2 p2⟩
    have accept : ∀ ν3 : zm_M, (∀ c b, ¬ (c = zdW k ∧ b = 5) → c ≠ zdW k + 2 → ν3 c b = ν2 c b) → (¬ kd = 4 → ν3 (zdW k) 5 = nI s) → ze_E (D + 15) A_Desk_findRoom [.ref 1, .int (nI k), .int (nI s)] (zm_mk ν2) (some (.int 1)) (zm_mk ν3) → (kd = 4 ∨ zd_whole ν2 (zdZ s) k = true) → ∃ ν r row' stk' Rs' ts', ze_E (D + 16) A_Desk_open [.ref 1, .int kd, .int w, .int v, .int o] (zm_mk μ) (some (.int r)) (zm_mk ν) ∧ zJ ν row' stk' Rs' ts' ∧ zd_opn μ ν row row' Rs Rs' ts ts' kd w v o := by
      intro ν3 fr h5 E hc
      have e1 : ν3 (zdW k + 1) = ν2 (zdW k + 1) := funext fun b => fr _ b (by omega) (by omega)
      have hcame : zd_came μ (zm_up ν3 (zdW k) 2 1) k s kd w v o := by
        refine ⟨fun c a1 a2 a3 _ => ?_, zm_up_eq, ?_, ?_, fun q => ?_, ?_, ?_⟩
        · rw [zm_up_row a2, ← f2 c a1 a2 a3]
          funext b
          exact fr c b (fun e => a2 e.1) (fun e => a1 (by unfold zJ_irr; rw [e]; unfold zdW; omega))
        · rw [zm_up_ne (by omega), fr _ _ (by omega) (by omega)]; exact q3
        · rw [zm_up_ne (by omega), fr _ _ (by omega) (by omega)]; exact q4
        · rw [zm_up_ne (by omega)]; exact h5 q
        · rw [zm_up_ne (by omega), e1]; exact r0
        · rw [zm_up_ne (by omega), e1]; exact r1
      obtain ⟨ν5, stk', E5, hJ5, hf5⟩ := ze_open_4 D h hk hs hnt hcame (zJ0_other h hk hs hnt hst hkd hsz ha.2.1 ha.2.2 hcame)
      exact ⟨ν5, _, k :: row, stk', Rs, ts, ze_in [(0, .ref 1), (1, .int kd), (2, .int w), (3, .int v), (4, .int o)] zq_Desk_open (Nat.le_of_ble_eq_true rfl) rfl (SS.end (ze_open_3 (D + 15) hk nl g0 g6 g7 E E5)), hJ5, Or.inr ⟨ha, k, s, ν2, hk, hs, hnt, hlt, eo, hst, hprep, Or.inr ⟨Or.inr ⟨c1, hc, rfl, rfl, _, hcame, hf5⟩, rfl⟩⟩⟩
    by_cases c4 : kd = 4
    · obtain ⟨ν3, E3, f3⟩ := ze_findRoom_4 (μ := ν2) (D + 14) hk (nI s) (q3.trans c4)
      exact accept ν3 (fun c b _ a2 => by rw [f3 c a2]) (fun q => absurd c4 q) E3 (Or.inl c4)
    · have n1 : ¬ ν2 (zdW k) 3 = 1 := by rw [q3]; exact c1
      have n4 : ¬ ν2 (zdW k) 3 = 4 := by rw [q3]; exact c4
      cases hw : zd_whole ν2 (zdZ s) k with
      | true =>
        have hJ2 : zJ ν2 row stk Rs ts := zJ_free h hk hnt w22 f2
        obtain ⟨ν3, E3, w5, f3⟩ := ze_findRoom_23 (μ := ν2) (D + 10) hk hs n1 n4 hw (fun e => by
          obtain ⟨j, hj, ej, hjt⟩ := ha.2.1 (by rw [← q3]; exact e)
          exact ⟨j, hj, fun e => (by rw [e, hnt] at hjt; cases hjt), (by rw [q4]; exact ej), zJ_scr hJ2 hj⟩)
        exact accept ν3 f3 (fun _ => w5) E3 (Or.inr hw)
      | false =>
        have E3 := ze_findRoom_no (μ := ν2) (D + 13) hk hs n1 n4 hw
        exact ⟨ν2, _, row, stk, Rs, ts, ze_in [(0, .ref 1), (1, .int kd), (2, .int w), (3, .int v), (4, .int o)] zq_Desk_open (Nat.le_of_ble_eq_true rfl) rfl (SS.end (ze_open_2 (kd := kd) (w := w) (v := v) (o := o) (D + 15) nl g0 g6 g7 E3)), zJ_free h hk hnt w22 f2, Or.inr ⟨ha, k, s, ν2, hk, hs, hnt, hlt, eo, hst, hprep, Or.inl ⟨Or.inr ⟨c1, c4, hw⟩, f2, w22, rfl, rfl, rfl⟩⟩⟩
end ZO8
