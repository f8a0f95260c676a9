/-! open: the same answer -/
def zx_op2 (B : Prop) (r : Int32) : Prop := (B ∧ r = -1000000003) ∨ (¬ B ∧ r = -1000000002)
def zx_op (A B : Prop) (r : Int32) : Prop := (¬ A ∧ r = -1000000001) ∨ (A ∧ zx_op2 B r)
theorem zx_op_eq {A A' B B' : Prop} {r1 r2 : Int32} (h : A ↔ A') (h2 : B ↔ B') (a : zx_op A B r1) (b : zx_op A' B' r2) : r2 = r1 := by
  rcases a with ⟨a, rfl⟩ | ⟨a, ⟨a2, rfl⟩ | ⟨a2, rfl⟩⟩
  · rcases b with ⟨-, rfl⟩ | ⟨b, -⟩
    · rfl
    · exact absurd (h.mpr b) a
  · rcases b with ⟨b, -⟩ | ⟨-, ⟨-, rfl⟩ | ⟨b, -⟩⟩
    · exact absurd (h.mp a) b
    · rfl
    · exact absurd (h2.mp a2) b
  · rcases b with ⟨b, -⟩ | ⟨-, ⟨b, -⟩ | ⟨-, rfl⟩⟩
    · exact absurd (h.mp a) b
    · exact absurd (h2.mpr b) a2
    · rfl
def zd_opnv (μ ν : zm_M) (row row' : List Nat) (Rs Rs' : Nat → List Nat) (ts ts' : Nat → zy_F) (kd w v o r : Int32) : Prop :=
  ((¬ zd_oarg μ kd w v o ∨ (∀ j, j < 10 → zd_th μ j = true) ∨ zd_osc μ row kd o = -1) ∧ ν = μ ∧ row' = row ∧ Rs' = Rs ∧ ts' = ts ∧ zx_op (zd_oarg μ kd w v o) (∀ j, j < 10 → zd_th μ j = true) r) ∨
  (zd_oarg μ kd w v o ∧ ∃ k s ξ, k < 10 ∧ s < 3 ∧ zd_th μ k = false ∧ (∀ j, j < k → zd_th μ j = true) ∧ zd_osc μ row kd o = nI s ∧ ¬ μ (zdS s) 3 = 0 ∧ zd_prep μ ξ Rs ts k kd w v o ∧
    ((((kd = 1 ∧ ∃ ν3, zd_tld ξ ν3 s k row (Rs s) (ts s) 0 (Rs s) (ts s)) ∨ (¬ kd = 1 ∧ ¬ kd = 4 ∧ zd_whole ξ (zdZ s) k = false)) ∧ (∀ c, ¬ zJ_irr c → c ≠ zdW k → c ≠ zdW k + 1 → ν c = μ c) ∧ ν (zdW k) 2 = μ (zdW k) 2 ∧ row' = row ∧ Rs' = Rs ∧ ts' = ts ∧ r = -1000000002) ∨
     (((kd = 1 ∧ ∃ ν3 ν4 R' t', zd_tld ξ ν3 s k row (Rs s) (ts s) 1 R' t' ∧ Rs' = zd_upd Rs s R' ∧ ts' = zd_upd ts s t' ∧ zd_came μ ν4 k s kd w v o ∧ (∀ j, ν4 (zdT s + j) = ν3 (zdT s + j)) ∧ zd_foc ν4 ν k) ∨
       (¬ kd = 1 ∧ (kd = 4 ∨ zd_whole ξ (zdZ s) k = true) ∧ Rs' = Rs ∧ ts' = ts ∧ ∃ ν4, zd_came μ ν4 k s kd w v o ∧ zd_foc ν4 ν k)) ∧ row' = k :: row ∧ r = nI k)))
def zv_opnv (μ ν : zm_M) (row stk : List Nat) (us : Nat → zy_F) (kd w v o r : Int32) : Prop :=
  ((¬ zv_oarg μ kd w v o ∨ (∀ j, j < 10 → ¬ μ 234 j = 0) ∨ zv_osc μ row kd o = -1) ∧ ν = μ ∧ zx_op (zv_oarg μ kd w v o) (∀ j, j < 10 → ¬ μ 234 j = 0) r) ∨
  (zv_oarg μ kd w v o ∧ ∃ k s M, k < 10 ∧ s < 3 ∧ μ 234 k = 0 ∧ (∀ j, j < k → ¬ μ 234 j = 0) ∧ zv_osc μ row kd o = nI s ∧ 0 < μ 232 s ∧ (M 235 k = w ∧ M 236 k = v ∧ ∀ c d, ¬ (c = 235 ∧ d = k) → ¬ (c = 236 ∧ d = k) → M c d = μ c d) ∧
    ((kd = 1 ∧ ∃ lo ν3 b u', zv_los M us lo ∧ zv_tl M ν3 row (us s) s k lo b u' ∧ ((b = 0 ∧ (∀ c d, ¬ (c = 231 ∧ d = 30) → ¬ (255 ≤ c ∧ c ≤ 259) → ¬ zu_in 6 c d → ν c d = M c d) ∧ r = -1000000002) ∨ (b = 1 ∧ ∃ ν4, zv_cam μ ν4 k s kd w v o ∧ zu_eqT ν3 s ν4 s ∧ zv_foc ν4 ν row stk (zd_upd us s u') k ∧ r = nI k))) ∨
     (¬ kd = 1 ∧ ((¬ kd = 4 ∧ ¬ (w ≤ μ 232 s ∧ v ≤ μ 233 s) ∧ ν = M ∧ r = -1000000002) ∨ ((kd = 4 ∨ (w ≤ μ 232 s ∧ v ≤ μ 233 s)) ∧ ∃ ν4, zv_cam μ ν4 k s kd w v o ∧ zv_foc ν4 ν row stk us k ∧ r = nI k)))))
section ZXP
variable {μ ν : zm_M} {row stk : List Nat} {Rs : Nat → List Nat} {ts : Nat → zy_F}
set_option maxRecDepth 100000 in
theorem ze_open_1_v (D : Nat) (h : zJ μ row stk Rs ts) {kd w v o : Int32} (ha : zd_oarg μ kd w v o) {L : zi_Lc} (nl : zi_nl L = true) (g0 : zi_get L 0 = some (.ref 1)) (g1 : zi_get L 1 = some (.int kd)) (g2 : zi_get L 2 = some (.int w)) (g3 : zi_get L 3 = some (.int v)) (g4 : zi_get L 4 = some (.int o)) :
    (((∀ j, j < 10 → zd_th μ j = true) ∨ zd_osc μ row kd o = -1) ∧ ∃ r, zx_op2 (∀ j, j < 10 → zd_th μ j = true) r ∧ ze_G (D + 2) 8 (some .int) zc_X5_open 59 L [] (zm_mk μ) (some (.int r)) (zm_mk μ)) ∨
    ∃ k s L', k < 10 ∧ s < 3 ∧ zd_th μ k = false ∧ (∀ j, j < k → zd_th μ j = true) ∧ zd_osc μ row kd o = nI s ∧ ¬ μ (zdS s) 3 = 0 ∧ ze_S (D + 2) 8 (some .int) zc_X5_open 59 L [] (zm_mk μ) 126 L' [] (zm_mk μ) ∧ zi_nl L' = true ∧ zi_get L' 0 = some (.ref 1) ∧ zi_get L' 1 = some (.int kd) ∧ zi_get L' 2 = some (.int w) ∧ zi_get L' 3 = some (.int v) ∧ zi_get L' 4 = some (.int o) ∧ zi_get L' 6 = some (.int (nI k)) ∧ zi_get L' 7 = some (.int (nI s)) := by
  have n3 : Int32.ofInt (-1000000003) = -1000000003 := by decide
  have n2 : Int32.ofInt (-1000000002) = -1000000002 := by decide
  obtain ⟨N1, E1⟩ := ze_leastFreeNumber (μ := μ) (D + 1)
  have cm : ¬ (0 : Int32) ≤ -1 := by decide
  rcases zd_lfn_or (μ := μ) with ⟨e1, hall⟩ | ⟨k, hk, e1, hnt, hlt⟩
  · rw [e1] at E1
    left
    refine ⟨Or.inl hall, -1000000003, Or.inl ⟨hall, rfl⟩, N1, 7, fun F n hF => ?_⟩
    simp (maxDischargeDepth := 9) [zi_go, zf_X5_open, zi_ask, zi_new, zi_step, zi_ld, zi_lda, zi_cmp, zi_retOk, zi_isI, zi_f3, zi_cr, zi_ci, zi_cn, zi_get_ne, zi_nl_i, zi_nl_r, zi_get_set_eq, nl, g0, zq_Desk_leastFreeNumber, zd_c, E1 F (by omega), cm, n3]
  · rw [e1] at E1
    have ck : (0 : Int32) ≤ nI k := nI_pos' (by omega)
    by_cases c3 : kd = 3
    · obtain ⟨j, hj, rfl, hjt⟩ := ha.2.1 c3
      have cj : (nI j).toNatClampNeg = j := nI_clamp (by omega)
      have eo : zd_osc μ row kd (nI j) = if zd_sti μ j = true then -1 else μ (zdW j) 5 := by
        unfold zd_osc
        rw [if_pos c3, cj]
      obtain ⟨N2, E2⟩ := ze_stiW (μ := μ) (D + 1) hj
      have cw := zw_c (μ := μ) (zdW_at hj)
      by_cases c4 : zd_sti μ j = true
      · rw [if_pos c4] at E2 eo
        left
        refine ⟨Or.inr eo, -1000000002, Or.inr ⟨(fun z => by rw [z k hk] at hnt; cases hnt), rfl⟩, N1 + N2, 16, fun F n hF => ?_⟩
        simp (maxDischargeDepth := 9) [zi_go, zf_X5_open, zi_ask, zi_new, zi_step, zi_ld, zi_lda, zi_cmp, zi_retOk, zi_isI, zi_f3, zi_cr, zi_ci, zi_cn, zi_get_ne, zi_nl_i, zi_nl_r, zi_get_set_eq, nl, g0, g1, g4, zq_Desk_leastFreeNumber, zd_c, E1 F (by omega), ck, c3, zd_g, zd_w hj, zq_Win_isSticky, cw, E2 F (by omega), n2]
      · rw [if_neg c4] at E2 eo
        obtain ⟨-, -, a3, -, -⟩ := h.2.2.1 j hj hjt
        obtain ⟨s, hs, es, hst⟩ := a3 (fun e => c4 (decide_eq_true ⟨of_decide_eq_true hjt, e⟩))
        have cs : (0 : Int32) ≤ nI s := nI_pos' (by omega)
        right
        refine ⟨k, s, zi_set (zi_set L 6 (.int (nI k))) 7 (.int (nI s)), hk, hs, hnt, hlt, by rw [eo, es], hst, ⟨N1 + N2, 26, fun F n hF => ?_⟩, ?_, ?_, ?_, ?_, ?_, ?_, ?_, zi_get_set_eq⟩
        · simp (maxDischargeDepth := 9) [zi_go, zf_X5_open, zi_ask, zi_new, zi_step, zi_ld, zi_lda, zi_cmp, zi_retOk, zi_isI, zi_f3, zi_cr, zi_ci, zi_cn, zi_get_ne, zi_nl_i, zi_nl_r, zi_get_set_eq, nl, g0, g1, g4, zq_Desk_leastFreeNumber, zd_c, E1 F (by omega), ck, c3, zd_g, zd_w hj, zq_Win_isSticky, cw, E2 F (by omega), zw_g (zdW_at hj), es, cs]
        · simp (maxDischargeDepth := 9) [zi_get_ne, zi_nl_i, zi_nl_r, zi_get_set_eq, nl]
        · simp (maxDischargeDepth := 9) [zi_get_ne, zi_nl_i, zi_nl_r, zi_get_set_eq, nl, g0]
        · simp (maxDischargeDepth := 9) [zi_get_ne, zi_nl_i, zi_nl_r, zi_get_set_eq, nl, g1]
        · simp (maxDischargeDepth := 9) [zi_get_ne, zi_nl_i, zi_nl_r, zi_get_set_eq, nl, g2]
        · simp (maxDischargeDepth := 9) [zi_get_ne, zi_nl_i, zi_nl_r, zi_get_set_eq, nl, g3]
        · simp (maxDischargeDepth := 9) [zi_get_ne, zi_nl_i, zi_nl_r, zi_get_set_eq, nl, g4]
        · simp (maxDischargeDepth := 9) [zi_get_ne, zi_nl_i, zi_nl_r, zi_get_set_eq, nl]
    · have eo : zd_osc μ row kd o = zd_sah μ row := by
        unfold zd_osc
        rw [if_neg c3]
      obtain ⟨N2, E2⟩ := ze_screenAtHand (μ := μ) D h.1.1 (fun j hj => ((h.1.2.2 j).mp hj).1)
      rcases zd_sah_or h.2.2.1 row (fun j hj => (h.1.2.2 j).mp hj) with e2 | ⟨s, hs, e2, hst⟩
      · rw [e2] at E2
        left
        refine ⟨Or.inr (eo.trans e2), -1000000002, Or.inr ⟨(fun z => by rw [z k hk] at hnt; cases hnt), rfl⟩, N1 + N2, 18, fun F n hF => ?_⟩
        simp (maxDischargeDepth := 9) [zi_go, zf_X5_open, zi_ask, zi_new, zi_step, zi_ld, zi_lda, zi_cmp, zi_retOk, zi_isI, zi_f3, zi_cr, zi_ci, zi_cn, zi_get_ne, zi_nl_i, zi_nl_r, zi_get_set_eq, nl, g0, g1, zq_Desk_leastFreeNumber, zd_c, E1 F (by omega), ck, c3, zq_Desk_screenAtHand, E2 F (by omega), cm, n2]
      · rw [e2] at E2
        have cs : (0 : Int32) ≤ nI s := nI_pos' (by omega)
        right
        refine ⟨k, s, zi_set (zi_set L 6 (.int (nI k))) 7 (.int (nI s)), hk, hs, hnt, hlt, eo.trans e2, hst, ⟨N1 + N2, 16, fun F n hF => ?_⟩, ?_, ?_, ?_, ?_, ?_, ?_, ?_, zi_get_set_eq⟩
        · simp (maxDischargeDepth := 9) [zi_go, zf_X5_open, zi_ask, zi_new, zi_step, zi_ld, zi_lda, zi_cmp, zi_retOk, zi_isI, zi_f3, zi_cr, zi_ci, zi_cn, zi_get_ne, zi_nl_i, zi_nl_r, zi_get_set_eq, nl, g0, g1, zq_Desk_leastFreeNumber, zd_c, E1 F (by omega), ck, c3, zq_Desk_screenAtHand, E2 F (by omega), cs]
        · simp (maxDischargeDepth := 9) [zi_get_ne, zi_nl_i, zi_nl_r, zi_get_set_eq, nl]
        · simp (maxDischargeDepth := 9) [zi_get_ne, zi_nl_i, zi_nl_r, zi_get_set_eq, nl, g0]
        · simp (maxDischargeDepth := 9) [zi_get_ne, zi_nl_i, zi_nl_r, zi_get_set_eq, nl, g1]
        · simp (maxDischargeDepth := 9) [zi_get_ne, zi_nl_i, zi_nl_r, zi_get_set_eq, nl, g2]
        · simp (maxDischargeDepth := 9) [zi_get_ne, zi_nl_i, zi_nl_r, zi_get_set_eq, nl, g3]
        · simp (maxDischargeDepth := 9) [zi_get_ne, zi_nl_i, zi_nl_r, zi_get_set_eq, nl, g4]
        · simp (maxDischargeDepth := 9) [zi_get_ne, zi_nl_i, zi_nl_r, zi_get_set_eq, nl]
set_option maxRecDepth 100000 in
theorem ze_open_v (D : Nat) (h : zJ μ row stk Rs ts) (kd w v o : Int32) : ∃ ν r row' stk' Rs' ts', ze_E (D + 16) A_Desk_open [.ref 1, .int kd, .int w, .int v, .int o] (zm_mk μ) (some (.int r)) (zm_mk ν) ∧ zJ ν row' stk' Rs' ts' ∧ zd_opnv μ ν row row' Rs Rs' ts ts' kd w v o r := by
  rcases ze_open_0 (μ := μ) (D + 14) kd w v o with ⟨ha, S0⟩ | ⟨hna, G⟩
  rotate_left
  · exact ⟨μ, _, row, stk, Rs, ts, ze_in [(0, .ref 1), (1, .int kd), (2, .int w), (3, .int v), (4, .int o)] zq_Desk_open (Nat.le_of_ble_eq_true rfl) rfl G, h, Or.inl ⟨Or.inl hna, rfl, rfl, rfl, rfl, Or.inl ⟨hna, rfl⟩⟩⟩
  rcases ze_open_1_v (D + 13) h ha (L := [(5, .int 1), (0, .ref 1), (1, .int kd), (2, .int w), (3, .int v), (4, .int o)]) rfl rfl rfl rfl rfl rfl with ⟨hc, r, hr, G⟩ | ⟨k, s, L, hk, hs, hnt, hlt, eo, hst, S1, nl, g0, g1, g2, g3, g4, g6, g7⟩
  · exact ⟨μ, r, row, stk, Rs, ts, ze_in [(0, .ref 1), (1, .int kd), (2, .int w), (3, .int v), (4, .int o)] zq_Desk_open (Nat.le_of_ble_eq_true rfl) rfl (S0.end G), h, Or.inl ⟨Or.inr hc, rfl, rfl, rfl, rfl, Or.inr ⟨ha, hr⟩⟩⟩
  obtain ⟨ν1, ⟨N1, E1⟩, f1, hlaid⟩ := ze_layTrees (μ := μ) (D + 9) (fun s hs => (h.2.2.2.1 s hs).1)
  have ev1 := zd_frA_eqv f1
  obtain ⟨N2, E2⟩ := ze_prepare (μ := ν1) (D + 14) (zdW_at hk) kd w v o
  have p2 : ∀ c, c ≠ zdW k → c ≠ zdW k + 1 → zm_up (zm_up (zm_up (zm_up (zm_up ν1 (zdW k) 3 kd) (zdW k + 1) 0 w) (zdW k + 1) 1 v) (zdW k) 4 o) (zdW k) 5 (-1) c = ν1 c := fun c a1 a2 => by
    rw [zm_up_row a1, zm_up_row a1, zm_up_row a2, zm_up_row a2, zm_up_row a1]
  have q2 : zm_up (zm_up (zm_up (zm_up (zm_up ν1 (zdW k) 3 kd) (zdW k + 1) 0 w) (zdW k + 1) 1 v) (zdW k) 4 o) (zdW k) 5 (-1) (zdW k) 2 = ν1 (zdW k) 2 := by
    rw [zm_up_ne (by omega), zm_up_ne (by omega), zm_up_ne (by omega), zm_up_ne (by omega), zm_up_ne (by omega)]
  have q3 : zm_up (zm_up (zm_up (zm_up (zm_up ν1 (zdW k) 3 kd) (zdW k + 1) 0 w) (zdW k + 1) 1 v) (zdW k) 4 o) (zdW k) 5 (-1) (zdW k) 3 = kd := by
    rw [zm_up_ne (by omega), zm_up_ne (by omega), zm_up_ne (by omega), zm_up_ne (by omega), zm_up_eq]
  have q4 : zm_up (zm_up (zm_up (zm_up (zm_up ν1 (zdW k) 3 kd) (zdW k + 1) 0 w) (zdW k + 1) 1 v) (zdW k) 4 o) (zdW k) 5 (-1) (zdW k) 4 = o := by
    rw [zm_up_ne (by omega), zm_up_eq]
  have r0 : zm_up (zm_up (zm_up (zm_up (zm_up ν1 (zdW k) 3 kd) (zdW k + 1) 0 w) (zdW k + 1) 1 v) (zdW k) 4 o) (zdW k) 5 (-1) (zdW k + 1) 0 = w := by
    rw [zm_up_ne (by omega), zm_up_ne (by omega), zm_up_ne (by omega), zm_up_eq]
  have r1 : zm_up (zm_up (zm_up (zm_up (zm_up ν1 (zdW k) 3 kd) (zdW k + 1) 0 w) (zdW k + 1) 1 v) (zdW k) 4 o) (zdW k) 5 (-1) (zdW k + 1) 1 = v := by
    rw [zm_up_ne (by omega), zm_up_ne (by omega), zm_up_eq]
  have S2 : ze_S (D + 15) 8 (some .int) zc_X5_open 126 L [] (zm_mk μ) 145 L [] (zm_mk (zm_up (zm_up (zm_up (zm_up (zm_up ν1 (zdW k) 3 kd) (zdW k + 1) 0 w) (zdW k + 1) 1 v) (zdW k) 4 o) (zdW k) 5 (-1))) := by
    have cw := zw_c (μ := ν1) (zdW_at hk)
    refine ⟨N1 + N2, 11, fun F n hF => ?_⟩
    simp (maxDischargeDepth := 9) [zi_go, zf_X5_open, zi_ask, zi_new, zi_step, zi_ld, zi_lda, zi_cmp, zi_retOk, zi_isI, zi_f3, zi_cr, zi_ci, zi_cn, zi_get_ne, zi_nl_i, zi_nl_r, zi_get_set_eq, nl, g0, g1, g2, g3, g4, g6, zq_Desk_layTrees, zd_c, E1 F (by omega), zd_g, zd_w hk, zq_Win_prepare, cw, E2 F (by omega)]
  generalize zm_up (zm_up (zm_up (zm_up (zm_up ν1 (zdW k) 3 kd) (zdW k + 1) 0 w) (zdW k + 1) 1 v) (zdW k) 4 o) (zdW k) 5 (-1) = ν2 at p2 q2 q3 q4 r0 r1 S2
  clear E1 E2
  have f2 : ∀ c, ¬ zJ_irr c → c ≠ zdW k → c ≠ zdW k + 1 → ν2 c = μ c := fun c a1 a2 a3 => (p2 c a2 a3).trans (ev1 c a1)
  have w22 : ν2 (zdW k) 2 = μ (zdW k) 2 := by rw [q2, ev1 _ (zJn_W hk).1]
  have SS := (S0.trans S1).trans S2
  have laid_of : ∀ ξ : zm_M, (∀ c, c ≠ zdW k → c ≠ zdW k + 1 → ξ c = ν1 c) → ∀ q, q < 3 → zd_laid ξ q (Rs q) (ts q) := by
    intro ξ hξ q hq
    have := hlaid q hq
    have rT : ∀ j, ξ (zdT q + j) = ν1 (zdT q + j) := fun j => hξ _ (by unfold zdT zdW; omega) (by unfold zdT zdW; omega)
    have rZ : ξ (zdZ q) = ν1 (zdZ q) := hξ _ (by unfold zdZ zdW; omega) (by unfold zdZ zdW; omega)
    unfold zd_laid at *
    have eP : zt_P ξ (zdT q) = zt_P ν1 (zdT q) := by
      funext n x y a b
      unfold zt_P
      rw [rT, rT, rT, rT]
    rw [eP, rT, rT, rT, rT, rT, rZ]
    exact this
  have hsz : 1 ≤ w ∧ w ≤ 200 ∧ 1 ≤ v ∧ v ≤ 200 := ⟨ha.1.2.1.1, ha.1.2.1.2, ha.1.2.2⟩
  by_cases c1 : kd = 1
  · subst c1
    have ho : o = -1 := ha.2.2 (by decide)
    let ξ := zm_up ν2 (zdW k) 5 (nI s)
    have fξ : ∀ c, ¬ zJ_irr c → c ≠ zdW k → c ≠ zdW k + 1 → ξ c = μ c := fun c a1 a2 a3 => (zm_up_row a2).trans (f2 c a1 a2 a3)
    have ξ2 : ξ (zdW k) 2 = μ (zdW k) 2 := (zm_up_ne (by omega)).trans w22
    have ξ3 : ξ (zdW k) 3 = 1 := (zm_up_ne (by omega)).trans q3
    have ξ4 : ξ (zdW k) 4 = o := (zm_up_ne (by omega)).trans q4
    have ξ5 : ξ (zdW k) 5 = nI s := zm_up_eq
    have ξL : ξ (zdW k + 1) = ν2 (zdW k + 1) := zm_up_row (by omega)
    have hprep : zd_prep μ ξ Rs ts k 1 w v o := ⟨fξ, ξ2, ξ3, ξ4, by rw [ξL]; exact r0, by rw [ξL]; exact r1, laid_of ξ (fun c a1 a2 => (zm_up_row a1).trans (p2 c a1 a2))⟩
    have hJ : zJ ξ row stk Rs ts := zJ_free h hk hnt ξ2 fξ
    have hC := (hJ.2.2.2.1 s hs).1
    have hkR : k ∉ Rs s := fun q => by
      have := ((h.2.2.2.1 s hs).2.1 k).mp q
      have : zd_th μ k = true := decide_eq_true (of_decide_eq_true this.2.1).1
      rw [hnt] at this
      cases this
    have hrb : ∀ j ∈ row, j < 10 := fun j hj => ((h.1.2.2 j).mp hj).1
    have refuse : ∀ ν3 : zm_M, (∀ c, zt_out 7 c → ν3 c = ξ c) → ze_E (D + 15) A_Desk_findRoom [.ref 1, .int (nI k), .int (nI s)] (zm_mk ν2) (some (.int 0)) (zm_mk ν3) → zd_tld ξ ν3 s k row (Rs s) (ts s) 0 (Rs s) (ts s) → ∃ ν r row' stk' Rs' ts', ze_E (D + 16) A_Desk_open [.ref 1, .int 1, .int w, .int v, .int o] (zm_mk μ) (some (.int r)) (zm_mk ν) ∧ zJ ν row' stk' Rs' ts' ∧ zd_opnv μ ν row row' Rs Rs' ts ts' 1 w v o r := by
      intro ν3 fr E hT
      have f3 : ∀ c, ¬ zJ_irr c → c ≠ zdW k → c ≠ zdW k + 1 → ν3 c = μ c := fun c a1 a2 a3 => (fr c (zJn_7 a1)).trans (fξ c a1 a2 a3)
      have w3 : ν3 (zdW k) 2 = μ (zdW k) 2 := by rw [fr _ (by unfold zt_out zdW; omega)]; exact ξ2
      exact ⟨ν3, _, row, stk, Rs, ts, ze_in [(0, .ref 1), (1, .int 1), (2, .int w), (3, .int v), (4, .int o)] zq_Desk_open (Nat.le_of_ble_eq_true rfl) rfl (SS.end (ze_open_2 (kd := 1) (w := w) (v := v) (o := o) (D + 15) nl g0 g6 g7 E)), zJ_free h hk hnt w3 f3, Or.inr ⟨ha, k, s, ξ, hk, hs, hnt, hlt, eo, hst, hprep, Or.inl ⟨Or.inl ⟨rfl, ν3, hT⟩, f3, w3, rfl, rfl, rfl, rfl⟩⟩⟩
    have accept : ∀ (ν3 : zm_M) (R' : List Nat) (t' : zy_F), (∀ c, zt_out 7 c → zt_out (zdT s) c → ν3 c = ξ c) → ze_E (D + 15) A_Desk_findRoom [.ref 1, .int (nI k), .int (nI s)] (zm_mk ν2) (some (.int 1)) (zm_mk ν3) → zd_tld ξ ν3 s k row (Rs s) (ts s) 1 R' t' → zt_C ν3 (zdT s) R' t' → (∀ j, j ∈ R' ↔ (j ∈ Rs s ∨ j = k)) → (∀ u, ν3 (zdT s + 5) u = if u = k then ξ (zdW k + 1) 0 else ξ (zdT s + 5) u) → (∀ u, ν3 (zdT s + 6) u = if u = k then ξ (zdW k + 1) 1 else ξ (zdT s + 6) u) → zt_fit ν3 (zdT s) (zdZ s) R' t' = true → ∃ ν r row' stk' Rs' ts', ze_E (D + 16) A_Desk_open [.ref 1, .int 1, .int w, .int v, .int o] (zm_mk μ) (some (.int r)) (zm_mk ν) ∧ zJ ν row' stk' Rs' ts' ∧ zd_opnv μ ν row row' Rs Rs' ts ts' 1 w v o r := by
      intro ν3 R' t' fr E hT hC' hR' h5 h6 hfit
      obtain ⟨h0, hcame, hrows⟩ := zJ0_tiled h hk hs hnt hst hsz fξ ξ3 (ξ4.trans ho) ξ5 (by rw [ξL]; exact r0) (by rw [ξL]; exact r1) fr hC' hR' (fun j hj => ⟨by rw [h5, if_neg (fun (e : j = k) => hkR (e ▸ hj))], by rw [h6, if_neg (fun (e : j = k) => hkR (e ▸ hj))]⟩) ⟨by rw [h5, if_pos rfl, ξL]; exact r0, by rw [h6, if_pos rfl, ξL]; exact r1⟩ hfit
      obtain ⟨ν5, stk', E5, hJ5, hf5⟩ := ze_open_4 D h hk hs hnt hcame h0
      rw [← ho] at hcame
      exact ⟨ν5, _, k :: row, stk', zd_upd Rs s R', zd_upd ts s t', ze_in [(0, .ref 1), (1, .int 1), (2, .int w), (3, .int v), (4, .int o)] zq_Desk_open (Nat.le_of_ble_eq_true rfl) rfl (SS.end (ze_open_3 (D + 15) hk nl g0 g6 g7 E E5)), hJ5, Or.inr ⟨ha, k, s, ξ, hk, hs, hnt, hlt, eo, hst, hprep, Or.inr ⟨Or.inl ⟨rfl, ν3, _, R', t', hT, rfl, rfl, hcame, hrows, hf5⟩, rfl, rfl⟩⟩⟩
    rcases zd_lah_or hC.1 row hrb with ⟨et, -⟩ | ⟨n, hn, elah⟩
    · have hRn : Rs s = [] := zt_I_nil (μ := ξ) (T := zdT s) (by rw [← et]; exact hC.1)
      have hC0 : zt_C ξ (zdT s) [] .nil := by
        rw [← et, ← hRn]
        exact hC
      obtain ⟨ν3, b, E3, hT0, fr⟩ := ze_tile0 (μ := ξ) (D + 8) hk hs hJ.1.1 hrb hC0
      obtain ⟨ξ7, n, f7, hN, hcase⟩ := id hT0
      rcases hcase with ⟨hfit, rfl, hN'⟩ | ⟨hfit, rfl, fr'⟩
      · refine accept ν3 [k] (.tag n .nil) fr (ze_findRoom_1 (D + 14) hk hs q3 (Or.inr rfl) E3) (Or.inl ⟨et, hT0, fun _ => ⟨n, rfl, rfl, hN'⟩⟩) hN'.1 (fun j => ?_) hN'.2.2.2.1 hN'.2.2.2.2.1 ?_
        · rw [hRn]
          simp
        · rw [zt_fit_copy (A := ξ7) (T := 7) (zt_isNew_cp hN hN') (by rw [fr _ (by unfold zt_out zdZ; omega) (by unfold zt_out zdZ zdT; omega), f7 _ (by unfold zt_out zdZ; omega)])]
          exact hfit
      · exact refuse ν3 fr' (ze_findRoom_1 (D + 14) hk hs q3 (Or.inl rfl) E3) (Or.inl ⟨et, hT0, fun e => absurd e (by decide)⟩)
    · obtain ⟨ν3, b, E3, hTN, fr⟩ := ze_tileN (μ := ξ) (D + 8) hk hs hJ.1.1 hrb hC hkR hn elah
      have hz : ∀ ξ7 : zm_M, zt_frT 7 ξ ξ7 → ν3 (zdZ s) = ξ7 (zdZ s) := fun ξ7 f7 => by rw [fr _ (by unfold zt_out zdZ; omega) (by unfold zt_out zdZ zdT; omega), f7 _ (by unfold zt_out zdZ; omega)]
      have hmem : ∀ j, j ∈ Rs s ++ [k] ↔ (j ∈ Rs s ∨ j = k) := fun j => by simp
      obtain ⟨ξ1, c1, d1, g1', hK1, hcase⟩ := id hTN
      obtain ⟨a, ha2, ea⟩ : ∃ a, a < 2 ∧ (if ξ (zdT s + 23) n ≤ ξ (zdT s + 22) n then 0 else 1) = a := ⟨_, by split <;> omega, rfl⟩
      rw [ea] at hK1 hcase
      rcases hcase with ⟨hfit, rfl, hK'⟩ | ⟨hfit, ξ2', c2, d2, g2', hK2, hcase⟩
      · refine accept ν3 (Rs s ++ [k]) (zy_cut n c1 d1 (ts s)) fr (ze_findRoom_1 (D + 14) hk hs q3 (Or.inr rfl) E3) (Or.inr ⟨n, hn, elah, hTN, fun _ => ⟨rfl, Or.inl ⟨a, c1, d1, ha2, rfl, hK'⟩⟩⟩) hK'.1 hmem hK'.2.2.2.1 hK'.2.2.2.2.1 ?_
        rw [zt_fit_copy (A := ξ1) (T := 7) (zt_isCut_cp hK1 hK') (hz ξ1 g1')]
        exact hfit
      · rcases hcase with ⟨hfit2, rfl, hK'⟩ | ⟨hfit2, ξ3', g3', hK3, hcase⟩
        · refine accept ν3 (Rs s ++ [k]) (zy_cut n c2 d2 (ts s)) fr (ze_findRoom_1 (D + 14) hk hs q3 (Or.inr rfl) E3) (Or.inr ⟨n, hn, elah, hTN, fun _ => ⟨rfl, Or.inl ⟨1 - a, c2, d2, by omega, rfl, hK'⟩⟩⟩) hK'.1 hmem hK'.2.2.2.1 hK'.2.2.2.2.1 ?_
          rw [zt_fit_copy (A := ξ2') (T := 7) (zt_isCut_cp hK2 hK') (hz ξ2' g2')]
          exact hfit2
        · rcases hcase with ⟨hfit3, rfl, hK'⟩ | ⟨hfit3, rfl, fr'⟩
          · refine accept ν3 (Rs s ++ [k]) (ts s) fr (ze_findRoom_1 (D + 14) hk hs q3 (Or.inr rfl) E3) (Or.inr ⟨n, hn, elah, hTN, fun _ => ⟨rfl, Or.inr ⟨rfl, hK'⟩⟩⟩) hK'.1 hmem hK'.2.2.1 hK'.2.2.2.1 ?_
            rw [zt_fit_copy (A := ξ3') (T := 7) (zt_isTab_cp hK3 hK') (hz ξ3' g3')]
            exact hfit3
          · exact refuse ν3 fr' (ze_findRoom_1 (D + 14) hk hs q3 (Or.inl rfl) E3) (Or.inr ⟨n, hn, elah, hTN, fun e => absurd e (by decide)⟩)
  · have hkd : kd = 2 ∨ kd = 3 ∨ kd = 4 := by
      obtain ⟨⟨a1, a2⟩, -⟩ := ha.1
      have b1 := Int32.le_iff_toInt_le.mp a1
      have b2 := Int32.le_iff_toInt_le.mp a2
      rw [show (1 : Int32).toInt = 1 by decide] at b1
      rw [show (4 : Int32).toInt = 4 by decide] at b2
      have b3 : kd.toInt ≠ 1 := fun e => c1 (Int32.toInt_inj.mp (by rw [e]; decide))
      rcases (by omega : kd.toInt = 2 ∨ kd.toInt = 3 ∨ kd.toInt = 4) with e | e | e
      · exact Or.inl (Int32.toInt_inj.mp (by rw [e]; decide))
      · exact Or.inr (Or.inl (Int32.toInt_inj.mp (by rw [e]; decide)))
      · exact Or.inr (Or.inr (Int32.toInt_inj.mp (by rw [e]; decide)))
    have hprep : zd_prep μ ν2 Rs ts k kd w v o := ⟨f2, w22, q3, q4, r0, r1, laid_of ν2 p2⟩
    have accept : ∀ ν3 : zm_M, (∀ c b, ¬ (c = zdW k ∧ b = 5) → c ≠ zdW k + 2 → ν3 c b = ν2 c b) → (¬ kd = 4 → ν3 (zdW k) 5 = nI s) → ze_E (D + 15) A_Desk_findRoom [.ref 1, .int (nI k), .int (nI s)] (zm_mk ν2) (some (.int 1)) (zm_mk ν3) → (kd = 4 ∨ zd_whole ν2 (zdZ s) k = true) → ∃ ν r row' stk' Rs' ts', ze_E (D + 16) A_Desk_open [.ref 1, .int kd, .int w, .int v, .int o] (zm_mk μ) (some (.int r)) (zm_mk ν) ∧ zJ ν row' stk' Rs' ts' ∧ zd_opnv μ ν row row' Rs Rs' ts ts' kd w v o r := by
      intro ν3 fr h5 E hc
      have e1 : ν3 (zdW k + 1) = ν2 (zdW k + 1) := funext fun b => fr _ b (by omega) (by omega)
      have hcame : zd_came μ (zm_up ν3 (zdW k) 2 1) k s kd w v o := by
        refine ⟨fun c a1 a2 a3 _ => ?_, zm_up_eq, ?_, ?_, fun q => ?_, ?_, ?_⟩
        · rw [zm_up_row a2, ← f2 c a1 a2 a3]
          funext b
          exact fr c b (fun e => a2 e.1) (fun e => a1 (by unfold zJ_irr; rw [e]; unfold zdW; omega))
        · rw [zm_up_ne (by omega), fr _ _ (by omega) (by omega)]; exact q3
        · rw [zm_up_ne (by omega), fr _ _ (by omega) (by omega)]; exact q4
        · rw [zm_up_ne (by omega)]; exact h5 q
        · rw [zm_up_ne (by omega), e1]; exact r0
        · rw [zm_up_ne (by omega), e1]; exact r1
      obtain ⟨ν5, stk', E5, hJ5, hf5⟩ := ze_open_4 D h hk hs hnt hcame (zJ0_other h hk hs hnt hst hkd hsz ha.2.1 ha.2.2 hcame)
      exact ⟨ν5, _, k :: row, stk', Rs, ts, ze_in [(0, .ref 1), (1, .int kd), (2, .int w), (3, .int v), (4, .int o)] zq_Desk_open (Nat.le_of_ble_eq_true rfl) rfl (SS.end (ze_open_3 (D + 15) hk nl g0 g6 g7 E E5)), hJ5, Or.inr ⟨ha, k, s, ν2, hk, hs, hnt, hlt, eo, hst, hprep, Or.inr ⟨Or.inr ⟨c1, hc, rfl, rfl, _, hcame, hf5⟩, rfl, rfl⟩⟩⟩
    by_cases c4 : kd = 4
    · obtain ⟨ν3, E3, f3⟩ := ze_findRoom_4 (μ := ν2) (D + 14) hk (nI s) (q3.trans c4)
      exact accept ν3 (fun c b _ a2 => by rw [f3 c a2]) (fun q => absurd c4 q) E3 (Or.inl c4)
    · have n1 : ¬ ν2 (zdW k) 3 = 1 := by rw [q3]; exact c1
      have n4 : ¬ ν2 (zdW k) 3 = 4 := by rw [q3]; exact c4
      cases hw : zd_whole ν2 (zdZ s) k with
      | true =>
        have hJ2 : zJ ν2 row stk Rs ts := zJ_free h hk hnt w22 f2
        obtain ⟨ν3, E3, w5, f3⟩ := ze_findRoom_23 (μ := ν2) (D + 10) hk hs n1 n4 hw (fun e => by
          obtain ⟨j, hj, ej, hjt⟩ := ha.2.1 (by rw [← q3]; exact e)
          exact ⟨j, hj, fun e => (by rw [e, hnt] at hjt; cases hjt), (by rw [q4]; exact ej), zJ_scr hJ2 hj⟩)
        exact accept ν3 f3 (fun _ => w5) E3 (Or.inr hw)
      | false =>
        have E3 := ze_findRoom_no (μ := ν2) (D + 13) hk hs n1 n4 hw
        exact ⟨ν2, _, row, stk, Rs, ts, ze_in [(0, .ref 1), (1, .int kd), (2, .int w), (3, .int v), (4, .int o)] zq_Desk_open (Nat.le_of_ble_eq_true rfl) rfl (SS.end (ze_open_2 (kd := kd) (w := w) (v := v) (o := o) (D + 15) nl g0 g6 g7 E3)), zJ_free h hk hnt w22 f2, Or.inr ⟨ha, k, s, ν2, hk, hs, hnt, hlt, eo, hst, hprep, Or.inl ⟨Or.inr ⟨c1, c4, hw⟩, f2, w22, rfl, rfl, rfl, rfl⟩⟩⟩
end ZXP
section ZXP2
variable {μ ν : zm_M} {row stk ord : List Nat} {us : Nat → zy_F}
set_option maxRecDepth 100000 in
theorem zv_op1_v (D : Nat) (h : zR μ row stk us) {kd w v o g : Int32} (ha : zv_oarg μ kd w v o) : (((∀ j, j < 10 → ¬ μ 234 j = 0) ∨ zv_osc μ row kd o = -1) ∧ ∃ r, zx_op2 (∀ j, j < 10 → ¬ μ 234 j = 0) r ∧ ze_G (D + 3) 10 (some .int) zc_X6_open 69 [(5, .int g), (0, .ref 232), (1, .int kd), (2, .int w), (3, .int v), (4, .int o)] [] (zm_mk μ) (some (.int r)) (zm_mk μ)) ∨
    ∃ k s, k < 10 ∧ s < 3 ∧ μ 234 k = 0 ∧ (∀ j, j < k → ¬ μ 234 j = 0) ∧ zv_osc μ row kd o = nI s ∧ 0 < μ 232 s ∧ ze_S (D + 3) 10 (some .int) zc_X6_open 69 [(5, .int g), (0, .ref 232), (1, .int kd), (2, .int w), (3, .int v), (4, .int o)] [] (zm_mk μ) 127 [(7, .int (nI s)), (6, .int (nI k)), (5, .int g), (0, .ref 232), (1, .int kd), (2, .int w), (3, .int v), (4, .int o)] [] (zm_mk μ) := by
  have n2 : Int32.ofInt (-1000000002) = -1000000002 := by decide
  have n3 : Int32.ofInt (-1000000003) = -1000000003 := by decide
  have m1 : ¬ (0 : Int32) ≤ -1 := by decide
  obtain ⟨lc, cM⟩ := zM_c (μ := μ)
  obtain ⟨N1, E1⟩ := ze_MfreeNumber (μ := μ) (D + 2)
  rcases zl_fi_spec (fun k => decide (μ 234 k = 0)) (-1) 10 0 with ⟨k, _, hk, p, q, e⟩ | ⟨q, e⟩
  · have hk : k < 10 := by omega
    rw [e] at E1
    have p : μ 234 k = 0 := of_decide_eq_true p
    have q : ∀ j, j < k → ¬ μ 234 j = 0 := fun j hj => of_decide_eq_false (q j (Nat.zero_le _) hj)
    have m2 : (0 : Int32) ≤ nI k := Int32.not_lt.mp (nI_pos (by omega))
    by_cases c4 : kd = 3
    · obtain ⟨j, hj, rfl, j0⟩ := ha.2.1 c4
      have ij : zi_in (nI j) 10 = true := zm_in hj (by decide)
      have cj : (nI j).toNatClampNeg = j := nI_clamp (by omega)
      have eo : zv_osc μ row kd (nI j) = if μ 234 j = 4 then -1 else μ 238 j := by
        unfold zv_osc
        rw [if_pos c4, cj]
      by_cases c5 : μ 234 j = 4
      · rw [if_pos c5] at eo
        refine Or.inl ⟨Or.inr eo, -1000000002, Or.inr ⟨fun z => z k hk p, rfl⟩, N1, 21, fun F n hF => ?_⟩
        simp [zi_go, zf_X6_open, zi_ask, zi_new, zi_step, zi_ld, zi_lda, zi_cmp, zi_retOk, zi_isI, zi_f3, zi_cr, zi_ci, zi_cn, zi_get, zi_set, zM_g, cM, zq_Mod_freeNumber, E1 F (by omega), m2, c4, zm_iald (k := 0) zM_A234 ij, cj, c5, m1, n2]
      · rw [if_neg c5] at eo
        obtain ⟨s, hs, hh, h3, -⟩ := h.2.2.2.2.2.1 j hj j0 c5
        have m3 : (0 : Int32) ≤ nI s := Int32.not_lt.mp (nI_pos (by omega))
        refine Or.inr ⟨k, s, hk, hs, p, q, eo.trans hh, h3, N1, 22, fun F n hF => ?_⟩
        simp [zi_go, zf_X6_open, zi_ask, zi_new, zi_step, zi_ld, zi_lda, zi_cmp, zi_retOk, zi_isI, zi_f3, zi_cr, zi_ci, zi_cn, zi_get, zi_set, zM_g, cM, zq_Mod_freeNumber, E1 F (by omega), m2, c4, zm_iald (k := 0) zM_A234 ij, zm_iald (k := 0) zM_A238 ij, cj, c5, hh, m3]
    · have eo : zv_osc μ row kd o = zv_sah μ row := if_neg c4
      obtain ⟨N2, E2⟩ := ze_MscreenAtHand (μ := μ) (D + 2) h.2.1.1 (fun x hx => ((h.2.1.2.2 x).mp hx).1)
      rcases zv_sah_or h row (fun _ hj => hj) with es | ⟨s, hs, es, h3⟩
      · rw [es] at E2 eo
        refine Or.inl ⟨Or.inr eo, -1000000002, Or.inr ⟨fun z => z k hk p, rfl⟩, N1 + N2, 15, fun F n hF => ?_⟩
        simp [zi_go, zf_X6_open, zi_ask, zi_new, zi_step, zi_ld, zi_lda, zi_cmp, zi_retOk, zi_isI, zi_f3, zi_cr, zi_ci, zi_cn, zi_get, zi_set, cM, zq_Mod_freeNumber, zq_Mod_screenAtHand, E1 F (by omega), E2 F (by omega), m2, c4, m1, n2]
      · rw [es] at E2 eo
        have m3 : (0 : Int32) ≤ nI s := Int32.not_lt.mp (nI_pos (by omega))
        refine Or.inr ⟨k, s, hk, hs, p, q, eo, h3, N1 + N2, 13, fun F n hF => ?_⟩
        simp [zi_go, zf_X6_open, zi_ask, zi_new, zi_step, zi_ld, zi_lda, zi_cmp, zi_retOk, zi_isI, zi_f3, zi_cr, zi_ci, zi_cn, zi_get, zi_set, cM, zq_Mod_freeNumber, zq_Mod_screenAtHand, E1 F (by omega), E2 F (by omega), m2, c4, m3]
  · rw [e] at E1
    refine Or.inl ⟨Or.inl (fun j hj => of_decide_eq_false (q j (Nat.zero_le _) (by omega))), -1000000003, Or.inl ⟨fun j hj => of_decide_eq_false (q j (Nat.zero_le _) (by omega)), rfl⟩, N1, 7, fun F n hF => ?_⟩
    simp [zi_go, zf_X6_open, zi_ask, zi_new, zi_step, zi_ld, zi_lda, zi_cmp, zi_retOk, zi_isI, zi_f3, zi_cr, zi_ci, zi_cn, zi_get, zi_set, cM, zq_Mod_freeNumber, E1 F (by omega), m1, n3]
set_option maxRecDepth 100000 in
theorem ze_Mopen_v (D : Nat) (h : zR μ row stk us) (hord : zv_ord μ ord) (kd w v o : Int32) : ∃ ν r, ze_E (D + 29) A_Mod_open [.ref 232, .int kd, .int w, .int v, .int o] (zm_mk μ) (some (.int r)) (zm_mk ν) ∧ zv_opnv μ ν row stk us kd w v o r := by
  have n2 : Int32.ofInt (-1000000002) = -1000000002 := by decide
  have h10 : (Int8.ofInt 10).toInt32 = (10 : Int32) := by decide
  have enter : ∀ {ν r}, ze_G (D + 28) 10 (some .int) zc_X6_open 0 [(0, .ref 232), (1, .int kd), (2, .int w), (3, .int v), (4, .int o)] [] (zm_mk μ) (some (.int r)) (zm_mk ν) → ze_E (D + 29) A_Mod_open [.ref 232, .int kd, .int w, .int v, .int o] (zm_mk μ) (some (.int r)) (zm_mk ν) := fun G => ze_in [(0, .ref 232), (1, .int kd), (2, .int w), (3, .int v), (4, .int o)] zq_Mod_open (Nat.le_of_ble_eq_true rfl) rfl G
  rcases zv_op0 (D + 25) h kd w v o with ⟨ha, g, S0⟩ | ⟨ha, G⟩
  · rcases zv_op1_v (D + 25) h (g := g) ha with ⟨q, r, hr, G⟩ | ⟨k, s, hk, hs, hk0, hkl, eo, hst, S1⟩
    · exact ⟨μ, r, enter (S0.end G), Or.inl ⟨Or.inr q, rfl, Or.inr ⟨ha, hr⟩⟩⟩
    · have ik : zi_in (nI k) 10 = true := zm_in hk (by decide)
      have ck : (nI k).toNatClampNeg = k := nI_clamp (by omega)
      have is : zi_in (nI s) 3 = true := zm_in hs (by decide)
      have cs : (nI s).toNatClampNeg = s := nI_clamp (by omega)
      have S2 : ze_S (D + 28) 10 (some .int) zc_X6_open 127 [(7, .int (nI s)), (6, .int (nI k)), (5, .int g), (0, .ref 232), (1, .int kd), (2, .int w), (3, .int v), (4, .int o)] [] (zm_mk μ) 143 [(7, .int (nI s)), (6, .int (nI k)), (5, .int g), (0, .ref 232), (1, .int kd), (2, .int w), (3, .int v), (4, .int o)] [] (zm_mk (zm_up (zm_up μ 235 k w) 236 k v)) := by
        refine ⟨0, 10, fun F m hF => ?_⟩
        simp [zi_go, zf_X6_open, zi_ask, zi_new, zi_step, zi_ld, zi_lda, zi_cmp, zi_retOk, zi_isI, zi_f3, zi_cr, zi_ci, zi_cn, zi_get, zi_set, zM_g, zm_iast zM_A235 ik, zm_iast zM_A236 ik, ck]
      have m1 : zm_up (zm_up μ 235 k w) 236 k v 235 k = w := by rw [zm_up_ne (by omega), zm_up_eq]
      have m2 : zm_up (zm_up μ 235 k w) 236 k v 236 k = v := zm_up_eq
      have fM : ∀ c d, ¬ (c = 235 ∧ d = k) → ¬ (c = 236 ∧ d = k) → zm_up (zm_up μ 235 k w) 236 k v c d = μ c d := fun c d r1 r2 => by rw [zm_up_ne r2, zm_up_ne r1]
      generalize zm_up (zm_up μ 235 k w) 236 k v = M at S2 m1 m2 fM
      obtain ⟨lcM, cMM⟩ := zM_c (μ := M)
      have SS := S0.trans (S1.trans S2)
      -- kind and owner
      have S5 : ∀ X : zm_M, ze_S (D + 28) 10 (some .int) zc_X6_open 205 [(7, .int (nI s)), (6, .int (nI k)), (5, .int g), (0, .ref 232), (1, .int kd), (2, .int w), (3, .int v), (4, .int o)] [] (zm_mk X) 222 [(7, .int (nI s)), (6, .int (nI k)), (5, .int g), (0, .ref 232), (1, .int kd), (2, .int w), (3, .int v), (4, .int o)] [] (zm_mk (zm_up (zm_up X 234 k kd) 237 k o)) := fun X => by
        refine ⟨0, 10, fun F m hF => ?_⟩
        simp [zi_go, zf_X6_open, zi_ask, zi_new, zi_step, zi_ld, zi_lda, zi_cmp, zi_retOk, zi_isI, zi_f3, zi_cr, zi_ci, zi_cn, zi_get, zi_set, zM_g, zm_iast zM_A234 ik, zm_iast zM_A237 ik, ck]
      have up5 : ∀ (X : zm_M), zm_up (zm_up X 234 k kd) 237 k o 234 k = kd ∧ zm_up (zm_up X 234 k kd) 237 k o 237 k = o ∧ ∀ c d, ¬ (c = 234 ∧ d = k) → ¬ (c = 237 ∧ d = k) → zm_up (zm_up X 234 k kd) 237 k o c d = X c d := fun X => ⟨by rw [zm_up_ne (by omega), zm_up_eq], zm_up_eq, fun c d r1 r2 => by rw [zm_up_ne r2, zm_up_ne r1]⟩
      rcases zv_kd ha.1.1 with rfl | rfl | rfl | rfl
      · -- tiled
        obtain ⟨lo, ν3, b, u', hlo, ⟨N3, E3⟩, htl, hb, hT, f3⟩ := zR_tile D h hk hs hk0 (M := M) (fun c d r1 r2 => fM c d (fun z => r1 z.1) (fun z => r2 z.1))
        rcases hb with rfl | rfl
        · refine ⟨ν3, -1000000002, enter (SS.end ⟨N3, 10, fun F m hF => ?_⟩), Or.inr ⟨ha, k, s, M, hk, hs, hk0, hkl, eo, hst, ⟨m1, m2, fM⟩, Or.inl ⟨rfl, lo, ν3, 0, u', hlo, htl, Or.inl ⟨rfl, fun c d r1 r2 r3 => f3 c d r1 r2 r3 (fun e => absurd e (by decide)), rfl⟩⟩⟩⟩
          simp [zi_go, zf_X6_open, zi_ask, zi_new, zi_step, zi_ld, zi_lda, zi_cmp, zi_retOk, zi_isI, zi_f3, zi_cr, zi_ci, zi_cn, zi_get, zi_set, cMM, zq_Mod_tile, E3 F (by omega), n2]
        · have S3 : ze_S (D + 28) 10 (some .int) zc_X6_open 143 [(7, .int (nI s)), (6, .int (nI k)), (5, .int g), (0, .ref 232), (1, .int 1), (2, .int w), (3, .int v), (4, .int o)] [] (zm_mk M) 205 [(7, .int (nI s)), (6, .int (nI k)), (5, .int g), (0, .ref 232), (1, .int 1), (2, .int w), (3, .int v), (4, .int o)] [] (zm_mk (zm_up ν3 238 k (nI s))) := by
            refine ⟨N3, 14, fun F m hF => ?_⟩
            simp [zi_go, zf_X6_open, zi_ask, zi_new, zi_step, zi_ld, zi_lda, zi_cmp, zi_retOk, zi_isI, zi_f3, zi_cr, zi_ci, zi_cn, zi_get, zi_set, zM_g, cMM, zq_Mod_tile, E3 F (by omega), zm_iast zM_A238 ik, ck]
          have S6 := S5 (zm_up ν3 238 k (nI s))
          obtain ⟨u1, u2, u3⟩ := up5 (zm_up ν3 238 k (nI s))
          have fX : ∀ c d, ¬ (c = 238 ∧ d = k) → zm_up ν3 238 k (nI s) c d = ν3 c d := fun c d r => zm_up_ne r
          have eX : zm_up ν3 238 k (nI s) 238 k = nI s := zm_up_eq
          generalize zm_up (zm_up (zm_up ν3 238 k (nI s)) 234 k 1) 237 k o = ν4 at S6 u1 u2 u3
          generalize zm_up ν3 238 k (nI s) = X at S3 S6 u3 fX eX
          have hc : zv_cam μ ν4 k s 1 w v o := by
            have f3' : ∀ c d, c < 243 ∨ 261 < c → ¬ (c = 231 ∧ d = 30) → ν3 c d = M c d := fun c d r1 r2 => f3 c d r2 (by omega) (zu_in_not (by omega)) (fun _ => zu_in_not (by omega))
            refine ⟨⟨u1, u2, ?_, ?_, fun _ => ?_⟩, fun c d r1 r2 r3 r4 r5 r6 => ?_⟩
            · rw [u3 _ _ (by omega) (by omega), fX _ _ (by omega), f3' _ _ (by omega) (by omega), m1]
            · rw [u3 _ _ (by omega) (by omega), fX _ _ (by omega), f3' _ _ (by omega) (by omega), m2]
            · rw [u3 _ _ (by omega) (by omega), eX]
            · rw [u3 c d (by omega) (by omega), fX c d (by omega), f3 c d r1 (by omega) (r6 rfl).1 (fun _ => (r6 rfl).2), fM c d (by omega) (by omega)]
          have tS : zu_eqT ν3 s ν4 s := zu_eq_in (fun c d r => (u3 c d (fun z => zu_in_not (Or.inl (by omega)) r) (fun z => zu_in_not (Or.inl (by omega)) r)).trans (fX c d (fun z => zu_in_not (Or.inl (by omega)) r)))
          obtain ⟨ab, m, q1, q2⟩ := hT rfl
          have eus : zd_upd us s u' s = u' := if_pos rfl
          obtain ⟨ν, G, hf⟩ := zv_op4 D h hord ha hk hk0 hc hs (us' := zd_upd us s u') (fun _ => ⟨m, ab, by rw [eus]; exact tS.I q1, by rw [eus]; exact zu_at_eqT q1 tS q2⟩) [(7, .int (nI s)), (6, .int (nI k)), (5, .int g), (0, .ref 232), (1, .int 1), (2, .int w), (3, .int v), (4, .int o)] rfl rfl
          refine ⟨ν, nI k, enter (SS.end (S3.end (S6.end (ze_S.end ⟨0, 9, fun F m hF => ?_⟩ G)))), Or.inr ⟨ha, k, s, M, hk, hs, hk0, hkl, eo, hst, ⟨m1, m2, fM⟩, Or.inl ⟨rfl, lo, ν3, 1, u', hlo, htl, Or.inr ⟨rfl, ν4, hc, tS, hf, rfl⟩⟩⟩⟩
          simp [zi_go, zf_X6_open, zi_ask, zi_new, zi_step, zi_ld, zi_lda, zi_cmp, zi_retOk, zi_isI, zi_f3, zi_cr, zi_ci, zi_cn, zi_get, zi_set]
      · -- floating
        obtain ⟨N3, E3⟩ := ze_McanBeWhole (μ := M) (D + 27) hk (μ 232 s) (μ 233 s)
        rw [m1, m2] at E3
        have x2 : M 232 s = μ 232 s := fM _ _ (by omega) (by omega)
        have x3 : M 233 s = μ 233 s := fM _ _ (by omega) (by omega)
        by_cases c : w ≤ μ 232 s ∧ v ≤ μ 233 s
        · rw [if_pos c] at E3
          have S3 : ze_S (D + 28) 10 (some .int) zc_X6_open 143 [(7, .int (nI s)), (6, .int (nI k)), (5, .int g), (0, .ref 232), (1, .int 2), (2, .int w), (3, .int v), (4, .int o)] [] (zm_mk M) 205 [(7, .int (nI s)), (6, .int (nI k)), (5, .int g), (0, .ref 232), (1, .int 2), (2, .int w), (3, .int v), (4, .int o)] [] (zm_mk M) := by
            refine ⟨N3, 18, fun F m hF => ?_⟩
            simp [zi_go, zf_X6_open, zi_ask, zi_new, zi_step, zi_ld, zi_lda, zi_cmp, zi_retOk, zi_isI, zi_f3, zi_cr, zi_ci, zi_cn, zi_get, zi_set, zM_g, cMM, zm_iald (k := 0) zM_A232 is, zm_iald (k := 0) zM_A233 is, cs, x2, x3, zq_Mod_canBeWhole, E3 F (by omega)]
          have S6 := S5 M
          obtain ⟨u1, u2, u3⟩ := up5 M
          generalize zm_up (zm_up M 234 k 2) 237 k o = Y at S6 u1 u2 u3
          obtain ⟨lcY, cMY⟩ := zM_c (μ := Y)
          obtain ⟨p, q, ⟨N4, E4⟩, -, -⟩ := ze_MputAt (μ := Y) (D + 26) hk hs (10 * nI k) (10 * nI k)
          have fP : ∀ c d, ¬ (c = 238 ∧ d = k) → c ≠ 239 → c ≠ 240 → zv_put Y k s p q c d = Y c d := fun c d r1 r2 r3 => by unfold zv_put; rw [zm_up_ne (by omega), zm_up_ne (by omega), zm_up_ne r1]
          have eP : zv_put Y k s p q 238 k = nI s := by unfold zv_put; rw [zm_up_ne (by omega), zm_up_ne (by omega), zm_up_eq]
          generalize zv_put Y k s p q = ν4 at E4 fP eP
          have hc : zv_cam μ ν4 k s 2 w v o := by
            refine ⟨⟨?_, ?_, ?_, ?_, fun _ => eP⟩, fun c d r1 r2 r3 r4 r5 r6 => ?_⟩
            · rw [fP _ _ (by omega) (by omega) (by omega), u1]
            · rw [fP _ _ (by omega) (by omega) (by omega), u2]
            · rw [fP _ _ (by omega) (by omega) (by omega), u3 _ _ (by omega) (by omega), m1]
            · rw [fP _ _ (by omega) (by omega) (by omega), u3 _ _ (by omega) (by omega), m2]
            · rw [fP c d (by omega) r3 r4, u3 c d (by omega) (by omega), fM c d (by omega) (by omega)]
          obtain ⟨ν, G, hf⟩ := zv_op4 D h hord ha hk hk0 hc hs (us' := us) (fun e => absurd e (by decide)) [(7, .int (nI s)), (6, .int (nI k)), (5, .int g), (0, .ref 232), (1, .int 2), (2, .int w), (3, .int v), (4, .int o)] rfl rfl
          refine ⟨ν, nI k, enter (SS.end (S3.end (S6.end (ze_S.end ⟨N4, 14, fun F m hF => ?_⟩ G)))), Or.inr ⟨ha, k, s, M, hk, hs, hk0, hkl, eo, hst, ⟨m1, m2, fM⟩, Or.inr ⟨by decide, Or.inr ⟨Or.inr c, ν4, hc, hf, rfl⟩⟩⟩⟩
          simp [zi_go, zf_X6_open, zi_ask, zi_new, zi_step, zi_ld, zi_lda, zi_cmp, zi_retOk, zi_isI, zi_f3, zi_cr, zi_ci, zi_cn, zi_get, zi_set, h10, cMY, zq_Mod_putAt, E4 F (by omega)]
        · rw [if_neg c] at E3
          refine ⟨M, -1000000002, enter (SS.end ⟨N3, 20, fun F m hF => ?_⟩), Or.inr ⟨ha, k, s, M, hk, hs, hk0, hkl, eo, hst, ⟨m1, m2, fM⟩, Or.inr ⟨by decide, Or.inl ⟨by decide, c, rfl, rfl⟩⟩⟩⟩
          simp [zi_go, zf_X6_open, zi_ask, zi_new, zi_step, zi_ld, zi_lda, zi_cmp, zi_retOk, zi_isI, zi_f3, zi_cr, zi_ci, zi_cn, zi_get, zi_set, zM_g, cMM, zm_iald (k := 0) zM_A232 is, zm_iald (k := 0) zM_A233 is, cs, x2, x3, zq_Mod_canBeWhole, E3 F (by omega), n2]
      · -- a dialog
        obtain ⟨j, hj, rfl, hj0⟩ := ha.2.1 rfl
        obtain ⟨N3, E3⟩ := ze_McanBeWhole (μ := M) (D + 27) hk (μ 232 s) (μ 233 s)
        rw [m1, m2] at E3
        have x2 : M 232 s = μ 232 s := fM _ _ (by omega) (by omega)
        have x3 : M 233 s = μ 233 s := fM _ _ (by omega) (by omega)
        by_cases c : w ≤ μ 232 s ∧ v ≤ μ 233 s
        · rw [if_pos c] at E3
          have S3 : ze_S (D + 28) 10 (some .int) zc_X6_open 143 [(7, .int (nI s)), (6, .int (nI k)), (5, .int g), (0, .ref 232), (1, .int 3), (2, .int w), (3, .int v), (4, .int (nI j))] [] (zm_mk M) 205 [(7, .int (nI s)), (6, .int (nI k)), (5, .int g), (0, .ref 232), (1, .int 3), (2, .int w), (3, .int v), (4, .int (nI j))] [] (zm_mk M) := by
            refine ⟨N3, 18, fun F m hF => ?_⟩
            simp [zi_go, zf_X6_open, zi_ask, zi_new, zi_step, zi_ld, zi_lda, zi_cmp, zi_retOk, zi_isI, zi_f3, zi_cr, zi_ci, zi_cn, zi_get, zi_set, zM_g, cMM, zm_iald (k := 0) zM_A232 is, zm_iald (k := 0) zM_A233 is, cs, x2, x3, zq_Mod_canBeWhole, E3 F (by omega)]
          have S6 := S5 M
          obtain ⟨u1, u2, u3⟩ := up5 M
          generalize zm_up (zm_up M 234 k 3) 237 k (nI j) = Y at S6 u1 u2 u3
          have hjk : j ≠ k := fun e => hj0 (by rw [e]; exact hk0)
          have y4 : Y 234 j = μ 234 j := by rw [u3 _ _ (by omega) (by omega), fM _ _ (by omega) (by omega)]
          have y8 : Y 238 j = μ 238 j := by rw [u3 _ _ (by omega) (by omega), fM _ _ (by omega) (by omega)]
          have hA : zv_arg Y us j := by
            refine ⟨by rw [y4]; exact zR_fl h hj hj0, fun e => ?_⟩
            rw [y4] at e
            obtain ⟨q, m, ab, r1, r2, r3, r4⟩ := zR_til h hj e
            have t : zu_eqT μ q Y q := zu_eq_in (fun c d r => (u3 c d (fun z => zu_in_not (Or.inl (by omega)) r) (fun z => zu_in_not (Or.inl (by omega)) r)).trans (fM c d (fun z => zu_in_not (Or.inl (by omega)) r) (fun z => zu_in_not (Or.inl (by omega)) r)))
            exact ⟨q, m, ab, r1, by rw [y8]; exact r2, t.I r3, zu_at_eqT r3 t r4⟩
          obtain ⟨M', p, q, L', S7, g0, g6, fM'⟩ := zv_op3 D hj hk hs hA (w := w) (v := v) (kd := 3) (g := g)
          have fP : ∀ c d, ¬ (c = 238 ∧ d = k) → c ≠ 239 → c ≠ 240 → zv_put M' k s p q c d = M' c d := fun c d r1 r2 r3 => by unfold zv_put; rw [zm_up_ne (by omega), zm_up_ne (by omega), zm_up_ne r1]
          have eP : zv_put M' k s p q 238 k = nI s := by unfold zv_put; rw [zm_up_ne (by omega), zm_up_ne (by omega), zm_up_eq]
          generalize zv_put M' k s p q = ν4 at S7 fP eP
          have hc : zv_cam μ ν4 k s 3 w v (nI j) := by
            refine ⟨⟨?_, ?_, ?_, ?_, fun _ => eP⟩, fun c d r1 r2 r3 r4 r5 r6 => ?_⟩
            · rw [fP _ _ (by omega) (by omega) (by omega), fM' _ _ (by omega) (by omega) (by omega) (by omega), u1]
            · rw [fP _ _ (by omega) (by omega) (by omega), fM' _ _ (by omega) (by omega) (by omega) (by omega), u2]
            · rw [fP _ _ (by omega) (by omega) (by omega), fM' _ _ (by omega) (by omega) (by omega) (by omega), u3 _ _ (by omega) (by omega), m1]
            · rw [fP _ _ (by omega) (by omega) (by omega), fM' _ _ (by omega) (by omega) (by omega) (by omega), u3 _ _ (by omega) (by omega), m2]
            · rw [fP c d (by omega) r3 r4, fM' c d r1 r3 r4 r5, u3 c d (by omega) (by omega), fM c d (by omega) (by omega)]
          obtain ⟨ν, G, hf⟩ := zv_op4 D h hord ha hk hk0 hc hs (us' := us) (fun e => absurd e (by decide)) L' g0 g6
          refine ⟨ν, nI k, enter (SS.end (S3.end (S6.end (ze_S.end (p2 := 293) (L2 := [(7, .int (nI s)), (6, .int (nI k)), (5, .int g), (0, .ref 232), (1, .int 3), (2, .int w), (3, .int v), (4, .int (nI j))]) (s2 := []) (h2 := zm_mk Y) ⟨0, 9, fun F m hF => ?_⟩ (S7.end G))))), Or.inr ⟨ha, k, s, M, hk, hs, hk0, hkl, eo, hst, ⟨m1, m2, fM⟩, Or.inr ⟨by decide, Or.inr ⟨Or.inr c, ν4, hc, hf, rfl⟩⟩⟩⟩
          simp [zi_go, zf_X6_open, zi_ask, zi_new, zi_step, zi_ld, zi_lda, zi_cmp, zi_retOk, zi_isI, zi_f3, zi_cr, zi_ci, zi_cn, zi_get, zi_set]
        · rw [if_neg c] at E3
          refine ⟨M, -1000000002, enter (SS.end ⟨N3, 20, fun F m hF => ?_⟩), Or.inr ⟨ha, k, s, M, hk, hs, hk0, hkl, eo, hst, ⟨m1, m2, fM⟩, Or.inr ⟨by decide, Or.inl ⟨by decide, c, rfl, rfl⟩⟩⟩⟩
          simp [zi_go, zf_X6_open, zi_ask, zi_new, zi_step, zi_ld, zi_lda, zi_cmp, zi_retOk, zi_isI, zi_f3, zi_cr, zi_ci, zi_cn, zi_get, zi_set, zM_g, cMM, zm_iald (k := 0) zM_A232 is, zm_iald (k := 0) zM_A233 is, cs, x2, x3, zq_Mod_canBeWhole, E3 F (by omega), n2]
      · -- sticky
        have S3 : ze_S (D + 28) 10 (some .int) zc_X6_open 143 [(7, .int (nI s)), (6, .int (nI k)), (5, .int g), (0, .ref 232), (1, .int 4), (2, .int w), (3, .int v), (4, .int o)] [] (zm_mk M) 205 [(7, .int (nI s)), (6, .int (nI k)), (5, .int g), (0, .ref 232), (1, .int 4), (2, .int w), (3, .int v), (4, .int o)] [] (zm_mk M) := by
          refine ⟨0, 6, fun F m hF => ?_⟩
          simp [zi_go, zf_X6_open, zi_ask, zi_new, zi_step, zi_ld, zi_lda, zi_cmp, zi_retOk, zi_isI, zi_f3, zi_cr, zi_ci, zi_cn, zi_get, zi_set]
        have S6 := S5 M
        obtain ⟨u1, u2, u3⟩ := up5 M
        generalize zm_up (zm_up M 234 k 4) 237 k o = Y at S6 u1 u2 u3
        have S7 : ze_S (D + 28) 10 (some .int) zc_X6_open 222 [(7, .int (nI s)), (6, .int (nI k)), (5, .int g), (0, .ref 232), (1, .int 4), (2, .int w), (3, .int v), (4, .int o)] [] (zm_mk Y) 349 [(7, .int (nI s)), (6, .int (nI k)), (5, .int g), (0, .ref 232), (1, .int 4), (2, .int w), (3, .int v), (4, .int o)] [] (zm_mk (zm_up (zm_up (zm_up Y 238 k (-1)) 239 k (10 * nI k)) 240 k (10 * nI k))) := by
          refine ⟨0, 26, fun F m hF => ?_⟩
          simp [zi_go, zf_X6_open, zi_ask, zi_new, zi_step, zi_ld, zi_lda, zi_cmp, zi_retOk, zi_isI, zi_f3, zi_cr, zi_ci, zi_cn, zi_get, zi_set, zM_g, h10, zm_iast zM_A238 ik, zm_iast zM_A239 ik, zm_iast zM_A240 ik, ck]
        have fP : ∀ c d, ¬ (c = 238 ∧ d = k) → c ≠ 239 → c ≠ 240 → zm_up (zm_up (zm_up Y 238 k (-1)) 239 k (10 * nI k)) 240 k (10 * nI k) c d = Y c d := fun c d r1 r2 r3 => by rw [zm_up_ne (by omega), zm_up_ne (by omega), zm_up_ne r1]
        generalize zm_up (zm_up (zm_up Y 238 k (-1)) 239 k (10 * nI k)) 240 k (10 * nI k) = ν4 at S7 fP
        have hc : zv_cam μ ν4 k s 4 w v o := by
          refine ⟨⟨?_, ?_, ?_, ?_, fun e => absurd rfl e⟩, fun c d r1 r2 r3 r4 r5 r6 => ?_⟩
          · rw [fP _ _ (by omega) (by omega) (by omega), u1]
          · rw [fP _ _ (by omega) (by omega) (by omega), u2]
          · rw [fP _ _ (by omega) (by omega) (by omega), u3 _ _ (by omega) (by omega), m1]
          · rw [fP _ _ (by omega) (by omega) (by omega), u3 _ _ (by omega) (by omega), m2]
          · rw [fP c d (by omega) r3 r4, u3 c d (by omega) (by omega), fM c d (by omega) (by omega)]
        obtain ⟨ν, G, hf⟩ := zv_op4 D h hord ha hk hk0 hc hs (us' := us) (fun e => absurd e (by decide)) [(7, .int (nI s)), (6, .int (nI k)), (5, .int g), (0, .ref 232), (1, .int 4), (2, .int w), (3, .int v), (4, .int o)] rfl rfl
        exact ⟨ν, nI k, enter (SS.end (S3.end (S6.end (S7.end G)))), Or.inr ⟨ha, k, s, M, hk, hs, hk0, hkl, eo, hst, ⟨m1, m2, fM⟩, Or.inr ⟨by decide, Or.inr ⟨Or.inl rfl, ν4, hc, hf, rfl⟩⟩⟩⟩
  · exact ⟨μ, _, enter G, Or.inl ⟨Or.inl ha, rfl, Or.inl ⟨ha, rfl⟩⟩⟩
end ZXP2
section ZXP3
variable {M N θ : zm_M}
theorem zl_er_no {l : List Nat} {k : Nat} (h : k ∉ l) : l.erase k = l := List.erase_of_not_mem h
theorem zv_L_len {μ : zm_M} {C q : Nat} {l l' : List Nat} (h : zv_L μ C q l) (h' : zv_L μ C q l') : l.length = l'.length := by
  have a := h.1
  have b := h'.1
  exact (nI_eq (by omega) (by omega)).mp (h.2.1.symm.trans h'.2.1)
theorem zW_open_e (h : zW M) (kd w v o : Int32) : zW_e M A_Desk_open A_Mod_open [.int kd, .int w, .int v, .int o] := by
  obtain ⟨row, stkC, stk, ord, Rs, ts, us, h⟩ := h
  obtain ⟨N, r1, row', stk', Rs', ts', E1, hJ, f⟩ := ze_open_v 48 h.1 kd w v o
  have f0 : zd_opn M N row row' Rs Rs' ts ts' kd w v o := by
    rcases id f with ⟨a, b, c, d, e, -⟩ | ⟨ha, k, s, ξ, a1, a2, a3, a4, a5, a6, a7, ⟨b1, b2, b3, b4, b5, b6, -⟩ | ⟨b1, b2, -⟩⟩
    · exact Or.inl ⟨a, b, c, d, e⟩
    · exact Or.inr ⟨ha, k, s, ξ, a1, a2, a3, a4, a5, a6, a7, Or.inl ⟨b1, b2, b3, b4, b5, b6⟩⟩
    · exact Or.inr ⟨ha, k, s, ξ, a1, a2, a3, a4, a5, a6, a7, Or.inr ⟨b1, b2⟩⟩
  have hm := zW_mid h (zW_opn f0)
  obtain ⟨θ, r2, E2, g⟩ := ze_Mopen_v 35 (zK_R hm) hm.2.2.2.2.1 kd w v o
  have g0 : zv_opn N θ row stk us kd w v o := by
    rcases id g with ⟨a, b, -⟩ | ⟨ha, k, s, M', a1, a2, a3, a4, a5, a6, a7, ⟨b1, lo, ν3, b, u', b2, b3, ⟨c1, c2, -⟩ | ⟨c1, ν4, c2, c3, c4, -⟩⟩ | ⟨b1, ⟨c1, c2, c3, -⟩ | ⟨c1, ν4, c2, c3, -⟩⟩⟩
    · exact Or.inl ⟨a, b⟩
    · exact Or.inr ⟨ha, k, s, M', a1, a2, a3, a4, a5, a6, a7, Or.inl ⟨b1, lo, ν3, b, u', b2, b3, Or.inl ⟨c1, c2⟩⟩⟩
    · exact Or.inr ⟨ha, k, s, M', a1, a2, a3, a4, a5, a6, a7, Or.inl ⟨b1, lo, ν3, b, u', b2, b3, Or.inr ⟨c1, ν4, c2, c3, c4⟩⟩⟩
    · exact Or.inr ⟨ha, k, s, M', a1, a2, a3, a4, a5, a6, a7, Or.inr ⟨b1, Or.inl ⟨c1, c2, c3⟩⟩⟩
    · exact Or.inr ⟨ha, k, s, M', a1, a2, a3, a4, a5, a6, a7, Or.inr ⟨b1, Or.inr ⟨c1, ν4, c2, c3⟩⟩⟩
  obtain ⟨_, _, _, _, z⟩ := zK_opn hm hJ f0 g0
  have key : r2 = r1 := by
    have hoa := zK_oarg (kd := kd) (w := w) (v := v) (o := o) hm
    have zl : ∀ {l' : List Nat}, zv_L θ 242 12 l' → row'.length = l'.length := fun q => zv_L_len z.2.1.1 q
    have hL := hm.2.1.1
    -- what the reference did, by its row
    have gr : (zx_op (zv_oarg N kd w v o) (∀ j, j < 10 → ¬ N 234 j = 0) r2 ∧ row'.length = row.length ∧ (¬ zv_oarg N kd w v o ∨ (∀ j, j < 10 → ¬ N 234 j = 0) ∨ zv_osc N row kd o = -1)) ∨ ∃ k s, k < 10 ∧ s < 3 ∧ zv_oarg N kd w v o ∧ N 234 k = 0 ∧ (∀ j, j < k → ¬ N 234 j = 0) ∧ zv_osc N row kd o = nI s ∧ ((r2 = -1000000002 ∧ row'.length = row.length) ∨ (r2 = nI k ∧ row'.length = row.length + 1)) := by
      rcases g with ⟨a, rfl, b⟩ | ⟨ha, k, s, M', a1, a2, a3, a4, a5, a6, ⟨m1, m2, m3⟩, g⟩
      · exact Or.inl ⟨b, zl hL, a⟩
      · refine Or.inr ⟨k, s, a1, a2, ha, a3, a4, a5, ?_⟩
        have hkr : k ∉ row := fun q => ((zK_kind hm a1).2.2.mp ((hm.1.1.2.2 k).mp q).2) a3
        have len : ∀ {ν4 : zm_M} {us'}, zv_foc ν4 θ row stk us' k → row'.length = row.length + 1 := fun hf => by
          rw [zl hf.2.1, zl_er_no hkr, List.length_cons]
        have same : (∀ c d, ¬ (c = 231 ∧ d = 30) → ¬ (255 ≤ c ∧ c ≤ 259) → ¬ zu_in 6 c d → θ c d = M' c d) → row'.length = row.length := fun fr => by
          have e : ∀ c d, (c = 242 ∨ (c = 231 ∧ d = 12)) → θ c d = N c d := fun c d q => (fr c d (by omega) (by omega) (zu_in_not (by omega))).trans (m3 c d (by omega) (by omega))
          exact zl ⟨hL.1, (e _ _ (Or.inr ⟨rfl, rfl⟩)).trans hL.2.1, fun j hj => (e _ _ (Or.inl rfl)).trans (hL.2.2 j hj)⟩
        rcases g with ⟨b1, lo, ν3, b, u', b2, b3, ⟨c1, c2, c3⟩ | ⟨c1, ν4, c2, c3, c4, c5⟩⟩ | ⟨b1, ⟨c1, c2, c3, c4⟩ | ⟨c1, ν4, c2, c3, c4⟩⟩
        · exact Or.inl ⟨c3, same c2⟩
        · exact Or.inr ⟨c5, len c4⟩
        · exact Or.inl ⟨c4, same (fun c d _ _ _ => by rw [c3])⟩
        · exact Or.inr ⟨c4, len c3⟩
    rcases f with ⟨f1, -, rfl, -, -, f2⟩ | ⟨ha, k, s, ξ, hk, hs, hnt, hmin, hsc, hth, hp, f⟩
    · rcases gr with ⟨g1, -, -⟩ | ⟨k, s, hk, hs, ga, hk0, hmin, gs, -⟩
      · refine zx_op_eq hoa ⟨fun q j hj => (zK_kind hm hj).2.2.mp (q j hj), fun q j hj => (zK_kind hm hj).2.2.mpr (q j hj)⟩ f2 g1
      · have ha := hoa.mpr ga
        exfalso
        rcases f1 with z | z | z
        · exact z ha
        · exact absurd hk0 ((zK_kind hm hk).2.2.mp (z k hk))
        · rw [zK_osc hm ha, gs] at z
          exact nI_ne_m1 (by omega) z
    · have ga := hoa.mp ha
      have hk0 : N 234 k = 0 := (hm.2.2.1.1 k hk).1 hnt
      have hsc' := hsc
      rw [zK_osc hm ha] at hsc'
      rcases gr with ⟨-, -, z⟩ | ⟨k', s', hk', hs', -, hk0', hmin', gs, g⟩
      · exfalso
        rcases z with z | z | z
        · exact z ga
        · exact z k hk hk0
        · rw [hsc'] at z
          exact nI_ne_m1 (by omega) z
      · have ek : k' = k := by
          rcases Nat.lt_trichotomy k' k with z | z | z
          · exact absurd hk0' ((zK_kind hm hk').2.2.mp (hmin k' z))
          · exact z
          · exact absurd hk0 (hmin' k z)
        subst ek
        rcases f with ⟨-, -, -, rfl, -, -, rfl⟩ | ⟨-, rfl, rfl⟩
        · rcases g with ⟨rfl, -⟩ | ⟨-, e⟩
          · rfl
          · omega
        · rcases g with ⟨-, e⟩ | ⟨rfl, -⟩
          · rw [List.length_cons] at e
            omega
          · rfl
  subst key
  exact ⟨N, θ, r2, E1, E2, zW_end z (zW_mopn g0)⟩
end ZXP3
