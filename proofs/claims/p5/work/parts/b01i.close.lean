/-! close: the same answer -/
theorem zl_ct_y {p : Nat → Bool} {n : Nat} (h : p n = true) : zl_ct p (n + 1) = zl_ct p n + 1 := by
  show zl_ct p n + (if p n then 1 else 0) = zl_ct p n + 1
  rw [if_pos h]
theorem zl_ct_n {p : Nat → Bool} {n : Nat} (h : p n = false) : zl_ct p (n + 1) = zl_ct p n := by
  show zl_ct p n + (if p n then 1 else 0) = zl_ct p n
  rw [h]
  rfl
section ZXO
variable {μ ν : zm_M} {row stk : List Nat} {Rs : Nat → List Nat} {ts : Nat → zy_F} {s k : Nat}
set_option maxRecDepth 100000 in
theorem ze_close_v (D : Nat) (h : zJ μ row stk Rs ts) {k : Nat} (hk : k < 10) (ht : zd_th μ k = true) : ∃ ν s n, s < 3 ∧ (zd_til μ k = true → μ (zdW k) 5 = nI s ∧ n ∈ zy_lvs (ts s) ∧ k ∈ Rs s ∧ μ (zdT s + 3) k = nI n) ∧ ze_E (D + 6) A_Desk_close [.ref 1, .int (nI k)] (zm_mk μ) (some (.int (nI (zl_ct (zd_grp μ k) 10)))) (zm_mk ν) ∧ zJ ν (row.filter (zd_left (zd_grp μ k) 10)) (stk.filter (zd_left (zd_grp μ k) 10)) (zd_clR μ Rs k s) (zd_clT μ Rs ts k s n) ∧ zd_cls μ ν row stk (zd_grp μ k) 10 k s n (Rs s) (ts s) := by
  have h10 : (Int8.ofInt 10).toInt32 = (10 : Int32) := by decide
  obtain ⟨N1, E1⟩ := ze_thW (μ := μ) (D + 4) hk
  rw [if_pos ht] at E1
  obtain ⟨ν0, ⟨N2, E2⟩, f0, g0'⟩ := ze_gatherWithDialogs (μ := μ) (D + 2) hk
  have g0' : zd_gr ν0 (zd_grp μ k) := g0'
  obtain ⟨s, n, hs, hsn⟩ : ∃ s n, s < 3 ∧ (zd_til μ k = true → μ (zdW k) 5 = nI s ∧ n ∈ zy_lvs (ts s) ∧ k ∈ Rs s ∧ μ (zdT s + 3) k = nI n) := by
    by_cases c : zd_til μ k = true
    · obtain ⟨s, hs, e, hR, n, hn, en⟩ := zJ_til h hk c
      exact ⟨s, n, hs, fun _ => ⟨e, hn, hR, en⟩⟩
    · exact ⟨0, 0, by decide, fun q => absurd q c⟩
  have hsn' : zd_til μ k = true → μ (zdW k) 5 = nI s ∧ zt_I μ (zdT s) (Rs s) (ts s) ∧ n ∈ zy_lvs (ts s) ∧ k ∈ Rs s ∧ μ (zdT s + 3) k = nI n := fun q => ⟨(hsn q).1, (h.2.2.2.1 s hs).1.1, (hsn q).2⟩
  have hl0 : zd_left (zd_grp μ k) 0 = fun _ => true := by
    funext j
    unfold zd_left
    simp
  have hrl : ∀ l : List Nat, l.filter (fun _ => true) = l := fun l => List.filter_eq_self.mpr (fun _ _ => rfl)
  have hc0 : zd_cls μ ν0 row stk (zd_grp μ k) 0 k s n (Rs s) (ts s) := by
    unfold zd_cls
    rw [hl0, hrl, hrl]
    refine ⟨⟨zr_L_congr (f0 _ (by decide)) (f0 _ (by decide)) h.1.1, zr_L_congr (f0 _ (by decide)) (f0 _ (by decide)) h.2.1.1⟩, fun j hj => ?_, fun q hq => ?_, fun _ q => absurd q (by omega), g0', fun c b _ _ _ _ c31 _ _ _ => by rw [f0 c c31]⟩
    · rw [if_pos rfl, f0 _ (by unfold zdW; omega)]
    · rw [f0 _ (by unfold zdK; omega)]
      rfl
  have hrb : ∀ j ∈ row, j < 10 := fun j hj => ((h.1.2.2 j).mp hj).1
  have key : ∃ r h', ze_G (D + 5) 4 (some .int) zc_X5_close 20 [(3, .int (nI 0)), (2, .int (nI 0)), (0, .ref 1), (1, .int (nI k))] [] (zm_mk ν0) r h' ∧ (r = some (.int (nI (zl_ct (zd_grp μ k) 10))) ∧ ∃ ν, zm_mk ν = h' ∧ zd_cls μ ν row stk (zd_grp μ k) 10 k s n (Rs s) (ts s)) := by
    refine ze_loop (Q := fun i L hp => i ≤ 10 ∧ zi_nl L = true ∧ zi_get L 0 = some (.ref 1) ∧ zi_get L 3 = some (.int (nI i)) ∧ ∃ ξ : zm_M, zm_mk ξ = hp ∧ (zd_cls μ ξ row stk (zd_grp μ k) i k s n (Rs s) (ts s)) ∧ ∃ (v : Int32), zi_get L 2 = some (.int v) ∧ (v = nI (zl_ct (zd_grp μ k) i))) (R := fun r h' => r = some (.int (nI (zl_ct (zd_grp μ k) 10))) ∧ ∃ ν, zm_mk ν = h' ∧ zd_cls μ ν row stk (zd_grp μ k) 10 k s n (Rs s) (ts s)) 10 ?_ ?_ 10 0 _ _ (by omega) ⟨by omega, rfl, rfl, rfl, ν0, rfl, hc0, nI 0, rfl, rfl⟩
    · rintro i L _ hi ⟨-, nl, g0, g3, ξ, rfl, hZ, v, g2, hq⟩
      have c1 : ¬ (10 : Int32) ≤ nI i := nI_ge (b := 10) hi (by decide)
      have i1 : zi_in (nI i) 10 = true := zm_in hi (by decide)
      have e1 : (nI i).toNatClampNeg = i := nI_clamp (by omega)
      have hgi := hZ.2.2.2.2.1 i hi
      by_cases c2 : zd_grp μ k i = true
      · rw [if_pos c2] at hgi
        obtain ⟨ξ', ⟨M1, F1⟩, hZ'⟩ := zd_cls_s D hi hs c2 (fun q1 q2 => zd_grp_til h hi q1 q2) h.1.2.1 h.2.1.2.1 hrb h.2.1.2.2 hsn' hZ
        left
        refine ⟨zi_set (zi_set L 2 (.int (v + 1))) 3 (.int (nI (i + 1))), zm_mk ξ', ⟨M1, 14, fun F m hF => ?_⟩, by omega, ?_, ?_, zi_get_set_eq, ξ', rfl, hZ', v + 1, ?_, by rw [hq, nI_1, zl_ct_y c2]⟩
        · simp (maxDischargeDepth := 9) [zg_0, zg_aload_n, zg_baload, zg_bipush, zg_getfield, zg_goto, zg_iconst, zg_ifCond, zg_if_icmp, zg_iinc, zg_iload_n, zg_invokevirtual, zg_ireturn, zg_istore_n, zg_ldc, zf_X5_close, zi_ld, zi_lda, zi_cmp, zi_retOk, zi_isI, zi_f3, zi_cr, zi_ci, zi_cn, zi_get_ne, zi_nl_i, zi_nl_r, zi_get_set_eq, nl, g0, g3, g2, h10, c1, zd_g, zm_bald zd31_A i1, e1, hgi, zq_Desk_end, zd_c, F1 F (by omega), nI_1]
        · simp (maxDischargeDepth := 9) [zi_get_ne, zi_nl_i, zi_nl_r, zi_get_set_eq, nl]
        · simp (maxDischargeDepth := 9) [zi_get_ne, zi_nl_i, zi_nl_r, zi_get_set_eq, nl, g0]
        · simp (maxDischargeDepth := 9) [zi_get_ne, zi_nl_i, zi_nl_r, zi_get_set_eq, nl, g2]
      · rw [if_neg c2] at hgi
        have M1 : Nat := 0
        have c2' : zd_grp μ k i = false := by simpa using c2
        have hZ' : zd_cls μ ξ row stk (zd_grp μ k) (i + 1) k s n (Rs s) (ts s) := by
          obtain ⟨z1, z2, z3, z4, z5, z6⟩ := hZ
          have hki : i ≠ k := fun e => by rw [e, zd_grp_k] at c2'; cases c2'
          unfold zd_cls
          rw [zd_left_n c2']
          refine ⟨z1, z2, fun q hq => ?_, fun q1 q2 => z4 q1 (by omega), z5, fun c b a1 a2 a3 a4 a5 a6 a7 a8 => z6 c b a1 a2 a3 a4 a5 a6 a7 (fun q1 q2 => a8 q1 (by omega))⟩
          rw [zd_hasg_s, c2', Bool.false_and, Bool.or_false]
          exact z3 q hq
        left
        refine ⟨zi_set L 3 (.int (nI (i + 1))), zm_mk ξ, ⟨M1, 10, fun F m hF => ?_⟩, by omega, ?_, ?_, zi_get_set_eq, ξ, rfl, hZ', v, ?_, by rw [hq, zl_ct_n c2']⟩
        · simp (maxDischargeDepth := 9) [zg_0, zg_aload_n, zg_baload, zg_bipush, zg_getfield, zg_goto, zg_iconst, zg_ifCond, zg_if_icmp, zg_iinc, zg_iload_n, zg_invokevirtual, zg_ireturn, zg_istore_n, zg_ldc, zf_X5_close, zi_ld, zi_lda, zi_cmp, zi_retOk, zi_isI, zi_f3, zi_cr, zi_ci, zi_cn, zi_get_ne, zi_nl_i, zi_nl_r, zi_get_set_eq, nl, g0, g3, g2, h10, c1, zd_g, zm_bald zd31_A i1, e1, hgi, nI_1]
        · simp (maxDischargeDepth := 9) [zi_get_ne, zi_nl_i, zi_nl_r, zi_get_set_eq, nl]
        · simp (maxDischargeDepth := 9) [zi_get_ne, zi_nl_i, zi_nl_r, zi_get_set_eq, nl, g0]
        · simp (maxDischargeDepth := 9) [zi_get_ne, zi_nl_i, zi_nl_r, zi_get_set_eq, nl, g2]
    · rintro L _ ⟨-, nl, g0, g3, ξ, rfl, hZ, v, g2, hq⟩
      have c1 : (10 : Int32) ≤ nI 10 := by decide
      refine ⟨some (.int v), zm_mk ξ, ⟨0, 5, fun F m hF => ?_⟩, by rw [hq], ξ, rfl, hZ⟩
      simp [zg_0, zg_aload_n, zg_baload, zg_bipush, zg_getfield, zg_goto, zg_iconst, zg_ifCond, zg_if_icmp, zg_iinc, zg_iload_n, zg_invokevirtual, zg_ireturn, zg_istore_n, zg_ldc, zf_X5_close, zi_ld, zi_lda, zi_cmp, zi_retOk, zi_isI, zi_f3, zi_cr, zi_ci, zi_cn, g0, g2, g3, h10, c1]
  obtain ⟨r, h', G, rfl, ν, rfl, hZ⟩ := key
  refine ⟨ν, s, n, hs, hsn, ze_in [(0, .ref 1), (1, .int (nI k))] zq_Desk_close (Nat.le_of_ble_eq_true rfl) rfl (ze_S.end (p2 := 20) (L2 := [(3, .int (nI 0)), (2, .int (nI 0)), (0, .ref 1), (1, .int (nI k))]) (s2 := []) (h2 := zm_mk ν0) ⟨N1 + N2, 11, fun F m hF => ?_⟩ G), ?_, hZ⟩
  · simp [zg_0, zg_aload_n, zg_baload, zg_bipush, zg_getfield, zg_goto, zg_iconst, zg_ifCond, zg_if_icmp, zg_iinc, zg_iload_n, zg_invokevirtual, zg_ireturn, zg_istore_n, zg_ldc, zf_X5_close, zi_ld, zi_lda, zi_cmp, zi_retOk, zi_isI, zi_f3, zi_cr, zi_ci, zi_cn, zi_get, zi_set, zq_Desk_isWindow, zd_c, E1 F (by omega), zq_Desk_gatherWithDialogs, E2 F (by omega), nI_0]
  · exact zJ_cls h hk hs zd_grp_k (fun j hj q1 q2 => zd_grp_til h hj q1 q2) (zl_spn_cl hk (decide_eq_true rfl)) hsn hZ
end ZXO
/-- what close(k) leaves, and what it answers -/
noncomputable def zv_clsv (μ ν : zm_M) (row stk : List Nat) (us : Nat → zy_F) (k : Nat) (v : Int32) : Prop := ((¬ μ 234 k = 1 ∧ ∃ X, zv_cl μ ν X row stk ∧ zv_gs μ k (fun _ => false) X ∧ v = nI (zl_ct X 10)) ∨ (μ 234 k = 1 ∧ ∃ s m ν2 ab' X, s < 3 ∧ μ 238 k = nI s ∧ zu_at μ s (us s) k m ∧ zu_isOut (zv_fg μ k) s (us s) m k ν2 ab' ∧ zv_cl ν2 ν X row stk ∧ zv_gs ν2 k (fun _ => false) X ∧ v = nI (zl_ct X 10)))
section ZXO2
variable {μ ν : zm_M} {row stk : List Nat} {us : Nat → zy_F}
set_option maxRecDepth 100000 in
theorem ze_Mclose_v (D : Nat) (h : zR μ row stk us) (w : Int32) : ∃ ν v, ze_E (D + 13) A_Mod_close [.ref 232, .int w] (zm_mk μ) (some (.int v)) (zm_mk ν) ∧ (((∀ k, k < 10 → w = nI k → μ 234 k = 0) ∧ ν = μ ∧ v = -1000000001) ∨ ∃ k, k < 10 ∧ w = nI k ∧ ¬ μ 234 k = 0 ∧ zv_clsv μ ν row stk us k v) := by
  have n1 : Int32.ofInt (-1000000001) = -1000000001 := by decide
  obtain ⟨lc, cM⟩ := zM_c (μ := μ)
  rcases zR_win (D + 10) h w with ⟨k, hk, rfl, c0, N1, E1⟩ | ⟨⟨N1, E1⟩, c0⟩
  · obtain ⟨rk, hr⟩ := h.2.2.2.1
    have rb : ∀ x ∈ row, x < 10 := fun x hx => ((h.2.1.2.2 x).mp hx).1
    have sb : ∀ x ∈ stk, x < 10 := fun x hx => ((h.2.2.1.2.2 x).mp hx).1
    have key : ∃ ν a, ze_E (D + 12) A_Mod_closed [.ref 232, .int (nI k)] (zm_mk μ) (some (.int (nI a))) (zm_mk ν) ∧ zv_clsv μ ν row stk us k (nI a) := by
      by_cases c : μ 234 k = 1
      · obtain ⟨q, m, ab, hq, hh, hI, hat⟩ := zR_til h hk c
        obtain ⟨ν2, ν, X, a, ab', E, p1, p2, p3, p4⟩ := ze_Mclosed_t (μ := μ) D hr hk hq c hh hI hat h.2.1.1 rb h.2.2.1.1 sb (fun z => by
          have := ((h.2.2.1.2.2 k).mp z).2
          rw [c] at this
          exact absurd this (by decide))
        exact ⟨ν, a, E, Or.inr ⟨c, q, m, ν2, ab', X, hq, hh, hat, p1, p2, p3, by rw [p4]⟩⟩
      · obtain ⟨ν, X, a, E, p1, p2, p3⟩ := ze_Mclosed_f (μ := μ) (D + 1) hr hk c h.2.1.1 rb h.2.2.1.1 sb
        exact ⟨ν, a, E, Or.inl ⟨c, X, p1, p2, by rw [p3]⟩⟩
    obtain ⟨ν, a, ⟨N2, E2⟩, q⟩ := key
    refine ⟨ν, nI a, ze_in [(0, .ref 232), (1, .int (nI k))] zq_Mod_close (Nat.le_of_ble_eq_true rfl) rfl ⟨N1 + N2, 9, fun F n hF => ?_⟩, Or.inr ⟨k, hk, rfl, c0, q⟩⟩
    simp [zg_0, zg_aload_n, zg_goto, zg_ifCond, zg_iload_n, zg_invokevirtual, zg_ireturn, zg_ldc, zf_X6_close, zi_ld, zi_lda, zi_cmp, zi_retOk, zi_isI, zi_f3, zi_cr, zi_ci, zi_cn, zi_get, zi_set, cM, zq_Mod_isWindow, zq_Mod_closed, E1 F (by omega), E2 F (by omega)]
  · refine ⟨μ, -1000000001, ze_in [(0, .ref 232), (1, .int w)] zq_Mod_close (Nat.le_of_ble_eq_true rfl) rfl ⟨N1, 6, fun F n hF => ?_⟩, Or.inl ⟨c0, rfl, rfl⟩⟩
    simp [zg_0, zg_aload_n, zg_goto, zg_ifCond, zg_iload_n, zg_invokevirtual, zg_ireturn, zg_ldc, zf_X6_close, zi_ld, zi_lda, zi_cmp, zi_retOk, zi_isI, zi_f3, zi_cr, zi_ci, zi_cn, zi_get, zi_set, cM, zq_Mod_isWindow, E1 F (by omega), n1]
end ZXO2
section ZXO3
variable {M N θ : zm_M}
theorem zW_close_e (h : zW M) (w : Int32) : zW_e M A_Desk_close A_Mod_close [.int w] := by
  obtain ⟨row, stkC, stk, ord, Rs, ts, us, h⟩ := h
  rcases zW_win h w with ⟨k, hk, rfl, ht, hk0⟩ | ⟨E, hno⟩
  · obtain ⟨N, s, n, hs, hn, E1, hJ, f⟩ := ze_close_v 58 h.1 hk ht
    have hm := zW_mid h (zW_cls hs f)
    obtain ⟨θ, r2, E2, g⟩ := ze_Mclose_v 51 (zK_R hm) (nI k)
    rcases g with ⟨g, -, -⟩ | ⟨k', hk', e, -, g⟩
    · exact absurd (g k hk rfl) ((zK_kind hm hk).2.2.mp ht)
    · have := (nI_eq (by omega) (by omega)).mp e
      subst this
      have g0 : zv_cls N θ row stk us k ∧ r2 = nI (zl_ct (zd_grp M k) 10) := by
        rcases g with ⟨a, X, b, c, d⟩ | ⟨a, s', m, ν2, ab', X, b1, b2, b3, b4, b5, b6, d⟩
        · refine ⟨Or.inl ⟨a, X, b, c⟩, ?_⟩
          rw [d, zl_ct_congr 10 (zK_gs hm hk (fun d _ => ⟨rfl, rfl⟩) c)]
        · refine ⟨Or.inr ⟨a, s', m, ν2, ab', X, b1, b2, b3, b4, b5, b6⟩, ?_⟩
          have f2 : ∀ c d, c ≠ 251 → ¬ zu_in s' c d → ν2 c d = N c d := fun c d r1 r2 => (b4.2.2.2.2 c d r2).trans (zv_fg_ne r1)
          rw [d, zl_ct_congr 10 (zK_gs hm hk (ν := ν2) (fun d _ => ⟨f2 _ _ (by decide) (zu_in_not (by decide)), f2 _ _ (by decide) (zu_in_not (by decide))⟩) b6)]
      obtain ⟨g0, rfl⟩ := g0
      obtain ⟨_, _, _, z⟩ := zK_cls hm hk hs hn hJ f g0
      obtain ⟨m, -, -, -, -, fr⟩ := zv_cls_all hm hk hs (fun c => (hn c).1) g0
      exact ⟨N, θ, _, E1, E2, zW_end z (fun c hc => funext fun d => fr c d (by omega) (by omega) (by omega) (by omega) (by omega) (fun _ => zu_in_not (by omega)))⟩
  · obtain ⟨θ, r2, E2, g⟩ := ze_Mclose_v 51 (zK_R h) w
    rcases g with ⟨-, rfl, rfl⟩ | ⟨k', hk', e, g, -⟩
    · exact ⟨θ, θ, _, ze_close_no 62 (E 62), E2, _, _, _, _, _, _, _, h⟩
    · exact absurd (hno k' hk' e) g
end ZXO3
