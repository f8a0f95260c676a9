/-! the desk: close, run -/
section ZCN
variable {μ ν : zm_M} {row stk : List Nat} {Rs : Nat → List Nat} {ts : Nat → zy_F}
/-- the window k and its dialogs -/
def zd_grp (μ : zm_M) (k : Nat) : Nat → Bool := zl_spn (zd_dl μ) (zd_ow μ) (fun j => decide (j = k)) 10
theorem zd_grp_k {k : Nat} : zd_grp μ k k = true := zl_spn_mono 10 k (decide_eq_true rfl)
theorem zd_grp_dl (h : zJ μ row stk Rs ts) {k j : Nat} (hj : j < 10) (hg : zd_grp μ k j = true) : j = k ∨ (zd_th μ j = true ∧ μ (zdW j) 3 = 3) := by
  rcases zl_spn_or 10 j hg with q | q
  · exact Or.inl (of_decide_eq_true q)
  · right
    obtain ⟨q1, ⟨q2, -⟩, -⟩ := of_decide_eq_true q
    have ht : zd_th μ j = true := decide_eq_true q1
    refine ⟨ht, ?_⟩
    by_cases c : μ (zdW j) 3 = 3
    · exact c
    · obtain ⟨-, -, -, -, a5⟩ := h.2.2.1 j hj ht
      rw [a5 c] at q2
      exact absurd (by decide) q2
theorem zd_grp_til (h : zJ μ row stk Rs ts) {k j : Nat} (hj : j < 10) (hg : zd_grp μ k j = true) (ht : zd_til μ j = true) : j = k := by
  rcases zd_grp_dl h hj hg with e | ⟨-, e⟩
  · exact e
  · have := (of_decide_eq_true ht).2
    rw [e] at this
    exact absurd this (by decide)
set_option maxRecDepth 100000 in
theorem ze_close_no (D : Nat) {w : Int32} (E : ze_E (D + 1) A_Desk_isWindow [.ref 1, .int w] (zm_mk μ) (some (.int 0)) (zm_mk μ)) : ze_E (D + 2) A_Desk_close [.ref 1, .int w] (zm_mk μ) (some (.int (-1000000001))) (zm_mk μ) := by
  have n4 : Int32.ofInt (-1000000001) = -1000000001 := by decide
  obtain ⟨N1, E1⟩ := E
  refine ze_in [(0, .ref 1), (1, .int w)] zq_Desk_close (Nat.le_of_ble_eq_true rfl) rfl ⟨N1, 6, fun F n hF => ?_⟩
  simp [zg_0, zg_aload_n, zg_baload, zg_bipush, zg_getfield, zg_goto, zg_iconst, zg_ifCond, zg_if_icmp, zg_iinc, zg_iload_n, zg_invokevirtual, zg_ireturn, zg_istore_n, zg_ldc, zf_X5_close, zi_ld, zi_lda, zi_cmp, zi_retOk, zi_isI, zi_f3, zi_cr, zi_ci, zi_cn, zi_get, zi_set, zq_Desk_isWindow, zd_c, E1 F (by omega), n4]
set_option maxRecDepth 100000 in
theorem ze_close (D : Nat) (h : zJ μ row stk Rs ts) {k : Nat} (hk : k < 10) (ht : zd_th μ k = true) : ∃ ν r s n, s < 3 ∧ (zd_til μ k = true → μ (zdW k) 5 = nI s ∧ n ∈ zy_lvs (ts s) ∧ k ∈ Rs s ∧ μ (zdT s + 3) k = nI n) ∧ ze_E (D + 6) A_Desk_close [.ref 1, .int (nI k)] (zm_mk μ) (some (.int r)) (zm_mk ν) ∧ zJ ν (row.filter (zd_left (zd_grp μ k) 10)) (stk.filter (zd_left (zd_grp μ k) 10)) (zd_clR μ Rs k s) (zd_clT μ Rs ts k s n) ∧ zd_cls μ ν row stk (zd_grp μ k) 10 k s n (Rs s) (ts s) := by
  have h10 : (Int8.ofInt 10).toInt32 = (10 : Int32) := by decide
  obtain ⟨N1, E1⟩ := ze_thW (μ := μ) (D + 4) hk
  rw [if_pos ht] at E1
  obtain ⟨ν0, ⟨N2, E2⟩, f0, g0'⟩ := ze_gatherWithDialogs (μ := μ) (D + 2) hk
  have g0' : zd_gr ν0 (zd_grp μ k) := g0'
  obtain ⟨s, n, hs, hsn⟩ : ∃ s n, s < 3 ∧ (zd_til μ k = true → μ (zdW k) 5 = nI s ∧ n ∈ zy_lvs (ts s) ∧ k ∈ Rs s ∧ μ (zdT s + 3) k = nI n) := by
    by_cases c : zd_til μ k = true
    · obtain ⟨s, hs, e, hR, n, hn, en⟩ := zJ_til h hk c
      exact ⟨s, n, hs, fun _ => ⟨e, hn, hR, en⟩⟩
    · exact ⟨0, 0, by decide, fun q => absurd q c⟩
  have hsn' : zd_til μ k = true → μ (zdW k) 5 = nI s ∧ zt_I μ (zdT s) (Rs s) (ts s) ∧ n ∈ zy_lvs (ts s) ∧ k ∈ Rs s ∧ μ (zdT s + 3) k = nI n := fun q => ⟨(hsn q).1, (h.2.2.2.1 s hs).1.1, (hsn q).2⟩
  have hl0 : zd_left (zd_grp μ k) 0 = fun _ => true := by
    funext j
    unfold zd_left
    simp
  have hrl : ∀ l : List Nat, l.filter (fun _ => true) = l := fun l => List.filter_eq_self.mpr (fun _ _ => rfl)
  have hc0 : zd_cls μ ν0 row stk (zd_grp μ k) 0 k s n (Rs s) (ts s) := by
    unfold zd_cls
    rw [hl0, hrl, hrl]
    refine ⟨⟨zr_L_congr (f0 _ (by decide)) (f0 _ (by decide)) h.1.1, zr_L_congr (f0 _ (by decide)) (f0 _ (by decide)) h.2.1.1⟩, fun j hj => ?_, fun q hq => ?_, fun _ q => absurd q (by omega), g0', fun c b _ _ _ _ c31 _ _ _ => by rw [f0 c c31]⟩
    · rw [if_pos rfl, f0 _ (by unfold zdW; omega)]
    · rw [f0 _ (by unfold zdK; omega)]
      rfl
  have hrb : ∀ j ∈ row, j < 10 := fun j hj => ((h.1.2.2 j).mp hj).1
  have key : ∃ r h', ze_G (D + 5) 4 (some .int) zc_X5_close 20 [(3, .int (nI 0)), (2, .int 0), (0, .ref 1), (1, .int (nI k))] [] (zm_mk ν0) r h' ∧ ((∃ v, r = some (.int v)) ∧ ∃ ν, zm_mk ν = h' ∧ zd_cls μ ν row stk (zd_grp μ k) 10 k s n (Rs s) (ts s)) := by
    refine ze_loop (Q := fun i L hp => i ≤ 10 ∧ zi_nl L = true ∧ zi_get L 0 = some (.ref 1) ∧ zi_get L 3 = some (.int (nI i)) ∧ ∃ ξ : zm_M, zm_mk ξ = hp ∧ (zd_cls μ ξ row stk (zd_grp μ k) i k s n (Rs s) (ts s)) ∧ ∃ (v : Int32), zi_get L 2 = some (.int v) ∧ (True)) (R := fun r h' => (∃ v, r = some (.int v)) ∧ ∃ ν, zm_mk ν = h' ∧ zd_cls μ ν row stk (zd_grp μ k) 10 k s n (Rs s) (ts s)) 10 ?_ ?_ 10 0 _ _ (by omega) ⟨by omega, rfl, rfl, rfl, ν0, rfl, hc0, 0, rfl, trivial⟩
    · rintro i L _ hi ⟨-, nl, g0, g3, ξ, rfl, hZ, v, g2, hq⟩
      have c1 : ¬ (10 : Int32) ≤ nI i := nI_ge (b := 10) hi (by decide)
      have i1 : zi_in (nI i) 10 = true := zm_in hi (by decide)
      have e1 : (nI i).toNatClampNeg = i := nI_clamp (by omega)
      have hgi := hZ.2.2.2.2.1 i hi
      by_cases c2 : zd_grp μ k i = true
      · rw [if_pos c2] at hgi
        obtain ⟨ξ', ⟨M1, F1⟩, hZ'⟩ := zd_cls_s D hi hs c2 (fun q1 q2 => zd_grp_til h hi q1 q2) h.1.2.1 h.2.1.2.1 hrb h.2.1.2.2 hsn' hZ
        left
        refine ⟨zi_set (zi_set L 2 (.int (v + 1))) 3 (.int (nI (i + 1))), zm_mk ξ', ⟨M1, 14, fun F m hF => ?_⟩, by omega, ?_, ?_, zi_get_set_eq, ξ', rfl, hZ', v + 1, ?_, trivial⟩
        · simp (maxDischargeDepth := 9) [zg_0, zg_aload_n, zg_baload, zg_bipush, zg_getfield, zg_goto, zg_iconst, zg_ifCond, zg_if_icmp, zg_iinc, zg_iload_n, zg_invokevirtual, zg_ireturn, zg_istore_n, zg_ldc, zf_X5_close, zi_ld, zi_lda, zi_cmp, zi_retOk, zi_isI, zi_f3, zi_cr, zi_ci, zi_cn, zi_get_ne, zi_nl_i, zi_nl_r, zi_get_set_eq, nl, g0, g3, g2, h10, c1, zd_g, zm_bald zd31_A i1, e1, hgi, zq_Desk_end, zd_c, F1 F (by omega), nI_1]
        · simp (maxDischargeDepth := 9) [zi_get_ne, zi_nl_i, zi_nl_r, zi_get_set_eq, nl]
        · simp (maxDischargeDepth := 9) [zi_get_ne, zi_nl_i, zi_nl_r, zi_get_set_eq, nl, g0]
        · simp (maxDischargeDepth := 9) [zi_get_ne, zi_nl_i, zi_nl_r, zi_get_set_eq, nl, g2]
      · rw [if_neg c2] at hgi
        have M1 : Nat := 0
        have c2' : zd_grp μ k i = false := by simpa using c2
        have hZ' : zd_cls μ ξ row stk (zd_grp μ k) (i + 1) k s n (Rs s) (ts s) := by
          obtain ⟨z1, z2, z3, z4, z5, z6⟩ := hZ
          have hki : i ≠ k := fun e => by rw [e, zd_grp_k] at c2'; cases c2'
          unfold zd_cls
          rw [zd_left_n c2']
          refine ⟨z1, z2, fun q hq => ?_, fun q1 q2 => z4 q1 (by omega), z5, fun c b a1 a2 a3 a4 a5 a6 a7 a8 => z6 c b a1 a2 a3 a4 a5 a6 a7 (fun q1 q2 => a8 q1 (by omega))⟩
          rw [zd_hasg_s, c2', Bool.false_and, Bool.or_false]
          exact z3 q hq
        left
        refine ⟨zi_set L 3 (.int (nI (i + 1))), zm_mk ξ, ⟨M1, 10, fun F m hF => ?_⟩, by omega, ?_, ?_, zi_get_set_eq, ξ, rfl, hZ', v, ?_, trivial⟩
        · simp (maxDischargeDepth := 9) [zg_0, zg_aload_n, zg_baload, zg_bipush, zg_getfield, zg_goto, zg_iconst, zg_ifCond, zg_if_icmp, zg_iinc, zg_iload_n, zg_invokevirtual, zg_ireturn, zg_istore_n, zg_ldc, zf_X5_close, zi_ld, zi_lda, zi_cmp, zi_retOk, zi_isI, zi_f3, zi_cr, zi_ci, zi_cn, zi_get_ne, zi_nl_i, zi_nl_r, zi_get_set_eq, nl, g0, g3, g2, h10, c1, zd_g, zm_bald zd31_A i1, e1, hgi, nI_1]
        · simp (maxDischargeDepth := 9) [zi_get_ne, zi_nl_i, zi_nl_r, zi_get_set_eq, nl]
        · simp (maxDischargeDepth := 9) [zi_get_ne, zi_nl_i, zi_nl_r, zi_get_set_eq, nl, g0]
        · simp (maxDischargeDepth := 9) [zi_get_ne, zi_nl_i, zi_nl_r, zi_get_set_eq, nl, g2]
    · rintro L _ ⟨-, nl, g0, g3, ξ, rfl, hZ, v, g2, hq⟩
      have c1 : (10 : Int32) ≤ nI 10 := by decide
      refine ⟨some (.int v), zm_mk ξ, ⟨0, 5, fun F m hF => ?_⟩, ⟨v, rfl⟩, ξ, rfl, hZ⟩
      simp [zg_0, zg_aload_n, zg_baload, zg_bipush, zg_getfield, zg_goto, zg_iconst, zg_ifCond, zg_if_icmp, zg_iinc, zg_iload_n, zg_invokevirtual, zg_ireturn, zg_istore_n, zg_ldc, zf_X5_close, zi_ld, zi_lda, zi_cmp, zi_retOk, zi_isI, zi_f3, zi_cr, zi_ci, zi_cn, g0, g2, g3, h10, c1]
  obtain ⟨r, h', G, ⟨v, rfl⟩, ν, rfl, hZ⟩ := key
  refine ⟨ν, v, s, n, hs, hsn, ze_in [(0, .ref 1), (1, .int (nI k))] zq_Desk_close (Nat.le_of_ble_eq_true rfl) rfl (ze_S.end (p2 := 20) (L2 := [(3, .int (nI 0)), (2, .int 0), (0, .ref 1), (1, .int (nI k))]) (s2 := []) (h2 := zm_mk ν0) ⟨N1 + N2, 11, fun F m hF => ?_⟩ G), ?_, hZ⟩
  · simp [zg_0, zg_aload_n, zg_baload, zg_bipush, zg_getfield, zg_goto, zg_iconst, zg_ifCond, zg_if_icmp, zg_iinc, zg_iload_n, zg_invokevirtual, zg_ireturn, zg_istore_n, zg_ldc, zf_X5_close, zi_ld, zi_lda, zi_cmp, zi_retOk, zi_isI, zi_f3, zi_cr, zi_ci, zi_cn, zi_get, zi_set, zq_Desk_isWindow, zd_c, E1 F (by omega), zq_Desk_gatherWithDialogs, E2 F (by omega), nI_0]
  · exact zJ_cls h hk hs zd_grp_k (fun j hj q1 q2 => zd_grp_til h hj q1 q2) (zl_spn_cl hk (decide_eq_true rfl)) hsn hZ
end ZCN
