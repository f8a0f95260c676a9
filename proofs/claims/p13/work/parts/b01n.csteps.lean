/-! steps: the class's road -/
section ZBC
variable {μ ν : zm_M} {row stk : List Nat} {Rs : Nat → List Nat} {ts : Nat → zy_F}
/-- whoever a neighbour is, it is shown -/
theorem zd_ngb_shn (h : zJ μ row stk Rs ts) {s k sd : Nat} (hs : s < 3) : zd_ngb μ s k sd = -1000000005 ∨ ∃ i, i < 10 ∧ zd_ngb μ s k sd = nI i ∧ zd_shn μ s i := by
  unfold zd_ngb
  rcases zl_nb_or (zt_nf μ (zdT s) k sd) (List.range 10) (-1000000005) 0 with e | ⟨i, hi, e, hp⟩
  · exact Or.inl e
  · have hi := List.mem_range.mp hi
    refine Or.inr ⟨i, hi, e, ?_⟩
    unfold zt_nf at hp
    by_cases c : (¬ μ (zdT s + 3) i < 0 ∧ μ (zdT s + 12) (μ (zdT s + 3) i).toNatClampNeg = nI i) ∧ zt_me μ (zdT s) k i sd = true
    · obtain ⟨⟨c1, c2⟩, -⟩ := c
      obtain ⟨hC, mR, -⟩ := h.2.2.2.1 s hs
      have hiR : i ∈ Rs s := by
        by_cases q : i ∈ Rs s
        · exact q
        · rw [hC.1.2.2.2.2.1 i hi q] at c1
          exact absurd (by decide) c1
      obtain ⟨-, a, b⟩ := (mR i).mp hiR
      exact ⟨a, b, c2⟩
    · rw [if_neg c] at hp
      exact absurd hp (by decide)
/-- the neighbours of the windows of s, as they are laid in ν -/
def zx_G (ν : zm_M) (s k sd x : Nat) : Prop := x < 10 ∧ zd_ngb ν s k sd = nI x
/-- but for the rows that steps uses, ξ is ν -/
def zx_34 (ν ξ : zm_M) : Prop := ∀ c, c ≠ 33 → c ≠ 34 → c ≠ 35 → ξ c = ν c
theorem zx_34_ngb {ξ : zm_M} {s k sd : Nat} (hs : s < 3) (e : zx_34 ν ξ) : zd_ngb ξ s k sd = zd_ngb ν s k sd := by
  have e3 : ∀ j, ξ (zdT s + j) = ν (zdT s + j) := fun j => e _ (by unfold zdT; omega) (by unfold zdT; omega) (by unfold zdT; omega)
  have eso : ∀ a i, zt_so ξ (zdT s) a i = zt_so ν (zdT s) a i := fun a i => by
    unfold zt_so
    rw [e3 3, show ξ (zdT s + 19 + a) = ν (zdT s + 19 + a) by rw [Nat.add_assoc]; exact e3 (19 + a)]
  have elo : ∀ a i, zt_lo ξ (zdT s) a i = zt_lo ν (zdT s) a i := fun a i => by
    unfold zt_lo
    rw [e3 3, show ξ (zdT s + 22 + a) = ν (zdT s + 22 + a) by rw [Nat.add_assoc]; exact e3 (22 + a)]
  have f : zt_nf ξ (zdT s) k sd = zt_nf ν (zdT s) k sd := funext fun i => by
    unfold zt_nf zt_me zt_cb
    rw [e3 3, e3 12]
    simp only [eso, elo]
  unfold zd_ngb
  rw [f]
/-- the windows reached: where they stand in the row, and how far they are -/
def zx_rch (ν ξ : zm_M) (s a : Nat) (l : List Nat) (i sd B : Nat) : Prop := zx_34 ν ξ ∧ zr_L ξ 34 l ∧ zb_S (zx_G ν s) a l i sd ∧ (∀ j ∈ l, j < 10 ∧ zd_shn ν s j ∧ ∃ d, d ≤ B ∧ zb_d (zx_G ν s) a d j ∧ ξ 33 j = nI d) ∧ ∀ j, j < 10 → j ∉ l → ξ 33 j = -1
set_option maxRecDepth 100000 in
theorem ze_reachFrom_v (D : Nat) (h : zJ ν row stk Rs ts) {ξ0 : zm_M} {s a i0 B : Nat} {l : List Nat} (hs : s < 3) (hB : B < 100) (hi0 : i0 < l.length) (hr : zx_rch ν ξ0 s a l i0 0 B) : ∃ ξ' l', ze_E (D + 6) A_Desk_reachFrom [.ref 1, .int (nI (l.getD i0 0))] (zm_mk ξ0) none (zm_mk ξ') ∧ zx_rch ν ξ' s a l' i0 4 (B + 1) ∧ i0 < l'.length := by
  have hk := zl_mem hi0
  obtain ⟨hk10, hksh, dk, hdk, hdd, edk⟩ := hr.2.2.2.1 _ hk
  generalize ek : l.getD i0 0 = k at hk hk10 hksh hdd edk
  have es := hksh.2.1
  have key : ∃ r h', ze_G (D + 5) 4 none zc_X5_reachFrom 2 [(2, .int (nI 0)), (0, .ref 1), (1, .int (nI k))] [] (zm_mk ξ0) r h' ∧ (r = none ∧ ∃ ξ', zm_mk ξ' = h' ∧ ∃ l', zx_rch ν ξ' s a l' i0 4 (B + 1) ∧ i0 < l'.length) := by
    refine ze_loop (Q := fun i L hp => i ≤ 4 ∧ zi_nl L = true ∧ zi_get L 0 = some (.ref 1) ∧ zi_get L 1 = some (.int (nI k)) ∧ zi_get L 2 = some (.int (nI i)) ∧ ∃ ξ : zm_M, zm_mk ξ = hp ∧ (∃ l1, zx_rch ν ξ s a l1 i0 i (B + 1) ∧ i0 < l1.length ∧ l1.getD i0 0 = k) ∧ (True)) (R := fun r h' => r = none ∧ ∃ ξ', zm_mk ξ' = h' ∧ ∃ l', zx_rch ν ξ' s a l' i0 4 (B + 1) ∧ i0 < l'.length) 4 ?_ ?_ 4 0 _ _ (by omega) ⟨by omega, rfl, rfl, rfl, rfl, ξ0, rfl, ⟨l, ⟨hr.1, hr.2.1, hr.2.2.1, fun j hj => ⟨(hr.2.2.2.1 j hj).1, (hr.2.2.2.1 j hj).2.1, (hr.2.2.2.1 j hj).2.2.imp (fun d q => ⟨by omega, q.2⟩)⟩, hr.2.2.2.2⟩, hi0, ek⟩, trivial⟩
    · rintro i L _ hi ⟨-, nl, g0, g1, g2, ξ, rfl, hZ, hq⟩
      obtain ⟨l1, ⟨q1, q2, q3, q4, q5⟩, hil, ek1⟩ := hZ
      have c1 : ¬ (4 : Int32) ≤ nI i := nI_ge (b := 4) hi (by decide)
      have eJ : zJ_eqv ν ξ := fun c hc => q1 c (fun e => hc (by rw [e]; unfold zJ_irr; omega)) (fun e => hc (by rw [e]; unfold zJ_irr; omega)) (fun e => hc (by rw [e]; unfold zJ_irr; omega))
      have hJ := h.eqv eJ
      obtain ⟨N1, E1⟩ := ze_treeOf (μ := ξ) (D + 4) hk10 hs (by rw [eJ _ (zJn_W hk10).1]; exact es)
      obtain ⟨N2, E2⟩ := ze_Tree_neighbourTo (μ := ξ) D (zdT_at hs) (zt_I_hm (hJ.2.2.2.1 s hs).1.1) hk10 hi
      have hor := zd_ngb_shn h (s := s) (k := k) (sd := i) hs
      obtain ⟨lt, ct⟩ := zt_c (μ := ξ) (zdT_at hs)
      have E2 : ∀ F, N2 ≤ F → zi_run zi_ms F (D + 5) A_Tree_neighbourTo [.ref (zdT s + 1), .int (nI k), .int (nI i)] (zm_mk ξ) [] = some [([], some (.int (zd_ngb ν s k i)), zm_mk ξ)] := by
        rw [← zx_34_ngb hs q1]
        exact E2
      obtain ⟨hkm, hksh', d1, hd1, hdd1, e33k⟩ := q4 k (by rw [← ek1]; exact zl_mem hil)
      have ed : d1 = dk := zb_d_uq hdd1 hdd
      subst ed
      generalize hv : zd_ngb ν s k i = v at E2 hor
      rcases hor with rfl | ⟨o, ho, rfl, hosh⟩
      · obtain ⟨N3, E3⟩ := ze_isWindow_out (μ := ξ) (D + 4) (x := -1000000005) (Or.inl (by decide))
        have N4 : Nat := 0
        have hno : zb_S (zx_G ν s) a l1 i0 (i + 1) := zb_S_no q3 (fun y hy => by
          rw [ek1] at hy
          have := hy.2
          rw [hv] at this
          exact absurd (by rw [← this]; decide) (nI_pos (n := y) (by have := hy.1; omega)))
        left
        refine ⟨zi_set (zi_set L 3 (.int (-1000000005))) 2 (.int (nI (i + 1))), zm_mk ξ, ⟨N1 + N2 + N3 + N4, 16, fun F m hF => ?_⟩, by omega, ?_, ?_, ?_, zi_get_set_eq, ξ, rfl, ⟨l1, ⟨q1, q2, hno, q4, q5⟩, hil, ek1⟩, trivial⟩
        · simp (maxDischargeDepth := 9) [zi_go, zf_X5_reachFrom, zi_ask, zi_new, zi_step, zi_ld, zi_lda, zi_cmp, zi_retOk, zi_isI, zi_f3, zi_cr, zi_ci, zi_cn, zi_get_ne, zi_nl_i, zi_nl_r, zi_get_set_eq, nl, g0, g1, g2, c1, zq_Desk_treeOf, zd_c, E1 F (by omega), zq_Tree_neighbourTo, ct, E2 F (by omega), zq_Desk_isWindow, E3 F (by omega), nI_1]
        · simp (maxDischargeDepth := 9) [zi_get_ne, zi_nl_i, zi_nl_r, zi_get_set_eq, nl]
        · simp (maxDischargeDepth := 9) [zi_get_ne, zi_nl_i, zi_nl_r, zi_get_set_eq, nl, g0]
        · simp (maxDischargeDepth := 9) [zi_get_ne, zi_nl_i, zi_nl_r, zi_get_set_eq, nl, g1]
      · have hoth : zd_th ξ o = true := by
          have := (of_decide_eq_true hosh.1).1
          refine decide_eq_true ?_
          rw [eJ _ (zJn_W ho).1]
          exact this
        have hG : zx_G ν s k i o := ⟨ho, hv⟩
        have hGu : ∀ y, zx_G ν s k i y → y = o := fun y hy => (nI_eq (by have := hy.1; omega) (by omega)).mp (hy.2.symm.trans hv)
        obtain ⟨N3, E3⟩ := ze_thW (μ := ξ) (D + 4) ho
        rw [if_pos hoth] at E3
        have io : zi_in (nI o) 10 = true := zm_in ho (by decide)
        have co : (nI o).toNatClampNeg = o := nI_clamp (by omega)
        have ik : zi_in (nI k) 10 = true := zm_in hk10 (by decide)
        have ck : (nI k).toNatClampNeg = k := nI_clamp (by omega)
        by_cases c2 : (0 : Int32) ≤ ξ 33 o
        · have N4 : Nat := 0
          have hol : o ∈ l1 := by
            by_cases q : o ∈ l1
            · exact q
            · rw [q5 o ho q] at c2
              exact absurd c2 (by decide)
          have hno : zb_S (zx_G ν s) a l1 i0 (i + 1) := zb_S_no q3 (fun y hy => by
            rw [ek1] at hy
            rw [hGu y hy]
            exact hol)
          left
          refine ⟨zi_set (zi_set L 3 (.int (nI o))) 2 (.int (nI (i + 1))), zm_mk ξ, ⟨N1 + N2 + N3 + N4, 21, fun F m hF => ?_⟩, by omega, ?_, ?_, ?_, zi_get_set_eq, ξ, rfl, ⟨l1, ⟨q1, q2, hno, q4, q5⟩, hil, ek1⟩, trivial⟩
          · simp (maxDischargeDepth := 9) [zi_go, zf_X5_reachFrom, zi_ask, zi_new, zi_step, zi_ld, zi_lda, zi_cmp, zi_retOk, zi_isI, zi_f3, zi_cr, zi_ci, zi_cn, zi_get_ne, zi_nl_i, zi_nl_r, zi_get_set_eq, nl, g0, g1, g2, c1, zq_Desk_treeOf, zd_c, E1 F (by omega), zq_Tree_neighbourTo, ct, E2 F (by omega), zq_Desk_isWindow, E3 F (by omega), zd_g, zm_iald (k := 0) zd33_A io, co, c2, nI_1]
          · simp (maxDischargeDepth := 9) [zi_get_ne, zi_nl_i, zi_nl_r, zi_get_set_eq, nl]
          · simp (maxDischargeDepth := 9) [zi_get_ne, zi_nl_i, zi_nl_r, zi_get_set_eq, nl, g0]
          · simp (maxDischargeDepth := 9) [zi_get_ne, zi_nl_i, zi_nl_r, zi_get_set_eq, nl, g1]
        · have hol : o ∉ l1 := fun hm => by
            obtain ⟨-, -, d, hd, -, e⟩ := q4 o hm
            rw [e] at c2
            exact c2 (nI_pos' (by omega))
          have hok : o ≠ k := fun e => by
            rw [e, e33k] at c2
            exact c2 (nI_pos' (by omega))
          obtain ⟨hdo, hS'⟩ := zb_S_new q3 hil (by rw [ek1]; exact hdd) hi (by rw [ek1]; exact hG) (fun y hy => hGu y (by rw [← ek1]; exact hy)) hol
          let ξ1 := zm_up ξ 33 o (nI (d1 + 1))
          have r1 : ∀ c, c ≠ 33 → ξ1 c = ξ c := fun c hc => zm_up_row hc
          have hL1 : zr_L ξ1 34 l1 := zr_L_congr (r1 _ (by decide)) (r1 _ (by decide)) q2
          have hlen : l1.length < 10 := by
            have := zy_nodup_le 10 (o :: l1) (List.nodup_cons.mpr ⟨hol, q3.1⟩) (fun x hx => by
              rcases List.mem_cons.mp hx with rfl | hx
              · exact ho
              · exact (q4 x hx).1)
            rw [List.length_cons] at this
            omega
          obtain ⟨ξ2, ⟨N4, E4⟩, l2, f2⟩ := ze_Row_append (μ := ξ1) (D + 4) zd34_at hL1 hlen o
          have e2 : ∀ c, c ≠ 33 → c ≠ 34 → c ≠ 35 → ξ2 c = ξ c := fun c a1 a2 a3 => (funext fun b => f2 c b a2 a3).trans (r1 c a1)
          have e33 : ∀ j, ξ2 33 j = if j = o then nI (d1 + 1) else ξ 33 j := fun j => by
            rw [f2 33 j (by decide) (by decide)]
            show zm_up _ _ _ _ _ _ = _
            rw [zm_up_pt]
          have hZ' : zx_rch ν ξ2 s a (l1 ++ [o]) i0 (i + 1) (B + 1) := by
            refine ⟨fun c a1 a2 a3 => (e2 c a1 a2 a3).trans (q1 c a1 a2 a3), l2, hS', fun j hj => ?_, fun j hj hjn => ?_⟩
            · rcases List.mem_append.mp hj with hj | hj
              · obtain ⟨a1, a2, d, a3, a4, a5⟩ := q4 j hj
                exact ⟨a1, a2, d, a3, a4, by rw [e33, if_neg (fun (e : j = o) => hol (e ▸ hj))]; exact a5⟩
              · have : j = o := by simpa using hj
                subst this
                exact ⟨ho, hosh, d1 + 1, by omega, hdo, by rw [e33, if_pos rfl]⟩
            · rw [e33, if_neg (fun (e : j = o) => hjn (by rw [e]; exact List.mem_append_right _ (List.mem_singleton.mpr rfl)))]
              exact q5 j hj (fun q => hjn (List.mem_append_left _ q))
          have hil' : i0 < (l1 ++ [o]).length := by rw [List.length_append]; omega
          have ek2 : (l1 ++ [o]).getD i0 0 = k := (zl_getD_a hil).trans ek1
          have m1 : zm_up ξ 33 o (nI (d1 + 1)) = ξ1 := rfl
          have cr := zr_c (μ := ξ1) zd34_at
          left
          refine ⟨zi_set (zi_set L 3 (.int (nI o))) 2 (.int (nI (i + 1))), zm_mk ξ2, ⟨N1 + N2 + N3 + N4, 35, fun F m hF => ?_⟩, by omega, ?_, ?_, ?_, zi_get_set_eq, ξ2, rfl, ⟨l1 ++ [o], hZ', hil', ek2⟩, trivial⟩
          · simp (maxDischargeDepth := 9) [zi_go, zf_X5_reachFrom, zi_ask, zi_new, zi_step, zi_ld, zi_lda, zi_cmp, zi_retOk, zi_isI, zi_f3, zi_cr, zi_ci, zi_cn, zi_get_ne, zi_nl_i, zi_nl_r, zi_get_set_eq, nl, g0, g1, g2, c1, zq_Desk_treeOf, zd_c, E1 F (by omega), zq_Tree_neighbourTo, ct, E2 F (by omega), zq_Desk_isWindow, E3 F (by omega), zd_g, zm_iald (k := 0) zd33_A io, zm_iald (k := 0) zd33_A ik, co, ck, c2, e33k, zm_iast zd33_A io, m1, zq_Row_append, cr, E4 F (by omega), nI_1]
          · simp (maxDischargeDepth := 9) [zi_get_ne, zi_nl_i, zi_nl_r, zi_get_set_eq, nl]
          · simp (maxDischargeDepth := 9) [zi_get_ne, zi_nl_i, zi_nl_r, zi_get_set_eq, nl, g0]
          · simp (maxDischargeDepth := 9) [zi_get_ne, zi_nl_i, zi_nl_r, zi_get_set_eq, nl, g1]
    · rintro L _ ⟨-, nl, g0, g1, g2, ξ, rfl, hZ, hq⟩
      have c1 : (4 : Int32) ≤ nI 4 := by decide
      obtain ⟨l1, z1, z2, -⟩ := hZ
      refine ⟨none, zm_mk ξ, ⟨0, 4, fun F m hF => ?_⟩, rfl, ξ, rfl, l1, z1, z2⟩
      simp [zi_go, zf_X5_reachFrom, zi_ask, zi_new, zi_step, zi_ld, zi_lda, zi_cmp, zi_retOk, zi_isI, zi_f3, zi_cr, zi_ci, zi_cn, g0, g2, c1]
  obtain ⟨r, h', G, rfl, ξ', rfl, l', hZ, hil⟩ := key
  refine ⟨ξ', l', ze_in [(0, .ref 1), (1, .int (nI k))] zq_Desk_reachFrom (Nat.le_of_ble_eq_true rfl) rfl (ze_S.end ⟨0, 2, fun F m hF => ?_⟩ G), hZ, hil⟩
  simp [zi_go, zf_X5_reachFrom, zi_ask, zi_new, zi_step, zi_ld, zi_lda, zi_cmp, zi_retOk, zi_isI, zi_f3, zi_cr, zi_ci, zi_cn, zi_get, zi_set, nI_0]
end ZBC
