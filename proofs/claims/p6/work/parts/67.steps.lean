/-! the desk: steps -/
section ZQ9
variable {μ ν : zm_M} {row stk : List Nat} {Rs : Nat → List Nat} {ts : Nat → zy_F}
/-- windows reached, each once, at B steps at most -/
def zd_rch (μ ν : zm_M) (l : List Nat) (B : Nat) : Prop := zJ_eqv μ ν ∧ zr_L ν 34 l ∧ l.Nodup ∧ ∀ j ∈ l, j < 10 ∧ zd_til μ j = true ∧ ∃ d, d ≤ B ∧ ν 33 j = nI d
set_option maxRecDepth 100000 in
theorem ze_reachFrom (D : Nat) (h : zJ μ row stk Rs ts) {l : List Nat} {B k : Nat} (hB : B < 100) (hk : k ∈ l) (hr : zd_rch μ ν l B) : ∃ ν' l', ze_E (D + 6) A_Desk_reachFrom [.ref 1, .int (nI k)] (zm_mk ν) none (zm_mk ν') ∧ zd_rch μ ν' l' (B + 1) ∧ ∀ j ∈ l, j ∈ l' := by
  obtain ⟨r1, r2, r3, r4⟩ := hr
  obtain ⟨hk10, hkt, dk, hdk, edk⟩ := r4 k hk
  obtain ⟨s, hs, es, -, -⟩ := zJ_til h hk10 hkt
  have key : ∃ r h', ze_G (D + 5) 4 none zc_X5_reachFrom 2 [(2, .int (nI 0)), (0, .ref 1), (1, .int (nI k))] [] (zm_mk ν) r h' ∧ (r = none ∧ ∃ ν', zm_mk ν' = h' ∧ ∃ l', zd_rch μ ν' l' (B + 1) ∧ ν' 33 k = nI dk ∧ ∀ j ∈ l, j ∈ l') := by
    refine ze_loop (Q := fun i L hp => i ≤ 4 ∧ zi_nl L = true ∧ zi_get L 0 = some (.ref 1) ∧ zi_get L 1 = some (.int (nI k)) ∧ zi_get L 2 = some (.int (nI i)) ∧ ∃ ξ : zm_M, zm_mk ξ = hp ∧ (∃ l1, zd_rch μ ξ l1 (B + 1) ∧ ξ 33 k = nI dk ∧ ∀ j ∈ l, j ∈ l1) ∧ (True)) (R := fun r h' => r = none ∧ ∃ ν', zm_mk ν' = h' ∧ ∃ l', zd_rch μ ν' l' (B + 1) ∧ ν' 33 k = nI dk ∧ ∀ j ∈ l, j ∈ l') 4 ?_ ?_ 4 0 _ _ (by omega) ⟨by omega, rfl, rfl, rfl, rfl, ν, rfl, ⟨l, ⟨r1, r2, r3, fun j hj => ⟨(r4 j hj).1, (r4 j hj).2.1, (r4 j hj).2.2.imp (fun d q => ⟨by omega, q.2⟩)⟩⟩, edk, fun j hj => hj⟩, trivial⟩
    · rintro i L _ hi ⟨-, nl, g0, g1, g2, ξ, rfl, hZ, hq⟩
      obtain ⟨l1, ⟨q1, q2, q3, q4⟩, q5, q6⟩ := hZ
      have c1 : ¬ (4 : Int32) ≤ nI i := nI_ge (b := 4) hi (by decide)
      have hJ := h.eqv q1
      obtain ⟨N1, E1⟩ := ze_treeOf (μ := ξ) (D + 4) hk10 hs (by rw [q1 _ (zJn_W hk10).1]; exact es)
      obtain ⟨N2, E2⟩ := ze_Tree_neighbourTo (μ := ξ) D (zdT_at hs) (zt_I_hm (hJ.2.2.2.1 s hs).1.1) hk10 hi
      have hor := zd_ngb_or hJ (s := s) (k := k) (sd := i) hs
      obtain ⟨lt, ct⟩ := zt_c (μ := ξ) (zdT_at hs)
      have E2 : ∀ F, N2 ≤ F → zi_run zi_ms F (D + 5) A_Tree_neighbourTo [.ref (zdT s + 1), .int (nI k), .int (nI i)] (zm_mk ξ) [] = some [([], some (.int (zd_ngb ξ s k i)), zm_mk ξ)] := E2
      generalize zd_ngb ξ s k i = v at E2 hor
      rcases hor with rfl | ⟨o, ho, rfl, hot, -⟩
      · obtain ⟨N3, E3⟩ := ze_isWindow_out (μ := ξ) (D + 4) (x := -1000000005) (Or.inl (by decide))
        have N4 : Nat := 0
        left
        refine ⟨zi_set (zi_set L 3 (.int (-1000000005))) 2 (.int (nI (i + 1))), zm_mk ξ, ⟨N1 + N2 + N3 + N4, 16, fun F m hF => ?_⟩, by omega, ?_, ?_, ?_, zi_get_set_eq, ξ, rfl, ⟨l1, ⟨q1, q2, q3, q4⟩, q5, q6⟩, trivial⟩
        · simp (maxDischargeDepth := 9) [zg_0, zg_aload_n, zg_getfield, zg_goto, zg_iadd, zg_iaload, zg_iastore, zg_iconst, zg_ifCond, zg_if_icmp, zg_iinc, zg_iload_n, zg_invokevirtual, zg_istore_n, zg_return, zf_X5_reachFrom, zi_ld, zi_lda, zi_cmp, zi_retOk, zi_isI, zi_f3, zi_cr, zi_ci, zi_cn, zi_get_ne, zi_nl_i, zi_nl_r, zi_get_set_eq, nl, g0, g1, g2, c1, zq_Desk_treeOf, zd_c, E1 F (by omega), zq_Tree_neighbourTo, ct, E2 F (by omega), zq_Desk_isWindow, E3 F (by omega), nI_1]
        · simp (maxDischargeDepth := 9) [zi_get_ne, zi_nl_i, zi_nl_r, zi_get_set_eq, nl]
        · simp (maxDischargeDepth := 9) [zi_get_ne, zi_nl_i, zi_nl_r, zi_get_set_eq, nl, g0]
        · simp (maxDischargeDepth := 9) [zi_get_ne, zi_nl_i, zi_nl_r, zi_get_set_eq, nl, g1]
      · have hth : zd_th ξ o = true := decide_eq_true (of_decide_eq_true hot).1
        obtain ⟨N3, E3⟩ := ze_thW (μ := ξ) (D + 4) ho
        rw [if_pos hth] at E3
        have io : zi_in (nI o) 10 = true := zm_in ho (by decide)
        have co : (nI o).toNatClampNeg = o := nI_clamp (by omega)
        have ik : zi_in (nI k) 10 = true := zm_in hk10 (by decide)
        have ck : (nI k).toNatClampNeg = k := nI_clamp (by omega)
        by_cases c2 : (0 : Int32) ≤ ξ 33 o
        · have N4 : Nat := 0
          left
          refine ⟨zi_set (zi_set L 3 (.int (nI o))) 2 (.int (nI (i + 1))), zm_mk ξ, ⟨N1 + N2 + N3 + N4, 21, fun F m hF => ?_⟩, by omega, ?_, ?_, ?_, zi_get_set_eq, ξ, rfl, ⟨l1, ⟨q1, q2, q3, q4⟩, q5, q6⟩, trivial⟩
          · simp (maxDischargeDepth := 9) [zg_0, zg_aload_n, zg_getfield, zg_goto, zg_iadd, zg_iaload, zg_iastore, zg_iconst, zg_ifCond, zg_if_icmp, zg_iinc, zg_iload_n, zg_invokevirtual, zg_istore_n, zg_return, zf_X5_reachFrom, zi_ld, zi_lda, zi_cmp, zi_retOk, zi_isI, zi_f3, zi_cr, zi_ci, zi_cn, zi_get_ne, zi_nl_i, zi_nl_r, zi_get_set_eq, nl, g0, g1, g2, c1, zq_Desk_treeOf, zd_c, E1 F (by omega), zq_Tree_neighbourTo, ct, E2 F (by omega), zq_Desk_isWindow, E3 F (by omega), zd_g, zm_iald (k := 0) zd33_A io, co, c2, nI_1]
          · simp (maxDischargeDepth := 9) [zi_get_ne, zi_nl_i, zi_nl_r, zi_get_set_eq, nl]
          · simp (maxDischargeDepth := 9) [zi_get_ne, zi_nl_i, zi_nl_r, zi_get_set_eq, nl, g0]
          · simp (maxDischargeDepth := 9) [zi_get_ne, zi_nl_i, zi_nl_r, zi_get_set_eq, nl, g1]
        · have hol : o ∉ l1 := fun hm => by
            obtain ⟨-, -, d, hd, e⟩ := q4 o hm
            rw [e] at c2
            exact c2 (nI_pos' (by omega))
          have hok : o ≠ k := fun e => by
            rw [e, q5] at c2
            exact c2 (nI_pos' (by omega))
          let ξ1 := zm_up ξ 33 o (nI (dk + 1))
          have r1 : ∀ c, c ≠ 33 → ξ1 c = ξ c := fun c hc => zm_up_row hc
          have hL1 : zr_L ξ1 34 l1 := zr_L_congr (r1 _ (by decide)) (r1 _ (by decide)) q2
          have hlen : l1.length < 10 := by
            have := zy_nodup_le 10 (o :: l1) (List.nodup_cons.mpr ⟨hol, q3⟩) (fun x hx => by
              rcases List.mem_cons.mp hx with rfl | hx
              · exact ho
              · exact (q4 x hx).1)
            rw [List.length_cons] at this
            omega
          obtain ⟨ξ2, ⟨N4, E4⟩, l2, f2⟩ := ze_Row_append (μ := ξ1) (D + 4) zd34_at hL1 hlen o
          have e2 : ∀ c, c ≠ 33 → c ≠ 34 → c ≠ 35 → ξ2 c = ξ c := fun c a1 a2 a3 => (funext fun b => f2 c b a2 a3).trans (r1 c a1)
          have e33 : ∀ j, ξ2 33 j = if j = o then nI (dk + 1) else ξ 33 j := fun j => by
            rw [f2 33 j (by decide) (by decide)]
            show zm_up _ _ _ _ _ _ = _
            rw [zm_up_pt]
          have hZ' : zd_rch μ ξ2 (l1 ++ [o]) (B + 1) := by
            refine ⟨fun c hc => ?_, l2, (zl_app1 q3 hol (fun w hw => (q4 w hw).1) ho).1, fun j hj => ?_⟩
            · rw [e2 c (fun e => hc (by rw [e]; unfold zJ_irr; omega)) (fun e => hc (by rw [e]; unfold zJ_irr; omega)) (fun e => hc (by rw [e]; unfold zJ_irr; omega))]
              exact q1 c hc
            · rcases List.mem_append.mp hj with hj | hj
              · obtain ⟨a1, a2, d, a3, a4⟩ := q4 j hj
                exact ⟨a1, a2, d, a3, by rw [e33, if_neg (fun (e : j = o) => hol (e ▸ hj))]; exact a4⟩
              · have : j = o := by simpa using hj
                subst this
                refine ⟨ho, ?_, dk + 1, by omega, by rw [e33, if_pos rfl]⟩
                unfold zd_til at *
                rw [q1 _ (zJn_W ho).1] at hot
                exact hot
          have hk' : ξ2 33 k = nI dk := by rw [e33, if_neg (fun (e : k = o) => hok e.symm)]; exact q5
          have m1 : zm_up ξ 33 o (nI (dk + 1)) = ξ1 := rfl
          have cr := zr_c (μ := ξ1) zd34_at
          left
          refine ⟨zi_set (zi_set L 3 (.int (nI o))) 2 (.int (nI (i + 1))), zm_mk ξ2, ⟨N1 + N2 + N3 + N4, 35, fun F m hF => ?_⟩, by omega, ?_, ?_, ?_, zi_get_set_eq, ξ2, rfl, ⟨l1 ++ [o], hZ', hk', fun j hj => List.mem_append_left _ (q6 j hj)⟩, trivial⟩
          · simp (maxDischargeDepth := 9) [zg_0, zg_aload_n, zg_getfield, zg_goto, zg_iadd, zg_iaload, zg_iastore, zg_iconst, zg_ifCond, zg_if_icmp, zg_iinc, zg_iload_n, zg_invokevirtual, zg_istore_n, zg_return, zf_X5_reachFrom, zi_ld, zi_lda, zi_cmp, zi_retOk, zi_isI, zi_f3, zi_cr, zi_ci, zi_cn, zi_get_ne, zi_nl_i, zi_nl_r, zi_get_set_eq, nl, g0, g1, g2, c1, zq_Desk_treeOf, zd_c, E1 F (by omega), zq_Tree_neighbourTo, ct, E2 F (by omega), zq_Desk_isWindow, E3 F (by omega), zd_g, zm_iald (k := 0) zd33_A io, zm_iald (k := 0) zd33_A ik, co, ck, c2, q5, zm_iast zd33_A io, m1, zq_Row_append, cr, E4 F (by omega), nI_1]
          · simp (maxDischargeDepth := 9) [zi_get_ne, zi_nl_i, zi_nl_r, zi_get_set_eq, nl]
          · simp (maxDischargeDepth := 9) [zi_get_ne, zi_nl_i, zi_nl_r, zi_get_set_eq, nl, g0]
          · simp (maxDischargeDepth := 9) [zi_get_ne, zi_nl_i, zi_nl_r, zi_get_set_eq, nl, g1]
    · rintro L _ ⟨-, nl, g0, g1, g2, ξ, rfl, hZ, hq⟩
      have c1 : (4 : Int32) ≤ nI 4 := by decide
      refine ⟨none, zm_mk ξ, ⟨0, 4, fun F m hF => ?_⟩, rfl, ξ, rfl, hZ⟩
      simp [zg_0, zg_aload_n, zg_getfield, zg_goto, zg_iadd, zg_iaload, zg_iastore, zg_iconst, zg_ifCond, zg_if_icmp, zg_iinc, zg_iload_n, zg_invokevirtual, zg_istore_n, zg_return, zf_X5_reachFrom, zi_ld, zi_lda, zi_cmp, zi_retOk, zi_isI, zi_f3, zi_cr, zi_ci, zi_cn, g0, g2, c1]
  obtain ⟨r, h', G, rfl, ν', rfl, l', hZ, -, hsub⟩ := key
  refine ⟨ν', l', ze_in [(0, .ref 1), (1, .int (nI k))] zq_Desk_reachFrom (Nat.le_of_ble_eq_true rfl) rfl (ze_S.end ⟨0, 2, fun F m hF => ?_⟩ G), hZ, hsub⟩
  simp [zg_0, zg_aload_n, zg_getfield, zg_goto, zg_iadd, zg_iaload, zg_iastore, zg_iconst, zg_ifCond, zg_if_icmp, zg_iinc, zg_iload_n, zg_invokevirtual, zg_istore_n, zg_return, zf_X5_reachFrom, zi_ld, zi_lda, zi_cmp, zi_retOk, zi_isI, zi_f3, zi_cr, zi_ci, zi_cn, zi_get, zi_set, nI_0]
set_option maxRecDepth 100000 in
theorem ze_steps (D : Nat) (h : zJ μ row stk Rs ts) (w x : Int32) : ∃ ν v, ze_E (D + 7) A_Desk_steps [.ref 1, .int w, .int x] (zm_mk μ) (some (.int v)) (zm_mk ν) ∧ zJ_eqv μ ν := by
  have n4 : Int32.ofInt (-1000000001) = -1000000001 := by decide
  have n2 : Int32.ofInt (-1000000002) = -1000000002 := by decide
  have n5 : Int32.ofInt (-1000000005) = -1000000005 := by decide
  have h10 : (Int8.ofInt 10).toInt32 = (10 : Int32) := by decide
  have isW : ∀ y : Int32, (∃ b : Int32, (b = 0 ∨ (b = 1 ∧ ∃ k, k < 10 ∧ y = nI k)) ∧ ze_E (D + 6) A_Desk_isWindow [.ref 1, .int y] (zm_mk μ) (some (.int b)) (zm_mk μ)) := by
    intro y
    rcases zd_rng y 10 (by decide) with ⟨k, hk, rfl⟩ | hout
    · have E := ze_thW (μ := μ) (D + 5) hk
      by_cases c : zd_th μ k = true
      · rw [if_pos c] at E
        exact ⟨1, Or.inr ⟨rfl, k, hk, rfl⟩, E⟩
      · rw [if_neg c] at E
        exact ⟨0, Or.inl rfl, E⟩
    · exact ⟨0, Or.inl rfl, ze_isWindow_out (D + 5) hout⟩
  obtain ⟨b1, hb1, N1, E1⟩ := isW w
  rcases hb1 with rfl | ⟨rfl, a, ha, rfl⟩
  · refine ⟨μ, -1000000001, ze_in [(0, .ref 1), (1, .int w), (2, .int x)] zq_Desk_steps (Nat.le_of_ble_eq_true rfl) rfl ⟨N1, 6, fun F n hF => ?_⟩, zJ_eqv.refl⟩
    simp [zg_0, zg_aload_n, zg_bipush, zg_getfield, zg_goto, zg_iaload, zg_iastore, zg_iconst, zg_ifCond, zg_if_icmp, zg_iinc, zg_iload_n, zg_invokestatic, zg_invokevirtual, zg_ireturn, zg_istore_n, zg_ldc, zf_X5_steps, zi_ld, zi_lda, zi_cmp, zi_retOk, zi_isI, zi_f3, zi_cr, zi_ci, zi_cn, zi_get, zi_set, zq_Desk_isWindow, zd_c, E1 F (by omega), n4]
  obtain ⟨b2, hb2, N2, E2⟩ := isW x
  rcases hb2 with rfl | ⟨rfl, b, hb, rfl⟩
  · refine ⟨μ, -1000000001, ze_in [(0, .ref 1), (1, .int (nI a)), (2, .int x)] zq_Desk_steps (Nat.le_of_ble_eq_true rfl) rfl ⟨N1 + N2, 10, fun F n hF => ?_⟩, zJ_eqv.refl⟩
    simp [zg_0, zg_aload_n, zg_bipush, zg_getfield, zg_goto, zg_iaload, zg_iastore, zg_iconst, zg_ifCond, zg_if_icmp, zg_iinc, zg_iload_n, zg_invokestatic, zg_invokevirtual, zg_ireturn, zg_istore_n, zg_ldc, zf_X5_steps, zi_ld, zi_lda, zi_cmp, zi_retOk, zi_isI, zi_f3, zi_cr, zi_ci, zi_cn, zi_get, zi_set, zq_Desk_isWindow, zd_c, E1 F (by omega), E2 F (by omega), n4]
  rcases ze_isShownTileJ (D + 3) h (nI a) with ⟨⟨N3, E3⟩, a', s, ha', hs, ea, hsh⟩ | ⟨⟨N3, E3⟩, -⟩
  rotate_left
  · refine ⟨μ, -1000000002, ze_in [(0, .ref 1), (1, .int (nI a)), (2, .int (nI b))] zq_Desk_steps (Nat.le_of_ble_eq_true rfl) rfl ⟨N1 + N2 + N3, 14, fun F n hF => ?_⟩, zJ_eqv.refl⟩
    simp [zg_0, zg_aload_n, zg_bipush, zg_getfield, zg_goto, zg_iaload, zg_iastore, zg_iconst, zg_ifCond, zg_if_icmp, zg_iinc, zg_iload_n, zg_invokestatic, zg_invokevirtual, zg_ireturn, zg_istore_n, zg_ldc, zf_X5_steps, zi_ld, zi_lda, zi_cmp, zi_retOk, zi_isI, zi_f3, zi_cr, zi_ci, zi_cn, zi_get, zi_set, zq_Desk_isWindow, zd_c, E1 F (by omega), E2 F (by omega), zq_Desk_isShownTile, E3 F (by omega), n2]
  rcases ze_isShownTileJ (D + 3) h (nI b) with ⟨⟨N4, E4⟩, -⟩ | ⟨⟨N4, E4⟩, -⟩
  rotate_left
  · refine ⟨μ, -1000000002, ze_in [(0, .ref 1), (1, .int (nI a)), (2, .int (nI b))] zq_Desk_steps (Nat.le_of_ble_eq_true rfl) rfl ⟨N1 + N2 + N3 + N4, 18, fun F n hF => ?_⟩, zJ_eqv.refl⟩
    simp [zg_0, zg_aload_n, zg_bipush, zg_getfield, zg_goto, zg_iaload, zg_iastore, zg_iconst, zg_ifCond, zg_if_icmp, zg_iinc, zg_iload_n, zg_invokestatic, zg_invokevirtual, zg_ireturn, zg_istore_n, zg_ldc, zf_X5_steps, zi_ld, zi_lda, zi_cmp, zi_retOk, zi_isI, zi_f3, zi_cr, zi_ci, zi_cn, zi_get, zi_set, zq_Desk_isWindow, zd_c, E1 F (by omega), E2 F (by omega), zq_Desk_isShownTile, E3 F (by omega), E4 F (by omega), n2]
  have hat : zd_til μ a = true := by
    have e : a' = a := ((nI_eq (by omega) (by omega)).mp ea).symm
    rw [← e]
    exact hsh.1
  obtain ⟨ν1, ⟨N5, E5⟩, f5, -⟩ := ze_layTrees (μ := μ) D (fun s hs => (h.2.2.2.1 s hs).1)
  have ev1 := zd_frA_eqv f5
  obtain ⟨N6, E6⟩ := ze_fill (μ := ν1) (D + 5) zd33_A (by decide) (-1)
  let ν2 := zm_up (zm_fl ν1 33 (-1) 10) 33 a 0
  have r2 : ∀ c, c ≠ 33 → ν2 c = ν1 c := fun c hc => by
    show zm_up _ _ _ _ _ = _
    rw [zm_up_row hc]
    funext b
    exact if_neg (fun e => hc e.1)
  obtain ⟨N7, E7⟩ := ze_Row_clear (μ := ν2) (D + 5) zd34_at
  obtain ⟨L7, F7⟩ := zr_clear (μ := ν2) zd34_at
  generalize zm_up ν2 34 1 0 = ν3 at E7 L7 F7
  obtain ⟨ν4, ⟨N8, E8⟩, L8, F8⟩ := ze_Row_append (μ := ν3) (D + 5) zd34_at L7 (by decide) a
  have r4 : ∀ c, c ≠ 33 → c ≠ 34 → c ≠ 35 → ν4 c = ν1 c := fun c a1 a2 a3 => by
    rw [funext fun b => F8 c b a2 a3, funext fun b => F7 c b a2 a3]
    exact r2 c a1
  have hz0 : zd_rch μ ν4 [a] 0 := by
    refine ⟨fun c hc => ?_, L8, List.nodup_cons.mpr ⟨List.not_mem_nil, List.nodup_nil⟩, fun j hj => ?_⟩
    · rw [r4 c (fun e => hc (by rw [e]; unfold zJ_irr; omega)) (fun e => hc (by rw [e]; unfold zJ_irr; omega)) (fun e => hc (by rw [e]; unfold zJ_irr; omega))]
      exact ev1 c hc
    · have : j = a := by simpa using hj
      subst this
      refine ⟨ha, hat, 0, Nat.le_refl _, ?_⟩
      rw [F8 33 j (by decide) (by decide), F7 33 j (by decide) (by decide)]
      show zm_up _ _ _ _ _ _ = _
      rw [zm_up_eq, nI_0]
  have ia : zi_in (nI a) 10 = true := zm_in ha (by decide)
  have ca : (nI a).toNatClampNeg = a := nI_clamp (by omega)
  have ib : zi_in (nI b) 10 = true := zm_in hb (by decide)
  have cb : (nI b).toNatClampNeg = b := nI_clamp (by omega)
  have S0 : ze_S (D + 6) 4 (some .int) zc_X5_steps 0 [(0, .ref 1), (1, .int (nI a)), (2, .int (nI b))] [] (zm_mk μ) 74 [(3, .int (nI 0)), (0, .ref 1), (1, .int (nI a)), (2, .int (nI b))] [] (zm_mk ν4) := by
    refine ⟨N1 + N2 + N3 + N4 + N5 + N6 + N7 + N8, 36, fun F n hF => ?_⟩
    have m2 : zm_up (zm_fl ν1 33 (-1) 10) 33 a 0 = ν2 := rfl
    have cr2 := zr_c (μ := ν2) zd34_at
    have cr3 := zr_c (μ := ν3) zd34_at
    simp [zg_0, zg_aload_n, zg_bipush, zg_getfield, zg_goto, zg_iaload, zg_iastore, zg_iconst, zg_ifCond, zg_if_icmp, zg_iinc, zg_iload_n, zg_invokestatic, zg_invokevirtual, zg_ireturn, zg_istore_n, zg_ldc, zf_X5_steps, zi_ld, zi_lda, zi_cmp, zi_retOk, zi_isI, zi_f3, zi_cr, zi_ci, zi_cn, zi_get, zi_set, zq_Desk_isWindow, zd_c, E1 F (by omega), E2 F (by omega), zq_Desk_isShownTile, E3 F (by omega), E4 F (by omega), zq_Desk_layTrees, E5 F (by omega), zd_g, zq_Arr_fill, E6 F (by omega), zm_iast zd33_A ia, ca, m2, zq_Row_clear, cr2, E7 F (by omega), zq_Row_append, cr3, E8 F (by omega), nI_0]
  have tail : ∀ (ξ : zm_M) (L : zi_Lc), zi_get L 0 = some (.ref 1) → zi_get L 2 = some (.int (nI b)) → ∃ v, ze_G (D + 6) 4 (some .int) zc_X5_steps 109 L [] (zm_mk ξ) (some (.int v)) (zm_mk ξ) := by
    intro ξ L g0 g2
    by_cases c : (0 : Int32) ≤ ξ 33 b
    · refine ⟨ξ 33 b, 0, 10, fun F n hF => ?_⟩
      simp [zg_0, zg_aload_n, zg_bipush, zg_getfield, zg_goto, zg_iaload, zg_iastore, zg_iconst, zg_ifCond, zg_if_icmp, zg_iinc, zg_iload_n, zg_invokestatic, zg_invokevirtual, zg_ireturn, zg_istore_n, zg_ldc, zf_X5_steps, zi_ld, zi_lda, zi_cmp, zi_retOk, zi_isI, zi_f3, zi_cr, zi_ci, zi_cn, g0, g2, zd_g, zm_iald (k := 0) zd33_A ib, cb, c]
    · refine ⟨-1000000005, 0, 8, fun F n hF => ?_⟩
      simp [zg_0, zg_aload_n, zg_bipush, zg_getfield, zg_goto, zg_iaload, zg_iastore, zg_iconst, zg_ifCond, zg_if_icmp, zg_iinc, zg_iload_n, zg_invokestatic, zg_invokevirtual, zg_ireturn, zg_istore_n, zg_ldc, zf_X5_steps, zi_ld, zi_lda, zi_cmp, zi_retOk, zi_isI, zi_f3, zi_cr, zi_ci, zi_cn, g0, g2, zd_g, zm_iald (k := 0) zd33_A ib, cb, c, n5]
  have key : ∃ r h', ze_G (D + 6) 4 (some .int) zc_X5_steps 74 [(3, .int (nI 0)), (0, .ref 1), (1, .int (nI a)), (2, .int (nI b))] [] (zm_mk ν4) r h' ∧ ((∃ v, r = some (.int v)) ∧ ∃ ν, zm_mk ν = h' ∧ zJ_eqv μ ν) := by
    refine ze_loop (Q := fun i L hp => i ≤ 10 ∧ zi_nl L = true ∧ zi_get L 0 = some (.ref 1) ∧ zi_get L 2 = some (.int (nI b)) ∧ zi_get L 3 = some (.int (nI i)) ∧ ∃ ξ : zm_M, zm_mk ξ = hp ∧ (∃ l, zd_rch μ ξ l i) ∧ (True)) (R := fun r h' => (∃ v, r = some (.int v)) ∧ ∃ ν, zm_mk ν = h' ∧ zJ_eqv μ ν) 10 ?_ ?_ 10 0 _ _ (by omega) ⟨by omega, rfl, rfl, rfl, rfl, ν4, rfl, ⟨[a], hz0⟩, trivial⟩
    · rintro i L _ hi ⟨-, nl, g0, g2, g3, ξ, rfl, hZ, hq⟩
      obtain ⟨l, hZ⟩ := hZ
      have c1 : ¬ (10 : Int32) ≤ nI i := nI_ge (b := 10) hi (by decide)
      obtain ⟨M1, F1⟩ := ze_Row_sizeL (μ := ξ) (D + 5) zd34_at hZ.2.1
      have cr := zr_c (μ := ξ) zd34_at
      have hl10 := hZ.2.1.1
      by_cases c2 : i < l.length
      · have c2' : ¬ nI l.length ≤ nI i := nI_ge c2 (by omega)
        obtain ⟨M2, F2⟩ := ze_Row_getL (μ := ξ) (D + 5) zd34_at hZ.2.1 c2
        have hm := zl_mem c2
        generalize l.getD i 0 = k at F2 hm
        obtain ⟨ξ', l', ⟨M3, F3⟩, hZ', -⟩ := ze_reachFrom (ν := ξ) D h (B := i) (by omega) hm hZ
        left
        refine ⟨zi_set L 3 (.int (nI (i + 1))), zm_mk ξ', ⟨M1 + M2 + M3, 16, fun F m hF => ?_⟩, by omega, ?_, ?_, ?_, zi_get_set_eq, ξ', rfl, ⟨l', hZ'⟩, trivial⟩
        · simp (maxDischargeDepth := 9) [zg_0, zg_aload_n, zg_bipush, zg_getfield, zg_goto, zg_iaload, zg_iastore, zg_iconst, zg_ifCond, zg_if_icmp, zg_iinc, zg_iload_n, zg_invokestatic, zg_invokevirtual, zg_ireturn, zg_istore_n, zg_ldc, zf_X5_steps, zi_ld, zi_lda, zi_cmp, zi_retOk, zi_isI, zi_f3, zi_cr, zi_ci, zi_cn, zi_get_ne, zi_nl_i, zi_nl_r, zi_get_set_eq, nl, g0, g2, g3, h10, c1, zd_g, zq_Row_size, zq_Row_get, cr, F1 F (by omega), c2', F2 F (by omega), zq_Desk_reachFrom, zd_c, F3 F (by omega), nI_1]
        · simp (maxDischargeDepth := 9) [zi_get_ne, zi_nl_i, zi_nl_r, zi_get_set_eq, nl]
        · simp (maxDischargeDepth := 9) [zi_get_ne, zi_nl_i, zi_nl_r, zi_get_set_eq, nl, g0]
        · simp (maxDischargeDepth := 9) [zi_get_ne, zi_nl_i, zi_nl_r, zi_get_set_eq, nl, g2]
      · have c2' : nI l.length ≤ nI i := nI_le (by omega) (by omega)
        right
        obtain ⟨v, G⟩ := tail ξ L g0 g2
        refine ⟨some (.int v), zm_mk ξ, ze_S.end (p2 := 109) (L2 := L) (s2 := []) (h2 := zm_mk ξ) ⟨M1, 8, fun F m hF => ?_⟩ G, ⟨v, rfl⟩, ξ, rfl, hZ.1⟩
        simp [zg_0, zg_aload_n, zg_bipush, zg_getfield, zg_goto, zg_iaload, zg_iastore, zg_iconst, zg_ifCond, zg_if_icmp, zg_iinc, zg_iload_n, zg_invokestatic, zg_invokevirtual, zg_ireturn, zg_istore_n, zg_ldc, zf_X5_steps, zi_ld, zi_lda, zi_cmp, zi_retOk, zi_isI, zi_f3, zi_cr, zi_ci, zi_cn, g0, g3, h10, c1, zd_g, zq_Row_size, cr, F1 F (by omega), c2']
    · rintro L _ ⟨-, nl, g0, g2, g3, ξ, rfl, hZ, hq⟩
      obtain ⟨l, hZ⟩ := hZ
      have c1 : (10 : Int32) ≤ nI 10 := by decide
      obtain ⟨v, G⟩ := tail ξ L g0 g2
      refine ⟨some (.int v), zm_mk ξ, ze_S.end (p2 := 109) (L2 := L) (s2 := []) (h2 := zm_mk ξ) ⟨0, 3, fun F m hF => ?_⟩ G, ⟨v, rfl⟩, ξ, rfl, hZ.1⟩
      simp [zg_0, zg_aload_n, zg_bipush, zg_getfield, zg_goto, zg_iaload, zg_iastore, zg_iconst, zg_ifCond, zg_if_icmp, zg_iinc, zg_iload_n, zg_invokestatic, zg_invokevirtual, zg_ireturn, zg_istore_n, zg_ldc, zf_X5_steps, zi_ld, zi_lda, zi_cmp, zi_retOk, zi_isI, zi_f3, zi_cr, zi_ci, zi_cn, g0, g3, h10, c1]
  obtain ⟨r, h', G, ⟨v, rfl⟩, ν, rfl, hev⟩ := key
  exact ⟨ν, v, ze_in [(0, .ref 1), (1, .int (nI a)), (2, .int (nI b))] zq_Desk_steps (Nat.le_of_ble_eq_true rfl) rfl (S0.end G), hev⟩
end ZQ9
