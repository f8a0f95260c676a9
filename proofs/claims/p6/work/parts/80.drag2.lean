/-! the desk: drag -/
section ZDK
variable {μ ν : zm_M} {row stk : List Nat} {Rs : Nat → List Nat} {ts : Nat → zy_F}
/-- what drag may be asked -/
def zd_darg (μ : zm_M) (w x y : Int32) (k o sd : Nat) : Prop := (k < 10 ∧ o < 10 ∧ sd < 5) ∧ (w = nI k ∧ x = nI o ∧ y = nI sd) ∧ (zd_til μ k = true ∧ zd_til μ o = true ∧ k ≠ o)
/-- the trial tree of a drag to the screen b -/
def zd_trl (μ ν1 : zm_M) (Rs : Nat → List Nat) (ts : Nat → zy_F) (k o sd b : Nat) (R2 : List Nat) (t2 : zy_F) : Prop :=
  ∃ ν0 R' t' m, zt_isDr μ (zdT b) (Rs b) (ts b) k ν0 7 R' t' ∧ m ∈ zy_lvs t' ∧ ν0 (7 + 3) o = nI m ∧ R2 = R' ++ [k] ∧ zt_C ν1 7 R2 t2 ∧
    ((sd = 4 ∧ t2 = t' ∧ zt_isTab ν0 7 R' t' m k (μ (zdW k + 1) 0) (μ (zdW k + 1) 1) ν1 7) ∨ (sd < 4 ∧ ∃ c f, t2 = zy_sub m (.append (.tag c (.tag (if decide (sd % 2 = 0) then f else m) .nil)) (.tag (if decide (sd % 2 = 0) then m else f) .nil)) t' ∧ zt_isCut ν0 7 R' t' m k (sd / 2) (decide (sd % 2 = 0)) (μ (zdW k + 1) 0) (μ (zdW k + 1) 1) ν1 7 c f))
def zd_drgd (μ ν : zm_M) (row row' : List Nat) (Rs Rs' : Nat → List Nat) (ts ts' : Nat → zy_F) (w x y : Int32) : Prop :=
  ((¬ ∃ k o sd, zd_darg μ w x y k o sd) ∧ ν = μ ∧ row' = row ∧ Rs' = Rs ∧ ts' = ts) ∨
  ∃ k o sd a b ν1 R2 t2, zd_darg μ w x y k o sd ∧ a < 3 ∧ b < 3 ∧ μ (zdW k) 5 = nI a ∧ μ (zdW o) 5 = nI b ∧ zt_frT 7 μ ν1 ∧ zd_trl μ ν1 Rs ts k o sd b R2 t2 ∧
    (((zt_fit ν1 7 (zdZ b) R2 t2 = false ∨ (¬ a = b ∧ zl_al (zd_gwf μ (zd_grp μ k) (zdZ b)) 10 = false)) ∧ zJ_eqv μ ν ∧ row' = row ∧ Rs' = Rs ∧ ts' = ts) ∨
     ((zt_fit ν1 7 (zdZ b) R2 t2 = true ∧ (a = b ∨ zl_al (zd_gwf μ (zd_grp μ k) (zdZ b)) 10 = true)) ∧ row' = k :: row.erase k ∧ ∃ n ν6, n ∈ zy_lvs (ts a) ∧ μ (zdT a + 3) k = nI n ∧ Rs' = zd_drR Rs k a b R2 ∧ ts' = zd_drT μ Rs ts k a b n t2 ∧
        (∀ c d, ¬ zJ_irr c → zt_out (zdT a) c → zt_out (zdT b) c → (∀ q, q < 3 → c = zdK q → d ≠ 3) → (∀ j, j < 10 → c = zdW j → d ≠ 5) → ν6 c d = μ c d) ∧ (∀ q, q < 3 → ν6 (zdK q) 3 = if zd_has μ q k = true then 0 else μ (zdK q) 3) ∧
        (∀ j, j < 10 → ν6 (zdW j) 5 = if ¬ a = b ∧ zd_grp μ k j = true then nI b else μ (zdW j) 5) ∧ (¬ a = b → zt_isOut μ (zdT a) (Rs a) (ts a) n k ν6 (zdT a)) ∧ zt_isCopy ν1 7 ν6 (zdT b) ∧ zt_C ν6 (zdT b) R2 t2 ∧ zd_foc ν6 ν k))
theorem zd_trl_of {ν0 ν1 : zm_M} {R' : List Nat} {t' : zy_F} {k o sd b m : Nat} (h1 : zt_isDr μ (zdT b) (Rs b) (ts b) k ν0 7 R' t') (h2 : m ∈ zy_lvs t') (h3 : ν0 (7 + 3) o = nI m) (h4 : zd_drg μ ν0 ν1 R' t' k m sd) : ∃ R2 t2, zd_trl μ ν1 Rs ts k o sd b R2 t2 := by
  rcases h4 with ⟨e, h⟩ | ⟨e, c, f, h⟩
  · exact ⟨R' ++ [k], t', ν0, R', t', m, h1, h2, h3, rfl, h.1, Or.inl ⟨e, rfl, h⟩⟩
  · exact ⟨R' ++ [k], _, ν0, R', t', m, h1, h2, h3, rfl, h.1, Or.inr ⟨e, c, f, rfl, h⟩⟩
/-- the trial tree's tabs and their least sizes -/
theorem zd_trl_R (h : zJ μ row stk Rs ts) {ν1 : zm_M} {k o sd b : Nat} {R2 : List Nat} {t2 : zy_F} (hb : b < 3) (ht : zd_trl μ ν1 Rs ts k o sd b R2 t2) : zt_C ν1 7 R2 t2 ∧ (∀ j, j ∈ R2 ↔ (j ∈ Rs b ∨ j = k)) ∧ ∀ j ∈ R2, ν1 (7 + 5) j = μ (zdW j + 1) 0 ∧ ν1 (7 + 6) j = μ (zdW j + 1) 1 := by
  obtain ⟨ν0, R', t', m, hd, -, -, rfl, hC, hcase⟩ := ht
  obtain ⟨c1, c2, c3⟩ := h.2.2.2.1 b hb
  have r0 : (∀ j, j ∈ R' → j ∈ Rs b) ∧ (∀ j, j ∈ Rs b → j ≠ k → j ∈ R') ∧ ν0 (7 + 5) = μ (zdT b + 5) ∧ ν0 (7 + 6) = μ (zdT b + 6) := by
    rcases hd with ⟨-, e1, -, l, -⟩ | ⟨-, n, -, -, e1, -, O⟩
    · rw [e1]
      exact ⟨fun _ q => q, fun _ q _ => q, l.2.1, l.2.2.1⟩
    · rw [e1]
      exact ⟨fun j q => List.mem_of_mem_erase q, fun j q hne => (zl_er_mem c1.1.1.2.1).mpr ⟨hne, q⟩, O.2.2.1, O.2.2.2.1⟩
  have r1 : (∀ u, ν1 (7 + 5) u = if u = k then μ (zdW k + 1) 0 else ν0 (7 + 5) u) ∧ ∀ u, ν1 (7 + 6) u = if u = k then μ (zdW k + 1) 1 else ν0 (7 + 6) u := by
    rcases hcase with ⟨-, -, T⟩ | ⟨-, c, f, -, K⟩
    · exact ⟨T.2.2.1, T.2.2.2.1⟩
    · exact ⟨K.2.2.2.1, K.2.2.2.2.1⟩
  refine ⟨hC, fun j => ?_, fun j hj => ?_⟩
  · rw [List.mem_append]
    constructor
    · rintro (q | q)
      · exact Or.inl (r0.1 j q)
      · exact Or.inr (by simpa using q)
    · intro q
      by_cases e : j = k
      · exact Or.inr (by simp [e])
      · exact Or.inl (r0.2.1 j (q.resolve_right e) e)
  · rw [r1.1, r1.2]
    by_cases e : j = k
    · rw [if_pos e, if_pos e, e]
      exact ⟨rfl, rfl⟩
    · rw [if_neg e, if_neg e, r0.2.2.1, r0.2.2.2]
      have hjR : j ∈ R' := by
        rcases List.mem_append.mp hj with q | q
        · exact q
        · exact absurd (by simpa using q) e
      exact c3 j (r0.1 j hjR)
set_option maxRecDepth 100000 in
theorem ze_drag_0 (D : Nat) (h : zJ μ row stk Rs ts) (w x y : Int32) : ((¬ ∃ k o sd, zd_darg μ w x y k o sd) ∧ ∃ r, ze_G (D + 1) 6 (some .int) zc_X5_drag 0 [(0, .ref 1), (1, .int w), (2, .int x), (3, .int y)] [] (zm_mk μ) (some (.int r)) (zm_mk μ)) ∨
    ∃ k o sd, zd_darg μ w x y k o sd ∧ ze_S (D + 1) 6 (some .int) zc_X5_drag 0 [(0, .ref 1), (1, .int w), (2, .int x), (3, .int y)] [] (zm_mk μ) 63 [(0, .ref 1), (1, .int w), (2, .int x), (3, .int y)] [] (zm_mk μ) := by
  have n4 : Int32.ofInt (-1000000001) = -1000000001 := by decide
  have n2 : Int32.ofInt (-1000000002) = -1000000002 := by decide
  have isW : ∀ z : Int32, (ze_E (D + 1) A_Desk_isWindow [.ref 1, .int z] (zm_mk μ) (some (.int 0)) (zm_mk μ) ∧ ∀ k, k < 10 → z = nI k → ¬ zd_th μ k = true) ∨ (ze_E (D + 1) A_Desk_isWindow [.ref 1, .int z] (zm_mk μ) (some (.int 1)) (zm_mk μ) ∧ ∃ k, k < 10 ∧ z = nI k ∧ zd_th μ k = true) := by
    intro z
    rcases zd_rng z 10 (by decide) with ⟨k, hk, rfl⟩ | hout
    · have E := ze_thW (μ := μ) D hk
      by_cases c : zd_th μ k = true
      · rw [if_pos c] at E
        exact Or.inr ⟨E, k, hk, rfl, c⟩
      · rw [if_neg c] at E
        exact Or.inl ⟨E, fun k' hk' e => by rw [← (nI_eq (by omega) (by omega)).mp e]; exact c⟩
    · exact Or.inl ⟨ze_isWindow_out D hout, fun k hk e => by
        rw [e] at hout
        exact absurd hout (fun q => q.elim (nI_pos (by omega)) (nI_ge (b := 10) hk (by decide)))⟩
  have thof : ∀ {j : Nat}, zd_til μ j = true → zd_th μ j = true := fun q => decide_eq_true (of_decide_eq_true q).1
  rcases isW w with ⟨⟨N1, E1⟩, hno⟩ | ⟨⟨N1, E1⟩, k, hk, rfl, htk⟩
  · refine Or.inl ⟨fun ⟨k, o, sd, ⟨q1, _, _⟩, ⟨q2, _, _⟩, q3, _, _⟩ => hno k q1 q2 (thof q3), -1000000001, N1, 6, fun F n hF => ?_⟩
    simp [zg_0, zg_aaload, zg_aload_n, zg_getfield, zg_iconst, zg_ifCond, zg_if_icmp, zg_iload, zg_iload_n, zg_invokestatic, zg_invokevirtual, zg_ireturn, zg_istore, zg_ldc, zf_X5_drag, zi_ld, zi_lda, zi_cmp, zi_retOk, zi_isI, zi_f3, zi_cr, zi_ci, zi_cn, zi_get, zi_set, zq_Desk_isWindow, zd_c, E1 F (by omega), n4]
  rcases isW x with ⟨⟨N2, E2⟩, hno⟩ | ⟨⟨N2, E2⟩, o, ho, rfl, hto⟩
  · refine Or.inl ⟨fun ⟨k, o, sd, ⟨_, q1, _⟩, ⟨_, q2, _⟩, _, q3, _⟩ => hno o q1 q2 (thof q3), -1000000001, N1 + N2, 10, fun F n hF => ?_⟩
    simp [zg_0, zg_aaload, zg_aload_n, zg_getfield, zg_iconst, zg_ifCond, zg_if_icmp, zg_iload, zg_iload_n, zg_invokestatic, zg_invokevirtual, zg_ireturn, zg_istore, zg_ldc, zf_X5_drag, zi_ld, zi_lda, zi_cmp, zi_retOk, zi_isI, zi_f3, zi_cr, zi_ci, zi_cn, zi_get, zi_set, zq_Desk_isWindow, zd_c, E1 F (by omega), E2 F (by omega), n4]
  have inj : ∀ {i j : Nat}, i < 10 → j < 10 → nI i = nI j → i = j := fun h1 h2 e => (nI_eq (by omega) (by omega)).mp e
  by_cases c3 : k = o
  · subst c3
    refine Or.inl ⟨fun ⟨k', o', sd, ⟨q1, q2, _⟩, ⟨q3, q4, _⟩, _, _, q5⟩ => q5 ((inj q1 hk q3.symm).trans (inj q2 hk q4.symm).symm), -1000000001, N1 + N2, 13, fun F n hF => ?_⟩
    simp [zg_0, zg_aaload, zg_aload_n, zg_getfield, zg_iconst, zg_ifCond, zg_if_icmp, zg_iload, zg_iload_n, zg_invokestatic, zg_invokevirtual, zg_ireturn, zg_istore, zg_ldc, zf_X5_drag, zi_ld, zi_lda, zi_cmp, zi_retOk, zi_isI, zi_f3, zi_cr, zi_ci, zi_cn, zi_get, zi_set, zq_Desk_isWindow, zd_c, E1 F (by omega), n4]
  have c3' : ¬ nI k = nI o := fun e => c3 (inj hk ho e)
  have side : (∃ sd, sd < 5 ∧ y = nI sd ∧ ze_S (D + 1) 6 (some .int) zc_X5_drag 0 [(0, .ref 1), (1, .int (nI k)), (2, .int (nI o)), (3, .int y)] [] (zm_mk μ) 36 [(0, .ref 1), (1, .int (nI k)), (2, .int (nI o)), (3, .int y)] [] (zm_mk μ)) ∨ ((∀ sd, sd < 5 → ¬ y = nI sd) ∧ ze_G (D + 1) 6 (some .int) zc_X5_drag 0 [(0, .ref 1), (1, .int (nI k)), (2, .int (nI o)), (3, .int y)] [] (zm_mk μ) (some (.int (-1000000001))) (zm_mk μ)) := by
    rcases zd_rng y 4 (by decide) with ⟨sd, hsd, rfl⟩ | hout
    · obtain ⟨N3, E3⟩ := ze_isSide_in (h := zm_mk μ) D hsd
      left
      refine ⟨sd, by omega, rfl, N1 + N2 + N3, 14, fun F n hF => ?_⟩
      simp [zg_0, zg_aaload, zg_aload_n, zg_getfield, zg_iconst, zg_ifCond, zg_if_icmp, zg_iload, zg_iload_n, zg_invokestatic, zg_invokevirtual, zg_ireturn, zg_istore, zg_ldc, zf_X5_drag, zi_ld, zi_lda, zi_cmp, zi_retOk, zi_isI, zi_f3, zi_cr, zi_ci, zi_cn, zi_get, zi_set, zq_Desk_isWindow, zd_c, E1 F (by omega), E2 F (by omega), c3', zq_Desk_isSide, E3 F (by omega)]
    · obtain ⟨N3, E3⟩ := ze_isSide_out (h := zm_mk μ) D hout
      by_cases c4 : y = 4
      · left
        refine ⟨4, by decide, c4, N1 + N2 + N3, 17, fun F n hF => ?_⟩
        have E3 := E3 F (by omega)
        rw [c4] at E3
        simp [zg_0, zg_aaload, zg_aload_n, zg_getfield, zg_iconst, zg_ifCond, zg_if_icmp, zg_iload, zg_iload_n, zg_invokestatic, zg_invokevirtual, zg_ireturn, zg_istore, zg_ldc, zf_X5_drag, zi_ld, zi_lda, zi_cmp, zi_retOk, zi_isI, zi_f3, zi_cr, zi_ci, zi_cn, zi_get, zi_set, zq_Desk_isWindow, zd_c, E1 F (by omega), E2 F (by omega), c3', zq_Desk_isSide, E3, c4]
      · right
        refine ⟨fun sd hsd e => ?_, N1 + N2 + N3, 19, fun F n hF => ?_⟩
        · by_cases e4 : sd = 4
          · rw [e4] at e
            exact c4 e
          · rw [e] at hout
            exact hout.elim (nI_pos (by omega)) (nI_ge (b := 4) (by omega) (by decide))
        · simp [zg_0, zg_aaload, zg_aload_n, zg_getfield, zg_iconst, zg_ifCond, zg_if_icmp, zg_iload, zg_iload_n, zg_invokestatic, zg_invokevirtual, zg_ireturn, zg_istore, zg_ldc, zf_X5_drag, zi_ld, zi_lda, zi_cmp, zi_retOk, zi_isI, zi_f3, zi_cr, zi_ci, zi_cn, zi_get, zi_set, zq_Desk_isWindow, zd_c, E1 F (by omega), E2 F (by omega), c3', zq_Desk_isSide, E3 F (by omega), c4, n4]
  rcases side with ⟨sd, hsd, rfl, S1⟩ | ⟨hno, G⟩
  rotate_left
  · exact Or.inl ⟨fun ⟨k, o, sd, ⟨_, _, q1⟩, ⟨_, _, q2⟩, _⟩ => hno sd q1 q2, _, G⟩
  obtain ⟨N4, E4⟩ := ze_tilW (μ := μ) D hk
  obtain ⟨N5, E5⟩ := ze_tilW (μ := μ) D ho
  have cwk := zw_c (μ := μ) (zdW_at hk)
  have cwo := zw_c (μ := μ) (zdW_at ho)
  by_cases c5 : zd_til μ k = true
  · rw [if_pos c5] at E4
    by_cases c6 : zd_til μ o = true
    · rw [if_pos c6] at E5
      right
      refine ⟨k, o, sd, ⟨⟨hk, ho, hsd⟩, ⟨rfl, rfl, rfl⟩, c5, c6, c3⟩, S1.trans ⟨N4 + N5, 12, fun F n hF => ?_⟩⟩
      simp [zg_0, zg_aaload, zg_aload_n, zg_getfield, zg_iconst, zg_ifCond, zg_if_icmp, zg_iload, zg_iload_n, zg_invokestatic, zg_invokevirtual, zg_ireturn, zg_istore, zg_ldc, zf_X5_drag, zi_ld, zi_lda, zi_cmp, zi_retOk, zi_isI, zi_f3, zi_cr, zi_ci, zi_cn, zi_get, zi_set, zd_g, zd_w hk, zd_w ho, zq_Win_isTiled, cwk, cwo, E4 F (by omega), E5 F (by omega)]
    · rw [if_neg c6] at E5
      refine Or.inl ⟨fun ⟨k', o', sd', ⟨q1, q2, _⟩, ⟨q3, q4, _⟩, _, q5, _⟩ => c6 (by rw [inj ho q2 q4]; exact q5), -1000000002, S1.end ⟨N4 + N5, 14, fun F n hF => ?_⟩⟩
      simp [zg_0, zg_aaload, zg_aload_n, zg_getfield, zg_iconst, zg_ifCond, zg_if_icmp, zg_iload, zg_iload_n, zg_invokestatic, zg_invokevirtual, zg_ireturn, zg_istore, zg_ldc, zf_X5_drag, zi_ld, zi_lda, zi_cmp, zi_retOk, zi_isI, zi_f3, zi_cr, zi_ci, zi_cn, zi_get, zi_set, zd_g, zd_w hk, zd_w ho, zq_Win_isTiled, cwk, cwo, E4 F (by omega), E5 F (by omega), n2]
  · rw [if_neg c5] at E4
    refine Or.inl ⟨fun ⟨k', o', sd', ⟨q1, q2, _⟩, ⟨q3, q4, _⟩, q5, _, _⟩ => c5 (by rw [inj hk q1 q3]; exact q5), -1000000002, S1.end ⟨N4, 8, fun F n hF => ?_⟩⟩
    simp [zg_0, zg_aaload, zg_aload_n, zg_getfield, zg_iconst, zg_ifCond, zg_if_icmp, zg_iload, zg_iload_n, zg_invokestatic, zg_invokevirtual, zg_ireturn, zg_istore, zg_ldc, zf_X5_drag, zi_ld, zi_lda, zi_cmp, zi_retOk, zi_isI, zi_f3, zi_cr, zi_ci, zi_cn, zi_get, zi_set, zd_g, zd_w hk, zq_Win_isTiled, cwk, E4 F (by omega), n2]
end ZDK
