section
/-! the desk: bringBack, whole -/
section ZBT
variable {μ ν : zm_M} {Rs : Nat → List Nat} {ts : Nat → zy_F}
/-- bringBack(s): nothing comes, or the group does -/
noncomputable def zd_brg (μ ν : zm_M) (Rs : Nat → List Nat) (ts : Nat → zy_F) (s : Nat) : Prop :=
  ((μ (zdK s) 3 = 0 ∨ zt_fit μ (zdV s) (zdZ s) (Rs (3 + s)) (ts (3 + s)) = false ∨ zl_al (zd_gwf μ (zd_bgr μ s) (zdZ s)) 10 = false) ∧ ∀ c, c ≠ 31 → ν c = μ c) ∨
  ((¬ μ (zdK s) 3 = 0 ∧ zt_fit μ (zdV s) (zdZ s) (Rs (3 + s)) (ts (3 + s)) = true ∧ zl_al (zd_gwf μ (zd_bgr μ s) (zdZ s)) 10 = true) ∧ ∃ ν2 ν3 Rs1 ts1, (∀ c, c ≠ 31 → ν2 c = μ c) ∧ zd_tbk ν2 ν3 Rs ts (zd_has μ s) 10 Rs1 ts1 ∧
    (∀ c d, ¬ zJ_irr c → (∀ q, q < 3 → zt_out (zdT q) c) → (∀ q, q < 3 → c = zdK q → d ≠ 3) → (∀ j, j < 10 → c = zdW j → d ≠ 5) → ν c d = μ c d) ∧ (∀ q, q < 3 → ν (zdK q) 3 = if zd_hasg μ (zd_bgr μ s) 10 q = true then 0 else μ (zdK q) 3) ∧
    (∀ j, j < 10 → ν (zdW j) 5 = if zd_bgr μ s j = true then nI s else μ (zdW j) 5) ∧ (∀ q, q < 3 → q ≠ s → ∀ j, j < 24 → ν (zdT q + j) = ν3 (zdT q + j)) ∧ zt_C ν (zdT s) (Rs (3 + s)) (ts (3 + s)) ∧ zt_isCopy μ (zdV s) ν (zdT s))
set_option maxRecDepth 100000 in
theorem ze_bringBack (D : Nat) {s : Nat} (hs : s < 3) (hC : ∀ q, q < 3 → zt_C μ (zdT q) (Rs q) (ts q)) (hV : zt_C μ (zdV s) (Rs (3 + s)) (ts (3 + s))) (htl : ∀ j, j < 10 → zd_til μ j = true → ∃ q, q < 3 ∧ μ (zdW j) 5 = nI q ∧ j ∈ Rs q) (hdj : ∀ q p j, q < 3 → p < 3 → j ∈ Rs q → j ∈ Rs p → q = p) (hsm : ∀ q, q < 3 → zt_sm μ (zdT q) (Rs q)) (hRt : ∀ q j, q < 3 → j ∈ Rs q → zd_til μ j = true) :
    ∃ ν r, ze_E (D + 7) A_Desk_bringBack [.ref 1, .int (nI s)] (zm_mk μ) (some (.int r)) (zm_mk ν) ∧ zd_brg μ ν Rs ts s := by
  by_cases c1 : μ (zdK s) 3 = 0
  · refine ⟨μ, 0, ze_in [(0, .ref 1), (1, .int (nI s))] zq_Desk_bringBack (Nat.le_of_ble_eq_true rfl) rfl ⟨0, 11, fun F n hF => ?_⟩, Or.inl ⟨Or.inl c1, fun _ _ => rfl⟩⟩
    simp [zg_0, zg_aaload, zg_aload_n, zg_astore_n, zg_bastore, zg_bipush, zg_getfield, zg_goto, zg_iconst, zg_ifCond, zg_if_icmp, zg_iinc, zg_iload, zg_iload_n, zg_invokevirtual, zg_ireturn, zg_istore, zg_istore_n, zf_X5_bringBack, zi_ld, zi_lda, zi_cmp, zi_retOk, zi_isI, zi_f3, zi_cr, zi_ci, zi_cn, zi_get, zi_set, zd_g, zd_s hs, zdS_g hs, zdK_g hs, c1]
  obtain ⟨N1, E1⟩ := ze_fitsC (μ := μ) (D + 4) (zdV_at hs) hV (zdZ_A hs)
  obtain ⟨lv, cv⟩ := zt_c (μ := μ) (zdV_at hs)
  cases hfit : zt_fit μ (zdV s) (zdZ s) (Rs (3 + s)) (ts (3 + s)) with
  | false =>
    rw [hfit, if_neg (by decide)] at E1
    refine ⟨μ, 0, ze_in [(0, .ref 1), (1, .int (nI s))] zq_Desk_bringBack (Nat.le_of_ble_eq_true rfl) rfl ⟨N1, 20, fun F n hF => ?_⟩, Or.inl ⟨Or.inr (Or.inl hfit), fun _ _ => rfl⟩⟩
    simp [zg_0, zg_aaload, zg_aload_n, zg_astore_n, zg_bastore, zg_bipush, zg_getfield, zg_goto, zg_iconst, zg_ifCond, zg_if_icmp, zg_iinc, zg_iload, zg_iload_n, zg_invokevirtual, zg_ireturn, zg_istore, zg_istore_n, zf_X5_bringBack, zi_ld, zi_lda, zi_cmp, zi_retOk, zi_isI, zi_f3, zi_cr, zi_ci, zi_cn, zi_get, zi_set, zd_g, zd_s hs, zdS_g hs, zdK_g hs, c1, zq_Tree_fits, cv, E1 F (by omega)]
  | true =>
    rw [hfit, if_pos rfl] at E1
    have S1 : ze_S (D + 6) 5 (some .int) zc_X5_bringBack 0 [(0, .ref 1), (1, .int (nI s))] [] (zm_mk μ) 38 [(2, .ref (zdK s + 1)), (0, .ref 1), (1, .int (nI s))] [] (zm_mk μ) := by
      refine ⟨N1, 18, fun F n hF => ?_⟩
      simp [zg_0, zg_aaload, zg_aload_n, zg_astore_n, zg_bastore, zg_bipush, zg_getfield, zg_goto, zg_iconst, zg_ifCond, zg_if_icmp, zg_iinc, zg_iload, zg_iload_n, zg_invokevirtual, zg_ireturn, zg_istore, zg_istore_n, zf_X5_bringBack, zi_ld, zi_lda, zi_cmp, zi_retOk, zi_isI, zi_f3, zi_cr, zi_ci, zi_cn, zi_get, zi_set, zd_g, zd_s hs, zdS_g hs, zdK_g hs, c1, zq_Tree_fits, cv, E1 F (by omega)]
    obtain ⟨ν2, S2, f2, g2⟩ := ze_bring_0 (μ := μ) (D + 3) hs
    obtain ⟨N3, E3⟩ := ze_groupCanBeWhole (μ := ν2) (D + 4) g2 hs
    have w2 : ∀ j, ν2 (zdW j) = μ (zdW j) := fun j => f2 _ (by unfold zdW; omega)
    have egw : zl_al (zd_gwf ν2 (zd_bgr μ s) (zdZ s)) 10 = zl_al (zd_gwf μ (zd_bgr μ s) (zdZ s)) 10 := by
      have : zd_gwf ν2 (zd_bgr μ s) (zdZ s) = zd_gwf μ (zd_bgr μ s) (zdZ s) := funext fun j => by
        unfold zd_gwf zd_flo zd_whole
        rw [w2, f2 (zdW j + 1) (by unfold zdW; omega), f2 (zdZ s) (by unfold zdZ; omega)]
      rw [this]
    rw [egw] at E3
    have SS := S1.trans S2
    cases hgw : zl_al (zd_gwf μ (zd_bgr μ s) (zdZ s)) 10 with
    | false =>
      rw [hgw, if_neg (by decide)] at E3
      refine ⟨ν2, 0, ze_in [(0, .ref 1), (1, .int (nI s))] zq_Desk_bringBack (Nat.le_of_ble_eq_true rfl) rfl (SS.end ⟨N3, 6, fun F n hF => ?_⟩), Or.inl ⟨Or.inr (Or.inr hgw), f2⟩⟩
      simp [zg_0, zg_aaload, zg_aload_n, zg_astore_n, zg_bastore, zg_bipush, zg_getfield, zg_goto, zg_iconst, zg_ifCond, zg_if_icmp, zg_iinc, zg_iload, zg_iload_n, zg_invokevirtual, zg_ireturn, zg_istore, zg_istore_n, zf_X5_bringBack, zi_ld, zi_lda, zi_cmp, zi_retOk, zi_isI, zi_f3, zi_cr, zi_ci, zi_cn, zi_get, zi_set, zq_Desk_groupCanBeWhole, zd_c, E3 F (by omega)]
    | true =>
      rw [hgw, if_pos rfl] at E3
      have S3 : ze_S (D + 6) 5 (some .int) zc_X5_bringBack 67 [(3, .int (nI 10)), (2, .ref (zdK s + 1)), (0, .ref 1), (1, .int (nI s))] [] (zm_mk ν2) 77 [(3, .int (nI 10)), (2, .ref (zdK s + 1)), (0, .ref 1), (1, .int (nI s))] [] (zm_mk ν2) := by
        refine ⟨N3, 4, fun F n hF => ?_⟩
        simp [zg_0, zg_aaload, zg_aload_n, zg_astore_n, zg_bastore, zg_bipush, zg_getfield, zg_goto, zg_iconst, zg_ifCond, zg_if_icmp, zg_iinc, zg_iload, zg_iload_n, zg_invokevirtual, zg_ireturn, zg_istore, zg_istore_n, zf_X5_bringBack, zi_ld, zi_lda, zi_cmp, zi_retOk, zi_isI, zi_f3, zi_cr, zi_ci, zi_cn, zi_get, zi_set, zq_Desk_groupCanBeWhole, zd_c, E3 F (by omega)]
      have til2 : ∀ j, zd_til ν2 j = zd_til μ j := fun j => by unfold zd_til; rw [w2]
      have T2 : ∀ q j, ν2 (zdT q + j) = μ (zdT q + j) := fun q j => f2 _ (by unfold zdT; omega)
      have has2 : zd_has ν2 s = zd_has μ s := funext fun j => by
        unfold zd_has
        rw [f2 _ (by unfold zdK; omega), f2 _ (by unfold zdQ; omega), f2 _ (by unfold zdV; omega)]
      obtain ⟨ν3, L3, v, Rs1, ts1, S4, ⟨nl, g0, g1, g2', g3⟩, hB⟩ := ze_bring_1 (μ := ν2) (Rs := Rs) (ts := ts) D hs (fun q hq => zt_C_19 (fun j _ => T2 q j) (hC q hq)) (fun j hj q => by rw [til2] at q; rw [w2]; exact htl j hj q) hdj (fun q hq w hw a ha => by rw [Nat.add_assoc, T2, ← Nat.add_assoc]; exact hsm q hq w hw a ha) (fun q j hq hj => by rw [til2]; exact hRt q j hq hj) (L := [(3, .int (nI 10)), (2, .ref (zdK s + 1)), (0, .ref 1), (1, .int (nI s))]) rfl rfl rfl rfl
      rw [has2] at hB
      have gr3 : zd_gr ν3 (zd_bgr μ s) := fun j hj => by
        rw [hB.2.2.2.1]
        exact g2 j hj
      obtain ⟨ν4, ⟨N5, E5⟩, s5, s4⟩ := ze_sendGroup (μ := ν3) D gr3 hs
      have r4 : ∀ c, (∀ j, j < 10 → c ≠ zdW j) → (∀ j, j < 10 → c ≠ zdW j + 2) → ν4 c = ν3 c := fun c a1 a2 => funext fun d => s4 c d (fun j hj e => absurd e (a1 j hj)) a2
      have V4 : ∀ j, j < 19 → ν4 (zdV s + j) = μ (zdV s + j) := fun j hj => by
        rw [r4 _ (fun i hi => by unfold zdV zdW; omega) (fun i hi => by unfold zdV zdW; omega), hB.2.2.1 _ (zJn_T hs hj).2 (fun q hq => zJn_out hq (Or.inr (Or.inr (Or.inl ⟨s, hs, Or.inr (Or.inr (Or.inr (Or.inr ⟨j, hj, rfl⟩)))⟩)))), f2 _ (by unfold zdV; omega)]
      obtain ⟨ν5, ⟨N6, E6⟩, C5, f5, x3, x5, x6, x7, x8, x12⟩ := ze_Tree_copyFrom (μ := ν4) (D + 2) (zdT_at hs) (zdV_at hs) (by unfold zdT zdV; omega) (zt_C_19 V4 hV).1
      have gr5 : zd_gr ν5 (zd_bgr μ s) := fun j hj => by
        rw [f5 _ (by unfold zt_out zdT; omega), r4 _ (fun i hi => by unfold zdW; omega) (fun i hi => by unfold zdW; omega)]
        exact gr3 j hj
      obtain ⟨ν6, ⟨N7, E7⟩, k6, f6⟩ := ze_forgetKeptWithGroup (μ := ν5) (D + 2) gr5
      have r6 : ∀ c, (∀ q, q < 3 → c ≠ zdK q) → ν6 c = ν5 c := fun c hc => funext fun d => f6 c d (fun q hq e => absurd e (hc q hq))
      have base : ∀ c, ¬ zJ_irr c → (∀ q, q < 3 → zt_out (zdT q) c) → ν3 c = μ c := fun c a1 a2 => (hB.2.2.1 c a1 a2).trans (f2 c (fun e => a1 (by rw [e]; unfold zJ_irr; omega)))
      have K5 : ∀ q, q < 3 → ν5 (zdK q) = μ (zdK q) ∧ ν5 (zdQ q) = μ (zdQ q) ∧ ν5 (zdV q + 3) = μ (zdV q + 3) := fun q hq => by
        have o1 : ∀ p, p < 3 → zt_out (zdT p) (zdK q) := fun p hp => zJn_out hp (Or.inr (Or.inr (Or.inl ⟨q, hq, Or.inr (Or.inr (Or.inl rfl))⟩)))
        have o2 : ∀ p, p < 3 → zt_out (zdT p) (zdQ q) := fun p hp => zJn_out hp (Or.inr (Or.inr (Or.inl ⟨q, hq, Or.inr (Or.inr (Or.inr (Or.inl rfl)))⟩)))
        have o3 : ∀ p, p < 3 → zt_out (zdT p) (zdV q + 3) := fun p hp => zJn_out hp (Or.inr (Or.inr (Or.inl ⟨q, hq, Or.inr (Or.inr (Or.inr (Or.inr ⟨3, by decide, rfl⟩)))⟩)))
        refine ⟨?_, ?_, ?_⟩
        · rw [f5 _ (o1 s hs), r4 _ (fun i hi => by unfold zdK zdW; omega) (fun i hi => by unfold zdK zdW; omega), base _ (zJn_S hq).2.2.1 o1]
        · rw [f5 _ (o2 s hs), r4 _ (fun i hi => by unfold zdQ zdW; omega) (fun i hi => by unfold zdQ zdW; omega), base _ (zJn_S hq).2.2.2 o2]
        · rw [f5 _ (o3 s hs), r4 _ (fun i hi => by unfold zdV zdW; omega) (fun i hi => by unfold zdV zdW; omega), base _ (zJn_T hq (by decide)).2 o3]
      have hg5 : ∀ q, q < 3 → ∀ j, zd_has ν5 q j = zd_has μ q j := fun q hq j => by
        unfold zd_has
        rw [(K5 q hq).1, (K5 q hq).2.1, (K5 q hq).2.2]
      have hhg : ∀ q, q < 3 → zd_hasg ν5 (zd_bgr μ s) 10 q = zd_hasg μ (zd_bgr μ s) 10 q := fun q hq => by
        unfold zd_hasg
        have : (fun k => !(zd_bgr μ s k && zd_has ν5 q k)) = fun k => !(zd_bgr μ s k && zd_has μ q k) := funext fun k => by rw [hg5 q hq k]
        rw [this]
      refine ⟨ν6, v, ze_in [(0, .ref 1), (1, .int (nI s))] zq_Desk_bringBack (Nat.le_of_ble_eq_true rfl) rfl (((SS.trans S3).trans S4).end ⟨N5 + N6 + N7, 15, fun F n hF => ?_⟩), Or.inr ⟨⟨c1, hfit, hgw⟩, ν2, ν3, Rs1, ts1, f2, hB, fun c d a1 a2 a3 a4 => ?_, fun q hq => ?_, fun j hj => ?_, fun q hq hne j hj => ?_, ?_, ?_⟩⟩
      · obtain ⟨y4, z4⟩ := zt_c (μ := ν4) (zdT_at hs)
        simp [zg_0, zg_aaload, zg_aload_n, zg_astore_n, zg_bastore, zg_bipush, zg_getfield, zg_goto, zg_iconst, zg_ifCond, zg_if_icmp, zg_iinc, zg_iload, zg_iload_n, zg_invokevirtual, zg_ireturn, zg_istore, zg_istore_n, zf_X5_bringBack, zi_ld, zi_lda, zi_cmp, zi_retOk, zi_isI, zi_f3, zi_cr, zi_ci, zi_cn, g0, g1, g2', g3, zq_Desk_sendGroup, zd_c, E5 F (by omega), zd_g, zd_s hs, zdS_g hs, zdK_g hs, zq_Tree_copyFrom, z4, E6 F (by omega), zq_Desk_forgetKeptWithGroup, E7 F (by omega)]
      · rw [f6 c d a3, f5 c (a2 s hs), s4 c d a4 (fun j hj e => a1 (by rw [e]; unfold zJ_irr zdW; omega)), base c a1 a2]
      · rw [k6 q hq, (K5 q hq).1, hhg q hq]
      · have oW : ∀ p, p < 3 → zt_out (zdT p) (zdW j) := fun p hp => zJn_out hp (Or.inr (Or.inl ⟨j, hj, Or.inl rfl⟩))
        rw [r6 _ (fun q hq => by unfold zdW zdK; omega), f5 _ (oW s hs), s5 j hj, base _ (zJn_W hj).1 oW]
      · rw [r6 _ (fun q hq => by unfold zdT zdK; omega), f5 _ (by unfold zt_out zdT; omega), r4 _ (fun i hi => by unfold zdT zdW; omega) (fun i hi => by unfold zdT zdW; omega)]
      · exact zt_C_congr (fun c h1 h2 => r6 c (fun q hq => by unfold zdT at h1 h2; unfold zdK; omega)) C5
      · have rT : ∀ j, j < 24 → ν6 (zdT s + j) = ν5 (zdT s + j) := fun j hj => r6 _ (fun q hq => by unfold zdT zdK; omega)
        exact ⟨(rT 3 (by omega)).trans (x3.trans (V4 _ (by omega))), (rT 5 (by omega)).trans (x5.trans (V4 _ (by omega))), (rT 6 (by omega)).trans (x6.trans (V4 _ (by omega))), (rT 7 (by omega)).trans (x7.trans (V4 _ (by omega))), (rT 8 (by omega)).trans (x8.trans (V4 _ (by omega))), (rT 12 (by omega)).trans (x12.trans (V4 _ (by omega)))⟩
end ZBT
end
section
/-! the desk: a screen comes -/
section ZSC
variable {μ ν : zm_M} {row stk : List Nat} {Rs : Nat → List Nat} {ts : Nat → zy_F}
/-- the screen s is there now, of the size x, y; nothing has come to it yet -/
noncomputable def zd_new (μ ξ : zm_M) (s : Nat) (x y : Int32) : Prop := (∀ c d, c ≠ 32 → c ≠ zdZ s → ¬ (c = zdS s ∧ d = 3) → ξ c d = μ c d) ∧ ξ (zdS s) 3 = 1 ∧ ξ (zdZ s) 0 = x ∧ ξ (zdZ s) 1 = y
noncomputable def zd_scn (μ ν : zm_M) (Rs Rs' : Nat → List Nat) (ts ts' : Nat → zy_F) (s : Nat) (x y : Int32) : Prop :=
  ∃ ξ ν1, zd_new μ ξ s x y ∧ zd_brg ξ ν1 Rs ts s ∧ ν = zm_up ν1 (zdK s) 3 0 ∧ (((ξ (zdK s) 3 = 0 ∨ zt_fit ξ (zdV s) (zdZ s) (Rs (3 + s)) (ts (3 + s)) = false ∨ zl_al (zd_gwf ξ (zd_bgr ξ s) (zdZ s)) 10 = false) ∧ Rs' = Rs ∧ ts' = ts) ∨
    ((¬ ξ (zdK s) 3 = 0 ∧ zt_fit ξ (zdV s) (zdZ s) (Rs (3 + s)) (ts (3 + s)) = true ∧ zl_al (zd_gwf ξ (zd_bgr ξ s) (zdZ s)) 10 = true) ∧ ∃ ν2 ν3 Rs1 ts1, zd_tbk ν2 ν3 Rs ts (zd_has ξ s) 10 Rs1 ts1 ∧ Rs' = zd_upd Rs1 s (Rs (3 + s)) ∧ ts' = zd_upd ts1 s (ts (3 + s))))
theorem zJ_scn_0 (h : zJ μ row stk Rs ts) {s : Nat} {x y : Int32} (hs : s < 3) (hst : μ (zdS s) 3 = 0) (hx : 40 ≤ x ∧ x ≤ 400) (hy : 40 ≤ y ∧ y ≤ 400) {ξ ν1 : zm_M} (hn : zd_new μ ξ s x y) (hν : ∀ c, c ≠ 31 → ν1 c = ξ c) : zJ (zm_up ν1 (zdK s) 3 0) row stk Rs ts := by
  obtain ⟨n1, n2, n3, n4⟩ := hn
  have u : ∀ c, c ≠ zdK s → c ≠ 31 → zm_up ν1 (zdK s) 3 0 c = ξ c := fun c a1 a2 => (zm_up_row a1).trans (hν c a2)
  have row' : ∀ c, c ≠ zdK s → c ≠ 31 → c ≠ 32 → c ≠ zdZ s → c ≠ zdS s → zm_up ν1 (zdK s) 3 0 c = μ c := fun c a1 a2 a3 a4 a5 => by
    rw [u c a1 a2]
    funext d
    exact n1 c d a3 a4 (fun e => a5 e.1)
  obtain ⟨eR, eT⟩ := zJ_none h hs hst
  have rT : ∀ q, q < 3 → ∀ j, j < 24 → zm_up ν1 (zdK s) 3 0 (zdT q + j) = μ (zdT q + j) := fun q hq j hj => row' _ (by unfold zdT zdK; omega) (by unfold zdT; omega) (by unfold zdT; omega) (by unfold zdT zdZ; omega) (by unfold zdT zdS; omega)
  have hz : zm_up ν1 (zdK s) 3 0 (zdZ s) = ξ (zdZ s) := u _ (by unfold zdZ zdK; omega) (by unfold zdZ; omega)
  refine zJ_comes (G := fun _ => false) h hs (fun c d a1 a2 a3 a4 a5 a6 => ?_) ?_ ?_ (fun q hq => ?_) (fun j hj => ?_) (fun q hq => ?_) (fun q hq => ⟨rfl, rfl⟩)
  · rw [zm_up_ne (fun e => a5 s hs e.1 e.2), hν c (fun e => a1 (by rw [e]; unfold zJ_irr; omega))]
    exact n1 c d (fun e => a1 (by rw [e]; unfold zJ_irr; omega)) a3 a4
  · rw [u _ (by unfold zdS zdK; omega) (by unfold zdS; omega), n2]
    decide
  · rw [hz, n3, n4]
    exact ⟨hx.1, hx.2, hy⟩
  · by_cases e : q = s
    · subst e
      exact Or.inl zm_up_eq
    · exact Or.inr ⟨e, by rw [row' _ (by unfold zdK; omega) (by unfold zdK; omega) (by unfold zdK; omega) (by unfold zdK zdZ; omega) (by unfold zdK zdS; omega)]⟩
  · rw [row' _ (by unfold zdW zdK; omega) (by unfold zdW; omega) (by unfold zdW; omega) (by unfold zdW zdZ; omega) (by unfold zdW zdS; omega)]
    rfl
  · obtain ⟨c1, c2, c3⟩ := h.2.2.2.1 q hq
    have r := rT q hq
    refine ⟨zt_C_19 (fun j hj => r j (by omega)) c1, fun j => c2 j, fun j hj => by rw [r 5 (by omega), r 6 (by omega)]; exact c3 j hj, fun z => ?_⟩
    by_cases e : q = s
    · subst e
      rw [eR, eT]
      refine decide_eq_true ?_
      rw [hz, n3, n4]
      exact ⟨Int32.le_trans (show (0 : Int32) ≤ 40 by decide) hx.1, Int32.le_trans (show (0 : Int32) ≤ 40 by decide) hy.1⟩
    · have z := z.resolve_left e
      rw [zt_fit_copy (A := μ) (T := zdT q) ⟨r _ (by omega), r _ (by omega), r _ (by omega), r _ (by omega), r _ (by omega), r _ (by omega)⟩ (row' _ (by unfold zdZ zdK; omega) (by unfold zdZ; omega) (by unfold zdZ; omega) (by unfold zdZ; omega) (by unfold zdZ zdS; omega))]
      exact (h.2.2.2.2.2 q hq z).2
theorem zJ_scn_1 (h : zJ μ row stk Rs ts) {s : Nat} {x y : Int32} (hs : s < 3) (hst : μ (zdS s) 3 = 0) (hx : 40 ≤ x ∧ x ≤ 400) (hy : 40 ≤ y ∧ y ≤ 400) {ξ ν1 ν2 ν3 : zm_M} {Rs1 : Nat → List Nat} {ts1 : Nat → zy_F} (hn : zd_new μ ξ s x y) (hkp : ¬ ξ (zdK s) 3 = 0) (hfit : zt_fit ξ (zdV s) (zdZ s) (Rs (3 + s)) (ts (3 + s)) = true) (f2 : ∀ c, c ≠ 31 → ν2 c = ξ c) (hB : zd_tbk ν2 ν3 Rs ts (zd_has ξ s) 10 Rs1 ts1)
    (ff : ∀ c d, ¬ zJ_irr c → (∀ q, q < 3 → zt_out (zdT q) c) → (∀ q, q < 3 → c = zdK q → d ≠ 3) → (∀ j, j < 10 → c = zdW j → d ≠ 5) → ν1 c d = ξ c d) (fK : ∀ q, q < 3 → ν1 (zdK q) 3 = if zd_hasg ξ (zd_bgr ξ s) 10 q = true then 0 else ξ (zdK q) 3)
    (f5 : ∀ j, j < 10 → ν1 (zdW j) 5 = if zd_bgr ξ s j = true then nI s else ξ (zdW j) 5) (fT : ∀ q, q < 3 → q ≠ s → ∀ j, j < 24 → ν1 (zdT q + j) = ν3 (zdT q + j)) (hC : zt_C ν1 (zdT s) (Rs (3 + s)) (ts (3 + s))) (hcp : zt_isCopy ξ (zdV s) ν1 (zdT s)) :
    zJ (zm_up ν1 (zdK s) 3 0) row stk (zd_upd Rs1 s (Rs (3 + s))) (zd_upd ts1 s (ts (3 + s))) := by
  obtain ⟨n1, n2, n3, n4⟩ := hn
  have hw := h
  have u : ∀ c, c ≠ zdK s → zm_up ν1 (zdK s) 3 0 c = ν1 c := fun c a1 => zm_up_row a1
  have rξ : ∀ c, c ≠ 32 → c ≠ zdZ s → c ≠ zdS s → ξ c = μ c := fun c a1 a2 a3 => funext fun d => n1 c d a1 a2 (fun e => a3 e.1)
  have wξ : ∀ j, ξ (zdW j) = μ (zdW j) ∨ 10 ≤ j := fun j => by
    by_cases c : j < 10
    · exact Or.inl (rξ _ (by unfold zdW; omega) (by unfold zdW zdZ; omega) (by unfold zdW zdS; omega))
    · exact Or.inr (by omega)
  have wξ' : ∀ j, j < 10 → ξ (zdW j) = μ (zdW j) := fun j hj => (wξ j).resolve_right (by omega)
  have vξ : ∀ j, j < 19 → ξ (zdV s + j) = μ (zdV s + j) := fun j hj => rξ _ (by unfold zdV; omega) (by unfold zdV zdZ; omega) (by unfold zdV zdS; omega)
  have kξ : ∀ q, q < 3 → ξ (zdK q) = μ (zdK q) := fun q hq => rξ _ (by unfold zdK; omega) (by unfold zdK zdZ; omega) (by unfold zdK zdS; omega)
  have tilξ : ∀ j, j < 10 → zd_til ξ j = zd_til μ j := fun j hj => by unfold zd_til; rw [wξ' j hj]
  have hz : zm_up ν1 (zdK s) 3 0 (zdZ s) = ξ (zdZ s) := by
    rw [u _ (by unfold zdZ zdK; omega)]
    funext d
    exact ff _ _ (zJn_S hs).2.1 (fun q hq => zJn_out hq (Or.inr (Or.inr (Or.inl ⟨s, hs, Or.inr (Or.inl rfl)⟩)))) (fun q hq e => by unfold zdZ zdK at e; omega) (fun j hj e => by unfold zdZ zdW at e; omega)
  obtain ⟨h1, h2, h3, h4, h6, h7⟩ := h
  obtain ⟨kC, kF⟩ := h6 s hs
  obtain ⟨-, kR, kQ⟩ := kF (by rw [← kξ s hs]; exact hkp)
  -- of a tiled window: it is in the group just if it is kept
  have gH : ∀ j, j < 10 → zd_til μ j = true → (zd_bgr ξ s j = true ↔ zd_has ξ s j = true) := fun j hj q => by
    constructor
    · intro z
      rcases zl_spn_or 10 j z with z | z
      · exact z
      · exfalso
        obtain ⟨z1, ⟨z2, -⟩, -⟩ := of_decide_eq_true z
        rw [wξ' j hj] at z1 z2
        obtain ⟨-, -, -, -, a5⟩ := h3 j hj (decide_eq_true z1)
        rw [a5 (by rw [(of_decide_eq_true q).2]; decide)] at z2
        exact z2 (by decide)
    · exact fun z => zl_spn_mono 10 j z
  have hH : ∀ j, j < 10 → zd_til μ j = true → (zd_has ξ s j = true ↔ j ∈ Rs (3 + s)) := fun j hj q => by
    constructor
    · intro z
      obtain ⟨-, z⟩ := of_decide_eq_true z
      by_cases c : j ∈ Rs (3 + s)
      · exact c
      · exfalso
        rcases z with z | z
        · rw [rξ _ (by unfold zdQ; omega) (by unfold zdQ zdZ; omega) (by unfold zdQ zdS; omega)] at z
          exact (kQ j hj z).2.1 (of_decide_eq_true q).2
        · rw [vξ 3 (by omega), kC.1.2.2.2.2.1 j hj c] at z
          exact z (by decide)
    · intro z
      obtain ⟨m, hm, em⟩ := kC.1.2.2.2.1 j z
      have hm19 := kC.1.2.1.2.2.1 m (zt_I_lv kC.1 hm).2
      exact decide_eq_true ⟨hkp, Or.inr (by rw [vξ 3 (by omega), em]; exact nI_pos (by omega))⟩
  refine zJ_comes (G := zd_bgr ξ s) hw hs (fun c d a1 a2 a3 a4 a5 a6 => ?_) ?_ ?_ (fun q hq => ?_) (fun j hj => ?_) (fun q hq => ?_) (fun q hq => ?_)
  · rw [zm_up_ne (fun e => a5 s hs e.1 e.2), ff c d a1 a2 a5 a6]
    exact n1 c d (fun e => a1 (by rw [e]; unfold zJ_irr; omega)) a3 a4
  · rw [u _ (by unfold zdS zdK; omega), ff _ _ (zJn_S hs).1 (fun q hq => zJn_out hq (Or.inr (Or.inr (Or.inl ⟨s, hs, Or.inl rfl⟩)))) (fun q hq e => by unfold zdS zdK at e; omega) (fun j hj e => by unfold zdS zdW at e; omega), n2]
    decide
  · rw [hz, n3, n4]
    exact ⟨hx.1, hx.2, hy⟩
  · by_cases e : q = s
    · subst e
      exact Or.inl zm_up_eq
    · rw [zm_up_ne (fun z => e (zdK_inj z.1)), fK q hq, kξ q hq]
      by_cases c : zd_hasg ξ (zd_bgr ξ s) 10 q = true
      · rw [if_pos c]
        exact Or.inl rfl
      · rw [if_neg c]
        exact Or.inr ⟨e, rfl⟩
  · rw [u _ (by unfold zdW zdK; omega), f5 j hj, wξ' j hj]
  · by_cases e : q = s
    · subst e
      have e1 : zd_upd Rs1 q (Rs (3 + q)) q = Rs (3 + q) := if_pos rfl
      have e2 : zd_upd ts1 q (ts (3 + q)) q = ts (3 + q) := if_pos rfl
      rw [e1, e2]
      have uT : ∀ j, j < 24 → zm_up ν1 (zdK q) 3 0 (zdT q + j) = ν1 (zdT q + j) := fun j hj => u _ (by unfold zdT zdK; omega)
      refine ⟨zt_C_congr (fun c a1 a2 => u c (by unfold zdT at a1 a2; unfold zdK; omega)) hC, fun j => ?_, fun j hj => ?_, fun _ => ?_⟩
      · constructor
        · intro z
          have hj10 := kC.1.1.2.2 j z
          have ht := (kR j z).1
          exact ⟨hj10, ht, by rw [if_pos ((gH j hj10 ht).mpr ((hH j hj10 ht).mpr z))]⟩
        · rintro ⟨d1, d2, d3⟩
          by_cases c : zd_bgr ξ q j = true
          · exact (hH j d1 d2).mp ((gH j d1 d2).mp c)
          · exfalso
            rw [if_neg c] at d3
            obtain ⟨s', b1, b2, b3⟩ := (h3 j d1 (decide_eq_true (of_decide_eq_true d2).1)).2.2.1 (by rw [(of_decide_eq_true d2).2]; decide)
            rw [(nI_eq (by omega) (by omega)).mp (b2.symm.trans d3)] at b3
            exact b3 hst
      · rw [uT 5 (by omega), uT 6 (by omega), hcp.2.1, hcp.2.2.1, vξ 5 (by omega), vξ 6 (by omega)]
        exact (kR j hj).2
      · rw [zt_fit_copy (A := ξ) (T := zdV q) ⟨(uT _ (by omega)).trans hcp.1, (uT _ (by omega)).trans hcp.2.1, (uT _ (by omega)).trans hcp.2.2.1, (uT _ (by omega)).trans hcp.2.2.2.1, (uT _ (by omega)).trans hcp.2.2.2.2.1, (uT _ (by omega)).trans hcp.2.2.2.2.2⟩ hz]
        exact hfit
    · have e1 : zd_upd Rs1 s (Rs (3 + s)) q = Rs1 q := if_neg e
      have e2 : zd_upd ts1 s (ts (3 + s)) q = ts1 q := if_neg e
      rw [e1, e2]
      obtain ⟨b1, b2, b3, b4, b5⟩ := hB.2.1 q hq
      obtain ⟨c1, c2, c3⟩ := h4 q hq
      have r2 : ∀ j, j < 24 → ν2 (zdT q + j) = μ (zdT q + j) := fun j hj => (f2 _ (by unfold zdT; omega)).trans (rξ _ (by unfold zdT; omega) (by unfold zdT zdZ; omega) (by unfold zdT zdS; omega))
      have r : ∀ j, j < 24 → zm_up ν1 (zdK s) 3 0 (zdT q + j) = ν3 (zdT q + j) := fun j hj => (u _ (by unfold zdT zdK; omega)).trans (fT q hq e j hj)
      have z2 : ν2 (zdZ q) = μ (zdZ q) := (f2 _ (by unfold zdZ; omega)).trans (rξ _ (by unfold zdZ; omega) (by unfold zdZ; omega) (by unfold zdZ zdS; omega))
      have oZ : ∀ p, p < 3 → zt_out (zdT p) (zdZ q) := fun p hp => zJn_out hp (Or.inr (Or.inr (Or.inl ⟨q, hq, Or.inr (Or.inl rfl)⟩)))
      have z3 : ν3 (zdZ q) = μ (zdZ q) := (hB.2.2.1 _ (zJn_S hq).2.1 oZ).trans z2
      refine ⟨zt_C_19 (fun j hj => r j (by omega)) b1, fun j => ?_, fun j hj => ?_, fun z => ?_⟩
      · rw [b2 j, c2 j]
        constructor
        · rintro ⟨⟨d1, d2, d3⟩, d4⟩
          refine ⟨d1, d2, ?_⟩
          rw [if_neg (fun z => d4 ⟨d1, (gH j d1 d2).mp z⟩)]
          exact d3
        · rintro ⟨d1, d2, d3⟩
          by_cases c : zd_bgr ξ s j = true
          · rw [if_pos c] at d3
            exact absurd ((nI_eq (by omega) (by omega)).mp d3.symm) e
          · rw [if_neg c] at d3
            exact ⟨⟨d1, d2, d3⟩, fun z => c ((gH j d1 d2).mpr z.2)⟩
      · rw [r 5 (by omega), r 6 (by omega), b3, b4, r2 5 (by omega), r2 6 (by omega)]
        exact c3 j ((b2 j).mp hj).1
      · have z := z.resolve_left e
        rw [zt_fit_copy (A := ν3) (T := zdT q) ⟨r _ (by omega), r _ (by omega), r _ (by omega), r _ (by omega), r _ (by omega), r _ (by omega)⟩ (by
          rw [u _ (by unfold zdZ zdK; omega), z3]
          funext d
          rw [ff _ _ (zJn_S hq).2.1 oZ (fun q hq e => by unfold zdZ zdK at e; omega) (fun j hj e => by unfold zdZ zdW at e; omega), rξ _ (by unfold zdZ; omega) (by unfold zdZ; omega) (by unfold zdZ zdS; omega)])]
        refine b5 ?_
        rw [zt_fit_copy (A := μ) (T := zdT q) ⟨r2 _ (by omega), r2 _ (by omega), r2 _ (by omega), r2 _ (by omega), r2 _ (by omega), r2 _ (by omega)⟩ z2]
        exact (h7 q hq z).2
  · have := hB.2.2.2.2 q hq List.not_mem_nil
    unfold zd_upd
    rw [if_neg (by omega), if_neg (by omega)]
    exact this
end ZSC
end
section
/-! the desk: screen, run -/
section ZSD
variable {μ ν : zm_M} {row stk : List Nat} {Rs : Nat → List Nat} {ts : Nat → zy_F}
set_option maxRecDepth 100000 in
theorem ze_screen_2 (D : Nat) (h : zJ μ row stk Rs ts) {w x y : Int32} {s : Nat} (ha : zd_sarg w x y s) (hst : μ (zdS s) 3 = 0) : ∃ ν r Rs' ts', ze_E (D + 8) A_Desk_screen [.ref 1, .int w, .int x, .int y] (zm_mk μ) (some (.int r)) (zm_mk ν) ∧ zJ ν row stk Rs' ts' ∧ zd_scn μ ν Rs Rs' ts ts' s x y := by
  rcases ze_screen_0 (μ := μ) (D + 6) w x y with ⟨hno, -⟩ | ⟨s', ha', S0⟩
  · exact absurd ⟨s, ha⟩ hno
  obtain ⟨hs, rfl, hx, hy⟩ := ha
  have es : s' = s := (nI_eq (by have := ha'.1; omega) (by omega)).mp ha'.2.1.symm
  subst es
  let ξ0 := zm_up (zm_up μ 32 0 x) 32 1 y
  have S0 : ze_S (D + 7) 6 (some .int) zc_X5_screen 0 [(0, .ref 1), (1, .int (nI s')), (2, .int x), (3, .int y)] [] (zm_mk μ) 46 [(4, .ref (zdS s' + 1)), (0, .ref 1), (1, .int (nI s')), (2, .int x), (3, .int y)] [] (zm_mk ξ0) := S0
  have r0 : ∀ c, c ≠ 32 → ξ0 c = μ c := fun c hc => (zm_up_row hc).trans (zm_up_row hc)
  have x0 : ξ0 32 0 = x := (zm_up_ne (by decide)).trans zm_up_eq
  have x1 : ξ0 32 1 = y := zm_up_eq
  let ξ1 := zm_up ξ0 (zdS s') 3 1
  have q0 : ξ1 32 0 = x := (zm_up_ne (by unfold zdS; omega)).trans x0
  have q1 : ξ1 32 1 = y := (zm_up_ne (by unfold zdS; omega)).trans x1
  obtain ⟨N1, E1⟩ := ze_setSize (μ := ξ1) (D + 6) hs
  rw [q0, q1] at E1
  let ξ := zm_up (zm_up ξ1 (zdZ s') 0 x) (zdZ s') 1 y
  have mξ : zm_up (zm_up ξ1 (zdZ s') 0 x) (zdZ s') 1 y = ξ := rfl
  rw [mξ] at E1
  have hn : zd_new μ ξ s' x y := by
    refine ⟨fun c d a1 a2 a3 => ?_, ?_, (zm_up_ne (by omega)).trans zm_up_eq, zm_up_eq⟩
    · show zm_up _ _ _ _ _ _ = _
      rw [zm_up_ne (fun e => a2 e.1), zm_up_ne (fun e => a2 e.1)]
      show zm_up _ _ _ _ _ _ = _
      rw [zm_up_ne a3, r0 c a1]
    · show zm_up _ _ _ _ _ _ = _
      rw [zm_up_ne (by unfold zdS zdZ; omega), zm_up_ne (by unfold zdS zdZ; omega)]
      exact zm_up_eq
  have rξ : ∀ c, c ≠ 32 → c ≠ zdZ s' → c ≠ zdS s' → ξ c = μ c := fun c a1 a2 a3 => funext fun d => hn.1 c d a1 a2 (fun e => a3 e.1)
  have tξ : ∀ q, q < 3 → ∀ j, j < 24 → ξ (zdT q + j) = μ (zdT q + j) := fun q hq j hj => rξ _ (by unfold zdT; omega) (by unfold zdT zdZ; omega) (by unfold zdT zdS; omega)
  have wξ : ∀ j, j < 10 → ξ (zdW j) = μ (zdW j) := fun j hj => rξ _ (by unfold zdW; omega) (by unfold zdW zdZ; omega) (by unfold zdW zdS; omega)
  have tilξ : ∀ j, j < 10 → zd_til ξ j = zd_til μ j := fun j hj => by unfold zd_til; rw [wξ j hj]
  have mem : ∀ q, q < 3 → ∀ j, j ∈ Rs q ↔ (j < 10 ∧ zd_til μ j = true ∧ μ (zdW j) 5 = nI q) := fun q hq => (h.2.2.2.1 q hq).2.1
  obtain ⟨ν1, r, ⟨N2, E2⟩, hb⟩ := ze_bringBack (μ := ξ) (Rs := Rs) (ts := ts) D hs (fun q hq => zt_C_19 (fun j hj => tξ q hq j (by omega)) (h.2.2.2.1 q hq).1) (zt_C_19 (fun j hj => rξ _ (by unfold zdV; omega) (by unfold zdV zdZ; omega) (by unfold zdV zdS; omega)) (h.2.2.2.2.1 s' hs).1) (fun j hj q => by
      rw [tilξ j hj] at q
      obtain ⟨p, hp, e, hR, -⟩ := zJ_til h hj q
      exact ⟨p, hp, by rw [wξ j hj]; exact e, hR⟩) (fun q p j hq hp a b => (nI_eq (by omega) (by omega)).mp (((mem q hq j).mp a).2.2.symm.trans ((mem p hp j).mp b).2.2)) (fun q hq u hu a ha => by
      rw [show ξ (zdT q + 5 + a) = μ (zdT q + 5 + a) by rw [Nat.add_assoc]; exact tξ q hq (5 + a) (by omega)]
      exact zJ_sm h hq u hu a ha) (fun q j hq hj => by
      obtain ⟨a, b, -⟩ := (mem q hq j).mp hj
      rw [tilξ j a]
      exact b)
  have hst' : ξ0 (zdS s') 3 = 0 := by rw [r0 _ (by unfold zdS; omega)]; exact hst
  obtain ⟨N3, E3⟩ := ze_forget (μ := ν1) (D + 6) hs
  have cs1 : (zm_mk ξ1)[zdS s']? = some (2, [.ref (zdZ s' + 1), .ref (zdT s' + 1), .ref (zdK s' + 1), .int (ξ1 (zdS s') 3)]) := zm_get (zdS_h hs)
  have ck := zdK_c (μ := ν1) hs
  have m1 : zm_up ξ0 (zdS s') 3 1 = ξ1 := rfl
  have E : ze_E (D + 8) A_Desk_screen [.ref 1, .int (nI s'), .int x, .int y] (zm_mk μ) (some (.int r)) (zm_mk (zm_up ν1 (zdK s') 3 0)) := by
    refine ze_in [(0, .ref 1), (1, .int (nI s')), (2, .int x), (3, .int y)] zq_Desk_screen (Nat.le_of_ble_eq_true rfl) rfl (S0.end ⟨N1 + N2 + N3, 19, fun F n hF => ?_⟩)
    simp [zg_0, zg_aaload, zg_aload, zg_aload_n, zg_astore, zg_getfield, zg_iastore, zg_iconst, zg_ifCond, zg_iload, zg_iload_n, zg_invokestatic, zg_invokevirtual, zg_ireturn, zg_istore, zg_ldc, zg_putfield, zf_X5_screen, zi_ld, zi_lda, zi_cmp, zi_retOk, zi_isI, zi_f3, zi_cr, zi_ci, zi_cn, zi_get, zi_set, zdS_g hs, hst', zdS_p3 hs (Or.inr rfl), m1, zd_g, zq_Scr_setSize, cs1, E1 F (by omega), zq_Desk_bringBack, zd_c, E2 F (by omega), zq_Kept_forget, ck, E3 F (by omega)]
  rcases id hb with ⟨hc, f⟩ | ⟨⟨k1, k2, k3⟩, ν2, ν3, Rs1, ts1, f2, hB, ff, fK, f5, fT, hC, hcp⟩
  · exact ⟨_, r, Rs, ts, E, zJ_scn_0 h hs hst hx hy hn f, ξ, ν1, hn, hb, rfl, Or.inl ⟨hc, rfl, rfl⟩⟩
  · exact ⟨_, r, _, _, E, zJ_scn_1 h hs hst hx hy hn k1 k2 f2 hB ff fK f5 fT hC hcp, ξ, ν1, hn, hb, rfl, Or.inr ⟨⟨k1, k2, k3⟩, ν2, ν3, Rs1, ts1, hB, rfl, rfl⟩⟩
set_option maxRecDepth 100000 in
theorem ze_screen_no (D : Nat) {w x y : Int32} (hno : ¬ ∃ s, zd_sarg w x y s) : ze_E (D + 2) A_Desk_screen [.ref 1, .int w, .int x, .int y] (zm_mk μ) (some (.int (-1000000001))) (zm_mk μ) := by
  rcases ze_screen_0 (μ := μ) D w x y with ⟨-, G⟩ | ⟨s, ha, -⟩
  · exact ze_in [(0, .ref 1), (1, .int w), (2, .int x), (3, .int y)] zq_Desk_screen (Nat.le_of_ble_eq_true rfl) rfl G
  · exact absurd ⟨s, ha⟩ hno
end ZSD
end
section
/-! the reference's cells; spot, isIn, isWindow -/
theorem zM_h : zh_2[231]? = some (6, [.ref 233, .ref 234, .ref 235, .ref 236, .ref 237, .ref 238, .ref 239, .ref 240, .ref 241, .ref 242, .int 0, .ref 243, .int 0, .ref 244, .ref 245, .ref 246, .ref 247, .ref 248, .ref 249, .ref 250, .ref 251, .ref 252, .ref 253, .ref 254, .ref 255, .ref 256, .ref 257, .ref 258, .ref 259, .ref 260, .int 0, .ref 261, .ref 262]) := by decide +kernel
theorem zM_A232 : zm_isA 7 232 3 := zm_isA_of (by decide +kernel)
theorem zM_A233 : zm_isA 7 233 3 := zm_isA_of (by decide +kernel)
theorem zM_A234 : zm_isA 7 234 10 := zm_isA_of (by decide +kernel)
theorem zM_A235 : zm_isA 7 235 10 := zm_isA_of (by decide +kernel)
theorem zM_A236 : zm_isA 7 236 10 := zm_isA_of (by decide +kernel)
theorem zM_A237 : zm_isA 7 237 10 := zm_isA_of (by decide +kernel)
theorem zM_A238 : zm_isA 7 238 10 := zm_isA_of (by decide +kernel)
theorem zM_A239 : zm_isA 7 239 10 := zm_isA_of (by decide +kernel)
theorem zM_A240 : zm_isA 7 240 10 := zm_isA_of (by decide +kernel)
theorem zM_A241 : zm_isA 7 241 10 := zm_isA_of (by decide +kernel)
theorem zM_A242 : zm_isA 7 242 10 := zm_isA_of (by decide +kernel)
theorem zM_A243 : zm_isA 7 243 7 := zm_isA_of (by decide +kernel)
theorem zM_A244 : zm_isA 7 244 168 := zm_isA_of (by decide +kernel)
theorem zM_A245 : zm_isA 7 245 168 := zm_isA_of (by decide +kernel)
theorem zM_A246 : zm_isA 7 246 168 := zm_isA_of (by decide +kernel)
theorem zM_A247 : zm_isA 7 247 168 := zm_isA_of (by decide +kernel)
theorem zM_A248 : zm_isA 7 248 1680 := zm_isA_of (by decide +kernel)
theorem zM_A249 : zm_isA 7 249 168 := zm_isA_of (by decide +kernel)
theorem zM_A250 : zm_isA 7 250 168 := zm_isA_of (by decide +kernel)
theorem zM_A253 : zm_isA 7 253 30 := zm_isA_of (by decide +kernel)
theorem zM_A254 : zm_isA 7 254 30 := zm_isA_of (by decide +kernel)
theorem zM_A255 : zm_isA 7 255 24 := zm_isA_of (by decide +kernel)
theorem zM_A256 : zm_isA 7 256 24 := zm_isA_of (by decide +kernel)
theorem zM_A257 : zm_isA 7 257 24 := zm_isA_of (by decide +kernel)
theorem zM_A258 : zm_isA 7 258 24 := zm_isA_of (by decide +kernel)
theorem zM_A259 : zm_isA 7 259 24 := zm_isA_of (by decide +kernel)
theorem zM_A261 : zm_isA 7 261 10 := zm_isA_of (by decide +kernel)
theorem zM_A251 : zm_isA 8 251 3 := zm_isA_of (by decide +kernel)
theorem zM_A252 : zm_isA 8 252 30 := zm_isA_of (by decide +kernel)
theorem zM_A260 : zm_isA 8 260 10 := zm_isA_of (by decide +kernel)
section ZM0
variable {μ : zm_M}
theorem zM_g : zi_gf (zm_mk μ) 6 0 231 = some (.ref (232 + 1)) ∧ zi_gf (zm_mk μ) 6 1 231 = some (.ref (233 + 1)) ∧ zi_gf (zm_mk μ) 6 2 231 = some (.ref (234 + 1)) ∧ zi_gf (zm_mk μ) 6 3 231 = some (.ref (235 + 1)) ∧ zi_gf (zm_mk μ) 6 4 231 = some (.ref (236 + 1)) ∧ zi_gf (zm_mk μ) 6 5 231 = some (.ref (237 + 1)) ∧ zi_gf (zm_mk μ) 6 6 231 = some (.ref (238 + 1)) ∧ zi_gf (zm_mk μ) 6 7 231 = some (.ref (239 + 1)) ∧ zi_gf (zm_mk μ) 6 8 231 = some (.ref (240 + 1)) ∧ zi_gf (zm_mk μ) 6 9 231 = some (.ref (241 + 1)) ∧ zi_gf (zm_mk μ) 6 10 231 = some (.int (μ 231 10)) ∧ zi_gf (zm_mk μ) 6 11 231 = some (.ref (242 + 1)) ∧ zi_gf (zm_mk μ) 6 12 231 = some (.int (μ 231 12)) ∧ zi_gf (zm_mk μ) 6 13 231 = some (.ref (243 + 1)) ∧ zi_gf (zm_mk μ) 6 14 231 = some (.ref (244 + 1)) ∧ zi_gf (zm_mk μ) 6 15 231 = some (.ref (245 + 1)) ∧ zi_gf (zm_mk μ) 6 16 231 = some (.ref (246 + 1)) ∧ zi_gf (zm_mk μ) 6 17 231 = some (.ref (247 + 1)) ∧ zi_gf (zm_mk μ) 6 18 231 = some (.ref (248 + 1)) ∧ zi_gf (zm_mk μ) 6 19 231 = some (.ref (249 + 1)) ∧ zi_gf (zm_mk μ) 6 20 231 = some (.ref (250 + 1)) ∧ zi_gf (zm_mk μ) 6 21 231 = some (.ref (251 + 1)) ∧ zi_gf (zm_mk μ) 6 22 231 = some (.ref (252 + 1)) ∧ zi_gf (zm_mk μ) 6 23 231 = some (.ref (253 + 1)) ∧ zi_gf (zm_mk μ) 6 24 231 = some (.ref (254 + 1)) ∧ zi_gf (zm_mk μ) 6 25 231 = some (.ref (255 + 1)) ∧ zi_gf (zm_mk μ) 6 26 231 = some (.ref (256 + 1)) ∧ zi_gf (zm_mk μ) 6 27 231 = some (.ref (257 + 1)) ∧ zi_gf (zm_mk μ) 6 28 231 = some (.ref (258 + 1)) ∧ zi_gf (zm_mk μ) 6 29 231 = some (.ref (259 + 1)) ∧ zi_gf (zm_mk μ) 6 30 231 = some (.int (μ 231 30)) ∧ zi_gf (zm_mk μ) 6 31 231 = some (.ref (260 + 1)) ∧ zi_gf (zm_mk μ) 6 32 231 = some (.ref (261 + 1)) :=
  ⟨zm_gfr zM_h (by decide) rfl, zm_gfr zM_h (by decide) rfl, zm_gfr zM_h (by decide) rfl, zm_gfr zM_h (by decide) rfl, zm_gfr zM_h (by decide) rfl, zm_gfr zM_h (by decide) rfl, zm_gfr zM_h (by decide) rfl, zm_gfr zM_h (by decide) rfl, zm_gfr zM_h (by decide) rfl, zm_gfr zM_h (by decide) rfl, zm_gfi zM_h (by decide) rfl, zm_gfr zM_h (by decide) rfl, zm_gfi zM_h (by decide) rfl, zm_gfr zM_h (by decide) rfl, zm_gfr zM_h (by decide) rfl, zm_gfr zM_h (by decide) rfl, zm_gfr zM_h (by decide) rfl, zm_gfr zM_h (by decide) rfl, zm_gfr zM_h (by decide) rfl, zm_gfr zM_h (by decide) rfl, zm_gfr zM_h (by decide) rfl, zm_gfr zM_h (by decide) rfl, zm_gfr zM_h (by decide) rfl, zm_gfr zM_h (by decide) rfl, zm_gfr zM_h (by decide) rfl, zm_gfr zM_h (by decide) rfl, zm_gfr zM_h (by decide) rfl, zm_gfr zM_h (by decide) rfl, zm_gfr zM_h (by decide) rfl, zm_gfr zM_h (by decide) rfl, zm_gfi zM_h (by decide) rfl, zm_gfr zM_h (by decide) rfl, zm_gfr zM_h (by decide) rfl⟩
theorem zM_c : ∃ l, (zm_mk μ)[231]? = some (6, l) := ⟨_, zm_get zM_h⟩
theorem zM_p10 (x : Int32) : zi_pf (zm_mk μ) 6 10 231 (.int x) = some (zm_mk (zm_up μ 231 10 x)) := zm_pfi zM_h (by decide) rfl rfl
theorem zM_p12 (x : Int32) : zi_pf (zm_mk μ) 6 12 231 (.int x) = some (zm_mk (zm_up μ 231 12 x)) := zm_pfi zM_h (by decide) rfl rfl
theorem zM_p30 (x : Int32) : zi_pf (zm_mk μ) 6 30 231 (.int x) = some (zm_mk (zm_up μ 231 30 x)) := zm_pfi zM_h (by decide) rfl rfl
theorem nI_mul24 {t : Nat} (ht : t < 7) : (24 : Int32) * nI t = nI (24 * t) := by
  have : ∀ t, t < 7 → (24 : Int32) * nI t = nI (24 * t) := by decide
  exact this t ht
set_option maxRecDepth 100000 in
theorem ze_spot {h : zi_Hp} (D : Nat) {t n : Nat} (ht : t < 7) : ze_E (D + 1) A_Mod_spot [.int (nI t), .int (nI n)] h (some (.int (nI (24 * t + n)))) h := by
  have h24 : (Int8.ofInt 24).toInt32 = (24 : Int32) := by decide
  refine ze_in [(0, .int (nI t)), (1, .int (nI n))] zq_Mod_spot (Nat.le_of_ble_eq_true rfl) rfl ⟨0, 6, fun F m hF => ?_⟩
  simp [zg_0, zg_bipush, zg_iadd, zg_iload_n, zg_imul, zg_ireturn, zf_X6_spot, zi_ld, zi_lda, zi_cmp, zi_retOk, zi_isI, zi_f3, zi_cr, zi_ci, zi_cn, zi_get, zi_set, h24, nI_mul24 ht, nI_add]
set_option maxRecDepth 100000 in
theorem ze_isIn {h : zi_Hp} (D : Nat) (v a b : Int32) : ze_E (D + 1) A_Mod_isIn [.int v, .int a, .int b] h (some (.int (if a ≤ v ∧ v ≤ b then 1 else 0))) h := by
  refine ze_in [(0, .int v), (1, .int a), (2, .int b)] zq_Mod_isIn (Nat.le_of_ble_eq_true rfl) rfl ⟨0, 9, fun F m hF => ?_⟩
  by_cases c1 : v < a
  · have c1' : ¬ a ≤ v := Int32.not_le.mpr c1
    simp [zg_0, zg_goto, zg_iconst, zg_if_icmp, zg_iload_n, zg_ireturn, zf_X6_isIn, zi_ld, zi_lda, zi_cmp, zi_retOk, zi_isI, zi_f3, zi_cr, zi_ci, zi_cn, zi_get, zi_set, c1, c1']
  · have c1' : a ≤ v := Int32.not_lt.mp c1
    by_cases c2 : b < v
    · have c2' : ¬ v ≤ b := Int32.not_le.mpr c2
      simp [zg_0, zg_goto, zg_iconst, zg_if_icmp, zg_iload_n, zg_ireturn, zf_X6_isIn, zi_ld, zi_lda, zi_cmp, zi_retOk, zi_isI, zi_f3, zi_cr, zi_ci, zi_cn, zi_get, zi_set, c1, c1', c2, c2']
    · have c2' : v ≤ b := Int32.not_lt.mp c2
      simp [zg_0, zg_goto, zg_iconst, zg_if_icmp, zg_iload_n, zg_ireturn, zf_X6_isIn, zi_ld, zi_lda, zi_cmp, zi_retOk, zi_isI, zi_f3, zi_cr, zi_ci, zi_cn, zi_get, zi_set, c1, c1', c2, c2']
set_option maxRecDepth 100000 in
theorem ze_MisWindow_in (D : Nat) {k : Nat} (hk : k < 10) : ze_E (D + 2) A_Mod_isWindow [.ref 232, .int (nI k)] (zm_mk μ) (some (.int (if 0 < μ 234 k then 1 else 0))) (zm_mk μ) := by
  have h9 : (Int8.ofInt 9).toInt32 = (9 : Int32) := by decide
  obtain ⟨N1, E1⟩ := ze_isIn (h := zm_mk μ) D (nI k) 0 9
  rw [if_pos ⟨nI_pos' (by omega), nI_le (b := 9) (by omega) (by decide)⟩] at E1
  have ik : zi_in (nI k) 10 = true := zm_in hk (by decide)
  have ck : (nI k).toNatClampNeg = k := nI_clamp (by omega)
  refine ze_in [(0, .ref 232), (1, .int (nI k))] zq_Mod_isWindow (Nat.le_of_ble_eq_true rfl) rfl ⟨N1, 14, fun F m hF => ?_⟩
  by_cases c : μ 234 k ≤ 0
  · have c' : ¬ 0 < μ 234 k := Int32.not_lt.mpr c
    simp [zg_0, zg_aload_n, zg_bipush, zg_getfield, zg_goto, zg_iaload, zg_iconst, zg_ifCond, zg_iload_n, zg_invokestatic, zg_ireturn, zf_X6_isWindow, zi_ld, zi_lda, zi_cmp, zi_retOk, zi_isI, zi_f3, zi_cr, zi_ci, zi_cn, zi_get, zi_set, h9, zq_Mod_isIn, E1 F (by omega), zM_g, zm_iald (k := 0) zM_A234 ik, ck, c, c']
  · have c' : 0 < μ 234 k := Int32.not_le.mp c
    simp [zg_0, zg_aload_n, zg_bipush, zg_getfield, zg_goto, zg_iaload, zg_iconst, zg_ifCond, zg_iload_n, zg_invokestatic, zg_ireturn, zf_X6_isWindow, zi_ld, zi_lda, zi_cmp, zi_retOk, zi_isI, zi_f3, zi_cr, zi_ci, zi_cn, zi_get, zi_set, h9, zq_Mod_isIn, E1 F (by omega), zM_g, zm_iald (k := 0) zM_A234 ik, ck, c, c']
set_option maxRecDepth 100000 in
theorem ze_MisWindow_out (D : Nat) {x : Int32} (hx : x < 0 ∨ (10 : Int32) ≤ x) : ze_E (D + 2) A_Mod_isWindow [.ref 232, .int x] (zm_mk μ) (some (.int 0)) (zm_mk μ) := by
  have h9 : (Int8.ofInt 9).toInt32 = (9 : Int32) := by decide
  obtain ⟨N1, E1⟩ := ze_isIn (h := zm_mk μ) D x 0 9
  rw [if_neg (fun q => hx.elim (fun z => Int32.not_le.mpr z q.1) (fun z => absurd (Int32.le_trans z q.2) (by decide)))] at E1
  refine ze_in [(0, .ref 232), (1, .int x)] zq_Mod_isWindow (Nat.le_of_ble_eq_true rfl) rfl ⟨N1, 7, fun F m hF => ?_⟩
  simp [zg_0, zg_aload_n, zg_bipush, zg_getfield, zg_goto, zg_iaload, zg_iconst, zg_ifCond, zg_iload_n, zg_invokestatic, zg_ireturn, zf_X6_isWindow, zi_ld, zi_lda, zi_cmp, zi_retOk, zi_isI, zi_f3, zi_cr, zi_ci, zi_cn, zi_get, zi_set, h9, zq_Mod_isIn, E1 F (by omega)]
end ZM0
end
section
/-! the reference: tabs of a leaf -/
theorem nI_mul10 {s : Nat} (hs : s < 168) : (10 : Int32) * nI s = nI (10 * s) := by
  have : ∀ s, s < 168 → (10 : Int32) * nI s = nI (10 * s) := by decide +kernel
  exact this s hs
/-- the tabs of the node n of the tree τ -/
noncomputable def zu_T (μ : zm_M) (τ n : Nat) (l : List Nat) : Prop := l.length ≤ 10 ∧ μ 249 (24 * τ + n) = nI l.length ∧ ∀ j, j < l.length → μ 248 (10 * (24 * τ + n) + j) = nI (l.getD j 0)
section ZM2
variable {μ : zm_M} {τ n : Nat} {l : List Nat}
set_option maxRecDepth 100000 in
theorem ze_placeOfTab (D : Nat) (ht : τ < 7) (hn : n < 24) (hT : zu_T μ τ n l) (hb : ∀ x ∈ l, x < 10) {k : Nat} (hk : k < 10) : ze_E (D + 2) A_Mod_placeOfTab [.ref 232, .int (nI τ), .int (nI n), .int (nI k)] (zm_mk μ) (some (.int (zr_ix l k 0))) (zm_mk μ) := by
  obtain ⟨hl, t1, t2⟩ := hT
  have h10 : (Int8.ofInt 10).toInt32 = (10 : Int32) := by decide
  obtain ⟨N1, E1⟩ := ze_spot (h := zm_mk μ) (n := n) D ht
  have ia : zi_in (nI (24 * τ + n)) 168 = true := zm_in (by omega) (by decide)
  have ca : (nI (24 * τ + n)).toNatClampNeg = 24 * τ + n := nI_clamp (by omega)
  have m10 : (10 : Int32) * nI (24 * τ + n) = nI (10 * (24 * τ + n)) := nI_mul10 (by omega)
  generalize 24 * τ + n = a at t1 t2 E1 ia ca m10
  have key : ∃ r h', ze_G (D + 1) 5 (some .int) zc_X6_placeOfTab 3 [(4, .int (nI 0)), (0, .ref 232), (1, .int (nI τ)), (2, .int (nI n)), (3, .int (nI k))] [] (zm_mk μ) r h' ∧ (r = some (.int (zr_ix l k 0)) ∧ zm_mk μ = h') := by
    refine ze_loop (Q := fun i L hp => i ≤ l.length ∧ zi_nl L = true ∧ zi_get L 0 = some (.ref 232) ∧ zi_get L 1 = some (.int (nI τ)) ∧ zi_get L 2 = some (.int (nI n)) ∧ zi_get L 3 = some (.int (nI k)) ∧ zi_get L 4 = some (.int (nI i)) ∧ zm_mk μ = hp ∧ (zr_ix l k 0 = zr_ix (l.drop i) k i)) (R := fun r h' => r = some (.int (zr_ix l k 0)) ∧ zm_mk μ = h') l.length ?_ ?_ l.length 0 _ _ (by omega) ⟨by omega, rfl, rfl, rfl, rfl, rfl, rfl, rfl, rfl⟩
    · rintro i L _ hi ⟨-, nl, g0, g1, g2, g3, g4, rfl, hq⟩
      have hm : l.getD i 0 ∈ l := zl_mem hi
      have tv := t2 i hi
      rw [zl_drop hi] at hq
      generalize l.getD i 0 = v at hm hq tv
      have hv := hb v hm
      have c1 : ¬ nI l.length ≤ nI i := nI_ge hi (by omega)
      have ij : zi_in (nI (10 * a + i)) 1680 = true := by
        have := (zi_in_lt ia).2
        rw [ca] at this
        exact zm_in (by omega) (by decide)
      have a168 := (zi_in_lt ia).2
      rw [ca] at a168
      have cj : (nI (10 * a + i)).toNatClampNeg = 10 * a + i := nI_clamp (by omega)
      have hq' : zr_ix l k 0 = if v = k then nI i else zr_ix (l.drop (i + 1)) k (i + 1) := hq
      by_cases c2 : v = k
      · rw [if_pos c2] at hq'
        subst c2
        right
        refine ⟨some (.int (nI i)), zm_mk μ, ⟨N1, 22, fun F m hF => ?_⟩, by rw [hq'], rfl⟩
        simp (maxDischargeDepth := 9) [zg_0, zg_aload_n, zg_bipush, zg_getfield, zg_goto, zg_iadd, zg_iaload, zg_iconst, zg_if_icmp, zg_iinc, zg_iload, zg_iload_n, zg_imul, zg_invokestatic, zg_ireturn, zg_istore, zf_X6_placeOfTab, zi_ld, zi_lda, zi_cmp, zi_retOk, zi_isI, zi_f3, zi_cr, zi_ci, zi_cn, zi_get_ne, zi_nl_i, zi_nl_r, zi_get_set_eq, nl, g0, g1, g2, g3, g4, zM_g, h10, zq_Mod_spot, E1 F (by omega), zm_iald (k := 0) zM_A249 ia, ca, t1, c1, m10, nI_add, zm_iald (k := 0) zM_A248 ij, cj, tv, nI_1]
      · rw [if_neg c2] at hq'
        have c2' : ¬ nI v = nI k := fun e => c2 ((nI_eq (by omega) (by omega)).mp e)
        left
        refine ⟨zi_set L 4 (.int (nI (i + 1))), zm_mk μ, ⟨N1, 22, fun F m hF => ?_⟩, by omega, ?_, ?_, ?_, ?_, ?_, zi_get_set_eq, rfl, hq'⟩
        · simp (maxDischargeDepth := 9) [zg_0, zg_aload_n, zg_bipush, zg_getfield, zg_goto, zg_iadd, zg_iaload, zg_iconst, zg_if_icmp, zg_iinc, zg_iload, zg_iload_n, zg_imul, zg_invokestatic, zg_ireturn, zg_istore, zf_X6_placeOfTab, zi_ld, zi_lda, zi_cmp, zi_retOk, zi_isI, zi_f3, zi_cr, zi_ci, zi_cn, zi_get_ne, zi_nl_i, zi_nl_r, zi_get_set_eq, nl, g0, g1, g2, g3, g4, zM_g, h10, zq_Mod_spot, E1 F (by omega), zm_iald (k := 0) zM_A249 ia, ca, t1, c1, m10, nI_add, zm_iald (k := 0) zM_A248 ij, cj, tv, c2', nI_1]
        · simp (maxDischargeDepth := 9) [zi_get_ne, zi_nl_i, zi_nl_r, zi_get_set_eq, nl]
        · simp (maxDischargeDepth := 9) [zi_get_ne, zi_nl_i, zi_nl_r, zi_get_set_eq, nl, g0]
        · simp (maxDischargeDepth := 9) [zi_get_ne, zi_nl_i, zi_nl_r, zi_get_set_eq, nl, g1]
        · simp (maxDischargeDepth := 9) [zi_get_ne, zi_nl_i, zi_nl_r, zi_get_set_eq, nl, g2]
        · simp (maxDischargeDepth := 9) [zi_get_ne, zi_nl_i, zi_nl_r, zi_get_set_eq, nl, g3]
    · rintro L _ ⟨-, nl, g0, g1, g2, g3, g4, rfl, hq⟩
      rw [List.drop_length] at hq
      have hq : zr_ix l k 0 = -1 := hq
      rw [hq]
      refine ⟨some (.int (-1)), zm_mk μ, ⟨N1, 10, fun F m hF => ?_⟩, rfl, rfl⟩
      simp [zg_0, zg_aload_n, zg_bipush, zg_getfield, zg_goto, zg_iadd, zg_iaload, zg_iconst, zg_if_icmp, zg_iinc, zg_iload, zg_iload_n, zg_imul, zg_invokestatic, zg_ireturn, zg_istore, zf_X6_placeOfTab, zi_ld, zi_lda, zi_cmp, zi_retOk, zi_isI, zi_f3, zi_cr, zi_ci, zi_cn, g0, g1, g2, g4, zM_g, zq_Mod_spot, E1 F (by omega), zm_iald (k := 0) zM_A249 ia, ca, t1]
  obtain ⟨r, h', G, rfl, rfl⟩ := key
  refine ze_in [(0, .ref 232), (1, .int (nI τ)), (2, .int (nI n)), (3, .int (nI k))] zq_Mod_placeOfTab (Nat.le_of_ble_eq_true rfl) rfl (ze_S.end ⟨0, 2, fun F m hF => ?_⟩ G)
  simp [zg_0, zg_aload_n, zg_bipush, zg_getfield, zg_goto, zg_iadd, zg_iaload, zg_iconst, zg_if_icmp, zg_iinc, zg_iload, zg_iload_n, zg_imul, zg_invokestatic, zg_ireturn, zg_istore, zf_X6_placeOfTab, zi_ld, zi_lda, zi_cmp, zi_retOk, zi_isI, zi_f3, zi_cr, zi_ci, zi_cn, zi_get, zi_set, nI_0]
end ZM2
end
section
/-! the reference: the leaf of a window, what is above a node -/
section ZM3
variable {μ : zm_M} {τ : Nat} {tb : Nat → List Nat}
noncomputable def zu_lo (μ : zm_M) (τ : Nat) (tb : Nat → List Nat) (k : Nat) : Int32 := zl_fi (fun n => decide (μ 244 (24 * τ + n) = 1 ∧ k ∈ tb n)) (-1) 24 0
set_option maxRecDepth 100000 in
theorem ze_MleafOf (D : Nat) (ht : τ < 7) (hT : ∀ n, n < 24 → μ 244 (24 * τ + n) = 1 → zu_T μ τ n (tb n) ∧ ∀ x ∈ tb n, x < 10) {k : Nat} (hk : k < 10) : ze_E (D + 3) A_Mod_leafOf [.ref 232, .int (nI τ), .int (nI k)] (zm_mk μ) (some (.int (zu_lo μ τ tb k))) (zm_mk μ) := by
  have h24 : (Int8.ofInt 24).toInt32 = (24 : Int32) := by decide
  have key : ∃ r h', ze_G (D + 2) 4 (some .int) zc_X6_leafOf 2 [(3, .int (nI 0)), (0, .ref 232), (1, .int (nI τ)), (2, .int (nI k))] [] (zm_mk μ) r h' ∧ (r = some (.int (zu_lo μ τ tb k)) ∧ zm_mk μ = h') := by
    refine ze_loop (Q := fun i L hp => i ≤ 24 ∧ zi_nl L = true ∧ zi_get L 0 = some (.ref 232) ∧ zi_get L 1 = some (.int (nI τ)) ∧ zi_get L 2 = some (.int (nI k)) ∧ zi_get L 3 = some (.int (nI i)) ∧ zm_mk μ = hp ∧ (zu_lo μ τ tb k = zl_fi (fun n => decide (μ 244 (24 * τ + n) = 1 ∧ k ∈ tb n)) (-1) (24 - i) i)) (R := fun r h' => r = some (.int (zu_lo μ τ tb k)) ∧ zm_mk μ = h') 24 ?_ ?_ 24 0 _ _ (by omega) ⟨by omega, rfl, rfl, rfl, rfl, rfl, rfl, rfl⟩
    · rintro i L _ hi ⟨-, nl, g0, g1, g2, g3, rfl, hq⟩
      rw [zl_fi_s hi] at hq
      have c1 : ¬ (24 : Int32) ≤ nI i := nI_ge (b := 24) hi (by decide)
      obtain ⟨N1, E1⟩ := ze_spot (h := zm_mk μ) (n := i) (D + 1) ht
      have ia : zi_in (nI (24 * τ + i)) 168 = true := zm_in (by omega) (by decide)
      have ca : (nI (24 * τ + i)).toNatClampNeg = 24 * τ + i := nI_clamp (by omega)
      obtain ⟨lm, cm⟩ := zM_c (μ := μ)
      by_cases c2 : μ 244 (24 * τ + i) = 1
      · obtain ⟨hTi, hbi⟩ := hT i hi c2
        obtain ⟨N2, E2⟩ := ze_placeOfTab (μ := μ) D ht hi hTi hbi hk
        by_cases c3 : k ∈ tb i
        · rw [if_pos (by simp [c2, c3])] at hq
          rw [zr_ix_in c3] at E2
          have hix : (tb i).idxOf k < 10 := Nat.lt_of_lt_of_le (List.idxOf_lt_length_of_mem c3) hTi.1
          have c4 : ¬ nI (0 + (tb i).idxOf k) < 0 := nI_pos (by omega)
          generalize nI (0 + (tb i).idxOf k) = p at E2 c4
          right
          refine ⟨some (.int (nI i)), zm_mk μ, ⟨N1 + N2, 19, fun F m hF => ?_⟩, by rw [hq], rfl⟩
          simp (maxDischargeDepth := 9) [zg_0, zg_aload_n, zg_bipush, zg_getfield, zg_goto, zg_iaload, zg_iconst, zg_ifCond, zg_if_icmp, zg_iinc, zg_iload_n, zg_invokestatic, zg_invokevirtual, zg_ireturn, zg_istore_n, zf_X6_leafOf, zi_ld, zi_lda, zi_cmp, zi_retOk, zi_isI, zi_f3, zi_cr, zi_ci, zi_cn, zi_get_ne, zi_nl_i, zi_nl_r, zi_get_set_eq, nl, g0, g1, g2, g3, h24, c1, zM_g, zq_Mod_spot, E1 F (by omega), zm_iald (k := 0) zM_A244 ia, ca, c2, zq_Mod_placeOfTab, cm, E2 F (by omega), c4, nI_1]
        · rw [if_neg (by simp [c3])] at hq
          rw [zr_ix_out c3] at E2
          have c4 : (-1 : Int32) < 0 := by decide
          left
          refine ⟨zi_set L 3 (.int (nI (i + 1))), zm_mk μ, ⟨N1 + N2, 19, fun F m hF => ?_⟩, by omega, ?_, ?_, ?_, ?_, zi_get_set_eq, rfl, hq⟩
          · simp (maxDischargeDepth := 9) [zg_0, zg_aload_n, zg_bipush, zg_getfield, zg_goto, zg_iaload, zg_iconst, zg_ifCond, zg_if_icmp, zg_iinc, zg_iload_n, zg_invokestatic, zg_invokevirtual, zg_ireturn, zg_istore_n, zf_X6_leafOf, zi_ld, zi_lda, zi_cmp, zi_retOk, zi_isI, zi_f3, zi_cr, zi_ci, zi_cn, zi_get_ne, zi_nl_i, zi_nl_r, zi_get_set_eq, nl, g0, g1, g2, g3, h24, c1, zM_g, zq_Mod_spot, E1 F (by omega), zm_iald (k := 0) zM_A244 ia, ca, c2, zq_Mod_placeOfTab, cm, E2 F (by omega), c4, nI_1]
          · simp (maxDischargeDepth := 9) [zi_get_ne, zi_nl_i, zi_nl_r, zi_get_set_eq, nl]
          · simp (maxDischargeDepth := 9) [zi_get_ne, zi_nl_i, zi_nl_r, zi_get_set_eq, nl, g0]
          · simp (maxDischargeDepth := 9) [zi_get_ne, zi_nl_i, zi_nl_r, zi_get_set_eq, nl, g1]
          · simp (maxDischargeDepth := 9) [zi_get_ne, zi_nl_i, zi_nl_r, zi_get_set_eq, nl, g2]
      · have N2 : Nat := 0
        rw [if_neg (by simp [c2])] at hq
        left
        refine ⟨zi_set L 3 (.int (nI (i + 1))), zm_mk μ, ⟨N1 + N2, 13, fun F m hF => ?_⟩, by omega, ?_, ?_, ?_, ?_, zi_get_set_eq, rfl, hq⟩
        · simp (maxDischargeDepth := 9) [zg_0, zg_aload_n, zg_bipush, zg_getfield, zg_goto, zg_iaload, zg_iconst, zg_ifCond, zg_if_icmp, zg_iinc, zg_iload_n, zg_invokestatic, zg_invokevirtual, zg_ireturn, zg_istore_n, zf_X6_leafOf, zi_ld, zi_lda, zi_cmp, zi_retOk, zi_isI, zi_f3, zi_cr, zi_ci, zi_cn, zi_get_ne, zi_nl_i, zi_nl_r, zi_get_set_eq, nl, g0, g1, g2, g3, h24, c1, zM_g, zq_Mod_spot, E1 F (by omega), zm_iald (k := 0) zM_A244 ia, ca, c2, nI_1]
        · simp (maxDischargeDepth := 9) [zi_get_ne, zi_nl_i, zi_nl_r, zi_get_set_eq, nl]
        · simp (maxDischargeDepth := 9) [zi_get_ne, zi_nl_i, zi_nl_r, zi_get_set_eq, nl, g0]
        · simp (maxDischargeDepth := 9) [zi_get_ne, zi_nl_i, zi_nl_r, zi_get_set_eq, nl, g1]
        · simp (maxDischargeDepth := 9) [zi_get_ne, zi_nl_i, zi_nl_r, zi_get_set_eq, nl, g2]
    · rintro L _ ⟨-, nl, g0, g1, g2, g3, rfl, hq⟩
      rw [hq]
      have c1 : (24 : Int32) ≤ nI 24 := by decide
      refine ⟨some (.int (-1)), zm_mk μ, ⟨0, 5, fun F m hF => ?_⟩, rfl, rfl⟩
      simp [zg_0, zg_aload_n, zg_bipush, zg_getfield, zg_goto, zg_iaload, zg_iconst, zg_ifCond, zg_if_icmp, zg_iinc, zg_iload_n, zg_invokestatic, zg_invokevirtual, zg_ireturn, zg_istore_n, zf_X6_leafOf, zi_ld, zi_lda, zi_cmp, zi_retOk, zi_isI, zi_f3, zi_cr, zi_ci, zi_cn, g0, g3, h24, c1]
  obtain ⟨r, h', G, rfl, rfl⟩ := key
  refine ze_in [(0, .ref 232), (1, .int (nI τ)), (2, .int (nI k))] zq_Mod_leafOf (Nat.le_of_ble_eq_true rfl) rfl (ze_S.end ⟨0, 2, fun F m hF => ?_⟩ G)
  simp [zg_0, zg_aload_n, zg_bipush, zg_getfield, zg_goto, zg_iaload, zg_iconst, zg_ifCond, zg_if_icmp, zg_iinc, zg_iload_n, zg_invokestatic, zg_invokevirtual, zg_ireturn, zg_istore_n, zf_X6_leafOf, zi_ld, zi_lda, zi_cmp, zi_retOk, zi_isI, zi_f3, zi_cr, zi_ci, zi_cn, zi_get, zi_set, nI_0]
noncomputable def zu_ab (μ : zm_M) (τ : Nat) (x : Int32) : Int32 := zl_fi (fun n => decide (1 < μ 244 (24 * τ + n) ∧ (μ 245 (24 * τ + n) = x ∨ μ 246 (24 * τ + n) = x))) (-1) 24 0
set_option maxRecDepth 100000 in
theorem ze_Mabove (D : Nat) (ht : τ < 7) (x : Int32) : ze_E (D + 2) A_Mod_above [.ref 232, .int (nI τ), .int x] (zm_mk μ) (some (.int (zu_ab μ τ x))) (zm_mk μ) := by
  have h24 : (Int8.ofInt 24).toInt32 = (24 : Int32) := by decide
  have key : ∃ r h', ze_G (D + 1) 4 (some .int) zc_X6_above 2 [(3, .int (nI 0)), (0, .ref 232), (1, .int (nI τ)), (2, .int x)] [] (zm_mk μ) r h' ∧ (r = some (.int (zu_ab μ τ x)) ∧ zm_mk μ = h') := by
    refine ze_loop (Q := fun i L hp => i ≤ 24 ∧ zi_nl L = true ∧ zi_get L 0 = some (.ref 232) ∧ zi_get L 1 = some (.int (nI τ)) ∧ zi_get L 2 = some (.int x) ∧ zi_get L 3 = some (.int (nI i)) ∧ zm_mk μ = hp ∧ (zu_ab μ τ x = zl_fi (fun n => decide (1 < μ 244 (24 * τ + n) ∧ (μ 245 (24 * τ + n) = x ∨ μ 246 (24 * τ + n) = x))) (-1) (24 - i) i)) (R := fun r h' => r = some (.int (zu_ab μ τ x)) ∧ zm_mk μ = h') 24 ?_ ?_ 24 0 _ _ (by omega) ⟨by omega, rfl, rfl, rfl, rfl, rfl, rfl, rfl⟩
    · rintro i L _ hi ⟨-, nl, g0, g1, g2, g3, rfl, hq⟩
      rw [zl_fi_s hi] at hq
      have c1 : ¬ (24 : Int32) ≤ nI i := nI_ge (b := 24) hi (by decide)
      obtain ⟨N1, E1⟩ := ze_spot (h := zm_mk μ) (n := i) D ht
      have ia : zi_in (nI (24 * τ + i)) 168 = true := zm_in (by omega) (by decide)
      have ca : (nI (24 * τ + i)).toNatClampNeg = 24 * τ + i := nI_clamp (by omega)
      by_cases c2 : μ 244 (24 * τ + i) ≤ 1
      · have c2' : ¬ 1 < μ 244 (24 * τ + i) := Int32.not_lt.mpr c2
        rw [if_neg (by simp [c2'])] at hq
        left
        refine ⟨zi_set L 3 (.int (nI (i + 1))), zm_mk μ, ⟨N1, 13, fun F m hF => ?_⟩, by omega, ?_, ?_, ?_, ?_, zi_get_set_eq, rfl, hq⟩
        · simp (maxDischargeDepth := 9) [zg_0, zg_aload_n, zg_bipush, zg_getfield, zg_goto, zg_iaload, zg_iconst, zg_if_icmp, zg_iinc, zg_iload_n, zg_invokestatic, zg_ireturn, zg_istore_n, zf_X6_above, zi_ld, zi_lda, zi_cmp, zi_retOk, zi_isI, zi_f3, zi_cr, zi_ci, zi_cn, zi_get_ne, zi_nl_i, zi_nl_r, zi_get_set_eq, nl, g0, g1, g2, g3, h24, c1, zM_g, zq_Mod_spot, E1 F (by omega), zm_iald (k := 0) zM_A244 ia, ca, c2, nI_1]
        · simp (maxDischargeDepth := 9) [zi_get_ne, zi_nl_i, zi_nl_r, zi_get_set_eq, nl]
        · simp (maxDischargeDepth := 9) [zi_get_ne, zi_nl_i, zi_nl_r, zi_get_set_eq, nl, g0]
        · simp (maxDischargeDepth := 9) [zi_get_ne, zi_nl_i, zi_nl_r, zi_get_set_eq, nl, g1]
        · simp (maxDischargeDepth := 9) [zi_get_ne, zi_nl_i, zi_nl_r, zi_get_set_eq, nl, g2]
      · have c2' : 1 < μ 244 (24 * τ + i) := Int32.not_le.mp c2
        by_cases c3 : μ 245 (24 * τ + i) = x
        · rw [if_pos (by simp [c2', c3])] at hq
          right
          refine ⟨some (.int (nI i)), zm_mk μ, ⟨N1, 21, fun F m hF => ?_⟩, by rw [hq], rfl⟩
          simp (maxDischargeDepth := 9) [zg_0, zg_aload_n, zg_bipush, zg_getfield, zg_goto, zg_iaload, zg_iconst, zg_if_icmp, zg_iinc, zg_iload_n, zg_invokestatic, zg_ireturn, zg_istore_n, zf_X6_above, zi_ld, zi_lda, zi_cmp, zi_retOk, zi_isI, zi_f3, zi_cr, zi_ci, zi_cn, zi_get_ne, zi_nl_i, zi_nl_r, zi_get_set_eq, nl, g0, g1, g2, g3, h24, c1, zM_g, zq_Mod_spot, E1 F (by omega), zm_iald (k := 0) zM_A244 ia, zm_iald (k := 0) zM_A245 ia, ca, c2, c3, nI_1]
        · by_cases c4 : μ 246 (24 * τ + i) = x
          · rw [if_pos (by simp [c2', c4])] at hq
            right
            refine ⟨some (.int (nI i)), zm_mk μ, ⟨N1, 29, fun F m hF => ?_⟩, by rw [hq], rfl⟩
            simp (maxDischargeDepth := 9) [zg_0, zg_aload_n, zg_bipush, zg_getfield, zg_goto, zg_iaload, zg_iconst, zg_if_icmp, zg_iinc, zg_iload_n, zg_invokestatic, zg_ireturn, zg_istore_n, zf_X6_above, zi_ld, zi_lda, zi_cmp, zi_retOk, zi_isI, zi_f3, zi_cr, zi_ci, zi_cn, zi_get_ne, zi_nl_i, zi_nl_r, zi_get_set_eq, nl, g0, g1, g2, g3, h24, c1, zM_g, zq_Mod_spot, E1 F (by omega), zm_iald (k := 0) zM_A244 ia, zm_iald (k := 0) zM_A245 ia, zm_iald (k := 0) zM_A246 ia, ca, c2, c3, c4, nI_1]
          · rw [if_neg (by simp [c3, c4])] at hq
            left
            refine ⟨zi_set L 3 (.int (nI (i + 1))), zm_mk μ, ⟨N1, 29, fun F m hF => ?_⟩, by omega, ?_, ?_, ?_, ?_, zi_get_set_eq, rfl, hq⟩
            · simp (maxDischargeDepth := 9) [zg_0, zg_aload_n, zg_bipush, zg_getfield, zg_goto, zg_iaload, zg_iconst, zg_if_icmp, zg_iinc, zg_iload_n, zg_invokestatic, zg_ireturn, zg_istore_n, zf_X6_above, zi_ld, zi_lda, zi_cmp, zi_retOk, zi_isI, zi_f3, zi_cr, zi_ci, zi_cn, zi_get_ne, zi_nl_i, zi_nl_r, zi_get_set_eq, nl, g0, g1, g2, g3, h24, c1, zM_g, zq_Mod_spot, E1 F (by omega), zm_iald (k := 0) zM_A244 ia, zm_iald (k := 0) zM_A245 ia, zm_iald (k := 0) zM_A246 ia, ca, c2, c3, c4, nI_1]
            · simp (maxDischargeDepth := 9) [zi_get_ne, zi_nl_i, zi_nl_r, zi_get_set_eq, nl]
            · simp (maxDischargeDepth := 9) [zi_get_ne, zi_nl_i, zi_nl_r, zi_get_set_eq, nl, g0]
            · simp (maxDischargeDepth := 9) [zi_get_ne, zi_nl_i, zi_nl_r, zi_get_set_eq, nl, g1]
            · simp (maxDischargeDepth := 9) [zi_get_ne, zi_nl_i, zi_nl_r, zi_get_set_eq, nl, g2]
    · rintro L _ ⟨-, nl, g0, g1, g2, g3, rfl, hq⟩
      rw [hq]
      have c1 : (24 : Int32) ≤ nI 24 := by decide
      refine ⟨some (.int (-1)), zm_mk μ, ⟨0, 5, fun F m hF => ?_⟩, rfl, rfl⟩
      simp [zg_0, zg_aload_n, zg_bipush, zg_getfield, zg_goto, zg_iaload, zg_iconst, zg_if_icmp, zg_iinc, zg_iload_n, zg_invokestatic, zg_ireturn, zg_istore_n, zf_X6_above, zi_ld, zi_lda, zi_cmp, zi_retOk, zi_isI, zi_f3, zi_cr, zi_ci, zi_cn, g0, g3, h24, c1]
  obtain ⟨r, h', G, rfl, rfl⟩ := key
  refine ze_in [(0, .ref 232), (1, .int (nI τ)), (2, .int x)] zq_Mod_above (Nat.le_of_ble_eq_true rfl) rfl (ze_S.end ⟨0, 2, fun F m hF => ?_⟩ G)
  simp [zg_0, zg_aload_n, zg_bipush, zg_getfield, zg_goto, zg_iaload, zg_iconst, zg_if_icmp, zg_iinc, zg_iload_n, zg_invokestatic, zg_ireturn, zg_istore_n, zf_X6_above, zi_ld, zi_lda, zi_cmp, zi_retOk, zi_isI, zi_f3, zi_cr, zi_ci, zi_cn, zi_get, zi_set, nI_0]
end ZM3
end
section
/-! the reference: nodes taken and put in place -/
section ZM4
variable {μ : zm_M} {τ : Nat}
noncomputable def zu_st (μ : zm_M) (τ : Nat) (c x y : Int32) : zm_M := if c < 0 then zm_up μ 243 τ y else if μ 245 (24 * τ + c.toNatClampNeg) = x then zm_up μ 245 (24 * τ + c.toNatClampNeg) y else zm_up μ 246 (24 * τ + c.toNatClampNeg) y
set_option maxRecDepth 100000 in
theorem ze_Mstand (D : Nat) (ht : τ < 7) {c : Int32} (hc : c < 0 ∨ ∃ n, n < 24 ∧ c = nI n) (x y : Int32) : ze_E (D + 2) A_Mod_stand [.ref 232, .int (nI τ), .int c, .int x, .int y] (zm_mk μ) none (zm_mk (zu_st μ τ c x y)) := by
  unfold zu_st
  by_cases c0 : c < 0
  · rw [if_pos c0]
    have c0' : ¬ (0 : Int32) ≤ c := Int32.not_le.mpr c0
    have it : zi_in (nI τ) 7 = true := zm_in ht (by decide)
    have ct : (nI τ).toNatClampNeg = τ := nI_clamp (by omega)
    refine ze_in [(0, .ref 232), (1, .int (nI τ)), (2, .int c), (3, .int x), (4, .int y)] zq_Mod_stand (Nat.le_of_ble_eq_true rfl) rfl ⟨0, 9, fun F m hF => ?_⟩
    simp [zg_0, zg_aload_n, zg_getfield, zg_goto, zg_iaload, zg_iastore, zg_ifCond, zg_if_icmp, zg_iload, zg_iload_n, zg_invokestatic, zg_return, zf_X6_stand, zi_ld, zi_lda, zi_cmp, zi_retOk, zi_isI, zi_f3, zi_cr, zi_ci, zi_cn, zi_get, zi_set, c0', zM_g, zm_iast zM_A243 it, ct]
  · rw [if_neg c0]
    obtain ⟨n, hn, rfl⟩ := hc.resolve_left c0
    have c0' : (0 : Int32) ≤ nI n := nI_pos' (by omega)
    obtain ⟨N1, E1⟩ := ze_spot (h := zm_mk μ) (n := n) D ht
    have ia : zi_in (nI (24 * τ + n)) 168 = true := zm_in (by omega) (by decide)
    have ca : (nI (24 * τ + n)).toNatClampNeg = 24 * τ + n := nI_clamp (by omega)
    have cn : (nI n).toNatClampNeg = n := nI_clamp (by omega)
    rw [cn]
    by_cases c1 : μ 245 (24 * τ + n) = x
    · rw [if_pos c1]
      refine ze_in [(0, .ref 232), (1, .int (nI τ)), (2, .int (nI n)), (3, .int x), (4, .int y)] zq_Mod_stand (Nat.le_of_ble_eq_true rfl) rfl ⟨N1, 19, fun F m hF => ?_⟩
      simp [zg_0, zg_aload_n, zg_getfield, zg_goto, zg_iaload, zg_iastore, zg_ifCond, zg_if_icmp, zg_iload, zg_iload_n, zg_invokestatic, zg_return, zf_X6_stand, zi_ld, zi_lda, zi_cmp, zi_retOk, zi_isI, zi_f3, zi_cr, zi_ci, zi_cn, zi_get, zi_set, c0', zM_g, zq_Mod_spot, E1 F (by omega), zm_iald (k := 0) zM_A245 ia, zm_iast zM_A245 ia, ca, c1]
    · rw [if_neg c1]
      refine ze_in [(0, .ref 232), (1, .int (nI τ)), (2, .int (nI n)), (3, .int x), (4, .int y)] zq_Mod_stand (Nat.le_of_ble_eq_true rfl) rfl ⟨N1, 18, fun F m hF => ?_⟩
      simp [zg_0, zg_aload_n, zg_getfield, zg_goto, zg_iaload, zg_iastore, zg_ifCond, zg_if_icmp, zg_iload, zg_iload_n, zg_invokestatic, zg_return, zf_X6_stand, zi_ld, zi_lda, zi_cmp, zi_retOk, zi_isI, zi_f3, zi_cr, zi_ci, zi_cn, zi_get, zi_set, c0', zM_g, zq_Mod_spot, E1 F (by omega), zm_iald (k := 0) zM_A245 ia, zm_iast zM_A246 ia, ca, c1]
set_option maxRecDepth 100000 in
/-- newNode: a free one is found, if there is one -/
theorem ze_MnewNode (D : Nat) (ht : τ < 7) (x : Int32) : ∀ (m i : Nat) (L : zi_Lc), (∃ u, i ≤ u ∧ u < i + m ∧ u < 24 ∧ μ 244 (24 * τ + u) = 0) → zi_nl L = true → zi_get L 0 = some (.ref 232) → zi_get L 1 = some (.int (nI τ)) → zi_get L 2 = some (.int x) → zi_get L 3 = some (.int (nI i)) →
    ∃ f, (i ≤ f ∧ f < 24 ∧ μ 244 (24 * τ + f) = 0) ∧ ze_G (D + 1) 4 (some .int) zc_X6_newNode 2 L [] (zm_mk μ) (some (.int (nI f))) (zm_mk (zm_up (zm_up μ 244 (24 * τ + f) x) 249 (24 * τ + f) 0)) := by
  intro m
  induction m with
  | zero =>
    rintro i L ⟨u, h1, h2, -⟩
    omega
  | succ m ih =>
    rintro i L ⟨u, h1, h2, h3, h4⟩ nl g0 g1 g2 g3
    have hi : i < 24 := by omega
    have ia : zi_in (nI (24 * τ + i)) 168 = true := zm_in (by omega) (by decide)
    have ca : (nI (24 * τ + i)).toNatClampNeg = 24 * τ + i := nI_clamp (by omega)
    by_cases c : μ 244 (24 * τ + i) = 0
    · obtain ⟨N1, E1⟩ := ze_spot (h := zm_mk μ) (n := i) D ht
      obtain ⟨N2, E2⟩ := ze_spot (h := zm_mk (zm_up μ 244 (24 * τ + i) x)) (n := i) D ht
      refine ⟨i, ⟨Nat.le_refl _, hi, c⟩, N1 + N2, 23, fun F n hF => ?_⟩
      simp (maxDischargeDepth := 9) [zg_0, zg_aload_n, zg_getfield, zg_goto, zg_iaload, zg_iastore, zg_iconst, zg_ifCond, zg_iinc, zg_iload_n, zg_invokestatic, zg_ireturn, zg_istore_n, zf_X6_newNode, zi_ld, zi_lda, zi_cmp, zi_retOk, zi_isI, zi_f3, zi_cr, zi_ci, zi_cn, zi_get_ne, zi_nl_i, zi_nl_r, zi_get_set_eq, nl, g0, g1, g2, g3, zM_g, zq_Mod_spot, E1 F (by omega), zm_iald (k := 0) zM_A244 ia, ca, c, zm_iast zM_A244 ia, E2 F (by omega), zm_iast zM_A249 ia]
    · obtain ⟨N1, E1⟩ := ze_spot (h := zm_mk μ) (n := i) D ht
      have hu : u ≠ i := fun e => c (e ▸ h4)
      obtain ⟨f, hf, G⟩ := ih (i + 1) (zi_set L 3 (.int (nI (i + 1)))) ⟨u, by omega, by omega, h3, h4⟩ (by simp (maxDischargeDepth := 9) [zi_get_ne, zi_nl_i, zi_nl_r, zi_get_set_eq, nl]) (by simp (maxDischargeDepth := 9) [zi_get_ne, zi_nl_i, zi_nl_r, zi_get_set_eq, nl, g0]) (by simp (maxDischargeDepth := 9) [zi_get_ne, zi_nl_i, zi_nl_r, zi_get_set_eq, nl, g1]) (by simp (maxDischargeDepth := 9) [zi_get_ne, zi_nl_i, zi_nl_r, zi_get_set_eq, nl, g2]) zi_get_set_eq
      refine ⟨f, ⟨by omega, hf.2⟩, ze_S.end (p2 := 2) (s2 := []) (h2 := zm_mk μ) ⟨N1, 9, fun F n hF => ?_⟩ G⟩
      simp (maxDischargeDepth := 9) [zg_0, zg_aload_n, zg_getfield, zg_goto, zg_iaload, zg_iastore, zg_iconst, zg_ifCond, zg_iinc, zg_iload_n, zg_invokestatic, zg_ireturn, zg_istore_n, zf_X6_newNode, zi_ld, zi_lda, zi_cmp, zi_retOk, zi_isI, zi_f3, zi_cr, zi_ci, zi_cn, zi_get_ne, zi_nl_i, zi_nl_r, zi_get_set_eq, nl, g0, g1, g2, g3, zM_g, zq_Mod_spot, E1 F (by omega), zm_iald (k := 0) zM_A244 ia, ca, c, nI_1]
set_option maxRecDepth 100000 in
theorem ze_MnewNode' (D : Nat) (ht : τ < 7) (x : Int32) (h : ∃ u, u < 24 ∧ μ 244 (24 * τ + u) = 0) : ∃ f, (f < 24 ∧ μ 244 (24 * τ + f) = 0) ∧ ze_E (D + 2) A_Mod_newNode [.ref 232, .int (nI τ), .int x] (zm_mk μ) (some (.int (nI f))) (zm_mk (zm_up (zm_up μ 244 (24 * τ + f) x) 249 (24 * τ + f) 0)) := by
  obtain ⟨u, h1, h2⟩ := h
  obtain ⟨f, ⟨-, f1, f2⟩, G⟩ := ze_MnewNode (μ := μ) D ht x 24 0 [(3, .int (nI 0)), (0, .ref 232), (1, .int (nI τ)), (2, .int x)] ⟨u, by omega, by omega, h1, h2⟩ rfl rfl rfl rfl rfl
  refine ⟨f, ⟨f1, f2⟩, ze_in [(0, .ref 232), (1, .int (nI τ)), (2, .int x)] zq_Mod_newNode (Nat.le_of_ble_eq_true rfl) rfl (ze_S.end ⟨0, 2, fun F n hF => ?_⟩ G)⟩
  simp [zg_0, zg_aload_n, zg_getfield, zg_goto, zg_iaload, zg_iastore, zg_iconst, zg_ifCond, zg_iinc, zg_iload_n, zg_invokestatic, zg_ireturn, zg_istore_n, zf_X6_newNode, zi_ld, zi_lda, zi_cmp, zi_retOk, zi_isI, zi_f3, zi_cr, zi_ci, zi_cn, zi_get, zi_set, nI_0]
end ZM4
end
section
/-! the reference: newLeaf, addTab, clearTree -/
section ZM5
variable {μ : zm_M} {τ : Nat}
set_option maxRecDepth 100000 in
theorem ze_MnewLeaf (D : Nat) (ht : τ < 7) (x : Int32) (h : ∃ u, u < 24 ∧ μ 244 (24 * τ + u) = 0) : ∃ f, (f < 24 ∧ μ 244 (24 * τ + f) = 0) ∧ ze_E (D + 3) A_Mod_newLeaf [.ref 232, .int (nI τ), .int x] (zm_mk μ) (some (.int (nI f))) (zm_mk (zm_up (zm_up (zm_up (zm_up (zm_up μ 244 (24 * τ + f) 1) 249 (24 * τ + f) 0) 248 (10 * (24 * τ + f)) x) 249 (24 * τ + f) 1) 250 (24 * τ + f) x)) := by
  have h10 : (Int8.ofInt 10).toInt32 = (10 : Int32) := by decide
  obtain ⟨f, ⟨f1, f2⟩, N1, E1⟩ := ze_MnewNode' (μ := μ) D ht 1 h
  have ia : zi_in (nI (24 * τ + f)) 168 = true := zm_in (by omega) (by decide)
  have ca : (nI (24 * τ + f)).toNatClampNeg = 24 * τ + f := nI_clamp (by omega)
  have m10 : (10 : Int32) * nI (24 * τ + f) = nI (10 * (24 * τ + f)) := nI_mul10 (by omega)
  have ij : zi_in (nI (10 * (24 * τ + f))) 1680 = true := zm_in (by omega) (by decide)
  have cj : (nI (10 * (24 * τ + f))).toNatClampNeg = 10 * (24 * τ + f) := nI_clamp (by omega)
  refine ⟨f, ⟨f1, f2⟩, ?_⟩
  have sp := fun ν : zm_M => ze_spot (h := zm_mk ν) (n := f) (D + 1) ht
  generalize 24 * τ + f = a at E1 ia ca m10 ij cj sp
  obtain ⟨N2, E2⟩ := sp (zm_up (zm_up μ 244 a 1) 249 a 0)
  obtain ⟨N3, E3⟩ := sp (zm_up (zm_up (zm_up μ 244 a 1) 249 a 0) 248 (10 * a) x)
  obtain ⟨N4, E4⟩ := sp (zm_up (zm_up (zm_up (zm_up μ 244 a 1) 249 a 0) 248 (10 * a) x) 249 a 1)
  obtain ⟨lm, cm⟩ := zM_c (μ := μ)
  refine ze_in [(0, .ref 232), (1, .int (nI τ)), (2, .int x)] zq_Mod_newLeaf (Nat.le_of_ble_eq_true rfl) rfl ⟨N1 + N2 + N3 + N4, 30, fun F n hF => ?_⟩
  simp [zg_0, zg_aload_n, zg_bipush, zg_getfield, zg_iastore, zg_iconst, zg_iload_n, zg_imul, zg_invokestatic, zg_invokevirtual, zg_ireturn, zg_istore_n, zf_X6_newLeaf, zi_ld, zi_lda, zi_cmp, zi_retOk, zi_isI, zi_f3, zi_cr, zi_ci, zi_cn, zi_get, zi_set, h10, zq_Mod_newNode, cm, E1 F (by omega), zM_g, zq_Mod_spot, E2 F (by omega), E3 F (by omega), E4 F (by omega), m10, zm_iast zM_A248 ij, cj, zm_iast zM_A249 ia, zm_iast zM_A250 ia, ca]
end ZM5
end
