/-! the desk: bringBack, whole -/
section ZBT
variable {μ ν : zm_M} {Rs : Nat → List Nat} {ts : Nat → zy_F}
/-- bringBack(s): nothing comes, or the group does -/
def zd_brg (μ ν : zm_M) (Rs : Nat → List Nat) (ts : Nat → zy_F) (s : Nat) : Prop :=
  ((μ (zdK s) 3 = 0 ∨ zt_fit μ (zdV s) (zdZ s) (Rs (3 + s)) (ts (3 + s)) = false ∨ zl_al (zd_gwf μ (zd_bgr μ s) (zdZ s)) 10 = false) ∧ ∀ c, c ≠ 31 → ν c = μ c) ∨
  ((¬ μ (zdK s) 3 = 0 ∧ zt_fit μ (zdV s) (zdZ s) (Rs (3 + s)) (ts (3 + s)) = true ∧ zl_al (zd_gwf μ (zd_bgr μ s) (zdZ s)) 10 = true) ∧ ∃ ν2 ν3 Rs1 ts1, (∀ c, c ≠ 31 → ν2 c = μ c) ∧ zd_tbk ν2 ν3 Rs ts (zd_has μ s) 10 Rs1 ts1 ∧
    (∀ c d, ¬ zJ_irr c → (∀ q, q < 3 → zt_out (zdT q) c) → (∀ q, q < 3 → c = zdK q → d ≠ 3) → (∀ j, j < 10 → c = zdW j → d ≠ 5) → ν c d = μ c d) ∧ (∀ q, q < 3 → ν (zdK q) 3 = if zd_hasg μ (zd_bgr μ s) 10 q = true then 0 else μ (zdK q) 3) ∧
    (∀ j, j < 10 → ν (zdW j) 5 = if zd_bgr μ s j = true then nI s else μ (zdW j) 5) ∧ (∀ q, q < 3 → q ≠ s → ∀ j, j < 24 → ν (zdT q + j) = ν3 (zdT q + j)) ∧ zt_C ν (zdT s) (Rs (3 + s)) (ts (3 + s)) ∧ zt_isCopy μ (zdV s) ν (zdT s))
set_option maxRecDepth 100000 in
theorem ze_bringBack (D : Nat) {s : Nat} (hs : s < 3) (hC : ∀ q, q < 3 → zt_C μ (zdT q) (Rs q) (ts q)) (hV : zt_C μ (zdV s) (Rs (3 + s)) (ts (3 + s))) (htl : ∀ j, j < 10 → zd_til μ j = true → ∃ q, q < 3 ∧ μ (zdW j) 5 = nI q ∧ j ∈ Rs q) (hdj : ∀ q p j, q < 3 → p < 3 → j ∈ Rs q → j ∈ Rs p → q = p) (hsm : ∀ q, q < 3 → zt_sm μ (zdT q) (Rs q)) (hRt : ∀ q j, q < 3 → j ∈ Rs q → zd_til μ j = true) :
    ∃ ν r, ze_E (D + 7) A_Desk_bringBack [.ref 1, .int (nI s)] (zm_mk μ) (some (.int r)) (zm_mk ν) ∧ zd_brg μ ν Rs ts s := by
  by_cases c1 : μ (zdK s) 3 = 0
  · refine ⟨μ, 0, ze_in [(0, .ref 1), (1, .int (nI s))] zq_Desk_bringBack (Nat.le_of_ble_eq_true rfl) rfl ⟨0, 11, fun F n hF => ?_⟩, Or.inl ⟨Or.inl c1, fun _ _ => rfl⟩⟩
    simp [zg_0, zg_aaload, zg_aload_n, zg_astore_n, zg_bastore, zg_bipush, zg_getfield, zg_goto, zg_iconst, zg_ifCond, zg_if_icmp, zg_iinc, zg_iload, zg_iload_n, zg_invokevirtual, zg_ireturn, zg_istore, zg_istore_n, zf_X5_bringBack, zi_ld, zi_lda, zi_cmp, zi_retOk, zi_isI, zi_f3, zi_cr, zi_ci, zi_cn, zi_get, zi_set, zd_g, zd_s hs, zdS_g hs, zdK_g hs, c1]
  obtain ⟨N1, E1⟩ := ze_fitsC (μ := μ) (D + 4) (zdV_at hs) hV (zdZ_A hs)
  obtain ⟨lv, cv⟩ := zt_c (μ := μ) (zdV_at hs)
  cases hfit : zt_fit μ (zdV s) (zdZ s) (Rs (3 + s)) (ts (3 + s)) with
  | false =>
    rw [hfit, if_neg (by decide)] at E1
    refine ⟨μ, 0, ze_in [(0, .ref 1), (1, .int (nI s))] zq_Desk_bringBack (Nat.le_of_ble_eq_true rfl) rfl ⟨N1, 20, fun F n hF => ?_⟩, Or.inl ⟨Or.inr (Or.inl hfit), fun _ _ => rfl⟩⟩
    simp [zg_0, zg_aaload, zg_aload_n, zg_astore_n, zg_bastore, zg_bipush, zg_getfield, zg_goto, zg_iconst, zg_ifCond, zg_if_icmp, zg_iinc, zg_iload, zg_iload_n, zg_invokevirtual, zg_ireturn, zg_istore, zg_istore_n, zf_X5_bringBack, zi_ld, zi_lda, zi_cmp, zi_retOk, zi_isI, zi_f3, zi_cr, zi_ci, zi_cn, zi_get, zi_set, zd_g, zd_s hs, zdS_g hs, zdK_g hs, c1, zq_Tree_fits, cv, E1 F (by omega)]
  | true =>
    rw [hfit, if_pos rfl] at E1
    have S1 : ze_S (D + 6) 5 (some .int) zc_X5_bringBack 0 [(0, .ref 1), (1, .int (nI s))] [] (zm_mk μ) 38 [(2, .ref (zdK s + 1)), (0, .ref 1), (1, .int (nI s))] [] (zm_mk μ) := by
      refine ⟨N1, 18, fun F n hF => ?_⟩
      simp [zg_0, zg_aaload, zg_aload_n, zg_astore_n, zg_bastore, zg_bipush, zg_getfield, zg_goto, zg_iconst, zg_ifCond, zg_if_icmp, zg_iinc, zg_iload, zg_iload_n, zg_invokevirtual, zg_ireturn, zg_istore, zg_istore_n, zf_X5_bringBack, zi_ld, zi_lda, zi_cmp, zi_retOk, zi_isI, zi_f3, zi_cr, zi_ci, zi_cn, zi_get, zi_set, zd_g, zd_s hs, zdS_g hs, zdK_g hs, c1, zq_Tree_fits, cv, E1 F (by omega)]
    obtain ⟨ν2, S2, f2, g2⟩ := ze_bring_0 (μ := μ) (D + 3) hs
    obtain ⟨N3, E3⟩ := ze_groupCanBeWhole (μ := ν2) (D + 4) g2 hs
    have w2 : ∀ j, ν2 (zdW j) = μ (zdW j) := fun j => f2 _ (by unfold zdW; omega)
    have egw : zl_al (zd_gwf ν2 (zd_bgr μ s) (zdZ s)) 10 = zl_al (zd_gwf μ (zd_bgr μ s) (zdZ s)) 10 := by
      have : zd_gwf ν2 (zd_bgr μ s) (zdZ s) = zd_gwf μ (zd_bgr μ s) (zdZ s) := funext fun j => by
        unfold zd_gwf zd_flo zd_whole
        rw [w2, f2 (zdW j + 1) (by unfold zdW; omega), f2 (zdZ s) (by unfold zdZ; omega)]
      rw [this]
    rw [egw] at E3
    have SS := S1.trans S2
    cases hgw : zl_al (zd_gwf μ (zd_bgr μ s) (zdZ s)) 10 with
    | false =>
      rw [hgw, if_neg (by decide)] at E3
      refine ⟨ν2, 0, ze_in [(0, .ref 1), (1, .int (nI s))] zq_Desk_bringBack (Nat.le_of_ble_eq_true rfl) rfl (SS.end ⟨N3, 6, fun F n hF => ?_⟩), Or.inl ⟨Or.inr (Or.inr hgw), f2⟩⟩
      simp [zg_0, zg_aaload, zg_aload_n, zg_astore_n, zg_bastore, zg_bipush, zg_getfield, zg_goto, zg_iconst, zg_ifCond, zg_if_icmp, zg_iinc, zg_iload, zg_iload_n, zg_invokevirtual, zg_ireturn, zg_istore, zg_istore_n, zf_X5_bringBack, zi_ld, zi_lda, zi_cmp, zi_retOk, zi_isI, zi_f3, zi_cr, zi_ci, zi_cn, zi_get, zi_set, zq_Desk_groupCanBeWhole, zd_c, E3 F (by omega)]
    | true =>
      rw [hgw, if_pos rfl] at E3
      have S3 : ze_S (D + 6) 5 (some .int) zc_X5_bringBack 67 [(3, .int (nI 10)), (2, .ref (zdK s + 1)), (0, .ref 1), (1, .int (nI s))] [] (zm_mk ν2) 77 [(3, .int (nI 10)), (2, .ref (zdK s + 1)), (0, .ref 1), (1, .int (nI s))] [] (zm_mk ν2) := by
        refine ⟨N3, 4, fun F n hF => ?_⟩
        simp [zg_0, zg_aaload, zg_aload_n, zg_astore_n, zg_bastore, zg_bipush, zg_getfield, zg_goto, zg_iconst, zg_ifCond, zg_if_icmp, zg_iinc, zg_iload, zg_iload_n, zg_invokevirtual, zg_ireturn, zg_istore, zg_istore_n, zf_X5_bringBack, zi_ld, zi_lda, zi_cmp, zi_retOk, zi_isI, zi_f3, zi_cr, zi_ci, zi_cn, zi_get, zi_set, zq_Desk_groupCanBeWhole, zd_c, E3 F (by omega)]
      have til2 : ∀ j, zd_til ν2 j = zd_til μ j := fun j => by unfold zd_til; rw [w2]
      have T2 : ∀ q j, ν2 (zdT q + j) = μ (zdT q + j) := fun q j => f2 _ (by unfold zdT; omega)
      have has2 : zd_has ν2 s = zd_has μ s := funext fun j => by
        unfold zd_has
        rw [f2 _ (by unfold zdK; omega), f2 _ (by unfold zdQ; omega), f2 _ (by unfold zdV; omega)]
      obtain ⟨ν3, L3, v, Rs1, ts1, S4, ⟨nl, g0, g1, g2', g3⟩, hB⟩ := ze_bring_1 (μ := ν2) (Rs := Rs) (ts := ts) D hs (fun q hq => zt_C_19 (fun j _ => T2 q j) (hC q hq)) (fun j hj q => by rw [til2] at q; rw [w2]; exact htl j hj q) hdj (fun q hq w hw a ha => by rw [Nat.add_assoc, T2, ← Nat.add_assoc]; exact hsm q hq w hw a ha) (fun q j hq hj => by rw [til2]; exact hRt q j hq hj) (L := [(3, .int (nI 10)), (2, .ref (zdK s + 1)), (0, .ref 1), (1, .int (nI s))]) rfl rfl rfl rfl
      rw [has2] at hB
      have gr3 : zd_gr ν3 (zd_bgr μ s) := fun j hj => by
        rw [hB.2.2.2.1]
        exact g2 j hj
      obtain ⟨ν4, ⟨N5, E5⟩, s5, s4⟩ := ze_sendGroup (μ := ν3) D gr3 hs
      have r4 : ∀ c, (∀ j, j < 10 → c ≠ zdW j) → (∀ j, j < 10 → c ≠ zdW j + 2) → ν4 c = ν3 c := fun c a1 a2 => funext fun d => s4 c d (fun j hj e => absurd e (a1 j hj)) a2
      have V4 : ∀ j, j < 19 → ν4 (zdV s + j) = μ (zdV s + j) := fun j hj => by
        rw [r4 _ (fun i hi => by unfold zdV zdW; omega) (fun i hi => by unfold zdV zdW; omega), hB.2.2.1 _ (zJn_T hs hj).2 (fun q hq => zJn_out hq (Or.inr (Or.inr (Or.inl ⟨s, hs, Or.inr (Or.inr (Or.inr (Or.inr ⟨j, hj, rfl⟩)))⟩)))), f2 _ (by unfold zdV; omega)]
      obtain ⟨ν5, ⟨N6, E6⟩, C5, f5, x3, x5, x6, x7, x8, x12⟩ := ze_Tree_copyFrom (μ := ν4) (D + 2) (zdT_at hs) (zdV_at hs) (by unfold zdT zdV; omega) (zt_C_19 V4 hV).1
      have gr5 : zd_gr ν5 (zd_bgr μ s) := fun j hj => by
        rw [f5 _ (by unfold zt_out zdT; omega), r4 _ (fun i hi => by unfold zdW; omega) (fun i hi => by unfold zdW; omega)]
        exact gr3 j hj
      obtain ⟨ν6, ⟨N7, E7⟩, k6, f6⟩ := ze_forgetKeptWithGroup (μ := ν5) (D + 2) gr5
      have r6 : ∀ c, (∀ q, q < 3 → c ≠ zdK q) → ν6 c = ν5 c := fun c hc => funext fun d => f6 c d (fun q hq e => absurd e (hc q hq))
      have base : ∀ c, ¬ zJ_irr c → (∀ q, q < 3 → zt_out (zdT q) c) → ν3 c = μ c := fun c a1 a2 => (hB.2.2.1 c a1 a2).trans (f2 c (fun e => a1 (by rw [e]; unfold zJ_irr; omega)))
      have K5 : ∀ q, q < 3 → ν5 (zdK q) = μ (zdK q) ∧ ν5 (zdQ q) = μ (zdQ q) ∧ ν5 (zdV q + 3) = μ (zdV q + 3) := fun q hq => by
        have o1 : ∀ p, p < 3 → zt_out (zdT p) (zdK q) := fun p hp => zJn_out hp (Or.inr (Or.inr (Or.inl ⟨q, hq, Or.inr (Or.inr (Or.inl rfl))⟩)))
        have o2 : ∀ p, p < 3 → zt_out (zdT p) (zdQ q) := fun p hp => zJn_out hp (Or.inr (Or.inr (Or.inl ⟨q, hq, Or.inr (Or.inr (Or.inr (Or.inl rfl)))⟩)))
        have o3 : ∀ p, p < 3 → zt_out (zdT p) (zdV q + 3) := fun p hp => zJn_out hp (Or.inr (Or.inr (Or.inl ⟨q, hq, Or.inr (Or.inr (Or.inr (Or.inr ⟨3, by decide, rfl⟩)))⟩)))
        refine ⟨?_, ?_, ?_⟩
        · rw [f5 _ (o1 s hs), r4 _ (fun i hi => by unfold zdK zdW; omega) (fun i hi => by unfold zdK zdW; omega), base _ (zJn_S hq).2.2.1 o1]
        · rw [f5 _ (o2 s hs), r4 _ (fun i hi => by unfold zdQ zdW; omega) (fun i hi => by unfold zdQ zdW; omega), base _ (zJn_S hq).2.2.2 o2]
        · rw [f5 _ (o3 s hs), r4 _ (fun i hi => by unfold zdV zdW; omega) (fun i hi => by unfold zdV zdW; omega), base _ (zJn_T hq (by decide)).2 o3]
      have hg5 : ∀ q, q < 3 → ∀ j, zd_has ν5 q j = zd_has μ q j := fun q hq j => by
        unfold zd_has
        rw [(K5 q hq).1, (K5 q hq).2.1, (K5 q hq).2.2]
      have hhg : ∀ q, q < 3 → zd_hasg ν5 (zd_bgr μ s) 10 q = zd_hasg μ (zd_bgr μ s) 10 q := fun q hq => by
        unfold zd_hasg
        have : (fun k => !(zd_bgr μ s k && zd_has ν5 q k)) = fun k => !(zd_bgr μ s k && zd_has μ q k) := funext fun k => by rw [hg5 q hq k]
        rw [this]
      refine ⟨ν6, v, ze_in [(0, .ref 1), (1, .int (nI s))] zq_Desk_bringBack (Nat.le_of_ble_eq_true rfl) rfl (((SS.trans S3).trans S4).end ⟨N5 + N6 + N7, 15, fun F n hF => ?_⟩), Or.inr ⟨⟨c1, hfit, hgw⟩, ν2, ν3, Rs1, ts1, f2, hB, fun c d a1 a2 a3 a4 => ?_, fun q hq => ?_, fun j hj => ?_, fun q hq hne j hj => ?_, ?_, ?_⟩⟩
      · obtain ⟨y4, z4⟩ := zt_c (μ := ν4) (zdT_at hs)
        simp [zg_0, zg_aaload, zg_aload_n, zg_astore_n, zg_bastore, zg_bipush, zg_getfield, zg_goto, zg_iconst, zg_ifCond, zg_if_icmp, zg_iinc, zg_iload, zg_iload_n, zg_invokevirtual, zg_ireturn, zg_istore, zg_istore_n, zf_X5_bringBack, zi_ld, zi_lda, zi_cmp, zi_retOk, zi_isI, zi_f3, zi_cr, zi_ci, zi_cn, g0, g1, g2', g3, zq_Desk_sendGroup, zd_c, E5 F (by omega), zd_g, zd_s hs, zdS_g hs, zdK_g hs, zq_Tree_copyFrom, z4, E6 F (by omega), zq_Desk_forgetKeptWithGroup, E7 F (by omega)]
      · rw [f6 c d a3, f5 c (a2 s hs), s4 c d a4 (fun j hj e => a1 (by rw [e]; unfold zJ_irr zdW; omega)), base c a1 a2]
      · rw [k6 q hq, (K5 q hq).1, hhg q hq]
      · have oW : ∀ p, p < 3 → zt_out (zdT p) (zdW j) := fun p hp => zJn_out hp (Or.inr (Or.inl ⟨j, hj, Or.inl rfl⟩))
        rw [r6 _ (fun q hq => by unfold zdW zdK; omega), f5 _ (oW s hs), s5 j hj, base _ (zJn_W hj).1 oW]
      · rw [r6 _ (fun q hq => by unfold zdT zdK; omega), f5 _ (by unfold zt_out zdT; omega), r4 _ (fun i hi => by unfold zdT zdW; omega) (fun i hi => by unfold zdT zdW; omega)]
      · exact zt_C_congr (fun c h1 h2 => r6 c (fun q hq => by unfold zdT at h1 h2; unfold zdK; omega)) C5
      · have rT : ∀ j, j < 24 → ν6 (zdT s + j) = ν5 (zdT s + j) := fun j hj => r6 _ (fun q hq => by unfold zdT zdK; omega)
        exact ⟨(rT 3 (by omega)).trans (x3.trans (V4 _ (by omega))), (rT 5 (by omega)).trans (x5.trans (V4 _ (by omega))), (rT 6 (by omega)).trans (x6.trans (V4 _ (by omega))), (rT 7 (by omega)).trans (x7.trans (V4 _ (by omega))), (rT 8 (by omega)).trans (x8.trans (V4 _ (by omega))), (rT 12 (by omega)).trans (x12.trans (V4 _ (by omega)))⟩
end ZBT
