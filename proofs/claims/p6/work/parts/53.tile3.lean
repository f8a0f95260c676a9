/-! the desk: tile, run -/
section ZT3
variable {μ : zm_M} {row : List Nat} {R : List Nat} {t : zy_F}
/-- what a try leaves of the rest -/
theorem zd_try {ν : zm_M} {s k : Nat} (hs : s < 3) (hk : k < 10) (f : zt_frT 7 μ ν) (hC : zt_C μ (zdT s) R t) : zt_C ν (zdT s) R t ∧ zt_isCopy μ (zdT s) ν (zdT s) ∧ ν (zdW k + 1) = μ (zdW k + 1) ∧ ν (zdZ s) = μ (zdZ s) := by
  have r : ∀ j, ν (zdT s + j) = μ (zdT s + j) := fun j => f _ (by unfold zt_out zdT; omega)
  refine ⟨zt_C_congr (fun c h1 h2 => f c (by unfold zt_out; unfold zdT at h1; omega)) hC, ⟨r _, r _, r _, r _, r _, r _⟩, f _ (by unfold zt_out zdW; omega), f _ (by unfold zt_out zdZ; omega)⟩
theorem zd_fr2 {ν ξ : zm_M} {s : Nat} (f : zt_frT 7 μ ν) (g : zt_frT (zdT s) ν ξ) : ∀ c, zt_out 7 c → zt_out (zdT s) c → ξ c = μ c := fun c h1 h2 => (g c h2).trans (f c h1)
set_option maxRecDepth 100000 in
theorem ze_tile0 (D : Nat) {k s : Nat} (hk : k < 10) (hs : s < 3) (hrow : zr_L μ 3 row) (hrb : ∀ j ∈ row, j < 10) (hC : zt_C μ (zdT s) [] .nil) :
    ∃ ν b, ze_E (D + 6) A_Desk_tile [.ref 1, .int (nI k), .ref (zdS s + 1)] (zm_mk μ) (some (.int b)) (zm_mk ν) ∧ zd_tiled0 μ ν s k b ∧ ∀ c, zt_out 7 c → zt_out (zdT s) c → ν c = μ c := by
  have hlah : zd_lah μ (zdT s) .nil row = -1 := by
    rcases zd_lah_or hC.1 row hrb with ⟨-, h⟩ | ⟨n, hn, -⟩
    · exact h
    · cases hn
  obtain ⟨N1, E1⟩ := ze_leafAtHand (μ := μ) (D + 3) hrow hrb (zdT_at hs) hC
  rw [hlah] at E1
  obtain ⟨N2, E2⟩ := ze_tryCut_no (μ := μ) (D + 4) (k := k) (s := s) (z := -1) (a := 1) (by decide)
  obtain ⟨N3, E3⟩ := ze_tryCut_no (μ := μ) (D + 4) (k := k) (s := s) (z := -1) (a := 0) (by decide)
  obtain ⟨ν1, n, ⟨N4, E4⟩, f4, hN⟩ := ze_tryTab_0 (μ := μ) D hk hs hC.1
  have cm : (-1 : Int32) < 0 := by decide
  have h11 : (1 : Int32) - 1 = 0 := by decide
  have S1 : ∀ b : Int32, (if zt_fit ν1 7 (zdZ s) [k] (.tag n .nil) = true then (1 : Int32) else 0) = b → (b = 0 ∨ b = 1) → ze_S (D + 5) 6 (some .boolean) zc_X5_tile 0 [(0, .ref 1), (1, .int (nI k)), (2, .ref (zdS s + 1))] [] (zm_mk μ) 72 [(4, .int 1), (3, .int (-1)), (0, .ref 1), (1, .int (nI k)), (2, .ref (zdS s + 1))] [.int b] (zm_mk ν1) := by
    intro b eb hb
    rw [eb] at E4
    have hq : zi_nl [(4, .int 1), (3, .int (-1)), (0, .ref 1), (1, .int (nI k)), (2, .ref (zdS s + 1))] = true := rfl
    have S0 : ze_S (D + 5) 6 (some .boolean) zc_X5_tile 0 [(0, .ref 1), (1, .int (nI k)), (2, .ref (zdS s + 1))] [] (zm_mk μ) 31 [(4, .int 1), (3, .int (-1)), (0, .ref 1), (1, .int (nI k)), (2, .ref (zdS s + 1))] [] (zm_mk μ) := by
      refine ⟨N1, 9, fun F m hF => ?_⟩
      simp [zg_0, zg_aload_n, zg_getfield, zg_goto, zg_iconst, zg_ifCond, zg_iload, zg_iload_n, zg_invokevirtual, zg_ireturn, zg_istore, zg_istore_n, zg_isub, zf_X5_tile, zi_ld, zi_lda, zi_cmp, zi_retOk, zi_isI, zi_f3, zi_cr, zi_ci, zi_cn, zi_get, zi_set, zdS_g hs, zq_Desk_leafAtHand, zd_c, E1 F (by omega), cm]
    refine S0.trans ?_
    rcases hb with rfl | rfl
    · refine ⟨N2 + N3 + N4, 23, fun F m hF => ?_⟩
      simp [zg_0, zg_aload_n, zg_getfield, zg_goto, zg_iconst, zg_ifCond, zg_iload, zg_iload_n, zg_invokevirtual, zg_ireturn, zg_istore, zg_istore_n, zg_isub, zf_X5_tile, zi_ld, zi_lda, zi_cmp, zi_retOk, zi_isI, zi_f3, zi_cr, zi_ci, zi_cn, zi_get, zi_set, zd_c, zq_Desk_tryCut, E2 F (by omega), h11, E3 F (by omega), zq_Desk_tryTab, E4 F (by omega)]
    · refine ⟨N2 + N3 + N4, 24, fun F m hF => ?_⟩
      simp [zg_0, zg_aload_n, zg_getfield, zg_goto, zg_iconst, zg_ifCond, zg_iload, zg_iload_n, zg_invokevirtual, zg_ireturn, zg_istore, zg_istore_n, zg_isub, zf_X5_tile, zi_ld, zi_lda, zi_cmp, zi_retOk, zi_isI, zi_f3, zi_cr, zi_ci, zi_cn, zi_get, zi_set, zd_c, zq_Desk_tryCut, E2 F (by omega), h11, E3 F (by omega), zq_Desk_tryTab, E4 F (by omega)]
  cases hfit : zt_fit ν1 7 (zdZ s) [k] (.tag n .nil) with
  | true =>
    obtain ⟨ξ, G, C1, f1, l⟩ := ze_tile_end_1 (D + 1) (k := k) hs hN.1.1 (L := [(4, .int 1), (3, .int (-1)), (0, .ref 1), (1, .int (nI k)), (2, .ref (zdS s + 1))]) rfl rfl rfl
    refine ⟨ξ, 1, ze_in [(0, .ref 1), (1, .int (nI k)), (2, .ref (zdS s + 1))] zq_Desk_tile (Nat.le_of_ble_eq_true rfl) rfl ((S1 1 (by rw [hfit, if_pos rfl]) (Or.inr rfl)).end G), ⟨ν1, n, f4, hN, Or.inl ⟨hfit, rfl, zt_isNew_to l C1 hN⟩⟩, zd_fr2 f4 f1⟩
  | false =>
    refine ⟨ν1, 0, ze_in [(0, .ref 1), (1, .int (nI k)), (2, .ref (zdS s + 1))] zq_Desk_tile (Nat.le_of_ble_eq_true rfl) rfl ((S1 0 (by rw [hfit]; rfl) (Or.inl rfl)).end (ze_tile_end_0 (D + 5) rfl)), ⟨ν1, n, f4, hN, Or.inr ⟨hfit, rfl, f4⟩⟩, fun c h1 _ => f4 c h1⟩
set_option maxRecDepth 100000 in
theorem ze_tileN (D : Nat) {k s n : Nat} (hk : k < 10) (hs : s < 3) (hrow : zr_L μ 3 row) (hrb : ∀ j ∈ row, j < 10) (hC : zt_C μ (zdT s) R t) (hkR : k ∉ R) (hn : n ∈ zy_lvs t) (hlah : zd_lah μ (zdT s) t row = nI n) :
    ∃ ν b, ze_E (D + 6) A_Desk_tile [.ref 1, .int (nI k), .ref (zdS s + 1)] (zm_mk μ) (some (.int b)) (zm_mk ν) ∧ zd_tiledN μ ν s k n R t b ∧ ∀ c, zt_out 7 c → zt_out (zdT s) c → ν c = μ c := by
  have hn19 := hC.1.2.1.2.2.1 n (zt_I_lv hC.1 hn).2
  obtain ⟨N1, E1⟩ := ze_leafAtHand (μ := μ) (D + 3) hrow hrb (zdT_at hs) hC
  rw [hlah] at E1
  obtain ⟨N0, E0⟩ := ze_Tree_isWide (μ := μ) (D + 4) (zdT_at hs) (x := nI n) (zm_in hn19 (by decide))
  rw [nI_clamp (by omega), zb_dec] at E0
  obtain ⟨a, ha, ea⟩ : ∃ a, a < 2 ∧ (if μ (zdT s + 23) n ≤ μ (zdT s + 22) n then 0 else 1) = a := ⟨_, by split <;> omega, rfl⟩
  have hax : (1 : Int32) - nI a = nI (1 - a) := by
    rcases (by omega : a = 0 ∨ a = 1) with e | e <;> rw [e] <;> decide
  have S0 : ze_S (D + 5) 6 (some .boolean) zc_X5_tile 0 [(0, .ref 1), (1, .int (nI k)), (2, .ref (zdS s + 1))] [] (zm_mk μ) 31 [(4, .int (nI a)), (3, .int (nI n)), (0, .ref 1), (1, .int (nI k)), (2, .ref (zdS s + 1))] [] (zm_mk μ) := by
    obtain ⟨lt, ct⟩ := zt_c (μ := μ) (zdT_at hs)
    have cn : ¬ nI n < 0 := nI_pos (by omega)
    by_cases c : μ (zdT s + 23) n ≤ μ (zdT s + 22) n
    · rw [if_pos c] at ea
      subst ea
      rw [if_pos (decide_eq_true c)] at E0
      refine ⟨N0 + N1, 15, fun F m hF => ?_⟩
      simp [zg_0, zg_aload_n, zg_getfield, zg_goto, zg_iconst, zg_ifCond, zg_iload, zg_iload_n, zg_invokevirtual, zg_ireturn, zg_istore, zg_istore_n, zg_isub, zf_X5_tile, zi_ld, zi_lda, zi_cmp, zi_retOk, zi_isI, zi_f3, zi_cr, zi_ci, zi_cn, zi_get, zi_set, zdS_g hs, zq_Desk_leafAtHand, zd_c, E1 F (by omega), cn, zq_Tree_isWide, ct, E0 F (by omega), nI_0]
    · rw [if_neg c] at ea
      subst ea
      rw [if_neg (fun q => c (of_decide_eq_true q))] at E0
      have n1 : nI 1 = 1 := by decide
      refine ⟨N0 + N1, 14, fun F m hF => ?_⟩
      simp [zg_0, zg_aload_n, zg_getfield, zg_goto, zg_iconst, zg_ifCond, zg_iload, zg_iload_n, zg_invokevirtual, zg_ireturn, zg_istore, zg_istore_n, zg_isub, zf_X5_tile, zi_ld, zi_lda, zi_cmp, zi_retOk, zi_isI, zi_f3, zi_cr, zi_ci, zi_cn, zi_get, zi_set, zdS_g hs, zq_Desk_leafAtHand, zd_c, E1 F (by omega), cn, zq_Tree_isWide, ct, E0 F (by omega), n1]
  generalize hL : ([(4, .int (nI a)), (3, .int (nI n)), (0, .ref 1), (1, .int (nI k)), (2, .ref (zdS s + 1))] : zi_Lc) = L at S0
  have nl : zi_nl L = true := by rw [← hL]; rfl
  have g0 : zi_get L 0 = some (.ref 1) := by rw [← hL]; rfl
  have g1 : zi_get L 1 = some (.int (nI k)) := by rw [← hL]; rfl
  have g2 : zi_get L 2 = some (.ref (zdS s + 1)) := by rw [← hL]; rfl
  have g3 : zi_get L 3 = some (.int (nI n)) := by rw [← hL]; rfl
  have g4 : zi_get L 4 = some (.int (nI a)) := by rw [← hL]; rfl
  clear hL
  obtain ⟨ν1, c1, f1, ⟨N2, E2⟩, fr1, hK1⟩ := ze_tryCut (μ := μ) D hk hs hC.1 hn hkR ha
  unfold zd_tiledN
  dsimp only
  rw [ea]
  cases hf1 : zt_fit ν1 7 (zdZ s) (R ++ [k]) (zy_cut n c1 f1 t) with
  | true =>
    have hf1' : (if zt_fit ν1 7 (zdZ s) (R ++ [k]) (zy_sub n (.append (.tag c1 (.tag n .nil)) (.tag f1 .nil)) t) = true then (1 : Int32) else 0) = 1 := if_pos hf1
    rw [hf1'] at E2
    obtain ⟨ξ, G, C1, fx, l⟩ := ze_tile_end_1 (D + 1) (k := k) hs hK1.1.1 nl g0 g2
    refine ⟨ξ, 1, ze_in [(0, .ref 1), (1, .int (nI k)), (2, .ref (zdS s + 1))] zq_Desk_tile (Nat.le_of_ble_eq_true rfl) rfl (S0.end (ze_S.end (p2 := 72) (L2 := L) (s2 := [.int 1]) (h2 := zm_mk ν1) ⟨N2, 9, fun F m hF => ?_⟩ G)), ⟨ν1, c1, f1, fr1, hK1, Or.inl ⟨hf1, rfl, zt_isCut_to l C1 hK1⟩⟩, zd_fr2 fr1 fx⟩
    simp (maxDischargeDepth := 9) [zg_0, zg_aload_n, zg_getfield, zg_goto, zg_iconst, zg_ifCond, zg_iload, zg_iload_n, zg_invokevirtual, zg_ireturn, zg_istore, zg_istore_n, zg_isub, zf_X5_tile, zi_ld, zi_lda, zi_cmp, zi_retOk, zi_isI, zi_f3, zi_cr, zi_ci, zi_cn, zi_get_ne, zi_nl_i, zi_nl_r, zi_get_set_eq, nl, g0, g1, g2, g3, g4, zd_c, zq_Desk_tryCut, E2 F (by omega)]
  | false =>
    have hf1' : (if zt_fit ν1 7 (zdZ s) (R ++ [k]) (zy_sub n (.append (.tag c1 (.tag n .nil)) (.tag f1 .nil)) t) = true then (1 : Int32) else 0) = 0 := if_neg (by rw [show zy_sub n (.append (.tag c1 (.tag n .nil)) (.tag f1 .nil)) t = zy_cut n c1 f1 t from rfl, hf1]; decide)
    rw [hf1'] at E2
    obtain ⟨Cν1, cp1, w1, z1⟩ := zd_try (k := k) hs hk fr1 hC
    obtain ⟨ν2, c2, f2, ⟨N3, E3⟩, fr2, hK2⟩ := ze_tryCut (μ := ν1) D hk hs Cν1.1 hn hkR (a := 1 - a) (by omega)
    rw [w1] at hK2
    have hK2' := zt_isCut_src cp1 hK2
    cases hf2 : zt_fit ν2 7 (zdZ s) (R ++ [k]) (zy_cut n c2 f2 t) with
    | true =>
      have hf2' : (if zt_fit ν2 7 (zdZ s) (R ++ [k]) (zy_sub n (.append (.tag c2 (.tag n .nil)) (.tag f2 .nil)) t) = true then (1 : Int32) else 0) = 1 := if_pos hf2
      rw [hf2'] at E3
      obtain ⟨ξ, G, C1, fx, l⟩ := ze_tile_end_1 (D + 1) (k := k) hs hK2.1.1 nl g0 g2
      refine ⟨ξ, 1, ze_in [(0, .ref 1), (1, .int (nI k)), (2, .ref (zdS s + 1))] zq_Desk_tile (Nat.le_of_ble_eq_true rfl) rfl (S0.end (ze_S.end (p2 := 72) (L2 := L) (s2 := [.int 1]) (h2 := zm_mk ν2) ⟨N2 + N3, 18, fun F m hF => ?_⟩ G)), ⟨ν1, c1, f1, fr1, hK1, Or.inr ⟨hf1, ν2, c2, f2, fr1.trans fr2, hK2', Or.inl ⟨hf2, rfl, zt_isCut_to l C1 hK2'⟩⟩⟩, zd_fr2 (fr1.trans fr2) fx⟩
      simp (maxDischargeDepth := 9) [zg_0, zg_aload_n, zg_getfield, zg_goto, zg_iconst, zg_ifCond, zg_iload, zg_iload_n, zg_invokevirtual, zg_ireturn, zg_istore, zg_istore_n, zg_isub, zf_X5_tile, zi_ld, zi_lda, zi_cmp, zi_retOk, zi_isI, zi_f3, zi_cr, zi_ci, zi_cn, zi_get_ne, zi_nl_i, zi_nl_r, zi_get_set_eq, nl, g0, g1, g2, g3, g4, zd_c, zq_Desk_tryCut, E2 F (by omega), hax, E3 F (by omega)]
    | false =>
      have hf2' : (if zt_fit ν2 7 (zdZ s) (R ++ [k]) (zy_sub n (.append (.tag c2 (.tag n .nil)) (.tag f2 .nil)) t) = true then (1 : Int32) else 0) = 0 := if_neg (by rw [show zy_sub n (.append (.tag c2 (.tag n .nil)) (.tag f2 .nil)) t = zy_cut n c2 f2 t from rfl, hf2]; decide)
      rw [hf2'] at E3
      obtain ⟨Cν2, cp2, w2, z2⟩ := zd_try (k := k) hs hk (fr1.trans fr2) hC
      obtain ⟨ν3, ⟨N4, E4⟩, fr3, hK3⟩ := ze_tryTab (μ := ν2) D hk hs Cν2.1 hn hkR
      rw [w2] at hK3
      have hK3' := zt_isTab_src cp2 hK3
      have frr := (fr1.trans fr2).trans fr3
      cases hf3 : zt_fit ν3 7 (zdZ s) (R ++ [k]) t with
      | true =>
        rw [hf3, if_pos rfl] at E4
        obtain ⟨ξ, G, C1, fx, l⟩ := ze_tile_end_1 (D + 1) (k := k) hs hK3.1.1 nl g0 g2
        refine ⟨ξ, 1, ze_in [(0, .ref 1), (1, .int (nI k)), (2, .ref (zdS s + 1))] zq_Desk_tile (Nat.le_of_ble_eq_true rfl) rfl (S0.end (ze_S.end (p2 := 72) (L2 := L) (s2 := [.int 1]) (h2 := zm_mk ν3) ⟨N2 + N3 + N4, 24, fun F m hF => ?_⟩ G)), ⟨ν1, c1, f1, fr1, hK1, Or.inr ⟨hf1, ν2, c2, f2, fr1.trans fr2, hK2', Or.inr ⟨hf2, ν3, frr, hK3', Or.inl ⟨hf3, rfl, zt_isTab_to l C1 hK3'⟩⟩⟩⟩, zd_fr2 frr fx⟩
        simp (maxDischargeDepth := 9) [zg_0, zg_aload_n, zg_getfield, zg_goto, zg_iconst, zg_ifCond, zg_iload, zg_iload_n, zg_invokevirtual, zg_ireturn, zg_istore, zg_istore_n, zg_isub, zf_X5_tile, zi_ld, zi_lda, zi_cmp, zi_retOk, zi_isI, zi_f3, zi_cr, zi_ci, zi_cn, zi_get_ne, zi_nl_i, zi_nl_r, zi_get_set_eq, nl, g0, g1, g2, g3, g4, zd_c, zq_Desk_tryCut, E2 F (by omega), hax, E3 F (by omega), zq_Desk_tryTab, E4 F (by omega)]
      | false =>
        rw [hf3, if_neg (by decide)] at E4
        refine ⟨ν3, 0, ze_in [(0, .ref 1), (1, .int (nI k)), (2, .ref (zdS s + 1))] zq_Desk_tile (Nat.le_of_ble_eq_true rfl) rfl (S0.end (ze_S.end (p2 := 72) (L2 := L) (s2 := [.int 0]) (h2 := zm_mk ν3) ⟨N2 + N3 + N4, 23, fun F m hF => ?_⟩ (ze_tile_end_0 (D + 5) nl))), ⟨ν1, c1, f1, fr1, hK1, Or.inr ⟨hf1, ν2, c2, f2, fr1.trans fr2, hK2', Or.inr ⟨hf2, ν3, frr, hK3', Or.inr ⟨hf3, rfl, frr⟩⟩⟩⟩, fun c h1 _ => frr c h1⟩
        simp (maxDischargeDepth := 9) [zg_0, zg_aload_n, zg_getfield, zg_goto, zg_iconst, zg_ifCond, zg_iload, zg_iload_n, zg_invokevirtual, zg_ireturn, zg_istore, zg_istore_n, zg_isub, zf_X5_tile, zi_ld, zi_lda, zi_cmp, zi_retOk, zi_isI, zi_f3, zi_cr, zi_ci, zi_cn, zi_get_ne, zi_nl_i, zi_nl_r, zi_get_set_eq, nl, g0, g1, g2, g3, g4, zd_c, zq_Desk_tryCut, E2 F (by omega), hax, E3 F (by omega), zq_Desk_tryTab, E4 F (by omega)]
end ZT3
