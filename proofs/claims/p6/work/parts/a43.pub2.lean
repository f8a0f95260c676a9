/-! the reference: areaOf, area, neighbour, toward, move, close -/
section ZWB
variable {μ ν : zm_M} {row stk : List Nat} {us : Nat → zy_F}
theorem zR_til (h : zR μ row stk us) {k : Nat} (hk : k < 10) (c : μ 234 k = 1) : ∃ q m ab, q < 3 ∧ μ 238 k = nI q ∧ zu_I μ q (us q) ab ∧ zu_at μ q (us q) k m := by
  obtain ⟨q, b1, b2, b3, b4⟩ := h.2.2.2.2.2.1 k hk (by rw [c]; decide) (by rw [c]; decide)
  obtain ⟨m, b5⟩ := b4 c
  obtain ⟨⟨ab, a1⟩, -⟩ := h.2.2.2.2.1 q b1
  exact ⟨q, m, ab, b1, b2, a1, b5⟩
/-- what areaOf rests on -/
def zv_arg (μ : zm_M) (us : Nat → zy_F) (k : Nat) : Prop := (2 ≤ μ 234 k ↔ ¬ μ 234 k = 1) ∧ (μ 234 k = 1 → ∃ q m ab, q < 3 ∧ μ 238 k = nI q ∧ zu_I μ q (us q) ab ∧ zu_at μ q (us q) k m)
theorem zv_arg.fr {k : Nat} (h : zv_arg μ us k) (f : zM_fr μ ν) : zv_arg ν us k := by
  have e4 : ν 234 k = μ 234 k := f _ _ (by omega) (by decide) (by decide) (by omega)
  have e8 : ν 238 k = μ 238 k := f _ _ (by omega) (by decide) (by decide) (by omega)
  refine ⟨by rw [e4]; exact h.1, fun c => ?_⟩
  rw [e4] at c
  obtain ⟨q, m, ab, h1, h2, h3, h4⟩ := h.2 c
  exact ⟨q, m, ab, h1, by rw [e8]; exact h2, f.eqT.I h3, zu_at_eqT h3 f.eqT h4⟩
set_option maxRecDepth 100000 in
theorem ze_MareaOfG (D : Nat) {k : Nat} (hk : k < 10) (h : zv_arg μ us k) {a : Nat} (ha : a < 5) : ∃ ν v, ze_E (D + 28) A_Mod_areaOf [.ref 232, .int (nI k), .int (nI a)] (zm_mk μ) (some (.int v)) (zm_mk ν) ∧ zM_fr μ ν := by
  have n5 : Int32.ofInt (-1000000005) = -1000000005 := by decide
  obtain ⟨lc, cM⟩ := zM_c (μ := μ)
  have ik : zi_in (nI k) 10 = true := zm_in hk (by decide)
  have ck : (nI k).toNatClampNeg = k := nI_clamp (by omega)
  have a0 : nI 0 = (0 : Int32) := by decide
  have a1 : nI 1 = (1 : Int32) := by decide
  have a2 : nI 2 = (2 : Int32) := by decide
  have a3 : nI 3 = (3 : Int32) := by decide
  have a4 : nI 4 = (4 : Int32) := by decide
  by_cases c : a = 0
  · subst c
    rw [a0]
    by_cases c1 : μ 234 k = 4
    · refine ⟨μ, -1000000005, ze_in [(0, .ref 232), (1, .int (nI k)), (2, .int 0)] zq_Mod_areaOf (Nat.le_of_ble_eq_true rfl) rfl ⟨0, 11, fun F n hF => ?_⟩, zM_fr.refl⟩
      simp [zg_0, zg_aload_n, zg_getfield, zg_goto, zg_iaload, zg_iconst, zg_ifCond, zg_if_icmp, zg_iload_n, zg_invokevirtual, zg_ireturn, zg_istore_n, zg_ldc_w, zf_X6_areaOf, zi_ld, zi_lda, zi_cmp, zi_retOk, zi_isI, zi_f3, zi_cr, zi_ci, zi_cn, zi_get, zi_set, zM_g, zm_iald (k := 0) zM_A234 ik, ck, c1, n5]
    · refine ⟨μ, μ 238 k, ze_in [(0, .ref 232), (1, .int (nI k)), (2, .int 0)] zq_Mod_areaOf (Nat.le_of_ble_eq_true rfl) rfl ⟨0, 13, fun F n hF => ?_⟩, zM_fr.refl⟩
      simp [zg_0, zg_aload_n, zg_getfield, zg_goto, zg_iaload, zg_iconst, zg_ifCond, zg_if_icmp, zg_iload_n, zg_invokevirtual, zg_ireturn, zg_istore_n, zg_ldc_w, zf_X6_areaOf, zi_ld, zi_lda, zi_cmp, zi_retOk, zi_isI, zi_f3, zi_cr, zi_ci, zi_cn, zi_get, zi_set, zM_g, zm_iald (k := 0) zM_A234 ik, zm_iald (k := 0) zM_A238 ik, ck, c1]
  · obtain ⟨N1, E1⟩ := ze_MisFloating (μ := μ) (D + 26) hk
    by_cases c1 : μ 234 k = 1
    · rw [if_neg (fun z => h.1.mp z c1)] at E1
      obtain ⟨q, m, ab, hq, hh, hI, hat⟩ := h.2 c1
      obtain ⟨ν, ⟨N2, E2⟩, -, -, f⟩ := ze_MlayAll (μ := μ) D hq hI
      obtain ⟨lc1, cM1⟩ := zM_c (μ := ν)
      have hT := zv_frY_eqT (τ := q) f
      obtain ⟨N3, E3⟩ := ze_MleafOf_at (μ := ν) (D + 24) (by omega) (hT.I hI) hk (zu_at_eqT hI hT hat)
      have e8 : ν 238 k = nI q := (f _ _ (by omega) (by omega)).trans hh
      have hm24 := zu_I_lt hI hat.1
      have im : zi_in (nI m) 24 = true := zm_in hm24 (by decide)
      have cm : (nI m).toNatClampNeg = m := nI_clamp (by omega)
      rcases (by omega : a = 1 ∨ a = 2 ∨ a = 3 ∨ a = 4) with rfl | rfl | rfl | rfl
      · rw [a1]
        refine ⟨ν, ν 255 m, ze_in [(0, .ref 232), (1, .int (nI k)), (2, .int 1)] zq_Mod_areaOf (Nat.le_of_ble_eq_true rfl) rfl ⟨N1 + N2 + N3, 29, fun F n hF => ?_⟩, f.fr⟩
        simp [zg_0, zg_aload_n, zg_getfield, zg_goto, zg_iaload, zg_iconst, zg_ifCond, zg_if_icmp, zg_iload_n, zg_invokevirtual, zg_ireturn, zg_istore_n, zg_ldc_w, zf_X6_areaOf, zi_ld, zi_lda, zi_cmp, zi_retOk, zi_isI, zi_f3, zi_cr, zi_ci, zi_cn, zi_get, zi_set, zM_g, cM, cM1, zq_Mod_isFloating, zq_Mod_layAll, zq_Mod_leafOf, E1 F (by omega), E2 F (by omega), E3 F (by omega), zm_iald (k := 0) zM_A238 ik, ck, hh, e8, zm_iald (k := 0) zM_A255 im, cm]
      · rw [a2]
        refine ⟨ν, ν 256 m, ze_in [(0, .ref 232), (1, .int (nI k)), (2, .int 2)] zq_Mod_areaOf (Nat.le_of_ble_eq_true rfl) rfl ⟨N1 + N2 + N3, 32, fun F n hF => ?_⟩, f.fr⟩
        simp [zg_0, zg_aload_n, zg_getfield, zg_goto, zg_iaload, zg_iconst, zg_ifCond, zg_if_icmp, zg_iload_n, zg_invokevirtual, zg_ireturn, zg_istore_n, zg_ldc_w, zf_X6_areaOf, zi_ld, zi_lda, zi_cmp, zi_retOk, zi_isI, zi_f3, zi_cr, zi_ci, zi_cn, zi_get, zi_set, zM_g, cM, cM1, zq_Mod_isFloating, zq_Mod_layAll, zq_Mod_leafOf, E1 F (by omega), E2 F (by omega), E3 F (by omega), zm_iald (k := 0) zM_A238 ik, ck, hh, e8, zm_iald (k := 0) zM_A256 im, cm]
      · rw [a3]
        refine ⟨ν, ν 257 m, ze_in [(0, .ref 232), (1, .int (nI k)), (2, .int 3)] zq_Mod_areaOf (Nat.le_of_ble_eq_true rfl) rfl ⟨N1 + N2 + N3, 35, fun F n hF => ?_⟩, f.fr⟩
        simp [zg_0, zg_aload_n, zg_getfield, zg_goto, zg_iaload, zg_iconst, zg_ifCond, zg_if_icmp, zg_iload_n, zg_invokevirtual, zg_ireturn, zg_istore_n, zg_ldc_w, zf_X6_areaOf, zi_ld, zi_lda, zi_cmp, zi_retOk, zi_isI, zi_f3, zi_cr, zi_ci, zi_cn, zi_get, zi_set, zM_g, cM, cM1, zq_Mod_isFloating, zq_Mod_layAll, zq_Mod_leafOf, E1 F (by omega), E2 F (by omega), E3 F (by omega), zm_iald (k := 0) zM_A238 ik, ck, hh, e8, zm_iald (k := 0) zM_A257 im, cm]
      · rw [a4]
        refine ⟨ν, ν 258 m, ze_in [(0, .ref 232), (1, .int (nI k)), (2, .int 4)] zq_Mod_areaOf (Nat.le_of_ble_eq_true rfl) rfl ⟨N1 + N2 + N3, 34, fun F n hF => ?_⟩, f.fr⟩
        simp [zg_0, zg_aload_n, zg_getfield, zg_goto, zg_iaload, zg_iconst, zg_ifCond, zg_if_icmp, zg_iload_n, zg_invokevirtual, zg_ireturn, zg_istore_n, zg_ldc_w, zf_X6_areaOf, zi_ld, zi_lda, zi_cmp, zi_retOk, zi_isI, zi_f3, zi_cr, zi_ci, zi_cn, zi_get, zi_set, zM_g, cM, cM1, zq_Mod_isFloating, zq_Mod_layAll, zq_Mod_leafOf, E1 F (by omega), E2 F (by omega), E3 F (by omega), zm_iald (k := 0) zM_A238 ik, ck, hh, e8, zm_iald (k := 0) zM_A258 im, cm]
    · rw [if_pos (h.1.mpr c1)] at E1
      rcases (by omega : a = 1 ∨ a = 2 ∨ a = 3 ∨ a = 4) with rfl | rfl | rfl | rfl
      · rw [a1]
        refine ⟨μ, μ 239 k, ze_in [(0, .ref 232), (1, .int (nI k)), (2, .int 1)] zq_Mod_areaOf (Nat.le_of_ble_eq_true rfl) rfl ⟨N1, 15, fun F n hF => ?_⟩, zM_fr.refl⟩
        simp [zg_0, zg_aload_n, zg_getfield, zg_goto, zg_iaload, zg_iconst, zg_ifCond, zg_if_icmp, zg_iload_n, zg_invokevirtual, zg_ireturn, zg_istore_n, zg_ldc_w, zf_X6_areaOf, zi_ld, zi_lda, zi_cmp, zi_retOk, zi_isI, zi_f3, zi_cr, zi_ci, zi_cn, zi_get, zi_set, zM_g, cM, zq_Mod_isFloating, E1 F (by omega), zm_iald (k := 0) zM_A239 ik, ck]
      · rw [a2]
        refine ⟨μ, μ 240 k, ze_in [(0, .ref 232), (1, .int (nI k)), (2, .int 2)] zq_Mod_areaOf (Nat.le_of_ble_eq_true rfl) rfl ⟨N1, 18, fun F n hF => ?_⟩, zM_fr.refl⟩
        simp [zg_0, zg_aload_n, zg_getfield, zg_goto, zg_iaload, zg_iconst, zg_ifCond, zg_if_icmp, zg_iload_n, zg_invokevirtual, zg_ireturn, zg_istore_n, zg_ldc_w, zf_X6_areaOf, zi_ld, zi_lda, zi_cmp, zi_retOk, zi_isI, zi_f3, zi_cr, zi_ci, zi_cn, zi_get, zi_set, zM_g, cM, zq_Mod_isFloating, E1 F (by omega), zm_iald (k := 0) zM_A240 ik, ck]
      · rw [a3]
        refine ⟨μ, μ 235 k, ze_in [(0, .ref 232), (1, .int (nI k)), (2, .int 3)] zq_Mod_areaOf (Nat.le_of_ble_eq_true rfl) rfl ⟨N1, 21, fun F n hF => ?_⟩, zM_fr.refl⟩
        simp [zg_0, zg_aload_n, zg_getfield, zg_goto, zg_iaload, zg_iconst, zg_ifCond, zg_if_icmp, zg_iload_n, zg_invokevirtual, zg_ireturn, zg_istore_n, zg_ldc_w, zf_X6_areaOf, zi_ld, zi_lda, zi_cmp, zi_retOk, zi_isI, zi_f3, zi_cr, zi_ci, zi_cn, zi_get, zi_set, zM_g, cM, zq_Mod_isFloating, E1 F (by omega), zm_iald (k := 0) zM_A235 ik, ck]
      · rw [a4]
        refine ⟨μ, μ 236 k, ze_in [(0, .ref 232), (1, .int (nI k)), (2, .int 4)] zq_Mod_areaOf (Nat.le_of_ble_eq_true rfl) rfl ⟨N1, 20, fun F n hF => ?_⟩, zM_fr.refl⟩
        simp [zg_0, zg_aload_n, zg_getfield, zg_goto, zg_iaload, zg_iconst, zg_ifCond, zg_if_icmp, zg_iload_n, zg_invokevirtual, zg_ireturn, zg_istore_n, zg_ldc_w, zf_X6_areaOf, zi_ld, zi_lda, zi_cmp, zi_retOk, zi_isI, zi_f3, zi_cr, zi_ci, zi_cn, zi_get, zi_set, zM_g, cM, zq_Mod_isFloating, E1 F (by omega), zm_iald (k := 0) zM_A236 ik, ck]
theorem ze_MareaOf (D : Nat) (h : zR μ row stk us) {k : Nat} (hk : k < 10) (ht : ¬ μ 234 k = 0) {a : Nat} (ha : a < 5) : ∃ ν v, ze_E (D + 28) A_Mod_areaOf [.ref 232, .int (nI k), .int (nI a)] (zm_mk μ) (some (.int v)) (zm_mk ν) ∧ zM_fr μ ν :=
  ze_MareaOfG D hk ⟨zR_fl h hk ht, fun c => zR_til h hk c⟩ ha
theorem zM_isIn {hp : zi_Hp} (D : Nat) (x : Int32) {n : Nat} {b : Int32} (hn : n < 1000) (e : nI n = b) : (∃ k, k < n + 1 ∧ x = nI k ∧ ze_E (D + 1) A_Mod_isIn [.int x, .int 0, .int b] hp (some (.int 1)) hp) ∨ (ze_E (D + 1) A_Mod_isIn [.int x, .int 0, .int b] hp (some (.int 0)) hp ∧ ∀ k, k < n + 1 → x ≠ nI k) := by
  subst e
  have E := ze_isIn (h := hp) D x 0 (nI n)
  have n0 : (0 : Int32) = nI 0 := by decide
  rcases zd_rng x (n + 1) (by omega) with ⟨k, hk, rfl⟩ | hout
  · rw [if_pos ⟨Int32.not_lt.mp (nI_pos (by omega)), (by
      have := nI_ge (a := k) (b := n + 1) hk (by omega)
      by_cases c : k = n
      · rw [c]; exact Int32.le_refl _
      · have : ¬ nI n ≤ nI k := nI_ge (by omega) (by omega)
        exact Int32.le_of_lt (Int32.not_le.mp this))⟩] at E
    exact Or.inl ⟨k, hk, rfl, E⟩
  · have hno : ∀ k, k < n + 1 → x ≠ nI k := fun k hk e => by
      rw [e] at hout
      rcases hout with c | c
      · exact nI_pos (by omega) c
      · exact nI_ge hk (by omega) c
    have : ¬ (0 ≤ x ∧ x ≤ nI n) := fun z => by
      rcases hout with c | c
      · exact Int32.not_le.mpr c z.1
      · exact nI_ge (a := n) (b := n + 1) (by omega) (by omega) (Int32.le_trans c z.2)
    rw [if_neg this] at E
    exact Or.inr ⟨E, hno⟩
set_option maxRecDepth 100000 in
theorem ze_Marea (D : Nat) (h : zR μ row stk us) (w x : Int32) : ∃ ν v, ze_E (D + 29) A_Mod_area [.ref 232, .int w, .int x] (zm_mk μ) (some (.int v)) (zm_mk ν) ∧ zM_fr μ ν := by
  have n4 : Int32.ofInt (-1000000001) = -1000000001 := by decide
  obtain ⟨lc, cM⟩ := zM_c (μ := μ)
  rcases zR_win (D + 26) h w with ⟨k, hk, rfl, c0, N1, E1⟩ | ⟨⟨N1, E1⟩, c0⟩
  · rcases zM_isIn (hp := zm_mk μ) (D + 27) x (n := 4) (b := 4) (by decide) (by decide) with ⟨a, ha, rfl, N2, E2⟩ | ⟨⟨N2, E2⟩, -⟩
    · obtain ⟨ν, v, ⟨N3, E3⟩, f⟩ := ze_MareaOf D h hk c0 ha
      refine ⟨ν, v, ze_in [(0, .ref 232), (1, .int (nI k)), (2, .int (nI a))] zq_Mod_area (Nat.le_of_ble_eq_true rfl) rfl ⟨N1 + N2 + N3, 15, fun F n hF => ?_⟩, f⟩
      simp [zg_0, zg_aload_n, zg_goto, zg_iconst, zg_ifCond, zg_iload_n, zg_invokestatic, zg_invokevirtual, zg_ireturn, zg_ldc, zf_X6_area, zi_ld, zi_lda, zi_cmp, zi_retOk, zi_isI, zi_f3, zi_cr, zi_ci, zi_cn, zi_get, zi_set, cM, zq_Mod_isWindow, zq_Mod_isIn, zq_Mod_areaOf, E1 F (by omega), E2 F (by omega), E3 F (by omega)]
    · refine ⟨μ, -1000000001, ze_in [(0, .ref 232), (1, .int (nI k)), (2, .int x)] zq_Mod_area (Nat.le_of_ble_eq_true rfl) rfl ⟨N1 + N2, 11, fun F n hF => ?_⟩, zM_fr.refl⟩
      simp [zg_0, zg_aload_n, zg_goto, zg_iconst, zg_ifCond, zg_iload_n, zg_invokestatic, zg_invokevirtual, zg_ireturn, zg_ldc, zf_X6_area, zi_ld, zi_lda, zi_cmp, zi_retOk, zi_isI, zi_f3, zi_cr, zi_ci, zi_cn, zi_get, zi_set, cM, zq_Mod_isWindow, zq_Mod_isIn, E1 F (by omega), E2 F (by omega), n4]
  · refine ⟨μ, -1000000001, ze_in [(0, .ref 232), (1, .int w), (2, .int x)] zq_Mod_area (Nat.le_of_ble_eq_true rfl) rfl ⟨N1, 6, fun F n hF => ?_⟩, zM_fr.refl⟩
    simp [zg_0, zg_aload_n, zg_goto, zg_iconst, zg_ifCond, zg_iload_n, zg_invokestatic, zg_invokevirtual, zg_ireturn, zg_ldc, zf_X6_area, zi_ld, zi_lda, zi_cmp, zi_retOk, zi_isI, zi_f3, zi_cr, zi_ci, zi_cn, zi_get, zi_set, cM, zq_Mod_isWindow, E1 F (by omega), n4]
/-- isShown, as it comes out -/
theorem zR_shown (D : Nat) (h : zR μ row stk us) {k : Nat} (hk : k < 10) : (ze_E (D + 4) A_Mod_isShown [.ref 232, .int (nI k)] (zm_mk μ) (some (.int 1)) (zm_mk μ) ∧ μ 234 k = 1 ∧ ∃ q m, q < 3 ∧ μ 238 k = nI q ∧ zu_at μ q (us q) k m ∧ μ 250 (24 * q + m) = nI k) ∨ (ze_E (D + 4) A_Mod_isShown [.ref 232, .int (nI k)] (zm_mk μ) (some (.int 0)) (zm_mk μ) ∧ ¬ (μ 234 k = 1 ∧ ∃ q m, q < 3 ∧ μ 238 k = nI q ∧ zu_at μ q (us q) k m ∧ μ 250 (24 * q + m) = nI k)) := by
  by_cases c : μ 234 k = 1
  · obtain ⟨q, m, ab, hq, hh, hI, hat⟩ := zR_til h hk c
    have E := ze_MisShown (μ := μ) D hk c hq hh hI hat
    by_cases c2 : μ 250 (24 * q + m) = nI k
    · rw [if_pos c2] at E
      exact Or.inl ⟨E, c, q, m, hq, hh, hat, c2⟩
    · rw [if_neg c2] at E
      refine Or.inr ⟨E, fun ⟨_, q', m', a1, a2, a3, a4⟩ => c2 ?_⟩
      have e := (nI_eq (by omega) (by omega)).mp (a2.symm.trans hh)
      subst e
      rw [← hat.2.2 m' a3.1 a3.2.1]
      exact a4
  · exact Or.inr ⟨ze_MisShown_no (μ := μ) D hk c, fun z => c z.1⟩
/-- in which leaf a tiled window is -/
theorem zR_lo (h : zR μ row stk us) : ∃ lo : Nat → Nat, ∀ s j, s < 3 → j < 10 → μ 234 j = 1 → μ 238 j = nI s → zu_at μ s (us s) j (lo j) := by
  have : ∀ j, ∃ m, ∀ s, s < 3 → j < 10 → μ 234 j = 1 → μ 238 j = nI s → zu_at μ s (us s) j m := fun j => by
    by_cases c : j < 10 ∧ μ 234 j = 1
    · obtain ⟨q, m, ab, hq, hh, hI, hat⟩ := zR_til h c.1 c.2
      refine ⟨m, fun s hs _ _ e => ?_⟩
      have e := (nI_eq (by omega) (by omega)).mp (e.symm.trans hh)
      subst e
      exact hat
    · exact ⟨0, fun s hs a b _ => absurd ⟨a, b⟩ c⟩
  exact ⟨fun j => Classical.choose (this j), fun s j hs a b c => Classical.choose_spec (this j) s hs a b c⟩
theorem zl_nb_or' (f : Nat → Int32) (b : Int32) : zl_nb f (List.range 10) b 0 = b ∨ ∃ i, i < 10 ∧ zl_nb f (List.range 10) b 0 = nI i ∧ 0 < f i := by
  rcases zl_nb_or f (List.range 10) b 0 with e | ⟨i, h1, h2, h3⟩
  · exact Or.inl e
  · exact Or.inr ⟨i, List.mem_range.mp h1, h2, h3⟩
end ZWB
