/-! the reference: what holds between calls; isOf, focus, back -/
/-- what holds of the reference between calls -/
def zR (μ : zm_M) (row stk : List Nat) (us : Nat → zy_F) : Prop :=
  (∀ k, k < 10 → μ 234 k = 0 ∨ μ 234 k = 1 ∨ μ 234 k = 2 ∨ μ 234 k = 3 ∨ μ 234 k = 4) ∧ (zv_L μ 242 12 row ∧ row.Nodup ∧ ∀ k, k ∈ row ↔ k < 10 ∧ ¬ μ 234 k = 0) ∧ (zv_L μ 241 10 stk ∧ stk.Nodup ∧ ∀ k, k ∈ stk ↔ k < 10 ∧ 2 ≤ μ 234 k) ∧ (∃ rk, zv_rk μ rk) ∧
  (∀ q, q < 3 → (∃ ab, zu_I μ q (us q) ab) ∧ zu_nd μ q (us q) ∧ ∀ n ∈ zy_lvs (us q), ∀ w ∈ zu_tb μ q n, μ 234 w = 1 ∧ μ 238 w = nI q) ∧
  (∀ k, k < 10 → ¬ μ 234 k = 0 → ¬ μ 234 k = 4 → ∃ q, q < 3 ∧ μ 238 k = nI q ∧ 0 < μ 232 q ∧ (μ 234 k = 1 → ∃ m, zu_at μ q (us q) k m)) ∧ ∀ q, q < 3 → 0 ≤ μ 232 q ∧ 0 ≤ μ 233 q
/-- only cells that no answer of ours rests on have changed -/
def zM_fr (μ ν : zm_M) : Prop := ∀ c d, ¬ (c = 231 ∧ d = 30) → c ≠ 239 → c ≠ 240 → ¬ (253 ≤ c ∧ c ≤ 261) → ν c d = μ c d
section ZWA
variable {μ ν : zm_M} {row stk : List Nat} {us : Nat → zy_F}
theorem zM_fr.refl : zM_fr μ μ := fun _ _ _ _ _ _ => rfl
theorem zM_fr.trans {ξ : zm_M} (a : zM_fr μ ν) (b : zM_fr ν ξ) : zM_fr μ ξ := fun c d h1 h2 h3 h4 => (b c d h1 h2 h3 h4).trans (a c d h1 h2 h3 h4)
theorem zv_frY.fr (h : zv_frY μ ν) : zM_fr μ ν := fun c d h1 _ _ h4 => h c d h1 (by omega)
theorem zu_frv.fr (h : zu_frv μ ν) : zM_fr μ ν := fun c d h1 _ _ h4 => h c d h1 (by omega)
theorem zM_fr.eqT {τ : Nat} (h : zM_fr μ ν) : zu_eqT μ τ ν τ := by
  refine ⟨h _ _ (by omega) (by decide) (by decide) (by omega), fun c n hc _ => ?_, fun n j _ _ => h _ _ (by omega) (by decide) (by decide) (by omega)⟩
  have : c = 244 ∨ c = 245 ∨ c = 246 ∨ c = 247 ∨ c = 249 ∨ c = 250 := by
    unfold zu_c6 at hc
    simpa [or_assoc] using hc
  exact h _ _ (by omega) (by omega) (by omega) (by omega)
theorem zM_fr.L {C q : Nat} {l : List Nat} (h : zM_fr μ ν) (hC : C = 241 ∨ C = 242) (hq : q = 10 ∨ q = 12) (g : zv_L μ C q l) : zv_L ν C q l :=
  ⟨g.1, (h _ _ (by omega) (by decide) (by decide) (by omega)).trans g.2.1, fun j hj => (h _ _ (by omega) (by omega) (by omega) (by omega)).trans (g.2.2 j hj)⟩
theorem zM_fr.tb {τ : Nat} (h : zM_fr μ ν) : zu_tb ν τ = zu_tb μ τ := funext fun n => zu_tb_cells (fun d => ⟨h _ _ (by omega) (by decide) (by decide) (by omega), h _ _ (by omega) (by decide) (by decide) (by omega)⟩)
theorem zR.fr (h : zR μ row stk us) (f : zM_fr μ ν) : zR ν row stk us := by
  obtain ⟨h1, h2, h3, ⟨rk, h4⟩, h5, h6, h7⟩ := h
  have e : ∀ c d, 232 ≤ c → c ≤ 238 → ν c d = μ c d := fun c d a b => f c d (by omega) (by omega) (by omega) (by omega)
  have e4 : ν 234 = μ 234 := funext fun d => e 234 d (by decide) (by decide)
  have e7 : ν 237 = μ 237 := funext fun d => e 237 d (by decide) (by decide)
  have e8 : ν 238 = μ 238 := funext fun d => e 238 d (by decide) (by decide)
  have e2 : ν 232 = μ 232 := funext fun d => e 232 d (by decide) (by decide)
  have e3 : ν 233 = μ 233 := funext fun d => e 233 d (by decide) (by decide)
  refine ⟨by rw [e4]; exact h1, ⟨f.L (Or.inr rfl) (Or.inr rfl) h2.1, h2.2.1, by rw [e4]; exact h2.2.2⟩, ⟨f.L (Or.inl rfl) (Or.inl rfl) h3.1, h3.2.1, by rw [e4]; exact h3.2.2⟩, ⟨rk, by unfold zv_rk; rw [e4, e7]; exact h4⟩, fun q hq => ?_, fun k hk => ?_, by rw [e2, e3]; exact h7⟩
  · obtain ⟨⟨ab, a1⟩, a2, a3⟩ := h5 q hq
    refine ⟨⟨ab, f.eqT.I a1⟩, ?_, by rw [f.tb, e4, e8]; exact a3⟩
    unfold zu_nd
    rw [f.tb]; exact a2
  · rw [e4, e8, e2]
    intro a b
    obtain ⟨q, b1, b2, b3, b4⟩ := h6 k hk a b
    refine ⟨q, b1, b2, b3, fun c => ?_⟩
    obtain ⟨m, b5⟩ := b4 c
    obtain ⟨⟨ab, a1⟩, -⟩ := h5 q b1
    exact ⟨m, zu_at_eqT a1 f.eqT b5⟩
theorem zR_win (D : Nat) (h : zR μ row stk us) (w : Int32) : (∃ k, k < 10 ∧ w = nI k ∧ ¬ μ 234 k = 0 ∧ ze_E (D + 2) A_Mod_isWindow [.ref 232, .int w] (zm_mk μ) (some (.int 1)) (zm_mk μ)) ∨ (ze_E (D + 2) A_Mod_isWindow [.ref 232, .int w] (zm_mk μ) (some (.int 0)) (zm_mk μ) ∧ ∀ k, k < 10 → w = nI k → μ 234 k = 0) := by
  rcases zd_rng w 10 (by decide) with ⟨k, hk, rfl⟩ | hout
  · have E := ze_MisWindow_in (μ := μ) D hk
    by_cases c : μ 234 k = 0
    · rw [c, if_neg (by decide)] at E
      exact Or.inr ⟨E, fun j hj e => by rw [← (nI_eq (by omega) (by omega)).mp e]; exact c⟩
    · have : 0 < μ 234 k := by
        rcases h.1 k hk with e | e | e | e | e
        · exact absurd e c
        all_goals rw [e]; decide
      rw [if_pos this] at E
      exact Or.inl ⟨k, hk, rfl, c, E⟩
  · refine Or.inr ⟨ze_MisWindow_out (μ := μ) D hout, fun k hk e => ?_⟩
    exfalso
    rw [e] at hout
    rcases hout with c | c
    · exact nI_pos (by omega) c
    · exact nI_ge (b := 10) hk (by decide) c
theorem zR_fl (h : zR μ row stk us) {k : Nat} (hk : k < 10) (ht : ¬ μ 234 k = 0) : (2 ≤ μ 234 k ↔ ¬ μ 234 k = 1) := by
  rcases h.1 k hk with e | e | e | e | e
  · exact absurd e ht
  all_goals rw [e]; decide
set_option maxRecDepth 100000 in
theorem ze_MisOf (D : Nat) (h : zR μ row stk us) {k : Nat} (hk : k < 10) (x : Int32) : ze_E (D + 3) A_Mod_isOf [.ref 232, .int (nI k), .int x] (zm_mk μ) (some (.int (if ¬ μ 234 k = 0 ∧ (0 ≤ x ∧ x ≤ 4) then (if μ 234 k = x ∨ x = 0 ∨ (x = 2 ∧ ¬ μ 234 k = 1) then 1 else 0) else -1000000001))) (zm_mk μ) := by
  have n4 : Int32.ofInt (-1000000001) = -1000000001 := by decide
  obtain ⟨lc, cM⟩ := zM_c (μ := μ)
  have ik : zi_in (nI k) 10 = true := zm_in hk (by decide)
  have ck : (nI k).toNatClampNeg = k := nI_clamp (by omega)
  rcases zR_win D h (nI k) with ⟨k', hk', e, c0, N1, E1⟩ | ⟨⟨N1, E1⟩, c0⟩
  · have e := (nI_eq (by omega) (by omega)).mp e
    subst e
    obtain ⟨N2, E2⟩ := ze_isIn (h := zm_mk μ) (D + 1) x 0 4
    by_cases c1 : 0 ≤ x ∧ x ≤ 4
    · rw [if_pos c1] at E2
      rw [if_pos ⟨c0, c1⟩]
      by_cases c2 : x = 0
      · rw [if_pos (Or.inr (Or.inl c2))]
        subst c2
        refine ze_in [(0, .ref 232), (1, .int (nI k)), (2, .int 0)] zq_Mod_isOf (Nat.le_of_ble_eq_true rfl) rfl ⟨N1 + N2, 14, fun F n hF => ?_⟩
        simp [zg_0, zg_aload_n, zg_getfield, zg_goto, zg_iaload, zg_iconst, zg_ifCond, zg_if_icmp, zg_iload_n, zg_invokestatic, zg_invokevirtual, zg_ireturn, zg_ldc, zf_X6_isOf, zi_ld, zi_lda, zi_cmp, zi_retOk, zi_isI, zi_f3, zi_cr, zi_ci, zi_cn, zi_get, zi_set, cM, zq_Mod_isWindow, zq_Mod_isIn, E1 F (by omega), E2 F (by omega)]
      · by_cases c3 : μ 234 k = x
        · rw [if_pos (Or.inl c3)]
          refine ze_in [(0, .ref 232), (1, .int (nI k)), (2, .int x)] zq_Mod_isOf (Nat.le_of_ble_eq_true rfl) rfl ⟨N1 + N2, 20, fun F n hF => ?_⟩
          simp [zg_0, zg_aload_n, zg_getfield, zg_goto, zg_iaload, zg_iconst, zg_ifCond, zg_if_icmp, zg_iload_n, zg_invokestatic, zg_invokevirtual, zg_ireturn, zg_ldc, zf_X6_isOf, zi_ld, zi_lda, zi_cmp, zi_retOk, zi_isI, zi_f3, zi_cr, zi_ci, zi_cn, zi_get, zi_set, zM_g, cM, zq_Mod_isWindow, zq_Mod_isIn, E1 F (by omega), E2 F (by omega), c2, zm_iald (k := 0) zM_A234 ik, ck, c3]
        · by_cases c4 : x = 2
          · obtain ⟨N3, E3⟩ := ze_MisFloating (μ := μ) (D + 1) hk
            subst c4
            by_cases c5 : μ 234 k = 1
            · rw [if_neg (fun z => z.elim c3 (fun z => z.elim c2 (fun z => z.2 c5)))]
              rw [if_neg (fun z => (zR_fl h hk c0).mp z c5)] at E3
              refine ze_in [(0, .ref 232), (1, .int (nI k)), (2, .int 2)] zq_Mod_isOf (Nat.le_of_ble_eq_true rfl) rfl ⟨N1 + N2 + N3, 26, fun F n hF => ?_⟩
              simp [zg_0, zg_aload_n, zg_getfield, zg_goto, zg_iaload, zg_iconst, zg_ifCond, zg_if_icmp, zg_iload_n, zg_invokestatic, zg_invokevirtual, zg_ireturn, zg_ldc, zf_X6_isOf, zi_ld, zi_lda, zi_cmp, zi_retOk, zi_isI, zi_f3, zi_cr, zi_ci, zi_cn, zi_get, zi_set, zM_g, cM, zq_Mod_isWindow, zq_Mod_isIn, zq_Mod_isFloating, E1 F (by omega), E2 F (by omega), E3 F (by omega), zm_iald (k := 0) zM_A234 ik, ck, c3]
            · rw [if_pos (Or.inr (Or.inr ⟨rfl, c5⟩))]
              rw [if_pos ((zR_fl h hk c0).mpr c5)] at E3
              refine ze_in [(0, .ref 232), (1, .int (nI k)), (2, .int 2)] zq_Mod_isOf (Nat.le_of_ble_eq_true rfl) rfl ⟨N1 + N2 + N3, 27, fun F n hF => ?_⟩
              simp [zg_0, zg_aload_n, zg_getfield, zg_goto, zg_iaload, zg_iconst, zg_ifCond, zg_if_icmp, zg_iload_n, zg_invokestatic, zg_invokevirtual, zg_ireturn, zg_ldc, zf_X6_isOf, zi_ld, zi_lda, zi_cmp, zi_retOk, zi_isI, zi_f3, zi_cr, zi_ci, zi_cn, zi_get, zi_set, zM_g, cM, zq_Mod_isWindow, zq_Mod_isIn, zq_Mod_isFloating, E1 F (by omega), E2 F (by omega), E3 F (by omega), zm_iald (k := 0) zM_A234 ik, ck, c3]
          · rw [if_neg (fun z => z.elim c3 (fun z => z.elim c2 (fun z => c4 z.1)))]
            refine ze_in [(0, .ref 232), (1, .int (nI k)), (2, .int x)] zq_Mod_isOf (Nat.le_of_ble_eq_true rfl) rfl ⟨N1 + N2, 22, fun F n hF => ?_⟩
            simp [zg_0, zg_aload_n, zg_getfield, zg_goto, zg_iaload, zg_iconst, zg_ifCond, zg_if_icmp, zg_iload_n, zg_invokestatic, zg_invokevirtual, zg_ireturn, zg_ldc, zf_X6_isOf, zi_ld, zi_lda, zi_cmp, zi_retOk, zi_isI, zi_f3, zi_cr, zi_ci, zi_cn, zi_get, zi_set, zM_g, cM, zq_Mod_isWindow, zq_Mod_isIn, E1 F (by omega), E2 F (by omega), c2, zm_iald (k := 0) zM_A234 ik, ck, c3, c4]
    · rw [if_neg c1] at E2
      rw [if_neg (fun z => c1 z.2)]
      refine ze_in [(0, .ref 232), (1, .int (nI k)), (2, .int x)] zq_Mod_isOf (Nat.le_of_ble_eq_true rfl) rfl ⟨N1 + N2, 11, fun F n hF => ?_⟩
      simp [zg_0, zg_aload_n, zg_getfield, zg_goto, zg_iaload, zg_iconst, zg_ifCond, zg_if_icmp, zg_iload_n, zg_invokestatic, zg_invokevirtual, zg_ireturn, zg_ldc, zf_X6_isOf, zi_ld, zi_lda, zi_cmp, zi_retOk, zi_isI, zi_f3, zi_cr, zi_ci, zi_cn, zi_get, zi_set, cM, zq_Mod_isWindow, zq_Mod_isIn, E1 F (by omega), E2 F (by omega), n4]
  · rw [if_neg (fun z => z.1 (c0 k hk rfl))]
    refine ze_in [(0, .ref 232), (1, .int (nI k)), (2, .int x)] zq_Mod_isOf (Nat.le_of_ble_eq_true rfl) rfl ⟨N1, 6, fun F n hF => ?_⟩
    simp [zg_0, zg_aload_n, zg_getfield, zg_goto, zg_iaload, zg_iconst, zg_ifCond, zg_if_icmp, zg_iload_n, zg_invokestatic, zg_invokevirtual, zg_ireturn, zg_ldc, zf_X6_isOf, zi_ld, zi_lda, zi_cmp, zi_retOk, zi_isI, zi_f3, zi_cr, zi_ci, zi_cn, zi_get, zi_set, cM, zq_Mod_isWindow, E1 F (by omega), n4]
set_option maxRecDepth 100000 in
theorem ze_MisOf_out (D : Nat) {w : Int32} (hw : w < 0 ∨ (10 : Int32) ≤ w) (x : Int32) : ze_E (D + 3) A_Mod_isOf [.ref 232, .int w, .int x] (zm_mk μ) (some (.int (-1000000001))) (zm_mk μ) := by
  have n4 : Int32.ofInt (-1000000001) = -1000000001 := by decide
  obtain ⟨lc, cM⟩ := zM_c (μ := μ)
  obtain ⟨N1, E1⟩ := ze_MisWindow_out (μ := μ) D hw
  refine ze_in [(0, .ref 232), (1, .int w), (2, .int x)] zq_Mod_isOf (Nat.le_of_ble_eq_true rfl) rfl ⟨N1, 6, fun F n hF => ?_⟩
  simp [zg_0, zg_aload_n, zg_getfield, zg_goto, zg_iaload, zg_iconst, zg_ifCond, zg_if_icmp, zg_iload_n, zg_invokestatic, zg_invokevirtual, zg_ireturn, zg_ldc, zf_X6_isOf, zi_ld, zi_lda, zi_cmp, zi_retOk, zi_isI, zi_f3, zi_cr, zi_ci, zi_cn, zi_get, zi_set, cM, zq_Mod_isWindow, E1 F (by omega), n4]
/-- what focused(k) changes -/
def zv_foc (μ ν : zm_M) (row stk : List Nat) (us : Nat → zy_F) (k : Nat) : Prop :=
  (∃ stk', zv_L ν 241 10 stk' ∧ stk'.Nodup ∧ ∀ x, x ∈ stk' ↔ x ∈ stk ∨ (x = k ∧ 2 ≤ μ 234 k)) ∧ zv_L ν 242 12 (k :: row.erase k) ∧ (μ 234 k = 1 → ∀ q m, q < 3 → μ 238 k = nI q → zu_at μ q (us q) k m → ν 250 (24 * q + m) = nI k) ∧
  ∀ c d, c ≠ 241 → c ≠ 242 → ¬ (c = 231 ∧ (d = 10 ∨ d = 12)) → ¬ (μ 234 k = 1 ∧ ∃ q m, q < 3 ∧ μ 238 k = nI q ∧ zu_at μ q (us q) k m ∧ c = 250 ∧ d = 24 * q + m) → ν c d = μ c d
theorem zv_focused (D : Nat) {rk : Nat → Nat} (hr : zv_rk μ rk) {k : Nat} (hk : k < 10) (ht : μ 234 k = 1 → ∃ q m ab, q < 3 ∧ μ 238 k = nI q ∧ zu_I μ q (us q) ab ∧ zu_at μ q (us q) k m) (hL : zv_L μ 241 10 stk) (hd : stk.Nodup) (hb : ∀ x ∈ stk, x < 10) (hR : zv_L μ 242 12 row) (rd : row.Nodup) (rb : ∀ x ∈ row, x < 10) :
    ∃ ν, ze_E (D + 12) A_Mod_focused [.ref 232, .int (nI k)] (zm_mk μ) none (zm_mk ν) ∧ zv_foc μ ν row stk us k := by
  by_cases c : μ 234 k = 1
  · obtain ⟨q, m, ab, hq, hh, hI, hat⟩ := ht c
    obtain ⟨ν, l', E, a1, a2, a3, a4, a5, a6⟩ := ze_Mfocused_t (μ := μ) D hr hk c hq hh hI hat hL hd hb hR rd rb
    have uq : ∀ q' m', q' < 3 → μ 238 k = nI q' → zu_at μ q' (us q') k m' → q' = q ∧ m' = m := fun q' m' h1 h2 h3 => by
      have e := (nI_eq (by omega) (by omega)).mp (h2.symm.trans hh)
      subst e
      exact ⟨rfl, hat.2.2 m' h3.1 h3.2.1⟩
    refine ⟨ν, E, ⟨l', a1, a2, fun x => ?_⟩, a4, fun _ q' m' h1 h2 h3 => ?_, fun c' d h1 h2 h3 h4 => a6 c' d h1 h2 h3 (fun z => h4 ⟨c, q, m, hq, hh, hat, z.1, z.2⟩)⟩
    · rw [a3, c]
      exact ⟨Or.inl, fun z => z.elim id (fun z => absurd z.2 (by decide))⟩
    · obtain ⟨rfl, rfl⟩ := uq q' m' h1 h2 h3
      exact a5
  · obtain ⟨ν, l', E, a1, a2, a3, a4, a5⟩ := ze_Mfocused_f (μ := μ) D hr hk c hL hd hb hR rd rb
    exact ⟨ν, E, ⟨l', a1, a2, a3⟩, a4, fun z => absurd z c, fun c' d h1 h2 h3 _ => a5 c' d h1 h2 h3⟩
theorem zR_focused (D : Nat) (h : zR μ row stk us) {k : Nat} (hk : k < 10) (ht : ¬ μ 234 k = 0) : ∃ ν, ze_E (D + 12) A_Mod_focused [.ref 232, .int (nI k)] (zm_mk μ) none (zm_mk ν) ∧ zv_foc μ ν row stk us k := by
  obtain ⟨h1, h2, h3, ⟨rk, h4⟩, h5, h6, h7⟩ := h
  refine zv_focused D h4 hk (fun c => ?_) h3.1 h3.2.1 (fun x hx => ((h3.2.2 x).mp hx).1) h2.1 h2.2.1 (fun x hx => ((h2.2.2 x).mp hx).1)
  obtain ⟨q, b1, b2, b3, b4⟩ := h6 k hk ht (by rw [c]; decide)
  obtain ⟨m, b5⟩ := b4 c
  obtain ⟨⟨ab, a1⟩, -⟩ := h5 q b1
  exact ⟨q, m, ab, b1, b2, a1, b5⟩
set_option maxRecDepth 100000 in
theorem ze_Mfocus (D : Nat) (h : zR μ row stk us) (w : Int32) : ∃ ν v, ze_E (D + 13) A_Mod_focus [.ref 232, .int w] (zm_mk μ) (some (.int v)) (zm_mk ν) ∧ (((∀ k, k < 10 → w = nI k → μ 234 k = 0) ∧ ν = μ) ∨ ∃ k, k < 10 ∧ w = nI k ∧ ¬ μ 234 k = 0 ∧ zv_foc μ ν row stk us k) := by
  have n4 : Int32.ofInt (-1000000001) = -1000000001 := by decide
  obtain ⟨lc, cM⟩ := zM_c (μ := μ)
  rcases zR_win (D + 10) h w with ⟨k, hk, rfl, c0, N1, E1⟩ | ⟨⟨N1, E1⟩, c0⟩
  · obtain ⟨ν, ⟨N2, E2⟩, f⟩ := zR_focused D h hk c0
    have i0 : zi_in (0 : Int32) 10 = true := by decide
    have z0 : (0 : Int32).toNatClampNeg = 0 := by decide
    refine ⟨ν, μ 242 0, ze_in [(0, .ref 232), (1, .int (nI k))] zq_Mod_focus (Nat.le_of_ble_eq_true rfl) rfl ⟨N1 + N2, 14, fun F n hF => ?_⟩, Or.inr ⟨k, hk, rfl, c0, f⟩⟩
    simp [zg_0, zg_aload_n, zg_getfield, zg_iaload, zg_iconst, zg_ifCond, zg_iload_n, zg_invokevirtual, zg_ireturn, zg_istore_n, zg_ldc, zf_X6_focus, zi_ld, zi_lda, zi_cmp, zi_retOk, zi_isI, zi_f3, zi_cr, zi_ci, zi_cn, zi_get, zi_set, zM_g, cM, zq_Mod_isWindow, zq_Mod_focused, E1 F (by omega), E2 F (by omega), zm_iald (k := 0) zM_A242 i0, z0]
  · refine ⟨μ, -1000000001, ze_in [(0, .ref 232), (1, .int w)] zq_Mod_focus (Nat.le_of_ble_eq_true rfl) rfl ⟨N1, 6, fun F n hF => ?_⟩, Or.inl ⟨c0, rfl⟩⟩
    simp [zg_0, zg_aload_n, zg_getfield, zg_iaload, zg_iconst, zg_ifCond, zg_iload_n, zg_invokevirtual, zg_ireturn, zg_istore_n, zg_ldc, zf_X6_focus, zi_ld, zi_lda, zi_cmp, zi_retOk, zi_isI, zi_f3, zi_cr, zi_ci, zi_cn, zi_get, zi_set, cM, zq_Mod_isWindow, E1 F (by omega), n4]
set_option maxRecDepth 100000 in
theorem ze_Mback (D : Nat) (h : zR μ row stk us) : ∃ ν v, ze_E (D + 13) A_Mod_back [.ref 232] (zm_mk μ) (some (.int v)) (zm_mk ν) ∧ ((row.length < 2 ∧ ν = μ) ∨ (¬ row.length < 2 ∧ zv_foc μ ν row stk us (row.getD 1 0))) := by
  have n4 : Int32.ofInt (-1000000002) = -1000000002 := by decide
  obtain ⟨lc, cM⟩ := zM_c (μ := μ)
  have hL := h.2.1.1
  have l10 := hL.1
  by_cases c : row.length < 2
  · have c1 : ¬ (2 : Int32) ≤ nI row.length := nI_ge (b := 2) c (by decide)
    refine ⟨μ, -1000000002, ze_in [(0, .ref 232)] zq_Mod_back (Nat.le_of_ble_eq_true rfl) rfl ⟨0, 6, fun F n hF => ?_⟩, Or.inl ⟨c, rfl⟩⟩
    simp [zg_0, zg_aload_n, zg_getfield, zg_iaload, zg_iconst, zg_if_icmp, zg_iload_n, zg_invokevirtual, zg_ireturn, zg_istore_n, zg_ldc, zf_X6_back, zi_ld, zi_lda, zi_cmp, zi_retOk, zi_isI, zi_f3, zi_cr, zi_ci, zi_cn, zi_get, zi_set, zM_g, hL.2.1, c1, n4]
  · have c1 : (2 : Int32) ≤ nI row.length := by
      have : ∀ n, n < 11 → ¬ n < 2 → (2 : Int32) ≤ nI n := by decide
      exact this _ (by omega) c
    have hm : row.getD 1 0 ∈ row := zl_mem (by omega)
    obtain ⟨hk, ht⟩ := (h.2.1.2.2 _).mp hm
    have e1 : μ 242 1 = nI (row.getD 1 0) := hL.2.2 1 (by omega)
    obtain ⟨ν, ⟨N2, E2⟩, f⟩ := zR_focused D h hk ht
    have i0 : zi_in (1 : Int32) 10 = true := by decide
    have z0 : (1 : Int32).toNatClampNeg = 1 := by decide
    generalize row.getD 1 0 = k at hm hk ht e1 E2 f ⊢
    refine ⟨ν, nI k, ze_in [(0, .ref 232)] zq_Mod_back (Nat.le_of_ble_eq_true rfl) rfl ⟨N2, 14, fun F n hF => ?_⟩, Or.inr ⟨c, f⟩⟩
    simp [zg_0, zg_aload_n, zg_getfield, zg_iaload, zg_iconst, zg_if_icmp, zg_iload_n, zg_invokevirtual, zg_ireturn, zg_istore_n, zg_ldc, zf_X6_back, zi_ld, zi_lda, zi_cmp, zi_retOk, zi_isI, zi_f3, zi_cr, zi_ci, zi_cn, zi_get, zi_set, zM_g, cM, hL.2.1, c1, zq_Mod_focused, E2 F (by omega), zm_iald (k := 0) zM_A242 i0, z0, e1]
end ZWA
