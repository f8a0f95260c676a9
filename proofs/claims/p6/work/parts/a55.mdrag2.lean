/-! the reference: drag -/
def zv_dlg (μ : zm_M) (x : Nat) : Bool := decide (μ 234 x = 3)
def zv_own (μ : zm_M) (x : Nat) : Nat := (μ 237 x).toNatClampNeg
/-- the window k and its dialogs -/
def zv_grp (μ : zm_M) (k : Nat) : Nat → Bool := zl_spn (zv_dlg μ) (zv_own μ) (fun j => decide (j = k)) 10
def zv_darg (μ : zm_M) (w x y : Int32) (k o sd : Nat) : Prop := (k < 10 ∧ o < 10 ∧ sd < 5) ∧ (w = nI k ∧ x = nI o ∧ y = nI sd) ∧ (μ 234 k = 1 ∧ μ 234 o = 1 ∧ k ≠ o)
/-- the tree of a drag before the window comes to it: that of b, without k if k is there -/
def zv_isDr (μ : zm_M) (b : Nat) (u : zy_F) (k a : Nat) (μ0 : zm_M) (u' : zy_F) : Prop :=
  (a ≠ b ∧ u' = u ∧ zu_eqT μ b μ0 6) ∨ (a = b ∧ ∃ m ab1, zu_at μ b u k m ∧ zu_isOut (zu_cq μ b 6 24 240) 6 u m k μ0 ab1 ∧ u' = (if (zu_tb (zu_cq μ b 6 24 240) 6 m).erase k = [] then zy_out m u else u))
/-- and with it -/
def zv_dn2 (μ0 ξ : zm_M) (u' : zy_F) (k n sd : Nat) (u2 : zy_F) : Prop :=
  (sd = 4 ∧ u2 = u' ∧ ∃ ab, zu_isTab μ0 6 u' ab n k ξ) ∨ (sd < 4 ∧ ∃ ab' c f, u2 = zy_sub n (.append (.tag c (.tag (if decide (sd % 2 = 0) then f else n) .nil)) (.tag (if decide (sd % 2 = 0) then n else f) .nil)) u' ∧ zu_isCut μ0 6 u' n k (sd / 2) (decide (sd % 2 = 0)) ξ ab' c f)
def zv_trl (μ ξ : zm_M) (us : Nat → zy_F) (a k o sd b : Nat) (u2 : zy_F) : Prop :=
  ∃ μ0 u' n, zv_isDr μ b (us b) k a μ0 u' ∧ zu_at μ0 6 u' o n ∧ zv_dn2 μ0 ξ u' k n sd u2
/-- the trees behind a drag -/
def zv_drU (us : Nat → zy_F) (a b : Nat) (ua u2 : zy_F) : Nat → zy_F := fun q => if q = b then u2 else if q = a then ua else us q
/-- what a drag has changed before the focus is given; ξ holds the trial tree -/
def zv_drx (μ ξ ν : zm_M) (us : Nat → zy_F) (k a b : Nat) (ua : zy_F) : Prop :=
  zu_eqT ξ 6 ν b ∧ (a ≠ b → ∃ m ab' A B, zu_at μ a (us a) k m ∧ zu_eqT μ a A a ∧ zu_isOut A a (us a) m k B ab' ∧ zu_eqT B a ν a ∧ ua = (if (zu_tb A a m).erase k = [] then zy_out m (us a) else us a)) ∧
  (∀ j, j < 10 → ν 238 j = if j = k ∨ (a ≠ b ∧ zv_grp μ k j = true) then nI b else μ 238 j) ∧ (∀ s, s < 3 → (ν 251 s = 0 ∨ ν 251 s = μ 251 s) ∧ (ν 251 s = 0 ↔ μ 251 s = 0 ∨ ∃ j, j < 10 ∧ (j = k ∨ (a ≠ b ∧ zv_grp μ k j = true)) ∧ ¬ μ 252 (10 * s + j) = 0)) ∧
  ∀ c d, c ≠ 238 → c ≠ 239 → c ≠ 240 → c ≠ 251 → c ≠ 260 → ¬ zu_in 6 c d → ¬ zu_in a c d → ¬ zu_in b c d → ν c d = μ c d
def zv_drgd (μ ν : zm_M) (row stk : List Nat) (us : Nat → zy_F) (w x y : Int32) : Prop :=
  ((¬ ∃ k o sd, zv_darg μ w x y k o sd) ∧ ν = μ) ∨
  ∃ k o sd a b ξ u2, zv_darg μ w x y k o sd ∧ a < 3 ∧ b < 3 ∧ μ 238 k = nI a ∧ μ 238 o = nI b ∧ zu_fr 6 μ ξ ∧ zv_trl μ ξ us a k o sd b u2 ∧
    (((zu_fit ξ 6 u2 (μ 232 b) (μ 233 b) = false ∨ (a ≠ b ∧ ¬ ∀ j, j < 10 → zv_drm μ k b (zv_grp μ k) j = true)) ∧ ∀ c d, c ≠ 260 → ¬ zu_in 6 c d → ν c d = μ c d) ∨
     ((zu_fit ξ 6 u2 (μ 232 b) (μ 233 b) = true ∧ (a = b ∨ ∀ j, j < 10 → zv_drm μ k b (zv_grp μ k) j = true)) ∧ ∃ ν6 ua, zv_drx μ ξ ν6 us k a b ua ∧ zv_foc ν6 ν row stk (zv_drU us a b ua u2) k))
theorem zv_gd_iff {p : Nat → Bool} {b : Bool} : ∀ n, zv_gd p b n = true ↔ b = true ∧ ∀ j, j < n → p j = true
  | 0 => ⟨fun h => ⟨h, fun _ q => absurd q (Nat.not_lt_zero _)⟩, fun h => h.1⟩
  | n + 1 => by
    show (zv_gd p b n && p n) = true ↔ _
    rw [Bool.and_eq_true, zv_gd_iff n]
    constructor
    · rintro ⟨⟨h1, h2⟩, h3⟩
      refine ⟨h1, fun j hj => ?_⟩
      by_cases e : j = n
      · rw [e]; exact h3
      · exact h2 j (by omega)
    · rintro ⟨h1, h2⟩
      exact ⟨⟨h1, fun j hj => h2 j (by omega)⟩, h2 n (by omega)⟩
theorem zu_eq_in {A B : zm_M} {τ : Nat} (hh : ∀ c d, zu_in τ c d → B c d = A c d) : zu_eqT A τ B τ :=
  ⟨hh _ _ (Or.inl ⟨rfl, rfl⟩), fun c n hc hn => hh _ _ (Or.inr (Or.inl ⟨hc, by omega, by omega⟩)), fun n j hn hj => hh _ _ (Or.inr (Or.inr ⟨rfl, by omega, by omega⟩))⟩
section ZWN
variable {μ ν : zm_M} {row stk : List Nat} {us : Nat → zy_F}
set_option maxRecDepth 100000 in
/-- 72 to 94: the trial tree, without the window -/
theorem zv_dg1 (D : Nat) (h : zR μ row stk us) {k o a b : Nat} {x3 : Int32} (hk : k < 10) (hok : k ≠ o) (ha : a < 3) (hb : b < 3) (hka : μ 238 k = nI a) {mk mo : Nat} (atk : zu_at μ a (us a) k mk) (ato : zu_at μ b (us b) o mo) :
    ∃ μ0 u' n ab, ze_S (D + 27) 9 (some .int) zc_X6_drag 72 [(5, .int (nI b)), (4, .int (nI a)), (0, .ref 232), (1, .int (nI k)), (2, .int (nI o)), (3, .int x3)] [] (zm_mk μ) 94 [(5, .int (nI b)), (4, .int (nI a)), (0, .ref 232), (1, .int (nI k)), (2, .int (nI o)), (3, .int x3)] [] (zm_mk μ0) ∧ zv_isDr μ b (us b) k a μ0 u' ∧ zu_fr 6 μ μ0 ∧ zu_I μ0 6 u' ab ∧ zu_nd μ0 6 u' ∧ (∀ n ∈ zy_lvs u', k ∉ zu_tb μ0 6 n) ∧ zu_at μ0 6 u' o n := by
  have h6 : (Int8.ofInt 6).toInt32 = (6 : Int32) := by decide
  have q6 : nI 6 = (6 : Int32) := by decide
  obtain ⟨lc, cM⟩ := zM_c (μ := μ)
  obtain ⟨⟨abb, hIb⟩, hndb, hwb⟩ := h.2.2.2.2.1 b hb
  obtain ⟨N1, E1⟩ := ze_McopyTree (μ := μ) (D + 25) (f := b) (t := 6) (by omega) (by decide) (by omega)
  rw [q6] at E1
  have tq := zu_cq_eqT (μ := μ) (f := b) (t := 6)
  have fq : zu_fr 6 μ (zu_cq μ b 6 24 240) := zu_cq_fr
  by_cases c : a = b
  · subst c
    unfold zv_isDr
    generalize zu_cq μ a 6 24 240 = μa at E1 tq fq
    have hIa := tq.I hIb
    have hnda := zu_nd_eqT hIb hndb tq
    have atk' := zu_at_eqT hIb tq atk
    have ato' := zu_at_eqT hIb tq ato
    obtain ⟨lca, cMa⟩ := zM_c (μ := μa)
    obtain ⟨μ0, ab1, ⟨N2, E2⟩, ho⟩ := ze_Mleave (μ := μa) (D + 23) (τ := 6) (by decide) hIa hk atk'
    rw [q6] at E2
    obtain ⟨n1, n2⟩ := zu_isOut_no hIa hnda atk' ho
    refine ⟨μ0, _, mo, ab1, ⟨N1 + N2, 11, fun F m hF => ?_⟩, Or.inr ⟨rfl, mk, ab1, atk, ho, rfl⟩, fq.trans ho.2.2.2.2, ho.1, n1, n2, zu_isOut_at hIa hnda atk' ho (Ne.symm hok) ato'⟩
    simp [zg_0, zg_aload_n, zg_baload, zg_bastore, zg_bipush, zg_getfield, zg_goto, zg_iaload, zg_iastore, zg_iconst, zg_ifCond, zg_if_icmp, zg_iinc, zg_iload, zg_iload_n, zg_invokestatic, zg_invokevirtual, zg_irem, zg_ireturn, zg_istore, zg_ldc, zf_X6_drag, zi_ld, zi_lda, zi_cmp, zi_retOk, zi_isI, zi_f3, zi_cr, zi_ci, zi_cn, zi_get, zi_set, h6, cM, cMa, zq_Mod_copyTree, zq_Mod_leave, E1 F (by omega), E2 F (by omega)]
  · have nab : ¬ nI a = nI b := fun e => c ((nI_eq (by omega) (by omega)).mp e)
    refine ⟨_, us b, mo, abb, ⟨N1, 7, fun F m hF => ?_⟩, Or.inl ⟨c, rfl, tq⟩, fq, tq.I hIb, zu_nd_eqT hIb hndb tq, fun n hn z => ?_, zu_at_eqT hIb tq ato⟩
    · simp [zg_0, zg_aload_n, zg_baload, zg_bastore, zg_bipush, zg_getfield, zg_goto, zg_iaload, zg_iastore, zg_iconst, zg_ifCond, zg_if_icmp, zg_iinc, zg_iload, zg_iload_n, zg_invokestatic, zg_invokevirtual, zg_irem, zg_ireturn, zg_istore, zg_ldc, zf_X6_drag, zi_ld, zi_lda, zi_cmp, zi_retOk, zi_isI, zi_f3, zi_cr, zi_ci, zi_cn, zi_get, zi_set, h6, cM, zq_Mod_copyTree, E1 F (by omega), nab]
    · rw [tq.tb (zu_I_lt hIb hn) (zu_I_tbl hIb hn)] at z
      exact nab (hka.symm.trans (hwb n hn k z).2)
set_option maxRecDepth 100000 in
/-- 94 to 150: the window comes to it -/
theorem zv_dg2 (D : Nat) {μ0 : zm_M} {u' : zy_F} {ab : Nat → Int32} {k o n sd : Nat} {s t : Int32} (hk : k < 10) (ho : o < 10) (hsd : sd < 5) (hI : zu_I μ0 6 u' ab) (hnd : zu_nd μ0 6 u') (hno : ∀ n ∈ zy_lvs u', k ∉ zu_tb μ0 6 n) (hat : zu_at μ0 6 u' o n) :
    ∃ ξ u2 ab2 m, ze_S (D + 27) 9 (some .int) zc_X6_drag 94 [(5, .int t), (4, .int s), (0, .ref 232), (1, .int (nI k)), (2, .int (nI o)), (3, .int (nI sd))] [] (zm_mk μ0) 150 [(6, .int (nI n)), (5, .int t), (4, .int s), (0, .ref 232), (1, .int (nI k)), (2, .int (nI o)), (3, .int (nI sd))] [] (zm_mk ξ) ∧ zv_dn2 μ0 ξ u' k n sd u2 ∧ zu_fr 6 μ0 ξ ∧ zu_I ξ 6 u2 ab2 ∧ zu_at ξ 6 u2 k m := by
  have h6 : (Int8.ofInt 6).toInt32 = (6 : Int32) := by decide
  have q6 : nI 6 = (6 : Int32) := by decide
  obtain ⟨lc, cM⟩ := zM_c (μ := μ0)
  obtain ⟨N1, E1⟩ := ze_MleafOf_at (μ := μ0) (D + 24) (by decide) hI ho hat
  rw [q6] at E1
  by_cases c : sd = 4
  · subst c
    obtain ⟨ξ, ⟨N2, E2⟩, hT⟩ := ze_MaddTabI (μ := μ0) (D + 25) (τ := 6) (by decide) hI hat.1 hk (zu_tb9 hI hnd hat.1 hk (hno n hat.1))
    rw [q6] at E2
    have c4 : nI 4 = (4 : Int32) := by decide
    refine ⟨ξ, u', ab, n, ⟨N1 + N2, 14, fun F m hF => ?_⟩, Or.inl ⟨rfl, rfl, ab, hT⟩, hT.2.2.2.2, hT.1, zu_isTab_at hI hat.1 hk hno hT⟩
    simp [zg_0, zg_aload_n, zg_baload, zg_bastore, zg_bipush, zg_getfield, zg_goto, zg_iaload, zg_iastore, zg_iconst, zg_ifCond, zg_if_icmp, zg_iinc, zg_iload, zg_iload_n, zg_invokestatic, zg_invokevirtual, zg_irem, zg_ireturn, zg_istore, zg_ldc, zf_X6_drag, zi_ld, zi_lda, zi_cmp, zi_retOk, zi_isI, zi_f3, zi_cr, zi_ci, zi_cn, zi_get, zi_set, h6, cM, zq_Mod_leafOf, zq_Mod_addTab, E1 F (by omega), E2 F (by omega), c4]
  · have hsd4 : sd < 4 := by omega
    obtain ⟨ξ, ab2, cc, f, ⟨N2, E2⟩, hC⟩ := ze_McutLeaf (μ := μ0) (D + 23) (τ := 6) (a := sd / 2) (by decide) hI hat.1 hk (by omega) (decide (sd % 2 = 0)) (zu_lvs10 hI hnd).2
    rw [q6] at E2
    have c4 : ¬ nI sd = 4 := fun e => c ((nI_eq (a := sd) (b := 4) (by omega) (by decide)).mp e)
    have S1 : ze_S (D + 27) 9 (some .int) zc_X6_drag 94 [(5, .int t), (4, .int s), (0, .ref 232), (1, .int (nI k)), (2, .int (nI o)), (3, .int (nI sd))] [] (zm_mk μ0) 120 [(6, .int (nI n)), (5, .int t), (4, .int s), (0, .ref 232), (1, .int (nI k)), (2, .int (nI o)), (3, .int (nI sd))] [] (zm_mk μ0) := by
      refine ⟨N1, 8, fun F m hF => ?_⟩
      simp [zg_0, zg_aload_n, zg_baload, zg_bastore, zg_bipush, zg_getfield, zg_goto, zg_iaload, zg_iastore, zg_iconst, zg_ifCond, zg_if_icmp, zg_iinc, zg_iload, zg_iload_n, zg_invokestatic, zg_invokevirtual, zg_irem, zg_ireturn, zg_istore, zg_ldc, zf_X6_drag, zi_ld, zi_lda, zi_cmp, zi_retOk, zi_isI, zi_f3, zi_cr, zi_ci, zi_cn, zi_get, zi_set, h6, cM, zq_Mod_leafOf, E1 F (by omega), c4]
    have S2 : ze_S (D + 27) 9 (some .int) zc_X6_drag 120 [(6, .int (nI n)), (5, .int t), (4, .int s), (0, .ref 232), (1, .int (nI k)), (2, .int (nI o)), (3, .int (nI sd))] [] (zm_mk μ0) 147 [(6, .int (nI n)), (5, .int t), (4, .int s), (0, .ref 232), (1, .int (nI k)), (2, .int (nI o)), (3, .int (nI sd))] [.int (if decide (sd % 2 = 0) = true then 1 else 0), .int (nI k), .int (nI (sd / 2 + 2)), .int (nI n), .int 6, .ref 232] (zm_mk μ0) := by
      match sd, hsd4 with
      | 0, _ =>
        have r1 : ¬ (2 : Int32) ≤ nI 0 := by decide
        have r2 : nI 0 - nI 0 / 2 * 2 = 0 := by decide
        have r3 : nI (0 / 2 + 2) = 2 := by decide
        refine ⟨0, 15, fun F m hF => ?_⟩
        simp [zg_0, zg_aload_n, zg_baload, zg_bastore, zg_bipush, zg_getfield, zg_goto, zg_iaload, zg_iastore, zg_iconst, zg_ifCond, zg_if_icmp, zg_iinc, zg_iload, zg_iload_n, zg_invokestatic, zg_invokevirtual, zg_irem, zg_ireturn, zg_istore, zg_ldc, zf_X6_drag, zi_ld, zi_lda, zi_cmp, zi_retOk, zi_isI, zi_f3, zi_cr, zi_ci, zi_cn, zi_get, zi_set, h6, r1, r2, r3]
        try rfl
      | 1, _ =>
        have r1 : ¬ (2 : Int32) ≤ nI 1 := by decide
        have r2 : nI 1 - nI 1 / 2 * 2 = 1 := by decide
        have r3 : nI (1 / 2 + 2) = 2 := by decide
        refine ⟨0, 14, fun F m hF => ?_⟩
        simp [zg_0, zg_aload_n, zg_baload, zg_bastore, zg_bipush, zg_getfield, zg_goto, zg_iaload, zg_iastore, zg_iconst, zg_ifCond, zg_if_icmp, zg_iinc, zg_iload, zg_iload_n, zg_invokestatic, zg_invokevirtual, zg_irem, zg_ireturn, zg_istore, zg_ldc, zf_X6_drag, zi_ld, zi_lda, zi_cmp, zi_retOk, zi_isI, zi_f3, zi_cr, zi_ci, zi_cn, zi_get, zi_set, h6, r1, r2, r3]
        try rfl
      | 2, _ =>
        have r1 : (2 : Int32) ≤ nI 2 := by decide
        have r2 : nI 2 - nI 2 / 2 * 2 = 0 := by decide
        have r3 : nI (2 / 2 + 2) = 3 := by decide
        refine ⟨0, 14, fun F m hF => ?_⟩
        simp [zg_0, zg_aload_n, zg_baload, zg_bastore, zg_bipush, zg_getfield, zg_goto, zg_iaload, zg_iastore, zg_iconst, zg_ifCond, zg_if_icmp, zg_iinc, zg_iload, zg_iload_n, zg_invokestatic, zg_invokevirtual, zg_irem, zg_ireturn, zg_istore, zg_ldc, zf_X6_drag, zi_ld, zi_lda, zi_cmp, zi_retOk, zi_isI, zi_f3, zi_cr, zi_ci, zi_cn, zi_get, zi_set, h6, r1, r2, r3]
        try rfl
      | 3, _ =>
        have r1 : (2 : Int32) ≤ nI 3 := by decide
        have r2 : nI 3 - nI 3 / 2 * 2 = 1 := by decide
        have r3 : nI (3 / 2 + 2) = 3 := by decide
        refine ⟨0, 13, fun F m hF => ?_⟩
        simp [zg_0, zg_aload_n, zg_baload, zg_bastore, zg_bipush, zg_getfield, zg_goto, zg_iaload, zg_iastore, zg_iconst, zg_ifCond, zg_if_icmp, zg_iinc, zg_iload, zg_iload_n, zg_invokestatic, zg_invokevirtual, zg_irem, zg_ireturn, zg_istore, zg_ldc, zf_X6_drag, zi_ld, zi_lda, zi_cmp, zi_retOk, zi_isI, zi_f3, zi_cr, zi_ci, zi_cn, zi_get, zi_set, h6, r1, r2, r3]
        try rfl
    generalize (if decide (sd % 2 = 0) = true then (1 : Int32) else 0) = bb at E2 S2
    refine ⟨ξ, _, ab2, f, S1.trans (S2.trans ⟨N2, 1, fun F m hF => ?_⟩), Or.inr ⟨hsd4, ab2, cc, f, rfl, hC⟩, hC.2.2.2.2.2.2.2.2, hC.1, zu_isCut_at hI hat.1 hk hno hC⟩
    simp [zg_0, zg_aload_n, zg_baload, zg_bastore, zg_bipush, zg_getfield, zg_goto, zg_iaload, zg_iastore, zg_iconst, zg_ifCond, zg_if_icmp, zg_iinc, zg_iload, zg_iload_n, zg_invokestatic, zg_invokevirtual, zg_irem, zg_ireturn, zg_istore, zg_ldc, zf_X6_drag, zi_ld, zi_lda, zi_cmp, zi_retOk, zi_isI, zi_f3, zi_cr, zi_ci, zi_cn, cM, zq_Mod_cutLeaf, E2 F (by omega)]
end ZWN
