/-! the reference: comesBack whole -/
section ZVM
variable {μ ν : zm_M} {u : zy_F} {ab : Nat → Int32} {dl : Nat → Bool} {ow : Nat → Nat}
theorem zu_fr260 {τ : Nat} (f : ∀ c d, c ≠ 260 → ν c d = μ c d) : zu_eqT μ τ ν τ :=
  ⟨f _ _ (by decide), fun c n hc _ => f _ _ (by rintro rfl; revert hc; decide), fun n j _ _ => f _ _ (by decide)⟩
theorem zu_fit_cells {τ : Nat} {w v : Int32} (h : ∀ c d, c ≠ 231 → c < 255 → ν c d = μ c d) : zu_fit ν τ u w v = zu_fit μ τ u w v := by
  unfold zu_fit
  rw [(zu_lsz_cells (μ := μ) (ν := ν) (τ := τ) (a := 0) (by decide) h).2, (zu_lsz_cells (μ := μ) (ν := ν) (τ := τ) (a := 1) (by decide) h).2]
/-- what comes back with the screen s -/
def zv_back (μ : zm_M) (dl : Nat → Bool) (ow : Nat → Nat) (s : Nat) : Nat → Bool := zl_spn dl ow (fun k => decide (¬ μ 252 (10 * s + k) = 0)) 10
set_option maxRecDepth 100000 in
theorem ze_McomesBack (D : Nat) {s : Nat} (hs : s < 3) (hb : ∀ k, k < 10 → μ 252 (10 * s + k) = 0 ∨ μ 252 (10 * s + k) = 1) (ho : zv_ow μ dl ow) (hI : zu_I μ (3 + s) u ab) (h0 : 0 ≤ μ 232 s) (h1 : 0 ≤ μ 233 s) :
    ∃ ν, ze_E (D + 27) A_Mod_comesBack [.ref 232, .int (nI s)] (zm_mk μ) (some (.int (if zv_gd (zv_room μ (zv_back μ dl ow s) s) (zu_fit μ (3 + s) u (μ 232 s) (μ 233 s)) 10 = true then 1 else 0))) (zm_mk ν) ∧ zv_cm ν (zv_back μ dl ow s) ∧ ∀ c d, c ≠ 260 → ν c d = μ c d := by
  obtain ⟨L0, h', s0, nl, p0, p1, μ1, rfl, q1, q2⟩ := zv_comes0 (μ := μ) (D + 26) hs hb
  have ho1 : zv_ow μ1 dl ow := fun x hx => by
    rw [q2 _ _ (by decide), q2 _ _ (by decide)]
    exact ho x hx
  obtain ⟨lc1, cM1⟩ := zM_c (μ := μ1)
  obtain ⟨μ2, ⟨N1, E1⟩, r1, r2⟩ := ze_Mspread (μ := μ1) (D + 25) q1 ho1
  have f2 : ∀ c d, c ≠ 260 → μ2 c d = μ c d := fun c d h => (r2 c d h).trans (q2 c d h)
  obtain ⟨lc2, cM2⟩ := zM_c (μ := μ2)
  have e0 : μ2 232 s = μ 232 s := f2 _ _ (by decide)
  have e1 : μ2 233 s = μ 233 s := f2 _ _ (by decide)
  have hI2 := (zu_fr260 (τ := 3 + s) f2).I hI
  obtain ⟨N2, E2⟩ := ze_Mfits (μ := μ2) D (τ := 3 + s) (by omega) hI2 h0 h1
  have ef : zu_fit μ2 (3 + s) u (μ 232 s) (μ 233 s) = zu_fit μ (3 + s) u (μ 232 s) (μ 233 s) := zu_fit_cells (fun c d _ h => f2 c d (by omega))
  rw [ef] at E2
  have er : zv_room μ2 (zv_back μ dl ow s) s = zv_room μ (zv_back μ dl ow s) s := by
    funext k
    show (!zv_back μ dl ow s k || decide (μ2 234 k = 1) || decide (μ2 235 k ≤ μ2 232 s ∧ μ2 236 k ≤ μ2 233 s)) = (!zv_back μ dl ow s k || decide (μ 234 k = 1) || decide (μ 235 k ≤ μ 232 s ∧ μ 236 k ≤ μ 233 s))
    rw [e0, e1, f2 234 k (by decide), f2 235 k (by decide), f2 236 k (by decide)]
  generalize zu_fit μ (3 + s) u (μ 232 s) (μ 233 s) = b at E2 ⊢
  have is : zi_in (nI s) 3 = true := zm_in hs (by decide)
  have cs : (nI s).toNatClampNeg = s := nI_clamp (by omega)
  have e3 : (3 : Int32) + nI s = nI (3 + s) := by rw [show (3 : Int32) = nI 3 by decide, nI_add]
  have b0 : zi_nl (zi_set (zi_set L0 2 (.int (if b = true then 1 else 0))) 3 (.int (nI 0))) = true := by simp (maxDischargeDepth := 9) [zi_get_ne, zi_nl_i, zi_nl_r, zi_get_set_eq, nl]
  have b1 : zi_get (zi_set (zi_set L0 2 (.int (if b = true then 1 else 0))) 3 (.int (nI 0))) 0 = some (.ref 232) := by simp (maxDischargeDepth := 9) [zi_get_ne, zi_nl_i, zi_nl_r, zi_get_set_eq, nl, p0]
  have b2 : zi_get (zi_set (zi_set L0 2 (.int (if b = true then 1 else 0))) 3 (.int (nI 0))) 1 = some (.int (nI s)) := by simp (maxDischargeDepth := 9) [zi_get_ne, zi_nl_i, zi_nl_r, zi_get_set_eq, nl, p1]
  have b3 : zi_get (zi_set (zi_set L0 2 (.int (if b = true then 1 else 0))) 3 (.int (nI 0))) 2 = some (.int (if b = true then 1 else 0)) := by simp (maxDischargeDepth := 9) [zi_get_ne, zi_nl_i, zi_nl_r, zi_get_set_eq, nl]
  obtain ⟨r, h', G, rfl, rfl⟩ := zv_comes1 (μ := μ2) (g := zv_back μ dl ow s) (D + 25) hs r1 b _ b0 b1 b2 b3 zi_get_set_eq
  rw [er] at G
  refine ⟨μ2, ze_in [(0, .ref 232), (1, .int (nI s))] zq_Mod_comesBack (Nat.le_of_ble_eq_true rfl) rfl (ze_S.end ⟨0, 2, fun F m hF => ?_⟩ (ze_S.end s0 (ze_S.end ⟨N1 + N2, 18, fun F m hF => ?_⟩ G))), r1, f2⟩
  · simp [zg_0, zg_aload_n, zg_baload, zg_bastore, zg_bipush, zg_getfield, zg_goto, zg_iadd, zg_iaload, zg_iconst, zg_ifCond, zg_if_icmp, zg_iinc, zg_iload_n, zg_imul, zg_invokevirtual, zg_ireturn, zg_istore_n, zf_X6_comesBack, zi_ld, zi_lda, zi_cmp, zi_retOk, zi_isI, zi_f3, zi_cr, zi_ci, zi_cn, zi_get, zi_set, nI_0]
  · cases b <;> simp (maxDischargeDepth := 9) [zg_0, zg_aload_n, zg_baload, zg_bastore, zg_bipush, zg_getfield, zg_goto, zg_iadd, zg_iaload, zg_iconst, zg_ifCond, zg_if_icmp, zg_iinc, zg_iload_n, zg_imul, zg_invokevirtual, zg_ireturn, zg_istore_n, zf_X6_comesBack, zi_ld, zi_lda, zi_cmp, zi_retOk, zi_isI, zi_f3, zi_cr, zi_ci, zi_cn, zi_get_ne, zi_nl_i, zi_nl_r, zi_get_set_eq, nl, p0, p1, zM_g, cM1, cM2, zq_Mod_spread, zq_Mod_fits, E1 F (by omega), e3, zm_iald (k := 0) zM_A232 is, zm_iald (k := 0) zM_A233 is, cs, e0, e1, E2 F (by omega), nI_0]
end ZVM
