/-! the desk: a screen comes, with all that is done -/
section ZSE
variable {μ ν : zm_M} {row stk : List Nat} {Rs : Nat → List Nat} {ts : Nat → zy_F}
def zd_scn2 (μ ν : zm_M) (Rs Rs' : Nat → List Nat) (ts ts' : Nat → zy_F) (s : Nat) (x y : Int32) : Prop :=
  ∃ ξ ν1, zd_new μ ξ s x y ∧ ν = zm_up ν1 (zdK s) 3 0 ∧ (((ξ (zdK s) 3 = 0 ∨ zt_fit ξ (zdV s) (zdZ s) (Rs (3 + s)) (ts (3 + s)) = false ∨ zl_al (zd_gwf ξ (zd_bgr ξ s) (zdZ s)) 10 = false) ∧ (∀ c, c ≠ 31 → ν1 c = ξ c) ∧ Rs' = Rs ∧ ts' = ts) ∨
    ((¬ ξ (zdK s) 3 = 0 ∧ zt_fit ξ (zdV s) (zdZ s) (Rs (3 + s)) (ts (3 + s)) = true ∧ zl_al (zd_gwf ξ (zd_bgr ξ s) (zdZ s)) 10 = true) ∧ ∃ ν2 ν3 Rs1 ts1, (∀ c, c ≠ 31 → ν2 c = ξ c) ∧ zd_tbk ν2 ν3 Rs ts (zd_has ξ s) 10 Rs1 ts1 ∧
      (∀ c d, ¬ zJ_irr c → (∀ q, q < 3 → zt_out (zdT q) c) → (∀ q, q < 3 → c = zdK q → d ≠ 3) → (∀ j, j < 10 → c = zdW j → d ≠ 5) → ν1 c d = ξ c d) ∧ (∀ q, q < 3 → ν1 (zdK q) 3 = if zd_hasg ξ (zd_bgr ξ s) 10 q = true then 0 else ξ (zdK q) 3) ∧
      (∀ j, j < 10 → ν1 (zdW j) 5 = if zd_bgr ξ s j = true then nI s else ξ (zdW j) 5) ∧ (∀ q, q < 3 → q ≠ s → ∀ j, j < 24 → ν1 (zdT q + j) = ν3 (zdT q + j)) ∧ zt_C ν1 (zdT s) (Rs (3 + s)) (ts (3 + s)) ∧ zt_isCopy ξ (zdV s) ν1 (zdT s) ∧ Rs' = zd_upd Rs1 s (Rs (3 + s)) ∧ ts' = zd_upd ts1 s (ts (3 + s))))
set_option maxRecDepth 100000 in
theorem ze_screen_3 (D : Nat) (h : zJ μ row stk Rs ts) {w x y : Int32} {s : Nat} (ha : zd_sarg w x y s) (hst : μ (zdS s) 3 = 0) : ∃ ν r Rs' ts', ze_E (D + 8) A_Desk_screen [.ref 1, .int w, .int x, .int y] (zm_mk μ) (some (.int r)) (zm_mk ν) ∧ zJ ν row stk Rs' ts' ∧ zd_scn2 μ ν Rs Rs' ts ts' s x y := by
  rcases ze_screen_0 (μ := μ) (D + 6) w x y with ⟨hno, -⟩ | ⟨s', ha', S0⟩
  · exact absurd ⟨s, ha⟩ hno
  obtain ⟨hs, rfl, hx, hy⟩ := ha
  have es : s' = s := (nI_eq (by have := ha'.1; omega) (by omega)).mp ha'.2.1.symm
  subst es
  let ξ0 := zm_up (zm_up μ 32 0 x) 32 1 y
  have S0 : ze_S (D + 7) 6 (some .int) zc_X5_screen 0 [(0, .ref 1), (1, .int (nI s')), (2, .int x), (3, .int y)] [] (zm_mk μ) 46 [(4, .ref (zdS s' + 1)), (0, .ref 1), (1, .int (nI s')), (2, .int x), (3, .int y)] [] (zm_mk ξ0) := S0
  have r0 : ∀ c, c ≠ 32 → ξ0 c = μ c := fun c hc => (zm_up_row hc).trans (zm_up_row hc)
  have x0 : ξ0 32 0 = x := (zm_up_ne (by decide)).trans zm_up_eq
  have x1 : ξ0 32 1 = y := zm_up_eq
  let ξ1 := zm_up ξ0 (zdS s') 3 1
  have q0 : ξ1 32 0 = x := (zm_up_ne (by unfold zdS; omega)).trans x0
  have q1 : ξ1 32 1 = y := (zm_up_ne (by unfold zdS; omega)).trans x1
  obtain ⟨N1, E1⟩ := ze_setSize (μ := ξ1) (D + 6) hs
  rw [q0, q1] at E1
  let ξ := zm_up (zm_up ξ1 (zdZ s') 0 x) (zdZ s') 1 y
  have mξ : zm_up (zm_up ξ1 (zdZ s') 0 x) (zdZ s') 1 y = ξ := rfl
  rw [mξ] at E1
  have hn : zd_new μ ξ s' x y := by
    refine ⟨fun c d a1 a2 a3 => ?_, ?_, (zm_up_ne (by omega)).trans zm_up_eq, zm_up_eq⟩
    · show zm_up _ _ _ _ _ _ = _
      rw [zm_up_ne (fun e => a2 e.1), zm_up_ne (fun e => a2 e.1)]
      show zm_up _ _ _ _ _ _ = _
      rw [zm_up_ne a3, r0 c a1]
    · show zm_up _ _ _ _ _ _ = _
      rw [zm_up_ne (by unfold zdS zdZ; omega), zm_up_ne (by unfold zdS zdZ; omega)]
      exact zm_up_eq
  have rξ : ∀ c, c ≠ 32 → c ≠ zdZ s' → c ≠ zdS s' → ξ c = μ c := fun c a1 a2 a3 => funext fun d => hn.1 c d a1 a2 (fun e => a3 e.1)
  have tξ : ∀ q, q < 3 → ∀ j, j < 24 → ξ (zdT q + j) = μ (zdT q + j) := fun q hq j hj => rξ _ (by unfold zdT; omega) (by unfold zdT zdZ; omega) (by unfold zdT zdS; omega)
  have wξ : ∀ j, j < 10 → ξ (zdW j) = μ (zdW j) := fun j hj => rξ _ (by unfold zdW; omega) (by unfold zdW zdZ; omega) (by unfold zdW zdS; omega)
  have tilξ : ∀ j, j < 10 → zd_til ξ j = zd_til μ j := fun j hj => by unfold zd_til; rw [wξ j hj]
  have mem : ∀ q, q < 3 → ∀ j, j ∈ Rs q ↔ (j < 10 ∧ zd_til μ j = true ∧ μ (zdW j) 5 = nI q) := fun q hq => (h.2.2.2.1 q hq).2.1
  obtain ⟨ν1, r, ⟨N2, E2⟩, hb⟩ := ze_bringBack (μ := ξ) (Rs := Rs) (ts := ts) D hs (fun q hq => zt_C_19 (fun j hj => tξ q hq j (by omega)) (h.2.2.2.1 q hq).1) (zt_C_19 (fun j hj => rξ _ (by unfold zdV; omega) (by unfold zdV zdZ; omega) (by unfold zdV zdS; omega)) (h.2.2.2.2.1 s' hs).1) (fun j hj q => by
      rw [tilξ j hj] at q
      obtain ⟨p, hp, e, hR, -⟩ := zJ_til h hj q
      exact ⟨p, hp, by rw [wξ j hj]; exact e, hR⟩) (fun q p j hq hp a b => (nI_eq (by omega) (by omega)).mp (((mem q hq j).mp a).2.2.symm.trans ((mem p hp j).mp b).2.2)) (fun q hq u hu a ha => by
      rw [show ξ (zdT q + 5 + a) = μ (zdT q + 5 + a) by rw [Nat.add_assoc]; exact tξ q hq (5 + a) (by omega)]
      exact zJ_sm h hq u hu a ha) (fun q j hq hj => by
      obtain ⟨a, b, -⟩ := (mem q hq j).mp hj
      rw [tilξ j a]
      exact b)
  have hst' : ξ0 (zdS s') 3 = 0 := by rw [r0 _ (by unfold zdS; omega)]; exact hst
  obtain ⟨N3, E3⟩ := ze_forget (μ := ν1) (D + 6) hs
  have cs1 : (zm_mk ξ1)[zdS s']? = some (2, [.ref (zdZ s' + 1), .ref (zdT s' + 1), .ref (zdK s' + 1), .int (ξ1 (zdS s') 3)]) := zm_get (zdS_h hs)
  have ck := zdK_c (μ := ν1) hs
  have m1 : zm_up ξ0 (zdS s') 3 1 = ξ1 := rfl
  have E : ze_E (D + 8) A_Desk_screen [.ref 1, .int (nI s'), .int x, .int y] (zm_mk μ) (some (.int r)) (zm_mk (zm_up ν1 (zdK s') 3 0)) := by
    refine ze_in [(0, .ref 1), (1, .int (nI s')), (2, .int x), (3, .int y)] zq_Desk_screen (Nat.le_of_ble_eq_true rfl) rfl (S0.end ⟨N1 + N2 + N3, 19, fun F n hF => ?_⟩)
    simp [zg_0, zg_aaload, zg_aload, zg_aload_n, zg_astore, zg_getfield, zg_iastore, zg_iconst, zg_ifCond, zg_iload, zg_iload_n, zg_invokestatic, zg_invokevirtual, zg_ireturn, zg_istore, zg_ldc, zg_putfield, zf_X5_screen, zi_ld, zi_lda, zi_cmp, zi_retOk, zi_isI, zi_f3, zi_cr, zi_ci, zi_cn, zi_get, zi_set, zdS_g hs, hst', zdS_p3 hs (Or.inr rfl), m1, zd_g, zq_Scr_setSize, cs1, E1 F (by omega), zq_Desk_bringBack, zd_c, E2 F (by omega), zq_Kept_forget, ck, E3 F (by omega)]
  rcases id hb with ⟨hc, f⟩ | ⟨⟨k1, k2, k3⟩, ν2, ν3, Rs1, ts1, f2, hB, ff, fK, f5, fT, hC, hcp⟩
  · exact ⟨_, r, Rs, ts, E, zJ_scn_0 h hs hst hx hy hn f, ξ, ν1, hn, rfl, Or.inl ⟨hc, f, rfl, rfl⟩⟩
  · exact ⟨_, r, _, _, E, zJ_scn_1 h hs hst hx hy hn k1 k2 f2 hB ff fK f5 fT hC hcp, ξ, ν1, hn, rfl, Or.inr ⟨⟨k1, k2, k3⟩, ν2, ν3, Rs1, ts1, f2, hB, ff, fK, f5, fT, hC, hcp, rfl, rfl⟩⟩
end ZSE
