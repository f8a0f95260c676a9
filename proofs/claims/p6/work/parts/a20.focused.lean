/-! the reference: focused -/
section ZVF
variable {μ : zm_M} {rk : Nat → Nat}
/-- what raise and focused rest on -/
def zv_rk (μ : zm_M) (rk : Nat → Nat) : Prop := (∀ x, x < 10 → rk x ≤ 9) ∧ ∀ x, x < 10 → μ 234 x = 3 → ∃ o, o < 10 ∧ μ 237 x = nI o ∧ rk o < rk x
theorem ze_MraiseR (D : Nat) (h : zv_rk μ rk) {k : Nat} (hk : k < 10) {l : List Nat} (hL : zv_L μ 241 10 l) (hd : l.Nodup) (hb : ∀ x ∈ l, x < 10) :
    ∃ ν l', ze_E (D + 11) A_Mod_raise [.ref 232, .int (nI k)] (zm_mk μ) none (zm_mk ν) ∧ zv_L ν 241 10 l' ∧ l'.Nodup ∧ (∀ x, x ∈ l' ↔ x ∈ l ∨ (x = k ∧ 2 ≤ μ 234 k)) ∧ ∀ c d, c ≠ 241 → ¬ (c = 231 ∧ d = 10) → ν c d = μ c d :=
  ze_Mraise (rk := rk) (B := 9) (K := μ 234) (O := μ 237) h.1 (fun o k ho hk e1 e2 => by
    obtain ⟨p, hp, e3, h3⟩ := h.2 o ho e1
    have : p = k := (nI_eq (by omega) (by omega)).mp (e3.symm.trans e2)
    rw [← this]; exact h3) 9 k D hk (by omega) μ l (fun x _ => ⟨rfl, rfl⟩) hL hd hb (fun x hx e => by
    obtain ⟨p, hp, e3, -⟩ := h.2 x hx e
    exact ⟨p, hp, e3⟩)
set_option maxRecDepth 100000 in
theorem ze_Mfocused_f (D : Nat) (h : zv_rk μ rk) {k : Nat} (hk : k < 10) (hkind : ¬ μ 234 k = 1) {l r : List Nat} (hL : zv_L μ 241 10 l) (hd : l.Nodup) (hb : ∀ x ∈ l, x < 10) (hR : zv_L μ 242 12 r) (rd : r.Nodup) (rb : ∀ x ∈ r, x < 10) :
    ∃ ν l', ze_E (D + 12) A_Mod_focused [.ref 232, .int (nI k)] (zm_mk μ) none (zm_mk ν) ∧ zv_L ν 241 10 l' ∧ l'.Nodup ∧ (∀ x, x ∈ l' ↔ x ∈ l ∨ (x = k ∧ 2 ≤ μ 234 k)) ∧ zv_L ν 242 12 (k :: r.erase k) ∧ ∀ c d, c ≠ 241 → c ≠ 242 → ¬ (c = 231 ∧ (d = 10 ∨ d = 12)) → ν c d = μ c d := by
  obtain ⟨lc, cM⟩ := zM_c (μ := μ)
  have ik : zi_in (nI k) 10 = true := zm_in hk (by decide)
  have ck : (nI k).toNatClampNeg = k := nI_clamp (by omega)
  obtain ⟨μ1, ⟨N1, E1⟩, ⟨p1, p2, p3⟩, f1⟩ := ze_Mfront (μ := μ) (D + 10) hk hR rd rb
  obtain ⟨lc1, cM1⟩ := zM_c (μ := μ1)
  have e4 : ∀ x, μ1 234 x = μ 234 x := fun x => f1 _ _ (by decide) (by omega)
  have e7 : ∀ x, μ1 237 x = μ 237 x := fun x => f1 _ _ (by decide) (by omega)
  have h1 : zv_rk μ1 rk := ⟨h.1, fun x hx e => by rw [e7]; rw [e4] at e; exact h.2 x hx e⟩
  have hL1 : zv_L μ1 241 10 l := ⟨hL.1, (f1 _ _ (by decide) (by omega)).trans hL.2.1, fun j hj => (f1 _ _ (by decide) (by omega)).trans (hL.2.2 j hj)⟩
  obtain ⟨ν, l', ⟨N2, E2⟩, b1, b2, b3, b4⟩ := ze_MraiseR (μ := μ1) D h1 hk hL1 hd hb
  refine ⟨ν, l', ze_in [(0, .ref 232), (1, .int (nI k))] zq_Mod_focused (Nat.le_of_ble_eq_true rfl) rfl ⟨N1 + N2, 13, fun F m hF => ?_⟩, b1, b2, by rw [e4] at b3; exact b3, ⟨p1, by rw [b4 _ _ (by decide) (by omega)]; exact p2, fun j hj => by rw [b4 _ _ (by decide) (by omega)]; exact p3 j hj⟩, fun c d g1 g2 g3 => ?_⟩
  · simp [zg_0, zg_aload_n, zg_getfield, zg_iaload, zg_iastore, zg_iconst, zg_if_icmp, zg_iload_n, zg_invokestatic, zg_invokevirtual, zg_return, zf_X6_focused, zi_ld, zi_lda, zi_cmp, zi_retOk, zi_isI, zi_f3, zi_cr, zi_ci, zi_cn, zi_get, zi_set, zM_g, cM, cM1, zq_Mod_front, zq_Mod_raise, E1 F (by omega), E2 F (by omega), zm_iald (k := 0) zM_A234 ik, ck, e4, hkind]
  · rw [b4 c d g1 (fun e => g3 ⟨e.1, Or.inl e.2⟩)]
    exact f1 c d g2 (fun e => g3 ⟨e.1, Or.inr e.2⟩)
set_option maxRecDepth 100000 in
theorem ze_Mfocused_t (D : Nat) (h : zv_rk μ rk) {k s m : Nat} (hk : k < 10) (hkind : μ 234 k = 1) (hs : s < 3) (hhome : μ 238 k = nI s) {u : zy_F} {ab : Nat → Int32} (hI : zu_I μ s u ab) (hat : zu_at μ s u k m) {l r : List Nat} (hL : zv_L μ 241 10 l) (hd : l.Nodup) (hb : ∀ x ∈ l, x < 10) (hR : zv_L μ 242 12 r) (rd : r.Nodup) (rb : ∀ x ∈ r, x < 10) :
    ∃ ν l', ze_E (D + 12) A_Mod_focused [.ref 232, .int (nI k)] (zm_mk μ) none (zm_mk ν) ∧ zv_L ν 241 10 l' ∧ l'.Nodup ∧ (∀ x, x ∈ l' ↔ x ∈ l) ∧ zv_L ν 242 12 (k :: r.erase k) ∧ ν 250 (24 * s + m) = nI k ∧ ∀ c d, c ≠ 241 → c ≠ 242 → ¬ (c = 231 ∧ (d = 10 ∨ d = 12)) → ¬ (c = 250 ∧ d = 24 * s + m) → ν c d = μ c d := by
  obtain ⟨lc, cM⟩ := zM_c (μ := μ)
  have hm24 := zu_I_lt hI hat.1
  have ik : zi_in (nI k) 10 = true := zm_in hk (by decide)
  have ck : (nI k).toNatClampNeg = k := nI_clamp (by omega)
  have im : zi_in (nI (24 * s + m)) 168 = true := zm_in (by omega) (by decide)
  have cm : (nI (24 * s + m)).toNatClampNeg = 24 * s + m := nI_clamp (by omega)
  obtain ⟨μ1, ⟨N1, E1⟩, ⟨p1, p2, p3⟩, f1⟩ := ze_Mfront (μ := μ) (D + 10) hk hR rd rb
  obtain ⟨lc1, cM1⟩ := zM_c (μ := μ1)
  have e4 : ∀ x, μ1 234 x = μ 234 x := fun x => f1 _ _ (by decide) (by omega)
  have e7 : ∀ x, μ1 237 x = μ 237 x := fun x => f1 _ _ (by decide) (by omega)
  have e8 : μ1 238 k = nI s := (f1 _ _ (by decide) (by omega)).trans hhome
  have e4' : μ1 234 k = 1 := (e4 k).trans hkind
  have hq : zu_eqT μ s μ1 s := ⟨f1 _ _ (by decide) (by omega), fun c n hc _ => f1 _ _ (by rintro rfl; revert hc; decide) (by rintro ⟨rfl, -⟩; revert hc; decide), fun n j _ _ => f1 _ _ (by decide) (by omega)⟩
  have hI1 := hq.I hI
  have hat1 : zu_at μ1 s u k m := ⟨hat.1, by rw [hq.tb hm24 (zu_I_tbl hI hat.1)]; exact hat.2.1, fun n hn g => hat.2.2 n hn (by rw [hq.tb (zu_I_lt hI hn) (zu_I_tbl hI hn)] at g; exact g)⟩
  obtain ⟨N3, E3⟩ := ze_MleafOf_at (μ := μ1) (D + 8) (by omega) hI1 hk hat1
  obtain ⟨N4, E4⟩ := ze_spot (h := zm_mk μ1) (n := m) (D + 10) (t := s) (by omega)
  have h1 : zv_rk (zm_up μ1 250 (24 * s + m) (nI k)) rk := ⟨h.1, fun x hx e => by rw [zm_up_ne (by omega), e7]; rw [zm_up_ne (by omega), e4] at e; exact h.2 x hx e⟩
  have hL1 : zv_L (zm_up μ1 250 (24 * s + m) (nI k)) 241 10 l := ⟨hL.1, (zm_up_ne (by omega)).trans ((f1 _ _ (by decide) (by omega)).trans hL.2.1), fun j hj => (zm_up_ne (by omega)).trans ((f1 _ _ (by decide) (by omega)).trans (hL.2.2 j hj))⟩
  obtain ⟨ν, l', ⟨N2, E2⟩, b1, b2, b3, b4⟩ := ze_MraiseR (μ := zm_up μ1 250 (24 * s + m) (nI k)) D h1 hk hL1 hd hb
  obtain ⟨lc2, cM2⟩ := zM_c (μ := zm_up μ1 250 (24 * s + m) (nI k))
  refine ⟨ν, l', ze_in [(0, .ref 232), (1, .int (nI k))] zq_Mod_focused (Nat.le_of_ble_eq_true rfl) rfl ⟨N1 + N2 + N3 + N4, 29, fun F mm hF => ?_⟩, b1, b2, fun x => ?_, ⟨p1, by rw [b4 _ _ (by decide) (by omega), zm_up_ne (by omega)]; exact p2, fun j hj => by rw [b4 _ _ (by decide) (by omega), zm_up_ne (by omega)]; exact p3 j hj⟩, by rw [b4 _ _ (by decide) (by omega)]; exact zm_up_eq, fun c d g1 g2 g3 g4 => ?_⟩
  · simp [zg_0, zg_aload_n, zg_getfield, zg_iaload, zg_iastore, zg_iconst, zg_if_icmp, zg_iload_n, zg_invokestatic, zg_invokevirtual, zg_return, zf_X6_focused, zi_ld, zi_lda, zi_cmp, zi_retOk, zi_isI, zi_f3, zi_cr, zi_ci, zi_cn, zi_get, zi_set, zM_g, cM, cM1, cM2, zq_Mod_front, zq_Mod_raise, zq_Mod_leafOf, zq_Mod_spot, E1 F (by omega), E2 F (by omega), E3 F (by omega), E4 F (by omega), zm_iald (k := 0) zM_A234 ik, zm_iald (k := 0) zM_A238 ik, ck, e4', e8, zm_iast zM_A250 im, cm]
  · rw [b3, zm_up_ne (by omega), e4']
    exact ⟨fun g => g.elim id (fun g => absurd g.2 (by decide)), Or.inl⟩
  · rw [b4 c d g1 (fun e => g3 ⟨e.1, Or.inl e.2⟩), zm_up_ne g4]
    exact f1 c d g2 (fun e => g3 ⟨e.1, Or.inr e.2⟩)
end ZVF
