/-! side by side: a screen that is there gets another size -/
section ZKV
variable {ξ μ ν ξ' μ' : zm_M} {row stkC stk ord : List Nat} {Rs Rs' : Nat → List Nat} {ts ts' us : Nat → zy_F} {s : Nat} {w x y : Int32}
theorem zK_sno (h : zK ξ μ row stkC stk ord Rs ts us) (hno : ¬ ∃ s, zd_sarg w x y s) (g : zv_scr μ μ' us w x y) : zK ξ μ' row stkC stk ord Rs ts us := by
  rcases g with ⟨-, rfl⟩ | ⟨s, ha, -⟩
  · exact h
  · exact (hno ⟨s, ha⟩).elim
theorem zK_sc0 (h : zK ξ μ row stkC stk ord Rs ts us) (hs : s < 3) : ¬ ξ (zdS s) 3 = 0 ↔ ¬ μ 232 s = 0 := by
  obtain ⟨q1, q2⟩ := h.2.2.1.2 s hs
  by_cases c : ξ (zdS s) 3 = 0
  · rw [(q1 c).1]; exact ⟨fun z => absurd c z, fun z => absurd rfl z⟩
  · have := (zK_scn h hs).mp c
    exact ⟨fun _ e => by rw [e] at this; exact absurd this (by decide), fun _ => c⟩
theorem zK_rsz (h : zK ξ μ row stkC stk ord Rs ts us) (ha : zd_sarg w x y s) (hst : ¬ ξ (zdS s) 3 = 0) (hJ : zJ ξ' row stkC Rs ts) (f : zd_rsz ξ ξ' Rs ts s x y) (g : zv_scr μ μ' us w x y) : zK ξ' μ' row stkC stk ord Rs ts us := by
  obtain ⟨hs, ew, hx, hy⟩ := ha
  rcases g with ⟨z, -⟩ | ⟨s', ⟨hs', ew', -⟩, g⟩
  · exact (z ⟨s, hs, ew, hx, hy⟩).elim
  · have es := (nI_eq (by omega) (by omega)).mp (ew'.symm.trans ew)
    subst es
    rcases g with ⟨-, g⟩ | ⟨z, -⟩
    · obtain ⟨ξa, fe, x0, x1, f⟩ := f
      have eT : ∀ q, q < 3 → ∀ j, j < 19 → ξa (zdT q + j) = ξ (zdT q + j) := fun q hq j hj => fe _ (zJn_T hq hj).1
      have hI := (h.1.2.2.2.1 s' hs).1.1
      have hIa := (zt_C_19 (eT s' hs) (h.1.2.2.2.1 s' hs).1).1
      have za : zs ξa (zdT s') (Rs s') (ts s') μ s' (us s') := zs_cl hI (h.2.2.2.2.2.1 s' hs) (eT s' hs 3 (by decide)) (eT s' hs 7 (by decide)) (eT s' hs 8 (by decide)) (eT s' hs 12 (by decide))
      have hsz : zs_sz ξa (zdT s') (Rs s') μ := fun a ha w hw => by
        rw [zK_sz h hs a ha w hw, Nat.add_assoc, eT s' hs (5 + a) (by omega)]
      have hfit := zs_fit hIa za hsz x0 x1
      have hrm : zl_al (zd_lwf ξa (nI s') 32) 10 = true ↔ ∀ j, j < 10 → zv_srm μ s' x y j = true := by
        rw [zl_al_iff]
        refine forall_congr' fun j => imp_congr_right fun hj => ?_
        have eW : ξa (zdW j) = ξ (zdW j) := fe _ (zJn_W hj).1
        have eL : ξa (zdW j + 1) = ξ (zdW j + 1) := fe _ (zJn_W hj).2
        have el : zd_loose ξa (nI s') j = zd_loose ξ (nI s') j := by unfold zd_loose; rw [eW]
        unfold zd_lwf zv_srm
        rw [el, (zK_on h hj).2]
        cases c : zv_on μ j (nI s') with
        | false => exact ⟨fun _ => rfl, fun _ => rfl⟩
        | true =>
          have t : zd_th ξ j = true := by
            have : zd_loose ξ (nI s') j = true := by rw [(zK_on h hj).2]; exact c
            exact decide_eq_true (of_decide_eq_true this).1
          obtain ⟨-, ⟨e5, e6⟩, -⟩ := (h.2.2.1.1 j hj).2 t
          have ew : zd_whole ξa 32 j = decide (μ 235 j ≤ x ∧ μ 236 j ≤ y) := by
            unfold zd_whole
            rw [eL, e5, e6, x0, x1]
          rw [ew]
      have hgood : zv_gd (zv_srm μ s' x y) (zu_fit μ s' (us s') x y) 10 = true ↔ (zt_fit ξa (zdT s') 32 (Rs s') (ts s') = true ∧ zl_al (zd_lwf ξa (nI s') 32) 10 = true) := by
        rw [zv_gd_iff, hrm, hfit]
      rcases f with ⟨f, rfl⟩ | ⟨f, f1, f2, f3⟩
      · rcases g with ⟨-, rfl⟩ | ⟨g, -⟩
        · exact h.scr fe zM_fr.refl
        · obtain ⟨q1, q2⟩ := hgood.mp g
          rcases f with f | f
          · rw [f] at q1; cases q1
          · rw [f] at q2; cases q2
      · rcases g with ⟨g, -⟩ | ⟨-, ⟨g1, g2⟩, g⟩
        · rw [hgood.mpr f] at g
          cases g
        · obtain ⟨h1, ⟨r1, r2, r3, r4⟩, h2, h3, h5, h6, h7⟩ := h
          have eW : ∀ j, j < 10 → ξ' (zdW j) = ξ (zdW j) := fun j hj => f1 _ (zJn_W hj).1 (by unfold zdW zdZ; omega)
          have eL : ∀ j, j < 10 → ξ' (zdW j + 1) = ξ (zdW j + 1) := fun j hj => f1 _ (zJn_W hj).2 (by unfold zdW zdZ; omega)
          have eT : ∀ q, q < 3 → ∀ j, j < 19 → ξ' (zdT q + j) = ξ (zdT q + j) := fun q hq j hj => f1 _ (zJn_T hq hj).1 (by unfold zdT zdZ; omega)
          have eV : ∀ q, q < 3 → ∀ j, j < 19 → ξ' (zdV q + j) = ξ (zdV q + j) := fun q hq j hj => f1 _ (zJn_T hq hj).2 (by unfold zdV zdZ; omega)
          have eS : ∀ q, q < 3 → ξ' (zdS q) = ξ (zdS q) ∧ ξ' (zdK q) = ξ (zdK q) ∧ ξ' (zdQ q) = ξ (zdQ q) := fun q hq => ⟨f1 _ (zJn_S hq).1 (by unfold zdS zdZ; omega), f1 _ (zJn_S hq).2.2.1 (by unfold zdK zdZ; omega), f1 _ (zJn_S hq).2.2.2 (by unfold zdQ zdZ; omega)⟩
          have th : ∀ j, j < 10 → zd_th ξ' j = zd_th ξ j := fun j hj => by unfold zd_th; rw [eW j hj]
          have has : ∀ q j, q < 3 → zd_has ξ' q j = zd_has ξ q j := fun q j hq => by unfold zd_has; rw [(eS q hq).2.1, (eS q hq).2.2, eV q hq 3 (by decide)]
          have gC : ∀ c d, c ≠ 232 → c ≠ 233 → c ≠ 239 → c ≠ 240 → μ' c d = μ c d := fun c d a b e f => g c d e f (by omega) (by omega)
          have gT : ∀ q, zu_eqT μ q μ' q := fun q => zu_eq_in (fun c d r => gC c d (fun z => zu_in_not (by omega) r) (fun z => zu_in_not (by omega) r) (fun z => zu_in_not (by omega) r) (fun z => zu_in_not (by omega) r))
          have hI : ∀ q, q < 3 → zt_I ξ (zdT q) (Rs q) (ts q) := fun q hq => (h1.2.2.2.1 q hq).1.1
          have hV : ∀ q, q < 3 → zt_I ξ (zdV q) (Rs (3 + q)) (ts (3 + q)) := fun q hq => (h1.2.2.2.2.1 q hq).1.1
          refine ⟨hJ, ⟨⟨r1.1, (gC _ _ (by omega) (by omega) (by omega) (by omega)).trans r1.2.1, fun j hj => (gC _ _ (by omega) (by omega) (by omega) (by omega)).trans (r1.2.2 j hj)⟩, ⟨r2.1, (gC _ _ (by omega) (by omega) (by omega) (by omega)).trans r2.2.1, fun j hj => (gC _ _ (by omega) (by omega) (by omega) (by omega)).trans (r2.2.2 j hj)⟩, r3, fun z => ?_⟩, ⟨fun z hz => ?_, fun q hq => ?_⟩, fun z hz A B => ?_, ⟨h5.1, fun z => ?_, fun z hz A => ?_⟩, fun q hq => ?_, fun d hd => ?_, fun q hq => ?_⟩
          · rw [r4 z]
            refine and_congr_right fun hz => ?_
            unfold zd_flo
            rw [eW z hz]
          · rw [th z hz, eW z hz, eL z hz, gC 234 z (by omega) (by omega) (by omega) (by omega), gC 235 z (by omega) (by omega) (by omega) (by omega), gC 236 z (by omega) (by omega) (by omega) (by omega), gC 237 z (by omega) (by omega) (by omega) (by omega), gC 238 z (by omega) (by omega) (by omega) (by omega)]
            exact h2.1 z hz
          · by_cases e : q = s'
            · subst e
              rw [(eS q hq).1, g1, g2, f2, f3]
              exact ⟨fun z => absurd z hst, fun _ => ⟨rfl, rfl⟩⟩
            · have eZ : ξ' (zdZ q) = ξ (zdZ q) := f1 _ (zJn_S hq).2.1 (by unfold zdZ; omega)
              rw [(eS q hq).1, eZ, g 232 q (by decide) (by decide) (by omega) (by omega), g 233 q (by decide) (by decide) (by omega) (by omega)]
              exact h2.2 q hq
          · rw [th z hz] at A
            rw [eW z hz] at B ⊢
            obtain ⟨o, ho, q1, q2, q3, q4⟩ := h3 z hz A B
            refine ⟨o, ho, q1, by rw [eW o ho]; exact q2, by rw [eW o ho]; exact q3, fun q hq z => ?_⟩
            rw [has q _ hq] at z ⊢
            exact q4 q hq z
          · rw [gC 234 z (by omega) (by omega) (by omega) (by omega)]
            exact h5.2.1 z
          · rw [gC 234 z (by omega) (by omega) (by omega) (by omega)] at A
            rw [gC 237 z (by omega) (by omega) (by omega) (by omega)]
            exact h5.2.2 z hz A
          · exact zs_cl (hI q hq) (zs_eqT (hI q hq) (h6 q hq) (gT q)) (eT q hq 3 (by decide)) (eT q hq 7 (by decide)) (eT q hq 8 (by decide)) (eT q hq 12 (by decide))
          · rw [gC 252 d (by omega) (by omega) (by omega) (by omega)]
            exact h7.1 d hd
          · rw [gC 251 q (by omega) (by omega) (by omega) (by omega), (eS q hq).2.1]
            obtain ⟨a1, a2⟩ := h7.2 q hq
            refine ⟨a1, fun z => ?_⟩
            obtain ⟨b1, b2⟩ := a2 z
            refine ⟨fun j hj => ?_, zs_cl (hV q hq) (zs_eqT (hV q hq) b2 (gT _)) (eV q hq 3 (by decide)) (eV q hq 7 (by decide)) (eV q hq 8 (by decide)) (eV q hq 12 (by decide))⟩
            rw [gC 252 _ (by omega) (by omega) (by omega) (by omega), has q j hq]
            exact b1 j hj
    · exact ((zK_sc0 h hs).mp hst z).elim
end ZKV
