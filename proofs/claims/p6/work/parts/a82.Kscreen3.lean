/-! side by side: a screen comes -/
section ZKX
variable {ξ μ ν ξ' μ' ξn M : zm_M} {row stkC stk ord : List Nat} {Rs Rs' : Nat → List Nat} {ts ts' us us' : Nat → zy_F} {s q j i o : Nat} {w x y : Int32}
theorem zK_sgen (h : zK ξ μ row stkC stk ord Rs ts us) (hJ : zJ ξ' row stkC Rs' ts') (G : Nat → Bool) (eW : ∀ j d, j < 10 → d ≠ 5 → ξ' (zdW j) d = ξ (zdW j) d) (e5 : ∀ j, j < 10 → ξ' (zdW j) 5 = if G j = true then nI s else ξ (zdW j) 5) (eL : ∀ j, j < 10 → ξ' (zdW j + 1) = ξ (zdW j + 1)) (eS : ∀ q, q < 3 → q ≠ s → ξ' (zdS q) = ξ (zdS q) ∧ ξ' (zdZ q) = ξ (zdZ q)) (nS : ¬ ξ' (zdS s) 3 = 0) (nZ : ξ' (zdZ s) 0 = x ∧ ξ' (zdZ s) 1 = y) (eQ : ∀ q, q < 3 → ξ' (zdQ q) = ξ (zdQ q)) (eV : ∀ q, q < 3 → ∀ j, j < 19 → ξ' (zdV q + j) = ξ (zdV q + j)) (kK : ∀ q, q < 3 → ξ' (zdK q) 3 = 0 ∨ ξ' (zdK q) 3 = ξ (zdK q) 3)
    (g1 : μ' 232 s = x ∧ μ' 233 s = y) (gC : ∀ c d, ((c = 232 ∨ c = 233) ∧ d ≠ s) ∨ (234 ≤ c ∧ c ≤ 237) ∨ c = 252 ∨ (c = 231 ∧ d ≠ 30) ∨ c = 241 ∨ c = 242 → μ' c d = μ c d) (g8 : ∀ j, j < 10 → zd_th ξ j = true → ¬ ξ (zdW j) 3 = 4 → μ' 238 j = if G j = true then nI s else μ 238 j) (g251 : ∀ q, q < 3 → (μ' 251 q = 0 ↔ ξ' (zdK q) 3 = 0)) (gT : ∀ q, q < 3 → zu_eqT μ (3 + q) μ' (3 + q))
    (hG : ∀ j, j < 10 → zd_th ξ j = true → ξ (zdW j) 3 = 3 → ∀ o, o < 10 → ξ (zdW j) 4 = nI o → G j = G o) (hz : ∀ q, q < 3 → zs ξ' (zdT q) (Rs' q) (ts' q) μ' q (us' q)) (hR : ∀ q, q < 3 → Rs' (3 + q) = Rs (3 + q) ∧ ts' (3 + q) = ts (3 + q) ∧ us' (3 + q) = us (3 + q)) : zK ξ' μ' row stkC stk ord Rs' ts' us' := by
  obtain ⟨h1, ⟨r1, r2, r3, r4⟩, h2, h3, h5, h6, h7⟩ := h
  have th : ∀ j, j < 10 → zd_th ξ' j = zd_th ξ j := fun j hj => by unfold zd_th; rw [eW j 2 hj (by decide)]
  have has : ∀ q j, q < 3 → ¬ ξ' (zdK q) 3 = 0 → zd_has ξ' q j = zd_has ξ q j := fun q j hq z => by
    unfold zd_has
    rw [(kK q hq).resolve_left z, eQ q hq, eV q hq 3 (by decide)]
  have hV : ∀ q, q < 3 → zt_I ξ (zdV q) (Rs (3 + q)) (ts (3 + q)) := fun q hq => (h1.2.2.2.2.1 q hq).1.1
  refine ⟨hJ, ⟨⟨r1.1, (gC _ _ (by omega)).trans r1.2.1, fun j hj => (gC _ _ (by omega)).trans (r1.2.2 j hj)⟩, ⟨r2.1, (gC _ _ (by omega)).trans r2.2.1, fun j hj => (gC _ _ (by omega)).trans (r2.2.2 j hj)⟩, r3, fun z => ?_⟩, ⟨fun z hz' => ?_, fun q hq => ?_⟩, fun z hz' A B => ?_, ⟨h5.1, fun z => ?_, fun z hz' A => ?_⟩, hz, fun d hd => ?_, fun q hq => ?_⟩
  · rw [r4 z]
    refine and_congr_right fun hz' => ?_
    unfold zd_flo
    rw [eW z 2 hz' (by decide), eW z 3 hz' (by decide)]
  · rw [th z hz', gC 234 z (by omega)]
    refine ⟨(h2.1 z hz').1, fun c => ?_⟩
    obtain ⟨d1, d2, d3, d4⟩ := (h2.1 z hz').2 c
    rw [eW z 3 hz' (by decide), eW z 4 hz' (by decide), eL z hz', gC 235 z (by omega), gC 236 z (by omega), gC 237 z (by omega)]
    refine ⟨d1, d2, d3, fun w => ?_⟩
    rw [g8 z hz' c w, e5 z hz', d4 w]
  · by_cases e : q = s
    · subst e
      rw [g1.1, g1.2, nZ.1, nZ.2]
      exact ⟨fun z => absurd z nS, fun _ => ⟨rfl, rfl⟩⟩
    · rw [(eS q hq e).1, (eS q hq e).2, gC 232 q (by omega), gC 233 q (by omega)]
      exact h2.2 q hq
  · rw [th z hz'] at A
    rw [eW z 3 hz' (by decide)] at B
    obtain ⟨o, ho, q1, q2, q3, q4⟩ := h3 z hz' A B
    refine ⟨o, ho, by rw [eW z 4 hz' (by decide)]; exact q1, by rw [eW o 3 ho (by decide)]; exact q2, by rw [e5 z hz', e5 o ho, hG z hz' A B o ho q1, q3], fun q hq w => ?_⟩
    have w0 : ¬ ξ' (zdK q) 3 = 0 := (of_decide_eq_true w).1
    rw [has q _ hq w0] at w ⊢
    exact q4 q hq w
  · rw [gC 234 z (by omega)]
    exact h5.2.1 z
  · rw [gC 234 z (by omega)] at A
    rw [gC 237 z (by omega)]
    exact h5.2.2 z hz' A
  · rw [gC 252 d (by omega)]
    exact h7.1 d hd
  · rw [(hR q hq).1, (hR q hq).2.1, (hR q hq).2.2]
    refine ⟨g251 q hq, fun z => ?_⟩
    have z' : ¬ ξ (zdK q) 3 = 0 := by rw [← (kK q hq).resolve_left z]; exact z
    obtain ⟨b1, b2⟩ := (h7.2 q hq).2 z'
    refine ⟨fun j hj => ?_, zs_cl (hV q hq) (zs_eqT (hV q hq) b2 (gT q hq)) (eV q hq 3 (by decide)) (eV q hq 7 (by decide)) (eV q hq 8 (by decide)) (eV q hq 12 (by decide))⟩
    rw [gC 252 _ (by omega), has q j hq z]
    exact b1 j hj
/-- nothing comes with it -/
theorem zK_sc1 (h : zK ξ μ row stkC stk ord Rs ts us) (hs : s < 3) (hst : ξ (zdS s) 3 = 0) (hn : zd_new ξ ξn s x y) (hM : zv_nw μ M s x y) {ν1 : zm_M} (f1 : ∀ c, c ≠ 31 → ν1 c = ξn c) (hJ : zJ (zm_up ν1 (zdK s) 3 0) row stkC Rs ts) (g0 : μ' 251 s = 0) (g : ∀ c d, c ≠ 260 → ¬ (c = 251 ∧ d = s) → μ' c d = M c d) : zK (zm_up ν1 (zdK s) 3 0) μ' row stkC stk ord Rs ts us := by
  obtain ⟨n1, n2, n3, n4⟩ := zd_new_row hs hn
  obtain ⟨-, m2, m3, m4⟩ := hn
  obtain ⟨⟨k1, k2⟩, k3, k4⟩ := hM
  have fr : ∀ c, c ≠ 31 → c ≠ zdK s → zm_up ν1 (zdK s) 3 0 c = ξn c := fun c a b => (zm_up_row b).trans (f1 c a)
  have fT : ∀ q, q < 3 → ∀ j, j < 24 → zm_up ν1 (zdK s) 3 0 (zdT q + j) = ξ (zdT q + j) ∧ zm_up ν1 (zdK s) 3 0 (zdV q + j) = ξ (zdV q + j) := fun q hq j hj => ⟨(fr _ (by unfold zdT; omega) (by unfold zdT zdK; omega)).trans (n2 q hq j hj).1, (fr _ (by unfold zdV; omega) (by unfold zdV zdK; omega)).trans (n2 q hq j hj).2⟩
  have gM : ∀ c d, c ≠ 260 → ¬ (c = 251 ∧ d = s) → ¬ (c = 232 ∧ d = s) → ¬ (c = 233 ∧ d = s) → ¬ zu_in s c d → μ' c d = μ c d := fun c d a b e f r => (g c d a b).trans (k4 c d e f r)
  have gT : ∀ q, q < 6 → q ≠ s → zu_eqT μ q μ' q := fun q hq hne => zu_eq_in (fun c d r => gM c d (fun z => zu_in_not (by omega) r) (fun z => zu_in_not (by omega) r) (fun z => zu_in_not (by omega) r) (fun z => zu_in_not (by omega) r) (zu_in_ne r hne))
  have eW : ∀ j, j < 10 → zm_up ν1 (zdK s) 3 0 (zdW j) = ξ (zdW j) ∧ zm_up ν1 (zdK s) 3 0 (zdW j + 1) = ξ (zdW j + 1) := fun j hj => ⟨(fr _ (by unfold zdW; omega) (by unfold zdW zdK; omega)).trans (n1 j hj).1, (fr _ (by unfold zdW; omega) (by unfold zdW zdK; omega)).trans (n1 j hj).2⟩
  have eK : ∀ q, q < 3 → zm_up ν1 (zdK s) 3 0 (zdK q) 3 = if q = s then 0 else ξ (zdK q) 3 := fun q hq => by
    by_cases e : q = s
    · rw [if_pos e, e]; exact zm_up_eq
    · rw [if_neg e, fr _ (by unfold zdK; omega) (by unfold zdK; omega), (n3 q hq).1]
  refine zK_sgen (s := s) (x := x) (y := y) h hJ (fun _ => false) (fun j d hj _ => by rw [(eW j hj).1]) (fun j hj => by rw [(eW j hj).1]; exact (if_neg (by decide)).symm) (fun j hj => (eW j hj).2) (fun q hq hne => ⟨(fr _ (by unfold zdS; omega) (by unfold zdS zdK; omega)).trans (n4 q hq hne).1, (fr _ (by unfold zdZ; omega) (by unfold zdZ zdK; omega)).trans (n4 q hq hne).2⟩)
    (by rw [fr _ (by unfold zdS; omega) (by unfold zdS zdK; omega), m2]; decide) (by rw [fr _ (by unfold zdZ; omega) (by unfold zdZ zdK; omega)]; exact ⟨m3, m4⟩) (fun q hq => (fr _ (by unfold zdQ; omega) (by unfold zdQ zdK; omega)).trans (n3 q hq).2) (fun q hq j hj => (fT q hq j (by omega)).2) (fun q hq => ?_) ⟨(g _ _ (by decide) (by omega)).trans k1, (g _ _ (by decide) (by omega)).trans k2⟩ (fun c d r => gM c d (by omega) (by omega) (by omega) (by omega) (zu_in_not (by omega))) (fun j hj _ _ => ?_) (fun q hq => ?_) (fun q hq => gT _ (by omega) (by omega)) (fun _ _ _ _ _ _ _ => rfl) (fun q hq => ?_) (fun _ _ => ⟨rfl, rfl, rfl⟩)
  · rw [eK q hq]
    by_cases e : q = s
    · rw [if_pos e]; exact Or.inl rfl
    · rw [if_neg e]; exact Or.inr rfl
  · rw [gM 238 j (by decide) (by omega) (by omega) (by omega) (zu_in_not (by decide))]
    exact (if_neg (by decide)).symm
  · rw [eK q hq]
    by_cases e : q = s
    · rw [if_pos e, e, g0]
    · rw [if_neg e, gM 251 q (by decide) (by omega) (by omega) (by omega) (zu_in_not (by decide))]
      exact (h.2.2.2.2.2.2.2 q hq).1
  · by_cases e : q = s
    · subst e
      obtain ⟨e1, e2⟩ := zJ_none h.1 hq hst
      have e3 : us q = .nil := zR_none (zK_R h) hq (Decidable.byContradiction fun z => (zK_sc0 h hq).mpr z hst)
      rw [e1, e2, e3]
      have tM : zu_eqT M q μ' q := zu_eq_in (fun c d r => g c d (fun z => zu_in_not (by omega) r) (fun z => zu_in_not (by omega) r))
      exact zs_nil (tM.I k3)
    · have hI := (h.1.2.2.2.1 q hq).1.1
      exact zs_cl hI (zs_eqT hI (h.2.2.2.2.2.1 q hq) (gT q (by omega) e)) (fT q hq 3 (by decide)).1 (fT q hq 7 (by decide)).1 (fT q hq 8 (by decide)).1 (fT q hq 12 (by decide)).1
end ZKX
