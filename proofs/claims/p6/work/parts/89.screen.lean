/-! the desk: a screen comes -/
section ZSC
variable {μ ν : zm_M} {row stk : List Nat} {Rs : Nat → List Nat} {ts : Nat → zy_F}
/-- the screen s is there now, of the size x, y; nothing has come to it yet -/
def zd_new (μ ξ : zm_M) (s : Nat) (x y : Int32) : Prop := (∀ c d, c ≠ 32 → c ≠ zdZ s → ¬ (c = zdS s ∧ d = 3) → ξ c d = μ c d) ∧ ξ (zdS s) 3 = 1 ∧ ξ (zdZ s) 0 = x ∧ ξ (zdZ s) 1 = y
def zd_scn (μ ν : zm_M) (Rs Rs' : Nat → List Nat) (ts ts' : Nat → zy_F) (s : Nat) (x y : Int32) : Prop :=
  ∃ ξ ν1, zd_new μ ξ s x y ∧ zd_brg ξ ν1 Rs ts s ∧ ν = zm_up ν1 (zdK s) 3 0 ∧ (((ξ (zdK s) 3 = 0 ∨ zt_fit ξ (zdV s) (zdZ s) (Rs (3 + s)) (ts (3 + s)) = false ∨ zl_al (zd_gwf ξ (zd_bgr ξ s) (zdZ s)) 10 = false) ∧ Rs' = Rs ∧ ts' = ts) ∨
    ((¬ ξ (zdK s) 3 = 0 ∧ zt_fit ξ (zdV s) (zdZ s) (Rs (3 + s)) (ts (3 + s)) = true ∧ zl_al (zd_gwf ξ (zd_bgr ξ s) (zdZ s)) 10 = true) ∧ ∃ ν2 ν3 Rs1 ts1, zd_tbk ν2 ν3 Rs ts (zd_has ξ s) 10 Rs1 ts1 ∧ Rs' = zd_upd Rs1 s (Rs (3 + s)) ∧ ts' = zd_upd ts1 s (ts (3 + s))))
theorem zJ_scn_0 (h : zJ μ row stk Rs ts) {s : Nat} {x y : Int32} (hs : s < 3) (hst : μ (zdS s) 3 = 0) (hx : 40 ≤ x ∧ x ≤ 400) (hy : 40 ≤ y ∧ y ≤ 400) {ξ ν1 : zm_M} (hn : zd_new μ ξ s x y) (hν : ∀ c, c ≠ 31 → ν1 c = ξ c) : zJ (zm_up ν1 (zdK s) 3 0) row stk Rs ts := by
  obtain ⟨n1, n2, n3, n4⟩ := hn
  have u : ∀ c, c ≠ zdK s → c ≠ 31 → zm_up ν1 (zdK s) 3 0 c = ξ c := fun c a1 a2 => (zm_up_row a1).trans (hν c a2)
  have row' : ∀ c, c ≠ zdK s → c ≠ 31 → c ≠ 32 → c ≠ zdZ s → c ≠ zdS s → zm_up ν1 (zdK s) 3 0 c = μ c := fun c a1 a2 a3 a4 a5 => by
    rw [u c a1 a2]
    funext d
    exact n1 c d a3 a4 (fun e => a5 e.1)
  obtain ⟨eR, eT⟩ := zJ_none h hs hst
  have rT : ∀ q, q < 3 → ∀ j, j < 24 → zm_up ν1 (zdK s) 3 0 (zdT q + j) = μ (zdT q + j) := fun q hq j hj => row' _ (by unfold zdT zdK; omega) (by unfold zdT; omega) (by unfold zdT; omega) (by unfold zdT zdZ; omega) (by unfold zdT zdS; omega)
  have hz : zm_up ν1 (zdK s) 3 0 (zdZ s) = ξ (zdZ s) := u _ (by unfold zdZ zdK; omega) (by unfold zdZ; omega)
  refine zJ_comes (G := fun _ => false) h hs (fun c d a1 a2 a3 a4 a5 a6 => ?_) ?_ ?_ (fun q hq => ?_) (fun j hj => ?_) (fun q hq => ?_) (fun q hq => ⟨rfl, rfl⟩)
  · rw [zm_up_ne (fun e => a5 s hs e.1 e.2), hν c (fun e => a1 (by rw [e]; unfold zJ_irr; omega))]
    exact n1 c d (fun e => a1 (by rw [e]; unfold zJ_irr; omega)) a3 a4
  · rw [u _ (by unfold zdS zdK; omega) (by unfold zdS; omega), n2]
    decide
  · rw [hz, n3, n4]
    exact ⟨hx.1, hx.2, hy⟩
  · by_cases e : q = s
    · subst e
      exact Or.inl zm_up_eq
    · exact Or.inr ⟨e, by rw [row' _ (by unfold zdK; omega) (by unfold zdK; omega) (by unfold zdK; omega) (by unfold zdK zdZ; omega) (by unfold zdK zdS; omega)]⟩
  · rw [row' _ (by unfold zdW zdK; omega) (by unfold zdW; omega) (by unfold zdW; omega) (by unfold zdW zdZ; omega) (by unfold zdW zdS; omega)]
    rfl
  · obtain ⟨c1, c2, c3⟩ := h.2.2.2.1 q hq
    have r := rT q hq
    refine ⟨zt_C_19 (fun j hj => r j (by omega)) c1, fun j => c2 j, fun j hj => by rw [r 5 (by omega), r 6 (by omega)]; exact c3 j hj, fun z => ?_⟩
    by_cases e : q = s
    · subst e
      rw [eR, eT]
      refine decide_eq_true ?_
      rw [hz, n3, n4]
      exact ⟨Int32.le_trans (show (0 : Int32) ≤ 40 by decide) hx.1, Int32.le_trans (show (0 : Int32) ≤ 40 by decide) hy.1⟩
    · have z := z.resolve_left e
      rw [zt_fit_copy (A := μ) (T := zdT q) ⟨r _ (by omega), r _ (by omega), r _ (by omega), r _ (by omega), r _ (by omega), r _ (by omega)⟩ (row' _ (by unfold zdZ zdK; omega) (by unfold zdZ; omega) (by unfold zdZ; omega) (by unfold zdZ; omega) (by unfold zdZ zdS; omega))]
      exact (h.2.2.2.2.2 q hq z).2
theorem zJ_scn_1 (h : zJ μ row stk Rs ts) {s : Nat} {x y : Int32} (hs : s < 3) (hst : μ (zdS s) 3 = 0) (hx : 40 ≤ x ∧ x ≤ 400) (hy : 40 ≤ y ∧ y ≤ 400) {ξ ν1 ν2 ν3 : zm_M} {Rs1 : Nat → List Nat} {ts1 : Nat → zy_F} (hn : zd_new μ ξ s x y) (hkp : ¬ ξ (zdK s) 3 = 0) (hfit : zt_fit ξ (zdV s) (zdZ s) (Rs (3 + s)) (ts (3 + s)) = true) (f2 : ∀ c, c ≠ 31 → ν2 c = ξ c) (hB : zd_tbk ν2 ν3 Rs ts (zd_has ξ s) 10 Rs1 ts1)
    (ff : ∀ c d, ¬ zJ_irr c → (∀ q, q < 3 → zt_out (zdT q) c) → (∀ q, q < 3 → c = zdK q → d ≠ 3) → (∀ j, j < 10 → c = zdW j → d ≠ 5) → ν1 c d = ξ c d) (fK : ∀ q, q < 3 → ν1 (zdK q) 3 = if zd_hasg ξ (zd_bgr ξ s) 10 q = true then 0 else ξ (zdK q) 3)
    (f5 : ∀ j, j < 10 → ν1 (zdW j) 5 = if zd_bgr ξ s j = true then nI s else ξ (zdW j) 5) (fT : ∀ q, q < 3 → q ≠ s → ∀ j, j < 24 → ν1 (zdT q + j) = ν3 (zdT q + j)) (hC : zt_C ν1 (zdT s) (Rs (3 + s)) (ts (3 + s))) (hcp : zt_isCopy ξ (zdV s) ν1 (zdT s)) :
    zJ (zm_up ν1 (zdK s) 3 0) row stk (zd_upd Rs1 s (Rs (3 + s))) (zd_upd ts1 s (ts (3 + s))) := by
  obtain ⟨n1, n2, n3, n4⟩ := hn
  have hw := h
  have u : ∀ c, c ≠ zdK s → zm_up ν1 (zdK s) 3 0 c = ν1 c := fun c a1 => zm_up_row a1
  have rξ : ∀ c, c ≠ 32 → c ≠ zdZ s → c ≠ zdS s → ξ c = μ c := fun c a1 a2 a3 => funext fun d => n1 c d a1 a2 (fun e => a3 e.1)
  have wξ : ∀ j, ξ (zdW j) = μ (zdW j) ∨ 10 ≤ j := fun j => by
    by_cases c : j < 10
    · exact Or.inl (rξ _ (by unfold zdW; omega) (by unfold zdW zdZ; omega) (by unfold zdW zdS; omega))
    · exact Or.inr (by omega)
  have wξ' : ∀ j, j < 10 → ξ (zdW j) = μ (zdW j) := fun j hj => (wξ j).resolve_right (by omega)
  have vξ : ∀ j, j < 19 → ξ (zdV s + j) = μ (zdV s + j) := fun j hj => rξ _ (by unfold zdV; omega) (by unfold zdV zdZ; omega) (by unfold zdV zdS; omega)
  have kξ : ∀ q, q < 3 → ξ (zdK q) = μ (zdK q) := fun q hq => rξ _ (by unfold zdK; omega) (by unfold zdK zdZ; omega) (by unfold zdK zdS; omega)
  have tilξ : ∀ j, j < 10 → zd_til ξ j = zd_til μ j := fun j hj => by unfold zd_til; rw [wξ' j hj]
  have hz : zm_up ν1 (zdK s) 3 0 (zdZ s) = ξ (zdZ s) := by
    rw [u _ (by unfold zdZ zdK; omega)]
    funext d
    exact ff _ _ (zJn_S hs).2.1 (fun q hq => zJn_out hq (Or.inr (Or.inr (Or.inl ⟨s, hs, Or.inr (Or.inl rfl)⟩)))) (fun q hq e => by unfold zdZ zdK at e; omega) (fun j hj e => by unfold zdZ zdW at e; omega)
  obtain ⟨h1, h2, h3, h4, h6, h7⟩ := h
  obtain ⟨kC, kF⟩ := h6 s hs
  obtain ⟨-, kR, kQ⟩ := kF (by rw [← kξ s hs]; exact hkp)
  -- of a tiled window: it is in the group just if it is kept
  have gH : ∀ j, j < 10 → zd_til μ j = true → (zd_bgr ξ s j = true ↔ zd_has ξ s j = true) := fun j hj q => by
    constructor
    · intro z
      rcases zl_spn_or 10 j z with z | z
      · exact z
      · exfalso
        obtain ⟨z1, ⟨z2, -⟩, -⟩ := of_decide_eq_true z
        rw [wξ' j hj] at z1 z2
        obtain ⟨-, -, -, -, a5⟩ := h3 j hj (decide_eq_true z1)
        rw [a5 (by rw [(of_decide_eq_true q).2]; decide)] at z2
        exact z2 (by decide)
    · exact fun z => zl_spn_mono 10 j z
  have hH : ∀ j, j < 10 → zd_til μ j = true → (zd_has ξ s j = true ↔ j ∈ Rs (3 + s)) := fun j hj q => by
    constructor
    · intro z
      obtain ⟨-, z⟩ := of_decide_eq_true z
      by_cases c : j ∈ Rs (3 + s)
      · exact c
      · exfalso
        rcases z with z | z
        · rw [rξ _ (by unfold zdQ; omega) (by unfold zdQ zdZ; omega) (by unfold zdQ zdS; omega)] at z
          exact (kQ j hj z).2.1 (of_decide_eq_true q).2
        · rw [vξ 3 (by omega), kC.1.2.2.2.2.1 j hj c] at z
          exact z (by decide)
    · intro z
      obtain ⟨m, hm, em⟩ := kC.1.2.2.2.1 j z
      have hm19 := kC.1.2.1.2.2.1 m (zt_I_lv kC.1 hm).2
      exact decide_eq_true ⟨hkp, Or.inr (by rw [vξ 3 (by omega), em]; exact nI_pos (by omega))⟩
  refine zJ_comes (G := zd_bgr ξ s) hw hs (fun c d a1 a2 a3 a4 a5 a6 => ?_) ?_ ?_ (fun q hq => ?_) (fun j hj => ?_) (fun q hq => ?_) (fun q hq => ?_)
  · rw [zm_up_ne (fun e => a5 s hs e.1 e.2), ff c d a1 a2 a5 a6]
    exact n1 c d (fun e => a1 (by rw [e]; unfold zJ_irr; omega)) a3 a4
  · rw [u _ (by unfold zdS zdK; omega), ff _ _ (zJn_S hs).1 (fun q hq => zJn_out hq (Or.inr (Or.inr (Or.inl ⟨s, hs, Or.inl rfl⟩)))) (fun q hq e => by unfold zdS zdK at e; omega) (fun j hj e => by unfold zdS zdW at e; omega), n2]
    decide
  · rw [hz, n3, n4]
    exact ⟨hx.1, hx.2, hy⟩
  · by_cases e : q = s
    · subst e
      exact Or.inl zm_up_eq
    · rw [zm_up_ne (fun z => e (zdK_inj z.1)), fK q hq, kξ q hq]
      by_cases c : zd_hasg ξ (zd_bgr ξ s) 10 q = true
      · rw [if_pos c]
        exact Or.inl rfl
      · rw [if_neg c]
        exact Or.inr ⟨e, rfl⟩
  · rw [u _ (by unfold zdW zdK; omega), f5 j hj, wξ' j hj]
  · by_cases e : q = s
    · subst e
      have e1 : zd_upd Rs1 q (Rs (3 + q)) q = Rs (3 + q) := if_pos rfl
      have e2 : zd_upd ts1 q (ts (3 + q)) q = ts (3 + q) := if_pos rfl
      rw [e1, e2]
      have uT : ∀ j, j < 24 → zm_up ν1 (zdK q) 3 0 (zdT q + j) = ν1 (zdT q + j) := fun j hj => u _ (by unfold zdT zdK; omega)
      refine ⟨zt_C_congr (fun c a1 a2 => u c (by unfold zdT at a1 a2; unfold zdK; omega)) hC, fun j => ?_, fun j hj => ?_, fun _ => ?_⟩
      · constructor
        · intro z
          have hj10 := kC.1.1.2.2 j z
          have ht := (kR j z).1
          exact ⟨hj10, ht, by rw [if_pos ((gH j hj10 ht).mpr ((hH j hj10 ht).mpr z))]⟩
        · rintro ⟨d1, d2, d3⟩
          by_cases c : zd_bgr ξ q j = true
          · exact (hH j d1 d2).mp ((gH j d1 d2).mp c)
          · exfalso
            rw [if_neg c] at d3
            obtain ⟨s', b1, b2, b3⟩ := (h3 j d1 (decide_eq_true (of_decide_eq_true d2).1)).2.2.1 (by rw [(of_decide_eq_true d2).2]; decide)
            rw [(nI_eq (by omega) (by omega)).mp (b2.symm.trans d3)] at b3
            exact b3 hst
      · rw [uT 5 (by omega), uT 6 (by omega), hcp.2.1, hcp.2.2.1, vξ 5 (by omega), vξ 6 (by omega)]
        exact (kR j hj).2
      · rw [zt_fit_copy (A := ξ) (T := zdV q) ⟨(uT _ (by omega)).trans hcp.1, (uT _ (by omega)).trans hcp.2.1, (uT _ (by omega)).trans hcp.2.2.1, (uT _ (by omega)).trans hcp.2.2.2.1, (uT _ (by omega)).trans hcp.2.2.2.2.1, (uT _ (by omega)).trans hcp.2.2.2.2.2⟩ hz]
        exact hfit
    · have e1 : zd_upd Rs1 s (Rs (3 + s)) q = Rs1 q := if_neg e
      have e2 : zd_upd ts1 s (ts (3 + s)) q = ts1 q := if_neg e
      rw [e1, e2]
      obtain ⟨b1, b2, b3, b4, b5⟩ := hB.2.1 q hq
      obtain ⟨c1, c2, c3⟩ := h4 q hq
      have r2 : ∀ j, j < 24 → ν2 (zdT q + j) = μ (zdT q + j) := fun j hj => (f2 _ (by unfold zdT; omega)).trans (rξ _ (by unfold zdT; omega) (by unfold zdT zdZ; omega) (by unfold zdT zdS; omega))
      have r : ∀ j, j < 24 → zm_up ν1 (zdK s) 3 0 (zdT q + j) = ν3 (zdT q + j) := fun j hj => (u _ (by unfold zdT zdK; omega)).trans (fT q hq e j hj)
      have z2 : ν2 (zdZ q) = μ (zdZ q) := (f2 _ (by unfold zdZ; omega)).trans (rξ _ (by unfold zdZ; omega) (by unfold zdZ; omega) (by unfold zdZ zdS; omega))
      have oZ : ∀ p, p < 3 → zt_out (zdT p) (zdZ q) := fun p hp => zJn_out hp (Or.inr (Or.inr (Or.inl ⟨q, hq, Or.inr (Or.inl rfl)⟩)))
      have z3 : ν3 (zdZ q) = μ (zdZ q) := (hB.2.2.1 _ (zJn_S hq).2.1 oZ).trans z2
      refine ⟨zt_C_19 (fun j hj => r j (by omega)) b1, fun j => ?_, fun j hj => ?_, fun z => ?_⟩
      · rw [b2 j, c2 j]
        constructor
        · rintro ⟨⟨d1, d2, d3⟩, d4⟩
          refine ⟨d1, d2, ?_⟩
          rw [if_neg (fun z => d4 ⟨d1, (gH j d1 d2).mp z⟩)]
          exact d3
        · rintro ⟨d1, d2, d3⟩
          by_cases c : zd_bgr ξ s j = true
          · rw [if_pos c] at d3
            exact absurd ((nI_eq (by omega) (by omega)).mp d3.symm) e
          · rw [if_neg c] at d3
            exact ⟨⟨d1, d2, d3⟩, fun z => c ((gH j d1 d2).mpr z.2)⟩
      · rw [r 5 (by omega), r 6 (by omega), b3, b4, r2 5 (by omega), r2 6 (by omega)]
        exact c3 j ((b2 j).mp hj).1
      · have z := z.resolve_left e
        rw [zt_fit_copy (A := ν3) (T := zdT q) ⟨r _ (by omega), r _ (by omega), r _ (by omega), r _ (by omega), r _ (by omega), r _ (by omega)⟩ (by
          rw [u _ (by unfold zdZ zdK; omega), z3]
          funext d
          rw [ff _ _ (zJn_S hq).2.1 oZ (fun q hq e => by unfold zdZ zdK at e; omega) (fun j hj e => by unfold zdZ zdW at e; omega), rξ _ (by unfold zdZ; omega) (by unfold zdZ; omega) (by unfold zdZ zdS; omega)])]
        refine b5 ?_
        rw [zt_fit_copy (A := μ) (T := zdT q) ⟨r2 _ (by omega), r2 _ (by omega), r2 _ (by omega), r2 _ (by omega), r2 _ (by omega), r2 _ (by omega)⟩ z2]
        exact (h7 q hq z).2
  · have := hB.2.2.2.2 q hq List.not_mem_nil
    unfold zd_upd
    rw [if_neg (by omega), if_neg (by omega)]
    exact this
end ZSC
