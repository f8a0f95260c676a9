/-! a screen that comes: what holds then -/
section ZCJ
variable {μ ν : zm_M} {row stk : List Nat} {Rs Rs' : Nat → List Nat} {ts ts' : Nat → zy_F}
theorem zJ_comes (h : zJ μ row stk Rs ts) {s : Nat} (hs : s < 3) {G : Nat → Bool}
    (f : ∀ c d, ¬ zJ_irr c → (∀ q, q < 3 → zt_out (zdT q) c) → c ≠ zdZ s → ¬ (c = zdS s ∧ d = 3) → (∀ q, q < 3 → c = zdK q → d ≠ 3) → (∀ j, j < 10 → c = zdW j → d ≠ 5) → ν c d = μ c d) (fS : ¬ ν (zdS s) 3 = 0) (fZ : 40 ≤ ν (zdZ s) 0 ∧ ν (zdZ s) 0 ≤ 400 ∧ 40 ≤ ν (zdZ s) 1 ∧ ν (zdZ s) 1 ≤ 400)
    (fK : ∀ q, q < 3 → ν (zdK q) 3 = 0 ∨ (q ≠ s ∧ ν (zdK q) 3 = μ (zdK q) 3)) (f5 : ∀ j, j < 10 → ν (zdW j) 5 = if G j = true then nI s else μ (zdW j) 5)
    (hT : ∀ q, q < 3 → zt_C ν (zdT q) (Rs' q) (ts' q) ∧ (∀ j, j ∈ Rs' q ↔ (j < 10 ∧ zd_til μ j = true ∧ (if G j = true then nI s else μ (zdW j) 5) = nI q)) ∧ (∀ j ∈ Rs' q, ν (zdT q + 5) j = μ (zdW j + 1) 0 ∧ ν (zdT q + 6) j = μ (zdW j + 1) 1) ∧ ((q = s ∨ ¬ μ (zdS q) 3 = 0) → zt_fit ν (zdT q) (zdZ q) (Rs' q) (ts' q) = true)) (hRk : ∀ q, q < 3 → Rs' (3 + q) = Rs (3 + q) ∧ ts' (3 + q) = ts (3 + q)) : zJ ν row stk Rs' ts' := by
  obtain ⟨h1, h2, h3, h4, h6, h7⟩ := h
  have oW : ∀ j, j < 10 → ∀ q, q < 3 → zt_out (zdT q) (zdW j) ∧ zt_out (zdT q) (zdW j + 1) := fun j hj q hq => ⟨zJn_out hq (Or.inr (Or.inl ⟨j, hj, Or.inl rfl⟩)), zJn_out hq (Or.inr (Or.inl ⟨j, hj, Or.inr rfl⟩))⟩
  have wo : ∀ j, j < 10 → ∀ d, d ≠ 5 → ν (zdW j) d = μ (zdW j) d := fun j hj d hd => f _ _ (zJn_W hj).1 (fun q hq => (oW j hj q hq).1) (by unfold zdW zdZ; omega) (fun e => by have := e.1; unfold zdW zdS at this; omega) (fun q hq e => by unfold zdW zdK at e; omega) (fun _ _ _ => hd)
  have eL : ∀ j, j < 10 → ν (zdW j + 1) = μ (zdW j + 1) := fun j hj => funext fun d => f _ _ (zJn_W hj).2 (fun q hq => (oW j hj q hq).2) (by unfold zdW zdZ; omega) (fun e => by have := e.1; unfold zdW zdS at this; omega) (fun q hq e => by unfold zdW zdK at e; omega) (fun j' hj' e => by unfold zdW at e; omega)
  have e0 : ∀ c, c < 7 → ν c = μ c := fun c hc => funext fun d => f _ _ (zJn_0 hc) (fun q hq => zJn_out hq (Or.inl hc)) (by unfold zdZ; omega) (fun e => by have := e.1; unfold zdS at this; omega) (fun q hq e => by unfold zdK at e; omega) (fun j' hj' e => by unfold zdW at e; omega)
  have eV : ∀ q, q < 3 → ∀ j, j < 19 → ν (zdV q + j) = μ (zdV q + j) := fun q hq j hj => funext fun d => f _ _ (zJn_T hq hj).2 (fun q' hq' => zJn_out hq' (Or.inr (Or.inr (Or.inl ⟨q, hq, Or.inr (Or.inr (Or.inr (Or.inr ⟨j, hj, rfl⟩)))⟩)))) (by unfold zdV zdZ; omega) (fun e => by have := e.1; unfold zdV zdS at this; omega) (fun q hq e => by unfold zdV zdK at e; omega) (fun j' hj' e => by unfold zdV zdW at e; omega)
  have eQ : ∀ q, q < 3 → ν (zdQ q) = μ (zdQ q) := fun q hq => funext fun d => f _ _ (zJn_S hq).2.2.2 (fun q' hq' => zJn_out hq' (Or.inr (Or.inr (Or.inl ⟨q, hq, Or.inr (Or.inr (Or.inr (Or.inl rfl)))⟩)))) (by unfold zdQ zdZ; omega) (fun e => by have := e.1; unfold zdQ zdS at this; omega) (fun q hq e => by unfold zdQ zdK at e; omega) (fun j' hj' e => by unfold zdQ zdW at e; omega)
  have eS : ∀ q, q < 3 → q ≠ s → ν (zdS q) = μ (zdS q) ∧ ν (zdZ q) = μ (zdZ q) := fun q hq hne => ⟨funext fun d => f _ _ (zJn_S hq).1 (fun q' hq' => zJn_out hq' (Or.inr (Or.inr (Or.inl ⟨q, hq, Or.inl rfl⟩)))) (by unfold zdS zdZ; omega) (fun e => by have := e.1; unfold zdS at this; omega) (fun q hq e => by unfold zdS zdK at e; omega) (fun j' hj' e => by unfold zdS zdW at e; omega), funext fun d => f _ _ (zJn_S hq).2.1 (fun q' hq' => zJn_out hq' (Or.inr (Or.inr (Or.inl ⟨q, hq, Or.inr (Or.inl rfl)⟩)))) (by unfold zdZ; omega) (fun e => by have := e.1; unfold zdZ zdS at this; omega) (fun q hq e => by unfold zdZ zdK at e; omega) (fun j' hj' e => by unfold zdZ zdW at e; omega)⟩
  have th : ∀ j, j < 10 → zd_th ν j = zd_th μ j := fun j hj => by unfold zd_th; rw [wo j hj 2 (by decide)]
  have til : ∀ j, j < 10 → zd_til ν j = zd_til μ j := fun j hj => by unfold zd_til; rw [wo j hj 2 (by decide), wo j hj 3 (by decide)]
  refine ⟨⟨zr_L_congr (e0 _ (by decide)) (e0 _ (by decide)) h1.1, h1.2.1, fun j => ?_⟩, ⟨zr_L_congr (e0 _ (by decide)) (e0 _ (by decide)) h2.1, h2.2⟩, fun j hj htj => ?_, fun q hq => ?_, fun q hq => ?_, fun q hq hqt => ?_⟩
  · rw [h1.2.2 j]
    constructor
    · rintro ⟨x, y⟩
      exact ⟨x, by rw [th j x]; exact y⟩
    · rintro ⟨x, y⟩
      exact ⟨x, by rw [← th j x]; exact y⟩
  · rw [th j hj] at htj
    obtain ⟨c1, c2, c3, c4, c5⟩ := h3 j hj htj
    rw [wo j hj 3 (by decide), wo j hj 4 (by decide), eL j hj]
    refine ⟨c1, c2, fun q => ?_, fun q => ?_, c5⟩
    · rw [f5 j hj]
      by_cases e : G j = true
      · rw [if_pos e]
        exact ⟨s, hs, rfl, fS⟩
      · rw [if_neg e]
        obtain ⟨s', d1, d2, d3⟩ := c3 q
        refine ⟨s', d1, d2, ?_⟩
        by_cases es : s' = s
        · rw [es]; exact fS
        · rw [(eS s' d1 es).1]; exact d3
    · obtain ⟨i, d1, d2, d3, d4⟩ := c4 q
      exact ⟨i, d1, d2, d3, by rw [th i d1]; exact d4⟩
  · obtain ⟨t1, t2, t3, -⟩ := hT q hq
    refine ⟨t1, fun j => ?_, fun j hj => ?_⟩
    · rw [t2 j]
      constructor
      · rintro ⟨d1, d2, d3⟩
        exact ⟨d1, by rw [til j d1]; exact d2, by rw [f5 j d1]; exact d3⟩
      · rintro ⟨d1, d2, d3⟩
        rw [til j d1] at d2
        rw [f5 j d1] at d3
        exact ⟨d1, d2, d3⟩
    · rw [eL j ((t2 j).mp hj).1]
      exact t3 j hj
  · rw [(hRk q hq).1, (hRk q hq).2]
    obtain ⟨c1, c2⟩ := h6 q hq
    refine ⟨zt_C_19 (eV q hq) c1, fun z => ?_⟩
    obtain ⟨hne, ek⟩ := (fK q hq).resolve_left z
    rw [ek] at z
    obtain ⟨b1, b2, b3⟩ := c2 z
    refine ⟨by rw [(eS q hq hne).1]; exact b1, fun j hj => ?_, fun j hj hz => ?_⟩
    · have hj10 := c1.1.1.2.2 j hj
      rw [eV q hq 5 (by omega), eV q hq 6 (by omega), eL j hj10, til j hj10]
      exact b2 j hj
    · rw [eQ q hq] at hz
      rw [th j hj, wo j hj 3 (by decide)]
      exact b3 j hj hz
  · by_cases e : q = s
    · subst e
      exact ⟨fZ, (hT q hq).2.2.2 (Or.inl rfl)⟩
    · rw [(eS q hq e).1] at hqt
      obtain ⟨b1, b2⟩ := h7 q hq hqt
      rw [(eS q hq e).2]
      exact ⟨b1, (hT q hq).2.2.2 (Or.inr hqt)⟩
/-- a screen that isn't there has no tabs -/
theorem zJ_none (h : zJ μ row stk Rs ts) {s : Nat} (hs : s < 3) (hst : μ (zdS s) 3 = 0) : Rs s = [] ∧ ts s = .nil := by
  obtain ⟨C, m, -⟩ := h.2.2.2.1 s hs
  have hR : Rs s = [] := by
    cases hc : Rs s with
    | nil => rfl
    | cons j l =>
      exfalso
      have hj : j ∈ Rs s := by rw [hc]; exact List.mem_cons_self
      obtain ⟨d1, d2, d3⟩ := (m j).mp hj
      obtain ⟨-, -, a3, -, -⟩ := h.2.2.1 j d1 (decide_eq_true (of_decide_eq_true d2).1)
      obtain ⟨s', b1, b2, b3⟩ := a3 (by rw [(of_decide_eq_true d2).2]; decide)
      rw [(nI_eq (by omega) (by omega)).mp (b2.symm.trans d3)] at b3
      exact b3 hst
  refine ⟨hR, ?_⟩
  rcases C.1.2.1.1 with ⟨e, -⟩ | ⟨wt, -⟩
  · exact e
  · exfalso
    have := zl_mem (zy_lvs_pos wt)
    obtain ⟨w, hw, -⟩ := C.1.2.2.2.2.2 _ this
    rw [hR] at hw
    cases hw
end ZCJ
