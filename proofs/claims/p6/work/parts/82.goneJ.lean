/-! a screen that goes: what holds then -/
section ZGJ
variable {μ ν : zm_M} {row stk : List Nat} {Rs : Nat → List Nat} {ts : Nat → zy_F}
def zd_goR (Rs : Nat → List Nat) (s o : Nat) (R2 : List Nat) : Nat → List Nat := fun q => if q = o then R2 else if q = s then [] else if q = 3 + s then Rs s else Rs q
def zd_goT (ts : Nat → zy_F) (s o : Nat) (t2 : zy_F) : Nat → zy_F := fun q => if q = o then t2 else if q = s then .nil else if q = 3 + s then ts s else ts q
theorem zJ_gone (h : zJ μ row stk Rs ts) {s o : Nat} (hs : s < 3) (ho : o < 3) (hso : s ≠ o) (hot : ¬ μ (zdS o) 3 = 0) {R2 : List Nat} {t2 : zy_F}
    (f : ∀ c d, ¬ zJ_irr c → zt_out (zdT s) c → zt_out (zdT o) c → zt_out (zdV s) c → c ≠ zdQ s → ¬ (c = zdK s ∧ d = 3) → ¬ (c = zdS s ∧ d = 3) → (∀ j, j < 10 → c = zdW j → d ≠ 5) → ν c d = μ c d) (fS : ν (zdS s) 3 = 0)
    (f5 : ∀ j, j < 10 → ν (zdW j) 5 = if zd_on μ (nI s) j = true then nI o else μ (zdW j) 5) (fQ : ∀ j, j < 10 → ν (zdQ s) j = if zd_loose μ (nI s) j = true then 1 else 0) (hV : zt_C ν (zdV s) (Rs s) (ts s) ∧ zt_isCopy μ (zdT s) ν (zdV s)) (hE : zt_C ν (zdT s) [] .nil)
    (hC : zt_C ν (zdT o) R2 t2) (hR2 : ∀ j, j ∈ R2 ↔ (j ∈ Rs o ∨ j ∈ Rs s)) (h5 : ∀ j ∈ R2, ν (zdT o + 5) j = μ (zdW j + 1) 0 ∧ ν (zdT o + 6) j = μ (zdW j + 1) 1) (hfit : zt_fit ν (zdT o) (zdZ o) R2 t2 = true) :
    zJ ν row stk (zd_goR Rs s o R2) (zd_goT ts s o t2) := by
  obtain ⟨h1, h2, h3, h4, h6, h7⟩ := h
  have oV : ∀ c, (c < 7 ∨ (∃ k, k < 10 ∧ (c = zdW k ∨ c = zdW k + 1)) ∨ (∃ q, q < 3 ∧ (c = zdS q ∨ c = zdZ q ∨ c = zdK q))) → zt_out (zdV s) c ∧ c ≠ zdQ s := by
    intro c hc
    unfold zt_out zdV zdQ
    rcases hc with h | ⟨k, hk, h | h⟩ | ⟨q, hq, h | h | h⟩
    · omega
    · unfold zdW at h; omega
    · unfold zdW at h; omega
    · unfold zdS at h; omega
    · unfold zdZ at h; omega
    · unfold zdK at h; omega
  have wo : ∀ j, j < 10 → ∀ d, d ≠ 5 → ν (zdW j) d = μ (zdW j) d := fun j hj d hd => f _ _ (zJn_W hj).1 (zJn_out hs (Or.inr (Or.inl ⟨j, hj, Or.inl rfl⟩))) (zJn_out ho (Or.inr (Or.inl ⟨j, hj, Or.inl rfl⟩))) (oV _ (Or.inr (Or.inl ⟨j, hj, Or.inl rfl⟩))).1 (oV _ (Or.inr (Or.inl ⟨j, hj, Or.inl rfl⟩))).2 (fun e => by have := e.1; unfold zdW zdK at this; omega) (fun e => by have := e.1; unfold zdW zdS at this; omega) (fun _ _ _ => hd)
  have eL : ∀ j, j < 10 → ν (zdW j + 1) = μ (zdW j + 1) := fun j hj => funext fun d => f _ _ (zJn_W hj).2 (zJn_out hs (Or.inr (Or.inl ⟨j, hj, Or.inr rfl⟩))) (zJn_out ho (Or.inr (Or.inl ⟨j, hj, Or.inr rfl⟩))) (oV _ (Or.inr (Or.inl ⟨j, hj, Or.inr rfl⟩))).1 (oV _ (Or.inr (Or.inl ⟨j, hj, Or.inr rfl⟩))).2 (fun e => by have := e.1; unfold zdW zdK at this; omega) (fun e => by have := e.1; unfold zdW zdS at this; omega) (fun j' hj' e => by unfold zdW at e; omega)
  have e0 : ∀ c, c < 7 → ν c = μ c := fun c hc => funext fun d => f _ _ (zJn_0 hc) (zJn_out hs (Or.inl hc)) (zJn_out ho (Or.inl hc)) (oV _ (Or.inl hc)).1 (oV _ (Or.inl hc)).2 (fun e => by have := e.1; unfold zdK at this; omega) (fun e => by have := e.1; unfold zdS at this; omega) (fun j' hj' e => by unfold zdW at e; omega)
  have eZ : ∀ q, q < 3 → ν (zdZ q) = μ (zdZ q) := fun q hq => funext fun d => f _ _ (zJn_S hq).2.1 (zJn_out hs (Or.inr (Or.inr (Or.inl ⟨q, hq, Or.inr (Or.inl rfl)⟩)))) (zJn_out ho (Or.inr (Or.inr (Or.inl ⟨q, hq, Or.inr (Or.inl rfl)⟩)))) (oV _ (Or.inr (Or.inr ⟨q, hq, Or.inr (Or.inl rfl)⟩))).1 (oV _ (Or.inr (Or.inr ⟨q, hq, Or.inr (Or.inl rfl)⟩))).2 (fun e => by have := e.1; unfold zdZ zdK at this; omega) (fun e => by have := e.1; unfold zdZ zdS at this; omega) (fun j' hj' e => by unfold zdZ zdW at e; omega)
  have eS : ∀ q, q < 3 → q ≠ s → ν (zdS q) = μ (zdS q) ∧ ν (zdK q) = μ (zdK q) ∧ ν (zdQ q) = μ (zdQ q) := fun q hq hne => ⟨funext fun d => f _ _ (zJn_S hq).1 (zJn_out hs (Or.inr (Or.inr (Or.inl ⟨q, hq, Or.inl rfl⟩)))) (zJn_out ho (Or.inr (Or.inr (Or.inl ⟨q, hq, Or.inl rfl⟩)))) (oV _ (Or.inr (Or.inr ⟨q, hq, Or.inl rfl⟩))).1 (oV _ (Or.inr (Or.inr ⟨q, hq, Or.inl rfl⟩))).2 (fun e => by have := e.1; unfold zdS zdK at this; omega) (fun e => by have := e.1; unfold zdS at this; omega) (fun j' hj' e => by unfold zdS zdW at e; omega), funext fun d => f _ _ (zJn_S hq).2.2.1 (zJn_out hs (Or.inr (Or.inr (Or.inl ⟨q, hq, Or.inr (Or.inr (Or.inl rfl))⟩)))) (zJn_out ho (Or.inr (Or.inr (Or.inl ⟨q, hq, Or.inr (Or.inr (Or.inl rfl))⟩)))) (oV _ (Or.inr (Or.inr ⟨q, hq, Or.inr (Or.inr rfl)⟩))).1 (oV _ (Or.inr (Or.inr ⟨q, hq, Or.inr (Or.inr rfl)⟩))).2 (fun e => by have := e.1; unfold zdK at this; omega) (fun e => by have := e.1; unfold zdK zdS at this; omega) (fun j' hj' e => by unfold zdK zdW at e; omega), funext fun d => f _ _ (zJn_S hq).2.2.2 (zJn_out hs (Or.inr (Or.inr (Or.inl ⟨q, hq, Or.inr (Or.inr (Or.inr (Or.inl rfl)))⟩)))) (zJn_out ho (Or.inr (Or.inr (Or.inl ⟨q, hq, Or.inr (Or.inr (Or.inr (Or.inl rfl)))⟩)))) (by unfold zt_out zdV zdQ; omega) (by unfold zdQ; omega) (fun e => by have := e.1; unfold zdQ zdK at this; omega) (fun e => by have := e.1; unfold zdQ zdS at this; omega) (fun j' hj' e => by unfold zdQ zdW at e; omega)⟩
  have eV : ∀ q, q < 3 → q ≠ s → ∀ j, j < 19 → ν (zdV q + j) = μ (zdV q + j) := fun q hq hne j hj => funext fun d => f _ _ (zJn_T hq hj).2 (zJn_out hs (Or.inr (Or.inr (Or.inl ⟨q, hq, Or.inr (Or.inr (Or.inr (Or.inr ⟨j, hj, rfl⟩)))⟩)))) (zJn_out ho (Or.inr (Or.inr (Or.inl ⟨q, hq, Or.inr (Or.inr (Or.inr (Or.inr ⟨j, hj, rfl⟩)))⟩)))) (by unfold zt_out zdV; omega) (by unfold zdV zdQ; omega) (fun e => by have := e.1; unfold zdV zdK at this; omega) (fun e => by have := e.1; unfold zdV zdS at this; omega) (fun j' hj' e => by unfold zdV zdW at e; omega)
  have eT : ∀ q, q < 3 → q ≠ s → q ≠ o → ∀ j, j < 19 → ν (zdT q + j) = μ (zdT q + j) := fun q hq n1 n2 j hj => funext fun d => f _ _ (zJn_T hq hj).1 (by unfold zt_out zdT; omega) (by unfold zt_out zdT; omega) (by unfold zt_out zdT zdV; omega) (by unfold zdT zdQ; omega) (fun e => by have := e.1; unfold zdT zdK at this; omega) (fun e => by have := e.1; unfold zdT zdS at this; omega) (fun j' hj' e => by unfold zdT zdW at e; omega)
  have th : ∀ j, j < 10 → zd_th ν j = zd_th μ j := fun j hj => by unfold zd_th; rw [wo j hj 2 (by decide)]
  have til : ∀ j, j < 10 → zd_til ν j = zd_til μ j := fun j hj => by unfold zd_til; rw [wo j hj 2 (by decide), wo j hj 3 (by decide)]
  have inj3 : ∀ {x y : Nat}, x < 3 → y < 3 → nI x = nI y → x = y := fun hx hy e => (nI_eq (by omega) (by omega)).mp e
  have onof : ∀ j, j < 10 → zd_til μ j = true → (zd_on μ (nI s) j = true ↔ μ (zdW j) 5 = nI s) := fun j hj q => by
    unfold zd_on
    rw [decide_eq_true_iff]
    obtain ⟨q1, q2⟩ := of_decide_eq_true q
    exact ⟨fun z => z.2.2, fun z => ⟨q1, by rw [q2]; decide, z⟩⟩
  refine ⟨⟨zr_L_congr (e0 _ (by decide)) (e0 _ (by decide)) h1.1, h1.2.1, fun j => ?_⟩, ⟨zr_L_congr (e0 _ (by decide)) (e0 _ (by decide)) h2.1, h2.2⟩, fun j hj htj => ?_, fun q hq => ?_, fun q hq => ?_, fun q hq hqt => ?_⟩
  · rw [h1.2.2 j]
    constructor
    · rintro ⟨x, y⟩
      exact ⟨x, by rw [th j x]; exact y⟩
    · rintro ⟨x, y⟩
      exact ⟨x, by rw [← th j x]; exact y⟩
  · rw [th j hj] at htj
    obtain ⟨c1, c2, c3, c4, c5⟩ := h3 j hj htj
    rw [wo j hj 3 (by decide), wo j hj 4 (by decide), eL j hj]
    refine ⟨c1, c2, fun q => ?_, fun q => ?_, c5⟩
    · rw [f5 j hj]
      obtain ⟨s', d1, d2, d3⟩ := c3 q
      by_cases e : zd_on μ (nI s) j = true
      · rw [if_pos e]
        exact ⟨o, ho, rfl, by rw [(eS o ho (Ne.symm hso)).1]; exact hot⟩
      · rw [if_neg e]
        have : s' ≠ s := fun es => e (decide_eq_true ⟨of_decide_eq_true htj, q, by rw [d2, es]⟩)
        exact ⟨s', d1, d2, by rw [(eS s' d1 this).1]; exact d3⟩
    · obtain ⟨i, d1, d2, d3, d4⟩ := c4 q
      exact ⟨i, d1, d2, d3, by rw [th i d1]; exact d4⟩
  · by_cases e : q = o
    · subst e
      have eR : zd_goR Rs s q R2 q = R2 := if_pos rfl
      have eTt : zd_goT ts s q t2 q = t2 := if_pos rfl
      rw [eR, eTt]
      refine ⟨hC, fun j => ?_, fun j hj => ?_⟩
      · rw [hR2 j, (h4 q hq).2.1 j, (h4 s hs).2.1 j]
        constructor
        · rintro (⟨d1, d2, d3⟩ | ⟨d1, d2, d3⟩)
          · refine ⟨d1, by rw [til j d1]; exact d2, ?_⟩
            rw [f5 j d1]
            split
            · rfl
            · exact d3
          · refine ⟨d1, by rw [til j d1]; exact d2, ?_⟩
            rw [f5 j d1, if_pos ((onof j d1 d2).mpr d3)]
        · rintro ⟨d1, d2, d3⟩
          rw [til j d1] at d2
          rw [f5 j d1] at d3
          by_cases z : zd_on μ (nI s) j = true
          · exact Or.inr ⟨d1, d2, (onof j d1 d2).mp z⟩
          · rw [if_neg z] at d3
            exact Or.inl ⟨d1, d2, d3⟩
      · have hj10 : j < 10 := hC.1.1.2.2 j hj
        rw [eL j hj10]
        exact h5 j hj
    · by_cases e2 : q = s
      · subst e2
        have eR : zd_goR Rs q o R2 q = [] := by
          unfold zd_goR
          rw [if_neg e, if_pos rfl]
        have eTt : zd_goT ts q o t2 q = .nil := by
          unfold zd_goT
          rw [if_neg e, if_pos rfl]
        rw [eR, eTt]
        refine ⟨hE, fun j => ⟨fun z => (by cases z), fun ⟨d1, d2, d3⟩ => ?_⟩, fun j hj => (by cases hj)⟩
        exfalso
        rw [til j d1] at d2
        rw [f5 j d1] at d3
        by_cases z : zd_on μ (nI q) j = true
        · rw [if_pos z] at d3
          exact e (inj3 hq ho d3.symm)
        · rw [if_neg z] at d3
          exact z ((onof j d1 d2).mpr d3)
      · have eR : zd_goR Rs s o R2 q = Rs q := by
          unfold zd_goR
          rw [if_neg e, if_neg e2, if_neg (by omega)]
        have eTt : zd_goT ts s o t2 q = ts q := by
          unfold zd_goT
          rw [if_neg e, if_neg e2, if_neg (by omega)]
        rw [eR, eTt]
        obtain ⟨c1, c2, c3⟩ := h4 q hq
        have r := eT q hq e2 e
        refine ⟨zt_C_19 r c1, fun j => ?_, fun j hj => ?_⟩
        · rw [c2 j]
          constructor
          · rintro ⟨d1, d2, d3⟩
            refine ⟨d1, by rw [til j d1]; exact d2, ?_⟩
            rw [f5 j d1, if_neg (fun z => e2 (inj3 hq hs (d3.symm.trans ((onof j d1 d2).mp z))))]
            exact d3
          · rintro ⟨d1, d2, d3⟩
            rw [til j d1] at d2
            rw [f5 j d1] at d3
            by_cases z : zd_on μ (nI s) j = true
            · rw [if_pos z] at d3
              exact absurd (inj3 hq ho d3.symm) e
            · rw [if_neg z] at d3
              exact ⟨d1, d2, d3⟩
        · rw [r 5 (by omega), r 6 (by omega), eL j ((c2 j).mp hj).1]
          exact c3 j hj
  · by_cases e : q = s
    · subst e
      have eR : zd_goR Rs q o R2 (3 + q) = Rs q := by
        unfold zd_goR
        rw [if_neg (by omega), if_neg (by omega), if_pos rfl]
      have eTt : zd_goT ts q o t2 (3 + q) = ts q := by
        unfold zd_goT
        rw [if_neg (by omega), if_neg (by omega), if_pos rfl]
      rw [eR, eTt]
      refine ⟨hV.1, fun _ => ⟨fS, fun j hj => ?_, fun j hj hz => ?_⟩⟩
      · obtain ⟨d1, d2, d3⟩ := ((h4 q hq).2.1 j).mp hj
        obtain ⟨b1, b2⟩ := (h4 q hq).2.2 j hj
        rw [til j d1, hV.2.2.1, hV.2.2.2.1, eL j d1]
        exact ⟨d2, b1, b2⟩
      · rw [fQ j hj] at hz
        have z : zd_loose μ (nI q) j = true := by
          cases hc : zd_loose μ (nI q) j with
          | true => rfl
          | false =>
            rw [hc, if_neg (by decide)] at hz
            exact absurd rfl hz
        obtain ⟨z1, z2, z3, z4⟩ := of_decide_eq_true z
        rw [th j hj, wo j hj 3 (by decide)]
        exact ⟨decide_eq_true z1, z4, z2⟩
    · have eR : zd_goR Rs s o R2 (3 + q) = Rs (3 + q) := by
        unfold zd_goR
        rw [if_neg (by omega), if_neg (by omega), if_neg (by omega)]
      have eTt : zd_goT ts s o t2 (3 + q) = ts (3 + q) := by
        unfold zd_goT
        rw [if_neg (by omega), if_neg (by omega), if_neg (by omega)]
      rw [eR, eTt]
      obtain ⟨c1, c2⟩ := h6 q hq
      refine ⟨zt_C_19 (eV q hq e) c1, fun z => ?_⟩
      rw [(eS q hq e).2.1] at z
      obtain ⟨b1, b2, b3⟩ := c2 z
      refine ⟨by rw [(eS q hq e).1]; exact b1, fun j hj => ?_, fun j hj hz => ?_⟩
      · have hj10 := c1.1.1.2.2 j hj
        rw [eV q hq e 5 (by omega), eV q hq e 6 (by omega), eL j hj10, til j hj10]
        exact b2 j hj
      · rw [(eS q hq e).2.2] at hz
        rw [th j hj, wo j hj 3 (by decide)]
        exact b3 j hj hz
  · by_cases e2 : q = s
    · rw [e2, fS] at hqt
      exact absurd rfl hqt
    · rw [(eS q hq e2).1] at hqt
      obtain ⟨b1, b2⟩ := h7 q hq hqt
      rw [eZ q hq]
      refine ⟨b1, ?_⟩
      by_cases e : q = o
      · subst e
        have eR : zd_goR Rs s q R2 q = R2 := if_pos rfl
        have eTt : zd_goT ts s q t2 q = t2 := if_pos rfl
        rw [eR, eTt]
        exact hfit
      · have eR : zd_goR Rs s o R2 q = Rs q := by
          unfold zd_goR
          rw [if_neg e, if_neg e2, if_neg (by omega)]
        have eTt : zd_goT ts s o t2 q = ts q := by
          unfold zd_goT
          rw [if_neg e, if_neg e2, if_neg (by omega)]
        rw [eR, eTt]
        have r := eT q hq e2 e
        rw [zt_fit_copy (A := μ) (T := zdT q) ⟨r _ (by omega), r _ (by omega), r _ (by omega), r _ (by omega), r _ (by omega), r _ (by omega)⟩ (eZ q hq)]
        exact b2
end ZGJ
