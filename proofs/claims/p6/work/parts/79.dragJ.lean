/-! a drag keeps what holds -/
section ZDJ
variable {μ ν : zm_M} {row stk : List Nat} {Rs : Nat → List Nat} {ts : Nat → zy_F}
/-- the tabs and nodes behind a drag of k from the screen a to b -/
def zd_drR (Rs : Nat → List Nat) (k a b : Nat) (R2 : List Nat) : Nat → List Nat := fun q => if q = b then R2 else if q = a then (Rs a).erase k else Rs q
def zd_drT (μ : zm_M) (Rs : Nat → List Nat) (ts : Nat → zy_F) (k a b n : Nat) (t2 : zy_F) : Nat → zy_F := fun q => if q = b then t2 else if q = a then (if (zt_tb μ (zdT a) (Rs a) n).erase k = [] then zy_out n (ts a) else ts a) else ts q
theorem zJ_drag (h : zJ μ row stk Rs ts) {k a b n : Nat} (hk : k < 10) (ha : a < 3) (hb : b < 3) (hbt : ¬ μ (zdS b) 3 = 0) (ht : zd_til μ k = true) (hsa : μ (zdW k) 5 = nI a) (hn : n ∈ zy_lvs (ts a)) {G : Nat → Bool} (hGk : G k = true) (hGt : ∀ j, j < 10 → G j = true → zd_til μ j = true → j = k) {R2 : List Nat} {t2 : zy_F}
    (f : ∀ c d, ¬ zJ_irr c → zt_out (zdT a) c → zt_out (zdT b) c → (∀ q, q < 3 → c = zdK q → d ≠ 3) → (∀ j, j < 10 → c = zdW j → d ≠ 5) → ν c d = μ c d) (fK : ∀ q, q < 3 → ν (zdK q) 3 = if zd_has μ q k = true then 0 else μ (zdK q) 3)
    (f5 : ∀ j, j < 10 → ν (zdW j) 5 = if ¬ a = b ∧ G j = true then nI b else μ (zdW j) 5) (hO : ¬ a = b → zt_isOut μ (zdT a) (Rs a) (ts a) n k ν (zdT a)) (hC : zt_C ν (zdT b) R2 t2) (hR2 : ∀ j, j ∈ R2 ↔ (j ∈ Rs b ∨ j = k)) (h5 : ∀ j ∈ R2, ν (zdT b + 5) j = μ (zdW j + 1) 0 ∧ ν (zdT b + 6) j = μ (zdW j + 1) 1) (hfit : zt_fit ν (zdT b) (zdZ b) R2 t2 = true) :
    zJ ν row stk (zd_drR Rs k a b R2) (zd_drT μ Rs ts k a b n t2) := by
  have hw := h
  obtain ⟨h1, h2, h3, h4, h6, h7⟩ := h
  have wo : ∀ j, j < 10 → ∀ d, d ≠ 5 → ν (zdW j) d = μ (zdW j) d := fun j hj d hd => f _ _ (zJn_W hj).1 (zJn_out ha (Or.inr (Or.inl ⟨j, hj, Or.inl rfl⟩))) (zJn_out hb (Or.inr (Or.inl ⟨j, hj, Or.inl rfl⟩))) (fun q hq e => by unfold zdW zdK at e; omega) (fun _ _ _ => hd)
  have eL : ∀ j, j < 10 → ν (zdW j + 1) = μ (zdW j + 1) := fun j hj => funext fun d => f _ _ (zJn_W hj).2 (zJn_out ha (Or.inr (Or.inl ⟨j, hj, Or.inr rfl⟩))) (zJn_out hb (Or.inr (Or.inl ⟨j, hj, Or.inr rfl⟩))) (fun q hq e => by unfold zdW zdK at e; omega) (fun j' hj' e => by unfold zdW at e; omega)
  have eV : ∀ q, q < 3 → ∀ j, j < 19 → ν (zdV q + j) = μ (zdV q + j) := fun q hq j hj => funext fun d => f _ _ (zJn_T hq hj).2 (zJn_out ha (Or.inr (Or.inr (Or.inl ⟨q, hq, Or.inr (Or.inr (Or.inr (Or.inr ⟨j, hj, rfl⟩)))⟩)))) (zJn_out hb (Or.inr (Or.inr (Or.inl ⟨q, hq, Or.inr (Or.inr (Or.inr (Or.inr ⟨j, hj, rfl⟩)))⟩)))) (fun q hq e => by unfold zdV zdK at e; omega) (fun j' hj' e => by unfold zdV zdW at e; omega)
  have eS : ∀ q, q < 3 → ν (zdS q) = μ (zdS q) ∧ ν (zdZ q) = μ (zdZ q) ∧ ν (zdQ q) = μ (zdQ q) := fun q hq => ⟨funext fun d => f _ _ (zJn_S hq).1 (zJn_out ha (Or.inr (Or.inr (Or.inl ⟨q, hq, Or.inl rfl⟩)))) (zJn_out hb (Or.inr (Or.inr (Or.inl ⟨q, hq, Or.inl rfl⟩)))) (fun q hq e => by unfold zdS zdK at e; omega) (fun j' hj' e => by unfold zdS zdW at e; omega), funext fun d => f _ _ (zJn_S hq).2.1 (zJn_out ha (Or.inr (Or.inr (Or.inl ⟨q, hq, Or.inr (Or.inl rfl)⟩)))) (zJn_out hb (Or.inr (Or.inr (Or.inl ⟨q, hq, Or.inr (Or.inl rfl)⟩)))) (fun q hq e => by unfold zdZ zdK at e; omega) (fun j' hj' e => by unfold zdZ zdW at e; omega), funext fun d => f _ _ (zJn_S hq).2.2.2 (zJn_out ha (Or.inr (Or.inr (Or.inl ⟨q, hq, Or.inr (Or.inr (Or.inr (Or.inl rfl)))⟩)))) (zJn_out hb (Or.inr (Or.inr (Or.inl ⟨q, hq, Or.inr (Or.inr (Or.inr (Or.inl rfl)))⟩)))) (fun q hq e => by unfold zdQ zdK at e; omega) (fun j' hj' e => by unfold zdQ zdW at e; omega)⟩
  have e0 : ∀ c, c < 7 → ν c = μ c := fun c hc => funext fun d => f _ _ (zJn_0 hc) (zJn_out ha (Or.inl hc)) (zJn_out hb (Or.inl hc)) (fun q hq e => by unfold zdK at e; omega) (fun j' hj' e => by unfold zdW at e; omega)
  have eT : ∀ q, q < 3 → q ≠ a → q ≠ b → ∀ j, j < 19 → ν (zdT q + j) = μ (zdT q + j) := fun q hq n1 n2 j hj => funext fun d => f _ _ (zJn_T hq hj).1 (by unfold zt_out zdT; omega) (by unfold zt_out zdT; omega) (fun q hq e => by unfold zdT zdK at e; omega) (fun j' hj' e => by unfold zdT zdW at e; omega)
  have th : ∀ j, j < 10 → zd_th ν j = zd_th μ j := fun j hj => by unfold zd_th; rw [wo j hj 2 (by decide)]
  have til : ∀ j, j < 10 → zd_til ν j = zd_til μ j := fun j hj => by unfold zd_til; rw [wo j hj 2 (by decide), wo j hj 3 (by decide)]
  have scr : ∀ j, j < 10 → zd_til μ j = true → j ≠ k → ν (zdW j) 5 = μ (zdW j) 5 := fun j hj q hne => by
    rw [f5 j hj, if_neg (fun z => hne (hGt j hj z.2 q))]
  have scrk : ν (zdW k) 5 = nI b := by
    rw [f5 k hk]
    by_cases e : a = b
    · rw [if_neg (fun z => z.1 e), hsa, e]
    · rw [if_pos ⟨e, hGk⟩]
  have inj3 : ∀ {x y : Nat}, x < 3 → y < 3 → nI x = nI y → x = y := fun hx hy e => (nI_eq (by omega) (by omega)).mp e
  refine ⟨⟨zr_L_congr (e0 _ (by decide)) (e0 _ (by decide)) h1.1, h1.2.1, fun j => ?_⟩, ⟨zr_L_congr (e0 _ (by decide)) (e0 _ (by decide)) h2.1, h2.2⟩, fun j hj htj => ?_, fun q hq => ?_, fun q hq => ?_, fun q hq hqt => ?_⟩
  · rw [h1.2.2 j]
    constructor
    · rintro ⟨x, y⟩
      exact ⟨x, by rw [th j x]; exact y⟩
    · rintro ⟨x, y⟩
      exact ⟨x, by rw [← th j x]; exact y⟩
  · rw [th j hj] at htj
    obtain ⟨c1, c2, c3, c4, c5⟩ := h3 j hj htj
    rw [wo j hj 3 (by decide), wo j hj 4 (by decide), eL j hj]
    refine ⟨c1, c2, fun q => ?_, fun q => ?_, c5⟩
    · rw [f5 j hj]
      by_cases e : ¬ a = b ∧ G j = true
      · rw [if_pos e]
        exact ⟨b, hb, rfl, by rw [(eS b hb).1]; exact hbt⟩
      · rw [if_neg e]
        obtain ⟨s', d1, d2, d3⟩ := c3 q
        exact ⟨s', d1, d2, by rw [(eS s' d1).1]; exact d3⟩
    · obtain ⟨o, d1, d2, d3, d4⟩ := c4 q
      exact ⟨o, d1, d2, d3, by rw [th o d1]; exact d4⟩
  · obtain ⟨c1, c2, c3⟩ := h4 q hq
    by_cases e : q = b
    · subst e
      have eR : zd_drR Rs k a q R2 q = R2 := if_pos rfl
      have eTt : zd_drT μ Rs ts k a q n t2 q = t2 := if_pos rfl
      rw [eR, eTt]
      refine ⟨hC, fun j => ?_, fun j hj => ?_⟩
      · rw [hR2 j]
        constructor
        · intro z
          by_cases ej : j = k
          · subst ej
            exact ⟨hk, by rw [til j hk]; exact ht, scrk⟩
          · obtain ⟨d1, d2, d3⟩ := (c2 j).mp (z.resolve_right ej)
            exact ⟨d1, by rw [til j d1]; exact d2, by rw [scr j d1 d2 ej]; exact d3⟩
        · rintro ⟨d1, d2, d3⟩
          by_cases ej : j = k
          · exact Or.inr ej
          · rw [til j d1] at d2
            rw [scr j d1 d2 ej] at d3
            exact Or.inl ((c2 j).mpr ⟨d1, d2, d3⟩)
      · have hj10 : j < 10 := hC.1.1.2.2 j hj
        rw [eL j hj10]
        exact h5 j hj
    · by_cases e2 : q = a
      · subst e2
        have hab : ¬ q = b := e
        obtain ⟨o1, o2, o3, o4, o5, o6, o7⟩ := hO hab
        have eR : zd_drR Rs k q b R2 q = (Rs q).erase k := by
          unfold zd_drR
          rw [if_neg e, if_pos rfl]
        have eTt : zd_drT μ Rs ts k q b n t2 q = if (zt_tb μ (zdT q) (Rs q) n).erase k = [] then zy_out n (ts q) else ts q := by
          unfold zd_drT
          rw [if_neg e, if_pos rfl]
        rw [eR, eTt]
        have hnd := c1.1.1.2.1
        refine ⟨o1, fun j => ?_, fun j hj => ?_⟩
        · rw [zl_er_mem hnd, c2 j]
          constructor
          · rintro ⟨d0, d1, d2, d3⟩
            exact ⟨d1, by rw [til j d1]; exact d2, by rw [scr j d1 d2 d0]; exact d3⟩
          · rintro ⟨d1, d2, d3⟩
            rw [til j d1] at d2
            have ej : j ≠ k := fun ej => by
              rw [ej, scrk] at d3
              exact e (inj3 hq hb d3.symm)
            rw [scr j d1 d2 ej] at d3
            exact ⟨ej, d1, d2, d3⟩
        · have hjR := ((zl_er_mem hnd).mp hj).2
          rw [o3, o4, eL j ((c2 j).mp hjR).1]
          exact c3 j hjR
      · have eR : zd_drR Rs k a b R2 q = Rs q := by
          unfold zd_drR
          rw [if_neg e, if_neg e2]
        have eTt : zd_drT μ Rs ts k a b n t2 q = ts q := by
          unfold zd_drT
          rw [if_neg e, if_neg e2]
        rw [eR, eTt]
        have r := eT q hq e2 e
        refine ⟨zt_C_19 r c1, fun j => ?_, fun j hj => ?_⟩
        · rw [c2 j]
          constructor
          · rintro ⟨d1, d2, d3⟩
            have ej : j ≠ k := fun ej => by
              rw [ej, hsa] at d3
              exact e2 (inj3 hq ha d3.symm)
            exact ⟨d1, by rw [til j d1]; exact d2, by rw [scr j d1 d2 ej]; exact d3⟩
          · rintro ⟨d1, d2, d3⟩
            rw [til j d1] at d2
            have ej : j ≠ k := fun ej => by
              rw [ej, scrk] at d3
              exact e (inj3 hq hb d3.symm)
            rw [scr j d1 d2 ej] at d3
            exact ⟨d1, d2, d3⟩
        · rw [r 5 (by omega), r 6 (by omega), eL j ((c2 j).mp hj).1]
          exact c3 j hj
  · have eR : zd_drR Rs k a b R2 (3 + q) = Rs (3 + q) := by
      unfold zd_drR
      rw [if_neg (by omega), if_neg (by omega)]
    have eTt : zd_drT μ Rs ts k a b n t2 (3 + q) = ts (3 + q) := by
      unfold zd_drT
      rw [if_neg (by omega), if_neg (by omega)]
    rw [eR, eTt]
    obtain ⟨c1, c2⟩ := h6 q hq
    refine ⟨zt_C_19 (eV q hq) c1, fun z => ?_⟩
    have z' : ¬ μ (zdK q) 3 = 0 := fun e => z (by rw [fK q hq, e]; split <;> rfl)
    obtain ⟨b1, b2, b3⟩ := c2 z'
    refine ⟨by rw [(eS q hq).1]; exact b1, fun j hj => ?_, fun j hj hz => ?_⟩
    · have hj10 := c1.1.1.2.2 j hj
      rw [eV q hq 5 (by omega), eV q hq 6 (by omega), eL j hj10, til j hj10]
      exact b2 j hj
    · rw [(eS q hq).2.2] at hz
      rw [th j hj, wo j hj 3 (by decide)]
      exact b3 j hj hz
  · rw [(eS q hq).1] at hqt
    obtain ⟨b1, b2⟩ := h7 q hq hqt
    rw [(eS q hq).2.1]
    refine ⟨b1, ?_⟩
    by_cases e : q = b
    · subst e
      have eR : zd_drR Rs k a q R2 q = R2 := if_pos rfl
      have eTt : zd_drT μ Rs ts k a q n t2 q = t2 := if_pos rfl
      rw [eR, eTt]
      exact hfit
    · by_cases e2 : q = a
      · subst e2
        have eR : zd_drR Rs k q b R2 q = (Rs q).erase k := by
          unfold zd_drR
          rw [if_neg e, if_pos rfl]
        have eTt : zd_drT μ Rs ts k q b n t2 q = if (zt_tb μ (zdT q) (Rs q) n).erase k = [] then zy_out n (ts q) else ts q := by
          unfold zd_drT
          rw [if_neg e, if_pos rfl]
        rw [eR, eTt]
        exact zt_fit_out (h4 q hq).1 (zJ_sm hw hq) hn (hO e) (eS q hq).2.1 b2
      · have eR : zd_drR Rs k a b R2 q = Rs q := by
          unfold zd_drR
          rw [if_neg e, if_neg e2]
        have eTt : zd_drT μ Rs ts k a b n t2 q = ts q := by
          unfold zd_drT
          rw [if_neg e, if_neg e2]
        rw [eR, eTt]
        have r := eT q hq e2 e
        rw [zt_fit_copy (A := μ) (T := zdT q) ⟨r _ (by omega), r _ (by omega), r _ (by omega), r _ (by omega), r _ (by omega), r _ (by omega)⟩ (eS q hq).2.1]
        exact b2
end ZDJ
