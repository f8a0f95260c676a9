/-! a window comes: what holds then -/
section ZX2
variable {μ ν : zm_M} {row stk : List Nat} {Rs Rs' : Nat → List Nat} {ts ts' : Nat → zy_F}
theorem zJn_out {s c : Nat} (h : s < 3) (hc : c < 7 ∨ (∃ k, k < 10 ∧ (c = zdW k ∨ c = zdW k + 1)) ∨ (∃ q, q < 3 ∧ (c = zdS q ∨ c = zdZ q ∨ c = zdK q ∨ c = zdQ q ∨ ∃ j, j < 19 ∧ c = zdV q + j)) ∨ 231 ≤ c) : zt_out (zdT s) c := by
  unfold zt_out zdT
  rcases hc with h | ⟨k, hk, h | h⟩ | ⟨q, hq, h | h | h | h | ⟨j, hj, h⟩⟩ | h
  · omega
  · unfold zdW at h; omega
  · unfold zdW at h; omega
  · unfold zdS at h; omega
  · unfold zdZ at h; omega
  · unfold zdK at h; omega
  · unfold zdQ at h; omega
  · unfold zdV at h; omega
  · omega
theorem zJ0_come (h : zJ μ row stk Rs ts) {k : Nat} (hk : k < 10) (hnt : zd_th μ k = false) {kd o w v : Int32} (w2 : ν (zdW k) 2 = 1) (w3 : ν (zdW k) 3 = kd) (w4 : ν (zdW k) 4 = o) (l0 : ν (zdW k + 1) 0 = w) (l1 : ν (zdW k + 1) 1 = v)
    (f : ∀ c, ¬ zJ_irr c → c ≠ zdW k → c ≠ zdW k + 1 → (∀ q, q < 3 → zt_out (zdT q) c) → ν c = μ c)
    (hkd : kd = 1 ∨ kd = 2 ∨ kd = 3 ∨ kd = 4) (hsz : 1 ≤ w ∧ w ≤ 200 ∧ 1 ≤ v ∧ v ≤ 200) (hscr : ¬ kd = 4 → ∃ s, s < 3 ∧ ν (zdW k) 5 = nI s ∧ ¬ μ (zdS s) 3 = 0) (ho3 : kd = 3 → ∃ j, j < 10 ∧ o = nI j ∧ zd_th μ j = true) (ho : ¬ kd = 3 → o = -1)
    (hT : ∀ q, q < 3 → zt_C ν (zdT q) (Rs' q) (ts' q) ∧ (∀ j, j ∈ Rs' q ↔ (j ∈ Rs q ∨ (j = k ∧ kd = 1 ∧ ν (zdW k) 5 = nI q))) ∧ (∀ j ∈ Rs q, ν (zdT q + 5) j = μ (zdT q + 5) j ∧ ν (zdT q + 6) j = μ (zdT q + 6) j) ∧ (k ∈ Rs' q → ν (zdT q + 5) k = w ∧ ν (zdT q + 6) k = v))
    (hfit : ∀ q, q < 3 → ¬ μ (zdS q) 3 = 0 → zt_fit ν (zdT q) (zdZ q) (Rs' q) (ts' q) = true) (hRk : ∀ q, q < 3 → Rs' (3 + q) = Rs (3 + q) ∧ ts' (3 + q) = ts (3 + q)) : zJ0 ν stk Rs' ts' := by
  obtain ⟨h1, h2, h3, h4, h5, h6⟩ := h
  have eW : ∀ j, j < 10 → j ≠ k → ν (zdW j) = μ (zdW j) := fun j hj hne => f _ (zJn_W hj).1 (fun e => hne (zdW_inj e)) (by unfold zdW; omega) (fun q hq => zJn_out hq (Or.inr (Or.inl ⟨j, hj, Or.inl rfl⟩)))
  have eL : ∀ j, j < 10 → j ≠ k → ν (zdW j + 1) = μ (zdW j + 1) := fun j hj hne => f _ (zJn_W hj).2 (by unfold zdW; omega) (by unfold zdW; omega) (fun q hq => zJn_out hq (Or.inr (Or.inl ⟨j, hj, Or.inr rfl⟩)))
  have eS : ∀ q, q < 3 → ν (zdS q) = μ (zdS q) ∧ ν (zdZ q) = μ (zdZ q) ∧ ν (zdK q) = μ (zdK q) ∧ ν (zdQ q) = μ (zdQ q) := fun q hq => ⟨f _ (zJn_S hq).1 (by unfold zdS zdW; omega) (by unfold zdS zdW; omega) (fun q' hq' => zJn_out hq' (Or.inr (Or.inr (Or.inl ⟨q, hq, Or.inl rfl⟩)))), f _ (zJn_S hq).2.1 (by unfold zdZ zdW; omega) (by unfold zdZ zdW; omega) (fun q' hq' => zJn_out hq' (Or.inr (Or.inr (Or.inl ⟨q, hq, Or.inr (Or.inl rfl)⟩)))), f _ (zJn_S hq).2.2.1 (by unfold zdK zdW; omega) (by unfold zdK zdW; omega) (fun q' hq' => zJn_out hq' (Or.inr (Or.inr (Or.inl ⟨q, hq, Or.inr (Or.inr (Or.inl rfl))⟩)))), f _ (zJn_S hq).2.2.2 (by unfold zdQ zdW; omega) (by unfold zdQ zdW; omega) (fun q' hq' => zJn_out hq' (Or.inr (Or.inr (Or.inl ⟨q, hq, Or.inr (Or.inr (Or.inr (Or.inl rfl)))⟩))))⟩
  have eV : ∀ q, q < 3 → ∀ j, j < 19 → ν (zdV q + j) = μ (zdV q + j) := fun q hq j hj => f _ (zJn_T hq hj).2 (by unfold zdV zdW; omega) (by unfold zdV zdW; omega) (fun q' hq' => zJn_out hq' (Or.inr (Or.inr (Or.inl ⟨q, hq, Or.inr (Or.inr (Or.inr (Or.inr ⟨j, hj, rfl⟩)))⟩))))
  have e0 : ∀ c, c < 7 → ν c = μ c := fun c hc => f c (zJn_0 hc) (by unfold zdW; omega) (by unfold zdW; omega) (fun q hq => zJn_out hq (Or.inl hc))
  have th : ∀ j, j < 10 → j ≠ k → zd_th ν j = zd_th μ j := fun j hj hne => by unfold zd_th; rw [eW j hj hne]
  have til : ∀ j, j < 10 → j ≠ k → zd_til ν j = zd_til μ j := fun j hj hne => by unfold zd_til; rw [eW j hj hne]
  have thk : zd_th ν k = true := decide_eq_true (by rw [w2]; decide)
  have ne_of_th : ∀ j, zd_th μ j = true → j ≠ k := fun j q e => by rw [e, hnt] at q; cases q
  have ne_of_til : ∀ j, zd_til μ j = true → j ≠ k := fun j q => ne_of_th j (decide_eq_true (of_decide_eq_true q).1)
  have tilk : zd_til ν k = true ↔ kd = 1 := by
    unfold zd_til
    rw [decide_eq_true_iff, w2, w3]
    exact ⟨fun q => q.2, fun q => ⟨by decide, q⟩⟩
  refine ⟨⟨zr_L_congr (e0 _ (by decide)) (e0 _ (by decide)) h2.1, h2.2⟩, fun j hj ht => ?_, fun q hq => ?_, fun q hq => ?_, fun q hq ht => ?_⟩
  · by_cases e : j = k
    · subst e
      rw [w3, w4, l0, l1]
      refine ⟨hkd, hsz, fun q => ?_, fun q => ?_, ho⟩
      · obtain ⟨s, b1, b2, b3⟩ := hscr q
        exact ⟨s, b1, b2, by rw [(eS s b1).1]; exact b3⟩
      · obtain ⟨i, b1, b2, b3⟩ := ho3 q
        have := ne_of_th i b3
        exact ⟨i, b1, this, b2, by rw [th i b1 this]; exact b3⟩
    · rw [th j hj e] at ht
      obtain ⟨a1, a2, a3, a4, a5⟩ := h3 j hj ht
      rw [eW j hj e, eL j hj e]
      refine ⟨a1, a2, fun q => ?_, fun q => ?_, a5⟩
      · obtain ⟨s, b1, b2, b3⟩ := a3 q
        exact ⟨s, b1, b2, by rw [(eS s b1).1]; exact b3⟩
      · obtain ⟨i, b1, b2, b3, b4⟩ := a4 q
        exact ⟨i, b1, b2, b3, by rw [th i b1 (ne_of_th i b4)]; exact b4⟩
  · obtain ⟨t1, t2, t3, t4⟩ := hT q hq
    obtain ⟨a1, a2, a3⟩ := h4 q hq
    refine ⟨t1, fun j => ?_, fun j hj => ?_⟩
    · rw [t2 j]
      constructor
      · rintro (hj | ⟨rfl, b1, b2⟩)
        · obtain ⟨b1, b2, b3⟩ := (a2 j).mp hj
          have := ne_of_til j b2
          exact ⟨b1, by rw [til j b1 this]; exact b2, by rw [eW j b1 this]; exact b3⟩
        · exact ⟨hk, tilk.mpr b1, b2⟩
      · rintro ⟨b1, b2, b3⟩
        by_cases e : j = k
        · subst e
          exact Or.inr ⟨rfl, tilk.mp b2, b3⟩
        · rw [til j b1 e] at b2
          rw [eW j b1 e] at b3
          exact Or.inl ((a2 j).mpr ⟨b1, b2, b3⟩)
    · by_cases e : j = k
      · subst e
        rw [l0, l1]
        exact t4 hj
      · have hjR : j ∈ Rs q := ((t2 j).mp hj).resolve_right (fun q => e q.1)
        have hj10 := ((a2 j).mp hjR).1
        rw [(t3 j hjR).1, (t3 j hjR).2, eL j hj10 e]
        exact a3 j hjR
  · obtain ⟨a1, a2⟩ := h5 q hq
    rw [(hRk q hq).1, (hRk q hq).2]
    refine ⟨zt_C_19 (eV q hq) a1, fun z => ?_⟩
    rw [(eS q hq).2.2.1] at z
    obtain ⟨b1, b2, b3⟩ := a2 z
    refine ⟨by rw [(eS q hq).1]; exact b1, fun j hj => ?_, fun j hj hz => ?_⟩
    · have hj10 := a1.1.1.2.2 j hj
      have hne := ne_of_til j (b2 j hj).1
      rw [eV q hq 5 (by omega), eV q hq 6 (by omega), eL j hj10 hne, til j hj10 hne]
      exact b2 j hj
    · rw [(eS q hq).2.2.2] at hz
      have hne := ne_of_th j (b3 j hj hz).1
      rw [th j hj hne, eW j hj hne]
      exact b3 j hj hz
  · rw [(eS q hq).1] at ht
    obtain ⟨a1, -⟩ := h6 q hq ht
    rw [(eS q hq).2.1]
    exact ⟨a1, hfit q hq ht⟩
/-- a window that is not there is nothing -/
theorem zJ_free (h : zJ μ row stk Rs ts) {k : Nat} (hk : k < 10) (hnt : zd_th μ k = false) (w2 : ν (zdW k) 2 = μ (zdW k) 2) (f : ∀ c, ¬ zJ_irr c → c ≠ zdW k → c ≠ zdW k + 1 → ν c = μ c) : zJ ν row stk Rs ts := by
  obtain ⟨h1, h2, h3, h4, h5, h6⟩ := h
  have eW : ∀ j, j < 10 → j ≠ k → ν (zdW j) = μ (zdW j) := fun j hj hne => f _ (zJn_W hj).1 (fun e => hne (zdW_inj e)) (by unfold zdW; omega)
  have eL : ∀ j, j < 10 → j ≠ k → ν (zdW j + 1) = μ (zdW j + 1) := fun j hj hne => f _ (zJn_W hj).2 (by unfold zdW; omega) (by unfold zdW; omega)
  have eT : ∀ q, q < 3 → ∀ j, j < 19 → ν (zdT q + j) = μ (zdT q + j) := fun q hq j hj => f _ (zJn_T hq hj).1 (by unfold zdT zdW; omega) (by unfold zdT zdW; omega)
  have eV : ∀ q, q < 3 → ∀ j, j < 19 → ν (zdV q + j) = μ (zdV q + j) := fun q hq j hj => f _ (zJn_T hq hj).2 (by unfold zdV zdW; omega) (by unfold zdV zdW; omega)
  have eS : ∀ q, q < 3 → ν (zdS q) = μ (zdS q) ∧ ν (zdZ q) = μ (zdZ q) ∧ ν (zdK q) = μ (zdK q) ∧ ν (zdQ q) = μ (zdQ q) := fun q hq => ⟨f _ (zJn_S hq).1 (by unfold zdS zdW; omega) (by unfold zdS zdW; omega), f _ (zJn_S hq).2.1 (by unfold zdZ zdW; omega) (by unfold zdZ zdW; omega), f _ (zJn_S hq).2.2.1 (by unfold zdK zdW; omega) (by unfold zdK zdW; omega), f _ (zJn_S hq).2.2.2 (by unfold zdQ zdW; omega) (by unfold zdQ zdW; omega)⟩
  have e0 : ∀ c, c < 7 → ν c = μ c := fun c hc => f c (zJn_0 hc) (by unfold zdW; omega) (by unfold zdW; omega)
  have thk : zd_th ν k = false := by
    unfold zd_th at *
    rw [w2]
    exact hnt
  have th : ∀ j, j < 10 → zd_th ν j = zd_th μ j := fun j hj => by
    by_cases e : j = k
    · rw [e, thk, hnt]
    · unfold zd_th
      rw [eW j hj e]
  have ne_of_th : ∀ j, zd_th μ j = true → j ≠ k := fun j q e => by rw [e, hnt] at q; cases q
  have til : ∀ j, j < 10 → zd_til ν j = zd_til μ j := fun j hj => by
    by_cases e : j = k
    · have a1 : zd_til ν k = false := decide_eq_false (fun q => by
        have : zd_th ν k = true := decide_eq_true q.1
        rw [thk] at this
        cases this)
      have a2 : zd_til μ k = false := decide_eq_false (fun q => by
        have : zd_th μ k = true := decide_eq_true q.1
        rw [hnt] at this
        cases this)
      rw [e, a1, a2]
    · unfold zd_til
      rw [eW j hj e]
  have ne_of_til : ∀ j, zd_til μ j = true → j ≠ k := fun j q => ne_of_th j (decide_eq_true (of_decide_eq_true q).1)
  refine ⟨⟨zr_L_congr (e0 _ (by decide)) (e0 _ (by decide)) h1.1, h1.2.1, fun j => ?_⟩, ⟨zr_L_congr (e0 _ (by decide)) (e0 _ (by decide)) h2.1, h2.2⟩, fun j hj ht => ?_, fun q hq => ?_, fun q hq => ?_, fun q hq ht => ?_⟩
  · rw [h1.2.2 j]
    constructor
    · rintro ⟨a, b⟩
      exact ⟨a, by rw [th j a]; exact b⟩
    · rintro ⟨a, b⟩
      exact ⟨a, by rw [← th j a]; exact b⟩
  · rw [th j hj] at ht
    have e := ne_of_th j ht
    obtain ⟨a1, a2, a3, a4, a5⟩ := h3 j hj ht
    rw [eW j hj e, eL j hj e]
    refine ⟨a1, a2, fun q => ?_, fun q => ?_, a5⟩
    · obtain ⟨s, b1, b2, b3⟩ := a3 q
      exact ⟨s, b1, b2, by rw [(eS s b1).1]; exact b3⟩
    · obtain ⟨i, b1, b2, b3, b4⟩ := a4 q
      exact ⟨i, b1, b2, b3, by rw [th i b1]; exact b4⟩
  · obtain ⟨a1, a2, a3⟩ := h4 q hq
    refine ⟨zt_C_19 (eT q hq) a1, fun j => ?_, fun j hj => ?_⟩
    · rw [a2 j]
      constructor
      · rintro ⟨b1, b2, b3⟩
        have e := ne_of_til j b2
        exact ⟨b1, by rw [til j b1]; exact b2, by rw [eW j b1 e]; exact b3⟩
      · rintro ⟨b1, b2, b3⟩
        rw [til j b1] at b2
        have e := ne_of_til j b2
        rw [eW j b1 e] at b3
        exact ⟨b1, b2, b3⟩
    · obtain ⟨b1, b2, b3⟩ := (a2 j).mp hj
      rw [eT q hq 5 (by omega), eT q hq 6 (by omega), eL j b1 (ne_of_til j b2)]
      exact a3 j hj
  · obtain ⟨a1, a2⟩ := h5 q hq
    refine ⟨zt_C_19 (eV q hq) a1, fun z => ?_⟩
    rw [(eS q hq).2.2.1] at z
    obtain ⟨b1, b2, b3⟩ := a2 z
    refine ⟨by rw [(eS q hq).1]; exact b1, fun j hj => ?_, fun j hj hz => ?_⟩
    · have hj10 := a1.1.1.2.2 j hj
      rw [eV q hq 5 (by omega), eV q hq 6 (by omega), eL j hj10 (ne_of_til j (b2 j hj).1), til j hj10]
      exact b2 j hj
    · rw [(eS q hq).2.2.2] at hz
      have hne := ne_of_th j (b3 j hj hz).1
      rw [th j hj, eW j hj hne]
      exact b3 j hj hz
  · rw [(eS q hq).1] at ht
    obtain ⟨a1, a2⟩ := h6 q hq ht
    rw [(eS q hq).2.1]
    refine ⟨a1, ?_⟩
    unfold zt_fit at *
    rw [zt_lsz_19 (eT q hq) (by decide), zt_lsz_19 (eT q hq) (by decide), (eS q hq).2.1]
    exact a2
end ZX2
