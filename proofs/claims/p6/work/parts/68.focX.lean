/-! the focus given to a window that has just come -/
section ZX1
variable {μ ν : zm_M} {row stk : List Nat} {Rs : Nat → List Nat} {ts : Nat → zy_F}
/-- all of zJ but the row -/
def zJ0 (μ : zm_M) (stk : List Nat) (Rs : Nat → List Nat) (ts : Nat → zy_F) : Prop := zJ_stk μ stk ∧ zJ_win μ ∧ zJ_tr μ Rs ts ∧ zJ_kp μ Rs ts ∧ zJ_sz μ Rs ts
theorem zJ0_til (h : zJ0 μ stk Rs ts) {k : Nat} (hk : k < 10) (ht : zd_til μ k = true) : ∃ s, s < 3 ∧ μ (zdW k) 5 = nI s ∧ k ∈ Rs s ∧ ∃ n ∈ zy_lvs (ts s), μ (zdT s + 3) k = nI n := by
  obtain ⟨h1, h2⟩ := of_decide_eq_true ht
  obtain ⟨-, -, a3, -, -⟩ := h.2.1 k hk (decide_eq_true h1)
  obtain ⟨s, hs, e, -⟩ := a3 (by rw [h2]; decide)
  have hR := ((h.2.2.1 s hs).2.1 k).mpr ⟨hk, ht, e⟩
  exact ⟨s, hs, e, hR, (h.2.2.1 s hs).1.1.2.2.2.1 k hR⟩
theorem zJ0_shw (h : zJ0 μ stk Rs ts) {k : Nat} (hk : k < 10) : ∃ s, s < 3 ∧ (zd_til μ k = true → μ (zdW k) 5 = nI s ∧ zt_I μ (zdT s) (Rs s) (ts s) ∧ k ∈ Rs s) := by
  by_cases c : zd_til μ k = true
  · obtain ⟨s, hs, e, hR, -⟩ := zJ0_til h hk c
    exact ⟨s, hs, fun _ => ⟨e, (h.2.2.1 s hs).1.1, hR⟩⟩
  · exact ⟨0, by decide, fun q => absurd q c⟩
theorem ze_giveFocusX (D : Nat) (h : zJ0 μ stk Rs ts) {k : Nat} (hk : k < 10) (ht : zd_th μ k = true) (hrow : zr_L μ 3 row) (hrn : row.Nodup) (hrm : ∀ j ∈ row, j < 10 ∧ zd_th μ j = true) (hrc : ∀ j, j < 10 → zd_th μ j = true → j ∈ row ∨ j = k) : ∃ ν stk', ze_E (D + 15) A_Desk_giveFocus [.ref 1, .int (nI k)] (zm_mk μ) none (zm_mk ν) ∧ zJ ν (k :: row.erase k) stk' Rs ts ∧ zd_foc μ ν k := by
  obtain ⟨s, hs, hsc⟩ := zJ0_shw h hk
  have hs2 := h.1.2.2
  obtain ⟨ν, stk', E, r1, ⟨q1, q2, q3⟩, f, g⟩ := ze_giveFocus (μ := μ) D hk hs hrow hrn (fun j hj => (hrm j hj).1) h.1.1 h.1.2.1 hs2 hsc
  have huniq : ∀ q, q < 3 → zd_til μ k = true → μ (zdW k) 5 = nI q → q = s := fun q hq c e => (nI_eq (by omega) (by omega)).mp (e.symm.trans (hsc c).1)
  have hfoc : zd_foc μ ν k := by
    refine ⟨fun c b a1 a2 a3 a4 a5 => f c b a1 a2 a3 a4 (fun e => a5 ⟨e.1, s, hs, (hsc e.1).1, e.2⟩), fun c q hq e => ?_⟩
    rw [huniq q hq c e]
    exact g c
  refine ⟨ν, stk', E, ?_, hfoc⟩
  obtain ⟨h2, h3, h4, h5, h6⟩ := h
  have row : ∀ c, c ≠ 3 → c ≠ 4 → c ≠ 5 → c ≠ 6 → (∀ q, q < 3 → c ≠ zdT q + 12) → ν c = μ c := fun c a1 a2 a3 a4 a5 => funext fun b => f c b a1 a2 a3 a4 (fun e => a5 s hs e.2.1)
  have eW : ∀ j, ν (zdW j) = μ (zdW j) ∨ 10 ≤ j := fun j => by
    by_cases c : j < 10
    · exact Or.inl (row _ (by unfold zdW; omega) (by unfold zdW; omega) (by unfold zdW; omega) (by unfold zdW; omega) (fun q hq => by unfold zdW zdT; omega))
    · exact Or.inr (by omega)
  have eW' : ∀ j, j < 10 → ν (zdW j) = μ (zdW j) := fun j hj => (eW j).resolve_right (by omega)
  have eL : ∀ j, j < 10 → ν (zdW j + 1) = μ (zdW j + 1) := fun j hj => row _ (by unfold zdW; omega) (by unfold zdW; omega) (by unfold zdW; omega) (by unfold zdW; omega) (fun q hq => by unfold zdW zdT; omega)
  have eT : ∀ q, q < 3 → ∀ j, j < 19 → j ≠ 12 → j ≠ 8 → ν (zdT q + j) = μ (zdT q + j) := fun q hq j hj h12 _ => row _ (by unfold zdT; omega) (by unfold zdT; omega) (by unfold zdT; omega) (by unfold zdT; omega) (fun q' hq' => by unfold zdT; omega)
  have eV : ∀ q, q < 3 → ∀ j, j < 19 → ν (zdV q + j) = μ (zdV q + j) := fun q hq j hj => row _ (by unfold zdV; omega) (by unfold zdV; omega) (by unfold zdV; omega) (by unfold zdV; omega) (fun q' hq' => by unfold zdV zdT; omega)
  have eS : ∀ q, q < 3 → ν (zdS q) = μ (zdS q) ∧ ν (zdZ q) = μ (zdZ q) ∧ ν (zdK q) = μ (zdK q) ∧ ν (zdQ q) = μ (zdQ q) := fun q hq => ⟨row _ (by unfold zdS; omega) (by unfold zdS; omega) (by unfold zdS; omega) (by unfold zdS; omega) (fun q' hq' => by unfold zdS zdT; omega), row _ (by unfold zdZ; omega) (by unfold zdZ; omega) (by unfold zdZ; omega) (by unfold zdZ; omega) (fun q' hq' => by unfold zdZ zdT; omega), row _ (by unfold zdK; omega) (by unfold zdK; omega) (by unfold zdK; omega) (by unfold zdK; omega) (fun q' hq' => by unfold zdK zdT; omega), row _ (by unfold zdQ; omega) (by unfold zdQ; omega) (by unfold zdQ; omega) (by unfold zdQ; omega) (fun q' hq' => by unfold zdQ zdT; omega)⟩
  have th : ∀ j, j < 10 → zd_th ν j = zd_th μ j := fun j hj => by unfold zd_th; rw [eW' j hj]
  have til : ∀ j, j < 10 → zd_til ν j = zd_til μ j := fun j hj => by unfold zd_til; rw [eW' j hj]
  refine ⟨⟨r1, ?_, fun j => ?_⟩, ⟨q1, q2, fun j hj => (q3 j hj).elim (hs2 j) (fun q => q.1)⟩, fun j hj hjt => ?_, fun q hq => ?_, fun q hq => ?_, fun q hq hqt => ?_⟩
  · exact List.nodup_cons.mpr ⟨fun q => ((zl_er_mem hrn).mp q).1 rfl, hrn.erase k⟩
  · rw [List.mem_cons, zl_er_mem hrn]
    constructor
    · rintro (rfl | ⟨-, q⟩)
      · exact ⟨hk, by rw [th _ hk]; exact ht⟩
      · exact ⟨(hrm j q).1, by rw [th j (hrm j q).1]; exact (hrm j q).2⟩
    · rintro ⟨a, b⟩
      by_cases e : j = k
      · exact Or.inl e
      · exact Or.inr ⟨e, (hrc j a (by rw [← th j a]; exact b)).resolve_right e⟩
  · rw [th j hj] at hjt
    obtain ⟨a1, a2, a3, a4, a5⟩ := h3 j hj hjt
    rw [eW' j hj, eL j hj]
    refine ⟨a1, a2, fun q => ?_, fun q => ?_, a5⟩
    · obtain ⟨s', b1, b2, b3⟩ := a3 q
      exact ⟨s', b1, b2, by rw [(eS s' b1).1]; exact b3⟩
    · obtain ⟨o, b1, b2, b3, b4⟩ := a4 q
      exact ⟨o, b1, b2, b3, by rw [th o b1]; exact b4⟩
  · obtain ⟨a1, a2, a3⟩ := h4 q hq
    refine ⟨zt_C_sh a1 (eT q hq) (fun n hn => ?_), fun j => ?_, fun j hj => ?_⟩
    · obtain ⟨w, hw, e1, e2⟩ := a1.1.2.2.2.2.2 n hn
      by_cases c : zd_til μ k = true ∧ q = s ∧ μ (zdT s + 3) k = nI n
      · obtain ⟨c1, rfl, c3⟩ := c
        refine ⟨k, (hsc c1).2.2, c3, ?_⟩
        have := g c1
        have hn19 := a1.1.2.1.2.2.1 n (zt_I_lv a1.1 hn).2
        rw [c3, nI_clamp (by omega)] at this
        exact this
      · refine ⟨w, hw, e1, ?_⟩
        rw [f (zdT q + 12) n (by unfold zdT; omega) (by unfold zdT; omega) (by unfold zdT; omega) (by unfold zdT; omega) (fun e => c ⟨e.1, by have := e.2.1; unfold zdT at this; omega, e.2.2.symm⟩)]
        exact e2
    · rw [a2 j]
      constructor
      · rintro ⟨b1, b2⟩
        exact ⟨b1, by rw [til j b1, eW' j b1]; exact b2⟩
      · rintro ⟨b1, b2⟩
        exact ⟨b1, by rw [til j b1, eW' j b1] at b2; exact b2⟩
    · have hj10 := ((a2 j).mp hj).1
      rw [eT q hq 5 (by omega) (by omega) (by omega), eT q hq 6 (by omega) (by omega) (by omega), eL j hj10]
      exact a3 j hj
  · obtain ⟨a1, a2⟩ := h5 q hq
    refine ⟨zt_C_19 (eV q hq) a1, fun z => ?_⟩
    rw [(eS q hq).2.2.1] at z
    obtain ⟨b1, b2, b3⟩ := a2 z
    refine ⟨by rw [(eS q hq).1]; exact b1, fun j hj => ?_, fun j hj hz => ?_⟩
    · have hj10 := a1.1.1.2.2 j hj
      rw [eV q hq 5 (by omega), eV q hq 6 (by omega), eL j hj10, til j hj10]
      exact b2 j hj
    · rw [(eS q hq).2.2.2] at hz
      rw [th j hj, eW' j hj]
      exact b3 j hj hz
  · rw [(eS q hq).1] at hqt
    obtain ⟨a1, a2⟩ := h6 q hq hqt
    rw [(eS q hq).2.1]
    refine ⟨a1, ?_⟩
    unfold zt_fit at *
    rw [zt_lsz_sh (eT q hq) (by decide), zt_lsz_sh (eT q hq) (by decide), (eS q hq).2.1]
    exact a2
end ZX1
