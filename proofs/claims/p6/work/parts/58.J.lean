/-! what holds of the desk between calls -/
/-- cells that no answer of ours rests on -/
def zJ_irr (c : Nat) : Prop := (7 ≤ c ∧ c < 36) ∨ (38 ≤ c ∧ c < 66 ∧ (c - 38) % 3 = 0) ∨ (66 ≤ c ∧ c < 231 ∧ ((c - 66) % 55 = 21 ∨ (c - 66) % 55 = 22 ∨ (c - 66) % 55 = 24 ∨ (c - 66) % 55 = 25 ∨ (c - 66) % 55 = 46 ∨ (c - 66) % 55 = 47 ∨ (c - 66) % 55 = 49 ∨ (c - 66) % 55 = 50 ∨ (c - 66) % 55 = 52 ∨ (c - 66) % 55 = 53))
def zJ_eqv (μ ν : zm_M) : Prop := ∀ c, ¬ zJ_irr c → ν c = μ c
theorem zJ_eqv.trans {μ ν ξ : zm_M} (h : zJ_eqv μ ν) (g : zJ_eqv ν ξ) : zJ_eqv μ ξ := fun c hc => (g c hc).trans (h c hc)
theorem zJ_eqv.refl {μ : zm_M} : zJ_eqv μ μ := fun _ _ => rfl
theorem zJn_W {k : Nat} (h : k < 10) : ¬ zJ_irr (zdW k) ∧ ¬ zJ_irr (zdW k + 1) := by
  unfold zJ_irr zdW
  constructor <;> omega
theorem zJn_T {s j : Nat} (h : s < 3) (hj : j < 19) : ¬ zJ_irr (zdT s + j) ∧ ¬ zJ_irr (zdV s + j) := by
  unfold zJ_irr zdT zdV
  constructor <;> omega
theorem zJn_S {s : Nat} (h : s < 3) : ¬ zJ_irr (zdS s) ∧ ¬ zJ_irr (zdZ s) ∧ ¬ zJ_irr (zdK s) ∧ ¬ zJ_irr (zdQ s) := by
  unfold zJ_irr zdS zdZ zdK zdQ
  refine ⟨?_, ?_, ?_, ?_⟩ <;> omega
theorem zJn_0 {c : Nat} (h : c < 7) : ¬ zJ_irr c := by
  unfold zJ_irr
  omega
theorem zJn_M {c : Nat} (h : 231 ≤ c) : ¬ zJ_irr c := by
  unfold zJ_irr
  omega
section ZJ1
variable {μ ν : zm_M} {row stk : List Nat} {Rs : Nat → List Nat} {ts : Nat → zy_F}
def zJ_row (μ : zm_M) (row : List Nat) : Prop := zr_L μ 3 row ∧ row.Nodup ∧ ∀ k, k ∈ row ↔ (k < 10 ∧ zd_th μ k = true)
def zJ_stk (μ : zm_M) (stk : List Nat) : Prop := zr_L μ 5 stk ∧ stk.Nodup ∧ ∀ k ∈ stk, k < 10
def zJ_win (μ : zm_M) : Prop := ∀ k, k < 10 → zd_th μ k = true → (μ (zdW k) 3 = 1 ∨ μ (zdW k) 3 = 2 ∨ μ (zdW k) 3 = 3 ∨ μ (zdW k) 3 = 4) ∧ (1 ≤ μ (zdW k + 1) 0 ∧ μ (zdW k + 1) 0 ≤ 200 ∧ 1 ≤ μ (zdW k + 1) 1 ∧ μ (zdW k + 1) 1 ≤ 200) ∧
  (¬ μ (zdW k) 3 = 4 → ∃ s, s < 3 ∧ μ (zdW k) 5 = nI s ∧ ¬ μ (zdS s) 3 = 0) ∧ (μ (zdW k) 3 = 3 → ∃ o, o < 10 ∧ o ≠ k ∧ μ (zdW k) 4 = nI o ∧ zd_th μ o = true) ∧ (¬ μ (zdW k) 3 = 3 → μ (zdW k) 4 = -1)
def zJ_tr (μ : zm_M) (Rs : Nat → List Nat) (ts : Nat → zy_F) : Prop := ∀ s, s < 3 → zt_C μ (zdT s) (Rs s) (ts s) ∧ (∀ k, k ∈ Rs s ↔ (k < 10 ∧ zd_til μ k = true ∧ μ (zdW k) 5 = nI s)) ∧ ∀ k ∈ Rs s, μ (zdT s + 5) k = μ (zdW k + 1) 0 ∧ μ (zdT s + 6) k = μ (zdW k + 1) 1
def zJ_kp (μ : zm_M) (Rs : Nat → List Nat) (ts : Nat → zy_F) : Prop := ∀ s, s < 3 → zt_C μ (zdV s) (Rs (3 + s)) (ts (3 + s)) ∧ (¬ μ (zdK s) 3 = 0 → μ (zdS s) 3 = 0 ∧ (∀ k ∈ Rs (3 + s), zd_til μ k = true ∧ μ (zdV s + 5) k = μ (zdW k + 1) 0 ∧ μ (zdV s + 6) k = μ (zdW k + 1) 1) ∧ ∀ k, k < 10 → ¬ μ (zdQ s) k = 0 → zd_th μ k = true ∧ ¬ μ (zdW k) 3 = 1 ∧ ¬ μ (zdW k) 3 = 4)
def zJ_sz (μ : zm_M) (Rs : Nat → List Nat) (ts : Nat → zy_F) : Prop := ∀ s, s < 3 → ¬ μ (zdS s) 3 = 0 → (40 ≤ μ (zdZ s) 0 ∧ μ (zdZ s) 0 ≤ 400 ∧ 40 ≤ μ (zdZ s) 1 ∧ μ (zdZ s) 1 ≤ 400) ∧ zt_fit μ (zdT s) (zdZ s) (Rs s) (ts s) = true
def zJ (μ : zm_M) (row stk : List Nat) (Rs : Nat → List Nat) (ts : Nat → zy_F) : Prop := zJ_row μ row ∧ zJ_stk μ stk ∧ zJ_win μ ∧ zJ_tr μ Rs ts ∧ zJ_kp μ Rs ts ∧ zJ_sz μ Rs ts
/-- a settled Tree rests on its first cells alone -/
theorem zt_C_19 {Q : Nat} {S : List Nat} {u : zy_F} (h : ∀ j, j < 19 → ν (Q + j) = μ (Q + j)) (g : zt_C μ Q S u) : zt_C ν Q S u := by
  refine ⟨zt_same.I ⟨h _ (by omega), h _ (by omega), h _ (by omega), h _ (by omega), h _ (by omega), h _ (by omega), h _ (by omega), h _ (by omega), h _ (by omega), h _ (by omega), h _ (by omega), by rw [show ν Q = μ Q from h 0 (by omega)]⟩ g.1, ?_, fun a ha => ?_⟩
  · have := g.2.1
    unfold zt_O at *
    rw [show ν Q = μ Q from h 0 (by omega), h 13 (by omega)]
    exact this
  · have := g.2.2 a ha
    rw [show ν (Q + 16 + a) = μ (Q + 16 + a) by rw [Nat.add_assoc]; exact h (16 + a) (by omega), h 7 (by omega), show ν (Q + 5 + a) = μ (Q + 5 + a) by rw [Nat.add_assoc]; exact h (5 + a) (by omega), h 3 (by omega)]
    exact this
theorem zt_lsz_19 {Q a : Nat} {S : List Nat} {u : zy_F} (h : ∀ j, j < 19 → ν (Q + j) = μ (Q + j)) (ha : a < 2) : zt_lsz ν Q a S u = zt_lsz μ Q a S u := by
  unfold zt_lsz
  rw [h 7 (by omega), show ν (Q + 5 + a) = μ (Q + 5 + a) by rw [Nat.add_assoc]; exact h (5 + a) (by omega), h 3 (by omega)]
theorem zJ.eqv (h : zJ μ row stk Rs ts) (e : zJ_eqv μ ν) : zJ ν row stk Rs ts := by
  obtain ⟨h1, h2, h3, h4, h5, h6⟩ := h
  have eW : ∀ k, k < 10 → ν (zdW k) = μ (zdW k) := fun k hk => e _ (zJn_W hk).1
  have eL : ∀ k, k < 10 → ν (zdW k + 1) = μ (zdW k + 1) := fun k hk => e _ (zJn_W hk).2
  have eT : ∀ s, s < 3 → ∀ j, j < 19 → ν (zdT s + j) = μ (zdT s + j) := fun s hs j hj => e _ (zJn_T hs hj).1
  have eV : ∀ s, s < 3 → ∀ j, j < 19 → ν (zdV s + j) = μ (zdV s + j) := fun s hs j hj => e _ (zJn_T hs hj).2
  have th : ∀ k, k < 10 → zd_th ν k = zd_th μ k := fun k hk => by unfold zd_th; rw [eW k hk]
  have til : ∀ k, k < 10 → zd_til ν k = zd_til μ k := fun k hk => by unfold zd_til; rw [eW k hk]
  refine ⟨⟨zr_L_congr (e _ (zJn_0 (by decide))) (e _ (zJn_0 (by decide))) h1.1, h1.2.1, fun k => ?_⟩, ⟨zr_L_congr (e _ (zJn_0 (by decide))) (e _ (zJn_0 (by decide))) h2.1, h2.2⟩, fun k hk ht => ?_, fun s hs => ?_, fun s hs => ?_, fun s hs ht => ?_⟩
  · rw [h1.2.2 k]
    constructor
    · rintro ⟨a, b⟩
      exact ⟨a, by rw [th k a]; exact b⟩
    · rintro ⟨a, b⟩
      exact ⟨a, by rw [← th k a]; exact b⟩
  · rw [th k hk] at ht
    obtain ⟨a1, a2, a3, a4, a5⟩ := h3 k hk ht
    rw [eW k hk, eL k hk]
    refine ⟨a1, a2, fun q => ?_, fun q => ?_, a5⟩
    · obtain ⟨s, b1, b2, b3⟩ := a3 q
      exact ⟨s, b1, b2, by rw [e _ (zJn_S b1).1]; exact b3⟩
    · obtain ⟨o, b1, b2, b3, b4⟩ := a4 q
      exact ⟨o, b1, b2, b3, by rw [th o b1]; exact b4⟩
  · obtain ⟨a1, a2, a3⟩ := h4 s hs
    refine ⟨zt_C_19 (eT s hs) a1, fun k => ?_, fun k hk => ?_⟩
    · rw [a2 k]
      constructor
      · rintro ⟨b1, b2⟩
        exact ⟨b1, by rw [til k b1, eW k b1]; exact b2⟩
      · rintro ⟨b1, b2⟩
        exact ⟨b1, by rw [til k b1, eW k b1] at b2; exact b2⟩
    · have hk10 := ((a2 k).mp hk).1
      rw [eT s hs 5 (by omega), eT s hs 6 (by omega), eL k hk10]
      exact a3 k hk
  · obtain ⟨a1, a2⟩ := h5 s hs
    refine ⟨zt_C_19 (eV s hs) a1, fun q => ?_⟩
    rw [e _ (zJn_S hs).2.2.1] at q
    obtain ⟨b1, b2, b3⟩ := a2 q
    refine ⟨by rw [e _ (zJn_S hs).1]; exact b1, fun k hk => ?_, fun k hk hq => ?_⟩
    · have hk10 := a1.1.1.2.2 k hk
      rw [eV s hs 5 (by omega), eV s hs 6 (by omega), eL k hk10, til k hk10]
      exact b2 k hk
    · rw [e _ (zJn_S hs).2.2.2] at hq
      rw [th k hk, eW k hk]
      exact b3 k hk hq
  · rw [e _ (zJn_S hs).1] at ht
    obtain ⟨a1, a2⟩ := h6 s hs ht
    rw [e _ (zJn_S hs).2.1]
    refine ⟨a1, ?_⟩
    unfold zt_fit at *
    rw [zt_lsz_19 (eT s hs) (by decide), zt_lsz_19 (eT s hs) (by decide), e _ (zJn_S hs).2.1]
    exact a2
end ZJ1
