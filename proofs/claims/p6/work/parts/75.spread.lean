/-! ten rounds are enough for a group -/
section ZSP
variable {dl : Nat → Bool} {ow : Nat → Nat} {g : Nat → Bool}
theorem zl_sp1_s {n j : Nat} : zl_sp1 dl ow g (n + 1) j = if j = n then zl_sp1 dl ow g n n || (dl n && zl_sp1 dl ow g n (ow n)) else zl_sp1 dl ow g n j := rfl
theorem zl_sp1_ge : ∀ n j, n ≤ j → zl_sp1 dl ow g n j = g j := by
  intro n
  induction n with
  | zero => intro j _; rfl
  | succ n ih =>
    intro j h
    rw [zl_sp1_s, if_neg (by omega)]
    exact ih j (by omega)
theorem zl_sp1_mono : ∀ n j, g j = true → zl_sp1 dl ow g n j = true := by
  intro n
  induction n with
  | zero => intro j h; exact h
  | succ n ih =>
    intro j h
    rw [zl_sp1_s]
    by_cases e : j = n
    · rw [if_pos e, ih n (e ▸ h)]
      rfl
    · rw [if_neg e]
      exact ih j h
theorem zl_sp1_or : ∀ n j, zl_sp1 dl ow g n j = true → g j = true ∨ dl j = true := by
  intro n
  induction n with
  | zero => intro j h; exact Or.inl h
  | succ n ih =>
    intro j h
    rw [zl_sp1_s] at h
    by_cases e : j = n
    · rw [if_pos e] at h
      subst e
      rcases Bool.or_eq_true_iff.mp h with h | h
      · exact ih j h
      · exact Or.inr (Bool.and_eq_true_iff.mp h).1
    · rw [if_neg e] at h
      exact ih j h
def zl_cl (dl : Nat → Bool) (ow : Nat → Nat) (g : Nat → Bool) : Prop := ∀ j, j < 10 → dl j = true → g (ow j) = true → g j = true
theorem zl_sp1_cl (h : zl_cl dl ow g) : ∀ n, n ≤ 10 → zl_sp1 dl ow g n = g := by
  intro n
  induction n with
  | zero => intro _; rfl
  | succ n ih =>
    intro hn
    have e := ih (by omega)
    funext j
    rw [zl_sp1_s, e]
    by_cases c : j = n
    · rw [if_pos c]
      subst c
      cases hg : g j with
      | true => rfl
      | false =>
        rw [Bool.false_or]
        cases hd : dl j with
        | false => rfl
        | true =>
          cases ho : g (ow j) with
          | false => rfl
          | true =>
            have := h j (by omega) hd ho
            rw [hg] at this
            cases this
    · rw [if_neg c]
theorem zl_spn_mono : ∀ m j, g j = true → zl_spn dl ow g m j = true := by
  intro m
  induction m with
  | zero => intro j h; exact h
  | succ m ih => intro j h; exact zl_sp1_mono 10 j (ih j h)
theorem zl_spn_or : ∀ m j, zl_spn dl ow g m j = true → g j = true ∨ dl j = true := by
  intro m
  induction m with
  | zero => intro j h; exact Or.inl h
  | succ m ih =>
    intro j h
    rcases zl_sp1_or 10 j h with h | h
    · exact ih j h
    · exact Or.inr h
theorem zl_ct_mono {p q : Nat → Bool} : ∀ n, (∀ j, j < n → p j = true → q j = true) → zl_ct p n ≤ zl_ct q n := by
  intro n
  induction n with
  | zero => intro _; exact Nat.le_refl _
  | succ n ih =>
    intro h
    have h1 := ih (fun j hj => h j (by omega))
    have h2 := h n (by omega)
    show zl_ct p n + (if p n then 1 else 0) ≤ zl_ct q n + (if q n then 1 else 0)
    cases hp : p n with
    | false => simp; omega
    | true => simp [h2 hp]; omega
theorem zl_ct_lt {p q : Nat → Bool} {i : Nat} : ∀ n, (∀ j, j < n → p j = true → q j = true) → i < n → p i = false → q i = true → zl_ct p n < zl_ct q n := by
  intro n
  induction n with
  | zero => intro _ h; omega
  | succ n ih =>
    intro h hi hp hq
    show zl_ct p n + (if p n then 1 else 0) < zl_ct q n + (if q n then 1 else 0)
    by_cases e : i = n
    · subst e
      have := zl_ct_mono (p := p) (q := q) i (fun j hj => h j (by omega))
      rw [hp, hq]
      simp
      omega
    · have h1 := ih (fun j hj => h j (by omega)) (by omega) hp hq
      have h2 := h n (by omega)
      cases hpn : p n with
      | false => simp; omega
      | true => simp [h2 hpn]; omega
theorem zl_ct_pos {p : Nat → Bool} {i : Nat} : ∀ n, i < n → p i = true → 1 ≤ zl_ct p n := by
  intro n
  induction n with
  | zero => intro h; omega
  | succ n ih =>
    intro hi hp
    show 1 ≤ zl_ct p n + (if p n then 1 else 0)
    by_cases e : i = n
    · subst e
      rw [hp]
      simp
    · have := ih (by omega) hp
      omega
theorem zl_spn_cl {w : Nat} (hw : w < 10) (hg : g w = true) : zl_cl dl ow (zl_spn dl ow g 10) := by
  have main : ∀ m, zl_cl dl ow (zl_spn dl ow g m) ∨ m + 1 ≤ zl_ct (zl_spn dl ow g m) 10 := by
    intro m
    induction m with
    | zero => exact Or.inr (zl_ct_pos 10 hw hg)
    | succ m ih =>
      by_cases c : zl_cl dl ow (zl_spn dl ow g m)
      · left
        have : zl_spn dl ow g (m + 1) = zl_spn dl ow g m := zl_sp1_cl c 10 (Nat.le_refl _)
        rw [this]
        exact c
      · right
        have h1 := ih.resolve_left c
        have : ∃ j, j < 10 ∧ dl j = true ∧ zl_spn dl ow g m (ow j) = true ∧ zl_spn dl ow g m j = false := by
          apply Decidable.byContradiction
          intro hno
          apply c
          intro j hj hd ho
          cases hq : zl_spn dl ow g m j with
          | true => rfl
          | false => exact absurd ⟨j, hj, hd, ho, hq⟩ hno
        obtain ⟨j, hj, hd, ho, hq⟩ := this
        have hj1 : zl_spn dl ow g (m + 1) j = true := by
          show zl_sp1 dl ow (zl_spn dl ow g m) 10 j = true
          have step : zl_sp1 dl ow (zl_spn dl ow g m) (j + 1) j = true := by
            rw [zl_sp1_s, if_pos rfl, hd, zl_sp1_mono j (ow j) ho]
            simp
          have up : ∀ i, zl_sp1 dl ow (zl_spn dl ow g m) (j + 1 + i) j = true := by
            intro i
            induction i with
            | zero => exact step
            | succ i ih2 =>
              rw [show j + 1 + (i + 1) = (j + 1 + i) + 1 by omega, zl_sp1_s, if_neg (by omega)]
              exact ih2
          have := up (9 - j)
          rw [show j + 1 + (9 - j) = 10 by omega] at this
          exact this
        have := zl_ct_lt (p := zl_spn dl ow g m) (q := zl_spn dl ow g (m + 1)) 10 (fun i _ hi => zl_sp1_mono 10 i hi) hj hq hj1
        omega
  rcases main 10 with h | h
  · exact h
  · have := zl_ct_le (zl_spn dl ow g 10) 10
    omega
end ZSP
