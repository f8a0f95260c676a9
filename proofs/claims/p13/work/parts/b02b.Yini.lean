/-! the law: behind the constructors, the stacks empty -/
theorem zY_ini : zY zm_i := by
  obtain ⟨r1, r2, r3, r4, r5⟩ := zm_i_r
  exact ⟨zW_ini, [], ⟨by decide, r4, fun j hj => absurd hj (Nat.not_lt_zero _)⟩, ⟨by decide, r2, fun j hj => absurd hj (Nat.not_lt_zero _)⟩, fun x hx => by cases hx⟩
