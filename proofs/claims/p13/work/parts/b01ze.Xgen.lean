/-! places: calls that move windows -/
section ZXF
variable {M N Np θ θp ξ : zm_M} {row row' stkC stk ord : List Nat} {Rs : Nat → List Nat} {ts us : Nat → zy_F} {a b k s : Nat} {vs : List Value} {r r1 r2 r1p r2p : Int32}
/-- both answer the same, and the class's heap is the same -/
theorem zX_det (he : zW_e M a b vs) (E1 : ze_E 64 a (.ref 1 :: vs) (zm_mk M) (some (.int r1)) (zm_mk N)) (E1p : ze_E 64 a (.ref 1 :: vs) (zm_mk M) (some (.int r1p)) (zm_mk Np)) (E2p : ze_E 64 b (.ref 232 :: vs) (zm_mk N) (some (.int r2p)) (zm_mk θp)) : r1p = r2p ∧ zm_mk N = zm_mk Np := by
  obtain ⟨N', θ', r, F1, F2, -⟩ := he
  obtain ⟨q1, e1⟩ := ze_E_det F1 E1
  obtain ⟨q2, e2⟩ := ze_E_det E1 E1p
  rw [e1] at F2
  obtain ⟨q3, -⟩ := ze_E_det F2 E2p
  have a1 := Value.int.inj (Option.some.inj q1)
  have a2 := Value.int.inj (Option.some.inj q2)
  have a3 := Value.int.inj (Option.some.inj q3)
  exact ⟨a2.symm.trans (a1.symm.trans a3), e2⟩
theorem zX_bt {v m : Int32} (h : 0 ≤ m) : 0 ≤ zi_bt 0 v m ∧ zi_bt 0 v m ≤ m := by
  rw [← zX_ne h]
  unfold zv_ne
  by_cases c1 : v < 0
  · rw [if_pos c1]
    exact ⟨by decide, h⟩
  · rw [if_neg c1]
    by_cases c2 : m < v
    · rw [if_pos c2]
      exact ⟨h, Int32.le_refl _⟩
    · rw [if_neg c2]
      exact ⟨Int32.not_lt.mp c1, Int32.not_lt.mp c2⟩
/-- screen less size -/
theorem zX_sub {z l : Int32} (l1 : 1 ≤ l) (l2 : l ≤ 200) (z2 : z ≤ 400) (h : l ≤ z) : 0 ≤ z - l := by
  rw [Int32.le_iff_toInt_le] at *
  rw [show (1 : Int32).toInt = 1 by decide] at l1
  rw [show (200 : Int32).toInt = 200 by decide] at l2
  rw [show (400 : Int32).toInt = 400 by decide] at z2
  rw [show (0 : Int32).toInt = 0 by decide, Int32.toInt_sub, Int.bmod_def]
  split <;> omega
/-- the places after a call -/
theorem zX2_gen (h : zX2 M M) (up : zW_up M N)
    (hk : ∀ s, s < 3 → ¬ N (zdK s) 3 = 0 → ∀ k, k < 10 → ¬ N (zdQ s) k = 0 → ∀ a, a < 2 → θ (253 + a) (10 * s + k) = N (zdP s + 1 + a) k)
    (hw : ∀ j, j < 10 → zd_flo N j = true →
      (zd_flo M j = true ∧ (∀ a, a < 2 → N (zdW j + 2) a = M (zdW j + 2) a ∧ θ (239 + a) j = N (239 + a) j) ∧ (¬ N (zdW j) 3 = 4 → ¬ M (zdW j) 3 = 4 ∧ N (zdW j) 5 = M (zdW j) 5 ∧ ∀ s, s < 3 → M (zdW j) 5 = nI s → ∀ a, a < 2 → N (zdW j + 1) a = M (zdW j + 1) a ∧ N (zdZ s) a = M (zdZ s) a)) ∨
      (N (zdW j) 3 = 4 ∧ ∀ a, a < 2 → θ (239 + a) j = N (zdW j + 2) a) ∨
      (∃ s, s < 3 ∧ N (zdW j) 5 = nI s ∧ ∀ a, a < 2 → ∃ v, N (zdW j + 1) a ≤ N (zdZ s) a ∧ 0 ≤ N (zdZ s) a - N (zdW j + 1) a ∧ N (zdW j + 2) a = zi_bt 0 v (N (zdZ s) a - N (zdW j + 1) a) ∧ θ (239 + a) j = zv_ne v (N (zdZ s) a - N (zdW j + 1) a))) : zX2 N θ := by
  obtain ⟨h1, h2, h3⟩ := h
  refine ⟨fun j hj f a ha => ?_, hk, fun j hj f f4 => ?_⟩
  · rcases hw j hj f with ⟨q1, q2, -⟩ | ⟨-, q⟩ | ⟨s, hs, e, q⟩
    · rw [(q2 a ha).2, (q2 a ha).1, up _ (by omega)]
      exact h1 j hj q1 a ha
    · exact q a ha
    · obtain ⟨v, -, q0, q2, q3⟩ := q a ha
      rw [q2, q3]
      exact zX_ne q0
  · rcases hw j hj f with ⟨q1, q2, q3⟩ | ⟨q, -⟩ | ⟨s, hs, e, q⟩
    · obtain ⟨p1, p2, p3⟩ := q3 f4
      obtain ⟨s, hs, e, h⟩ := h3 j hj q1 p1
      refine ⟨s, hs, p2.trans e, fun a ha => ?_⟩
      rw [(p3 s hs e a ha).1, (p3 s hs e a ha).2, (q2 a ha).1]
      exact h a ha
    · exact absurd q f4
    · refine ⟨s, hs, e, fun a ha => ?_⟩
      obtain ⟨v, q4, q0, q2, -⟩ := q a ha
      rw [q2]
      exact ⟨q4, zX_bt q0⟩
theorem zX_lo_fgt {p : Nat → Bool} (h : zd_fgt M N p) : zX_lo M N := by
  have e : ∀ c d, (∀ s, s < 3 → c = zdK s → d ≠ 3) → N c d = M c d := h.2
  have eW : ∀ k, k < 10 → ∀ d, N (zdW k) d = M (zdW k) d := fun k hk d => e _ _ (fun s hs q => by unfold zdW zdK at q; omega)
  refine ⟨fun k hk q => ⟨?_, eW k hk 3, eW k hk 5, fun a ha => e _ _ (fun s hs q => by unfold zdW zdK at q; omega)⟩, fun s hs a ha => e _ _ (fun s hs q => by unfold zdZ zdK at q; omega), fun s hs q => ⟨?_, fun k hk q2 => by rw [← e (zdQ s) k (fun s hs q => by unfold zdQ zdK at q; omega)]; exact q2⟩⟩
  · rw [zd_flo_iff] at q ⊢
    rw [eW k hk, eW k hk] at q
    exact q
  · rw [h.1 s hs] at q
    intro z
    refine q ?_
    split
    · rfl
    · exact z
end ZXF
