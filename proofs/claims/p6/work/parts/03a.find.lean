/-! rows found by their place: in the order of their places each is the first of its own -/
def zi_inc : Nat → List zi_Row → Bool
  | _, [] => true
  | p, r :: rs => Nat.ble p r.1 && zi_inc (r.1 + 1) rs
theorem zi_inc_find : ∀ (rs : List zi_Row) (p : Nat), zi_inc p rs = true → ∀ r ∈ rs, p ≤ r.1 ∧ rs.find? (fun q => q.1 == r.1) = some r
  | [], _, _ => fun r h => by cases h
  | a :: rs, p, h => by
    have h : (Nat.ble p a.1 && zi_inc (a.1 + 1) rs) = true := h
    obtain ⟨h1, h2⟩ := Bool.and_eq_true_iff.mp h
    have h1 := Nat.le_of_ble_eq_true h1
    intro r hr
    rcases List.mem_cons.mp hr with rfl | hr
    · exact ⟨h1, by rw [List.find?_cons]; simp⟩
    · obtain ⟨h3, h4⟩ := zi_inc_find rs _ h2 r hr
      refine ⟨by omega, ?_⟩
      rw [List.find?_cons, show (a.1 == r.1) = false from beq_eq_false_iff_ne.mpr (by omega)]
      exact h4
def zi_cj (P : zi_Row → Prop) : List zi_Row → Prop
  | [] => True
  | [r] => P r
  | r :: s :: rs => P r ∧ zi_cj P (s :: rs)
theorem zi_cj_of {P : zi_Row → Prop} : ∀ {l : List zi_Row}, (∀ r ∈ l, P r) → zi_cj P l
  | [], _ => trivial
  | [r], h => h r (List.mem_cons_self ..)
  | r :: s :: rs, h => ⟨h r (List.mem_cons_self ..), zi_cj_of (l := s :: rs) (fun q hq => h q (List.mem_cons_of_mem _ hq))⟩
theorem zi_fdi {zc : List zi_Row} (h : zi_inc 0 zc = true) : zi_cj (fun r => zc.find? (fun q => q.1 == r.1) = some r) zc := zi_cj_of (fun r hr => (zi_inc_find zc 0 h r hr).2)
