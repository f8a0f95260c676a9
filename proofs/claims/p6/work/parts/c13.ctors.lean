/-! the two constructors -/
def zn_5 : zi_Hp := [(5, (List.range (zi_fld 5)).map (fun k => defaultValue (zi_ty 5 k)))]
def zn_6 : zi_Hp := [(6, (List.range (zi_fld 6)).map (fun k => defaultValue (zi_ty 6 k)))]
def zi_leq : List Value → List Value → Bool
  | [], [] => true
  | x :: xs, y :: ys => decide (x = y) && zi_leq xs ys
  | _, _ => false
theorem zi_leq_eq : ∀ {a b : List Value}, zi_leq a b = true → a = b
  | [], [], _ => rfl
  | x :: xs, y :: ys, h => by
    simp only [zi_leq, Bool.and_eq_true, decide_eq_true_eq] at h
    rw [h.1, zi_leq_eq h.2]
  | [], _ :: _, h => by cases h
  | _ :: _, [], h => by cases h
def zi_heq : zi_Hp → zi_Hp → Bool
  | [], [] => true
  | x :: xs, y :: ys => decide (x.1 = y.1) && zi_leq x.2 y.2 && zi_heq xs ys
  | _, _ => false
theorem zi_heq_eq : ∀ {a b : zi_Hp}, zi_heq a b = true → a = b
  | [], [], _ => rfl
  | (x1, x2) :: xs, (y1, y2) :: ys, h => by
    simp only [zi_heq, Bool.and_eq_true, decide_eq_true_eq] at h
    rw [h.1.1, zi_leq_eq h.1.2, zi_heq_eq h.2]
  | [], _ :: _, h => by cases h
  | _ :: _, [], h => by cases h
/-- one outcome, nothing answered, this heap -/
def zi_is (o : Option (List zi_Out)) (h : zi_Hp) : Bool := match o with
  | some [([], none, g)] => zi_heq g h
  | _ => false
theorem zi_is_eq {o : Option (List zi_Out)} {h : zi_Hp} (e : zi_is o h = true) : o = some [([], none, h)] := by
  unfold zi_is at e
  split at e
  · rw [zi_heq_eq e]
  · cases e
set_option maxRecDepth 100000 in
theorem ze_A : zi_run zi_ms 3000 10 0 [.ref 1] zn_5 [] = some [([], none, zh_1)] := zi_is_eq (by decide +kernel)
set_option maxRecDepth 100000 in
theorem ze_B : zi_run zi_ms 3000 10 6 [.ref 232] (zh_1 ++ zn_6) [] = some [([], none, zh_2)] := zi_is_eq (by decide +kernel)
