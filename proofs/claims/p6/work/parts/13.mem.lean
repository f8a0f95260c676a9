/-! the memory behind the constructors: every cell stands where it stands; only ints change -/
def zh_1 : zi_Hp := [(5, [.ref 2, .ref 3, .ref 4, .ref 6, .ref 8, .ref 32, .ref 33, .ref 34, .ref 35]), (10, [.ref 37, .ref 40, .ref 43, .ref 46, .ref 49, .ref 52, .ref 55, .ref 58, .ref 61, .ref 64]), (9, [.ref 67, .ref 122, .ref 177]), (1, [.ref 5, .int 0]), (7, List.replicate 10 (.int 0)), (1, [.ref 7, .int 0]), (7, List.replicate 10 (.int 0)), (3, [.ref 9, .ref 11, .ref 12, .ref 15, .ref 16, .ref 17, .ref 18, .ref 19, .ref 20, .int (-1), .ref 21, .ref 22, .int 0, .ref 23, .ref 26, .ref 29]), (1, [.ref 10, .int 0]), (7, List.replicate 10 (.int 0)), (7, List.replicate 10 (.int (-1))), (11, [.ref 13, .ref 14]), (7, List.replicate 10 (.int 0)), (7, List.replicate 10 (.int 0)), (7, List.replicate 19 (.int 3)), (7, List.replicate 19 (.int 0)), (7, List.replicate 19 (.int 0)), (7, List.replicate 19 (.int 0)), (7, List.replicate 19 (.int 0)), (7, List.replicate 19 (.int 0)), (7, List.replicate 19 (.int 0)), (7, List.replicate 19 (.int 0)), (11, [.ref 24, .ref 25]), (7, List.replicate 19 (.int 0)), (7, List.replicate 19 (.int 0)), (11, [.ref 27, .ref 28]), (7, List.replicate 19 (.int 0)), (7, List.replicate 19 (.int 0)), (11, [.ref 30, .ref 31]), (7, List.replicate 19 (.int 0)), (7, List.replicate 19 (.int 0)), (8, List.replicate 10 (.int 0)), (7, [.int 0, .int 0]), (7, List.replicate 10 (.int 0)), (1, [.ref 36, .int 0]), (7, List.replicate 10 (.int 0)), (4, [.ref 38, .ref 39, .int 0, .int 0, .int (-1), .int (-1)]), (7, [.int 0, .int 0]), (7, [.int 0, .int 0]), (4, [.ref 41, .ref 42, .int 0, .int 0, .int (-1), .int (-1)]), (7, [.int 0, .int 0]), (7, [.int 0, .int 0]), (4, [.ref 44, .ref 45, .int 0, .int 0, .int (-1), .int (-1)]), (7, [.int 0, .int 0]), (7, [.int 0, .int 0]), (4, [.ref 47, .ref 48, .int 0, .int 0, .int (-1), .int (-1)]), (7, [.int 0, .int 0]), (7, [.int 0, .int 0]), (4, [.ref 50, .ref 51, .int 0, .int 0, .int (-1), .int (-1)]), (7, [.int 0, .int 0]), (7, [.int 0, .int 0]), (4, [.ref 53, .ref 54, .int 0, .int 0, .int (-1), .int (-1)]), (7, [.int 0, .int 0]), (7, [.int 0, .int 0]), (4, [.ref 56, .ref 57, .int 0, .int 0, .int (-1), .int (-1)]), (7, [.int 0, .int 0]), (7, [.int 0, .int 0]), (4, [.ref 59, .ref 60, .int 0, .int 0, .int (-1), .int (-1)]), (7, [.int 0, .int 0]), (7, [.int 0, .int 0]), (4, [.ref 62, .ref 63, .int 0, .int 0, .int (-1), .int (-1)]), (7, [.int 0, .int 0]), (7, [.int 0, .int 0]), (4, [.ref 65, .ref 66, .int 0, .int 0, .int (-1), .int (-1)]), (7, [.int 0, .int 0]), (7, [.int 0, .int 0]), (2, [.ref 68, .ref 69, .ref 93, .int 0]), (7, [.int 0, .int 0]), (3, [.ref 70, .ref 72, .ref 73, .ref 76, .ref 77, .ref 78, .ref 79, .ref 80, .ref 81, .int (-1), .ref 82, .ref 83, .int 0, .ref 84, .ref 87, .ref 90]), (1, [.ref 71, .int 0]), (7, List.replicate 10 (.int 0)), (7, List.replicate 10 (.int (-1))), (11, [.ref 74, .ref 75]), (7, List.replicate 10 (.int 0)), (7, List.replicate 10 (.int 0)), (7, List.replicate 19 (.int 3)), (7, List.replicate 19 (.int 0)), (7, List.replicate 19 (.int 0)), (7, List.replicate 19 (.int 0)), (7, List.replicate 19 (.int 0)), (7, List.replicate 19 (.int 0)), (7, List.replicate 19 (.int 0)), (7, List.replicate 19 (.int 0)), (11, [.ref 85, .ref 86]), (7, List.replicate 19 (.int 0)), (7, List.replicate 19 (.int 0)), (11, [.ref 88, .ref 89]), (7, List.replicate 19 (.int 0)), (7, List.replicate 19 (.int 0)), (11, [.ref 91, .ref 92]), (7, List.replicate 19 (.int 0)), (7, List.replicate 19 (.int 0)), (0, [.ref 94, .ref 118, .ref 121, .int 0]), (3, [.ref 95, .ref 97, .ref 98, .ref 101, .ref 102, .ref 103, .ref 104, .ref 105, .ref 106, .int (-1), .ref 107, .ref 108, .int 0, .ref 109, .ref 112, .ref 115]), (1, [.ref 96, .int 0]), (7, List.replicate 10 (.int 0)), (7, List.replicate 10 (.int (-1))), (11, [.ref 99, .ref 100]), (7, List.replicate 10 (.int 0)), (7, List.replicate 10 (.int 0)), (7, List.replicate 19 (.int 3)), (7, List.replicate 19 (.int 0)), (7, List.replicate 19 (.int 0)), (7, List.replicate 19 (.int 0)), (7, List.replicate 19 (.int 0)), (7, List.replicate 19 (.int 0)), (7, List.replicate 19 (.int 0)), (7, List.replicate 19 (.int 0)), (11, [.ref 110, .ref 111]), (7, List.replicate 19 (.int 0)), (7, List.replicate 19 (.int 0)), (11, [.ref 113, .ref 114]), (7, List.replicate 19 (.int 0)), (7, List.replicate 19 (.int 0)), (11, [.ref 116, .ref 117]), (7, List.replicate 19 (.int 0)), (7, List.replicate 19 (.int 0)), (11, [.ref 119, .ref 120]), (7, List.replicate 10 (.int 0)), (7, List.replicate 10 (.int 0)), (8, List.replicate 10 (.int 0)), (2, [.ref 123, .ref 124, .ref 148, .int 0]), (7, [.int 0, .int 0]), (3, [.ref 125, .ref 127, .ref 128, .ref 131, .ref 132, .ref 133, .ref 134, .ref 135, .ref 136, .int (-1), .ref 137, .ref 138, .int 0, .ref 139, .ref 142, .ref 145]), (1, [.ref 126, .int 0]), (7, List.replicate 10 (.int 0)), (7, List.replicate 10 (.int (-1))), (11, [.ref 129, .ref 130]), (7, List.replicate 10 (.int 0)), (7, List.replicate 10 (.int 0)), (7, List.replicate 19 (.int 3)), (7, List.replicate 19 (.int 0)), (7, List.replicate 19 (.int 0)), (7, List.replicate 19 (.int 0)), (7, List.replicate 19 (.int 0)), (7, List.replicate 19 (.int 0)), (7, List.replicate 19 (.int 0)), (7, List.replicate 19 (.int 0)), (11, [.ref 140, .ref 141]), (7, List.replicate 19 (.int 0)), (7, List.replicate 19 (.int 0)), (11, [.ref 143, .ref 144]), (7, List.replicate 19 (.int 0)), (7, List.replicate 19 (.int 0)), (11, [.ref 146, .ref 147]), (7, List.replicate 19 (.int 0)), (7, List.replicate 19 (.int 0)), (0, [.ref 149, .ref 173, .ref 176, .int 0]), (3, [.ref 150, .ref 152, .ref 153, .ref 156, .ref 157, .ref 158, .ref 159, .ref 160, .ref 161, .int (-1), .ref 162, .ref 163, .int 0, .ref 164, .ref 167, .ref 170]), (1, [.ref 151, .int 0]), (7, List.replicate 10 (.int 0)), (7, List.replicate 10 (.int (-1))), (11, [.ref 154, .ref 155]), (7, List.replicate 10 (.int 0)), (7, List.replicate 10 (.int 0)), (7, List.replicate 19 (.int 3)), (7, List.replicate 19 (.int 0)), (7, List.replicate 19 (.int 0)), (7, List.replicate 19 (.int 0)), (7, List.replicate 19 (.int 0)), (7, List.replicate 19 (.int 0)), (7, List.replicate 19 (.int 0)), (7, List.replicate 19 (.int 0)), (11, [.ref 165, .ref 166]), (7, List.replicate 19 (.int 0)), (7, List.replicate 19 (.int 0)), (11, [.ref 168, .ref 169]), (7, List.replicate 19 (.int 0)), (7, List.replicate 19 (.int 0)), (11, [.ref 171, .ref 172]), (7, List.replicate 19 (.int 0)), (7, List.replicate 19 (.int 0)), (11, [.ref 174, .ref 175]), (7, List.replicate 10 (.int 0)), (7, List.replicate 10 (.int 0)), (8, List.replicate 10 (.int 0)), (2, [.ref 178, .ref 179, .ref 203, .int 0]), (7, [.int 0, .int 0]), (3, [.ref 180, .ref 182, .ref 183, .ref 186, .ref 187, .ref 188, .ref 189, .ref 190, .ref 191, .int (-1), .ref 192, .ref 193, .int 0, .ref 194, .ref 197, .ref 200]), (1, [.ref 181, .int 0]), (7, List.replicate 10 (.int 0)), (7, List.replicate 10 (.int (-1))), (11, [.ref 184, .ref 185]), (7, List.replicate 10 (.int 0)), (7, List.replicate 10 (.int 0)), (7, List.replicate 19 (.int 3)), (7, List.replicate 19 (.int 0)), (7, List.replicate 19 (.int 0)), (7, List.replicate 19 (.int 0)), (7, List.replicate 19 (.int 0)), (7, List.replicate 19 (.int 0)), (7, List.replicate 19 (.int 0)), (7, List.replicate 19 (.int 0)), (11, [.ref 195, .ref 196]), (7, List.replicate 19 (.int 0)), (7, List.replicate 19 (.int 0)), (11, [.ref 198, .ref 199]), (7, List.replicate 19 (.int 0)), (7, List.replicate 19 (.int 0)), (11, [.ref 201, .ref 202]), (7, List.replicate 19 (.int 0)), (7, List.replicate 19 (.int 0)), (0, [.ref 204, .ref 228, .ref 231, .int 0]), (3, [.ref 205, .ref 207, .ref 208, .ref 211, .ref 212, .ref 213, .ref 214, .ref 215, .ref 216, .int (-1), .ref 217, .ref 218, .int 0, .ref 219, .ref 222, .ref 225]), (1, [.ref 206, .int 0]), (7, List.replicate 10 (.int 0)), (7, List.replicate 10 (.int (-1))), (11, [.ref 209, .ref 210]), (7, List.replicate 10 (.int 0)), (7, List.replicate 10 (.int 0)), (7, List.replicate 19 (.int 3)), (7, List.replicate 19 (.int 0)), (7, List.replicate 19 (.int 0)), (7, List.replicate 19 (.int 0)), (7, List.replicate 19 (.int 0)), (7, List.replicate 19 (.int 0)), (7, List.replicate 19 (.int 0)), (7, List.replicate 19 (.int 0)), (11, [.ref 220, .ref 221]), (7, List.replicate 19 (.int 0)), (7, List.replicate 19 (.int 0)), (11, [.ref 223, .ref 224]), (7, List.replicate 19 (.int 0)), (7, List.replicate 19 (.int 0)), (11, [.ref 226, .ref 227]), (7, List.replicate 19 (.int 0)), (7, List.replicate 19 (.int 0)), (11, [.ref 229, .ref 230]), (7, List.replicate 10 (.int 0)), (7, List.replicate 10 (.int 0)), (8, List.replicate 10 (.int 0))]
def zh_m : zi_Hp := [(6, [.ref 233, .ref 234, .ref 235, .ref 236, .ref 237, .ref 238, .ref 239, .ref 240, .ref 241, .ref 242, .int 0, .ref 243, .int 0, .ref 244, .ref 245, .ref 246, .ref 247, .ref 248, .ref 249, .ref 250, .ref 251, .ref 252, .ref 253, .ref 254, .ref 255, .ref 256, .ref 257, .ref 258, .ref 259, .ref 260, .int 0, .ref 261, .ref 262]), (7, [.int 0, .int 0, .int 0]), (7, [.int 0, .int 0, .int 0]), (7, List.replicate 10 (.int 0)), (7, List.replicate 10 (.int 0)), (7, List.replicate 10 (.int 0)), (7, List.replicate 10 (.int 0)), (7, List.replicate 10 (.int 0)), (7, List.replicate 10 (.int 0)), (7, List.replicate 10 (.int 0)), (7, List.replicate 10 (.int 0)), (7, List.replicate 10 (.int 0)), (7, List.replicate 7 (.int (-1))), (7, List.replicate 168 (.int 0)), (7, List.replicate 168 (.int 0)), (7, List.replicate 168 (.int 0)), (7, List.replicate 168 (.int 0)), (7, List.replicate 1680 (.int 0)), (7, List.replicate 168 (.int 0)), (7, List.replicate 168 (.int 0)), (8, [.int 0, .int 0, .int 0]), (8, List.replicate 30 (.int 0)), (7, List.replicate 30 (.int 0)), (7, List.replicate 30 (.int 0)), (7, List.replicate 24 (.int 0)), (7, List.replicate 24 (.int 0)), (7, List.replicate 24 (.int 0)), (7, List.replicate 24 (.int 0)), (7, List.replicate 24 (.int 0)), (8, List.replicate 10 (.int 0)), (7, List.replicate 10 (.int 0))]
def zh_2 : zi_Hp := zh_1 ++ zh_m
abbrev zm_M : Type := Nat → Nat → Int32
def zm_v (μ : zm_M) (i j : Nat) (v : Value) : Value := match v with
  | .int _ => .int (μ i j)
  | v => v
def zm_mk (μ : zm_M) : zi_Hp := zh_2.mapIdx (fun i c => (c.1, c.2.mapIdx (zm_v μ i)))
def zm_up (μ : zm_M) (i j : Nat) (x : Int32) : zm_M := fun a b => if a = i ∧ b = j then x else μ a b
theorem zm_up_eq {μ : zm_M} {i j : Nat} {x : Int32} : zm_up μ i j x i j = x := if_pos ⟨rfl, rfl⟩
theorem zm_up_ne {μ : zm_M} {i j a b : Nat} {x : Int32} (h : ¬ (a = i ∧ b = j)) : zm_up μ i j x a b = μ a b := if_neg h
theorem zm_get {μ : zm_M} {i t : Nat} {l : List Value} (h : zh_2[i]? = some (t, l)) : (zm_mk μ)[i]? = some (t, l.mapIdx (zm_v μ i)) := by
  unfold zm_mk
  rw [List.getElem?_mapIdx, h]
  rfl
theorem zm_put {μ : zm_M} {i t j : Nat} {l : List Value} {x y : Int32} (h : zh_2[i]? = some (t, l)) (hj : l[j]? = some (.int y)) : (zm_mk μ).set i (t, (l.mapIdx (zm_v μ i)).set j (.int x)) = zm_mk (zm_up μ i j x) := by
  apply List.ext_getElem?
  intro a
  have hi : i < zh_2.length := (List.getElem?_eq_some_iff.mp h).1
  rw [List.getElem?_set]
  by_cases e : i = a
  · subst e
    rw [if_pos rfl, if_pos (by unfold zm_mk; rw [List.length_mapIdx]; exact hi), zm_get h]
    congr 2
    apply List.ext_getElem?
    intro b
    rw [List.getElem?_set, List.getElem?_mapIdx]
    by_cases e2 : j = b
    · subst e2
      rw [if_pos rfl, if_pos (by rw [List.length_mapIdx]; exact (List.getElem?_eq_some_iff.mp hj).1), List.getElem?_mapIdx, hj]
      simp [zm_v, zm_up]
    · rw [if_neg e2, List.getElem?_mapIdx]
      cases l[b]? with
      | none => rfl
      | some v =>
        simp only [Option.map_some]
        congr 1
        unfold zm_v
        cases v <;> first | rfl | (rw [zm_up_ne (by omega)])
  · rw [if_neg e]
    unfold zm_mk
    rw [List.getElem?_mapIdx, List.getElem?_mapIdx]
    cases zh_2[a]? with
    | none => rfl
    | some c =>
      simp only [Option.map_some]
      congr 2
      apply List.ext_getElem?
      intro b
      rw [List.getElem?_mapIdx, List.getElem?_mapIdx]
      cases c.2[b]? with
      | none => rfl
      | some v =>
        simp only [Option.map_some]
        congr 1
        unfold zm_v
        cases v <;> first | rfl | (rw [zm_up_ne (by omega)])
/-- an array of n ints (t: 7) or of truth values (t: 8) at cell i -/
def zm_isA (t i n : Nat) : Prop := ∃ l, zh_2[i]? = some (t, l) ∧ l.length = n ∧ ∀ j, j < n → ∃ y, l[j]? = some (.int y)
def zm_isAb (t i n : Nat) : Bool := match zh_2[i]? with
  | some (t', l) => decide (t' = t) && decide (l.length = n) && l.all (fun v => match v with | .int _ => true | _ => false)
  | none => false
theorem zm_isA_of {t i n : Nat} (h : zm_isAb t i n = true) : zm_isA t i n := by
  unfold zm_isAb at h
  split at h
  · rename_i t' l e
    simp only [Bool.and_eq_true, decide_eq_true_eq] at h
    obtain ⟨⟨rfl, rfl⟩, h3⟩ := h
    refine ⟨l, e, rfl, fun j hj => ?_⟩
    have := List.all_eq_true.mp h3 l[j] (List.getElem_mem hj)
    split at this
    · rename_i y e9
      exact ⟨y, by rw [List.getElem?_eq_getElem hj, e9]⟩
    · cases this
  · cases h
section ZMM
variable {μ : zm_M}
theorem zm_iald {i n k : Nat} {d : zi_Dm} {scr : Option (List Value)} {j : Int32} (h : zm_isA 7 i n) (hj : zi_in j n = true) : zi_iald scr d (zm_mk μ) j (i + 1) = some (.int (μ i j.toNatClampNeg)) := by
  obtain ⟨l, h1, rfl, h3⟩ := h
  have hlt := (zi_in_lt hj).2
  obtain ⟨y, hy⟩ := h3 _ hlt
  unfold zi_iald
  simp only [zm_get h1, List.length_mapIdx, hj, if_true, List.getElem?_mapIdx, hy, Option.map_some, zm_v]
theorem zm_bald {i n : Nat} {j : Int32} (h : zm_isA 8 i n) (hj : zi_in j n = true) : zi_bald (zm_mk μ) j i = some (.int (μ i j.toNatClampNeg)) := by
  obtain ⟨l, h1, rfl, h3⟩ := h
  have hlt := (zi_in_lt hj).2
  obtain ⟨y, hy⟩ := h3 _ hlt
  unfold zi_bald
  simp only [zm_get h1, List.length_mapIdx, hj, if_true, List.getElem?_mapIdx, hy, Option.map_some, zm_v]
theorem zm_iast {i n : Nat} {j x : Int32} (h : zm_isA 7 i n) (hj : zi_in j n = true) : zi_iast (zm_mk μ) j i (.int x) = some (zm_mk (zm_up μ i j.toNatClampNeg x)) := by
  obtain ⟨l, h1, rfl, h3⟩ := h
  have hlt := (zi_in_lt hj).2
  obtain ⟨y, hy⟩ := h3 _ hlt
  unfold zi_iast
  simp only [zm_get h1, List.length_mapIdx, hj, zi_isI, Bool.and_self, if_true]
  rw [zm_put h1 hy]
theorem zm_bast {i n : Nat} {j x : Int32} (h : zm_isA 8 i n) (hj : zi_in j n = true) (hx : x = 0 ∨ x = 1) : zi_bast (zm_mk μ) j i x = some (zm_mk (zm_up μ i j.toNatClampNeg x)) := by
  obtain ⟨l, h1, rfl, h3⟩ := h
  have hlt := (zi_in_lt hj).2
  obtain ⟨y, hy⟩ := h3 _ hlt
  have hx2 : (decide (x = 0) || decide (x = 1)) = true := by simpa using hx
  unfold zi_bast
  simp only [zm_get h1, List.length_mapIdx, hj, hx2, Bool.and_self, if_true]
  rw [zm_put h1 hy]
/-- a field of an object: an int, or where it leads -/
theorem zm_gfi {i a b : Nat} {l : List Value} {y : Int32} (h : zh_2[i]? = some (a, l)) (ha : a < 7) (hb : l[b]? = some (.int y)) : zi_gf (zm_mk μ) a b i = some (.int (μ i b)) := by
  unfold zi_gf
  simp only [zm_get h, ha, and_self, if_true, List.getElem?_mapIdx, hb, Option.map_some, zm_v]
theorem zm_gfr {i a b q : Nat} {l : List Value} (h : zh_2[i]? = some (a, l)) (ha : a < 7) (hb : l[b]? = some (.ref q)) : zi_gf (zm_mk μ) a b i = some (.ref q) := by
  unfold zi_gf
  simp only [zm_get h, ha, and_self, if_true, List.getElem?_mapIdx, hb, Option.map_some, zm_v]
theorem zm_pfi {i a b : Nat} {l : List Value} {x y : Int32} (h : zh_2[i]? = some (a, l)) (ha : a < 7) (hb : l[b]? = some (.int y)) (hf : zi_fit (zi_ty a b) (.int x) = true) : zi_pf (zm_mk μ) a b i (.int x) = some (zm_mk (zm_up μ i b x)) := by
  have hlt := (List.getElem?_eq_some_iff.mp hb).1
  unfold zi_pf
  simp only [zm_get h, ha, hf, List.length_mapIdx, hlt, and_self, if_true]
  rw [zm_put h hb]
theorem zm_aald {i t q : Nat} {j : Int32} {l : List Value} (h : zh_2[i]? = some (t, l)) (ht : 9 ≤ t ∧ t ≤ 11) (hj : zi_in j l.length = true) (hq : l[j.toNatClampNeg]? = some (.ref (q + 1))) : zi_aald (zm_mk μ) j i = some (.ref (q + 1)) := by
  unfold zi_aald
  simp only [zm_get h, ht, List.length_mapIdx, hj, and_self, decide_true, Bool.and_self, if_true, List.getElem?_mapIdx, hq, Option.map_some, zm_v]
end ZMM
theorem zm_in {k n : Nat} (h : k < n) (hn : n < 2 ^ 31) : zi_in (nI k) n = true := by
  unfold zi_in
  exact decide_eq_true (vp_in_nI h hn)
