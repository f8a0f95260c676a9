/-! what abstract cells stand for -/
def zi_cv (ρ : Nat → Int32) (b : Nat) (as : List Nat) (v : Value) : Value := match v with
  | .ref 0 => .ref b
  | .ref (i + 1) => .ref (as.getD i 0)
  | .float k => .int (ρ k.toNat)
  | v => v
def zi_iv (ρ : Nat → Int32) (v : Value) : Int32 := match v with
  | .int x => x
  | .float k => ρ k.toNat
  | _ => 0
def zi_rv (as : List Nat) (v : Value) : Option Nat := match v with
  | .ref (i + 1) => some (as.getD i 0)
  | _ => none
def zi_ce (ρ : Nat → Int32) (b : Nat) (as : List Nat) (cy : Nat → ClassId) (c : Nat × List Value) : va_E :=
  if c.1 < 7 then .inr (c.1, c.2.map (zi_cv ρ b as))
  else if c.1 < 9 then .inl (cy c.1, c.2.length, .inl (fun i => zi_iv ρ (c.2.getD i (.int 0))))
  else .inl (cy c.1, c.2.length, .inr (.inr (.inr (.inr (fun i => zi_rv as (c.2.getD i .null))))))
def zi_w (ρ : Nat → Int32) (b : Nat) (as : List Nat) (cy : Nat → ClassId) (h : zi_Hp) : va_W := h.mapIdx (fun i c => (as.getD i 0, zi_ce ρ b as cy c))
def zi_lc (ρ : Nat → Int32) (b : Nat) (as : List Nat) (L : zi_Lc) : List (Nat × Value) := L.map (fun q => (q.1, zi_cv ρ b as q.2))
def zi_mem (x : Int) (l : zi_Iv) : Prop := ∃ q ∈ l, q.1 ≤ x ∧ x ≤ q.2
def zi_rho (ρ : Nat → Int32) (d : zi_Dm) : Prop := (∀ (k : Nat) (l : zi_Iv), d[k]? = some l → zi_mem (ρ k).toInt l) ∧ ρ 5 = ρ 0 &&& 31
section ZC
variable {ρ : Nat → Int32} {b : Nat} {as : List Nat} {cy : Nat → ClassId}
theorem zi_w_get {h : zi_Hp} {r : Nat} {c : Nat × List Value} (e : h[r]? = some c) : (zi_w ρ b as cy h)[r]? = some (as.getD r 0, zi_ce ρ b as cy c) := by
  unfold zi_w
  rw [List.getElem?_mapIdx, e]
  rfl
theorem zi_w_set {h : zi_Hp} {r : Nat} {c : Nat × List Value} : zi_w ρ b as cy (h.set r c) = (zi_w ρ b as cy h).set r (as.getD r 0, zi_ce ρ b as cy c) := by
  unfold zi_w
  rw [List.mapIdx_set]
theorem zi_cv_cat (v : Value) : (zi_cv ρ b as v).category = v.category := by
  unfold zi_cv
  split <;> first | rfl | simp [Value.category]
theorem zi_cv_grow {qs : List Nat} {v : Value} (h : zi_wfv as.length v = true) : zi_cv ρ b (as ++ qs) v = zi_cv ρ b as v := by
  unfold zi_cv
  split
  · rfl
  · rename_i i
    have hi : i < as.length := by simpa [zi_wfv] using h
    simp [List.getElem?_append_left hi]
  · rfl
  · rfl
theorem zi_rv_grow {qs : List Nat} {v : Value} (h : zi_wfv as.length v = true) : zi_rv (as ++ qs) v = zi_rv as v := by
  unfold zi_rv
  split
  · rename_i i
    have hi : i < as.length := by simpa [zi_wfv] using h
    simp [List.getElem?_append_left hi]
  · rfl
theorem zi_cvl_grow {qs : List Nat} {l : List Value} (h : zi_wfl as.length l = true) : l.map (zi_cv ρ b (as ++ qs)) = l.map (zi_cv ρ b as) := by
  apply List.map_congr_left
  intro v hv
  exact zi_cv_grow (List.all_eq_true.mp h v hv)
theorem zi_lc_grow {qs : List Nat} {L : zi_Lc} (h : zi_wfc as.length L = true) : zi_lc ρ b (as ++ qs) L = zi_lc ρ b as L := by
  apply List.map_congr_left
  intro q hq
  rw [zi_cv_grow (List.all_eq_true.mp h q hq)]
theorem zi_ce_grow {qs : List Nat} {c : Nat × List Value} (h : (c.1 == 7 || c.1 == 8 || zi_wfl as.length c.2) = true) : zi_ce ρ b (as ++ qs) cy c = zi_ce ρ b as cy c := by
  obtain ⟨t, l⟩ := c
  unfold zi_ce
  dsimp only
  split
  · rename_i ht
    have h2 : zi_wfl as.length l = true := by
      simp only [Bool.or_eq_true, beq_iff_eq] at h
      rcases h with (h | h) | h
      · omega
      · omega
      · exact h
    rw [zi_cvl_grow h2]
  · split
    · rfl
    · rename_i h1 h2
      have h3 : zi_wfl as.length l = true := by
        simp only [Bool.or_eq_true, beq_iff_eq] at h
        rcases h with (h | h) | h
        · omega
        · omega
        · exact h
      have e : (fun i => zi_rv (as ++ qs) (l.getD i .null)) = (fun i => zi_rv as (l.getD i .null)) := by
        funext i
        apply zi_rv_grow
        by_cases hi : i < l.length
        · have : l.getD i .null ∈ l := by simp [List.getD_eq_getElem?_getD, hi]
          exact List.all_eq_true.mp h3 _ this
        · simp [List.getD_eq_getElem?_getD, List.getElem?_eq_none (Nat.not_lt.mp hi), zi_wfv]
      rw [e]
theorem zi_w_grow {qs : List Nat} {h cs : zi_Hp} (hl : as.length = h.length) (hw : zi_wfh h = true) : zi_w ρ b (as ++ qs) cy (h ++ cs) = zi_w ρ b as cy h ++ cs.mapIdx (fun i c => (qs.getD i 0, zi_ce ρ b (as ++ qs) cy c)) := by
  unfold zi_w
  rw [List.mapIdx_append]
  congr 1
  · apply List.ext_getElem?
    intro i
    rw [List.getElem?_mapIdx, List.getElem?_mapIdx]
    cases hi : h[i]? with
    | none => rfl
    | some c =>
      have hlt : i < as.length := by rw [hl]; exact (List.getElem?_eq_some_iff.mp hi).1
      have hm : c ∈ h := List.mem_of_getElem? hi
      have h2 := List.all_eq_true.mp hw c hm
      rw [← hl] at h2
      simp only [Option.map_some]
      rw [zi_ce_grow h2]
      simp [List.getD_eq_getElem?_getD, List.getElem?_append_left hlt]
  · apply List.ext_getElem?
    intro i
    rw [List.getElem?_mapIdx, List.getElem?_mapIdx]
    cases cs[i]? with
    | none => rfl
    | some c =>
      simp [List.getD_eq_getElem?_getD, ← hl, List.getElem?_append_right]
theorem zi_clip_mem {lo hi x : Int} {l : zi_Iv} (h : zi_mem x l) (h1 : lo ≤ x) (h2 : x ≤ hi) : zi_mem x (zi_clip lo hi l) := by
  obtain ⟨q, hq, a, c⟩ := h
  refine ⟨(max q.1 lo, min q.2 hi), List.mem_filterMap.mpr ⟨q, hq, if_pos (by omega)⟩, by dsimp only; omega, by dsimp only; omega⟩
theorem zi_mem_app {x : Int} {l r : zi_Iv} : zi_mem x (l ++ r) ↔ zi_mem x l ∨ zi_mem x r := by
  unfold zi_mem
  constructor
  · rintro ⟨q, hq, h⟩
    rcases List.mem_append.mp hq with h1 | h1
    · exact Or.inl ⟨q, h1, h⟩
    · exact Or.inr ⟨q, h1, h⟩
  · rintro (⟨q, hq, h⟩ | ⟨q, hq, h⟩)
    · exact ⟨q, List.mem_append_left _ hq, h⟩
    · exact ⟨q, List.mem_append_right _ hq, h⟩
/-- the condition over whole numbers -/
def zi_hold (c : ClassFile.Cond) (x v : Int) : Prop := match c with
  | .eq => x = v | .ne => ¬ x = v | .lt => x < v | .ge => v ≤ x | .gt => v < x | .le => x ≤ v
theorem zi_T_mem {c : ClassFile.Cond} {x v : Int} {l : zi_Iv} (h : zi_mem x l) (lo : -2147483648 ≤ x) (hi : x ≤ 2147483647) (hc : zi_hold c x v) : zi_mem x (zi_T c v l) := by
  cases c <;> simp only [zi_hold] at hc <;> simp only [zi_T]
  · exact zi_clip_mem h (by omega) (by omega)
  · rw [zi_mem_app]
    rcases Int.lt_or_gt_of_ne hc with h1 | h1
    · exact Or.inl (zi_clip_mem h lo (by omega))
    · exact Or.inr (zi_clip_mem h (by omega) hi)
  · exact zi_clip_mem h lo (by omega)
  · exact zi_clip_mem h (by omega) hi
  · exact zi_clip_mem h (by omega) hi
  · exact zi_clip_mem h lo (by omega)
theorem zi_hold_neg (c : ClassFile.Cond) (x v : Int) : zi_hold c x v ∨ zi_hold (zi_neg c) x v := by
  cases c <;> simp only [zi_hold, zi_neg] <;> omega
theorem zi_cmp_hold {c : ClassFile.Cond} {x y : Int32} : zi_cmp c x y = true ↔ zi_hold c x.toInt y.toInt := by
  cases c <;> simp only [zi_cmp, zi_hold, decide_eq_true_eq, Int32.lt_iff_toInt_lt, Int32.le_iff_toInt_le, Int32.toInt_inj]
theorem zi_hold_swap {c : ClassFile.Cond} {x y : Int} : zi_hold (zi_swap c) x y ↔ zi_hold c y x := by
  cases c <;> simp only [zi_hold, zi_swap] <;> omega
theorem zi_rho_set {d : zi_Dm} {k : Nat} {l : zi_Iv} (h : zi_rho ρ d) (hm : zi_mem (ρ k).toInt l) : zi_rho ρ (d.set k l) := by
  refine ⟨fun j l' hj => ?_, h.2⟩
  rw [List.getElem?_set] at hj
  split at hj
  · rename_i e
    subst e
    split at hj
    · cases hj; exact hm
    · cases hj
  · exact h.1 j l' hj
theorem zi_lo (x : Int32) : -2147483648 ≤ x.toInt := by have := x.le_toInt; simpa using this
theorem zi_hi (x : Int32) : x.toInt ≤ 2147483647 := by have := x.toInt_lt; omega
theorem zi_nm_cv {d : zi_Dm} (h : zi_rho ρ d) (v : Value) : zi_cv ρ b as (zi_nm d v) = zi_cv ρ b as v := by
  unfold zi_nm
  split
  · rename_i k
    split
    · rename_i q hq
      split
      · rename_i e
        obtain ⟨q', hq', h1, h2⟩ := h.1 _ _ hq
        rw [List.mem_singleton.mp hq'] at h1 h2
        have : (ρ k.toNat).toInt = q.1 := by omega
        simp only [zi_cv]
        rw [← this, Int32.ofInt_toInt]
      · rfl
    · rfl
  · rfl
theorem zi_nm_iv {d : zi_Dm} (h : zi_rho ρ d) (v : Value) : zi_iv ρ (zi_nm d v) = zi_iv ρ v := by
  unfold zi_nm
  split
  · rename_i k
    split
    · rename_i q hq
      split
      · rename_i e
        obtain ⟨q', hq', h1, h2⟩ := h.1 _ _ hq
        rw [List.mem_singleton.mp hq'] at h1 h2
        have : (ρ k.toNat).toInt = q.1 := by omega
        simp only [zi_iv]
        rw [← this, Int32.ofInt_toInt]
      · rfl
    · rfl
  · rfl
theorem zi_cv_iv {v : Value} (h : zi_isI v = true) : zi_cv ρ b as v = .int (zi_iv ρ v) := by
  unfold zi_isI at h
  split at h
  · rfl
  · rfl
  · cases h
theorem zi_nm_isI {d : zi_Dm} {k : UInt32} : zi_isI (zi_nm d (.float k)) = true := by
  simp only [zi_nm]
  split
  · split <;> rfl
  · rfl
theorem zi_vals_mem {x : Int} {l : zi_Iv} (h : zi_mem x l) : x ∈ zi_vals l := by
  obtain ⟨q, hq, h1, h2⟩ := h
  refine List.mem_flatMap.mpr ⟨q, hq, List.mem_map.mpr ⟨(x - q.1).toNat, List.mem_range.mpr (by omega), by omega⟩⟩
theorem zi_get_at {L : zi_Lc} {k : Nat} {v : Value} {ls : Array Slot} {nL : Nat} (hl : lv_has ls nL (zi_lc ρ b as L)) (h : zi_get L k = some v) : ls[k]? = some (.val (zi_cv ρ b as v)) := by
  unfold zi_get at h
  obtain ⟨q, hq, e⟩ := Option.map_eq_some_iff.mp h
  have hm := List.mem_of_find?_eq_some hq
  have hk : q.1 = k := by simpa using List.find?_some hq
  have := hl.2.2 (q.1, zi_cv ρ b as q.2) (List.mem_map.mpr ⟨q, hm, rfl⟩)
  rw [← e, ← hk]
  exact this
theorem zi_set_lc {L : zi_Lc} {k : Nat} {v : Value} : (k, zi_cv ρ b as v) :: (zi_lc ρ b as L).filter (fun q => !(q.1 == k) && !(q.1 + 1 == k && q.2.category == 2)) = zi_lc ρ b as (zi_set L k v) := by
  unfold zi_lc zi_set
  rw [List.map_cons, List.filter_map]
  congr 2
  apply List.filter_congr
  intro q _
  simp only [Function.comp, zi_cv_cat]
theorem zi_set2_lc {L : zi_Lc} {k : Nat} {v : Value} : (k, zi_cv ρ b as v) :: (zi_lc ρ b as L).filter (fun q => !(q.1 == k) && (!(q.1 == k + 1) && !(q.1 + 1 == k && q.2.category == 2))) = zi_lc ρ b as (zi_set2 L k v) := by
  unfold zi_lc zi_set2
  rw [List.map_cons, List.filter_map]
  congr 2
  apply List.filter_congr
  intro q _
  simp only [Function.comp, zi_cv_cat]
theorem zi_bind_some {α : Type} {xs : List α} {k : α → Option (List zi_Out)} {os : List zi_Out} (h : zi_bind xs k = some os) : ∀ x ∈ xs, ∃ o, k x = some o ∧ ∀ y ∈ o, y ∈ os := by
  induction xs generalizing os with
  | nil => intro x hx; cases hx
  | cons x xs ih =>
    simp only [zi_bind] at h
    split at h
    · cases h
    · rename_i a ha
      split at h
      · cases h
      · rename_i c hc
        cases h
        intro y hy
        rcases List.mem_cons.mp hy with e | e
        · subst e
          exact ⟨a, ha, fun z hz => List.mem_append_left _ hz⟩
        · obtain ⟨o, h1, h2⟩ := ih hc y e
          exact ⟨o, h1, fun z hz => List.mem_append_right _ (h2 z hz)⟩
end ZC
