/-! trees with some leaves left out: pure -/
def zy_nl : zy_F → Bool
  | .nil => true
  | _ => false
def zy_join (n : Nat) (a b : zy_F) : zy_F := if zy_nl a = true then b else if zy_nl b = true then a else .append (.tag n a) b
def zy_keep (p : Nat → Bool) : zy_F → zy_F
  | .append (.tag n a) b => zy_join n (zy_keep p a) (zy_keep p b)
  | .tag n .nil => if p n = true then .tag n .nil else .nil
  | _ => .nil
theorem zy_nl_wf {t : zy_F} (h : zy_wf t) : zy_nl t = false := by
  cases t <;> first | rfl | exact h.elim
theorem zy_nl_eq {t : zy_F} (h : zy_nl t = true) : t = .nil := by
  cases t <;> first | rfl | exact Bool.noConfusion h
theorem zy_join_l {n : Nat} {b : zy_F} : zy_join n .nil b = b := rfl
theorem zy_join_r {n : Nat} {a : zy_F} : zy_join n a .nil = a := by
  unfold zy_join
  by_cases h : zy_nl a = true
  · rw [if_pos h, zy_nl_eq h]
  · rw [if_neg h]; rfl
theorem zy_join_c {n : Nat} {a b : zy_F} (ha : zy_wf a) (hb : zy_wf b) : zy_join n a b = .append (.tag n a) b := by
  unfold zy_join
  rw [zy_nl_wf ha, zy_nl_wf hb, if_neg (by decide), if_neg (by decide)]
theorem zy_keep_cut {p : Nat → Bool} {n : Nat} {a b : zy_F} : zy_keep p (.append (.tag n a) b) = zy_join n (zy_keep p a) (zy_keep p b) := rfl
theorem zy_keep_leaf {p : Nat → Bool} {n : Nat} : zy_keep p (.tag n .nil) = if p n = true then .tag n .nil else .nil := rfl
theorem zy_keep_nil {p : Nat → Bool} : zy_keep p .nil = .nil := rfl
theorem zy_keep_or {p : Nat → Bool} : ∀ t, zy_wf t → zy_keep p t = .nil ∨ zy_wf (zy_keep p t) := by
  apply zy_ind
  · intro n
    rw [zy_keep_leaf]
    by_cases h : p n = true
    · rw [if_pos h]; exact Or.inr trivial
    · rw [if_neg h]; exact Or.inl rfl
  · intro n a b _ _ ha hb
    rw [zy_keep_cut]
    rcases ha with e | wa
    · rw [e, zy_join_l]; exact hb
    · rcases hb with e | wb
      · rw [e, zy_join_r]; exact Or.inr wa
      · rw [zy_join_c wa wb]; exact Or.inr ⟨wa, wb⟩
theorem zy_keep_keep {p q : Nat → Bool} : ∀ t, zy_wf t → zy_keep p (zy_keep q t) = zy_keep (fun n => p n && q n) t := by
  apply zy_ind
  · intro n
    rw [zy_keep_leaf, zy_keep_leaf]
    by_cases h : q n = true
    · rw [if_pos h, zy_keep_leaf, h, Bool.and_true]
    · rw [if_neg h, zy_keep_nil]
      have h : q n = false := by simpa using h
      rw [h, Bool.and_false]; rfl
  · intro n a b wa wb ha hb
    rw [zy_keep_cut, zy_keep_cut]
    rcases zy_keep_or (p := q) a wa with e | qa
    · rw [e, zy_join_l, ← ha, e, zy_keep_nil, zy_join_l, hb]
    · rcases zy_keep_or (p := q) b wb with e | qb
      · rw [e, zy_join_r, ← hb, e, zy_keep_nil, zy_join_r, ha]
      · rw [zy_join_c qa qb, zy_keep_cut, ha, hb]
theorem zy_keep_all {p : Nat → Bool} : ∀ t, zy_wf t → (∀ n ∈ zy_lvs t, p n = true) → zy_keep p t = t := by
  apply zy_ind
  · intro n h
    rw [zy_keep_leaf, if_pos (h n (List.mem_singleton.mpr rfl))]
  · intro n a b wa wb ha hb h
    rw [zy_keep_cut, ha (fun x hx => h x (List.mem_append_left _ hx)), hb (fun x hx => h x (List.mem_append_right _ hx)), zy_join_c wa wb]
theorem zy_keep_congr {p q : Nat → Bool} : ∀ t, zy_wf t → (∀ n ∈ zy_lvs t, p n = q n) → zy_keep p t = zy_keep q t := by
  apply zy_ind
  · intro n h
    rw [zy_keep_leaf, zy_keep_leaf, h n (List.mem_singleton.mpr rfl)]
  · intro n a b wa wb ha hb h
    rw [zy_keep_cut, zy_keep_cut, ha (fun x hx => h x (List.mem_append_left _ hx)), hb (fun x hx => h x (List.mem_append_right _ hx))]
theorem zy_keep_lvs {p : Nat → Bool} : ∀ t, zy_wf t → zy_lvs (zy_keep p t) = (zy_lvs t).filter p := by
  apply zy_ind
  · intro n
    rw [zy_keep_leaf]
    show _ = [n].filter p
    by_cases h : p n = true
    · rw [if_pos h, List.filter_cons_of_pos h]; rfl
    · rw [if_neg h, List.filter_cons_of_neg h]; rfl
  · intro n a b wa wb ha hb
    show zy_lvs (zy_keep p (.append (.tag n a) b)) = (zy_lvs a ++ zy_lvs b).filter p
    rw [zy_keep_cut, List.filter_append, ← ha, ← hb]
    rcases zy_keep_or (p := p) a wa with e | qa
    · rw [e, zy_join_l]; rfl
    · rcases zy_keep_or (p := p) b wb with e | qb
      · rw [e, zy_join_r]; exact (List.append_nil _).symm
      · rw [zy_join_c qa qb]; rfl
theorem zy_keep_ids {p : Nat → Bool} {m : Nat} : ∀ t, zy_wf t → m ∈ zy_ids (zy_keep p t) → m ∈ zy_ids t := by
  apply zy_ind
  · intro n h
    rw [zy_keep_leaf] at h
    by_cases c : p n = true
    · rw [if_pos c] at h; exact h
    · rw [if_neg c] at h; cases h
  · intro n a b wa wb ha hb h
    show m ∈ n :: (zy_ids a ++ zy_ids b)
    rw [zy_keep_cut] at h
    rcases zy_keep_or (p := p) a wa with e | qa
    · rw [e, zy_join_l] at h
      exact List.mem_cons_of_mem _ (List.mem_append_right _ (hb h))
    · rcases zy_keep_or (p := p) b wb with e | qb
      · rw [e, zy_join_r] at h
        exact List.mem_cons_of_mem _ (List.mem_append_left _ (ha h))
      · rw [zy_join_c qa qb] at h
        rcases List.mem_cons.mp h with e | h
        · rw [e]; exact List.mem_cons_self
        · rcases List.mem_append.mp h with h | h
          · exact List.mem_cons_of_mem _ (List.mem_append_left _ (ha h))
          · exact List.mem_cons_of_mem _ (List.mem_append_right _ (hb h))
theorem zy_del_wf {m : Nat} : ∀ t, zy_wf t → zy_wf (zy_del m t) := by
  apply zy_ind
  · intro n; exact trivial
  · intro n a b wa wb ha hb
    show zy_wf (if zy_id a = m then b else if zy_id b = m then a else .append (.tag n (zy_del m a)) (zy_del m b))
    by_cases c1 : zy_id a = m
    · rw [if_pos c1]; exact wb
    · rw [if_neg c1]
      by_cases c2 : zy_id b = m
      · rw [if_pos c2]; exact wa
      · rw [if_neg c2]; exact ⟨ha, hb⟩
theorem zy_out_keep {m : Nat} : ∀ t, zy_wf t → (zy_ids t).Nodup → m ∈ zy_lvs t → zy_out m t = zy_keep (fun n => decide (n ≠ m)) t := by
  apply zy_ind
  · intro n _ h
    have h : m = n := List.mem_singleton.mp h
    rw [zy_keep_leaf, decide_eq_false (not_not_intro h.symm)]
    show (if n = m then Std.Format.nil else _) = _
    rw [if_pos h.symm]; rfl
  · intro n a b wa wb ha hb hd h
    have hd' : (n :: (zy_ids a ++ zy_ids b)).Nodup := hd
    obtain ⟨h1, h2⟩ := List.nodup_cons.mp hd'
    obtain ⟨da, db, dis⟩ := List.nodup_append.mp h2
    rw [zy_keep_cut]
    have hdel : zy_del m (.append (.tag n a) b) = if zy_id a = m then b else if zy_id b = m then a else .append (.tag n (zy_del m a)) (zy_del m b) := rfl
    have hout : zy_out m (.append (.tag n a) b) = if n = m then .nil else zy_del m (.append (.tag n a) b) := rfl
    rcases List.mem_append.mp h with h | h
    · have ma := zy_lvs_ids a wa m h
      have mb : m ∉ zy_ids b := fun q => dis m ma m q rfl
      have hn : ¬ n = m := fun e => h1 (List.mem_append_left _ (e ▸ ma))
      have kb : zy_keep (fun n => decide (n ≠ m)) b = b := zy_keep_all b wb (fun x hx => decide_eq_true (fun e => mb (e ▸ zy_lvs_ids b wb x hx)))
      have ib : ¬ zy_id b = m := fun e => mb (e ▸ zy_id_mem wb)
      rw [hout, if_neg hn, hdel, kb, ← ha da h]
      unfold zy_out
      by_cases c : zy_id a = m
      · rw [if_pos c, if_pos c, zy_join_l]
      · rw [if_neg c, if_neg c, if_neg ib, zy_del_out b wb mb, zy_join_c (zy_del_wf a wa) wb]
    · have mb := zy_lvs_ids b wb m h
      have ma : m ∉ zy_ids a := fun q => dis m q m mb rfl
      have hn : ¬ n = m := fun e => h1 (List.mem_append_right _ (e ▸ mb))
      have ka : zy_keep (fun n => decide (n ≠ m)) a = a := zy_keep_all a wa (fun x hx => decide_eq_true (fun e => ma (e ▸ zy_lvs_ids a wa x hx)))
      have ia : ¬ zy_id a = m := fun e => ma (e ▸ zy_id_mem wa)
      rw [hout, if_neg hn, hdel, ka, ← hb db h, if_neg ia]
      unfold zy_out
      by_cases c : zy_id b = m
      · rw [if_pos c, if_pos c, zy_join_r]
      · rw [if_neg c, if_neg c, zy_del_out a wa ma, zy_join_c wa (zy_del_wf b wb)]
section ZYK
variable {pl pc : Nat → Nat → Prop} {p q : Nat → Bool}
theorem zy_sim_keep' : ∀ t, zy_wf t → ∀ u, zy_wf u → zy_sim (fun n m => p n = q m ∧ (p n = true → pl n m)) pc t u → (zy_keep p t = .nil ∧ zy_keep q u = .nil) ∨ (zy_wf (zy_keep p t) ∧ zy_wf (zy_keep q u) ∧ zy_sim pl pc (zy_keep p t) (zy_keep q u)) := by
  apply zy_sim_ind
  · intro n m h
    rw [zy_keep_leaf, zy_keep_leaf, ← h.1]
    by_cases c : p n = true
    · rw [if_pos c, if_pos c]; exact Or.inr ⟨trivial, trivial, h.2 c⟩
    · rw [if_neg c, if_neg c]; exact Or.inl ⟨rfl, rfl⟩
  · intro n m a b c d _ _ _ _ hpc _ _ h1 h2
    rw [zy_keep_cut, zy_keep_cut]
    rcases h1 with ⟨e1, e2⟩ | ⟨w1, w2, s1⟩
    · rw [e1, e2, zy_join_l, zy_join_l]; exact h2
    · rcases h2 with ⟨e1, e2⟩ | ⟨w3, w4, s2⟩
      · rw [e1, e2, zy_join_r, zy_join_r]; exact Or.inr ⟨w1, w2, s1⟩
      · rw [zy_join_c w1 w3, zy_join_c w2 w4]; exact Or.inr ⟨⟨w1, w3⟩, ⟨w2, w4⟩, hpc, s1, s2⟩
theorem zy_sim_keep {t u : zy_F} (wt : zy_wf t) (wu : zy_wf u) (h : zy_sim (fun n m => p n = q m ∧ (p n = true → pl n m)) pc t u) : zy_sim pl pc (zy_keep p t) (zy_keep q u) := by
  rcases zy_sim_keep' t wt u wu h with ⟨e1, e2⟩ | ⟨-, -, s⟩
  · rw [e1, e2]; exact trivial
  · exact s
end ZYK
/-- what is shown of the tabs F, g shown before, when X have gone -/
def zl_sw (F : List Nat) (g : Nat) (X : Nat → Bool) : Int32 := nI ((F.filter (fun w => !X w)).getD (min ((F.take (F.idxOf g)).filter (fun w => !X w)).length ((F.filter (fun w => !X w)).length - 1)) 0)
