/-! a leaf replaced, a leaf taken away: pure -/
def zy_cts : zy_F → List Nat
  | .append (.tag n a) b => n :: (zy_cts a ++ zy_cts b)
  | _ => []
def zy_sub (n : Nat) (s : zy_F) : zy_F → zy_F
  | .append (.tag c a) b => .append (.tag c (zy_sub n s a)) (zy_sub n s b)
  | .tag m x => if m = n then s else .tag m x
  | t => t
def zy_del (n : Nat) : zy_F → zy_F
  | .append (.tag c a) b => if zy_id a = n then b else if zy_id b = n then a else .append (.tag c (zy_del n a)) (zy_del n b)
  | t => t
theorem zy_cts_ids : ∀ t, zy_wf t → ∀ n ∈ zy_cts t, n ∈ zy_ids t := by
  apply zy_ind
  · intro n m h
    cases h
  · intro n a b _ _ ha hb m h
    rcases List.mem_cons.mp h with rfl | h
    · exact List.mem_cons_self
    · rcases List.mem_append.mp h with h | h
      · exact List.mem_cons_of_mem _ (List.mem_append_left _ (ha m h))
      · exact List.mem_cons_of_mem _ (List.mem_append_right _ (hb m h))
theorem zy_ids_or : ∀ t, zy_wf t → ∀ n ∈ zy_ids t, n ∈ zy_cts t ∨ n ∈ zy_lvs t := by
  apply zy_ind
  · intro n m h
    exact Or.inr h
  · intro n a b _ _ ha hb m h
    rcases List.mem_cons.mp h with rfl | h
    · exact Or.inl List.mem_cons_self
    · rcases List.mem_append.mp h with h | h
      · rcases ha m h with h | h
        · exact Or.inl (List.mem_cons_of_mem _ (List.mem_append_left _ h))
        · exact Or.inr (List.mem_append_left _ h)
      · rcases hb m h with h | h
        · exact Or.inl (List.mem_cons_of_mem _ (List.mem_append_right _ h))
        · exact Or.inr (List.mem_append_right _ h)
theorem zy_sub_out {n : Nat} {s : zy_F} : ∀ t, zy_wf t → n ∉ zy_lvs t → zy_sub n s t = t := by
  apply zy_ind
  · intro m h
    show (if m = n then s else _) = _
    rw [if_neg]
    intro e
    subst e
    exact h List.mem_cons_self
  · intro c a b _ _ ha hb h
    show Std.Format.append (.tag c (zy_sub n s a)) (zy_sub n s b) = _
    rw [ha (fun e => h (List.mem_append_left _ e)), hb (fun e => h (List.mem_append_right _ e))]
theorem zy_sub_wf {n : Nat} {s : zy_F} (hs : zy_wf s) : ∀ t, zy_wf t → zy_wf (zy_sub n s t) := by
  apply zy_ind
  · intro m
    show zy_wf (if m = n then s else _)
    split
    · exact hs
    · trivial
  · intro c a b _ _ ha hb
    exact ⟨ha, hb⟩
theorem zy_sub_perm {n : Nat} {s : zy_F} : ∀ t, zy_wf t → (zy_ids t).Nodup → n ∈ zy_lvs t → List.Perm (n :: zy_ids (zy_sub n s t)) (zy_ids s ++ zy_ids t) ∧ List.Perm (n :: zy_lvs (zy_sub n s t)) (zy_lvs s ++ zy_lvs t) ∧ List.Perm (zy_cts (zy_sub n s t)) (zy_cts s ++ zy_cts t) := by
  apply zy_ind
  · intro m hd h
    have : n = m := by simpa [zy_lvs] using h
    subst this
    have e : zy_sub n s (.tag n .nil) = s := if_pos rfl
    rw [e]
    refine ⟨List.perm_append_comm (l₁ := [n]), List.perm_append_comm (l₁ := [n]), ?_⟩
    show List.Perm _ (zy_cts s ++ [])
    rw [List.append_nil]
  · intro c a b wa wb ha hb hd h
    have hd' : (c :: (zy_ids a ++ zy_ids b)).Nodup := hd
    obtain ⟨-, hd2⟩ := List.nodup_cons.mp hd'
    obtain ⟨da, db, dis⟩ := List.nodup_append.mp hd2
    have h' : n ∈ zy_lvs a ++ zy_lvs b := h
    have r1 : zy_ids (zy_sub n s (.append (.tag c a) b)) = c :: (zy_ids (zy_sub n s a) ++ zy_ids (zy_sub n s b)) := rfl
    have r2 : zy_lvs (zy_sub n s (.append (.tag c a) b)) = zy_lvs (zy_sub n s a) ++ zy_lvs (zy_sub n s b) := rfl
    have r3 : zy_cts (zy_sub n s (.append (.tag c a) b)) = c :: (zy_cts (zy_sub n s a) ++ zy_cts (zy_sub n s b)) := rfl
    have r4 : zy_ids (.append (.tag c a) b) = c :: (zy_ids a ++ zy_ids b) := rfl
    have r5 : zy_lvs (.append (.tag c a) b) = zy_lvs a ++ zy_lvs b := rfl
    have r6 : zy_cts (.append (.tag c a) b) = c :: (zy_cts a ++ zy_cts b) := rfl
    rw [r1, r2, r3, r4, r5, r6]
    rcases List.mem_append.mp h' with h' | h'
    · obtain ⟨p1, p2, p3⟩ := ha da h'
      have hb' : n ∉ zy_lvs b := fun e => dis n (zy_lvs_ids a wa n h') n (zy_lvs_ids b wb n e) rfl
      rw [zy_sub_out b wb hb']
      refine ⟨?_, ?_, ?_⟩
      · have q := (p1.append_right (zy_ids b)).cons c
        refine (List.Perm.swap c n _).trans (q.trans ?_)
        rw [List.append_assoc]
        exact List.perm_middle.symm
      · have q := p2.append_right (zy_lvs b)
        rw [List.append_assoc] at q
        exact q
      · have q := (p3.append_right (zy_cts b)).cons c
        refine q.trans ?_
        rw [List.append_assoc]
        exact List.perm_middle.symm
    · obtain ⟨p1, p2, p3⟩ := hb db h'
      have ha' : n ∉ zy_lvs a := fun e => dis n (zy_lvs_ids a wa n e) n (zy_lvs_ids b wb n h') rfl
      rw [zy_sub_out a wa ha']
      refine ⟨?_, ?_, ?_⟩
      · have q : List.Perm (n :: (zy_ids a ++ zy_ids (zy_sub n s b))) (zy_ids a ++ (zy_ids s ++ zy_ids b)) := List.perm_middle.symm.trans (p1.append_left (zy_ids a))
        refine (List.Perm.swap c n _).trans ((q.cons c).trans ?_)
        refine List.Perm.trans ?_ List.perm_middle.symm
        refine List.Perm.cons c ?_
        rw [← List.append_assoc, ← List.append_assoc]
        exact List.perm_append_comm.append_right _
      · have q : List.Perm (n :: (zy_lvs a ++ zy_lvs (zy_sub n s b))) (zy_lvs a ++ (zy_lvs s ++ zy_lvs b)) := List.perm_middle.symm.trans (p2.append_left (zy_lvs a))
        refine q.trans ?_
        rw [← List.append_assoc, ← List.append_assoc]
        exact List.perm_append_comm.append_right _
      · have q : List.Perm (zy_cts a ++ zy_cts (zy_sub n s b)) (zy_cts a ++ (zy_cts s ++ zy_cts b)) := p3.append_left (zy_cts a)
        refine (q.cons c).trans ?_
        refine List.Perm.trans ?_ List.perm_middle.symm
        refine List.Perm.cons c ?_
        rw [← List.append_assoc, ← List.append_assoc]
        exact List.perm_append_comm.append_right _
section ZYO
variable {fm fs sd ab fm' fs' sd' ab' : Nat → Int32}
theorem zy_ok_lf : ∀ t, zy_wf t → zy_ok fm fs sd ab t → ∀ n ∈ zy_lvs t, fm n = 2 := by
  apply zy_ind
  · intro n h m hm
    have : m = n := by simpa [zy_lvs] using hm
    subst this
    exact h
  · intro n a b _ _ ha hb h m hm
    rcases List.mem_append.mp hm with hm | hm
    · exact ha h.2.1 m hm
    · exact hb h.2.2 m hm
theorem zy_ok_ct : ∀ t, zy_wf t → zy_ok fm fs sd ab t → ∀ q ∈ zy_cts t, (fm q = 0 ∨ fm q = 1) ∧ ∃ i ∈ zy_ids t, ∃ j ∈ zy_ids t, fs q = nI i ∧ sd q = nI j ∧ ab i = nI q ∧ ab j = nI q := by
  apply zy_ind
  · intro n h m hm
    cases hm
  · intro n a b wa wb ha hb h m hm
    rcases List.mem_cons.mp hm with rfl | hm
    · exact ⟨h.1.1, zy_id a, List.mem_cons_of_mem _ (List.mem_append_left _ (zy_id_mem wa)), zy_id b, List.mem_cons_of_mem _ (List.mem_append_right _ (zy_id_mem wb)), h.1.2⟩
    · rcases List.mem_append.mp hm with hm | hm
      · obtain ⟨q1, i, hi, j, hj, q2⟩ := ha h.2.1 m hm
        exact ⟨q1, i, List.mem_cons_of_mem _ (List.mem_append_left _ hi), j, List.mem_cons_of_mem _ (List.mem_append_left _ hj), q2⟩
      · obtain ⟨q1, i, hi, j, hj, q2⟩ := hb h.2.2 m hm
        exact ⟨q1, i, List.mem_cons_of_mem _ (List.mem_append_right _ hi), j, List.mem_cons_of_mem _ (List.mem_append_right _ hj), q2⟩
theorem zy_ok_par : ∀ t, zy_wf t → zy_ok fm fs sd ab t → ∀ m ∈ zy_ids t, m ≠ zy_id t → ∃ q ∈ zy_cts t, ab m = nI q ∧ (fs q = nI m ∨ sd q = nI m) := by
  apply zy_ind
  · intro n h m hm hne
    have : m = n := by simpa [zy_ids] using hm
    exact absurd this hne
  · intro n a b wa wb ha hb h m hm hne
    rcases List.mem_cons.mp hm with e | hm
    · exact absurd e hne
    · rcases List.mem_append.mp hm with hm | hm
      · by_cases e : m = zy_id a
        · subst e
          exact ⟨n, List.mem_cons_self, h.1.2.2.2.1, Or.inl h.1.2.1⟩
        · obtain ⟨q, hq, q1⟩ := ha h.2.1 m hm e
          exact ⟨q, List.mem_cons_of_mem _ (List.mem_append_left _ hq), q1⟩
      · by_cases e : m = zy_id b
        · subst e
          exact ⟨n, List.mem_cons_self, h.1.2.2.2.2, Or.inr h.1.2.2.1⟩
        · obtain ⟨q, hq, q1⟩ := hb h.2.2 m hm e
          exact ⟨q, List.mem_cons_of_mem _ (List.mem_append_right _ hq), q1⟩
theorem zy_ok_congr : ∀ t, zy_wf t → (zy_ids t).Nodup → (∀ x ∈ zy_ids t, fm' x = fm x) → (∀ q ∈ zy_cts t, fs' q = fs q ∧ sd' q = sd q) → (∀ x ∈ zy_ids t, x ≠ zy_id t → ab' x = ab x) → zy_ok fm fs sd ab t → zy_ok fm' fs' sd' ab' t := by
  apply zy_ind
  · intro n _ h1 _ _ h
    exact (h1 n List.mem_cons_self).trans h
  · intro n a b wa wb ha hb hd h1 h2 h3 h
    have hd' : (n :: (zy_ids a ++ zy_ids b)).Nodup := hd
    obtain ⟨hn, hd2⟩ := List.nodup_cons.mp hd'
    obtain ⟨da, db, dis⟩ := List.nodup_append.mp hd2
    obtain ⟨⟨q1, q2, q3, q4, q5⟩, oa, ob⟩ := h
    have ma : ∀ x ∈ zy_ids a, x ∈ zy_ids (.append (.tag n a) b) := fun x hx => List.mem_cons_of_mem _ (List.mem_append_left _ hx)
    have mb : ∀ x ∈ zy_ids b, x ∈ zy_ids (.append (.tag n a) b) := fun x hx => List.mem_cons_of_mem _ (List.mem_append_right _ hx)
    have na : ∀ x ∈ zy_ids a, x ≠ n := fun x hx e => hn (e ▸ List.mem_append_left _ hx)
    have nb : ∀ x ∈ zy_ids b, x ≠ n := fun x hx e => hn (e ▸ List.mem_append_right _ hx)
    refine ⟨⟨?_, ?_, ?_, ?_, ?_⟩, ha da (fun x hx => h1 x (ma x hx)) (fun q hq => h2 q (List.mem_cons_of_mem _ (List.mem_append_left _ hq))) (fun x hx _ => h3 x (ma x hx) (na x hx)) oa, hb db (fun x hx => h1 x (mb x hx)) (fun q hq => h2 q (List.mem_cons_of_mem _ (List.mem_append_right _ hq))) (fun x hx _ => h3 x (mb x hx) (nb x hx)) ob⟩
    · rw [h1 n List.mem_cons_self]; exact q1
    · rw [(h2 n List.mem_cons_self).1]; exact q2
    · rw [(h2 n List.mem_cons_self).2]; exact q3
    · rw [h3 _ (ma _ (zy_id_mem wa)) (na _ (zy_id_mem wa))]; exact q4
    · rw [h3 _ (mb _ (zy_id_mem wb)) (nb _ (zy_id_mem wb))]; exact q5
theorem zy_sub_id {n : Nat} {s : zy_F} (hn : fm n = 2) : ∀ t, zy_wf t → zy_ok fm fs sd ab t → zy_id (zy_sub n s t) = if zy_id t = n then zy_id s else zy_id t := by
  apply zy_ind
  · intro m h
    show zy_id (if m = n then s else .tag m .nil) = if m = n then zy_id s else m
    split <;> rfl
  · intro c a b _ _ _ _ h
    show c = if c = n then zy_id s else c
    rw [if_neg]
    intro e
    subst e
    rcases h.1.1 with e | e <;> rw [e] at hn <;> revert hn <;> decide
/-- the leaf n is replaced by s -/
theorem zy_ok_sub {n : Nat} {s : zy_F} (hn : fm n = 2) (hn31 : n < 2 ^ 31) (hab : ab' (zy_id s) = ab n) (hs : zy_ok fm' fs' sd' ab' s) : ∀ t, zy_wf t → (∀ x ∈ zy_ids t, x < 2 ^ 31) → (∀ x ∈ zy_ids t, x ≠ n → fm' x = fm x) → (∀ q ∈ zy_cts t, fs' q = (if fs q = nI n then nI (zy_id s) else fs q) ∧ sd' q = (if sd q = nI n then nI (zy_id s) else sd q)) → (∀ x ∈ zy_ids t, x ≠ n → ab' x = ab x) → zy_ok fm fs sd ab t → zy_ok fm' fs' sd' ab' (zy_sub n s t) := by
  apply zy_ind
  · intro m _ h1 _ _ h
    show zy_ok fm' fs' sd' ab' (if m = n then s else .tag m .nil)
    by_cases e : m = n
    · rw [if_pos e]; exact hs
    · rw [if_neg e]
      exact (h1 m List.mem_cons_self e).trans h
  · intro c a b wa wb ha hb hlt h1 h2 h3 h
    obtain ⟨⟨q1, q2, q3, q4, q5⟩, oa, ob⟩ := h
    have ma : ∀ x ∈ zy_ids a, x ∈ zy_ids (.append (.tag c a) b) := fun x hx => List.mem_cons_of_mem _ (List.mem_append_left _ hx)
    have mb : ∀ x ∈ zy_ids b, x ∈ zy_ids (.append (.tag c a) b) := fun x hx => List.mem_cons_of_mem _ (List.mem_append_right _ hx)
    have cn : c ≠ n := by
      intro e
      subst e
      rcases q1 with e | e <;> rw [e] at hn <;> revert hn <;> decide
    have ia := zy_sub_id (s := s) hn a wa oa
    have ib := zy_sub_id (s := s) hn b wb ob
    have la := hlt _ (ma _ (zy_id_mem wa))
    have lb := hlt _ (mb _ (zy_id_mem wb))
    obtain ⟨f1, f2⟩ := h2 c List.mem_cons_self
    refine ⟨⟨?_, ?_, ?_, ?_, ?_⟩, ha (fun x hx => hlt x (ma x hx)) (fun x hx => h1 x (ma x hx)) (fun q hq => h2 q (List.mem_cons_of_mem _ (List.mem_append_left _ hq))) (fun x hx => h3 x (ma x hx)) oa, hb (fun x hx => hlt x (mb x hx)) (fun x hx => h1 x (mb x hx)) (fun q hq => h2 q (List.mem_cons_of_mem _ (List.mem_append_right _ hq))) (fun x hx => h3 x (mb x hx)) ob⟩
    · rw [h1 c List.mem_cons_self cn]; exact q1
    · rw [f1, q2, ia]
      by_cases e : zy_id a = n
      · rw [if_pos e, if_pos (by rw [e])]
      · rw [if_neg e, if_neg (fun e2 => e ((nI_eq la hn31).mp e2))]
    · rw [f2, q3, ib]
      by_cases e : zy_id b = n
      · rw [if_pos e, if_pos (by rw [e])]
      · rw [if_neg e, if_neg (fun e2 => e ((nI_eq lb hn31).mp e2))]
    · rw [ia]
      by_cases e : zy_id a = n
      · rw [if_pos e, hab, ← e]; exact q4
      · rw [if_neg e, h3 _ (ma _ (zy_id_mem wa)) e]; exact q4
    · rw [ib]
      by_cases e : zy_id b = n
      · rw [if_pos e, hab, ← e]; exact q5
      · rw [if_neg e, h3 _ (mb _ (zy_id_mem wb)) e]; exact q5
end ZYO
