/-! a leaf taken away; nodes that are free: pure -/
theorem zy_lvs_nodup : ∀ t, zy_wf t → (zy_ids t).Nodup → (zy_lvs t).Nodup := by
  apply zy_ind
  · intro n h
    exact h
  · intro n a b wa wb ha hb h
    have h' : (n :: (zy_ids a ++ zy_ids b)).Nodup := h
    obtain ⟨-, h2⟩ := List.nodup_cons.mp h'
    obtain ⟨da, db, dis⟩ := List.nodup_append.mp h2
    exact List.nodup_append.mpr ⟨ha da, hb db, fun x hx y hy => dis x (zy_lvs_ids a wa x hx) y (zy_lvs_ids b wb y hy)⟩
theorem zl_sub_le : ∀ (l l' : List Nat), l.Nodup → (∀ x ∈ l, x ∈ l') → l.length ≤ l'.length := by
  intro l
  induction l with
  | nil => intro l' _ _; exact Nat.zero_le _
  | cons x l ih =>
    intro l' hd h
    obtain ⟨h1, h2⟩ := List.nodup_cons.mp hd
    have hx := h x List.mem_cons_self
    have := ih (l'.erase x) h2 (fun y hy => (List.mem_erase_of_ne (fun (e : y = x) => h1 (e ▸ hy))).mpr (h y (List.mem_cons_of_mem _ hy)))
    have e := List.length_erase_of_mem hx
    have p := List.length_pos_of_mem hx
    rw [List.length_cons]
    omega
theorem zl_free : ∀ (n : Nat) (l : List Nat), l.length < n → ∃ u, u < n ∧ u ∉ l := by
  intro n l h
  by_cases c : ∃ u, u < n ∧ u ∉ l
  · exact c
  · have : ∀ u, u < n → u ∈ l := fun u hu => Decidable.byContradiction (fun hc => c ⟨u, hu, hc⟩)
    have := zl_sub_le (List.range n) l List.nodup_range (fun x hx => this x (List.mem_range.mp hx))
    rw [List.length_range] at this
    omega
theorem zt_fr_ok {μ : zm_M} {T : Nat} : ∀ (m i : Nat), (∃ u, i ≤ u ∧ u ≤ i + m ∧ μ (T + 7) u = 3) → μ (T + 7) (zt_fr μ T m i) = 3 := by
  intro m
  induction m with
  | zero =>
    intro i ⟨u, h1, h2, h3⟩
    have : u = i := by omega
    subst this
    exact h3
  | succ m ih =>
    intro i ⟨u, h1, h2, h3⟩
    unfold zt_fr
    by_cases c : μ (T + 7) i = 3
    · rw [if_pos c]; exact c
    · rw [if_neg c]
      have : u ≠ i := fun e => c (e ▸ h3)
      exact ih (i + 1) ⟨u, by omega, by omega, h3⟩
/-- a free node is found -/
theorem zt_fr_free {μ : zm_M} {T : Nat} {l : List Nat} (hf : ∀ n, n < 19 → n ∉ l → μ (T + 7) n = 3) (ho : ∀ n ∈ l, ¬ μ (T + 7) n = 3) (hl : l.length < 19) : zt_fr μ T 18 0 < 19 ∧ zt_fr μ T 18 0 ∉ l := by
  obtain ⟨u, hu, hul⟩ := zl_free 19 l hl
  have h1 := zt_fr_ok (μ := μ) (T := T) 18 0 ⟨u, by omega, by omega, hf u hu hul⟩
  have h2 := zt_fr_le (μ := μ) (T := T) 18 0
  exact ⟨by omega, fun h => ho _ h h1⟩
section ZYD
variable {fm fs sd ab fm' fs' sd' ab' : Nat → Int32}
theorem zy_del_out {n : Nat} : ∀ t, zy_wf t → n ∉ zy_ids t → zy_del n t = t := by
  apply zy_ind
  · intro m h
    rfl
  · intro c a b wa wb ha hb h
    have na : n ∉ zy_ids a := fun e => h (List.mem_cons_of_mem _ (List.mem_append_left _ e))
    have nb : n ∉ zy_ids b := fun e => h (List.mem_cons_of_mem _ (List.mem_append_right _ e))
    show (if zy_id a = n then b else if zy_id b = n then a else Std.Format.append (.tag c (zy_del n a)) (zy_del n b)) = _
    rw [if_neg (fun (e : zy_id a = n) => na (e ▸ zy_id_mem wa)), if_neg (fun (e : zy_id b = n) => nb (e ▸ zy_id_mem wb)), ha na, hb nb]
theorem zy_leaf_of {n : Nat} (hfn : fm n = 2) : ∀ a, zy_wf a → zy_ok fm fs sd ab a → zy_id a = n → a = .tag n .nil := by
  apply zy_ind
  · intro m _ e
    have e : m = n := e
    rw [e]
  · intro m x y _ _ _ _ h e
    have e : m = n := e
    subst e
    exfalso
    rcases h.1.1 with e | e <;> rw [e] at hfn <;> revert hfn <;> decide
/-- the cut above a leaf -/
theorem zy_del_perm {n q : Nat} (hfn : fm n = 2) (hn31 : n < 2 ^ 31) (hq31 : q < 2 ^ 31) : ∀ t, zy_wf t → (∀ x ∈ zy_ids t, x < 2 ^ 31) → zy_ok fm fs sd ab t → (zy_ids t).Nodup → n ∈ zy_lvs t → n ≠ zy_id t → ab n = nI q →
    zy_wf (zy_del n t) ∧ List.Perm (n :: q :: zy_ids (zy_del n t)) (zy_ids t) ∧ List.Perm (n :: zy_lvs (zy_del n t)) (zy_lvs t) ∧ List.Perm (q :: zy_cts (zy_del n t)) (zy_cts t) := by
  apply zy_ind
  · intro m _ _ _ hn hne
    have : n = m := by simpa [zy_lvs] using hn
    exact absurd this hne
  · intro c a b wa wb ha hb hlt h hd hn hne hab
    have ma : ∀ x ∈ zy_ids a, x ∈ zy_ids (.append (.tag c a) b) := fun x hx => List.mem_cons_of_mem _ (List.mem_append_left _ hx)
    have mb : ∀ x ∈ zy_ids b, x ∈ zy_ids (.append (.tag c a) b) := fun x hx => List.mem_cons_of_mem _ (List.mem_append_right _ hx)
    have hd' : (c :: (zy_ids a ++ zy_ids b)).Nodup := hd
    obtain ⟨hc, hd2⟩ := List.nodup_cons.mp hd'
    obtain ⟨da, db, dis⟩ := List.nodup_append.mp hd2
    obtain ⟨⟨q1, q2, q3, q4, q5⟩, oa, ob⟩ := h
    have c31 := hlt c List.mem_cons_self
    have leafA : zy_id a = n → a = .tag n .nil := zy_leaf_of hfn a wa oa
    have leafB : zy_id b = n → b = .tag n .nil := zy_leaf_of hfn b wb ob
    have r4 : zy_ids (.append (.tag c a) b) = c :: (zy_ids a ++ zy_ids b) := rfl
    have r5 : zy_lvs (.append (.tag c a) b) = zy_lvs a ++ zy_lvs b := rfl
    have r6 : zy_cts (.append (.tag c a) b) = c :: (zy_cts a ++ zy_cts b) := rfl
    have r0 : zy_del n (.append (.tag c a) b) = if zy_id a = n then b else if zy_id b = n then a else .append (.tag c (zy_del n a)) (zy_del n b) := rfl
    rw [r0, r4, r5, r6]
    by_cases ea : zy_id a = n
    · rw [if_pos ea]
      have hcq : c = q := (nI_eq c31 hq31).mp (by rw [← hab, ← ea]; exact q4.symm)
      rw [leafA ea]
      subst hcq
      exact ⟨wb, List.Perm.swap _ _ _, List.Perm.refl _, List.Perm.refl _⟩
    · rw [if_neg ea]
      by_cases eb : zy_id b = n
      · rw [if_pos eb]
        have hcq : c = q := (nI_eq c31 hq31).mp (by rw [← hab, ← eb]; exact q5.symm)
        rw [leafB eb]
        subst hcq
        refine ⟨wa, ?_, List.perm_append_comm (l₁ := [n]), ?_⟩
        · refine (List.Perm.swap _ _ _).trans (List.Perm.cons c ?_)
          exact List.perm_append_comm (l₁ := [n])
        · show List.Perm _ (c :: (zy_cts a ++ []))
          rw [List.append_nil]
      · rw [if_neg eb]
        have hn' : n ∈ zy_lvs a ++ zy_lvs b := hn
        rcases List.mem_append.mp hn' with hn' | hn'
        · have hnb : n ∉ zy_ids b := fun e => dis n (zy_lvs_ids a wa n hn') n e rfl
          rw [zy_del_out b wb hnb]
          obtain ⟨p0, p1, p2, p3⟩ := ha (fun x hx => hlt x (ma x hx)) oa da hn' (fun e => ea e.symm) hab
          refine ⟨⟨p0, wb⟩, ?_, ?_, ?_⟩
          · show List.Perm (n :: q :: c :: (zy_ids (zy_del n a) ++ zy_ids b)) (c :: (zy_ids a ++ zy_ids b))
            have k := (p1.append_right (zy_ids b)).cons c
            refine List.Perm.trans ?_ k
            have : List.Perm (n :: q :: c :: (zy_ids (zy_del n a) ++ zy_ids b)) (n :: c :: q :: (zy_ids (zy_del n a) ++ zy_ids b)) := (List.Perm.swap c q _).cons n
            exact this.trans (List.Perm.swap c n _)
          · exact p2.append_right (zy_lvs b)
          · show List.Perm (q :: c :: (zy_cts (zy_del n a) ++ zy_cts b)) (c :: (zy_cts a ++ zy_cts b))
            exact (List.Perm.swap c q _).trans ((p3.append_right (zy_cts b)).cons c)
        · have hna : n ∉ zy_ids a := fun e => dis n e n (zy_lvs_ids b wb n hn') rfl
          rw [zy_del_out a wa hna]
          obtain ⟨p0, p1, p2, p3⟩ := hb (fun x hx => hlt x (mb x hx)) ob db hn' (fun e => eb e.symm) hab
          refine ⟨⟨wa, p0⟩, ?_, ?_, ?_⟩
          · show List.Perm (n :: q :: c :: (zy_ids a ++ zy_ids (zy_del n b))) (c :: (zy_ids a ++ zy_ids b))
            have k := (p1.append_left (zy_ids a)).cons c
            refine List.Perm.trans ?_ k
            have k1 : List.Perm (n :: q :: c :: (zy_ids a ++ zy_ids (zy_del n b))) (n :: c :: q :: (zy_ids a ++ zy_ids (zy_del n b))) := (List.Perm.swap c q _).cons n
            refine k1.trans ((List.Perm.swap c n _).trans (List.Perm.cons c ?_))
            refine List.Perm.trans (List.Perm.cons n List.perm_middle.symm) ?_
            exact List.perm_middle.symm
          · exact List.perm_middle.symm.trans (p2.append_left (zy_lvs a))
          · show List.Perm (q :: c :: (zy_cts a ++ zy_cts (zy_del n b))) (c :: (zy_cts a ++ zy_cts b))
            refine (List.Perm.swap c q _).trans (List.Perm.cons c ?_)
            exact List.perm_middle.symm.trans (p3.append_left (zy_cts a))
/-- the leaf n and the cut q above it are taken away; j is the other one below q -/
theorem zy_ok_del {n q j : Nat} (hfn : fm n = 2) (hfq : ¬ fm q = 2) (hn31 : n < 2 ^ 31) (hq31 : q < 2 ^ 31) (hj31 : j < 2 ^ 31) (hnj : n ≠ j) (habj : ab' j = ab q) (hj : ab j = nI q) (habn : ab n = nI q) (hqn : (fs q = nI n ∧ sd q = nI j) ∨ (fs q = nI j ∧ sd q = nI n)) :
    ∀ t, zy_wf t → (zy_ids t).Nodup → (∀ x ∈ zy_ids t, x < 2 ^ 31) → n ≠ zy_id t → (∀ x ∈ zy_ids t, x ≠ n → x ≠ q → fm' x = fm x) → (∀ c ∈ zy_cts t, c ≠ q → fs' c = (if fs c = nI q then nI j else fs c) ∧ sd' c = (if sd c = nI q then nI j else sd c)) → (∀ x ∈ zy_ids t, x ≠ j → ab' x = ab x) → zy_ok fm fs sd ab t →
      zy_ok fm' fs' sd' ab' (zy_del n t) ∧ zy_id (zy_del n t) = if zy_id t = q then j else zy_id t := by
  apply zy_ind
  · intro m hd hlt hne h1 h2 h3 h
    have h : fm m = 2 := h
    have e : m ≠ q := fun e => hfq (e ▸ h)
    refine ⟨?_, ?_⟩
    · exact (h1 m List.mem_cons_self (fun e => hne e.symm) e).trans h
    · show m = if m = q then j else m
      rw [if_neg e]
  · intro c a b wa wb iha ihb hd hlt hne h1 h2 h3 h
    have ma : ∀ x ∈ zy_ids a, x ∈ zy_ids (.append (.tag c a) b) := fun x hx => List.mem_cons_of_mem _ (List.mem_append_left _ hx)
    have mb : ∀ x ∈ zy_ids b, x ∈ zy_ids (.append (.tag c a) b) := fun x hx => List.mem_cons_of_mem _ (List.mem_append_right _ hx)
    have ka : ∀ x ∈ zy_cts a, x ∈ zy_cts (.append (.tag c a) b) := fun x hx => List.mem_cons_of_mem _ (List.mem_append_left _ hx)
    have kb : ∀ x ∈ zy_cts b, x ∈ zy_cts (.append (.tag c a) b) := fun x hx => List.mem_cons_of_mem _ (List.mem_append_right _ hx)
    have hd' : (c :: (zy_ids a ++ zy_ids b)).Nodup := hd
    obtain ⟨hc, hd2⟩ := List.nodup_cons.mp hd'
    obtain ⟨da, db, dis⟩ := List.nodup_append.mp hd2
    obtain ⟨⟨q1, q2, q3, q4, q5⟩, oa, ob⟩ := h
    have c31 := hlt c List.mem_cons_self
    have a31 := hlt _ (ma _ (zy_id_mem wa))
    have b31 := hlt _ (mb _ (zy_id_mem wb))
    have ca : ∀ x ∈ zy_ids a, x ≠ c := fun x hx e => hc (e ▸ List.mem_append_left _ hx)
    have cb : ∀ x ∈ zy_ids b, x ≠ c := fun x hx e => hc (e ▸ List.mem_append_right _ hx)
    have r0 : zy_del n (.append (.tag c a) b) = if zy_id a = n then b else if zy_id b = n then a else .append (.tag c (zy_del n a)) (zy_del n b) := rfl
    have hid : zy_id (.append (.tag c a) b) = c := rfl
    rw [r0, hid]
    by_cases ea : zy_id a = n
    · rw [if_pos ea]
      have hcq : c = q := (nI_eq c31 hq31).mp (by rw [← habn, ← ea]; exact q4.symm)
      subst hcq
      have hbj : zy_id b = j := by
        rcases hqn with ⟨_, e⟩ | ⟨e, _⟩
        · exact (nI_eq b31 hj31).mp (q3.symm.trans e)
        · rw [q2, ea] at e
          exact absurd ((nI_eq hn31 hj31).mp e) hnj
      refine ⟨zy_ok_congr b wb db (fun x hx => h1 x (mb x hx) (fun e => dis n (ea ▸ zy_id_mem wa) x hx e.symm) (cb x hx)) (fun c' hc' => ?_) (fun x hx hne2 => h3 x (mb x hx) (fun e => hne2 (e.trans hbj.symm))) ob, ?_⟩
      · obtain ⟨-, i, hi, i2, hi2, e1, e2, -⟩ := zy_ok_ct b wb ob c' hc'
        obtain ⟨f1, f2⟩ := h2 c' (kb c' hc') (cb c' (zy_cts_ids b wb c' hc'))
        rw [f1, f2, e1, e2, if_neg (fun e => cb i hi ((nI_eq (hlt i (mb i hi)) c31).mp e)), if_neg (fun e => cb i2 hi2 ((nI_eq (hlt i2 (mb i2 hi2)) c31).mp e))]
        exact ⟨rfl, rfl⟩
      · rw [if_pos rfl]; exact hbj
    · rw [if_neg ea]
      by_cases eb : zy_id b = n
      · rw [if_pos eb]
        have hcq : c = q := (nI_eq c31 hq31).mp (by rw [← habn, ← eb]; exact q5.symm)
        subst hcq
        have haj : zy_id a = j := by
          rcases hqn with ⟨_, e⟩ | ⟨e, _⟩
          · rw [q3, eb] at e
            exact absurd ((nI_eq hn31 hj31).mp e) hnj
          · exact (nI_eq a31 hj31).mp (q2.symm.trans e)
        refine ⟨zy_ok_congr a wa da (fun x hx => h1 x (ma x hx) (fun e => dis x hx n (eb ▸ zy_id_mem wb) e) (ca x hx)) (fun c' hc' => ?_) (fun x hx hne2 => h3 x (ma x hx) (fun e => hne2 (e.trans haj.symm))) oa, ?_⟩
        · obtain ⟨-, i, hi, i2, hi2, e1, e2, -⟩ := zy_ok_ct a wa oa c' hc'
          obtain ⟨f1, f2⟩ := h2 c' (ka c' hc') (ca c' (zy_cts_ids a wa c' hc'))
          rw [f1, f2, e1, e2, if_neg (fun e => ca i hi ((nI_eq (hlt i (ma i hi)) c31).mp e)), if_neg (fun e => ca i2 hi2 ((nI_eq (hlt i2 (ma i2 hi2)) c31).mp e))]
          exact ⟨rfl, rfl⟩
        · rw [if_pos rfl]; exact haj
      · rw [if_neg eb]
        have hcq : c ≠ q := by
          intro e
          subst e
          rcases hqn with ⟨e, _⟩ | ⟨_, e⟩
          · rw [q2] at e
            exact ea ((nI_eq a31 hn31).mp e)
          · rw [q3] at e
            exact eb ((nI_eq b31 hn31).mp e)
        have cn : c ≠ n := by
          intro e
          subst e
          rcases q1 with e | e <;> rw [e] at hfn <;> revert hfn <;> decide
        have aj : zy_id a ≠ j := fun e => hcq ((nI_eq c31 hq31).mp (by rw [← hj, ← e]; exact q4.symm))
        have bj : zy_id b ≠ j := fun e => hcq ((nI_eq c31 hq31).mp (by rw [← hj, ← e]; exact q5.symm))
        obtain ⟨ra, ia⟩ := iha da (fun x hx => hlt x (ma x hx)) (fun e => ea e.symm) (fun x hx => h1 x (ma x hx)) (fun x hx => h2 x (ka x hx)) (fun x hx => h3 x (ma x hx)) oa
        obtain ⟨rb, ib⟩ := ihb db (fun x hx => hlt x (mb x hx)) (fun e => eb e.symm) (fun x hx => h1 x (mb x hx)) (fun x hx => h2 x (kb x hx)) (fun x hx => h3 x (mb x hx)) ob
        obtain ⟨f1, f2⟩ := h2 c List.mem_cons_self hcq
        refine ⟨⟨⟨?_, ?_, ?_, ?_, ?_⟩, ra, rb⟩, ?_⟩
        · rw [h1 c List.mem_cons_self cn hcq]; exact q1
        · rw [f1, q2, ia]
          by_cases e : zy_id a = q
          · rw [if_pos e, if_pos (by rw [e])]
          · rw [if_neg e, if_neg (fun e2 => e ((nI_eq a31 hq31).mp e2))]
        · rw [f2, q3, ib]
          by_cases e : zy_id b = q
          · rw [if_pos e, if_pos (by rw [e])]
          · rw [if_neg e, if_neg (fun e2 => e ((nI_eq b31 hq31).mp e2))]
        · rw [ia]
          by_cases e : zy_id a = q
          · rw [if_pos e, habj, ← e]; exact q4
          · rw [if_neg e, h3 _ (ma _ (zy_id_mem wa)) aj]; exact q4
        · rw [ib]
          by_cases e : zy_id b = q
          · rw [if_pos e, habj, ← e]; exact q5
          · rw [if_neg e, h3 _ (mb _ (zy_id_mem wb)) bj]; exact q5
        · rw [if_neg hcq]
          rfl
end ZYD
