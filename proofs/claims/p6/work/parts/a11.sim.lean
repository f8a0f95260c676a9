/-! two trees of the same form: pure -/
def zy_sim (pl pc : Nat → Nat → Prop) : zy_F → zy_F → Prop
  | .append (.tag n a) b, .append (.tag m c) d => pc n m ∧ zy_sim pl pc a c ∧ zy_sim pl pc b d
  | .tag n .nil, .tag m .nil => pl n m
  | .nil, .nil => True
  | _, _ => False
theorem zy_sim_nil {pl pc : Nat → Nat → Prop} {u : zy_F} (hu : u = .nil ∨ zy_wf u) (h : zy_sim pl pc .nil u) : u = .nil := by
  rcases hu with e | w
  · exact e
  · exfalso
    revert h
    exact zy_ind (P := fun u => zy_sim pl pc .nil u → False) (fun n h => h) (fun n a b _ _ _ _ h => h) u w
/-- both are trees, or none -/
theorem zy_sim_ind {pl pc : Nat → Nat → Prop} {P : zy_F → zy_F → Prop} (hl : ∀ n m, pl n m → P (.tag n .nil) (.tag m .nil)) (hc : ∀ n m a b c d, zy_wf a → zy_wf b → zy_wf c → zy_wf d → pc n m → zy_sim pl pc a c → zy_sim pl pc b d → P a c → P b d → P (.append (.tag n a) b) (.append (.tag m c) d)) : ∀ t, zy_wf t → ∀ u, zy_wf u → zy_sim pl pc t u → P t u := by
  apply zy_ind
  · intro n u wu
    revert u
    apply zy_ind
    · intro m h
      exact hl n m h
    · intro m c d _ _ _ _ h
      exact h.elim
  · intro n a b wa wb iha ihb u wu
    revert u
    apply zy_ind
    · intro m h
      exact h.elim
    · intro m c d wc wd _ _ h
      exact hc n m a b c d wa wb wc wd h.1 h.2.1 h.2.2 (iha c wc h.2.1) (ihb d wd h.2.2)
section ZSM
variable {pl pc pl' pc' : Nat → Nat → Prop}
theorem zy_sim_mono : ∀ t, zy_wf t → ∀ u, zy_wf u → zy_sim pl pc t u → (∀ n ∈ zy_lvs t, ∀ m ∈ zy_lvs u, pl n m → pl' n m) → (∀ n ∈ zy_cts t, ∀ m ∈ zy_cts u, pc n m → pc' n m) → zy_sim pl' pc' t u := by
  apply zy_sim_ind (P := fun t u => (∀ n ∈ zy_lvs t, ∀ m ∈ zy_lvs u, pl n m → pl' n m) → (∀ n ∈ zy_cts t, ∀ m ∈ zy_cts u, pc n m → pc' n m) → zy_sim pl' pc' t u)
  · intro n m h h1 _
    exact h1 n List.mem_cons_self m List.mem_cons_self h
  · intro n m a b c d _ _ _ _ h _ _ iha ihb h1 h2
    exact ⟨h2 n List.mem_cons_self m List.mem_cons_self h, iha (fun x hx y hy => h1 x (List.mem_append_left _ hx) y (List.mem_append_left _ hy)) (fun x hx y hy => h2 x (List.mem_cons_of_mem _ (List.mem_append_left _ hx)) y (List.mem_cons_of_mem _ (List.mem_append_left _ hy))), ihb (fun x hx y hy => h1 x (List.mem_append_right _ hx) y (List.mem_append_right _ hy)) (fun x hx y hy => h2 x (List.mem_cons_of_mem _ (List.mem_append_right _ hx)) y (List.mem_cons_of_mem _ (List.mem_append_right _ hy)))⟩
theorem zy_sim_len : ∀ t, zy_wf t → ∀ u, zy_wf u → zy_sim pl pc t u → (zy_ids u).length = (zy_ids t).length ∧ (zy_lvs u).length = (zy_lvs t).length := by
  apply zy_sim_ind (P := fun t u => (zy_ids u).length = (zy_ids t).length ∧ (zy_lvs u).length = (zy_lvs t).length)
  · intro n m _
    exact ⟨rfl, rfl⟩
  · intro n m a b c d _ _ _ _ _ _ _ iha ihb
    have e1 : ∀ n a b, zy_ids (.append (.tag n a) b) = n :: (zy_ids a ++ zy_ids b) := fun _ _ _ => rfl
    have e2 : ∀ n a b, zy_lvs (.append (.tag n a) b) = zy_lvs a ++ zy_lvs b := fun _ _ _ => rfl
    rw [e1, e1, e2, e2, List.length_cons, List.length_cons, List.length_append, List.length_append, List.length_append, List.length_append, iha.1, iha.2, ihb.1, ihb.2]
    exact ⟨rfl, rfl⟩
theorem zy_sim_r : ∀ t, zy_wf t → ∀ u, zy_wf u → zy_sim pl pc t u → ∀ m ∈ zy_lvs u, ∃ n ∈ zy_lvs t, pl n m := by
  apply zy_sim_ind (P := fun t u => ∀ m ∈ zy_lvs u, ∃ n ∈ zy_lvs t, pl n m)
  · intro n m h m' hm
    have : m' = m := List.mem_singleton.mp hm
    subst this
    exact ⟨n, List.mem_cons_self, h⟩
  · intro n m a b c d _ _ _ _ _ _ _ iha ihb m' hm
    rcases List.mem_append.mp hm with hm | hm
    · obtain ⟨x, hx, p⟩ := iha m' hm
      exact ⟨x, List.mem_append_left _ hx, p⟩
    · obtain ⟨x, hx, p⟩ := ihb m' hm
      exact ⟨x, List.mem_append_right _ hx, p⟩
theorem zy_sim_l : ∀ t, zy_wf t → ∀ u, zy_wf u → zy_sim pl pc t u → ∀ n ∈ zy_lvs t, ∃ m ∈ zy_lvs u, pl n m := by
  apply zy_sim_ind (P := fun t u => ∀ n ∈ zy_lvs t, ∃ m ∈ zy_lvs u, pl n m)
  · intro n m h n' hn
    have : n' = n := List.mem_singleton.mp hn
    subst this
    exact ⟨m, List.mem_cons_self, h⟩
  · intro n m a b c d _ _ _ _ _ _ _ iha ihb n' hn
    rcases List.mem_append.mp hn with hn | hn
    · obtain ⟨x, hx, p⟩ := iha n' hn
      exact ⟨x, List.mem_append_left _ hx, p⟩
    · obtain ⟨x, hx, p⟩ := ihb n' hn
      exact ⟨x, List.mem_append_right _ hx, p⟩
/-- a leaf that is known by a mark is known by it in the other tree -/
theorem zy_sim_uniq {K K' : Nat → Prop} {n0 : Nat} (hK : ∀ n m, pl n m → (K n ↔ K' m)) : ∀ t, zy_wf t → ∀ u, zy_wf u → zy_sim pl pc t u → (zy_lvs t).Nodup → (∀ n ∈ zy_lvs t, K n → n = n0) → n0 ∈ zy_lvs t → K n0 → ∃ m ∈ zy_lvs u, K' m ∧ pl n0 m ∧ ∀ m' ∈ zy_lvs u, K' m' → m' = m := by
  apply zy_sim_ind (P := fun t u => (zy_lvs t).Nodup → (∀ n ∈ zy_lvs t, K n → n = n0) → n0 ∈ zy_lvs t → K n0 → ∃ m ∈ zy_lvs u, K' m ∧ pl n0 m ∧ ∀ m' ∈ zy_lvs u, K' m' → m' = m)
  · intro n m h _ _ h1 h2
    have : n0 = n := List.mem_singleton.mp h1
    subst this
    exact ⟨m, List.mem_cons_self, (hK _ _ h).mp h2, h, fun m' hm' _ => List.mem_singleton.mp hm'⟩
  · intro n m a b c d wa wb wc wd _ sa sb iha ihb hd hu h1 h2
    have hd' : (zy_lvs a ++ zy_lvs b).Nodup := hd
    obtain ⟨da, db, dis⟩ := List.nodup_append.mp hd'
    have h1' : n0 ∈ zy_lvs a ++ zy_lvs b := h1
    rcases List.mem_append.mp h1' with h1 | h1
    · obtain ⟨m0, hm0, k1, k2, k3⟩ := iha da (fun x hx => hu x (List.mem_append_left _ hx)) h1 h2
      refine ⟨m0, List.mem_append_left _ hm0, k1, k2, fun m' hm' q => ?_⟩
      rcases List.mem_append.mp hm' with hm' | hm'
      · exact k3 m' hm' q
      · exfalso
        obtain ⟨x, hx, p⟩ := zy_sim_r b wb d wd sb m' hm'
        have := hu x (List.mem_append_right _ hx) ((hK _ _ p).mpr q)
        exact dis n0 h1 x hx this.symm
    · obtain ⟨m0, hm0, k1, k2, k3⟩ := ihb db (fun x hx => hu x (List.mem_append_right _ hx)) h1 h2
      refine ⟨m0, List.mem_append_right _ hm0, k1, k2, fun m' hm' q => ?_⟩
      rcases List.mem_append.mp hm' with hm' | hm'
      · exfalso
        obtain ⟨x, hx, p⟩ := zy_sim_r a wa c wc sa m' hm'
        have := hu x (List.mem_append_left _ hx) ((hK _ _ p).mpr q)
        exact dis x hx n0 h1 this
      · exact k3 m' hm' q
theorem zy_sim_sub {n m : Nat} {s s' : zy_F} (hs : zy_sim pl' pc' s s') : ∀ t, zy_wf t → ∀ u, zy_wf u → zy_sim (fun x y => (x = n ↔ y = m) ∧ (x ≠ n → pl' x y)) pc' t u → zy_sim pl' pc' (zy_sub n s t) (zy_sub m s' u) := by
  apply zy_sim_ind (P := fun t u => zy_sim pl' pc' (zy_sub n s t) (zy_sub m s' u))
  · intro x y h
    show zy_sim pl' pc' (if x = n then s else .tag x .nil) (if y = m then s' else .tag y .nil)
    by_cases e : x = n
    · rw [if_pos e, if_pos (h.1.mp e)]
      exact hs
    · rw [if_neg e, if_neg (fun q => e (h.1.mpr q))]
      exact h.2 e
  · intro x y a b c d _ _ _ _ h _ _ iha ihb
    exact ⟨h, iha, ihb⟩
theorem zy_sim_id {n m : Nat} : ∀ t, zy_wf t → ∀ u, zy_wf u → zy_sim (fun x y => (x = n ↔ y = m) ∧ (x ≠ n → pl' x y)) (fun x y => (x ≠ n ∧ y ≠ m) ∧ pc' x y) t u → (zy_id t = n ↔ zy_id u = m) := by
  apply zy_sim_ind (P := fun t u => (zy_id t = n ↔ zy_id u = m))
  · intro x y h
    exact h.1
  · intro x y a b c d _ _ _ _ h _ _ _ _
    exact ⟨fun e => absurd e h.1.1, fun e => absurd e h.1.2⟩
theorem zy_sim_w {n m : Nat} : ∀ t, zy_wf t → ∀ u, zy_wf u → n ∉ zy_ids t → zy_sim (fun x y => (x = n ↔ y = m) ∧ (x ≠ n → pl' x y)) (fun x y => (x ≠ n ∧ y ≠ m) ∧ pc' x y) t u → zy_sim pl' pc' t u := by
  intro t wt u wu hn h
  exact zy_sim_mono t wt u wu h (fun x hx y hy q => q.2 (fun e => hn (e ▸ zy_lvs_ids t wt x hx))) (fun x _ y _ q => q.2)
theorem zy_sim_del {n m : Nat} : ∀ t, zy_wf t → ∀ u, zy_wf u → zy_sim (fun x y => (x = n ↔ y = m) ∧ (x ≠ n → pl' x y)) (fun x y => (x ≠ n ∧ y ≠ m) ∧ pc' x y) t u → (zy_ids t).Nodup → zy_id t ≠ n → zy_sim pl' pc' (zy_del n t) (zy_del m u) := by
  apply zy_sim_ind (P := fun t u => (zy_ids t).Nodup → zy_id t ≠ n → zy_sim pl' pc' (zy_del n t) (zy_del m u))
  · intro x y h _ hne
    exact h.2 hne
  · intro x y a b c d wa wb wc wd h sa sb iha ihb hd hne
    have hd' : (x :: (zy_ids a ++ zy_ids b)).Nodup := hd
    obtain ⟨-, hd2⟩ := List.nodup_cons.mp hd'
    obtain ⟨da, db, dis⟩ := List.nodup_append.mp hd2
    show zy_sim pl' pc' (if zy_id a = n then b else if zy_id b = n then a else .append (.tag x (zy_del n a)) (zy_del n b)) (if zy_id c = m then d else if zy_id d = m then c else .append (.tag y (zy_del m c)) (zy_del m d))
    have i1 := zy_sim_id a wa c wc sa
    have i2 := zy_sim_id b wb d wd sb
    by_cases e1 : zy_id a = n
    · rw [if_pos e1, if_pos (i1.mp e1)]
      exact zy_sim_w b wb d wd (fun q => dis n (e1 ▸ zy_id_mem wa) n q rfl) sb
    · rw [if_neg e1, if_neg (fun q => e1 (i1.mpr q))]
      by_cases e2 : zy_id b = n
      · rw [if_pos e2, if_pos (i2.mp e2)]
        exact zy_sim_w a wa c wc (fun q => dis n q n (e2 ▸ zy_id_mem wb) rfl) sa
      · rw [if_neg e2, if_neg (fun q => e2 (i2.mpr q))]
        exact ⟨h.2, iha da e1, ihb db e2⟩
theorem zy_sim_out {n m : Nat} {t u : zy_F} (wt : zy_wf t) (wu : zy_wf u) (h : zy_sim (fun x y => (x = n ↔ y = m) ∧ (x ≠ n → pl' x y)) (fun x y => (x ≠ n ∧ y ≠ m) ∧ pc' x y) t u) (hd : (zy_ids t).Nodup) : zy_sim pl' pc' (zy_out n t) (zy_out m u) := by
  unfold zy_out
  have i := zy_sim_id t wt u wu h
  by_cases e : zy_id t = n
  · rw [if_pos e, if_pos (i.mp e)]
    trivial
  · rw [if_neg e, if_neg (fun q => e (i.mpr q))]
    exact zy_sim_del t wt u wu h hd e
theorem zy_sim_ls {a : Nat} {fm fm' lf lf' : Nat → Int32} : ∀ t, zy_wf t → ∀ u, zy_wf u → zy_sim (fun n m => lf n = lf' m) (fun n m => fm n = fm' m) t u → zy_ls a fm lf t = zy_ls a fm' lf' u := by
  apply zy_sim_ind (P := fun t u => zy_ls a fm lf t = zy_ls a fm' lf' u)
  · intro n m h
    exact h
  · intro n m x y c d _ _ _ _ h _ _ iha ihb
    show (if fm n = nI a then zy_ls a fm lf x + zy_ls a fm lf y else zi_mx (zy_ls a fm lf x) (zy_ls a fm lf y)) = if fm' m = nI a then zy_ls a fm' lf' c + zy_ls a fm' lf' d else zi_mx (zy_ls a fm' lf' c) (zy_ls a fm' lf' d)
    rw [h, iha, ihb]
theorem zy_sim_laid {P P' : Nat → Int32 → Int32 → Int32 → Int32 → Prop} {fm sh fm' sh' lf0 lf1 lf0' lf1' : Nat → Int32} : ∀ t, zy_wf t → ∀ u, zy_wf u → zy_sim (fun n m => lf0 n = lf0' m ∧ lf1 n = lf1' m) (fun n m => fm n = fm' m ∧ sh n = sh' m) t u → ∀ x y w v, zy_laid P fm sh (zy_ls 0 fm lf0) (zy_ls 1 fm lf1) t x y w v → zy_laid P' fm' sh' (zy_ls 0 fm' lf0') (zy_ls 1 fm' lf1') u x y w v → zy_sim (fun n m => ∃ x y w v, P n x y w v ∧ P' m x y w v) (fun _ _ => True) t u := by
  apply zy_sim_ind (P := fun t u => ∀ x y w v, zy_laid P fm sh (zy_ls 0 fm lf0) (zy_ls 1 fm lf1) t x y w v → zy_laid P' fm' sh' (zy_ls 0 fm' lf0') (zy_ls 1 fm' lf1') u x y w v → zy_sim (fun n m => ∃ x y w v, P n x y w v ∧ P' m x y w v) (fun _ _ => True) t u)
  · intro n m _ x y w v h g
    exact ⟨x, y, w, v, h, g⟩
  · intro n m a b c d wa wb wc wd h sa sb iha ihb x y w v hl hr
    have a0 : zy_ls 0 fm lf0 a = zy_ls 0 fm' lf0' c := zy_sim_ls a wa c wc (zy_sim_mono a wa c wc sa (fun _ _ _ _ q => q.1) (fun _ _ _ _ q => q.1))
    have a1 : zy_ls 1 fm lf1 a = zy_ls 1 fm' lf1' c := zy_sim_ls a wa c wc (zy_sim_mono a wa c wc sa (fun _ _ _ _ q => q.2) (fun _ _ _ _ q => q.1))
    have b0 : zy_ls 0 fm lf0 b = zy_ls 0 fm' lf0' d := zy_sim_ls b wb d wd (zy_sim_mono b wb d wd sb (fun _ _ _ _ q => q.1) (fun _ _ _ _ q => q.1))
    have b1 : zy_ls 1 fm lf1 b = zy_ls 1 fm' lf1' d := zy_sim_ls b wb d wd (zy_sim_mono b wb d wd sb (fun _ _ _ _ q => q.2) (fun _ _ _ _ q => q.1))
    obtain ⟨-, hl⟩ := hl
    obtain ⟨-, hr⟩ := hr
    rw [← h.1, ← h.2, ← a0, ← a1, ← b0, ← b1] at hr
    by_cases e : fm n = 0
    · rw [if_pos e] at hl hr
      exact ⟨trivial, iha _ _ _ _ hl.1 hr.1, ihb _ _ _ _ hl.2 hr.2⟩
    · rw [if_neg e] at hl hr
      exact ⟨trivial, iha _ _ _ _ hl.1 hr.1, ihb _ _ _ _ hl.2 hr.2⟩
theorem zy_sim_and {ql qc : Nat → Nat → Prop} : ∀ t, zy_wf t → ∀ u, zy_wf u → zy_sim pl pc t u → zy_sim ql qc t u → zy_sim (fun n m => pl n m ∧ ql n m) (fun n m => pc n m ∧ qc n m) t u := by
  apply zy_sim_ind (P := fun t u => zy_sim ql qc t u → zy_sim (fun n m => pl n m ∧ ql n m) (fun n m => pc n m ∧ qc n m) t u)
  · intro n m h g
    exact ⟨h, g⟩
  · intro n m a b c d _ _ _ _ h _ _ iha ihb g
    exact ⟨⟨h, g.1⟩, iha g.2.1, ihb g.2.2⟩
theorem zy_sim_map {α : Type} {f g : Nat → α} : ∀ t, zy_wf t → ∀ u, zy_wf u → zy_sim (fun n m => f n = g m) pc t u → (zy_lvs t).map f = (zy_lvs u).map g := by
  apply zy_sim_ind (P := fun t u => (zy_lvs t).map f = (zy_lvs u).map g)
  · intro n m h
    show [f n] = [g m]
    rw [h]
  · intro n m a b c d _ _ _ _ _ _ _ iha ihb
    show (zy_lvs a ++ zy_lvs b).map f = (zy_lvs c ++ zy_lvs d).map g
    rw [List.map_append, List.map_append, iha, ihb]
end ZSM
