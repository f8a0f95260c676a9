/-! side by side: share -/
/-- the nearest cut of the form x above a leaf, one step up -/
theorem zy_nc_snoc {fm : Nat → Int32} {x : Int32} {n : Nat} {l : List Nat} {c : Nat} : (if 0 < ((l ++ [c]).filter (fun y => decide (fm y = x))).length then nI (((l ++ [c]).filter (fun y => decide (fm y = x))).getD 0 0) else -1) = if 0 < (l.filter (fun y => decide (fm y = x))).length then nI ((l.filter (fun y => decide (fm y = x))).getD 0 0) else if fm c = x then nI c else -1 := by
  rw [List.filter_append]
  by_cases c1 : 0 < (l.filter (fun y => decide (fm y = x))).length
  · rw [if_pos c1, if_pos (by rw [List.length_append]; omega), zl_getD_l c1]
  · rw [if_neg c1]
    have e : l.filter (fun y => decide (fm y = x)) = [] := List.eq_nil_of_length_eq_zero (by omega)
    rw [e, List.nil_append]
    by_cases c2 : fm c = x
    · have : [c].filter (fun y => decide (fm y = x)) = [c] := by simp [c2]
      rw [this, if_pos c2]
      rfl
    · have : [c].filter (fun y => decide (fm y = x)) = [] := by simp [c2]
      rw [this, if_neg c2]
      rfl
section ZKG
variable {pl pc : Nat → Nat → Prop} {fm fm' : Nat → Int32} {a : Int32} {n m : Nat}
theorem zy_nc_cut {x : Nat} {A B : zy_F} : zy_nc fm a n (.append (.tag x A) B) = if n ∈ zy_lvs A then (if 0 < ((zy_up n A).filter (fun y => decide (fm y = a))).length then zy_nc fm a n A else if fm x = a then nI x else -1) else if n ∈ zy_lvs B then (if 0 < ((zy_up n B).filter (fun y => decide (fm y = a))).length then zy_nc fm a n B else if fm x = a then nI x else -1) else -1 := by
  unfold zy_nc
  show (if 0 < ((if n ∈ zy_lvs A then zy_up n A ++ [x] else if n ∈ zy_lvs B then zy_up n B ++ [x] else []).filter (fun y => decide (fm y = a))).length then nI (((if n ∈ zy_lvs A then zy_up n A ++ [x] else if n ∈ zy_lvs B then zy_up n B ++ [x] else []).filter (fun y => decide (fm y = a))).getD 0 0) else -1) = _
  by_cases c1 : n ∈ zy_lvs A
  · simp only [if_pos c1]
    rw [zy_nc_snoc (n := n)]
    by_cases c2 : 0 < ((zy_up n A).filter (fun y => decide (fm y = a))).length
    · simp only [if_pos c2]
    · simp only [if_neg c2]
  · simp only [if_neg c1]
    by_cases c3 : n ∈ zy_lvs B
    · simp only [if_pos c3]
      rw [zy_nc_snoc (n := n)]
      by_cases c2 : 0 < ((zy_up n B).filter (fun y => decide (fm y = a))).length
      · simp only [if_pos c2]
      · simp only [if_neg c2]
    · simp only [if_neg c3]
      rfl
theorem zy_nc_pos {t : zy_F} : (0 < ((zy_up n t).filter (fun y => decide (fm y = a))).length ∧ ∃ c ∈ zy_up n t, zy_nc fm a n t = nI c) ∨ (¬ 0 < ((zy_up n t).filter (fun y => decide (fm y = a))).length ∧ zy_nc fm a n t = -1) := by
  unfold zy_nc
  by_cases c : 0 < ((zy_up n t).filter (fun y => decide (fm y = a))).length
  · rw [if_pos c]
    exact Or.inl ⟨c, _, (List.mem_filter.mp (zl_mem c)).1, rfl⟩
  · rw [if_neg c]
    exact Or.inr ⟨c, rfl⟩
theorem zy_up_cts : ∀ t, zy_wf t → ∀ c ∈ zy_up n t, c ∈ zy_cts t := by
  apply zy_ind
  · intro x c hc
    cases hc
  · intro x A B _ _ hA hB c hc
    have hc : c ∈ (if n ∈ zy_lvs A then zy_up n A ++ [x] else if n ∈ zy_lvs B then zy_up n B ++ [x] else []) := hc
    show c ∈ x :: (zy_cts A ++ zy_cts B)
    by_cases c1 : n ∈ zy_lvs A
    · rw [if_pos c1] at hc
      rcases List.mem_append.mp hc with h | h
      · exact List.mem_cons_of_mem _ (List.mem_append_left _ (hA c h))
      · rw [List.mem_singleton.mp h]; exact List.mem_cons_self ..
    · rw [if_neg c1] at hc
      by_cases c2 : n ∈ zy_lvs B
      · rw [if_pos c2] at hc
        rcases List.mem_append.mp hc with h | h
        · exact List.mem_cons_of_mem _ (List.mem_append_right _ (hB c h))
        · rw [List.mem_singleton.mp h]; exact List.mem_cons_self ..
      · rw [if_neg c2] at hc
        cases hc
theorem zy_up_pos {l : List Nat} {c : Nat} : 0 < ((l ++ [c]).filter (fun y => decide (fm y = a))).length ↔ 0 < (l.filter (fun y => decide (fm y = a))).length ∨ fm c = a := by
  rw [List.filter_append, List.length_append]
  by_cases c2 : fm c = a
  · have : [c].filter (fun y => decide (fm y = a)) = [c] := by simp [c2]
    rw [this]
    exact ⟨fun _ => Or.inr c2, fun _ => by rw [List.length_singleton]; omega⟩
  · have : [c].filter (fun y => decide (fm y = a)) = [] := by simp [c2]
    rw [this, List.length_nil, Nat.add_zero]
    exact ⟨fun z => Or.inl z, fun z => z.resolve_right c2⟩
def zy_ncp (fm : Nat → Int32) (a : Int32) (n : Nat) (t : zy_F) : Prop := 0 < ((zy_up n t).filter (fun y => decide (fm y = a))).length
theorem zy_ncp_cut {x : Nat} {A B : zy_F} : zy_ncp fm a n (.append (.tag x A) B) ↔ (n ∈ zy_lvs A ∧ (zy_ncp fm a n A ∨ fm x = a)) ∨ (n ∉ zy_lvs A ∧ n ∈ zy_lvs B ∧ (zy_ncp fm a n B ∨ fm x = a)) := by
  unfold zy_ncp
  show 0 < ((if n ∈ zy_lvs A then zy_up n A ++ [x] else if n ∈ zy_lvs B then zy_up n B ++ [x] else []).filter (fun y => decide (fm y = a))).length ↔ _
  by_cases c1 : n ∈ zy_lvs A
  · rw [if_pos c1, zy_up_pos]
    exact ⟨fun z => Or.inl ⟨c1, z⟩, fun z => z.elim (fun z => z.2) (fun z => absurd c1 z.1)⟩
  · rw [if_neg c1]
    by_cases c2 : n ∈ zy_lvs B
    · rw [if_pos c2, zy_up_pos]
      exact ⟨fun z => Or.inr ⟨c1, c2, z⟩, fun z => z.elim (fun z => absurd z.1 c1) (fun z => z.2.2)⟩
    · rw [if_neg c2]
      exact ⟨fun z => absurd z (Nat.lt_irrefl 0), fun z => z.elim (fun z => absurd z.1 c1) (fun z => absurd z.2.1 c2)⟩
/-- the nearest cut is the same on both sides -/
theorem zy_sim_nc (hpc : ∀ x y, pc x y → fm x = fm' y) (hpl : ∀ x y, pl x y → (x = n ↔ y = m)) : ∀ t, zy_wf t → ∀ u, zy_wf u → zy_sim pl pc t u → (zy_ids t).Nodup → (zy_ids u).Nodup → (zy_nc fm a n t = -1 ∧ zy_nc fm' a m u = -1 ∧ ¬ zy_ncp fm a n t ∧ ¬ zy_ncp fm' a m u) ∨ ∃ c c', zy_nc fm a n t = nI c ∧ zy_nc fm' a m u = nI c' ∧ c ∈ zy_cts t ∧ c' ∈ zy_cts u ∧ (zy_ncp fm a n t ∧ zy_ncp fm' a m u) ∧ zy_sim pl (fun x y => pc x y ∧ (x = c ↔ y = c')) t u := by
  apply zy_sim_ind (P := fun t u => (zy_ids t).Nodup → (zy_ids u).Nodup → (zy_nc fm a n t = -1 ∧ zy_nc fm' a m u = -1 ∧ ¬ zy_ncp fm a n t ∧ ¬ zy_ncp fm' a m u) ∨ ∃ c c', zy_nc fm a n t = nI c ∧ zy_nc fm' a m u = nI c' ∧ c ∈ zy_cts t ∧ c' ∈ zy_cts u ∧ (zy_ncp fm a n t ∧ zy_ncp fm' a m u) ∧ zy_sim pl (fun x y => pc x y ∧ (x = c ↔ y = c')) t u)
  · intro x y _ _ _
    exact Or.inl ⟨rfl, rfl, (fun z => Nat.lt_irrefl 0 z), (fun z => Nat.lt_irrefl 0 z)⟩
  · intro x y A B C E wA wB wC wE hxy sAC sBE ihA ihB hd hd'
    have hd : (x :: (zy_ids A ++ zy_ids B)).Nodup := hd
    have hd' : (y :: (zy_ids C ++ zy_ids E)).Nodup := hd'
    obtain ⟨hx, hd⟩ := List.nodup_cons.mp hd
    obtain ⟨hy, hd'⟩ := List.nodup_cons.mp hd'
    obtain ⟨dA, dB, dAB⟩ := List.nodup_append.mp hd
    obtain ⟨dC, dE, dCE⟩ := List.nodup_append.mp hd'
    have xA : ∀ p ∈ zy_cts A, p ≠ x := fun p hp e => hx (List.mem_append_left _ (e ▸ zy_cts_ids A wA p hp))
    have xB : ∀ p ∈ zy_cts B, p ≠ x := fun p hp e => hx (List.mem_append_right _ (e ▸ zy_cts_ids B wB p hp))
    have yC : ∀ p ∈ zy_cts C, p ≠ y := fun p hp e => hy (List.mem_append_left _ (e ▸ zy_cts_ids C wC p hp))
    have yE : ∀ p ∈ zy_cts E, p ≠ y := fun p hp e => hy (List.mem_append_right _ (e ▸ zy_cts_ids E wE p hp))
    have ff := hpc x y hxy
    have mAC : n ∈ zy_lvs A ↔ m ∈ zy_lvs C := by
      constructor
      · intro h
        obtain ⟨q, hq, p⟩ := zy_sim_l A wA C wC sAC n h
        rw [← (hpl n q p).mp rfl]; exact hq
      · intro h
        obtain ⟨q, hq, p⟩ := zy_sim_r A wA C wC sAC m h
        rw [← (hpl q m p).mpr rfl]; exact hq
    have mBE : n ∈ zy_lvs B ↔ m ∈ zy_lvs E := by
      constructor
      · intro h
        obtain ⟨q, hq, p⟩ := zy_sim_l B wB E wE sBE n h
        rw [← (hpl n q p).mp rfl]; exact hq
      · intro h
        obtain ⟨q, hq, p⟩ := zy_sim_r B wB E wE sBE m h
        rw [← (hpl q m p).mpr rfl]; exact hq
    -- the root is the nearest one
    have root : zy_sim pl (fun p q => pc p q ∧ (p = x ↔ q = y)) (.append (.tag x A) B) (.append (.tag y C) E) :=
      ⟨⟨hxy, ⟨fun _ => rfl, fun _ => rfl⟩⟩, zy_sim_mono A wA C wC sAC (fun _ _ _ _ z => z) (fun p hp q hq z => ⟨z, ⟨fun e => absurd e (xA p hp), fun e => absurd e (yC q hq)⟩⟩), zy_sim_mono B wB E wE sBE (fun _ _ _ _ z => z) (fun p hp q hq z => ⟨z, ⟨fun e => absurd e (xB p hp), fun e => absurd e (yE q hq)⟩⟩)⟩
    have xin : x ∈ zy_cts (.append (.tag x A) B) := List.mem_cons_self ..
    have yin : y ∈ zy_cts (.append (.tag y C) E) := List.mem_cons_self ..
    by_cases c1 : n ∈ zy_lvs A
    · have c1' := mAC.mp c1
      rcases ihA dA dC with ⟨e1, e2, e3, e4⟩ | ⟨c, c', e1, e2, e3, e4, e5, e6⟩
      · have e3' : ¬ 0 < ((zy_up n A).filter (fun y => decide (fm y = a))).length := e3
        have e4' : ¬ 0 < ((zy_up m C).filter (fun y => decide (fm' y = a))).length := e4
        by_cases c2 : fm x = a
        · have c2' : fm' y = a := ff ▸ c2
          refine Or.inr ⟨x, y, ?_, ?_, xin, yin, ⟨zy_ncp_cut.mpr (Or.inl ⟨c1, Or.inr c2⟩), zy_ncp_cut.mpr (Or.inl ⟨c1', Or.inr c2'⟩)⟩, root⟩
          · rw [zy_nc_cut, if_pos c1, if_neg e3', if_pos c2]
          · rw [zy_nc_cut, if_pos c1', if_neg e4', if_pos c2']
        · have c2' : ¬ fm' y = a := ff ▸ c2
          refine Or.inl ⟨?_, ?_, fun z => ?_, fun z => ?_⟩
          · rw [zy_nc_cut, if_pos c1, if_neg e3', if_neg c2]
          · rw [zy_nc_cut, if_pos c1', if_neg e4', if_neg c2']
          · rcases zy_ncp_cut.mp z with w | w
            · exact w.2.elim e3 c2
            · exact w.1 c1
          · rcases zy_ncp_cut.mp z with w | w
            · exact w.2.elim e4 c2'
            · exact w.1 c1'
      · have p1 : 0 < ((zy_up n A).filter (fun y => decide (fm y = a))).length := e5.1
        have p2 : 0 < ((zy_up m C).filter (fun y => decide (fm' y = a))).length := e5.2
        refine Or.inr ⟨c, c', ?_, ?_, List.mem_cons_of_mem _ (List.mem_append_left _ e3), List.mem_cons_of_mem _ (List.mem_append_left _ e4), ⟨zy_ncp_cut.mpr (Or.inl ⟨c1, Or.inl e5.1⟩), zy_ncp_cut.mpr (Or.inl ⟨c1', Or.inl e5.2⟩)⟩, ⟨⟨hxy, ⟨fun e => absurd e.symm (xA c e3), fun e => absurd e.symm (yC c' e4)⟩⟩, e6, zy_sim_mono B wB E wE sBE (fun _ _ _ _ z => z) (fun p hp q hq z => ⟨z, ⟨fun e => ?_, fun e => ?_⟩⟩)⟩⟩
        · rw [zy_nc_cut, if_pos c1, if_pos p1, e1]
        · rw [zy_nc_cut, if_pos c1', if_pos p2, e2]
        · exact absurd rfl (dAB c (zy_cts_ids A wA c e3) c (e ▸ zy_cts_ids B wB p hp))
        · exact absurd rfl (dCE c' (zy_cts_ids C wC c' e4) c' (e ▸ zy_cts_ids E wE q hq))
    · have c1' : m ∉ zy_lvs C := fun z => c1 (mAC.mpr z)
      by_cases c3 : n ∈ zy_lvs B
      · have c3' := mBE.mp c3
        rcases ihB dB dE with ⟨e1, e2, e3, e4⟩ | ⟨c, c', e1, e2, e3, e4, e5, e6⟩
        · have e3' : ¬ 0 < ((zy_up n B).filter (fun y => decide (fm y = a))).length := e3
          have e4' : ¬ 0 < ((zy_up m E).filter (fun y => decide (fm' y = a))).length := e4
          by_cases c2 : fm x = a
          · have c2' : fm' y = a := ff ▸ c2
            refine Or.inr ⟨x, y, ?_, ?_, xin, yin, ⟨zy_ncp_cut.mpr (Or.inr ⟨c1, c3, Or.inr c2⟩), zy_ncp_cut.mpr (Or.inr ⟨c1', c3', Or.inr c2'⟩)⟩, root⟩
            · rw [zy_nc_cut, if_neg c1, if_pos c3, if_neg e3', if_pos c2]
            · rw [zy_nc_cut, if_neg c1', if_pos c3', if_neg e4', if_pos c2']
          · have c2' : ¬ fm' y = a := ff ▸ c2
            refine Or.inl ⟨?_, ?_, fun z => ?_, fun z => ?_⟩
            · rw [zy_nc_cut, if_neg c1, if_pos c3, if_neg e3', if_neg c2]
            · rw [zy_nc_cut, if_neg c1', if_pos c3', if_neg e4', if_neg c2']
            · rcases zy_ncp_cut.mp z with w | w
              · exact c1 w.1
              · exact w.2.2.elim e3 c2
            · rcases zy_ncp_cut.mp z with w | w
              · exact c1' w.1
              · exact w.2.2.elim e4 c2'
        · have p1 : 0 < ((zy_up n B).filter (fun y => decide (fm y = a))).length := e5.1
          have p2 : 0 < ((zy_up m E).filter (fun y => decide (fm' y = a))).length := e5.2
          refine Or.inr ⟨c, c', ?_, ?_, List.mem_cons_of_mem _ (List.mem_append_right _ e3), List.mem_cons_of_mem _ (List.mem_append_right _ e4), ⟨zy_ncp_cut.mpr (Or.inr ⟨c1, c3, Or.inl e5.1⟩), zy_ncp_cut.mpr (Or.inr ⟨c1', c3', Or.inl e5.2⟩)⟩, ⟨⟨hxy, ⟨fun e => absurd e.symm (xB c e3), fun e => absurd e.symm (yE c' e4)⟩⟩, zy_sim_mono A wA C wC sAC (fun _ _ _ _ z => z) (fun p hp q hq z => ⟨z, ⟨fun e => ?_, fun e => ?_⟩⟩), e6⟩⟩
          · rw [zy_nc_cut, if_neg c1, if_pos c3, if_pos p1, e1]
          · rw [zy_nc_cut, if_neg c1', if_pos c3', if_pos p2, e2]
          · exact absurd rfl (dAB c (e ▸ zy_cts_ids A wA p hp) c (zy_cts_ids B wB c e3))
          · exact absurd rfl (dCE c' (e ▸ zy_cts_ids C wC q hq) c' (zy_cts_ids E wE c' e4))
      · have c3' : m ∉ zy_lvs E := fun z => c3 (mBE.mpr z)
        refine Or.inl ⟨?_, ?_, fun z => ?_, fun z => ?_⟩
        · rw [zy_nc_cut, if_neg c1, if_neg c3]
        · rw [zy_nc_cut, if_neg c1', if_neg c3']
        · rcases zy_ncp_cut.mp z with w | w
          · exact c1 w.1
          · exact c3 w.2.1
        · rcases zy_ncp_cut.mp z with w | w
          · exact c1' w.1
          · exact c3' w.2.1
end ZKG
section ZKH
variable {ξ μ ξ' μ' : zm_M} {row stkC stk ord : List Nat} {Rs : Nat → List Nat} {ts us : Nat → zy_F}
theorem zK_shr (h : zK ξ μ row stkC stk ord Rs ts us) {w x v : Int32} (hJ : zJ ξ' row stkC Rs ts) (f : zd_shr ξ ξ' ts w x v) (g : zv_shr μ μ' us w x v) : zK ξ' μ' row stkC stk ord Rs ts us := by
  -- the cuts on both sides
  have key : ∀ k s n m a, k < 10 → s < 3 → a < 2 → zd_til ξ k = true → ξ (zdW k) 5 = nI s → n ∈ zy_lvs (ts s) → ξ (zdT s + 3) k = nI n → zu_at μ s (us s) k m → (zy_nc (ξ (zdT s + 7)) (nI a) n (ts s) = -1 ∧ zy_nc (zu_fm μ s) (nI a) m (us s) = -1) ∨ ∃ c c', zy_nc (ξ (zdT s + 7)) (nI a) n (ts s) = nI c ∧ zy_nc (zu_fm μ s) (nI a) m (us s) = nI c' ∧ c < 19 ∧ c' < 24 ∧ zy_sim (zs_pl ξ (zdT s) (Rs s) μ s) (fun x y => zs_pc ξ (zdT s) μ s x y ∧ (x = c ↔ y = c')) (ts s) (us s) := fun k s n m a hk hs ha c1 c2 hn ek hat => by
    have hC := (h.1.2.2.2.1 s hs).1
    have hzs := h.2.2.2.2.2.1 s hs
    have hkR : k ∈ Rs s := ((h.1.2.2.2.1 s hs).2.1 k).mpr ⟨hk, c1, c2⟩
    obtain ⟨m', hat', hp⟩ := zs_at hC.1 hzs hkR hn ek
    have em := hat'.2.2 m hat.1 hat.2.1
    subst em
    obtain ⟨wt, hni⟩ := zt_I_lv hC.1 hn
    obtain ⟨ab, hI⟩ := hzs.2
    have wu := (zu_I_lv hI hat.1).1
    have sim : zy_sim (fun x y => zs_pl ξ (zdT s) (Rs s) μ s x y ∧ (x = n ↔ y = m)) (zs_pc ξ (zdT s) μ s) (ts s) (us s) := zy_sim_mono _ wt _ wu hzs.1 (fun x hx y hy p => ⟨p, zs_iff hC.1 hzs hn hat.1 hp x hx y hy p⟩) (fun x hx y hy p => p)
    rcases zy_sim_nc (fm := ξ (zdT s + 7)) (fm' := zu_fm μ s) (a := nI a) (n := n) (m := m) (fun x y p => p.1.symm) (fun x y p => p.2) _ wt _ wu sim hC.1.2.1.2.1 hI.2.1 with ⟨e1, e2, -, -⟩ | ⟨c, c', e1, e2, e3, e4, -, e5⟩
    · exact Or.inl ⟨e1, e2⟩
    · exact Or.inr ⟨c, c', e1, e2, hC.1.2.1.2.2.1 c (zy_cts_ids _ wt c e3), zu_I_ct hI e4, zy_sim_mono _ wt _ wu e5 (fun x hx y hy p => p.1) (fun x hx y hy p => p)⟩
  have link : ∀ k s m, k < 10 → s < 3 → (μ 234 k = 1 ∧ μ 238 k = nI s ∧ zu_at μ s (us s) k m) → zd_til ξ k = true ∧ ξ (zdW k) 5 = nI s ∧ ∃ n, n ∈ zy_lvs (ts s) ∧ ξ (zdT s + 3) k = nI n := fun k s m hk hs ⟨a, b, c⟩ => by
    obtain ⟨q1, q2, -⟩ := zK_kind h hk
    have a' := q1.mpr a
    have b' := (q2 a').symm.trans b
    have hkR : k ∈ Rs s := ((h.1.2.2.2.1 s hs).2.1 k).mpr ⟨hk, a', b'⟩
    obtain ⟨n, hn, e⟩ := (h.1.2.2.2.1 s hs).1.1.2.2.2.1 k hkR
    exact ⟨a', b', n, hn, e⟩
  have link' : ∀ k s, k < 10 → s < 3 → zd_til ξ k = true → ξ (zdW k) 5 = nI s → μ 234 k = 1 ∧ μ 238 k = nI s ∧ ∃ m, zu_at μ s (us s) k m := fun k s hk hs a b => by
    obtain ⟨q1, q2, -⟩ := zK_kind h hk
    have hkR : k ∈ Rs s := ((h.1.2.2.2.1 s hs).2.1 k).mpr ⟨hk, a, b⟩
    obtain ⟨n, m, -, -, hat, -⟩ := zs_at' (h.1.2.2.2.1 s hs).1.1 (h.2.2.2.2.2.1 s hs) hkR
    exact ⟨q1.mp a, (q2 a).trans b, m, hat⟩
  rcases f with ⟨f1, rfl⟩ | ⟨k, s, n, a, hk, hs, ha, rfl, rfl, hv, c1, c2, hn, ek, c3, rfl⟩
  · rcases g with ⟨-, rfl⟩ | ⟨k, s, m, a, hk, hs, ha, rfl, rfl, hv, k1, k2, hat, c3, -⟩
    · exact h
    · obtain ⟨a', b', n, hn, e⟩ := link k s m hk hs ⟨k1, k2, hat⟩
      refine absurd ⟨k, s, n, a, hk, hs, ha, rfl, rfl, hv, a', b', hn, e, ?_⟩ f1
      rcases key k s n m a hk hs ha a' b' hn e hat with ⟨-, e2⟩ | ⟨c, c', e1, -, hc, -⟩
      · rw [e2] at c3
        exact absurd (by decide) c3
      · rw [e1]; exact nI_pos (by omega)
  · obtain ⟨k1, k2, m, hat⟩ := link' k s hk hs c1 c2
    rcases key k s n m a hk hs ha c1 c2 hn ek hat with ⟨e1, -⟩ | ⟨c, c', e1, e2, hc, hc', sim⟩
    · rw [e1] at c3
      exact absurd (by decide) c3
    · rcases g with ⟨g1, -⟩ | ⟨k', s', m', a', hk', hs', ha', ek', ea', -, -, k2', hat', -, rfl⟩
      · refine absurd ⟨k, s, m, a, hk, hs, ha, rfl, rfl, hv, k1, k2, hat, ?_⟩ g1
        rw [e2]; exact nI_pos (by omega)
      · have x1 := (nI_eq (by omega) (by omega)).mp ek'
        subst x1
        have x2 := (nI_eq (by omega) (by omega)).mp (k2'.symm.trans k2)
        subst x2
        have x3 := hat.2.2 m' hat'.1 hat'.2.1
        subst x3
        rw [e1, nI_clamp (by omega)] at hJ ⊢
        rw [e2, nI_clamp (by omega)]
        obtain ⟨h1, h4, h0⟩ := h
        have eC : ∀ c', c' ≠ zdT s' + 8 → zm_up ξ (zdT s' + 8) c v c' = ξ c' := fun c' r => zm_up_row r
        have eg : ∀ x y, ¬ (x = 247 ∧ y = 24 * s' + c') → zm_up μ 247 (24 * s' + c') v x y = μ x y := fun x y r => zm_up_ne r
        have hI := fun q hq => (h1.2.2.2.1 q hq).1.1
        refine ⟨hJ, h4.gen (fun k hk => eC _ (by unfold zdW zdT; omega)) (fun C q l hC g => ⟨g.1, by rw [eg _ _ (by omega)]; exact g.2.1, fun j hj => by rw [eg _ _ (by omega)]; exact g.2.2 j hj⟩), h0.gen' (fun q hq => (h1.2.2.2.2.1 q hq).1.1) (fun k hk => eC _ (by unfold zdW zdT; omega)) (fun k hk => eC _ (by unfold zdW zdT; omega)) (fun q hq => ⟨eC _ (by unfold zdS zdT; omega), eC _ (by unfold zdZ zdT; omega), eC _ (by unfold zdK zdT; omega), eC _ (by unfold zdQ zdT; omega)⟩) (fun q hq j hj => eC _ (by unfold zdV zdT; omega)) (fun x y r => eg x y (by omega)) (fun q hq => zu_eq_in (fun x y r => eg x y (fun z => by
          obtain ⟨z1, z2⟩ := z
          subst z1
          rcases r with w | w | w <;> omega))) (fun _ _ => ⟨rfl, rfl, rfl⟩) (fun q hq => ?_)⟩
        by_cases eq : q = s'
        · subst eq
          obtain ⟨-, ab, hIu⟩ := h0.2.2.2.1 q hq
          obtain ⟨i1, i2, i3⟩ := zu_I_sh (μ' := zm_up μ 247 (24 * q + c') v) hIu (fun x y r a b => eg x y (fun z => b z.1))
          obtain ⟨wt, -⟩ := zt_I_lv (hI q hq) hn
          have wu := (zu_I_lv hIu hat.1).1
          refine ⟨zy_sim_mono _ wt _ wu sim (fun x hx y hy p => ⟨?_, ?_⟩) (fun x hx y hy p => ⟨?_, ?_⟩), ab, i1⟩
          · rw [i2 y hy, zt_tb_congr (μ := ξ) (Q := zdT q) (eC _ (by omega))]; exact p.1
          · rw [eg _ _ (by omega), eC _ (by omega)]; exact p.2
          · rw [i3 y (zu_I_ct hIu hy), eC _ (by omega)]; exact p.1.1
          · by_cases ec : x = c
            · have ec' := p.2.mp ec
              rw [ec, ec', zm_up_eq, zm_up_eq]
            · have ec' : y ≠ c' := fun z => ec (p.2.mpr z)
              rw [eg _ _ (by omega), zm_up_ne (by omega)]
              exact p.1.2
        · exact zs_cl (hI q hq) (zs_eqT (hI q hq) (h0.2.2.2.1 q hq) (zu_eq_in (fun x y r => eg x y (fun z => by
            obtain ⟨ab, hIu⟩ := (h0.2.2.2.1 s' hs').2
            obtain ⟨z1, z2⟩ := z
            subst z1
            rcases r with w | w | w <;> omega)))) (eC _ (by unfold zdT; omega)) (eC _ (by unfold zdT; omega)) (eC _ (by unfold zdT; omega)) (eC _ (by unfold zdT; omega))
end ZKH
