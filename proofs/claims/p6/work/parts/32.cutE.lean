/-! Tree.cutLeaf -/
theorem zy_ok_kids {fm fs sd ab : Nat → Int32} : ∀ t, zy_wf t → (zy_ids t).Nodup → zy_ok fm fs sd ab t → ∀ q ∈ zy_cts t, ∃ i j, i ∈ zy_ids t ∧ j ∈ zy_ids t ∧ i ≠ j ∧ fs q = nI i ∧ sd q = nI j ∧ ab i = nI q ∧ ab j = nI q := by
  apply zy_ind
  · intro n _ h m hm
    cases hm
  · intro n a b wa wb ha hb hd h m hm
    have hd' : (n :: (zy_ids a ++ zy_ids b)).Nodup := hd
    obtain ⟨hc, hd2⟩ := List.nodup_cons.mp hd'
    obtain ⟨da, db, dis⟩ := List.nodup_append.mp hd2
    rcases List.mem_cons.mp hm with rfl | hm
    · exact ⟨zy_id a, zy_id b, List.mem_cons_of_mem _ (List.mem_append_left _ (zy_id_mem wa)), List.mem_cons_of_mem _ (List.mem_append_right _ (zy_id_mem wb)), dis _ (zy_id_mem wa) _ (zy_id_mem wb), h.1.2⟩
    · rcases List.mem_append.mp hm with hm | hm
      · obtain ⟨i, j, hi, hj, q2⟩ := ha da h.2.1 m hm
        exact ⟨i, j, List.mem_cons_of_mem _ (List.mem_append_left _ hi), List.mem_cons_of_mem _ (List.mem_append_left _ hj), q2⟩
      · obtain ⟨i, j, hi, hj, q2⟩ := hb db h.2.2 m hm
        exact ⟨i, j, List.mem_cons_of_mem _ (List.mem_append_right _ hi), List.mem_cons_of_mem _ (List.mem_append_right _ hj), q2⟩
section ZC2
variable {T : Nat} {μ : zm_M} {t : zy_F} {R : List Nat}
theorem zt_pp_row {a b c : Nat} (h1 : c ≠ T) (h2 : c ≠ T + 9) (h3 : c ≠ T + 10) (h4 : c ≠ T + 11) : zt_pp μ T a b c = μ c := by
  unfold zt_pp
  split
  · rw [zm_up_row h1, zm_up_row h4]
  · split
    · rw [zm_up_row h2, zm_up_row h4]
    · rw [zm_up_row h3, zm_up_row h4]
theorem zt_pp_11 {a b i : Nat} : zt_pp μ T a b (T + 11) i = if i = b then μ (T + 11) a else μ (T + 11) i := by
  have key : zm_up μ (T + 11) b (μ (T + 11) a) (T + 11) i = if i = b then μ (T + 11) a else μ (T + 11) i := by
    unfold zm_up
    by_cases e : i = b
    · rw [if_pos ⟨rfl, e⟩, if_pos e]
    · rw [if_neg (fun q => e q.2), if_neg e]
  unfold zt_pp
  split
  · rw [zm_up_ne (by omega)]; exact key
  · split
    · rw [zm_up_ne (by omega)]; exact key
    · rw [zm_up_ne (by omega)]; exact key
/-- in the place of the node n of a tree there stands c -/
theorem zt_pp_ok (hw : zy_wf t) (hd : (zy_ids t).Nodup) (h19 : ∀ x ∈ zy_ids t, x < 19) (ok : zy_okM μ T t) (hrt : μ (T + 11) (zy_id t) = -1) {n c : Nat} (hn : n ∈ zy_ids t) (hc : c < 19) :
    (μ (T + 11) n < 0 ∨ zi_in (μ (T + 11) n) 19 = true) ∧ (∀ q ∈ zy_cts t, zt_pp μ T n c (T + 9) q = if μ (T + 9) q = nI n then nI c else μ (T + 9) q) ∧ (∀ q ∈ zy_cts t, zt_pp μ T n c (T + 10) q = if μ (T + 10) q = nI n then nI c else μ (T + 10) q) ∧ (∀ q, q ∉ zy_cts t → zt_pp μ T n c (T + 9) q = μ (T + 9) q ∧ zt_pp μ T n c (T + 10) q = μ (T + 10) q) ∧ (zt_pp μ T n c T 9 = if zy_id t = n then nI c else μ T 9) ∧ ∀ b, b ≠ 9 → zt_pp μ T n c T b = μ T b := by
  have hn19 := h19 n hn
  by_cases e : zy_id t = n
  · have hneg : μ (T + 11) n < 0 := by rw [← e, hrt]; decide
    have hno : ∀ q ∈ zy_cts t, ¬ μ (T + 9) q = nI n ∧ ¬ μ (T + 10) q = nI n := by
      intro q hq
      obtain ⟨i, j, hi, hj, -, e1, e2, a1, a2⟩ := zy_ok_kids t hw hd ok q hq
      have hi19 := h19 i hi
      have hj19 := h19 j hj
      have hq19 := h19 q (zy_cts_ids t hw q hq)
      have key : ∀ x : Nat, μ (T + 11) x = nI q → x ≠ n := by
        intro x hx e3
        rw [e3, ← e, hrt] at hx
        have : nI q < 0 := by rw [← hx]; decide
        exact nI_pos (by omega) this
      exact ⟨fun e3 => key i a1 ((nI_eq (by omega) (by omega)).mp (e1.symm.trans e3)), fun e3 => key j a2 ((nI_eq (by omega) (by omega)).mp (e2.symm.trans e3))⟩
    have eq : zt_pp μ T n c = zm_up (zm_up μ (T + 11) c (μ (T + 11) n)) T 9 (nI c) := by
      unfold zt_pp
      dsimp only
      rw [if_pos hneg]
    rw [eq]
    refine ⟨Or.inl hneg, fun q hq => ?_, fun q hq => ?_, fun q _ => ⟨?_, ?_⟩, ?_, fun b hb => ?_⟩
    · rw [if_neg (hno q hq).1, zm_up_ne (by omega), zm_up_ne (by omega)]
    · rw [if_neg (hno q hq).2, zm_up_ne (by omega), zm_up_ne (by omega)]
    · rw [zm_up_ne (by omega), zm_up_ne (by omega)]
    · rw [zm_up_ne (by omega), zm_up_ne (by omega)]
    · rw [if_pos e, zm_up_eq]
    · rw [zm_up_ne (by omega), zm_up_ne (by omega)]
  · obtain ⟨p, hp, ep, hor⟩ := zy_ok_par t hw ok n hn (fun q => e q.symm)
    have hp19 := h19 p (zy_cts_ids t hw p hp)
    have hneg : ¬ μ (T + 11) n < 0 := by rw [ep]; exact nI_pos (by omega)
    have hcl : (μ (T + 11) n).toNatClampNeg = p := by rw [ep]; exact nI_clamp (by omega)
    have hno : ∀ q ∈ zy_cts t, q ≠ p → ¬ μ (T + 9) q = nI n ∧ ¬ μ (T + 10) q = nI n := by
      intro q hq hqp
      obtain ⟨i, j, hi, hj, -, e1, e2, a1, a2⟩ := zy_ok_kids t hw hd ok q hq
      have hi19 := h19 i hi
      have hj19 := h19 j hj
      have hq19 := h19 q (zy_cts_ids t hw q hq)
      have key : ∀ x : Nat, μ (T + 11) x = nI q → x ≠ n := by
        intro x hx e3
        rw [e3, ep] at hx
        exact hqp ((nI_eq (by omega) (by omega)).mp hx.symm)
      exact ⟨fun e3 => key i a1 ((nI_eq (by omega) (by omega)).mp (e1.symm.trans e3)), fun e3 => key j a2 ((nI_eq (by omega) (by omega)).mp (e2.symm.trans e3))⟩
    refine ⟨Or.inr (by rw [ep]; exact zm_in hp19 (by decide)), ?_⟩
    obtain ⟨i, j, hi, hj, hij, e1, e2, a1, a2⟩ := zy_ok_kids t hw hd ok p hp
    have hi19 := h19 i hi
    have hj19 := h19 j hj
    by_cases c9 : μ (T + 9) p = nI n
    · have eq : zt_pp μ T n c = zm_up (zm_up μ (T + 11) c (μ (T + 11) n)) (T + 9) p (nI c) := by
        unfold zt_pp
        dsimp only
        rw [if_neg hneg, hcl, if_pos c9]
      have c10 : ¬ μ (T + 10) p = nI n := by
        intro c10
        have q1 : i = n := (nI_eq (by omega) (by omega)).mp (e1.symm.trans c9)
        have q2 : j = n := (nI_eq (by omega) (by omega)).mp (e2.symm.trans c10)
        exact hij (q1.trans q2.symm)
      rw [eq]
      refine ⟨fun q hq => ?_, fun q hq => ?_, fun q hq => ⟨?_, ?_⟩, ?_, fun b hb => ?_⟩
      · by_cases e3 : q = p
        · subst e3
          rw [if_pos c9, zm_up_eq]
        · rw [if_neg (hno q hq e3).1, zm_up_ne (by omega), zm_up_ne (by omega)]
      · rw [zm_up_ne (by omega), zm_up_ne (by omega)]
        by_cases e3 : q = p
        · subst e3
          rw [if_neg c10]
        · rw [if_neg (hno q hq e3).2]
      · have : q ≠ p := fun e3 => hq (e3 ▸ hp)
        rw [zm_up_ne (by omega), zm_up_ne (by omega)]
      · rw [zm_up_ne (by omega), zm_up_ne (by omega)]
      · rw [if_neg e, zm_up_ne (by omega), zm_up_ne (by omega)]
      · rw [zm_up_ne (by omega), zm_up_ne (by omega)]
    · have eq : zt_pp μ T n c = zm_up (zm_up μ (T + 11) c (μ (T + 11) n)) (T + 10) p (nI c) := by
        unfold zt_pp
        dsimp only
        rw [if_neg hneg, hcl, if_neg c9]
      have c10 : μ (T + 10) p = nI n := hor.resolve_left c9
      rw [eq]
      refine ⟨fun q hq => ?_, fun q hq => ?_, fun q hq => ⟨?_, ?_⟩, ?_, fun b hb => ?_⟩
      · rw [zm_up_ne (by omega), zm_up_ne (by omega)]
        by_cases e3 : q = p
        · subst e3
          rw [if_neg c9]
        · rw [if_neg (hno q hq e3).1]
      · by_cases e3 : q = p
        · subst e3
          rw [if_pos c10, zm_up_eq]
        · rw [if_neg (hno q hq e3).2, zm_up_ne (by omega), zm_up_ne (by omega)]
      · rw [zm_up_ne (by omega), zm_up_ne (by omega)]
      · have : q ≠ p := fun e3 => hq (e3 ▸ hp)
        rw [zm_up_ne (by omega), zm_up_ne (by omega)]
      · rw [if_neg e, zm_up_ne (by omega), zm_up_ne (by omega)]
      · rw [zm_up_ne (by omega), zm_up_ne (by omega)]
end ZC2
