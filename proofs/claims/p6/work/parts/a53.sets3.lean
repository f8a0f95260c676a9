/-! the reference's trees: how many leaves; where a new window is -/
section ZWL
variable {μ ν : zm_M} {τ σ : Nat} {u : zy_F} {ab ab' : Nat → Int32} {k m : Nat}
theorem zu_nd_eqT (hI : zu_I μ τ u ab) (hnd : zu_nd μ τ u) (e : zu_eqT μ τ ν σ) : zu_nd ν σ u := by
  have et : ∀ n ∈ zy_lvs u, zu_tb ν σ n = zu_tb μ τ n := fun n hn => e.tb (zu_I_lt hI hn) (zu_I_tbl hI hn)
  exact ⟨fun n hn => by rw [et n hn]; exact hnd.1 n hn, fun n hn m hm w a b => by
    rw [et n hn] at a
    rw [et m hm] at b
    exact hnd.2 n hn m hm w a b⟩
theorem zl_flat_len {f : Nat → List Nat} : ∀ l : List Nat, (∀ n ∈ l, f n ≠ []) → l.length ≤ (l.flatMap f).length
  | [], _ => Nat.le_refl _
  | a :: l, h => by
    rw [List.flatMap_cons, List.length_append, List.length_cons]
    have := zl_flat_len l (fun n hn => h n (List.mem_cons_of_mem _ hn))
    have := List.length_pos_iff.mpr (h a (List.mem_cons_self ..))
    omega
theorem zu_lvs10 (hI : zu_I μ τ u ab) (hnd : zu_nd μ τ u) : (zy_lvs u).length ≤ 10 ∧ (zy_ids u).length + 2 ≤ 24 := by
  have hl := zl_flat_len (f := zu_tb μ τ) (zy_lvs u) (fun n hn => (zu_I_tb hI hn).2.1)
  have hd := zl_flat_nodup (f := zu_tb μ τ) (zy_lvs u) (zu_lvs_nodup hI).1 hnd.1 (fun n hn m hm w => hnd.2 n hn m hm w)
  have h10 := zv_nodup10 hd (fun x hx => by
    obtain ⟨n, hn, hx⟩ := List.mem_flatMap.mp hx
    exact (zu_I_tb hI hn).2.2 x hx)
  refine ⟨by omega, ?_⟩
  rcases zu_I_or hI with e | e
  · rw [e]; decide
  · have := zy_len u e
    omega
theorem zu_tb9 (hI : zu_I μ τ u ab) (hnd : zu_nd μ τ u) (hm : m ∈ zy_lvs u) (hk : k < 10) (hno : k ∉ zu_tb μ τ m) : (zu_tb μ τ m).length < 10 := by
  have := zv_nodup10 (l := k :: zu_tb μ τ m) (List.nodup_cons.mpr ⟨hno, hnd.1 m hm⟩) (fun x hx => by
    rcases List.mem_cons.mp hx with rfl | hx
    · exact hk
    · exact (zu_I_tb hI hm).2.2 x hx)
  rw [List.length_cons] at this
  omega
/-- the tree that a window has left -/
theorem zu_isOut_X (hI : zu_I μ τ u ab) (hnd : zu_nd μ τ u) (hat : zu_at μ τ u k m) (ho : zu_isOut μ τ u m k ν ab') : zu_X μ ν τ u (if (zu_tb μ τ m).erase k = [] then zy_out m u else u) (zv_add (fun _ => false) k) :=
  zu_X_step hI hnd (zu_X_0 hI) rfl hat ho
theorem zu_X_nd (hI : zu_I μ τ u ab) (hnd : zu_nd μ τ u) {u' : zy_F} {X : Nat → Bool} (h : zu_X μ ν τ u u' X) : zu_nd ν τ u' ∧ (∀ n ∈ zy_lvs u', n ∈ zy_lvs u ∧ zu_tb ν τ n = (zu_tb μ τ n).filter (fun w => !X w)) := by
  have hl : ∀ n ∈ zy_lvs u', n ∈ zy_lvs u := fun n hn => by
    rw [h.2.1] at hn
    rcases zu_I_or hI with e | e
    · rw [e] at hn; cases hn
    · rw [zy_keep_lvs u e] at hn
      exact (List.mem_filter.mp hn).1
  have et : ∀ n ∈ zy_lvs u', zu_tb ν τ n = (zu_tb μ τ n).filter (fun w => !X w) := fun n hn => (h.2.2.1 n hn).1
  refine ⟨⟨fun n hn => by rw [et n hn]; exact (hnd.1 n (hl n hn)).filter _, fun n hn m hm w a b => ?_⟩, fun n hn => ⟨hl n hn, et n hn⟩⟩
  rw [et n hn] at a
  rw [et m hm] at b
  exact hnd.2 n (hl n hn) m (hl m hm) w (List.mem_filter.mp a).1 (List.mem_filter.mp b).1
theorem zu_isOut_no (hI : zu_I μ τ u ab) (hnd : zu_nd μ τ u) (hat : zu_at μ τ u k m) (ho : zu_isOut μ τ u m k ν ab') : zu_nd ν τ (if (zu_tb μ τ m).erase k = [] then zy_out m u else u) ∧ ∀ n ∈ zy_lvs (if (zu_tb μ τ m).erase k = [] then zy_out m u else u), k ∉ zu_tb ν τ n := by
  obtain ⟨h1, h2⟩ := zu_X_nd hI hnd (zu_isOut_X hI hnd hat ho)
  refine ⟨h1, fun n hn z => ?_⟩
  rw [(h2 n hn).2] at z
  have := (List.mem_filter.mp z).2
  rw [zv_add_k] at this
  cases this
theorem zu_isOut_at (hI : zu_I μ τ u ab) (hnd : zu_nd μ τ u) (hat : zu_at μ τ u k m) (ho : zu_isOut μ τ u m k ν ab') {o n : Nat} (hok : o ≠ k) (h2 : zu_at μ τ u o n) : zu_at ν τ (if (zu_tb μ τ m).erase k = [] then zy_out m u else u) o n :=
  zu_X_at hI (zu_isOut_X hI hnd hat ho) (zv_add_ne hok) h2
theorem zu_isTab_at (hI : zu_I μ τ u ab) (hm : m ∈ zy_lvs u) (hk : k < 10) (hno : ∀ n ∈ zy_lvs u, k ∉ zu_tb μ τ n) (h : zu_isTab μ τ u ab' m k ν) : zu_at ν τ u k m := by
  have em : zu_tb ν τ m = zu_tb μ τ m ++ [k] := zu_tb_T h.2.1 (fun x hx => by
    rcases List.mem_append.mp hx with hx | hx
    · exact (zu_I_tb hI hm).2.2 x hx
    · rw [List.mem_singleton.mp hx]; exact hk)
  refine ⟨hm, by rw [em]; exact List.mem_append_right _ (List.mem_singleton.mpr rfl), fun n hn g => Decidable.byContradiction fun e => ?_⟩
  rw [zu_tb_T (h.2.2.1 n e _ (zu_I_tb hI hn).1) (zu_I_tb hI hn).2.2] at g
  exact hno n hn g
theorem zu_isNew_at {f : Nat} (hk : k < 10) (h : zu_isNew μ τ k ν f) : zu_at ν τ (.tag f .nil) k f := by
  have em : zu_tb ν τ f = [k] := zu_tb_T h.2.2.1 (fun x hx => by rw [List.mem_singleton.mp hx]; exact hk)
  exact ⟨List.mem_singleton.mpr rfl, by rw [em]; exact List.mem_singleton.mpr rfl, fun n hn _ => List.mem_singleton.mp hn⟩
theorem zu_isCut_lvs (hI : zu_I μ τ u ab) (hm : m ∈ zy_lvs u) {c f : Nat} {nf : Bool} (hf : f ∉ zy_ids u) : ∀ n, n ∈ zy_lvs (zy_sub m (.append (.tag c (.tag (if nf then f else m) .nil)) (.tag (if nf then m else f) .nil)) u) ↔ (n = f ∨ n ∈ zy_lvs u) := by
  obtain ⟨wu, hmi⟩ := zu_I_lv hI hm
  have hfm : f ≠ m := fun e => hf (e ▸ hmi)
  have hp := (zy_sub_perm (n := m) (s := .append (.tag c (.tag (if nf then f else m) .nil)) (.tag (if nf then m else f) .nil)) u wu hI.2.1 hm).2.1
  have hd := zy_lvs_nodup u wu hI.2.1
  have hs : zy_lvs (.append (.tag c (.tag (if nf then f else m) .nil)) (.tag (if nf then m else f) .nil)) = [if nf then f else m, if nf then m else f] := rfl
  rw [hs] at hp
  have hfu : f ∉ zy_lvs u := fun z => hf (zy_lvs_ids u wu f z)
  have hnd : (m :: zy_lvs (zy_sub m (.append (.tag c (.tag (if nf then f else m) .nil)) (.tag (if nf then m else f) .nil)) u)).count m = 2 := by
    rw [hp.count_eq, List.count_append, Nat.le_antisymm (List.nodup_iff_count.mp hd m) (List.count_pos_iff.mpr hm)]
    cases nf <;> simp [hfm]
  intro n
  have hmem := hp.mem_iff (a := n)
  rw [List.mem_cons, List.mem_append] at hmem
  have h2 : n ∈ ([if nf then f else m, if nf then m else f] : List Nat) ↔ (n = f ∨ n = m) := by cases nf <;> simp [or_comm]
  rw [h2] at hmem
  constructor
  · intro h
    rcases hmem.mp (Or.inr h) with (e | e) | e
    · exact Or.inl e
    · exact Or.inr (e ▸ hm)
    · exact Or.inr e
  · intro h
    have h3 : n = m ∨ n ∈ zy_lvs (zy_sub m (.append (.tag c (.tag (if nf then f else m) .nil)) (.tag (if nf then m else f) .nil)) u) := hmem.mpr (h.elim (fun e => Or.inl (Or.inl e)) Or.inr)
    rcases h3 with e | e
    · subst e
      rw [List.count_cons_self] at hnd
      exact List.count_pos_iff.mp (by omega)
    · exact e
theorem zu_isCut_at (hI : zu_I μ τ u ab) (hm : m ∈ zy_lvs u) (hk : k < 10) (hno : ∀ n ∈ zy_lvs u, k ∉ zu_tb μ τ n) {a c f : Nat} {nf : Bool} (h : zu_isCut μ τ u m k a nf ν ab' c f) : zu_at ν τ (zy_sub m (.append (.tag c (.tag (if nf then f else m) .nil)) (.tag (if nf then m else f) .nil)) u) k f := by
  have hl := zu_isCut_lvs (c := c) (nf := nf) hI hm h.2.1.2.2.2.1
  have ef : zu_tb ν τ f = [k] := zu_tb_T h.2.2.1 (fun x hx => by rw [List.mem_singleton.mp hx]; exact hk)
  refine ⟨(hl f).mpr (Or.inl rfl), by rw [ef]; exact List.mem_singleton.mpr rfl, fun n hn g => ?_⟩
  rcases (hl n).mp hn with e | e
  · exact e
  · rw [zu_tb_T (h.2.2.2.2.2.2.1 n e _ (zu_I_tb hI e).1) (zu_I_tb hI e).2.2] at g
    exact absurd g (hno n e)
end ZWL
