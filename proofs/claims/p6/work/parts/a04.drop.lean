/-! the reference: the leaf of a window; a leaf taken away: pure -/
def zu_tb (μ : zm_M) (τ n : Nat) : List Nat := (List.range (μ 249 (24 * τ + n)).toNatClampNeg).map (fun j => (μ 248 (10 * (24 * τ + n) + j)).toNatClampNeg)
theorem zl_fi_congr {p q : Nat → Bool} {d : Int32} : ∀ m i, (∀ j, i ≤ j → j < i + m → p j = q j) → zl_fi p d m i = zl_fi q d m i := by
  intro m
  induction m with
  | zero => intro i _; rfl
  | succ m ih =>
    intro i h
    have e : ∀ p : Nat → Bool, zl_fi p d (m + 1) i = if p i = true then nI i else zl_fi p d m (i + 1) := fun p => rfl
    rw [e, e, h i (Nat.le_refl _) (by omega), ih (i + 1) (fun j h1 h2 => h j (by omega) (by omega))]
section ZUD
variable {μ θ : zm_M} {τ : Nat} {u : zy_F} {ab : Nat → Int32}
theorem zu_tb_eq {n : Nat} {l : List Nat} (h : zu_T μ τ n l) (hb : ∀ x ∈ l, x < 10) : zu_tb μ τ n = l := by
  obtain ⟨t0, t1, t2⟩ := h
  unfold zu_tb
  rw [t1, nI_clamp (by omega)]
  apply List.ext_getElem (by simp)
  intro j h1 h2
  rw [List.getElem_map, List.getElem_range, t2 j h2]
  have e : l.getD j 0 = l[j] := by rw [List.getD_eq_getElem?_getD, List.getElem?_eq_getElem h2]; rfl
  have := hb _ (List.getElem_mem h2)
  rw [e]
  exact nI_clamp (by omega)
theorem zu_I_tb (hI : zu_I μ τ u ab) {n : Nat} (hn : n ∈ zy_lvs u) : zu_T μ τ n (zu_tb μ τ n) ∧ zu_tb μ τ n ≠ [] ∧ ∀ x ∈ zu_tb μ τ n, x < 10 := by
  obtain ⟨l, h1, h2, h3⟩ := hI.2.2.2.2 n hn
  rw [zu_tb_eq h1 h3]
  exact ⟨h1, h2, h3⟩
/-- the window k is in the leaf m alone -/
def zu_at (μ : zm_M) (τ : Nat) (u : zy_F) (k m : Nat) : Prop := m ∈ zy_lvs u ∧ k ∈ zu_tb μ τ m ∧ ∀ n ∈ zy_lvs u, k ∈ zu_tb μ τ n → n = m
theorem zu_at_lo (hI : zu_I μ τ u ab) {k m : Nat} (h : zu_at μ τ u k m) : zu_lo μ τ (zu_tb μ τ) k = nI m := by
  obtain ⟨h1, h2, h3⟩ := h
  unfold zu_lo
  have hm24 := hI.2.2.1 m (zu_I_lv hI h1).2
  rcases zl_fi_spec (fun n => decide (μ 244 (24 * τ + n) = 1 ∧ k ∈ zu_tb μ τ n)) (-1) 24 0 with ⟨n, -, hn, hp, -, e⟩ | ⟨hp, e⟩
  · have hp := of_decide_eq_true hp
    rw [e, h3 n (zu_I_of1 hI (by omega) hp.1) hp.2]
  · exfalso
    exact of_decide_eq_false (hp m (Nat.zero_le _) (by omega)) ⟨zu_I_leaf hI h1, h2⟩
theorem zu_lo_no (hI : zu_I μ τ u ab) {k : Nat} (h : ∀ n ∈ zy_lvs u, k ∉ zu_tb μ τ n) : zu_lo μ τ (zu_tb μ τ) k = -1 := by
  unfold zu_lo
  rcases zl_fi_spec (fun n => decide (μ 244 (24 * τ + n) = 1 ∧ k ∈ zu_tb μ τ n)) (-1) 24 0 with ⟨n, -, hn, hp, -, e⟩ | ⟨hp, e⟩
  · have hp := of_decide_eq_true hp
    exact absurd hp.2 (h n (zu_I_of1 hI (by omega) hp.1))
  · exact e
theorem ze_MleafOfI (D : Nat) (ht : τ < 7) (hI : zu_I μ τ u ab) {k : Nat} (hk : k < 10) : ze_E (D + 3) A_Mod_leafOf [.ref 232, .int (nI τ), .int (nI k)] (zm_mk μ) (some (.int (zu_lo μ τ (zu_tb μ τ) k))) (zm_mk μ) :=
  ze_MleafOf D ht (fun n hn e => by obtain ⟨h1, -, h3⟩ := zu_I_tb hI (zu_I_of1 hI hn e); exact ⟨h1, h3⟩) hk
theorem ze_MleafOf_at (D : Nat) (ht : τ < 7) (hI : zu_I μ τ u ab) {k m : Nat} (hk : k < 10) (h : zu_at μ τ u k m) : ze_E (D + 3) A_Mod_leafOf [.ref 232, .int (nI τ), .int (nI k)] (zm_mk μ) (some (.int (nI m))) (zm_mk μ) := by
  rw [← zu_at_lo hI h]
  exact ze_MleafOfI D ht hI hk
theorem zu_ab_congr (h4 : ∀ n, n < 24 → (1 < θ 244 (24 * τ + n) ↔ 1 < μ 244 (24 * τ + n))) (h5 : ∀ n, n < 24 → θ 245 (24 * τ + n) = μ 245 (24 * τ + n)) (h6 : ∀ n, n < 24 → θ 246 (24 * τ + n) = μ 246 (24 * τ + n)) (x : Int32) : zu_ab θ τ x = zu_ab μ τ x := by
  unfold zu_ab
  refine zl_fi_congr 24 0 (fun j _ hj => ?_)
  have hj : j < 24 := by omega
  rw [h5 j hj, h6 j hj]
  exact decide_eq_decide.mpr (and_congr_left' (h4 j hj))
def zu_dropped (μ θ : zm_M) (τ : Nat) (u : zy_F) (ab : Nat → Int32) (m : Nat) : Prop :=
  (zy_id u = m ∧ (∀ i, i < 24 → θ 244 (24 * τ + i) = if i = m then 0 else μ 244 (24 * τ + i)) ∧ θ 243 τ = -1) ∨
  (zy_id u ≠ m ∧ ∃ q j, q ∈ zy_cts u ∧ j ∈ zy_ids u ∧ m ≠ j ∧ ab m = nI q ∧ ab j = nI q ∧ ((μ 245 (24 * τ + q) = nI m ∧ μ 246 (24 * τ + q) = nI j) ∨ (μ 245 (24 * τ + q) = nI j ∧ μ 246 (24 * τ + q) = nI m)) ∧
    (∀ i, i < 24 → θ 244 (24 * τ + i) = if i = q then 0 else if i = m then 0 else μ 244 (24 * τ + i)) ∧ (∀ c ∈ zy_cts u, θ 245 (24 * τ + c) = if μ 245 (24 * τ + c) = nI q then nI j else μ 245 (24 * τ + c)) ∧ (∀ c ∈ zy_cts u, θ 246 (24 * τ + c) = if μ 246 (24 * τ + c) = nI q then nI j else μ 246 (24 * τ + c)) ∧ θ 243 τ = if zy_id u = q then nI j else μ 243 τ)
theorem zu_drop_pure (hI : zu_I μ τ u ab) {m : Nat} (hm : m ∈ zy_lvs u) (hd : zu_dropped μ θ τ u ab m) (tT : ∀ n ∈ zy_lvs u, n ≠ m → ∀ l, zu_T μ τ n l → zu_T θ τ n l) : ∃ ab', zu_I θ τ (zy_out m u) ab' ∧ (∀ i ∈ zy_ids (zy_out m u), i ∈ zy_ids u ∧ i ≠ m ∧ zu_fm θ τ i = zu_fm μ τ i) ∧ ∀ i ∈ zy_lvs (zy_out m u), i ∈ zy_lvs u := by
  obtain ⟨wt, hmid⟩ := zu_I_lv hI hm
  obtain ⟨-, ok, hr, hrt⟩ := zu_I_wf hI hmid
  obtain ⟨-, k5, k6, k8, k9⟩ := hI
  have hm24 := k6 m hmid
  have fm2 := zy_ok_lf u wt ok m hm
  have hidt := zy_id_mem wt
  rcases hd with ⟨hid, t4, t0⟩ | ⟨hid, q, j, hq, hj, hnj, an, aj, hqn, t4, t5, t6, t0⟩
  · have et := zy_leaf_of fm2 u wt ok hid
    have eo : zy_out m u = .nil := by unfold zy_out; rw [if_pos hid]
    have hi : ∀ n ∈ zy_ids u, n = m := fun n hn => by rw [et] at hn; simpa [zy_ids] using hn
    rw [eo]
    refine ⟨ab, ⟨Or.inl ⟨rfl, t0⟩, List.nodup_nil, fun w hw => (by cases hw), fun i hi2 _ => ?_, fun n hn => by cases hn⟩, fun i hi => (by cases hi), fun i hi => by cases hi⟩
    rw [t4 i hi2]
    by_cases e : i = m
    · rw [if_pos e]
    · rw [if_neg e]
      exact k8 i hi2 (fun h => e (hi i h))
  · have eo : zy_out m u = zy_del m u := by unfold zy_out; rw [if_neg hid]
    rw [eo]
    have hq24 := k6 q (zy_cts_ids u wt q hq)
    have hj24 := k6 j hj
    have i31 : ∀ x ∈ zy_ids u, x < 2 ^ 31 := fun x hx => by have := k6 x hx; omega
    obtain ⟨P0, P1, P2, P3⟩ := zy_del_perm (q := q) fm2 (by omega) (by omega) u wt i31 ok k5 hm (Ne.symm hid) an
    have hnd := P1.nodup_iff.mpr k5
    obtain ⟨d1, hnd2⟩ := List.nodup_cons.mp hnd
    obtain ⟨d2, hnd3⟩ := List.nodup_cons.mp hnd2
    have d1' : m ∉ zy_ids (zy_del m u) := fun h => d1 (List.mem_cons_of_mem _ h)
    have sub : ∀ x ∈ zy_ids (zy_del m u), x ∈ zy_ids u := fun x hx => P1.mem_iff.mp (List.mem_cons_of_mem _ (List.mem_cons_of_mem _ hx))
    have subl : ∀ x ∈ zy_lvs (zy_del m u), x ∈ zy_lvs u := fun x hx => P2.mem_iff.mp (List.mem_cons_of_mem _ hx)
    have f7 : ∀ x, x < 24 → x ≠ m → x ≠ q → zu_fm θ τ x = zu_fm μ τ x := fun x hx h1 h2 => by unfold zu_fm; rw [t4 x hx, if_neg h2, if_neg h1]
    have hfq : ¬ zu_fm μ τ q = 2 := by
      rcases (zy_ok_ct u wt ok q hq).1 with e | e <;> rw [e] <;> decide
    let ab' : Nat → Int32 := fun i => if i = j then ab q else ab i
    obtain ⟨O1, O2⟩ := zy_ok_del (fm' := zu_fm θ τ) (fs' := fun n => θ 245 (24 * τ + n)) (sd' := fun n => θ 246 (24 * τ + n)) (ab' := ab') (n := m) (q := q) (j := j) fm2 hfq (by omega) (by omega) (by omega) hnj (if_pos rfl) aj an hqn u wt k5 i31 (Ne.symm hid) (fun x hx h1 h2 => f7 x (k6 x hx) h1 h2) (fun c hc _ => ⟨t5 c hc, t6 c hc⟩) (fun x _ hx => if_neg hx) ok
    have hidq : zy_id u ≠ j := fun e => by
      rw [e, aj] at hrt
      have : nI q < 0 := by rw [hrt]; decide
      exact nI_pos (by omega) this
    refine ⟨ab', ⟨Or.inr ⟨P0, O1, ?_, ?_⟩, hnd3, fun x hx => k6 x (sub x hx), fun i hi hin => ?_, fun n hn => ?_⟩, fun i hi => ⟨sub i hi, fun e => d1' (e ▸ hi), f7 i (k6 i (sub i hi)) (fun e => d1' (e ▸ hi)) (fun e => d2 (e ▸ hi))⟩, subl⟩
    · rw [t0, O2]
      by_cases e : zy_id u = q
      · rw [if_pos e, if_pos e]
      · rw [if_neg e, if_neg e]; exact hr
    · rw [O2]
      by_cases e : zy_id u = q
      · rw [if_pos e]
        show (if j = j then ab q else ab j) = -1
        rw [if_pos rfl, ← e]; exact hrt
      · rw [if_neg e]
        show (if zy_id u = j then ab q else ab (zy_id u)) = -1
        rw [if_neg hidq]; exact hrt
    · rw [t4 i hi]
      by_cases e1 : i = q
      · rw [if_pos e1]
      · rw [if_neg e1]
        by_cases e2 : i = m
        · rw [if_pos e2]
        · rw [if_neg e2]
          refine k8 i hi (fun h => ?_)
          rcases List.mem_cons.mp (P1.mem_iff.mpr h) with h | h
          · exact e2 h
          · rcases List.mem_cons.mp h with h | h
            · exact e1 h
            · exact hin h
    · obtain ⟨l, h1, h2⟩ := k9 n (subl n hn)
      exact ⟨l, tT n (subl n hn) (fun e => d1' (e ▸ zy_lvs_ids _ P0 n hn)) l h1, h2⟩
end ZUD
