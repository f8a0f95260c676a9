/-! the reference: a tab more; a first leaf; an empty tree -/
section ZUB
variable {μ : zm_M} {τ : Nat} {u : zy_F} {ab : Nat → Int32}
/-- a tab more in the leaf m -/
def zu_isTab (μ : zm_M) (τ : Nat) (u : zy_F) (ab : Nat → Int32) (m k : Nat) (ν : zm_M) : Prop :=
  zu_I ν τ u ab ∧ zu_T ν τ m (zu_tb μ τ m ++ [k]) ∧ (∀ n, n ≠ m → ∀ l, zu_T μ τ n l → zu_T ν τ n l) ∧ (∀ n, ν 250 (24 * τ + n) = μ 250 (24 * τ + n) ∧ ν 247 (24 * τ + n) = μ 247 (24 * τ + n) ∧ zu_fm ν τ n = zu_fm μ τ n) ∧ zu_fr τ μ ν
theorem ze_MaddTabI (D : Nat) (ht : τ < 7) (hI : zu_I μ τ u ab) {m k : Nat} (hm : m ∈ zy_lvs u) (hk : k < 10) (hl : (zu_tb μ τ m).length < 10) : ∃ ν, ze_E (D + 2) A_Mod_addTab [.ref 232, .int (nI τ), .int (nI m), .int (nI k)] (zm_mk μ) none (zm_mk ν) ∧ zu_isTab μ τ u ab m k ν := by
  obtain ⟨wt, hmid⟩ := zu_I_lv hI hm
  obtain ⟨-, ok, hr, hrt⟩ := zu_I_wf hI hmid
  obtain ⟨-, k5, k6, k8, k9⟩ := id hI
  have hm24 := k6 m hmid
  obtain ⟨hT, hl0, hlb⟩ := zu_I_tb hI hm
  unfold zu_isTab
  generalize zu_tb μ τ m = l at hT hl0 hlb hl
  have E := ze_MaddTab (D := D) ht hm24 hT hl (nI k)
  have T1 := zu_T_add hT hl k
  generalize hν : zm_up (zm_up μ 248 (10 * (24 * τ + m) + l.length) (nI k)) 249 (24 * τ + m) (nI (l.length + 1)) = ν at E T1
  have vo : ∀ c d, c ≠ 248 → c ≠ 249 → ν c d = μ c d := fun c d h8 h9 => by rw [← hν, zm_up_ne (by omega), zm_up_ne (by omega)]
  have T2 : ∀ n, n ≠ m → ∀ l', zu_T μ τ n l' → zu_T ν τ n l' := fun n hn l' ⟨a0, a1, a2⟩ => ⟨a0, by rw [← hν, zm_up_ne (by omega), zm_up_ne (by omega)]; exact a1, fun j hj => by rw [← hν, zm_up_ne (by omega), zm_up_ne (by omega)]; exact a2 j hj⟩
  have fmE : ∀ n, zu_fm ν τ n = zu_fm μ τ n := fun n => by
    unfold zu_fm
    rw [vo _ _ (by decide) (by decide)]
  refine ⟨ν, E, ⟨Or.inr ⟨wt, ?_, by rw [vo _ _ (by decide) (by decide)]; exact hr, hrt⟩, k5, k6, fun n hn hnu => by rw [vo _ _ (by decide) (by decide)]; exact k8 n hn hnu, fun n hn => ?_⟩, T1, T2, fun n => ⟨vo _ _ (by decide) (by decide), vo _ _ (by decide) (by decide), fmE n⟩, fun c d h => ?_⟩
  · exact zy_ok_congr u wt k5 (fun y _ => fmE y) (fun y _ => ⟨vo _ _ (by decide) (by decide), vo _ _ (by decide) (by decide)⟩) (fun _ _ _ => rfl) ok
  · by_cases e : n = m
    · subst e
      refine ⟨_, T1, by simp, fun x hx => ?_⟩
      rcases List.mem_append.mp hx with hx | hx
      · exact hlb x hx
      · rw [List.mem_singleton.mp hx]; exact hk
    · obtain ⟨l', h1, h2⟩ := k9 n hn
      exact ⟨l', T2 n e l' h1, h2⟩
  · rw [← hν, zm_up_ne (fun q => h (Or.inr (Or.inl ⟨by rw [q.1]; rfl, by omega, by omega⟩))), zm_up_ne (fun q => h (Or.inr (Or.inr ⟨q.1, by omega, by omega⟩)))]
/-- a first leaf -/
def zu_isNew (μ : zm_M) (τ k : Nat) (ν : zm_M) (f : Nat) : Prop := zu_I ν τ (.tag f .nil) (fun _ => -1) ∧ f < 24 ∧ zu_T ν τ f [k] ∧ ν 250 (24 * τ + f) = nI k ∧ zu_fr τ μ ν
theorem ze_MnewLeafI (D : Nat) (ht : τ < 7) (hI : zu_I μ τ .nil ab) {k : Nat} (hk : k < 10) : ∃ ν f, ze_E (D + 3) A_Mod_newLeaf [.ref 232, .int (nI τ), .int (nI k)] (zm_mk μ) (some (.int (nI f))) (zm_mk ν) ∧ f < 24 ∧ zu_isNew μ τ k (zm_up ν 243 τ (nI f)) f := by
  obtain ⟨-, k5, k6, k8, k9⟩ := id hI
  obtain ⟨f, ⟨hf, hft⟩, E⟩ := ze_MnewLeaf (μ := μ) D ht (nI k) ⟨0, by decide, k8 0 (by decide) List.not_mem_nil⟩
  generalize hν : zm_up (zm_up (zm_up (zm_up (zm_up μ 244 (24 * τ + f) 1) 249 (24 * τ + f) 0) 248 (10 * (24 * τ + f)) (nI k)) 249 (24 * τ + f) 1) 250 (24 * τ + f) (nI k) = ν at E
  have v4 : ∀ i, ν 244 (24 * τ + i) = if i = f then 1 else μ 244 (24 * τ + i) := fun i => by
    rw [← hν, zm_up_ne (by omega), zm_up_ne (by omega), zm_up_ne (by omega), zm_up_ne (by omega), zm_up_pt]
    by_cases e : i = f
    · rw [if_pos (by omega), if_pos e]
    · rw [if_neg (by omega), if_neg e]
  have T1 : zu_T (zm_up ν 243 τ (nI f)) τ f [k] := by
    refine ⟨by simp, ?_, fun j hj => ?_⟩
    · rw [zm_up_ne (by omega), ← hν, zm_up_ne (by omega), zm_up_eq]; rfl
    · have : j = 0 := by simpa using hj
      subst this
      rw [zm_up_ne (by omega), ← hν, zm_up_ne (by omega), zm_up_ne (by omega), zm_up_pt, if_pos (by omega)]
      rfl
  refine ⟨ν, f, E, hf, ⟨Or.inr ⟨trivial, ?_, zm_up_eq, rfl⟩, List.nodup_cons.mpr ⟨List.not_mem_nil, List.nodup_nil⟩, fun n hn => ?_, fun n hn hnu => ?_, fun n hn => ?_⟩, hf, T1, ?_, fun c d h => ?_⟩
  · show zu_fm (zm_up ν 243 τ (nI f)) τ f = 2
    rw [zu_fm_of (x := 1) (by rw [zm_up_ne (by omega), v4, if_pos rfl])]
    rfl
  · have : n = f := List.mem_singleton.mp hn
    omega
  · have : n ≠ f := fun e => hnu (List.mem_singleton.mpr e)
    rw [zm_up_ne (by omega), v4, if_neg this]
    exact k8 n hn List.not_mem_nil
  · have : n = f := List.mem_singleton.mp hn
    subst this
    exact ⟨_, T1, by simp, fun x hx => by rw [List.mem_singleton.mp hx]; exact hk⟩
  · rw [zm_up_ne (by omega), ← hν, zm_up_eq]
  · have key : ∀ z x', z < 24 → zu_c6 x' = true → ¬ (c = x' ∧ d = 24 * τ + z) := fun z x' hz hx' q => h (Or.inr (Or.inl ⟨by rw [q.1]; exact hx', by omega, by omega⟩))
    rw [zm_up_ne (fun q => h (Or.inl q)), ← hν, zm_up_ne (key f 250 hf rfl), zm_up_ne (key f 249 hf rfl), zm_up_ne (fun q => h (Or.inr (Or.inr ⟨q.1, by omega, by omega⟩))), zm_up_ne (key f 249 hf rfl), zm_up_ne (key f 244 hf rfl)]
theorem ze_MclearTreeI (D : Nat) (ht : τ < 7) : ∃ ν, ze_E (D + 2) A_Mod_clearTree [.ref 232, .int (nI τ)] (zm_mk μ) none (zm_mk ν) ∧ zu_I ν τ .nil (fun _ => -1) ∧ zu_fr τ μ ν := by
  obtain ⟨ν, E, h1, h2, h3⟩ := ze_MclearTree (μ := μ) D ht
  refine ⟨ν, E, ⟨Or.inl ⟨rfl, h1⟩, List.nodup_nil, fun n hn => (by cases hn), fun n hn _ => h2 n hn, fun n hn => by cases hn⟩, fun c d h => h3 c d (fun q => h (Or.inl q)) (fun q => h (Or.inr (Or.inl ⟨by rw [q.1]; rfl, q.2⟩)))⟩
end ZUB
