section
/-! the reference: cutLeaf -/
section ZUC
variable {μ θ : zm_M} {τ : Nat} {u : zy_F} {ab : Nat → Int32}
theorem zu_fm_of {n : Nat} {x : Int32} (h : θ 244 (24 * τ + n) = x) : zu_fm θ τ n = if x = 1 then 2 else if x = 2 then 0 else if x = 3 then 1 else 3 := by
  unfold zu_fm
  rw [h]
theorem zu_fm_a {n a : Nat} (ha : a < 2) (h : θ 244 (24 * τ + n) = nI (a + 2)) : zu_fm θ τ n = nI a := by
  rw [zu_fm_of h]
  match a, ha with
  | 0, _ => decide
  | 1, _ => decide
theorem zu_cut_pure (hI : zu_I μ τ u ab) {m k a c f i1 i2 : Nat} (hm : m ∈ zy_lvs u) (hk : k < 10) (ha : a < 2) (hc : c < 24) (hcf : c ∉ zy_ids u) (hf : f < 24) (hff : f ∉ zy_ids u) (hne : c ≠ f)
    (t4 : ∀ i, i < 24 → θ 244 (24 * τ + i) = if i = f then 1 else if i = c then nI (a + 2) else μ 244 (24 * τ + i)) (t5c : θ 245 (24 * τ + c) = nI i1) (t6c : θ 246 (24 * τ + c) = nI i2) (hi : (i1 = m ∧ i2 = f) ∨ (i1 = f ∧ i2 = m))
    (t5 : ∀ q ∈ zy_cts u, θ 245 (24 * τ + q) = if μ 245 (24 * τ + q) = nI m then nI c else μ 245 (24 * τ + q)) (t6 : ∀ q ∈ zy_cts u, θ 246 (24 * τ + q) = if μ 246 (24 * τ + q) = nI m then nI c else μ 246 (24 * τ + q))
    (t3 : θ 243 τ = if zy_id u = m then nI c else μ 243 τ) (tT : ∀ n ∈ zy_lvs u, ∀ l, zu_T μ τ n l → zu_T θ τ n l) (tf : zu_T θ τ f [k]) :
    zu_I θ τ (zy_sub m (.append (.tag c (.tag i1 .nil)) (.tag i2 .nil)) u) (fun i => if i = f ∨ i = m then nI c else if i = c then ab m else ab i) := by
  obtain ⟨wt, hmid⟩ := zu_I_lv hI hm
  obtain ⟨-, ok, hr, hrt⟩ := zu_I_wf hI hmid
  obtain ⟨-, k5, k6, k8, k9⟩ := hI
  have hm24 := k6 m hmid
  have hcm : c ≠ m := fun e => hcf (e ▸ hmid)
  have hfm : f ≠ m := fun e => hff (e ▸ hmid)
  have fm2 := zy_ok_lf u wt ok m hm
  let s : zy_F := .append (.tag c (.tag i1 .nil)) (.tag i2 .nil)
  have ws : zy_wf s := ⟨trivial, trivial⟩
  obtain ⟨p1, p2, p3⟩ := zy_sub_perm (n := m) (s := s) u wt k5 hm
  have is : List.Perm (zy_ids s) (m :: [c, f]) := by
    show List.Perm [c, i1, i2] [m, c, f]
    rcases hi with ⟨rfl, rfl⟩ | ⟨rfl, rfl⟩
    · exact List.Perm.swap _ _ _
    · exact (List.perm_append_comm (l₁ := [c, i1]) (l₂ := [i2]))
  have ls : List.Perm (zy_lvs s) (m :: [f]) := by
    show List.Perm [i1, i2] [m, f]
    rcases hi with ⟨rfl, rfl⟩ | ⟨rfl, rfl⟩
    · exact List.Perm.refl _
    · exact List.Perm.swap _ _ _
  have P1 : List.Perm (zy_ids (zy_sub m s u)) (c :: f :: zy_ids u) := (List.perm_cons m).mp (p1.trans (is.append_right _))
  have P2 : List.Perm (zy_lvs (zy_sub m s u)) (f :: zy_lvs u) := (List.perm_cons m).mp (p2.trans (ls.append_right _))
  have fmo : ∀ x, x < 24 → x ≠ f → x ≠ c → zu_fm θ τ x = zu_fm μ τ x := fun x hx h1 h2 => by
    unfold zu_fm
    rw [t4 x hx, if_neg h1, if_neg h2]
  have fmf : zu_fm θ τ f = 2 := by
    rw [zu_fm_of (t4 f hf), if_pos rfl]
    rfl
  have fmc : zu_fm θ τ c = nI a := zu_fm_a ha (by rw [t4 c hc, if_neg hne, if_pos rfl])
  have oks : zy_ok (zu_fm θ τ) (fun n => θ 245 (24 * τ + n)) (fun n => θ 246 (24 * τ + n)) (fun i => if i = f ∨ i = m then nI c else if i = c then ab m else ab i) s := by
    refine ⟨⟨?_, t5c, t6c, ?_, ?_⟩, ?_, ?_⟩
    · rw [fmc]
      match a, ha with
      | 0, _ => exact Or.inl nI_0
      | 1, _ => exact Or.inr (by decide)
    · show (if i1 = f ∨ i1 = m then nI c else _) = nI c
      rw [if_pos (by rcases hi with ⟨e, _⟩ | ⟨e, _⟩ <;> simp [e])]
    · show (if i2 = f ∨ i2 = m then nI c else _) = nI c
      rw [if_pos (by rcases hi with ⟨_, e⟩ | ⟨_, e⟩ <;> simp [e])]
    · show zu_fm θ τ i1 = 2
      rcases hi with ⟨rfl, _⟩ | ⟨rfl, _⟩
      · rw [fmo i1 hm24 (Ne.symm hfm) (Ne.symm hcm)]; exact fm2
      · exact fmf
    · show zu_fm θ τ i2 = 2
      rcases hi with ⟨_, rfl⟩ | ⟨_, rfl⟩
      · exact fmf
      · rw [fmo i2 hm24 (Ne.symm hfm) (Ne.symm hcm)]; exact fm2
  have ids31 : ∀ x ∈ zy_ids u, x < 2 ^ 31 := fun x hx => by have := k6 x hx; omega
  have okt : zu_ok θ τ (fun i => if i = f ∨ i = m then nI c else if i = c then ab m else ab i) (zy_sub m s u) := by
    refine zy_ok_sub (n := m) (s := s) fm2 (by omega) ?_ oks u wt ids31 (fun x hx hxn => ?_) (fun q hq => ⟨t5 q hq, t6 q hq⟩) (fun x hx hxn => ?_) ok
    · show (if c = f ∨ c = m then nI c else if c = c then ab m else ab c) = ab m
      rw [if_neg (by omega), if_pos rfl]
    · exact fmo x (k6 x hx) (zl_ne hff hx) (zl_ne hcf hx)
    · show (if x = f ∨ x = m then nI c else if x = c then ab m else ab x) = ab x
      rw [if_neg (fun e => e.elim (zl_ne hff hx) hxn), if_neg (zl_ne hcf hx)]
  have hid : zy_id (zy_sub m s u) = if zy_id u = m then c else zy_id u := zy_sub_id fm2 u wt ok
  have hidt := zy_id_mem wt
  refine ⟨Or.inr ⟨zy_sub_wf ws u wt, okt, ?_, ?_⟩, ?_, ?_, ?_, ?_⟩
  · rw [t3, hid]
    by_cases e : zy_id u = m
    · rw [if_pos e, if_pos e]
    · rw [if_neg e, if_neg e]; exact hr
  · rw [hid]
    by_cases e : zy_id u = m
    · rw [if_pos e]
      show (if c = f ∨ c = m then nI c else if c = c then ab m else ab c) = -1
      rw [if_neg (by omega), if_pos rfl, ← e]; exact hrt
    · rw [if_neg e]
      show (if zy_id u = f ∨ zy_id u = m then nI c else if zy_id u = c then ab m else ab (zy_id u)) = -1
      rw [if_neg (fun e2 => e2.elim (zl_ne hff hidt) e), if_neg (zl_ne hcf hidt)]; exact hrt
  · refine P1.nodup_iff.mpr (List.nodup_cons.mpr ⟨?_, List.nodup_cons.mpr ⟨hff, k5⟩⟩)
    intro h
    rcases List.mem_cons.mp h with h | h
    · exact hne h
    · exact hcf h
  · intro x hx
    rcases List.mem_cons.mp (P1.mem_iff.mp hx) with rfl | h
    · exact hc
    · rcases List.mem_cons.mp h with rfl | h
      · exact hf
      · exact k6 x h
  · intro x hx hxn
    have hxn' : x ∉ c :: f :: zy_ids u := fun h => hxn (P1.mem_iff.mpr h)
    have e1 : x ≠ c := fun e => hxn' (e ▸ List.mem_cons_self)
    have e2 : x ≠ f := fun e => hxn' (e ▸ List.mem_cons_of_mem _ List.mem_cons_self)
    have e3 : x ∉ zy_ids u := fun e => hxn' (List.mem_cons_of_mem _ (List.mem_cons_of_mem _ e))
    rw [t4 x hx, if_neg e2, if_neg e1]
    exact k8 x hx e3
  · intro n hn
    rcases List.mem_cons.mp (P2.mem_iff.mp hn) with rfl | hn
    · exact ⟨[k], tf, by simp, fun x hx => by rw [List.mem_singleton.mp hx]; exact hk⟩
    · obtain ⟨l, h1, h2⟩ := k9 n hn
      exact ⟨l, tT n hn l h1, h2⟩
/-- what cutLeaf leaves -/
noncomputable def zu_isCut (μ : zm_M) (τ : Nat) (u : zy_F) (m k a : Nat) (nf : Bool) (ν : zm_M) (ab' : Nat → Int32) (c f : Nat) : Prop :=
  zu_I ν τ (zy_sub m (.append (.tag c (.tag (if nf then f else m) .nil)) (.tag (if nf then m else f) .nil)) u) ab' ∧ (c < 24 ∧ f < 24 ∧ c ∉ zy_ids u ∧ f ∉ zy_ids u ∧ c ≠ f) ∧ zu_T ν τ f [k] ∧ ν 250 (24 * τ + f) = nI k ∧ ν 247 (24 * τ + c) = 50 ∧ zu_fm ν τ c = nI a ∧
  (∀ n ∈ zy_lvs u, ∀ l, zu_T μ τ n l → zu_T ν τ n l) ∧ (∀ n ∈ zy_ids u, ν 250 (24 * τ + n) = μ 250 (24 * τ + n) ∧ ν 247 (24 * τ + n) = μ 247 (24 * τ + n) ∧ zu_fm ν τ n = zu_fm μ τ n) ∧ zu_fr τ μ ν
set_option maxRecDepth 100000 in
theorem ze_McutLeaf (D : Nat) (ht : τ < 7) (hI : zu_I μ τ u ab) {m k a : Nat} (hm : m ∈ zy_lvs u) (hk : k < 10) (ha : a < 2) (nf : Bool) (hlen : (zy_ids u).length + 2 ≤ 24) :
    ∃ ν ab' c f, ze_E (D + 4) A_Mod_cutLeaf [.ref 232, .int (nI τ), .int (nI m), .int (nI (a + 2)), .int (nI k), .int (if nf = true then 1 else 0)] (zm_mk μ) none (zm_mk ν) ∧ zu_isCut μ τ u m k a nf ν ab' c f := by
  obtain ⟨wt, hmid⟩ := zu_I_lv hI hm
  obtain ⟨-, ok, hr, hrt⟩ := zu_I_wf hI hmid
  obtain ⟨-, k5, k6, k8, k9⟩ := id hI
  have hm24 := k6 m hmid
  have h50 : (Int8.ofInt 50).toInt32 = (50 : Int32) := by decide
  obtain ⟨N1, E1⟩ := ze_Mabove (μ := μ) (D + 1) ht (nI m)
  rw [zu_ab_eq hI hmid] at E1
  obtain ⟨f0, hf0, hf0i⟩ := zl_free 24 (zy_ids u) (by omega)
  obtain ⟨f, ⟨hf, hft⟩, N2, E2⟩ := ze_MnewLeaf (μ := μ) D ht (nI k) ⟨f0, hf0, k8 f0 hf0 hf0i⟩
  have hff : f ∉ zy_ids u := fun e => by
    rcases zy_ids_or u wt f e with h | h
    · rcases zu_I_cut hI h with q | q <;> rw [q] at hft <;> exact absurd hft (by decide)
    · rw [zu_I_leaf hI h] at hft; exact absurd hft (by decide)
  generalize hM1 : zm_up (zm_up (zm_up (zm_up (zm_up μ 244 (24 * τ + f) 1) 249 (24 * τ + f) 0) 248 (10 * (24 * τ + f)) (nI k)) 249 (24 * τ + f) 1) 250 (24 * τ + f) (nI k) = M1 at E2
  have v4 : ∀ i, M1 244 (24 * τ + i) = if i = f then 1 else μ 244 (24 * τ + i) := fun i => by
    rw [← hM1, zm_up_ne (by omega), zm_up_ne (by omega), zm_up_ne (by omega), zm_up_ne (by omega), zm_up_pt]
    by_cases e : i = f
    · rw [if_pos (by omega), if_pos e]
    · rw [if_neg (by omega), if_neg e]
  obtain ⟨f1, hf1, hf1i⟩ := zl_free 24 (f :: zy_ids u) (by rw [List.length_cons]; omega)
  have hf1f : f1 ≠ f := fun e => hf1i (e ▸ List.mem_cons_self)
  have hf1u : f1 ∉ zy_ids u := fun e => hf1i (List.mem_cons_of_mem _ e)
  obtain ⟨c, ⟨hc, hct⟩, N3, E3⟩ := ze_MnewNode' (μ := M1) (D + 1) ht (nI (a + 2)) ⟨f1, hf1, by rw [v4, if_neg hf1f]; exact k8 f1 hf1 hf1u⟩
  have hne : c ≠ f := fun e => by rw [v4, if_pos e] at hct; exact absurd hct (by decide)
  rw [v4, if_neg hne] at hct
  have hcf : c ∉ zy_ids u := fun e => by
    rcases zy_ids_or u wt c e with h | h
    · rcases zu_I_cut hI h with q | q <;> rw [q] at hct <;> exact absurd hct (by decide)
    · rw [zu_I_leaf hI h] at hct; exact absurd hct (by decide)
  have hcm : c ≠ m := fun e => hcf (e ▸ hmid)
  have hfm : f ≠ m := fun e => hff (e ▸ hmid)
  have sp := fun ν : zm_M => ze_spot (h := zm_mk ν) (n := c) (D + 2) ht
  have ia : zi_in (nI (24 * τ + c)) 168 = true := zm_in (by omega) (by decide)
  have ca : (nI (24 * τ + c)).toNatClampNeg = 24 * τ + c := nI_clamp (by omega)
  generalize hM2 : zm_up (zm_up M1 244 (24 * τ + c) (nI (a + 2))) 249 (24 * τ + c) 0 = M2 at E3
  let i1 := if nf = true then f else m
  let i2 := if nf = true then m else f
  generalize hM3 : zm_up (zm_up (zm_up M2 245 (24 * τ + c) (nI i1)) 246 (24 * τ + c) (nI i2)) 247 (24 * τ + c) 50 = M3
  have w2 : ∀ x y, (x = 245 ∨ x = 246 ∨ x = 243 ∨ x = 247) → M2 x y = μ x y := fun x y hx => by
    rw [← hM2, zm_up_ne (by omega), zm_up_ne (by omega), ← hM1, zm_up_ne (by omega), zm_up_ne (by omega), zm_up_ne (by omega), zm_up_ne (by omega), zm_up_ne (by omega)]
  have w3 : ∀ x y, y ≠ 24 * τ + c → (x = 245 ∨ x = 246 ∨ x = 243 ∨ x = 247) → M3 x y = μ x y := fun x y hy hx => by
    rw [← hM3, zm_up_ne (by omega), zm_up_ne (by omega), zm_up_ne (by omega)]
    exact w2 x y hx
  have w30 : M3 243 τ = μ 243 τ := by
    rw [← hM3, zm_up_ne (by omega), zm_up_ne (by omega), zm_up_ne (by omega)]
    exact w2 _ _ (by simp)
  have hcc : ∀ q ∈ zy_cts u, q ≠ c := fun q hq e => hcf (e ▸ zy_cts_ids u wt q hq)
  obtain ⟨s5, s6, s3, sf⟩ := zu_st_ok hI hmid (M := M3) (fun q hq => w3 _ _ (by have := hcc q hq; omega) (by simp)) (fun q hq => w3 _ _ (by have := hcc q hq; omega) (by simp)) w30 (nI c)
  obtain ⟨N4, E4⟩ := ze_Mstand (μ := M3) (D + 1) ht (zu_ab_or hI hmid) (nI m) (nI c)
  generalize hM4 : zu_st M3 τ (ab m) (nI m) (nI c) = ν at s5 s6 s3 sf E4
  -- what the last memory has
  have a5 : ν 245 (24 * τ + c) = nI i1 := by
    rw [sf _ _ (by omega) (by rintro ⟨-, q, hq, e⟩; have := hcc q hq; omega), ← hM3, zm_up_ne (by omega), zm_up_ne (by omega), zm_up_eq]
  have a6 : ν 246 (24 * τ + c) = nI i2 := by
    rw [sf _ _ (by omega) (by rintro ⟨-, q, hq, e⟩; have := hcc q hq; omega), ← hM3, zm_up_ne (by omega), zm_up_eq]
  have a7 : ∀ i, ν 247 (24 * τ + i) = if i = c then 50 else μ 247 (24 * τ + i) := fun i => by
    rw [sf _ _ (by omega) (by omega), ← hM3, zm_up_pt]
    by_cases e : i = c
    · rw [if_pos (by omega), if_pos e]
    · rw [if_neg (by omega), if_neg e, zm_up_ne (by omega), zm_up_ne (by omega)]
      exact w2 _ _ (by simp)
  have o3 : ∀ x y, x ≠ 243 → x ≠ 245 → x ≠ 246 → x ≠ 247 → ν x y = M2 x y := fun x y h3 h5 h6 h7 => by
    rw [sf _ _ (by omega) (by omega), ← hM3, zm_up_ne (by omega), zm_up_ne (by omega), zm_up_ne (by omega)]
  have a4 : ∀ i, ν 244 (24 * τ + i) = if i = f then 1 else if i = c then nI (a + 2) else μ 244 (24 * τ + i) := fun i => by
    rw [o3 _ _ (by omega) (by omega) (by omega) (by omega), ← hM2, zm_up_ne (by omega), zm_up_pt]
    by_cases e : i = c
    · rw [if_pos (by omega), if_neg (by omega), if_pos e]
    · rw [if_neg (by omega), v4, if_neg e]
  have a0 : ∀ i, ν 250 (24 * τ + i) = if i = f then nI k else μ 250 (24 * τ + i) := fun i => by
    rw [o3 _ _ (by omega) (by omega) (by omega) (by omega), ← hM2, zm_up_ne (by omega), zm_up_ne (by omega), ← hM1, zm_up_pt]
    by_cases e : i = f
    · rw [if_pos (by omega), if_pos e]
    · rw [if_neg (by omega), if_neg e, zm_up_ne (by omega), zm_up_ne (by omega), zm_up_ne (by omega), zm_up_ne (by omega)]
  have a9 : ∀ i, i ≠ f → i ≠ c → ν 249 (24 * τ + i) = μ 249 (24 * τ + i) := fun i h1 h2 => by
    rw [o3 _ _ (by omega) (by omega) (by omega) (by omega), ← hM2, zm_up_ne (by omega), zm_up_ne (by omega), ← hM1, zm_up_ne (by omega), zm_up_ne (by omega), zm_up_ne (by omega), zm_up_ne (by omega), zm_up_ne (by omega)]
  have a9f : ν 249 (24 * τ + f) = 1 := by
    rw [o3 _ _ (by omega) (by omega) (by omega) (by omega), ← hM2, zm_up_ne (by omega), zm_up_ne (by omega), ← hM1, zm_up_ne (by omega), zm_up_eq]
  have a8 : ∀ y, ν 248 y = if y = 10 * (24 * τ + f) then nI k else μ 248 y := fun y => by
    rw [o3 _ _ (by omega) (by omega) (by omega) (by omega), ← hM2, zm_up_ne (by omega), zm_up_ne (by omega), ← hM1, zm_up_ne (by omega), zm_up_ne (by omega), zm_up_pt, zm_up_ne (by omega), zm_up_ne (by omega)]
  have aT : ∀ n ∈ zy_lvs u, ∀ l, zu_T μ τ n l → zu_T ν τ n l := fun n hn l ⟨t0, t1, t2⟩ => by
    have hni := zy_lvs_ids u wt n hn
    have h1 : n ≠ f := fun e => hff (e ▸ hni)
    have h2 : n ≠ c := fun e => hcf (e ▸ hni)
    refine ⟨t0, by rw [a9 n h1 h2]; exact t1, fun j hj => ?_⟩
    rw [a8, if_neg (by omega)]
    exact t2 j hj
  have aTf : zu_T ν τ f [k] := by
    refine ⟨by simp, by rw [a9f]; rfl, fun j hj => ?_⟩
    have : j = 0 := by simpa using hj
    subst this
    rw [a8, if_pos (by omega)]
    rfl
  have hi : (i1 = m ∧ i2 = f) ∨ (i1 = f ∧ i2 = m) := by
    cases nf
    · exact Or.inl ⟨rfl, rfl⟩
    · exact Or.inr ⟨rfl, rfl⟩
  have hP := zu_cut_pure hI hm hk ha hc hcf hf hff hne (fun i _ => a4 i) a5 a6 hi s5 s6 s3 aT aTf
  have fr : zu_fr τ μ ν := fun x y hxy => by
    have n3 : ¬ (x = 243 ∧ y = τ) := fun e => hxy (Or.inl e)
    have n6 : ∀ z, z < 24 → ¬ (zu_c6 x = true ∧ y = 24 * τ + z) := fun z hz e => hxy (Or.inr (Or.inl ⟨e.1, by omega, by omega⟩))
    have n8 : ¬ (x = 248 ∧ y = 10 * (24 * τ + f)) := fun e => hxy (Or.inr (Or.inr ⟨e.1, by omega, by omega⟩))
    have key : ∀ z x', z < 24 → zu_c6 x' = true → ¬ (x = x' ∧ y = 24 * τ + z) := fun z x' hz hx' e => n6 z hz ⟨by rw [e.1]; exact hx', e.2⟩
    rw [sf x y n3 (by
      rintro ⟨e | e, q, hq, e2⟩
      · exact key q 245 (k6 q (zy_cts_ids u wt q hq)) rfl ⟨e, e2⟩
      · exact key q 246 (k6 q (zy_cts_ids u wt q hq)) rfl ⟨e, e2⟩), ← hM3, zm_up_ne (key c 247 hc rfl), zm_up_ne (key c 246 hc rfl), zm_up_ne (key c 245 hc rfl), ← hM2, zm_up_ne (key c 249 hc rfl), zm_up_ne (key c 244 hc rfl), ← hM1, zm_up_ne (key f 250 hf rfl), zm_up_ne (key f 249 hf rfl), zm_up_ne n8, zm_up_ne (key f 249 hf rfl), zm_up_ne (key f 244 hf rfl)]
  refine ⟨ν, _, c, f, ?_, hP, ⟨hc, hf, hcf, hff, hne⟩, aTf, by rw [a0, if_pos rfl], by rw [a7, if_pos rfl], zu_fm_a ha (by rw [a4, if_neg hne, if_pos rfl]), aT, fun n hn => ⟨by rw [a0, if_neg (zl_ne hff hn)], by rw [a7, if_neg (zl_ne hcf hn)], ?_⟩, fr⟩
  · obtain ⟨N5, E5⟩ := sp M2
    obtain ⟨N6, E6⟩ := sp (zm_up M2 245 (24 * τ + c) (nI i1))
    obtain ⟨N7, E7⟩ := sp (zm_up (zm_up M2 245 (24 * τ + c) (nI i1)) 246 (24 * τ + c) (nI i2))
    obtain ⟨l0, c0⟩ := zM_c (μ := μ)
    obtain ⟨l1, c1⟩ := zM_c (μ := M1)
    obtain ⟨l3, c3⟩ := zM_c (μ := M3)
    refine ze_in [(0, .ref 232), (1, .int (nI τ)), (2, .int (nI m)), (3, .int (nI (a + 2))), (4, .int (nI k)), (5, .int (if nf = true then 1 else 0))] zq_Mod_cutLeaf (Nat.le_of_ble_eq_true rfl) rfl ?_
    cases nf
    · have ei1 : i1 = m := rfl
      have ei2 : i2 = f := rfl
      rw [ei1] at E6 E7 hM3
      rw [ei2] at E7 hM3
      refine ⟨N1 + N2 + N3 + N4 + N5 + N6 + N7, 47, fun F n hF => ?_⟩
      simp [zg_0, zg_aload_n, zg_bipush, zg_getfield, zg_goto, zg_iastore, zg_ifCond, zg_iload, zg_iload_n, zg_invokestatic, zg_invokevirtual, zg_istore, zg_return, zf_X6_cutLeaf, zi_ld, zi_lda, zi_cmp, zi_retOk, zi_isI, zi_f3, zi_cr, zi_ci, zi_cn, zi_get, zi_set, zM_g, zq_Mod_above, zq_Mod_newLeaf, zq_Mod_newNode, zq_Mod_spot, zq_Mod_stand, c0, c1, c3, E1 F (by omega), E2 F (by omega), E3 F (by omega), E4 F (by omega), E5 F (by omega), E6 F (by omega), E7 F (by omega), zm_iast zM_A245 ia, zm_iast zM_A246 ia, zm_iast zM_A247 ia, ca, h50, hM3]
    · have ei1 : i1 = f := rfl
      have ei2 : i2 = m := rfl
      rw [ei1] at E6 E7 hM3
      rw [ei2] at E7 hM3
      refine ⟨N1 + N2 + N3 + N4 + N5 + N6 + N7, 49, fun F n hF => ?_⟩
      simp [zg_0, zg_aload_n, zg_bipush, zg_getfield, zg_goto, zg_iastore, zg_ifCond, zg_iload, zg_iload_n, zg_invokestatic, zg_invokevirtual, zg_istore, zg_return, zf_X6_cutLeaf, zi_ld, zi_lda, zi_cmp, zi_retOk, zi_isI, zi_f3, zi_cr, zi_ci, zi_cn, zi_get, zi_set, zM_g, zq_Mod_above, zq_Mod_newLeaf, zq_Mod_newNode, zq_Mod_spot, zq_Mod_stand, c0, c1, c3, E1 F (by omega), E2 F (by omega), E3 F (by omega), E4 F (by omega), E5 F (by omega), E6 F (by omega), E7 F (by omega), zm_iast zM_A245 ia, zm_iast zM_A246 ia, zm_iast zM_A247 ia, ca, h50, hM3]
  · unfold zu_fm
    rw [a4 n, if_neg (zl_ne hff hn), if_neg (zl_ne hcf hn)]
end ZUC
end
section
/-! the reference: the leaf of a window; a leaf taken away: pure -/
noncomputable def zu_tb (μ : zm_M) (τ n : Nat) : List Nat := (List.range (μ 249 (24 * τ + n)).toNatClampNeg).map (fun j => (μ 248 (10 * (24 * τ + n) + j)).toNatClampNeg)
theorem zl_fi_congr {p q : Nat → Bool} {d : Int32} : ∀ m i, (∀ j, i ≤ j → j < i + m → p j = q j) → zl_fi p d m i = zl_fi q d m i := by
  intro m
  induction m with
  | zero => intro i _; rfl
  | succ m ih =>
    intro i h
    have e : ∀ p : Nat → Bool, zl_fi p d (m + 1) i = if p i = true then nI i else zl_fi p d m (i + 1) := fun p => rfl
    rw [e, e, h i (Nat.le_refl _) (by omega), ih (i + 1) (fun j h1 h2 => h j (by omega) (by omega))]
section ZUD
variable {μ θ : zm_M} {τ : Nat} {u : zy_F} {ab : Nat → Int32}
theorem zu_tb_eq {n : Nat} {l : List Nat} (h : zu_T μ τ n l) (hb : ∀ x ∈ l, x < 10) : zu_tb μ τ n = l := by
  obtain ⟨t0, t1, t2⟩ := h
  unfold zu_tb
  rw [t1, nI_clamp (by omega)]
  apply List.ext_getElem (by simp)
  intro j h1 h2
  rw [List.getElem_map, List.getElem_range, t2 j h2]
  have e : l.getD j 0 = l[j] := by rw [List.getD_eq_getElem?_getD, List.getElem?_eq_getElem h2]; rfl
  have := hb _ (List.getElem_mem h2)
  rw [e]
  exact nI_clamp (by omega)
theorem zu_I_tb (hI : zu_I μ τ u ab) {n : Nat} (hn : n ∈ zy_lvs u) : zu_T μ τ n (zu_tb μ τ n) ∧ zu_tb μ τ n ≠ [] ∧ ∀ x ∈ zu_tb μ τ n, x < 10 := by
  obtain ⟨l, h1, h2, h3⟩ := hI.2.2.2.2 n hn
  rw [zu_tb_eq h1 h3]
  exact ⟨h1, h2, h3⟩
/-- the window k is in the leaf m alone -/
noncomputable def zu_at (μ : zm_M) (τ : Nat) (u : zy_F) (k m : Nat) : Prop := m ∈ zy_lvs u ∧ k ∈ zu_tb μ τ m ∧ ∀ n ∈ zy_lvs u, k ∈ zu_tb μ τ n → n = m
theorem zu_at_lo (hI : zu_I μ τ u ab) {k m : Nat} (h : zu_at μ τ u k m) : zu_lo μ τ (zu_tb μ τ) k = nI m := by
  obtain ⟨h1, h2, h3⟩ := h
  unfold zu_lo
  have hm24 := hI.2.2.1 m (zu_I_lv hI h1).2
  rcases zl_fi_spec (fun n => decide (μ 244 (24 * τ + n) = 1 ∧ k ∈ zu_tb μ τ n)) (-1) 24 0 with ⟨n, -, hn, hp, -, e⟩ | ⟨hp, e⟩
  · have hp := of_decide_eq_true hp
    rw [e, h3 n (zu_I_of1 hI (by omega) hp.1) hp.2]
  · exfalso
    exact of_decide_eq_false (hp m (Nat.zero_le _) (by omega)) ⟨zu_I_leaf hI h1, h2⟩
theorem zu_lo_no (hI : zu_I μ τ u ab) {k : Nat} (h : ∀ n ∈ zy_lvs u, k ∉ zu_tb μ τ n) : zu_lo μ τ (zu_tb μ τ) k = -1 := by
  unfold zu_lo
  rcases zl_fi_spec (fun n => decide (μ 244 (24 * τ + n) = 1 ∧ k ∈ zu_tb μ τ n)) (-1) 24 0 with ⟨n, -, hn, hp, -, e⟩ | ⟨hp, e⟩
  · have hp := of_decide_eq_true hp
    exact absurd hp.2 (h n (zu_I_of1 hI (by omega) hp.1))
  · exact e
theorem ze_MleafOfI (D : Nat) (ht : τ < 7) (hI : zu_I μ τ u ab) {k : Nat} (hk : k < 10) : ze_E (D + 3) A_Mod_leafOf [.ref 232, .int (nI τ), .int (nI k)] (zm_mk μ) (some (.int (zu_lo μ τ (zu_tb μ τ) k))) (zm_mk μ) :=
  ze_MleafOf D ht (fun n hn e => by obtain ⟨h1, -, h3⟩ := zu_I_tb hI (zu_I_of1 hI hn e); exact ⟨h1, h3⟩) hk
theorem ze_MleafOf_at (D : Nat) (ht : τ < 7) (hI : zu_I μ τ u ab) {k m : Nat} (hk : k < 10) (h : zu_at μ τ u k m) : ze_E (D + 3) A_Mod_leafOf [.ref 232, .int (nI τ), .int (nI k)] (zm_mk μ) (some (.int (nI m))) (zm_mk μ) := by
  rw [← zu_at_lo hI h]
  exact ze_MleafOfI D ht hI hk
theorem zu_ab_congr (h4 : ∀ n, n < 24 → (1 < θ 244 (24 * τ + n) ↔ 1 < μ 244 (24 * τ + n))) (h5 : ∀ n, n < 24 → θ 245 (24 * τ + n) = μ 245 (24 * τ + n)) (h6 : ∀ n, n < 24 → θ 246 (24 * τ + n) = μ 246 (24 * τ + n)) (x : Int32) : zu_ab θ τ x = zu_ab μ τ x := by
  unfold zu_ab
  refine zl_fi_congr 24 0 (fun j _ hj => ?_)
  have hj : j < 24 := by omega
  rw [h5 j hj, h6 j hj]
  exact decide_eq_decide.mpr (and_congr_left' (h4 j hj))
noncomputable def zu_dropped (μ θ : zm_M) (τ : Nat) (u : zy_F) (ab : Nat → Int32) (m : Nat) : Prop :=
  (zy_id u = m ∧ (∀ i, i < 24 → θ 244 (24 * τ + i) = if i = m then 0 else μ 244 (24 * τ + i)) ∧ θ 243 τ = -1) ∨
  (zy_id u ≠ m ∧ ∃ q j, q ∈ zy_cts u ∧ j ∈ zy_ids u ∧ m ≠ j ∧ ab m = nI q ∧ ab j = nI q ∧ ((μ 245 (24 * τ + q) = nI m ∧ μ 246 (24 * τ + q) = nI j) ∨ (μ 245 (24 * τ + q) = nI j ∧ μ 246 (24 * τ + q) = nI m)) ∧
    (∀ i, i < 24 → θ 244 (24 * τ + i) = if i = q then 0 else if i = m then 0 else μ 244 (24 * τ + i)) ∧ (∀ c ∈ zy_cts u, θ 245 (24 * τ + c) = if μ 245 (24 * τ + c) = nI q then nI j else μ 245 (24 * τ + c)) ∧ (∀ c ∈ zy_cts u, θ 246 (24 * τ + c) = if μ 246 (24 * τ + c) = nI q then nI j else μ 246 (24 * τ + c)) ∧ θ 243 τ = if zy_id u = q then nI j else μ 243 τ)
theorem zu_drop_pure (hI : zu_I μ τ u ab) {m : Nat} (hm : m ∈ zy_lvs u) (hd : zu_dropped μ θ τ u ab m) (tT : ∀ n ∈ zy_lvs u, n ≠ m → ∀ l, zu_T μ τ n l → zu_T θ τ n l) : ∃ ab', zu_I θ τ (zy_out m u) ab' ∧ (∀ i ∈ zy_ids (zy_out m u), i ∈ zy_ids u ∧ i ≠ m ∧ zu_fm θ τ i = zu_fm μ τ i) ∧ ∀ i ∈ zy_lvs (zy_out m u), i ∈ zy_lvs u := by
  obtain ⟨wt, hmid⟩ := zu_I_lv hI hm
  obtain ⟨-, ok, hr, hrt⟩ := zu_I_wf hI hmid
  obtain ⟨-, k5, k6, k8, k9⟩ := hI
  have hm24 := k6 m hmid
  have fm2 := zy_ok_lf u wt ok m hm
  have hidt := zy_id_mem wt
  rcases hd with ⟨hid, t4, t0⟩ | ⟨hid, q, j, hq, hj, hnj, an, aj, hqn, t4, t5, t6, t0⟩
  · have et := zy_leaf_of fm2 u wt ok hid
    have eo : zy_out m u = .nil := by unfold zy_out; rw [if_pos hid]
    have hi : ∀ n ∈ zy_ids u, n = m := fun n hn => by rw [et] at hn; simpa [zy_ids] using hn
    rw [eo]
    refine ⟨ab, ⟨Or.inl ⟨rfl, t0⟩, List.nodup_nil, fun w hw => (by cases hw), fun i hi2 _ => ?_, fun n hn => by cases hn⟩, fun i hi => (by cases hi), fun i hi => by cases hi⟩
    rw [t4 i hi2]
    by_cases e : i = m
    · rw [if_pos e]
    · rw [if_neg e]
      exact k8 i hi2 (fun h => e (hi i h))
  · have eo : zy_out m u = zy_del m u := by unfold zy_out; rw [if_neg hid]
    rw [eo]
    have hq24 := k6 q (zy_cts_ids u wt q hq)
    have hj24 := k6 j hj
    have i31 : ∀ x ∈ zy_ids u, x < 2 ^ 31 := fun x hx => by have := k6 x hx; omega
    obtain ⟨P0, P1, P2, P3⟩ := zy_del_perm (q := q) fm2 (by omega) (by omega) u wt i31 ok k5 hm (Ne.symm hid) an
    have hnd := P1.nodup_iff.mpr k5
    obtain ⟨d1, hnd2⟩ := List.nodup_cons.mp hnd
    obtain ⟨d2, hnd3⟩ := List.nodup_cons.mp hnd2
    have d1' : m ∉ zy_ids (zy_del m u) := fun h => d1 (List.mem_cons_of_mem _ h)
    have sub : ∀ x ∈ zy_ids (zy_del m u), x ∈ zy_ids u := fun x hx => P1.mem_iff.mp (List.mem_cons_of_mem _ (List.mem_cons_of_mem _ hx))
    have subl : ∀ x ∈ zy_lvs (zy_del m u), x ∈ zy_lvs u := fun x hx => P2.mem_iff.mp (List.mem_cons_of_mem _ hx)
    have f7 : ∀ x, x < 24 → x ≠ m → x ≠ q → zu_fm θ τ x = zu_fm μ τ x := fun x hx h1 h2 => by unfold zu_fm; rw [t4 x hx, if_neg h2, if_neg h1]
    have hfq : ¬ zu_fm μ τ q = 2 := by
      rcases (zy_ok_ct u wt ok q hq).1 with e | e <;> rw [e] <;> decide
    let ab' : Nat → Int32 := fun i => if i = j then ab q else ab i
    obtain ⟨O1, O2⟩ := zy_ok_del (fm' := zu_fm θ τ) (fs' := fun n => θ 245 (24 * τ + n)) (sd' := fun n => θ 246 (24 * τ + n)) (ab' := ab') (n := m) (q := q) (j := j) fm2 hfq (by omega) (by omega) (by omega) hnj (if_pos rfl) aj an hqn u wt k5 i31 (Ne.symm hid) (fun x hx h1 h2 => f7 x (k6 x hx) h1 h2) (fun c hc _ => ⟨t5 c hc, t6 c hc⟩) (fun x _ hx => if_neg hx) ok
    have hidq : zy_id u ≠ j := fun e => by
      rw [e, aj] at hrt
      have : nI q < 0 := by rw [hrt]; decide
      exact nI_pos (by omega) this
    refine ⟨ab', ⟨Or.inr ⟨P0, O1, ?_, ?_⟩, hnd3, fun x hx => k6 x (sub x hx), fun i hi hin => ?_, fun n hn => ?_⟩, fun i hi => ⟨sub i hi, fun e => d1' (e ▸ hi), f7 i (k6 i (sub i hi)) (fun e => d1' (e ▸ hi)) (fun e => d2 (e ▸ hi))⟩, subl⟩
    · rw [t0, O2]
      by_cases e : zy_id u = q
      · rw [if_pos e, if_pos e]
      · rw [if_neg e, if_neg e]; exact hr
    · rw [O2]
      by_cases e : zy_id u = q
      · rw [if_pos e]
        show (if j = j then ab q else ab j) = -1
        rw [if_pos rfl, ← e]; exact hrt
      · rw [if_neg e]
        show (if zy_id u = j then ab q else ab (zy_id u)) = -1
        rw [if_neg hidq]; exact hrt
    · rw [t4 i hi]
      by_cases e1 : i = q
      · rw [if_pos e1]
      · rw [if_neg e1]
        by_cases e2 : i = m
        · rw [if_pos e2]
        · rw [if_neg e2]
          refine k8 i hi (fun h => ?_)
          rcases List.mem_cons.mp (P1.mem_iff.mpr h) with h | h
          · exact e2 h
          · rcases List.mem_cons.mp h with h | h
            · exact e1 h
            · exact hin h
    · obtain ⟨l, h1, h2⟩ := k9 n (subl n hn)
      exact ⟨l, tT n (subl n hn) (fun e => d1' (e ▸ zy_lvs_ids _ P0 n hn)) l h1, h2⟩
end ZUD
end
section
/-! the reference: leave -/
noncomputable def zu_sh (μ : zm_M) (a p i : Nat) : zm_M := fun c d => if c = 248 ∧ 10 * a + p ≤ d ∧ d < 10 * a + i then μ 248 (d + 1) else μ c d
section ZUL
variable {μ : zm_M} {τ : Nat} {u : zy_F} {ab : Nat → Int32}
theorem zu_sh_0 {a p : Nat} : zu_sh μ a p p = μ := by
  funext c d
  unfold zu_sh
  rw [if_neg (by omega)]
theorem zu_sh_s {a p i : Nat} (hp : p ≤ i) : zm_up (zu_sh μ a p i) 248 (10 * a + i) (μ 248 (10 * a + i + 1)) = zu_sh μ a p (i + 1) := by
  funext c d
  unfold zm_up zu_sh
  by_cases h : c = 248 ∧ d = 10 * a + i
  · obtain ⟨rfl, rfl⟩ := h
    rw [if_pos ⟨rfl, rfl⟩, if_pos ⟨rfl, by omega, by omega⟩]
  · rw [if_neg h]
    by_cases h2 : c = 248 ∧ 10 * a + p ≤ d ∧ d < 10 * a + i
    · rw [if_pos h2, if_pos (by omega)]
    · rw [if_neg h2, if_neg (by omega)]
theorem zu_sh_ne {a p i c d : Nat} (h : c ≠ 248) : zu_sh μ a p i c d = μ c d := by
  unfold zu_sh
  rw [if_neg (fun q => h q.1)]
set_option maxRecDepth 100000 in
theorem zu_leave_loop (D : Nat) {a n0 p : Nat} (ha : a < 168) (hn : n0 < 10) (hs : μ 249 a = nI n0) : ∀ (j i : Nat) (L : zi_Lc), i + j = n0 → p ≤ i → zi_nl L = true → zi_get L 0 = some (.ref 232) → zi_get L 4 = some (.int (nI a)) → zi_get L 6 = some (.int (nI i)) →
    ∃ L', ze_S D 9 none zc_X6_leave 38 L [] (zm_mk (zu_sh μ a p i)) 84 L' [] (zm_mk (zu_sh μ a p n0)) ∧ zi_nl L' = true ∧ ∀ q, q ≠ 6 → zi_get L' q = zi_get L q := by
  have h10 : (Int8.ofInt 10).toInt32 = (10 : Int32) := by decide
  have ia : zi_in (nI a) 168 = true := zm_in ha (by decide)
  have ca : (nI a).toNatClampNeg = a := nI_clamp (by omega)
  have m10 : (10 : Int32) * nI a = nI (10 * a) := nI_mul10 ha
  intro j
  induction j with
  | zero =>
    intro i L hij hp nl g0 g4 g6
    have : i = n0 := by omega
    subst this
    refine ⟨L, ⟨0, 6, fun F n hF => ?_⟩, nl, fun _ _ => rfl⟩
    have v : zu_sh μ a p i 249 a = nI i := (zu_sh_ne (by omega)).trans hs
    simp [zg_0, zg_aload_n, zg_bipush, zg_dup2, zg_getfield, zg_goto, zg_iadd, zg_iaload, zg_iastore, zg_iconst, zg_ifCond, zg_if_icmp, zg_iinc, zg_iload, zg_iload_n, zg_imul, zg_invokestatic, zg_invokevirtual, zg_istore, zg_istore_n, zg_isub, zg_return, zf_X6_leave, zi_ld, zi_lda, zi_cmp, zi_retOk, zi_isI, zi_f3, zi_cr, zi_ci, zi_cn, g0, g4, g6, zM_g, zm_iald (k := 0) zM_A249 ia, ca, v]
  | succ j ih =>
    intro i L hij hp nl g0 g4 g6
    obtain ⟨L', S, nl', hg⟩ := ih (i + 1) (zi_set L 6 (.int (nI (i + 1)))) (by omega) (by omega) (by simp (maxDischargeDepth := 9) [zi_get_ne, zi_nl_i, zi_nl_r, zi_get_set_eq, nl]) (by simp (maxDischargeDepth := 9) [zi_get_ne, zi_nl_i, zi_nl_r, zi_get_set_eq, nl, g0]) (by simp (maxDischargeDepth := 9) [zi_get_ne, zi_nl_i, zi_nl_r, zi_get_set_eq, nl, g4]) zi_get_set_eq
    refine ⟨L', ze_S.trans (p2 := 38) (s2 := []) ⟨0, 26, fun F n hF => ?_⟩ S, nl', fun q hq => by rw [hg q hq, zi_get_ne nl hq]⟩
    have v : zu_sh μ a p i 249 a = nI n0 := (zu_sh_ne (by omega)).trans hs
    have c1 : ¬ nI n0 ≤ nI i := nI_ge (by omega) (by omega)
    have ii : zi_in (nI (10 * a + i)) 1680 = true := zm_in (by omega) (by decide)
    have ci : (nI (10 * a + i)).toNatClampNeg = 10 * a + i := nI_clamp (by omega)
    have ij : zi_in (nI (10 * a + i + 1)) 1680 = true := zm_in (by omega) (by decide)
    have cj : (nI (10 * a + i + 1)).toNatClampNeg = 10 * a + i + 1 := nI_clamp (by omega)
    have w : zu_sh μ a p i 248 (10 * a + i + 1) = μ 248 (10 * a + i + 1) := by
      unfold zu_sh
      rw [if_neg (by omega)]
    simp (maxDischargeDepth := 9) [zg_0, zg_aload_n, zg_bipush, zg_dup2, zg_getfield, zg_goto, zg_iadd, zg_iaload, zg_iastore, zg_iconst, zg_ifCond, zg_if_icmp, zg_iinc, zg_iload, zg_iload_n, zg_imul, zg_invokestatic, zg_invokevirtual, zg_istore, zg_istore_n, zg_isub, zg_return, zf_X6_leave, zi_ld, zi_lda, zi_cmp, zi_retOk, zi_isI, zi_f3, zi_cr, zi_ci, zi_cn, zi_get_ne, zi_nl_i, zi_nl_r, zi_get_set_eq, nl, g0, g4, g6, zM_g, zm_iald (k := 0) zM_A249 ia, ca, v, c1, h10, m10, nI_add, nI_1, zm_iald (k := 0) zM_A248 ij, cj, w, zm_iast zM_A248 ii, ci, zu_sh_s hp]
/-- what leave leaves -/
noncomputable def zu_isOut (μ : zm_M) (τ : Nat) (u : zy_F) (m k : Nat) (ν : zm_M) (ab' : Nat → Int32) : Prop :=
  zu_I ν τ (if (zu_tb μ τ m).erase k = [] then zy_out m u else u) ab' ∧ (∀ n ∈ zy_lvs u, n ≠ m → ∀ l, zu_T μ τ n l → zu_T ν τ n l) ∧ ((zu_tb μ τ m).erase k ≠ [] → zu_T ν τ m ((zu_tb μ τ m).erase k)) ∧
  (∀ n ∈ zy_ids (if (zu_tb μ τ m).erase k = [] then zy_out m u else u), ν 250 (24 * τ + n) = (if n = m ∧ μ 250 (24 * τ + m) = nI k then zl_nx (zu_tb μ τ m) k else μ 250 (24 * τ + n)) ∧ ν 247 (24 * τ + n) = μ 247 (24 * τ + n) ∧ zu_fm ν τ n = zu_fm μ τ n) ∧ zu_fr τ μ ν
theorem zl_idx_er {l : List Nat} {k j : Nat} (hj : j < (l.erase k).length) : (l.erase k).getD j 0 = if j < l.idxOf k then l.getD j 0 else l.getD (j + 1) 0 := by
  have he : l.erase k = l.eraseIdx (l.idxOf k) := List.erase_eq_eraseIdx_of_idxOf rfl
  rw [he, List.getD_eq_getElem?_getD, List.getElem?_eraseIdx]
  by_cases c : j < l.idxOf k
  · rw [if_pos c, if_pos c, ← List.getD_eq_getElem?_getD]
  · rw [if_neg c, if_neg c, ← List.getD_eq_getElem?_getD]
set_option maxRecDepth 100000 in
theorem ze_Mleave (D : Nat) (ht : τ < 7) (hI : zu_I μ τ u ab) {m k : Nat} (hk : k < 10) (hat : zu_at μ τ u k m) :
    ∃ ν ab', ze_E (D + 4) A_Mod_leave [.ref 232, .int (nI τ), .int (nI k)] (zm_mk μ) none (zm_mk ν) ∧ zu_isOut μ τ u m k ν ab' := by
  obtain ⟨hm, hkm, hun⟩ := id hat
  obtain ⟨wt, hmid⟩ := zu_I_lv hI hm
  obtain ⟨-, ok, hr, hrt⟩ := zu_I_wf hI hmid
  obtain ⟨-, k5, k6, k8, k9⟩ := id hI
  have hm24 := k6 m hmid
  obtain ⟨hT, hl0, hlb⟩ := zu_I_tb hI hm
  unfold zu_isOut
  generalize zu_tb μ τ m = l at hT hl0 hlb hkm
  obtain ⟨t0, t1, t2⟩ := id hT
  have h10 : (Int8.ofInt 10).toInt32 = (10 : Int32) := by decide
  obtain ⟨N1, E1⟩ := ze_MleafOf_at (D := D) ht hI hk hat
  obtain ⟨N2, E2⟩ := ze_spot (h := zm_mk μ) (n := m) (D + 2) ht
  obtain ⟨N3, E3⟩ := ze_placeOfTab (μ := μ) (D + 1) ht hm24 hT hlb hk
  rw [zr_ix_in hkm, Nat.zero_add] at E3
  have hp : l.idxOf k < l.length := List.idxOf_lt_length_of_mem hkm
  have hle : (l.erase k).length = l.length - 1 := List.length_erase_of_mem hkm
  have hsub : nI l.length - 1 = nI (l.length - 1) := by
    have : ∀ n, n < 11 → 0 < n → nI n - 1 = nI (n - 1) := by decide
    exact this _ (by omega) (by omega)
  have ia : zi_in (nI (24 * τ + m)) 168 = true := zm_in (by omega) (by decide)
  have ca : (nI (24 * τ + m)).toNatClampNeg = 24 * τ + m := nI_clamp (by omega)
  obtain ⟨lc, cc⟩ := zM_c (μ := μ)
  -- to the loop's head
  have S1 : ze_S (D + 3) 9 none zc_X6_leave 0 [(0, .ref 232), (1, .int (nI τ)), (2, .int (nI k))] [] (zm_mk μ) 38 [(6, .int (nI (l.idxOf k))), (5, .int (nI (l.idxOf k))), (4, .int (nI (24 * τ + m))), (3, .int (nI m)), (0, .ref 232), (1, .int (nI τ)), (2, .int (nI k))] [] (zm_mk (zm_up μ 249 (24 * τ + m) (nI (l.length - 1)))) := by
    refine ⟨N1 + N2 + N3, 25, fun F n hF => ?_⟩
    simp [zg_0, zg_aload_n, zg_bipush, zg_dup2, zg_getfield, zg_goto, zg_iadd, zg_iaload, zg_iastore, zg_iconst, zg_ifCond, zg_if_icmp, zg_iinc, zg_iload, zg_iload_n, zg_imul, zg_invokestatic, zg_invokevirtual, zg_istore, zg_istore_n, zg_isub, zg_return, zf_X6_leave, zi_ld, zi_lda, zi_cmp, zi_retOk, zi_isI, zi_f3, zi_cr, zi_ci, zi_cn, zi_get, zi_set, zM_g, zq_Mod_leafOf, zq_Mod_spot, zq_Mod_placeOfTab, cc, E1 F (by omega), E2 F (by omega), E3 F (by omega), zm_iald (k := 0) zM_A249 ia, ca, t1, hsub, zm_iast zM_A249 ia]
  obtain ⟨L, S2, nl, hg⟩ := zu_leave_loop (μ := zm_up μ 249 (24 * τ + m) (nI (l.length - 1))) (D + 3) (a := 24 * τ + m) (n0 := l.length - 1) (p := l.idxOf k) (by omega) (by omega) zm_up_eq (l.length - 1 - l.idxOf k) (l.idxOf k) [(6, .int (nI (l.idxOf k))), (5, .int (nI (l.idxOf k))), (4, .int (nI (24 * τ + m))), (3, .int (nI m)), (0, .ref 232), (1, .int (nI τ)), (2, .int (nI k))] (by omega) (Nat.le_refl _) rfl rfl rfl rfl
  rw [zu_sh_0] at S2
  have S := S1.trans S2
  have g0 : zi_get L 0 = some (.ref 232) := (hg 0 (by decide)).trans rfl
  have g1 : zi_get L 1 = some (.int (nI τ)) := (hg 1 (by decide)).trans rfl
  have g2 : zi_get L 2 = some (.int (nI k)) := (hg 2 (by decide)).trans rfl
  have g3 : zi_get L 3 = some (.int (nI m)) := (hg 3 (by decide)).trans rfl
  have g4 : zi_get L 4 = some (.int (nI (24 * τ + m))) := (hg 4 (by decide)).trans rfl
  have g5 : zi_get L 5 = some (.int (nI (l.idxOf k))) := (hg 5 (by decide)).trans rfl
  generalize hM : zu_sh (zm_up μ 249 (24 * τ + m) (nI (l.length - 1))) (24 * τ + m) (l.idxOf k) (l.length - 1) = M at S S2
  have v9 : M 249 (24 * τ + m) = nI (l.length - 1) := by rw [← hM, zu_sh_ne (by omega), zm_up_eq]
  have v9' : ∀ x, x ≠ 24 * τ + m → M 249 x = μ 249 x := fun x hx => by rw [← hM, zu_sh_ne (by omega), zm_up_ne (by omega)]
  have vo : ∀ c d, c ≠ 248 → c ≠ 249 → M c d = μ c d := fun c d h8 h9 => by rw [← hM, zu_sh_ne h8, zm_up_ne (by omega)]
  have v8 : ∀ j, j < l.length - 1 → M 248 (10 * (24 * τ + m) + j) = nI ((l.erase k).getD j 0) := fun j hj => by
    rw [zl_idx_er (by omega), ← hM]
    unfold zu_sh
    by_cases c : j < l.idxOf k
    · rw [if_neg (by omega), if_pos c, zm_up_ne (by omega)]
      exact t2 j (by omega)
    · rw [if_pos ⟨rfl, by omega, by omega⟩, if_neg c, zm_up_ne (by omega)]
      exact t2 (j + 1) (by omega)
  have v8' : ∀ y, (y < 10 * (24 * τ + m) ∨ 10 * (24 * τ + m) + 10 ≤ y) → M 248 y = μ 248 y := fun y hy => by
    rw [← hM]
    unfold zu_sh
    rw [if_neg (by omega), zm_up_ne (by omega)]
  have TM : ∀ n, n ≠ m → ∀ l', zu_T μ τ n l' → zu_T M τ n l' := fun n hn l' ⟨a0, a1, a2⟩ => ⟨a0, by rw [v9' _ (by omega)]; exact a1, fun j hj => by rw [v8' _ (by omega)]; exact a2 j hj⟩
  have TMm : zu_T M τ m (l.erase k) := ⟨by omega, by rw [v9, hle], fun j hj => v8 j (by omega)⟩
  have frM : zu_fr τ μ M := fun c d h => by
    by_cases h8 : c = 248
    · subst h8
      refine v8' d ?_
      have : ¬ (240 * τ ≤ d ∧ d < 240 * τ + 240) := fun e => h (Or.inr (Or.inr ⟨rfl, e⟩))
      omega
    · by_cases h9 : c = 249
      · subst h9
        refine v9' d (fun e => h (Or.inr (Or.inl ⟨rfl, by omega, by omega⟩)))
      · exact vo c d h8 h9
  by_cases c0 : l.length - 1 = 0
  · -- the leaf goes
    have hE : l.erase k = [] := List.length_eq_zero_iff.mp (by omega)
    rw [if_pos hE]
    have c0' : nI (l.length - 1) ≤ 0 := by rw [c0]; decide
    have fin : ∀ ν, zu_dropped μ ν τ u ab m → (∀ c d, c ≠ 243 → c ≠ 244 → c ≠ 245 → c ≠ 246 → ν c d = M c d) → zu_fr τ M ν → ze_G (D + 3) 9 none zc_X6_leave 84 L [] (zm_mk M) none (zm_mk ν) → ∃ ν ab', ze_E (D + 4) A_Mod_leave [.ref 232, .int (nI τ), .int (nI k)] (zm_mk μ) none (zm_mk ν) ∧ zu_I ν τ (zy_out m u) ab' ∧ (∀ n ∈ zy_lvs u, n ≠ m → ∀ l, zu_T μ τ n l → zu_T ν τ n l) ∧ (l.erase k ≠ [] → zu_T ν τ m (l.erase k)) ∧
  (∀ n ∈ zy_ids (zy_out m u), ν 250 (24 * τ + n) = (if n = m ∧ μ 250 (24 * τ + m) = nI k then zl_nx l k else μ 250 (24 * τ + n)) ∧ ν 247 (24 * τ + n) = μ 247 (24 * τ + n) ∧ zu_fm ν τ n = zu_fm μ τ n) ∧ zu_fr τ μ ν := by
      intro ν hd ho hf G
      have T' : ∀ n ∈ zy_lvs u, n ≠ m → ∀ l, zu_T μ τ n l → zu_T ν τ n l := fun n _ hnm l' hl' => by
        obtain ⟨a0, a1, a2⟩ := TM n hnm l' hl'
        exact ⟨a0, by rw [ho _ _ (by decide) (by decide) (by decide) (by decide)]; exact a1, fun j hj => by rw [ho _ _ (by decide) (by decide) (by decide) (by decide)]; exact a2 j hj⟩
      obtain ⟨ab', I', hi, -⟩ := zu_drop_pure hI hm hd T'
      refine ⟨ν, ab', ze_in [(0, .ref 232), (1, .int (nI τ)), (2, .int (nI k))] zq_Mod_leave (Nat.le_of_ble_eq_true rfl) rfl (S.end G), I', T', fun h => absurd hE h, fun n hn => ⟨?_, ?_, (hi n hn).2.2⟩, frM.trans hf⟩
      · rw [if_neg (fun e => (hi n hn).2.1 e.1), ho _ _ (by decide) (by decide) (by decide) (by decide), vo _ _ (by decide) (by decide)]
      · rw [ho _ _ (by decide) (by decide) (by decide) (by decide), vo _ _ (by decide) (by decide)]
    obtain ⟨N4, E4⟩ := ze_Mabove (μ := M) (D + 1) ht (nI m)
    rw [zu_ab_congr (μ := μ) (fun n _ => by rw [vo _ _ (by decide) (by decide)]) (fun n _ => vo _ _ (by decide) (by decide)) (fun n _ => vo _ _ (by decide) (by decide)), zu_ab_eq hI hmid] at E4
    obtain ⟨lM, cM⟩ := zM_c (μ := M)
    by_cases e : zy_id u = m
    · -- the only one
      have hneg : ¬ (0 : Int32) ≤ ab m := by rw [← e, hrt]; decide
      have it : zi_in (nI τ) 7 = true := zm_in ht (by decide)
      have ct : (nI τ).toNatClampNeg = τ := nI_clamp (by omega)
      refine fin (zm_up (zm_up M 244 (24 * τ + m) 0) 243 τ (-1)) (Or.inl ⟨e, fun i hi => ?_, zm_up_eq⟩) (fun c d h3 h4 _ _ => by rw [zm_up_ne (by omega), zm_up_ne (by omega)]) (fun c d h => ?_) ⟨N4, 23, fun F n hF => ?_⟩
      · rw [zm_up_ne (by omega), zm_up_pt]
        by_cases e2 : i = m
        · rw [if_pos (by omega), if_pos e2]
        · rw [if_neg (by omega), if_neg e2, vo _ _ (by decide) (by decide)]
      · rw [zm_up_ne (fun q => h (Or.inl q)), zm_up_ne (fun q => h (Or.inr (Or.inl ⟨by rw [q.1]; rfl, by omega, by omega⟩)))]
      · simp (maxDischargeDepth := 9) [zg_0, zg_aload_n, zg_bipush, zg_dup2, zg_getfield, zg_goto, zg_iadd, zg_iaload, zg_iastore, zg_iconst, zg_ifCond, zg_if_icmp, zg_iinc, zg_iload, zg_iload_n, zg_imul, zg_invokestatic, zg_invokevirtual, zg_istore, zg_istore_n, zg_isub, zg_return, zf_X6_leave, zi_ld, zi_lda, zi_cmp, zi_retOk, zi_isI, zi_f3, zi_cr, zi_ci, zi_cn, zi_get_ne, zi_nl_i, zi_nl_r, zi_get_set_eq, nl, g0, g1, g2, g3, g4, zM_g, zm_iald (k := 0) zM_A249 ia, ca, v9, c0', zq_Mod_above, cM, E4 F (by omega), zm_iast zM_A244 ia, hneg, zm_iast zM_A243 it, ct]
    · -- the cut above becomes its other tree
      obtain ⟨q, hq, eq, hor⟩ := zy_ok_par u wt ok m hmid (Ne.symm e)
      have hqid := zy_cts_ids u wt q hq
      have hq24 := k6 q hqid
      have hqm : q ≠ m := fun e2 => by
        have := zu_I_cut hI hq
        rw [e2, zu_I_leaf hI hm] at this
        revert this; decide
      have hpos : (0 : Int32) ≤ ab m := by rw [eq]; exact nI_pos' (by omega)
      obtain ⟨i, j, hi, hj, hij, e1, e2, a1, a2⟩ := zy_ok_kids u wt k5 ok q hq
      have hi24 := k6 i hi
      have hj24 := k6 j hj
      have iq : zi_in (nI (24 * τ + q)) 168 = true := zm_in (by omega) (by decide)
      have cq : (nI (24 * τ + q)).toNatClampNeg = 24 * τ + q := nI_clamp (by omega)
      let M2 := zm_up M 244 (24 * τ + m) 0
      have r5 : M2 245 (24 * τ + q) = μ 245 (24 * τ + q) := (zm_up_ne (by omega)).trans (vo _ _ (by decide) (by decide))
      have r6 : M2 246 (24 * τ + q) = μ 246 (24 * τ + q) := (zm_up_ne (by omega)).trans (vo _ _ (by decide) (by decide))
      obtain ⟨N5, E5⟩ := ze_spot (h := zm_mk M2) (n := q) (D + 2) ht
      obtain ⟨N6, E6⟩ := ze_Mabove (μ := M2) (D + 1) ht (nI q)
      rw [zu_ab_congr (μ := μ) (fun n hn => by
        show 1 < zm_up M 244 (24 * τ + m) 0 244 (24 * τ + n) ↔ _
        rw [zm_up_pt]
        by_cases e3 : n = m
        · subst e3
          rw [if_pos rfl, zu_I_leaf hI hm]
          decide
        · rw [if_neg (by omega), vo _ _ (by decide) (by decide)]) (fun n _ => (zm_up_ne (by omega)).trans (vo _ _ (by decide) (by decide))) (fun n _ => (zm_up_ne (by omega)).trans (vo _ _ (by decide) (by decide))), zu_ab_eq hI hqid] at E6
      let M3 := zm_up M2 244 (24 * τ + q) 0
      have main : ∀ o, o ∈ zy_ids u → m ≠ o → ab o = nI q → ((μ 245 (24 * τ + q) = nI m ∧ μ 246 (24 * τ + q) = nI o) ∨ (μ 245 (24 * τ + q) = nI o ∧ μ 246 (24 * τ + q) = nI m)) → (ze_E (D + 3) A_Mod_stand [.ref 232, .int (nI τ), .int (ab q), .int (nI q), .int (nI o)] (zm_mk M3) none (zm_mk (zu_st M3 τ (ab q) (nI q) (nI o))) → ze_G (D + 3) 9 none zc_X6_leave 84 L [] (zm_mk M) none (zm_mk (zu_st M3 τ (ab q) (nI q) (nI o)))) → ∃ ν ab', ze_E (D + 4) A_Mod_leave [.ref 232, .int (nI τ), .int (nI k)] (zm_mk μ) none (zm_mk ν) ∧ zu_I ν τ (zy_out m u) ab' ∧ (∀ n ∈ zy_lvs u, n ≠ m → ∀ l, zu_T μ τ n l → zu_T ν τ n l) ∧ (l.erase k ≠ [] → zu_T ν τ m (l.erase k)) ∧
  (∀ n ∈ zy_ids (zy_out m u), ν 250 (24 * τ + n) = (if n = m ∧ μ 250 (24 * τ + m) = nI k then zl_nx l k else μ 250 (24 * τ + n)) ∧ ν 247 (24 * τ + n) = μ 247 (24 * τ + n) ∧ zu_fm ν τ n = zu_fm μ τ n) ∧ zu_fr τ μ ν := by
        intro o ho hmo ao hqo G
        have w : ∀ c d, c ≠ 244 → M3 c d = M c d := fun c d h => by
          show zm_up (zm_up M 244 (24 * τ + m) 0) 244 (24 * τ + q) 0 c d = M c d
          rw [zm_up_ne (by omega), zm_up_ne (by omega)]
        obtain ⟨s5, s6, s3, sf⟩ := zu_st_ok hI hqid (M := M3) (fun x _ => (w _ _ (by decide)).trans (vo _ _ (by decide) (by decide))) (fun x _ => (w _ _ (by decide)).trans (vo _ _ (by decide) (by decide))) ((w _ _ (by decide)).trans (vo _ _ (by decide) (by decide))) (nI o)
        refine fin _ (Or.inr ⟨e, q, o, hq, ho, hmo, eq, ao, hqo, fun x hx => ?_, s5, s6, s3⟩) (fun c d h3 h4 h5 h6 => ?_) (fun c d h => ?_) (G (ze_Mstand (D := D + 1) ht (zu_ab_or hI hqid) (nI q) (nI o)))
        · rw [sf _ _ (by omega) (by omega)]
          show zm_up (zm_up M 244 (24 * τ + m) 0) 244 (24 * τ + q) 0 244 (24 * τ + x) = _
          rw [zm_up_pt]
          by_cases x1 : x = q
          · rw [if_pos (by omega), if_pos x1]
          · rw [if_neg (by omega), if_neg x1, zm_up_pt]
            by_cases x2 : x = m
            · rw [if_pos (by omega), if_pos x2]
            · rw [if_neg (by omega), if_neg x2, vo _ _ (by decide) (by decide)]
        · rw [sf c d (by omega) (by omega), w c d h4]
        · have key : ∀ z x', z < 24 → zu_c6 x' = true → ¬ (c = x' ∧ d = 24 * τ + z) := fun z x' hz hx' q => h (Or.inr (Or.inl ⟨by rw [q.1]; exact hx', by omega, by omega⟩))
          rw [sf c d (fun q => h (Or.inl q)) (by
            rintro ⟨x1 | x1, y, hy, x2⟩
            · exact key y 245 (k6 y (zy_cts_ids u wt y hy)) rfl ⟨x1, x2⟩
            · exact key y 246 (k6 y (zy_cts_ids u wt y hy)) rfl ⟨x1, x2⟩)]
          show zm_up (zm_up M 244 (24 * τ + m) 0) 244 (24 * τ + q) 0 c d = M c d
          rw [zm_up_ne (key q 244 hq24 rfl), zm_up_ne (key m 244 hm24 rfl)]
      obtain ⟨l2, cM2⟩ := zM_c (μ := M2)
      obtain ⟨l3, cM3⟩ := zM_c (μ := M3)
      obtain ⟨N7, E7⟩ := ze_spot (h := zm_mk M2) (n := q) (D + 2) ht
      by_cases c9 : μ 245 (24 * τ + q) = nI m
      · have hin : i = m := (nI_eq (by omega) (by omega)).mp (e1.symm.trans c9)
        refine main j hj (fun h => hij (hin.trans h)) a2 (Or.inl ⟨c9, e2⟩) (fun ⟨N8, E8⟩ => ?_)
        have r5' : M2 245 (24 * τ + q) = nI m := r5.trans c9
        have r6' : M2 246 (24 * τ + q) = nI j := r6.trans e2
        rw [eq] at E4 hpos
        refine ⟨N4 + N5 + N6 + N7 + N8, 52, fun F n hF => ?_⟩
        simp (maxDischargeDepth := 9) [zg_0, zg_aload_n, zg_bipush, zg_dup2, zg_getfield, zg_goto, zg_iadd, zg_iaload, zg_iastore, zg_iconst, zg_ifCond, zg_if_icmp, zg_iinc, zg_iload, zg_iload_n, zg_imul, zg_invokestatic, zg_invokevirtual, zg_istore, zg_istore_n, zg_isub, zg_return, zf_X6_leave, zi_ld, zi_lda, zi_cmp, zi_retOk, zi_isI, zi_f3, zi_cr, zi_ci, zi_cn, zi_get_ne, zi_nl_i, zi_nl_r, zi_get_set_eq, nl, g0, g1, g2, g3, g4, zM_g, zm_iald (k := 0) zM_A249 ia, ca, v9, c0', zq_Mod_above, zq_Mod_spot, zq_Mod_stand, cM, cM2, cM3, E4 F (by omega), zm_iast zM_A244 ia, zm_iast zM_A244 iq, hpos, show zm_up M 244 (24 * τ + m) 0 = M2 from rfl, E5 F (by omega), zm_iald (k := 0) zM_A245 iq, zm_iald (k := 0) zM_A246 iq, cq, r5', r6', E6 F (by omega), show zm_up M2 244 (24 * τ + q) 0 = M3 from rfl, E8 F (by omega)]
      · have c10 : μ 246 (24 * τ + q) = nI m := hor.resolve_left c9
        have hjn : j = m := (nI_eq (by omega) (by omega)).mp (e2.symm.trans c10)
        refine main i hi (fun h => hij (h.symm.trans hjn.symm)) a1 (Or.inr ⟨e1, c10⟩) (fun ⟨N8, E8⟩ => ?_)
        have r5' : M2 245 (24 * τ + q) = nI i := r5.trans e1
        have c9' : ¬ nI i = nI m := fun h => c9 (e1.trans h)
        rw [eq] at E4 hpos
        refine ⟨N4 + N5 + N6 + N7 + N8, 51, fun F n hF => ?_⟩
        simp (maxDischargeDepth := 9) [zg_0, zg_aload_n, zg_bipush, zg_dup2, zg_getfield, zg_goto, zg_iadd, zg_iaload, zg_iastore, zg_iconst, zg_ifCond, zg_if_icmp, zg_iinc, zg_iload, zg_iload_n, zg_imul, zg_invokestatic, zg_invokevirtual, zg_istore, zg_istore_n, zg_isub, zg_return, zf_X6_leave, zi_ld, zi_lda, zi_cmp, zi_retOk, zi_isI, zi_f3, zi_cr, zi_ci, zi_cn, zi_get_ne, zi_nl_i, zi_nl_r, zi_get_set_eq, nl, g0, g1, g2, g3, g4, zM_g, zm_iald (k := 0) zM_A249 ia, ca, v9, c0', zq_Mod_above, zq_Mod_spot, zq_Mod_stand, cM, cM2, cM3, E4 F (by omega), zm_iast zM_A244 ia, zm_iast zM_A244 iq, hpos, show zm_up M 244 (24 * τ + m) 0 = M2 from rfl, E5 F (by omega), zm_iald (k := 0) zM_A245 iq, zm_iald (k := 0) zM_A246 iq, cq, r5', c9', E6 F (by omega), show zm_up M2 244 (24 * τ + q) 0 = M3 from rfl, E8 F (by omega)]
  · -- tabs are left
    have hE : l.erase k ≠ [] := fun h => by rw [h] at hle; exact c0 hle.symm
    rw [if_neg hE]
    have c0' : ¬ nI (l.length - 1) ≤ 0 := by
      have := nI_ge (a := 0) (b := l.length - 1) (by omega) (by omega)
      rwa [nI_0] at this
    generalize hx : (if μ 250 (24 * τ + m) = nI k then zl_nx l k else μ 250 (24 * τ + m)) = x
    have o0 : ∀ n, zm_up M 250 (24 * τ + m) x 250 (24 * τ + n) = if n = m ∧ μ 250 (24 * τ + m) = nI k then zl_nx l k else μ 250 (24 * τ + n) := fun n => by
      rw [zm_up_pt]
      by_cases e : n = m
      · subst e
        rw [if_pos rfl, ← hx]
        by_cases e2 : μ 250 (24 * τ + n) = nI k
        · rw [if_pos e2, if_pos ⟨rfl, e2⟩]
        · rw [if_neg e2, if_neg (fun q => e2 q.2)]
      · rw [if_neg (by omega), if_neg (fun q => e q.1), vo _ _ (by decide) (by decide)]
    have oo : ∀ c d, c ≠ 250 → zm_up M 250 (24 * τ + m) x c d = M c d := fun c d h => zm_up_ne (by omega)
    have T2 : ∀ n l', zu_T M τ n l' → zu_T (zm_up M 250 (24 * τ + m) x) τ n l' := fun n l' ⟨a0, a1, a2⟩ => ⟨a0, by rw [oo _ _ (by decide)]; exact a1, fun j hj => by rw [oo _ _ (by decide)]; exact a2 j hj⟩
    have fmE : ∀ n, zu_fm (zm_up M 250 (24 * τ + m) x) τ n = zu_fm μ τ n := fun n => by
      unfold zu_fm
      rw [oo _ _ (by decide), vo _ _ (by decide) (by decide)]
    have hlerb : ∀ y ∈ l.erase k, y < 10 := fun y hy => hlb y (List.mem_of_mem_erase hy)
    refine ⟨zm_up M 250 (24 * τ + m) x, ab, ?_, ⟨Or.inr ⟨wt, ?_, ?_, hrt⟩, k5, k6, fun n hn hnu => ?_, fun n hn => ?_⟩, fun n _ hnm l' hl' => T2 n l' (TM n hnm l' hl'), fun _ => T2 m _ TMm, fun n hn => ⟨o0 n, ?_, fmE n⟩, frM.trans (fun c d h => zm_up_ne (fun q => h (Or.inr (Or.inl ⟨by rw [q.1]; rfl, by omega, by omega⟩))))⟩
    · refine ze_in [(0, .ref 232), (1, .int (nI τ)), (2, .int (nI k))] zq_Mod_leave (Nat.le_of_ble_eq_true rfl) rfl (S.end ?_)
      have m10 : (10 : Int32) * nI (24 * τ + m) = nI (10 * (24 * τ + m)) := nI_mul10 (by omega)
      have v0 : M 250 (24 * τ + m) = μ 250 (24 * τ + m) := vo _ _ (by decide) (by decide)
      have hsub2 : nI (l.length - 1) - 1 = nI (l.length - 1 - 1) := by
        have : ∀ n, n < 11 → 0 < n → nI n - 1 = nI (n - 1) := by decide
        exact this _ (by omega) (by omega)
      have hnx : zl_nx l k = nI ((l.erase k).getD (min (l.idxOf k) ((l.erase k).length - 1)) 0) := by
        unfold zl_nx
        rw [if_neg hE]
      by_cases c1 : l.idxOf k < l.length - 1
      · have c1' : ¬ nI (l.length - 1) ≤ nI (l.idxOf k) := nI_ge c1 (by omega)
        have ii : zi_in (nI (10 * (24 * τ + m) + l.idxOf k)) 1680 = true := zm_in (by omega) (by decide)
        have ci : (nI (10 * (24 * τ + m) + l.idxOf k)).toNatClampNeg = 10 * (24 * τ + m) + l.idxOf k := nI_clamp (by omega)
        have tv := v8 (l.idxOf k) c1
        have hmin : min (l.idxOf k) ((l.erase k).length - 1) = l.idxOf k := by omega
        rw [hmin] at hnx
        rw [← hnx] at tv
        by_cases c2 : μ 250 (24 * τ + m) = nI k
        · rw [if_pos c2] at hx
          rw [hx] at tv
          refine ⟨0, 34, fun F n hF => ?_⟩
          simp (maxDischargeDepth := 9) [zg_0, zg_aload_n, zg_bipush, zg_dup2, zg_getfield, zg_goto, zg_iadd, zg_iaload, zg_iastore, zg_iconst, zg_ifCond, zg_if_icmp, zg_iinc, zg_iload, zg_iload_n, zg_imul, zg_invokestatic, zg_invokevirtual, zg_istore, zg_istore_n, zg_isub, zg_return, zf_X6_leave, zi_ld, zi_lda, zi_cmp, zi_retOk, zi_isI, zi_f3, zi_cr, zi_ci, zi_cn, zi_get_ne, zi_nl_i, zi_nl_r, zi_get_set_eq, nl, g0, g1, g2, g3, g4, g5, zM_g, zm_iald (k := 0) zM_A249 ia, ca, v9, c0', c1', zm_iald (k := 0) zM_A250 ia, v0, c2, h10, m10, nI_add, zm_iald (k := 0) zM_A248 ii, ci, tv, zm_iast zM_A250 ia]
        · rw [if_neg c2] at hx
          rw [hx] at c2 v0
          refine ⟨0, 29, fun F n hF => ?_⟩
          simp (maxDischargeDepth := 9) [zg_0, zg_aload_n, zg_bipush, zg_dup2, zg_getfield, zg_goto, zg_iadd, zg_iaload, zg_iastore, zg_iconst, zg_ifCond, zg_if_icmp, zg_iinc, zg_iload, zg_iload_n, zg_imul, zg_invokestatic, zg_invokevirtual, zg_istore, zg_istore_n, zg_isub, zg_return, zf_X6_leave, zi_ld, zi_lda, zi_cmp, zi_retOk, zi_isI, zi_f3, zi_cr, zi_ci, zi_cn, zi_get_ne, zi_nl_i, zi_nl_r, zi_get_set_eq, nl, g0, g1, g2, g3, g4, g5, zM_g, zm_iald (k := 0) zM_A249 ia, ca, v9, c0', c1', zm_iald (k := 0) zM_A250 ia, v0, c2, zm_iast zM_A250 ia]
      · have c1' : nI (l.length - 1) ≤ nI (l.idxOf k) := nI_le (by omega) (by omega)
        have ii : zi_in (nI (10 * (24 * τ + m) + (l.length - 1 - 1))) 1680 = true := zm_in (by omega) (by decide)
        have ci : (nI (10 * (24 * τ + m) + (l.length - 1 - 1))).toNatClampNeg = 10 * (24 * τ + m) + (l.length - 1 - 1) := nI_clamp (by omega)
        have tv := v8 (l.length - 1 - 1) (by omega)
        have hmin : min (l.idxOf k) ((l.erase k).length - 1) = l.length - 1 - 1 := by omega
        rw [hmin] at hnx
        rw [← hnx] at tv
        by_cases c2 : μ 250 (24 * τ + m) = nI k
        · rw [if_pos c2] at hx
          rw [hx] at tv
          refine ⟨0, 38, fun F n hF => ?_⟩
          simp (maxDischargeDepth := 9) [zg_0, zg_aload_n, zg_bipush, zg_dup2, zg_getfield, zg_goto, zg_iadd, zg_iaload, zg_iastore, zg_iconst, zg_ifCond, zg_if_icmp, zg_iinc, zg_iload, zg_iload_n, zg_imul, zg_invokestatic, zg_invokevirtual, zg_istore, zg_istore_n, zg_isub, zg_return, zf_X6_leave, zi_ld, zi_lda, zi_cmp, zi_retOk, zi_isI, zi_f3, zi_cr, zi_ci, zi_cn, zi_get_ne, zi_nl_i, zi_nl_r, zi_get_set_eq, nl, g0, g1, g2, g3, g4, g5, zM_g, zm_iald (k := 0) zM_A249 ia, ca, v9, c0', c1', hsub2, zm_iald (k := 0) zM_A250 ia, v0, c2, h10, m10, nI_add, zm_iald (k := 0) zM_A248 ii, ci, tv, zm_iast zM_A250 ia]
        · rw [if_neg c2] at hx
          rw [hx] at c2 v0
          refine ⟨0, 33, fun F n hF => ?_⟩
          simp (maxDischargeDepth := 9) [zg_0, zg_aload_n, zg_bipush, zg_dup2, zg_getfield, zg_goto, zg_iadd, zg_iaload, zg_iastore, zg_iconst, zg_ifCond, zg_if_icmp, zg_iinc, zg_iload, zg_iload_n, zg_imul, zg_invokestatic, zg_invokevirtual, zg_istore, zg_istore_n, zg_isub, zg_return, zf_X6_leave, zi_ld, zi_lda, zi_cmp, zi_retOk, zi_isI, zi_f3, zi_cr, zi_ci, zi_cn, zi_get_ne, zi_nl_i, zi_nl_r, zi_get_set_eq, nl, g0, g1, g2, g3, g4, g5, zM_g, zm_iald (k := 0) zM_A249 ia, ca, v9, c0', c1', hsub2, zm_iald (k := 0) zM_A250 ia, v0, c2, zm_iast zM_A250 ia]
    · refine zy_ok_congr u wt k5 (fun y _ => fmE y) (fun y _ => ⟨?_, ?_⟩) (fun _ _ _ => rfl) ok
      · show zm_up M 250 (24 * τ + m) x 245 _ = _
        rw [oo _ _ (by decide), vo _ _ (by decide) (by decide)]
      · show zm_up M 250 (24 * τ + m) x 246 _ = _
        rw [oo _ _ (by decide), vo _ _ (by decide) (by decide)]
    · rw [oo _ _ (by decide), vo _ _ (by decide) (by decide)]; exact hr
    · rw [oo _ _ (by decide), vo _ _ (by decide) (by decide)]; exact k8 n hn hnu
    · by_cases e : n = m
      · subst e
        exact ⟨_, T2 _ _ TMm, hE, hlerb⟩
      · obtain ⟨l', h1, h2⟩ := k9 n hn
        exact ⟨l', T2 _ _ (TM n e l' h1), h2⟩
    · rw [oo _ _ (by decide), vo _ _ (by decide) (by decide)]
end ZUL
end
