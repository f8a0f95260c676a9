/-! the reference: cutLeaf -/
section ZUC
variable {μ θ : zm_M} {τ : Nat} {u : zy_F} {ab : Nat → Int32}
theorem zu_fm_of {n : Nat} {x : Int32} (h : θ 244 (24 * τ + n) = x) : zu_fm θ τ n = if x = 1 then 2 else if x = 2 then 0 else if x = 3 then 1 else 3 := by
  unfold zu_fm
  rw [h]
theorem zu_fm_a {n a : Nat} (ha : a < 2) (h : θ 244 (24 * τ + n) = nI (a + 2)) : zu_fm θ τ n = nI a := by
  rw [zu_fm_of h]
  match a, ha with
  | 0, _ => decide
  | 1, _ => decide
theorem zu_cut_pure (hI : zu_I μ τ u ab) {m k a c f i1 i2 : Nat} (hm : m ∈ zy_lvs u) (hk : k < 10) (ha : a < 2) (hc : c < 24) (hcf : c ∉ zy_ids u) (hf : f < 24) (hff : f ∉ zy_ids u) (hne : c ≠ f)
    (t4 : ∀ i, i < 24 → θ 244 (24 * τ + i) = if i = f then 1 else if i = c then nI (a + 2) else μ 244 (24 * τ + i)) (t5c : θ 245 (24 * τ + c) = nI i1) (t6c : θ 246 (24 * τ + c) = nI i2) (hi : (i1 = m ∧ i2 = f) ∨ (i1 = f ∧ i2 = m))
    (t5 : ∀ q ∈ zy_cts u, θ 245 (24 * τ + q) = if μ 245 (24 * τ + q) = nI m then nI c else μ 245 (24 * τ + q)) (t6 : ∀ q ∈ zy_cts u, θ 246 (24 * τ + q) = if μ 246 (24 * τ + q) = nI m then nI c else μ 246 (24 * τ + q))
    (t3 : θ 243 τ = if zy_id u = m then nI c else μ 243 τ) (tT : ∀ n ∈ zy_lvs u, ∀ l, zu_T μ τ n l → zu_T θ τ n l) (tf : zu_T θ τ f [k]) :
    zu_I θ τ (zy_sub m (.append (.tag c (.tag i1 .nil)) (.tag i2 .nil)) u) (fun i => if i = f ∨ i = m then nI c else if i = c then ab m else ab i) := by
  obtain ⟨wt, hmid⟩ := zu_I_lv hI hm
  obtain ⟨-, ok, hr, hrt⟩ := zu_I_wf hI hmid
  obtain ⟨-, k5, k6, k8, k9⟩ := hI
  have hm24 := k6 m hmid
  have hcm : c ≠ m := fun e => hcf (e ▸ hmid)
  have hfm : f ≠ m := fun e => hff (e ▸ hmid)
  have fm2 := zy_ok_lf u wt ok m hm
  let s : zy_F := .append (.tag c (.tag i1 .nil)) (.tag i2 .nil)
  have ws : zy_wf s := ⟨trivial, trivial⟩
  obtain ⟨p1, p2, p3⟩ := zy_sub_perm (n := m) (s := s) u wt k5 hm
  have is : List.Perm (zy_ids s) (m :: [c, f]) := by
    show List.Perm [c, i1, i2] [m, c, f]
    rcases hi with ⟨rfl, rfl⟩ | ⟨rfl, rfl⟩
    · exact List.Perm.swap _ _ _
    · exact (List.perm_append_comm (l₁ := [c, i1]) (l₂ := [i2]))
  have ls : List.Perm (zy_lvs s) (m :: [f]) := by
    show List.Perm [i1, i2] [m, f]
    rcases hi with ⟨rfl, rfl⟩ | ⟨rfl, rfl⟩
    · exact List.Perm.refl _
    · exact List.Perm.swap _ _ _
  have P1 : List.Perm (zy_ids (zy_sub m s u)) (c :: f :: zy_ids u) := (List.perm_cons m).mp (p1.trans (is.append_right _))
  have P2 : List.Perm (zy_lvs (zy_sub m s u)) (f :: zy_lvs u) := (List.perm_cons m).mp (p2.trans (ls.append_right _))
  have fmo : ∀ x, x < 24 → x ≠ f → x ≠ c → zu_fm θ τ x = zu_fm μ τ x := fun x hx h1 h2 => by
    unfold zu_fm
    rw [t4 x hx, if_neg h1, if_neg h2]
  have fmf : zu_fm θ τ f = 2 := by
    rw [zu_fm_of (t4 f hf), if_pos rfl]
    rfl
  have fmc : zu_fm θ τ c = nI a := zu_fm_a ha (by rw [t4 c hc, if_neg hne, if_pos rfl])
  have oks : zy_ok (zu_fm θ τ) (fun n => θ 245 (24 * τ + n)) (fun n => θ 246 (24 * τ + n)) (fun i => if i = f ∨ i = m then nI c else if i = c then ab m else ab i) s := by
    refine ⟨⟨?_, t5c, t6c, ?_, ?_⟩, ?_, ?_⟩
    · rw [fmc]
      match a, ha with
      | 0, _ => exact Or.inl nI_0
      | 1, _ => exact Or.inr (by decide)
    · show (if i1 = f ∨ i1 = m then nI c else _) = nI c
      rw [if_pos (by rcases hi with ⟨e, _⟩ | ⟨e, _⟩ <;> simp [e])]
    · show (if i2 = f ∨ i2 = m then nI c else _) = nI c
      rw [if_pos (by rcases hi with ⟨_, e⟩ | ⟨_, e⟩ <;> simp [e])]
    · show zu_fm θ τ i1 = 2
      rcases hi with ⟨rfl, _⟩ | ⟨rfl, _⟩
      · rw [fmo i1 hm24 (Ne.symm hfm) (Ne.symm hcm)]; exact fm2
      · exact fmf
    · show zu_fm θ τ i2 = 2
      rcases hi with ⟨_, rfl⟩ | ⟨_, rfl⟩
      · exact fmf
      · rw [fmo i2 hm24 (Ne.symm hfm) (Ne.symm hcm)]; exact fm2
  have ids31 : ∀ x ∈ zy_ids u, x < 2 ^ 31 := fun x hx => by have := k6 x hx; omega
  have okt : zu_ok θ τ (fun i => if i = f ∨ i = m then nI c else if i = c then ab m else ab i) (zy_sub m s u) := by
    refine zy_ok_sub (n := m) (s := s) fm2 (by omega) ?_ oks u wt ids31 (fun x hx hxn => ?_) (fun q hq => ⟨t5 q hq, t6 q hq⟩) (fun x hx hxn => ?_) ok
    · show (if c = f ∨ c = m then nI c else if c = c then ab m else ab c) = ab m
      rw [if_neg (by omega), if_pos rfl]
    · exact fmo x (k6 x hx) (zl_ne hff hx) (zl_ne hcf hx)
    · show (if x = f ∨ x = m then nI c else if x = c then ab m else ab x) = ab x
      rw [if_neg (fun e => e.elim (zl_ne hff hx) hxn), if_neg (zl_ne hcf hx)]
  have hid : zy_id (zy_sub m s u) = if zy_id u = m then c else zy_id u := zy_sub_id fm2 u wt ok
  have hidt := zy_id_mem wt
  refine ⟨Or.inr ⟨zy_sub_wf ws u wt, okt, ?_, ?_⟩, ?_, ?_, ?_, ?_⟩
  · rw [t3, hid]
    by_cases e : zy_id u = m
    · rw [if_pos e, if_pos e]
    · rw [if_neg e, if_neg e]; exact hr
  · rw [hid]
    by_cases e : zy_id u = m
    · rw [if_pos e]
      show (if c = f ∨ c = m then nI c else if c = c then ab m else ab c) = -1
      rw [if_neg (by omega), if_pos rfl, ← e]; exact hrt
    · rw [if_neg e]
      show (if zy_id u = f ∨ zy_id u = m then nI c else if zy_id u = c then ab m else ab (zy_id u)) = -1
      rw [if_neg (fun e2 => e2.elim (zl_ne hff hidt) e), if_neg (zl_ne hcf hidt)]; exact hrt
  · refine P1.nodup_iff.mpr (List.nodup_cons.mpr ⟨?_, List.nodup_cons.mpr ⟨hff, k5⟩⟩)
    intro h
    rcases List.mem_cons.mp h with h | h
    · exact hne h
    · exact hcf h
  · intro x hx
    rcases List.mem_cons.mp (P1.mem_iff.mp hx) with rfl | h
    · exact hc
    · rcases List.mem_cons.mp h with rfl | h
      · exact hf
      · exact k6 x h
  · intro x hx hxn
    have hxn' : x ∉ c :: f :: zy_ids u := fun h => hxn (P1.mem_iff.mpr h)
    have e1 : x ≠ c := fun e => hxn' (e ▸ List.mem_cons_self)
    have e2 : x ≠ f := fun e => hxn' (e ▸ List.mem_cons_of_mem _ List.mem_cons_self)
    have e3 : x ∉ zy_ids u := fun e => hxn' (List.mem_cons_of_mem _ (List.mem_cons_of_mem _ e))
    rw [t4 x hx, if_neg e2, if_neg e1]
    exact k8 x hx e3
  · intro n hn
    rcases List.mem_cons.mp (P2.mem_iff.mp hn) with rfl | hn
    · exact ⟨[k], tf, by simp, fun x hx => by rw [List.mem_singleton.mp hx]; exact hk⟩
    · obtain ⟨l, h1, h2⟩ := k9 n hn
      exact ⟨l, tT n hn l h1, h2⟩
/-- what cutLeaf leaves -/
def zu_isCut (μ : zm_M) (τ : Nat) (u : zy_F) (m k a : Nat) (nf : Bool) (ν : zm_M) (ab' : Nat → Int32) (c f : Nat) : Prop :=
  zu_I ν τ (zy_sub m (.append (.tag c (.tag (if nf then f else m) .nil)) (.tag (if nf then m else f) .nil)) u) ab' ∧ (c < 24 ∧ f < 24 ∧ c ∉ zy_ids u ∧ f ∉ zy_ids u ∧ c ≠ f) ∧ zu_T ν τ f [k] ∧ ν 250 (24 * τ + f) = nI k ∧ ν 247 (24 * τ + c) = 50 ∧ zu_fm ν τ c = nI a ∧
  (∀ n ∈ zy_lvs u, ∀ l, zu_T μ τ n l → zu_T ν τ n l) ∧ (∀ n ∈ zy_ids u, ν 250 (24 * τ + n) = μ 250 (24 * τ + n) ∧ ν 247 (24 * τ + n) = μ 247 (24 * τ + n) ∧ zu_fm ν τ n = zu_fm μ τ n) ∧ zu_fr τ μ ν
set_option maxRecDepth 100000 in
theorem ze_McutLeaf (D : Nat) (ht : τ < 7) (hI : zu_I μ τ u ab) {m k a : Nat} (hm : m ∈ zy_lvs u) (hk : k < 10) (ha : a < 2) (nf : Bool) (hlen : (zy_ids u).length + 2 ≤ 24) :
    ∃ ν ab' c f, ze_E (D + 4) A_Mod_cutLeaf [.ref 232, .int (nI τ), .int (nI m), .int (nI (a + 2)), .int (nI k), .int (if nf = true then 1 else 0)] (zm_mk μ) none (zm_mk ν) ∧ zu_isCut μ τ u m k a nf ν ab' c f := by
  obtain ⟨wt, hmid⟩ := zu_I_lv hI hm
  obtain ⟨-, ok, hr, hrt⟩ := zu_I_wf hI hmid
  obtain ⟨-, k5, k6, k8, k9⟩ := id hI
  have hm24 := k6 m hmid
  have h50 : (Int8.ofInt 50).toInt32 = (50 : Int32) := by decide
  obtain ⟨N1, E1⟩ := ze_Mabove (μ := μ) (D + 1) ht (nI m)
  rw [zu_ab_eq hI hmid] at E1
  obtain ⟨f0, hf0, hf0i⟩ := zl_free 24 (zy_ids u) (by omega)
  obtain ⟨f, ⟨hf, hft⟩, N2, E2⟩ := ze_MnewLeaf (μ := μ) D ht (nI k) ⟨f0, hf0, k8 f0 hf0 hf0i⟩
  have hff : f ∉ zy_ids u := fun e => by
    rcases zy_ids_or u wt f e with h | h
    · rcases zu_I_cut hI h with q | q <;> rw [q] at hft <;> exact absurd hft (by decide)
    · rw [zu_I_leaf hI h] at hft; exact absurd hft (by decide)
  generalize hM1 : zm_up (zm_up (zm_up (zm_up (zm_up μ 244 (24 * τ + f) 1) 249 (24 * τ + f) 0) 248 (10 * (24 * τ + f)) (nI k)) 249 (24 * τ + f) 1) 250 (24 * τ + f) (nI k) = M1 at E2
  have v4 : ∀ i, M1 244 (24 * τ + i) = if i = f then 1 else μ 244 (24 * τ + i) := fun i => by
    rw [← hM1, zm_up_ne (by omega), zm_up_ne (by omega), zm_up_ne (by omega), zm_up_ne (by omega), zm_up_pt]
    by_cases e : i = f
    · rw [if_pos (by omega), if_pos e]
    · rw [if_neg (by omega), if_neg e]
  obtain ⟨f1, hf1, hf1i⟩ := zl_free 24 (f :: zy_ids u) (by rw [List.length_cons]; omega)
  have hf1f : f1 ≠ f := fun e => hf1i (e ▸ List.mem_cons_self)
  have hf1u : f1 ∉ zy_ids u := fun e => hf1i (List.mem_cons_of_mem _ e)
  obtain ⟨c, ⟨hc, hct⟩, N3, E3⟩ := ze_MnewNode' (μ := M1) (D + 1) ht (nI (a + 2)) ⟨f1, hf1, by rw [v4, if_neg hf1f]; exact k8 f1 hf1 hf1u⟩
  have hne : c ≠ f := fun e => by rw [v4, if_pos e] at hct; exact absurd hct (by decide)
  rw [v4, if_neg hne] at hct
  have hcf : c ∉ zy_ids u := fun e => by
    rcases zy_ids_or u wt c e with h | h
    · rcases zu_I_cut hI h with q | q <;> rw [q] at hct <;> exact absurd hct (by decide)
    · rw [zu_I_leaf hI h] at hct; exact absurd hct (by decide)
  have hcm : c ≠ m := fun e => hcf (e ▸ hmid)
  have hfm : f ≠ m := fun e => hff (e ▸ hmid)
  have sp := fun ν : zm_M => ze_spot (h := zm_mk ν) (n := c) (D + 2) ht
  have ia : zi_in (nI (24 * τ + c)) 168 = true := zm_in (by omega) (by decide)
  have ca : (nI (24 * τ + c)).toNatClampNeg = 24 * τ + c := nI_clamp (by omega)
  generalize hM2 : zm_up (zm_up M1 244 (24 * τ + c) (nI (a + 2))) 249 (24 * τ + c) 0 = M2 at E3
  let i1 := if nf = true then f else m
  let i2 := if nf = true then m else f
  generalize hM3 : zm_up (zm_up (zm_up M2 245 (24 * τ + c) (nI i1)) 246 (24 * τ + c) (nI i2)) 247 (24 * τ + c) 50 = M3
  have w2 : ∀ x y, (x = 245 ∨ x = 246 ∨ x = 243 ∨ x = 247) → M2 x y = μ x y := fun x y hx => by
    rw [← hM2, zm_up_ne (by omega), zm_up_ne (by omega), ← hM1, zm_up_ne (by omega), zm_up_ne (by omega), zm_up_ne (by omega), zm_up_ne (by omega), zm_up_ne (by omega)]
  have w3 : ∀ x y, y ≠ 24 * τ + c → (x = 245 ∨ x = 246 ∨ x = 243 ∨ x = 247) → M3 x y = μ x y := fun x y hy hx => by
    rw [← hM3, zm_up_ne (by omega), zm_up_ne (by omega), zm_up_ne (by omega)]
    exact w2 x y hx
  have w30 : M3 243 τ = μ 243 τ := by
    rw [← hM3, zm_up_ne (by omega), zm_up_ne (by omega), zm_up_ne (by omega)]
    exact w2 _ _ (by simp)
  have hcc : ∀ q ∈ zy_cts u, q ≠ c := fun q hq e => hcf (e ▸ zy_cts_ids u wt q hq)
  obtain ⟨s5, s6, s3, sf⟩ := zu_st_ok hI hmid (M := M3) (fun q hq => w3 _ _ (by have := hcc q hq; omega) (by simp)) (fun q hq => w3 _ _ (by have := hcc q hq; omega) (by simp)) w30 (nI c)
  obtain ⟨N4, E4⟩ := ze_Mstand (μ := M3) (D + 1) ht (zu_ab_or hI hmid) (nI m) (nI c)
  generalize hM4 : zu_st M3 τ (ab m) (nI m) (nI c) = ν at s5 s6 s3 sf E4
  -- what the last memory has
  have a5 : ν 245 (24 * τ + c) = nI i1 := by
    rw [sf _ _ (by omega) (by rintro ⟨-, q, hq, e⟩; have := hcc q hq; omega), ← hM3, zm_up_ne (by omega), zm_up_ne (by omega), zm_up_eq]
  have a6 : ν 246 (24 * τ + c) = nI i2 := by
    rw [sf _ _ (by omega) (by rintro ⟨-, q, hq, e⟩; have := hcc q hq; omega), ← hM3, zm_up_ne (by omega), zm_up_eq]
  have a7 : ∀ i, ν 247 (24 * τ + i) = if i = c then 50 else μ 247 (24 * τ + i) := fun i => by
    rw [sf _ _ (by omega) (by omega), ← hM3, zm_up_pt]
    by_cases e : i = c
    · rw [if_pos (by omega), if_pos e]
    · rw [if_neg (by omega), if_neg e, zm_up_ne (by omega), zm_up_ne (by omega)]
      exact w2 _ _ (by simp)
  have o3 : ∀ x y, x ≠ 243 → x ≠ 245 → x ≠ 246 → x ≠ 247 → ν x y = M2 x y := fun x y h3 h5 h6 h7 => by
    rw [sf _ _ (by omega) (by omega), ← hM3, zm_up_ne (by omega), zm_up_ne (by omega), zm_up_ne (by omega)]
  have a4 : ∀ i, ν 244 (24 * τ + i) = if i = f then 1 else if i = c then nI (a + 2) else μ 244 (24 * τ + i) := fun i => by
    rw [o3 _ _ (by omega) (by omega) (by omega) (by omega), ← hM2, zm_up_ne (by omega), zm_up_pt]
    by_cases e : i = c
    · rw [if_pos (by omega), if_neg (by omega), if_pos e]
    · rw [if_neg (by omega), v4, if_neg e]
  have a0 : ∀ i, ν 250 (24 * τ + i) = if i = f then nI k else μ 250 (24 * τ + i) := fun i => by
    rw [o3 _ _ (by omega) (by omega) (by omega) (by omega), ← hM2, zm_up_ne (by omega), zm_up_ne (by omega), ← hM1, zm_up_pt]
    by_cases e : i = f
    · rw [if_pos (by omega), if_pos e]
    · rw [if_neg (by omega), if_neg e, zm_up_ne (by omega), zm_up_ne (by omega), zm_up_ne (by omega), zm_up_ne (by omega)]
  have a9 : ∀ i, i ≠ f → i ≠ c → ν 249 (24 * τ + i) = μ 249 (24 * τ + i) := fun i h1 h2 => by
    rw [o3 _ _ (by omega) (by omega) (by omega) (by omega), ← hM2, zm_up_ne (by omega), zm_up_ne (by omega), ← hM1, zm_up_ne (by omega), zm_up_ne (by omega), zm_up_ne (by omega), zm_up_ne (by omega), zm_up_ne (by omega)]
  have a9f : ν 249 (24 * τ + f) = 1 := by
    rw [o3 _ _ (by omega) (by omega) (by omega) (by omega), ← hM2, zm_up_ne (by omega), zm_up_ne (by omega), ← hM1, zm_up_ne (by omega), zm_up_eq]
  have a8 : ∀ y, ν 248 y = if y = 10 * (24 * τ + f) then nI k else μ 248 y := fun y => by
    rw [o3 _ _ (by omega) (by omega) (by omega) (by omega), ← hM2, zm_up_ne (by omega), zm_up_ne (by omega), ← hM1, zm_up_ne (by omega), zm_up_ne (by omega), zm_up_pt, zm_up_ne (by omega), zm_up_ne (by omega)]
  have aT : ∀ n ∈ zy_lvs u, ∀ l, zu_T μ τ n l → zu_T ν τ n l := fun n hn l ⟨t0, t1, t2⟩ => by
    have hni := zy_lvs_ids u wt n hn
    have h1 : n ≠ f := fun e => hff (e ▸ hni)
    have h2 : n ≠ c := fun e => hcf (e ▸ hni)
    refine ⟨t0, by rw [a9 n h1 h2]; exact t1, fun j hj => ?_⟩
    rw [a8, if_neg (by omega)]
    exact t2 j hj
  have aTf : zu_T ν τ f [k] := by
    refine ⟨by simp, by rw [a9f]; rfl, fun j hj => ?_⟩
    have : j = 0 := by simpa using hj
    subst this
    rw [a8, if_pos (by omega)]
    rfl
  have hi : (i1 = m ∧ i2 = f) ∨ (i1 = f ∧ i2 = m) := by
    cases nf
    · exact Or.inl ⟨rfl, rfl⟩
    · exact Or.inr ⟨rfl, rfl⟩
  have hP := zu_cut_pure hI hm hk ha hc hcf hf hff hne (fun i _ => a4 i) a5 a6 hi s5 s6 s3 aT aTf
  have fr : zu_fr τ μ ν := fun x y hxy => by
    have n3 : ¬ (x = 243 ∧ y = τ) := fun e => hxy (Or.inl e)
    have n6 : ∀ z, z < 24 → ¬ (zu_c6 x = true ∧ y = 24 * τ + z) := fun z hz e => hxy (Or.inr (Or.inl ⟨e.1, by omega, by omega⟩))
    have n8 : ¬ (x = 248 ∧ y = 10 * (24 * τ + f)) := fun e => hxy (Or.inr (Or.inr ⟨e.1, by omega, by omega⟩))
    have key : ∀ z x', z < 24 → zu_c6 x' = true → ¬ (x = x' ∧ y = 24 * τ + z) := fun z x' hz hx' e => n6 z hz ⟨by rw [e.1]; exact hx', e.2⟩
    rw [sf x y n3 (by
      rintro ⟨e | e, q, hq, e2⟩
      · exact key q 245 (k6 q (zy_cts_ids u wt q hq)) rfl ⟨e, e2⟩
      · exact key q 246 (k6 q (zy_cts_ids u wt q hq)) rfl ⟨e, e2⟩), ← hM3, zm_up_ne (key c 247 hc rfl), zm_up_ne (key c 246 hc rfl), zm_up_ne (key c 245 hc rfl), ← hM2, zm_up_ne (key c 249 hc rfl), zm_up_ne (key c 244 hc rfl), ← hM1, zm_up_ne (key f 250 hf rfl), zm_up_ne (key f 249 hf rfl), zm_up_ne n8, zm_up_ne (key f 249 hf rfl), zm_up_ne (key f 244 hf rfl)]
  refine ⟨ν, _, c, f, ?_, hP, ⟨hc, hf, hcf, hff, hne⟩, aTf, by rw [a0, if_pos rfl], by rw [a7, if_pos rfl], zu_fm_a ha (by rw [a4, if_neg hne, if_pos rfl]), aT, fun n hn => ⟨by rw [a0, if_neg (zl_ne hff hn)], by rw [a7, if_neg (zl_ne hcf hn)], ?_⟩, fr⟩
  · obtain ⟨N5, E5⟩ := sp M2
    obtain ⟨N6, E6⟩ := sp (zm_up M2 245 (24 * τ + c) (nI i1))
    obtain ⟨N7, E7⟩ := sp (zm_up (zm_up M2 245 (24 * τ + c) (nI i1)) 246 (24 * τ + c) (nI i2))
    obtain ⟨l0, c0⟩ := zM_c (μ := μ)
    obtain ⟨l1, c1⟩ := zM_c (μ := M1)
    obtain ⟨l3, c3⟩ := zM_c (μ := M3)
    refine ze_in [(0, .ref 232), (1, .int (nI τ)), (2, .int (nI m)), (3, .int (nI (a + 2))), (4, .int (nI k)), (5, .int (if nf = true then 1 else 0))] zq_Mod_cutLeaf (Nat.le_of_ble_eq_true rfl) rfl ?_
    cases nf
    · have ei1 : i1 = m := rfl
      have ei2 : i2 = f := rfl
      rw [ei1] at E6 E7 hM3
      rw [ei2] at E7 hM3
      refine ⟨N1 + N2 + N3 + N4 + N5 + N6 + N7, 47, fun F n hF => ?_⟩
      simp [zg_0, zg_aload_n, zg_bipush, zg_getfield, zg_goto, zg_iastore, zg_ifCond, zg_iload, zg_iload_n, zg_invokestatic, zg_invokevirtual, zg_istore, zg_return, zf_X6_cutLeaf, zi_ld, zi_lda, zi_cmp, zi_retOk, zi_isI, zi_f3, zi_cr, zi_ci, zi_cn, zi_get, zi_set, zM_g, zq_Mod_above, zq_Mod_newLeaf, zq_Mod_newNode, zq_Mod_spot, zq_Mod_stand, c0, c1, c3, E1 F (by omega), E2 F (by omega), E3 F (by omega), E4 F (by omega), E5 F (by omega), E6 F (by omega), E7 F (by omega), zm_iast zM_A245 ia, zm_iast zM_A246 ia, zm_iast zM_A247 ia, ca, h50, hM3]
    · have ei1 : i1 = f := rfl
      have ei2 : i2 = m := rfl
      rw [ei1] at E6 E7 hM3
      rw [ei2] at E7 hM3
      refine ⟨N1 + N2 + N3 + N4 + N5 + N6 + N7, 49, fun F n hF => ?_⟩
      simp [zg_0, zg_aload_n, zg_bipush, zg_getfield, zg_goto, zg_iastore, zg_ifCond, zg_iload, zg_iload_n, zg_invokestatic, zg_invokevirtual, zg_istore, zg_return, zf_X6_cutLeaf, zi_ld, zi_lda, zi_cmp, zi_retOk, zi_isI, zi_f3, zi_cr, zi_ci, zi_cn, zi_get, zi_set, zM_g, zq_Mod_above, zq_Mod_newLeaf, zq_Mod_newNode, zq_Mod_spot, zq_Mod_stand, c0, c1, c3, E1 F (by omega), E2 F (by omega), E3 F (by omega), E4 F (by omega), E5 F (by omega), E6 F (by omega), E7 F (by omega), zm_iast zM_A245 ia, zm_iast zM_A246 ia, zm_iast zM_A247 ia, ca, h50, hM3]
  · unfold zu_fm
    rw [a4 n, if_neg (zl_ne hff hn), if_neg (zl_ne hcf hn)]
end ZUC
