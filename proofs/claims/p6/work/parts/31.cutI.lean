/-! what holds of a Tree stays when a leaf is cut -/
theorem zl_ne {x y : Nat} {l : List Nat} (h : x ∉ l) (hy : y ∈ l) : ¬ y = x := fun e => h (e ▸ hy)
section ZC1
variable {T : Nat} {μ θ : zm_M} {t : zy_F} {R : List Nat}
theorem zt_I_wf (hI : zt_I μ T R t) {n : Nat} (hn : n ∈ zy_ids t) : zy_wf t ∧ zy_okM μ T t ∧ μ T 9 = nI (zy_id t) := by
  rcases hI.2.1.1 with ⟨rfl, _⟩ | h
  · cases hn
  · exact h
theorem zt_I_lv (hI : zt_I μ T R t) {n : Nat} (hn : n ∈ zy_lvs t) : zy_wf t ∧ n ∈ zy_ids t := by
  rcases hI.2.1.1 with ⟨rfl, _⟩ | h
  · cases hn
  · exact ⟨h.1, zy_lvs_ids t h.1 n hn⟩
theorem zt_I_used (hI : zt_I μ T R t) : ∀ n ∈ zy_ids t, ¬ μ (T + 7) n = 3 := by
  intro n hn
  obtain ⟨hw, ok, -⟩ := zt_I_wf hI hn
  rcases zy_ids_or t hw n hn with h | h
  · rcases (zy_ok_ct t hw ok n h).1 with e | e <;> rw [e] <;> decide
  · rw [zy_ok_lf t hw ok n h]; decide
theorem zt_I_len (hI : zt_I μ T R t) : (zy_lvs t).length ≤ R.length := by
  have h0 := hI.2.1
  rcases h0.1 with ⟨rfl, _⟩ | h
  · exact Nat.zero_le _
  · have := zl_sub_le (zy_lvs t) (R.map (fun w => (μ (T + 3) w).toNatClampNeg)) (zy_lvs_nodup t h.1 h0.2.1) (fun n hn => by
      obtain ⟨w, hw, e, -⟩ := hI.2.2.2.2.2 n hn
      refine List.mem_map.mpr ⟨w, hw, ?_⟩
      have := h0.2.2.1 n (zy_lvs_ids t h.1 n hn)
      show (μ (T + 3) w).toNatClampNeg = n
      rw [e, nI_clamp (by omega)])
    rw [List.length_map] at this
    exact this
theorem zt_I_idl (hI : zt_I μ T R t) : (zy_ids t).length ≤ 2 * R.length := by
  have h0 := zt_I_len hI
  rcases hI.2.1.1 with ⟨rfl, _⟩ | h
  · exact Nat.zero_le _
  · have := zy_len t h.1
    omega
theorem zt_R_len (hI : zt_I μ T R t) {w : Nat} (hw : w < 10) (hwR : w ∉ R) : R.length < 10 := by
  have := zy_nodup_le 10 (w :: R) (List.nodup_cons.mpr ⟨hwR, hI.1.2.1⟩) (fun x hx => by
    rcases List.mem_cons.mp hx with rfl | hx
    · exact hw
    · exact hI.1.2.2 x hx)
  rw [List.length_cons] at this
  omega
theorem zt_I_cut (hI : zt_I μ T R t) {n w a c f i1 i2 : Nat} (hn : n ∈ zy_lvs t) (hw : w < 10) (hwR : w ∉ R) (ha : a < 2) (hc : c < 19) (hcf : c ∉ zy_ids t) (hf : f < 19) (hff : f ∉ zy_ids t) (hne : c ≠ f)
    (hrow : zr_L θ (T + 1) (R ++ [w])) (t3 : ∀ v, θ (T + 3) v = if v = w then nI f else μ (T + 3) v) (t7 : ∀ i, θ (T + 7) i = if i = f then 2 else if i = c then nI a else μ (T + 7) i)
    (t12 : ∀ i, θ (T + 12) i = if i = f then nI w else μ (T + 12) i) (t11 : ∀ i, θ (T + 11) i = if i = f ∨ i = n then nI c else if i = c then μ (T + 11) n else μ (T + 11) i)
    (t9c : θ (T + 9) c = nI i1) (t10c : θ (T + 10) c = nI i2) (hi : (i1 = n ∧ i2 = f) ∨ (i1 = f ∧ i2 = n))
    (t9 : ∀ q ∈ zy_cts t, θ (T + 9) q = if μ (T + 9) q = nI n then nI c else μ (T + 9) q) (t10 : ∀ q ∈ zy_cts t, θ (T + 10) q = if μ (T + 10) q = nI n then nI c else μ (T + 10) q)
    (t0 : θ T 9 = if zy_id t = n then nI c else μ T 9) : zt_I θ T (R ++ [w]) (zy_sub n (.append (.tag c (.tag i1 .nil)) (.tag i2 .nil)) t) ∧ List.Perm (zy_lvs (zy_sub n (.append (.tag c (.tag i1 .nil)) (.tag i2 .nil)) t)) (f :: zy_lvs t) ∧ List.Perm (zy_cts (zy_sub n (.append (.tag c (.tag i1 .nil)) (.tag i2 .nil)) t)) (c :: zy_cts t) := by
  have hnid := (zt_I_lv hI hn).2
  obtain ⟨wt, ok, hr⟩ := zt_I_wf hI hnid
  obtain ⟨⟨k1, k2, k3⟩, ⟨-, k5, k6, k7⟩, k8, k9, k10, k11⟩ := hI
  have hn19 := k6 n hnid
  have hcn : c ≠ n := fun e => hcf (e ▸ hnid)
  have hfn : f ≠ n := fun e => hff (e ▸ hnid)
  have fm2 := zy_ok_lf t wt ok n hn
  let s : zy_F := .append (.tag c (.tag i1 .nil)) (.tag i2 .nil)
  have ws : zy_wf s := ⟨trivial, trivial⟩
  obtain ⟨p1, p2, p3⟩ := zy_sub_perm (n := n) (s := s) t wt k5 hn
  have is : List.Perm (zy_ids s) (n :: [c, f]) := by
    show List.Perm [c, i1, i2] [n, c, f]
    rcases hi with ⟨rfl, rfl⟩ | ⟨rfl, rfl⟩
    · exact List.Perm.swap _ _ _
    · exact (List.perm_append_comm (l₁ := [c, i1]) (l₂ := [i2]))
  have ls : List.Perm (zy_lvs s) (n :: [f]) := by
    show List.Perm [i1, i2] [n, f]
    rcases hi with ⟨rfl, rfl⟩ | ⟨rfl, rfl⟩
    · exact List.Perm.refl _
    · exact List.Perm.swap _ _ _
  have P1 : List.Perm (zy_ids (zy_sub n s t)) (c :: f :: zy_ids t) := (List.perm_cons n).mp (p1.trans (is.append_right _))
  have P2 : List.Perm (zy_lvs (zy_sub n s t)) (f :: zy_lvs t) := (List.perm_cons n).mp (p2.trans (ls.append_right _))
  have P3 : List.Perm (zy_cts (zy_sub n s t)) (c :: zy_cts t) := p3
  have oks : zy_ok (θ (T + 7)) (θ (T + 9)) (θ (T + 10)) (θ (T + 11)) s := by
    refine ⟨⟨?_, t9c, t10c, ?_, ?_⟩, ?_, ?_⟩
    · rw [t7 c, if_neg hne, if_pos rfl]
      match a, ha with
      | 0, _ => exact Or.inl nI_0
      | 1, _ => exact Or.inr (by decide)
    · show θ (T + 11) i1 = nI c
      rw [t11, if_pos (by rcases hi with ⟨e, _⟩ | ⟨e, _⟩ <;> simp [e])]
    · show θ (T + 11) i2 = nI c
      rw [t11, if_pos (by rcases hi with ⟨_, e⟩ | ⟨_, e⟩ <;> simp [e])]
    · show θ (T + 7) i1 = 2
      rw [t7]
      rcases hi with ⟨rfl, _⟩ | ⟨rfl, _⟩
      · rw [if_neg (Ne.symm hfn), if_neg (Ne.symm hcn)]; exact fm2
      · rw [if_pos rfl]
    · show θ (T + 7) i2 = 2
      rw [t7]
      rcases hi with ⟨_, rfl⟩ | ⟨_, rfl⟩
      · rw [if_pos rfl]
      · rw [if_neg (Ne.symm hfn), if_neg (Ne.symm hcn)]; exact fm2
  have ids31 : ∀ x ∈ zy_ids t, x < 2 ^ 31 := fun x hx => by have := k6 x hx; omega
  have okt : zy_okM θ T (zy_sub n s t) := by
    refine zy_ok_sub (fm := μ (T + 7)) (fs := μ (T + 9)) (sd := μ (T + 10)) (ab := μ (T + 11)) (n := n) (s := s) fm2 (by omega) ?_ oks t wt ids31 (fun x hx hxn => ?_) (fun q hq => ⟨t9 q hq, t10 q hq⟩) (fun x hx hxn => ?_) ok
    · show θ (T + 11) c = _
      rw [t11, if_neg (by omega), if_pos rfl]
    · rw [t7, if_neg (zl_ne hff hx), if_neg (zl_ne hcf hx)]
    · rw [t11, if_neg (fun e => e.elim (zl_ne hff hx) hxn), if_neg (zl_ne hcf hx)]
  have hid : zy_id (zy_sub n s t) = if zy_id t = n then c else zy_id t := zy_sub_id fm2 t wt ok
  have hidt := zy_id_mem wt
  refine ⟨⟨⟨hrow, ?_, ?_⟩, ⟨Or.inr ⟨zy_sub_wf ws t wt, okt, ?_⟩, ?_, ?_, Or.inr ?_⟩, ?_, ?_, ?_, ?_⟩, P2, P3⟩
  · refine List.nodup_append.mpr ⟨k2, List.nodup_cons.mpr ⟨List.not_mem_nil, List.nodup_nil⟩, fun x hx y hy e => ?_⟩
    have : y = w := by simpa using hy
    exact hwR (this ▸ e ▸ hx)
  · intro x hx
    rcases List.mem_append.mp hx with hx | hx
    · exact k3 x hx
    · have : x = w := by simpa using hx
      omega
  · rw [t0, hid]
    by_cases e : zy_id t = n
    · rw [if_pos e, if_pos e]
    · rw [if_neg e, if_neg e]; exact hr
  · refine P1.nodup_iff.mpr (List.nodup_cons.mpr ⟨?_, List.nodup_cons.mpr ⟨hff, k5⟩⟩)
    intro h
    rcases List.mem_cons.mp h with h | h
    · exact hne h
    · exact hcf h
  · intro x hx
    rcases List.mem_cons.mp (P1.mem_iff.mp hx) with rfl | h
    · exact hc
    · rcases List.mem_cons.mp h with rfl | h
      · exact hf
      · exact k6 x h
  · rw [hid]
    have hrt : μ (T + 11) (zy_id t) = -1 := k7.resolve_left (fun e => by rw [e] at hidt; cases hidt)
    by_cases e : zy_id t = n
    · rw [if_pos e, t11, if_neg (by omega), if_pos rfl, ← e]; exact hrt
    · rw [if_neg e, t11, if_neg (fun e2 => e2.elim (zl_ne hff hidt) e), if_neg (zl_ne hcf hidt)]; exact hrt
  · intro x hx hxn
    have hxn' : x ∉ c :: f :: zy_ids t := fun h => hxn (P1.mem_iff.mpr h)
    have e1 : x ≠ c := fun e => hxn' (e ▸ List.mem_cons_self)
    have e2 : x ≠ f := fun e => hxn' (e ▸ List.mem_cons_of_mem _ List.mem_cons_self)
    have e3 : x ∉ zy_ids t := fun e => hxn' (List.mem_cons_of_mem _ (List.mem_cons_of_mem _ e))
    rw [t7, if_neg e2, if_neg e1]
    exact k8 x hx e3
  · intro v hv
    rcases List.mem_append.mp hv with hv | hv
    · obtain ⟨m, hm, e⟩ := k9 v hv
      refine ⟨m, P2.mem_iff.mpr (List.mem_cons_of_mem _ hm), ?_⟩
      rw [t3, if_neg (zl_ne hwR hv)]; exact e
    · have : v = w := by simpa using hv
      subst this
      exact ⟨f, P2.mem_iff.mpr List.mem_cons_self, by rw [t3, if_pos rfl]⟩
  · intro v hv hvR
    rw [t3, if_neg (fun (e : v = w) => hvR (e ▸ List.mem_append_right _ List.mem_cons_self))]
    exact k10 v hv (fun e => hvR (List.mem_append_left _ e))
  · intro m hm
    rcases List.mem_cons.mp (P2.mem_iff.mp hm) with rfl | hm
    · exact ⟨w, List.mem_append_right _ List.mem_cons_self, by rw [t3, if_pos rfl], by rw [t12, if_pos rfl]⟩
    · obtain ⟨v, hv, e1, e2⟩ := k11 m hm
      refine ⟨v, List.mem_append_left _ hv, ?_, ?_⟩
      · rw [t3, if_neg (zl_ne hwR hv)]; exact e1
      · rw [t12, if_neg (zl_ne hff (zy_lvs_ids t wt m hm))]; exact e2
end ZC1
