/-! the reference's trees: what holds of them -/
def zu_fm (μ : zm_M) (τ n : Nat) : Int32 := if μ 244 (24 * τ + n) = 1 then 2 else if μ 244 (24 * τ + n) = 2 then 0 else if μ 244 (24 * τ + n) = 3 then 1 else 3
def zu_ok (μ : zm_M) (τ : Nat) (ab : Nat → Int32) (u : zy_F) : Prop := zy_ok (zu_fm μ τ) (fun n => μ 245 (24 * τ + n)) (fun n => μ 246 (24 * τ + n)) ab u
def zu_I (μ : zm_M) (τ : Nat) (u : zy_F) (ab : Nat → Int32) : Prop :=
  ((u = .nil ∧ μ 243 τ = -1) ∨ (zy_wf u ∧ zu_ok μ τ ab u ∧ μ 243 τ = nI (zy_id u) ∧ ab (zy_id u) = -1)) ∧ (zy_ids u).Nodup ∧ (∀ n ∈ zy_ids u, n < 24) ∧ (∀ n, n < 24 → n ∉ zy_ids u → μ 244 (24 * τ + n) = 0) ∧ ∀ n ∈ zy_lvs u, ∃ l, zu_T μ τ n l ∧ l ≠ [] ∧ ∀ x ∈ l, x < 10
section ZUR
variable {μ ν : zm_M} {τ : Nat} {u : zy_F} {ab : Nat → Int32}
theorem zu_I_wf (h : zu_I μ τ u ab) {n : Nat} (hn : n ∈ zy_ids u) : zy_wf u ∧ zu_ok μ τ ab u ∧ μ 243 τ = nI (zy_id u) ∧ ab (zy_id u) = -1 := by
  rcases h.1 with ⟨rfl, -⟩ | h
  · cases hn
  · exact h
theorem zu_I_lv (h : zu_I μ τ u ab) {n : Nat} (hn : n ∈ zy_lvs u) : zy_wf u ∧ n ∈ zy_ids u := by
  rcases h.1 with ⟨rfl, -⟩ | ⟨w, -⟩
  · cases hn
  · exact ⟨w, zy_lvs_ids u w n hn⟩
theorem zu_fm_leaf {n : Nat} (h : zu_fm μ τ n = 2) : μ 244 (24 * τ + n) = 1 := by
  unfold zu_fm at h
  split at h
  · assumption
  · split at h
    · exact absurd h (by decide)
    · split at h <;> exact absurd h (by decide)
theorem zu_fm_cut {n : Nat} (h : zu_fm μ τ n = 0 ∨ zu_fm μ τ n = 1) : (zu_fm μ τ n = 0 ∧ μ 244 (24 * τ + n) = 2) ∨ (zu_fm μ τ n = 1 ∧ μ 244 (24 * τ + n) = 3) := by
  unfold zu_fm at *
  by_cases c1 : μ 244 (24 * τ + n) = 1
  · rw [if_pos c1] at h
    rcases h with h | h <;> exact absurd h (by decide)
  · rw [if_neg c1] at h ⊢
    by_cases c2 : μ 244 (24 * τ + n) = 2
    · rw [if_pos c2]
      exact Or.inl ⟨rfl, c2⟩
    · rw [if_neg c2] at h ⊢
      by_cases c3 : μ 244 (24 * τ + n) = 3
      · rw [if_pos c3]
        exact Or.inr ⟨rfl, c3⟩
      · rw [if_neg c3] at h
        rcases h with h | h <;> exact absurd h (by decide)
theorem zu_I_leaf (h : zu_I μ τ u ab) {n : Nat} (hn : n ∈ zy_lvs u) : μ 244 (24 * τ + n) = 1 := by
  obtain ⟨w, hi⟩ := zu_I_lv h hn
  exact zu_fm_leaf (zy_ok_lf u w (zu_I_wf h hi).2.1 n hn)
theorem zu_I_cut (h : zu_I μ τ u ab) {n : Nat} (hn : n ∈ zy_cts u) : μ 244 (24 * τ + n) = 2 ∨ μ 244 (24 * τ + n) = 3 := by
  have w : zy_wf u := by
    rcases h.1 with ⟨rfl, -⟩ | ⟨w, -⟩
    · cases hn
    · exact w
  exact (zu_fm_cut (zy_ok_ct u w (zu_I_wf h (zy_cts_ids u w n hn)).2.1 n hn).1).imp (·.2) (·.2)
/-- a node of the type of a leaf is one, of a greater type a cut -/
theorem zu_I_of1 (h : zu_I μ τ u ab) {n : Nat} (hn : n < 24) (e : μ 244 (24 * τ + n) = 1) : n ∈ zy_lvs u := by
  by_cases c : n ∈ zy_ids u
  · rcases zy_ids_or u (zu_I_wf h c).1 n c with h2 | h2
    · rcases zu_I_cut h h2 with e2 | e2 <;> rw [e2] at e <;> exact absurd e (by decide)
    · exact h2
  · rw [h.2.2.2.1 n hn c] at e
    exact absurd e (by decide)
theorem zu_I_of2 (h : zu_I μ τ u ab) {n : Nat} (hn : n < 24) (e : 1 < μ 244 (24 * τ + n)) : n ∈ zy_cts u := by
  by_cases c : n ∈ zy_ids u
  · rcases zy_ids_or u (zu_I_wf h c).1 n c with h2 | h2
    · exact h2
    · rw [zu_I_leaf h h2] at e
      exact absurd e (by decide)
  · rw [h.2.2.2.1 n hn c] at e
    exact absurd e (by decide)
theorem zu_ab_eq (h : zu_I μ τ u ab) {m : Nat} (hm : m ∈ zy_ids u) : zu_ab μ τ (nI m) = ab m := by
  obtain ⟨w, ok, hr, ha⟩ := zu_I_wf h hm
  obtain ⟨-, hd, hlt, hf, -⟩ := id h
  have hm24 := hlt m hm
  unfold zu_ab
  rcases zl_fi_spec (fun n => decide (1 < μ 244 (24 * τ + n) ∧ (μ 245 (24 * τ + n) = nI m ∨ μ 246 (24 * τ + n) = nI m))) (-1) 24 0 with ⟨k, -, hk, hp, -, e⟩ | ⟨hp, e⟩
  · rw [e]
    have hp := of_decide_eq_true hp
    obtain ⟨i, j, hi, hj, -, e1, e2, a1, a2⟩ := zy_ok_kids u w hd ok k (zu_I_of2 h (by omega) hp.1)
    have hi24 := hlt i hi
    have hj24 := hlt j hj
    rcases hp.2 with q | q
    · have : i = m := (nI_eq (by omega) (by omega)).mp (e1.symm.trans q)
      rw [← this]; exact a1.symm
    · have : j = m := (nI_eq (by omega) (by omega)).mp (e2.symm.trans q)
      rw [← this]; exact a2.symm
  · rw [e]
    by_cases c : m = zy_id u
    · rw [c]; exact ha.symm
    · exfalso
      obtain ⟨q, hq, -, ho⟩ := zy_ok_par u w ok m hm c
      have := hp q (Nat.zero_le _) (by rw [Nat.zero_add]; exact hlt q (zy_cts_ids u w q hq))
      refine of_decide_eq_false this ⟨?_, ho⟩
      rcases zu_I_cut h hq with e2 | e2 <;> rw [e2] <;> decide
/-- what is above a node, as an int -/
theorem zu_ab_or (h : zu_I μ τ u ab) {m : Nat} (hm : m ∈ zy_ids u) : ab m < 0 ∨ ∃ n, n < 24 ∧ ab m = nI n := by
  obtain ⟨w, ok, hr, ha⟩ := zu_I_wf h hm
  by_cases c : m = zy_id u
  · left
    rw [c, ha]; decide
  · obtain ⟨q, hq, e, -⟩ := zy_ok_par u w ok m hm c
    exact Or.inr ⟨q, h.2.2.1 q (zy_cts_ids u w q hq), e⟩
/-- y stands in the place of the node m -/
theorem zu_st_ok (h : zu_I μ τ u ab) {m : Nat} (hm : m ∈ zy_ids u) {M : zm_M} (h1 : ∀ q ∈ zy_cts u, M 245 (24 * τ + q) = μ 245 (24 * τ + q)) (h2 : ∀ q ∈ zy_cts u, M 246 (24 * τ + q) = μ 246 (24 * τ + q)) (h0 : M 243 τ = μ 243 τ) (y : Int32) :
    (∀ q ∈ zy_cts u, zu_st M τ (ab m) (nI m) y 245 (24 * τ + q) = if μ 245 (24 * τ + q) = nI m then y else μ 245 (24 * τ + q)) ∧ (∀ q ∈ zy_cts u, zu_st M τ (ab m) (nI m) y 246 (24 * τ + q) = if μ 246 (24 * τ + q) = nI m then y else μ 246 (24 * τ + q)) ∧ (zu_st M τ (ab m) (nI m) y 243 τ = if zy_id u = m then y else μ 243 τ) ∧
    (∀ c d, ¬ (c = 243 ∧ d = τ) → ¬ ((c = 245 ∨ c = 246) ∧ ∃ q ∈ zy_cts u, d = 24 * τ + q) → zu_st M τ (ab m) (nI m) y c d = M c d) := by
  obtain ⟨w, ok, hr, ha⟩ := zu_I_wf h hm
  obtain ⟨-, hd, hlt, hf, -⟩ := id h
  have hm24 := hlt m hm
  by_cases c : zy_id u = m
  · have hneg : ab m < 0 := by rw [← c, ha]; decide
    have hno : ∀ q ∈ zy_cts u, ¬ μ 245 (24 * τ + q) = nI m ∧ ¬ μ 246 (24 * τ + q) = nI m := by
      intro q hq
      obtain ⟨i, j, hi, hj, -, e1, e2, a1, a2⟩ := zy_ok_kids u w hd ok q hq
      have hi24 := hlt i hi
      have hj24 := hlt j hj
      have hq24 := hlt q (zy_cts_ids u w q hq)
      have key : ∀ x : Nat, ab x = nI q → x ≠ m := by
        intro x hx e3
        rw [e3] at hx
        rw [hx] at hneg
        exact nI_pos (by omega) hneg
      exact ⟨fun e3 => key i a1 ((nI_eq (by omega) (by omega)).mp (e1.symm.trans e3)), fun e3 => key j a2 ((nI_eq (by omega) (by omega)).mp (e2.symm.trans e3))⟩
    have eq : zu_st M τ (ab m) (nI m) y = zm_up M 243 τ y := by
      unfold zu_st
      rw [if_pos hneg]
    rw [eq]
    refine ⟨fun q hq => ?_, fun q hq => ?_, ?_, fun c d g1 _ => zm_up_ne g1⟩
    · rw [zm_up_ne (by omega), if_neg (hno q hq).1]; exact h1 q hq
    · rw [zm_up_ne (by omega), if_neg (hno q hq).2]; exact h2 q hq
    · rw [zm_up_eq, if_pos c]
  · obtain ⟨q0, hq0, e0, ho⟩ := zy_ok_par u w ok m hm (Ne.symm c)
    have hq024 := hlt q0 (zy_cts_ids u w q0 hq0)
    have hneg : ¬ ab m < 0 := by rw [e0]; exact nI_pos (by omega)
    have hcl : (ab m).toNatClampNeg = q0 := by rw [e0]; exact nI_clamp (by omega)
    have hun : ∀ q ∈ zy_cts u, (μ 245 (24 * τ + q) = nI m ∨ μ 246 (24 * τ + q) = nI m) → q = q0 := by
      intro q hq hor
      obtain ⟨i, j, hi, hj, -, e1, e2, a1, a2⟩ := zy_ok_kids u w hd ok q hq
      have hi24 := hlt i hi
      have hj24 := hlt j hj
      have hq24 := hlt q (zy_cts_ids u w q hq)
      rcases hor with q1 | q1
      · have : i = m := (nI_eq (by omega) (by omega)).mp (e1.symm.trans q1)
        rw [this, e0] at a1
        exact ((nI_eq (by omega) (by omega)).mp a1).symm
      · have : j = m := (nI_eq (by omega) (by omega)).mp (e2.symm.trans q1)
        rw [this, e0] at a2
        exact ((nI_eq (by omega) (by omega)).mp a2).symm
    have hnb : ¬ (μ 245 (24 * τ + q0) = nI m ∧ μ 246 (24 * τ + q0) = nI m) := by
      rintro ⟨q1, q2⟩
      obtain ⟨i, j, hi, hj, hij, e1, e2, a1, a2⟩ := zy_ok_kids u w hd ok q0 hq0
      have hi24 := hlt i hi
      have hj24 := hlt j hj
      exact hij (((nI_eq (by omega) (by omega)).mp (e1.symm.trans q1)).trans ((nI_eq (by omega) (by omega)).mp (e2.symm.trans q2)).symm)
    by_cases c1 : μ 245 (24 * τ + q0) = nI m
    · have eq : zu_st M τ (ab m) (nI m) y = zm_up M 245 (24 * τ + q0) y := by
        unfold zu_st
        rw [if_neg hneg, hcl, if_pos ((h1 q0 hq0).trans c1)]
      rw [eq]
      refine ⟨fun q hq => ?_, fun q hq => ?_, ?_, fun c d _ g2 => zm_up_ne (fun e => g2 ⟨Or.inl e.1, q0, hq0, e.2⟩)⟩
      · rw [zm_up_pt]
        by_cases e : q = q0
        · subst e
          rw [if_pos rfl, if_pos c1]
        · rw [if_neg (by omega), if_neg (fun e2 => e (hun q hq (Or.inl e2)))]; exact h1 q hq
      · rw [zm_up_ne (by omega), if_neg (fun e2 => hnb (by have := hun q hq (Or.inr e2); subst this; exact ⟨c1, e2⟩))]; exact h2 q hq
      · rw [zm_up_ne (by omega), if_neg c]; exact h0
    · have c2 := ho.resolve_left c1
      have eq : zu_st M τ (ab m) (nI m) y = zm_up M 246 (24 * τ + q0) y := by
        unfold zu_st
        rw [if_neg hneg, hcl, if_neg (fun e => c1 ((h1 q0 hq0).symm.trans e))]
      rw [eq]
      refine ⟨fun q hq => ?_, fun q hq => ?_, ?_, fun c d _ g2 => zm_up_ne (fun e => g2 ⟨Or.inr e.1, q0, hq0, e.2⟩)⟩
      · rw [zm_up_ne (by omega), if_neg (fun e2 => c1 (by have := hun q hq (Or.inl e2); subst this; exact e2))]; exact h1 q hq
      · rw [zm_up_pt]
        by_cases e : q = q0
        · subst e
          rw [if_pos rfl, if_pos c2]
        · rw [if_neg (by omega), if_neg (fun e2 => e (hun q hq (Or.inr e2)))]; exact h2 q hq
      · rw [zm_up_ne (by omega), if_neg c]; exact h0
/-- the same tree at another place -/
def zu_eqT (μ : zm_M) (τ : Nat) (ν : zm_M) (σ : Nat) : Prop := ν 243 σ = μ 243 τ ∧ (∀ c n, zu_c6 c = true → n < 24 → ν c (24 * σ + n) = μ c (24 * τ + n)) ∧ ∀ n j, n < 24 → j < 10 → ν 248 (10 * (24 * σ + n) + j) = μ 248 (10 * (24 * τ + n) + j)
theorem zu_eqT.refl : zu_eqT μ τ μ τ := ⟨rfl, fun _ _ _ _ => rfl, fun _ _ _ _ => rfl⟩
theorem zu_eqT.trans {ξ : zm_M} {σ ρ : Nat} (a : zu_eqT μ τ ν σ) (b : zu_eqT ν σ ξ ρ) : zu_eqT μ τ ξ ρ := ⟨b.1.trans a.1, fun c n h1 h2 => (b.2.1 c n h1 h2).trans (a.2.1 c n h1 h2), fun n j h1 h2 => (b.2.2 n j h1 h2).trans (a.2.2 n j h1 h2)⟩
theorem zu_eqT.T {σ n : Nat} {l : List Nat} (a : zu_eqT μ τ ν σ) (hn : n < 24) (h : zu_T μ τ n l) : zu_T ν σ n l := by
  obtain ⟨t0, t1, t2⟩ := h
  exact ⟨t0, (a.2.1 249 n rfl hn).trans t1, fun j hj => (a.2.2 n j hn (by omega)).trans (t2 j hj)⟩
theorem zu_eqT.fm {σ n : Nat} (a : zu_eqT μ τ ν σ) (hn : n < 24) : zu_fm ν σ n = zu_fm μ τ n := by
  unfold zu_fm
  rw [a.2.1 244 n rfl hn]
theorem zu_eqT.I {σ : Nat} (a : zu_eqT μ τ ν σ) (h : zu_I μ τ u ab) : zu_I ν σ u ab := by
  obtain ⟨h1, h2, h3, h4, h5⟩ := h
  refine ⟨h1.imp (fun q => ⟨q.1, a.1.trans q.2⟩) (fun q => ⟨q.1, ?_, a.1.trans q.2.2.1, q.2.2.2⟩), h2, h3, fun n hn hnu => (a.2.1 244 n rfl hn).trans (h4 n hn hnu), fun n hn => ?_⟩
  · exact zy_ok_congr u q.1 h2 (fun x hx => a.fm (h3 x hx)) (fun x hx => ⟨a.2.1 245 x rfl (h3 x (zy_cts_ids u q.1 x hx)), a.2.1 246 x rfl (h3 x (zy_cts_ids u q.1 x hx))⟩) (fun x _ _ => rfl) q.2.1
  · have hn24 : n < 24 := by
      rcases h1 with ⟨rfl, -⟩ | ⟨w, -⟩
      · cases hn
      · exact h3 n (zy_lvs_ids u w n hn)
    obtain ⟨l, t, r⟩ := h5 n hn
    exact ⟨l, a.T hn24 t, r⟩
theorem zu_cq_eqT {f t : Nat} : zu_eqT μ f (zu_cq μ f t 24 240) t := by
  refine ⟨?_, fun c n hc hn => ?_, fun n j hn hj => ?_⟩
  · unfold zu_cq
    rw [if_pos ⟨rfl, rfl⟩]
  · unfold zu_cq
    rw [if_neg (by rintro ⟨rfl, -⟩; revert hc; decide), if_pos ⟨hc, by omega, by omega⟩, Nat.add_sub_cancel_left]
  · unfold zu_cq
    rw [if_neg (by omega), if_neg (by rintro ⟨hc, -⟩; revert hc; decide), if_pos ⟨rfl, by omega, by omega⟩]
    congr 1
    omega
/-- is it a place of the tree τ? -/
def zu_in (τ c d : Nat) : Prop := (c = 243 ∧ d = τ) ∨ (zu_c6 c = true ∧ 24 * τ ≤ d ∧ d < 24 * τ + 24) ∨ (c = 248 ∧ 240 * τ ≤ d ∧ d < 240 * τ + 240)
def zu_fr (τ : Nat) (μ ν : zm_M) : Prop := ∀ c d, ¬ zu_in τ c d → ν c d = μ c d
theorem zu_fr.refl : zu_fr τ μ μ := fun _ _ _ => rfl
theorem zu_fr.trans {ξ : zm_M} (a : zu_fr τ μ ν) (b : zu_fr τ ν ξ) : zu_fr τ μ ξ := fun c d h => (b c d h).trans (a c d h)
theorem zu_cq_fr {f t : Nat} : zu_fr t μ (zu_cq μ f t 24 240) := fun c d h => by
  unfold zu_cq
  rw [if_neg (fun q => h (Or.inl q)), if_neg (fun q => h (Or.inr (Or.inl q))), if_neg (fun q => h (Or.inr (Or.inr q)))]
theorem zu_fr.eqT {σ : Nat} (a : zu_fr σ μ ν) (h : τ ≠ σ) : zu_eqT μ τ ν τ := by
  refine ⟨a _ _ ?_, fun c n hc hn => a _ _ ?_, fun n j hn hj => a _ _ ?_⟩
  · rintro (h1 | ⟨h1, -⟩ | ⟨h1, -⟩)
    · exact h h1.2
    · revert h1; decide
    · revert h1; decide
  · rintro (⟨rfl, -⟩ | ⟨-, h1⟩ | ⟨rfl, -⟩)
    · revert hc; decide
    · omega
    · revert hc; decide
  · rintro (⟨h1, -⟩ | ⟨h1, -⟩ | ⟨-, h1⟩)
    · revert h1; decide
    · revert h1; decide
    · omega
/-- cells that no tree has -/
theorem zu_in_not {c d : Nat} (h : c < 243 ∨ 250 < c) : ¬ zu_in τ c d := by
  rintro (h1 | ⟨h1, -⟩ | h1)
  · omega
  · unfold zu_c6 at h1
    simp at h1
    omega
  · omega
end ZUR
