/-! side by side: groups, close -/
section ZKI
variable {dl dl' : Nat → Bool} {ow ow' : Nat → Nat} {g g' : Nat → Bool}
theorem zl_sp1_congr (h : ∀ n, n < 10 → dl n = dl' n ∧ (dl n = true → ow n = ow' n)) : ∀ n, n ≤ 10 → zl_sp1 dl ow g n = zl_sp1 dl' ow' g n
  | 0, _ => rfl
  | n + 1, hn => by
    have ih := zl_sp1_congr h n (by omega)
    funext j
    rw [zl_sp1_s, zl_sp1_s, ih]
    obtain ⟨e1, e2⟩ := h n (by omega)
    by_cases c : j = n
    · rw [if_pos c, if_pos c, ← e1]
      cases d : dl n with
      | false => rfl
      | true => rw [e2 d]
    · rw [if_neg c, if_neg c]
theorem zl_spn_congr (h : ∀ n, n < 10 → dl n = dl' n ∧ (dl n = true → ow n = ow' n)) : ∀ m, zl_spn dl ow g m = zl_spn dl' ow' g m
  | 0 => rfl
  | m + 1 => by
    show zl_sp1 dl ow (zl_spn dl ow g m) 10 = zl_sp1 dl' ow' (zl_spn dl' ow' g m) 10
    rw [zl_spn_congr h m]
    exact zl_sp1_congr h 10 (Nat.le_refl _)
/-- the least set that is closed -/
theorem zl_sp1_min {X : Nat → Bool} (hX : ∀ j, j < 10 → dl j = true → X (ow j) = true → X j = true) (hg : ∀ j, g j = true → X j = true) : ∀ n, n ≤ 10 → ∀ j, zl_sp1 dl ow g n j = true → X j = true
  | 0, _, j, h => hg j h
  | n + 1, hn, j, h => by
    rw [zl_sp1_s] at h
    by_cases c : j = n
    · rw [if_pos c, Bool.or_eq_true, Bool.and_eq_true] at h
      rcases h with h | ⟨h1, h2⟩
      · rw [c]; exact zl_sp1_min hX hg n (by omega) n h
      · rw [c]; exact hX n (by omega) h1 (zl_sp1_min hX hg n (by omega) _ h2)
    · rw [if_neg c] at h
      exact zl_sp1_min hX hg n (by omega) j h
theorem zl_spn_min {X : Nat → Bool} (hX : ∀ j, j < 10 → dl j = true → X (ow j) = true → X j = true) (hg : ∀ j, g j = true → X j = true) : ∀ m j, zl_spn dl ow g m j = true → X j = true
  | 0, j, h => hg j h
  | m + 1, j, h => zl_sp1_min hX (zl_spn_min hX hg m) 10 (Nat.le_refl _) j h
theorem zl_idx_ne {a y : Nat} {l : List Nat} (h : a ≠ y) : (a :: l).idxOf y = l.idxOf y + 1 := by
  rw [List.idxOf_cons]
  have : (a == y) = false := by simpa using h
  rw [this]
  rfl
/-- an order with some left out -/
theorem zl_idx_filter {p : Nat → Bool} {x y : Nat} : ∀ l : List Nat, x ∈ l → y ∈ l → p x = true → p y = true → l.idxOf x < l.idxOf y → (l.filter p).idxOf x < (l.filter p).idxOf y
  | [], h, _, _, _, _ => by cases h
  | a :: l, hx, hy, px, py, h => by
    by_cases ey : a = y
    · subst ey
      rw [List.idxOf_cons_self] at h
      exact absurd h (Nat.not_lt_zero _)
    · have hy' : y ∈ l := (List.mem_cons.mp hy).resolve_left (fun e => ey e.symm)
      by_cases ex : a = x
      · subst ex
        rw [List.filter_cons, if_pos px, List.idxOf_cons_self, zl_idx_ne ey]
        exact Nat.succ_pos _
      · have hx' : x ∈ l := (List.mem_cons.mp hx).resolve_left (fun e => ex e.symm)
        rw [zl_idx_ne ey, zl_idx_ne ex] at h
        have ih := zl_idx_filter l hx' hy' px py (by omega)
        rw [List.filter_cons]
        by_cases pa : p a = true
        · rw [if_pos pa, zl_idx_ne ey, zl_idx_ne ex]
          omega
        · rw [if_neg pa]
          exact ih
end ZKI
section ZKJ
variable {ξ μ ν ξ' μ' : zm_M} {row row' stkC stkC' stk ord : List Nat} {Rs : Nat → List Nat} {ts us : Nat → zy_F} {s k : Nat}
/-- dialogs and owners on both sides -/
theorem zK_dl (h : zK ξ μ row stkC stk ord Rs ts us) : ∀ x, x < 10 → zd_dl ξ x = zv_dlg μ x ∧ (zd_dl ξ x = true → zd_ow ξ x = zv_own μ x ∧ zd_ow ξ x < 10 ∧ μ 234 x = 3 ∧ μ 237 x = nI (zd_ow ξ x) ∧ zd_th ξ x = true ∧ ξ (zdW x) 3 = 3) := fun x hx => by
  obtain ⟨h1, h4, h0⟩ := h
  cases c : zd_th ξ x with
  | false =>
    have e1 : zd_dl ξ x = false := decide_eq_false (fun z => by
      have : zd_th ξ x = true := decide_eq_true z.1
      rw [c] at this
      cases this)
    have e2 : zv_dlg μ x = false := decide_eq_false (fun z => by
      rw [(h0.1.1 x hx).1 c] at z
      exact absurd z (by decide))
    exact ⟨e1.trans e2.symm, fun z => by rw [e1] at z; cases z⟩
  | true =>
    obtain ⟨e4, -, e7, -⟩ := (h0.1.1 x hx).2 c
    obtain ⟨-, -, -, w4, w5⟩ := h1.2.2.1 x hx c
    by_cases c3 : ξ (zdW x) 3 = 3
    · obtain ⟨o, ho, -, eo, to⟩ := w4 c3
      have ew : zd_ow ξ x = o := by
        unfold zd_ow
        rw [eo, nI_clamp (by omega)]
      have ev : zv_own μ x = o := by
        unfold zv_own
        rw [e7 c3, eo, nI_clamp (by omega)]
      have e1 : zd_dl ξ x = true := decide_eq_true ⟨of_decide_eq_true c, ⟨by rw [eo]; exact nI_pos (by omega), by rw [eo]; exact nI_ge (b := 10) ho (by decide)⟩, by rw [ew]; exact of_decide_eq_true to⟩
      have e2 : zv_dlg μ x = true := decide_eq_true (e4.trans c3)
      exact ⟨e1.trans e2.symm, fun _ => ⟨ew.trans ev.symm, by rw [ew]; exact ho, e4.trans c3, by rw [ew, e7 c3]; exact eo, rfl, c3⟩⟩
    · have eo := w5 c3
      have e1 : zd_dl ξ x = false := decide_eq_false (fun z => z.2.1.1 (by rw [eo]; decide))
      have e2 : zv_dlg μ x = false := decide_eq_false (fun z => c3 (e4.symm.trans z))
      exact ⟨e1.trans e2.symm, fun z => by rw [e1] at z; cases z⟩
theorem zK_spn (h : zK ξ μ row stkC stk ord Rs ts us) {g : Nat → Bool} (m : Nat) : zl_spn (zd_dl ξ) (zd_ow ξ) g m = zl_spn (zv_dlg μ) (zv_own μ) g m :=
  zl_spn_congr (fun n hn => ⟨(zK_dl h n hn).1, fun z => ((zK_dl h n hn).2 z).1⟩) m
theorem zK_grp (h : zK ξ μ row stkC stk ord Rs ts us) : zd_grp ξ k = zv_grp μ k := zK_spn h 10
/-- the group that is closed is the reference's -/
theorem zK_gs (h : zK ξ μ row stkC stk ord Rs ts us) (hk : k < 10) {X : Nat → Bool} (e : ∀ d, d < 10 → ν 234 d = μ 234 d ∧ ν 237 d = μ 237 d) (g : zv_gs ν k (fun _ => false) X) : ∀ j, j < 10 → X j = zd_grp ξ k j := fun j hj => by
  obtain ⟨g1, g2, g3, g4⟩ := g
  have hd := zK_dl h
  have cl := zl_spn_cl (dl := zd_dl ξ) (ow := zd_ow ξ) (g := fun j => decide (j = k)) hk (decide_eq_true rfl)
  have a1 : X j = true → zd_grp ξ k j = true := fun z => by
    rcases g4 (fun j => decide (j < 10) && zd_grp ξ k j) (by rw [zd_grp_k, decide_eq_true hk]; rfl) (fun d o hd' ho e1 e2 z => by
      rw [(e d hd').1] at e1
      rw [(e d hd').2] at e2
      have z2 := (Bool.and_eq_true _ _ ▸ z : decide (o < 10) = true ∧ zd_grp ξ k o = true).2
      have hdl : zd_dl ξ d = true := by
        rw [(hd d hd').1]
        exact decide_eq_true e1
      have eow : zd_ow ξ d = o := by
        have := ((hd d hd').2 hdl).2.2.2.1
        exact (nI_eq (by have := ((hd d hd').2 hdl).2.1; omega) (by omega)).mp (this.symm.trans e2)
      rw [decide_eq_true hd', Bool.true_and]
      exact cl d hd' hdl (by rw [eow]; exact z2)) j z with w | w
    · cases w
    · exact (Bool.and_eq_true _ _ ▸ w : decide (j < 10) = true ∧ zd_grp ξ k j = true).2
  have a2 : zd_grp ξ k j = true → X j = true := zl_spn_min (X := X) (fun d hd' hdl z => by
    obtain ⟨-, b2, b3, b4, -⟩ := (hd d hd').2 hdl
    exact g3 (zd_ow ξ d) b2 z rfl d hd' ((e d hd').1.trans b3) ((e d hd').2.trans b4)) (fun j z => by rw [of_decide_eq_true z]; exact g1) 10 j
  cases c : zd_grp ξ k j with
  | true => exact a2 c
  | false =>
    cases c2 : X j with
    | false => rfl
    | true => rw [a1 c2] at c; cases c
/-- the trees behind a close -/
def zK_clU (μ : zm_M) (us : Nat → zy_F) (b : Bool) (s k m : Nat) : Nat → zy_F := if b = true then zd_upd us s (if (zu_tb (zv_fg μ k) s m).erase k = [] then zy_out m (us s) else us s) else us
theorem zv_cls_all (h : zK ξ μ row stkC stk ord Rs ts us) (hk : k < 10) (hs : s < 3) (ht : zd_til ξ k = true → ξ (zdW k) 5 = nI s) (g : zv_cls μ μ' row stk us k) : ∃ m, (zd_til ξ k = true → ∃ ν2 ab', zu_at μ s (us s) k m ∧ zu_isOut (zv_fg μ k) s (us s) m k ν2 ab' ∧ zu_eqT ν2 s μ' s) ∧ (∀ j, j < 10 → μ' 234 j = if zd_grp ξ k j = true then 0 else μ 234 j) ∧ (zv_L μ' 242 12 (row.filter (fun x => !zd_grp ξ k x)) ∧ zv_L μ' 241 10 (stk.filter (fun x => !zd_grp ξ k x))) ∧ (∀ q, q < 3 → (μ' 251 q = 0 ↔ μ 251 q = 0 ∨ ∃ j, j < 10 ∧ zd_grp ξ k j = true ∧ ¬ μ 252 (10 * q + j) = 0)) ∧ ∀ c d, c ≠ 234 → c ≠ 241 → c ≠ 242 → c ≠ 251 → c ≠ 231 → (zd_til ξ k = true → ¬ zu_in s c d) → μ' c d = μ c d := by
  obtain ⟨q1, q2, -⟩ := zK_kind h hk
  have hR := zK_R h
  have rb : ∀ x ∈ row, x < 10 := fun x hx => ((hR.2.1.2.2 x).mp hx).1
  have sb : ∀ x ∈ stk, x < 10 := fun x hx => ((hR.2.2.1.2.2 x).mp hx).1
  have flt : ∀ (X : Nat → Bool) (l : List Nat), (∀ x ∈ l, x < 10) → (∀ j, j < 10 → X j = zd_grp ξ k j) → l.filter (fun x => !X x) = l.filter (fun x => !zd_grp ξ k x) := fun X l hl e => List.filter_congr (fun x hx => by rw [e x (hl x hx)])
  rcases g with ⟨g1, X, g2, g3⟩ | ⟨g1, s', m, ν2, ab', X, hs', hh, hat, ho, g2, g3⟩
  · have eX := zK_gs h hk (fun d _ => ⟨rfl, rfl⟩) g3
    have nt : ¬ zd_til ξ k = true := fun z => g1 (q1.mp z)
    obtain ⟨a1, a2, a3, a4, a5⟩ := g2
    rw [flt X row rb eX] at a2
    rw [flt X stk sb eX] at a3
    refine ⟨0, fun z => absurd z nt, fun j hj => by rw [a1 j hj, eX j hj], ⟨a2, a3⟩, fun q hq => (a4 q hq).2.trans (or_congr Iff.rfl ⟨fun ⟨j, b1, b2, b3⟩ => ⟨j, b1, by rw [← eX j b1]; exact b2, b3⟩, fun ⟨j, b1, b2, b3⟩ => ⟨j, b1, by rw [eX j b1]; exact b2, b3⟩⟩), fun c d r1 r2 r3 r4 r5 _ => a5 c d r1 r2 r3 r4 (fun z => r5 z.1)⟩
  · have c1 := q1.mpr g1
    have e1 := (nI_eq (by omega) (by omega)).mp (hh.symm.trans ((q2 c1).trans (ht c1)))
    subst e1
    have fr := ho.2.2.2.2
    have f2 : ∀ c d, c ≠ 251 → ¬ zu_in s' c d → ν2 c d = μ c d := fun c d r1 r2 => (fr c d r2).trans (zv_fg_ne r1)
    have eX := zK_gs h hk (ν := ν2) (fun d _ => ⟨f2 _ _ (by decide) (zu_in_not (by decide)), f2 _ _ (by decide) (zu_in_not (by decide))⟩) g3
    obtain ⟨a1, a2, a3, a4, a5⟩ := g2
    rw [flt X row rb eX] at a2
    rw [flt X stk sb eX] at a3
    refine ⟨m, fun _ => ⟨ν2, ab', hat, ho, zu_eq_in (fun c d r => a5 c d (fun z => zu_in_not (Or.inl (by omega)) r) (fun z => zu_in_not (Or.inl (by omega)) r) (fun z => zu_in_not (Or.inl (by omega)) r) (fun z => zu_in_not (Or.inr (by omega)) r) (fun z => zu_in_not (Or.inl (by omega)) r))⟩, fun j hj => ?_, ⟨a2, a3⟩, fun q hq => ?_, fun c d r1 r2 r3 r4 r5 r6 => (a5 c d r1 r2 r3 r4 (fun z => r5 z.1)).trans (f2 c d r4 (r6 c1))⟩
    · rw [a1 j hj, eX j hj, f2 _ _ (by decide) (zu_in_not (by decide))]
    · have e52 : ∀ j, ν2 252 j = μ 252 j := fun j => f2 _ _ (by decide) (zu_in_not (by decide))
      have e51 : ν2 251 q = if ¬ μ 251 q = 0 ∧ ¬ μ 252 (10 * q + k) = 0 then 0 else μ 251 q := (fr _ _ (zu_in_not (by decide))).trans (zv_fg_at hq)
      rw [(a4 q hq).2, e51]
      constructor
      · rintro (z | ⟨j, b1, b2, b3⟩)
        · by_cases c : ¬ μ 251 q = 0 ∧ ¬ μ 252 (10 * q + k) = 0
          · exact Or.inr ⟨k, hk, zd_grp_k, c.2⟩
          · rw [if_neg c] at z
            exact Or.inl z
        · exact Or.inr ⟨j, b1, by rw [← eX j b1]; exact b2, by rw [← e52]; exact b3⟩
      · rintro (z | ⟨j, b1, b2, b3⟩)
        · rw [if_neg (fun w => w.1 z)]
          exact Or.inl z
        · exact Or.inr ⟨j, b1, by rw [eX j b1]; exact b2, by rw [e52]; exact b3⟩
end ZKJ
