/-! side by side: close -/
section ZKL
variable {ξ μ ν ξ' μ' : zm_M} {row row' stkC stkC' stk ord : List Nat} {Rs : Nat → List Nat} {ts us : Nat → zy_F} {s k n : Nat}
theorem zd_upd_eq {α : Type} {f : Nat → α} {s : Nat} {x : α} : zd_upd f s x s = x := if_pos rfl
theorem zd_upd_ne {α : Type} {f : Nat → α} {s q : Nat} {x : α} (h : q ≠ s) : zd_upd f s x q = f q := if_neg h
theorem zd_hasg_iff {G : Nat → Bool} {q : Nat} : zd_hasg ξ G 10 q = true ↔ ∃ j, j < 10 ∧ G j = true ∧ zd_has ξ q j = true := by
  constructor
  · intro z
    refine Decidable.byContradiction fun w => ?_
    have : zl_al (fun k => !(G k && zd_has ξ q k)) 10 = true := (zl_al_iff 10).mpr (fun i hi => by
      cases c : (G i && zd_has ξ q i) with
      | false => rfl
      | true =>
        rw [Bool.and_eq_true] at c
        exact absurd ⟨i, hi, c.1, c.2⟩ w)
    unfold zd_hasg at z
    rw [this] at z
    cases z
  · rintro ⟨j, hj, a, b⟩
    exact zd_hasg_of hj a b
theorem zK_cls (h : zK ξ μ row stkC stk ord Rs ts us) (hk : k < 10) (hs : s < 3) (ht : zd_til ξ k = true → ξ (zdW k) 5 = nI s ∧ n ∈ zy_lvs (ts s) ∧ k ∈ Rs s ∧ ξ (zdT s + 3) k = nI n) (hJ : zJ ξ' (row.filter (zd_left (zd_grp ξ k) 10)) stkC' (zd_clR ξ Rs k s) (zd_clT ξ Rs ts k s n)) (f : zd_cls ξ ξ' row stkC (zd_grp ξ k) 10 k s n (Rs s) (ts s)) (g : zv_cls μ μ' row stk us k) : ∃ stk' ord' us', zK ξ' μ' (row.filter (zd_left (zd_grp ξ k) 10)) stkC' stk' ord' (zd_clR ξ Rs k s) (zd_clT ξ Rs ts k s n) us' := by
  obtain ⟨m, g1, g2, ⟨g3, g4⟩, g5, g6⟩ := zv_cls_all h hk hs (fun z => (ht z).1) g
  obtain ⟨-, f2, f3, f4, -, f6⟩ := f
  have hdl := zK_dl h
  have hhas := fun q (hq : q < 3) j (hj : j < 10) => zK_has h hq hj
  have cl : zl_cl (zd_dl ξ) (zd_ow ξ) (zd_grp ξ k) := zl_spn_cl hk (decide_eq_true rfl)
  obtain ⟨h1, h4, h2, h3, h5, h6, h7⟩ := h
  have hrow : ∀ x ∈ row, x < 10 := fun x hx => ((h1.1.2.2 x).mp hx).1
  have hI := fun q hq => (h1.2.2.2.1 q hq).1.1
  have hV := fun q hq => (h1.2.2.2.2.1 q hq).1.1
  generalize zd_grp ξ k = G at *
  have left : ∀ j, j < 10 → zd_left G 10 j = !G j := fun j hj => zd_left_10 hj
  have eC : ∀ c b, c ≠ 3 → c ≠ 4 → c ≠ 5 → c ≠ 6 → c ≠ 31 → (∀ q, q < 3 → c = zdK q → b ≠ 3) → (∀ j, j < 10 → c = zdW j → b ≠ 2) → zt_out (zdT s) c → ξ' c b = ξ c b := fun c b a1 a2 a3 a4 a5 a6 a7 a8 => f6 c b a1 a2 a3 a4 a5 a6 a7 (fun _ _ => a8)
  have eW : ∀ j, j < 10 → ∀ b, b ≠ 2 → ξ' (zdW j) b = ξ (zdW j) b := fun j hj b hb => eC _ b (by unfold zdW; omega) (by unfold zdW; omega) (by unfold zdW; omega) (by unfold zdW; omega) (by unfold zdW; omega) (fun q hq e => by unfold zdW zdK at e; omega) (fun _ _ _ => hb) (by unfold zt_out zdT zdW; omega)
  have eL : ∀ j, j < 10 → ξ' (zdW j + 1) = ξ (zdW j + 1) := fun j hj => funext fun b => eC _ b (by unfold zdW; omega) (by unfold zdW; omega) (by unfold zdW; omega) (by unfold zdW; omega) (by unfold zdW; omega) (fun q hq e => by unfold zdW zdK at e; omega) (fun q hq e => by unfold zdW at e; omega) (by unfold zt_out zdT zdW; omega)
  have eS : ∀ q, q < 3 → ξ' (zdS q) = ξ (zdS q) := fun q hq => funext fun b => eC _ b (by unfold zdS; omega) (by unfold zdS; omega) (by unfold zdS; omega) (by unfold zdS; omega) (by unfold zdS; omega) (fun p hp e => by unfold zdS zdK at e; omega) (fun p hp e => by unfold zdS zdW at e; omega) (by unfold zt_out zdT zdS; omega)
  have eZ : ∀ q, q < 3 → ξ' (zdZ q) = ξ (zdZ q) := fun q hq => funext fun b => eC _ b (by unfold zdZ; omega) (by unfold zdZ; omega) (by unfold zdZ; omega) (by unfold zdZ; omega) (by unfold zdZ; omega) (fun p hp e => by unfold zdZ zdK at e; omega) (fun p hp e => by unfold zdZ zdW at e; omega) (by unfold zt_out zdT zdZ; omega)
  have eQ : ∀ q, q < 3 → ξ' (zdQ q) = ξ (zdQ q) := fun q hq => funext fun b => eC _ b (by unfold zdQ; omega) (by unfold zdQ; omega) (by unfold zdQ; omega) (by unfold zdQ; omega) (by unfold zdQ; omega) (fun p hp e => by unfold zdQ zdK at e; omega) (fun p hp e => by unfold zdQ zdW at e; omega) (by unfold zt_out zdT zdQ; omega)
  have eV : ∀ q, q < 3 → ∀ j, j < 19 → ξ' (zdV q + j) = ξ (zdV q + j) := fun q hq j hj => funext fun b => eC _ b (by unfold zdV; omega) (by unfold zdV; omega) (by unfold zdV; omega) (by unfold zdV; omega) (by unfold zdV; omega) (fun p hp e => by unfold zdV zdK at e; omega) (fun p hp e => by unfold zdV zdW at e; omega) (by unfold zt_out zdT zdV; omega)
  have eT : ∀ q, q < 3 → (zd_til ξ k = true → q ≠ s) → ∀ j, j < 19 → ξ' (zdT q + j) = ξ (zdT q + j) := fun q hq hqs j hj => funext fun b => f6 _ b (by unfold zdT; omega) (by unfold zdT; omega) (by unfold zdT; omega) (by unfold zdT; omega) (by unfold zdT; omega) (fun p hp e => by unfold zdT zdK at e; omega) (fun p hp e => by unfold zdT zdW at e; omega) (fun z _ => by
    have := hqs z
    unfold zt_out zdT
    omega)
  have th : ∀ j, j < 10 → zd_th ξ' j = (zd_th ξ j && !G j) := fun j hj => by
    unfold zd_th
    rw [f2 j hj, left j hj]
    cases G j with
    | true => simp
    | false => simp
  have flo : ∀ j, j < 10 → zd_flo ξ' j = (zd_flo ξ j && !G j) := fun j hj => by
    unfold zd_flo
    rw [f2 j hj, left j hj, eW j hj 3 (by decide)]
    cases G j with
    | true => simp
    | false => simp
  have has : ∀ q j, q < 3 → zd_has ξ' q j = (!zd_hasg ξ G 10 q && zd_has ξ q j) := fun q j hq => by
    unfold zd_has
    rw [f3 q hq, eQ q hq, eV q hq 3 (by decide)]
    cases zd_hasg ξ G 10 q with
    | true => simp
    | false => simp
  have grow : row.filter (fun x => !G x) = row.filter (zd_left G 10) := List.filter_congr (fun x hx => (left x (hrow x hx)).symm)
  refine ⟨stk.filter (fun x => !G x), ord.filter (fun x => !G x), zK_clU μ us (zd_til ξ k) s k m, hJ, ⟨by rw [← grow]; exact g3, g4, h4.2.2.1.filter _, fun x => ?_⟩, ⟨fun j hj => ?_, fun q hq => ?_⟩, fun j hj a b => ?_, ⟨h5.1.filter _, fun x => ?_, fun x hx e => ?_⟩, fun q hq => ?_, fun d hd => ?_, fun q hq => ?_⟩
  · rw [List.mem_filter, h4.2.2.2 x]
    constructor
    · rintro ⟨⟨a, b⟩, c⟩
      refine ⟨a, ?_⟩
      rw [flo x a, b, c]; rfl
    · rintro ⟨a, b⟩
      rw [flo x a, Bool.and_eq_true] at b
      exact ⟨⟨a, b.1⟩, b.2⟩
  · rw [th j hj, g2 j hj, eW j hj 3 (by decide), eW j hj 4 (by decide), eW j hj 5 (by decide), eL j hj]
    have up : ∀ c, c = 235 ∨ c = 236 ∨ c = 237 ∨ c = 238 → μ' c j = μ c j := fun c r => g6 c j (by omega) (by omega) (by omega) (by omega) (by omega) (fun _ => zu_in_not (by omega))
    rw [up 235 (by omega), up 236 (by omega), up 237 (by omega), up 238 (by omega)]
    cases G j with
    | true => exact ⟨fun _ => rfl, fun z => by simp at z⟩
    | false =>
      have := h2.1 j hj
      simpa using this
  · rw [eS q hq, eZ q hq, g6 232 q (by decide) (by decide) (by decide) (by decide) (by decide) (fun _ => zu_in_not (by decide)), g6 233 q (by decide) (by decide) (by decide) (by decide) (by decide) (fun _ => zu_in_not (by decide))]
    exact h2.2 q hq
  · rw [th j hj, Bool.and_eq_true] at a
    rw [eW j hj 3 (by decide)] at b
    obtain ⟨o, ho, q1, q2, q3, q4⟩ := h3 j hj a.1 b
    refine ⟨o, ho, by rw [eW j hj 4 (by decide)]; exact q1, by rw [eW o ho 3 (by decide)]; exact q2, by rw [eW j hj 5 (by decide), eW o ho 5 (by decide)]; exact q3, fun q hq z => ?_⟩
    rw [has q _ hq, Bool.and_eq_true] at z ⊢
    exact ⟨z.1, q4 q hq z.2⟩
  · rw [List.mem_filter, h5.2.1 x]
    constructor
    · rintro ⟨⟨a, b⟩, c⟩
      refine ⟨a, ?_⟩
      rw [g2 x a, if_neg (fun z => by rw [z] at c; cases c)]
      exact b
    · rintro ⟨a, b⟩
      rw [g2 x a] at b
      by_cases c : G x = true
      · rw [if_pos c] at b
        exact absurd rfl b
      · rw [if_neg c] at b
        exact ⟨⟨a, b⟩, by simpa using c⟩
  · rw [g2 x hx] at e
    by_cases c : G x = true
    · rw [if_pos c] at e
      exact absurd e (by decide)
    · rw [if_neg c] at e
      obtain ⟨o, ho, e2, e3, e4⟩ := h5.2.2 x hx e
      have hx' : x ∈ ord := (h5.2.1 x).mpr ⟨hx, by rw [e]; decide⟩
      have hd : zd_dl ξ x = true := by
        rw [(hdl x hx).1]
        exact decide_eq_true e
      obtain ⟨-, b2, -, b4, -⟩ := (hdl x hx).2 hd
      have eo : zd_ow ξ x = o := (nI_eq (by omega) (by omega)).mp (b4.symm.trans e2)
      have no : ¬ G o = true := fun z => c (cl x hx hd (by rw [eo]; exact z))
      have c' : (!G x) = true := by simpa using c
      have no' : (!G o) = true := by simpa using no
      refine ⟨o, ho, by rw [g6 237 x (by decide) (by decide) (by decide) (by decide) (by decide) (fun _ => zu_in_not (by decide))]; exact e2, List.mem_filter.mpr ⟨e3, no'⟩, ?_⟩
      exact zl_idx_filter (p := fun x => !G x) ord e3 hx' no' c' e4
  · by_cases c : zd_til ξ k = true
    · obtain ⟨t1, t2, t3, t4⟩ := ht c
      unfold zd_clR zd_clT zK_clU
      rw [if_pos c, if_pos c, if_pos c]
      by_cases e : q = s
      · subst e
        rw [zd_upd_eq, zd_upd_eq, zd_upd_eq]
        obtain ⟨ν2, ab', p1, p2, p3⟩ := g1 c
        have tf : zu_eqT μ q (zv_fg μ k) q := zu_eq_in (fun x y r => zv_fg_ne (fun z => zu_in_not (Or.inr (by omega)) r))
        obtain ⟨ab, hIu⟩ := (h6 q hq).2
        have z0 := zs_eqT (hI q hq) (h6 q hq) tf
        have at0 := zu_at_eqT hIu tf p1
        obtain ⟨m', at', pp⟩ := zs_at (hI q hq) z0 t3 t2 t4
        have em := at'.2.2 m at0.1 at0.2.1
        subst em
        obtain ⟨o1, o2, o3, o4, o5, o6, o7⟩ := f4 c (by omega)
        exact zs_eqT o1.1 (zs_out (hI q hq) z0 t2 at0 pp o1.1 o2 o5 o6 o7 p2) p3
      · rw [zd_upd_ne e, zd_upd_ne e, zd_upd_ne e]
        exact zs_cl (hI q hq) (zs_eqT (hI q hq) (h6 q hq) (zu_eq_in (fun x y r => g6 x y (fun z => zu_in_not (Or.inl (by omega)) r) (fun z => zu_in_not (Or.inl (by omega)) r) (fun z => zu_in_not (Or.inl (by omega)) r) (fun z => zu_in_not (Or.inr (by omega)) r) (fun z => zu_in_not (Or.inl (by omega)) r) (fun _ => zu_in_ne r e)))) (eT q hq (fun _ => e) 3 (by decide)) (eT q hq (fun _ => e) 7 (by decide)) (eT q hq (fun _ => e) 8 (by decide)) (eT q hq (fun _ => e) 12 (by decide))
    · unfold zd_clR zd_clT zK_clU
      rw [if_neg c, if_neg c, if_neg c]
      exact zs_cl (hI q hq) (zs_eqT (hI q hq) (h6 q hq) (zu_eq_in (fun x y r => g6 x y (fun z => zu_in_not (Or.inl (by omega)) r) (fun z => zu_in_not (Or.inl (by omega)) r) (fun z => zu_in_not (Or.inl (by omega)) r) (fun z => zu_in_not (Or.inr (by omega)) r) (fun z => zu_in_not (Or.inl (by omega)) r) (fun z => absurd z c)))) (eT q hq (fun z => absurd z c) 3 (by decide)) (eT q hq (fun z => absurd z c) 7 (by decide)) (eT q hq (fun z => absurd z c) 8 (by decide)) (eT q hq (fun z => absurd z c) 12 (by decide))
  · rw [g6 252 d (by decide) (by decide) (by decide) (by decide) (by decide) (fun _ => zu_in_not (by decide))]
    exact h7.1 d hd
  · obtain ⟨k1, k2⟩ := h7.2 q hq
    have eR : zd_clR ξ Rs k s (3 + q) = Rs (3 + q) := by
      unfold zd_clR
      by_cases c : zd_til ξ k = true
      · rw [if_pos c, zd_upd_ne (by omega)]
      · rw [if_neg c]
    have et : zd_clT ξ Rs ts k s n (3 + q) = ts (3 + q) := by
      unfold zd_clT
      by_cases c : zd_til ξ k = true
      · rw [if_pos c, zd_upd_ne (by omega)]
      · rw [if_neg c]
    have eu : zK_clU μ us (zd_til ξ k) s k m (3 + q) = us (3 + q) := by
      unfold zK_clU
      by_cases c : zd_til ξ k = true
      · rw [if_pos c, zd_upd_ne (by omega)]
      · rw [if_neg c]
    rw [eR, et, eu, g5 q hq, f3 q hq]
    have hg : zd_hasg ξ G 10 q = true ↔ ¬ μ 251 q = 0 ∧ ∃ j, j < 10 ∧ G j = true ∧ ¬ μ 252 (10 * q + j) = 0 := by
      rw [zd_hasg_iff]
      constructor
      · rintro ⟨j, a, b, c⟩
        obtain ⟨c1, c2⟩ := (hhas q hq j a).mpr c
        exact ⟨c1, j, a, b, c2⟩
      · rintro ⟨c1, j, a, b, c2⟩
        exact ⟨j, a, b, (hhas q hq j a).mp ⟨c1, c2⟩⟩
    by_cases c : zd_hasg ξ G 10 q = true
    · rw [if_pos c]
      exact ⟨⟨fun _ => rfl, fun _ => Or.inr (hg.mp c).2⟩, fun z => absurd rfl z⟩
    · rw [if_neg c]
      refine ⟨⟨fun z => z.elim k1.mp (fun z => Decidable.byContradiction fun w => c (hg.mpr ⟨fun y => w (k1.mp y), z⟩)), fun z => Or.inl (k1.mpr z)⟩, fun z => ⟨fun j hj => ?_, ?_⟩⟩
      · rw [has q j hq, g6 252 _ (by decide) (by decide) (by decide) (by decide) (by decide) (fun _ => zu_in_not (by decide))]
        have c' : zd_hasg ξ G 10 q = false := by simpa using c
        rw [c']
        exact (k2 z).1 j hj
      · exact zs_cl (hV q hq) (zs_eqT (hV q hq) (k2 z).2 (zu_eq_in (fun x y r => g6 x y (fun z => zu_in_not (Or.inl (by omega)) r) (fun z => zu_in_not (Or.inl (by omega)) r) (fun z => zu_in_not (Or.inl (by omega)) r) (fun z => zu_in_not (Or.inr (by omega)) r) (fun z => zu_in_not (Or.inl (by omega)) r) (fun _ => zu_in_ne r (by omega))))) (eV q hq 3 (by decide)) (eV q hq 7 (by decide)) (eV q hq 8 (by decide)) (eV q hq 12 (by decide))
end ZKL
