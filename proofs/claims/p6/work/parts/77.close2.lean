/-! the desk: close, whole -/
section ZCM
variable {μ ν : zm_M} {row stk : List Nat} {Rs : Nat → List Nat} {ts : Nat → zy_F}
theorem zd_left_10 {G : Nat → Bool} {j : Nat} (hj : j < 10) : zd_left G 10 j = !G j := by
  unfold zd_left
  simp [hj]
theorem zd_hasg_of {G : Nat → Bool} {j q : Nat} (hj : j < 10) (hG : G j = true) (hh : zd_has μ q j = true) : zd_hasg μ G 10 q = true := by
  unfold zd_hasg
  cases hc : zl_al (fun k => !(G k && zd_has μ q k)) 10 with
  | false => rfl
  | true =>
    have := (zl_al_iff 10).mp hc j hj
    simp [hG, hh] at this
theorem zJ_sm (h : zJ μ row stk Rs ts) {s : Nat} (hs : s < 3) : zt_sm μ (zdT s) (Rs s) := by
  intro w hw a ha
  obtain ⟨-, h2, h3⟩ := h.2.2.2.1 s hs
  obtain ⟨b1, b2, -⟩ := (h2 w).mp hw
  obtain ⟨e5, e6⟩ := h3 w hw
  obtain ⟨-, a2, -⟩ := h.2.2.1 w b1 (decide_eq_true (of_decide_eq_true b2).1)
  have key : ∀ x : Int32, 1 ≤ x → x ≤ 200 → ∃ y, y ≤ 200 ∧ x = nI y := by
    intro x q1 q2
    rcases zd_rng x 201 (by decide) with ⟨y, hy, e⟩ | q
    · exact ⟨y, by omega, e⟩
    · exfalso
      rcases q with q | q
      · exact absurd (Int32.lt_of_lt_of_le (by decide : (0 : Int32) < 1) q1) (Int32.not_lt.mpr (Int32.le_of_lt q))
      · exact absurd (Int32.le_trans q q2) (by decide)
  match a, ha with
  | 0, _ =>
    obtain ⟨y, hy, e⟩ := key _ a2.1 a2.2.1
    exact ⟨y, hy, e5.trans e⟩
  | 1, _ =>
    obtain ⟨y, hy, e⟩ := key _ a2.2.2.1 a2.2.2.2
    exact ⟨y, hy, e6.trans e⟩
/-- the tabs and nodes when the group has ended -/
def zd_clR (μ : zm_M) (Rs : Nat → List Nat) (k s : Nat) : Nat → List Nat := if zd_til μ k = true then zd_upd Rs s ((Rs s).erase k) else Rs
def zd_clT (μ : zm_M) (Rs : Nat → List Nat) (ts : Nat → zy_F) (k s n : Nat) : Nat → zy_F := if zd_til μ k = true then zd_upd ts s (if (zt_tb μ (zdT s) (Rs s) n).erase k = [] then zy_out n (ts s) else ts s) else ts
theorem zJ_cls (h : zJ μ row stk Rs ts) {G : Nat → Bool} {k s n : Nat} (hk : k < 10) (hs : s < 3) (hGk : G k = true) (hGt : ∀ j, j < 10 → G j = true → zd_til μ j = true → j = k) (hGc : ∀ j, j < 10 → zd_dl μ j = true → G (zd_ow μ j) = true → G j = true)
    (ht : zd_til μ k = true → μ (zdW k) 5 = nI s ∧ n ∈ zy_lvs (ts s) ∧ k ∈ Rs s ∧ μ (zdT s + 3) k = nI n) (hc : zd_cls μ ν row stk G 10 k s n (Rs s) (ts s)) : zJ ν (row.filter (zd_left G 10)) (stk.filter (zd_left G 10)) (zd_clR μ Rs k s) (zd_clT μ Rs ts k s n) := by
  obtain ⟨⟨r3, r5⟩, a2, ak, at', -, af⟩ := hc
  have hw := h
  obtain ⟨h1, h2, h3, h4, h5, h6⟩ := h
  have wo : ∀ j, j < 10 → ∀ b, b ≠ 2 → ν (zdW j) b = μ (zdW j) b := fun j hj b hb => af _ _ (by unfold zdW; omega) (by unfold zdW; omega) (by unfold zdW; omega) (by unfold zdW; omega) (by unfold zdW; omega) (fun q hq e => by unfold zdW zdK at e; omega) (fun _ _ _ => hb) (fun _ _ => zJn_out hs (Or.inr (Or.inl ⟨j, hj, Or.inl rfl⟩)))
  have eL : ∀ j, j < 10 → ν (zdW j + 1) = μ (zdW j + 1) := fun j hj => funext fun b => af _ _ (by unfold zdW; omega) (by unfold zdW; omega) (by unfold zdW; omega) (by unfold zdW; omega) (by unfold zdW; omega) (fun q hq e => by unfold zdW zdK at e; omega) (fun j' hj' e => by unfold zdW at e; omega) (fun _ _ => zJn_out hs (Or.inr (Or.inl ⟨j, hj, Or.inr rfl⟩)))
  have eV : ∀ q, q < 3 → ∀ j, j < 19 → ν (zdV q + j) = μ (zdV q + j) := fun q hq j hj => funext fun b => af _ _ (by unfold zdV; omega) (by unfold zdV; omega) (by unfold zdV; omega) (by unfold zdV; omega) (by unfold zdV; omega) (fun q hq e => by unfold zdV zdK at e; omega) (fun j' hj' e => by unfold zdV zdW at e; omega) (fun _ _ => zJn_out hs (Or.inr (Or.inr (Or.inl ⟨q, hq, Or.inr (Or.inr (Or.inr (Or.inr ⟨j, hj, rfl⟩)))⟩))))
  have eS : ∀ q, q < 3 → ν (zdS q) = μ (zdS q) ∧ ν (zdZ q) = μ (zdZ q) ∧ ν (zdQ q) = μ (zdQ q) := fun q hq => ⟨funext fun b => af _ _ (by unfold zdS; omega) (by unfold zdS; omega) (by unfold zdS; omega) (by unfold zdS; omega) (by unfold zdS; omega) (fun q hq e => by unfold zdS zdK at e; omega) (fun j' hj' e => by unfold zdS zdW at e; omega) (fun _ _ => zJn_out hs (Or.inr (Or.inr (Or.inl ⟨q, hq, Or.inl rfl⟩)))), funext fun b => af _ _ (by unfold zdZ; omega) (by unfold zdZ; omega) (by unfold zdZ; omega) (by unfold zdZ; omega) (by unfold zdZ; omega) (fun q hq e => by unfold zdZ zdK at e; omega) (fun j' hj' e => by unfold zdZ zdW at e; omega) (fun _ _ => zJn_out hs (Or.inr (Or.inr (Or.inl ⟨q, hq, Or.inr (Or.inl rfl)⟩)))), funext fun b => af _ _ (by unfold zdQ; omega) (by unfold zdQ; omega) (by unfold zdQ; omega) (by unfold zdQ; omega) (by unfold zdQ; omega) (fun q hq e => by unfold zdQ zdK at e; omega) (fun j' hj' e => by unfold zdQ zdW at e; omega) (fun _ _ => zJn_out hs (Or.inr (Or.inr (Or.inl ⟨q, hq, Or.inr (Or.inr (Or.inr (Or.inl rfl)))⟩))))⟩
  have eT : ∀ q, q < 3 → ¬ (zd_til μ k = true ∧ q = s) → ∀ j, j < 19 → ν (zdT q + j) = μ (zdT q + j) := fun q hq hno j hj => funext fun b => af _ _ (by unfold zdT; omega) (by unfold zdT; omega) (by unfold zdT; omega) (by unfold zdT; omega) (by unfold zdT; omega) (fun q hq e => by unfold zdT zdK at e; omega) (fun j' hj' e => by unfold zdT zdW at e; omega) (fun q1 _ => by
    have : q ≠ s := fun e => hno ⟨q1, e⟩
    unfold zt_out zdT
    omega)
  have th : ∀ j, j < 10 → (zd_th ν j = true ↔ (zd_th μ j = true ∧ G j = false)) := fun j hj => by
    unfold zd_th
    rw [a2 j hj, zd_left_10 hj]
    cases hg : G j with
    | true => simp
    | false => simp
  have til : ∀ j, j < 10 → (zd_til ν j = true ↔ (zd_til μ j = true ∧ G j = false)) := fun j hj => by
    unfold zd_til
    rw [a2 j hj, zd_left_10 hj, wo j hj 3 (by decide)]
    cases hg : G j with
    | true => simp
    | false => simp
  have ktt : ∀ q, q < 3 → ¬ μ (zdK q) 3 = 0 → zd_hasg μ G 10 q = false → (∀ j ∈ Rs (3 + q), G j = false) ∧ ∀ j, j < 10 → ¬ μ (zdQ q) j = 0 → G j = false := by
    intro q hq hkp hno
    obtain ⟨c1, -⟩ := h5 q hq
    constructor
    · intro j hj
      cases hg : G j with
      | false => rfl
      | true =>
        have hj10 := c1.1.1.2.2 j hj
        obtain ⟨m, hm, em⟩ := c1.1.2.2.2.1 j hj
        have hm19 := c1.1.2.1.2.2.1 m (zt_I_lv c1.1 hm).2
        have : zd_has μ q j = true := decide_eq_true ⟨hkp, Or.inr (by rw [em]; exact nI_pos (by omega))⟩
        rw [zd_hasg_of hj10 hg this] at hno
        cases hno
    · intro j hj hp
      cases hg : G j with
      | false => rfl
      | true =>
        have : zd_has μ q j = true := decide_eq_true ⟨hkp, Or.inl hp⟩
        rw [zd_hasg_of hj hg this] at hno
        cases hno
  refine ⟨⟨r3, h1.2.1.filter _, fun j => ?_⟩, ⟨r5, h2.2.1.filter _, fun j hj => h2.2.2 j (List.mem_filter.mp hj).1⟩, fun j hj htj => ?_, fun q hq => ?_, fun q hq => ?_, fun q hq hqt => ?_⟩
  · rw [List.mem_filter, h1.2.2 j]
    constructor
    · rintro ⟨⟨b1, b2⟩, b3⟩
      refine ⟨b1, (th j b1).mpr ⟨b2, ?_⟩⟩
      rw [zd_left_10 b1] at b3
      simpa using b3
    · rintro ⟨b1, b2⟩
      obtain ⟨b3, b4⟩ := (th j b1).mp b2
      exact ⟨⟨b1, b3⟩, by rw [zd_left_10 b1, b4]; rfl⟩
  · obtain ⟨b1, b2⟩ := (th j hj).mp htj
    obtain ⟨c1, c2, c3, c4, c5⟩ := h3 j hj b1
    rw [wo j hj 3 (by decide), wo j hj 4 (by decide), wo j hj 5 (by decide), eL j hj]
    refine ⟨c1, c2, fun q => ?_, fun q => ?_, c5⟩
    · obtain ⟨s', d1, d2, d3⟩ := c3 q
      exact ⟨s', d1, d2, by rw [(eS s' d1).1]; exact d3⟩
    · obtain ⟨o, d1, d2, d3, d4⟩ := c4 q
      refine ⟨o, d1, d2, d3, (th o d1).mpr ⟨d4, ?_⟩⟩
      cases hg : G o with
      | false => rfl
      | true =>
        have eow : zd_ow μ j = o := by
          unfold zd_ow
          rw [d3]
          exact nI_clamp (by omega)
        have hdl : zd_dl μ j = true := decide_eq_true ⟨of_decide_eq_true b1, ⟨by rw [d3]; exact nI_pos (by omega), by rw [d3]; exact nI_ge (b := 10) d1 (by decide)⟩, by rw [eow]; exact of_decide_eq_true d4⟩
        have := hGc j hj hdl (by rw [eow]; exact hg)
        rw [b2] at this
        cases this
  · obtain ⟨c1, c2, c3⟩ := h4 q hq
    by_cases e : zd_til μ k = true ∧ q = s
    · obtain ⟨e1, e2⟩ := e
      subst e2
      obtain ⟨d1, d2, d3, d4⟩ := ht e1
      obtain ⟨o1, o2, o3, o4, o5, o6, o7⟩ := at' e1 (by omega)
      have eR : zd_clR μ Rs k q q = (Rs q).erase k := by
        unfold zd_clR zd_upd
        rw [if_pos e1]
        exact if_pos rfl
      have eTt : zd_clT μ Rs ts k q n q = if (zt_tb μ (zdT q) (Rs q) n).erase k = [] then zy_out n (ts q) else ts q := by
        unfold zd_clT zd_upd
        rw [if_pos e1]
        exact if_pos rfl
      rw [eR, eTt]
      have hnd := c1.1.1.2.1
      refine ⟨o1, fun j => ?_, fun j hj => ?_⟩
      · rw [zl_er_mem hnd, c2 j]
        constructor
        · rintro ⟨b1, b2, b3, b4⟩
          refine ⟨b2, (til j b2).mpr ⟨b3, ?_⟩, by rw [wo j b2 5 (by decide)]; exact b4⟩
          cases hg : G j with
          | false => rfl
          | true => exact absurd (hGt j b2 hg b3) b1
        · rintro ⟨b1, b2, b3⟩
          obtain ⟨b4, b5⟩ := (til j b1).mp b2
          rw [wo j b1 5 (by decide)] at b3
          exact ⟨fun e => (by rw [e, hGk] at b5; cases b5), b1, b4, b3⟩
      · have hjR := ((zl_er_mem hnd).mp hj).2
        rw [o3, o4, eL j ((c2 j).mp hjR).1]
        exact c3 j hjR
    · have eR : zd_clR μ Rs k s q = Rs q := by
        unfold zd_clR zd_upd
        by_cases c : zd_til μ k = true
        · rw [if_pos c]
          exact if_neg (fun z => e ⟨c, z⟩)
        · rw [if_neg c]
      have eTt : zd_clT μ Rs ts k s n q = ts q := by
        unfold zd_clT zd_upd
        by_cases c : zd_til μ k = true
        · rw [if_pos c]
          exact if_neg (fun z => e ⟨c, z⟩)
        · rw [if_neg c]
      rw [eR, eTt]
      have r := eT q hq e
      refine ⟨zt_C_19 r c1, fun j => ?_, fun j hj => ?_⟩
      · rw [c2 j]
        constructor
        · rintro ⟨b2, b3, b4⟩
          refine ⟨b2, (til j b2).mpr ⟨b3, ?_⟩, by rw [wo j b2 5 (by decide)]; exact b4⟩
          cases hg : G j with
          | false => rfl
          | true =>
            exfalso
            have ej := hGt j b2 hg b3
            subst ej
            exact e ⟨b3, (nI_eq (by omega) (by omega)).mp (b4.symm.trans (ht b3).1)⟩
        · rintro ⟨b1, b2, b3⟩
          obtain ⟨b4, b5⟩ := (til j b1).mp b2
          rw [wo j b1 5 (by decide)] at b3
          exact ⟨b1, b4, b3⟩
      · rw [r 5 (by omega), r 6 (by omega), eL j ((c2 j).mp hj).1]
        exact c3 j hj
  · have eR : zd_clR μ Rs k s (3 + q) = Rs (3 + q) := by
      unfold zd_clR zd_upd
      by_cases c : zd_til μ k = true
      · rw [if_pos c]
        exact if_neg (by omega)
      · rw [if_neg c]
    have eTt : zd_clT μ Rs ts k s n (3 + q) = ts (3 + q) := by
      unfold zd_clT zd_upd
      by_cases c : zd_til μ k = true
      · rw [if_pos c]
        exact if_neg (by omega)
      · rw [if_neg c]
    rw [eR, eTt]
    obtain ⟨c1, c2⟩ := h5 q hq
    refine ⟨zt_C_19 (eV q hq) c1, fun z => ?_⟩
    have hno : zd_hasg μ G 10 q = false := by
      cases hc : zd_hasg μ G 10 q with
      | false => rfl
      | true =>
        rw [ak q hq, hc, if_pos rfl] at z
        exact absurd rfl z
    rw [ak q hq, hno, if_neg (by decide)] at z
    obtain ⟨k1, k2⟩ := ktt q hq z hno
    obtain ⟨b1, b2, b3⟩ := c2 z
    refine ⟨by rw [(eS q hq).1]; exact b1, fun j hj => ?_, fun j hj hz => ?_⟩
    · have hj10 := c1.1.1.2.2 j hj
      rw [eV q hq 5 (by omega), eV q hq 6 (by omega), eL j hj10]
      exact ⟨(til j hj10).mpr ⟨(b2 j hj).1, k1 j hj⟩, (b2 j hj).2⟩
    · rw [(eS q hq).2.2] at hz
      rw [wo j hj 3 (by decide)]
      exact ⟨(th j hj).mpr ⟨(b3 j hj hz).1, k2 j hj hz⟩, (b3 j hj hz).2⟩
  · rw [(eS q hq).1] at hqt
    obtain ⟨b1, b2⟩ := h6 q hq hqt
    rw [(eS q hq).2.1]
    refine ⟨b1, ?_⟩
    by_cases e : zd_til μ k = true ∧ q = s
    · obtain ⟨e1, e2⟩ := e
      subst e2
      have eR : zd_clR μ Rs k q q = (Rs q).erase k := by
        unfold zd_clR zd_upd
        rw [if_pos e1]
        exact if_pos rfl
      have eTt : zd_clT μ Rs ts k q n q = if (zt_tb μ (zdT q) (Rs q) n).erase k = [] then zy_out n (ts q) else ts q := by
        unfold zd_clT zd_upd
        rw [if_pos e1]
        exact if_pos rfl
      rw [eR, eTt]
      exact zt_fit_out (h4 q hq).1 (zJ_sm hw hq) (ht e1).2.1 (at' e1 (by omega)) (eS q hq).2.1 b2
    · have eR : zd_clR μ Rs k s q = Rs q := by
        unfold zd_clR zd_upd
        by_cases c : zd_til μ k = true
        · rw [if_pos c]
          exact if_neg (fun z => e ⟨c, z⟩)
        · rw [if_neg c]
      have eTt : zd_clT μ Rs ts k s n q = ts q := by
        unfold zd_clT zd_upd
        by_cases c : zd_til μ k = true
        · rw [if_pos c]
          exact if_neg (fun z => e ⟨c, z⟩)
        · rw [if_neg c]
      rw [eR, eTt]
      have r := eT q hq e
      rw [zt_fit_copy (A := μ) (T := zdT q) ⟨r _ (by omega), r _ (by omega), r _ (by omega), r _ (by omega), r _ (by omega), r _ (by omega)⟩ (eS q hq).2.1]
      exact b2
end ZCM
