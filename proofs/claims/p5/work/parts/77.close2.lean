section
/-! the desk: close, whole -/
section ZCM
variable {μ ν : zm_M} {row stk : List Nat} {Rs : Nat → List Nat} {ts : Nat → zy_F}
theorem zd_left_10 {G : Nat → Bool} {j : Nat} (hj : j < 10) : zd_left G 10 j = !G j := by
  unfold zd_left
  simp [hj]
theorem zd_hasg_of {G : Nat → Bool} {j q : Nat} (hj : j < 10) (hG : G j = true) (hh : zd_has μ q j = true) : zd_hasg μ G 10 q = true := by
  unfold zd_hasg
  cases hc : zl_al (fun k => !(G k && zd_has μ q k)) 10 with
  | false => rfl
  | true =>
    have := (zl_al_iff 10).mp hc j hj
    simp [hG, hh] at this
theorem zJ_sm (h : zJ μ row stk Rs ts) {s : Nat} (hs : s < 3) : zt_sm μ (zdT s) (Rs s) := by
  intro w hw a ha
  obtain ⟨-, h2, h3⟩ := h.2.2.2.1 s hs
  obtain ⟨b1, b2, -⟩ := (h2 w).mp hw
  obtain ⟨e5, e6⟩ := h3 w hw
  obtain ⟨-, a2, -⟩ := h.2.2.1 w b1 (decide_eq_true (of_decide_eq_true b2).1)
  have key : ∀ x : Int32, 1 ≤ x → x ≤ 200 → ∃ y, y ≤ 200 ∧ x = nI y := by
    intro x q1 q2
    rcases zd_rng x 201 (by decide) with ⟨y, hy, e⟩ | q
    · exact ⟨y, by omega, e⟩
    · exfalso
      rcases q with q | q
      · exact absurd (Int32.lt_of_lt_of_le (by decide : (0 : Int32) < 1) q1) (Int32.not_lt.mpr (Int32.le_of_lt q))
      · exact absurd (Int32.le_trans q q2) (by decide)
  match a, ha with
  | 0, _ =>
    obtain ⟨y, hy, e⟩ := key _ a2.1 a2.2.1
    exact ⟨y, hy, e5.trans e⟩
  | 1, _ =>
    obtain ⟨y, hy, e⟩ := key _ a2.2.2.1 a2.2.2.2
    exact ⟨y, hy, e6.trans e⟩
/-- the tabs and nodes when the group has ended -/
noncomputable def zd_clR (μ : zm_M) (Rs : Nat → List Nat) (k s : Nat) : Nat → List Nat := if zd_til μ k = true then zd_upd Rs s ((Rs s).erase k) else Rs
noncomputable def zd_clT (μ : zm_M) (Rs : Nat → List Nat) (ts : Nat → zy_F) (k s n : Nat) : Nat → zy_F := if zd_til μ k = true then zd_upd ts s (if (zt_tb μ (zdT s) (Rs s) n).erase k = [] then zy_out n (ts s) else ts s) else ts
theorem zJ_cls (h : zJ μ row stk Rs ts) {G : Nat → Bool} {k s n : Nat} (hk : k < 10) (hs : s < 3) (hGk : G k = true) (hGt : ∀ j, j < 10 → G j = true → zd_til μ j = true → j = k) (hGc : ∀ j, j < 10 → zd_dl μ j = true → G (zd_ow μ j) = true → G j = true)
    (ht : zd_til μ k = true → μ (zdW k) 5 = nI s ∧ n ∈ zy_lvs (ts s) ∧ k ∈ Rs s ∧ μ (zdT s + 3) k = nI n) (hc : zd_cls μ ν row stk G 10 k s n (Rs s) (ts s)) : zJ ν (row.filter (zd_left G 10)) (stk.filter (zd_left G 10)) (zd_clR μ Rs k s) (zd_clT μ Rs ts k s n) := by
  obtain ⟨⟨r3, r5⟩, a2, ak, at', -, af⟩ := hc
  have hw := h
  obtain ⟨h1, h2, h3, h4, h5, h6⟩ := h
  have wo : ∀ j, j < 10 → ∀ b, b ≠ 2 → ν (zdW j) b = μ (zdW j) b := fun j hj b hb => af _ _ (by unfold zdW; omega) (by unfold zdW; omega) (by unfold zdW; omega) (by unfold zdW; omega) (by unfold zdW; omega) (fun q hq e => by unfold zdW zdK at e; omega) (fun _ _ _ => hb) (fun _ _ => zJn_out hs (Or.inr (Or.inl ⟨j, hj, Or.inl rfl⟩)))
  have eL : ∀ j, j < 10 → ν (zdW j + 1) = μ (zdW j + 1) := fun j hj => funext fun b => af _ _ (by unfold zdW; omega) (by unfold zdW; omega) (by unfold zdW; omega) (by unfold zdW; omega) (by unfold zdW; omega) (fun q hq e => by unfold zdW zdK at e; omega) (fun j' hj' e => by unfold zdW at e; omega) (fun _ _ => zJn_out hs (Or.inr (Or.inl ⟨j, hj, Or.inr rfl⟩)))
  have eV : ∀ q, q < 3 → ∀ j, j < 19 → ν (zdV q + j) = μ (zdV q + j) := fun q hq j hj => funext fun b => af _ _ (by unfold zdV; omega) (by unfold zdV; omega) (by unfold zdV; omega) (by unfold zdV; omega) (by unfold zdV; omega) (fun q hq e => by unfold zdV zdK at e; omega) (fun j' hj' e => by unfold zdV zdW at e; omega) (fun _ _ => zJn_out hs (Or.inr (Or.inr (Or.inl ⟨q, hq, Or.inr (Or.inr (Or.inr (Or.inr ⟨j, hj, rfl⟩)))⟩))))
  have eS : ∀ q, q < 3 → ν (zdS q) = μ (zdS q) ∧ ν (zdZ q) = μ (zdZ q) ∧ ν (zdQ q) = μ (zdQ q) := fun q hq => ⟨funext fun b => af _ _ (by unfold zdS; omega) (by unfold zdS; omega) (by unfold zdS; omega) (by unfold zdS; omega) (by unfold zdS; omega) (fun q hq e => by unfold zdS zdK at e; omega) (fun j' hj' e => by unfold zdS zdW at e; omega) (fun _ _ => zJn_out hs (Or.inr (Or.inr (Or.inl ⟨q, hq, Or.inl rfl⟩)))), funext fun b => af _ _ (by unfold zdZ; omega) (by unfold zdZ; omega) (by unfold zdZ; omega) (by unfold zdZ; omega) (by unfold zdZ; omega) (fun q hq e => by unfold zdZ zdK at e; omega) (fun j' hj' e => by unfold zdZ zdW at e; omega) (fun _ _ => zJn_out hs (Or.inr (Or.inr (Or.inl ⟨q, hq, Or.inr (Or.inl rfl)⟩)))), funext fun b => af _ _ (by unfold zdQ; omega) (by unfold zdQ; omega) (by unfold zdQ; omega) (by unfold zdQ; omega) (by unfold zdQ; omega) (fun q hq e => by unfold zdQ zdK at e; omega) (fun j' hj' e => by unfold zdQ zdW at e; omega) (fun _ _ => zJn_out hs (Or.inr (Or.inr (Or.inl ⟨q, hq, Or.inr (Or.inr (Or.inr (Or.inl rfl)))⟩))))⟩
  have eT : ∀ q, q < 3 → ¬ (zd_til μ k = true ∧ q = s) → ∀ j, j < 19 → ν (zdT q + j) = μ (zdT q + j) := fun q hq hno j hj => funext fun b => af _ _ (by unfold zdT; omega) (by unfold zdT; omega) (by unfold zdT; omega) (by unfold zdT; omega) (by unfold zdT; omega) (fun q hq e => by unfold zdT zdK at e; omega) (fun j' hj' e => by unfold zdT zdW at e; omega) (fun q1 _ => by
    have : q ≠ s := fun e => hno ⟨q1, e⟩
    unfold zt_out zdT
    omega)
  have th : ∀ j, j < 10 → (zd_th ν j = true ↔ (zd_th μ j = true ∧ G j = false)) := fun j hj => by
    unfold zd_th
    rw [a2 j hj, zd_left_10 hj]
    cases hg : G j with
    | true => simp
    | false => simp
  have til : ∀ j, j < 10 → (zd_til ν j = true ↔ (zd_til μ j = true ∧ G j = false)) := fun j hj => by
    unfold zd_til
    rw [a2 j hj, zd_left_10 hj, wo j hj 3 (by decide)]
    cases hg : G j with
    | true => simp
    | false => simp
  have ktt : ∀ q, q < 3 → ¬ μ (zdK q) 3 = 0 → zd_hasg μ G 10 q = false → (∀ j ∈ Rs (3 + q), G j = false) ∧ ∀ j, j < 10 → ¬ μ (zdQ q) j = 0 → G j = false := by
    intro q hq hkp hno
    obtain ⟨c1, -⟩ := h5 q hq
    constructor
    · intro j hj
      cases hg : G j with
      | false => rfl
      | true =>
        have hj10 := c1.1.1.2.2 j hj
        obtain ⟨m, hm, em⟩ := c1.1.2.2.2.1 j hj
        have hm19 := c1.1.2.1.2.2.1 m (zt_I_lv c1.1 hm).2
        have : zd_has μ q j = true := decide_eq_true ⟨hkp, Or.inr (by rw [em]; exact nI_pos (by omega))⟩
        rw [zd_hasg_of hj10 hg this] at hno
        cases hno
    · intro j hj hp
      cases hg : G j with
      | false => rfl
      | true =>
        have : zd_has μ q j = true := decide_eq_true ⟨hkp, Or.inl hp⟩
        rw [zd_hasg_of hj hg this] at hno
        cases hno
  refine ⟨⟨r3, h1.2.1.filter _, fun j => ?_⟩, ⟨r5, h2.2.1.filter _, fun j hj => h2.2.2 j (List.mem_filter.mp hj).1⟩, fun j hj htj => ?_, fun q hq => ?_, fun q hq => ?_, fun q hq hqt => ?_⟩
  · rw [List.mem_filter, h1.2.2 j]
    constructor
    · rintro ⟨⟨b1, b2⟩, b3⟩
      refine ⟨b1, (th j b1).mpr ⟨b2, ?_⟩⟩
      rw [zd_left_10 b1] at b3
      simpa using b3
    · rintro ⟨b1, b2⟩
      obtain ⟨b3, b4⟩ := (th j b1).mp b2
      exact ⟨⟨b1, b3⟩, by rw [zd_left_10 b1, b4]; rfl⟩
  · obtain ⟨b1, b2⟩ := (th j hj).mp htj
    obtain ⟨c1, c2, c3, c4, c5⟩ := h3 j hj b1
    rw [wo j hj 3 (by decide), wo j hj 4 (by decide), wo j hj 5 (by decide), eL j hj]
    refine ⟨c1, c2, fun q => ?_, fun q => ?_, c5⟩
    · obtain ⟨s', d1, d2, d3⟩ := c3 q
      exact ⟨s', d1, d2, by rw [(eS s' d1).1]; exact d3⟩
    · obtain ⟨o, d1, d2, d3, d4⟩ := c4 q
      refine ⟨o, d1, d2, d3, (th o d1).mpr ⟨d4, ?_⟩⟩
      cases hg : G o with
      | false => rfl
      | true =>
        have eow : zd_ow μ j = o := by
          unfold zd_ow
          rw [d3]
          exact nI_clamp (by omega)
        have hdl : zd_dl μ j = true := decide_eq_true ⟨of_decide_eq_true b1, ⟨by rw [d3]; exact nI_pos (by omega), by rw [d3]; exact nI_ge (b := 10) d1 (by decide)⟩, by rw [eow]; exact of_decide_eq_true d4⟩
        have := hGc j hj hdl (by rw [eow]; exact hg)
        rw [b2] at this
        cases this
  · obtain ⟨c1, c2, c3⟩ := h4 q hq
    by_cases e : zd_til μ k = true ∧ q = s
    · obtain ⟨e1, e2⟩ := e
      subst e2
      obtain ⟨d1, d2, d3, d4⟩ := ht e1
      obtain ⟨o1, o2, o3, o4, o5, o6, o7⟩ := at' e1 (by omega)
      have eR : zd_clR μ Rs k q q = (Rs q).erase k := by
        unfold zd_clR zd_upd
        rw [if_pos e1]
        exact if_pos rfl
      have eTt : zd_clT μ Rs ts k q n q = if (zt_tb μ (zdT q) (Rs q) n).erase k = [] then zy_out n (ts q) else ts q := by
        unfold zd_clT zd_upd
        rw [if_pos e1]
        exact if_pos rfl
      rw [eR, eTt]
      have hnd := c1.1.1.2.1
      refine ⟨o1, fun j => ?_, fun j hj => ?_⟩
      · rw [zl_er_mem hnd, c2 j]
        constructor
        · rintro ⟨b1, b2, b3, b4⟩
          refine ⟨b2, (til j b2).mpr ⟨b3, ?_⟩, by rw [wo j b2 5 (by decide)]; exact b4⟩
          cases hg : G j with
          | false => rfl
          | true => exact absurd (hGt j b2 hg b3) b1
        · rintro ⟨b1, b2, b3⟩
          obtain ⟨b4, b5⟩ := (til j b1).mp b2
          rw [wo j b1 5 (by decide)] at b3
          exact ⟨fun e => (by rw [e, hGk] at b5; cases b5), b1, b4, b3⟩
      · have hjR := ((zl_er_mem hnd).mp hj).2
        rw [o3, o4, eL j ((c2 j).mp hjR).1]
        exact c3 j hjR
    · have eR : zd_clR μ Rs k s q = Rs q := by
        unfold zd_clR zd_upd
        by_cases c : zd_til μ k = true
        · rw [if_pos c]
          exact if_neg (fun z => e ⟨c, z⟩)
        · rw [if_neg c]
      have eTt : zd_clT μ Rs ts k s n q = ts q := by
        unfold zd_clT zd_upd
        by_cases c : zd_til μ k = true
        · rw [if_pos c]
          exact if_neg (fun z => e ⟨c, z⟩)
        · rw [if_neg c]
      rw [eR, eTt]
      have r := eT q hq e
      refine ⟨zt_C_19 r c1, fun j => ?_, fun j hj => ?_⟩
      · rw [c2 j]
        constructor
        · rintro ⟨b2, b3, b4⟩
          refine ⟨b2, (til j b2).mpr ⟨b3, ?_⟩, by rw [wo j b2 5 (by decide)]; exact b4⟩
          cases hg : G j with
          | false => rfl
          | true =>
            exfalso
            have ej := hGt j b2 hg b3
            subst ej
            exact e ⟨b3, (nI_eq (by omega) (by omega)).mp (b4.symm.trans (ht b3).1)⟩
        · rintro ⟨b1, b2, b3⟩
          obtain ⟨b4, b5⟩ := (til j b1).mp b2
          rw [wo j b1 5 (by decide)] at b3
          exact ⟨b1, b4, b3⟩
      · rw [r 5 (by omega), r 6 (by omega), eL j ((c2 j).mp hj).1]
        exact c3 j hj
  · have eR : zd_clR μ Rs k s (3 + q) = Rs (3 + q) := by
      unfold zd_clR zd_upd
      by_cases c : zd_til μ k = true
      · rw [if_pos c]
        exact if_neg (by omega)
      · rw [if_neg c]
    have eTt : zd_clT μ Rs ts k s n (3 + q) = ts (3 + q) := by
      unfold zd_clT zd_upd
      by_cases c : zd_til μ k = true
      · rw [if_pos c]
        exact if_neg (by omega)
      · rw [if_neg c]
    rw [eR, eTt]
    obtain ⟨c1, c2⟩ := h5 q hq
    refine ⟨zt_C_19 (eV q hq) c1, fun z => ?_⟩
    have hno : zd_hasg μ G 10 q = false := by
      cases hc : zd_hasg μ G 10 q with
      | false => rfl
      | true =>
        rw [ak q hq, hc, if_pos rfl] at z
        exact absurd rfl z
    rw [ak q hq, hno, if_neg (by decide)] at z
    obtain ⟨k1, k2⟩ := ktt q hq z hno
    obtain ⟨b1, b2, b3⟩ := c2 z
    refine ⟨by rw [(eS q hq).1]; exact b1, fun j hj => ?_, fun j hj hz => ?_⟩
    · have hj10 := c1.1.1.2.2 j hj
      rw [eV q hq 5 (by omega), eV q hq 6 (by omega), eL j hj10]
      exact ⟨(til j hj10).mpr ⟨(b2 j hj).1, k1 j hj⟩, (b2 j hj).2⟩
    · rw [(eS q hq).2.2] at hz
      rw [wo j hj 3 (by decide)]
      exact ⟨(th j hj).mpr ⟨(b3 j hj hz).1, k2 j hj hz⟩, (b3 j hj hz).2⟩
  · rw [(eS q hq).1] at hqt
    obtain ⟨b1, b2⟩ := h6 q hq hqt
    rw [(eS q hq).2.1]
    refine ⟨b1, ?_⟩
    by_cases e : zd_til μ k = true ∧ q = s
    · obtain ⟨e1, e2⟩ := e
      subst e2
      have eR : zd_clR μ Rs k q q = (Rs q).erase k := by
        unfold zd_clR zd_upd
        rw [if_pos e1]
        exact if_pos rfl
      have eTt : zd_clT μ Rs ts k q n q = if (zt_tb μ (zdT q) (Rs q) n).erase k = [] then zy_out n (ts q) else ts q := by
        unfold zd_clT zd_upd
        rw [if_pos e1]
        exact if_pos rfl
      rw [eR, eTt]
      exact zt_fit_out (h4 q hq).1 (zJ_sm hw hq) (ht e1).2.1 (at' e1 (by omega)) (eS q hq).2.1 b2
    · have eR : zd_clR μ Rs k s q = Rs q := by
        unfold zd_clR zd_upd
        by_cases c : zd_til μ k = true
        · rw [if_pos c]
          exact if_neg (fun z => e ⟨c, z⟩)
        · rw [if_neg c]
      have eTt : zd_clT μ Rs ts k s n q = ts q := by
        unfold zd_clT zd_upd
        by_cases c : zd_til μ k = true
        · rw [if_pos c]
          exact if_neg (fun z => e ⟨c, z⟩)
        · rw [if_neg c]
      rw [eR, eTt]
      have r := eT q hq e
      rw [zt_fit_copy (A := μ) (T := zdT q) ⟨r _ (by omega), r _ (by omega), r _ (by omega), r _ (by omega), r _ (by omega), r _ (by omega)⟩ (eS q hq).2.1]
      exact b2
end ZCM
end
section
/-! the desk: close, run -/
section ZCN
variable {μ ν : zm_M} {row stk : List Nat} {Rs : Nat → List Nat} {ts : Nat → zy_F}
/-- the window k and its dialogs -/
noncomputable def zd_grp (μ : zm_M) (k : Nat) : Nat → Bool := zl_spn (zd_dl μ) (zd_ow μ) (fun j => decide (j = k)) 10
theorem zd_grp_k {k : Nat} : zd_grp μ k k = true := zl_spn_mono 10 k (decide_eq_true rfl)
theorem zd_grp_dl (h : zJ μ row stk Rs ts) {k j : Nat} (hj : j < 10) (hg : zd_grp μ k j = true) : j = k ∨ (zd_th μ j = true ∧ μ (zdW j) 3 = 3) := by
  rcases zl_spn_or 10 j hg with q | q
  · exact Or.inl (of_decide_eq_true q)
  · right
    obtain ⟨q1, ⟨q2, -⟩, -⟩ := of_decide_eq_true q
    have ht : zd_th μ j = true := decide_eq_true q1
    refine ⟨ht, ?_⟩
    by_cases c : μ (zdW j) 3 = 3
    · exact c
    · obtain ⟨-, -, -, -, a5⟩ := h.2.2.1 j hj ht
      rw [a5 c] at q2
      exact absurd (by decide) q2
theorem zd_grp_til (h : zJ μ row stk Rs ts) {k j : Nat} (hj : j < 10) (hg : zd_grp μ k j = true) (ht : zd_til μ j = true) : j = k := by
  rcases zd_grp_dl h hj hg with e | ⟨-, e⟩
  · exact e
  · have := (of_decide_eq_true ht).2
    rw [e] at this
    exact absurd this (by decide)
set_option maxRecDepth 100000 in
theorem ze_close_no (D : Nat) {w : Int32} (E : ze_E (D + 1) A_Desk_isWindow [.ref 1, .int w] (zm_mk μ) (some (.int 0)) (zm_mk μ)) : ze_E (D + 2) A_Desk_close [.ref 1, .int w] (zm_mk μ) (some (.int (-1000000001))) (zm_mk μ) := by
  have n4 : Int32.ofInt (-1000000001) = -1000000001 := by decide
  obtain ⟨N1, E1⟩ := E
  refine ze_in [(0, .ref 1), (1, .int w)] zq_Desk_close (Nat.le_of_ble_eq_true rfl) rfl ⟨N1, 6, fun F n hF => ?_⟩
  simp [zg_0, zg_aload_n, zg_baload, zg_bipush, zg_getfield, zg_goto, zg_iconst, zg_ifCond, zg_if_icmp, zg_iinc, zg_iload_n, zg_invokevirtual, zg_ireturn, zg_istore_n, zg_ldc, zf_X5_close, zi_ld, zi_lda, zi_cmp, zi_retOk, zi_isI, zi_f3, zi_cr, zi_ci, zi_cn, zi_get, zi_set, zq_Desk_isWindow, zd_c, E1 F (by omega), n4]
set_option maxRecDepth 100000 in
theorem ze_close (D : Nat) (h : zJ μ row stk Rs ts) {k : Nat} (hk : k < 10) (ht : zd_th μ k = true) : ∃ ν r s n, s < 3 ∧ (zd_til μ k = true → μ (zdW k) 5 = nI s ∧ n ∈ zy_lvs (ts s) ∧ k ∈ Rs s ∧ μ (zdT s + 3) k = nI n) ∧ ze_E (D + 6) A_Desk_close [.ref 1, .int (nI k)] (zm_mk μ) (some (.int r)) (zm_mk ν) ∧ zJ ν (row.filter (zd_left (zd_grp μ k) 10)) (stk.filter (zd_left (zd_grp μ k) 10)) (zd_clR μ Rs k s) (zd_clT μ Rs ts k s n) ∧ zd_cls μ ν row stk (zd_grp μ k) 10 k s n (Rs s) (ts s) := by
  have h10 : (Int8.ofInt 10).toInt32 = (10 : Int32) := by decide
  obtain ⟨N1, E1⟩ := ze_thW (μ := μ) (D + 4) hk
  rw [if_pos ht] at E1
  obtain ⟨ν0, ⟨N2, E2⟩, f0, g0'⟩ := ze_gatherWithDialogs (μ := μ) (D + 2) hk
  have g0' : zd_gr ν0 (zd_grp μ k) := g0'
  obtain ⟨s, n, hs, hsn⟩ : ∃ s n, s < 3 ∧ (zd_til μ k = true → μ (zdW k) 5 = nI s ∧ n ∈ zy_lvs (ts s) ∧ k ∈ Rs s ∧ μ (zdT s + 3) k = nI n) := by
    by_cases c : zd_til μ k = true
    · obtain ⟨s, hs, e, hR, n, hn, en⟩ := zJ_til h hk c
      exact ⟨s, n, hs, fun _ => ⟨e, hn, hR, en⟩⟩
    · exact ⟨0, 0, by decide, fun q => absurd q c⟩
  have hsn' : zd_til μ k = true → μ (zdW k) 5 = nI s ∧ zt_I μ (zdT s) (Rs s) (ts s) ∧ n ∈ zy_lvs (ts s) ∧ k ∈ Rs s ∧ μ (zdT s + 3) k = nI n := fun q => ⟨(hsn q).1, (h.2.2.2.1 s hs).1.1, (hsn q).2⟩
  have hl0 : zd_left (zd_grp μ k) 0 = fun _ => true := by
    funext j
    unfold zd_left
    simp
  have hrl : ∀ l : List Nat, l.filter (fun _ => true) = l := fun l => List.filter_eq_self.mpr (fun _ _ => rfl)
  have hc0 : zd_cls μ ν0 row stk (zd_grp μ k) 0 k s n (Rs s) (ts s) := by
    unfold zd_cls
    rw [hl0, hrl, hrl]
    refine ⟨⟨zr_L_congr (f0 _ (by decide)) (f0 _ (by decide)) h.1.1, zr_L_congr (f0 _ (by decide)) (f0 _ (by decide)) h.2.1.1⟩, fun j hj => ?_, fun q hq => ?_, fun _ q => absurd q (by omega), g0', fun c b _ _ _ _ c31 _ _ _ => by rw [f0 c c31]⟩
    · rw [if_pos rfl, f0 _ (by unfold zdW; omega)]
    · rw [f0 _ (by unfold zdK; omega)]
      rfl
  have hrb : ∀ j ∈ row, j < 10 := fun j hj => ((h.1.2.2 j).mp hj).1
  have key : ∃ r h', ze_G (D + 5) 4 (some .int) zc_X5_close 20 [(3, .int (nI 0)), (2, .int 0), (0, .ref 1), (1, .int (nI k))] [] (zm_mk ν0) r h' ∧ ((∃ v, r = some (.int v)) ∧ ∃ ν, zm_mk ν = h' ∧ zd_cls μ ν row stk (zd_grp μ k) 10 k s n (Rs s) (ts s)) := by
    refine ze_loop (Q := fun i L hp => i ≤ 10 ∧ zi_nl L = true ∧ zi_get L 0 = some (.ref 1) ∧ zi_get L 3 = some (.int (nI i)) ∧ ∃ ξ : zm_M, zm_mk ξ = hp ∧ (zd_cls μ ξ row stk (zd_grp μ k) i k s n (Rs s) (ts s)) ∧ ∃ (v : Int32), zi_get L 2 = some (.int v) ∧ (True)) (R := fun r h' => (∃ v, r = some (.int v)) ∧ ∃ ν, zm_mk ν = h' ∧ zd_cls μ ν row stk (zd_grp μ k) 10 k s n (Rs s) (ts s)) 10 ?_ ?_ 10 0 _ _ (by omega) ⟨by omega, rfl, rfl, rfl, ν0, rfl, hc0, 0, rfl, trivial⟩
    · rintro i L _ hi ⟨-, nl, g0, g3, ξ, rfl, hZ, v, g2, hq⟩
      have c1 : ¬ (10 : Int32) ≤ nI i := nI_ge (b := 10) hi (by decide)
      have i1 : zi_in (nI i) 10 = true := zm_in hi (by decide)
      have e1 : (nI i).toNatClampNeg = i := nI_clamp (by omega)
      have hgi := hZ.2.2.2.2.1 i hi
      by_cases c2 : zd_grp μ k i = true
      · rw [if_pos c2] at hgi
        obtain ⟨ξ', ⟨M1, F1⟩, hZ'⟩ := zd_cls_s D hi hs c2 (fun q1 q2 => zd_grp_til h hi q1 q2) h.1.2.1 h.2.1.2.1 hrb h.2.1.2.2 hsn' hZ
        left
        refine ⟨zi_set (zi_set L 2 (.int (v + 1))) 3 (.int (nI (i + 1))), zm_mk ξ', ⟨M1, 14, fun F m hF => ?_⟩, by omega, ?_, ?_, zi_get_set_eq, ξ', rfl, hZ', v + 1, ?_, trivial⟩
        · simp (maxDischargeDepth := 9) [zg_0, zg_aload_n, zg_baload, zg_bipush, zg_getfield, zg_goto, zg_iconst, zg_ifCond, zg_if_icmp, zg_iinc, zg_iload_n, zg_invokevirtual, zg_ireturn, zg_istore_n, zg_ldc, zf_X5_close, zi_ld, zi_lda, zi_cmp, zi_retOk, zi_isI, zi_f3, zi_cr, zi_ci, zi_cn, zi_get_ne, zi_nl_i, zi_nl_r, zi_get_set_eq, nl, g0, g3, g2, h10, c1, zd_g, zm_bald zd31_A i1, e1, hgi, zq_Desk_end, zd_c, F1 F (by omega), nI_1]
        · simp (maxDischargeDepth := 9) [zi_get_ne, zi_nl_i, zi_nl_r, zi_get_set_eq, nl]
        · simp (maxDischargeDepth := 9) [zi_get_ne, zi_nl_i, zi_nl_r, zi_get_set_eq, nl, g0]
        · simp (maxDischargeDepth := 9) [zi_get_ne, zi_nl_i, zi_nl_r, zi_get_set_eq, nl, g2]
      · rw [if_neg c2] at hgi
        have M1 : Nat := 0
        have c2' : zd_grp μ k i = false := by simpa using c2
        have hZ' : zd_cls μ ξ row stk (zd_grp μ k) (i + 1) k s n (Rs s) (ts s) := by
          obtain ⟨z1, z2, z3, z4, z5, z6⟩ := hZ
          have hki : i ≠ k := fun e => by rw [e, zd_grp_k] at c2'; cases c2'
          unfold zd_cls
          rw [zd_left_n c2']
          refine ⟨z1, z2, fun q hq => ?_, fun q1 q2 => z4 q1 (by omega), z5, fun c b a1 a2 a3 a4 a5 a6 a7 a8 => z6 c b a1 a2 a3 a4 a5 a6 a7 (fun q1 q2 => a8 q1 (by omega))⟩
          rw [zd_hasg_s, c2', Bool.false_and, Bool.or_false]
          exact z3 q hq
        left
        refine ⟨zi_set L 3 (.int (nI (i + 1))), zm_mk ξ, ⟨M1, 10, fun F m hF => ?_⟩, by omega, ?_, ?_, zi_get_set_eq, ξ, rfl, hZ', v, ?_, trivial⟩
        · simp (maxDischargeDepth := 9) [zg_0, zg_aload_n, zg_baload, zg_bipush, zg_getfield, zg_goto, zg_iconst, zg_ifCond, zg_if_icmp, zg_iinc, zg_iload_n, zg_invokevirtual, zg_ireturn, zg_istore_n, zg_ldc, zf_X5_close, zi_ld, zi_lda, zi_cmp, zi_retOk, zi_isI, zi_f3, zi_cr, zi_ci, zi_cn, zi_get_ne, zi_nl_i, zi_nl_r, zi_get_set_eq, nl, g0, g3, g2, h10, c1, zd_g, zm_bald zd31_A i1, e1, hgi, nI_1]
        · simp (maxDischargeDepth := 9) [zi_get_ne, zi_nl_i, zi_nl_r, zi_get_set_eq, nl]
        · simp (maxDischargeDepth := 9) [zi_get_ne, zi_nl_i, zi_nl_r, zi_get_set_eq, nl, g0]
        · simp (maxDischargeDepth := 9) [zi_get_ne, zi_nl_i, zi_nl_r, zi_get_set_eq, nl, g2]
    · rintro L _ ⟨-, nl, g0, g3, ξ, rfl, hZ, v, g2, hq⟩
      have c1 : (10 : Int32) ≤ nI 10 := by decide
      refine ⟨some (.int v), zm_mk ξ, ⟨0, 5, fun F m hF => ?_⟩, ⟨v, rfl⟩, ξ, rfl, hZ⟩
      simp [zg_0, zg_aload_n, zg_baload, zg_bipush, zg_getfield, zg_goto, zg_iconst, zg_ifCond, zg_if_icmp, zg_iinc, zg_iload_n, zg_invokevirtual, zg_ireturn, zg_istore_n, zg_ldc, zf_X5_close, zi_ld, zi_lda, zi_cmp, zi_retOk, zi_isI, zi_f3, zi_cr, zi_ci, zi_cn, g0, g2, g3, h10, c1]
  obtain ⟨r, h', G, ⟨v, rfl⟩, ν, rfl, hZ⟩ := key
  refine ⟨ν, v, s, n, hs, hsn, ze_in [(0, .ref 1), (1, .int (nI k))] zq_Desk_close (Nat.le_of_ble_eq_true rfl) rfl (ze_S.end (p2 := 20) (L2 := [(3, .int (nI 0)), (2, .int 0), (0, .ref 1), (1, .int (nI k))]) (s2 := []) (h2 := zm_mk ν0) ⟨N1 + N2, 11, fun F m hF => ?_⟩ G), ?_, hZ⟩
  · simp [zg_0, zg_aload_n, zg_baload, zg_bipush, zg_getfield, zg_goto, zg_iconst, zg_ifCond, zg_if_icmp, zg_iinc, zg_iload_n, zg_invokevirtual, zg_ireturn, zg_istore_n, zg_ldc, zf_X5_close, zi_ld, zi_lda, zi_cmp, zi_retOk, zi_isI, zi_f3, zi_cr, zi_ci, zi_cn, zi_get, zi_set, zq_Desk_isWindow, zd_c, E1 F (by omega), zq_Desk_gatherWithDialogs, E2 F (by omega), nI_0]
  · exact zJ_cls h hk hs zd_grp_k (fun j hj q1 q2 => zd_grp_til h hj q1 q2) (zl_spn_cl hk (decide_eq_true rfl)) hsn hZ
end ZCN
end
section
/-! a drag keeps what holds -/
section ZDJ
variable {μ ν : zm_M} {row stk : List Nat} {Rs : Nat → List Nat} {ts : Nat → zy_F}
/-- the tabs and nodes behind a drag of k from the screen a to b -/
noncomputable def zd_drR (Rs : Nat → List Nat) (k a b : Nat) (R2 : List Nat) : Nat → List Nat := fun q => if q = b then R2 else if q = a then (Rs a).erase k else Rs q
noncomputable def zd_drT (μ : zm_M) (Rs : Nat → List Nat) (ts : Nat → zy_F) (k a b n : Nat) (t2 : zy_F) : Nat → zy_F := fun q => if q = b then t2 else if q = a then (if (zt_tb μ (zdT a) (Rs a) n).erase k = [] then zy_out n (ts a) else ts a) else ts q
theorem zJ_drag (h : zJ μ row stk Rs ts) {k a b n : Nat} (hk : k < 10) (ha : a < 3) (hb : b < 3) (hbt : ¬ μ (zdS b) 3 = 0) (ht : zd_til μ k = true) (hsa : μ (zdW k) 5 = nI a) (hn : n ∈ zy_lvs (ts a)) {G : Nat → Bool} (hGk : G k = true) (hGt : ∀ j, j < 10 → G j = true → zd_til μ j = true → j = k) {R2 : List Nat} {t2 : zy_F}
    (f : ∀ c d, ¬ zJ_irr c → zt_out (zdT a) c → zt_out (zdT b) c → (∀ q, q < 3 → c = zdK q → d ≠ 3) → (∀ j, j < 10 → c = zdW j → d ≠ 5) → ν c d = μ c d) (fK : ∀ q, q < 3 → ν (zdK q) 3 = if zd_has μ q k = true then 0 else μ (zdK q) 3)
    (f5 : ∀ j, j < 10 → ν (zdW j) 5 = if ¬ a = b ∧ G j = true then nI b else μ (zdW j) 5) (hO : ¬ a = b → zt_isOut μ (zdT a) (Rs a) (ts a) n k ν (zdT a)) (hC : zt_C ν (zdT b) R2 t2) (hR2 : ∀ j, j ∈ R2 ↔ (j ∈ Rs b ∨ j = k)) (h5 : ∀ j ∈ R2, ν (zdT b + 5) j = μ (zdW j + 1) 0 ∧ ν (zdT b + 6) j = μ (zdW j + 1) 1) (hfit : zt_fit ν (zdT b) (zdZ b) R2 t2 = true) :
    zJ ν row stk (zd_drR Rs k a b R2) (zd_drT μ Rs ts k a b n t2) := by
  have hw := h
  obtain ⟨h1, h2, h3, h4, h6, h7⟩ := h
  have wo : ∀ j, j < 10 → ∀ d, d ≠ 5 → ν (zdW j) d = μ (zdW j) d := fun j hj d hd => f _ _ (zJn_W hj).1 (zJn_out ha (Or.inr (Or.inl ⟨j, hj, Or.inl rfl⟩))) (zJn_out hb (Or.inr (Or.inl ⟨j, hj, Or.inl rfl⟩))) (fun q hq e => by unfold zdW zdK at e; omega) (fun _ _ _ => hd)
  have eL : ∀ j, j < 10 → ν (zdW j + 1) = μ (zdW j + 1) := fun j hj => funext fun d => f _ _ (zJn_W hj).2 (zJn_out ha (Or.inr (Or.inl ⟨j, hj, Or.inr rfl⟩))) (zJn_out hb (Or.inr (Or.inl ⟨j, hj, Or.inr rfl⟩))) (fun q hq e => by unfold zdW zdK at e; omega) (fun j' hj' e => by unfold zdW at e; omega)
  have eV : ∀ q, q < 3 → ∀ j, j < 19 → ν (zdV q + j) = μ (zdV q + j) := fun q hq j hj => funext fun d => f _ _ (zJn_T hq hj).2 (zJn_out ha (Or.inr (Or.inr (Or.inl ⟨q, hq, Or.inr (Or.inr (Or.inr (Or.inr ⟨j, hj, rfl⟩)))⟩)))) (zJn_out hb (Or.inr (Or.inr (Or.inl ⟨q, hq, Or.inr (Or.inr (Or.inr (Or.inr ⟨j, hj, rfl⟩)))⟩)))) (fun q hq e => by unfold zdV zdK at e; omega) (fun j' hj' e => by unfold zdV zdW at e; omega)
  have eS : ∀ q, q < 3 → ν (zdS q) = μ (zdS q) ∧ ν (zdZ q) = μ (zdZ q) ∧ ν (zdQ q) = μ (zdQ q) := fun q hq => ⟨funext fun d => f _ _ (zJn_S hq).1 (zJn_out ha (Or.inr (Or.inr (Or.inl ⟨q, hq, Or.inl rfl⟩)))) (zJn_out hb (Or.inr (Or.inr (Or.inl ⟨q, hq, Or.inl rfl⟩)))) (fun q hq e => by unfold zdS zdK at e; omega) (fun j' hj' e => by unfold zdS zdW at e; omega), funext fun d => f _ _ (zJn_S hq).2.1 (zJn_out ha (Or.inr (Or.inr (Or.inl ⟨q, hq, Or.inr (Or.inl rfl)⟩)))) (zJn_out hb (Or.inr (Or.inr (Or.inl ⟨q, hq, Or.inr (Or.inl rfl)⟩)))) (fun q hq e => by unfold zdZ zdK at e; omega) (fun j' hj' e => by unfold zdZ zdW at e; omega), funext fun d => f _ _ (zJn_S hq).2.2.2 (zJn_out ha (Or.inr (Or.inr (Or.inl ⟨q, hq, Or.inr (Or.inr (Or.inr (Or.inl rfl)))⟩)))) (zJn_out hb (Or.inr (Or.inr (Or.inl ⟨q, hq, Or.inr (Or.inr (Or.inr (Or.inl rfl)))⟩)))) (fun q hq e => by unfold zdQ zdK at e; omega) (fun j' hj' e => by unfold zdQ zdW at e; omega)⟩
  have e0 : ∀ c, c < 7 → ν c = μ c := fun c hc => funext fun d => f _ _ (zJn_0 hc) (zJn_out ha (Or.inl hc)) (zJn_out hb (Or.inl hc)) (fun q hq e => by unfold zdK at e; omega) (fun j' hj' e => by unfold zdW at e; omega)
  have eT : ∀ q, q < 3 → q ≠ a → q ≠ b → ∀ j, j < 19 → ν (zdT q + j) = μ (zdT q + j) := fun q hq n1 n2 j hj => funext fun d => f _ _ (zJn_T hq hj).1 (by unfold zt_out zdT; omega) (by unfold zt_out zdT; omega) (fun q hq e => by unfold zdT zdK at e; omega) (fun j' hj' e => by unfold zdT zdW at e; omega)
  have th : ∀ j, j < 10 → zd_th ν j = zd_th μ j := fun j hj => by unfold zd_th; rw [wo j hj 2 (by decide)]
  have til : ∀ j, j < 10 → zd_til ν j = zd_til μ j := fun j hj => by unfold zd_til; rw [wo j hj 2 (by decide), wo j hj 3 (by decide)]
  have scr : ∀ j, j < 10 → zd_til μ j = true → j ≠ k → ν (zdW j) 5 = μ (zdW j) 5 := fun j hj q hne => by
    rw [f5 j hj, if_neg (fun z => hne (hGt j hj z.2 q))]
  have scrk : ν (zdW k) 5 = nI b := by
    rw [f5 k hk]
    by_cases e : a = b
    · rw [if_neg (fun z => z.1 e), hsa, e]
    · rw [if_pos ⟨e, hGk⟩]
  have inj3 : ∀ {x y : Nat}, x < 3 → y < 3 → nI x = nI y → x = y := fun hx hy e => (nI_eq (by omega) (by omega)).mp e
  refine ⟨⟨zr_L_congr (e0 _ (by decide)) (e0 _ (by decide)) h1.1, h1.2.1, fun j => ?_⟩, ⟨zr_L_congr (e0 _ (by decide)) (e0 _ (by decide)) h2.1, h2.2⟩, fun j hj htj => ?_, fun q hq => ?_, fun q hq => ?_, fun q hq hqt => ?_⟩
  · rw [h1.2.2 j]
    constructor
    · rintro ⟨x, y⟩
      exact ⟨x, by rw [th j x]; exact y⟩
    · rintro ⟨x, y⟩
      exact ⟨x, by rw [← th j x]; exact y⟩
  · rw [th j hj] at htj
    obtain ⟨c1, c2, c3, c4, c5⟩ := h3 j hj htj
    rw [wo j hj 3 (by decide), wo j hj 4 (by decide), eL j hj]
    refine ⟨c1, c2, fun q => ?_, fun q => ?_, c5⟩
    · rw [f5 j hj]
      by_cases e : ¬ a = b ∧ G j = true
      · rw [if_pos e]
        exact ⟨b, hb, rfl, by rw [(eS b hb).1]; exact hbt⟩
      · rw [if_neg e]
        obtain ⟨s', d1, d2, d3⟩ := c3 q
        exact ⟨s', d1, d2, by rw [(eS s' d1).1]; exact d3⟩
    · obtain ⟨o, d1, d2, d3, d4⟩ := c4 q
      exact ⟨o, d1, d2, d3, by rw [th o d1]; exact d4⟩
  · obtain ⟨c1, c2, c3⟩ := h4 q hq
    by_cases e : q = b
    · subst e
      have eR : zd_drR Rs k a q R2 q = R2 := if_pos rfl
      have eTt : zd_drT μ Rs ts k a q n t2 q = t2 := if_pos rfl
      rw [eR, eTt]
      refine ⟨hC, fun j => ?_, fun j hj => ?_⟩
      · rw [hR2 j]
        constructor
        · intro z
          by_cases ej : j = k
          · subst ej
            exact ⟨hk, by rw [til j hk]; exact ht, scrk⟩
          · obtain ⟨d1, d2, d3⟩ := (c2 j).mp (z.resolve_right ej)
            exact ⟨d1, by rw [til j d1]; exact d2, by rw [scr j d1 d2 ej]; exact d3⟩
        · rintro ⟨d1, d2, d3⟩
          by_cases ej : j = k
          · exact Or.inr ej
          · rw [til j d1] at d2
            rw [scr j d1 d2 ej] at d3
            exact Or.inl ((c2 j).mpr ⟨d1, d2, d3⟩)
      · have hj10 : j < 10 := hC.1.1.2.2 j hj
        rw [eL j hj10]
        exact h5 j hj
    · by_cases e2 : q = a
      · subst e2
        have hab : ¬ q = b := e
        obtain ⟨o1, o2, o3, o4, o5, o6, o7⟩ := hO hab
        have eR : zd_drR Rs k q b R2 q = (Rs q).erase k := by
          unfold zd_drR
          rw [if_neg e, if_pos rfl]
        have eTt : zd_drT μ Rs ts k q b n t2 q = if (zt_tb μ (zdT q) (Rs q) n).erase k = [] then zy_out n (ts q) else ts q := by
          unfold zd_drT
          rw [if_neg e, if_pos rfl]
        rw [eR, eTt]
        have hnd := c1.1.1.2.1
        refine ⟨o1, fun j => ?_, fun j hj => ?_⟩
        · rw [zl_er_mem hnd, c2 j]
          constructor
          · rintro ⟨d0, d1, d2, d3⟩
            exact ⟨d1, by rw [til j d1]; exact d2, by rw [scr j d1 d2 d0]; exact d3⟩
          · rintro ⟨d1, d2, d3⟩
            rw [til j d1] at d2
            have ej : j ≠ k := fun ej => by
              rw [ej, scrk] at d3
              exact e (inj3 hq hb d3.symm)
            rw [scr j d1 d2 ej] at d3
            exact ⟨ej, d1, d2, d3⟩
        · have hjR := ((zl_er_mem hnd).mp hj).2
          rw [o3, o4, eL j ((c2 j).mp hjR).1]
          exact c3 j hjR
      · have eR : zd_drR Rs k a b R2 q = Rs q := by
          unfold zd_drR
          rw [if_neg e, if_neg e2]
        have eTt : zd_drT μ Rs ts k a b n t2 q = ts q := by
          unfold zd_drT
          rw [if_neg e, if_neg e2]
        rw [eR, eTt]
        have r := eT q hq e2 e
        refine ⟨zt_C_19 r c1, fun j => ?_, fun j hj => ?_⟩
        · rw [c2 j]
          constructor
          · rintro ⟨d1, d2, d3⟩
            have ej : j ≠ k := fun ej => by
              rw [ej, hsa] at d3
              exact e2 (inj3 hq ha d3.symm)
            exact ⟨d1, by rw [til j d1]; exact d2, by rw [scr j d1 d2 ej]; exact d3⟩
          · rintro ⟨d1, d2, d3⟩
            rw [til j d1] at d2
            have ej : j ≠ k := fun ej => by
              rw [ej, scrk] at d3
              exact e (inj3 hq hb d3.symm)
            rw [scr j d1 d2 ej] at d3
            exact ⟨d1, d2, d3⟩
        · rw [r 5 (by omega), r 6 (by omega), eL j ((c2 j).mp hj).1]
          exact c3 j hj
  · have eR : zd_drR Rs k a b R2 (3 + q) = Rs (3 + q) := by
      unfold zd_drR
      rw [if_neg (by omega), if_neg (by omega)]
    have eTt : zd_drT μ Rs ts k a b n t2 (3 + q) = ts (3 + q) := by
      unfold zd_drT
      rw [if_neg (by omega), if_neg (by omega)]
    rw [eR, eTt]
    obtain ⟨c1, c2⟩ := h6 q hq
    refine ⟨zt_C_19 (eV q hq) c1, fun z => ?_⟩
    have z' : ¬ μ (zdK q) 3 = 0 := fun e => z (by rw [fK q hq, e]; split <;> rfl)
    obtain ⟨b1, b2, b3⟩ := c2 z'
    refine ⟨by rw [(eS q hq).1]; exact b1, fun j hj => ?_, fun j hj hz => ?_⟩
    · have hj10 := c1.1.1.2.2 j hj
      rw [eV q hq 5 (by omega), eV q hq 6 (by omega), eL j hj10, til j hj10]
      exact b2 j hj
    · rw [(eS q hq).2.2] at hz
      rw [th j hj, wo j hj 3 (by decide)]
      exact b3 j hj hz
  · rw [(eS q hq).1] at hqt
    obtain ⟨b1, b2⟩ := h7 q hq hqt
    rw [(eS q hq).2.1]
    refine ⟨b1, ?_⟩
    by_cases e : q = b
    · subst e
      have eR : zd_drR Rs k a q R2 q = R2 := if_pos rfl
      have eTt : zd_drT μ Rs ts k a q n t2 q = t2 := if_pos rfl
      rw [eR, eTt]
      exact hfit
    · by_cases e2 : q = a
      · subst e2
        have eR : zd_drR Rs k q b R2 q = (Rs q).erase k := by
          unfold zd_drR
          rw [if_neg e, if_pos rfl]
        have eTt : zd_drT μ Rs ts k q b n t2 q = if (zt_tb μ (zdT q) (Rs q) n).erase k = [] then zy_out n (ts q) else ts q := by
          unfold zd_drT
          rw [if_neg e, if_pos rfl]
        rw [eR, eTt]
        exact zt_fit_out (h4 q hq).1 (zJ_sm hw hq) hn (hO e) (eS q hq).2.1 b2
      · have eR : zd_drR Rs k a b R2 q = Rs q := by
          unfold zd_drR
          rw [if_neg e, if_neg e2]
        have eTt : zd_drT μ Rs ts k a b n t2 q = ts q := by
          unfold zd_drT
          rw [if_neg e, if_neg e2]
        rw [eR, eTt]
        have r := eT q hq e2 e
        rw [zt_fit_copy (A := μ) (T := zdT q) ⟨r _ (by omega), r _ (by omega), r _ (by omega), r _ (by omega), r _ (by omega), r _ (by omega)⟩ (eS q hq).2.1]
        exact b2
end ZDJ
end
section
/-! the desk: drag -/
section ZDK
variable {μ ν : zm_M} {row stk : List Nat} {Rs : Nat → List Nat} {ts : Nat → zy_F}
/-- what drag may be asked -/
noncomputable def zd_darg (μ : zm_M) (w x y : Int32) (k o sd : Nat) : Prop := (k < 10 ∧ o < 10 ∧ sd < 5) ∧ (w = nI k ∧ x = nI o ∧ y = nI sd) ∧ (zd_til μ k = true ∧ zd_til μ o = true ∧ k ≠ o)
/-- the trial tree of a drag to the screen b -/
noncomputable def zd_trl (μ ν1 : zm_M) (Rs : Nat → List Nat) (ts : Nat → zy_F) (k o sd b : Nat) (R2 : List Nat) (t2 : zy_F) : Prop :=
  ∃ ν0 R' t' m, zt_isDr μ (zdT b) (Rs b) (ts b) k ν0 7 R' t' ∧ m ∈ zy_lvs t' ∧ ν0 (7 + 3) o = nI m ∧ R2 = R' ++ [k] ∧ zt_C ν1 7 R2 t2 ∧
    ((sd = 4 ∧ t2 = t' ∧ zt_isTab ν0 7 R' t' m k (μ (zdW k + 1) 0) (μ (zdW k + 1) 1) ν1 7) ∨ (sd < 4 ∧ ∃ c f, t2 = zy_sub m (.append (.tag c (.tag (if decide (sd % 2 = 0) then f else m) .nil)) (.tag (if decide (sd % 2 = 0) then m else f) .nil)) t' ∧ zt_isCut ν0 7 R' t' m k (sd / 2) (decide (sd % 2 = 0)) (μ (zdW k + 1) 0) (μ (zdW k + 1) 1) ν1 7 c f))
noncomputable def zd_drgd (μ ν : zm_M) (row row' : List Nat) (Rs Rs' : Nat → List Nat) (ts ts' : Nat → zy_F) (w x y : Int32) : Prop :=
  ((¬ ∃ k o sd, zd_darg μ w x y k o sd) ∧ ν = μ ∧ row' = row ∧ Rs' = Rs ∧ ts' = ts) ∨
  ∃ k o sd a b ν1 R2 t2, zd_darg μ w x y k o sd ∧ a < 3 ∧ b < 3 ∧ μ (zdW k) 5 = nI a ∧ μ (zdW o) 5 = nI b ∧ zt_frT 7 μ ν1 ∧ zd_trl μ ν1 Rs ts k o sd b R2 t2 ∧
    (((zt_fit ν1 7 (zdZ b) R2 t2 = false ∨ (¬ a = b ∧ zl_al (zd_gwf μ (zd_grp μ k) (zdZ b)) 10 = false)) ∧ zJ_eqv μ ν ∧ row' = row ∧ Rs' = Rs ∧ ts' = ts) ∨
     ((zt_fit ν1 7 (zdZ b) R2 t2 = true ∧ (a = b ∨ zl_al (zd_gwf μ (zd_grp μ k) (zdZ b)) 10 = true)) ∧ row' = k :: row.erase k ∧ ∃ n ν6, n ∈ zy_lvs (ts a) ∧ μ (zdT a + 3) k = nI n ∧ Rs' = zd_drR Rs k a b R2 ∧ ts' = zd_drT μ Rs ts k a b n t2 ∧
        (∀ c d, ¬ zJ_irr c → zt_out (zdT a) c → zt_out (zdT b) c → (∀ q, q < 3 → c = zdK q → d ≠ 3) → (∀ j, j < 10 → c = zdW j → d ≠ 5) → ν6 c d = μ c d) ∧ (∀ q, q < 3 → ν6 (zdK q) 3 = if zd_has μ q k = true then 0 else μ (zdK q) 3) ∧
        (∀ j, j < 10 → ν6 (zdW j) 5 = if ¬ a = b ∧ zd_grp μ k j = true then nI b else μ (zdW j) 5) ∧ (¬ a = b → zt_isOut μ (zdT a) (Rs a) (ts a) n k ν6 (zdT a)) ∧ zt_isCopy ν1 7 ν6 (zdT b) ∧ zt_C ν6 (zdT b) R2 t2 ∧ zd_foc ν6 ν k))
theorem zd_trl_of {ν0 ν1 : zm_M} {R' : List Nat} {t' : zy_F} {k o sd b m : Nat} (h1 : zt_isDr μ (zdT b) (Rs b) (ts b) k ν0 7 R' t') (h2 : m ∈ zy_lvs t') (h3 : ν0 (7 + 3) o = nI m) (h4 : zd_drg μ ν0 ν1 R' t' k m sd) : ∃ R2 t2, zd_trl μ ν1 Rs ts k o sd b R2 t2 := by
  rcases h4 with ⟨e, h⟩ | ⟨e, c, f, h⟩
  · exact ⟨R' ++ [k], t', ν0, R', t', m, h1, h2, h3, rfl, h.1, Or.inl ⟨e, rfl, h⟩⟩
  · exact ⟨R' ++ [k], _, ν0, R', t', m, h1, h2, h3, rfl, h.1, Or.inr ⟨e, c, f, rfl, h⟩⟩
/-- the trial tree's tabs and their least sizes -/
theorem zd_trl_R (h : zJ μ row stk Rs ts) {ν1 : zm_M} {k o sd b : Nat} {R2 : List Nat} {t2 : zy_F} (hb : b < 3) (ht : zd_trl μ ν1 Rs ts k o sd b R2 t2) : zt_C ν1 7 R2 t2 ∧ (∀ j, j ∈ R2 ↔ (j ∈ Rs b ∨ j = k)) ∧ ∀ j ∈ R2, ν1 (7 + 5) j = μ (zdW j + 1) 0 ∧ ν1 (7 + 6) j = μ (zdW j + 1) 1 := by
  obtain ⟨ν0, R', t', m, hd, -, -, rfl, hC, hcase⟩ := ht
  obtain ⟨c1, c2, c3⟩ := h.2.2.2.1 b hb
  have r0 : (∀ j, j ∈ R' → j ∈ Rs b) ∧ (∀ j, j ∈ Rs b → j ≠ k → j ∈ R') ∧ ν0 (7 + 5) = μ (zdT b + 5) ∧ ν0 (7 + 6) = μ (zdT b + 6) := by
    rcases hd with ⟨-, e1, -, l, -⟩ | ⟨-, n, -, -, e1, -, O⟩
    · rw [e1]
      exact ⟨fun _ q => q, fun _ q _ => q, l.2.1, l.2.2.1⟩
    · rw [e1]
      exact ⟨fun j q => List.mem_of_mem_erase q, fun j q hne => (zl_er_mem c1.1.1.2.1).mpr ⟨hne, q⟩, O.2.2.1, O.2.2.2.1⟩
  have r1 : (∀ u, ν1 (7 + 5) u = if u = k then μ (zdW k + 1) 0 else ν0 (7 + 5) u) ∧ ∀ u, ν1 (7 + 6) u = if u = k then μ (zdW k + 1) 1 else ν0 (7 + 6) u := by
    rcases hcase with ⟨-, -, T⟩ | ⟨-, c, f, -, K⟩
    · exact ⟨T.2.2.1, T.2.2.2.1⟩
    · exact ⟨K.2.2.2.1, K.2.2.2.2.1⟩
  refine ⟨hC, fun j => ?_, fun j hj => ?_⟩
  · rw [List.mem_append]
    constructor
    · rintro (q | q)
      · exact Or.inl (r0.1 j q)
      · exact Or.inr (by simpa using q)
    · intro q
      by_cases e : j = k
      · exact Or.inr (by simp [e])
      · exact Or.inl (r0.2.1 j (q.resolve_right e) e)
  · rw [r1.1, r1.2]
    by_cases e : j = k
    · rw [if_pos e, if_pos e, e]
      exact ⟨rfl, rfl⟩
    · rw [if_neg e, if_neg e, r0.2.2.1, r0.2.2.2]
      have hjR : j ∈ R' := by
        rcases List.mem_append.mp hj with q | q
        · exact q
        · exact absurd (by simpa using q) e
      exact c3 j (r0.1 j hjR)
set_option maxRecDepth 100000 in
theorem ze_drag_0 (D : Nat) (h : zJ μ row stk Rs ts) (w x y : Int32) : ((¬ ∃ k o sd, zd_darg μ w x y k o sd) ∧ ∃ r, ze_G (D + 1) 6 (some .int) zc_X5_drag 0 [(0, .ref 1), (1, .int w), (2, .int x), (3, .int y)] [] (zm_mk μ) (some (.int r)) (zm_mk μ)) ∨
    ∃ k o sd, zd_darg μ w x y k o sd ∧ ze_S (D + 1) 6 (some .int) zc_X5_drag 0 [(0, .ref 1), (1, .int w), (2, .int x), (3, .int y)] [] (zm_mk μ) 63 [(0, .ref 1), (1, .int w), (2, .int x), (3, .int y)] [] (zm_mk μ) := by
  have n4 : Int32.ofInt (-1000000001) = -1000000001 := by decide
  have n2 : Int32.ofInt (-1000000002) = -1000000002 := by decide
  have isW : ∀ z : Int32, (ze_E (D + 1) A_Desk_isWindow [.ref 1, .int z] (zm_mk μ) (some (.int 0)) (zm_mk μ) ∧ ∀ k, k < 10 → z = nI k → ¬ zd_th μ k = true) ∨ (ze_E (D + 1) A_Desk_isWindow [.ref 1, .int z] (zm_mk μ) (some (.int 1)) (zm_mk μ) ∧ ∃ k, k < 10 ∧ z = nI k ∧ zd_th μ k = true) := by
    intro z
    rcases zd_rng z 10 (by decide) with ⟨k, hk, rfl⟩ | hout
    · have E := ze_thW (μ := μ) D hk
      by_cases c : zd_th μ k = true
      · rw [if_pos c] at E
        exact Or.inr ⟨E, k, hk, rfl, c⟩
      · rw [if_neg c] at E
        exact Or.inl ⟨E, fun k' hk' e => by rw [← (nI_eq (by omega) (by omega)).mp e]; exact c⟩
    · exact Or.inl ⟨ze_isWindow_out D hout, fun k hk e => by
        rw [e] at hout
        exact absurd hout (fun q => q.elim (nI_pos (by omega)) (nI_ge (b := 10) hk (by decide)))⟩
  have thof : ∀ {j : Nat}, zd_til μ j = true → zd_th μ j = true := fun q => decide_eq_true (of_decide_eq_true q).1
  rcases isW w with ⟨⟨N1, E1⟩, hno⟩ | ⟨⟨N1, E1⟩, k, hk, rfl, htk⟩
  · refine Or.inl ⟨fun ⟨k, o, sd, ⟨q1, _, _⟩, ⟨q2, _, _⟩, q3, _, _⟩ => hno k q1 q2 (thof q3), -1000000001, N1, 6, fun F n hF => ?_⟩
    simp [zg_0, zg_aaload, zg_aload_n, zg_getfield, zg_iconst, zg_ifCond, zg_if_icmp, zg_iload, zg_iload_n, zg_invokestatic, zg_invokevirtual, zg_ireturn, zg_istore, zg_ldc, zf_X5_drag, zi_ld, zi_lda, zi_cmp, zi_retOk, zi_isI, zi_f3, zi_cr, zi_ci, zi_cn, zi_get, zi_set, zq_Desk_isWindow, zd_c, E1 F (by omega), n4]
  rcases isW x with ⟨⟨N2, E2⟩, hno⟩ | ⟨⟨N2, E2⟩, o, ho, rfl, hto⟩
  · refine Or.inl ⟨fun ⟨k, o, sd, ⟨_, q1, _⟩, ⟨_, q2, _⟩, _, q3, _⟩ => hno o q1 q2 (thof q3), -1000000001, N1 + N2, 10, fun F n hF => ?_⟩
    simp [zg_0, zg_aaload, zg_aload_n, zg_getfield, zg_iconst, zg_ifCond, zg_if_icmp, zg_iload, zg_iload_n, zg_invokestatic, zg_invokevirtual, zg_ireturn, zg_istore, zg_ldc, zf_X5_drag, zi_ld, zi_lda, zi_cmp, zi_retOk, zi_isI, zi_f3, zi_cr, zi_ci, zi_cn, zi_get, zi_set, zq_Desk_isWindow, zd_c, E1 F (by omega), E2 F (by omega), n4]
  have inj : ∀ {i j : Nat}, i < 10 → j < 10 → nI i = nI j → i = j := fun h1 h2 e => (nI_eq (by omega) (by omega)).mp e
  by_cases c3 : k = o
  · subst c3
    refine Or.inl ⟨fun ⟨k', o', sd, ⟨q1, q2, _⟩, ⟨q3, q4, _⟩, _, _, q5⟩ => q5 ((inj q1 hk q3.symm).trans (inj q2 hk q4.symm).symm), -1000000001, N1 + N2, 13, fun F n hF => ?_⟩
    simp [zg_0, zg_aaload, zg_aload_n, zg_getfield, zg_iconst, zg_ifCond, zg_if_icmp, zg_iload, zg_iload_n, zg_invokestatic, zg_invokevirtual, zg_ireturn, zg_istore, zg_ldc, zf_X5_drag, zi_ld, zi_lda, zi_cmp, zi_retOk, zi_isI, zi_f3, zi_cr, zi_ci, zi_cn, zi_get, zi_set, zq_Desk_isWindow, zd_c, E1 F (by omega), n4]
  have c3' : ¬ nI k = nI o := fun e => c3 (inj hk ho e)
  have side : (∃ sd, sd < 5 ∧ y = nI sd ∧ ze_S (D + 1) 6 (some .int) zc_X5_drag 0 [(0, .ref 1), (1, .int (nI k)), (2, .int (nI o)), (3, .int y)] [] (zm_mk μ) 36 [(0, .ref 1), (1, .int (nI k)), (2, .int (nI o)), (3, .int y)] [] (zm_mk μ)) ∨ ((∀ sd, sd < 5 → ¬ y = nI sd) ∧ ze_G (D + 1) 6 (some .int) zc_X5_drag 0 [(0, .ref 1), (1, .int (nI k)), (2, .int (nI o)), (3, .int y)] [] (zm_mk μ) (some (.int (-1000000001))) (zm_mk μ)) := by
    rcases zd_rng y 4 (by decide) with ⟨sd, hsd, rfl⟩ | hout
    · obtain ⟨N3, E3⟩ := ze_isSide_in (h := zm_mk μ) D hsd
      left
      refine ⟨sd, by omega, rfl, N1 + N2 + N3, 14, fun F n hF => ?_⟩
      simp [zg_0, zg_aaload, zg_aload_n, zg_getfield, zg_iconst, zg_ifCond, zg_if_icmp, zg_iload, zg_iload_n, zg_invokestatic, zg_invokevirtual, zg_ireturn, zg_istore, zg_ldc, zf_X5_drag, zi_ld, zi_lda, zi_cmp, zi_retOk, zi_isI, zi_f3, zi_cr, zi_ci, zi_cn, zi_get, zi_set, zq_Desk_isWindow, zd_c, E1 F (by omega), E2 F (by omega), c3', zq_Desk_isSide, E3 F (by omega)]
    · obtain ⟨N3, E3⟩ := ze_isSide_out (h := zm_mk μ) D hout
      by_cases c4 : y = 4
      · left
        refine ⟨4, by decide, c4, N1 + N2 + N3, 17, fun F n hF => ?_⟩
        have E3 := E3 F (by omega)
        rw [c4] at E3
        simp [zg_0, zg_aaload, zg_aload_n, zg_getfield, zg_iconst, zg_ifCond, zg_if_icmp, zg_iload, zg_iload_n, zg_invokestatic, zg_invokevirtual, zg_ireturn, zg_istore, zg_ldc, zf_X5_drag, zi_ld, zi_lda, zi_cmp, zi_retOk, zi_isI, zi_f3, zi_cr, zi_ci, zi_cn, zi_get, zi_set, zq_Desk_isWindow, zd_c, E1 F (by omega), E2 F (by omega), c3', zq_Desk_isSide, E3, c4]
      · right
        refine ⟨fun sd hsd e => ?_, N1 + N2 + N3, 19, fun F n hF => ?_⟩
        · by_cases e4 : sd = 4
          · rw [e4] at e
            exact c4 e
          · rw [e] at hout
            exact hout.elim (nI_pos (by omega)) (nI_ge (b := 4) (by omega) (by decide))
        · simp [zg_0, zg_aaload, zg_aload_n, zg_getfield, zg_iconst, zg_ifCond, zg_if_icmp, zg_iload, zg_iload_n, zg_invokestatic, zg_invokevirtual, zg_ireturn, zg_istore, zg_ldc, zf_X5_drag, zi_ld, zi_lda, zi_cmp, zi_retOk, zi_isI, zi_f3, zi_cr, zi_ci, zi_cn, zi_get, zi_set, zq_Desk_isWindow, zd_c, E1 F (by omega), E2 F (by omega), c3', zq_Desk_isSide, E3 F (by omega), c4, n4]
  rcases side with ⟨sd, hsd, rfl, S1⟩ | ⟨hno, G⟩
  rotate_left
  · exact Or.inl ⟨fun ⟨k, o, sd, ⟨_, _, q1⟩, ⟨_, _, q2⟩, _⟩ => hno sd q1 q2, _, G⟩
  obtain ⟨N4, E4⟩ := ze_tilW (μ := μ) D hk
  obtain ⟨N5, E5⟩ := ze_tilW (μ := μ) D ho
  have cwk := zw_c (μ := μ) (zdW_at hk)
  have cwo := zw_c (μ := μ) (zdW_at ho)
  by_cases c5 : zd_til μ k = true
  · rw [if_pos c5] at E4
    by_cases c6 : zd_til μ o = true
    · rw [if_pos c6] at E5
      right
      refine ⟨k, o, sd, ⟨⟨hk, ho, hsd⟩, ⟨rfl, rfl, rfl⟩, c5, c6, c3⟩, S1.trans ⟨N4 + N5, 12, fun F n hF => ?_⟩⟩
      simp [zg_0, zg_aaload, zg_aload_n, zg_getfield, zg_iconst, zg_ifCond, zg_if_icmp, zg_iload, zg_iload_n, zg_invokestatic, zg_invokevirtual, zg_ireturn, zg_istore, zg_ldc, zf_X5_drag, zi_ld, zi_lda, zi_cmp, zi_retOk, zi_isI, zi_f3, zi_cr, zi_ci, zi_cn, zi_get, zi_set, zd_g, zd_w hk, zd_w ho, zq_Win_isTiled, cwk, cwo, E4 F (by omega), E5 F (by omega)]
    · rw [if_neg c6] at E5
      refine Or.inl ⟨fun ⟨k', o', sd', ⟨q1, q2, _⟩, ⟨q3, q4, _⟩, _, q5, _⟩ => c6 (by rw [inj ho q2 q4]; exact q5), -1000000002, S1.end ⟨N4 + N5, 14, fun F n hF => ?_⟩⟩
      simp [zg_0, zg_aaload, zg_aload_n, zg_getfield, zg_iconst, zg_ifCond, zg_if_icmp, zg_iload, zg_iload_n, zg_invokestatic, zg_invokevirtual, zg_ireturn, zg_istore, zg_ldc, zf_X5_drag, zi_ld, zi_lda, zi_cmp, zi_retOk, zi_isI, zi_f3, zi_cr, zi_ci, zi_cn, zi_get, zi_set, zd_g, zd_w hk, zd_w ho, zq_Win_isTiled, cwk, cwo, E4 F (by omega), E5 F (by omega), n2]
  · rw [if_neg c5] at E4
    refine Or.inl ⟨fun ⟨k', o', sd', ⟨q1, q2, _⟩, ⟨q3, q4, _⟩, q5, _, _⟩ => c5 (by rw [inj hk q1 q3]; exact q5), -1000000002, S1.end ⟨N4, 8, fun F n hF => ?_⟩⟩
    simp [zg_0, zg_aaload, zg_aload_n, zg_getfield, zg_iconst, zg_ifCond, zg_if_icmp, zg_iload, zg_iload_n, zg_invokestatic, zg_invokevirtual, zg_ireturn, zg_istore, zg_ldc, zf_X5_drag, zi_ld, zi_lda, zi_cmp, zi_retOk, zi_isI, zi_f3, zi_cr, zi_ci, zi_cn, zi_get, zi_set, zd_g, zd_w hk, zq_Win_isTiled, cwk, E4 F (by omega), n2]
end ZDK
end
section
/-! the desk: drag, run -/
section ZDL
variable {μ ν : zm_M} {row stk : List Nat} {Rs : Nat → List Nat} {ts : Nat → zy_F}
set_option maxRecDepth 100000 in
theorem ze_drag (D : Nat) (h : zJ μ row stk Rs ts) (w x y : Int32) : ∃ ν r row' stk' Rs' ts', ze_E (D + 16) A_Desk_drag [.ref 1, .int w, .int x, .int y] (zm_mk μ) (some (.int r)) (zm_mk ν) ∧ zJ ν row' stk' Rs' ts' ∧ zd_drgd μ ν row row' Rs Rs' ts ts' w x y := by
  have n2 : Int32.ofInt (-1000000002) = -1000000002 := by decide
  rcases ze_drag_0 (D + 14) h w x y with ⟨hno, r, G⟩ | ⟨k, o, sd, hd, S0⟩
  · exact ⟨μ, r, row, stk, Rs, ts, ze_in [(0, .ref 1), (1, .int w), (2, .int x), (3, .int y)] zq_Desk_drag (Nat.le_of_ble_eq_true rfl) rfl G, h, Or.inl ⟨hno, rfl, rfl, rfl, rfl⟩⟩
  obtain ⟨⟨hk, ho, hsd⟩, ⟨rfl, rfl, rfl⟩, htk, hto, hko⟩ := id hd
  obtain ⟨a, ha, ea, hkR, n, hn, en⟩ := zJ_til h hk htk
  obtain ⟨b, hb, eb, hoR, -⟩ := zJ_til h ho hto
  have hbt : ¬ μ (zdS b) 3 = 0 := by
    obtain ⟨-, -, a3, -, -⟩ := h.2.2.1 o ho (decide_eq_true (of_decide_eq_true hto).1)
    obtain ⟨s', b1, b2, b3⟩ := a3 (by rw [(of_decide_eq_true hto).2]; decide)
    rw [(nI_eq (by omega) (by omega)).mp (eb.symm.trans b2)]
    exact b3
  obtain ⟨ν1, ν0, R', t', m, ⟨N1, E1⟩, d1, d2, d3, d4, f1⟩ := ze_tryDrag (μ := μ) (D + 10) hk ho hko hb hsd eb (h.2.2.2.1 b hb).1.1 hoR
  obtain ⟨R2, t2, htr⟩ := zd_trl_of d1 d2 d3 d4
  obtain ⟨C1, hR2, h52⟩ := zd_trl_R h hb htr
  -- the group
  obtain ⟨ν2, ⟨N2, E2⟩, f2, hg2⟩ := ze_gatherWithDialogs (μ := ν1) (D + 12) hk
  have w1 : ∀ j, ν1 (zdW j) = μ (zdW j) := fun j => f1 _ (by unfold zt_out zdW; omega)
  have eow : zd_ow ν1 = zd_ow μ := funext fun j => by unfold zd_ow; rw [w1]
  have edl : zd_dl ν1 = zd_dl μ := funext fun j => by unfold zd_dl; rw [eow, w1, w1]
  rw [eow, edl] at hg2
  have hg2 : zd_gr ν2 (zd_grp μ k) := hg2
  have o2 : ∀ c, zt_out 7 c → c ≠ 31 → ν2 c = μ c := fun c h1 h2 => (f2 c h2).trans (f1 c h1)
  have C2 : zt_C ν2 7 R2 t2 := zt_C_congr (fun c h1 h2 => f2 c (by omega)) C1
  have ev2 : zJ_eqv μ ν2 := fun c hc => o2 c (zJn_7 hc) (fun e => hc (by rw [e]; unfold zJ_irr; omega))
  obtain ⟨N3, E3⟩ := ze_fitsC (μ := ν2) (D + 13) zd7_at C2 (zdZ_A hb)
  have efit : zt_fit ν2 7 (zdZ b) R2 t2 = zt_fit ν1 7 (zdZ b) R2 t2 := zt_fit_copy ⟨f2 _ (by decide), f2 _ (by decide), f2 _ (by decide), f2 _ (by decide), f2 _ (by decide), f2 _ (by decide)⟩ (f2 _ (by unfold zdZ; omega))
  rw [efit] at E3
  obtain ⟨N4, E4⟩ := ze_groupCanBeWhole (μ := ν2) (D + 13) hg2 hb
  have egw : zl_al (zd_gwf ν2 (zd_grp μ k) (zdZ b)) 10 = zl_al (zd_gwf μ (zd_grp μ k) (zdZ b)) 10 := by
    have key : ∀ j, j < 10 → zd_gwf ν2 (zd_grp μ k) (zdZ b) j = zd_gwf μ (zd_grp μ k) (zdZ b) j := fun j hj => by
      unfold zd_gwf zd_flo zd_whole
      rw [ev2 _ (zJn_W hj).1, ev2 _ (zJn_W hj).2, ev2 _ (zJn_S hb).2.1]
    cases hc : zl_al (zd_gwf μ (zd_grp μ k) (zdZ b)) 10 with
    | true => exact (zl_al_iff 10).mpr (fun j hj => by rw [key j hj]; exact (zl_al_iff 10).mp hc j hj)
    | false =>
      cases hc2 : zl_al (zd_gwf ν2 (zd_grp μ k) (zdZ b)) 10 with
      | false => rfl
      | true =>
        rw [(zl_al_iff 10).mpr (fun j hj => by rw [← key j hj]; exact (zl_al_iff 10).mp hc2 j hj)] at hc
        cases hc
  rw [egw] at E4
  have S1 : ze_S (D + 15) 6 (some .int) zc_X5_drag 63 [(0, .ref 1), (1, .int (nI k)), (2, .int (nI o)), (3, .int (nI sd))] [] (zm_mk μ) 97 [(5, .int (nI b)), (4, .int (nI a)), (0, .ref 1), (1, .int (nI k)), (2, .int (nI o)), (3, .int (nI sd))] [] (zm_mk ν2) := by
    refine ⟨N1 + N2, 20, fun F n hF => ?_⟩
    simp [zg_0, zg_aaload, zg_aload_n, zg_getfield, zg_iconst, zg_ifCond, zg_if_icmp, zg_iload, zg_iload_n, zg_invokestatic, zg_invokevirtual, zg_ireturn, zg_istore, zg_ldc, zf_X5_drag, zi_ld, zi_lda, zi_cmp, zi_retOk, zi_isI, zi_f3, zi_cr, zi_ci, zi_cn, zi_get, zi_set, zd_g, zd_w hk, zd_w ho, zw_g (zdW_at hk), zw_g (zdW_at ho), ea, eb, zq_Desk_tryDrag, zd_c, E1 F (by omega), zq_Desk_gatherWithDialogs, E2 F (by omega)]
  have SS := S0.trans S1
  generalize hL : ([(5, .int (nI b)), (4, .int (nI a)), (0, .ref 1), (1, .int (nI k)), (2, .int (nI o)), (3, .int (nI sd))] : zi_Lc) = L at SS
  have nl : zi_nl L = true := by rw [← hL]; rfl
  have g0 : zi_get L 0 = some (.ref 1) := by rw [← hL]; rfl
  have g1 : zi_get L 1 = some (.int (nI k)) := by rw [← hL]; rfl
  have g4 : zi_get L 4 = some (.int (nI a)) := by rw [← hL]; rfl
  have g5 : zi_get L 5 = some (.int (nI b)) := by rw [← hL]; rfl
  clear hL
  obtain ⟨l7, c7⟩ := zt_c (μ := ν2) zd7_at
  have refuse : (zt_fit ν1 7 (zdZ b) R2 t2 = false ∨ (¬ a = b ∧ zl_al (zd_gwf μ (zd_grp μ k) (zdZ b)) 10 = false)) → ze_G (D + 15) 6 (some .int) zc_X5_drag 97 L [] (zm_mk ν2) (some (.int (-1000000002))) (zm_mk ν2) → ∃ ν r row' stk' Rs' ts', ze_E (D + 16) A_Desk_drag [.ref 1, .int (nI k), .int (nI o), .int (nI sd)] (zm_mk μ) (some (.int r)) (zm_mk ν) ∧ zJ ν row' stk' Rs' ts' ∧ zd_drgd μ ν row row' Rs Rs' ts ts' (nI k) (nI o) (nI sd) := fun hc G =>
    ⟨ν2, _, row, stk, Rs, ts, ze_in [(0, .ref 1), (1, .int (nI k)), (2, .int (nI o)), (3, .int (nI sd))] zq_Desk_drag (Nat.le_of_ble_eq_true rfl) rfl (SS.end G), h.eqv ev2, Or.inr ⟨k, o, sd, a, b, ν1, R2, t2, hd, ha, hb, ea, eb, f1, htr, Or.inl ⟨hc, ev2, rfl, rfl, rfl⟩⟩⟩
  cases hfit : zt_fit ν1 7 (zdZ b) R2 t2 with
  | false =>
    rw [hfit, if_neg (by decide)] at E3
    refine refuse (Or.inl hfit) ⟨N3, 11, fun F n hF => ?_⟩
    simp (maxDischargeDepth := 9) [zg_0, zg_aaload, zg_aload_n, zg_getfield, zg_iconst, zg_ifCond, zg_if_icmp, zg_iload, zg_iload_n, zg_invokestatic, zg_invokevirtual, zg_ireturn, zg_istore, zg_ldc, zf_X5_drag, zi_ld, zi_lda, zi_cmp, zi_retOk, zi_isI, zi_f3, zi_cr, zi_ci, zi_cn, zi_get_ne, zi_nl_i, zi_nl_r, zi_get_set_eq, nl, g0, g5, zd_g, zd_s hb, zdS_g hb, zq_Tree_fits, c7, E3 F (by omega), n2]
  | true =>
    rw [hfit, if_pos rfl] at E3
    have accept : (a = b ∨ zl_al (zd_gwf μ (zd_grp μ k) (zdZ b)) 10 = true) → ze_S (D + 15) 6 (some .int) zc_X5_drag 97 L [] (zm_mk ν2) 136 L [] (zm_mk ν2) → ∃ ν r row' stk' Rs' ts', ze_E (D + 16) A_Desk_drag [.ref 1, .int (nI k), .int (nI o), .int (nI sd)] (zm_mk μ) (some (.int r)) (zm_mk ν) ∧ zJ ν row' stk' Rs' ts' ∧ zd_drgd μ ν row row' Rs Rs' ts ts' (nI k) (nI o) (nI sd) := by
      intro hab S2
      obtain ⟨ν3, ⟨N5, E5⟩, k3, f3⟩ := ze_forgetKeptWith (μ := ν2) (D + 12) hk
      have hhas : ∀ q, q < 3 → zd_has ν2 q k = zd_has μ q k := fun q hq => by
        unfold zd_has
        rw [ev2 _ (zJn_S hq).2.2.1, ev2 _ (zJn_S hq).2.2.2, ev2 _ (zJn_T hq (j := 3) (by decide)).2]
      have r3 : ∀ c, (∀ q, q < 3 → c ≠ zdK q) → ν3 c = ν2 c := fun c hc => funext fun d => f3 c d (fun q hq e => absurd e (hc q hq))
      have t3 : ∀ q, q < 3 → ∀ j, j < 24 → ν3 (zdT q + j) = μ (zdT q + j) := fun q hq j hj => by
        rw [r3 _ (fun q' hq' => by unfold zdT zdK; omega), o2 _ (by unfold zt_out zdT; omega) (by unfold zdT; omega)]
      have hIa : zt_I ν3 (zdT a) (Rs a) (ts a) := zt_same.I ⟨t3 a ha _ (by omega), t3 a ha _ (by omega), t3 a ha _ (by omega), t3 a ha _ (by omega), t3 a ha _ (by omega), t3 a ha _ (by omega), t3 a ha _ (by omega), t3 a ha _ (by omega), t3 a ha _ (by omega), t3 a ha _ (by omega), t3 a ha _ (by omega), by rw [show ν3 (zdT a) = μ (zdT a) from t3 a ha 0 (by omega)]⟩ (h.2.2.2.1 a ha).1.1
      obtain ⟨ν4, ⟨N6, E6⟩, O4, f4⟩ := ze_takeOutI (μ := μ) (Q := zdT a) (D + 11) (zdT_at ha) hIa ⟨t3 a ha _ (by omega), t3 a ha _ (by omega), t3 a ha _ (by omega), t3 a ha _ (by omega), t3 a ha _ (by omega), t3 a ha _ (by omega)⟩ hn hkR en
      have r4 : ∀ c, 7 ≤ c → c < 31 → ν4 c = ν1 c := fun c h1 h2 => by
        rw [f4 c (by unfold zt_out zdT; omega), r3 c (fun q hq => by unfold zdK; omega), f2 c (by omega)]
      have I4 : zt_I ν4 7 R2 t2 := (zt_C_congr (fun c h1 h2 => r4 c h1 (by omega)) C1).1
      obtain ⟨ν5, ⟨N7, E7⟩, C5, f5, l3, l5, l6, l7', l8, l12⟩ := ze_Tree_copyFrom (μ := ν4) (D + 11) (zdT_at hb) zd7_at (by unfold zdT; omega) I4
      have cp5 : zt_isCopy ν1 7 ν5 (zdT b) := ⟨l3.trans (r4 _ (by omega) (by omega)), l5.trans (r4 _ (by omega) (by omega)), l6.trans (r4 _ (by omega) (by omega)), l7'.trans (r4 _ (by omega) (by omega)), l8.trans (r4 _ (by omega) (by omega)), l12.trans (r4 _ (by omega) (by omega))⟩
      -- frames so far
      have fr5 : ∀ c d, zt_out 7 c → c ≠ 31 → zt_out (zdT a) c → zt_out (zdT b) c → (∀ q, q < 3 → c = zdK q → d ≠ 3) → ν5 c d = μ c d := fun c d a1 a2 a3 a4 a5 => by
        rw [f5 c a4, f4 c a3, f3 c d a5, o2 c a1 a2]
      have fk5 : ∀ q, q < 3 → ν5 (zdK q) 3 = if zd_has μ q k = true then 0 else μ (zdK q) 3 := fun q hq => by
        rw [f5 _ (zJn_out hb (Or.inr (Or.inr (Or.inl ⟨q, hq, Or.inr (Or.inr (Or.inl rfl))⟩)))), f4 _ (zJn_out ha (Or.inr (Or.inr (Or.inl ⟨q, hq, Or.inr (Or.inr (Or.inl rfl))⟩)))), k3 q hq, ev2 _ (zJn_S hq).2.2.1]
        simp only [hhas q hq]
      have O5 : ¬ a = b → zt_isOut μ (zdT a) (Rs a) (ts a) n k ν5 (zdT a) := fun hne => by
        obtain ⟨p1, p2, p3, p4, p5, p6, p7⟩ := O4
        have r : ∀ j, j < 24 → ν5 (zdT a + j) = ν4 (zdT a + j) := fun j hj => f5 _ (by unfold zt_out zdT; omega)
        exact ⟨zt_C_congr (fun c h1 h2 => by have := r (c - zdT a) (by omega); rw [show zdT a + (c - zdT a) = c by omega] at this; exact this) p1, fun v => by rw [r 3 (by omega)]; exact p2 v, by rw [r 5 (by omega)]; exact p3, by rw [r 6 (by omega)]; exact p4, fun i hi => by rw [r 7 (by omega)]; exact p5 i hi, by rw [r 8 (by omega)]; exact p6, fun i => by rw [r 12 (by omega)]; exact p7 i⟩
      have gr5 : zd_gr ν5 (zd_grp μ k) := fun j hj => by
        rw [f5 _ (by unfold zt_out zdT; omega), f4 _ (by unfold zt_out zdT; omega), f3 31 j (fun q hq e => by unfold zdK at e; omega)]
        exact hg2 j hj
      have z5 : ν5 (zdZ b) = ν1 (zdZ b) := by
        funext d
        rw [fr5 _ _ (by unfold zt_out zdZ; omega) (by unfold zdZ; omega) (zJn_out ha (Or.inr (Or.inr (Or.inl ⟨b, hb, Or.inr (Or.inl rfl)⟩)))) (zJn_out hb (Or.inr (Or.inr (Or.inl ⟨b, hb, Or.inr (Or.inl rfl)⟩)))) (fun q hq e => by unfold zdZ zdK at e; omega), f1 _ (by unfold zt_out zdZ; omega)]
      obtain ⟨l3c, c3⟩ := zt_c (μ := ν3) (zdT_at ha)
      obtain ⟨l4c, c4⟩ := zt_c (μ := ν4) (zdT_at hb)
      have S3 : ze_S (D + 15) 6 (some .int) zc_X5_drag 136 L [] (zm_mk ν2) 172 L [] (zm_mk ν5) := by
        refine ⟨N5 + N6 + N7, 18, fun F m hF => ?_⟩
        simp (maxDischargeDepth := 9) [zg_0, zg_aaload, zg_aload_n, zg_getfield, zg_iconst, zg_ifCond, zg_if_icmp, zg_iload, zg_iload_n, zg_invokestatic, zg_invokevirtual, zg_ireturn, zg_istore, zg_ldc, zf_X5_drag, zi_ld, zi_lda, zi_cmp, zi_retOk, zi_isI, zi_f3, zi_cr, zi_ci, zi_cn, zi_get_ne, zi_nl_i, zi_nl_r, zi_get_set_eq, nl, g0, g1, g4, g5, zq_Desk_forgetKeptWith, zd_c, E5 F (by omega), zd_g, zd_s ha, zd_s hb, zdS_g ha, zdS_g hb, zq_Tree_takeOut, c3, E6 F (by omega), zq_Tree_copyFrom, c4, E7 F (by omega)]
      -- the dialogs
      have send : ∃ ν6, ze_S (D + 15) 6 (some .int) zc_X5_drag 172 L [] (zm_mk ν5) 185 L [] (zm_mk ν6) ∧ (∀ j, j < 10 → ν6 (zdW j) 5 = if ¬ a = b ∧ zd_grp μ k j = true then nI b else μ (zdW j) 5) ∧ ∀ c d, (∀ j, j < 10 → c = zdW j → d ≠ 5) → (∀ j, j < 10 → c ≠ zdW j + 2) → ν6 c d = ν5 c d := by
        have w5 : ∀ j, j < 10 → ν5 (zdW j) 5 = μ (zdW j) 5 := fun j hj => fr5 _ _ (by unfold zt_out zdW; omega) (by unfold zdW; omega) (zJn_out ha (Or.inr (Or.inl ⟨j, hj, Or.inl rfl⟩))) (zJn_out hb (Or.inr (Or.inl ⟨j, hj, Or.inl rfl⟩))) (fun q hq e => by unfold zdW zdK at e; omega)
        by_cases e : a = b
        · refine ⟨ν5, ⟨0, 3, fun F m hF => ?_⟩, fun j hj => by rw [if_neg (fun q => q.1 e)]; exact w5 j hj, fun _ _ _ _ => rfl⟩
          simp (maxDischargeDepth := 9) [zg_0, zg_aaload, zg_aload_n, zg_getfield, zg_iconst, zg_ifCond, zg_if_icmp, zg_iload, zg_iload_n, zg_invokestatic, zg_invokevirtual, zg_ireturn, zg_istore, zg_ldc, zf_X5_drag, zi_ld, zi_lda, zi_cmp, zi_retOk, zi_isI, zi_f3, zi_cr, zi_ci, zi_cn, zi_get_ne, zi_nl_i, zi_nl_r, zi_get_set_eq, nl, g4, g5, e]
        · have e' : ¬ nI a = nI b := fun q => e ((nI_eq (by omega) (by omega)).mp q)
          obtain ⟨ν6, ⟨N8, E8⟩, s1, s2⟩ := ze_sendGroup (μ := ν5) (D + 9) gr5 hb
          refine ⟨ν6, ⟨N8, 6, fun F m hF => ?_⟩, fun j hj => ?_, s2⟩
          · simp (maxDischargeDepth := 9) [zg_0, zg_aaload, zg_aload_n, zg_getfield, zg_iconst, zg_ifCond, zg_if_icmp, zg_iload, zg_iload_n, zg_invokestatic, zg_invokevirtual, zg_ireturn, zg_istore, zg_ldc, zf_X5_drag, zi_ld, zi_lda, zi_cmp, zi_retOk, zi_isI, zi_f3, zi_cr, zi_ci, zi_cn, zi_get_ne, zi_nl_i, zi_nl_r, zi_get_set_eq, nl, g0, g4, g5, e', zq_Desk_sendGroup, zd_c, E8 F (by omega)]
          · rw [s1 j hj, w5 j hj]
            by_cases q : zd_grp μ k j = true
            · rw [if_pos q, if_pos ⟨e, q⟩]
            · rw [if_neg q, if_neg (fun z => q z.2)]
      obtain ⟨ν6, S4, w6, f6⟩ := send
      have r6 : ∀ c, (∀ j, j < 10 → c ≠ zdW j) → (∀ j, j < 10 → c ≠ zdW j + 2) → ν6 c = ν5 c := fun c a1 a2 => funext fun d => f6 c d (fun j hj e => absurd e (a1 j hj)) a2
      have rT6 : ∀ q, q < 3 → ∀ j, ν6 (zdT q + j) = ν5 (zdT q + j) := fun q hq j => r6 _ (fun i hi => by unfold zdT zdW; omega) (fun i hi => by unfold zdT zdW; omega)
      have C6 : zt_C ν6 (zdT b) R2 t2 := zt_C_congr (fun c h1 h2 => r6 c (fun i hi => by unfold zdT at h1; unfold zdW; omega) (fun i hi => by unfold zdT at h1; unfold zdW; omega)) C5
      have cp6 : zt_isCopy ν1 7 ν6 (zdT b) := ⟨(rT6 b hb _).trans cp5.1, (rT6 b hb _).trans cp5.2.1, (rT6 b hb _).trans cp5.2.2.1, (rT6 b hb _).trans cp5.2.2.2.1, (rT6 b hb _).trans cp5.2.2.2.2.1, (rT6 b hb _).trans cp5.2.2.2.2.2⟩
      have fr6 : ∀ c d, ¬ zJ_irr c → zt_out (zdT a) c → zt_out (zdT b) c → (∀ q, q < 3 → c = zdK q → d ≠ 3) → (∀ j, j < 10 → c = zdW j → d ≠ 5) → ν6 c d = μ c d := fun c d a1 a2 a3 a4 a5 => by
        rw [f6 c d a5 (fun j hj e => a1 (by rw [e]; unfold zJ_irr zdW; omega))]
        exact fr5 c d (zJn_7 a1) (fun e => a1 (by rw [e]; unfold zJ_irr; omega)) a2 a3 a4
      have fk6 : ∀ q, q < 3 → ν6 (zdK q) 3 = if zd_has μ q k = true then 0 else μ (zdK q) 3 := fun q hq => by
        rw [r6 _ (fun i hi => by unfold zdK zdW; omega) (fun i hi => by unfold zdK zdW; omega)]
        exact fk5 q hq
      have O6 : ¬ a = b → zt_isOut μ (zdT a) (Rs a) (ts a) n k ν6 (zdT a) := fun hne => by
        obtain ⟨p1, p2, p3, p4, p5, p6, p7⟩ := O5 hne
        have r := rT6 a ha
        exact ⟨zt_C_congr (fun c h1 h2 => by have := r (c - zdT a); rw [show zdT a + (c - zdT a) = c by omega] at this; exact this) p1, fun v => by rw [r 3]; exact p2 v, by rw [r 5]; exact p3, by rw [r 6]; exact p4, fun i hi => by rw [r 7]; exact p5 i hi, by rw [r 8]; exact p6, fun i => by rw [r 12]; exact p7 i⟩
      have hJ6 := zJ_drag h hk ha hb hbt htk ea hn (G := zd_grp μ k) zd_grp_k (fun j hj q1 q2 => zd_grp_til h hj q1 q2) fr6 fk6 w6 O6 C6 hR2 (fun j hj => by rw [cp6.2.1, cp6.2.2.1]; exact h52 j hj) (by
        rw [zt_fit_copy (A := ν1) (T := 7) cp6 (by rw [r6 _ (fun i hi => by unfold zdZ zdW; omega) (fun i hi => by unfold zdZ zdW; omega)]; exact z5)]
        exact hfit)
      have htk6 : zd_th ν6 k = true := ((hJ6.1.2.2 k).mp ((h.1.2.2 k).mpr ⟨hk, decide_eq_true (of_decide_eq_true htk).1⟩)).2
      obtain ⟨ν7, stk', ⟨N9, E9⟩, hJ7, hf7⟩ := ze_giveFocusJ (μ := ν6) D hJ6 hk htk6
      refine ⟨ν7, 0, k :: row.erase k, stk', _, _, ze_in [(0, .ref 1), (1, .int (nI k)), (2, .int (nI o)), (3, .int (nI sd))] zq_Desk_drag (Nat.le_of_ble_eq_true rfl) rfl ((((SS.trans S2).trans S3).trans S4).end ⟨N9, 5, fun F m hF => ?_⟩), hJ7, Or.inr ⟨k, o, sd, a, b, ν1, R2, t2, hd, ha, hb, ea, eb, f1, htr, Or.inr ⟨⟨hfit, hab⟩, rfl, n, ν6, hn, en, rfl, rfl, fr6, fk6, w6, O6, cp6, C6, hf7⟩⟩⟩
      simp (maxDischargeDepth := 9) [zg_0, zg_aaload, zg_aload_n, zg_getfield, zg_iconst, zg_ifCond, zg_if_icmp, zg_iload, zg_iload_n, zg_invokestatic, zg_invokevirtual, zg_ireturn, zg_istore, zg_ldc, zf_X5_drag, zi_ld, zi_lda, zi_cmp, zi_retOk, zi_isI, zi_f3, zi_cr, zi_ci, zi_cn, zi_get_ne, zi_nl_i, zi_nl_r, zi_get_set_eq, nl, g0, g1, zq_Desk_giveFocus, zd_c, E9 F (by omega)]
    by_cases e : a = b
    · have e' : nI a = nI b := by rw [e]
      refine accept (Or.inl e) ⟨N3, 12, fun F m hF => ?_⟩
      simp (maxDischargeDepth := 9) [zg_0, zg_aaload, zg_aload_n, zg_getfield, zg_iconst, zg_ifCond, zg_if_icmp, zg_iload, zg_iload_n, zg_invokestatic, zg_invokevirtual, zg_ireturn, zg_istore, zg_ldc, zf_X5_drag, zi_ld, zi_lda, zi_cmp, zi_retOk, zi_isI, zi_f3, zi_cr, zi_ci, zi_cn, zi_get_ne, zi_nl_i, zi_nl_r, zi_get_set_eq, nl, g0, g4, g5, zd_g, zd_s hb, zdS_g hb, zq_Tree_fits, c7, E3 F (by omega), e]
    · have e' : ¬ nI a = nI b := fun q => e ((nI_eq (by omega) (by omega)).mp q)
      cases hgw : zl_al (zd_gwf μ (zd_grp μ k) (zdZ b)) 10 with
      | false =>
        rw [hgw, if_neg (by decide)] at E4
        refine refuse (Or.inr ⟨e, hgw⟩) ⟨N3 + N4, 18, fun F n hF => ?_⟩
        simp (maxDischargeDepth := 9) [zg_0, zg_aaload, zg_aload_n, zg_getfield, zg_iconst, zg_ifCond, zg_if_icmp, zg_iload, zg_iload_n, zg_invokestatic, zg_invokevirtual, zg_ireturn, zg_istore, zg_ldc, zf_X5_drag, zi_ld, zi_lda, zi_cmp, zi_retOk, zi_isI, zi_f3, zi_cr, zi_ci, zi_cn, zi_get_ne, zi_nl_i, zi_nl_r, zi_get_set_eq, nl, g0, g4, g5, zd_g, zd_s hb, zdS_g hb, zq_Tree_fits, c7, E3 F (by omega), e', zq_Desk_groupCanBeWhole, zd_c, E4 F (by omega), n2]
      | true =>
        rw [hgw, if_pos rfl] at E4
        refine accept (Or.inr hgw) ⟨N3 + N4, 16, fun F n hF => ?_⟩
        simp (maxDischargeDepth := 9) [zg_0, zg_aaload, zg_aload_n, zg_getfield, zg_iconst, zg_ifCond, zg_if_icmp, zg_iload, zg_iload_n, zg_invokestatic, zg_invokevirtual, zg_ireturn, zg_istore, zg_ldc, zf_X5_drag, zi_ld, zi_lda, zi_cmp, zi_retOk, zi_isI, zi_f3, zi_cr, zi_ci, zi_cn, zi_get_ne, zi_nl_i, zi_nl_r, zi_get_set_eq, nl, g0, g4, g5, zd_g, zd_s hb, zdS_g hb, zq_Tree_fits, c7, E3 F (by omega), e', zq_Desk_groupCanBeWhole, zd_c, E4 F (by omega)]
end ZDL
end
section
/-! a screen that goes: what holds then -/
section ZGJ
variable {μ ν : zm_M} {row stk : List Nat} {Rs : Nat → List Nat} {ts : Nat → zy_F}
noncomputable def zd_goR (Rs : Nat → List Nat) (s o : Nat) (R2 : List Nat) : Nat → List Nat := fun q => if q = o then R2 else if q = s then [] else if q = 3 + s then Rs s else Rs q
noncomputable def zd_goT (ts : Nat → zy_F) (s o : Nat) (t2 : zy_F) : Nat → zy_F := fun q => if q = o then t2 else if q = s then .nil else if q = 3 + s then ts s else ts q
theorem zJ_gone (h : zJ μ row stk Rs ts) {s o : Nat} (hs : s < 3) (ho : o < 3) (hso : s ≠ o) (hot : ¬ μ (zdS o) 3 = 0) {R2 : List Nat} {t2 : zy_F}
    (f : ∀ c d, ¬ zJ_irr c → zt_out (zdT s) c → zt_out (zdT o) c → zt_out (zdV s) c → c ≠ zdQ s → ¬ (c = zdK s ∧ d = 3) → ¬ (c = zdS s ∧ d = 3) → (∀ j, j < 10 → c = zdW j → d ≠ 5) → ν c d = μ c d) (fS : ν (zdS s) 3 = 0)
    (f5 : ∀ j, j < 10 → ν (zdW j) 5 = if zd_on μ (nI s) j = true then nI o else μ (zdW j) 5) (fQ : ∀ j, j < 10 → ν (zdQ s) j = if zd_loose μ (nI s) j = true then 1 else 0) (hV : zt_C ν (zdV s) (Rs s) (ts s) ∧ zt_isCopy μ (zdT s) ν (zdV s)) (hE : zt_C ν (zdT s) [] .nil)
    (hC : zt_C ν (zdT o) R2 t2) (hR2 : ∀ j, j ∈ R2 ↔ (j ∈ Rs o ∨ j ∈ Rs s)) (h5 : ∀ j ∈ R2, ν (zdT o + 5) j = μ (zdW j + 1) 0 ∧ ν (zdT o + 6) j = μ (zdW j + 1) 1) (hfit : zt_fit ν (zdT o) (zdZ o) R2 t2 = true) :
    zJ ν row stk (zd_goR Rs s o R2) (zd_goT ts s o t2) := by
  obtain ⟨h1, h2, h3, h4, h6, h7⟩ := h
  have oV : ∀ c, (c < 7 ∨ (∃ k, k < 10 ∧ (c = zdW k ∨ c = zdW k + 1)) ∨ (∃ q, q < 3 ∧ (c = zdS q ∨ c = zdZ q ∨ c = zdK q))) → zt_out (zdV s) c ∧ c ≠ zdQ s := by
    intro c hc
    unfold zt_out zdV zdQ
    rcases hc with h | ⟨k, hk, h | h⟩ | ⟨q, hq, h | h | h⟩
    · omega
    · unfold zdW at h; omega
    · unfold zdW at h; omega
    · unfold zdS at h; omega
    · unfold zdZ at h; omega
    · unfold zdK at h; omega
  have wo : ∀ j, j < 10 → ∀ d, d ≠ 5 → ν (zdW j) d = μ (zdW j) d := fun j hj d hd => f _ _ (zJn_W hj).1 (zJn_out hs (Or.inr (Or.inl ⟨j, hj, Or.inl rfl⟩))) (zJn_out ho (Or.inr (Or.inl ⟨j, hj, Or.inl rfl⟩))) (oV _ (Or.inr (Or.inl ⟨j, hj, Or.inl rfl⟩))).1 (oV _ (Or.inr (Or.inl ⟨j, hj, Or.inl rfl⟩))).2 (fun e => by have := e.1; unfold zdW zdK at this; omega) (fun e => by have := e.1; unfold zdW zdS at this; omega) (fun _ _ _ => hd)
  have eL : ∀ j, j < 10 → ν (zdW j + 1) = μ (zdW j + 1) := fun j hj => funext fun d => f _ _ (zJn_W hj).2 (zJn_out hs (Or.inr (Or.inl ⟨j, hj, Or.inr rfl⟩))) (zJn_out ho (Or.inr (Or.inl ⟨j, hj, Or.inr rfl⟩))) (oV _ (Or.inr (Or.inl ⟨j, hj, Or.inr rfl⟩))).1 (oV _ (Or.inr (Or.inl ⟨j, hj, Or.inr rfl⟩))).2 (fun e => by have := e.1; unfold zdW zdK at this; omega) (fun e => by have := e.1; unfold zdW zdS at this; omega) (fun j' hj' e => by unfold zdW at e; omega)
  have e0 : ∀ c, c < 7 → ν c = μ c := fun c hc => funext fun d => f _ _ (zJn_0 hc) (zJn_out hs (Or.inl hc)) (zJn_out ho (Or.inl hc)) (oV _ (Or.inl hc)).1 (oV _ (Or.inl hc)).2 (fun e => by have := e.1; unfold zdK at this; omega) (fun e => by have := e.1; unfold zdS at this; omega) (fun j' hj' e => by unfold zdW at e; omega)
  have eZ : ∀ q, q < 3 → ν (zdZ q) = μ (zdZ q) := fun q hq => funext fun d => f _ _ (zJn_S hq).2.1 (zJn_out hs (Or.inr (Or.inr (Or.inl ⟨q, hq, Or.inr (Or.inl rfl)⟩)))) (zJn_out ho (Or.inr (Or.inr (Or.inl ⟨q, hq, Or.inr (Or.inl rfl)⟩)))) (oV _ (Or.inr (Or.inr ⟨q, hq, Or.inr (Or.inl rfl)⟩))).1 (oV _ (Or.inr (Or.inr ⟨q, hq, Or.inr (Or.inl rfl)⟩))).2 (fun e => by have := e.1; unfold zdZ zdK at this; omega) (fun e => by have := e.1; unfold zdZ zdS at this; omega) (fun j' hj' e => by unfold zdZ zdW at e; omega)
  have eS : ∀ q, q < 3 → q ≠ s → ν (zdS q) = μ (zdS q) ∧ ν (zdK q) = μ (zdK q) ∧ ν (zdQ q) = μ (zdQ q) := fun q hq hne => ⟨funext fun d => f _ _ (zJn_S hq).1 (zJn_out hs (Or.inr (Or.inr (Or.inl ⟨q, hq, Or.inl rfl⟩)))) (zJn_out ho (Or.inr (Or.inr (Or.inl ⟨q, hq, Or.inl rfl⟩)))) (oV _ (Or.inr (Or.inr ⟨q, hq, Or.inl rfl⟩))).1 (oV _ (Or.inr (Or.inr ⟨q, hq, Or.inl rfl⟩))).2 (fun e => by have := e.1; unfold zdS zdK at this; omega) (fun e => by have := e.1; unfold zdS at this; omega) (fun j' hj' e => by unfold zdS zdW at e; omega), funext fun d => f _ _ (zJn_S hq).2.2.1 (zJn_out hs (Or.inr (Or.inr (Or.inl ⟨q, hq, Or.inr (Or.inr (Or.inl rfl))⟩)))) (zJn_out ho (Or.inr (Or.inr (Or.inl ⟨q, hq, Or.inr (Or.inr (Or.inl rfl))⟩)))) (oV _ (Or.inr (Or.inr ⟨q, hq, Or.inr (Or.inr rfl)⟩))).1 (oV _ (Or.inr (Or.inr ⟨q, hq, Or.inr (Or.inr rfl)⟩))).2 (fun e => by have := e.1; unfold zdK at this; omega) (fun e => by have := e.1; unfold zdK zdS at this; omega) (fun j' hj' e => by unfold zdK zdW at e; omega), funext fun d => f _ _ (zJn_S hq).2.2.2 (zJn_out hs (Or.inr (Or.inr (Or.inl ⟨q, hq, Or.inr (Or.inr (Or.inr (Or.inl rfl)))⟩)))) (zJn_out ho (Or.inr (Or.inr (Or.inl ⟨q, hq, Or.inr (Or.inr (Or.inr (Or.inl rfl)))⟩)))) (by unfold zt_out zdV zdQ; omega) (by unfold zdQ; omega) (fun e => by have := e.1; unfold zdQ zdK at this; omega) (fun e => by have := e.1; unfold zdQ zdS at this; omega) (fun j' hj' e => by unfold zdQ zdW at e; omega)⟩
  have eV : ∀ q, q < 3 → q ≠ s → ∀ j, j < 19 → ν (zdV q + j) = μ (zdV q + j) := fun q hq hne j hj => funext fun d => f _ _ (zJn_T hq hj).2 (zJn_out hs (Or.inr (Or.inr (Or.inl ⟨q, hq, Or.inr (Or.inr (Or.inr (Or.inr ⟨j, hj, rfl⟩)))⟩)))) (zJn_out ho (Or.inr (Or.inr (Or.inl ⟨q, hq, Or.inr (Or.inr (Or.inr (Or.inr ⟨j, hj, rfl⟩)))⟩)))) (by unfold zt_out zdV; omega) (by unfold zdV zdQ; omega) (fun e => by have := e.1; unfold zdV zdK at this; omega) (fun e => by have := e.1; unfold zdV zdS at this; omega) (fun j' hj' e => by unfold zdV zdW at e; omega)
  have eT : ∀ q, q < 3 → q ≠ s → q ≠ o → ∀ j, j < 19 → ν (zdT q + j) = μ (zdT q + j) := fun q hq n1 n2 j hj => funext fun d => f _ _ (zJn_T hq hj).1 (by unfold zt_out zdT; omega) (by unfold zt_out zdT; omega) (by unfold zt_out zdT zdV; omega) (by unfold zdT zdQ; omega) (fun e => by have := e.1; unfold zdT zdK at this; omega) (fun e => by have := e.1; unfold zdT zdS at this; omega) (fun j' hj' e => by unfold zdT zdW at e; omega)
  have th : ∀ j, j < 10 → zd_th ν j = zd_th μ j := fun j hj => by unfold zd_th; rw [wo j hj 2 (by decide)]
  have til : ∀ j, j < 10 → zd_til ν j = zd_til μ j := fun j hj => by unfold zd_til; rw [wo j hj 2 (by decide), wo j hj 3 (by decide)]
  have inj3 : ∀ {x y : Nat}, x < 3 → y < 3 → nI x = nI y → x = y := fun hx hy e => (nI_eq (by omega) (by omega)).mp e
  have onof : ∀ j, j < 10 → zd_til μ j = true → (zd_on μ (nI s) j = true ↔ μ (zdW j) 5 = nI s) := fun j hj q => by
    unfold zd_on
    rw [decide_eq_true_iff]
    obtain ⟨q1, q2⟩ := of_decide_eq_true q
    exact ⟨fun z => z.2.2, fun z => ⟨q1, by rw [q2]; decide, z⟩⟩
  refine ⟨⟨zr_L_congr (e0 _ (by decide)) (e0 _ (by decide)) h1.1, h1.2.1, fun j => ?_⟩, ⟨zr_L_congr (e0 _ (by decide)) (e0 _ (by decide)) h2.1, h2.2⟩, fun j hj htj => ?_, fun q hq => ?_, fun q hq => ?_, fun q hq hqt => ?_⟩
  · rw [h1.2.2 j]
    constructor
    · rintro ⟨x, y⟩
      exact ⟨x, by rw [th j x]; exact y⟩
    · rintro ⟨x, y⟩
      exact ⟨x, by rw [← th j x]; exact y⟩
  · rw [th j hj] at htj
    obtain ⟨c1, c2, c3, c4, c5⟩ := h3 j hj htj
    rw [wo j hj 3 (by decide), wo j hj 4 (by decide), eL j hj]
    refine ⟨c1, c2, fun q => ?_, fun q => ?_, c5⟩
    · rw [f5 j hj]
      obtain ⟨s', d1, d2, d3⟩ := c3 q
      by_cases e : zd_on μ (nI s) j = true
      · rw [if_pos e]
        exact ⟨o, ho, rfl, by rw [(eS o ho (Ne.symm hso)).1]; exact hot⟩
      · rw [if_neg e]
        have : s' ≠ s := fun es => e (decide_eq_true ⟨of_decide_eq_true htj, q, by rw [d2, es]⟩)
        exact ⟨s', d1, d2, by rw [(eS s' d1 this).1]; exact d3⟩
    · obtain ⟨i, d1, d2, d3, d4⟩ := c4 q
      exact ⟨i, d1, d2, d3, by rw [th i d1]; exact d4⟩
  · by_cases e : q = o
    · subst e
      have eR : zd_goR Rs s q R2 q = R2 := if_pos rfl
      have eTt : zd_goT ts s q t2 q = t2 := if_pos rfl
      rw [eR, eTt]
      refine ⟨hC, fun j => ?_, fun j hj => ?_⟩
      · rw [hR2 j, (h4 q hq).2.1 j, (h4 s hs).2.1 j]
        constructor
        · rintro (⟨d1, d2, d3⟩ | ⟨d1, d2, d3⟩)
          · refine ⟨d1, by rw [til j d1]; exact d2, ?_⟩
            rw [f5 j d1]
            split
            · rfl
            · exact d3
          · refine ⟨d1, by rw [til j d1]; exact d2, ?_⟩
            rw [f5 j d1, if_pos ((onof j d1 d2).mpr d3)]
        · rintro ⟨d1, d2, d3⟩
          rw [til j d1] at d2
          rw [f5 j d1] at d3
          by_cases z : zd_on μ (nI s) j = true
          · exact Or.inr ⟨d1, d2, (onof j d1 d2).mp z⟩
          · rw [if_neg z] at d3
            exact Or.inl ⟨d1, d2, d3⟩
      · have hj10 : j < 10 := hC.1.1.2.2 j hj
        rw [eL j hj10]
        exact h5 j hj
    · by_cases e2 : q = s
      · subst e2
        have eR : zd_goR Rs q o R2 q = [] := by
          unfold zd_goR
          rw [if_neg e, if_pos rfl]
        have eTt : zd_goT ts q o t2 q = .nil := by
          unfold zd_goT
          rw [if_neg e, if_pos rfl]
        rw [eR, eTt]
        refine ⟨hE, fun j => ⟨fun z => (by cases z), fun ⟨d1, d2, d3⟩ => ?_⟩, fun j hj => (by cases hj)⟩
        exfalso
        rw [til j d1] at d2
        rw [f5 j d1] at d3
        by_cases z : zd_on μ (nI q) j = true
        · rw [if_pos z] at d3
          exact e (inj3 hq ho d3.symm)
        · rw [if_neg z] at d3
          exact z ((onof j d1 d2).mpr d3)
      · have eR : zd_goR Rs s o R2 q = Rs q := by
          unfold zd_goR
          rw [if_neg e, if_neg e2, if_neg (by omega)]
        have eTt : zd_goT ts s o t2 q = ts q := by
          unfold zd_goT
          rw [if_neg e, if_neg e2, if_neg (by omega)]
        rw [eR, eTt]
        obtain ⟨c1, c2, c3⟩ := h4 q hq
        have r := eT q hq e2 e
        refine ⟨zt_C_19 r c1, fun j => ?_, fun j hj => ?_⟩
        · rw [c2 j]
          constructor
          · rintro ⟨d1, d2, d3⟩
            refine ⟨d1, by rw [til j d1]; exact d2, ?_⟩
            rw [f5 j d1, if_neg (fun z => e2 (inj3 hq hs (d3.symm.trans ((onof j d1 d2).mp z))))]
            exact d3
          · rintro ⟨d1, d2, d3⟩
            rw [til j d1] at d2
            rw [f5 j d1] at d3
            by_cases z : zd_on μ (nI s) j = true
            · rw [if_pos z] at d3
              exact absurd (inj3 hq ho d3.symm) e
            · rw [if_neg z] at d3
              exact ⟨d1, d2, d3⟩
        · rw [r 5 (by omega), r 6 (by omega), eL j ((c2 j).mp hj).1]
          exact c3 j hj
  · by_cases e : q = s
    · subst e
      have eR : zd_goR Rs q o R2 (3 + q) = Rs q := by
        unfold zd_goR
        rw [if_neg (by omega), if_neg (by omega), if_pos rfl]
      have eTt : zd_goT ts q o t2 (3 + q) = ts q := by
        unfold zd_goT
        rw [if_neg (by omega), if_neg (by omega), if_pos rfl]
      rw [eR, eTt]
      refine ⟨hV.1, fun _ => ⟨fS, fun j hj => ?_, fun j hj hz => ?_⟩⟩
      · obtain ⟨d1, d2, d3⟩ := ((h4 q hq).2.1 j).mp hj
        obtain ⟨b1, b2⟩ := (h4 q hq).2.2 j hj
        rw [til j d1, hV.2.2.1, hV.2.2.2.1, eL j d1]
        exact ⟨d2, b1, b2⟩
      · rw [fQ j hj] at hz
        have z : zd_loose μ (nI q) j = true := by
          cases hc : zd_loose μ (nI q) j with
          | true => rfl
          | false =>
            rw [hc, if_neg (by decide)] at hz
            exact absurd rfl hz
        obtain ⟨z1, z2, z3, z4⟩ := of_decide_eq_true z
        rw [th j hj, wo j hj 3 (by decide)]
        exact ⟨decide_eq_true z1, z4, z2⟩
    · have eR : zd_goR Rs s o R2 (3 + q) = Rs (3 + q) := by
        unfold zd_goR
        rw [if_neg (by omega), if_neg (by omega), if_neg (by omega)]
      have eTt : zd_goT ts s o t2 (3 + q) = ts (3 + q) := by
        unfold zd_goT
        rw [if_neg (by omega), if_neg (by omega), if_neg (by omega)]
      rw [eR, eTt]
      obtain ⟨c1, c2⟩ := h6 q hq
      refine ⟨zt_C_19 (eV q hq e) c1, fun z => ?_⟩
      rw [(eS q hq e).2.1] at z
      obtain ⟨b1, b2, b3⟩ := c2 z
      refine ⟨by rw [(eS q hq e).1]; exact b1, fun j hj => ?_, fun j hj hz => ?_⟩
      · have hj10 := c1.1.1.2.2 j hj
        rw [eV q hq e 5 (by omega), eV q hq e 6 (by omega), eL j hj10, til j hj10]
        exact b2 j hj
      · rw [(eS q hq e).2.2] at hz
        rw [th j hj, wo j hj 3 (by decide)]
        exact b3 j hj hz
  · by_cases e2 : q = s
    · rw [e2, fS] at hqt
      exact absurd rfl hqt
    · rw [(eS q hq e2).1] at hqt
      obtain ⟨b1, b2⟩ := h7 q hq hqt
      rw [eZ q hq]
      refine ⟨b1, ?_⟩
      by_cases e : q = o
      · subst e
        have eR : zd_goR Rs s q R2 q = R2 := if_pos rfl
        have eTt : zd_goT ts s q t2 q = t2 := if_pos rfl
        rw [eR, eTt]
        exact hfit
      · have eR : zd_goR Rs s o R2 q = Rs q := by
          unfold zd_goR
          rw [if_neg e, if_neg e2, if_neg (by omega)]
        have eTt : zd_goT ts s o t2 q = ts q := by
          unfold zd_goT
          rw [if_neg e, if_neg e2, if_neg (by omega)]
        rw [eR, eTt]
        have r := eT q hq e2 e
        rw [zt_fit_copy (A := μ) (T := zdT q) ⟨r _ (by omega), r _ (by omega), r _ (by omega), r _ (by omega), r _ (by omega), r _ (by omega)⟩ (eZ q hq)]
        exact b2
end ZGJ
end
section
/-! the desk: gone -/
section ZGO
variable {μ ν : zm_M} {row stk : List Nat} {Rs : Nat → List Nat} {ts : Nat → zy_F}
/-- the trial tree when the screen s goes to o -/
noncomputable def zd_gtr (μ ν2 : zm_M) (Rs : Nat → List Nat) (ts : Nat → zy_F) (s o : Nat) (emp : Bool) (W : List Nat) : Prop :=
  ∃ ν1, zt_frT 7 μ ν1 ∧ zt_isCopy μ (zdT o) ν1 7 ∧ zt_C ν1 7 (Rs o) (ts o) ∧ (emp = true → ts o = .nil ∧ Rs o = []) ∧ (emp = false → zy_wf (ts o)) ∧ W = (zy_lvs (ts s)).flatMap (zt_tb μ (zdT s) (Rs s)) ∧ zt_AD ν1 7 (zdT s) (Rs o) (ts o) emp W ν2
noncomputable def zd_gon (μ ν : zm_M) (Rs Rs' : Nat → List Nat) (ts ts' : Nat → zy_F) (w : Int32) : Prop :=
  ((¬ ∃ s o, s < 3 ∧ o < 3 ∧ w = nI s ∧ ¬ μ (zdS s) 3 = 0 ∧ zd_lsb μ (nI s) = nI o) ∧ ν = μ ∧ Rs' = Rs ∧ ts' = ts) ∨
  ∃ s o ν2 emp W n0, s < 3 ∧ o < 3 ∧ s ≠ o ∧ w = nI s ∧ ¬ μ (zdS s) 3 = 0 ∧ ¬ μ (zdS o) 3 = 0 ∧ zd_lsb μ (nI s) = nI o ∧ zd_gtr μ ν2 Rs ts s o emp W ∧ zt_C ν2 7 (Rs o ++ W) (zy_ad emp (ts o) W n0) ∧
    (((zt_fit ν2 7 (zdZ o) (Rs o ++ W) (zy_ad emp (ts o) W n0) = false ∨ zl_al (zd_lwf μ (nI s) (zdZ o)) 10 = false) ∧ zJ_eqv μ ν ∧ Rs' = Rs ∧ ts' = ts) ∨
     ((zt_fit ν2 7 (zdZ o) (Rs o ++ W) (zy_ad emp (ts o) W n0) = true ∧ zl_al (zd_lwf μ (nI s) (zdZ o)) 10 = true) ∧ Rs' = zd_goR Rs s o (Rs o ++ W) ∧ ts' = zd_goT ts s o (zy_ad emp (ts o) W n0) ∧
       (∀ c d, ¬ zJ_irr c → zt_out (zdT s) c → zt_out (zdT o) c → zt_out (zdV s) c → c ≠ zdQ s → ¬ (c = zdK s ∧ d = 3) → ¬ (c = zdS s ∧ d = 3) → (∀ j, j < 10 → c = zdW j → d ≠ 5) → ν c d = μ c d) ∧ ν (zdS s) 3 = 0 ∧ ν (zdK s) 3 = (if 0 < zl_ct (zd_on μ (nI s)) 10 then 1 else 0) ∧
       (∀ j, j < 10 → ν (zdW j) 5 = if zd_on μ (nI s) j = true then nI o else μ (zdW j) 5) ∧ (∀ j, j < 10 → ν (zdQ s) j = if zd_loose μ (nI s) j = true then 1 else 0) ∧ zt_isCopy μ (zdT s) ν (zdV s) ∧ zt_isCopy ν2 7 ν (zdT o)))
set_option maxRecDepth 100000 in
theorem ze_gone (D : Nat) (h : zJ μ row stk Rs ts) (w : Int32) : ∃ ν r Rs' ts', ze_E (D + 7) A_Desk_gone [.ref 1, .int w] (zm_mk μ) (some (.int r)) (zm_mk ν) ∧ zJ ν row stk Rs' ts' ∧ zd_gon μ ν Rs Rs' ts ts' w := by
  have n4 : Int32.ofInt (-1000000001) = -1000000001 := by decide
  have n2 : Int32.ofInt (-1000000002) = -1000000002 := by decide
  have inj3 : ∀ {x y : Nat}, x < 3 → y < 3 → nI x = nI y → x = y := fun hx hy e => (nI_eq (by omega) (by omega)).mp e
  rcases zd_rng w 3 (by decide) with ⟨s, hs, rfl⟩ | hout
  rotate_left
  · obtain ⟨N1, E1⟩ := ze_isScreen_out (h := zm_mk μ) (D + 5) hout
    refine ⟨μ, -1000000001, Rs, ts, ze_in [(0, .ref 1), (1, .int w)] zq_Desk_gone (Nat.le_of_ble_eq_true rfl) rfl ⟨N1, 5, fun F n hF => ?_⟩, h, Or.inl ⟨fun ⟨s, o, q1, _, q2, _⟩ => ?_, rfl, rfl, rfl⟩⟩
    · simp [zg_0, zg_aaload, zg_aload_n, zg_astore_n, zg_getfield, zg_iconst, zg_ifCond, zg_iload, zg_iload_n, zg_invokestatic, zg_invokevirtual, zg_ireturn, zg_istore, zg_istore_n, zg_ldc, zg_putfield, zf_X5_gone, zi_ld, zi_lda, zi_cmp, zi_retOk, zi_isI, zi_f3, zi_cr, zi_ci, zi_cn, zi_get, zi_set, zq_Desk_isScreen, E1 F (by omega), n4]
    · rw [q2] at hout
      exact hout.elim (nI_pos (by omega)) (nI_ge (b := 3) q1 (by decide))
  obtain ⟨N1, E1⟩ := ze_isScreen_in (h := zm_mk μ) (D + 5) hs
  obtain ⟨N2, E2⟩ := ze_leastScreenBut (μ := μ) (D + 5) (nI s)
  by_cases c1 : μ (zdS s) 3 = 0
  · generalize zd_lsb μ (nI s) = v at E2
    refine ⟨μ, -1000000002, Rs, ts, ze_in [(0, .ref 1), (1, .int (nI s))] zq_Desk_gone (Nat.le_of_ble_eq_true rfl) rfl ⟨N1 + N2, 15, fun F n hF => ?_⟩, h, Or.inl ⟨fun ⟨s', o, q1, _, q2, q3, _⟩ => q3 (by rw [← inj3 hs q1 q2]; exact c1), rfl, rfl, rfl⟩⟩
    simp [zg_0, zg_aaload, zg_aload_n, zg_astore_n, zg_getfield, zg_iconst, zg_ifCond, zg_iload, zg_iload_n, zg_invokestatic, zg_invokevirtual, zg_ireturn, zg_istore, zg_istore_n, zg_ldc, zg_putfield, zf_X5_gone, zi_ld, zi_lda, zi_cmp, zi_retOk, zi_isI, zi_f3, zi_cr, zi_ci, zi_cn, zi_get, zi_set, zq_Desk_isScreen, E1 F (by omega), zq_Desk_leastScreenBut, zd_c, E2 F (by omega), zd_g, zd_s hs, zdS_g hs, c1, n2]
  rcases zd_lsb_or (μ := μ) (nI s) with e1 | ⟨o, ho, e1, hne, hot⟩
  · rw [e1] at E2
    have cm : ¬ (0 : Int32) ≤ -1 := by decide
    refine ⟨μ, -1000000002, Rs, ts, ze_in [(0, .ref 1), (1, .int (nI s))] zq_Desk_gone (Nat.le_of_ble_eq_true rfl) rfl ⟨N1 + N2, 17, fun F n hF => ?_⟩, h, Or.inl ⟨fun ⟨s', o, q1, q2, q3, _, q4⟩ => ?_, rfl, rfl, rfl⟩⟩
    · simp [zg_0, zg_aaload, zg_aload_n, zg_astore_n, zg_getfield, zg_iconst, zg_ifCond, zg_iload, zg_iload_n, zg_invokestatic, zg_invokevirtual, zg_ireturn, zg_istore, zg_istore_n, zg_ldc, zg_putfield, zf_X5_gone, zi_ld, zi_lda, zi_cmp, zi_retOk, zi_isI, zi_f3, zi_cr, zi_ci, zi_cn, zi_get, zi_set, zq_Desk_isScreen, E1 F (by omega), zq_Desk_leastScreenBut, zd_c, E2 F (by omega), zd_g, zd_s hs, zdS_g hs, c1, cm, n2]
    · rw [← q3, e1] at q4
      have : nI o < 0 := by rw [← q4]; decide
      exact nI_pos (by omega) this
  rw [e1] at E2
  have hso : s ≠ o := fun e => hne (by rw [e])
  have co : (0 : Int32) ≤ nI o := nI_pos' (by omega)
  obtain ⟨Co, mo, lo⟩ := h.2.2.2.1 o ho
  obtain ⟨Cs, ms, ls⟩ := h.2.2.2.1 s hs
  -- the trial
  obtain ⟨ν1, ⟨N3, E3⟩, C1, f1, cp1⟩ := ze_Tree_copyFrom (μ := μ) (D + 2) zd7_at (zdT_at ho) (by unfold zdT; omega) Co.1
  have rs1 : ∀ j, ν1 (zdT s + j) = μ (zdT s + j) := fun j => f1 _ (by unfold zt_out zdT; omega)
  have Cs1 : zt_C ν1 (zdT s) (Rs s) (ts s) := zt_C_19 (fun j _ => rs1 j) Cs
  have hdis : ∀ j ∈ Rs s, j ∉ Rs o := fun j q1 q2 => hso (inj3 hs ho (((ms j).mp q1).2.2.symm.trans ((mo j).mp q2).2.2))
  obtain ⟨emp, he, he'⟩ : ∃ emp : Bool, (emp = true → ts o = .nil ∧ Rs o = []) ∧ (emp = false → zy_wf (ts o)) := by
    rcases Co.1.2.1.1 with ⟨e, -⟩ | ⟨e, -⟩
    · exact ⟨true, fun _ => ⟨e, zt_I_nil (μ := μ) (T := zdT o) (by rw [← e]; exact Co.1)⟩, fun q => by cases q⟩
    · exact ⟨false, fun q => (by cases q), fun _ => e⟩
  obtain ⟨ν2, ⟨N4, E4⟩, hAD⟩ := ze_Tree_addAllTabs (μ := ν1) (D + 1) zd7_at (zdT_at hs) (by unfold zdT; omega) he he' C1 Cs1 hdis
  have eW : (zy_lvs (ts s)).flatMap (zt_tb ν1 (zdT s) (Rs s)) = (zy_lvs (ts s)).flatMap (zt_tb μ (zdT s) (Rs s)) := by
    have : zt_tb ν1 (zdT s) (Rs s) = zt_tb μ (zdT s) (Rs s) := funext fun n => zt_tb_congr (rs1 3)
    rw [this]
  rw [eW] at hAD
  generalize hW : (zy_lvs (ts s)).flatMap (zt_tb μ (zdT s) (Rs s)) = W at hAD
  have hWm : ∀ j, j ∈ W ↔ j ∈ Rs s := fun j => by
    rw [← hW, List.mem_flatMap]
    constructor
    · rintro ⟨n, -, q⟩
      exact (zt_tb_mem.mp q).1
    · intro q
      obtain ⟨n, hn, en⟩ := Cs.1.2.2.2.1 j q
      exact ⟨n, hn, zt_tb_mem.mpr ⟨q, en⟩⟩
  have hgtr : zd_gtr μ ν2 Rs ts s o emp W := ⟨ν1, f1, cp1, C1, he, he', hW.symm, hAD⟩
  obtain ⟨n0, C2, f2, -, a3, a5, a6, -⟩ := id hAD
  have fr2 : zt_frT 7 μ ν2 := f1.trans f2
  have ev2 : zJ_eqv μ ν2 := fun c hc => fr2 c (zJn_7 hc)
  generalize ht2 : zy_ad emp (ts o) W n0 = t2 at C2
  obtain ⟨N5, E5⟩ := ze_fitsC (μ := ν2) (D + 4) zd7_at C2 (zdZ_A ho)
  obtain ⟨N6, E6⟩ := ze_looseOnesFit (μ := ν2) (D + 3) (nI s) (zdZ_A ho)
  have elw : zl_al (zd_lwf ν2 (nI s) (zdZ o)) 10 = zl_al (zd_lwf μ (nI s) (zdZ o)) 10 := by
    have key : ∀ j, j < 10 → zd_lwf ν2 (nI s) (zdZ o) j = zd_lwf μ (nI s) (zdZ o) j := fun j hj => by
      unfold zd_lwf zd_loose zd_whole
      rw [ev2 _ (zJn_W hj).1, ev2 _ (zJn_W hj).2, ev2 _ (zJn_S ho).2.1]
    cases hc : zl_al (zd_lwf μ (nI s) (zdZ o)) 10 with
    | true => exact (zl_al_iff 10).mpr (fun j hj => by rw [key j hj]; exact (zl_al_iff 10).mp hc j hj)
    | false =>
      cases hc2 : zl_al (zd_lwf ν2 (nI s) (zdZ o)) 10 with
      | false => rfl
      | true =>
        rw [(zl_al_iff 10).mpr (fun j hj => by rw [← key j hj]; exact (zl_al_iff 10).mp hc2 j hj)] at hc
        cases hc
  rw [zb_dec] at E6
  rw [show (decide (zl_al (zd_lwf ν2 (nI s) (zdZ o)) 10 = true)) = zl_al (zd_lwf μ (nI s) (zdZ o)) 10 by rw [elw]; cases zl_al (zd_lwf μ (nI s) (zdZ o)) 10 <;> rfl] at E6
  have S0 : ze_S (D + 6) 5 (some .int) zc_X5_gone 0 [(0, .ref 1), (1, .int (nI s))] [] (zm_mk μ) 69 [(3, .ref (zdS s + 1)), (2, .int (nI o)), (0, .ref 1), (1, .int (nI s))] [] (zm_mk ν2) := by
    obtain ⟨q7, d7⟩ := zt_c (μ := μ) zd7_at
    obtain ⟨q8, d8⟩ := zt_c (μ := ν1) zd7_at
    refine ⟨N1 + N2 + N3 + N4, 33, fun F n hF => ?_⟩
    simp [zg_0, zg_aaload, zg_aload_n, zg_astore_n, zg_getfield, zg_iconst, zg_ifCond, zg_iload, zg_iload_n, zg_invokestatic, zg_invokevirtual, zg_ireturn, zg_istore, zg_istore_n, zg_ldc, zg_putfield, zf_X5_gone, zi_ld, zi_lda, zi_cmp, zi_retOk, zi_isI, zi_f3, zi_cr, zi_ci, zi_cn, zi_get, zi_set, zq_Desk_isScreen, E1 F (by omega), zq_Desk_leastScreenBut, zd_c, E2 F (by omega), zd_g, zd_s hs, zd_s ho, zdS_g hs, zdS_g ho, c1, co, zq_Tree_copyFrom, d7, E3 F (by omega), zq_Tree_addAllTabs, d8, E4 F (by omega)]
  obtain ⟨q7, d7⟩ := zt_c (μ := ν2) zd7_at
  have refuse : (zt_fit ν2 7 (zdZ o) (Rs o ++ W) t2 = false ∨ zl_al (zd_lwf μ (nI s) (zdZ o)) 10 = false) → ze_G (D + 6) 5 (some .int) zc_X5_gone 69 [(3, .ref (zdS s + 1)), (2, .int (nI o)), (0, .ref 1), (1, .int (nI s))] [] (zm_mk ν2) (some (.int (-1000000002))) (zm_mk ν2) → ∃ ν r Rs' ts', ze_E (D + 7) A_Desk_gone [.ref 1, .int (nI s)] (zm_mk μ) (some (.int r)) (zm_mk ν) ∧ zJ ν row stk Rs' ts' ∧ zd_gon μ ν Rs Rs' ts ts' (nI s) := fun hc G =>
    ⟨ν2, _, Rs, ts, ze_in [(0, .ref 1), (1, .int (nI s))] zq_Desk_gone (Nat.le_of_ble_eq_true rfl) rfl (S0.end G), h.eqv ev2, Or.inr ⟨s, o, ν2, emp, W, n0, hs, ho, hso, rfl, c1, hot, e1, hgtr, by rw [ht2]; exact C2, Or.inl ⟨by rw [ht2]; exact hc, ev2, rfl, rfl⟩⟩⟩
  cases hfit : zt_fit ν2 7 (zdZ o) (Rs o ++ W) t2 with
  | false =>
    rw [hfit, if_neg (by decide)] at E5
    refine refuse (Or.inl hfit) ⟨N5, 11, fun F n hF => ?_⟩
    simp [zg_0, zg_aaload, zg_aload_n, zg_astore_n, zg_getfield, zg_iconst, zg_ifCond, zg_iload, zg_iload_n, zg_invokestatic, zg_invokevirtual, zg_ireturn, zg_istore, zg_istore_n, zg_ldc, zg_putfield, zf_X5_gone, zi_ld, zi_lda, zi_cmp, zi_retOk, zi_isI, zi_f3, zi_cr, zi_ci, zi_cn, zi_get, zi_set, zd_g, zd_s ho, zdS_g ho, zq_Tree_fits, d7, E5 F (by omega), n2]
  | true =>
    rw [hfit, if_pos rfl] at E5
    cases hlw : zl_al (zd_lwf μ (nI s) (zdZ o)) 10 with
    | false =>
      rw [hlw, if_neg (by decide)] at E6
      refine refuse (Or.inr hlw) ⟨N5 + N6, 20, fun F n hF => ?_⟩
      simp [zg_0, zg_aaload, zg_aload_n, zg_astore_n, zg_getfield, zg_iconst, zg_ifCond, zg_iload, zg_iload_n, zg_invokestatic, zg_invokevirtual, zg_ireturn, zg_istore, zg_istore_n, zg_ldc, zg_putfield, zf_X5_gone, zi_ld, zi_lda, zi_cmp, zi_retOk, zi_isI, zi_f3, zi_cr, zi_ci, zi_cn, zi_get, zi_set, zd_g, zd_s ho, zdS_g ho, zq_Tree_fits, d7, E5 F (by omega), zq_Desk_looseOnesFit, zd_c, E6 F (by omega), n2]
    | true =>
      rw [hlw, if_pos rfl] at E6
      have wall : ∀ j, ν2 (zdW j) = μ (zdW j) := fun j => fr2 _ (by unfold zt_out zdW; omega)
      have eon : zd_on ν2 (nI s) = zd_on μ (nI s) := funext fun j => by unfold zd_on; rw [wall]
      have elo : ∀ j, zd_loose ν2 (nI s) j = zd_loose μ (nI s) j := fun j => by unfold zd_loose; rw [wall]
      obtain ⟨N7, E7⟩ := ze_windowsOn (μ := ν2) (D + 4) (nI s)
      generalize nI (zl_ct (zd_on ν2 (nI s)) 10) = mv at E7
      have rs2 : ∀ j, ν2 (zdT s + j) = μ (zdT s + j) := fun j => fr2 _ (by unfold zt_out zdT; omega)
      have I2 : zt_I ν2 (zdT s) (Rs s) (ts s) := (zt_C_19 (fun j _ => rs2 j) Cs).1
      obtain ⟨ν3, ⟨N8, E8⟩, C3, ⟨v3, v5, v6, v7, v8, v12⟩, k3, q3, f3⟩ := ze_keepAll (μ := ν2) (D + 1) hs I2
      rw [eon] at k3
      have w3 : ∀ j, j < 10 → ν3 (zdW j) = μ (zdW j) := fun j hj => by
        rw [← wall j]
        funext d
        exact f3 _ _ (by unfold zt_out zdV zdW; omega) (by unfold zdQ zdW; omega) (by unfold zdP zdW; omega) (by unfold zdP zdW; omega) (fun e => by have := e.1; unfold zdK zdW at this; omega)
      obtain ⟨ν4, ⟨N9, E9⟩, s5, s4⟩ := ze_sendAll (μ := ν3) D (nI s) ho
      have on3 : ∀ j, j < 10 → zd_on ν3 (nI s) j = zd_on μ (nI s) j := fun j hj => by unfold zd_on; rw [w3 j hj]
      have r4 : ∀ c, (∀ j, j < 10 → c ≠ zdW j) → (∀ j, j < 10 → c ≠ zdW j + 2) → ν4 c = ν3 c := fun c a1 a2 => funext fun d => s4 c d (fun j hj e => absurd e (a1 j hj)) a2
      have t4 : ∀ c, 7 ≤ c → c < 31 → ν4 c = ν2 c := fun c h1 h2 => by
        rw [r4 c (fun j hj => by unfold zdW; omega) (fun j hj => by unfold zdW; omega)]
        funext d
        exact f3 c d (by unfold zt_out zdV; omega) (by unfold zdQ; omega) (by unfold zdP; omega) (by unfold zdP; omega) (fun e => by have := e.1; unfold zdK at this; omega)
      obtain ⟨ν5, ⟨N10, E10⟩, C5, f5, x3, x5, x6, x7, x8, x12⟩ := ze_Tree_copyFrom (μ := ν4) (D + 2) (zdT_at ho) zd7_at (by unfold zdT; omega) (zt_C_congr (fun c h1 h2 => t4 c h1 (by omega)) C2).1
      obtain ⟨ν6, ⟨N11, E11⟩, C6, f6⟩ := ze_Tree_clearI (μ := ν5) (D + 4) (zdT_at hs)
      have u7 : ∀ c, c ≠ zdS s → zm_up ν6 (zdS s) 3 0 c = ν6 c := fun c hc => zm_up_row hc
      have cpo : zt_isCopy ν2 7 (zm_up ν6 (zdS s) 3 0) (zdT o) := by
        have r : ∀ j, j < 24 → zm_up ν6 (zdS s) 3 0 (zdT o + j) = ν5 (zdT o + j) := fun j hj => by
          rw [u7 _ (by unfold zdT zdS; omega), f6 _ (by unfold zt_out zdT; omega)]
        exact ⟨(r 3 (by omega)).trans (x3.trans (t4 _ (by omega) (by omega))), (r 5 (by omega)).trans (x5.trans (t4 _ (by omega) (by omega))), (r 6 (by omega)).trans (x6.trans (t4 _ (by omega) (by omega))), (r 7 (by omega)).trans (x7.trans (t4 _ (by omega) (by omega))), (r 8 (by omega)).trans (x8.trans (t4 _ (by omega) (by omega))), (r 12 (by omega)).trans (x12.trans (t4 _ (by omega) (by omega)))⟩
      have rV : ∀ j, j < 24 → zm_up ν6 (zdS s) 3 0 (zdV s + j) = ν3 (zdV s + j) := fun j hj => by
        rw [u7 _ (by unfold zdV zdS; omega), f6 _ (by unfold zt_out zdV zdT; omega), f5 _ (by unfold zt_out zdV zdT; omega), r4 _ (fun i hi => by unfold zdV zdW; omega) (fun i hi => by unfold zdV zdW; omega)]
      have cpV : zt_isCopy μ (zdT s) (zm_up ν6 (zdS s) 3 0) (zdV s) := ⟨(rV 3 (by omega)).trans (v3.trans (rs2 _)), (rV 5 (by omega)).trans (v5.trans (rs2 _)), (rV 6 (by omega)).trans (v6.trans (rs2 _)), (rV 7 (by omega)).trans (v7.trans (rs2 _)), (rV 8 (by omega)).trans (v8.trans (rs2 _)), (rV 12 (by omega)).trans (v12.trans (rs2 _))⟩
      have CV : zt_C (zm_up ν6 (zdS s) 3 0) (zdV s) (Rs s) (ts s) := zt_C_congr (fun c h1 h2 => by have := rV (c - zdV s) (by omega); rw [show zdV s + (c - zdV s) = c by omega] at this; exact this) C3
      have CE : zt_C (zm_up ν6 (zdS s) 3 0) (zdT s) [] .nil := zt_C_congr (fun c h1 h2 => u7 c (by unfold zdT at h1; unfold zdS; omega)) C6
      have CO : zt_C (zm_up ν6 (zdS s) 3 0) (zdT o) (Rs o ++ W) t2 := zt_C_congr (fun c h1 h2 => by rw [u7 c (by unfold zdT at h1 h2; unfold zdS; omega)]; exact f6 c (by unfold zt_out; unfold zdT at *; omega)) C5
      have fr7 : ∀ c d, ¬ zJ_irr c → zt_out (zdT s) c → zt_out (zdT o) c → zt_out (zdV s) c → c ≠ zdQ s → ¬ (c = zdK s ∧ d = 3) → ¬ (c = zdS s ∧ d = 3) → (∀ j, j < 10 → c = zdW j → d ≠ 5) → zm_up ν6 (zdS s) 3 0 c d = μ c d := fun c d a1 a2 a3 a4 a5 a6 a7 a8 => by
        rw [zm_up_ne a7, f6 c a2, f5 c a3, s4 c d a8 (fun j hj e => a1 (by rw [e]; unfold zJ_irr zdW; omega)), f3 c d a4 a5 (fun e => a1 (by rw [e]; unfold zJ_irr zdP; omega)) (fun e => a1 (by rw [e]; unfold zJ_irr zdP; omega)) a6, ev2 c a1]
      have fK7 : zm_up ν6 (zdS s) 3 0 (zdK s) 3 = if 0 < zl_ct (zd_on μ (nI s)) 10 then 1 else 0 := by
        rw [u7 _ (by unfold zdK zdS; omega), f6 _ (by unfold zt_out zdK zdT; omega), f5 _ (by unfold zt_out zdK zdT; omega), r4 _ (fun i hi => by unfold zdK zdW; omega) (fun i hi => by unfold zdK zdW; omega)]
        exact k3
      have fW7 : ∀ j, j < 10 → zm_up ν6 (zdS s) 3 0 (zdW j) 5 = if zd_on μ (nI s) j = true then nI o else μ (zdW j) 5 := fun j hj => by
        rw [u7 _ (by unfold zdW zdS; omega), f6 _ (by unfold zt_out zdW zdT; omega), f5 _ (by unfold zt_out zdW zdT; omega), s5 j hj, w3 j hj]
        simp only [on3 j hj]
      have fQ7 : ∀ j, j < 10 → zm_up ν6 (zdS s) 3 0 (zdQ s) j = if zd_loose μ (nI s) j = true then 1 else 0 := fun j hj => by
        rw [u7 _ (by unfold zdQ zdS; omega), f6 _ (by unfold zt_out zdQ zdT; omega), f5 _ (by unfold zt_out zdQ zdT; omega), r4 _ (fun i hi => by unfold zdQ zdW; omega) (fun i hi => by unfold zdQ zdW; omega), q3 j hj]
        simp only [elo j]
      have hz7 : zm_up ν6 (zdS s) 3 0 (zdZ o) = ν2 (zdZ o) := by
        funext d
        rw [fr7 _ _ (zJn_S ho).2.1 (zJn_out hs (Or.inr (Or.inr (Or.inl ⟨o, ho, Or.inr (Or.inl rfl)⟩)))) (zJn_out ho (Or.inr (Or.inr (Or.inl ⟨o, ho, Or.inr (Or.inl rfl)⟩)))) (by unfold zt_out zdZ zdV; omega) (by unfold zdZ zdQ; omega) (fun e => by have := e.1; unfold zdZ zdK at this; omega) (fun e => by have := e.1; unfold zdZ zdS at this; omega) (fun j hj e => by unfold zdZ zdW at e; omega), ev2 _ (zJn_S ho).2.1]
      have hJ7 := zJ_gone h hs ho hso hot (R2 := Rs o ++ W) (t2 := t2) fr7 zm_up_eq fW7 fQ7 ⟨CV, cpV⟩ CE CO (fun j => by rw [List.mem_append, hWm j]) (fun j hj => by
        rw [cpo.2.1, cpo.2.2.1, a5 j, a6 j]
        by_cases c : j ∈ W
        · have hjs := (hWm j).mp c
          rw [if_pos c, if_pos c, rs1, rs1]
          exact ls j hjs
        · have hjo : j ∈ Rs o := by
            rcases List.mem_append.mp hj with q | q
            · exact q
            · exact absurd q c
          rw [if_neg c, if_neg c, cp1.2.1, cp1.2.2.1]
          exact lo j hjo) (by
        rw [zt_fit_copy (A := ν2) (T := 7) cpo hz7]
        exact hfit)
      refine ⟨zm_up ν6 (zdS s) 3 0, mv, _, _, ze_in [(0, .ref 1), (1, .int (nI s))] zq_Desk_gone (Nat.le_of_ble_eq_true rfl) rfl (S0.end (ze_S.end (p2 := 115) (L2 := [(4, .int mv), (3, .ref (zdS s + 1)), (2, .int (nI o)), (0, .ref 1), (1, .int (nI s))]) (s2 := []) (h2 := zm_mk ν2) ⟨N5 + N6 + N7, 22, fun F n hF => ?_⟩ ⟨N8 + N9 + N10 + N11, 23, fun F n hF => ?_⟩)), hJ7, Or.inr ⟨s, o, ν2, emp, W, n0, hs, ho, hso, rfl, c1, hot, e1, hgtr, by rw [ht2]; exact C2, Or.inr ⟨⟨by rw [ht2]; exact hfit, hlw⟩, rfl, by rw [ht2], fr7, zm_up_eq, fK7, fW7, fQ7, cpV, cpo⟩⟩⟩
      · simp [zg_0, zg_aaload, zg_aload_n, zg_astore_n, zg_getfield, zg_iconst, zg_ifCond, zg_iload, zg_iload_n, zg_invokestatic, zg_invokevirtual, zg_ireturn, zg_istore, zg_istore_n, zg_ldc, zg_putfield, zf_X5_gone, zi_ld, zi_lda, zi_cmp, zi_retOk, zi_isI, zi_f3, zi_cr, zi_ci, zi_cn, zi_get, zi_set, zd_g, zd_s ho, zdS_g ho, zq_Tree_fits, d7, E5 F (by omega), zq_Desk_looseOnesFit, zd_c, E6 F (by omega), zq_Desk_windowsOn, E7 F (by omega)]
      · obtain ⟨y4, z4⟩ := zt_c (μ := ν4) (zdT_at ho)
        obtain ⟨y5, z5⟩ := zt_c (μ := ν5) (zdT_at hs)
        simp [zg_0, zg_aaload, zg_aload_n, zg_astore_n, zg_getfield, zg_iconst, zg_ifCond, zg_iload, zg_iload_n, zg_invokestatic, zg_invokevirtual, zg_ireturn, zg_istore, zg_istore_n, zg_ldc, zg_putfield, zf_X5_gone, zi_ld, zi_lda, zi_cmp, zi_retOk, zi_isI, zi_f3, zi_cr, zi_ci, zi_cn, zi_get, zi_set, zd_g, zd_s ho, zdS_g ho, zdS_g hs, zq_Desk_keepAll, zd_c, E8 F (by omega), zq_Desk_sendAll, E9 F (by omega), zq_Tree_copyFrom, z4, E10 F (by omega), zq_Tree_clear, z5, E11 F (by omega), zdS_p3 hs (Or.inl rfl)]
end ZGO
end
section
/-! the desk: a screen's size -/
section ZSZ
variable {μ ν : zm_M} {row stk : List Nat} {Rs : Nat → List Nat} {ts : Nat → zy_F}
theorem zJ_size (h : zJ μ row stk Rs ts) {z : Nat} (hz : z < 3) (e : ∀ c, ¬ zJ_irr c → c ≠ zdZ z → ν c = μ c) (hsz : 40 ≤ ν (zdZ z) 0 ∧ ν (zdZ z) 0 ≤ 400 ∧ 40 ≤ ν (zdZ z) 1 ∧ ν (zdZ z) 1 ≤ 400) (hfit : ¬ μ (zdS z) 3 = 0 → zt_fit ν (zdT z) (zdZ z) (Rs z) (ts z) = true) : zJ ν row stk Rs ts := by
  obtain ⟨h1, h2, h3, h4, h5, h6⟩ := h
  have eW : ∀ k, k < 10 → ν (zdW k) = μ (zdW k) := fun k hk => e _ (zJn_W hk).1 (by unfold zdW zdZ; omega)
  have eL : ∀ k, k < 10 → ν (zdW k + 1) = μ (zdW k + 1) := fun k hk => e _ (zJn_W hk).2 (by unfold zdW zdZ; omega)
  have eT : ∀ s, s < 3 → ∀ j, j < 19 → ν (zdT s + j) = μ (zdT s + j) := fun s hs j hj => e _ (zJn_T hs hj).1 (by unfold zdT zdZ; omega)
  have eV : ∀ s, s < 3 → ∀ j, j < 19 → ν (zdV s + j) = μ (zdV s + j) := fun s hs j hj => e _ (zJn_T hs hj).2 (by unfold zdV zdZ; omega)
  have eS : ∀ s, s < 3 → ν (zdS s) = μ (zdS s) ∧ ν (zdK s) = μ (zdK s) ∧ ν (zdQ s) = μ (zdQ s) := fun s hs => ⟨e _ (zJn_S hs).1 (by unfold zdS zdZ; omega), e _ (zJn_S hs).2.2.1 (by unfold zdK zdZ; omega), e _ (zJn_S hs).2.2.2 (by unfold zdQ zdZ; omega)⟩
  have e0 : ∀ c, c < 7 → ν c = μ c := fun c hc => e _ (zJn_0 hc) (by unfold zdZ; omega)
  have th : ∀ k, k < 10 → zd_th ν k = zd_th μ k := fun k hk => by unfold zd_th; rw [eW k hk]
  have til : ∀ k, k < 10 → zd_til ν k = zd_til μ k := fun k hk => by unfold zd_til; rw [eW k hk]
  refine ⟨⟨zr_L_congr (e0 _ (by decide)) (e0 _ (by decide)) h1.1, h1.2.1, fun k => ?_⟩, ⟨zr_L_congr (e0 _ (by decide)) (e0 _ (by decide)) h2.1, h2.2⟩, fun k hk ht => ?_, fun s hs => ?_, fun s hs => ?_, fun s hs ht => ?_⟩
  · rw [h1.2.2 k]
    constructor
    · rintro ⟨a, b⟩
      exact ⟨a, by rw [th k a]; exact b⟩
    · rintro ⟨a, b⟩
      exact ⟨a, by rw [← th k a]; exact b⟩
  · rw [th k hk] at ht
    obtain ⟨a1, a2, a3, a4, a5⟩ := h3 k hk ht
    rw [eW k hk, eL k hk]
    refine ⟨a1, a2, fun q => ?_, fun q => ?_, a5⟩
    · obtain ⟨s, b1, b2, b3⟩ := a3 q
      exact ⟨s, b1, b2, by rw [(eS s b1).1]; exact b3⟩
    · obtain ⟨o, b1, b2, b3, b4⟩ := a4 q
      exact ⟨o, b1, b2, b3, by rw [th o b1]; exact b4⟩
  · obtain ⟨a1, a2, a3⟩ := h4 s hs
    refine ⟨zt_C_19 (eT s hs) a1, fun k => ?_, fun k hk => ?_⟩
    · rw [a2 k]
      constructor
      · rintro ⟨b1, b2⟩
        exact ⟨b1, by rw [til k b1, eW k b1]; exact b2⟩
      · rintro ⟨b1, b2⟩
        exact ⟨b1, by rw [til k b1, eW k b1] at b2; exact b2⟩
    · have hk10 := ((a2 k).mp hk).1
      rw [eT s hs 5 (by omega), eT s hs 6 (by omega), eL k hk10]
      exact a3 k hk
  · obtain ⟨a1, a2⟩ := h5 s hs
    refine ⟨zt_C_19 (eV s hs) a1, fun q => ?_⟩
    rw [(eS s hs).2.1] at q
    obtain ⟨b1, b2, b3⟩ := a2 q
    refine ⟨by rw [(eS s hs).1]; exact b1, fun k hk => ?_, fun k hk hq => ?_⟩
    · have hk10 := a1.1.1.2.2 k hk
      rw [eV s hs 5 (by omega), eV s hs 6 (by omega), eL k hk10, til k hk10]
      exact b2 k hk
    · rw [(eS s hs).2.2] at hq
      rw [th k hk, eW k hk]
      exact b3 k hk hq
  · rw [(eS s hs).1] at ht
    obtain ⟨a1, a2⟩ := h6 s hs ht
    by_cases c : s = z
    · subst c
      exact ⟨hsz, hfit ht⟩
    · have ez : ν (zdZ s) = μ (zdZ s) := e _ (zJn_S hs).2.1 (by unfold zdZ; omega)
      rw [ez]
      refine ⟨a1, ?_⟩
      unfold zt_fit at *
      rw [zt_lsz_19 (eT s hs) (by decide), zt_lsz_19 (eT s hs) (by decide), ez]
      exact a2
/-- what screen may be asked -/
noncomputable def zd_sarg (w x y : Int32) (s : Nat) : Prop := s < 3 ∧ w = nI s ∧ (40 ≤ x ∧ x ≤ 400) ∧ 40 ≤ y ∧ y ≤ 400
set_option maxRecDepth 100000 in
theorem ze_screen_0 (D : Nat) (w x y : Int32) : ((¬ ∃ s, zd_sarg w x y s) ∧ ze_G (D + 1) 6 (some .int) zc_X5_screen 0 [(0, .ref 1), (1, .int w), (2, .int x), (3, .int y)] [] (zm_mk μ) (some (.int (-1000000001))) (zm_mk μ)) ∨
    ∃ s, zd_sarg w x y s ∧ ze_S (D + 1) 6 (some .int) zc_X5_screen 0 [(0, .ref 1), (1, .int w), (2, .int x), (3, .int y)] [] (zm_mk μ) 46 [(4, .ref (zdS s + 1)), (0, .ref 1), (1, .int w), (2, .int x), (3, .int y)] [] (zm_mk (zm_up (zm_up μ 32 0 x) 32 1 y)) := by
  have n4 : Int32.ofInt (-1000000001) = -1000000001 := by decide
  rcases zd_rng w 3 (by decide) with ⟨s, hs, rfl⟩ | hout
  · obtain ⟨N1, E1⟩ := ze_isScreen_in (h := zm_mk μ) D hs
    obtain ⟨N2, E2⟩ := ze_isScreenSize (h := zm_mk μ) D x
    obtain ⟨N3, E3⟩ := ze_isScreenSize (h := zm_mk μ) D y
    by_cases c2 : 40 ≤ x ∧ x ≤ 400
    · have z2 : zb (40 ≤ x ∧ x ≤ 400) = 1 := if_pos c2
      rw [z2] at E2
      by_cases c3 : 40 ≤ y ∧ y ≤ 400
      · have z3 : zb (40 ≤ y ∧ y ≤ 400) = 1 := if_pos c3
        rw [z3] at E3
        right
        refine ⟨s, ⟨hs, rfl, c2, c3⟩, N1 + N2 + N3, 24, fun F n hF => ?_⟩
        simp [zg_0, zg_aaload, zg_aload, zg_aload_n, zg_astore, zg_getfield, zg_iastore, zg_iconst, zg_ifCond, zg_iload, zg_iload_n, zg_invokestatic, zg_invokevirtual, zg_ireturn, zg_istore, zg_ldc, zg_putfield, zf_X5_screen, zi_ld, zi_lda, zi_cmp, zi_retOk, zi_isI, zi_f3, zi_cr, zi_ci, zi_cn, zi_get, zi_set, zq_Desk_isScreen, E1 F (by omega), zq_Desk_isScreenSize, E2 F (by omega), E3 F (by omega), zd_g, zm_iast zd32_A zm_in0, zm_iast zd32_A zm_in1, zm_cl0, zm_cl1, zd_s hs]
      · have z3 : zb (40 ≤ y ∧ y ≤ 400) = 0 := if_neg c3
        rw [z3] at E3
        left
        refine ⟨fun ⟨s', _, _, _, q⟩ => c3 q, N1 + N2 + N3, 11, fun F n hF => ?_⟩
        simp [zg_0, zg_aaload, zg_aload, zg_aload_n, zg_astore, zg_getfield, zg_iastore, zg_iconst, zg_ifCond, zg_iload, zg_iload_n, zg_invokestatic, zg_invokevirtual, zg_ireturn, zg_istore, zg_ldc, zg_putfield, zf_X5_screen, zi_ld, zi_lda, zi_cmp, zi_retOk, zi_isI, zi_f3, zi_cr, zi_ci, zi_cn, zi_get, zi_set, zq_Desk_isScreen, E1 F (by omega), zq_Desk_isScreenSize, E2 F (by omega), E3 F (by omega), n4]
    · have z2 : zb (40 ≤ x ∧ x ≤ 400) = 0 := if_neg c2
      rw [z2] at E2
      left
      refine ⟨fun ⟨s', _, _, q, _⟩ => c2 q, N1 + N2, 8, fun F n hF => ?_⟩
      simp [zg_0, zg_aaload, zg_aload, zg_aload_n, zg_astore, zg_getfield, zg_iastore, zg_iconst, zg_ifCond, zg_iload, zg_iload_n, zg_invokestatic, zg_invokevirtual, zg_ireturn, zg_istore, zg_ldc, zg_putfield, zf_X5_screen, zi_ld, zi_lda, zi_cmp, zi_retOk, zi_isI, zi_f3, zi_cr, zi_ci, zi_cn, zi_get, zi_set, zq_Desk_isScreen, E1 F (by omega), zq_Desk_isScreenSize, E2 F (by omega), n4]
  · obtain ⟨N1, E1⟩ := ze_isScreen_out (h := zm_mk μ) D hout
    left
    refine ⟨fun ⟨s', q1, q2, _, _⟩ => ?_, N1, 5, fun F n hF => ?_⟩
    · rw [q2] at hout
      exact hout.elim (nI_pos (by omega)) (nI_ge (b := 3) q1 (by decide))
    · simp [zg_0, zg_aaload, zg_aload, zg_aload_n, zg_astore, zg_getfield, zg_iastore, zg_iconst, zg_ifCond, zg_iload, zg_iload_n, zg_invokestatic, zg_invokevirtual, zg_ireturn, zg_istore, zg_ldc, zg_putfield, zf_X5_screen, zi_ld, zi_lda, zi_cmp, zi_retOk, zi_isI, zi_f3, zi_cr, zi_ci, zi_cn, zi_get, zi_set, zq_Desk_isScreen, E1 F (by omega), n4]
/-- a screen that is there: refused, or of another size -/
noncomputable def zd_rsz (μ ν : zm_M) (Rs : Nat → List Nat) (ts : Nat → zy_F) (s : Nat) (x y : Int32) : Prop :=
  ∃ ξ, zJ_eqv μ ξ ∧ ξ 32 0 = x ∧ ξ 32 1 = y ∧
    (((zt_fit ξ (zdT s) 32 (Rs s) (ts s) = false ∨ zl_al (zd_lwf ξ (nI s) 32) 10 = false) ∧ ν = ξ) ∨
     ((zt_fit ξ (zdT s) 32 (Rs s) (ts s) = true ∧ zl_al (zd_lwf ξ (nI s) 32) 10 = true) ∧ (∀ c, ¬ zJ_irr c → c ≠ zdZ s → ν c = μ c) ∧ ν (zdZ s) 0 = x ∧ ν (zdZ s) 1 = y))
set_option maxRecDepth 100000 in
theorem ze_screen_1 (D : Nat) (h : zJ μ row stk Rs ts) {w x y : Int32} {s : Nat} (ha : zd_sarg w x y s) (hst : ¬ μ (zdS s) 3 = 0) : ∃ ν r, ze_E (D + 7) A_Desk_screen [.ref 1, .int w, .int x, .int y] (zm_mk μ) (some (.int r)) (zm_mk ν) ∧ zJ ν row stk Rs ts ∧ zd_rsz μ ν Rs ts s x y := by
  have n2 : Int32.ofInt (-1000000002) = -1000000002 := by decide
  rcases ze_screen_0 (μ := μ) (D + 5) w x y with ⟨hno, -⟩ | ⟨s', ha', S0⟩
  · exact absurd ⟨s, ha⟩ hno
  obtain ⟨hs, rfl, hx, hy⟩ := ha
  have es : s' = s := (nI_eq (by have := ha'.1; omega) (by omega)).mp ha'.2.1.symm
  subst es
  let ξ := zm_up (zm_up μ 32 0 x) 32 1 y
  have rξ : ∀ c, c ≠ 32 → ξ c = μ c := fun c hc => (zm_up_row hc).trans (zm_up_row hc)
  have evξ : zJ_eqv μ ξ := fun c hc => rξ c (fun e => hc (by rw [e]; unfold zJ_irr; omega))
  have x0 : ξ 32 0 = x := (zm_up_ne (by decide)).trans zm_up_eq
  have x1 : ξ 32 1 = y := zm_up_eq
  have hJ := h.eqv evξ
  obtain ⟨C, m, l⟩ := hJ.2.2.2.1 s' hs
  obtain ⟨N1, E1⟩ := ze_fitsC (μ := ξ) (D + 4) (zdT_at hs) C zd32_A
  obtain ⟨N2, E2⟩ := ze_looseOnesFit (μ := ξ) (D + 3) (nI s') zd32_A
  rw [zb_dec, show (decide (zl_al (zd_lwf ξ (nI s') 32) 10 = true)) = zl_al (zd_lwf ξ (nI s') 32) 10 by cases zl_al (zd_lwf ξ (nI s') 32) 10 <;> rfl] at E2
  obtain ⟨lt, ct⟩ := zt_c (μ := ξ) (zdT_at hs)
  have hst' : ¬ ξ (zdS s') 3 = 0 := by rw [rξ _ (by unfold zdS; omega)]; exact hst
  have S0 : ze_S (D + 6) 6 (some .int) zc_X5_screen 0 [(0, .ref 1), (1, .int (nI s')), (2, .int x), (3, .int y)] [] (zm_mk μ) 46 [(4, .ref (zdS s' + 1)), (0, .ref 1), (1, .int (nI s')), (2, .int x), (3, .int y)] [] (zm_mk ξ) := S0
  cases hfit : zt_fit ξ (zdT s') 32 (Rs s') (ts s') with
  | false =>
    rw [hfit, if_neg (by decide)] at E1
    refine ⟨ξ, -1000000002, ze_in [(0, .ref 1), (1, .int (nI s')), (2, .int x), (3, .int y)] zq_Desk_screen (Nat.le_of_ble_eq_true rfl) rfl (S0.end ⟨N1, 11, fun F n hF => ?_⟩), hJ, ξ, evξ, x0, x1, Or.inl ⟨Or.inl hfit, rfl⟩⟩
    simp [zg_0, zg_aaload, zg_aload, zg_aload_n, zg_astore, zg_getfield, zg_iastore, zg_iconst, zg_ifCond, zg_iload, zg_iload_n, zg_invokestatic, zg_invokevirtual, zg_ireturn, zg_istore, zg_ldc, zg_putfield, zf_X5_screen, zi_ld, zi_lda, zi_cmp, zi_retOk, zi_isI, zi_f3, zi_cr, zi_ci, zi_cn, zi_get, zi_set, zdS_g hs, hst', zd_g, zq_Tree_fits, ct, E1 F (by omega), n2]
  | true =>
    rw [hfit, if_pos rfl] at E1
    cases hlw : zl_al (zd_lwf ξ (nI s') 32) 10 with
    | false =>
      rw [hlw, if_neg (by decide)] at E2
      refine ⟨ξ, -1000000002, ze_in [(0, .ref 1), (1, .int (nI s')), (2, .int x), (3, .int y)] zq_Desk_screen (Nat.le_of_ble_eq_true rfl) rfl (S0.end ⟨N1 + N2, 17, fun F n hF => ?_⟩), hJ, ξ, evξ, x0, x1, Or.inl ⟨Or.inr hlw, rfl⟩⟩
      simp [zg_0, zg_aaload, zg_aload, zg_aload_n, zg_astore, zg_getfield, zg_iastore, zg_iconst, zg_ifCond, zg_iload, zg_iload_n, zg_invokestatic, zg_invokevirtual, zg_ireturn, zg_istore, zg_ldc, zg_putfield, zf_X5_screen, zi_ld, zi_lda, zi_cmp, zi_retOk, zi_isI, zi_f3, zi_cr, zi_ci, zi_cn, zi_get, zi_set, zdS_g hs, hst', zd_g, zq_Tree_fits, ct, E1 F (by omega), zq_Desk_looseOnesFit, zd_c, E2 F (by omega), n2]
    | true =>
      rw [hlw, if_pos rfl] at E2
      obtain ⟨N3, E3⟩ := ze_setSize (μ := ξ) (D + 5) hs
      rw [x0, x1] at E3
      let ξ2 := zm_up (zm_up ξ (zdZ s') 0 x) (zdZ s') 1 y
      have m2 : zm_up (zm_up ξ (zdZ s') 0 x) (zdZ s') 1 y = ξ2 := rfl
      rw [m2] at E3
      obtain ⟨ν, ⟨N4, E4⟩, s5, s4⟩ := ze_sendAll (μ := ξ2) D (nI s') hs
      have r2 : ∀ c, c ≠ zdZ s' → ξ2 c = ξ c := fun c hc => (zm_up_row hc).trans (zm_up_row hc)
      have w2 : ∀ j, j < 10 → ξ2 (zdW j) = μ (zdW j) := fun j hj => by rw [r2 _ (by unfold zdW zdZ; omega), evξ _ (zJn_W hj).1]
      have f : ∀ c, ¬ zJ_irr c → c ≠ zdZ s' → ν c = μ c := fun c a1 a2 => by
        by_cases cw : ∃ j, j < 10 ∧ c = zdW j
        · obtain ⟨j, hj, rfl⟩ := cw
          funext d
          by_cases hd : d = 5
          · subst hd
            rw [s5 j hj, w2 j hj]
            by_cases q : zd_on ξ2 (nI s') j = true
            · rw [if_pos q]
              have := (of_decide_eq_true q).2.2
              rw [w2 j hj] at this
              exact this.symm
            · rw [if_neg q]
          · rw [s4 _ _ (fun _ _ _ => hd) (fun i hi => by unfold zdW; omega), w2 j hj]
        · funext d
          rw [s4 c d (fun j hj e => absurd ⟨j, hj, e⟩ cw) (fun j hj e => a1 (by rw [e]; unfold zJ_irr zdW; omega)), r2 c a2, evξ c a1]
      have hz0 : ν (zdZ s') 0 = x := by
        rw [s4 _ _ (fun j hj e => by unfold zdZ zdW at e; omega) (fun j hj => by unfold zdZ zdW; omega)]
        exact (zm_up_ne (by omega)).trans zm_up_eq
      have hz1 : ν (zdZ s') 1 = y := by
        rw [s4 _ _ (fun j hj e => by unfold zdZ zdW at e; omega) (fun j hj => by unfold zdZ zdW; omega)]
        exact zm_up_eq
      have rT : ∀ j, j < 19 → ν (zdT s' + j) = ξ (zdT s' + j) := fun j hj => by
        rw [f _ (zJn_T hs hj).1 (by unfold zdT zdZ; omega), evξ _ (zJn_T hs hj).1]
      have hfit' : zt_fit ν (zdT s') (zdZ s') (Rs s') (ts s') = true := by
        unfold zt_fit at *
        rw [zt_lsz_19 rT (by decide), zt_lsz_19 rT (by decide), hz0, hz1]
        rw [x0, x1] at hfit
        exact hfit
      refine ⟨ν, 0, ze_in [(0, .ref 1), (1, .int (nI s')), (2, .int x), (3, .int y)] zq_Desk_screen (Nat.le_of_ble_eq_true rfl) rfl (S0.end ⟨N1 + N2 + N3 + N4, 25, fun F n hF => ?_⟩), zJ_size h hs f (by rw [hz0, hz1]; exact ⟨hx.1, hx.2, hy⟩) (fun _ => hfit'), ξ, evξ, x0, x1, Or.inr ⟨⟨hfit, hlw⟩, f, hz0, hz1⟩⟩
      have cs : (zm_mk ξ)[zdS s']? = some (2, [.ref (zdZ s' + 1), .ref (zdT s' + 1), .ref (zdK s' + 1), .int (ξ (zdS s') 3)]) := zm_get (zdS_h hs)
      simp [zg_0, zg_aaload, zg_aload, zg_aload_n, zg_astore, zg_getfield, zg_iastore, zg_iconst, zg_ifCond, zg_iload, zg_iload_n, zg_invokestatic, zg_invokevirtual, zg_ireturn, zg_istore, zg_ldc, zg_putfield, zf_X5_screen, zi_ld, zi_lda, zi_cmp, zi_retOk, zi_isI, zi_f3, zi_cr, zi_ci, zi_cn, zi_get, zi_set, zdS_g hs, hst', zd_g, zq_Tree_fits, ct, E1 F (by omega), zq_Desk_looseOnesFit, zd_c, E2 F (by omega), zq_Scr_setSize, cs, E3 F (by omega), zq_Desk_sendAll, E4 F (by omega)]
end ZSZ
end
section
/-! windows taken back, one after the other -/
/-- the windows of a list leave their trees, one after the other -/
noncomputable def zd_seq : List Nat → zm_M → (Nat → List Nat) → (Nat → zy_F) → zm_M → (Nat → List Nat) → (Nat → zy_F) → Prop
  | [], μ, Rs, ts, ξ, Rs', ts' => (∀ q, q < 3 → ∀ j, j < 19 → ξ (zdT q + j) = μ (zdT q + j)) ∧ Rs' = Rs ∧ ts' = ts
  | k :: l, μ, Rs, ts, ξ, Rs', ts' => ∃ ν q n, (q < 3 ∧ μ (zdW k) 5 = nI q ∧ n ∈ zy_lvs (ts q) ∧ k ∈ Rs q ∧ μ (zdT q + 3) k = nI n) ∧ zt_isOut μ (zdT q) (Rs q) (ts q) n k ν (zdT q) ∧ (∀ p, p < 3 → p ≠ q → ∀ j, j < 19 → ν (zdT p + j) = μ (zdT p + j)) ∧ (∀ j, j < 10 → ν (zdW j) = μ (zdW j)) ∧
      zd_seq l ν (zd_upd Rs q ((Rs q).erase k)) (zd_upd ts q (if (zt_tb μ (zdT q) (Rs q) n).erase k = [] then zy_out n (ts q) else ts q)) ξ Rs' ts'
section ZBR
variable {μ ν ξ : zm_M} {Rs Rs1 : Nat → List Nat} {ts ts1 : Nat → zy_F}
theorem zt_isOut_src {Q n k T : Nat} {R : List Nat} {t : zy_F} {μ' : zm_M} (h : zt_isCopy μ Q μ' Q) (g : zt_isOut μ' Q R t n k ν T) : zt_isOut μ Q R t n k ν T := by
  obtain ⟨c3, c5, c6, c7, c8, c12⟩ := h
  unfold zt_isOut at *
  rw [zt_tb_congr (μ := μ) (Q := Q) c3, c3, c5, c6, c7, c8, c12] at g
  exact g
theorem zd_seq_snoc {k q n : Nat} : ∀ (l : List Nat) (μ : zm_M) (Rs : Nat → List Nat) (ts : Nat → zy_F), zd_seq l μ Rs ts ξ Rs1 ts1 → (∀ j, j < 10 → ξ (zdW j) = μ (zdW j)) → k < 10 → (q < 3 ∧ ξ (zdW k) 5 = nI q ∧ n ∈ zy_lvs (ts1 q) ∧ k ∈ Rs1 q ∧ ξ (zdT q + 3) k = nI n) → zt_isOut ξ (zdT q) (Rs1 q) (ts1 q) n k ν (zdT q) → (∀ p, p < 3 → p ≠ q → ∀ j, j < 19 → ν (zdT p + j) = ξ (zdT p + j)) → (∀ j, j < 10 → ν (zdW j) = ξ (zdW j)) →
    zd_seq (l ++ [k]) μ Rs ts ν (zd_upd Rs1 q ((Rs1 q).erase k)) (zd_upd ts1 q (if (zt_tb ξ (zdT q) (Rs1 q) n).erase k = [] then zy_out n (ts1 q) else ts1 q)) := by
  intro l
  induction l with
  | nil =>
    rintro μ Rs ts ⟨h1, rfl, rfl⟩ hw hk ⟨a1, a2, a3, a4, a5⟩ O hp hw2
    have r := h1 q a1
    have cp : zt_isCopy μ (zdT q) ξ (zdT q) := ⟨r _ (by omega), r _ (by omega), r _ (by omega), r _ (by omega), r _ (by omega), r _ (by omega)⟩
    refine ⟨ν, q, n, ⟨a1, by rw [← hw k hk]; exact a2, a3, a4, by rw [← r 3 (by omega)]; exact a5⟩, zt_isOut_src cp O, fun p p1 p2 j hj => (hp p p1 p2 j hj).trans (h1 p p1 j hj), fun j hj => (hw2 j hj).trans (hw j hj), fun _ _ _ _ => rfl, rfl, ?_⟩
    rw [zt_tb_congr (μ := μ) (Q := zdT q) (r 3 (by omega))]
  | cons k' l ih =>
    rintro μ Rs ts ⟨ν', q', n', hA, hO, hP, hW, hS⟩ hw hk a O hp hw2
    exact ⟨ν', q', n', hA, hO, hP, hW, ih ν' _ _ hS (fun j hj => (hw j hj).trans (hW j hj).symm) hk a O hp hw2⟩
theorem zl_range_f {p : Nat → Bool} {i : Nat} : (List.range (i + 1)).filter p = (List.range i).filter p ++ (if p i then [i] else []) := by
  rw [List.range_succ, List.filter_append, List.filter_cons]
  rfl
/-- what the loop over takeBack leaves behind i rounds -/
noncomputable def zd_tbk (μ ξ : zm_M) (Rs : Nat → List Nat) (ts : Nat → zy_F) (H : Nat → Bool) (i : Nat) (Rs1 : Nat → List Nat) (ts1 : Nat → zy_F) : Prop :=
  zd_seq ((List.range i).filter (fun j => H j && zd_til μ j)) μ Rs ts ξ Rs1 ts1 ∧
  (∀ q, q < 3 → zt_C ξ (zdT q) (Rs1 q) (ts1 q) ∧ (∀ j, j ∈ Rs1 q ↔ (j ∈ Rs q ∧ ¬ (j < i ∧ H j = true))) ∧ ξ (zdT q + 5) = μ (zdT q + 5) ∧ ξ (zdT q + 6) = μ (zdT q + 6) ∧ (zt_fit μ (zdT q) (zdZ q) (Rs q) (ts q) = true → zt_fit ξ (zdT q) (zdZ q) (Rs1 q) (ts1 q) = true)) ∧
  (∀ c, ¬ zJ_irr c → (∀ q, q < 3 → zt_out (zdT q) c) → ξ c = μ c) ∧ ξ 31 = μ 31 ∧ ∀ q, q < 3 → q ∉ [] → Rs1 (3 + q) = Rs (3 + q) ∧ ts1 (3 + q) = ts (3 + q)
theorem zd_tbk_W {H : Nat → Bool} {i : Nat} (h : zd_tbk μ ξ Rs ts H i Rs1 ts1) {j : Nat} (hj : j < 10) : ξ (zdW j) = μ (zdW j) ∧ ξ (zdW j + 1) = μ (zdW j + 1) :=
  ⟨h.2.2.1 _ (zJn_W hj).1 (fun q hq => zJn_out hq (Or.inr (Or.inl ⟨j, hj, Or.inl rfl⟩))), h.2.2.1 _ (zJn_W hj).2 (fun q hq => zJn_out hq (Or.inr (Or.inl ⟨j, hj, Or.inr rfl⟩)))⟩
theorem zd_tbk_s (D : Nat) {H : Nat → Bool} {i s : Nat} (hi : i < 10) (hs : s < 3) (hH : H i = true) (htl : ∀ j, j < 10 → zd_til μ j = true → ∃ q, q < 3 ∧ μ (zdW j) 5 = nI q ∧ j ∈ Rs q) (hdj : ∀ q p j, q < 3 → p < 3 → j ∈ Rs q → j ∈ Rs p → q = p) (hsm : ∀ q, q < 3 → zt_sm μ (zdT q) (Rs q)) (hRt : ∀ q j, q < 3 → j ∈ Rs q → zd_til μ j = true) (h : zd_tbk μ ξ Rs ts H i Rs1 ts1) :
    ∃ ξ' Rs2 ts2, ze_E (D + 5) A_Desk_takeBack [.ref 1, .int (nI i), .ref (zdK s + 1)] (zm_mk ξ) none (zm_mk ξ') ∧ zd_tbk μ ξ' Rs ts H (i + 1) Rs2 ts2 := by
  have wW : ∀ j, j < 10 → ξ (zdW j) = μ (zdW j) := fun j hj => (zd_tbk_W h hj).1
  obtain ⟨hq, hT, hF, h31, hK⟩ := id h
  have et : zd_til ξ i = zd_til μ i := by unfold zd_til; rw [wW i hi]
  by_cases c : zd_til μ i = true
  · obtain ⟨q, hq3, eq, hiR⟩ := htl i hi c
    obtain ⟨C, m, r5, r6, ft⟩ := hT q hq3
    have hi1 : i ∈ Rs1 q := (m i).mpr ⟨hiR, fun z => by omega⟩
    obtain ⟨n, hn, en⟩ := C.1.2.2.2.1 i hi1
    obtain ⟨ξ', E, O, f⟩ := ze_takeBack_1 (μ := ξ) (q := s) D hi hq3 (by rw [et]; exact c) (by rw [wW i hi]; exact eq) C.1 hn hi1 en
    have hp : ∀ p, p < 3 → p ≠ q → ∀ j, j < 24 → ξ' (zdT p + j) = ξ (zdT p + j) := fun p hp1 hp2 j hj => f _ (by unfold zt_out zdT; omega)
    have hw2 : ∀ j, j < 10 → ξ' (zdW j) = ξ (zdW j) := fun j hj => f _ (zJn_out hq3 (Or.inr (Or.inl ⟨j, hj, Or.inl rfl⟩)))
    refine ⟨ξ', zd_upd Rs1 q ((Rs1 q).erase i), zd_upd ts1 q (if (zt_tb ξ (zdT q) (Rs1 q) n).erase i = [] then zy_out n (ts1 q) else ts1 q), E, ?_, fun p hp3 => ?_, fun a a1 a2 => (f a (a2 q hq3)).trans (hF a a1 a2), ?_, fun p hp3 _ => ?_⟩
    · rw [zl_range_f, if_pos (by rw [hH, c]; rfl)]
      exact zd_seq_snoc _ μ Rs ts hq wW hi ⟨hq3, by rw [wW i hi]; exact eq, hn, hi1, en⟩ O (fun p p1 p2 j hj => hp p p1 p2 j (by omega)) hw2
    · by_cases e : p = q
      · subst e
        have e1 : zd_upd Rs1 p ((Rs1 p).erase i) p = (Rs1 p).erase i := if_pos rfl
        have e2 : zd_upd ts1 p (if (zt_tb ξ (zdT p) (Rs1 p) n).erase i = [] then zy_out n (ts1 p) else ts1 p) p = if (zt_tb ξ (zdT p) (Rs1 p) n).erase i = [] then zy_out n (ts1 p) else ts1 p := if_pos rfl
        rw [e1, e2]
        refine ⟨O.1, fun j => ?_, O.2.2.1.trans r5, O.2.2.2.1.trans r6, fun z => ?_⟩
        · rw [zl_er_mem C.1.1.2.1, m j]
          constructor
          · rintro ⟨a1, a2, a3⟩
            exact ⟨a2, fun z => a3 ⟨by omega, z.2⟩⟩
          · rintro ⟨a1, a2⟩
            refine ⟨fun ej => a2 ⟨by omega, by rw [ej]; exact hH⟩, a1, fun z => a2 ⟨by omega, z.2⟩⟩
        · refine zt_fit_out C (fun w hw a ha => ?_) hn O (f _ (zJn_out hq3 (Or.inr (Or.inr (Or.inl ⟨p, hp3, Or.inr (Or.inl rfl)⟩))))) (ft z)
          obtain ⟨x, hx, ex⟩ := hsm p hp3 w ((m w).mp hw).1 a ha
          refine ⟨x, hx, ?_⟩
          match a, ha with
          | 0, _ => exact (congrFun r5 w).trans ex
          | 1, _ => exact (congrFun r6 w).trans ex
      · have e1 : zd_upd Rs1 q ((Rs1 q).erase i) p = Rs1 p := if_neg e
        have e2 : zd_upd ts1 q (if (zt_tb ξ (zdT q) (Rs1 q) n).erase i = [] then zy_out n (ts1 q) else ts1 q) p = ts1 p := if_neg e
        rw [e1, e2]
        obtain ⟨C', m', r5', r6', ft'⟩ := hT p hp3
        have r := hp p hp3 e
        refine ⟨zt_C_19 (fun j hj => r j (by omega)) C', fun j => ?_, (r 5 (by omega)).trans r5', (r 6 (by omega)).trans r6', fun z => ?_⟩
        · rw [m' j]
          constructor
          · rintro ⟨a1, a2⟩
            refine ⟨a1, fun z => ?_⟩
            by_cases ej : j = i
            · rw [ej] at a1
              exact e (hdj p q i hp3 hq3 a1 hiR)
            · exact a2 ⟨by omega, z.2⟩
          · rintro ⟨a1, a2⟩
            exact ⟨a1, fun z => a2 ⟨by omega, z.2⟩⟩
        · rw [zt_fit_copy (A := ξ) (T := zdT p) ⟨r _ (by omega), r _ (by omega), r _ (by omega), r _ (by omega), r _ (by omega), r _ (by omega)⟩ (f _ (zJn_out hq3 (Or.inr (Or.inr (Or.inl ⟨p, hp3, Or.inr (Or.inl rfl)⟩)))))]
          exact ft' z
    · rw [f 31 (by unfold zt_out zdT; omega)]
      exact h31
    · have := hK p hp3 List.not_mem_nil
      unfold zd_upd
      rw [if_neg (by omega), if_neg (by omega)]
      exact this
  · have c' : zd_til μ i = false := by simpa using c
    obtain ⟨ξ', E, f⟩ := ze_takeBack_2 (μ := ξ) (D + 3) hi hs (by rw [et]; exact c')
    have rT : ∀ p, p < 3 → ∀ j, ξ' (zdT p + j) = ξ (zdT p + j) := fun p hp3 j => f _ (by unfold zdT zdW; omega)
    refine ⟨ξ', Rs1, ts1, E, ?_, fun p hp3 => ?_, fun a a1 a2 => (f a (fun e => a1 (by rw [e]; unfold zJ_irr zdW; omega))).trans (hF a a1 a2), (f 31 (by unfold zdW; omega)).trans h31, hK⟩
    · rw [zl_range_f, if_neg (by rw [c']; simp), List.append_nil]
      have key : ∀ (l : List Nat) (μ : zm_M) (Rs : Nat → List Nat) (ts : Nat → zy_F), zd_seq l μ Rs ts ξ Rs1 ts1 → zd_seq l μ Rs ts ξ' Rs1 ts1 := by
        intro l
        induction l with
        | nil =>
          rintro μ Rs ts ⟨h1, h2, h3⟩
          exact ⟨fun q hq j hj => (rT q hq j).trans (h1 q hq j hj), h2, h3⟩
        | cons k l ih =>
          rintro μ Rs ts ⟨ν', q', n', a1, a2, a3, a4, a5⟩
          exact ⟨ν', q', n', a1, a2, a3, a4, ih _ _ _ a5⟩
      exact key _ _ _ _ hq
    · obtain ⟨C', m', r5', r6', ft'⟩ := hT p hp3
      refine ⟨zt_C_19 (fun j hj => rT p hp3 j) C', fun j => ?_, (rT p hp3 5).trans r5', (rT p hp3 6).trans r6', fun z => ?_⟩
      · rw [m' j]
        constructor
        · rintro ⟨a1, a2⟩
          refine ⟨a1, fun z => ?_⟩
          by_cases ej : j = i
          · rw [ej] at a1
            exact c (hRt p i hp3 a1)
          · exact a2 ⟨by omega, z.2⟩
        · rintro ⟨a1, a2⟩
          exact ⟨a1, fun z => a2 ⟨by omega, z.2⟩⟩
      · rw [zt_fit_copy (A := ξ) (T := zdT p) ⟨rT p hp3 _, rT p hp3 _, rT p hp3 _, rT p hp3 _, rT p hp3 _, rT p hp3 _⟩ (f _ (by unfold zdZ zdW; omega))]
        exact ft' z
end ZBR
end
section
/-! the desk: bringBack, run -/
section ZBS
variable {μ ν : zm_M} {Rs : Nat → List Nat} {ts : Nat → zy_F}
/-- the group that comes back with the screen s -/
noncomputable def zd_bgr (μ : zm_M) (s : Nat) : Nat → Bool := zl_spn (zd_dl μ) (zd_ow μ) (zd_has μ s) 10
set_option maxRecDepth 100000 in
theorem ze_bring_0 (D : Nat) {s : Nat} (hs : s < 3) : ∃ ν, ze_S (D + 3) 5 (some .int) zc_X5_bringBack 38 [(2, .ref (zdK s + 1)), (0, .ref 1), (1, .int (nI s))] [] (zm_mk μ) 67 [(3, .int (nI 10)), (2, .ref (zdK s + 1)), (0, .ref 1), (1, .int (nI s))] [] (zm_mk ν) ∧ (∀ c, c ≠ 31 → ν c = μ c) ∧ zd_gr ν (zd_bgr μ s) := by
  have h10 : (Int8.ofInt 10).toInt32 = (10 : Int32) := by decide
  have key : ∃ L' h', ze_S (D + 3) 5 (some .int) zc_X5_bringBack 40 [(3, .int (nI 0)), (2, .ref (zdK s + 1)), (0, .ref 1), (1, .int (nI s))] [] (zm_mk μ) 63 L' [] h' ∧ (L' = [(3, .int (nI 10)), (2, .ref (zdK s + 1)), (0, .ref 1), (1, .int (nI s))] ∧ ∃ ν, zm_mk ν = h' ∧ (∀ c, c ≠ 31 → ν c = μ c) ∧ ∀ k, k < 10 → ν 31 k = if zd_has μ s k = true then 1 else 0) := by
    refine ze_loopS (Q := fun i L hp => i ≤ 10 ∧ L = [(3, .int (nI i)), (2, .ref (zdK s + 1)), (0, .ref 1), (1, .int (nI s))] ∧ ∃ ν : zm_M, zm_mk ν = hp ∧ (∀ c, c ≠ 31 → ν c = μ c) ∧ ∀ k, k < i → ν 31 k = if zd_has μ s k = true then 1 else 0) (R := fun L' h' => L' = [(3, .int (nI 10)), (2, .ref (zdK s + 1)), (0, .ref 1), (1, .int (nI s))] ∧ ∃ ν, zm_mk ν = h' ∧ (∀ c, c ≠ 31 → ν c = μ c) ∧ ∀ k, k < 10 → ν 31 k = if zd_has μ s k = true then 1 else 0) 10 ?_ ?_ 10 0 _ _ (by omega) ⟨by omega, rfl, μ, rfl, fun _ _ => rfl, fun k hk => absurd hk (by omega)⟩
    · rintro i L _ hi ⟨-, rfl, ν, rfl, f, g⟩
      have c1 : ¬ (10 : Int32) ≤ nI i := nI_ge (b := 10) hi (by decide)
      have i1 : zi_in (nI i) 10 = true := zm_in hi (by decide)
      have e1 : (nI i).toNatClampNeg = i := nI_clamp (by omega)
      obtain ⟨N1, E1⟩ := ze_has (μ := ν) (D + 1) hs hi
      have eh : zd_has ν s i = zd_has μ s i := by
        unfold zd_has
        rw [f _ (by unfold zdK; omega), f _ (by unfold zdQ; omega), f _ (by unfold zdV; omega)]
      rw [eh] at E1
      have ck := zdK_c (μ := ν) hs
      obtain ⟨x, hx, ex⟩ : ∃ x : Int32, (x = 0 ∨ x = 1) ∧ (if zd_has μ s i = true then (1 : Int32) else 0) = x := ⟨_, by split <;> simp, rfl⟩
      rw [ex] at E1
      refine ⟨_, zm_mk (zm_up ν 31 i x), ⟨N1, 12, fun F m hF => ?_⟩, by omega, rfl, _, rfl, fun c hc => (zm_up_row hc).trans (f c hc), fun k hk => ?_⟩
      · simp [zg_0, zg_aaload, zg_aload_n, zg_astore_n, zg_bastore, zg_bipush, zg_getfield, zg_goto, zg_iconst, zg_ifCond, zg_if_icmp, zg_iinc, zg_iload, zg_iload_n, zg_invokevirtual, zg_ireturn, zg_istore, zg_istore_n, zf_X5_bringBack, zi_ld, zi_lda, zi_cmp, zi_retOk, zi_isI, zi_f3, zi_cr, zi_ci, zi_cn, zi_get, zi_set, h10, c1, zd_g, zq_Kept_has, ck, E1 F (by omega), zm_bast zd31_A i1 hx, e1, nI_1]
      · rw [zm_up_pt]
        by_cases e : k = i
        · rw [if_pos e, e, ex]
        · rw [if_neg e]
          exact g k (by omega)
    · rintro L _ ⟨-, rfl, ν, rfl, f, g⟩
      have c1 : (10 : Int32) ≤ nI 10 := by decide
      refine ⟨_, zm_mk ν, ⟨0, 3, fun F m hF => ?_⟩, rfl, ν, rfl, f, g⟩
      simp [zg_0, zg_aaload, zg_aload_n, zg_astore_n, zg_bastore, zg_bipush, zg_getfield, zg_goto, zg_iconst, zg_ifCond, zg_if_icmp, zg_iinc, zg_iload, zg_iload_n, zg_invokevirtual, zg_ireturn, zg_istore, zg_istore_n, zf_X5_bringBack, zi_ld, zi_lda, zi_cmp, zi_retOk, zi_isI, zi_f3, zi_cr, zi_ci, zi_cn, zi_get, zi_set, h10, c1]
  obtain ⟨L', h', S1, rfl, ν1, rfl, f1, g1⟩ := key
  obtain ⟨ν, ⟨N2, E2⟩, f2, g2⟩ := ze_gatherDialogs (μ := ν1) (g := zd_has μ s) (D + 1) g1
  have w1 : ∀ j, ν1 (zdW j) = μ (zdW j) := fun j => f1 _ (by unfold zdW; omega)
  have eow : zd_ow ν1 = zd_ow μ := funext fun j => by unfold zd_ow; rw [w1]
  have edl : zd_dl ν1 = zd_dl μ := funext fun j => by unfold zd_dl; rw [eow, w1, w1]
  rw [eow, edl] at g2
  refine ⟨ν, ze_S.trans (p2 := 40) (L2 := [(3, .int (nI 0)), (2, .ref (zdK s + 1)), (0, .ref 1), (1, .int (nI s))]) (s2 := []) (h2 := zm_mk μ) ⟨0, 2, fun F m hF => ?_⟩ (S1.trans ⟨N2, 2, fun F m hF => ?_⟩), fun c hc => (f2 c hc).trans (f1 c hc), g2⟩
  · simp [zg_0, zg_aaload, zg_aload_n, zg_astore_n, zg_bastore, zg_bipush, zg_getfield, zg_goto, zg_iconst, zg_ifCond, zg_if_icmp, zg_iinc, zg_iload, zg_iload_n, zg_invokevirtual, zg_ireturn, zg_istore, zg_istore_n, zf_X5_bringBack, zi_ld, zi_lda, zi_cmp, zi_retOk, zi_isI, zi_f3, zi_cr, zi_ci, zi_cn, zi_get, zi_set, nI_0]
  · simp [zg_0, zg_aaload, zg_aload_n, zg_astore_n, zg_bastore, zg_bipush, zg_getfield, zg_goto, zg_iconst, zg_ifCond, zg_if_icmp, zg_iinc, zg_iload, zg_iload_n, zg_invokevirtual, zg_ireturn, zg_istore, zg_istore_n, zf_X5_bringBack, zi_ld, zi_lda, zi_cmp, zi_retOk, zi_isI, zi_f3, zi_cr, zi_ci, zi_cn, zi_get, zi_set, zq_Desk_gatherDialogs, zd_c, E2 F (by omega)]
set_option maxRecDepth 100000 in
theorem ze_bring_1 (D : Nat) {s : Nat} (hs : s < 3) (hC : ∀ q, q < 3 → zt_C μ (zdT q) (Rs q) (ts q)) (htl : ∀ j, j < 10 → zd_til μ j = true → ∃ q, q < 3 ∧ μ (zdW j) 5 = nI q ∧ j ∈ Rs q) (hdj : ∀ q p j, q < 3 → p < 3 → j ∈ Rs q → j ∈ Rs p → q = p) (hsm : ∀ q, q < 3 → zt_sm μ (zdT q) (Rs q)) (hRt : ∀ q j, q < 3 → j ∈ Rs q → zd_til μ j = true) {L : zi_Lc} (nl : zi_nl L = true) (g0 : zi_get L 0 = some (.ref 1)) (g1 : zi_get L 1 = some (.int (nI s))) (g2 : zi_get L 2 = some (.ref (zdK s + 1))) :
    ∃ ν L' v Rs1 ts1, ze_S (D + 6) 5 (some .int) zc_X5_bringBack 77 L [] (zm_mk μ) 114 L' [] (zm_mk ν) ∧ (zi_nl L' = true ∧ zi_get L' 0 = some (.ref 1) ∧ zi_get L' 1 = some (.int (nI s)) ∧ zi_get L' 2 = some (.ref (zdK s + 1)) ∧ zi_get L' 3 = some (.int v)) ∧ zd_tbk μ ν Rs ts (zd_has μ s) 10 Rs1 ts1 := by
  have h10 : (Int8.ofInt 10).toInt32 = (10 : Int32) := by decide
  have z0 : zi_nl (zi_set (zi_set L 3 (.int 0)) 4 (.int (nI 0))) = true := by simp (maxDischargeDepth := 9) [zi_get_ne, zi_nl_i, zi_nl_r, zi_get_set_eq, nl]
  have z1 : zi_get (zi_set (zi_set L 3 (.int 0)) 4 (.int (nI 0))) 0 = some (.ref 1) := by simp (maxDischargeDepth := 9) [zi_get_ne, zi_nl_i, zi_nl_r, zi_get_set_eq, nl, g0]
  have z2 : zi_get (zi_set (zi_set L 3 (.int 0)) 4 (.int (nI 0))) 1 = some (.int (nI s)) := by simp (maxDischargeDepth := 9) [zi_get_ne, zi_nl_i, zi_nl_r, zi_get_set_eq, nl, g1]
  have z3 : zi_get (zi_set (zi_set L 3 (.int 0)) 4 (.int (nI 0))) 2 = some (.ref (zdK s + 1)) := by simp (maxDischargeDepth := 9) [zi_get_ne, zi_nl_i, zi_nl_r, zi_get_set_eq, nl, g2]
  have z4 : zi_get (zi_set (zi_set L 3 (.int 0)) 4 (.int (nI 0))) 3 = some (.int 0) := by simp (maxDischargeDepth := 9) [zi_get_ne, zi_nl_i, zi_nl_r, zi_get_set_eq, nl]
  have z5 : zi_get (zi_set (zi_set L 3 (.int 0)) 4 (.int (nI 0))) 4 = some (.int (nI 0)) := zi_get_set_eq
  have S0 : ze_S (D + 6) 5 (some .int) zc_X5_bringBack 77 L [] (zm_mk μ) 82 (zi_set (zi_set L 3 (.int 0)) 4 (.int (nI 0))) [] (zm_mk μ) := by
    refine ⟨0, 4, fun F m hF => ?_⟩
    simp (maxDischargeDepth := 9) [zg_0, zg_aaload, zg_aload_n, zg_astore_n, zg_bastore, zg_bipush, zg_getfield, zg_goto, zg_iconst, zg_ifCond, zg_if_icmp, zg_iinc, zg_iload, zg_iload_n, zg_invokevirtual, zg_ireturn, zg_istore, zg_istore_n, zf_X5_bringBack, zi_ld, zi_lda, zi_cmp, zi_retOk, zi_isI, zi_f3, zi_cr, zi_ci, zi_cn, zi_get_ne, zi_nl_i, zi_nl_r, zi_get_set_eq, nl, nI_0]
  generalize zi_set (zi_set L 3 (.int 0)) 4 (.int (nI 0)) = L0 at z0 z1 z2 z3 z4 z5 S0
  have hb0 : zd_tbk μ μ Rs ts (zd_has μ s) 0 Rs ts := by
    refine ⟨⟨fun _ _ _ _ => rfl, rfl, rfl⟩, fun q hq => ⟨hC q hq, fun j => ⟨fun z => ⟨z, fun w => by omega⟩, fun z => z.1⟩, rfl, rfl, fun z => z⟩, fun _ _ _ => rfl, rfl, fun _ _ _ => ⟨rfl, rfl⟩⟩
  have key : ∃ L' h', ze_S (D + 6) 5 (some .int) zc_X5_bringBack 82 L0 [] (zm_mk μ) 114 L' [] h' ∧ (∃ v, (zi_nl L' = true ∧ zi_get L' 0 = some (.ref 1) ∧ zi_get L' 1 = some (.int (nI s)) ∧ zi_get L' 2 = some (.ref (zdK s + 1)) ∧ zi_get L' 3 = some (.int v)) ∧ ∃ ν, zm_mk ν = h' ∧ ∃ Rs1 ts1, zd_tbk μ ν Rs ts (zd_has μ s) 10 Rs1 ts1) := by
    refine ze_loopS (Q := fun i L hp => i ≤ 10 ∧ zi_nl L = true ∧ zi_get L 0 = some (.ref 1) ∧ zi_get L 1 = some (.int (nI s)) ∧ zi_get L 2 = some (.ref (zdK s + 1)) ∧ zi_get L 4 = some (.int (nI i)) ∧ ∃ ξ : zm_M, zm_mk ξ = hp ∧ (∃ Rs1 ts1, zd_tbk μ ξ Rs ts (zd_has μ s) i Rs1 ts1) ∧ ∃ (v : Int32), zi_get L 3 = some (.int v) ∧ (True)) (R := fun L' h' => ∃ v, (zi_nl L' = true ∧ zi_get L' 0 = some (.ref 1) ∧ zi_get L' 1 = some (.int (nI s)) ∧ zi_get L' 2 = some (.ref (zdK s + 1)) ∧ zi_get L' 3 = some (.int v)) ∧ ∃ ν, zm_mk ν = h' ∧ ∃ Rs1 ts1, zd_tbk μ ν Rs ts (zd_has μ s) 10 Rs1 ts1) 10 ?_ ?_ 10 0 _ _ (by omega) ⟨by omega, z0, z1, z2, z3, z5, μ, rfl, ⟨Rs, ts, hb0⟩, 0, z4, trivial⟩
    · rintro i L _ hi ⟨-, nl, g0, g1, g2, g4, ξ, rfl, hZ, v, g3, hq⟩
      obtain ⟨Rs1, ts1, hZ⟩ := hZ
      have c1 : ¬ (10 : Int32) ≤ nI i := nI_ge (b := 10) hi (by decide)
      obtain ⟨N1, E1⟩ := ze_has (μ := ξ) (D + 4) hs hi
      have eh : zd_has ξ s i = zd_has μ s i := by
        unfold zd_has
        rw [hZ.2.2.1 _ (zJn_S hs).2.2.1 (fun q hq => zJn_out hq (Or.inr (Or.inr (Or.inl ⟨s, hs, Or.inr (Or.inr (Or.inl rfl))⟩)))), hZ.2.2.1 _ (zJn_S hs).2.2.2 (fun q hq => zJn_out hq (Or.inr (Or.inr (Or.inl ⟨s, hs, Or.inr (Or.inr (Or.inr (Or.inl rfl)))⟩)))), hZ.2.2.1 _ (zJn_T hs (j := 3) (by decide)).2 (fun q hq => zJn_out hq (Or.inr (Or.inr (Or.inl ⟨s, hs, Or.inr (Or.inr (Or.inr (Or.inr ⟨3, by decide, rfl⟩)))⟩))))]
      rw [eh] at E1
      have ck := zdK_c (μ := ξ) hs
      by_cases c2 : zd_has μ s i = true
      · rw [if_pos c2] at E1
        obtain ⟨ξ', Rs2, ts2, ⟨N2, E2⟩, hZ'⟩ := zd_tbk_s (D + 1) hi hs c2 htl hdj hsm hRt hZ
        refine ⟨zi_set (zi_set L 3 (.int (v + 1))) 4 (.int (nI (i + 1))), zm_mk ξ', ⟨N1 + N2, 14, fun F m hF => ?_⟩, by omega, ?_, ?_, ?_, ?_, zi_get_set_eq, ξ', rfl, ⟨Rs2, ts2, hZ'⟩, v + 1, ?_, trivial⟩
        · simp (maxDischargeDepth := 9) [zg_0, zg_aaload, zg_aload_n, zg_astore_n, zg_bastore, zg_bipush, zg_getfield, zg_goto, zg_iconst, zg_ifCond, zg_if_icmp, zg_iinc, zg_iload, zg_iload_n, zg_invokevirtual, zg_ireturn, zg_istore, zg_istore_n, zf_X5_bringBack, zi_ld, zi_lda, zi_cmp, zi_retOk, zi_isI, zi_f3, zi_cr, zi_ci, zi_cn, zi_get_ne, zi_nl_i, zi_nl_r, zi_get_set_eq, nl, g0, g1, g2, g4, g3, h10, c1, zq_Kept_has, ck, E1 F (by omega), zq_Desk_takeBack, zd_c, E2 F (by omega), nI_1]
        · simp (maxDischargeDepth := 9) [zi_get_ne, zi_nl_i, zi_nl_r, zi_get_set_eq, nl]
        · simp (maxDischargeDepth := 9) [zi_get_ne, zi_nl_i, zi_nl_r, zi_get_set_eq, nl, g0]
        · simp (maxDischargeDepth := 9) [zi_get_ne, zi_nl_i, zi_nl_r, zi_get_set_eq, nl, g1]
        · simp (maxDischargeDepth := 9) [zi_get_ne, zi_nl_i, zi_nl_r, zi_get_set_eq, nl, g2]
        · simp (maxDischargeDepth := 9) [zi_get_ne, zi_nl_i, zi_nl_r, zi_get_set_eq, nl, g3]
      · rw [if_neg c2] at E1
        have N2 : Nat := 0
        have c2' : zd_has μ s i = false := by simpa using c2
        have hZ' : zd_tbk μ ξ Rs ts (zd_has μ s) (i + 1) Rs1 ts1 := by
          obtain ⟨y1, y2, y3, y4, y5⟩ := hZ
          refine ⟨?_, fun q hq => ?_, y3, y4, y5⟩
          · rw [zl_range_f, if_neg (by rw [c2']; simp), List.append_nil]
            exact y1
          · obtain ⟨u1, u2, u3⟩ := y2 q hq
            refine ⟨u1, fun j => ?_, u3⟩
            rw [u2 j]
            constructor
            · rintro ⟨a1, a2⟩
              refine ⟨a1, fun z => ?_⟩
              by_cases ej : j = i
              · rw [ej, c2'] at z
                cases z.2
              · exact a2 ⟨by omega, z.2⟩
            · rintro ⟨a1, a2⟩
              exact ⟨a1, fun z => a2 ⟨by omega, z.2⟩⟩
        refine ⟨zi_set L 4 (.int (nI (i + 1))), zm_mk ξ, ⟨N1 + N2, 9, fun F m hF => ?_⟩, by omega, ?_, ?_, ?_, ?_, zi_get_set_eq, ξ, rfl, ⟨Rs1, ts1, hZ'⟩, v, ?_, trivial⟩
        · simp (maxDischargeDepth := 9) [zg_0, zg_aaload, zg_aload_n, zg_astore_n, zg_bastore, zg_bipush, zg_getfield, zg_goto, zg_iconst, zg_ifCond, zg_if_icmp, zg_iinc, zg_iload, zg_iload_n, zg_invokevirtual, zg_ireturn, zg_istore, zg_istore_n, zf_X5_bringBack, zi_ld, zi_lda, zi_cmp, zi_retOk, zi_isI, zi_f3, zi_cr, zi_ci, zi_cn, zi_get_ne, zi_nl_i, zi_nl_r, zi_get_set_eq, nl, g0, g1, g2, g4, g3, h10, c1, zq_Kept_has, ck, E1 F (by omega), nI_1]
        · simp (maxDischargeDepth := 9) [zi_get_ne, zi_nl_i, zi_nl_r, zi_get_set_eq, nl]
        · simp (maxDischargeDepth := 9) [zi_get_ne, zi_nl_i, zi_nl_r, zi_get_set_eq, nl, g0]
        · simp (maxDischargeDepth := 9) [zi_get_ne, zi_nl_i, zi_nl_r, zi_get_set_eq, nl, g1]
        · simp (maxDischargeDepth := 9) [zi_get_ne, zi_nl_i, zi_nl_r, zi_get_set_eq, nl, g2]
        · simp (maxDischargeDepth := 9) [zi_get_ne, zi_nl_i, zi_nl_r, zi_get_set_eq, nl, g3]
    · rintro L _ ⟨-, nl, g0, g1, g2, g4, ξ, rfl, hZ, v, g3, hq⟩
      have c1 : (10 : Int32) ≤ nI 10 := by decide
      refine ⟨L, zm_mk ξ, ⟨0, 3, fun F m hF => ?_⟩, v, ⟨nl, g0, g1, g2, g3⟩, ξ, rfl, hZ⟩
      simp [zg_0, zg_aaload, zg_aload_n, zg_astore_n, zg_bastore, zg_bipush, zg_getfield, zg_goto, zg_iconst, zg_ifCond, zg_if_icmp, zg_iinc, zg_iload, zg_iload_n, zg_invokevirtual, zg_ireturn, zg_istore, zg_istore_n, zf_X5_bringBack, zi_ld, zi_lda, zi_cmp, zi_retOk, zi_isI, zi_f3, zi_cr, zi_ci, zi_cn, g0, g4, h10, c1]
  obtain ⟨L', h', S1, v, hL, ν, rfl, Rs1, ts1, hZ⟩ := key
  exact ⟨ν, L', v, Rs1, ts1, S0.trans S1, hL, hZ⟩
end ZBS
end
section
/-! a screen that comes: what holds then -/
section ZCJ
variable {μ ν : zm_M} {row stk : List Nat} {Rs Rs' : Nat → List Nat} {ts ts' : Nat → zy_F}
theorem zJ_comes (h : zJ μ row stk Rs ts) {s : Nat} (hs : s < 3) {G : Nat → Bool}
    (f : ∀ c d, ¬ zJ_irr c → (∀ q, q < 3 → zt_out (zdT q) c) → c ≠ zdZ s → ¬ (c = zdS s ∧ d = 3) → (∀ q, q < 3 → c = zdK q → d ≠ 3) → (∀ j, j < 10 → c = zdW j → d ≠ 5) → ν c d = μ c d) (fS : ¬ ν (zdS s) 3 = 0) (fZ : 40 ≤ ν (zdZ s) 0 ∧ ν (zdZ s) 0 ≤ 400 ∧ 40 ≤ ν (zdZ s) 1 ∧ ν (zdZ s) 1 ≤ 400)
    (fK : ∀ q, q < 3 → ν (zdK q) 3 = 0 ∨ (q ≠ s ∧ ν (zdK q) 3 = μ (zdK q) 3)) (f5 : ∀ j, j < 10 → ν (zdW j) 5 = if G j = true then nI s else μ (zdW j) 5)
    (hT : ∀ q, q < 3 → zt_C ν (zdT q) (Rs' q) (ts' q) ∧ (∀ j, j ∈ Rs' q ↔ (j < 10 ∧ zd_til μ j = true ∧ (if G j = true then nI s else μ (zdW j) 5) = nI q)) ∧ (∀ j ∈ Rs' q, ν (zdT q + 5) j = μ (zdW j + 1) 0 ∧ ν (zdT q + 6) j = μ (zdW j + 1) 1) ∧ ((q = s ∨ ¬ μ (zdS q) 3 = 0) → zt_fit ν (zdT q) (zdZ q) (Rs' q) (ts' q) = true)) (hRk : ∀ q, q < 3 → Rs' (3 + q) = Rs (3 + q) ∧ ts' (3 + q) = ts (3 + q)) : zJ ν row stk Rs' ts' := by
  obtain ⟨h1, h2, h3, h4, h6, h7⟩ := h
  have oW : ∀ j, j < 10 → ∀ q, q < 3 → zt_out (zdT q) (zdW j) ∧ zt_out (zdT q) (zdW j + 1) := fun j hj q hq => ⟨zJn_out hq (Or.inr (Or.inl ⟨j, hj, Or.inl rfl⟩)), zJn_out hq (Or.inr (Or.inl ⟨j, hj, Or.inr rfl⟩))⟩
  have wo : ∀ j, j < 10 → ∀ d, d ≠ 5 → ν (zdW j) d = μ (zdW j) d := fun j hj d hd => f _ _ (zJn_W hj).1 (fun q hq => (oW j hj q hq).1) (by unfold zdW zdZ; omega) (fun e => by have := e.1; unfold zdW zdS at this; omega) (fun q hq e => by unfold zdW zdK at e; omega) (fun _ _ _ => hd)
  have eL : ∀ j, j < 10 → ν (zdW j + 1) = μ (zdW j + 1) := fun j hj => funext fun d => f _ _ (zJn_W hj).2 (fun q hq => (oW j hj q hq).2) (by unfold zdW zdZ; omega) (fun e => by have := e.1; unfold zdW zdS at this; omega) (fun q hq e => by unfold zdW zdK at e; omega) (fun j' hj' e => by unfold zdW at e; omega)
  have e0 : ∀ c, c < 7 → ν c = μ c := fun c hc => funext fun d => f _ _ (zJn_0 hc) (fun q hq => zJn_out hq (Or.inl hc)) (by unfold zdZ; omega) (fun e => by have := e.1; unfold zdS at this; omega) (fun q hq e => by unfold zdK at e; omega) (fun j' hj' e => by unfold zdW at e; omega)
  have eV : ∀ q, q < 3 → ∀ j, j < 19 → ν (zdV q + j) = μ (zdV q + j) := fun q hq j hj => funext fun d => f _ _ (zJn_T hq hj).2 (fun q' hq' => zJn_out hq' (Or.inr (Or.inr (Or.inl ⟨q, hq, Or.inr (Or.inr (Or.inr (Or.inr ⟨j, hj, rfl⟩)))⟩)))) (by unfold zdV zdZ; omega) (fun e => by have := e.1; unfold zdV zdS at this; omega) (fun q hq e => by unfold zdV zdK at e; omega) (fun j' hj' e => by unfold zdV zdW at e; omega)
  have eQ : ∀ q, q < 3 → ν (zdQ q) = μ (zdQ q) := fun q hq => funext fun d => f _ _ (zJn_S hq).2.2.2 (fun q' hq' => zJn_out hq' (Or.inr (Or.inr (Or.inl ⟨q, hq, Or.inr (Or.inr (Or.inr (Or.inl rfl)))⟩)))) (by unfold zdQ zdZ; omega) (fun e => by have := e.1; unfold zdQ zdS at this; omega) (fun q hq e => by unfold zdQ zdK at e; omega) (fun j' hj' e => by unfold zdQ zdW at e; omega)
  have eS : ∀ q, q < 3 → q ≠ s → ν (zdS q) = μ (zdS q) ∧ ν (zdZ q) = μ (zdZ q) := fun q hq hne => ⟨funext fun d => f _ _ (zJn_S hq).1 (fun q' hq' => zJn_out hq' (Or.inr (Or.inr (Or.inl ⟨q, hq, Or.inl rfl⟩)))) (by unfold zdS zdZ; omega) (fun e => by have := e.1; unfold zdS at this; omega) (fun q hq e => by unfold zdS zdK at e; omega) (fun j' hj' e => by unfold zdS zdW at e; omega), funext fun d => f _ _ (zJn_S hq).2.1 (fun q' hq' => zJn_out hq' (Or.inr (Or.inr (Or.inl ⟨q, hq, Or.inr (Or.inl rfl)⟩)))) (by unfold zdZ; omega) (fun e => by have := e.1; unfold zdZ zdS at this; omega) (fun q hq e => by unfold zdZ zdK at e; omega) (fun j' hj' e => by unfold zdZ zdW at e; omega)⟩
  have th : ∀ j, j < 10 → zd_th ν j = zd_th μ j := fun j hj => by unfold zd_th; rw [wo j hj 2 (by decide)]
  have til : ∀ j, j < 10 → zd_til ν j = zd_til μ j := fun j hj => by unfold zd_til; rw [wo j hj 2 (by decide), wo j hj 3 (by decide)]
  refine ⟨⟨zr_L_congr (e0 _ (by decide)) (e0 _ (by decide)) h1.1, h1.2.1, fun j => ?_⟩, ⟨zr_L_congr (e0 _ (by decide)) (e0 _ (by decide)) h2.1, h2.2⟩, fun j hj htj => ?_, fun q hq => ?_, fun q hq => ?_, fun q hq hqt => ?_⟩
  · rw [h1.2.2 j]
    constructor
    · rintro ⟨x, y⟩
      exact ⟨x, by rw [th j x]; exact y⟩
    · rintro ⟨x, y⟩
      exact ⟨x, by rw [← th j x]; exact y⟩
  · rw [th j hj] at htj
    obtain ⟨c1, c2, c3, c4, c5⟩ := h3 j hj htj
    rw [wo j hj 3 (by decide), wo j hj 4 (by decide), eL j hj]
    refine ⟨c1, c2, fun q => ?_, fun q => ?_, c5⟩
    · rw [f5 j hj]
      by_cases e : G j = true
      · rw [if_pos e]
        exact ⟨s, hs, rfl, fS⟩
      · rw [if_neg e]
        obtain ⟨s', d1, d2, d3⟩ := c3 q
        refine ⟨s', d1, d2, ?_⟩
        by_cases es : s' = s
        · rw [es]; exact fS
        · rw [(eS s' d1 es).1]; exact d3
    · obtain ⟨i, d1, d2, d3, d4⟩ := c4 q
      exact ⟨i, d1, d2, d3, by rw [th i d1]; exact d4⟩
  · obtain ⟨t1, t2, t3, -⟩ := hT q hq
    refine ⟨t1, fun j => ?_, fun j hj => ?_⟩
    · rw [t2 j]
      constructor
      · rintro ⟨d1, d2, d3⟩
        exact ⟨d1, by rw [til j d1]; exact d2, by rw [f5 j d1]; exact d3⟩
      · rintro ⟨d1, d2, d3⟩
        rw [til j d1] at d2
        rw [f5 j d1] at d3
        exact ⟨d1, d2, d3⟩
    · rw [eL j ((t2 j).mp hj).1]
      exact t3 j hj
  · rw [(hRk q hq).1, (hRk q hq).2]
    obtain ⟨c1, c2⟩ := h6 q hq
    refine ⟨zt_C_19 (eV q hq) c1, fun z => ?_⟩
    obtain ⟨hne, ek⟩ := (fK q hq).resolve_left z
    rw [ek] at z
    obtain ⟨b1, b2, b3⟩ := c2 z
    refine ⟨by rw [(eS q hq hne).1]; exact b1, fun j hj => ?_, fun j hj hz => ?_⟩
    · have hj10 := c1.1.1.2.2 j hj
      rw [eV q hq 5 (by omega), eV q hq 6 (by omega), eL j hj10, til j hj10]
      exact b2 j hj
    · rw [eQ q hq] at hz
      rw [th j hj, wo j hj 3 (by decide)]
      exact b3 j hj hz
  · by_cases e : q = s
    · subst e
      exact ⟨fZ, (hT q hq).2.2.2 (Or.inl rfl)⟩
    · rw [(eS q hq e).1] at hqt
      obtain ⟨b1, b2⟩ := h7 q hq hqt
      rw [(eS q hq e).2]
      exact ⟨b1, (hT q hq).2.2.2 (Or.inr hqt)⟩
/-- a screen that isn't there has no tabs -/
theorem zJ_none (h : zJ μ row stk Rs ts) {s : Nat} (hs : s < 3) (hst : μ (zdS s) 3 = 0) : Rs s = [] ∧ ts s = .nil := by
  obtain ⟨C, m, -⟩ := h.2.2.2.1 s hs
  have hR : Rs s = [] := by
    cases hc : Rs s with
    | nil => rfl
    | cons j l =>
      exfalso
      have hj : j ∈ Rs s := by rw [hc]; exact List.mem_cons_self
      obtain ⟨d1, d2, d3⟩ := (m j).mp hj
      obtain ⟨-, -, a3, -, -⟩ := h.2.2.1 j d1 (decide_eq_true (of_decide_eq_true d2).1)
      obtain ⟨s', b1, b2, b3⟩ := a3 (by rw [(of_decide_eq_true d2).2]; decide)
      rw [(nI_eq (by omega) (by omega)).mp (b2.symm.trans d3)] at b3
      exact b3 hst
  refine ⟨hR, ?_⟩
  rcases C.1.2.1.1 with ⟨e, -⟩ | ⟨wt, -⟩
  · exact e
  · exfalso
    have := zl_mem (zy_lvs_pos wt)
    obtain ⟨w, hw, -⟩ := C.1.2.2.2.2.2 _ this
    rw [hR] at hw
    cases hw
end ZCJ
end
