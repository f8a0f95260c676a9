/-! the desk: close -/
section ZCL
variable {μ ν : zm_M} {row stk : List Nat} {Rs : Nat → List Nat} {ts : Nat → zy_F}
theorem zl_filter_erase {l : List Nat} (h : l.Nodup) {p : Nat → Bool} {i : Nat} : (l.filter p).erase i = l.filter (fun j => p j && decide (j ≠ i)) := by
  rw [List.Nodup.erase_eq_filter (h.filter p) i, List.filter_filter]
  refine List.filter_congr (fun j _ => ?_)
  by_cases e : j = i
  · simp [e]
  · simp [e]
/-- those of the group that have ended: numbers below i -/
def zd_left (G : Nat → Bool) (i : Nat) : Nat → Bool := fun j => !(decide (j < i) && G j)
def zd_cls (μ ξ : zm_M) (row stk : List Nat) (G : Nat → Bool) (i k s n : Nat) (R : List Nat) (t : zy_F) : Prop :=
  (zr_L ξ 3 (row.filter (zd_left G i)) ∧ zr_L ξ 5 (stk.filter (zd_left G i))) ∧ (∀ j, j < 10 → ξ (zdW j) 2 = if zd_left G i j = true then μ (zdW j) 2 else 0) ∧ (∀ q, q < 3 → ξ (zdK q) 3 = if zd_hasg μ G i q = true then 0 else μ (zdK q) 3) ∧
  (zd_til μ k = true → k < i → zt_isOut μ (zdT s) R t n k ξ (zdT s)) ∧ zd_gr ξ G ∧
  ∀ c b, c ≠ 3 → c ≠ 4 → c ≠ 5 → c ≠ 6 → c ≠ 31 → (∀ q, q < 3 → c = zdK q → b ≠ 3) → (∀ j, j < 10 → c = zdW j → b ≠ 2) → (zd_til μ k = true → k < i → zt_out (zdT s) c) → ξ c b = μ c b
theorem zd_left_s {G : Nat → Bool} {i j : Nat} (hG : G i = true) : zd_left G (i + 1) j = (zd_left G i j && decide (j ≠ i)) := by
  unfold zd_left
  by_cases e : j = i
  · subst e
    simp [hG]
  · have e1 : decide (j < i + 1) = decide (j < i) := decide_eq_decide.mpr (by omega)
    rw [e1]
    simp [e]
theorem zd_left_n {G : Nat → Bool} {i : Nat} (hG : G i = false) : zd_left G (i + 1) = zd_left G i := by
  funext j
  unfold zd_left
  by_cases e : j = i
  · subst e
    simp [hG]
  · have e1 : decide (j < i + 1) = decide (j < i) := decide_eq_decide.mpr (by omega)
    rw [e1]
theorem zd_hasg_s {G : Nat → Bool} {i q : Nat} : zd_hasg μ G (i + 1) q = (zd_hasg μ G i q || (G i && zd_has μ q i)) := by
  unfold zd_hasg
  show (!(zl_al _ i && !(G i && zd_has μ q i))) = _
  cases zl_al (fun k => !(G k && zd_has μ q k)) i <;> cases G i <;> cases zd_has μ q i <;> rfl
/-- one more of the group ends -/
theorem zd_cls_s (D : Nat) {G : Nat → Bool} {i k s n : Nat} {R : List Nat} {t : zy_F} (hi : i < 10) (hs : s < 3) (hG : G i = true) (hGk : G i = true → zd_til μ i = true → i = k) (hrn : row.Nodup) (hsn : stk.Nodup) (hrb : ∀ j ∈ row, j < 10) (hsb : ∀ j ∈ stk, j < 10)
    (ht : zd_til μ k = true → μ (zdW k) 5 = nI s ∧ zt_I μ (zdT s) R t ∧ n ∈ zy_lvs t ∧ k ∈ R ∧ μ (zdT s + 3) k = nI n) {ξ : zm_M} (h : zd_cls μ ξ row stk G i k s n R t) : ∃ ξ', ze_E (D + 5) A_Desk_end [.ref 1, .int (nI i)] (zm_mk ξ) none (zm_mk ξ') ∧ zd_cls μ ξ' row stk G (i + 1) k s n R t := by
  obtain ⟨⟨r3, r5⟩, a2, ak, at', ag, af⟩ := h
  have wi2 : ξ (zdW i) 2 = μ (zdW i) 2 := by
    rw [a2 i hi, if_pos (by unfold zd_left; simp)]
  have wo : ∀ j, j < 10 → ∀ b, b ≠ 2 → ξ (zdW j) b = μ (zdW j) b := fun j hj b hb => af _ _ (by unfold zdW; omega) (by unfold zdW; omega) (by unfold zdW; omega) (by unfold zdW; omega) (by unfold zdW; omega) (fun q hq e => by unfold zdW zdK at e; omega) (fun _ _ _ => hb) (fun _ _ => zJn_out hs (Or.inr (Or.inl ⟨j, hj, Or.inl rfl⟩)))
  have tili : zd_til ξ i = zd_til μ i := by
    unfold zd_til
    rw [wi2, wo i hi 3 (by decide)]
  have hrm : ∀ j ∈ row.filter (zd_left G i), j < 10 := fun j hj => hrb j (List.mem_filter.mp hj).1
  have hsm : ∀ j ∈ stk.filter (zd_left G i), j < 10 := fun j hj => hsb j (List.mem_filter.mp hj).1
  have rT : ¬ (zd_til μ k = true ∧ k < i) → ∀ j, j < 24 → ξ (zdT s + j) = μ (zdT s + j) := fun hno j hj => funext fun b => af _ _ (by unfold zdT; omega) (by unfold zdT; omega) (by unfold zdT; omega) (by unfold zdT; omega) (by unfold zdT; omega) (fun q hq e => by unfold zdT zdK at e; omega) (fun j' hj' e => by unfold zdT zdW at e; omega) (fun q1 q2 => absurd ⟨q1, q2⟩ hno)
  obtain ⟨ξ', E, e3, e5, eK, e2, eT, eF⟩ := ze_end (μ := ξ) D hi hs r3 hrm r5 hsm (R := R) (t := t) (n := n) (fun hq => by
    rw [tili] at hq
    have e := hGk hG hq
    subst e
    obtain ⟨b1, b2, b3, b4, b5⟩ := ht hq
    have r := rT (fun q => by omega)
    refine ⟨by rw [wo i hi 5 (by decide)]; exact b1, ?_, b3, b4, by rw [r 3 (by omega)]; exact b5⟩
    exact zt_same.I ⟨r _ (by omega), r _ (by omega), r _ (by omega), r _ (by omega), r _ (by omega), r _ (by omega), r _ (by omega), r _ (by omega), r _ (by omega), r _ (by omega), r _ (by omega), by rw [show ξ (zdT s) = μ (zdT s) from r 0 (by omega)]⟩ b2)
  refine ⟨ξ', E, ⟨?_, ?_⟩, fun j hj => ?_, fun q hq => ?_, fun hq hki => ?_, fun j hj => ?_, fun c b c3 c4 c5 c6 c31 cK cW cT => ?_⟩
  · rw [zl_filter_erase hrn] at e3
    have : (fun j => zd_left G i j && decide (j ≠ i)) = zd_left G (i + 1) := funext fun j => (zd_left_s hG).symm
    rw [this] at e3
    exact e3
  · rw [zl_filter_erase hsn] at e5
    have : (fun j => zd_left G i j && decide (j ≠ i)) = zd_left G (i + 1) := funext fun j => (zd_left_s hG).symm
    rw [this] at e5
    exact e5
  · by_cases e : j = i
    · subst e
      rw [e2, zd_left_s hG, if_neg (by simp)]
    · rw [eF (zdW j) 2 (by unfold zdW; omega) (by unfold zdW; omega) (by unfold zdW; omega) (by unfold zdW; omega) (fun q hq e' => by unfold zdW zdK at e'; omega) (fun q => e (zdW_inj q.1)) (fun _ => zJn_out hs (Or.inr (Or.inl ⟨j, hj, Or.inl rfl⟩))), a2 j hj, zd_left_s hG]
      simp [e]
  · rw [eK q hq, zd_hasg_s, hG, Bool.true_and]
    have q2 := ak q hq
    cases ph : zd_hasg μ G i q with
    | true =>
      rw [ph, if_pos rfl] at q2
      rw [Bool.true_or, if_pos rfl, q2]
      split <;> rfl
    | false =>
      rw [ph, if_neg (by decide)] at q2
      have eh : zd_has ξ q i = zd_has μ q i := by
        unfold zd_has
        rw [q2, af (zdQ q) i (by unfold zdQ; omega) (by unfold zdQ; omega) (by unfold zdQ; omega) (by unfold zdQ; omega) (by unfold zdQ; omega) (fun q' hq' e => by unfold zdQ zdK at e; omega) (fun j hj e => by unfold zdQ zdW at e; omega) (fun _ _ => zJn_out hs (Or.inr (Or.inr (Or.inl ⟨q, hq, Or.inr (Or.inr (Or.inr (Or.inl rfl)))⟩)))), af (zdV q + 3) i (by unfold zdV; omega) (by unfold zdV; omega) (by unfold zdV; omega) (by unfold zdV; omega) (by unfold zdV; omega) (fun q' hq' e => by unfold zdV zdK at e; omega) (fun j hj e => by unfold zdV zdW at e; omega) (fun _ _ => zJn_out hs (Or.inr (Or.inr (Or.inl ⟨q, hq, Or.inr (Or.inr (Or.inr (Or.inr ⟨3, by decide, rfl⟩)))⟩))))]
      simp only [eh]
      rw [Bool.false_or, q2]
  · by_cases e : k < i
    · have hne : ¬ zd_til ξ i = true := fun q => by
        rw [tili] at q
        have := hGk hG q
        omega
      obtain ⟨o1, o2, o3, o4, o5, o6, o7⟩ := at' hq e
      have r : ∀ j, j < 24 → ξ' (zdT s + j) = ξ (zdT s + j) := fun j hj => funext fun b => eF _ _ (by unfold zdT; omega) (by unfold zdT; omega) (by unfold zdT; omega) (by unfold zdT; omega) (fun q hq e => by unfold zdT zdK at e; omega) (fun e => by have := e.1; unfold zdT zdW at this; omega) (fun q => absurd q hne)
      exact ⟨zt_C_congr (fun c h1 h2 => by have := r (c - zdT s) (by omega); rw [show zdT s + (c - zdT s) = c by omega] at this; exact this) o1, fun v => by rw [r 3 (by omega)]; exact o2 v, by rw [r 5 (by omega)]; exact o3, by rw [r 6 (by omega)]; exact o4, fun i hi => by rw [r 7 (by omega)]; exact o5 i hi, by rw [r 8 (by omega)]; exact o6, fun i => by rw [r 12 (by omega)]; exact o7 i⟩
    · have e : i = k := by omega
      subst e
      have O := eT (by rw [tili]; exact hq)
      have r := rT (fun q => by omega)
      unfold zt_isOut at *
      rw [zt_tb_congr (μ := μ) (Q := zdT s) (r 3 (by omega)), r 3 (by omega), r 5 (by omega), r 6 (by omega), r 7 (by omega), r 8 (by omega), r 12 (by omega)] at O
      exact O
  · rw [eF 31 j (by decide) (by decide) (by decide) (by decide) (fun q hq e => by unfold zdK at e; omega) (fun e => by have := e.1; unfold zdW at this; omega) (fun _ => by unfold zt_out zdT; omega)]
    exact ag j hj
  · rw [eF c b c3 c4 c5 c6 cK (fun e => cW i hi e.1 e.2) (fun q => ?_)]
    · exact af c b c3 c4 c5 c6 c31 cK cW (fun q1 q2 => cT q1 (by omega))
    · rw [tili] at q
      have e := hGk hG q
      subst e
      exact cT q (by omega)
end ZCL
