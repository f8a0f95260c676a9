/-! windows taken back, one after the other -/
/-- the windows of a list leave their trees, one after the other -/
def zd_seq : List Nat → zm_M → (Nat → List Nat) → (Nat → zy_F) → zm_M → (Nat → List Nat) → (Nat → zy_F) → Prop
  | [], μ, Rs, ts, ξ, Rs', ts' => (∀ q, q < 3 → ∀ j, j < 19 → ξ (zdT q + j) = μ (zdT q + j)) ∧ Rs' = Rs ∧ ts' = ts
  | k :: l, μ, Rs, ts, ξ, Rs', ts' => ∃ ν q n, (q < 3 ∧ μ (zdW k) 5 = nI q ∧ n ∈ zy_lvs (ts q) ∧ k ∈ Rs q ∧ μ (zdT q + 3) k = nI n) ∧ zt_isOut μ (zdT q) (Rs q) (ts q) n k ν (zdT q) ∧ (∀ p, p < 3 → p ≠ q → ∀ j, j < 19 → ν (zdT p + j) = μ (zdT p + j)) ∧ (∀ j, j < 10 → ν (zdW j) = μ (zdW j)) ∧
      zd_seq l ν (zd_upd Rs q ((Rs q).erase k)) (zd_upd ts q (if (zt_tb μ (zdT q) (Rs q) n).erase k = [] then zy_out n (ts q) else ts q)) ξ Rs' ts'
section ZBR
variable {μ ν ξ : zm_M} {Rs Rs1 : Nat → List Nat} {ts ts1 : Nat → zy_F}
theorem zt_isOut_src {Q n k T : Nat} {R : List Nat} {t : zy_F} {μ' : zm_M} (h : zt_isCopy μ Q μ' Q) (g : zt_isOut μ' Q R t n k ν T) : zt_isOut μ Q R t n k ν T := by
  obtain ⟨c3, c5, c6, c7, c8, c12⟩ := h
  unfold zt_isOut at *
  rw [zt_tb_congr (μ := μ) (Q := Q) c3, c3, c5, c6, c7, c8, c12] at g
  exact g
theorem zd_seq_snoc {k q n : Nat} : ∀ (l : List Nat) (μ : zm_M) (Rs : Nat → List Nat) (ts : Nat → zy_F), zd_seq l μ Rs ts ξ Rs1 ts1 → (∀ j, j < 10 → ξ (zdW j) = μ (zdW j)) → k < 10 → (q < 3 ∧ ξ (zdW k) 5 = nI q ∧ n ∈ zy_lvs (ts1 q) ∧ k ∈ Rs1 q ∧ ξ (zdT q + 3) k = nI n) → zt_isOut ξ (zdT q) (Rs1 q) (ts1 q) n k ν (zdT q) → (∀ p, p < 3 → p ≠ q → ∀ j, j < 19 → ν (zdT p + j) = ξ (zdT p + j)) → (∀ j, j < 10 → ν (zdW j) = ξ (zdW j)) →
    zd_seq (l ++ [k]) μ Rs ts ν (zd_upd Rs1 q ((Rs1 q).erase k)) (zd_upd ts1 q (if (zt_tb ξ (zdT q) (Rs1 q) n).erase k = [] then zy_out n (ts1 q) else ts1 q)) := by
  intro l
  induction l with
  | nil =>
    rintro μ Rs ts ⟨h1, rfl, rfl⟩ hw hk ⟨a1, a2, a3, a4, a5⟩ O hp hw2
    have r := h1 q a1
    have cp : zt_isCopy μ (zdT q) ξ (zdT q) := ⟨r _ (by omega), r _ (by omega), r _ (by omega), r _ (by omega), r _ (by omega), r _ (by omega)⟩
    refine ⟨ν, q, n, ⟨a1, by rw [← hw k hk]; exact a2, a3, a4, by rw [← r 3 (by omega)]; exact a5⟩, zt_isOut_src cp O, fun p p1 p2 j hj => (hp p p1 p2 j hj).trans (h1 p p1 j hj), fun j hj => (hw2 j hj).trans (hw j hj), fun _ _ _ _ => rfl, rfl, ?_⟩
    rw [zt_tb_congr (μ := μ) (Q := zdT q) (r 3 (by omega))]
  | cons k' l ih =>
    rintro μ Rs ts ⟨ν', q', n', hA, hO, hP, hW, hS⟩ hw hk a O hp hw2
    exact ⟨ν', q', n', hA, hO, hP, hW, ih ν' _ _ hS (fun j hj => (hw j hj).trans (hW j hj).symm) hk a O hp hw2⟩
theorem zl_range_f {p : Nat → Bool} {i : Nat} : (List.range (i + 1)).filter p = (List.range i).filter p ++ (if p i then [i] else []) := by
  rw [List.range_succ, List.filter_append, List.filter_cons]
  rfl
/-- what the loop over takeBack leaves behind i rounds -/
def zd_tbk (μ ξ : zm_M) (Rs : Nat → List Nat) (ts : Nat → zy_F) (H : Nat → Bool) (i : Nat) (Rs1 : Nat → List Nat) (ts1 : Nat → zy_F) : Prop :=
  zd_seq ((List.range i).filter (fun j => H j && zd_til μ j)) μ Rs ts ξ Rs1 ts1 ∧
  (∀ q, q < 3 → zt_C ξ (zdT q) (Rs1 q) (ts1 q) ∧ (∀ j, j ∈ Rs1 q ↔ (j ∈ Rs q ∧ ¬ (j < i ∧ H j = true))) ∧ ξ (zdT q + 5) = μ (zdT q + 5) ∧ ξ (zdT q + 6) = μ (zdT q + 6) ∧ (zt_fit μ (zdT q) (zdZ q) (Rs q) (ts q) = true → zt_fit ξ (zdT q) (zdZ q) (Rs1 q) (ts1 q) = true)) ∧
  (∀ c, ¬ zJ_irr c → (∀ q, q < 3 → zt_out (zdT q) c) → ξ c = μ c) ∧ ξ 31 = μ 31 ∧ ∀ q, q < 3 → q ∉ [] → Rs1 (3 + q) = Rs (3 + q) ∧ ts1 (3 + q) = ts (3 + q)
theorem zd_tbk_W {H : Nat → Bool} {i : Nat} (h : zd_tbk μ ξ Rs ts H i Rs1 ts1) {j : Nat} (hj : j < 10) : ξ (zdW j) = μ (zdW j) ∧ ξ (zdW j + 1) = μ (zdW j + 1) :=
  ⟨h.2.2.1 _ (zJn_W hj).1 (fun q hq => zJn_out hq (Or.inr (Or.inl ⟨j, hj, Or.inl rfl⟩))), h.2.2.1 _ (zJn_W hj).2 (fun q hq => zJn_out hq (Or.inr (Or.inl ⟨j, hj, Or.inr rfl⟩)))⟩
theorem zd_tbk_s (D : Nat) {H : Nat → Bool} {i s : Nat} (hi : i < 10) (hs : s < 3) (hH : H i = true) (htl : ∀ j, j < 10 → zd_til μ j = true → ∃ q, q < 3 ∧ μ (zdW j) 5 = nI q ∧ j ∈ Rs q) (hdj : ∀ q p j, q < 3 → p < 3 → j ∈ Rs q → j ∈ Rs p → q = p) (hsm : ∀ q, q < 3 → zt_sm μ (zdT q) (Rs q)) (hRt : ∀ q j, q < 3 → j ∈ Rs q → zd_til μ j = true) (h : zd_tbk μ ξ Rs ts H i Rs1 ts1) :
    ∃ ξ' Rs2 ts2, ze_E (D + 5) A_Desk_takeBack [.ref 1, .int (nI i), .ref (zdK s + 1)] (zm_mk ξ) none (zm_mk ξ') ∧ zd_tbk μ ξ' Rs ts H (i + 1) Rs2 ts2 := by
  have wW : ∀ j, j < 10 → ξ (zdW j) = μ (zdW j) := fun j hj => (zd_tbk_W h hj).1
  obtain ⟨hq, hT, hF, h31, hK⟩ := id h
  have et : zd_til ξ i = zd_til μ i := by unfold zd_til; rw [wW i hi]
  by_cases c : zd_til μ i = true
  · obtain ⟨q, hq3, eq, hiR⟩ := htl i hi c
    obtain ⟨C, m, r5, r6, ft⟩ := hT q hq3
    have hi1 : i ∈ Rs1 q := (m i).mpr ⟨hiR, fun z => by omega⟩
    obtain ⟨n, hn, en⟩ := C.1.2.2.2.1 i hi1
    obtain ⟨ξ', E, O, f⟩ := ze_takeBack_1 (μ := ξ) (q := s) D hi hq3 (by rw [et]; exact c) (by rw [wW i hi]; exact eq) C.1 hn hi1 en
    have hp : ∀ p, p < 3 → p ≠ q → ∀ j, j < 24 → ξ' (zdT p + j) = ξ (zdT p + j) := fun p hp1 hp2 j hj => f _ (by unfold zt_out zdT; omega)
    have hw2 : ∀ j, j < 10 → ξ' (zdW j) = ξ (zdW j) := fun j hj => f _ (zJn_out hq3 (Or.inr (Or.inl ⟨j, hj, Or.inl rfl⟩)))
    refine ⟨ξ', zd_upd Rs1 q ((Rs1 q).erase i), zd_upd ts1 q (if (zt_tb ξ (zdT q) (Rs1 q) n).erase i = [] then zy_out n (ts1 q) else ts1 q), E, ?_, fun p hp3 => ?_, fun a a1 a2 => (f a (a2 q hq3)).trans (hF a a1 a2), ?_, fun p hp3 _ => ?_⟩
    · rw [zl_range_f, if_pos (by rw [hH, c]; rfl)]
      exact zd_seq_snoc _ μ Rs ts hq wW hi ⟨hq3, by rw [wW i hi]; exact eq, hn, hi1, en⟩ O (fun p p1 p2 j hj => hp p p1 p2 j (by omega)) hw2
    · by_cases e : p = q
      · subst e
        have e1 : zd_upd Rs1 p ((Rs1 p).erase i) p = (Rs1 p).erase i := if_pos rfl
        have e2 : zd_upd ts1 p (if (zt_tb ξ (zdT p) (Rs1 p) n).erase i = [] then zy_out n (ts1 p) else ts1 p) p = if (zt_tb ξ (zdT p) (Rs1 p) n).erase i = [] then zy_out n (ts1 p) else ts1 p := if_pos rfl
        rw [e1, e2]
        refine ⟨O.1, fun j => ?_, O.2.2.1.trans r5, O.2.2.2.1.trans r6, fun z => ?_⟩
        · rw [zl_er_mem C.1.1.2.1, m j]
          constructor
          · rintro ⟨a1, a2, a3⟩
            exact ⟨a2, fun z => a3 ⟨by omega, z.2⟩⟩
          · rintro ⟨a1, a2⟩
            refine ⟨fun ej => a2 ⟨by omega, by rw [ej]; exact hH⟩, a1, fun z => a2 ⟨by omega, z.2⟩⟩
        · refine zt_fit_out C (fun w hw a ha => ?_) hn O (f _ (zJn_out hq3 (Or.inr (Or.inr (Or.inl ⟨p, hp3, Or.inr (Or.inl rfl)⟩))))) (ft z)
          obtain ⟨x, hx, ex⟩ := hsm p hp3 w ((m w).mp hw).1 a ha
          refine ⟨x, hx, ?_⟩
          match a, ha with
          | 0, _ => exact (congrFun r5 w).trans ex
          | 1, _ => exact (congrFun r6 w).trans ex
      · have e1 : zd_upd Rs1 q ((Rs1 q).erase i) p = Rs1 p := if_neg e
        have e2 : zd_upd ts1 q (if (zt_tb ξ (zdT q) (Rs1 q) n).erase i = [] then zy_out n (ts1 q) else ts1 q) p = ts1 p := if_neg e
        rw [e1, e2]
        obtain ⟨C', m', r5', r6', ft'⟩ := hT p hp3
        have r := hp p hp3 e
        refine ⟨zt_C_19 (fun j hj => r j (by omega)) C', fun j => ?_, (r 5 (by omega)).trans r5', (r 6 (by omega)).trans r6', fun z => ?_⟩
        · rw [m' j]
          constructor
          · rintro ⟨a1, a2⟩
            refine ⟨a1, fun z => ?_⟩
            by_cases ej : j = i
            · rw [ej] at a1
              exact e (hdj p q i hp3 hq3 a1 hiR)
            · exact a2 ⟨by omega, z.2⟩
          · rintro ⟨a1, a2⟩
            exact ⟨a1, fun z => a2 ⟨by omega, z.2⟩⟩
        · rw [zt_fit_copy (A := ξ) (T := zdT p) ⟨r _ (by omega), r _ (by omega), r _ (by omega), r _ (by omega), r _ (by omega), r _ (by omega)⟩ (f _ (zJn_out hq3 (Or.inr (Or.inr (Or.inl ⟨p, hp3, Or.inr (Or.inl rfl)⟩)))))]
          exact ft' z
    · rw [f 31 (by unfold zt_out zdT; omega)]
      exact h31
    · have := hK p hp3 List.not_mem_nil
      unfold zd_upd
      rw [if_neg (by omega), if_neg (by omega)]
      exact this
  · have c' : zd_til μ i = false := by simpa using c
    obtain ⟨ξ', E, f⟩ := ze_takeBack_2 (μ := ξ) (D + 3) hi hs (by rw [et]; exact c')
    have rT : ∀ p, p < 3 → ∀ j, ξ' (zdT p + j) = ξ (zdT p + j) := fun p hp3 j => f _ (by unfold zdT zdW; omega)
    refine ⟨ξ', Rs1, ts1, E, ?_, fun p hp3 => ?_, fun a a1 a2 => (f a (fun e => a1 (by rw [e]; unfold zJ_irr zdW; omega))).trans (hF a a1 a2), (f 31 (by unfold zdW; omega)).trans h31, hK⟩
    · rw [zl_range_f, if_neg (by rw [c']; simp), List.append_nil]
      have key : ∀ (l : List Nat) (μ : zm_M) (Rs : Nat → List Nat) (ts : Nat → zy_F), zd_seq l μ Rs ts ξ Rs1 ts1 → zd_seq l μ Rs ts ξ' Rs1 ts1 := by
        intro l
        induction l with
        | nil =>
          rintro μ Rs ts ⟨h1, h2, h3⟩
          exact ⟨fun q hq j hj => (rT q hq j).trans (h1 q hq j hj), h2, h3⟩
        | cons k l ih =>
          rintro μ Rs ts ⟨ν', q', n', a1, a2, a3, a4, a5⟩
          exact ⟨ν', q', n', a1, a2, a3, a4, ih _ _ _ a5⟩
      exact key _ _ _ _ hq
    · obtain ⟨C', m', r5', r6', ft'⟩ := hT p hp3
      refine ⟨zt_C_19 (fun j hj => rT p hp3 j) C', fun j => ?_, (rT p hp3 5).trans r5', (rT p hp3 6).trans r6', fun z => ?_⟩
      · rw [m' j]
        constructor
        · rintro ⟨a1, a2⟩
          refine ⟨a1, fun z => ?_⟩
          by_cases ej : j = i
          · rw [ej] at a1
            exact c (hRt p i hp3 a1)
          · exact a2 ⟨by omega, z.2⟩
        · rintro ⟨a1, a2⟩
          exact ⟨a1, fun z => a2 ⟨by omega, z.2⟩⟩
      · rw [zt_fit_copy (A := ξ) (T := zdT p) ⟨rT p hp3 _, rT p hp3 _, rT p hp3 _, rT p hp3 _, rT p hp3 _, rT p hp3 _⟩ (f _ (by unfold zdZ zdW; omega))]
        exact ft' z
end ZBR
