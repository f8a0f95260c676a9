/-! least sizes as numbers; they don't grow when a tab goes -/
theorem nI_max {a b : Nat} (ha : a < 2 ^ 31) (hb : b < 2 ^ 31) : zi_mx (nI a) (nI b) = nI (max a b) := by
  unfold zi_mx
  by_cases c : a < b
  · rw [if_pos (nI_lt c hb), Nat.max_eq_right (by omega)]
  · rw [if_neg (Int32.not_lt.mpr (nI_le (by omega) ha)), Nat.max_eq_left (by omega)]
def zt_lfN (tl : Nat → Nat) (hm : Nat → Int32) (R : List Nat) (n : Nat) : Nat := R.foldl (fun m w => if hm w = nI n then max m (tl w) else m) 0
theorem zt_lfN_le {tl : Nat → Nat} {hm : Nat → Int32} {n B : Nat} : ∀ (R : List Nat) (m : Nat), m ≤ B → (∀ w ∈ R, tl w ≤ B) → R.foldl (fun m w => if hm w = nI n then max m (tl w) else m) m ≤ B := by
  intro R
  induction R with
  | nil => intro m hm _; exact hm
  | cons w R ih =>
    intro m hmB h
    rw [List.foldl_cons]
    refine ih _ ?_ (fun x hx => h x (List.mem_cons_of_mem _ hx))
    have := h w List.mem_cons_self
    split
    · exact Nat.max_le.mpr ⟨hmB, this⟩
    · exact hmB
theorem zt_lf_N {tl : Nat → Nat} {tlI hm : Nat → Int32} {n : Nat} : ∀ (R : List Nat) (m : Nat), m ≤ 200 → (∀ w ∈ R, tlI w = nI (tl w) ∧ tl w ≤ 200) → R.foldl (fun m w => if hm w = nI n then zi_mx m (tlI w) else m) (nI m) = nI (R.foldl (fun m w => if hm w = nI n then max m (tl w) else m) m) := by
  intro R
  induction R with
  | nil => intro m _ _; rfl
  | cons w R ih =>
    intro m hle h
    obtain ⟨e, hb⟩ := h w List.mem_cons_self
    rw [List.foldl_cons, List.foldl_cons]
    by_cases c : hm w = nI n
    · rw [if_pos c, if_pos c, e, nI_max (by omega) (by omega)]
      exact ih _ (Nat.max_le.mpr ⟨hle, hb⟩) (fun x hx => h x (List.mem_cons_of_mem _ hx))
    · rw [if_neg c, if_neg c]
      exact ih _ hle (fun x hx => h x (List.mem_cons_of_mem _ hx))
def zy_lsN (a : Nat) (fm : Nat → Int32) (lf : Nat → Nat) : zy_F → Nat
  | .append (.tag n x) y => if fm n = nI a then zy_lsN a fm lf x + zy_lsN a fm lf y else max (zy_lsN a fm lf x) (zy_lsN a fm lf y)
  | .tag n _ => lf n
  | _ => 0
theorem zy_ls_N {a : Nat} {fm lfI : Nat → Int32} {lf : Nat → Nat} : ∀ t, zy_wf t → (zy_lvs t).length ≤ 100 → (∀ n ∈ zy_lvs t, lfI n = nI (lf n) ∧ lf n ≤ 200) → zy_ls a fm lfI t = nI (zy_lsN a fm lf t) ∧ zy_lsN a fm lf t ≤ 200 * (zy_lvs t).length := by
  apply zy_ind
  · intro n _ h
    obtain ⟨e, hb⟩ := h n List.mem_cons_self
    refine ⟨e, ?_⟩
    show lf n ≤ 200 * 1
    omega
  · intro n x y wx wy hx hy hl h
    have hl' : (zy_lvs x ++ zy_lvs y).length ≤ 100 := hl
    rw [List.length_append] at hl'
    obtain ⟨e1, b1⟩ := hx (by omega) (fun m hm => h m (List.mem_append_left _ hm))
    obtain ⟨e2, b2⟩ := hy (by omega) (fun m hm => h m (List.mem_append_right _ hm))
    show (if fm n = nI a then zy_ls a fm lfI x + zy_ls a fm lfI y else zi_mx (zy_ls a fm lfI x) (zy_ls a fm lfI y)) = nI (if fm n = nI a then zy_lsN a fm lf x + zy_lsN a fm lf y else max (zy_lsN a fm lf x) (zy_lsN a fm lf y)) ∧ (if fm n = nI a then zy_lsN a fm lf x + zy_lsN a fm lf y else max (zy_lsN a fm lf x) (zy_lsN a fm lf y)) ≤ 200 * (zy_lvs x ++ zy_lvs y).length
    rw [List.length_append, e1, e2]
    by_cases c : fm n = nI a
    · rw [if_pos c, if_pos c, nI_add]
      exact ⟨rfl, by omega⟩
    · rw [if_neg c, if_neg c, nI_max (by omega) (by omega)]
      exact ⟨rfl, by omega⟩
theorem zy_lsN_mono {a : Nat} {fm fm' : Nat → Int32} {lf lf' : Nat → Nat} : ∀ t, zy_wf t → (∀ n ∈ zy_ids t, fm' n = fm n) → (∀ n ∈ zy_lvs t, lf' n ≤ lf n) → zy_lsN a fm' lf' t ≤ zy_lsN a fm lf t := by
  apply zy_ind
  · intro n _ h
    exact h n List.mem_cons_self
  · intro n x y wx wy hx hy h1 h2
    have b1 := hx (fun m hm => h1 m (List.mem_cons_of_mem _ (List.mem_append_left _ hm))) (fun m hm => h2 m (List.mem_append_left _ hm))
    have b2 := hy (fun m hm => h1 m (List.mem_cons_of_mem _ (List.mem_append_right _ hm))) (fun m hm => h2 m (List.mem_append_right _ hm))
    show (if fm' n = nI a then zy_lsN a fm' lf' x + zy_lsN a fm' lf' y else max (zy_lsN a fm' lf' x) (zy_lsN a fm' lf' y)) ≤ (if fm n = nI a then zy_lsN a fm lf x + zy_lsN a fm lf y else max (zy_lsN a fm lf x) (zy_lsN a fm lf y))
    rw [h1 n List.mem_cons_self]
    split <;> omega
theorem zy_lsN_del {a n : Nat} {fm : Nat → Int32} {lf : Nat → Nat} : ∀ t, zy_wf t → zy_lsN a fm lf (zy_del n t) ≤ zy_lsN a fm lf t := by
  apply zy_ind
  · intro m
    exact Nat.le_refl _
  · intro c x y wx wy hx hy
    show zy_lsN a fm lf (if zy_id x = n then y else if zy_id y = n then x else .append (.tag c (zy_del n x)) (zy_del n y)) ≤ (if fm c = nI a then zy_lsN a fm lf x + zy_lsN a fm lf y else max (zy_lsN a fm lf x) (zy_lsN a fm lf y))
    split
    · split <;> omega
    · split
      · split <;> omega
      · show (if fm c = nI a then zy_lsN a fm lf (zy_del n x) + zy_lsN a fm lf (zy_del n y) else max (zy_lsN a fm lf (zy_del n x)) (zy_lsN a fm lf (zy_del n y))) ≤ _
        split <;> omega
theorem zy_lsN_out {a n : Nat} {fm : Nat → Int32} {lf : Nat → Nat} (t : zy_F) (h : zy_wf t) : zy_lsN a fm lf (zy_out n t) ≤ zy_lsN a fm lf t := by
  unfold zy_out
  split
  · exact Nat.zero_le _
  · exact zy_lsN_del t h
theorem zt_lfN_erase {tl : Nat → Nat} {hm : Nat → Int32} {n w : Nat} : ∀ (R : List Nat) (m m' : Nat), m' ≤ m → (R.erase w).foldl (fun m w => if hm w = nI n then max m (tl w) else m) m' ≤ R.foldl (fun m w => if hm w = nI n then max m (tl w) else m) m := by
  have mono : ∀ (R : List Nat) (m m' : Nat), m' ≤ m → R.foldl (fun m w => if hm w = nI n then max m (tl w) else m) m' ≤ R.foldl (fun m w => if hm w = nI n then max m (tl w) else m) m := by
    intro R
    induction R with
    | nil => intro m m' h; exact h
    | cons x R ih =>
      intro m m' h
      rw [List.foldl_cons, List.foldl_cons]
      apply ih
      split
      · omega
      · exact h
  intro R
  induction R with
  | nil => intro m m' h; exact h
  | cons x R ih =>
    intro m m' h
    rw [List.erase_cons]
    split
    · rw [List.foldl_cons]
      apply mono
      split
      · omega
      · exact h
    · rw [List.foldl_cons, List.foldl_cons]
      apply ih
      split
      · omega
      · exact h
section ZLN
variable {μ ν : zm_M} {R : List Nat} {t : zy_F}
/-- the tabs' least sizes are small numbers -/
def zt_sm (μ : zm_M) (Q : Nat) (R : List Nat) : Prop := ∀ w ∈ R, ∀ a, a < 2 → ∃ x, x ≤ 200 ∧ μ (Q + 5 + a) w = nI x
def zt_tlN (μ : zm_M) (Q a w : Nat) : Nat := (μ (Q + 5 + a) w).toNatClampNeg
theorem zt_sm_tl {Q : Nat} (h : zt_sm μ Q R) {a : Nat} (ha : a < 2) : ∀ w ∈ R, μ (Q + 5 + a) w = nI (zt_tlN μ Q a w) ∧ zt_tlN μ Q a w ≤ 200 := by
  intro w hw
  obtain ⟨x, hx, e⟩ := h w hw a ha
  unfold zt_tlN
  rw [e, nI_clamp (by omega)]
  exact ⟨rfl, hx⟩
theorem zt_lsz_N {Q : Nat} (hI : zt_I μ Q R t) (h : zt_sm μ Q R) {a : Nat} (ha : a < 2) : zt_lsz μ Q a R t = nI (zy_lsN a (μ (Q + 7)) (zt_lfN (zt_tlN μ Q a) (μ (Q + 3)) R) t) ∧ zy_lsN a (μ (Q + 7)) (zt_lfN (zt_tlN μ Q a) (μ (Q + 3)) R) t ≤ 2000 := by
  have h10 := hI.1.1.1
  have hl := zt_I_len hI
  rcases hI.2.1.1 with ⟨rfl, _⟩ | ⟨wt, -, -⟩
  · exact ⟨rfl, Nat.zero_le _⟩
  · have := zy_ls_N (a := a) (fm := μ (Q + 7)) (lfI := zt_lf (μ (Q + 5 + a)) (μ (Q + 3)) R) (lf := zt_lfN (zt_tlN μ Q a) (μ (Q + 3)) R) t wt (by omega) (fun n _ => ⟨zt_lf_N R 0 (Nat.zero_le _) (zt_sm_tl h ha), zt_lfN_le R 0 (Nat.zero_le _) (fun w hw => (zt_sm_tl h ha w hw).2)⟩)
    exact ⟨this.1, by omega⟩
theorem zt_lfN_congr {tl tl' : Nat → Nat} {hm hm' : Nat → Int32} {n : Nat} : ∀ (R : List Nat) (m : Nat), (∀ w ∈ R, tl' w = tl w ∧ hm' w = hm w) → R.foldl (fun m w => if hm' w = nI n then max m (tl' w) else m) m = R.foldl (fun m w => if hm w = nI n then max m (tl w) else m) m := by
  intro R
  induction R with
  | nil => intro m _; rfl
  | cons w R ih =>
    intro m h
    obtain ⟨e1, e2⟩ := h w List.mem_cons_self
    rw [List.foldl_cons, List.foldl_cons, e1, e2]
    exact ih _ (fun x hx => h x (List.mem_cons_of_mem _ hx))
/-- a tab that goes makes no least size greater -/
theorem zt_fit_out {Q T n k z : Nat} (hC : zt_C μ Q R t) (h : zt_sm μ Q R) (hn : n ∈ zy_lvs t) (ho : zt_isOut μ Q R t n k ν T) (hz : ν z = μ z) (hf : zt_fit μ Q z R t = true) : zt_fit ν T z (R.erase k) (if (zt_tb μ Q R n).erase k = [] then zy_out n t else t) = true := by
  obtain ⟨C, t3, t5, t6, t7, t8, t12⟩ := ho
  have wt := (zt_I_lv hC.1 hn).1
  have hd := hC.1.1.2.1
  have hr5 : ∀ a, a < 2 → ν (T + 5 + a) = μ (Q + 5 + a) := fun a ha => by
    match a, ha with
    | 0, _ => exact t5
    | 1, _ => exact t6
  have h' : zt_sm ν T (R.erase k) := fun w hw a ha => by
    rw [hr5 a ha]
    exact h w (List.mem_of_mem_erase hw) a ha
  have key : ∀ a, a < 2 → zt_lsz ν T a (R.erase k) (if (zt_tb μ Q R n).erase k = [] then zy_out n t else t) ≤ zt_lsz μ Q a R t := by
    intro a ha
    obtain ⟨e1, b1⟩ := zt_lsz_N hC.1 h ha
    obtain ⟨e2, b2⟩ := zt_lsz_N C.1 h' ha
    rw [e1, e2]
    refine nI_le ?_ (by omega)
    have hlf : ∀ m, zt_lfN (zt_tlN ν T a) (ν (T + 3)) (R.erase k) m ≤ zt_lfN (zt_tlN μ Q a) (μ (Q + 3)) R m := fun m => by
      have := zt_lfN_congr (n := m) (tl := zt_tlN μ Q a) (tl' := zt_tlN ν T a) (hm := μ (Q + 3)) (hm' := ν (T + 3)) (R.erase k) 0 (fun w hw => ⟨by unfold zt_tlN; rw [hr5 a ha], by rw [t3, if_neg ((zl_er_mem hd).mp hw).1]⟩)
      unfold zt_lfN
      rw [this]
      exact zt_lfN_erase R 0 0 (Nat.le_refl _)
    by_cases c : (zt_tb μ Q R n).erase k = []
    · rw [if_pos c] at t7 ⊢
      rw [if_pos c] at C
      rcases C.1.2.1.1 with ⟨e, _⟩ | ⟨wo, -, -⟩
      · rw [e]
        exact Nat.zero_le _
      · exact Nat.le_trans (zy_lsN_mono _ wo t7 (fun m _ => hlf m)) (zy_lsN_out t wt)
    · rw [if_neg c] at t7 ⊢
      exact zy_lsN_mono t wt t7 (fun m _ => hlf m)
  unfold zt_fit at *
  obtain ⟨q1, q2⟩ := of_decide_eq_true hf
  rw [hz]
  exact decide_eq_true ⟨Int32.le_trans (key 0 (by decide)) q1, Int32.le_trans (key 1 (by decide)) q2⟩
end ZLN
