/-! the desk: numbers found and counted -/
/-- the first of n numbers from i on that p holds of -/
def zl_fi (p : Nat → Bool) (d : Int32) : Nat → Nat → Int32
  | 0, _ => d
  | m + 1, i => if p i then nI i else zl_fi p d m (i + 1)
theorem zl_fi_s {p : Nat → Bool} {d : Int32} {n i : Nat} (h : i < n) : zl_fi p d (n - i) i = if p i then nI i else zl_fi p d (n - (i + 1)) (i + 1) := by
  have : n - i = n - (i + 1) + 1 := by omega
  rw [this]
  rfl
theorem zl_fi_spec (p : Nat → Bool) (d : Int32) : ∀ m i, (∃ k, i ≤ k ∧ k < i + m ∧ p k = true ∧ (∀ j, i ≤ j → j < k → p j = false) ∧ zl_fi p d m i = nI k) ∨ ((∀ j, i ≤ j → j < i + m → p j = false) ∧ zl_fi p d m i = d) := by
  intro m
  induction m with
  | zero =>
    intro i
    exact Or.inr ⟨fun j h1 h2 => absurd h2 (by omega), rfl⟩
  | succ m ih =>
    intro i
    show (∃ k, i ≤ k ∧ k < i + (m + 1) ∧ p k = true ∧ (∀ j, i ≤ j → j < k → p j = false) ∧ (if p i then nI i else zl_fi p d m (i + 1)) = nI k) ∨ ((∀ j, i ≤ j → j < i + (m + 1) → p j = false) ∧ (if p i then nI i else zl_fi p d m (i + 1)) = d)
    by_cases c : p i = true
    · rw [if_pos c]
      exact Or.inl ⟨i, Nat.le_refl _, by omega, c, fun j h1 h2 => absurd h2 (by omega), rfl⟩
    · rw [if_neg c]
      have c' : p i = false := by simpa using c
      rcases ih (i + 1) with ⟨k, h1, h2, h3, h4, h5⟩ | ⟨h1, h2⟩
      · refine Or.inl ⟨k, by omega, by omega, h3, fun j q1 q2 => ?_, h5⟩
        by_cases e : j = i
        · rw [e]; exact c'
        · exact h4 j (by omega) q2
      · refine Or.inr ⟨fun j q1 q2 => ?_, h2⟩
        by_cases e : j = i
        · rw [e]; exact c'
        · exact h1 j (by omega) (by omega)
/-- how many of the first n numbers p holds of -/
def zl_ct (p : Nat → Bool) : Nat → Nat
  | 0 => 0
  | n + 1 => zl_ct p n + if p n then 1 else 0
theorem zl_ct_le (p : Nat → Bool) : ∀ n, zl_ct p n ≤ n
  | 0 => Nat.le_refl _
  | n + 1 => by
    have := zl_ct_le p n
    unfold zl_ct
    split <;> omega
/-- p holds of all of the first n numbers -/
def zl_al (p : Nat → Bool) : Nat → Bool
  | 0 => true
  | n + 1 => zl_al p n && p n
theorem zl_al_iff {p : Nat → Bool} : ∀ n, zl_al p n = true ↔ ∀ i, i < n → p i = true
  | 0 => ⟨fun _ i h => absurd h (by omega), fun _ => rfl⟩
  | n + 1 => by
    unfold zl_al
    rw [Bool.and_eq_true, zl_al_iff n]
    constructor
    · rintro ⟨h1, h2⟩ i hi
      by_cases e : i = n
      · rw [e]; exact h2
      · exact h1 i (by omega)
    · intro h
      exact ⟨fun i hi => h i (by omega), h n (by omega)⟩
section ZD2
variable {μ : zm_M}
def zd_lsb (μ : zm_M) (x : Int32) : Int32 := zl_fi (fun s => decide (¬ nI s = x ∧ ¬ μ (zdS s) 3 = 0)) (-1) 3 0
set_option maxRecDepth 100000 in
theorem ze_leastScreenBut (D : Nat) (x : Int32) : ze_E (D + 1) A_Desk_leastScreenBut [.ref 1, .int x] (zm_mk μ) (some (.int (zd_lsb μ x))) (zm_mk μ) := by
  have key : ∃ r h', ze_G D 3 (some .int) zc_X5_leastScreenBut 2 [(2, .int (nI 0)), (0, .ref 1), (1, .int x)] [] (zm_mk μ) r h' ∧ (r = some (.int (zd_lsb μ x)) ∧ zm_mk μ = h') := by
    refine ze_loop (Q := fun i L hp => i ≤ 3 ∧ zi_nl L = true ∧ zi_get L 0 = some (.ref 1) ∧ zi_get L 1 = some (.int x) ∧ zi_get L 2 = some (.int (nI i)) ∧ zm_mk μ = hp ∧ (zd_lsb μ x = zl_fi (fun s => decide (¬ nI s = x ∧ ¬ μ (zdS s) 3 = 0)) (-1) (3 - i) i)) (R := fun r h' => r = some (.int (zd_lsb μ x)) ∧ zm_mk μ = h') 3 ?_ ?_ 3 0 _ _ (by omega) ⟨by omega, rfl, rfl, rfl, rfl, rfl, rfl⟩
    · rintro i L _ hi ⟨-, nl, g0, g1, g2, rfl, hq⟩
      rw [zl_fi_s hi] at hq
      have c1 : ¬ (3 : Int32) ≤ nI i := nI_ge (b := 3) hi (by decide)
      by_cases c2 : nI i = x
      · rw [if_neg (by simp [c2])] at hq
        subst c2
        left
        refine ⟨zi_set L 2 (.int (nI (i + 1))), zm_mk μ, ⟨0, 8, fun F m hF => ?_⟩, by omega, ?_, ?_, ?_, zi_get_set_eq, rfl, hq⟩
        · simp (maxDischargeDepth := 9) [zg_0, zg_aaload, zg_aload_n, zg_getfield, zg_goto, zg_iconst, zg_ifCond, zg_if_icmp, zg_iinc, zg_iload_n, zg_ireturn, zg_istore_n, zf_X5_leastScreenBut, zi_ld, zi_lda, zi_cmp, zi_retOk, zi_isI, zi_f3, zi_cr, zi_ci, zi_cn, zi_get_ne, zi_nl_i, zi_nl_r, zi_get_set_eq, nl, g0, g1, g2, c1, nI_1]
        · simp (maxDischargeDepth := 9) [zi_get_ne, zi_nl_i, zi_nl_r, zi_get_set_eq, nl]
        · simp (maxDischargeDepth := 9) [zi_get_ne, zi_nl_i, zi_nl_r, zi_get_set_eq, nl, g0]
        · simp (maxDischargeDepth := 9) [zi_get_ne, zi_nl_i, zi_nl_r, zi_get_set_eq, nl, g1]
      · by_cases c3 : μ (zdS i) 3 = 0
        · rw [if_neg (by simp [c3])] at hq
          left
          refine ⟨zi_set L 2 (.int (nI (i + 1))), zm_mk μ, ⟨0, 14, fun F m hF => ?_⟩, by omega, ?_, ?_, ?_, zi_get_set_eq, rfl, hq⟩
          · simp (maxDischargeDepth := 9) [zg_0, zg_aaload, zg_aload_n, zg_getfield, zg_goto, zg_iconst, zg_ifCond, zg_if_icmp, zg_iinc, zg_iload_n, zg_ireturn, zg_istore_n, zf_X5_leastScreenBut, zi_ld, zi_lda, zi_cmp, zi_retOk, zi_isI, zi_f3, zi_cr, zi_ci, zi_cn, zi_get_ne, zi_nl_i, zi_nl_r, zi_get_set_eq, nl, g0, g1, g2, c1, c2, c3, zd_g, zd_s hi, zdS_g hi, nI_1]
          · simp (maxDischargeDepth := 9) [zi_get_ne, zi_nl_i, zi_nl_r, zi_get_set_eq, nl]
          · simp (maxDischargeDepth := 9) [zi_get_ne, zi_nl_i, zi_nl_r, zi_get_set_eq, nl, g0]
          · simp (maxDischargeDepth := 9) [zi_get_ne, zi_nl_i, zi_nl_r, zi_get_set_eq, nl, g1]
        · rw [if_pos (by simp [c2, c3])] at hq
          right
          refine ⟨some (.int (nI i)), zm_mk μ, ⟨0, 14, fun F m hF => ?_⟩, by rw [hq], rfl⟩
          simp (maxDischargeDepth := 9) [zg_0, zg_aaload, zg_aload_n, zg_getfield, zg_goto, zg_iconst, zg_ifCond, zg_if_icmp, zg_iinc, zg_iload_n, zg_ireturn, zg_istore_n, zf_X5_leastScreenBut, zi_ld, zi_lda, zi_cmp, zi_retOk, zi_isI, zi_f3, zi_cr, zi_ci, zi_cn, zi_get_ne, zi_nl_i, zi_nl_r, zi_get_set_eq, nl, g0, g1, g2, c1, c2, c3, zd_g, zd_s hi, zdS_g hi, nI_1]
    · rintro L _ ⟨-, nl, g0, g1, g2, rfl, hq⟩
      rw [hq]
      have c1 : (3 : Int32) ≤ nI 3 := by decide
      refine ⟨some (.int (-1)), zm_mk μ, ⟨0, 5, fun F m hF => ?_⟩, rfl, rfl⟩
      simp [zg_0, zg_aaload, zg_aload_n, zg_getfield, zg_goto, zg_iconst, zg_ifCond, zg_if_icmp, zg_iinc, zg_iload_n, zg_ireturn, zg_istore_n, zf_X5_leastScreenBut, zi_ld, zi_lda, zi_cmp, zi_retOk, zi_isI, zi_f3, zi_cr, zi_ci, zi_cn, g0, g2, c1]
  obtain ⟨r, h', G, rfl, rfl⟩ := key
  refine ze_in [(0, .ref 1), (1, .int x)] zq_Desk_leastScreenBut (Nat.le_of_ble_eq_true rfl) rfl (ze_S.end ⟨0, 2, fun F m hF => ?_⟩ G)
  simp [zg_0, zg_aaload, zg_aload_n, zg_getfield, zg_goto, zg_iconst, zg_ifCond, zg_if_icmp, zg_iinc, zg_iload_n, zg_ireturn, zg_istore_n, zf_X5_leastScreenBut, zi_ld, zi_lda, zi_cmp, zi_retOk, zi_isI, zi_f3, zi_cr, zi_ci, zi_cn, zi_get, zi_set, nI_0]
def zd_lfn (μ : zm_M) : Int32 := zl_fi (fun k => decide (μ (zdW k) 2 = 0)) (-1) 10 0
set_option maxRecDepth 100000 in
theorem ze_leastFreeNumber (D : Nat) : ze_E (D + 1) A_Desk_leastFreeNumber [.ref 1] (zm_mk μ) (some (.int (zd_lfn μ))) (zm_mk μ) := by
  have h10 : (Int8.ofInt 10).toInt32 = (10 : Int32) := by decide
  have key : ∃ r h', ze_G D 2 (some .int) zc_X5_leastFreeNumber 2 [(1, .int (nI 0)), (0, .ref 1)] [] (zm_mk μ) r h' ∧ (r = some (.int (zd_lfn μ)) ∧ zm_mk μ = h') := by
    refine ze_loop (Q := fun i L hp => i ≤ 10 ∧ zi_nl L = true ∧ zi_get L 0 = some (.ref 1) ∧ zi_get L 1 = some (.int (nI i)) ∧ zm_mk μ = hp ∧ (zd_lfn μ = zl_fi (fun k => decide (μ (zdW k) 2 = 0)) (-1) (10 - i) i)) (R := fun r h' => r = some (.int (zd_lfn μ)) ∧ zm_mk μ = h') 10 ?_ ?_ 10 0 _ _ (by omega) ⟨by omega, rfl, rfl, rfl, rfl, rfl⟩
    · rintro i L _ hi ⟨-, nl, g0, g1, rfl, hq⟩
      rw [zl_fi_s hi] at hq
      have c1 : ¬ (10 : Int32) ≤ nI i := nI_ge (b := 10) hi (by decide)
      by_cases c2 : μ (zdW i) 2 = 0
      · rw [if_pos (by simp [c2])] at hq
        right
        refine ⟨some (.int (nI i)), zm_mk μ, ⟨0, 11, fun F m hF => ?_⟩, by rw [hq], rfl⟩
        simp (maxDischargeDepth := 9) [zg_0, zg_aaload, zg_aload_n, zg_bipush, zg_getfield, zg_goto, zg_iconst, zg_ifCond, zg_if_icmp, zg_iinc, zg_iload_n, zg_ireturn, zg_istore_n, zf_X5_leastFreeNumber, zi_ld, zi_lda, zi_cmp, zi_retOk, zi_isI, zi_f3, zi_cr, zi_ci, zi_cn, zi_get_ne, zi_nl_i, zi_nl_r, zi_get_set_eq, nl, g0, g1, h10, c1, c2, zd_g, zd_w hi, zw_g (zdW_at hi), nI_1]
      · rw [if_neg (by simp [c2])] at hq
        left
        refine ⟨zi_set L 1 (.int (nI (i + 1))), zm_mk μ, ⟨0, 11, fun F m hF => ?_⟩, by omega, ?_, ?_, zi_get_set_eq, rfl, hq⟩
        · simp (maxDischargeDepth := 9) [zg_0, zg_aaload, zg_aload_n, zg_bipush, zg_getfield, zg_goto, zg_iconst, zg_ifCond, zg_if_icmp, zg_iinc, zg_iload_n, zg_ireturn, zg_istore_n, zf_X5_leastFreeNumber, zi_ld, zi_lda, zi_cmp, zi_retOk, zi_isI, zi_f3, zi_cr, zi_ci, zi_cn, zi_get_ne, zi_nl_i, zi_nl_r, zi_get_set_eq, nl, g0, g1, h10, c1, c2, zd_g, zd_w hi, zw_g (zdW_at hi), nI_1]
        · simp (maxDischargeDepth := 9) [zi_get_ne, zi_nl_i, zi_nl_r, zi_get_set_eq, nl]
        · simp (maxDischargeDepth := 9) [zi_get_ne, zi_nl_i, zi_nl_r, zi_get_set_eq, nl, g0]
    · rintro L _ ⟨-, nl, g0, g1, rfl, hq⟩
      rw [hq]
      have c1 : (10 : Int32) ≤ nI 10 := by decide
      refine ⟨some (.int (-1)), zm_mk μ, ⟨0, 5, fun F m hF => ?_⟩, rfl, rfl⟩
      simp [zg_0, zg_aaload, zg_aload_n, zg_bipush, zg_getfield, zg_goto, zg_iconst, zg_ifCond, zg_if_icmp, zg_iinc, zg_iload_n, zg_ireturn, zg_istore_n, zf_X5_leastFreeNumber, zi_ld, zi_lda, zi_cmp, zi_retOk, zi_isI, zi_f3, zi_cr, zi_ci, zi_cn, g0, g1, h10, c1]
  obtain ⟨r, h', G, rfl, rfl⟩ := key
  refine ze_in [(0, .ref 1)] zq_Desk_leastFreeNumber (Nat.le_of_ble_eq_true rfl) rfl (ze_S.end ⟨0, 2, fun F m hF => ?_⟩ G)
  simp [zg_0, zg_aaload, zg_aload_n, zg_bipush, zg_getfield, zg_goto, zg_iconst, zg_ifCond, zg_if_icmp, zg_iinc, zg_iload_n, zg_ireturn, zg_istore_n, zf_X5_leastFreeNumber, zi_ld, zi_lda, zi_cmp, zi_retOk, zi_isI, zi_f3, zi_cr, zi_ci, zi_cn, zi_get, zi_set, nI_0]
/-- the window k is on the screen x -/
def zd_on (μ : zm_M) (x : Int32) (k : Nat) : Bool := decide (¬ μ (zdW k) 2 = 0 ∧ ¬ μ (zdW k) 3 = 4 ∧ μ (zdW k) 5 = x)
def zd_loose (μ : zm_M) (x : Int32) (k : Nat) : Bool := decide (¬ μ (zdW k) 2 = 0 ∧ ¬ μ (zdW k) 3 = 4 ∧ μ (zdW k) 5 = x ∧ ¬ μ (zdW k) 3 = 1)
def zd_whole (μ : zm_M) (z k : Nat) : Bool := decide (μ (zdW k + 1) 0 ≤ μ z 0 ∧ μ (zdW k + 1) 1 ≤ μ z 1)
def zd_lwf (μ : zm_M) (x : Int32) (z k : Nat) : Bool := !zd_loose μ x k || zd_whole μ z k
theorem zl_lt_s {P : Nat → Prop} {i : Nat} (h : ∀ j, j < i → P j) (h2 : P i) : ∀ j, j < i + 1 → P j := by
  intro j hj
  by_cases e : j = i
  · rw [e]; exact h2
  · exact h j (by omega)
def zd_til (μ : zm_M) (k : Nat) : Bool := decide (¬ μ (zdW k) 2 = 0 ∧ μ (zdW k) 3 = 1)
def zd_flo (μ : zm_M) (k : Nat) : Bool := decide (¬ μ (zdW k) 2 = 0 ∧ ¬ μ (zdW k) 3 = 1)
def zd_sti (μ : zm_M) (k : Nat) : Bool := decide (¬ μ (zdW k) 2 = 0 ∧ μ (zdW k) 3 = 4)
theorem zb_dec {p : Prop} [Decidable p] : zb p = if decide p = true then 1 else 0 := by
  unfold zb
  by_cases q : p
  · rw [if_pos q, if_pos (decide_eq_true q)]
  · rw [if_neg q, if_neg (fun e => q (of_decide_eq_true e))]
theorem ze_tilW (D : Nat) {k : Nat} (h : k < 10) : ze_E (D + 1) A_Win_isTiled [.ref (zdW k + 1)] (zm_mk μ) (some (.int (if zd_til μ k = true then 1 else 0))) (zm_mk μ) := by
  have := ze_isTiled (μ := μ) D (zdW_at h)
  rw [zb_dec] at this
  exact this
theorem ze_floW (D : Nat) {k : Nat} (h : k < 10) : ze_E (D + 1) A_Win_isFloating [.ref (zdW k + 1)] (zm_mk μ) (some (.int (if zd_flo μ k = true then 1 else 0))) (zm_mk μ) := by
  have := ze_isFloating (μ := μ) D (zdW_at h)
  rw [zb_dec] at this
  exact this
theorem ze_stiW (D : Nat) {k : Nat} (h : k < 10) : ze_E (D + 1) A_Win_isSticky [.ref (zdW k + 1)] (zm_mk μ) (some (.int (if zd_sti μ k = true then 1 else 0))) (zm_mk μ) := by
  have := ze_isSticky (μ := μ) D (zdW_at h)
  rw [zb_dec] at this
  exact this
theorem ze_onW (D : Nat) {k : Nat} (h : k < 10) (x : Int32) : ze_E (D + 1) A_Win_isOn [.ref (zdW k + 1), .int x] (zm_mk μ) (some (.int (if zd_on μ x k = true then 1 else 0))) (zm_mk μ) := by
  have := ze_isOn (μ := μ) D (zdW_at h) x
  rw [zb_dec] at this
  exact this
theorem ze_looseW (D : Nat) {k : Nat} (h : k < 10) (x : Int32) : ze_E (D + 2) A_Win_isLooseOn [.ref (zdW k + 1), .int x] (zm_mk μ) (some (.int (if zd_loose μ x k = true then 1 else 0))) (zm_mk μ) := by
  have := ze_isLooseOn (μ := μ) D (zdW_at h) x
  rw [zb_dec] at this
  exact this
theorem ze_wholeW (D : Nat) {k : Nat} (h : k < 10) {z : Nat} (hz : zm_isA 7 z 2) : ze_E (D + 1) A_Win_canBeWhole [.ref (zdW k + 1), .ref (z + 1)] (zm_mk μ) (some (.int (if zd_whole μ z k = true then 1 else 0))) (zm_mk μ) := by
  have := ze_canBeWhole (μ := μ) D (zdW_at h) hz
  rw [zb_dec] at this
  exact this
set_option maxRecDepth 100000 in
theorem ze_windowsOn (D : Nat) (x : Int32) : ze_E (D + 2) A_Desk_windowsOn [.ref 1, .int x] (zm_mk μ) (some (.int (nI (zl_ct (zd_on μ x) 10)))) (zm_mk μ) := by
  have h10 : (Int8.ofInt 10).toInt32 = (10 : Int32) := by decide
  have key : ∃ r h', ze_G (D + 1) 4 (some .int) zc_X5_windowsOn 4 [(3, .int (nI 0)), (2, .int (nI 0)), (0, .ref 1), (1, .int x)] [] (zm_mk μ) r h' ∧ (r = some (.int (nI (zl_ct (zd_on μ x) 10))) ∧ zm_mk μ = h') := by
    refine ze_loop (Q := fun i L hp => i ≤ 10 ∧ zi_nl L = true ∧ zi_get L 0 = some (.ref 1) ∧ zi_get L 1 = some (.int x) ∧ zi_get L 3 = some (.int (nI i)) ∧ zm_mk μ = hp ∧ (zi_get L 2 = some (.int (nI (zl_ct (zd_on μ x) i))))) (R := fun r h' => r = some (.int (nI (zl_ct (zd_on μ x) 10))) ∧ zm_mk μ = h') 10 ?_ ?_ 10 0 _ _ (by omega) ⟨by omega, rfl, rfl, rfl, rfl, rfl, rfl⟩
    · rintro i L _ hi ⟨-, nl, g0, g1, g3, rfl, hq⟩
      have c1 : ¬ (10 : Int32) ≤ nI i := nI_ge (b := 10) hi (by decide)
      obtain ⟨N1, E1⟩ := ze_onW (μ := μ) D hi x
      have cw := zw_c (μ := μ) (zdW_at hi)
      have es : zl_ct (zd_on μ x) (i + 1) = zl_ct (zd_on μ x) i + if zd_on μ x i = true then 1 else 0 := rfl
      by_cases c2 : zd_on μ x i = true
      · rw [if_pos c2] at es E1
        left
        refine ⟨zi_set (zi_set L 2 (.int (nI (zl_ct (zd_on μ x) i + 1)))) 3 (.int (nI (i + 1))), zm_mk μ, ⟨N1, 17, fun F m hF => ?_⟩, by omega, ?_, ?_, ?_, zi_get_set_eq, rfl, by rw [es]; simp (maxDischargeDepth := 9) [zi_get_ne, zi_nl_i, zi_nl_r, zi_get_set_eq, nl]⟩
        · simp (maxDischargeDepth := 9) [zg_0, zg_aaload, zg_aload_n, zg_bipush, zg_getfield, zg_goto, zg_iadd, zg_iconst, zg_ifCond, zg_if_icmp, zg_iinc, zg_iload_n, zg_invokevirtual, zg_ireturn, zg_istore_n, zf_X5_windowsOn, zi_ld, zi_lda, zi_cmp, zi_retOk, zi_isI, zi_f3, zi_cr, zi_ci, zi_cn, zi_get_ne, zi_nl_i, zi_nl_r, zi_get_set_eq, nl, g0, g1, g3, h10, c1, zd_g, zd_w hi, zq_Win_isOn, cw, E1 F (by omega), hq, nI_1]
        · simp (maxDischargeDepth := 9) [zi_get_ne, zi_nl_i, zi_nl_r, zi_get_set_eq, nl]
        · simp (maxDischargeDepth := 9) [zi_get_ne, zi_nl_i, zi_nl_r, zi_get_set_eq, nl, g0]
        · simp (maxDischargeDepth := 9) [zi_get_ne, zi_nl_i, zi_nl_r, zi_get_set_eq, nl, g1]
      · rw [if_neg c2] at es E1
        rw [Nat.add_zero] at es
        left
        refine ⟨zi_set (zi_set L 2 (.int (nI (zl_ct (zd_on μ x) i)))) 3 (.int (nI (i + 1))), zm_mk μ, ⟨N1, 16, fun F m hF => ?_⟩, by omega, ?_, ?_, ?_, zi_get_set_eq, rfl, by rw [es]; simp (maxDischargeDepth := 9) [zi_get_ne, zi_nl_i, zi_nl_r, zi_get_set_eq, nl]⟩
        · simp (maxDischargeDepth := 9) [zg_0, zg_aaload, zg_aload_n, zg_bipush, zg_getfield, zg_goto, zg_iadd, zg_iconst, zg_ifCond, zg_if_icmp, zg_iinc, zg_iload_n, zg_invokevirtual, zg_ireturn, zg_istore_n, zf_X5_windowsOn, zi_ld, zi_lda, zi_cmp, zi_retOk, zi_isI, zi_f3, zi_cr, zi_ci, zi_cn, zi_get_ne, zi_nl_i, zi_nl_r, zi_get_set_eq, nl, g0, g1, g3, h10, c1, zd_g, zd_w hi, zq_Win_isOn, cw, E1 F (by omega), hq, nI_1]
        · simp (maxDischargeDepth := 9) [zi_get_ne, zi_nl_i, zi_nl_r, zi_get_set_eq, nl]
        · simp (maxDischargeDepth := 9) [zi_get_ne, zi_nl_i, zi_nl_r, zi_get_set_eq, nl, g0]
        · simp (maxDischargeDepth := 9) [zi_get_ne, zi_nl_i, zi_nl_r, zi_get_set_eq, nl, g1]
    · rintro L _ ⟨-, nl, g0, g1, g3, rfl, hq⟩
      have c1 : (10 : Int32) ≤ nI 10 := by decide
      refine ⟨_, zm_mk μ, ⟨0, 5, fun F m hF => ?_⟩, rfl, rfl⟩
      simp [zg_0, zg_aaload, zg_aload_n, zg_bipush, zg_getfield, zg_goto, zg_iadd, zg_iconst, zg_ifCond, zg_if_icmp, zg_iinc, zg_iload_n, zg_invokevirtual, zg_ireturn, zg_istore_n, zf_X5_windowsOn, zi_ld, zi_lda, zi_cmp, zi_retOk, zi_isI, zi_f3, zi_cr, zi_ci, zi_cn, g0, g3, hq, h10, c1]
  obtain ⟨r, h', G, rfl, rfl⟩ := key
  refine ze_in [(0, .ref 1), (1, .int x)] zq_Desk_windowsOn (Nat.le_of_ble_eq_true rfl) rfl (ze_S.end ⟨0, 4, fun F m hF => ?_⟩ G)
  simp [zg_0, zg_aaload, zg_aload_n, zg_bipush, zg_getfield, zg_goto, zg_iadd, zg_iconst, zg_ifCond, zg_if_icmp, zg_iinc, zg_iload_n, zg_invokevirtual, zg_ireturn, zg_istore_n, zf_X5_windowsOn, zi_ld, zi_lda, zi_cmp, zi_retOk, zi_isI, zi_f3, zi_cr, zi_ci, zi_cn, zi_get, zi_set, nI_0]
set_option maxRecDepth 100000 in
theorem ze_looseOnesFit (D : Nat) (x : Int32) {z : Nat} (hz : zm_isA 7 z 2) : ze_E (D + 3) A_Desk_looseOnesFit [.ref 1, .int x, .ref (z + 1)] (zm_mk μ) (some (.int (zb (zl_al (zd_lwf μ x z) 10 = true)))) (zm_mk μ) := by
  have h10 : (Int8.ofInt 10).toInt32 = (10 : Int32) := by decide
  have key : ∃ r h', ze_G (D + 2) 4 (some .boolean) zc_X5_looseOnesFit 2 [(3, .int (nI 0)), (0, .ref 1), (1, .int x), (2, .ref (z + 1))] [] (zm_mk μ) r h' ∧ (r = some (.int (zb (zl_al (zd_lwf μ x z) 10 = true))) ∧ zm_mk μ = h') := by
    refine ze_loop (Q := fun i L hp => i ≤ 10 ∧ zi_nl L = true ∧ zi_get L 0 = some (.ref 1) ∧ zi_get L 1 = some (.int x) ∧ zi_get L 2 = some (.ref (z + 1)) ∧ zi_get L 3 = some (.int (nI i)) ∧ zm_mk μ = hp ∧ (∀ j, j < i → (zd_lwf μ x z) j = true)) (R := fun r h' => r = some (.int (zb (zl_al (zd_lwf μ x z) 10 = true))) ∧ zm_mk μ = h') 10 ?_ ?_ 10 0 _ _ (by omega) ⟨by omega, rfl, rfl, rfl, rfl, rfl, rfl, fun j hj => absurd hj (by omega)⟩
    · rintro i L _ hi ⟨-, nl, g0, g1, g2, g3, rfl, hq⟩
      have c1 : ¬ (10 : Int32) ≤ nI i := nI_ge (b := 10) hi (by decide)
      obtain ⟨N1, E1⟩ := ze_looseW (μ := μ) D hi x
      obtain ⟨N2, E2⟩ := ze_wholeW (μ := μ) (D + 1) hi hz
      have cw := zw_c (μ := μ) (zdW_at hi)
      by_cases c2 : zd_loose μ x i = true
      · rw [if_pos c2] at E1
        by_cases c3 : zd_whole μ z i = true
        · rw [if_pos c3] at E2
          left
          refine ⟨zi_set L 3 (.int (nI (i + 1))), zm_mk μ, ⟨N1 + N2, 19, fun F m hF => ?_⟩, by omega, ?_, ?_, ?_, ?_, zi_get_set_eq, rfl, zl_lt_s hq (by simp [zd_lwf, c3])⟩
          · simp (maxDischargeDepth := 9) [zg_0, zg_aaload, zg_aload_n, zg_bipush, zg_getfield, zg_goto, zg_iconst, zg_ifCond, zg_if_icmp, zg_iinc, zg_iload_n, zg_invokevirtual, zg_ireturn, zg_istore_n, zf_X5_looseOnesFit, zi_ld, zi_lda, zi_cmp, zi_retOk, zi_isI, zi_f3, zi_cr, zi_ci, zi_cn, zi_get_ne, zi_nl_i, zi_nl_r, zi_get_set_eq, nl, g0, g1, g2, g3, h10, c1, zd_g, zd_w hi, zq_Win_isLooseOn, zq_Win_canBeWhole, cw, E1 F (by omega), E2 F (by omega), nI_1]
          · simp (maxDischargeDepth := 9) [zi_get_ne, zi_nl_i, zi_nl_r, zi_get_set_eq, nl]
          · simp (maxDischargeDepth := 9) [zi_get_ne, zi_nl_i, zi_nl_r, zi_get_set_eq, nl, g0]
          · simp (maxDischargeDepth := 9) [zi_get_ne, zi_nl_i, zi_nl_r, zi_get_set_eq, nl, g1]
          · simp (maxDischargeDepth := 9) [zi_get_ne, zi_nl_i, zi_nl_r, zi_get_set_eq, nl, g2]
        · rw [if_neg c3] at E2
          have hz0 : zb (zl_al (zd_lwf μ x z) 10 = true) = 0 := if_neg (fun q => by
            have := (zl_al_iff 10).mp q i hi
            simp [zd_lwf, c2, c3] at this)
          right
          refine ⟨some (.int 0), zm_mk μ, ⟨N1 + N2, 19, fun F m hF => ?_⟩, by rw [hz0], rfl⟩
          simp (maxDischargeDepth := 9) [zg_0, zg_aaload, zg_aload_n, zg_bipush, zg_getfield, zg_goto, zg_iconst, zg_ifCond, zg_if_icmp, zg_iinc, zg_iload_n, zg_invokevirtual, zg_ireturn, zg_istore_n, zf_X5_looseOnesFit, zi_ld, zi_lda, zi_cmp, zi_retOk, zi_isI, zi_f3, zi_cr, zi_ci, zi_cn, zi_get_ne, zi_nl_i, zi_nl_r, zi_get_set_eq, nl, g0, g1, g2, g3, h10, c1, zd_g, zd_w hi, zq_Win_isLooseOn, zq_Win_canBeWhole, cw, E1 F (by omega), E2 F (by omega), nI_1]
      · rw [if_neg c2] at E1
        left
        refine ⟨zi_set L 3 (.int (nI (i + 1))), zm_mk μ, ⟨N1 + N2, 12, fun F m hF => ?_⟩, by omega, ?_, ?_, ?_, ?_, zi_get_set_eq, rfl, zl_lt_s hq (by simp [zd_lwf, c2])⟩
        · simp (maxDischargeDepth := 9) [zg_0, zg_aaload, zg_aload_n, zg_bipush, zg_getfield, zg_goto, zg_iconst, zg_ifCond, zg_if_icmp, zg_iinc, zg_iload_n, zg_invokevirtual, zg_ireturn, zg_istore_n, zf_X5_looseOnesFit, zi_ld, zi_lda, zi_cmp, zi_retOk, zi_isI, zi_f3, zi_cr, zi_ci, zi_cn, zi_get_ne, zi_nl_i, zi_nl_r, zi_get_set_eq, nl, g0, g1, g2, g3, h10, c1, zd_g, zd_w hi, zq_Win_isLooseOn, cw, E1 F (by omega), nI_1]
        · simp (maxDischargeDepth := 9) [zi_get_ne, zi_nl_i, zi_nl_r, zi_get_set_eq, nl]
        · simp (maxDischargeDepth := 9) [zi_get_ne, zi_nl_i, zi_nl_r, zi_get_set_eq, nl, g0]
        · simp (maxDischargeDepth := 9) [zi_get_ne, zi_nl_i, zi_nl_r, zi_get_set_eq, nl, g1]
        · simp (maxDischargeDepth := 9) [zi_get_ne, zi_nl_i, zi_nl_r, zi_get_set_eq, nl, g2]
    · rintro L _ ⟨-, nl, g0, g1, g2, g3, rfl, hq⟩
      have c1 : (10 : Int32) ≤ nI 10 := by decide
      have hz1 : zb (zl_al (zd_lwf μ x z) 10 = true) = 1 := if_pos ((zl_al_iff 10).mpr hq)
      rw [hz1]
      refine ⟨_, zm_mk μ, ⟨0, 5, fun F m hF => ?_⟩, rfl, rfl⟩
      simp [zg_0, zg_aaload, zg_aload_n, zg_bipush, zg_getfield, zg_goto, zg_iconst, zg_ifCond, zg_if_icmp, zg_iinc, zg_iload_n, zg_invokevirtual, zg_ireturn, zg_istore_n, zf_X5_looseOnesFit, zi_ld, zi_lda, zi_cmp, zi_retOk, zi_isI, zi_f3, zi_cr, zi_ci, zi_cn, g0, g3, h10, c1]
  obtain ⟨r, h', G, rfl, rfl⟩ := key
  refine ze_in [(0, .ref 1), (1, .int x), (2, .ref (z + 1))] zq_Desk_looseOnesFit (Nat.le_of_ble_eq_true rfl) rfl (ze_S.end ⟨0, 2, fun F m hF => ?_⟩ G)
  simp [zg_0, zg_aaload, zg_aload_n, zg_bipush, zg_getfield, zg_goto, zg_iconst, zg_ifCond, zg_if_icmp, zg_iinc, zg_iload_n, zg_invokevirtual, zg_ireturn, zg_istore_n, zf_X5_looseOnesFit, zi_ld, zi_lda, zi_cmp, zi_retOk, zi_isI, zi_f3, zi_cr, zi_ci, zi_cn, zi_get, zi_set, nI_0]
end ZD2
