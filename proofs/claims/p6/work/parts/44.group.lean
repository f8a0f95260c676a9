/-! the desk: windows sent, groups gathered -/
/-- g spreads to k, if dl holds of k and g of ow k: for k from 0 to n - 1, one after the other -/
def zl_sp1 (dl : Nat → Bool) (ow : Nat → Nat) (g : Nat → Bool) : Nat → Nat → Bool
  | 0 => g
  | n + 1 => fun j => if j = n then zl_sp1 dl ow g n n || (dl n && zl_sp1 dl ow g n (ow n)) else zl_sp1 dl ow g n j
def zl_spn (dl : Nat → Bool) (ow : Nat → Nat) (g : Nat → Bool) : Nat → Nat → Bool
  | 0 => g
  | m + 1 => zl_sp1 dl ow (zl_spn dl ow g m) 10
section ZG1
variable {μ : zm_M}
def zd_th (μ : zm_M) (k : Nat) : Bool := decide (¬ μ (zdW k) 2 = 0)
theorem ze_thW (D : Nat) {k : Nat} (h : k < 10) : ze_E (D + 1) A_Desk_isWindow [.ref 1, .int (nI k)] (zm_mk μ) (some (.int (if zd_th μ k = true then 1 else 0))) (zm_mk μ) := by
  have := ze_isWindow_in (μ := μ) D h
  rw [zb_dec] at this
  exact this
def zd_ow (μ : zm_M) (k : Nat) : Nat := (μ (zdW k) 4).toNatClampNeg
def zd_dl (μ : zm_M) (k : Nat) : Bool := decide (¬ μ (zdW k) 2 = 0 ∧ (¬ μ (zdW k) 4 < 0 ∧ ¬ (10 : Int32) ≤ μ (zdW k) 4) ∧ ¬ μ (zdW (zd_ow μ k)) 2 = 0)
/-- only the windows' screens (those that p holds of: x) and places differ -/
def zd_snt (μ ν : zm_M) (p : Nat → Bool) (x : Int32) : Prop :=
  (∀ k, k < 10 → ν (zdW k) 5 = if p k = true then x else μ (zdW k) 5) ∧ ∀ c b, (∀ k, k < 10 → c = zdW k → b ≠ 5) → (∀ k, k < 10 → c ≠ zdW k + 2) → ν c b = μ c b
theorem zw_send_5 {w z : Nat} {s : Int32} : zw_send μ w z s w 5 = s := by
  unfold zw_send
  split
  · unfold zw_put
    rw [zm_up_ne (by omega), zm_up_ne (by omega), zm_up_eq]
  · exact zm_up_eq
theorem zw_send_ne {w z c b : Nat} {s : Int32} (h1 : ¬ (c = w ∧ b = 5)) (h2 : c ≠ w + 2) : zw_send μ w z s c b = μ c b := by
  unfold zw_send
  split
  · unfold zw_put
    rw [zm_up_ne (fun e => h2 e.1), zm_up_ne (fun e => h2 e.1), zm_up_ne h1]
  · exact zm_up_ne h1
theorem zdW_inj {i j : Nat} (h : zdW i = zdW j) : i = j := by
  unfold zdW at h
  omega
theorem zd_snt_0 {p : Nat → Bool} {x : Int32} : zd_snt μ μ (fun k => decide (k < 0) && p k) x := by
  refine ⟨fun k _ => ?_, fun _ _ _ _ => rfl⟩
  rw [if_neg (by simp)]
theorem zd_snt_s {ν : zm_M} {p : Nat → Bool} {x : Int32} {i z : Nat} (hi : i < 10) (h : zd_snt μ ν (fun k => decide (k < i) && p k) x) (hp : p i = true) : zd_snt μ (zw_send ν (zdW i) z x) (fun k => decide (k < i + 1) && p k) x := by
  obtain ⟨h1, h2⟩ := h
  refine ⟨fun k hk => ?_, fun c b q1 q2 => ?_⟩
  · by_cases e : k = i
    · subst e
      rw [zw_send_5, if_pos (by simp [hp])]
    · rw [zw_send_ne (fun q => e (zdW_inj q.1)) (by unfold zdW; omega), h1 k hk]
      have e2 : (decide (k < i + 1) && p k) = (decide (k < i) && p k) := by
        have : (k < i + 1) = (k < i) := by
          apply propext
          omega
        rw [decide_eq_decide.mpr (by rw [this])]
      simp only [e2]
  · rw [zw_send_ne (fun q => q1 i hi q.1 q.2) (q2 i hi)]
    exact h2 c b q1 q2
theorem zd_snt_n {ν : zm_M} {p : Nat → Bool} {x : Int32} {i : Nat} (h : zd_snt μ ν (fun k => decide (k < i) && p k) x) (hp : p i = false) : zd_snt μ ν (fun k => decide (k < i + 1) && p k) x := by
  obtain ⟨h1, h2⟩ := h
  refine ⟨fun k hk => ?_, h2⟩
  rw [h1 k hk]
  by_cases e : k = i
  · subst e
    rw [if_neg (by simp), if_neg (by simp [hp])]
  · have e2 : (decide (k < i + 1) && p k) = (decide (k < i) && p k) := by
      have : (k < i + 1) = (k < i) := by
        apply propext
        omega
      rw [decide_eq_decide.mpr (by rw [this])]
    simp only [e2]
theorem zd_snt_10 {ν : zm_M} {p : Nat → Bool} {x : Int32} (h : zd_snt μ ν (fun k => decide (k < 10) && p k) x) : zd_snt μ ν p x := by
  refine ⟨fun k hk => ?_, h.2⟩
  rw [h.1 k hk]
  have e : (decide (k < 10) && p k) = p k := by simp [hk]
  simp only [e]
/-- of a window that hasn't been sent yet all stands as it was -/
theorem zd_snt_w {ν : zm_M} {p : Nat → Bool} {x : Int32} {i : Nat} (hi : i < 10) (h : zd_snt μ ν (fun k => decide (k < i) && p k) x) : (∀ b, ν (zdW i) b = μ (zdW i) b) := by
  intro b
  by_cases e : b = 5
  · subst e
    rw [h.1 i hi, if_neg (by simp)]
  · exact h.2 _ _ (fun _ _ _ => e) (fun k hk => by unfold zdW; omega)
set_option maxRecDepth 100000 in
theorem ze_sendAll (D : Nat) (x : Int32) {t : Nat} (ht : t < 3) : ∃ ν, ze_E (D + 6) A_Desk_sendAll [.ref 1, .int x, .int (nI t)] (zm_mk μ) none (zm_mk ν) ∧ zd_snt μ ν (zd_on μ x) (nI t) := by
  have h10 : (Int8.ofInt 10).toInt32 = (10 : Int32) := by decide
  have key : ∃ r h', ze_G (D + 5) 4 none zc_X5_sendAll 2 [(3, .int (nI 0)), (0, .ref 1), (1, .int x), (2, .int (nI t))] [] (zm_mk μ) r h' ∧ (r = none ∧ ∃ ν, zm_mk ν = h' ∧ zd_snt μ ν (zd_on μ x) (nI t)) := by
    refine ze_loop (Q := fun i L hp => i ≤ 10 ∧ zi_nl L = true ∧ zi_get L 0 = some (.ref 1) ∧ zi_get L 1 = some (.int x) ∧ zi_get L 2 = some (.int (nI t)) ∧ zi_get L 3 = some (.int (nI i)) ∧ ∃ ν : zm_M, zm_mk ν = hp ∧ (zd_snt μ ν (fun k => decide (k < i) && zd_on μ x k) (nI t)) ∧ (True)) (R := fun r h' => r = none ∧ ∃ ν, zm_mk ν = h' ∧ zd_snt μ ν (zd_on μ x) (nI t)) 10 ?_ ?_ 10 0 _ _ (by omega) ⟨by omega, rfl, rfl, rfl, rfl, rfl, μ, rfl, zd_snt_0, trivial⟩
    · rintro i L _ hi ⟨-, nl, g0, g1, g2, g3, ν, rfl, hA, hq⟩
      have c1 : ¬ (10 : Int32) ≤ nI i := nI_ge (b := 10) hi (by decide)
      have hw := zd_snt_w hi hA
      obtain ⟨N1, E1⟩ := ze_onW (μ := ν) (D + 4) hi x
      have eo : zd_on ν x i = zd_on μ x i := by
        unfold zd_on
        rw [hw, hw, hw]
      rw [eo] at E1
      have cw := zw_c (μ := ν) (zdW_at hi)
      by_cases c2 : zd_on μ x i = true
      · rw [if_pos c2] at E1
        obtain ⟨N2, E2⟩ := ze_sendTo (μ := ν) D (zdW_at hi) (zdZ_A ht) (by unfold zdZ zdW; omega) (nI t)
        left
        refine ⟨zi_set L 3 (.int (nI (i + 1))), zm_mk (zw_send ν (zdW i) (zdZ t) (nI t)), ⟨N1 + N2, 23, fun F m hF => ?_⟩, by omega, ?_, ?_, ?_, ?_, zi_get_set_eq, _, rfl, zd_snt_s hi hA c2, trivial⟩
        · simp (maxDischargeDepth := 9) [zg_0, zg_aaload, zg_aload_n, zg_bipush, zg_getfield, zg_goto, zg_iconst, zg_ifCond, zg_if_icmp, zg_iinc, zg_iload_n, zg_invokevirtual, zg_istore_n, zg_return, zf_X5_sendAll, zi_ld, zi_lda, zi_cmp, zi_retOk, zi_isI, zi_f3, zi_cr, zi_ci, zi_cn, zi_get_ne, zi_nl_i, zi_nl_r, zi_get_set_eq, nl, g0, g1, g2, g3, h10, c1, zd_g, zd_w hi, zq_Win_isOn, zq_Win_sendTo, cw, zd_s ht, zdS_g ht, E1 F (by omega), E2 F (by omega), nI_1]
        · simp (maxDischargeDepth := 9) [zi_get_ne, zi_nl_i, zi_nl_r, zi_get_set_eq, nl]
        · simp (maxDischargeDepth := 9) [zi_get_ne, zi_nl_i, zi_nl_r, zi_get_set_eq, nl, g0]
        · simp (maxDischargeDepth := 9) [zi_get_ne, zi_nl_i, zi_nl_r, zi_get_set_eq, nl, g1]
        · simp (maxDischargeDepth := 9) [zi_get_ne, zi_nl_i, zi_nl_r, zi_get_set_eq, nl, g2]
      · rw [if_neg c2] at E1
        have N2 : Nat := 0
        left
        refine ⟨zi_set L 3 (.int (nI (i + 1))), zm_mk ν, ⟨N1 + N2, 12, fun F m hF => ?_⟩, by omega, ?_, ?_, ?_, ?_, zi_get_set_eq, ν, rfl, zd_snt_n hA (by simpa using c2), trivial⟩
        · simp (maxDischargeDepth := 9) [zg_0, zg_aaload, zg_aload_n, zg_bipush, zg_getfield, zg_goto, zg_iconst, zg_ifCond, zg_if_icmp, zg_iinc, zg_iload_n, zg_invokevirtual, zg_istore_n, zg_return, zf_X5_sendAll, zi_ld, zi_lda, zi_cmp, zi_retOk, zi_isI, zi_f3, zi_cr, zi_ci, zi_cn, zi_get_ne, zi_nl_i, zi_nl_r, zi_get_set_eq, nl, g0, g1, g2, g3, h10, c1, zd_g, zd_w hi, zq_Win_isOn, cw, E1 F (by omega), nI_1]
        · simp (maxDischargeDepth := 9) [zi_get_ne, zi_nl_i, zi_nl_r, zi_get_set_eq, nl]
        · simp (maxDischargeDepth := 9) [zi_get_ne, zi_nl_i, zi_nl_r, zi_get_set_eq, nl, g0]
        · simp (maxDischargeDepth := 9) [zi_get_ne, zi_nl_i, zi_nl_r, zi_get_set_eq, nl, g1]
        · simp (maxDischargeDepth := 9) [zi_get_ne, zi_nl_i, zi_nl_r, zi_get_set_eq, nl, g2]
    · rintro L _ ⟨-, nl, g0, g1, g2, g3, ν, rfl, hA, hq⟩
      have c1 : (10 : Int32) ≤ nI 10 := by decide
      refine ⟨none, zm_mk ν, ⟨0, 4, fun F m hF => ?_⟩, rfl, ν, rfl, zd_snt_10 hA⟩
      simp [zg_0, zg_aaload, zg_aload_n, zg_bipush, zg_getfield, zg_goto, zg_iconst, zg_ifCond, zg_if_icmp, zg_iinc, zg_iload_n, zg_invokevirtual, zg_istore_n, zg_return, zf_X5_sendAll, zi_ld, zi_lda, zi_cmp, zi_retOk, zi_isI, zi_f3, zi_cr, zi_ci, zi_cn, g0, g3, h10, c1]
  obtain ⟨r, h', G, rfl, ν, rfl, hA⟩ := key
  refine ⟨ν, ze_in [(0, .ref 1), (1, .int x), (2, .int (nI t))] zq_Desk_sendAll (Nat.le_of_ble_eq_true rfl) rfl (ze_S.end ⟨0, 2, fun F m hF => ?_⟩ G), hA⟩
  simp [zg_0, zg_aaload, zg_aload_n, zg_bipush, zg_getfield, zg_goto, zg_iconst, zg_ifCond, zg_if_icmp, zg_iinc, zg_iload_n, zg_invokevirtual, zg_istore_n, zg_return, zf_X5_sendAll, zi_ld, zi_lda, zi_cmp, zi_retOk, zi_isI, zi_f3, zi_cr, zi_ci, zi_cn, zi_get, zi_set, nI_0]
/-- the group, as truth values -/
def zd_gr (μ : zm_M) (g : Nat → Bool) : Prop := ∀ k, k < 10 → μ 31 k = if g k = true then 1 else 0
set_option maxRecDepth 100000 in
theorem ze_sendGroup (D : Nat) {g : Nat → Bool} (hg : zd_gr μ g) {t : Nat} (ht : t < 3) : ∃ ν, ze_E (D + 6) A_Desk_sendGroup [.ref 1, .int (nI t)] (zm_mk μ) none (zm_mk ν) ∧ zd_snt μ ν g (nI t) := by
  have h10 : (Int8.ofInt 10).toInt32 = (10 : Int32) := by decide
  have key : ∃ r h', ze_G (D + 5) 3 none zc_X5_sendGroup 2 [(2, .int (nI 0)), (0, .ref 1), (1, .int (nI t))] [] (zm_mk μ) r h' ∧ (r = none ∧ ∃ ν, zm_mk ν = h' ∧ zd_snt μ ν g (nI t)) := by
    refine ze_loop (Q := fun i L hp => i ≤ 10 ∧ zi_nl L = true ∧ zi_get L 0 = some (.ref 1) ∧ zi_get L 1 = some (.int (nI t)) ∧ zi_get L 2 = some (.int (nI i)) ∧ ∃ ν : zm_M, zm_mk ν = hp ∧ (zd_snt μ ν (fun k => decide (k < i) && g k) (nI t)) ∧ (True)) (R := fun r h' => r = none ∧ ∃ ν, zm_mk ν = h' ∧ zd_snt μ ν g (nI t)) 10 ?_ ?_ 10 0 _ _ (by omega) ⟨by omega, rfl, rfl, rfl, rfl, μ, rfl, zd_snt_0, trivial⟩
    · rintro i L _ hi ⟨-, nl, g0, g1, g2, ν, rfl, hA, hq⟩
      have c1 : ¬ (10 : Int32) ≤ nI i := nI_ge (b := 10) hi (by decide)
      have i1 : zi_in (nI i) 10 = true := zm_in hi (by decide)
      have e1 : (nI i).toNatClampNeg = i := nI_clamp (by omega)
      have hgi : ν 31 i = if g i = true then 1 else 0 := by
        rw [hA.2 31 i (fun k _ e => by unfold zdW at e; omega) (fun k _ => by unfold zdW; omega)]
        exact hg i hi
      have cw := zw_c (μ := ν) (zdW_at hi)
      by_cases c2 : g i = true
      · rw [if_pos c2] at hgi
        obtain ⟨N2, E2⟩ := ze_sendTo (μ := ν) D (zdW_at hi) (zdZ_A ht) (by unfold zdZ zdW; omega) (nI t)
        left
        refine ⟨zi_set L 2 (.int (nI (i + 1))), zm_mk (zw_send ν (zdW i) (zdZ t) (nI t)), ⟨N2, 21, fun F m hF => ?_⟩, by omega, ?_, ?_, ?_, zi_get_set_eq, _, rfl, zd_snt_s hi hA c2, trivial⟩
        · simp (maxDischargeDepth := 9) [zg_0, zg_aaload, zg_aload_n, zg_baload, zg_bipush, zg_getfield, zg_goto, zg_iconst, zg_ifCond, zg_if_icmp, zg_iinc, zg_iload_n, zg_invokevirtual, zg_istore_n, zg_return, zf_X5_sendGroup, zi_ld, zi_lda, zi_cmp, zi_retOk, zi_isI, zi_f3, zi_cr, zi_ci, zi_cn, zi_get_ne, zi_nl_i, zi_nl_r, zi_get_set_eq, nl, g0, g1, g2, h10, c1, zd_g, zd_w hi, zm_bald zd31_A i1, e1, hgi, zq_Win_sendTo, cw, zd_s ht, zdS_g ht, E2 F (by omega), nI_1]
        · simp (maxDischargeDepth := 9) [zi_get_ne, zi_nl_i, zi_nl_r, zi_get_set_eq, nl]
        · simp (maxDischargeDepth := 9) [zi_get_ne, zi_nl_i, zi_nl_r, zi_get_set_eq, nl, g0]
        · simp (maxDischargeDepth := 9) [zi_get_ne, zi_nl_i, zi_nl_r, zi_get_set_eq, nl, g1]
      · rw [if_neg c2] at hgi
        have N2 : Nat := 0
        left
        refine ⟨zi_set L 2 (.int (nI (i + 1))), zm_mk ν, ⟨N2, 10, fun F m hF => ?_⟩, by omega, ?_, ?_, ?_, zi_get_set_eq, ν, rfl, zd_snt_n hA (by simpa using c2), trivial⟩
        · simp (maxDischargeDepth := 9) [zg_0, zg_aaload, zg_aload_n, zg_baload, zg_bipush, zg_getfield, zg_goto, zg_iconst, zg_ifCond, zg_if_icmp, zg_iinc, zg_iload_n, zg_invokevirtual, zg_istore_n, zg_return, zf_X5_sendGroup, zi_ld, zi_lda, zi_cmp, zi_retOk, zi_isI, zi_f3, zi_cr, zi_ci, zi_cn, zi_get_ne, zi_nl_i, zi_nl_r, zi_get_set_eq, nl, g0, g1, g2, h10, c1, zd_g, zm_bald zd31_A i1, e1, hgi, nI_1]
        · simp (maxDischargeDepth := 9) [zi_get_ne, zi_nl_i, zi_nl_r, zi_get_set_eq, nl]
        · simp (maxDischargeDepth := 9) [zi_get_ne, zi_nl_i, zi_nl_r, zi_get_set_eq, nl, g0]
        · simp (maxDischargeDepth := 9) [zi_get_ne, zi_nl_i, zi_nl_r, zi_get_set_eq, nl, g1]
    · rintro L _ ⟨-, nl, g0, g1, g2, ν, rfl, hA, hq⟩
      have c1 : (10 : Int32) ≤ nI 10 := by decide
      refine ⟨none, zm_mk ν, ⟨0, 4, fun F m hF => ?_⟩, rfl, ν, rfl, zd_snt_10 hA⟩
      simp [zg_0, zg_aaload, zg_aload_n, zg_baload, zg_bipush, zg_getfield, zg_goto, zg_iconst, zg_ifCond, zg_if_icmp, zg_iinc, zg_iload_n, zg_invokevirtual, zg_istore_n, zg_return, zf_X5_sendGroup, zi_ld, zi_lda, zi_cmp, zi_retOk, zi_isI, zi_f3, zi_cr, zi_ci, zi_cn, g0, g2, h10, c1]
  obtain ⟨r, h', G, rfl, ν, rfl, hA⟩ := key
  refine ⟨ν, ze_in [(0, .ref 1), (1, .int (nI t))] zq_Desk_sendGroup (Nat.le_of_ble_eq_true rfl) rfl (ze_S.end ⟨0, 2, fun F m hF => ?_⟩ G), hA⟩
  simp [zg_0, zg_aaload, zg_aload_n, zg_baload, zg_bipush, zg_getfield, zg_goto, zg_iconst, zg_ifCond, zg_if_icmp, zg_iinc, zg_iload_n, zg_invokevirtual, zg_istore_n, zg_return, zf_X5_sendGroup, zi_ld, zi_lda, zi_cmp, zi_retOk, zi_isI, zi_f3, zi_cr, zi_ci, zi_cn, zi_get, zi_set, nI_0]
def zd_gwf (μ : zm_M) (g : Nat → Bool) (z k : Nat) : Bool := !(g k && zd_flo μ k) || zd_whole μ z k
set_option maxRecDepth 100000 in
theorem ze_groupCanBeWhole (D : Nat) {g : Nat → Bool} (hg : zd_gr μ g) {t : Nat} (ht : t < 3) : ze_E (D + 2) A_Desk_groupCanBeWhole [.ref 1, .int (nI t)] (zm_mk μ) (some (.int (if zl_al (zd_gwf μ g (zdZ t)) 10 = true then 1 else 0))) (zm_mk μ) := by
  have h10 : (Int8.ofInt 10).toInt32 = (10 : Int32) := by decide
  have key : ∃ r h', ze_G (D + 1) 3 (some .boolean) zc_X5_groupCanBeWhole 2 [(2, .int (nI 0)), (0, .ref 1), (1, .int (nI t))] [] (zm_mk μ) r h' ∧ (r = some (.int (if zl_al (zd_gwf μ g (zdZ t)) 10 = true then 1 else 0)) ∧ zm_mk μ = h') := by
    refine ze_loop (Q := fun i L hp => i ≤ 10 ∧ zi_nl L = true ∧ zi_get L 0 = some (.ref 1) ∧ zi_get L 1 = some (.int (nI t)) ∧ zi_get L 2 = some (.int (nI i)) ∧ zm_mk μ = hp ∧ (∀ j, j < i → zd_gwf μ g (zdZ t) j = true)) (R := fun r h' => r = some (.int (if zl_al (zd_gwf μ g (zdZ t)) 10 = true then 1 else 0)) ∧ zm_mk μ = h') 10 ?_ ?_ 10 0 _ _ (by omega) ⟨by omega, rfl, rfl, rfl, rfl, rfl, fun j hj => absurd hj (by omega)⟩
    · rintro i L _ hi ⟨-, nl, g0, g1, g2, rfl, hq⟩
      have c1 : ¬ (10 : Int32) ≤ nI i := nI_ge (b := 10) hi (by decide)
      have i1 : zi_in (nI i) 10 = true := zm_in hi (by decide)
      have e1 : (nI i).toNatClampNeg = i := nI_clamp (by omega)
      have hgi := hg i hi
      have cw := zw_c (μ := μ) (zdW_at hi)
      obtain ⟨N1, E1⟩ := ze_floW (μ := μ) D hi
      obtain ⟨N2, E2⟩ := ze_wholeW (μ := μ) D hi (zdZ_A ht)
      by_cases c2 : g i = true
      · rw [if_pos c2] at hgi
        by_cases c3 : zd_flo μ i = true
        · rw [if_pos c3] at E1
          by_cases c4 : zd_whole μ (zdZ t) i = true
          · rw [if_pos c4] at E2
            left
            refine ⟨zi_set L 2 (.int (nI (i + 1))), zm_mk μ, ⟨N1 + N2, 27, fun F m hF => ?_⟩, by omega, ?_, ?_, ?_, zi_get_set_eq, rfl, zl_lt_s hq (by simp [zd_gwf, c4])⟩
            · simp (maxDischargeDepth := 9) [zg_0, zg_aaload, zg_aload_n, zg_baload, zg_bipush, zg_getfield, zg_goto, zg_iconst, zg_ifCond, zg_if_icmp, zg_iinc, zg_iload_n, zg_invokevirtual, zg_ireturn, zg_istore_n, zf_X5_groupCanBeWhole, zi_ld, zi_lda, zi_cmp, zi_retOk, zi_isI, zi_f3, zi_cr, zi_ci, zi_cn, zi_get_ne, zi_nl_i, zi_nl_r, zi_get_set_eq, nl, g0, g1, g2, h10, c1, zd_g, zd_w hi, zm_bald zd31_A i1, e1, hgi, zq_Win_isFloating, zq_Win_canBeWhole, cw, zd_s ht, zdS_g ht, E1 F (by omega), E2 F (by omega), nI_1]
            · simp (maxDischargeDepth := 9) [zi_get_ne, zi_nl_i, zi_nl_r, zi_get_set_eq, nl]
            · simp (maxDischargeDepth := 9) [zi_get_ne, zi_nl_i, zi_nl_r, zi_get_set_eq, nl, g0]
            · simp (maxDischargeDepth := 9) [zi_get_ne, zi_nl_i, zi_nl_r, zi_get_set_eq, nl, g1]
          · rw [if_neg c4] at E2
            have hz0 : ¬ zl_al (zd_gwf μ g (zdZ t)) 10 = true := fun q => by
              have := (zl_al_iff 10).mp q i hi
              simp [zd_gwf, c2, c3, c4] at this
            rw [if_neg hz0]
            right
            refine ⟨some (.int 0), zm_mk μ, ⟨N1 + N2, 27, fun F m hF => ?_⟩, rfl, rfl⟩
            simp (maxDischargeDepth := 9) [zg_0, zg_aaload, zg_aload_n, zg_baload, zg_bipush, zg_getfield, zg_goto, zg_iconst, zg_ifCond, zg_if_icmp, zg_iinc, zg_iload_n, zg_invokevirtual, zg_ireturn, zg_istore_n, zf_X5_groupCanBeWhole, zi_ld, zi_lda, zi_cmp, zi_retOk, zi_isI, zi_f3, zi_cr, zi_ci, zi_cn, zi_get_ne, zi_nl_i, zi_nl_r, zi_get_set_eq, nl, g0, g1, g2, h10, c1, zd_g, zd_w hi, zm_bald zd31_A i1, e1, hgi, zq_Win_isFloating, zq_Win_canBeWhole, cw, zd_s ht, zdS_g ht, E1 F (by omega), E2 F (by omega), nI_1]
        · rw [if_neg c3] at E1
          left
          refine ⟨zi_set L 2 (.int (nI (i + 1))), zm_mk μ, ⟨N1 + N2, 16, fun F m hF => ?_⟩, by omega, ?_, ?_, ?_, zi_get_set_eq, rfl, zl_lt_s hq (by simp [zd_gwf, c3])⟩
          · simp (maxDischargeDepth := 9) [zg_0, zg_aaload, zg_aload_n, zg_baload, zg_bipush, zg_getfield, zg_goto, zg_iconst, zg_ifCond, zg_if_icmp, zg_iinc, zg_iload_n, zg_invokevirtual, zg_ireturn, zg_istore_n, zf_X5_groupCanBeWhole, zi_ld, zi_lda, zi_cmp, zi_retOk, zi_isI, zi_f3, zi_cr, zi_ci, zi_cn, zi_get_ne, zi_nl_i, zi_nl_r, zi_get_set_eq, nl, g0, g1, g2, h10, c1, zd_g, zd_w hi, zm_bald zd31_A i1, e1, hgi, zq_Win_isFloating, cw, E1 F (by omega), nI_1]
          · simp (maxDischargeDepth := 9) [zi_get_ne, zi_nl_i, zi_nl_r, zi_get_set_eq, nl]
          · simp (maxDischargeDepth := 9) [zi_get_ne, zi_nl_i, zi_nl_r, zi_get_set_eq, nl, g0]
          · simp (maxDischargeDepth := 9) [zi_get_ne, zi_nl_i, zi_nl_r, zi_get_set_eq, nl, g1]
      · rw [if_neg c2] at hgi
        left
        refine ⟨zi_set L 2 (.int (nI (i + 1))), zm_mk μ, ⟨N1 + N2, 10, fun F m hF => ?_⟩, by omega, ?_, ?_, ?_, zi_get_set_eq, rfl, zl_lt_s hq (by simp [zd_gwf, c2])⟩
        · simp (maxDischargeDepth := 9) [zg_0, zg_aaload, zg_aload_n, zg_baload, zg_bipush, zg_getfield, zg_goto, zg_iconst, zg_ifCond, zg_if_icmp, zg_iinc, zg_iload_n, zg_invokevirtual, zg_ireturn, zg_istore_n, zf_X5_groupCanBeWhole, zi_ld, zi_lda, zi_cmp, zi_retOk, zi_isI, zi_f3, zi_cr, zi_ci, zi_cn, zi_get_ne, zi_nl_i, zi_nl_r, zi_get_set_eq, nl, g0, g1, g2, h10, c1, zd_g, zm_bald zd31_A i1, e1, hgi, nI_1]
        · simp (maxDischargeDepth := 9) [zi_get_ne, zi_nl_i, zi_nl_r, zi_get_set_eq, nl]
        · simp (maxDischargeDepth := 9) [zi_get_ne, zi_nl_i, zi_nl_r, zi_get_set_eq, nl, g0]
        · simp (maxDischargeDepth := 9) [zi_get_ne, zi_nl_i, zi_nl_r, zi_get_set_eq, nl, g1]
    · rintro L _ ⟨-, nl, g0, g1, g2, rfl, hq⟩
      have c1 : (10 : Int32) ≤ nI 10 := by decide
      rw [if_pos ((zl_al_iff 10).mpr hq)]
      refine ⟨_, zm_mk μ, ⟨0, 5, fun F m hF => ?_⟩, rfl, rfl⟩
      simp [zg_0, zg_aaload, zg_aload_n, zg_baload, zg_bipush, zg_getfield, zg_goto, zg_iconst, zg_ifCond, zg_if_icmp, zg_iinc, zg_iload_n, zg_invokevirtual, zg_ireturn, zg_istore_n, zf_X5_groupCanBeWhole, zi_ld, zi_lda, zi_cmp, zi_retOk, zi_isI, zi_f3, zi_cr, zi_ci, zi_cn, g0, g2, h10, c1]
  obtain ⟨r, h', G, rfl, rfl⟩ := key
  refine ze_in [(0, .ref 1), (1, .int (nI t))] zq_Desk_groupCanBeWhole (Nat.le_of_ble_eq_true rfl) rfl (ze_S.end ⟨0, 2, fun F m hF => ?_⟩ G)
  simp [zg_0, zg_aaload, zg_aload_n, zg_baload, zg_bipush, zg_getfield, zg_goto, zg_iconst, zg_ifCond, zg_if_icmp, zg_iinc, zg_iload_n, zg_invokevirtual, zg_ireturn, zg_istore_n, zf_X5_groupCanBeWhole, zi_ld, zi_lda, zi_cmp, zi_retOk, zi_isI, zi_f3, zi_cr, zi_ci, zi_cn, zi_get, zi_set, nI_0]
end ZG1
