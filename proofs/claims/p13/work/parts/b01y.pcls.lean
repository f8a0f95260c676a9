/-! places: what the class's calls do with them -/
/-- the place of the window k on the screen t, from the wanted one -/
def zx_cl (μ : zm_M) (k t a : Nat) (v : Int32) : Int32 := zi_bt 0 v (μ (zdZ t) a - μ (zdW k + 1) a)
/-- the places of the windows p, sent to the screen t -/
def zd_sntp (μ ν : zm_M) (p : Nat → Bool) (t : Nat) : Prop := ∀ k, k < 10 → ∀ a, a < 2 → ν (zdW k + 2) a = if (p k && zd_flo μ k) = true then zx_cl μ k t a (μ (zdW k + 2) a) else μ (zdW k + 2) a
section ZYP
variable {μ ν ξ : zm_M} {row stk : List Nat} {Rs Rs1 : Nat → List Nat} {ts ts1 us : Nat → zy_F} {R : List Nat} {t : zy_F} {p : Nat → Bool}
theorem zd_flo_iff {k : Nat} : zd_flo μ k = true ↔ ¬ μ (zdW k) 2 = 0 ∧ ¬ μ (zdW k) 3 = 1 := decide_eq_true_iff
theorem zd_kpp_of (f : ∀ s, s < 3 → ∀ c, c = zdP s + 1 ∨ c = zdP s + 2 → ν c = μ c) : zd_kpp μ ν := fun s hs j _ a ha => congrFun (f s hs _ (by omega)) j
theorem zw_send_pl {w z a : Nat} {s : Int32} (ha : a < 2) (hz : z ≠ w) (hz2 : z ≠ w + 2) : zw_send ν w z s (w + 2) a = if ¬ ν w 2 = 0 ∧ ¬ ν w 3 = 1 then zi_bt 0 (ν (w + 2) a) (ν z a - ν (w + 1) a) else ν (w + 2) a := by
  unfold zw_send
  by_cases c : ¬ ν w 2 = 0 ∧ ¬ ν w 3 = 1
  · rw [if_pos c, if_pos c]
    unfold zw_put
    rcases (by omega : a = 0 ∨ a = 1) with rfl | rfl
    · rw [zm_up_ne (by omega), zm_up_eq, zm_up_ne (fun e => hz e.1), zm_up_ne (by omega)]
    · rw [zm_up_eq, zm_up_ne (fun e => hz e.1), zm_up_ne (by omega)]
  · rw [if_neg c, if_neg c, zm_up_ne (by omega)]
theorem zd_sntp_0 {t : Nat} : zd_sntp μ μ (fun k => decide (k < 0) && p k) t := fun k _ a _ => by rw [if_neg (by simp)]
theorem zd_sntp_s {i t : Nat} {x : Int32} (hi : i < 10) (hA : zd_snt μ ν (fun k => decide (k < i) && p k) x) (hB : zd_sntp μ ν (fun k => decide (k < i) && p k) t) (hp : p i = true) : zd_sntp μ (zw_send ν (zdW i) (zdZ t) x) (fun k => decide (k < i + 1) && p k) t := by
  intro k hk a ha
  by_cases e : k = i
  · subst e
    rw [zw_send_pl ha (by unfold zdZ zdW; omega) (by unfold zdZ zdW; omega)]
    have h0 := hB k hk a ha
    rw [if_neg (by simp)] at h0
    have hw := zd_snt_w hk hA
    have hz : ν (zdZ t) a = μ (zdZ t) a := hA.2 _ _ (fun j hj e => by unfold zdZ zdW at e; omega) (fun j hj => by unfold zdZ zdW; omega)
    have hl : ν (zdW k + 1) a = μ (zdW k + 1) a := hA.2 _ _ (fun j hj e => by unfold zdW at e; omega) (fun j hj => by unfold zdW; omega)
    rw [hw, hw, h0, hz, hl]
    by_cases c : zd_flo μ k = true
    · rw [if_pos (zd_flo_iff.mp c), if_pos (by simp [hp, c])]
      rfl
    · rw [if_neg (fun z => c (zd_flo_iff.mpr z)), if_neg (by simp [c])]
  · rw [zw_send_ne (by unfold zdW; omega) (by unfold zdW; omega), hB k hk a ha]
    have e2 : (decide (k < i + 1) && p k) = (decide (k < i) && p k) := by
      have : (k < i + 1) = (k < i) := by
        apply propext
        omega
      rw [decide_eq_decide.mpr (by rw [this])]
    simp only [e2]
theorem zd_sntp_n {i t : Nat} (hB : zd_sntp μ ν (fun k => decide (k < i) && p k) t) (hp : p i = false) : zd_sntp μ ν (fun k => decide (k < i + 1) && p k) t := by
  intro k hk a ha
  rw [hB k hk a ha]
  have e2 : (decide (k < i + 1) && p k) = (decide (k < i) && p k) := by
    by_cases e : k = i
    · subst e
      simp [hp]
    · have : (k < i + 1) = (k < i) := by
        apply propext
        omega
      rw [decide_eq_decide.mpr (by rw [this])]
  simp only [e2]
theorem zd_sntp_10 {t : Nat} (hB : zd_sntp μ ν (fun k => decide (k < 10) && p k) t) : zd_sntp μ ν p t := by
  intro k hk a ha
  rw [hB k hk a ha]
  have e : (decide (k < 10) && p k) = p k := by simp [hk]
  simp only [e]
set_option maxRecDepth 100000 in
theorem ze_sendAll_p (D : Nat) (x : Int32) {t : Nat} (ht : t < 3) : ∃ ν, ze_E (D + 6) A_Desk_sendAll [.ref 1, .int x, .int (nI t)] (zm_mk μ) none (zm_mk ν) ∧ zd_snt μ ν (zd_on μ x) (nI t) ∧ zd_sntp μ ν (zd_on μ x) t := by
  have h10 : (Int8.ofInt 10).toInt32 = (10 : Int32) := by decide
  have key : ∃ r h', ze_G (D + 5) 4 none zc_X5_sendAll 2 [(3, .int (nI 0)), (0, .ref 1), (1, .int x), (2, .int (nI t))] [] (zm_mk μ) r h' ∧ (r = none ∧ ∃ ν, zm_mk ν = h' ∧ zd_snt μ ν (zd_on μ x) (nI t) ∧ zd_sntp μ ν (zd_on μ x) t) := by
    refine ze_loop (Q := fun i L hp => i ≤ 10 ∧ zi_nl L = true ∧ zi_get L 0 = some (.ref 1) ∧ zi_get L 1 = some (.int x) ∧ zi_get L 2 = some (.int (nI t)) ∧ zi_get L 3 = some (.int (nI i)) ∧ ∃ ν : zm_M, zm_mk ν = hp ∧ (zd_snt μ ν (fun k => decide (k < i) && zd_on μ x k) (nI t)) ∧ (zd_sntp μ ν (fun k => decide (k < i) && zd_on μ x k) t) ∧ (True)) (R := fun r h' => r = none ∧ ∃ ν, zm_mk ν = h' ∧ zd_snt μ ν (zd_on μ x) (nI t) ∧ zd_sntp μ ν (zd_on μ x) t) 10 ?_ ?_ 10 0 _ _ (by omega) ⟨by omega, rfl, rfl, rfl, rfl, rfl, μ, rfl, zd_snt_0, zd_sntp_0, trivial⟩
    · rintro i L _ hi ⟨-, nl, g0, g1, g2, g3, ν, rfl, hA, hB, hq⟩
      have c1 : ¬ (10 : Int32) ≤ nI i := nI_ge (b := 10) hi (by decide)
      have hw := zd_snt_w hi hA
      obtain ⟨N1, E1⟩ := ze_onW (μ := ν) (D + 4) hi x
      have eo : zd_on ν x i = zd_on μ x i := by
        unfold zd_on
        rw [hw, hw, hw]
      rw [eo] at E1
      have cw := zw_c (μ := ν) (zdW_at hi)
      by_cases c2 : zd_on μ x i = true
      · rw [if_pos c2] at E1
        obtain ⟨N2, E2⟩ := ze_sendTo (μ := ν) D (zdW_at hi) (zdZ_A ht) (by unfold zdZ zdW; omega) (nI t)
        left
        refine ⟨zi_set L 3 (.int (nI (i + 1))), zm_mk (zw_send ν (zdW i) (zdZ t) (nI t)), ⟨N1 + N2, 23, fun F m hF => ?_⟩, by omega, ?_, ?_, ?_, ?_, zi_get_set_eq, _, rfl, zd_snt_s hi hA c2, zd_sntp_s hi hA hB c2, trivial⟩
        · simp (maxDischargeDepth := 9) [zi_go, zf_X5_sendAll, zi_ask, zi_new, zi_step, zi_ld, zi_lda, zi_cmp, zi_retOk, zi_isI, zi_f3, zi_cr, zi_ci, zi_cn, zi_get_ne, zi_nl_i, zi_nl_r, zi_get_set_eq, nl, g0, g1, g2, g3, h10, c1, zd_g, zd_w hi, zq_Win_isOn, zq_Win_sendTo, cw, zd_s ht, zdS_g ht, E1 F (by omega), E2 F (by omega), nI_1]
        · simp (maxDischargeDepth := 9) [zi_get_ne, zi_nl_i, zi_nl_r, zi_get_set_eq, nl]
        · simp (maxDischargeDepth := 9) [zi_get_ne, zi_nl_i, zi_nl_r, zi_get_set_eq, nl, g0]
        · simp (maxDischargeDepth := 9) [zi_get_ne, zi_nl_i, zi_nl_r, zi_get_set_eq, nl, g1]
        · simp (maxDischargeDepth := 9) [zi_get_ne, zi_nl_i, zi_nl_r, zi_get_set_eq, nl, g2]
      · rw [if_neg c2] at E1
        have N2 : Nat := 0
        left
        refine ⟨zi_set L 3 (.int (nI (i + 1))), zm_mk ν, ⟨N1 + N2, 12, fun F m hF => ?_⟩, by omega, ?_, ?_, ?_, ?_, zi_get_set_eq, ν, rfl, zd_snt_n hA (by simpa using c2), zd_sntp_n hB (by simpa using c2), trivial⟩
        · simp (maxDischargeDepth := 9) [zi_go, zf_X5_sendAll, zi_ask, zi_new, zi_step, zi_ld, zi_lda, zi_cmp, zi_retOk, zi_isI, zi_f3, zi_cr, zi_ci, zi_cn, zi_get_ne, zi_nl_i, zi_nl_r, zi_get_set_eq, nl, g0, g1, g2, g3, h10, c1, zd_g, zd_w hi, zq_Win_isOn, cw, E1 F (by omega), nI_1]
        · simp (maxDischargeDepth := 9) [zi_get_ne, zi_nl_i, zi_nl_r, zi_get_set_eq, nl]
        · simp (maxDischargeDepth := 9) [zi_get_ne, zi_nl_i, zi_nl_r, zi_get_set_eq, nl, g0]
        · simp (maxDischargeDepth := 9) [zi_get_ne, zi_nl_i, zi_nl_r, zi_get_set_eq, nl, g1]
        · simp (maxDischargeDepth := 9) [zi_get_ne, zi_nl_i, zi_nl_r, zi_get_set_eq, nl, g2]
    · rintro L _ ⟨-, nl, g0, g1, g2, g3, ν, rfl, hA, hB, hq⟩
      have c1 : (10 : Int32) ≤ nI 10 := by decide
      refine ⟨none, zm_mk ν, ⟨0, 4, fun F m hF => ?_⟩, rfl, ν, rfl, zd_snt_10 hA, zd_sntp_10 hB⟩
      simp [zi_go, zf_X5_sendAll, zi_ask, zi_new, zi_step, zi_ld, zi_lda, zi_cmp, zi_retOk, zi_isI, zi_f3, zi_cr, zi_ci, zi_cn, g0, g3, h10, c1]
  obtain ⟨r, h', G, rfl, ν, rfl, hA⟩ := key
  refine ⟨ν, ze_in [(0, .ref 1), (1, .int x), (2, .int (nI t))] zq_Desk_sendAll (Nat.le_of_ble_eq_true rfl) rfl (ze_S.end ⟨0, 2, fun F m hF => ?_⟩ G), hA⟩
  simp [zi_go, zf_X5_sendAll, zi_ask, zi_new, zi_step, zi_ld, zi_lda, zi_cmp, zi_retOk, zi_isI, zi_f3, zi_cr, zi_ci, zi_cn, zi_get, zi_set, nI_0]
set_option maxRecDepth 100000 in
theorem ze_sendGroup_p (D : Nat) {g : Nat → Bool} (hg : zd_gr μ g) {t : Nat} (ht : t < 3) : ∃ ν, ze_E (D + 6) A_Desk_sendGroup [.ref 1, .int (nI t)] (zm_mk μ) none (zm_mk ν) ∧ zd_snt μ ν g (nI t) ∧ zd_sntp μ ν g t := by
  have h10 : (Int8.ofInt 10).toInt32 = (10 : Int32) := by decide
  have key : ∃ r h', ze_G (D + 5) 3 none zc_X5_sendGroup 2 [(2, .int (nI 0)), (0, .ref 1), (1, .int (nI t))] [] (zm_mk μ) r h' ∧ (r = none ∧ ∃ ν, zm_mk ν = h' ∧ zd_snt μ ν g (nI t) ∧ zd_sntp μ ν g t) := by
    refine ze_loop (Q := fun i L hp => i ≤ 10 ∧ zi_nl L = true ∧ zi_get L 0 = some (.ref 1) ∧ zi_get L 1 = some (.int (nI t)) ∧ zi_get L 2 = some (.int (nI i)) ∧ ∃ ν : zm_M, zm_mk ν = hp ∧ (zd_snt μ ν (fun k => decide (k < i) && g k) (nI t)) ∧ (zd_sntp μ ν (fun k => decide (k < i) && g k) t) ∧ (True)) (R := fun r h' => r = none ∧ ∃ ν, zm_mk ν = h' ∧ zd_snt μ ν g (nI t) ∧ zd_sntp μ ν g t) 10 ?_ ?_ 10 0 _ _ (by omega) ⟨by omega, rfl, rfl, rfl, rfl, μ, rfl, zd_snt_0, zd_sntp_0, trivial⟩
    · rintro i L _ hi ⟨-, nl, g0, g1, g2, ν, rfl, hA, hB, hq⟩
      have c1 : ¬ (10 : Int32) ≤ nI i := nI_ge (b := 10) hi (by decide)
      have i1 : zi_in (nI i) 10 = true := zm_in hi (by decide)
      have e1 : (nI i).toNatClampNeg = i := nI_clamp (by omega)
      have hgi : ν 31 i = if g i = true then 1 else 0 := by
        rw [hA.2 31 i (fun k _ e => by unfold zdW at e; omega) (fun k _ => by unfold zdW; omega)]
        exact hg i hi
      have cw := zw_c (μ := ν) (zdW_at hi)
      by_cases c2 : g i = true
      · rw [if_pos c2] at hgi
        obtain ⟨N2, E2⟩ := ze_sendTo (μ := ν) D (zdW_at hi) (zdZ_A ht) (by unfold zdZ zdW; omega) (nI t)
        left
        refine ⟨zi_set L 2 (.int (nI (i + 1))), zm_mk (zw_send ν (zdW i) (zdZ t) (nI t)), ⟨N2, 21, fun F m hF => ?_⟩, by omega, ?_, ?_, ?_, zi_get_set_eq, _, rfl, zd_snt_s hi hA c2, zd_sntp_s hi hA hB c2, trivial⟩
        · simp (maxDischargeDepth := 9) [zi_go, zf_X5_sendGroup, zi_ask, zi_new, zi_step, zi_ld, zi_lda, zi_cmp, zi_retOk, zi_isI, zi_f3, zi_cr, zi_ci, zi_cn, zi_get_ne, zi_nl_i, zi_nl_r, zi_get_set_eq, nl, g0, g1, g2, h10, c1, zd_g, zd_w hi, zm_bald zd31_A i1, e1, hgi, zq_Win_sendTo, cw, zd_s ht, zdS_g ht, E2 F (by omega), nI_1]
        · simp (maxDischargeDepth := 9) [zi_get_ne, zi_nl_i, zi_nl_r, zi_get_set_eq, nl]
        · simp (maxDischargeDepth := 9) [zi_get_ne, zi_nl_i, zi_nl_r, zi_get_set_eq, nl, g0]
        · simp (maxDischargeDepth := 9) [zi_get_ne, zi_nl_i, zi_nl_r, zi_get_set_eq, nl, g1]
      · rw [if_neg c2] at hgi
        have N2 : Nat := 0
        left
        refine ⟨zi_set L 2 (.int (nI (i + 1))), zm_mk ν, ⟨N2, 10, fun F m hF => ?_⟩, by omega, ?_, ?_, ?_, zi_get_set_eq, ν, rfl, zd_snt_n hA (by simpa using c2), zd_sntp_n hB (by simpa using c2), trivial⟩
        · simp (maxDischargeDepth := 9) [zi_go, zf_X5_sendGroup, zi_ask, zi_new, zi_step, zi_ld, zi_lda, zi_cmp, zi_retOk, zi_isI, zi_f3, zi_cr, zi_ci, zi_cn, zi_get_ne, zi_nl_i, zi_nl_r, zi_get_set_eq, nl, g0, g1, g2, h10, c1, zd_g, zm_bald zd31_A i1, e1, hgi, nI_1]
        · simp (maxDischargeDepth := 9) [zi_get_ne, zi_nl_i, zi_nl_r, zi_get_set_eq, nl]
        · simp (maxDischargeDepth := 9) [zi_get_ne, zi_nl_i, zi_nl_r, zi_get_set_eq, nl, g0]
        · simp (maxDischargeDepth := 9) [zi_get_ne, zi_nl_i, zi_nl_r, zi_get_set_eq, nl, g1]
    · rintro L _ ⟨-, nl, g0, g1, g2, ν, rfl, hA, hB, hq⟩
      have c1 : (10 : Int32) ≤ nI 10 := by decide
      refine ⟨none, zm_mk ν, ⟨0, 4, fun F m hF => ?_⟩, rfl, ν, rfl, zd_snt_10 hA, zd_sntp_10 hB⟩
      simp [zi_go, zf_X5_sendGroup, zi_ask, zi_new, zi_step, zi_ld, zi_lda, zi_cmp, zi_retOk, zi_isI, zi_f3, zi_cr, zi_ci, zi_cn, g0, g2, h10, c1]
  obtain ⟨r, h', G, rfl, ν, rfl, hA⟩ := key
  refine ⟨ν, ze_in [(0, .ref 1), (1, .int (nI t))] zq_Desk_sendGroup (Nat.le_of_ble_eq_true rfl) rfl (ze_S.end ⟨0, 2, fun F m hF => ?_⟩ G), hA⟩
  simp [zi_go, zf_X5_sendGroup, zi_ask, zi_new, zi_step, zi_ld, zi_lda, zi_cmp, zi_retOk, zi_isI, zi_f3, zi_cr, zi_ci, zi_cn, zi_get, zi_set, nI_0]
set_option maxRecDepth 100000 in
theorem ze_keepAll_p (D : Nat) {s : Nat} (hs : s < 3) (hI : zt_I μ (zdT s) R t) : ∃ ν, ze_E (D + 5) A_Desk_keepAll [.ref 1, .int (nI s)] (zm_mk μ) none (zm_mk ν) ∧ zt_C ν (zdV s) R t ∧
    (ν (zdV s + 3) = μ (zdT s + 3) ∧ ν (zdV s + 5) = μ (zdT s + 5) ∧ ν (zdV s + 6) = μ (zdT s + 6) ∧ ν (zdV s + 7) = μ (zdT s + 7) ∧ ν (zdV s + 8) = μ (zdT s + 8) ∧ ν (zdV s + 12) = μ (zdT s + 12)) ∧
    ν (zdK s) 3 = (if 0 < zl_ct (zd_on μ (nI s)) 10 then 1 else 0) ∧ (∀ k, k < 10 → ν (zdQ s) k = if zd_loose μ (nI s) k = true then 1 else 0) ∧
    (∀ c b, zt_out (zdV s) c → c ≠ zdQ s → c ≠ zdP s + 1 → c ≠ zdP s + 2 → ¬ (c = zdK s ∧ b = 3) → ν c b = μ c b) ∧ ∀ k, k < 10 → ν (zdP s + 1) k = μ (zdW k + 2) 0 ∧ ν (zdP s + 2) k = μ (zdW k + 2) 1 := by
  have h10 : (Int8.ofInt 10).toInt32 = (10 : Int32) := by decide
  let kv : Int32 := if 0 < zl_ct (zd_on μ (nI s)) 10 then 1 else 0
  let μ1 := zm_up μ (zdK s) 3 kv
  have r1 : ∀ c, c ≠ zdK s → μ1 c = μ c := fun c hc => zm_up_row hc
  have hI1 : zt_I μ1 (zdT s) R t := by
    have : ∀ j, j < 24 → μ1 (zdT s + j) = μ (zdT s + j) := fun j hj => r1 _ (by unfold zdT zdK; omega)
    have h0 : μ1 (zdT s) = μ (zdT s) := r1 _ (by unfold zdT zdK; omega)
    exact zt_same.I ⟨this _ (by omega), this _ (by omega), this _ (by omega), this _ (by omega), this _ (by omega), this _ (by omega), this _ (by omega), this _ (by omega), this _ (by omega), this _ (by omega), this _ (by omega), by rw [h0]⟩ hI
  obtain ⟨μ2, ⟨N2, E2⟩, C2, f2, l3, l5, l6, l7, l8, l12⟩ := ze_Tree_copyFrom (μ := μ1) D (zdV_at hs) (zdT_at hs) (by unfold zdV zdT; omega) hI1
  have key : ∃ r h', ze_G (D + 4) 4 none zc_X5_keepAll 45 [(3, .int (nI 0)), (2, .ref (zdK s + 1)), (0, .ref 1), (1, .int (nI s))] [] (zm_mk μ2) r h' ∧ (r = none ∧ ∃ ν, zm_mk ν = h' ∧ (∀ c, c ≠ zdQ s → c ≠ zdP s + 1 → c ≠ zdP s + 2 → ν c = μ2 c) ∧ (∀ k, k < 10 → ν (zdQ s) k = if zd_loose μ (nI s) k = true then 1 else 0) ∧ (∀ k, k < 10 → ν (zdP s + 1) k = μ (zdW k + 2) 0 ∧ ν (zdP s + 2) k = μ (zdW k + 2) 1)) := by
    refine ze_loop (Q := fun i L hp => i ≤ 10 ∧ zi_nl L = true ∧ zi_get L 0 = some (.ref 1) ∧ zi_get L 1 = some (.int (nI s)) ∧ zi_get L 2 = some (.ref (zdK s + 1)) ∧ zi_get L 3 = some (.int (nI i)) ∧ ∃ ν : zm_M, zm_mk ν = hp ∧ (∀ c, c ≠ zdQ s → c ≠ zdP s + 1 → c ≠ zdP s + 2 → ν c = μ2 c) ∧ (∀ k, k < i → ν (zdQ s) k = if zd_loose μ (nI s) k = true then 1 else 0) ∧ (∀ k, k < i → ν (zdP s + 1) k = μ (zdW k + 2) 0 ∧ ν (zdP s + 2) k = μ (zdW k + 2) 1) ∧ (True)) (R := fun r h' => r = none ∧ ∃ ν, zm_mk ν = h' ∧ (∀ c, c ≠ zdQ s → c ≠ zdP s + 1 → c ≠ zdP s + 2 → ν c = μ2 c) ∧ (∀ k, k < 10 → ν (zdQ s) k = if zd_loose μ (nI s) k = true then 1 else 0) ∧ (∀ k, k < 10 → ν (zdP s + 1) k = μ (zdW k + 2) 0 ∧ ν (zdP s + 2) k = μ (zdW k + 2) 1)) 10 ?_ ?_ 10 0 _ _ (by omega) ⟨by omega, rfl, rfl, rfl, rfl, rfl, μ2, rfl, fun _ _ _ _ => rfl, (fun k hk => absurd hk (by omega)), (fun k hk => absurd hk (by omega)), trivial⟩
    · rintro i L _ hi ⟨-, nl, g0, g1, g2, g3, ν, rfl, f1, f3, f4, hq⟩
      have c1 : ¬ (10 : Int32) ≤ nI i := nI_ge (b := 10) hi (by decide)
      have hw : ν (zdW i) = μ (zdW i) := by
        rw [f1 _ (by unfold zdW zdQ; omega) (by unfold zdW zdP; omega) (by unfold zdW zdP; omega), f2 _ (by unfold zt_out zdW zdV; omega), r1 _ (by unfold zdW zdK; omega)]
      have el : zd_loose ν (nI s) i = zd_loose μ (nI s) i := by
        unfold zd_loose
        rw [hw]
      obtain ⟨N1, E1⟩ := ze_looseW (μ := ν) (D + 2) hi (nI s)
      rw [el] at E1
      have cw := zw_c (μ := ν) (zdW_at hi)
      have ck := zdK_c (μ := ν) hs
      obtain ⟨x, hx, ex⟩ : ∃ x : Int32, (x = 0 ∨ x = 1) ∧ (if zd_loose μ (nI s) i = true then (1 : Int32) else 0) = x := ⟨_, by split <;> simp, rfl⟩
      rw [ex] at E1
      obtain ⟨N3, E3⟩ := ze_keepPlace (μ := ν) (D + 3) hs hi hx
      have f1' : ∀ c, c ≠ zdQ s → c ≠ zdP s + 1 → c ≠ zdP s + 2 → zm_up (zm_up (zm_up ν (zdQ s) i x) (zdP s + 1) i (ν (zdW i + 2) 0)) (zdP s + 2) i (ν (zdW i + 2) 1) c = μ2 c := fun c q1 q2 q3 => by
        rw [zm_up_row q3, zm_up_row q2, zm_up_row q1]
        exact f1 c q1 q2 q3
      have f3' : ∀ k, k < i + 1 → zm_up (zm_up (zm_up ν (zdQ s) i x) (zdP s + 1) i (ν (zdW i + 2) 0)) (zdP s + 2) i (ν (zdW i + 2) 1) (zdQ s) k = if zd_loose μ (nI s) k = true then 1 else 0 := fun k hk => by
        rw [zm_up_ne (by unfold zdQ zdP; omega), zm_up_ne (by unfold zdQ zdP; omega), zm_up_pt]
        by_cases e : k = i
        · rw [if_pos e, e, ex]
        · rw [if_neg e]
          exact f3 k (by omega)
      have hp : ν (zdW i + 2) = μ (zdW i + 2) := by
        rw [f1 _ (by unfold zdW zdQ; omega) (by unfold zdW zdP; omega) (by unfold zdW zdP; omega), f2 _ (by unfold zt_out zdW zdV; omega), r1 _ (by unfold zdW zdK; omega)]
      have f4' : ∀ k, k < i + 1 → zm_up (zm_up (zm_up ν (zdQ s) i x) (zdP s + 1) i (ν (zdW i + 2) 0)) (zdP s + 2) i (ν (zdW i + 2) 1) (zdP s + 1) k = μ (zdW k + 2) 0 ∧ zm_up (zm_up (zm_up ν (zdQ s) i x) (zdP s + 1) i (ν (zdW i + 2) 0)) (zdP s + 2) i (ν (zdW i + 2) 1) (zdP s + 2) k = μ (zdW k + 2) 1 := fun k hk => by
        refine ⟨?_, ?_⟩
        · rw [zm_up_ne (by omega), zm_up_pt]
          by_cases e : k = i
          · rw [if_pos e, e, hp]
          · rw [if_neg e, zm_up_ne (by unfold zdQ zdP; omega)]
            exact (f4 k (by omega)).1
        · rw [zm_up_pt]
          by_cases e : k = i
          · rw [if_pos e, e, hp]
          · rw [if_neg e, zm_up_ne (by omega), zm_up_ne (by unfold zdQ zdP; omega)]
            exact (f4 k (by omega)).2
      generalize zm_up (zm_up (zm_up ν (zdQ s) i x) (zdP s + 1) i (ν (zdW i + 2) 0)) (zdP s + 2) i (ν (zdW i + 2) 1) = ξ at E3 f1' f3' f4'
      left
      refine ⟨zi_set L 3 (.int (nI (i + 1))), zm_mk ξ, ⟨N1 + N3, 19, fun F m hF => ?_⟩, by omega, ?_, ?_, ?_, ?_, zi_get_set_eq, ξ, rfl, f1', f3', f4', trivial⟩
      · simp (maxDischargeDepth := 9) [zi_go, zf_X5_keepAll, zi_ask, zi_new, zi_step, zi_ld, zi_lda, zi_cmp, zi_retOk, zi_isI, zi_f3, zi_cr, zi_ci, zi_cn, zi_get_ne, zi_nl_i, zi_nl_r, zi_get_set_eq, nl, g0, g1, g2, g3, h10, c1, zd_g, zd_w hi, zw_g (zdW_at hi), zq_Win_isLooseOn, zq_Kept_keepPlace, cw, ck, E1 F (by omega), E3 F (by omega), nI_1]
      · simp (maxDischargeDepth := 9) [zi_get_ne, zi_nl_i, zi_nl_r, zi_get_set_eq, nl]
      · simp (maxDischargeDepth := 9) [zi_get_ne, zi_nl_i, zi_nl_r, zi_get_set_eq, nl, g0]
      · simp (maxDischargeDepth := 9) [zi_get_ne, zi_nl_i, zi_nl_r, zi_get_set_eq, nl, g1]
      · simp (maxDischargeDepth := 9) [zi_get_ne, zi_nl_i, zi_nl_r, zi_get_set_eq, nl, g2]
    · rintro L _ ⟨-, nl, g0, g1, g2, g3, ν, rfl, f1, f3, f4, hq⟩
      have c1 : (10 : Int32) ≤ nI 10 := by decide
      refine ⟨none, zm_mk ν, ⟨0, 4, fun F m hF => ?_⟩, rfl, ν, rfl, f1, f3, f4⟩
      simp [zi_go, zf_X5_keepAll, zi_ask, zi_new, zi_step, zi_ld, zi_lda, zi_cmp, zi_retOk, zi_isI, zi_f3, zi_cr, zi_ci, zi_cn, g0, g3, h10, c1]
  obtain ⟨r, h', G, rfl, ν, rfl, f1, f3, f4⟩ := key
  have fv : ∀ j, j < 24 → ν (zdV s + j) = μ2 (zdV s + j) := fun j hj => f1 _ (by unfold zdV zdQ; omega) (by unfold zdV zdP; omega) (by unfold zdV zdP; omega)
  have rT : ∀ j, j < 24 → μ1 (zdT s + j) = μ (zdT s + j) := fun j hj => r1 _ (by unfold zdT zdK; omega)
  refine ⟨ν, ?_, zt_C_congr (fun c h1 h2 => f1 c (by unfold zdV zdQ at *; omega) (by unfold zdV zdP at *; omega) (by unfold zdV zdP at *; omega)) C2, ⟨?_, ?_, ?_, ?_, ?_, ?_⟩, ?_, f3, fun c b h1 h2 h3 h4 h5 => ?_, f4⟩
  · obtain ⟨N1, E1⟩ := ze_windowsOn (μ := μ) (D + 2) (nI s)
    have ct := zl_ct_le (zd_on μ (nI s)) 10
    obtain ⟨lv, cv⟩ := zt_c (μ := μ1) (zdV_at hs)
    refine ze_in [(0, .ref 1), (1, .int (nI s))] zq_Desk_keepAll (Nat.le_of_ble_eq_true rfl) rfl (ze_S.end (p2 := 45) (L2 := [(3, .int (nI 0)), (2, .ref (zdK s + 1)), (0, .ref 1), (1, .int (nI s))]) (s2 := []) (h2 := zm_mk μ2) ?_ G)
    by_cases c : 0 < zl_ct (zd_on μ (nI s)) 10
    · have ek : kv = 1 := if_pos c
      have c' : ¬ nI (zl_ct (zd_on μ (nI s)) 10) ≤ 0 := nI_ge (a := 0) c (by omega)
      have m1 : zm_up μ (zdK s) 3 1 = μ1 := by rw [← ek]
      refine ⟨N1 + N2, 24, fun F m hF => ?_⟩
      simp [zi_go, zf_X5_keepAll, zi_ask, zi_new, zi_step, zi_ld, zi_lda, zi_cmp, zi_retOk, zi_isI, zi_f3, zi_cr, zi_ci, zi_cn, zi_get, zi_set, zd_g, zd_s hs, zdS_g hs, zdK_g hs, zq_Desk_windowsOn, zd_c, E1 F (by omega), c', zdK_p3 hs (Or.inr rfl), m1, zq_Tree_copyFrom, cv, E2 F (by omega), nI_0]
    · have ek : kv = 0 := if_neg c
      have c' : nI (zl_ct (zd_on μ (nI s)) 10) ≤ 0 := nI_le (b := 0) (by omega) (by decide)
      have m1 : zm_up μ (zdK s) 3 0 = μ1 := by rw [← ek]
      refine ⟨N1 + N2, 23, fun F m hF => ?_⟩
      simp [zi_go, zf_X5_keepAll, zi_ask, zi_new, zi_step, zi_ld, zi_lda, zi_cmp, zi_retOk, zi_isI, zi_f3, zi_cr, zi_ci, zi_cn, zi_get, zi_set, zd_g, zd_s hs, zdS_g hs, zdK_g hs, zq_Desk_windowsOn, zd_c, E1 F (by omega), c', zdK_p3 hs (Or.inl rfl), m1, zq_Tree_copyFrom, cv, E2 F (by omega), nI_0]
  · rw [fv 3 (by omega), l3, rT _ (by omega)]
  · rw [fv 5 (by omega), l5, rT _ (by omega)]
  · rw [fv 6 (by omega), l6, rT _ (by omega)]
  · rw [fv 7 (by omega), l7, rT _ (by omega)]
  · rw [fv 8 (by omega), l8, rT _ (by omega)]
  · rw [fv 12 (by omega), l12, rT _ (by omega)]
  · rw [f1 _ (by unfold zdK zdQ; omega) (by unfold zdK zdP; omega) (by unfold zdK zdP; omega), f2 _ (by unfold zt_out zdK zdV; omega)]
    exact zm_up_eq
  · rw [f1 c h2 h3 h4, f2 c h1]
    exact zm_up_ne h5
set_option maxRecDepth 100000 in
theorem ze_takeBack_2p (D : Nat) {k q : Nat} (hk : k < 10) (hq : q < 3) (ht : zd_til μ k = false) :
    ∃ ν, ze_E (D + 2) A_Desk_takeBack [.ref 1, .int (nI k), .ref (zdK q + 1)] (zm_mk μ) none (zm_mk ν) ∧ (∀ c, c ≠ zdW k + 2 → ν c = μ c) ∧ ν (zdW k + 2) 0 = μ (zdP q + 1) k ∧ ν (zdW k + 2) 1 = μ (zdP q + 2) k := by
  obtain ⟨N2, E2⟩ := ze_tilW (μ := μ) D hk
  rw [ht, if_neg (by decide)] at E2
  have cw := zw_c (μ := μ) (zdW_at hk)
  obtain ⟨p0, p1, p2, p3⟩ := zdP_h hq
  have w2 := (zdW_at hk).2.2
  have ik : zi_in (nI k) 10 = true := zm_in hk (by decide)
  have ck : (nI k).toNatClampNeg = k := nI_clamp (by omega)
  refine ⟨zm_up (zm_up μ (zdW k + 2) 0 (μ (zdP q + 1) k)) (zdW k + 2) 1 (zm_up μ (zdW k + 2) 0 (μ (zdP q + 1) k) (zdP q + 2) k), ze_in [(0, .ref 1), (1, .int (nI k)), (2, .ref (zdK q + 1))] zq_Desk_takeBack (Nat.le_of_ble_eq_true rfl) rfl ⟨N2, 33, fun F m hF => ?_⟩, fun c hc => by rw [zm_up_row hc, zm_up_row hc], by rw [zm_up_ne (by omega), zm_up_eq], by rw [zm_up_eq, zm_up_ne (by unfold zdP zdW; omega)]⟩
  simp [zi_go, zf_X5_takeBack, zi_ask, zi_new, zi_step, zi_ld, zi_lda, zi_cmp, zi_retOk, zi_isI, zi_f3, zi_cr, zi_ci, zi_cn, zi_get, zi_set, zd_g, zd_w hk, zq_Win_isTiled, cw, E2 F (by omega), zw_g (zdW_at hk), zdK_g hq, zm_ax0 p0, zm_ax1 p0, zm_iald (k := 0) p1 ik, zm_iald (k := 0) p2 ik, ck, zm_iast w2 zm_in0, zm_iast w2 zm_in1, zm_cl0, zm_cl1]
theorem zd_kpp_mk (e : zm_mk μ = zm_mk ν) : ∀ s, s < 3 → ∀ j, j < 10 → ∀ a, a < 2 → μ (zdP s + 1 + a) j = ν (zdP s + 1 + a) j := fun s hs j hj a ha => by
  obtain ⟨-, p1, p2, -⟩ := zdP_h hs
  rcases (by omega : a = 0 ∨ a = 1) with rfl | rfl
  · exact zm_mk_A e p1 hj
  · exact zm_mk_A e p2 hj
theorem zd_plW_mk (e : zm_mk μ = zm_mk ν) : ∀ k, k < 10 → ∀ a, a < 2 → μ (zdW k + 2) a = ν (zdW k + 2) a := fun k hk a ha => zm_mk_A e (zdW_at hk).2.2 ha
/-- the places behind i rounds of takeBack -/
def zd_tbp (μ ξ : zm_M) (H : Nat → Bool) (s i : Nat) : Prop := (∀ k, k < 10 → ∀ a, a < 2 → ξ (zdW k + 2) a = if (decide (k < i) && (H k && !zd_til μ k)) = true then μ (zdP s + 1 + a) k else μ (zdW k + 2) a) ∧ zd_kpp μ ξ
theorem zd_tbk_sp (D : Nat) {H : Nat → Bool} {i s : Nat} (hi : i < 10) (hs : s < 3) (hH : H i = true) (htl : ∀ j, j < 10 → zd_til μ j = true → ∃ q, q < 3 ∧ μ (zdW j) 5 = nI q ∧ j ∈ Rs q) (hdj : ∀ q p j, q < 3 → p < 3 → j ∈ Rs q → j ∈ Rs p → q = p) (hsm : ∀ q, q < 3 → zt_sm μ (zdT q) (Rs q)) (hRt : ∀ q j, q < 3 → j ∈ Rs q → zd_til μ j = true) (h : zd_tbk μ ξ Rs ts H i Rs1 ts1) (hP : zd_tbp μ ξ H s i) :
    ∃ ξ' Rs2 ts2, ze_E (D + 5) A_Desk_takeBack [.ref 1, .int (nI i), .ref (zdK s + 1)] (zm_mk ξ) none (zm_mk ξ') ∧ zd_tbk μ ξ' Rs ts H (i + 1) Rs2 ts2 ∧ zd_tbp μ ξ' H s (i + 1) := by
  obtain ⟨ξ', Rs2, ts2, E, h'⟩ := zd_tbk_s D hi hs hH htl hdj hsm hRt h
  refine ⟨ξ', Rs2, ts2, E, h', ?_⟩
  have wW : ∀ j, j < 10 → ξ (zdW j) = μ (zdW j) := fun j hj => (zd_tbk_W h hj).1
  have et : zd_til ξ i = zd_til μ i := by unfold zd_til; rw [wW i hi]
  have ne : ∀ k, k ≠ i → (decide (k < i + 1) && (H k && !zd_til μ k)) = (decide (k < i) && (H k && !zd_til μ k)) := fun k hk => by
    have : (k < i + 1) = (k < i) := by
      apply propext
      omega
    rw [decide_eq_decide.mpr (by rw [this])]
  by_cases c : zd_til μ i = true
  · obtain ⟨q, hq3, eq, hiR⟩ := htl i hi c
    obtain ⟨C, m, -⟩ := h.2.1 q hq3
    have hi1 : i ∈ Rs1 q := (m i).mpr ⟨hiR, fun z => by omega⟩
    obtain ⟨n, hn, en⟩ := C.1.2.2.2.1 i hi1
    obtain ⟨ξ2, E2, -, f⟩ := ze_takeBack_1 (μ := ξ) (q := s) D hi hq3 (by rw [et]; exact c) (by rw [wW i hi]; exact eq) C.1 hn hi1 en
    have e := (ze_E_det E2 E).2
    refine ⟨fun k hk a ha => ?_, hP.2.trans fun p hp j hj a ha => ?_⟩
    · rw [← zd_plW_mk e k hk a ha, f _ (by unfold zt_out zdT zdW; omega), hP.1 k hk a ha]
      have ec : (decide (k < i + 1) && (H k && !zd_til μ k)) = (decide (k < i) && (H k && !zd_til μ k)) := by
        by_cases e2 : k = i
        · rw [e2, c]; simp
        · exact ne k e2
      simp only [ec]
    · rw [← zd_kpp_mk e p hp j hj a ha, f _ (by unfold zt_out zdT zdP; omega)]
  · have c' : zd_til μ i = false := by simpa using c
    obtain ⟨ξ2, E2, f, p0, p1⟩ := ze_takeBack_2p (μ := ξ) (D + 3) hi hs (by rw [et]; exact c')
    have e := (ze_E_det E2 E).2
    refine ⟨fun k hk a ha => ?_, hP.2.trans fun p hp j hj a ha => ?_⟩
    · rw [← zd_plW_mk e k hk a ha]
      by_cases e2 : k = i
      · subst e2
        rw [if_pos (by simp [hH, c'])]
        rcases (by omega : a = 0 ∨ a = 1) with rfl | rfl
        · rw [p0]
          exact hP.2 s hs k hk 0 (by decide)
        · rw [p1]
          exact hP.2 s hs k hk 1 (by decide)
      · rw [f _ (fun z => e2 (by unfold zdW at z; omega)), hP.1 k hk a ha]
        simp only [ne k e2]
    · rw [← zd_kpp_mk e p hp j hj a ha, f _ (by unfold zdP zdW; omega)]
set_option maxRecDepth 100000 in
theorem ze_bring_1p (D : Nat) {s : Nat} (hs : s < 3) (hC : ∀ q, q < 3 → zt_C μ (zdT q) (Rs q) (ts q)) (htl : ∀ j, j < 10 → zd_til μ j = true → ∃ q, q < 3 ∧ μ (zdW j) 5 = nI q ∧ j ∈ Rs q) (hdj : ∀ q p j, q < 3 → p < 3 → j ∈ Rs q → j ∈ Rs p → q = p) (hsm : ∀ q, q < 3 → zt_sm μ (zdT q) (Rs q)) (hRt : ∀ q j, q < 3 → j ∈ Rs q → zd_til μ j = true) {L : zi_Lc} (nl : zi_nl L = true) (g0 : zi_get L 0 = some (.ref 1)) (g1 : zi_get L 1 = some (.int (nI s))) (g2 : zi_get L 2 = some (.ref (zdK s + 1))) :
    ∃ ν L' v Rs1 ts1, ze_S (D + 6) 5 (some .int) zc_X5_bringBack 77 L [] (zm_mk μ) 114 L' [] (zm_mk ν) ∧ (zi_nl L' = true ∧ zi_get L' 0 = some (.ref 1) ∧ zi_get L' 1 = some (.int (nI s)) ∧ zi_get L' 2 = some (.ref (zdK s + 1)) ∧ zi_get L' 3 = some (.int v)) ∧ zd_tbk μ ν Rs ts (zd_has μ s) 10 Rs1 ts1 ∧ zd_tbp μ ν (zd_has μ s) s 10 := by
  have h10 : (Int8.ofInt 10).toInt32 = (10 : Int32) := by decide
  have z0 : zi_nl (zi_set (zi_set L 3 (.int 0)) 4 (.int (nI 0))) = true := by simp (maxDischargeDepth := 9) [zi_get_ne, zi_nl_i, zi_nl_r, zi_get_set_eq, nl]
  have z1 : zi_get (zi_set (zi_set L 3 (.int 0)) 4 (.int (nI 0))) 0 = some (.ref 1) := by simp (maxDischargeDepth := 9) [zi_get_ne, zi_nl_i, zi_nl_r, zi_get_set_eq, nl, g0]
  have z2 : zi_get (zi_set (zi_set L 3 (.int 0)) 4 (.int (nI 0))) 1 = some (.int (nI s)) := by simp (maxDischargeDepth := 9) [zi_get_ne, zi_nl_i, zi_nl_r, zi_get_set_eq, nl, g1]
  have z3 : zi_get (zi_set (zi_set L 3 (.int 0)) 4 (.int (nI 0))) 2 = some (.ref (zdK s + 1)) := by simp (maxDischargeDepth := 9) [zi_get_ne, zi_nl_i, zi_nl_r, zi_get_set_eq, nl, g2]
  have z4 : zi_get (zi_set (zi_set L 3 (.int 0)) 4 (.int (nI 0))) 3 = some (.int 0) := by simp (maxDischargeDepth := 9) [zi_get_ne, zi_nl_i, zi_nl_r, zi_get_set_eq, nl]
  have z5 : zi_get (zi_set (zi_set L 3 (.int 0)) 4 (.int (nI 0))) 4 = some (.int (nI 0)) := zi_get_set_eq
  have S0 : ze_S (D + 6) 5 (some .int) zc_X5_bringBack 77 L [] (zm_mk μ) 82 (zi_set (zi_set L 3 (.int 0)) 4 (.int (nI 0))) [] (zm_mk μ) := by
    refine ⟨0, 4, fun F m hF => ?_⟩
    simp (maxDischargeDepth := 9) [zi_go, zf_X5_bringBack, zi_ask, zi_new, zi_step, zi_ld, zi_lda, zi_cmp, zi_retOk, zi_isI, zi_f3, zi_cr, zi_ci, zi_cn, zi_get_ne, zi_nl_i, zi_nl_r, zi_get_set_eq, nl, nI_0]
  generalize zi_set (zi_set L 3 (.int 0)) 4 (.int (nI 0)) = L0 at z0 z1 z2 z3 z4 z5 S0
  have hb0 : zd_tbk μ μ Rs ts (zd_has μ s) 0 Rs ts := by
    refine ⟨⟨fun _ _ _ _ => rfl, rfl, rfl⟩, fun q hq => ⟨hC q hq, fun j => ⟨fun z => ⟨z, fun w => by omega⟩, fun z => z.1⟩, rfl, rfl, fun z => z⟩, fun _ _ _ => rfl, rfl, fun _ _ _ => ⟨rfl, rfl⟩⟩
  have hy0 : zd_tbp μ μ (zd_has μ s) s 0 := ⟨fun k _ a _ => by rw [if_neg (by simp)], zd_kpp.refl⟩
  have key : ∃ L' h', ze_S (D + 6) 5 (some .int) zc_X5_bringBack 82 L0 [] (zm_mk μ) 114 L' [] h' ∧ (∃ v, (zi_nl L' = true ∧ zi_get L' 0 = some (.ref 1) ∧ zi_get L' 1 = some (.int (nI s)) ∧ zi_get L' 2 = some (.ref (zdK s + 1)) ∧ zi_get L' 3 = some (.int v)) ∧ ∃ ν, zm_mk ν = h' ∧ (∃ Rs1 ts1, zd_tbk μ ν Rs ts (zd_has μ s) 10 Rs1 ts1) ∧ zd_tbp μ ν (zd_has μ s) s 10) := by
    refine ze_loopS (Q := fun i L hp => i ≤ 10 ∧ zi_nl L = true ∧ zi_get L 0 = some (.ref 1) ∧ zi_get L 1 = some (.int (nI s)) ∧ zi_get L 2 = some (.ref (zdK s + 1)) ∧ zi_get L 4 = some (.int (nI i)) ∧ ∃ ξ : zm_M, zm_mk ξ = hp ∧ (∃ Rs1 ts1, zd_tbk μ ξ Rs ts (zd_has μ s) i Rs1 ts1) ∧ (zd_tbp μ ξ (zd_has μ s) s i) ∧ ∃ (v : Int32), zi_get L 3 = some (.int v) ∧ (True)) (R := fun L' h' => ∃ v, (zi_nl L' = true ∧ zi_get L' 0 = some (.ref 1) ∧ zi_get L' 1 = some (.int (nI s)) ∧ zi_get L' 2 = some (.ref (zdK s + 1)) ∧ zi_get L' 3 = some (.int v)) ∧ ∃ ν, zm_mk ν = h' ∧ (∃ Rs1 ts1, zd_tbk μ ν Rs ts (zd_has μ s) 10 Rs1 ts1) ∧ zd_tbp μ ν (zd_has μ s) s 10) 10 ?_ ?_ 10 0 _ _ (by omega) ⟨by omega, z0, z1, z2, z3, z5, μ, rfl, ⟨Rs, ts, hb0⟩, hy0, 0, z4, trivial⟩
    · rintro i L _ hi ⟨-, nl, g0, g1, g2, g4, ξ, rfl, hZ, hY, v, g3, hq⟩
      obtain ⟨Rs1, ts1, hZ⟩ := hZ
      have c1 : ¬ (10 : Int32) ≤ nI i := nI_ge (b := 10) hi (by decide)
      obtain ⟨N1, E1⟩ := ze_has (μ := ξ) (D + 4) hs hi
      have eh : zd_has ξ s i = zd_has μ s i := by
        unfold zd_has
        rw [hZ.2.2.1 _ (zJn_S hs).2.2.1 (fun q hq => zJn_out hq (Or.inr (Or.inr (Or.inl ⟨s, hs, Or.inr (Or.inr (Or.inl rfl))⟩)))), hZ.2.2.1 _ (zJn_S hs).2.2.2 (fun q hq => zJn_out hq (Or.inr (Or.inr (Or.inl ⟨s, hs, Or.inr (Or.inr (Or.inr (Or.inl rfl)))⟩)))), hZ.2.2.1 _ (zJn_T hs (j := 3) (by decide)).2 (fun q hq => zJn_out hq (Or.inr (Or.inr (Or.inl ⟨s, hs, Or.inr (Or.inr (Or.inr (Or.inr ⟨3, by decide, rfl⟩)))⟩))))]
      rw [eh] at E1
      have ck := zdK_c (μ := ξ) hs
      by_cases c2 : zd_has μ s i = true
      · rw [if_pos c2] at E1
        obtain ⟨ξ', Rs2, ts2, ⟨N2, E2⟩, hZ', hY'⟩ := zd_tbk_sp (D + 1) hi hs c2 htl hdj hsm hRt hZ hY
        refine ⟨zi_set (zi_set L 3 (.int (v + 1))) 4 (.int (nI (i + 1))), zm_mk ξ', ⟨N1 + N2, 14, fun F m hF => ?_⟩, by omega, ?_, ?_, ?_, ?_, zi_get_set_eq, ξ', rfl, ⟨Rs2, ts2, hZ'⟩, hY', v + 1, ?_, trivial⟩
        · simp (maxDischargeDepth := 9) [zi_go, zf_X5_bringBack, zi_ask, zi_new, zi_step, zi_ld, zi_lda, zi_cmp, zi_retOk, zi_isI, zi_f3, zi_cr, zi_ci, zi_cn, zi_get_ne, zi_nl_i, zi_nl_r, zi_get_set_eq, nl, g0, g1, g2, g4, g3, h10, c1, zq_Kept_has, ck, E1 F (by omega), zq_Desk_takeBack, zd_c, E2 F (by omega), nI_1]
        · simp (maxDischargeDepth := 9) [zi_get_ne, zi_nl_i, zi_nl_r, zi_get_set_eq, nl]
        · simp (maxDischargeDepth := 9) [zi_get_ne, zi_nl_i, zi_nl_r, zi_get_set_eq, nl, g0]
        · simp (maxDischargeDepth := 9) [zi_get_ne, zi_nl_i, zi_nl_r, zi_get_set_eq, nl, g1]
        · simp (maxDischargeDepth := 9) [zi_get_ne, zi_nl_i, zi_nl_r, zi_get_set_eq, nl, g2]
        · simp (maxDischargeDepth := 9) [zi_get_ne, zi_nl_i, zi_nl_r, zi_get_set_eq, nl, g3]
      · rw [if_neg c2] at E1
        have N2 : Nat := 0
        have c2' : zd_has μ s i = false := by simpa using c2
        have hY' : zd_tbp μ ξ (zd_has μ s) s (i + 1) := by
          refine ⟨fun k hk a ha => ?_, hY.2⟩
          rw [hY.1 k hk a ha]
          have ec : (decide (k < i + 1) && (zd_has μ s k && !zd_til μ k)) = (decide (k < i) && (zd_has μ s k && !zd_til μ k)) := by
            by_cases e2 : k = i
            · rw [e2, c2']; simp
            · have : (k < i + 1) = (k < i) := by
                apply propext
                omega
              rw [decide_eq_decide.mpr (by rw [this])]
          simp only [ec]
        have hZ' : zd_tbk μ ξ Rs ts (zd_has μ s) (i + 1) Rs1 ts1 := by
          obtain ⟨y1, y2, y3, y4, y5⟩ := hZ
          refine ⟨?_, fun q hq => ?_, y3, y4, y5⟩
          · rw [zl_range_f, if_neg (by rw [c2']; simp), List.append_nil]
            exact y1
          · obtain ⟨u1, u2, u3⟩ := y2 q hq
            refine ⟨u1, fun j => ?_, u3⟩
            rw [u2 j]
            constructor
            · rintro ⟨a1, a2⟩
              refine ⟨a1, fun z => ?_⟩
              by_cases ej : j = i
              · rw [ej, c2'] at z
                cases z.2
              · exact a2 ⟨by omega, z.2⟩
            · rintro ⟨a1, a2⟩
              exact ⟨a1, fun z => a2 ⟨by omega, z.2⟩⟩
        refine ⟨zi_set L 4 (.int (nI (i + 1))), zm_mk ξ, ⟨N1 + N2, 9, fun F m hF => ?_⟩, by omega, ?_, ?_, ?_, ?_, zi_get_set_eq, ξ, rfl, ⟨Rs1, ts1, hZ'⟩, hY', v, ?_, trivial⟩
        · simp (maxDischargeDepth := 9) [zi_go, zf_X5_bringBack, zi_ask, zi_new, zi_step, zi_ld, zi_lda, zi_cmp, zi_retOk, zi_isI, zi_f3, zi_cr, zi_ci, zi_cn, zi_get_ne, zi_nl_i, zi_nl_r, zi_get_set_eq, nl, g0, g1, g2, g4, g3, h10, c1, zq_Kept_has, ck, E1 F (by omega), nI_1]
        · simp (maxDischargeDepth := 9) [zi_get_ne, zi_nl_i, zi_nl_r, zi_get_set_eq, nl]
        · simp (maxDischargeDepth := 9) [zi_get_ne, zi_nl_i, zi_nl_r, zi_get_set_eq, nl, g0]
        · simp (maxDischargeDepth := 9) [zi_get_ne, zi_nl_i, zi_nl_r, zi_get_set_eq, nl, g1]
        · simp (maxDischargeDepth := 9) [zi_get_ne, zi_nl_i, zi_nl_r, zi_get_set_eq, nl, g2]
        · simp (maxDischargeDepth := 9) [zi_get_ne, zi_nl_i, zi_nl_r, zi_get_set_eq, nl, g3]
    · rintro L _ ⟨-, nl, g0, g1, g2, g4, ξ, rfl, hZ, hY, v, g3, hq⟩
      have c1 : (10 : Int32) ≤ nI 10 := by decide
      refine ⟨L, zm_mk ξ, ⟨0, 3, fun F m hF => ?_⟩, v, ⟨nl, g0, g1, g2, g3⟩, ξ, rfl, hZ, hY⟩
      simp [zi_go, zf_X5_bringBack, zi_ask, zi_new, zi_step, zi_ld, zi_lda, zi_cmp, zi_retOk, zi_isI, zi_f3, zi_cr, zi_ci, zi_cn, g0, g4, h10, c1]
  obtain ⟨L', h', S1, v, hL, ν, rfl, ⟨Rs1, ts1, hZ⟩, hY⟩ := key
  exact ⟨ν, L', v, Rs1, ts1, S0.trans S1, hL, hZ, hY⟩
/-- bringBack(s), the places -/
def zd_brgp (μ ν : zm_M) (Rs : Nat → List Nat) (ts : Nat → zy_F) (s : Nat) : Prop :=
  ((μ (zdK s) 3 = 0 ∨ zt_fit μ (zdV s) (zdZ s) (Rs (3 + s)) (ts (3 + s)) = false ∨ zl_al (zd_gwf μ (zd_bgr μ s) (zdZ s)) 10 = false) ∧ zd_plc μ ν) ∨
  ((¬ μ (zdK s) 3 = 0 ∧ zt_fit μ (zdV s) (zdZ s) (Rs (3 + s)) (ts (3 + s)) = true ∧ zl_al (zd_gwf μ (zd_bgr μ s) (zdZ s)) 10 = true) ∧ zd_kpp μ ν ∧
    ∀ k, k < 10 → ∀ a, a < 2 → ν (zdW k + 2) a = if (zd_bgr μ s k && zd_flo μ k) = true then zx_cl μ k s a (if (zd_has μ s k && !zd_til μ k) = true then μ (zdP s + 1 + a) k else μ (zdW k + 2) a) else (if (zd_has μ s k && !zd_til μ k) = true then μ (zdP s + 1 + a) k else μ (zdW k + 2) a))
set_option maxRecDepth 100000 in
theorem ze_bringBack_p (D : Nat) {s : Nat} (hs : s < 3) (hC : ∀ q, q < 3 → zt_C μ (zdT q) (Rs q) (ts q)) (hV : zt_C μ (zdV s) (Rs (3 + s)) (ts (3 + s))) (htl : ∀ j, j < 10 → zd_til μ j = true → ∃ q, q < 3 ∧ μ (zdW j) 5 = nI q ∧ j ∈ Rs q) (hdj : ∀ q p j, q < 3 → p < 3 → j ∈ Rs q → j ∈ Rs p → q = p) (hsm : ∀ q, q < 3 → zt_sm μ (zdT q) (Rs q)) (hRt : ∀ q j, q < 3 → j ∈ Rs q → zd_til μ j = true) :
    ∃ ν r, ze_E (D + 7) A_Desk_bringBack [.ref 1, .int (nI s)] (zm_mk μ) (some (.int r)) (zm_mk ν) ∧ zd_brgp μ ν Rs ts s := by
  by_cases c1 : μ (zdK s) 3 = 0
  · refine ⟨μ, 0, ze_in [(0, .ref 1), (1, .int (nI s))] zq_Desk_bringBack (Nat.le_of_ble_eq_true rfl) rfl ⟨0, 11, fun F n hF => ?_⟩, Or.inl ⟨Or.inl c1, zd_plc.refl⟩⟩
    simp [zi_go, zf_X5_bringBack, zi_ask, zi_new, zi_step, zi_ld, zi_lda, zi_cmp, zi_retOk, zi_isI, zi_f3, zi_cr, zi_ci, zi_cn, zi_get, zi_set, zd_g, zd_s hs, zdS_g hs, zdK_g hs, c1]
  obtain ⟨N1, E1⟩ := ze_fitsC (μ := μ) (D + 4) (zdV_at hs) hV (zdZ_A hs)
  obtain ⟨lv, cv⟩ := zt_c (μ := μ) (zdV_at hs)
  cases hfit : zt_fit μ (zdV s) (zdZ s) (Rs (3 + s)) (ts (3 + s)) with
  | false =>
    rw [hfit, if_neg (by decide)] at E1
    refine ⟨μ, 0, ze_in [(0, .ref 1), (1, .int (nI s))] zq_Desk_bringBack (Nat.le_of_ble_eq_true rfl) rfl ⟨N1, 20, fun F n hF => ?_⟩, Or.inl ⟨Or.inr (Or.inl hfit), zd_plc.refl⟩⟩
    simp [zi_go, zf_X5_bringBack, zi_ask, zi_new, zi_step, zi_ld, zi_lda, zi_cmp, zi_retOk, zi_isI, zi_f3, zi_cr, zi_ci, zi_cn, zi_get, zi_set, zd_g, zd_s hs, zdS_g hs, zdK_g hs, c1, zq_Tree_fits, cv, E1 F (by omega)]
  | true =>
    rw [hfit, if_pos rfl] at E1
    have S1 : ze_S (D + 6) 5 (some .int) zc_X5_bringBack 0 [(0, .ref 1), (1, .int (nI s))] [] (zm_mk μ) 38 [(2, .ref (zdK s + 1)), (0, .ref 1), (1, .int (nI s))] [] (zm_mk μ) := by
      refine ⟨N1, 18, fun F n hF => ?_⟩
      simp [zi_go, zf_X5_bringBack, zi_ask, zi_new, zi_step, zi_ld, zi_lda, zi_cmp, zi_retOk, zi_isI, zi_f3, zi_cr, zi_ci, zi_cn, zi_get, zi_set, zd_g, zd_s hs, zdS_g hs, zdK_g hs, c1, zq_Tree_fits, cv, E1 F (by omega)]
    obtain ⟨ν2, S2, f2, g2⟩ := ze_bring_0 (μ := μ) (D + 3) hs
    obtain ⟨N3, E3⟩ := ze_groupCanBeWhole (μ := ν2) (D + 4) g2 hs
    have w2 : ∀ j, ν2 (zdW j) = μ (zdW j) := fun j => f2 _ (by unfold zdW; omega)
    have egw : zl_al (zd_gwf ν2 (zd_bgr μ s) (zdZ s)) 10 = zl_al (zd_gwf μ (zd_bgr μ s) (zdZ s)) 10 := by
      have : zd_gwf ν2 (zd_bgr μ s) (zdZ s) = zd_gwf μ (zd_bgr μ s) (zdZ s) := funext fun j => by
        unfold zd_gwf zd_flo zd_whole
        rw [w2, f2 (zdW j + 1) (by unfold zdW; omega), f2 (zdZ s) (by unfold zdZ; omega)]
      rw [this]
    rw [egw] at E3
    have SS := S1.trans S2
    cases hgw : zl_al (zd_gwf μ (zd_bgr μ s) (zdZ s)) 10 with
    | false =>
      rw [hgw, if_neg (by decide)] at E3
      refine ⟨ν2, 0, ze_in [(0, .ref 1), (1, .int (nI s))] zq_Desk_bringBack (Nat.le_of_ble_eq_true rfl) rfl (SS.end ⟨N3, 6, fun F n hF => ?_⟩), Or.inl ⟨Or.inr (Or.inr hgw), zd_pls.p ⟨fun k hk => f2 _ (by unfold zdW; omega), fun p hp a ha => f2 _ (by unfold zdP; omega)⟩⟩⟩
      simp [zi_go, zf_X5_bringBack, zi_ask, zi_new, zi_step, zi_ld, zi_lda, zi_cmp, zi_retOk, zi_isI, zi_f3, zi_cr, zi_ci, zi_cn, zi_get, zi_set, zq_Desk_groupCanBeWhole, zd_c, E3 F (by omega)]
    | true =>
      rw [hgw, if_pos rfl] at E3
      have S3 : ze_S (D + 6) 5 (some .int) zc_X5_bringBack 67 [(3, .int (nI 10)), (2, .ref (zdK s + 1)), (0, .ref 1), (1, .int (nI s))] [] (zm_mk ν2) 77 [(3, .int (nI 10)), (2, .ref (zdK s + 1)), (0, .ref 1), (1, .int (nI s))] [] (zm_mk ν2) := by
        refine ⟨N3, 4, fun F n hF => ?_⟩
        simp [zi_go, zf_X5_bringBack, zi_ask, zi_new, zi_step, zi_ld, zi_lda, zi_cmp, zi_retOk, zi_isI, zi_f3, zi_cr, zi_ci, zi_cn, zi_get, zi_set, zq_Desk_groupCanBeWhole, zd_c, E3 F (by omega)]
      have til2 : ∀ j, zd_til ν2 j = zd_til μ j := fun j => by unfold zd_til; rw [w2]
      have T2 : ∀ q j, ν2 (zdT q + j) = μ (zdT q + j) := fun q j => f2 _ (by unfold zdT; omega)
      have has2 : zd_has ν2 s = zd_has μ s := funext fun j => by
        unfold zd_has
        rw [f2 _ (by unfold zdK; omega), f2 _ (by unfold zdQ; omega), f2 _ (by unfold zdV; omega)]
      obtain ⟨ν3, L3, v, Rs1, ts1, S4, ⟨nl, g0, g1, g2', g3⟩, hB, hY⟩ := ze_bring_1p (μ := ν2) (Rs := Rs) (ts := ts) D hs (fun q hq => zt_C_19 (fun j _ => T2 q j) (hC q hq)) (fun j hj q => by rw [til2] at q; rw [w2]; exact htl j hj q) hdj (fun q hq w hw a ha => by rw [Nat.add_assoc, T2, ← Nat.add_assoc]; exact hsm q hq w hw a ha) (fun q j hq hj => by rw [til2]; exact hRt q j hq hj) (L := [(3, .int (nI 10)), (2, .ref (zdK s + 1)), (0, .ref 1), (1, .int (nI s))]) rfl rfl rfl rfl
      rw [has2] at hB hY
      have gr3 : zd_gr ν3 (zd_bgr μ s) := fun j hj => by
        rw [hB.2.2.2.1]
        exact g2 j hj
      obtain ⟨ν4, ⟨N5, E5⟩, ⟨s5, s4⟩, sp⟩ := ze_sendGroup_p (μ := ν3) D gr3 hs
      have r4 : ∀ c, (∀ j, j < 10 → c ≠ zdW j) → (∀ j, j < 10 → c ≠ zdW j + 2) → ν4 c = ν3 c := fun c a1 a2 => funext fun d => s4 c d (fun j hj e => absurd e (a1 j hj)) a2
      have V4 : ∀ j, j < 19 → ν4 (zdV s + j) = μ (zdV s + j) := fun j hj => by
        rw [r4 _ (fun i hi => by unfold zdV zdW; omega) (fun i hi => by unfold zdV zdW; omega), hB.2.2.1 _ (zJn_T hs hj).2 (fun q hq => zJn_out hq (Or.inr (Or.inr (Or.inl ⟨s, hs, Or.inr (Or.inr (Or.inr (Or.inr ⟨j, hj, rfl⟩)))⟩)))), f2 _ (by unfold zdV; omega)]
      obtain ⟨ν5, ⟨N6, E6⟩, C5, f5, x3, x5, x6, x7, x8, x12⟩ := ze_Tree_copyFrom (μ := ν4) (D + 2) (zdT_at hs) (zdV_at hs) (by unfold zdT zdV; omega) (zt_C_19 V4 hV).1
      have gr5 : zd_gr ν5 (zd_bgr μ s) := fun j hj => by
        rw [f5 _ (by unfold zt_out zdT; omega), r4 _ (fun i hi => by unfold zdW; omega) (fun i hi => by unfold zdW; omega)]
        exact gr3 j hj
      obtain ⟨ν6, ⟨N7, E7⟩, k6, f6⟩ := ze_forgetKeptWithGroup (μ := ν5) (D + 2) gr5
      have r6 : ∀ c, (∀ q, q < 3 → c ≠ zdK q) → ν6 c = ν5 c := fun c hc => funext fun d => f6 c d (fun q hq e => absurd e (hc q hq))
      have base : ∀ c, ¬ zJ_irr c → (∀ q, q < 3 → zt_out (zdT q) c) → ν3 c = μ c := fun c a1 a2 => (hB.2.2.1 c a1 a2).trans (f2 c (fun e => a1 (by rw [e]; unfold zJ_irr; omega)))
      have K5 : ∀ q, q < 3 → ν5 (zdK q) = μ (zdK q) ∧ ν5 (zdQ q) = μ (zdQ q) ∧ ν5 (zdV q + 3) = μ (zdV q + 3) := fun q hq => by
        have o1 : ∀ p, p < 3 → zt_out (zdT p) (zdK q) := fun p hp => zJn_out hp (Or.inr (Or.inr (Or.inl ⟨q, hq, Or.inr (Or.inr (Or.inl rfl))⟩)))
        have o2 : ∀ p, p < 3 → zt_out (zdT p) (zdQ q) := fun p hp => zJn_out hp (Or.inr (Or.inr (Or.inl ⟨q, hq, Or.inr (Or.inr (Or.inr (Or.inl rfl)))⟩)))
        have o3 : ∀ p, p < 3 → zt_out (zdT p) (zdV q + 3) := fun p hp => zJn_out hp (Or.inr (Or.inr (Or.inl ⟨q, hq, Or.inr (Or.inr (Or.inr (Or.inr ⟨3, by decide, rfl⟩)))⟩)))
        refine ⟨?_, ?_, ?_⟩
        · rw [f5 _ (o1 s hs), r4 _ (fun i hi => by unfold zdK zdW; omega) (fun i hi => by unfold zdK zdW; omega), base _ (zJn_S hq).2.2.1 o1]
        · rw [f5 _ (o2 s hs), r4 _ (fun i hi => by unfold zdQ zdW; omega) (fun i hi => by unfold zdQ zdW; omega), base _ (zJn_S hq).2.2.2 o2]
        · rw [f5 _ (o3 s hs), r4 _ (fun i hi => by unfold zdV zdW; omega) (fun i hi => by unfold zdV zdW; omega), base _ (zJn_T hq (by decide)).2 o3]
      have hg5 : ∀ q, q < 3 → ∀ j, zd_has ν5 q j = zd_has μ q j := fun q hq j => by
        unfold zd_has
        rw [(K5 q hq).1, (K5 q hq).2.1, (K5 q hq).2.2]
      have hhg : ∀ q, q < 3 → zd_hasg ν5 (zd_bgr μ s) 10 q = zd_hasg μ (zd_bgr μ s) 10 q := fun q hq => by
        unfold zd_hasg
        have : (fun k => !(zd_bgr μ s k && zd_has ν5 q k)) = fun k => !(zd_bgr μ s k && zd_has μ q k) := funext fun k => by rw [hg5 q hq k]
        rw [this]
      refine ⟨ν6, v, ze_in [(0, .ref 1), (1, .int (nI s))] zq_Desk_bringBack (Nat.le_of_ble_eq_true rfl) rfl (((SS.trans S3).trans S4).end ⟨N5 + N6 + N7, 15, fun F n hF => ?_⟩), Or.inr ⟨⟨c1, hfit, hgw⟩, fun p hp j hj a ha => ?_, fun k hk a ha => ?_⟩⟩
      · obtain ⟨y4, z4⟩ := zt_c (μ := ν4) (zdT_at hs)
        simp [zi_go, zf_X5_bringBack, zi_ask, zi_new, zi_step, zi_ld, zi_lda, zi_cmp, zi_retOk, zi_isI, zi_f3, zi_cr, zi_ci, zi_cn, g0, g1, g2', g3, zq_Desk_sendGroup, zd_c, E5 F (by omega), zd_g, zd_s hs, zdS_g hs, zdK_g hs, zq_Tree_copyFrom, z4, E6 F (by omega), zq_Desk_forgetKeptWithGroup, E7 F (by omega)]
      · rw [r6 _ (fun q hq => by unfold zdP zdK; omega), f5 _ (by unfold zt_out zdP zdT; omega), r4 _ (fun i hi => by unfold zdP zdW; omega) (fun i hi => by unfold zdP zdW; omega), hY.2 p hp j hj a ha, f2 _ (by unfold zdP; omega)]
      · have oW : ∀ p, p < 3 → zt_out (zdT p) (zdW k) ∧ zt_out (zdT p) (zdW k + 1) ∧ zt_out (zdT p) (zdZ s) := fun p hp => ⟨zJn_out hp (Or.inr (Or.inl ⟨k, hk, Or.inl rfl⟩)), zJn_out hp (Or.inr (Or.inl ⟨k, hk, Or.inr rfl⟩)), zJn_out hp (Or.inr (Or.inr (Or.inl ⟨s, hs, Or.inr (Or.inl rfl)⟩)))⟩
        have b1 := base _ (zJn_W hk).1 (fun p hp => (oW p hp).1)
        have b2 := base _ (zJn_W hk).2 (fun p hp => (oW p hp).2.1)
        have b3 := base _ (zJn_S hs).2.1 (fun p hp => (oW p hp).2.2)
        have h0 := hY.1 k hk a ha
        rw [til2, f2 (zdP s + 1 + a) (by unfold zdP; omega), f2 (zdW k + 2) (by unfold zdW; omega)] at h0
        have ed : (decide (k < 10) && (zd_has μ s k && !zd_til μ k)) = (zd_has μ s k && !zd_til μ k) := by simp [hk]
        simp only [ed] at h0
        have ef : zd_flo ν3 k = zd_flo μ k := by unfold zd_flo; rw [b1]
        rw [r6 _ (fun q hq => by unfold zdW zdK; omega), f5 _ (by unfold zt_out zdW zdT; omega), sp k hk a ha, ef]
        unfold zx_cl
        rw [h0, b2, b3]
set_option maxRecDepth 100000 in
theorem ze_screen_2p (D : Nat) (h : zJ μ row stk Rs ts) {w x y : Int32} {s : Nat} (ha : zd_sarg w x y s) (hst : μ (zdS s) 3 = 0) : ∃ ν r, ze_E (D + 8) A_Desk_screen [.ref 1, .int w, .int x, .int y] (zm_mk μ) (some (.int r)) (zm_mk ν) ∧ ∃ ξ ν1, zd_new μ ξ s x y ∧ zd_brgp ξ ν1 Rs ts s ∧ ν = zm_up ν1 (zdK s) 3 0 := by
  rcases ze_screen_0 (μ := μ) (D + 6) w x y with ⟨hno, -⟩ | ⟨s', ha', S0⟩
  · exact absurd ⟨s, ha⟩ hno
  obtain ⟨hs, rfl, hx, hy⟩ := ha
  have es : s' = s := (nI_eq (by have := ha'.1; omega) (by omega)).mp ha'.2.1.symm
  subst es
  let ξ0 := zm_up (zm_up μ 32 0 x) 32 1 y
  have S0 : ze_S (D + 7) 6 (some .int) zc_X5_screen 0 [(0, .ref 1), (1, .int (nI s')), (2, .int x), (3, .int y)] [] (zm_mk μ) 46 [(4, .ref (zdS s' + 1)), (0, .ref 1), (1, .int (nI s')), (2, .int x), (3, .int y)] [] (zm_mk ξ0) := S0
  have r0 : ∀ c, c ≠ 32 → ξ0 c = μ c := fun c hc => (zm_up_row hc).trans (zm_up_row hc)
  have x0 : ξ0 32 0 = x := (zm_up_ne (by decide)).trans zm_up_eq
  have x1 : ξ0 32 1 = y := zm_up_eq
  let ξ1 := zm_up ξ0 (zdS s') 3 1
  have q0 : ξ1 32 0 = x := (zm_up_ne (by unfold zdS; omega)).trans x0
  have q1 : ξ1 32 1 = y := (zm_up_ne (by unfold zdS; omega)).trans x1
  obtain ⟨N1, E1⟩ := ze_setSize (μ := ξ1) (D + 6) hs
  rw [q0, q1] at E1
  let ξ := zm_up (zm_up ξ1 (zdZ s') 0 x) (zdZ s') 1 y
  have mξ : zm_up (zm_up ξ1 (zdZ s') 0 x) (zdZ s') 1 y = ξ := rfl
  rw [mξ] at E1
  have hn : zd_new μ ξ s' x y := by
    refine ⟨fun c d a1 a2 a3 => ?_, ?_, (zm_up_ne (by omega)).trans zm_up_eq, zm_up_eq⟩
    · show zm_up _ _ _ _ _ _ = _
      rw [zm_up_ne (fun e => a2 e.1), zm_up_ne (fun e => a2 e.1)]
      show zm_up _ _ _ _ _ _ = _
      rw [zm_up_ne a3, r0 c a1]
    · show zm_up _ _ _ _ _ _ = _
      rw [zm_up_ne (by unfold zdS zdZ; omega), zm_up_ne (by unfold zdS zdZ; omega)]
      exact zm_up_eq
  have rξ : ∀ c, c ≠ 32 → c ≠ zdZ s' → c ≠ zdS s' → ξ c = μ c := fun c a1 a2 a3 => funext fun d => hn.1 c d a1 a2 (fun e => a3 e.1)
  have tξ : ∀ q, q < 3 → ∀ j, j < 24 → ξ (zdT q + j) = μ (zdT q + j) := fun q hq j hj => rξ _ (by unfold zdT; omega) (by unfold zdT zdZ; omega) (by unfold zdT zdS; omega)
  have wξ : ∀ j, j < 10 → ξ (zdW j) = μ (zdW j) := fun j hj => rξ _ (by unfold zdW; omega) (by unfold zdW zdZ; omega) (by unfold zdW zdS; omega)
  have tilξ : ∀ j, j < 10 → zd_til ξ j = zd_til μ j := fun j hj => by unfold zd_til; rw [wξ j hj]
  have mem : ∀ q, q < 3 → ∀ j, j ∈ Rs q ↔ (j < 10 ∧ zd_til μ j = true ∧ μ (zdW j) 5 = nI q) := fun q hq => (h.2.2.2.1 q hq).2.1
  obtain ⟨ν1, r, ⟨N2, E2⟩, hb⟩ := ze_bringBack_p (μ := ξ) (Rs := Rs) (ts := ts) D hs (fun q hq => zt_C_19 (fun j hj => tξ q hq j (by omega)) (h.2.2.2.1 q hq).1) (zt_C_19 (fun j hj => rξ _ (by unfold zdV; omega) (by unfold zdV zdZ; omega) (by unfold zdV zdS; omega)) (h.2.2.2.2.1 s' hs).1) (fun j hj q => by
      rw [tilξ j hj] at q
      obtain ⟨p, hp, e, hR, -⟩ := zJ_til h hj q
      exact ⟨p, hp, by rw [wξ j hj]; exact e, hR⟩) (fun q p j hq hp a b => (nI_eq (by omega) (by omega)).mp (((mem q hq j).mp a).2.2.symm.trans ((mem p hp j).mp b).2.2)) (fun q hq u hu a ha => by
      rw [show ξ (zdT q + 5 + a) = μ (zdT q + 5 + a) by rw [Nat.add_assoc]; exact tξ q hq (5 + a) (by omega)]
      exact zJ_sm h hq u hu a ha) (fun q j hq hj => by
      obtain ⟨a, b, -⟩ := (mem q hq j).mp hj
      rw [tilξ j a]
      exact b)
  have hst' : ξ0 (zdS s') 3 = 0 := by rw [r0 _ (by unfold zdS; omega)]; exact hst
  obtain ⟨N3, E3⟩ := ze_forget (μ := ν1) (D + 6) hs
  have cs1 : (zm_mk ξ1)[zdS s']? = some (2, [.ref (zdZ s' + 1), .ref (zdT s' + 1), .ref (zdK s' + 1), .int (ξ1 (zdS s') 3)]) := zm_get (zdS_h hs)
  have ck := zdK_c (μ := ν1) hs
  have m1 : zm_up ξ0 (zdS s') 3 1 = ξ1 := rfl
  have E : ze_E (D + 8) A_Desk_screen [.ref 1, .int (nI s'), .int x, .int y] (zm_mk μ) (some (.int r)) (zm_mk (zm_up ν1 (zdK s') 3 0)) := by
    refine ze_in [(0, .ref 1), (1, .int (nI s')), (2, .int x), (3, .int y)] zq_Desk_screen (Nat.le_of_ble_eq_true rfl) rfl (S0.end ⟨N1 + N2 + N3, 19, fun F n hF => ?_⟩)
    simp [zi_go, zf_X5_screen, zi_ask, zi_new, zi_step, zi_ld, zi_lda, zi_cmp, zi_retOk, zi_isI, zi_f3, zi_cr, zi_ci, zi_cn, zi_get, zi_set, zdS_g hs, hst', zdS_p3 hs (Or.inr rfl), m1, zd_g, zq_Scr_setSize, cs1, E1 F (by omega), zq_Desk_bringBack, zd_c, E2 F (by omega), zq_Kept_forget, ck, E3 F (by omega)]
  exact ⟨_, r, E, ξ, ν1, hn, hb, rfl⟩
def zd_rszp (μ ν : zm_M) (Rs : Nat → List Nat) (ts : Nat → zy_F) (s : Nat) (x y : Int32) : Prop := ∃ ξ, zJ_eqv μ ξ ∧ ξ 32 0 = x ∧ ξ 32 1 = y ∧ (((zt_fit ξ (zdT s) 32 (Rs s) (ts s) = false ∨ zl_al (zd_lwf ξ (nI s) 32) 10 = false) ∧ zd_plc μ ν) ∨ ((zt_fit ξ (zdT s) 32 (Rs s) (ts s) = true ∧ zl_al (zd_lwf ξ (nI s) 32) 10 = true) ∧ zd_kpp μ ν ∧ (∀ j, j < 10 → zd_loose μ (nI s) j = true → μ (zdW j + 1) 0 ≤ x ∧ μ (zdW j + 1) 1 ≤ y) ∧ (∀ k, k < 10 → ∀ a, a < 2 → ν (zdW k + 2) a = if (zd_on μ (nI s) k && zd_flo μ k) = true then zi_bt 0 (μ (zdW k + 2) a) ((if a = 0 then x else y) - μ (zdW k + 1) a) else μ (zdW k + 2) a)))
set_option maxRecDepth 100000 in
theorem ze_screen_1p (D : Nat) (h : zJ μ row stk Rs ts) {w x y : Int32} {s : Nat} (ha : zd_sarg w x y s) (hst : ¬ μ (zdS s) 3 = 0) : ∃ ν r, ze_E (D + 7) A_Desk_screen [.ref 1, .int w, .int x, .int y] (zm_mk μ) (some (.int r)) (zm_mk ν) ∧ zd_rszp μ ν Rs ts s x y := by
  have n2 : Int32.ofInt (-1000000002) = -1000000002 := by decide
  rcases ze_screen_0 (μ := μ) (D + 5) w x y with ⟨hno, -⟩ | ⟨s', ha', S0⟩
  · exact absurd ⟨s, ha⟩ hno
  obtain ⟨hs, rfl, hx, hy⟩ := ha
  have es : s' = s := (nI_eq (by have := ha'.1; omega) (by omega)).mp ha'.2.1.symm
  subst es
  let ξ := zm_up (zm_up μ 32 0 x) 32 1 y
  have rξ : ∀ c, c ≠ 32 → ξ c = μ c := fun c hc => (zm_up_row hc).trans (zm_up_row hc)
  have evξ : zJ_eqv μ ξ := fun c hc => rξ c (fun e => hc (by rw [e]; unfold zJ_irr; omega))
  have x0 : ξ 32 0 = x := (zm_up_ne (by decide)).trans zm_up_eq
  have x1 : ξ 32 1 = y := zm_up_eq
  have hJ := h.eqv evξ
  obtain ⟨C, m, l⟩ := hJ.2.2.2.1 s' hs
  obtain ⟨N1, E1⟩ := ze_fitsC (μ := ξ) (D + 4) (zdT_at hs) C zd32_A
  obtain ⟨N2, E2⟩ := ze_looseOnesFit (μ := ξ) (D + 3) (nI s') zd32_A
  rw [zb_dec, show (decide (zl_al (zd_lwf ξ (nI s') 32) 10 = true)) = zl_al (zd_lwf ξ (nI s') 32) 10 by cases zl_al (zd_lwf ξ (nI s') 32) 10 <;> rfl] at E2
  obtain ⟨lt, ct⟩ := zt_c (μ := ξ) (zdT_at hs)
  have hst' : ¬ ξ (zdS s') 3 = 0 := by rw [rξ _ (by unfold zdS; omega)]; exact hst
  have S0 : ze_S (D + 6) 6 (some .int) zc_X5_screen 0 [(0, .ref 1), (1, .int (nI s')), (2, .int x), (3, .int y)] [] (zm_mk μ) 46 [(4, .ref (zdS s' + 1)), (0, .ref 1), (1, .int (nI s')), (2, .int x), (3, .int y)] [] (zm_mk ξ) := S0
  cases hfit : zt_fit ξ (zdT s') 32 (Rs s') (ts s') with
  | false =>
    rw [hfit, if_neg (by decide)] at E1
    refine ⟨ξ, -1000000002, ze_in [(0, .ref 1), (1, .int (nI s')), (2, .int x), (3, .int y)] zq_Desk_screen (Nat.le_of_ble_eq_true rfl) rfl (S0.end ⟨N1, 11, fun F n hF => ?_⟩), ξ, evξ, x0, x1, Or.inl ⟨Or.inl hfit, zd_pls.p ⟨fun k hk => rξ _ (by unfold zdW; omega), fun p hp a ha => rξ _ (by unfold zdP; omega)⟩⟩⟩
    simp [zi_go, zf_X5_screen, zi_ask, zi_new, zi_step, zi_ld, zi_lda, zi_cmp, zi_retOk, zi_isI, zi_f3, zi_cr, zi_ci, zi_cn, zi_get, zi_set, zdS_g hs, hst', zd_g, zq_Tree_fits, ct, E1 F (by omega), n2]
  | true =>
    rw [hfit, if_pos rfl] at E1
    cases hlw : zl_al (zd_lwf ξ (nI s') 32) 10 with
    | false =>
      rw [hlw, if_neg (by decide)] at E2
      refine ⟨ξ, -1000000002, ze_in [(0, .ref 1), (1, .int (nI s')), (2, .int x), (3, .int y)] zq_Desk_screen (Nat.le_of_ble_eq_true rfl) rfl (S0.end ⟨N1 + N2, 17, fun F n hF => ?_⟩), ξ, evξ, x0, x1, Or.inl ⟨Or.inr hlw, zd_pls.p ⟨fun k hk => rξ _ (by unfold zdW; omega), fun p hp a ha => rξ _ (by unfold zdP; omega)⟩⟩⟩
      simp [zi_go, zf_X5_screen, zi_ask, zi_new, zi_step, zi_ld, zi_lda, zi_cmp, zi_retOk, zi_isI, zi_f3, zi_cr, zi_ci, zi_cn, zi_get, zi_set, zdS_g hs, hst', zd_g, zq_Tree_fits, ct, E1 F (by omega), zq_Desk_looseOnesFit, zd_c, E2 F (by omega), n2]
    | true =>
      rw [hlw, if_pos rfl] at E2
      obtain ⟨N3, E3⟩ := ze_setSize (μ := ξ) (D + 5) hs
      rw [x0, x1] at E3
      let ξ2 := zm_up (zm_up ξ (zdZ s') 0 x) (zdZ s') 1 y
      have m2 : zm_up (zm_up ξ (zdZ s') 0 x) (zdZ s') 1 y = ξ2 := rfl
      rw [m2] at E3
      obtain ⟨ν, ⟨N4, E4⟩, ⟨s5, s4⟩, sp⟩ := ze_sendAll_p (μ := ξ2) D (nI s') hs
      have r2 : ∀ c, c ≠ zdZ s' → ξ2 c = ξ c := fun c hc => (zm_up_row hc).trans (zm_up_row hc)
      have w2 : ∀ j, j < 10 → ξ2 (zdW j) = μ (zdW j) := fun j hj => by rw [r2 _ (by unfold zdW zdZ; omega), evξ _ (zJn_W hj).1]
      refine ⟨ν, 0, ze_in [(0, .ref 1), (1, .int (nI s')), (2, .int x), (3, .int y)] zq_Desk_screen (Nat.le_of_ble_eq_true rfl) rfl (S0.end ⟨N1 + N2 + N3 + N4, 25, fun F n hF => ?_⟩), ξ, evξ, x0, x1, Or.inr ⟨⟨hfit, hlw⟩, fun p hp j hj a ha => ?_, fun j hj hl => ?_, fun k hk a ha => ?_⟩⟩
      · have cs : (zm_mk ξ)[zdS s']? = some (2, [.ref (zdZ s' + 1), .ref (zdT s' + 1), .ref (zdK s' + 1), .int (ξ (zdS s') 3)]) := zm_get (zdS_h hs)
        simp [zi_go, zf_X5_screen, zi_ask, zi_new, zi_step, zi_ld, zi_lda, zi_cmp, zi_retOk, zi_isI, zi_f3, zi_cr, zi_ci, zi_cn, zi_get, zi_set, zdS_g hs, hst', zd_g, zq_Tree_fits, ct, E1 F (by omega), zq_Desk_looseOnesFit, zd_c, E2 F (by omega), zq_Scr_setSize, cs, E3 F (by omega), zq_Desk_sendAll, E4 F (by omega)]
      · rw [s4 _ _ (fun i hi e => by unfold zdP zdW at e; omega) (fun i hi => by unfold zdP zdW; omega), r2 _ (by unfold zdP zdZ; omega), rξ _ (by unfold zdP; omega)]
      · have h1 := (zl_al_iff 10).mp hlw j hj
        unfold zd_lwf zd_loose at h1
        unfold zd_loose at hl
        rw [rξ _ (by unfold zdW; omega), hl] at h1
        unfold zd_whole at h1
        rw [rξ _ (by unfold zdW; omega), x0, x1] at h1
        simpa using h1
      · have e1 : zd_on ξ2 (nI s') k = zd_on μ (nI s') k := by unfold zd_on; rw [w2 k hk]
        have e2 : zd_flo ξ2 k = zd_flo μ k := by unfold zd_flo; rw [w2 k hk]
        rw [sp k hk a ha, e1, e2]
        unfold zx_cl
        have ez : ξ2 (zdZ s') a = if a = 0 then x else y := by
          rcases (by omega : a = 0 ∨ a = 1) with rfl | rfl
          · exact (zm_up_ne (by omega)).trans zm_up_eq
          · exact zm_up_eq
        rw [ez, r2 _ (by unfold zdW zdZ; omega), rξ _ (by unfold zdW; omega), r2 _ (by unfold zdW zdZ; omega), rξ _ (by unfold zdW; omega)]
theorem zx_ref_lt {A : Prop} {r : Int32} (h : zx_ref A r) : r < 0 := by
  rcases h with ⟨-, rfl⟩ | ⟨-, rfl⟩ <;> decide
def zd_gonp (μ ν : zm_M) (w r : Int32) : Prop :=
  (zd_plc μ ν ∧ r < 0) ∨ ∃ s o, s < 3 ∧ o < 3 ∧ s ≠ o ∧ w = nI s ∧ ¬ μ (zdS s) 3 = 0 ∧ ¬ μ (zdS o) 3 = 0 ∧ zd_lsb μ (nI s) = nI o ∧ 0 ≤ r ∧ zl_al (zd_lwf μ (nI s) (zdZ o)) 10 = true ∧
    (∀ k, k < 10 → ∀ a, a < 2 → ν (zdW k + 2) a = if (zd_on μ (nI s) k && zd_flo μ k) = true then zx_cl μ k o a (μ (zdW k + 2) a) else μ (zdW k + 2) a) ∧ (∀ k, k < 10 → ν (zdP s + 1) k = μ (zdW k + 2) 0 ∧ ν (zdP s + 2) k = μ (zdW k + 2) 1) ∧
    ∀ q, q < 3 → q ≠ s → ∀ j, j < 10 → ∀ a, a < 2 → ν (zdP q + 1 + a) j = μ (zdP q + 1 + a) j
set_option maxRecDepth 100000 in
theorem ze_gone_p (D : Nat) (h : zJ μ row stk Rs ts) (w : Int32) : ∃ ν r, ze_E (D + 7) A_Desk_gone [.ref 1, .int w] (zm_mk μ) (some (.int r)) (zm_mk ν) ∧ zd_gonp μ ν w r := by
  have n4 : Int32.ofInt (-1000000001) = -1000000001 := by decide
  have n2 : Int32.ofInt (-1000000002) = -1000000002 := by decide
  have inj3 : ∀ {x y : Nat}, x < 3 → y < 3 → nI x = nI y → x = y := fun hx hy e => (nI_eq (by omega) (by omega)).mp e
  rcases zd_rng w 3 (by decide) with ⟨s, hs, rfl⟩ | hout
  rotate_left
  · obtain ⟨N1, E1⟩ := ze_isScreen_out (h := zm_mk μ) (D + 5) hout
    refine ⟨μ, -1000000001, ze_in [(0, .ref 1), (1, .int w)] zq_Desk_gone (Nat.le_of_ble_eq_true rfl) rfl ⟨N1, 5, fun F n hF => ?_⟩, Or.inl ⟨zd_plc.refl, by decide⟩⟩
    simp [zi_go, zf_X5_gone, zi_ask, zi_new, zi_step, zi_ld, zi_lda, zi_cmp, zi_retOk, zi_isI, zi_f3, zi_cr, zi_ci, zi_cn, zi_get, zi_set, zq_Desk_isScreen, E1 F (by omega), n4]
  obtain ⟨N1, E1⟩ := ze_isScreen_in (h := zm_mk μ) (D + 5) hs
  obtain ⟨N2, E2⟩ := ze_leastScreenBut (μ := μ) (D + 5) (nI s)
  by_cases c1 : μ (zdS s) 3 = 0
  · generalize zd_lsb μ (nI s) = v at E2
    refine ⟨μ, -1000000002, ze_in [(0, .ref 1), (1, .int (nI s))] zq_Desk_gone (Nat.le_of_ble_eq_true rfl) rfl ⟨N1 + N2, 15, fun F n hF => ?_⟩, Or.inl ⟨zd_plc.refl, by decide⟩⟩
    simp [zi_go, zf_X5_gone, zi_ask, zi_new, zi_step, zi_ld, zi_lda, zi_cmp, zi_retOk, zi_isI, zi_f3, zi_cr, zi_ci, zi_cn, zi_get, zi_set, zq_Desk_isScreen, E1 F (by omega), zq_Desk_leastScreenBut, zd_c, E2 F (by omega), zd_g, zd_s hs, zdS_g hs, c1, n2]
  rcases zd_lsb_or (μ := μ) (nI s) with e1 | ⟨o, ho, e1, hne, hot⟩
  · rw [e1] at E2
    have cm : ¬ (0 : Int32) ≤ -1 := by decide
    refine ⟨μ, -1000000002, ze_in [(0, .ref 1), (1, .int (nI s))] zq_Desk_gone (Nat.le_of_ble_eq_true rfl) rfl ⟨N1 + N2, 17, fun F n hF => ?_⟩, Or.inl ⟨zd_plc.refl, by decide⟩⟩
    simp [zi_go, zf_X5_gone, zi_ask, zi_new, zi_step, zi_ld, zi_lda, zi_cmp, zi_retOk, zi_isI, zi_f3, zi_cr, zi_ci, zi_cn, zi_get, zi_set, zq_Desk_isScreen, E1 F (by omega), zq_Desk_leastScreenBut, zd_c, E2 F (by omega), zd_g, zd_s hs, zdS_g hs, c1, cm, n2]
  rw [e1] at E2
  have hso : s ≠ o := fun e => hne (by rw [e])
  have co : (0 : Int32) ≤ nI o := nI_pos' (by omega)
  obtain ⟨Co, mo, lo⟩ := h.2.2.2.1 o ho
  obtain ⟨Cs, ms, ls⟩ := h.2.2.2.1 s hs
  -- the trial
  obtain ⟨ν1, ⟨N3, E3⟩, C1, f1, cp1⟩ := ze_Tree_copyFrom (μ := μ) (D + 2) zd7_at (zdT_at ho) (by unfold zdT; omega) Co.1
  have rs1 : ∀ j, ν1 (zdT s + j) = μ (zdT s + j) := fun j => f1 _ (by unfold zt_out zdT; omega)
  have Cs1 : zt_C ν1 (zdT s) (Rs s) (ts s) := zt_C_19 (fun j _ => rs1 j) Cs
  have hdis : ∀ j ∈ Rs s, j ∉ Rs o := fun j q1 q2 => hso (inj3 hs ho (((ms j).mp q1).2.2.symm.trans ((mo j).mp q2).2.2))
  obtain ⟨emp, he, he'⟩ : ∃ emp : Bool, (emp = true → ts o = .nil ∧ Rs o = []) ∧ (emp = false → zy_wf (ts o)) := by
    rcases Co.1.2.1.1 with ⟨e, -⟩ | ⟨e, -⟩
    · exact ⟨true, fun _ => ⟨e, zt_I_nil (μ := μ) (T := zdT o) (by rw [← e]; exact Co.1)⟩, fun q => by cases q⟩
    · exact ⟨false, fun q => (by cases q), fun _ => e⟩
  obtain ⟨ν2, ⟨N4, E4⟩, hAD⟩ := ze_Tree_addAllTabs (μ := ν1) (D + 1) zd7_at (zdT_at hs) (by unfold zdT; omega) he he' C1 Cs1 hdis
  have eW : (zy_lvs (ts s)).flatMap (zt_tb ν1 (zdT s) (Rs s)) = (zy_lvs (ts s)).flatMap (zt_tb μ (zdT s) (Rs s)) := by
    have : zt_tb ν1 (zdT s) (Rs s) = zt_tb μ (zdT s) (Rs s) := funext fun n => zt_tb_congr (rs1 3)
    rw [this]
  rw [eW] at hAD
  generalize hW : (zy_lvs (ts s)).flatMap (zt_tb μ (zdT s) (Rs s)) = W at hAD
  have hWm : ∀ j, j ∈ W ↔ j ∈ Rs s := fun j => by
    rw [← hW, List.mem_flatMap]
    constructor
    · rintro ⟨n, -, q⟩
      exact (zt_tb_mem.mp q).1
    · intro q
      obtain ⟨n, hn, en⟩ := Cs.1.2.2.2.1 j q
      exact ⟨n, hn, zt_tb_mem.mpr ⟨q, en⟩⟩
  have hgtr : zd_gtr μ ν2 Rs ts s o emp W := ⟨ν1, f1, cp1, C1, he, he', hW.symm, hAD⟩
  obtain ⟨n0, C2, f2, -, a3, a5, a6, -⟩ := id hAD
  have fr2 : zt_frT 7 μ ν2 := f1.trans f2
  have ev2 : zJ_eqv μ ν2 := fun c hc => fr2 c (zJn_7 hc)
  generalize ht2 : zy_ad emp (ts o) W n0 = t2 at C2
  obtain ⟨N5, E5⟩ := ze_fitsC (μ := ν2) (D + 4) zd7_at C2 (zdZ_A ho)
  obtain ⟨N6, E6⟩ := ze_looseOnesFit (μ := ν2) (D + 3) (nI s) (zdZ_A ho)
  have elw : zl_al (zd_lwf ν2 (nI s) (zdZ o)) 10 = zl_al (zd_lwf μ (nI s) (zdZ o)) 10 := by
    have key : ∀ j, j < 10 → zd_lwf ν2 (nI s) (zdZ o) j = zd_lwf μ (nI s) (zdZ o) j := fun j hj => by
      unfold zd_lwf zd_loose zd_whole
      rw [ev2 _ (zJn_W hj).1, ev2 _ (zJn_W hj).2, ev2 _ (zJn_S ho).2.1]
    cases hc : zl_al (zd_lwf μ (nI s) (zdZ o)) 10 with
    | true => exact (zl_al_iff 10).mpr (fun j hj => by rw [key j hj]; exact (zl_al_iff 10).mp hc j hj)
    | false =>
      cases hc2 : zl_al (zd_lwf ν2 (nI s) (zdZ o)) 10 with
      | false => rfl
      | true =>
        rw [(zl_al_iff 10).mpr (fun j hj => by rw [← key j hj]; exact (zl_al_iff 10).mp hc2 j hj)] at hc
        cases hc
  rw [zb_dec] at E6
  rw [show (decide (zl_al (zd_lwf ν2 (nI s) (zdZ o)) 10 = true)) = zl_al (zd_lwf μ (nI s) (zdZ o)) 10 by rw [elw]; cases zl_al (zd_lwf μ (nI s) (zdZ o)) 10 <;> rfl] at E6
  have S0 : ze_S (D + 6) 5 (some .int) zc_X5_gone 0 [(0, .ref 1), (1, .int (nI s))] [] (zm_mk μ) 69 [(3, .ref (zdS s + 1)), (2, .int (nI o)), (0, .ref 1), (1, .int (nI s))] [] (zm_mk ν2) := by
    obtain ⟨q7, d7⟩ := zt_c (μ := μ) zd7_at
    obtain ⟨q8, d8⟩ := zt_c (μ := ν1) zd7_at
    refine ⟨N1 + N2 + N3 + N4, 33, fun F n hF => ?_⟩
    simp [zi_go, zf_X5_gone, zi_ask, zi_new, zi_step, zi_ld, zi_lda, zi_cmp, zi_retOk, zi_isI, zi_f3, zi_cr, zi_ci, zi_cn, zi_get, zi_set, zq_Desk_isScreen, E1 F (by omega), zq_Desk_leastScreenBut, zd_c, E2 F (by omega), zd_g, zd_s hs, zd_s ho, zdS_g hs, zdS_g ho, c1, co, zq_Tree_copyFrom, d7, E3 F (by omega), zq_Tree_addAllTabs, d8, E4 F (by omega)]
  obtain ⟨q7, d7⟩ := zt_c (μ := ν2) zd7_at
  have refuse : (zt_fit ν2 7 (zdZ o) (Rs o ++ W) t2 = false ∨ zl_al (zd_lwf μ (nI s) (zdZ o)) 10 = false) → ze_G (D + 6) 5 (some .int) zc_X5_gone 69 [(3, .ref (zdS s + 1)), (2, .int (nI o)), (0, .ref 1), (1, .int (nI s))] [] (zm_mk ν2) (some (.int (-1000000002))) (zm_mk ν2) → ∃ ν r, ze_E (D + 7) A_Desk_gone [.ref 1, .int (nI s)] (zm_mk μ) (some (.int r)) (zm_mk ν) ∧ zd_gonp μ ν (nI s) r := fun hc G =>
    ⟨ν2, -1000000002, ze_in [(0, .ref 1), (1, .int (nI s))] zq_Desk_gone (Nat.le_of_ble_eq_true rfl) rfl (S0.end G), Or.inl ⟨zd_pls.p ⟨fun k hk => fr2 _ (by unfold zt_out zdW; omega), fun p hp a ha => fr2 _ (by unfold zt_out zdP; omega)⟩, by decide⟩⟩
  cases hfit : zt_fit ν2 7 (zdZ o) (Rs o ++ W) t2 with
  | false =>
    rw [hfit, if_neg (by decide)] at E5
    refine refuse (Or.inl hfit) ⟨N5, 11, fun F n hF => ?_⟩
    simp [zi_go, zf_X5_gone, zi_ask, zi_new, zi_step, zi_ld, zi_lda, zi_cmp, zi_retOk, zi_isI, zi_f3, zi_cr, zi_ci, zi_cn, zi_get, zi_set, zd_g, zd_s ho, zdS_g ho, zq_Tree_fits, d7, E5 F (by omega), n2]
  | true =>
    rw [hfit, if_pos rfl] at E5
    cases hlw : zl_al (zd_lwf μ (nI s) (zdZ o)) 10 with
    | false =>
      rw [hlw, if_neg (by decide)] at E6
      refine refuse (Or.inr hlw) ⟨N5 + N6, 20, fun F n hF => ?_⟩
      simp [zi_go, zf_X5_gone, zi_ask, zi_new, zi_step, zi_ld, zi_lda, zi_cmp, zi_retOk, zi_isI, zi_f3, zi_cr, zi_ci, zi_cn, zi_get, zi_set, zd_g, zd_s ho, zdS_g ho, zq_Tree_fits, d7, E5 F (by omega), zq_Desk_looseOnesFit, zd_c, E6 F (by omega), n2]
    | true =>
      rw [hlw, if_pos rfl] at E6
      have wall : ∀ j, ν2 (zdW j) = μ (zdW j) := fun j => fr2 _ (by unfold zt_out zdW; omega)
      have eon : zd_on ν2 (nI s) = zd_on μ (nI s) := funext fun j => by unfold zd_on; rw [wall]
      have elo : ∀ j, zd_loose ν2 (nI s) j = zd_loose μ (nI s) j := fun j => by unfold zd_loose; rw [wall]
      obtain ⟨N7, E7⟩ := ze_windowsOn (μ := ν2) (D + 4) (nI s)
      have hmv : 0 ≤ nI (zl_ct (zd_on ν2 (nI s)) 10) := nI_pos' (by have := zl_ct_le (zd_on ν2 (nI s)) 10; omega)
      generalize nI (zl_ct (zd_on ν2 (nI s)) 10) = mv at E7 hmv
      have rs2 : ∀ j, ν2 (zdT s + j) = μ (zdT s + j) := fun j => fr2 _ (by unfold zt_out zdT; omega)
      have I2 : zt_I ν2 (zdT s) (Rs s) (ts s) := (zt_C_19 (fun j _ => rs2 j) Cs).1
      obtain ⟨ν3, ⟨N8, E8⟩, C3, ⟨v3, v5, v6, v7, v8, v12⟩, k3, q3, f3, p3⟩ := ze_keepAll_p (μ := ν2) (D + 1) hs I2
      rw [eon] at k3
      have w3 : ∀ j, j < 10 → ν3 (zdW j) = μ (zdW j) := fun j hj => by
        rw [← wall j]
        funext d
        exact f3 _ _ (by unfold zt_out zdV zdW; omega) (by unfold zdQ zdW; omega) (by unfold zdP zdW; omega) (by unfold zdP zdW; omega) (fun e => by have := e.1; unfold zdK zdW at this; omega)
      obtain ⟨ν4, ⟨N9, E9⟩, ⟨s5, s4⟩, sp⟩ := ze_sendAll_p (μ := ν3) D (nI s) ho
      have on3 : ∀ j, j < 10 → zd_on ν3 (nI s) j = zd_on μ (nI s) j := fun j hj => by unfold zd_on; rw [w3 j hj]
      have r4 : ∀ c, (∀ j, j < 10 → c ≠ zdW j) → (∀ j, j < 10 → c ≠ zdW j + 2) → ν4 c = ν3 c := fun c a1 a2 => funext fun d => s4 c d (fun j hj e => absurd e (a1 j hj)) a2
      have t4 : ∀ c, 7 ≤ c → c < 31 → ν4 c = ν2 c := fun c h1 h2 => by
        rw [r4 c (fun j hj => by unfold zdW; omega) (fun j hj => by unfold zdW; omega)]
        funext d
        exact f3 c d (by unfold zt_out zdV; omega) (by unfold zdQ; omega) (by unfold zdP; omega) (by unfold zdP; omega) (fun e => by have := e.1; unfold zdK at this; omega)
      obtain ⟨ν5, ⟨N10, E10⟩, C5, f5, x3, x5, x6, x7, x8, x12⟩ := ze_Tree_copyFrom (μ := ν4) (D + 2) (zdT_at ho) zd7_at (by unfold zdT; omega) (zt_C_congr (fun c h1 h2 => t4 c h1 (by omega)) C2).1
      obtain ⟨ν6, ⟨N11, E11⟩, C6, f6⟩ := ze_Tree_clearI (μ := ν5) (D + 4) (zdT_at hs)
      have u7 : ∀ c, c ≠ zdS s → zm_up ν6 (zdS s) 3 0 c = ν6 c := fun c hc => zm_up_row hc
      refine ⟨zm_up ν6 (zdS s) 3 0, mv, ze_in [(0, .ref 1), (1, .int (nI s))] zq_Desk_gone (Nat.le_of_ble_eq_true rfl) rfl (S0.end (ze_S.end (p2 := 115) (L2 := [(4, .int mv), (3, .ref (zdS s + 1)), (2, .int (nI o)), (0, .ref 1), (1, .int (nI s))]) (s2 := []) (h2 := zm_mk ν2) ⟨N5 + N6 + N7, 22, fun F n hF => ?_⟩ ⟨N8 + N9 + N10 + N11, 23, fun F n hF => ?_⟩)), Or.inr ⟨s, o, hs, ho, hso, rfl, c1, hot, e1, hmv, hlw, fun k hk a ha => ?_, fun k hk => ?_, fun q hq hne j hj a ha => ?_⟩⟩
      · simp [zi_go, zf_X5_gone, zi_ask, zi_new, zi_step, zi_ld, zi_lda, zi_cmp, zi_retOk, zi_isI, zi_f3, zi_cr, zi_ci, zi_cn, zi_get, zi_set, zd_g, zd_s ho, zdS_g ho, zq_Tree_fits, d7, E5 F (by omega), zq_Desk_looseOnesFit, zd_c, E6 F (by omega), zq_Desk_windowsOn, E7 F (by omega)]
      · obtain ⟨y4, z4⟩ := zt_c (μ := ν4) (zdT_at ho)
        obtain ⟨y5, z5⟩ := zt_c (μ := ν5) (zdT_at hs)
        simp [zi_go, zf_X5_gone, zi_ask, zi_new, zi_step, zi_ld, zi_lda, zi_cmp, zi_retOk, zi_isI, zi_f3, zi_cr, zi_ci, zi_cn, zi_get, zi_set, zd_g, zd_s ho, zdS_g ho, zdS_g hs, zq_Desk_keepAll, zd_c, E8 F (by omega), zq_Desk_sendAll, E9 F (by omega), zq_Tree_copyFrom, z4, E10 F (by omega), zq_Tree_clear, z5, E11 F (by omega), zdS_p3 hs (Or.inl rfl)]
      · have r3 : ∀ c, zt_out (zdV s) c → c ≠ zdQ s → c ≠ zdP s + 1 → c ≠ zdP s + 2 → c ≠ zdK s → zt_out 7 c → ν3 c = μ c := fun c a1 a2 a3 a4 a5 a6 => (funext fun d => f3 c d a1 a2 a3 a4 (fun e => a5 e.1)).trans (fr2 c a6)
        have x1 := r3 (zdW k + 2) (by unfold zt_out zdV zdW; omega) (by unfold zdQ zdW; omega) (by unfold zdP zdW; omega) (by unfold zdP zdW; omega) (by unfold zdK zdW; omega) (by unfold zt_out zdW; omega)
        have x2 := r3 (zdW k + 1) (by unfold zt_out zdV zdW; omega) (by unfold zdQ zdW; omega) (by unfold zdP zdW; omega) (by unfold zdP zdW; omega) (by unfold zdK zdW; omega) (by unfold zt_out zdW; omega)
        have x3 := r3 (zdZ o) (by unfold zt_out zdV zdZ; omega) (by unfold zdQ zdZ; omega) (by unfold zdP zdZ; omega) (by unfold zdP zdZ; omega) (by unfold zdK zdZ; omega) (by unfold zt_out zdZ; omega)
        have ef : zd_flo ν3 k = zd_flo μ k := by unfold zd_flo; rw [w3 k hk]
        rw [u7 _ (by unfold zdW zdS; omega), f6 _ (by unfold zt_out zdW zdT; omega), f5 _ (by unfold zt_out zdW zdT; omega), sp k hk a ha, on3 k hk, ef]
        unfold zx_cl
        rw [x1, x2, x3]
      · have y : ∀ c, c = zdP s + 1 ∨ c = zdP s + 2 → zm_up ν6 (zdS s) 3 0 c = ν3 c := fun c hc => by
          rw [u7 _ (by unfold zdP at hc; unfold zdS; omega), f6 _ (by unfold zdP at hc; unfold zt_out zdT; omega), f5 _ (by unfold zdP at hc; unfold zt_out zdT; omega), r4 _ (fun i hi => by unfold zdP at hc; unfold zdW; omega) (fun i hi => by unfold zdP at hc; unfold zdW; omega)]
        have z := p3 k hk
        rw [fr2 (zdW k + 2) (by unfold zt_out zdW; omega)] at z
        rw [y _ (Or.inl rfl), y _ (Or.inr rfl)]
        exact z
      · rw [u7 _ (by unfold zdP zdS; omega), f6 _ (by unfold zt_out zdP zdT; omega), f5 _ (by unfold zt_out zdP zdT; omega), r4 _ (fun i hi => by unfold zdP zdW; omega) (fun i hi => by unfold zdP zdW; omega), f3 _ _ (by unfold zt_out zdP zdV; omega) (by unfold zdP zdQ; omega) (by unfold zdP; omega) (by unfold zdP; omega) (fun e => by have := e.1; unfold zdP zdK at this; omega), fr2 _ (by unfold zt_out zdP; omega)]
def zd_drgp (μ ν : zm_M) (w x y r : Int32) : Prop :=
  (zd_plc μ ν ∧ r < 0) ∨ ∃ k o sd a b, zd_darg μ w x y k o sd ∧ a < 3 ∧ b < 3 ∧ μ (zdW k) 5 = nI a ∧ μ (zdW o) 5 = nI b ∧ r = 0 ∧ zd_kpp μ ν ∧ (a = b ∨ zl_al (zd_gwf μ (zd_grp μ k) (zdZ b)) 10 = true) ∧
    ∀ j, j < 10 → ∀ c, c < 2 → ν (zdW j + 2) c = if (!decide (a = b) && (zd_grp μ k j && zd_flo μ j)) = true then zx_cl μ j b c (μ (zdW j + 2) c) else μ (zdW j + 2) c
set_option maxRecDepth 100000 in
theorem ze_drag_p (D : Nat) (h : zJ μ row stk Rs ts) (w x y : Int32) : ∃ ν r, ze_E (D + 16) A_Desk_drag [.ref 1, .int w, .int x, .int y] (zm_mk μ) (some (.int r)) (zm_mk ν) ∧ zd_drgp μ ν w x y r := by
  have n2 : Int32.ofInt (-1000000002) = -1000000002 := by decide
  rcases ze_drag_0_v (D + 14) h w x y with ⟨hno, r, hr, G⟩ | ⟨k, o, sd, hd, S0⟩
  · exact ⟨μ, r, ze_in [(0, .ref 1), (1, .int w), (2, .int x), (3, .int y)] zq_Desk_drag (Nat.le_of_ble_eq_true rfl) rfl G, Or.inl ⟨zd_plc.refl, zx_ref_lt hr⟩⟩
  obtain ⟨⟨hk, ho, hsd⟩, ⟨rfl, rfl, rfl⟩, htk, hto, hko⟩ := id hd
  obtain ⟨a, ha, ea, hkR, n, hn, en⟩ := zJ_til h hk htk
  obtain ⟨b, hb, eb, hoR, -⟩ := zJ_til h ho hto
  have hbt : ¬ μ (zdS b) 3 = 0 := by
    obtain ⟨-, -, a3, -, -⟩ := h.2.2.1 o ho (decide_eq_true (of_decide_eq_true hto).1)
    obtain ⟨s', b1, b2, b3⟩ := a3 (by rw [(of_decide_eq_true hto).2]; decide)
    rw [(nI_eq (by omega) (by omega)).mp (eb.symm.trans b2)]
    exact b3
  obtain ⟨ν1, ν0, R', t', m, ⟨N1, E1⟩, d1, d2, d3, d4, f1⟩ := ze_tryDrag (μ := μ) (D + 10) hk ho hko hb hsd eb (h.2.2.2.1 b hb).1.1 hoR
  obtain ⟨R2, t2, htr⟩ := zd_trl_of d1 d2 d3 d4
  obtain ⟨C1, hR2, h52⟩ := zd_trl_R h hb htr
  -- the group
  obtain ⟨ν2, ⟨N2, E2⟩, f2, hg2⟩ := ze_gatherWithDialogs (μ := ν1) (D + 12) hk
  have w1 : ∀ j, ν1 (zdW j) = μ (zdW j) := fun j => f1 _ (by unfold zt_out zdW; omega)
  have eow : zd_ow ν1 = zd_ow μ := funext fun j => by unfold zd_ow; rw [w1]
  have edl : zd_dl ν1 = zd_dl μ := funext fun j => by unfold zd_dl; rw [eow, w1, w1]
  rw [eow, edl] at hg2
  have hg2 : zd_gr ν2 (zd_grp μ k) := hg2
  have o2 : ∀ c, zt_out 7 c → c ≠ 31 → ν2 c = μ c := fun c h1 h2 => (f2 c h2).trans (f1 c h1)
  have C2 : zt_C ν2 7 R2 t2 := zt_C_congr (fun c h1 h2 => f2 c (by omega)) C1
  have ev2 : zJ_eqv μ ν2 := fun c hc => o2 c (zJn_7 hc) (fun e => hc (by rw [e]; unfold zJ_irr; omega))
  obtain ⟨N3, E3⟩ := ze_fitsC (μ := ν2) (D + 13) zd7_at C2 (zdZ_A hb)
  have efit : zt_fit ν2 7 (zdZ b) R2 t2 = zt_fit ν1 7 (zdZ b) R2 t2 := zt_fit_copy ⟨f2 _ (by decide), f2 _ (by decide), f2 _ (by decide), f2 _ (by decide), f2 _ (by decide), f2 _ (by decide)⟩ (f2 _ (by unfold zdZ; omega))
  rw [efit] at E3
  obtain ⟨N4, E4⟩ := ze_groupCanBeWhole (μ := ν2) (D + 13) hg2 hb
  have egw : zl_al (zd_gwf ν2 (zd_grp μ k) (zdZ b)) 10 = zl_al (zd_gwf μ (zd_grp μ k) (zdZ b)) 10 := by
    have key : ∀ j, j < 10 → zd_gwf ν2 (zd_grp μ k) (zdZ b) j = zd_gwf μ (zd_grp μ k) (zdZ b) j := fun j hj => by
      unfold zd_gwf zd_flo zd_whole
      rw [ev2 _ (zJn_W hj).1, ev2 _ (zJn_W hj).2, ev2 _ (zJn_S hb).2.1]
    cases hc : zl_al (zd_gwf μ (zd_grp μ k) (zdZ b)) 10 with
    | true => exact (zl_al_iff 10).mpr (fun j hj => by rw [key j hj]; exact (zl_al_iff 10).mp hc j hj)
    | false =>
      cases hc2 : zl_al (zd_gwf ν2 (zd_grp μ k) (zdZ b)) 10 with
      | false => rfl
      | true =>
        rw [(zl_al_iff 10).mpr (fun j hj => by rw [← key j hj]; exact (zl_al_iff 10).mp hc2 j hj)] at hc
        cases hc
  rw [egw] at E4
  have S1 : ze_S (D + 15) 6 (some .int) zc_X5_drag 63 [(0, .ref 1), (1, .int (nI k)), (2, .int (nI o)), (3, .int (nI sd))] [] (zm_mk μ) 97 [(5, .int (nI b)), (4, .int (nI a)), (0, .ref 1), (1, .int (nI k)), (2, .int (nI o)), (3, .int (nI sd))] [] (zm_mk ν2) := by
    refine ⟨N1 + N2, 20, fun F n hF => ?_⟩
    simp [zi_go, zf_X5_drag, zi_ask, zi_new, zi_step, zi_ld, zi_lda, zi_cmp, zi_retOk, zi_isI, zi_f3, zi_cr, zi_ci, zi_cn, zi_get, zi_set, zd_g, zd_w hk, zd_w ho, zw_g (zdW_at hk), zw_g (zdW_at ho), ea, eb, zq_Desk_tryDrag, zd_c, E1 F (by omega), zq_Desk_gatherWithDialogs, E2 F (by omega)]
  have SS := S0.trans S1
  generalize hL : ([(5, .int (nI b)), (4, .int (nI a)), (0, .ref 1), (1, .int (nI k)), (2, .int (nI o)), (3, .int (nI sd))] : zi_Lc) = L at SS
  have nl : zi_nl L = true := by rw [← hL]; rfl
  have g0 : zi_get L 0 = some (.ref 1) := by rw [← hL]; rfl
  have g1 : zi_get L 1 = some (.int (nI k)) := by rw [← hL]; rfl
  have g4 : zi_get L 4 = some (.int (nI a)) := by rw [← hL]; rfl
  have g5 : zi_get L 5 = some (.int (nI b)) := by rw [← hL]; rfl
  clear hL
  obtain ⟨l7, c7⟩ := zt_c (μ := ν2) zd7_at
  have refuse : (zt_fit ν1 7 (zdZ b) R2 t2 = false ∨ (¬ a = b ∧ zl_al (zd_gwf μ (zd_grp μ k) (zdZ b)) 10 = false)) → ze_G (D + 15) 6 (some .int) zc_X5_drag 97 L [] (zm_mk ν2) (some (.int (-1000000002))) (zm_mk ν2) → ∃ ν r, ze_E (D + 16) A_Desk_drag [.ref 1, .int (nI k), .int (nI o), .int (nI sd)] (zm_mk μ) (some (.int r)) (zm_mk ν) ∧ zd_drgp μ ν (nI k) (nI o) (nI sd) r := fun hc G =>
    ⟨ν2, -1000000002, ze_in [(0, .ref 1), (1, .int (nI k)), (2, .int (nI o)), (3, .int (nI sd))] zq_Desk_drag (Nat.le_of_ble_eq_true rfl) rfl (SS.end G), Or.inl ⟨zd_pls.p ⟨fun k hk => o2 _ (by unfold zt_out zdW; omega) (by unfold zdW; omega), fun p hp a ha => o2 _ (by unfold zt_out zdP; omega) (by unfold zdP; omega)⟩, by decide⟩⟩
  cases hfit : zt_fit ν1 7 (zdZ b) R2 t2 with
  | false =>
    rw [hfit, if_neg (by decide)] at E3
    refine refuse (Or.inl hfit) ⟨N3, 11, fun F n hF => ?_⟩
    simp (maxDischargeDepth := 9) [zi_go, zf_X5_drag, zi_ask, zi_new, zi_step, zi_ld, zi_lda, zi_cmp, zi_retOk, zi_isI, zi_f3, zi_cr, zi_ci, zi_cn, zi_get_ne, zi_nl_i, zi_nl_r, zi_get_set_eq, nl, g0, g5, zd_g, zd_s hb, zdS_g hb, zq_Tree_fits, c7, E3 F (by omega), n2]
  | true =>
    rw [hfit, if_pos rfl] at E3
    have accept : (a = b ∨ zl_al (zd_gwf μ (zd_grp μ k) (zdZ b)) 10 = true) → ze_S (D + 15) 6 (some .int) zc_X5_drag 97 L [] (zm_mk ν2) 136 L [] (zm_mk ν2) → ∃ ν r, ze_E (D + 16) A_Desk_drag [.ref 1, .int (nI k), .int (nI o), .int (nI sd)] (zm_mk μ) (some (.int r)) (zm_mk ν) ∧ zd_drgp μ ν (nI k) (nI o) (nI sd) r := by
      intro hab S2
      obtain ⟨ν3, ⟨N5, E5⟩, k3, f3⟩ := ze_forgetKeptWith (μ := ν2) (D + 12) hk
      have hhas : ∀ q, q < 3 → zd_has ν2 q k = zd_has μ q k := fun q hq => by
        unfold zd_has
        rw [ev2 _ (zJn_S hq).2.2.1, ev2 _ (zJn_S hq).2.2.2, ev2 _ (zJn_T hq (j := 3) (by decide)).2]
      have r3 : ∀ c, (∀ q, q < 3 → c ≠ zdK q) → ν3 c = ν2 c := fun c hc => funext fun d => f3 c d (fun q hq e => absurd e (hc q hq))
      have t3 : ∀ q, q < 3 → ∀ j, j < 24 → ν3 (zdT q + j) = μ (zdT q + j) := fun q hq j hj => by
        rw [r3 _ (fun q' hq' => by unfold zdT zdK; omega), o2 _ (by unfold zt_out zdT; omega) (by unfold zdT; omega)]
      have hIa : zt_I ν3 (zdT a) (Rs a) (ts a) := zt_same.I ⟨t3 a ha _ (by omega), t3 a ha _ (by omega), t3 a ha _ (by omega), t3 a ha _ (by omega), t3 a ha _ (by omega), t3 a ha _ (by omega), t3 a ha _ (by omega), t3 a ha _ (by omega), t3 a ha _ (by omega), t3 a ha _ (by omega), t3 a ha _ (by omega), by rw [show ν3 (zdT a) = μ (zdT a) from t3 a ha 0 (by omega)]⟩ (h.2.2.2.1 a ha).1.1
      obtain ⟨ν4, ⟨N6, E6⟩, O4, f4⟩ := ze_takeOutI (μ := μ) (Q := zdT a) (D + 11) (zdT_at ha) hIa ⟨t3 a ha _ (by omega), t3 a ha _ (by omega), t3 a ha _ (by omega), t3 a ha _ (by omega), t3 a ha _ (by omega), t3 a ha _ (by omega)⟩ hn hkR en
      have r4 : ∀ c, 7 ≤ c → c < 31 → ν4 c = ν1 c := fun c h1 h2 => by
        rw [f4 c (by unfold zt_out zdT; omega), r3 c (fun q hq => by unfold zdK; omega), f2 c (by omega)]
      have I4 : zt_I ν4 7 R2 t2 := (zt_C_congr (fun c h1 h2 => r4 c h1 (by omega)) C1).1
      obtain ⟨ν5, ⟨N7, E7⟩, C5, f5, l3, l5, l6, l7', l8, l12⟩ := ze_Tree_copyFrom (μ := ν4) (D + 11) (zdT_at hb) zd7_at (by unfold zdT; omega) I4
      have cp5 : zt_isCopy ν1 7 ν5 (zdT b) := ⟨l3.trans (r4 _ (by omega) (by omega)), l5.trans (r4 _ (by omega) (by omega)), l6.trans (r4 _ (by omega) (by omega)), l7'.trans (r4 _ (by omega) (by omega)), l8.trans (r4 _ (by omega) (by omega)), l12.trans (r4 _ (by omega) (by omega))⟩
      -- frames so far
      have fr5 : ∀ c d, zt_out 7 c → c ≠ 31 → zt_out (zdT a) c → zt_out (zdT b) c → (∀ q, q < 3 → c = zdK q → d ≠ 3) → ν5 c d = μ c d := fun c d a1 a2 a3 a4 a5 => by
        rw [f5 c a4, f4 c a3, f3 c d a5, o2 c a1 a2]
      have fk5 : ∀ q, q < 3 → ν5 (zdK q) 3 = if zd_has μ q k = true then 0 else μ (zdK q) 3 := fun q hq => by
        rw [f5 _ (zJn_out hb (Or.inr (Or.inr (Or.inl ⟨q, hq, Or.inr (Or.inr (Or.inl rfl))⟩)))), f4 _ (zJn_out ha (Or.inr (Or.inr (Or.inl ⟨q, hq, Or.inr (Or.inr (Or.inl rfl))⟩)))), k3 q hq, ev2 _ (zJn_S hq).2.2.1]
        simp only [hhas q hq]
      have O5 : ¬ a = b → zt_isOut μ (zdT a) (Rs a) (ts a) n k ν5 (zdT a) := fun hne => by
        obtain ⟨p1, p2, p3, p4, p5, p6, p7⟩ := O4
        have r : ∀ j, j < 24 → ν5 (zdT a + j) = ν4 (zdT a + j) := fun j hj => f5 _ (by unfold zt_out zdT; omega)
        exact ⟨zt_C_congr (fun c h1 h2 => by have := r (c - zdT a) (by omega); rw [show zdT a + (c - zdT a) = c by omega] at this; exact this) p1, fun v => by rw [r 3 (by omega)]; exact p2 v, by rw [r 5 (by omega)]; exact p3, by rw [r 6 (by omega)]; exact p4, fun i hi => by rw [r 7 (by omega)]; exact p5 i hi, by rw [r 8 (by omega)]; exact p6, fun i => by rw [r 12 (by omega)]; exact p7 i⟩
      have gr5 : zd_gr ν5 (zd_grp μ k) := fun j hj => by
        rw [f5 _ (by unfold zt_out zdT; omega), f4 _ (by unfold zt_out zdT; omega), f3 31 j (fun q hq e => by unfold zdK at e; omega)]
        exact hg2 j hj
      have z5 : ν5 (zdZ b) = ν1 (zdZ b) := by
        funext d
        rw [fr5 _ _ (by unfold zt_out zdZ; omega) (by unfold zdZ; omega) (zJn_out ha (Or.inr (Or.inr (Or.inl ⟨b, hb, Or.inr (Or.inl rfl)⟩)))) (zJn_out hb (Or.inr (Or.inr (Or.inl ⟨b, hb, Or.inr (Or.inl rfl)⟩)))) (fun q hq e => by unfold zdZ zdK at e; omega), f1 _ (by unfold zt_out zdZ; omega)]
      obtain ⟨l3c, c3⟩ := zt_c (μ := ν3) (zdT_at ha)
      obtain ⟨l4c, c4⟩ := zt_c (μ := ν4) (zdT_at hb)
      have S3 : ze_S (D + 15) 6 (some .int) zc_X5_drag 136 L [] (zm_mk ν2) 172 L [] (zm_mk ν5) := by
        refine ⟨N5 + N6 + N7, 18, fun F m hF => ?_⟩
        simp (maxDischargeDepth := 9) [zi_go, zf_X5_drag, zi_ask, zi_new, zi_step, zi_ld, zi_lda, zi_cmp, zi_retOk, zi_isI, zi_f3, zi_cr, zi_ci, zi_cn, zi_get_ne, zi_nl_i, zi_nl_r, zi_get_set_eq, nl, g0, g1, g4, g5, zq_Desk_forgetKeptWith, zd_c, E5 F (by omega), zd_g, zd_s ha, zd_s hb, zdS_g ha, zdS_g hb, zq_Tree_takeOut, c3, E6 F (by omega), zq_Tree_copyFrom, c4, E7 F (by omega)]
      -- the dialogs
      have send : ∃ ν6, ze_S (D + 15) 6 (some .int) zc_X5_drag 172 L [] (zm_mk ν5) 185 L [] (zm_mk ν6) ∧ (∀ j, j < 10 → ν6 (zdW j) 5 = if ¬ a = b ∧ zd_grp μ k j = true then nI b else μ (zdW j) 5) ∧ (∀ c d, (∀ j, j < 10 → c = zdW j → d ≠ 5) → (∀ j, j < 10 → c ≠ zdW j + 2) → ν6 c d = ν5 c d) ∧ ∀ j, j < 10 → ∀ c, c < 2 → ν6 (zdW j + 2) c = if (!decide (a = b) && (zd_grp μ k j && zd_flo μ j)) = true then zx_cl μ j b c (μ (zdW j + 2) c) else μ (zdW j + 2) c := by
        have w5 : ∀ j, j < 10 → ν5 (zdW j) 5 = μ (zdW j) 5 := fun j hj => fr5 _ _ (by unfold zt_out zdW; omega) (by unfold zdW; omega) (zJn_out ha (Or.inr (Or.inl ⟨j, hj, Or.inl rfl⟩))) (zJn_out hb (Or.inr (Or.inl ⟨j, hj, Or.inl rfl⟩))) (fun q hq e => by unfold zdW zdK at e; omega)
        have pl5 : ∀ j, j < 10 → ν5 (zdW j + 2) = μ (zdW j + 2) := fun j hj => funext fun d => fr5 _ d (by unfold zt_out zdW; omega) (by unfold zdW; omega) (by unfold zt_out zdW zdT; omega) (by unfold zt_out zdW zdT; omega) (fun q hq e => by unfold zdW zdK at e; omega)
        have pw5 : ∀ j, j < 10 → ν5 (zdW j + 1) = μ (zdW j + 1) := fun j hj => funext fun d => fr5 _ d (by unfold zt_out zdW; omega) (by unfold zdW; omega) (by unfold zt_out zdW zdT; omega) (by unfold zt_out zdW zdT; omega) (fun q hq e => by unfold zdW zdK at e; omega)
        have pz5 : ν5 (zdZ b) = μ (zdZ b) := funext fun d => fr5 _ d (by unfold zt_out zdZ; omega) (by unfold zdZ; omega) (by unfold zt_out zdZ zdT; omega) (by unfold zt_out zdZ zdT; omega) (fun q hq e => by unfold zdZ zdK at e; omega)
        have pf5 : ∀ j, j < 10 → zd_flo ν5 j = zd_flo μ j := fun j hj => by
          have q : ν5 (zdW j) = μ (zdW j) := funext fun d => fr5 _ d (by unfold zt_out zdW; omega) (by unfold zdW; omega) (by unfold zt_out zdW zdT; omega) (by unfold zt_out zdW zdT; omega) (fun q hq e => by unfold zdW zdK at e; omega)
          unfold zd_flo
          rw [q]
        by_cases e : a = b
        · refine ⟨ν5, ⟨0, 3, fun F m hF => ?_⟩, fun j hj => by rw [if_neg (fun q => q.1 e)]; exact w5 j hj, fun _ _ _ _ => rfl, fun j hj c _ => by rw [if_neg (by simp [e]), pl5 j hj]⟩
          simp (maxDischargeDepth := 9) [zi_go, zf_X5_drag, zi_ask, zi_new, zi_step, zi_ld, zi_lda, zi_cmp, zi_retOk, zi_isI, zi_f3, zi_cr, zi_ci, zi_cn, zi_get_ne, zi_nl_i, zi_nl_r, zi_get_set_eq, nl, g4, g5, e]
        · have e' : ¬ nI a = nI b := fun q => e ((nI_eq (by omega) (by omega)).mp q)
          obtain ⟨ν6, ⟨N8, E8⟩, ⟨s1, s2⟩, sp⟩ := ze_sendGroup_p (μ := ν5) (D + 9) gr5 hb
          refine ⟨ν6, ⟨N8, 6, fun F m hF => ?_⟩, fun j hj => ?_, s2, fun j hj c hc => ?_⟩
          · simp (maxDischargeDepth := 9) [zi_go, zf_X5_drag, zi_ask, zi_new, zi_step, zi_ld, zi_lda, zi_cmp, zi_retOk, zi_isI, zi_f3, zi_cr, zi_ci, zi_cn, zi_get_ne, zi_nl_i, zi_nl_r, zi_get_set_eq, nl, g0, g4, g5, e', zq_Desk_sendGroup, zd_c, E8 F (by omega)]
          · rw [s1 j hj, w5 j hj]
            by_cases q : zd_grp μ k j = true
            · rw [if_pos q, if_pos ⟨e, q⟩]
            · rw [if_neg q, if_neg (fun z => q z.2)]
          · rw [sp j hj c hc, pf5 j hj]
            unfold zx_cl
            rw [pl5 j hj, pw5 j hj, pz5]
            have ee : (!decide (a = b) && (zd_grp μ k j && zd_flo μ j)) = (zd_grp μ k j && zd_flo μ j) := by simp [e]
            simp only [ee]
      obtain ⟨ν6, S4, w6, f6, p6⟩ := send
      have r6 : ∀ c, (∀ j, j < 10 → c ≠ zdW j) → (∀ j, j < 10 → c ≠ zdW j + 2) → ν6 c = ν5 c := fun c a1 a2 => funext fun d => f6 c d (fun j hj e => absurd e (a1 j hj)) a2
      have rT6 : ∀ q, q < 3 → ∀ j, ν6 (zdT q + j) = ν5 (zdT q + j) := fun q hq j => r6 _ (fun i hi => by unfold zdT zdW; omega) (fun i hi => by unfold zdT zdW; omega)
      have C6 : zt_C ν6 (zdT b) R2 t2 := zt_C_congr (fun c h1 h2 => r6 c (fun i hi => by unfold zdT at h1; unfold zdW; omega) (fun i hi => by unfold zdT at h1; unfold zdW; omega)) C5
      have cp6 : zt_isCopy ν1 7 ν6 (zdT b) := ⟨(rT6 b hb _).trans cp5.1, (rT6 b hb _).trans cp5.2.1, (rT6 b hb _).trans cp5.2.2.1, (rT6 b hb _).trans cp5.2.2.2.1, (rT6 b hb _).trans cp5.2.2.2.2.1, (rT6 b hb _).trans cp5.2.2.2.2.2⟩
      have fr6 : ∀ c d, ¬ zJ_irr c → zt_out (zdT a) c → zt_out (zdT b) c → (∀ q, q < 3 → c = zdK q → d ≠ 3) → (∀ j, j < 10 → c = zdW j → d ≠ 5) → ν6 c d = μ c d := fun c d a1 a2 a3 a4 a5 => by
        rw [f6 c d a5 (fun j hj e => a1 (by rw [e]; unfold zJ_irr zdW; omega))]
        exact fr5 c d (zJn_7 a1) (fun e => a1 (by rw [e]; unfold zJ_irr; omega)) a2 a3 a4
      have fk6 : ∀ q, q < 3 → ν6 (zdK q) 3 = if zd_has μ q k = true then 0 else μ (zdK q) 3 := fun q hq => by
        rw [r6 _ (fun i hi => by unfold zdK zdW; omega) (fun i hi => by unfold zdK zdW; omega)]
        exact fk5 q hq
      have O6 : ¬ a = b → zt_isOut μ (zdT a) (Rs a) (ts a) n k ν6 (zdT a) := fun hne => by
        obtain ⟨p1, p2, p3, p4, p5, p6, p7⟩ := O5 hne
        have r := rT6 a ha
        exact ⟨zt_C_congr (fun c h1 h2 => by have := r (c - zdT a); rw [show zdT a + (c - zdT a) = c by omega] at this; exact this) p1, fun v => by rw [r 3]; exact p2 v, by rw [r 5]; exact p3, by rw [r 6]; exact p4, fun i hi => by rw [r 7]; exact p5 i hi, by rw [r 8]; exact p6, fun i => by rw [r 12]; exact p7 i⟩
      have hJ6 := zJ_drag h hk ha hb hbt htk ea hn (G := zd_grp μ k) zd_grp_k (fun j hj q1 q2 => zd_grp_til h hj q1 q2) fr6 fk6 w6 O6 C6 hR2 (fun j hj => by rw [cp6.2.1, cp6.2.2.1]; exact h52 j hj) (by
        rw [zt_fit_copy (A := ν1) (T := 7) cp6 (by rw [r6 _ (fun i hi => by unfold zdZ zdW; omega) (fun i hi => by unfold zdZ zdW; omega)]; exact z5)]
        exact hfit)
      have htk6 : zd_th ν6 k = true := ((hJ6.1.2.2 k).mp ((h.1.2.2 k).mpr ⟨hk, decide_eq_true (of_decide_eq_true htk).1⟩)).2
      obtain ⟨ν7, stk', ⟨N9, E9⟩, hJ7, hf7⟩ := ze_giveFocusJ (μ := ν6) D hJ6 hk htk6
      refine ⟨ν7, 0, ze_in [(0, .ref 1), (1, .int (nI k)), (2, .int (nI o)), (3, .int (nI sd))] zq_Desk_drag (Nat.le_of_ble_eq_true rfl) rfl ((((SS.trans S2).trans S3).trans S4).end ⟨N9, 5, fun F m hF => ?_⟩), Or.inr ⟨k, o, sd, a, b, hd, ha, hb, ea, eb, rfl, fun p hp j hj c hc => ?_, hab, fun j hj c hc => ?_⟩⟩
      · simp (maxDischargeDepth := 9) [zi_go, zf_X5_drag, zi_ask, zi_new, zi_step, zi_ld, zi_lda, zi_cmp, zi_retOk, zi_isI, zi_f3, zi_cr, zi_ci, zi_cn, zi_get_ne, zi_nl_i, zi_nl_r, zi_get_set_eq, nl, g0, g1, zq_Desk_giveFocus, zd_c, E9 F (by omega)]
      · rw [hf7.1 _ _ (by unfold zdP; omega) (by unfold zdP; omega) (by unfold zdP; omega) (by unfold zdP; omega) (fun ⟨_, s, hs, _, e, _⟩ => by unfold zdP zdT at e; omega), r6 _ (fun i hi => by unfold zdP zdW; omega) (fun i hi => by unfold zdP zdW; omega), fr5 _ _ (by unfold zt_out zdP; omega) (by unfold zdP; omega) (by unfold zt_out zdP zdT; omega) (by unfold zt_out zdP zdT; omega) (fun q hq e => by unfold zdP zdK at e; omega)]
      · rw [hf7.1 _ _ (by unfold zdW; omega) (by unfold zdW; omega) (by unfold zdW; omega) (by unfold zdW; omega) (fun ⟨_, s, hs, _, e, _⟩ => by unfold zdW zdT at e; omega), p6 j hj c hc]
    by_cases e : a = b
    · have e' : nI a = nI b := by rw [e]
      refine accept (Or.inl e) ⟨N3, 12, fun F m hF => ?_⟩
      simp (maxDischargeDepth := 9) [zi_go, zf_X5_drag, zi_ask, zi_new, zi_step, zi_ld, zi_lda, zi_cmp, zi_retOk, zi_isI, zi_f3, zi_cr, zi_ci, zi_cn, zi_get_ne, zi_nl_i, zi_nl_r, zi_get_set_eq, nl, g0, g4, g5, zd_g, zd_s hb, zdS_g hb, zq_Tree_fits, c7, E3 F (by omega), e]
    · have e' : ¬ nI a = nI b := fun q => e ((nI_eq (by omega) (by omega)).mp q)
      cases hgw : zl_al (zd_gwf μ (zd_grp μ k) (zdZ b)) 10 with
      | false =>
        rw [hgw, if_neg (by decide)] at E4
        refine refuse (Or.inr ⟨e, hgw⟩) ⟨N3 + N4, 18, fun F n hF => ?_⟩
        simp (maxDischargeDepth := 9) [zi_go, zf_X5_drag, zi_ask, zi_new, zi_step, zi_ld, zi_lda, zi_cmp, zi_retOk, zi_isI, zi_f3, zi_cr, zi_ci, zi_cn, zi_get_ne, zi_nl_i, zi_nl_r, zi_get_set_eq, nl, g0, g4, g5, zd_g, zd_s hb, zdS_g hb, zq_Tree_fits, c7, E3 F (by omega), e', zq_Desk_groupCanBeWhole, zd_c, E4 F (by omega), n2]
      | true =>
        rw [hgw, if_pos rfl] at E4
        refine accept (Or.inr hgw) ⟨N3 + N4, 16, fun F n hF => ?_⟩
        simp (maxDischargeDepth := 9) [zi_go, zf_X5_drag, zi_ask, zi_new, zi_step, zi_ld, zi_lda, zi_cmp, zi_retOk, zi_isI, zi_f3, zi_cr, zi_ci, zi_cn, zi_get_ne, zi_nl_i, zi_nl_r, zi_get_set_eq, nl, g0, g4, g5, zd_g, zd_s hb, zdS_g hb, zq_Tree_fits, c7, E3 F (by omega), e', zq_Desk_groupCanBeWhole, zd_c, E4 F (by omega)]
def zd_movp (μ ν : zm_M) (w x y v : Int32) : Prop :=
  (zd_plc μ ν ∧ v < 0) ∨ ∃ k, k < 10 ∧ w = nI k ∧ zd_flo μ k = true ∧ v = 0 ∧ zd_kpp μ ν ∧ (∀ j, j < 10 → j ≠ k → ∀ a, a < 2 → ν (zdW j + 2) a = μ (zdW j + 2) a) ∧
    ((μ (zdW k) 3 = 4 ∧ ν (zdW k + 2) 0 = zi_bt 0 x 400 ∧ ν (zdW k + 2) 1 = zi_bt 0 y 400) ∨ (¬ μ (zdW k) 3 = 4 ∧ ∃ s, s < 3 ∧ μ (zdW k) 5 = nI s ∧ ν (zdW k + 2) 0 = zx_cl μ k s 0 x ∧ ν (zdW k + 2) 1 = zx_cl μ k s 1 y))
set_option maxRecDepth 100000 in
theorem ze_move_p (D : Nat) (h : zJ μ row stk Rs ts) (w x y : Int32) : ∃ ν v, ze_E (D + 5) A_Desk_move [.ref 1, .int w, .int x, .int y] (zm_mk μ) (some (.int v)) (zm_mk ν) ∧ zd_movp μ ν w x y v := by
  have n4 : Int32.ofInt (-1000000001) = -1000000001 := by decide
  have n2 : Int32.ofInt (-1000000002) = -1000000002 := by decide
  have h400 : (Int16.ofInt 400).toInt32 = (400 : Int32) := by decide
  have hno : ze_E (D + 4) A_Desk_isWindow [.ref 1, .int w] (zm_mk μ) (some (.int 0)) (zm_mk μ) → (∀ k, k < 10 → w = nI k → ¬ zd_th μ k = true) → ∃ ν v, ze_E (D + 5) A_Desk_move [.ref 1, .int w, .int x, .int y] (zm_mk μ) (some (.int v)) (zm_mk ν) ∧ zd_movp μ ν w x y v := by
    rintro ⟨N1, E1⟩ hn
    refine ⟨μ, -1000000001, ze_in [(0, .ref 1), (1, .int w), (2, .int x), (3, .int y)] zq_Desk_move (Nat.le_of_ble_eq_true rfl) rfl ⟨N1, 6, fun F n hF => ?_⟩, Or.inl ⟨zd_plc.refl, by decide⟩⟩
    simp [zi_go, zf_X5_move, zi_ask, zi_new, zi_step, zi_ld, zi_lda, zi_cmp, zi_retOk, zi_isI, zi_f3, zi_cr, zi_ci, zi_cn, zi_get, zi_set, zq_Desk_isWindow, zd_c, E1 F (by omega), n4]
  rcases zd_rng w 10 (by decide) with ⟨k, hk, rfl⟩ | hout
  · have inj : ∀ k', k' < 10 → nI k = nI k' → k' = k := fun k' hk' e => ((nI_eq (by omega) (by omega)).mp e).symm
    have E1 := ze_thW (μ := μ) (D + 3) hk
    by_cases c1 : zd_th μ k = true
    · rw [if_pos c1] at E1
      obtain ⟨N1, E1⟩ := E1
      obtain ⟨N2, E2⟩ := ze_isPlace (h := zm_mk μ) (D + 3) x
      obtain ⟨N3, E3⟩ := ze_isPlace (h := zm_mk μ) (D + 3) y
      by_cases c2 : -1000 ≤ x ∧ x ≤ 1000
      · have z2 : zb (-1000 ≤ x ∧ x ≤ 1000) = 1 := if_pos c2
        rw [z2] at E2
        by_cases c3 : -1000 ≤ y ∧ y ≤ 1000
        · have z3 : zb (-1000 ≤ y ∧ y ≤ 1000) = 1 := if_pos c3
          rw [z3] at E3
          obtain ⟨N4, E4⟩ := ze_floW (μ := μ) (D + 3) hk
          have cw := zw_c (μ := μ) (zdW_at hk)
          by_cases c4 : zd_flo μ k = true
          · rw [if_pos c4] at E4
            obtain ⟨ξ, ⟨N5, E5⟩, hf⟩ := ze_forgetKeptWith (μ := μ) (D + 1) hk
            have hJ := h.fgt hf
            have ew : ξ (zdW k) = μ (zdW k) := funext fun b => hf.2 _ b (fun s hs e => by unfold zdW zdK at e; omega)
            obtain ⟨N6, E6⟩ := ze_stiW (μ := ξ) (D + 3) hk
            have cw' := zw_c (μ := ξ) (zdW_at hk)
            have w2 := (zdW_at hk).2.2
            have S0 : ze_S (D + 4) 5 (some .int) zc_X5_move 0 [(0, .ref 1), (1, .int (nI k)), (2, .int x), (3, .int y)] [] (zm_mk μ) 49 [(4, .ref (zdW k + 1)), (0, .ref 1), (1, .int (nI k)), (2, .int x), (3, .int y)] [] (zm_mk ξ) := by
              refine ⟨N1 + N2 + N3 + N4 + N5, 21, fun F n hF => ?_⟩
              simp [zi_go, zf_X5_move, zi_ask, zi_new, zi_step, zi_ld, zi_lda, zi_cmp, zi_retOk, zi_isI, zi_f3, zi_cr, zi_ci, zi_cn, zi_get, zi_set, zq_Desk_isWindow, zd_c, E1 F (by omega), zq_Desk_isPlace, E2 F (by omega), E3 F (by omega), zd_g, zd_w hk, zq_Win_isFloating, cw, E4 F (by omega), zq_Desk_forgetKeptWith, E5 F (by omega)]
            by_cases c5 : zd_sti ξ k = true
            · rw [if_pos c5] at E6
              obtain ⟨N7, E7⟩ := ze_between (h := zm_mk ξ) (D + 2) 0 x 400
              let ν1 := zm_up ξ (zdW k + 2) 0 (zi_bt 0 x 400)
              obtain ⟨N8, E8⟩ := ze_between (h := zm_mk ν1) (D + 2) 0 y 400
              have ev : zJ_eqv ξ (zm_up ν1 (zdW k + 2) 1 (zi_bt 0 y 400)) := zJ_eqv_W hk (fun c hc => by rw [zm_up_row hc]; exact zm_up_row hc)
              refine ⟨zm_up ν1 (zdW k + 2) 1 (zi_bt 0 y 400), 0, ze_in [(0, .ref 1), (1, .int (nI k)), (2, .int x), (3, .int y)] zq_Desk_move (Nat.le_of_ble_eq_true rfl) rfl (S0.end ⟨N6 + N7 + N8, 22, fun F n hF => ?_⟩), Or.inr ⟨k, hk, rfl, c4, rfl, fun p hp j hj a ha => (zm_up_ne (by unfold zdP zdW; omega)).trans ((zm_up_ne (by unfold zdP zdW; omega)).trans (hf.2 _ _ (fun s hs e => by unfold zdP zdK at e; omega))), fun j hj hne a ha => (zm_up_ne (by unfold zdW; omega)).trans ((zm_up_ne (by unfold zdW; omega)).trans (hf.2 _ _ (fun s hs e => by unfold zdW zdK at e; omega))), Or.inl ⟨by rw [← ew]; exact (of_decide_eq_true c5).2, (zm_up_ne (by omega)).trans zm_up_eq, zm_up_eq⟩⟩⟩
              have m1 : zm_up ξ (zdW k + 2) 0 (zi_bt 0 x 400) = ν1 := rfl
              simp [zi_go, zf_X5_move, zi_ask, zi_new, zi_step, zi_ld, zi_lda, zi_cmp, zi_retOk, zi_isI, zi_f3, zi_cr, zi_ci, zi_cn, zi_get, zi_set, zq_Win_isSticky, cw', E6 F (by omega), zw_g (zdW_at hk), h400, zq_Desk_between, E7 F (by omega), zm_iast w2 zm_in0, zm_iast w2 zm_in1, zm_cl0, zm_cl1, m1, E8 F (by omega)]
            · rw [if_neg c5] at E6
              have h4 : ¬ ξ (zdW k) 3 = 4 := fun e => c5 (decide_eq_true ⟨by rw [ew]; exact (of_decide_eq_true c1), e⟩)
              obtain ⟨-, -, a3, -, -⟩ := h.2.2.1 k hk c1
              obtain ⟨s, hs, es, -⟩ := a3 (by rw [← ew]; exact h4)
              have es' : ξ (zdW k) 5 = nI s := by rw [ew]; exact es
              obtain ⟨N7, E7⟩ := ze_putAt (μ := ξ) D (zdW_at hk) (zdZ_A hs) (by unfold zdZ zdW; omega) x y
              have ev : zJ_eqv ξ (zw_put ξ (zdW k) (zdZ s) x y) := zJ_eqv_W hk (fun c hc => by unfold zw_put; rw [zm_up_row hc, zm_up_row hc])
              refine ⟨zw_put ξ (zdW k) (zdZ s) x y, 0, ze_in [(0, .ref 1), (1, .int (nI k)), (2, .int x), (3, .int y)] zq_Desk_move (Nat.le_of_ble_eq_true rfl) rfl (S0.end ⟨N6 + N7, 15, fun F n hF => ?_⟩), Or.inr ⟨k, hk, rfl, c4, rfl, fun p hp j hj a ha => (zm_up_ne (by unfold zdP zdW; omega)).trans ((zm_up_ne (by unfold zdP zdW; omega)).trans (hf.2 _ _ (fun s hs e => by unfold zdP zdK at e; omega))), fun j hj hne a ha => (zm_up_ne (by unfold zdW; omega)).trans ((zm_up_ne (by unfold zdW; omega)).trans (hf.2 _ _ (fun s hs e => by unfold zdW zdK at e; omega))), Or.inr ⟨by rw [← ew]; exact h4, s, hs, es, ?_, ?_⟩⟩⟩
              · simp [zi_go, zf_X5_move, zi_ask, zi_new, zi_step, zi_ld, zi_lda, zi_cmp, zi_retOk, zi_isI, zi_f3, zi_cr, zi_ci, zi_cn, zi_get, zi_set, zq_Win_isSticky, cw', E6 F (by omega), zw_g (zdW_at hk), zd_g, es', zd_s hs, zdS_g hs, zq_Win_putAt, E7 F (by omega)]
              · unfold zx_cl
                rw [← hf.2 (zdZ s) 0 (fun s hs e => by unfold zdZ zdK at e; omega), ← hf.2 (zdW k + 1) 0 (fun s hs e => by unfold zdW zdK at e; omega)]
                exact (zm_up_ne (by omega)).trans zm_up_eq
              · unfold zx_cl
                rw [← hf.2 (zdZ s) 1 (fun s hs e => by unfold zdZ zdK at e; omega), ← hf.2 (zdW k + 1) 1 (fun s hs e => by unfold zdW zdK at e; omega)]
                exact zm_up_eq
          · rw [if_neg c4] at E4
            refine ⟨μ, -1000000002, ze_in [(0, .ref 1), (1, .int (nI k)), (2, .int x), (3, .int y)] zq_Desk_move (Nat.le_of_ble_eq_true rfl) rfl ⟨N1 + N2 + N3 + N4, 20, fun F n hF => ?_⟩, Or.inl ⟨zd_plc.refl, by decide⟩⟩
            simp [zi_go, zf_X5_move, zi_ask, zi_new, zi_step, zi_ld, zi_lda, zi_cmp, zi_retOk, zi_isI, zi_f3, zi_cr, zi_ci, zi_cn, zi_get, zi_set, zq_Desk_isWindow, zd_c, E1 F (by omega), zq_Desk_isPlace, E2 F (by omega), E3 F (by omega), zd_g, zd_w hk, zq_Win_isFloating, cw, E4 F (by omega), n2]
        · have z3 : zb (-1000 ≤ y ∧ y ≤ 1000) = 0 := if_neg c3
          rw [z3] at E3
          refine ⟨μ, -1000000001, ze_in [(0, .ref 1), (1, .int (nI k)), (2, .int x), (3, .int y)] zq_Desk_move (Nat.le_of_ble_eq_true rfl) rfl ⟨N1 + N2 + N3, 12, fun F n hF => ?_⟩, Or.inl ⟨zd_plc.refl, by decide⟩⟩
          simp [zi_go, zf_X5_move, zi_ask, zi_new, zi_step, zi_ld, zi_lda, zi_cmp, zi_retOk, zi_isI, zi_f3, zi_cr, zi_ci, zi_cn, zi_get, zi_set, zq_Desk_isWindow, zd_c, E1 F (by omega), zq_Desk_isPlace, E2 F (by omega), E3 F (by omega), n4]
      · have z2 : zb (-1000 ≤ x ∧ x ≤ 1000) = 0 := if_neg c2
        rw [z2] at E2
        refine ⟨μ, -1000000001, ze_in [(0, .ref 1), (1, .int (nI k)), (2, .int x), (3, .int y)] zq_Desk_move (Nat.le_of_ble_eq_true rfl) rfl ⟨N1 + N2, 9, fun F n hF => ?_⟩, Or.inl ⟨zd_plc.refl, by decide⟩⟩
        simp [zi_go, zf_X5_move, zi_ask, zi_new, zi_step, zi_ld, zi_lda, zi_cmp, zi_retOk, zi_isI, zi_f3, zi_cr, zi_ci, zi_cn, zi_get, zi_set, zq_Desk_isWindow, zd_c, E1 F (by omega), zq_Desk_isPlace, E2 F (by omega), n4]
    · rw [if_neg c1] at E1
      exact hno E1 (fun k' hk' e => by rw [inj k' hk' e]; exact c1)
  · exact hno (ze_isWindow_out (D + 3) hout) (fun k hk e => by
      rw [e] at hout
      exact absurd hout (fun q => q.elim (nI_pos (by omega)) (nI_ge (b := 10) hk (by decide))))
def zx_fd (x : Int32) : Int32 := if 0 ≤ x ^^^ 2 then x / 2 else if x / 2 * 2 = x then x / 2 else x / 2 - 1
def zd_sto (ν : zm_M) (o a : Nat) : Int32 := if zd_til ν o = true then zt_so ν (zdT (ν (zdW o) 5).toNatClampNeg) a o else ν (zdW o + 2) a
def zd_lno (ν : zm_M) (o a : Nat) : Int32 := if zd_til ν o = true then zt_lo ν (zdT (ν (zdW o) 5).toNatClampNeg) a o else ν (zdW o + 1) a
set_option maxRecDepth 100000 in
theorem ze_floorDiv_v {h : zi_Hp} (D : Nat) (x : Int32) : ze_E (D + 1) A_Math_floorDiv [.int x, .int 2] h (some (.int (zx_fd x))) h := by
  unfold zx_fd
  have z : ¬ (2 : Int32) = 0 := by decide
  by_cases c1 : (0 : Int32) ≤ x ^^^ 2
  · rw [if_pos c1]
    refine ze_in [(0, .int x), (1, .int 2)] zq_Math_floorDiv (Nat.le_of_ble_eq_true rfl) rfl ⟨0, 10, fun F n hF => ?_⟩
    simp [zi_go, zf_J9_floorDiv_7cf53, zi_ask, zi_new, zi_step, zi_ld, zi_lda, zi_cmp, zi_retOk, zi_isI, zi_f3, zi_cr, zi_ci, zi_cn, zi_get, zi_set, z, c1]
  · rw [if_neg c1]
    by_cases c2 : x / 2 * 2 = x
    · rw [if_pos c2]
      refine ze_in [(0, .int x), (1, .int 2)] zq_Math_floorDiv (Nat.le_of_ble_eq_true rfl) rfl ⟨0, 15, fun F n hF => ?_⟩
      simp [zi_go, zf_J9_floorDiv_7cf53, zi_ask, zi_new, zi_step, zi_ld, zi_lda, zi_cmp, zi_retOk, zi_isI, zi_f3, zi_cr, zi_ci, zi_cn, zi_get, zi_set, z, c1, c2]
    · rw [if_neg c2]
      refine ze_in [(0, .int x), (1, .int 2)] zq_Math_floorDiv (Nat.le_of_ble_eq_true rfl) rfl (ze_S.end (p2 := 17) (L2 := [(2, .int (x / 2)), (0, .int x), (1, .int 2)]) (s2 := []) (h2 := h) ⟨0, 13, fun F n hF => ?_⟩ (ze_fd_3 (x / 2) x 2 h D))
      simp [zi_go, zf_J9_floorDiv_7cf53, zi_ask, zi_new, zi_step, zi_ld, zi_lda, zi_cmp, zi_retOk, zi_isI, zi_f3, zi_cr, zi_ci, zi_cn, zi_get, zi_set, z, c1, c2]
set_option maxRecDepth 100000 in
theorem ze_startOf_v (D : Nat) {k a : Nat} (hk : k < 10) (ha : a < 2) (hs : zd_scr μ k) : ze_E (D + 3) A_Desk_startOf [.ref 1, .int (nI k), .int (nI a)] (zm_mk μ) (some (.int (zd_sto μ k a))) (zm_mk μ) := by
  unfold zd_sto
  obtain ⟨N1, E1⟩ := ze_tilW (μ := μ) (D + 1) hk
  have cw := zw_c (μ := μ) (zdW_at hk)
  by_cases c : zd_til μ k = true
  · rw [if_pos c] at E1
    obtain ⟨s, R, t, hs3, h1, h2⟩ := hs c
    rw [if_pos c, h1, nI_clamp (show s < 2 ^ 31 by omega)]
    obtain ⟨N2, E2⟩ := ze_treeOf (μ := μ) (D + 1) hk hs3 h1
    obtain ⟨N3, E3⟩ := ze_Tree_startOf (μ := μ) D (zdT_at hs3) (zt_I_hm h2) hk ha
    obtain ⟨lt, ct⟩ := zt_c (μ := μ) (zdT_at hs3)
    refine ze_in [(0, .ref 1), (1, .int (nI k)), (2, .int (nI a))] zq_Desk_startOf (Nat.le_of_ble_eq_true rfl) rfl ⟨N1 + N2 + N3, 14, fun F n hF => ?_⟩
    simp [zi_go, zf_X5_startOf, zi_ask, zi_new, zi_step, zi_ld, zi_lda, zi_cmp, zi_retOk, zi_isI, zi_f3, zi_cr, zi_ci, zi_cn, zi_get, zi_set, zd_g, zd_w hk, zq_Win_isTiled, cw, E1 F (by omega), zq_Desk_treeOf, zd_c, E2 F (by omega), zq_Tree_startOf, ct, E3 F (by omega)]
  · rw [if_neg c] at E1
    have ia : zi_in (nI a) 2 = true := zm_in ha (by decide)
    rw [if_neg c]
    refine ze_in [(0, .ref 1), (1, .int (nI k)), (2, .int (nI a))] zq_Desk_startOf (Nat.le_of_ble_eq_true rfl) rfl ⟨N1, 14, fun F n hF => ?_⟩
    simp [zi_go, zf_X5_startOf, zi_ask, zi_new, zi_step, zi_ld, zi_lda, zi_cmp, zi_retOk, zi_isI, zi_f3, zi_cr, zi_ci, zi_cn, zi_get, zi_set, zd_g, zd_w hk, zq_Win_isTiled, cw, E1 F (by omega), zw_g (zdW_at hk), zm_iald (k := 0) (zdW_at hk).2.2 ia, nI_clamp (show a < 2 ^ 31 by omega)]
set_option maxRecDepth 100000 in
theorem ze_lengthOf_v (D : Nat) {k a : Nat} (hk : k < 10) (ha : a < 2) (hs : zd_scr μ k) : ze_E (D + 3) A_Desk_lengthOf [.ref 1, .int (nI k), .int (nI a)] (zm_mk μ) (some (.int (zd_lno μ k a))) (zm_mk μ) := by
  unfold zd_lno
  obtain ⟨N1, E1⟩ := ze_tilW (μ := μ) (D + 1) hk
  have cw := zw_c (μ := μ) (zdW_at hk)
  by_cases c : zd_til μ k = true
  · rw [if_pos c] at E1
    obtain ⟨s, R, t, hs3, h1, h2⟩ := hs c
    rw [if_pos c, h1, nI_clamp (show s < 2 ^ 31 by omega)]
    obtain ⟨N2, E2⟩ := ze_treeOf (μ := μ) (D + 1) hk hs3 h1
    obtain ⟨N3, E3⟩ := ze_Tree_lengthOf (μ := μ) D (zdT_at hs3) (zt_I_hm h2) hk ha
    obtain ⟨lt, ct⟩ := zt_c (μ := μ) (zdT_at hs3)
    refine ze_in [(0, .ref 1), (1, .int (nI k)), (2, .int (nI a))] zq_Desk_lengthOf (Nat.le_of_ble_eq_true rfl) rfl ⟨N1 + N2 + N3, 14, fun F n hF => ?_⟩
    simp [zi_go, zf_X5_lengthOf, zi_ask, zi_new, zi_step, zi_ld, zi_lda, zi_cmp, zi_retOk, zi_isI, zi_f3, zi_cr, zi_ci, zi_cn, zi_get, zi_set, zd_g, zd_w hk, zq_Win_isTiled, cw, E1 F (by omega), zq_Desk_treeOf, zd_c, E2 F (by omega), zq_Tree_lengthOf, ct, E3 F (by omega)]
  · rw [if_neg c] at E1
    have ia : zi_in (nI a) 2 = true := zm_in ha (by decide)
    rw [if_neg c]
    refine ze_in [(0, .ref 1), (1, .int (nI k)), (2, .int (nI a))] zq_Desk_lengthOf (Nat.le_of_ble_eq_true rfl) rfl ⟨N1, 14, fun F n hF => ?_⟩
    simp [zi_go, zf_X5_lengthOf, zi_ask, zi_new, zi_step, zi_ld, zi_lda, zi_cmp, zi_retOk, zi_isI, zi_f3, zi_cr, zi_ci, zi_cn, zi_get, zi_set, zd_g, zd_w hk, zq_Win_isTiled, cw, E1 F (by omega), zw_g (zdW_at hk), zm_iald (k := 0) (zdW_at hk).2.1 ia, nI_clamp (show a < 2 ^ 31 by omega)]
set_option maxRecDepth 100000 in
theorem ze_mid_1v (x y : Int32) (L : zi_Lc) (st : List Value) (h : zi_Hp) (D : Nat) : ze_S D 4 (some .int) zc_X5_middleOf 15 L (.int y :: .int x :: st) h 16 L (.int (x - y) :: st) h := by
  refine ⟨0, 1, fun F n hF => ?_⟩
  simp only [zi_go, zf_X5_middleOf, zi_ask, zi_new, zi_step]
set_option maxRecDepth 100000 in
theorem ze_middleOf_v (D : Nat) {k o a : Nat} (hk : k < 10) (ho : o < 10) (ha : a < 2) (eo : μ (zdW k) 4 = nI o) (hs : zd_scr μ o) : ze_E (D + 4) A_Desk_middleOf [.ref 1, .ref (zdW k + 1), .int (nI a)] (zm_mk μ) (some (.int (zd_sto μ o a + zx_fd (zd_lno μ o a - μ (zdW k + 1) a)))) (zm_mk μ) := by
  obtain ⟨N1, E1⟩ := ze_lengthOf_v (μ := μ) D ho ha hs
  obtain ⟨N2, E2⟩ := ze_startOf_v (μ := μ) D ho ha hs
  generalize zd_lno μ o a = v1 at E1 ⊢
  generalize zd_sto μ o a = v2 at E2 ⊢
  have ia : zi_in (nI a) 2 = true := zm_in ha (by decide)
  have ca : (nI a).toNatClampNeg = a := nI_clamp (by omega)
  have S2 := ze_mid_1v v1 (μ (zdW k + 1) a) [(0, .ref 1), (1, .ref (zdW k + 1)), (2, .int (nI a))] [] (zm_mk μ) (D + 3)
  generalize v1 - μ (zdW k + 1) a = v3 at S2 ⊢
  obtain ⟨N4, E4⟩ := ze_floorDiv_v (h := zm_mk μ) (D + 2) v3
  generalize zx_fd v3 = v4 at E4 ⊢
  refine ze_in [(0, .ref 1), (1, .ref (zdW k + 1)), (2, .int (nI a))] zq_Desk_middleOf (Nat.le_of_ble_eq_true rfl) rfl (ze_S.end (ze_S.trans (p2 := 15) (L2 := [(0, .ref 1), (1, .ref (zdW k + 1)), (2, .int (nI a))]) (s2 := [.int (μ (zdW k + 1) a), .int v1]) (h2 := zm_mk μ) ⟨N1, 9, fun F n hF => ?_⟩ S2) ⟨N2 + N4, 11, fun F n hF => ?_⟩)
  · simp [zi_go, zf_X5_middleOf, zi_ask, zi_new, zi_step, zi_ld, zi_lda, zi_cmp, zi_retOk, zi_isI, zi_f3, zi_cr, zi_ci, zi_cn, zi_get, zi_set, zw_g (zdW_at hk), eo, zq_Desk_lengthOf, zd_c, E1 F (by omega), zm_iald (k := 0) (zdW_at hk).2.1 ia, ca]
  · simp [zi_go, zf_X5_middleOf, zi_ask, zi_new, zi_step, zi_ld, zi_lda, zi_cmp, zi_retOk, zi_isI, zi_f3, zi_cr, zi_ci, zi_cn, zi_get, zi_set, zw_g (zdW_at hk), eo, zq_Desk_startOf, zd_c, E2 F (by omega), zq_Math_floorDiv, E4 F (by omega)]
set_option maxRecDepth 100000 in
theorem ze_findRoom_4p (D : Nat) {k : Nat} (hk : k < 10) (s : Int32) (hkd : μ (zdW k) 3 = 4) : ∃ ν, ze_E (D + 1) A_Desk_findRoom [.ref 1, .int (nI k), .int s] (zm_mk μ) (some (.int 1)) (zm_mk ν) ∧ (∀ c, c ≠ zdW k + 2 → ν c = μ c) ∧ ν (zdW k + 2) 0 = 10 * nI k ∧ ν (zdW k + 2) 1 = 10 * nI k := by
  have h10 : (Int8.ofInt 10).toInt32 = (10 : Int32) := by decide
  have c1 : ¬ (4 : Int32) = 1 := by decide
  refine ⟨zm_up (zm_up μ (zdW k + 2) 0 (10 * nI k)) (zdW k + 2) 1 (10 * nI k), ze_in [(0, .ref 1), (1, .int (nI k)), (2, .int s)] zq_Desk_findRoom (Nat.le_of_ble_eq_true rfl) rfl ⟨0, 29, fun F n hF => ?_⟩, fun c hc => by rw [zm_up_row hc, zm_up_row hc], by rw [zm_up_ne (by omega), zm_up_eq], zm_up_eq⟩
  have w2 := (zdW_at hk).2.2
  generalize hm : 10 * nI k = m
  simp [zi_go, zf_X5_findRoom, zi_ask, zi_new, zi_step, zi_ld, zi_lda, zi_cmp, zi_retOk, zi_isI, zi_f3, zi_cr, zi_ci, zi_cn, zi_get, zi_set, zd_g, zd_w hk, zw_g (zdW_at hk), hkd, c1, h10, hm, zm_iast w2 zm_in0, zm_iast w2 zm_in1, zm_cl0, zm_cl1]
set_option maxRecDepth 100000 in
theorem ze_findRoom_23p (D : Nat) {k s : Nat} (hk : k < 10) (hs : s < 3) (h1 : ¬ μ (zdW k) 3 = 1) (h4 : ¬ μ (zdW k) 3 = 4) (hw : zd_whole μ (zdZ s) k = true) (ho : μ (zdW k) 3 = 3 → ∃ o, o < 10 ∧ o ≠ k ∧ μ (zdW k) 4 = nI o ∧ zd_scr μ o) :
    ∃ ν, ze_E (D + 5) A_Desk_findRoom [.ref 1, .int (nI k), .int (nI s)] (zm_mk μ) (some (.int 1)) (zm_mk ν) ∧ ν (zdW k) 5 = nI s ∧ (∀ c b, ¬ (c = zdW k ∧ b = 5) → c ≠ zdW k + 2 → ν c b = μ c b) ∧ ∃ x y, ν (zdW k + 2) 0 = zx_cl μ k s 0 x ∧ ν (zdW k + 2) 1 = zx_cl μ k s 1 y ∧ ((¬ μ (zdW k) 3 = 3 ∧ x = 10 * nI k ∧ y = 10 * nI k) ∨ (μ (zdW k) 3 = 3 ∧ ∃ o, o < 10 ∧ o ≠ k ∧ μ (zdW k) 4 = nI o ∧ x = zd_sto μ o 0 + zx_fd (zd_lno μ o 0 - μ (zdW k + 1) 0) ∧ y = zd_sto μ o 1 + zx_fd (zd_lno μ o 1 - μ (zdW k + 1) 1))) := by
  have h10 : (Int8.ofInt 10).toInt32 = (10 : Int32) := by decide
  obtain ⟨N1, E1⟩ := ze_wholeW (μ := μ) (D + 3) hk (zdZ_A hs)
  rw [hw, if_pos rfl] at E1
  have cw := zw_c (μ := μ) (zdW_at hk)
  let μ1 := zm_up μ (zdW k) 5 (nI s)
  have cw1 := zw_c (μ := μ1) (zdW_at hk)
  have e3 : μ1 (zdW k) 3 = μ (zdW k) 3 := zm_up_ne (by omega)
  have e4 : μ1 (zdW k) 4 = μ (zdW k) 4 := zm_up_ne (by omega)
  have S1 : ze_S (D + 4) 6 (some .boolean) zc_X5_findRoom 0 [(0, .ref 1), (1, .int (nI k)), (2, .int (nI s))] [] (zm_mk μ) 85 [(3, .ref (zdW k + 1)), (0, .ref 1), (1, .int (nI k)), (2, .int (nI s))] [] (zm_mk μ1) := by
    refine ⟨N1, 24, fun F n hF => ?_⟩
    have m1 : zm_up μ (zdW k) 5 (nI s) = μ1 := rfl
    simp [zi_go, zf_X5_findRoom, zi_ask, zi_new, zi_step, zi_ld, zi_lda, zi_cmp, zi_retOk, zi_isI, zi_f3, zi_cr, zi_ci, zi_cn, zi_get, zi_set, zd_g, zd_w hk, zw_g (zdW_at hk), h1, h4, zd_s hs, zdS_g hs, zq_Win_canBeWhole, cw, E1 F (by omega), zw_p5 (zdW_at hk), m1]
  have S2 : ∃ x y : Int32, ((¬ μ (zdW k) 3 = 3 ∧ x = 10 * nI k ∧ y = 10 * nI k) ∨ (μ (zdW k) 3 = 3 ∧ ∃ o, o < 10 ∧ o ≠ k ∧ μ (zdW k) 4 = nI o ∧ x = zd_sto μ o 0 + zx_fd (zd_lno μ o 0 - μ (zdW k + 1) 0) ∧ y = zd_sto μ o 1 + zx_fd (zd_lno μ o 1 - μ (zdW k + 1) 1))) ∧ ze_S (D + 4) 6 (some .boolean) zc_X5_findRoom 85 [(3, .ref (zdW k + 1)), (0, .ref 1), (1, .int (nI k)), (2, .int (nI s))] [] (zm_mk μ1) 131 [(5, .int y), (4, .int x), (3, .ref (zdW k + 1)), (0, .ref 1), (1, .int (nI k)), (2, .int (nI s))] [] (zm_mk μ1) := by
    by_cases c3 : μ (zdW k) 3 = 3
    · obtain ⟨o, ho1, ho2, ho3, ho4⟩ := ho c3
      have hsc : zd_scr μ1 o := by
        intro ht
        have ew : μ1 (zdW o) = μ (zdW o) := zm_up_row (fun e => ho2 (zdW_inj e))
        have ht' : zd_til μ o = true := by
          unfold zd_til at *
          rw [ew] at ht
          exact ht
        obtain ⟨q, R, t, q1, q2, q3⟩ := ho4 ht'
        refine ⟨q, R, t, q1, by rw [ew]; exact q2, ?_⟩
        have r : ∀ j, μ1 (zdT q + j) = μ (zdT q + j) := fun j => zm_up_row (by unfold zdT zdW; omega)
        exact zt_same.I ⟨r _, r _, r _, r _, r _, r _, r _, r _, r _, r _, r _, by rw [show μ1 (zdT q) = μ (zdT q) from r 0]⟩ q3
      obtain ⟨N2, E2⟩ := ze_middleOf_v (μ := μ1) D hk ho1 (a := 0) (by decide) (by rw [e4]; exact ho3) hsc
      obtain ⟨N3, E3⟩ := ze_middleOf_v (μ := μ1) D hk ho1 (a := 1) (by decide) (by rw [e4]; exact ho3) hsc
      have em : ∀ a, zd_sto μ1 o a = zd_sto μ o a ∧ zd_lno μ1 o a = zd_lno μ o a ∧ μ1 (zdW k + 1) a = μ (zdW k + 1) a := fun a => by
        have r1 : ∀ c, c ≠ zdW k → μ1 c = μ c := fun c hc => zm_up_row hc
        have ew : μ1 (zdW o) = μ (zdW o) := r1 _ (fun e => ho2 (zdW_inj e))
        have et : zd_til μ1 o = zd_til μ o := by unfold zd_til; rw [ew]
        refine ⟨?_, ?_, by rw [r1 _ (by omega)]⟩
        · unfold zd_sto zt_so
          rw [et, ew, r1 (zdW o + 2) (by unfold zdW; omega), r1 (zdT _ + 3) (by unfold zdT zdW; omega), r1 (zdT _ + 19 + a) (by unfold zdT zdW; omega)]
        · unfold zd_lno zt_lo
          rw [et, ew, r1 (zdW o + 1) (by unfold zdW; omega), r1 (zdT _ + 3) (by unfold zdT zdW; omega), r1 (zdT _ + 22 + a) (by unfold zdT zdW; omega)]
      rw [(em 0).1, (em 0).2.1, (em 0).2.2] at E2
      rw [(em 1).1, (em 1).2.1, (em 1).2.2] at E3
      generalize hx : zd_sto μ o 0 + zx_fd (zd_lno μ o 0 - μ (zdW k + 1) 0) = x at E2
      generalize hy : zd_sto μ o 1 + zx_fd (zd_lno μ o 1 - μ (zdW k + 1) 1) = y at E3
      refine ⟨x, y, Or.inr ⟨c3, o, ho1, ho2, ho3, hx.symm, hy.symm⟩, N2 + N3, 20, fun F n hF => ?_⟩
      have E2 := E2 F (by omega)
      have E3 := E3 F (by omega)
      rw [nI_0] at E2
      rw [show nI 1 = 1 by decide] at E3
      simp [zi_go, zf_X5_findRoom, zi_ask, zi_new, zi_step, zi_ld, zi_lda, zi_cmp, zi_retOk, zi_isI, zi_f3, zi_cr, zi_ci, zi_cn, zi_get, zi_set, zw_g (zdW_at hk), e3, c3, zq_Desk_middleOf, zd_c, E2, E3]
    · generalize hm : 10 * nI k = m
      refine ⟨m, m, Or.inl ⟨c3, rfl, rfl⟩, 0, 16, fun F n hF => ?_⟩
      simp [zi_go, zf_X5_findRoom, zi_ask, zi_new, zi_step, zi_ld, zi_lda, zi_cmp, zi_retOk, zi_isI, zi_f3, zi_cr, zi_ci, zi_cn, zi_get, zi_set, zw_g (zdW_at hk), e3, c3, h10, hm]
  obtain ⟨x, y, hxy, S2⟩ := S2
  obtain ⟨N4, E4⟩ := ze_putAt (μ := μ1) D (zdW_at hk) (zdZ_A hs) (by unfold zdZ zdW; omega) x y
  refine ⟨zw_put μ1 (zdW k) (zdZ s) x y, ze_in [(0, .ref 1), (1, .int (nI k)), (2, .int (nI s))] zq_Desk_findRoom (Nat.le_of_ble_eq_true rfl) rfl ((S1.trans S2).end ⟨N4, 11, fun F n hF => ?_⟩), ?_, fun c b q1 q2 => ?_, x, y, ?_, ?_, hxy⟩
  · simp [zi_go, zf_X5_findRoom, zi_ask, zi_new, zi_step, zi_ld, zi_lda, zi_cmp, zi_retOk, zi_isI, zi_f3, zi_cr, zi_ci, zi_cn, zi_get, zi_set, zd_g, zd_s hs, zdS_g hs, zq_Win_putAt, cw1, E4 F (by omega)]
  · unfold zw_put
    rw [zm_up_ne (by omega), zm_up_ne (by omega)]
    exact zm_up_eq
  · unfold zw_put
    rw [zm_up_row q2, zm_up_row q2]
    exact zm_up_ne q1
  · have z : μ1 (zdZ s) = μ (zdZ s) := zm_up_row (by unfold zdZ zdW; omega)
    have l : μ1 (zdW k + 1) = μ (zdW k + 1) := zm_up_row (by omega)
    unfold zx_cl zw_put
    rw [zm_up_ne (by omega), zm_up_eq, z, l]
  · have z : μ1 (zdZ s) = μ (zdZ s) := zm_up_row (by unfold zdZ zdW; omega)
    have l : μ1 (zdW k + 1) = μ (zdW k + 1) := zm_up_row (by omega)
    unfold zx_cl zw_put
    rw [zm_up_eq, z, l]
theorem zx_op2_lt {B : Prop} {r : Int32} (h : zx_op2 B r) : r < 0 := by
  rcases h with ⟨-, rfl⟩ | ⟨-, rfl⟩ <;> decide
def zd_opnp (μ ν : zm_M) (Rs : Nat → List Nat) (ts : Nat → zy_F) (kd w v o r : Int32) : Prop :=
  (zd_plc μ ν ∧ r < 0) ∨ ∃ k s, k < 10 ∧ s < 3 ∧ zd_th μ k = false ∧ r = nI k ∧ (¬ kd = 4 → ν (zdW k) 5 = nI s) ∧ zd_kpp μ ν ∧ (∀ j, j < 10 → j ≠ k → ∀ a, a < 2 → ν (zdW j + 2) a = μ (zdW j + 2) a) ∧
    (kd = 1 ∨ (kd = 4 ∧ ν (zdW k + 2) 0 = 10 * nI k ∧ ν (zdW k + 2) 1 = 10 * nI k) ∨ ((kd = 2 ∨ kd = 3) ∧ w ≤ μ (zdZ s) 0 ∧ v ≤ μ (zdZ s) 1 ∧ ∃ x y, ν (zdW k + 2) 0 = zi_bt 0 x (μ (zdZ s) 0 - w) ∧ ν (zdW k + 2) 1 = zi_bt 0 y (μ (zdZ s) 1 - v) ∧
      ((kd = 2 ∧ x = 10 * nI k ∧ y = 10 * nI k) ∨ (kd = 3 ∧ ∃ q ξ, q < 10 ∧ q ≠ k ∧ o = nI q ∧ (∀ c, ¬ zJ_irs c → c ≠ zdW k → c ≠ zdW k + 1 → ξ c = μ c) ∧ (∀ q, q < 3 → zd_laid ξ q (Rs q) (ts q)) ∧ x = zd_sto ξ q 0 + zx_fd (zd_lno ξ q 0 - w) ∧ y = zd_sto ξ q 1 + zx_fd (zd_lno ξ q 1 - v)))))
set_option maxRecDepth 100000 in
theorem ze_open_p (D : Nat) (h : zJ μ row stk Rs ts) (kd w v o : Int32) : ∃ ν r, ze_E (D + 16) A_Desk_open [.ref 1, .int kd, .int w, .int v, .int o] (zm_mk μ) (some (.int r)) (zm_mk ν) ∧ zd_opnp μ ν Rs ts kd w v o r := by
  rcases ze_open_0 (μ := μ) (D + 14) kd w v o with ⟨ha, S0⟩ | ⟨hna, G⟩
  rotate_left
  · exact ⟨μ, _, ze_in [(0, .ref 1), (1, .int kd), (2, .int w), (3, .int v), (4, .int o)] zq_Desk_open (Nat.le_of_ble_eq_true rfl) rfl G, Or.inl ⟨zd_plc.refl, by decide⟩⟩
  rcases ze_open_1_v (D + 13) h ha (L := [(5, .int 1), (0, .ref 1), (1, .int kd), (2, .int w), (3, .int v), (4, .int o)]) rfl rfl rfl rfl rfl rfl with ⟨hc, r, hr, G⟩ | ⟨k, s, L, hk, hs, hnt, hlt, eo, hst, S1, nl, g0, g1, g2, g3, g4, g6, g7⟩
  · exact ⟨μ, r, ze_in [(0, .ref 1), (1, .int kd), (2, .int w), (3, .int v), (4, .int o)] zq_Desk_open (Nat.le_of_ble_eq_true rfl) rfl (S0.end G), Or.inl ⟨zd_plc.refl, zx_op2_lt hr⟩⟩
  obtain ⟨ν1, ⟨N1, E1⟩, f1, hlaid⟩ := ze_layTrees (μ := μ) (D + 9) (fun s hs => (h.2.2.2.1 s hs).1)
  have ev1 := zd_frA_eqv f1
  obtain ⟨N2, E2⟩ := ze_prepare (μ := ν1) (D + 14) (zdW_at hk) kd w v o
  have p2 : ∀ c, c ≠ zdW k → c ≠ zdW k + 1 → zm_up (zm_up (zm_up (zm_up (zm_up ν1 (zdW k) 3 kd) (zdW k + 1) 0 w) (zdW k + 1) 1 v) (zdW k) 4 o) (zdW k) 5 (-1) c = ν1 c := fun c a1 a2 => by
    rw [zm_up_row a1, zm_up_row a1, zm_up_row a2, zm_up_row a2, zm_up_row a1]
  have q2 : zm_up (zm_up (zm_up (zm_up (zm_up ν1 (zdW k) 3 kd) (zdW k + 1) 0 w) (zdW k + 1) 1 v) (zdW k) 4 o) (zdW k) 5 (-1) (zdW k) 2 = ν1 (zdW k) 2 := by
    rw [zm_up_ne (by omega), zm_up_ne (by omega), zm_up_ne (by omega), zm_up_ne (by omega), zm_up_ne (by omega)]
  have q3 : zm_up (zm_up (zm_up (zm_up (zm_up ν1 (zdW k) 3 kd) (zdW k + 1) 0 w) (zdW k + 1) 1 v) (zdW k) 4 o) (zdW k) 5 (-1) (zdW k) 3 = kd := by
    rw [zm_up_ne (by omega), zm_up_ne (by omega), zm_up_ne (by omega), zm_up_ne (by omega), zm_up_eq]
  have q4 : zm_up (zm_up (zm_up (zm_up (zm_up ν1 (zdW k) 3 kd) (zdW k + 1) 0 w) (zdW k + 1) 1 v) (zdW k) 4 o) (zdW k) 5 (-1) (zdW k) 4 = o := by
    rw [zm_up_ne (by omega), zm_up_eq]
  have r0 : zm_up (zm_up (zm_up (zm_up (zm_up ν1 (zdW k) 3 kd) (zdW k + 1) 0 w) (zdW k + 1) 1 v) (zdW k) 4 o) (zdW k) 5 (-1) (zdW k + 1) 0 = w := by
    rw [zm_up_ne (by omega), zm_up_ne (by omega), zm_up_ne (by omega), zm_up_eq]
  have r1 : zm_up (zm_up (zm_up (zm_up (zm_up ν1 (zdW k) 3 kd) (zdW k + 1) 0 w) (zdW k + 1) 1 v) (zdW k) 4 o) (zdW k) 5 (-1) (zdW k + 1) 1 = v := by
    rw [zm_up_ne (by omega), zm_up_ne (by omega), zm_up_eq]
  have S2 : ze_S (D + 15) 8 (some .int) zc_X5_open 126 L [] (zm_mk μ) 145 L [] (zm_mk (zm_up (zm_up (zm_up (zm_up (zm_up ν1 (zdW k) 3 kd) (zdW k + 1) 0 w) (zdW k + 1) 1 v) (zdW k) 4 o) (zdW k) 5 (-1))) := by
    have cw := zw_c (μ := ν1) (zdW_at hk)
    refine ⟨N1 + N2, 11, fun F n hF => ?_⟩
    simp (maxDischargeDepth := 9) [zi_go, zf_X5_open, zi_ask, zi_new, zi_step, zi_ld, zi_lda, zi_cmp, zi_retOk, zi_isI, zi_f3, zi_cr, zi_ci, zi_cn, zi_get_ne, zi_nl_i, zi_nl_r, zi_get_set_eq, nl, g0, g1, g2, g3, g4, g6, zq_Desk_layTrees, zd_c, E1 F (by omega), zd_g, zd_w hk, zq_Win_prepare, cw, E2 F (by omega)]
  generalize zm_up (zm_up (zm_up (zm_up (zm_up ν1 (zdW k) 3 kd) (zdW k + 1) 0 w) (zdW k + 1) 1 v) (zdW k) 4 o) (zdW k) 5 (-1) = ν2 at p2 q2 q3 q4 r0 r1 S2
  clear E1 E2
  have f2 : ∀ c, ¬ zJ_irr c → c ≠ zdW k → c ≠ zdW k + 1 → ν2 c = μ c := fun c a1 a2 a3 => (p2 c a2 a3).trans (ev1 c a1)
  have w22 : ν2 (zdW k) 2 = μ (zdW k) 2 := by rw [q2, ev1 _ (zJn_W hk).1]
  have SS := (S0.trans S1).trans S2
  have fs : ∀ c, ¬ zJ_irs c → c ≠ zdW k → c ≠ zdW k + 1 → ν2 c = μ c := fun c a1 a2 a3 => (p2 c a2 a3).trans (zd_frA_eqs f1 c a1)
  have pW : ∀ j, j < 10 → ν2 (zdW j + 2) = μ (zdW j + 2) := fun j hj => fs _ (by unfold zJ_irs zdW; omega) (by unfold zdW; omega) (by unfold zdW; omega)
  have pP : ∀ q, q < 3 → ∀ a, a < 2 → ν2 (zdP q + 1 + a) = μ (zdP q + 1 + a) := fun q hq a ha => fs _ (by unfold zJ_irs zdP; omega) (by unfold zdP zdW; omega) (by unfold zdP zdW; omega)
  have laid_of : ∀ ξ : zm_M, (∀ c, c ≠ zdW k → c ≠ zdW k + 1 → ξ c = ν1 c) → ∀ q, q < 3 → zd_laid ξ q (Rs q) (ts q) := by
    intro ξ hξ q hq
    have := hlaid q hq
    have rT : ∀ j, ξ (zdT q + j) = ν1 (zdT q + j) := fun j => hξ _ (by unfold zdT zdW; omega) (by unfold zdT zdW; omega)
    have rZ : ξ (zdZ q) = ν1 (zdZ q) := hξ _ (by unfold zdZ zdW; omega) (by unfold zdZ zdW; omega)
    unfold zd_laid at *
    have eP : zt_P ξ (zdT q) = zt_P ν1 (zdT q) := by
      funext n x y a b
      unfold zt_P
      rw [rT, rT, rT, rT]
    rw [eP, rT, rT, rT, rT, rT, rZ]
    exact this
  have hsz : 1 ≤ w ∧ w ≤ 200 ∧ 1 ≤ v ∧ v ≤ 200 := ⟨ha.1.2.1.1, ha.1.2.1.2, ha.1.2.2⟩
  by_cases c1 : kd = 1
  · subst c1
    have ho : o = -1 := ha.2.2 (by decide)
    let ξ := zm_up ν2 (zdW k) 5 (nI s)
    have fξ : ∀ c, ¬ zJ_irr c → c ≠ zdW k → c ≠ zdW k + 1 → ξ c = μ c := fun c a1 a2 a3 => (zm_up_row a2).trans (f2 c a1 a2 a3)
    have ξ2 : ξ (zdW k) 2 = μ (zdW k) 2 := (zm_up_ne (by omega)).trans w22
    have ξ3 : ξ (zdW k) 3 = 1 := (zm_up_ne (by omega)).trans q3
    have ξ4 : ξ (zdW k) 4 = o := (zm_up_ne (by omega)).trans q4
    have ξ5 : ξ (zdW k) 5 = nI s := zm_up_eq
    have ξL : ξ (zdW k + 1) = ν2 (zdW k + 1) := zm_up_row (by omega)
    have hprep : zd_prep μ ξ Rs ts k 1 w v o := ⟨fξ, ξ2, ξ3, ξ4, by rw [ξL]; exact r0, by rw [ξL]; exact r1, laid_of ξ (fun c a1 a2 => (zm_up_row a1).trans (p2 c a1 a2))⟩
    have hJ : zJ ξ row stk Rs ts := zJ_free h hk hnt ξ2 fξ
    have hC := (hJ.2.2.2.1 s hs).1
    have hkR : k ∉ Rs s := fun q => by
      have := ((h.2.2.2.1 s hs).2.1 k).mp q
      have : zd_th μ k = true := decide_eq_true (of_decide_eq_true this.2.1).1
      rw [hnt] at this
      cases this
    have hrb : ∀ j ∈ row, j < 10 := fun j hj => ((h.1.2.2 j).mp hj).1
    have refuse : ∀ ν3 : zm_M, (∀ c, zt_out 7 c → ν3 c = ξ c) → ze_E (D + 15) A_Desk_findRoom [.ref 1, .int (nI k), .int (nI s)] (zm_mk ν2) (some (.int 0)) (zm_mk ν3) → zd_tld ξ ν3 s k row (Rs s) (ts s) 0 (Rs s) (ts s) → ∃ ν r, ze_E (D + 16) A_Desk_open [.ref 1, .int 1, .int w, .int v, .int o] (zm_mk μ) (some (.int r)) (zm_mk ν) ∧ zd_opnp μ ν Rs ts 1 w v o r := by
      intro ν3 fr E hT
      have f3 : ∀ c, ¬ zJ_irr c → c ≠ zdW k → c ≠ zdW k + 1 → ν3 c = μ c := fun c a1 a2 a3 => (fr c (zJn_7 a1)).trans (fξ c a1 a2 a3)
      have w3 : ν3 (zdW k) 2 = μ (zdW k) 2 := by rw [fr _ (by unfold zt_out zdW; omega)]; exact ξ2
      exact ⟨ν3, _, ze_in [(0, .ref 1), (1, .int 1), (2, .int w), (3, .int v), (4, .int o)] zq_Desk_open (Nat.le_of_ble_eq_true rfl) rfl (SS.end (ze_open_2 (kd := 1) (w := w) (v := v) (o := o) (D + 15) nl g0 g6 g7 E)), Or.inl ⟨zd_pls.p ⟨fun j hj => (fr _ (by unfold zt_out zdW; omega)).trans ((zm_up_row (by unfold zdW; omega)).trans (pW j hj)), fun q hq a ha => (fr _ (by unfold zt_out zdP; omega)).trans ((zm_up_row (by unfold zdP zdW; omega)).trans (pP q hq a ha))⟩, by decide⟩⟩
    have accept : ∀ (ν3 : zm_M) (R' : List Nat) (t' : zy_F), (∀ c, zt_out 7 c → zt_out (zdT s) c → ν3 c = ξ c) → ze_E (D + 15) A_Desk_findRoom [.ref 1, .int (nI k), .int (nI s)] (zm_mk ν2) (some (.int 1)) (zm_mk ν3) → zd_tld ξ ν3 s k row (Rs s) (ts s) 1 R' t' → zt_C ν3 (zdT s) R' t' → (∀ j, j ∈ R' ↔ (j ∈ Rs s ∨ j = k)) → (∀ u, ν3 (zdT s + 5) u = if u = k then ξ (zdW k + 1) 0 else ξ (zdT s + 5) u) → (∀ u, ν3 (zdT s + 6) u = if u = k then ξ (zdW k + 1) 1 else ξ (zdT s + 6) u) → zt_fit ν3 (zdT s) (zdZ s) R' t' = true → ∃ ν r, ze_E (D + 16) A_Desk_open [.ref 1, .int 1, .int w, .int v, .int o] (zm_mk μ) (some (.int r)) (zm_mk ν) ∧ zd_opnp μ ν Rs ts 1 w v o r := by
      intro ν3 R' t' fr E hT hC' hR' h5 h6 hfit
      obtain ⟨h0, hcame, hrows⟩ := zJ0_tiled h hk hs hnt hst hsz fξ ξ3 (ξ4.trans ho) ξ5 (by rw [ξL]; exact r0) (by rw [ξL]; exact r1) fr hC' hR' (fun j hj => ⟨by rw [h5, if_neg (fun (e : j = k) => hkR (e ▸ hj))], by rw [h6, if_neg (fun (e : j = k) => hkR (e ▸ hj))]⟩) ⟨by rw [h5, if_pos rfl, ξL]; exact r0, by rw [h6, if_pos rfl, ξL]; exact r1⟩ hfit
      obtain ⟨ν5, stk', E5, hJ5, hf5⟩ := ze_open_4 D h hk hs hnt hcame h0
      rw [← ho] at hcame
      have P := zd_pls.p (μ := μ) (ν := ν5) ⟨fun j hj => funext fun d => (hf5.1 _ d (by unfold zdW; omega) (by unfold zdW; omega) (by unfold zdW; omega) (by unfold zdW; omega) (fun ⟨_, s, hs, _, e, _⟩ => by unfold zdW zdT at e; omega)).trans (congrFun ((zm_up_row (by unfold zdW; omega)).trans ((fr _ (by unfold zt_out zdW; omega) (by unfold zt_out zdW zdT; omega)).trans ((zm_up_row (by unfold zdW; omega)).trans (pW j hj)))) d), fun q hq a ha => funext fun d => (hf5.1 _ d (by unfold zdP; omega) (by unfold zdP; omega) (by unfold zdP; omega) (by unfold zdP; omega) (fun ⟨_, s, hs, _, e, _⟩ => by unfold zdP zdT at e; omega)).trans (congrFun ((zm_up_row (by unfold zdP zdW; omega)).trans ((fr _ (by unfold zt_out zdP; omega) (by unfold zt_out zdP zdT; omega)).trans ((zm_up_row (by unfold zdP zdW; omega)).trans (pP q hq a ha)))) d)⟩
      have h5s : ν5 (zdW k) 5 = nI s := by
        rw [hf5.1 _ 5 (by unfold zdW; omega) (by unfold zdW; omega) (by unfold zdW; omega) (by unfold zdW; omega) (fun ⟨_, s, hs, _, e, _⟩ => by unfold zdW zdT at e; omega)]
        exact hcame.2.2.2.2.1 (by decide)
      exact ⟨ν5, _, ze_in [(0, .ref 1), (1, .int 1), (2, .int w), (3, .int v), (4, .int o)] zq_Desk_open (Nat.le_of_ble_eq_true rfl) rfl (SS.end (ze_open_3 (D + 15) hk nl g0 g6 g7 E E5)), Or.inr ⟨k, s, hk, hs, hnt, rfl, fun _ => h5s, P.2, fun j hj _ a ha => P.1 j hj a ha, Or.inl rfl⟩⟩
    rcases zd_lah_or hC.1 row hrb with ⟨et, -⟩ | ⟨n, hn, elah⟩
    · have hRn : Rs s = [] := zt_I_nil (μ := ξ) (T := zdT s) (by rw [← et]; exact hC.1)
      have hC0 : zt_C ξ (zdT s) [] .nil := by
        rw [← et, ← hRn]
        exact hC
      obtain ⟨ν3, b, E3, hT0, fr⟩ := ze_tile0 (μ := ξ) (D + 8) hk hs hJ.1.1 hrb hC0
      obtain ⟨ξ7, n, f7, hN, hcase⟩ := id hT0
      rcases hcase with ⟨hfit, rfl, hN'⟩ | ⟨hfit, rfl, fr'⟩
      · refine accept ν3 [k] (.tag n .nil) fr (ze_findRoom_1 (D + 14) hk hs q3 (Or.inr rfl) E3) (Or.inl ⟨et, hT0, fun _ => ⟨n, rfl, rfl, hN'⟩⟩) hN'.1 (fun j => ?_) hN'.2.2.2.1 hN'.2.2.2.2.1 ?_
        · rw [hRn]
          simp
        · rw [zt_fit_copy (A := ξ7) (T := 7) (zt_isNew_cp hN hN') (by rw [fr _ (by unfold zt_out zdZ; omega) (by unfold zt_out zdZ zdT; omega), f7 _ (by unfold zt_out zdZ; omega)])]
          exact hfit
      · exact refuse ν3 fr' (ze_findRoom_1 (D + 14) hk hs q3 (Or.inl rfl) E3) (Or.inl ⟨et, hT0, fun e => absurd e (by decide)⟩)
    · obtain ⟨ν3, b, E3, hTN, fr⟩ := ze_tileN (μ := ξ) (D + 8) hk hs hJ.1.1 hrb hC hkR hn elah
      have hz : ∀ ξ7 : zm_M, zt_frT 7 ξ ξ7 → ν3 (zdZ s) = ξ7 (zdZ s) := fun ξ7 f7 => by rw [fr _ (by unfold zt_out zdZ; omega) (by unfold zt_out zdZ zdT; omega), f7 _ (by unfold zt_out zdZ; omega)]
      have hmem : ∀ j, j ∈ Rs s ++ [k] ↔ (j ∈ Rs s ∨ j = k) := fun j => by simp
      obtain ⟨ξ1, c1, d1, g1', hK1, hcase⟩ := id hTN
      obtain ⟨a, ha2, ea⟩ : ∃ a, a < 2 ∧ (if ξ (zdT s + 23) n ≤ ξ (zdT s + 22) n then 0 else 1) = a := ⟨_, by split <;> omega, rfl⟩
      rw [ea] at hK1 hcase
      rcases hcase with ⟨hfit, rfl, hK'⟩ | ⟨hfit, ξ2', c2, d2, g2', hK2, hcase⟩
      · refine accept ν3 (Rs s ++ [k]) (zy_cut n c1 d1 (ts s)) fr (ze_findRoom_1 (D + 14) hk hs q3 (Or.inr rfl) E3) (Or.inr ⟨n, hn, elah, hTN, fun _ => ⟨rfl, Or.inl ⟨a, c1, d1, ha2, rfl, hK'⟩⟩⟩) hK'.1 hmem hK'.2.2.2.1 hK'.2.2.2.2.1 ?_
        rw [zt_fit_copy (A := ξ1) (T := 7) (zt_isCut_cp hK1 hK') (hz ξ1 g1')]
        exact hfit
      · rcases hcase with ⟨hfit2, rfl, hK'⟩ | ⟨hfit2, ξ3', g3', hK3, hcase⟩
        · refine accept ν3 (Rs s ++ [k]) (zy_cut n c2 d2 (ts s)) fr (ze_findRoom_1 (D + 14) hk hs q3 (Or.inr rfl) E3) (Or.inr ⟨n, hn, elah, hTN, fun _ => ⟨rfl, Or.inl ⟨1 - a, c2, d2, by omega, rfl, hK'⟩⟩⟩) hK'.1 hmem hK'.2.2.2.1 hK'.2.2.2.2.1 ?_
          rw [zt_fit_copy (A := ξ2') (T := 7) (zt_isCut_cp hK2 hK') (hz ξ2' g2')]
          exact hfit2
        · rcases hcase with ⟨hfit3, rfl, hK'⟩ | ⟨hfit3, rfl, fr'⟩
          · refine accept ν3 (Rs s ++ [k]) (ts s) fr (ze_findRoom_1 (D + 14) hk hs q3 (Or.inr rfl) E3) (Or.inr ⟨n, hn, elah, hTN, fun _ => ⟨rfl, Or.inr ⟨rfl, hK'⟩⟩⟩) hK'.1 hmem hK'.2.2.1 hK'.2.2.2.1 ?_
            rw [zt_fit_copy (A := ξ3') (T := 7) (zt_isTab_cp hK3 hK') (hz ξ3' g3')]
            exact hfit3
          · exact refuse ν3 fr' (ze_findRoom_1 (D + 14) hk hs q3 (Or.inl rfl) E3) (Or.inr ⟨n, hn, elah, hTN, fun e => absurd e (by decide)⟩)
  · have hkd : kd = 2 ∨ kd = 3 ∨ kd = 4 := by
      obtain ⟨⟨a1, a2⟩, -⟩ := ha.1
      have b1 := Int32.le_iff_toInt_le.mp a1
      have b2 := Int32.le_iff_toInt_le.mp a2
      rw [show (1 : Int32).toInt = 1 by decide] at b1
      rw [show (4 : Int32).toInt = 4 by decide] at b2
      have b3 : kd.toInt ≠ 1 := fun e => c1 (Int32.toInt_inj.mp (by rw [e]; decide))
      rcases (by omega : kd.toInt = 2 ∨ kd.toInt = 3 ∨ kd.toInt = 4) with e | e | e
      · exact Or.inl (Int32.toInt_inj.mp (by rw [e]; decide))
      · exact Or.inr (Or.inl (Int32.toInt_inj.mp (by rw [e]; decide)))
      · exact Or.inr (Or.inr (Int32.toInt_inj.mp (by rw [e]; decide)))
    have hprep : zd_prep μ ν2 Rs ts k kd w v o := ⟨f2, w22, q3, q4, r0, r1, laid_of ν2 p2⟩
    have accept : ∀ ν3 : zm_M, (∀ c b, ¬ (c = zdW k ∧ b = 5) → c ≠ zdW k + 2 → ν3 c b = ν2 c b) → (¬ kd = 4 → ν3 (zdW k) 5 = nI s) → ze_E (D + 15) A_Desk_findRoom [.ref 1, .int (nI k), .int (nI s)] (zm_mk ν2) (some (.int 1)) (zm_mk ν3) → ((kd = 4 ∧ ν3 (zdW k + 2) 0 = 10 * nI k ∧ ν3 (zdW k + 2) 1 = 10 * nI k) ∨ ((kd = 2 ∨ kd = 3) ∧ w ≤ μ (zdZ s) 0 ∧ v ≤ μ (zdZ s) 1 ∧ ∃ x y, ν3 (zdW k + 2) 0 = zi_bt 0 x (μ (zdZ s) 0 - w) ∧ ν3 (zdW k + 2) 1 = zi_bt 0 y (μ (zdZ s) 1 - v) ∧ ((kd = 2 ∧ x = 10 * nI k ∧ y = 10 * nI k) ∨ (kd = 3 ∧ ∃ q ξ, q < 10 ∧ q ≠ k ∧ o = nI q ∧ (∀ c, ¬ zJ_irs c → c ≠ zdW k → c ≠ zdW k + 1 → ξ c = μ c) ∧ (∀ q, q < 3 → zd_laid ξ q (Rs q) (ts q)) ∧ x = zd_sto ξ q 0 + zx_fd (zd_lno ξ q 0 - w) ∧ y = zd_sto ξ q 1 + zx_fd (zd_lno ξ q 1 - v))))) → (kd = 4 ∨ zd_whole ν2 (zdZ s) k = true) → ∃ ν r, ze_E (D + 16) A_Desk_open [.ref 1, .int kd, .int w, .int v, .int o] (zm_mk μ) (some (.int r)) (zm_mk ν) ∧ zd_opnp μ ν Rs ts kd w v o r := by
      intro ν3 fr h5 E hX hc
      have e1 : ν3 (zdW k + 1) = ν2 (zdW k + 1) := funext fun b => fr _ b (by omega) (by omega)
      have hcame : zd_came μ (zm_up ν3 (zdW k) 2 1) k s kd w v o := by
        refine ⟨fun c a1 a2 a3 _ => ?_, zm_up_eq, ?_, ?_, fun q => ?_, ?_, ?_⟩
        · rw [zm_up_row a2, ← f2 c a1 a2 a3]
          funext b
          exact fr c b (fun e => a2 e.1) (fun e => a1 (by unfold zJ_irr; rw [e]; unfold zdW; omega))
        · rw [zm_up_ne (by omega), fr _ _ (by omega) (by omega)]; exact q3
        · rw [zm_up_ne (by omega), fr _ _ (by omega) (by omega)]; exact q4
        · rw [zm_up_ne (by omega)]; exact h5 q
        · rw [zm_up_ne (by omega), e1]; exact r0
        · rw [zm_up_ne (by omega), e1]; exact r1
      obtain ⟨ν5, stk', E5, hJ5, hf5⟩ := ze_open_4 D h hk hs hnt hcame (zJ0_other h hk hs hnt hst hkd hsz ha.2.1 ha.2.2 hcame)
      have g5 : ∀ c b, (∃ j, j < 10 ∧ (c = zdW j ∨ c = zdW j + 2)) ∨ (∃ q a, q < 3 ∧ a < 2 ∧ c = zdP q + 1 + a) → ν5 c b = zm_up ν3 (zdW k) 2 1 c b := fun c b hc => hf5.1 c b (by unfold zdW zdP at hc; omega) (by unfold zdW zdP at hc; omega) (by unfold zdW zdP at hc; omega) (by unfold zdW zdP at hc; omega) (fun ⟨_, s, hs, _, e, _⟩ => by unfold zdT at e; unfold zdW zdP at hc; omega)
      have h5s : ¬ kd = 4 → ν5 (zdW k) 5 = nI s := fun q => by
        rw [g5 _ _ (Or.inl ⟨k, hk, Or.inl rfl⟩)]
        exact hcame.2.2.2.2.1 q
      have eX : ∀ a, ν5 (zdW k + 2) a = ν3 (zdW k + 2) a := fun a => by
        rw [g5 _ _ (Or.inl ⟨k, hk, Or.inr rfl⟩), zm_up_ne (by omega)]
      refine ⟨ν5, _, ze_in [(0, .ref 1), (1, .int kd), (2, .int w), (3, .int v), (4, .int o)] zq_Desk_open (Nat.le_of_ble_eq_true rfl) rfl (SS.end (ze_open_3 (D + 15) hk nl g0 g6 g7 E E5)), Or.inr ⟨k, s, hk, hs, hnt, rfl, h5s, fun q hq j hj a ha => ?_, fun j hj hne a ha => ?_, Or.inr (by rw [eX, eX]; exact hX)⟩⟩
      · rw [g5 _ _ (Or.inr ⟨q, a, hq, ha, rfl⟩), zm_up_ne (by unfold zdP zdW; omega), fr _ _ (by unfold zdP zdW; omega) (by unfold zdP zdW; omega), pP q hq a ha]
      · rw [g5 _ _ (Or.inl ⟨j, hj, Or.inr rfl⟩), zm_up_ne (by unfold zdW; omega), fr _ _ (by unfold zdW; omega) (by unfold zdW; omega), pW j hj]
    by_cases c4 : kd = 4
    · obtain ⟨ν3, E3, f3, x0, x1⟩ := ze_findRoom_4p (μ := ν2) (D + 14) hk (nI s) (q3.trans c4)
      exact accept ν3 (fun c b _ a2 => by rw [f3 c a2]) (fun q => absurd c4 q) E3 (Or.inl ⟨c4, x0, x1⟩) (Or.inl c4)
    · have n1 : ¬ ν2 (zdW k) 3 = 1 := by rw [q3]; exact c1
      have n4 : ¬ ν2 (zdW k) 3 = 4 := by rw [q3]; exact c4
      cases hw : zd_whole ν2 (zdZ s) k with
      | true =>
        have hJ2 : zJ ν2 row stk Rs ts := zJ_free h hk hnt w22 f2
        obtain ⟨ν3, E3, w5, f3, x, y, x0, x1, hxy⟩ := ze_findRoom_23p (μ := ν2) (D + 10) hk hs n1 n4 hw (fun e => by
          obtain ⟨j, hj, ej, hjt⟩ := ha.2.1 (by rw [← q3]; exact e)
          exact ⟨j, hj, fun e => (by rw [e, hnt] at hjt; cases hjt), (by rw [q4]; exact ej), zJ_scr hJ2 hj⟩)
        have z2 : ν2 (zdZ s) = μ (zdZ s) := fs _ (by unfold zJ_irs zdZ; omega) (by unfold zdZ zdW; omega) (by unfold zdZ zdW; omega)
        have hwh := of_decide_eq_true hw
        rw [r0, r1, z2] at hwh
        have k23 : kd = 2 ∨ kd = 3 := hkd.imp id (fun z => z.resolve_right c4)
        unfold zx_cl at x0 x1
        rw [z2, r0] at x0
        rw [z2, r1] at x1
        refine accept ν3 f3 (fun _ => w5) E3 (Or.inr ⟨k23, hwh.1, hwh.2, x, y, x0, x1, ?_⟩) (Or.inr hw)
        rw [q3, q4, r0, r1] at hxy
        rcases hxy with ⟨y1, y2, y3⟩ | ⟨y1, q, y2, y3, y4, y5, y6⟩
        · exact Or.inl ⟨k23.resolve_right y1, y2, y3⟩
        · exact Or.inr ⟨y1, q, ν2, y2, y3, y4, fs, laid_of ν2 p2, y5, y6⟩
      | false =>
        have E3 := ze_findRoom_no (μ := ν2) (D + 13) hk hs n1 n4 hw
        exact ⟨ν2, _, ze_in [(0, .ref 1), (1, .int kd), (2, .int w), (3, .int v), (4, .int o)] zq_Desk_open (Nat.le_of_ble_eq_true rfl) rfl (SS.end (ze_open_2 (kd := kd) (w := w) (v := v) (o := o) (D + 15) nl g0 g6 g7 E3)), Or.inl ⟨zd_pls.p ⟨pW, pP⟩, by decide⟩⟩
end ZYP
