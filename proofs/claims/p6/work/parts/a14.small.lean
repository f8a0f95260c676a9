/-! the reference: nearest, isFloating, canBeWhole, putAt, isOnScreen, freeNumber, forget -/
def zv_ne (v m : Int32) : Int32 := if v < 0 then 0 else if m < v then m else v
section ZVA
variable {μ : zm_M}
theorem zv_opq (a b : Int32) : ∃ c, a - b = c := ⟨_, rfl⟩
set_option maxRecDepth 100000 in
theorem ze_Mnearest {h : zi_Hp} (D : Nat) (v m : Int32) : ze_E (D + 1) A_Mod_nearest [.int v, .int m] h (some (.int (zv_ne v m))) h := by
  unfold zv_ne
  by_cases c1 : v < 0
  · have c1' : ¬ (0 : Int32) ≤ v := Int32.not_le.mpr c1
    rw [if_pos c1]
    refine ze_in [(0, .int v), (1, .int m)] zq_Mod_nearest (Nat.le_of_ble_eq_true rfl) rfl ⟨0, 5, fun F mm hF => ?_⟩
    simp [zg_0, zg_goto, zg_iconst, zg_ifCond, zg_if_icmp, zg_iload_n, zg_ireturn, zf_X6_nearest, zi_ld, zi_lda, zi_cmp, zi_retOk, zi_isI, zi_f3, zi_cr, zi_ci, zi_cn, zi_get, zi_set, c1, c1']
  · have c1' : (0 : Int32) ≤ v := Int32.not_lt.mp c1
    rw [if_neg c1]
    by_cases c2 : m < v
    · have c2' : ¬ v ≤ m := Int32.not_le.mpr c2
      rw [if_pos c2]
      refine ze_in [(0, .int v), (1, .int m)] zq_Mod_nearest (Nat.le_of_ble_eq_true rfl) rfl ⟨0, 8, fun F mm hF => ?_⟩
      simp [zg_0, zg_goto, zg_iconst, zg_ifCond, zg_if_icmp, zg_iload_n, zg_ireturn, zf_X6_nearest, zi_ld, zi_lda, zi_cmp, zi_retOk, zi_isI, zi_f3, zi_cr, zi_ci, zi_cn, zi_get, zi_set, c1, c1', c2, c2']
    · have c2' : v ≤ m := Int32.not_lt.mp c2
      rw [if_neg c2]
      refine ze_in [(0, .int v), (1, .int m)] zq_Mod_nearest (Nat.le_of_ble_eq_true rfl) rfl ⟨0, 7, fun F mm hF => ?_⟩
      simp [zg_0, zg_goto, zg_iconst, zg_ifCond, zg_if_icmp, zg_iload_n, zg_ireturn, zf_X6_nearest, zi_ld, zi_lda, zi_cmp, zi_retOk, zi_isI, zi_f3, zi_cr, zi_ci, zi_cn, zi_get, zi_set, c1, c1', c2, c2']
set_option maxRecDepth 100000 in
theorem ze_Mhalf {h : zi_Hp} (D : Nat) (v : Int32) : ∃ r, ze_E (D + 1) A_Mod_half [.int v] h (some (.int r)) h := by
  have h2 : ¬ (2 : Int32) = 0 := by decide
  by_cases c1 : v < 0
  · have c1' : ¬ (0 : Int32) ≤ v := Int32.not_le.mpr c1
    by_cases c2 : v - v / 2 * 2 = 0
    · refine ⟨v / 2, ze_in [(0, .int v)] zq_Mod_half (Nat.le_of_ble_eq_true rfl) rfl ⟨0, 10, fun F mm hF => ?_⟩⟩
      simp [zg_0, zg_goto, zg_iconst, zg_idiv, zg_ifCond, zg_iload_n, zg_irem, zg_ireturn, zg_isub, zf_X6_half, zi_ld, zi_lda, zi_cmp, zi_retOk, zi_isI, zi_f3, zi_cr, zi_ci, zi_cn, zi_get, zi_set, c1, c1', c2, h2]
    · obtain ⟨q, hq⟩ := zv_opq (v / 2) 1
      refine ⟨q, ze_in [(0, .int v)] zq_Mod_half (Nat.le_of_ble_eq_true rfl) rfl ⟨0, 13, fun F mm hF => ?_⟩⟩
      simp [zg_0, zg_goto, zg_iconst, zg_idiv, zg_ifCond, zg_iload_n, zg_irem, zg_ireturn, zg_isub, zf_X6_half, zi_ld, zi_lda, zi_cmp, zi_retOk, zi_isI, zi_f3, zi_cr, zi_ci, zi_cn, zi_get, zi_set, c1, c1', c2, h2, hq]
  · have c1' : (0 : Int32) ≤ v := Int32.not_lt.mp c1
    refine ⟨v / 2, ze_in [(0, .int v)] zq_Mod_half (Nat.le_of_ble_eq_true rfl) rfl ⟨0, 6, fun F mm hF => ?_⟩⟩
    simp [zg_0, zg_goto, zg_iconst, zg_idiv, zg_ifCond, zg_iload_n, zg_irem, zg_ireturn, zg_isub, zf_X6_half, zi_ld, zi_lda, zi_cmp, zi_retOk, zi_isI, zi_f3, zi_cr, zi_ci, zi_cn, zi_get, zi_set, c1, c1', h2]
set_option maxRecDepth 100000 in
theorem ze_MisFloating (D : Nat) {k : Nat} (hk : k < 10) : ze_E (D + 1) A_Mod_isFloating [.ref 232, .int (nI k)] (zm_mk μ) (some (.int (if 2 ≤ μ 234 k then 1 else 0))) (zm_mk μ) := by
  have ik : zi_in (nI k) 10 = true := zm_in hk (by decide)
  have ck : (nI k).toNatClampNeg = k := nI_clamp (by omega)
  by_cases c : 2 ≤ μ 234 k
  · have c' : ¬ μ 234 k < 2 := Int32.not_lt.mpr c
    rw [if_pos c]
    refine ze_in [(0, .ref 232), (1, .int (nI k))] zq_Mod_isFloating (Nat.le_of_ble_eq_true rfl) rfl ⟨0, 9, fun F m hF => ?_⟩
    simp [zg_0, zg_aload_n, zg_getfield, zg_goto, zg_iaload, zg_iconst, zg_if_icmp, zg_iload_n, zg_ireturn, zf_X6_isFloating, zi_ld, zi_lda, zi_cmp, zi_retOk, zi_isI, zi_f3, zi_cr, zi_ci, zi_cn, zi_get, zi_set, zM_g, zm_iald (k := 0) zM_A234 ik, ck, c, c']
  · have c' : μ 234 k < 2 := Int32.not_le.mp c
    rw [if_neg c]
    refine ze_in [(0, .ref 232), (1, .int (nI k))] zq_Mod_isFloating (Nat.le_of_ble_eq_true rfl) rfl ⟨0, 8, fun F m hF => ?_⟩
    simp [zg_0, zg_aload_n, zg_getfield, zg_goto, zg_iaload, zg_iconst, zg_if_icmp, zg_iload_n, zg_ireturn, zf_X6_isFloating, zi_ld, zi_lda, zi_cmp, zi_retOk, zi_isI, zi_f3, zi_cr, zi_ci, zi_cn, zi_get, zi_set, zM_g, zm_iald (k := 0) zM_A234 ik, ck, c, c']
set_option maxRecDepth 100000 in
theorem ze_McanBeWhole (D : Nat) {k : Nat} (hk : k < 10) (a b : Int32) : ze_E (D + 1) A_Mod_canBeWhole [.ref 232, .int (nI k), .int a, .int b] (zm_mk μ) (some (.int (if μ 235 k ≤ a ∧ μ 236 k ≤ b then 1 else 0))) (zm_mk μ) := by
  have ik : zi_in (nI k) 10 = true := zm_in hk (by decide)
  have ck : (nI k).toNatClampNeg = k := nI_clamp (by omega)
  by_cases c : μ 235 k ≤ a
  · have c' : ¬ a < μ 235 k := Int32.not_lt.mpr c
    by_cases d : μ 236 k ≤ b
    · have d' : ¬ b < μ 236 k := Int32.not_lt.mpr d
      rw [if_pos ⟨c, d⟩]
      refine ze_in [(0, .ref 232), (1, .int (nI k)), (2, .int a), (3, .int b)] zq_Mod_canBeWhole (Nat.le_of_ble_eq_true rfl) rfl ⟨0, 15, fun F m hF => ?_⟩
      simp [zg_0, zg_aload_n, zg_getfield, zg_goto, zg_iaload, zg_iconst, zg_if_icmp, zg_iload_n, zg_ireturn, zf_X6_canBeWhole, zi_ld, zi_lda, zi_cmp, zi_retOk, zi_isI, zi_f3, zi_cr, zi_ci, zi_cn, zi_get, zi_set, zM_g, zm_iald (k := 0) zM_A235 ik, zm_iald (k := 0) zM_A236 ik, ck, c, c', d, d']
    · have d' : b < μ 236 k := Int32.not_le.mp d
      rw [if_neg (fun e => d e.2)]
      refine ze_in [(0, .ref 232), (1, .int (nI k)), (2, .int a), (3, .int b)] zq_Mod_canBeWhole (Nat.le_of_ble_eq_true rfl) rfl ⟨0, 14, fun F m hF => ?_⟩
      simp [zg_0, zg_aload_n, zg_getfield, zg_goto, zg_iaload, zg_iconst, zg_if_icmp, zg_iload_n, zg_ireturn, zf_X6_canBeWhole, zi_ld, zi_lda, zi_cmp, zi_retOk, zi_isI, zi_f3, zi_cr, zi_ci, zi_cn, zi_get, zi_set, zM_g, zm_iald (k := 0) zM_A235 ik, zm_iald (k := 0) zM_A236 ik, ck, c, c', d, d']
  · have c' : a < μ 235 k := Int32.not_le.mp c
    rw [if_neg (fun e => c e.1)]
    refine ze_in [(0, .ref 232), (1, .int (nI k)), (2, .int a), (3, .int b)] zq_Mod_canBeWhole (Nat.le_of_ble_eq_true rfl) rfl ⟨0, 8, fun F m hF => ?_⟩
    simp [zg_0, zg_aload_n, zg_getfield, zg_goto, zg_iaload, zg_iconst, zg_if_icmp, zg_iload_n, zg_ireturn, zf_X6_canBeWhole, zi_ld, zi_lda, zi_cmp, zi_retOk, zi_isI, zi_f3, zi_cr, zi_ci, zi_cn, zi_get, zi_set, zM_g, zm_iald (k := 0) zM_A235 ik, ck, c, c']
/-- what putAt leaves: the home, and some place -/
def zv_put (μ : zm_M) (k s : Nat) (p q : Int32) : zm_M := zm_up (zm_up (zm_up μ 238 k (nI s)) 239 k p) 240 k q
set_option maxRecDepth 100000 in
theorem ze_MputAt (D : Nat) {k s : Nat} (hk : k < 10) (hs : s < 3) (px py : Int32) : ∃ p q, ze_E (D + 2) A_Mod_putAt [.ref 232, .int (nI k), .int (nI s), .int px, .int py] (zm_mk μ) none (zm_mk (zv_put μ k s p q)) ∧ p = zv_ne px (μ 232 s - μ 235 k) ∧ q = zv_ne py (μ 233 s - μ 236 k) := by
  have ik : zi_in (nI k) 10 = true := zm_in hk (by decide)
  have ck : (nI k).toNatClampNeg = k := nI_clamp (by omega)
  have is : zi_in (nI s) 3 = true := zm_in hs (by decide)
  have cs : (nI s).toNatClampNeg = s := nI_clamp (by omega)
  have v1 : zm_up μ 238 k (nI s) 232 s = μ 232 s := zm_up_ne (by omega)
  have v2 : zm_up μ 238 k (nI s) 235 k = μ 235 k := zm_up_ne (by omega)
  obtain ⟨d1, hd1⟩ := zv_opq (μ 232 s) (μ 235 k)
  obtain ⟨N1, E1⟩ := ze_Mnearest (h := zm_mk (zm_up μ 238 k (nI s))) D px d1
  generalize hp : zv_ne px d1 = p at E1
  have v3 : zm_up (zm_up μ 238 k (nI s)) 239 k p 233 s = μ 233 s := by rw [zm_up_ne (by omega), zm_up_ne (by omega)]
  have v4 : zm_up (zm_up μ 238 k (nI s)) 239 k p 236 k = μ 236 k := by rw [zm_up_ne (by omega), zm_up_ne (by omega)]
  obtain ⟨d2, hd2⟩ := zv_opq (μ 233 s) (μ 236 k)
  obtain ⟨N2, E2⟩ := ze_Mnearest (h := zm_mk (zm_up (zm_up μ 238 k (nI s)) 239 k p)) D py d2
  generalize hq : zv_ne py d2 = q at E2
  refine ⟨p, q, ze_in [(0, .ref 232), (1, .int (nI k)), (2, .int (nI s)), (3, .int px), (4, .int py)] zq_Mod_putAt (Nat.le_of_ble_eq_true rfl) rfl ⟨N1 + N2, 36, fun F m hF => ?_⟩, by rw [hd1, hp], by rw [hd2, hq]⟩
  simp [zg_0, zg_aload_n, zg_getfield, zg_iaload, zg_iastore, zg_iload, zg_iload_n, zg_invokestatic, zg_isub, zg_return, zf_X6_putAt, zi_ld, zi_lda, zi_cmp, zi_retOk, zi_isI, zi_f3, zi_cr, zi_ci, zi_cn, zi_get, zi_set, zM_g, zm_iast zM_A238 ik, ck, zm_iald (k := 0) zM_A232 is, zm_iald (k := 0) zM_A235 ik, zm_iald (k := 0) zM_A233 is, zm_iald (k := 0) zM_A236 ik, cs, v1, v2, v3, v4, hd1, hd2, zq_Mod_nearest, E1 F (by omega), E2 F (by omega), zm_iast zM_A239 ik, zm_iast zM_A240 ik]
  rfl
/-- is the window one of the screen's that are not tiled? -/
def zv_on (μ : zm_M) (k : Nat) (s : Int32) : Bool := decide (1 < μ 234 k ∧ ¬ μ 234 k = 4 ∧ μ 238 k = s)
set_option maxRecDepth 100000 in
theorem ze_MisOnScreen (D : Nat) {k : Nat} (hk : k < 10) (s : Int32) : ze_E (D + 1) A_Mod_isOnScreen [.ref 232, .int (nI k), .int s] (zm_mk μ) (some (.int (if zv_on μ k s = true then 1 else 0))) (zm_mk μ) := by
  have ik : zi_in (nI k) 10 = true := zm_in hk (by decide)
  have ck : (nI k).toNatClampNeg = k := nI_clamp (by omega)
  unfold zv_on
  by_cases c : 1 < μ 234 k
  · have c' : ¬ μ 234 k ≤ 1 := Int32.not_le.mpr c
    by_cases d : μ 234 k = 4
    · rw [if_neg (fun e => (of_decide_eq_true e).2.1 d)]
      refine ze_in [(0, .ref 232), (1, .int (nI k)), (2, .int s)] zq_Mod_isOnScreen (Nat.le_of_ble_eq_true rfl) rfl ⟨0, 14, fun F m hF => ?_⟩
      have c4 : ¬ (4 : Int32) ≤ 1 := by decide
      simp [zg_0, zg_aload_n, zg_getfield, zg_goto, zg_iaload, zg_iconst, zg_if_icmp, zg_iload_n, zg_ireturn, zf_X6_isOnScreen, zi_ld, zi_lda, zi_cmp, zi_retOk, zi_isI, zi_f3, zi_cr, zi_ci, zi_cn, zi_get, zi_set, zM_g, zm_iald (k := 0) zM_A234 ik, ck, d, c4]
    · by_cases e : μ 238 k = s
      · rw [if_pos (decide_eq_true ⟨c, d, e⟩)]
        refine ze_in [(0, .ref 232), (1, .int (nI k)), (2, .int s)] zq_Mod_isOnScreen (Nat.le_of_ble_eq_true rfl) rfl ⟨0, 21, fun F m hF => ?_⟩
        simp [zg_0, zg_aload_n, zg_getfield, zg_goto, zg_iaload, zg_iconst, zg_if_icmp, zg_iload_n, zg_ireturn, zf_X6_isOnScreen, zi_ld, zi_lda, zi_cmp, zi_retOk, zi_isI, zi_f3, zi_cr, zi_ci, zi_cn, zi_get, zi_set, zM_g, zm_iald (k := 0) zM_A234 ik, zm_iald (k := 0) zM_A238 ik, ck, c', d, e]
      · rw [if_neg (fun g => e (of_decide_eq_true g).2.2)]
        refine ze_in [(0, .ref 232), (1, .int (nI k)), (2, .int s)] zq_Mod_isOnScreen (Nat.le_of_ble_eq_true rfl) rfl ⟨0, 20, fun F m hF => ?_⟩
        simp [zg_0, zg_aload_n, zg_getfield, zg_goto, zg_iaload, zg_iconst, zg_if_icmp, zg_iload_n, zg_ireturn, zf_X6_isOnScreen, zi_ld, zi_lda, zi_cmp, zi_retOk, zi_isI, zi_f3, zi_cr, zi_ci, zi_cn, zi_get, zi_set, zM_g, zm_iald (k := 0) zM_A234 ik, zm_iald (k := 0) zM_A238 ik, ck, c', d, e]
  · have c' : μ 234 k ≤ 1 := Int32.not_lt.mp c
    rw [if_neg (fun g => c (of_decide_eq_true g).1)]
    refine ze_in [(0, .ref 232), (1, .int (nI k)), (2, .int s)] zq_Mod_isOnScreen (Nat.le_of_ble_eq_true rfl) rfl ⟨0, 8, fun F m hF => ?_⟩
    simp [zg_0, zg_aload_n, zg_getfield, zg_goto, zg_iaload, zg_iconst, zg_if_icmp, zg_iload_n, zg_ireturn, zf_X6_isOnScreen, zi_ld, zi_lda, zi_cmp, zi_retOk, zi_isI, zi_f3, zi_cr, zi_ci, zi_cn, zi_get, zi_set, zM_g, zm_iald (k := 0) zM_A234 ik, ck, c']
set_option maxRecDepth 100000 in
theorem ze_MfreeNumber (D : Nat) : ze_E (D + 1) A_Mod_freeNumber [.ref 232] (zm_mk μ) (some (.int (zl_fi (fun k => decide (μ 234 k = 0)) (-1) 10 0))) (zm_mk μ) := by
  have h10 : (Int8.ofInt 10).toInt32 = (10 : Int32) := by decide
  have key : ∃ r h', ze_G D 2 (some .int) zc_X6_freeNumber 2 [(1, .int (nI 0)), (0, .ref 232)] [] (zm_mk μ) r h' ∧ (r = some (.int (zl_fi (fun k => decide (μ 234 k = 0)) (-1) 10 0)) ∧ zm_mk μ = h') := by
    refine ze_loop (Q := fun i L hp => i ≤ 10 ∧ zi_nl L = true ∧ zi_get L 0 = some (.ref 232) ∧ zi_get L 1 = some (.int (nI i)) ∧ zm_mk μ = hp ∧ (zl_fi (fun k => decide (μ 234 k = 0)) (-1) 10 0 = zl_fi (fun k => decide (μ 234 k = 0)) (-1) (10 - i) i)) (R := fun r h' => r = some (.int (zl_fi (fun k => decide (μ 234 k = 0)) (-1) 10 0)) ∧ zm_mk μ = h') 10 ?_ ?_ 10 0 _ _ (by omega) ⟨by omega, rfl, rfl, rfl, rfl, rfl⟩
    · rintro i L _ hi ⟨-, nl, g0, g1, rfl, hq⟩
      have c1 : ¬ (10 : Int32) ≤ nI i := nI_ge (b := 10) hi (by decide)
      have ik : zi_in (nI i) 10 = true := zm_in hi (by decide)
      have ck : (nI i).toNatClampNeg = i := nI_clamp (by omega)
      rw [zl_fi_s hi] at hq
      by_cases c2 : μ 234 i = 0
      · rw [if_pos (decide_eq_true c2)] at hq
        right
        refine ⟨some (.int (nI i)), zm_mk μ, ⟨0, 10, fun F m hF => ?_⟩, by rw [hq], rfl⟩
        simp (maxDischargeDepth := 9) [zg_0, zg_aload_n, zg_bipush, zg_getfield, zg_goto, zg_iaload, zg_iconst, zg_ifCond, zg_if_icmp, zg_iinc, zg_iload_n, zg_ireturn, zg_istore_n, zf_X6_freeNumber, zi_ld, zi_lda, zi_cmp, zi_retOk, zi_isI, zi_f3, zi_cr, zi_ci, zi_cn, zi_get_ne, zi_nl_i, zi_nl_r, zi_get_set_eq, nl, g0, g1, h10, c1, zM_g, zm_iald (k := 0) zM_A234 ik, ck, c2, nI_1]
      · rw [if_neg (fun e => c2 (of_decide_eq_true e))] at hq
        left
        refine ⟨zi_set L 1 (.int (nI (i + 1))), zm_mk μ, ⟨0, 10, fun F m hF => ?_⟩, by omega, ?_, ?_, zi_get_set_eq, rfl, hq⟩
        · simp (maxDischargeDepth := 9) [zg_0, zg_aload_n, zg_bipush, zg_getfield, zg_goto, zg_iaload, zg_iconst, zg_ifCond, zg_if_icmp, zg_iinc, zg_iload_n, zg_ireturn, zg_istore_n, zf_X6_freeNumber, zi_ld, zi_lda, zi_cmp, zi_retOk, zi_isI, zi_f3, zi_cr, zi_ci, zi_cn, zi_get_ne, zi_nl_i, zi_nl_r, zi_get_set_eq, nl, g0, g1, h10, c1, zM_g, zm_iald (k := 0) zM_A234 ik, ck, c2, nI_1]
        · simp (maxDischargeDepth := 9) [zi_get_ne, zi_nl_i, zi_nl_r, zi_get_set_eq, nl]
        · simp (maxDischargeDepth := 9) [zi_get_ne, zi_nl_i, zi_nl_r, zi_get_set_eq, nl, g0]
    · rintro L _ ⟨-, nl, g0, g1, rfl, hq⟩
      have c1 : (10 : Int32) ≤ nI 10 := by decide
      have hq : zl_fi (fun k => decide (μ 234 k = 0)) (-1) 10 0 = -1 := hq
      rw [hq]
      refine ⟨_, zm_mk μ, ⟨0, 5, fun F m hF => ?_⟩, rfl, rfl⟩
      simp [zg_0, zg_aload_n, zg_bipush, zg_getfield, zg_goto, zg_iaload, zg_iconst, zg_ifCond, zg_if_icmp, zg_iinc, zg_iload_n, zg_ireturn, zg_istore_n, zf_X6_freeNumber, zi_ld, zi_lda, zi_cmp, zi_retOk, zi_isI, zi_f3, zi_cr, zi_ci, zi_cn, g0, g1, h10, c1]
  obtain ⟨r, h', G, rfl, rfl⟩ := key
  refine ze_in [(0, .ref 232)] zq_Mod_freeNumber (Nat.le_of_ble_eq_true rfl) rfl (ze_S.end ⟨0, 2, fun F m hF => ?_⟩ G)
  simp [zg_0, zg_aload_n, zg_bipush, zg_getfield, zg_goto, zg_iaload, zg_iconst, zg_ifCond, zg_if_icmp, zg_iinc, zg_iload_n, zg_ireturn, zg_istore_n, zf_X6_freeNumber, zi_ld, zi_lda, zi_cmp, zi_retOk, zi_isI, zi_f3, zi_cr, zi_ci, zi_cn, zi_get, zi_set, nI_0]
end ZVA
