/-! count: the same answer -/
theorem zl_ct_len {p : Nat → Bool} : ∀ (n : Nat) (l : List Nat), l.Nodup → (∀ k, k ∈ l ↔ k < n ∧ p k = true) → l.length = zl_ct p n
  | 0, l, _, h => by
    cases l with
    | nil => rfl
    | cons a l => exact absurd ((h a).mp List.mem_cons_self).1 (by omega)
  | n + 1, l, hd, h => by
    have es : zl_ct p (n + 1) = zl_ct p n + if p n then 1 else 0 := rfl
    by_cases c : p n = true
    · have hm : n ∈ l := (h n).mpr ⟨by omega, c⟩
      have := zl_ct_len n (l.erase n) (hd.erase n) (fun k => by
        rw [zl_er_mem hd, h k]
        constructor
        · rintro ⟨a, b, q⟩
          exact ⟨by omega, q⟩
        · rintro ⟨a, q⟩
          exact ⟨by omega, by omega, q⟩)
      rw [List.length_erase_of_mem hm] at this
      have := List.length_pos_of_mem hm
      rw [es, if_pos c]
      omega
    · have := zl_ct_len n l hd (fun k => by
        rw [h k]
        constructor
        · rintro ⟨a, q⟩
          refine ⟨Nat.lt_of_le_of_ne (by omega) (fun e => c ?_), q⟩
          rw [← e]; exact q
        · rintro ⟨a, q⟩
          exact ⟨by omega, q⟩)
      rw [es, if_neg c]
      exact this
theorem zl_ct_congr {p q : Nat → Bool} : ∀ n, (∀ k, k < n → p k = q k) → zl_ct p n = zl_ct q n
  | 0, _ => rfl
  | n + 1, h => by
    show zl_ct p n + (if p n then 1 else 0) = zl_ct q n + if q n then 1 else 0
    rw [zl_ct_congr n (fun k hk => h k (by omega)), h n (by omega)]
section ZXC
variable {μ : zm_M} {row stk : List Nat} {Rs : Nat → List Nat} {ts : Nat → zy_F}
def zd_und (μ : zm_M) (x : Int32) (k : Nat) : Bool := decide (¬ μ (zdW k) 2 = 0 ∧ (μ (zdW k) 3 = x ∨ x = 0 ∨ (x = 2 ∧ ¬ μ (zdW k) 3 = 1)))
set_option maxRecDepth 100000 in
theorem ze_windowsUnder_v (D : Nat) (x : Int32) : ze_E (D + 2) A_Desk_windowsUnder [.ref 1, .int x] (zm_mk μ) (some (.int (nI (zl_ct (zd_und μ x) 10)))) (zm_mk μ) := by
  have h10 : (Int8.ofInt 10).toInt32 = (10 : Int32) := by decide
  have key : ∃ r h', ze_G (D + 1) 4 (some .int) zc_X5_windowsUnder 4 [(3, .int (nI 0)), (2, .int (nI 0)), (0, .ref 1), (1, .int x)] [] (zm_mk μ) r h' ∧ (r = some (.int (nI (zl_ct (zd_und μ x) 10))) ∧ zm_mk μ = h') := by
    refine ze_loop (Q := fun i L hp => i ≤ 10 ∧ zi_nl L = true ∧ zi_get L 0 = some (.ref 1) ∧ zi_get L 1 = some (.int x) ∧ zi_get L 3 = some (.int (nI i)) ∧ zm_mk μ = hp ∧ (zi_get L 2 = some (.int (nI (zl_ct (zd_und μ x) i))))) (R := fun r h' => r = some (.int (nI (zl_ct (zd_und μ x) 10))) ∧ zm_mk μ = h') 10 ?_ ?_ 10 0 _ _ (by omega) ⟨by omega, rfl, rfl, rfl, rfl, rfl, rfl⟩
    · rintro i L _ hi ⟨-, nl, g0, g1, g3, rfl, hq⟩
      have c1 : ¬ (10 : Int32) ≤ nI i := nI_ge (b := 10) hi (by decide)
      obtain ⟨N1, E1⟩ := ze_fallsUnder (μ := μ) D (zdW_at hi) x
      have cw := zw_c (μ := μ) (zdW_at hi)
      have es : zl_ct (zd_und μ x) (i + 1) = zl_ct (zd_und μ x) i + if zd_und μ x i = true then 1 else 0 := rfl
      have ez : zb (¬ μ (zdW i) 2 = 0 ∧ (μ (zdW i) 3 = x ∨ x = 0 ∨ (x = 2 ∧ ¬ μ (zdW i) 3 = 1))) = if zd_und μ x i = true then 1 else 0 := zb_dec
      rw [ez] at E1
      by_cases c2 : zd_und μ x i = true
      · rw [if_pos c2] at es E1
        left
        refine ⟨zi_set (zi_set L 2 (.int (nI (zl_ct (zd_und μ x) i + 1)))) 3 (.int (nI (i + 1))), zm_mk μ, ⟨N1, 17, fun F m hF => ?_⟩, by omega, ?_, ?_, ?_, zi_get_set_eq, rfl, by rw [es]; simp (maxDischargeDepth := 9) [zi_get_ne, zi_nl_i, zi_nl_r, zi_get_set_eq, nl]⟩
        · simp (maxDischargeDepth := 9) [zg_0, zg_aaload, zg_aload_n, zg_bipush, zg_getfield, zg_goto, zg_iadd, zg_iconst, zg_ifCond, zg_if_icmp, zg_iinc, zg_iload_n, zg_invokevirtual, zg_ireturn, zg_istore_n, zf_X5_windowsUnder, zi_ld, zi_lda, zi_cmp, zi_retOk, zi_isI, zi_f3, zi_cr, zi_ci, zi_cn, zi_get_ne, zi_nl_i, zi_nl_r, zi_get_set_eq, nl, g0, g1, g3, h10, c1, zd_g, zd_w hi, zq_Win_fallsUnder, cw, E1 F (by omega), hq, nI_1]
        · simp (maxDischargeDepth := 9) [zi_get_ne, zi_nl_i, zi_nl_r, zi_get_set_eq, nl]
        · simp (maxDischargeDepth := 9) [zi_get_ne, zi_nl_i, zi_nl_r, zi_get_set_eq, nl, g0]
        · simp (maxDischargeDepth := 9) [zi_get_ne, zi_nl_i, zi_nl_r, zi_get_set_eq, nl, g1]
      · rw [if_neg c2] at es E1
        rw [Nat.add_zero] at es
        left
        refine ⟨zi_set (zi_set L 2 (.int (nI (zl_ct (zd_und μ x) i)))) 3 (.int (nI (i + 1))), zm_mk μ, ⟨N1, 16, fun F m hF => ?_⟩, by omega, ?_, ?_, ?_, zi_get_set_eq, rfl, by rw [es]; simp (maxDischargeDepth := 9) [zi_get_ne, zi_nl_i, zi_nl_r, zi_get_set_eq, nl]⟩
        · simp (maxDischargeDepth := 9) [zg_0, zg_aaload, zg_aload_n, zg_bipush, zg_getfield, zg_goto, zg_iadd, zg_iconst, zg_ifCond, zg_if_icmp, zg_iinc, zg_iload_n, zg_invokevirtual, zg_ireturn, zg_istore_n, zf_X5_windowsUnder, zi_ld, zi_lda, zi_cmp, zi_retOk, zi_isI, zi_f3, zi_cr, zi_ci, zi_cn, zi_get_ne, zi_nl_i, zi_nl_r, zi_get_set_eq, nl, g0, g1, g3, h10, c1, zd_g, zd_w hi, zq_Win_fallsUnder, cw, E1 F (by omega), hq, nI_1]
        · simp (maxDischargeDepth := 9) [zi_get_ne, zi_nl_i, zi_nl_r, zi_get_set_eq, nl]
        · simp (maxDischargeDepth := 9) [zi_get_ne, zi_nl_i, zi_nl_r, zi_get_set_eq, nl, g0]
        · simp (maxDischargeDepth := 9) [zi_get_ne, zi_nl_i, zi_nl_r, zi_get_set_eq, nl, g1]
    · rintro L _ ⟨-, nl, g0, g1, g3, rfl, hq⟩
      have c1 : (10 : Int32) ≤ nI 10 := by decide
      refine ⟨_, zm_mk μ, ⟨0, 5, fun F m hF => ?_⟩, rfl, rfl⟩
      simp [zg_0, zg_aaload, zg_aload_n, zg_bipush, zg_getfield, zg_goto, zg_iadd, zg_iconst, zg_ifCond, zg_if_icmp, zg_iinc, zg_iload_n, zg_invokevirtual, zg_ireturn, zg_istore_n, zf_X5_windowsUnder, zi_ld, zi_lda, zi_cmp, zi_retOk, zi_isI, zi_f3, zi_cr, zi_ci, zi_cn, g0, g3, hq, h10, c1]
  obtain ⟨r, h', G, rfl, rfl⟩ := key
  refine ze_in [(0, .ref 1), (1, .int x)] zq_Desk_windowsUnder (Nat.le_of_ble_eq_true rfl) rfl (ze_S.end ⟨0, 4, fun F m hF => ?_⟩ G)
  simp [zg_0, zg_aaload, zg_aload_n, zg_bipush, zg_getfield, zg_goto, zg_iadd, zg_iconst, zg_ifCond, zg_if_icmp, zg_iinc, zg_iload_n, zg_invokevirtual, zg_ireturn, zg_istore_n, zf_X5_windowsUnder, zi_ld, zi_lda, zi_cmp, zi_retOk, zi_isI, zi_f3, zi_cr, zi_ci, zi_cn, zi_get, zi_set, nI_0]
def zd_sth (μ : zm_M) (s : Nat) : Bool := decide (¬ μ (zdS s) 3 = 0)
def zd_kth (μ : zm_M) (s : Nat) : Bool := decide (¬ μ (zdK s) 3 = 0)
set_option maxRecDepth 100000 in
theorem ze_screensThere_v (D : Nat) : ze_E (D + 1) A_Desk_screensThere [.ref 1] (zm_mk μ) (some (.int (nI (zl_ct (zd_sth μ) 3)))) (zm_mk μ) := by
  have key : ∃ r h', ze_G D 3 (some .int) zc_X5_screensThere 4 [(2, .int (nI 0)), (1, .int (nI 0)), (0, .ref 1)] [] (zm_mk μ) r h' ∧ (r = some (.int (nI (zl_ct (zd_sth μ) 3))) ∧ zm_mk μ = h') := by
    refine ze_loop (Q := fun i L hp => i ≤ 3 ∧ zi_nl L = true ∧ zi_get L 0 = some (.ref 1) ∧ zi_get L 2 = some (.int (nI i)) ∧ zm_mk μ = hp ∧ (zi_get L 1 = some (.int (nI (zl_ct (zd_sth μ) i))))) (R := fun r h' => r = some (.int (nI (zl_ct (zd_sth μ) 3))) ∧ zm_mk μ = h') 3 ?_ ?_ 3 0 _ _ (by omega) ⟨by omega, rfl, rfl, rfl, rfl, rfl⟩
    · rintro i L _ hi ⟨-, nl, g0, g2, rfl, hq⟩
      have c1 : ¬ (3 : Int32) ≤ nI i := nI_ge (b := 3) hi (by decide)
      have es : zl_ct (zd_sth μ) (i + 1) = zl_ct (zd_sth μ) i + if zd_sth μ i = true then 1 else 0 := rfl
      by_cases c2 : μ (zdS i) 3 = 0
      · have c3 : ¬ zd_sth μ i = true := fun z => of_decide_eq_true z c2
        rw [if_neg c3, Nat.add_zero] at es
        left
        refine ⟨zi_set (zi_set L 1 (.int (nI (zl_ct (zd_sth μ) i)))) 2 (.int (nI (i + 1))), zm_mk μ, ⟨0, 15, fun F m hF => ?_⟩, by omega, ?_, ?_, zi_get_set_eq, rfl, by rw [es]; simp (maxDischargeDepth := 9) [zi_get_ne, zi_nl_i, zi_nl_r, zi_get_set_eq, nl]⟩
        · simp (maxDischargeDepth := 9) [zg_0, zg_aaload, zg_aload_n, zg_getfield, zg_goto, zg_iadd, zg_iconst, zg_ifCond, zg_if_icmp, zg_iinc, zg_iload_n, zg_ireturn, zg_istore_n, zf_X5_screensThere, zi_ld, zi_lda, zi_cmp, zi_retOk, zi_isI, zi_f3, zi_cr, zi_ci, zi_cn, zi_get_ne, zi_nl_i, zi_nl_r, zi_get_set_eq, nl, g0, g2, c1, zd_g, zd_s hi, zdS_g hi, c2, hq, nI_1]
        · simp (maxDischargeDepth := 9) [zi_get_ne, zi_nl_i, zi_nl_r, zi_get_set_eq, nl]
        · simp (maxDischargeDepth := 9) [zi_get_ne, zi_nl_i, zi_nl_r, zi_get_set_eq, nl, g0]
      · have c3 : zd_sth μ i = true := decide_eq_true c2
        rw [if_pos c3] at es
        left
        refine ⟨zi_set (zi_set L 1 (.int (nI (zl_ct (zd_sth μ) i + 1)))) 2 (.int (nI (i + 1))), zm_mk μ, ⟨0, 16, fun F m hF => ?_⟩, by omega, ?_, ?_, zi_get_set_eq, rfl, by rw [es]; simp (maxDischargeDepth := 9) [zi_get_ne, zi_nl_i, zi_nl_r, zi_get_set_eq, nl]⟩
        · simp (maxDischargeDepth := 9) [zg_0, zg_aaload, zg_aload_n, zg_getfield, zg_goto, zg_iadd, zg_iconst, zg_ifCond, zg_if_icmp, zg_iinc, zg_iload_n, zg_ireturn, zg_istore_n, zf_X5_screensThere, zi_ld, zi_lda, zi_cmp, zi_retOk, zi_isI, zi_f3, zi_cr, zi_ci, zi_cn, zi_get_ne, zi_nl_i, zi_nl_r, zi_get_set_eq, nl, g0, g2, c1, zd_g, zd_s hi, zdS_g hi, c2, hq, nI_1]
        · simp (maxDischargeDepth := 9) [zi_get_ne, zi_nl_i, zi_nl_r, zi_get_set_eq, nl]
        · simp (maxDischargeDepth := 9) [zi_get_ne, zi_nl_i, zi_nl_r, zi_get_set_eq, nl, g0]
    · rintro L _ ⟨-, nl, g0, g2, rfl, hq⟩
      have c1 : (3 : Int32) ≤ nI 3 := by decide
      refine ⟨_, zm_mk μ, ⟨0, 5, fun F m hF => ?_⟩, rfl, rfl⟩
      simp [zg_0, zg_aaload, zg_aload_n, zg_getfield, zg_goto, zg_iadd, zg_iconst, zg_ifCond, zg_if_icmp, zg_iinc, zg_iload_n, zg_ireturn, zg_istore_n, zf_X5_screensThere, zi_ld, zi_lda, zi_cmp, zi_retOk, zi_isI, zi_f3, zi_cr, zi_ci, zi_cn, g0, g2, hq, c1]
  obtain ⟨r, h', G, rfl, rfl⟩ := key
  refine ze_in [(0, .ref 1)] zq_Desk_screensThere (Nat.le_of_ble_eq_true rfl) rfl (ze_S.end ⟨0, 4, fun F m hF => ?_⟩ G)
  simp [zg_0, zg_aaload, zg_aload_n, zg_getfield, zg_goto, zg_iadd, zg_iconst, zg_ifCond, zg_if_icmp, zg_iinc, zg_iload_n, zg_ireturn, zg_istore_n, zf_X5_screensThere, zi_ld, zi_lda, zi_cmp, zi_retOk, zi_isI, zi_f3, zi_cr, zi_ci, zi_cn, zi_get, zi_set, nI_0]
set_option maxRecDepth 100000 in
theorem ze_screensWithKept_v (D : Nat) : ze_E (D + 1) A_Desk_screensWithKept [.ref 1] (zm_mk μ) (some (.int (nI (zl_ct (zd_kth μ) 3)))) (zm_mk μ) := by
  have key : ∃ r h', ze_G D 3 (some .int) zc_X5_screensWithKept 4 [(2, .int (nI 0)), (1, .int (nI 0)), (0, .ref 1)] [] (zm_mk μ) r h' ∧ (r = some (.int (nI (zl_ct (zd_kth μ) 3))) ∧ zm_mk μ = h') := by
    refine ze_loop (Q := fun i L hp => i ≤ 3 ∧ zi_nl L = true ∧ zi_get L 0 = some (.ref 1) ∧ zi_get L 2 = some (.int (nI i)) ∧ zm_mk μ = hp ∧ (zi_get L 1 = some (.int (nI (zl_ct (zd_kth μ) i))))) (R := fun r h' => r = some (.int (nI (zl_ct (zd_kth μ) 3))) ∧ zm_mk μ = h') 3 ?_ ?_ 3 0 _ _ (by omega) ⟨by omega, rfl, rfl, rfl, rfl, rfl⟩
    · rintro i L _ hi ⟨-, nl, g0, g2, rfl, hq⟩
      have c1 : ¬ (3 : Int32) ≤ nI i := nI_ge (b := 3) hi (by decide)
      have es : zl_ct (zd_kth μ) (i + 1) = zl_ct (zd_kth μ) i + if zd_kth μ i = true then 1 else 0 := rfl
      by_cases c2 : μ (zdK i) 3 = 0
      · have c3 : ¬ zd_kth μ i = true := fun z => of_decide_eq_true z c2
        rw [if_neg c3, Nat.add_zero] at es
        left
        refine ⟨zi_set (zi_set L 1 (.int (nI (zl_ct (zd_kth μ) i)))) 2 (.int (nI (i + 1))), zm_mk μ, ⟨0, 16, fun F m hF => ?_⟩, by omega, ?_, ?_, zi_get_set_eq, rfl, by rw [es]; simp (maxDischargeDepth := 9) [zi_get_ne, zi_nl_i, zi_nl_r, zi_get_set_eq, nl]⟩
        · simp (maxDischargeDepth := 9) [zg_0, zg_aaload, zg_aload_n, zg_getfield, zg_goto, zg_iadd, zg_iconst, zg_ifCond, zg_if_icmp, zg_iinc, zg_iload_n, zg_ireturn, zg_istore_n, zf_X5_screensWithKept, zi_ld, zi_lda, zi_cmp, zi_retOk, zi_isI, zi_f3, zi_cr, zi_ci, zi_cn, zi_get_ne, zi_nl_i, zi_nl_r, zi_get_set_eq, nl, g0, g2, c1, zd_g, zd_s hi, zdS_g hi, zdK_g hi, c2, hq, nI_1]
        · simp (maxDischargeDepth := 9) [zi_get_ne, zi_nl_i, zi_nl_r, zi_get_set_eq, nl]
        · simp (maxDischargeDepth := 9) [zi_get_ne, zi_nl_i, zi_nl_r, zi_get_set_eq, nl, g0]
      · have c3 : zd_kth μ i = true := decide_eq_true c2
        rw [if_pos c3] at es
        left
        refine ⟨zi_set (zi_set L 1 (.int (nI (zl_ct (zd_kth μ) i + 1)))) 2 (.int (nI (i + 1))), zm_mk μ, ⟨0, 17, fun F m hF => ?_⟩, by omega, ?_, ?_, zi_get_set_eq, rfl, by rw [es]; simp (maxDischargeDepth := 9) [zi_get_ne, zi_nl_i, zi_nl_r, zi_get_set_eq, nl]⟩
        · simp (maxDischargeDepth := 9) [zg_0, zg_aaload, zg_aload_n, zg_getfield, zg_goto, zg_iadd, zg_iconst, zg_ifCond, zg_if_icmp, zg_iinc, zg_iload_n, zg_ireturn, zg_istore_n, zf_X5_screensWithKept, zi_ld, zi_lda, zi_cmp, zi_retOk, zi_isI, zi_f3, zi_cr, zi_ci, zi_cn, zi_get_ne, zi_nl_i, zi_nl_r, zi_get_set_eq, nl, g0, g2, c1, zd_g, zd_s hi, zdS_g hi, zdK_g hi, c2, hq, nI_1]
        · simp (maxDischargeDepth := 9) [zi_get_ne, zi_nl_i, zi_nl_r, zi_get_set_eq, nl]
        · simp (maxDischargeDepth := 9) [zi_get_ne, zi_nl_i, zi_nl_r, zi_get_set_eq, nl, g0]
    · rintro L _ ⟨-, nl, g0, g2, rfl, hq⟩
      have c1 : (3 : Int32) ≤ nI 3 := by decide
      refine ⟨_, zm_mk μ, ⟨0, 5, fun F m hF => ?_⟩, rfl, rfl⟩
      simp [zg_0, zg_aaload, zg_aload_n, zg_getfield, zg_goto, zg_iadd, zg_iconst, zg_ifCond, zg_if_icmp, zg_iinc, zg_iload_n, zg_ireturn, zg_istore_n, zf_X5_screensWithKept, zi_ld, zi_lda, zi_cmp, zi_retOk, zi_isI, zi_f3, zi_cr, zi_ci, zi_cn, g0, g2, hq, c1]
  obtain ⟨r, h', G, rfl, rfl⟩ := key
  refine ze_in [(0, .ref 1)] zq_Desk_screensWithKept (Nat.le_of_ble_eq_true rfl) rfl (ze_S.end ⟨0, 4, fun F m hF => ?_⟩ G)
  simp [zg_0, zg_aaload, zg_aload_n, zg_getfield, zg_goto, zg_iadd, zg_iconst, zg_ifCond, zg_if_icmp, zg_iinc, zg_iload_n, zg_ireturn, zg_istore_n, zf_X5_screensWithKept, zi_ld, zi_lda, zi_cmp, zi_retOk, zi_isI, zi_f3, zi_cr, zi_ci, zi_cn, zi_get, zi_set, nI_0]
def zv_nA (μ : zm_M) (i : Nat) : Bool := decide (0 < μ 232 i)
theorem zv_ctA_v (D : Nat) (L0 : zi_Lc) (nl0 : zi_nl L0 = true) (a0 : zi_get L0 0 = some (.ref 232)) (a2 : zi_get L0 2 = some (.int (nI 0))) (a3 : zi_get L0 3 = some (.int (nI 0))) : ∃ r h', ze_G D 4 (some .int) zc_X6_count 42 L0 [] (zm_mk μ) r h' ∧ (r = some (.int (nI (zl_ct (zv_nA μ) 3))) ∧ zm_mk μ = h') := by
  refine ze_loop (Q := fun i L hp => i ≤ 3 ∧ zi_nl L = true ∧ zi_get L 0 = some (.ref 232) ∧ zi_get L 3 = some (.int (nI i)) ∧ zm_mk μ = hp ∧ (zi_get L 2 = some (.int (nI (zl_ct (zv_nA μ) i))))) (R := fun r h' => r = some (.int (nI (zl_ct (zv_nA μ) 3))) ∧ zm_mk μ = h') 3 ?_ ?_ 3 0 _ _ (by omega) ⟨by omega, nl0, a0, a3, rfl, a2⟩
  · rintro i L _ hi ⟨-, nl, g0, g3, rfl, hq⟩
    have c1 : ¬ (3 : Int32) ≤ nI i := nI_ge (b := 3) hi (by decide)
    have ik : zi_in (nI i) 3 = true := zm_in hi (by decide)
    have ck : (nI i).toNatClampNeg = i := nI_clamp (by omega)
    have es : zl_ct (zv_nA μ) (i + 1) = zl_ct (zv_nA μ) i + if zv_nA μ i = true then 1 else 0 := rfl
    by_cases c2 : μ 232 i ≤ 0
    · have c3 : ¬ zv_nA μ i = true := fun z => Int32.not_le.mpr (of_decide_eq_true z) c2
      rw [if_neg c3, Nat.add_zero] at es
      left
      refine ⟨zi_set (zi_set L 2 (.int (nI (zl_ct (zv_nA μ) i)))) 3 (.int (nI (i + 1))), zm_mk μ, ⟨0, 14, fun F m hF => ?_⟩, by omega, ?_, ?_, zi_get_set_eq, rfl, by rw [es]; simp (maxDischargeDepth := 9) [zi_get_ne, zi_nl_i, zi_nl_r, zi_get_set_eq, nl]⟩
      · simp (maxDischargeDepth := 9) [zg_0, zg_aload_n, zg_baload, zg_bipush, zg_getfield, zg_goto, zg_iadd, zg_iaload, zg_iconst, zg_ifCond, zg_if_icmp, zg_iinc, zg_iload_n, zg_ireturn, zg_istore_n, zg_ldc, zg_ldc_w, zg_tableswitch, zf_X6_count, zi_ld, zi_lda, zi_cmp, zi_retOk, zi_isI, zi_f3, zi_cr, zi_ci, zi_cn, zi_get_ne, zi_nl_i, zi_nl_r, zi_get_set_eq, nl, g0, g3, c1, zM_g, zm_iald (k := 0) zM_A232 ik, ck, c2, hq, nI_1]
      · simp (maxDischargeDepth := 9) [zi_get_ne, zi_nl_i, zi_nl_r, zi_get_set_eq, nl]
      · simp (maxDischargeDepth := 9) [zi_get_ne, zi_nl_i, zi_nl_r, zi_get_set_eq, nl, g0]
    · have c3 : zv_nA μ i = true := decide_eq_true (Int32.not_le.mp c2)
      rw [if_pos c3] at es
      left
      refine ⟨zi_set (zi_set L 2 (.int (nI (zl_ct (zv_nA μ) i + 1)))) 3 (.int (nI (i + 1))), zm_mk μ, ⟨0, 15, fun F m hF => ?_⟩, by omega, ?_, ?_, zi_get_set_eq, rfl, by rw [es]; simp (maxDischargeDepth := 9) [zi_get_ne, zi_nl_i, zi_nl_r, zi_get_set_eq, nl]⟩
      · simp (maxDischargeDepth := 9) [zg_0, zg_aload_n, zg_baload, zg_bipush, zg_getfield, zg_goto, zg_iadd, zg_iaload, zg_iconst, zg_ifCond, zg_if_icmp, zg_iinc, zg_iload_n, zg_ireturn, zg_istore_n, zg_ldc, zg_ldc_w, zg_tableswitch, zf_X6_count, zi_ld, zi_lda, zi_cmp, zi_retOk, zi_isI, zi_f3, zi_cr, zi_ci, zi_cn, zi_get_ne, zi_nl_i, zi_nl_r, zi_get_set_eq, nl, g0, g3, c1, zM_g, zm_iald (k := 0) zM_A232 ik, ck, c2, hq, nI_1]
      · simp (maxDischargeDepth := 9) [zi_get_ne, zi_nl_i, zi_nl_r, zi_get_set_eq, nl]
      · simp (maxDischargeDepth := 9) [zi_get_ne, zi_nl_i, zi_nl_r, zi_get_set_eq, nl, g0]
  · rintro L _ ⟨-, nl, g0, g3, rfl, hq⟩
    have c1 : (3 : Int32) ≤ nI 3 := by decide
    refine ⟨_, zm_mk μ, ⟨0, 5, fun F m hF => ?_⟩, rfl, rfl⟩
    simp [zg_0, zg_aload_n, zg_baload, zg_bipush, zg_getfield, zg_goto, zg_iadd, zg_iaload, zg_iconst, zg_ifCond, zg_if_icmp, zg_iinc, zg_iload_n, zg_ireturn, zg_istore_n, zg_ldc, zg_ldc_w, zg_tableswitch, zf_X6_count, zi_ld, zi_lda, zi_cmp, zi_retOk, zi_isI, zi_f3, zi_cr, zi_ci, zi_cn, g0, g3, hq, c1]
def zv_nB (μ : zm_M) (i : Nat) : Bool := decide (μ 234 i = 1)
theorem zv_ctB_v (D : Nat) (L0 : zi_Lc) (nl0 : zi_nl L0 = true) (a0 : zi_get L0 0 = some (.ref 232)) (a2 : zi_get L0 2 = some (.int (nI 0))) (a3 : zi_get L0 3 = some (.int (nI 0))) : ∃ r h', ze_G D 4 (some .int) zc_X6_count 79 L0 [] (zm_mk μ) r h' ∧ (r = some (.int (nI (zl_ct (zv_nB μ) 10))) ∧ zm_mk μ = h') := by
  have h10 : (Int8.ofInt 10).toInt32 = (10 : Int32) := by decide
  refine ze_loop (Q := fun i L hp => i ≤ 10 ∧ zi_nl L = true ∧ zi_get L 0 = some (.ref 232) ∧ zi_get L 3 = some (.int (nI i)) ∧ zm_mk μ = hp ∧ (zi_get L 2 = some (.int (nI (zl_ct (zv_nB μ) i))))) (R := fun r h' => r = some (.int (nI (zl_ct (zv_nB μ) 10))) ∧ zm_mk μ = h') 10 ?_ ?_ 10 0 _ _ (by omega) ⟨by omega, nl0, a0, a3, rfl, a2⟩
  · rintro i L _ hi ⟨-, nl, g0, g3, rfl, hq⟩
    have c1 : ¬ (10 : Int32) ≤ nI i := nI_ge (b := 10) hi (by decide)
    have ik : zi_in (nI i) 10 = true := zm_in hi (by decide)
    have ck : (nI i).toNatClampNeg = i := nI_clamp (by omega)
    have es : zl_ct (zv_nB μ) (i + 1) = zl_ct (zv_nB μ) i + if zv_nB μ i = true then 1 else 0 := rfl
    by_cases c2 : ¬ μ 234 i = 1
    · have c3 : ¬ zv_nB μ i = true := fun z => c2 (of_decide_eq_true z)
      rw [if_neg c3, Nat.add_zero] at es
      left
      refine ⟨zi_set (zi_set L 2 (.int (nI (zl_ct (zv_nB μ) i)))) 3 (.int (nI (i + 1))), zm_mk μ, ⟨0, 15, fun F m hF => ?_⟩, by omega, ?_, ?_, zi_get_set_eq, rfl, by rw [es]; simp (maxDischargeDepth := 9) [zi_get_ne, zi_nl_i, zi_nl_r, zi_get_set_eq, nl]⟩
      · simp (maxDischargeDepth := 9) [zg_0, zg_aload_n, zg_baload, zg_bipush, zg_getfield, zg_goto, zg_iadd, zg_iaload, zg_iconst, zg_ifCond, zg_if_icmp, zg_iinc, zg_iload_n, zg_ireturn, zg_istore_n, zg_ldc, zg_ldc_w, zg_tableswitch, zf_X6_count, zi_ld, zi_lda, zi_cmp, zi_retOk, zi_isI, zi_f3, zi_cr, zi_ci, zi_cn, zi_get_ne, zi_nl_i, zi_nl_r, zi_get_set_eq, nl, g0, g3, h10, c1, zM_g, zm_iald (k := 0) zM_A234 ik, ck, c2, hq, nI_1]
      · simp (maxDischargeDepth := 9) [zi_get_ne, zi_nl_i, zi_nl_r, zi_get_set_eq, nl]
      · simp (maxDischargeDepth := 9) [zi_get_ne, zi_nl_i, zi_nl_r, zi_get_set_eq, nl, g0]
    · have c3 : zv_nB μ i = true := decide_eq_true (Decidable.not_not.mp c2)
      rw [if_pos c3] at es
      left
      refine ⟨zi_set (zi_set L 2 (.int (nI (zl_ct (zv_nB μ) i + 1)))) 3 (.int (nI (i + 1))), zm_mk μ, ⟨0, 16, fun F m hF => ?_⟩, by omega, ?_, ?_, zi_get_set_eq, rfl, by rw [es]; simp (maxDischargeDepth := 9) [zi_get_ne, zi_nl_i, zi_nl_r, zi_get_set_eq, nl]⟩
      · simp (maxDischargeDepth := 9) [zg_0, zg_aload_n, zg_baload, zg_bipush, zg_getfield, zg_goto, zg_iadd, zg_iaload, zg_iconst, zg_ifCond, zg_if_icmp, zg_iinc, zg_iload_n, zg_ireturn, zg_istore_n, zg_ldc, zg_ldc_w, zg_tableswitch, zf_X6_count, zi_ld, zi_lda, zi_cmp, zi_retOk, zi_isI, zi_f3, zi_cr, zi_ci, zi_cn, zi_get_ne, zi_nl_i, zi_nl_r, zi_get_set_eq, nl, g0, g3, h10, c1, zM_g, zm_iald (k := 0) zM_A234 ik, ck, Decidable.not_not.mp c2, hq, nI_1]
      · simp (maxDischargeDepth := 9) [zi_get_ne, zi_nl_i, zi_nl_r, zi_get_set_eq, nl]
      · simp (maxDischargeDepth := 9) [zi_get_ne, zi_nl_i, zi_nl_r, zi_get_set_eq, nl, g0]
  · rintro L _ ⟨-, nl, g0, g3, rfl, hq⟩
    have c1 : (10 : Int32) ≤ nI 10 := by decide
    refine ⟨_, zm_mk μ, ⟨0, 5, fun F m hF => ?_⟩, rfl, rfl⟩
    simp [zg_0, zg_aload_n, zg_baload, zg_bipush, zg_getfield, zg_goto, zg_iadd, zg_iaload, zg_iconst, zg_ifCond, zg_if_icmp, zg_iinc, zg_iload_n, zg_ireturn, zg_istore_n, zg_ldc, zg_ldc_w, zg_tableswitch, zf_X6_count, zi_ld, zi_lda, zi_cmp, zi_retOk, zi_isI, zi_f3, zi_cr, zi_ci, zi_cn, g0, g3, hq, h10, c1]
def zv_nC (μ : zm_M) (i : Nat) : Bool := decide (¬ μ 251 i = 0)
theorem zv_ctC_v (D : Nat) (L0 : zi_Lc) (nl0 : zi_nl L0 = true) (a0 : zi_get L0 0 = some (.ref 232)) (a2 : zi_get L0 2 = some (.int (nI 0))) (a3 : zi_get L0 3 = some (.int (nI 0))) : ∃ r h', ze_G D 4 (some .int) zc_X6_count 138 L0 [] (zm_mk μ) r h' ∧ (r = some (.int (nI (zl_ct (zv_nC μ) 3))) ∧ zm_mk μ = h') := by
  refine ze_loop (Q := fun i L hp => i ≤ 3 ∧ zi_nl L = true ∧ zi_get L 0 = some (.ref 232) ∧ zi_get L 3 = some (.int (nI i)) ∧ zm_mk μ = hp ∧ (zi_get L 2 = some (.int (nI (zl_ct (zv_nC μ) i))))) (R := fun r h' => r = some (.int (nI (zl_ct (zv_nC μ) 3))) ∧ zm_mk μ = h') 3 ?_ ?_ 3 0 _ _ (by omega) ⟨by omega, nl0, a0, a3, rfl, a2⟩
  · rintro i L _ hi ⟨-, nl, g0, g3, rfl, hq⟩
    have c1 : ¬ (3 : Int32) ≤ nI i := nI_ge (b := 3) hi (by decide)
    have ik : zi_in (nI i) 3 = true := zm_in hi (by decide)
    have ck : (nI i).toNatClampNeg = i := nI_clamp (by omega)
    have es : zl_ct (zv_nC μ) (i + 1) = zl_ct (zv_nC μ) i + if zv_nC μ i = true then 1 else 0 := rfl
    by_cases c2 : μ 251 i = 0
    · have c3 : ¬ zv_nC μ i = true := fun z => of_decide_eq_true z c2
      rw [if_neg c3, Nat.add_zero] at es
      left
      refine ⟨zi_set (zi_set L 2 (.int (nI (zl_ct (zv_nC μ) i)))) 3 (.int (nI (i + 1))), zm_mk μ, ⟨0, 14, fun F m hF => ?_⟩, by omega, ?_, ?_, zi_get_set_eq, rfl, by rw [es]; simp (maxDischargeDepth := 9) [zi_get_ne, zi_nl_i, zi_nl_r, zi_get_set_eq, nl]⟩
      · simp (maxDischargeDepth := 9) [zg_0, zg_aload_n, zg_baload, zg_bipush, zg_getfield, zg_goto, zg_iadd, zg_iaload, zg_iconst, zg_ifCond, zg_if_icmp, zg_iinc, zg_iload_n, zg_ireturn, zg_istore_n, zg_ldc, zg_ldc_w, zg_tableswitch, zf_X6_count, zi_ld, zi_lda, zi_cmp, zi_retOk, zi_isI, zi_f3, zi_cr, zi_ci, zi_cn, zi_get_ne, zi_nl_i, zi_nl_r, zi_get_set_eq, nl, g0, g3, c1, zM_g, zm_bald zM_A251 ik, ck, c2, hq, nI_1]
      · simp (maxDischargeDepth := 9) [zi_get_ne, zi_nl_i, zi_nl_r, zi_get_set_eq, nl]
      · simp (maxDischargeDepth := 9) [zi_get_ne, zi_nl_i, zi_nl_r, zi_get_set_eq, nl, g0]
    · have c3 : zv_nC μ i = true := decide_eq_true (c2)
      rw [if_pos c3] at es
      left
      refine ⟨zi_set (zi_set L 2 (.int (nI (zl_ct (zv_nC μ) i + 1)))) 3 (.int (nI (i + 1))), zm_mk μ, ⟨0, 15, fun F m hF => ?_⟩, by omega, ?_, ?_, zi_get_set_eq, rfl, by rw [es]; simp (maxDischargeDepth := 9) [zi_get_ne, zi_nl_i, zi_nl_r, zi_get_set_eq, nl]⟩
      · simp (maxDischargeDepth := 9) [zg_0, zg_aload_n, zg_baload, zg_bipush, zg_getfield, zg_goto, zg_iadd, zg_iaload, zg_iconst, zg_ifCond, zg_if_icmp, zg_iinc, zg_iload_n, zg_ireturn, zg_istore_n, zg_ldc, zg_ldc_w, zg_tableswitch, zf_X6_count, zi_ld, zi_lda, zi_cmp, zi_retOk, zi_isI, zi_f3, zi_cr, zi_ci, zi_cn, zi_get_ne, zi_nl_i, zi_nl_r, zi_get_set_eq, nl, g0, g3, c1, zM_g, zm_bald zM_A251 ik, ck, c2, hq, nI_1]
      · simp (maxDischargeDepth := 9) [zi_get_ne, zi_nl_i, zi_nl_r, zi_get_set_eq, nl]
      · simp (maxDischargeDepth := 9) [zi_get_ne, zi_nl_i, zi_nl_r, zi_get_set_eq, nl, g0]
  · rintro L _ ⟨-, nl, g0, g3, rfl, hq⟩
    have c1 : (3 : Int32) ≤ nI 3 := by decide
    refine ⟨_, zm_mk μ, ⟨0, 5, fun F m hF => ?_⟩, rfl, rfl⟩
    simp [zg_0, zg_aload_n, zg_baload, zg_bipush, zg_getfield, zg_goto, zg_iadd, zg_iaload, zg_iconst, zg_ifCond, zg_if_icmp, zg_iinc, zg_iload_n, zg_ireturn, zg_istore_n, zg_ldc, zg_ldc_w, zg_tableswitch, zf_X6_count, zi_ld, zi_lda, zi_cmp, zi_retOk, zi_isI, zi_f3, zi_cr, zi_ci, zi_cn, g0, g3, hq, c1]
end ZXC
