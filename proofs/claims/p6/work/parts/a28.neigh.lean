/-! the reference: neighbourOf -/
def zv_me (ν : zm_M) (sd p q : Nat) : Bool := if sd = 0 then decide (ν 255 q + ν 257 q = ν 255 p) else if sd = 1 then decide (ν 255 p + ν 257 p = ν 255 q) else if sd = 2 then decide (ν 256 q + ν 258 q = ν 256 p) else decide (ν 256 p + ν 258 p = ν 256 q)
def zv_cb (ν : zm_M) (sd p q : Nat) : Int32 := if sd < 2 then (if ν 256 p + ν 258 p < ν 256 q + ν 258 q then ν 256 p + ν 258 p else ν 256 q + ν 258 q) - (if ν 256 q < ν 256 p then ν 256 p else ν 256 q) else (if ν 255 p + ν 257 p < ν 255 q + ν 257 q then ν 255 p + ν 257 p else ν 255 q + ν 257 q) - (if ν 255 q < ν 255 p then ν 255 p else ν 255 q)
/-- what the window j counts, seen from k over the side sd; lo: in which leaf -/
def zv_nf (ν : zm_M) (s k sd : Nat) (lo : Nat → Nat) (j : Nat) : Int32 := if (j ≠ k ∧ ν 234 j = 1 ∧ ν 238 j = nI s ∧ ν 250 (24 * s + lo j) = nI j) ∧ zv_me ν sd (lo k) (lo j) = true then zv_cb ν sd (lo k) (lo j) else 0
section ZVN
variable {ν : zm_M}
set_option maxRecDepth 100000 in
theorem zv_nbA (D : Nat) {sd p q : Nat} (hsd : sd < 4) (hp : p < 24) (hq : q < 24) (L : zi_Lc) (g0 : zi_get L 0 = some (.ref 232)) (g2 : zi_get L 2 = some (.int (nI sd))) (g4 : zi_get L 4 = some (.int (nI p))) (g8 : zi_get L 8 = some (.int (nI q))) :
    ze_S D 11 (some .int) zc_X6_neighbourOf 82 L [] (zm_mk ν) 225 L [.int (if zv_me ν sd p q = true then 1 else 0)] (zm_mk ν) := by
  have ip : zi_in (nI p) 24 = true := zm_in hp (by decide)
  have cp : (nI p).toNatClampNeg = p := nI_clamp (by omega)
  have iq : zi_in (nI q) 24 = true := zm_in hq (by decide)
  have cq : (nI q).toNatClampNeg = q := nI_clamp (by omega)
  rcases (by omega : sd = 0 ∨ sd = 1 ∨ sd = 2 ∨ sd = 3) with rfl | rfl | rfl | rfl
  · have n0 : nI 0 = (0 : Int32) := by decide
    by_cases c : ν 255 q + ν 257 q = ν 255 p
    · have z : zv_me ν 0 p q = true := decide_eq_true c
      rw [z]
      refine ⟨0, 18, fun F m hF => ?_⟩
      simp [zg_0, zg_aload_n, zg_bipush, zg_getfield, zg_goto, zg_iadd, zg_iaload, zg_iconst, zg_ifCond, zg_if_icmp, zg_iinc, zg_iload, zg_iload_n, zg_invokestatic, zg_invokevirtual, zg_ireturn, zg_istore, zg_istore_n, zf_X6_neighbourOf, zi_ld, zi_lda, zi_cmp, zi_retOk, zi_isI, zi_f3, zi_cr, zi_ci, zi_cn, g0, g2, g4, g8, n0, zM_g, zm_iald (k := 0) zM_A255 ip, zm_iald (k := 0) zM_A255 iq, zm_iald (k := 0) zM_A257 iq, cp, cq, c]
    · have z : zv_me ν 0 p q = false := decide_eq_false c
      rw [z]
      refine ⟨0, 18, fun F m hF => ?_⟩
      simp [zg_0, zg_aload_n, zg_bipush, zg_getfield, zg_goto, zg_iadd, zg_iaload, zg_iconst, zg_ifCond, zg_if_icmp, zg_iinc, zg_iload, zg_iload_n, zg_invokestatic, zg_invokevirtual, zg_ireturn, zg_istore, zg_istore_n, zf_X6_neighbourOf, zi_ld, zi_lda, zi_cmp, zi_retOk, zi_isI, zi_f3, zi_cr, zi_ci, zi_cn, g0, g2, g4, g8, n0, zM_g, zm_iald (k := 0) zM_A255 ip, zm_iald (k := 0) zM_A255 iq, zm_iald (k := 0) zM_A257 iq, cp, cq, c]
  · have n0 : ¬ nI 1 = (0 : Int32) := by decide
    have n1 : nI 1 = (1 : Int32) := by decide
    by_cases c : ν 255 p + ν 257 p = ν 255 q
    · have z : zv_me ν 1 p q = true := decide_eq_true c
      rw [z]
      refine ⟨0, 21, fun F m hF => ?_⟩
      simp [zg_0, zg_aload_n, zg_bipush, zg_getfield, zg_goto, zg_iadd, zg_iaload, zg_iconst, zg_ifCond, zg_if_icmp, zg_iinc, zg_iload, zg_iload_n, zg_invokestatic, zg_invokevirtual, zg_ireturn, zg_istore, zg_istore_n, zf_X6_neighbourOf, zi_ld, zi_lda, zi_cmp, zi_retOk, zi_isI, zi_f3, zi_cr, zi_ci, zi_cn, g0, g2, g4, g8, n0, n1, zM_g, zm_iald (k := 0) zM_A255 ip, zm_iald (k := 0) zM_A255 iq, zm_iald (k := 0) zM_A257 ip, cp, cq, c]
    · have z : zv_me ν 1 p q = false := decide_eq_false c
      rw [z]
      refine ⟨0, 21, fun F m hF => ?_⟩
      simp [zg_0, zg_aload_n, zg_bipush, zg_getfield, zg_goto, zg_iadd, zg_iaload, zg_iconst, zg_ifCond, zg_if_icmp, zg_iinc, zg_iload, zg_iload_n, zg_invokestatic, zg_invokevirtual, zg_ireturn, zg_istore, zg_istore_n, zf_X6_neighbourOf, zi_ld, zi_lda, zi_cmp, zi_retOk, zi_isI, zi_f3, zi_cr, zi_ci, zi_cn, g0, g2, g4, g8, n0, n1, zM_g, zm_iald (k := 0) zM_A255 ip, zm_iald (k := 0) zM_A255 iq, zm_iald (k := 0) zM_A257 ip, cp, cq, c]
  · have n0 : ¬ nI 2 = (0 : Int32) := by decide
    have n1 : ¬ nI 2 = (1 : Int32) := by decide
    have n2 : nI 2 = (2 : Int32) := by decide
    have n3 : ¬ (2 : Int32) = 0 := by decide
    have n4 : ¬ (2 : Int32) = 1 := by decide
    by_cases c : ν 256 q + ν 258 q = ν 256 p
    · have z : zv_me ν 2 p q = true := decide_eq_true c
      rw [z]
      refine ⟨0, 24, fun F m hF => ?_⟩
      simp [zg_0, zg_aload_n, zg_bipush, zg_getfield, zg_goto, zg_iadd, zg_iaload, zg_iconst, zg_ifCond, zg_if_icmp, zg_iinc, zg_iload, zg_iload_n, zg_invokestatic, zg_invokevirtual, zg_ireturn, zg_istore, zg_istore_n, zf_X6_neighbourOf, zi_ld, zi_lda, zi_cmp, zi_retOk, zi_isI, zi_f3, zi_cr, zi_ci, zi_cn, g0, g2, g4, g8, n2, n3, n4, zM_g, zm_iald (k := 0) zM_A256 ip, zm_iald (k := 0) zM_A256 iq, zm_iald (k := 0) zM_A258 iq, cp, cq, c]
    · have z : zv_me ν 2 p q = false := decide_eq_false c
      rw [z]
      refine ⟨0, 24, fun F m hF => ?_⟩
      simp [zg_0, zg_aload_n, zg_bipush, zg_getfield, zg_goto, zg_iadd, zg_iaload, zg_iconst, zg_ifCond, zg_if_icmp, zg_iinc, zg_iload, zg_iload_n, zg_invokestatic, zg_invokevirtual, zg_ireturn, zg_istore, zg_istore_n, zf_X6_neighbourOf, zi_ld, zi_lda, zi_cmp, zi_retOk, zi_isI, zi_f3, zi_cr, zi_ci, zi_cn, g0, g2, g4, g8, n2, n3, n4, zM_g, zm_iald (k := 0) zM_A256 ip, zm_iald (k := 0) zM_A256 iq, zm_iald (k := 0) zM_A258 iq, cp, cq, c]
  · have n2 : nI 3 = (3 : Int32) := by decide
    have n3 : ¬ (3 : Int32) = 0 := by decide
    have n4 : ¬ (3 : Int32) = 1 := by decide
    have n5 : ¬ (3 : Int32) = 2 := by decide
    by_cases c : ν 256 p + ν 258 p = ν 256 q
    · have z : zv_me ν 3 p q = true := decide_eq_true c
      rw [z]
      refine ⟨0, 24, fun F m hF => ?_⟩
      simp [zg_0, zg_aload_n, zg_bipush, zg_getfield, zg_goto, zg_iadd, zg_iaload, zg_iconst, zg_ifCond, zg_if_icmp, zg_iinc, zg_iload, zg_iload_n, zg_invokestatic, zg_invokevirtual, zg_ireturn, zg_istore, zg_istore_n, zf_X6_neighbourOf, zi_ld, zi_lda, zi_cmp, zi_retOk, zi_isI, zi_f3, zi_cr, zi_ci, zi_cn, g0, g2, g4, g8, n2, n3, n4, n5, zM_g, zm_iald (k := 0) zM_A256 ip, zm_iald (k := 0) zM_A256 iq, zm_iald (k := 0) zM_A258 ip, cp, cq, c]
    · have z : zv_me ν 3 p q = false := decide_eq_false c
      rw [z]
      refine ⟨0, 23, fun F m hF => ?_⟩
      simp [zg_0, zg_aload_n, zg_bipush, zg_getfield, zg_goto, zg_iadd, zg_iaload, zg_iconst, zg_ifCond, zg_if_icmp, zg_iinc, zg_iload, zg_iload_n, zg_invokestatic, zg_invokevirtual, zg_ireturn, zg_istore, zg_istore_n, zf_X6_neighbourOf, zi_ld, zi_lda, zi_cmp, zi_retOk, zi_isI, zi_f3, zi_cr, zi_ci, zi_cn, g0, g2, g4, g8, n2, n3, n4, n5, zM_g, zm_iald (k := 0) zM_A256 ip, zm_iald (k := 0) zM_A256 iq, zm_iald (k := 0) zM_A258 ip, cp, cq, c]
set_option maxRecDepth 100000 in
theorem zv_nbB (D : Nat) {sd p q : Nat} (hsd : sd < 4) (hp : p < 24) (hq : q < 24) (L : zi_Lc) (x : Int32) (nl : zi_nl L = true) (g0 : zi_get L 0 = some (.ref 232)) (g2 : zi_get L 2 = some (.int (nI sd))) (g4 : zi_get L 4 = some (.int (nI p))) (g8 : zi_get L 8 = some (.int (nI q))) :
    ze_S (D + 1) 11 (some .int) zc_X6_neighbourOf 225 L [.int x] (zm_mk ν) 331 (zi_set (zi_set L 9 (.int x)) 10 (.int (zv_cb ν sd p q))) [] (zm_mk ν) := by
  have ip : zi_in (nI p) 24 = true := zm_in hp (by decide)
  have cp : (nI p).toNatClampNeg = p := nI_clamp (by omega)
  have iq : zi_in (nI q) 24 = true := zm_in hq (by decide)
  have cq : (nI q).toNatClampNeg = q := nI_clamp (by omega)
  by_cases c : sd < 2
  · have hr : zv_cb ν sd p q = (if ν 256 p + ν 258 p < ν 256 q + ν 258 q then ν 256 p + ν 258 p else ν 256 q + ν 258 q) - (if ν 256 q < ν 256 p then ν 256 p else ν 256 q) := if_pos c
    have c1 : ¬ (2 : Int32) ≤ nI sd := nI_ge (b := 2) c (by decide)
    obtain ⟨N1, E1⟩ := ze_Mcommon (h := zm_mk ν) D (ν 256 p) (ν 256 p + ν 258 p) (ν 256 q) (ν 256 q + ν 258 q)
    rw [← hr] at E1
    clear hr
    generalize zv_cb ν sd p q = v at E1 ⊢
    refine ⟨N1, 33, fun F m hF => ?_⟩
    simp (maxDischargeDepth := 9) [zg_0, zg_aload_n, zg_bipush, zg_getfield, zg_goto, zg_iadd, zg_iaload, zg_iconst, zg_ifCond, zg_if_icmp, zg_iinc, zg_iload, zg_iload_n, zg_invokestatic, zg_invokevirtual, zg_ireturn, zg_istore, zg_istore_n, zf_X6_neighbourOf, zi_ld, zi_lda, zi_cmp, zi_retOk, zi_isI, zi_f3, zi_cr, zi_ci, zi_cn, zi_get_ne, zi_nl_i, zi_nl_r, zi_get_set_eq, nl, g0, g2, g4, g8, c1, zM_g, zm_iald (k := 0) zM_A256 ip, zm_iald (k := 0) zM_A256 iq, zm_iald (k := 0) zM_A258 ip, zm_iald (k := 0) zM_A258 iq, cp, cq, zq_Mod_common, E1 F (by omega)]
  · have hr : zv_cb ν sd p q = (if ν 255 p + ν 257 p < ν 255 q + ν 257 q then ν 255 p + ν 257 p else ν 255 q + ν 257 q) - (if ν 255 q < ν 255 p then ν 255 p else ν 255 q) := if_neg c
    have c1 : (2 : Int32) ≤ nI sd := by rcases (by omega : sd = 2 ∨ sd = 3) with rfl | rfl <;> decide
    obtain ⟨N1, E1⟩ := ze_Mcommon (h := zm_mk ν) D (ν 255 p) (ν 255 p + ν 257 p) (ν 255 q) (ν 255 q + ν 257 q)
    rw [← hr] at E1
    clear hr
    generalize zv_cb ν sd p q = v at E1 ⊢
    refine ⟨N1, 32, fun F m hF => ?_⟩
    simp (maxDischargeDepth := 9) [zg_0, zg_aload_n, zg_bipush, zg_getfield, zg_goto, zg_iadd, zg_iaload, zg_iconst, zg_ifCond, zg_if_icmp, zg_iinc, zg_iload, zg_iload_n, zg_invokestatic, zg_invokevirtual, zg_ireturn, zg_istore, zg_istore_n, zf_X6_neighbourOf, zi_ld, zi_lda, zi_cmp, zi_retOk, zi_isI, zi_f3, zi_cr, zi_ci, zi_cn, zi_get_ne, zi_nl_i, zi_nl_r, zi_get_set_eq, nl, g0, g2, g4, g8, c1, zM_g, zm_iald (k := 0) zM_A255 ip, zm_iald (k := 0) zM_A255 iq, zm_iald (k := 0) zM_A257 ip, zm_iald (k := 0) zM_A257 iq, cp, cq, zq_Mod_common, E1 F (by omega)]
end ZVN
