/-! the reference: moveTabs -/
/-- the tree behind the tabs W have come to its first leaf n0, or to a new one -/
def zu_AD (μ : zm_M) (τ : Nat) (u : zy_F) (emp : Bool) (W : List Nat) (ν : zm_M) (n0 : Nat) : Prop :=
  (∃ ab, zu_I ν τ (zy_ad emp u W n0) ab) ∧ zu_fr τ μ ν ∧ (emp = false → n0 = (zy_lvs u).getD 0 0 ∧ zu_tb ν τ n0 = zu_tb μ τ n0 ++ W ∧ (∀ n ∈ zy_lvs u, n ≠ n0 → zu_tb ν τ n = zu_tb μ τ n) ∧ ∀ n ∈ zy_ids u, ν 250 (24 * τ + n) = μ 250 (24 * τ + n) ∧ ν 247 (24 * τ + n) = μ 247 (24 * τ + n) ∧ zu_fm ν τ n = zu_fm μ τ n) ∧
  (emp = true → W ≠ [] → n0 < 24 ∧ zu_tb ν τ n0 = W ∧ ν 250 (24 * τ + n0) = nI (W.getD 0 0))
def zu_n0 (emp : Bool) (W : List Nat) (n0 : Nat) : Int32 := if emp = true ∧ W = [] then -1 else nI n0
section ZVS
variable {μ ν : zm_M} {τ : Nat} {u : zy_F} {emp : Bool} {W : List Nat} {n0 : Nat}
theorem zu_tb_T {n : Nat} {l : List Nat} (h : zu_T μ τ n l) (hb : ∀ x ∈ l, x < 10) : zu_tb μ τ n = l := zu_tb_eq h hb
set_option maxRecDepth 100000 in
theorem zu_AD_step (D : Nat) {f w : Nat} (ht : τ < 7) (he : emp = true → u = .nil) (he' : emp = false → zy_wf u) (hA : zu_AD μ τ u emp W ν n0) (hw : w < 10) (hl : ((if emp = true then [] else zu_tb μ τ n0) ++ W).length < 10) (L : zi_Lc) (nl : zi_nl L = true) (g0 : zi_get L 0 = some (.ref 232)) (g2 : zi_get L 2 = some (.int (nI τ))) (g3 : zi_get L 3 = some (.int (zu_n0 emp W n0))) (g8 : zi_get L 8 = some (.int (nI w))) :
    ∃ ν' n0' L', ze_S (D + 3) 9 (some .int) zc_X6_moveTabs 86 L [] (zm_mk ν) 116 L' [] (zm_mk ν') ∧ zu_AD μ τ u emp (W ++ [w]) ν' n0' ∧ (emp = false → n0' = n0) ∧ zi_nl L' = true ∧ (∀ j x, j ≠ 3 → x.category = 1 → zi_get L j = some x → zi_get L' j = some x) ∧ zi_get L' 3 = some (.int (zu_n0 emp (W ++ [w]) n0')) := by
  obtain ⟨lc, cM⟩ := zM_c (μ := ν)
  obtain ⟨⟨ab, hI⟩, fr, hF, hT⟩ := hA
  by_cases c : emp = true ∧ W = []
  · obtain ⟨e1, e2⟩ := c
    have eu := he e1
    subst eu e1 e2
    have hI : zu_I ν τ .nil ab := hI
    have g3 : zi_get L 3 = some (.int (-1)) := g3
    obtain ⟨ν1, f, ⟨N1, E1⟩, hf, hn⟩ := ze_MnewLeafI (μ := ν) D ht hI hw
    have it : zi_in (nI τ) 7 = true := zm_in ht (by decide)
    have ct : (nI τ).toNatClampNeg = τ := nI_clamp (by omega)
    obtain ⟨lc1, cM1⟩ := zM_c (μ := ν1)
    refine ⟨zm_up ν1 243 τ (nI f), f, zi_set L 3 (.int (nI f)), ⟨N1, 13, fun F m hF => ?_⟩, ⟨⟨_, hn.1⟩, fr.trans hn.2.2.2.2, (fun e => by cases e), fun _ _ => ⟨hf, zu_tb_T hn.2.2.1 (fun x hx => by rw [List.mem_singleton.mp hx]; exact hw), hn.2.2.2.1⟩⟩, (fun e => by cases e), by simp (maxDischargeDepth := 9) [zi_get_ne, zi_nl_i, zi_nl_r, zi_get_set_eq, nl], (fun j x hj hx g => zi_get_set_ne hj g hx), by rw [zi_get_set_eq]; rfl⟩
    simp (maxDischargeDepth := 9) [zg_0, zg_aload_n, zg_bipush, zg_getfield, zg_goto, zg_iadd, zg_iaload, zg_iastore, zg_iconst, zg_ifCond, zg_if_icmp, zg_iinc, zg_iload, zg_iload_n, zg_imul, zg_invokestatic, zg_invokevirtual, zg_ireturn, zg_istore, zg_istore_n, zf_X6_moveTabs, zi_ld, zi_lda, zi_cmp, zi_retOk, zi_isI, zi_f3, zi_cr, zi_ci, zi_cn, zi_get_ne, zi_nl_i, zi_nl_r, zi_get_set_eq, nl, g0, g2, g3, g8, cM, zM_g, zq_Mod_newLeaf, E1 F (by omega), zm_iast zM_A243 it, ct]
  · have g3 : zi_get L 3 = some (.int (nI n0)) := by rw [g3]; unfold zu_n0; rw [if_neg c]
    have hmem : n0 ∈ zy_lvs (zy_ad emp u W n0) ∧ (zu_tb ν τ n0).length < 10 := by
      cases emp with
      | true =>
        have hW : W ≠ [] := fun e => c ⟨rfl, e⟩
        have : zy_ad true u W n0 = .tag n0 .nil := if_pos ⟨rfl, hW⟩
        rw [this, (hT rfl hW).2.1]
        exact ⟨List.mem_singleton.mpr rfl, hl⟩
      | false =>
        have : zy_ad false u W n0 = u := if_neg (fun e => by cases e.1)
        rw [this, (hF rfl).2.1]
        refine ⟨?_, hl⟩
        rw [(hF rfl).1]
        exact zl_mem (zy_lvs_pos (he' rfl))
    obtain ⟨hm, hlen⟩ := hmem
    obtain ⟨ν', ⟨N1, E1⟩, i1, i2, i3, i4, i5⟩ := ze_MaddTabI (μ := ν) (D + 1) ht hI hm hw hlen
    have hn24 := zu_I_lt hI hm
    have c0 : ¬ nI n0 < 0 := nI_pos (by omega)
    have c0' : 0 ≤ nI n0 := Int32.not_lt.mp c0
    have et : zu_tb ν' τ n0 = zu_tb ν τ n0 ++ [w] := zu_tb_T i2 (fun x hx => by
      rcases List.mem_append.mp hx with h | h
      · exact (zu_I_tb hI hm).2.2 x h
      · rw [List.mem_singleton.mp h]; exact hw)
    have ead : zy_ad emp u (W ++ [w]) n0 = zy_ad emp u W n0 := by
      unfold zy_ad
      by_cases e1 : emp = true
      · rw [if_pos ⟨e1, zl_snoc_ne⟩, if_pos ⟨e1, fun e => c ⟨e1, e⟩⟩]
      · rw [if_neg (fun e => e1 e.1), if_neg (fun e => e1 e.1)]
    refine ⟨ν', n0, L, ⟨N1, 7, fun F m hF => ?_⟩, ⟨⟨ab, by rw [ead]; exact i1⟩, fr.trans i5, fun e => ?_, fun e _ => ?_⟩, (fun _ => rfl), nl, (fun j x _ _ g => g), by rw [g3]; unfold zu_n0; rw [if_neg (fun e => zl_snoc_ne e.2)]⟩
    · simp (maxDischargeDepth := 9) [zg_0, zg_aload_n, zg_bipush, zg_getfield, zg_goto, zg_iadd, zg_iaload, zg_iastore, zg_iconst, zg_ifCond, zg_if_icmp, zg_iinc, zg_iload, zg_iload_n, zg_imul, zg_invokestatic, zg_invokevirtual, zg_ireturn, zg_istore, zg_istore_n, zf_X6_moveTabs, zi_ld, zi_lda, zi_cmp, zi_retOk, zi_isI, zi_f3, zi_cr, zi_ci, zi_cn, zi_get_ne, zi_nl_i, zi_nl_r, zi_get_set_eq, nl, g0, g2, g3, g8, cM, c0', zM_g, zq_Mod_addTab, E1 F (by omega)]
    · obtain ⟨h1, h2, h3, h4⟩ := hF e
      refine ⟨h1, by rw [et, h2, List.append_assoc], fun n hn hne => ?_, fun n hn => ?_⟩
      · rw [← h3 n hn hne]
        have hn' : n ∈ zy_lvs (zy_ad emp u W n0) := by
          have : zy_ad emp u W n0 = u := if_neg (fun q => by rw [e] at q; cases q.1)
          rw [this]; exact hn
        obtain ⟨a1, a2, a3⟩ := zu_I_tb hI hn'
        exact zu_tb_T (i3 n hne _ a1) a3
      · obtain ⟨p1, p2, p3⟩ := i4 n
        obtain ⟨q1, q2, q3⟩ := h4 n hn
        exact ⟨p1.trans q1, p2.trans q2, p3.trans q3⟩
    · have hW : W ≠ [] := fun q => c ⟨e, q⟩
      obtain ⟨h1, h2, h3⟩ := hT e hW
      exact ⟨h1, by rw [et, h2], by rw [(i4 n0).1, h3, zl_snoc_0 hW]⟩
end ZVS
section ZVS2
variable {μ : zm_M} {τ : Nat} {u uf : zy_F} {emp : Bool} {n0 : Nat} {abf : Nat → Int32}
set_option maxRecDepth 100000 in
theorem zv_mvI (D : Nat) {f m i0 : Nat} (hf : f < 7) (ht : τ < 7) (hne : f ≠ τ) (hm24 : m < 24) {tb W0 : List Nat} (hT : zu_T μ f m tb) (htb : ∀ x ∈ tb, x < 10) (he : emp = true → u = .nil) (he' : emp = false → zy_wf u) {ν0 : zm_M} (hA : zu_AD μ τ u emp W0 ν0 n0) (hl : ∀ n, (emp = false → n = n0) → ((if emp = true then [] else zu_tb μ τ n) ++ (W0 ++ tb)).length ≤ 10) (L0 : zi_Lc) (nl0 : zi_nl L0 = true) (a0 : zi_get L0 0 = some (.ref 232)) (a1 : zi_get L0 1 = some (.int (nI f))) (a2 : zi_get L0 2 = some (.int (nI τ))) (a3 : zi_get L0 3 = some (.int (zu_n0 emp W0 n0))) (a4 : zi_get L0 4 = some (.int (nI W0.length))) (a5 : zi_get L0 5 = some (.int (nI i0))) (a6 : zi_get L0 6 = some (.int (nI (24 * f + m)))) (a7 : zi_get L0 7 = some (.int (nI 0))) :
    ∃ L' h', ze_S (D + 3) 9 (some .int) zc_X6_moveTabs 59 L0 [] (zm_mk ν0) 125 L' [] h' ∧ (zi_nl L' = true ∧ zi_get L' 0 = some (.ref 232) ∧ zi_get L' 1 = some (.int (nI f)) ∧ zi_get L' 2 = some (.int (nI τ)) ∧ zi_get L' 5 = some (.int (nI i0)) ∧ ∃ ν n1, zm_mk ν = h' ∧ zi_get L' 3 = some (.int (zu_n0 emp (W0 ++ tb) n1)) ∧ zi_get L' 4 = some (.int (nI (W0 ++ tb).length)) ∧ (emp = false → n1 = n0) ∧ zu_AD μ τ u emp (W0 ++ tb) ν n1) := by
  have h10 : (Int8.ofInt 10).toInt32 = (10 : Int32) := by decide
  have mk : (10 : Int32) * nI (24 * f + m) = nI (10 * (24 * f + m)) := nI_mul10 (by omega)
  have ia : zi_in (nI (24 * f + m)) 168 = true := zm_in (by omega) (by decide)
  have ca : (nI (24 * f + m)).toNatClampNeg = 24 * f + m := nI_clamp (by omega)
  have hcell : ∀ ν, zu_fr τ μ ν → ν 249 (24 * f + m) = nI tb.length ∧ ∀ j, j < tb.length → ν 248 (10 * (24 * f + m) + j) = nI (tb.getD j 0) := fun ν fr => by
    have := (fr.eqT hne).T hm24 hT
    exact ⟨this.2.1, this.2.2⟩
  have htl := hT.1
  refine ze_loopS (Q := fun i L hp => i ≤ tb.length ∧ zi_nl L = true ∧ zi_get L 0 = some (.ref 232) ∧ zi_get L 1 = some (.int (nI f)) ∧ zi_get L 2 = some (.int (nI τ)) ∧ zi_get L 5 = some (.int (nI i0)) ∧ zi_get L 6 = some (.int (nI (24 * f + m))) ∧ zi_get L 7 = some (.int (nI i)) ∧ ∃ ξ : zm_M, zm_mk ξ = hp ∧ ∃ (n1 : Nat) (z : Int32), zi_get L 3 = some (.int (zu_n0 emp (W0 ++ tb.take i) n1)) ∧ zi_get L 4 = some (.int z) ∧ (z = nI (W0 ++ tb.take i).length ∧ (emp = false → n1 = n0) ∧ zu_AD μ τ u emp (W0 ++ tb.take i) ξ n1)) (R := fun L' h' => zi_nl L' = true ∧ zi_get L' 0 = some (.ref 232) ∧ zi_get L' 1 = some (.int (nI f)) ∧ zi_get L' 2 = some (.int (nI τ)) ∧ zi_get L' 5 = some (.int (nI i0)) ∧ ∃ ν n1, zm_mk ν = h' ∧ zi_get L' 3 = some (.int (zu_n0 emp (W0 ++ tb) n1)) ∧ zi_get L' 4 = some (.int (nI (W0 ++ tb).length)) ∧ (emp = false → n1 = n0) ∧ zu_AD μ τ u emp (W0 ++ tb) ν n1) tb.length ?_ ?_ tb.length 0 _ _ (by omega) ⟨by omega, nl0, a0, a1, a2, a5, a6, a7, ν0, rfl, n0, _, (by rw [List.take_zero, List.append_nil]; exact a3), a4, (by rw [List.take_zero, List.append_nil]), (fun _ => rfl), (by rw [List.take_zero, List.append_nil]; exact hA)⟩
  · rintro i L _ hi ⟨-, nl, g0, g1, g2, g5, g6, g7, ξ, rfl, n1, z, g3, g4, hq⟩
    obtain ⟨rfl, hn1, hA1⟩ := hq
    obtain ⟨k1, k2⟩ := hcell ξ hA1.2.1
    have k2i := k2 i hi
    have c1 : ¬ nI tb.length ≤ nI i := nI_ge hi (by omega)
    have ij : zi_in (nI (10 * (24 * f + m) + i)) 1680 = true := zm_in (by omega) (by decide)
    have cj : (nI (10 * (24 * f + m) + i)).toNatClampNeg = 10 * (24 * f + m) + i := nI_clamp (by omega)
    have hw : tb.getD i 0 < 10 := htb _ (zl_mem hi)
    have htk : tb.take (i + 1) = tb.take i ++ [tb.getD i 0] := zl_take hi
    generalize tb.getD i 0 = w at k2i hw htk
    have hlen : ((if emp = true then [] else zu_tb μ τ n1) ++ (W0 ++ tb.take i)).length < 10 := by
      have := hl n1 hn1
      rw [List.length_append, List.length_append] at this ⊢
      rw [List.length_take]
      omega
    obtain ⟨ν', n2, L', S1, hA2, hn2, nl', hg, g3'⟩ := zu_AD_step (f := f) D ht he he' hA1 hw hlen (zi_set L 8 (.int (nI w))) (by simp (maxDischargeDepth := 9) [zi_get_ne, zi_nl_i, zi_nl_r, zi_get_set_eq, nl]) (by simp (maxDischargeDepth := 9) [zi_get_ne, zi_nl_i, zi_nl_r, zi_get_set_eq, nl, g0]) (by simp (maxDischargeDepth := 9) [zi_get_ne, zi_nl_i, zi_nl_r, zi_get_set_eq, nl, g2]) (by simp (maxDischargeDepth := 9) [zi_get_ne, zi_nl_i, zi_nl_r, zi_get_set_eq, nl, g3]) zi_get_set_eq
    have hW : (W0 ++ tb.take i) ++ [w] = W0 ++ tb.take (i + 1) := by rw [htk, List.append_assoc]
    rw [hW] at hA2 g3'
    have el : (W0 ++ tb.take (i + 1)).length = (W0 ++ tb.take i).length + 1 := by rw [← hW, List.length_append]; rfl
    have b0 : zi_get L' 0 = some (.ref 232) := hg _ _ (by decide) rfl (by simp (maxDischargeDepth := 9) [zi_get_ne, zi_nl_i, zi_nl_r, zi_get_set_eq, nl, g0])
    have b1 : zi_get L' 1 = some (.int (nI f)) := hg _ _ (by decide) rfl (by simp (maxDischargeDepth := 9) [zi_get_ne, zi_nl_i, zi_nl_r, zi_get_set_eq, nl, g1])
    have b2 : zi_get L' 2 = some (.int (nI τ)) := hg _ _ (by decide) rfl (by simp (maxDischargeDepth := 9) [zi_get_ne, zi_nl_i, zi_nl_r, zi_get_set_eq, nl, g2])
    have b4 : zi_get L' 4 = some (.int (nI (W0 ++ tb.take i).length)) := hg _ _ (by decide) rfl (by simp (maxDischargeDepth := 9) [zi_get_ne, zi_nl_i, zi_nl_r, zi_get_set_eq, nl, g4])
    have b5 : zi_get L' 5 = some (.int (nI i0)) := hg _ _ (by decide) rfl (by simp (maxDischargeDepth := 9) [zi_get_ne, zi_nl_i, zi_nl_r, zi_get_set_eq, nl, g5])
    have b6 : zi_get L' 6 = some (.int (nI (24 * f + m))) := hg _ _ (by decide) rfl (by simp (maxDischargeDepth := 9) [zi_get_ne, zi_nl_i, zi_nl_r, zi_get_set_eq, nl, g6])
    have b7 : zi_get L' 7 = some (.int (nI i)) := hg _ _ (by decide) rfl (by simp (maxDischargeDepth := 9) [zi_get_ne, zi_nl_i, zi_nl_r, zi_get_set_eq, nl, g7])
    generalize (W0 ++ tb.take i).length = q at g4 b4 el
    have S0 : ze_S (D + 3) 9 (some .int) zc_X6_moveTabs 59 L [] (zm_mk ξ) 86 (zi_set L 8 (.int (nI w))) [] (zm_mk ξ) := by
      refine ⟨0, 15, fun F m hF => ?_⟩
      simp (maxDischargeDepth := 9) [zg_0, zg_aload_n, zg_bipush, zg_getfield, zg_goto, zg_iadd, zg_iaload, zg_iastore, zg_iconst, zg_ifCond, zg_if_icmp, zg_iinc, zg_iload, zg_iload_n, zg_imul, zg_invokestatic, zg_invokevirtual, zg_ireturn, zg_istore, zg_istore_n, zf_X6_moveTabs, zi_ld, zi_lda, zi_cmp, zi_retOk, zi_isI, zi_f3, zi_cr, zi_ci, zi_cn, zi_get_ne, zi_nl_i, zi_nl_r, zi_get_set_eq, nl, g0, g1, g2, g4, g5, g6, g7, zM_g, zm_iald (k := 0) zM_A249 ia, ca, k1, c1, h10, mk, nI_add, zm_iald (k := 0) zM_A248 ij, cj, k2i]
    refine ⟨zi_set (zi_set L' 4 (.int (nI (q + 1)))) 7 (.int (nI (i + 1))), zm_mk ν', S0.trans (S1.trans ⟨0, 3, fun F m hF => ?_⟩), by omega, ?_, ?_, ?_, ?_, ?_, ?_, zi_get_set_eq, ν', rfl, n2, nI (q + 1), ?_, ?_, by rw [el], (fun e => (hn2 e).trans (hn1 e)), hA2⟩
    · have nl := nl'
      simp (maxDischargeDepth := 9) [zg_0, zg_aload_n, zg_bipush, zg_getfield, zg_goto, zg_iadd, zg_iaload, zg_iastore, zg_iconst, zg_ifCond, zg_if_icmp, zg_iinc, zg_iload, zg_iload_n, zg_imul, zg_invokestatic, zg_invokevirtual, zg_ireturn, zg_istore, zg_istore_n, zf_X6_moveTabs, zi_ld, zi_lda, zi_cmp, zi_retOk, zi_isI, zi_f3, zi_cr, zi_ci, zi_cn, zi_get_ne, zi_nl_i, zi_nl_r, zi_get_set_eq, nl, b0, b1, b2, b4, b5, b6, b7, nI_1]
    · have nl := nl'
      simp (maxDischargeDepth := 9) [zi_get_ne, zi_nl_i, zi_nl_r, zi_get_set_eq, nl]
    · have nl := nl'
      simp (maxDischargeDepth := 9) [zi_get_ne, zi_nl_i, zi_nl_r, zi_get_set_eq, nl, b0]
    · have nl := nl'
      simp (maxDischargeDepth := 9) [zi_get_ne, zi_nl_i, zi_nl_r, zi_get_set_eq, nl, b1]
    · have nl := nl'
      simp (maxDischargeDepth := 9) [zi_get_ne, zi_nl_i, zi_nl_r, zi_get_set_eq, nl, b2]
    · have nl := nl'
      simp (maxDischargeDepth := 9) [zi_get_ne, zi_nl_i, zi_nl_r, zi_get_set_eq, nl, b5]
    · have nl := nl'
      simp (maxDischargeDepth := 9) [zi_get_ne, zi_nl_i, zi_nl_r, zi_get_set_eq, nl, b6]
    · have nl := nl'
      simp (maxDischargeDepth := 9) [zi_get_ne, zi_nl_i, zi_nl_r, zi_get_set_eq, nl, g3']
    · have nl := nl'
      simp (maxDischargeDepth := 9) [zi_get_ne, zi_nl_i, zi_nl_r, zi_get_set_eq, nl]
  · rintro L _ ⟨-, nl, g0, g1, g2, g5, g6, g7, ξ, rfl, n1, z, g3, g4, hq⟩
    obtain ⟨rfl, hn1, hA1⟩ := hq
    rw [List.take_length] at *
    obtain ⟨k1, k2⟩ := hcell ξ hA1.2.1
    have c1 : nI tb.length ≤ nI tb.length := Int32.le_refl _
    refine ⟨L, zm_mk ξ, ⟨0, 6, fun F m hF => ?_⟩, nl, g0, g1, g2, g5, ξ, n1, rfl, g3, g4, hn1, hA1⟩
    simp (maxDischargeDepth := 9) [zg_0, zg_aload_n, zg_bipush, zg_getfield, zg_goto, zg_iadd, zg_iaload, zg_iastore, zg_iconst, zg_ifCond, zg_if_icmp, zg_iinc, zg_iload, zg_iload_n, zg_imul, zg_invokestatic, zg_invokevirtual, zg_ireturn, zg_istore, zg_istore_n, zf_X6_moveTabs, zi_ld, zi_lda, zi_cmp, zi_retOk, zi_isI, zi_f3, zi_cr, zi_ci, zi_cn, zi_get_ne, zi_nl_i, zi_nl_r, zi_get_set_eq, nl, g0, g1, g2, g4, g5, g6, g7, zM_g, zm_iald (k := 0) zM_A249 ia, ca, k1, c1]
end ZVS2
