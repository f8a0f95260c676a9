/-! Tree.listNodes -/
section ZT4
variable {T : Nat}
/-- what listNodes leaves as it was -/
def zt_frO (T : Nat) (μ μ' : zm_M) : Prop := (∀ a, a ≠ T → a ≠ T + 13 → a ≠ T + 14 → μ' a = μ a) ∧ ∀ b, b ≠ 12 → μ' T b = μ T b
theorem zt_frO.trans {μ ν ξ : zm_M} (h : zt_frO T μ ν) (g : zt_frO T ν ξ) : zt_frO T μ ξ := ⟨fun a h1 h2 h3 => (g.1 a h1 h2 h3).trans (h.1 a h1 h2 h3), fun b hb => (g.2 b hb).trans (h.2 b hb)⟩
def zy_okM (μ : zm_M) (T : Nat) (t : zy_F) : Prop := zy_ok (μ (T + 7)) (μ (T + 9)) (μ (T + 10)) (μ (T + 11)) t
theorem zt_frO.ok {μ ν : zm_M} {t : zy_F} (h : zt_frO T μ ν) (g : zy_okM μ T t) : zy_okM ν T t := by
  unfold zy_okM at *
  rw [h.1 (T + 7) (by omega) (by omega) (by omega), h.1 (T + 9) (by omega) (by omega) (by omega), h.1 (T + 10) (by omega) (by omega) (by omega), h.1 (T + 11) (by omega) (by omega) (by omega)]
  exact g
set_option maxRecDepth 100000 in
theorem zt_list_S (D : Nat) (h : zt_at T) : ∀ t, zy_wf t → ∀ (μ : zm_M) (L : zi_Lc) (lf i k : Nat), zy_okM μ T t → (∀ n ∈ zy_ids t, n < 19) →
    zi_get L 0 = some (.ref (T + 1)) → zi_get L 1 = some (.int (nI (lf + 1))) → zi_get L 2 = some (.int (nI i)) → μ (T + 14) lf = nI (zy_id t) → μ T 12 = nI k →
    i + (zy_ids t).length ≤ 19 → k + (zy_ids t).length ≤ 19 → lf + (zy_ids t).length ≤ 19 →
    ∃ μ' L', ze_S D 4 none zc_X3_listNodes 29 L [] (zm_mk μ) 29 L' [] (zm_mk μ') ∧ zi_get L' 0 = some (.ref (T + 1)) ∧ zi_get L' 1 = some (.int (nI lf)) ∧ zi_get L' 2 = some (.int (nI (i + (zy_ids t).length))) ∧
      zt_frO T μ μ' ∧ (∀ b, b < lf → μ' (T + 14) b = μ (T + 14) b) ∧ (∀ b, b < k → μ' (T + 13) b = μ (T + 13) b) ∧ μ' T 12 = nI (k + (zy_ids t).length) ∧ ∀ j, j < (zy_ids t).length → μ' (T + 13) (k + j) = nI ((zy_ids t).getD j 0) := by
  have h19 : (Int8.ofInt 19).toInt32 = (19 : Int32) := by decide
  have n2 : nI 2 = 2 := by decide
  apply zy_ind
  · intro n μ L lf i k hok hlt g0 g1 g2 hw hk hi hk2 hlf
    have hn : n < 19 := hlt n List.mem_cons_self
    have hfm : μ (T + 7) n = 2 := hok
    have hi : i + 1 ≤ 19 := hi
    have hk2 : k + 1 ≤ 19 := hk2
    have hlf : lf + 1 ≤ 19 := hlf
    have c1 : ¬ (19 : Int32) ≤ nI i := nI_ge (b := 19) (by omega) (by decide)
    have c2 : ¬ nI (lf + 1) ≤ 0 := nI_nle (by omega) (by omega)
    have i1 : zi_in (nI lf) 19 = true := zm_in (by omega) (by decide)
    have i2 : zi_in (nI k) 19 = true := zm_in (by omega) (by decide)
    have i3 : zi_in (nI n) 19 = true := zm_in (by omega) (by decide)
    have e1 : (nI lf).toNatClampNeg = lf := nI_clamp (by omega)
    have e2 : (nI k).toNatClampNeg = k := nI_clamp (by omega)
    have e3 : (nI n).toNatClampNeg = n := nI_clamp (by omega)
    have hw : μ (T + 14) lf = nI n := hw
    have u1 : zm_up μ (T + 13) k (nI n) T 12 = nI k := by rw [zm_up_ne (by omega)]; exact hk
    have u2 : ∀ x, zm_up (zm_up μ (T + 13) k (nI n)) T 12 x (T + 7) n = 2 := fun x => by rw [zm_up_ne (by omega), zm_up_ne (by omega)]; exact hfm
    refine ⟨zm_up (zm_up μ (T + 13) k (nI n)) T 12 (nI (k + 1)), zi_set (zi_set (zi_set L 1 (.int (nI lf))) 3 (.int (nI n))) 2 (.int (nI (i + 1))), ⟨0, 31, fun F m _ => ?_⟩, zi_get_set_ne (by decide) (zi_get_set_ne (by decide) (zi_get_set_ne (by decide) g0 rfl) rfl) rfl, zi_get_set_ne (by decide) (zi_get_set_ne (by decide) zi_get_set_eq rfl) rfl, zi_get_set_eq, ⟨fun a h1 h2 h3 => ?_, fun b hb => ?_⟩, fun b hb => ?_, fun b hb => ?_, zm_up_eq, fun j hj => ?_⟩
    · have q0 : zi_get (zi_set L 1 (.int (nI lf))) 0 = some (.ref (T + 1)) := zi_get_set_ne (by decide) g0 rfl
      have q2 : zi_get (zi_set L 1 (.int (nI lf))) 2 = some (.int (nI i)) := zi_get_set_ne (by decide) g2 rfl
      have q1 : zi_get (zi_set L 1 (.int (nI lf))) 1 = some (.int (nI lf)) := zi_get_set_eq
      have r0 : zi_get (zi_set (zi_set L 1 (.int (nI lf))) 3 (.int (nI n))) 0 = some (.ref (T + 1)) := zi_get_set_ne (by decide) q0 rfl
      have r2 : zi_get (zi_set (zi_set L 1 (.int (nI lf))) 3 (.int (nI n))) 2 = some (.int (nI i)) := zi_get_set_ne (by decide) q2 rfl
      have r3 : zi_get (zi_set (zi_set L 1 (.int (nI lf))) 3 (.int (nI n))) 3 = some (.int (nI n)) := zi_get_set_eq
      simp [zg_0, zg_aload_n, zg_bipush, zg_dup, zg_getfield, zg_goto, zg_iadd, zg_iaload, zg_iastore, zg_iconst, zg_ifCond, zg_if_icmp, zg_iinc, zg_iload_n, zg_istore_n, zg_putfield, zg_return, zf_X3_listNodes, zi_ld, zi_lda, zi_cmp, zi_retOk, zi_isI, zi_f3, zi_cr, zi_ci, zi_cn, g0, g1, g2, q0, q1, q2, r0, r2, r3, h19, c1, c2, pk_m1, zt_g h, zm_iald (k := 0) h.2.2.2.2.1.2.2.2.2.2.2.2 i1, e1, hw, hk, zm_iast h.2.2.2.2.1.2.2.2.2.2.2.1 i2, e2, u1, nI_1, zt_p12 h, zm_iald (k := 0) h.2.2.2.2.1.1 i3, e3, u2]
    · rw [zm_up_row h1, zm_up_row h2]
    · rw [zm_up_ne (by omega), zm_up_ne (by omega)]
    · rw [zm_up_ne (by omega), zm_up_ne (by omega)]
    · rw [zm_up_ne (by omega), zm_up_ne (by omega)]
    · have : j = 0 := by
        have : j < 1 := hj
        omega
      subst this
      rw [zm_up_ne (by omega)]
      exact zm_up_eq
  · intro n a b wa wb iha ihb μ L lf i k hok hlt g0 g1 g2 hw hk hi hk2 hlf
    have hlen : (zy_ids (.append (.tag n a) b)).length = (zy_ids a).length + (zy_ids b).length + 1 := by
      show (n :: (zy_ids a ++ zy_ids b)).length = _
      simp only [List.length_cons, List.length_append]
    rw [hlen] at hi hk2 hlf ⊢
    have pa := zy_len_pos wa
    have pb := zy_len_pos wb
    have hn : n < 19 := hlt n List.mem_cons_self
    have hla : ∀ m ∈ zy_ids a, m < 19 := fun m hm => hlt m (List.mem_cons_of_mem _ (List.mem_append_left _ hm))
    have hlb : ∀ m ∈ zy_ids b, m < 19 := fun m hm => hlt m (List.mem_cons_of_mem _ (List.mem_append_right _ hm))
    have hok0 := hok
    obtain ⟨⟨hfm, hfs, hsd, -, -⟩, oka, okb⟩ := hok0
    have hfm2 : ¬ μ (T + 7) n = 2 := by rcases hfm with e | e <;> rw [e] <;> decide
    have c1 : ¬ (19 : Int32) ≤ nI i := nI_ge (b := 19) (by omega) (by decide)
    have c2 : ¬ nI (lf + 1) ≤ 0 := nI_nle (by omega) (by omega)
    have i1 : zi_in (nI lf) 19 = true := zm_in (by omega) (by decide)
    have i1' : zi_in (nI (lf + 1)) 19 = true := zm_in (by omega) (by decide)
    have i2 : zi_in (nI k) 19 = true := zm_in (by omega) (by decide)
    have i3 : zi_in (nI n) 19 = true := zm_in (by omega) (by decide)
    have e1 : (nI lf).toNatClampNeg = lf := nI_clamp (by omega)
    have e1' : (nI (lf + 1)).toNatClampNeg = lf + 1 := nI_clamp (by omega)
    have e2 : (nI k).toNatClampNeg = k := nI_clamp (by omega)
    have e3 : (nI n).toNatClampNeg = n := nI_clamp (by omega)
    have hw : μ (T + 14) lf = nI n := hw
    let ν := zm_up (zm_up μ (T + 13) k (nI n)) T 12 (nI (k + 1))
    have hν : zm_up (zm_up μ (T + 13) k (nI n)) T 12 (nI (k + 1)) = ν := rfl
    have u1 : zm_up μ (T + 13) k (nI n) T 12 = nI k := by rw [zm_up_ne (by omega)]; exact hk
    have v7 : ν (T + 7) n = μ (T + 7) n := by show zm_up _ _ _ _ _ _ = _; rw [zm_up_ne (by omega), zm_up_ne (by omega)]
    have v10 : ν (T + 10) n = nI (zy_id b) := by show zm_up _ _ _ _ _ _ = _; rw [zm_up_ne (by omega), zm_up_ne (by omega)]; exact hsd
    have v9 : zm_up ν (T + 14) lf (nI (zy_id b)) (T + 9) n = nI (zy_id a) := by rw [zm_up_ne (by omega)]; show zm_up _ _ _ _ _ _ = _; rw [zm_up_ne (by omega), zm_up_ne (by omega)]; exact hfs
    let ξ := zm_up (zm_up ν (T + 14) lf (nI (zy_id b))) (T + 14) (lf + 1) (nI (zy_id a))
    have fξ : zt_frO T μ ξ := ⟨fun a h1 h2 h3 => by show zm_up _ _ _ _ _ = _; rw [zm_up_row h3, zm_up_row h3]; show zm_up _ _ _ _ _ = _; rw [zm_up_row h1, zm_up_row h2], fun b hb => by show zm_up _ _ _ _ _ _ = _; rw [zm_up_ne (by omega), zm_up_ne (by omega)]; show zm_up _ _ _ _ _ _ = _; rw [zm_up_ne (by omega), zm_up_ne (by omega)]⟩
    have x12 : ξ T 12 = nI (k + 1) := by show zm_up _ _ _ _ _ _ = _; rw [zm_up_ne (by omega), zm_up_ne (by omega)]; exact zm_up_eq
    have xl : ξ (T + 14) lf = nI (zy_id b) := by show zm_up _ _ _ _ _ _ = _; rw [zm_up_ne (by omega)]; exact zm_up_eq
    have xl' : ξ (T + 14) (lf + 1) = nI (zy_id a) := zm_up_eq
    let M0 := zi_set (zi_set L 1 (.int (nI lf))) 3 (.int (nI n))
    let M := zi_set (zi_set M0 1 (.int (nI (lf + 2)))) 2 (.int (nI (i + 1)))
    have q0 : zi_get (zi_set L 1 (.int (nI lf))) 0 = some (.ref (T + 1)) := zi_get_set_ne (by decide) g0 rfl
    have q2 : zi_get (zi_set L 1 (.int (nI lf))) 2 = some (.int (nI i)) := zi_get_set_ne (by decide) g2 rfl
    have q1 : zi_get (zi_set L 1 (.int (nI lf))) 1 = some (.int (nI lf)) := zi_get_set_eq
    have r0 : zi_get M0 0 = some (.ref (T + 1)) := zi_get_set_ne (by decide) q0 rfl
    have r1 : zi_get M0 1 = some (.int (nI lf)) := zi_get_set_ne (by decide) q1 rfl
    have r2 : zi_get M0 2 = some (.int (nI i)) := zi_get_set_ne (by decide) q2 rfl
    have r3 : zi_get M0 3 = some (.int (nI n)) := zi_get_set_eq
    have hM0 : zi_set (zi_set L 1 (.int (nI lf))) 3 (.int (nI n)) = M0 := rfl
    have s0 : zi_get (zi_set M0 1 (.int (nI (lf + 2)))) 0 = some (.ref (T + 1)) := zi_get_set_ne (by decide) r0 rfl
    have s2 : zi_get (zi_set M0 1 (.int (nI (lf + 2)))) 2 = some (.int (nI i)) := zi_get_set_ne (by decide) r2 rfl
    have s1 : zi_get (zi_set M0 1 (.int (nI (lf + 2)))) 1 = some (.int (nI (lf + 2))) := zi_get_set_eq
    have a2 : nI lf + 2 = nI (lf + 2) := by rw [← n2, nI_add]
    have step : ze_S D 4 none zc_X3_listNodes 29 L [] (zm_mk μ) 29 M [] (zm_mk ξ) := by
      refine ⟨0, 50, fun F m _ => ?_⟩
      simp [zg_0, zg_aload_n, zg_bipush, zg_dup, zg_getfield, zg_goto, zg_iadd, zg_iaload, zg_iastore, zg_iconst, zg_ifCond, zg_if_icmp, zg_iinc, zg_iload_n, zg_istore_n, zg_putfield, zg_return, zf_X3_listNodes, zi_ld, zi_lda, zi_cmp, zi_retOk, zi_isI, zi_f3, zi_cr, zi_ci, zi_cn, g0, g1, g2, q0, q1, q2, hM0, r0, r1, r2, r3, s0, s2, h19, c1, c2, pk_m1, zt_g h, zm_iald (k := 0) h.2.2.2.2.1.2.2.2.2.2.2.2 i1, e1, hw, hk, zm_iast h.2.2.2.2.1.2.2.2.2.2.2.1 i2, e2, u1, nI_1, zt_p12 h, hν, zm_iald (k := 0) h.2.2.2.2.1.1 i3, e3, v7, hfm2, zm_iald (k := 0) h.2.2.2.2.1.2.2.2.1 i3, v10, zm_iast h.2.2.2.2.1.2.2.2.2.2.2.2 i1, v9, zm_iald (k := 0) h.2.2.2.2.1.2.2.1 i3, zm_iast h.2.2.2.2.1.2.2.2.2.2.2.2 i1', e1', a2]
      rfl
    obtain ⟨μ2, L2, S2, a0, a1, a2', fr2, w2, o2, n2', p2⟩ := iha ξ M (lf + 1) (i + 1) (k + 1) (fξ.ok oka) hla (zi_get_set_ne (by decide) s0 rfl) (zi_get_set_ne (by decide) s1 rfl) zi_get_set_eq xl' x12 (by omega) (by omega) (by omega)
    obtain ⟨μ3, L3, S3, b0, b1, b2, fr3, w3, o3, n3, p3⟩ := ihb μ2 L2 lf (i + 1 + (zy_ids a).length) (k + 1 + (zy_ids a).length) (fr2.ok (fξ.ok okb)) hlb a0 a1 a2' (by rw [w2 lf (by omega)]; exact xl) n2' (by omega) (by omega) (by omega)
    have ek : k + 1 + (zy_ids a).length + (zy_ids b).length = k + ((zy_ids a).length + (zy_ids b).length + 1) := by omega
    have ei : i + 1 + (zy_ids a).length + (zy_ids b).length = i + ((zy_ids a).length + (zy_ids b).length + 1) := by omega
    rw [ek] at n3
    rw [ei] at b2
    refine ⟨μ3, L3, (step.trans S2).trans S3, b0, b1, b2, (fξ.trans fr2).trans fr3, fun c hc => ?_, fun c hc => ?_, n3, fun j hj => ?_⟩
    · rw [w3 c hc, w2 c (by omega)]
      show zm_up _ _ _ _ _ _ = _
      rw [zm_up_ne (by omega), zm_up_ne (by omega)]
      show zm_up _ _ _ _ _ _ = _
      rw [zm_up_ne (by omega), zm_up_ne (by omega)]
    · rw [o3 c (by omega), o2 c (by omega)]
      show zm_up _ _ _ _ _ _ = _
      rw [zm_up_ne (by omega), zm_up_ne (by omega)]
      show zm_up _ _ _ _ _ _ = _
      rw [zm_up_ne (by omega), zm_up_ne (by omega)]
    · show _ = nI ((n :: (zy_ids a ++ zy_ids b)).getD j 0)
      cases j with
      | zero =>
        rw [o3 (k + 0) (by omega), o2 (k + 0) (by omega)]
        show zm_up _ _ _ _ _ _ = _
        rw [zm_up_ne (by omega), zm_up_ne (by omega)]
        show zm_up _ _ _ _ _ _ = _
        rw [zm_up_ne (by omega)]
        exact zm_up_eq
      | succ j =>
        show _ = nI ((zy_ids a ++ zy_ids b).getD j 0)
        by_cases hj2 : j < (zy_ids a).length
        · rw [o3 _ (by omega), show k + (j + 1) = k + 1 + j by omega, p2 j hj2]
          congr 1
          rw [List.getD_eq_getElem?_getD, List.getD_eq_getElem?_getD, List.getElem?_append_left hj2]
        · rw [show k + (j + 1) = k + 1 + (zy_ids a).length + (j - (zy_ids a).length) by omega, p3 _ (by omega)]
          congr 1
          rw [List.getD_eq_getElem?_getD, List.getD_eq_getElem?_getD, List.getElem?_append_right (by omega)]
end ZT4
