/-! the reference: raise whole -/
section ZVE
variable {rk : Nat → Nat} {B : Nat} {K O : Nat → Int32}
set_option maxRecDepth 100000 in
theorem ze_Mraise (hB : ∀ x, x < 10 → rk x ≤ B) (hr : ∀ o k, o < 10 → k < 10 → K o = 3 → O o = nI k → rk k < rk o) : ∀ (n k D : Nat), k < 10 → B - rk k ≤ n → ∀ (μ : zm_M) (l : List Nat), (∀ x, x < 10 → μ 234 x = K x ∧ μ 237 x = O x) → zv_L μ 241 10 l → l.Nodup → (∀ x ∈ l, x < 10) → (∀ x, x < 10 → K x = 3 → ∃ o, o < 10 ∧ O x = nI o) →
    ∃ ν l', ze_E (D + 2 + n) A_Mod_raise [.ref 232, .int (nI k)] (zm_mk μ) none (zm_mk ν) ∧ zv_L ν 241 10 l' ∧ l'.Nodup ∧ (∀ x, x ∈ l' ↔ x ∈ l ∨ (x = k ∧ 2 ≤ K k)) ∧ ∀ c d, c ≠ 241 → ¬ (c = 231 ∧ d = 10) → ν c d = μ c d := by
  intro n
  induction n with
  | zero =>
    intro k D hk hn μ l hKO hL hd hb ho
    obtain ⟨μ1, l1, s1, L1, d1, m1, f1⟩ := zv_raise0 (μ := μ) D hk hL hd hb
    rw [(hKO k hk).1] at m1
    have hb1 : ∀ x ∈ l1, x < 10 := fun x hx => by
      rcases (m1 x).mp hx with h | h
      · exact hb x h
      · rw [h.1]; exact hk
    have hKO1 : ∀ x, x < 10 → μ1 234 x = K x ∧ μ1 237 x = O x := fun x hx => by
      rw [f1 _ _ (by decide) (by omega), f1 _ _ (by decide) (by omega)]; exact hKO x hx
    obtain ⟨L', h', s2, rfl, nl, g0, g1, g5, g2, W, g3, hW⟩ := zv_raise1 (μ := μ1) (D + 1) hk L1 hb1 (fun x hx e => by
      rw [(hKO1 x (hb1 x hx)).1] at e
      rw [(hKO1 x (hb1 x hx)).2]
      exact ho x (hb1 x hx) e)
    have e0 : l1.filter (fun x => decide (μ1 234 x = 3 ∧ μ1 237 x = nI k)) = [] := by
      refine List.eq_nil_iff_forall_not_mem.mpr fun x hx => ?_
      obtain ⟨h1, h2⟩ := List.mem_filter.mp hx
      have hx10 := hb1 x h1
      have h2 := of_decide_eq_true h2
      rw [(hKO1 x hx10).1, (hKO1 x hx10).2] at h2
      have := hr x k hx10 hk h2.1 h2.2
      have := hB x hx10
      omega
    rw [e0] at g2
    have c1 : nI ([] : List Nat).length ≤ nI 0 := by decide
    refine ⟨μ1, l1, ze_in [(0, .ref 232), (1, .int (nI k))] zq_Mod_raise (Nat.le_of_ble_eq_true rfl) rfl ((s1.trans s2).end ⟨0, 4, fun F m hF => ?_⟩), L1, d1, m1, f1⟩
    simp [zg_0, zg_aload_n, zg_dup, zg_getfield, zg_goto, zg_i2l, zg_iadd, zg_iaload, zg_iastore, zg_iconst, zg_ifCond, zg_if_icmp, zg_iinc, zg_iload, zg_iload_n, zg_imul, zg_invokevirtual, zg_istore, zg_istore_n, zg_l2i, zg_land, zg_lconst, zg_ldc2_w, zg_lload_n, zg_lor, zg_lshl, zg_lshr, zg_lstore_n, zg_putfield, zg_return, zf_X6_raise, zi_ld, zi_lda, zi_cmp, zi_retOk, zi_isI, zi_f3, zi_cr, zi_ci, zi_cn, g5, g2, c1]
  | succ n ih =>
    intro k D hk hn μ l hKO hL hd hb ho
    obtain ⟨μ1, l1, s1, L1, d1, m1, f1⟩ := zv_raise0 (μ := μ) (D + 1 + n) hk hL hd hb
    have eD : D + 1 + n + 1 = D + 2 + n := by omega
    rw [eD] at s1
    rw [(hKO k hk).1] at m1
    have hb1 : ∀ x ∈ l1, x < 10 := fun x hx => by
      rcases (m1 x).mp hx with h | h
      · exact hb x h
      · rw [h.1]; exact hk
    have hKO1 : ∀ x, x < 10 → μ1 234 x = K x ∧ μ1 237 x = O x := fun x hx => by
      rw [f1 _ _ (by decide) (by omega), f1 _ _ (by decide) (by omega)]; exact hKO x hx
    obtain ⟨L', h', s2, rfl, nl, g0, g1, g5, g2, W, g3, hW⟩ := zv_raise1 (μ := μ1) (D + 2 + n) hk L1 hb1 (fun x hx e => by
      rw [(hKO1 x (hb1 x hx)).1] at e
      rw [(hKO1 x (hb1 x hx)).2]
      exact ho x (hb1 x hx) e)
    have hc : ∀ x ∈ l1.filter (fun x => decide (μ1 234 x = 3 ∧ μ1 237 x = nI k)), x ∈ l1 ∧ x < 10 ∧ B - rk x ≤ n := fun x hx => by
      obtain ⟨h1, h2⟩ := List.mem_filter.mp hx
      have hx10 := hb1 x h1
      have h2 := of_decide_eq_true h2
      rw [(hKO1 x hx10).1, (hKO1 x hx10).2] at h2
      have := hr x k hx10 hk h2.1 h2.2
      have := hB x hx10
      exact ⟨h1, hx10, by omega⟩
    have hcl : (l1.filter (fun x => decide (μ1 234 x = 3 ∧ μ1 237 x = nI k))).length ≤ 10 := Nat.le_trans (List.length_filter_le _ _) L1.1
    generalize l1.filter (fun x => decide (μ1 234 x = 3 ∧ μ1 237 x = nI k)) = c at *
    have key := ze_loop (D := D + 2 + n) (nL := 6) (ret := none) (code0 := zc_X6_raise) (pc := 108) (Q := fun i L hp => zi_n3 L = true ∧ zi_get L 0 = some (.ref 232) ∧ zi_get L 1 = some (.int (nI k)) ∧ zi_get L 5 = some (.int (nI i)) ∧ zi_get L 2 = some (.int (nI c.length)) ∧ zi_get L 3 = some (.long W) ∧ ∃ ξ l', zm_mk ξ = hp ∧ zv_L ξ 241 10 l' ∧ l'.Nodup ∧ (∀ x, x ∈ l' ↔ x ∈ l1) ∧ ∀ c d, c ≠ 241 → ¬ (c = 231 ∧ d = 10) → ξ c d = μ1 c d)
      (R := fun r h' => r = none ∧ ∃ ξ l', zm_mk ξ = h' ∧ zv_L ξ 241 10 l' ∧ l'.Nodup ∧ (∀ x, x ∈ l' ↔ x ∈ l1) ∧ ∀ c d, c ≠ 241 → ¬ (c = 231 ∧ d = 10) → ξ c d = μ1 c d) c.length ?_ ?_ c.length 0 L' (zm_mk μ1) (by omega) ⟨nl, g0, g1, g5, g2, g3, μ1, l1, rfl, L1, d1, fun _ => Iff.rfl, fun _ _ _ _ => rfl⟩
    · obtain ⟨r, h', G, rfl, ν, l', rfl, a1, a2, a3, a4⟩ := key
      refine ⟨ν, l', ze_in [(0, .ref 232), (1, .int (nI k))] zq_Mod_raise (Nat.le_of_ble_eq_true rfl) rfl ((s1.trans s2).end G), a1, a2, fun x => (a3 x).trans (m1 x), fun c d h1 h2 => (a4 c d h1 h2).trans (f1 c d h1 h2)⟩
    · rintro i L _ hi ⟨nl, g0, g1, g5, g2, g3, ξ, l', rfl, a1, a2, a3, a4⟩
      left
      have c1 : ¬ nI c.length ≤ nI i := nI_ge hi (by omega)
      have m4 : (4 : Int32) * nI i = nI (4 * i) := by
        have : ∀ n, n < 10 → (4 : Int32) * nI n = nI (4 * n) := by decide
        exact this _ (by omega)
      have hdec := zv_dec hW (fun y hy => (hc y hy).2.1) hcl hi
      obtain ⟨x1, x2, x3⟩ := hc _ (zl_mem hi)
      generalize c.getD i 0 = x at hdec x1 x2 x3
      obtain ⟨ν, l2, ⟨N1, E1⟩, b1, b2, b3, b4⟩ := ih x D x2 x3 ξ l' (fun y hy => by rw [a4 _ _ (by decide) (by omega), a4 _ _ (by decide) (by omega)]; exact hKO1 y hy) a1 a2 (fun y hy => hb1 y ((a3 y).mp hy)) ho
      obtain ⟨lc, cM⟩ := zM_c (μ := ξ)
      generalize hV : ((W >>> ((nI (4 * i)).toInt64 &&& 63)) &&& 15) = V at hdec
      have h15 : Int64.ofInt 15 = 15 := by decide
      refine ⟨zi_set L 5 (.int (nI (i + 1))), zm_mk ν, ⟨N1, 15, fun F m hF => ?_⟩, ?_, ?_, ?_, zi_get_set_eq, ?_, ?_, ν, l2, rfl, b1, b2, fun y => ?_, fun c d h1 h2 => (b4 c d h1 h2).trans (a4 c d h1 h2)⟩
      · simp (maxDischargeDepth := 9) [zg_0, zg_aload_n, zg_dup, zg_getfield, zg_goto, zg_i2l, zg_iadd, zg_iaload, zg_iastore, zg_iconst, zg_ifCond, zg_if_icmp, zg_iinc, zg_iload, zg_iload_n, zg_imul, zg_invokevirtual, zg_istore, zg_istore_n, zg_l2i, zg_land, zg_lconst, zg_ldc2_w, zg_lload_n, zg_lor, zg_lshl, zg_lshr, zg_lstore_n, zg_putfield, zg_return, zf_X6_raise, zi_ld, zi_lda, zi_cmp, zi_retOk, zi_isI, zi_f3, zi_cr, zi_ci, zi_cn, zi_g3_ne, zi_n3_i, zi_get_set_eq, nl, g0, g1, g5, g2, g3, c1, m4, h15, hV, hdec, zq_Mod_raise, cM, E1 F (by omega), nI_add, nI_1]
      · simp (maxDischargeDepth := 9) [zi_g3_ne, zi_n3_i, zi_get_set_eq, nl]
      · simp (maxDischargeDepth := 9) [zi_g3_ne, zi_n3_i, zi_get_set_eq, nl, g0]
      · simp (maxDischargeDepth := 9) [zi_g3_ne, zi_n3_i, zi_get_set_eq, nl, g1]
      · simp (maxDischargeDepth := 9) [zi_g3_ne, zi_n3_i, zi_get_set_eq, nl, g2]
      · simp (maxDischargeDepth := 9) [zi_g3_ne, zi_n3_i, zi_get_set_eq, nl, g3]
      · rw [b3, a3]
        exact ⟨fun h => h.elim id (fun h => h.1 ▸ x1), Or.inl⟩
    · rintro L _ ⟨nl, g0, g1, g5, g2, g3, ξ, l', rfl, a1, a2, a3, a4⟩
      have c1 : nI c.length ≤ nI c.length := Int32.le_refl _
      refine ⟨none, zm_mk ξ, ⟨0, 4, fun F m hF => ?_⟩, rfl, ξ, l', rfl, a1, a2, a3, a4⟩
      simp [zg_0, zg_aload_n, zg_dup, zg_getfield, zg_goto, zg_i2l, zg_iadd, zg_iaload, zg_iastore, zg_iconst, zg_ifCond, zg_if_icmp, zg_iinc, zg_iload, zg_iload_n, zg_imul, zg_invokevirtual, zg_istore, zg_istore_n, zg_l2i, zg_land, zg_lconst, zg_ldc2_w, zg_lload_n, zg_lor, zg_lshl, zg_lshr, zg_lstore_n, zg_putfield, zg_return, zf_X6_raise, zi_ld, zi_lda, zi_cmp, zi_retOk, zi_isI, zi_f3, zi_cr, zi_ci, zi_cn, g5, g2, c1]
end ZVE
