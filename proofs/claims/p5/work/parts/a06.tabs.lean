section
/-! the reference: a tab more; a first leaf; an empty tree -/
section ZUB
variable {μ : zm_M} {τ : Nat} {u : zy_F} {ab : Nat → Int32}
/-- a tab more in the leaf m -/
noncomputable def zu_isTab (μ : zm_M) (τ : Nat) (u : zy_F) (ab : Nat → Int32) (m k : Nat) (ν : zm_M) : Prop :=
  zu_I ν τ u ab ∧ zu_T ν τ m (zu_tb μ τ m ++ [k]) ∧ (∀ n, n ≠ m → ∀ l, zu_T μ τ n l → zu_T ν τ n l) ∧ (∀ n, ν 250 (24 * τ + n) = μ 250 (24 * τ + n) ∧ ν 247 (24 * τ + n) = μ 247 (24 * τ + n) ∧ zu_fm ν τ n = zu_fm μ τ n) ∧ zu_fr τ μ ν
theorem ze_MaddTabI (D : Nat) (ht : τ < 7) (hI : zu_I μ τ u ab) {m k : Nat} (hm : m ∈ zy_lvs u) (hk : k < 10) (hl : (zu_tb μ τ m).length < 10) : ∃ ν, ze_E (D + 2) A_Mod_addTab [.ref 232, .int (nI τ), .int (nI m), .int (nI k)] (zm_mk μ) none (zm_mk ν) ∧ zu_isTab μ τ u ab m k ν := by
  obtain ⟨wt, hmid⟩ := zu_I_lv hI hm
  obtain ⟨-, ok, hr, hrt⟩ := zu_I_wf hI hmid
  obtain ⟨-, k5, k6, k8, k9⟩ := id hI
  have hm24 := k6 m hmid
  obtain ⟨hT, hl0, hlb⟩ := zu_I_tb hI hm
  unfold zu_isTab
  generalize zu_tb μ τ m = l at hT hl0 hlb hl
  have E := ze_MaddTab (D := D) ht hm24 hT hl (nI k)
  have T1 := zu_T_add hT hl k
  generalize hν : zm_up (zm_up μ 248 (10 * (24 * τ + m) + l.length) (nI k)) 249 (24 * τ + m) (nI (l.length + 1)) = ν at E T1
  have vo : ∀ c d, c ≠ 248 → c ≠ 249 → ν c d = μ c d := fun c d h8 h9 => by rw [← hν, zm_up_ne (by omega), zm_up_ne (by omega)]
  have T2 : ∀ n, n ≠ m → ∀ l', zu_T μ τ n l' → zu_T ν τ n l' := fun n hn l' ⟨a0, a1, a2⟩ => ⟨a0, by rw [← hν, zm_up_ne (by omega), zm_up_ne (by omega)]; exact a1, fun j hj => by rw [← hν, zm_up_ne (by omega), zm_up_ne (by omega)]; exact a2 j hj⟩
  have fmE : ∀ n, zu_fm ν τ n = zu_fm μ τ n := fun n => by
    unfold zu_fm
    rw [vo _ _ (by decide) (by decide)]
  refine ⟨ν, E, ⟨Or.inr ⟨wt, ?_, by rw [vo _ _ (by decide) (by decide)]; exact hr, hrt⟩, k5, k6, fun n hn hnu => by rw [vo _ _ (by decide) (by decide)]; exact k8 n hn hnu, fun n hn => ?_⟩, T1, T2, fun n => ⟨vo _ _ (by decide) (by decide), vo _ _ (by decide) (by decide), fmE n⟩, fun c d h => ?_⟩
  · exact zy_ok_congr u wt k5 (fun y _ => fmE y) (fun y _ => ⟨vo _ _ (by decide) (by decide), vo _ _ (by decide) (by decide)⟩) (fun _ _ _ => rfl) ok
  · by_cases e : n = m
    · subst e
      refine ⟨_, T1, by simp, fun x hx => ?_⟩
      rcases List.mem_append.mp hx with hx | hx
      · exact hlb x hx
      · rw [List.mem_singleton.mp hx]; exact hk
    · obtain ⟨l', h1, h2⟩ := k9 n hn
      exact ⟨l', T2 n e l' h1, h2⟩
  · rw [← hν, zm_up_ne (fun q => h (Or.inr (Or.inl ⟨by rw [q.1]; rfl, by omega, by omega⟩))), zm_up_ne (fun q => h (Or.inr (Or.inr ⟨q.1, by omega, by omega⟩)))]
/-- a first leaf -/
noncomputable def zu_isNew (μ : zm_M) (τ k : Nat) (ν : zm_M) (f : Nat) : Prop := zu_I ν τ (.tag f .nil) (fun _ => -1) ∧ f < 24 ∧ zu_T ν τ f [k] ∧ ν 250 (24 * τ + f) = nI k ∧ zu_fr τ μ ν
theorem ze_MnewLeafI (D : Nat) (ht : τ < 7) (hI : zu_I μ τ .nil ab) {k : Nat} (hk : k < 10) : ∃ ν f, ze_E (D + 3) A_Mod_newLeaf [.ref 232, .int (nI τ), .int (nI k)] (zm_mk μ) (some (.int (nI f))) (zm_mk ν) ∧ f < 24 ∧ zu_isNew μ τ k (zm_up ν 243 τ (nI f)) f := by
  obtain ⟨-, k5, k6, k8, k9⟩ := id hI
  obtain ⟨f, ⟨hf, hft⟩, E⟩ := ze_MnewLeaf (μ := μ) D ht (nI k) ⟨0, by decide, k8 0 (by decide) List.not_mem_nil⟩
  generalize hν : zm_up (zm_up (zm_up (zm_up (zm_up μ 244 (24 * τ + f) 1) 249 (24 * τ + f) 0) 248 (10 * (24 * τ + f)) (nI k)) 249 (24 * τ + f) 1) 250 (24 * τ + f) (nI k) = ν at E
  have v4 : ∀ i, ν 244 (24 * τ + i) = if i = f then 1 else μ 244 (24 * τ + i) := fun i => by
    rw [← hν, zm_up_ne (by omega), zm_up_ne (by omega), zm_up_ne (by omega), zm_up_ne (by omega), zm_up_pt]
    by_cases e : i = f
    · rw [if_pos (by omega), if_pos e]
    · rw [if_neg (by omega), if_neg e]
  have T1 : zu_T (zm_up ν 243 τ (nI f)) τ f [k] := by
    refine ⟨by simp, ?_, fun j hj => ?_⟩
    · rw [zm_up_ne (by omega), ← hν, zm_up_ne (by omega), zm_up_eq]; rfl
    · have : j = 0 := by simpa using hj
      subst this
      rw [zm_up_ne (by omega), ← hν, zm_up_ne (by omega), zm_up_ne (by omega), zm_up_pt, if_pos (by omega)]
      rfl
  refine ⟨ν, f, E, hf, ⟨Or.inr ⟨trivial, ?_, zm_up_eq, rfl⟩, List.nodup_cons.mpr ⟨List.not_mem_nil, List.nodup_nil⟩, fun n hn => ?_, fun n hn hnu => ?_, fun n hn => ?_⟩, hf, T1, ?_, fun c d h => ?_⟩
  · show zu_fm (zm_up ν 243 τ (nI f)) τ f = 2
    rw [zu_fm_of (x := 1) (by rw [zm_up_ne (by omega), v4, if_pos rfl])]
    rfl
  · have : n = f := List.mem_singleton.mp hn
    omega
  · have : n ≠ f := fun e => hnu (List.mem_singleton.mpr e)
    rw [zm_up_ne (by omega), v4, if_neg this]
    exact k8 n hn List.not_mem_nil
  · have : n = f := List.mem_singleton.mp hn
    subst this
    exact ⟨_, T1, by simp, fun x hx => by rw [List.mem_singleton.mp hx]; exact hk⟩
  · rw [zm_up_ne (by omega), ← hν, zm_up_eq]
  · have key : ∀ z x', z < 24 → zu_c6 x' = true → ¬ (c = x' ∧ d = 24 * τ + z) := fun z x' hz hx' q => h (Or.inr (Or.inl ⟨by rw [q.1]; exact hx', by omega, by omega⟩))
    rw [zm_up_ne (fun q => h (Or.inl q)), ← hν, zm_up_ne (key f 250 hf rfl), zm_up_ne (key f 249 hf rfl), zm_up_ne (fun q => h (Or.inr (Or.inr ⟨q.1, by omega, by omega⟩))), zm_up_ne (key f 249 hf rfl), zm_up_ne (key f 244 hf rfl)]
theorem ze_MclearTreeI (D : Nat) (ht : τ < 7) : ∃ ν, ze_E (D + 2) A_Mod_clearTree [.ref 232, .int (nI τ)] (zm_mk μ) none (zm_mk ν) ∧ zu_I ν τ .nil (fun _ => -1) ∧ zu_fr τ μ ν := by
  obtain ⟨ν, E, h1, h2, h3⟩ := ze_MclearTree (μ := μ) D ht
  refine ⟨ν, E, ⟨Or.inl ⟨rfl, h1⟩, List.nodup_nil, fun n hn => (by cases hn), fun n hn _ => h2 n hn, fun n hn => by cases hn⟩, fun c d h => h3 c d (fun q => h (Or.inl q)) (fun q => h (Or.inr (Or.inl ⟨by rw [q.1]; rfl, q.2⟩)))⟩
end ZUB
end
section
/-! the reference: least sizes -/
noncomputable def zu_lf (μ : zm_M) (τ a n : Nat) : Int32 := (zu_tb μ τ n).foldl (fun m w => zi_mx m (μ (235 + a) w)) 0
section ZUS
variable {μ : zm_M} {τ : Nat} {u : zy_F} {ab : Nat → Int32}
theorem zi_mx_le (p q : Int32) : (if p ≤ q then q else p) = zi_mx p q := by
  unfold zi_mx
  by_cases c : p < q
  · rw [if_pos c, if_pos (Int32.le_of_lt c)]
  · rw [if_neg c]
    by_cases c2 : p ≤ q
    · rw [if_pos c2]
      exact Int32.le_antisymm (Int32.not_lt.mp c) c2
    · rw [if_neg c2]
theorem zi_mx_ge (p q : Int32) : (if q ≤ p then p else q) = zi_mx p q := by
  unfold zi_mx
  by_cases c : p < q
  · rw [if_pos c, if_neg (Int32.not_le.mpr c)]
  · rw [if_neg c, if_pos (Int32.not_lt.mp c)]
theorem zm_A35 {a : Nat} (ha : a < 2) : zm_isA 7 (235 + a) 10 := by
  match a, ha with
  | 0, _ => exact zM_A235
  | 1, _ => exact zM_A236
set_option maxRecDepth 100000 in
theorem ze_Mleast_leaf (D : Nat) (ht : τ < 7) {n a : Nat} (hn : n < 24) (ha : a < 2) (h1 : μ 244 (24 * τ + n) = 1) (hT : zu_T μ τ n (zu_tb μ τ n)) (hb : ∀ x ∈ zu_tb μ τ n, x < 10) : ze_E (D + 2) A_Mod_least [.ref 232, .int (nI τ), .int (nI n), .int (nI (1 - a))] (zm_mk μ) (some (.int (zu_lf μ τ a n))) (zm_mk μ) := by
  unfold zu_lf
  generalize zu_tb μ τ n = l at hT hb
  obtain ⟨t0, t1, t2⟩ := hT
  have h10 : (Int8.ofInt 10).toInt32 = (10 : Int32) := by decide
  obtain ⟨N0, E0⟩ := ze_spot (h := zm_mk μ) (n := n) D ht
  have ia : zi_in (nI (24 * τ + n)) 168 = true := zm_in (by omega) (by decide)
  have ca : (nI (24 * τ + n)).toNatClampNeg = 24 * τ + n := nI_clamp (by omega)
  have m10 : (10 : Int32) * nI (24 * τ + n) = nI (10 * (24 * τ + n)) := nI_mul10 (by omega)
  generalize hv : l.foldl (fun m w => zi_mx m (μ (235 + a) w)) 0 = v
  have key : ∃ r h', ze_G (D + 1) 8 (some .int) zc_X6_least 24 [(6, .int (nI 0)), (5, .int 0), (4, .int (nI (24 * τ + n))), (0, .ref 232), (1, .int (nI τ)), (2, .int (nI n)), (3, .int (nI (1 - a)))] [] (zm_mk μ) r h' ∧ (r = some (.int v) ∧ zm_mk μ = h') := by
    refine ze_loop (Q := fun i L hp => i ≤ l.length ∧ zi_nl L = true ∧ zi_get L 0 = some (.ref 232) ∧ zi_get L 1 = some (.int (nI τ)) ∧ zi_get L 2 = some (.int (nI n)) ∧ zi_get L 3 = some (.int (nI (1 - a))) ∧ zi_get L 4 = some (.int (nI (24 * τ + n))) ∧ zi_get L 6 = some (.int (nI i)) ∧ zm_mk μ = hp ∧ ∃ (z : Int32), zi_get L 5 = some (.int z) ∧ ((l.drop i).foldl (fun m w => zi_mx m (μ (235 + a) w)) z = v)) (R := fun r h' => r = some (.int v) ∧ zm_mk μ = h') l.length ?_ ?_ l.length 0 _ _ (by omega) ⟨by omega, rfl, rfl, rfl, rfl, rfl, rfl, rfl, rfl, 0, rfl, hv⟩
    · rintro i L _ hi ⟨-, nl, g0, g1, g2, g3, g4, g6, rfl, z, g5, hq⟩
      have hm : l.getD i 0 ∈ l := zl_mem hi
      have tv := t2 i hi
      rw [zl_drop hi, List.foldl_cons] at hq
      generalize l.getD i 0 = x at hm hq tv
      have hx := hb x hm
      have c1 : ¬ nI l.length ≤ nI i := nI_ge hi (by omega)
      have ij : zi_in (nI (10 * (24 * τ + n) + i)) 1680 = true := zm_in (by omega) (by decide)
      have cj : (nI (10 * (24 * τ + n) + i)).toNatClampNeg = 10 * (24 * τ + n) + i := nI_clamp (by omega)
      have ix : zi_in (nI x) 10 = true := zm_in hx (by decide)
      have cx : (nI x).toNatClampNeg = x := nI_clamp (by omega)
      have hwx := zi_mx_le (μ (235 + a) x) z
      have hcm : zi_mx (μ (235 + a) x) z = zi_mx z (μ (235 + a) x) := by rw [← zi_mx_le, ← zi_mx_ge]
      rw [hcm] at hwx
      match a, ha with
      | 0, _ =>
        have hwx : (if μ 235 x ≤ z then z else μ 235 x) = zi_mx z (μ 235 x) := hwx
        have hq : (l.drop (i + 1)).foldl (fun m w => zi_mx m (μ (235 + 0) w)) (zi_mx z (μ 235 x)) = v := hq
        by_cases c2 : μ 235 x ≤ z
        · rw [if_pos c2] at hwx
          rw [← hwx] at hq
          left
          refine ⟨zi_set (zi_set (zi_set L 7 (.int (μ 235 x))) 5 (.int z)) 6 (.int (nI (i + 1))), zm_mk μ, ⟨0, 28, fun F m hF => ?_⟩, by omega, ?_, ?_, ?_, ?_, ?_, ?_, zi_get_set_eq, rfl, z, ?_, hq⟩
          · simp (maxDischargeDepth := 9) [zg_0, zg_aload_n, zg_bipush, zg_getfield, zg_goto, zg_iadd, zg_iaload, zg_iconst, zg_ifCond, zg_if_icmp, zg_iinc, zg_iload, zg_iload_n, zg_imul, zg_invokestatic, zg_invokevirtual, zg_ireturn, zg_istore, zf_X6_least, zi_ld, zi_lda, zi_cmp, zi_retOk, zi_isI, zi_f3, zi_cr, zi_ci, zi_cn, zi_get_ne, zi_nl_i, zi_nl_r, zi_get_set_eq, nl, g0, g1, g2, g3, g4, g6, g5, zM_g, h10, zm_iald (k := 0) zM_A249 ia, ca, t1, c1, show nI (1 - 0) = 1 from rfl, m10, nI_add, zm_iald (k := 0) zM_A248 ij, cj, tv, zm_iald (k := 0) zM_A235 ix, cx, c2, nI_1]
          · simp (maxDischargeDepth := 9) [zi_get_ne, zi_nl_i, zi_nl_r, zi_get_set_eq, nl]
          · simp (maxDischargeDepth := 9) [zi_get_ne, zi_nl_i, zi_nl_r, zi_get_set_eq, nl, g0]
          · simp (maxDischargeDepth := 9) [zi_get_ne, zi_nl_i, zi_nl_r, zi_get_set_eq, nl, g1]
          · simp (maxDischargeDepth := 9) [zi_get_ne, zi_nl_i, zi_nl_r, zi_get_set_eq, nl, g2]
          · simp (maxDischargeDepth := 9) [zi_get_ne, zi_nl_i, zi_nl_r, zi_get_set_eq, nl, g3]
          · simp (maxDischargeDepth := 9) [zi_get_ne, zi_nl_i, zi_nl_r, zi_get_set_eq, nl, g4]
          · simp (maxDischargeDepth := 9) [zi_get_ne, zi_nl_i, zi_nl_r, zi_get_set_eq, nl, g5]
        · rw [if_neg c2] at hwx
          rw [← hwx] at hq
          left
          refine ⟨zi_set (zi_set (zi_set L 7 (.int (μ 235 x))) 5 (.int (μ 235 x))) 6 (.int (nI (i + 1))), zm_mk μ, ⟨0, 29, fun F m hF => ?_⟩, by omega, ?_, ?_, ?_, ?_, ?_, ?_, zi_get_set_eq, rfl, μ 235 x, ?_, hq⟩
          · simp (maxDischargeDepth := 9) [zg_0, zg_aload_n, zg_bipush, zg_getfield, zg_goto, zg_iadd, zg_iaload, zg_iconst, zg_ifCond, zg_if_icmp, zg_iinc, zg_iload, zg_iload_n, zg_imul, zg_invokestatic, zg_invokevirtual, zg_ireturn, zg_istore, zf_X6_least, zi_ld, zi_lda, zi_cmp, zi_retOk, zi_isI, zi_f3, zi_cr, zi_ci, zi_cn, zi_get_ne, zi_nl_i, zi_nl_r, zi_get_set_eq, nl, g0, g1, g2, g3, g4, g6, g5, zM_g, h10, zm_iald (k := 0) zM_A249 ia, ca, t1, c1, show nI (1 - 0) = 1 from rfl, m10, nI_add, zm_iald (k := 0) zM_A248 ij, cj, tv, zm_iald (k := 0) zM_A235 ix, cx, c2, nI_1]
          · simp (maxDischargeDepth := 9) [zi_get_ne, zi_nl_i, zi_nl_r, zi_get_set_eq, nl]
          · simp (maxDischargeDepth := 9) [zi_get_ne, zi_nl_i, zi_nl_r, zi_get_set_eq, nl, g0]
          · simp (maxDischargeDepth := 9) [zi_get_ne, zi_nl_i, zi_nl_r, zi_get_set_eq, nl, g1]
          · simp (maxDischargeDepth := 9) [zi_get_ne, zi_nl_i, zi_nl_r, zi_get_set_eq, nl, g2]
          · simp (maxDischargeDepth := 9) [zi_get_ne, zi_nl_i, zi_nl_r, zi_get_set_eq, nl, g3]
          · simp (maxDischargeDepth := 9) [zi_get_ne, zi_nl_i, zi_nl_r, zi_get_set_eq, nl, g4]
          · simp (maxDischargeDepth := 9) [zi_get_ne, zi_nl_i, zi_nl_r, zi_get_set_eq, nl, g5]
      | 1, _ =>
        have hwx : (if μ 236 x ≤ z then z else μ 236 x) = zi_mx z (μ 236 x) := hwx
        have hq : (l.drop (i + 1)).foldl (fun m w => zi_mx m (μ (235 + 1) w)) (zi_mx z (μ 236 x)) = v := hq
        by_cases c2 : μ 236 x ≤ z
        · rw [if_pos c2] at hwx
          rw [← hwx] at hq
          left
          refine ⟨zi_set (zi_set (zi_set L 7 (.int (μ 236 x))) 5 (.int z)) 6 (.int (nI (i + 1))), zm_mk μ, ⟨0, 27, fun F m hF => ?_⟩, by omega, ?_, ?_, ?_, ?_, ?_, ?_, zi_get_set_eq, rfl, z, ?_, hq⟩
          · simp (maxDischargeDepth := 9) [zg_0, zg_aload_n, zg_bipush, zg_getfield, zg_goto, zg_iadd, zg_iaload, zg_iconst, zg_ifCond, zg_if_icmp, zg_iinc, zg_iload, zg_iload_n, zg_imul, zg_invokestatic, zg_invokevirtual, zg_ireturn, zg_istore, zf_X6_least, zi_ld, zi_lda, zi_cmp, zi_retOk, zi_isI, zi_f3, zi_cr, zi_ci, zi_cn, zi_get_ne, zi_nl_i, zi_nl_r, zi_get_set_eq, nl, g0, g1, g2, g3, g4, g6, g5, zM_g, h10, zm_iald (k := 0) zM_A249 ia, ca, t1, c1, show nI (1 - 1) = 0 from rfl, m10, nI_add, zm_iald (k := 0) zM_A248 ij, cj, tv, zm_iald (k := 0) zM_A236 ix, cx, c2, nI_1]
          · simp (maxDischargeDepth := 9) [zi_get_ne, zi_nl_i, zi_nl_r, zi_get_set_eq, nl]
          · simp (maxDischargeDepth := 9) [zi_get_ne, zi_nl_i, zi_nl_r, zi_get_set_eq, nl, g0]
          · simp (maxDischargeDepth := 9) [zi_get_ne, zi_nl_i, zi_nl_r, zi_get_set_eq, nl, g1]
          · simp (maxDischargeDepth := 9) [zi_get_ne, zi_nl_i, zi_nl_r, zi_get_set_eq, nl, g2]
          · simp (maxDischargeDepth := 9) [zi_get_ne, zi_nl_i, zi_nl_r, zi_get_set_eq, nl, g3]
          · simp (maxDischargeDepth := 9) [zi_get_ne, zi_nl_i, zi_nl_r, zi_get_set_eq, nl, g4]
          · simp (maxDischargeDepth := 9) [zi_get_ne, zi_nl_i, zi_nl_r, zi_get_set_eq, nl, g5]
        · rw [if_neg c2] at hwx
          rw [← hwx] at hq
          left
          refine ⟨zi_set (zi_set (zi_set L 7 (.int (μ 236 x))) 5 (.int (μ 236 x))) 6 (.int (nI (i + 1))), zm_mk μ, ⟨0, 28, fun F m hF => ?_⟩, by omega, ?_, ?_, ?_, ?_, ?_, ?_, zi_get_set_eq, rfl, μ 236 x, ?_, hq⟩
          · simp (maxDischargeDepth := 9) [zg_0, zg_aload_n, zg_bipush, zg_getfield, zg_goto, zg_iadd, zg_iaload, zg_iconst, zg_ifCond, zg_if_icmp, zg_iinc, zg_iload, zg_iload_n, zg_imul, zg_invokestatic, zg_invokevirtual, zg_ireturn, zg_istore, zf_X6_least, zi_ld, zi_lda, zi_cmp, zi_retOk, zi_isI, zi_f3, zi_cr, zi_ci, zi_cn, zi_get_ne, zi_nl_i, zi_nl_r, zi_get_set_eq, nl, g0, g1, g2, g3, g4, g6, g5, zM_g, h10, zm_iald (k := 0) zM_A249 ia, ca, t1, c1, show nI (1 - 1) = 0 from rfl, m10, nI_add, zm_iald (k := 0) zM_A248 ij, cj, tv, zm_iald (k := 0) zM_A236 ix, cx, c2, nI_1]
          · simp (maxDischargeDepth := 9) [zi_get_ne, zi_nl_i, zi_nl_r, zi_get_set_eq, nl]
          · simp (maxDischargeDepth := 9) [zi_get_ne, zi_nl_i, zi_nl_r, zi_get_set_eq, nl, g0]
          · simp (maxDischargeDepth := 9) [zi_get_ne, zi_nl_i, zi_nl_r, zi_get_set_eq, nl, g1]
          · simp (maxDischargeDepth := 9) [zi_get_ne, zi_nl_i, zi_nl_r, zi_get_set_eq, nl, g2]
          · simp (maxDischargeDepth := 9) [zi_get_ne, zi_nl_i, zi_nl_r, zi_get_set_eq, nl, g3]
          · simp (maxDischargeDepth := 9) [zi_get_ne, zi_nl_i, zi_nl_r, zi_get_set_eq, nl, g4]
          · simp (maxDischargeDepth := 9) [zi_get_ne, zi_nl_i, zi_nl_r, zi_get_set_eq, nl, g5]
    · rintro L _ ⟨-, nl, g0, g1, g2, g3, g4, g6, rfl, z, g5, hq⟩
      rw [List.drop_length] at hq
      have hq : z = v := hq
      subst hq
      refine ⟨some (.int z), zm_mk μ, ⟨0, 8, fun F m hF => ?_⟩, rfl, rfl⟩
      simp [zg_0, zg_aload_n, zg_bipush, zg_getfield, zg_goto, zg_iadd, zg_iaload, zg_iconst, zg_ifCond, zg_if_icmp, zg_iinc, zg_iload, zg_iload_n, zg_imul, zg_invokestatic, zg_invokevirtual, zg_ireturn, zg_istore, zf_X6_least, zi_ld, zi_lda, zi_cmp, zi_retOk, zi_isI, zi_f3, zi_cr, zi_ci, zi_cn, g0, g4, g5, g6, zM_g, zm_iald (k := 0) zM_A249 ia, ca, t1]
  obtain ⟨r, h', G, rfl, rfl⟩ := key
  refine ze_in [(0, .ref 232), (1, .int (nI τ)), (2, .int (nI n)), (3, .int (nI (1 - a)))] zq_Mod_least (Nat.le_of_ble_eq_true rfl) rfl (ze_S.end ⟨N0, 14, fun F m hF => ?_⟩ G)
  simp [zg_0, zg_aload_n, zg_bipush, zg_getfield, zg_goto, zg_iadd, zg_iaload, zg_iconst, zg_ifCond, zg_if_icmp, zg_iinc, zg_iload, zg_iload_n, zg_imul, zg_invokestatic, zg_invokevirtual, zg_ireturn, zg_istore, zf_X6_least, zi_ld, zi_lda, zi_cmp, zi_retOk, zi_isI, zi_f3, zi_cr, zi_ci, zi_cn, zi_get, zi_set, zq_Mod_spot, E0 F (by omega), zM_g, zm_iald (k := 0) zM_A244 ia, ca, h1, nI_0]
set_option maxRecDepth 100000 in
theorem ze_Mleast (ht : τ < 7) {a : Nat} (ha : a < 2) : ∀ c, zy_wf c → zu_ok μ τ ab c → (∀ n ∈ zy_ids c, n < 24) → (∀ n ∈ zy_lvs c, zu_T μ τ n (zu_tb μ τ n) ∧ ∀ x ∈ zu_tb μ τ n, x < 10) → ∀ D, ze_E (D + 1 + (zy_ids c).length) A_Mod_least [.ref 232, .int (nI τ), .int (nI (zy_id c)), .int (nI (1 - a))] (zm_mk μ) (some (.int (zy_ls a (zu_fm μ τ) (zu_lf μ τ a) c))) (zm_mk μ) := by
  apply zy_ind
  · intro n ok hlt hT D
    exact ze_Mleast_leaf D ht (hlt n List.mem_cons_self) ha (zu_fm_leaf ok) (hT n List.mem_cons_self).1 (hT n List.mem_cons_self).2
  · intro n x y wx wy ihx ihy ok hlt hT D
    obtain ⟨⟨q1, q2, q3, -, -⟩, okx, oky⟩ := ok
    have q2 : μ 245 (24 * τ + n) = nI (zy_id x) := q2
    have q3 : μ 246 (24 * τ + n) = nI (zy_id y) := q3
    have hn : n < 24 := hlt n List.mem_cons_self
    have hx : zy_id x < 24 := hlt _ (List.mem_cons_of_mem _ (List.mem_append_left _ (zy_id_mem wx)))
    have hy : zy_id y < 24 := hlt _ (List.mem_cons_of_mem _ (List.mem_append_right _ (zy_id_mem wy)))
    have el : (zy_ids (.append (.tag n x) y)).length = (zy_ids x).length + (zy_ids y).length + 1 := by
      show (n :: (zy_ids x ++ zy_ids y)).length = _
      rw [List.length_cons, List.length_append]
    have E1 := ihx okx (fun m hm => hlt m (List.mem_cons_of_mem _ (List.mem_append_left _ hm))) (fun m hm => hT m (List.mem_append_left _ hm)) (D + (zy_ids y).length)
    have E2 := ihy oky (fun m hm => hlt m (List.mem_cons_of_mem _ (List.mem_append_right _ hm))) (fun m hm => hT m (List.mem_append_right _ hm)) (D + (zy_ids x).length)
    rw [show D + (zy_ids y).length + 1 + (zy_ids x).length = D + (zy_ids x).length + (zy_ids y).length + 1 by omega] at E1
    rw [show D + (zy_ids x).length + 1 + (zy_ids y).length = D + (zy_ids x).length + (zy_ids y).length + 1 by omega] at E2
    rw [el, show D + 1 + ((zy_ids x).length + (zy_ids y).length + 1) = D + (zy_ids x).length + (zy_ids y).length + 1 + 1 by omega]
    have es : zy_ls a (zu_fm μ τ) (zu_lf μ τ a) (.append (.tag n x) y) = if zu_fm μ τ n = nI a then zy_ls a (zu_fm μ τ) (zu_lf μ τ a) x + zy_ls a (zu_fm μ τ) (zu_lf μ τ a) y else zi_mx (zy_ls a (zu_fm μ τ) (zu_lf μ τ a) x) (zy_ls a (zu_fm μ τ) (zu_lf μ τ a) y) := rfl
    rw [es]
    generalize zy_ls a (zu_fm μ τ) (zu_lf μ τ a) x = p at E1
    generalize zy_ls a (zu_fm μ τ) (zu_lf μ τ a) y = q at E2
    obtain ⟨N1, E1⟩ := E1
    obtain ⟨N2, E2⟩ := E2
    obtain ⟨N0, E0⟩ := ze_spot (h := zm_mk μ) (n := n) (D + (zy_ids x).length + (zy_ids y).length) ht
    have ia : zi_in (nI (24 * τ + n)) 168 = true := zm_in (by omega) (by decide)
    have ca : (nI (24 * τ + n)).toNatClampNeg = 24 * τ + n := nI_clamp (by omega)
    obtain ⟨lm, cm⟩ := zM_c (μ := μ)
    show ze_E _ A_Mod_least [.ref 232, .int (nI τ), .int (nI n), .int (nI (1 - a))] _ _ _
    refine ze_in [(0, .ref 232), (1, .int (nI τ)), (2, .int (nI n)), (3, .int (nI (1 - a)))] zq_Mod_least (Nat.le_of_ble_eq_true rfl) rfl ?_
    rcases zu_fm_cut q1 with ⟨f0, e4⟩ | ⟨f0, e4⟩
    · have e4' : ¬ (2 : Int32) = 1 := by decide
      match a, ha with
      | 0, _ =>
        rw [if_pos (by rw [f0]; rfl)]
        refine ⟨N0 + N1 + N2, 43, fun F m hF => ?_⟩
        have E1 := E1 F (by omega)
        have E2 := E2 F (by omega)
        rw [show nI (1 - 0) = 1 from rfl] at *
        simp [zg_0, zg_aload_n, zg_bipush, zg_getfield, zg_goto, zg_iadd, zg_iaload, zg_iconst, zg_ifCond, zg_if_icmp, zg_iinc, zg_iload, zg_iload_n, zg_imul, zg_invokestatic, zg_invokevirtual, zg_ireturn, zg_istore, zf_X6_least, zi_ld, zi_lda, zi_cmp, zi_retOk, zi_isI, zi_f3, zi_cr, zi_ci, zi_cn, zi_get, zi_set, zq_Mod_spot, E0 F (by omega), zM_g, zm_iald (k := 0) zM_A244 ia, zm_iald (k := 0) zM_A245 ia, zm_iald (k := 0) zM_A246 ia, ca, e4, q2, q3, zq_Mod_least, cm, E1, E2]
      | 1, _ =>
        rw [if_neg (by rw [f0]; decide), ← zi_mx_le]
        rw [show nI (1 - 1) = 0 from rfl] at *
        by_cases c2 : p ≤ q
        · rw [if_pos c2]
          refine ⟨N0 + N1 + N2, 43, fun F m hF => ?_⟩
          simp [zg_0, zg_aload_n, zg_bipush, zg_getfield, zg_goto, zg_iadd, zg_iaload, zg_iconst, zg_ifCond, zg_if_icmp, zg_iinc, zg_iload, zg_iload_n, zg_imul, zg_invokestatic, zg_invokevirtual, zg_ireturn, zg_istore, zf_X6_least, zi_ld, zi_lda, zi_cmp, zi_retOk, zi_isI, zi_f3, zi_cr, zi_ci, zi_cn, zi_get, zi_set, zq_Mod_spot, E0 F (by omega), zM_g, zm_iald (k := 0) zM_A244 ia, zm_iald (k := 0) zM_A245 ia, zm_iald (k := 0) zM_A246 ia, ca, e4, q2, q3, zq_Mod_least, cm, E1 F (by omega), E2 F (by omega), c2]
        · rw [if_neg c2]
          refine ⟨N0 + N1 + N2, 44, fun F m hF => ?_⟩
          simp [zg_0, zg_aload_n, zg_bipush, zg_getfield, zg_goto, zg_iadd, zg_iaload, zg_iconst, zg_ifCond, zg_if_icmp, zg_iinc, zg_iload, zg_iload_n, zg_imul, zg_invokestatic, zg_invokevirtual, zg_ireturn, zg_istore, zf_X6_least, zi_ld, zi_lda, zi_cmp, zi_retOk, zi_isI, zi_f3, zi_cr, zi_ci, zi_cn, zi_get, zi_set, zq_Mod_spot, E0 F (by omega), zM_g, zm_iald (k := 0) zM_A244 ia, zm_iald (k := 0) zM_A245 ia, zm_iald (k := 0) zM_A246 ia, ca, e4, q2, q3, zq_Mod_least, cm, E1 F (by omega), E2 F (by omega), c2]
    · match a, ha with
      | 0, _ =>
        rw [if_neg (by rw [f0]; decide), ← zi_mx_le]
        rw [show nI (1 - 0) = 1 from rfl] at *
        by_cases c2 : p ≤ q
        · rw [if_pos c2]
          refine ⟨N0 + N1 + N2, 42, fun F m hF => ?_⟩
          simp [zg_0, zg_aload_n, zg_bipush, zg_getfield, zg_goto, zg_iadd, zg_iaload, zg_iconst, zg_ifCond, zg_if_icmp, zg_iinc, zg_iload, zg_iload_n, zg_imul, zg_invokestatic, zg_invokevirtual, zg_ireturn, zg_istore, zf_X6_least, zi_ld, zi_lda, zi_cmp, zi_retOk, zi_isI, zi_f3, zi_cr, zi_ci, zi_cn, zi_get, zi_set, zq_Mod_spot, E0 F (by omega), zM_g, zm_iald (k := 0) zM_A244 ia, zm_iald (k := 0) zM_A245 ia, zm_iald (k := 0) zM_A246 ia, ca, e4, q2, q3, zq_Mod_least, cm, E1 F (by omega), E2 F (by omega), c2]
        · rw [if_neg c2]
          refine ⟨N0 + N1 + N2, 43, fun F m hF => ?_⟩
          simp [zg_0, zg_aload_n, zg_bipush, zg_getfield, zg_goto, zg_iadd, zg_iaload, zg_iconst, zg_ifCond, zg_if_icmp, zg_iinc, zg_iload, zg_iload_n, zg_imul, zg_invokestatic, zg_invokevirtual, zg_ireturn, zg_istore, zf_X6_least, zi_ld, zi_lda, zi_cmp, zi_retOk, zi_isI, zi_f3, zi_cr, zi_ci, zi_cn, zi_get, zi_set, zq_Mod_spot, E0 F (by omega), zM_g, zm_iald (k := 0) zM_A244 ia, zm_iald (k := 0) zM_A245 ia, zm_iald (k := 0) zM_A246 ia, ca, e4, q2, q3, zq_Mod_least, cm, E1 F (by omega), E2 F (by omega), c2]
      | 1, _ =>
        rw [if_pos (by rw [f0]; decide)]
        rw [show nI (1 - 1) = 0 from rfl] at *
        refine ⟨N0 + N1 + N2, 42, fun F m hF => ?_⟩
        simp [zg_0, zg_aload_n, zg_bipush, zg_getfield, zg_goto, zg_iadd, zg_iaload, zg_iconst, zg_ifCond, zg_if_icmp, zg_iinc, zg_iload, zg_iload_n, zg_imul, zg_invokestatic, zg_invokevirtual, zg_ireturn, zg_istore, zf_X6_least, zi_ld, zi_lda, zi_cmp, zi_retOk, zi_isI, zi_f3, zi_cr, zi_ci, zi_cn, zi_get, zi_set, zq_Mod_spot, E0 F (by omega), zM_g, zm_iald (k := 0) zM_A244 ia, zm_iald (k := 0) zM_A245 ia, zm_iald (k := 0) zM_A246 ia, ca, e4, q2, q3, zq_Mod_least, cm, E1 F (by omega), E2 F (by omega)]
noncomputable def zu_lsz (μ : zm_M) (τ a : Nat) (u : zy_F) : Int32 := zy_ls a (zu_fm μ τ) (zu_lf μ τ a) u
noncomputable def zu_fit (μ : zm_M) (τ : Nat) (u : zy_F) (w v : Int32) : Bool := decide (zu_lsz μ τ 0 u ≤ w ∧ zu_lsz μ τ 1 u ≤ v)
set_option maxRecDepth 100000 in
theorem ze_Mfits (D : Nat) (ht : τ < 7) (hI : zu_I μ τ u ab) {w v : Int32} (hw : 0 ≤ w) (hv : 0 ≤ v) : ze_E (D + 26) A_Mod_fits [.ref 232, .int (nI τ), .int w, .int v] (zm_mk μ) (some (.int (if zu_fit μ τ u w v = true then 1 else 0))) (zm_mk μ) := by
  have it : zi_in (nI τ) 7 = true := zm_in ht (by decide)
  have ct : (nI τ).toNatClampNeg = τ := nI_clamp (by omega)
  unfold zu_fit zu_lsz
  rcases hI.1 with ⟨rfl, hr⟩ | ⟨wt, ok, hr, -⟩
  · have c : (-1 : Int32) < 0 := by decide
    rw [if_pos (decide_eq_true ⟨hw, hv⟩)]
    refine ze_in [(0, .ref 232), (1, .int (nI τ)), (2, .int w), (3, .int v)] zq_Mod_fits (Nat.le_of_ble_eq_true rfl) rfl ⟨0, 8, fun F m hF => ?_⟩
    simp [zg_0, zg_aload_n, zg_getfield, zg_goto, zg_iaload, zg_iconst, zg_ifCond, zg_if_icmp, zg_iload_n, zg_invokevirtual, zg_ireturn, zf_X6_fits, zi_ld, zi_lda, zi_cmp, zi_retOk, zi_isI, zi_f3, zi_cr, zi_ci, zi_cn, zi_get, zi_set, zM_g, zm_iald (k := 0) zM_A243 it, ct, hr, c]
  · have hl := zy_nodup_le 24 (zy_ids u) hI.2.1 hI.2.2.1
    have hT := fun n hn => (fun (q : zu_T μ τ n (zu_tb μ τ n) ∧ zu_tb μ τ n ≠ [] ∧ ∀ x ∈ zu_tb μ τ n, x < 10) => (⟨q.1, q.2.2⟩ : zu_T μ τ n (zu_tb μ τ n) ∧ ∀ x ∈ zu_tb μ τ n, x < 10)) (zu_I_tb hI (n := n) hn)
    have E1 := ze_Mleast ht (a := 0) (by decide) u wt ok hI.2.2.1 hT (D + 24 - (zy_ids u).length)
    have E2 := ze_Mleast ht (a := 1) (by decide) u wt ok hI.2.2.1 hT (D + 24 - (zy_ids u).length)
    rw [show D + 24 - (zy_ids u).length + 1 + (zy_ids u).length = D + 25 by omega] at E1 E2
    generalize zy_ls 0 (zu_fm μ τ) (zu_lf μ τ 0) u = p at E1
    generalize zy_ls 1 (zu_fm μ τ) (zu_lf μ τ 1) u = q at E2
    rw [show nI (1 - 0) = 1 from rfl] at E1
    rw [show nI (1 - 1) = 0 from rfl] at E2
    obtain ⟨N1, E1⟩ := E1
    obtain ⟨N2, E2⟩ := E2
    obtain ⟨lm, cm⟩ := zM_c (μ := μ)
    have hid : zy_id u < 24 := hI.2.2.1 _ (zy_id_mem wt)
    have c0 : ¬ nI (zy_id u) < 0 := nI_pos (by omega)
    refine ze_in [(0, .ref 232), (1, .int (nI τ)), (2, .int w), (3, .int v)] zq_Mod_fits (Nat.le_of_ble_eq_true rfl) rfl ?_
    by_cases c1 : p ≤ w
    · have c1' : ¬ w < p := Int32.not_lt.mpr c1
      by_cases c2 : q ≤ v
      · have c2' : ¬ v < q := Int32.not_lt.mpr c2
        rw [if_pos (decide_eq_true ⟨c1, c2⟩)]
        refine ⟨N1 + N2, 28, fun F m hF => ?_⟩
        simp [zg_0, zg_aload_n, zg_getfield, zg_goto, zg_iaload, zg_iconst, zg_ifCond, zg_if_icmp, zg_iload_n, zg_invokevirtual, zg_ireturn, zf_X6_fits, zi_ld, zi_lda, zi_cmp, zi_retOk, zi_isI, zi_f3, zi_cr, zi_ci, zi_cn, zi_get, zi_set, zM_g, zm_iald (k := 0) zM_A243 it, ct, hr, c0, zq_Mod_least, cm, E1 F (by omega), E2 F (by omega), c1', c2']
      · have c2' : v < q := Int32.not_le.mp c2
        rw [if_neg (by simp [c2])]
        refine ⟨N1 + N2, 27, fun F m hF => ?_⟩
        simp [zg_0, zg_aload_n, zg_getfield, zg_goto, zg_iaload, zg_iconst, zg_ifCond, zg_if_icmp, zg_iload_n, zg_invokevirtual, zg_ireturn, zf_X6_fits, zi_ld, zi_lda, zi_cmp, zi_retOk, zi_isI, zi_f3, zi_cr, zi_ci, zi_cn, zi_get, zi_set, zM_g, zm_iald (k := 0) zM_A243 it, ct, hr, c0, zq_Mod_least, cm, E1 F (by omega), E2 F (by omega), c1', c2']
    · have c1' : w < p := Int32.not_le.mp c1
      rw [if_neg (by simp [c1])]
      refine ⟨N1 + N2, 17, fun F m hF => ?_⟩
      simp [zg_0, zg_aload_n, zg_getfield, zg_goto, zg_iaload, zg_iconst, zg_ifCond, zg_if_icmp, zg_iload_n, zg_invokevirtual, zg_ireturn, zf_X6_fits, zi_ld, zi_lda, zi_cmp, zi_retOk, zi_isI, zi_f3, zi_cr, zi_ci, zi_cn, zi_get, zi_set, zM_g, zm_iald (k := 0) zM_A243 it, ct, hr, c0, zq_Mod_least, cm, E1 F (by omega), E2 F (by omega), c1']
end ZUS
end
section
/-! the reference: the leaves in order -/
/-- the numbers l stand in the row of leaves from k on -/
noncomputable def zu_app (μ : zm_M) (k : Nat) (l : List Nat) (ν : zm_M) : Prop := ν 231 30 = nI (k + l.length) ∧ (∀ j, j < l.length → ν 259 (k + j) = nI (l.getD j 0)) ∧ ∀ c d, ¬ (c = 231 ∧ d = 30) → ¬ (c = 259 ∧ k ≤ d ∧ d < k + l.length) → ν c d = μ c d
section ZUV
variable {τ : Nat} {ab : Nat → Int32}
theorem zu_app_app {μ ν ξ : zm_M} {k : Nat} {l l' : List Nat} (h : zu_app μ k l ν) (g : zu_app ν (k + l.length) l' ξ) : zu_app μ k (l ++ l') ξ := by
  obtain ⟨h1, h2, h3⟩ := h
  obtain ⟨g1, g2, g3⟩ := g
  refine ⟨?_, fun j hj => ?_, fun c d q1 q2 => ?_⟩
  · rw [g1, List.length_append, Nat.add_assoc]
  · rw [List.length_append] at hj
    by_cases e : j < l.length
    · rw [g3 _ _ (by omega) (by omega), zl_getD_l e]
      exact h2 j e
    · rw [zl_getD_r (by omega)]
      have := g2 (j - l.length) (by omega)
      rw [show k + l.length + (j - l.length) = k + j by omega] at this
      exact this
  · rw [List.length_append] at q2
    rw [g3 c d q1 (by omega), h3 c d q1 (by omega)]
theorem zu_app_1 {μ : zm_M} {k n : Nat} : zu_app μ k [n] (zm_up (zm_up μ 259 k (nI n)) 231 30 (nI (k + 1))) := by
  refine ⟨zm_up_eq, fun j hj => ?_, fun c d q1 q2 => ?_⟩
  · have : j = 0 := by simpa using hj
    subst this
    rw [zm_up_ne (by omega), zm_up_pt, if_pos (by omega)]
    rfl
  · rw [zm_up_ne q1, zm_up_ne (fun q => q2 ⟨q.1, by omega, by rw [List.length_singleton]; omega⟩)]
/-- the cells of trees stay -/
theorem zu_app.tree {μ ν : zm_M} {k c d : Nat} {l : List Nat} (h : zu_app μ k l ν) (h1 : c ≠ 231) (h2 : c ≠ 259) : ν c d = μ c d := h.2.2 c d (by omega) (by omega)
theorem zu_ok_cells {μ ν : zm_M} {c : zy_F} (hw : zy_wf c) (hd : (zy_ids c).Nodup) (h : ∀ x d, (x = 244 ∨ x = 245 ∨ x = 246) → ν x d = μ x d) (ok : zu_ok μ τ ab c) : zu_ok ν τ ab c := by
  refine zy_ok_congr c hw hd (fun x _ => ?_) (fun x _ => ⟨h _ _ (by simp), h _ _ (by simp)⟩) (fun _ _ _ => rfl) ok
  unfold zu_fm
  rw [h _ _ (by simp)]
set_option maxRecDepth 100000 in
theorem ze_MfindLeaves (ht : τ < 7) : ∀ c, zy_wf c → ∀ (μ : zm_M) (k D : Nat), zu_ok μ τ ab c → (zy_ids c).Nodup → (∀ n ∈ zy_ids c, n < 24) → μ 231 30 = nI k → k + (zy_lvs c).length ≤ 24 →
    ∃ ν, ze_E (D + 1 + (zy_ids c).length) A_Mod_findLeaves [.ref 232, .int (nI τ), .int (nI (zy_id c))] (zm_mk μ) none (zm_mk ν) ∧ zu_app μ k (zy_lvs c) ν := by
  apply zy_ind
  · intro n μ k D ok hd hlt hk hle
    have hn : n < 24 := hlt n List.mem_cons_self
    have hle : k + 1 ≤ 24 := hle
    have e1 := zu_fm_leaf (μ := μ) (τ := τ) ok
    obtain ⟨N0, E0⟩ := ze_spot (h := zm_mk μ) (n := n) D ht
    have ia : zi_in (nI (24 * τ + n)) 168 = true := zm_in (by omega) (by decide)
    have ca : (nI (24 * τ + n)).toNatClampNeg = 24 * τ + n := nI_clamp (by omega)
    have ik : zi_in (nI k) 24 = true := zm_in (by omega) (by decide)
    have ck : (nI k).toNatClampNeg = k := nI_clamp (by omega)
    have hk' : zm_up μ 259 k (nI n) 231 30 = nI k := (zm_up_ne (by omega)).trans hk
    refine ⟨_, ze_in [(0, .ref 232), (1, .int (nI τ)), (2, .int (nI n))] zq_Mod_findLeaves (Nat.le_of_ble_eq_true rfl) rfl ⟨N0, 22, fun F m hF => ?_⟩, zu_app_1⟩
    have E0 := E0 F (by omega)
    simp [zg_0, zg_aload_n, zg_dup, zg_getfield, zg_goto, zg_iadd, zg_iaload, zg_iastore, zg_iconst, zg_if_icmp, zg_iload_n, zg_invokestatic, zg_invokevirtual, zg_putfield, zg_return, zf_X6_findLeaves, zi_ld, zi_lda, zi_cmp, zi_retOk, zi_isI, zi_f3, zi_cr, zi_ci, zi_cn, zi_get, zi_set, zM_g, zq_Mod_spot, E0, zm_iald (k := 0) zM_A244 ia, ca, e1, hk, zm_iast zM_A259 ik, ck, hk', nI_1, zM_p30, zy_ids]
  · intro n x y wx wy ihx ihy μ k D ok hd hlt hk hle
    obtain ⟨⟨q1, q2, q3, -, -⟩, okx, oky⟩ := ok
    have q2 : μ 245 (24 * τ + n) = nI (zy_id x) := q2
    have q3 : μ 246 (24 * τ + n) = nI (zy_id y) := q3
    have hd' : (n :: (zy_ids x ++ zy_ids y)).Nodup := hd
    obtain ⟨-, hd2⟩ := List.nodup_cons.mp hd'
    obtain ⟨dx, dy, -⟩ := List.nodup_append.mp hd2
    have hn : n < 24 := hlt n List.mem_cons_self
    have hx : zy_id x < 24 := hlt _ (List.mem_cons_of_mem _ (List.mem_append_left _ (zy_id_mem wx)))
    have hy : zy_id y < 24 := hlt _ (List.mem_cons_of_mem _ (List.mem_append_right _ (zy_id_mem wy)))
    have ev : zy_lvs (.append (.tag n x) y) = zy_lvs x ++ zy_lvs y := rfl
    rw [ev, List.length_append] at hle
    have el : (zy_ids (.append (.tag n x) y)).length = (zy_ids x).length + (zy_ids y).length + 1 := by
      show (n :: (zy_ids x ++ zy_ids y)).length = _
      rw [List.length_cons, List.length_append]
    obtain ⟨ν, E1, A1⟩ := ihx μ k (D + (zy_ids y).length) okx dx (fun m hm => hlt m (List.mem_cons_of_mem _ (List.mem_append_left _ hm))) hk (by omega)
    obtain ⟨ξ, E2, A2⟩ := ihy ν (k + (zy_lvs x).length) (D + (zy_ids x).length) (zu_ok_cells wy dy (fun c d h => A1.tree (by omega) (by omega)) oky) dy (fun m hm => hlt m (List.mem_cons_of_mem _ (List.mem_append_right _ hm))) A1.1 (by omega)
    rw [show D + (zy_ids y).length + 1 + (zy_ids x).length = D + (zy_ids x).length + (zy_ids y).length + 1 by omega] at E1
    rw [show D + (zy_ids x).length + 1 + (zy_ids y).length = D + (zy_ids x).length + (zy_ids y).length + 1 by omega] at E2
    rw [el, show D + 1 + ((zy_ids x).length + (zy_ids y).length + 1) = D + (zy_ids x).length + (zy_ids y).length + 1 + 1 by omega]
    obtain ⟨N1, E1⟩ := E1
    obtain ⟨N2, E2⟩ := E2
    obtain ⟨N0, E0⟩ := ze_spot (h := zm_mk μ) (n := n) (D + (zy_ids x).length + (zy_ids y).length) ht
    obtain ⟨N3, E3⟩ := ze_spot (h := zm_mk ν) (n := n) (D + (zy_ids x).length + (zy_ids y).length) ht
    have ia : zi_in (nI (24 * τ + n)) 168 = true := zm_in (by omega) (by decide)
    have ca : (nI (24 * τ + n)).toNatClampNeg = 24 * τ + n := nI_clamp (by omega)
    obtain ⟨lm, cm⟩ := zM_c (μ := μ)
    obtain ⟨ln, cn⟩ := zM_c (μ := ν)
    have q3' : ν 246 (24 * τ + n) = nI (zy_id y) := (A1.tree (by decide) (by decide)).trans q3
    have e4 : ¬ μ 244 (24 * τ + n) = 1 := by
      rcases zu_fm_cut q1 with ⟨-, e⟩ | ⟨-, e⟩ <;> rw [e] <;> decide
    refine ⟨ξ, ?_, zu_app_app A1 A2⟩
    show ze_E _ A_Mod_findLeaves [.ref 232, .int (nI τ), .int (nI n)] _ _ _
    refine ze_in [(0, .ref 232), (1, .int (nI τ)), (2, .int (nI n))] zq_Mod_findLeaves (Nat.le_of_ble_eq_true rfl) rfl ⟨N0 + N1 + N2 + N3, 27, fun F m hF => ?_⟩
    simp [zg_0, zg_aload_n, zg_dup, zg_getfield, zg_goto, zg_iadd, zg_iaload, zg_iastore, zg_iconst, zg_if_icmp, zg_iload_n, zg_invokestatic, zg_invokevirtual, zg_putfield, zg_return, zf_X6_findLeaves, zi_ld, zi_lda, zi_cmp, zi_retOk, zi_isI, zi_f3, zi_cr, zi_ci, zi_cn, zi_get, zi_set, zM_g, zq_Mod_spot, E0 F (by omega), E3 F (by omega), zm_iald (k := 0) zM_A244 ia, zm_iald (k := 0) zM_A245 ia, zm_iald (k := 0) zM_A246 ia, ca, e4, q2, q3', zq_Mod_findLeaves, cm, cn, E1 F (by omega), E2 F (by omega)]
/-- the leaves of a tree, each once -/
theorem zu_lvs_nodup {μ : zm_M} {u : zy_F} (hI : zu_I μ τ u ab) : (zy_lvs u).Nodup ∧ (∀ n ∈ zy_lvs u, n < 24) ∧ (zy_lvs u).length ≤ 24 := by
  have h1 : (zy_lvs u).Nodup := by
    rcases hI.1 with ⟨rfl, -⟩ | ⟨w, -⟩
    · exact List.nodup_nil
    · exact zy_lvs_nodup u w hI.2.1
  have h2 : ∀ n ∈ zy_lvs u, n < 24 := fun n hn => hI.2.2.1 n (zu_I_lv hI hn).2
  exact ⟨h1, h2, zy_nodup_le 24 _ h1 h2⟩
/-- the row of leaves is l -/
noncomputable def zu_lv (μ : zm_M) (l : List Nat) : Prop := μ 231 30 = nI l.length ∧ ∀ j, j < l.length → μ 259 j = nI (l.getD j 0)
noncomputable def zu_frv (μ ν : zm_M) : Prop := ∀ c d, ¬ (c = 231 ∧ d = 30) → c ≠ 259 → ν c d = μ c d
set_option maxRecDepth 100000 in
theorem ze_MclearLeaves {μ : zm_M} {u : zy_F} (D : Nat) (ht : τ < 7) (hI : zu_I μ τ u ab) : ∃ ν, ze_E (D + 26) A_Mod_clearLeaves [.ref 232, .int (nI τ)] (zm_mk μ) none (zm_mk ν) ∧ zu_lv ν (zy_lvs u) ∧ zu_frv μ ν := by
  have it : zi_in (nI τ) 7 = true := zm_in ht (by decide)
  have ct : (nI τ).toNatClampNeg = τ := nI_clamp (by omega)
  have r0 : zm_up μ 231 30 0 243 τ = μ 243 τ := zm_up_ne (by omega)
  rcases hI.1 with ⟨rfl, hr⟩ | ⟨wt, ok, hr, -⟩
  · have c : (-1 : Int32) < 0 := by decide
    refine ⟨zm_up μ 231 30 0, ze_in [(0, .ref 232), (1, .int (nI τ))] zq_Mod_clearLeaves (Nat.le_of_ble_eq_true rfl) rfl ⟨0, 9, fun F m hF => ?_⟩, ⟨zm_up_eq, fun j hj => by cases hj⟩, fun c d h _ => zm_up_ne h⟩
    rw [hr] at r0
    simp [zg_0, zg_aload_n, zg_getfield, zg_iaload, zg_iconst, zg_ifCond, zg_iload_n, zg_invokevirtual, zg_putfield, zg_return, zf_X6_clearLeaves, zi_ld, zi_lda, zi_cmp, zi_retOk, zi_isI, zi_f3, zi_cr, zi_ci, zi_cn, zi_get, zi_set, zM_g, zM_p30, zm_iald (k := 0) zM_A243 it, ct, r0, c]
  · have hl := zy_nodup_le 24 (zy_ids u) hI.2.1 hI.2.2.1
    obtain ⟨-, -, hl2⟩ := zu_lvs_nodup hI
    obtain ⟨ν, E, A⟩ := ze_MfindLeaves ht u wt (zm_up μ 231 30 0) 0 (D + 24 - (zy_ids u).length) (zu_ok_cells wt hI.2.1 (fun x d h => zm_up_ne (by omega)) ok) hI.2.1 hI.2.2.1 zm_up_eq (by omega)
    rw [show D + 24 - (zy_ids u).length + 1 + (zy_ids u).length = D + 25 by omega] at E
    obtain ⟨N1, E⟩ := E
    obtain ⟨a1, a2, a3⟩ := A
    rw [Nat.zero_add] at a1 a3
    have hid : zy_id u < 24 := hI.2.2.1 _ (zy_id_mem wt)
    have c0 : ¬ nI (zy_id u) < 0 := nI_pos (by omega)
    refine ⟨ν, ze_in [(0, .ref 232), (1, .int (nI τ))] zq_Mod_clearLeaves (Nat.le_of_ble_eq_true rfl) rfl ⟨N1, 16, fun F m hF => ?_⟩, ⟨a1, fun j hj => ?_⟩, fun c d h h2 => ?_⟩
    · rw [hr] at r0
      obtain ⟨lm, cm⟩ := zM_c (μ := zm_up μ 231 30 0)
      simp [zg_0, zg_aload_n, zg_getfield, zg_iaload, zg_iconst, zg_ifCond, zg_iload_n, zg_invokevirtual, zg_putfield, zg_return, zf_X6_clearLeaves, zi_ld, zi_lda, zi_cmp, zi_retOk, zi_isI, zi_f3, zi_cr, zi_ci, zi_cn, zi_get, zi_set, zM_g, zM_p30, zm_iald (k := 0) zM_A243 it, ct, r0, c0, zq_Mod_findLeaves, cm, E F (by omega)]
    · have := a2 j hj
      rwa [Nat.zero_add] at this
    · rw [a3 c d h (fun q => h2 q.1), zm_up_ne h]
/-- the tree stands -/
theorem zu_frv.eqT {μ ν : zm_M} (h : zu_frv μ ν) : zu_eqT μ τ ν τ := ⟨h _ _ (by omega) (by decide), fun c n hc _ => h _ _ (by rintro ⟨rfl, -⟩; revert hc; decide) (by rintro rfl; revert hc; decide), fun n j _ _ => h _ _ (by omega) (by decide)⟩
end ZUV
end
section
/-! the reference: areas -/
noncomputable def zu_P (ν : zm_M) (n : Nat) (x y w v : Int32) : Prop := ν 255 n = x ∧ ν 256 n = y ∧ ν 257 n = w ∧ ν 258 n = v
/-- cells that lay does not touch: but for the areas of the nodes I, and the row of leaves from k to k' -/
noncomputable def zu_frY (μ ν : zm_M) (I : List Nat) (k k' : Nat) : Prop := ∀ c d, ¬ (c = 231 ∧ d = 30) → ¬ (c = 259 ∧ k ≤ d ∧ d < k') → ¬ (255 ≤ c ∧ c ≤ 258 ∧ d ∈ I) → ν c d = μ c d
theorem zu_frY.tree {μ ν : zm_M} {I : List Nat} {k k' c d : Nat} (h : zu_frY μ ν I k k') (hc : c < 255) (h1 : c ≠ 231) : ν c d = μ c d := h c d (by omega) (by omega) (by omega)
section ZLY
variable {τ : Nat} {ab : Nat → Int32}
/-- 102 to 184: the first part -/
theorem ze_lay_m (x y : Int32) (L : zi_Lc) (st : List Value) (h : zi_Hp) (D : Nat) (nl : zi_nl L = true) : ze_S D 13 none zc_X6_lay 133 L (.int y :: .int x :: st) h 136 (zi_set L 11 (.int (x - y))) st h := by
  refine ⟨0, 2, fun F m hF => ?_⟩
  simp only [zi_go, zf_X6_lay, zi_ask, zi_new, zi_step, zi_isI]
  rfl
theorem ze_lay_s (x y : Int32) (L : zi_Lc) (st : List Value) (h : zi_Hp) (D : Nat) : ze_S D 13 none zc_X6_lay 227 L (.int y :: .int x :: st) h 228 L (.int (x - y) :: st) h := by
  refine ⟨0, 1, fun F m hF => ?_⟩
  simp only [zi_go, zf_X6_lay, zi_ask, zi_new, zi_step]
theorem ze_lay_t (x y : Int32) (L : zi_Lc) (st : List Value) (h : zi_Hp) (D : Nat) : ze_S D 13 none zc_X6_lay 276 L (.int y :: .int x :: st) h 277 L (.int (x - y) :: st) h := by
  refine ⟨0, 1, fun F m hF => ?_⟩
  simp only [zi_go, zf_X6_lay, zi_ask, zi_new, zi_step]
end ZLY
end
