/-! the reference: leave -/
def zu_sh (μ : zm_M) (a p i : Nat) : zm_M := fun c d => if c = 248 ∧ 10 * a + p ≤ d ∧ d < 10 * a + i then μ 248 (d + 1) else μ c d
section ZUL
variable {μ : zm_M} {τ : Nat} {u : zy_F} {ab : Nat → Int32}
theorem zu_sh_0 {a p : Nat} : zu_sh μ a p p = μ := by
  funext c d
  unfold zu_sh
  rw [if_neg (by omega)]
theorem zu_sh_s {a p i : Nat} (hp : p ≤ i) : zm_up (zu_sh μ a p i) 248 (10 * a + i) (μ 248 (10 * a + i + 1)) = zu_sh μ a p (i + 1) := by
  funext c d
  unfold zm_up zu_sh
  by_cases h : c = 248 ∧ d = 10 * a + i
  · obtain ⟨rfl, rfl⟩ := h
    rw [if_pos ⟨rfl, rfl⟩, if_pos ⟨rfl, by omega, by omega⟩]
  · rw [if_neg h]
    by_cases h2 : c = 248 ∧ 10 * a + p ≤ d ∧ d < 10 * a + i
    · rw [if_pos h2, if_pos (by omega)]
    · rw [if_neg h2, if_neg (by omega)]
theorem zu_sh_ne {a p i c d : Nat} (h : c ≠ 248) : zu_sh μ a p i c d = μ c d := by
  unfold zu_sh
  rw [if_neg (fun q => h q.1)]
set_option maxRecDepth 100000 in
theorem zu_leave_loop (D : Nat) {a n0 p : Nat} (ha : a < 168) (hn : n0 < 10) (hs : μ 249 a = nI n0) : ∀ (j i : Nat) (L : zi_Lc), i + j = n0 → p ≤ i → zi_nl L = true → zi_get L 0 = some (.ref 232) → zi_get L 4 = some (.int (nI a)) → zi_get L 6 = some (.int (nI i)) →
    ∃ L', ze_S D 9 none zc_X6_leave 38 L [] (zm_mk (zu_sh μ a p i)) 84 L' [] (zm_mk (zu_sh μ a p n0)) ∧ zi_nl L' = true ∧ ∀ q, q ≠ 6 → zi_get L' q = zi_get L q := by
  have h10 : (Int8.ofInt 10).toInt32 = (10 : Int32) := by decide
  have ia : zi_in (nI a) 168 = true := zm_in ha (by decide)
  have ca : (nI a).toNatClampNeg = a := nI_clamp (by omega)
  have m10 : (10 : Int32) * nI a = nI (10 * a) := nI_mul10 ha
  intro j
  induction j with
  | zero =>
    intro i L hij hp nl g0 g4 g6
    have : i = n0 := by omega
    subst this
    refine ⟨L, ⟨0, 6, fun F n hF => ?_⟩, nl, fun _ _ => rfl⟩
    have v : zu_sh μ a p i 249 a = nI i := (zu_sh_ne (by omega)).trans hs
    simp [zg_0, zg_aload_n, zg_bipush, zg_dup2, zg_getfield, zg_goto, zg_iadd, zg_iaload, zg_iastore, zg_iconst, zg_ifCond, zg_if_icmp, zg_iinc, zg_iload, zg_iload_n, zg_imul, zg_invokestatic, zg_invokevirtual, zg_istore, zg_istore_n, zg_isub, zg_return, zf_X6_leave, zi_ld, zi_lda, zi_cmp, zi_retOk, zi_isI, zi_f3, zi_cr, zi_ci, zi_cn, g0, g4, g6, zM_g, zm_iald (k := 0) zM_A249 ia, ca, v]
  | succ j ih =>
    intro i L hij hp nl g0 g4 g6
    obtain ⟨L', S, nl', hg⟩ := ih (i + 1) (zi_set L 6 (.int (nI (i + 1)))) (by omega) (by omega) (by simp (maxDischargeDepth := 9) [zi_get_ne, zi_nl_i, zi_nl_r, zi_get_set_eq, nl]) (by simp (maxDischargeDepth := 9) [zi_get_ne, zi_nl_i, zi_nl_r, zi_get_set_eq, nl, g0]) (by simp (maxDischargeDepth := 9) [zi_get_ne, zi_nl_i, zi_nl_r, zi_get_set_eq, nl, g4]) zi_get_set_eq
    refine ⟨L', ze_S.trans (p2 := 38) (s2 := []) ⟨0, 26, fun F n hF => ?_⟩ S, nl', fun q hq => by rw [hg q hq, zi_get_ne nl hq]⟩
    have v : zu_sh μ a p i 249 a = nI n0 := (zu_sh_ne (by omega)).trans hs
    have c1 : ¬ nI n0 ≤ nI i := nI_ge (by omega) (by omega)
    have ii : zi_in (nI (10 * a + i)) 1680 = true := zm_in (by omega) (by decide)
    have ci : (nI (10 * a + i)).toNatClampNeg = 10 * a + i := nI_clamp (by omega)
    have ij : zi_in (nI (10 * a + i + 1)) 1680 = true := zm_in (by omega) (by decide)
    have cj : (nI (10 * a + i + 1)).toNatClampNeg = 10 * a + i + 1 := nI_clamp (by omega)
    have w : zu_sh μ a p i 248 (10 * a + i + 1) = μ 248 (10 * a + i + 1) := by
      unfold zu_sh
      rw [if_neg (by omega)]
    simp (maxDischargeDepth := 9) [zg_0, zg_aload_n, zg_bipush, zg_dup2, zg_getfield, zg_goto, zg_iadd, zg_iaload, zg_iastore, zg_iconst, zg_ifCond, zg_if_icmp, zg_iinc, zg_iload, zg_iload_n, zg_imul, zg_invokestatic, zg_invokevirtual, zg_istore, zg_istore_n, zg_isub, zg_return, zf_X6_leave, zi_ld, zi_lda, zi_cmp, zi_retOk, zi_isI, zi_f3, zi_cr, zi_ci, zi_cn, zi_get_ne, zi_nl_i, zi_nl_r, zi_get_set_eq, nl, g0, g4, g6, zM_g, zm_iald (k := 0) zM_A249 ia, ca, v, c1, h10, m10, nI_add, nI_1, zm_iald (k := 0) zM_A248 ij, cj, w, zm_iast zM_A248 ii, ci, zu_sh_s hp]
/-- what leave leaves -/
def zu_isOut (μ : zm_M) (τ : Nat) (u : zy_F) (m k : Nat) (ν : zm_M) (ab' : Nat → Int32) : Prop :=
  zu_I ν τ (if (zu_tb μ τ m).erase k = [] then zy_out m u else u) ab' ∧ (∀ n ∈ zy_lvs u, n ≠ m → ∀ l, zu_T μ τ n l → zu_T ν τ n l) ∧ ((zu_tb μ τ m).erase k ≠ [] → zu_T ν τ m ((zu_tb μ τ m).erase k)) ∧
  (∀ n ∈ zy_ids (if (zu_tb μ τ m).erase k = [] then zy_out m u else u), ν 250 (24 * τ + n) = (if n = m ∧ μ 250 (24 * τ + m) = nI k then zl_nx (zu_tb μ τ m) k else μ 250 (24 * τ + n)) ∧ ν 247 (24 * τ + n) = μ 247 (24 * τ + n) ∧ zu_fm ν τ n = zu_fm μ τ n) ∧ zu_fr τ μ ν
theorem zl_idx_er {l : List Nat} {k j : Nat} (hj : j < (l.erase k).length) : (l.erase k).getD j 0 = if j < l.idxOf k then l.getD j 0 else l.getD (j + 1) 0 := by
  have he : l.erase k = l.eraseIdx (l.idxOf k) := List.erase_eq_eraseIdx_of_idxOf rfl
  rw [he, List.getD_eq_getElem?_getD, List.getElem?_eraseIdx]
  by_cases c : j < l.idxOf k
  · rw [if_pos c, if_pos c, ← List.getD_eq_getElem?_getD]
  · rw [if_neg c, if_neg c, ← List.getD_eq_getElem?_getD]
set_option maxRecDepth 100000 in
theorem ze_Mleave (D : Nat) (ht : τ < 7) (hI : zu_I μ τ u ab) {m k : Nat} (hk : k < 10) (hat : zu_at μ τ u k m) :
    ∃ ν ab', ze_E (D + 4) A_Mod_leave [.ref 232, .int (nI τ), .int (nI k)] (zm_mk μ) none (zm_mk ν) ∧ zu_isOut μ τ u m k ν ab' := by
  obtain ⟨hm, hkm, hun⟩ := id hat
  obtain ⟨wt, hmid⟩ := zu_I_lv hI hm
  obtain ⟨-, ok, hr, hrt⟩ := zu_I_wf hI hmid
  obtain ⟨-, k5, k6, k8, k9⟩ := id hI
  have hm24 := k6 m hmid
  obtain ⟨hT, hl0, hlb⟩ := zu_I_tb hI hm
  unfold zu_isOut
  generalize zu_tb μ τ m = l at hT hl0 hlb hkm
  obtain ⟨t0, t1, t2⟩ := id hT
  have h10 : (Int8.ofInt 10).toInt32 = (10 : Int32) := by decide
  obtain ⟨N1, E1⟩ := ze_MleafOf_at (D := D) ht hI hk hat
  obtain ⟨N2, E2⟩ := ze_spot (h := zm_mk μ) (n := m) (D + 2) ht
  obtain ⟨N3, E3⟩ := ze_placeOfTab (μ := μ) (D + 1) ht hm24 hT hlb hk
  rw [zr_ix_in hkm, Nat.zero_add] at E3
  have hp : l.idxOf k < l.length := List.idxOf_lt_length_of_mem hkm
  have hle : (l.erase k).length = l.length - 1 := List.length_erase_of_mem hkm
  have hsub : nI l.length - 1 = nI (l.length - 1) := by
    have : ∀ n, n < 11 → 0 < n → nI n - 1 = nI (n - 1) := by decide
    exact this _ (by omega) (by omega)
  have ia : zi_in (nI (24 * τ + m)) 168 = true := zm_in (by omega) (by decide)
  have ca : (nI (24 * τ + m)).toNatClampNeg = 24 * τ + m := nI_clamp (by omega)
  obtain ⟨lc, cc⟩ := zM_c (μ := μ)
  -- to the loop's head
  have S1 : ze_S (D + 3) 9 none zc_X6_leave 0 [(0, .ref 232), (1, .int (nI τ)), (2, .int (nI k))] [] (zm_mk μ) 38 [(6, .int (nI (l.idxOf k))), (5, .int (nI (l.idxOf k))), (4, .int (nI (24 * τ + m))), (3, .int (nI m)), (0, .ref 232), (1, .int (nI τ)), (2, .int (nI k))] [] (zm_mk (zm_up μ 249 (24 * τ + m) (nI (l.length - 1)))) := by
    refine ⟨N1 + N2 + N3, 25, fun F n hF => ?_⟩
    simp [zg_0, zg_aload_n, zg_bipush, zg_dup2, zg_getfield, zg_goto, zg_iadd, zg_iaload, zg_iastore, zg_iconst, zg_ifCond, zg_if_icmp, zg_iinc, zg_iload, zg_iload_n, zg_imul, zg_invokestatic, zg_invokevirtual, zg_istore, zg_istore_n, zg_isub, zg_return, zf_X6_leave, zi_ld, zi_lda, zi_cmp, zi_retOk, zi_isI, zi_f3, zi_cr, zi_ci, zi_cn, zi_get, zi_set, zM_g, zq_Mod_leafOf, zq_Mod_spot, zq_Mod_placeOfTab, cc, E1 F (by omega), E2 F (by omega), E3 F (by omega), zm_iald (k := 0) zM_A249 ia, ca, t1, hsub, zm_iast zM_A249 ia]
  obtain ⟨L, S2, nl, hg⟩ := zu_leave_loop (μ := zm_up μ 249 (24 * τ + m) (nI (l.length - 1))) (D + 3) (a := 24 * τ + m) (n0 := l.length - 1) (p := l.idxOf k) (by omega) (by omega) zm_up_eq (l.length - 1 - l.idxOf k) (l.idxOf k) [(6, .int (nI (l.idxOf k))), (5, .int (nI (l.idxOf k))), (4, .int (nI (24 * τ + m))), (3, .int (nI m)), (0, .ref 232), (1, .int (nI τ)), (2, .int (nI k))] (by omega) (Nat.le_refl _) rfl rfl rfl rfl
  rw [zu_sh_0] at S2
  have S := S1.trans S2
  have g0 : zi_get L 0 = some (.ref 232) := (hg 0 (by decide)).trans rfl
  have g1 : zi_get L 1 = some (.int (nI τ)) := (hg 1 (by decide)).trans rfl
  have g2 : zi_get L 2 = some (.int (nI k)) := (hg 2 (by decide)).trans rfl
  have g3 : zi_get L 3 = some (.int (nI m)) := (hg 3 (by decide)).trans rfl
  have g4 : zi_get L 4 = some (.int (nI (24 * τ + m))) := (hg 4 (by decide)).trans rfl
  have g5 : zi_get L 5 = some (.int (nI (l.idxOf k))) := (hg 5 (by decide)).trans rfl
  generalize hM : zu_sh (zm_up μ 249 (24 * τ + m) (nI (l.length - 1))) (24 * τ + m) (l.idxOf k) (l.length - 1) = M at S S2
  have v9 : M 249 (24 * τ + m) = nI (l.length - 1) := by rw [← hM, zu_sh_ne (by omega), zm_up_eq]
  have v9' : ∀ x, x ≠ 24 * τ + m → M 249 x = μ 249 x := fun x hx => by rw [← hM, zu_sh_ne (by omega), zm_up_ne (by omega)]
  have vo : ∀ c d, c ≠ 248 → c ≠ 249 → M c d = μ c d := fun c d h8 h9 => by rw [← hM, zu_sh_ne h8, zm_up_ne (by omega)]
  have v8 : ∀ j, j < l.length - 1 → M 248 (10 * (24 * τ + m) + j) = nI ((l.erase k).getD j 0) := fun j hj => by
    rw [zl_idx_er (by omega), ← hM]
    unfold zu_sh
    by_cases c : j < l.idxOf k
    · rw [if_neg (by omega), if_pos c, zm_up_ne (by omega)]
      exact t2 j (by omega)
    · rw [if_pos ⟨rfl, by omega, by omega⟩, if_neg c, zm_up_ne (by omega)]
      exact t2 (j + 1) (by omega)
  have v8' : ∀ y, (y < 10 * (24 * τ + m) ∨ 10 * (24 * τ + m) + 10 ≤ y) → M 248 y = μ 248 y := fun y hy => by
    rw [← hM]
    unfold zu_sh
    rw [if_neg (by omega), zm_up_ne (by omega)]
  have TM : ∀ n, n ≠ m → ∀ l', zu_T μ τ n l' → zu_T M τ n l' := fun n hn l' ⟨a0, a1, a2⟩ => ⟨a0, by rw [v9' _ (by omega)]; exact a1, fun j hj => by rw [v8' _ (by omega)]; exact a2 j hj⟩
  have TMm : zu_T M τ m (l.erase k) := ⟨by omega, by rw [v9, hle], fun j hj => v8 j (by omega)⟩
  have frM : zu_fr τ μ M := fun c d h => by
    by_cases h8 : c = 248
    · subst h8
      refine v8' d ?_
      have : ¬ (240 * τ ≤ d ∧ d < 240 * τ + 240) := fun e => h (Or.inr (Or.inr ⟨rfl, e⟩))
      omega
    · by_cases h9 : c = 249
      · subst h9
        refine v9' d (fun e => h (Or.inr (Or.inl ⟨rfl, by omega, by omega⟩)))
      · exact vo c d h8 h9
  by_cases c0 : l.length - 1 = 0
  · -- the leaf goes
    have hE : l.erase k = [] := List.length_eq_zero_iff.mp (by omega)
    rw [if_pos hE]
    have c0' : nI (l.length - 1) ≤ 0 := by rw [c0]; decide
    have fin : ∀ ν, zu_dropped μ ν τ u ab m → (∀ c d, c ≠ 243 → c ≠ 244 → c ≠ 245 → c ≠ 246 → ν c d = M c d) → zu_fr τ M ν → ze_G (D + 3) 9 none zc_X6_leave 84 L [] (zm_mk M) none (zm_mk ν) → ∃ ν ab', ze_E (D + 4) A_Mod_leave [.ref 232, .int (nI τ), .int (nI k)] (zm_mk μ) none (zm_mk ν) ∧ zu_I ν τ (zy_out m u) ab' ∧ (∀ n ∈ zy_lvs u, n ≠ m → ∀ l, zu_T μ τ n l → zu_T ν τ n l) ∧ (l.erase k ≠ [] → zu_T ν τ m (l.erase k)) ∧
  (∀ n ∈ zy_ids (zy_out m u), ν 250 (24 * τ + n) = (if n = m ∧ μ 250 (24 * τ + m) = nI k then zl_nx l k else μ 250 (24 * τ + n)) ∧ ν 247 (24 * τ + n) = μ 247 (24 * τ + n) ∧ zu_fm ν τ n = zu_fm μ τ n) ∧ zu_fr τ μ ν := by
      intro ν hd ho hf G
      have T' : ∀ n ∈ zy_lvs u, n ≠ m → ∀ l, zu_T μ τ n l → zu_T ν τ n l := fun n _ hnm l' hl' => by
        obtain ⟨a0, a1, a2⟩ := TM n hnm l' hl'
        exact ⟨a0, by rw [ho _ _ (by decide) (by decide) (by decide) (by decide)]; exact a1, fun j hj => by rw [ho _ _ (by decide) (by decide) (by decide) (by decide)]; exact a2 j hj⟩
      obtain ⟨ab', I', hi, -⟩ := zu_drop_pure hI hm hd T'
      refine ⟨ν, ab', ze_in [(0, .ref 232), (1, .int (nI τ)), (2, .int (nI k))] zq_Mod_leave (Nat.le_of_ble_eq_true rfl) rfl (S.end G), I', T', fun h => absurd hE h, fun n hn => ⟨?_, ?_, (hi n hn).2.2⟩, frM.trans hf⟩
      · rw [if_neg (fun e => (hi n hn).2.1 e.1), ho _ _ (by decide) (by decide) (by decide) (by decide), vo _ _ (by decide) (by decide)]
      · rw [ho _ _ (by decide) (by decide) (by decide) (by decide), vo _ _ (by decide) (by decide)]
    obtain ⟨N4, E4⟩ := ze_Mabove (μ := M) (D + 1) ht (nI m)
    rw [zu_ab_congr (μ := μ) (fun n _ => by rw [vo _ _ (by decide) (by decide)]) (fun n _ => vo _ _ (by decide) (by decide)) (fun n _ => vo _ _ (by decide) (by decide)), zu_ab_eq hI hmid] at E4
    obtain ⟨lM, cM⟩ := zM_c (μ := M)
    by_cases e : zy_id u = m
    · -- the only one
      have hneg : ¬ (0 : Int32) ≤ ab m := by rw [← e, hrt]; decide
      have it : zi_in (nI τ) 7 = true := zm_in ht (by decide)
      have ct : (nI τ).toNatClampNeg = τ := nI_clamp (by omega)
      refine fin (zm_up (zm_up M 244 (24 * τ + m) 0) 243 τ (-1)) (Or.inl ⟨e, fun i hi => ?_, zm_up_eq⟩) (fun c d h3 h4 _ _ => by rw [zm_up_ne (by omega), zm_up_ne (by omega)]) (fun c d h => ?_) ⟨N4, 23, fun F n hF => ?_⟩
      · rw [zm_up_ne (by omega), zm_up_pt]
        by_cases e2 : i = m
        · rw [if_pos (by omega), if_pos e2]
        · rw [if_neg (by omega), if_neg e2, vo _ _ (by decide) (by decide)]
      · rw [zm_up_ne (fun q => h (Or.inl q)), zm_up_ne (fun q => h (Or.inr (Or.inl ⟨by rw [q.1]; rfl, by omega, by omega⟩)))]
      · simp (maxDischargeDepth := 9) [zg_0, zg_aload_n, zg_bipush, zg_dup2, zg_getfield, zg_goto, zg_iadd, zg_iaload, zg_iastore, zg_iconst, zg_ifCond, zg_if_icmp, zg_iinc, zg_iload, zg_iload_n, zg_imul, zg_invokestatic, zg_invokevirtual, zg_istore, zg_istore_n, zg_isub, zg_return, zf_X6_leave, zi_ld, zi_lda, zi_cmp, zi_retOk, zi_isI, zi_f3, zi_cr, zi_ci, zi_cn, zi_get_ne, zi_nl_i, zi_nl_r, zi_get_set_eq, nl, g0, g1, g2, g3, g4, zM_g, zm_iald (k := 0) zM_A249 ia, ca, v9, c0', zq_Mod_above, cM, E4 F (by omega), zm_iast zM_A244 ia, hneg, zm_iast zM_A243 it, ct]
    · -- the cut above becomes its other tree
      obtain ⟨q, hq, eq, hor⟩ := zy_ok_par u wt ok m hmid (Ne.symm e)
      have hqid := zy_cts_ids u wt q hq
      have hq24 := k6 q hqid
      have hqm : q ≠ m := fun e2 => by
        have := zu_I_cut hI hq
        rw [e2, zu_I_leaf hI hm] at this
        revert this; decide
      have hpos : (0 : Int32) ≤ ab m := by rw [eq]; exact nI_pos' (by omega)
      obtain ⟨i, j, hi, hj, hij, e1, e2, a1, a2⟩ := zy_ok_kids u wt k5 ok q hq
      have hi24 := k6 i hi
      have hj24 := k6 j hj
      have iq : zi_in (nI (24 * τ + q)) 168 = true := zm_in (by omega) (by decide)
      have cq : (nI (24 * τ + q)).toNatClampNeg = 24 * τ + q := nI_clamp (by omega)
      let M2 := zm_up M 244 (24 * τ + m) 0
      have r5 : M2 245 (24 * τ + q) = μ 245 (24 * τ + q) := (zm_up_ne (by omega)).trans (vo _ _ (by decide) (by decide))
      have r6 : M2 246 (24 * τ + q) = μ 246 (24 * τ + q) := (zm_up_ne (by omega)).trans (vo _ _ (by decide) (by decide))
      obtain ⟨N5, E5⟩ := ze_spot (h := zm_mk M2) (n := q) (D + 2) ht
      obtain ⟨N6, E6⟩ := ze_Mabove (μ := M2) (D + 1) ht (nI q)
      rw [zu_ab_congr (μ := μ) (fun n hn => by
        show 1 < zm_up M 244 (24 * τ + m) 0 244 (24 * τ + n) ↔ _
        rw [zm_up_pt]
        by_cases e3 : n = m
        · subst e3
          rw [if_pos rfl, zu_I_leaf hI hm]
          decide
        · rw [if_neg (by omega), vo _ _ (by decide) (by decide)]) (fun n _ => (zm_up_ne (by omega)).trans (vo _ _ (by decide) (by decide))) (fun n _ => (zm_up_ne (by omega)).trans (vo _ _ (by decide) (by decide))), zu_ab_eq hI hqid] at E6
      let M3 := zm_up M2 244 (24 * τ + q) 0
      have main : ∀ o, o ∈ zy_ids u → m ≠ o → ab o = nI q → ((μ 245 (24 * τ + q) = nI m ∧ μ 246 (24 * τ + q) = nI o) ∨ (μ 245 (24 * τ + q) = nI o ∧ μ 246 (24 * τ + q) = nI m)) → (ze_E (D + 3) A_Mod_stand [.ref 232, .int (nI τ), .int (ab q), .int (nI q), .int (nI o)] (zm_mk M3) none (zm_mk (zu_st M3 τ (ab q) (nI q) (nI o))) → ze_G (D + 3) 9 none zc_X6_leave 84 L [] (zm_mk M) none (zm_mk (zu_st M3 τ (ab q) (nI q) (nI o)))) → ∃ ν ab', ze_E (D + 4) A_Mod_leave [.ref 232, .int (nI τ), .int (nI k)] (zm_mk μ) none (zm_mk ν) ∧ zu_I ν τ (zy_out m u) ab' ∧ (∀ n ∈ zy_lvs u, n ≠ m → ∀ l, zu_T μ τ n l → zu_T ν τ n l) ∧ (l.erase k ≠ [] → zu_T ν τ m (l.erase k)) ∧
  (∀ n ∈ zy_ids (zy_out m u), ν 250 (24 * τ + n) = (if n = m ∧ μ 250 (24 * τ + m) = nI k then zl_nx l k else μ 250 (24 * τ + n)) ∧ ν 247 (24 * τ + n) = μ 247 (24 * τ + n) ∧ zu_fm ν τ n = zu_fm μ τ n) ∧ zu_fr τ μ ν := by
        intro o ho hmo ao hqo G
        have w : ∀ c d, c ≠ 244 → M3 c d = M c d := fun c d h => by
          show zm_up (zm_up M 244 (24 * τ + m) 0) 244 (24 * τ + q) 0 c d = M c d
          rw [zm_up_ne (by omega), zm_up_ne (by omega)]
        obtain ⟨s5, s6, s3, sf⟩ := zu_st_ok hI hqid (M := M3) (fun x _ => (w _ _ (by decide)).trans (vo _ _ (by decide) (by decide))) (fun x _ => (w _ _ (by decide)).trans (vo _ _ (by decide) (by decide))) ((w _ _ (by decide)).trans (vo _ _ (by decide) (by decide))) (nI o)
        refine fin _ (Or.inr ⟨e, q, o, hq, ho, hmo, eq, ao, hqo, fun x hx => ?_, s5, s6, s3⟩) (fun c d h3 h4 h5 h6 => ?_) (fun c d h => ?_) (G (ze_Mstand (D := D + 1) ht (zu_ab_or hI hqid) (nI q) (nI o)))
        · rw [sf _ _ (by omega) (by omega)]
          show zm_up (zm_up M 244 (24 * τ + m) 0) 244 (24 * τ + q) 0 244 (24 * τ + x) = _
          rw [zm_up_pt]
          by_cases x1 : x = q
          · rw [if_pos (by omega), if_pos x1]
          · rw [if_neg (by omega), if_neg x1, zm_up_pt]
            by_cases x2 : x = m
            · rw [if_pos (by omega), if_pos x2]
            · rw [if_neg (by omega), if_neg x2, vo _ _ (by decide) (by decide)]
        · rw [sf c d (by omega) (by omega), w c d h4]
        · have key : ∀ z x', z < 24 → zu_c6 x' = true → ¬ (c = x' ∧ d = 24 * τ + z) := fun z x' hz hx' q => h (Or.inr (Or.inl ⟨by rw [q.1]; exact hx', by omega, by omega⟩))
          rw [sf c d (fun q => h (Or.inl q)) (by
            rintro ⟨x1 | x1, y, hy, x2⟩
            · exact key y 245 (k6 y (zy_cts_ids u wt y hy)) rfl ⟨x1, x2⟩
            · exact key y 246 (k6 y (zy_cts_ids u wt y hy)) rfl ⟨x1, x2⟩)]
          show zm_up (zm_up M 244 (24 * τ + m) 0) 244 (24 * τ + q) 0 c d = M c d
          rw [zm_up_ne (key q 244 hq24 rfl), zm_up_ne (key m 244 hm24 rfl)]
      obtain ⟨l2, cM2⟩ := zM_c (μ := M2)
      obtain ⟨l3, cM3⟩ := zM_c (μ := M3)
      obtain ⟨N7, E7⟩ := ze_spot (h := zm_mk M2) (n := q) (D + 2) ht
      by_cases c9 : μ 245 (24 * τ + q) = nI m
      · have hin : i = m := (nI_eq (by omega) (by omega)).mp (e1.symm.trans c9)
        refine main j hj (fun h => hij (hin.trans h)) a2 (Or.inl ⟨c9, e2⟩) (fun ⟨N8, E8⟩ => ?_)
        have r5' : M2 245 (24 * τ + q) = nI m := r5.trans c9
        have r6' : M2 246 (24 * τ + q) = nI j := r6.trans e2
        rw [eq] at E4 hpos
        refine ⟨N4 + N5 + N6 + N7 + N8, 52, fun F n hF => ?_⟩
        simp (maxDischargeDepth := 9) [zg_0, zg_aload_n, zg_bipush, zg_dup2, zg_getfield, zg_goto, zg_iadd, zg_iaload, zg_iastore, zg_iconst, zg_ifCond, zg_if_icmp, zg_iinc, zg_iload, zg_iload_n, zg_imul, zg_invokestatic, zg_invokevirtual, zg_istore, zg_istore_n, zg_isub, zg_return, zf_X6_leave, zi_ld, zi_lda, zi_cmp, zi_retOk, zi_isI, zi_f3, zi_cr, zi_ci, zi_cn, zi_get_ne, zi_nl_i, zi_nl_r, zi_get_set_eq, nl, g0, g1, g2, g3, g4, zM_g, zm_iald (k := 0) zM_A249 ia, ca, v9, c0', zq_Mod_above, zq_Mod_spot, zq_Mod_stand, cM, cM2, cM3, E4 F (by omega), zm_iast zM_A244 ia, zm_iast zM_A244 iq, hpos, show zm_up M 244 (24 * τ + m) 0 = M2 from rfl, E5 F (by omega), zm_iald (k := 0) zM_A245 iq, zm_iald (k := 0) zM_A246 iq, cq, r5', r6', E6 F (by omega), show zm_up M2 244 (24 * τ + q) 0 = M3 from rfl, E8 F (by omega)]
      · have c10 : μ 246 (24 * τ + q) = nI m := hor.resolve_left c9
        have hjn : j = m := (nI_eq (by omega) (by omega)).mp (e2.symm.trans c10)
        refine main i hi (fun h => hij (h.symm.trans hjn.symm)) a1 (Or.inr ⟨e1, c10⟩) (fun ⟨N8, E8⟩ => ?_)
        have r5' : M2 245 (24 * τ + q) = nI i := r5.trans e1
        have c9' : ¬ nI i = nI m := fun h => c9 (e1.trans h)
        rw [eq] at E4 hpos
        refine ⟨N4 + N5 + N6 + N7 + N8, 51, fun F n hF => ?_⟩
        simp (maxDischargeDepth := 9) [zg_0, zg_aload_n, zg_bipush, zg_dup2, zg_getfield, zg_goto, zg_iadd, zg_iaload, zg_iastore, zg_iconst, zg_ifCond, zg_if_icmp, zg_iinc, zg_iload, zg_iload_n, zg_imul, zg_invokestatic, zg_invokevirtual, zg_istore, zg_istore_n, zg_isub, zg_return, zf_X6_leave, zi_ld, zi_lda, zi_cmp, zi_retOk, zi_isI, zi_f3, zi_cr, zi_ci, zi_cn, zi_get_ne, zi_nl_i, zi_nl_r, zi_get_set_eq, nl, g0, g1, g2, g3, g4, zM_g, zm_iald (k := 0) zM_A249 ia, ca, v9, c0', zq_Mod_above, zq_Mod_spot, zq_Mod_stand, cM, cM2, cM3, E4 F (by omega), zm_iast zM_A244 ia, zm_iast zM_A244 iq, hpos, show zm_up M 244 (24 * τ + m) 0 = M2 from rfl, E5 F (by omega), zm_iald (k := 0) zM_A245 iq, zm_iald (k := 0) zM_A246 iq, cq, r5', c9', E6 F (by omega), show zm_up M2 244 (24 * τ + q) 0 = M3 from rfl, E8 F (by omega)]
  · -- tabs are left
    have hE : l.erase k ≠ [] := fun h => by rw [h] at hle; exact c0 hle.symm
    rw [if_neg hE]
    have c0' : ¬ nI (l.length - 1) ≤ 0 := by
      have := nI_ge (a := 0) (b := l.length - 1) (by omega) (by omega)
      rwa [nI_0] at this
    generalize hx : (if μ 250 (24 * τ + m) = nI k then zl_nx l k else μ 250 (24 * τ + m)) = x
    have o0 : ∀ n, zm_up M 250 (24 * τ + m) x 250 (24 * τ + n) = if n = m ∧ μ 250 (24 * τ + m) = nI k then zl_nx l k else μ 250 (24 * τ + n) := fun n => by
      rw [zm_up_pt]
      by_cases e : n = m
      · subst e
        rw [if_pos rfl, ← hx]
        by_cases e2 : μ 250 (24 * τ + n) = nI k
        · rw [if_pos e2, if_pos ⟨rfl, e2⟩]
        · rw [if_neg e2, if_neg (fun q => e2 q.2)]
      · rw [if_neg (by omega), if_neg (fun q => e q.1), vo _ _ (by decide) (by decide)]
    have oo : ∀ c d, c ≠ 250 → zm_up M 250 (24 * τ + m) x c d = M c d := fun c d h => zm_up_ne (by omega)
    have T2 : ∀ n l', zu_T M τ n l' → zu_T (zm_up M 250 (24 * τ + m) x) τ n l' := fun n l' ⟨a0, a1, a2⟩ => ⟨a0, by rw [oo _ _ (by decide)]; exact a1, fun j hj => by rw [oo _ _ (by decide)]; exact a2 j hj⟩
    have fmE : ∀ n, zu_fm (zm_up M 250 (24 * τ + m) x) τ n = zu_fm μ τ n := fun n => by
      unfold zu_fm
      rw [oo _ _ (by decide), vo _ _ (by decide) (by decide)]
    have hlerb : ∀ y ∈ l.erase k, y < 10 := fun y hy => hlb y (List.mem_of_mem_erase hy)
    refine ⟨zm_up M 250 (24 * τ + m) x, ab, ?_, ⟨Or.inr ⟨wt, ?_, ?_, hrt⟩, k5, k6, fun n hn hnu => ?_, fun n hn => ?_⟩, fun n _ hnm l' hl' => T2 n l' (TM n hnm l' hl'), fun _ => T2 m _ TMm, fun n hn => ⟨o0 n, ?_, fmE n⟩, frM.trans (fun c d h => zm_up_ne (fun q => h (Or.inr (Or.inl ⟨by rw [q.1]; rfl, by omega, by omega⟩))))⟩
    · refine ze_in [(0, .ref 232), (1, .int (nI τ)), (2, .int (nI k))] zq_Mod_leave (Nat.le_of_ble_eq_true rfl) rfl (S.end ?_)
      have m10 : (10 : Int32) * nI (24 * τ + m) = nI (10 * (24 * τ + m)) := nI_mul10 (by omega)
      have v0 : M 250 (24 * τ + m) = μ 250 (24 * τ + m) := vo _ _ (by decide) (by decide)
      have hsub2 : nI (l.length - 1) - 1 = nI (l.length - 1 - 1) := by
        have : ∀ n, n < 11 → 0 < n → nI n - 1 = nI (n - 1) := by decide
        exact this _ (by omega) (by omega)
      have hnx : zl_nx l k = nI ((l.erase k).getD (min (l.idxOf k) ((l.erase k).length - 1)) 0) := by
        unfold zl_nx
        rw [if_neg hE]
      by_cases c1 : l.idxOf k < l.length - 1
      · have c1' : ¬ nI (l.length - 1) ≤ nI (l.idxOf k) := nI_ge c1 (by omega)
        have ii : zi_in (nI (10 * (24 * τ + m) + l.idxOf k)) 1680 = true := zm_in (by omega) (by decide)
        have ci : (nI (10 * (24 * τ + m) + l.idxOf k)).toNatClampNeg = 10 * (24 * τ + m) + l.idxOf k := nI_clamp (by omega)
        have tv := v8 (l.idxOf k) c1
        have hmin : min (l.idxOf k) ((l.erase k).length - 1) = l.idxOf k := by omega
        rw [hmin] at hnx
        rw [← hnx] at tv
        by_cases c2 : μ 250 (24 * τ + m) = nI k
        · rw [if_pos c2] at hx
          rw [hx] at tv
          refine ⟨0, 34, fun F n hF => ?_⟩
          simp (maxDischargeDepth := 9) [zg_0, zg_aload_n, zg_bipush, zg_dup2, zg_getfield, zg_goto, zg_iadd, zg_iaload, zg_iastore, zg_iconst, zg_ifCond, zg_if_icmp, zg_iinc, zg_iload, zg_iload_n, zg_imul, zg_invokestatic, zg_invokevirtual, zg_istore, zg_istore_n, zg_isub, zg_return, zf_X6_leave, zi_ld, zi_lda, zi_cmp, zi_retOk, zi_isI, zi_f3, zi_cr, zi_ci, zi_cn, zi_get_ne, zi_nl_i, zi_nl_r, zi_get_set_eq, nl, g0, g1, g2, g3, g4, g5, zM_g, zm_iald (k := 0) zM_A249 ia, ca, v9, c0', c1', zm_iald (k := 0) zM_A250 ia, v0, c2, h10, m10, nI_add, zm_iald (k := 0) zM_A248 ii, ci, tv, zm_iast zM_A250 ia]
        · rw [if_neg c2] at hx
          rw [hx] at c2 v0
          refine ⟨0, 29, fun F n hF => ?_⟩
          simp (maxDischargeDepth := 9) [zg_0, zg_aload_n, zg_bipush, zg_dup2, zg_getfield, zg_goto, zg_iadd, zg_iaload, zg_iastore, zg_iconst, zg_ifCond, zg_if_icmp, zg_iinc, zg_iload, zg_iload_n, zg_imul, zg_invokestatic, zg_invokevirtual, zg_istore, zg_istore_n, zg_isub, zg_return, zf_X6_leave, zi_ld, zi_lda, zi_cmp, zi_retOk, zi_isI, zi_f3, zi_cr, zi_ci, zi_cn, zi_get_ne, zi_nl_i, zi_nl_r, zi_get_set_eq, nl, g0, g1, g2, g3, g4, g5, zM_g, zm_iald (k := 0) zM_A249 ia, ca, v9, c0', c1', zm_iald (k := 0) zM_A250 ia, v0, c2, zm_iast zM_A250 ia]
      · have c1' : nI (l.length - 1) ≤ nI (l.idxOf k) := nI_le (by omega) (by omega)
        have ii : zi_in (nI (10 * (24 * τ + m) + (l.length - 1 - 1))) 1680 = true := zm_in (by omega) (by decide)
        have ci : (nI (10 * (24 * τ + m) + (l.length - 1 - 1))).toNatClampNeg = 10 * (24 * τ + m) + (l.length - 1 - 1) := nI_clamp (by omega)
        have tv := v8 (l.length - 1 - 1) (by omega)
        have hmin : min (l.idxOf k) ((l.erase k).length - 1) = l.length - 1 - 1 := by omega
        rw [hmin] at hnx
        rw [← hnx] at tv
        by_cases c2 : μ 250 (24 * τ + m) = nI k
        · rw [if_pos c2] at hx
          rw [hx] at tv
          refine ⟨0, 38, fun F n hF => ?_⟩
          simp (maxDischargeDepth := 9) [zg_0, zg_aload_n, zg_bipush, zg_dup2, zg_getfield, zg_goto, zg_iadd, zg_iaload, zg_iastore, zg_iconst, zg_ifCond, zg_if_icmp, zg_iinc, zg_iload, zg_iload_n, zg_imul, zg_invokestatic, zg_invokevirtual, zg_istore, zg_istore_n, zg_isub, zg_return, zf_X6_leave, zi_ld, zi_lda, zi_cmp, zi_retOk, zi_isI, zi_f3, zi_cr, zi_ci, zi_cn, zi_get_ne, zi_nl_i, zi_nl_r, zi_get_set_eq, nl, g0, g1, g2, g3, g4, g5, zM_g, zm_iald (k := 0) zM_A249 ia, ca, v9, c0', c1', hsub2, zm_iald (k := 0) zM_A250 ia, v0, c2, h10, m10, nI_add, zm_iald (k := 0) zM_A248 ii, ci, tv, zm_iast zM_A250 ia]
        · rw [if_neg c2] at hx
          rw [hx] at c2 v0
          refine ⟨0, 33, fun F n hF => ?_⟩
          simp (maxDischargeDepth := 9) [zg_0, zg_aload_n, zg_bipush, zg_dup2, zg_getfield, zg_goto, zg_iadd, zg_iaload, zg_iastore, zg_iconst, zg_ifCond, zg_if_icmp, zg_iinc, zg_iload, zg_iload_n, zg_imul, zg_invokestatic, zg_invokevirtual, zg_istore, zg_istore_n, zg_isub, zg_return, zf_X6_leave, zi_ld, zi_lda, zi_cmp, zi_retOk, zi_isI, zi_f3, zi_cr, zi_ci, zi_cn, zi_get_ne, zi_nl_i, zi_nl_r, zi_get_set_eq, nl, g0, g1, g2, g3, g4, g5, zM_g, zm_iald (k := 0) zM_A249 ia, ca, v9, c0', c1', hsub2, zm_iald (k := 0) zM_A250 ia, v0, c2, zm_iast zM_A250 ia]
    · refine zy_ok_congr u wt k5 (fun y _ => fmE y) (fun y _ => ⟨?_, ?_⟩) (fun _ _ _ => rfl) ok
      · show zm_up M 250 (24 * τ + m) x 245 _ = _
        rw [oo _ _ (by decide), vo _ _ (by decide) (by decide)]
      · show zm_up M 250 (24 * τ + m) x 246 _ = _
        rw [oo _ _ (by decide), vo _ _ (by decide) (by decide)]
    · rw [oo _ _ (by decide), vo _ _ (by decide) (by decide)]; exact hr
    · rw [oo _ _ (by decide), vo _ _ (by decide) (by decide)]; exact k8 n hn hnu
    · by_cases e : n = m
      · subst e
        exact ⟨_, T2 _ _ TMm, hE, hlerb⟩
      · obtain ⟨l', h1, h2⟩ := k9 n hn
        exact ⟨l', T2 _ _ (TM n e l' h1), h2⟩
    · rw [oo _ _ (by decide), vo _ _ (by decide) (by decide)]
end ZUL
