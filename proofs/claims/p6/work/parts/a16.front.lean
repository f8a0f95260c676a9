/-! the reference: front, screenAtHand -/
section ZVC
variable {μ : zm_M}
theorem zl_mem_getD {k : Nat} : ∀ {l : List Nat}, k ∈ l → ∃ j, j < l.length ∧ l.getD j 0 = k
  | a :: l, h => by
    rcases List.mem_cons.mp h with e | e
    · exact ⟨0, Nat.succ_pos _, e.symm⟩
    · obtain ⟨j, h1, h2⟩ := zl_mem_getD e
      exact ⟨j + 1, Nat.succ_lt_succ h1, h2⟩
theorem zl_idxOf {k : Nat} : ∀ (l : List Nat) (i : Nat), i < l.length → l.getD i 0 = k → (∀ j, j < i → l.getD j 0 ≠ k) → l.idxOf k = i
  | [], i, h, _, _ => by cases h
  | a :: l, 0, _, e, _ => by
    have e : a = k := e
    rw [e, List.idxOf_cons_self]
  | a :: l, i + 1, h, e, g => by
    have e1 : a ≠ k := g 0 (by omega)
    have h' : i + 1 < l.length + 1 := h
    have e2 : l.getD i 0 = k := e
    have : List.idxOf k l = i := zl_idxOf l i (by omega) e2 (fun j hj => g (j + 1) (by omega))
    rw [List.idxOf_cons, this]
    have hb : (a == k) = false := by simp [e1]
    rw [hb]
    rfl
set_option maxRecDepth 100000 in
theorem ze_Mfront (D : Nat) {k : Nat} (hk : k < 10) {l : List Nat} (hL : zv_L μ 242 12 l) (hd : l.Nodup) (hb : ∀ x ∈ l, x < 10) : ∃ ν, ze_E (D + 1) A_Mod_front [.ref 232, .int (nI k)] (zm_mk μ) none (zm_mk ν) ∧ zv_L ν 242 12 (k :: l.erase k) ∧ ∀ c d, c ≠ 242 → ¬ (c = 231 ∧ d = 12) → ν c d = μ c d := by
  obtain ⟨l1, l2, l3⟩ := hL
  have key : ∃ r h', ze_G D 5 none zc_X6_front 4 [(3, .int (nI 0)), (2, .int (nI k)), (0, .ref 232), (1, .int (nI k))] [] (zm_mk μ) r h' ∧ (r = none ∧ ∃ ν, zm_mk ν = h' ∧ zv_L ν 242 12 (k :: l.erase k) ∧ ∀ c d, c ≠ 242 → ¬ (c = 231 ∧ d = 12) → ν c d = μ c d) := by
    refine ze_loop (Q := fun i L hp => i ≤ l.length ∧ zi_nl L = true ∧ zi_get L 0 = some (.ref 232) ∧ zi_get L 1 = some (.int (nI k)) ∧ zi_get L 3 = some (.int (nI i)) ∧ ∃ ξ : zm_M, zm_mk ξ = hp ∧ (∀ c d, c ≠ 242 → ξ c d = μ c d) ∧ ∃ (x : Nat), zi_get L 2 = some (.int (nI x)) ∧ (x = (k :: l).getD i 0 ∧ (∀ j, j < i → ξ 242 j = nI ((k :: l).getD j 0)) ∧ (∀ j, i ≤ j → ξ 242 j = μ 242 j) ∧ ∀ j, j < i → l.getD j 0 ≠ k)) (R := fun r h' => r = none ∧ ∃ ν, zm_mk ν = h' ∧ zv_L ν 242 12 (k :: l.erase k) ∧ ∀ c d, c ≠ 242 → ¬ (c = 231 ∧ d = 12) → ν c d = μ c d) l.length ?_ ?_ l.length 0 _ _ (by omega) ⟨by omega, rfl, rfl, rfl, rfl, μ, rfl, (fun _ _ _ => rfl), k, rfl, ⟨rfl, (fun j hj => absurd hj (by omega)), (fun _ _ => rfl), fun j hj => absurd hj (by omega)⟩⟩
    · rintro i L _ hi ⟨-, nl, g0, g1, g3, ξ, rfl, f1, x, g2, hq⟩
      obtain ⟨q1, q2, q3, q4⟩ := hq
      have e12 : ξ 231 12 = nI l.length := (f1 _ _ (by decide)).trans l2
      have c1 : ¬ nI l.length ≤ nI i := nI_ge hi (by omega)
      have ik : zi_in (nI i) 10 = true := zm_in (by omega) (by decide)
      have ck : (nI i).toNatClampNeg = i := nI_clamp (by omega)
      have e1 : ξ 242 i = nI (l.getD i 0) := (q3 i (Nat.le_refl _)).trans (l3 i hi)
      have hx := hb _ (zl_mem hi)
      have p2 : ∀ j, j < i + 1 → zm_up ξ 242 i (nI x) 242 j = nI ((k :: l).getD j 0) := fun j hj => by
        rw [zm_up_pt]
        by_cases e : j = i
        · rw [if_pos e, q1, e]
        · rw [if_neg e]; exact q2 j (by omega)
      have p3 : ∀ j, i + 1 ≤ j → zm_up ξ 242 i (nI x) 242 j = μ 242 j := fun j hj => by
        rw [zm_up_ne (by omega)]; exact q3 j (by omega)
      have p4 : ∀ c d, c ≠ 242 → zm_up ξ 242 i (nI x) c d = μ c d := fun c d h => by
        rw [zm_up_ne (by omega)]; exact f1 c d h
      by_cases c2 : l.getD i 0 = k
      · have c2' : nI (l.getD i 0) = nI k := by rw [c2]
        have hkl : k ∈ l := c2 ▸ zl_mem hi
        have hix : l.idxOf k = i := zl_idxOf l i hi c2 q4
        have hle : (k :: l.erase k).length = l.length := by rw [List.length_cons, List.length_erase_of_mem hkl]; omega
        right
        refine ⟨none, zm_mk (zm_up ξ 242 i (nI x)), ⟨0, 20, fun F m hF => ?_⟩, rfl, _, rfl, ⟨by omega, by rw [hle, p4 231 12 (by decide)]; exact l2, fun j hj => ?_⟩, fun c d h1 _ => p4 c d h1⟩
        · generalize l.getD i 0 = y at e1 c2'
          simp (maxDischargeDepth := 9) [zg_0, zg_aload_n, zg_dup, zg_getfield, zg_goto, zg_iadd, zg_iaload, zg_iastore, zg_iconst, zg_if_icmp, zg_iinc, zg_iload, zg_iload_n, zg_istore, zg_istore_n, zg_putfield, zg_return, zf_X6_front, zi_ld, zi_lda, zi_cmp, zi_retOk, zi_isI, zi_f3, zi_cr, zi_ci, zi_cn, zi_get_ne, zi_nl_i, zi_nl_r, zi_get_set_eq, nl, g0, g1, g3, g2, c1, zM_g, e12, zm_iald (k := 0) zM_A242 ik, ck, e1, zm_iast zM_A242 ik, c2', nI_1]
        · rw [hle] at hj
          cases j with
          | zero => exact p2 0 (by omega)
          | succ j =>
            show _ = nI ((l.erase k).getD j 0)
            have hj2 : j < (l.erase k).length := by rw [List.length_cons] at hle; omega
            rw [zl_idx_er hj2, hix]
            by_cases e : j < i
            · rw [if_pos e]; exact p2 (j + 1) (by omega)
            · rw [if_neg e, p3 (j + 1) (by omega)]; exact l3 (j + 1) hj
      · have c2' : ¬ nI (l.getD i 0) = nI k := fun e => c2 ((nI_eq (by omega) (by omega)).mp e)
        have p1 : l.getD i 0 = (k :: l).getD (i + 1) 0 := rfl
        have p5 : ∀ j, j < i + 1 → l.getD j 0 ≠ k := fun j hj => by
          by_cases e : j = i
          · rw [e]; exact c2
          · exact q4 j (by omega)
        generalize l.getD i 0 = y at e1 c2' p1
        left
        refine ⟨zi_set (zi_set (zi_set L 4 (.int (nI y))) 2 (.int (nI y))) 3 (.int (nI (i + 1))), zm_mk (zm_up ξ 242 i (nI x)), ⟨0, 21, fun F m hF => ?_⟩, by omega, ?_, ?_, ?_, zi_get_set_eq, _, rfl, p4, y, ?_, ⟨p1, p2, p3, p5⟩⟩
        · simp (maxDischargeDepth := 9) [zg_0, zg_aload_n, zg_dup, zg_getfield, zg_goto, zg_iadd, zg_iaload, zg_iastore, zg_iconst, zg_if_icmp, zg_iinc, zg_iload, zg_iload_n, zg_istore, zg_istore_n, zg_putfield, zg_return, zf_X6_front, zi_ld, zi_lda, zi_cmp, zi_retOk, zi_isI, zi_f3, zi_cr, zi_ci, zi_cn, zi_get_ne, zi_nl_i, zi_nl_r, zi_get_set_eq, nl, g0, g1, g3, g2, c1, zM_g, e12, zm_iald (k := 0) zM_A242 ik, ck, e1, zm_iast zM_A242 ik, c2', nI_1]
        · simp (maxDischargeDepth := 9) [zi_get_ne, zi_nl_i, zi_nl_r, zi_get_set_eq, nl]
        · simp (maxDischargeDepth := 9) [zi_get_ne, zi_nl_i, zi_nl_r, zi_get_set_eq, nl, g0]
        · simp (maxDischargeDepth := 9) [zi_get_ne, zi_nl_i, zi_nl_r, zi_get_set_eq, nl, g1]
        · simp (maxDischargeDepth := 9) [zi_get_ne, zi_nl_i, zi_nl_r, zi_get_set_eq, nl, g2]
    · rintro L _ ⟨-, nl, g0, g1, g3, ξ, rfl, f1, x, g2, hq⟩
      obtain ⟨q1, q2, q3, q4⟩ := hq
      have e12 : ξ 231 12 = nI l.length := (f1 _ _ (by decide)).trans l2
      have c1 : nI l.length ≤ nI l.length := Int32.le_refl _
      have hkl : k ∉ l := fun h => by
        obtain ⟨j, hj, e⟩ := zl_mem_getD h
        exact q4 j hj e
      have hle : (k :: l).length ≤ 10 := zy_nodup_le 10 (k :: l) (List.nodup_cons.mpr ⟨hkl, hd⟩) (fun x hx => by
        rcases List.mem_cons.mp hx with e | e
        · rw [e]; exact hk
        · exact hb x e)
      have hle' : l.length + 1 ≤ 10 := hle
      have ik : zi_in (nI l.length) 10 = true := zm_in (by omega) (by decide)
      have ck : (nI l.length).toNatClampNeg = l.length := nI_clamp (by omega)
      have e12' : zm_up ξ 242 l.length (nI x) 231 12 = nI l.length := (zm_up_ne (by omega)).trans e12
      rw [List.erase_of_not_mem hkl]
      refine ⟨none, zm_mk (zm_up (zm_up ξ 242 l.length (nI x)) 231 12 (nI (l.length + 1))), ⟨0, 17, fun F m hF => ?_⟩, rfl, _, rfl, ⟨hle, by rw [zm_up_eq]; rfl, fun j hj => ?_⟩, fun c d h1 h2 => ?_⟩
      · simp [zg_0, zg_aload_n, zg_dup, zg_getfield, zg_goto, zg_iadd, zg_iaload, zg_iastore, zg_iconst, zg_if_icmp, zg_iinc, zg_iload, zg_iload_n, zg_istore, zg_istore_n, zg_putfield, zg_return, zf_X6_front, zi_ld, zi_lda, zi_cmp, zi_retOk, zi_isI, zi_f3, zi_cr, zi_ci, zi_cn, g0, g2, g3, zM_g, e12, c1, zm_iast zM_A242 ik, ck, e12', nI_add, nI_1, zM_p12]
      · rw [zm_up_ne (by omega), zm_up_pt]
        have hj : j < l.length + 1 := hj
        by_cases e : j = l.length
        · rw [if_pos e, q1, e]
        · rw [if_neg e]; exact q2 j (by omega)
      · rw [zm_up_ne h2, zm_up_ne (by omega)]; exact f1 c d h1
  obtain ⟨r, h', G, rfl, ν, rfl, f⟩ := key
  refine ⟨ν, ze_in [(0, .ref 232), (1, .int (nI k))] zq_Mod_front (Nat.le_of_ble_eq_true rfl) rfl (ze_S.end ⟨0, 4, fun F m hF => ?_⟩ G), f⟩
  simp [zg_0, zg_aload_n, zg_dup, zg_getfield, zg_goto, zg_iadd, zg_iaload, zg_iastore, zg_iconst, zg_if_icmp, zg_iinc, zg_iload, zg_iload_n, zg_istore, zg_istore_n, zg_putfield, zg_return, zf_X6_front, zi_ld, zi_lda, zi_cmp, zi_retOk, zi_isI, zi_f3, zi_cr, zi_ci, zi_cn, zi_get, zi_set, nI_0]
def zv_lsb (μ : zm_M) : Int32 := zl_fi (fun s => decide (0 < μ 232 s)) (-1) 3 0
def zv_sah (μ : zm_M) : List Nat → Int32
  | [] => zv_lsb μ
  | k :: l => if μ 234 k = 4 then zv_sah μ l else μ 238 k
set_option maxRecDepth 100000 in
theorem ze_MscreenAtHand (D : Nat) {l : List Nat} (hL : zv_L μ 242 12 l) (hb : ∀ x ∈ l, x < 10) : ze_E (D + 1) A_Mod_screenAtHand [.ref 232] (zm_mk μ) (some (.int (zv_sah μ l))) (zm_mk μ) := by
  obtain ⟨l1, l2, l3⟩ := hL
  have key2 : ∀ L0, zi_nl L0 = true → zi_get L0 0 = some (.ref 232) → zi_get L0 1 = some (.int (nI 0)) → ∃ r h', ze_G D 2 (some .int) zc_X6_screenAtHand 45 L0 [] (zm_mk μ) r h' ∧ (r = some (.int (zv_lsb μ)) ∧ zm_mk μ = h') := by
    intro L0 nl0 a0 a1
    refine ze_loop (Q := fun i L hp => i ≤ 3 ∧ zi_nl L = true ∧ zi_get L 0 = some (.ref 232) ∧ zi_get L 1 = some (.int (nI i)) ∧ zm_mk μ = hp ∧ (zv_lsb μ = zl_fi (fun s => decide (0 < μ 232 s)) (-1) (3 - i) i)) (R := fun r h' => r = some (.int (zv_lsb μ)) ∧ zm_mk μ = h') 3 ?_ ?_ 3 0 _ _ (by omega) ⟨by omega, nl0, a0, a1, rfl, rfl⟩
    · rintro i L _ hi ⟨-, nl, g0, g1, rfl, hq⟩
      have c1 : ¬ (3 : Int32) ≤ nI i := nI_ge (b := 3) hi (by decide)
      have ik : zi_in (nI i) 3 = true := zm_in hi (by decide)
      have ck : (nI i).toNatClampNeg = i := nI_clamp (by omega)
      rw [zl_fi_s hi] at hq
      by_cases c2 : 0 < μ 232 i
      · have c2' : ¬ μ 232 i ≤ 0 := Int32.not_le.mpr c2
        rw [if_pos (decide_eq_true c2)] at hq
        right
        refine ⟨some (.int (nI i)), zm_mk μ, ⟨0, 10, fun F m hF => ?_⟩, by rw [hq], rfl⟩
        simp (maxDischargeDepth := 9) [zg_0, zg_aload_n, zg_getfield, zg_goto, zg_iaload, zg_iconst, zg_ifCond, zg_if_icmp, zg_iinc, zg_iload_n, zg_ireturn, zg_istore_n, zf_X6_screenAtHand, zi_ld, zi_lda, zi_cmp, zi_retOk, zi_isI, zi_f3, zi_cr, zi_ci, zi_cn, zi_get_ne, zi_nl_i, zi_nl_r, zi_get_set_eq, nl, g0, g1, c1, zM_g, zm_iald (k := 0) zM_A232 ik, ck, c2', nI_1]
      · have c2' : μ 232 i ≤ 0 := Int32.not_lt.mp c2
        rw [if_neg (fun e => c2 (of_decide_eq_true e))] at hq
        left
        refine ⟨zi_set L 1 (.int (nI (i + 1))), zm_mk μ, ⟨0, 10, fun F m hF => ?_⟩, by omega, ?_, ?_, zi_get_set_eq, rfl, hq⟩
        · simp (maxDischargeDepth := 9) [zg_0, zg_aload_n, zg_getfield, zg_goto, zg_iaload, zg_iconst, zg_ifCond, zg_if_icmp, zg_iinc, zg_iload_n, zg_ireturn, zg_istore_n, zf_X6_screenAtHand, zi_ld, zi_lda, zi_cmp, zi_retOk, zi_isI, zi_f3, zi_cr, zi_ci, zi_cn, zi_get_ne, zi_nl_i, zi_nl_r, zi_get_set_eq, nl, g0, g1, c1, zM_g, zm_iald (k := 0) zM_A232 ik, ck, c2', nI_1]
        · simp (maxDischargeDepth := 9) [zi_get_ne, zi_nl_i, zi_nl_r, zi_get_set_eq, nl]
        · simp (maxDischargeDepth := 9) [zi_get_ne, zi_nl_i, zi_nl_r, zi_get_set_eq, nl, g0]
    · rintro L _ ⟨-, nl, g0, g1, rfl, hq⟩
      have c1 : (3 : Int32) ≤ nI 3 := by decide
      have hq : zv_lsb μ = -1 := hq
      rw [hq]
      refine ⟨_, zm_mk μ, ⟨0, 5, fun F m hF => ?_⟩, rfl, rfl⟩
      simp [zg_0, zg_aload_n, zg_getfield, zg_goto, zg_iaload, zg_iconst, zg_ifCond, zg_if_icmp, zg_iinc, zg_iload_n, zg_ireturn, zg_istore_n, zf_X6_screenAtHand, zi_ld, zi_lda, zi_cmp, zi_retOk, zi_isI, zi_f3, zi_cr, zi_ci, zi_cn, g0, g1, c1]
  have key : ∃ r h', ze_G D 2 (some .int) zc_X6_screenAtHand 2 [(1, .int (nI 0)), (0, .ref 232)] [] (zm_mk μ) r h' ∧ (r = some (.int (zv_sah μ l)) ∧ zm_mk μ = h') := by
    refine ze_loop (Q := fun i L hp => i ≤ l.length ∧ zi_nl L = true ∧ zi_get L 0 = some (.ref 232) ∧ zi_get L 1 = some (.int (nI i)) ∧ zm_mk μ = hp ∧ (zv_sah μ l = zv_sah μ (l.drop i))) (R := fun r h' => r = some (.int (zv_sah μ l)) ∧ zm_mk μ = h') l.length ?_ ?_ l.length 0 _ _ (by omega) ⟨by omega, rfl, rfl, rfl, rfl, rfl⟩
    · rintro i L _ hi ⟨-, nl, g0, g1, rfl, hq⟩
      have c1 : ¬ nI l.length ≤ nI i := nI_ge hi (by omega)
      have ik : zi_in (nI i) 10 = true := zm_in (by omega) (by decide)
      have ck : (nI i).toNatClampNeg = i := nI_clamp (by omega)
      have e1 := l3 i hi
      have hx := hb _ (zl_mem hi)
      rw [zl_drop hi] at hq
      generalize l.getD i 0 = x at e1 hx hq
      have jk : zi_in (nI x) 10 = true := zm_in (by omega) (by decide)
      have cj : (nI x).toNatClampNeg = x := nI_clamp (by omega)
      have hq : zv_sah μ l = if μ 234 x = 4 then zv_sah μ (l.drop (i + 1)) else μ 238 x := hq
      by_cases c2 : μ 234 x = 4
      · rw [if_pos c2] at hq
        left
        refine ⟨zi_set L 1 (.int (nI (i + 1))), zm_mk μ, ⟨0, 15, fun F m hF => ?_⟩, by omega, ?_, ?_, zi_get_set_eq, rfl, hq⟩
        · simp (maxDischargeDepth := 9) [zg_0, zg_aload_n, zg_getfield, zg_goto, zg_iaload, zg_iconst, zg_ifCond, zg_if_icmp, zg_iinc, zg_iload_n, zg_ireturn, zg_istore_n, zf_X6_screenAtHand, zi_ld, zi_lda, zi_cmp, zi_retOk, zi_isI, zi_f3, zi_cr, zi_ci, zi_cn, zi_get_ne, zi_nl_i, zi_nl_r, zi_get_set_eq, nl, g0, g1, c1, zM_g, l2, zm_iald (k := 0) zM_A242 ik, ck, e1, zm_iald (k := 0) zM_A234 jk, cj, c2, nI_1]
        · simp (maxDischargeDepth := 9) [zi_get_ne, zi_nl_i, zi_nl_r, zi_get_set_eq, nl]
        · simp (maxDischargeDepth := 9) [zi_get_ne, zi_nl_i, zi_nl_r, zi_get_set_eq, nl, g0]
      · rw [if_neg c2] at hq
        right
        refine ⟨some (.int (μ 238 x)), zm_mk μ, ⟨0, 21, fun F m hF => ?_⟩, by rw [hq], rfl⟩
        simp (maxDischargeDepth := 9) [zg_0, zg_aload_n, zg_getfield, zg_goto, zg_iaload, zg_iconst, zg_ifCond, zg_if_icmp, zg_iinc, zg_iload_n, zg_ireturn, zg_istore_n, zf_X6_screenAtHand, zi_ld, zi_lda, zi_cmp, zi_retOk, zi_isI, zi_f3, zi_cr, zi_ci, zi_cn, zi_get_ne, zi_nl_i, zi_nl_r, zi_get_set_eq, nl, g0, g1, c1, zM_g, l2, zm_iald (k := 0) zM_A242 ik, ck, e1, zm_iald (k := 0) zM_A234 jk, cj, c2, zm_iald (k := 0) zM_A238 jk, nI_1]
    · rintro L _ ⟨-, nl, g0, g1, rfl, hq⟩
      have c1 : nI l.length ≤ nI l.length := Int32.le_refl _
      rw [List.drop_length] at hq
      have hq : zv_sah μ l = zv_lsb μ := hq
      have b0 : zi_nl (zi_set L 1 (.int (nI 0))) = true := by simp (maxDischargeDepth := 9) [zi_get_ne, zi_nl_i, zi_nl_r, zi_get_set_eq, nl]
      have b1 : zi_get (zi_set L 1 (.int (nI 0))) 0 = some (.ref 232) := by simp (maxDischargeDepth := 9) [zi_get_ne, zi_nl_i, zi_nl_r, zi_get_set_eq, nl, g0]
      obtain ⟨r, h', G, hr, hh⟩ := key2 _ b0 b1 zi_get_set_eq
      refine ⟨r, h', ze_S.end ⟨0, 6, fun F m hF => ?_⟩ G, by rw [hr, hq], hh⟩
      simp (maxDischargeDepth := 9) [zg_0, zg_aload_n, zg_getfield, zg_goto, zg_iaload, zg_iconst, zg_ifCond, zg_if_icmp, zg_iinc, zg_iload_n, zg_ireturn, zg_istore_n, zf_X6_screenAtHand, zi_ld, zi_lda, zi_cmp, zi_retOk, zi_isI, zi_f3, zi_cr, zi_ci, zi_cn, zi_get_ne, zi_nl_i, zi_nl_r, zi_get_set_eq, nl, g0, g1, zM_g, l2, c1, nI_0]
  obtain ⟨r, h', G, rfl, rfl⟩ := key
  refine ze_in [(0, .ref 232)] zq_Mod_screenAtHand (Nat.le_of_ble_eq_true rfl) rfl (ze_S.end ⟨0, 2, fun F m hF => ?_⟩ G)
  simp [zg_0, zg_aload_n, zg_getfield, zg_goto, zg_iaload, zg_iconst, zg_ifCond, zg_if_icmp, zg_iinc, zg_iload_n, zg_ireturn, zg_istore_n, zf_X6_screenAtHand, zi_ld, zi_lda, zi_cmp, zi_retOk, zi_isI, zi_f3, zi_cr, zi_ci, zi_cn, zi_get, zi_set, nI_0]
end ZVC
