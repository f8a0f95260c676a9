/-! the reference: raise -/
def zi_n3 (L : zi_Lc) : Bool := L.all (fun q => q.2.category == 1 || q.1 == 3)
theorem zi_n3_i {L : zi_Lc} {k : Nat} {x : Int32} (h : zi_n3 L = true) : zi_n3 (zi_set L k (.int x)) = true := by
  unfold zi_n3 at *
  unfold zi_set
  rw [List.all_eq_true] at *
  intro q hq
  rcases List.mem_cons.mp hq with rfl | hq
  · rfl
  · exact h q (List.mem_filter.mp hq).1
theorem zi_n3_2 {L : zi_Lc} {x : Int64} (h : zi_n3 L = true) : zi_n3 (zi_set2 L 3 (.long x)) = true := by
  unfold zi_n3 at *
  unfold zi_set2
  rw [List.all_eq_true] at *
  intro q hq
  rcases List.mem_cons.mp hq with rfl | hq
  · rfl
  · exact h q (List.mem_filter.mp hq).1
theorem zi_find_filter {L : zi_Lc} {j : Nat} {p : Nat × Value → Bool} (h : ∀ q ∈ L, q.1 = j → p q = true) : (L.filter p).find? (fun q => q.1 == j) = L.find? (fun q => q.1 == j) := by
  induction L with
  | nil => rfl
  | cons a L ih =>
    have ih := ih (fun q hq => h q (List.mem_cons_of_mem _ hq))
    by_cases e : a.1 = j
    · have e' : (a.1 == j) = true := by simp [e]
      rw [List.filter_cons_of_pos (h a List.mem_cons_self e), List.find?_cons, List.find?_cons, e']
    · have e' : (a.1 == j) = false := by simp [e]
      rw [List.find?_cons (a := a), e']
      by_cases g : p a = true
      · rw [List.filter_cons_of_pos g, List.find?_cons, e']
        exact ih
      · rw [List.filter_cons_of_neg g]
        exact ih
theorem zi_g3_ne {L : zi_Lc} {j k : Nat} {v : Value} (h : zi_n3 L = true) (hj : j ≠ k) (hk : k ≠ 4) : zi_get (zi_set L k v) j = zi_get L j := by
  have h0 : (k == j) = false := by simpa using Ne.symm hj
  unfold zi_get zi_set
  rw [List.find?_cons, h0]
  dsimp only
  rw [zi_find_filter]
  intro q hq e
  have h1 := List.all_eq_true.mp h q hq
  have e1 : (q.1 == k) = false := by simp [e, hj]
  rw [e1]
  rcases Bool.or_eq_true_iff.mp h1 with h2 | h2
  · have : (q.2.category == 2) = false := by
      have h3 : q.2.category = 1 := by simpa using h2
      rw [h3]; rfl
    rw [this, Bool.and_false]
    rfl
  · have h3 : q.1 = 3 := by simpa using h2
    have : (q.1 + 1 == k) = false := by
      rw [h3]
      simpa using Ne.symm hk
    rw [this]
    rfl
theorem zi_g3_2ne {L : zi_Lc} {j : Nat} {v : Value} (h : zi_n3 L = true) (hj : j ≠ 3) (hj4 : j ≠ 4) : zi_get (zi_set2 L 3 v) j = zi_get L j := by
  have h0 : (3 == j) = false := by simpa using Ne.symm hj
  unfold zi_get zi_set2
  rw [List.find?_cons, h0]
  dsimp only
  rw [zi_find_filter]
  intro q hq e
  have h1 := List.all_eq_true.mp h q hq
  have e1 : (q.1 == 3) = false := by simp [e, hj]
  have e2 : (q.1 == 3 + 1) = false := by simp [e, hj4]
  rw [e1, e2]
  rcases Bool.or_eq_true_iff.mp h1 with h2 | h2
  · have : (q.2.category == 2) = false := by
      have h3 : q.2.category = 1 := by simpa using h2
      rw [h3]; rfl
    rw [this, Bool.and_false]
    rfl
  · rw [e1] at h2
    cases h2
theorem zi_g3_2eq {L : zi_Lc} {k : Nat} {v : Value} : zi_get (zi_set2 L k v) k = some v := by
  simp [zi_get, zi_set2]
theorem zl_take_p {l : List Nat} {i : Nat} {p : Nat → Bool} (hi : i < l.length) : (l.take (i + 1)).filter p = (l.take i).filter p ++ if p (l.getD i 0) = true then [l.getD i 0] else [] := by
  rw [List.take_add_one, List.getElem?_eq_getElem hi, Option.toList_some, List.filter_append]
  have e : l.getD i 0 = l[i] := by rw [List.getD_eq_getElem?_getD, List.getElem?_eq_getElem hi]; rfl
  rw [e]
  congr 1
  by_cases c : p l[i] = true
  · rw [if_pos c, List.filter_cons_of_pos c]
    rfl
  · rw [if_neg c, List.filter_cons_of_neg c]
    rfl
theorem zv_nodup10 {l : List Nat} (hd : l.Nodup) (hb : ∀ x ∈ l, x < 10) : l.length ≤ 10 := zy_nodup_le 10 l hd hb
section ZVD
variable {μ : zm_M}
/-- the first step of raise: the window on top -/
theorem zv_raise0 (D : Nat) {k : Nat} (hk : k < 10) {l : List Nat} (hL : zv_L μ 241 10 l) (hd : l.Nodup) (hb : ∀ x ∈ l, x < 10) : ∃ ν l', ze_S (D + 1) 6 none zc_X6_raise 0 [(0, .ref 232), (1, .int (nI k))] [] (zm_mk μ) 33 [(0, .ref 232), (1, .int (nI k))] [] (zm_mk ν) ∧ zv_L ν 241 10 l' ∧ l'.Nodup ∧ (∀ x, x ∈ l' ↔ x ∈ l ∨ (x = k ∧ 2 ≤ μ 234 k)) ∧ ∀ c d, c ≠ 241 → ¬ (c = 231 ∧ d = 10) → ν c d = μ c d := by
  obtain ⟨lc, cM⟩ := zM_c (μ := μ)
  obtain ⟨N1, E1⟩ := ze_MisFloating (μ := μ) D hk
  by_cases c : 2 ≤ μ 234 k
  · rw [if_pos c] at E1
    obtain ⟨ν, ⟨N2, E2⟩, ⟨b1, b2, b3⟩, b4⟩ := ze_Munstack (μ := μ) D hk hL hb
    have hd' : (l.filter (fun x => decide (x ≠ k)) ++ [k]).Nodup := by
      refine List.nodup_append.mpr ⟨hd.filter _, by simp, fun a ha b hb2 => ?_⟩
      rw [List.mem_singleton.mp hb2]
      exact of_decide_eq_true (List.mem_filter.mp ha).2
    have hb' : ∀ x ∈ l.filter (fun x => decide (x ≠ k)) ++ [k], x < 10 := fun x hx => by
      rcases List.mem_append.mp hx with h | h
      · exact hb x (List.mem_filter.mp h).1
      · rw [List.mem_singleton.mp h]; exact hk
    have hlen := zv_nodup10 hd' hb'
    have hmem : ∀ x, x ∈ l.filter (fun x => decide (x ≠ k)) ++ [k] ↔ x ∈ l ∨ (x = k ∧ 2 ≤ μ 234 k) := fun x => by
      rw [List.mem_append, List.mem_singleton, List.mem_filter]
      constructor
      · rintro (h | h)
        · exact Or.inl h.1
        · exact Or.inr ⟨h, c⟩
      · rintro (h | h)
        · by_cases e : x = k
          · exact Or.inr e
          · exact Or.inl ⟨h, decide_eq_true e⟩
        · exact Or.inr h.1
    generalize l.filter (fun x => decide (x ≠ k)) = f at *
    rw [List.length_append] at hlen
    have hlen : f.length + 1 ≤ 10 := hlen
    have ik : zi_in (nI f.length) 10 = true := zm_in (by omega) (by decide)
    have ck : (nI f.length).toNatClampNeg = f.length := nI_clamp (by omega)
    have e10 : zm_up ν 241 f.length (nI k) 231 10 = nI f.length := (zm_up_ne (by omega)).trans b2
    refine ⟨zm_up (zm_up ν 241 f.length (nI k)) 231 10 (nI (f.length + 1)), f ++ [k], ⟨N1 + N2, 19, fun F m hF => ?_⟩, ⟨by rw [List.length_append]; exact hlen, by rw [zm_up_eq, List.length_append]; rfl, fun j hj => ?_⟩, hd', hmem, fun c d h1 h2 => ?_⟩
    · simp [zg_0, zg_aload_n, zg_dup, zg_getfield, zg_goto, zg_i2l, zg_iadd, zg_iaload, zg_iastore, zg_iconst, zg_ifCond, zg_if_icmp, zg_iinc, zg_iload, zg_iload_n, zg_imul, zg_invokevirtual, zg_istore, zg_istore_n, zg_l2i, zg_land, zg_lconst, zg_ldc2_w, zg_lload_n, zg_lor, zg_lshl, zg_lshr, zg_lstore_n, zg_putfield, zg_return, zf_X6_raise, zi_ld, zi_lda, zi_cmp, zi_retOk, zi_isI, zi_f3, zi_cr, zi_ci, zi_cn, zi_get, zi_set, zM_g, cM, zq_Mod_isFloating, zq_Mod_unstack, E1 F (by omega), E2 F (by omega), b2, zm_iast zM_A241 ik, ck, e10, nI_add, nI_1, zM_p10]
    · rw [List.length_append] at hj
      have hj : j < f.length + 1 := hj
      rw [zm_up_ne (by omega), zm_up_pt]
      by_cases e : j = f.length
      · rw [if_pos e, e, zl_getD_r (Nat.le_refl _), Nat.sub_self]
        rfl
      · rw [if_neg e, zl_getD_l (by omega)]
        exact b3 j (by omega)
    · rw [zm_up_ne h2, zm_up_ne (by omega)]
      exact b4 c d h1 h2
  · rw [if_neg c] at E1
    refine ⟨μ, l, ⟨N1, 4, fun F m hF => ?_⟩, hL, hd, fun x => ⟨Or.inl, fun h => h.elim id (fun h => absurd h.2 c)⟩, fun _ _ _ _ => rfl⟩
    simp [zg_0, zg_aload_n, zg_dup, zg_getfield, zg_goto, zg_i2l, zg_iadd, zg_iaload, zg_iastore, zg_iconst, zg_ifCond, zg_if_icmp, zg_iinc, zg_iload, zg_iload_n, zg_imul, zg_invokevirtual, zg_istore, zg_istore_n, zg_l2i, zg_land, zg_lconst, zg_ldc2_w, zg_lload_n, zg_lor, zg_lshl, zg_lshr, zg_lstore_n, zg_putfield, zg_return, zf_X6_raise, zi_ld, zi_lda, zi_cmp, zi_retOk, zi_isI, zi_f3, zi_cr, zi_ci, zi_cn, zi_get, zi_set, zM_g, cM, zq_Mod_isFloating, E1 F (by omega)]
set_option maxRecDepth 100000 in
/-- its dialogs are gathered -/
theorem zv_raise1 (D : Nat) {k : Nat} (hk : k < 10) {l : List Nat} (hL : zv_L μ 241 10 l) (hb : ∀ x ∈ l, x < 10) (ho : ∀ x ∈ l, μ 234 x = 3 → ∃ o, o < 10 ∧ μ 237 x = nI o) :
    ∃ L' h', ze_S D 6 none zc_X6_raise 33 [(0, .ref 232), (1, .int (nI k))] [] (zm_mk μ) 108 L' [] h' ∧ (zm_mk μ = h' ∧ zi_n3 L' = true ∧ zi_get L' 0 = some (.ref 232) ∧ zi_get L' 1 = some (.int (nI k)) ∧ zi_get L' 5 = some (.int (nI 0)) ∧ zi_get L' 2 = some (.int (nI (l.filter (fun x => decide (μ 234 x = 3 ∧ μ 237 x = nI k))).length)) ∧ ∃ W : Int64, zi_get L' 3 = some (.long W) ∧ W.toBitVec.toNat = zv_pn (l.filter (fun x => decide (μ 234 x = 3 ∧ μ 237 x = nI k)))) := by
  obtain ⟨l1, l2, l3⟩ := hL
  have s0 : ze_S D 6 none zc_X6_raise 33 [(0, .ref 232), (1, .int (nI k))] [] (zm_mk μ) 40 [(5, .int (nI 0)), (3, .long 0), (2, .int (nI 0)), (0, .ref 232), (1, .int (nI k))] [] (zm_mk μ) := by
    refine ⟨0, 6, fun F m hF => ?_⟩
    simp [zg_0, zg_aload_n, zg_dup, zg_getfield, zg_goto, zg_i2l, zg_iadd, zg_iaload, zg_iastore, zg_iconst, zg_ifCond, zg_if_icmp, zg_iinc, zg_iload, zg_iload_n, zg_imul, zg_invokevirtual, zg_istore, zg_istore_n, zg_l2i, zg_land, zg_lconst, zg_ldc2_w, zg_lload_n, zg_lor, zg_lshl, zg_lshr, zg_lstore_n, zg_putfield, zg_return, zf_X6_raise, zi_ld, zi_lda, zi_cmp, zi_retOk, zi_isI, zi_f3, zi_cr, zi_ci, zi_cn, zi_get, zi_set, zi_set2, nI_0]
  have key := ze_loopS (D := D) (nL := 6) (ret := none) (code0 := zc_X6_raise) (pc := 40) (pc2 := 108) (Q := fun i L hp => zm_mk μ = hp ∧ zi_n3 L = true ∧ zi_get L 0 = some (.ref 232) ∧ zi_get L 1 = some (.int (nI k)) ∧ zi_get L 5 = some (.int (nI i)) ∧ zi_get L 2 = some (.int (nI ((l.take i).filter (fun x => decide (μ 234 x = 3 ∧ μ 237 x = nI k))).length)) ∧ ∃ W : Int64, zi_get L 3 = some (.long W) ∧ W.toBitVec.toNat = zv_pn ((l.take i).filter (fun x => decide (μ 234 x = 3 ∧ μ 237 x = nI k))))
    (R := fun L' h' => zm_mk μ = h' ∧ zi_n3 L' = true ∧ zi_get L' 0 = some (.ref 232) ∧ zi_get L' 1 = some (.int (nI k)) ∧ zi_get L' 5 = some (.int (nI 0)) ∧ zi_get L' 2 = some (.int (nI (l.filter (fun x => decide (μ 234 x = 3 ∧ μ 237 x = nI k))).length)) ∧ ∃ W : Int64, zi_get L' 3 = some (.long W) ∧ W.toBitVec.toNat = zv_pn (l.filter (fun x => decide (μ 234 x = 3 ∧ μ 237 x = nI k)))) l.length ?_ ?_ l.length 0 [(5, .int (nI 0)), (3, .long 0), (2, .int (nI 0)), (0, .ref 232), (1, .int (nI k))] (zm_mk μ) (by omega) ⟨rfl, rfl, rfl, rfl, rfl, rfl, 0, rfl, rfl⟩
  · obtain ⟨L', h', s, r⟩ := key
    exact ⟨L', h', s0.trans s, r⟩
  · rintro i L _ hi ⟨rfl, nl, g0, g1, g5, g2, W, g3, hW⟩
    have c1 : ¬ nI l.length ≤ nI i := nI_ge hi (by omega)
    have ik : zi_in (nI i) 10 = true := zm_in (by omega) (by decide)
    have ck : (nI i).toNatClampNeg = i := nI_clamp (by omega)
    have e1 := l3 i hi
    have hxm := zl_mem hi
    have hx := hb _ hxm
    have ef := zl_take_p (p := fun x => decide (μ 234 x = 3 ∧ μ 237 x = nI k)) hi
    have hfb : ∀ y ∈ (l.take i).filter (fun x => decide (μ 234 x = 3 ∧ μ 237 x = nI k)), y < 10 := fun y hy => hb y (List.mem_of_mem_take (List.mem_filter.mp hy).1)
    have hfl : ((l.take i).filter (fun x => decide (μ 234 x = 3 ∧ μ 237 x = nI k))).length ≤ i := zl_fl_le
    generalize (l.take i).filter (fun x => decide (μ 234 x = 3 ∧ μ 237 x = nI k)) = f at *
    generalize (l.take (i + 1)).filter (fun x => decide (μ 234 x = 3 ∧ μ 237 x = nI k)) = f' at *
    generalize l.getD i 0 = x at *
    have jk : zi_in (nI x) 10 = true := zm_in (by omega) (by decide)
    have cj : (nI x).toNatClampNeg = x := nI_clamp (by omega)
    by_cases c2 : μ 234 x = 3
    · by_cases c3 : μ 237 x = nI k
      · rw [if_pos (decide_eq_true ⟨c2, c3⟩)] at ef
        subst ef
        have m4 : (4 : Int32) * nI f.length = nI (4 * f.length) := by
          have : ∀ n, n < 10 → (4 : Int32) * nI n = nI (4 * n) := by decide
          exact this _ (by omega)
        have hW' := zv_enc (x := x) hW hfb hx (by omega)
        generalize hV : (W ||| ((nI x).toInt64 <<< ((nI (4 * f.length)).toInt64 &&& 63))) = V at hW'
        refine ⟨zi_set (zi_set (zi_set2 L 3 (.long V)) 2 (.int (nI (f.length + 1)))) 5 (.int (nI (i + 1))), zm_mk μ, ⟨0, 37, fun F m hF => ?_⟩, rfl, ?_, ?_, ?_, zi_get_set_eq, ?_, V, ?_, hW'⟩
        · simp (maxDischargeDepth := 9) [zg_0, zg_aload_n, zg_dup, zg_getfield, zg_goto, zg_i2l, zg_iadd, zg_iaload, zg_iastore, zg_iconst, zg_ifCond, zg_if_icmp, zg_iinc, zg_iload, zg_iload_n, zg_imul, zg_invokevirtual, zg_istore, zg_istore_n, zg_l2i, zg_land, zg_lconst, zg_ldc2_w, zg_lload_n, zg_lor, zg_lshl, zg_lshr, zg_lstore_n, zg_putfield, zg_return, zf_X6_raise, zi_ld, zi_lda, zi_cmp, zi_retOk, zi_isI, zi_f3, zi_cr, zi_ci, zi_cn, zi_g3_ne, zi_n3_i, zi_n3_2, zi_g3_2ne, zi_g3_2eq, zi_get_set_eq, nl, g0, g1, g5, g2, g3, c1, zM_g, l2, zm_iald (k := 0) zM_A241 ik, ck, e1, zm_iald (k := 0) zM_A234 jk, zm_iald (k := 0) zM_A237 jk, cj, c2, c3, m4, hV, nI_add, nI_1]
        · simp (maxDischargeDepth := 9) [zi_g3_ne, zi_n3_i, zi_n3_2, zi_g3_2ne, zi_g3_2eq, zi_get_set_eq, nl]
        · simp (maxDischargeDepth := 9) [zi_g3_ne, zi_n3_i, zi_n3_2, zi_g3_2ne, zi_g3_2eq, zi_get_set_eq, nl, g0]
        · simp (maxDischargeDepth := 9) [zi_g3_ne, zi_n3_i, zi_n3_2, zi_g3_2ne, zi_g3_2eq, zi_get_set_eq, nl, g1]
        · rw [List.length_append]
          simp (maxDischargeDepth := 9) [zi_g3_ne, zi_n3_i, zi_n3_2, zi_g3_2ne, zi_g3_2eq, zi_get_set_eq, nl]
        · simp (maxDischargeDepth := 9) [zi_g3_ne, zi_n3_i, zi_n3_2, zi_g3_2ne, zi_g3_2eq, zi_get_set_eq, nl]
      · rw [if_neg (fun e => c3 (of_decide_eq_true e).2), List.append_nil] at ef
        subst ef
        obtain ⟨o, ho1, ho2⟩ := ho x hxm c2
        have c3' : ¬ nI o = nI k := fun e => c3 (ho2.trans e)
        refine ⟨zi_set L 5 (.int (nI (i + 1))), zm_mk μ, ⟨0, 24, fun F m hF => ?_⟩, rfl, ?_, ?_, ?_, zi_get_set_eq, ?_, W, ?_, hW⟩
        · simp (maxDischargeDepth := 9) [zg_0, zg_aload_n, zg_dup, zg_getfield, zg_goto, zg_i2l, zg_iadd, zg_iaload, zg_iastore, zg_iconst, zg_ifCond, zg_if_icmp, zg_iinc, zg_iload, zg_iload_n, zg_imul, zg_invokevirtual, zg_istore, zg_istore_n, zg_l2i, zg_land, zg_lconst, zg_ldc2_w, zg_lload_n, zg_lor, zg_lshl, zg_lshr, zg_lstore_n, zg_putfield, zg_return, zf_X6_raise, zi_ld, zi_lda, zi_cmp, zi_retOk, zi_isI, zi_f3, zi_cr, zi_ci, zi_cn, zi_g3_ne, zi_n3_i, zi_get_set_eq, nl, g0, g1, g5, g2, g3, c1, zM_g, l2, zm_iald (k := 0) zM_A241 ik, ck, e1, zm_iald (k := 0) zM_A234 jk, zm_iald (k := 0) zM_A237 jk, cj, c2, ho2, c3', nI_add, nI_1]
        · simp (maxDischargeDepth := 9) [zi_g3_ne, zi_n3_i, zi_get_set_eq, nl]
        · simp (maxDischargeDepth := 9) [zi_g3_ne, zi_n3_i, zi_get_set_eq, nl, g0]
        · simp (maxDischargeDepth := 9) [zi_g3_ne, zi_n3_i, zi_get_set_eq, nl, g1]
        · simp (maxDischargeDepth := 9) [zi_g3_ne, zi_n3_i, zi_get_set_eq, nl, g2]
        · simp (maxDischargeDepth := 9) [zi_g3_ne, zi_n3_i, zi_get_set_eq, nl, g3]
    · rw [if_neg (fun e => c2 (of_decide_eq_true e).1), List.append_nil] at ef
      subst ef
      refine ⟨zi_set L 5 (.int (nI (i + 1))), zm_mk μ, ⟨0, 15, fun F m hF => ?_⟩, rfl, ?_, ?_, ?_, zi_get_set_eq, ?_, W, ?_, hW⟩
      · simp (maxDischargeDepth := 9) [zg_0, zg_aload_n, zg_dup, zg_getfield, zg_goto, zg_i2l, zg_iadd, zg_iaload, zg_iastore, zg_iconst, zg_ifCond, zg_if_icmp, zg_iinc, zg_iload, zg_iload_n, zg_imul, zg_invokevirtual, zg_istore, zg_istore_n, zg_l2i, zg_land, zg_lconst, zg_ldc2_w, zg_lload_n, zg_lor, zg_lshl, zg_lshr, zg_lstore_n, zg_putfield, zg_return, zf_X6_raise, zi_ld, zi_lda, zi_cmp, zi_retOk, zi_isI, zi_f3, zi_cr, zi_ci, zi_cn, zi_g3_ne, zi_n3_i, zi_get_set_eq, nl, g0, g1, g5, g2, g3, c1, zM_g, l2, zm_iald (k := 0) zM_A241 ik, ck, e1, zm_iald (k := 0) zM_A234 jk, cj, c2, nI_add, nI_1]
      · simp (maxDischargeDepth := 9) [zi_g3_ne, zi_n3_i, zi_get_set_eq, nl]
      · simp (maxDischargeDepth := 9) [zi_g3_ne, zi_n3_i, zi_get_set_eq, nl, g0]
      · simp (maxDischargeDepth := 9) [zi_g3_ne, zi_n3_i, zi_get_set_eq, nl, g1]
      · simp (maxDischargeDepth := 9) [zi_g3_ne, zi_n3_i, zi_get_set_eq, nl, g2]
      · simp (maxDischargeDepth := 9) [zi_g3_ne, zi_n3_i, zi_get_set_eq, nl, g3]
  · rintro L _ ⟨rfl, nl, g0, g1, g5, g2, W, g3, hW⟩
    rw [List.take_length] at g2 hW
    have c1 : nI l.length ≤ nI l.length := Int32.le_refl _
    refine ⟨zi_set L 5 (.int (nI 0)), zm_mk μ, ⟨0, 6, fun F m hF => ?_⟩, rfl, ?_, ?_, ?_, zi_get_set_eq, ?_, W, ?_, hW⟩
    · simp (maxDischargeDepth := 9) [zg_0, zg_aload_n, zg_dup, zg_getfield, zg_goto, zg_i2l, zg_iadd, zg_iaload, zg_iastore, zg_iconst, zg_ifCond, zg_if_icmp, zg_iinc, zg_iload, zg_iload_n, zg_imul, zg_invokevirtual, zg_istore, zg_istore_n, zg_l2i, zg_land, zg_lconst, zg_ldc2_w, zg_lload_n, zg_lor, zg_lshl, zg_lshr, zg_lstore_n, zg_putfield, zg_return, zf_X6_raise, zi_ld, zi_lda, zi_cmp, zi_retOk, zi_isI, zi_f3, zi_cr, zi_ci, zi_cn, zi_g3_ne, zi_n3_i, zi_get_set_eq, nl, g0, g1, g5, g2, g3, c1, zM_g, l2, nI_0]
    · simp (maxDischargeDepth := 9) [zi_g3_ne, zi_n3_i, zi_get_set_eq, nl]
    · simp (maxDischargeDepth := 9) [zi_g3_ne, zi_n3_i, zi_get_set_eq, nl, g0]
    · simp (maxDischargeDepth := 9) [zi_g3_ne, zi_n3_i, zi_get_set_eq, nl, g1]
    · simp (maxDischargeDepth := 9) [zi_g3_ne, zi_n3_i, zi_get_set_eq, nl, g2]
    · simp (maxDischargeDepth := 9) [zi_g3_ne, zi_n3_i, zi_get_set_eq, nl, g3]
end ZVD
