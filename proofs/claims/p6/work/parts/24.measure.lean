/-! locals without longs; rows of an axis; Tree.listNodes whole, measureLeaves -/
def zi_nl (L : zi_Lc) : Bool := L.all (fun q => q.2.category == 1)
theorem zi_nl_set {L : zi_Lc} {k : Nat} {v : Value} (hv : v.category = 1) (h : zi_nl L = true) : zi_nl (zi_set L k v) = true := by
  unfold zi_nl at *
  unfold zi_set
  rw [List.all_eq_true] at *
  intro q hq
  rcases List.mem_cons.mp hq with rfl | hq
  · simpa using hv
  · exact h q (List.mem_filter.mp hq).1
theorem zi_nl_i {L : zi_Lc} {k : Nat} {x : Int32} (h : zi_nl L = true) : zi_nl (zi_set L k (.int x)) = true := zi_nl_set rfl h
theorem zi_nl_r {L : zi_Lc} {k x : Nat} (h : zi_nl L = true) : zi_nl (zi_set L k (.ref x)) = true := zi_nl_set rfl h
theorem zi_get_ne {L : zi_Lc} {j k : Nat} {v : Value} (h : zi_nl L = true) (hj : j ≠ k) : zi_get (zi_set L k v) j = zi_get L j := by
  have h0 : (k == j) = false := by simpa using Ne.symm hj
  unfold zi_get zi_set
  rw [List.find?_cons, h0]
  dsimp only
  congr 1
  induction L with
  | nil => rfl
  | cons a L ih =>
    have h2 : a.2.category = 1 ∧ zi_nl L = true := by simpa [zi_nl] using h
    have hL := h2.2
    have ha := h2.1
    have e2 : (a.2.category == 2) = false := by rw [ha]; rfl
    rw [List.filter_cons, e2, Bool.and_false, Bool.not_false, Bool.and_true]
    by_cases e : (a.1 == k) = true
    · rw [e]
      have e3 : (a.1 == j) = false := by
        have : a.1 = k := by simpa using e
        rw [this]; exact h0
      simp only [Bool.not_true, Bool.false_eq_true, if_false]
      rw [List.find?_cons, e3]
      exact ih hL
    · have e : (a.1 == k) = false := by simpa using e
      rw [e]
      simp only [Bool.not_false, if_true]
      rw [List.find?_cons, List.find?_cons, ih hL]
section ZAX
variable {μ : zm_M}
theorem zm_ax {o a : Nat} (h : zh_2[o]? = some (11, [.ref (o + 2), .ref (o + 3)])) (ha : a < 2) : zi_aald (zm_mk μ) (nI a) o = some (.ref (o + 1 + a + 1)) := by
  match a, ha with
  | 0, _ => exact zm_ax0 h
  | 1, _ => exact zm_ax1 h
theorem zt_axT {T a : Nat} (h : zt_at T) (ha : a < 2) : (zi_aald (zm_mk μ) (nI a) (T + 4) = some (.ref (T + 5 + a + 1)) ∧ zi_aald (zm_mk μ) (nI a) (T + 15) = some (.ref (T + 16 + a + 1)) ∧ zi_aald (zm_mk μ) (nI a) (T + 18) = some (.ref (T + 19 + a + 1)) ∧ zi_aald (zm_mk μ) (nI a) (T + 21) = some (.ref (T + 22 + a + 1))) ∧ zm_isA 7 (T + 5 + a) 10 ∧ zm_isA 7 (T + 16 + a) 19 ∧ zm_isA 7 (T + 19 + a) 19 ∧ zm_isA 7 (T + 22 + a) 19 := by
  refine ⟨⟨zm_ax h.2.2.2.1.1 ha, zm_ax h.2.2.2.2.2.1.1 ha, zm_ax h.2.2.2.2.2.2.1.1 ha, zm_ax h.2.2.2.2.2.2.2.1 ha⟩, ?_⟩
  match a, ha with
  | 0, _ => exact ⟨h.2.2.2.1.2.1, h.2.2.2.2.2.1.2.1, h.2.2.2.2.2.2.1.2.1, h.2.2.2.2.2.2.2.2.1⟩
  | 1, _ => exact ⟨h.2.2.2.1.2.2, h.2.2.2.2.2.1.2.2, h.2.2.2.2.2.2.1.2.2, h.2.2.2.2.2.2.2.2.2⟩
theorem ze_Row_sizeL {r : Nat} {l : List Nat} (D : Nat) (h : zr_at r) (hl : zr_L μ r l) : ze_E (D + 1) A_Row_size [.ref (r + 1)] (zm_mk μ) (some (.int (nI l.length))) (zm_mk μ) := by
  have := ze_Row_size (μ := μ) D h
  rw [hl.2.1] at this
  exact this
theorem ze_Row_getL {r i : Nat} {l : List Nat} (D : Nat) (h : zr_at r) (hl : zr_L μ r l) (hi : i < l.length) : ze_E (D + 1) A_Row_get [.ref (r + 1), .int (nI i)] (zm_mk μ) (some (.int (nI (l.getD i 0)))) (zm_mk μ) := by
  have h10 := hl.1
  have := ze_Row_get (μ := μ) D (nI i) h (by rw [hl.2.1]; exact nI_le (b := 10) hl.1 (by decide))
  rw [if_pos ⟨nI_pos' (by omega), by rw [hl.2.1]; exact nI_lt hi (by omega)⟩, nI_clamp (by omega), hl.2.2 i hi] at this
  exact this
end ZAX
section ZT5
variable {μ : zm_M} {T : Nat} {t : zy_F}
/-- no tree, or one; its root -/
def zt_root (μ : zm_M) (T : Nat) (t : zy_F) : Prop := (t = .nil ∧ μ T 9 = -1) ∨ (zy_wf t ∧ zy_okM μ T t ∧ μ T 9 = nI (zy_id t))
def zt_O (μ : zm_M) (T : Nat) (t : zy_F) : Prop := μ T 12 = nI (zy_ids t).length ∧ ∀ j, j < (zy_ids t).length → μ (T + 13) j = nI ((zy_ids t).getD j 0)
set_option maxRecDepth 100000 in
theorem ze_Tree_listNodes (D : Nat) (h : zt_at T) (hr : zt_root μ T t) (hlt : ∀ n ∈ zy_ids t, n < 19) (hnd : (zy_ids t).Nodup) :
    ∃ μ', ze_E (D + 1) A_Tree_listNodes [.ref (T + 1)] (zm_mk μ) none (zm_mk μ') ∧ zt_frO T μ μ' ∧ zt_O μ' T t := by
  have h19 : (Int8.ofInt 19).toInt32 = (19 : Int32) := by decide
  have n0 : nI 0 = 0 := nI_0
  rcases hr with ⟨rfl, hr⟩ | ⟨hw, hok, hr⟩
  · refine ⟨zm_up μ T 12 0, ze_in [(0, .ref (T + 1))] zq_Tree_listNodes (Nat.le_of_ble_eq_true rfl) rfl ⟨0, 16, fun F n hF => ?_⟩, ⟨fun a h1 _ _ => zm_up_row h1, fun b hb => zm_up_ne (by omega)⟩, ?_, fun j hj => by cases hj⟩
    · have u : zm_up μ T 12 0 T 9 = -1 := by rw [zm_up_ne (by omega)]; exact hr
      have c : (-1 : Int32) < 0 := by decide
      simp [zg_0, zg_aload_n, zg_bipush, zg_dup, zg_getfield, zg_goto, zg_iadd, zg_iaload, zg_iastore, zg_iconst, zg_ifCond, zg_if_icmp, zg_iinc, zg_iload_n, zg_istore_n, zg_putfield, zg_return, zf_X3_listNodes, zi_ld, zi_lda, zi_cmp, zi_retOk, zi_isI, zi_f3, zi_cr, zi_ci, zi_cn, zi_get, zi_set, zt_g h, zt_p12 h, u, c, h19]
    · rw [zm_up_eq]
      exact n0.symm
  · have hl19 := zy_nodup_le 19 (zy_ids t) hnd hlt
    have hpos := zy_len_pos hw
    have hid : zy_id t < 19 := hlt _ (zy_id_mem hw)
    let ν := zm_up (zm_up μ T 12 0) (T + 14) 0 (nI (zy_id t))
    have fν : zt_frO T μ ν := ⟨fun a h1 h2 h3 => by show zm_up _ _ _ _ _ = _; rw [zm_up_row h3, zm_up_row h1], fun b hb => by show zm_up _ _ _ _ _ _ = _; rw [zm_up_ne (by omega), zm_up_ne (by omega)]⟩
    have x12 : ν T 12 = nI 0 := by show zm_up _ _ _ _ _ _ = _; rw [zm_up_ne (by omega), zm_up_eq, n0]
    obtain ⟨μ', L', S, a0, a1, a2, fr, -, -, hn, hp⟩ := zt_list_S D h t hw ν [(2, .int (nI 0)), (1, .int (nI (0 + 1))), (0, .ref (T + 1))] 0 0 0 (fν.ok hok) hlt rfl rfl rfl zm_up_eq x12 (by omega) (by omega) (by omega)
    refine ⟨μ', ze_in [(0, .ref (T + 1))] zq_Tree_listNodes (Nat.le_of_ble_eq_true rfl) rfl ?_, fν.trans fr, ?_, fun j hj => ?_⟩
    · have s0 : ze_S D 4 none zc_X3_listNodes 0 [(0, .ref (T + 1))] [] (zm_mk μ) 29 [(2, .int (nI 0)), (1, .int (nI (0 + 1))), (0, .ref (T + 1))] [] (zm_mk ν) := by
        refine ⟨0, 17, fun F n _ => ?_⟩
        have u : zm_up μ T 12 0 T 9 = nI (zy_id t) := by rw [zm_up_ne (by omega)]; exact hr
        have c : ¬ nI (zy_id t) < 0 := nI_pos (by omega)
        have i1 : zi_in 0 19 = true := by decide
        have n1 : nI 1 = 1 := by decide
        simp [zg_0, zg_aload_n, zg_bipush, zg_dup, zg_getfield, zg_goto, zg_iadd, zg_iaload, zg_iastore, zg_iconst, zg_ifCond, zg_if_icmp, zg_iinc, zg_iload_n, zg_istore_n, zg_putfield, zg_return, zf_X3_listNodes, zi_ld, zi_lda, zi_cmp, zi_retOk, zi_isI, zi_f3, zi_cr, zi_ci, zi_cn, zi_get, zi_set, zt_g h, zt_p12 h, u, c, h19, zm_iast h.2.2.2.2.1.2.2.2.2.2.2.2 i1, zm_cl0, n0, n1]
        rfl
      refine (s0.trans S).end ⟨0, 6, fun F n _ => ?_⟩
      by_cases c : (19 : Int32) ≤ nI (0 + (zy_ids t).length) <;> simp [zg_0, zg_aload_n, zg_bipush, zg_dup, zg_getfield, zg_goto, zg_iadd, zg_iaload, zg_iastore, zg_iconst, zg_ifCond, zg_if_icmp, zg_iinc, zg_iload_n, zg_istore_n, zg_putfield, zg_return, zf_X3_listNodes, zi_ld, zi_lda, zi_cmp, zi_retOk, zi_isI, zi_f3, zi_cr, zi_ci, zi_cn, a0, a1, a2, h19, c, n0]
    · rw [hn, Nat.zero_add]
    · rw [← hp j hj, Nat.zero_add]
/-- the least size of a leaf: the greatest of its tabs' -/
def zt_lf (tl hm : Nat → Int32) (R : List Nat) (n : Nat) : Int32 := R.foldl (fun m w => if hm w = nI n then zi_mx m (tl w) else m) 0
theorem zt_lf_snoc {tl hm : Nat → Int32} {R : List Nat} {w n : Nat} : zt_lf tl hm (R ++ [w]) n = if hm w = nI n then zi_mx (zt_lf tl hm R n) (tl w) else zt_lf tl hm R n := by
  unfold zt_lf
  rw [List.foldl_append]
  rfl
theorem zl_take {l : List Nat} {i : Nat} (h : i < l.length) : l.take (i + 1) = l.take i ++ [l.getD i 0] := by
  rw [List.take_succ, List.getD_eq_getElem?_getD, List.getElem?_eq_getElem h]
  rfl
theorem zl_mem {l : List Nat} {i : Nat} (h : i < l.length) : l.getD i 0 ∈ l := by
  rw [List.getD_eq_getElem?_getD, List.getElem?_eq_getElem h]
  exact List.getElem_mem h
set_option maxRecDepth 100000 in
theorem ze_Tree_measureLeaves (D : Nat) (h : zt_at T) {R : List Nat} (hR : zr_L μ (T + 1) R) (hb : ∀ w ∈ R, w < 10) (hm : ∀ w ∈ R, ∃ n, n < 19 ∧ μ (T + 3) w = nI n) {a : Nat} (ha : a < 2) :
    ∃ μ', ze_E (D + 2) A_Tree_measureLeaves [.ref (T + 1), .int (nI a)] (zm_mk μ) none (zm_mk μ') ∧ (∀ c, c ≠ T + 16 + a → μ' c = μ c) ∧ ∀ n, n < 19 → μ' (T + 16 + a) n = zt_lf (μ (T + 5 + a)) (μ (T + 3)) R n := by
  obtain ⟨⟨x4, x15, -, -⟩, A5, A16, -, -⟩ := zt_axT (μ := μ) h ha
  have hfl : ∀ n, n < 19 → zm_fl μ (T + 16 + a) 0 19 (T + 16 + a) n = 0 := fun n hn => if_pos ⟨rfl, hn⟩
  have hfl2 : ∀ c, c ≠ T + 16 + a → zm_fl μ (T + 16 + a) 0 19 c = μ c := fun c hc => by
    funext b
    exact if_neg (by omega)
  have key : ∃ r h', ze_G (D + 1) 5 none zc_X3_measureLeaves 12 [(2, .int (nI 0)), (0, .ref (T + 1)), (1, .int (nI a))] [] (zm_mk (zm_fl μ (T + 16 + a) 0 19)) r h' ∧ (r = none ∧ ∃ μ', zm_mk μ' = h' ∧ (∀ c, c ≠ T + 16 + a → μ' c = μ c) ∧ ∀ n, n < 19 → μ' (T + 16 + a) n = zt_lf (μ (T + 5 + a)) (μ (T + 3)) R n) := by
    refine ze_loop (Q := fun i L hp => i ≤ R.length ∧ zi_nl L = true ∧ zi_get L 0 = some (.ref (T + 1)) ∧ zi_get L 1 = some (.int (nI a)) ∧ zi_get L 2 = some (.int (nI i)) ∧ ∃ ν, zm_mk ν = hp ∧ (∀ c, c ≠ T + 16 + a → ν c = μ c) ∧ ∀ n, n < 19 → ν (T + 16 + a) n = zt_lf (μ (T + 5 + a)) (μ (T + 3)) (R.take i) n) (R := fun r h' => r = none ∧ ∃ μ', zm_mk μ' = h' ∧ (∀ c, c ≠ T + 16 + a → μ' c = μ c) ∧ ∀ n, n < 19 → μ' (T + 16 + a) n = zt_lf (μ (T + 5 + a)) (μ (T + 3)) R n) R.length ?_ ?_ R.length 0 _ _ (by omega) ⟨by omega, rfl, rfl, rfl, rfl, _, rfl, hfl2, hfl⟩
    · rintro i L _ hi ⟨-, nl, g0, g1, g2, ν, rfl, f1, f2⟩
      left
      have hR' : zr_L ν (T + 1) R := by
        refine ⟨hR.1, ?_, ?_⟩
        · rw [f1 (T + 1) (by omega)]; exact hR.2.1
        · rw [f1 (T + 2) (by omega)]; exact hR.2.2
      have hR10 := hR.1
      have hwm : R.getD i 0 ∈ R := zl_mem hi
      have htk : R.take (i + 1) = R.take i ++ [R.getD i 0] := zl_take hi
      obtain ⟨N1, h1⟩ := ze_Row_sizeL (μ := ν) D h.2.1 hR'
      obtain ⟨N2, h2⟩ := ze_Row_getL (μ := ν) D h.2.1 hR' hi
      generalize R.getD i 0 = w at hwm htk h2
      have hw := hb w hwm
      obtain ⟨l, hl, el⟩ := hm w hwm
      obtain ⟨N3, h3⟩ := ze_max (h := zm_mk ν) D (ν (T + 16 + a) l) (ν (T + 5 + a) w)
      obtain ⟨⟨y4, y15, -, -⟩, -, -, -, -⟩ := zt_axT (μ := ν) h ha
      have c1 : ¬ nI R.length ≤ nI i := nI_ge hi (by omega)
      have i1 : zi_in (nI w) 10 = true := zm_in hw (by decide)
      have i2 : zi_in (nI l) 19 = true := zm_in hl (by decide)
      have e1 : (nI w).toNatClampNeg = w := nI_clamp (by omega)
      have e2 : (nI l).toNatClampNeg = l := nI_clamp (by omega)
      have el' : ν (T + 3) w = nI l := by rw [f1 _ (by omega)]; exact el
      have cr := zr_c (μ := ν) h.2.1
      refine ⟨zi_set (zi_set (zi_set L 3 (.int (nI w))) 4 (.int (nI l))) 2 (.int (nI (i + 1))), zm_mk (zm_up ν (T + 16 + a) l (zi_mx (ν (T + 16 + a) l) (ν (T + 5 + a) w))), ⟨N1 + N2 + N3, 36, fun F n hF => ?_⟩, by omega, ?_, ?_, ?_, ?_, _, rfl, fun c hc => ?_, fun n hn => ?_⟩
      · simp (maxDischargeDepth := 9) [zg_0, zg_aaload, zg_aload_n, zg_getfield, zg_goto, zg_iaload, zg_iastore, zg_iconst, zg_if_icmp, zg_iinc, zg_iload, zg_iload_n, zg_invokestatic, zg_invokevirtual, zg_istore, zg_istore_n, zg_return, zf_X3_measureLeaves, zi_ld, zi_lda, zi_cmp, zi_retOk, zi_isI, zi_f3, zi_cr, zi_ci, zi_cn, zi_get_ne, zi_nl_i, zi_nl_r, zi_get_set_eq, nl, g0, g1, g2, zt_g h, zq_Row_size, zq_Row_get, zq_Math_max, cr, h1 F (by omega), h2 F (by omega), h3 F (by omega), c1, zm_iald (k := 0) h.2.2.1 i1, e1, e2, el', y4, y15, zm_iald (k := 0) A16 i2, zm_iald (k := 0) A5 i1, zm_iast A16 i2, nI_1]
      · simp (maxDischargeDepth := 9) [zi_nl_i, zi_nl_r, nl]
      · simp (maxDischargeDepth := 9) [zi_get_ne, zi_nl_i, zi_nl_r, zi_ci, nl, g0]
      · simp (maxDischargeDepth := 9) [zi_get_ne, zi_nl_i, zi_nl_r, zi_ci, nl, g1]
      · exact zi_get_set_eq
      · rw [zm_up_row hc]; exact f1 c hc
      · rw [htk, zt_lf_snoc]
        by_cases e : n = l
        · subst e
          rw [zm_up_eq, if_pos el, f2 n hn, f1 _ (by omega)]
        · rw [zm_up_ne (by omega), if_neg (by rw [el, nI_eq (by omega) (by omega)]; omega)]
          exact f2 n hn
    · rintro L _ ⟨-, nl, g0, g1, g2, ν, rfl, f1, f2⟩
      have hR' : zr_L ν (T + 1) R := by
        refine ⟨hR.1, ?_, ?_⟩
        · rw [f1 (T + 1) (by omega)]; exact hR.2.1
        · rw [f1 (T + 2) (by omega)]; exact hR.2.2
      obtain ⟨N1, h1⟩ := ze_Row_sizeL (μ := ν) D h.2.1 hR'
      have cr := zr_c (μ := ν) h.2.1
      rw [List.take_length] at f2
      refine ⟨none, zm_mk ν, ⟨N1, 7, fun F n hF => ?_⟩, rfl, ν, rfl, f1, f2⟩
      simp [zg_0, zg_aaload, zg_aload_n, zg_getfield, zg_goto, zg_iaload, zg_iastore, zg_iconst, zg_if_icmp, zg_iinc, zg_iload, zg_iload_n, zg_invokestatic, zg_invokevirtual, zg_istore, zg_istore_n, zg_return, zf_X3_measureLeaves, zi_ld, zi_lda, zi_cmp, zi_retOk, zi_isI, zi_f3, zi_cr, zi_ci, zi_cn, g0, g1, g2, zt_g h, zq_Row_size, cr, h1 F (by omega)]
  obtain ⟨r, h', G, rfl, μ', rfl, p1, p2⟩ := key
  obtain ⟨N, hf⟩ := ze_fill (μ := μ) D A16 (by decide) 0
  refine ⟨μ', ze_in [(0, .ref (T + 1)), (1, .int (nI a))] zq_Tree_measureLeaves (Nat.le_of_ble_eq_true rfl) rfl (ze_S.end ⟨N, 8, fun F n hF => ?_⟩ G), p1, p2⟩
  simp [zg_0, zg_aaload, zg_aload_n, zg_getfield, zg_goto, zg_iaload, zg_iastore, zg_iconst, zg_if_icmp, zg_iinc, zg_iload, zg_iload_n, zg_invokestatic, zg_invokevirtual, zg_istore, zg_istore_n, zg_return, zf_X3_measureLeaves, zi_ld, zi_lda, zi_cmp, zi_retOk, zi_isI, zi_f3, zi_cr, zi_ci, zi_cn, zi_get, zi_set, zt_g h, x15, zq_Arr_fill, hf F hF, nI_0]
end ZT5
