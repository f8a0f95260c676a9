section
/-! what is above a leaf; Tree.nearestCut -/
noncomputable def zy_up (n : Nat) : zy_F → List Nat
  | .append (.tag c a) b => if n ∈ zy_lvs a then zy_up n a ++ [c] else if n ∈ zy_lvs b then zy_up n b ++ [c] else []
  | _ => []
theorem zl_getD_l {l l' : List Nat} {i : Nat} (h : i < l.length) : (l ++ l').getD i 0 = l.getD i 0 := by
  rw [List.getD_eq_getElem?_getD, List.getD_eq_getElem?_getD, List.getElem?_append_left h]
theorem zl_getD_r {l l' : List Nat} {i : Nat} (h : l.length ≤ i) : (l ++ l').getD i 0 = l'.getD (i - l.length) 0 := by
  rw [List.getD_eq_getElem?_getD, List.getD_eq_getElem?_getD, List.getElem?_append_right h]
theorem zy_up_ok {fm fs sd ab : Nat → Int32} {n : Nat} : ∀ t, zy_wf t → (zy_ids t).Nodup → zy_ok fm fs sd ab t → n ∈ zy_lvs t →
    (∀ x ∈ zy_up n t, x ∈ zy_cts t) ∧ (zy_up n t).Nodup ∧ (∀ i, i < (zy_up n t).length → ab ((n :: zy_up n t).getD i 0) = nI ((zy_up n t).getD i 0)) ∧ (n :: zy_up n t).getD (zy_up n t).length 0 = zy_id t := by
  apply zy_ind
  · intro m _ _ hn
    have e : n = m := by simpa [zy_lvs] using hn
    refine ⟨fun x hx => (by cases hx), List.nodup_nil, fun i hi => (by cases hi), ?_⟩
    show n = m
    exact e
  · intro c a b wa wb ha hb hd h hn
    have hd' : (c :: (zy_ids a ++ zy_ids b)).Nodup := hd
    obtain ⟨hc, hd2⟩ := List.nodup_cons.mp hd'
    obtain ⟨da, db, dis⟩ := List.nodup_append.mp hd2
    have main : ∀ s, zy_wf s → (∀ x ∈ zy_cts s, x ∈ zy_ids s) → (∀ x ∈ zy_ids s, x ∈ zy_ids a ++ zy_ids b) → ab (zy_id s) = nI c → (∀ x ∈ zy_cts s, x ∈ zy_cts (.append (.tag c a) b)) →
        ((∀ x ∈ zy_up n s, x ∈ zy_cts s) ∧ (zy_up n s).Nodup ∧ (∀ i, i < (zy_up n s).length → ab ((n :: zy_up n s).getD i 0) = nI ((zy_up n s).getD i 0)) ∧ (n :: zy_up n s).getD (zy_up n s).length 0 = zy_id s) →
        ((∀ x ∈ zy_up n s ++ [c], x ∈ zy_cts (.append (.tag c a) b)) ∧ (zy_up n s ++ [c]).Nodup ∧ (∀ i, i < (zy_up n s ++ [c]).length → ab ((n :: (zy_up n s ++ [c])).getD i 0) = nI ((zy_up n s ++ [c]).getD i 0)) ∧ (n :: (zy_up n s ++ [c])).getD (zy_up n s ++ [c]).length 0 = c) := by
      intro s ws hsi hsub habs hct ⟨q1, q2, q3, q4⟩
      refine ⟨fun x hx => ?_, ?_, fun i hi => ?_, ?_⟩
      · rcases List.mem_append.mp hx with hx | hx
        · exact hct x (q1 x hx)
        · have : x = c := by simpa using hx
          rw [this]
          exact List.mem_cons_self
      · refine List.nodup_append.mpr ⟨q2, List.nodup_cons.mpr ⟨List.not_mem_nil, List.nodup_nil⟩, fun x hx y hy e => ?_⟩
        have : y = c := by simpa using hy
        exact hc (hsub c (hsi c (q1 c (by rw [← this, ← e]; exact hx))))
      · rw [List.length_append] at hi
        have hi : i < (zy_up n s).length + 1 := hi
        rw [show n :: (zy_up n s ++ [c]) = (n :: zy_up n s) ++ [c] from rfl]
        by_cases e : i = (zy_up n s).length
        · subst e
          rw [zl_getD_l (by rw [List.length_cons]; omega), q4, zl_getD_r (Nat.le_refl _), Nat.sub_self]
          exact habs
        · rw [zl_getD_l (by rw [List.length_cons]; omega), zl_getD_l (by omega)]
          exact q3 i (by omega)
      · rw [show n :: (zy_up n s ++ [c]) = (n :: zy_up n s) ++ [c] from rfl, List.length_append, zl_getD_r (by simp), List.length_cons]
        show [c].getD ((zy_up n s).length + 1 - ((zy_up n s).length + 1)) 0 = c
        rw [Nat.sub_self]
        rfl
    by_cases na : n ∈ zy_lvs a
    · have e : zy_up n (.append (.tag c a) b) = zy_up n a ++ [c] := by
        show (if _ then _ else _ : List Nat) = _
        rw [if_pos na]
      rw [e]
      exact main a wa (zy_cts_ids a wa) (fun x hx => List.mem_append_left _ hx) h.1.2.2.2.1 (fun x hx => List.mem_cons_of_mem _ (List.mem_append_left _ hx)) (ha da h.2.1 na)
    · have nb : n ∈ zy_lvs b := by
        rcases List.mem_append.mp (show n ∈ zy_lvs a ++ zy_lvs b from hn) with h | h
        · exact absurd h na
        · exact h
      have e : zy_up n (.append (.tag c a) b) = zy_up n b ++ [c] := by
        show (if _ then _ else if _ then _ else _ : List Nat) = _
        rw [if_neg na, if_pos nb]
      rw [e]
      exact main b wb (zy_cts_ids b wb) (fun x hx => List.mem_append_right _ hx) h.1.2.2.2.2 (fun x hx => List.mem_cons_of_mem _ (List.mem_append_right _ hx)) (hb db h.2.2 nb)
section ZNC
variable {T : Nat} {μ : zm_M} {R : List Nat} {t : zy_F}
/-- the nearest cut of the form a above the leaf n -/
noncomputable def zy_nc (fm : Nat → Int32) (a : Int32) (n : Nat) (t : zy_F) : Int32 := if 0 < ((zy_up n t).filter (fun x => decide (fm x = a))).length then nI (((zy_up n t).filter (fun x => decide (fm x = a))).getD 0 0) else -1
set_option maxRecDepth 100000 in
theorem ze_Tree_nearestCut (D : Nat) (h : zt_at T) (hI : zt_I μ T R t) {n w a : Nat} (hn : n ∈ zy_lvs t) (hw : w < 10) (hwn : μ (T + 3) w = nI n) (ha : a < 2) :
    ze_E (D + 2) A_Tree_nearestCut [.ref (T + 1), .int (nI w), .int (nI a)] (zm_mk μ) (some (.int (zy_nc (μ (T + 7)) (nI a) n t))) (zm_mk μ) := by
  have hnid := (zt_I_lv hI hn).2
  obtain ⟨wt, ok, hr⟩ := zt_I_wf hI hnid
  obtain ⟨-, ⟨-, k5, k6, k7⟩, -⟩ := id hI
  have hn19 := k6 n hnid
  have hidt := zy_id_mem wt
  have hrt : μ (T + 11) (zy_id t) = -1 := k7.resolve_left (fun e => by rw [e] at hidt; cases hidt)
  obtain ⟨u1, u2, u3, u4⟩ := zy_up_ok (n := n) t wt k5 ok hn
  have fm2 := zy_ok_lf t wt ok n hn
  have hna : ¬ μ (T + 7) n = nI a := by
    rw [fm2]
    intro e
    have := (nI_eq (a := 2) (b := a) (by decide) (by omega)).mp e
    omega
  let P := n :: zy_up n t
  have hPm : ∀ x ∈ P, x < 19 := fun x hx => by
    rcases List.mem_cons.mp hx with rfl | hx
    · exact hn19
    · exact k6 x (zy_cts_ids t wt x (u1 x hx))
  have hPd : P.Nodup := by
    refine List.nodup_cons.mpr ⟨fun hx => ?_, u2⟩
    rcases (zy_ok_ct t wt ok n (u1 n hx)).1 with e | e <;> rw [e] at fm2 <;> revert fm2 <;> decide
  have hPl := zy_nodup_le 19 P hPd hPm
  have hv : zy_nc (μ (T + 7)) (nI a) n t = zl_ln (fun x => decide (μ (T + 7) x = nI a)) 0 (-1) P 0 := by
    rw [zl_ln_eq _ _ _ _ _ (Nat.le_refl _), Nat.sub_zero]
    have hfl : P.filter (fun x => decide (μ (T + 7) x = nI a)) = (zy_up n t).filter (fun x => decide (μ (T + 7) x = nI a)) := by
      show (n :: zy_up n t).filter _ = _
      rw [List.filter_cons, if_neg (by simpa using hna)]
    rw [hfl]
    rfl
  rw [hv]
  have hnext : ∀ i, i < P.length → μ (T + 11) (P.getD i 0) = if i + 1 < P.length then nI (P.getD (i + 1) 0) else -1 := by
    intro i hi
    have hi' : i < (zy_up n t).length + 1 := hi
    by_cases c : i < (zy_up n t).length
    · rw [if_pos (show i + 1 < P.length from Nat.succ_lt_succ c)]
      exact u3 i c
    · have : i = (zy_up n t).length := by omega
      subst this
      rw [if_neg (show ¬ (zy_up n t).length + 1 < P.length from Nat.lt_irrefl _)]
      show μ (T + 11) ((n :: zy_up n t).getD (zy_up n t).length 0) = -1
      rw [u4]
      exact hrt
  have hP0 : 0 < P.length := Nat.succ_pos _
  have hP00 : P.getD 0 0 = n := rfl
  generalize P = P at hPm hPl hnext hP0 hP00
  have h19 : (Int8.ofInt 19).toInt32 = (19 : Int32) := by decide
  have key : ∃ r h', ze_G (D + 1) 5 (some .int) zc_X3_nearestCut 9 [(4, .int (nI 0)), (3, .int (nI n)), (0, .ref (T + 1)), (1, .int (nI w)), (2, .int (nI a))] [] (zm_mk μ) r h' ∧ (r = some (.int (zl_ln (fun x => decide (μ (T + 7) x = nI a)) 0 (-1) P 0)) ∧ zm_mk μ = h') := by
    refine ze_loop (Q := fun i L hp => i ≤ P.length ∧ zi_nl L = true ∧ zi_get L 0 = some (.ref (T + 1)) ∧ zi_get L 2 = some (.int (nI a)) ∧ zi_get L 4 = some (.int (nI i)) ∧ zm_mk μ = hp ∧ ∃ (x : Int32), zi_get L 3 = some (.int x) ∧ (x = (if i < P.length then nI (P.getD i 0) else -1) ∧ zl_ln (fun x => decide (μ (T + 7) x = nI a)) 0 (-1) P 0 = zl_ln (fun x => decide (μ (T + 7) x = nI a)) 0 (-1) (P.drop i) 0)) (R := fun r h' => r = some (.int (zl_ln (fun x => decide (μ (T + 7) x = nI a)) 0 (-1) P 0)) ∧ zm_mk μ = h') P.length ?_ ?_ P.length 0 _ _ (by omega) ⟨by omega, rfl, rfl, rfl, rfl, rfl, nI n, rfl, by rw [if_pos hP0, hP00], rfl⟩
    · rintro i L _ hi ⟨-, nl, g0, g2, g4, rfl, x, g3, hq⟩
      obtain ⟨hx, hq⟩ := hq
      rw [if_pos hi] at hx
      have hm : P.getD i 0 ∈ P := zl_mem hi
      have hne := hnext i hi
      rw [zl_drop hi] at hq
      generalize P.getD i 0 = v at hm hq hx hne
      subst hx
      have hv := hPm v hm
      have c1 : ¬ (19 : Int32) ≤ nI i := nI_ge (b := 19) (by omega) (by decide)
      have c2 : ¬ nI v < 0 := nI_pos (by omega)
      have i1 : zi_in (nI v) 19 = true := zm_in hv (by decide)
      have e1 : (nI v).toNatClampNeg = v := nI_clamp (by omega)
      obtain ⟨-, -, -, -, ⟨a7, a8, a9, a10, a11, a12, a13, -⟩, -⟩ := id h
      have hq' : zl_ln (fun x => decide (μ (T + 7) x = nI a)) 0 (-1) P 0 = if decide (μ (T + 7) v = nI a) = true then (if 0 = 0 then nI v else zl_ln (fun x => decide (μ (T + 7) x = nI a)) 0 (-1) (P.drop (i + 1)) (0 + 1)) else zl_ln (fun x => decide (μ (T + 7) x = nI a)) 0 (-1) (P.drop (i + 1)) 0 := hq
      by_cases c3 : μ (T + 7) v = nI a
      · rw [if_pos (by simpa using c3), if_pos rfl] at hq'
        right
        refine ⟨some (.int (nI v)), zm_mk μ, ⟨0, 13, fun F m hF => ?_⟩, by rw [hq'], rfl⟩
        simp (maxDischargeDepth := 9) [zg_0, zg_aload_n, zg_bipush, zg_getfield, zg_goto, zg_iaload, zg_iconst, zg_ifCond, zg_if_icmp, zg_iinc, zg_iload, zg_iload_n, zg_invokevirtual, zg_ireturn, zg_istore, zg_istore_n, zf_X3_nearestCut, zi_ld, zi_lda, zi_cmp, zi_retOk, zi_isI, zi_f3, zi_cr, zi_ci, zi_cn, zi_get_ne, zi_nl_i, zi_nl_r, zi_get_set_eq, nl, g0, g2, g4, g3, zt_g h, h19, c1, c2, zm_iald (k := 0) a7 i1, e1, c3, nI_1]
      · rw [if_neg (by simpa using c3)] at hq'
        left
        refine ⟨zi_set (zi_set L 3 (.int (μ (T + 11) v))) 4 (.int (nI (i + 1))), zm_mk μ, ⟨0, 18, fun F m hF => ?_⟩, by omega, ?_, ?_, ?_, zi_get_set_eq, rfl, μ (T + 11) v, ?_, ⟨hne, hq'⟩⟩
        · simp (maxDischargeDepth := 9) [zg_0, zg_aload_n, zg_bipush, zg_getfield, zg_goto, zg_iaload, zg_iconst, zg_ifCond, zg_if_icmp, zg_iinc, zg_iload, zg_iload_n, zg_invokevirtual, zg_ireturn, zg_istore, zg_istore_n, zf_X3_nearestCut, zi_ld, zi_lda, zi_cmp, zi_retOk, zi_isI, zi_f3, zi_cr, zi_ci, zi_cn, zi_get_ne, zi_nl_i, zi_nl_r, zi_get_set_eq, nl, g0, g2, g4, g3, zt_g h, h19, c1, c2, zm_iald (k := 0) a7 i1, zm_iald (k := 0) a11 i1, e1, c3, nI_1]
        · simp (maxDischargeDepth := 9) [zi_get_ne, zi_nl_i, zi_nl_r, zi_get_set_eq, nl]
        · simp (maxDischargeDepth := 9) [zi_get_ne, zi_nl_i, zi_nl_r, zi_get_set_eq, nl, g0]
        · simp (maxDischargeDepth := 9) [zi_get_ne, zi_nl_i, zi_nl_r, zi_get_set_eq, nl, g2]
        · simp (maxDischargeDepth := 9) [zi_get_ne, zi_nl_i, zi_nl_r, zi_get_set_eq, nl, g3]
    · rintro L _ ⟨-, nl, g0, g2, g4, rfl, x, g3, hq⟩
      rw [List.drop_length] at hq
      obtain ⟨hx, hq⟩ := hq
      rw [if_neg (by omega)] at hx
      subst hx
      have hq : zl_ln (fun x => decide (μ (T + 7) x = nI a)) 0 (-1) P 0 = -1 := hq
      rw [hq]
      by_cases c1 : (19 : Int32) ≤ nI P.length
      · refine ⟨some (.int (-1)), zm_mk μ, ⟨0, 5, fun F m hF => ?_⟩, rfl, rfl⟩
        simp [zg_0, zg_aload_n, zg_bipush, zg_getfield, zg_goto, zg_iaload, zg_iconst, zg_ifCond, zg_if_icmp, zg_iinc, zg_iload, zg_iload_n, zg_invokevirtual, zg_ireturn, zg_istore, zg_istore_n, zf_X3_nearestCut, zi_ld, zi_lda, zi_cmp, zi_retOk, zi_isI, zi_f3, zi_cr, zi_ci, zi_cn, g0, g4, h19, c1]
      · refine ⟨some (.int (-1)), zm_mk μ, ⟨0, 7, fun F m hF => ?_⟩, rfl, rfl⟩
        have c2 : (-1 : Int32) < 0 := by decide
        simp [zg_0, zg_aload_n, zg_bipush, zg_getfield, zg_goto, zg_iaload, zg_iconst, zg_ifCond, zg_if_icmp, zg_iinc, zg_iload, zg_iload_n, zg_invokevirtual, zg_ireturn, zg_istore, zg_istore_n, zf_X3_nearestCut, zi_ld, zi_lda, zi_cmp, zi_retOk, zi_isI, zi_f3, zi_cr, zi_ci, zi_cn, g0, g4, g3, h19, c1, c2]
  obtain ⟨r, h', G, rfl, rfl⟩ := key
  obtain ⟨N1, E1⟩ := ze_Tree_leafOf (μ := μ) D h hw
  rw [hwn] at E1
  obtain ⟨l1, c1⟩ := zt_c (μ := μ) h
  refine ze_in [(0, .ref (T + 1)), (1, .int (nI w)), (2, .int (nI a))] zq_Tree_nearestCut (Nat.le_of_ble_eq_true rfl) rfl (ze_S.end ⟨N1, 6, fun F m hF => ?_⟩ G)
  simp [zg_0, zg_aload_n, zg_bipush, zg_getfield, zg_goto, zg_iaload, zg_iconst, zg_ifCond, zg_if_icmp, zg_iinc, zg_iload, zg_iload_n, zg_invokevirtual, zg_ireturn, zg_istore, zg_istore_n, zf_X3_nearestCut, zi_ld, zi_lda, zi_cmp, zi_retOk, zi_isI, zi_f3, zi_cr, zi_ci, zi_cn, zi_get, zi_set, zq_Tree_leafOf, c1, E1 F (by omega), nI_0]
end ZNC
end
section
/-! Tree.addAllTabs -/
section ZAA
variable {T Q : Nat} {μ : zm_M} {R S : List Nat} {t u : zy_F}
theorem zt_C_congr {ν : zm_M} (h : ∀ c, Q ≤ c → c < Q + 24 → ν c = μ c) (g : zt_C μ Q S u) : zt_C ν Q S u := by
  refine ⟨zt_same.I ⟨h _ (by omega) (by omega), h _ (by omega) (by omega), h _ (by omega) (by omega), h _ (by omega) (by omega), h _ (by omega) (by omega), h _ (by omega) (by omega), h _ (by omega) (by omega), h _ (by omega) (by omega), h _ (by omega) (by omega), h _ (by omega) (by omega), h _ (by omega) (by omega), by rw [h Q (by omega) (by omega)]⟩ g.1, ?_, fun a ha => ?_⟩
  · have := g.2.1
    unfold zt_O at *
    rw [h Q (by omega) (by omega), h (Q + 13) (by omega) (by omega)]
    exact this
  · have := g.2.2 a ha
    rw [h (Q + 16 + a) (by omega) (by omega), h (Q + 7) (by omega) (by omega), h (Q + 5 + a) (by omega) (by omega), h (Q + 3) (by omega) (by omega)]
    exact this
/-- the tree when the tabs W have come to its first leaf, or to a new one -/
noncomputable def zy_ad (emp : Bool) (t : zy_F) (W : List Nat) (n0 : Nat) : zy_F := if emp = true ∧ W ≠ [] then .tag n0 .nil else t
noncomputable def zt_AD (μ : zm_M) (T Q : Nat) (R : List Nat) (t : zy_F) (emp : Bool) (W : List Nat) (ν : zm_M) : Prop :=
  ∃ n0, zt_C ν T (R ++ W) (zy_ad emp t W n0) ∧ zt_frT T μ ν ∧ (emp = false → n0 = (zy_lvs t).getD 0 0) ∧
    (∀ v, ν (T + 3) v = if v ∈ W then nI n0 else μ (T + 3) v) ∧ (∀ v, ν (T + 5) v = if v ∈ W then μ (Q + 5) v else μ (T + 5) v) ∧ (∀ v, ν (T + 6) v = if v ∈ W then μ (Q + 6) v else μ (T + 6) v) ∧
    (∀ i, ν (T + 7) i = if (emp = true ∧ W ≠ []) ∧ i = n0 then 2 else μ (T + 7) i) ∧ ν (T + 8) = μ (T + 8) ∧ (∀ i, ν (T + 12) i = if (emp = true ∧ W ≠ []) ∧ i = n0 then nI (W.getD 0 0) else μ (T + 12) i)
theorem zl_snoc_if {α : Type} {W : List Nat} {w v : Nat} {a b c : α} (h : v = w → a = c) : (if v = w then a else if v ∈ W then c else b) = if v ∈ W ++ [w] then c else b := by
  by_cases e : v = w
  · rw [if_pos e, if_pos (by rw [e]; exact List.mem_append_right _ List.mem_cons_self)]
    exact h e
  · rw [if_neg e]
    by_cases c2 : v ∈ W
    · rw [if_pos c2, if_pos (List.mem_append_left _ c2)]
    · rw [if_neg c2, if_neg (fun q => by
        rcases List.mem_append.mp q with q | q
        · exact c2 q
        · exact e (by simpa using q))]
theorem zl_one {α : Type} {w v : Nat} {a b c : α} (h : v = w → a = c) : (if v = w then a else b) = if v ∈ ([] : List Nat) ++ [w] then c else b := by
  by_cases e : v = w
  · rw [if_pos e, if_pos (by rw [e]; exact List.mem_cons_self)]
    exact h e
  · rw [if_neg e, if_neg (fun q => e (by simpa using q))]
theorem zl_snoc_ne {W : List Nat} {w : Nat} : W ++ [w] ≠ [] := by simp
theorem zl_snoc_0 {W : List Nat} {w : Nat} (h : W ≠ []) : (W ++ [w]).getD 0 0 = W.getD 0 0 := zl_getD_l (List.length_pos_iff.mpr h)
theorem zy_lvs_pos (h : zy_wf t) : 0 < (zy_lvs t).length := by
  have h1 := zy_len t h
  have h2 := zy_len_pos h
  omega
theorem zt_AD_step (D : Nat) (h : zt_at T) {emp : Bool} (he : emp = true → t = .nil ∧ R = []) (he' : emp = false → zy_wf t) {W : List Nat} {ν : zm_M} (hA : zt_AD μ T Q R t emp W ν) {w : Nat} (hw : w < 10) (hwR : w ∉ R ++ W) :
    ∃ ν', (∃ x, ze_E (D + 4) A_Tree_leafNumber [.ref (T + 1), .int 0] (zm_mk ν) (some (.int x)) (zm_mk ν) ∧ ze_E (D + 4) A_Tree_addTab [.ref (T + 1), .int x, .int (nI w), .int (μ (Q + 5) w), .int (μ (Q + 6) w)] (zm_mk ν) none (zm_mk ν')) ∧ zt_AD μ T Q R t emp (W ++ [w]) ν' := by
  obtain ⟨n0, hC, fr, hn0, t3, t5, t6, t7, t8, t12⟩ := hA
  obtain ⟨NL, EL⟩ := ze_Tree_leafNumber (D + 3) h hC (j := 0) (by decide)
  have EL : ze_E (D + 4) A_Tree_leafNumber [.ref (T + 1), .int 0] (zm_mk ν) (some (.int (if 0 < (zy_lvs (zy_ad emp t W n0)).length then nI ((zy_lvs (zy_ad emp t W n0)).getD 0 0) else -1))) (zm_mk ν) := ⟨NL, EL⟩
  by_cases c : emp = true ∧ W = []
  · obtain ⟨c1, c2⟩ := c
    subst c2
    obtain ⟨rfl, rfl⟩ := he c1
    have e0 : zy_ad emp .nil [] n0 = .nil := by
      unfold zy_ad
      split <;> first | rfl | exact absurd rfl (‹emp = true ∧ _›).2
    rw [e0] at hC EL
    obtain ⟨ν', n, E, C, f, -, s3, s5, s6, s7, s8, s12⟩ := ze_Tree_addTab_0 D h hC.1 hw (z := -1) (by decide) (μ (Q + 5) w) (μ (Q + 6) w)
    refine ⟨ν', ⟨-1, EL, E⟩, n, ?_, fr.trans f, fun e => (by rw [e] at c1; cases c1), fun v => ?_, fun v => ?_, fun v => ?_, fun i => ?_, s8.trans t8, fun i => ?_⟩
    · have : zy_ad emp .nil ([] ++ [w]) n = .tag n .nil := by
        unfold zy_ad
        rw [if_pos ⟨c1, zl_snoc_ne⟩]
      rw [this]
      exact C
    · have := t3 v
      rw [if_neg List.not_mem_nil] at this
      rw [s3, this]; exact zl_one (fun _ => rfl)
    · have := t5 v
      rw [if_neg List.not_mem_nil] at this
      rw [s5, this]; exact zl_one (fun e => by rw [e])
    · have := t6 v
      rw [if_neg List.not_mem_nil] at this
      rw [s6, this]; exact zl_one (fun e => by rw [e])
    · have := t7 i
      rw [if_neg (fun q => q.1.2 rfl)] at this
      rw [s7, this]
      by_cases e : i = n
      · rw [if_pos e, if_pos ⟨⟨c1, zl_snoc_ne⟩, e⟩]
      · rw [if_neg e, if_neg (show ¬ ((emp = true ∧ [] ++ [w] ≠ []) ∧ i = n) from fun q => e q.2)]
    · have := t12 i
      rw [if_neg (fun q => q.1.2 rfl)] at this
      rw [s12, this]
      by_cases e : i = n
      · rw [if_pos e, if_pos ⟨⟨c1, zl_snoc_ne⟩, e⟩]; rfl
      · rw [if_neg e, if_neg (show ¬ ((emp = true ∧ [] ++ [w] ≠ []) ∧ i = n) from fun q => e q.2)]
  · have hlv : (zy_lvs (zy_ad emp t W n0)).getD 0 0 = n0 ∧ 0 < (zy_lvs (zy_ad emp t W n0)).length ∧ zy_ad emp t (W ++ [w]) n0 = zy_ad emp t W n0 ∧ ((emp = true ∧ W ++ [w] ≠ []) ↔ (emp = true ∧ W ≠ [])) := by
      unfold zy_ad
      cases emp with
      | true =>
        have hW : W ≠ [] := fun e => c ⟨rfl, e⟩
        rw [if_pos ⟨rfl, hW⟩, if_pos ⟨rfl, zl_snoc_ne⟩]
        exact ⟨rfl, Nat.succ_pos _, rfl, ⟨fun _ => ⟨rfl, hW⟩, fun _ => ⟨rfl, zl_snoc_ne⟩⟩⟩
      | false =>
        rw [if_neg (fun q => by cases q.1), if_neg (fun q => by cases q.1)]
        exact ⟨(hn0 rfl).symm, zy_lvs_pos (he' rfl), rfl, ⟨fun q => (by cases q.1), fun q => (by cases q.1)⟩⟩
    obtain ⟨l1, l2, l3, l4⟩ := hlv
    rw [if_pos l2, l1] at EL
    have hmem : n0 ∈ zy_lvs (zy_ad emp t W n0) := by
      have := zl_mem l2
      rw [l1] at this
      exact this
    obtain ⟨ν', E, C, f, s3, s5, s6, s7, s8, s12⟩ := ze_Tree_addTab D h hC.1 hmem hw hwR (μ (Q + 5) w) (μ (Q + 6) w)
    rw [List.append_assoc] at C
    refine ⟨ν', ⟨nI n0, EL, E⟩, n0, ?_, fr.trans f, hn0, fun v => ?_, fun v => ?_, fun v => ?_, fun i => ?_, s8.trans t8, fun i => ?_⟩
    · rw [l3]
      exact C
    · rw [s3, t3]; exact zl_snoc_if (fun _ => rfl)
    · rw [s5, t5]; exact zl_snoc_if (fun e => by rw [e])
    · rw [s6, t6]; exact zl_snoc_if (fun e => by rw [e])
    · rw [s7, t7]
      by_cases e : (emp = true ∧ W ≠ []) ∧ i = n0
      · rw [if_pos e, if_pos ⟨l4.mpr e.1, e.2⟩]
      · rw [if_neg e, if_neg (fun q => e ⟨l4.mp q.1, q.2⟩)]
    · rw [s12, t12]
      by_cases e : (emp = true ∧ W ≠ []) ∧ i = n0
      · rw [if_pos e, if_pos ⟨l4.mpr e.1, e.2⟩, zl_snoc_0 e.1.2]
      · rw [if_neg e, if_neg (fun q => e ⟨l4.mp q.1, q.2⟩)]
theorem zl_flat_take {l : List Nat} {f : Nat → List Nat} {i : Nat} (hi : i < l.length) : (l.take (i + 1)).flatMap f = (l.take i).flatMap f ++ f (l.getD i 0) := by
  rw [zl_take hi, List.flatMap_append]
  simp
theorem zl_flat_mem {l : List Nat} {f : Nat → List Nat} {i w : Nat} (h : w ∈ (l.take i).flatMap f) : ∃ n ∈ l, w ∈ f n := by
  obtain ⟨n, hn, hw⟩ := List.mem_flatMap.mp h
  exact ⟨n, List.mem_of_mem_take hn, hw⟩
theorem zt_AD_C {emp : Bool} {W : List Nat} {ν : zm_M} (hA : zt_AD μ T Q R t emp W ν) (hd : T + 24 ≤ Q ∨ Q + 24 ≤ T) (hQ : zt_C μ Q S u) : zt_C ν Q S u ∧ (∀ c, Q ≤ c → c < Q + 24 → ν c = μ c) := by
  obtain ⟨n0, -, fr, -⟩ := hA
  have : ∀ c, Q ≤ c → c < Q + 24 → ν c = μ c := fun c h1 h2 => fr c (by unfold zt_out; omega)
  exact ⟨zt_C_congr this hQ, this⟩
set_option maxRecDepth 100000 in
theorem ze_Tree_addAllTabs (D : Nat) (h : zt_at T) (hQt : zt_at Q) (hd : T + 24 ≤ Q ∨ Q + 24 ≤ T) {emp : Bool} (he : emp = true → t = .nil ∧ R = []) (he' : emp = false → zy_wf t) (hC : zt_C μ T R t) (hQ : zt_C μ Q S u) (hRS : ∀ w ∈ S, w ∉ R) :
    ∃ ν, ze_E (D + 5) A_Tree_addAllTabs [.ref (T + 1), .ref (Q + 1)] (zm_mk μ) none (zm_mk ν) ∧ zt_AD μ T Q R t emp ((zy_lvs u).flatMap (zt_tb μ Q S)) ν := by
  obtain ⟨hI, ⟨o1, o2⟩, -⟩ := id hQ
  obtain ⟨⟨s1, s2, s3⟩, ⟨k4, k5, k6, k7⟩, -⟩ := id hI
  have hlvn : (zy_lvs u).Nodup := by
    rcases k4 with ⟨rfl, _⟩ | ⟨wt, ok, _⟩
    · exact List.nodup_nil
    · exact zy_lvs_nodup u wt k5
  have hlv : ∀ n ∈ zy_lvs u, n < 19 := zy_lvs_lt (k4.imp (·.1) (·.1)) k6
  have hll := zy_nodup_le 19 (zy_lvs u) hlvn hlv
  have hnl : (μ Q 12 + 1) / 2 = nI (zy_lvs u).length := by
    rw [o1]
    rcases k4 with ⟨rfl, _⟩ | ⟨wt, ok, _⟩
    · decide
    · have h1 := zy_len u wt
      have h2 := zy_nodup_le 19 (zy_ids u) k5 k6
      have : ∀ a b, a + 1 = 2 * b → a ≤ 19 → (nI a + 1) / 2 = nI b := by
        intro a b e1 e2
        have e3 : a = 2 * b - 1 := by omega
        have e4 : 1 ≤ b ∧ b ≤ 10 := by omega
        subst e3
        have : ∀ b, b < 11 → 1 ≤ b → (nI (2 * b - 1) + 1) / 2 = nI b := by decide
        exact this b (by omega) e4.1
      exact this _ _ h1 h2
  have key : ∃ r h', ze_G (D + 4) 6 none zc_X3_addAllTabs 2 [(2, .int (nI 0)), (0, .ref (T + 1)), (1, .ref (Q + 1))] [] (zm_mk μ) r h' ∧ (r = none ∧ ∃ ν, zm_mk ν = h' ∧ zt_AD μ T Q R t emp ((zy_lvs u).flatMap (zt_tb μ Q S)) ν) := by
    refine ze_loop (Q := fun i L hp => i ≤ (zy_lvs u).length ∧ zi_nl L = true ∧ zi_get L 0 = some (.ref (T + 1)) ∧ zi_get L 1 = some (.ref (Q + 1)) ∧ zi_get L 2 = some (.int (nI i)) ∧ ∃ ν : zm_M, zm_mk ν = hp ∧ zt_AD μ T Q R t emp (((zy_lvs u).take i).flatMap (zt_tb μ Q S)) ν) (R := fun r h' => r = none ∧ ∃ ν, zm_mk ν = h' ∧ zt_AD μ T Q R t emp ((zy_lvs u).flatMap (zt_tb μ Q S)) ν) (zy_lvs u).length ?_ ?_ (zy_lvs u).length 0 _ _ (by omega) ⟨by omega, rfl, rfl, rfl, rfl, μ, rfl, ?_⟩
    · rintro i0 L _ hi0 ⟨-, nl, g0, g1, g2, ν, rfl, hA⟩
      left
      have hlm : (zy_lvs u).getD i0 0 ∈ zy_lvs u := zl_mem hi0
      have hft := zl_flat_take (f := zt_tb μ Q S) hi0
      obtain ⟨hQν, hrQ⟩ := zt_AD_C hA hd hQ
      obtain ⟨N1, E1⟩ := ze_Tree_leaves (μ := ν) (D + 3) hQt
      rw [hrQ Q (by omega) (by omega), hnl] at E1
      obtain ⟨N2, E2⟩ := ze_Tree_leafNumber (D + 3) hQt hQν (j := i0) (by omega)
      rw [if_pos hi0] at E2
      have hWd : ∀ w ∈ ((zy_lvs u).take i0).flatMap (zt_tb μ Q S), w ∉ zt_tb μ Q S ((zy_lvs u).getD i0 0) := by
        intro w hw hw2
        obtain ⟨n, hn, hwn⟩ := List.mem_flatMap.mp hw
        have e1 := (zt_tb_mem.mp hwn).2
        have e2 := (zt_tb_mem.mp hw2).2
        have h1 := hlv n (List.mem_of_mem_take hn)
        have h2 := hlv _ hlm
        have e : n = (zy_lvs u).getD i0 0 := (nI_eq (by omega) (by omega)).mp (e1.symm.trans e2)
        obtain ⟨j, hj, ej⟩ := List.mem_take_iff_getElem.mp hn
        have hj' : j < (zy_lvs u).length := by omega
        have ei : (zy_lvs u).getD i0 0 = (zy_lvs u)[i0] := by
          rw [List.getD_eq_getElem?_getD, List.getElem?_eq_getElem hi0]; rfl
        have : (zy_lvs u)[j] = (zy_lvs u)[i0] := by rw [ej, e, ei]
        exact List.pairwise_iff_getElem.mp hlvn j i0 hj' hi0 (by omega) this
      generalize (zy_lvs u).getD i0 0 = l at hlm hft E2 hWd
      have hl := hlv l hlm
      generalize hWi : ((zy_lvs u).take i0).flatMap (zt_tb μ Q S) = Wi at hA hft hWd
      have hWS : ∀ w ∈ Wi, w ∈ S := fun w hw => by
        rw [← hWi] at hw
        obtain ⟨n, -, hwn⟩ := zl_flat_mem hw
        exact (zt_tb_mem.mp hwn).1
      have htd : (zt_tb μ Q S l).Nodup := s2.filter _
      have htl : (zt_tb μ Q S l).length ≤ 10 := Nat.le_trans (List.length_filter_le _ _) s1.1
      have inner : ∃ L' h', ze_S (D + 4) 6 none zc_X3_addAllTabs 19 (zi_set (zi_set L 3 (.int (nI l))) 4 (.int (nI 0))) [] (zm_mk ν) 73 L' [] h' ∧ (zi_nl L' = true ∧ zi_get L' 0 = some (.ref (T + 1)) ∧ zi_get L' 1 = some (.ref (Q + 1)) ∧ zi_get L' 2 = some (.int (nI i0)) ∧ ∃ ξ : zm_M, zm_mk ξ = h' ∧ zt_AD μ T Q R t emp (Wi ++ zt_tb μ Q S l) ξ) := by
        have z0 : zi_nl (zi_set (zi_set L 3 (.int (nI l))) 4 (.int (nI 0))) = true := by simp (maxDischargeDepth := 9) [zi_get_ne, zi_nl_i, zi_nl_r, zi_get_set_eq, nl]
        have z1 : zi_get (zi_set (zi_set L 3 (.int (nI l))) 4 (.int (nI 0))) 0 = some (.ref (T + 1)) := by simp (maxDischargeDepth := 9) [zi_get_ne, zi_nl_i, zi_nl_r, zi_get_set_eq, nl, g0]
        have z2 : zi_get (zi_set (zi_set L 3 (.int (nI l))) 4 (.int (nI 0))) 1 = some (.ref (Q + 1)) := by simp (maxDischargeDepth := 9) [zi_get_ne, zi_nl_i, zi_nl_r, zi_get_set_eq, nl, g1]
        have z3 : zi_get (zi_set (zi_set L 3 (.int (nI l))) 4 (.int (nI 0))) 2 = some (.int (nI i0)) := by simp (maxDischargeDepth := 9) [zi_get_ne, zi_nl_i, zi_nl_r, zi_get_set_eq, nl, g2]
        have z4 : zi_get (zi_set (zi_set L 3 (.int (nI l))) 4 (.int (nI 0))) 3 = some (.int (nI l)) := by simp (maxDischargeDepth := 9) [zi_get_ne, zi_nl_i, zi_nl_r, zi_get_set_eq, nl]
        have z5 : zi_get (zi_set (zi_set L 3 (.int (nI l))) 4 (.int (nI 0))) 4 = some (.int (nI 0)) := zi_get_set_eq
        generalize zi_set (zi_set L 3 (.int (nI l))) 4 (.int (nI 0)) = L0 at z0 z1 z2 z3 z4 z5
        refine ze_loopS (Q := fun i L hp => i ≤ (zt_tb μ Q S l).length ∧ zi_nl L = true ∧ zi_get L 0 = some (.ref (T + 1)) ∧ zi_get L 1 = some (.ref (Q + 1)) ∧ zi_get L 2 = some (.int (nI i0)) ∧ zi_get L 3 = some (.int (nI l)) ∧ zi_get L 4 = some (.int (nI i)) ∧ ∃ ξ : zm_M, zm_mk ξ = hp ∧ (zt_AD μ T Q R t emp (Wi ++ (zt_tb μ Q S l).take i) ξ) ∧ (True)) (R := fun L' h' => zi_nl L' = true ∧ zi_get L' 0 = some (.ref (T + 1)) ∧ zi_get L' 1 = some (.ref (Q + 1)) ∧ zi_get L' 2 = some (.int (nI i0)) ∧ ∃ ξ : zm_M, zm_mk ξ = h' ∧ zt_AD μ T Q R t emp (Wi ++ zt_tb μ Q S l) ξ) (zt_tb μ Q S l).length ?_ ?_ (zt_tb μ Q S l).length 0 _ _ (by omega) ⟨by omega, z0, z1, z2, z3, z4, z5, ν, rfl, (by rw [List.take_zero, List.append_nil]; exact hA), trivial⟩
        · rintro i L _ hi ⟨-, nl, g0, g1, g2, g3, g4, ξ, rfl, hA, hq⟩
          have hwm : (zt_tb μ Q S l).getD i 0 ∈ zt_tb μ Q S l := zl_mem hi
          have htk := zl_take hi
          obtain ⟨hQξ, hrξ⟩ := zt_AD_C hA hd hQ
          have etb : S.filter (fun v => decide (ξ (Q + 3) v = nI l)) = zt_tb μ Q S l := by
            unfold zt_tb
            rw [hrξ (Q + 3) (by omega) (by omega)]
          obtain ⟨N1, E1⟩ := ze_Tree_tabsIn (μ := ξ) (D + 2) hQt hQξ.1 (nI l)
          obtain ⟨N2, E2⟩ := ze_Tree_tabIn (μ := ξ) (D + 2) hQt hQξ.1 (nI l) (j := i) (by omega)
          rw [etb] at E1 E2
          rw [if_pos hi] at E2
          have hwn : (zt_tb μ Q S l).getD i 0 ∉ (zt_tb μ Q S l).take i := by
            intro hm
            obtain ⟨j, hj, ej⟩ := List.mem_take_iff_getElem.mp hm
            have ei : (zt_tb μ Q S l).getD i 0 = (zt_tb μ Q S l)[i] := by
              rw [List.getD_eq_getElem?_getD, List.getElem?_eq_getElem hi]; rfl
            have : (zt_tb μ Q S l)[j] = (zt_tb μ Q S l)[i] := by rw [ej, ei]
            exact List.pairwise_iff_getElem.mp htd j i (by omega) hi (by omega) this
          generalize (zt_tb μ Q S l).getD i 0 = w at hwm htk E2 hwn
          obtain ⟨hwS, hwl⟩ := zt_tb_mem.mp hwm
          have hw := s3 w hwS
          have hwR : w ∉ R ++ (Wi ++ (zt_tb μ Q S l).take i) := by
            intro hm
            rcases List.mem_append.mp hm with hm | hm
            · exact hRS w hwS hm
            · rcases List.mem_append.mp hm with hm | hm
              · exact hWd w hm hwm
              · exact hwn hm
          obtain ⟨ξ', ⟨x, ⟨N3, E3⟩, ⟨N4, E4⟩⟩, hA'⟩ := zt_AD_step D h he he' hA hw hwR
          rw [List.append_assoc, ← htk] at hA'
          obtain ⟨lq, cq⟩ := zt_c (μ := ξ) hQt
          obtain ⟨lt, ct⟩ := zt_c (μ := ξ) h
          have c1 : ¬ nI (zt_tb μ Q S l).length ≤ nI i := nI_ge hi (by omega)
          have i1 : zi_in (nI w) 10 = true := zm_in hw (by decide)
          have e1 : (nI w).toNatClampNeg = w := nI_clamp (by omega)
          have r5 : ξ (Q + 5) = μ (Q + 5) := hrξ _ (by omega) (by omega)
          have r6 : ξ (Q + 6) = μ (Q + 6) := hrξ _ (by omega) (by omega)
          refine ⟨zi_set (zi_set L 5 (.int (nI w))) 4 (.int (nI (i + 1))), zm_mk ξ', ⟨N1 + N2 + N3 + N4, 30, fun F m hF => ?_⟩, by omega, ?_, ?_, ?_, ?_, ?_, zi_get_set_eq, ξ', rfl, hA', trivial⟩
          · simp (maxDischargeDepth := 9) [zg_0, zg_aaload, zg_aload_n, zg_getfield, zg_goto, zg_iaload, zg_iconst, zg_if_icmp, zg_iinc, zg_iload, zg_iload_n, zg_invokevirtual, zg_istore, zg_istore_n, zg_return, zf_X3_addAllTabs, zi_ld, zi_lda, zi_cmp, zi_retOk, zi_isI, zi_f3, zi_cr, zi_ci, zi_cn, zi_get_ne, zi_nl_i, zi_nl_r, zi_get_set_eq, nl, g0, g1, g2, g3, g4, zt_g hQt, zq_Tree_tabsIn, zq_Tree_tabIn, zq_Tree_leafNumber, zq_Tree_addTab, cq, ct, c1, E1 F (by omega), E2 F (by omega), E3 F (by omega), E4 F (by omega), zm_ax0 hQt.2.2.2.1.1, zm_ax1 hQt.2.2.2.1.1, zm_iald (k := 0) hQt.2.2.2.1.2.1 i1, zm_iald (k := 0) hQt.2.2.2.1.2.2 i1, e1, r5, r6, nI_1]
          · simp (maxDischargeDepth := 9) [zi_get_ne, zi_nl_i, zi_nl_r, zi_get_set_eq, nl]
          · simp (maxDischargeDepth := 9) [zi_get_ne, zi_nl_i, zi_nl_r, zi_get_set_eq, nl, g0]
          · simp (maxDischargeDepth := 9) [zi_get_ne, zi_nl_i, zi_nl_r, zi_get_set_eq, nl, g1]
          · simp (maxDischargeDepth := 9) [zi_get_ne, zi_nl_i, zi_nl_r, zi_get_set_eq, nl, g2]
          · simp (maxDischargeDepth := 9) [zi_get_ne, zi_nl_i, zi_nl_r, zi_get_set_eq, nl, g3]
        · rintro L _ ⟨-, nl, g0, g1, g2, g3, g4, ξ, rfl, hA, hq⟩
          obtain ⟨hQξ, hrξ⟩ := zt_AD_C hA hd hQ
          have etb : S.filter (fun v => decide (ξ (Q + 3) v = nI l)) = zt_tb μ Q S l := by
            unfold zt_tb
            rw [hrξ (Q + 3) (by omega) (by omega)]
          obtain ⟨N1, E1⟩ := ze_Tree_tabsIn (μ := ξ) (D + 2) hQt hQξ.1 (nI l)
          rw [etb] at E1
          rw [List.take_length] at hA
          obtain ⟨lq, cq⟩ := zt_c (μ := ξ) hQt
          refine ⟨L, zm_mk ξ, ⟨N1, 5, fun F m hF => ?_⟩, nl, g0, g1, g2, ξ, rfl, hA⟩
          simp [zg_0, zg_aaload, zg_aload_n, zg_getfield, zg_goto, zg_iaload, zg_iconst, zg_if_icmp, zg_iinc, zg_iload, zg_iload_n, zg_invokevirtual, zg_istore, zg_istore_n, zg_return, zf_X3_addAllTabs, zi_ld, zi_lda, zi_cmp, zi_retOk, zi_isI, zi_f3, zi_cr, zi_ci, zi_cn, g0, g1, g2, g3, g4, zq_Tree_tabsIn, cq, E1 F (by omega)]
      obtain ⟨L', h', S1, nl', g0', g1', g2', ξ, rfl, hA'⟩ := inner
      refine ⟨zi_set L' 2 (.int (nI (i0 + 1))), zm_mk ξ, ?_, by omega, ?_, ?_, ?_, zi_get_set_eq, ξ, rfl, by rw [hft]; exact hA'⟩
      · refine ze_S.trans (p2 := 19) (L2 := zi_set (zi_set L 3 (.int (nI l))) 4 (.int (nI 0))) (s2 := []) (h2 := zm_mk ν) ⟨N1 + N2, 10, fun F m hF => ?_⟩ (S1.trans ⟨0, 2, fun F m hF => ?_⟩)
        · obtain ⟨l1, c1⟩ := zt_c (μ := ν) hQt
          have c2 : ¬ nI (zy_lvs u).length ≤ nI i0 := nI_ge hi0 (by omega)
          simp (maxDischargeDepth := 9) [zg_0, zg_aaload, zg_aload_n, zg_getfield, zg_goto, zg_iaload, zg_iconst, zg_if_icmp, zg_iinc, zg_iload, zg_iload_n, zg_invokevirtual, zg_istore, zg_istore_n, zg_return, zf_X3_addAllTabs, zi_ld, zi_lda, zi_cmp, zi_retOk, zi_isI, zi_f3, zi_cr, zi_ci, zi_cn, zi_get_ne, zi_nl_i, zi_nl_r, zi_get_set_eq, nl, g0, g1, g2, zq_Tree_leaves, zq_Tree_leafNumber, c1, c2, E1 F (by omega), E2 F (by omega), nI_0]
        · simp [zg_0, zg_aaload, zg_aload_n, zg_getfield, zg_goto, zg_iaload, zg_iconst, zg_if_icmp, zg_iinc, zg_iload, zg_iload_n, zg_invokevirtual, zg_istore, zg_istore_n, zg_return, zf_X3_addAllTabs, zi_ld, zi_lda, zi_cmp, zi_retOk, zi_isI, zi_f3, zi_cr, zi_ci, zi_cn, g2', nI_1]
      · have nl := nl'
        simp (maxDischargeDepth := 9) [zi_get_ne, zi_nl_i, zi_nl_r, zi_get_set_eq, nl]
      · have nl := nl'
        simp (maxDischargeDepth := 9) [zi_get_ne, zi_nl_i, zi_nl_r, zi_get_set_eq, nl, g0']
      · have nl := nl'
        simp (maxDischargeDepth := 9) [zi_get_ne, zi_nl_i, zi_nl_r, zi_get_set_eq, nl, g1']
    · rintro L _ ⟨-, nl, g0, g1, g2, ν, rfl, hA⟩
      obtain ⟨hQν, hrQ⟩ := zt_AD_C hA hd hQ
      obtain ⟨N1, E1⟩ := ze_Tree_leaves (μ := ν) (D + 3) hQt
      rw [hrQ Q (by omega) (by omega), hnl] at E1
      rw [List.take_length] at hA
      refine ⟨none, zm_mk ν, ⟨N1, 5, fun F m hF => ?_⟩, rfl, ν, rfl, hA⟩
      obtain ⟨l1, c1⟩ := zt_c (μ := ν) hQt
      simp [zg_0, zg_aaload, zg_aload_n, zg_getfield, zg_goto, zg_iaload, zg_iconst, zg_if_icmp, zg_iinc, zg_iload, zg_iload_n, zg_invokevirtual, zg_istore, zg_istore_n, zg_return, zf_X3_addAllTabs, zi_ld, zi_lda, zi_cmp, zi_retOk, zi_isI, zi_f3, zi_cr, zi_ci, zi_cn, g1, g2, zq_Tree_leaves, c1, E1 F (by omega)]
    · refine ⟨(zy_lvs t).getD 0 0, ?_, fun _ _ => rfl, fun _ => rfl, fun v => ?_, fun v => ?_, fun v => ?_, fun i => ?_, rfl, fun i => ?_⟩
      · have : zy_ad emp t [] ((zy_lvs t).getD 0 0) = t := by
          unfold zy_ad
          rw [if_neg (fun q => q.2 rfl)]
        rw [List.take_zero, List.flatMap_nil, this, List.append_nil]
        exact hC
      · rw [List.take_zero, List.flatMap_nil, if_neg List.not_mem_nil]
      · rw [List.take_zero, List.flatMap_nil, if_neg List.not_mem_nil]
      · rw [List.take_zero, List.flatMap_nil, if_neg List.not_mem_nil]
      · rw [List.take_zero, List.flatMap_nil, if_neg (fun q => q.1.2 rfl)]
      · rw [List.take_zero, List.flatMap_nil, if_neg (fun q => q.1.2 rfl)]
  obtain ⟨r, h', G, rfl, ν, rfl, hA⟩ := key
  refine ⟨ν, ze_in [(0, .ref (T + 1)), (1, .ref (Q + 1))] zq_Tree_addAllTabs (Nat.le_of_ble_eq_true rfl) rfl (ze_S.end ⟨0, 2, fun F m hF => ?_⟩ G), hA⟩
  simp [zg_0, zg_aaload, zg_aload_n, zg_getfield, zg_goto, zg_iaload, zg_iconst, zg_if_icmp, zg_iinc, zg_iload, zg_iload_n, zg_invokevirtual, zg_istore, zg_istore_n, zg_return, zf_X3_addAllTabs, zi_ld, zi_lda, zi_cmp, zi_retOk, zi_isI, zi_f3, zi_cr, zi_ci, zi_cn, zi_get, zi_set, nI_0]
end ZAA
end
section
/-! Tree.neighbourTo, shownAt -/
set_option maxRecDepth 100000 in
theorem ze_axisOf {h : zi_Hp} (D : Nat) {s : Nat} (hs : s < 4) : ze_E (D + 1) A_Desk_axisOf [.int (nI s)] h (some (.int (nI (s / 2)))) h := by
  refine ze_in [(0, .int (nI s))] zq_Desk_axisOf (Nat.le_of_ble_eq_true rfl) rfl ⟨0, 7, fun F n hF => ?_⟩
  have h0 : nI 0 = 0 := nI_0
  have h1 : nI 1 = 1 := by decide
  match s, hs with
  | 0, _ => have c : ¬ (2 : Int32) ≤ nI 0 := by decide
            simp [zg_0, zg_goto, zg_iconst, zg_if_icmp, zg_iload_n, zg_ireturn, zf_X5_axisOf, zi_ld, zi_lda, zi_cmp, zi_retOk, zi_isI, zi_f3, zi_cr, zi_ci, zi_cn, zi_get, c, h0]
  | 1, _ => have c : ¬ (2 : Int32) ≤ nI 1 := by decide
            simp [zg_0, zg_goto, zg_iconst, zg_if_icmp, zg_iload_n, zg_ireturn, zf_X5_axisOf, zi_ld, zi_lda, zi_cmp, zi_retOk, zi_isI, zi_f3, zi_cr, zi_ci, zi_cn, zi_get, c, h0]
  | 2, _ => have c : (2 : Int32) ≤ nI 2 := by decide
            simp [zg_0, zg_goto, zg_iconst, zg_if_icmp, zg_iload_n, zg_ireturn, zf_X5_axisOf, zi_ld, zi_lda, zi_cmp, zi_retOk, zi_isI, zi_f3, zi_cr, zi_ci, zi_cn, zi_get, c, h1]
  | 3, _ => have c : (2 : Int32) ≤ nI 3 := by decide
            simp [zg_0, zg_goto, zg_iconst, zg_if_icmp, zg_iload_n, zg_ireturn, zf_X5_axisOf, zi_ld, zi_lda, zi_cmp, zi_retOk, zi_isI, zi_f3, zi_cr, zi_ci, zi_cn, zi_get, c, h1]
set_option maxRecDepth 100000 in
theorem ze_isAfter {h : zi_Hp} (D : Nat) {s : Nat} (hs : s < 4) : ze_E (D + 1) A_Desk_isAfter [.int (nI s)] h (some (.int (zb (s % 2 = 1)))) h := by
  refine ze_in [(0, .int (nI s))] zq_Desk_isAfter (Nat.le_of_ble_eq_true rfl) rfl ⟨0, 12, fun F n hF => ?_⟩
  have z : ¬ (2 : Int32) = 0 := by decide
  match s, hs with
  | 0, _ => have c : ¬ (nI 0 - nI 0 / 2 * 2) = 1 := by decide
            simp [zg_0, zg_goto, zg_iconst, zg_if_icmp, zg_iload_n, zg_irem, zg_ireturn, zf_X5_isAfter, zi_ld, zi_lda, zi_cmp, zi_retOk, zi_isI, zi_f3, zi_cr, zi_ci, zi_cn, zi_get, z, c, zb]
  | 1, _ => have c : (nI 1 - nI 1 / 2 * 2) = 1 := by decide
            simp [zg_0, zg_goto, zg_iconst, zg_if_icmp, zg_iload_n, zg_irem, zg_ireturn, zf_X5_isAfter, zi_ld, zi_lda, zi_cmp, zi_retOk, zi_isI, zi_f3, zi_cr, zi_ci, zi_cn, zi_get, z, c, zb]
  | 2, _ => have c : ¬ (nI 2 - nI 2 / 2 * 2) = 1 := by decide
            simp [zg_0, zg_goto, zg_iconst, zg_if_icmp, zg_iload_n, zg_irem, zg_ireturn, zf_X5_isAfter, zi_ld, zi_lda, zi_cmp, zi_retOk, zi_isI, zi_f3, zi_cr, zi_ci, zi_cn, zi_get, z, c, zb]
  | 3, _ => have c : (nI 3 - nI 3 / 2 * 2) = 1 := by decide
            simp [zg_0, zg_goto, zg_iconst, zg_if_icmp, zg_iload_n, zg_irem, zg_ireturn, zf_X5_isAfter, zi_ld, zi_lda, zi_cmp, zi_retOk, zi_isI, zi_f3, zi_cr, zi_ci, zi_cn, zi_get, z, c, zb]
section ZNB
variable {T : Nat} {μ : zm_M}
/-- the other lies at the side of the window -/
noncomputable def zt_me (μ : zm_M) (T k o s : Nat) : Bool := if s % 2 = 1 then decide (zt_so μ T (s / 2) o = zt_so μ T (s / 2) k + zt_lo μ T (s / 2) k) else decide (zt_so μ T (s / 2) o + zt_lo μ T (s / 2) o = zt_so μ T (s / 2) k)
noncomputable def zt_cb (μ : zm_M) (T k o a : Nat) : Int32 := zi_mn (zt_so μ T a k + zt_lo μ T a k) (zt_so μ T a o + zt_lo μ T a o) - zi_mx (zt_so μ T a k) (zt_so μ T a o)
set_option maxRecDepth 100000 in
theorem ze_Tree_meets (D : Nat) (h : zt_at T) (hm : zt_hm μ T) {k o s : Nat} (hk : k < 10) (ho : o < 10) (hs : s < 4) : ze_E (D + 4) A_Tree_meets [.ref (T + 1), .int (nI k), .int (nI o), .int (nI s)] (zm_mk μ) (some (.int (zb (zt_me μ T k o s = true)))) (zm_mk μ) := by
  have ha : s / 2 < 2 := by omega
  obtain ⟨N1, E1⟩ := ze_axisOf (h := zm_mk μ) (D + 2) hs
  obtain ⟨N2, E2⟩ := ze_isAfter (h := zm_mk μ) (D + 2) hs
  obtain ⟨N3, E3⟩ := ze_Tree_startOf (μ := μ) (D + 1) h hm hk ha
  obtain ⟨N4, E4⟩ := ze_Tree_startOf (μ := μ) (D + 1) h hm ho ha
  obtain ⟨N5, E5⟩ := ze_Tree_endOf (μ := μ) D h hm hk ha
  obtain ⟨N6, E6⟩ := ze_Tree_endOf (μ := μ) D h hm ho ha
  obtain ⟨lc, hc⟩ := zt_c (μ := μ) h
  refine ze_in [(0, .ref (T + 1)), (1, .int (nI k)), (2, .int (nI o)), (3, .int (nI s))] zq_Tree_meets (Nat.le_of_ble_eq_true rfl) rfl ⟨N1 + N2 + N3 + N4 + N5 + N6, 24, fun F n hF => ?_⟩
  by_cases c : s % 2 = 1
  · have ez : zb (s % 2 = 1) = 1 := if_pos c
    rw [ez] at E2
    by_cases c2 : zt_so μ T (s / 2) o = zt_so μ T (s / 2) k + zt_lo μ T (s / 2) k
    · have er : zb (zt_me μ T k o s = true) = 1 := if_pos (by unfold zt_me; rw [if_pos c]; simpa using c2)
      simp [zg_0, zg_aload_n, zg_goto, zg_iconst, zg_ifCond, zg_if_icmp, zg_iload, zg_iload_n, zg_invokestatic, zg_invokevirtual, zg_ireturn, zg_istore, zf_X3_meets, zi_ld, zi_lda, zi_cmp, zi_retOk, zi_isI, zi_f3, zi_cr, zi_ci, zi_cn, zi_get, zi_set, zq_Desk_axisOf, zq_Desk_isAfter, zq_Tree_startOf, zq_Tree_endOf, hc, E1 F (by omega), E2 F (by omega), E4 F (by omega), E5 F (by omega), c2, er]
    · have er : zb (zt_me μ T k o s = true) = 0 := if_neg (by unfold zt_me; rw [if_pos c]; simpa using c2)
      simp [zg_0, zg_aload_n, zg_goto, zg_iconst, zg_ifCond, zg_if_icmp, zg_iload, zg_iload_n, zg_invokestatic, zg_invokevirtual, zg_ireturn, zg_istore, zf_X3_meets, zi_ld, zi_lda, zi_cmp, zi_retOk, zi_isI, zi_f3, zi_cr, zi_ci, zi_cn, zi_get, zi_set, zq_Desk_axisOf, zq_Desk_isAfter, zq_Tree_startOf, zq_Tree_endOf, hc, E1 F (by omega), E2 F (by omega), E4 F (by omega), E5 F (by omega), c2, er]
  · have ez : zb (s % 2 = 1) = 0 := if_neg c
    rw [ez] at E2
    by_cases c2 : zt_so μ T (s / 2) o + zt_lo μ T (s / 2) o = zt_so μ T (s / 2) k
    · have er : zb (zt_me μ T k o s = true) = 1 := if_pos (by unfold zt_me; rw [if_neg c]; simpa using c2)
      simp [zg_0, zg_aload_n, zg_goto, zg_iconst, zg_ifCond, zg_if_icmp, zg_iload, zg_iload_n, zg_invokestatic, zg_invokevirtual, zg_ireturn, zg_istore, zf_X3_meets, zi_ld, zi_lda, zi_cmp, zi_retOk, zi_isI, zi_f3, zi_cr, zi_ci, zi_cn, zi_get, zi_set, zq_Desk_axisOf, zq_Desk_isAfter, zq_Tree_startOf, zq_Tree_endOf, hc, E1 F (by omega), E2 F (by omega), E3 F (by omega), E6 F (by omega), c2, er]
    · have er : zb (zt_me μ T k o s = true) = 0 := if_neg (by unfold zt_me; rw [if_neg c]; simpa using c2)
      simp [zg_0, zg_aload_n, zg_goto, zg_iconst, zg_ifCond, zg_if_icmp, zg_iload, zg_iload_n, zg_invokestatic, zg_invokevirtual, zg_ireturn, zg_istore, zf_X3_meets, zi_ld, zi_lda, zi_cmp, zi_retOk, zi_isI, zi_f3, zi_cr, zi_ci, zi_cn, zi_get, zi_set, zq_Desk_axisOf, zq_Desk_isAfter, zq_Tree_startOf, zq_Tree_endOf, hc, E1 F (by omega), E2 F (by omega), E3 F (by omega), E6 F (by omega), c2, er]
end ZNB
end
section
/-! Tree.commonBorder -/
set_option maxRecDepth 100000 in
theorem ze_border_3 (mx mn : Int32) (T k o a : Nat) (h : zi_Hp) (D : Nat) : ze_G (D + 3) 5 (some .int) zc_X3_commonBorder 32 [(4, .int mx), (0, .ref (T + 1)), (1, .int (nI k)), (2, .int (nI o)), (3, .int (nI a))] [.int mn] h (some (.int (mn - mx))) h := by
  refine ⟨0, 3, fun F n hF => ?_⟩
  simp [zg_0, zg_aload_n, zg_iload, zg_iload_n, zg_invokestatic, zg_invokevirtual, zg_ireturn, zg_istore, zg_isub, zf_X3_commonBorder, zi_ld, zi_lda, zi_cmp, zi_retOk, zi_isI, zi_f3, zi_cr, zi_ci, zi_cn, zi_get, zi_set]
section ZNB
variable {T : Nat} {μ : zm_M}
set_option maxRecDepth 100000 in
theorem ze_Tree_commonBorder (D : Nat) (h : zt_at T) (hm : zt_hm μ T) {k o a : Nat} (hk : k < 10) (ho : o < 10) (ha : a < 2) : ze_E (D + 4) A_Tree_commonBorder [.ref (T + 1), .int (nI k), .int (nI o), .int (nI a)] (zm_mk μ) (some (.int (zt_cb μ T k o a))) (zm_mk μ) := by
  obtain ⟨N3, E3⟩ := ze_Tree_startOf (μ := μ) (D + 1) h hm hk ha
  obtain ⟨N4, E4⟩ := ze_Tree_startOf (μ := μ) (D + 1) h hm ho ha
  obtain ⟨N5, E5⟩ := ze_Tree_endOf (μ := μ) D h hm hk ha
  obtain ⟨N6, E6⟩ := ze_Tree_endOf (μ := μ) D h hm ho ha
  obtain ⟨N1, E1⟩ := ze_max (h := zm_mk μ) (D + 2) (zt_so μ T a k) (zt_so μ T a o)
  obtain ⟨N2, E2⟩ := ze_min (h := zm_mk μ) (D + 2) (zt_so μ T a k + zt_lo μ T a k) (zt_so μ T a o + zt_lo μ T a o)
  obtain ⟨lc, hc⟩ := zt_c (μ := μ) h
  have S3 := ze_border_3 (zi_mx (zt_so μ T a k) (zt_so μ T a o)) (zi_mn (zt_so μ T a k + zt_lo μ T a k) (zt_so μ T a o + zt_lo μ T a o)) T k o a (zm_mk μ) D
  rw [show zi_mn (zt_so μ T a k + zt_lo μ T a k) (zt_so μ T a o + zt_lo μ T a o) - zi_mx (zt_so μ T a k) (zt_so μ T a o) = zt_cb μ T k o a from (zt_cb.eq_1 μ T k o a).symm] at S3
  generalize zt_cb μ T k o a = cb at S3
  generalize zi_mx (zt_so μ T a k) (zt_so μ T a o) = mx at S3 E1
  generalize zi_mn (zt_so μ T a k + zt_lo μ T a k) (zt_so μ T a o + zt_lo μ T a o) = mn at S3 E2
  have S1 : ze_S (D + 3) 5 (some .int) zc_X3_commonBorder 0 [(0, .ref (T + 1)), (1, .int (nI k)), (2, .int (nI o)), (3, .int (nI a))] [] (zm_mk μ) 17 [(4, .int mx), (0, .ref (T + 1)), (1, .int (nI k)), (2, .int (nI o)), (3, .int (nI a))] [] (zm_mk μ) := by
    refine ⟨N1 + N3 + N4, 10, fun F n hF => ?_⟩
    simp [zg_0, zg_aload_n, zg_iload, zg_iload_n, zg_invokestatic, zg_invokevirtual, zg_ireturn, zg_istore, zg_isub, zf_X3_commonBorder, zi_ld, zi_lda, zi_cmp, zi_retOk, zi_isI, zi_f3, zi_cr, zi_ci, zi_cn, zi_get, zi_set, zq_Math_max, zq_Tree_startOf, hc, E1 F (by omega), E3 F (by omega), E4 F (by omega)]
  have S2 : ze_S (D + 3) 5 (some .int) zc_X3_commonBorder 17 [(4, .int mx), (0, .ref (T + 1)), (1, .int (nI k)), (2, .int (nI o)), (3, .int (nI a))] [] (zm_mk μ) 32 [(4, .int mx), (0, .ref (T + 1)), (1, .int (nI k)), (2, .int (nI o)), (3, .int (nI a))] [.int mn] (zm_mk μ) := by
    refine ⟨N2 + N5 + N6, 9, fun F n hF => ?_⟩
    simp [zg_0, zg_aload_n, zg_iload, zg_iload_n, zg_invokestatic, zg_invokevirtual, zg_ireturn, zg_istore, zg_isub, zf_X3_commonBorder, zi_ld, zi_lda, zi_cmp, zi_retOk, zi_isI, zi_f3, zi_cr, zi_ci, zi_cn, zi_get, zi_set, zq_Math_min, zq_Tree_endOf, hc, E2 F (by omega), E5 F (by omega), E6 F (by omega)]
  exact ze_in [(0, .ref (T + 1)), (1, .int (nI k)), (2, .int (nI o)), (3, .int (nI a))] zq_Tree_commonBorder (Nat.le_of_ble_eq_true rfl) rfl ((S1.trans S2).end S3)
end ZNB
end
section
/-! Tree.neighbourTo -/
section ZNB
variable {T : Nat} {μ : zm_M}
/-- the one with the longest border, the least number first -/
noncomputable def zl_nb (f : Nat → Int32) : List Nat → Int32 → Int32 → Int32
  | [], b, _ => b
  | i :: l, b, m => if m < f i then zl_nb f l (nI i) (f i) else zl_nb f l b m
noncomputable def zt_nf (μ : zm_M) (T k s o : Nat) : Int32 := if (¬ μ (T + 3) o < 0 ∧ μ (T + 12) (μ (T + 3) o).toNatClampNeg = nI o) ∧ zt_me μ T k o s = true then zt_cb μ T k o (1 - s / 2) else 0
theorem zl_range {n i : Nat} (h : i < n) : (List.range n).getD i 0 = i := by
  rw [List.getD_eq_getElem?_getD, List.getElem?_range h]
  rfl
theorem zl_drop10 {i : Nat} (h : i < 10) : (List.range 10).drop i = i :: (List.range 10).drop (i + 1) := by
  have := zl_drop (l := List.range 10) (i := i) (by rw [List.length_range]; exact h)
  rw [zl_range h] at this
  exact this
theorem zl_drop10' : (List.range 10).drop 10 = [] := rfl
set_option maxRecDepth 100000 in
theorem ze_Tree_neighbourTo (D : Nat) (h : zt_at T) (hm : zt_hm μ T) {k s : Nat} (hk : k < 10) (hs : s < 4) : ze_E (D + 5) A_Tree_neighbourTo [.ref (T + 1), .int (nI k), .int (nI s)] (zm_mk μ) (some (.int (zl_nb (zt_nf μ T k s) (List.range 10) (-1000000005) 0))) (zm_mk μ) := by
  have ha : s / 2 < 2 := by omega
  have h10 : (Int8.ofInt 10).toInt32 = (10 : Int32) := by decide
  have hax : (1 : Int32) - nI (s / 2) = nI (1 - s / 2) := by
    rcases (by omega : s / 2 = 0 ∨ s / 2 = 1) with e | e <;> rw [e] <;> decide
  have key : ∃ r h', ze_G (D + 4) 8 (some .int) zc_X3_neighbourTo 9 [(5, .int (nI 0)), (4, .int 0), (3, .int (-1000000005)), (0, .ref (T + 1)), (1, .int (nI k)), (2, .int (nI s))] [] (zm_mk μ) r h' ∧ (r = some (.int (zl_nb (zt_nf μ T k s) (List.range 10) (-1000000005) 0)) ∧ zm_mk μ = h') := by
    refine ze_loop (Q := fun i L hp => i ≤ 10 ∧ zi_nl L = true ∧ zi_get L 0 = some (.ref (T + 1)) ∧ zi_get L 1 = some (.int (nI k)) ∧ zi_get L 2 = some (.int (nI s)) ∧ zi_get L 5 = some (.int (nI i)) ∧ zm_mk μ = hp ∧ ∃ (b : Int32) (v : Int32), zi_get L 3 = some (.int b) ∧ zi_get L 4 = some (.int v) ∧ (zl_nb (zt_nf μ T k s) (List.range 10) (-1000000005) 0 = zl_nb (zt_nf μ T k s) ((List.range 10).drop i) b v)) (R := fun r h' => r = some (.int (zl_nb (zt_nf μ T k s) (List.range 10) (-1000000005) 0)) ∧ zm_mk μ = h') 10 ?_ ?_ 10 0 _ _ (by omega) ⟨by omega, rfl, rfl, rfl, rfl, rfl, rfl, -1000000005, 0, rfl, rfl, rfl⟩
    · rintro i L _ hi ⟨-, nl, g0, g1, g2, g5, rfl, b, v, g3, g4, hq⟩
      rw [zl_drop10 hi] at hq
      have hq' : zl_nb (zt_nf μ T k s) (List.range 10) (-1000000005) 0 = if v < zt_nf μ T k s i then zl_nb (zt_nf μ T k s) ((List.range 10).drop (i + 1)) (nI i) (zt_nf μ T k s i) else zl_nb (zt_nf μ T k s) ((List.range 10).drop (i + 1)) b v := hq
      have c1 : ¬ (10 : Int32) ≤ nI i := nI_ge (b := 10) hi (by decide)
      obtain ⟨N1, E1⟩ := ze_Tree_isShown (μ := μ) (D + 2) h hm hi
      obtain ⟨N2, E2⟩ := ze_Tree_meets (μ := μ) D h hm hk hi hs
      obtain ⟨N3, E3⟩ := ze_axisOf (h := zm_mk μ) (D + 3) hs
      obtain ⟨N4, E4⟩ := ze_Tree_commonBorder (μ := μ) (a := 1 - s / 2) D h hm hk hi (by omega)
      obtain ⟨lc, hc⟩ := zt_c (μ := μ) h
      by_cases c2 : ¬ μ (T + 3) i < 0 ∧ μ (T + 12) (μ (T + 3) i).toNatClampNeg = nI i
      · have z1 : zb (¬ μ (T + 3) i < 0 ∧ μ (T + 12) (μ (T + 3) i).toNatClampNeg = nI i) = 1 := if_pos c2
        rw [z1] at E1
        by_cases c3 : zt_me μ T k i s = true
        · have z2 : zb (zt_me μ T k i s = true) = 1 := if_pos c3
          rw [z2] at E2
          have ef : zt_nf μ T k s i = zt_cb μ T k i (1 - s / 2) := if_pos ⟨c2, c3⟩
          rw [ef] at hq'
          by_cases c4 : v < zt_cb μ T k i (1 - s / 2)
          · rw [if_pos c4] at hq'
            have c4' : ¬ zt_cb μ T k i (1 - s / 2) ≤ v := Int32.not_le.mpr c4
            left
            refine ⟨zi_set (zi_set (zi_set (zi_set (zi_set L 6 (.int 1)) 7 (.int (zt_cb μ T k i (1 - s / 2)))) 3 (.int (nI i))) 4 (.int (zt_cb μ T k i (1 - s / 2)))) 5 (.int (nI (i + 1))), zm_mk μ, ⟨N1 + N2 + N3 + N4, 37, fun F m hF => ?_⟩, by omega, ?_, ?_, ?_, ?_, zi_get_set_eq, rfl, nI i, zt_cb μ T k i (1 - s / 2), ?_, ?_, hq'⟩
            · simp (maxDischargeDepth := 9) [zg_0, zg_aload_n, zg_bipush, zg_goto, zg_iconst, zg_ifCond, zg_if_icmp, zg_iinc, zg_iload, zg_iload_n, zg_invokestatic, zg_invokevirtual, zg_ireturn, zg_istore, zg_istore_n, zg_isub, zg_ldc, zf_X3_neighbourTo, zi_ld, zi_lda, zi_cmp, zi_retOk, zi_isI, zi_f3, zi_cr, zi_ci, zi_cn, zi_get_ne, zi_nl_i, zi_nl_r, zi_get_set_eq, nl, g0, g1, g2, g5, g3, g4, h10, c1, zq_Tree_isShown, zq_Tree_meets, zq_Desk_axisOf, zq_Tree_commonBorder, hc, E1 F (by omega), E2 F (by omega), E3 F (by omega), hax, E4 F (by omega), c4', nI_1]
            · simp (maxDischargeDepth := 9) [zi_get_ne, zi_nl_i, zi_nl_r, zi_get_set_eq, nl]
            · simp (maxDischargeDepth := 9) [zi_get_ne, zi_nl_i, zi_nl_r, zi_get_set_eq, nl, g0]
            · simp (maxDischargeDepth := 9) [zi_get_ne, zi_nl_i, zi_nl_r, zi_get_set_eq, nl, g1]
            · simp (maxDischargeDepth := 9) [zi_get_ne, zi_nl_i, zi_nl_r, zi_get_set_eq, nl, g2]
            · simp (maxDischargeDepth := 9) [zi_get_ne, zi_nl_i, zi_nl_r, zi_get_set_eq, nl, g3]
            · simp (maxDischargeDepth := 9) [zi_get_ne, zi_nl_i, zi_nl_r, zi_get_set_eq, nl, g4]
          · rw [if_neg c4] at hq'
            have c4' : zt_cb μ T k i (1 - s / 2) ≤ v := Int32.not_lt.mp c4
            left
            refine ⟨zi_set (zi_set (zi_set L 6 (.int 1)) 7 (.int (zt_cb μ T k i (1 - s / 2)))) 5 (.int (nI (i + 1))), zm_mk μ, ⟨N1 + N2 + N3 + N4, 33, fun F m hF => ?_⟩, by omega, ?_, ?_, ?_, ?_, zi_get_set_eq, rfl, b, v, ?_, ?_, hq'⟩
            · simp (maxDischargeDepth := 9) [zg_0, zg_aload_n, zg_bipush, zg_goto, zg_iconst, zg_ifCond, zg_if_icmp, zg_iinc, zg_iload, zg_iload_n, zg_invokestatic, zg_invokevirtual, zg_ireturn, zg_istore, zg_istore_n, zg_isub, zg_ldc, zf_X3_neighbourTo, zi_ld, zi_lda, zi_cmp, zi_retOk, zi_isI, zi_f3, zi_cr, zi_ci, zi_cn, zi_get_ne, zi_nl_i, zi_nl_r, zi_get_set_eq, nl, g0, g1, g2, g5, g3, g4, h10, c1, zq_Tree_isShown, zq_Tree_meets, zq_Desk_axisOf, zq_Tree_commonBorder, hc, E1 F (by omega), E2 F (by omega), E3 F (by omega), hax, E4 F (by omega), c4', nI_1]
            · simp (maxDischargeDepth := 9) [zi_get_ne, zi_nl_i, zi_nl_r, zi_get_set_eq, nl]
            · simp (maxDischargeDepth := 9) [zi_get_ne, zi_nl_i, zi_nl_r, zi_get_set_eq, nl, g0]
            · simp (maxDischargeDepth := 9) [zi_get_ne, zi_nl_i, zi_nl_r, zi_get_set_eq, nl, g1]
            · simp (maxDischargeDepth := 9) [zi_get_ne, zi_nl_i, zi_nl_r, zi_get_set_eq, nl, g2]
            · simp (maxDischargeDepth := 9) [zi_get_ne, zi_nl_i, zi_nl_r, zi_get_set_eq, nl, g3]
            · simp (maxDischargeDepth := 9) [zi_get_ne, zi_nl_i, zi_nl_r, zi_get_set_eq, nl, g4]
        · have z2 : zb (zt_me μ T k i s = true) = 0 := if_neg c3
          rw [z2] at E2
          have ef : zt_nf μ T k s i = 0 := if_neg (fun q => c3 q.2)
          rw [ef] at hq'
          by_cases c4 : v < 0
          · rw [if_pos c4] at hq'
            have c4' : ¬ (0 : Int32) ≤ v := Int32.not_le.mpr c4
            left
            refine ⟨zi_set (zi_set (zi_set (zi_set (zi_set L 6 (.int 0)) 7 (.int 0)) 3 (.int (nI i))) 4 (.int 0)) 5 (.int (nI (i + 1))), zm_mk μ, ⟨N1 + N2 + N3 + N4, 28, fun F m hF => ?_⟩, by omega, ?_, ?_, ?_, ?_, zi_get_set_eq, rfl, nI i, 0, ?_, ?_, hq'⟩
            · simp (maxDischargeDepth := 9) [zg_0, zg_aload_n, zg_bipush, zg_goto, zg_iconst, zg_ifCond, zg_if_icmp, zg_iinc, zg_iload, zg_iload_n, zg_invokestatic, zg_invokevirtual, zg_ireturn, zg_istore, zg_istore_n, zg_isub, zg_ldc, zf_X3_neighbourTo, zi_ld, zi_lda, zi_cmp, zi_retOk, zi_isI, zi_f3, zi_cr, zi_ci, zi_cn, zi_get_ne, zi_nl_i, zi_nl_r, zi_get_set_eq, nl, g0, g1, g2, g5, g3, g4, h10, c1, zq_Tree_isShown, zq_Tree_meets, hc, E1 F (by omega), E2 F (by omega), c4', nI_1]
            · simp (maxDischargeDepth := 9) [zi_get_ne, zi_nl_i, zi_nl_r, zi_get_set_eq, nl]
            · simp (maxDischargeDepth := 9) [zi_get_ne, zi_nl_i, zi_nl_r, zi_get_set_eq, nl, g0]
            · simp (maxDischargeDepth := 9) [zi_get_ne, zi_nl_i, zi_nl_r, zi_get_set_eq, nl, g1]
            · simp (maxDischargeDepth := 9) [zi_get_ne, zi_nl_i, zi_nl_r, zi_get_set_eq, nl, g2]
            · simp (maxDischargeDepth := 9) [zi_get_ne, zi_nl_i, zi_nl_r, zi_get_set_eq, nl, g3]
            · simp (maxDischargeDepth := 9) [zi_get_ne, zi_nl_i, zi_nl_r, zi_get_set_eq, nl, g4]
          · rw [if_neg c4] at hq'
            have c4' : (0 : Int32) ≤ v := Int32.not_lt.mp c4
            left
            refine ⟨zi_set (zi_set (zi_set L 6 (.int 0)) 7 (.int 0)) 5 (.int (nI (i + 1))), zm_mk μ, ⟨N1 + N2 + N3 + N4, 24, fun F m hF => ?_⟩, by omega, ?_, ?_, ?_, ?_, zi_get_set_eq, rfl, b, v, ?_, ?_, hq'⟩
            · simp (maxDischargeDepth := 9) [zg_0, zg_aload_n, zg_bipush, zg_goto, zg_iconst, zg_ifCond, zg_if_icmp, zg_iinc, zg_iload, zg_iload_n, zg_invokestatic, zg_invokevirtual, zg_ireturn, zg_istore, zg_istore_n, zg_isub, zg_ldc, zf_X3_neighbourTo, zi_ld, zi_lda, zi_cmp, zi_retOk, zi_isI, zi_f3, zi_cr, zi_ci, zi_cn, zi_get_ne, zi_nl_i, zi_nl_r, zi_get_set_eq, nl, g0, g1, g2, g5, g3, g4, h10, c1, zq_Tree_isShown, zq_Tree_meets, hc, E1 F (by omega), E2 F (by omega), c4', nI_1]
            · simp (maxDischargeDepth := 9) [zi_get_ne, zi_nl_i, zi_nl_r, zi_get_set_eq, nl]
            · simp (maxDischargeDepth := 9) [zi_get_ne, zi_nl_i, zi_nl_r, zi_get_set_eq, nl, g0]
            · simp (maxDischargeDepth := 9) [zi_get_ne, zi_nl_i, zi_nl_r, zi_get_set_eq, nl, g1]
            · simp (maxDischargeDepth := 9) [zi_get_ne, zi_nl_i, zi_nl_r, zi_get_set_eq, nl, g2]
            · simp (maxDischargeDepth := 9) [zi_get_ne, zi_nl_i, zi_nl_r, zi_get_set_eq, nl, g3]
            · simp (maxDischargeDepth := 9) [zi_get_ne, zi_nl_i, zi_nl_r, zi_get_set_eq, nl, g4]
      · have z1 : zb (¬ μ (T + 3) i < 0 ∧ μ (T + 12) (μ (T + 3) i).toNatClampNeg = nI i) = 0 := if_neg c2
        rw [z1] at E1
        have ef : zt_nf μ T k s i = 0 := if_neg (fun q => c2 q.1)
        rw [ef] at hq'
        by_cases c4 : v < 0
        · rw [if_pos c4] at hq'
          have c4' : ¬ (0 : Int32) ≤ v := Int32.not_le.mpr c4
          left
          refine ⟨zi_set (zi_set (zi_set (zi_set (zi_set L 6 (.int 0)) 7 (.int 0)) 3 (.int (nI i))) 4 (.int 0)) 5 (.int (nI (i + 1))), zm_mk μ, ⟨N1 + N2 + N3 + N4, 22, fun F m hF => ?_⟩, by omega, ?_, ?_, ?_, ?_, zi_get_set_eq, rfl, nI i, 0, ?_, ?_, hq'⟩
          · simp (maxDischargeDepth := 9) [zg_0, zg_aload_n, zg_bipush, zg_goto, zg_iconst, zg_ifCond, zg_if_icmp, zg_iinc, zg_iload, zg_iload_n, zg_invokestatic, zg_invokevirtual, zg_ireturn, zg_istore, zg_istore_n, zg_isub, zg_ldc, zf_X3_neighbourTo, zi_ld, zi_lda, zi_cmp, zi_retOk, zi_isI, zi_f3, zi_cr, zi_ci, zi_cn, zi_get_ne, zi_nl_i, zi_nl_r, zi_get_set_eq, nl, g0, g1, g2, g5, g3, g4, h10, c1, zq_Tree_isShown, hc, E1 F (by omega), c4', nI_1]
          · simp (maxDischargeDepth := 9) [zi_get_ne, zi_nl_i, zi_nl_r, zi_get_set_eq, nl]
          · simp (maxDischargeDepth := 9) [zi_get_ne, zi_nl_i, zi_nl_r, zi_get_set_eq, nl, g0]
          · simp (maxDischargeDepth := 9) [zi_get_ne, zi_nl_i, zi_nl_r, zi_get_set_eq, nl, g1]
          · simp (maxDischargeDepth := 9) [zi_get_ne, zi_nl_i, zi_nl_r, zi_get_set_eq, nl, g2]
          · simp (maxDischargeDepth := 9) [zi_get_ne, zi_nl_i, zi_nl_r, zi_get_set_eq, nl, g3]
          · simp (maxDischargeDepth := 9) [zi_get_ne, zi_nl_i, zi_nl_r, zi_get_set_eq, nl, g4]
        · rw [if_neg c4] at hq'
          have c4' : (0 : Int32) ≤ v := Int32.not_lt.mp c4
          left
          refine ⟨zi_set (zi_set (zi_set L 6 (.int 0)) 7 (.int 0)) 5 (.int (nI (i + 1))), zm_mk μ, ⟨N1 + N2 + N3 + N4, 18, fun F m hF => ?_⟩, by omega, ?_, ?_, ?_, ?_, zi_get_set_eq, rfl, b, v, ?_, ?_, hq'⟩
          · simp (maxDischargeDepth := 9) [zg_0, zg_aload_n, zg_bipush, zg_goto, zg_iconst, zg_ifCond, zg_if_icmp, zg_iinc, zg_iload, zg_iload_n, zg_invokestatic, zg_invokevirtual, zg_ireturn, zg_istore, zg_istore_n, zg_isub, zg_ldc, zf_X3_neighbourTo, zi_ld, zi_lda, zi_cmp, zi_retOk, zi_isI, zi_f3, zi_cr, zi_ci, zi_cn, zi_get_ne, zi_nl_i, zi_nl_r, zi_get_set_eq, nl, g0, g1, g2, g5, g3, g4, h10, c1, zq_Tree_isShown, hc, E1 F (by omega), c4', nI_1]
          · simp (maxDischargeDepth := 9) [zi_get_ne, zi_nl_i, zi_nl_r, zi_get_set_eq, nl]
          · simp (maxDischargeDepth := 9) [zi_get_ne, zi_nl_i, zi_nl_r, zi_get_set_eq, nl, g0]
          · simp (maxDischargeDepth := 9) [zi_get_ne, zi_nl_i, zi_nl_r, zi_get_set_eq, nl, g1]
          · simp (maxDischargeDepth := 9) [zi_get_ne, zi_nl_i, zi_nl_r, zi_get_set_eq, nl, g2]
          · simp (maxDischargeDepth := 9) [zi_get_ne, zi_nl_i, zi_nl_r, zi_get_set_eq, nl, g3]
          · simp (maxDischargeDepth := 9) [zi_get_ne, zi_nl_i, zi_nl_r, zi_get_set_eq, nl, g4]
    · rintro L _ ⟨-, nl, g0, g1, g2, g5, rfl, b, v, g3, g4, hq⟩
      rw [zl_drop10'] at hq
      have hq : zl_nb (zt_nf μ T k s) (List.range 10) (-1000000005) 0 = b := hq
      rw [hq]
      have c1 : (10 : Int32) ≤ nI 10 := by decide
      refine ⟨_, zm_mk μ, ⟨0, 5, fun F m hF => ?_⟩, rfl, rfl⟩
      simp [zg_0, zg_aload_n, zg_bipush, zg_goto, zg_iconst, zg_ifCond, zg_if_icmp, zg_iinc, zg_iload, zg_iload_n, zg_invokestatic, zg_invokevirtual, zg_ireturn, zg_istore, zg_istore_n, zg_isub, zg_ldc, zf_X3_neighbourTo, zi_ld, zi_lda, zi_cmp, zi_retOk, zi_isI, zi_f3, zi_cr, zi_ci, zi_cn, g0, g3, g5, h10, c1]
  obtain ⟨r, h', G, rfl, rfl⟩ := key
  refine ze_in [(0, .ref (T + 1)), (1, .int (nI k)), (2, .int (nI s))] zq_Tree_neighbourTo (Nat.le_of_ble_eq_true rfl) rfl (ze_S.end ⟨0, 6, fun F m hF => ?_⟩ G)
  simp [zg_0, zg_aload_n, zg_bipush, zg_goto, zg_iconst, zg_ifCond, zg_if_icmp, zg_iinc, zg_iload, zg_iload_n, zg_invokestatic, zg_invokevirtual, zg_ireturn, zg_istore, zg_istore_n, zg_isub, zg_ldc, zf_X3_neighbourTo, zi_ld, zi_lda, zi_cmp, zi_retOk, zi_isI, zi_f3, zi_cr, zi_ci, zi_cn, zi_get, zi_set, nI_0]
end ZNB
end
section
/-! the desk's cells; what arguments may be -/
noncomputable def zdW (k : Nat) : Nat := 36 + 3 * k
noncomputable def zdS (s : Nat) : Nat := 66 + 55 * s
noncomputable def zdZ (s : Nat) : Nat := 67 + 55 * s
noncomputable def zdT (s : Nat) : Nat := 68 + 55 * s
noncomputable def zdK (s : Nat) : Nat := 92 + 55 * s
noncomputable def zdV (s : Nat) : Nat := 93 + 55 * s
theorem zdW_at {k : Nat} (h : k < 10) : zw_at (zdW k) := zw_at_of k h
theorem zdT_at {s : Nat} (h : s < 3) : zt_at (zdT s) := by
  match s, h with
  | 0, _ => exact zt_at_of 68 (by decide)
  | 1, _ => exact zt_at_of 123 (by decide)
  | 2, _ => exact zt_at_of 178 (by decide)
theorem zdV_at {s : Nat} (h : s < 3) : zt_at (zdV s) := by
  match s, h with
  | 0, _ => exact zt_at_of 93 (by decide)
  | 1, _ => exact zt_at_of 148 (by decide)
  | 2, _ => exact zt_at_of 203 (by decide)
theorem zd7_at : zt_at 7 := zt_at_of 7 (by decide)
theorem zd3_at : zr_at 3 := zr_at_of 3 (by decide)
theorem zd5_at : zr_at 5 := zr_at_of 5 (by decide)
theorem zd34_at : zr_at 34 := zr_at_of 34 (by decide)
theorem zd31_A : zm_isA 8 31 10 := zm_isA_of (by decide +kernel)
theorem zd32_A : zm_isA 7 32 2 := zm_isA_of (by decide +kernel)
theorem zd33_A : zm_isA 7 33 10 := zm_isA_of (by decide +kernel)
theorem zdZ_A {s : Nat} (h : s < 3) : zm_isA 7 (zdZ s) 2 := by
  match s, h with
  | 0, _ => exact zm_isA_of (by decide +kernel)
  | 1, _ => exact zm_isA_of (by decide +kernel)
  | 2, _ => exact zm_isA_of (by decide +kernel)
theorem zd_h0 : zh_2[0]? = some (5, [.ref 2, .ref 3, .ref 4, .ref 6, .ref 8, .ref 32, .ref 33, .ref 34, .ref 35]) := by decide +kernel
theorem zd_h1 : zh_2[1]? = some (10, [.ref 37, .ref 40, .ref 43, .ref 46, .ref 49, .ref 52, .ref 55, .ref 58, .ref 61, .ref 64]) := by decide +kernel
theorem zd_h2 : zh_2[2]? = some (9, [.ref 67, .ref 122, .ref 177]) := by decide +kernel
theorem zdS_h {s : Nat} (h : s < 3) : zh_2[zdS s]? = some (2, [.ref (zdZ s + 1), .ref (zdT s + 1), .ref (zdK s + 1), .int 0]) := by
  match s, h with
  | 0, _ => decide +kernel
  | 1, _ => decide +kernel
  | 2, _ => decide +kernel
section ZD1
variable {μ : zm_M}
theorem zd_c : (zm_mk μ)[0]? = some (5, [.ref 2, .ref 3, .ref 4, .ref 6, .ref 8, .ref 32, .ref 33, .ref 34, .ref 35]) := zm_get zd_h0
theorem zd_g : zi_gf (zm_mk μ) 5 0 0 = some (.ref (1 + 1)) ∧ zi_gf (zm_mk μ) 5 1 0 = some (.ref (2 + 1)) ∧ zi_gf (zm_mk μ) 5 2 0 = some (.ref (3 + 1)) ∧ zi_gf (zm_mk μ) 5 3 0 = some (.ref (5 + 1)) ∧ zi_gf (zm_mk μ) 5 4 0 = some (.ref (7 + 1)) ∧ zi_gf (zm_mk μ) 5 5 0 = some (.ref (31 + 1)) ∧ zi_gf (zm_mk μ) 5 6 0 = some (.ref (32 + 1)) ∧ zi_gf (zm_mk μ) 5 7 0 = some (.ref (33 + 1)) ∧ zi_gf (zm_mk μ) 5 8 0 = some (.ref (34 + 1)) :=
  ⟨zm_gfr zd_h0 (by decide) rfl, zm_gfr zd_h0 (by decide) rfl, zm_gfr zd_h0 (by decide) rfl, zm_gfr zd_h0 (by decide) rfl, zm_gfr zd_h0 (by decide) rfl, zm_gfr zd_h0 (by decide) rfl, zm_gfr zd_h0 (by decide) rfl, zm_gfr zd_h0 (by decide) rfl, zm_gfr zd_h0 (by decide) rfl⟩
theorem zd_w {k : Nat} (h : k < 10) : zi_aald (zm_mk μ) (nI k) 1 = some (.ref (zdW k + 1)) := by
  refine zm_aald zd_h1 (by decide) (zm_in (by exact h) (by decide)) ?_
  rw [nI_clamp (by omega)]
  match k, h with
  | 0, _ | 1, _ | 2, _ | 3, _ | 4, _ | 5, _ | 6, _ | 7, _ | 8, _ | 9, _ => rfl
theorem zd_s {s : Nat} (h : s < 3) : zi_aald (zm_mk μ) (nI s) 2 = some (.ref (zdS s + 1)) := by
  refine zm_aald zd_h2 (by decide) (zm_in (by exact h) (by decide)) ?_
  rw [nI_clamp (by omega)]
  match s, h with
  | 0, _ | 1, _ | 2, _ => rfl
theorem zdS_g {s : Nat} (h : s < 3) : zi_gf (zm_mk μ) 2 0 (zdS s) = some (.ref (zdZ s + 1)) ∧ zi_gf (zm_mk μ) 2 1 (zdS s) = some (.ref (zdT s + 1)) ∧ zi_gf (zm_mk μ) 2 2 (zdS s) = some (.ref (zdK s + 1)) ∧ zi_gf (zm_mk μ) 2 3 (zdS s) = some (.int (μ (zdS s) 3)) :=
  ⟨zm_gfr (zdS_h h) (by decide) rfl, zm_gfr (zdS_h h) (by decide) rfl, zm_gfr (zdS_h h) (by decide) rfl, zm_gfi (zdS_h h) (by decide) rfl⟩
theorem zdS_p3 {s : Nat} (h : s < 3) {x : Int32} (hx : x = 0 ∨ x = 1) : zi_pf (zm_mk μ) 2 3 (zdS s) (.int x) = some (zm_mk (zm_up μ (zdS s) 3 x)) := zm_pfi (zdS_h h) (by decide) rfl (by rcases hx with rfl | rfl <;> decide)
/-- a number from 0 to n - 1, or not -/
theorem zd_rng (x : Int32) (n : Nat) (hn : n < 2 ^ 31) : (∃ k, k < n ∧ x = nI k) ∨ (x < 0 ∨ nI n ≤ x) := by
  by_cases c : x < 0
  · exact Or.inr (Or.inl c)
  · by_cases c2 : nI n ≤ x
    · exact Or.inr (Or.inr c2)
    · left
      obtain ⟨j, hj, rfl⟩ := nI_of c
      refine ⟨j, ?_, rfl⟩
      by_cases e : j < n
      · exact e
      · exact absurd (nI_le (by omega) hj) c2
set_option maxRecDepth 100000 in
theorem ze_isWindow_in (D : Nat) {k : Nat} (hk : k < 10) : ze_E (D + 1) A_Desk_isWindow [.ref 1, .int (nI k)] (zm_mk μ) (some (.int (zb (¬ μ (zdW k) 2 = 0)))) (zm_mk μ) := by
  refine ze_in [(0, .ref 1), (1, .int (nI k))] zq_Desk_isWindow (Nat.le_of_ble_eq_true rfl) rfl ⟨0, 14, fun F n hF => ?_⟩
  have h10 : (Int8.ofInt 10).toInt32 = (10 : Int32) := by decide
  have c1 : ¬ nI k < 0 := nI_pos (by omega)
  have c2 : ¬ (10 : Int32) ≤ nI k := nI_ge (b := 10) hk (by decide)
  by_cases c3 : μ (zdW k) 2 = 0
  · simp [zg_0, zg_aaload, zg_aload_n, zg_bipush, zg_getfield, zg_goto, zg_iconst, zg_ifCond, zg_if_icmp, zg_iload_n, zg_ireturn, zf_X5_isWindow, zi_ld, zi_lda, zi_cmp, zi_retOk, zi_isI, zi_f3, zi_cr, zi_ci, zi_cn, zi_get, zi_set, c1, c2, h10, zd_g, zd_w hk, zw_g (zdW_at hk), c3, zb]
  · simp [zg_0, zg_aaload, zg_aload_n, zg_bipush, zg_getfield, zg_goto, zg_iconst, zg_ifCond, zg_if_icmp, zg_iload_n, zg_ireturn, zf_X5_isWindow, zi_ld, zi_lda, zi_cmp, zi_retOk, zi_isI, zi_f3, zi_cr, zi_ci, zi_cn, zi_get, zi_set, c1, c2, h10, zd_g, zd_w hk, zw_g (zdW_at hk), c3, zb]
set_option maxRecDepth 100000 in
theorem ze_isWindow_out (D : Nat) {x : Int32} (hx : x < 0 ∨ (10 : Int32) ≤ x) : ze_E (D + 1) A_Desk_isWindow [.ref 1, .int x] (zm_mk μ) (some (.int 0)) (zm_mk μ) := by
  refine ze_in [(0, .ref 1), (1, .int x)] zq_Desk_isWindow (Nat.le_of_ble_eq_true rfl) rfl ⟨0, 14, fun F n hF => ?_⟩
  have h10 : (Int8.ofInt 10).toInt32 = (10 : Int32) := by decide
  by_cases c1 : x < 0
  · simp [zg_0, zg_aaload, zg_aload_n, zg_bipush, zg_getfield, zg_goto, zg_iconst, zg_ifCond, zg_if_icmp, zg_iload_n, zg_ireturn, zf_X5_isWindow, zi_ld, zi_lda, zi_cmp, zi_retOk, zi_isI, zi_f3, zi_cr, zi_ci, zi_cn, zi_get, zi_set, c1, h10]
  · have c2 := hx.resolve_left c1
    simp [zg_0, zg_aaload, zg_aload_n, zg_bipush, zg_getfield, zg_goto, zg_iconst, zg_ifCond, zg_if_icmp, zg_iload_n, zg_ireturn, zf_X5_isWindow, zi_ld, zi_lda, zi_cmp, zi_retOk, zi_isI, zi_f3, zi_cr, zi_ci, zi_cn, zi_get, zi_set, c1, c2, h10]
set_option maxRecDepth 100000 in
theorem ze_isScreen_in {h : zi_Hp} (D : Nat) {k : Nat} (hk : k < 3) : ze_E (D + 1) A_Desk_isScreen [.int (nI k)] h (some (.int 1)) h := by
  refine ze_in [(0, .int (nI k))] zq_Desk_isScreen (Nat.le_of_ble_eq_true rfl) rfl ⟨0, 8, fun F n hF => ?_⟩
  have c1 : ¬ nI k < 0 := nI_pos (by omega)
  have c2 : ¬ (3 : Int32) ≤ nI k := nI_ge (b := 3) hk (by decide)
  simp [zg_0, zg_goto, zg_iconst, zg_ifCond, zg_if_icmp, zg_iload_n, zg_ireturn, zf_X5_isScreen, zi_ld, zi_lda, zi_cmp, zi_retOk, zi_isI, zi_f3, zi_cr, zi_ci, zi_cn, zi_get, zi_set, c1, c2]
set_option maxRecDepth 100000 in
theorem ze_isScreen_out {h : zi_Hp} (D : Nat) {x : Int32} (hx : x < 0 ∨ (3 : Int32) ≤ x) : ze_E (D + 1) A_Desk_isScreen [.int x] h (some (.int 0)) h := by
  refine ze_in [(0, .int x)] zq_Desk_isScreen (Nat.le_of_ble_eq_true rfl) rfl ⟨0, 8, fun F n hF => ?_⟩
  by_cases c1 : x < 0
  · simp [zg_0, zg_goto, zg_iconst, zg_ifCond, zg_if_icmp, zg_iload_n, zg_ireturn, zf_X5_isScreen, zi_ld, zi_lda, zi_cmp, zi_retOk, zi_isI, zi_f3, zi_cr, zi_ci, zi_cn, zi_get, zi_set, c1]
  · have c2 := hx.resolve_left c1
    simp [zg_0, zg_goto, zg_iconst, zg_ifCond, zg_if_icmp, zg_iload_n, zg_ireturn, zf_X5_isScreen, zi_ld, zi_lda, zi_cmp, zi_retOk, zi_isI, zi_f3, zi_cr, zi_ci, zi_cn, zi_get, zi_set, c1, c2]
set_option maxRecDepth 100000 in
theorem ze_isSide_in {h : zi_Hp} (D : Nat) {k : Nat} (hk : k < 4) : ze_E (D + 1) A_Desk_isSide [.int (nI k)] h (some (.int 1)) h := by
  refine ze_in [(0, .int (nI k))] zq_Desk_isSide (Nat.le_of_ble_eq_true rfl) rfl ⟨0, 8, fun F n hF => ?_⟩
  have c1 : ¬ nI k < 0 := nI_pos (by omega)
  have c2 : ¬ (4 : Int32) ≤ nI k := nI_ge (b := 4) hk (by decide)
  simp [zg_0, zg_goto, zg_iconst, zg_ifCond, zg_if_icmp, zg_iload_n, zg_ireturn, zf_X5_isSide, zi_ld, zi_lda, zi_cmp, zi_retOk, zi_isI, zi_f3, zi_cr, zi_ci, zi_cn, zi_get, zi_set, c1, c2]
set_option maxRecDepth 100000 in
theorem ze_isSide_out {h : zi_Hp} (D : Nat) {x : Int32} (hx : x < 0 ∨ (4 : Int32) ≤ x) : ze_E (D + 1) A_Desk_isSide [.int x] h (some (.int 0)) h := by
  refine ze_in [(0, .int x)] zq_Desk_isSide (Nat.le_of_ble_eq_true rfl) rfl ⟨0, 8, fun F n hF => ?_⟩
  by_cases c1 : x < 0
  · simp [zg_0, zg_goto, zg_iconst, zg_ifCond, zg_if_icmp, zg_iload_n, zg_ireturn, zf_X5_isSide, zi_ld, zi_lda, zi_cmp, zi_retOk, zi_isI, zi_f3, zi_cr, zi_ci, zi_cn, zi_get, zi_set, c1]
  · have c2 := hx.resolve_left c1
    simp [zg_0, zg_goto, zg_iconst, zg_ifCond, zg_if_icmp, zg_iload_n, zg_ireturn, zf_X5_isSide, zi_ld, zi_lda, zi_cmp, zi_retOk, zi_isI, zi_f3, zi_cr, zi_ci, zi_cn, zi_get, zi_set, c1, c2]
set_option maxRecDepth 100000 in
theorem ze_isScreenSize {h : zi_Hp} (D : Nat) (x : Int32) : ze_E (D + 1) A_Desk_isScreenSize [.int x] h (some (.int (zb (40 ≤ x ∧ x ≤ 400)))) h := by
  refine ze_in [(0, .int x)] zq_Desk_isScreenSize (Nat.le_of_ble_eq_true rfl) rfl ⟨0, 9, fun F n hF => ?_⟩
  have h40 : (Int8.ofInt 40).toInt32 = (40 : Int32) := by decide
  have h400 : (Int16.ofInt 400).toInt32 = (400 : Int32) := by decide
  by_cases c1 : x < 40
  · have c1' : ¬ (40 : Int32) ≤ x := Int32.not_le.mpr c1
    simp [zg_0, zg_bipush, zg_goto, zg_iconst, zg_if_icmp, zg_iload_n, zg_ireturn, zg_sipush, zf_X5_isScreenSize, zi_ld, zi_lda, zi_cmp, zi_retOk, zi_isI, zi_f3, zi_cr, zi_ci, zi_cn, zi_get, zi_set, h40, h400, c1, c1', zb]
  · have c1' : (40 : Int32) ≤ x := Int32.not_lt.mp c1
    by_cases c2 : (400 : Int32) < x
    · have c2' : ¬ x ≤ (400 : Int32) := Int32.not_le.mpr c2
      simp [zg_0, zg_bipush, zg_goto, zg_iconst, zg_if_icmp, zg_iload_n, zg_ireturn, zg_sipush, zf_X5_isScreenSize, zi_ld, zi_lda, zi_cmp, zi_retOk, zi_isI, zi_f3, zi_cr, zi_ci, zi_cn, zi_get, zi_set, h40, h400, c1, c1', c2, c2', zb]
    · have c2' : x ≤ (400 : Int32) := Int32.not_lt.mp c2
      simp [zg_0, zg_bipush, zg_goto, zg_iconst, zg_if_icmp, zg_iload_n, zg_ireturn, zg_sipush, zf_X5_isScreenSize, zi_ld, zi_lda, zi_cmp, zi_retOk, zi_isI, zi_f3, zi_cr, zi_ci, zi_cn, zi_get, zi_set, h40, h400, c1, c1', c2, c2', zb]
set_option maxRecDepth 100000 in
theorem ze_isWindowSize {h : zi_Hp} (D : Nat) (x : Int32) : ze_E (D + 1) A_Desk_isWindowSize [.int x] h (some (.int (zb (1 ≤ x ∧ x ≤ 200)))) h := by
  refine ze_in [(0, .int x)] zq_Desk_isWindowSize (Nat.le_of_ble_eq_true rfl) rfl ⟨0, 9, fun F n hF => ?_⟩
  have h200 : (Int16.ofInt 200).toInt32 = (200 : Int32) := by decide
  by_cases c1 : x < 1
  · have c1' : ¬ (1 : Int32) ≤ x := Int32.not_le.mpr c1
    simp [zg_0, zg_goto, zg_iconst, zg_if_icmp, zg_iload_n, zg_ireturn, zg_sipush, zf_X5_isWindowSize, zi_ld, zi_lda, zi_cmp, zi_retOk, zi_isI, zi_f3, zi_cr, zi_ci, zi_cn, zi_get, zi_set, h200, c1, c1', zb]
  · have c1' : (1 : Int32) ≤ x := Int32.not_lt.mp c1
    by_cases c2 : (200 : Int32) < x
    · have c2' : ¬ x ≤ (200 : Int32) := Int32.not_le.mpr c2
      simp [zg_0, zg_goto, zg_iconst, zg_if_icmp, zg_iload_n, zg_ireturn, zg_sipush, zf_X5_isWindowSize, zi_ld, zi_lda, zi_cmp, zi_retOk, zi_isI, zi_f3, zi_cr, zi_ci, zi_cn, zi_get, zi_set, h200, c1, c1', c2, c2', zb]
    · have c2' : x ≤ (200 : Int32) := Int32.not_lt.mp c2
      simp [zg_0, zg_goto, zg_iconst, zg_if_icmp, zg_iload_n, zg_ireturn, zg_sipush, zf_X5_isWindowSize, zi_ld, zi_lda, zi_cmp, zi_retOk, zi_isI, zi_f3, zi_cr, zi_ci, zi_cn, zi_get, zi_set, h200, c1, c1', c2, c2', zb]
set_option maxRecDepth 100000 in
theorem ze_isPlace {h : zi_Hp} (D : Nat) (x : Int32) : ze_E (D + 1) A_Desk_isPlace [.int x] h (some (.int (zb (-1000 ≤ x ∧ x ≤ 1000)))) h := by
  refine ze_in [(0, .int x)] zq_Desk_isPlace (Nat.le_of_ble_eq_true rfl) rfl ⟨0, 9, fun F n hF => ?_⟩
  have h1 : (Int16.ofInt (-1000)).toInt32 = (-1000 : Int32) := by decide
  have h2 : (Int16.ofInt 1000).toInt32 = (1000 : Int32) := by decide
  by_cases c1 : x < -1000
  · have c1' : ¬ (-1000 : Int32) ≤ x := Int32.not_le.mpr c1
    simp [zg_0, zg_goto, zg_iconst, zg_if_icmp, zg_iload_n, zg_ireturn, zg_sipush, zf_X5_isPlace, zi_ld, zi_lda, zi_cmp, zi_retOk, zi_isI, zi_f3, zi_cr, zi_ci, zi_cn, zi_get, zi_set, h1, h2, c1, c1', zb]
  · have c1' : (-1000 : Int32) ≤ x := Int32.not_lt.mp c1
    by_cases c2 : (1000 : Int32) < x
    · have c2' : ¬ x ≤ (1000 : Int32) := Int32.not_le.mpr c2
      simp [zg_0, zg_goto, zg_iconst, zg_if_icmp, zg_iload_n, zg_ireturn, zg_sipush, zf_X5_isPlace, zi_ld, zi_lda, zi_cmp, zi_retOk, zi_isI, zi_f3, zi_cr, zi_ci, zi_cn, zi_get, zi_set, h1, h2, c1, c1', c2, c2', zb]
    · have c2' : x ≤ (1000 : Int32) := Int32.not_lt.mp c2
      simp [zg_0, zg_goto, zg_iconst, zg_if_icmp, zg_iload_n, zg_ireturn, zg_sipush, zf_X5_isPlace, zi_ld, zi_lda, zi_cmp, zi_retOk, zi_isI, zi_f3, zi_cr, zi_ci, zi_cn, zi_get, zi_set, h1, h2, c1, c1', c2, c2', zb]
set_option maxRecDepth 100000 in
theorem ze_isAxis {h : zi_Hp} (D : Nat) (x : Int32) : ze_E (D + 1) A_Desk_isAxis [.int x] h (some (.int (zb (x = 0 ∨ x = 1)))) h := by
  refine ze_in [(0, .int x)] zq_Desk_isAxis (Nat.le_of_ble_eq_true rfl) rfl ⟨0, 8, fun F n hF => ?_⟩
  by_cases c1 : x = 0
  · simp [zg_0, zg_goto, zg_iconst, zg_ifCond, zg_if_icmp, zg_iload_n, zg_ireturn, zf_X5_isAxis, zi_ld, zi_lda, zi_cmp, zi_retOk, zi_isI, zi_f3, zi_cr, zi_ci, zi_cn, zi_get, zi_set, c1, zb]
  · by_cases c2 : x = 1
    · simp [zg_0, zg_goto, zg_iconst, zg_ifCond, zg_if_icmp, zg_iload_n, zg_ireturn, zf_X5_isAxis, zi_ld, zi_lda, zi_cmp, zi_retOk, zi_isI, zi_f3, zi_cr, zi_ci, zi_cn, zi_get, zi_set, c2, zb]
    · simp [zg_0, zg_goto, zg_iconst, zg_ifCond, zg_if_icmp, zg_iload_n, zg_ireturn, zf_X5_isAxis, zi_ld, zi_lda, zi_cmp, zi_retOk, zi_isI, zi_f3, zi_cr, zi_ci, zi_cn, zi_get, zi_set, c1, c2, zb]
set_option maxRecDepth 100000 in
/-- treeOf(window), its screen known -/
theorem ze_treeOf (D : Nat) {k s : Nat} (hk : k < 10) (hs : s < 3) (e : μ (zdW k) 5 = nI s) : ze_E (D + 1) A_Desk_treeOf [.ref 1, .int (nI k)] (zm_mk μ) (some (.ref (zdT s + 1))) (zm_mk μ) := by
  refine ze_in [(0, .ref 1), (1, .int (nI k))] zq_Desk_treeOf (Nat.le_of_ble_eq_true rfl) rfl ⟨0, 10, fun F n hF => ?_⟩
  simp [zg_0, zg_aaload, zg_aload_n, zg_areturn, zg_getfield, zg_iload_n, zf_X5_treeOf, zi_ld, zi_lda, zi_cmp, zi_retOk, zi_isI, zi_f3, zi_cr, zi_ci, zi_cn, zi_get, zi_set, zd_g, zd_w hk, zw_g (zdW_at hk), e, zd_s hs, zdS_g hs, zi_retA]
end ZD1
end
section
/-! the desk: numbers found and counted -/
/-- the first of n numbers from i on that p holds of -/
noncomputable def zl_fi (p : Nat → Bool) (d : Int32) : Nat → Nat → Int32
  | 0, _ => d
  | m + 1, i => if p i then nI i else zl_fi p d m (i + 1)
theorem zl_fi_s {p : Nat → Bool} {d : Int32} {n i : Nat} (h : i < n) : zl_fi p d (n - i) i = if p i then nI i else zl_fi p d (n - (i + 1)) (i + 1) := by
  have : n - i = n - (i + 1) + 1 := by omega
  rw [this]
  rfl
theorem zl_fi_spec (p : Nat → Bool) (d : Int32) : ∀ m i, (∃ k, i ≤ k ∧ k < i + m ∧ p k = true ∧ (∀ j, i ≤ j → j < k → p j = false) ∧ zl_fi p d m i = nI k) ∨ ((∀ j, i ≤ j → j < i + m → p j = false) ∧ zl_fi p d m i = d) := by
  intro m
  induction m with
  | zero =>
    intro i
    exact Or.inr ⟨fun j h1 h2 => absurd h2 (by omega), rfl⟩
  | succ m ih =>
    intro i
    show (∃ k, i ≤ k ∧ k < i + (m + 1) ∧ p k = true ∧ (∀ j, i ≤ j → j < k → p j = false) ∧ (if p i then nI i else zl_fi p d m (i + 1)) = nI k) ∨ ((∀ j, i ≤ j → j < i + (m + 1) → p j = false) ∧ (if p i then nI i else zl_fi p d m (i + 1)) = d)
    by_cases c : p i = true
    · rw [if_pos c]
      exact Or.inl ⟨i, Nat.le_refl _, by omega, c, fun j h1 h2 => absurd h2 (by omega), rfl⟩
    · rw [if_neg c]
      have c' : p i = false := by simpa using c
      rcases ih (i + 1) with ⟨k, h1, h2, h3, h4, h5⟩ | ⟨h1, h2⟩
      · refine Or.inl ⟨k, by omega, by omega, h3, fun j q1 q2 => ?_, h5⟩
        by_cases e : j = i
        · rw [e]; exact c'
        · exact h4 j (by omega) q2
      · refine Or.inr ⟨fun j q1 q2 => ?_, h2⟩
        by_cases e : j = i
        · rw [e]; exact c'
        · exact h1 j (by omega) (by omega)
/-- how many of the first n numbers p holds of -/
noncomputable def zl_ct (p : Nat → Bool) : Nat → Nat
  | 0 => 0
  | n + 1 => zl_ct p n + if p n then 1 else 0
theorem zl_ct_le (p : Nat → Bool) : ∀ n, zl_ct p n ≤ n
  | 0 => Nat.le_refl _
  | n + 1 => by
    have := zl_ct_le p n
    unfold zl_ct
    split <;> omega
/-- p holds of all of the first n numbers -/
noncomputable def zl_al (p : Nat → Bool) : Nat → Bool
  | 0 => true
  | n + 1 => zl_al p n && p n
theorem zl_al_iff {p : Nat → Bool} : ∀ n, zl_al p n = true ↔ ∀ i, i < n → p i = true
  | 0 => ⟨fun _ i h => absurd h (by omega), fun _ => rfl⟩
  | n + 1 => by
    unfold zl_al
    rw [Bool.and_eq_true, zl_al_iff n]
    constructor
    · rintro ⟨h1, h2⟩ i hi
      by_cases e : i = n
      · rw [e]; exact h2
      · exact h1 i (by omega)
    · intro h
      exact ⟨fun i hi => h i (by omega), h n (by omega)⟩
section ZD2
variable {μ : zm_M}
noncomputable def zd_lsb (μ : zm_M) (x : Int32) : Int32 := zl_fi (fun s => decide (¬ nI s = x ∧ ¬ μ (zdS s) 3 = 0)) (-1) 3 0
set_option maxRecDepth 100000 in
theorem ze_leastScreenBut (D : Nat) (x : Int32) : ze_E (D + 1) A_Desk_leastScreenBut [.ref 1, .int x] (zm_mk μ) (some (.int (zd_lsb μ x))) (zm_mk μ) := by
  have key : ∃ r h', ze_G D 3 (some .int) zc_X5_leastScreenBut 2 [(2, .int (nI 0)), (0, .ref 1), (1, .int x)] [] (zm_mk μ) r h' ∧ (r = some (.int (zd_lsb μ x)) ∧ zm_mk μ = h') := by
    refine ze_loop (Q := fun i L hp => i ≤ 3 ∧ zi_nl L = true ∧ zi_get L 0 = some (.ref 1) ∧ zi_get L 1 = some (.int x) ∧ zi_get L 2 = some (.int (nI i)) ∧ zm_mk μ = hp ∧ (zd_lsb μ x = zl_fi (fun s => decide (¬ nI s = x ∧ ¬ μ (zdS s) 3 = 0)) (-1) (3 - i) i)) (R := fun r h' => r = some (.int (zd_lsb μ x)) ∧ zm_mk μ = h') 3 ?_ ?_ 3 0 _ _ (by omega) ⟨by omega, rfl, rfl, rfl, rfl, rfl, rfl⟩
    · rintro i L _ hi ⟨-, nl, g0, g1, g2, rfl, hq⟩
      rw [zl_fi_s hi] at hq
      have c1 : ¬ (3 : Int32) ≤ nI i := nI_ge (b := 3) hi (by decide)
      by_cases c2 : nI i = x
      · rw [if_neg (by simp [c2])] at hq
        subst c2
        left
        refine ⟨zi_set L 2 (.int (nI (i + 1))), zm_mk μ, ⟨0, 8, fun F m hF => ?_⟩, by omega, ?_, ?_, ?_, zi_get_set_eq, rfl, hq⟩
        · simp (maxDischargeDepth := 9) [zg_0, zg_aaload, zg_aload_n, zg_getfield, zg_goto, zg_iconst, zg_ifCond, zg_if_icmp, zg_iinc, zg_iload_n, zg_ireturn, zg_istore_n, zf_X5_leastScreenBut, zi_ld, zi_lda, zi_cmp, zi_retOk, zi_isI, zi_f3, zi_cr, zi_ci, zi_cn, zi_get_ne, zi_nl_i, zi_nl_r, zi_get_set_eq, nl, g0, g1, g2, c1, nI_1]
        · simp (maxDischargeDepth := 9) [zi_get_ne, zi_nl_i, zi_nl_r, zi_get_set_eq, nl]
        · simp (maxDischargeDepth := 9) [zi_get_ne, zi_nl_i, zi_nl_r, zi_get_set_eq, nl, g0]
        · simp (maxDischargeDepth := 9) [zi_get_ne, zi_nl_i, zi_nl_r, zi_get_set_eq, nl, g1]
      · by_cases c3 : μ (zdS i) 3 = 0
        · rw [if_neg (by simp [c3])] at hq
          left
          refine ⟨zi_set L 2 (.int (nI (i + 1))), zm_mk μ, ⟨0, 14, fun F m hF => ?_⟩, by omega, ?_, ?_, ?_, zi_get_set_eq, rfl, hq⟩
          · simp (maxDischargeDepth := 9) [zg_0, zg_aaload, zg_aload_n, zg_getfield, zg_goto, zg_iconst, zg_ifCond, zg_if_icmp, zg_iinc, zg_iload_n, zg_ireturn, zg_istore_n, zf_X5_leastScreenBut, zi_ld, zi_lda, zi_cmp, zi_retOk, zi_isI, zi_f3, zi_cr, zi_ci, zi_cn, zi_get_ne, zi_nl_i, zi_nl_r, zi_get_set_eq, nl, g0, g1, g2, c1, c2, c3, zd_g, zd_s hi, zdS_g hi, nI_1]
          · simp (maxDischargeDepth := 9) [zi_get_ne, zi_nl_i, zi_nl_r, zi_get_set_eq, nl]
          · simp (maxDischargeDepth := 9) [zi_get_ne, zi_nl_i, zi_nl_r, zi_get_set_eq, nl, g0]
          · simp (maxDischargeDepth := 9) [zi_get_ne, zi_nl_i, zi_nl_r, zi_get_set_eq, nl, g1]
        · rw [if_pos (by simp [c2, c3])] at hq
          right
          refine ⟨some (.int (nI i)), zm_mk μ, ⟨0, 14, fun F m hF => ?_⟩, by rw [hq], rfl⟩
          simp (maxDischargeDepth := 9) [zg_0, zg_aaload, zg_aload_n, zg_getfield, zg_goto, zg_iconst, zg_ifCond, zg_if_icmp, zg_iinc, zg_iload_n, zg_ireturn, zg_istore_n, zf_X5_leastScreenBut, zi_ld, zi_lda, zi_cmp, zi_retOk, zi_isI, zi_f3, zi_cr, zi_ci, zi_cn, zi_get_ne, zi_nl_i, zi_nl_r, zi_get_set_eq, nl, g0, g1, g2, c1, c2, c3, zd_g, zd_s hi, zdS_g hi, nI_1]
    · rintro L _ ⟨-, nl, g0, g1, g2, rfl, hq⟩
      rw [hq]
      have c1 : (3 : Int32) ≤ nI 3 := by decide
      refine ⟨some (.int (-1)), zm_mk μ, ⟨0, 5, fun F m hF => ?_⟩, rfl, rfl⟩
      simp [zg_0, zg_aaload, zg_aload_n, zg_getfield, zg_goto, zg_iconst, zg_ifCond, zg_if_icmp, zg_iinc, zg_iload_n, zg_ireturn, zg_istore_n, zf_X5_leastScreenBut, zi_ld, zi_lda, zi_cmp, zi_retOk, zi_isI, zi_f3, zi_cr, zi_ci, zi_cn, g0, g2, c1]
  obtain ⟨r, h', G, rfl, rfl⟩ := key
  refine ze_in [(0, .ref 1), (1, .int x)] zq_Desk_leastScreenBut (Nat.le_of_ble_eq_true rfl) rfl (ze_S.end ⟨0, 2, fun F m hF => ?_⟩ G)
  simp [zg_0, zg_aaload, zg_aload_n, zg_getfield, zg_goto, zg_iconst, zg_ifCond, zg_if_icmp, zg_iinc, zg_iload_n, zg_ireturn, zg_istore_n, zf_X5_leastScreenBut, zi_ld, zi_lda, zi_cmp, zi_retOk, zi_isI, zi_f3, zi_cr, zi_ci, zi_cn, zi_get, zi_set, nI_0]
noncomputable def zd_lfn (μ : zm_M) : Int32 := zl_fi (fun k => decide (μ (zdW k) 2 = 0)) (-1) 10 0
set_option maxRecDepth 100000 in
theorem ze_leastFreeNumber (D : Nat) : ze_E (D + 1) A_Desk_leastFreeNumber [.ref 1] (zm_mk μ) (some (.int (zd_lfn μ))) (zm_mk μ) := by
  have h10 : (Int8.ofInt 10).toInt32 = (10 : Int32) := by decide
  have key : ∃ r h', ze_G D 2 (some .int) zc_X5_leastFreeNumber 2 [(1, .int (nI 0)), (0, .ref 1)] [] (zm_mk μ) r h' ∧ (r = some (.int (zd_lfn μ)) ∧ zm_mk μ = h') := by
    refine ze_loop (Q := fun i L hp => i ≤ 10 ∧ zi_nl L = true ∧ zi_get L 0 = some (.ref 1) ∧ zi_get L 1 = some (.int (nI i)) ∧ zm_mk μ = hp ∧ (zd_lfn μ = zl_fi (fun k => decide (μ (zdW k) 2 = 0)) (-1) (10 - i) i)) (R := fun r h' => r = some (.int (zd_lfn μ)) ∧ zm_mk μ = h') 10 ?_ ?_ 10 0 _ _ (by omega) ⟨by omega, rfl, rfl, rfl, rfl, rfl⟩
    · rintro i L _ hi ⟨-, nl, g0, g1, rfl, hq⟩
      rw [zl_fi_s hi] at hq
      have c1 : ¬ (10 : Int32) ≤ nI i := nI_ge (b := 10) hi (by decide)
      by_cases c2 : μ (zdW i) 2 = 0
      · rw [if_pos (by simp [c2])] at hq
        right
        refine ⟨some (.int (nI i)), zm_mk μ, ⟨0, 11, fun F m hF => ?_⟩, by rw [hq], rfl⟩
        simp (maxDischargeDepth := 9) [zg_0, zg_aaload, zg_aload_n, zg_bipush, zg_getfield, zg_goto, zg_iconst, zg_ifCond, zg_if_icmp, zg_iinc, zg_iload_n, zg_ireturn, zg_istore_n, zf_X5_leastFreeNumber, zi_ld, zi_lda, zi_cmp, zi_retOk, zi_isI, zi_f3, zi_cr, zi_ci, zi_cn, zi_get_ne, zi_nl_i, zi_nl_r, zi_get_set_eq, nl, g0, g1, h10, c1, c2, zd_g, zd_w hi, zw_g (zdW_at hi), nI_1]
      · rw [if_neg (by simp [c2])] at hq
        left
        refine ⟨zi_set L 1 (.int (nI (i + 1))), zm_mk μ, ⟨0, 11, fun F m hF => ?_⟩, by omega, ?_, ?_, zi_get_set_eq, rfl, hq⟩
        · simp (maxDischargeDepth := 9) [zg_0, zg_aaload, zg_aload_n, zg_bipush, zg_getfield, zg_goto, zg_iconst, zg_ifCond, zg_if_icmp, zg_iinc, zg_iload_n, zg_ireturn, zg_istore_n, zf_X5_leastFreeNumber, zi_ld, zi_lda, zi_cmp, zi_retOk, zi_isI, zi_f3, zi_cr, zi_ci, zi_cn, zi_get_ne, zi_nl_i, zi_nl_r, zi_get_set_eq, nl, g0, g1, h10, c1, c2, zd_g, zd_w hi, zw_g (zdW_at hi), nI_1]
        · simp (maxDischargeDepth := 9) [zi_get_ne, zi_nl_i, zi_nl_r, zi_get_set_eq, nl]
        · simp (maxDischargeDepth := 9) [zi_get_ne, zi_nl_i, zi_nl_r, zi_get_set_eq, nl, g0]
    · rintro L _ ⟨-, nl, g0, g1, rfl, hq⟩
      rw [hq]
      have c1 : (10 : Int32) ≤ nI 10 := by decide
      refine ⟨some (.int (-1)), zm_mk μ, ⟨0, 5, fun F m hF => ?_⟩, rfl, rfl⟩
      simp [zg_0, zg_aaload, zg_aload_n, zg_bipush, zg_getfield, zg_goto, zg_iconst, zg_ifCond, zg_if_icmp, zg_iinc, zg_iload_n, zg_ireturn, zg_istore_n, zf_X5_leastFreeNumber, zi_ld, zi_lda, zi_cmp, zi_retOk, zi_isI, zi_f3, zi_cr, zi_ci, zi_cn, g0, g1, h10, c1]
  obtain ⟨r, h', G, rfl, rfl⟩ := key
  refine ze_in [(0, .ref 1)] zq_Desk_leastFreeNumber (Nat.le_of_ble_eq_true rfl) rfl (ze_S.end ⟨0, 2, fun F m hF => ?_⟩ G)
  simp [zg_0, zg_aaload, zg_aload_n, zg_bipush, zg_getfield, zg_goto, zg_iconst, zg_ifCond, zg_if_icmp, zg_iinc, zg_iload_n, zg_ireturn, zg_istore_n, zf_X5_leastFreeNumber, zi_ld, zi_lda, zi_cmp, zi_retOk, zi_isI, zi_f3, zi_cr, zi_ci, zi_cn, zi_get, zi_set, nI_0]
/-- the window k is on the screen x -/
noncomputable def zd_on (μ : zm_M) (x : Int32) (k : Nat) : Bool := decide (¬ μ (zdW k) 2 = 0 ∧ ¬ μ (zdW k) 3 = 4 ∧ μ (zdW k) 5 = x)
noncomputable def zd_loose (μ : zm_M) (x : Int32) (k : Nat) : Bool := decide (¬ μ (zdW k) 2 = 0 ∧ ¬ μ (zdW k) 3 = 4 ∧ μ (zdW k) 5 = x ∧ ¬ μ (zdW k) 3 = 1)
noncomputable def zd_whole (μ : zm_M) (z k : Nat) : Bool := decide (μ (zdW k + 1) 0 ≤ μ z 0 ∧ μ (zdW k + 1) 1 ≤ μ z 1)
noncomputable def zd_lwf (μ : zm_M) (x : Int32) (z k : Nat) : Bool := !zd_loose μ x k || zd_whole μ z k
theorem zl_lt_s {P : Nat → Prop} {i : Nat} (h : ∀ j, j < i → P j) (h2 : P i) : ∀ j, j < i + 1 → P j := by
  intro j hj
  by_cases e : j = i
  · rw [e]; exact h2
  · exact h j (by omega)
noncomputable def zd_til (μ : zm_M) (k : Nat) : Bool := decide (¬ μ (zdW k) 2 = 0 ∧ μ (zdW k) 3 = 1)
noncomputable def zd_flo (μ : zm_M) (k : Nat) : Bool := decide (¬ μ (zdW k) 2 = 0 ∧ ¬ μ (zdW k) 3 = 1)
noncomputable def zd_sti (μ : zm_M) (k : Nat) : Bool := decide (¬ μ (zdW k) 2 = 0 ∧ μ (zdW k) 3 = 4)
theorem zb_dec {p : Prop} [Decidable p] : zb p = if decide p = true then 1 else 0 := by
  unfold zb
  by_cases q : p
  · rw [if_pos q, if_pos (decide_eq_true q)]
  · rw [if_neg q, if_neg (fun e => q (of_decide_eq_true e))]
theorem ze_tilW (D : Nat) {k : Nat} (h : k < 10) : ze_E (D + 1) A_Win_isTiled [.ref (zdW k + 1)] (zm_mk μ) (some (.int (if zd_til μ k = true then 1 else 0))) (zm_mk μ) := by
  have := ze_isTiled (μ := μ) D (zdW_at h)
  rw [zb_dec] at this
  exact this
theorem ze_floW (D : Nat) {k : Nat} (h : k < 10) : ze_E (D + 1) A_Win_isFloating [.ref (zdW k + 1)] (zm_mk μ) (some (.int (if zd_flo μ k = true then 1 else 0))) (zm_mk μ) := by
  have := ze_isFloating (μ := μ) D (zdW_at h)
  rw [zb_dec] at this
  exact this
theorem ze_stiW (D : Nat) {k : Nat} (h : k < 10) : ze_E (D + 1) A_Win_isSticky [.ref (zdW k + 1)] (zm_mk μ) (some (.int (if zd_sti μ k = true then 1 else 0))) (zm_mk μ) := by
  have := ze_isSticky (μ := μ) D (zdW_at h)
  rw [zb_dec] at this
  exact this
theorem ze_onW (D : Nat) {k : Nat} (h : k < 10) (x : Int32) : ze_E (D + 1) A_Win_isOn [.ref (zdW k + 1), .int x] (zm_mk μ) (some (.int (if zd_on μ x k = true then 1 else 0))) (zm_mk μ) := by
  have := ze_isOn (μ := μ) D (zdW_at h) x
  rw [zb_dec] at this
  exact this
theorem ze_looseW (D : Nat) {k : Nat} (h : k < 10) (x : Int32) : ze_E (D + 2) A_Win_isLooseOn [.ref (zdW k + 1), .int x] (zm_mk μ) (some (.int (if zd_loose μ x k = true then 1 else 0))) (zm_mk μ) := by
  have := ze_isLooseOn (μ := μ) D (zdW_at h) x
  rw [zb_dec] at this
  exact this
theorem ze_wholeW (D : Nat) {k : Nat} (h : k < 10) {z : Nat} (hz : zm_isA 7 z 2) : ze_E (D + 1) A_Win_canBeWhole [.ref (zdW k + 1), .ref (z + 1)] (zm_mk μ) (some (.int (if zd_whole μ z k = true then 1 else 0))) (zm_mk μ) := by
  have := ze_canBeWhole (μ := μ) D (zdW_at h) hz
  rw [zb_dec] at this
  exact this
set_option maxRecDepth 100000 in
theorem ze_windowsOn (D : Nat) (x : Int32) : ze_E (D + 2) A_Desk_windowsOn [.ref 1, .int x] (zm_mk μ) (some (.int (nI (zl_ct (zd_on μ x) 10)))) (zm_mk μ) := by
  have h10 : (Int8.ofInt 10).toInt32 = (10 : Int32) := by decide
  have key : ∃ r h', ze_G (D + 1) 4 (some .int) zc_X5_windowsOn 4 [(3, .int (nI 0)), (2, .int (nI 0)), (0, .ref 1), (1, .int x)] [] (zm_mk μ) r h' ∧ (r = some (.int (nI (zl_ct (zd_on μ x) 10))) ∧ zm_mk μ = h') := by
    refine ze_loop (Q := fun i L hp => i ≤ 10 ∧ zi_nl L = true ∧ zi_get L 0 = some (.ref 1) ∧ zi_get L 1 = some (.int x) ∧ zi_get L 3 = some (.int (nI i)) ∧ zm_mk μ = hp ∧ (zi_get L 2 = some (.int (nI (zl_ct (zd_on μ x) i))))) (R := fun r h' => r = some (.int (nI (zl_ct (zd_on μ x) 10))) ∧ zm_mk μ = h') 10 ?_ ?_ 10 0 _ _ (by omega) ⟨by omega, rfl, rfl, rfl, rfl, rfl, rfl⟩
    · rintro i L _ hi ⟨-, nl, g0, g1, g3, rfl, hq⟩
      have c1 : ¬ (10 : Int32) ≤ nI i := nI_ge (b := 10) hi (by decide)
      obtain ⟨N1, E1⟩ := ze_onW (μ := μ) D hi x
      have cw := zw_c (μ := μ) (zdW_at hi)
      have es : zl_ct (zd_on μ x) (i + 1) = zl_ct (zd_on μ x) i + if zd_on μ x i = true then 1 else 0 := rfl
      by_cases c2 : zd_on μ x i = true
      · rw [if_pos c2] at es E1
        left
        refine ⟨zi_set (zi_set L 2 (.int (nI (zl_ct (zd_on μ x) i + 1)))) 3 (.int (nI (i + 1))), zm_mk μ, ⟨N1, 17, fun F m hF => ?_⟩, by omega, ?_, ?_, ?_, zi_get_set_eq, rfl, by rw [es]; simp (maxDischargeDepth := 9) [zi_get_ne, zi_nl_i, zi_nl_r, zi_get_set_eq, nl]⟩
        · simp (maxDischargeDepth := 9) [zg_0, zg_aaload, zg_aload_n, zg_bipush, zg_getfield, zg_goto, zg_iadd, zg_iconst, zg_ifCond, zg_if_icmp, zg_iinc, zg_iload_n, zg_invokevirtual, zg_ireturn, zg_istore_n, zf_X5_windowsOn, zi_ld, zi_lda, zi_cmp, zi_retOk, zi_isI, zi_f3, zi_cr, zi_ci, zi_cn, zi_get_ne, zi_nl_i, zi_nl_r, zi_get_set_eq, nl, g0, g1, g3, h10, c1, zd_g, zd_w hi, zq_Win_isOn, cw, E1 F (by omega), hq, nI_1]
        · simp (maxDischargeDepth := 9) [zi_get_ne, zi_nl_i, zi_nl_r, zi_get_set_eq, nl]
        · simp (maxDischargeDepth := 9) [zi_get_ne, zi_nl_i, zi_nl_r, zi_get_set_eq, nl, g0]
        · simp (maxDischargeDepth := 9) [zi_get_ne, zi_nl_i, zi_nl_r, zi_get_set_eq, nl, g1]
      · rw [if_neg c2] at es E1
        rw [Nat.add_zero] at es
        left
        refine ⟨zi_set (zi_set L 2 (.int (nI (zl_ct (zd_on μ x) i)))) 3 (.int (nI (i + 1))), zm_mk μ, ⟨N1, 16, fun F m hF => ?_⟩, by omega, ?_, ?_, ?_, zi_get_set_eq, rfl, by rw [es]; simp (maxDischargeDepth := 9) [zi_get_ne, zi_nl_i, zi_nl_r, zi_get_set_eq, nl]⟩
        · simp (maxDischargeDepth := 9) [zg_0, zg_aaload, zg_aload_n, zg_bipush, zg_getfield, zg_goto, zg_iadd, zg_iconst, zg_ifCond, zg_if_icmp, zg_iinc, zg_iload_n, zg_invokevirtual, zg_ireturn, zg_istore_n, zf_X5_windowsOn, zi_ld, zi_lda, zi_cmp, zi_retOk, zi_isI, zi_f3, zi_cr, zi_ci, zi_cn, zi_get_ne, zi_nl_i, zi_nl_r, zi_get_set_eq, nl, g0, g1, g3, h10, c1, zd_g, zd_w hi, zq_Win_isOn, cw, E1 F (by omega), hq, nI_1]
        · simp (maxDischargeDepth := 9) [zi_get_ne, zi_nl_i, zi_nl_r, zi_get_set_eq, nl]
        · simp (maxDischargeDepth := 9) [zi_get_ne, zi_nl_i, zi_nl_r, zi_get_set_eq, nl, g0]
        · simp (maxDischargeDepth := 9) [zi_get_ne, zi_nl_i, zi_nl_r, zi_get_set_eq, nl, g1]
    · rintro L _ ⟨-, nl, g0, g1, g3, rfl, hq⟩
      have c1 : (10 : Int32) ≤ nI 10 := by decide
      refine ⟨_, zm_mk μ, ⟨0, 5, fun F m hF => ?_⟩, rfl, rfl⟩
      simp [zg_0, zg_aaload, zg_aload_n, zg_bipush, zg_getfield, zg_goto, zg_iadd, zg_iconst, zg_ifCond, zg_if_icmp, zg_iinc, zg_iload_n, zg_invokevirtual, zg_ireturn, zg_istore_n, zf_X5_windowsOn, zi_ld, zi_lda, zi_cmp, zi_retOk, zi_isI, zi_f3, zi_cr, zi_ci, zi_cn, g0, g3, hq, h10, c1]
  obtain ⟨r, h', G, rfl, rfl⟩ := key
  refine ze_in [(0, .ref 1), (1, .int x)] zq_Desk_windowsOn (Nat.le_of_ble_eq_true rfl) rfl (ze_S.end ⟨0, 4, fun F m hF => ?_⟩ G)
  simp [zg_0, zg_aaload, zg_aload_n, zg_bipush, zg_getfield, zg_goto, zg_iadd, zg_iconst, zg_ifCond, zg_if_icmp, zg_iinc, zg_iload_n, zg_invokevirtual, zg_ireturn, zg_istore_n, zf_X5_windowsOn, zi_ld, zi_lda, zi_cmp, zi_retOk, zi_isI, zi_f3, zi_cr, zi_ci, zi_cn, zi_get, zi_set, nI_0]
set_option maxRecDepth 100000 in
theorem ze_looseOnesFit (D : Nat) (x : Int32) {z : Nat} (hz : zm_isA 7 z 2) : ze_E (D + 3) A_Desk_looseOnesFit [.ref 1, .int x, .ref (z + 1)] (zm_mk μ) (some (.int (zb (zl_al (zd_lwf μ x z) 10 = true)))) (zm_mk μ) := by
  have h10 : (Int8.ofInt 10).toInt32 = (10 : Int32) := by decide
  have key : ∃ r h', ze_G (D + 2) 4 (some .boolean) zc_X5_looseOnesFit 2 [(3, .int (nI 0)), (0, .ref 1), (1, .int x), (2, .ref (z + 1))] [] (zm_mk μ) r h' ∧ (r = some (.int (zb (zl_al (zd_lwf μ x z) 10 = true))) ∧ zm_mk μ = h') := by
    refine ze_loop (Q := fun i L hp => i ≤ 10 ∧ zi_nl L = true ∧ zi_get L 0 = some (.ref 1) ∧ zi_get L 1 = some (.int x) ∧ zi_get L 2 = some (.ref (z + 1)) ∧ zi_get L 3 = some (.int (nI i)) ∧ zm_mk μ = hp ∧ (∀ j, j < i → (zd_lwf μ x z) j = true)) (R := fun r h' => r = some (.int (zb (zl_al (zd_lwf μ x z) 10 = true))) ∧ zm_mk μ = h') 10 ?_ ?_ 10 0 _ _ (by omega) ⟨by omega, rfl, rfl, rfl, rfl, rfl, rfl, fun j hj => absurd hj (by omega)⟩
    · rintro i L _ hi ⟨-, nl, g0, g1, g2, g3, rfl, hq⟩
      have c1 : ¬ (10 : Int32) ≤ nI i := nI_ge (b := 10) hi (by decide)
      obtain ⟨N1, E1⟩ := ze_looseW (μ := μ) D hi x
      obtain ⟨N2, E2⟩ := ze_wholeW (μ := μ) (D + 1) hi hz
      have cw := zw_c (μ := μ) (zdW_at hi)
      by_cases c2 : zd_loose μ x i = true
      · rw [if_pos c2] at E1
        by_cases c3 : zd_whole μ z i = true
        · rw [if_pos c3] at E2
          left
          refine ⟨zi_set L 3 (.int (nI (i + 1))), zm_mk μ, ⟨N1 + N2, 19, fun F m hF => ?_⟩, by omega, ?_, ?_, ?_, ?_, zi_get_set_eq, rfl, zl_lt_s hq (by simp [zd_lwf, c3])⟩
          · simp (maxDischargeDepth := 9) [zg_0, zg_aaload, zg_aload_n, zg_bipush, zg_getfield, zg_goto, zg_iconst, zg_ifCond, zg_if_icmp, zg_iinc, zg_iload_n, zg_invokevirtual, zg_ireturn, zg_istore_n, zf_X5_looseOnesFit, zi_ld, zi_lda, zi_cmp, zi_retOk, zi_isI, zi_f3, zi_cr, zi_ci, zi_cn, zi_get_ne, zi_nl_i, zi_nl_r, zi_get_set_eq, nl, g0, g1, g2, g3, h10, c1, zd_g, zd_w hi, zq_Win_isLooseOn, zq_Win_canBeWhole, cw, E1 F (by omega), E2 F (by omega), nI_1]
          · simp (maxDischargeDepth := 9) [zi_get_ne, zi_nl_i, zi_nl_r, zi_get_set_eq, nl]
          · simp (maxDischargeDepth := 9) [zi_get_ne, zi_nl_i, zi_nl_r, zi_get_set_eq, nl, g0]
          · simp (maxDischargeDepth := 9) [zi_get_ne, zi_nl_i, zi_nl_r, zi_get_set_eq, nl, g1]
          · simp (maxDischargeDepth := 9) [zi_get_ne, zi_nl_i, zi_nl_r, zi_get_set_eq, nl, g2]
        · rw [if_neg c3] at E2
          have hz0 : zb (zl_al (zd_lwf μ x z) 10 = true) = 0 := if_neg (fun q => by
            have := (zl_al_iff 10).mp q i hi
            simp [zd_lwf, c2, c3] at this)
          right
          refine ⟨some (.int 0), zm_mk μ, ⟨N1 + N2, 19, fun F m hF => ?_⟩, by rw [hz0], rfl⟩
          simp (maxDischargeDepth := 9) [zg_0, zg_aaload, zg_aload_n, zg_bipush, zg_getfield, zg_goto, zg_iconst, zg_ifCond, zg_if_icmp, zg_iinc, zg_iload_n, zg_invokevirtual, zg_ireturn, zg_istore_n, zf_X5_looseOnesFit, zi_ld, zi_lda, zi_cmp, zi_retOk, zi_isI, zi_f3, zi_cr, zi_ci, zi_cn, zi_get_ne, zi_nl_i, zi_nl_r, zi_get_set_eq, nl, g0, g1, g2, g3, h10, c1, zd_g, zd_w hi, zq_Win_isLooseOn, zq_Win_canBeWhole, cw, E1 F (by omega), E2 F (by omega), nI_1]
      · rw [if_neg c2] at E1
        left
        refine ⟨zi_set L 3 (.int (nI (i + 1))), zm_mk μ, ⟨N1 + N2, 12, fun F m hF => ?_⟩, by omega, ?_, ?_, ?_, ?_, zi_get_set_eq, rfl, zl_lt_s hq (by simp [zd_lwf, c2])⟩
        · simp (maxDischargeDepth := 9) [zg_0, zg_aaload, zg_aload_n, zg_bipush, zg_getfield, zg_goto, zg_iconst, zg_ifCond, zg_if_icmp, zg_iinc, zg_iload_n, zg_invokevirtual, zg_ireturn, zg_istore_n, zf_X5_looseOnesFit, zi_ld, zi_lda, zi_cmp, zi_retOk, zi_isI, zi_f3, zi_cr, zi_ci, zi_cn, zi_get_ne, zi_nl_i, zi_nl_r, zi_get_set_eq, nl, g0, g1, g2, g3, h10, c1, zd_g, zd_w hi, zq_Win_isLooseOn, cw, E1 F (by omega), nI_1]
        · simp (maxDischargeDepth := 9) [zi_get_ne, zi_nl_i, zi_nl_r, zi_get_set_eq, nl]
        · simp (maxDischargeDepth := 9) [zi_get_ne, zi_nl_i, zi_nl_r, zi_get_set_eq, nl, g0]
        · simp (maxDischargeDepth := 9) [zi_get_ne, zi_nl_i, zi_nl_r, zi_get_set_eq, nl, g1]
        · simp (maxDischargeDepth := 9) [zi_get_ne, zi_nl_i, zi_nl_r, zi_get_set_eq, nl, g2]
    · rintro L _ ⟨-, nl, g0, g1, g2, g3, rfl, hq⟩
      have c1 : (10 : Int32) ≤ nI 10 := by decide
      have hz1 : zb (zl_al (zd_lwf μ x z) 10 = true) = 1 := if_pos ((zl_al_iff 10).mpr hq)
      rw [hz1]
      refine ⟨_, zm_mk μ, ⟨0, 5, fun F m hF => ?_⟩, rfl, rfl⟩
      simp [zg_0, zg_aaload, zg_aload_n, zg_bipush, zg_getfield, zg_goto, zg_iconst, zg_ifCond, zg_if_icmp, zg_iinc, zg_iload_n, zg_invokevirtual, zg_ireturn, zg_istore_n, zf_X5_looseOnesFit, zi_ld, zi_lda, zi_cmp, zi_retOk, zi_isI, zi_f3, zi_cr, zi_ci, zi_cn, g0, g3, h10, c1]
  obtain ⟨r, h', G, rfl, rfl⟩ := key
  refine ze_in [(0, .ref 1), (1, .int x), (2, .ref (z + 1))] zq_Desk_looseOnesFit (Nat.le_of_ble_eq_true rfl) rfl (ze_S.end ⟨0, 2, fun F m hF => ?_⟩ G)
  simp [zg_0, zg_aaload, zg_aload_n, zg_bipush, zg_getfield, zg_goto, zg_iconst, zg_ifCond, zg_if_icmp, zg_iinc, zg_iload_n, zg_invokevirtual, zg_ireturn, zg_istore_n, zf_X5_looseOnesFit, zi_ld, zi_lda, zi_cmp, zi_retOk, zi_isI, zi_f3, zi_cr, zi_ci, zi_cn, zi_get, zi_set, nI_0]
end ZD2
end
section
/-! the desk: windows sent, groups gathered -/
/-- g spreads to k, if dl holds of k and g of ow k: for k from 0 to n - 1, one after the other -/
noncomputable def zl_sp1 (dl : Nat → Bool) (ow : Nat → Nat) (g : Nat → Bool) : Nat → Nat → Bool
  | 0 => g
  | n + 1 => fun j => if j = n then zl_sp1 dl ow g n n || (dl n && zl_sp1 dl ow g n (ow n)) else zl_sp1 dl ow g n j
noncomputable def zl_spn (dl : Nat → Bool) (ow : Nat → Nat) (g : Nat → Bool) : Nat → Nat → Bool
  | 0 => g
  | m + 1 => zl_sp1 dl ow (zl_spn dl ow g m) 10
section ZG1
variable {μ : zm_M}
noncomputable def zd_th (μ : zm_M) (k : Nat) : Bool := decide (¬ μ (zdW k) 2 = 0)
theorem ze_thW (D : Nat) {k : Nat} (h : k < 10) : ze_E (D + 1) A_Desk_isWindow [.ref 1, .int (nI k)] (zm_mk μ) (some (.int (if zd_th μ k = true then 1 else 0))) (zm_mk μ) := by
  have := ze_isWindow_in (μ := μ) D h
  rw [zb_dec] at this
  exact this
noncomputable def zd_ow (μ : zm_M) (k : Nat) : Nat := (μ (zdW k) 4).toNatClampNeg
noncomputable def zd_dl (μ : zm_M) (k : Nat) : Bool := decide (¬ μ (zdW k) 2 = 0 ∧ (¬ μ (zdW k) 4 < 0 ∧ ¬ (10 : Int32) ≤ μ (zdW k) 4) ∧ ¬ μ (zdW (zd_ow μ k)) 2 = 0)
/-- only the windows' screens (those that p holds of: x) and places differ -/
noncomputable def zd_snt (μ ν : zm_M) (p : Nat → Bool) (x : Int32) : Prop :=
  (∀ k, k < 10 → ν (zdW k) 5 = if p k = true then x else μ (zdW k) 5) ∧ ∀ c b, (∀ k, k < 10 → c = zdW k → b ≠ 5) → (∀ k, k < 10 → c ≠ zdW k + 2) → ν c b = μ c b
theorem zw_send_5 {w z : Nat} {s : Int32} : zw_send μ w z s w 5 = s := by
  unfold zw_send
  split
  · unfold zw_put
    rw [zm_up_ne (by omega), zm_up_ne (by omega), zm_up_eq]
  · exact zm_up_eq
theorem zw_send_ne {w z c b : Nat} {s : Int32} (h1 : ¬ (c = w ∧ b = 5)) (h2 : c ≠ w + 2) : zw_send μ w z s c b = μ c b := by
  unfold zw_send
  split
  · unfold zw_put
    rw [zm_up_ne (fun e => h2 e.1), zm_up_ne (fun e => h2 e.1), zm_up_ne h1]
  · exact zm_up_ne h1
theorem zdW_inj {i j : Nat} (h : zdW i = zdW j) : i = j := by
  unfold zdW at h
  omega
theorem zd_snt_0 {p : Nat → Bool} {x : Int32} : zd_snt μ μ (fun k => decide (k < 0) && p k) x := by
  refine ⟨fun k _ => ?_, fun _ _ _ _ => rfl⟩
  rw [if_neg (by simp)]
theorem zd_snt_s {ν : zm_M} {p : Nat → Bool} {x : Int32} {i z : Nat} (hi : i < 10) (h : zd_snt μ ν (fun k => decide (k < i) && p k) x) (hp : p i = true) : zd_snt μ (zw_send ν (zdW i) z x) (fun k => decide (k < i + 1) && p k) x := by
  obtain ⟨h1, h2⟩ := h
  refine ⟨fun k hk => ?_, fun c b q1 q2 => ?_⟩
  · by_cases e : k = i
    · subst e
      rw [zw_send_5, if_pos (by simp [hp])]
    · rw [zw_send_ne (fun q => e (zdW_inj q.1)) (by unfold zdW; omega), h1 k hk]
      have e2 : (decide (k < i + 1) && p k) = (decide (k < i) && p k) := by
        have : (k < i + 1) = (k < i) := by
          apply propext
          omega
        rw [decide_eq_decide.mpr (by rw [this])]
      simp only [e2]
  · rw [zw_send_ne (fun q => q1 i hi q.1 q.2) (q2 i hi)]
    exact h2 c b q1 q2
theorem zd_snt_n {ν : zm_M} {p : Nat → Bool} {x : Int32} {i : Nat} (h : zd_snt μ ν (fun k => decide (k < i) && p k) x) (hp : p i = false) : zd_snt μ ν (fun k => decide (k < i + 1) && p k) x := by
  obtain ⟨h1, h2⟩ := h
  refine ⟨fun k hk => ?_, h2⟩
  rw [h1 k hk]
  by_cases e : k = i
  · subst e
    rw [if_neg (by simp), if_neg (by simp [hp])]
  · have e2 : (decide (k < i + 1) && p k) = (decide (k < i) && p k) := by
      have : (k < i + 1) = (k < i) := by
        apply propext
        omega
      rw [decide_eq_decide.mpr (by rw [this])]
    simp only [e2]
theorem zd_snt_10 {ν : zm_M} {p : Nat → Bool} {x : Int32} (h : zd_snt μ ν (fun k => decide (k < 10) && p k) x) : zd_snt μ ν p x := by
  refine ⟨fun k hk => ?_, h.2⟩
  rw [h.1 k hk]
  have e : (decide (k < 10) && p k) = p k := by simp [hk]
  simp only [e]
/-- of a window that hasn't been sent yet all stands as it was -/
theorem zd_snt_w {ν : zm_M} {p : Nat → Bool} {x : Int32} {i : Nat} (hi : i < 10) (h : zd_snt μ ν (fun k => decide (k < i) && p k) x) : (∀ b, ν (zdW i) b = μ (zdW i) b) := by
  intro b
  by_cases e : b = 5
  · subst e
    rw [h.1 i hi, if_neg (by simp)]
  · exact h.2 _ _ (fun _ _ _ => e) (fun k hk => by unfold zdW; omega)
set_option maxRecDepth 100000 in
theorem ze_sendAll (D : Nat) (x : Int32) {t : Nat} (ht : t < 3) : ∃ ν, ze_E (D + 6) A_Desk_sendAll [.ref 1, .int x, .int (nI t)] (zm_mk μ) none (zm_mk ν) ∧ zd_snt μ ν (zd_on μ x) (nI t) := by
  have h10 : (Int8.ofInt 10).toInt32 = (10 : Int32) := by decide
  have key : ∃ r h', ze_G (D + 5) 4 none zc_X5_sendAll 2 [(3, .int (nI 0)), (0, .ref 1), (1, .int x), (2, .int (nI t))] [] (zm_mk μ) r h' ∧ (r = none ∧ ∃ ν, zm_mk ν = h' ∧ zd_snt μ ν (zd_on μ x) (nI t)) := by
    refine ze_loop (Q := fun i L hp => i ≤ 10 ∧ zi_nl L = true ∧ zi_get L 0 = some (.ref 1) ∧ zi_get L 1 = some (.int x) ∧ zi_get L 2 = some (.int (nI t)) ∧ zi_get L 3 = some (.int (nI i)) ∧ ∃ ν : zm_M, zm_mk ν = hp ∧ (zd_snt μ ν (fun k => decide (k < i) && zd_on μ x k) (nI t)) ∧ (True)) (R := fun r h' => r = none ∧ ∃ ν, zm_mk ν = h' ∧ zd_snt μ ν (zd_on μ x) (nI t)) 10 ?_ ?_ 10 0 _ _ (by omega) ⟨by omega, rfl, rfl, rfl, rfl, rfl, μ, rfl, zd_snt_0, trivial⟩
    · rintro i L _ hi ⟨-, nl, g0, g1, g2, g3, ν, rfl, hA, hq⟩
      have c1 : ¬ (10 : Int32) ≤ nI i := nI_ge (b := 10) hi (by decide)
      have hw := zd_snt_w hi hA
      obtain ⟨N1, E1⟩ := ze_onW (μ := ν) (D + 4) hi x
      have eo : zd_on ν x i = zd_on μ x i := by
        unfold zd_on
        rw [hw, hw, hw]
      rw [eo] at E1
      have cw := zw_c (μ := ν) (zdW_at hi)
      by_cases c2 : zd_on μ x i = true
      · rw [if_pos c2] at E1
        obtain ⟨N2, E2⟩ := ze_sendTo (μ := ν) D (zdW_at hi) (zdZ_A ht) (by unfold zdZ zdW; omega) (nI t)
        left
        refine ⟨zi_set L 3 (.int (nI (i + 1))), zm_mk (zw_send ν (zdW i) (zdZ t) (nI t)), ⟨N1 + N2, 23, fun F m hF => ?_⟩, by omega, ?_, ?_, ?_, ?_, zi_get_set_eq, _, rfl, zd_snt_s hi hA c2, trivial⟩
        · simp (maxDischargeDepth := 9) [zg_0, zg_aaload, zg_aload_n, zg_bipush, zg_getfield, zg_goto, zg_iconst, zg_ifCond, zg_if_icmp, zg_iinc, zg_iload_n, zg_invokevirtual, zg_istore_n, zg_return, zf_X5_sendAll, zi_ld, zi_lda, zi_cmp, zi_retOk, zi_isI, zi_f3, zi_cr, zi_ci, zi_cn, zi_get_ne, zi_nl_i, zi_nl_r, zi_get_set_eq, nl, g0, g1, g2, g3, h10, c1, zd_g, zd_w hi, zq_Win_isOn, zq_Win_sendTo, cw, zd_s ht, zdS_g ht, E1 F (by omega), E2 F (by omega), nI_1]
        · simp (maxDischargeDepth := 9) [zi_get_ne, zi_nl_i, zi_nl_r, zi_get_set_eq, nl]
        · simp (maxDischargeDepth := 9) [zi_get_ne, zi_nl_i, zi_nl_r, zi_get_set_eq, nl, g0]
        · simp (maxDischargeDepth := 9) [zi_get_ne, zi_nl_i, zi_nl_r, zi_get_set_eq, nl, g1]
        · simp (maxDischargeDepth := 9) [zi_get_ne, zi_nl_i, zi_nl_r, zi_get_set_eq, nl, g2]
      · rw [if_neg c2] at E1
        have N2 : Nat := 0
        left
        refine ⟨zi_set L 3 (.int (nI (i + 1))), zm_mk ν, ⟨N1 + N2, 12, fun F m hF => ?_⟩, by omega, ?_, ?_, ?_, ?_, zi_get_set_eq, ν, rfl, zd_snt_n hA (by simpa using c2), trivial⟩
        · simp (maxDischargeDepth := 9) [zg_0, zg_aaload, zg_aload_n, zg_bipush, zg_getfield, zg_goto, zg_iconst, zg_ifCond, zg_if_icmp, zg_iinc, zg_iload_n, zg_invokevirtual, zg_istore_n, zg_return, zf_X5_sendAll, zi_ld, zi_lda, zi_cmp, zi_retOk, zi_isI, zi_f3, zi_cr, zi_ci, zi_cn, zi_get_ne, zi_nl_i, zi_nl_r, zi_get_set_eq, nl, g0, g1, g2, g3, h10, c1, zd_g, zd_w hi, zq_Win_isOn, cw, E1 F (by omega), nI_1]
        · simp (maxDischargeDepth := 9) [zi_get_ne, zi_nl_i, zi_nl_r, zi_get_set_eq, nl]
        · simp (maxDischargeDepth := 9) [zi_get_ne, zi_nl_i, zi_nl_r, zi_get_set_eq, nl, g0]
        · simp (maxDischargeDepth := 9) [zi_get_ne, zi_nl_i, zi_nl_r, zi_get_set_eq, nl, g1]
        · simp (maxDischargeDepth := 9) [zi_get_ne, zi_nl_i, zi_nl_r, zi_get_set_eq, nl, g2]
    · rintro L _ ⟨-, nl, g0, g1, g2, g3, ν, rfl, hA, hq⟩
      have c1 : (10 : Int32) ≤ nI 10 := by decide
      refine ⟨none, zm_mk ν, ⟨0, 4, fun F m hF => ?_⟩, rfl, ν, rfl, zd_snt_10 hA⟩
      simp [zg_0, zg_aaload, zg_aload_n, zg_bipush, zg_getfield, zg_goto, zg_iconst, zg_ifCond, zg_if_icmp, zg_iinc, zg_iload_n, zg_invokevirtual, zg_istore_n, zg_return, zf_X5_sendAll, zi_ld, zi_lda, zi_cmp, zi_retOk, zi_isI, zi_f3, zi_cr, zi_ci, zi_cn, g0, g3, h10, c1]
  obtain ⟨r, h', G, rfl, ν, rfl, hA⟩ := key
  refine ⟨ν, ze_in [(0, .ref 1), (1, .int x), (2, .int (nI t))] zq_Desk_sendAll (Nat.le_of_ble_eq_true rfl) rfl (ze_S.end ⟨0, 2, fun F m hF => ?_⟩ G), hA⟩
  simp [zg_0, zg_aaload, zg_aload_n, zg_bipush, zg_getfield, zg_goto, zg_iconst, zg_ifCond, zg_if_icmp, zg_iinc, zg_iload_n, zg_invokevirtual, zg_istore_n, zg_return, zf_X5_sendAll, zi_ld, zi_lda, zi_cmp, zi_retOk, zi_isI, zi_f3, zi_cr, zi_ci, zi_cn, zi_get, zi_set, nI_0]
/-- the group, as truth values -/
noncomputable def zd_gr (μ : zm_M) (g : Nat → Bool) : Prop := ∀ k, k < 10 → μ 31 k = if g k = true then 1 else 0
set_option maxRecDepth 100000 in
theorem ze_sendGroup (D : Nat) {g : Nat → Bool} (hg : zd_gr μ g) {t : Nat} (ht : t < 3) : ∃ ν, ze_E (D + 6) A_Desk_sendGroup [.ref 1, .int (nI t)] (zm_mk μ) none (zm_mk ν) ∧ zd_snt μ ν g (nI t) := by
  have h10 : (Int8.ofInt 10).toInt32 = (10 : Int32) := by decide
  have key : ∃ r h', ze_G (D + 5) 3 none zc_X5_sendGroup 2 [(2, .int (nI 0)), (0, .ref 1), (1, .int (nI t))] [] (zm_mk μ) r h' ∧ (r = none ∧ ∃ ν, zm_mk ν = h' ∧ zd_snt μ ν g (nI t)) := by
    refine ze_loop (Q := fun i L hp => i ≤ 10 ∧ zi_nl L = true ∧ zi_get L 0 = some (.ref 1) ∧ zi_get L 1 = some (.int (nI t)) ∧ zi_get L 2 = some (.int (nI i)) ∧ ∃ ν : zm_M, zm_mk ν = hp ∧ (zd_snt μ ν (fun k => decide (k < i) && g k) (nI t)) ∧ (True)) (R := fun r h' => r = none ∧ ∃ ν, zm_mk ν = h' ∧ zd_snt μ ν g (nI t)) 10 ?_ ?_ 10 0 _ _ (by omega) ⟨by omega, rfl, rfl, rfl, rfl, μ, rfl, zd_snt_0, trivial⟩
    · rintro i L _ hi ⟨-, nl, g0, g1, g2, ν, rfl, hA, hq⟩
      have c1 : ¬ (10 : Int32) ≤ nI i := nI_ge (b := 10) hi (by decide)
      have i1 : zi_in (nI i) 10 = true := zm_in hi (by decide)
      have e1 : (nI i).toNatClampNeg = i := nI_clamp (by omega)
      have hgi : ν 31 i = if g i = true then 1 else 0 := by
        rw [hA.2 31 i (fun k _ e => by unfold zdW at e; omega) (fun k _ => by unfold zdW; omega)]
        exact hg i hi
      have cw := zw_c (μ := ν) (zdW_at hi)
      by_cases c2 : g i = true
      · rw [if_pos c2] at hgi
        obtain ⟨N2, E2⟩ := ze_sendTo (μ := ν) D (zdW_at hi) (zdZ_A ht) (by unfold zdZ zdW; omega) (nI t)
        left
        refine ⟨zi_set L 2 (.int (nI (i + 1))), zm_mk (zw_send ν (zdW i) (zdZ t) (nI t)), ⟨N2, 21, fun F m hF => ?_⟩, by omega, ?_, ?_, ?_, zi_get_set_eq, _, rfl, zd_snt_s hi hA c2, trivial⟩
        · simp (maxDischargeDepth := 9) [zg_0, zg_aaload, zg_aload_n, zg_baload, zg_bipush, zg_getfield, zg_goto, zg_iconst, zg_ifCond, zg_if_icmp, zg_iinc, zg_iload_n, zg_invokevirtual, zg_istore_n, zg_return, zf_X5_sendGroup, zi_ld, zi_lda, zi_cmp, zi_retOk, zi_isI, zi_f3, zi_cr, zi_ci, zi_cn, zi_get_ne, zi_nl_i, zi_nl_r, zi_get_set_eq, nl, g0, g1, g2, h10, c1, zd_g, zd_w hi, zm_bald zd31_A i1, e1, hgi, zq_Win_sendTo, cw, zd_s ht, zdS_g ht, E2 F (by omega), nI_1]
        · simp (maxDischargeDepth := 9) [zi_get_ne, zi_nl_i, zi_nl_r, zi_get_set_eq, nl]
        · simp (maxDischargeDepth := 9) [zi_get_ne, zi_nl_i, zi_nl_r, zi_get_set_eq, nl, g0]
        · simp (maxDischargeDepth := 9) [zi_get_ne, zi_nl_i, zi_nl_r, zi_get_set_eq, nl, g1]
      · rw [if_neg c2] at hgi
        have N2 : Nat := 0
        left
        refine ⟨zi_set L 2 (.int (nI (i + 1))), zm_mk ν, ⟨N2, 10, fun F m hF => ?_⟩, by omega, ?_, ?_, ?_, zi_get_set_eq, ν, rfl, zd_snt_n hA (by simpa using c2), trivial⟩
        · simp (maxDischargeDepth := 9) [zg_0, zg_aaload, zg_aload_n, zg_baload, zg_bipush, zg_getfield, zg_goto, zg_iconst, zg_ifCond, zg_if_icmp, zg_iinc, zg_iload_n, zg_invokevirtual, zg_istore_n, zg_return, zf_X5_sendGroup, zi_ld, zi_lda, zi_cmp, zi_retOk, zi_isI, zi_f3, zi_cr, zi_ci, zi_cn, zi_get_ne, zi_nl_i, zi_nl_r, zi_get_set_eq, nl, g0, g1, g2, h10, c1, zd_g, zm_bald zd31_A i1, e1, hgi, nI_1]
        · simp (maxDischargeDepth := 9) [zi_get_ne, zi_nl_i, zi_nl_r, zi_get_set_eq, nl]
        · simp (maxDischargeDepth := 9) [zi_get_ne, zi_nl_i, zi_nl_r, zi_get_set_eq, nl, g0]
        · simp (maxDischargeDepth := 9) [zi_get_ne, zi_nl_i, zi_nl_r, zi_get_set_eq, nl, g1]
    · rintro L _ ⟨-, nl, g0, g1, g2, ν, rfl, hA, hq⟩
      have c1 : (10 : Int32) ≤ nI 10 := by decide
      refine ⟨none, zm_mk ν, ⟨0, 4, fun F m hF => ?_⟩, rfl, ν, rfl, zd_snt_10 hA⟩
      simp [zg_0, zg_aaload, zg_aload_n, zg_baload, zg_bipush, zg_getfield, zg_goto, zg_iconst, zg_ifCond, zg_if_icmp, zg_iinc, zg_iload_n, zg_invokevirtual, zg_istore_n, zg_return, zf_X5_sendGroup, zi_ld, zi_lda, zi_cmp, zi_retOk, zi_isI, zi_f3, zi_cr, zi_ci, zi_cn, g0, g2, h10, c1]
  obtain ⟨r, h', G, rfl, ν, rfl, hA⟩ := key
  refine ⟨ν, ze_in [(0, .ref 1), (1, .int (nI t))] zq_Desk_sendGroup (Nat.le_of_ble_eq_true rfl) rfl (ze_S.end ⟨0, 2, fun F m hF => ?_⟩ G), hA⟩
  simp [zg_0, zg_aaload, zg_aload_n, zg_baload, zg_bipush, zg_getfield, zg_goto, zg_iconst, zg_ifCond, zg_if_icmp, zg_iinc, zg_iload_n, zg_invokevirtual, zg_istore_n, zg_return, zf_X5_sendGroup, zi_ld, zi_lda, zi_cmp, zi_retOk, zi_isI, zi_f3, zi_cr, zi_ci, zi_cn, zi_get, zi_set, nI_0]
noncomputable def zd_gwf (μ : zm_M) (g : Nat → Bool) (z k : Nat) : Bool := !(g k && zd_flo μ k) || zd_whole μ z k
set_option maxRecDepth 100000 in
theorem ze_groupCanBeWhole (D : Nat) {g : Nat → Bool} (hg : zd_gr μ g) {t : Nat} (ht : t < 3) : ze_E (D + 2) A_Desk_groupCanBeWhole [.ref 1, .int (nI t)] (zm_mk μ) (some (.int (if zl_al (zd_gwf μ g (zdZ t)) 10 = true then 1 else 0))) (zm_mk μ) := by
  have h10 : (Int8.ofInt 10).toInt32 = (10 : Int32) := by decide
  have key : ∃ r h', ze_G (D + 1) 3 (some .boolean) zc_X5_groupCanBeWhole 2 [(2, .int (nI 0)), (0, .ref 1), (1, .int (nI t))] [] (zm_mk μ) r h' ∧ (r = some (.int (if zl_al (zd_gwf μ g (zdZ t)) 10 = true then 1 else 0)) ∧ zm_mk μ = h') := by
    refine ze_loop (Q := fun i L hp => i ≤ 10 ∧ zi_nl L = true ∧ zi_get L 0 = some (.ref 1) ∧ zi_get L 1 = some (.int (nI t)) ∧ zi_get L 2 = some (.int (nI i)) ∧ zm_mk μ = hp ∧ (∀ j, j < i → zd_gwf μ g (zdZ t) j = true)) (R := fun r h' => r = some (.int (if zl_al (zd_gwf μ g (zdZ t)) 10 = true then 1 else 0)) ∧ zm_mk μ = h') 10 ?_ ?_ 10 0 _ _ (by omega) ⟨by omega, rfl, rfl, rfl, rfl, rfl, fun j hj => absurd hj (by omega)⟩
    · rintro i L _ hi ⟨-, nl, g0, g1, g2, rfl, hq⟩
      have c1 : ¬ (10 : Int32) ≤ nI i := nI_ge (b := 10) hi (by decide)
      have i1 : zi_in (nI i) 10 = true := zm_in hi (by decide)
      have e1 : (nI i).toNatClampNeg = i := nI_clamp (by omega)
      have hgi := hg i hi
      have cw := zw_c (μ := μ) (zdW_at hi)
      obtain ⟨N1, E1⟩ := ze_floW (μ := μ) D hi
      obtain ⟨N2, E2⟩ := ze_wholeW (μ := μ) D hi (zdZ_A ht)
      by_cases c2 : g i = true
      · rw [if_pos c2] at hgi
        by_cases c3 : zd_flo μ i = true
        · rw [if_pos c3] at E1
          by_cases c4 : zd_whole μ (zdZ t) i = true
          · rw [if_pos c4] at E2
            left
            refine ⟨zi_set L 2 (.int (nI (i + 1))), zm_mk μ, ⟨N1 + N2, 27, fun F m hF => ?_⟩, by omega, ?_, ?_, ?_, zi_get_set_eq, rfl, zl_lt_s hq (by simp [zd_gwf, c4])⟩
            · simp (maxDischargeDepth := 9) [zg_0, zg_aaload, zg_aload_n, zg_baload, zg_bipush, zg_getfield, zg_goto, zg_iconst, zg_ifCond, zg_if_icmp, zg_iinc, zg_iload_n, zg_invokevirtual, zg_ireturn, zg_istore_n, zf_X5_groupCanBeWhole, zi_ld, zi_lda, zi_cmp, zi_retOk, zi_isI, zi_f3, zi_cr, zi_ci, zi_cn, zi_get_ne, zi_nl_i, zi_nl_r, zi_get_set_eq, nl, g0, g1, g2, h10, c1, zd_g, zd_w hi, zm_bald zd31_A i1, e1, hgi, zq_Win_isFloating, zq_Win_canBeWhole, cw, zd_s ht, zdS_g ht, E1 F (by omega), E2 F (by omega), nI_1]
            · simp (maxDischargeDepth := 9) [zi_get_ne, zi_nl_i, zi_nl_r, zi_get_set_eq, nl]
            · simp (maxDischargeDepth := 9) [zi_get_ne, zi_nl_i, zi_nl_r, zi_get_set_eq, nl, g0]
            · simp (maxDischargeDepth := 9) [zi_get_ne, zi_nl_i, zi_nl_r, zi_get_set_eq, nl, g1]
          · rw [if_neg c4] at E2
            have hz0 : ¬ zl_al (zd_gwf μ g (zdZ t)) 10 = true := fun q => by
              have := (zl_al_iff 10).mp q i hi
              simp [zd_gwf, c2, c3, c4] at this
            rw [if_neg hz0]
            right
            refine ⟨some (.int 0), zm_mk μ, ⟨N1 + N2, 27, fun F m hF => ?_⟩, rfl, rfl⟩
            simp (maxDischargeDepth := 9) [zg_0, zg_aaload, zg_aload_n, zg_baload, zg_bipush, zg_getfield, zg_goto, zg_iconst, zg_ifCond, zg_if_icmp, zg_iinc, zg_iload_n, zg_invokevirtual, zg_ireturn, zg_istore_n, zf_X5_groupCanBeWhole, zi_ld, zi_lda, zi_cmp, zi_retOk, zi_isI, zi_f3, zi_cr, zi_ci, zi_cn, zi_get_ne, zi_nl_i, zi_nl_r, zi_get_set_eq, nl, g0, g1, g2, h10, c1, zd_g, zd_w hi, zm_bald zd31_A i1, e1, hgi, zq_Win_isFloating, zq_Win_canBeWhole, cw, zd_s ht, zdS_g ht, E1 F (by omega), E2 F (by omega), nI_1]
        · rw [if_neg c3] at E1
          left
          refine ⟨zi_set L 2 (.int (nI (i + 1))), zm_mk μ, ⟨N1 + N2, 16, fun F m hF => ?_⟩, by omega, ?_, ?_, ?_, zi_get_set_eq, rfl, zl_lt_s hq (by simp [zd_gwf, c3])⟩
          · simp (maxDischargeDepth := 9) [zg_0, zg_aaload, zg_aload_n, zg_baload, zg_bipush, zg_getfield, zg_goto, zg_iconst, zg_ifCond, zg_if_icmp, zg_iinc, zg_iload_n, zg_invokevirtual, zg_ireturn, zg_istore_n, zf_X5_groupCanBeWhole, zi_ld, zi_lda, zi_cmp, zi_retOk, zi_isI, zi_f3, zi_cr, zi_ci, zi_cn, zi_get_ne, zi_nl_i, zi_nl_r, zi_get_set_eq, nl, g0, g1, g2, h10, c1, zd_g, zd_w hi, zm_bald zd31_A i1, e1, hgi, zq_Win_isFloating, cw, E1 F (by omega), nI_1]
          · simp (maxDischargeDepth := 9) [zi_get_ne, zi_nl_i, zi_nl_r, zi_get_set_eq, nl]
          · simp (maxDischargeDepth := 9) [zi_get_ne, zi_nl_i, zi_nl_r, zi_get_set_eq, nl, g0]
          · simp (maxDischargeDepth := 9) [zi_get_ne, zi_nl_i, zi_nl_r, zi_get_set_eq, nl, g1]
      · rw [if_neg c2] at hgi
        left
        refine ⟨zi_set L 2 (.int (nI (i + 1))), zm_mk μ, ⟨N1 + N2, 10, fun F m hF => ?_⟩, by omega, ?_, ?_, ?_, zi_get_set_eq, rfl, zl_lt_s hq (by simp [zd_gwf, c2])⟩
        · simp (maxDischargeDepth := 9) [zg_0, zg_aaload, zg_aload_n, zg_baload, zg_bipush, zg_getfield, zg_goto, zg_iconst, zg_ifCond, zg_if_icmp, zg_iinc, zg_iload_n, zg_invokevirtual, zg_ireturn, zg_istore_n, zf_X5_groupCanBeWhole, zi_ld, zi_lda, zi_cmp, zi_retOk, zi_isI, zi_f3, zi_cr, zi_ci, zi_cn, zi_get_ne, zi_nl_i, zi_nl_r, zi_get_set_eq, nl, g0, g1, g2, h10, c1, zd_g, zm_bald zd31_A i1, e1, hgi, nI_1]
        · simp (maxDischargeDepth := 9) [zi_get_ne, zi_nl_i, zi_nl_r, zi_get_set_eq, nl]
        · simp (maxDischargeDepth := 9) [zi_get_ne, zi_nl_i, zi_nl_r, zi_get_set_eq, nl, g0]
        · simp (maxDischargeDepth := 9) [zi_get_ne, zi_nl_i, zi_nl_r, zi_get_set_eq, nl, g1]
    · rintro L _ ⟨-, nl, g0, g1, g2, rfl, hq⟩
      have c1 : (10 : Int32) ≤ nI 10 := by decide
      rw [if_pos ((zl_al_iff 10).mpr hq)]
      refine ⟨_, zm_mk μ, ⟨0, 5, fun F m hF => ?_⟩, rfl, rfl⟩
      simp [zg_0, zg_aaload, zg_aload_n, zg_baload, zg_bipush, zg_getfield, zg_goto, zg_iconst, zg_ifCond, zg_if_icmp, zg_iinc, zg_iload_n, zg_invokevirtual, zg_ireturn, zg_istore_n, zf_X5_groupCanBeWhole, zi_ld, zi_lda, zi_cmp, zi_retOk, zi_isI, zi_f3, zi_cr, zi_ci, zi_cn, g0, g2, h10, c1]
  obtain ⟨r, h', G, rfl, rfl⟩ := key
  refine ze_in [(0, .ref 1), (1, .int (nI t))] zq_Desk_groupCanBeWhole (Nat.le_of_ble_eq_true rfl) rfl (ze_S.end ⟨0, 2, fun F m hF => ?_⟩ G)
  simp [zg_0, zg_aaload, zg_aload_n, zg_baload, zg_bipush, zg_getfield, zg_goto, zg_iconst, zg_ifCond, zg_if_icmp, zg_iinc, zg_iload_n, zg_invokevirtual, zg_ireturn, zg_istore_n, zf_X5_groupCanBeWhole, zi_ld, zi_lda, zi_cmp, zi_retOk, zi_isI, zi_f3, zi_cr, zi_ci, zi_cn, zi_get, zi_set, nI_0]
end ZG1
end
section
/-! the desk: dialogs gathered -/
section ZG2
variable {μ : zm_M}
theorem zd_dl_of {ν : zm_M} (f : ∀ c, c ≠ 31 → ν c = μ c) (k : Nat) : zd_th ν k = zd_th μ k ∧ ν (zdW k) = μ (zdW k) := by
  have : ∀ k, ν (zdW k) = μ (zdW k) := fun k => f _ (by unfold zdW; omega)
  refine ⟨?_, this k⟩
  unfold zd_th
  rw [this]
set_option maxRecDepth 100000 in
theorem ze_gatherDialogs (D : Nat) {g : Nat → Bool} (hg : zd_gr μ g) : ∃ ν, ze_E (D + 2) A_Desk_gatherDialogs [.ref 1] (zm_mk μ) none (zm_mk ν) ∧ (∀ c, c ≠ 31 → ν c = μ c) ∧ zd_gr ν (zl_spn (zd_dl μ) (zd_ow μ) g 10) := by
  have h10 : (Int8.ofInt 10).toInt32 = (10 : Int32) := by decide
  have key : ∃ r h', ze_G (D + 1) 3 none zc_X5_gatherDialogs 2 [(1, .int (nI 0)), (0, .ref 1)] [] (zm_mk μ) r h' ∧ (r = none ∧ ∃ ν, zm_mk ν = h' ∧ (∀ c, c ≠ 31 → ν c = μ c) ∧ zd_gr ν (zl_spn (zd_dl μ) (zd_ow μ) g 10)) := by
    refine ze_loop (Q := fun i L hp => i ≤ 10 ∧ zi_nl L = true ∧ zi_get L 0 = some (.ref 1) ∧ zi_get L 1 = some (.int (nI i)) ∧ ∃ ν : zm_M, zm_mk ν = hp ∧ (∀ c, c ≠ 31 → ν c = μ c) ∧ zd_gr ν (zl_spn (zd_dl μ) (zd_ow μ) g i)) (R := fun r h' => r = none ∧ ∃ ν, zm_mk ν = h' ∧ (∀ c, c ≠ 31 → ν c = μ c) ∧ zd_gr ν (zl_spn (zd_dl μ) (zd_ow μ) g 10)) 10 ?_ ?_ 10 0 _ _ (by omega) ⟨by omega, rfl, rfl, rfl, μ, rfl, fun _ _ => rfl, hg⟩
    · rintro i0 L _ hi0 ⟨-, nl, g0, g1, ν, rfl, f, hA⟩
      left
      generalize hG : zl_spn (zd_dl μ) (zd_ow μ) g i0 = G at hA
      have hG1 : zl_spn (zd_dl μ) (zd_ow μ) g (i0 + 1) = zl_sp1 (zd_dl μ) (zd_ow μ) G 10 := by rw [← hG]; rfl
      have inner : ∃ L' h', ze_S (D + 1) 3 none zc_X5_gatherDialogs 10 (zi_set L 2 (.int (nI 0))) [] (zm_mk ν) 70 L' [] h' ∧ (zi_nl L' = true ∧ zi_get L' 0 = some (.ref 1) ∧ zi_get L' 1 = some (.int (nI i0)) ∧ ∃ ξ : zm_M, zm_mk ξ = h' ∧ (∀ c, c ≠ 31 → ξ c = μ c) ∧ zd_gr ξ (zl_sp1 (zd_dl μ) (zd_ow μ) G 10)) := by
        have z0 : zi_nl (zi_set L 2 (.int (nI 0))) = true := by simp (maxDischargeDepth := 9) [zi_get_ne, zi_nl_i, zi_nl_r, zi_get_set_eq, nl]
        have z1 : zi_get (zi_set L 2 (.int (nI 0))) 0 = some (.ref 1) := by simp (maxDischargeDepth := 9) [zi_get_ne, zi_nl_i, zi_nl_r, zi_get_set_eq, nl, g0]
        have z2 : zi_get (zi_set L 2 (.int (nI 0))) 1 = some (.int (nI i0)) := by simp (maxDischargeDepth := 9) [zi_get_ne, zi_nl_i, zi_nl_r, zi_get_set_eq, nl, g1]
        have z3 : zi_get (zi_set L 2 (.int (nI 0))) 2 = some (.int (nI 0)) := zi_get_set_eq
        generalize zi_set L 2 (.int (nI 0)) = L0 at z0 z1 z2 z3
        refine ze_loopS (Q := fun i L hp => i ≤ 10 ∧ zi_nl L = true ∧ zi_get L 0 = some (.ref 1) ∧ zi_get L 1 = some (.int (nI i0)) ∧ zi_get L 2 = some (.int (nI i)) ∧ ∃ ξ : zm_M, zm_mk ξ = hp ∧ (∀ c, c ≠ 31 → ξ c = μ c) ∧ (zd_gr ξ (zl_sp1 (zd_dl μ) (zd_ow μ) G i)) ∧ (True)) (R := fun L' h' => zi_nl L' = true ∧ zi_get L' 0 = some (.ref 1) ∧ zi_get L' 1 = some (.int (nI i0)) ∧ ∃ ξ : zm_M, zm_mk ξ = h' ∧ (∀ c, c ≠ 31 → ξ c = μ c) ∧ zd_gr ξ (zl_sp1 (zd_dl μ) (zd_ow μ) G 10)) 10 ?_ ?_ 10 0 _ _ (by omega) ⟨by omega, z0, z1, z2, z3, ν, rfl, f, hA, trivial⟩
        · rintro i L _ hi ⟨-, nl, g0, g1, g2, ξ, rfl, f', hB, hq⟩
          have c1 : ¬ (10 : Int32) ≤ nI i := nI_ge (b := 10) hi (by decide)
          have i1 : zi_in (nI i) 10 = true := zm_in hi (by decide)
          have e1 : (nI i).toNatClampNeg = i := nI_clamp (by omega)
          obtain ⟨w1, w2⟩ := zd_dl_of f' i
          obtain ⟨N1, E1⟩ := ze_thW (μ := ξ) D hi
          rw [w1] at E1
          have hno : zd_dl μ i = false → zd_gr ξ (zl_sp1 (zd_dl μ) (zd_ow μ) G (i + 1)) := by
            intro hd k hk
            rw [hB k hk]
            show _ = if (if k = i then zl_sp1 (zd_dl μ) (zd_ow μ) G i i || (zd_dl μ i && zl_sp1 (zd_dl μ) (zd_ow μ) G i (zd_ow μ i)) else zl_sp1 (zd_dl μ) (zd_ow μ) G i k) = true then _ else _
            by_cases e : k = i
            · subst e
              rw [if_pos rfl, hd, Bool.false_and, Bool.or_false]
            · rw [if_neg e]
          by_cases c2 : zd_th μ i = true
          · rw [if_pos c2] at E1
            have c2' : ¬ μ (zdW i) 2 = 0 := of_decide_eq_true c2
            rcases zd_rng (μ (zdW i) 4) 10 (by decide) with ⟨o, ho, eo⟩ | hout
            · obtain ⟨u1, u2⟩ := zd_dl_of f' o
              obtain ⟨N2, E2⟩ := ze_thW (μ := ξ) D ho
              rw [u1] at E2
              have io : zi_in (nI o) 10 = true := zm_in ho (by decide)
              have co : (nI o).toNatClampNeg = o := nI_clamp (by omega)
              have eow : zd_ow μ i = o := by unfold zd_ow; rw [eo, co]
              have x4 : ξ (zdW i) 4 = nI o := by rw [w2]; exact eo
              by_cases c3 : zd_th μ o = true
              · rw [if_pos c3] at E2
                have hd : zd_dl μ i = true := decide_eq_true ⟨c2', ⟨by rw [eo]; exact nI_pos (by omega), by rw [eo]; exact nI_ge (b := 10) ho (by decide)⟩, by rw [eow]; exact of_decide_eq_true c3⟩
                have hbo := hB o ho
                by_cases c4 : zl_sp1 (zd_dl μ) (zd_ow μ) G i o = true
                · rw [if_pos c4] at hbo
                  have hyes : zd_gr (zm_up ξ 31 i 1) (zl_sp1 (zd_dl μ) (zd_ow μ) G (i + 1)) := by
                    intro k hk
                    rw [zm_up_pt]
                    show _ = if (if k = i then zl_sp1 (zd_dl μ) (zd_ow μ) G i i || (zd_dl μ i && zl_sp1 (zd_dl μ) (zd_ow μ) G i (zd_ow μ i)) else zl_sp1 (zd_dl μ) (zd_ow μ) G i k) = true then _ else _
                    by_cases e : k = i
                    · subst e
                      rw [if_pos rfl, if_pos rfl, hd, eow, c4, Bool.true_and, Bool.or_true, if_pos rfl]
                    · rw [if_neg e, if_neg e]
                      exact hB k hk
                  refine ⟨zi_set L 2 (.int (nI (i + 1))), zm_mk (zm_up ξ 31 i 1), ⟨N1 + N2, 31, fun F m hF => ?_⟩, by omega, ?_, ?_, ?_, zi_get_set_eq, _, rfl, (fun c hc => (zm_up_row hc).trans (f' c hc)), hyes, trivial⟩
                  · simp (maxDischargeDepth := 9) [zg_0, zg_aaload, zg_aload_n, zg_baload, zg_bastore, zg_bipush, zg_getfield, zg_goto, zg_iconst, zg_ifCond, zg_if_icmp, zg_iinc, zg_iload_n, zg_invokevirtual, zg_istore_n, zg_return, zf_X5_gatherDialogs, zi_ld, zi_lda, zi_cmp, zi_retOk, zi_isI, zi_f3, zi_cr, zi_ci, zi_cn, zi_get_ne, zi_nl_i, zi_nl_r, zi_get_set_eq, nl, g0, g1, g2, h10, c1, zd_g, zd_w hi, zw_g (zdW_at hi), zq_Desk_isWindow, zd_c, x4, E1 F (by omega), E2 F (by omega), zm_bald zd31_A io, co, hbo, zm_bast zd31_A i1 (Or.inr rfl), e1, nI_1]
                  · simp (maxDischargeDepth := 9) [zi_get_ne, zi_nl_i, zi_nl_r, zi_get_set_eq, nl]
                  · simp (maxDischargeDepth := 9) [zi_get_ne, zi_nl_i, zi_nl_r, zi_get_set_eq, nl, g0]
                  · simp (maxDischargeDepth := 9) [zi_get_ne, zi_nl_i, zi_nl_r, zi_get_set_eq, nl, g1]
                · rw [if_neg c4] at hbo
                  have hno' : zd_gr ξ (zl_sp1 (zd_dl μ) (zd_ow μ) G (i + 1)) := by
                    intro k hk
                    rw [hB k hk]
                    show _ = if (if k = i then zl_sp1 (zd_dl μ) (zd_ow μ) G i i || (zd_dl μ i && zl_sp1 (zd_dl μ) (zd_ow μ) G i (zd_ow μ i)) else zl_sp1 (zd_dl μ) (zd_ow μ) G i k) = true then _ else _
                    have c4' : zl_sp1 (zd_dl μ) (zd_ow μ) G i o = false := by simpa using c4
                    by_cases e : k = i
                    · subst e
                      rw [if_pos rfl, eow, c4', Bool.and_false, Bool.or_false]
                    · rw [if_neg e]
                  refine ⟨zi_set L 2 (.int (nI (i + 1))), zm_mk ξ, ⟨N1 + N2, 26, fun F m hF => ?_⟩, by omega, ?_, ?_, ?_, zi_get_set_eq, ξ, rfl, f', hno', trivial⟩
                  · simp (maxDischargeDepth := 9) [zg_0, zg_aaload, zg_aload_n, zg_baload, zg_bastore, zg_bipush, zg_getfield, zg_goto, zg_iconst, zg_ifCond, zg_if_icmp, zg_iinc, zg_iload_n, zg_invokevirtual, zg_istore_n, zg_return, zf_X5_gatherDialogs, zi_ld, zi_lda, zi_cmp, zi_retOk, zi_isI, zi_f3, zi_cr, zi_ci, zi_cn, zi_get_ne, zi_nl_i, zi_nl_r, zi_get_set_eq, nl, g0, g1, g2, h10, c1, zd_g, zd_w hi, zw_g (zdW_at hi), zq_Desk_isWindow, zd_c, x4, E1 F (by omega), E2 F (by omega), zm_bald zd31_A io, co, hbo, nI_1]
                  · simp (maxDischargeDepth := 9) [zi_get_ne, zi_nl_i, zi_nl_r, zi_get_set_eq, nl]
                  · simp (maxDischargeDepth := 9) [zi_get_ne, zi_nl_i, zi_nl_r, zi_get_set_eq, nl, g0]
                  · simp (maxDischargeDepth := 9) [zi_get_ne, zi_nl_i, zi_nl_r, zi_get_set_eq, nl, g1]
              · rw [if_neg c3] at E2
                have hd : zd_dl μ i = false := decide_eq_false (fun q => c3 (decide_eq_true (by have := q.2.2; rw [eow] at this; exact this)))
                refine ⟨zi_set L 2 (.int (nI (i + 1))), zm_mk ξ, ⟨N1 + N2, 17, fun F m hF => ?_⟩, by omega, ?_, ?_, ?_, zi_get_set_eq, ξ, rfl, f', hno hd, trivial⟩
                · simp (maxDischargeDepth := 9) [zg_0, zg_aaload, zg_aload_n, zg_baload, zg_bastore, zg_bipush, zg_getfield, zg_goto, zg_iconst, zg_ifCond, zg_if_icmp, zg_iinc, zg_iload_n, zg_invokevirtual, zg_istore_n, zg_return, zf_X5_gatherDialogs, zi_ld, zi_lda, zi_cmp, zi_retOk, zi_isI, zi_f3, zi_cr, zi_ci, zi_cn, zi_get_ne, zi_nl_i, zi_nl_r, zi_get_set_eq, nl, g0, g1, g2, h10, c1, zd_g, zd_w hi, zw_g (zdW_at hi), zq_Desk_isWindow, zd_c, x4, E1 F (by omega), E2 F (by omega), nI_1]
                · simp (maxDischargeDepth := 9) [zi_get_ne, zi_nl_i, zi_nl_r, zi_get_set_eq, nl]
                · simp (maxDischargeDepth := 9) [zi_get_ne, zi_nl_i, zi_nl_r, zi_get_set_eq, nl, g0]
                · simp (maxDischargeDepth := 9) [zi_get_ne, zi_nl_i, zi_nl_r, zi_get_set_eq, nl, g1]
            · have hd : zd_dl μ i = false := decide_eq_false (fun q => hout.elim q.2.1.1 q.2.1.2)
              have hout' : ξ (zdW i) 4 < 0 ∨ (10 : Int32) ≤ ξ (zdW i) 4 := by rw [w2]; exact hout
              obtain ⟨N2, E2⟩ := ze_isWindow_out (μ := ξ) D hout'
              refine ⟨zi_set L 2 (.int (nI (i + 1))), zm_mk ξ, ⟨N1 + N2, 17, fun F m hF => ?_⟩, by omega, ?_, ?_, ?_, zi_get_set_eq, ξ, rfl, f', hno hd, trivial⟩
              · simp (maxDischargeDepth := 9) [zg_0, zg_aaload, zg_aload_n, zg_baload, zg_bastore, zg_bipush, zg_getfield, zg_goto, zg_iconst, zg_ifCond, zg_if_icmp, zg_iinc, zg_iload_n, zg_invokevirtual, zg_istore_n, zg_return, zf_X5_gatherDialogs, zi_ld, zi_lda, zi_cmp, zi_retOk, zi_isI, zi_f3, zi_cr, zi_ci, zi_cn, zi_get_ne, zi_nl_i, zi_nl_r, zi_get_set_eq, nl, g0, g1, g2, h10, c1, zd_g, zd_w hi, zw_g (zdW_at hi), zq_Desk_isWindow, zd_c, E1 F (by omega), E2 F (by omega), nI_1]
              · simp (maxDischargeDepth := 9) [zi_get_ne, zi_nl_i, zi_nl_r, zi_get_set_eq, nl]
              · simp (maxDischargeDepth := 9) [zi_get_ne, zi_nl_i, zi_nl_r, zi_get_set_eq, nl, g0]
              · simp (maxDischargeDepth := 9) [zi_get_ne, zi_nl_i, zi_nl_r, zi_get_set_eq, nl, g1]
          · rw [if_neg c2] at E1
            have N2 : Nat := 0
            have hd : zd_dl μ i = false := decide_eq_false (fun q => c2 (decide_eq_true q.1))
            refine ⟨zi_set L 2 (.int (nI (i + 1))), zm_mk ξ, ⟨N1 + N2, 9, fun F m hF => ?_⟩, by omega, ?_, ?_, ?_, zi_get_set_eq, ξ, rfl, f', hno hd, trivial⟩
            · simp (maxDischargeDepth := 9) [zg_0, zg_aaload, zg_aload_n, zg_baload, zg_bastore, zg_bipush, zg_getfield, zg_goto, zg_iconst, zg_ifCond, zg_if_icmp, zg_iinc, zg_iload_n, zg_invokevirtual, zg_istore_n, zg_return, zf_X5_gatherDialogs, zi_ld, zi_lda, zi_cmp, zi_retOk, zi_isI, zi_f3, zi_cr, zi_ci, zi_cn, zi_get_ne, zi_nl_i, zi_nl_r, zi_get_set_eq, nl, g0, g1, g2, h10, c1, zq_Desk_isWindow, zd_c, E1 F (by omega), nI_1]
            · simp (maxDischargeDepth := 9) [zi_get_ne, zi_nl_i, zi_nl_r, zi_get_set_eq, nl]
            · simp (maxDischargeDepth := 9) [zi_get_ne, zi_nl_i, zi_nl_r, zi_get_set_eq, nl, g0]
            · simp (maxDischargeDepth := 9) [zi_get_ne, zi_nl_i, zi_nl_r, zi_get_set_eq, nl, g1]
        · rintro L _ ⟨-, nl, g0, g1, g2, ξ, rfl, f', hB, hq⟩
          have c1 : (10 : Int32) ≤ nI 10 := by decide
          refine ⟨L, zm_mk ξ, ⟨0, 3, fun F m hF => ?_⟩, nl, g0, g1, ξ, rfl, f', hB⟩
          simp [zg_0, zg_aaload, zg_aload_n, zg_baload, zg_bastore, zg_bipush, zg_getfield, zg_goto, zg_iconst, zg_ifCond, zg_if_icmp, zg_iinc, zg_iload_n, zg_invokevirtual, zg_istore_n, zg_return, zf_X5_gatherDialogs, zi_ld, zi_lda, zi_cmp, zi_retOk, zi_isI, zi_f3, zi_cr, zi_ci, zi_cn, g2, h10, c1]
      obtain ⟨L', h', S1, nl', g0', g1', ξ, rfl, f', hB⟩ := inner
      have c1 : ¬ (10 : Int32) ≤ nI i0 := nI_ge (b := 10) hi0 (by decide)
      refine ⟨zi_set L' 1 (.int (nI (i0 + 1))), zm_mk ξ, ?_, by omega, ?_, ?_, zi_get_set_eq, ξ, rfl, f', by rw [hG1]; exact hB⟩
      · refine ze_S.trans (p2 := 10) (L2 := zi_set L 2 (.int (nI 0))) (s2 := []) (h2 := zm_mk ν) ⟨0, 5, fun F m hF => ?_⟩ (S1.trans ⟨0, 2, fun F m hF => ?_⟩)
        · simp (maxDischargeDepth := 9) [zg_0, zg_aaload, zg_aload_n, zg_baload, zg_bastore, zg_bipush, zg_getfield, zg_goto, zg_iconst, zg_ifCond, zg_if_icmp, zg_iinc, zg_iload_n, zg_invokevirtual, zg_istore_n, zg_return, zf_X5_gatherDialogs, zi_ld, zi_lda, zi_cmp, zi_retOk, zi_isI, zi_f3, zi_cr, zi_ci, zi_cn, zi_get_ne, zi_nl_i, zi_nl_r, zi_get_set_eq, nl, g0, g1, h10, c1, nI_0]
        · simp [zg_0, zg_aaload, zg_aload_n, zg_baload, zg_bastore, zg_bipush, zg_getfield, zg_goto, zg_iconst, zg_ifCond, zg_if_icmp, zg_iinc, zg_iload_n, zg_invokevirtual, zg_istore_n, zg_return, zf_X5_gatherDialogs, zi_ld, zi_lda, zi_cmp, zi_retOk, zi_isI, zi_f3, zi_cr, zi_ci, zi_cn, g1', nI_1]
      · have nl := nl'
        simp (maxDischargeDepth := 9) [zi_get_ne, zi_nl_i, zi_nl_r, zi_get_set_eq, nl]
      · have nl := nl'
        simp (maxDischargeDepth := 9) [zi_get_ne, zi_nl_i, zi_nl_r, zi_get_set_eq, nl, g0']
    · rintro L _ ⟨-, nl, g0, g1, ν, rfl, f, hA⟩
      have c1 : (10 : Int32) ≤ nI 10 := by decide
      refine ⟨none, zm_mk ν, ⟨0, 4, fun F m hF => ?_⟩, rfl, ν, rfl, f, hA⟩
      simp [zg_0, zg_aaload, zg_aload_n, zg_baload, zg_bastore, zg_bipush, zg_getfield, zg_goto, zg_iconst, zg_ifCond, zg_if_icmp, zg_iinc, zg_iload_n, zg_invokevirtual, zg_istore_n, zg_return, zf_X5_gatherDialogs, zi_ld, zi_lda, zi_cmp, zi_retOk, zi_isI, zi_f3, zi_cr, zi_ci, zi_cn, g1, h10, c1]
  obtain ⟨r, h', G, rfl, ν, rfl, f, hA⟩ := key
  refine ⟨ν, ze_in [(0, .ref 1)] zq_Desk_gatherDialogs (Nat.le_of_ble_eq_true rfl) rfl (ze_S.end ⟨0, 2, fun F m hF => ?_⟩ G), f, hA⟩
  simp [zg_0, zg_aaload, zg_aload_n, zg_baload, zg_bastore, zg_bipush, zg_getfield, zg_goto, zg_iconst, zg_ifCond, zg_if_icmp, zg_iinc, zg_iload_n, zg_invokevirtual, zg_istore_n, zg_return, zf_X5_gatherDialogs, zi_ld, zi_lda, zi_cmp, zi_retOk, zi_isI, zi_f3, zi_cr, zi_ci, zi_cn, zi_get, zi_set, nI_0]
set_option maxRecDepth 100000 in
theorem ze_gatherWithDialogs (D : Nat) {w : Nat} (hw : w < 10) : ∃ ν, ze_E (D + 3) A_Desk_gatherWithDialogs [.ref 1, .int (nI w)] (zm_mk μ) none (zm_mk ν) ∧ (∀ c, c ≠ 31 → ν c = μ c) ∧ zd_gr ν (zl_spn (zd_dl μ) (zd_ow μ) (fun k => decide (k = w)) 10) := by
  have h10 : (Int8.ofInt 10).toInt32 = (10 : Int32) := by decide
  have key : ∃ r h', ze_G (D + 2) 3 none zc_X5_gatherWithDialogs 2 [(2, .int (nI 0)), (0, .ref 1), (1, .int (nI w))] [] (zm_mk μ) r h' ∧ (r = none ∧ ∃ ν, zm_mk ν = h' ∧ (∀ c, c ≠ 31 → ν c = μ c) ∧ zd_gr ν (zl_spn (zd_dl μ) (zd_ow μ) (fun k => decide (k = w)) 10)) := by
    refine ze_loop (Q := fun i L hp => i ≤ 10 ∧ zi_nl L = true ∧ zi_get L 0 = some (.ref 1) ∧ zi_get L 1 = some (.int (nI w)) ∧ zi_get L 2 = some (.int (nI i)) ∧ ∃ ν : zm_M, zm_mk ν = hp ∧ (∀ c, c ≠ 31 → ν c = μ c) ∧ (∀ k, k < i → ν 31 k = if k = w then 1 else 0) ∧ (True)) (R := fun r h' => r = none ∧ ∃ ν, zm_mk ν = h' ∧ (∀ c, c ≠ 31 → ν c = μ c) ∧ zd_gr ν (zl_spn (zd_dl μ) (zd_ow μ) (fun k => decide (k = w)) 10)) 10 ?_ ?_ 10 0 _ _ (by omega) ⟨by omega, rfl, rfl, rfl, rfl, μ, rfl, fun _ _ => rfl, (fun k hk => absurd hk (by omega)), trivial⟩
    · rintro i L _ hi ⟨-, nl, g0, g1, g2, ν, rfl, f, hB, hq⟩
      have c1 : ¬ (10 : Int32) ≤ nI i := nI_ge (b := 10) hi (by decide)
      have i1 : zi_in (nI i) 10 = true := zm_in hi (by decide)
      have e1 : (nI i).toNatClampNeg = i := nI_clamp (by omega)
      have hst : ∀ x : Int32, x = (if i = w then 1 else 0) → ∀ k, k < i + 1 → zm_up ν 31 i x 31 k = if k = w then 1 else 0 := by
        intro x hx k hk
        rw [zm_up_pt]
        by_cases e : k = i
        · rw [if_pos e, hx, e]
        · rw [if_neg e]
          exact hB k (by omega)
      by_cases c2 : i = w
      · subst c2
        left
        refine ⟨zi_set L 2 (.int (nI (i + 1))), zm_mk (zm_up ν 31 i 1), ⟨0, 14, fun F m hF => ?_⟩, by omega, ?_, ?_, ?_, zi_get_set_eq, _, rfl, (fun c hc => (zm_up_row hc).trans (f c hc)), hst 1 (by rw [if_pos rfl]), trivial⟩
        · simp (maxDischargeDepth := 9) [zg_0, zg_aload_n, zg_bastore, zg_bipush, zg_getfield, zg_goto, zg_iconst, zg_if_icmp, zg_iinc, zg_iload_n, zg_invokevirtual, zg_istore_n, zg_return, zf_X5_gatherWithDialogs, zi_ld, zi_lda, zi_cmp, zi_retOk, zi_isI, zi_f3, zi_cr, zi_ci, zi_cn, zi_get_ne, zi_nl_i, zi_nl_r, zi_get_set_eq, nl, g0, g1, g2, h10, c1, zd_g, zm_bast zd31_A i1 (Or.inr rfl), e1, nI_1]
        · simp (maxDischargeDepth := 9) [zi_get_ne, zi_nl_i, zi_nl_r, zi_get_set_eq, nl]
        · simp (maxDischargeDepth := 9) [zi_get_ne, zi_nl_i, zi_nl_r, zi_get_set_eq, nl, g0]
        · simp (maxDischargeDepth := 9) [zi_get_ne, zi_nl_i, zi_nl_r, zi_get_set_eq, nl, g1]
      · have c2' : ¬ nI i = nI w := fun e => c2 ((nI_eq (by omega) (by omega)).mp e)
        left
        refine ⟨zi_set L 2 (.int (nI (i + 1))), zm_mk (zm_up ν 31 i 0), ⟨0, 13, fun F m hF => ?_⟩, by omega, ?_, ?_, ?_, zi_get_set_eq, _, rfl, (fun c hc => (zm_up_row hc).trans (f c hc)), hst 0 (by rw [if_neg c2]), trivial⟩
        · simp (maxDischargeDepth := 9) [zg_0, zg_aload_n, zg_bastore, zg_bipush, zg_getfield, zg_goto, zg_iconst, zg_if_icmp, zg_iinc, zg_iload_n, zg_invokevirtual, zg_istore_n, zg_return, zf_X5_gatherWithDialogs, zi_ld, zi_lda, zi_cmp, zi_retOk, zi_isI, zi_f3, zi_cr, zi_ci, zi_cn, zi_get_ne, zi_nl_i, zi_nl_r, zi_get_set_eq, nl, g0, g1, g2, h10, c1, c2', zd_g, zm_bast zd31_A i1 (Or.inl rfl), e1, nI_1]
        · simp (maxDischargeDepth := 9) [zi_get_ne, zi_nl_i, zi_nl_r, zi_get_set_eq, nl]
        · simp (maxDischargeDepth := 9) [zi_get_ne, zi_nl_i, zi_nl_r, zi_get_set_eq, nl, g0]
        · simp (maxDischargeDepth := 9) [zi_get_ne, zi_nl_i, zi_nl_r, zi_get_set_eq, nl, g1]
    · rintro L _ ⟨-, nl, g0, g1, g2, ν, rfl, f, hB, hq⟩
      have c1 : (10 : Int32) ≤ nI 10 := by decide
      have hgr : zd_gr ν (fun k => decide (k = w)) := by
        intro k hk
        rw [hB k hk]
        by_cases e : k = w
        · rw [if_pos e, if_pos (decide_eq_true e)]
        · rw [if_neg e, if_neg (fun q => e (of_decide_eq_true q))]
      obtain ⟨ξ, ⟨N1, E1⟩, f2, hC⟩ := ze_gatherDialogs (μ := ν) D hgr
      have ew : ∀ k, ν (zdW k) = μ (zdW k) := fun k => (zd_dl_of f k).2
      have eo : zd_ow ν = zd_ow μ := by
        funext k
        unfold zd_ow
        rw [ew]
      have ed : zd_dl ν = zd_dl μ := by
        funext k
        unfold zd_dl
        rw [eo, ew, ew]
      rw [eo, ed] at hC
      refine ⟨none, zm_mk ξ, ⟨N1, 6, fun F m hF => ?_⟩, rfl, ξ, rfl, fun c hc => (f2 c hc).trans (f c hc), hC⟩
      simp [zg_0, zg_aload_n, zg_bastore, zg_bipush, zg_getfield, zg_goto, zg_iconst, zg_if_icmp, zg_iinc, zg_iload_n, zg_invokevirtual, zg_istore_n, zg_return, zf_X5_gatherWithDialogs, zi_ld, zi_lda, zi_cmp, zi_retOk, zi_isI, zi_f3, zi_cr, zi_ci, zi_cn, g0, g2, h10, c1, zq_Desk_gatherDialogs, zd_c, E1 F (by omega)]
  obtain ⟨r, h', G, rfl, ν, rfl, f, hA⟩ := key
  refine ⟨ν, ze_in [(0, .ref 1), (1, .int (nI w))] zq_Desk_gatherWithDialogs (Nat.le_of_ble_eq_true rfl) rfl (ze_S.end ⟨0, 2, fun F m hF => ?_⟩ G), f, hA⟩
  simp [zg_0, zg_aload_n, zg_bastore, zg_bipush, zg_getfield, zg_goto, zg_iconst, zg_if_icmp, zg_iinc, zg_iload_n, zg_invokevirtual, zg_istore_n, zg_return, zf_X5_gatherWithDialogs, zi_ld, zi_lda, zi_cmp, zi_retOk, zi_isI, zi_f3, zi_cr, zi_ci, zi_cn, zi_get, zi_set, nI_0]
end ZG2
end
section
/-! what is kept -/
noncomputable def zdP (s : Nat) : Nat := 117 + 55 * s
noncomputable def zdQ (s : Nat) : Nat := 120 + 55 * s
theorem zdK_h {s : Nat} (h : s < 3) : zh_2[zdK s]? = some (0, [.ref (zdV s + 1), .ref (zdP s + 1), .ref (zdQ s + 1), .int 0]) := by
  match s, h with
  | 0, _ => decide +kernel
  | 1, _ => decide +kernel
  | 2, _ => decide +kernel
theorem zdP_h {s : Nat} (h : s < 3) : zh_2[zdP s]? = some (11, [.ref (zdP s + 2), .ref (zdP s + 3)]) ∧ zm_isA 7 (zdP s + 1) 10 ∧ zm_isA 7 (zdP s + 2) 10 ∧ zm_isA 8 (zdQ s) 10 := by
  match s, h with
  | 0, _ => exact ⟨by decide +kernel, zm_isA_of (by decide +kernel), zm_isA_of (by decide +kernel), zm_isA_of (by decide +kernel)⟩
  | 1, _ => exact ⟨by decide +kernel, zm_isA_of (by decide +kernel), zm_isA_of (by decide +kernel), zm_isA_of (by decide +kernel)⟩
  | 2, _ => exact ⟨by decide +kernel, zm_isA_of (by decide +kernel), zm_isA_of (by decide +kernel), zm_isA_of (by decide +kernel)⟩
section ZK1
variable {μ : zm_M}
theorem zdK_c {s : Nat} (h : s < 3) : (zm_mk μ)[zdK s]? = some (0, [.ref (zdV s + 1), .ref (zdP s + 1), .ref (zdQ s + 1), .int (μ (zdK s) 3)]) := zm_get (zdK_h h)
theorem zdK_g {s : Nat} (h : s < 3) : zi_gf (zm_mk μ) 0 0 (zdK s) = some (.ref (zdV s + 1)) ∧ zi_gf (zm_mk μ) 0 1 (zdK s) = some (.ref (zdP s + 1)) ∧ zi_gf (zm_mk μ) 0 2 (zdK s) = some (.ref (zdQ s + 1)) ∧ zi_gf (zm_mk μ) 0 3 (zdK s) = some (.int (μ (zdK s) 3)) :=
  ⟨zm_gfr (zdK_h h) (by decide) rfl, zm_gfr (zdK_h h) (by decide) rfl, zm_gfr (zdK_h h) (by decide) rfl, zm_gfi (zdK_h h) (by decide) rfl⟩
theorem zdK_p3 {s : Nat} (h : s < 3) {x : Int32} (hx : x = 0 ∨ x = 1) : zi_pf (zm_mk μ) 0 3 (zdK s) (.int x) = some (zm_mk (zm_up μ (zdK s) 3 x)) := zm_pfi (zdK_h h) (by decide) rfl (by rcases hx with rfl | rfl <;> decide)
noncomputable def zd_has (μ : zm_M) (s k : Nat) : Bool := decide (¬ μ (zdK s) 3 = 0 ∧ (¬ μ (zdQ s) k = 0 ∨ ¬ μ (zdV s + 3) k < 0))
set_option maxRecDepth 100000 in
theorem ze_has (D : Nat) {s k : Nat} (hs : s < 3) (hk : k < 10) : ze_E (D + 2) A_Kept_has [.ref (zdK s + 1), .int (nI k)] (zm_mk μ) (some (.int (if zd_has μ s k = true then 1 else 0))) (zm_mk μ) := by
  refine ze_in [(0, .ref (zdK s + 1)), (1, .int (nI k))] zq_Kept_has (Nat.le_of_ble_eq_true rfl) rfl ?_
  obtain ⟨N1, E1⟩ := ze_Tree_leafOf (μ := μ) D (zdV_at hs) hk
  obtain ⟨l1, c1⟩ := zt_c (μ := μ) (zdV_at hs)
  have i1 : zi_in (nI k) 10 = true := zm_in hk (by decide)
  have e1 : (nI k).toNatClampNeg = k := nI_clamp (by omega)
  refine ⟨N1, 17, fun F n hF => ?_⟩
  by_cases c2 : μ (zdK s) 3 = 0
  · have hz : ¬ zd_has μ s k = true := fun q => (of_decide_eq_true q).1 c2
    rw [if_neg hz]
    simp [zg_0, zg_aload_n, zg_baload, zg_getfield, zg_goto, zg_iconst, zg_ifCond, zg_iload_n, zg_invokevirtual, zg_ireturn, zf_X0_has, zi_ld, zi_lda, zi_cmp, zi_retOk, zi_isI, zi_f3, zi_cr, zi_ci, zi_cn, zi_get, zi_set, zdK_g hs, c2]
  · by_cases c3 : μ (zdQ s) k = 0
    · by_cases c4 : μ (zdV s + 3) k < 0
      · have hz : ¬ zd_has μ s k = true := fun q => (of_decide_eq_true q).2.elim (fun q => q c3) (fun q => q c4)
        rw [if_neg hz]
        simp [zg_0, zg_aload_n, zg_baload, zg_getfield, zg_goto, zg_iconst, zg_ifCond, zg_iload_n, zg_invokevirtual, zg_ireturn, zf_X0_has, zi_ld, zi_lda, zi_cmp, zi_retOk, zi_isI, zi_f3, zi_cr, zi_ci, zi_cn, zi_get, zi_set, zdK_g hs, c2, zm_bald (zdP_h hs).2.2.2 i1, e1, c3, zq_Tree_leafOf, c1, E1 F (by omega), c4]
      · have hz : zd_has μ s k = true := decide_eq_true ⟨c2, Or.inr c4⟩
        rw [if_pos hz]
        simp [zg_0, zg_aload_n, zg_baload, zg_getfield, zg_goto, zg_iconst, zg_ifCond, zg_iload_n, zg_invokevirtual, zg_ireturn, zf_X0_has, zi_ld, zi_lda, zi_cmp, zi_retOk, zi_isI, zi_f3, zi_cr, zi_ci, zi_cn, zi_get, zi_set, zdK_g hs, c2, zm_bald (zdP_h hs).2.2.2 i1, e1, c3, zq_Tree_leafOf, c1, E1 F (by omega), c4]
    · have hz : zd_has μ s k = true := decide_eq_true ⟨c2, Or.inl c3⟩
      rw [if_pos hz]
      simp [zg_0, zg_aload_n, zg_baload, zg_getfield, zg_goto, zg_iconst, zg_ifCond, zg_iload_n, zg_invokevirtual, zg_ireturn, zf_X0_has, zi_ld, zi_lda, zi_cmp, zi_retOk, zi_isI, zi_f3, zi_cr, zi_ci, zi_cn, zi_get, zi_set, zdK_g hs, c2, zm_bald (zdP_h hs).2.2.2 i1, e1, c3]
set_option maxRecDepth 100000 in
theorem ze_forget (D : Nat) {s : Nat} (hs : s < 3) : ze_E (D + 1) A_Kept_forget [.ref (zdK s + 1)] (zm_mk μ) none (zm_mk (zm_up μ (zdK s) 3 0)) := by
  refine ze_in [(0, .ref (zdK s + 1))] zq_Kept_forget (Nat.le_of_ble_eq_true rfl) rfl ⟨0, 4, fun F n hF => ?_⟩
  simp [zg_0, zg_aload_n, zg_iconst, zg_putfield, zg_return, zf_X0_forget, zi_ld, zi_lda, zi_cmp, zi_retOk, zi_isI, zi_f3, zi_cr, zi_ci, zi_cn, zi_get, zi_set, zdK_p3 hs (Or.inl rfl)]
set_option maxRecDepth 100000 in
theorem ze_keepPlace (D : Nat) {s k : Nat} (hs : s < 3) (hk : k < 10) {x : Int32} (hx : x = 0 ∨ x = 1) : ze_E (D + 1) A_Kept_keepPlace [.ref (zdK s + 1), .int (nI k), .int x, .ref (zdW k + 2 + 1)] (zm_mk μ) none (zm_mk (zm_up (zm_up (zm_up μ (zdQ s) k x) (zdP s + 1) k (μ (zdW k + 2) 0)) (zdP s + 2) k (μ (zdW k + 2) 1))) := by
  refine ze_in [(0, .ref (zdK s + 1)), (1, .int (nI k)), (2, .int x), (3, .ref (zdW k + 2 + 1))] zq_Kept_keepPlace (Nat.le_of_ble_eq_true rfl) rfl ⟨0, 24, fun F n hF => ?_⟩
  have i1 : zi_in (nI k) 10 = true := zm_in hk (by decide)
  have e1 : (nI k).toNatClampNeg = k := nI_clamp (by omega)
  obtain ⟨p0, p1, p2, p3⟩ := zdP_h hs
  have w2 := (zdW_at hk).2.2
  have r1 : zm_up μ (zdQ s) k x (zdW k + 2) 0 = μ (zdW k + 2) 0 := zm_up_ne (by unfold zdQ zdW; omega)
  have r2 : zm_up (zm_up μ (zdQ s) k x) (zdP s + 1) k (μ (zdW k + 2) 0) (zdW k + 2) 1 = μ (zdW k + 2) 1 := by
    rw [zm_up_ne (by unfold zdP zdW; omega), zm_up_ne (by unfold zdQ zdW; omega)]
  simp [zg_0, zg_aaload, zg_aload_n, zg_bastore, zg_getfield, zg_iaload, zg_iastore, zg_iconst, zg_iload_n, zg_return, zf_X0_keepPlace, zi_ld, zi_lda, zi_cmp, zi_retOk, zi_isI, zi_f3, zi_cr, zi_ci, zi_cn, zi_get, zi_set, zdK_g hs, zm_bast p3 i1 hx, e1, zm_ax0 p0, zm_ax1 p0, zm_iald (k := 0) w2 zm_in0, zm_iald (k := 0) w2 zm_in1, zm_cl0, zm_cl1, zm_iast p1 i1, zm_iast p2 i1, r1, r2]
/-- what is kept with the window k is forgotten -/
noncomputable def zd_fgt (μ ν : zm_M) (p : Nat → Bool) : Prop := (∀ s, s < 3 → ν (zdK s) 3 = if p s = true then 0 else μ (zdK s) 3) ∧ ∀ c b, (∀ s, s < 3 → c = zdK s → b ≠ 3) → ν c b = μ c b
theorem zdK_inj {i j : Nat} (h : zdK i = zdK j) : i = j := by
  unfold zdK at h
  omega
set_option maxRecDepth 100000 in
theorem ze_forgetKeptWith (D : Nat) {k : Nat} (hk : k < 10) : ∃ ν, ze_E (D + 3) A_Desk_forgetKeptWith [.ref 1, .int (nI k)] (zm_mk μ) none (zm_mk ν) ∧ zd_fgt μ ν (fun s => zd_has μ s k) := by
  have key : ∃ r h', ze_G (D + 2) 3 none zc_X5_forgetKeptWith 2 [(2, .int (nI 0)), (0, .ref 1), (1, .int (nI k))] [] (zm_mk μ) r h' ∧ (r = none ∧ ∃ ν, zm_mk ν = h' ∧ zd_fgt μ ν (fun s => zd_has μ s k)) := by
    refine ze_loop (Q := fun i L hp => i ≤ 3 ∧ zi_nl L = true ∧ zi_get L 0 = some (.ref 1) ∧ zi_get L 1 = some (.int (nI k)) ∧ zi_get L 2 = some (.int (nI i)) ∧ ∃ ν : zm_M, zm_mk ν = hp ∧ (∀ s, s < 3 → ν (zdK s) 3 = if s < i ∧ zd_has μ s k = true then 0 else μ (zdK s) 3) ∧ (∀ c b, (∀ s, s < 3 → c = zdK s → b ≠ 3) → ν c b = μ c b) ∧ (True)) (R := fun r h' => r = none ∧ ∃ ν, zm_mk ν = h' ∧ zd_fgt μ ν (fun s => zd_has μ s k)) 3 ?_ ?_ 3 0 _ _ (by omega) ⟨by omega, rfl, rfl, rfl, rfl, μ, rfl, (fun s _ => by rw [if_neg (by omega)]), fun _ _ _ => rfl, trivial⟩
    · rintro i L _ hi ⟨-, nl, g0, g1, g2, ν, rfl, f1, f2, hq⟩
      have c1 : ¬ (3 : Int32) ≤ nI i := nI_ge (b := 3) hi (by decide)
      have hsame : ν (zdK i) 3 = μ (zdK i) 3 := by rw [f1 i hi, if_neg (by omega)]
      have eh : zd_has ν i k = zd_has μ i k := by
        unfold zd_has
        rw [hsame, f2 (zdQ i) k (fun s _ e => by unfold zdQ zdK at e; omega), f2 (zdV i + 3) k (fun s _ e => by unfold zdV zdK at e; omega)]
      obtain ⟨N1, E1⟩ := ze_has (μ := ν) D hi hk
      rw [eh] at E1
      have ck := zdK_c (μ := ν) hi
      by_cases c2 : zd_has μ i k = true
      · rw [if_pos c2] at E1
        obtain ⟨N2, E2⟩ := ze_forget (μ := ν) (D + 1) hi
        have f1' : ∀ s, s < 3 → zm_up ν (zdK i) 3 0 (zdK s) 3 = if s < i + 1 ∧ zd_has μ s k = true then 0 else μ (zdK s) 3 := by
          intro s hs
          by_cases e : s = i
          · subst e
            rw [zm_up_eq, if_pos ⟨by omega, c2⟩]
          · rw [zm_up_ne (fun q => e (zdK_inj q.1)), f1 s hs]
            by_cases q : s < i ∧ zd_has μ s k = true
            · rw [if_pos q, if_pos ⟨by omega, q.2⟩]
            · rw [if_neg q, if_neg (fun z => q ⟨by omega, z.2⟩)]
        left
        refine ⟨zi_set L 2 (.int (nI (i + 1))), zm_mk (zm_up ν (zdK i) 3 0), ⟨N1 + N2, 19, fun F m hF => ?_⟩, by omega, ?_, ?_, ?_, zi_get_set_eq, _, rfl, f1', (fun c b hc => (zm_up_ne (fun q => hc i hi q.1 q.2)).trans (f2 c b hc)), trivial⟩
        · simp (maxDischargeDepth := 9) [zg_0, zg_aaload, zg_aload_n, zg_getfield, zg_goto, zg_iconst, zg_ifCond, zg_if_icmp, zg_iinc, zg_iload_n, zg_invokevirtual, zg_istore_n, zg_return, zf_X5_forgetKeptWith, zi_ld, zi_lda, zi_cmp, zi_retOk, zi_isI, zi_f3, zi_cr, zi_ci, zi_cn, zi_get_ne, zi_nl_i, zi_nl_r, zi_get_set_eq, nl, g0, g1, g2, c1, zd_g, zd_s hi, zdS_g hi, zq_Kept_has, zq_Kept_forget, ck, E1 F (by omega), E2 F (by omega), nI_1]
        · simp (maxDischargeDepth := 9) [zi_get_ne, zi_nl_i, zi_nl_r, zi_get_set_eq, nl]
        · simp (maxDischargeDepth := 9) [zi_get_ne, zi_nl_i, zi_nl_r, zi_get_set_eq, nl, g0]
        · simp (maxDischargeDepth := 9) [zi_get_ne, zi_nl_i, zi_nl_r, zi_get_set_eq, nl, g1]
      · rw [if_neg c2] at E1
        have N2 : Nat := 0
        have f1' : ∀ s, s < 3 → ν (zdK s) 3 = if s < i + 1 ∧ zd_has μ s k = true then 0 else μ (zdK s) 3 := by
          intro s hs
          rw [f1 s hs]
          by_cases q : s < i ∧ zd_has μ s k = true
          · rw [if_pos q, if_pos ⟨by omega, q.2⟩]
          · rw [if_neg q, if_neg (fun z => by
              by_cases e : s = i
              · subst e
                exact c2 z.2
              · exact q ⟨by omega, z.2⟩)]
        left
        refine ⟨zi_set L 2 (.int (nI (i + 1))), zm_mk ν, ⟨N1 + N2, 13, fun F m hF => ?_⟩, by omega, ?_, ?_, ?_, zi_get_set_eq, ν, rfl, f1', f2, trivial⟩
        · simp (maxDischargeDepth := 9) [zg_0, zg_aaload, zg_aload_n, zg_getfield, zg_goto, zg_iconst, zg_ifCond, zg_if_icmp, zg_iinc, zg_iload_n, zg_invokevirtual, zg_istore_n, zg_return, zf_X5_forgetKeptWith, zi_ld, zi_lda, zi_cmp, zi_retOk, zi_isI, zi_f3, zi_cr, zi_ci, zi_cn, zi_get_ne, zi_nl_i, zi_nl_r, zi_get_set_eq, nl, g0, g1, g2, c1, zd_g, zd_s hi, zdS_g hi, zq_Kept_has, ck, E1 F (by omega), nI_1]
        · simp (maxDischargeDepth := 9) [zi_get_ne, zi_nl_i, zi_nl_r, zi_get_set_eq, nl]
        · simp (maxDischargeDepth := 9) [zi_get_ne, zi_nl_i, zi_nl_r, zi_get_set_eq, nl, g0]
        · simp (maxDischargeDepth := 9) [zi_get_ne, zi_nl_i, zi_nl_r, zi_get_set_eq, nl, g1]
    · rintro L _ ⟨-, nl, g0, g1, g2, ν, rfl, f1, f2, hq⟩
      have c1 : (3 : Int32) ≤ nI 3 := by decide
      refine ⟨none, zm_mk ν, ⟨0, 4, fun F m hF => ?_⟩, rfl, ν, rfl, fun s hs => ?_, f2⟩
      · simp [zg_0, zg_aaload, zg_aload_n, zg_getfield, zg_goto, zg_iconst, zg_ifCond, zg_if_icmp, zg_iinc, zg_iload_n, zg_invokevirtual, zg_istore_n, zg_return, zf_X5_forgetKeptWith, zi_ld, zi_lda, zi_cmp, zi_retOk, zi_isI, zi_f3, zi_cr, zi_ci, zi_cn, g0, g2, c1]
      · rw [f1 s hs]
        by_cases q : zd_has μ s k = true
        · rw [if_pos ⟨hs, q⟩, if_pos q]
        · rw [if_neg (fun z => q z.2), if_neg q]
  obtain ⟨r, h', G, rfl, ν, rfl, hA⟩ := key
  refine ⟨ν, ze_in [(0, .ref 1), (1, .int (nI k))] zq_Desk_forgetKeptWith (Nat.le_of_ble_eq_true rfl) rfl (ze_S.end ⟨0, 2, fun F m hF => ?_⟩ G), hA⟩
  simp [zg_0, zg_aaload, zg_aload_n, zg_getfield, zg_goto, zg_iconst, zg_ifCond, zg_if_icmp, zg_iinc, zg_iload_n, zg_invokevirtual, zg_istore_n, zg_return, zf_X5_forgetKeptWith, zi_ld, zi_lda, zi_cmp, zi_retOk, zi_isI, zi_f3, zi_cr, zi_ci, zi_cn, zi_get, zi_set, nI_0]
/-- one of the group is kept there -/
noncomputable def zd_hasg (μ : zm_M) (g : Nat → Bool) (n s : Nat) : Bool := !zl_al (fun k => !(g k && zd_has μ s k)) n
set_option maxRecDepth 100000 in
theorem ze_forgetKeptWithGroup (D : Nat) {g : Nat → Bool} (hg : zd_gr μ g) : ∃ ν, ze_E (D + 4) A_Desk_forgetKeptWithGroup [.ref 1] (zm_mk μ) none (zm_mk ν) ∧ zd_fgt μ ν (zd_hasg μ g 10) := by
  have h10 : (Int8.ofInt 10).toInt32 = (10 : Int32) := by decide
  have key : ∃ r h', ze_G (D + 3) 2 none zc_X5_forgetKeptWithGroup 2 [(1, .int (nI 0)), (0, .ref 1)] [] (zm_mk μ) r h' ∧ (r = none ∧ ∃ ν, zm_mk ν = h' ∧ zd_fgt μ ν (zd_hasg μ g 10)) := by
    refine ze_loop (Q := fun i L hp => i ≤ 10 ∧ zi_nl L = true ∧ zi_get L 0 = some (.ref 1) ∧ zi_get L 1 = some (.int (nI i)) ∧ ∃ ν : zm_M, zm_mk ν = hp ∧ (zd_fgt μ ν (zd_hasg μ g i)) ∧ (True)) (R := fun r h' => r = none ∧ ∃ ν, zm_mk ν = h' ∧ zd_fgt μ ν (zd_hasg μ g 10)) 10 ?_ ?_ 10 0 _ _ (by omega) ⟨by omega, rfl, rfl, rfl, μ, rfl, ⟨fun s _ => rfl, fun _ _ _ => rfl⟩, trivial⟩
    · rintro i L _ hi ⟨-, nl, g0, g1, ν, rfl, hA, hq⟩
      have c1 : ¬ (10 : Int32) ≤ nI i := nI_ge (b := 10) hi (by decide)
      have i1 : zi_in (nI i) 10 = true := zm_in hi (by decide)
      have e1 : (nI i).toNatClampNeg = i := nI_clamp (by omega)
      obtain ⟨f1, f2⟩ := id hA
      have hgi : ν 31 i = if g i = true then 1 else 0 := by
        rw [f2 31 i (fun s _ e => by unfold zdK at e; omega)]
        exact hg i hi
      have hs1 : ∀ s, zd_hasg μ g (i + 1) s = (zd_hasg μ g i s || (g i && zd_has μ s i)) := by
        intro s
        unfold zd_hasg
        show (!(zl_al _ i && !(g i && zd_has μ s i))) = _
        cases zl_al (fun k => !(g k && zd_has μ s k)) i <;> cases g i <;> cases zd_has μ s i <;> rfl
      by_cases c2 : g i = true
      · rw [if_pos c2] at hgi
        obtain ⟨ξ, ⟨N1, E1⟩, x1, x2⟩ := ze_forgetKeptWith (μ := ν) D hi
        have hA' : zd_fgt μ ξ (zd_hasg μ g (i + 1)) := by
          refine ⟨fun s hs => ?_, fun c b hc => (x2 c b hc).trans (f2 c b hc)⟩
          have q1 := x1 s hs
          have q2 := f1 s hs
          rw [q1, hs1 s, c2, Bool.true_and]
          cases ph : zd_hasg μ g i s with
          | true =>
            rw [ph, if_pos rfl] at q2
            rw [Bool.true_or, if_pos rfl, q2]
            split <;> rfl
          | false =>
            rw [ph, if_neg (by decide)] at q2
            have eh : zd_has ν s i = zd_has μ s i := by
              unfold zd_has
              rw [q2, f2 (zdQ s) i (fun s _ e => by unfold zdQ zdK at e; omega), f2 (zdV s + 3) i (fun s _ e => by unfold zdV zdK at e; omega)]
            simp only [eh]
            rw [Bool.false_or, q2]
        left
        refine ⟨zi_set L 1 (.int (nI (i + 1))), zm_mk ξ, ⟨N1, 13, fun F m hF => ?_⟩, by omega, ?_, ?_, zi_get_set_eq, ξ, rfl, hA', trivial⟩
        · simp (maxDischargeDepth := 9) [zg_0, zg_aload_n, zg_baload, zg_bipush, zg_getfield, zg_goto, zg_iconst, zg_ifCond, zg_if_icmp, zg_iinc, zg_iload_n, zg_invokevirtual, zg_istore_n, zg_return, zf_X5_forgetKeptWithGroup, zi_ld, zi_lda, zi_cmp, zi_retOk, zi_isI, zi_f3, zi_cr, zi_ci, zi_cn, zi_get_ne, zi_nl_i, zi_nl_r, zi_get_set_eq, nl, g0, g1, h10, c1, zd_g, zm_bald zd31_A i1, e1, hgi, zq_Desk_forgetKeptWith, zd_c, E1 F (by omega), nI_1]
        · simp (maxDischargeDepth := 9) [zi_get_ne, zi_nl_i, zi_nl_r, zi_get_set_eq, nl]
        · simp (maxDischargeDepth := 9) [zi_get_ne, zi_nl_i, zi_nl_r, zi_get_set_eq, nl, g0]
      · rw [if_neg c2] at hgi
        have N1 : Nat := 0
        have hA' : zd_fgt μ ν (zd_hasg μ g (i + 1)) := by
          refine ⟨fun s hs => ?_, f2⟩
          have c2' : g i = false := by simpa using c2
          rw [f1 s hs, hs1 s, c2', Bool.false_and, Bool.or_false]
        left
        refine ⟨zi_set L 1 (.int (nI (i + 1))), zm_mk ν, ⟨N1, 10, fun F m hF => ?_⟩, by omega, ?_, ?_, zi_get_set_eq, ν, rfl, hA', trivial⟩
        · simp (maxDischargeDepth := 9) [zg_0, zg_aload_n, zg_baload, zg_bipush, zg_getfield, zg_goto, zg_iconst, zg_ifCond, zg_if_icmp, zg_iinc, zg_iload_n, zg_invokevirtual, zg_istore_n, zg_return, zf_X5_forgetKeptWithGroup, zi_ld, zi_lda, zi_cmp, zi_retOk, zi_isI, zi_f3, zi_cr, zi_ci, zi_cn, zi_get_ne, zi_nl_i, zi_nl_r, zi_get_set_eq, nl, g0, g1, h10, c1, zd_g, zm_bald zd31_A i1, e1, hgi, nI_1]
        · simp (maxDischargeDepth := 9) [zi_get_ne, zi_nl_i, zi_nl_r, zi_get_set_eq, nl]
        · simp (maxDischargeDepth := 9) [zi_get_ne, zi_nl_i, zi_nl_r, zi_get_set_eq, nl, g0]
    · rintro L _ ⟨-, nl, g0, g1, ν, rfl, hA, hq⟩
      have c1 : (10 : Int32) ≤ nI 10 := by decide
      refine ⟨none, zm_mk ν, ⟨0, 4, fun F m hF => ?_⟩, rfl, ν, rfl, hA⟩
      simp [zg_0, zg_aload_n, zg_baload, zg_bipush, zg_getfield, zg_goto, zg_iconst, zg_ifCond, zg_if_icmp, zg_iinc, zg_iload_n, zg_invokevirtual, zg_istore_n, zg_return, zf_X5_forgetKeptWithGroup, zi_ld, zi_lda, zi_cmp, zi_retOk, zi_isI, zi_f3, zi_cr, zi_ci, zi_cn, g0, g1, h10, c1]
  obtain ⟨r, h', G, rfl, ν, rfl, hA⟩ := key
  refine ⟨ν, ze_in [(0, .ref 1)] zq_Desk_forgetKeptWithGroup (Nat.le_of_ble_eq_true rfl) rfl (ze_S.end ⟨0, 2, fun F m hF => ?_⟩ G), hA⟩
  simp [zg_0, zg_aload_n, zg_baload, zg_bipush, zg_getfield, zg_goto, zg_iconst, zg_ifCond, zg_if_icmp, zg_iinc, zg_iload_n, zg_invokevirtual, zg_istore_n, zg_return, zf_X5_forgetKeptWithGroup, zi_ld, zi_lda, zi_cmp, zi_retOk, zi_isI, zi_f3, zi_cr, zi_ci, zi_cn, zi_get, zi_set, nI_0]
end ZK1
end
