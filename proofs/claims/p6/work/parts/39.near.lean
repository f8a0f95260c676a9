/-! what is above a leaf; Tree.nearestCut -/
def zy_up (n : Nat) : zy_F → List Nat
  | .append (.tag c a) b => if n ∈ zy_lvs a then zy_up n a ++ [c] else if n ∈ zy_lvs b then zy_up n b ++ [c] else []
  | _ => []
theorem zl_getD_l {l l' : List Nat} {i : Nat} (h : i < l.length) : (l ++ l').getD i 0 = l.getD i 0 := by
  rw [List.getD_eq_getElem?_getD, List.getD_eq_getElem?_getD, List.getElem?_append_left h]
theorem zl_getD_r {l l' : List Nat} {i : Nat} (h : l.length ≤ i) : (l ++ l').getD i 0 = l'.getD (i - l.length) 0 := by
  rw [List.getD_eq_getElem?_getD, List.getD_eq_getElem?_getD, List.getElem?_append_right h]
theorem zy_up_ok {fm fs sd ab : Nat → Int32} {n : Nat} : ∀ t, zy_wf t → (zy_ids t).Nodup → zy_ok fm fs sd ab t → n ∈ zy_lvs t →
    (∀ x ∈ zy_up n t, x ∈ zy_cts t) ∧ (zy_up n t).Nodup ∧ (∀ i, i < (zy_up n t).length → ab ((n :: zy_up n t).getD i 0) = nI ((zy_up n t).getD i 0)) ∧ (n :: zy_up n t).getD (zy_up n t).length 0 = zy_id t := by
  apply zy_ind
  · intro m _ _ hn
    have e : n = m := by simpa [zy_lvs] using hn
    refine ⟨fun x hx => (by cases hx), List.nodup_nil, fun i hi => (by cases hi), ?_⟩
    show n = m
    exact e
  · intro c a b wa wb ha hb hd h hn
    have hd' : (c :: (zy_ids a ++ zy_ids b)).Nodup := hd
    obtain ⟨hc, hd2⟩ := List.nodup_cons.mp hd'
    obtain ⟨da, db, dis⟩ := List.nodup_append.mp hd2
    have main : ∀ s, zy_wf s → (∀ x ∈ zy_cts s, x ∈ zy_ids s) → (∀ x ∈ zy_ids s, x ∈ zy_ids a ++ zy_ids b) → ab (zy_id s) = nI c → (∀ x ∈ zy_cts s, x ∈ zy_cts (.append (.tag c a) b)) →
        ((∀ x ∈ zy_up n s, x ∈ zy_cts s) ∧ (zy_up n s).Nodup ∧ (∀ i, i < (zy_up n s).length → ab ((n :: zy_up n s).getD i 0) = nI ((zy_up n s).getD i 0)) ∧ (n :: zy_up n s).getD (zy_up n s).length 0 = zy_id s) →
        ((∀ x ∈ zy_up n s ++ [c], x ∈ zy_cts (.append (.tag c a) b)) ∧ (zy_up n s ++ [c]).Nodup ∧ (∀ i, i < (zy_up n s ++ [c]).length → ab ((n :: (zy_up n s ++ [c])).getD i 0) = nI ((zy_up n s ++ [c]).getD i 0)) ∧ (n :: (zy_up n s ++ [c])).getD (zy_up n s ++ [c]).length 0 = c) := by
      intro s ws hsi hsub habs hct ⟨q1, q2, q3, q4⟩
      refine ⟨fun x hx => ?_, ?_, fun i hi => ?_, ?_⟩
      · rcases List.mem_append.mp hx with hx | hx
        · exact hct x (q1 x hx)
        · have : x = c := by simpa using hx
          rw [this]
          exact List.mem_cons_self
      · refine List.nodup_append.mpr ⟨q2, List.nodup_cons.mpr ⟨List.not_mem_nil, List.nodup_nil⟩, fun x hx y hy e => ?_⟩
        have : y = c := by simpa using hy
        exact hc (hsub c (hsi c (q1 c (by rw [← this, ← e]; exact hx))))
      · rw [List.length_append] at hi
        have hi : i < (zy_up n s).length + 1 := hi
        rw [show n :: (zy_up n s ++ [c]) = (n :: zy_up n s) ++ [c] from rfl]
        by_cases e : i = (zy_up n s).length
        · subst e
          rw [zl_getD_l (by rw [List.length_cons]; omega), q4, zl_getD_r (Nat.le_refl _), Nat.sub_self]
          exact habs
        · rw [zl_getD_l (by rw [List.length_cons]; omega), zl_getD_l (by omega)]
          exact q3 i (by omega)
      · rw [show n :: (zy_up n s ++ [c]) = (n :: zy_up n s) ++ [c] from rfl, List.length_append, zl_getD_r (by simp), List.length_cons]
        show [c].getD ((zy_up n s).length + 1 - ((zy_up n s).length + 1)) 0 = c
        rw [Nat.sub_self]
        rfl
    by_cases na : n ∈ zy_lvs a
    · have e : zy_up n (.append (.tag c a) b) = zy_up n a ++ [c] := by
        show (if _ then _ else _ : List Nat) = _
        rw [if_pos na]
      rw [e]
      exact main a wa (zy_cts_ids a wa) (fun x hx => List.mem_append_left _ hx) h.1.2.2.2.1 (fun x hx => List.mem_cons_of_mem _ (List.mem_append_left _ hx)) (ha da h.2.1 na)
    · have nb : n ∈ zy_lvs b := by
        rcases List.mem_append.mp (show n ∈ zy_lvs a ++ zy_lvs b from hn) with h | h
        · exact absurd h na
        · exact h
      have e : zy_up n (.append (.tag c a) b) = zy_up n b ++ [c] := by
        show (if _ then _ else if _ then _ else _ : List Nat) = _
        rw [if_neg na, if_pos nb]
      rw [e]
      exact main b wb (zy_cts_ids b wb) (fun x hx => List.mem_append_right _ hx) h.1.2.2.2.2 (fun x hx => List.mem_cons_of_mem _ (List.mem_append_right _ hx)) (hb db h.2.2 nb)
section ZNC
variable {T : Nat} {μ : zm_M} {R : List Nat} {t : zy_F}
/-- the nearest cut of the form a above the leaf n -/
def zy_nc (fm : Nat → Int32) (a : Int32) (n : Nat) (t : zy_F) : Int32 := if 0 < ((zy_up n t).filter (fun x => decide (fm x = a))).length then nI (((zy_up n t).filter (fun x => decide (fm x = a))).getD 0 0) else -1
set_option maxRecDepth 100000 in
theorem ze_Tree_nearestCut (D : Nat) (h : zt_at T) (hI : zt_I μ T R t) {n w a : Nat} (hn : n ∈ zy_lvs t) (hw : w < 10) (hwn : μ (T + 3) w = nI n) (ha : a < 2) :
    ze_E (D + 2) A_Tree_nearestCut [.ref (T + 1), .int (nI w), .int (nI a)] (zm_mk μ) (some (.int (zy_nc (μ (T + 7)) (nI a) n t))) (zm_mk μ) := by
  have hnid := (zt_I_lv hI hn).2
  obtain ⟨wt, ok, hr⟩ := zt_I_wf hI hnid
  obtain ⟨-, ⟨-, k5, k6, k7⟩, -⟩ := id hI
  have hn19 := k6 n hnid
  have hidt := zy_id_mem wt
  have hrt : μ (T + 11) (zy_id t) = -1 := k7.resolve_left (fun e => by rw [e] at hidt; cases hidt)
  obtain ⟨u1, u2, u3, u4⟩ := zy_up_ok (n := n) t wt k5 ok hn
  have fm2 := zy_ok_lf t wt ok n hn
  have hna : ¬ μ (T + 7) n = nI a := by
    rw [fm2]
    intro e
    have := (nI_eq (a := 2) (b := a) (by decide) (by omega)).mp e
    omega
  let P := n :: zy_up n t
  have hPm : ∀ x ∈ P, x < 19 := fun x hx => by
    rcases List.mem_cons.mp hx with rfl | hx
    · exact hn19
    · exact k6 x (zy_cts_ids t wt x (u1 x hx))
  have hPd : P.Nodup := by
    refine List.nodup_cons.mpr ⟨fun hx => ?_, u2⟩
    rcases (zy_ok_ct t wt ok n (u1 n hx)).1 with e | e <;> rw [e] at fm2 <;> revert fm2 <;> decide
  have hPl := zy_nodup_le 19 P hPd hPm
  have hv : zy_nc (μ (T + 7)) (nI a) n t = zl_ln (fun x => decide (μ (T + 7) x = nI a)) 0 (-1) P 0 := by
    rw [zl_ln_eq _ _ _ _ _ (Nat.le_refl _), Nat.sub_zero]
    have hfl : P.filter (fun x => decide (μ (T + 7) x = nI a)) = (zy_up n t).filter (fun x => decide (μ (T + 7) x = nI a)) := by
      show (n :: zy_up n t).filter _ = _
      rw [List.filter_cons, if_neg (by simpa using hna)]
    rw [hfl]
    rfl
  rw [hv]
  have hnext : ∀ i, i < P.length → μ (T + 11) (P.getD i 0) = if i + 1 < P.length then nI (P.getD (i + 1) 0) else -1 := by
    intro i hi
    have hi' : i < (zy_up n t).length + 1 := hi
    by_cases c : i < (zy_up n t).length
    · rw [if_pos (show i + 1 < P.length from Nat.succ_lt_succ c)]
      exact u3 i c
    · have : i = (zy_up n t).length := by omega
      subst this
      rw [if_neg (show ¬ (zy_up n t).length + 1 < P.length from Nat.lt_irrefl _)]
      show μ (T + 11) ((n :: zy_up n t).getD (zy_up n t).length 0) = -1
      rw [u4]
      exact hrt
  have hP0 : 0 < P.length := Nat.succ_pos _
  have hP00 : P.getD 0 0 = n := rfl
  generalize P = P at hPm hPl hnext hP0 hP00
  have h19 : (Int8.ofInt 19).toInt32 = (19 : Int32) := by decide
  have key : ∃ r h', ze_G (D + 1) 5 (some .int) zc_X3_nearestCut 9 [(4, .int (nI 0)), (3, .int (nI n)), (0, .ref (T + 1)), (1, .int (nI w)), (2, .int (nI a))] [] (zm_mk μ) r h' ∧ (r = some (.int (zl_ln (fun x => decide (μ (T + 7) x = nI a)) 0 (-1) P 0)) ∧ zm_mk μ = h') := by
    refine ze_loop (Q := fun i L hp => i ≤ P.length ∧ zi_nl L = true ∧ zi_get L 0 = some (.ref (T + 1)) ∧ zi_get L 2 = some (.int (nI a)) ∧ zi_get L 4 = some (.int (nI i)) ∧ zm_mk μ = hp ∧ ∃ (x : Int32), zi_get L 3 = some (.int x) ∧ (x = (if i < P.length then nI (P.getD i 0) else -1) ∧ zl_ln (fun x => decide (μ (T + 7) x = nI a)) 0 (-1) P 0 = zl_ln (fun x => decide (μ (T + 7) x = nI a)) 0 (-1) (P.drop i) 0)) (R := fun r h' => r = some (.int (zl_ln (fun x => decide (μ (T + 7) x = nI a)) 0 (-1) P 0)) ∧ zm_mk μ = h') P.length ?_ ?_ P.length 0 _ _ (by omega) ⟨by omega, rfl, rfl, rfl, rfl, rfl, nI n, rfl, by rw [if_pos hP0, hP00], rfl⟩
    · rintro i L _ hi ⟨-, nl, g0, g2, g4, rfl, x, g3, hq⟩
      obtain ⟨hx, hq⟩ := hq
      rw [if_pos hi] at hx
      have hm : P.getD i 0 ∈ P := zl_mem hi
      have hne := hnext i hi
      rw [zl_drop hi] at hq
      generalize P.getD i 0 = v at hm hq hx hne
      subst hx
      have hv := hPm v hm
      have c1 : ¬ (19 : Int32) ≤ nI i := nI_ge (b := 19) (by omega) (by decide)
      have c2 : ¬ nI v < 0 := nI_pos (by omega)
      have i1 : zi_in (nI v) 19 = true := zm_in hv (by decide)
      have e1 : (nI v).toNatClampNeg = v := nI_clamp (by omega)
      obtain ⟨-, -, -, -, ⟨a7, a8, a9, a10, a11, a12, a13, -⟩, -⟩ := id h
      have hq' : zl_ln (fun x => decide (μ (T + 7) x = nI a)) 0 (-1) P 0 = if decide (μ (T + 7) v = nI a) = true then (if 0 = 0 then nI v else zl_ln (fun x => decide (μ (T + 7) x = nI a)) 0 (-1) (P.drop (i + 1)) (0 + 1)) else zl_ln (fun x => decide (μ (T + 7) x = nI a)) 0 (-1) (P.drop (i + 1)) 0 := hq
      by_cases c3 : μ (T + 7) v = nI a
      · rw [if_pos (by simpa using c3), if_pos rfl] at hq'
        right
        refine ⟨some (.int (nI v)), zm_mk μ, ⟨0, 13, fun F m hF => ?_⟩, by rw [hq'], rfl⟩
        simp (maxDischargeDepth := 9) [zg_0, zg_aload_n, zg_bipush, zg_getfield, zg_goto, zg_iaload, zg_iconst, zg_ifCond, zg_if_icmp, zg_iinc, zg_iload, zg_iload_n, zg_invokevirtual, zg_ireturn, zg_istore, zg_istore_n, zf_X3_nearestCut, zi_ld, zi_lda, zi_cmp, zi_retOk, zi_isI, zi_f3, zi_cr, zi_ci, zi_cn, zi_get_ne, zi_nl_i, zi_nl_r, zi_get_set_eq, nl, g0, g2, g4, g3, zt_g h, h19, c1, c2, zm_iald (k := 0) a7 i1, e1, c3, nI_1]
      · rw [if_neg (by simpa using c3)] at hq'
        left
        refine ⟨zi_set (zi_set L 3 (.int (μ (T + 11) v))) 4 (.int (nI (i + 1))), zm_mk μ, ⟨0, 18, fun F m hF => ?_⟩, by omega, ?_, ?_, ?_, zi_get_set_eq, rfl, μ (T + 11) v, ?_, ⟨hne, hq'⟩⟩
        · simp (maxDischargeDepth := 9) [zg_0, zg_aload_n, zg_bipush, zg_getfield, zg_goto, zg_iaload, zg_iconst, zg_ifCond, zg_if_icmp, zg_iinc, zg_iload, zg_iload_n, zg_invokevirtual, zg_ireturn, zg_istore, zg_istore_n, zf_X3_nearestCut, zi_ld, zi_lda, zi_cmp, zi_retOk, zi_isI, zi_f3, zi_cr, zi_ci, zi_cn, zi_get_ne, zi_nl_i, zi_nl_r, zi_get_set_eq, nl, g0, g2, g4, g3, zt_g h, h19, c1, c2, zm_iald (k := 0) a7 i1, zm_iald (k := 0) a11 i1, e1, c3, nI_1]
        · simp (maxDischargeDepth := 9) [zi_get_ne, zi_nl_i, zi_nl_r, zi_get_set_eq, nl]
        · simp (maxDischargeDepth := 9) [zi_get_ne, zi_nl_i, zi_nl_r, zi_get_set_eq, nl, g0]
        · simp (maxDischargeDepth := 9) [zi_get_ne, zi_nl_i, zi_nl_r, zi_get_set_eq, nl, g2]
        · simp (maxDischargeDepth := 9) [zi_get_ne, zi_nl_i, zi_nl_r, zi_get_set_eq, nl, g3]
    · rintro L _ ⟨-, nl, g0, g2, g4, rfl, x, g3, hq⟩
      rw [List.drop_length] at hq
      obtain ⟨hx, hq⟩ := hq
      rw [if_neg (by omega)] at hx
      subst hx
      have hq : zl_ln (fun x => decide (μ (T + 7) x = nI a)) 0 (-1) P 0 = -1 := hq
      rw [hq]
      by_cases c1 : (19 : Int32) ≤ nI P.length
      · refine ⟨some (.int (-1)), zm_mk μ, ⟨0, 5, fun F m hF => ?_⟩, rfl, rfl⟩
        simp [zg_0, zg_aload_n, zg_bipush, zg_getfield, zg_goto, zg_iaload, zg_iconst, zg_ifCond, zg_if_icmp, zg_iinc, zg_iload, zg_iload_n, zg_invokevirtual, zg_ireturn, zg_istore, zg_istore_n, zf_X3_nearestCut, zi_ld, zi_lda, zi_cmp, zi_retOk, zi_isI, zi_f3, zi_cr, zi_ci, zi_cn, g0, g4, h19, c1]
      · refine ⟨some (.int (-1)), zm_mk μ, ⟨0, 7, fun F m hF => ?_⟩, rfl, rfl⟩
        have c2 : (-1 : Int32) < 0 := by decide
        simp [zg_0, zg_aload_n, zg_bipush, zg_getfield, zg_goto, zg_iaload, zg_iconst, zg_ifCond, zg_if_icmp, zg_iinc, zg_iload, zg_iload_n, zg_invokevirtual, zg_ireturn, zg_istore, zg_istore_n, zf_X3_nearestCut, zi_ld, zi_lda, zi_cmp, zi_retOk, zi_isI, zi_f3, zi_cr, zi_ci, zi_cn, g0, g4, g3, h19, c1, c2]
  obtain ⟨r, h', G, rfl, rfl⟩ := key
  obtain ⟨N1, E1⟩ := ze_Tree_leafOf (μ := μ) D h hw
  rw [hwn] at E1
  obtain ⟨l1, c1⟩ := zt_c (μ := μ) h
  refine ze_in [(0, .ref (T + 1)), (1, .int (nI w)), (2, .int (nI a))] zq_Tree_nearestCut (Nat.le_of_ble_eq_true rfl) rfl (ze_S.end ⟨N1, 6, fun F m hF => ?_⟩ G)
  simp [zg_0, zg_aload_n, zg_bipush, zg_getfield, zg_goto, zg_iaload, zg_iconst, zg_ifCond, zg_if_icmp, zg_iinc, zg_iload, zg_iload_n, zg_invokevirtual, zg_ireturn, zg_istore, zg_istore_n, zf_X3_nearestCut, zi_ld, zi_lda, zi_cmp, zi_retOk, zi_isI, zi_f3, zi_cr, zi_ci, zi_cn, zi_get, zi_set, zq_Tree_leafOf, c1, E1 F (by omega), nI_0]
end ZNC
