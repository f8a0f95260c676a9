/-! Tree.takeOut -/
section ZO2
variable {T : Nat} {μ θ : zm_M} {t : zy_F} {R : List Nat}
theorem zt_pp_7 {a b i c : Nat} {x : Int32} (hc : c ≠ T + 7) : zt_pp (zm_up μ (T + 7) i x) T a b c = zt_pp μ T a b c := by
  have e11 : zm_up μ (T + 7) i x (T + 11) = μ (T + 11) := zm_up_row (by omega)
  have e9 : zm_up μ (T + 7) i x (T + 9) = μ (T + 9) := zm_up_row (by omega)
  have key : ∀ {u v : Nat} {y z : Int32} {k l : Nat}, zm_up (zm_up (zm_up μ (T + 7) i x) u k y) v l z c = zm_up (zm_up μ u k y) v l z c := by
    intro u v y z k l
    funext d
    unfold zm_up
    by_cases c1 : c = v ∧ d = l
    · rw [if_pos c1, if_pos c1]
    · rw [if_neg c1, if_neg c1]
      by_cases c2 : c = u ∧ d = k
      · rw [if_pos c2, if_pos c2]
      · rw [if_neg c2, if_neg c2, if_neg (fun e => hc e.1)]
  unfold zt_pp
  rw [e11, e9]
  split
  · exact key
  · split <;> exact key
theorem zt_dl_ok (hw : zy_wf t) (hd : (zy_ids t).Nodup) (h19 : ∀ x ∈ zy_ids t, x < 19) (ok : zy_okM μ T t) (hrt : μ (T + 11) (zy_id t) = -1) {n : Nat} (hn : n ∈ zy_lvs t) :
    zt_dropped μ (zt_dl μ T n) T t n ∧ (∀ c, c ≠ T → c ≠ T + 7 → c ≠ T + 9 → c ≠ T + 10 → c ≠ T + 11 → zt_dl μ T n c = μ c) ∧ (μ (T + 11) n < 0 ∨ zi_in (μ (T + 11) n) 19 = true) ∧
    (¬ μ (T + 11) n < 0 → zi_in (μ (T + 9) (μ (T + 11) n).toNatClampNeg) 19 = true ∧ zi_in (μ (T + 10) (μ (T + 11) n).toNatClampNeg) 19 = true ∧ (μ (T + 11) (μ (T + 11) n).toNatClampNeg < 0 ∨ zi_in (μ (T + 11) (μ (T + 11) n).toNatClampNeg) 19 = true)) := by
  have hnid := zy_lvs_ids t hw n hn
  have hn19 := h19 n hnid
  by_cases e : zy_id t = n
  · have hneg : μ (T + 11) n < 0 := by rw [← e, hrt]; decide
    have eq : zt_dl μ T n = zm_up (zm_up μ (T + 7) n 3) T 9 (-1) := by
      unfold zt_dl
      dsimp only
      rw [if_pos hneg]
    rw [eq]
    refine ⟨Or.inl ⟨e, fun i => ?_, zm_up_eq⟩, fun c h0 h7 _ _ _ => by rw [zm_up_row h0, zm_up_row h7], Or.inl hneg, fun h => absurd hneg h⟩
    rw [zm_up_ne (by omega), zm_up_pt]
  · obtain ⟨q, hq, eq, hor⟩ := zy_ok_par t hw ok n hnid (Ne.symm e)
    have hqid := zy_cts_ids t hw q hq
    have hq19 := h19 q hqid
    have hneg : ¬ μ (T + 11) n < 0 := by rw [eq]; exact nI_pos (by omega)
    have hcl : (μ (T + 11) n).toNatClampNeg = q := by rw [eq]; exact nI_clamp (by omega)
    obtain ⟨i, j, hi, hj, hij, e1, e2, a1, a2⟩ := zy_ok_kids t hw hd ok q hq
    have hi19 := h19 i hi
    have hj19 := h19 j hj
    have main : ∀ o, o ∈ zy_ids t → n ≠ o → μ (T + 11) o = nI q → ((μ (T + 9) q = nI n ∧ μ (T + 10) q = nI o) ∨ (μ (T + 9) q = nI o ∧ μ (T + 10) q = nI n)) → (if μ (T + 9) q = nI n then μ (T + 10) q else μ (T + 9) q) = nI o →
        zt_dropped μ (zt_dl μ T n) T t n ∧ (∀ c, c ≠ T → c ≠ T + 7 → c ≠ T + 9 → c ≠ T + 10 → c ≠ T + 11 → zt_dl μ T n c = μ c) ∧ (μ (T + 11) n < 0 ∨ zi_in (μ (T + 11) n) 19 = true) ∧
    (¬ μ (T + 11) n < 0 → zi_in (μ (T + 9) (μ (T + 11) n).toNatClampNeg) 19 = true ∧ zi_in (μ (T + 10) (μ (T + 11) n).toNatClampNeg) 19 = true ∧ (μ (T + 11) (μ (T + 11) n).toNatClampNeg < 0 ∨ zi_in (μ (T + 11) (μ (T + 11) n).toNatClampNeg) 19 = true)) := by
      intro o ho hno ao hqn hif
      have ho19 := h19 o ho
      obtain ⟨hab, p9, p10, -, p0, -⟩ := zt_pp_ok (μ := μ) (T := T) (t := t) (c := o) hw hd h19 ok hrt hqid ho19
      have eqd : zt_dl μ T n = zm_up (zt_pp (zm_up μ (T + 7) n 3) T q o) (T + 7) q 3 := by
        unfold zt_dl
        dsimp only
        rw [if_neg hneg, hcl, hif, nI_clamp (by omega)]
      refine ⟨Or.inr ⟨e, q, o, hq, ho, hno, eq, ao, hqn, fun i => ?_, fun c hc => ?_, fun c hc => ?_, fun i => ?_, ?_⟩, fun c h0 h7 h9 h10 h11 => ?_, Or.inr (by rw [eq]; exact zm_in hq19 (by decide)), fun _ => ?_⟩
      · rw [eqd, zm_up_pt, zt_pp_row (by omega) (by omega) (by omega) (by omega), zm_up_pt]
      · rw [eqd, zm_up_ne (by omega), zt_pp_7 (by omega)]; exact p9 c hc
      · rw [eqd, zm_up_ne (by omega), zt_pp_7 (by omega)]; exact p10 c hc
      · rw [eqd, zm_up_ne (by omega), zt_pp_7 (by omega)]; exact zt_pp_11
      · rw [eqd, zm_up_ne (by omega), zt_pp_7 (by omega)]; exact p0
      · rw [eqd, zm_up_row h7, zt_pp_7 h7]; exact zt_pp_row h0 h9 h10 h11
      · rw [hcl, e1, e2]
        exact ⟨zm_in hi19 (by decide), zm_in hj19 (by decide), hab⟩
    by_cases c9 : μ (T + 9) q = nI n
    · have hin : i = n := (nI_eq (by omega) (by omega)).mp (e1.symm.trans c9)
      exact main j hj (fun h => hij (hin.trans h)) a2 (Or.inl ⟨c9, e2⟩) (by rw [if_pos c9]; exact e2)
    · have c10 : μ (T + 10) q = nI n := hor.resolve_left c9
      have hjn : j = n := (nI_eq (by omega) (by omega)).mp (e2.symm.trans c10)
      exact main i hi (fun h => hij (h.symm.trans hjn.symm)) a1 (Or.inr ⟨e1, c10⟩) (by rw [if_neg c9]; exact e1)
set_option maxRecDepth 100000 in
theorem ze_Tree_takeOut_no (D : Nat) (h : zt_at T) {w : Nat} (hw : w < 10) (hwn : μ (T + 3) w < 0) : ze_E (D + 2) A_Tree_takeOut [.ref (T + 1), .int (nI w)] (zm_mk μ) none (zm_mk μ) := by
  obtain ⟨N1, E1⟩ := ze_Tree_leafOf (μ := μ) D h hw
  obtain ⟨l1, c1⟩ := zt_c (μ := μ) h
  have c2 : ¬ (0 : Int32) ≤ μ (T + 3) w := Int32.not_le.mpr hwn
  refine ze_in [(0, .ref (T + 1)), (1, .int (nI w))] zq_Tree_takeOut (Nat.le_of_ble_eq_true rfl) rfl ⟨N1, 7, fun F m hF => ?_⟩
  simp [zg_0, zg_aload_n, zg_getfield, zg_iaload, zg_iastore, zg_iconst, zg_ifCond, zg_if_icmp, zg_iload_n, zg_invokevirtual, zg_istore_n, zg_return, zf_X3_takeOut, zi_ld, zi_lda, zi_cmp, zi_retOk, zi_isI, zi_f3, zi_cr, zi_ci, zi_cn, zi_get, zi_set, zq_Tree_leafOf, c1, c2, E1 F (by omega)]
set_option maxRecDepth 100000 in
theorem ze_Tree_takeOut (D : Nat) (h : zt_at T) (hI : zt_I μ T R t) {n w : Nat} (hn : n ∈ zy_lvs t) (hwR : w ∈ R) (hwn : μ (T + 3) w = nI n) :
    ∃ μ', ze_E (D + 4) A_Tree_takeOut [.ref (T + 1), .int (nI w)] (zm_mk μ) none (zm_mk μ') ∧ zt_C μ' T (R.erase w) (if (zt_tb μ T R n).erase w = [] then zy_out n t else t) ∧ zt_frT T μ μ' ∧
      (∀ v, μ' (T + 3) v = if v = w then -1 else μ (T + 3) v) ∧ μ' (T + 5) = μ (T + 5) ∧ μ' (T + 6) = μ (T + 6) ∧ (∀ i ∈ zy_ids (if (zt_tb μ T R n).erase w = [] then zy_out n t else t), μ' (T + 7) i = μ (T + 7) i) ∧ μ' (T + 8) = μ (T + 8) ∧ (∀ i, μ' (T + 12) i = if i = n ∧ μ (T + 12) n = nI w then zl_nx (zt_tb μ T R n) w else μ (T + 12) i) := by
  have hnid := (zt_I_lv hI hn).2
  obtain ⟨wt, ok, hr⟩ := zt_I_wf hI hnid
  obtain ⟨⟨k1, k2, k3⟩, ⟨-, k5, k6, k7⟩, k8, k9, k10, k11⟩ := id hI
  have hn19 := k6 n hnid
  have hw := k3 w hwR
  have hFd : (zt_tb μ T R n).Nodup := k2.filter _
  have hwF : w ∈ zt_tb μ T R n := zt_tb_mem.mpr ⟨hwR, hwn⟩
  have hidt := zy_id_mem wt
  have hrt : μ (T + 11) (zy_id t) = -1 := k7.resolve_left (fun e => by rw [e] at hidt; cases hidt)
  have hns : zl_ns (fun x => decide (μ (T + 3) x = nI n)) w R (-1) false = zl_nx (zt_tb μ T R n) w := by
    rw [zl_ns_filter _ w (by simpa using hwn)]
    exact zl_ns_eq w _ _ hFd hwF
  let μ1 := if μ (T + 12) n = nI w then zm_up μ (T + 12) n (zl_nx (zt_tb μ T R n) w) else μ
  have r1 : ∀ q, q ≠ T + 12 → μ1 q = μ q := fun q hq => by
    show (if _ then _ else _ : zm_M) q = _
    split
    · exact zm_up_row hq
    · rfl
  have s12 : ∀ i, μ1 (T + 12) i = if i = n ∧ μ (T + 12) n = nI w then zl_nx (zt_tb μ T R n) w else μ (T + 12) i := fun i => by
    show (if _ then _ else _ : zm_M) (T + 12) i = _
    by_cases c : μ (T + 12) n = nI w
    · rw [if_pos c, zm_up_pt]
      by_cases e : i = n
      · rw [if_pos e, if_pos ⟨e, c⟩]
      · rw [if_neg e, if_neg (fun q => e q.1)]
    · rw [if_neg c, if_neg (fun q => c q.2)]
  have L1 : zr_L μ1 (T + 1) R := zr_L_congr (r1 _ (by omega)) (r1 _ (by omega)) k1
  obtain ⟨ν, ⟨N2, E2⟩, hν, fν⟩ := ze_Row_takeOut (μ := μ1) (D + 1) h.2.1 L1 k3 hw
  have fν' : ∀ q, q ≠ T + 1 → q ≠ T + 2 → ν q = μ1 q := fun q h1 h2 => funext fun b => fν q b h1 h2
  let θ := zm_up ν (T + 3) w (-1)
  have rθ : ∀ q, q ≠ T + 1 → q ≠ T + 2 → q ≠ T + 3 → q ≠ T + 12 → θ q = μ q := fun q h1 h2 h3 h12 => (zm_up_row h3).trans ((fν' q h1 h2).trans (r1 q h12))
  have t3 : ∀ v, θ (T + 3) v = if v = w then -1 else μ (T + 3) v := fun v => by
    show zm_up _ _ _ _ _ _ = _
    rw [zm_up_pt, fν' _ (by omega) (by omega), r1 _ (by omega)]
  have t12 : ∀ i, θ (T + 12) i = if i = n ∧ μ (T + 12) n = nI w then zl_nx (zt_tb μ T R n) w else μ (T + 12) i := fun i => by
    show zm_up _ _ _ _ _ _ = _
    rw [zm_up_ne (by omega), fν' _ (by omega) (by omega)]
    exact s12 i
  have hrow : zr_L θ (T + 1) (R.erase w) := zr_L_congr (zm_up_row (by omega)) (zm_up_row (by omega)) hν
  obtain ⟨N1, E1⟩ := ze_Tree_leafOf (μ := μ) (D + 2) h hw
  rw [hwn] at E1
  obtain ⟨N3, E3⟩ := ze_Tree_nextShown (μ := μ) (n := n) (D + 1) h k1 k3 hw
  rw [hns] at E3
  obtain ⟨l1, c1⟩ := zt_c (μ := μ) h
  obtain ⟨l2, c2⟩ := zt_c (μ := θ) h
  have cr := zr_c (μ := μ1) h.2.1
  obtain ⟨-, -, a3, -, ⟨a7, a8, a9, a10, a11, a12, -, -⟩, -⟩ := id h
  have inn : zi_in (nI n) 19 = true := zm_in hn19 (by decide)
  have cn : (nI n).toNatClampNeg = n := nI_clamp (by omega)
  have iw : zi_in (nI w) 10 = true := zm_in hw (by decide)
  have cw : (nI w).toNatClampNeg = w := nI_clamp (by omega)
  have cn0 : (0 : Int32) ≤ nI n := Int32.not_lt.mp (nI_pos (by omega))
  have mθ : zm_up ν (T + 3) w (-1) = θ := rfl
  have hS : ∃ L', zi_get L' 0 = some (.ref (T + 1)) ∧ zi_get L' 2 = some (.int (nI n)) ∧ ze_S (D + 3) 3 none zc_X3_takeOut 0 [(0, .ref (T + 1)), (1, .int (nI w))] [] (zm_mk μ) 48 L' [] (zm_mk θ) := by
    refine ⟨[(2, .int (nI n)), (0, .ref (T + 1)), (1, .int (nI w))], rfl, rfl, ?_⟩
    by_cases c : μ (T + 12) n = nI w
    · have m1 : zm_up μ (T + 12) n (zl_nx (zt_tb μ T R n) w) = μ1 := by
        show _ = (if _ then _ else _ : zm_M)
        rw [if_pos c]
      refine ⟨N1 + N2 + N3, 29, fun F m hF => ?_⟩
      simp [zg_0, zg_aload_n, zg_getfield, zg_iaload, zg_iastore, zg_iconst, zg_ifCond, zg_if_icmp, zg_iload_n, zg_invokevirtual, zg_istore_n, zg_return, zf_X3_takeOut, zi_ld, zi_lda, zi_cmp, zi_retOk, zi_isI, zi_f3, zi_cr, zi_ci, zi_cn, zi_get, zi_set, zt_g h, zq_Tree_leafOf, zq_Tree_nextShown, zq_Row_takeOut, c1, cr, cn0, E1 F (by omega), E2 F (by omega), E3 F (by omega), zm_iald (k := 0) a12 inn, zm_iast a12 inn, cn, c, m1, zm_iast a3 iw, cw, mθ]
    · have m1 : μ = μ1 := by
        show _ = (if _ then _ else _ : zm_M)
        rw [if_neg c]
      rw [← m1] at E2 cr
      refine ⟨N1 + N2 + N3, 21, fun F m hF => ?_⟩
      simp [zg_0, zg_aload_n, zg_getfield, zg_iaload, zg_iastore, zg_iconst, zg_ifCond, zg_if_icmp, zg_iload_n, zg_invokevirtual, zg_istore_n, zg_return, zf_X3_takeOut, zi_ld, zi_lda, zi_cmp, zi_retOk, zi_isI, zi_f3, zi_cr, zi_ci, zi_cn, zi_get, zi_set, zt_g h, zq_Tree_leafOf, zq_Row_takeOut, c1, cr, cn0, E1 F (by omega), E2 F (by omega), zm_iald (k := 0) a12 inn, cn, c, zm_iast a3 iw, cw, mθ]
  obtain ⟨L', g0, g2, S1⟩ := hS
  by_cases hF : (zt_tb μ T R n).erase w = []
  · rw [if_pos hF]
    have hsh : μ (T + 12) n = nI w := by
      obtain ⟨v, hv, e1, e2⟩ := k11 n hn
      by_cases e : v = w
      · rw [e2, e]
      · exfalso
        have : v ∈ (zt_tb μ T R n).erase w := (zl_er_mem hFd).mpr ⟨e, zt_tb_mem.mpr ⟨hv, e1⟩⟩
        rw [hF] at this
        cases this
    have hθn : θ (T + 12) n = -1 := by
      rw [t12, if_pos ⟨rfl, hsh⟩]
      unfold zl_nx
      rw [if_pos hF]
    have okθ : zy_okM θ T t := by
      unfold zy_okM at *
      rw [rθ _ (by omega) (by omega) (by omega) (by omega), rθ _ (by omega) (by omega) (by omega) (by omega), rθ _ (by omega) (by omega) (by omega) (by omega), rθ _ (by omega) (by omega) (by omega) (by omega)]
      exact ok
    obtain ⟨hdr, rdl, hab, hk⟩ := zt_dl_ok (μ := θ) (T := T) wt k5 k6 okθ (by rw [rθ _ (by omega) (by omega) (by omega) (by omega)]; exact hrt) hn
    obtain ⟨N4, E4⟩ := ze_Tree_dropLeaf (μ := θ) (D + 1) h hn19 hab hk
    generalize zt_dl θ T n = ξ at hdr rdl E4
    have hdr' : zt_dropped μ ξ T t n := by
      unfold zt_dropped at *
      rw [rθ (T + 7) (by omega) (by omega) (by omega) (by omega), rθ (T + 9) (by omega) (by omega) (by omega) (by omega), rθ (T + 10) (by omega) (by omega) (by omega) (by omega), rθ (T + 11) (by omega) (by omega) (by omega) (by omega), rθ T (by omega) (by omega) (by omega) (by omega)] at hdr
      exact hdr
    have w3 : ξ (T + 3) = θ (T + 3) := rdl _ (by omega) (by omega) (by omega) (by omega) (by omega)
    have w12 : ξ (T + 12) = θ (T + 12) := rdl _ (by omega) (by omega) (by omega) (by omega) (by omega)
    obtain ⟨hIξ, h7ξ⟩ := zt_I_drop (θ := ξ) hI hn hwR hwn hF (zr_L_congr (rdl _ (by omega) (by omega) (by omega) (by omega) (by omega)) (rdl _ (by omega) (by omega) (by omega) (by omega) (by omega)) hrow) (fun v => by rw [w3]; exact t3 v) (fun i hi => by rw [w12, t12, if_neg (fun e => hi e.1)]) hdr'
    obtain ⟨μ', ⟨N5, E5⟩, C, sm, fT⟩ := ze_Tree_settleI (μ := ξ) D h hIξ
    obtain ⟨-, -, q3, q5, q6, q7, q8, -, -, -, q12, -⟩ := sm
    have gx : ∀ q, q ≠ T → q ≠ T + 1 → q ≠ T + 2 → q ≠ T + 3 → q ≠ T + 7 → q ≠ T + 9 → q ≠ T + 10 → q ≠ T + 11 → q ≠ T + 12 → ξ q = μ q := fun q h0 h1 h2 h3 h7 h9 h10 h11 h12 => (rdl q h0 h7 h9 h10 h11).trans (rθ q h1 h2 h3 h12)
    refine ⟨μ', ?_, C, fun q hq => ?_, fun v => ?_, ?_, ?_, fun i hi => ?_, ?_, fun i => ?_⟩
    · refine ze_in [(0, .ref (T + 1)), (1, .int (nI w))] zq_Tree_takeOut (Nat.le_of_ble_eq_true rfl) rfl (S1.end ⟨N4 + N5, 11, fun F m hF => ?_⟩)
      obtain ⟨l3, c3⟩ := zt_c (μ := ξ) h
      have cm : ¬ (0 : Int32) ≤ -1 := by decide
      simp [zg_0, zg_aload_n, zg_getfield, zg_iaload, zg_iastore, zg_iconst, zg_ifCond, zg_if_icmp, zg_iload_n, zg_invokevirtual, zg_istore_n, zg_return, zf_X3_takeOut, zi_ld, zi_lda, zi_cmp, zi_retOk, zi_isI, zi_f3, zi_cr, zi_ci, zi_cn, g0, g2, zt_g h, zm_iald (k := 0) a12 inn, cn, hθn, cm, zq_Tree_dropLeaf, zq_Tree_settle, c2, c3, E4 F (by omega), E5 F (by omega)]
    · rw [fT q hq]
      unfold zt_out at hq
      exact gx q (by omega) (by omega) (by omega) (by omega) (by omega) (by omega) (by omega) (by omega) (by omega)
    · rw [q3, w3]; exact t3 v
    · rw [q5]; exact gx _ (by omega) (by omega) (by omega) (by omega) (by omega) (by omega) (by omega) (by omega) (by omega)
    · rw [q6]; exact gx _ (by omega) (by omega) (by omega) (by omega) (by omega) (by omega) (by omega) (by omega) (by omega)
    · rw [q7]; exact h7ξ i hi
    · rw [q8]; exact gx _ (by omega) (by omega) (by omega) (by omega) (by omega) (by omega) (by omega) (by omega) (by omega)
    · rw [q12, w12]; exact t12 i
  · rw [if_neg hF]
    have hIθ := zt_I_keep (θ := θ) hI hn19 hwR hwn hF hrow t3 t12 (rθ _ (by omega) (by omega) (by omega) (by omega)) (rθ _ (by omega) (by omega) (by omega) (by omega)) (rθ _ (by omega) (by omega) (by omega) (by omega)) (rθ _ (by omega) (by omega) (by omega) (by omega)) (by rw [rθ _ (by omega) (by omega) (by omega) (by omega)])
    have hθn : (0 : Int32) ≤ θ (T + 12) n := by
      obtain ⟨v, hv, -, e2⟩ := hIθ.2.2.2.2.2 n hn
      rw [e2]
      have := hIθ.1.2.2 v hv
      exact Int32.not_lt.mp (nI_pos (by omega))
    obtain ⟨μ', ⟨N5, E5⟩, C, sm, fT⟩ := ze_Tree_settleI (μ := θ) D h hIθ
    obtain ⟨-, -, q3, q5, q6, q7, q8, -, -, -, q12, -⟩ := sm
    refine ⟨μ', ?_, C, fun q hq => ?_, fun v => ?_, ?_, ?_, fun i hi => ?_, ?_, fun i => ?_⟩
    · refine ze_in [(0, .ref (T + 1)), (1, .int (nI w))] zq_Tree_takeOut (Nat.le_of_ble_eq_true rfl) rfl (S1.end ⟨N5, 8, fun F m hF => ?_⟩)
      simp [zg_0, zg_aload_n, zg_getfield, zg_iaload, zg_iastore, zg_iconst, zg_ifCond, zg_if_icmp, zg_iload_n, zg_invokevirtual, zg_istore_n, zg_return, zf_X3_takeOut, zi_ld, zi_lda, zi_cmp, zi_retOk, zi_isI, zi_f3, zi_cr, zi_ci, zi_cn, g0, g2, zt_g h, zm_iald (k := 0) a12 inn, cn, hθn, zq_Tree_settle, c2, E5 F (by omega)]
    · rw [fT q hq]
      unfold zt_out at hq
      exact rθ q (by omega) (by omega) (by omega) (by omega)
    · rw [q3]; exact t3 v
    · rw [q5]; exact rθ _ (by omega) (by omega) (by omega) (by omega)
    · rw [q6]; exact rθ _ (by omega) (by omega) (by omega) (by omega)
    · rw [q7, rθ _ (by omega) (by omega) (by omega) (by omega)]
    · rw [q8]; exact rθ _ (by omega) (by omega) (by omega) (by omega)
    · rw [q12]; exact t12 i
end ZO2
