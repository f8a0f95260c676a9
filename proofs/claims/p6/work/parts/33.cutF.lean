/-! Tree.cutLeaf, whole -/
theorem zm_up_pt {μ : zm_M} {i j b : Nat} {x : Int32} : zm_up μ i j x i b = if b = j then x else μ i b := by
  unfold zm_up
  by_cases e : b = j
  · rw [if_pos ⟨rfl, e⟩, if_pos e]
  · rw [if_neg (fun q => e q.2), if_neg e]
section ZC3
variable {T : Nat} {μ : zm_M} {t : zy_F} {R : List Nat}
set_option maxRecDepth 100000 in
theorem ze_Tree_cutLeaf (D : Nat) (h : zt_at T) (hI : zt_I μ T R t) {n w a : Nat} (hn : n ∈ zy_lvs t) (hw : w < 10) (hwR : w ∉ R) (ha : a < 2) (nf : Bool) (x y : Int32) :
    ∃ μ' c f, ze_E (D + 4) A_Tree_cutLeaf [.ref (T + 1), .int (nI n), .int (nI a), .int (if nf then 1 else 0), .int (nI w), .int x, .int y] (zm_mk μ) none (zm_mk μ') ∧ zt_C μ' T (R ++ [w]) (zy_sub n (.append (.tag c (.tag (if nf then f else n) .nil)) (.tag (if nf then n else f) .nil)) t) ∧ zt_frT T μ μ' ∧ (c < 19 ∧ f < 19 ∧ c ∉ zy_ids t ∧ f ∉ zy_ids t ∧ c ≠ f) ∧
      (∀ v, μ' (T + 3) v = if v = w then nI f else μ (T + 3) v) ∧ (∀ v, μ' (T + 5) v = if v = w then x else μ (T + 5) v) ∧ (∀ v, μ' (T + 6) v = if v = w then y else μ (T + 6) v) ∧ (∀ i, μ' (T + 7) i = if i = f then 2 else if i = c then nI a else μ (T + 7) i) ∧ (∀ i, μ' (T + 8) i = if i = c then 50 else μ (T + 8) i) ∧ (∀ i, μ' (T + 12) i = if i = f then nI w else μ (T + 12) i) := by
  have hnid := (zt_I_lv hI hn).2
  obtain ⟨wt, ok, hr⟩ := zt_I_wf hI hnid
  have hlen := zt_I_idl hI
  have hRl := zt_R_len hI hw hwR
  obtain ⟨⟨k1, k2, k3⟩, ⟨-, k5, k6, k7⟩, k8, -⟩ := id hI
  have hn19 := k6 n hnid
  have hod := zy_len t wt
  obtain ⟨hc, hcf⟩ := zt_fr_free (μ := μ) (T := T) (l := zy_ids t) k8 (zt_I_used hI) (by omega)
  generalize ec : zt_fr μ T 18 0 = c at hc hcf
  let μ1 := zm_up μ (T + 7) c (nI a)
  have na3 : ¬ nI a = 3 := fun e => by have := (nI_eq (a := a) (b := 3) (by omega) (by decide)).mp e; omega
  obtain ⟨hf, hfl⟩ := zt_fr_free (μ := μ1) (T := T) (l := c :: zy_ids t) (fun i hi hi2 => by
    show zm_up _ _ _ _ _ _ = _
    rw [zm_up_pt, if_neg (fun (e : i = c) => hi2 (e ▸ List.mem_cons_self))]
    exact k8 i hi (fun e => hi2 (List.mem_cons_of_mem _ e))) (fun i hi => by
    show ¬ zm_up _ _ _ _ _ _ = _
    rw [zm_up_pt]
    rcases List.mem_cons.mp hi with rfl | hi
    · rw [if_pos rfl]; exact na3
    · rw [if_neg (zl_ne hcf hi)]; exact zt_I_used hI i hi) (by rw [List.length_cons]; omega)
  generalize ef : zt_fr μ1 T 18 0 = f at hf hfl
  have hne : c ≠ f := fun e => hfl (e ▸ List.mem_cons_self)
  have hff : f ∉ zy_ids t := fun e => hfl (List.mem_cons_of_mem _ e)
  let μ2 := zm_up μ1 (T + 7) f 2
  have r2 : ∀ q, q ≠ T + 7 → μ2 q = μ q := fun q hq => (zm_up_row hq).trans (zm_up_row hq)
  have hidt := zy_id_mem wt
  have hrt : μ (T + 11) (zy_id t) = -1 := k7.resolve_left (fun e => by rw [e] at hidt; cases hidt)
  have pt7 : ∀ i, μ2 (T + 7) i = if i = f then 2 else if i = c then nI a else μ (T + 7) i := fun i => by
    show zm_up _ _ _ _ _ _ = _
    rw [zm_up_pt]
    show (if i = f then (2 : Int32) else zm_up _ _ _ _ _ _) = _
    rw [zm_up_pt]
  have ok2 : zy_okM μ2 T t := by
    refine zy_ok_congr t wt k5 (fun i hi => ?_) (fun q hq => ?_) (fun i hi _ => ?_) ok
    · rw [pt7, if_neg (zl_ne hff hi), if_neg (zl_ne hcf hi)]
    · rw [r2 _ (by omega), r2 _ (by omega)]; exact ⟨rfl, rfl⟩
    · rw [r2 _ (by omega)]
  obtain ⟨hab, p9, p10, pout, p0, p0'⟩ := zt_pp_ok (μ := μ2) (T := T) (t := t) (c := c) wt k5 k6 ok2 (by rw [r2 _ (by omega)]; exact hrt) hnid hc
  let i1 := if nf then f else n
  let i2 := if nf then n else f
  have i1l : i1 < 19 := by show (if nf then f else n) < 19; split <;> assumption
  have i2l : i2 < 19 := by show (if nf then n else f) < 19; split <;> assumption
  let μ3 := zt_pp μ2 T n c
  let μ6 := zm_up (zm_up (zm_up μ3 (T + 8) c 50) (T + 9) c (nI i1)) (T + 10) c (nI i2)
  let μ9 := zm_up (zm_up (zm_up μ6 (T + 11) n (nI c)) (T + 11) f (nI c)) (T + 12) f (nI w)
  have r9 : ∀ q, q ≠ T → q ≠ T + 7 → q ≠ T + 8 → q ≠ T + 9 → q ≠ T + 10 → q ≠ T + 11 → q ≠ T + 12 → μ9 q = μ q := fun q h0 h7 h8 h9 h10 h11 h12 => by
    show zm_up _ _ _ _ _ = _
    rw [zm_up_row h12, zm_up_row h11, zm_up_row h11]
    show zm_up _ _ _ _ _ = _
    rw [zm_up_row h10, zm_up_row h9, zm_up_row h8]
    exact (zt_pp_row h0 h9 h10 h11).trans (r2 q h7)
  have L9 : zr_L μ9 (T + 1) R := by
    unfold zr_L at *
    rw [r9 (T + 1) (by omega) (by omega) (by omega) (by omega) (by omega) (by omega) (by omega), r9 (T + 1 + 1) (by omega) (by omega) (by omega) (by omega) (by omega) (by omega) (by omega)]
    exact k1
  obtain ⟨ν, ⟨N3, E3⟩, hν, fν⟩ := ze_Tree_enter (μ := μ9) (D + 1) h L9 hRl hw (nI f) x y
  have fν' : ∀ q, q ≠ T + 1 → q ≠ T + 2 → ν q = μ9 q := fun q h1 h2 => funext fun b => fν q b h1 h2
  let θ := zm_up (zm_up (zm_up ν (T + 3) w (nI f)) (T + 5) w x) (T + 6) w y
  have rθ : ∀ q, q ≠ T + 3 → q ≠ T + 5 → q ≠ T + 6 → θ q = ν q := fun q h3 h5 h6 => by
    show zm_up _ _ _ _ _ = _
    rw [zm_up_row h6, zm_up_row h5, zm_up_row h3]
  have hrow : zr_L θ (T + 1) (R ++ [w]) := by
    unfold zr_L at *
    rw [rθ (T + 1) (by omega) (by omega) (by omega), rθ (T + 1 + 1) (by omega) (by omega) (by omega)]
    exact hν
  have t3 : ∀ v, θ (T + 3) v = if v = w then nI f else μ (T + 3) v := fun v => by
    show zm_up _ _ _ _ _ _ = _
    rw [zm_up_ne (by omega), zm_up_ne (by omega), zm_up_pt, fν' _ (by omega) (by omega), r9 _ (by omega) (by omega) (by omega) (by omega) (by omega) (by omega) (by omega)]
  have t5 : ∀ v, θ (T + 5) v = if v = w then x else μ (T + 5) v := fun v => by
    show zm_up _ _ _ _ _ _ = _
    rw [zm_up_ne (by omega), zm_up_pt, zm_up_ne (by omega), fν' _ (by omega) (by omega), r9 _ (by omega) (by omega) (by omega) (by omega) (by omega) (by omega) (by omega)]
  have t6 : ∀ v, θ (T + 6) v = if v = w then y else μ (T + 6) v := fun v => by
    show zm_up _ _ _ _ _ _ = _
    rw [zm_up_pt, zm_up_ne (by omega), zm_up_ne (by omega), fν' _ (by omega) (by omega), r9 _ (by omega) (by omega) (by omega) (by omega) (by omega) (by omega) (by omega)]
  have q3 : ∀ q, q ≠ T → q ≠ T + 9 → q ≠ T + 10 → q ≠ T + 11 → μ3 q = μ2 q := fun q h0 h9 h10 h11 => zt_pp_row h0 h9 h10 h11
  have u9 : ∀ q, q ≠ T + 1 → q ≠ T + 2 → q ≠ T + 3 → q ≠ T + 5 → q ≠ T + 6 → θ q = μ9 q := fun q h1 h2 h3 h5 h6 => (rθ q h3 h5 h6).trans (fν' q h1 h2)
  have v9 : ∀ q, q ≠ T + 11 → q ≠ T + 12 → μ9 q = μ6 q := fun q h1 h2 => by
    show zm_up _ _ _ _ _ = _
    rw [zm_up_row h2, zm_up_row h1, zm_up_row h1]
  have t7 : ∀ i, θ (T + 7) i = if i = f then 2 else if i = c then nI a else μ (T + 7) i := fun i => by
    rw [u9 _ (by omega) (by omega) (by omega) (by omega) (by omega), v9 _ (by omega) (by omega)]
    show zm_up _ _ _ _ _ _ = _
    rw [zm_up_ne (by omega), zm_up_ne (by omega), zm_up_ne (by omega), q3 _ (by omega) (by omega) (by omega) (by omega)]
    exact pt7 i
  have t8 : ∀ i, θ (T + 8) i = if i = c then 50 else μ (T + 8) i := fun i => by
    rw [u9 _ (by omega) (by omega) (by omega) (by omega) (by omega), v9 _ (by omega) (by omega)]
    show zm_up _ _ _ _ _ _ = _
    rw [zm_up_ne (by omega), zm_up_ne (by omega), zm_up_pt, q3 _ (by omega) (by omega) (by omega) (by omega), r2 _ (by omega)]
  have t9 : ∀ i, θ (T + 9) i = if i = c then nI i1 else μ3 (T + 9) i := fun i => by
    rw [u9 _ (by omega) (by omega) (by omega) (by omega) (by omega), v9 _ (by omega) (by omega)]
    show zm_up _ _ _ _ _ _ = _
    rw [zm_up_ne (by omega), zm_up_pt, zm_up_ne (by omega)]
  have t10 : ∀ i, θ (T + 10) i = if i = c then nI i2 else μ3 (T + 10) i := fun i => by
    rw [u9 _ (by omega) (by omega) (by omega) (by omega) (by omega), v9 _ (by omega) (by omega)]
    show zm_up _ _ _ _ _ _ = _
    rw [zm_up_pt, zm_up_ne (by omega), zm_up_ne (by omega)]
  have t11 : ∀ i, θ (T + 11) i = if i = f ∨ i = n then nI c else if i = c then μ (T + 11) n else μ (T + 11) i := fun i => by
    rw [u9 _ (by omega) (by omega) (by omega) (by omega) (by omega)]
    show zm_up _ _ _ _ _ _ = _
    rw [zm_up_ne (by omega), zm_up_pt, zm_up_pt]
    have : μ6 (T + 11) i = if i = c then μ (T + 11) n else μ (T + 11) i := by
      show zm_up _ _ _ _ _ _ = _
      rw [zm_up_ne (by omega), zm_up_ne (by omega), zm_up_ne (by omega)]
      refine zt_pp_11.trans ?_
      rw [r2 _ (by omega)]
    rw [this]
    by_cases e1 : i = f
    · rw [if_pos e1, if_pos (Or.inl e1)]
    · by_cases e2 : i = n
      · rw [if_neg e1, if_pos e2, if_pos (Or.inr e2)]
      · rw [if_neg e1, if_neg e2, if_neg (show ¬ (i = f ∨ i = n) from fun q => q.elim e1 e2)]
  have t12 : ∀ i, θ (T + 12) i = if i = f then nI w else μ (T + 12) i := fun i => by
    rw [u9 _ (by omega) (by omega) (by omega) (by omega) (by omega)]
    show zm_up _ _ _ _ _ _ = _
    rw [zm_up_pt, zm_up_ne (by omega), zm_up_ne (by omega)]
    have : μ6 (T + 12) i = μ (T + 12) i := by
      show zm_up _ _ _ _ _ _ = _
      rw [zm_up_ne (by omega), zm_up_ne (by omega), zm_up_ne (by omega), q3 _ (by omega) (by omega) (by omega) (by omega), r2 _ (by omega)]
    rw [this]
  have t0 : θ T 9 = if zy_id t = n then nI c else μ T 9 := by
    rw [u9 _ (by omega) (by omega) (by omega) (by omega) (by omega), v9 _ (by omega) (by omega)]
    show zm_up _ _ _ _ _ _ = _
    rw [zm_up_ne (by omega), zm_up_ne (by omega), zm_up_ne (by omega)]
    refine p0.trans ?_
    rw [r2 _ (by omega)]
  have e9 : μ2 (T + 9) = μ (T + 9) := r2 _ (by omega)
  have e10 : μ2 (T + 10) = μ (T + 10) := r2 _ (by omega)
  rw [e9] at p9
  rw [e10] at p10
  obtain ⟨hIθ, -, -⟩ := zt_I_cut (θ := θ) (i1 := i1) (i2 := i2) hI hn hw hwR ha hc hcf hf hff hne hrow t3 t7 t12 t11 (by rw [t9, if_pos rfl]) (by rw [t10, if_pos rfl]) (by
    cases nf
    · exact Or.inl ⟨rfl, rfl⟩
    · exact Or.inr ⟨rfl, rfl⟩) (fun q hq => by rw [t9, if_neg (zl_ne hcf (zy_cts_ids t wt q hq))]; exact p9 q hq) (fun q hq => by rw [t10, if_neg (zl_ne hcf (zy_cts_ids t wt q hq))]; exact p10 q hq) t0
  obtain ⟨μ', ⟨N4, E4⟩, C, sm, fT⟩ := ze_Tree_settleI (μ := θ) D h hIθ
  obtain ⟨-, -, s3, s5, s6, s7, s8, -, -, -, s12, -⟩ := sm
  refine ⟨μ', c, f, ?_, C, ?_, ⟨hc, hf, hcf, hff, hne⟩, fun v => ?_, fun v => ?_, fun v => ?_, fun v => ?_, fun v => ?_, fun v => ?_⟩
  · obtain ⟨N1, E1⟩ := ze_Tree_newNode (μ := μ) (D + 2) h (nI a)
    rw [ec] at E1
    obtain ⟨N2, E2⟩ := ze_Tree_newNode (μ := μ1) (D + 2) h 2
    rw [ef] at E2
    obtain ⟨N5, E5⟩ := ze_Tree_putInPlaceOf (μ := μ2) (D + 2) h hn19 hc hab
    obtain ⟨l1, c1⟩ := zt_c (μ := μ) h
    obtain ⟨l2, c2⟩ := zt_c (μ := μ1) h
    obtain ⟨l3, c3⟩ := zt_c (μ := μ2) h
    obtain ⟨l4, c4⟩ := zt_c (μ := μ9) h
    obtain ⟨l5, c5⟩ := zt_c (μ := θ) h
    obtain ⟨-, -, a3, -, ⟨a7, a8, a9, a10, a11, a12, -, -⟩, -⟩ := id h
    have h50 : (Int8.ofInt 50).toInt32 = (50 : Int32) := by decide
    have ic : zi_in (nI c) 19 = true := zm_in hc (by decide)
    have iff : zi_in (nI f) 19 = true := zm_in hf (by decide)
    have inn : zi_in (nI n) 19 = true := zm_in hn19 (by decide)
    have cc : (nI c).toNatClampNeg = c := nI_clamp (by omega)
    have cf : (nI f).toNatClampNeg = f := nI_clamp (by omega)
    have cn : (nI n).toNatClampNeg = n := nI_clamp (by omega)
    have k8 := fun (ν : zm_M) (z : Int32) => zm_iast (μ := ν) (x := z) a8 ic
    have k9 := fun (ν : zm_M) (z : Int32) => zm_iast (μ := ν) (x := z) a9 ic
    have k10 := fun (ν : zm_M) (z : Int32) => zm_iast (μ := ν) (x := z) a10 ic
    have k11 := fun (ν : zm_M) (z : Int32) => zm_iast (μ := ν) (x := z) a11 inn
    have k11' := fun (ν : zm_M) (z : Int32) => zm_iast (μ := ν) (x := z) a11 iff
    have k12 := fun (ν : zm_M) (z : Int32) => zm_iast (μ := ν) (x := z) a12 iff
    have m2 : zm_up μ1 (T + 7) f 2 = μ2 := rfl
    have m1 : zm_up μ (T + 7) c (nI a) = μ1 := rfl
    have m3 : zt_pp μ2 T n c = μ3 := rfl
    rw [m1] at E1
    rw [m2] at E2
    rw [m3] at E5
    have mθ : zm_up (zm_up (zm_up ν (T + 3) w (nI f)) (T + 5) w x) (T + 6) w y = θ := rfl
    rw [mθ] at E3
    cases nf
    · have m6 : zm_up (zm_up (zm_up μ3 (T + 8) c 50) (T + 9) c (nI n)) (T + 10) c (nI f) = μ6 := rfl
      have m9 : zm_up (zm_up (zm_up μ6 (T + 11) n (nI c)) (T + 11) f (nI c)) (T + 12) f (nI w) = μ9 := rfl
      refine ze_in [(0, .ref (T + 1)), (1, .int (nI n)), (2, .int (nI a)), (3, .int 0), (4, .int (nI w)), (5, .int x), (6, .int y)] zq_Tree_cutLeaf (Nat.le_of_ble_eq_true rfl) rfl ⟨N1 + N2 + N3 + N4 + N5, 55, fun F m hF => ?_⟩
      simp [zg_0, zg_aload_n, zg_bipush, zg_getfield, zg_goto, zg_iastore, zg_iconst, zg_ifCond, zg_iload, zg_iload_n, zg_invokevirtual, zg_istore, zg_return, zf_X3_cutLeaf, zi_ld, zi_lda, zi_cmp, zi_retOk, zi_isI, zi_f3, zi_cr, zi_ci, zi_cn, zi_get, zi_set, zt_g h, zq_Tree_newNode, zq_Tree_putInPlaceOf, zq_Tree_enter, zq_Tree_settle, c1, c2, c3, c4, c5, E1 F (by omega), E2 F (by omega), E3 F (by omega), E4 F (by omega), E5 F (by omega), h50, k8, k9, k10, k11, k11', k12, cc, cf, cn, m6, m9]
    · have m6 : zm_up (zm_up (zm_up μ3 (T + 8) c 50) (T + 9) c (nI f)) (T + 10) c (nI n) = μ6 := rfl
      have m9 : zm_up (zm_up (zm_up μ6 (T + 11) n (nI c)) (T + 11) f (nI c)) (T + 12) f (nI w) = μ9 := rfl
      refine ze_in [(0, .ref (T + 1)), (1, .int (nI n)), (2, .int (nI a)), (3, .int 1), (4, .int (nI w)), (5, .int x), (6, .int y)] zq_Tree_cutLeaf (Nat.le_of_ble_eq_true rfl) rfl ⟨N1 + N2 + N3 + N4 + N5, 57, fun F m hF => ?_⟩
      simp [zg_0, zg_aload_n, zg_bipush, zg_getfield, zg_goto, zg_iastore, zg_iconst, zg_ifCond, zg_iload, zg_iload_n, zg_invokevirtual, zg_istore, zg_return, zf_X3_cutLeaf, zi_ld, zi_lda, zi_cmp, zi_retOk, zi_isI, zi_f3, zi_cr, zi_ci, zi_cn, zi_get, zi_set, zt_g h, zq_Tree_newNode, zq_Tree_putInPlaceOf, zq_Tree_enter, zq_Tree_settle, c1, c2, c3, c4, c5, E1 F (by omega), E2 F (by omega), E3 F (by omega), E4 F (by omega), E5 F (by omega), h50, k8, k9, k10, k11, k11', k12, cc, cf, cn, m6, m9]
  · intro q hq
    rw [fT q hq]
    unfold zt_out at hq
    rw [u9 q (by omega) (by omega) (by omega) (by omega) (by omega)]
    exact r9 q (by omega) (by omega) (by omega) (by omega) (by omega) (by omega) (by omega)
  · rw [s3]; exact t3 v
  · rw [s5]; exact t5 v
  · rw [s6]; exact t6 v
  · rw [s7]; exact t7 v
  · rw [s8]; exact t8 v
  · rw [s12]; exact t12 v
end ZC3
