section
/-! Tree.lay whole; what holds of a Tree; clear, copyFrom -/
section ZT9
variable {T : Nat} {μ : zm_M} {t : zy_F} {R : List Nat}
set_option maxRecDepth 100000 in
theorem ze_Tree_lay (D : Nat) (h : zt_at T) (hr : zt_root μ T t) (hlt : ∀ n ∈ zy_ids t, n < 19) (hnd : (zy_ids t).Nodup) {lf0 lf1 : Nat → Int32} (ho : zt_O μ T t) (l0 : zy_lso (μ (T + 16)) 0 (μ (T + 7)) lf0 t) (l1 : zy_lso (μ (T + 17)) 1 (μ (T + 7)) lf1 t) {z : Nat} (hz : zm_isA 7 z 2) (hd : z < T ∨ T + 24 ≤ z) :
    ∃ μ', ze_E (D + 5) A_Tree_lay [.ref (T + 1), .ref (z + 1)] (zm_mk μ) none (zm_mk μ') ∧ zt_frL T μ μ' ∧ (zy_wf t → zy_laid (zt_P μ' T) (μ (T + 7)) (μ (T + 8)) (zy_ls 0 (μ (T + 7)) lf0) (zy_ls 1 (μ (T + 7)) lf1) t 0 0 (μ z 0) (μ z 1)) := by
  have hl19 := zy_nodup_le 19 (zy_ids t) hnd hlt
  rcases hr with ⟨rfl, hr⟩ | ⟨hw, hok, hr⟩
  · refine ⟨μ, ze_in [(0, .ref (T + 1)), (1, .ref (z + 1))] zq_Tree_lay (Nat.le_of_ble_eq_true rfl) rfl ⟨0, 15, fun F m hF => ?_⟩, fun _ _ _ _ _ => rfl, fun hw => hw.elim⟩
    have c : (-1 : Int32) < 0 := by decide
    have h12 : μ T 12 = 0 := ho.1
    simp [zg_0, zg_aaload, zg_aload_n, zg_getfield, zg_goto, zg_iaload, zg_iastore, zg_iconst, zg_ifCond, zg_if_icmp, zg_iinc, zg_iload_n, zg_invokevirtual, zg_istore_n, zg_return, zf_X3_lay, zi_ld, zi_lda, zi_cmp, zi_retOk, zi_isI, zi_f3, zi_cr, zi_ci, zi_cn, zi_get, zi_set, zt_g h, hr, c, h12]
  · have hid : zy_id t < 19 := hlt _ (zy_id_mem hw)
    let ν := zm_up (zm_up (zm_up (zm_up μ (T + 19) (zy_id t) 0) (T + 22) (zy_id t) (μ z 0)) (T + 20) (zy_id t) 0) (T + 23) (zy_id t) (μ z 1)
    have fν : zt_frL T μ ν := fun c h1 h2 h3 h4 => by show zm_up _ _ _ _ _ = _; rw [zm_up_row h4, zm_up_row h2, zm_up_row h3, zm_up_row h1]
    have Pν : zt_P ν T (zy_id t) 0 0 (μ z 0) (μ z 1) := by
      refine ⟨?_, ?_, ?_, zm_up_eq⟩ <;> show zm_up _ _ _ _ _ _ = _
      · rw [zm_up_ne (by omega), zm_up_ne (by omega), zm_up_ne (by omega), zm_up_eq]
      · rw [zm_up_ne (by omega), zm_up_eq]
      · rw [zm_up_ne (by omega), zm_up_ne (by omega), zm_up_eq]
    have e7 : ν (T + 7) = μ (T + 7) := fν _ (by omega) (by omega) (by omega) (by omega)
    have e8 : ν (T + 8) = μ (T + 8) := fν _ (by omega) (by omega) (by omega) (by omega)
    have e13 : ν (T + 13) = μ (T + 13) := fν _ (by omega) (by omega) (by omega) (by omega)
    have e16 : ν (T + 16) = μ (T + 16) := fν _ (by omega) (by omega) (by omega) (by omega)
    have e17 : ν (T + 17) = μ (T + 17) := fν _ (by omega) (by omega) (by omega) (by omega)
    have eT : ν T = μ T := fν _ (by omega) (by omega) (by omega) (by omega)
    have okν : zy_okM ν T t := by
      unfold zy_okM at *
      rw [e7, fν (T + 9) (by omega) (by omega) (by omega) (by omega), fν (T + 10) (by omega) (by omega) (by omega) (by omega), fν (T + 11) (by omega) (by omega) (by omega) (by omega)]
      exact hok
    have s0 : ze_S (D + 4) 3 none zc_X3_lay 0 [(0, .ref (T + 1)), (1, .ref (z + 1))] [] (zm_mk μ) 48 [(2, .int (nI 0)), (0, .ref (T + 1)), (1, .ref (z + 1))] [] (zm_mk ν) := by
      refine ⟨0, 59, fun F m _ => ?_⟩
      have c : ¬ nI (zy_id t) < 0 := nI_pos (by omega)
      have i1 : zi_in (nI (zy_id t)) 19 = true := zm_in hid (by decide)
      have e1 : (nI (zy_id t)).toNatClampNeg = zy_id t := nI_clamp (by omega)
      have q1 : zm_up μ (T + 19) (zy_id t) 0 T 9 = nI (zy_id t) := by rw [zm_up_ne (by omega)]; exact hr
      have q2 : zm_up (zm_up μ (T + 19) (zy_id t) 0) (T + 22) (zy_id t) (μ z 0) T 9 = nI (zy_id t) := by rw [zm_up_ne (by omega)]; exact q1
      have q3 : zm_up (zm_up (zm_up μ (T + 19) (zy_id t) 0) (T + 22) (zy_id t) (μ z 0)) (T + 20) (zy_id t) 0 T 9 = nI (zy_id t) := by rw [zm_up_ne (by omega)]; exact q2
      have v1 : zm_up μ (T + 19) (zy_id t) 0 z 0 = μ z 0 := zm_up_ne (by omega)
      have v2 : zm_up (zm_up (zm_up μ (T + 19) (zy_id t) 0) (T + 22) (zy_id t) (μ z 0)) (T + 20) (zy_id t) 0 z 1 = μ z 1 := by rw [zm_up_ne (by omega), zm_up_ne (by omega), zm_up_ne (by omega)]
      simp [zg_0, zg_aaload, zg_aload_n, zg_getfield, zg_goto, zg_iaload, zg_iastore, zg_iconst, zg_ifCond, zg_if_icmp, zg_iinc, zg_iload_n, zg_invokevirtual, zg_istore_n, zg_return, zf_X3_lay, zi_ld, zi_lda, zi_cmp, zi_retOk, zi_isI, zi_f3, zi_cr, zi_ci, zi_cn, zi_get, zi_set, zt_g h, hr, c, zm_ax0 h.2.2.2.2.2.2.1.1, zm_ax0 h.2.2.2.2.2.2.2.1, zm_ax1 h.2.2.2.2.2.2.1.1, zm_ax1 h.2.2.2.2.2.2.2.1, zm_iast h.2.2.2.2.2.2.1.2.1 i1, zm_iast h.2.2.2.2.2.2.1.2.2 i1, zm_iast h.2.2.2.2.2.2.2.2.1 i1, zm_iast h.2.2.2.2.2.2.2.2.2 i1, e1, q1, q2, q3, v1, v2, zm_iald (k := 0) hz zm_in0, zm_iald (k := 0) hz zm_in1, zm_cl0, zm_cl1, nI_0]
      rfl
    obtain ⟨μ', L', S, nl, g0, g2, f, -, d⟩ := zt_lay_S D h (μ (T + 7)) (μ (T + 8)) lf0 lf1 (zy_ids t).length hl19 t hw ν [(2, .int (nI 0)), (0, .ref (T + 1)), (1, .ref (z + 1))] 0 0 0 (μ z 0) (μ z 1) e7 e8 okν hlt hnd (fun j hj => by rw [Nat.zero_add, e13]; exact ho.2 j hj) rfl rfl rfl (by rw [eT]; exact ho.1) (by omega) (by rw [e16]; exact l0) (by rw [e17]; exact l1) Pν
    refine ⟨μ', ze_in [(0, .ref (T + 1)), (1, .ref (z + 1))] zq_Tree_lay (Nat.le_of_ble_eq_true rfl) rfl ((s0.trans S).end ⟨0, 5, fun F m _ => ?_⟩), fun c h1 h2 h3 h4 => (f c h1 h2 h3 h4).trans (fν c h1 h2 h3 h4), fun _ => d⟩
    have q12 : μ' T 12 = nI (zy_ids t).length := by rw [f T (by omega) (by omega) (by omega) (by omega), eT]; exact ho.1
    simp [zg_0, zg_aaload, zg_aload_n, zg_getfield, zg_goto, zg_iaload, zg_iastore, zg_iconst, zg_ifCond, zg_if_icmp, zg_iinc, zg_iload_n, zg_invokevirtual, zg_istore_n, zg_return, zf_X3_lay, zi_ld, zi_lda, zi_cmp, zi_retOk, zi_isI, zi_f3, zi_cr, zi_ci, zi_cn, g0, g2, zt_g h, q12]
/-- what holds of a Tree with the tabs R and the nodes t -/
noncomputable def zt_I (μ : zm_M) (T : Nat) (R : List Nat) (t : zy_F) : Prop :=
  (zr_L μ (T + 1) R ∧ R.Nodup ∧ ∀ w ∈ R, w < 10) ∧ (zt_root μ T t ∧ (zy_ids t).Nodup ∧ (∀ n ∈ zy_ids t, n < 19) ∧ (t = .nil ∨ μ (T + 11) (zy_id t) = -1)) ∧ (∀ n, n < 19 → n ∉ zy_ids t → μ (T + 7) n = 3) ∧
  (∀ w ∈ R, ∃ n ∈ zy_lvs t, μ (T + 3) w = nI n) ∧ (∀ w, w < 10 → w ∉ R → μ (T + 3) w = -1) ∧ ∀ n ∈ zy_lvs t, ∃ w ∈ R, μ (T + 3) w = nI n ∧ μ (T + 12) n = nI w
/-- what is outside the Tree at T -/
noncomputable def zt_out (T c : Nat) : Prop := c < T ∨ T + 24 ≤ c
noncomputable def zt_frT (T : Nat) (μ μ' : zm_M) : Prop := ∀ c, zt_out T c → μ' c = μ c
theorem zt_frT.trans {μ ν ξ : zm_M} (h : zt_frT T μ ν) (g : zt_frT T ν ξ) : zt_frT T μ ξ := fun c hc => (g c hc).trans (h c hc)
/-- the fields that settle doesn't touch -/
noncomputable def zt_same (T : Nat) (μ μ' : zm_M) : Prop := μ' (T + 1) = μ (T + 1) ∧ μ' (T + 2) = μ (T + 2) ∧ μ' (T + 3) = μ (T + 3) ∧ μ' (T + 5) = μ (T + 5) ∧ μ' (T + 6) = μ (T + 6) ∧ μ' (T + 7) = μ (T + 7) ∧ μ' (T + 8) = μ (T + 8) ∧ μ' (T + 9) = μ (T + 9) ∧ μ' (T + 10) = μ (T + 10) ∧ μ' (T + 11) = μ (T + 11) ∧ μ' (T + 12) = μ (T + 12) ∧ μ' T 9 = μ T 9
theorem zt_frZ.same {μ ν : zm_M} (h : zt_frZ T μ ν) : zt_same T μ ν :=
  ⟨h.1 _ (by omega) (by omega) (by omega) (by omega) (by omega), h.1 _ (by omega) (by omega) (by omega) (by omega) (by omega), h.1 _ (by omega) (by omega) (by omega) (by omega) (by omega), h.1 _ (by omega) (by omega) (by omega) (by omega) (by omega), h.1 _ (by omega) (by omega) (by omega) (by omega) (by omega), h.1 _ (by omega) (by omega) (by omega) (by omega) (by omega), h.1 _ (by omega) (by omega) (by omega) (by omega) (by omega), h.1 _ (by omega) (by omega) (by omega) (by omega) (by omega), h.1 _ (by omega) (by omega) (by omega) (by omega) (by omega), h.1 _ (by omega) (by omega) (by omega) (by omega) (by omega), h.1 _ (by omega) (by omega) (by omega) (by omega) (by omega), h.2 _ (by decide)⟩
theorem zt_frZ.out {μ ν : zm_M} (h : zt_frZ T μ ν) : zt_frT T μ ν := fun c hc => by
  unfold zt_out at hc
  exact h.1 c (by omega) (by omega) (by omega) (by omega) (by omega)
theorem zt_same.I {μ ν : zm_M} (h : zt_same T μ ν) (g : zt_I μ T R t) : zt_I ν T R t := by
  obtain ⟨q1, q2, q3, q5, q6, q7, q8, q9, q10, q11, q12, q0⟩ := h
  unfold zt_I zt_root zy_okM zr_L at *
  rw [q1, show T + 1 + 1 = T + 2 from rfl, q2, q3, q7, q9, q10, q11, q12, q0]
  exact g
/-- a settled Tree -/
noncomputable def zt_C (μ : zm_M) (T : Nat) (R : List Nat) (t : zy_F) : Prop := zt_I μ T R t ∧ zt_Z μ T R t
set_option maxRecDepth 100000 in
theorem ze_Tree_settleI (D : Nat) (h : zt_at T) (hI : zt_I μ T R t) : ∃ μ', ze_E (D + 3) A_Tree_settle [.ref (T + 1)] (zm_mk μ) none (zm_mk μ') ∧ zt_C μ' T R t ∧ zt_same T μ μ' ∧ zt_frT T μ μ' := by
  obtain ⟨⟨i1, i2, i3⟩, ⟨i4, i5, i6, i7⟩, i8, i9, i10, i11⟩ := hI
  have hlv := zy_lvs_lt (i4.imp (·.1) (·.1)) i6
  obtain ⟨μ', E, f, z⟩ := ze_Tree_settle D h i4 i6 i5 i1 i3 (fun w hw => by obtain ⟨n, hn, e⟩ := i9 w hw; exact ⟨n, hlv n hn, e⟩)
  exact ⟨μ', E, ⟨f.same.I ⟨⟨i1, i2, i3⟩, ⟨i4, i5, i6, i7⟩, i8, i9, i10, i11⟩, z⟩, f.same, f.out⟩
set_option maxRecDepth 100000 in
theorem ze_Tree_clearI (D : Nat) (h : zt_at T) : ∃ μ', ze_E (D + 2) A_Tree_clear [.ref (T + 1)] (zm_mk μ) none (zm_mk μ') ∧ zt_C μ' T [] .nil ∧ zt_frT T μ μ' := by
  refine ⟨_, ze_Tree_clear D h, ⟨⟨⟨⟨Nat.zero_le _, ?_, fun j hj => by cases hj⟩, List.nodup_nil, fun w hw => by cases hw⟩, ⟨Or.inl ⟨rfl, ?_⟩, List.nodup_nil, fun w hw => (by cases hw), Or.inl rfl⟩, fun n hn _ => ?_, fun w hw => (by cases hw), fun w hw _ => ?_, fun n hn => by cases hn⟩, ⟨zm_up_eq, fun j hj => by cases hj⟩, fun a ha => trivial⟩, fun c hc => ?_⟩
  · rw [zm_up_ne (by omega), zm_up_ne (by omega)]
    unfold zm_fl
    rw [if_neg (by omega), if_neg (by omega)]
    exact zm_up_eq
  · rw [zm_up_ne (by omega)]
    exact zm_up_eq
  · rw [zm_up_ne (by omega), zm_up_ne (by omega)]
    exact if_pos ⟨rfl, hn⟩
  · rw [zm_up_ne (by omega), zm_up_ne (by omega)]
    unfold zm_fl
    rw [if_neg (by omega), if_pos ⟨rfl, hw⟩]
  · unfold zt_out at hc
    rw [zm_up_row (by omega), zm_up_row (by omega)]
    funext b
    unfold zm_fl
    rw [if_neg (by omega), if_neg (by omega), zm_up_row (by omega)]
theorem zm_cp_eq {μ : zm_M} {i0 i1 : Nat} : zm_cp μ i0 i1 i1 = μ i0 := by
  funext b
  exact if_pos rfl
theorem zm_cp_ne {μ : zm_M} {i0 i1 a : Nat} (h : a ≠ i1) : zm_cp μ i0 i1 a = μ a := by
  funext b
  exact if_neg h
set_option maxRecDepth 100000 in
theorem ze_Tree_copyFrom (D : Nat) {Q : Nat} (h : zt_at T) (hQ : zt_at Q) (hd : T + 24 ≤ Q ∨ Q + 24 ≤ T) (hI : zt_I μ Q R t) :
    ∃ μ', ze_E (D + 4) A_Tree_copyFrom [.ref (T + 1), .ref (Q + 1)] (zm_mk μ) none (zm_mk μ') ∧ zt_C μ' T R t ∧ zt_frT T μ μ' ∧ (μ' (T + 3) = μ (Q + 3) ∧ μ' (T + 5) = μ (Q + 5) ∧ μ' (T + 6) = μ (Q + 6) ∧ μ' (T + 7) = μ (Q + 7) ∧ μ' (T + 8) = μ (Q + 8) ∧ μ' (T + 12) = μ (Q + 12)) := by
  obtain ⟨ν, ⟨N1, E1⟩, r1, r2⟩ := ze_Row_copyFrom (μ := μ) (D + 2) h.2.1 hQ.2.1 (by omega) (by omega) hI.1.1
  have r2' : ∀ a, a ≠ T + 1 → a ≠ T + 2 → ν a = μ a := fun a h1 h2 => funext fun b => r2 a b h1 h2
  let ξ := zm_cp (zm_cp (zm_cp (zm_cp (zm_cp (zm_cp (zm_cp (zm_cp (zm_cp ν (Q + 3) (T + 3)) (Q + 5) (T + 5)) (Q + 6) (T + 6)) (Q + 7) (T + 7)) (Q + 8) (T + 8)) (Q + 9) (T + 9)) (Q + 10) (T + 10)) (Q + 11) (T + 11)) (Q + 12) (T + 12)
  have oξ : ∀ c, c < T + 3 ∨ T + 13 ≤ c → ξ c = ν c := fun c hc => by
    show zm_cp _ _ _ _ = _
    rw [zm_cp_ne (by omega), zm_cp_ne (by omega), zm_cp_ne (by omega), zm_cp_ne (by omega), zm_cp_ne (by omega), zm_cp_ne (by omega), zm_cp_ne (by omega), zm_cp_ne (by omega), zm_cp_ne (by omega)]
  have x3 : ξ (T + 3) = μ (Q + 3) := by
    show zm_cp _ _ _ _ = _
    rw [zm_cp_ne (by omega), zm_cp_ne (by omega), zm_cp_ne (by omega), zm_cp_ne (by omega), zm_cp_ne (by omega), zm_cp_ne (by omega), zm_cp_ne (by omega), zm_cp_ne (by omega), zm_cp_eq, r2' _ (by omega) (by omega)]
  have x5 : ξ (T + 5) = μ (Q + 5) := by
    show zm_cp _ _ _ _ = _
    rw [zm_cp_ne (by omega), zm_cp_ne (by omega), zm_cp_ne (by omega), zm_cp_ne (by omega), zm_cp_ne (by omega), zm_cp_ne (by omega), zm_cp_ne (by omega), zm_cp_eq, zm_cp_ne (by omega), r2' _ (by omega) (by omega)]
  have x6 : ξ (T + 6) = μ (Q + 6) := by
    show zm_cp _ _ _ _ = _
    rw [zm_cp_ne (by omega), zm_cp_ne (by omega), zm_cp_ne (by omega), zm_cp_ne (by omega), zm_cp_ne (by omega), zm_cp_ne (by omega), zm_cp_eq, zm_cp_ne (by omega), zm_cp_ne (by omega), r2' _ (by omega) (by omega)]
  have x7 : ξ (T + 7) = μ (Q + 7) := by
    show zm_cp _ _ _ _ = _
    rw [zm_cp_ne (by omega), zm_cp_ne (by omega), zm_cp_ne (by omega), zm_cp_ne (by omega), zm_cp_ne (by omega), zm_cp_eq, zm_cp_ne (by omega), zm_cp_ne (by omega), zm_cp_ne (by omega), r2' _ (by omega) (by omega)]
  have x8 : ξ (T + 8) = μ (Q + 8) := by
    show zm_cp _ _ _ _ = _
    rw [zm_cp_ne (by omega), zm_cp_ne (by omega), zm_cp_ne (by omega), zm_cp_ne (by omega), zm_cp_eq, zm_cp_ne (by omega), zm_cp_ne (by omega), zm_cp_ne (by omega), zm_cp_ne (by omega), r2' _ (by omega) (by omega)]
  have x9 : ξ (T + 9) = μ (Q + 9) := by
    show zm_cp _ _ _ _ = _
    rw [zm_cp_ne (by omega), zm_cp_ne (by omega), zm_cp_ne (by omega), zm_cp_eq, zm_cp_ne (by omega), zm_cp_ne (by omega), zm_cp_ne (by omega), zm_cp_ne (by omega), zm_cp_ne (by omega), r2' _ (by omega) (by omega)]
  have x10 : ξ (T + 10) = μ (Q + 10) := by
    show zm_cp _ _ _ _ = _
    rw [zm_cp_ne (by omega), zm_cp_ne (by omega), zm_cp_eq, zm_cp_ne (by omega), zm_cp_ne (by omega), zm_cp_ne (by omega), zm_cp_ne (by omega), zm_cp_ne (by omega), zm_cp_ne (by omega), r2' _ (by omega) (by omega)]
  have x11 : ξ (T + 11) = μ (Q + 11) := by
    show zm_cp _ _ _ _ = _
    rw [zm_cp_ne (by omega), zm_cp_eq, zm_cp_ne (by omega), zm_cp_ne (by omega), zm_cp_ne (by omega), zm_cp_ne (by omega), zm_cp_ne (by omega), zm_cp_ne (by omega), zm_cp_ne (by omega), r2' _ (by omega) (by omega)]
  have x12 : ξ (T + 12) = μ (Q + 12) := by
    show zm_cp _ _ _ _ = _
    rw [zm_cp_eq, zm_cp_ne (by omega), zm_cp_ne (by omega), zm_cp_ne (by omega), zm_cp_ne (by omega), zm_cp_ne (by omega), zm_cp_ne (by omega), zm_cp_ne (by omega), zm_cp_ne (by omega), r2' _ (by omega) (by omega)]
  have xQ : ξ Q 9 = μ Q 9 := by rw [oξ Q (by omega), r2' _ (by omega) (by omega)]
  let θ := zm_up ξ T 9 (μ Q 9)
  have θr : ∀ c, c ≠ T → θ c = ξ c := fun c hc => zm_up_row hc
  have hIθ : zt_I θ T R t := by
    have hI2 := hI
    unfold zt_I zt_root zy_okM at *
    rw [θr (T + 3) (by omega), θr (T + 7) (by omega), θr (T + 9) (by omega), θr (T + 10) (by omega), θr (T + 11) (by omega), θr (T + 12) (by omega), x3, x7, x9, x10, x11, x12, show θ T 9 = μ Q 9 from zm_up_eq]
    refine ⟨⟨?_, hI2.1.2⟩, hI2.2⟩
    unfold zr_L at *
    rw [θr (T + 1) (by omega), show T + 1 + 1 = T + 2 from rfl, θr (T + 2) (by omega), oξ (T + 1) (by omega), oξ (T + 2) (by omega)]
    exact r1
  obtain ⟨μ', ⟨N2, E2⟩, C, sm, fT⟩ := ze_Tree_settleI (μ := θ) D h hIθ
  obtain ⟨-, -, s3, s5, s6, s7, s8, -, -, -, s12, -⟩ := sm
  refine ⟨μ', ?_, C, ?_, s3.trans ((θr _ (by omega)).trans x3), s5.trans ((θr _ (by omega)).trans x5), s6.trans ((θr _ (by omega)).trans x6), s7.trans ((θr _ (by omega)).trans x7), s8.trans ((θr _ (by omega)).trans x8), s12.trans ((θr _ (by omega)).trans x12)⟩
  · refine ze_in [(0, .ref (T + 1)), (1, .ref (Q + 1))] zq_Tree_copyFrom (Nat.le_of_ble_eq_true rfl) rfl ⟨N1 + N2, 107, fun F m hF => ?_⟩
    have h10 : (Int8.ofInt 10).toInt32 = (10 : Int32) := by decide
    have h19 : (Int8.ofInt 19).toInt32 = (19 : Int32) := by decide
    obtain ⟨-, -, a3, ⟨a4, a5, a6⟩, ⟨a7, a8, a9, a10, a11, a12, -, -⟩, -⟩ := id h
    obtain ⟨-, -, b3, ⟨b4, b5, b6⟩, ⟨b7, b8, b9, b10, b11, b12, -, -⟩, -⟩ := id hQ
    have cr := zr_c (μ := μ) h.2.1
    obtain ⟨lc, cc⟩ := zt_c (μ := θ) h
    have k3 := fun ν : zm_M => zm_cpy (μ := ν) (x := 10) b3 a3 (by decide) (by decide)
    have k5 := fun ν : zm_M => zm_cpy (μ := ν) (x := 10) b5 a5 (by decide) (by decide)
    have k6 := fun ν : zm_M => zm_cpy (μ := ν) (x := 10) b6 a6 (by decide) (by decide)
    have k7 := fun ν : zm_M => zm_cpy (μ := ν) (x := 19) b7 a7 (by decide) (by decide)
    have k8 := fun ν : zm_M => zm_cpy (μ := ν) (x := 19) b8 a8 (by decide) (by decide)
    have k9 := fun ν : zm_M => zm_cpy (μ := ν) (x := 19) b9 a9 (by decide) (by decide)
    have k10 := fun ν : zm_M => zm_cpy (μ := ν) (x := 19) b10 a10 (by decide) (by decide)
    have k11 := fun ν : zm_M => zm_cpy (μ := ν) (x := 19) b11 a11 (by decide) (by decide)
    have k12 := fun ν : zm_M => zm_cpy (μ := ν) (x := 19) b12 a12 (by decide) (by decide)
    have hξ : zm_cp (zm_cp (zm_cp (zm_cp (zm_cp (zm_cp (zm_cp (zm_cp (zm_cp ν (Q + 3) (T + 3)) (Q + 5) (T + 5)) (Q + 6) (T + 6)) (Q + 7) (T + 7)) (Q + 8) (T + 8)) (Q + 9) (T + 9)) (Q + 10) (T + 10)) (Q + 11) (T + 11)) (Q + 12) (T + 12) = ξ := rfl
    have hθ : zm_up ξ T 9 (μ Q 9) = θ := rfl
    simp [zg_0, zg_aaload, zg_aload_n, zg_bipush, zg_getfield, zg_goto, zg_iconst, zg_if_icmp, zg_iinc, zg_iload_n, zg_invokestatic, zg_invokevirtual, zg_istore_n, zg_putfield, zg_return, zf_X3_copyFrom, zi_ld, zi_lda, zi_cmp, zi_retOk, zi_isI, zi_f3, zi_cr, zi_ci, zi_cn, zi_get, zi_set, zt_g h, zt_g hQ, zq_Row_copyFrom, cr, E1 F (by omega), h10, h19, k3, k5, k6, k7, k8, k9, k10, k11, k12, zm_ax0 a4, zm_ax1 a4, zm_ax0 b4, zm_ax1 b4, hξ, xQ, zt_p9 h, hθ, zq_Tree_settle, cc, E2 F (by omega)]
  · intro c hc
    rw [fT c hc]
    unfold zt_out at hc
    rw [θr c (by omega), oξ c (by omega), r2' c (by omega) (by omega)]
end ZT9
end
section
/-! a leaf replaced, a leaf taken away: pure -/
noncomputable def zy_cts : zy_F → List Nat
  | .append (.tag n a) b => n :: (zy_cts a ++ zy_cts b)
  | _ => []
noncomputable def zy_sub (n : Nat) (s : zy_F) : zy_F → zy_F
  | .append (.tag c a) b => .append (.tag c (zy_sub n s a)) (zy_sub n s b)
  | .tag m x => if m = n then s else .tag m x
  | t => t
noncomputable def zy_del (n : Nat) : zy_F → zy_F
  | .append (.tag c a) b => if zy_id a = n then b else if zy_id b = n then a else .append (.tag c (zy_del n a)) (zy_del n b)
  | t => t
theorem zy_cts_ids : ∀ t, zy_wf t → ∀ n ∈ zy_cts t, n ∈ zy_ids t := by
  apply zy_ind
  · intro n m h
    cases h
  · intro n a b _ _ ha hb m h
    rcases List.mem_cons.mp h with rfl | h
    · exact List.mem_cons_self
    · rcases List.mem_append.mp h with h | h
      · exact List.mem_cons_of_mem _ (List.mem_append_left _ (ha m h))
      · exact List.mem_cons_of_mem _ (List.mem_append_right _ (hb m h))
theorem zy_ids_or : ∀ t, zy_wf t → ∀ n ∈ zy_ids t, n ∈ zy_cts t ∨ n ∈ zy_lvs t := by
  apply zy_ind
  · intro n m h
    exact Or.inr h
  · intro n a b _ _ ha hb m h
    rcases List.mem_cons.mp h with rfl | h
    · exact Or.inl List.mem_cons_self
    · rcases List.mem_append.mp h with h | h
      · rcases ha m h with h | h
        · exact Or.inl (List.mem_cons_of_mem _ (List.mem_append_left _ h))
        · exact Or.inr (List.mem_append_left _ h)
      · rcases hb m h with h | h
        · exact Or.inl (List.mem_cons_of_mem _ (List.mem_append_right _ h))
        · exact Or.inr (List.mem_append_right _ h)
theorem zy_sub_out {n : Nat} {s : zy_F} : ∀ t, zy_wf t → n ∉ zy_lvs t → zy_sub n s t = t := by
  apply zy_ind
  · intro m h
    show (if m = n then s else _) = _
    rw [if_neg]
    intro e
    subst e
    exact h List.mem_cons_self
  · intro c a b _ _ ha hb h
    show Std.Format.append (.tag c (zy_sub n s a)) (zy_sub n s b) = _
    rw [ha (fun e => h (List.mem_append_left _ e)), hb (fun e => h (List.mem_append_right _ e))]
theorem zy_sub_wf {n : Nat} {s : zy_F} (hs : zy_wf s) : ∀ t, zy_wf t → zy_wf (zy_sub n s t) := by
  apply zy_ind
  · intro m
    show zy_wf (if m = n then s else _)
    split
    · exact hs
    · trivial
  · intro c a b _ _ ha hb
    exact ⟨ha, hb⟩
theorem zy_sub_perm {n : Nat} {s : zy_F} : ∀ t, zy_wf t → (zy_ids t).Nodup → n ∈ zy_lvs t → List.Perm (n :: zy_ids (zy_sub n s t)) (zy_ids s ++ zy_ids t) ∧ List.Perm (n :: zy_lvs (zy_sub n s t)) (zy_lvs s ++ zy_lvs t) ∧ List.Perm (zy_cts (zy_sub n s t)) (zy_cts s ++ zy_cts t) := by
  apply zy_ind
  · intro m hd h
    have : n = m := by simpa [zy_lvs] using h
    subst this
    have e : zy_sub n s (.tag n .nil) = s := if_pos rfl
    rw [e]
    refine ⟨List.perm_append_comm (l₁ := [n]), List.perm_append_comm (l₁ := [n]), ?_⟩
    show List.Perm _ (zy_cts s ++ [])
    rw [List.append_nil]
  · intro c a b wa wb ha hb hd h
    have hd' : (c :: (zy_ids a ++ zy_ids b)).Nodup := hd
    obtain ⟨-, hd2⟩ := List.nodup_cons.mp hd'
    obtain ⟨da, db, dis⟩ := List.nodup_append.mp hd2
    have h' : n ∈ zy_lvs a ++ zy_lvs b := h
    have r1 : zy_ids (zy_sub n s (.append (.tag c a) b)) = c :: (zy_ids (zy_sub n s a) ++ zy_ids (zy_sub n s b)) := rfl
    have r2 : zy_lvs (zy_sub n s (.append (.tag c a) b)) = zy_lvs (zy_sub n s a) ++ zy_lvs (zy_sub n s b) := rfl
    have r3 : zy_cts (zy_sub n s (.append (.tag c a) b)) = c :: (zy_cts (zy_sub n s a) ++ zy_cts (zy_sub n s b)) := rfl
    have r4 : zy_ids (.append (.tag c a) b) = c :: (zy_ids a ++ zy_ids b) := rfl
    have r5 : zy_lvs (.append (.tag c a) b) = zy_lvs a ++ zy_lvs b := rfl
    have r6 : zy_cts (.append (.tag c a) b) = c :: (zy_cts a ++ zy_cts b) := rfl
    rw [r1, r2, r3, r4, r5, r6]
    rcases List.mem_append.mp h' with h' | h'
    · obtain ⟨p1, p2, p3⟩ := ha da h'
      have hb' : n ∉ zy_lvs b := fun e => dis n (zy_lvs_ids a wa n h') n (zy_lvs_ids b wb n e) rfl
      rw [zy_sub_out b wb hb']
      refine ⟨?_, ?_, ?_⟩
      · have q := (p1.append_right (zy_ids b)).cons c
        refine (List.Perm.swap c n _).trans (q.trans ?_)
        rw [List.append_assoc]
        exact List.perm_middle.symm
      · have q := p2.append_right (zy_lvs b)
        rw [List.append_assoc] at q
        exact q
      · have q := (p3.append_right (zy_cts b)).cons c
        refine q.trans ?_
        rw [List.append_assoc]
        exact List.perm_middle.symm
    · obtain ⟨p1, p2, p3⟩ := hb db h'
      have ha' : n ∉ zy_lvs a := fun e => dis n (zy_lvs_ids a wa n e) n (zy_lvs_ids b wb n h') rfl
      rw [zy_sub_out a wa ha']
      refine ⟨?_, ?_, ?_⟩
      · have q : List.Perm (n :: (zy_ids a ++ zy_ids (zy_sub n s b))) (zy_ids a ++ (zy_ids s ++ zy_ids b)) := List.perm_middle.symm.trans (p1.append_left (zy_ids a))
        refine (List.Perm.swap c n _).trans ((q.cons c).trans ?_)
        refine List.Perm.trans ?_ List.perm_middle.symm
        refine List.Perm.cons c ?_
        rw [← List.append_assoc, ← List.append_assoc]
        exact List.perm_append_comm.append_right _
      · have q : List.Perm (n :: (zy_lvs a ++ zy_lvs (zy_sub n s b))) (zy_lvs a ++ (zy_lvs s ++ zy_lvs b)) := List.perm_middle.symm.trans (p2.append_left (zy_lvs a))
        refine q.trans ?_
        rw [← List.append_assoc, ← List.append_assoc]
        exact List.perm_append_comm.append_right _
      · have q : List.Perm (zy_cts a ++ zy_cts (zy_sub n s b)) (zy_cts a ++ (zy_cts s ++ zy_cts b)) := p3.append_left (zy_cts a)
        refine (q.cons c).trans ?_
        refine List.Perm.trans ?_ List.perm_middle.symm
        refine List.Perm.cons c ?_
        rw [← List.append_assoc, ← List.append_assoc]
        exact List.perm_append_comm.append_right _
section ZYO
variable {fm fs sd ab fm' fs' sd' ab' : Nat → Int32}
theorem zy_ok_lf : ∀ t, zy_wf t → zy_ok fm fs sd ab t → ∀ n ∈ zy_lvs t, fm n = 2 := by
  apply zy_ind
  · intro n h m hm
    have : m = n := by simpa [zy_lvs] using hm
    subst this
    exact h
  · intro n a b _ _ ha hb h m hm
    rcases List.mem_append.mp hm with hm | hm
    · exact ha h.2.1 m hm
    · exact hb h.2.2 m hm
theorem zy_ok_ct : ∀ t, zy_wf t → zy_ok fm fs sd ab t → ∀ q ∈ zy_cts t, (fm q = 0 ∨ fm q = 1) ∧ ∃ i ∈ zy_ids t, ∃ j ∈ zy_ids t, fs q = nI i ∧ sd q = nI j ∧ ab i = nI q ∧ ab j = nI q := by
  apply zy_ind
  · intro n h m hm
    cases hm
  · intro n a b wa wb ha hb h m hm
    rcases List.mem_cons.mp hm with rfl | hm
    · exact ⟨h.1.1, zy_id a, List.mem_cons_of_mem _ (List.mem_append_left _ (zy_id_mem wa)), zy_id b, List.mem_cons_of_mem _ (List.mem_append_right _ (zy_id_mem wb)), h.1.2⟩
    · rcases List.mem_append.mp hm with hm | hm
      · obtain ⟨q1, i, hi, j, hj, q2⟩ := ha h.2.1 m hm
        exact ⟨q1, i, List.mem_cons_of_mem _ (List.mem_append_left _ hi), j, List.mem_cons_of_mem _ (List.mem_append_left _ hj), q2⟩
      · obtain ⟨q1, i, hi, j, hj, q2⟩ := hb h.2.2 m hm
        exact ⟨q1, i, List.mem_cons_of_mem _ (List.mem_append_right _ hi), j, List.mem_cons_of_mem _ (List.mem_append_right _ hj), q2⟩
theorem zy_ok_par : ∀ t, zy_wf t → zy_ok fm fs sd ab t → ∀ m ∈ zy_ids t, m ≠ zy_id t → ∃ q ∈ zy_cts t, ab m = nI q ∧ (fs q = nI m ∨ sd q = nI m) := by
  apply zy_ind
  · intro n h m hm hne
    have : m = n := by simpa [zy_ids] using hm
    exact absurd this hne
  · intro n a b wa wb ha hb h m hm hne
    rcases List.mem_cons.mp hm with e | hm
    · exact absurd e hne
    · rcases List.mem_append.mp hm with hm | hm
      · by_cases e : m = zy_id a
        · subst e
          exact ⟨n, List.mem_cons_self, h.1.2.2.2.1, Or.inl h.1.2.1⟩
        · obtain ⟨q, hq, q1⟩ := ha h.2.1 m hm e
          exact ⟨q, List.mem_cons_of_mem _ (List.mem_append_left _ hq), q1⟩
      · by_cases e : m = zy_id b
        · subst e
          exact ⟨n, List.mem_cons_self, h.1.2.2.2.2, Or.inr h.1.2.2.1⟩
        · obtain ⟨q, hq, q1⟩ := hb h.2.2 m hm e
          exact ⟨q, List.mem_cons_of_mem _ (List.mem_append_right _ hq), q1⟩
theorem zy_ok_congr : ∀ t, zy_wf t → (zy_ids t).Nodup → (∀ x ∈ zy_ids t, fm' x = fm x) → (∀ q ∈ zy_cts t, fs' q = fs q ∧ sd' q = sd q) → (∀ x ∈ zy_ids t, x ≠ zy_id t → ab' x = ab x) → zy_ok fm fs sd ab t → zy_ok fm' fs' sd' ab' t := by
  apply zy_ind
  · intro n _ h1 _ _ h
    exact (h1 n List.mem_cons_self).trans h
  · intro n a b wa wb ha hb hd h1 h2 h3 h
    have hd' : (n :: (zy_ids a ++ zy_ids b)).Nodup := hd
    obtain ⟨hn, hd2⟩ := List.nodup_cons.mp hd'
    obtain ⟨da, db, dis⟩ := List.nodup_append.mp hd2
    obtain ⟨⟨q1, q2, q3, q4, q5⟩, oa, ob⟩ := h
    have ma : ∀ x ∈ zy_ids a, x ∈ zy_ids (.append (.tag n a) b) := fun x hx => List.mem_cons_of_mem _ (List.mem_append_left _ hx)
    have mb : ∀ x ∈ zy_ids b, x ∈ zy_ids (.append (.tag n a) b) := fun x hx => List.mem_cons_of_mem _ (List.mem_append_right _ hx)
    have na : ∀ x ∈ zy_ids a, x ≠ n := fun x hx e => hn (e ▸ List.mem_append_left _ hx)
    have nb : ∀ x ∈ zy_ids b, x ≠ n := fun x hx e => hn (e ▸ List.mem_append_right _ hx)
    refine ⟨⟨?_, ?_, ?_, ?_, ?_⟩, ha da (fun x hx => h1 x (ma x hx)) (fun q hq => h2 q (List.mem_cons_of_mem _ (List.mem_append_left _ hq))) (fun x hx _ => h3 x (ma x hx) (na x hx)) oa, hb db (fun x hx => h1 x (mb x hx)) (fun q hq => h2 q (List.mem_cons_of_mem _ (List.mem_append_right _ hq))) (fun x hx _ => h3 x (mb x hx) (nb x hx)) ob⟩
    · rw [h1 n List.mem_cons_self]; exact q1
    · rw [(h2 n List.mem_cons_self).1]; exact q2
    · rw [(h2 n List.mem_cons_self).2]; exact q3
    · rw [h3 _ (ma _ (zy_id_mem wa)) (na _ (zy_id_mem wa))]; exact q4
    · rw [h3 _ (mb _ (zy_id_mem wb)) (nb _ (zy_id_mem wb))]; exact q5
theorem zy_sub_id {n : Nat} {s : zy_F} (hn : fm n = 2) : ∀ t, zy_wf t → zy_ok fm fs sd ab t → zy_id (zy_sub n s t) = if zy_id t = n then zy_id s else zy_id t := by
  apply zy_ind
  · intro m h
    show zy_id (if m = n then s else .tag m .nil) = if m = n then zy_id s else m
    split <;> rfl
  · intro c a b _ _ _ _ h
    show c = if c = n then zy_id s else c
    rw [if_neg]
    intro e
    subst e
    rcases h.1.1 with e | e <;> rw [e] at hn <;> revert hn <;> decide
/-- the leaf n is replaced by s -/
theorem zy_ok_sub {n : Nat} {s : zy_F} (hn : fm n = 2) (hn31 : n < 2 ^ 31) (hab : ab' (zy_id s) = ab n) (hs : zy_ok fm' fs' sd' ab' s) : ∀ t, zy_wf t → (∀ x ∈ zy_ids t, x < 2 ^ 31) → (∀ x ∈ zy_ids t, x ≠ n → fm' x = fm x) → (∀ q ∈ zy_cts t, fs' q = (if fs q = nI n then nI (zy_id s) else fs q) ∧ sd' q = (if sd q = nI n then nI (zy_id s) else sd q)) → (∀ x ∈ zy_ids t, x ≠ n → ab' x = ab x) → zy_ok fm fs sd ab t → zy_ok fm' fs' sd' ab' (zy_sub n s t) := by
  apply zy_ind
  · intro m _ h1 _ _ h
    show zy_ok fm' fs' sd' ab' (if m = n then s else .tag m .nil)
    by_cases e : m = n
    · rw [if_pos e]; exact hs
    · rw [if_neg e]
      exact (h1 m List.mem_cons_self e).trans h
  · intro c a b wa wb ha hb hlt h1 h2 h3 h
    obtain ⟨⟨q1, q2, q3, q4, q5⟩, oa, ob⟩ := h
    have ma : ∀ x ∈ zy_ids a, x ∈ zy_ids (.append (.tag c a) b) := fun x hx => List.mem_cons_of_mem _ (List.mem_append_left _ hx)
    have mb : ∀ x ∈ zy_ids b, x ∈ zy_ids (.append (.tag c a) b) := fun x hx => List.mem_cons_of_mem _ (List.mem_append_right _ hx)
    have cn : c ≠ n := by
      intro e
      subst e
      rcases q1 with e | e <;> rw [e] at hn <;> revert hn <;> decide
    have ia := zy_sub_id (s := s) hn a wa oa
    have ib := zy_sub_id (s := s) hn b wb ob
    have la := hlt _ (ma _ (zy_id_mem wa))
    have lb := hlt _ (mb _ (zy_id_mem wb))
    obtain ⟨f1, f2⟩ := h2 c List.mem_cons_self
    refine ⟨⟨?_, ?_, ?_, ?_, ?_⟩, ha (fun x hx => hlt x (ma x hx)) (fun x hx => h1 x (ma x hx)) (fun q hq => h2 q (List.mem_cons_of_mem _ (List.mem_append_left _ hq))) (fun x hx => h3 x (ma x hx)) oa, hb (fun x hx => hlt x (mb x hx)) (fun x hx => h1 x (mb x hx)) (fun q hq => h2 q (List.mem_cons_of_mem _ (List.mem_append_right _ hq))) (fun x hx => h3 x (mb x hx)) ob⟩
    · rw [h1 c List.mem_cons_self cn]; exact q1
    · rw [f1, q2, ia]
      by_cases e : zy_id a = n
      · rw [if_pos e, if_pos (by rw [e])]
      · rw [if_neg e, if_neg (fun e2 => e ((nI_eq la hn31).mp e2))]
    · rw [f2, q3, ib]
      by_cases e : zy_id b = n
      · rw [if_pos e, if_pos (by rw [e])]
      · rw [if_neg e, if_neg (fun e2 => e ((nI_eq lb hn31).mp e2))]
    · rw [ia]
      by_cases e : zy_id a = n
      · rw [if_pos e, hab, ← e]; exact q4
      · rw [if_neg e, h3 _ (ma _ (zy_id_mem wa)) e]; exact q4
    · rw [ib]
      by_cases e : zy_id b = n
      · rw [if_pos e, hab, ← e]; exact q5
      · rw [if_neg e, h3 _ (mb _ (zy_id_mem wb)) e]; exact q5
end ZYO
end
section
/-! a leaf taken away; nodes that are free: pure -/
theorem zy_lvs_nodup : ∀ t, zy_wf t → (zy_ids t).Nodup → (zy_lvs t).Nodup := by
  apply zy_ind
  · intro n h
    exact h
  · intro n a b wa wb ha hb h
    have h' : (n :: (zy_ids a ++ zy_ids b)).Nodup := h
    obtain ⟨-, h2⟩ := List.nodup_cons.mp h'
    obtain ⟨da, db, dis⟩ := List.nodup_append.mp h2
    exact List.nodup_append.mpr ⟨ha da, hb db, fun x hx y hy => dis x (zy_lvs_ids a wa x hx) y (zy_lvs_ids b wb y hy)⟩
theorem zl_sub_le : ∀ (l l' : List Nat), l.Nodup → (∀ x ∈ l, x ∈ l') → l.length ≤ l'.length := by
  intro l
  induction l with
  | nil => intro l' _ _; exact Nat.zero_le _
  | cons x l ih =>
    intro l' hd h
    obtain ⟨h1, h2⟩ := List.nodup_cons.mp hd
    have hx := h x List.mem_cons_self
    have := ih (l'.erase x) h2 (fun y hy => (List.mem_erase_of_ne (fun (e : y = x) => h1 (e ▸ hy))).mpr (h y (List.mem_cons_of_mem _ hy)))
    have e := List.length_erase_of_mem hx
    have p := List.length_pos_of_mem hx
    rw [List.length_cons]
    omega
theorem zl_free : ∀ (n : Nat) (l : List Nat), l.length < n → ∃ u, u < n ∧ u ∉ l := by
  intro n l h
  by_cases c : ∃ u, u < n ∧ u ∉ l
  · exact c
  · have : ∀ u, u < n → u ∈ l := fun u hu => Decidable.byContradiction (fun hc => c ⟨u, hu, hc⟩)
    have := zl_sub_le (List.range n) l List.nodup_range (fun x hx => this x (List.mem_range.mp hx))
    rw [List.length_range] at this
    omega
theorem zt_fr_ok {μ : zm_M} {T : Nat} : ∀ (m i : Nat), (∃ u, i ≤ u ∧ u ≤ i + m ∧ μ (T + 7) u = 3) → μ (T + 7) (zt_fr μ T m i) = 3 := by
  intro m
  induction m with
  | zero =>
    intro i ⟨u, h1, h2, h3⟩
    have : u = i := by omega
    subst this
    exact h3
  | succ m ih =>
    intro i ⟨u, h1, h2, h3⟩
    unfold zt_fr
    by_cases c : μ (T + 7) i = 3
    · rw [if_pos c]; exact c
    · rw [if_neg c]
      have : u ≠ i := fun e => c (e ▸ h3)
      exact ih (i + 1) ⟨u, by omega, by omega, h3⟩
/-- a free node is found -/
theorem zt_fr_free {μ : zm_M} {T : Nat} {l : List Nat} (hf : ∀ n, n < 19 → n ∉ l → μ (T + 7) n = 3) (ho : ∀ n ∈ l, ¬ μ (T + 7) n = 3) (hl : l.length < 19) : zt_fr μ T 18 0 < 19 ∧ zt_fr μ T 18 0 ∉ l := by
  obtain ⟨u, hu, hul⟩ := zl_free 19 l hl
  have h1 := zt_fr_ok (μ := μ) (T := T) 18 0 ⟨u, by omega, by omega, hf u hu hul⟩
  have h2 := zt_fr_le (μ := μ) (T := T) 18 0
  exact ⟨by omega, fun h => ho _ h h1⟩
section ZYD
variable {fm fs sd ab fm' fs' sd' ab' : Nat → Int32}
theorem zy_del_out {n : Nat} : ∀ t, zy_wf t → n ∉ zy_ids t → zy_del n t = t := by
  apply zy_ind
  · intro m h
    rfl
  · intro c a b wa wb ha hb h
    have na : n ∉ zy_ids a := fun e => h (List.mem_cons_of_mem _ (List.mem_append_left _ e))
    have nb : n ∉ zy_ids b := fun e => h (List.mem_cons_of_mem _ (List.mem_append_right _ e))
    show (if zy_id a = n then b else if zy_id b = n then a else Std.Format.append (.tag c (zy_del n a)) (zy_del n b)) = _
    rw [if_neg (fun (e : zy_id a = n) => na (e ▸ zy_id_mem wa)), if_neg (fun (e : zy_id b = n) => nb (e ▸ zy_id_mem wb)), ha na, hb nb]
theorem zy_leaf_of {n : Nat} (hfn : fm n = 2) : ∀ a, zy_wf a → zy_ok fm fs sd ab a → zy_id a = n → a = .tag n .nil := by
  apply zy_ind
  · intro m _ e
    have e : m = n := e
    rw [e]
  · intro m x y _ _ _ _ h e
    have e : m = n := e
    subst e
    exfalso
    rcases h.1.1 with e | e <;> rw [e] at hfn <;> revert hfn <;> decide
/-- the cut above a leaf -/
theorem zy_del_perm {n q : Nat} (hfn : fm n = 2) (hn31 : n < 2 ^ 31) (hq31 : q < 2 ^ 31) : ∀ t, zy_wf t → (∀ x ∈ zy_ids t, x < 2 ^ 31) → zy_ok fm fs sd ab t → (zy_ids t).Nodup → n ∈ zy_lvs t → n ≠ zy_id t → ab n = nI q →
    zy_wf (zy_del n t) ∧ List.Perm (n :: q :: zy_ids (zy_del n t)) (zy_ids t) ∧ List.Perm (n :: zy_lvs (zy_del n t)) (zy_lvs t) ∧ List.Perm (q :: zy_cts (zy_del n t)) (zy_cts t) := by
  apply zy_ind
  · intro m _ _ _ hn hne
    have : n = m := by simpa [zy_lvs] using hn
    exact absurd this hne
  · intro c a b wa wb ha hb hlt h hd hn hne hab
    have ma : ∀ x ∈ zy_ids a, x ∈ zy_ids (.append (.tag c a) b) := fun x hx => List.mem_cons_of_mem _ (List.mem_append_left _ hx)
    have mb : ∀ x ∈ zy_ids b, x ∈ zy_ids (.append (.tag c a) b) := fun x hx => List.mem_cons_of_mem _ (List.mem_append_right _ hx)
    have hd' : (c :: (zy_ids a ++ zy_ids b)).Nodup := hd
    obtain ⟨hc, hd2⟩ := List.nodup_cons.mp hd'
    obtain ⟨da, db, dis⟩ := List.nodup_append.mp hd2
    obtain ⟨⟨q1, q2, q3, q4, q5⟩, oa, ob⟩ := h
    have c31 := hlt c List.mem_cons_self
    have leafA : zy_id a = n → a = .tag n .nil := zy_leaf_of hfn a wa oa
    have leafB : zy_id b = n → b = .tag n .nil := zy_leaf_of hfn b wb ob
    have r4 : zy_ids (.append (.tag c a) b) = c :: (zy_ids a ++ zy_ids b) := rfl
    have r5 : zy_lvs (.append (.tag c a) b) = zy_lvs a ++ zy_lvs b := rfl
    have r6 : zy_cts (.append (.tag c a) b) = c :: (zy_cts a ++ zy_cts b) := rfl
    have r0 : zy_del n (.append (.tag c a) b) = if zy_id a = n then b else if zy_id b = n then a else .append (.tag c (zy_del n a)) (zy_del n b) := rfl
    rw [r0, r4, r5, r6]
    by_cases ea : zy_id a = n
    · rw [if_pos ea]
      have hcq : c = q := (nI_eq c31 hq31).mp (by rw [← hab, ← ea]; exact q4.symm)
      rw [leafA ea]
      subst hcq
      exact ⟨wb, List.Perm.swap _ _ _, List.Perm.refl _, List.Perm.refl _⟩
    · rw [if_neg ea]
      by_cases eb : zy_id b = n
      · rw [if_pos eb]
        have hcq : c = q := (nI_eq c31 hq31).mp (by rw [← hab, ← eb]; exact q5.symm)
        rw [leafB eb]
        subst hcq
        refine ⟨wa, ?_, List.perm_append_comm (l₁ := [n]), ?_⟩
        · refine (List.Perm.swap _ _ _).trans (List.Perm.cons c ?_)
          exact List.perm_append_comm (l₁ := [n])
        · show List.Perm _ (c :: (zy_cts a ++ []))
          rw [List.append_nil]
      · rw [if_neg eb]
        have hn' : n ∈ zy_lvs a ++ zy_lvs b := hn
        rcases List.mem_append.mp hn' with hn' | hn'
        · have hnb : n ∉ zy_ids b := fun e => dis n (zy_lvs_ids a wa n hn') n e rfl
          rw [zy_del_out b wb hnb]
          obtain ⟨p0, p1, p2, p3⟩ := ha (fun x hx => hlt x (ma x hx)) oa da hn' (fun e => ea e.symm) hab
          refine ⟨⟨p0, wb⟩, ?_, ?_, ?_⟩
          · show List.Perm (n :: q :: c :: (zy_ids (zy_del n a) ++ zy_ids b)) (c :: (zy_ids a ++ zy_ids b))
            have k := (p1.append_right (zy_ids b)).cons c
            refine List.Perm.trans ?_ k
            have : List.Perm (n :: q :: c :: (zy_ids (zy_del n a) ++ zy_ids b)) (n :: c :: q :: (zy_ids (zy_del n a) ++ zy_ids b)) := (List.Perm.swap c q _).cons n
            exact this.trans (List.Perm.swap c n _)
          · exact p2.append_right (zy_lvs b)
          · show List.Perm (q :: c :: (zy_cts (zy_del n a) ++ zy_cts b)) (c :: (zy_cts a ++ zy_cts b))
            exact (List.Perm.swap c q _).trans ((p3.append_right (zy_cts b)).cons c)
        · have hna : n ∉ zy_ids a := fun e => dis n e n (zy_lvs_ids b wb n hn') rfl
          rw [zy_del_out a wa hna]
          obtain ⟨p0, p1, p2, p3⟩ := hb (fun x hx => hlt x (mb x hx)) ob db hn' (fun e => eb e.symm) hab
          refine ⟨⟨wa, p0⟩, ?_, ?_, ?_⟩
          · show List.Perm (n :: q :: c :: (zy_ids a ++ zy_ids (zy_del n b))) (c :: (zy_ids a ++ zy_ids b))
            have k := (p1.append_left (zy_ids a)).cons c
            refine List.Perm.trans ?_ k
            have k1 : List.Perm (n :: q :: c :: (zy_ids a ++ zy_ids (zy_del n b))) (n :: c :: q :: (zy_ids a ++ zy_ids (zy_del n b))) := (List.Perm.swap c q _).cons n
            refine k1.trans ((List.Perm.swap c n _).trans (List.Perm.cons c ?_))
            refine List.Perm.trans (List.Perm.cons n List.perm_middle.symm) ?_
            exact List.perm_middle.symm
          · exact List.perm_middle.symm.trans (p2.append_left (zy_lvs a))
          · show List.Perm (q :: c :: (zy_cts a ++ zy_cts (zy_del n b))) (c :: (zy_cts a ++ zy_cts b))
            refine (List.Perm.swap c q _).trans (List.Perm.cons c ?_)
            exact List.perm_middle.symm.trans (p3.append_left (zy_cts a))
/-- the leaf n and the cut q above it are taken away; j is the other one below q -/
theorem zy_ok_del {n q j : Nat} (hfn : fm n = 2) (hfq : ¬ fm q = 2) (hn31 : n < 2 ^ 31) (hq31 : q < 2 ^ 31) (hj31 : j < 2 ^ 31) (hnj : n ≠ j) (habj : ab' j = ab q) (hj : ab j = nI q) (habn : ab n = nI q) (hqn : (fs q = nI n ∧ sd q = nI j) ∨ (fs q = nI j ∧ sd q = nI n)) :
    ∀ t, zy_wf t → (zy_ids t).Nodup → (∀ x ∈ zy_ids t, x < 2 ^ 31) → n ≠ zy_id t → (∀ x ∈ zy_ids t, x ≠ n → x ≠ q → fm' x = fm x) → (∀ c ∈ zy_cts t, c ≠ q → fs' c = (if fs c = nI q then nI j else fs c) ∧ sd' c = (if sd c = nI q then nI j else sd c)) → (∀ x ∈ zy_ids t, x ≠ j → ab' x = ab x) → zy_ok fm fs sd ab t →
      zy_ok fm' fs' sd' ab' (zy_del n t) ∧ zy_id (zy_del n t) = if zy_id t = q then j else zy_id t := by
  apply zy_ind
  · intro m hd hlt hne h1 h2 h3 h
    have h : fm m = 2 := h
    have e : m ≠ q := fun e => hfq (e ▸ h)
    refine ⟨?_, ?_⟩
    · exact (h1 m List.mem_cons_self (fun e => hne e.symm) e).trans h
    · show m = if m = q then j else m
      rw [if_neg e]
  · intro c a b wa wb iha ihb hd hlt hne h1 h2 h3 h
    have ma : ∀ x ∈ zy_ids a, x ∈ zy_ids (.append (.tag c a) b) := fun x hx => List.mem_cons_of_mem _ (List.mem_append_left _ hx)
    have mb : ∀ x ∈ zy_ids b, x ∈ zy_ids (.append (.tag c a) b) := fun x hx => List.mem_cons_of_mem _ (List.mem_append_right _ hx)
    have ka : ∀ x ∈ zy_cts a, x ∈ zy_cts (.append (.tag c a) b) := fun x hx => List.mem_cons_of_mem _ (List.mem_append_left _ hx)
    have kb : ∀ x ∈ zy_cts b, x ∈ zy_cts (.append (.tag c a) b) := fun x hx => List.mem_cons_of_mem _ (List.mem_append_right _ hx)
    have hd' : (c :: (zy_ids a ++ zy_ids b)).Nodup := hd
    obtain ⟨hc, hd2⟩ := List.nodup_cons.mp hd'
    obtain ⟨da, db, dis⟩ := List.nodup_append.mp hd2
    obtain ⟨⟨q1, q2, q3, q4, q5⟩, oa, ob⟩ := h
    have c31 := hlt c List.mem_cons_self
    have a31 := hlt _ (ma _ (zy_id_mem wa))
    have b31 := hlt _ (mb _ (zy_id_mem wb))
    have ca : ∀ x ∈ zy_ids a, x ≠ c := fun x hx e => hc (e ▸ List.mem_append_left _ hx)
    have cb : ∀ x ∈ zy_ids b, x ≠ c := fun x hx e => hc (e ▸ List.mem_append_right _ hx)
    have r0 : zy_del n (.append (.tag c a) b) = if zy_id a = n then b else if zy_id b = n then a else .append (.tag c (zy_del n a)) (zy_del n b) := rfl
    have hid : zy_id (.append (.tag c a) b) = c := rfl
    rw [r0, hid]
    by_cases ea : zy_id a = n
    · rw [if_pos ea]
      have hcq : c = q := (nI_eq c31 hq31).mp (by rw [← habn, ← ea]; exact q4.symm)
      subst hcq
      have hbj : zy_id b = j := by
        rcases hqn with ⟨_, e⟩ | ⟨e, _⟩
        · exact (nI_eq b31 hj31).mp (q3.symm.trans e)
        · rw [q2, ea] at e
          exact absurd ((nI_eq hn31 hj31).mp e) hnj
      refine ⟨zy_ok_congr b wb db (fun x hx => h1 x (mb x hx) (fun e => dis n (ea ▸ zy_id_mem wa) x hx e.symm) (cb x hx)) (fun c' hc' => ?_) (fun x hx hne2 => h3 x (mb x hx) (fun e => hne2 (e.trans hbj.symm))) ob, ?_⟩
      · obtain ⟨-, i, hi, i2, hi2, e1, e2, -⟩ := zy_ok_ct b wb ob c' hc'
        obtain ⟨f1, f2⟩ := h2 c' (kb c' hc') (cb c' (zy_cts_ids b wb c' hc'))
        rw [f1, f2, e1, e2, if_neg (fun e => cb i hi ((nI_eq (hlt i (mb i hi)) c31).mp e)), if_neg (fun e => cb i2 hi2 ((nI_eq (hlt i2 (mb i2 hi2)) c31).mp e))]
        exact ⟨rfl, rfl⟩
      · rw [if_pos rfl]; exact hbj
    · rw [if_neg ea]
      by_cases eb : zy_id b = n
      · rw [if_pos eb]
        have hcq : c = q := (nI_eq c31 hq31).mp (by rw [← habn, ← eb]; exact q5.symm)
        subst hcq
        have haj : zy_id a = j := by
          rcases hqn with ⟨_, e⟩ | ⟨e, _⟩
          · rw [q3, eb] at e
            exact absurd ((nI_eq hn31 hj31).mp e) hnj
          · exact (nI_eq a31 hj31).mp (q2.symm.trans e)
        refine ⟨zy_ok_congr a wa da (fun x hx => h1 x (ma x hx) (fun e => dis x hx n (eb ▸ zy_id_mem wb) e) (ca x hx)) (fun c' hc' => ?_) (fun x hx hne2 => h3 x (ma x hx) (fun e => hne2 (e.trans haj.symm))) oa, ?_⟩
        · obtain ⟨-, i, hi, i2, hi2, e1, e2, -⟩ := zy_ok_ct a wa oa c' hc'
          obtain ⟨f1, f2⟩ := h2 c' (ka c' hc') (ca c' (zy_cts_ids a wa c' hc'))
          rw [f1, f2, e1, e2, if_neg (fun e => ca i hi ((nI_eq (hlt i (ma i hi)) c31).mp e)), if_neg (fun e => ca i2 hi2 ((nI_eq (hlt i2 (ma i2 hi2)) c31).mp e))]
          exact ⟨rfl, rfl⟩
        · rw [if_pos rfl]; exact haj
      · rw [if_neg eb]
        have hcq : c ≠ q := by
          intro e
          subst e
          rcases hqn with ⟨e, _⟩ | ⟨_, e⟩
          · rw [q2] at e
            exact ea ((nI_eq a31 hn31).mp e)
          · rw [q3] at e
            exact eb ((nI_eq b31 hn31).mp e)
        have cn : c ≠ n := by
          intro e
          subst e
          rcases q1 with e | e <;> rw [e] at hfn <;> revert hfn <;> decide
        have aj : zy_id a ≠ j := fun e => hcq ((nI_eq c31 hq31).mp (by rw [← hj, ← e]; exact q4.symm))
        have bj : zy_id b ≠ j := fun e => hcq ((nI_eq c31 hq31).mp (by rw [← hj, ← e]; exact q5.symm))
        obtain ⟨ra, ia⟩ := iha da (fun x hx => hlt x (ma x hx)) (fun e => ea e.symm) (fun x hx => h1 x (ma x hx)) (fun x hx => h2 x (ka x hx)) (fun x hx => h3 x (ma x hx)) oa
        obtain ⟨rb, ib⟩ := ihb db (fun x hx => hlt x (mb x hx)) (fun e => eb e.symm) (fun x hx => h1 x (mb x hx)) (fun x hx => h2 x (kb x hx)) (fun x hx => h3 x (mb x hx)) ob
        obtain ⟨f1, f2⟩ := h2 c List.mem_cons_self hcq
        refine ⟨⟨⟨?_, ?_, ?_, ?_, ?_⟩, ra, rb⟩, ?_⟩
        · rw [h1 c List.mem_cons_self cn hcq]; exact q1
        · rw [f1, q2, ia]
          by_cases e : zy_id a = q
          · rw [if_pos e, if_pos (by rw [e])]
          · rw [if_neg e, if_neg (fun e2 => e ((nI_eq a31 hq31).mp e2))]
        · rw [f2, q3, ib]
          by_cases e : zy_id b = q
          · rw [if_pos e, if_pos (by rw [e])]
          · rw [if_neg e, if_neg (fun e2 => e ((nI_eq b31 hq31).mp e2))]
        · rw [ia]
          by_cases e : zy_id a = q
          · rw [if_pos e, habj, ← e]; exact q4
          · rw [if_neg e, h3 _ (ma _ (zy_id_mem wa)) aj]; exact q4
        · rw [ib]
          by_cases e : zy_id b = q
          · rw [if_pos e, habj, ← e]; exact q5
          · rw [if_neg e, h3 _ (mb _ (zy_id_mem wb)) bj]; exact q5
        · rw [if_neg hcq]
          rfl
end ZYD
end
section
/-! what holds of a Tree stays when a leaf is cut -/
theorem zl_ne {x y : Nat} {l : List Nat} (h : x ∉ l) (hy : y ∈ l) : ¬ y = x := fun e => h (e ▸ hy)
section ZC1
variable {T : Nat} {μ θ : zm_M} {t : zy_F} {R : List Nat}
theorem zt_I_wf (hI : zt_I μ T R t) {n : Nat} (hn : n ∈ zy_ids t) : zy_wf t ∧ zy_okM μ T t ∧ μ T 9 = nI (zy_id t) := by
  rcases hI.2.1.1 with ⟨rfl, _⟩ | h
  · cases hn
  · exact h
theorem zt_I_lv (hI : zt_I μ T R t) {n : Nat} (hn : n ∈ zy_lvs t) : zy_wf t ∧ n ∈ zy_ids t := by
  rcases hI.2.1.1 with ⟨rfl, _⟩ | h
  · cases hn
  · exact ⟨h.1, zy_lvs_ids t h.1 n hn⟩
theorem zt_I_used (hI : zt_I μ T R t) : ∀ n ∈ zy_ids t, ¬ μ (T + 7) n = 3 := by
  intro n hn
  obtain ⟨hw, ok, -⟩ := zt_I_wf hI hn
  rcases zy_ids_or t hw n hn with h | h
  · rcases (zy_ok_ct t hw ok n h).1 with e | e <;> rw [e] <;> decide
  · rw [zy_ok_lf t hw ok n h]; decide
theorem zt_I_len (hI : zt_I μ T R t) : (zy_lvs t).length ≤ R.length := by
  have h0 := hI.2.1
  rcases h0.1 with ⟨rfl, _⟩ | h
  · exact Nat.zero_le _
  · have := zl_sub_le (zy_lvs t) (R.map (fun w => (μ (T + 3) w).toNatClampNeg)) (zy_lvs_nodup t h.1 h0.2.1) (fun n hn => by
      obtain ⟨w, hw, e, -⟩ := hI.2.2.2.2.2 n hn
      refine List.mem_map.mpr ⟨w, hw, ?_⟩
      have := h0.2.2.1 n (zy_lvs_ids t h.1 n hn)
      show (μ (T + 3) w).toNatClampNeg = n
      rw [e, nI_clamp (by omega)])
    rw [List.length_map] at this
    exact this
theorem zt_I_idl (hI : zt_I μ T R t) : (zy_ids t).length ≤ 2 * R.length := by
  have h0 := zt_I_len hI
  rcases hI.2.1.1 with ⟨rfl, _⟩ | h
  · exact Nat.zero_le _
  · have := zy_len t h.1
    omega
theorem zt_R_len (hI : zt_I μ T R t) {w : Nat} (hw : w < 10) (hwR : w ∉ R) : R.length < 10 := by
  have := zy_nodup_le 10 (w :: R) (List.nodup_cons.mpr ⟨hwR, hI.1.2.1⟩) (fun x hx => by
    rcases List.mem_cons.mp hx with rfl | hx
    · exact hw
    · exact hI.1.2.2 x hx)
  rw [List.length_cons] at this
  omega
theorem zt_I_cut (hI : zt_I μ T R t) {n w a c f i1 i2 : Nat} (hn : n ∈ zy_lvs t) (hw : w < 10) (hwR : w ∉ R) (ha : a < 2) (hc : c < 19) (hcf : c ∉ zy_ids t) (hf : f < 19) (hff : f ∉ zy_ids t) (hne : c ≠ f)
    (hrow : zr_L θ (T + 1) (R ++ [w])) (t3 : ∀ v, θ (T + 3) v = if v = w then nI f else μ (T + 3) v) (t7 : ∀ i, θ (T + 7) i = if i = f then 2 else if i = c then nI a else μ (T + 7) i)
    (t12 : ∀ i, θ (T + 12) i = if i = f then nI w else μ (T + 12) i) (t11 : ∀ i, θ (T + 11) i = if i = f ∨ i = n then nI c else if i = c then μ (T + 11) n else μ (T + 11) i)
    (t9c : θ (T + 9) c = nI i1) (t10c : θ (T + 10) c = nI i2) (hi : (i1 = n ∧ i2 = f) ∨ (i1 = f ∧ i2 = n))
    (t9 : ∀ q ∈ zy_cts t, θ (T + 9) q = if μ (T + 9) q = nI n then nI c else μ (T + 9) q) (t10 : ∀ q ∈ zy_cts t, θ (T + 10) q = if μ (T + 10) q = nI n then nI c else μ (T + 10) q)
    (t0 : θ T 9 = if zy_id t = n then nI c else μ T 9) : zt_I θ T (R ++ [w]) (zy_sub n (.append (.tag c (.tag i1 .nil)) (.tag i2 .nil)) t) ∧ List.Perm (zy_lvs (zy_sub n (.append (.tag c (.tag i1 .nil)) (.tag i2 .nil)) t)) (f :: zy_lvs t) ∧ List.Perm (zy_cts (zy_sub n (.append (.tag c (.tag i1 .nil)) (.tag i2 .nil)) t)) (c :: zy_cts t) := by
  have hnid := (zt_I_lv hI hn).2
  obtain ⟨wt, ok, hr⟩ := zt_I_wf hI hnid
  obtain ⟨⟨k1, k2, k3⟩, ⟨-, k5, k6, k7⟩, k8, k9, k10, k11⟩ := hI
  have hn19 := k6 n hnid
  have hcn : c ≠ n := fun e => hcf (e ▸ hnid)
  have hfn : f ≠ n := fun e => hff (e ▸ hnid)
  have fm2 := zy_ok_lf t wt ok n hn
  let s : zy_F := .append (.tag c (.tag i1 .nil)) (.tag i2 .nil)
  have ws : zy_wf s := ⟨trivial, trivial⟩
  obtain ⟨p1, p2, p3⟩ := zy_sub_perm (n := n) (s := s) t wt k5 hn
  have is : List.Perm (zy_ids s) (n :: [c, f]) := by
    show List.Perm [c, i1, i2] [n, c, f]
    rcases hi with ⟨rfl, rfl⟩ | ⟨rfl, rfl⟩
    · exact List.Perm.swap _ _ _
    · exact (List.perm_append_comm (l₁ := [c, i1]) (l₂ := [i2]))
  have ls : List.Perm (zy_lvs s) (n :: [f]) := by
    show List.Perm [i1, i2] [n, f]
    rcases hi with ⟨rfl, rfl⟩ | ⟨rfl, rfl⟩
    · exact List.Perm.refl _
    · exact List.Perm.swap _ _ _
  have P1 : List.Perm (zy_ids (zy_sub n s t)) (c :: f :: zy_ids t) := (List.perm_cons n).mp (p1.trans (is.append_right _))
  have P2 : List.Perm (zy_lvs (zy_sub n s t)) (f :: zy_lvs t) := (List.perm_cons n).mp (p2.trans (ls.append_right _))
  have P3 : List.Perm (zy_cts (zy_sub n s t)) (c :: zy_cts t) := p3
  have oks : zy_ok (θ (T + 7)) (θ (T + 9)) (θ (T + 10)) (θ (T + 11)) s := by
    refine ⟨⟨?_, t9c, t10c, ?_, ?_⟩, ?_, ?_⟩
    · rw [t7 c, if_neg hne, if_pos rfl]
      match a, ha with
      | 0, _ => exact Or.inl nI_0
      | 1, _ => exact Or.inr (by decide)
    · show θ (T + 11) i1 = nI c
      rw [t11, if_pos (by rcases hi with ⟨e, _⟩ | ⟨e, _⟩ <;> simp [e])]
    · show θ (T + 11) i2 = nI c
      rw [t11, if_pos (by rcases hi with ⟨_, e⟩ | ⟨_, e⟩ <;> simp [e])]
    · show θ (T + 7) i1 = 2
      rw [t7]
      rcases hi with ⟨rfl, _⟩ | ⟨rfl, _⟩
      · rw [if_neg (Ne.symm hfn), if_neg (Ne.symm hcn)]; exact fm2
      · rw [if_pos rfl]
    · show θ (T + 7) i2 = 2
      rw [t7]
      rcases hi with ⟨_, rfl⟩ | ⟨_, rfl⟩
      · rw [if_pos rfl]
      · rw [if_neg (Ne.symm hfn), if_neg (Ne.symm hcn)]; exact fm2
  have ids31 : ∀ x ∈ zy_ids t, x < 2 ^ 31 := fun x hx => by have := k6 x hx; omega
  have okt : zy_okM θ T (zy_sub n s t) := by
    refine zy_ok_sub (fm := μ (T + 7)) (fs := μ (T + 9)) (sd := μ (T + 10)) (ab := μ (T + 11)) (n := n) (s := s) fm2 (by omega) ?_ oks t wt ids31 (fun x hx hxn => ?_) (fun q hq => ⟨t9 q hq, t10 q hq⟩) (fun x hx hxn => ?_) ok
    · show θ (T + 11) c = _
      rw [t11, if_neg (by omega), if_pos rfl]
    · rw [t7, if_neg (zl_ne hff hx), if_neg (zl_ne hcf hx)]
    · rw [t11, if_neg (fun e => e.elim (zl_ne hff hx) hxn), if_neg (zl_ne hcf hx)]
  have hid : zy_id (zy_sub n s t) = if zy_id t = n then c else zy_id t := zy_sub_id fm2 t wt ok
  have hidt := zy_id_mem wt
  refine ⟨⟨⟨hrow, ?_, ?_⟩, ⟨Or.inr ⟨zy_sub_wf ws t wt, okt, ?_⟩, ?_, ?_, Or.inr ?_⟩, ?_, ?_, ?_, ?_⟩, P2, P3⟩
  · refine List.nodup_append.mpr ⟨k2, List.nodup_cons.mpr ⟨List.not_mem_nil, List.nodup_nil⟩, fun x hx y hy e => ?_⟩
    have : y = w := by simpa using hy
    exact hwR (this ▸ e ▸ hx)
  · intro x hx
    rcases List.mem_append.mp hx with hx | hx
    · exact k3 x hx
    · have : x = w := by simpa using hx
      omega
  · rw [t0, hid]
    by_cases e : zy_id t = n
    · rw [if_pos e, if_pos e]
    · rw [if_neg e, if_neg e]; exact hr
  · refine P1.nodup_iff.mpr (List.nodup_cons.mpr ⟨?_, List.nodup_cons.mpr ⟨hff, k5⟩⟩)
    intro h
    rcases List.mem_cons.mp h with h | h
    · exact hne h
    · exact hcf h
  · intro x hx
    rcases List.mem_cons.mp (P1.mem_iff.mp hx) with rfl | h
    · exact hc
    · rcases List.mem_cons.mp h with rfl | h
      · exact hf
      · exact k6 x h
  · rw [hid]
    have hrt : μ (T + 11) (zy_id t) = -1 := k7.resolve_left (fun e => by rw [e] at hidt; cases hidt)
    by_cases e : zy_id t = n
    · rw [if_pos e, t11, if_neg (by omega), if_pos rfl, ← e]; exact hrt
    · rw [if_neg e, t11, if_neg (fun e2 => e2.elim (zl_ne hff hidt) e), if_neg (zl_ne hcf hidt)]; exact hrt
  · intro x hx hxn
    have hxn' : x ∉ c :: f :: zy_ids t := fun h => hxn (P1.mem_iff.mpr h)
    have e1 : x ≠ c := fun e => hxn' (e ▸ List.mem_cons_self)
    have e2 : x ≠ f := fun e => hxn' (e ▸ List.mem_cons_of_mem _ List.mem_cons_self)
    have e3 : x ∉ zy_ids t := fun e => hxn' (List.mem_cons_of_mem _ (List.mem_cons_of_mem _ e))
    rw [t7, if_neg e2, if_neg e1]
    exact k8 x hx e3
  · intro v hv
    rcases List.mem_append.mp hv with hv | hv
    · obtain ⟨m, hm, e⟩ := k9 v hv
      refine ⟨m, P2.mem_iff.mpr (List.mem_cons_of_mem _ hm), ?_⟩
      rw [t3, if_neg (zl_ne hwR hv)]; exact e
    · have : v = w := by simpa using hv
      subst this
      exact ⟨f, P2.mem_iff.mpr List.mem_cons_self, by rw [t3, if_pos rfl]⟩
  · intro v hv hvR
    rw [t3, if_neg (fun (e : v = w) => hvR (e ▸ List.mem_append_right _ List.mem_cons_self))]
    exact k10 v hv (fun e => hvR (List.mem_append_left _ e))
  · intro m hm
    rcases List.mem_cons.mp (P2.mem_iff.mp hm) with rfl | hm
    · exact ⟨w, List.mem_append_right _ List.mem_cons_self, by rw [t3, if_pos rfl], by rw [t12, if_pos rfl]⟩
    · obtain ⟨v, hv, e1, e2⟩ := k11 m hm
      refine ⟨v, List.mem_append_left _ hv, ?_, ?_⟩
      · rw [t3, if_neg (zl_ne hwR hv)]; exact e1
      · rw [t12, if_neg (zl_ne hff (zy_lvs_ids t wt m hm))]; exact e2
end ZC1
end
section
/-! Tree.cutLeaf -/
theorem zy_ok_kids {fm fs sd ab : Nat → Int32} : ∀ t, zy_wf t → (zy_ids t).Nodup → zy_ok fm fs sd ab t → ∀ q ∈ zy_cts t, ∃ i j, i ∈ zy_ids t ∧ j ∈ zy_ids t ∧ i ≠ j ∧ fs q = nI i ∧ sd q = nI j ∧ ab i = nI q ∧ ab j = nI q := by
  apply zy_ind
  · intro n _ h m hm
    cases hm
  · intro n a b wa wb ha hb hd h m hm
    have hd' : (n :: (zy_ids a ++ zy_ids b)).Nodup := hd
    obtain ⟨hc, hd2⟩ := List.nodup_cons.mp hd'
    obtain ⟨da, db, dis⟩ := List.nodup_append.mp hd2
    rcases List.mem_cons.mp hm with rfl | hm
    · exact ⟨zy_id a, zy_id b, List.mem_cons_of_mem _ (List.mem_append_left _ (zy_id_mem wa)), List.mem_cons_of_mem _ (List.mem_append_right _ (zy_id_mem wb)), dis _ (zy_id_mem wa) _ (zy_id_mem wb), h.1.2⟩
    · rcases List.mem_append.mp hm with hm | hm
      · obtain ⟨i, j, hi, hj, q2⟩ := ha da h.2.1 m hm
        exact ⟨i, j, List.mem_cons_of_mem _ (List.mem_append_left _ hi), List.mem_cons_of_mem _ (List.mem_append_left _ hj), q2⟩
      · obtain ⟨i, j, hi, hj, q2⟩ := hb db h.2.2 m hm
        exact ⟨i, j, List.mem_cons_of_mem _ (List.mem_append_right _ hi), List.mem_cons_of_mem _ (List.mem_append_right _ hj), q2⟩
section ZC2
variable {T : Nat} {μ : zm_M} {t : zy_F} {R : List Nat}
theorem zt_pp_row {a b c : Nat} (h1 : c ≠ T) (h2 : c ≠ T + 9) (h3 : c ≠ T + 10) (h4 : c ≠ T + 11) : zt_pp μ T a b c = μ c := by
  unfold zt_pp
  split
  · rw [zm_up_row h1, zm_up_row h4]
  · split
    · rw [zm_up_row h2, zm_up_row h4]
    · rw [zm_up_row h3, zm_up_row h4]
theorem zt_pp_11 {a b i : Nat} : zt_pp μ T a b (T + 11) i = if i = b then μ (T + 11) a else μ (T + 11) i := by
  have key : zm_up μ (T + 11) b (μ (T + 11) a) (T + 11) i = if i = b then μ (T + 11) a else μ (T + 11) i := by
    unfold zm_up
    by_cases e : i = b
    · rw [if_pos ⟨rfl, e⟩, if_pos e]
    · rw [if_neg (fun q => e q.2), if_neg e]
  unfold zt_pp
  split
  · rw [zm_up_ne (by omega)]; exact key
  · split
    · rw [zm_up_ne (by omega)]; exact key
    · rw [zm_up_ne (by omega)]; exact key
/-- in the place of the node n of a tree there stands c -/
theorem zt_pp_ok (hw : zy_wf t) (hd : (zy_ids t).Nodup) (h19 : ∀ x ∈ zy_ids t, x < 19) (ok : zy_okM μ T t) (hrt : μ (T + 11) (zy_id t) = -1) {n c : Nat} (hn : n ∈ zy_ids t) (hc : c < 19) :
    (μ (T + 11) n < 0 ∨ zi_in (μ (T + 11) n) 19 = true) ∧ (∀ q ∈ zy_cts t, zt_pp μ T n c (T + 9) q = if μ (T + 9) q = nI n then nI c else μ (T + 9) q) ∧ (∀ q ∈ zy_cts t, zt_pp μ T n c (T + 10) q = if μ (T + 10) q = nI n then nI c else μ (T + 10) q) ∧ (∀ q, q ∉ zy_cts t → zt_pp μ T n c (T + 9) q = μ (T + 9) q ∧ zt_pp μ T n c (T + 10) q = μ (T + 10) q) ∧ (zt_pp μ T n c T 9 = if zy_id t = n then nI c else μ T 9) ∧ ∀ b, b ≠ 9 → zt_pp μ T n c T b = μ T b := by
  have hn19 := h19 n hn
  by_cases e : zy_id t = n
  · have hneg : μ (T + 11) n < 0 := by rw [← e, hrt]; decide
    have hno : ∀ q ∈ zy_cts t, ¬ μ (T + 9) q = nI n ∧ ¬ μ (T + 10) q = nI n := by
      intro q hq
      obtain ⟨i, j, hi, hj, -, e1, e2, a1, a2⟩ := zy_ok_kids t hw hd ok q hq
      have hi19 := h19 i hi
      have hj19 := h19 j hj
      have hq19 := h19 q (zy_cts_ids t hw q hq)
      have key : ∀ x : Nat, μ (T + 11) x = nI q → x ≠ n := by
        intro x hx e3
        rw [e3, ← e, hrt] at hx
        have : nI q < 0 := by rw [← hx]; decide
        exact nI_pos (by omega) this
      exact ⟨fun e3 => key i a1 ((nI_eq (by omega) (by omega)).mp (e1.symm.trans e3)), fun e3 => key j a2 ((nI_eq (by omega) (by omega)).mp (e2.symm.trans e3))⟩
    have eq : zt_pp μ T n c = zm_up (zm_up μ (T + 11) c (μ (T + 11) n)) T 9 (nI c) := by
      unfold zt_pp
      dsimp only
      rw [if_pos hneg]
    rw [eq]
    refine ⟨Or.inl hneg, fun q hq => ?_, fun q hq => ?_, fun q _ => ⟨?_, ?_⟩, ?_, fun b hb => ?_⟩
    · rw [if_neg (hno q hq).1, zm_up_ne (by omega), zm_up_ne (by omega)]
    · rw [if_neg (hno q hq).2, zm_up_ne (by omega), zm_up_ne (by omega)]
    · rw [zm_up_ne (by omega), zm_up_ne (by omega)]
    · rw [zm_up_ne (by omega), zm_up_ne (by omega)]
    · rw [if_pos e, zm_up_eq]
    · rw [zm_up_ne (by omega), zm_up_ne (by omega)]
  · obtain ⟨p, hp, ep, hor⟩ := zy_ok_par t hw ok n hn (fun q => e q.symm)
    have hp19 := h19 p (zy_cts_ids t hw p hp)
    have hneg : ¬ μ (T + 11) n < 0 := by rw [ep]; exact nI_pos (by omega)
    have hcl : (μ (T + 11) n).toNatClampNeg = p := by rw [ep]; exact nI_clamp (by omega)
    have hno : ∀ q ∈ zy_cts t, q ≠ p → ¬ μ (T + 9) q = nI n ∧ ¬ μ (T + 10) q = nI n := by
      intro q hq hqp
      obtain ⟨i, j, hi, hj, -, e1, e2, a1, a2⟩ := zy_ok_kids t hw hd ok q hq
      have hi19 := h19 i hi
      have hj19 := h19 j hj
      have hq19 := h19 q (zy_cts_ids t hw q hq)
      have key : ∀ x : Nat, μ (T + 11) x = nI q → x ≠ n := by
        intro x hx e3
        rw [e3, ep] at hx
        exact hqp ((nI_eq (by omega) (by omega)).mp hx.symm)
      exact ⟨fun e3 => key i a1 ((nI_eq (by omega) (by omega)).mp (e1.symm.trans e3)), fun e3 => key j a2 ((nI_eq (by omega) (by omega)).mp (e2.symm.trans e3))⟩
    refine ⟨Or.inr (by rw [ep]; exact zm_in hp19 (by decide)), ?_⟩
    obtain ⟨i, j, hi, hj, hij, e1, e2, a1, a2⟩ := zy_ok_kids t hw hd ok p hp
    have hi19 := h19 i hi
    have hj19 := h19 j hj
    by_cases c9 : μ (T + 9) p = nI n
    · have eq : zt_pp μ T n c = zm_up (zm_up μ (T + 11) c (μ (T + 11) n)) (T + 9) p (nI c) := by
        unfold zt_pp
        dsimp only
        rw [if_neg hneg, hcl, if_pos c9]
      have c10 : ¬ μ (T + 10) p = nI n := by
        intro c10
        have q1 : i = n := (nI_eq (by omega) (by omega)).mp (e1.symm.trans c9)
        have q2 : j = n := (nI_eq (by omega) (by omega)).mp (e2.symm.trans c10)
        exact hij (q1.trans q2.symm)
      rw [eq]
      refine ⟨fun q hq => ?_, fun q hq => ?_, fun q hq => ⟨?_, ?_⟩, ?_, fun b hb => ?_⟩
      · by_cases e3 : q = p
        · subst e3
          rw [if_pos c9, zm_up_eq]
        · rw [if_neg (hno q hq e3).1, zm_up_ne (by omega), zm_up_ne (by omega)]
      · rw [zm_up_ne (by omega), zm_up_ne (by omega)]
        by_cases e3 : q = p
        · subst e3
          rw [if_neg c10]
        · rw [if_neg (hno q hq e3).2]
      · have : q ≠ p := fun e3 => hq (e3 ▸ hp)
        rw [zm_up_ne (by omega), zm_up_ne (by omega)]
      · rw [zm_up_ne (by omega), zm_up_ne (by omega)]
      · rw [if_neg e, zm_up_ne (by omega), zm_up_ne (by omega)]
      · rw [zm_up_ne (by omega), zm_up_ne (by omega)]
    · have eq : zt_pp μ T n c = zm_up (zm_up μ (T + 11) c (μ (T + 11) n)) (T + 10) p (nI c) := by
        unfold zt_pp
        dsimp only
        rw [if_neg hneg, hcl, if_neg c9]
      have c10 : μ (T + 10) p = nI n := hor.resolve_left c9
      rw [eq]
      refine ⟨fun q hq => ?_, fun q hq => ?_, fun q hq => ⟨?_, ?_⟩, ?_, fun b hb => ?_⟩
      · rw [zm_up_ne (by omega), zm_up_ne (by omega)]
        by_cases e3 : q = p
        · subst e3
          rw [if_neg c9]
        · rw [if_neg (hno q hq e3).1]
      · by_cases e3 : q = p
        · subst e3
          rw [if_pos c10, zm_up_eq]
        · rw [if_neg (hno q hq e3).2, zm_up_ne (by omega), zm_up_ne (by omega)]
      · rw [zm_up_ne (by omega), zm_up_ne (by omega)]
      · have : q ≠ p := fun e3 => hq (e3 ▸ hp)
        rw [zm_up_ne (by omega), zm_up_ne (by omega)]
      · rw [if_neg e, zm_up_ne (by omega), zm_up_ne (by omega)]
      · rw [zm_up_ne (by omega), zm_up_ne (by omega)]
end ZC2
end
section
/-! Tree.cutLeaf, whole -/
theorem zm_up_pt {μ : zm_M} {i j b : Nat} {x : Int32} : zm_up μ i j x i b = if b = j then x else μ i b := by
  unfold zm_up
  by_cases e : b = j
  · rw [if_pos ⟨rfl, e⟩, if_pos e]
  · rw [if_neg (fun q => e q.2), if_neg e]
section ZC3
variable {T : Nat} {μ : zm_M} {t : zy_F} {R : List Nat}
set_option maxRecDepth 100000 in
theorem ze_Tree_cutLeaf (D : Nat) (h : zt_at T) (hI : zt_I μ T R t) {n w a : Nat} (hn : n ∈ zy_lvs t) (hw : w < 10) (hwR : w ∉ R) (ha : a < 2) (nf : Bool) (x y : Int32) :
    ∃ μ' c f, ze_E (D + 4) A_Tree_cutLeaf [.ref (T + 1), .int (nI n), .int (nI a), .int (if nf then 1 else 0), .int (nI w), .int x, .int y] (zm_mk μ) none (zm_mk μ') ∧ zt_C μ' T (R ++ [w]) (zy_sub n (.append (.tag c (.tag (if nf then f else n) .nil)) (.tag (if nf then n else f) .nil)) t) ∧ zt_frT T μ μ' ∧ (c < 19 ∧ f < 19 ∧ c ∉ zy_ids t ∧ f ∉ zy_ids t ∧ c ≠ f) ∧
      (∀ v, μ' (T + 3) v = if v = w then nI f else μ (T + 3) v) ∧ (∀ v, μ' (T + 5) v = if v = w then x else μ (T + 5) v) ∧ (∀ v, μ' (T + 6) v = if v = w then y else μ (T + 6) v) ∧ (∀ i, μ' (T + 7) i = if i = f then 2 else if i = c then nI a else μ (T + 7) i) ∧ (∀ i, μ' (T + 8) i = if i = c then 50 else μ (T + 8) i) ∧ (∀ i, μ' (T + 12) i = if i = f then nI w else μ (T + 12) i) := by
  have hnid := (zt_I_lv hI hn).2
  obtain ⟨wt, ok, hr⟩ := zt_I_wf hI hnid
  have hlen := zt_I_idl hI
  have hRl := zt_R_len hI hw hwR
  obtain ⟨⟨k1, k2, k3⟩, ⟨-, k5, k6, k7⟩, k8, -⟩ := id hI
  have hn19 := k6 n hnid
  have hod := zy_len t wt
  obtain ⟨hc, hcf⟩ := zt_fr_free (μ := μ) (T := T) (l := zy_ids t) k8 (zt_I_used hI) (by omega)
  generalize ec : zt_fr μ T 18 0 = c at hc hcf
  let μ1 := zm_up μ (T + 7) c (nI a)
  have na3 : ¬ nI a = 3 := fun e => by have := (nI_eq (a := a) (b := 3) (by omega) (by decide)).mp e; omega
  obtain ⟨hf, hfl⟩ := zt_fr_free (μ := μ1) (T := T) (l := c :: zy_ids t) (fun i hi hi2 => by
    show zm_up _ _ _ _ _ _ = _
    rw [zm_up_pt, if_neg (fun (e : i = c) => hi2 (e ▸ List.mem_cons_self))]
    exact k8 i hi (fun e => hi2 (List.mem_cons_of_mem _ e))) (fun i hi => by
    show ¬ zm_up _ _ _ _ _ _ = _
    rw [zm_up_pt]
    rcases List.mem_cons.mp hi with rfl | hi
    · rw [if_pos rfl]; exact na3
    · rw [if_neg (zl_ne hcf hi)]; exact zt_I_used hI i hi) (by rw [List.length_cons]; omega)
  generalize ef : zt_fr μ1 T 18 0 = f at hf hfl
  have hne : c ≠ f := fun e => hfl (e ▸ List.mem_cons_self)
  have hff : f ∉ zy_ids t := fun e => hfl (List.mem_cons_of_mem _ e)
  let μ2 := zm_up μ1 (T + 7) f 2
  have r2 : ∀ q, q ≠ T + 7 → μ2 q = μ q := fun q hq => (zm_up_row hq).trans (zm_up_row hq)
  have hidt := zy_id_mem wt
  have hrt : μ (T + 11) (zy_id t) = -1 := k7.resolve_left (fun e => by rw [e] at hidt; cases hidt)
  have pt7 : ∀ i, μ2 (T + 7) i = if i = f then 2 else if i = c then nI a else μ (T + 7) i := fun i => by
    show zm_up _ _ _ _ _ _ = _
    rw [zm_up_pt]
    show (if i = f then (2 : Int32) else zm_up _ _ _ _ _ _) = _
    rw [zm_up_pt]
  have ok2 : zy_okM μ2 T t := by
    refine zy_ok_congr t wt k5 (fun i hi => ?_) (fun q hq => ?_) (fun i hi _ => ?_) ok
    · rw [pt7, if_neg (zl_ne hff hi), if_neg (zl_ne hcf hi)]
    · rw [r2 _ (by omega), r2 _ (by omega)]; exact ⟨rfl, rfl⟩
    · rw [r2 _ (by omega)]
  obtain ⟨hab, p9, p10, pout, p0, p0'⟩ := zt_pp_ok (μ := μ2) (T := T) (t := t) (c := c) wt k5 k6 ok2 (by rw [r2 _ (by omega)]; exact hrt) hnid hc
  let i1 := if nf then f else n
  let i2 := if nf then n else f
  have i1l : i1 < 19 := by show (if nf then f else n) < 19; split <;> assumption
  have i2l : i2 < 19 := by show (if nf then n else f) < 19; split <;> assumption
  let μ3 := zt_pp μ2 T n c
  let μ6 := zm_up (zm_up (zm_up μ3 (T + 8) c 50) (T + 9) c (nI i1)) (T + 10) c (nI i2)
  let μ9 := zm_up (zm_up (zm_up μ6 (T + 11) n (nI c)) (T + 11) f (nI c)) (T + 12) f (nI w)
  have r9 : ∀ q, q ≠ T → q ≠ T + 7 → q ≠ T + 8 → q ≠ T + 9 → q ≠ T + 10 → q ≠ T + 11 → q ≠ T + 12 → μ9 q = μ q := fun q h0 h7 h8 h9 h10 h11 h12 => by
    show zm_up _ _ _ _ _ = _
    rw [zm_up_row h12, zm_up_row h11, zm_up_row h11]
    show zm_up _ _ _ _ _ = _
    rw [zm_up_row h10, zm_up_row h9, zm_up_row h8]
    exact (zt_pp_row h0 h9 h10 h11).trans (r2 q h7)
  have L9 : zr_L μ9 (T + 1) R := by
    unfold zr_L at *
    rw [r9 (T + 1) (by omega) (by omega) (by omega) (by omega) (by omega) (by omega) (by omega), r9 (T + 1 + 1) (by omega) (by omega) (by omega) (by omega) (by omega) (by omega) (by omega)]
    exact k1
  obtain ⟨ν, ⟨N3, E3⟩, hν, fν⟩ := ze_Tree_enter (μ := μ9) (D + 1) h L9 hRl hw (nI f) x y
  have fν' : ∀ q, q ≠ T + 1 → q ≠ T + 2 → ν q = μ9 q := fun q h1 h2 => funext fun b => fν q b h1 h2
  let θ := zm_up (zm_up (zm_up ν (T + 3) w (nI f)) (T + 5) w x) (T + 6) w y
  have rθ : ∀ q, q ≠ T + 3 → q ≠ T + 5 → q ≠ T + 6 → θ q = ν q := fun q h3 h5 h6 => by
    show zm_up _ _ _ _ _ = _
    rw [zm_up_row h6, zm_up_row h5, zm_up_row h3]
  have hrow : zr_L θ (T + 1) (R ++ [w]) := by
    unfold zr_L at *
    rw [rθ (T + 1) (by omega) (by omega) (by omega), rθ (T + 1 + 1) (by omega) (by omega) (by omega)]
    exact hν
  have t3 : ∀ v, θ (T + 3) v = if v = w then nI f else μ (T + 3) v := fun v => by
    show zm_up _ _ _ _ _ _ = _
    rw [zm_up_ne (by omega), zm_up_ne (by omega), zm_up_pt, fν' _ (by omega) (by omega), r9 _ (by omega) (by omega) (by omega) (by omega) (by omega) (by omega) (by omega)]
  have t5 : ∀ v, θ (T + 5) v = if v = w then x else μ (T + 5) v := fun v => by
    show zm_up _ _ _ _ _ _ = _
    rw [zm_up_ne (by omega), zm_up_pt, zm_up_ne (by omega), fν' _ (by omega) (by omega), r9 _ (by omega) (by omega) (by omega) (by omega) (by omega) (by omega) (by omega)]
  have t6 : ∀ v, θ (T + 6) v = if v = w then y else μ (T + 6) v := fun v => by
    show zm_up _ _ _ _ _ _ = _
    rw [zm_up_pt, zm_up_ne (by omega), zm_up_ne (by omega), fν' _ (by omega) (by omega), r9 _ (by omega) (by omega) (by omega) (by omega) (by omega) (by omega) (by omega)]
  have q3 : ∀ q, q ≠ T → q ≠ T + 9 → q ≠ T + 10 → q ≠ T + 11 → μ3 q = μ2 q := fun q h0 h9 h10 h11 => zt_pp_row h0 h9 h10 h11
  have u9 : ∀ q, q ≠ T + 1 → q ≠ T + 2 → q ≠ T + 3 → q ≠ T + 5 → q ≠ T + 6 → θ q = μ9 q := fun q h1 h2 h3 h5 h6 => (rθ q h3 h5 h6).trans (fν' q h1 h2)
  have v9 : ∀ q, q ≠ T + 11 → q ≠ T + 12 → μ9 q = μ6 q := fun q h1 h2 => by
    show zm_up _ _ _ _ _ = _
    rw [zm_up_row h2, zm_up_row h1, zm_up_row h1]
  have t7 : ∀ i, θ (T + 7) i = if i = f then 2 else if i = c then nI a else μ (T + 7) i := fun i => by
    rw [u9 _ (by omega) (by omega) (by omega) (by omega) (by omega), v9 _ (by omega) (by omega)]
    show zm_up _ _ _ _ _ _ = _
    rw [zm_up_ne (by omega), zm_up_ne (by omega), zm_up_ne (by omega), q3 _ (by omega) (by omega) (by omega) (by omega)]
    exact pt7 i
  have t8 : ∀ i, θ (T + 8) i = if i = c then 50 else μ (T + 8) i := fun i => by
    rw [u9 _ (by omega) (by omega) (by omega) (by omega) (by omega), v9 _ (by omega) (by omega)]
    show zm_up _ _ _ _ _ _ = _
    rw [zm_up_ne (by omega), zm_up_ne (by omega), zm_up_pt, q3 _ (by omega) (by omega) (by omega) (by omega), r2 _ (by omega)]
  have t9 : ∀ i, θ (T + 9) i = if i = c then nI i1 else μ3 (T + 9) i := fun i => by
    rw [u9 _ (by omega) (by omega) (by omega) (by omega) (by omega), v9 _ (by omega) (by omega)]
    show zm_up _ _ _ _ _ _ = _
    rw [zm_up_ne (by omega), zm_up_pt, zm_up_ne (by omega)]
  have t10 : ∀ i, θ (T + 10) i = if i = c then nI i2 else μ3 (T + 10) i := fun i => by
    rw [u9 _ (by omega) (by omega) (by omega) (by omega) (by omega), v9 _ (by omega) (by omega)]
    show zm_up _ _ _ _ _ _ = _
    rw [zm_up_pt, zm_up_ne (by omega), zm_up_ne (by omega)]
  have t11 : ∀ i, θ (T + 11) i = if i = f ∨ i = n then nI c else if i = c then μ (T + 11) n else μ (T + 11) i := fun i => by
    rw [u9 _ (by omega) (by omega) (by omega) (by omega) (by omega)]
    show zm_up _ _ _ _ _ _ = _
    rw [zm_up_ne (by omega), zm_up_pt, zm_up_pt]
    have : μ6 (T + 11) i = if i = c then μ (T + 11) n else μ (T + 11) i := by
      show zm_up _ _ _ _ _ _ = _
      rw [zm_up_ne (by omega), zm_up_ne (by omega), zm_up_ne (by omega)]
      refine zt_pp_11.trans ?_
      rw [r2 _ (by omega)]
    rw [this]
    by_cases e1 : i = f
    · rw [if_pos e1, if_pos (Or.inl e1)]
    · by_cases e2 : i = n
      · rw [if_neg e1, if_pos e2, if_pos (Or.inr e2)]
      · rw [if_neg e1, if_neg e2, if_neg (show ¬ (i = f ∨ i = n) from fun q => q.elim e1 e2)]
  have t12 : ∀ i, θ (T + 12) i = if i = f then nI w else μ (T + 12) i := fun i => by
    rw [u9 _ (by omega) (by omega) (by omega) (by omega) (by omega)]
    show zm_up _ _ _ _ _ _ = _
    rw [zm_up_pt, zm_up_ne (by omega), zm_up_ne (by omega)]
    have : μ6 (T + 12) i = μ (T + 12) i := by
      show zm_up _ _ _ _ _ _ = _
      rw [zm_up_ne (by omega), zm_up_ne (by omega), zm_up_ne (by omega), q3 _ (by omega) (by omega) (by omega) (by omega), r2 _ (by omega)]
    rw [this]
  have t0 : θ T 9 = if zy_id t = n then nI c else μ T 9 := by
    rw [u9 _ (by omega) (by omega) (by omega) (by omega) (by omega), v9 _ (by omega) (by omega)]
    show zm_up _ _ _ _ _ _ = _
    rw [zm_up_ne (by omega), zm_up_ne (by omega), zm_up_ne (by omega)]
    refine p0.trans ?_
    rw [r2 _ (by omega)]
  have e9 : μ2 (T + 9) = μ (T + 9) := r2 _ (by omega)
  have e10 : μ2 (T + 10) = μ (T + 10) := r2 _ (by omega)
  rw [e9] at p9
  rw [e10] at p10
  obtain ⟨hIθ, -, -⟩ := zt_I_cut (θ := θ) (i1 := i1) (i2 := i2) hI hn hw hwR ha hc hcf hf hff hne hrow t3 t7 t12 t11 (by rw [t9, if_pos rfl]) (by rw [t10, if_pos rfl]) (by
    cases nf
    · exact Or.inl ⟨rfl, rfl⟩
    · exact Or.inr ⟨rfl, rfl⟩) (fun q hq => by rw [t9, if_neg (zl_ne hcf (zy_cts_ids t wt q hq))]; exact p9 q hq) (fun q hq => by rw [t10, if_neg (zl_ne hcf (zy_cts_ids t wt q hq))]; exact p10 q hq) t0
  obtain ⟨μ', ⟨N4, E4⟩, C, sm, fT⟩ := ze_Tree_settleI (μ := θ) D h hIθ
  obtain ⟨-, -, s3, s5, s6, s7, s8, -, -, -, s12, -⟩ := sm
  refine ⟨μ', c, f, ?_, C, ?_, ⟨hc, hf, hcf, hff, hne⟩, fun v => ?_, fun v => ?_, fun v => ?_, fun v => ?_, fun v => ?_, fun v => ?_⟩
  · obtain ⟨N1, E1⟩ := ze_Tree_newNode (μ := μ) (D + 2) h (nI a)
    rw [ec] at E1
    obtain ⟨N2, E2⟩ := ze_Tree_newNode (μ := μ1) (D + 2) h 2
    rw [ef] at E2
    obtain ⟨N5, E5⟩ := ze_Tree_putInPlaceOf (μ := μ2) (D + 2) h hn19 hc hab
    obtain ⟨l1, c1⟩ := zt_c (μ := μ) h
    obtain ⟨l2, c2⟩ := zt_c (μ := μ1) h
    obtain ⟨l3, c3⟩ := zt_c (μ := μ2) h
    obtain ⟨l4, c4⟩ := zt_c (μ := μ9) h
    obtain ⟨l5, c5⟩ := zt_c (μ := θ) h
    obtain ⟨-, -, a3, -, ⟨a7, a8, a9, a10, a11, a12, -, -⟩, -⟩ := id h
    have h50 : (Int8.ofInt 50).toInt32 = (50 : Int32) := by decide
    have ic : zi_in (nI c) 19 = true := zm_in hc (by decide)
    have iff : zi_in (nI f) 19 = true := zm_in hf (by decide)
    have inn : zi_in (nI n) 19 = true := zm_in hn19 (by decide)
    have cc : (nI c).toNatClampNeg = c := nI_clamp (by omega)
    have cf : (nI f).toNatClampNeg = f := nI_clamp (by omega)
    have cn : (nI n).toNatClampNeg = n := nI_clamp (by omega)
    have k8 := fun (ν : zm_M) (z : Int32) => zm_iast (μ := ν) (x := z) a8 ic
    have k9 := fun (ν : zm_M) (z : Int32) => zm_iast (μ := ν) (x := z) a9 ic
    have k10 := fun (ν : zm_M) (z : Int32) => zm_iast (μ := ν) (x := z) a10 ic
    have k11 := fun (ν : zm_M) (z : Int32) => zm_iast (μ := ν) (x := z) a11 inn
    have k11' := fun (ν : zm_M) (z : Int32) => zm_iast (μ := ν) (x := z) a11 iff
    have k12 := fun (ν : zm_M) (z : Int32) => zm_iast (μ := ν) (x := z) a12 iff
    have m2 : zm_up μ1 (T + 7) f 2 = μ2 := rfl
    have m1 : zm_up μ (T + 7) c (nI a) = μ1 := rfl
    have m3 : zt_pp μ2 T n c = μ3 := rfl
    rw [m1] at E1
    rw [m2] at E2
    rw [m3] at E5
    have mθ : zm_up (zm_up (zm_up ν (T + 3) w (nI f)) (T + 5) w x) (T + 6) w y = θ := rfl
    rw [mθ] at E3
    cases nf
    · have m6 : zm_up (zm_up (zm_up μ3 (T + 8) c 50) (T + 9) c (nI n)) (T + 10) c (nI f) = μ6 := rfl
      have m9 : zm_up (zm_up (zm_up μ6 (T + 11) n (nI c)) (T + 11) f (nI c)) (T + 12) f (nI w) = μ9 := rfl
      refine ze_in [(0, .ref (T + 1)), (1, .int (nI n)), (2, .int (nI a)), (3, .int 0), (4, .int (nI w)), (5, .int x), (6, .int y)] zq_Tree_cutLeaf (Nat.le_of_ble_eq_true rfl) rfl ⟨N1 + N2 + N3 + N4 + N5, 55, fun F m hF => ?_⟩
      simp [zg_0, zg_aload_n, zg_bipush, zg_getfield, zg_goto, zg_iastore, zg_iconst, zg_ifCond, zg_iload, zg_iload_n, zg_invokevirtual, zg_istore, zg_return, zf_X3_cutLeaf, zi_ld, zi_lda, zi_cmp, zi_retOk, zi_isI, zi_f3, zi_cr, zi_ci, zi_cn, zi_get, zi_set, zt_g h, zq_Tree_newNode, zq_Tree_putInPlaceOf, zq_Tree_enter, zq_Tree_settle, c1, c2, c3, c4, c5, E1 F (by omega), E2 F (by omega), E3 F (by omega), E4 F (by omega), E5 F (by omega), h50, k8, k9, k10, k11, k11', k12, cc, cf, cn, m6, m9]
    · have m6 : zm_up (zm_up (zm_up μ3 (T + 8) c 50) (T + 9) c (nI f)) (T + 10) c (nI n) = μ6 := rfl
      have m9 : zm_up (zm_up (zm_up μ6 (T + 11) n (nI c)) (T + 11) f (nI c)) (T + 12) f (nI w) = μ9 := rfl
      refine ze_in [(0, .ref (T + 1)), (1, .int (nI n)), (2, .int (nI a)), (3, .int 1), (4, .int (nI w)), (5, .int x), (6, .int y)] zq_Tree_cutLeaf (Nat.le_of_ble_eq_true rfl) rfl ⟨N1 + N2 + N3 + N4 + N5, 57, fun F m hF => ?_⟩
      simp [zg_0, zg_aload_n, zg_bipush, zg_getfield, zg_goto, zg_iastore, zg_iconst, zg_ifCond, zg_iload, zg_iload_n, zg_invokevirtual, zg_istore, zg_return, zf_X3_cutLeaf, zi_ld, zi_lda, zi_cmp, zi_retOk, zi_isI, zi_f3, zi_cr, zi_ci, zi_cn, zi_get, zi_set, zt_g h, zq_Tree_newNode, zq_Tree_putInPlaceOf, zq_Tree_enter, zq_Tree_settle, c1, c2, c3, c4, c5, E1 F (by omega), E2 F (by omega), E3 F (by omega), E4 F (by omega), E5 F (by omega), h50, k8, k9, k10, k11, k11', k12, cc, cf, cn, m6, m9]
  · intro q hq
    rw [fT q hq]
    unfold zt_out at hq
    rw [u9 q (by omega) (by omega) (by omega) (by omega) (by omega)]
    exact r9 q (by omega) (by omega) (by omega) (by omega) (by omega) (by omega) (by omega)
  · rw [s3]; exact t3 v
  · rw [s5]; exact t5 v
  · rw [s6]; exact t6 v
  · rw [s7]; exact t7 v
  · rw [s8]; exact t8 v
  · rw [s12]; exact t12 v
end ZC3
end
section
/-! Tree.addTab -/
section ZA1
variable {T : Nat} {μ θ : zm_M} {t : zy_F} {R : List Nat}
theorem zr_L_congr {μ ν : zm_M} {r : Nat} {l : List Nat} (h1 : ν r = μ r) (h2 : ν (r + 1) = μ (r + 1)) (h : zr_L μ r l) : zr_L ν r l := by
  unfold zr_L at *
  rw [h1, h2]
  exact h
theorem zl_app1 {w : Nat} (k2 : R.Nodup) (hwR : w ∉ R) (k3 : ∀ w ∈ R, w < 10) (hw : w < 10) : (R ++ [w]).Nodup ∧ ∀ x ∈ R ++ [w], x < 10 := by
  constructor
  · refine List.nodup_append.mpr ⟨k2, List.nodup_cons.mpr ⟨List.not_mem_nil, List.nodup_nil⟩, fun x hx y hy e => ?_⟩
    have : y = w := by simpa using hy
    exact hwR (this ▸ e ▸ hx)
  · intro x hx
    rcases List.mem_append.mp hx with hx | hx
    · exact k3 x hx
    · have : x = w := by simpa using hx
      omega
theorem zt_I_add (hI : zt_I μ T R t) {n w : Nat} (hn : n ∈ zy_lvs t) (hw : w < 10) (hwR : w ∉ R) (hrow : zr_L θ (T + 1) (R ++ [w])) (t3 : ∀ v, θ (T + 3) v = if v = w then nI n else μ (T + 3) v)
    (e7 : θ (T + 7) = μ (T + 7)) (e9 : θ (T + 9) = μ (T + 9)) (e10 : θ (T + 10) = μ (T + 10)) (e11 : θ (T + 11) = μ (T + 11)) (e12 : θ (T + 12) = μ (T + 12)) (e0 : θ T 9 = μ T 9) : zt_I θ T (R ++ [w]) t := by
  obtain ⟨⟨k1, k2, k3⟩, k4, k8, k9, k10, k11⟩ := hI
  obtain ⟨a1, a2⟩ := zl_app1 k2 hwR k3 hw
  refine ⟨⟨hrow, a1, a2⟩, ?_, ?_, ?_, ?_, ?_⟩
  · unfold zt_root zy_okM at *
    rw [e0, e7, e9, e10, e11]
    exact k4
  · rw [e7]; exact k8
  · intro v hv
    rcases List.mem_append.mp hv with hv | hv
    · obtain ⟨m, hm, e⟩ := k9 v hv
      exact ⟨m, hm, by rw [t3, if_neg (zl_ne hwR hv)]; exact e⟩
    · have : v = w := by simpa using hv
      subst this
      exact ⟨n, hn, by rw [t3, if_pos rfl]⟩
  · intro v hv hvR
    rw [t3, if_neg (fun (e : v = w) => hvR (e ▸ List.mem_append_right _ List.mem_cons_self))]
    exact k10 v hv (fun e => hvR (List.mem_append_left _ e))
  · intro m hm
    obtain ⟨v, hv, e1, e2⟩ := k11 m hm
    refine ⟨v, List.mem_append_left _ hv, ?_, ?_⟩
    · rw [t3, if_neg (zl_ne hwR hv)]; exact e1
    · rw [e12]; exact e2
set_option maxRecDepth 100000 in
/-- addTab(leaf, window, w, h), the leaf there -/
theorem ze_Tree_addTab (D : Nat) (h : zt_at T) (hI : zt_I μ T R t) {n w : Nat} (hn : n ∈ zy_lvs t) (hw : w < 10) (hwR : w ∉ R) (x y : Int32) :
    ∃ μ', ze_E (D + 4) A_Tree_addTab [.ref (T + 1), .int (nI n), .int (nI w), .int x, .int y] (zm_mk μ) none (zm_mk μ') ∧ zt_C μ' T (R ++ [w]) t ∧ zt_frT T μ μ' ∧
      (∀ v, μ' (T + 3) v = if v = w then nI n else μ (T + 3) v) ∧ (∀ v, μ' (T + 5) v = if v = w then x else μ (T + 5) v) ∧ (∀ v, μ' (T + 6) v = if v = w then y else μ (T + 6) v) ∧ μ' (T + 7) = μ (T + 7) ∧ μ' (T + 8) = μ (T + 8) ∧ μ' (T + 12) = μ (T + 12) := by
  have hnid := (zt_I_lv hI hn).2
  have hRl := zt_R_len hI hw hwR
  have hn19 := hI.2.1.2.2.1 n hnid
  obtain ⟨ν, ⟨N3, E3⟩, hν, fν⟩ := ze_Tree_enter (μ := μ) (D + 1) h hI.1.1 hRl hw (nI n) x y
  have fν' : ∀ q, q ≠ T + 1 → q ≠ T + 2 → ν q = μ q := fun q h1 h2 => funext fun b => fν q b h1 h2
  let θ := zm_up (zm_up (zm_up ν (T + 3) w (nI n)) (T + 5) w x) (T + 6) w y
  have rθ : ∀ q, q ≠ T + 3 → q ≠ T + 5 → q ≠ T + 6 → θ q = ν q := fun q h3 h5 h6 => by
    show zm_up _ _ _ _ _ = _
    rw [zm_up_row h6, zm_up_row h5, zm_up_row h3]
  have u9 : ∀ q, q ≠ T + 1 → q ≠ T + 2 → q ≠ T + 3 → q ≠ T + 5 → q ≠ T + 6 → θ q = μ q := fun q h1 h2 h3 h5 h6 => (rθ q h3 h5 h6).trans (fν' q h1 h2)
  have t3 : ∀ v, θ (T + 3) v = if v = w then nI n else μ (T + 3) v := fun v => by
    show zm_up _ _ _ _ _ _ = _
    rw [zm_up_ne (by omega), zm_up_ne (by omega), zm_up_pt, fν' _ (by omega) (by omega)]
  have t5 : ∀ v, θ (T + 5) v = if v = w then x else μ (T + 5) v := fun v => by
    show zm_up _ _ _ _ _ _ = _
    rw [zm_up_ne (by omega), zm_up_pt, zm_up_ne (by omega), fν' _ (by omega) (by omega)]
  have t6 : ∀ v, θ (T + 6) v = if v = w then y else μ (T + 6) v := fun v => by
    show zm_up _ _ _ _ _ _ = _
    rw [zm_up_pt, zm_up_ne (by omega), zm_up_ne (by omega), fν' _ (by omega) (by omega)]
  have hIθ : zt_I θ T (R ++ [w]) t := zt_I_add hI hn hw hwR (zr_L_congr (rθ _ (by omega) (by omega) (by omega)) (rθ _ (by omega) (by omega) (by omega)) hν) t3 (u9 _ (by omega) (by omega) (by omega) (by omega) (by omega)) (u9 _ (by omega) (by omega) (by omega) (by omega) (by omega)) (u9 _ (by omega) (by omega) (by omega) (by omega) (by omega)) (u9 _ (by omega) (by omega) (by omega) (by omega) (by omega)) (u9 _ (by omega) (by omega) (by omega) (by omega) (by omega)) (by rw [u9 _ (by omega) (by omega) (by omega) (by omega) (by omega)])
  obtain ⟨μ', ⟨N4, E4⟩, C, sm, fT⟩ := ze_Tree_settleI (μ := θ) D h hIθ
  obtain ⟨-, -, s3, s5, s6, s7, s8, -, -, -, s12, -⟩ := sm
  refine ⟨μ', ?_, C, fun q hq => ?_, fun v => ?_, fun v => ?_, fun v => ?_, ?_, ?_, ?_⟩
  · obtain ⟨l1, c1⟩ := zt_c (μ := μ) h
    obtain ⟨l5, c5⟩ := zt_c (μ := θ) h
    have cn : (0 : Int32) ≤ nI n := Int32.not_lt.mp (nI_pos (by omega))
    have mθ : zm_up (zm_up (zm_up ν (T + 3) w (nI n)) (T + 5) w x) (T + 6) w y = θ := rfl
    rw [mθ] at E3
    refine ze_in [(0, .ref (T + 1)), (1, .int (nI n)), (2, .int (nI w)), (3, .int x), (4, .int y)] zq_Tree_addTab (Nat.le_of_ble_eq_true rfl) rfl ⟨N3 + N4, 13, fun F m hF => ?_⟩
    simp [zg_0, zg_aload_n, zg_getfield, zg_iastore, zg_iconst, zg_ifCond, zg_iload, zg_iload_n, zg_invokevirtual, zg_istore, zg_putfield, zg_return, zf_X3_addTab, zi_ld, zi_lda, zi_cmp, zi_retOk, zi_isI, zi_f3, zi_cr, zi_ci, zi_cn, zi_get, zi_set, zt_g h, zq_Tree_enter, zq_Tree_settle, c1, c5, cn, E3 F (by omega), E4 F (by omega)]
  · rw [fT q hq]
    unfold zt_out at hq
    exact u9 q (by omega) (by omega) (by omega) (by omega) (by omega)
  · rw [s3]; exact t3 v
  · rw [s5]; exact t5 v
  · rw [s6]; exact t6 v
  · rw [s7]; exact u9 _ (by omega) (by omega) (by omega) (by omega) (by omega)
  · rw [s8]; exact u9 _ (by omega) (by omega) (by omega) (by omega) (by omega)
  · rw [s12]; exact u9 _ (by omega) (by omega) (by omega) (by omega) (by omega)
set_option maxRecDepth 100000 in
/-- addTab to a tree that is empty -/
theorem ze_Tree_addTab_0 (D : Nat) (h : zt_at T) (hI : zt_I μ T [] .nil) {w : Nat} (hw : w < 10) {z : Int32} (hz : z < 0) (x y : Int32) :
    ∃ μ' n, ze_E (D + 4) A_Tree_addTab [.ref (T + 1), .int z, .int (nI w), .int x, .int y] (zm_mk μ) none (zm_mk μ') ∧ zt_C μ' T [w] (.tag n .nil) ∧ zt_frT T μ μ' ∧ n < 19 ∧
      (∀ v, μ' (T + 3) v = if v = w then nI n else μ (T + 3) v) ∧ (∀ v, μ' (T + 5) v = if v = w then x else μ (T + 5) v) ∧ (∀ v, μ' (T + 6) v = if v = w then y else μ (T + 6) v) ∧ (∀ i, μ' (T + 7) i = if i = n then 2 else μ (T + 7) i) ∧ μ' (T + 8) = μ (T + 8) ∧ (∀ i, μ' (T + 12) i = if i = n then nI w else μ (T + 12) i) := by
  obtain ⟨⟨k1, k2, k3⟩, k4, k8, k9, k10, k11⟩ := id hI
  obtain ⟨hn, -⟩ := zt_fr_free (μ := μ) (T := T) (l := []) k8 (fun n hn => by cases hn) (by decide)
  generalize en : zt_fr μ T 18 0 = n at hn
  let μ1 := zm_up μ (T + 7) n 2
  let μ4 := zm_up (zm_up (zm_up μ1 T 9 (nI n)) (T + 11) n (-1)) (T + 12) n (nI w)
  have r4 : ∀ q, q ≠ T → q ≠ T + 7 → q ≠ T + 11 → q ≠ T + 12 → μ4 q = μ q := fun q h0 h7 h11 h12 => by
    show zm_up _ _ _ _ _ = _
    rw [zm_up_row h12, zm_up_row h11, zm_up_row h0]
    exact zm_up_row h7
  have L4 : zr_L μ4 (T + 1) [] := zr_L_congr (r4 _ (by omega) (by omega) (by omega) (by omega)) (r4 _ (by omega) (by omega) (by omega) (by omega)) k1
  obtain ⟨ν, ⟨N3, E3⟩, hν, fν⟩ := ze_Tree_enter (μ := μ4) (D + 1) h L4 (by decide) hw (nI n) x y
  have fν' : ∀ q, q ≠ T + 1 → q ≠ T + 2 → ν q = μ4 q := fun q h1 h2 => funext fun b => fν q b h1 h2
  let θ := zm_up (zm_up (zm_up ν (T + 3) w (nI n)) (T + 5) w x) (T + 6) w y
  have rθ : ∀ q, q ≠ T + 3 → q ≠ T + 5 → q ≠ T + 6 → θ q = ν q := fun q h3 h5 h6 => by
    show zm_up _ _ _ _ _ = _
    rw [zm_up_row h6, zm_up_row h5, zm_up_row h3]
  have u9 : ∀ q, q ≠ T + 1 → q ≠ T + 2 → q ≠ T + 3 → q ≠ T + 5 → q ≠ T + 6 → θ q = μ4 q := fun q h1 h2 h3 h5 h6 => (rθ q h3 h5 h6).trans (fν' q h1 h2)
  have t3 : ∀ v, θ (T + 3) v = if v = w then nI n else μ (T + 3) v := fun v => by
    show zm_up _ _ _ _ _ _ = _
    rw [zm_up_ne (by omega), zm_up_ne (by omega), zm_up_pt, fν' _ (by omega) (by omega), r4 _ (by omega) (by omega) (by omega) (by omega)]
  have t5 : ∀ v, θ (T + 5) v = if v = w then x else μ (T + 5) v := fun v => by
    show zm_up _ _ _ _ _ _ = _
    rw [zm_up_ne (by omega), zm_up_pt, zm_up_ne (by omega), fν' _ (by omega) (by omega), r4 _ (by omega) (by omega) (by omega) (by omega)]
  have t6 : ∀ v, θ (T + 6) v = if v = w then y else μ (T + 6) v := fun v => by
    show zm_up _ _ _ _ _ _ = _
    rw [zm_up_pt, zm_up_ne (by omega), zm_up_ne (by omega), fν' _ (by omega) (by omega), r4 _ (by omega) (by omega) (by omega) (by omega)]
  have t7 : ∀ i, θ (T + 7) i = if i = n then 2 else μ (T + 7) i := fun i => by
    rw [u9 _ (by omega) (by omega) (by omega) (by omega) (by omega)]
    show zm_up _ _ _ _ _ _ = _
    rw [zm_up_ne (by omega), zm_up_ne (by omega), zm_up_ne (by omega)]
    exact zm_up_pt
  have t8 : θ (T + 8) = μ (T + 8) := by
    rw [u9 _ (by omega) (by omega) (by omega) (by omega) (by omega), r4 _ (by omega) (by omega) (by omega) (by omega)]
  have t11 : θ (T + 11) n = -1 := by
    rw [u9 _ (by omega) (by omega) (by omega) (by omega) (by omega)]
    show zm_up _ _ _ _ _ _ = _
    rw [zm_up_ne (by omega), zm_up_eq]
  have t12 : ∀ i, θ (T + 12) i = if i = n then nI w else μ (T + 12) i := fun i => by
    rw [u9 _ (by omega) (by omega) (by omega) (by omega) (by omega)]
    show zm_up _ _ _ _ _ _ = _
    rw [zm_up_pt, zm_up_ne (by omega), zm_up_ne (by omega)]
    have : μ1 (T + 12) i = μ (T + 12) i := zm_up_ne (by omega)
    rw [this]
  have t0 : θ T 9 = nI n := by
    rw [u9 _ (by omega) (by omega) (by omega) (by omega) (by omega)]
    show zm_up _ _ _ _ _ _ = _
    rw [zm_up_ne (by omega), zm_up_ne (by omega), zm_up_eq]
  have hIθ : zt_I θ T [w] (.tag n .nil) := by
    refine ⟨⟨zr_L_congr (rθ _ (by omega) (by omega) (by omega)) (rθ _ (by omega) (by omega) (by omega)) hν, List.nodup_cons.mpr ⟨List.not_mem_nil, List.nodup_nil⟩, fun v hv => ?_⟩, ⟨Or.inr ⟨trivial, ?_, t0⟩, List.nodup_cons.mpr ⟨List.not_mem_nil, List.nodup_nil⟩, fun v hv => ?_, Or.inr t11⟩, fun i hi hin => ?_, fun v hv => ?_, fun v hv hvR => ?_, fun m hm => ?_⟩
    · have : v = w := by simpa using hv
      omega
    · show θ (T + 7) n = 2
      rw [t7, if_pos rfl]
    · have : v = n := by simpa [zy_ids] using hv
      omega
    · rw [t7, if_neg (fun (e : i = n) => hin (e ▸ List.mem_cons_self))]
      exact k8 i hi List.not_mem_nil
    · have : v = w := by simpa using hv
      subst this
      exact ⟨n, List.mem_cons_self, by rw [t3, if_pos rfl]⟩
    · rw [t3, if_neg (fun (e : v = w) => hvR (e ▸ List.mem_cons_self))]
      exact k10 v hv List.not_mem_nil
    · have : m = n := by simpa [zy_lvs] using hm
      subst this
      exact ⟨w, List.mem_cons_self, by rw [t3, if_pos rfl], by rw [t12, if_pos rfl]⟩
  obtain ⟨μ', ⟨N4, E4⟩, C, sm, fT⟩ := ze_Tree_settleI (μ := θ) D h hIθ
  obtain ⟨-, -, s3, s5, s6, s7, s8, -, -, -, s12, -⟩ := sm
  refine ⟨μ', n, ?_, C, fun q hq => ?_, hn, fun v => ?_, fun v => ?_, fun v => ?_, fun v => ?_, ?_, fun v => ?_⟩
  · obtain ⟨N1, E1⟩ := ze_Tree_newNode (μ := μ) (D + 2) h 2
    rw [en] at E1
    obtain ⟨l1, c1⟩ := zt_c (μ := μ) h
    obtain ⟨l4, c4⟩ := zt_c (μ := μ4) h
    obtain ⟨l5, c5⟩ := zt_c (μ := θ) h
    have cz : ¬ (0 : Int32) ≤ z := Int32.not_le.mpr hz
    obtain ⟨-, -, a3, -, ⟨a7, a8, a9, a10, a11, a12, -, -⟩, -⟩ := id h
    have inn : zi_in (nI n) 19 = true := zm_in hn (by decide)
    have cn : (nI n).toNatClampNeg = n := nI_clamp (by omega)
    have m1 : zm_up μ (T + 7) n 2 = μ1 := rfl
    rw [m1] at E1
    have m4 : zm_up (zm_up (zm_up μ1 T 9 (nI n)) (T + 11) n (-1)) (T + 12) n (nI w) = μ4 := rfl
    have mθ : zm_up (zm_up (zm_up ν (T + 3) w (nI n)) (T + 5) w x) (T + 6) w y = θ := rfl
    rw [mθ] at E3
    refine ze_in [(0, .ref (T + 1)), (1, .int z), (2, .int (nI w)), (3, .int x), (4, .int y)] zq_Tree_addTab (Nat.le_of_ble_eq_true rfl) rfl ⟨N1 + N3 + N4, 30, fun F m hF => ?_⟩
    simp [zg_0, zg_aload_n, zg_getfield, zg_iastore, zg_iconst, zg_ifCond, zg_iload, zg_iload_n, zg_invokevirtual, zg_istore, zg_putfield, zg_return, zf_X3_addTab, zi_ld, zi_lda, zi_cmp, zi_retOk, zi_isI, zi_f3, zi_cr, zi_ci, zi_cn, zi_get, zi_set, zt_g h, zq_Tree_newNode, zq_Tree_enter, zq_Tree_settle, c1, c4, c5, cz, E1 F (by omega), E3 F (by omega), E4 F (by omega), zt_p9 h, zm_iast a11 inn, zm_iast a12 inn, cn, m4]
  · rw [fT q hq]
    unfold zt_out at hq
    rw [u9 q (by omega) (by omega) (by omega) (by omega) (by omega)]
    exact r4 q (by omega) (by omega) (by omega) (by omega)
  · rw [s3]; exact t3 v
  · rw [s5]; exact t5 v
  · rw [s6]; exact t6 v
  · rw [s7]; exact t7 v
  · rw [s8]; exact t8
  · rw [s12]; exact t12 v
end ZA1
end
section
/-! Tree.nextShown, pure and run -/
/-- the tab behind the one that goes, or else the last one -/
noncomputable def zl_ns (p : Nat → Bool) (g : Nat) : List Nat → Int32 → Bool → Int32
  | [], nx, _ => nx
  | x :: l, nx, b => if x = g then zl_ns p g l nx true else if p x then (if b then nI x else zl_ns p g l (nI x) b) else zl_ns p g l nx b
theorem zl_drop {l : List Nat} {i : Nat} (h : i < l.length) : l.drop i = l.getD i 0 :: l.drop (i + 1) := by
  rw [List.drop_eq_getElem_cons h, List.getD_eq_getElem?_getD, List.getElem?_eq_getElem h]
  rfl
theorem zl_ns_filter (p : Nat → Bool) (g : Nat) (hg : p g = true) : ∀ (l : List Nat) (nx : Int32) (b : Bool), zl_ns p g l nx b = zl_ns (fun _ => true) g (l.filter p) nx b := by
  intro l
  induction l with
  | nil => intro nx b; rfl
  | cons x l ih =>
    intro nx b
    by_cases e : x = g
    · subst e
      rw [List.filter_cons, if_pos hg]
      unfold zl_ns
      rw [if_pos rfl, if_pos rfl]
      exact ih nx true
    · rw [List.filter_cons]
      by_cases c : p x = true
      · rw [if_pos c]
        show (if x = g then _ else if p x = true then (if b = true then nI x else zl_ns p g l (nI x) b) else _) = if x = g then _ else if true = true then (if b = true then nI x else zl_ns (fun _ => true) g (l.filter p) (nI x) b) else _
        rw [if_neg e, if_neg e, if_pos c, if_pos rfl, ih]
      · rw [if_neg c]
        show (if x = g then _ else if p x = true then _ else zl_ns p g l nx b) = _
        rw [if_neg e, if_neg c]
        exact ih nx b
/-- what is shown when the tab g of the tabs F goes -/
noncomputable def zl_nx (F : List Nat) (g : Nat) : Int32 := if F.erase g = [] then -1 else nI ((F.erase g).getD (min (F.idxOf g) ((F.erase g).length - 1)) 0)
theorem zl_ns_behind (g : Nat) : ∀ (l : List Nat) (nx : Int32), g ∉ l → zl_ns (fun _ => true) g l nx true = if l = [] then nx else nI (l.getD 0 0) := by
  intro l nx h
  cases l with
  | nil => rfl
  | cons x l =>
    show (if x = g then _ else if true = true then (if true = true then nI x else _) else _) = if x :: l = [] then nx else nI x
    rw [if_neg (fun (e : x = g) => h (e ▸ List.mem_cons_self)), if_pos rfl, if_pos rfl, if_neg (by simp)]
theorem zl_ns_eq (g : Nat) : ∀ (F : List Nat) (nx : Int32), F.Nodup → g ∈ F → zl_ns (fun _ => true) g F nx false = if F.erase g = [] then nx else nI ((F.erase g).getD (min (F.idxOf g) ((F.erase g).length - 1)) 0) := by
  intro F
  induction F with
  | nil => intro nx _ h; cases h
  | cons x l ih =>
    intro nx hd h
    obtain ⟨h1, h2⟩ := List.nodup_cons.mp hd
    by_cases e : x = g
    · subst e
      show (if x = x then zl_ns (fun _ => true) x l nx true else _) = _
      rw [if_pos rfl, zl_ns_behind x l nx h1, List.erase_cons_head, List.idxOf_cons_self]
      by_cases c : l = []
      · rw [if_pos c, if_pos c]
      · rw [if_neg c, if_neg c, Nat.zero_min]
    · have hl : g ∈ l := by
        rcases List.mem_cons.mp h with h | h
        · exact absurd h.symm e
        · exact h
      show (if x = g then _ else if true = true then (if false = true then nI x else zl_ns (fun _ => true) g l (nI x) false) else _) = _
      rw [if_neg e, if_pos rfl, if_neg (by decide), ih (nI x) h2 hl]
      have hxg : (x == g) = false := by simpa using e
      have e1 : (x :: l).erase g = x :: l.erase g := by rw [List.erase_cons, hxg]; rfl
      have e2 : (x :: l).idxOf g = l.idxOf g + 1 := by rw [List.idxOf_cons, hxg]; rfl
      rw [e1, e2, if_neg (show ¬ (x :: l.erase g = []) by simp)]
      by_cases c : l.erase g = []
      · rw [if_pos c, c]; rfl
      · rw [if_neg c]
        have hp : 0 < (l.erase g).length := List.length_pos_iff.mpr c
        have : min (l.idxOf g + 1) ((x :: l.erase g).length - 1) = min (l.idxOf g) ((l.erase g).length - 1) + 1 := by
          rw [List.length_cons]; omega
        rw [this]
        rfl
section ZNS
variable {T : Nat} {μ : zm_M} {R : List Nat}
set_option maxRecDepth 100000 in
theorem ze_Tree_nextShown (D : Nat) (h : zt_at T) (hR : zr_L μ (T + 1) R) (hb : ∀ w ∈ R, w < 10) {g n : Nat} (hg : g < 10) :
    ze_E (D + 2) A_Tree_nextShown [.ref (T + 1), .int (nI g), .int (nI n)] (zm_mk μ) (some (.int (zl_ns (fun x => decide (μ (T + 3) x = nI n)) g R (-1) false))) (zm_mk μ) := by
  have key : ∃ r h', ze_G (D + 1) 7 (some .int) zc_X3_nextShown 8 [(5, .int (nI 0)), (4, .int 0), (3, .int (-1)), (0, .ref (T + 1)), (1, .int (nI g)), (2, .int (nI n))] [] (zm_mk μ) r h' ∧ (r = some (.int (zl_ns (fun x => decide (μ (T + 3) x = nI n)) g R (-1) false)) ∧ zm_mk μ = h') := by
    have hR10 := hR.1
    refine ze_loop (Q := fun i L hp => i ≤ R.length ∧ zi_nl L = true ∧ zi_get L 0 = some (.ref (T + 1)) ∧ zi_get L 1 = some (.int (nI g)) ∧ zi_get L 2 = some (.int (nI n)) ∧ zi_get L 5 = some (.int (nI i)) ∧ zm_mk μ = hp ∧ ∃ (nx : Int32) (b : Bool), zi_get L 3 = some (.int nx) ∧ zi_get L 4 = some (.int (if b then 1 else 0)) ∧ zl_ns (fun x => decide (μ (T + 3) x = nI n)) g R (-1) false = zl_ns (fun x => decide (μ (T + 3) x = nI n)) g (R.drop i) nx b)
      (R := fun r h' => r = some (.int (zl_ns (fun x => decide (μ (T + 3) x = nI n)) g R (-1) false)) ∧ zm_mk μ = h') R.length ?_ ?_ R.length 0 _ _ (by omega) ⟨by omega, rfl, rfl, rfl, rfl, rfl, rfl, -1, false, rfl, rfl, rfl⟩
    · rintro i L _ hi ⟨-, nl, g0, g1, g2, g5, rfl, nx, b, g3, g4, hq⟩
      have hwm : R.getD i 0 ∈ R := zl_mem hi
      rw [zl_drop hi] at hq
      obtain ⟨N1, h1⟩ := ze_Row_sizeL (μ := μ) D h.2.1 hR
      obtain ⟨N2, h2⟩ := ze_Row_getL (μ := μ) D h.2.1 hR hi
      generalize R.getD i 0 = w at hwm h2 hq
      have hw := hb w hwm
      have c1 : ¬ nI R.length ≤ nI i := nI_ge hi (by omega)
      have i1 : zi_in (nI w) 10 = true := zm_in hw (by decide)
      have e1 : (nI w).toNatClampNeg = w := nI_clamp (by omega)
      have cr := zr_c (μ := μ) h.2.1
      have hq' : zl_ns (fun x => decide (μ (T + 3) x = nI n)) g R (-1) false = if w = g then zl_ns (fun x => decide (μ (T + 3) x = nI n)) g (R.drop (i + 1)) nx true else if decide (μ (T + 3) w = nI n) = true then (if b = true then nI w else zl_ns (fun x => decide (μ (T + 3) x = nI n)) g (R.drop (i + 1)) (nI w) b) else zl_ns (fun x => decide (μ (T + 3) x = nI n)) g (R.drop (i + 1)) nx b := hq
      by_cases c2 : w = g
      · rw [if_pos c2] at hq'
        subst c2
        left
        refine ⟨zi_set (zi_set (zi_set L 6 (.int (nI w))) 4 (.int 1)) 5 (.int (nI (i + 1))), zm_mk μ, ⟨N1 + N2, 18, fun F m hF => ?_⟩, by omega, ?_, ?_, ?_, ?_, zi_get_set_eq, rfl, nx, true, ?_, ?_, hq'⟩
        · simp (maxDischargeDepth := 9) [zg_0, zg_aload_n, zg_getfield, zg_goto, zg_iaload, zg_iconst, zg_ifCond, zg_if_icmp, zg_iinc, zg_iload, zg_iload_n, zg_invokevirtual, zg_ireturn, zg_istore, zg_istore_n, zf_X3_nextShown, zi_ld, zi_lda, zi_cmp, zi_retOk, zi_isI, zi_f3, zi_cr, zi_ci, zi_cn, zi_get_ne, zi_nl_i, zi_nl_r, zi_get_set_eq, nl, g0, g1, g2, g5, zt_g h, zq_Row_size, zq_Row_get, cr, h1 F (by omega), h2 F (by omega), c1, nI_1]
        · simp (maxDischargeDepth := 9) [zi_get_ne, zi_nl_i, zi_nl_r, zi_get_set_eq, nl]
        · simp (maxDischargeDepth := 9) [zi_get_ne, zi_nl_i, zi_nl_r, zi_get_set_eq, nl, g0]
        · simp (maxDischargeDepth := 9) [zi_get_ne, zi_nl_i, zi_nl_r, zi_get_set_eq, nl, g1]
        · simp (maxDischargeDepth := 9) [zi_get_ne, zi_nl_i, zi_nl_r, zi_get_set_eq, nl, g2]
        · simp (maxDischargeDepth := 9) [zi_get_ne, zi_nl_i, zi_nl_r, zi_get_set_eq, nl, g3]
        · simp (maxDischargeDepth := 9) [zi_get_ne, zi_nl_i, zi_nl_r, zi_get_set_eq, nl]
      · rw [if_neg c2] at hq'
        have c2' : ¬ nI w = nI g := fun e => c2 ((nI_eq (by omega) (by omega)).mp e)
        by_cases c3 : μ (T + 3) w = nI n
        · rw [if_pos (by simpa using c3)] at hq'
          cases b with
          | true =>
            rw [if_pos rfl] at hq'
            right
            refine ⟨some (.int (nI w)), zm_mk μ, ⟨N1 + N2, 30, fun F m hF => ?_⟩, by rw [hq'], rfl⟩
            have g4' : zi_get L 4 = some (.int 1) := g4
            simp (maxDischargeDepth := 9) [zg_0, zg_aload_n, zg_getfield, zg_goto, zg_iaload, zg_iconst, zg_ifCond, zg_if_icmp, zg_iinc, zg_iload, zg_iload_n, zg_invokevirtual, zg_ireturn, zg_istore, zg_istore_n, zf_X3_nextShown, zi_ld, zi_lda, zi_cmp, zi_retOk, zi_isI, zi_f3, zi_cr, zi_ci, zi_cn, zi_get_ne, zi_nl_i, zi_nl_r, zi_get_set_eq, nl, g0, g1, g2, g4', g5, zt_g h, zq_Row_size, zq_Row_get, cr, h1 F (by omega), h2 F (by omega), c1, c2', zm_iald (k := 0) h.2.2.1 i1, e1, c3, nI_1]
          | false =>
            rw [if_neg (by decide)] at hq'
            left
            have g4' : zi_get L 4 = some (.int 0) := g4
            refine ⟨zi_set (zi_set (zi_set L 6 (.int (nI w))) 3 (.int (nI w))) 5 (.int (nI (i + 1))), zm_mk μ, ⟨N1 + N2, 25, fun F m hF => ?_⟩, by omega, ?_, ?_, ?_, ?_, zi_get_set_eq, rfl, nI w, false, ?_, ?_, hq'⟩
            · simp (maxDischargeDepth := 9) [zg_0, zg_aload_n, zg_getfield, zg_goto, zg_iaload, zg_iconst, zg_ifCond, zg_if_icmp, zg_iinc, zg_iload, zg_iload_n, zg_invokevirtual, zg_ireturn, zg_istore, zg_istore_n, zf_X3_nextShown, zi_ld, zi_lda, zi_cmp, zi_retOk, zi_isI, zi_f3, zi_cr, zi_ci, zi_cn, zi_get_ne, zi_nl_i, zi_nl_r, zi_get_set_eq, nl, g0, g1, g2, g4', g5, zt_g h, zq_Row_size, zq_Row_get, cr, h1 F (by omega), h2 F (by omega), c1, c2', zm_iald (k := 0) h.2.2.1 i1, e1, c3, nI_1]
            · simp (maxDischargeDepth := 9) [zi_get_ne, zi_nl_i, zi_nl_r, zi_get_set_eq, nl]
            · simp (maxDischargeDepth := 9) [zi_get_ne, zi_nl_i, zi_nl_r, zi_get_set_eq, nl, g0]
            · simp (maxDischargeDepth := 9) [zi_get_ne, zi_nl_i, zi_nl_r, zi_get_set_eq, nl, g1]
            · simp (maxDischargeDepth := 9) [zi_get_ne, zi_nl_i, zi_nl_r, zi_get_set_eq, nl, g2]
            · simp (maxDischargeDepth := 9) [zi_get_ne, zi_nl_i, zi_nl_r, zi_get_set_eq, nl]
            · simp (maxDischargeDepth := 9) [zi_get_ne, zi_nl_i, zi_nl_r, zi_get_set_eq, nl, g4]
        · rw [if_neg (by simpa using c3)] at hq'
          left
          refine ⟨zi_set (zi_set L 6 (.int (nI w))) 5 (.int (nI (i + 1))), zm_mk μ, ⟨N1 + N2, 21, fun F m hF => ?_⟩, by omega, ?_, ?_, ?_, ?_, zi_get_set_eq, rfl, nx, b, ?_, ?_, hq'⟩
          · simp (maxDischargeDepth := 9) [zg_0, zg_aload_n, zg_getfield, zg_goto, zg_iaload, zg_iconst, zg_ifCond, zg_if_icmp, zg_iinc, zg_iload, zg_iload_n, zg_invokevirtual, zg_ireturn, zg_istore, zg_istore_n, zf_X3_nextShown, zi_ld, zi_lda, zi_cmp, zi_retOk, zi_isI, zi_f3, zi_cr, zi_ci, zi_cn, zi_get_ne, zi_nl_i, zi_nl_r, zi_get_set_eq, nl, g0, g1, g2, g5, zt_g h, zq_Row_size, zq_Row_get, cr, h1 F (by omega), h2 F (by omega), c1, c2', zm_iald (k := 0) h.2.2.1 i1, e1, c3, nI_1]
          · simp (maxDischargeDepth := 9) [zi_get_ne, zi_nl_i, zi_nl_r, zi_get_set_eq, nl]
          · simp (maxDischargeDepth := 9) [zi_get_ne, zi_nl_i, zi_nl_r, zi_get_set_eq, nl, g0]
          · simp (maxDischargeDepth := 9) [zi_get_ne, zi_nl_i, zi_nl_r, zi_get_set_eq, nl, g1]
          · simp (maxDischargeDepth := 9) [zi_get_ne, zi_nl_i, zi_nl_r, zi_get_set_eq, nl, g2]
          · simp (maxDischargeDepth := 9) [zi_get_ne, zi_nl_i, zi_nl_r, zi_get_set_eq, nl, g3]
          · simp (maxDischargeDepth := 9) [zi_get_ne, zi_nl_i, zi_nl_r, zi_get_set_eq, nl, g4]
    · rintro L _ ⟨-, nl, g0, g1, g2, g5, rfl, nx, b, g3, g4, hq⟩
      obtain ⟨N1, h1⟩ := ze_Row_sizeL (μ := μ) D h.2.1 hR
      have cr := zr_c (μ := μ) h.2.1
      rw [List.drop_length] at hq
      have hq : zl_ns (fun x => decide (μ (T + 3) x = nI n)) g R (-1) false = nx := hq
      rw [hq]
      refine ⟨some (.int nx), zm_mk μ, ⟨N1, 8, fun F m hF => ?_⟩, rfl, rfl⟩
      simp [zg_0, zg_aload_n, zg_getfield, zg_goto, zg_iaload, zg_iconst, zg_ifCond, zg_if_icmp, zg_iinc, zg_iload, zg_iload_n, zg_invokevirtual, zg_ireturn, zg_istore, zg_istore_n, zf_X3_nextShown, zi_ld, zi_lda, zi_cmp, zi_retOk, zi_isI, zi_f3, zi_cr, zi_ci, zi_cn, g0, g3, g5, zt_g h, zq_Row_size, cr, h1 F (by omega)]
  obtain ⟨r, h', G, rfl, rfl⟩ := key
  refine ze_in [(0, .ref (T + 1)), (1, .int (nI g)), (2, .int (nI n))] zq_Tree_nextShown (Nat.le_of_ble_eq_true rfl) rfl (ze_S.end ⟨0, 6, fun F m hF => ?_⟩ G)
  simp [zg_0, zg_aload_n, zg_getfield, zg_goto, zg_iaload, zg_iconst, zg_ifCond, zg_if_icmp, zg_iinc, zg_iload, zg_iload_n, zg_invokevirtual, zg_ireturn, zg_istore, zg_istore_n, zf_X3_nextShown, zi_ld, zi_lda, zi_cmp, zi_retOk, zi_isI, zi_f3, zi_cr, zi_ci, zi_cn, zi_get, zi_set, nI_0]
end ZNS
end
section
/-! a tab taken out: what holds of the Tree behind it -/
/-- the tree without the leaf n -/
noncomputable def zy_out (n : Nat) (t : zy_F) : zy_F := if zy_id t = n then .nil else zy_del n t
section ZO1
variable {T : Nat} {μ θ : zm_M} {t : zy_F} {R : List Nat}
/-- the tabs of the leaf n -/
noncomputable def zt_tb (μ : zm_M) (T : Nat) (R : List Nat) (n : Nat) : List Nat := R.filter (fun x => decide (μ (T + 3) x = nI n))
theorem zt_tb_mem {n v : Nat} : v ∈ zt_tb μ T R n ↔ v ∈ R ∧ μ (T + 3) v = nI n := by
  unfold zt_tb
  rw [List.mem_filter, decide_eq_true_iff]
theorem zl_nx_mem {F : List Nat} {w : Nat} (h : F.erase w ≠ []) : ∃ v ∈ F.erase w, zl_nx F w = nI v := by
  unfold zl_nx
  rw [if_neg h]
  have hp : 0 < (F.erase w).length := List.length_pos_iff.mpr h
  exact ⟨_, zl_mem (by omega), rfl⟩
theorem zl_er_mem {l : List Nat} (hd : l.Nodup) {v w : Nat} : v ∈ l.erase w ↔ v ≠ w ∧ v ∈ l := List.Nodup.mem_erase_iff hd
theorem zt_I_keep (hI : zt_I μ T R t) {n w : Nat} (hn19 : n < 19) (hwR : w ∈ R) (hwn : μ (T + 3) w = nI n) (hF : (zt_tb μ T R n).erase w ≠ []) (hrow : zr_L θ (T + 1) (R.erase w)) (t3 : ∀ v, θ (T + 3) v = if v = w then -1 else μ (T + 3) v)
    (t12 : ∀ i, θ (T + 12) i = if i = n ∧ μ (T + 12) n = nI w then zl_nx (zt_tb μ T R n) w else μ (T + 12) i) (e7 : θ (T + 7) = μ (T + 7)) (e9 : θ (T + 9) = μ (T + 9)) (e10 : θ (T + 10) = μ (T + 10)) (e11 : θ (T + 11) = μ (T + 11)) (e0 : θ T 9 = μ T 9) : zt_I θ T (R.erase w) t := by
  obtain ⟨⟨k1, k2, k3⟩, k4, k8, k9, k10, k11⟩ := hI
  have hFd : (zt_tb μ T R n).Nodup := k2.filter _
  refine ⟨⟨hrow, k2.erase w, fun v hv => k3 v (List.mem_of_mem_erase hv)⟩, ?_, ?_, ?_, ?_, ?_⟩
  · unfold zt_root zy_okM at *
    rw [e0, e7, e9, e10, e11]
    exact k4
  · rw [e7]; exact k8
  · intro v hv
    obtain ⟨h1, h2⟩ := (zl_er_mem k2).mp hv
    obtain ⟨m, hm, e⟩ := k9 v h2
    exact ⟨m, hm, by rw [t3, if_neg h1]; exact e⟩
  · intro v hv hvR
    rw [t3]
    by_cases e : v = w
    · rw [if_pos e]
    · rw [if_neg e]
      exact k10 v hv (fun h => hvR ((zl_er_mem k2).mpr ⟨e, h⟩))
  · intro m hm
    obtain ⟨v, hv, e1, e2⟩ := k11 m hm
    by_cases c : m = n ∧ μ (T + 12) n = nI w
    · obtain ⟨u, hu, eu⟩ := zl_nx_mem hF
      obtain ⟨u1, u2⟩ := (zl_er_mem hFd).mp hu
      obtain ⟨u3, u4⟩ := zt_tb_mem.mp u2
      refine ⟨u, (zl_er_mem k2).mpr ⟨u1, u3⟩, ?_, ?_⟩
      · rw [t3, if_neg u1, c.1]; exact u4
      · rw [t12, if_pos c]; exact eu
    · have hvw : v ≠ w := by
        intro e
        subst e
        have hm19 := zy_lvs_lt (k4.1.imp (·.1) (·.1)) k4.2.2.1 m hm
        have q1 : m = n := (nI_eq (by omega) (by omega)).mp (e1.symm.trans hwn)
        exact c ⟨q1, by rw [← q1]; exact e2⟩
      refine ⟨v, (zl_er_mem k2).mpr ⟨hvw, hv⟩, ?_, ?_⟩
      · rw [t3, if_neg hvw]; exact e1
      · rw [t12, if_neg c]; exact e2
/-- the last tab of a leaf goes, and the leaf with it: what is said of the nodes then -/
noncomputable def zt_dropped (μ θ : zm_M) (T : Nat) (t : zy_F) (n : Nat) : Prop :=
  (zy_id t = n ∧ (∀ i, θ (T + 7) i = if i = n then 3 else μ (T + 7) i) ∧ θ T 9 = -1) ∨
  (zy_id t ≠ n ∧ ∃ q j, q ∈ zy_cts t ∧ j ∈ zy_ids t ∧ n ≠ j ∧ μ (T + 11) n = nI q ∧ μ (T + 11) j = nI q ∧ ((μ (T + 9) q = nI n ∧ μ (T + 10) q = nI j) ∨ (μ (T + 9) q = nI j ∧ μ (T + 10) q = nI n)) ∧
    (∀ i, θ (T + 7) i = if i = q then 3 else if i = n then 3 else μ (T + 7) i) ∧ (∀ c ∈ zy_cts t, θ (T + 9) c = if μ (T + 9) c = nI q then nI j else μ (T + 9) c) ∧ (∀ c ∈ zy_cts t, θ (T + 10) c = if μ (T + 10) c = nI q then nI j else μ (T + 10) c) ∧
    (∀ i, θ (T + 11) i = if i = j then μ (T + 11) q else μ (T + 11) i) ∧ θ T 9 = if zy_id t = q then nI j else μ T 9)
theorem zt_I_drop (hI : zt_I μ T R t) {n w : Nat} (hn : n ∈ zy_lvs t) (hwR : w ∈ R) (hwn : μ (T + 3) w = nI n) (hF : (zt_tb μ T R n).erase w = []) (hrow : zr_L θ (T + 1) (R.erase w)) (t3 : ∀ v, θ (T + 3) v = if v = w then -1 else μ (T + 3) v)
    (t12 : ∀ i, i ≠ n → θ (T + 12) i = μ (T + 12) i) (hd : zt_dropped μ θ T t n) : zt_I θ T (R.erase w) (zy_out n t) ∧ ∀ i ∈ zy_ids (zy_out n t), θ (T + 7) i = μ (T + 7) i := by
  have hnid := (zt_I_lv hI hn).2
  obtain ⟨wt, ok, hr⟩ := zt_I_wf hI hnid
  obtain ⟨⟨k1, k2, k3⟩, ⟨-, k5, k6, k7⟩, k8, k9, k10, k11⟩ := hI
  have hn19 := k6 n hnid
  have hFd : (zt_tb μ T R n).Nodup := k2.filter _
  have hlt : ∀ m ∈ zy_lvs t, m < 19 := fun m hm => k6 m (zy_lvs_ids t wt m hm)
  have hnone : ∀ v ∈ R.erase w, ¬ μ (T + 3) v = nI n := fun v hv e => by
    obtain ⟨h1, h2⟩ := (zl_er_mem k2).mp hv
    have : v ∈ (zt_tb μ T R n).erase w := (zl_er_mem hFd).mpr ⟨h1, zt_tb_mem.mpr ⟨h2, e⟩⟩
    rw [hF] at this
    cases this
  have b1 : ∀ v, v < 10 → v ∉ R.erase w → θ (T + 3) v = -1 := fun v hv hvR => by
    rw [t3]
    by_cases e : v = w
    · rw [if_pos e]
    · rw [if_neg e]
      exact k10 v hv (fun h => hvR ((zl_er_mem k2).mpr ⟨e, h⟩))
  have fm2 := zy_ok_lf t wt ok n hn
  have hidt := zy_id_mem wt
  have hrt : μ (T + 11) (zy_id t) = -1 := k7.resolve_left (fun e => by rw [e] at hidt; cases hidt)
  rcases hd with ⟨hid, t7, t0⟩ | ⟨hid, q, j, hq, hj, hnj, an, aj, hqn, t7, t9, t10, t11, t0⟩
  · have et := zy_leaf_of fm2 t wt ok hid
    have eo : zy_out n t = .nil := by unfold zy_out; rw [if_pos hid]
    have hl : ∀ m ∈ zy_lvs t, m = n := fun m hm => by rw [et] at hm; simpa [zy_lvs] using hm
    have hi : ∀ m ∈ zy_ids t, m = n := fun m hm => by rw [et] at hm; simpa [zy_ids] using hm
    have hE : R.erase w = [] := by
      cases hc : R.erase w with
      | nil => rfl
      | cons v l =>
        exfalso
        have hv : v ∈ R.erase w := by rw [hc]; exact List.mem_cons_self
        obtain ⟨h1, h2⟩ := (zl_er_mem k2).mp hv
        obtain ⟨m, hm, e⟩ := k9 v h2
        exact hnone v hv (by rw [e, hl m hm])
    rw [eo]
    refine ⟨⟨⟨hrow, k2.erase w, fun v hv => k3 v (List.mem_of_mem_erase hv)⟩, ⟨Or.inl ⟨rfl, t0⟩, List.nodup_nil, fun w hw => (by cases hw), Or.inl rfl⟩, fun i hi2 _ => ?_, fun v hv => ?_, b1, fun m hm => by cases hm⟩, fun i hi => by cases hi⟩
    · rw [t7]
      by_cases e : i = n
      · rw [if_pos e]
      · rw [if_neg e]
        exact k8 i hi2 (fun h => e (hi i h))
    · rw [hE] at hv; cases hv
  · have eo : zy_out n t = zy_del n t := by unfold zy_out; rw [if_neg hid]
    rw [eo]
    have hq19 := k6 q (zy_cts_ids t wt q hq)
    have hj19 := k6 j hj
    have i31 : ∀ x ∈ zy_ids t, x < 2 ^ 31 := fun x hx => by have := k6 x hx; omega
    obtain ⟨P0, P1, P2, P3⟩ := zy_del_perm (q := q) fm2 (by omega) (by omega) t wt i31 ok k5 hn (Ne.symm hid) an
    have hnd := P1.nodup_iff.mpr k5
    obtain ⟨d1, hnd2⟩ := List.nodup_cons.mp hnd
    obtain ⟨d2, hnd3⟩ := List.nodup_cons.mp hnd2
    have d1' : n ∉ zy_ids (zy_del n t) := fun h => d1 (List.mem_cons_of_mem _ h)
    have hqn' : q ≠ n := fun e => d1 (e ▸ List.mem_cons_self)
    have sub : ∀ x ∈ zy_ids (zy_del n t), x ∈ zy_ids t := fun x hx => P1.mem_iff.mp (List.mem_cons_of_mem _ (List.mem_cons_of_mem _ hx))
    have subl : ∀ x ∈ zy_lvs (zy_del n t), x ∈ zy_lvs t := fun x hx => P2.mem_iff.mp (List.mem_cons_of_mem _ hx)
    have f7 : ∀ x, x ≠ n → x ≠ q → θ (T + 7) x = μ (T + 7) x := fun x h1 h2 => by rw [t7, if_neg h2, if_neg h1]
    have hfq : ¬ μ (T + 7) q = 2 := by
      rcases (zy_ok_ct t wt ok q hq).1 with e | e <;> rw [e] <;> decide
    obtain ⟨O1, O2⟩ := zy_ok_del (fm' := θ (T + 7)) (fs' := θ (T + 9)) (sd' := θ (T + 10)) (ab' := θ (T + 11)) (n := n) (q := q) (j := j) fm2 hfq (by omega) (by omega) (by omega) hnj (by rw [t11, if_pos rfl]) aj an hqn t wt k5 i31 (Ne.symm hid) (fun x _ h1 h2 => f7 x h1 h2) (fun c hc _ => ⟨t9 c hc, t10 c hc⟩) (fun x _ hx => by rw [t11, if_neg hx]) ok
    have hidq : zy_id t ≠ j := fun e => by
      rw [e, aj] at hrt
      have : nI q < 0 := by rw [hrt]; decide
      exact nI_pos (by omega) this
    refine ⟨⟨⟨hrow, k2.erase w, fun v hv => k3 v (List.mem_of_mem_erase hv)⟩, ⟨Or.inr ⟨P0, O1, ?_⟩, hnd3, fun x hx => k6 x (sub x hx), Or.inr ?_⟩, fun i hi hin => ?_, fun v hv => ?_, b1, fun m hm => ?_⟩, fun i hi => f7 i (fun e => d1' (e ▸ hi)) (fun e => d2 (e ▸ hi))⟩
    · rw [t0, O2]
      by_cases e : zy_id t = q
      · rw [if_pos e, if_pos e]
      · rw [if_neg e, if_neg e]; exact hr
    · rw [O2]
      by_cases e : zy_id t = q
      · rw [if_pos e, t11, if_pos rfl, ← e]; exact hrt
      · rw [if_neg e, t11, if_neg hidq]; exact hrt
    · rw [t7]
      by_cases e1 : i = q
      · rw [if_pos e1]
      · rw [if_neg e1]
        by_cases e2 : i = n
        · rw [if_pos e2]
        · rw [if_neg e2]
          refine k8 i hi (fun h => ?_)
          rcases List.mem_cons.mp (P1.mem_iff.mpr h) with h | h
          · exact e2 h
          · rcases List.mem_cons.mp h with h | h
            · exact e1 h
            · exact hin h
    · obtain ⟨h1, h2⟩ := (zl_er_mem k2).mp hv
      obtain ⟨m, hm, e⟩ := k9 v h2
      refine ⟨m, ?_, by rw [t3, if_neg h1]; exact e⟩
      rcases List.mem_cons.mp (P2.mem_iff.mpr hm) with h | h
      · exact absurd (by rw [e, h]) (hnone v hv)
      · exact h
    · have hmt := subl m hm
      have hmn : m ≠ n := fun e => d1' (e ▸ zy_lvs_ids _ P0 m hm)
      obtain ⟨v, hv, e1, e2⟩ := k11 m hmt
      have hvw : v ≠ w := by
        intro e
        subst e
        have := hlt m hmt
        exact hmn ((nI_eq (by omega) (by omega)).mp (e1.symm.trans hwn))
      refine ⟨v, (zl_er_mem k2).mpr ⟨hvw, hv⟩, ?_, ?_⟩
      · rw [t3, if_neg hvw]; exact e1
      · rw [t12 m hmn]; exact e2
end ZO1
end
section
/-! Tree.takeOut -/
section ZO2
variable {T : Nat} {μ θ : zm_M} {t : zy_F} {R : List Nat}
theorem zt_pp_7 {a b i c : Nat} {x : Int32} (hc : c ≠ T + 7) : zt_pp (zm_up μ (T + 7) i x) T a b c = zt_pp μ T a b c := by
  have e11 : zm_up μ (T + 7) i x (T + 11) = μ (T + 11) := zm_up_row (by omega)
  have e9 : zm_up μ (T + 7) i x (T + 9) = μ (T + 9) := zm_up_row (by omega)
  have key : ∀ {u v : Nat} {y z : Int32} {k l : Nat}, zm_up (zm_up (zm_up μ (T + 7) i x) u k y) v l z c = zm_up (zm_up μ u k y) v l z c := by
    intro u v y z k l
    funext d
    unfold zm_up
    by_cases c1 : c = v ∧ d = l
    · rw [if_pos c1, if_pos c1]
    · rw [if_neg c1, if_neg c1]
      by_cases c2 : c = u ∧ d = k
      · rw [if_pos c2, if_pos c2]
      · rw [if_neg c2, if_neg c2, if_neg (fun e => hc e.1)]
  unfold zt_pp
  rw [e11, e9]
  split
  · exact key
  · split <;> exact key
theorem zt_dl_ok (hw : zy_wf t) (hd : (zy_ids t).Nodup) (h19 : ∀ x ∈ zy_ids t, x < 19) (ok : zy_okM μ T t) (hrt : μ (T + 11) (zy_id t) = -1) {n : Nat} (hn : n ∈ zy_lvs t) :
    zt_dropped μ (zt_dl μ T n) T t n ∧ (∀ c, c ≠ T → c ≠ T + 7 → c ≠ T + 9 → c ≠ T + 10 → c ≠ T + 11 → zt_dl μ T n c = μ c) ∧ (μ (T + 11) n < 0 ∨ zi_in (μ (T + 11) n) 19 = true) ∧
    (¬ μ (T + 11) n < 0 → zi_in (μ (T + 9) (μ (T + 11) n).toNatClampNeg) 19 = true ∧ zi_in (μ (T + 10) (μ (T + 11) n).toNatClampNeg) 19 = true ∧ (μ (T + 11) (μ (T + 11) n).toNatClampNeg < 0 ∨ zi_in (μ (T + 11) (μ (T + 11) n).toNatClampNeg) 19 = true)) := by
  have hnid := zy_lvs_ids t hw n hn
  have hn19 := h19 n hnid
  by_cases e : zy_id t = n
  · have hneg : μ (T + 11) n < 0 := by rw [← e, hrt]; decide
    have eq : zt_dl μ T n = zm_up (zm_up μ (T + 7) n 3) T 9 (-1) := by
      unfold zt_dl
      dsimp only
      rw [if_pos hneg]
    rw [eq]
    refine ⟨Or.inl ⟨e, fun i => ?_, zm_up_eq⟩, fun c h0 h7 _ _ _ => by rw [zm_up_row h0, zm_up_row h7], Or.inl hneg, fun h => absurd hneg h⟩
    rw [zm_up_ne (by omega), zm_up_pt]
  · obtain ⟨q, hq, eq, hor⟩ := zy_ok_par t hw ok n hnid (Ne.symm e)
    have hqid := zy_cts_ids t hw q hq
    have hq19 := h19 q hqid
    have hneg : ¬ μ (T + 11) n < 0 := by rw [eq]; exact nI_pos (by omega)
    have hcl : (μ (T + 11) n).toNatClampNeg = q := by rw [eq]; exact nI_clamp (by omega)
    obtain ⟨i, j, hi, hj, hij, e1, e2, a1, a2⟩ := zy_ok_kids t hw hd ok q hq
    have hi19 := h19 i hi
    have hj19 := h19 j hj
    have main : ∀ o, o ∈ zy_ids t → n ≠ o → μ (T + 11) o = nI q → ((μ (T + 9) q = nI n ∧ μ (T + 10) q = nI o) ∨ (μ (T + 9) q = nI o ∧ μ (T + 10) q = nI n)) → (if μ (T + 9) q = nI n then μ (T + 10) q else μ (T + 9) q) = nI o →
        zt_dropped μ (zt_dl μ T n) T t n ∧ (∀ c, c ≠ T → c ≠ T + 7 → c ≠ T + 9 → c ≠ T + 10 → c ≠ T + 11 → zt_dl μ T n c = μ c) ∧ (μ (T + 11) n < 0 ∨ zi_in (μ (T + 11) n) 19 = true) ∧
    (¬ μ (T + 11) n < 0 → zi_in (μ (T + 9) (μ (T + 11) n).toNatClampNeg) 19 = true ∧ zi_in (μ (T + 10) (μ (T + 11) n).toNatClampNeg) 19 = true ∧ (μ (T + 11) (μ (T + 11) n).toNatClampNeg < 0 ∨ zi_in (μ (T + 11) (μ (T + 11) n).toNatClampNeg) 19 = true)) := by
      intro o ho hno ao hqn hif
      have ho19 := h19 o ho
      obtain ⟨hab, p9, p10, -, p0, -⟩ := zt_pp_ok (μ := μ) (T := T) (t := t) (c := o) hw hd h19 ok hrt hqid ho19
      have eqd : zt_dl μ T n = zm_up (zt_pp (zm_up μ (T + 7) n 3) T q o) (T + 7) q 3 := by
        unfold zt_dl
        dsimp only
        rw [if_neg hneg, hcl, hif, nI_clamp (by omega)]
      refine ⟨Or.inr ⟨e, q, o, hq, ho, hno, eq, ao, hqn, fun i => ?_, fun c hc => ?_, fun c hc => ?_, fun i => ?_, ?_⟩, fun c h0 h7 h9 h10 h11 => ?_, Or.inr (by rw [eq]; exact zm_in hq19 (by decide)), fun _ => ?_⟩
      · rw [eqd, zm_up_pt, zt_pp_row (by omega) (by omega) (by omega) (by omega), zm_up_pt]
      · rw [eqd, zm_up_ne (by omega), zt_pp_7 (by omega)]; exact p9 c hc
      · rw [eqd, zm_up_ne (by omega), zt_pp_7 (by omega)]; exact p10 c hc
      · rw [eqd, zm_up_ne (by omega), zt_pp_7 (by omega)]; exact zt_pp_11
      · rw [eqd, zm_up_ne (by omega), zt_pp_7 (by omega)]; exact p0
      · rw [eqd, zm_up_row h7, zt_pp_7 h7]; exact zt_pp_row h0 h9 h10 h11
      · rw [hcl, e1, e2]
        exact ⟨zm_in hi19 (by decide), zm_in hj19 (by decide), hab⟩
    by_cases c9 : μ (T + 9) q = nI n
    · have hin : i = n := (nI_eq (by omega) (by omega)).mp (e1.symm.trans c9)
      exact main j hj (fun h => hij (hin.trans h)) a2 (Or.inl ⟨c9, e2⟩) (by rw [if_pos c9]; exact e2)
    · have c10 : μ (T + 10) q = nI n := hor.resolve_left c9
      have hjn : j = n := (nI_eq (by omega) (by omega)).mp (e2.symm.trans c10)
      exact main i hi (fun h => hij (h.symm.trans hjn.symm)) a1 (Or.inr ⟨e1, c10⟩) (by rw [if_neg c9]; exact e1)
set_option maxRecDepth 100000 in
theorem ze_Tree_takeOut_no (D : Nat) (h : zt_at T) {w : Nat} (hw : w < 10) (hwn : μ (T + 3) w < 0) : ze_E (D + 2) A_Tree_takeOut [.ref (T + 1), .int (nI w)] (zm_mk μ) none (zm_mk μ) := by
  obtain ⟨N1, E1⟩ := ze_Tree_leafOf (μ := μ) D h hw
  obtain ⟨l1, c1⟩ := zt_c (μ := μ) h
  have c2 : ¬ (0 : Int32) ≤ μ (T + 3) w := Int32.not_le.mpr hwn
  refine ze_in [(0, .ref (T + 1)), (1, .int (nI w))] zq_Tree_takeOut (Nat.le_of_ble_eq_true rfl) rfl ⟨N1, 7, fun F m hF => ?_⟩
  simp [zg_0, zg_aload_n, zg_getfield, zg_iaload, zg_iastore, zg_iconst, zg_ifCond, zg_if_icmp, zg_iload_n, zg_invokevirtual, zg_istore_n, zg_return, zf_X3_takeOut, zi_ld, zi_lda, zi_cmp, zi_retOk, zi_isI, zi_f3, zi_cr, zi_ci, zi_cn, zi_get, zi_set, zq_Tree_leafOf, c1, c2, E1 F (by omega)]
set_option maxRecDepth 100000 in
theorem ze_Tree_takeOut (D : Nat) (h : zt_at T) (hI : zt_I μ T R t) {n w : Nat} (hn : n ∈ zy_lvs t) (hwR : w ∈ R) (hwn : μ (T + 3) w = nI n) :
    ∃ μ', ze_E (D + 4) A_Tree_takeOut [.ref (T + 1), .int (nI w)] (zm_mk μ) none (zm_mk μ') ∧ zt_C μ' T (R.erase w) (if (zt_tb μ T R n).erase w = [] then zy_out n t else t) ∧ zt_frT T μ μ' ∧
      (∀ v, μ' (T + 3) v = if v = w then -1 else μ (T + 3) v) ∧ μ' (T + 5) = μ (T + 5) ∧ μ' (T + 6) = μ (T + 6) ∧ (∀ i ∈ zy_ids (if (zt_tb μ T R n).erase w = [] then zy_out n t else t), μ' (T + 7) i = μ (T + 7) i) ∧ μ' (T + 8) = μ (T + 8) ∧ (∀ i, μ' (T + 12) i = if i = n ∧ μ (T + 12) n = nI w then zl_nx (zt_tb μ T R n) w else μ (T + 12) i) := by
  have hnid := (zt_I_lv hI hn).2
  obtain ⟨wt, ok, hr⟩ := zt_I_wf hI hnid
  obtain ⟨⟨k1, k2, k3⟩, ⟨-, k5, k6, k7⟩, k8, k9, k10, k11⟩ := id hI
  have hn19 := k6 n hnid
  have hw := k3 w hwR
  have hFd : (zt_tb μ T R n).Nodup := k2.filter _
  have hwF : w ∈ zt_tb μ T R n := zt_tb_mem.mpr ⟨hwR, hwn⟩
  have hidt := zy_id_mem wt
  have hrt : μ (T + 11) (zy_id t) = -1 := k7.resolve_left (fun e => by rw [e] at hidt; cases hidt)
  have hns : zl_ns (fun x => decide (μ (T + 3) x = nI n)) w R (-1) false = zl_nx (zt_tb μ T R n) w := by
    rw [zl_ns_filter _ w (by simpa using hwn)]
    exact zl_ns_eq w _ _ hFd hwF
  let μ1 := if μ (T + 12) n = nI w then zm_up μ (T + 12) n (zl_nx (zt_tb μ T R n) w) else μ
  have r1 : ∀ q, q ≠ T + 12 → μ1 q = μ q := fun q hq => by
    show (if _ then _ else _ : zm_M) q = _
    split
    · exact zm_up_row hq
    · rfl
  have s12 : ∀ i, μ1 (T + 12) i = if i = n ∧ μ (T + 12) n = nI w then zl_nx (zt_tb μ T R n) w else μ (T + 12) i := fun i => by
    show (if _ then _ else _ : zm_M) (T + 12) i = _
    by_cases c : μ (T + 12) n = nI w
    · rw [if_pos c, zm_up_pt]
      by_cases e : i = n
      · rw [if_pos e, if_pos ⟨e, c⟩]
      · rw [if_neg e, if_neg (fun q => e q.1)]
    · rw [if_neg c, if_neg (fun q => c q.2)]
  have L1 : zr_L μ1 (T + 1) R := zr_L_congr (r1 _ (by omega)) (r1 _ (by omega)) k1
  obtain ⟨ν, ⟨N2, E2⟩, hν, fν⟩ := ze_Row_takeOut (μ := μ1) (D + 1) h.2.1 L1 k3 hw
  have fν' : ∀ q, q ≠ T + 1 → q ≠ T + 2 → ν q = μ1 q := fun q h1 h2 => funext fun b => fν q b h1 h2
  let θ := zm_up ν (T + 3) w (-1)
  have rθ : ∀ q, q ≠ T + 1 → q ≠ T + 2 → q ≠ T + 3 → q ≠ T + 12 → θ q = μ q := fun q h1 h2 h3 h12 => (zm_up_row h3).trans ((fν' q h1 h2).trans (r1 q h12))
  have t3 : ∀ v, θ (T + 3) v = if v = w then -1 else μ (T + 3) v := fun v => by
    show zm_up _ _ _ _ _ _ = _
    rw [zm_up_pt, fν' _ (by omega) (by omega), r1 _ (by omega)]
  have t12 : ∀ i, θ (T + 12) i = if i = n ∧ μ (T + 12) n = nI w then zl_nx (zt_tb μ T R n) w else μ (T + 12) i := fun i => by
    show zm_up _ _ _ _ _ _ = _
    rw [zm_up_ne (by omega), fν' _ (by omega) (by omega)]
    exact s12 i
  have hrow : zr_L θ (T + 1) (R.erase w) := zr_L_congr (zm_up_row (by omega)) (zm_up_row (by omega)) hν
  obtain ⟨N1, E1⟩ := ze_Tree_leafOf (μ := μ) (D + 2) h hw
  rw [hwn] at E1
  obtain ⟨N3, E3⟩ := ze_Tree_nextShown (μ := μ) (n := n) (D + 1) h k1 k3 hw
  rw [hns] at E3
  obtain ⟨l1, c1⟩ := zt_c (μ := μ) h
  obtain ⟨l2, c2⟩ := zt_c (μ := θ) h
  have cr := zr_c (μ := μ1) h.2.1
  obtain ⟨-, -, a3, -, ⟨a7, a8, a9, a10, a11, a12, -, -⟩, -⟩ := id h
  have inn : zi_in (nI n) 19 = true := zm_in hn19 (by decide)
  have cn : (nI n).toNatClampNeg = n := nI_clamp (by omega)
  have iw : zi_in (nI w) 10 = true := zm_in hw (by decide)
  have cw : (nI w).toNatClampNeg = w := nI_clamp (by omega)
  have cn0 : (0 : Int32) ≤ nI n := Int32.not_lt.mp (nI_pos (by omega))
  have mθ : zm_up ν (T + 3) w (-1) = θ := rfl
  have hS : ∃ L', zi_get L' 0 = some (.ref (T + 1)) ∧ zi_get L' 2 = some (.int (nI n)) ∧ ze_S (D + 3) 3 none zc_X3_takeOut 0 [(0, .ref (T + 1)), (1, .int (nI w))] [] (zm_mk μ) 48 L' [] (zm_mk θ) := by
    refine ⟨[(2, .int (nI n)), (0, .ref (T + 1)), (1, .int (nI w))], rfl, rfl, ?_⟩
    by_cases c : μ (T + 12) n = nI w
    · have m1 : zm_up μ (T + 12) n (zl_nx (zt_tb μ T R n) w) = μ1 := by
        show _ = (if _ then _ else _ : zm_M)
        rw [if_pos c]
      refine ⟨N1 + N2 + N3, 29, fun F m hF => ?_⟩
      simp [zg_0, zg_aload_n, zg_getfield, zg_iaload, zg_iastore, zg_iconst, zg_ifCond, zg_if_icmp, zg_iload_n, zg_invokevirtual, zg_istore_n, zg_return, zf_X3_takeOut, zi_ld, zi_lda, zi_cmp, zi_retOk, zi_isI, zi_f3, zi_cr, zi_ci, zi_cn, zi_get, zi_set, zt_g h, zq_Tree_leafOf, zq_Tree_nextShown, zq_Row_takeOut, c1, cr, cn0, E1 F (by omega), E2 F (by omega), E3 F (by omega), zm_iald (k := 0) a12 inn, zm_iast a12 inn, cn, c, m1, zm_iast a3 iw, cw, mθ]
    · have m1 : μ = μ1 := by
        show _ = (if _ then _ else _ : zm_M)
        rw [if_neg c]
      rw [← m1] at E2 cr
      refine ⟨N1 + N2 + N3, 21, fun F m hF => ?_⟩
      simp [zg_0, zg_aload_n, zg_getfield, zg_iaload, zg_iastore, zg_iconst, zg_ifCond, zg_if_icmp, zg_iload_n, zg_invokevirtual, zg_istore_n, zg_return, zf_X3_takeOut, zi_ld, zi_lda, zi_cmp, zi_retOk, zi_isI, zi_f3, zi_cr, zi_ci, zi_cn, zi_get, zi_set, zt_g h, zq_Tree_leafOf, zq_Row_takeOut, c1, cr, cn0, E1 F (by omega), E2 F (by omega), zm_iald (k := 0) a12 inn, cn, c, zm_iast a3 iw, cw, mθ]
  obtain ⟨L', g0, g2, S1⟩ := hS
  by_cases hF : (zt_tb μ T R n).erase w = []
  · rw [if_pos hF]
    have hsh : μ (T + 12) n = nI w := by
      obtain ⟨v, hv, e1, e2⟩ := k11 n hn
      by_cases e : v = w
      · rw [e2, e]
      · exfalso
        have : v ∈ (zt_tb μ T R n).erase w := (zl_er_mem hFd).mpr ⟨e, zt_tb_mem.mpr ⟨hv, e1⟩⟩
        rw [hF] at this
        cases this
    have hθn : θ (T + 12) n = -1 := by
      rw [t12, if_pos ⟨rfl, hsh⟩]
      unfold zl_nx
      rw [if_pos hF]
    have okθ : zy_okM θ T t := by
      unfold zy_okM at *
      rw [rθ _ (by omega) (by omega) (by omega) (by omega), rθ _ (by omega) (by omega) (by omega) (by omega), rθ _ (by omega) (by omega) (by omega) (by omega), rθ _ (by omega) (by omega) (by omega) (by omega)]
      exact ok
    obtain ⟨hdr, rdl, hab, hk⟩ := zt_dl_ok (μ := θ) (T := T) wt k5 k6 okθ (by rw [rθ _ (by omega) (by omega) (by omega) (by omega)]; exact hrt) hn
    obtain ⟨N4, E4⟩ := ze_Tree_dropLeaf (μ := θ) (D + 1) h hn19 hab hk
    generalize zt_dl θ T n = ξ at hdr rdl E4
    have hdr' : zt_dropped μ ξ T t n := by
      unfold zt_dropped at *
      rw [rθ (T + 7) (by omega) (by omega) (by omega) (by omega), rθ (T + 9) (by omega) (by omega) (by omega) (by omega), rθ (T + 10) (by omega) (by omega) (by omega) (by omega), rθ (T + 11) (by omega) (by omega) (by omega) (by omega), rθ T (by omega) (by omega) (by omega) (by omega)] at hdr
      exact hdr
    have w3 : ξ (T + 3) = θ (T + 3) := rdl _ (by omega) (by omega) (by omega) (by omega) (by omega)
    have w12 : ξ (T + 12) = θ (T + 12) := rdl _ (by omega) (by omega) (by omega) (by omega) (by omega)
    obtain ⟨hIξ, h7ξ⟩ := zt_I_drop (θ := ξ) hI hn hwR hwn hF (zr_L_congr (rdl _ (by omega) (by omega) (by omega) (by omega) (by omega)) (rdl _ (by omega) (by omega) (by omega) (by omega) (by omega)) hrow) (fun v => by rw [w3]; exact t3 v) (fun i hi => by rw [w12, t12, if_neg (fun e => hi e.1)]) hdr'
    obtain ⟨μ', ⟨N5, E5⟩, C, sm, fT⟩ := ze_Tree_settleI (μ := ξ) D h hIξ
    obtain ⟨-, -, q3, q5, q6, q7, q8, -, -, -, q12, -⟩ := sm
    have gx : ∀ q, q ≠ T → q ≠ T + 1 → q ≠ T + 2 → q ≠ T + 3 → q ≠ T + 7 → q ≠ T + 9 → q ≠ T + 10 → q ≠ T + 11 → q ≠ T + 12 → ξ q = μ q := fun q h0 h1 h2 h3 h7 h9 h10 h11 h12 => (rdl q h0 h7 h9 h10 h11).trans (rθ q h1 h2 h3 h12)
    refine ⟨μ', ?_, C, fun q hq => ?_, fun v => ?_, ?_, ?_, fun i hi => ?_, ?_, fun i => ?_⟩
    · refine ze_in [(0, .ref (T + 1)), (1, .int (nI w))] zq_Tree_takeOut (Nat.le_of_ble_eq_true rfl) rfl (S1.end ⟨N4 + N5, 11, fun F m hF => ?_⟩)
      obtain ⟨l3, c3⟩ := zt_c (μ := ξ) h
      have cm : ¬ (0 : Int32) ≤ -1 := by decide
      simp [zg_0, zg_aload_n, zg_getfield, zg_iaload, zg_iastore, zg_iconst, zg_ifCond, zg_if_icmp, zg_iload_n, zg_invokevirtual, zg_istore_n, zg_return, zf_X3_takeOut, zi_ld, zi_lda, zi_cmp, zi_retOk, zi_isI, zi_f3, zi_cr, zi_ci, zi_cn, g0, g2, zt_g h, zm_iald (k := 0) a12 inn, cn, hθn, cm, zq_Tree_dropLeaf, zq_Tree_settle, c2, c3, E4 F (by omega), E5 F (by omega)]
    · rw [fT q hq]
      unfold zt_out at hq
      exact gx q (by omega) (by omega) (by omega) (by omega) (by omega) (by omega) (by omega) (by omega) (by omega)
    · rw [q3, w3]; exact t3 v
    · rw [q5]; exact gx _ (by omega) (by omega) (by omega) (by omega) (by omega) (by omega) (by omega) (by omega) (by omega)
    · rw [q6]; exact gx _ (by omega) (by omega) (by omega) (by omega) (by omega) (by omega) (by omega) (by omega) (by omega)
    · rw [q7]; exact h7ξ i hi
    · rw [q8]; exact gx _ (by omega) (by omega) (by omega) (by omega) (by omega) (by omega) (by omega) (by omega) (by omega)
    · rw [q12, w12]; exact t12 i
  · rw [if_neg hF]
    have hIθ := zt_I_keep (θ := θ) hI hn19 hwR hwn hF hrow t3 t12 (rθ _ (by omega) (by omega) (by omega) (by omega)) (rθ _ (by omega) (by omega) (by omega) (by omega)) (rθ _ (by omega) (by omega) (by omega) (by omega)) (rθ _ (by omega) (by omega) (by omega) (by omega)) (by rw [rθ _ (by omega) (by omega) (by omega) (by omega)])
    have hθn : (0 : Int32) ≤ θ (T + 12) n := by
      obtain ⟨v, hv, -, e2⟩ := hIθ.2.2.2.2.2 n hn
      rw [e2]
      have := hIθ.1.2.2 v hv
      exact Int32.not_lt.mp (nI_pos (by omega))
    obtain ⟨μ', ⟨N5, E5⟩, C, sm, fT⟩ := ze_Tree_settleI (μ := θ) D h hIθ
    obtain ⟨-, -, q3, q5, q6, q7, q8, -, -, -, q12, -⟩ := sm
    refine ⟨μ', ?_, C, fun q hq => ?_, fun v => ?_, ?_, ?_, fun i hi => ?_, ?_, fun i => ?_⟩
    · refine ze_in [(0, .ref (T + 1)), (1, .int (nI w))] zq_Tree_takeOut (Nat.le_of_ble_eq_true rfl) rfl (S1.end ⟨N5, 8, fun F m hF => ?_⟩)
      simp [zg_0, zg_aload_n, zg_getfield, zg_iaload, zg_iastore, zg_iconst, zg_ifCond, zg_if_icmp, zg_iload_n, zg_invokevirtual, zg_istore_n, zg_return, zf_X3_takeOut, zi_ld, zi_lda, zi_cmp, zi_retOk, zi_isI, zi_f3, zi_cr, zi_ci, zi_cn, g0, g2, zt_g h, zm_iald (k := 0) a12 inn, cn, hθn, zq_Tree_settle, c2, E5 F (by omega)]
    · rw [fT q hq]
      unfold zt_out at hq
      exact rθ q (by omega) (by omega) (by omega) (by omega)
    · rw [q3]; exact t3 v
    · rw [q5]; exact rθ _ (by omega) (by omega) (by omega) (by omega)
    · rw [q6]; exact rθ _ (by omega) (by omega) (by omega) (by omega)
    · rw [q7, rθ _ (by omega) (by omega) (by omega) (by omega)]
    · rw [q8]; exact rθ _ (by omega) (by omega) (by omega) (by omega)
    · rw [q12]; exact t12 i
end ZO2
end
section
/-! Tree.leafNumber, tabsIn, tabIn -/
/-- the i-th of those that p holds of; s have been seen; d if there is none -/
noncomputable def zl_ln (p : Nat → Bool) (i : Nat) (d : Int32) : List Nat → Nat → Int32
  | [], _ => d
  | x :: l, s => if p x then (if s = i then nI x else zl_ln p i d l (s + 1)) else zl_ln p i d l s
theorem zl_ln_eq (p : Nat → Bool) (i : Nat) (d : Int32) : ∀ (l : List Nat) (s : Nat), s ≤ i → zl_ln p i d l s = if i - s < (l.filter p).length then nI ((l.filter p).getD (i - s) 0) else d := by
  intro l
  induction l with
  | nil => intro s _; rfl
  | cons x l ih =>
    intro s hs
    show (if p x then (if s = i then nI x else zl_ln p i d l (s + 1)) else zl_ln p i d l s) = _
    rw [List.filter_cons]
    by_cases c : p x = true
    · rw [if_pos c, if_pos c]
      by_cases e : s = i
      · subst e
        rw [if_pos rfl, Nat.sub_self, if_pos (by rw [List.length_cons]; omega)]
        rfl
      · rw [if_neg e, ih (s + 1) (by omega), List.length_cons]
        have e2 : i - s = i - (s + 1) + 1 := by omega
        rw [e2, List.getD_cons_succ]
        by_cases c2 : i - (s + 1) < (l.filter p).length
        · rw [if_pos c2, if_pos (by omega)]
        · rw [if_neg c2, if_neg (by omega)]
    · rw [if_neg c, if_neg c]
      exact ih s hs
theorem zy_ids_filter {fm fs sd ab : Nat → Int32} : ∀ t, zy_wf t → zy_ok fm fs sd ab t → (zy_ids t).filter (fun n => decide (fm n = 2)) = zy_lvs t := by
  apply zy_ind
  · intro n h
    have h : fm n = 2 := h
    show [n].filter _ = [n]
    rw [List.filter_cons, if_pos (by simpa using h)]
    rfl
  · intro n a b wa wb ha hb h
    have hn : ¬ fm n = 2 := by rcases h.1.1 with e | e <;> rw [e] <;> decide
    show (n :: (zy_ids a ++ zy_ids b)).filter _ = zy_lvs a ++ zy_lvs b
    rw [List.filter_cons, if_neg (by simpa using hn), List.filter_append, ha h.2.1, hb h.2.2]
section ZFD
variable {T : Nat} {μ : zm_M} {R : List Nat} {t : zy_F}
set_option maxRecDepth 100000 in
theorem ze_Tree_leafNumber (D : Nat) (h : zt_at T) (hC : zt_C μ T R t) {j : Nat} (hj : j < 2 ^ 31) :
    ze_E (D + 1) A_Tree_leafNumber [.ref (T + 1), .int (nI j)] (zm_mk μ) (some (.int (if j < (zy_lvs t).length then nI ((zy_lvs t).getD j 0) else -1))) (zm_mk μ) := by
  obtain ⟨hI, ⟨o1, o2⟩, -⟩ := hC
  obtain ⟨-, ⟨k4, k5, k6, k7⟩, -⟩ := hI
  have hl19 := zy_nodup_le 19 (zy_ids t) k5 k6
  have hv : (if j < (zy_lvs t).length then nI ((zy_lvs t).getD j 0) else -1) = zl_ln (fun n => decide (μ (T + 7) n = 2)) j (-1) (zy_ids t) 0 := by
    rw [zl_ln_eq _ _ _ _ _ (Nat.zero_le _), Nat.sub_zero]
    rcases k4 with ⟨rfl, _⟩ | ⟨wt, ok, _⟩
    · rfl
    · rw [zy_ids_filter t wt ok]
  rw [hv]
  have key : ∃ r h', ze_G D 4 (some .int) zc_X3_leafNumber 4 [(3, .int (nI 0)), (2, .int (nI 0)), (0, .ref (T + 1)), (1, .int (nI j))] [] (zm_mk μ) r h' ∧ (r = some (.int (zl_ln (fun n => decide (μ (T + 7) n = 2)) j (-1) (zy_ids t) 0)) ∧ zm_mk μ = h') := by
    refine ze_loop (Q := fun i L hp => i ≤ (zy_ids t).length ∧ zi_nl L = true ∧ zi_get L 0 = some (.ref (T + 1)) ∧ zi_get L 1 = some (.int (nI j)) ∧ zi_get L 3 = some (.int (nI i)) ∧ zm_mk μ = hp ∧ ∃ (s : Nat), zi_get L 2 = some (.int (nI s)) ∧ (s ≤ i ∧ zl_ln (fun n => decide (μ (T + 7) n = 2)) j (-1) (zy_ids t) 0 = zl_ln (fun n => decide (μ (T + 7) n = 2)) j (-1) ((zy_ids t).drop i) s)) (R := fun r h' => r = some (.int (zl_ln (fun n => decide (μ (T + 7) n = 2)) j (-1) (zy_ids t) 0)) ∧ zm_mk μ = h') (zy_ids t).length ?_ ?_ (zy_ids t).length 0 _ _ (by omega) ⟨by omega, rfl, rfl, rfl, rfl, rfl, 0, rfl, Nat.le_refl _, rfl⟩
    · rintro i L _ hi ⟨-, nl, g0, g1, g3, rfl, s, g2, hq⟩
      have hnm : (zy_ids t).getD i 0 ∈ zy_ids t := zl_mem hi
      have ho := o2 i hi
      rw [zl_drop hi] at hq
      generalize (zy_ids t).getD i 0 = n at hnm hq ho
      have hn := k6 n hnm
      have c1 : ¬ nI (zy_ids t).length ≤ nI i := nI_ge hi (by omega)
      obtain ⟨-, -, -, -, ⟨a7, a8, a9, a10, a11, a12, a13, -⟩, -⟩ := id h
      have i1 : zi_in (nI i) 19 = true := zm_in (by omega) (by decide)
      have e1 : (nI i).toNatClampNeg = i := nI_clamp (by omega)
      have i2 : zi_in (nI n) 19 = true := zm_in hn (by decide)
      have e2 : (nI n).toNatClampNeg = n := nI_clamp (by omega)
      obtain ⟨hsi, hq⟩ := hq
      have hq' : zl_ln (fun n => decide (μ (T + 7) n = 2)) j (-1) (zy_ids t) 0 = if decide (μ (T + 7) n = 2) = true then (if s = j then nI n else zl_ln (fun n => decide (μ (T + 7) n = 2)) j (-1) ((zy_ids t).drop (i + 1)) (s + 1)) else zl_ln (fun n => decide (μ (T + 7) n = 2)) j (-1) ((zy_ids t).drop (i + 1)) s := hq
      by_cases c2 : μ (T + 7) n = 2
      · rw [if_pos (by simpa using c2)] at hq'
        by_cases c3 : s = j
        · rw [if_pos c3] at hq'
          subst c3
          right
          refine ⟨some (.int (nI n)), zm_mk μ, ⟨0, 21, fun F m hF => ?_⟩, by rw [hq'], rfl⟩
          simp (maxDischargeDepth := 9) [zg_0, zg_aload_n, zg_getfield, zg_goto, zg_iaload, zg_iconst, zg_if_icmp, zg_iinc, zg_iload_n, zg_ireturn, zg_istore_n, zf_X3_leafNumber, zi_ld, zi_lda, zi_cmp, zi_retOk, zi_isI, zi_f3, zi_cr, zi_ci, zi_cn, zi_get_ne, zi_nl_i, zi_nl_r, zi_get_set_eq, nl, g0, g1, g3, g2, zt_g h, o1, c1, zm_iald (k := 0) a13 i1, e1, ho, zm_iald (k := 0) a7 i2, e2, c2, nI_1]
        · rw [if_neg c3] at hq'
          have c3' : ¬ nI s = nI j := fun e => c3 ((nI_eq (by omega) hj).mp e)
          left
          refine ⟨zi_set (zi_set L 2 (.int (nI (s + 1)))) 3 (.int (nI (i + 1))), zm_mk μ, ⟨0, 19, fun F m hF => ?_⟩, by omega, ?_, ?_, ?_, zi_get_set_eq, rfl, s + 1, ?_, ⟨by omega, hq'⟩⟩
          · simp (maxDischargeDepth := 9) [zg_0, zg_aload_n, zg_getfield, zg_goto, zg_iaload, zg_iconst, zg_if_icmp, zg_iinc, zg_iload_n, zg_ireturn, zg_istore_n, zf_X3_leafNumber, zi_ld, zi_lda, zi_cmp, zi_retOk, zi_isI, zi_f3, zi_cr, zi_ci, zi_cn, zi_get_ne, zi_nl_i, zi_nl_r, zi_get_set_eq, nl, g0, g1, g3, g2, zt_g h, o1, c1, zm_iald (k := 0) a13 i1, e1, ho, zm_iald (k := 0) a7 i2, e2, c2, c3', nI_1]
          · simp (maxDischargeDepth := 9) [zi_get_ne, zi_nl_i, zi_nl_r, zi_get_set_eq, nl]
          · simp (maxDischargeDepth := 9) [zi_get_ne, zi_nl_i, zi_nl_r, zi_get_set_eq, nl, g0]
          · simp (maxDischargeDepth := 9) [zi_get_ne, zi_nl_i, zi_nl_r, zi_get_set_eq, nl, g1]
          · simp (maxDischargeDepth := 9) [zi_get_ne, zi_nl_i, zi_nl_r, zi_get_set_eq, nl, g2]
      · rw [if_neg (by simpa using c2)] at hq'
        left
        refine ⟨zi_set L 3 (.int (nI (i + 1))), zm_mk μ, ⟨0, 15, fun F m hF => ?_⟩, by omega, ?_, ?_, ?_, zi_get_set_eq, rfl, s, ?_, ⟨by omega, hq'⟩⟩
        · simp (maxDischargeDepth := 9) [zg_0, zg_aload_n, zg_getfield, zg_goto, zg_iaload, zg_iconst, zg_if_icmp, zg_iinc, zg_iload_n, zg_ireturn, zg_istore_n, zf_X3_leafNumber, zi_ld, zi_lda, zi_cmp, zi_retOk, zi_isI, zi_f3, zi_cr, zi_ci, zi_cn, zi_get_ne, zi_nl_i, zi_nl_r, zi_get_set_eq, nl, g0, g1, g3, g2, zt_g h, o1, c1, zm_iald (k := 0) a13 i1, e1, ho, zm_iald (k := 0) a7 i2, e2, c2, nI_1]
        · simp (maxDischargeDepth := 9) [zi_get_ne, zi_nl_i, zi_nl_r, zi_get_set_eq, nl]
        · simp (maxDischargeDepth := 9) [zi_get_ne, zi_nl_i, zi_nl_r, zi_get_set_eq, nl, g0]
        · simp (maxDischargeDepth := 9) [zi_get_ne, zi_nl_i, zi_nl_r, zi_get_set_eq, nl, g1]
        · simp (maxDischargeDepth := 9) [zi_get_ne, zi_nl_i, zi_nl_r, zi_get_set_eq, nl, g2]
    · rintro L _ ⟨-, nl, g0, g1, g3, rfl, s, g2, hq⟩
      rw [List.drop_length] at hq
      have hq : zl_ln (fun n => decide (μ (T + 7) n = 2)) j (-1) (zy_ids t) 0 = -1 := hq.2
      rw [hq]
      refine ⟨some (.int (-1)), zm_mk μ, ⟨0, 6, fun F m hF => ?_⟩, rfl, rfl⟩
      simp [zg_0, zg_aload_n, zg_getfield, zg_goto, zg_iaload, zg_iconst, zg_if_icmp, zg_iinc, zg_iload_n, zg_ireturn, zg_istore_n, zf_X3_leafNumber, zi_ld, zi_lda, zi_cmp, zi_retOk, zi_isI, zi_f3, zi_cr, zi_ci, zi_cn, g0, g3, zt_g h, o1]
  obtain ⟨r, h', G, rfl, rfl⟩ := key
  refine ze_in [(0, .ref (T + 1)), (1, .int (nI j))] zq_Tree_leafNumber (Nat.le_of_ble_eq_true rfl) rfl (ze_S.end ⟨0, 4, fun F m hF => ?_⟩ G)
  simp [zg_0, zg_aload_n, zg_getfield, zg_goto, zg_iaload, zg_iconst, zg_if_icmp, zg_iinc, zg_iload_n, zg_ireturn, zg_istore_n, zf_X3_leafNumber, zi_ld, zi_lda, zi_cmp, zi_retOk, zi_isI, zi_f3, zi_cr, zi_ci, zi_cn, zi_get, zi_set, nI_0]
/-- how many p holds of -/
theorem zl_cnt {l : List Nat} {p : Nat → Bool} {i : Nat} (hi : i < l.length) : ((l.take (i + 1)).filter p).length = ((l.take i).filter p).length + (if p (l.getD i 0) then 1 else 0) := by
  rw [zl_take hi, List.filter_append, List.length_append]
  by_cases c : p (l.getD i 0) = true
  · rw [if_pos c, List.filter_cons, if_pos c]; rfl
  · rw [if_neg c, List.filter_cons, if_neg c]; rfl
set_option maxRecDepth 100000 in
theorem ze_Tree_tabsIn (D : Nat) (h : zt_at T) (hI : zt_I μ T R t) (x : Int32) :
    ze_E (D + 2) A_Tree_tabsIn [.ref (T + 1), .int x] (zm_mk μ) (some (.int (nI (R.filter (fun v => decide (μ (T + 3) v = x))).length))) (zm_mk μ) := by
  obtain ⟨⟨hR, -, hb⟩, -⟩ := hI
  have hR10 := hR.1
  have key : ∃ r h', ze_G (D + 1) 4 (some .int) zc_X3_tabsIn 4 [(3, .int (nI 0)), (2, .int (nI 0)), (0, .ref (T + 1)), (1, .int x)] [] (zm_mk μ) r h' ∧ (r = some (.int (nI (R.filter (fun v => decide (μ (T + 3) v = x))).length)) ∧ zm_mk μ = h') := by
    refine ze_loop (Q := fun i L hp => i ≤ R.length ∧ zi_nl L = true ∧ zi_get L 0 = some (.ref (T + 1)) ∧ zi_get L 1 = some (.int x) ∧ zi_get L 3 = some (.int (nI i)) ∧ zm_mk μ = hp ∧ (zi_get L 2 = some (.int (nI ((R.take i).filter (fun v => decide (μ (T + 3) v = x))).length)))) (R := fun r h' => r = some (.int (nI (R.filter (fun v => decide (μ (T + 3) v = x))).length)) ∧ zm_mk μ = h') R.length ?_ ?_ R.length 0 _ _ (by omega) ⟨by omega, rfl, rfl, rfl, rfl, rfl, rfl⟩
    · rintro i L _ hi ⟨-, nl, g0, g1, g3, rfl, hq⟩
      have hwm : R.getD i 0 ∈ R := zl_mem hi
      have hc := zl_cnt (p := fun v => decide (μ (T + 3) v = x)) hi
      obtain ⟨N1, h1⟩ := ze_Row_sizeL (μ := μ) D h.2.1 hR
      obtain ⟨N2, h2⟩ := ze_Row_getL (μ := μ) D h.2.1 hR hi
      generalize R.getD i 0 = w at hwm h2 hc
      have hw := hb w hwm
      have c1 : ¬ nI R.length ≤ nI i := nI_ge hi (by omega)
      have i1 : zi_in (nI w) 10 = true := zm_in hw (by decide)
      have e1 : (nI w).toNatClampNeg = w := nI_clamp (by omega)
      have cr := zr_c (μ := μ) h.2.1
      by_cases c2 : μ (T + 3) w = x
      · rw [if_pos (by simpa using c2)] at hc
        left
        refine ⟨zi_set (zi_set L 2 (.int (nI (((R.take i).filter (fun v => decide (μ (T + 3) v = x))).length + 1)))) 3 (.int (nI (i + 1))), zm_mk μ, ⟨N1 + N2, 21, fun F m hF => ?_⟩, by omega, ?_, ?_, ?_, zi_get_set_eq, rfl, by rw [hc]; simp (maxDischargeDepth := 9) [zi_get_ne, zi_nl_i, zi_nl_r, zi_get_set_eq, nl]⟩
        · simp (maxDischargeDepth := 9) [zg_0, zg_aload_n, zg_getfield, zg_goto, zg_iadd, zg_iaload, zg_iconst, zg_if_icmp, zg_iinc, zg_iload_n, zg_invokevirtual, zg_ireturn, zg_istore_n, zf_X3_tabsIn, zi_ld, zi_lda, zi_cmp, zi_retOk, zi_isI, zi_f3, zi_cr, zi_ci, zi_cn, zi_get_ne, zi_nl_i, zi_nl_r, zi_get_set_eq, nl, g0, g1, g3, hq, zt_g h, zq_Row_size, zq_Row_get, cr, h1 F (by omega), h2 F (by omega), c1, zm_iald (k := 0) h.2.2.1 i1, e1, c2, nI_1]
        · simp (maxDischargeDepth := 9) [zi_get_ne, zi_nl_i, zi_nl_r, zi_get_set_eq, nl]
        · simp (maxDischargeDepth := 9) [zi_get_ne, zi_nl_i, zi_nl_r, zi_get_set_eq, nl, g0]
        · simp (maxDischargeDepth := 9) [zi_get_ne, zi_nl_i, zi_nl_r, zi_get_set_eq, nl, g1]
      · rw [if_neg (by simpa using c2), Nat.add_zero] at hc
        left
        refine ⟨zi_set (zi_set L 2 (.int (nI (((R.take i).filter (fun v => decide (μ (T + 3) v = x))).length)))) 3 (.int (nI (i + 1))), zm_mk μ, ⟨N1 + N2, 20, fun F m hF => ?_⟩, by omega, ?_, ?_, ?_, zi_get_set_eq, rfl, by rw [hc]; simp (maxDischargeDepth := 9) [zi_get_ne, zi_nl_i, zi_nl_r, zi_get_set_eq, nl]⟩
        · simp (maxDischargeDepth := 9) [zg_0, zg_aload_n, zg_getfield, zg_goto, zg_iadd, zg_iaload, zg_iconst, zg_if_icmp, zg_iinc, zg_iload_n, zg_invokevirtual, zg_ireturn, zg_istore_n, zf_X3_tabsIn, zi_ld, zi_lda, zi_cmp, zi_retOk, zi_isI, zi_f3, zi_cr, zi_ci, zi_cn, zi_get_ne, zi_nl_i, zi_nl_r, zi_get_set_eq, nl, g0, g1, g3, hq, zt_g h, zq_Row_size, zq_Row_get, cr, h1 F (by omega), h2 F (by omega), c1, zm_iald (k := 0) h.2.2.1 i1, e1, c2, nI_1]
        · simp (maxDischargeDepth := 9) [zi_get_ne, zi_nl_i, zi_nl_r, zi_get_set_eq, nl]
        · simp (maxDischargeDepth := 9) [zi_get_ne, zi_nl_i, zi_nl_r, zi_get_set_eq, nl, g0]
        · simp (maxDischargeDepth := 9) [zi_get_ne, zi_nl_i, zi_nl_r, zi_get_set_eq, nl, g1]
    · rintro L _ ⟨-, nl, g0, g1, g3, rfl, hq⟩
      rw [List.take_length] at hq
      obtain ⟨N1, h1⟩ := ze_Row_sizeL (μ := μ) D h.2.1 hR
      have cr := zr_c (μ := μ) h.2.1
      refine ⟨_, zm_mk μ, ⟨N1, 7, fun F m hF => ?_⟩, rfl, rfl⟩
      simp [zg_0, zg_aload_n, zg_getfield, zg_goto, zg_iadd, zg_iaload, zg_iconst, zg_if_icmp, zg_iinc, zg_iload_n, zg_invokevirtual, zg_ireturn, zg_istore_n, zf_X3_tabsIn, zi_ld, zi_lda, zi_cmp, zi_retOk, zi_isI, zi_f3, zi_cr, zi_ci, zi_cn, g0, g3, hq, zt_g h, zq_Row_size, cr, h1 F (by omega)]
  obtain ⟨r, h', G, rfl, rfl⟩ := key
  refine ze_in [(0, .ref (T + 1)), (1, .int x)] zq_Tree_tabsIn (Nat.le_of_ble_eq_true rfl) rfl (ze_S.end ⟨0, 4, fun F m hF => ?_⟩ G)
  simp [zg_0, zg_aload_n, zg_getfield, zg_goto, zg_iadd, zg_iaload, zg_iconst, zg_if_icmp, zg_iinc, zg_iload_n, zg_invokevirtual, zg_ireturn, zg_istore_n, zf_X3_tabsIn, zi_ld, zi_lda, zi_cmp, zi_retOk, zi_isI, zi_f3, zi_cr, zi_ci, zi_cn, zi_get, zi_set, nI_0]
set_option maxRecDepth 100000 in
theorem ze_Tree_tabIn (D : Nat) (h : zt_at T) (hI : zt_I μ T R t) (x : Int32) {j : Nat} (hj : j < 2 ^ 31) :
    ze_E (D + 2) A_Tree_tabIn [.ref (T + 1), .int x, .int (nI j)] (zm_mk μ) (some (.int (if j < (R.filter (fun v => decide (μ (T + 3) v = x))).length then nI ((R.filter (fun v => decide (μ (T + 3) v = x))).getD j 0) else -1000000005))) (zm_mk μ) := by
  obtain ⟨⟨hR, -, hb⟩, -⟩ := hI
  have hR10 := hR.1
  have hv := zl_ln_eq (fun v => decide (μ (T + 3) v = x)) j (-1000000005) R 0 (Nat.zero_le _)
  rw [Nat.sub_zero] at hv
  rw [← hv]
  have key : ∃ r h', ze_G (D + 1) 5 (some .int) zc_X3_tabIn 5 [(4, .int (nI 0)), (3, .int (nI 0)), (0, .ref (T + 1)), (1, .int x), (2, .int (nI j))] [] (zm_mk μ) r h' ∧ (r = some (.int (zl_ln (fun v => decide (μ (T + 3) v = x)) j (-1000000005) R 0)) ∧ zm_mk μ = h') := by
    refine ze_loop (Q := fun i L hp => i ≤ R.length ∧ zi_nl L = true ∧ zi_get L 0 = some (.ref (T + 1)) ∧ zi_get L 1 = some (.int x) ∧ zi_get L 2 = some (.int (nI j)) ∧ zi_get L 4 = some (.int (nI i)) ∧ zm_mk μ = hp ∧ ∃ (s : Nat), zi_get L 3 = some (.int (nI s)) ∧ (s ≤ i ∧ zl_ln (fun v => decide (μ (T + 3) v = x)) j (-1000000005) R 0 = zl_ln (fun v => decide (μ (T + 3) v = x)) j (-1000000005) (R.drop i) s)) (R := fun r h' => r = some (.int (zl_ln (fun v => decide (μ (T + 3) v = x)) j (-1000000005) R 0)) ∧ zm_mk μ = h') R.length ?_ ?_ R.length 0 _ _ (by omega) ⟨by omega, rfl, rfl, rfl, rfl, rfl, rfl, 0, rfl, Nat.le_refl _, rfl⟩
    · rintro i L _ hi ⟨-, nl, g0, g1, g2, g4, rfl, s, g3, hq⟩
      have hwm : R.getD i 0 ∈ R := zl_mem hi
      rw [zl_drop hi] at hq
      obtain ⟨N1, h1⟩ := ze_Row_sizeL (μ := μ) D h.2.1 hR
      obtain ⟨N2, h2⟩ := ze_Row_getL (μ := μ) D h.2.1 hR hi
      generalize R.getD i 0 = w at hwm h2 hq
      have hw := hb w hwm
      have c1 : ¬ nI R.length ≤ nI i := nI_ge hi (by omega)
      have i1 : zi_in (nI w) 10 = true := zm_in hw (by decide)
      have e1 : (nI w).toNatClampNeg = w := nI_clamp (by omega)
      have cr := zr_c (μ := μ) h.2.1
      obtain ⟨hsi, hq⟩ := hq
      have hq' : zl_ln (fun v => decide (μ (T + 3) v = x)) j (-1000000005) R 0 = if decide (μ (T + 3) w = x) = true then (if s = j then nI w else zl_ln (fun v => decide (μ (T + 3) v = x)) j (-1000000005) (R.drop (i + 1)) (s + 1)) else zl_ln (fun v => decide (μ (T + 3) v = x)) j (-1000000005) (R.drop (i + 1)) s := hq
      by_cases c2 : μ (T + 3) w = x
      · rw [if_pos (by simpa using c2)] at hq'
        by_cases c3 : s = j
        · rw [if_pos c3] at hq'
          subst c3
          right
          refine ⟨some (.int (nI w)), zm_mk μ, ⟨N1 + N2, 22, fun F m hF => ?_⟩, by rw [hq'], rfl⟩
          simp (maxDischargeDepth := 9) [zg_0, zg_aload_n, zg_getfield, zg_goto, zg_iaload, zg_iconst, zg_if_icmp, zg_iinc, zg_iload, zg_iload_n, zg_invokevirtual, zg_ireturn, zg_istore, zg_istore_n, zg_ldc, zf_X3_tabIn, zi_ld, zi_lda, zi_cmp, zi_retOk, zi_isI, zi_f3, zi_cr, zi_ci, zi_cn, zi_get_ne, zi_nl_i, zi_nl_r, zi_get_set_eq, nl, g0, g1, g2, g4, g3, zt_g h, zq_Row_size, zq_Row_get, cr, h1 F (by omega), h2 F (by omega), c1, zm_iald (k := 0) h.2.2.1 i1, e1, c2, nI_1]
        · rw [if_neg c3] at hq'
          have c3' : ¬ nI s = nI j := fun e => c3 ((nI_eq (by omega) hj).mp e)
          left
          refine ⟨zi_set (zi_set L 3 (.int (nI (s + 1)))) 4 (.int (nI (i + 1))), zm_mk μ, ⟨N1 + N2, 20, fun F m hF => ?_⟩, by omega, ?_, ?_, ?_, ?_, zi_get_set_eq, rfl, s + 1, ?_, ⟨by omega, hq'⟩⟩
          · simp (maxDischargeDepth := 9) [zg_0, zg_aload_n, zg_getfield, zg_goto, zg_iaload, zg_iconst, zg_if_icmp, zg_iinc, zg_iload, zg_iload_n, zg_invokevirtual, zg_ireturn, zg_istore, zg_istore_n, zg_ldc, zf_X3_tabIn, zi_ld, zi_lda, zi_cmp, zi_retOk, zi_isI, zi_f3, zi_cr, zi_ci, zi_cn, zi_get_ne, zi_nl_i, zi_nl_r, zi_get_set_eq, nl, g0, g1, g2, g4, g3, zt_g h, zq_Row_size, zq_Row_get, cr, h1 F (by omega), h2 F (by omega), c1, zm_iald (k := 0) h.2.2.1 i1, e1, c2, c3', nI_1]
          · simp (maxDischargeDepth := 9) [zi_get_ne, zi_nl_i, zi_nl_r, zi_get_set_eq, nl]
          · simp (maxDischargeDepth := 9) [zi_get_ne, zi_nl_i, zi_nl_r, zi_get_set_eq, nl, g0]
          · simp (maxDischargeDepth := 9) [zi_get_ne, zi_nl_i, zi_nl_r, zi_get_set_eq, nl, g1]
          · simp (maxDischargeDepth := 9) [zi_get_ne, zi_nl_i, zi_nl_r, zi_get_set_eq, nl, g2]
          · simp (maxDischargeDepth := 9) [zi_get_ne, zi_nl_i, zi_nl_r, zi_get_set_eq, nl, g3]
      · rw [if_neg (by simpa using c2)] at hq'
        left
        refine ⟨zi_set L 4 (.int (nI (i + 1))), zm_mk μ, ⟨N1 + N2, 16, fun F m hF => ?_⟩, by omega, ?_, ?_, ?_, ?_, zi_get_set_eq, rfl, s, ?_, ⟨by omega, hq'⟩⟩
        · simp (maxDischargeDepth := 9) [zg_0, zg_aload_n, zg_getfield, zg_goto, zg_iaload, zg_iconst, zg_if_icmp, zg_iinc, zg_iload, zg_iload_n, zg_invokevirtual, zg_ireturn, zg_istore, zg_istore_n, zg_ldc, zf_X3_tabIn, zi_ld, zi_lda, zi_cmp, zi_retOk, zi_isI, zi_f3, zi_cr, zi_ci, zi_cn, zi_get_ne, zi_nl_i, zi_nl_r, zi_get_set_eq, nl, g0, g1, g2, g4, g3, zt_g h, zq_Row_size, zq_Row_get, cr, h1 F (by omega), h2 F (by omega), c1, zm_iald (k := 0) h.2.2.1 i1, e1, c2, nI_1]
        · simp (maxDischargeDepth := 9) [zi_get_ne, zi_nl_i, zi_nl_r, zi_get_set_eq, nl]
        · simp (maxDischargeDepth := 9) [zi_get_ne, zi_nl_i, zi_nl_r, zi_get_set_eq, nl, g0]
        · simp (maxDischargeDepth := 9) [zi_get_ne, zi_nl_i, zi_nl_r, zi_get_set_eq, nl, g1]
        · simp (maxDischargeDepth := 9) [zi_get_ne, zi_nl_i, zi_nl_r, zi_get_set_eq, nl, g2]
        · simp (maxDischargeDepth := 9) [zi_get_ne, zi_nl_i, zi_nl_r, zi_get_set_eq, nl, g3]
    · rintro L _ ⟨-, nl, g0, g1, g2, g4, rfl, s, g3, hq⟩
      rw [List.drop_length] at hq
      have hq : zl_ln (fun v => decide (μ (T + 3) v = x)) j (-1000000005) R 0 = -1000000005 := hq.2
      rw [hq]
      obtain ⟨N1, h1⟩ := ze_Row_sizeL (μ := μ) D h.2.1 hR
      have cr := zr_c (μ := μ) h.2.1
      refine ⟨_, zm_mk μ, ⟨N1, 7, fun F m hF => ?_⟩, rfl, rfl⟩
      simp [zg_0, zg_aload_n, zg_getfield, zg_goto, zg_iaload, zg_iconst, zg_if_icmp, zg_iinc, zg_iload, zg_iload_n, zg_invokevirtual, zg_ireturn, zg_istore, zg_istore_n, zg_ldc, zf_X3_tabIn, zi_ld, zi_lda, zi_cmp, zi_retOk, zi_isI, zi_f3, zi_cr, zi_ci, zi_cn, g0, g4, zt_g h, zq_Row_size, cr, h1 F (by omega)]
  obtain ⟨r, h', G, rfl, rfl⟩ := key
  refine ze_in [(0, .ref (T + 1)), (1, .int x), (2, .int (nI j))] zq_Tree_tabIn (Nat.le_of_ble_eq_true rfl) rfl (ze_S.end ⟨0, 4, fun F m hF => ?_⟩ G)
  simp [zg_0, zg_aload_n, zg_getfield, zg_goto, zg_iaload, zg_iconst, zg_if_icmp, zg_iinc, zg_iload, zg_iload_n, zg_invokevirtual, zg_ireturn, zg_istore, zg_istore_n, zg_ldc, zf_X3_tabIn, zi_ld, zi_lda, zi_cmp, zi_retOk, zi_isI, zi_f3, zi_cr, zi_ci, zi_cn, zi_get, zi_set, nI_0]
end ZFD
end
