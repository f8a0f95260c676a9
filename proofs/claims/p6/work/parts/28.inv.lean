/-! Tree.lay whole; what holds of a Tree; clear, copyFrom -/
section ZT9
variable {T : Nat} {μ : zm_M} {t : zy_F} {R : List Nat}
set_option maxRecDepth 100000 in
theorem ze_Tree_lay (D : Nat) (h : zt_at T) (hr : zt_root μ T t) (hlt : ∀ n ∈ zy_ids t, n < 19) (hnd : (zy_ids t).Nodup) {lf0 lf1 : Nat → Int32} (ho : zt_O μ T t) (l0 : zy_lso (μ (T + 16)) 0 (μ (T + 7)) lf0 t) (l1 : zy_lso (μ (T + 17)) 1 (μ (T + 7)) lf1 t) {z : Nat} (hz : zm_isA 7 z 2) (hd : z < T ∨ T + 24 ≤ z) :
    ∃ μ', ze_E (D + 5) A_Tree_lay [.ref (T + 1), .ref (z + 1)] (zm_mk μ) none (zm_mk μ') ∧ zt_frL T μ μ' ∧ (zy_wf t → zy_laid (zt_P μ' T) (μ (T + 7)) (μ (T + 8)) (zy_ls 0 (μ (T + 7)) lf0) (zy_ls 1 (μ (T + 7)) lf1) t 0 0 (μ z 0) (μ z 1)) := by
  have hl19 := zy_nodup_le 19 (zy_ids t) hnd hlt
  rcases hr with ⟨rfl, hr⟩ | ⟨hw, hok, hr⟩
  · refine ⟨μ, ze_in [(0, .ref (T + 1)), (1, .ref (z + 1))] zq_Tree_lay (Nat.le_of_ble_eq_true rfl) rfl ⟨0, 15, fun F m hF => ?_⟩, fun _ _ _ _ _ => rfl, fun hw => hw.elim⟩
    have c : (-1 : Int32) < 0 := by decide
    have h12 : μ T 12 = 0 := ho.1
    simp [zg_0, zg_aaload, zg_aload_n, zg_getfield, zg_goto, zg_iaload, zg_iastore, zg_iconst, zg_ifCond, zg_if_icmp, zg_iinc, zg_iload_n, zg_invokevirtual, zg_istore_n, zg_return, zf_X3_lay, zi_ld, zi_lda, zi_cmp, zi_retOk, zi_isI, zi_f3, zi_cr, zi_ci, zi_cn, zi_get, zi_set, zt_g h, hr, c, h12]
  · have hid : zy_id t < 19 := hlt _ (zy_id_mem hw)
    let ν := zm_up (zm_up (zm_up (zm_up μ (T + 19) (zy_id t) 0) (T + 22) (zy_id t) (μ z 0)) (T + 20) (zy_id t) 0) (T + 23) (zy_id t) (μ z 1)
    have fν : zt_frL T μ ν := fun c h1 h2 h3 h4 => by show zm_up _ _ _ _ _ = _; rw [zm_up_row h4, zm_up_row h2, zm_up_row h3, zm_up_row h1]
    have Pν : zt_P ν T (zy_id t) 0 0 (μ z 0) (μ z 1) := by
      refine ⟨?_, ?_, ?_, zm_up_eq⟩ <;> show zm_up _ _ _ _ _ _ = _
      · rw [zm_up_ne (by omega), zm_up_ne (by omega), zm_up_ne (by omega), zm_up_eq]
      · rw [zm_up_ne (by omega), zm_up_eq]
      · rw [zm_up_ne (by omega), zm_up_ne (by omega), zm_up_eq]
    have e7 : ν (T + 7) = μ (T + 7) := fν _ (by omega) (by omega) (by omega) (by omega)
    have e8 : ν (T + 8) = μ (T + 8) := fν _ (by omega) (by omega) (by omega) (by omega)
    have e13 : ν (T + 13) = μ (T + 13) := fν _ (by omega) (by omega) (by omega) (by omega)
    have e16 : ν (T + 16) = μ (T + 16) := fν _ (by omega) (by omega) (by omega) (by omega)
    have e17 : ν (T + 17) = μ (T + 17) := fν _ (by omega) (by omega) (by omega) (by omega)
    have eT : ν T = μ T := fν _ (by omega) (by omega) (by omega) (by omega)
    have okν : zy_okM ν T t := by
      unfold zy_okM at *
      rw [e7, fν (T + 9) (by omega) (by omega) (by omega) (by omega), fν (T + 10) (by omega) (by omega) (by omega) (by omega), fν (T + 11) (by omega) (by omega) (by omega) (by omega)]
      exact hok
    have s0 : ze_S (D + 4) 3 none zc_X3_lay 0 [(0, .ref (T + 1)), (1, .ref (z + 1))] [] (zm_mk μ) 48 [(2, .int (nI 0)), (0, .ref (T + 1)), (1, .ref (z + 1))] [] (zm_mk ν) := by
      refine ⟨0, 59, fun F m _ => ?_⟩
      have c : ¬ nI (zy_id t) < 0 := nI_pos (by omega)
      have i1 : zi_in (nI (zy_id t)) 19 = true := zm_in hid (by decide)
      have e1 : (nI (zy_id t)).toNatClampNeg = zy_id t := nI_clamp (by omega)
      have q1 : zm_up μ (T + 19) (zy_id t) 0 T 9 = nI (zy_id t) := by rw [zm_up_ne (by omega)]; exact hr
      have q2 : zm_up (zm_up μ (T + 19) (zy_id t) 0) (T + 22) (zy_id t) (μ z 0) T 9 = nI (zy_id t) := by rw [zm_up_ne (by omega)]; exact q1
      have q3 : zm_up (zm_up (zm_up μ (T + 19) (zy_id t) 0) (T + 22) (zy_id t) (μ z 0)) (T + 20) (zy_id t) 0 T 9 = nI (zy_id t) := by rw [zm_up_ne (by omega)]; exact q2
      have v1 : zm_up μ (T + 19) (zy_id t) 0 z 0 = μ z 0 := zm_up_ne (by omega)
      have v2 : zm_up (zm_up (zm_up μ (T + 19) (zy_id t) 0) (T + 22) (zy_id t) (μ z 0)) (T + 20) (zy_id t) 0 z 1 = μ z 1 := by rw [zm_up_ne (by omega), zm_up_ne (by omega), zm_up_ne (by omega)]
      simp [zg_0, zg_aaload, zg_aload_n, zg_getfield, zg_goto, zg_iaload, zg_iastore, zg_iconst, zg_ifCond, zg_if_icmp, zg_iinc, zg_iload_n, zg_invokevirtual, zg_istore_n, zg_return, zf_X3_lay, zi_ld, zi_lda, zi_cmp, zi_retOk, zi_isI, zi_f3, zi_cr, zi_ci, zi_cn, zi_get, zi_set, zt_g h, hr, c, zm_ax0 h.2.2.2.2.2.2.1.1, zm_ax0 h.2.2.2.2.2.2.2.1, zm_ax1 h.2.2.2.2.2.2.1.1, zm_ax1 h.2.2.2.2.2.2.2.1, zm_iast h.2.2.2.2.2.2.1.2.1 i1, zm_iast h.2.2.2.2.2.2.1.2.2 i1, zm_iast h.2.2.2.2.2.2.2.2.1 i1, zm_iast h.2.2.2.2.2.2.2.2.2 i1, e1, q1, q2, q3, v1, v2, zm_iald (k := 0) hz zm_in0, zm_iald (k := 0) hz zm_in1, zm_cl0, zm_cl1, nI_0]
      rfl
    obtain ⟨μ', L', S, nl, g0, g2, f, -, d⟩ := zt_lay_S D h (μ (T + 7)) (μ (T + 8)) lf0 lf1 (zy_ids t).length hl19 t hw ν [(2, .int (nI 0)), (0, .ref (T + 1)), (1, .ref (z + 1))] 0 0 0 (μ z 0) (μ z 1) e7 e8 okν hlt hnd (fun j hj => by rw [Nat.zero_add, e13]; exact ho.2 j hj) rfl rfl rfl (by rw [eT]; exact ho.1) (by omega) (by rw [e16]; exact l0) (by rw [e17]; exact l1) Pν
    refine ⟨μ', ze_in [(0, .ref (T + 1)), (1, .ref (z + 1))] zq_Tree_lay (Nat.le_of_ble_eq_true rfl) rfl ((s0.trans S).end ⟨0, 5, fun F m _ => ?_⟩), fun c h1 h2 h3 h4 => (f c h1 h2 h3 h4).trans (fν c h1 h2 h3 h4), fun _ => d⟩
    have q12 : μ' T 12 = nI (zy_ids t).length := by rw [f T (by omega) (by omega) (by omega) (by omega), eT]; exact ho.1
    simp [zg_0, zg_aaload, zg_aload_n, zg_getfield, zg_goto, zg_iaload, zg_iastore, zg_iconst, zg_ifCond, zg_if_icmp, zg_iinc, zg_iload_n, zg_invokevirtual, zg_istore_n, zg_return, zf_X3_lay, zi_ld, zi_lda, zi_cmp, zi_retOk, zi_isI, zi_f3, zi_cr, zi_ci, zi_cn, g0, g2, zt_g h, q12]
/-- what holds of a Tree with the tabs R and the nodes t -/
def zt_I (μ : zm_M) (T : Nat) (R : List Nat) (t : zy_F) : Prop :=
  (zr_L μ (T + 1) R ∧ R.Nodup ∧ ∀ w ∈ R, w < 10) ∧ (zt_root μ T t ∧ (zy_ids t).Nodup ∧ (∀ n ∈ zy_ids t, n < 19) ∧ (t = .nil ∨ μ (T + 11) (zy_id t) = -1)) ∧ (∀ n, n < 19 → n ∉ zy_ids t → μ (T + 7) n = 3) ∧
  (∀ w ∈ R, ∃ n ∈ zy_lvs t, μ (T + 3) w = nI n) ∧ (∀ w, w < 10 → w ∉ R → μ (T + 3) w = -1) ∧ ∀ n ∈ zy_lvs t, ∃ w ∈ R, μ (T + 3) w = nI n ∧ μ (T + 12) n = nI w
/-- what is outside the Tree at T -/
def zt_out (T c : Nat) : Prop := c < T ∨ T + 24 ≤ c
def zt_frT (T : Nat) (μ μ' : zm_M) : Prop := ∀ c, zt_out T c → μ' c = μ c
theorem zt_frT.trans {μ ν ξ : zm_M} (h : zt_frT T μ ν) (g : zt_frT T ν ξ) : zt_frT T μ ξ := fun c hc => (g c hc).trans (h c hc)
/-- the fields that settle doesn't touch -/
def zt_same (T : Nat) (μ μ' : zm_M) : Prop := μ' (T + 1) = μ (T + 1) ∧ μ' (T + 2) = μ (T + 2) ∧ μ' (T + 3) = μ (T + 3) ∧ μ' (T + 5) = μ (T + 5) ∧ μ' (T + 6) = μ (T + 6) ∧ μ' (T + 7) = μ (T + 7) ∧ μ' (T + 8) = μ (T + 8) ∧ μ' (T + 9) = μ (T + 9) ∧ μ' (T + 10) = μ (T + 10) ∧ μ' (T + 11) = μ (T + 11) ∧ μ' (T + 12) = μ (T + 12) ∧ μ' T 9 = μ T 9
theorem zt_frZ.same {μ ν : zm_M} (h : zt_frZ T μ ν) : zt_same T μ ν :=
  ⟨h.1 _ (by omega) (by omega) (by omega) (by omega) (by omega), h.1 _ (by omega) (by omega) (by omega) (by omega) (by omega), h.1 _ (by omega) (by omega) (by omega) (by omega) (by omega), h.1 _ (by omega) (by omega) (by omega) (by omega) (by omega), h.1 _ (by omega) (by omega) (by omega) (by omega) (by omega), h.1 _ (by omega) (by omega) (by omega) (by omega) (by omega), h.1 _ (by omega) (by omega) (by omega) (by omega) (by omega), h.1 _ (by omega) (by omega) (by omega) (by omega) (by omega), h.1 _ (by omega) (by omega) (by omega) (by omega) (by omega), h.1 _ (by omega) (by omega) (by omega) (by omega) (by omega), h.1 _ (by omega) (by omega) (by omega) (by omega) (by omega), h.2 _ (by decide)⟩
theorem zt_frZ.out {μ ν : zm_M} (h : zt_frZ T μ ν) : zt_frT T μ ν := fun c hc => by
  unfold zt_out at hc
  exact h.1 c (by omega) (by omega) (by omega) (by omega) (by omega)
theorem zt_same.I {μ ν : zm_M} (h : zt_same T μ ν) (g : zt_I μ T R t) : zt_I ν T R t := by
  obtain ⟨q1, q2, q3, q5, q6, q7, q8, q9, q10, q11, q12, q0⟩ := h
  unfold zt_I zt_root zy_okM zr_L at *
  rw [q1, show T + 1 + 1 = T + 2 from rfl, q2, q3, q7, q9, q10, q11, q12, q0]
  exact g
/-- a settled Tree -/
def zt_C (μ : zm_M) (T : Nat) (R : List Nat) (t : zy_F) : Prop := zt_I μ T R t ∧ zt_Z μ T R t
set_option maxRecDepth 100000 in
theorem ze_Tree_settleI (D : Nat) (h : zt_at T) (hI : zt_I μ T R t) : ∃ μ', ze_E (D + 3) A_Tree_settle [.ref (T + 1)] (zm_mk μ) none (zm_mk μ') ∧ zt_C μ' T R t ∧ zt_same T μ μ' ∧ zt_frT T μ μ' := by
  obtain ⟨⟨i1, i2, i3⟩, ⟨i4, i5, i6, i7⟩, i8, i9, i10, i11⟩ := hI
  have hlv := zy_lvs_lt (i4.imp (·.1) (·.1)) i6
  obtain ⟨μ', E, f, z⟩ := ze_Tree_settle D h i4 i6 i5 i1 i3 (fun w hw => by obtain ⟨n, hn, e⟩ := i9 w hw; exact ⟨n, hlv n hn, e⟩)
  exact ⟨μ', E, ⟨f.same.I ⟨⟨i1, i2, i3⟩, ⟨i4, i5, i6, i7⟩, i8, i9, i10, i11⟩, z⟩, f.same, f.out⟩
set_option maxRecDepth 100000 in
theorem ze_Tree_clearI (D : Nat) (h : zt_at T) : ∃ μ', ze_E (D + 2) A_Tree_clear [.ref (T + 1)] (zm_mk μ) none (zm_mk μ') ∧ zt_C μ' T [] .nil ∧ zt_frT T μ μ' := by
  refine ⟨_, ze_Tree_clear D h, ⟨⟨⟨⟨Nat.zero_le _, ?_, fun j hj => by cases hj⟩, List.nodup_nil, fun w hw => by cases hw⟩, ⟨Or.inl ⟨rfl, ?_⟩, List.nodup_nil, fun w hw => (by cases hw), Or.inl rfl⟩, fun n hn _ => ?_, fun w hw => (by cases hw), fun w hw _ => ?_, fun n hn => by cases hn⟩, ⟨zm_up_eq, fun j hj => by cases hj⟩, fun a ha => trivial⟩, fun c hc => ?_⟩
  · rw [zm_up_ne (by omega), zm_up_ne (by omega)]
    unfold zm_fl
    rw [if_neg (by omega), if_neg (by omega)]
    exact zm_up_eq
  · rw [zm_up_ne (by omega)]
    exact zm_up_eq
  · rw [zm_up_ne (by omega), zm_up_ne (by omega)]
    exact if_pos ⟨rfl, hn⟩
  · rw [zm_up_ne (by omega), zm_up_ne (by omega)]
    unfold zm_fl
    rw [if_neg (by omega), if_pos ⟨rfl, hw⟩]
  · unfold zt_out at hc
    rw [zm_up_row (by omega), zm_up_row (by omega)]
    funext b
    unfold zm_fl
    rw [if_neg (by omega), if_neg (by omega), zm_up_row (by omega)]
theorem zm_cp_eq {μ : zm_M} {i0 i1 : Nat} : zm_cp μ i0 i1 i1 = μ i0 := by
  funext b
  exact if_pos rfl
theorem zm_cp_ne {μ : zm_M} {i0 i1 a : Nat} (h : a ≠ i1) : zm_cp μ i0 i1 a = μ a := by
  funext b
  exact if_neg h
set_option maxRecDepth 100000 in
theorem ze_Tree_copyFrom (D : Nat) {Q : Nat} (h : zt_at T) (hQ : zt_at Q) (hd : T + 24 ≤ Q ∨ Q + 24 ≤ T) (hI : zt_I μ Q R t) :
    ∃ μ', ze_E (D + 4) A_Tree_copyFrom [.ref (T + 1), .ref (Q + 1)] (zm_mk μ) none (zm_mk μ') ∧ zt_C μ' T R t ∧ zt_frT T μ μ' ∧ (μ' (T + 3) = μ (Q + 3) ∧ μ' (T + 5) = μ (Q + 5) ∧ μ' (T + 6) = μ (Q + 6) ∧ μ' (T + 7) = μ (Q + 7) ∧ μ' (T + 8) = μ (Q + 8) ∧ μ' (T + 12) = μ (Q + 12)) := by
  obtain ⟨ν, ⟨N1, E1⟩, r1, r2⟩ := ze_Row_copyFrom (μ := μ) (D + 2) h.2.1 hQ.2.1 (by omega) (by omega) hI.1.1
  have r2' : ∀ a, a ≠ T + 1 → a ≠ T + 2 → ν a = μ a := fun a h1 h2 => funext fun b => r2 a b h1 h2
  let ξ := zm_cp (zm_cp (zm_cp (zm_cp (zm_cp (zm_cp (zm_cp (zm_cp (zm_cp ν (Q + 3) (T + 3)) (Q + 5) (T + 5)) (Q + 6) (T + 6)) (Q + 7) (T + 7)) (Q + 8) (T + 8)) (Q + 9) (T + 9)) (Q + 10) (T + 10)) (Q + 11) (T + 11)) (Q + 12) (T + 12)
  have oξ : ∀ c, c < T + 3 ∨ T + 13 ≤ c → ξ c = ν c := fun c hc => by
    show zm_cp _ _ _ _ = _
    rw [zm_cp_ne (by omega), zm_cp_ne (by omega), zm_cp_ne (by omega), zm_cp_ne (by omega), zm_cp_ne (by omega), zm_cp_ne (by omega), zm_cp_ne (by omega), zm_cp_ne (by omega), zm_cp_ne (by omega)]
  have x3 : ξ (T + 3) = μ (Q + 3) := by
    show zm_cp _ _ _ _ = _
    rw [zm_cp_ne (by omega), zm_cp_ne (by omega), zm_cp_ne (by omega), zm_cp_ne (by omega), zm_cp_ne (by omega), zm_cp_ne (by omega), zm_cp_ne (by omega), zm_cp_ne (by omega), zm_cp_eq, r2' _ (by omega) (by omega)]
  have x5 : ξ (T + 5) = μ (Q + 5) := by
    show zm_cp _ _ _ _ = _
    rw [zm_cp_ne (by omega), zm_cp_ne (by omega), zm_cp_ne (by omega), zm_cp_ne (by omega), zm_cp_ne (by omega), zm_cp_ne (by omega), zm_cp_ne (by omega), zm_cp_eq, zm_cp_ne (by omega), r2' _ (by omega) (by omega)]
  have x6 : ξ (T + 6) = μ (Q + 6) := by
    show zm_cp _ _ _ _ = _
    rw [zm_cp_ne (by omega), zm_cp_ne (by omega), zm_cp_ne (by omega), zm_cp_ne (by omega), zm_cp_ne (by omega), zm_cp_ne (by omega), zm_cp_eq, zm_cp_ne (by omega), zm_cp_ne (by omega), r2' _ (by omega) (by omega)]
  have x7 : ξ (T + 7) = μ (Q + 7) := by
    show zm_cp _ _ _ _ = _
    rw [zm_cp_ne (by omega), zm_cp_ne (by omega), zm_cp_ne (by omega), zm_cp_ne (by omega), zm_cp_ne (by omega), zm_cp_eq, zm_cp_ne (by omega), zm_cp_ne (by omega), zm_cp_ne (by omega), r2' _ (by omega) (by omega)]
  have x8 : ξ (T + 8) = μ (Q + 8) := by
    show zm_cp _ _ _ _ = _
    rw [zm_cp_ne (by omega), zm_cp_ne (by omega), zm_cp_ne (by omega), zm_cp_ne (by omega), zm_cp_eq, zm_cp_ne (by omega), zm_cp_ne (by omega), zm_cp_ne (by omega), zm_cp_ne (by omega), r2' _ (by omega) (by omega)]
  have x9 : ξ (T + 9) = μ (Q + 9) := by
    show zm_cp _ _ _ _ = _
    rw [zm_cp_ne (by omega), zm_cp_ne (by omega), zm_cp_ne (by omega), zm_cp_eq, zm_cp_ne (by omega), zm_cp_ne (by omega), zm_cp_ne (by omega), zm_cp_ne (by omega), zm_cp_ne (by omega), r2' _ (by omega) (by omega)]
  have x10 : ξ (T + 10) = μ (Q + 10) := by
    show zm_cp _ _ _ _ = _
    rw [zm_cp_ne (by omega), zm_cp_ne (by omega), zm_cp_eq, zm_cp_ne (by omega), zm_cp_ne (by omega), zm_cp_ne (by omega), zm_cp_ne (by omega), zm_cp_ne (by omega), zm_cp_ne (by omega), r2' _ (by omega) (by omega)]
  have x11 : ξ (T + 11) = μ (Q + 11) := by
    show zm_cp _ _ _ _ = _
    rw [zm_cp_ne (by omega), zm_cp_eq, zm_cp_ne (by omega), zm_cp_ne (by omega), zm_cp_ne (by omega), zm_cp_ne (by omega), zm_cp_ne (by omega), zm_cp_ne (by omega), zm_cp_ne (by omega), r2' _ (by omega) (by omega)]
  have x12 : ξ (T + 12) = μ (Q + 12) := by
    show zm_cp _ _ _ _ = _
    rw [zm_cp_eq, zm_cp_ne (by omega), zm_cp_ne (by omega), zm_cp_ne (by omega), zm_cp_ne (by omega), zm_cp_ne (by omega), zm_cp_ne (by omega), zm_cp_ne (by omega), zm_cp_ne (by omega), r2' _ (by omega) (by omega)]
  have xQ : ξ Q 9 = μ Q 9 := by rw [oξ Q (by omega), r2' _ (by omega) (by omega)]
  let θ := zm_up ξ T 9 (μ Q 9)
  have θr : ∀ c, c ≠ T → θ c = ξ c := fun c hc => zm_up_row hc
  have hIθ : zt_I θ T R t := by
    have hI2 := hI
    unfold zt_I zt_root zy_okM at *
    rw [θr (T + 3) (by omega), θr (T + 7) (by omega), θr (T + 9) (by omega), θr (T + 10) (by omega), θr (T + 11) (by omega), θr (T + 12) (by omega), x3, x7, x9, x10, x11, x12, show θ T 9 = μ Q 9 from zm_up_eq]
    refine ⟨⟨?_, hI2.1.2⟩, hI2.2⟩
    unfold zr_L at *
    rw [θr (T + 1) (by omega), show T + 1 + 1 = T + 2 from rfl, θr (T + 2) (by omega), oξ (T + 1) (by omega), oξ (T + 2) (by omega)]
    exact r1
  obtain ⟨μ', ⟨N2, E2⟩, C, sm, fT⟩ := ze_Tree_settleI (μ := θ) D h hIθ
  obtain ⟨-, -, s3, s5, s6, s7, s8, -, -, -, s12, -⟩ := sm
  refine ⟨μ', ?_, C, ?_, s3.trans ((θr _ (by omega)).trans x3), s5.trans ((θr _ (by omega)).trans x5), s6.trans ((θr _ (by omega)).trans x6), s7.trans ((θr _ (by omega)).trans x7), s8.trans ((θr _ (by omega)).trans x8), s12.trans ((θr _ (by omega)).trans x12)⟩
  · refine ze_in [(0, .ref (T + 1)), (1, .ref (Q + 1))] zq_Tree_copyFrom (Nat.le_of_ble_eq_true rfl) rfl ⟨N1 + N2, 107, fun F m hF => ?_⟩
    have h10 : (Int8.ofInt 10).toInt32 = (10 : Int32) := by decide
    have h19 : (Int8.ofInt 19).toInt32 = (19 : Int32) := by decide
    obtain ⟨-, -, a3, ⟨a4, a5, a6⟩, ⟨a7, a8, a9, a10, a11, a12, -, -⟩, -⟩ := id h
    obtain ⟨-, -, b3, ⟨b4, b5, b6⟩, ⟨b7, b8, b9, b10, b11, b12, -, -⟩, -⟩ := id hQ
    have cr := zr_c (μ := μ) h.2.1
    obtain ⟨lc, cc⟩ := zt_c (μ := θ) h
    have k3 := fun ν : zm_M => zm_cpy (μ := ν) (x := 10) b3 a3 (by decide) (by decide)
    have k5 := fun ν : zm_M => zm_cpy (μ := ν) (x := 10) b5 a5 (by decide) (by decide)
    have k6 := fun ν : zm_M => zm_cpy (μ := ν) (x := 10) b6 a6 (by decide) (by decide)
    have k7 := fun ν : zm_M => zm_cpy (μ := ν) (x := 19) b7 a7 (by decide) (by decide)
    have k8 := fun ν : zm_M => zm_cpy (μ := ν) (x := 19) b8 a8 (by decide) (by decide)
    have k9 := fun ν : zm_M => zm_cpy (μ := ν) (x := 19) b9 a9 (by decide) (by decide)
    have k10 := fun ν : zm_M => zm_cpy (μ := ν) (x := 19) b10 a10 (by decide) (by decide)
    have k11 := fun ν : zm_M => zm_cpy (μ := ν) (x := 19) b11 a11 (by decide) (by decide)
    have k12 := fun ν : zm_M => zm_cpy (μ := ν) (x := 19) b12 a12 (by decide) (by decide)
    have hξ : zm_cp (zm_cp (zm_cp (zm_cp (zm_cp (zm_cp (zm_cp (zm_cp (zm_cp ν (Q + 3) (T + 3)) (Q + 5) (T + 5)) (Q + 6) (T + 6)) (Q + 7) (T + 7)) (Q + 8) (T + 8)) (Q + 9) (T + 9)) (Q + 10) (T + 10)) (Q + 11) (T + 11)) (Q + 12) (T + 12) = ξ := rfl
    have hθ : zm_up ξ T 9 (μ Q 9) = θ := rfl
    simp [zg_0, zg_aaload, zg_aload_n, zg_bipush, zg_getfield, zg_goto, zg_iconst, zg_if_icmp, zg_iinc, zg_iload_n, zg_invokestatic, zg_invokevirtual, zg_istore_n, zg_putfield, zg_return, zf_X3_copyFrom, zi_ld, zi_lda, zi_cmp, zi_retOk, zi_isI, zi_f3, zi_cr, zi_ci, zi_cn, zi_get, zi_set, zt_g h, zt_g hQ, zq_Row_copyFrom, cr, E1 F (by omega), h10, h19, k3, k5, k6, k7, k8, k9, k10, k11, k12, zm_ax0 a4, zm_ax1 a4, zm_ax0 b4, zm_ax1 b4, hξ, xQ, zt_p9 h, hθ, zq_Tree_settle, cc, E2 F (by omega)]
  · intro c hc
    rw [fT c hc]
    unfold zt_out at hc
    rw [θr c (by omega), oξ c (by omega), r2' c (by omega) (by omega)]
end ZT9
