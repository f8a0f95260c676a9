/-! Tree.addTab -/
section ZA1
variable {T : Nat} {μ θ : zm_M} {t : zy_F} {R : List Nat}
theorem zr_L_congr {μ ν : zm_M} {r : Nat} {l : List Nat} (h1 : ν r = μ r) (h2 : ν (r + 1) = μ (r + 1)) (h : zr_L μ r l) : zr_L ν r l := by
  unfold zr_L at *
  rw [h1, h2]
  exact h
theorem zl_app1 {w : Nat} (k2 : R.Nodup) (hwR : w ∉ R) (k3 : ∀ w ∈ R, w < 10) (hw : w < 10) : (R ++ [w]).Nodup ∧ ∀ x ∈ R ++ [w], x < 10 := by
  constructor
  · refine List.nodup_append.mpr ⟨k2, List.nodup_cons.mpr ⟨List.not_mem_nil, List.nodup_nil⟩, fun x hx y hy e => ?_⟩
    have : y = w := by simpa using hy
    exact hwR (this ▸ e ▸ hx)
  · intro x hx
    rcases List.mem_append.mp hx with hx | hx
    · exact k3 x hx
    · have : x = w := by simpa using hx
      omega
theorem zt_I_add (hI : zt_I μ T R t) {n w : Nat} (hn : n ∈ zy_lvs t) (hw : w < 10) (hwR : w ∉ R) (hrow : zr_L θ (T + 1) (R ++ [w])) (t3 : ∀ v, θ (T + 3) v = if v = w then nI n else μ (T + 3) v)
    (e7 : θ (T + 7) = μ (T + 7)) (e9 : θ (T + 9) = μ (T + 9)) (e10 : θ (T + 10) = μ (T + 10)) (e11 : θ (T + 11) = μ (T + 11)) (e12 : θ (T + 12) = μ (T + 12)) (e0 : θ T 9 = μ T 9) : zt_I θ T (R ++ [w]) t := by
  obtain ⟨⟨k1, k2, k3⟩, k4, k8, k9, k10, k11⟩ := hI
  obtain ⟨a1, a2⟩ := zl_app1 k2 hwR k3 hw
  refine ⟨⟨hrow, a1, a2⟩, ?_, ?_, ?_, ?_, ?_⟩
  · unfold zt_root zy_okM at *
    rw [e0, e7, e9, e10, e11]
    exact k4
  · rw [e7]; exact k8
  · intro v hv
    rcases List.mem_append.mp hv with hv | hv
    · obtain ⟨m, hm, e⟩ := k9 v hv
      exact ⟨m, hm, by rw [t3, if_neg (zl_ne hwR hv)]; exact e⟩
    · have : v = w := by simpa using hv
      subst this
      exact ⟨n, hn, by rw [t3, if_pos rfl]⟩
  · intro v hv hvR
    rw [t3, if_neg (fun (e : v = w) => hvR (e ▸ List.mem_append_right _ List.mem_cons_self))]
    exact k10 v hv (fun e => hvR (List.mem_append_left _ e))
  · intro m hm
    obtain ⟨v, hv, e1, e2⟩ := k11 m hm
    refine ⟨v, List.mem_append_left _ hv, ?_, ?_⟩
    · rw [t3, if_neg (zl_ne hwR hv)]; exact e1
    · rw [e12]; exact e2
set_option maxRecDepth 100000 in
/-- addTab(leaf, window, w, h), the leaf there -/
theorem ze_Tree_addTab (D : Nat) (h : zt_at T) (hI : zt_I μ T R t) {n w : Nat} (hn : n ∈ zy_lvs t) (hw : w < 10) (hwR : w ∉ R) (x y : Int32) :
    ∃ μ', ze_E (D + 4) A_Tree_addTab [.ref (T + 1), .int (nI n), .int (nI w), .int x, .int y] (zm_mk μ) none (zm_mk μ') ∧ zt_C μ' T (R ++ [w]) t ∧ zt_frT T μ μ' ∧
      (∀ v, μ' (T + 3) v = if v = w then nI n else μ (T + 3) v) ∧ (∀ v, μ' (T + 5) v = if v = w then x else μ (T + 5) v) ∧ (∀ v, μ' (T + 6) v = if v = w then y else μ (T + 6) v) ∧ μ' (T + 7) = μ (T + 7) ∧ μ' (T + 8) = μ (T + 8) ∧ μ' (T + 12) = μ (T + 12) := by
  have hnid := (zt_I_lv hI hn).2
  have hRl := zt_R_len hI hw hwR
  have hn19 := hI.2.1.2.2.1 n hnid
  obtain ⟨ν, ⟨N3, E3⟩, hν, fν⟩ := ze_Tree_enter (μ := μ) (D + 1) h hI.1.1 hRl hw (nI n) x y
  have fν' : ∀ q, q ≠ T + 1 → q ≠ T + 2 → ν q = μ q := fun q h1 h2 => funext fun b => fν q b h1 h2
  let θ := zm_up (zm_up (zm_up ν (T + 3) w (nI n)) (T + 5) w x) (T + 6) w y
  have rθ : ∀ q, q ≠ T + 3 → q ≠ T + 5 → q ≠ T + 6 → θ q = ν q := fun q h3 h5 h6 => by
    show zm_up _ _ _ _ _ = _
    rw [zm_up_row h6, zm_up_row h5, zm_up_row h3]
  have u9 : ∀ q, q ≠ T + 1 → q ≠ T + 2 → q ≠ T + 3 → q ≠ T + 5 → q ≠ T + 6 → θ q = μ q := fun q h1 h2 h3 h5 h6 => (rθ q h3 h5 h6).trans (fν' q h1 h2)
  have t3 : ∀ v, θ (T + 3) v = if v = w then nI n else μ (T + 3) v := fun v => by
    show zm_up _ _ _ _ _ _ = _
    rw [zm_up_ne (by omega), zm_up_ne (by omega), zm_up_pt, fν' _ (by omega) (by omega)]
  have t5 : ∀ v, θ (T + 5) v = if v = w then x else μ (T + 5) v := fun v => by
    show zm_up _ _ _ _ _ _ = _
    rw [zm_up_ne (by omega), zm_up_pt, zm_up_ne (by omega), fν' _ (by omega) (by omega)]
  have t6 : ∀ v, θ (T + 6) v = if v = w then y else μ (T + 6) v := fun v => by
    show zm_up _ _ _ _ _ _ = _
    rw [zm_up_pt, zm_up_ne (by omega), zm_up_ne (by omega), fν' _ (by omega) (by omega)]
  have hIθ : zt_I θ T (R ++ [w]) t := zt_I_add hI hn hw hwR (zr_L_congr (rθ _ (by omega) (by omega) (by omega)) (rθ _ (by omega) (by omega) (by omega)) hν) t3 (u9 _ (by omega) (by omega) (by omega) (by omega) (by omega)) (u9 _ (by omega) (by omega) (by omega) (by omega) (by omega)) (u9 _ (by omega) (by omega) (by omega) (by omega) (by omega)) (u9 _ (by omega) (by omega) (by omega) (by omega) (by omega)) (u9 _ (by omega) (by omega) (by omega) (by omega) (by omega)) (by rw [u9 _ (by omega) (by omega) (by omega) (by omega) (by omega)])
  obtain ⟨μ', ⟨N4, E4⟩, C, sm, fT⟩ := ze_Tree_settleI (μ := θ) D h hIθ
  obtain ⟨-, -, s3, s5, s6, s7, s8, -, -, -, s12, -⟩ := sm
  refine ⟨μ', ?_, C, fun q hq => ?_, fun v => ?_, fun v => ?_, fun v => ?_, ?_, ?_, ?_⟩
  · obtain ⟨l1, c1⟩ := zt_c (μ := μ) h
    obtain ⟨l5, c5⟩ := zt_c (μ := θ) h
    have cn : (0 : Int32) ≤ nI n := Int32.not_lt.mp (nI_pos (by omega))
    have mθ : zm_up (zm_up (zm_up ν (T + 3) w (nI n)) (T + 5) w x) (T + 6) w y = θ := rfl
    rw [mθ] at E3
    refine ze_in [(0, .ref (T + 1)), (1, .int (nI n)), (2, .int (nI w)), (3, .int x), (4, .int y)] zq_Tree_addTab (Nat.le_of_ble_eq_true rfl) rfl ⟨N3 + N4, 13, fun F m hF => ?_⟩
    simp [zg_0, zg_aload_n, zg_getfield, zg_iastore, zg_iconst, zg_ifCond, zg_iload, zg_iload_n, zg_invokevirtual, zg_istore, zg_putfield, zg_return, zf_X3_addTab, zi_ld, zi_lda, zi_cmp, zi_retOk, zi_isI, zi_f3, zi_cr, zi_ci, zi_cn, zi_get, zi_set, zt_g h, zq_Tree_enter, zq_Tree_settle, c1, c5, cn, E3 F (by omega), E4 F (by omega)]
  · rw [fT q hq]
    unfold zt_out at hq
    exact u9 q (by omega) (by omega) (by omega) (by omega) (by omega)
  · rw [s3]; exact t3 v
  · rw [s5]; exact t5 v
  · rw [s6]; exact t6 v
  · rw [s7]; exact u9 _ (by omega) (by omega) (by omega) (by omega) (by omega)
  · rw [s8]; exact u9 _ (by omega) (by omega) (by omega) (by omega) (by omega)
  · rw [s12]; exact u9 _ (by omega) (by omega) (by omega) (by omega) (by omega)
set_option maxRecDepth 100000 in
/-- addTab to a tree that is empty -/
theorem ze_Tree_addTab_0 (D : Nat) (h : zt_at T) (hI : zt_I μ T [] .nil) {w : Nat} (hw : w < 10) {z : Int32} (hz : z < 0) (x y : Int32) :
    ∃ μ' n, ze_E (D + 4) A_Tree_addTab [.ref (T + 1), .int z, .int (nI w), .int x, .int y] (zm_mk μ) none (zm_mk μ') ∧ zt_C μ' T [w] (.tag n .nil) ∧ zt_frT T μ μ' ∧ n < 19 ∧
      (∀ v, μ' (T + 3) v = if v = w then nI n else μ (T + 3) v) ∧ (∀ v, μ' (T + 5) v = if v = w then x else μ (T + 5) v) ∧ (∀ v, μ' (T + 6) v = if v = w then y else μ (T + 6) v) ∧ (∀ i, μ' (T + 7) i = if i = n then 2 else μ (T + 7) i) ∧ μ' (T + 8) = μ (T + 8) ∧ (∀ i, μ' (T + 12) i = if i = n then nI w else μ (T + 12) i) := by
  obtain ⟨⟨k1, k2, k3⟩, k4, k8, k9, k10, k11⟩ := id hI
  obtain ⟨hn, -⟩ := zt_fr_free (μ := μ) (T := T) (l := []) k8 (fun n hn => by cases hn) (by decide)
  generalize en : zt_fr μ T 18 0 = n at hn
  let μ1 := zm_up μ (T + 7) n 2
  let μ4 := zm_up (zm_up (zm_up μ1 T 9 (nI n)) (T + 11) n (-1)) (T + 12) n (nI w)
  have r4 : ∀ q, q ≠ T → q ≠ T + 7 → q ≠ T + 11 → q ≠ T + 12 → μ4 q = μ q := fun q h0 h7 h11 h12 => by
    show zm_up _ _ _ _ _ = _
    rw [zm_up_row h12, zm_up_row h11, zm_up_row h0]
    exact zm_up_row h7
  have L4 : zr_L μ4 (T + 1) [] := zr_L_congr (r4 _ (by omega) (by omega) (by omega) (by omega)) (r4 _ (by omega) (by omega) (by omega) (by omega)) k1
  obtain ⟨ν, ⟨N3, E3⟩, hν, fν⟩ := ze_Tree_enter (μ := μ4) (D + 1) h L4 (by decide) hw (nI n) x y
  have fν' : ∀ q, q ≠ T + 1 → q ≠ T + 2 → ν q = μ4 q := fun q h1 h2 => funext fun b => fν q b h1 h2
  let θ := zm_up (zm_up (zm_up ν (T + 3) w (nI n)) (T + 5) w x) (T + 6) w y
  have rθ : ∀ q, q ≠ T + 3 → q ≠ T + 5 → q ≠ T + 6 → θ q = ν q := fun q h3 h5 h6 => by
    show zm_up _ _ _ _ _ = _
    rw [zm_up_row h6, zm_up_row h5, zm_up_row h3]
  have u9 : ∀ q, q ≠ T + 1 → q ≠ T + 2 → q ≠ T + 3 → q ≠ T + 5 → q ≠ T + 6 → θ q = μ4 q := fun q h1 h2 h3 h5 h6 => (rθ q h3 h5 h6).trans (fν' q h1 h2)
  have t3 : ∀ v, θ (T + 3) v = if v = w then nI n else μ (T + 3) v := fun v => by
    show zm_up _ _ _ _ _ _ = _
    rw [zm_up_ne (by omega), zm_up_ne (by omega), zm_up_pt, fν' _ (by omega) (by omega), r4 _ (by omega) (by omega) (by omega) (by omega)]
  have t5 : ∀ v, θ (T + 5) v = if v = w then x else μ (T + 5) v := fun v => by
    show zm_up _ _ _ _ _ _ = _
    rw [zm_up_ne (by omega), zm_up_pt, zm_up_ne (by omega), fν' _ (by omega) (by omega), r4 _ (by omega) (by omega) (by omega) (by omega)]
  have t6 : ∀ v, θ (T + 6) v = if v = w then y else μ (T + 6) v := fun v => by
    show zm_up _ _ _ _ _ _ = _
    rw [zm_up_pt, zm_up_ne (by omega), zm_up_ne (by omega), fν' _ (by omega) (by omega), r4 _ (by omega) (by omega) (by omega) (by omega)]
  have t7 : ∀ i, θ (T + 7) i = if i = n then 2 else μ (T + 7) i := fun i => by
    rw [u9 _ (by omega) (by omega) (by omega) (by omega) (by omega)]
    show zm_up _ _ _ _ _ _ = _
    rw [zm_up_ne (by omega), zm_up_ne (by omega), zm_up_ne (by omega)]
    exact zm_up_pt
  have t8 : θ (T + 8) = μ (T + 8) := by
    rw [u9 _ (by omega) (by omega) (by omega) (by omega) (by omega), r4 _ (by omega) (by omega) (by omega) (by omega)]
  have t11 : θ (T + 11) n = -1 := by
    rw [u9 _ (by omega) (by omega) (by omega) (by omega) (by omega)]
    show zm_up _ _ _ _ _ _ = _
    rw [zm_up_ne (by omega), zm_up_eq]
  have t12 : ∀ i, θ (T + 12) i = if i = n then nI w else μ (T + 12) i := fun i => by
    rw [u9 _ (by omega) (by omega) (by omega) (by omega) (by omega)]
    show zm_up _ _ _ _ _ _ = _
    rw [zm_up_pt, zm_up_ne (by omega), zm_up_ne (by omega)]
    have : μ1 (T + 12) i = μ (T + 12) i := zm_up_ne (by omega)
    rw [this]
  have t0 : θ T 9 = nI n := by
    rw [u9 _ (by omega) (by omega) (by omega) (by omega) (by omega)]
    show zm_up _ _ _ _ _ _ = _
    rw [zm_up_ne (by omega), zm_up_ne (by omega), zm_up_eq]
  have hIθ : zt_I θ T [w] (.tag n .nil) := by
    refine ⟨⟨zr_L_congr (rθ _ (by omega) (by omega) (by omega)) (rθ _ (by omega) (by omega) (by omega)) hν, List.nodup_cons.mpr ⟨List.not_mem_nil, List.nodup_nil⟩, fun v hv => ?_⟩, ⟨Or.inr ⟨trivial, ?_, t0⟩, List.nodup_cons.mpr ⟨List.not_mem_nil, List.nodup_nil⟩, fun v hv => ?_, Or.inr t11⟩, fun i hi hin => ?_, fun v hv => ?_, fun v hv hvR => ?_, fun m hm => ?_⟩
    · have : v = w := by simpa using hv
      omega
    · show θ (T + 7) n = 2
      rw [t7, if_pos rfl]
    · have : v = n := by simpa [zy_ids] using hv
      omega
    · rw [t7, if_neg (fun (e : i = n) => hin (e ▸ List.mem_cons_self))]
      exact k8 i hi List.not_mem_nil
    · have : v = w := by simpa using hv
      subst this
      exact ⟨n, List.mem_cons_self, by rw [t3, if_pos rfl]⟩
    · rw [t3, if_neg (fun (e : v = w) => hvR (e ▸ List.mem_cons_self))]
      exact k10 v hv List.not_mem_nil
    · have : m = n := by simpa [zy_lvs] using hm
      subst this
      exact ⟨w, List.mem_cons_self, by rw [t3, if_pos rfl], by rw [t12, if_pos rfl]⟩
  obtain ⟨μ', ⟨N4, E4⟩, C, sm, fT⟩ := ze_Tree_settleI (μ := θ) D h hIθ
  obtain ⟨-, -, s3, s5, s6, s7, s8, -, -, -, s12, -⟩ := sm
  refine ⟨μ', n, ?_, C, fun q hq => ?_, hn, fun v => ?_, fun v => ?_, fun v => ?_, fun v => ?_, ?_, fun v => ?_⟩
  · obtain ⟨N1, E1⟩ := ze_Tree_newNode (μ := μ) (D + 2) h 2
    rw [en] at E1
    obtain ⟨l1, c1⟩ := zt_c (μ := μ) h
    obtain ⟨l4, c4⟩ := zt_c (μ := μ4) h
    obtain ⟨l5, c5⟩ := zt_c (μ := θ) h
    have cz : ¬ (0 : Int32) ≤ z := Int32.not_le.mpr hz
    obtain ⟨-, -, a3, -, ⟨a7, a8, a9, a10, a11, a12, -, -⟩, -⟩ := id h
    have inn : zi_in (nI n) 19 = true := zm_in hn (by decide)
    have cn : (nI n).toNatClampNeg = n := nI_clamp (by omega)
    have m1 : zm_up μ (T + 7) n 2 = μ1 := rfl
    rw [m1] at E1
    have m4 : zm_up (zm_up (zm_up μ1 T 9 (nI n)) (T + 11) n (-1)) (T + 12) n (nI w) = μ4 := rfl
    have mθ : zm_up (zm_up (zm_up ν (T + 3) w (nI n)) (T + 5) w x) (T + 6) w y = θ := rfl
    rw [mθ] at E3
    refine ze_in [(0, .ref (T + 1)), (1, .int z), (2, .int (nI w)), (3, .int x), (4, .int y)] zq_Tree_addTab (Nat.le_of_ble_eq_true rfl) rfl ⟨N1 + N3 + N4, 30, fun F m hF => ?_⟩
    simp [zg_0, zg_aload_n, zg_getfield, zg_iastore, zg_iconst, zg_ifCond, zg_iload, zg_iload_n, zg_invokevirtual, zg_istore, zg_putfield, zg_return, zf_X3_addTab, zi_ld, zi_lda, zi_cmp, zi_retOk, zi_isI, zi_f3, zi_cr, zi_ci, zi_cn, zi_get, zi_set, zt_g h, zq_Tree_newNode, zq_Tree_enter, zq_Tree_settle, c1, c4, c5, cz, E1 F (by omega), E3 F (by omega), E4 F (by omega), zt_p9 h, zm_iast a11 inn, zm_iast a12 inn, cn, m4]
  · rw [fT q hq]
    unfold zt_out at hq
    rw [u9 q (by omega) (by omega) (by omega) (by omega) (by omega)]
    exact r4 q (by omega) (by omega) (by omega) (by omega)
  · rw [s3]; exact t3 v
  · rw [s5]; exact t5 v
  · rw [s6]; exact t6 v
  · rw [s7]; exact t7 v
  · rw [s8]; exact t8
  · rw [s12]; exact t12 v
end ZA1
