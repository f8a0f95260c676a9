/-! the desk: a window ends; one taken back; a drag tried -/
section ZE1
variable {μ : zm_M} {row stk : List Nat} {R : List Nat} {t : zy_F}
/-- the Tree at T is that at Q without the window k -/
def zt_isOut (μ : zm_M) (Q : Nat) (R : List Nat) (t : zy_F) (n k : Nat) (ν : zm_M) (T : Nat) : Prop :=
  zt_C ν T (R.erase k) (if (zt_tb μ Q R n).erase k = [] then zy_out n t else t) ∧ (∀ v, ν (T + 3) v = if v = k then -1 else μ (Q + 3) v) ∧ ν (T + 5) = μ (Q + 5) ∧ ν (T + 6) = μ (Q + 6) ∧ (∀ i ∈ zy_ids (if (zt_tb μ Q R n).erase k = [] then zy_out n t else t), ν (T + 7) i = μ (Q + 7) i) ∧ ν (T + 8) = μ (Q + 8) ∧ (∀ i, ν (T + 12) i = if i = n ∧ μ (Q + 12) n = nI k then zl_nx (zt_tb μ Q R n) k else μ (Q + 12) i)
theorem zt_tb_congr {ν : zm_M} {T Q n : Nat} (h : ν (T + 3) = μ (Q + 3)) : zt_tb ν T R n = zt_tb μ Q R n := by
  unfold zt_tb
  rw [h]
theorem ze_takeOutI (D : Nat) {T Q : Nat} (h : zt_at T) {ν : zm_M} (hI : zt_I ν T R t) (hc : zt_isCopy μ Q ν T) {n k : Nat} (hn : n ∈ zy_lvs t) (hkR : k ∈ R) (hkn : μ (Q + 3) k = nI n) :
    ∃ ξ, ze_E (D + 4) A_Tree_takeOut [.ref (T + 1), .int (nI k)] (zm_mk ν) none (zm_mk ξ) ∧ zt_isOut μ Q R t n k ξ T ∧ zt_frT T ν ξ := by
  obtain ⟨c3, c5, c6, c7, c8, c12⟩ := hc
  obtain ⟨ξ, E, C, f, t3, t5, t6, t7, t8, t12⟩ := ze_Tree_takeOut (μ := ν) D h hI hn hkR (by rw [c3]; exact hkn)
  refine ⟨ξ, E, ?_, f⟩
  have eb : zt_tb ν T R n = zt_tb μ Q R n := zt_tb_congr c3
  rw [eb] at C t7 t12
  rw [c3] at t3
  rw [c7] at t7
  rw [c12] at t12
  exact ⟨C, t3, t5.trans c5, t6.trans c6, t7, t8.trans c8, t12⟩
theorem zt_isCopy.refl {T : Nat} : zt_isCopy μ T μ T := ⟨rfl, rfl, rfl, rfl, rfl, rfl⟩
set_option maxRecDepth 100000 in
theorem ze_end (D : Nat) {k s n : Nat} (hk : k < 10) (hs : s < 3) (hrow : zr_L μ 3 row) (hrb : ∀ j ∈ row, j < 10) (hstk : zr_L μ 5 stk) (hsb : ∀ j ∈ stk, j < 10) (ht : zd_til μ k = true → μ (zdW k) 5 = nI s ∧ zt_I μ (zdT s) R t ∧ n ∈ zy_lvs t ∧ k ∈ R ∧ μ (zdT s + 3) k = nI n) :
    ∃ ν, ze_E (D + 5) A_Desk_end [.ref 1, .int (nI k)] (zm_mk μ) none (zm_mk ν) ∧ zr_L ν 3 (row.erase k) ∧ zr_L ν 5 (stk.erase k) ∧ (∀ q, q < 3 → ν (zdK q) 3 = if zd_has μ q k = true then 0 else μ (zdK q) 3) ∧ ν (zdW k) 2 = 0 ∧ (zd_til μ k = true → zt_isOut μ (zdT s) R t n k ν (zdT s)) ∧
      ∀ c b, c ≠ 3 → c ≠ 4 → c ≠ 5 → c ≠ 6 → (∀ q, q < 3 → c = zdK q → b ≠ 3) → ¬ (c = zdW k ∧ b = 2) → (zd_til μ k = true → zt_out (zdT s) c) → ν c b = μ c b := by
  obtain ⟨ν1, ⟨N1, E1⟩, k1, f1⟩ := ze_forgetKeptWith (μ := μ) (D + 1) hk
  have f1r : ∀ c, (∀ q, q < 3 → c ≠ zdK q) → ν1 c = μ c := fun c hc => funext fun b => f1 c b (fun q hq e => absurd e (hc q hq))
  have ew : ν1 (zdW k) = μ (zdW k) := f1r _ (fun q hq => by unfold zdW zdK; omega)
  have et : zd_til ν1 k = zd_til μ k := by unfold zd_til; rw [ew]
  obtain ⟨N2, E2⟩ := ze_tilW (μ := ν1) (D + 3) hk
  rw [et] at E2
  have cw := zw_c (μ := ν1) (zdW_at hk)
  -- the tree
  have tree : ∃ ν2, ze_S (D + 4) 2 none zc_X5_end 0 [(0, .ref 1), (1, .int (nI k))] [] (zm_mk μ) 26 [(0, .ref 1), (1, .int (nI k))] [] (zm_mk ν2) ∧ (zd_til μ k = true → zt_isOut μ (zdT s) R t n k ν2 (zdT s)) ∧ ∀ c, (zd_til μ k = true → zt_out (zdT s) c) → ν2 c = ν1 c := by
    by_cases c : zd_til μ k = true
    · rw [if_pos c] at E2
      obtain ⟨h1, h2, h3, h4, h5⟩ := ht c
      have r : ∀ j, j < 24 → ν1 (zdT s + j) = μ (zdT s + j) := fun j hj => f1r _ (fun q hq => by unfold zdT zdK; omega)
      have hI1 : zt_I ν1 (zdT s) R t := zt_same.I ⟨r _ (by omega), r _ (by omega), r _ (by omega), r _ (by omega), r _ (by omega), r _ (by omega), r _ (by omega), r _ (by omega), r _ (by omega), r _ (by omega), r _ (by omega), by rw [show ν1 (zdT s) = μ (zdT s) from r 0 (by omega)]⟩ h2
      obtain ⟨N3, E3⟩ := ze_treeOf (μ := ν1) (D + 3) hk hs (by rw [ew]; exact h1)
      obtain ⟨ν2, ⟨N4, E4⟩, O, f2⟩ := ze_takeOutI (μ := μ) (Q := zdT s) D (zdT_at hs) hI1 ⟨r _ (by omega), r _ (by omega), r _ (by omega), r _ (by omega), r _ (by omega), r _ (by omega)⟩ h3 h4 h5
      obtain ⟨lt, ct⟩ := zt_c (μ := ν1) (zdT_at hs)
      refine ⟨ν2, ⟨N1 + N2 + N3 + N4, 14, fun F m hF => ?_⟩, fun _ => O, fun c' hc => f2 c' (hc c)⟩
      simp [zg_0, zg_aaload, zg_aload_n, zg_getfield, zg_iconst, zg_ifCond, zg_iload_n, zg_invokevirtual, zg_putfield, zg_return, zf_X5_end, zi_ld, zi_lda, zi_cmp, zi_retOk, zi_isI, zi_f3, zi_cr, zi_ci, zi_cn, zi_get, zi_set, zq_Desk_forgetKeptWith, zd_c, E1 F (by omega), zd_g, zd_w hk, zq_Win_isTiled, cw, E2 F (by omega), zq_Desk_treeOf, E3 F (by omega), zq_Tree_takeOut, ct, E4 F (by omega)]
    · rw [if_neg c] at E2
      refine ⟨ν1, ⟨N1 + N2, 9, fun F m hF => ?_⟩, fun q => absurd q c, fun _ _ => rfl⟩
      simp [zg_0, zg_aaload, zg_aload_n, zg_getfield, zg_iconst, zg_ifCond, zg_iload_n, zg_invokevirtual, zg_putfield, zg_return, zf_X5_end, zi_ld, zi_lda, zi_cmp, zi_retOk, zi_isI, zi_f3, zi_cr, zi_ci, zi_cn, zi_get, zi_set, zq_Desk_forgetKeptWith, zd_c, E1 F (by omega), zd_g, zd_w hk, zq_Win_isTiled, cw, E2 F (by omega)]
  obtain ⟨ν2, S2, O2, f2⟩ := tree
  have g2 : ∀ c, c < 7 → ν2 c = μ c := fun c hc => (f2 c (fun _ => by unfold zt_out zdT; omega)).trans (f1r c (fun q hq => by unfold zdK; omega))
  obtain ⟨ν3, ⟨N5, E5⟩, l5, f5⟩ := ze_Row_takeOut (μ := ν2) (D + 2) zd3_at (zr_L_congr (g2 _ (by omega)) (g2 _ (by omega)) hrow) hrb hk
  have f5' : ∀ c, c ≠ 3 → c ≠ 4 → ν3 c = ν2 c := fun c h1 h2 => funext fun b => f5 c b h1 h2
  obtain ⟨ν4, ⟨N6, E6⟩, l6, f6⟩ := ze_Row_takeOut (μ := ν3) (D + 2) zd5_at (zr_L_congr (by rw [f5' _ (by omega) (by omega)]; exact g2 _ (by omega)) (by rw [f5' _ (by omega) (by omega)]; exact g2 _ (by omega)) hstk) hsb hk
  have f6' : ∀ c, c ≠ 5 → c ≠ 6 → ν4 c = ν3 c := fun c h1 h2 => funext fun b => f6 c b h1 h2
  have w4 : ∀ c, c ≠ zdW k → zm_up ν4 (zdW k) 2 0 c = ν4 c := fun c hc => zm_up_row hc
  have g4 : ∀ c, c ≠ 3 → c ≠ 4 → c ≠ 5 → c ≠ 6 → ν4 c = ν2 c := fun c a1 a2 a3 a4 => (f6' c a3 a4).trans (f5' c a1 a2)
  refine ⟨zm_up ν4 (zdW k) 2 0, ze_in [(0, .ref 1), (1, .int (nI k))] zq_Desk_end (Nat.le_of_ble_eq_true rfl) rfl (S2.end ⟨N5 + N6, 15, fun F m hF => ?_⟩), ?_, ?_, fun q hq => ?_, zm_up_eq, fun c => ?_, fun c b a1 a2 a3 a4 a5 a6 a7 => ?_⟩
  · have cr3 := zr_c (μ := ν2) zd3_at
    have cr5 := zr_c (μ := ν3) zd5_at
    simp [zg_0, zg_aaload, zg_aload_n, zg_getfield, zg_iconst, zg_ifCond, zg_iload_n, zg_invokevirtual, zg_putfield, zg_return, zf_X5_end, zi_ld, zi_lda, zi_cmp, zi_retOk, zi_isI, zi_f3, zi_cr, zi_ci, zi_cn, zi_get, zi_set, zd_g, zq_Row_takeOut, cr3, cr5, E5 F (by omega), E6 F (by omega), zd_w hk, zw_p2 (zdW_at hk) (Or.inl rfl)]
  · exact zr_L_congr (by rw [w4 _ (by unfold zdW; omega), f6' _ (by omega) (by omega)]) (by rw [w4 _ (by unfold zdW; omega), f6' _ (by omega) (by omega)]) l5
  · exact zr_L_congr (w4 _ (by unfold zdW; omega)) (w4 _ (by unfold zdW; omega)) l6
  · rw [w4 _ (by unfold zdK zdW; omega), g4 _ (by unfold zdK; omega) (by unfold zdK; omega) (by unfold zdK; omega) (by unfold zdK; omega), f2 _ (fun _ => by unfold zt_out zdK zdT; omega)]
    exact k1 q hq
  · obtain ⟨o1, o2, o3, o4, o5, o6, o7⟩ := O2 c
    have r : ∀ j, zm_up ν4 (zdW k) 2 0 (zdT s + j) = ν2 (zdT s + j) := fun j => by
      rw [w4 _ (by unfold zdT zdW; omega), g4 _ (by unfold zdT; omega) (by unfold zdT; omega) (by unfold zdT; omega) (by unfold zdT; omega)]
    refine ⟨zt_C_congr (fun c h1 h2 => ?_) o1, fun v => by rw [r]; exact o2 v, by rw [r]; exact o3, by rw [r]; exact o4, fun i hi => by rw [r]; exact o5 i hi, by rw [r]; exact o6, fun i => by rw [r]; exact o7 i⟩
    have := r (c - zdT s)
    rw [show zdT s + (c - zdT s) = c by omega] at this
    exact this
  · rw [zm_up_ne a6, g4 c a1 a2 a3 a4, f2 c a7]
    exact f1 c b a5
end ZE1
