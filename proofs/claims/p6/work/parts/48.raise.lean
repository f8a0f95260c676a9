/-! the desk: raised windows; the focus -/
section ZR1
variable {μ : zm_M} {stk row : List Nat}
theorem zl_er_len {l : List Nat} (hd : l.Nodup) (hb : ∀ x ∈ l, x < 10) {k : Nat} (hk : k < 10) : (l.erase k).length < 10 := by
  have := zy_nodup_le 10 (k :: l.erase k) (List.nodup_cons.mpr ⟨fun h => ((zl_er_mem hd).mp h).1 rfl, hd.erase k⟩) (fun x hx => by
    rcases List.mem_cons.mp hx with rfl | hx
    · exact hk
    · exact hb x (List.mem_of_mem_erase hx))
  rw [List.length_cons] at this
  omega
set_option maxRecDepth 100000 in
theorem ze_dialogsOf (D : Nat) (hs : zr_L μ 5 stk) (hb : ∀ k ∈ stk, k < 10) (x : Int32) : ∃ d, d ≤ 10 ∧ ze_E (D + 2) A_Desk_dialogsOf [.ref 1, .int x] (zm_mk μ) (some (.int (nI d))) (zm_mk μ) := by
  have hl := hs.1
  have key : ∃ r h', ze_G (D + 1) 4 (some .int) zc_X5_dialogsOf 4 [(3, .int (nI 0)), (2, .int (nI 0)), (0, .ref 1), (1, .int x)] [] (zm_mk μ) r h' ∧ ((∃ d, d ≤ 10 ∧ r = some (.int (nI d))) ∧ zm_mk μ = h') := by
    refine ze_loop (Q := fun i L hp => i ≤ stk.length ∧ zi_nl L = true ∧ zi_get L 0 = some (.ref 1) ∧ zi_get L 1 = some (.int x) ∧ zi_get L 3 = some (.int (nI i)) ∧ zm_mk μ = hp ∧ ∃ (d : Nat), zi_get L 2 = some (.int (nI d)) ∧ (d ≤ i)) (R := fun r h' => (∃ d, d ≤ 10 ∧ r = some (.int (nI d))) ∧ zm_mk μ = h') stk.length ?_ ?_ stk.length 0 _ _ (by omega) ⟨by omega, rfl, rfl, rfl, rfl, rfl, 0, rfl, Nat.le_refl _⟩
    · rintro i L _ hi ⟨-, nl, g0, g1, g3, rfl, d, g2, hq⟩
      have hkm : stk.getD i 0 ∈ stk := zl_mem hi
      obtain ⟨N1, E1⟩ := ze_Row_sizeL (μ := μ) D zd5_at hs
      obtain ⟨N2, E2⟩ := ze_Row_getL (μ := μ) D zd5_at hs hi
      generalize stk.getD i 0 = k at hkm E2
      have hk := hb k hkm
      have c1 : ¬ nI stk.length ≤ nI i := nI_ge hi (by omega)
      have cr := zr_c (μ := μ) zd5_at
      by_cases c2 : μ (zdW k) 4 = x
      · left
        refine ⟨zi_set (zi_set L 2 (.int (nI (d + 1)))) 3 (.int (nI (i + 1))), zm_mk μ, ⟨N1 + N2, 22, fun F m hF => ?_⟩, by omega, ?_, ?_, ?_, zi_get_set_eq, rfl, d + 1, ?_, by omega⟩
        · simp (maxDischargeDepth := 9) [zg_0, zg_aaload, zg_aload_n, zg_getfield, zg_goto, zg_iadd, zg_iconst, zg_if_icmp, zg_iinc, zg_iload_n, zg_invokevirtual, zg_ireturn, zg_istore_n, zf_X5_dialogsOf, zi_ld, zi_lda, zi_cmp, zi_retOk, zi_isI, zi_f3, zi_cr, zi_ci, zi_cn, zi_get_ne, zi_nl_i, zi_nl_r, zi_get_set_eq, nl, g0, g1, g3, g2, c1, zd_g, zq_Row_size, zq_Row_get, cr, E1 F (by omega), E2 F (by omega), zd_w hk, zw_g (zdW_at hk), c2, nI_1]
        · simp (maxDischargeDepth := 9) [zi_get_ne, zi_nl_i, zi_nl_r, zi_get_set_eq, nl]
        · simp (maxDischargeDepth := 9) [zi_get_ne, zi_nl_i, zi_nl_r, zi_get_set_eq, nl, g0]
        · simp (maxDischargeDepth := 9) [zi_get_ne, zi_nl_i, zi_nl_r, zi_get_set_eq, nl, g1]
        · simp (maxDischargeDepth := 9) [zi_get_ne, zi_nl_i, zi_nl_r, zi_get_set_eq, nl, g2]
      · left
        refine ⟨zi_set (zi_set L 2 (.int (nI d))) 3 (.int (nI (i + 1))), zm_mk μ, ⟨N1 + N2, 21, fun F m hF => ?_⟩, by omega, ?_, ?_, ?_, zi_get_set_eq, rfl, d, ?_, by omega⟩
        · simp (maxDischargeDepth := 9) [zg_0, zg_aaload, zg_aload_n, zg_getfield, zg_goto, zg_iadd, zg_iconst, zg_if_icmp, zg_iinc, zg_iload_n, zg_invokevirtual, zg_ireturn, zg_istore_n, zf_X5_dialogsOf, zi_ld, zi_lda, zi_cmp, zi_retOk, zi_isI, zi_f3, zi_cr, zi_ci, zi_cn, zi_get_ne, zi_nl_i, zi_nl_r, zi_get_set_eq, nl, g0, g1, g3, g2, c1, zd_g, zq_Row_size, zq_Row_get, cr, E1 F (by omega), E2 F (by omega), zd_w hk, zw_g (zdW_at hk), c2, nI_1]
        · simp (maxDischargeDepth := 9) [zi_get_ne, zi_nl_i, zi_nl_r, zi_get_set_eq, nl]
        · simp (maxDischargeDepth := 9) [zi_get_ne, zi_nl_i, zi_nl_r, zi_get_set_eq, nl, g0]
        · simp (maxDischargeDepth := 9) [zi_get_ne, zi_nl_i, zi_nl_r, zi_get_set_eq, nl, g1]
        · simp (maxDischargeDepth := 9) [zi_get_ne, zi_nl_i, zi_nl_r, zi_get_set_eq, nl, g2]
    · rintro L _ ⟨-, nl, g0, g1, g3, rfl, d, g2, hq⟩
      obtain ⟨N1, E1⟩ := ze_Row_sizeL (μ := μ) D zd5_at hs
      have cr := zr_c (μ := μ) zd5_at
      refine ⟨some (.int (nI d)), zm_mk μ, ⟨N1, 7, fun F m hF => ?_⟩, ⟨d, by omega, rfl⟩, rfl⟩
      simp [zg_0, zg_aaload, zg_aload_n, zg_getfield, zg_goto, zg_iadd, zg_iconst, zg_if_icmp, zg_iinc, zg_iload_n, zg_invokevirtual, zg_ireturn, zg_istore_n, zf_X5_dialogsOf, zi_ld, zi_lda, zi_cmp, zi_retOk, zi_isI, zi_f3, zi_cr, zi_ci, zi_cn, g0, g2, g3, zd_g, zq_Row_size, cr, E1 F (by omega)]
  obtain ⟨r, h', G, ⟨d, hd, rfl⟩, rfl⟩ := key
  refine ⟨d, hd, ze_in [(0, .ref 1), (1, .int x)] zq_Desk_dialogsOf (Nat.le_of_ble_eq_true rfl) rfl (ze_S.end ⟨0, 4, fun F m hF => ?_⟩ G)⟩
  simp [zg_0, zg_aaload, zg_aload_n, zg_getfield, zg_goto, zg_iadd, zg_iconst, zg_if_icmp, zg_iinc, zg_iload_n, zg_invokevirtual, zg_ireturn, zg_istore_n, zf_X5_dialogsOf, zi_ld, zi_lda, zi_cmp, zi_retOk, zi_isI, zi_f3, zi_cr, zi_ci, zi_cn, zi_get, zi_set, nI_0]
set_option maxRecDepth 100000 in
theorem ze_lowestDialogOf (D : Nat) (hs : zr_L μ 5 stk) (hb : ∀ k ∈ stk, k < 10) (x : Int32) : ∃ v : Int32, (v = -1 ∨ ∃ k, k < 10 ∧ v = nI k) ∧ ze_E (D + 2) A_Desk_lowestDialogOf [.ref 1, .int x] (zm_mk μ) (some (.int v)) (zm_mk μ) := by
  have hl := hs.1
  have key : ∃ r h', ze_G (D + 1) 3 (some .int) zc_X5_lowestDialogOf 2 [(2, .int (nI 0)), (0, .ref 1), (1, .int x)] [] (zm_mk μ) r h' ∧ ((∃ v : Int32, (v = -1 ∨ ∃ k, k < 10 ∧ v = nI k) ∧ r = some (.int v)) ∧ zm_mk μ = h') := by
    refine ze_loop (Q := fun i L hp => i ≤ stk.length ∧ zi_nl L = true ∧ zi_get L 0 = some (.ref 1) ∧ zi_get L 1 = some (.int x) ∧ zi_get L 2 = some (.int (nI i)) ∧ zm_mk μ = hp ∧ (True)) (R := fun r h' => (∃ v : Int32, (v = -1 ∨ ∃ k, k < 10 ∧ v = nI k) ∧ r = some (.int v)) ∧ zm_mk μ = h') stk.length ?_ ?_ stk.length 0 _ _ (by omega) ⟨by omega, rfl, rfl, rfl, rfl, rfl, trivial⟩
    · rintro i L _ hi ⟨-, nl, g0, g1, g2, rfl, hq⟩
      have hkm : stk.getD i 0 ∈ stk := zl_mem hi
      obtain ⟨N1, E1⟩ := ze_Row_sizeL (μ := μ) D zd5_at hs
      obtain ⟨N2, E2⟩ := ze_Row_getL (μ := μ) D zd5_at hs hi
      generalize stk.getD i 0 = k at hkm E2
      have hk := hb k hkm
      have c1 : ¬ nI stk.length ≤ nI i := nI_ge hi (by omega)
      have cr := zr_c (μ := μ) zd5_at
      by_cases c2 : μ (zdW k) 4 = x
      · right
        refine ⟨some (.int (nI k)), zm_mk μ, ⟨N1 + N2, 20, fun F m hF => ?_⟩, ⟨nI k, Or.inr ⟨k, hk, rfl⟩, rfl⟩, rfl⟩
        simp (maxDischargeDepth := 9) [zg_0, zg_aaload, zg_aload_n, zg_getfield, zg_goto, zg_iconst, zg_if_icmp, zg_iinc, zg_iload_n, zg_invokevirtual, zg_ireturn, zg_istore_n, zf_X5_lowestDialogOf, zi_ld, zi_lda, zi_cmp, zi_retOk, zi_isI, zi_f3, zi_cr, zi_ci, zi_cn, zi_get_ne, zi_nl_i, zi_nl_r, zi_get_set_eq, nl, g0, g1, g2, c1, zd_g, zq_Row_size, zq_Row_get, cr, E1 F (by omega), E2 F (by omega), zd_w hk, zw_g (zdW_at hk), c2, nI_1]
      · left
        refine ⟨zi_set L 2 (.int (nI (i + 1))), zm_mk μ, ⟨N1 + N2, 17, fun F m hF => ?_⟩, by omega, ?_, ?_, ?_, zi_get_set_eq, rfl, trivial⟩
        · simp (maxDischargeDepth := 9) [zg_0, zg_aaload, zg_aload_n, zg_getfield, zg_goto, zg_iconst, zg_if_icmp, zg_iinc, zg_iload_n, zg_invokevirtual, zg_ireturn, zg_istore_n, zf_X5_lowestDialogOf, zi_ld, zi_lda, zi_cmp, zi_retOk, zi_isI, zi_f3, zi_cr, zi_ci, zi_cn, zi_get_ne, zi_nl_i, zi_nl_r, zi_get_set_eq, nl, g0, g1, g2, c1, zd_g, zq_Row_size, zq_Row_get, cr, E1 F (by omega), E2 F (by omega), zd_w hk, zw_g (zdW_at hk), c2, nI_1]
        · simp (maxDischargeDepth := 9) [zi_get_ne, zi_nl_i, zi_nl_r, zi_get_set_eq, nl]
        · simp (maxDischargeDepth := 9) [zi_get_ne, zi_nl_i, zi_nl_r, zi_get_set_eq, nl, g0]
        · simp (maxDischargeDepth := 9) [zi_get_ne, zi_nl_i, zi_nl_r, zi_get_set_eq, nl, g1]
    · rintro L _ ⟨-, nl, g0, g1, g2, rfl, hq⟩
      obtain ⟨N1, E1⟩ := ze_Row_sizeL (μ := μ) D zd5_at hs
      have cr := zr_c (μ := μ) zd5_at
      refine ⟨some (.int (-1)), zm_mk μ, ⟨N1, 7, fun F m hF => ?_⟩, ⟨-1, Or.inl rfl, rfl⟩, rfl⟩
      simp [zg_0, zg_aaload, zg_aload_n, zg_getfield, zg_goto, zg_iconst, zg_if_icmp, zg_iinc, zg_iload_n, zg_invokevirtual, zg_ireturn, zg_istore_n, zf_X5_lowestDialogOf, zi_ld, zi_lda, zi_cmp, zi_retOk, zi_isI, zi_f3, zi_cr, zi_ci, zi_cn, g0, g2, zd_g, zq_Row_size, cr, E1 F (by omega)]
  obtain ⟨r, h', G, ⟨v, hv, rfl⟩, rfl⟩ := key
  refine ⟨v, hv, ze_in [(0, .ref 1), (1, .int x)] zq_Desk_lowestDialogOf (Nat.le_of_ble_eq_true rfl) rfl (ze_S.end ⟨0, 2, fun F m hF => ?_⟩ G)⟩
  simp [zg_0, zg_aaload, zg_aload_n, zg_getfield, zg_goto, zg_iconst, zg_if_icmp, zg_iinc, zg_iload_n, zg_invokevirtual, zg_ireturn, zg_istore_n, zf_X5_lowestDialogOf, zi_ld, zi_lda, zi_cmp, zi_retOk, zi_isI, zi_f3, zi_cr, zi_ci, zi_cn, zi_get, zi_set, nI_0]
/-- a stack of windows, each once; none but those and floating ones come to it -/
def zd_stk (μ ν : zm_M) (stk stk' : List Nat) : Prop := zr_L ν 5 stk' ∧ stk'.Nodup ∧ (∀ k ∈ stk', k ∈ stk ∨ (k < 10 ∧ zd_flo μ k = true)) ∧ ∀ c, c ≠ 5 → c ≠ 6 → ν c = μ c
theorem zd_stk.trans {ν ξ : zm_M} {s1 s2 s3 : List Nat} (h : zd_stk μ ν s1 s2) (g : zd_stk ν ξ s2 s3) : zd_stk μ ξ s1 s3 := by
  obtain ⟨h1, h2, h3, h4⟩ := h
  obtain ⟨g1, g2, g3, g4⟩ := g
  refine ⟨g1, g2, fun k hk => ?_, fun c q1 q2 => (g4 c q1 q2).trans (h4 c q1 q2)⟩
  rcases g3 k hk with q | q
  · exact h3 k q
  · refine Or.inr ⟨q.1, ?_⟩
    have := q.2
    unfold zd_flo at *
    rw [h4 (zdW k) (by unfold zdW; omega) (by unfold zdW; omega)] at this
    exact this
theorem zd_stk_b {ν : zm_M} {s1 s2 : List Nat} (h : zd_stk μ ν s1 s2) (hb : ∀ k ∈ s1, k < 10) : ∀ k ∈ s2, k < 10 := fun k hk => (h.2.2.1 k hk).elim (hb k) (fun q => q.1)
set_option maxRecDepth 100000 in
theorem ze_raise (D : Nat) : ∀ (m d : Nat), d + m = 10 → ∀ (μ : zm_M) (stk : List Nat) (x : Int32), zr_L μ 5 stk → stk.Nodup → (∀ k ∈ stk, k < 10) → (x = -1 ∨ ∃ k, k < 10 ∧ x = nI k) →
    ∃ ν stk', ze_E (D + 4 + m) A_Desk_raise [.ref 1, .int x, .int (nI d)] (zm_mk μ) none (zm_mk ν) ∧ zd_stk μ ν stk stk' := by
  have h10 : (Int8.ofInt 10).toInt32 = (10 : Int32) := by decide
  intro m
  induction m with
  | zero =>
    intro d hd μ stk x hs hn hb hx
    have : d = 10 := by omega
    subst this
    refine ⟨μ, stk, ze_in [(0, .ref 1), (1, .int x), (2, .int (nI 10))] zq_Desk_raise (Nat.le_of_ble_eq_true rfl) rfl ⟨0, 4, fun F n hF => ?_⟩, hs, hn, fun k hk => Or.inl hk, fun _ _ _ => rfl⟩
    have c1 : (10 : Int32) ≤ nI 10 := by decide
    simp [zg_0, zg_aaload, zg_aload_n, zg_bipush, zg_getfield, zg_goto, zg_iadd, zg_iconst, zg_ifCond, zg_if_icmp, zg_iinc, zg_iload, zg_iload_n, zg_invokevirtual, zg_istore, zg_istore_n, zg_return, zf_X5_raise, zi_ld, zi_lda, zi_cmp, zi_retOk, zi_isI, zi_f3, zi_cr, zi_ci, zi_cn, zi_get, zi_set, h10, c1]
  | succ m ih =>
    intro d hd μ stk x hs hn hb hx
    have c1 : ¬ (10 : Int32) ≤ nI d := nI_ge (b := 10) (by omega) (by decide)
    have hno : ze_E (D + 3 + m + 1) A_Desk_isWindow [.ref 1, .int x] (zm_mk μ) (some (.int 0)) (zm_mk μ) → ∃ ν stk', ze_E (D + 4 + (m + 1)) A_Desk_raise [.ref 1, .int x, .int (nI d)] (zm_mk μ) none (zm_mk ν) ∧ zd_stk μ ν stk stk' := by
      rintro ⟨N1, E1⟩
      refine ⟨μ, stk, ze_in [(0, .ref 1), (1, .int x), (2, .int (nI d))] zq_Desk_raise (Nat.le_of_ble_eq_true rfl) rfl ⟨N1, 8, fun F n hF => ?_⟩, hs, hn, fun k hk => Or.inl hk, fun _ _ _ => rfl⟩
      have E1 := E1 F (by omega)
      rw [show D + 3 + m + 1 = D + 4 + m by omega] at E1
      simp [zg_0, zg_aaload, zg_aload_n, zg_bipush, zg_getfield, zg_goto, zg_iadd, zg_iconst, zg_ifCond, zg_if_icmp, zg_iinc, zg_iload, zg_iload_n, zg_invokevirtual, zg_istore, zg_istore_n, zg_return, zf_X5_raise, zi_ld, zi_lda, zi_cmp, zi_retOk, zi_isI, zi_f3, zi_cr, zi_ci, zi_cn, zi_get, zi_set, h10, c1, zq_Desk_isWindow, zd_c, E1]
    rcases hx with rfl | ⟨k, hk, rfl⟩
    · exact hno (ze_isWindow_out (D + 3 + m) (Or.inl (by decide)))
    · have E1 := ze_thW (μ := μ) (D + 3 + m) hk
      by_cases c2 : zd_th μ k = true
      · rw [if_pos c2] at E1
        rw [show D + 3 + m + 1 = D + 4 + m by omega] at E1
        obtain ⟨N1, E1⟩ := E1
        -- the window itself
        have first : ∃ ν stk', zd_stk μ ν stk stk' ∧ ze_S (D + 4 + m) 5 none zc_X5_raise 0 [(0, .ref 1), (1, .int (nI k)), (2, .int (nI d))] [] (zm_mk μ) 35 [(0, .ref 1), (1, .int (nI k)), (2, .int (nI d))] [] (zm_mk ν) := by
          have E2 := ze_floW (μ := μ) (D + 3 + m) hk
          rw [show D + 3 + m + 1 = D + 4 + m by omega] at E2
          obtain ⟨N2, E2⟩ := E2
          have cw := zw_c (μ := μ) (zdW_at hk)
          by_cases c3 : zd_flo μ k = true
          · rw [if_pos c3] at E2
            obtain ⟨ν, E3, l3, f3⟩ := ze_Row_putLast (μ := μ) (D + 1 + m) zd5_at hs hb hk (zl_er_len hn hb hk)
            rw [show D + 1 + m + 3 = D + 4 + m by omega] at E3
            obtain ⟨N3, E3⟩ := E3
            refine ⟨ν, stk.erase k ++ [k], ⟨l3, ?_, fun j hj => ?_, fun c q1 q2 => funext fun b => f3 c b q1 q2⟩, ⟨N1 + N2 + N3, 17, fun F n hF => ?_⟩⟩
            · exact (zl_app1 (R := stk.erase k) (hn.erase k) (fun h => ((zl_er_mem hn).mp h).1 rfl) (fun w hw => hb w (List.mem_of_mem_erase hw)) hk).1
            · rcases List.mem_append.mp hj with hj | hj
              · exact Or.inl (List.mem_of_mem_erase hj)
              · have : j = k := by simpa using hj
                subst this
                exact Or.inr ⟨hk, c3⟩
            · have cr := zr_c (μ := μ) zd5_at
              simp [zg_0, zg_aaload, zg_aload_n, zg_bipush, zg_getfield, zg_goto, zg_iadd, zg_iconst, zg_ifCond, zg_if_icmp, zg_iinc, zg_iload, zg_iload_n, zg_invokevirtual, zg_istore, zg_istore_n, zg_return, zf_X5_raise, zi_ld, zi_lda, zi_cmp, zi_retOk, zi_isI, zi_f3, zi_cr, zi_ci, zi_cn, zi_get, zi_set, h10, c1, zq_Desk_isWindow, zd_c, E1 F (by omega), zd_g, zd_w hk, zq_Win_isFloating, cw, E2 F (by omega), zq_Row_putLast, cr, E3 F (by omega)]
          · rw [if_neg c3] at E2
            refine ⟨μ, stk, ⟨hs, hn, fun j hj => Or.inl hj, fun _ _ _ => rfl⟩, ⟨N1 + N2, 13, fun F n hF => ?_⟩⟩
            simp [zg_0, zg_aaload, zg_aload_n, zg_bipush, zg_getfield, zg_goto, zg_iadd, zg_iconst, zg_ifCond, zg_if_icmp, zg_iinc, zg_iload, zg_iload_n, zg_invokevirtual, zg_istore, zg_istore_n, zg_return, zf_X5_raise, zi_ld, zi_lda, zi_cmp, zi_retOk, zi_isI, zi_f3, zi_cr, zi_ci, zi_cn, zi_get, zi_set, h10, c1, zq_Desk_isWindow, zd_c, E1 F (by omega), zd_g, zd_w hk, zq_Win_isFloating, cw, E2 F (by omega)]
        obtain ⟨ν0, stk0, hZ0, S0⟩ := first
        have hb0 := zd_stk_b hZ0 hb
        obtain ⟨dd, hdd, E4⟩ := ze_dialogsOf (μ := ν0) (D + 2 + m) hZ0.1 hb0 (nI k)
        rw [show D + 2 + m + 2 = D + 4 + m by omega] at E4
        obtain ⟨N4, E4⟩ := E4
        have key : ∃ r h', ze_G (D + 4 + m) 5 none zc_X5_raise 44 [(4, .int (nI 0)), (3, .int (nI dd)), (0, .ref 1), (1, .int (nI k)), (2, .int (nI d))] [] (zm_mk ν0) r h' ∧ (r = none ∧ ∃ ν, zm_mk ν = h' ∧ ∃ stk', zd_stk μ ν stk stk') := by
          refine ze_loop (Q := fun i L hp => i ≤ dd ∧ zi_nl L = true ∧ zi_get L 0 = some (.ref 1) ∧ zi_get L 1 = some (.int (nI k)) ∧ zi_get L 2 = some (.int (nI d)) ∧ zi_get L 3 = some (.int (nI dd)) ∧ zi_get L 4 = some (.int (nI i)) ∧ ∃ ν : zm_M, zm_mk ν = hp ∧ (∃ stk', zd_stk μ ν stk stk') ∧ (True)) (R := fun r h' => r = none ∧ ∃ ν, zm_mk ν = h' ∧ ∃ stk', zd_stk μ ν stk stk') dd ?_ ?_ dd 0 _ _ (by omega) ⟨by omega, rfl, rfl, rfl, rfl, rfl, rfl, ν0, rfl, ⟨stk0, hZ0⟩, trivial⟩
          · rintro i L _ hi ⟨-, nl, g0, g1, g2, g3, g4, ν, rfl, hZ, hq⟩
            obtain ⟨stk1, hZ⟩ := hZ
            have hb1 := zd_stk_b hZ hb
            obtain ⟨v, hv, E5⟩ := ze_lowestDialogOf (μ := ν) (D + 2 + m) hZ.1 hb1 (nI k)
            rw [show D + 2 + m + 2 = D + 4 + m by omega] at E5
            obtain ⟨N5, E5⟩ := E5
            obtain ⟨ξ, stk2, ⟨N6, E6⟩, hY⟩ := ih (d + 1) (by omega) ν stk1 v hZ.1 hZ.2.1 hb1 hv
            have hX := hZ.trans hY
            have c3 : ¬ nI dd ≤ nI i := nI_ge hi (by omega)
            left
            refine ⟨zi_set L 4 (.int (nI (i + 1))), zm_mk ξ, ⟨N5 + N6, 13, fun F m hF => ?_⟩, by omega, ?_, ?_, ?_, ?_, ?_, zi_get_set_eq, ξ, rfl, ⟨stk2, hX⟩, trivial⟩
            · simp (maxDischargeDepth := 9) [zg_0, zg_aaload, zg_aload_n, zg_bipush, zg_getfield, zg_goto, zg_iadd, zg_iconst, zg_ifCond, zg_if_icmp, zg_iinc, zg_iload, zg_iload_n, zg_invokevirtual, zg_istore, zg_istore_n, zg_return, zf_X5_raise, zi_ld, zi_lda, zi_cmp, zi_retOk, zi_isI, zi_f3, zi_cr, zi_ci, zi_cn, zi_get_ne, zi_nl_i, zi_nl_r, zi_get_set_eq, nl, g0, g1, g2, g3, g4, c3, zq_Desk_lowestDialogOf, zq_Desk_raise, zd_c, E5 F (by omega), E6 F (by omega), nI_1]
            · simp (maxDischargeDepth := 9) [zi_get_ne, zi_nl_i, zi_nl_r, zi_get_set_eq, nl]
            · simp (maxDischargeDepth := 9) [zi_get_ne, zi_nl_i, zi_nl_r, zi_get_set_eq, nl, g0]
            · simp (maxDischargeDepth := 9) [zi_get_ne, zi_nl_i, zi_nl_r, zi_get_set_eq, nl, g1]
            · simp (maxDischargeDepth := 9) [zi_get_ne, zi_nl_i, zi_nl_r, zi_get_set_eq, nl, g2]
            · simp (maxDischargeDepth := 9) [zi_get_ne, zi_nl_i, zi_nl_r, zi_get_set_eq, nl, g3]
          · rintro L _ ⟨-, nl, g0, g1, g2, g3, g4, ν, rfl, hZ, hq⟩
            refine ⟨none, zm_mk ν, ⟨0, 4, fun F m hF => ?_⟩, rfl, ν, rfl, hZ⟩
            simp [zg_0, zg_aaload, zg_aload_n, zg_bipush, zg_getfield, zg_goto, zg_iadd, zg_iconst, zg_ifCond, zg_if_icmp, zg_iinc, zg_iload, zg_iload_n, zg_invokevirtual, zg_istore, zg_istore_n, zg_return, zf_X5_raise, zi_ld, zi_lda, zi_cmp, zi_retOk, zi_isI, zi_f3, zi_cr, zi_ci, zi_cn, g0, g3, g4]
        obtain ⟨r, h', G, rfl, ν, rfl, stk', hZ⟩ := key
        refine ⟨ν, stk', ze_in [(0, .ref 1), (1, .int (nI k)), (2, .int (nI d))] zq_Desk_raise (Nat.le_of_ble_eq_true rfl) rfl (S0.end (ze_S.end (p2 := 44) (L2 := [(4, .int (nI 0)), (3, .int (nI dd)), (0, .ref 1), (1, .int (nI k)), (2, .int (nI d))]) (s2 := []) (h2 := zm_mk ν0) ⟨N4, 6, fun F n hF => ?_⟩ G)), hZ⟩
        simp [zg_0, zg_aaload, zg_aload_n, zg_bipush, zg_getfield, zg_goto, zg_iadd, zg_iconst, zg_ifCond, zg_if_icmp, zg_iinc, zg_iload, zg_iload_n, zg_invokevirtual, zg_istore, zg_istore_n, zg_return, zf_X5_raise, zi_ld, zi_lda, zi_cmp, zi_retOk, zi_isI, zi_f3, zi_cr, zi_ci, zi_cn, zi_get, zi_set, zq_Desk_dialogsOf, zd_c, E4 F (by omega), nI_0]
      · rw [if_neg c2] at E1
        exact hno E1
end ZR1
