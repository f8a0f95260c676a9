section
/-! the reference: neighbour, toward, move -/
/-- the window k is shown in the tree of the screen s -/
noncomputable def zv_shn (μ : zm_M) (us : Nat → zy_F) (s k : Nat) : Prop := μ 234 k = 1 ∧ μ 238 k = nI s ∧ ∃ m, zu_at μ s (us s) k m ∧ μ 250 (24 * s + m) = nI k
/-- the areas of the tree u, for the screen s -/
noncomputable def zv_laid (μ ξ : zm_M) (s : Nat) (u : zy_F) : Prop := zy_wf u → zy_laid (zu_P ξ) (zu_fm μ s) (fun n => μ 247 (24 * s + n)) (zu_lsz μ s 0) (zu_lsz μ s 1) u 0 0 (μ 232 s) (μ 233 s)
/-- in which leaf each tiled window is -/
noncomputable def zv_los (μ : zm_M) (us : Nat → zy_F) (lo : Nat → Nat) : Prop := ∀ s j, s < 3 → j < 10 → μ 234 j = 1 → μ 238 j = nI s → zu_at μ s (us s) j (lo j)
section ZWC
variable {μ ν : zm_M} {row stk : List Nat} {us : Nat → zy_F}
theorem zR_shn (D : Nat) (h : zR μ row stk us) {k : Nat} (hk : k < 10) : (ze_E (D + 4) A_Mod_isShown [.ref 232, .int (nI k)] (zm_mk μ) (some (.int 1)) (zm_mk μ) ∧ ∃ s, s < 3 ∧ zv_shn μ us s k) ∨ (ze_E (D + 4) A_Mod_isShown [.ref 232, .int (nI k)] (zm_mk μ) (some (.int 0)) (zm_mk μ) ∧ ∀ s, s < 3 → ¬ zv_shn μ us s k) := by
  rcases zR_shown D h hk with ⟨E, c1, q, m, hq, hh, hat, hs⟩ | ⟨E, hno⟩
  · exact Or.inl ⟨E, q, hq, c1, hh, m, hat, hs⟩
  · exact Or.inr ⟨E, fun s hs ⟨c1, hh, m, hat, e⟩ => hno ⟨c1, s, m, hs, hh, hat, e⟩⟩
/-- neighbourOf, as it comes out -/
theorem zR_nbr (D : Nat) (h : zR μ row stk us) {k s sd : Nat} (hk : k < 10) (hs : s < 3) (hsd : sd < 4) (c1 : μ 234 k = 1) (hh : μ 238 k = nI s) : ∃ ν lo, zv_los μ us lo ∧ zv_laid μ ν s (us s) ∧ zv_frY μ ν ∧
    ((zl_nb (zv_nf ν s k sd lo) (List.range 10) (-1) 0 = -1 ∧ ze_E (D + 28) A_Mod_neighbourOf [.ref 232, .int (nI k), .int (nI sd)] (zm_mk μ) (some (.int (-1))) (zm_mk ν)) ∨
     ∃ i, i < 10 ∧ μ 234 i = 1 ∧ zl_nb (zv_nf ν s k sd lo) (List.range 10) (-1) 0 = nI i ∧ ze_E (D + 28) A_Mod_neighbourOf [.ref 232, .int (nI k), .int (nI sd)] (zm_mk μ) (some (.int (nI i))) (zm_mk ν)) := by
  obtain ⟨lo, hlo⟩ := zR_lo h
  obtain ⟨ab, hI⟩ := (h.2.2.2.2.1 s hs).1
  obtain ⟨ν, E4, hl, f⟩ := ze_MneighbourOf (μ := μ) (lo := lo) D hk hs hsd hI c1 hh (fun j hj a b => hlo s j hs hj a b)
  refine ⟨ν, lo, hlo, hl, f, ?_⟩
  rcases zl_nb_or' (zv_nf ν s k sd lo) (-1) with e | ⟨i, hi, e, hp⟩
  · rw [e] at E4
    exact Or.inl ⟨e, E4⟩
  · rw [e] at E4
    refine Or.inr ⟨i, hi, ?_, e, E4⟩
    unfold zv_nf at hp
    by_cases c : (i ≠ k ∧ ν 234 i = 1 ∧ ν 238 i = nI s ∧ ν 250 (24 * s + lo i) = nI i) ∧ zv_me ν sd (lo k) (lo i) = true
    · rw [← f _ _ (by omega) (by omega)]
      exact c.1.2.1
    · rw [if_neg c] at hp
      exact absurd hp (by decide)
set_option maxRecDepth 100000 in
theorem ze_Mneighbour (D : Nat) (h : zR μ row stk us) (w x : Int32) : ∃ ν v, ze_E (D + 29) A_Mod_neighbour [.ref 232, .int w, .int x] (zm_mk μ) (some (.int v)) (zm_mk ν) ∧ zM_fr μ ν := by
  have n1 : Int32.ofInt (-1000000001) = -1000000001 := by decide
  have n2 : Int32.ofInt (-1000000002) = -1000000002 := by decide
  have n5 : Int32.ofInt (-1000000005) = -1000000005 := by decide
  obtain ⟨lc, cM⟩ := zM_c (μ := μ)
  rcases zR_win (D + 26) h w with ⟨k, hk, rfl, c0, N1, E1⟩ | ⟨⟨N1, E1⟩, c0⟩
  · rcases zM_isIn (hp := zm_mk μ) (D + 27) x (n := 3) (b := 3) (by decide) (by decide) with ⟨sd, hsd, rfl, N2, E2⟩ | ⟨⟨N2, E2⟩, -⟩
    · rcases zR_shn (D + 24) h hk with ⟨⟨N3, E3⟩, s, hs, c1, hh, -⟩ | ⟨⟨N3, E3⟩, -⟩
      · obtain ⟨ν, lo, -, -, f, ⟨-, N4, E4⟩ | ⟨i, hi, -, -, N4, E4⟩⟩ := zR_nbr D h hk hs hsd c1 hh
        · have m1 : ¬ (0 : Int32) ≤ -1 := by decide
          refine ⟨ν, -1000000005, ze_in [(0, .ref 232), (1, .int (nI k)), (2, .int (nI sd))] zq_Mod_neighbour (Nat.le_of_ble_eq_true rfl) rfl ⟨N1 + N2 + N3 + N4, 23, fun F n hF => ?_⟩, f.fr⟩
          simp [zg_0, zg_aload_n, zg_goto, zg_iconst, zg_ifCond, zg_iload_n, zg_invokestatic, zg_invokevirtual, zg_ireturn, zg_istore_n, zg_ldc, zg_ldc_w, zf_X6_neighbour, zi_ld, zi_lda, zi_cmp, zi_retOk, zi_isI, zi_f3, zi_cr, zi_ci, zi_cn, zi_get, zi_set, cM, zq_Mod_isWindow, zq_Mod_isIn, zq_Mod_isShown, zq_Mod_neighbourOf, E1 F (by omega), E2 F (by omega), E3 F (by omega), E4 F (by omega), m1, n5]
        · have m1 : (0 : Int32) ≤ nI i := Int32.not_lt.mp (nI_pos (by omega))
          refine ⟨ν, nI i, ze_in [(0, .ref 232), (1, .int (nI k)), (2, .int (nI sd))] zq_Mod_neighbour (Nat.le_of_ble_eq_true rfl) rfl ⟨N1 + N2 + N3 + N4, 22, fun F n hF => ?_⟩, f.fr⟩
          simp [zg_0, zg_aload_n, zg_goto, zg_iconst, zg_ifCond, zg_iload_n, zg_invokestatic, zg_invokevirtual, zg_ireturn, zg_istore_n, zg_ldc, zg_ldc_w, zf_X6_neighbour, zi_ld, zi_lda, zi_cmp, zi_retOk, zi_isI, zi_f3, zi_cr, zi_ci, zi_cn, zi_get, zi_set, cM, zq_Mod_isWindow, zq_Mod_isIn, zq_Mod_isShown, zq_Mod_neighbourOf, E1 F (by omega), E2 F (by omega), E3 F (by omega), E4 F (by omega), m1]
      · refine ⟨μ, -1000000002, ze_in [(0, .ref 232), (1, .int (nI k)), (2, .int (nI sd))] zq_Mod_neighbour (Nat.le_of_ble_eq_true rfl) rfl ⟨N1 + N2 + N3, 15, fun F n hF => ?_⟩, zM_fr.refl⟩
        simp [zg_0, zg_aload_n, zg_goto, zg_iconst, zg_ifCond, zg_iload_n, zg_invokestatic, zg_invokevirtual, zg_ireturn, zg_istore_n, zg_ldc, zg_ldc_w, zf_X6_neighbour, zi_ld, zi_lda, zi_cmp, zi_retOk, zi_isI, zi_f3, zi_cr, zi_ci, zi_cn, zi_get, zi_set, cM, zq_Mod_isWindow, zq_Mod_isIn, zq_Mod_isShown, E1 F (by omega), E2 F (by omega), E3 F (by omega), n2]
    · refine ⟨μ, -1000000001, ze_in [(0, .ref 232), (1, .int (nI k)), (2, .int x)] zq_Mod_neighbour (Nat.le_of_ble_eq_true rfl) rfl ⟨N1 + N2, 11, fun F n hF => ?_⟩, zM_fr.refl⟩
      simp [zg_0, zg_aload_n, zg_goto, zg_iconst, zg_ifCond, zg_iload_n, zg_invokestatic, zg_invokevirtual, zg_ireturn, zg_istore_n, zg_ldc, zg_ldc_w, zf_X6_neighbour, zi_ld, zi_lda, zi_cmp, zi_retOk, zi_isI, zi_f3, zi_cr, zi_ci, zi_cn, zi_get, zi_set, cM, zq_Mod_isWindow, zq_Mod_isIn, E1 F (by omega), E2 F (by omega), n1]
  · refine ⟨μ, -1000000001, ze_in [(0, .ref 232), (1, .int w), (2, .int x)] zq_Mod_neighbour (Nat.le_of_ble_eq_true rfl) rfl ⟨N1, 6, fun F n hF => ?_⟩, zM_fr.refl⟩
    simp [zg_0, zg_aload_n, zg_goto, zg_iconst, zg_ifCond, zg_iload_n, zg_invokestatic, zg_invokevirtual, zg_ireturn, zg_istore_n, zg_ldc, zg_ldc_w, zf_X6_neighbour, zi_ld, zi_lda, zi_cmp, zi_retOk, zi_isI, zi_f3, zi_cr, zi_ci, zi_cn, zi_get, zi_set, cM, zq_Mod_isWindow, E1 F (by omega), n1]
/-- toward: refused, or to the neighbour -/
noncomputable def zv_twd (μ ν : zm_M) (row stk : List Nat) (us : Nat → zy_F) (x : Int32) : Prop :=
  ((∀ sd, sd < 4 → x = nI sd → ∀ s, s < 3 → row ≠ [] → ¬ zv_shn μ us s (row.getD 0 0)) ∧ ν = μ) ∨
  ∃ sd s ξ lo, sd < 4 ∧ s < 3 ∧ x = nI sd ∧ row ≠ [] ∧ zv_shn μ us s (row.getD 0 0) ∧ zv_los μ us lo ∧ zv_laid μ ξ s (us s) ∧ zv_frY μ ξ ∧
    ((zl_nb (zv_nf ξ s (row.getD 0 0) sd lo) (List.range 10) (-1) 0 = -1 ∧ ν = ξ) ∨ ∃ i, i < 10 ∧ μ 234 i = 1 ∧ zl_nb (zv_nf ξ s (row.getD 0 0) sd lo) (List.range 10) (-1) 0 = nI i ∧ zv_foc ξ ν row stk us i)
set_option maxRecDepth 100000 in
theorem ze_Mtoward (D : Nat) (h : zR μ row stk us) (x : Int32) : ∃ ν v, ze_E (D + 29) A_Mod_toward [.ref 232, .int x] (zm_mk μ) (some (.int v)) (zm_mk ν) ∧ zv_twd μ ν row stk us x := by
  have n1 : Int32.ofInt (-1000000001) = -1000000001 := by decide
  have n2 : Int32.ofInt (-1000000002) = -1000000002 := by decide
  have n5 : Int32.ofInt (-1000000005) = -1000000005 := by decide
  obtain ⟨lc, cM⟩ := zM_c (μ := μ)
  have hL := h.2.1.1
  have l10 := hL.1
  have i0 : zi_in (0 : Int32) 10 = true := by decide
  have z0 : (0 : Int32).toNatClampNeg = 0 := by decide
  rcases zM_isIn (hp := zm_mk μ) (D + 27) x (n := 3) (b := 3) (by decide) (by decide) with ⟨sd, hsd, rfl, N2, E2⟩ | ⟨⟨N2, E2⟩, hno⟩
  · by_cases c : row = []
    · have e0 : μ 231 12 = 0 := by rw [hL.2.1, c]; rfl
      refine ⟨μ, -1000000002, ze_in [(0, .ref 232), (1, .int (nI sd))] zq_Mod_toward (Nat.le_of_ble_eq_true rfl) rfl ⟨N2, 10, fun F n hF => ?_⟩, Or.inl ⟨fun _ _ _ _ _ hne => absurd c hne, rfl⟩⟩
      simp [zg_0, zg_aload_n, zg_getfield, zg_iaload, zg_iconst, zg_ifCond, zg_iload_n, zg_invokestatic, zg_invokevirtual, zg_ireturn, zg_istore_n, zg_ldc, zg_ldc_w, zf_X6_toward, zi_ld, zi_lda, zi_cmp, zi_retOk, zi_isI, zi_f3, zi_cr, zi_ci, zi_cn, zi_get, zi_set, zM_g, zq_Mod_isIn, E2 F (by omega), e0, n2]
    · have hpos := List.length_pos_iff.mpr c
      have hm : row.getD 0 0 ∈ row := zl_mem hpos
      obtain ⟨hk, ht⟩ := (h.2.1.2.2 _).mp hm
      have e1 : μ 242 0 = nI (row.getD 0 0) := hL.2.2 0 hpos
      have e0 : ¬ μ 231 12 = 0 := by
        rw [hL.2.1]
        intro e
        have := (nI_eq (a := row.length) (b := 0) (by omega) (by decide)).mp e
        omega
      unfold zv_twd
      generalize row.getD 0 0 = k at hm hk ht e1 ⊢
      rcases zR_shn (D + 24) h hk with ⟨⟨N3, E3⟩, s, hs, hsh⟩ | ⟨⟨N3, E3⟩, hns⟩
      · obtain ⟨ξ, lo, q1, q2, f, ⟨q3, N4, E4⟩ | ⟨i, hi, q4, q5, N4, E4⟩⟩ := zR_nbr D h hk hs (by omega : sd < 4) hsh.1 hsh.2.1
        · have m1 : ¬ (0 : Int32) ≤ -1 := by decide
          refine ⟨ξ, -1000000005, ze_in [(0, .ref 232), (1, .int (nI sd))] zq_Mod_toward (Nat.le_of_ble_eq_true rfl) rfl ⟨N2 + N3 + N4, 27, fun F n hF => ?_⟩, Or.inr ⟨sd, s, ξ, lo, by omega, hs, rfl, c, hsh, q1, q2, f, Or.inl ⟨q3, rfl⟩⟩⟩
          simp [zg_0, zg_aload_n, zg_getfield, zg_iaload, zg_iconst, zg_ifCond, zg_iload_n, zg_invokestatic, zg_invokevirtual, zg_ireturn, zg_istore_n, zg_ldc, zg_ldc_w, zf_X6_toward, zi_ld, zi_lda, zi_cmp, zi_retOk, zi_isI, zi_f3, zi_cr, zi_ci, zi_cn, zi_get, zi_set, zM_g, cM, zq_Mod_isIn, zq_Mod_isShown, zq_Mod_neighbourOf, E2 F (by omega), E3 F (by omega), E4 F (by omega), e0, zm_iald (k := 0) zM_A242 i0, z0, e1, m1, n5]
        · have m1 : (0 : Int32) ≤ nI i := Int32.not_lt.mp (nI_pos (by omega))
          have h2 := h.fr f.fr
          obtain ⟨lc2, cM2⟩ := zM_c (μ := ξ)
          obtain ⟨ν, ⟨N5, E5⟩, q6⟩ := zR_focused (D + 16) h2 hi (by rw [f _ _ (by omega) (by omega), q4]; decide)
          refine ⟨ν, nI i, ze_in [(0, .ref 232), (1, .int (nI sd))] zq_Mod_toward (Nat.le_of_ble_eq_true rfl) rfl ⟨N2 + N3 + N4 + N5, 30, fun F n hF => ?_⟩, Or.inr ⟨sd, s, ξ, lo, by omega, hs, rfl, c, hsh, q1, q2, f, Or.inr ⟨i, hi, q4, q5, q6⟩⟩⟩
          simp [zg_0, zg_aload_n, zg_getfield, zg_iaload, zg_iconst, zg_ifCond, zg_iload_n, zg_invokestatic, zg_invokevirtual, zg_ireturn, zg_istore_n, zg_ldc, zg_ldc_w, zf_X6_toward, zi_ld, zi_lda, zi_cmp, zi_retOk, zi_isI, zi_f3, zi_cr, zi_ci, zi_cn, zi_get, zi_set, zM_g, cM, cM2, zq_Mod_isIn, zq_Mod_isShown, zq_Mod_neighbourOf, zq_Mod_focused, E2 F (by omega), E3 F (by omega), E4 F (by omega), E5 F (by omega), e0, zm_iald (k := 0) zM_A242 i0, z0, e1, m1]
      · refine ⟨μ, -1000000002, ze_in [(0, .ref 232), (1, .int (nI sd))] zq_Mod_toward (Nat.le_of_ble_eq_true rfl) rfl ⟨N2 + N3, 17, fun F n hF => ?_⟩, Or.inl ⟨fun _ _ _ s hs _ => hns s hs, rfl⟩⟩
        simp [zg_0, zg_aload_n, zg_getfield, zg_iaload, zg_iconst, zg_ifCond, zg_iload_n, zg_invokestatic, zg_invokevirtual, zg_ireturn, zg_istore_n, zg_ldc, zg_ldc_w, zf_X6_toward, zi_ld, zi_lda, zi_cmp, zi_retOk, zi_isI, zi_f3, zi_cr, zi_ci, zi_cn, zi_get, zi_set, zM_g, cM, zq_Mod_isIn, zq_Mod_isShown, E2 F (by omega), E3 F (by omega), e0, zm_iald (k := 0) zM_A242 i0, z0, e1, n2]
  · refine ⟨μ, -1000000001, ze_in [(0, .ref 232), (1, .int x)] zq_Mod_toward (Nat.le_of_ble_eq_true rfl) rfl ⟨N2, 7, fun F n hF => ?_⟩, Or.inl ⟨fun sd hsd e => absurd e (hno sd (by omega)), rfl⟩⟩
    simp [zg_0, zg_aload_n, zg_getfield, zg_iaload, zg_iconst, zg_ifCond, zg_iload_n, zg_invokestatic, zg_invokevirtual, zg_ireturn, zg_istore_n, zg_ldc, zg_ldc_w, zf_X6_toward, zi_ld, zi_lda, zi_cmp, zi_retOk, zi_isI, zi_f3, zi_cr, zi_ci, zi_cn, zi_get, zi_set, zq_Mod_isIn, E2 F (by omega), n1]
/-- move: refused, or what is kept with the window is forgotten -/
noncomputable def zv_mov (μ ν : zm_M) (w x y : Int32) : Prop :=
  (¬ (∃ k, k < 10 ∧ w = nI k ∧ (¬ μ 234 k = 0 ∧ ¬ μ 234 k = 1) ∧ (-1000 ≤ x ∧ x ≤ 1000) ∧ -1000 ≤ y ∧ y ≤ 1000) ∧ ν = μ) ∨ ∃ k ξ, k < 10 ∧ w = nI k ∧ (¬ μ 234 k = 0 ∧ ¬ μ 234 k = 1) ∧ ((-1000 ≤ x ∧ x ≤ 1000) ∧ -1000 ≤ y ∧ y ≤ 1000) ∧ (∀ c d, c ≠ 239 → c ≠ 240 → ξ c d = μ c d) ∧ ν = zv_fg ξ k
theorem zR_kd (h : zR μ row stk us) {k : Nat} (hk : k < 10) (c : ¬ μ 234 k = 0) : μ 234 k = 1 ∨ μ 234 k = 2 ∨ μ 234 k = 3 ∨ μ 234 k = 4 := (h.1 k hk).resolve_left c
set_option maxRecDepth 100000 in
theorem ze_Mmove (D : Nat) (h : zR μ row stk us) (w x y : Int32) : ∃ ν v, ze_E (D + 4) A_Mod_move [.ref 232, .int w, .int x, .int y] (zm_mk μ) (some (.int v)) (zm_mk ν) ∧ zv_mov μ ν w x y := by
  have n1 : Int32.ofInt (-1000000001) = -1000000001 := by decide
  have n2 : Int32.ofInt (-1000000002) = -1000000002 := by decide
  have h1 : (Int16.ofInt (-1000)).toInt32 = (-1000 : Int32) := by decide
  have h2 : (Int16.ofInt 1000).toInt32 = (1000 : Int32) := by decide
  have h4 : (Int16.ofInt 400).toInt32 = (400 : Int32) := by decide
  obtain ⟨lc, cM⟩ := zM_c (μ := μ)
  rcases zR_win (D + 1) h w with ⟨k, hk, rfl, c0, N1, E1⟩ | ⟨⟨N1, E1⟩, c0⟩
  · have ik : zi_in (nI k) 10 = true := zm_in hk (by decide)
    have ck : (nI k).toNatClampNeg = k := nI_clamp (by omega)
    obtain ⟨N2, E2⟩ := ze_isIn (h := zm_mk μ) (D + 2) x (-1000) 1000
    by_cases c1 : -1000 ≤ x ∧ x ≤ 1000
    · rw [if_pos c1] at E2
      obtain ⟨N3, E3⟩ := ze_isIn (h := zm_mk μ) (D + 2) y (-1000) 1000
      by_cases c2 : -1000 ≤ y ∧ y ≤ 1000
      · rw [if_pos c2] at E3
        obtain ⟨N4, E4⟩ := ze_MisFloating (μ := μ) (D + 2) hk
        by_cases c3 : μ 234 k = 1
        · rw [if_neg (fun z => (zR_fl h hk c0).mp z c3)] at E4
          refine ⟨μ, -1000000002, ze_in [(0, .ref 232), (1, .int (nI k)), (2, .int x), (3, .int y)] zq_Mod_move (Nat.le_of_ble_eq_true rfl) rfl ⟨N1 + N2 + N3 + N4, 20, fun F n hF => ?_⟩, Or.inl ⟨fun ⟨j, hj, e, z, _⟩ => ?_, rfl⟩⟩
          · simp [zg_0, zg_aload_n, zg_getfield, zg_goto, zg_iaload, zg_iastore, zg_iconst, zg_ifCond, zg_if_icmp, zg_iload_n, zg_invokestatic, zg_invokevirtual, zg_ireturn, zg_ldc, zg_sipush, zf_X6_move, zi_ld, zi_lda, zi_cmp, zi_retOk, zi_isI, zi_f3, zi_cr, zi_ci, zi_cn, zi_get, zi_set, h1, h2, cM, zq_Mod_isWindow, zq_Mod_isIn, zq_Mod_isFloating, E1 F (by omega), E2 F (by omega), E3 F (by omega), E4 F (by omega), n2]
          · rw [← (nI_eq (by omega) (by omega)).mp e] at z
            exact z.2 c3
        · rw [if_pos ((zR_fl h hk c0).mpr c3)] at E4
          by_cases c4 : μ 234 k = 4
          · obtain ⟨N5, E5⟩ := ze_Mnearest (h := zm_mk μ) (D + 2) x 400
            generalize zv_ne x 400 = p at E5
            obtain ⟨N6, E6⟩ := ze_Mnearest (h := zm_mk (zm_up μ 239 k p)) (D + 2) y 400
            generalize zv_ne y 400 = q at E6
            have f : ∀ c d, c ≠ 239 → c ≠ 240 → zm_up (zm_up μ 239 k p) 240 k q c d = μ c d := fun c d a b => by rw [zm_up_ne (by omega), zm_up_ne (by omega)]
            obtain ⟨N7, E7⟩ := ze_Mforget (μ := zm_up (zm_up μ 239 k p) 240 k q) (D + 2) hk
            obtain ⟨lc2, cM2⟩ := zM_c (μ := zm_up (zm_up μ 239 k p) 240 k q)
            refine ⟨zv_fg (zm_up (zm_up μ 239 k p) 240 k q) k, 0, ze_in [(0, .ref 232), (1, .int (nI k)), (2, .int x), (3, .int y)] zq_Mod_move (Nat.le_of_ble_eq_true rfl) rfl ⟨N1 + N2 + N3 + N4 + N5 + N6 + N7, 44, fun F n hF => ?_⟩, Or.inr ⟨k, _, hk, rfl, ⟨c0, c3⟩, ⟨c1, c2⟩, f, rfl⟩⟩
            simp [zg_0, zg_aload_n, zg_getfield, zg_goto, zg_iaload, zg_iastore, zg_iconst, zg_ifCond, zg_if_icmp, zg_iload_n, zg_invokestatic, zg_invokevirtual, zg_ireturn, zg_ldc, zg_sipush, zf_X6_move, zi_ld, zi_lda, zi_cmp, zi_retOk, zi_isI, zi_f3, zi_cr, zi_ci, zi_cn, zi_get, zi_set, zM_g, h1, h2, h4, cM, cM2, zq_Mod_isWindow, zq_Mod_isIn, zq_Mod_isFloating, zq_Mod_nearest, zq_Mod_forget, E1 F (by omega), E2 F (by omega), E3 F (by omega), E4 F (by omega), E5 F (by omega), E6 F (by omega), E7 F (by omega), zm_iald (k := 0) zM_A234 ik, ck, c4, zm_iast zM_A239 ik, zm_iast zM_A240 ik]
          · obtain ⟨s, hs, hh, -, -⟩ := h.2.2.2.2.2.1 k hk c0 c4
            obtain ⟨p, q, ⟨N5, E5⟩, -, -⟩ := ze_MputAt (μ := μ) (D + 1) hk hs x y
            have f : ∀ c d, c ≠ 239 → c ≠ 240 → zv_put μ k s p q c d = μ c d := fun c d a b => by
              unfold zv_put
              rw [zm_up_ne (by omega), zm_up_ne (by omega)]
              by_cases e : c = 238 ∧ d = k
              · rw [e.1, e.2, zm_up_eq, hh]
              · rw [zm_up_ne e]
            generalize zv_put μ k s p q = ξ at E5 f
            obtain ⟨N7, E7⟩ := ze_Mforget (μ := ξ) (D + 2) hk
            obtain ⟨lc2, cM2⟩ := zM_c (μ := ξ)
            refine ⟨zv_fg ξ k, 0, ze_in [(0, .ref 232), (1, .int (nI k)), (2, .int x), (3, .int y)] zq_Mod_move (Nat.le_of_ble_eq_true rfl) rfl ⟨N1 + N2 + N3 + N4 + N5 + N7, 38, fun F n hF => ?_⟩, Or.inr ⟨k, _, hk, rfl, ⟨c0, c3⟩, ⟨c1, c2⟩, f, rfl⟩⟩
            simp [zg_0, zg_aload_n, zg_getfield, zg_goto, zg_iaload, zg_iastore, zg_iconst, zg_ifCond, zg_if_icmp, zg_iload_n, zg_invokestatic, zg_invokevirtual, zg_ireturn, zg_ldc, zg_sipush, zf_X6_move, zi_ld, zi_lda, zi_cmp, zi_retOk, zi_isI, zi_f3, zi_cr, zi_ci, zi_cn, zi_get, zi_set, zM_g, h1, h2, h4, cM, cM2, zq_Mod_isWindow, zq_Mod_isIn, zq_Mod_isFloating, zq_Mod_putAt, zq_Mod_forget, E1 F (by omega), E2 F (by omega), E3 F (by omega), E4 F (by omega), E5 F (by omega), E7 F (by omega), zm_iald (k := 0) zM_A234 ik, zm_iald (k := 0) zM_A238 ik, ck, c4, hh]
      · rw [if_neg c2] at E3
        refine ⟨μ, -1000000001, ze_in [(0, .ref 232), (1, .int (nI k)), (2, .int x), (3, .int y)] zq_Mod_move (Nat.le_of_ble_eq_true rfl) rfl ⟨N1 + N2 + N3, 16, fun F n hF => ?_⟩, Or.inl ⟨fun ⟨j, hj, e, z, z1, z2⟩ => c2 z2, rfl⟩⟩
        simp [zg_0, zg_aload_n, zg_getfield, zg_goto, zg_iaload, zg_iastore, zg_iconst, zg_ifCond, zg_if_icmp, zg_iload_n, zg_invokestatic, zg_invokevirtual, zg_ireturn, zg_ldc, zg_sipush, zf_X6_move, zi_ld, zi_lda, zi_cmp, zi_retOk, zi_isI, zi_f3, zi_cr, zi_ci, zi_cn, zi_get, zi_set, h1, h2, cM, zq_Mod_isWindow, zq_Mod_isIn, E1 F (by omega), E2 F (by omega), E3 F (by omega), n1]
    · rw [if_neg c1] at E2
      refine ⟨μ, -1000000001, ze_in [(0, .ref 232), (1, .int (nI k)), (2, .int x), (3, .int y)] zq_Mod_move (Nat.le_of_ble_eq_true rfl) rfl ⟨N1 + N2, 11, fun F n hF => ?_⟩, Or.inl ⟨fun ⟨j, hj, e, z, z1, z2⟩ => c1 z1, rfl⟩⟩
      simp [zg_0, zg_aload_n, zg_getfield, zg_goto, zg_iaload, zg_iastore, zg_iconst, zg_ifCond, zg_if_icmp, zg_iload_n, zg_invokestatic, zg_invokevirtual, zg_ireturn, zg_ldc, zg_sipush, zf_X6_move, zi_ld, zi_lda, zi_cmp, zi_retOk, zi_isI, zi_f3, zi_cr, zi_ci, zi_cn, zi_get, zi_set, h1, h2, cM, zq_Mod_isWindow, zq_Mod_isIn, E1 F (by omega), E2 F (by omega), n1]
  · refine ⟨μ, -1000000001, ze_in [(0, .ref 232), (1, .int w), (2, .int x), (3, .int y)] zq_Mod_move (Nat.le_of_ble_eq_true rfl) rfl ⟨N1, 6, fun F n hF => ?_⟩, Or.inl ⟨fun ⟨j, hj, e, z, _⟩ => z.1 (c0 j hj e), rfl⟩⟩
    simp [zg_0, zg_aload_n, zg_getfield, zg_goto, zg_iaload, zg_iastore, zg_iconst, zg_ifCond, zg_if_icmp, zg_iload_n, zg_invokestatic, zg_invokevirtual, zg_ireturn, zg_ldc, zg_sipush, zf_X6_move, zi_ld, zi_lda, zi_cmp, zi_retOk, zi_isI, zi_f3, zi_cr, zi_ci, zi_cn, zi_get, zi_set, cM, zq_Mod_isWindow, E1 F (by omega), n1]
end ZWC
end
section
/-! the reference: steps -/
/-- who is reached is tiled -/
noncomputable def zv_far (μ ν : zm_M) : Prop := ∀ k, k < 10 → ν 261 k < 0 ∨ μ 234 k = 1
section ZWD
variable {μ : zm_M} {row stk : List Nat} {us : Nat → zy_F}
theorem zv_stS (D : Nat) (h : zR μ row stk us) {k d : Nat} (hk : k < 10) (hd : d < 10) : ∀ (j sd : Nat) (L : zi_Lc) (ν : zm_M), sd + j = 4 → zi_nl L = true → zi_get L 0 = some (.ref 232) → zi_get L 3 = some (.int (nI d)) → zi_get L 4 = some (.int (nI k)) → zi_get L 5 = some (.int (nI sd)) → zM_fr μ ν → zv_far μ ν →
    ∃ L' ν', ze_S (D + 28) 7 (some .int) zc_X6_steps 89 L [] (zm_mk ν) 147 L' [] (zm_mk ν') ∧ zi_nl L' = true ∧ (∀ q, q ≠ 5 → q ≠ 6 → zi_get L' q = zi_get L q) ∧ zM_fr μ ν' ∧ zv_far μ ν' := by
  have ik : zi_in (nI k) 10 = true := zm_in hk (by decide)
  have ck : (nI k).toNatClampNeg = k := nI_clamp (by omega)
  intro j
  induction j with
  | zero =>
    intro sd L ν hj nl g0 g3 g4 g5 f hv
    have : sd = 4 := by omega
    subst this
    have c1 : (4 : Int32) ≤ nI 4 := by decide
    refine ⟨L, ν, ⟨0, 3, fun F m hF => ?_⟩, nl, fun _ _ _ => rfl, f, hv⟩
    simp (maxDischargeDepth := 9) [zg_0, zg_aload_n, zg_bipush, zg_getfield, zg_goto, zg_iadd, zg_iaload, zg_iastore, zg_iconst, zg_ifCond, zg_if_icmp, zg_iinc, zg_iload, zg_iload_n, zg_invokevirtual, zg_ireturn, zg_istore, zg_istore_n, zg_ldc, zg_ldc_w, zf_X6_steps, zi_ld, zi_lda, zi_cmp, zi_retOk, zi_isI, zi_f3, zi_cr, zi_ci, zi_cn, zi_get_ne, zi_nl_i, zi_nl_r, zi_get_set_eq, nl, g0, g3, g4, g5, c1]
  | succ j ih =>
    intro sd L ν hj nl g0 g3 g4 g5 f hv
    have c1 : ¬ (4 : Int32) ≤ nI sd := nI_ge (b := 4) (by omega) (by decide)
    by_cases c2 : ν 261 k = nI d
    · have ht : μ 234 k = 1 := (hv k hk).resolve_left (fun e => by rw [c2] at e; exact nI_pos (by omega) e)
      have hR := h.fr f
      obtain ⟨s, m, ab, hs, hh, -, -⟩ := zR_til h hk ht
      obtain ⟨lc, cM⟩ := zM_c (μ := ν)
      have e4 : ν 234 k = 1 := by rw [f _ _ (by omega) (by decide) (by decide) (by omega)]; exact ht
      have e8 : ν 238 k = nI s := by rw [f _ _ (by omega) (by decide) (by decide) (by omega)]; exact hh
      obtain ⟨ξ, lo, -, -, g, ⟨-, N4, E4⟩ | ⟨i, hi, hit, -, N4, E4⟩⟩ := zR_nbr D hR hk hs (by omega : sd < 4) e4 e8
      · have f' : zM_fr μ ξ := f.trans g.fr
        have hv' : zv_far μ ξ := fun q hq => by rw [g _ _ (by omega) (by omega)]; exact hv q hq
        have m1 : (-1 : Int32) < 0 := by decide
        obtain ⟨L', ν', S, nl', q1, q2, q3⟩ := ih (sd + 1) (zi_set (zi_set L 6 (.int (-1))) 5 (.int (nI (sd + 1)))) ξ (by omega) (by simp (maxDischargeDepth := 9) [zi_get_ne, zi_nl_i, zi_nl_r, zi_get_set_eq, nl]) (by simp (maxDischargeDepth := 9) [zi_get_ne, zi_nl_i, zi_nl_r, zi_get_set_eq, nl, g0]) (by simp (maxDischargeDepth := 9) [zi_get_ne, zi_nl_i, zi_nl_r, zi_get_set_eq, nl, g3]) (by simp (maxDischargeDepth := 9) [zi_get_ne, zi_nl_i, zi_nl_r, zi_get_set_eq, nl, g4]) zi_get_set_eq f' hv'
        refine ⟨L', ν', ze_S.trans ⟨N4, 18, fun F m hF => ?_⟩ S, nl', fun q a b => ?_, q2, q3⟩
        · simp (maxDischargeDepth := 9) [zg_0, zg_aload_n, zg_bipush, zg_getfield, zg_goto, zg_iadd, zg_iaload, zg_iastore, zg_iconst, zg_ifCond, zg_if_icmp, zg_iinc, zg_iload, zg_iload_n, zg_invokevirtual, zg_ireturn, zg_istore, zg_istore_n, zg_ldc, zg_ldc_w, zf_X6_steps, zi_ld, zi_lda, zi_cmp, zi_retOk, zi_isI, zi_f3, zi_cr, zi_ci, zi_cn, zi_get_ne, zi_nl_i, zi_nl_r, zi_get_set_eq, nl, g0, g3, g4, g5, c1, zM_g, zm_iald (k := 0) zM_A261 ik, ck, c2, cM, zq_Mod_neighbourOf, E4 F (by omega), m1, nI_1]
        · rw [q1 q a b]
          simp (maxDischargeDepth := 9) [zi_get_ne, zi_nl_i, zi_nl_r, zi_get_set_eq, nl, a, b]
      · have f' : zM_fr μ ξ := f.trans g.fr
        have hv' : zv_far μ ξ := fun q hq => by rw [g _ _ (by omega) (by omega)]; exact hv q hq
        have m1 : ¬ nI i < 0 := nI_pos (by omega)
        have ii : zi_in (nI i) 10 = true := zm_in hi (by decide)
        have ci : (nI i).toNatClampNeg = i := nI_clamp (by omega)
        rw [f _ _ (by omega) (by decide) (by decide) (by omega)] at hit
        by_cases c3 : 0 ≤ ξ 261 i
        · obtain ⟨L', ν', S, nl', q1, q2, q3⟩ := ih (sd + 1) (zi_set (zi_set L 6 (.int (nI i))) 5 (.int (nI (sd + 1)))) ξ (by omega) (by simp (maxDischargeDepth := 9) [zi_get_ne, zi_nl_i, zi_nl_r, zi_get_set_eq, nl]) (by simp (maxDischargeDepth := 9) [zi_get_ne, zi_nl_i, zi_nl_r, zi_get_set_eq, nl, g0]) (by simp (maxDischargeDepth := 9) [zi_get_ne, zi_nl_i, zi_nl_r, zi_get_set_eq, nl, g3]) (by simp (maxDischargeDepth := 9) [zi_get_ne, zi_nl_i, zi_nl_r, zi_get_set_eq, nl, g4]) zi_get_set_eq f' hv'
          refine ⟨L', ν', ze_S.trans ⟨N4, 23, fun F m hF => ?_⟩ S, nl', fun q a b => ?_, q2, q3⟩
          · simp (maxDischargeDepth := 9) [zg_0, zg_aload_n, zg_bipush, zg_getfield, zg_goto, zg_iadd, zg_iaload, zg_iastore, zg_iconst, zg_ifCond, zg_if_icmp, zg_iinc, zg_iload, zg_iload_n, zg_invokevirtual, zg_ireturn, zg_istore, zg_istore_n, zg_ldc, zg_ldc_w, zf_X6_steps, zi_ld, zi_lda, zi_cmp, zi_retOk, zi_isI, zi_f3, zi_cr, zi_ci, zi_cn, zi_get_ne, zi_nl_i, zi_nl_r, zi_get_set_eq, nl, g0, g3, g4, g5, c1, zM_g, zm_iald (k := 0) zM_A261 ik, zm_iald (k := 0) zM_A261 ii, ck, ci, c2, c3, cM, zq_Mod_neighbourOf, E4 F (by omega), m1, nI_1]
          · rw [q1 q a b]
            simp (maxDischargeDepth := 9) [zi_get_ne, zi_nl_i, zi_nl_r, zi_get_set_eq, nl, a, b]
        · have f2 : zM_fr μ (zm_up ξ 261 i (nI (d + 1))) := f'.trans (fun c e _ _ _ a => zm_up_ne (by omega))
          have hv2 : zv_far μ (zm_up ξ 261 i (nI (d + 1))) := fun q hq => by
            by_cases e : q = i
            · rw [e]; exact Or.inr hit
            · rw [zm_up_ne (by omega)]; exact hv' q hq
          obtain ⟨L', ν', S, nl', q1, q2, q3⟩ := ih (sd + 1) (zi_set (zi_set L 6 (.int (nI i))) 5 (.int (nI (sd + 1)))) _ (by omega) (by simp (maxDischargeDepth := 9) [zi_get_ne, zi_nl_i, zi_nl_r, zi_get_set_eq, nl]) (by simp (maxDischargeDepth := 9) [zi_get_ne, zi_nl_i, zi_nl_r, zi_get_set_eq, nl, g0]) (by simp (maxDischargeDepth := 9) [zi_get_ne, zi_nl_i, zi_nl_r, zi_get_set_eq, nl, g3]) (by simp (maxDischargeDepth := 9) [zi_get_ne, zi_nl_i, zi_nl_r, zi_get_set_eq, nl, g4]) zi_get_set_eq f2 hv2
          refine ⟨L', ν', ze_S.trans ⟨N4, 30, fun F m hF => ?_⟩ S, nl', fun q a b => ?_, q2, q3⟩
          · simp (maxDischargeDepth := 9) [zg_0, zg_aload_n, zg_bipush, zg_getfield, zg_goto, zg_iadd, zg_iaload, zg_iastore, zg_iconst, zg_ifCond, zg_if_icmp, zg_iinc, zg_iload, zg_iload_n, zg_invokevirtual, zg_ireturn, zg_istore, zg_istore_n, zg_ldc, zg_ldc_w, zf_X6_steps, zi_ld, zi_lda, zi_cmp, zi_retOk, zi_isI, zi_f3, zi_cr, zi_ci, zi_cn, zi_get_ne, zi_nl_i, zi_nl_r, zi_get_set_eq, nl, g0, g3, g4, g5, c1, zM_g, zm_iald (k := 0) zM_A261 ik, zm_iald (k := 0) zM_A261 ii, zm_iast zM_A261 ii, ck, ci, c2, c3, cM, zq_Mod_neighbourOf, E4 F (by omega), m1, nI_1]
          · rw [q1 q a b]
            simp (maxDischargeDepth := 9) [zi_get_ne, zi_nl_i, zi_nl_r, zi_get_set_eq, nl, a, b]
    · refine ⟨L, ν, ⟨0, 9, fun F m hF => ?_⟩, nl, fun _ _ _ => rfl, f, hv⟩
      simp (maxDischargeDepth := 9) [zg_0, zg_aload_n, zg_bipush, zg_getfield, zg_goto, zg_iadd, zg_iaload, zg_iastore, zg_iconst, zg_ifCond, zg_if_icmp, zg_iinc, zg_iload, zg_iload_n, zg_invokevirtual, zg_ireturn, zg_istore, zg_istore_n, zg_ldc, zg_ldc_w, zf_X6_steps, zi_ld, zi_lda, zi_cmp, zi_retOk, zi_isI, zi_f3, zi_cr, zi_ci, zi_cn, zi_get_ne, zi_nl_i, zi_nl_r, zi_get_set_eq, nl, g0, g3, g4, g5, c1, zM_g, zm_iald (k := 0) zM_A261 ik, ck, c2]
theorem zv_stK (D : Nat) (h : zR μ row stk us) {d b : Nat} (hd : d < 10) {ν0 : zm_M} (f0 : zM_fr μ ν0) (v0 : zv_far μ ν0) (L0 : zi_Lc) (nl0 : zi_nl L0 = true) (a0 : zi_get L0 0 = some (.ref 232)) (a2 : zi_get L0 2 = some (.int (nI b))) (a3 : zi_get L0 3 = some (.int (nI d))) (a4 : zi_get L0 4 = some (.int (nI 0))) :
    ∃ L' h', ze_S (D + 28) 7 (some .int) zc_X6_steps 79 L0 [] (zm_mk ν0) 153 L' [] h' ∧ (zi_nl L' = true ∧ zi_get L' 0 = some (.ref 232) ∧ zi_get L' 2 = some (.int (nI b)) ∧ zi_get L' 3 = some (.int (nI d)) ∧ ∃ ν, zm_mk ν = h' ∧ zM_fr μ ν ∧ zv_far μ ν) := by
  have h10 : (Int8.ofInt 10).toInt32 = (10 : Int32) := by decide
  refine ze_loopS (Q := fun i L hp => i ≤ 10 ∧ zi_nl L = true ∧ zi_get L 0 = some (.ref 232) ∧ zi_get L 2 = some (.int (nI b)) ∧ zi_get L 3 = some (.int (nI d)) ∧ zi_get L 4 = some (.int (nI i)) ∧ ∃ ξ : zm_M, zm_mk ξ = hp ∧ (zM_fr μ ξ) ∧ (zv_far μ ξ) ∧ (True)) (R := fun L' h' => zi_nl L' = true ∧ zi_get L' 0 = some (.ref 232) ∧ zi_get L' 2 = some (.int (nI b)) ∧ zi_get L' 3 = some (.int (nI d)) ∧ ∃ ν, zm_mk ν = h' ∧ zM_fr μ ν ∧ zv_far μ ν) 10 ?_ ?_ 10 0 _ _ (by omega) ⟨by omega, nl0, a0, a2, a3, a4, ν0, rfl, f0, v0, trivial⟩
  · rintro i L _ hi ⟨-, nl, g0, g2, g3, g4, ξ, rfl, f1, f2, hq⟩
    have c1 : ¬ (10 : Int32) ≤ nI i := nI_ge (b := 10) hi (by decide)
    obtain ⟨L', ν', S, nl', q1, q2, q3⟩ := zv_stS D h hi hd 4 0 (zi_set L 5 (.int (nI 0))) ξ rfl (by simp (maxDischargeDepth := 9) [zi_get_ne, zi_nl_i, zi_nl_r, zi_get_set_eq, nl]) (by simp (maxDischargeDepth := 9) [zi_get_ne, zi_nl_i, zi_nl_r, zi_get_set_eq, nl, g0]) (by simp (maxDischargeDepth := 9) [zi_get_ne, zi_nl_i, zi_nl_r, zi_get_set_eq, nl, g3]) (by simp (maxDischargeDepth := 9) [zi_get_ne, zi_nl_i, zi_nl_r, zi_get_set_eq, nl, g4]) zi_get_set_eq f1 f2
    have b0 : zi_get L' 0 = some (.ref 232) := by
      rw [q1 0 (by decide) (by decide)]
      simp (maxDischargeDepth := 9) [zi_get_ne, zi_nl_i, zi_nl_r, zi_get_set_eq, nl, g0]
    have b2 : zi_get L' 2 = some (.int (nI b)) := by
      rw [q1 2 (by decide) (by decide)]
      simp (maxDischargeDepth := 9) [zi_get_ne, zi_nl_i, zi_nl_r, zi_get_set_eq, nl, g2]
    have b3 : zi_get L' 3 = some (.int (nI d)) := by
      rw [q1 3 (by decide) (by decide)]
      simp (maxDischargeDepth := 9) [zi_get_ne, zi_nl_i, zi_nl_r, zi_get_set_eq, nl, g3]
    have b4 : zi_get L' 4 = some (.int (nI i)) := by
      rw [q1 4 (by decide) (by decide)]
      simp (maxDischargeDepth := 9) [zi_get_ne, zi_nl_i, zi_nl_r, zi_get_set_eq, nl, g4]
    refine ⟨zi_set L' 4 (.int (nI (i + 1))), zm_mk ν', ze_S.trans ⟨0, 5, fun F m hF => ?_⟩ (S.trans ⟨0, 2, fun F m hF => ?_⟩), by omega, ?_, ?_, ?_, ?_, zi_get_set_eq, ν', rfl, q2, q3, trivial⟩
    · simp (maxDischargeDepth := 9) [zg_0, zg_aload_n, zg_bipush, zg_getfield, zg_goto, zg_iadd, zg_iaload, zg_iastore, zg_iconst, zg_ifCond, zg_if_icmp, zg_iinc, zg_iload, zg_iload_n, zg_invokevirtual, zg_ireturn, zg_istore, zg_istore_n, zg_ldc, zg_ldc_w, zf_X6_steps, zi_ld, zi_lda, zi_cmp, zi_retOk, zi_isI, zi_f3, zi_cr, zi_ci, zi_cn, zi_get_ne, zi_nl_i, zi_nl_r, zi_get_set_eq, nl, g0, g2, g3, g4, h10, c1, nI_0]
    · have nl := nl'
      simp (maxDischargeDepth := 9) [zg_0, zg_aload_n, zg_bipush, zg_getfield, zg_goto, zg_iadd, zg_iaload, zg_iastore, zg_iconst, zg_ifCond, zg_if_icmp, zg_iinc, zg_iload, zg_iload_n, zg_invokevirtual, zg_ireturn, zg_istore, zg_istore_n, zg_ldc, zg_ldc_w, zf_X6_steps, zi_ld, zi_lda, zi_cmp, zi_retOk, zi_isI, zi_f3, zi_cr, zi_ci, zi_cn, zi_get_ne, zi_nl_i, zi_nl_r, zi_get_set_eq, nl, b0, b2, b3, b4, nI_1]
    · have nl := nl'
      simp (maxDischargeDepth := 9) [zi_get_ne, zi_nl_i, zi_nl_r, zi_get_set_eq, nl]
    · have nl := nl'
      simp (maxDischargeDepth := 9) [zi_get_ne, zi_nl_i, zi_nl_r, zi_get_set_eq, nl, b0]
    · have nl := nl'
      simp (maxDischargeDepth := 9) [zi_get_ne, zi_nl_i, zi_nl_r, zi_get_set_eq, nl, b2]
    · have nl := nl'
      simp (maxDischargeDepth := 9) [zi_get_ne, zi_nl_i, zi_nl_r, zi_get_set_eq, nl, b3]
  · rintro L _ ⟨-, nl, g0, g2, g3, g4, ξ, rfl, f1, f2, hq⟩
    have c1 : (10 : Int32) ≤ nI 10 := by decide
    refine ⟨L, zm_mk ξ, ⟨0, 3, fun F m hF => ?_⟩, nl, g0, g2, g3, ξ, rfl, f1, f2⟩
    simp (maxDischargeDepth := 9) [zg_0, zg_aload_n, zg_bipush, zg_getfield, zg_goto, zg_iadd, zg_iaload, zg_iastore, zg_iconst, zg_ifCond, zg_if_icmp, zg_iinc, zg_iload, zg_iload_n, zg_invokevirtual, zg_ireturn, zg_istore, zg_istore_n, zg_ldc, zg_ldc_w, zf_X6_steps, zi_ld, zi_lda, zi_cmp, zi_retOk, zi_isI, zi_f3, zi_cr, zi_ci, zi_cn, zi_get_ne, zi_nl_i, zi_nl_r, zi_get_set_eq, nl, g0, g2, g3, g4, h10, c1, nI_1]
theorem zv_stD (D : Nat) (h : zR μ row stk us) {b : Nat} {ν0 : zm_M} (f0 : zM_fr μ ν0) (v0 : zv_far μ ν0) (L0 : zi_Lc) (nl0 : zi_nl L0 = true) (a0 : zi_get L0 0 = some (.ref 232)) (a2 : zi_get L0 2 = some (.int (nI b))) (a3 : zi_get L0 3 = some (.int (nI 0))) :
    ∃ L' h', ze_S (D + 28) 7 (some .int) zc_X6_steps 70 L0 [] (zm_mk ν0) 159 L' [] h' ∧ (zi_nl L' = true ∧ zi_get L' 0 = some (.ref 232) ∧ zi_get L' 2 = some (.int (nI b)) ∧ ∃ ν, zm_mk ν = h' ∧ zM_fr μ ν) := by
  have h10 : (Int8.ofInt 10).toInt32 = (10 : Int32) := by decide
  refine ze_loopS (Q := fun i L hp => i ≤ 10 ∧ zi_nl L = true ∧ zi_get L 0 = some (.ref 232) ∧ zi_get L 2 = some (.int (nI b)) ∧ zi_get L 3 = some (.int (nI i)) ∧ ∃ ξ : zm_M, zm_mk ξ = hp ∧ (zM_fr μ ξ) ∧ (zv_far μ ξ) ∧ (True)) (R := fun L' h' => zi_nl L' = true ∧ zi_get L' 0 = some (.ref 232) ∧ zi_get L' 2 = some (.int (nI b)) ∧ ∃ ν, zm_mk ν = h' ∧ zM_fr μ ν) 10 ?_ ?_ 10 0 _ _ (by omega) ⟨by omega, nl0, a0, a2, a3, ν0, rfl, f0, v0, trivial⟩
  · rintro i L _ hi ⟨-, nl, g0, g2, g3, ξ, rfl, f1, f2, hq⟩
    have c1 : ¬ (10 : Int32) ≤ nI i := nI_ge (b := 10) hi (by decide)
    obtain ⟨L', h', S, nl', b0, b2, b3, ν', rfl, q2, q3⟩ := zv_stK (b := b) D h hi f1 f2 (zi_set L 4 (.int (nI 0))) (by simp (maxDischargeDepth := 9) [zi_get_ne, zi_nl_i, zi_nl_r, zi_get_set_eq, nl]) (by simp (maxDischargeDepth := 9) [zi_get_ne, zi_nl_i, zi_nl_r, zi_get_set_eq, nl, g0]) (by simp (maxDischargeDepth := 9) [zi_get_ne, zi_nl_i, zi_nl_r, zi_get_set_eq, nl, g2]) (by simp (maxDischargeDepth := 9) [zi_get_ne, zi_nl_i, zi_nl_r, zi_get_set_eq, nl, g3]) zi_get_set_eq
    refine ⟨zi_set L' 3 (.int (nI (i + 1))), zm_mk ν', ze_S.trans ⟨0, 5, fun F m hF => ?_⟩ (S.trans ⟨0, 2, fun F m hF => ?_⟩), by omega, ?_, ?_, ?_, zi_get_set_eq, ν', rfl, q2, q3, trivial⟩
    · simp (maxDischargeDepth := 9) [zg_0, zg_aload_n, zg_bipush, zg_getfield, zg_goto, zg_iadd, zg_iaload, zg_iastore, zg_iconst, zg_ifCond, zg_if_icmp, zg_iinc, zg_iload, zg_iload_n, zg_invokevirtual, zg_ireturn, zg_istore, zg_istore_n, zg_ldc, zg_ldc_w, zf_X6_steps, zi_ld, zi_lda, zi_cmp, zi_retOk, zi_isI, zi_f3, zi_cr, zi_ci, zi_cn, zi_get_ne, zi_nl_i, zi_nl_r, zi_get_set_eq, nl, g0, g2, g3, h10, c1, nI_0]
    · have nl := nl'
      simp (maxDischargeDepth := 9) [zg_0, zg_aload_n, zg_bipush, zg_getfield, zg_goto, zg_iadd, zg_iaload, zg_iastore, zg_iconst, zg_ifCond, zg_if_icmp, zg_iinc, zg_iload, zg_iload_n, zg_invokevirtual, zg_ireturn, zg_istore, zg_istore_n, zg_ldc, zg_ldc_w, zf_X6_steps, zi_ld, zi_lda, zi_cmp, zi_retOk, zi_isI, zi_f3, zi_cr, zi_ci, zi_cn, zi_get_ne, zi_nl_i, zi_nl_r, zi_get_set_eq, nl, b0, b2, b3, nI_1]
    · have nl := nl'
      simp (maxDischargeDepth := 9) [zi_get_ne, zi_nl_i, zi_nl_r, zi_get_set_eq, nl]
    · have nl := nl'
      simp (maxDischargeDepth := 9) [zi_get_ne, zi_nl_i, zi_nl_r, zi_get_set_eq, nl, b0]
    · have nl := nl'
      simp (maxDischargeDepth := 9) [zi_get_ne, zi_nl_i, zi_nl_r, zi_get_set_eq, nl, b2]
  · rintro L _ ⟨-, nl, g0, g2, g3, ξ, rfl, f1, f2, hq⟩
    have c1 : (10 : Int32) ≤ nI 10 := by decide
    refine ⟨L, zm_mk ξ, ⟨0, 3, fun F m hF => ?_⟩, nl, g0, g2, ξ, rfl, f1⟩
    simp (maxDischargeDepth := 9) [zg_0, zg_aload_n, zg_bipush, zg_getfield, zg_goto, zg_iadd, zg_iaload, zg_iastore, zg_iconst, zg_ifCond, zg_if_icmp, zg_iinc, zg_iload, zg_iload_n, zg_invokevirtual, zg_ireturn, zg_istore, zg_istore_n, zg_ldc, zg_ldc_w, zf_X6_steps, zi_ld, zi_lda, zi_cmp, zi_retOk, zi_isI, zi_f3, zi_cr, zi_ci, zi_cn, zi_get_ne, zi_nl_i, zi_nl_r, zi_get_set_eq, nl, g0, g2, g3, h10, c1, nI_1]
theorem zv_stF (D : Nat) {a b : Nat} (ha : a < 10) (L0 : zi_Lc) (nl0 : zi_nl L0 = true) (a0 : zi_get L0 0 = some (.ref 232)) (a1 : zi_get L0 1 = some (.int (nI a))) (a2 : zi_get L0 2 = some (.int (nI b))) (a3 : zi_get L0 3 = some (.int (nI 0))) :
    ∃ L' h', ze_S D 7 (some .int) zc_X6_steps 40 L0 [] (zm_mk μ) 68 L' [] h' ∧ (zi_nl L' = true ∧ zi_get L' 0 = some (.ref 232) ∧ zi_get L' 2 = some (.int (nI b)) ∧ ∃ ν, zm_mk ν = h' ∧ (∀ c e, c ≠ 261 → ν c e = μ c e) ∧ ∀ j, j < 10 → ν 261 j < 0 ∨ j = a) := by
  have h10 : (Int8.ofInt 10).toInt32 = (10 : Int32) := by decide
  have m1 : (-1 : Int32) < 0 := by decide
  refine ze_loopS (Q := fun i L hp => i ≤ 10 ∧ zi_nl L = true ∧ zi_get L 0 = some (.ref 232) ∧ zi_get L 1 = some (.int (nI a)) ∧ zi_get L 2 = some (.int (nI b)) ∧ zi_get L 3 = some (.int (nI i)) ∧ ∃ ξ : zm_M, zm_mk ξ = hp ∧ (∀ c e, c ≠ 261 → ξ c e = μ c e) ∧ (∀ j, j < i → ξ 261 j < 0 ∨ j = a) ∧ (True)) (R := fun L' h' => zi_nl L' = true ∧ zi_get L' 0 = some (.ref 232) ∧ zi_get L' 2 = some (.int (nI b)) ∧ ∃ ν, zm_mk ν = h' ∧ (∀ c e, c ≠ 261 → ν c e = μ c e) ∧ ∀ j, j < 10 → ν 261 j < 0 ∨ j = a) 10 ?_ ?_ 10 0 _ _ (by omega) ⟨by omega, nl0, a0, a1, a2, a3, μ, rfl, (fun _ _ _ => rfl), (fun _ q => absurd q (by omega)), trivial⟩
  · rintro i L _ hi ⟨-, nl, g0, g1, g2, g3, ξ, rfl, f1, f2, hq⟩
    have c1 : ¬ (10 : Int32) ≤ nI i := nI_ge (b := 10) hi (by decide)
    have ik : zi_in (nI i) 10 = true := zm_in hi (by decide)
    have ck : (nI i).toNatClampNeg = i := nI_clamp (by omega)
    have f1' : ∀ x c e, c ≠ 261 → zm_up ξ 261 i x c e = μ c e := fun x c e q => (zm_up_ne (by omega)).trans (f1 c e q)
    by_cases c2 : i = a
    · subst c2
      have f2' : ∀ j, j < i + 1 → zm_up ξ 261 i 0 261 j < 0 ∨ j = i := fun j hj => by
        by_cases e : j = i
        · exact Or.inr e
        · rw [zm_up_ne (by omega)]; exact f2 j (by omega)
      refine ⟨zi_set L 3 (.int (nI (i + 1))), zm_mk (zm_up ξ 261 i 0), ⟨0, 14, fun F m hF => ?_⟩, by omega, ?_, ?_, ?_, ?_, zi_get_set_eq, _, rfl, f1' 0, f2', trivial⟩
      · simp (maxDischargeDepth := 9) [zg_0, zg_aload_n, zg_bipush, zg_getfield, zg_goto, zg_iadd, zg_iaload, zg_iastore, zg_iconst, zg_ifCond, zg_if_icmp, zg_iinc, zg_iload, zg_iload_n, zg_invokevirtual, zg_ireturn, zg_istore, zg_istore_n, zg_ldc, zg_ldc_w, zf_X6_steps, zi_ld, zi_lda, zi_cmp, zi_retOk, zi_isI, zi_f3, zi_cr, zi_ci, zi_cn, zi_get_ne, zi_nl_i, zi_nl_r, zi_get_set_eq, nl, g0, g1, g2, g3, h10, c1, zM_g, zm_iast zM_A261 ik, ck, nI_1]
      · simp (maxDischargeDepth := 9) [zi_get_ne, zi_nl_i, zi_nl_r, zi_get_set_eq, nl]
      · simp (maxDischargeDepth := 9) [zi_get_ne, zi_nl_i, zi_nl_r, zi_get_set_eq, nl, g0]
      · simp (maxDischargeDepth := 9) [zi_get_ne, zi_nl_i, zi_nl_r, zi_get_set_eq, nl, g1]
      · simp (maxDischargeDepth := 9) [zi_get_ne, zi_nl_i, zi_nl_r, zi_get_set_eq, nl, g2]
    · have c2' : ¬ nI i = nI a := fun e => c2 ((nI_eq (by omega) (by omega)).mp e)
      have f2' : ∀ j, j < i + 1 → zm_up ξ 261 i (-1) 261 j < 0 ∨ j = a := fun j hj => by
        by_cases e : j = i
        · rw [e, zm_up_eq]; exact Or.inl m1
        · rw [zm_up_ne (by omega)]; exact f2 j (by omega)
      refine ⟨zi_set L 3 (.int (nI (i + 1))), zm_mk (zm_up ξ 261 i (-1)), ⟨0, 13, fun F m hF => ?_⟩, by omega, ?_, ?_, ?_, ?_, zi_get_set_eq, _, rfl, f1' (-1), f2', trivial⟩
      · simp (maxDischargeDepth := 9) [zg_0, zg_aload_n, zg_bipush, zg_getfield, zg_goto, zg_iadd, zg_iaload, zg_iastore, zg_iconst, zg_ifCond, zg_if_icmp, zg_iinc, zg_iload, zg_iload_n, zg_invokevirtual, zg_ireturn, zg_istore, zg_istore_n, zg_ldc, zg_ldc_w, zf_X6_steps, zi_ld, zi_lda, zi_cmp, zi_retOk, zi_isI, zi_f3, zi_cr, zi_ci, zi_cn, zi_get_ne, zi_nl_i, zi_nl_r, zi_get_set_eq, nl, g0, g1, g2, g3, h10, c1, c2', zM_g, zm_iast zM_A261 ik, ck, nI_1]
      · simp (maxDischargeDepth := 9) [zi_get_ne, zi_nl_i, zi_nl_r, zi_get_set_eq, nl]
      · simp (maxDischargeDepth := 9) [zi_get_ne, zi_nl_i, zi_nl_r, zi_get_set_eq, nl, g0]
      · simp (maxDischargeDepth := 9) [zi_get_ne, zi_nl_i, zi_nl_r, zi_get_set_eq, nl, g1]
      · simp (maxDischargeDepth := 9) [zi_get_ne, zi_nl_i, zi_nl_r, zi_get_set_eq, nl, g2]
  · rintro L _ ⟨-, nl, g0, g1, g2, g3, ξ, rfl, f1, f2, hq⟩
    have c1 : (10 : Int32) ≤ nI 10 := by decide
    refine ⟨L, zm_mk ξ, ⟨0, 3, fun F m hF => ?_⟩, nl, g0, g2, ξ, rfl, f1, f2⟩
    simp (maxDischargeDepth := 9) [zg_0, zg_aload_n, zg_bipush, zg_getfield, zg_goto, zg_iadd, zg_iaload, zg_iastore, zg_iconst, zg_ifCond, zg_if_icmp, zg_iinc, zg_iload, zg_iload_n, zg_invokevirtual, zg_ireturn, zg_istore, zg_istore_n, zg_ldc, zg_ldc_w, zf_X6_steps, zi_ld, zi_lda, zi_cmp, zi_retOk, zi_isI, zi_f3, zi_cr, zi_ci, zi_cn, zi_get_ne, zi_nl_i, zi_nl_r, zi_get_set_eq, nl, g0, g1, g2, g3, h10, c1, nI_1]
set_option maxRecDepth 100000 in
theorem ze_Msteps (D : Nat) (h : zR μ row stk us) (w x : Int32) : ∃ ν v, ze_E (D + 29) A_Mod_steps [.ref 232, .int w, .int x] (zm_mk μ) (some (.int v)) (zm_mk ν) ∧ zM_fr μ ν := by
  have n1 : Int32.ofInt (-1000000001) = -1000000001 := by decide
  have n2 : Int32.ofInt (-1000000002) = -1000000002 := by decide
  have n5 : Int32.ofInt (-1000000005) = -1000000005 := by decide
  obtain ⟨lc, cM⟩ := zM_c (μ := μ)
  rcases zR_win (D + 26) h w with ⟨a, ha, rfl, a0, N1, E1⟩ | ⟨⟨N1, E1⟩, c0⟩
  · rcases zR_win (D + 26) h x with ⟨b, hb, rfl, b0, N2, E2⟩ | ⟨⟨N2, E2⟩, c0⟩
    · rcases zR_shn (D + 24) h ha with ⟨⟨N3, E3⟩, s, hs, c1, -⟩ | ⟨⟨N3, E3⟩, -⟩
      · rcases zR_shn (D + 24) h hb with ⟨⟨N4, E4⟩, -⟩ | ⟨⟨N4, E4⟩, -⟩
        · obtain ⟨L1, h1, S1, nl1, p0, p2, ν1, rfl, f1, f2⟩ := zv_stF (μ := μ) (b := b) (D + 28) ha [(3, .int (nI 0)), (0, .ref 232), (1, .int (nI a)), (2, .int (nI b))] rfl rfl rfl rfl rfl
          have g1 : zM_fr μ ν1 := fun c e _ _ _ q => f1 c e (by omega)
          have v1 : zv_far μ ν1 := fun j hj => (f2 j hj).imp id (fun e => by rw [e]; exact c1)
          obtain ⟨L2, h2, S2, nl2, q0, q2, ν2, rfl, g2⟩ := zv_stD (b := b) D h g1 v1 (zi_set L1 3 (.int (nI 0))) (zi_nl_i nl1) ((zi_get_ne nl1 (by decide)).trans p0) ((zi_get_ne nl1 (by decide)).trans p2) zi_get_set_eq
          have ib : zi_in (nI b) 10 = true := zm_in hb (by decide)
          have cb : (nI b).toNatClampNeg = b := nI_clamp (by omega)
          have S3 : ze_S (D + 28) 7 (some .int) zc_X6_steps 68 L1 [] (zm_mk ν1) 70 (zi_set L1 3 (.int (nI 0))) [] (zm_mk ν1) := by
            refine ⟨0, 2, fun F m hF => ?_⟩
            simp [zg_0, zg_aload_n, zg_bipush, zg_getfield, zg_goto, zg_iadd, zg_iaload, zg_iastore, zg_iconst, zg_ifCond, zg_if_icmp, zg_iinc, zg_iload, zg_iload_n, zg_invokevirtual, zg_ireturn, zg_istore, zg_istore_n, zg_ldc, zg_ldc_w, zf_X6_steps, zi_ld, zi_lda, zi_cmp, zi_retOk, zi_isI, zi_f3, zi_cr, zi_ci, zi_cn, nI_0]
          have S0 : ze_S (D + 28) 7 (some .int) zc_X6_steps 0 [(0, .ref 232), (1, .int (nI a)), (2, .int (nI b))] [] (zm_mk μ) 40 [(3, .int (nI 0)), (0, .ref 232), (1, .int (nI a)), (2, .int (nI b))] [] (zm_mk μ) := by
            refine ⟨N1 + N2 + N3 + N4, 18, fun F m hF => ?_⟩
            simp [zg_0, zg_aload_n, zg_bipush, zg_getfield, zg_goto, zg_iadd, zg_iaload, zg_iastore, zg_iconst, zg_ifCond, zg_if_icmp, zg_iinc, zg_iload, zg_iload_n, zg_invokevirtual, zg_ireturn, zg_istore, zg_istore_n, zg_ldc, zg_ldc_w, zf_X6_steps, zi_ld, zi_lda, zi_cmp, zi_retOk, zi_isI, zi_f3, zi_cr, zi_ci, zi_cn, zi_get, zi_set, cM, zq_Mod_isWindow, zq_Mod_isShown, E1 F (by omega), E2 F (by omega), E3 F (by omega), E4 F (by omega), nI_0]
          by_cases c5 : ν2 261 b < 0
          · have c5' : ¬ 0 ≤ ν2 261 b := Int32.not_le.mpr c5
            refine ⟨ν2, -1000000005, ze_in [(0, .ref 232), (1, .int (nI a)), (2, .int (nI b))] zq_Mod_steps (Nat.le_of_ble_eq_true rfl) rfl (S0.end (S1.end (S3.end (S2.end ⟨0, 8, fun F m hF => ?_⟩)))), g2⟩
            simp [zg_0, zg_aload_n, zg_bipush, zg_getfield, zg_goto, zg_iadd, zg_iaload, zg_iastore, zg_iconst, zg_ifCond, zg_if_icmp, zg_iinc, zg_iload, zg_iload_n, zg_invokevirtual, zg_ireturn, zg_istore, zg_istore_n, zg_ldc, zg_ldc_w, zf_X6_steps, zi_ld, zi_lda, zi_cmp, zi_retOk, zi_isI, zi_f3, zi_cr, zi_ci, zi_cn, q0, q2, zM_g, zm_iald (k := 0) zM_A261 ib, cb, c5', n5]
          · have c5' : 0 ≤ ν2 261 b := Int32.not_lt.mp c5
            refine ⟨ν2, ν2 261 b, ze_in [(0, .ref 232), (1, .int (nI a)), (2, .int (nI b))] zq_Mod_steps (Nat.le_of_ble_eq_true rfl) rfl (S0.end (S1.end (S3.end (S2.end ⟨0, 10, fun F m hF => ?_⟩)))), g2⟩
            simp [zg_0, zg_aload_n, zg_bipush, zg_getfield, zg_goto, zg_iadd, zg_iaload, zg_iastore, zg_iconst, zg_ifCond, zg_if_icmp, zg_iinc, zg_iload, zg_iload_n, zg_invokevirtual, zg_ireturn, zg_istore, zg_istore_n, zg_ldc, zg_ldc_w, zf_X6_steps, zi_ld, zi_lda, zi_cmp, zi_retOk, zi_isI, zi_f3, zi_cr, zi_ci, zi_cn, q0, q2, zM_g, zm_iald (k := 0) zM_A261 ib, cb, c5']
        · refine ⟨μ, -1000000002, ze_in [(0, .ref 232), (1, .int (nI a)), (2, .int (nI b))] zq_Mod_steps (Nat.le_of_ble_eq_true rfl) rfl ⟨N1 + N2 + N3 + N4, 18, fun F n hF => ?_⟩, zM_fr.refl⟩
          simp [zg_0, zg_aload_n, zg_bipush, zg_getfield, zg_goto, zg_iadd, zg_iaload, zg_iastore, zg_iconst, zg_ifCond, zg_if_icmp, zg_iinc, zg_iload, zg_iload_n, zg_invokevirtual, zg_ireturn, zg_istore, zg_istore_n, zg_ldc, zg_ldc_w, zf_X6_steps, zi_ld, zi_lda, zi_cmp, zi_retOk, zi_isI, zi_f3, zi_cr, zi_ci, zi_cn, zi_get, zi_set, cM, zq_Mod_isWindow, zq_Mod_isShown, E1 F (by omega), E2 F (by omega), E3 F (by omega), E4 F (by omega), n2]
      · refine ⟨μ, -1000000002, ze_in [(0, .ref 232), (1, .int (nI a)), (2, .int (nI b))] zq_Mod_steps (Nat.le_of_ble_eq_true rfl) rfl ⟨N1 + N2 + N3, 14, fun F n hF => ?_⟩, zM_fr.refl⟩
        simp [zg_0, zg_aload_n, zg_bipush, zg_getfield, zg_goto, zg_iadd, zg_iaload, zg_iastore, zg_iconst, zg_ifCond, zg_if_icmp, zg_iinc, zg_iload, zg_iload_n, zg_invokevirtual, zg_ireturn, zg_istore, zg_istore_n, zg_ldc, zg_ldc_w, zf_X6_steps, zi_ld, zi_lda, zi_cmp, zi_retOk, zi_isI, zi_f3, zi_cr, zi_ci, zi_cn, zi_get, zi_set, cM, zq_Mod_isWindow, zq_Mod_isShown, E1 F (by omega), E2 F (by omega), E3 F (by omega), n2]
    · refine ⟨μ, -1000000001, ze_in [(0, .ref 232), (1, .int (nI a)), (2, .int x)] zq_Mod_steps (Nat.le_of_ble_eq_true rfl) rfl ⟨N1 + N2, 10, fun F n hF => ?_⟩, zM_fr.refl⟩
      simp [zg_0, zg_aload_n, zg_bipush, zg_getfield, zg_goto, zg_iadd, zg_iaload, zg_iastore, zg_iconst, zg_ifCond, zg_if_icmp, zg_iinc, zg_iload, zg_iload_n, zg_invokevirtual, zg_ireturn, zg_istore, zg_istore_n, zg_ldc, zg_ldc_w, zf_X6_steps, zi_ld, zi_lda, zi_cmp, zi_retOk, zi_isI, zi_f3, zi_cr, zi_ci, zi_cn, zi_get, zi_set, cM, zq_Mod_isWindow, E1 F (by omega), E2 F (by omega), n1]
  · refine ⟨μ, -1000000001, ze_in [(0, .ref 232), (1, .int w), (2, .int x)] zq_Mod_steps (Nat.le_of_ble_eq_true rfl) rfl ⟨N1, 6, fun F n hF => ?_⟩, zM_fr.refl⟩
    simp [zg_0, zg_aload_n, zg_bipush, zg_getfield, zg_goto, zg_iadd, zg_iaload, zg_iastore, zg_iconst, zg_ifCond, zg_if_icmp, zg_iinc, zg_iload, zg_iload_n, zg_invokevirtual, zg_ireturn, zg_istore, zg_istore_n, zg_ldc, zg_ldc_w, zf_X6_steps, zi_ld, zi_lda, zi_cmp, zi_retOk, zi_isI, zi_f3, zi_cr, zi_ci, zi_cn, zi_get, zi_set, cM, zq_Mod_isWindow, E1 F (by omega), n1]
end ZWD
end
section
/-! the reference: share -/
section ZWE
variable {μ : zm_M} {row stk : List Nat} {us : Nat → zy_F} {u : zy_F} {ab : Nat → Int32}
/-- what is above the nodes above the leaf m -/
theorem zu_up_ab {s m : Nat} (hI : zu_I μ s u ab) (hm : m ∈ zy_lvs u) : (∀ y ∈ zy_up m u, y ∈ zy_cts u) ∧ (zu_ab μ s (nI m) = if 0 < (zy_up m u).length then nI ((zy_up m u).getD 0 0) else -1) ∧ ∀ i, i < (zy_up m u).length → zu_ab μ s (nI ((zy_up m u).getD i 0)) = if i + 1 < (zy_up m u).length then nI ((zy_up m u).getD (i + 1) 0) else -1 := by
  obtain ⟨wu, hmi⟩ := zu_I_lv hI hm
  obtain ⟨-, ok, -, hrt⟩ := zu_I_wf hI hmi
  obtain ⟨u1, u2, u3, u4⟩ := zy_up_ok (n := m) u wu hI.2.1 ok hm
  refine ⟨u1, ?_, fun i hi => ?_⟩
  · rw [zu_ab_eq hI hmi]
    by_cases c : 0 < (zy_up m u).length
    · rw [if_pos c]
      exact u3 0 c
    · rw [if_neg c]
      have e : (zy_up m u).length = 0 := by omega
      rw [e] at u4
      have : m = zy_id u := u4
      rw [this]; exact hrt
  · have hy := zy_cts_ids u wu _ (u1 _ (zl_mem hi))
    rw [zu_ab_eq hI hy]
    by_cases c : i + 1 < (zy_up m u).length
    · rw [if_pos c]
      have := u3 (i + 1) c
      rw [List.getD_cons_succ] at this
      exact this
    · rw [if_neg c]
      have e : (zy_up m u).length = i + 1 := by omega
      rw [e, List.getD_cons_succ] at u4
      rw [u4]; exact hrt
theorem zv_shL (D : Nat) {s m a : Nat} (hs : s < 3) (hI : zu_I μ s u ab) (hm : m ∈ zy_lvs u) (ha : a < 2) : ∀ (j i : Nat) (L : zi_Lc), i + j = (zy_up m u).length → zi_nl L = true → zi_get L 0 = some (.ref 232) → zi_get L 2 = some (.int (nI a)) → zi_get L 4 = some (.int (nI s)) → zi_get L 5 = some (.int (if i < (zy_up m u).length then nI ((zy_up m u).getD i 0) else -1)) →
    ∃ L', ze_S (D + 3) 7 (some .int) zc_X6_share 67 L [] (zm_mk μ) 109 L' [] (zm_mk μ) ∧ zi_nl L' = true ∧ (∀ q, q ≠ 5 → zi_get L' q = zi_get L q) ∧ zi_get L' 5 = some (.int (zl_ln (fun y => decide (zu_fm μ s y = nI a)) 0 (-1) ((zy_up m u).drop i) 0)) := by
  obtain ⟨u1, -, u3⟩ := zu_up_ab hI hm
  have h24 : ∀ y ∈ zy_up m u, y < 24 := fun y hy => zu_I_ct hI (u1 y hy)
  have hty : ∀ y ∈ zy_up m u, (μ 244 (24 * s + y) = 2 ∧ zu_fm μ s y = nI 0) ∨ (μ 244 (24 * s + y) = 3 ∧ zu_fm μ s y = nI 1) := fun y hy => by
    rcases zu_I_cut hI (u1 y hy) with e | e
    · exact Or.inl ⟨e, by rw [zu_fm_of e]; decide⟩
    · exact Or.inr ⟨e, by rw [zu_fm_of e]; decide⟩
  obtain ⟨lc, cM⟩ := zM_c (μ := μ)
  generalize zy_up m u = P at *
  have n01 : ¬ nI 0 = nI 1 := by decide
  have n10 : ¬ nI 1 = nI 0 := by decide
  intro j
  induction j with
  | zero =>
    intro i L hj nl g0 g2 g4 g5
    have hi : i = P.length := by omega
    subst hi
    rw [if_neg (Nat.lt_irrefl _)] at g5
    have m1 : (-1 : Int32) < 0 := by decide
    refine ⟨L, ⟨0, 2, fun F m hF => ?_⟩, nl, fun _ _ => rfl, ?_⟩
    · simp (maxDischargeDepth := 9) [zg_0, zg_aload_n, zg_bipush, zg_getfield, zg_goto, zg_iaload, zg_iastore, zg_iconst, zg_ifCond, zg_if_icmp, zg_iload, zg_iload_n, zg_invokestatic, zg_invokevirtual, zg_ireturn, zg_istore, zg_ldc, zf_X6_share, zi_ld, zi_lda, zi_cmp, zi_retOk, zi_isI, zi_f3, zi_cr, zi_ci, zi_cn, zi_get_ne, zi_nl_i, zi_nl_r, zi_get_set_eq, nl, g0, g2, g4, g5, m1]
    · rw [List.drop_length]; exact g5
  | succ j ih =>
    intro i L hj nl g0 g2 g4 g5
    have hi : i < P.length := by omega
    rw [if_pos hi] at g5
    have hmem : P.getD i 0 ∈ P := zl_mem hi
    have hn := u3 i hi
    rw [zl_drop hi]
    generalize P.getD i 0 = y at hmem hn g5
    have hy24 := h24 y hmem
    have m1 : ¬ nI y < 0 := nI_pos (by omega)
    obtain ⟨N1, E1⟩ := ze_spot (h := zm_mk μ) (D + 2) (t := s) (n := y) (by omega)
    have iy : zi_in (nI (24 * s + y)) 168 = true := zm_in (by omega) (by decide)
    have cy : (nI (24 * s + y)).toNatClampNeg = 24 * s + y := nI_clamp (by omega)
    have q1 : ∀ a, a < 2 → (zu_fm μ s y = nI a) → zl_ln (fun y => decide (zu_fm μ s y = nI a)) 0 (-1) (y :: P.drop (i + 1)) 0 = nI y := fun a _ e => by
      show (if decide (zu_fm μ s y = nI a) = true then (if 0 = 0 then nI y else _) else _) = nI y
      rw [if_pos (decide_eq_true e), if_pos rfl]
    have q2 : ∀ a, a < 2 → (¬ zu_fm μ s y = nI a) → zl_ln (fun y => decide (zu_fm μ s y = nI a)) 0 (-1) (y :: P.drop (i + 1)) 0 = zl_ln (fun y => decide (zu_fm μ s y = nI a)) 0 (-1) (P.drop (i + 1)) 0 := fun a _ e => by
      show (if decide (zu_fm μ s y = nI a) = true then (if 0 = 0 then nI y else _) else _) = _
      rw [if_neg (by simpa using e)]
    obtain ⟨N2, E2⟩ := ze_Mabove (μ := μ) (D + 1) (τ := s) (by omega) (nI y)
    rw [hn] at E2
    generalize hx : (if i + 1 < P.length then nI (P.getD (i + 1) 0) else (-1 : Int32)) = x at E2
    rcases (by omega : a = 0 ∨ a = 1) with rfl | rfl
    · rcases hty y hmem with ⟨e1, e2⟩ | ⟨e1, e2⟩
      · rw [q1 0 (by decide) e2]
        refine ⟨L, ⟨N1, 13, fun F m hF => ?_⟩, nl, fun _ _ => rfl, g5⟩
        simp (maxDischargeDepth := 9) [zg_0, zg_aload_n, zg_bipush, zg_getfield, zg_goto, zg_iaload, zg_iastore, zg_iconst, zg_ifCond, zg_if_icmp, zg_iload, zg_iload_n, zg_invokestatic, zg_invokevirtual, zg_ireturn, zg_istore, zg_ldc, zf_X6_share, zi_ld, zi_lda, zi_cmp, zi_retOk, zi_isI, zi_f3, zi_cr, zi_ci, zi_cn, zi_get_ne, zi_nl_i, zi_nl_r, zi_get_set_eq, nl, g0, g2, g4, g5, m1, zM_g, zq_Mod_spot, E1 F (by omega), zm_iald (k := 0) zM_A244 iy, cy, e1, nI_0]
      · rw [q2 0 (by decide) (by rw [e2]; exact n10)]
        obtain ⟨L', S, p1, p2, p3⟩ := ih (i + 1) (zi_set L 5 (.int x)) (by omega) (by simp (maxDischargeDepth := 9) [zi_get_ne, zi_nl_i, zi_nl_r, zi_get_set_eq, nl]) (by simp (maxDischargeDepth := 9) [zi_get_ne, zi_nl_i, zi_nl_r, zi_get_set_eq, nl, g0]) (by simp (maxDischargeDepth := 9) [zi_get_ne, zi_nl_i, zi_nl_r, zi_get_set_eq, nl, g2]) (by simp (maxDischargeDepth := 9) [zi_get_ne, zi_nl_i, zi_nl_r, zi_get_set_eq, nl, g4]) (by rw [hx]; exact zi_get_set_eq)
        refine ⟨L', ze_S.trans ⟨N1 + N2, 19, fun F m hF => ?_⟩ S, p1, fun q hq => ?_, p3⟩
        · simp (maxDischargeDepth := 9) [zg_0, zg_aload_n, zg_bipush, zg_getfield, zg_goto, zg_iaload, zg_iastore, zg_iconst, zg_ifCond, zg_if_icmp, zg_iload, zg_iload_n, zg_invokestatic, zg_invokevirtual, zg_ireturn, zg_istore, zg_ldc, zf_X6_share, zi_ld, zi_lda, zi_cmp, zi_retOk, zi_isI, zi_f3, zi_cr, zi_ci, zi_cn, zi_get_ne, zi_nl_i, zi_nl_r, zi_get_set_eq, nl, g0, g2, g4, g5, m1, zM_g, cM, zq_Mod_spot, zq_Mod_above, E1 F (by omega), E2 F (by omega), zm_iald (k := 0) zM_A244 iy, cy, e1, nI_0]
        · rw [p2 q hq]
          simp (maxDischargeDepth := 9) [zi_get_ne, zi_nl_i, zi_nl_r, zi_get_set_eq, nl, hq]
    · have n1 : ¬ nI 1 = 0 := by decide
      rcases hty y hmem with ⟨e1, e2⟩ | ⟨e1, e2⟩
      · rw [q2 1 (by decide) (by rw [e2]; exact n01)]
        obtain ⟨L', S, p1, p2, p3⟩ := ih (i + 1) (zi_set L 5 (.int x)) (by omega) (by simp (maxDischargeDepth := 9) [zi_get_ne, zi_nl_i, zi_nl_r, zi_get_set_eq, nl]) (by simp (maxDischargeDepth := 9) [zi_get_ne, zi_nl_i, zi_nl_r, zi_get_set_eq, nl, g0]) (by simp (maxDischargeDepth := 9) [zi_get_ne, zi_nl_i, zi_nl_r, zi_get_set_eq, nl, g2]) (by simp (maxDischargeDepth := 9) [zi_get_ne, zi_nl_i, zi_nl_r, zi_get_set_eq, nl, g4]) (by rw [hx]; exact zi_get_set_eq)
        refine ⟨L', ze_S.trans ⟨N1 + N2, 18, fun F m hF => ?_⟩ S, p1, fun q hq => ?_, p3⟩
        · simp (maxDischargeDepth := 9) [zg_0, zg_aload_n, zg_bipush, zg_getfield, zg_goto, zg_iaload, zg_iastore, zg_iconst, zg_ifCond, zg_if_icmp, zg_iload, zg_iload_n, zg_invokestatic, zg_invokevirtual, zg_ireturn, zg_istore, zg_ldc, zf_X6_share, zi_ld, zi_lda, zi_cmp, zi_retOk, zi_isI, zi_f3, zi_cr, zi_ci, zi_cn, zi_get_ne, zi_nl_i, zi_nl_r, zi_get_set_eq, nl, g0, g2, g4, g5, m1, n1, zM_g, cM, zq_Mod_spot, zq_Mod_above, E1 F (by omega), E2 F (by omega), zm_iald (k := 0) zM_A244 iy, cy, e1]
        · rw [p2 q hq]
          simp (maxDischargeDepth := 9) [zi_get_ne, zi_nl_i, zi_nl_r, zi_get_set_eq, nl, hq]
      · rw [q1 1 (by decide) e2]
        refine ⟨L, ⟨N1, 12, fun F m hF => ?_⟩, nl, fun _ _ => rfl, g5⟩
        simp (maxDischargeDepth := 9) [zg_0, zg_aload_n, zg_bipush, zg_getfield, zg_goto, zg_iaload, zg_iastore, zg_iconst, zg_ifCond, zg_if_icmp, zg_iload, zg_iload_n, zg_invokestatic, zg_invokevirtual, zg_ireturn, zg_istore, zg_ldc, zf_X6_share, zi_ld, zi_lda, zi_cmp, zi_retOk, zi_isI, zi_f3, zi_cr, zi_ci, zi_cn, zi_get_ne, zi_nl_i, zi_nl_r, zi_get_set_eq, nl, g0, g2, g4, g5, m1, n1, zM_g, zq_Mod_spot, E1 F (by omega), zm_iald (k := 0) zM_A244 iy, cy, e1]
/-- share: refused, or the nearest cut's share is v -/
noncomputable def zv_shr (μ ν : zm_M) (us : Nat → zy_F) (w x v : Int32) : Prop :=
  (¬ (∃ k s m a, k < 10 ∧ s < 3 ∧ a < 2 ∧ w = nI k ∧ x = nI a ∧ (10 ≤ v ∧ v ≤ 90) ∧ μ 234 k = 1 ∧ μ 238 k = nI s ∧ zu_at μ s (us s) k m ∧ ¬ zy_nc (zu_fm μ s) x m (us s) < 0) ∧ ν = μ) ∨
  ∃ k s m a, k < 10 ∧ s < 3 ∧ a < 2 ∧ w = nI k ∧ x = nI a ∧ (10 ≤ v ∧ v ≤ 90) ∧ μ 234 k = 1 ∧ μ 238 k = nI s ∧ zu_at μ s (us s) k m ∧ ¬ zy_nc (zu_fm μ s) x m (us s) < 0 ∧ ν = zm_up μ 247 (24 * s + (zy_nc (zu_fm μ s) x m (us s)).toNatClampNeg) v
theorem zy_nc_or {fm : Nat → Int32} {x : Int32} {n : Nat} {t : zy_F} : zy_nc fm x n t = -1 ∨ ∃ c ∈ zy_up n t, zy_nc fm x n t = nI c ∧ fm c = x := by
  unfold zy_nc
  by_cases c : 0 < ((zy_up n t).filter (fun y => decide (fm y = x))).length
  · rw [if_pos c]
    have := zl_mem c
    obtain ⟨h1, h2⟩ := List.mem_filter.mp this
    exact Or.inr ⟨_, h1, rfl, of_decide_eq_true h2⟩
  · rw [if_neg c]; exact Or.inl rfl
set_option maxRecDepth 100000 in
theorem ze_Mshare (D : Nat) (h : zR μ row stk us) (w x v : Int32) : ∃ ν r, ze_E (D + 4) A_Mod_share [.ref 232, .int w, .int x, .int v] (zm_mk μ) (some (.int r)) (zm_mk ν) ∧ zv_shr μ ν us w x v := by
  have n1 : Int32.ofInt (-1000000001) = -1000000001 := by decide
  have n2 : Int32.ofInt (-1000000002) = -1000000002 := by decide
  have h10 : (Int8.ofInt 10).toInt32 = (10 : Int32) := by decide
  have h90 : (Int8.ofInt 90).toInt32 = (90 : Int32) := by decide
  obtain ⟨lc, cM⟩ := zM_c (μ := μ)
  rcases zR_win (D + 1) h w with ⟨k, hk, rfl, c0, N1, E1⟩ | ⟨⟨N1, E1⟩, c0⟩
  · have ik : zi_in (nI k) 10 = true := zm_in hk (by decide)
    have ck : (nI k).toNatClampNeg = k := nI_clamp (by omega)
    rcases zM_isIn (hp := zm_mk μ) (D + 2) x (n := 1) (b := 1) (by decide) (by decide) with ⟨a, ha, rfl, N2, E2⟩ | ⟨⟨N2, E2⟩, hno⟩
    · obtain ⟨N3, E3⟩ := ze_isIn (h := zm_mk μ) (D + 2) v 10 90
      by_cases c1 : 10 ≤ v ∧ v ≤ 90
      · rw [if_pos c1] at E3
        by_cases c2 : μ 234 k = 1
        · obtain ⟨s, m, ab, hs, hh, hI, hat⟩ := zR_til h hk c2
          have is : zi_in (nI s) 3 = true := zm_in hs (by decide)
          obtain ⟨N4, E4⟩ := ze_MleafOf_at (μ := μ) D (by omega) hI hk hat
          obtain ⟨N5, E5⟩ := ze_Mabove (μ := μ) (D + 1) (τ := s) (by omega) (nI m)
          rw [(zu_up_ab hI hat.1).2.1] at E5
          obtain ⟨L', S, nl', p2, p3⟩ := zv_shL (μ := μ) D hs hI hat.1 (by omega : a < 2) (zy_up m (us s)).length 0 [(5, .int (if 0 < (zy_up m (us s)).length then nI ((zy_up m (us s)).getD 0 0) else -1)), (4, .int (nI s)), (0, .ref 232), (1, .int (nI k)), (2, .int (nI a)), (3, .int v)] (Nat.zero_add _) rfl rfl rfl rfl rfl
          generalize hx : (if 0 < (zy_up m (us s)).length then nI ((zy_up m (us s)).getD 0 0) else (-1 : Int32)) = x0 at E5 S p2
          have b0 : zi_get L' 0 = some (.ref 232) := p2 0 (by decide)
          have b3 : zi_get L' 3 = some (.int v) := p2 3 (by decide)
          have b4 : zi_get L' 4 = some (.int (nI s)) := p2 4 (by decide)
          have e5 : zl_ln (fun y => decide (zu_fm μ s y = nI a)) 0 (-1) ((zy_up m (us s)).drop 0) 0 = zy_nc (zu_fm μ s) (nI a) m (us s) := by
            rw [List.drop_zero, zl_ln_eq _ _ _ _ _ (Nat.le_refl _), Nat.sub_zero]
            rfl
          rw [e5] at p3
          have S0 : ze_S (D + 3) 7 (some .int) zc_X6_share 0 [(0, .ref 232), (1, .int (nI k)), (2, .int (nI a)), (3, .int v)] [] (zm_mk μ) 67 [(5, .int x0), (4, .int (nI s)), (0, .ref 232), (1, .int (nI k)), (2, .int (nI a)), (3, .int v)] [] (zm_mk μ) := by
            refine ⟨N1 + N2 + N3 + N4 + N5, 33, fun F n hF => ?_⟩
            simp [zg_0, zg_aload_n, zg_bipush, zg_getfield, zg_goto, zg_iaload, zg_iastore, zg_iconst, zg_ifCond, zg_if_icmp, zg_iload, zg_iload_n, zg_invokestatic, zg_invokevirtual, zg_ireturn, zg_istore, zg_ldc, zf_X6_share, zi_ld, zi_lda, zi_cmp, zi_retOk, zi_isI, zi_f3, zi_cr, zi_ci, zi_cn, zi_get, zi_set, zM_g, h10, h90, cM, zq_Mod_isWindow, zq_Mod_isIn, zq_Mod_leafOf, zq_Mod_above, E1 F (by omega), E2 F (by omega), E3 F (by omega), E4 F (by omega), E5 F (by omega), zm_iald (k := 0) zM_A234 ik, zm_iald (k := 0) zM_A238 ik, ck, c2, hh]
          have uq : ∀ s' m', s' < 3 → μ 238 k = nI s' → zu_at μ s' (us s') k m' → s' = s ∧ m' = m := fun s' m' h1 h2 h3 => by
            have e := (nI_eq (by omega) (by omega)).mp (h2.symm.trans hh)
            subst e
            exact ⟨rfl, hat.2.2 m' h3.1 h3.2.1⟩
          rcases zy_nc_or (fm := zu_fm μ s) (x := nI a) (n := m) (t := us s) with e | ⟨c, hc, e, -⟩
          · rw [e] at p3
            have m1 : ¬ (0 : Int32) ≤ -1 := by decide
            refine ⟨μ, -1000000002, ze_in [(0, .ref 232), (1, .int (nI k)), (2, .int (nI a)), (3, .int v)] zq_Mod_share (Nat.le_of_ble_eq_true rfl) rfl (S0.end (S.end ⟨0, 4, fun F n hF => ?_⟩)), Or.inl ⟨fun ⟨k', s', m', a', q1, q2, q3, q4, q5, q6, q7, q8, q9, q10⟩ => ?_, rfl⟩⟩
            · simp [zg_0, zg_aload_n, zg_bipush, zg_getfield, zg_goto, zg_iaload, zg_iastore, zg_iconst, zg_ifCond, zg_if_icmp, zg_iload, zg_iload_n, zg_invokestatic, zg_invokevirtual, zg_ireturn, zg_istore, zg_ldc, zf_X6_share, zi_ld, zi_lda, zi_cmp, zi_retOk, zi_isI, zi_f3, zi_cr, zi_ci, zi_cn, p3, m1, n2]
            · have e1 := (nI_eq (by omega) (by omega)).mp q4
              subst e1
              obtain ⟨e2, e3⟩ := uq s' m' q2 q8 q9
              subst e2; subst e3
              rw [e] at q10
              exact q10 (by decide)
          · have hc24 := zu_I_ct hI ((zu_up_ab hI hat.1).1 c hc)
            have e' := e
            rw [e] at p3
            have m1 : (0 : Int32) ≤ nI c := Int32.not_lt.mp (nI_pos (by omega))
            obtain ⟨N6, E6⟩ := ze_spot (h := zm_mk μ) (D + 2) (t := s) (n := c) (by omega)
            have iy : zi_in (nI (24 * s + c)) 168 = true := zm_in (by omega) (by decide)
            have cy : (nI (24 * s + c)).toNatClampNeg = 24 * s + c := nI_clamp (by omega)
            refine ⟨zm_up μ 247 (24 * s + c) v, μ 247 (24 * s + c), ze_in [(0, .ref 232), (1, .int (nI k)), (2, .int (nI a)), (3, .int v)] zq_Mod_share (Nat.le_of_ble_eq_true rfl) rfl (S0.end (S.end ⟨N6, 18, fun F n hF => ?_⟩)), Or.inr ⟨k, s, m, a, hk, hs, by omega, rfl, rfl, c1, c2, hh, hat, ?_, ?_⟩⟩
            · have nl := nl'
              simp (maxDischargeDepth := 9) [zg_0, zg_aload_n, zg_bipush, zg_getfield, zg_goto, zg_iaload, zg_iastore, zg_iconst, zg_ifCond, zg_if_icmp, zg_iload, zg_iload_n, zg_invokestatic, zg_invokevirtual, zg_ireturn, zg_istore, zg_ldc, zf_X6_share, zi_ld, zi_lda, zi_cmp, zi_retOk, zi_isI, zi_f3, zi_cr, zi_ci, zi_cn, zi_get_ne, zi_nl_i, zi_nl_r, zi_get_set_eq, nl, p3, b0, b3, b4, m1, zM_g, zq_Mod_spot, E6 F (by omega), zm_iald (k := 0) zM_A247 iy, zm_iast zM_A247 iy, cy]
            · rw [e]; exact nI_pos (by omega)
            · rw [e, nI_clamp (by omega)]
        · refine ⟨μ, -1000000002, ze_in [(0, .ref 232), (1, .int (nI k)), (2, .int (nI a)), (3, .int v)] zq_Mod_share (Nat.le_of_ble_eq_true rfl) rfl ⟨N1 + N2 + N3, 22, fun F n hF => ?_⟩, Or.inl ⟨fun ⟨k', s', m', a', q1, q2, q3, q4, q5, q6, q7, _⟩ => ?_, rfl⟩⟩
          · simp [zg_0, zg_aload_n, zg_bipush, zg_getfield, zg_goto, zg_iaload, zg_iastore, zg_iconst, zg_ifCond, zg_if_icmp, zg_iload, zg_iload_n, zg_invokestatic, zg_invokevirtual, zg_ireturn, zg_istore, zg_ldc, zf_X6_share, zi_ld, zi_lda, zi_cmp, zi_retOk, zi_isI, zi_f3, zi_cr, zi_ci, zi_cn, zi_get, zi_set, zM_g, h10, h90, cM, zq_Mod_isWindow, zq_Mod_isIn, E1 F (by omega), E2 F (by omega), E3 F (by omega), zm_iald (k := 0) zM_A234 ik, ck, c2, n2]
          · rw [← (nI_eq (by omega) (by omega)).mp q4] at q7
            exact c2 q7
      · rw [if_neg c1] at E3
        refine ⟨μ, -1000000001, ze_in [(0, .ref 232), (1, .int (nI k)), (2, .int (nI a)), (3, .int v)] zq_Mod_share (Nat.le_of_ble_eq_true rfl) rfl ⟨N1 + N2 + N3, 16, fun F n hF => ?_⟩, Or.inl ⟨fun ⟨k', s', m', a', q1, q2, q3, q4, q5, q6, _⟩ => c1 q6, rfl⟩⟩
        simp [zg_0, zg_aload_n, zg_bipush, zg_getfield, zg_goto, zg_iaload, zg_iastore, zg_iconst, zg_ifCond, zg_if_icmp, zg_iload, zg_iload_n, zg_invokestatic, zg_invokevirtual, zg_ireturn, zg_istore, zg_ldc, zf_X6_share, zi_ld, zi_lda, zi_cmp, zi_retOk, zi_isI, zi_f3, zi_cr, zi_ci, zi_cn, zi_get, zi_set, h10, h90, cM, zq_Mod_isWindow, zq_Mod_isIn, E1 F (by omega), E2 F (by omega), E3 F (by omega), n1]
    · refine ⟨μ, -1000000001, ze_in [(0, .ref 232), (1, .int (nI k)), (2, .int x), (3, .int v)] zq_Mod_share (Nat.le_of_ble_eq_true rfl) rfl ⟨N1 + N2, 11, fun F n hF => ?_⟩, Or.inl ⟨fun ⟨k', s', m', a', q1, q2, q3, q4, q5, _⟩ => hno a' (by omega) q5, rfl⟩⟩
      simp [zg_0, zg_aload_n, zg_bipush, zg_getfield, zg_goto, zg_iaload, zg_iastore, zg_iconst, zg_ifCond, zg_if_icmp, zg_iload, zg_iload_n, zg_invokestatic, zg_invokevirtual, zg_ireturn, zg_istore, zg_ldc, zf_X6_share, zi_ld, zi_lda, zi_cmp, zi_retOk, zi_isI, zi_f3, zi_cr, zi_ci, zi_cn, zi_get, zi_set, cM, zq_Mod_isWindow, zq_Mod_isIn, E1 F (by omega), E2 F (by omega), n1]
  · refine ⟨μ, -1000000001, ze_in [(0, .ref 232), (1, .int w), (2, .int x), (3, .int v)] zq_Mod_share (Nat.le_of_ble_eq_true rfl) rfl ⟨N1, 6, fun F n hF => ?_⟩, Or.inl ⟨fun ⟨k', s', m', a', q1, q2, q3, q4, q5, q6, q7, _⟩ => by rw [c0 k' q1 q4] at q7; exact absurd q7 (by decide), rfl⟩⟩
    simp [zg_0, zg_aload_n, zg_bipush, zg_getfield, zg_goto, zg_iaload, zg_iastore, zg_iconst, zg_ifCond, zg_if_icmp, zg_iload, zg_iload_n, zg_invokestatic, zg_invokevirtual, zg_ireturn, zg_istore, zg_ldc, zf_X6_share, zi_ld, zi_lda, zi_cmp, zi_retOk, zi_isI, zi_f3, zi_cr, zi_ci, zi_cn, zi_get, zi_set, cM, zq_Mod_isWindow, E1 F (by omega), n1]
end ZWE
end
