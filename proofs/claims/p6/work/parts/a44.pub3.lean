/-! the reference: neighbour, toward, move -/
/-- the window k is shown in the tree of the screen s -/
def zv_shn (μ : zm_M) (us : Nat → zy_F) (s k : Nat) : Prop := μ 234 k = 1 ∧ μ 238 k = nI s ∧ ∃ m, zu_at μ s (us s) k m ∧ μ 250 (24 * s + m) = nI k
/-- the areas of the tree u, for the screen s -/
def zv_laid (μ ξ : zm_M) (s : Nat) (u : zy_F) : Prop := zy_wf u → zy_laid (zu_P ξ) (zu_fm μ s) (fun n => μ 247 (24 * s + n)) (zu_lsz μ s 0) (zu_lsz μ s 1) u 0 0 (μ 232 s) (μ 233 s)
/-- in which leaf each tiled window is -/
def zv_los (μ : zm_M) (us : Nat → zy_F) (lo : Nat → Nat) : Prop := ∀ s j, s < 3 → j < 10 → μ 234 j = 1 → μ 238 j = nI s → zu_at μ s (us s) j (lo j)
section ZWC
variable {μ ν : zm_M} {row stk : List Nat} {us : Nat → zy_F}
theorem zR_shn (D : Nat) (h : zR μ row stk us) {k : Nat} (hk : k < 10) : (ze_E (D + 4) A_Mod_isShown [.ref 232, .int (nI k)] (zm_mk μ) (some (.int 1)) (zm_mk μ) ∧ ∃ s, s < 3 ∧ zv_shn μ us s k) ∨ (ze_E (D + 4) A_Mod_isShown [.ref 232, .int (nI k)] (zm_mk μ) (some (.int 0)) (zm_mk μ) ∧ ∀ s, s < 3 → ¬ zv_shn μ us s k) := by
  rcases zR_shown D h hk with ⟨E, c1, q, m, hq, hh, hat, hs⟩ | ⟨E, hno⟩
  · exact Or.inl ⟨E, q, hq, c1, hh, m, hat, hs⟩
  · exact Or.inr ⟨E, fun s hs ⟨c1, hh, m, hat, e⟩ => hno ⟨c1, s, m, hs, hh, hat, e⟩⟩
/-- neighbourOf, as it comes out -/
theorem zR_nbr (D : Nat) (h : zR μ row stk us) {k s sd : Nat} (hk : k < 10) (hs : s < 3) (hsd : sd < 4) (c1 : μ 234 k = 1) (hh : μ 238 k = nI s) : ∃ ν lo, zv_los μ us lo ∧ zv_laid μ ν s (us s) ∧ zv_frY μ ν ∧
    ((zl_nb (zv_nf ν s k sd lo) (List.range 10) (-1) 0 = -1 ∧ ze_E (D + 28) A_Mod_neighbourOf [.ref 232, .int (nI k), .int (nI sd)] (zm_mk μ) (some (.int (-1))) (zm_mk ν)) ∨
     ∃ i, i < 10 ∧ μ 234 i = 1 ∧ zl_nb (zv_nf ν s k sd lo) (List.range 10) (-1) 0 = nI i ∧ ze_E (D + 28) A_Mod_neighbourOf [.ref 232, .int (nI k), .int (nI sd)] (zm_mk μ) (some (.int (nI i))) (zm_mk ν)) := by
  obtain ⟨lo, hlo⟩ := zR_lo h
  obtain ⟨ab, hI⟩ := (h.2.2.2.2.1 s hs).1
  obtain ⟨ν, E4, hl, f⟩ := ze_MneighbourOf (μ := μ) (lo := lo) D hk hs hsd hI c1 hh (fun j hj a b => hlo s j hs hj a b)
  refine ⟨ν, lo, hlo, hl, f, ?_⟩
  rcases zl_nb_or' (zv_nf ν s k sd lo) (-1) with e | ⟨i, hi, e, hp⟩
  · rw [e] at E4
    exact Or.inl ⟨e, E4⟩
  · rw [e] at E4
    refine Or.inr ⟨i, hi, ?_, e, E4⟩
    unfold zv_nf at hp
    by_cases c : (i ≠ k ∧ ν 234 i = 1 ∧ ν 238 i = nI s ∧ ν 250 (24 * s + lo i) = nI i) ∧ zv_me ν sd (lo k) (lo i) = true
    · rw [← f _ _ (by omega) (by omega)]
      exact c.1.2.1
    · rw [if_neg c] at hp
      exact absurd hp (by decide)
set_option maxRecDepth 100000 in
theorem ze_Mneighbour (D : Nat) (h : zR μ row stk us) (w x : Int32) : ∃ ν v, ze_E (D + 29) A_Mod_neighbour [.ref 232, .int w, .int x] (zm_mk μ) (some (.int v)) (zm_mk ν) ∧ zM_fr μ ν := by
  have n1 : Int32.ofInt (-1000000001) = -1000000001 := by decide
  have n2 : Int32.ofInt (-1000000002) = -1000000002 := by decide
  have n5 : Int32.ofInt (-1000000005) = -1000000005 := by decide
  obtain ⟨lc, cM⟩ := zM_c (μ := μ)
  rcases zR_win (D + 26) h w with ⟨k, hk, rfl, c0, N1, E1⟩ | ⟨⟨N1, E1⟩, c0⟩
  · rcases zM_isIn (hp := zm_mk μ) (D + 27) x (n := 3) (b := 3) (by decide) (by decide) with ⟨sd, hsd, rfl, N2, E2⟩ | ⟨⟨N2, E2⟩, -⟩
    · rcases zR_shn (D + 24) h hk with ⟨⟨N3, E3⟩, s, hs, c1, hh, -⟩ | ⟨⟨N3, E3⟩, -⟩
      · obtain ⟨ν, lo, -, -, f, ⟨-, N4, E4⟩ | ⟨i, hi, -, -, N4, E4⟩⟩ := zR_nbr D h hk hs hsd c1 hh
        · have m1 : ¬ (0 : Int32) ≤ -1 := by decide
          refine ⟨ν, -1000000005, ze_in [(0, .ref 232), (1, .int (nI k)), (2, .int (nI sd))] zq_Mod_neighbour (Nat.le_of_ble_eq_true rfl) rfl ⟨N1 + N2 + N3 + N4, 23, fun F n hF => ?_⟩, f.fr⟩
          simp [zg_0, zg_aload_n, zg_goto, zg_iconst, zg_ifCond, zg_iload_n, zg_invokestatic, zg_invokevirtual, zg_ireturn, zg_istore_n, zg_ldc, zg_ldc_w, zf_X6_neighbour, zi_ld, zi_lda, zi_cmp, zi_retOk, zi_isI, zi_f3, zi_cr, zi_ci, zi_cn, zi_get, zi_set, cM, zq_Mod_isWindow, zq_Mod_isIn, zq_Mod_isShown, zq_Mod_neighbourOf, E1 F (by omega), E2 F (by omega), E3 F (by omega), E4 F (by omega), m1, n5]
        · have m1 : (0 : Int32) ≤ nI i := Int32.not_lt.mp (nI_pos (by omega))
          refine ⟨ν, nI i, ze_in [(0, .ref 232), (1, .int (nI k)), (2, .int (nI sd))] zq_Mod_neighbour (Nat.le_of_ble_eq_true rfl) rfl ⟨N1 + N2 + N3 + N4, 22, fun F n hF => ?_⟩, f.fr⟩
          simp [zg_0, zg_aload_n, zg_goto, zg_iconst, zg_ifCond, zg_iload_n, zg_invokestatic, zg_invokevirtual, zg_ireturn, zg_istore_n, zg_ldc, zg_ldc_w, zf_X6_neighbour, zi_ld, zi_lda, zi_cmp, zi_retOk, zi_isI, zi_f3, zi_cr, zi_ci, zi_cn, zi_get, zi_set, cM, zq_Mod_isWindow, zq_Mod_isIn, zq_Mod_isShown, zq_Mod_neighbourOf, E1 F (by omega), E2 F (by omega), E3 F (by omega), E4 F (by omega), m1]
      · refine ⟨μ, -1000000002, ze_in [(0, .ref 232), (1, .int (nI k)), (2, .int (nI sd))] zq_Mod_neighbour (Nat.le_of_ble_eq_true rfl) rfl ⟨N1 + N2 + N3, 15, fun F n hF => ?_⟩, zM_fr.refl⟩
        simp [zg_0, zg_aload_n, zg_goto, zg_iconst, zg_ifCond, zg_iload_n, zg_invokestatic, zg_invokevirtual, zg_ireturn, zg_istore_n, zg_ldc, zg_ldc_w, zf_X6_neighbour, zi_ld, zi_lda, zi_cmp, zi_retOk, zi_isI, zi_f3, zi_cr, zi_ci, zi_cn, zi_get, zi_set, cM, zq_Mod_isWindow, zq_Mod_isIn, zq_Mod_isShown, E1 F (by omega), E2 F (by omega), E3 F (by omega), n2]
    · refine ⟨μ, -1000000001, ze_in [(0, .ref 232), (1, .int (nI k)), (2, .int x)] zq_Mod_neighbour (Nat.le_of_ble_eq_true rfl) rfl ⟨N1 + N2, 11, fun F n hF => ?_⟩, zM_fr.refl⟩
      simp [zg_0, zg_aload_n, zg_goto, zg_iconst, zg_ifCond, zg_iload_n, zg_invokestatic, zg_invokevirtual, zg_ireturn, zg_istore_n, zg_ldc, zg_ldc_w, zf_X6_neighbour, zi_ld, zi_lda, zi_cmp, zi_retOk, zi_isI, zi_f3, zi_cr, zi_ci, zi_cn, zi_get, zi_set, cM, zq_Mod_isWindow, zq_Mod_isIn, E1 F (by omega), E2 F (by omega), n1]
  · refine ⟨μ, -1000000001, ze_in [(0, .ref 232), (1, .int w), (2, .int x)] zq_Mod_neighbour (Nat.le_of_ble_eq_true rfl) rfl ⟨N1, 6, fun F n hF => ?_⟩, zM_fr.refl⟩
    simp [zg_0, zg_aload_n, zg_goto, zg_iconst, zg_ifCond, zg_iload_n, zg_invokestatic, zg_invokevirtual, zg_ireturn, zg_istore_n, zg_ldc, zg_ldc_w, zf_X6_neighbour, zi_ld, zi_lda, zi_cmp, zi_retOk, zi_isI, zi_f3, zi_cr, zi_ci, zi_cn, zi_get, zi_set, cM, zq_Mod_isWindow, E1 F (by omega), n1]
/-- toward: refused, or to the neighbour -/
def zv_twd (μ ν : zm_M) (row stk : List Nat) (us : Nat → zy_F) (x : Int32) : Prop :=
  ((∀ sd, sd < 4 → x = nI sd → ∀ s, s < 3 → row ≠ [] → ¬ zv_shn μ us s (row.getD 0 0)) ∧ ν = μ) ∨
  ∃ sd s ξ lo, sd < 4 ∧ s < 3 ∧ x = nI sd ∧ row ≠ [] ∧ zv_shn μ us s (row.getD 0 0) ∧ zv_los μ us lo ∧ zv_laid μ ξ s (us s) ∧ zv_frY μ ξ ∧
    ((zl_nb (zv_nf ξ s (row.getD 0 0) sd lo) (List.range 10) (-1) 0 = -1 ∧ ν = ξ) ∨ ∃ i, i < 10 ∧ μ 234 i = 1 ∧ zl_nb (zv_nf ξ s (row.getD 0 0) sd lo) (List.range 10) (-1) 0 = nI i ∧ zv_foc ξ ν row stk us i)
set_option maxRecDepth 100000 in
theorem ze_Mtoward (D : Nat) (h : zR μ row stk us) (x : Int32) : ∃ ν v, ze_E (D + 29) A_Mod_toward [.ref 232, .int x] (zm_mk μ) (some (.int v)) (zm_mk ν) ∧ zv_twd μ ν row stk us x := by
  have n1 : Int32.ofInt (-1000000001) = -1000000001 := by decide
  have n2 : Int32.ofInt (-1000000002) = -1000000002 := by decide
  have n5 : Int32.ofInt (-1000000005) = -1000000005 := by decide
  obtain ⟨lc, cM⟩ := zM_c (μ := μ)
  have hL := h.2.1.1
  have l10 := hL.1
  have i0 : zi_in (0 : Int32) 10 = true := by decide
  have z0 : (0 : Int32).toNatClampNeg = 0 := by decide
  rcases zM_isIn (hp := zm_mk μ) (D + 27) x (n := 3) (b := 3) (by decide) (by decide) with ⟨sd, hsd, rfl, N2, E2⟩ | ⟨⟨N2, E2⟩, hno⟩
  · by_cases c : row = []
    · have e0 : μ 231 12 = 0 := by rw [hL.2.1, c]; rfl
      refine ⟨μ, -1000000002, ze_in [(0, .ref 232), (1, .int (nI sd))] zq_Mod_toward (Nat.le_of_ble_eq_true rfl) rfl ⟨N2, 10, fun F n hF => ?_⟩, Or.inl ⟨fun _ _ _ _ _ hne => absurd c hne, rfl⟩⟩
      simp [zg_0, zg_aload_n, zg_getfield, zg_iaload, zg_iconst, zg_ifCond, zg_iload_n, zg_invokestatic, zg_invokevirtual, zg_ireturn, zg_istore_n, zg_ldc, zg_ldc_w, zf_X6_toward, zi_ld, zi_lda, zi_cmp, zi_retOk, zi_isI, zi_f3, zi_cr, zi_ci, zi_cn, zi_get, zi_set, zM_g, zq_Mod_isIn, E2 F (by omega), e0, n2]
    · have hpos := List.length_pos_iff.mpr c
      have hm : row.getD 0 0 ∈ row := zl_mem hpos
      obtain ⟨hk, ht⟩ := (h.2.1.2.2 _).mp hm
      have e1 : μ 242 0 = nI (row.getD 0 0) := hL.2.2 0 hpos
      have e0 : ¬ μ 231 12 = 0 := by
        rw [hL.2.1]
        intro e
        have := (nI_eq (a := row.length) (b := 0) (by omega) (by decide)).mp e
        omega
      unfold zv_twd
      generalize row.getD 0 0 = k at hm hk ht e1 ⊢
      rcases zR_shn (D + 24) h hk with ⟨⟨N3, E3⟩, s, hs, hsh⟩ | ⟨⟨N3, E3⟩, hns⟩
      · obtain ⟨ξ, lo, q1, q2, f, ⟨q3, N4, E4⟩ | ⟨i, hi, q4, q5, N4, E4⟩⟩ := zR_nbr D h hk hs (by omega : sd < 4) hsh.1 hsh.2.1
        · have m1 : ¬ (0 : Int32) ≤ -1 := by decide
          refine ⟨ξ, -1000000005, ze_in [(0, .ref 232), (1, .int (nI sd))] zq_Mod_toward (Nat.le_of_ble_eq_true rfl) rfl ⟨N2 + N3 + N4, 27, fun F n hF => ?_⟩, Or.inr ⟨sd, s, ξ, lo, by omega, hs, rfl, c, hsh, q1, q2, f, Or.inl ⟨q3, rfl⟩⟩⟩
          simp [zg_0, zg_aload_n, zg_getfield, zg_iaload, zg_iconst, zg_ifCond, zg_iload_n, zg_invokestatic, zg_invokevirtual, zg_ireturn, zg_istore_n, zg_ldc, zg_ldc_w, zf_X6_toward, zi_ld, zi_lda, zi_cmp, zi_retOk, zi_isI, zi_f3, zi_cr, zi_ci, zi_cn, zi_get, zi_set, zM_g, cM, zq_Mod_isIn, zq_Mod_isShown, zq_Mod_neighbourOf, E2 F (by omega), E3 F (by omega), E4 F (by omega), e0, zm_iald (k := 0) zM_A242 i0, z0, e1, m1, n5]
        · have m1 : (0 : Int32) ≤ nI i := Int32.not_lt.mp (nI_pos (by omega))
          have h2 := h.fr f.fr
          obtain ⟨lc2, cM2⟩ := zM_c (μ := ξ)
          obtain ⟨ν, ⟨N5, E5⟩, q6⟩ := zR_focused (D + 16) h2 hi (by rw [f _ _ (by omega) (by omega), q4]; decide)
          refine ⟨ν, nI i, ze_in [(0, .ref 232), (1, .int (nI sd))] zq_Mod_toward (Nat.le_of_ble_eq_true rfl) rfl ⟨N2 + N3 + N4 + N5, 30, fun F n hF => ?_⟩, Or.inr ⟨sd, s, ξ, lo, by omega, hs, rfl, c, hsh, q1, q2, f, Or.inr ⟨i, hi, q4, q5, q6⟩⟩⟩
          simp [zg_0, zg_aload_n, zg_getfield, zg_iaload, zg_iconst, zg_ifCond, zg_iload_n, zg_invokestatic, zg_invokevirtual, zg_ireturn, zg_istore_n, zg_ldc, zg_ldc_w, zf_X6_toward, zi_ld, zi_lda, zi_cmp, zi_retOk, zi_isI, zi_f3, zi_cr, zi_ci, zi_cn, zi_get, zi_set, zM_g, cM, cM2, zq_Mod_isIn, zq_Mod_isShown, zq_Mod_neighbourOf, zq_Mod_focused, E2 F (by omega), E3 F (by omega), E4 F (by omega), E5 F (by omega), e0, zm_iald (k := 0) zM_A242 i0, z0, e1, m1]
      · refine ⟨μ, -1000000002, ze_in [(0, .ref 232), (1, .int (nI sd))] zq_Mod_toward (Nat.le_of_ble_eq_true rfl) rfl ⟨N2 + N3, 17, fun F n hF => ?_⟩, Or.inl ⟨fun _ _ _ s hs _ => hns s hs, rfl⟩⟩
        simp [zg_0, zg_aload_n, zg_getfield, zg_iaload, zg_iconst, zg_ifCond, zg_iload_n, zg_invokestatic, zg_invokevirtual, zg_ireturn, zg_istore_n, zg_ldc, zg_ldc_w, zf_X6_toward, zi_ld, zi_lda, zi_cmp, zi_retOk, zi_isI, zi_f3, zi_cr, zi_ci, zi_cn, zi_get, zi_set, zM_g, cM, zq_Mod_isIn, zq_Mod_isShown, E2 F (by omega), E3 F (by omega), e0, zm_iald (k := 0) zM_A242 i0, z0, e1, n2]
  · refine ⟨μ, -1000000001, ze_in [(0, .ref 232), (1, .int x)] zq_Mod_toward (Nat.le_of_ble_eq_true rfl) rfl ⟨N2, 7, fun F n hF => ?_⟩, Or.inl ⟨fun sd hsd e => absurd e (hno sd (by omega)), rfl⟩⟩
    simp [zg_0, zg_aload_n, zg_getfield, zg_iaload, zg_iconst, zg_ifCond, zg_iload_n, zg_invokestatic, zg_invokevirtual, zg_ireturn, zg_istore_n, zg_ldc, zg_ldc_w, zf_X6_toward, zi_ld, zi_lda, zi_cmp, zi_retOk, zi_isI, zi_f3, zi_cr, zi_ci, zi_cn, zi_get, zi_set, zq_Mod_isIn, E2 F (by omega), n1]
/-- move: refused, or what is kept with the window is forgotten -/
def zv_mov (μ ν : zm_M) (w x y : Int32) : Prop :=
  (¬ (∃ k, k < 10 ∧ w = nI k ∧ (¬ μ 234 k = 0 ∧ ¬ μ 234 k = 1) ∧ (-1000 ≤ x ∧ x ≤ 1000) ∧ -1000 ≤ y ∧ y ≤ 1000) ∧ ν = μ) ∨ ∃ k ξ, k < 10 ∧ w = nI k ∧ (¬ μ 234 k = 0 ∧ ¬ μ 234 k = 1) ∧ ((-1000 ≤ x ∧ x ≤ 1000) ∧ -1000 ≤ y ∧ y ≤ 1000) ∧ (∀ c d, c ≠ 239 → c ≠ 240 → ξ c d = μ c d) ∧ ν = zv_fg ξ k
theorem zR_kd (h : zR μ row stk us) {k : Nat} (hk : k < 10) (c : ¬ μ 234 k = 0) : μ 234 k = 1 ∨ μ 234 k = 2 ∨ μ 234 k = 3 ∨ μ 234 k = 4 := (h.1 k hk).resolve_left c
set_option maxRecDepth 100000 in
theorem ze_Mmove (D : Nat) (h : zR μ row stk us) (w x y : Int32) : ∃ ν v, ze_E (D + 4) A_Mod_move [.ref 232, .int w, .int x, .int y] (zm_mk μ) (some (.int v)) (zm_mk ν) ∧ zv_mov μ ν w x y := by
  have n1 : Int32.ofInt (-1000000001) = -1000000001 := by decide
  have n2 : Int32.ofInt (-1000000002) = -1000000002 := by decide
  have h1 : (Int16.ofInt (-1000)).toInt32 = (-1000 : Int32) := by decide
  have h2 : (Int16.ofInt 1000).toInt32 = (1000 : Int32) := by decide
  have h4 : (Int16.ofInt 400).toInt32 = (400 : Int32) := by decide
  obtain ⟨lc, cM⟩ := zM_c (μ := μ)
  rcases zR_win (D + 1) h w with ⟨k, hk, rfl, c0, N1, E1⟩ | ⟨⟨N1, E1⟩, c0⟩
  · have ik : zi_in (nI k) 10 = true := zm_in hk (by decide)
    have ck : (nI k).toNatClampNeg = k := nI_clamp (by omega)
    obtain ⟨N2, E2⟩ := ze_isIn (h := zm_mk μ) (D + 2) x (-1000) 1000
    by_cases c1 : -1000 ≤ x ∧ x ≤ 1000
    · rw [if_pos c1] at E2
      obtain ⟨N3, E3⟩ := ze_isIn (h := zm_mk μ) (D + 2) y (-1000) 1000
      by_cases c2 : -1000 ≤ y ∧ y ≤ 1000
      · rw [if_pos c2] at E3
        obtain ⟨N4, E4⟩ := ze_MisFloating (μ := μ) (D + 2) hk
        by_cases c3 : μ 234 k = 1
        · rw [if_neg (fun z => (zR_fl h hk c0).mp z c3)] at E4
          refine ⟨μ, -1000000002, ze_in [(0, .ref 232), (1, .int (nI k)), (2, .int x), (3, .int y)] zq_Mod_move (Nat.le_of_ble_eq_true rfl) rfl ⟨N1 + N2 + N3 + N4, 20, fun F n hF => ?_⟩, Or.inl ⟨fun ⟨j, hj, e, z, _⟩ => ?_, rfl⟩⟩
          · simp [zg_0, zg_aload_n, zg_getfield, zg_goto, zg_iaload, zg_iastore, zg_iconst, zg_ifCond, zg_if_icmp, zg_iload_n, zg_invokestatic, zg_invokevirtual, zg_ireturn, zg_ldc, zg_sipush, zf_X6_move, zi_ld, zi_lda, zi_cmp, zi_retOk, zi_isI, zi_f3, zi_cr, zi_ci, zi_cn, zi_get, zi_set, h1, h2, cM, zq_Mod_isWindow, zq_Mod_isIn, zq_Mod_isFloating, E1 F (by omega), E2 F (by omega), E3 F (by omega), E4 F (by omega), n2]
          · rw [← (nI_eq (by omega) (by omega)).mp e] at z
            exact z.2 c3
        · rw [if_pos ((zR_fl h hk c0).mpr c3)] at E4
          by_cases c4 : μ 234 k = 4
          · obtain ⟨N5, E5⟩ := ze_Mnearest (h := zm_mk μ) (D + 2) x 400
            generalize zv_ne x 400 = p at E5
            obtain ⟨N6, E6⟩ := ze_Mnearest (h := zm_mk (zm_up μ 239 k p)) (D + 2) y 400
            generalize zv_ne y 400 = q at E6
            have f : ∀ c d, c ≠ 239 → c ≠ 240 → zm_up (zm_up μ 239 k p) 240 k q c d = μ c d := fun c d a b => by rw [zm_up_ne (by omega), zm_up_ne (by omega)]
            obtain ⟨N7, E7⟩ := ze_Mforget (μ := zm_up (zm_up μ 239 k p) 240 k q) (D + 2) hk
            obtain ⟨lc2, cM2⟩ := zM_c (μ := zm_up (zm_up μ 239 k p) 240 k q)
            refine ⟨zv_fg (zm_up (zm_up μ 239 k p) 240 k q) k, 0, ze_in [(0, .ref 232), (1, .int (nI k)), (2, .int x), (3, .int y)] zq_Mod_move (Nat.le_of_ble_eq_true rfl) rfl ⟨N1 + N2 + N3 + N4 + N5 + N6 + N7, 44, fun F n hF => ?_⟩, Or.inr ⟨k, _, hk, rfl, ⟨c0, c3⟩, ⟨c1, c2⟩, f, rfl⟩⟩
            simp [zg_0, zg_aload_n, zg_getfield, zg_goto, zg_iaload, zg_iastore, zg_iconst, zg_ifCond, zg_if_icmp, zg_iload_n, zg_invokestatic, zg_invokevirtual, zg_ireturn, zg_ldc, zg_sipush, zf_X6_move, zi_ld, zi_lda, zi_cmp, zi_retOk, zi_isI, zi_f3, zi_cr, zi_ci, zi_cn, zi_get, zi_set, zM_g, h1, h2, h4, cM, cM2, zq_Mod_isWindow, zq_Mod_isIn, zq_Mod_isFloating, zq_Mod_nearest, zq_Mod_forget, E1 F (by omega), E2 F (by omega), E3 F (by omega), E4 F (by omega), E5 F (by omega), E6 F (by omega), E7 F (by omega), zm_iald (k := 0) zM_A234 ik, ck, c4, zm_iast zM_A239 ik, zm_iast zM_A240 ik]
          · obtain ⟨s, hs, hh, -, -⟩ := h.2.2.2.2.2.1 k hk c0 c4
            obtain ⟨p, q, ⟨N5, E5⟩, -, -⟩ := ze_MputAt (μ := μ) (D + 1) hk hs x y
            have f : ∀ c d, c ≠ 239 → c ≠ 240 → zv_put μ k s p q c d = μ c d := fun c d a b => by
              unfold zv_put
              rw [zm_up_ne (by omega), zm_up_ne (by omega)]
              by_cases e : c = 238 ∧ d = k
              · rw [e.1, e.2, zm_up_eq, hh]
              · rw [zm_up_ne e]
            generalize zv_put μ k s p q = ξ at E5 f
            obtain ⟨N7, E7⟩ := ze_Mforget (μ := ξ) (D + 2) hk
            obtain ⟨lc2, cM2⟩ := zM_c (μ := ξ)
            refine ⟨zv_fg ξ k, 0, ze_in [(0, .ref 232), (1, .int (nI k)), (2, .int x), (3, .int y)] zq_Mod_move (Nat.le_of_ble_eq_true rfl) rfl ⟨N1 + N2 + N3 + N4 + N5 + N7, 38, fun F n hF => ?_⟩, Or.inr ⟨k, _, hk, rfl, ⟨c0, c3⟩, ⟨c1, c2⟩, f, rfl⟩⟩
            simp [zg_0, zg_aload_n, zg_getfield, zg_goto, zg_iaload, zg_iastore, zg_iconst, zg_ifCond, zg_if_icmp, zg_iload_n, zg_invokestatic, zg_invokevirtual, zg_ireturn, zg_ldc, zg_sipush, zf_X6_move, zi_ld, zi_lda, zi_cmp, zi_retOk, zi_isI, zi_f3, zi_cr, zi_ci, zi_cn, zi_get, zi_set, zM_g, h1, h2, h4, cM, cM2, zq_Mod_isWindow, zq_Mod_isIn, zq_Mod_isFloating, zq_Mod_putAt, zq_Mod_forget, E1 F (by omega), E2 F (by omega), E3 F (by omega), E4 F (by omega), E5 F (by omega), E7 F (by omega), zm_iald (k := 0) zM_A234 ik, zm_iald (k := 0) zM_A238 ik, ck, c4, hh]
      · rw [if_neg c2] at E3
        refine ⟨μ, -1000000001, ze_in [(0, .ref 232), (1, .int (nI k)), (2, .int x), (3, .int y)] zq_Mod_move (Nat.le_of_ble_eq_true rfl) rfl ⟨N1 + N2 + N3, 16, fun F n hF => ?_⟩, Or.inl ⟨fun ⟨j, hj, e, z, z1, z2⟩ => c2 z2, rfl⟩⟩
        simp [zg_0, zg_aload_n, zg_getfield, zg_goto, zg_iaload, zg_iastore, zg_iconst, zg_ifCond, zg_if_icmp, zg_iload_n, zg_invokestatic, zg_invokevirtual, zg_ireturn, zg_ldc, zg_sipush, zf_X6_move, zi_ld, zi_lda, zi_cmp, zi_retOk, zi_isI, zi_f3, zi_cr, zi_ci, zi_cn, zi_get, zi_set, h1, h2, cM, zq_Mod_isWindow, zq_Mod_isIn, E1 F (by omega), E2 F (by omega), E3 F (by omega), n1]
    · rw [if_neg c1] at E2
      refine ⟨μ, -1000000001, ze_in [(0, .ref 232), (1, .int (nI k)), (2, .int x), (3, .int y)] zq_Mod_move (Nat.le_of_ble_eq_true rfl) rfl ⟨N1 + N2, 11, fun F n hF => ?_⟩, Or.inl ⟨fun ⟨j, hj, e, z, z1, z2⟩ => c1 z1, rfl⟩⟩
      simp [zg_0, zg_aload_n, zg_getfield, zg_goto, zg_iaload, zg_iastore, zg_iconst, zg_ifCond, zg_if_icmp, zg_iload_n, zg_invokestatic, zg_invokevirtual, zg_ireturn, zg_ldc, zg_sipush, zf_X6_move, zi_ld, zi_lda, zi_cmp, zi_retOk, zi_isI, zi_f3, zi_cr, zi_ci, zi_cn, zi_get, zi_set, h1, h2, cM, zq_Mod_isWindow, zq_Mod_isIn, E1 F (by omega), E2 F (by omega), n1]
  · refine ⟨μ, -1000000001, ze_in [(0, .ref 232), (1, .int w), (2, .int x), (3, .int y)] zq_Mod_move (Nat.le_of_ble_eq_true rfl) rfl ⟨N1, 6, fun F n hF => ?_⟩, Or.inl ⟨fun ⟨j, hj, e, z, _⟩ => z.1 (c0 j hj e), rfl⟩⟩
    simp [zg_0, zg_aload_n, zg_getfield, zg_goto, zg_iaload, zg_iastore, zg_iconst, zg_ifCond, zg_if_icmp, zg_iload_n, zg_invokestatic, zg_invokevirtual, zg_ireturn, zg_ldc, zg_sipush, zf_X6_move, zi_ld, zi_lda, zi_cmp, zi_retOk, zi_isI, zi_f3, zi_cr, zi_ci, zi_cn, zi_get, zi_set, cM, zq_Mod_isWindow, E1 F (by omega), n1]
end ZWC
