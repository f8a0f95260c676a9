/-! places: the reference's areas, and where its open puts a window -/
/-- what the reference's areaOf answers -/
def zv_av (μ : zm_M) (us : Nat → zy_F) (k a : Nat) (v : Int32) : Prop :=
  (a = 0 → v = if μ 234 k = 4 then -1000000005 else μ 238 k) ∧
  (¬ a = 0 → ¬ μ 234 k = 1 → v = μ (if a = 1 then 239 else if a = 2 then 240 else if a = 3 then 235 else 236) k) ∧
  (¬ a = 0 → μ 234 k = 1 → ∃ q m ν, q < 3 ∧ μ 238 k = nI q ∧ zv_laid μ ν q (us q) ∧ zu_at μ q (us q) k m ∧ v = ν (254 + a) m)
section ZXA
variable {μ ν M : zm_M} {row stk ord : List Nat} {us : Nat → zy_F} {k s : Nat}
theorem zy_ls_cg {a : Nat} {fm lf lf' : Nat → Int32} : ∀ t, zy_wf t → (∀ n ∈ zy_lvs t, lf' n = lf n) → zy_ls a fm lf' t = zy_ls a fm lf t := by
  apply zy_ind
  · intro n h
    exact h n List.mem_cons_self
  · intro n x y _ _ ia ib h
    have ea := ia (fun m hm => h m (List.mem_append_left _ hm))
    have eb := ib (fun m hm => h m (List.mem_append_right _ hm))
    show (if fm n = nI a then zy_ls a fm lf' x + zy_ls a fm lf' y else zi_mx (zy_ls a fm lf' x) (zy_ls a fm lf' y)) = if fm n = nI a then zy_ls a fm lf x + zy_ls a fm lf y else zi_mx (zy_ls a fm lf x) (zy_ls a fm lf y)
    rw [ea, eb]
theorem zy_laid_cg {P : Nat → Int32 → Int32 → Int32 → Int32 → Prop} {fm sh lf0 lf1 lf0' lf1' : Nat → Int32} : ∀ t, zy_wf t → (∀ n ∈ zy_lvs t, lf0' n = lf0 n ∧ lf1' n = lf1 n) → ∀ x y w v, zy_laid P fm sh (zy_ls 0 fm lf0) (zy_ls 1 fm lf1) t x y w v → zy_laid P fm sh (zy_ls 0 fm lf0') (zy_ls 1 fm lf1') t x y w v := by
  apply zy_ind
  · intro n _ x y w v h
    exact h
  · intro n a b wa wb ia ib h x y w v hl
    have ha : ∀ m ∈ zy_lvs a, lf0' m = lf0 m ∧ lf1' m = lf1 m := fun m hm => h m (List.mem_append_left _ hm)
    have hb : ∀ m ∈ zy_lvs b, lf0' m = lf0 m ∧ lf1' m = lf1 m := fun m hm => h m (List.mem_append_right _ hm)
    have a0 := zy_ls_cg (a := 0) (fm := fm) a wa (fun m hm => (ha m hm).1)
    have a1 := zy_ls_cg (a := 1) (fm := fm) a wa (fun m hm => (ha m hm).2)
    have b0 := zy_ls_cg (a := 0) (fm := fm) b wb (fun m hm => (hb m hm).1)
    have b1 := zy_ls_cg (a := 1) (fm := fm) b wb (fun m hm => (hb m hm).2)
    obtain ⟨h1, h2⟩ := hl
    rw [← a0, ← a1, ← b0, ← b1] at h2
    refine ⟨h1, ?_⟩
    by_cases e : fm n = 0
    · rw [if_pos e] at h2 ⊢
      exact ⟨ia ha _ _ _ _ h2.1, ib hb _ _ _ _ h2.2⟩
    · rw [if_neg e] at h2 ⊢
      exact ⟨ia ha _ _ _ _ h2.1, ib hb _ _ _ _ h2.2⟩
/-- the same areas where what they rest on is the same -/
theorem zv_laid_cg {X : zm_M} {q : Nat} {u : zy_F} (e4 : ∀ d, X 244 d = μ 244 d) (e7 : ∀ d, X 247 d = μ 247 d) (e2 : X 232 q = μ 232 q) (e3 : X 233 q = μ 233 q) (hl : ∀ n ∈ zy_lvs u, ∀ a, a < 2 → zu_lf X q a n = zu_lf μ q a n) (h : zv_laid X ν q u) : zv_laid μ ν q u := by
  intro w
  have h := h w
  have ef : zu_fm X q = zu_fm μ q := funext fun n => by
    unfold zu_fm
    rw [e4]
  have es : (fun n => X 247 (24 * q + n)) = fun n => μ 247 (24 * q + n) := funext fun n => e7 _
  unfold zu_lsz at h ⊢
  rw [ef, es, e2, e3] at h
  exact zy_laid_cg u w (fun n hn => ⟨(hl n hn 0 (by decide)).symm, (hl n hn 1 (by decide)).symm⟩) _ _ _ _ h
theorem zv_laid_frs {X : zm_M} {q : Nat} {u : zy_F} (f : zM_frs μ X) (h : zv_laid X ν q u) : zv_laid μ ν q u := by
  have g : ∀ c d, c ≠ 231 → c < 255 → X c d = μ c d := fun c d h1 h2 => f c d (by omega) (by omega) (by omega) (by omega)
  refine zv_laid_cg (fun d => g _ d (by decide) (by decide)) (fun d => g _ d (by decide) (by decide)) (g _ _ (by decide) (by decide)) (g _ _ (by decide) (by decide)) (fun n _ a ha => ?_) h
  unfold zu_lf
  rw [zu_tb_cells (μ := μ) (ν := X) (fun d => ⟨g _ d (by decide) (by decide), g _ d (by decide) (by decide)⟩)]
  exact zl_fold_congr (F := zi_mx) _ _ (fun w _ => g _ w (by omega) (by omega))
theorem zM_frs.symm (f : zM_frs μ ν) : zM_frs ν μ := fun c d h1 h2 h3 h4 => (f c d h1 h2 h3 h4).symm
theorem zv_av_frs {X : zm_M} {a : Nat} {v : Int32} (f : zM_frs μ X) (hA : zv_arg X us k) (h : zv_av X us k a v) (ha : a < 5) : zv_av μ us k a v := by
  have g : ∀ c d, c ≠ 231 → c < 255 → X c d = μ c d := fun c d h1 h2 => f c d (by omega) (by omega) (by omega) (by omega)
  obtain ⟨h0, h1, h2⟩ := h
  refine ⟨fun z => ?_, fun z z2 => ?_, fun z z2 => ?_⟩
  · rw [h0 z, g 234 k (by decide) (by decide), g 238 k (by decide) (by decide)]
  · rw [h1 z (by rw [g 234 k (by decide) (by decide)]; exact z2)]
    rcases (by omega : a = 1 ∨ a = 2 ∨ a = 3 ∨ a = 4) with rfl | rfl | rfl | rfl
    · exact g 239 k (by decide) (by decide)
    · exact g 240 k (by decide) (by decide)
    · exact g 235 k (by decide) (by decide)
    · exact g 236 k (by decide) (by decide)
  · have c1 : X 234 k = 1 := by rw [g 234 k (by decide) (by decide)]; exact z2
    obtain ⟨q, m, ν, r1, r2, r3, r4, r5⟩ := h2 z c1
    obtain ⟨q', m', ab, t1, t2, t3, t4⟩ := hA.2 c1
    have e : q = q' := (nI_eq (by omega) (by omega)).mp (r2.symm.trans t2)
    subst e
    refine ⟨q, m, ν, r1, by rw [← g 238 k (by decide) (by decide)]; exact r2, zv_laid_frs f r3, zu_at_eqT t3 f.symm.w.eqT r4, r5⟩

set_option maxRecDepth 100000 in
theorem ze_MareaOfG_v (D : Nat) {k : Nat} (hk : k < 10) (h : zv_arg μ us k) {a : Nat} (ha : a < 5) : ∃ ν v, ze_E (D + 28) A_Mod_areaOf [.ref 232, .int (nI k), .int (nI a)] (zm_mk μ) (some (.int v)) (zm_mk ν) ∧ zM_frs μ ν ∧ zv_av μ us k a v := by
  have n5 : Int32.ofInt (-1000000005) = -1000000005 := by decide
  obtain ⟨lc, cM⟩ := zM_c (μ := μ)
  have ik : zi_in (nI k) 10 = true := zm_in hk (by decide)
  have ck : (nI k).toNatClampNeg = k := nI_clamp (by omega)
  have a0 : nI 0 = (0 : Int32) := by decide
  have a1 : nI 1 = (1 : Int32) := by decide
  have a2 : nI 2 = (2 : Int32) := by decide
  have a3 : nI 3 = (3 : Int32) := by decide
  have a4 : nI 4 = (4 : Int32) := by decide
  by_cases c : a = 0
  · subst c
    rw [a0]
    by_cases c1 : μ 234 k = 4
    · refine ⟨μ, -1000000005, ze_in [(0, .ref 232), (1, .int (nI k)), (2, .int 0)] zq_Mod_areaOf (Nat.le_of_ble_eq_true rfl) rfl ⟨0, 11, fun F n hF => ?_⟩, zM_frs.refl, fun _ => (if_pos c1).symm, fun z => absurd rfl z, fun z => absurd rfl z⟩
      simp [zi_go, zf_X6_areaOf, zi_ask, zi_new, zi_step, zi_ld, zi_lda, zi_cmp, zi_retOk, zi_isI, zi_f3, zi_cr, zi_ci, zi_cn, zi_get, zi_set, zM_g, zm_iald (k := 0) zM_A234 ik, ck, c1, n5]
    · refine ⟨μ, μ 238 k, ze_in [(0, .ref 232), (1, .int (nI k)), (2, .int 0)] zq_Mod_areaOf (Nat.le_of_ble_eq_true rfl) rfl ⟨0, 13, fun F n hF => ?_⟩, zM_frs.refl, fun _ => (if_neg c1).symm, fun z => absurd rfl z, fun z => absurd rfl z⟩
      simp [zi_go, zf_X6_areaOf, zi_ask, zi_new, zi_step, zi_ld, zi_lda, zi_cmp, zi_retOk, zi_isI, zi_f3, zi_cr, zi_ci, zi_cn, zi_get, zi_set, zM_g, zm_iald (k := 0) zM_A234 ik, zm_iald (k := 0) zM_A238 ik, ck, c1]
  · obtain ⟨N1, E1⟩ := ze_MisFloating (μ := μ) (D + 26) hk
    by_cases c1 : μ 234 k = 1
    · rw [if_neg (fun z => h.1.mp z c1)] at E1
      obtain ⟨q, m, ab, hq, hh, hI, hat⟩ := h.2 c1
      obtain ⟨ν, ⟨N2, E2⟩, hl, -, f⟩ := ze_MlayAll (μ := μ) D hq hI
      obtain ⟨lc1, cM1⟩ := zM_c (μ := ν)
      have hT := zv_frY_eqT (τ := q) f
      obtain ⟨N3, E3⟩ := ze_MleafOf_at (μ := ν) (D + 24) (by omega) (hT.I hI) hk (zu_at_eqT hI hT hat)
      have e8 : ν 238 k = nI q := (f _ _ (by omega) (by omega)).trans hh
      have hm24 := zu_I_lt hI hat.1
      have im : zi_in (nI m) 24 = true := zm_in hm24 (by decide)
      have cm : (nI m).toNatClampNeg = m := nI_clamp (by omega)
      rcases (by omega : a = 1 ∨ a = 2 ∨ a = 3 ∨ a = 4) with rfl | rfl | rfl | rfl
      · rw [a1]
        refine ⟨ν, ν 255 m, ze_in [(0, .ref 232), (1, .int (nI k)), (2, .int 1)] zq_Mod_areaOf (Nat.le_of_ble_eq_true rfl) rfl ⟨N1 + N2 + N3, 29, fun F n hF => ?_⟩, f.frs, fun z => absurd z (by decide), fun _ z => absurd c1 z, fun _ _ => ⟨q, m, ν, hq, hh, hl, hat, rfl⟩⟩
        simp [zi_go, zf_X6_areaOf, zi_ask, zi_new, zi_step, zi_ld, zi_lda, zi_cmp, zi_retOk, zi_isI, zi_f3, zi_cr, zi_ci, zi_cn, zi_get, zi_set, zM_g, cM, cM1, zq_Mod_isFloating, zq_Mod_layAll, zq_Mod_leafOf, E1 F (by omega), E2 F (by omega), E3 F (by omega), zm_iald (k := 0) zM_A238 ik, ck, hh, e8, zm_iald (k := 0) zM_A255 im, cm]
      · rw [a2]
        refine ⟨ν, ν 256 m, ze_in [(0, .ref 232), (1, .int (nI k)), (2, .int 2)] zq_Mod_areaOf (Nat.le_of_ble_eq_true rfl) rfl ⟨N1 + N2 + N3, 32, fun F n hF => ?_⟩, f.frs, fun z => absurd z (by decide), fun _ z => absurd c1 z, fun _ _ => ⟨q, m, ν, hq, hh, hl, hat, rfl⟩⟩
        simp [zi_go, zf_X6_areaOf, zi_ask, zi_new, zi_step, zi_ld, zi_lda, zi_cmp, zi_retOk, zi_isI, zi_f3, zi_cr, zi_ci, zi_cn, zi_get, zi_set, zM_g, cM, cM1, zq_Mod_isFloating, zq_Mod_layAll, zq_Mod_leafOf, E1 F (by omega), E2 F (by omega), E3 F (by omega), zm_iald (k := 0) zM_A238 ik, ck, hh, e8, zm_iald (k := 0) zM_A256 im, cm]
      · rw [a3]
        refine ⟨ν, ν 257 m, ze_in [(0, .ref 232), (1, .int (nI k)), (2, .int 3)] zq_Mod_areaOf (Nat.le_of_ble_eq_true rfl) rfl ⟨N1 + N2 + N3, 35, fun F n hF => ?_⟩, f.frs, fun z => absurd z (by decide), fun _ z => absurd c1 z, fun _ _ => ⟨q, m, ν, hq, hh, hl, hat, rfl⟩⟩
        simp [zi_go, zf_X6_areaOf, zi_ask, zi_new, zi_step, zi_ld, zi_lda, zi_cmp, zi_retOk, zi_isI, zi_f3, zi_cr, zi_ci, zi_cn, zi_get, zi_set, zM_g, cM, cM1, zq_Mod_isFloating, zq_Mod_layAll, zq_Mod_leafOf, E1 F (by omega), E2 F (by omega), E3 F (by omega), zm_iald (k := 0) zM_A238 ik, ck, hh, e8, zm_iald (k := 0) zM_A257 im, cm]
      · rw [a4]
        refine ⟨ν, ν 258 m, ze_in [(0, .ref 232), (1, .int (nI k)), (2, .int 4)] zq_Mod_areaOf (Nat.le_of_ble_eq_true rfl) rfl ⟨N1 + N2 + N3, 34, fun F n hF => ?_⟩, f.frs, fun z => absurd z (by decide), fun _ z => absurd c1 z, fun _ _ => ⟨q, m, ν, hq, hh, hl, hat, rfl⟩⟩
        simp [zi_go, zf_X6_areaOf, zi_ask, zi_new, zi_step, zi_ld, zi_lda, zi_cmp, zi_retOk, zi_isI, zi_f3, zi_cr, zi_ci, zi_cn, zi_get, zi_set, zM_g, cM, cM1, zq_Mod_isFloating, zq_Mod_layAll, zq_Mod_leafOf, E1 F (by omega), E2 F (by omega), E3 F (by omega), zm_iald (k := 0) zM_A238 ik, ck, hh, e8, zm_iald (k := 0) zM_A258 im, cm]
    · rw [if_pos (h.1.mpr c1)] at E1
      rcases (by omega : a = 1 ∨ a = 2 ∨ a = 3 ∨ a = 4) with rfl | rfl | rfl | rfl
      · rw [a1]
        refine ⟨μ, μ 239 k, ze_in [(0, .ref 232), (1, .int (nI k)), (2, .int 1)] zq_Mod_areaOf (Nat.le_of_ble_eq_true rfl) rfl ⟨N1, 15, fun F n hF => ?_⟩, zM_frs.refl, fun z => absurd z (by decide), fun _ _ => rfl, fun _ z => absurd z c1⟩
        simp [zi_go, zf_X6_areaOf, zi_ask, zi_new, zi_step, zi_ld, zi_lda, zi_cmp, zi_retOk, zi_isI, zi_f3, zi_cr, zi_ci, zi_cn, zi_get, zi_set, zM_g, cM, zq_Mod_isFloating, E1 F (by omega), zm_iald (k := 0) zM_A239 ik, ck]
      · rw [a2]
        refine ⟨μ, μ 240 k, ze_in [(0, .ref 232), (1, .int (nI k)), (2, .int 2)] zq_Mod_areaOf (Nat.le_of_ble_eq_true rfl) rfl ⟨N1, 18, fun F n hF => ?_⟩, zM_frs.refl, fun z => absurd z (by decide), fun _ _ => rfl, fun _ z => absurd z c1⟩
        simp [zi_go, zf_X6_areaOf, zi_ask, zi_new, zi_step, zi_ld, zi_lda, zi_cmp, zi_retOk, zi_isI, zi_f3, zi_cr, zi_ci, zi_cn, zi_get, zi_set, zM_g, cM, zq_Mod_isFloating, E1 F (by omega), zm_iald (k := 0) zM_A240 ik, ck]
      · rw [a3]
        refine ⟨μ, μ 235 k, ze_in [(0, .ref 232), (1, .int (nI k)), (2, .int 3)] zq_Mod_areaOf (Nat.le_of_ble_eq_true rfl) rfl ⟨N1, 21, fun F n hF => ?_⟩, zM_frs.refl, fun z => absurd z (by decide), fun _ _ => rfl, fun _ z => absurd z c1⟩
        simp [zi_go, zf_X6_areaOf, zi_ask, zi_new, zi_step, zi_ld, zi_lda, zi_cmp, zi_retOk, zi_isI, zi_f3, zi_cr, zi_ci, zi_cn, zi_get, zi_set, zM_g, cM, zq_Mod_isFloating, E1 F (by omega), zm_iald (k := 0) zM_A235 ik, ck]
      · rw [a4]
        refine ⟨μ, μ 236 k, ze_in [(0, .ref 232), (1, .int (nI k)), (2, .int 4)] zq_Mod_areaOf (Nat.le_of_ble_eq_true rfl) rfl ⟨N1, 20, fun F n hF => ?_⟩, zM_frs.refl, fun z => absurd z (by decide), fun _ _ => rfl, fun _ z => absurd z c1⟩
        simp [zi_go, zf_X6_areaOf, zi_ask, zi_new, zi_step, zi_ld, zi_lda, zi_cmp, zi_retOk, zi_isI, zi_f3, zi_cr, zi_ci, zi_cn, zi_get, zi_set, zM_g, cM, zq_Mod_isFloating, E1 F (by omega), zm_iald (k := 0) zM_A236 ik, ck]

theorem ze_MareaOf_v (D : Nat) (h : zR μ row stk us) {k : Nat} (hk : k < 10) (ht : ¬ μ 234 k = 0) {a : Nat} (ha : a < 5) : ∃ ν v, ze_E (D + 28) A_Mod_areaOf [.ref 232, .int (nI k), .int (nI a)] (zm_mk μ) (some (.int v)) (zm_mk ν) ∧ zM_frs μ ν ∧ zv_av μ us k a v :=
  ze_MareaOfG_v D hk ⟨zR_fl h hk ht, fun c => zR_til h hk c⟩ ha
theorem zx_x2 (x : Int32) : 0 ≤ x ^^^ 2 ↔ 0 ≤ x := by
  have t : ∀ y : Int32, 0 ≤ y ↔ y.toBitVec.msb = false := fun y => by
    rw [Int32.le_iff_toInt_le]
    show (0 : Int32).toInt ≤ y.toBitVec.toInt ↔ _
    rw [show (0 : Int32).toInt = 0 by decide]
    have := BitVec.msb_eq_toInt (x := y.toBitVec)
    constructor
    · intro z
      rw [this]
      exact decide_eq_false (by omega)
    · intro z
      rw [this] at z
      have := of_decide_eq_false z
      omega
  rw [t, t, Int32.toBitVec_xor, BitVec.msb_xor, show (2 : Int32).toBitVec.msb = false by decide, Bool.xor_false]
theorem zx_sub0 (x y : Int32) : x - y = 0 ↔ y = x := by
  constructor
  · intro e
    have := congrArg (· + y) e
    simp only [Int32.sub_add_cancel, Int32.zero_add] at this
    exact this.symm
  · intro e
    rw [e, Int32.sub_self]
set_option maxRecDepth 100000 in
theorem ze_Mhalf_v {h : zi_Hp} (D : Nat) (v : Int32) : ze_E (D + 1) A_Mod_half [.int v] h (some (.int (zx_fd v))) h := by
  unfold zx_fd
  have h2 : ¬ (2 : Int32) = 0 := by decide
  by_cases c1 : v < 0
  · have c1' : ¬ (0 : Int32) ≤ v := Int32.not_le.mpr c1
    rw [if_neg (fun z => c1' ((zx_x2 v).mp z))]
    by_cases c2 : v - v / 2 * 2 = 0
    · rw [if_pos ((zx_sub0 _ _).mp c2)]
      refine ze_in [(0, .int v)] zq_Mod_half (Nat.le_of_ble_eq_true rfl) rfl ⟨0, 10, fun F mm hF => ?_⟩
      simp [zi_go, zf_X6_half, zi_ask, zi_new, zi_step, zi_ld, zi_lda, zi_cmp, zi_retOk, zi_isI, zi_f3, zi_cr, zi_ci, zi_cn, zi_get, zi_set, c1, c1', c2, h2]
    · rw [if_neg (fun z => c2 ((zx_sub0 _ _).mpr z))]
      obtain ⟨q, hq⟩ := zv_opq (v / 2) 1
      rw [hq]
      refine ze_in [(0, .int v)] zq_Mod_half (Nat.le_of_ble_eq_true rfl) rfl ⟨0, 13, fun F mm hF => ?_⟩
      simp [zi_go, zf_X6_half, zi_ask, zi_new, zi_step, zi_ld, zi_lda, zi_cmp, zi_retOk, zi_isI, zi_f3, zi_cr, zi_ci, zi_cn, zi_get, zi_set, c1, c1', c2, h2, hq]
  · have c1' : (0 : Int32) ≤ v := Int32.not_lt.mp c1
    rw [if_pos ((zx_x2 v).mpr c1')]
    refine ze_in [(0, .int v)] zq_Mod_half (Nat.le_of_ble_eq_true rfl) rfl ⟨0, 6, fun F mm hF => ?_⟩
    simp [zi_go, zf_X6_half, zi_ask, zi_new, zi_step, zi_ld, zi_lda, zi_cmp, zi_retOk, zi_isI, zi_f3, zi_cr, zi_ci, zi_cn, zi_get, zi_set, c1, c1', h2]

set_option maxRecDepth 100000 in
theorem zv_op3_v (D : Nat) {j k s : Nat} {M : zm_M} (hj : j < 10) (hk : k < 10) (hs : s < 3) (ha : zv_arg M us j) {w v kd g : Int32} :
    ∃ M' p q L', ze_S (D + 28) 10 (some .int) zc_X6_open 293 [(7, .int (nI s)), (6, .int (nI k)), (5, .int g), (0, .ref 232), (1, .int kd), (2, .int w), (3, .int v), (4, .int (nI j))] [] (zm_mk M) 349 L' [] (zm_mk (zv_put M' k s p q)) ∧ zi_get L' 0 = some (.ref 232) ∧ zi_get L' 6 = some (.int (nI k)) ∧ zM_frs M M' ∧ ∃ x1 x3 y2 y4, zv_av M us j 1 x1 ∧ zv_av M us j 3 x3 ∧ zv_av M us j 2 y2 ∧ zv_av M us j 4 y4 ∧ p = zv_ne (x1 + zx_fd (x3 - w)) (M' 232 s - M' 235 k) ∧ q = zv_ne (y2 + zx_fd (y4 - v)) (M' 233 s - M' 236 k) := by
  have a1 : nI 1 = (1 : Int32) := by decide
  have a2 : nI 2 = (2 : Int32) := by decide
  have a3 : nI 3 = (3 : Int32) := by decide
  have a4 : nI 4 = (4 : Int32) := by decide
  obtain ⟨l0, c0⟩ := zM_c (μ := M)
  obtain ⟨M1, v1, ⟨N1, E1⟩, f1, A1⟩ := ze_MareaOfG_v (μ := M) D hj ha (a := 1) (by decide)
  obtain ⟨l1, c1⟩ := zM_c (μ := M1)
  obtain ⟨M2, v2, ⟨N2, E2⟩, f2, A2⟩ := ze_MareaOfG_v (μ := M1) D hj (ha.fr f1.w) (a := 3) (by decide)
  obtain ⟨l2, c2⟩ := zM_c (μ := M2)
  obtain ⟨M3, v3, ⟨N3, E3⟩, f3, A3⟩ := ze_MareaOfG_v (μ := M2) D hj ((ha.fr f1.w).fr f2.w) (a := 2) (by decide)
  obtain ⟨l3, c3⟩ := zM_c (μ := M3)
  obtain ⟨M4, v4, ⟨N4, E4⟩, f4, A4⟩ := ze_MareaOfG_v (μ := M3) D hj (((ha.fr f1.w).fr f2.w).fr f3.w) (a := 4) (by decide)
  obtain ⟨l4, c4⟩ := zM_c (μ := M4)
  rw [a1] at E1
  rw [a3] at E2
  rw [a2] at E3
  rw [a4] at E4
  obtain ⟨d1, hd1⟩ := zv_opq v2 w
  obtain ⟨d2, hd2⟩ := zv_opq v4 v
  obtain ⟨N5, E5⟩ := ze_Mhalf_v (h := zm_mk M2) (D + 27) d1
  obtain ⟨N6, E6⟩ := ze_Mhalf_v (h := zm_mk M4) (D + 27) d2
  generalize hr1 : zx_fd d1 = r1 at E5
  generalize hr2 : zx_fd d2 = r2 at E6
  obtain ⟨x, hx⟩ : ∃ x, v1 + r1 = x := ⟨_, rfl⟩
  obtain ⟨y, hy⟩ : ∃ y, v3 + r2 = y := ⟨_, rfl⟩
  obtain ⟨p, q, ⟨N7, E7⟩, hp, hq⟩ := ze_MputAt (μ := M4) (D + 26) hk hs x y
  have S1 : ze_S (D + 28) 10 (some .int) zc_X6_open 293 [(7, .int (nI s)), (6, .int (nI k)), (5, .int g), (0, .ref 232), (1, .int kd), (2, .int w), (3, .int v), (4, .int (nI j))] [] (zm_mk M) 315 [(8, .int x), (7, .int (nI s)), (6, .int (nI k)), (5, .int g), (0, .ref 232), (1, .int kd), (2, .int w), (3, .int v), (4, .int (nI j))] [] (zm_mk M2) := by
    refine ⟨N1 + N2 + N5, 13, fun F m hF => ?_⟩
    simp [zi_go, zf_X6_open, zi_ask, zi_new, zi_step, zi_ld, zi_lda, zi_cmp, zi_retOk, zi_isI, zi_f3, zi_cr, zi_ci, zi_cn, zi_get, zi_set, c0, c1, zq_Mod_areaOf, zq_Mod_half, E1 F (by omega), E2 F (by omega), E5 F (by omega), hd1, hx]
  have S2 : ze_S (D + 28) 10 (some .int) zc_X6_open 315 [(8, .int x), (7, .int (nI s)), (6, .int (nI k)), (5, .int g), (0, .ref 232), (1, .int kd), (2, .int w), (3, .int v), (4, .int (nI j))] [] (zm_mk M2) 337 [(9, .int y), (8, .int x), (7, .int (nI s)), (6, .int (nI k)), (5, .int g), (0, .ref 232), (1, .int kd), (2, .int w), (3, .int v), (4, .int (nI j))] [] (zm_mk M4) := by
    refine ⟨N3 + N4 + N6, 13, fun F m hF => ?_⟩
    simp [zi_go, zf_X6_open, zi_ask, zi_new, zi_step, zi_ld, zi_lda, zi_cmp, zi_retOk, zi_isI, zi_f3, zi_cr, zi_ci, zi_cn, zi_get, zi_set, c2, c3, zq_Mod_areaOf, zq_Mod_half, E3 F (by omega), E4 F (by omega), E6 F (by omega), hd2, hy]
  refine ⟨M4, p, q, [(9, .int y), (8, .int x), (7, .int (nI s)), (6, .int (nI k)), (5, .int g), (0, .ref 232), (1, .int kd), (2, .int w), (3, .int v), (4, .int (nI j))], S1.trans (S2.trans ⟨N7, 6, fun F m hF => ?_⟩), rfl, rfl, ((f1.trans f2).trans f3).trans f4, v1, v2, v3, v4, A1, zv_av_frs f1 (ha.fr f1.w) A2 (by decide), zv_av_frs (f1.trans f2) ((ha.fr f1.w).fr f2.w) A3 (by decide), zv_av_frs ((f1.trans f2).trans f3) (((ha.fr f1.w).fr f2.w).fr f3.w) A4 (by decide), by rw [hd1, hr1, hx]; exact hp, by rw [hd2, hr2, hy]; exact hq⟩
  simp [zi_go, zf_X6_open, zi_ask, zi_new, zi_step, zi_ld, zi_lda, zi_cmp, zi_retOk, zi_isI, zi_f3, zi_cr, zi_ci, zi_cn, zi_get, zi_set, c4, zq_Mod_putAt, E7 F (by omega)]

def zv_opnp (μ ν : zm_M) (us : Nat → zy_F) (kd w v o r : Int32) : Prop :=
  (zv_plc μ ν ∧ r < 0) ∨ ∃ k s, k < 10 ∧ s < 3 ∧ μ 234 k = 0 ∧ r = nI k ∧ (¬ kd = 4 → ν 238 k = nI s) ∧ zv_kpp μ ν ∧ (∀ j, j ≠ k → ν 239 j = μ 239 j ∧ ν 240 j = μ 240 j) ∧
    (kd = 1 ∨ (kd = 4 ∧ ν 239 k = 10 * nI k ∧ ν 240 k = 10 * nI k) ∨ ((kd = 2 ∨ kd = 3) ∧ ∃ x y, ν 239 k = zv_ne x (μ 232 s - w) ∧ ν 240 k = zv_ne y (μ 233 s - v) ∧
      ((kd = 2 ∧ x = 10 * nI k ∧ y = 10 * nI k) ∨ (kd = 3 ∧ ∃ j Y x1 x3 y2 y4, j < 10 ∧ ¬ μ 234 j = 0 ∧ o = nI j ∧ (∀ c d, ¬ ((c = 234 ∨ c = 235 ∨ c = 236 ∨ c = 237) ∧ d = k) → Y c d = μ c d) ∧ zv_av Y us j 1 x1 ∧ zv_av Y us j 3 x3 ∧ zv_av Y us j 2 y2 ∧ zv_av Y us j 4 y4 ∧ x = x1 + zx_fd (x3 - w) ∧ y = y2 + zx_fd (y4 - v)))))
theorem zv_foc_c (h : zv_foc μ ν row stk us k) : ∀ c d, c < 241 ∨ 250 < c → c ≠ 231 → ν c d = μ c d := fun c d h1 h2 => h.2.2.2 c d (by omega) (by omega) (fun z => h2 z.1) (by
  rintro ⟨-, q, m, -, -, -, e, -⟩
  omega)
set_option maxRecDepth 100000 in
theorem ze_Mopen_p (D : Nat) (h : zR μ row stk us) (hord : zv_ord μ ord) (kd w v o : Int32) : ∃ ν r, ze_E (D + 29) A_Mod_open [.ref 232, .int kd, .int w, .int v, .int o] (zm_mk μ) (some (.int r)) (zm_mk ν) ∧ zv_opnp μ ν us kd w v o r := by
  have n2 : Int32.ofInt (-1000000002) = -1000000002 := by decide
  have h10 : (Int8.ofInt 10).toInt32 = (10 : Int32) := by decide
  have enter : ∀ {ν r}, ze_G (D + 28) 10 (some .int) zc_X6_open 0 [(0, .ref 232), (1, .int kd), (2, .int w), (3, .int v), (4, .int o)] [] (zm_mk μ) (some (.int r)) (zm_mk ν) → ze_E (D + 29) A_Mod_open [.ref 232, .int kd, .int w, .int v, .int o] (zm_mk μ) (some (.int r)) (zm_mk ν) := fun G => ze_in [(0, .ref 232), (1, .int kd), (2, .int w), (3, .int v), (4, .int o)] zq_Mod_open (Nat.le_of_ble_eq_true rfl) rfl G
  rcases zv_op0 (D + 25) h kd w v o with ⟨ha, g, S0⟩ | ⟨ha, G⟩
  · rcases zv_op1_v (D + 25) h (g := g) ha with ⟨q, r, hr, G⟩ | ⟨k, s, hk, hs, hk0, hkl, eo, hst, S1⟩
    · exact ⟨μ, r, enter (S0.end G), Or.inl ⟨zv_plc.refl, zx_op2_lt hr⟩⟩
    · have ik : zi_in (nI k) 10 = true := zm_in hk (by decide)
      have ck : (nI k).toNatClampNeg = k := nI_clamp (by omega)
      have is : zi_in (nI s) 3 = true := zm_in hs (by decide)
      have cs : (nI s).toNatClampNeg = s := nI_clamp (by omega)
      have S2 : ze_S (D + 28) 10 (some .int) zc_X6_open 127 [(7, .int (nI s)), (6, .int (nI k)), (5, .int g), (0, .ref 232), (1, .int kd), (2, .int w), (3, .int v), (4, .int o)] [] (zm_mk μ) 143 [(7, .int (nI s)), (6, .int (nI k)), (5, .int g), (0, .ref 232), (1, .int kd), (2, .int w), (3, .int v), (4, .int o)] [] (zm_mk (zm_up (zm_up μ 235 k w) 236 k v)) := by
        refine ⟨0, 10, fun F m hF => ?_⟩
        simp [zi_go, zf_X6_open, zi_ask, zi_new, zi_step, zi_ld, zi_lda, zi_cmp, zi_retOk, zi_isI, zi_f3, zi_cr, zi_ci, zi_cn, zi_get, zi_set, zM_g, zm_iast zM_A235 ik, zm_iast zM_A236 ik, ck]
      have m1 : zm_up (zm_up μ 235 k w) 236 k v 235 k = w := by rw [zm_up_ne (by omega), zm_up_eq]
      have m2 : zm_up (zm_up μ 235 k w) 236 k v 236 k = v := zm_up_eq
      have fM : ∀ c d, ¬ (c = 235 ∧ d = k) → ¬ (c = 236 ∧ d = k) → zm_up (zm_up μ 235 k w) 236 k v c d = μ c d := fun c d r1 r2 => by rw [zm_up_ne r2, zm_up_ne r1]
      generalize zm_up (zm_up μ 235 k w) 236 k v = M at S2 m1 m2 fM
      obtain ⟨lcM, cMM⟩ := zM_c (μ := M)
      have SS := S0.trans (S1.trans S2)
      -- kind and owner
      have S5 : ∀ X : zm_M, ze_S (D + 28) 10 (some .int) zc_X6_open 205 [(7, .int (nI s)), (6, .int (nI k)), (5, .int g), (0, .ref 232), (1, .int kd), (2, .int w), (3, .int v), (4, .int o)] [] (zm_mk X) 222 [(7, .int (nI s)), (6, .int (nI k)), (5, .int g), (0, .ref 232), (1, .int kd), (2, .int w), (3, .int v), (4, .int o)] [] (zm_mk (zm_up (zm_up X 234 k kd) 237 k o)) := fun X => by
        refine ⟨0, 10, fun F m hF => ?_⟩
        simp [zi_go, zf_X6_open, zi_ask, zi_new, zi_step, zi_ld, zi_lda, zi_cmp, zi_retOk, zi_isI, zi_f3, zi_cr, zi_ci, zi_cn, zi_get, zi_set, zM_g, zm_iast zM_A234 ik, zm_iast zM_A237 ik, ck]
      have up5 : ∀ (X : zm_M), zm_up (zm_up X 234 k kd) 237 k o 234 k = kd ∧ zm_up (zm_up X 234 k kd) 237 k o 237 k = o ∧ ∀ c d, ¬ (c = 234 ∧ d = k) → ¬ (c = 237 ∧ d = k) → zm_up (zm_up X 234 k kd) 237 k o c d = X c d := fun X => ⟨by rw [zm_up_ne (by omega), zm_up_eq], zm_up_eq, fun c d r1 r2 => by rw [zm_up_ne r2, zm_up_ne r1]⟩
      rcases zv_kd ha.1.1 with rfl | rfl | rfl | rfl
      · -- tiled
        obtain ⟨lo, ν3, b, u', hlo, ⟨N3, E3⟩, htl, hb, hT, f3⟩ := zR_tile D h hk hs hk0 (M := M) (fun c d r1 r2 => fM c d (fun z => r1 z.1) (fun z => r2 z.1))
        rcases hb with rfl | rfl
        · refine ⟨ν3, -1000000002, enter (SS.end ⟨N3, 10, fun F m hF => ?_⟩), Or.inl ⟨fun c d hc => (f3 c d (by omega) (by omega) (zu_in_not (by omega)) (fun e => absurd e (by decide))).trans (fM c d (by omega) (by omega)), by decide⟩⟩
          simp [zi_go, zf_X6_open, zi_ask, zi_new, zi_step, zi_ld, zi_lda, zi_cmp, zi_retOk, zi_isI, zi_f3, zi_cr, zi_ci, zi_cn, zi_get, zi_set, cMM, zq_Mod_tile, E3 F (by omega), n2]
        · have S3 : ze_S (D + 28) 10 (some .int) zc_X6_open 143 [(7, .int (nI s)), (6, .int (nI k)), (5, .int g), (0, .ref 232), (1, .int 1), (2, .int w), (3, .int v), (4, .int o)] [] (zm_mk M) 205 [(7, .int (nI s)), (6, .int (nI k)), (5, .int g), (0, .ref 232), (1, .int 1), (2, .int w), (3, .int v), (4, .int o)] [] (zm_mk (zm_up ν3 238 k (nI s))) := by
            refine ⟨N3, 14, fun F m hF => ?_⟩
            simp [zi_go, zf_X6_open, zi_ask, zi_new, zi_step, zi_ld, zi_lda, zi_cmp, zi_retOk, zi_isI, zi_f3, zi_cr, zi_ci, zi_cn, zi_get, zi_set, zM_g, cMM, zq_Mod_tile, E3 F (by omega), zm_iast zM_A238 ik, ck]
          have S6 := S5 (zm_up ν3 238 k (nI s))
          obtain ⟨u1, u2, u3⟩ := up5 (zm_up ν3 238 k (nI s))
          have fX : ∀ c d, ¬ (c = 238 ∧ d = k) → zm_up ν3 238 k (nI s) c d = ν3 c d := fun c d r => zm_up_ne r
          have eX : zm_up ν3 238 k (nI s) 238 k = nI s := zm_up_eq
          generalize zm_up (zm_up (zm_up ν3 238 k (nI s)) 234 k 1) 237 k o = ν4 at S6 u1 u2 u3
          generalize zm_up ν3 238 k (nI s) = X at S3 S6 u3 fX eX
          have hc : zv_cam μ ν4 k s 1 w v o := by
            have f3' : ∀ c d, c < 243 ∨ 261 < c → ¬ (c = 231 ∧ d = 30) → ν3 c d = M c d := fun c d r1 r2 => f3 c d r2 (by omega) (zu_in_not (by omega)) (fun _ => zu_in_not (by omega))
            refine ⟨⟨u1, u2, ?_, ?_, fun _ => ?_⟩, fun c d r1 r2 r3 r4 r5 r6 => ?_⟩
            · rw [u3 _ _ (by omega) (by omega), fX _ _ (by omega), f3' _ _ (by omega) (by omega), m1]
            · rw [u3 _ _ (by omega) (by omega), fX _ _ (by omega), f3' _ _ (by omega) (by omega), m2]
            · rw [u3 _ _ (by omega) (by omega), eX]
            · rw [u3 c d (by omega) (by omega), fX c d (by omega), f3 c d r1 (by omega) (r6 rfl).1 (fun _ => (r6 rfl).2), fM c d (by omega) (by omega)]
          have hpl : zv_plc μ ν4 := fun c d q => (u3 c d (by omega) (by omega)).trans ((fX c d (by omega)).trans ((f3 c d (by omega) (by omega) (zu_in_not (by omega)) (fun _ => zu_in_not (by omega))).trans (fM c d (by omega) (by omega))))
          have tS : zu_eqT ν3 s ν4 s := zu_eq_in (fun c d r => (u3 c d (fun z => zu_in_not (Or.inl (by omega)) r) (fun z => zu_in_not (Or.inl (by omega)) r)).trans (fX c d (fun z => zu_in_not (Or.inl (by omega)) r)))
          obtain ⟨ab, m, q1, q2⟩ := hT rfl
          have eus : zd_upd us s u' s = u' := if_pos rfl
          obtain ⟨ν, G, hf⟩ := zv_op4 D h hord ha hk hk0 hc hs (us' := zd_upd us s u') (fun _ => ⟨m, ab, by rw [eus]; exact tS.I q1, by rw [eus]; exact zu_at_eqT q1 tS q2⟩) [(7, .int (nI s)), (6, .int (nI k)), (5, .int g), (0, .ref 232), (1, .int 1), (2, .int w), (3, .int v), (4, .int o)] rfl rfl
          refine ⟨ν, nI k, enter (SS.end (S3.end (S6.end (ze_S.end ⟨0, 9, fun F m hF => ?_⟩ G)))), Or.inr ⟨k, s, hk, hs, hk0, rfl, fun _ => (zv_foc_c hf 238 k (by omega) (by omega)).trans (hc.1.2.2.2.2 (by decide)), zv_kpp_of (fun c d q => (zv_foc_c hf c d (by omega) (by omega)).trans (hpl c d (by omega))), fun j hj => ⟨(zv_foc_c hf 239 j (by omega) (by omega)).trans (hpl _ _ (Or.inl rfl)), (zv_foc_c hf 240 j (by omega) (by omega)).trans (hpl _ _ (Or.inr (Or.inl rfl)))⟩, Or.inl rfl⟩⟩
          simp [zi_go, zf_X6_open, zi_ask, zi_new, zi_step, zi_ld, zi_lda, zi_cmp, zi_retOk, zi_isI, zi_f3, zi_cr, zi_ci, zi_cn, zi_get, zi_set]
      · -- floating
        obtain ⟨N3, E3⟩ := ze_McanBeWhole (μ := M) (D + 27) hk (μ 232 s) (μ 233 s)
        rw [m1, m2] at E3
        have x2 : M 232 s = μ 232 s := fM _ _ (by omega) (by omega)
        have x3 : M 233 s = μ 233 s := fM _ _ (by omega) (by omega)
        by_cases c : w ≤ μ 232 s ∧ v ≤ μ 233 s
        · rw [if_pos c] at E3
          have S3 : ze_S (D + 28) 10 (some .int) zc_X6_open 143 [(7, .int (nI s)), (6, .int (nI k)), (5, .int g), (0, .ref 232), (1, .int 2), (2, .int w), (3, .int v), (4, .int o)] [] (zm_mk M) 205 [(7, .int (nI s)), (6, .int (nI k)), (5, .int g), (0, .ref 232), (1, .int 2), (2, .int w), (3, .int v), (4, .int o)] [] (zm_mk M) := by
            refine ⟨N3, 18, fun F m hF => ?_⟩
            simp [zi_go, zf_X6_open, zi_ask, zi_new, zi_step, zi_ld, zi_lda, zi_cmp, zi_retOk, zi_isI, zi_f3, zi_cr, zi_ci, zi_cn, zi_get, zi_set, zM_g, cMM, zm_iald (k := 0) zM_A232 is, zm_iald (k := 0) zM_A233 is, cs, x2, x3, zq_Mod_canBeWhole, E3 F (by omega)]
          have S6 := S5 M
          obtain ⟨u1, u2, u3⟩ := up5 M
          generalize zm_up (zm_up M 234 k 2) 237 k o = Y at S6 u1 u2 u3
          obtain ⟨lcY, cMY⟩ := zM_c (μ := Y)
          obtain ⟨p, q, ⟨N4, E4⟩, hp, hq⟩ := ze_MputAt (μ := Y) (D + 26) hk hs (10 * nI k) (10 * nI k)
          have fP : ∀ c d, ¬ (c = 238 ∧ d = k) → c ≠ 239 → c ≠ 240 → zv_put Y k s p q c d = Y c d := fun c d r1 r2 r3 => by unfold zv_put; rw [zm_up_ne (by omega), zm_up_ne (by omega), zm_up_ne r1]
          have eP : zv_put Y k s p q 238 k = nI s := by unfold zv_put; rw [zm_up_ne (by omega), zm_up_ne (by omega), zm_up_eq]
          have pA := zv_put_at (ξ := Y) (k := k) (s := s) (p := p) (q := q)
          generalize zv_put Y k s p q = ν4 at E4 fP eP pA
          have hc : zv_cam μ ν4 k s 2 w v o := by
            refine ⟨⟨?_, ?_, ?_, ?_, fun _ => eP⟩, fun c d r1 r2 r3 r4 r5 r6 => ?_⟩
            · rw [fP _ _ (by omega) (by omega) (by omega), u1]
            · rw [fP _ _ (by omega) (by omega) (by omega), u2]
            · rw [fP _ _ (by omega) (by omega) (by omega), u3 _ _ (by omega) (by omega), m1]
            · rw [fP _ _ (by omega) (by omega) (by omega), u3 _ _ (by omega) (by omega), m2]
            · rw [fP c d (by omega) r3 r4, u3 c d (by omega) (by omega), fM c d (by omega) (by omega)]
          obtain ⟨ν, G, hf⟩ := zv_op4 D h hord ha hk hk0 hc hs (us' := us) (fun e => absurd e (by decide)) [(7, .int (nI s)), (6, .int (nI k)), (5, .int g), (0, .ref 232), (1, .int 2), (2, .int w), (3, .int v), (4, .int o)] rfl rfl
          refine ⟨ν, nI k, enter (SS.end (S3.end (S6.end (ze_S.end ⟨N4, 14, fun F m hF => ?_⟩ G)))), Or.inr ⟨k, s, hk, hs, hk0, rfl, fun _ => (zv_foc_c hf 238 k (by omega) (by omega)).trans (hc.1.2.2.2.2 (by decide)), zv_kpp_of (fun c d q => (zv_foc_c hf c d (by omega) (by omega)).trans ((fP c d (by omega) (by omega) (by omega)).trans ((u3 c d (by omega) (by omega)).trans (fM c d (by omega) (by omega))))), fun j hj => ⟨(zv_foc_c hf 239 j (by omega) (by omega)).trans ((pA.2.2 j hj).1.trans ((u3 _ _ (by omega) (by omega)).trans (fM _ _ (by omega) (by omega)))), (zv_foc_c hf 240 j (by omega) (by omega)).trans ((pA.2.2 j hj).2.trans ((u3 _ _ (by omega) (by omega)).trans (fM _ _ (by omega) (by omega))))⟩, Or.inr (Or.inr ⟨Or.inl rfl, 10 * nI k, 10 * nI k, by rw [zv_foc_c hf 239 k (by omega) (by omega), pA.1, hp, u3 232 s (by omega) (by omega), u3 235 k (by omega) (by omega), x2, m1], by rw [zv_foc_c hf 240 k (by omega) (by omega), pA.2.1, hq, u3 233 s (by omega) (by omega), u3 236 k (by omega) (by omega), x3, m2], Or.inl ⟨rfl, rfl, rfl⟩⟩)⟩⟩
          simp [zi_go, zf_X6_open, zi_ask, zi_new, zi_step, zi_ld, zi_lda, zi_cmp, zi_retOk, zi_isI, zi_f3, zi_cr, zi_ci, zi_cn, zi_get, zi_set, h10, cMY, zq_Mod_putAt, E4 F (by omega)]
        · rw [if_neg c] at E3
          refine ⟨M, -1000000002, enter (SS.end ⟨N3, 20, fun F m hF => ?_⟩), Or.inl ⟨fun c d hc => fM c d (by omega) (by omega), by decide⟩⟩
          simp [zi_go, zf_X6_open, zi_ask, zi_new, zi_step, zi_ld, zi_lda, zi_cmp, zi_retOk, zi_isI, zi_f3, zi_cr, zi_ci, zi_cn, zi_get, zi_set, zM_g, cMM, zm_iald (k := 0) zM_A232 is, zm_iald (k := 0) zM_A233 is, cs, x2, x3, zq_Mod_canBeWhole, E3 F (by omega), n2]
      · -- a dialog
        obtain ⟨j, hj, rfl, hj0⟩ := ha.2.1 rfl
        obtain ⟨N3, E3⟩ := ze_McanBeWhole (μ := M) (D + 27) hk (μ 232 s) (μ 233 s)
        rw [m1, m2] at E3
        have x2 : M 232 s = μ 232 s := fM _ _ (by omega) (by omega)
        have x3 : M 233 s = μ 233 s := fM _ _ (by omega) (by omega)
        by_cases c : w ≤ μ 232 s ∧ v ≤ μ 233 s
        · rw [if_pos c] at E3
          have S3 : ze_S (D + 28) 10 (some .int) zc_X6_open 143 [(7, .int (nI s)), (6, .int (nI k)), (5, .int g), (0, .ref 232), (1, .int 3), (2, .int w), (3, .int v), (4, .int (nI j))] [] (zm_mk M) 205 [(7, .int (nI s)), (6, .int (nI k)), (5, .int g), (0, .ref 232), (1, .int 3), (2, .int w), (3, .int v), (4, .int (nI j))] [] (zm_mk M) := by
            refine ⟨N3, 18, fun F m hF => ?_⟩
            simp [zi_go, zf_X6_open, zi_ask, zi_new, zi_step, zi_ld, zi_lda, zi_cmp, zi_retOk, zi_isI, zi_f3, zi_cr, zi_ci, zi_cn, zi_get, zi_set, zM_g, cMM, zm_iald (k := 0) zM_A232 is, zm_iald (k := 0) zM_A233 is, cs, x2, x3, zq_Mod_canBeWhole, E3 F (by omega)]
          have S6 := S5 M
          obtain ⟨u1, u2, u3⟩ := up5 M
          generalize zm_up (zm_up M 234 k 3) 237 k (nI j) = Y at S6 u1 u2 u3
          have hjk : j ≠ k := fun e => hj0 (by rw [e]; exact hk0)
          have y4 : Y 234 j = μ 234 j := by rw [u3 _ _ (by omega) (by omega), fM _ _ (by omega) (by omega)]
          have y8 : Y 238 j = μ 238 j := by rw [u3 _ _ (by omega) (by omega), fM _ _ (by omega) (by omega)]
          have hA : zv_arg Y us j := by
            refine ⟨by rw [y4]; exact zR_fl h hj hj0, fun e => ?_⟩
            rw [y4] at e
            obtain ⟨q, m, ab, r1, r2, r3, r4⟩ := zR_til h hj e
            have t : zu_eqT μ q Y q := zu_eq_in (fun c d r => (u3 c d (fun z => zu_in_not (Or.inl (by omega)) r) (fun z => zu_in_not (Or.inl (by omega)) r)).trans (fM c d (fun z => zu_in_not (Or.inl (by omega)) r) (fun z => zu_in_not (Or.inl (by omega)) r)))
            exact ⟨q, m, ab, r1, by rw [y8]; exact r2, t.I r3, zu_at_eqT r3 t r4⟩
          obtain ⟨M', p, q, L', S7, g0, g6, fS', x1, x3', y2, y4, A1, A3, A2, A4, hp, hq⟩ := zv_op3_v D hj hk hs hA (w := w) (v := v) (kd := 3) (g := g)
          have fM' := fS'.w
          have fP : ∀ c d, ¬ (c = 238 ∧ d = k) → c ≠ 239 → c ≠ 240 → zv_put M' k s p q c d = M' c d := fun c d r1 r2 r3 => by unfold zv_put; rw [zm_up_ne (by omega), zm_up_ne (by omega), zm_up_ne r1]
          have eP : zv_put M' k s p q 238 k = nI s := by unfold zv_put; rw [zm_up_ne (by omega), zm_up_ne (by omega), zm_up_eq]
          have pA := zv_put_at (ξ := M') (k := k) (s := s) (p := p) (q := q)
          have zS : ∀ c d, c ≠ 231 → c < 255 → M' c d = Y c d := fun c d h1 h2 => fS' c d (by omega) (by omega) (by omega) (by omega)
          generalize zv_put M' k s p q = ν4 at S7 fP eP pA
          have hc : zv_cam μ ν4 k s 3 w v (nI j) := by
            refine ⟨⟨?_, ?_, ?_, ?_, fun _ => eP⟩, fun c d r1 r2 r3 r4 r5 r6 => ?_⟩
            · rw [fP _ _ (by omega) (by omega) (by omega), fM' _ _ (by omega) (by omega) (by omega) (by omega), u1]
            · rw [fP _ _ (by omega) (by omega) (by omega), fM' _ _ (by omega) (by omega) (by omega) (by omega), u2]
            · rw [fP _ _ (by omega) (by omega) (by omega), fM' _ _ (by omega) (by omega) (by omega) (by omega), u3 _ _ (by omega) (by omega), m1]
            · rw [fP _ _ (by omega) (by omega) (by omega), fM' _ _ (by omega) (by omega) (by omega) (by omega), u3 _ _ (by omega) (by omega), m2]
            · rw [fP c d (by omega) r3 r4, fM' c d r1 r3 r4 r5, u3 c d (by omega) (by omega), fM c d (by omega) (by omega)]
          obtain ⟨ν, G, hf⟩ := zv_op4 D h hord ha hk hk0 hc hs (us' := us) (fun e => absurd e (by decide)) L' g0 g6
          refine ⟨ν, nI k, enter (SS.end (S3.end (S6.end (ze_S.end (p2 := 293) (L2 := [(7, .int (nI s)), (6, .int (nI k)), (5, .int g), (0, .ref 232), (1, .int 3), (2, .int w), (3, .int v), (4, .int (nI j))]) (s2 := []) (h2 := zm_mk Y) ⟨0, 9, fun F m hF => ?_⟩ (S7.end G))))), Or.inr ⟨k, s, hk, hs, hk0, rfl, fun _ => (zv_foc_c hf 238 k (by omega) (by omega)).trans (hc.1.2.2.2.2 (by decide)), zv_kpp_of (fun c d q => (zv_foc_c hf c d (by omega) (by omega)).trans ((fP c d (by omega) (by omega) (by omega)).trans ((zS c d (by omega) (by omega)).trans ((u3 c d (by omega) (by omega)).trans (fM c d (by omega) (by omega)))))), fun j hj => ⟨(zv_foc_c hf 239 j (by omega) (by omega)).trans ((pA.2.2 j hj).1.trans ((zS _ _ (by omega) (by omega)).trans ((u3 _ _ (by omega) (by omega)).trans (fM _ _ (by omega) (by omega))))), (zv_foc_c hf 240 j (by omega) (by omega)).trans ((pA.2.2 j hj).2.trans ((zS _ _ (by omega) (by omega)).trans ((u3 _ _ (by omega) (by omega)).trans (fM _ _ (by omega) (by omega)))))⟩, Or.inr (Or.inr ⟨Or.inr rfl, x1 + zx_fd (x3' - w), y2 + zx_fd (y4 - v), by rw [zv_foc_c hf 239 k (by omega) (by omega), pA.1, hp, zS 232 s (by omega) (by omega), zS 235 k (by omega) (by omega), u3 232 s (by omega) (by omega), u3 235 k (by omega) (by omega), x2, m1], by rw [zv_foc_c hf 240 k (by omega) (by omega), pA.2.1, hq, zS 233 s (by omega) (by omega), zS 236 k (by omega) (by omega), u3 233 s (by omega) (by omega), u3 236 k (by omega) (by omega), x3, m2], Or.inr ⟨rfl, j, Y, x1, x3', y2, y4, hj, hj0, rfl, fun c d r => (u3 c d (by omega) (by omega)).trans (fM c d (by omega) (by omega)), A1, A3, A2, A4, rfl, rfl⟩⟩)⟩⟩
          simp [zi_go, zf_X6_open, zi_ask, zi_new, zi_step, zi_ld, zi_lda, zi_cmp, zi_retOk, zi_isI, zi_f3, zi_cr, zi_ci, zi_cn, zi_get, zi_set]
        · rw [if_neg c] at E3
          refine ⟨M, -1000000002, enter (SS.end ⟨N3, 20, fun F m hF => ?_⟩), Or.inl ⟨fun c d hc => fM c d (by omega) (by omega), by decide⟩⟩
          simp [zi_go, zf_X6_open, zi_ask, zi_new, zi_step, zi_ld, zi_lda, zi_cmp, zi_retOk, zi_isI, zi_f3, zi_cr, zi_ci, zi_cn, zi_get, zi_set, zM_g, cMM, zm_iald (k := 0) zM_A232 is, zm_iald (k := 0) zM_A233 is, cs, x2, x3, zq_Mod_canBeWhole, E3 F (by omega), n2]
      · -- sticky
        have S3 : ze_S (D + 28) 10 (some .int) zc_X6_open 143 [(7, .int (nI s)), (6, .int (nI k)), (5, .int g), (0, .ref 232), (1, .int 4), (2, .int w), (3, .int v), (4, .int o)] [] (zm_mk M) 205 [(7, .int (nI s)), (6, .int (nI k)), (5, .int g), (0, .ref 232), (1, .int 4), (2, .int w), (3, .int v), (4, .int o)] [] (zm_mk M) := by
          refine ⟨0, 6, fun F m hF => ?_⟩
          simp [zi_go, zf_X6_open, zi_ask, zi_new, zi_step, zi_ld, zi_lda, zi_cmp, zi_retOk, zi_isI, zi_f3, zi_cr, zi_ci, zi_cn, zi_get, zi_set]
        have S6 := S5 M
        obtain ⟨u1, u2, u3⟩ := up5 M
        generalize zm_up (zm_up M 234 k 4) 237 k o = Y at S6 u1 u2 u3
        have S7 : ze_S (D + 28) 10 (some .int) zc_X6_open 222 [(7, .int (nI s)), (6, .int (nI k)), (5, .int g), (0, .ref 232), (1, .int 4), (2, .int w), (3, .int v), (4, .int o)] [] (zm_mk Y) 349 [(7, .int (nI s)), (6, .int (nI k)), (5, .int g), (0, .ref 232), (1, .int 4), (2, .int w), (3, .int v), (4, .int o)] [] (zm_mk (zm_up (zm_up (zm_up Y 238 k (-1)) 239 k (10 * nI k)) 240 k (10 * nI k))) := by
          refine ⟨0, 26, fun F m hF => ?_⟩
          simp [zi_go, zf_X6_open, zi_ask, zi_new, zi_step, zi_ld, zi_lda, zi_cmp, zi_retOk, zi_isI, zi_f3, zi_cr, zi_ci, zi_cn, zi_get, zi_set, zM_g, h10, zm_iast zM_A238 ik, zm_iast zM_A239 ik, zm_iast zM_A240 ik, ck]
        have fP : ∀ c d, ¬ (c = 238 ∧ d = k) → c ≠ 239 → c ≠ 240 → zm_up (zm_up (zm_up Y 238 k (-1)) 239 k (10 * nI k)) 240 k (10 * nI k) c d = Y c d := fun c d r1 r2 r3 => by rw [zm_up_ne (by omega), zm_up_ne (by omega), zm_up_ne r1]
        have pA : (zm_up (zm_up (zm_up Y 238 k (-1)) 239 k (10 * nI k)) 240 k (10 * nI k)) 239 k = 10 * nI k ∧ (zm_up (zm_up (zm_up Y 238 k (-1)) 239 k (10 * nI k)) 240 k (10 * nI k)) 240 k = 10 * nI k ∧ ∀ j, j ≠ k → (zm_up (zm_up (zm_up Y 238 k (-1)) 239 k (10 * nI k)) 240 k (10 * nI k)) 239 j = Y 239 j ∧ (zm_up (zm_up (zm_up Y 238 k (-1)) 239 k (10 * nI k)) 240 k (10 * nI k)) 240 j = Y 240 j := ⟨(zm_up_ne (by omega)).trans zm_up_eq, zm_up_eq, fun j hj => ⟨(zm_up_ne (by omega)).trans ((zm_up_ne (by omega)).trans (zm_up_ne (by omega))), (zm_up_ne (by omega)).trans ((zm_up_ne (by omega)).trans (zm_up_ne (by omega)))⟩⟩
        generalize zm_up (zm_up (zm_up Y 238 k (-1)) 239 k (10 * nI k)) 240 k (10 * nI k) = ν4 at S7 fP pA
        have hc : zv_cam μ ν4 k s 4 w v o := by
          refine ⟨⟨?_, ?_, ?_, ?_, fun e => absurd rfl e⟩, fun c d r1 r2 r3 r4 r5 r6 => ?_⟩
          · rw [fP _ _ (by omega) (by omega) (by omega), u1]
          · rw [fP _ _ (by omega) (by omega) (by omega), u2]
          · rw [fP _ _ (by omega) (by omega) (by omega), u3 _ _ (by omega) (by omega), m1]
          · rw [fP _ _ (by omega) (by omega) (by omega), u3 _ _ (by omega) (by omega), m2]
          · rw [fP c d (by omega) r3 r4, u3 c d (by omega) (by omega), fM c d (by omega) (by omega)]
        obtain ⟨ν, G, hf⟩ := zv_op4 D h hord ha hk hk0 hc hs (us' := us) (fun e => absurd e (by decide)) [(7, .int (nI s)), (6, .int (nI k)), (5, .int g), (0, .ref 232), (1, .int 4), (2, .int w), (3, .int v), (4, .int o)] rfl rfl
        exact ⟨ν, nI k, enter (SS.end (S3.end (S6.end (S7.end G)))), Or.inr ⟨k, s, hk, hs, hk0, rfl, fun z => absurd rfl z, zv_kpp_of (fun c d q => (zv_foc_c hf c d (by omega) (by omega)).trans ((fP c d (by omega) (by omega) (by omega)).trans ((u3 c d (by omega) (by omega)).trans (fM c d (by omega) (by omega))))), fun j hj => ⟨(zv_foc_c hf 239 j (by omega) (by omega)).trans ((pA.2.2 j hj).1.trans ((u3 _ _ (by omega) (by omega)).trans (fM _ _ (by omega) (by omega)))), (zv_foc_c hf 240 j (by omega) (by omega)).trans ((pA.2.2 j hj).2.trans ((u3 _ _ (by omega) (by omega)).trans (fM _ _ (by omega) (by omega))))⟩, Or.inr (Or.inl ⟨rfl, (zv_foc_c hf 239 k (by omega) (by omega)).trans pA.1, (zv_foc_c hf 240 k (by omega) (by omega)).trans pA.2.1⟩)⟩⟩
  · exact ⟨μ, _, enter G, Or.inl ⟨zv_plc.refl, by decide⟩⟩

end ZXA
