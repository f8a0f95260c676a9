/-! the class's raise, exactly -/
/-- a run has one end -/
theorem ze_E_det {D a : Nat} {vs : List Value} {h h1 h2 : zi_Hp} {r1 r2 : Option Value} (E1 : ze_E D a vs h r1 h1) (E2 : ze_E D a vs h r2 h2) : r1 = r2 ∧ h1 = h2 := by
  obtain ⟨N1, E1⟩ := E1
  obtain ⟨N2, E2⟩ := E2
  have := (E1 (N1 + N2) (by omega)).symm.trans (E2 (N1 + N2) (by omega))
  simp only [Option.some.injEq, List.cons.injEq, Prod.mk.injEq, and_true, true_and] at this
  exact this
theorem zm_mk_inj {μ ν : zm_M} (e : zm_mk μ = zm_mk ν) {i t j : Nat} {l : List Value} {y : Int32} (h : zh_2[i]? = some (t, l)) (hj : l[j]? = some (.int y)) : μ i j = ν i j := by
  have a := zm_get (μ := μ) h
  have b := zm_get (μ := ν) h
  rw [e, b] at a
  have c := (Prod.mk.inj (Option.some.inj a)).2
  have d := congrArg (fun z => z[j]?) c
  simp only [List.getElem?_mapIdx, hj, Option.map_some, Option.some.injEq] at d
  simp only [zm_v, Value.int.injEq] at d
  exact d.symm
theorem zm_mk_A {μ ν : zm_M} (e : zm_mk μ = zm_mk ν) {t i n j : Nat} (h : zm_isA t i n) (hj : j < n) : μ i j = ν i j := by
  obtain ⟨l, h1, h2, h3⟩ := h
  obtain ⟨y, hy⟩ := h3 j hj
  exact zm_mk_inj e h1 hy
theorem zr_L_mk {μ ν : zm_M} (e : zm_mk μ = zm_mk ν) {r : Nat} (hr : zr_at r) {l : List Nat} (h : zr_L μ r l) : zr_L ν r l := by
  refine ⟨h.1, (zm_mk_inj e hr.1 rfl).symm.trans h.2.1, fun j hj => (zm_mk_A e hr.2 (by have := h.1; omega)).symm.trans (h.2.2 j hj)⟩
theorem zr_L_uq {μ : zm_M} {r : Nat} {l l' : List Nat} (h : zr_L μ r l) (h' : zr_L μ r l') (hb : ∀ x ∈ l, x < 10) (hb' : ∀ x ∈ l', x < 10) : l = l' := by
  have e : l.length = l'.length := by
    have a := h.1
    have b := h'.1
    exact (nI_eq (by omega) (by omega)).mp (h.2.1.symm.trans h'.2.1)
  refine List.ext_getElem e (fun i h1 h2 => ?_)
  have a := h.2.2 i h1
  have b := h'.2.2 i h2
  have z1 : l.getD i 0 = l[i] := by rw [List.getD_eq_getElem?_getD, List.getElem?_eq_getElem h1]; rfl
  have z2 : l'.getD i 0 = l'[i] := by rw [List.getD_eq_getElem?_getD, List.getElem?_eq_getElem h2]; rfl
  rw [z1] at a
  rw [z2] at b
  have b1 := hb _ (List.getElem_mem h1)
  have b2 := hb' _ (List.getElem_mem h2)
  exact (nI_eq (by omega) (by omega)).mp (a.symm.trans b)
/-- b is a dialog of a -/
def zd_owb (μ : zm_M) (a b : Nat) : Bool := decide (a < 10 ∧ b < 10 ∧ ¬ μ (zdW b) 2 = 0 ∧ μ (zdW b) 4 = nI a)
/-- what raise rests on -/
def zd_rkc (μ : zm_M) (rk : Nat → Nat) : Prop := (∀ x, rk x ≤ 9) ∧ (∀ a b, zd_owb μ a b = true → rk a < rk b) ∧ ∀ a b, zd_owb μ a b = true → zd_flo μ b = true
section ZCR
variable {μ : zm_M} {stk row : List Nat} {rk : Nat → Nat}
theorem zd_owb_uq (a b x : Nat) (h : zd_owb μ a x = true) (g : zd_owb μ b x = true) : a = b := by
  obtain ⟨h1, -, -, h4⟩ := of_decide_eq_true h
  obtain ⟨g1, -, -, g4⟩ := of_decide_eq_true g
  exact (nI_eq (by omega) (by omega)).mp (h4.symm.trans g4)
theorem zd_owb_of {k x : Nat} (hk : k < 10) (hx : x < 10) (ht : zd_th μ x = true) : (zd_owb μ k x = true ↔ μ (zdW x) 4 = nI k) := by
  unfold zd_owb
  rw [decide_eq_true_iff]
  exact ⟨fun z => z.2.2.2, fun z => ⟨hk, hx, of_decide_eq_true ht, z⟩⟩
set_option maxRecDepth 100000 in
theorem ze_dialogsOf_v (D : Nat) (hs : zr_L μ 5 stk) (hb : ∀ k ∈ stk, k < 10 ∧ zd_th μ k = true) {k : Nat} (hk : k < 10) : ze_E (D + 2) A_Desk_dialogsOf [.ref 1, .int (nI k)] (zm_mk μ) (some (.int (nI (stk.filter (zd_owb μ k)).length))) (zm_mk μ) := by
  have hl := hs.1
  have key : ∃ r h', ze_G (D + 1) 4 (some .int) zc_X5_dialogsOf 4 [(3, .int (nI 0)), (2, .int (nI 0)), (0, .ref 1), (1, .int (nI k))] [] (zm_mk μ) r h' ∧ (r = some (.int (nI (stk.filter (zd_owb μ k)).length)) ∧ zm_mk μ = h') := by
    refine ze_loop (Q := fun i L hp => i ≤ stk.length ∧ zi_nl L = true ∧ zi_get L 0 = some (.ref 1) ∧ zi_get L 1 = some (.int (nI k)) ∧ zi_get L 3 = some (.int (nI i)) ∧ zm_mk μ = hp ∧ (zi_get L 2 = some (.int (nI ((stk.take i).filter (zd_owb μ k)).length)))) (R := fun r h' => r = some (.int (nI (stk.filter (zd_owb μ k)).length)) ∧ zm_mk μ = h') stk.length ?_ ?_ stk.length 0 _ _ (by omega) ⟨by omega, rfl, rfl, rfl, rfl, rfl, rfl⟩
    · rintro i L _ hi ⟨-, nl, g0, g1, g3, rfl, hq⟩
      have hkm : stk.getD i 0 ∈ stk := zl_mem hi
      obtain ⟨N1, E1⟩ := ze_Row_sizeL (μ := μ) D zd5_at hs
      obtain ⟨N2, E2⟩ := ze_Row_getL (μ := μ) D zd5_at hs hi
      have es := zl_cnt (p := zd_owb μ k) hi
      generalize stk.getD i 0 = j at hkm E2 es
      obtain ⟨hj, hjt⟩ := hb j hkm
      have c1 : ¬ nI stk.length ≤ nI i := nI_ge hi (by omega)
      have cr := zr_c (μ := μ) zd5_at
      by_cases c2 : μ (zdW j) 4 = nI k
      · rw [if_pos ((zd_owb_of hk hj hjt).mpr c2)] at es
        left
        refine ⟨zi_set (zi_set L 2 (.int (nI (((stk.take i).filter (zd_owb μ k)).length + 1)))) 3 (.int (nI (i + 1))), zm_mk μ, ⟨N1 + N2, 22, fun F m hF => ?_⟩, by omega, ?_, ?_, ?_, zi_get_set_eq, rfl, by rw [es]; simp (maxDischargeDepth := 9) [zi_get_ne, zi_nl_i, zi_nl_r, zi_get_set_eq, nl]⟩
        · simp (maxDischargeDepth := 9) [zi_go, zf_X5_dialogsOf, zi_ask, zi_new, zi_step, zi_ld, zi_lda, zi_cmp, zi_retOk, zi_isI, zi_f3, zi_cr, zi_ci, zi_cn, zi_get_ne, zi_nl_i, zi_nl_r, zi_get_set_eq, nl, g0, g1, g3, c1, zd_g, zq_Row_size, zq_Row_get, cr, E1 F (by omega), E2 F (by omega), zd_w hj, zw_g (zdW_at hj), c2, hq, nI_1]
        · simp (maxDischargeDepth := 9) [zi_get_ne, zi_nl_i, zi_nl_r, zi_get_set_eq, nl]
        · simp (maxDischargeDepth := 9) [zi_get_ne, zi_nl_i, zi_nl_r, zi_get_set_eq, nl, g0]
        · simp (maxDischargeDepth := 9) [zi_get_ne, zi_nl_i, zi_nl_r, zi_get_set_eq, nl, g1]
      · rw [if_neg (fun z => c2 ((zd_owb_of hk hj hjt).mp z)), Nat.add_zero] at es
        left
        refine ⟨zi_set (zi_set L 2 (.int (nI ((stk.take i).filter (zd_owb μ k)).length))) 3 (.int (nI (i + 1))), zm_mk μ, ⟨N1 + N2, 21, fun F m hF => ?_⟩, by omega, ?_, ?_, ?_, zi_get_set_eq, rfl, by rw [es]; simp (maxDischargeDepth := 9) [zi_get_ne, zi_nl_i, zi_nl_r, zi_get_set_eq, nl]⟩
        · simp (maxDischargeDepth := 9) [zi_go, zf_X5_dialogsOf, zi_ask, zi_new, zi_step, zi_ld, zi_lda, zi_cmp, zi_retOk, zi_isI, zi_f3, zi_cr, zi_ci, zi_cn, zi_get_ne, zi_nl_i, zi_nl_r, zi_get_set_eq, nl, g0, g1, g3, c1, zd_g, zq_Row_size, zq_Row_get, cr, E1 F (by omega), E2 F (by omega), zd_w hj, zw_g (zdW_at hj), c2, hq, nI_1]
        · simp (maxDischargeDepth := 9) [zi_get_ne, zi_nl_i, zi_nl_r, zi_get_set_eq, nl]
        · simp (maxDischargeDepth := 9) [zi_get_ne, zi_nl_i, zi_nl_r, zi_get_set_eq, nl, g0]
        · simp (maxDischargeDepth := 9) [zi_get_ne, zi_nl_i, zi_nl_r, zi_get_set_eq, nl, g1]
    · rintro L _ ⟨-, nl, g0, g1, g3, rfl, hq⟩
      obtain ⟨N1, E1⟩ := ze_Row_sizeL (μ := μ) D zd5_at hs
      have cr := zr_c (μ := μ) zd5_at
      rw [List.take_length] at hq
      refine ⟨_, zm_mk μ, ⟨N1, 7, fun F m hF => ?_⟩, rfl, rfl⟩
      simp [zi_go, zf_X5_dialogsOf, zi_ask, zi_new, zi_step, zi_ld, zi_lda, zi_cmp, zi_retOk, zi_isI, zi_f3, zi_cr, zi_ci, zi_cn, g0, g3, hq, zd_g, zq_Row_size, cr, E1 F (by omega)]
  obtain ⟨r, h', G, rfl, rfl⟩ := key
  refine ze_in [(0, .ref 1), (1, .int (nI k))] zq_Desk_dialogsOf (Nat.le_of_ble_eq_true rfl) rfl (ze_S.end ⟨0, 4, fun F m hF => ?_⟩ G)
  simp [zi_go, zf_X5_dialogsOf, zi_ask, zi_new, zi_step, zi_ld, zi_lda, zi_cmp, zi_retOk, zi_isI, zi_f3, zi_cr, zi_ci, zi_cn, zi_get, zi_set, nI_0]
set_option maxRecDepth 100000 in
theorem ze_lowestDialogOf_v (D : Nat) (hs : zr_L μ 5 stk) (hb : ∀ k ∈ stk, k < 10 ∧ zd_th μ k = true) {k : Nat} (hk : k < 10) (hne : 0 < (stk.filter (zd_owb μ k)).length) : ze_E (D + 2) A_Desk_lowestDialogOf [.ref 1, .int (nI k)] (zm_mk μ) (some (.int (nI ((stk.filter (zd_owb μ k)).getD 0 0)))) (zm_mk μ) := by
  have hl := hs.1
  have key : ∃ r h', ze_G (D + 1) 3 (some .int) zc_X5_lowestDialogOf 2 [(2, .int (nI 0)), (0, .ref 1), (1, .int (nI k))] [] (zm_mk μ) r h' ∧ (r = some (.int (nI ((stk.filter (zd_owb μ k)).getD 0 0))) ∧ zm_mk μ = h') := by
    refine ze_loop (Q := fun i L hp => i ≤ stk.length ∧ zi_nl L = true ∧ zi_get L 0 = some (.ref 1) ∧ zi_get L 1 = some (.int (nI k)) ∧ zi_get L 2 = some (.int (nI i)) ∧ zm_mk μ = hp ∧ ((stk.take i).filter (zd_owb μ k) = [])) (R := fun r h' => r = some (.int (nI ((stk.filter (zd_owb μ k)).getD 0 0))) ∧ zm_mk μ = h') stk.length ?_ ?_ stk.length 0 _ _ (by omega) ⟨by omega, rfl, rfl, rfl, rfl, rfl, rfl⟩
    · rintro i L _ hi ⟨-, nl, g0, g1, g2, rfl, hq⟩
      have hkm : stk.getD i 0 ∈ stk := zl_mem hi
      obtain ⟨N1, E1⟩ := ze_Row_sizeL (μ := μ) D zd5_at hs
      obtain ⟨N2, E2⟩ := ze_Row_getL (μ := μ) D zd5_at hs hi
      have ef := zl_take_p (p := zd_owb μ k) hi
      have eall : stk.filter (zd_owb μ k) = (stk.take (i + 1)).filter (zd_owb μ k) ++ (stk.drop (i + 1)).filter (zd_owb μ k) := by rw [← List.filter_append, List.take_append_drop]
      generalize stk.getD i 0 = j at hkm E2 ef
      obtain ⟨hj, hjt⟩ := hb j hkm
      have c1 : ¬ nI stk.length ≤ nI i := nI_ge hi (by omega)
      have cr := zr_c (μ := μ) zd5_at
      by_cases c2 : μ (zdW j) 4 = nI k
      · rw [if_pos ((zd_owb_of hk hj hjt).mpr c2), hq, List.nil_append] at ef
        have ev : (stk.filter (zd_owb μ k)).getD 0 0 = j := by rw [eall, ef]; rfl
        rw [ev]
        right
        refine ⟨some (.int (nI j)), zm_mk μ, ⟨N1 + N2, 20, fun F m hF => ?_⟩, rfl, rfl⟩
        simp (maxDischargeDepth := 9) [zi_go, zf_X5_lowestDialogOf, zi_ask, zi_new, zi_step, zi_ld, zi_lda, zi_cmp, zi_retOk, zi_isI, zi_f3, zi_cr, zi_ci, zi_cn, zi_get_ne, zi_nl_i, zi_nl_r, zi_get_set_eq, nl, g0, g1, g2, c1, zd_g, zq_Row_size, zq_Row_get, cr, E1 F (by omega), E2 F (by omega), zd_w hj, zw_g (zdW_at hj), c2, nI_1]
      · rw [if_neg (fun z => c2 ((zd_owb_of hk hj hjt).mp z)), hq, List.append_nil] at ef
        left
        refine ⟨zi_set L 2 (.int (nI (i + 1))), zm_mk μ, ⟨N1 + N2, 17, fun F m hF => ?_⟩, by omega, ?_, ?_, ?_, zi_get_set_eq, rfl, ef⟩
        · simp (maxDischargeDepth := 9) [zi_go, zf_X5_lowestDialogOf, zi_ask, zi_new, zi_step, zi_ld, zi_lda, zi_cmp, zi_retOk, zi_isI, zi_f3, zi_cr, zi_ci, zi_cn, zi_get_ne, zi_nl_i, zi_nl_r, zi_get_set_eq, nl, g0, g1, g2, c1, zd_g, zq_Row_size, zq_Row_get, cr, E1 F (by omega), E2 F (by omega), zd_w hj, zw_g (zdW_at hj), c2, nI_1]
        · simp (maxDischargeDepth := 9) [zi_get_ne, zi_nl_i, zi_nl_r, zi_get_set_eq, nl]
        · simp (maxDischargeDepth := 9) [zi_get_ne, zi_nl_i, zi_nl_r, zi_get_set_eq, nl, g0]
        · simp (maxDischargeDepth := 9) [zi_get_ne, zi_nl_i, zi_nl_r, zi_get_set_eq, nl, g1]
    · rintro L _ ⟨-, nl, g0, g1, g2, rfl, hq⟩
      rw [List.take_length] at hq
      rw [hq] at hne
      exact absurd hne (Nat.lt_irrefl 0)
  obtain ⟨r, h', G, rfl, rfl⟩ := key
  refine ze_in [(0, .ref 1), (1, .int (nI k))] zq_Desk_lowestDialogOf (Nat.le_of_ble_eq_true rfl) rfl (ze_S.end ⟨0, 2, fun F m hF => ?_⟩ G)
  simp [zi_go, zf_X5_lowestDialogOf, zi_ask, zi_new, zi_step, zi_ld, zi_lda, zi_cmp, zi_retOk, zi_isI, zi_f3, zi_cr, zi_ci, zi_cn, zi_get, zi_set, nI_0]
/-- the stack after raise(k) -/
def zd_rz (μ : zm_M) (n k : Nat) (S : List Nat) : List Nat := zl_rz (zd_flo μ) (zd_owb μ) n k S
theorem zd_rz_cells {ν : zm_M} (e : ∀ j, j < 10 → ν (zdW j) = μ (zdW j)) : zd_owb ν = zd_owb μ ∧ ∀ j, j < 10 → zd_flo ν j = zd_flo μ j ∧ zd_th ν j = zd_th μ j := by
  refine ⟨funext fun a => funext fun b => ?_, fun j hj => ⟨by unfold zd_flo; rw [e j hj], by unfold zd_th; rw [e j hj]⟩⟩
  unfold zd_owb
  by_cases hb : b < 10
  · rw [e b hb]
  · rw [decide_eq_false (fun z => hb z.2.1), decide_eq_false (fun z => hb z.2.1)]
set_option maxRecDepth 100000 in
theorem ze_raise_v (D : Nat) {μ0 : zm_M} (hr : zd_rkc μ0 rk) : ∀ (m d : Nat), d + m = 10 → ∀ (μ : zm_M) (stk : List Nat) (k : Nat), (∀ j, j < 10 → μ (zdW j) = μ0 (zdW j)) → zr_L μ 5 stk → stk.Nodup → (∀ j ∈ stk, j < 10 ∧ zd_flo μ0 j = true) → k < 10 → zd_th μ0 k = true → d ≤ rk k →
    ∃ ν, ze_E (D + 4 + m) A_Desk_raise [.ref 1, .int (nI k), .int (nI d)] (zm_mk μ) none (zm_mk ν) ∧ zr_L ν 5 (zd_rz μ0 m k stk) ∧ ∀ c, c ≠ 5 → c ≠ 6 → ν c = μ c := by
  have h10 : (Int8.ofInt 10).toInt32 = (10 : Int32) := by decide
  intro m
  induction m with
  | zero =>
    intro d hd μ stk k _ _ _ _ _ _ hrk
    have := hr.1 k
    omega
  | succ m ih =>
    intro d hd μ stk k e0 hs hn hbf hk ht hrk
    obtain ⟨ow0, fl0⟩ := zd_rz_cells e0
    have hb : ∀ j ∈ stk, j < 10 := fun j hj => (hbf j hj).1
    have c1 : ¬ (10 : Int32) ≤ nI d := nI_ge (b := 10) (by omega) (by decide)
    have E1 := ze_thW (μ := μ) (D + 3 + m) hk
    rw [if_pos ((fl0 k hk).2.trans ht), show D + 3 + m + 1 = D + 4 + m by omega] at E1
    obtain ⟨N1, E1⟩ := E1
    have first : ∃ ν S1, (if zd_flo μ0 k = true then stk.erase k ++ [k] else stk) = S1 ∧ zr_L ν 5 S1 ∧ S1.Nodup ∧ (∀ j ∈ S1, j < 10 ∧ zd_flo μ0 j = true) ∧ (∀ c, c ≠ 5 → c ≠ 6 → ν c = μ c) ∧ ze_S (D + 4 + m) 5 none zc_X5_raise 0 [(0, .ref 1), (1, .int (nI k)), (2, .int (nI d))] [] (zm_mk μ) 35 [(0, .ref 1), (1, .int (nI k)), (2, .int (nI d))] [] (zm_mk ν) := by
      have E2 := ze_floW (μ := μ) (D + 3 + m) hk
      rw [show D + 3 + m + 1 = D + 4 + m by omega] at E2
      obtain ⟨N2, E2⟩ := E2
      have cw := zw_c (μ := μ) (zdW_at hk)
      by_cases c3 : zd_flo μ0 k = true
      · rw [if_pos ((fl0 k hk).1.trans c3)] at E2
        obtain ⟨ν, E3, l3, f3⟩ := ze_Row_putLast (μ := μ) (D + 1 + m) zd5_at hs hb hk (zl_er_len hn hb hk)
        rw [show D + 1 + m + 3 = D + 4 + m by omega] at E3
        obtain ⟨N3, E3⟩ := E3
        refine ⟨ν, stk.erase k ++ [k], if_pos c3, l3, ?_, fun j hj => ?_, fun c q1 q2 => funext fun b => f3 c b q1 q2, ⟨N1 + N2 + N3, 17, fun F n hF => ?_⟩⟩
        · exact (zl_app1 (R := stk.erase k) (hn.erase k) (fun h => ((zl_er_mem hn).mp h).1 rfl) (fun w hw => hb w (List.mem_of_mem_erase hw)) hk).1
        · rcases List.mem_append.mp hj with hj | hj
          · exact hbf j (List.mem_of_mem_erase hj)
          · have : j = k := by simpa using hj
            subst this
            exact ⟨hk, c3⟩
        · have cr := zr_c (μ := μ) zd5_at
          simp [zi_go, zf_X5_raise, zi_ask, zi_new, zi_step, zi_ld, zi_lda, zi_cmp, zi_retOk, zi_isI, zi_f3, zi_cr, zi_ci, zi_cn, zi_get, zi_set, h10, c1, zq_Desk_isWindow, zd_c, E1 F (by omega), zd_g, zd_w hk, zq_Win_isFloating, cw, E2 F (by omega), zq_Row_putLast, cr, E3 F (by omega)]
      · rw [if_neg (fun z => c3 ((fl0 k hk).1.symm.trans z))] at E2
        refine ⟨μ, stk, if_neg c3, hs, hn, hbf, fun _ _ _ => rfl, ⟨N1 + N2, 13, fun F n hF => ?_⟩⟩
        simp [zi_go, zf_X5_raise, zi_ask, zi_new, zi_step, zi_ld, zi_lda, zi_cmp, zi_retOk, zi_isI, zi_f3, zi_cr, zi_ci, zi_cn, zi_get, zi_set, h10, c1, zq_Desk_isWindow, zd_c, E1 F (by omega), zd_g, zd_w hk, zq_Win_isFloating, cw, E2 F (by omega)]
    obtain ⟨ν0, S1, eS, hL0, hn0, hb0, f0, S0⟩ := first
    have eW : ∀ (ξ : zm_M), (∀ c, c ≠ 5 → c ≠ 6 → ξ c = μ c) → ∀ j, j < 10 → ξ (zdW j) = μ0 (zdW j) := fun ξ f j hj => (f _ (by unfold zdW; omega) (by unfold zdW; omega)).trans (e0 j hj)
    have owν : ∀ (ξ : zm_M), (∀ c, c ≠ 5 → c ≠ 6 → ξ c = μ c) → zd_owb ξ = zd_owb μ0 ∧ ∀ j, j < 10 → zd_flo ξ j = zd_flo μ0 j ∧ zd_th ξ j = zd_th μ0 j := fun ξ f => zd_rz_cells (eW ξ f)
    have thf : ∀ (ξ : zm_M), (∀ c, c ≠ 5 → c ≠ 6 → ξ c = μ c) → ∀ j, j < 10 → zd_flo μ0 j = true → zd_th ξ j = true := fun ξ f j hj q => by
      rw [((owν ξ f).2 j hj).2]
      exact decide_eq_true (of_decide_eq_true q).1
    have E4 := ze_dialogsOf_v (μ := ν0) (D + 2 + m) hL0 (fun j hj => ⟨(hb0 j hj).1, thf ν0 f0 j (hb0 j hj).1 (hb0 j hj).2⟩) hk
    rw [show D + 2 + m + 2 = D + 4 + m by omega, (owν ν0 f0).1] at E4
    obtain ⟨N4, E4⟩ := E4
    have hdl : (S1.filter (zd_owb μ0 k)).length ≤ 10 := Nat.le_trans (List.length_filter_le _ _) hL0.1
    have key : ∃ r h', ze_G (D + 4 + m) 5 none zc_X5_raise 44 [(4, .int (nI 0)), (3, .int (nI (S1.filter (zd_owb μ0 k)).length)), (0, .ref 1), (1, .int (nI k)), (2, .int (nI d))] [] (zm_mk ν0) r h' ∧ (r = none ∧ ∃ ν, zm_mk ν = h' ∧ zr_L ν 5 ((S1.filter (zd_owb μ0 k)).foldl (fun S c => zl_rz (zd_flo μ0) (zd_owb μ0) m c S) S1) ∧ ∀ c, c ≠ 5 → c ≠ 6 → ν c = μ c) := by
      refine ze_loop (Q := fun i L hp => i ≤ (S1.filter (zd_owb μ0 k)).length ∧ zi_nl L = true ∧ zi_get L 0 = some (.ref 1) ∧ zi_get L 1 = some (.int (nI k)) ∧ zi_get L 2 = some (.int (nI d)) ∧ zi_get L 3 = some (.int (nI (S1.filter (zd_owb μ0 k)).length)) ∧ zi_get L 4 = some (.int (nI i)) ∧ ∃ ν : zm_M, zm_mk ν = hp ∧ (zr_L ν 5 (((S1.filter (zd_owb μ0 k)).take i).foldl (fun S c => zl_rz (zd_flo μ0) (zd_owb μ0) m c S) S1)) ∧ (∀ c, c ≠ 5 → c ≠ 6 → ν c = μ c) ∧ (True)) (R := fun r h' => r = none ∧ ∃ ν, zm_mk ν = h' ∧ zr_L ν 5 ((S1.filter (zd_owb μ0 k)).foldl (fun S c => zl_rz (zd_flo μ0) (zd_owb μ0) m c S) S1) ∧ ∀ c, c ≠ 5 → c ≠ 6 → ν c = μ c) (S1.filter (zd_owb μ0 k)).length ?_ ?_ (S1.filter (zd_owb μ0 k)).length 0 _ _ (by omega) ⟨by omega, rfl, rfl, rfl, rfl, rfl, rfl, ν0, rfl, hL0, f0, trivial⟩
      · rintro i L _ hi ⟨-, nl, g0, g1, g2, g3, g4, ν, rfl, hZ, fZ, hq⟩
        have hm := zl_mem hi
        obtain ⟨hcS, hco⟩ := List.mem_filter.mp hm
        have hcr := hr.2.1 k _ hco
        have hm0 : m ≠ 0 := fun z => by
          have := hr.1 ((S1.filter (zd_owb μ0 k)).getD i 0)
          omega
        obtain ⟨m', hm'⟩ : ∃ m', m = m' + 1 := ⟨m - 1, by omega⟩
        have it : (((S1.filter (zd_owb μ0 k)).take i).foldl (fun S c => zl_rz (zd_flo μ0) (zd_owb μ0) m c S) S1).Nodup ∧ (∀ x, x ∈ ((S1.filter (zd_owb μ0 k)).take i).foldl (fun S c => zl_rz (zd_flo μ0) (zd_owb μ0) m c S) S1 ↔ x ∈ S1) ∧ (((S1.filter (zd_owb μ0 k)).take i).foldl (fun S c => zl_rz (zd_flo μ0) (zd_owb μ0) m c S) S1).filter (zd_owb μ0 k) = (S1.filter (zd_owb μ0 k)).drop i ++ (S1.filter (zd_owb μ0 k)).take i := by
          rw [hm']
          exact zl_rz_iter hr.2.1 zd_owb_uq hr.2.2 hn0 i (by omega)
        obtain ⟨i1, i2, i3⟩ := it
        have etk : (S1.filter (zd_owb μ0 k)).take (i + 1) = (S1.filter (zd_owb μ0 k)).take i ++ [(S1.filter (zd_owb μ0 k)).getD i 0] := zl_take hi
        have hdr : (S1.filter (zd_owb μ0 k)).drop i = (S1.filter (zd_owb μ0 k)).getD i 0 :: (S1.filter (zd_owb μ0 k)).drop (i + 1) := by
          rw [List.drop_eq_getElem_cons hi, List.getD_eq_getElem?_getD, List.getElem?_eq_getElem hi]
          rfl
        generalize hT : ((S1.filter (zd_owb μ0 k)).take i).foldl (fun S c => zl_rz (zd_flo μ0) (zd_owb μ0) m c S) S1 = T at i1 i2 i3 hZ
        have hTb : ∀ j ∈ T, j < 10 ∧ zd_flo μ0 j = true := fun j hj => hb0 j ((i2 j).mp hj)
        have hne : 0 < (T.filter (zd_owb μ0 k)).length := by rw [i3, hdr]; simp
        have hhead : (T.filter (zd_owb μ0 k)).getD 0 0 = (S1.filter (zd_owb μ0 k)).getD i 0 := by rw [i3, hdr]; rfl
        generalize (S1.filter (zd_owb μ0 k)).getD i 0 = x at hm hcS hco hcr etk hdr hhead
        have hx := hb0 x hcS
        have E5 := ze_lowestDialogOf_v (μ := ν) (D + 2 + m) hZ (fun j hj => ⟨(hTb j hj).1, thf ν fZ j (hTb j hj).1 (hTb j hj).2⟩) hk (by rw [(owν ν fZ).1]; exact hne)
        rw [show D + 2 + m + 2 = D + 4 + m by omega, (owν ν fZ).1, hhead] at E5
        obtain ⟨N5, E5⟩ := E5
        obtain ⟨ξ, ⟨N6, E6⟩, hY, fY⟩ := ih (d + 1) (by omega) ν T x (eW ν fZ) hZ i1 hTb hx.1 (decide_eq_true (of_decide_eq_true hx.2).1) (by omega)
        have c3 : ¬ nI (S1.filter (zd_owb μ0 k)).length ≤ nI i := nI_ge hi (by omega)
        have hY' : zr_L ξ 5 (((S1.filter (zd_owb μ0 k)).take (i + 1)).foldl (fun S c => zl_rz (zd_flo μ0) (zd_owb μ0) m c S) S1) := by
          rw [etk, List.foldl_append, List.foldl_cons, List.foldl_nil, hT]
          exact hY
        have fX : ∀ c, c ≠ 5 → c ≠ 6 → ξ c = μ c := fun c q1 q2 => (fY c q1 q2).trans (fZ c q1 q2)
        left
        refine ⟨zi_set L 4 (.int (nI (i + 1))), zm_mk ξ, ⟨N5 + N6, 13, fun F m hF => ?_⟩, by omega, ?_, ?_, ?_, ?_, ?_, zi_get_set_eq, ξ, rfl, hY', fX, trivial⟩
        · simp (maxDischargeDepth := 9) [zi_go, zf_X5_raise, zi_ask, zi_new, zi_step, zi_ld, zi_lda, zi_cmp, zi_retOk, zi_isI, zi_f3, zi_cr, zi_ci, zi_cn, zi_get_ne, zi_nl_i, zi_nl_r, zi_get_set_eq, nl, g0, g1, g2, g3, g4, c3, zq_Desk_lowestDialogOf, zq_Desk_raise, zd_c, E5 F (by omega), E6 F (by omega), nI_1]
        · simp (maxDischargeDepth := 9) [zi_get_ne, zi_nl_i, zi_nl_r, zi_get_set_eq, nl]
        · simp (maxDischargeDepth := 9) [zi_get_ne, zi_nl_i, zi_nl_r, zi_get_set_eq, nl, g0]
        · simp (maxDischargeDepth := 9) [zi_get_ne, zi_nl_i, zi_nl_r, zi_get_set_eq, nl, g1]
        · simp (maxDischargeDepth := 9) [zi_get_ne, zi_nl_i, zi_nl_r, zi_get_set_eq, nl, g2]
        · simp (maxDischargeDepth := 9) [zi_get_ne, zi_nl_i, zi_nl_r, zi_get_set_eq, nl, g3]
      · rintro L _ ⟨-, nl, g0, g1, g2, g3, g4, ν, rfl, hZ, fZ, hq⟩
        rw [List.take_length] at hZ
        refine ⟨none, zm_mk ν, ⟨0, 4, fun F m hF => ?_⟩, rfl, ν, rfl, hZ, fZ⟩
        simp [zi_go, zf_X5_raise, zi_ask, zi_new, zi_step, zi_ld, zi_lda, zi_cmp, zi_retOk, zi_isI, zi_f3, zi_cr, zi_ci, zi_cn, g0, g3, g4]
    obtain ⟨r, h', G, rfl, ν, rfl, hZ, fZ⟩ := key
    refine ⟨ν, ze_in [(0, .ref 1), (1, .int (nI k)), (2, .int (nI d))] zq_Desk_raise (Nat.le_of_ble_eq_true rfl) rfl (S0.end (ze_S.end (p2 := 44) (L2 := [(4, .int (nI 0)), (3, .int (nI (S1.filter (zd_owb μ0 k)).length)), (0, .ref 1), (1, .int (nI k)), (2, .int (nI d))]) (s2 := []) (h2 := zm_mk ν0) ⟨N4, 6, fun F n hF => ?_⟩ G)), ?_, fZ⟩
    · simp [zi_go, zf_X5_raise, zi_ask, zi_new, zi_step, zi_ld, zi_lda, zi_cmp, zi_retOk, zi_isI, zi_f3, zi_cr, zi_ci, zi_cn, zi_get, zi_set, zq_Desk_dialogsOf, zd_c, E4 F (by omega), nI_0]
    · rw [← eS] at hZ
      exact hZ
end ZCR
