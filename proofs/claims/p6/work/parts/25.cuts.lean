/-! Tree.measureCuts, settle -/
section ZT6
variable {T : Nat}
/-- all arrays of nodes at one place: read, written -/
theorem zt_ld {μ : zm_M} {j : Int32} (h : zt_at T) (hj : zi_in j 19 = true) : zi_iald none [] (zm_mk μ) j (T + 7 + 1) = some (.int (μ (T + 7) j.toNatClampNeg)) ∧ zi_iald none [] (zm_mk μ) j (T + 8 + 1) = some (.int (μ (T + 8) j.toNatClampNeg)) ∧ zi_iald none [] (zm_mk μ) j (T + 9 + 1) = some (.int (μ (T + 9) j.toNatClampNeg)) ∧ zi_iald none [] (zm_mk μ) j (T + 10 + 1) = some (.int (μ (T + 10) j.toNatClampNeg)) ∧ zi_iald none [] (zm_mk μ) j (T + 11 + 1) = some (.int (μ (T + 11) j.toNatClampNeg)) ∧ zi_iald none [] (zm_mk μ) j (T + 12 + 1) = some (.int (μ (T + 12) j.toNatClampNeg)) ∧ zi_iald none [] (zm_mk μ) j (T + 13 + 1) = some (.int (μ (T + 13) j.toNatClampNeg)) ∧ zi_iald none [] (zm_mk μ) j (T + 14 + 1) = some (.int (μ (T + 14) j.toNatClampNeg)) := by
  obtain ⟨-, -, -, -, ⟨a7, a8, a9, a10, a11, a12, a13, a14⟩, -⟩ := h
  exact ⟨zm_iald (k := 0) a7 hj, zm_iald (k := 0) a8 hj, zm_iald (k := 0) a9 hj, zm_iald (k := 0) a10 hj, zm_iald (k := 0) a11 hj, zm_iald (k := 0) a12 hj, zm_iald (k := 0) a13 hj, zm_iald (k := 0) a14 hj⟩
theorem zt_st {μ : zm_M} {j : Int32} (h : zt_at T) (hj : zi_in j 19 = true) (x : Int32) : zi_iast (zm_mk μ) j (T + 7) (.int x) = some (zm_mk (zm_up μ (T + 7) j.toNatClampNeg x)) ∧ zi_iast (zm_mk μ) j (T + 8) (.int x) = some (zm_mk (zm_up μ (T + 8) j.toNatClampNeg x)) ∧ zi_iast (zm_mk μ) j (T + 9) (.int x) = some (zm_mk (zm_up μ (T + 9) j.toNatClampNeg x)) ∧ zi_iast (zm_mk μ) j (T + 10) (.int x) = some (zm_mk (zm_up μ (T + 10) j.toNatClampNeg x)) ∧ zi_iast (zm_mk μ) j (T + 11) (.int x) = some (zm_mk (zm_up μ (T + 11) j.toNatClampNeg x)) ∧ zi_iast (zm_mk μ) j (T + 12) (.int x) = some (zm_mk (zm_up μ (T + 12) j.toNatClampNeg x)) ∧ zi_iast (zm_mk μ) j (T + 13) (.int x) = some (zm_mk (zm_up μ (T + 13) j.toNatClampNeg x)) ∧ zi_iast (zm_mk μ) j (T + 14) (.int x) = some (zm_mk (zm_up μ (T + 14) j.toNatClampNeg x)) := by
  obtain ⟨-, -, -, -, ⟨a7, a8, a9, a10, a11, a12, a13, a14⟩, -⟩ := h
  exact ⟨zm_iast a7 hj, zm_iast a8 hj, zm_iast a9 hj, zm_iast a10 hj, zm_iast a11 hj, zm_iast a12 hj, zm_iast a13 hj, zm_iast a14 hj⟩
def zy_ls (a : Nat) (fm lf : Nat → Int32) : zy_F → Int32
  | .append (.tag n x) y => if fm n = nI a then zy_ls a fm lf x + zy_ls a fm lf y else zi_mx (zy_ls a fm lf x) (zy_ls a fm lf y)
  | .tag n _ => lf n
  | _ => 0
def zy_lso (g : Nat → Int32) (a : Nat) (fm lf : Nat → Int32) : zy_F → Prop
  | .append (.tag n x) y => g n = zy_ls a fm lf (.append (.tag n x) y) ∧ zy_lso g a fm lf x ∧ zy_lso g a fm lf y
  | .tag n _ => g n = lf n
  | _ => True
theorem zy_lso_id {g : Nat → Int32} {a : Nat} {fm lf : Nat → Int32} : ∀ t, zy_wf t → zy_lso g a fm lf t → g (zy_id t) = zy_ls a fm lf t := by
  apply zy_ind
  · intro n h
    exact h
  · intro n x y _ _ _ _ h
    exact h.1
theorem zy_lso_congr {g g' : Nat → Int32} {a : Nat} {fm lf : Nat → Int32} : ∀ t, zy_wf t → (∀ n ∈ zy_ids t, g' n = g n) → zy_lso g a fm lf t → zy_lso g' a fm lf t := by
  apply zy_ind
  · intro n e h
    exact (e n List.mem_cons_self).trans h
  · intro n x y _ _ ix iy e h
    refine ⟨(e n List.mem_cons_self).trans h.1, ix (fun m hm => e m (List.mem_cons_of_mem _ (List.mem_append_left _ hm))) h.2.1, iy (fun m hm => e m (List.mem_cons_of_mem _ (List.mem_append_right _ hm))) h.2.2⟩
theorem zi_subm (x : Int32) : x + (-1) = x - 1 := by
  rw [Int32.sub_eq_add_neg]
set_option maxRecDepth 100000 in
theorem zt_cuts_S (D : Nat) (h : zt_at T) {a : Nat} (ha : a < 2) (fm lf : Nat → Int32) : ∀ t, zy_wf t → ∀ (μ : zm_M) (L : zi_Lc) (p : Nat), μ (T + 7) = fm → zy_okM μ T t → (∀ n ∈ zy_ids t, n < 19) → (zy_ids t).Nodup →
    (∀ j, j < (zy_ids t).length → μ (T + 13) (p + j) = nI ((zy_ids t).getD j 0)) → zi_nl L = true → zi_get L 0 = some (.ref (T + 1)) → zi_get L 1 = some (.int (nI a)) → zi_get L 2 = some (.int (nI (p + (zy_ids t).length) - 1)) → p + (zy_ids t).length ≤ 19 →
    (∀ n ∈ zy_lvs t, μ (T + 16 + a) n = lf n) →
    ∃ μ' L', ze_S (D + 1) 6 none zc_X3_measureCuts 7 L [] (zm_mk μ) 7 L' [] (zm_mk μ') ∧ zi_nl L' = true ∧ zi_get L' 0 = some (.ref (T + 1)) ∧ zi_get L' 1 = some (.int (nI a)) ∧ zi_get L' 2 = some (.int (nI p - 1)) ∧
      (∀ c, c ≠ T + 16 + a → μ' c = μ c) ∧ (∀ n, n ∉ zy_ids t → μ' (T + 16 + a) n = μ (T + 16 + a) n) ∧ zy_lso (μ' (T + 16 + a)) a fm lf t := by
  apply zy_ind
  · intro n μ L p hf hok hlt hnd ho nl g0 g1 g2 hp hlv
    have hn : n < 19 := hlt n List.mem_cons_self
    have hfm : μ (T + 7) n = 2 := hok
    have hp : p + 1 ≤ 19 := hp
    have g2 : zi_get L 2 = some (.int (nI (p + 1) - 1)) := g2
    rw [nI_pred] at g2
    have ho : μ (T + 13) p = nI n := ho 0 (Nat.zero_lt_one)
    have c1 : ¬ nI p < 0 := nI_pos (by omega)
    have i1 : zi_in (nI p) 19 = true := zm_in (by omega) (by decide)
    have i2 : zi_in (nI n) 19 = true := zm_in (by omega) (by decide)
    have e1 : (nI p).toNatClampNeg = p := nI_clamp (by omega)
    have e2 : (nI n).toNatClampNeg = n := nI_clamp (by omega)
    refine ⟨μ, zi_set (zi_set L 3 (.int (nI n))) 2 (.int (nI p - 1)), ⟨0, 15, fun F m _ => ?_⟩, ?_, ?_, ?_, ?_, fun c _ => rfl, fun m _ => rfl, hlv n List.mem_cons_self⟩
    · simp (maxDischargeDepth := 9) [zg_0, zg_aaload, zg_aload_n, zg_getfield, zg_goto, zg_iadd, zg_iaload, zg_iastore, zg_iconst, zg_ifCond, zg_if_icmp, zg_iinc, zg_iload, zg_iload_n, zg_invokestatic, zg_istore, zg_istore_n, zg_isub, zg_return, zf_X3_measureCuts, zi_ld, zi_lda, zi_cmp, zi_retOk, zi_isI, zi_f3, zi_cr, zi_ci, zi_cn, zi_get_ne, zi_nl_i, zi_nl_r, zi_get_set_eq, nl, g0, g1, g2, c1, zt_g h, zt_ld h i1, e1, ho, zt_ld h i2, e2, hfm, zi_subm]
    · simp (maxDischargeDepth := 9) [zi_get_ne, zi_nl_i, zi_nl_r, zi_get_set_eq, nl]
    · simp (maxDischargeDepth := 9) [zi_get_ne, zi_nl_i, zi_nl_r, zi_get_set_eq, nl, g0]
    · simp (maxDischargeDepth := 9) [zi_get_ne, zi_nl_i, zi_nl_r, zi_get_set_eq, nl, g1]
    · exact zi_get_set_eq
  · intro n x y wx wy ihx ihy μ L p hf hok hlt hnd ho nl g0 g1 g2 hp hlv
    have hlen : (zy_ids (.append (.tag n x) y)).length = (zy_ids x).length + (zy_ids y).length + 1 := by
      show (n :: (zy_ids x ++ zy_ids y)).length = _
      simp only [List.length_cons, List.length_append]
    rw [hlen] at ho g2 hp
    have ho' : ∀ j, j < (zy_ids x).length + (zy_ids y).length + 1 → μ (T + 13) (p + j) = nI ((n :: (zy_ids x ++ zy_ids y)).getD j 0) := ho
    have hnd' : (n :: (zy_ids x ++ zy_ids y)).Nodup := hnd
    obtain ⟨hn1, hn2⟩ := List.nodup_cons.mp hnd'
    obtain ⟨ndx, ndy, dis⟩ := List.nodup_append.mp hn2
    have hn : n < 19 := hlt n List.mem_cons_self
    have hlx : ∀ m ∈ zy_ids x, m < 19 := fun m hm => hlt m (List.mem_cons_of_mem _ (List.mem_append_left _ hm))
    have hly : ∀ m ∈ zy_ids y, m < 19 := fun m hm => hlt m (List.mem_cons_of_mem _ (List.mem_append_right _ hm))
    obtain ⟨⟨hfm, hfs, hsd, -, -⟩, okx, oky⟩ := hok
    have lx := hlx _ (zy_id_mem wx)
    have ly := hly _ (zy_id_mem wy)
    obtain ⟨μ1, L1, S1, nl1, a0, a1, a2, f1, o1, l1⟩ := ihy μ L (p + 1 + (zy_ids x).length) hf oky hly ndy (fun j hj => by
      have := ho' (1 + (zy_ids x).length + j) (by omega)
      rw [show p + (1 + (zy_ids x).length + j) = p + 1 + (zy_ids x).length + j by omega] at this
      rw [this, show 1 + (zy_ids x).length + j = ((zy_ids x).length + j) + 1 by omega]
      show nI ((zy_ids x ++ zy_ids y).getD ((zy_ids x).length + j) 0) = _
      rw [List.getD_eq_getElem?_getD, List.getElem?_append_right (by omega), List.getD_eq_getElem?_getD, show (zy_ids x).length + j - (zy_ids x).length = j by omega]) nl g0 g1 (by rw [g2]; congr 4; omega) (by omega) (fun m hm => hlv m (List.mem_append_right _ hm))
    have ok1 : zy_okM μ1 T x := by
      unfold zy_okM
      rw [f1 (T + 7) (by omega), f1 (T + 9) (by omega), f1 (T + 10) (by omega), f1 (T + 11) (by omega)]
      exact okx
    obtain ⟨μ2, L2, S2, nl2, b0, b1, b2, f2, o2, l2⟩ := ihx μ1 L1 (p + 1) (by rw [f1 (T + 7) (by omega)]; exact hf) ok1 hlx ndx (fun j hj => by
      rw [f1 (T + 13) (by omega)]
      have := ho' (1 + j) (by omega)
      rw [show p + (1 + j) = p + 1 + j by omega] at this
      rw [this, show 1 + j = j + 1 by omega]
      show nI ((zy_ids x ++ zy_ids y).getD j 0) = _
      rw [List.getD_eq_getElem?_getD, List.getElem?_append_left hj, List.getD_eq_getElem?_getD]) nl1 a0 a1 a2 (by omega) (fun m hm => by
      rw [o1 m (fun hm2 => dis m (zy_lvs_ids x wx m hm) m hm2 rfl)]
      exact hlv m (List.mem_append_left _ hm))
    have f12 : ∀ c, c ≠ T + 16 + a → μ2 c = μ c := fun c hc => (f2 c hc).trans (f1 c hc)
    have l1' : zy_lso (μ2 (T + 16 + a)) a fm lf y := zy_lso_congr y wy (fun m hm => o2 m (fun hm2 => dis m hm2 m hm rfl)) l1
    have ex := zy_lso_id x wx l2
    have ey := zy_lso_id y wy l1'
    have g7 : μ2 (T + 7) n = fm n := by rw [f12 _ (by omega), hf]
    have g9 : μ2 (T + 9) n = nI (zy_id x) := by rw [f12 _ (by omega)]; exact hfs
    have g10 : μ2 (T + 10) n = nI (zy_id y) := by rw [f12 _ (by omega)]; exact hsd
    have g13 : μ2 (T + 13) p = nI n := by rw [f12 _ (by omega)]; exact ho' 0 (by omega)
    rw [hf] at hfm
    have hfm2 : ¬ fm n = 2 := by rcases hfm with e | e <;> rw [e] <;> decide
    rw [nI_pred] at b2
    have nl := nl2
    have c1 : ¬ nI p < 0 := nI_pos (by omega)
    have i1 : zi_in (nI p) 19 = true := zm_in (by omega) (by decide)
    have i2 : zi_in (nI n) 19 = true := zm_in (by omega) (by decide)
    have i3 : zi_in (nI (zy_id x)) 19 = true := zm_in lx (by decide)
    have i4 : zi_in (nI (zy_id y)) 19 = true := zm_in ly (by decide)
    have e1 : (nI p).toNatClampNeg = p := nI_clamp (by omega)
    have e2 : (nI n).toNatClampNeg = n := nI_clamp (by omega)
    have e3 : (nI (zy_id x)).toNatClampNeg = zy_id x := nI_clamp (by omega)
    have e4 : (nI (zy_id y)).toNatClampNeg = zy_id y := nI_clamp (by omega)
    obtain ⟨⟨-, y15, -, -⟩, -, A16, -, -⟩ := zt_axT (μ := μ2) h ha
    obtain ⟨N3, h3⟩ := ze_max (h := zm_mk μ2) D (zy_ls a fm lf x) (zy_ls a fm lf y)
    let v := zy_ls a fm lf (.append (.tag n x) y)
    have hv : v = if fm n = nI a then zy_ls a fm lf x + zy_ls a fm lf y else zi_mx (zy_ls a fm lf x) (zy_ls a fm lf y) := rfl
    have S3 : ze_S (D + 1) 6 none zc_X3_measureCuts 7 L2 [] (zm_mk μ2) 7 (zi_set (zi_set (zi_set (zi_set L2 3 (.int (nI n))) 4 (.int (zy_ls a fm lf x))) 5 (.int (zy_ls a fm lf y))) 2 (.int (nI p - 1))) [] (zm_mk (zm_up μ2 (T + 16 + a) n v)) := by
      by_cases c : fm n = nI a
      · rw [if_pos c] at hv
        rw [hv]
        have hfm3 : ¬ nI a = 2 := c ▸ hfm2
        refine ⟨0, 51, fun F m _ => ?_⟩
        simp (maxDischargeDepth := 9) [zg_0, zg_aaload, zg_aload_n, zg_getfield, zg_goto, zg_iadd, zg_iaload, zg_iastore, zg_iconst, zg_ifCond, zg_if_icmp, zg_iinc, zg_iload, zg_iload_n, zg_invokestatic, zg_istore, zg_istore_n, zg_isub, zg_return, zf_X3_measureCuts, zi_ld, zi_lda, zi_cmp, zi_retOk, zi_isI, zi_f3, zi_cr, zi_ci, zi_cn, zi_get_ne, zi_nl_i, zi_nl_r, zi_get_set_eq, nl, b0, b1, b2, c1, zt_g h, zt_ld h i1, e1, g13, zt_ld h i2, e2, g7, c, hfm3, y15, g9, g10, zm_iald (k := 0) A16 i3, zm_iald (k := 0) A16 i4, zm_iast A16 i2, e3, e4, ex, ey, zi_subm]
      · rw [if_neg c] at hv
        rw [hv]
        refine ⟨N3, 50, fun F m hF => ?_⟩
        simp (maxDischargeDepth := 9) [zg_0, zg_aaload, zg_aload_n, zg_getfield, zg_goto, zg_iadd, zg_iaload, zg_iastore, zg_iconst, zg_ifCond, zg_if_icmp, zg_iinc, zg_iload, zg_iload_n, zg_invokestatic, zg_istore, zg_istore_n, zg_isub, zg_return, zf_X3_measureCuts, zi_ld, zi_lda, zi_cmp, zi_retOk, zi_isI, zi_f3, zi_cr, zi_ci, zi_cn, zi_get_ne, zi_nl_i, zi_nl_r, zi_get_set_eq, nl, b0, b1, b2, c1, zt_g h, zt_ld h i1, e1, g13, zt_ld h i2, e2, g7, c, hfm2, y15, g9, g10, zm_iald (k := 0) A16 i3, zm_iald (k := 0) A16 i4, zm_iast A16 i2, e3, e4, ex, ey, zi_subm, zq_Math_max, h3 F hF]
    refine ⟨_, _, (S1.trans S2).trans S3, ?_, ?_, ?_, zi_get_set_eq, fun c hc => ?_, fun m hm => ?_, ?_, ?_, ?_⟩
    · simp (maxDischargeDepth := 9) [zi_get_ne, zi_nl_i, zi_nl_r, zi_get_set_eq, nl]
    · simp (maxDischargeDepth := 9) [zi_get_ne, zi_nl_i, zi_nl_r, zi_get_set_eq, nl, b0]
    · simp (maxDischargeDepth := 9) [zi_get_ne, zi_nl_i, zi_nl_r, zi_get_set_eq, nl, b1]
    · rw [zm_up_row hc]
      exact f12 c hc
    · have hm1 : m ≠ n := fun e => hm (e ▸ List.mem_cons_self)
      have hm2 : m ∉ zy_ids x := fun e => hm (List.mem_cons_of_mem _ (List.mem_append_left _ e))
      have hm3 : m ∉ zy_ids y := fun e => hm (List.mem_cons_of_mem _ (List.mem_append_right _ e))
      rw [zm_up_ne (by omega), o2 m hm2, o1 m hm3]
    · exact zm_up_eq
    · exact zy_lso_congr x wx (fun m hm => zm_up_ne (fun e => hn1 (e.2 ▸ List.mem_append_left _ hm))) l2
    · exact zy_lso_congr y wy (fun m hm => zm_up_ne (fun e => hn1 (e.2 ▸ List.mem_append_right _ hm))) l1'
set_option maxRecDepth 100000 in
theorem ze_Tree_measureCuts {μ : zm_M} {t : zy_F} (D : Nat) (h : zt_at T) {a : Nat} (ha : a < 2) (lf : Nat → Int32) (hr : zt_root μ T t) (hlt : ∀ n ∈ zy_ids t, n < 19) (hnd : (zy_ids t).Nodup) (ho : zt_O μ T t) (hlv : ∀ n ∈ zy_lvs t, μ (T + 16 + a) n = lf n) :
    ∃ μ', ze_E (D + 2) A_Tree_measureCuts [.ref (T + 1), .int (nI a)] (zm_mk μ) none (zm_mk μ') ∧ (∀ c, c ≠ T + 16 + a → μ' c = μ c) ∧ zy_lso (μ' (T + 16 + a)) a (μ (T + 7)) lf t := by
  have hl19 := zy_nodup_le 19 (zy_ids t) hnd hlt
  have s0 : ze_S (D + 1) 6 none zc_X3_measureCuts 0 [(0, .ref (T + 1)), (1, .int (nI a))] [] (zm_mk μ) 7 [(2, .int (nI (0 + (zy_ids t).length) - 1)), (0, .ref (T + 1)), (1, .int (nI a))] [] (zm_mk μ) := by
    refine ⟨0, 5, fun F n _ => ?_⟩
    simp [zg_0, zg_aaload, zg_aload_n, zg_getfield, zg_goto, zg_iadd, zg_iaload, zg_iastore, zg_iconst, zg_ifCond, zg_if_icmp, zg_iinc, zg_iload, zg_iload_n, zg_invokestatic, zg_istore, zg_istore_n, zg_isub, zg_return, zf_X3_measureCuts, zi_ld, zi_lda, zi_cmp, zi_retOk, zi_isI, zi_f3, zi_cr, zi_ci, zi_cn, zi_get, zi_set, zt_g h, ho.1]
  have hend : ∀ (L : zi_Lc) (ν : zm_M), zi_get L 2 = some (.int (nI 0 - 1)) → ze_G (D + 1) 6 none zc_X3_measureCuts 7 L [] (zm_mk ν) none (zm_mk ν) := by
    intro L ν g2
    have c : nI 0 - 1 < 0 := by decide
    refine ⟨0, 3, fun F n _ => ?_⟩
    simp [zg_0, zg_aaload, zg_aload_n, zg_getfield, zg_goto, zg_iadd, zg_iaload, zg_iastore, zg_iconst, zg_ifCond, zg_if_icmp, zg_iinc, zg_iload, zg_iload_n, zg_invokestatic, zg_istore, zg_istore_n, zg_isub, zg_return, zf_X3_measureCuts, zi_ld, zi_lda, zi_cmp, zi_retOk, zi_isI, zi_f3, zi_cr, zi_ci, zi_cn, g2, c]
  rcases hr with ⟨rfl, hr⟩ | ⟨hw, hok, hr⟩
  · exact ⟨μ, ze_in [(0, .ref (T + 1)), (1, .int (nI a))] zq_Tree_measureCuts (Nat.le_of_ble_eq_true rfl) rfl (s0.end (hend _ _ rfl)), fun _ _ => rfl, trivial⟩
  · obtain ⟨μ', L', S, -, -, -, g2, f, -, l⟩ := zt_cuts_S D h ha (μ (T + 7)) lf t hw μ [(2, .int (nI (0 + (zy_ids t).length) - 1)), (0, .ref (T + 1)), (1, .int (nI a))] 0 rfl hok hlt hnd (fun j hj => by rw [Nat.zero_add]; exact ho.2 j hj) rfl rfl rfl rfl (by omega) hlv
    exact ⟨μ', ze_in [(0, .ref (T + 1)), (1, .int (nI a))] zq_Tree_measureCuts (Nat.le_of_ble_eq_true rfl) rfl ((s0.trans S).end (hend _ _ g2)), f, l⟩
/-- what the tree's found fields say -/
def zt_Z (μ : zm_M) (T : Nat) (R : List Nat) (t : zy_F) : Prop := zt_O μ T t ∧ ∀ a, a < 2 → zy_lso (μ (T + 16 + a)) a (μ (T + 7)) (zt_lf (μ (T + 5 + a)) (μ (T + 3)) R) t
/-- what settle leaves as it was -/
def zt_frZ (T : Nat) (μ μ' : zm_M) : Prop := (∀ c, c ≠ T → c ≠ T + 13 → c ≠ T + 14 → c ≠ T + 16 → c ≠ T + 17 → μ' c = μ c) ∧ ∀ b, b ≠ 12 → μ' T b = μ T b
theorem zt_frZ.trans {μ ν ξ : zm_M} (h : zt_frZ T μ ν) (g : zt_frZ T ν ξ) : zt_frZ T μ ξ := ⟨fun a h1 h2 h3 h4 h5 => (g.1 a h1 h2 h3 h4 h5).trans (h.1 a h1 h2 h3 h4 h5), fun b hb => (g.2 b hb).trans (h.2 b hb)⟩
theorem zt_frZ.root {μ ν : zm_M} {t : zy_F} (h : zt_frZ T μ ν) (g : zt_root μ T t) : zt_root ν T t := by
  unfold zt_root zy_okM at *
  rw [h.1 (T + 7) (by omega) (by omega) (by omega) (by omega) (by omega), h.1 (T + 9) (by omega) (by omega) (by omega) (by omega) (by omega), h.1 (T + 10) (by omega) (by omega) (by omega) (by omega) (by omega), h.1 (T + 11) (by omega) (by omega) (by omega) (by omega) (by omega), h.2 9 (by decide)]
  exact g
theorem zt_frZ.rowL {μ ν : zm_M} {R : List Nat} (h : zt_frZ T μ ν) (g : zr_L μ (T + 1) R) : zr_L ν (T + 1) R := by
  unfold zr_L at *
  rw [h.1 (T + 1) (by omega) (by omega) (by omega) (by omega) (by omega), show T + 1 + 1 = T + 2 from rfl, h.1 (T + 2) (by omega) (by omega) (by omega) (by omega) (by omega)]
  exact g
theorem zy_lvs_lt {t : zy_F} (hr : t = .nil ∨ zy_wf t) (hlt : ∀ n ∈ zy_ids t, n < 19) : ∀ n ∈ zy_lvs t, n < 19 := by
  rcases hr with rfl | hw
  · intro n hn; cases hn
  · exact fun n hn => hlt n (zy_lvs_ids t hw n hn)
set_option maxRecDepth 100000 in
theorem ze_Tree_settle {μ : zm_M} {t : zy_F} {R : List Nat} (D : Nat) (h : zt_at T) (hr : zt_root μ T t) (hlt : ∀ n ∈ zy_ids t, n < 19) (hnd : (zy_ids t).Nodup) (hR : zr_L μ (T + 1) R) (hb : ∀ w ∈ R, w < 10) (hm : ∀ w ∈ R, ∃ n, n < 19 ∧ μ (T + 3) w = nI n) :
    ∃ μ', ze_E (D + 3) A_Tree_settle [.ref (T + 1)] (zm_mk μ) none (zm_mk μ') ∧ zt_frZ T μ μ' ∧ zt_Z μ' T R t := by
  have hlv19 := zy_lvs_lt (hr.imp (·.1) (·.1)) hlt
  obtain ⟨μ1, ⟨N1, E1⟩, f1, o1⟩ := ze_Tree_listNodes (D + 1) h hr hlt hnd
  have F1 : zt_frZ T μ μ1 := ⟨fun c h1 h2 h3 _ _ => f1.1 c h1 h2 h3, f1.2⟩
  have two : ∀ (a : Nat) (ν : zm_M), a < 2 → zt_frZ T μ ν → ∃ ν1 ν2, ze_E (D + 2) A_Tree_measureLeaves [.ref (T + 1), .int (nI a)] (zm_mk ν) none (zm_mk ν1) ∧ (zt_O ν T t → ze_E (D + 2) A_Tree_measureCuts [.ref (T + 1), .int (nI a)] (zm_mk ν1) none (zm_mk ν2) ∧ (∀ c, c ≠ T + 16 + a → ν2 c = ν c) ∧ zy_lso (ν2 (T + 16 + a)) a (μ (T + 7)) (zt_lf (μ (T + 5 + a)) (μ (T + 3)) R) t) := by
    intro a ν ha fν
    have e3 := fν.1 (T + 3) (by omega) (by omega) (by omega) (by omega) (by omega)
    have e5 := fν.1 (T + 5 + a) (by omega) (by omega) (by omega) (by omega) (by omega)
    have e7 := fν.1 (T + 7) (by omega) (by omega) (by omega) (by omega) (by omega)
    obtain ⟨ν1, E, g1, g2⟩ := ze_Tree_measureLeaves (μ := ν) D h (fν.rowL hR) hb (by rw [e3]; exact hm) ha
    rw [e3, e5] at g2
    by_cases ho : zt_O ν T t
    · have r1 : zt_root ν1 T t := by
        have := fν.root hr
        unfold zt_root zy_okM at *
        rw [g1 (T + 7) (by omega), g1 (T + 9) (by omega), g1 (T + 10) (by omega), g1 (T + 11) (by omega), g1 T (by omega)]
        exact this
      have o1 : zt_O ν1 T t := by
        unfold zt_O at *
        rw [g1 T (by omega), g1 (T + 13) (by omega)]
        exact ho
      obtain ⟨ν2, E2, k1, k2⟩ := ze_Tree_measureCuts (μ := ν1) D h ha (zt_lf (μ (T + 5 + a)) (μ (T + 3)) R) r1 hlt hnd o1 (fun n hn => g2 n (hlv19 n hn))
      rw [g1 (T + 7) (by omega), e7] at k2
      exact ⟨ν1, ν2, E, fun _ => ⟨E2, fun c hc => (k1 c hc).trans (g1 c hc), k2⟩⟩
    · exact ⟨ν1, ν1, E, fun ho2 => absurd ho2 ho⟩
  obtain ⟨μ2, μ3, ⟨N2, E2⟩, q⟩ := two 0 μ1 (by decide) F1
  obtain ⟨⟨N3, E3⟩, f3, l3⟩ := q o1
  have F3 : zt_frZ T μ μ3 := F1.trans ⟨fun c _ _ _ h4 _ => f3 c (by omega), fun b _ => by rw [f3 T (by omega)]⟩
  have o3 : zt_O μ3 T t := by
    unfold zt_O at *
    rw [f3 T (by omega), f3 (T + 13) (by omega)]
    exact o1
  obtain ⟨μ4, μ5, ⟨N4, E4⟩, q⟩ := two 1 μ3 (by decide) F3
  obtain ⟨⟨N5, E5⟩, f5, l5⟩ := q o3
  have F5 : zt_frZ T μ μ5 := F3.trans ⟨fun c _ _ _ _ h5 => f5 c (by omega), fun b _ => by rw [f5 T (by omega)]⟩
  have o5 : zt_O μ5 T t := by
    unfold zt_O at *
    rw [f5 T (by omega), f5 (T + 13) (by omega)]
    exact o3
  refine ⟨μ5, ze_in [(0, .ref (T + 1))] zq_Tree_settle (Nat.le_of_ble_eq_true rfl) rfl ⟨N1 + N2 + N3 + N4 + N5, 32, fun F n hF => ?_⟩, F5, o5, fun a ha => ?_⟩
  · have n0 : nI 0 = 0 := nI_0
    have n1 : nI 1 = 1 := by decide
    rw [n0] at E2 E3
    rw [n1] at E4 E5
    obtain ⟨l0, k0⟩ := zt_c (μ := μ) h
    obtain ⟨l1, k1⟩ := zt_c (μ := μ1) h
    obtain ⟨l2, k2⟩ := zt_c (μ := μ2) h
    obtain ⟨l3, k3⟩ := zt_c (μ := μ3) h
    obtain ⟨l4, k4⟩ := zt_c (μ := μ4) h
    simp [zg_0, zg_aload_n, zg_goto, zg_iconst, zg_if_icmp, zg_iinc, zg_iload_n, zg_invokevirtual, zg_istore_n, zg_return, zf_X3_settle, zi_ld, zi_lda, zi_cmp, zi_retOk, zi_isI, zi_f3, zi_cr, zi_ci, zi_cn, zi_get, zi_set, zq_Tree_listNodes, zq_Tree_measureLeaves, zq_Tree_measureCuts, k0, k1, k2, k3, k4, E1 F (by omega), E2 F (by omega), E3 F (by omega), E4 F (by omega), E5 F (by omega)]
  · rw [F5.1 (T + 7) (by omega) (by omega) (by omega) (by omega) (by omega), F5.1 (T + 3) (by omega) (by omega) (by omega) (by omega) (by omega), F5.1 (T + 5 + a) (by omega) (by omega) (by omega) (by omega) (by omega)]
    match a, ha with
    | 0, _ =>
      have := f5 (T + 16 + 0) (by omega)
      rw [this]
      exact l3
    | 1, _ => exact l5
end ZT6
