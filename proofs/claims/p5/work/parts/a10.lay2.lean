section
/-! the reference: lay, layAll -/
section ZLZ
variable {τ : Nat} {ab : Nat → Int32}
theorem zi_mn_le (f m : Int32) : (if f ≤ m then f else m) = zi_mn f m := by
  unfold zi_mn
  by_cases c : m < f
  · rw [if_pos c, if_neg (Int32.not_le.mpr c)]
  · rw [if_neg c, if_pos (Int32.not_lt.mp c)]
set_option maxRecDepth 100000 in
theorem ze_lay_c1 (f m : Int32) (L : zi_Lc) (h : zi_Hp) (D : Nat) (nl : zi_nl L = true) (g10 : zi_get L 10 = some (.int f)) (g11 : zi_get L 11 = some (.int m)) : ze_S D 13 none zc_X6_lay 152 L [] h 168 (zi_set L 10 (.int (zi_mn f m))) [] h := by
  rw [← zi_mn_le]
  by_cases c : f ≤ m
  · rw [if_pos c]
    refine ⟨0, 5, fun F n hF => ?_⟩
    simp [zg_0, zg_aload_n, zg_bipush, zg_dup, zg_getfield, zg_goto, zg_iadd, zg_iaload, zg_iastore, zg_iconst, zg_idiv, zg_ifCond, zg_if_icmp, zg_iload, zg_iload_n, zg_imul, zg_invokestatic, zg_invokevirtual, zg_istore, zg_isub, zg_putfield, zg_return, zf_X6_lay, zi_ld, zi_lda, zi_cmp, zi_retOk, zi_isI, zi_f3, zi_cr, zi_ci, zi_cn, g10, g11, c]
  · rw [if_neg c]
    refine ⟨0, 6, fun F n hF => ?_⟩
    simp [zg_0, zg_aload_n, zg_bipush, zg_dup, zg_getfield, zg_goto, zg_iadd, zg_iaload, zg_iastore, zg_iconst, zg_idiv, zg_ifCond, zg_if_icmp, zg_iload, zg_iload_n, zg_imul, zg_invokestatic, zg_invokevirtual, zg_istore, zg_isub, zg_putfield, zg_return, zf_X6_lay, zi_ld, zi_lda, zi_cmp, zi_retOk, zi_isI, zi_f3, zi_cr, zi_ci, zi_cn, g10, g11, c]
set_option maxRecDepth 100000 in
theorem ze_lay_c2 (f m : Int32) (L : zi_Lc) (h : zi_Hp) (D : Nat) (nl : zi_nl L = true) (g10 : zi_get L 10 = some (.int f)) (g12 : zi_get L 12 = some (.int m)) : ze_S D 13 none zc_X6_lay 168 L [] h 184 (zi_set L 10 (.int (zi_mx m f))) [] h := by
  rw [← zi_mx_le]
  by_cases c : m ≤ f
  · rw [if_pos c]
    refine ⟨0, 5, fun F n hF => ?_⟩
    simp [zg_0, zg_aload_n, zg_bipush, zg_dup, zg_getfield, zg_goto, zg_iadd, zg_iaload, zg_iastore, zg_iconst, zg_idiv, zg_ifCond, zg_if_icmp, zg_iload, zg_iload_n, zg_imul, zg_invokestatic, zg_invokevirtual, zg_istore, zg_isub, zg_putfield, zg_return, zf_X6_lay, zi_ld, zi_lda, zi_cmp, zi_retOk, zi_isI, zi_f3, zi_cr, zi_ci, zi_cn, g10, g12, c]
  · rw [if_neg c]
    refine ⟨0, 6, fun F n hF => ?_⟩
    simp [zg_0, zg_aload_n, zg_bipush, zg_dup, zg_getfield, zg_goto, zg_iadd, zg_iaload, zg_iastore, zg_iconst, zg_idiv, zg_ifCond, zg_if_icmp, zg_iload, zg_iload_n, zg_imul, zg_invokestatic, zg_invokevirtual, zg_istore, zg_isub, zg_putfield, zg_return, zf_X6_lay, zi_ld, zi_lda, zi_cmp, zi_retOk, zi_isI, zi_f3, zi_cr, zi_ci, zi_cn, g10, g12, c]
theorem zu_fn_congr {μ ν : zm_M} (h : ∀ c d, c < 255 → c ≠ 231 → ν c d = μ c d) : zu_fm ν τ = zu_fm μ τ ∧ zu_tb ν τ = zu_tb μ τ ∧ ∀ a, a < 2 → zu_lsz ν τ a = zu_lsz μ τ a := by
  have h1 : zu_fm ν τ = zu_fm μ τ := by
    funext n
    unfold zu_fm
    rw [h _ _ (by decide) (by decide)]
  have h2 : zu_tb ν τ = zu_tb μ τ := by
    funext n
    unfold zu_tb
    rw [h _ _ (by decide) (by decide)]
    congr 1
    funext j
    rw [h _ _ (by decide) (by decide)]
  refine ⟨h1, h2, fun a ha => ?_⟩
  funext c
  unfold zu_lsz
  have h3 : zu_lf ν τ a = zu_lf μ τ a := by
    funext n
    unfold zu_lf
    rw [h2]
    congr 1
    funext m w
    rw [h _ _ (by omega) (by omega)]
  rw [h1, h3]
noncomputable def zu_lay4 (μ : zm_M) (n : Nat) (x y w v : Int32) : zm_M := zm_up (zm_up (zm_up (zm_up μ 255 n x) 256 n y) 257 n w) 258 n v
theorem zu_lay4_P {μ : zm_M} {n : Nat} {x y w v : Int32} : zu_P (zu_lay4 μ n x y w v) n x y w v := by
  unfold zu_lay4
  refine ⟨?_, ?_, ?_, zm_up_eq⟩
  · rw [zm_up_ne (by omega), zm_up_ne (by omega), zm_up_ne (by omega), zm_up_eq]
  · rw [zm_up_ne (by omega), zm_up_ne (by omega), zm_up_eq]
  · rw [zm_up_ne (by omega), zm_up_eq]
theorem zu_lay4_ne {μ : zm_M} {n c d : Nat} {x y w v : Int32} (h : ¬ (255 ≤ c ∧ c ≤ 258 ∧ d = n)) : zu_lay4 μ n x y w v c d = μ c d := by
  unfold zu_lay4
  rw [zm_up_ne (by omega), zm_up_ne (by omega), zm_up_ne (by omega), zm_up_ne (by omega)]
theorem zu_P_ne {μ ν : zm_M} {I : List Nat} {k k' n : Nat} {x y w v : Int32} (h : zu_frY μ ν I k k') (hn : n ∉ I) (p : zu_P μ n x y w v) : zu_P ν n x y w v := by
  obtain ⟨p1, p2, p3, p4⟩ := p
  have e : ∀ c, 255 ≤ c → c ≤ 258 → ν c n = μ c n := fun c h1 h2 => h c n (by omega) (by omega) (fun q => hn q.2.2)
  exact ⟨(e _ (by decide) (by decide)).trans p1, (e _ (by decide) (by decide)).trans p2, (e _ (by decide) (by decide)).trans p3, (e _ (by decide) (by decide)).trans p4⟩
set_option maxRecDepth 100000 in
theorem ze_Mlay (ht : τ < 7) : ∀ c, zy_wf c → ∀ (μ : zm_M) (k D : Nat) (x y w v : Int32), zu_ok μ τ ab c → (zy_ids c).Nodup → (∀ n ∈ zy_ids c, n < 24) → (∀ n ∈ zy_lvs c, zu_T μ τ n (zu_tb μ τ n) ∧ ∀ x ∈ zu_tb μ τ n, x < 10) → μ 231 30 = nI k → k + (zy_lvs c).length ≤ 24 →
    ∃ ν, ze_E (D + 2 + (zy_ids c).length) A_Mod_lay [.ref 232, .int (nI τ), .int (nI (zy_id c)), .int x, .int y, .int w, .int v] (zm_mk μ) none (zm_mk ν) ∧ zy_laid (zu_P ν) (zu_fm μ τ) (fun n => μ 247 (24 * τ + n)) (zu_lsz μ τ 0) (zu_lsz μ τ 1) c x y w v ∧
      ν 231 30 = nI (k + (zy_lvs c).length) ∧ (∀ j, j < (zy_lvs c).length → ν 259 (k + j) = nI ((zy_lvs c).getD j 0)) ∧ zu_frY μ ν (zy_ids c) k (k + (zy_lvs c).length) := by
  apply zy_ind
  · intro n μ k D x y w v ok hd hlt hT hk hle
    have hn : n < 24 := hlt n List.mem_cons_self
    have hle : k + 1 ≤ 24 := hle
    have e1 := zu_fm_leaf (μ := μ) (τ := τ) ok
    obtain ⟨N0, E0⟩ := ze_spot (h := zm_mk μ) (n := n) (D + 1) ht
    have ia : zi_in (nI (24 * τ + n)) 168 = true := zm_in (by omega) (by decide)
    have ca : (nI (24 * τ + n)).toNatClampNeg = 24 * τ + n := nI_clamp (by omega)
    have jn : zi_in (nI n) 24 = true := zm_in hn (by decide)
    have cn : (nI n).toNatClampNeg = n := nI_clamp (by omega)
    have ik : zi_in (nI k) 24 = true := zm_in (by omega) (by decide)
    have ck : (nI k).toNatClampNeg = k := nI_clamp (by omega)
    have e1' : zu_lay4 μ n x y w v 244 (24 * τ + n) = 1 := (zu_lay4_ne (by omega)).trans e1
    have hk' : zu_lay4 μ n x y w v 231 30 = nI k := (zu_lay4_ne (by omega)).trans hk
    have hk2 : zm_up (zu_lay4 μ n x y w v) 259 k (nI n) 231 30 = nI k := (zm_up_ne (by omega)).trans hk'
    obtain ⟨a1, a2, a3⟩ := zu_app_1 (μ := zu_lay4 μ n x y w v) (k := k) (n := n)
    refine ⟨_, ze_in [(0, .ref 232), (1, .int (nI τ)), (2, .int (nI n)), (3, .int x), (4, .int y), (5, .int w), (6, .int v)] zq_Mod_lay (Nat.le_of_ble_eq_true rfl) rfl (ze_S.end (p2 := 38) (L2 := [(7, .int (nI (24 * τ + n))), (0, .ref 232), (1, .int (nI τ)), (2, .int (nI n)), (3, .int x), (4, .int y), (5, .int w), (6, .int v)]) (s2 := []) (h2 := zm_mk (zu_lay4 μ n x y w v)) ⟨N0, 24, fun F m hF => ?_⟩ ⟨0, 19, fun F m hF => ?_⟩), ?_, a1, a2, fun c d h1 h2 h3 => ?_⟩
    · have E0 := E0 F (by omega)
      simp [zg_0, zg_aload_n, zg_bipush, zg_dup, zg_getfield, zg_goto, zg_iadd, zg_iaload, zg_iastore, zg_iconst, zg_idiv, zg_ifCond, zg_if_icmp, zg_iload, zg_iload_n, zg_imul, zg_invokestatic, zg_invokevirtual, zg_istore, zg_isub, zg_putfield, zg_return, zf_X6_lay, zi_ld, zi_lda, zi_cmp, zi_retOk, zi_isI, zi_f3, zi_cr, zi_ci, zi_cn, zi_get, zi_set, zM_g, zq_Mod_spot, E0, zm_iast zM_A255 jn, zm_iast zM_A256 jn, zm_iast zM_A257 jn, zm_iast zM_A258 jn, cn, zu_lay4, zy_ids]
    · simp [zg_0, zg_aload_n, zg_bipush, zg_dup, zg_getfield, zg_goto, zg_iadd, zg_iaload, zg_iastore, zg_iconst, zg_idiv, zg_ifCond, zg_if_icmp, zg_iload, zg_iload_n, zg_imul, zg_invokestatic, zg_invokevirtual, zg_istore, zg_isub, zg_putfield, zg_return, zf_X6_lay, zi_ld, zi_lda, zi_cmp, zi_retOk, zi_isI, zi_f3, zi_cr, zi_ci, zi_cn, zi_get, zi_set, zM_g, zm_iald (k := 0) zM_A244 ia, ca, e1', hk', zm_iast zM_A259 ik, ck, hk2, nI_1, zM_p30]
    · show zu_P _ n x y w v
      obtain ⟨p1, p2, p3, p4⟩ := zu_lay4_P (μ := μ) (n := n) (x := x) (y := y) (w := w) (v := v)
      exact ⟨(a3 _ _ (by omega) (by omega)).trans p1, (a3 _ _ (by omega) (by omega)).trans p2, (a3 _ _ (by omega) (by omega)).trans p3, (a3 _ _ (by omega) (by omega)).trans p4⟩
    · rw [a3 c d h1 h2, zu_lay4_ne (fun q => h3 ⟨q.1, q.2.1, List.mem_singleton.mpr q.2.2⟩)]
  · intro n a b wa wb iha ihb μ k D x y w v ok hd hlt hT hk hle
    obtain ⟨⟨q1, q2, q3, -, -⟩, oka, okb⟩ := ok
    have q2 : μ 245 (24 * τ + n) = nI (zy_id a) := q2
    have q3 : μ 246 (24 * τ + n) = nI (zy_id b) := q3
    have hd' : (n :: (zy_ids a ++ zy_ids b)).Nodup := hd
    obtain ⟨hnn, hd2⟩ := List.nodup_cons.mp hd'
    obtain ⟨da, db, dis⟩ := List.nodup_append.mp hd2
    have hna : n ∉ zy_ids a := fun h => hnn (List.mem_append_left _ h)
    have hnb : n ∉ zy_ids b := fun h => hnn (List.mem_append_right _ h)
    have hn : n < 24 := hlt n List.mem_cons_self
    have lta : ∀ m ∈ zy_ids a, m < 24 := fun m hm => hlt m (List.mem_cons_of_mem _ (List.mem_append_left _ hm))
    have ltb : ∀ m ∈ zy_ids b, m < 24 := fun m hm => hlt m (List.mem_cons_of_mem _ (List.mem_append_right _ hm))
    have Ta : ∀ m ∈ zy_lvs a, zu_T μ τ m (zu_tb μ τ m) ∧ ∀ x ∈ zu_tb μ τ m, x < 10 := fun m hm => hT m (List.mem_append_left _ hm)
    have Tb : ∀ m ∈ zy_lvs b, zu_T μ τ m (zu_tb μ τ m) ∧ ∀ x ∈ zu_tb μ τ m, x < 10 := fun m hm => hT m (List.mem_append_right _ hm)
    have ev : zy_lvs (.append (.tag n a) b) = zy_lvs a ++ zy_lvs b := rfl
    rw [ev, List.length_append] at hle
    have el : (zy_ids (.append (.tag n a) b)).length = (zy_ids a).length + (zy_ids b).length + 1 := by
      show (n :: (zy_ids a ++ zy_ids b)).length = _
      rw [List.length_cons, List.length_append]
    let M := zu_lay4 μ n x y w v
    have hM : ∀ c d, c < 255 → M c d = μ c d := fun c d hc => zu_lay4_ne (by omega)
    obtain ⟨F1, F2, F3⟩ := zu_fn_congr (τ := τ) (fun c d hc _ => hM c d hc)
    have TM : ∀ m, zu_T μ τ m (zu_tb μ τ m) → zu_T M τ m (zu_tb M τ m) := fun m ⟨t0, t1, t2⟩ => by
      rw [F2]
      exact ⟨t0, (hM _ _ (by decide)).trans t1, fun j hj => (hM _ _ (by decide)).trans (t2 j hj)⟩
    have okMa := zu_ok_cells (τ := τ) (ν := M) wa da (fun c d hc => hM c d (by omega)) oka
    have okMb := zu_ok_cells (τ := τ) (ν := M) wb db (fun c d hc => hM c d (by omega)) okb
    obtain ⟨N0, E0⟩ := ze_spot (h := zm_mk μ) (n := n) (D + 1 + (zy_ids a).length + (zy_ids b).length) ht
    have ia : zi_in (nI (24 * τ + n)) 168 = true := zm_in (by omega) (by decide)
    have ca : (nI (24 * τ + n)).toNatClampNeg = 24 * τ + n := nI_clamp (by omega)
    have jn : zi_in (nI n) 24 = true := zm_in hn (by decide)
    have cn : (nI n).toNatClampNeg = n := nI_clamp (by omega)
    have h100 : (Int8.ofInt 100).toInt32 = (100 : Int32) := by decide
    have m5 : M 245 (24 * τ + n) = nI (zy_id a) := (hM _ _ (by decide)).trans q2
    have m6 : M 246 (24 * τ + n) = nI (zy_id b) := (hM _ _ (by decide)).trans q3
    have m7 : M 247 (24 * τ + n) = μ 247 (24 * τ + n) := hM _ _ (by decide)
    have hkM : M 231 30 = nI k := (hM _ _ (by decide)).trans hk
    obtain ⟨lm, cm⟩ := zM_c (μ := M)
    have Sa : ze_S (D + 2 + (zy_ids a).length + (zy_ids b).length) 13 none zc_X6_lay 0 [(0, .ref 232), (1, .int (nI τ)), (2, .int (nI n)), (3, .int x), (4, .int y), (5, .int w), (6, .int v)] [] (zm_mk μ) 38 [(7, .int (nI (24 * τ + n))), (0, .ref 232), (1, .int (nI τ)), (2, .int (nI n)), (3, .int x), (4, .int y), (5, .int w), (6, .int v)] [] (zm_mk M) := by
      refine ⟨N0, 24, fun F m hF => ?_⟩
      have E0 := E0 F (by omega)
      rw [show D + 1 + (zy_ids a).length + (zy_ids b).length + 1 = D + 2 + (zy_ids a).length + (zy_ids b).length by omega] at E0
      simp [zg_0, zg_aload_n, zg_bipush, zg_dup, zg_getfield, zg_goto, zg_iadd, zg_iaload, zg_iastore, zg_iconst, zg_idiv, zg_ifCond, zg_if_icmp, zg_iload, zg_iload_n, zg_imul, zg_invokestatic, zg_invokevirtual, zg_istore, zg_isub, zg_putfield, zg_return, zf_X6_lay, zi_ld, zi_lda, zi_cmp, zi_retOk, zi_isI, zi_f3, zi_cr, zi_ci, zi_cn, zi_get, zi_set, zM_g, zq_Mod_spot, E0, zm_iast zM_A255 jn, zm_iast zM_A256 jn, zm_iast zM_A257 jn, zm_iast zM_A258 jn, cn, show zu_lay4 μ n x y w v = M from rfl]
      rfl
    rw [el, show D + 2 + ((zy_ids a).length + (zy_ids b).length + 1) = D + 2 + (zy_ids a).length + (zy_ids b).length + 1 by omega]
    -- the two trees below, one after the other
    have both : ∀ (x1 y1 w1 v1 x2 y2 w2 v2 : Int32), ∃ ν ξ, ze_E (D + 2 + (zy_ids a).length + (zy_ids b).length) A_Mod_lay [.ref 232, .int (nI τ), .int (nI (zy_id a)), .int x1, .int y1, .int w1, .int v1] (zm_mk M) none (zm_mk ν) ∧ ze_E (D + 2 + (zy_ids a).length + (zy_ids b).length) A_Mod_lay [.ref 232, .int (nI τ), .int (nI (zy_id b)), .int x2, .int y2, .int w2, .int v2] (zm_mk ν) none (zm_mk ξ) ∧ ν 246 (24 * τ + n) = nI (zy_id b) ∧
        zu_P ξ n x y w v ∧ zy_laid (zu_P ξ) (zu_fm μ τ) (fun n => μ 247 (24 * τ + n)) (zu_lsz μ τ 0) (zu_lsz μ τ 1) a x1 y1 w1 v1 ∧ zy_laid (zu_P ξ) (zu_fm μ τ) (fun n => μ 247 (24 * τ + n)) (zu_lsz μ τ 0) (zu_lsz μ τ 1) b x2 y2 w2 v2 ∧ ξ 231 30 = nI (k + (zy_lvs a ++ zy_lvs b).length) ∧ (∀ j, j < (zy_lvs a ++ zy_lvs b).length → ξ 259 (k + j) = nI ((zy_lvs a ++ zy_lvs b).getD j 0)) ∧ zu_frY μ ξ (n :: (zy_ids a ++ zy_ids b)) k (k + (zy_lvs a ++ zy_lvs b).length) := by
      intro x1 y1 w1 v1 x2 y2 w2 v2
      obtain ⟨ν, E1, L1, A1, B1, f1⟩ := iha M k (D + (zy_ids b).length) x1 y1 w1 v1 okMa da lta (fun m hm => ⟨TM m (Ta m hm).1, by rw [F2]; exact (Ta m hm).2⟩) hkM (by omega)
      have hN : ∀ c d, c < 255 → c ≠ 231 → ν c d = μ c d := fun c d hc h2 => (f1.tree hc h2).trans (hM c d hc)
      obtain ⟨G1, G2, G3⟩ := zu_fn_congr (τ := τ) hN
      obtain ⟨ξ, E2, L2, A2, B2, f2⟩ := ihb ν (k + (zy_lvs a).length) (D + (zy_ids a).length) x2 y2 w2 v2 (zu_ok_cells wb db (fun c d hc => hN c d (by omega) (by omega)) okb) db ltb (fun m hm => ⟨by
        obtain ⟨t0, t1, t2⟩ := (Tb m hm).1
        rw [G2]
        exact ⟨t0, (hN _ _ (by decide) (by decide)).trans t1, fun j hj => (hN _ _ (by decide) (by decide)).trans (t2 j hj)⟩, by rw [G2]; exact (Tb m hm).2⟩) A1 (by omega)
      rw [F1, F3 0 (by decide), F3 1 (by decide), show (fun n => M 247 (24 * τ + n)) = (fun n => μ 247 (24 * τ + n)) from funext fun m => hM _ _ (by decide)] at L1
      rw [G1, G3 0 (by decide), G3 1 (by decide), show (fun n => ν 247 (24 * τ + n)) = (fun n => μ 247 (24 * τ + n)) from funext fun m => hN _ _ (by decide) (by decide)] at L2
      rw [show D + (zy_ids b).length + 2 + (zy_ids a).length = D + 2 + (zy_ids a).length + (zy_ids b).length by omega] at E1
      rw [show D + (zy_ids a).length + 2 + (zy_ids b).length = D + 2 + (zy_ids a).length + (zy_ids b).length by omega] at E2
      refine ⟨ν, ξ, E1, E2, (hN _ _ (by decide) (by decide)).trans q3, zu_P_ne f2 hnb (zu_P_ne f1 hna zu_lay4_P), zy_laid_mono a wa x1 y1 w1 v1 (fun m hm x y w v p => zu_P_ne f2 (fun h => dis m hm m h rfl) p) L1, L2, ?_, fun j hj => ?_, fun c d h1 h2 h3 => ?_⟩
      · rw [A2, List.length_append, Nat.add_assoc]
      · rw [List.length_append] at hj
        by_cases e : j < (zy_lvs a).length
        · rw [f2 _ _ (by omega) (by omega) (by omega), zl_getD_l e]
          exact B1 j e
        · rw [zl_getD_r (by omega)]
          have := B2 (j - (zy_lvs a).length) (by omega)
          rw [show k + (zy_lvs a).length + (j - (zy_lvs a).length) = k + j by omega] at this
          exact this
      · rw [List.length_append] at h2
        rw [f2 c d h1 (by omega) (fun q => h3 ⟨q.1, q.2.1, List.mem_cons_of_mem _ (List.mem_append_right _ q.2.2)⟩), f1 c d h1 (by omega) (fun q => h3 ⟨q.1, q.2.1, List.mem_cons_of_mem _ (List.mem_append_left _ q.2.2)⟩), show M c d = μ c d from zu_lay4_ne (fun q => h3 ⟨q.1, q.2.1, by rw [q.2.2]; exact List.mem_cons_self⟩)]
    have hN1 : (1 : Int32) = nI 1 := rfl
    rcases zu_fm_cut q1 with ⟨f0, e4⟩ | ⟨f0, e4⟩
    · have e4M : M 244 (24 * τ + n) = 2 := (hM _ _ (by decide)).trans e4
      obtain ⟨ν, ξ, E1, E2, n6, P0, LA, LB, z1, z2, z3⟩ := both x y (zy_fp w (μ 247 (24 * τ + n)) (zu_lsz μ τ 0 a) (zu_lsz μ τ 0 b)) v (x + zy_fp w (μ 247 (24 * τ + n)) (zu_lsz μ τ 0 a) (zu_lsz μ τ 0 b)) y (w - zy_fp w (μ 247 (24 * τ + n)) (zu_lsz μ τ 0 a) (zu_lsz μ τ 0 b)) v
      have El := ze_Mleast (μ := M) ht (a := 0) (by decide) a wa okMa lta (fun m hm => ⟨TM m (Ta m hm).1, by rw [F2]; exact (Ta m hm).2⟩) (D + 1 + (zy_ids b).length)
      have Er := ze_Mleast (μ := M) ht (a := 0) (by decide) b wb okMb ltb (fun m hm => ⟨TM m (Tb m hm).1, by rw [F2]; exact (Tb m hm).2⟩) (D + 1 + (zy_ids a).length)
      rw [show D + 1 + (zy_ids b).length + 1 + (zy_ids a).length = D + 2 + (zy_ids a).length + (zy_ids b).length by omega, show zy_ls 0 (zu_fm M τ) (zu_lf M τ 0) a = zu_lsz μ τ 0 a from congrFun (F3 0 (by decide)) a, show nI (1 - 0) = 1 from rfl] at El
      rw [show D + 1 + (zy_ids a).length + 1 + (zy_ids b).length = D + 2 + (zy_ids a).length + (zy_ids b).length by omega, show zy_ls 0 (zu_fm M τ) (zu_lf M τ 0) b = zu_lsz μ τ 0 b from congrFun (F3 0 (by decide)) b, show nI (1 - 0) = 1 from rfl] at Er
      refine ⟨ξ, ?_, ⟨P0, ?_⟩, z1, z2, z3⟩
      · show ze_E _ A_Mod_lay [.ref 232, .int (nI τ), .int (nI n), .int x, .int y, .int w, .int v] _ _ _
        have efp : zy_fp w (μ 247 (24 * τ + n)) (zu_lsz μ τ 0 a) (zu_lsz μ τ 0 b) = zi_mx (zu_lsz μ τ 0 a) (zi_mn (w * μ 247 (24 * τ + n) / 100) (w - zu_lsz μ τ 0 b)) := rfl
        rw [efp] at E1 E2
        generalize zu_lsz μ τ 0 a = p at El E1 E2
        generalize zu_lsz μ τ 0 b = q at Er E1 E2
        generalize μ 247 (24 * τ + n) = sh at m7 E1 E2
        obtain ⟨N1, El⟩ := El
        obtain ⟨N2, Er⟩ := Er
        have Sb : ze_S (D + 2 + (zy_ids a).length + (zy_ids b).length) 13 none zc_X6_lay 38 [(7, .int (nI (24 * τ + n))), (0, .ref 232), (1, .int (nI τ)), (2, .int (nI n)), (3, .int x), (4, .int y), (5, .int w), (6, .int v)] [] (zm_mk M) 133 [(10, .int (w * sh / 100)), (9, .int w), (8, .int 1), (7, .int (nI (24 * τ + n))), (0, .ref 232), (1, .int (nI τ)), (2, .int (nI n)), (3, .int x), (4, .int y), (5, .int w), (6, .int v)] [.int q, .int w] (zm_mk M) := by
          refine ⟨N2, 38, fun F m hF => ?_⟩
          simp [zg_0, zg_aload_n, zg_bipush, zg_dup, zg_getfield, zg_goto, zg_iadd, zg_iaload, zg_iastore, zg_iconst, zg_idiv, zg_ifCond, zg_if_icmp, zg_iload, zg_iload_n, zg_imul, zg_invokestatic, zg_invokevirtual, zg_istore, zg_isub, zg_putfield, zg_return, zf_X6_lay, zi_ld, zi_lda, zi_cmp, zi_retOk, zi_isI, zi_f3, zi_cr, zi_ci, zi_cn, zi_get, zi_set, zM_g, zm_iald (k := 0) zM_A244 ia, zm_iald (k := 0) zM_A246 ia, zm_iald (k := 0) zM_A247 ia, ca, e4M, m6, m7, h100, zq_Mod_least, cm, Er F (by omega)]
        have Sc := ze_lay_m w q [(10, .int (w * sh / 100)), (9, .int w), (8, .int 1), (7, .int (nI (24 * τ + n))), (0, .ref 232), (1, .int (nI τ)), (2, .int (nI n)), (3, .int x), (4, .int y), (5, .int w), (6, .int v)] [] (zm_mk M) (D + 2 + (zy_ids a).length + (zy_ids b).length) rfl
        generalize w - q = ms at Sc E1 E2
        generalize w * sh / 100 = f1 at Sb Sc E1 E2
        have S1 := (Sa.trans Sb).trans Sc
        have nl : zi_nl (zi_set [(10, .int f1), (9, .int w), (8, .int 1), (7, .int (nI (24 * τ + n))), (0, .ref 232), (1, .int (nI τ)), (2, .int (nI n)), (3, .int x), (4, .int y), (5, .int w), (6, .int v)] 11 (.int ms)) = true := rfl
        have g0 : zi_get (zi_set [(10, .int f1), (9, .int w), (8, .int 1), (7, .int (nI (24 * τ + n))), (0, .ref 232), (1, .int (nI τ)), (2, .int (nI n)), (3, .int x), (4, .int y), (5, .int w), (6, .int v)] 11 (.int ms)) 0 = some (.ref 232) := rfl
        have g1 : zi_get (zi_set [(10, .int f1), (9, .int w), (8, .int 1), (7, .int (nI (24 * τ + n))), (0, .ref 232), (1, .int (nI τ)), (2, .int (nI n)), (3, .int x), (4, .int y), (5, .int w), (6, .int v)] 11 (.int ms)) 1 = some (.int (nI τ)) := rfl
        have g3 : zi_get (zi_set [(10, .int f1), (9, .int w), (8, .int 1), (7, .int (nI (24 * τ + n))), (0, .ref 232), (1, .int (nI τ)), (2, .int (nI n)), (3, .int x), (4, .int y), (5, .int w), (6, .int v)] 11 (.int ms)) 3 = some (.int x) := rfl
        have g4 : zi_get (zi_set [(10, .int f1), (9, .int w), (8, .int 1), (7, .int (nI (24 * τ + n))), (0, .ref 232), (1, .int (nI τ)), (2, .int (nI n)), (3, .int x), (4, .int y), (5, .int w), (6, .int v)] 11 (.int ms)) 4 = some (.int y) := rfl
        have g5 : zi_get (zi_set [(10, .int f1), (9, .int w), (8, .int 1), (7, .int (nI (24 * τ + n))), (0, .ref 232), (1, .int (nI τ)), (2, .int (nI n)), (3, .int x), (4, .int y), (5, .int w), (6, .int v)] 11 (.int ms)) 5 = some (.int w) := rfl
        have g6 : zi_get (zi_set [(10, .int f1), (9, .int w), (8, .int 1), (7, .int (nI (24 * τ + n))), (0, .ref 232), (1, .int (nI τ)), (2, .int (nI n)), (3, .int x), (4, .int y), (5, .int w), (6, .int v)] 11 (.int ms)) 6 = some (.int v) := rfl
        have g7 : zi_get (zi_set [(10, .int f1), (9, .int w), (8, .int 1), (7, .int (nI (24 * τ + n))), (0, .ref 232), (1, .int (nI τ)), (2, .int (nI n)), (3, .int x), (4, .int y), (5, .int w), (6, .int v)] 11 (.int ms)) 7 = some (.int (nI (24 * τ + n))) := rfl
        have g8 : zi_get (zi_set [(10, .int f1), (9, .int w), (8, .int 1), (7, .int (nI (24 * τ + n))), (0, .ref 232), (1, .int (nI τ)), (2, .int (nI n)), (3, .int x), (4, .int y), (5, .int w), (6, .int v)] 11 (.int ms)) 8 = some (.int 1) := rfl
        have g10 : zi_get (zi_set [(10, .int f1), (9, .int w), (8, .int 1), (7, .int (nI (24 * τ + n))), (0, .ref 232), (1, .int (nI τ)), (2, .int (nI n)), (3, .int x), (4, .int y), (5, .int w), (6, .int v)] 11 (.int ms)) 10 = some (.int f1) := rfl
        have g11 : zi_get (zi_set [(10, .int f1), (9, .int w), (8, .int 1), (7, .int (nI (24 * τ + n))), (0, .ref 232), (1, .int (nI τ)), (2, .int (nI n)), (3, .int x), (4, .int y), (5, .int w), (6, .int v)] 11 (.int ms)) 11 = some (.int ms) := zi_get_set_eq
        generalize zi_set [(10, .int f1), (9, .int w), (8, .int 1), (7, .int (nI (24 * τ + n))), (0, .ref 232), (1, .int (nI τ)), (2, .int (nI n)), (3, .int x), (4, .int y), (5, .int w), (6, .int v)] 11 (.int ms) = L at S1 nl g0 g1 g3 g4 g5 g6 g7 g8 g10 g11
        have Sd : ze_S (D + 2 + (zy_ids a).length + (zy_ids b).length) 13 none zc_X6_lay 136 L [] (zm_mk M) 152 (zi_set L 12 (.int p)) [] (zm_mk M) := by
          refine ⟨N1, 9, fun F m hF => ?_⟩
          simp (maxDischargeDepth := 9) [zg_0, zg_aload_n, zg_bipush, zg_dup, zg_getfield, zg_goto, zg_iadd, zg_iaload, zg_iastore, zg_iconst, zg_idiv, zg_ifCond, zg_if_icmp, zg_iload, zg_iload_n, zg_imul, zg_invokestatic, zg_invokevirtual, zg_istore, zg_isub, zg_putfield, zg_return, zf_X6_lay, zi_ld, zi_lda, zi_cmp, zi_retOk, zi_isI, zi_f3, zi_cr, zi_ci, zi_cn, zi_get_ne, zi_nl_i, zi_nl_r, zi_get_set_eq, nl, g0, g1, g7, g8, zM_g, zm_iald (k := 0) zM_A245 ia, ca, m5, zq_Mod_least, cm, El F (by omega)]
        have nl2 : zi_nl (zi_set L 12 (.int p)) = true := by simp (maxDischargeDepth := 9) [zi_get_ne, zi_nl_i, zi_nl_r, zi_get_set_eq, nl]
        have h10 : zi_get (zi_set L 12 (.int p)) 10 = some (.int f1) := by simp (maxDischargeDepth := 9) [zi_get_ne, zi_nl_i, zi_nl_r, zi_get_set_eq, nl, g10]
        have h11 : zi_get (zi_set L 12 (.int p)) 11 = some (.int ms) := by simp (maxDischargeDepth := 9) [zi_get_ne, zi_nl_i, zi_nl_r, zi_get_set_eq, nl, g11]
        have Se := ze_lay_c1 f1 ms (zi_set L 12 (.int p)) (zm_mk M) (D + 2 + (zy_ids a).length + (zy_ids b).length) nl2 h10 h11
        have nl3 : zi_nl (zi_set (zi_set L 12 (.int p)) 10 (.int (zi_mn f1 ms))) = true := by simp (maxDischargeDepth := 9) [zi_get_ne, zi_nl_i, zi_nl_r, zi_get_set_eq, nl]
        have Sf := ze_lay_c2 (zi_mn f1 ms) p (zi_set (zi_set L 12 (.int p)) 10 (.int (zi_mn f1 ms))) (zm_mk M) (D + 2 + (zy_ids a).length + (zy_ids b).length) nl3 zi_get_set_eq (by rw [zi_get_ne nl2 (by decide)]; exact zi_get_set_eq)
        generalize hf : zi_mx p (zi_mn f1 ms) = f at Sf E1 E2
        have S2 := ((S1.trans Sd).trans Se).trans Sf
        have nl4 : zi_nl (zi_set (zi_set (zi_set L 12 (.int p)) 10 (.int (zi_mn f1 ms))) 10 (.int f)) = true := by simp (maxDischargeDepth := 9) [zi_get_ne, zi_nl_i, zi_nl_r, zi_get_set_eq, nl]
        have gg : ∀ j, j ≠ 12 → j ≠ 10 → zi_get (zi_set (zi_set (zi_set L 12 (.int p)) 10 (.int (zi_mn f1 ms))) 10 (.int f)) j = zi_get L j := fun j h1 h2 => by rw [zi_get_ne nl3 h2, zi_get_ne nl2 h2, zi_get_ne nl h1]
        have k10 : zi_get (zi_set (zi_set (zi_set L 12 (.int p)) 10 (.int (zi_mn f1 ms))) 10 (.int f)) 10 = some (.int f) := zi_get_set_eq
        generalize zi_set (zi_set (zi_set L 12 (.int p)) 10 (.int (zi_mn f1 ms))) 10 (.int f) = L5 at S2 nl4 gg k10
        have k0 := (gg 0 (by decide) (by decide)).trans g0
        have k1 := (gg 1 (by decide) (by decide)).trans g1
        have k3 := (gg 3 (by decide) (by decide)).trans g3
        have k4 := (gg 4 (by decide) (by decide)).trans g4
        have k5 := (gg 5 (by decide) (by decide)).trans g5
        have k6 := (gg 6 (by decide) (by decide)).trans g6
        have k7 := (gg 7 (by decide) (by decide)).trans g7
        have k8 := (gg 8 (by decide) (by decide)).trans g8
        obtain ⟨N3, E1⟩ := E1
        obtain ⟨N4, E2⟩ := E2
        obtain ⟨ln, cn2⟩ := zM_c (μ := ν)
        have Sg : ze_S (D + 2 + (zy_ids a).length + (zy_ids b).length) 13 none zc_X6_lay 184 L5 [] (zm_mk M) 227 L5 [.int f, .int w, .int y, .int (x + f), .int (nI (zy_id b)), .int (nI τ), .ref 232] (zm_mk ν) := by
          refine ⟨N3, 25, fun F m hF => ?_⟩
          simp [zg_0, zg_aload_n, zg_bipush, zg_dup, zg_getfield, zg_goto, zg_iadd, zg_iaload, zg_iastore, zg_iconst, zg_idiv, zg_ifCond, zg_if_icmp, zg_iload, zg_iload_n, zg_imul, zg_invokestatic, zg_invokevirtual, zg_istore, zg_isub, zg_putfield, zg_return, zf_X6_lay, zi_ld, zi_lda, zi_cmp, zi_retOk, zi_isI, zi_f3, zi_cr, zi_ci, zi_cn, k0, k1, k3, k4, k5, k6, k7, k8, k10, zM_g, zm_iald (k := 0) zM_A245 ia, zm_iald (k := 0) zM_A246 ia, ca, m5, n6, zq_Mod_lay, cm, E1 F (by omega)]
        have Sh := ze_lay_s w f L5 [.int y, .int (x + f), .int (nI (zy_id b)), .int (nI τ), .ref 232] (zm_mk ν) (D + 2 + (zy_ids a).length + (zy_ids b).length)
        generalize w - f = r at Sh E2
        refine ze_in [(0, .ref 232), (1, .int (nI τ)), (2, .int (nI n)), (3, .int x), (4, .int y), (5, .int w), (6, .int v)] zq_Mod_lay (Nat.le_of_ble_eq_true rfl) rfl (((S2.trans Sg).trans Sh).end ⟨N4, 4, fun F m hF => ?_⟩)
        simp [zg_0, zg_aload_n, zg_bipush, zg_dup, zg_getfield, zg_goto, zg_iadd, zg_iaload, zg_iastore, zg_iconst, zg_idiv, zg_ifCond, zg_if_icmp, zg_iload, zg_iload_n, zg_imul, zg_invokestatic, zg_invokevirtual, zg_istore, zg_isub, zg_putfield, zg_return, zf_X6_lay, zi_ld, zi_lda, zi_cmp, zi_retOk, zi_isI, zi_f3, zi_cr, zi_ci, zi_cn, k6, zq_Mod_lay, cn2, E2 F (by omega)]
      · rw [if_pos f0]
        exact ⟨LA, LB⟩
    · have e4M : M 244 (24 * τ + n) = 3 := (hM _ _ (by decide)).trans e4
      obtain ⟨ν, ξ, E1, E2, n6, P0, LA, LB, z1, z2, z3⟩ := both x y w (zy_fp v (μ 247 (24 * τ + n)) (zu_lsz μ τ 1 a) (zu_lsz μ τ 1 b)) x (y + zy_fp v (μ 247 (24 * τ + n)) (zu_lsz μ τ 1 a) (zu_lsz μ τ 1 b)) w (v - zy_fp v (μ 247 (24 * τ + n)) (zu_lsz μ τ 1 a) (zu_lsz μ τ 1 b))
      have El := ze_Mleast (μ := M) ht (a := 1) (by decide) a wa okMa lta (fun m hm => ⟨TM m (Ta m hm).1, by rw [F2]; exact (Ta m hm).2⟩) (D + 1 + (zy_ids b).length)
      have Er := ze_Mleast (μ := M) ht (a := 1) (by decide) b wb okMb ltb (fun m hm => ⟨TM m (Tb m hm).1, by rw [F2]; exact (Tb m hm).2⟩) (D + 1 + (zy_ids a).length)
      rw [show D + 1 + (zy_ids b).length + 1 + (zy_ids a).length = D + 2 + (zy_ids a).length + (zy_ids b).length by omega, show zy_ls 1 (zu_fm M τ) (zu_lf M τ 1) a = zu_lsz μ τ 1 a from congrFun (F3 1 (by decide)) a, show nI (1 - 1) = 0 from rfl] at El
      rw [show D + 1 + (zy_ids a).length + 1 + (zy_ids b).length = D + 2 + (zy_ids a).length + (zy_ids b).length by omega, show zy_ls 1 (zu_fm M τ) (zu_lf M τ 1) b = zu_lsz μ τ 1 b from congrFun (F3 1 (by decide)) b, show nI (1 - 1) = 0 from rfl] at Er
      refine ⟨ξ, ?_, ⟨P0, ?_⟩, z1, z2, z3⟩
      · show ze_E _ A_Mod_lay [.ref 232, .int (nI τ), .int (nI n), .int x, .int y, .int w, .int v] _ _ _
        have efp : zy_fp v (μ 247 (24 * τ + n)) (zu_lsz μ τ 1 a) (zu_lsz μ τ 1 b) = zi_mx (zu_lsz μ τ 1 a) (zi_mn (v * μ 247 (24 * τ + n) / 100) (v - zu_lsz μ τ 1 b)) := rfl
        rw [efp] at E1 E2
        generalize zu_lsz μ τ 1 a = p at El E1 E2
        generalize zu_lsz μ τ 1 b = q at Er E1 E2
        generalize μ 247 (24 * τ + n) = sh at m7 E1 E2
        obtain ⟨N1, El⟩ := El
        obtain ⟨N2, Er⟩ := Er
        have Sb : ze_S (D + 2 + (zy_ids a).length + (zy_ids b).length) 13 none zc_X6_lay 38 [(7, .int (nI (24 * τ + n))), (0, .ref 232), (1, .int (nI τ)), (2, .int (nI n)), (3, .int x), (4, .int y), (5, .int w), (6, .int v)] [] (zm_mk M) 133 [(10, .int (v * sh / 100)), (9, .int v), (8, .int 0), (7, .int (nI (24 * τ + n))), (0, .ref 232), (1, .int (nI τ)), (2, .int (nI n)), (3, .int x), (4, .int y), (5, .int w), (6, .int v)] [.int q, .int v] (zm_mk M) := by
          refine ⟨N2, 36, fun F m hF => ?_⟩
          simp [zg_0, zg_aload_n, zg_bipush, zg_dup, zg_getfield, zg_goto, zg_iadd, zg_iaload, zg_iastore, zg_iconst, zg_idiv, zg_ifCond, zg_if_icmp, zg_iload, zg_iload_n, zg_imul, zg_invokestatic, zg_invokevirtual, zg_istore, zg_isub, zg_putfield, zg_return, zf_X6_lay, zi_ld, zi_lda, zi_cmp, zi_retOk, zi_isI, zi_f3, zi_cr, zi_ci, zi_cn, zi_get, zi_set, zM_g, zm_iald (k := 0) zM_A244 ia, zm_iald (k := 0) zM_A246 ia, zm_iald (k := 0) zM_A247 ia, ca, e4M, m6, m7, h100, zq_Mod_least, cm, Er F (by omega)]
        have Sc := ze_lay_m v q [(10, .int (v * sh / 100)), (9, .int v), (8, .int 0), (7, .int (nI (24 * τ + n))), (0, .ref 232), (1, .int (nI τ)), (2, .int (nI n)), (3, .int x), (4, .int y), (5, .int w), (6, .int v)] [] (zm_mk M) (D + 2 + (zy_ids a).length + (zy_ids b).length) rfl
        generalize v - q = ms at Sc E1 E2
        generalize v * sh / 100 = f1 at Sb Sc E1 E2
        have S1 := (Sa.trans Sb).trans Sc
        have nl : zi_nl (zi_set [(10, .int f1), (9, .int v), (8, .int 0), (7, .int (nI (24 * τ + n))), (0, .ref 232), (1, .int (nI τ)), (2, .int (nI n)), (3, .int x), (4, .int y), (5, .int w), (6, .int v)] 11 (.int ms)) = true := rfl
        have g0 : zi_get (zi_set [(10, .int f1), (9, .int v), (8, .int 0), (7, .int (nI (24 * τ + n))), (0, .ref 232), (1, .int (nI τ)), (2, .int (nI n)), (3, .int x), (4, .int y), (5, .int w), (6, .int v)] 11 (.int ms)) 0 = some (.ref 232) := rfl
        have g1 : zi_get (zi_set [(10, .int f1), (9, .int v), (8, .int 0), (7, .int (nI (24 * τ + n))), (0, .ref 232), (1, .int (nI τ)), (2, .int (nI n)), (3, .int x), (4, .int y), (5, .int w), (6, .int v)] 11 (.int ms)) 1 = some (.int (nI τ)) := rfl
        have g3 : zi_get (zi_set [(10, .int f1), (9, .int v), (8, .int 0), (7, .int (nI (24 * τ + n))), (0, .ref 232), (1, .int (nI τ)), (2, .int (nI n)), (3, .int x), (4, .int y), (5, .int w), (6, .int v)] 11 (.int ms)) 3 = some (.int x) := rfl
        have g4 : zi_get (zi_set [(10, .int f1), (9, .int v), (8, .int 0), (7, .int (nI (24 * τ + n))), (0, .ref 232), (1, .int (nI τ)), (2, .int (nI n)), (3, .int x), (4, .int y), (5, .int w), (6, .int v)] 11 (.int ms)) 4 = some (.int y) := rfl
        have g5 : zi_get (zi_set [(10, .int f1), (9, .int v), (8, .int 0), (7, .int (nI (24 * τ + n))), (0, .ref 232), (1, .int (nI τ)), (2, .int (nI n)), (3, .int x), (4, .int y), (5, .int w), (6, .int v)] 11 (.int ms)) 5 = some (.int w) := rfl
        have g6 : zi_get (zi_set [(10, .int f1), (9, .int v), (8, .int 0), (7, .int (nI (24 * τ + n))), (0, .ref 232), (1, .int (nI τ)), (2, .int (nI n)), (3, .int x), (4, .int y), (5, .int w), (6, .int v)] 11 (.int ms)) 6 = some (.int v) := rfl
        have g7 : zi_get (zi_set [(10, .int f1), (9, .int v), (8, .int 0), (7, .int (nI (24 * τ + n))), (0, .ref 232), (1, .int (nI τ)), (2, .int (nI n)), (3, .int x), (4, .int y), (5, .int w), (6, .int v)] 11 (.int ms)) 7 = some (.int (nI (24 * τ + n))) := rfl
        have g8 : zi_get (zi_set [(10, .int f1), (9, .int v), (8, .int 0), (7, .int (nI (24 * τ + n))), (0, .ref 232), (1, .int (nI τ)), (2, .int (nI n)), (3, .int x), (4, .int y), (5, .int w), (6, .int v)] 11 (.int ms)) 8 = some (.int 0) := rfl
        have g10 : zi_get (zi_set [(10, .int f1), (9, .int v), (8, .int 0), (7, .int (nI (24 * τ + n))), (0, .ref 232), (1, .int (nI τ)), (2, .int (nI n)), (3, .int x), (4, .int y), (5, .int w), (6, .int v)] 11 (.int ms)) 10 = some (.int f1) := rfl
        have g11 : zi_get (zi_set [(10, .int f1), (9, .int v), (8, .int 0), (7, .int (nI (24 * τ + n))), (0, .ref 232), (1, .int (nI τ)), (2, .int (nI n)), (3, .int x), (4, .int y), (5, .int w), (6, .int v)] 11 (.int ms)) 11 = some (.int ms) := zi_get_set_eq
        generalize zi_set [(10, .int f1), (9, .int v), (8, .int 0), (7, .int (nI (24 * τ + n))), (0, .ref 232), (1, .int (nI τ)), (2, .int (nI n)), (3, .int x), (4, .int y), (5, .int w), (6, .int v)] 11 (.int ms) = L at S1 nl g0 g1 g3 g4 g5 g6 g7 g8 g10 g11
        have Sd : ze_S (D + 2 + (zy_ids a).length + (zy_ids b).length) 13 none zc_X6_lay 136 L [] (zm_mk M) 152 (zi_set L 12 (.int p)) [] (zm_mk M) := by
          refine ⟨N1, 9, fun F m hF => ?_⟩
          simp (maxDischargeDepth := 9) [zg_0, zg_aload_n, zg_bipush, zg_dup, zg_getfield, zg_goto, zg_iadd, zg_iaload, zg_iastore, zg_iconst, zg_idiv, zg_ifCond, zg_if_icmp, zg_iload, zg_iload_n, zg_imul, zg_invokestatic, zg_invokevirtual, zg_istore, zg_isub, zg_putfield, zg_return, zf_X6_lay, zi_ld, zi_lda, zi_cmp, zi_retOk, zi_isI, zi_f3, zi_cr, zi_ci, zi_cn, zi_get_ne, zi_nl_i, zi_nl_r, zi_get_set_eq, nl, g0, g1, g7, g8, zM_g, zm_iald (k := 0) zM_A245 ia, ca, m5, zq_Mod_least, cm, El F (by omega)]
        have nl2 : zi_nl (zi_set L 12 (.int p)) = true := by simp (maxDischargeDepth := 9) [zi_get_ne, zi_nl_i, zi_nl_r, zi_get_set_eq, nl]
        have h10 : zi_get (zi_set L 12 (.int p)) 10 = some (.int f1) := by simp (maxDischargeDepth := 9) [zi_get_ne, zi_nl_i, zi_nl_r, zi_get_set_eq, nl, g10]
        have h11 : zi_get (zi_set L 12 (.int p)) 11 = some (.int ms) := by simp (maxDischargeDepth := 9) [zi_get_ne, zi_nl_i, zi_nl_r, zi_get_set_eq, nl, g11]
        have Se := ze_lay_c1 f1 ms (zi_set L 12 (.int p)) (zm_mk M) (D + 2 + (zy_ids a).length + (zy_ids b).length) nl2 h10 h11
        have nl3 : zi_nl (zi_set (zi_set L 12 (.int p)) 10 (.int (zi_mn f1 ms))) = true := by simp (maxDischargeDepth := 9) [zi_get_ne, zi_nl_i, zi_nl_r, zi_get_set_eq, nl]
        have Sf := ze_lay_c2 (zi_mn f1 ms) p (zi_set (zi_set L 12 (.int p)) 10 (.int (zi_mn f1 ms))) (zm_mk M) (D + 2 + (zy_ids a).length + (zy_ids b).length) nl3 zi_get_set_eq (by rw [zi_get_ne nl2 (by decide)]; exact zi_get_set_eq)
        generalize hf : zi_mx p (zi_mn f1 ms) = f at Sf E1 E2
        have S2 := ((S1.trans Sd).trans Se).trans Sf
        have nl4 : zi_nl (zi_set (zi_set (zi_set L 12 (.int p)) 10 (.int (zi_mn f1 ms))) 10 (.int f)) = true := by simp (maxDischargeDepth := 9) [zi_get_ne, zi_nl_i, zi_nl_r, zi_get_set_eq, nl]
        have gg : ∀ j, j ≠ 12 → j ≠ 10 → zi_get (zi_set (zi_set (zi_set L 12 (.int p)) 10 (.int (zi_mn f1 ms))) 10 (.int f)) j = zi_get L j := fun j h1 h2 => by rw [zi_get_ne nl3 h2, zi_get_ne nl2 h2, zi_get_ne nl h1]
        have k10 : zi_get (zi_set (zi_set (zi_set L 12 (.int p)) 10 (.int (zi_mn f1 ms))) 10 (.int f)) 10 = some (.int f) := zi_get_set_eq
        generalize zi_set (zi_set (zi_set L 12 (.int p)) 10 (.int (zi_mn f1 ms))) 10 (.int f) = L5 at S2 nl4 gg k10
        have k0 := (gg 0 (by decide) (by decide)).trans g0
        have k1 := (gg 1 (by decide) (by decide)).trans g1
        have k3 := (gg 3 (by decide) (by decide)).trans g3
        have k4 := (gg 4 (by decide) (by decide)).trans g4
        have k5 := (gg 5 (by decide) (by decide)).trans g5
        have k6 := (gg 6 (by decide) (by decide)).trans g6
        have k7 := (gg 7 (by decide) (by decide)).trans g7
        have k8 := (gg 8 (by decide) (by decide)).trans g8
        obtain ⟨N3, E1⟩ := E1
        obtain ⟨N4, E2⟩ := E2
        obtain ⟨ln, cn2⟩ := zM_c (μ := ν)
        have Sg : ze_S (D + 2 + (zy_ids a).length + (zy_ids b).length) 13 none zc_X6_lay 184 L5 [] (zm_mk M) 276 L5 [.int f, .int v, .int w, .int (y + f), .int x, .int (nI (zy_id b)), .int (nI τ), .ref 232] (zm_mk ν) := by
          refine ⟨N3, 26, fun F m hF => ?_⟩
          simp [zg_0, zg_aload_n, zg_bipush, zg_dup, zg_getfield, zg_goto, zg_iadd, zg_iaload, zg_iastore, zg_iconst, zg_idiv, zg_ifCond, zg_if_icmp, zg_iload, zg_iload_n, zg_imul, zg_invokestatic, zg_invokevirtual, zg_istore, zg_isub, zg_putfield, zg_return, zf_X6_lay, zi_ld, zi_lda, zi_cmp, zi_retOk, zi_isI, zi_f3, zi_cr, zi_ci, zi_cn, k0, k1, k3, k4, k5, k6, k7, k8, k10, zM_g, zm_iald (k := 0) zM_A245 ia, zm_iald (k := 0) zM_A246 ia, ca, m5, n6, zq_Mod_lay, cm, E1 F (by omega)]
        have Sh := ze_lay_t v f L5 [.int w, .int (y + f), .int x, .int (nI (zy_id b)), .int (nI τ), .ref 232] (zm_mk ν) (D + 2 + (zy_ids a).length + (zy_ids b).length)
        generalize v - f = r at Sh E2
        refine ze_in [(0, .ref 232), (1, .int (nI τ)), (2, .int (nI n)), (3, .int x), (4, .int y), (5, .int w), (6, .int v)] zq_Mod_lay (Nat.le_of_ble_eq_true rfl) rfl (((S2.trans Sg).trans Sh).end ⟨N4, 2, fun F m hF => ?_⟩)
        simp [zg_0, zg_aload_n, zg_bipush, zg_dup, zg_getfield, zg_goto, zg_iadd, zg_iaload, zg_iastore, zg_iconst, zg_idiv, zg_ifCond, zg_if_icmp, zg_iload, zg_iload_n, zg_imul, zg_invokestatic, zg_invokevirtual, zg_istore, zg_isub, zg_putfield, zg_return, zf_X6_lay, zi_ld, zi_lda, zi_cmp, zi_retOk, zi_isI, zi_f3, zi_cr, zi_ci, zi_cn, k6, zq_Mod_lay, cn2, E2 F (by omega)]
      · rw [if_neg (by rw [f0]; decide)]
        exact ⟨LA, LB⟩
end ZLZ
end
section
/-! two trees of the same form: pure -/
noncomputable def zy_sim (pl pc : Nat → Nat → Prop) : zy_F → zy_F → Prop
  | .append (.tag n a) b, .append (.tag m c) d => pc n m ∧ zy_sim pl pc a c ∧ zy_sim pl pc b d
  | .tag n .nil, .tag m .nil => pl n m
  | .nil, .nil => True
  | _, _ => False
theorem zy_sim_nil {pl pc : Nat → Nat → Prop} {u : zy_F} (hu : u = .nil ∨ zy_wf u) (h : zy_sim pl pc .nil u) : u = .nil := by
  rcases hu with e | w
  · exact e
  · exfalso
    revert h
    exact zy_ind (P := fun u => zy_sim pl pc .nil u → False) (fun n h => h) (fun n a b _ _ _ _ h => h) u w
/-- both are trees, or none -/
theorem zy_sim_ind {pl pc : Nat → Nat → Prop} {P : zy_F → zy_F → Prop} (hl : ∀ n m, pl n m → P (.tag n .nil) (.tag m .nil)) (hc : ∀ n m a b c d, zy_wf a → zy_wf b → zy_wf c → zy_wf d → pc n m → zy_sim pl pc a c → zy_sim pl pc b d → P a c → P b d → P (.append (.tag n a) b) (.append (.tag m c) d)) : ∀ t, zy_wf t → ∀ u, zy_wf u → zy_sim pl pc t u → P t u := by
  apply zy_ind
  · intro n u wu
    revert u
    apply zy_ind
    · intro m h
      exact hl n m h
    · intro m c d _ _ _ _ h
      exact h.elim
  · intro n a b wa wb iha ihb u wu
    revert u
    apply zy_ind
    · intro m h
      exact h.elim
    · intro m c d wc wd _ _ h
      exact hc n m a b c d wa wb wc wd h.1 h.2.1 h.2.2 (iha c wc h.2.1) (ihb d wd h.2.2)
section ZSM
variable {pl pc pl' pc' : Nat → Nat → Prop}
theorem zy_sim_mono : ∀ t, zy_wf t → ∀ u, zy_wf u → zy_sim pl pc t u → (∀ n ∈ zy_lvs t, ∀ m ∈ zy_lvs u, pl n m → pl' n m) → (∀ n ∈ zy_cts t, ∀ m ∈ zy_cts u, pc n m → pc' n m) → zy_sim pl' pc' t u := by
  apply zy_sim_ind (P := fun t u => (∀ n ∈ zy_lvs t, ∀ m ∈ zy_lvs u, pl n m → pl' n m) → (∀ n ∈ zy_cts t, ∀ m ∈ zy_cts u, pc n m → pc' n m) → zy_sim pl' pc' t u)
  · intro n m h h1 _
    exact h1 n List.mem_cons_self m List.mem_cons_self h
  · intro n m a b c d _ _ _ _ h _ _ iha ihb h1 h2
    exact ⟨h2 n List.mem_cons_self m List.mem_cons_self h, iha (fun x hx y hy => h1 x (List.mem_append_left _ hx) y (List.mem_append_left _ hy)) (fun x hx y hy => h2 x (List.mem_cons_of_mem _ (List.mem_append_left _ hx)) y (List.mem_cons_of_mem _ (List.mem_append_left _ hy))), ihb (fun x hx y hy => h1 x (List.mem_append_right _ hx) y (List.mem_append_right _ hy)) (fun x hx y hy => h2 x (List.mem_cons_of_mem _ (List.mem_append_right _ hx)) y (List.mem_cons_of_mem _ (List.mem_append_right _ hy)))⟩
theorem zy_sim_len : ∀ t, zy_wf t → ∀ u, zy_wf u → zy_sim pl pc t u → (zy_ids u).length = (zy_ids t).length ∧ (zy_lvs u).length = (zy_lvs t).length := by
  apply zy_sim_ind (P := fun t u => (zy_ids u).length = (zy_ids t).length ∧ (zy_lvs u).length = (zy_lvs t).length)
  · intro n m _
    exact ⟨rfl, rfl⟩
  · intro n m a b c d _ _ _ _ _ _ _ iha ihb
    have e1 : ∀ n a b, zy_ids (.append (.tag n a) b) = n :: (zy_ids a ++ zy_ids b) := fun _ _ _ => rfl
    have e2 : ∀ n a b, zy_lvs (.append (.tag n a) b) = zy_lvs a ++ zy_lvs b := fun _ _ _ => rfl
    rw [e1, e1, e2, e2, List.length_cons, List.length_cons, List.length_append, List.length_append, List.length_append, List.length_append, iha.1, iha.2, ihb.1, ihb.2]
    exact ⟨rfl, rfl⟩
theorem zy_sim_r : ∀ t, zy_wf t → ∀ u, zy_wf u → zy_sim pl pc t u → ∀ m ∈ zy_lvs u, ∃ n ∈ zy_lvs t, pl n m := by
  apply zy_sim_ind (P := fun t u => ∀ m ∈ zy_lvs u, ∃ n ∈ zy_lvs t, pl n m)
  · intro n m h m' hm
    have : m' = m := List.mem_singleton.mp hm
    subst this
    exact ⟨n, List.mem_cons_self, h⟩
  · intro n m a b c d _ _ _ _ _ _ _ iha ihb m' hm
    rcases List.mem_append.mp hm with hm | hm
    · obtain ⟨x, hx, p⟩ := iha m' hm
      exact ⟨x, List.mem_append_left _ hx, p⟩
    · obtain ⟨x, hx, p⟩ := ihb m' hm
      exact ⟨x, List.mem_append_right _ hx, p⟩
theorem zy_sim_l : ∀ t, zy_wf t → ∀ u, zy_wf u → zy_sim pl pc t u → ∀ n ∈ zy_lvs t, ∃ m ∈ zy_lvs u, pl n m := by
  apply zy_sim_ind (P := fun t u => ∀ n ∈ zy_lvs t, ∃ m ∈ zy_lvs u, pl n m)
  · intro n m h n' hn
    have : n' = n := List.mem_singleton.mp hn
    subst this
    exact ⟨m, List.mem_cons_self, h⟩
  · intro n m a b c d _ _ _ _ _ _ _ iha ihb n' hn
    rcases List.mem_append.mp hn with hn | hn
    · obtain ⟨x, hx, p⟩ := iha n' hn
      exact ⟨x, List.mem_append_left _ hx, p⟩
    · obtain ⟨x, hx, p⟩ := ihb n' hn
      exact ⟨x, List.mem_append_right _ hx, p⟩
/-- a leaf that is known by a mark is known by it in the other tree -/
theorem zy_sim_uniq {K K' : Nat → Prop} {n0 : Nat} (hK : ∀ n m, pl n m → (K n ↔ K' m)) : ∀ t, zy_wf t → ∀ u, zy_wf u → zy_sim pl pc t u → (zy_lvs t).Nodup → (∀ n ∈ zy_lvs t, K n → n = n0) → n0 ∈ zy_lvs t → K n0 → ∃ m ∈ zy_lvs u, K' m ∧ pl n0 m ∧ ∀ m' ∈ zy_lvs u, K' m' → m' = m := by
  apply zy_sim_ind (P := fun t u => (zy_lvs t).Nodup → (∀ n ∈ zy_lvs t, K n → n = n0) → n0 ∈ zy_lvs t → K n0 → ∃ m ∈ zy_lvs u, K' m ∧ pl n0 m ∧ ∀ m' ∈ zy_lvs u, K' m' → m' = m)
  · intro n m h _ _ h1 h2
    have : n0 = n := List.mem_singleton.mp h1
    subst this
    exact ⟨m, List.mem_cons_self, (hK _ _ h).mp h2, h, fun m' hm' _ => List.mem_singleton.mp hm'⟩
  · intro n m a b c d wa wb wc wd _ sa sb iha ihb hd hu h1 h2
    have hd' : (zy_lvs a ++ zy_lvs b).Nodup := hd
    obtain ⟨da, db, dis⟩ := List.nodup_append.mp hd'
    have h1' : n0 ∈ zy_lvs a ++ zy_lvs b := h1
    rcases List.mem_append.mp h1' with h1 | h1
    · obtain ⟨m0, hm0, k1, k2, k3⟩ := iha da (fun x hx => hu x (List.mem_append_left _ hx)) h1 h2
      refine ⟨m0, List.mem_append_left _ hm0, k1, k2, fun m' hm' q => ?_⟩
      rcases List.mem_append.mp hm' with hm' | hm'
      · exact k3 m' hm' q
      · exfalso
        obtain ⟨x, hx, p⟩ := zy_sim_r b wb d wd sb m' hm'
        have := hu x (List.mem_append_right _ hx) ((hK _ _ p).mpr q)
        exact dis n0 h1 x hx this.symm
    · obtain ⟨m0, hm0, k1, k2, k3⟩ := ihb db (fun x hx => hu x (List.mem_append_right _ hx)) h1 h2
      refine ⟨m0, List.mem_append_right _ hm0, k1, k2, fun m' hm' q => ?_⟩
      rcases List.mem_append.mp hm' with hm' | hm'
      · exfalso
        obtain ⟨x, hx, p⟩ := zy_sim_r a wa c wc sa m' hm'
        have := hu x (List.mem_append_left _ hx) ((hK _ _ p).mpr q)
        exact dis x hx n0 h1 this
      · exact k3 m' hm' q
theorem zy_sim_sub {n m : Nat} {s s' : zy_F} (hs : zy_sim pl' pc' s s') : ∀ t, zy_wf t → ∀ u, zy_wf u → zy_sim (fun x y => (x = n ↔ y = m) ∧ (x ≠ n → pl' x y)) pc' t u → zy_sim pl' pc' (zy_sub n s t) (zy_sub m s' u) := by
  apply zy_sim_ind (P := fun t u => zy_sim pl' pc' (zy_sub n s t) (zy_sub m s' u))
  · intro x y h
    show zy_sim pl' pc' (if x = n then s else .tag x .nil) (if y = m then s' else .tag y .nil)
    by_cases e : x = n
    · rw [if_pos e, if_pos (h.1.mp e)]
      exact hs
    · rw [if_neg e, if_neg (fun q => e (h.1.mpr q))]
      exact h.2 e
  · intro x y a b c d _ _ _ _ h _ _ iha ihb
    exact ⟨h, iha, ihb⟩
theorem zy_sim_id {n m : Nat} : ∀ t, zy_wf t → ∀ u, zy_wf u → zy_sim (fun x y => (x = n ↔ y = m) ∧ (x ≠ n → pl' x y)) (fun x y => (x ≠ n ∧ y ≠ m) ∧ pc' x y) t u → (zy_id t = n ↔ zy_id u = m) := by
  apply zy_sim_ind (P := fun t u => (zy_id t = n ↔ zy_id u = m))
  · intro x y h
    exact h.1
  · intro x y a b c d _ _ _ _ h _ _ _ _
    exact ⟨fun e => absurd e h.1.1, fun e => absurd e h.1.2⟩
theorem zy_sim_w {n m : Nat} : ∀ t, zy_wf t → ∀ u, zy_wf u → n ∉ zy_ids t → zy_sim (fun x y => (x = n ↔ y = m) ∧ (x ≠ n → pl' x y)) (fun x y => (x ≠ n ∧ y ≠ m) ∧ pc' x y) t u → zy_sim pl' pc' t u := by
  intro t wt u wu hn h
  exact zy_sim_mono t wt u wu h (fun x hx y hy q => q.2 (fun e => hn (e ▸ zy_lvs_ids t wt x hx))) (fun x _ y _ q => q.2)
theorem zy_sim_del {n m : Nat} : ∀ t, zy_wf t → ∀ u, zy_wf u → zy_sim (fun x y => (x = n ↔ y = m) ∧ (x ≠ n → pl' x y)) (fun x y => (x ≠ n ∧ y ≠ m) ∧ pc' x y) t u → (zy_ids t).Nodup → zy_id t ≠ n → zy_sim pl' pc' (zy_del n t) (zy_del m u) := by
  apply zy_sim_ind (P := fun t u => (zy_ids t).Nodup → zy_id t ≠ n → zy_sim pl' pc' (zy_del n t) (zy_del m u))
  · intro x y h _ hne
    exact h.2 hne
  · intro x y a b c d wa wb wc wd h sa sb iha ihb hd hne
    have hd' : (x :: (zy_ids a ++ zy_ids b)).Nodup := hd
    obtain ⟨-, hd2⟩ := List.nodup_cons.mp hd'
    obtain ⟨da, db, dis⟩ := List.nodup_append.mp hd2
    show zy_sim pl' pc' (if zy_id a = n then b else if zy_id b = n then a else .append (.tag x (zy_del n a)) (zy_del n b)) (if zy_id c = m then d else if zy_id d = m then c else .append (.tag y (zy_del m c)) (zy_del m d))
    have i1 := zy_sim_id a wa c wc sa
    have i2 := zy_sim_id b wb d wd sb
    by_cases e1 : zy_id a = n
    · rw [if_pos e1, if_pos (i1.mp e1)]
      exact zy_sim_w b wb d wd (fun q => dis n (e1 ▸ zy_id_mem wa) n q rfl) sb
    · rw [if_neg e1, if_neg (fun q => e1 (i1.mpr q))]
      by_cases e2 : zy_id b = n
      · rw [if_pos e2, if_pos (i2.mp e2)]
        exact zy_sim_w a wa c wc (fun q => dis n q n (e2 ▸ zy_id_mem wb) rfl) sa
      · rw [if_neg e2, if_neg (fun q => e2 (i2.mpr q))]
        exact ⟨h.2, iha da e1, ihb db e2⟩
theorem zy_sim_out {n m : Nat} {t u : zy_F} (wt : zy_wf t) (wu : zy_wf u) (h : zy_sim (fun x y => (x = n ↔ y = m) ∧ (x ≠ n → pl' x y)) (fun x y => (x ≠ n ∧ y ≠ m) ∧ pc' x y) t u) (hd : (zy_ids t).Nodup) : zy_sim pl' pc' (zy_out n t) (zy_out m u) := by
  unfold zy_out
  have i := zy_sim_id t wt u wu h
  by_cases e : zy_id t = n
  · rw [if_pos e, if_pos (i.mp e)]
    trivial
  · rw [if_neg e, if_neg (fun q => e (i.mpr q))]
    exact zy_sim_del t wt u wu h hd e
theorem zy_sim_ls {a : Nat} {fm fm' lf lf' : Nat → Int32} : ∀ t, zy_wf t → ∀ u, zy_wf u → zy_sim (fun n m => lf n = lf' m) (fun n m => fm n = fm' m) t u → zy_ls a fm lf t = zy_ls a fm' lf' u := by
  apply zy_sim_ind (P := fun t u => zy_ls a fm lf t = zy_ls a fm' lf' u)
  · intro n m h
    exact h
  · intro n m x y c d _ _ _ _ h _ _ iha ihb
    show (if fm n = nI a then zy_ls a fm lf x + zy_ls a fm lf y else zi_mx (zy_ls a fm lf x) (zy_ls a fm lf y)) = if fm' m = nI a then zy_ls a fm' lf' c + zy_ls a fm' lf' d else zi_mx (zy_ls a fm' lf' c) (zy_ls a fm' lf' d)
    rw [h, iha, ihb]
theorem zy_sim_laid {P P' : Nat → Int32 → Int32 → Int32 → Int32 → Prop} {fm sh fm' sh' lf0 lf1 lf0' lf1' : Nat → Int32} : ∀ t, zy_wf t → ∀ u, zy_wf u → zy_sim (fun n m => lf0 n = lf0' m ∧ lf1 n = lf1' m) (fun n m => fm n = fm' m ∧ sh n = sh' m) t u → ∀ x y w v, zy_laid P fm sh (zy_ls 0 fm lf0) (zy_ls 1 fm lf1) t x y w v → zy_laid P' fm' sh' (zy_ls 0 fm' lf0') (zy_ls 1 fm' lf1') u x y w v → zy_sim (fun n m => ∃ x y w v, P n x y w v ∧ P' m x y w v) (fun _ _ => True) t u := by
  apply zy_sim_ind (P := fun t u => ∀ x y w v, zy_laid P fm sh (zy_ls 0 fm lf0) (zy_ls 1 fm lf1) t x y w v → zy_laid P' fm' sh' (zy_ls 0 fm' lf0') (zy_ls 1 fm' lf1') u x y w v → zy_sim (fun n m => ∃ x y w v, P n x y w v ∧ P' m x y w v) (fun _ _ => True) t u)
  · intro n m _ x y w v h g
    exact ⟨x, y, w, v, h, g⟩
  · intro n m a b c d wa wb wc wd h sa sb iha ihb x y w v hl hr
    have a0 : zy_ls 0 fm lf0 a = zy_ls 0 fm' lf0' c := zy_sim_ls a wa c wc (zy_sim_mono a wa c wc sa (fun _ _ _ _ q => q.1) (fun _ _ _ _ q => q.1))
    have a1 : zy_ls 1 fm lf1 a = zy_ls 1 fm' lf1' c := zy_sim_ls a wa c wc (zy_sim_mono a wa c wc sa (fun _ _ _ _ q => q.2) (fun _ _ _ _ q => q.1))
    have b0 : zy_ls 0 fm lf0 b = zy_ls 0 fm' lf0' d := zy_sim_ls b wb d wd (zy_sim_mono b wb d wd sb (fun _ _ _ _ q => q.1) (fun _ _ _ _ q => q.1))
    have b1 : zy_ls 1 fm lf1 b = zy_ls 1 fm' lf1' d := zy_sim_ls b wb d wd (zy_sim_mono b wb d wd sb (fun _ _ _ _ q => q.2) (fun _ _ _ _ q => q.1))
    obtain ⟨-, hl⟩ := hl
    obtain ⟨-, hr⟩ := hr
    rw [← h.1, ← h.2, ← a0, ← a1, ← b0, ← b1] at hr
    by_cases e : fm n = 0
    · rw [if_pos e] at hl hr
      exact ⟨trivial, iha _ _ _ _ hl.1 hr.1, ihb _ _ _ _ hl.2 hr.2⟩
    · rw [if_neg e] at hl hr
      exact ⟨trivial, iha _ _ _ _ hl.1 hr.1, ihb _ _ _ _ hl.2 hr.2⟩
theorem zy_sim_and {ql qc : Nat → Nat → Prop} : ∀ t, zy_wf t → ∀ u, zy_wf u → zy_sim pl pc t u → zy_sim ql qc t u → zy_sim (fun n m => pl n m ∧ ql n m) (fun n m => pc n m ∧ qc n m) t u := by
  apply zy_sim_ind (P := fun t u => zy_sim ql qc t u → zy_sim (fun n m => pl n m ∧ ql n m) (fun n m => pc n m ∧ qc n m) t u)
  · intro n m h g
    exact ⟨h, g⟩
  · intro n m a b c d _ _ _ _ h _ _ iha ihb g
    exact ⟨⟨h, g.1⟩, iha g.2.1, ihb g.2.2⟩
theorem zy_sim_map {α : Type} {f g : Nat → α} : ∀ t, zy_wf t → ∀ u, zy_wf u → zy_sim (fun n m => f n = g m) pc t u → (zy_lvs t).map f = (zy_lvs u).map g := by
  apply zy_sim_ind (P := fun t u => (zy_lvs t).map f = (zy_lvs u).map g)
  · intro n m h
    show [f n] = [g m]
    rw [h]
  · intro n m a b c d _ _ _ _ _ _ _ iha ihb
    show (zy_lvs a ++ zy_lvs b).map f = (zy_lvs c ++ zy_lvs d).map g
    rw [List.map_append, List.map_append, iha, ihb]
end ZSM
end
section
/-! the class's tree and the reference's: the same form, the same tabs in the same order, the same shares and shown ones -/
noncomputable def zs_pl (ξ : zm_M) (T : Nat) (R : List Nat) (μ : zm_M) (τ n m : Nat) : Prop := zu_tb μ τ m = zt_tb ξ T R n ∧ μ 250 (24 * τ + m) = ξ (T + 12) n
noncomputable def zs_pc (ξ : zm_M) (T : Nat) (μ : zm_M) (τ n m : Nat) : Prop := zu_fm μ τ m = ξ (T + 7) n ∧ μ 247 (24 * τ + m) = ξ (T + 8) n
noncomputable def zs (ξ : zm_M) (T : Nat) (R : List Nat) (t : zy_F) (μ : zm_M) (τ : Nat) (u : zy_F) : Prop := zy_sim (zs_pl ξ T R μ τ) (zs_pc ξ T μ τ) t u ∧ ∃ ab, zu_I μ τ u ab
theorem zy_sim_wf {pl pc : Nat → Nat → Prop} {t u : zy_F} (hu : u = .nil ∨ zy_wf u) (wt : zy_wf t) (h : zy_sim pl pc t u) : zy_wf u := by
  rcases hu with rfl | w
  · exfalso
    revert h
    exact zy_ind (P := fun t => zy_sim pl pc t .nil → False) (fun n h => h) (fun n a b _ _ _ _ h => h) t wt
  · exact w
section ZSA
variable {ξ ξ' μ ν : zm_M} {T τ : Nat} {R : List Nat} {t u : zy_F}
theorem zs_wf (hI : zt_I ξ T R t) (h : zs ξ T R t μ τ u) : (t = .nil ∧ u = .nil) ∨ (zy_wf t ∧ zy_wf u) := by
  obtain ⟨h1, ab, h2⟩ := h
  have hu : u = .nil ∨ zy_wf u := h2.1.imp (·.1) (·.1)
  rcases hI.2.1.1 with ⟨rfl, -⟩ | ⟨w, -⟩
  · exact Or.inl ⟨rfl, zy_sim_nil hu h1⟩
  · exact Or.inr ⟨w, zy_sim_wf hu w h1⟩
theorem zs_nil {ab : Nat → Int32} (h : zu_I μ τ .nil ab) : zs ξ T R .nil μ τ .nil := ⟨trivial, ab, h⟩
theorem zs_nil_l (hI : zt_I ξ T R t) (h : zs ξ T R t μ τ u) : t = .nil ↔ u = .nil := by
  rcases zs_wf hI h with ⟨rfl, rfl⟩ | ⟨w1, w2⟩
  · exact ⟨fun _ => rfl, fun _ => rfl⟩
  · exact ⟨fun e => (by subst e; exact w1.elim), fun e => (by subst e; exact w2.elim)⟩
theorem zt_I_lvn (hI : zt_I ξ T R t) : (zy_lvs t).Nodup ∧ ∀ n ∈ zy_lvs t, n < 19 := by
  refine ⟨?_, zy_lvs_lt (hI.2.1.1.imp (·.1) (·.1)) hI.2.1.2.2.1⟩
  rcases hI.2.1.1 with ⟨rfl, -⟩ | ⟨w, -⟩
  · exact List.nodup_nil
  · exact zy_lvs_nodup t w hI.2.1.2.1
/-- the leaf of a tab -/
theorem zs_at (hI : zt_I ξ T R t) (h : zs ξ T R t μ τ u) {w n : Nat} (hw : w ∈ R) (hn : n ∈ zy_lvs t) (hwn : ξ (T + 3) w = nI n) : ∃ m, zu_at μ τ u w m ∧ zs_pl ξ T R μ τ n m := by
  rcases zs_wf hI h with ⟨rfl, rfl⟩ | ⟨wt, wu⟩
  · cases hn
  · obtain ⟨l1, l2⟩ := zt_I_lvn hI
    obtain ⟨m, hm, k1, k2, k3⟩ := zy_sim_uniq (n0 := n) (K := fun x => w ∈ zt_tb ξ T R x) (K' := fun y => w ∈ zu_tb μ τ y) (fun x y p => by show w ∈ zt_tb ξ T R x ↔ w ∈ zu_tb μ τ y; rw [p.1]) t wt u wu h.1 l1 (fun x hx q => by
      have := (zt_tb_mem.mp q).2
      have h1 := l2 x hx
      have h2 := l2 n hn
      exact (nI_eq (by omega) (by omega)).mp (this.symm.trans hwn)) hn (zt_tb_mem.mpr ⟨hw, hwn⟩)
    exact ⟨m, ⟨hm, k1, k3⟩, k2⟩
theorem zs_at' (hI : zt_I ξ T R t) (h : zs ξ T R t μ τ u) {w : Nat} (hw : w ∈ R) : ∃ n m, n ∈ zy_lvs t ∧ ξ (T + 3) w = nI n ∧ zu_at μ τ u w m ∧ zs_pl ξ T R μ τ n m := by
  obtain ⟨n, hn, e⟩ := hI.2.2.2.1 w hw
  obtain ⟨m, h1, h2⟩ := zs_at hI h hw hn e
  exact ⟨n, m, hn, e, h1, h2⟩
/-- what is no tab of the class's is none of the reference's -/
theorem zs_no (hI : zt_I ξ T R t) (h : zs ξ T R t μ τ u) {w : Nat} (hw : w ∉ R) : ∀ m ∈ zy_lvs u, w ∉ zu_tb μ τ m := by
  rcases zs_wf hI h with ⟨rfl, rfl⟩ | ⟨wt, wu⟩
  · intro m hm; cases hm
  · intro m hm q
    obtain ⟨n, -, p⟩ := zy_sim_r t wt u wu h.1 m hm
    rw [p.1] at q
    exact hw (zt_tb_mem.mp q).1
theorem zs_len (hI : zt_I ξ T R t) (h : zs ξ T R t μ τ u) : (zy_ids u).length = (zy_ids t).length ∧ (zy_lvs u).length = (zy_lvs t).length := by
  rcases zs_wf hI h with ⟨rfl, rfl⟩ | ⟨wt, wu⟩
  · exact ⟨rfl, rfl⟩
  · exact zy_sim_len t wt u wu h.1
/-- the pairs of leaves go together -/
theorem zs_iff (hI : zt_I ξ T R t) (h : zs ξ T R t μ τ u) {n m : Nat} (hn : n ∈ zy_lvs t) (hm : m ∈ zy_lvs u) (p : zs_pl ξ T R μ τ n m) : ∀ x ∈ zy_lvs t, ∀ y ∈ zy_lvs u, zs_pl ξ T R μ τ x y → (x = n ↔ y = m) := by
  intro x hx y hy q
  obtain ⟨w, hw, hwn, -⟩ := hI.2.2.2.2.2 n hn
  obtain ⟨m', hat, -⟩ := zs_at hI h hw hn hwn
  have hwb : w ∈ zt_tb ξ T R n := zt_tb_mem.mpr ⟨hw, hwn⟩
  have em : m = m' := hat.2.2 m hm (by rw [p.1]; exact hwb)
  have l2 := (zt_I_lvn hI).2
  have h1 := l2 x hx
  have h2 := l2 n hn
  constructor
  · intro e
    subst e
    rw [em]
    exact hat.2.2 y hy (by rw [q.1]; exact hwb)
  · intro e
    subst e
    rw [← p.1, q.1] at hwb
    exact (nI_eq (by omega) (by omega)).mp ((zt_tb_mem.mp hwb).2.symm.trans hwn)
theorem zu_eqT.tb {σ n : Nat} (a : zu_eqT μ τ ν σ) (hn : n < 24) (hl : (zu_tb μ τ n).length ≤ 10) : zu_tb ν σ n = zu_tb μ τ n := by
  unfold zu_tb at hl ⊢
  rw [List.length_map, List.length_range] at hl
  rw [a.2.1 249 n rfl hn]
  refine List.map_congr_left fun j hj => ?_
  have := List.mem_range.mp hj
  rw [a.2.2 n j hn (by omega)]
theorem zu_I_lt {ab : Nat → Int32} (hI : zu_I μ τ u ab) {n : Nat} (hn : n ∈ zy_lvs u) : n < 24 := hI.2.2.1 n (zu_I_lv hI hn).2
theorem zu_I_ct {ab : Nat → Int32} (hI : zu_I μ τ u ab) {n : Nat} (hn : n ∈ zy_cts u) : n < 24 := by
  rcases hI.1 with ⟨rfl, -⟩ | ⟨w, -⟩
  · cases hn
  · exact hI.2.2.1 n (zy_cts_ids u w n hn)
theorem zu_I_tbl {ab : Nat → Int32} (hI : zu_I μ τ u ab) {n : Nat} (hn : n ∈ zy_lvs u) : (zu_tb μ τ n).length ≤ 10 := (zu_I_tb hI hn).1.1
/-- another place, or another memory, of the reference -/
theorem zs_eqT {σ : Nat} (hI : zt_I ξ T R t) (h : zs ξ T R t μ τ u) (a : zu_eqT μ τ ν σ) : zs ξ T R t ν σ u := by
  obtain ⟨h1, ab, h2⟩ := id h
  refine ⟨?_, ab, a.I h2⟩
  rcases zs_wf hI h with ⟨rfl, rfl⟩ | ⟨wt, wu⟩
  · trivial
  · refine zy_sim_mono t wt u wu h1 (fun x hx y hy p => ⟨?_, ?_⟩) (fun x hx y hy p => ⟨?_, ?_⟩)
    · rw [a.tb (zu_I_lt h2 hy) (zu_I_tbl h2 hy)]; exact p.1
    · rw [a.2.1 250 y rfl (zu_I_lt h2 hy)]; exact p.2
    · rw [a.fm (zu_I_ct h2 hy)]; exact p.1
    · rw [a.2.1 247 y rfl (zu_I_ct h2 hy)]; exact p.2
/-- another place, or another memory, of the class -/
theorem zs_cl {Q : Nat} (hI : zt_I ξ T R t) (h : zs ξ T R t μ τ u) (e3 : ξ' (Q + 3) = ξ (T + 3)) (e7 : ξ' (Q + 7) = ξ (T + 7)) (e8 : ξ' (Q + 8) = ξ (T + 8)) (e12 : ξ' (Q + 12) = ξ (T + 12)) : zs ξ' Q R t μ τ u := by
  obtain ⟨h1, ab, h2⟩ := id h
  refine ⟨?_, ab, h2⟩
  rcases zs_wf hI h with ⟨rfl, rfl⟩ | ⟨wt, wu⟩
  · trivial
  · refine zy_sim_mono t wt u wu h1 (fun x hx y hy p => ⟨?_, ?_⟩) (fun x hx y hy p => ⟨?_, ?_⟩)
    · rw [zt_tb_congr (Q := T) (μ := ξ) e3]; exact p.1
    · rw [e12]; exact p.2
    · rw [e7]; exact p.1
    · rw [e8]; exact p.2
theorem zt_tb_add {w x y : Nat} (hx : x < 19) (hy : y < 19) (hwR : w ∉ R) (e3 : ∀ v, ξ' (T + 3) v = if v = w then nI y else ξ (T + 3) v) : zt_tb ξ' T (R ++ [w]) x = if x = y then zt_tb ξ T R x ++ [w] else zt_tb ξ T R x := by
  unfold zt_tb
  rw [List.filter_append]
  have a1 : R.filter (fun v => decide (ξ' (T + 3) v = nI x)) = R.filter (fun v => decide (ξ (T + 3) v = nI x)) := by
    refine List.filter_congr fun v hv => ?_
    have hne : v ≠ w := fun e => hwR (e ▸ hv)
    rw [e3, if_neg hne]
  have a2 : [w].filter (fun v => decide (ξ' (T + 3) v = nI x)) = if x = y then [w] else [] := by
    by_cases c : x = y
    · rw [if_pos c, List.filter_cons_of_pos (by rw [e3, if_pos rfl, c]; exact decide_eq_true rfl)]
      rfl
    · rw [if_neg c, List.filter_cons_of_neg (by rw [e3, if_pos rfl]; exact fun q => c ((nI_eq (by omega) (by omega)).mp (of_decide_eq_true q).symm))]
      rfl
  rw [a1, a2]
  by_cases c : x = y
  · rw [if_pos c, if_pos c]
  · rw [if_neg c, if_neg c, List.append_nil]
/-- a leaf is cut on both sides -/
theorem zs_cut (hI : zt_I ξ T R t) (h : zs ξ T R t μ τ u) {n m w a c f c' f' : Nat} {nf : Bool} {ab' : Nat → Int32} (hn : n ∈ zy_lvs t) (hm : m ∈ zy_lvs u) (p : zs_pl ξ T R μ τ n m) (hw : w < 10) (hwR : w ∉ R)
    (hc : c < 19 ∧ f < 19 ∧ c ∉ zy_ids t ∧ f ∉ zy_ids t ∧ c ≠ f) (e3 : ∀ v, ξ' (T + 3) v = if v = w then nI f else ξ (T + 3) v) (e7 : ∀ i, ξ' (T + 7) i = if i = f then 2 else if i = c then nI a else ξ (T + 7) i) (e8 : ∀ i, ξ' (T + 8) i = if i = c then 50 else ξ (T + 8) i) (e12 : ∀ i, ξ' (T + 12) i = if i = f then nI w else ξ (T + 12) i)
    (hu : zu_isCut μ τ u m w a nf ν ab' c' f') : zs ξ' T (R ++ [w]) (zy_sub n (.append (.tag c (.tag (if nf then f else n) .nil)) (.tag (if nf then n else f) .nil)) t) ν τ (zy_sub m (.append (.tag c' (.tag (if nf then f' else m) .nil)) (.tag (if nf then m else f') .nil)) u) := by
  obtain ⟨h1, ab, h2⟩ := id h
  obtain ⟨g1, ⟨g2, g3, g4, g5, g6⟩, g7, g8, g9, g10, g11, g12, -⟩ := hu
  refine ⟨?_, ab', g1⟩
  obtain ⟨c1, c2, c3, c4, c5⟩ := hc
  obtain ⟨wt, hnid⟩ := zt_I_lv hI hn
  obtain ⟨wu, hmid⟩ := zu_I_lv h2 hm
  have l2 := (zt_I_lvn hI).2
  have hh := zs_iff hI h hn hm p
  have key : ∀ x ∈ zy_lvs t, ∀ y ∈ zy_lvs u, zs_pl ξ T R μ τ x y → zs_pl ξ' T (R ++ [w]) ν τ x y := by
    intro x hx y hy q
    have hxf : x ≠ f := fun e => c4 (e ▸ (zt_I_lv hI hx).2)
    have hx19 := l2 x hx
    obtain ⟨b1, b2, b3⟩ := zu_I_tb h2 hy
    refine ⟨?_, ?_⟩
    · rw [zu_tb_eq (g11 y hy _ b1) b3, zt_tb_add hx19 c2 hwR e3, if_neg hxf]
      exact q.1
    · rw [(g12 y (zu_I_lv h2 hy).2).1, e12, if_neg hxf]
      exact q.2
  have kf : zs_pl ξ' T (R ++ [w]) ν τ f f' := by
    refine ⟨?_, ?_⟩
    · rw [zu_tb_eq g7 (fun x hx => by rw [List.mem_singleton.mp hx]; exact hw), zt_tb_add c2 c2 hwR e3, if_pos rfl]
      have : zt_tb ξ T R f = [] := by
        refine List.eq_nil_iff_forall_not_mem.mpr fun v hv => ?_
        obtain ⟨v1, v2⟩ := zt_tb_mem.mp hv
        obtain ⟨x, hx, e⟩ := hI.2.2.2.1 v v1
        have hx19 := l2 x hx
        have : f = x := (nI_eq (by omega) (by omega)).mp (v2.symm.trans e)
        exact c4 (this ▸ (zt_I_lv hI hx).2)
      rw [this]
      rfl
    · rw [g8, e12, if_pos rfl]
  have kn := key n hn m hm p
  have kc : zs_pc ξ' T ν τ c c' := ⟨by rw [g10, e7, if_neg c5, if_pos rfl], by rw [g9, e8, if_pos rfl]⟩
  refine zy_sim_sub ?_ t wt u wu (zy_sim_mono t wt u wu h1 (fun x hx y hy q => ⟨hh x hx y hy q, fun _ => key x hx y hy q⟩) (fun x hx y hy q => ?_))
  · cases nf
    · exact ⟨kc, kn, kf⟩
    · exact ⟨kc, kf, kn⟩
  · have hxi := zy_cts_ids t wt x hx
    have hyi := zy_cts_ids u wu y hy
    have x1 : x ≠ f := fun e => c4 (e ▸ hxi)
    have x2 : x ≠ c := fun e => c3 (e ▸ hxi)
    exact ⟨by rw [(g12 y hyi).2.2, e7, if_neg x1, if_neg x2]; exact q.1, by rw [(g12 y hyi).2.1, e8, if_neg x2]; exact q.2⟩
end ZSA
end
section
/-! the two trees: a tab more, a first leaf, a tab less; sizes -/
section ZSB
variable {ξ ξ' μ ν : zm_M} {T τ : Nat} {R : List Nat} {t u : zy_F}
theorem zs_tab (hI : zt_I ξ T R t) (h : zs ξ T R t μ τ u) {n m w : Nat} {ab : Nat → Int32} (hn : n ∈ zy_lvs t) (hm : m ∈ zy_lvs u) (p : zs_pl ξ T R μ τ n m) (hw : w < 10) (hwR : w ∉ R)
    (e3 : ∀ v, ξ' (T + 3) v = if v = w then nI n else ξ (T + 3) v) (e7 : ξ' (T + 7) = ξ (T + 7)) (e8 : ξ' (T + 8) = ξ (T + 8)) (e12 : ξ' (T + 12) = ξ (T + 12)) (hu : zu_isTab μ τ u ab m w ν) : zs ξ' T (R ++ [w]) t ν τ u := by
  obtain ⟨h1, ab0, h2⟩ := id h
  obtain ⟨g1, g2, g3, g4, -⟩ := hu
  refine ⟨?_, ab, g1⟩
  obtain ⟨wt, hnid⟩ := zt_I_lv hI hn
  obtain ⟨wu, hmid⟩ := zu_I_lv h2 hm
  have l2 := (zt_I_lvn hI).2
  have hh := zs_iff hI h hn hm p
  have hn19 := l2 n hn
  refine zy_sim_mono t wt u wu h1 (fun x hx y hy q => ⟨?_, ?_⟩) (fun x hx y hy q => ⟨?_, ?_⟩)
  · have hx19 := l2 x hx
    rw [zt_tb_add hx19 hn19 hwR e3]
    obtain ⟨b1, b2, b3⟩ := zu_I_tb h2 hy
    by_cases c : x = n
    · have cy := (hh x hx y hy q).mp c
      rw [if_pos c, ← q.1, cy]
      refine zu_tb_eq g2 (fun v hv => ?_)
      rcases List.mem_append.mp hv with hv | hv
      · exact (zu_I_tb h2 hm).2.2 v hv
      · rw [List.mem_singleton.mp hv]; exact hw
    · have cy : y ≠ m := fun e => c ((hh x hx y hy q).mpr e)
      rw [if_neg c, ← q.1]
      exact zu_tb_eq (g3 y cy _ b1) b3
  · rw [(g4 y).1, e12]; exact q.2
  · rw [(g4 y).2.2, e7]; exact q.1
  · rw [(g4 y).2.1, e8]; exact q.2
theorem zs_new {n w f : Nat} (hn : n < 19) (hw : w < 10) (e3 : ∀ v, ξ' (T + 3) v = if v = w then nI n else ξ (T + 3) v) (e12 : ∀ i, ξ' (T + 12) i = if i = n then nI w else ξ (T + 12) i) (hu : zu_isNew μ τ w ν f) : zs ξ' T [w] (.tag n .nil) ν τ (.tag f .nil) := by
  obtain ⟨g1, g2, g3, g4, -⟩ := hu
  refine ⟨?_, _, g1⟩
  show zu_tb ν τ f = zt_tb ξ' T [w] n ∧ ν 250 (24 * τ + f) = ξ' (T + 12) n
  refine ⟨?_, ?_⟩
  · rw [zu_tb_eq g3 (fun x hx => by rw [List.mem_singleton.mp hx]; exact hw)]
    unfold zt_tb
    rw [List.filter_cons_of_pos (by rw [e3, if_pos rfl]; exact decide_eq_true rfl)]
    rfl
  · rw [g4, e12, if_pos rfl]
theorem zt_tb_out {w x : Nat} (hd : R.Nodup) (e3 : ∀ v, v ≠ w → ξ' (T + 3) v = ξ (T + 3) v) : zt_tb ξ' T (R.erase w) x = (zt_tb ξ T R x).erase w := by
  unfold zt_tb
  rw [List.Nodup.erase_eq_filter (hd.filter _) w, List.filter_filter, List.Nodup.erase_eq_filter hd w, List.filter_filter]
  refine List.filter_congr fun v _ => ?_
  by_cases c : v = w
  · subst c
    simp
  · have c' : (v != w) = true := by simp [c]
    rw [e3 v c, c', Bool.and_true, Bool.true_and]
theorem zs_out (hI : zt_I ξ T R t) (h : zs ξ T R t μ τ u) {n m w : Nat} {ab' : Nat → Int32} (hn : n ∈ zy_lvs t) (hat : zu_at μ τ u w m) (p : zs_pl ξ T R μ τ n m) (hI' : zt_I ξ' T (R.erase w) (if (zt_tb ξ T R n).erase w = [] then zy_out n t else t))
    (e3 : ∀ v, ξ' (T + 3) v = if v = w then -1 else ξ (T + 3) v) (e7 : ∀ i ∈ zy_ids (if (zt_tb ξ T R n).erase w = [] then zy_out n t else t), ξ' (T + 7) i = ξ (T + 7) i) (e8 : ξ' (T + 8) = ξ (T + 8)) (e12 : ∀ i, ξ' (T + 12) i = if i = n ∧ ξ (T + 12) n = nI w then zl_nx (zt_tb ξ T R n) w else ξ (T + 12) i)
    (hu : zu_isOut μ τ u m w ν ab') : zs ξ' T (R.erase w) (if (zt_tb ξ T R n).erase w = [] then zy_out n t else t) ν τ (if (zu_tb μ τ m).erase w = [] then zy_out m u else u) := by
  obtain ⟨h1, ab, h2⟩ := id h
  obtain ⟨g1, g2, g3, g4, -⟩ := hu
  have hm := hat.1
  refine ⟨?_, ab', g1⟩
  obtain ⟨wt, hnid⟩ := zt_I_lv hI hn
  obtain ⟨wu, hmid⟩ := zu_I_lv h2 hm
  obtain ⟨-, hok, -⟩ := zt_I_wf hI hnid
  have l2 := (zt_I_lvn hI).2
  have hh := zs_iff hI h hn hm p
  have hd : R.Nodup := hI.1.2.1
  have e3' : ∀ v, v ≠ w → ξ' (T + 3) v = ξ (T + 3) v := fun v hv => by rw [e3, if_neg hv]
  have tbx : ∀ x, zt_tb ξ' T (R.erase w) x = (zt_tb ξ T R x).erase w := fun x => zt_tb_out hd e3'
  have key : ∀ x ∈ zy_lvs t, ∀ y ∈ zy_lvs u, x ≠ n → zs_pl ξ T R μ τ x y → y ∈ zy_ids (if (zu_tb μ τ m).erase w = [] then zy_out m u else u) → zs_pl ξ' T (R.erase w) ν τ x y := by
    intro x hx y hy hxn q hyi
    have hym : y ≠ m := fun e => hxn ((hh x hx y hy q).mpr e)
    obtain ⟨b1, b2, b3⟩ := zu_I_tb h2 hy
    have hwy : w ∉ zu_tb μ τ y := fun e => hym (hat.2.2 y hy e)
    refine ⟨?_, ?_⟩
    · rw [zu_tb_eq (g2 y hy hym _ b1) b3, tbx, ← q.1, List.erase_of_not_mem hwy]
    · rw [(g4 y hyi).1, if_neg (fun e => hym e.1), e12, if_neg (fun e => hxn e.1)]
      exact q.2
  by_cases c : (zt_tb ξ T R n).erase w = []
  · have c' : (zu_tb μ τ m).erase w = [] := by rw [p.1]; exact c
    rw [if_pos c'] at g1 g4 key ⊢
    rw [if_pos c] at e7 hI' ⊢
    have s := zy_sim_out (pl' := fun x y => (x ∈ zy_lvs t ∧ y ∈ zy_lvs u ∧ x ≠ n) ∧ zs_pl ξ T R μ τ x y) (pc' := zs_pc ξ T μ τ) wt wu (zy_sim_mono t wt u wu h1 (fun x hx y hy q => ⟨hh x hx y hy q, fun hne => ⟨⟨hx, hy, hne⟩, q⟩⟩) (fun x hx y hy q => ⟨⟨fun e => ?_, fun e => ?_⟩, q⟩)) hI.2.1.2.1
    · have wu' : zy_out m u = .nil ∨ zy_wf (zy_out m u) := g1.1.imp (·.1) (·.1)
      rcases hI'.2.1.1 with ⟨e, -⟩ | ⟨wt', -⟩
      · rw [e] at s ⊢
        have := zy_sim_nil wu' s
        rw [this]
        trivial
      · have wu2 := zy_sim_wf wu' wt' s
        refine zy_sim_mono _ wt' _ wu2 s (fun x hx y hy q => key x q.1.1 y q.1.2.1 q.1.2.2 q.2 (zy_lvs_ids _ wu2 y hy)) (fun x hx y hy q => ⟨?_, ?_⟩)
        · rw [(g4 y (zy_cts_ids _ wu2 y hy)).2.2, e7 x (zy_cts_ids _ wt' x hx)]; exact q.1
        · rw [(g4 y (zy_cts_ids _ wu2 y hy)).2.1, e8]; exact q.2
    · subst e
      have a1 := zy_ok_lf t wt hok x hn
      rcases (zy_ok_ct t wt hok x hx).1 with a2 | a2 <;> rw [a1] at a2 <;> exact absurd a2 (by decide)
    · subst e
      have a1 := zu_I_leaf h2 hm
      rcases zu_I_cut h2 hy with a2 | a2 <;> rw [a1] at a2 <;> exact absurd a2 (by decide)
  · have c' : (zu_tb μ τ m).erase w ≠ [] := by rw [p.1]; exact c
    rw [if_neg c'] at g1 g4 key ⊢
    rw [if_neg c] at e7 hI' ⊢
    refine zy_sim_mono t wt u wu h1 (fun x hx y hy q => ?_) (fun x hx y hy q => ⟨?_, ?_⟩)
    · by_cases cx : x = n
      · have cy := (hh x hx y hy q).mp cx
        subst cx; subst cy
        refine ⟨?_, ?_⟩
        · rw [tbx, ← q.1]
          exact zu_tb_eq (g3 c') (fun v hv => (zu_I_tb h2 hm).2.2 v (List.mem_of_mem_erase hv))
        · rw [(g4 y hmid).1, e12, q.2, q.1]
          by_cases d : ξ (T + 12) x = nI w
          · rw [if_pos ⟨rfl, d⟩, if_pos ⟨rfl, d⟩]
          · rw [if_neg (fun e => d e.2), if_neg (fun e => d e.2)]
      · exact key x hx y hy cx q (zy_lvs_ids u wu y hy)
    · rw [(g4 y (zy_cts_ids u wu y hy)).2.2, e7 x (zy_cts_ids t wt x hx)]; exact q.1
    · rw [(g4 y (zy_cts_ids u wu y hy)).2.1, e8]; exact q.2
theorem zt_lf_tb {a n : Nat} : zt_lf (ξ (T + 5 + a)) (ξ (T + 3)) R n = (zt_tb ξ T R n).foldl (fun m w => zi_mx m (ξ (T + 5 + a) w)) 0 := by
  unfold zt_lf zt_tb
  rw [List.foldl_filter]
  congr 1
  funext m w
  by_cases c : ξ (T + 3) w = nI n
  · rw [if_pos c, if_pos (decide_eq_true c)]
  · rw [if_neg c, if_neg (fun e => c (of_decide_eq_true e))]
/-- the sizes of the tabs -/
noncomputable def zs_sz (ξ : zm_M) (T : Nat) (R : List Nat) (μ : zm_M) : Prop := ∀ a, a < 2 → ∀ w ∈ R, μ (235 + a) w = ξ (T + 5 + a) w
theorem zl_fold_congr {F : Int32 → Int32 → Int32} {f g : Nat → Int32} (l : List Nat) : ∀ (m : Int32), (∀ w ∈ l, f w = g w) → l.foldl (fun m w => F m (f w)) m = l.foldl (fun m w => F m (g w)) m := by
  induction l with
  | nil => intro m _; rfl
  | cons w l ih =>
    intro m h
    rw [List.foldl_cons, List.foldl_cons, h w List.mem_cons_self]
    exact ih _ (fun v hv => h v (List.mem_cons_of_mem _ hv))
theorem zs_lf (hz : zs_sz ξ T R μ) {a n m : Nat} (ha : a < 2) (p : zs_pl ξ T R μ τ n m) : zt_lf (ξ (T + 5 + a)) (ξ (T + 3)) R n = zu_lf μ τ a m := by
  rw [zt_lf_tb]
  unfold zu_lf
  rw [p.1]
  exact zl_fold_congr (F := zi_mx) _ _ (fun w hw => (hz a ha w (zt_tb_mem.mp hw).1).symm)
theorem zs_lsz (hI : zt_I ξ T R t) (h : zs ξ T R t μ τ u) (hz : zs_sz ξ T R μ) {a : Nat} (ha : a < 2) : zt_lsz ξ T a R t = zu_lsz μ τ a u := by
  unfold zt_lsz zu_lsz
  rcases zs_wf hI h with ⟨rfl, rfl⟩ | ⟨wt, wu⟩
  · rfl
  · exact zy_sim_ls t wt u wu (zy_sim_mono t wt u wu h.1 (fun x _ y _ q => zs_lf hz ha q) (fun x _ y _ q => q.1.symm))
theorem zs_fit (hI : zt_I ξ T R t) (h : zs ξ T R t μ τ u) (hz : zs_sz ξ T R μ) {z : Nat} {w v : Int32} (e0 : ξ z 0 = w) (e1 : ξ z 1 = v) : zt_fit ξ T z R t = zu_fit μ τ u w v := by
  unfold zt_fit zu_fit
  rw [zs_lsz hI h hz (by decide), zs_lsz hI h hz (by decide), e0, e1]
end ZSB
end
section
/-! the reference: nearest, isFloating, canBeWhole, putAt, isOnScreen, freeNumber, forget -/
noncomputable def zv_ne (v m : Int32) : Int32 := if v < 0 then 0 else if m < v then m else v
section ZVA
variable {μ : zm_M}
theorem zv_opq (a b : Int32) : ∃ c, a - b = c := ⟨_, rfl⟩
set_option maxRecDepth 100000 in
theorem ze_Mnearest {h : zi_Hp} (D : Nat) (v m : Int32) : ze_E (D + 1) A_Mod_nearest [.int v, .int m] h (some (.int (zv_ne v m))) h := by
  unfold zv_ne
  by_cases c1 : v < 0
  · have c1' : ¬ (0 : Int32) ≤ v := Int32.not_le.mpr c1
    rw [if_pos c1]
    refine ze_in [(0, .int v), (1, .int m)] zq_Mod_nearest (Nat.le_of_ble_eq_true rfl) rfl ⟨0, 5, fun F mm hF => ?_⟩
    simp [zg_0, zg_goto, zg_iconst, zg_ifCond, zg_if_icmp, zg_iload_n, zg_ireturn, zf_X6_nearest, zi_ld, zi_lda, zi_cmp, zi_retOk, zi_isI, zi_f3, zi_cr, zi_ci, zi_cn, zi_get, zi_set, c1, c1']
  · have c1' : (0 : Int32) ≤ v := Int32.not_lt.mp c1
    rw [if_neg c1]
    by_cases c2 : m < v
    · have c2' : ¬ v ≤ m := Int32.not_le.mpr c2
      rw [if_pos c2]
      refine ze_in [(0, .int v), (1, .int m)] zq_Mod_nearest (Nat.le_of_ble_eq_true rfl) rfl ⟨0, 8, fun F mm hF => ?_⟩
      simp [zg_0, zg_goto, zg_iconst, zg_ifCond, zg_if_icmp, zg_iload_n, zg_ireturn, zf_X6_nearest, zi_ld, zi_lda, zi_cmp, zi_retOk, zi_isI, zi_f3, zi_cr, zi_ci, zi_cn, zi_get, zi_set, c1, c1', c2, c2']
    · have c2' : v ≤ m := Int32.not_lt.mp c2
      rw [if_neg c2]
      refine ze_in [(0, .int v), (1, .int m)] zq_Mod_nearest (Nat.le_of_ble_eq_true rfl) rfl ⟨0, 7, fun F mm hF => ?_⟩
      simp [zg_0, zg_goto, zg_iconst, zg_ifCond, zg_if_icmp, zg_iload_n, zg_ireturn, zf_X6_nearest, zi_ld, zi_lda, zi_cmp, zi_retOk, zi_isI, zi_f3, zi_cr, zi_ci, zi_cn, zi_get, zi_set, c1, c1', c2, c2']
set_option maxRecDepth 100000 in
theorem ze_Mhalf {h : zi_Hp} (D : Nat) (v : Int32) : ∃ r, ze_E (D + 1) A_Mod_half [.int v] h (some (.int r)) h := by
  have h2 : ¬ (2 : Int32) = 0 := by decide
  by_cases c1 : v < 0
  · have c1' : ¬ (0 : Int32) ≤ v := Int32.not_le.mpr c1
    by_cases c2 : v - v / 2 * 2 = 0
    · refine ⟨v / 2, ze_in [(0, .int v)] zq_Mod_half (Nat.le_of_ble_eq_true rfl) rfl ⟨0, 10, fun F mm hF => ?_⟩⟩
      simp [zg_0, zg_goto, zg_iconst, zg_idiv, zg_ifCond, zg_iload_n, zg_irem, zg_ireturn, zg_isub, zf_X6_half, zi_ld, zi_lda, zi_cmp, zi_retOk, zi_isI, zi_f3, zi_cr, zi_ci, zi_cn, zi_get, zi_set, c1, c1', c2, h2]
    · obtain ⟨q, hq⟩ := zv_opq (v / 2) 1
      refine ⟨q, ze_in [(0, .int v)] zq_Mod_half (Nat.le_of_ble_eq_true rfl) rfl ⟨0, 13, fun F mm hF => ?_⟩⟩
      simp [zg_0, zg_goto, zg_iconst, zg_idiv, zg_ifCond, zg_iload_n, zg_irem, zg_ireturn, zg_isub, zf_X6_half, zi_ld, zi_lda, zi_cmp, zi_retOk, zi_isI, zi_f3, zi_cr, zi_ci, zi_cn, zi_get, zi_set, c1, c1', c2, h2, hq]
  · have c1' : (0 : Int32) ≤ v := Int32.not_lt.mp c1
    refine ⟨v / 2, ze_in [(0, .int v)] zq_Mod_half (Nat.le_of_ble_eq_true rfl) rfl ⟨0, 6, fun F mm hF => ?_⟩⟩
    simp [zg_0, zg_goto, zg_iconst, zg_idiv, zg_ifCond, zg_iload_n, zg_irem, zg_ireturn, zg_isub, zf_X6_half, zi_ld, zi_lda, zi_cmp, zi_retOk, zi_isI, zi_f3, zi_cr, zi_ci, zi_cn, zi_get, zi_set, c1, c1', h2]
set_option maxRecDepth 100000 in
theorem ze_MisFloating (D : Nat) {k : Nat} (hk : k < 10) : ze_E (D + 1) A_Mod_isFloating [.ref 232, .int (nI k)] (zm_mk μ) (some (.int (if 2 ≤ μ 234 k then 1 else 0))) (zm_mk μ) := by
  have ik : zi_in (nI k) 10 = true := zm_in hk (by decide)
  have ck : (nI k).toNatClampNeg = k := nI_clamp (by omega)
  by_cases c : 2 ≤ μ 234 k
  · have c' : ¬ μ 234 k < 2 := Int32.not_lt.mpr c
    rw [if_pos c]
    refine ze_in [(0, .ref 232), (1, .int (nI k))] zq_Mod_isFloating (Nat.le_of_ble_eq_true rfl) rfl ⟨0, 9, fun F m hF => ?_⟩
    simp [zg_0, zg_aload_n, zg_getfield, zg_goto, zg_iaload, zg_iconst, zg_if_icmp, zg_iload_n, zg_ireturn, zf_X6_isFloating, zi_ld, zi_lda, zi_cmp, zi_retOk, zi_isI, zi_f3, zi_cr, zi_ci, zi_cn, zi_get, zi_set, zM_g, zm_iald (k := 0) zM_A234 ik, ck, c, c']
  · have c' : μ 234 k < 2 := Int32.not_le.mp c
    rw [if_neg c]
    refine ze_in [(0, .ref 232), (1, .int (nI k))] zq_Mod_isFloating (Nat.le_of_ble_eq_true rfl) rfl ⟨0, 8, fun F m hF => ?_⟩
    simp [zg_0, zg_aload_n, zg_getfield, zg_goto, zg_iaload, zg_iconst, zg_if_icmp, zg_iload_n, zg_ireturn, zf_X6_isFloating, zi_ld, zi_lda, zi_cmp, zi_retOk, zi_isI, zi_f3, zi_cr, zi_ci, zi_cn, zi_get, zi_set, zM_g, zm_iald (k := 0) zM_A234 ik, ck, c, c']
set_option maxRecDepth 100000 in
theorem ze_McanBeWhole (D : Nat) {k : Nat} (hk : k < 10) (a b : Int32) : ze_E (D + 1) A_Mod_canBeWhole [.ref 232, .int (nI k), .int a, .int b] (zm_mk μ) (some (.int (if μ 235 k ≤ a ∧ μ 236 k ≤ b then 1 else 0))) (zm_mk μ) := by
  have ik : zi_in (nI k) 10 = true := zm_in hk (by decide)
  have ck : (nI k).toNatClampNeg = k := nI_clamp (by omega)
  by_cases c : μ 235 k ≤ a
  · have c' : ¬ a < μ 235 k := Int32.not_lt.mpr c
    by_cases d : μ 236 k ≤ b
    · have d' : ¬ b < μ 236 k := Int32.not_lt.mpr d
      rw [if_pos ⟨c, d⟩]
      refine ze_in [(0, .ref 232), (1, .int (nI k)), (2, .int a), (3, .int b)] zq_Mod_canBeWhole (Nat.le_of_ble_eq_true rfl) rfl ⟨0, 15, fun F m hF => ?_⟩
      simp [zg_0, zg_aload_n, zg_getfield, zg_goto, zg_iaload, zg_iconst, zg_if_icmp, zg_iload_n, zg_ireturn, zf_X6_canBeWhole, zi_ld, zi_lda, zi_cmp, zi_retOk, zi_isI, zi_f3, zi_cr, zi_ci, zi_cn, zi_get, zi_set, zM_g, zm_iald (k := 0) zM_A235 ik, zm_iald (k := 0) zM_A236 ik, ck, c, c', d, d']
    · have d' : b < μ 236 k := Int32.not_le.mp d
      rw [if_neg (fun e => d e.2)]
      refine ze_in [(0, .ref 232), (1, .int (nI k)), (2, .int a), (3, .int b)] zq_Mod_canBeWhole (Nat.le_of_ble_eq_true rfl) rfl ⟨0, 14, fun F m hF => ?_⟩
      simp [zg_0, zg_aload_n, zg_getfield, zg_goto, zg_iaload, zg_iconst, zg_if_icmp, zg_iload_n, zg_ireturn, zf_X6_canBeWhole, zi_ld, zi_lda, zi_cmp, zi_retOk, zi_isI, zi_f3, zi_cr, zi_ci, zi_cn, zi_get, zi_set, zM_g, zm_iald (k := 0) zM_A235 ik, zm_iald (k := 0) zM_A236 ik, ck, c, c', d, d']
  · have c' : a < μ 235 k := Int32.not_le.mp c
    rw [if_neg (fun e => c e.1)]
    refine ze_in [(0, .ref 232), (1, .int (nI k)), (2, .int a), (3, .int b)] zq_Mod_canBeWhole (Nat.le_of_ble_eq_true rfl) rfl ⟨0, 8, fun F m hF => ?_⟩
    simp [zg_0, zg_aload_n, zg_getfield, zg_goto, zg_iaload, zg_iconst, zg_if_icmp, zg_iload_n, zg_ireturn, zf_X6_canBeWhole, zi_ld, zi_lda, zi_cmp, zi_retOk, zi_isI, zi_f3, zi_cr, zi_ci, zi_cn, zi_get, zi_set, zM_g, zm_iald (k := 0) zM_A235 ik, ck, c, c']
/-- what putAt leaves: the home, and some place -/
noncomputable def zv_put (μ : zm_M) (k s : Nat) (p q : Int32) : zm_M := zm_up (zm_up (zm_up μ 238 k (nI s)) 239 k p) 240 k q
set_option maxRecDepth 100000 in
theorem ze_MputAt (D : Nat) {k s : Nat} (hk : k < 10) (hs : s < 3) (px py : Int32) : ∃ p q, ze_E (D + 2) A_Mod_putAt [.ref 232, .int (nI k), .int (nI s), .int px, .int py] (zm_mk μ) none (zm_mk (zv_put μ k s p q)) ∧ p = zv_ne px (μ 232 s - μ 235 k) ∧ q = zv_ne py (μ 233 s - μ 236 k) := by
  have ik : zi_in (nI k) 10 = true := zm_in hk (by decide)
  have ck : (nI k).toNatClampNeg = k := nI_clamp (by omega)
  have is : zi_in (nI s) 3 = true := zm_in hs (by decide)
  have cs : (nI s).toNatClampNeg = s := nI_clamp (by omega)
  have v1 : zm_up μ 238 k (nI s) 232 s = μ 232 s := zm_up_ne (by omega)
  have v2 : zm_up μ 238 k (nI s) 235 k = μ 235 k := zm_up_ne (by omega)
  obtain ⟨d1, hd1⟩ := zv_opq (μ 232 s) (μ 235 k)
  obtain ⟨N1, E1⟩ := ze_Mnearest (h := zm_mk (zm_up μ 238 k (nI s))) D px d1
  generalize hp : zv_ne px d1 = p at E1
  have v3 : zm_up (zm_up μ 238 k (nI s)) 239 k p 233 s = μ 233 s := by rw [zm_up_ne (by omega), zm_up_ne (by omega)]
  have v4 : zm_up (zm_up μ 238 k (nI s)) 239 k p 236 k = μ 236 k := by rw [zm_up_ne (by omega), zm_up_ne (by omega)]
  obtain ⟨d2, hd2⟩ := zv_opq (μ 233 s) (μ 236 k)
  obtain ⟨N2, E2⟩ := ze_Mnearest (h := zm_mk (zm_up (zm_up μ 238 k (nI s)) 239 k p)) D py d2
  generalize hq : zv_ne py d2 = q at E2
  refine ⟨p, q, ze_in [(0, .ref 232), (1, .int (nI k)), (2, .int (nI s)), (3, .int px), (4, .int py)] zq_Mod_putAt (Nat.le_of_ble_eq_true rfl) rfl ⟨N1 + N2, 36, fun F m hF => ?_⟩, by rw [hd1, hp], by rw [hd2, hq]⟩
  simp [zg_0, zg_aload_n, zg_getfield, zg_iaload, zg_iastore, zg_iload, zg_iload_n, zg_invokestatic, zg_isub, zg_return, zf_X6_putAt, zi_ld, zi_lda, zi_cmp, zi_retOk, zi_isI, zi_f3, zi_cr, zi_ci, zi_cn, zi_get, zi_set, zM_g, zm_iast zM_A238 ik, ck, zm_iald (k := 0) zM_A232 is, zm_iald (k := 0) zM_A235 ik, zm_iald (k := 0) zM_A233 is, zm_iald (k := 0) zM_A236 ik, cs, v1, v2, v3, v4, hd1, hd2, zq_Mod_nearest, E1 F (by omega), E2 F (by omega), zm_iast zM_A239 ik, zm_iast zM_A240 ik]
  rfl
/-- is the window one of the screen's that are not tiled? -/
noncomputable def zv_on (μ : zm_M) (k : Nat) (s : Int32) : Bool := decide (1 < μ 234 k ∧ ¬ μ 234 k = 4 ∧ μ 238 k = s)
set_option maxRecDepth 100000 in
theorem ze_MisOnScreen (D : Nat) {k : Nat} (hk : k < 10) (s : Int32) : ze_E (D + 1) A_Mod_isOnScreen [.ref 232, .int (nI k), .int s] (zm_mk μ) (some (.int (if zv_on μ k s = true then 1 else 0))) (zm_mk μ) := by
  have ik : zi_in (nI k) 10 = true := zm_in hk (by decide)
  have ck : (nI k).toNatClampNeg = k := nI_clamp (by omega)
  unfold zv_on
  by_cases c : 1 < μ 234 k
  · have c' : ¬ μ 234 k ≤ 1 := Int32.not_le.mpr c
    by_cases d : μ 234 k = 4
    · rw [if_neg (fun e => (of_decide_eq_true e).2.1 d)]
      refine ze_in [(0, .ref 232), (1, .int (nI k)), (2, .int s)] zq_Mod_isOnScreen (Nat.le_of_ble_eq_true rfl) rfl ⟨0, 14, fun F m hF => ?_⟩
      have c4 : ¬ (4 : Int32) ≤ 1 := by decide
      simp [zg_0, zg_aload_n, zg_getfield, zg_goto, zg_iaload, zg_iconst, zg_if_icmp, zg_iload_n, zg_ireturn, zf_X6_isOnScreen, zi_ld, zi_lda, zi_cmp, zi_retOk, zi_isI, zi_f3, zi_cr, zi_ci, zi_cn, zi_get, zi_set, zM_g, zm_iald (k := 0) zM_A234 ik, ck, d, c4]
    · by_cases e : μ 238 k = s
      · rw [if_pos (decide_eq_true ⟨c, d, e⟩)]
        refine ze_in [(0, .ref 232), (1, .int (nI k)), (2, .int s)] zq_Mod_isOnScreen (Nat.le_of_ble_eq_true rfl) rfl ⟨0, 21, fun F m hF => ?_⟩
        simp [zg_0, zg_aload_n, zg_getfield, zg_goto, zg_iaload, zg_iconst, zg_if_icmp, zg_iload_n, zg_ireturn, zf_X6_isOnScreen, zi_ld, zi_lda, zi_cmp, zi_retOk, zi_isI, zi_f3, zi_cr, zi_ci, zi_cn, zi_get, zi_set, zM_g, zm_iald (k := 0) zM_A234 ik, zm_iald (k := 0) zM_A238 ik, ck, c', d, e]
      · rw [if_neg (fun g => e (of_decide_eq_true g).2.2)]
        refine ze_in [(0, .ref 232), (1, .int (nI k)), (2, .int s)] zq_Mod_isOnScreen (Nat.le_of_ble_eq_true rfl) rfl ⟨0, 20, fun F m hF => ?_⟩
        simp [zg_0, zg_aload_n, zg_getfield, zg_goto, zg_iaload, zg_iconst, zg_if_icmp, zg_iload_n, zg_ireturn, zf_X6_isOnScreen, zi_ld, zi_lda, zi_cmp, zi_retOk, zi_isI, zi_f3, zi_cr, zi_ci, zi_cn, zi_get, zi_set, zM_g, zm_iald (k := 0) zM_A234 ik, zm_iald (k := 0) zM_A238 ik, ck, c', d, e]
  · have c' : μ 234 k ≤ 1 := Int32.not_lt.mp c
    rw [if_neg (fun g => c (of_decide_eq_true g).1)]
    refine ze_in [(0, .ref 232), (1, .int (nI k)), (2, .int s)] zq_Mod_isOnScreen (Nat.le_of_ble_eq_true rfl) rfl ⟨0, 8, fun F m hF => ?_⟩
    simp [zg_0, zg_aload_n, zg_getfield, zg_goto, zg_iaload, zg_iconst, zg_if_icmp, zg_iload_n, zg_ireturn, zf_X6_isOnScreen, zi_ld, zi_lda, zi_cmp, zi_retOk, zi_isI, zi_f3, zi_cr, zi_ci, zi_cn, zi_get, zi_set, zM_g, zm_iald (k := 0) zM_A234 ik, ck, c']
set_option maxRecDepth 100000 in
theorem ze_MfreeNumber (D : Nat) : ze_E (D + 1) A_Mod_freeNumber [.ref 232] (zm_mk μ) (some (.int (zl_fi (fun k => decide (μ 234 k = 0)) (-1) 10 0))) (zm_mk μ) := by
  have h10 : (Int8.ofInt 10).toInt32 = (10 : Int32) := by decide
  have key : ∃ r h', ze_G D 2 (some .int) zc_X6_freeNumber 2 [(1, .int (nI 0)), (0, .ref 232)] [] (zm_mk μ) r h' ∧ (r = some (.int (zl_fi (fun k => decide (μ 234 k = 0)) (-1) 10 0)) ∧ zm_mk μ = h') := by
    refine ze_loop (Q := fun i L hp => i ≤ 10 ∧ zi_nl L = true ∧ zi_get L 0 = some (.ref 232) ∧ zi_get L 1 = some (.int (nI i)) ∧ zm_mk μ = hp ∧ (zl_fi (fun k => decide (μ 234 k = 0)) (-1) 10 0 = zl_fi (fun k => decide (μ 234 k = 0)) (-1) (10 - i) i)) (R := fun r h' => r = some (.int (zl_fi (fun k => decide (μ 234 k = 0)) (-1) 10 0)) ∧ zm_mk μ = h') 10 ?_ ?_ 10 0 _ _ (by omega) ⟨by omega, rfl, rfl, rfl, rfl, rfl⟩
    · rintro i L _ hi ⟨-, nl, g0, g1, rfl, hq⟩
      have c1 : ¬ (10 : Int32) ≤ nI i := nI_ge (b := 10) hi (by decide)
      have ik : zi_in (nI i) 10 = true := zm_in hi (by decide)
      have ck : (nI i).toNatClampNeg = i := nI_clamp (by omega)
      rw [zl_fi_s hi] at hq
      by_cases c2 : μ 234 i = 0
      · rw [if_pos (decide_eq_true c2)] at hq
        right
        refine ⟨some (.int (nI i)), zm_mk μ, ⟨0, 10, fun F m hF => ?_⟩, by rw [hq], rfl⟩
        simp (maxDischargeDepth := 9) [zg_0, zg_aload_n, zg_bipush, zg_getfield, zg_goto, zg_iaload, zg_iconst, zg_ifCond, zg_if_icmp, zg_iinc, zg_iload_n, zg_ireturn, zg_istore_n, zf_X6_freeNumber, zi_ld, zi_lda, zi_cmp, zi_retOk, zi_isI, zi_f3, zi_cr, zi_ci, zi_cn, zi_get_ne, zi_nl_i, zi_nl_r, zi_get_set_eq, nl, g0, g1, h10, c1, zM_g, zm_iald (k := 0) zM_A234 ik, ck, c2, nI_1]
      · rw [if_neg (fun e => c2 (of_decide_eq_true e))] at hq
        left
        refine ⟨zi_set L 1 (.int (nI (i + 1))), zm_mk μ, ⟨0, 10, fun F m hF => ?_⟩, by omega, ?_, ?_, zi_get_set_eq, rfl, hq⟩
        · simp (maxDischargeDepth := 9) [zg_0, zg_aload_n, zg_bipush, zg_getfield, zg_goto, zg_iaload, zg_iconst, zg_ifCond, zg_if_icmp, zg_iinc, zg_iload_n, zg_ireturn, zg_istore_n, zf_X6_freeNumber, zi_ld, zi_lda, zi_cmp, zi_retOk, zi_isI, zi_f3, zi_cr, zi_ci, zi_cn, zi_get_ne, zi_nl_i, zi_nl_r, zi_get_set_eq, nl, g0, g1, h10, c1, zM_g, zm_iald (k := 0) zM_A234 ik, ck, c2, nI_1]
        · simp (maxDischargeDepth := 9) [zi_get_ne, zi_nl_i, zi_nl_r, zi_get_set_eq, nl]
        · simp (maxDischargeDepth := 9) [zi_get_ne, zi_nl_i, zi_nl_r, zi_get_set_eq, nl, g0]
    · rintro L _ ⟨-, nl, g0, g1, rfl, hq⟩
      have c1 : (10 : Int32) ≤ nI 10 := by decide
      have hq : zl_fi (fun k => decide (μ 234 k = 0)) (-1) 10 0 = -1 := hq
      rw [hq]
      refine ⟨_, zm_mk μ, ⟨0, 5, fun F m hF => ?_⟩, rfl, rfl⟩
      simp [zg_0, zg_aload_n, zg_bipush, zg_getfield, zg_goto, zg_iaload, zg_iconst, zg_ifCond, zg_if_icmp, zg_iinc, zg_iload_n, zg_ireturn, zg_istore_n, zf_X6_freeNumber, zi_ld, zi_lda, zi_cmp, zi_retOk, zi_isI, zi_f3, zi_cr, zi_ci, zi_cn, g0, g1, h10, c1]
  obtain ⟨r, h', G, rfl, rfl⟩ := key
  refine ze_in [(0, .ref 232)] zq_Mod_freeNumber (Nat.le_of_ble_eq_true rfl) rfl (ze_S.end ⟨0, 2, fun F m hF => ?_⟩ G)
  simp [zg_0, zg_aload_n, zg_bipush, zg_getfield, zg_goto, zg_iaload, zg_iconst, zg_ifCond, zg_if_icmp, zg_iinc, zg_iload_n, zg_ireturn, zg_istore_n, zf_X6_freeNumber, zi_ld, zi_lda, zi_cmp, zi_retOk, zi_isI, zi_f3, zi_cr, zi_ci, zi_cn, zi_get, zi_set, nI_0]
end ZVA
end
