/-! the reference: lay, layAll -/
section ZLZ
variable {τ : Nat} {ab : Nat → Int32}
theorem zi_mn_le (f m : Int32) : (if f ≤ m then f else m) = zi_mn f m := by
  unfold zi_mn
  by_cases c : m < f
  · rw [if_pos c, if_neg (Int32.not_le.mpr c)]
  · rw [if_neg c, if_pos (Int32.not_lt.mp c)]
set_option maxRecDepth 100000 in
theorem ze_lay_c1 (f m : Int32) (L : zi_Lc) (h : zi_Hp) (D : Nat) (nl : zi_nl L = true) (g10 : zi_get L 10 = some (.int f)) (g11 : zi_get L 11 = some (.int m)) : ze_S D 13 none zc_X6_lay 152 L [] h 168 (zi_set L 10 (.int (zi_mn f m))) [] h := by
  rw [← zi_mn_le]
  by_cases c : f ≤ m
  · rw [if_pos c]
    refine ⟨0, 5, fun F n hF => ?_⟩
    simp [zg_0, zg_aload_n, zg_bipush, zg_dup, zg_getfield, zg_goto, zg_iadd, zg_iaload, zg_iastore, zg_iconst, zg_idiv, zg_ifCond, zg_if_icmp, zg_iload, zg_iload_n, zg_imul, zg_invokestatic, zg_invokevirtual, zg_istore, zg_isub, zg_putfield, zg_return, zf_X6_lay, zi_ld, zi_lda, zi_cmp, zi_retOk, zi_isI, zi_f3, zi_cr, zi_ci, zi_cn, g10, g11, c]
  · rw [if_neg c]
    refine ⟨0, 6, fun F n hF => ?_⟩
    simp [zg_0, zg_aload_n, zg_bipush, zg_dup, zg_getfield, zg_goto, zg_iadd, zg_iaload, zg_iastore, zg_iconst, zg_idiv, zg_ifCond, zg_if_icmp, zg_iload, zg_iload_n, zg_imul, zg_invokestatic, zg_invokevirtual, zg_istore, zg_isub, zg_putfield, zg_return, zf_X6_lay, zi_ld, zi_lda, zi_cmp, zi_retOk, zi_isI, zi_f3, zi_cr, zi_ci, zi_cn, g10, g11, c]
set_option maxRecDepth 100000 in
theorem ze_lay_c2 (f m : Int32) (L : zi_Lc) (h : zi_Hp) (D : Nat) (nl : zi_nl L = true) (g10 : zi_get L 10 = some (.int f)) (g12 : zi_get L 12 = some (.int m)) : ze_S D 13 none zc_X6_lay 168 L [] h 184 (zi_set L 10 (.int (zi_mx m f))) [] h := by
  rw [← zi_mx_le]
  by_cases c : m ≤ f
  · rw [if_pos c]
    refine ⟨0, 5, fun F n hF => ?_⟩
    simp [zg_0, zg_aload_n, zg_bipush, zg_dup, zg_getfield, zg_goto, zg_iadd, zg_iaload, zg_iastore, zg_iconst, zg_idiv, zg_ifCond, zg_if_icmp, zg_iload, zg_iload_n, zg_imul, zg_invokestatic, zg_invokevirtual, zg_istore, zg_isub, zg_putfield, zg_return, zf_X6_lay, zi_ld, zi_lda, zi_cmp, zi_retOk, zi_isI, zi_f3, zi_cr, zi_ci, zi_cn, g10, g12, c]
  · rw [if_neg c]
    refine ⟨0, 6, fun F n hF => ?_⟩
    simp [zg_0, zg_aload_n, zg_bipush, zg_dup, zg_getfield, zg_goto, zg_iadd, zg_iaload, zg_iastore, zg_iconst, zg_idiv, zg_ifCond, zg_if_icmp, zg_iload, zg_iload_n, zg_imul, zg_invokestatic, zg_invokevirtual, zg_istore, zg_isub, zg_putfield, zg_return, zf_X6_lay, zi_ld, zi_lda, zi_cmp, zi_retOk, zi_isI, zi_f3, zi_cr, zi_ci, zi_cn, g10, g12, c]
theorem zu_fn_congr {μ ν : zm_M} (h : ∀ c d, c < 255 → c ≠ 231 → ν c d = μ c d) : zu_fm ν τ = zu_fm μ τ ∧ zu_tb ν τ = zu_tb μ τ ∧ ∀ a, a < 2 → zu_lsz ν τ a = zu_lsz μ τ a := by
  have h1 : zu_fm ν τ = zu_fm μ τ := by
    funext n
    unfold zu_fm
    rw [h _ _ (by decide) (by decide)]
  have h2 : zu_tb ν τ = zu_tb μ τ := by
    funext n
    unfold zu_tb
    rw [h _ _ (by decide) (by decide)]
    congr 1
    funext j
    rw [h _ _ (by decide) (by decide)]
  refine ⟨h1, h2, fun a ha => ?_⟩
  funext c
  unfold zu_lsz
  have h3 : zu_lf ν τ a = zu_lf μ τ a := by
    funext n
    unfold zu_lf
    rw [h2]
    congr 1
    funext m w
    rw [h _ _ (by omega) (by omega)]
  rw [h1, h3]
def zu_lay4 (μ : zm_M) (n : Nat) (x y w v : Int32) : zm_M := zm_up (zm_up (zm_up (zm_up μ 255 n x) 256 n y) 257 n w) 258 n v
theorem zu_lay4_P {μ : zm_M} {n : Nat} {x y w v : Int32} : zu_P (zu_lay4 μ n x y w v) n x y w v := by
  unfold zu_lay4
  refine ⟨?_, ?_, ?_, zm_up_eq⟩
  · rw [zm_up_ne (by omega), zm_up_ne (by omega), zm_up_ne (by omega), zm_up_eq]
  · rw [zm_up_ne (by omega), zm_up_ne (by omega), zm_up_eq]
  · rw [zm_up_ne (by omega), zm_up_eq]
theorem zu_lay4_ne {μ : zm_M} {n c d : Nat} {x y w v : Int32} (h : ¬ (255 ≤ c ∧ c ≤ 258 ∧ d = n)) : zu_lay4 μ n x y w v c d = μ c d := by
  unfold zu_lay4
  rw [zm_up_ne (by omega), zm_up_ne (by omega), zm_up_ne (by omega), zm_up_ne (by omega)]
theorem zu_P_ne {μ ν : zm_M} {I : List Nat} {k k' n : Nat} {x y w v : Int32} (h : zu_frY μ ν I k k') (hn : n ∉ I) (p : zu_P μ n x y w v) : zu_P ν n x y w v := by
  obtain ⟨p1, p2, p3, p4⟩ := p
  have e : ∀ c, 255 ≤ c → c ≤ 258 → ν c n = μ c n := fun c h1 h2 => h c n (by omega) (by omega) (fun q => hn q.2.2)
  exact ⟨(e _ (by decide) (by decide)).trans p1, (e _ (by decide) (by decide)).trans p2, (e _ (by decide) (by decide)).trans p3, (e _ (by decide) (by decide)).trans p4⟩
set_option maxRecDepth 100000 in
theorem ze_Mlay (ht : τ < 7) : ∀ c, zy_wf c → ∀ (μ : zm_M) (k D : Nat) (x y w v : Int32), zu_ok μ τ ab c → (zy_ids c).Nodup → (∀ n ∈ zy_ids c, n < 24) → (∀ n ∈ zy_lvs c, zu_T μ τ n (zu_tb μ τ n) ∧ ∀ x ∈ zu_tb μ τ n, x < 10) → μ 231 30 = nI k → k + (zy_lvs c).length ≤ 24 →
    ∃ ν, ze_E (D + 2 + (zy_ids c).length) A_Mod_lay [.ref 232, .int (nI τ), .int (nI (zy_id c)), .int x, .int y, .int w, .int v] (zm_mk μ) none (zm_mk ν) ∧ zy_laid (zu_P ν) (zu_fm μ τ) (fun n => μ 247 (24 * τ + n)) (zu_lsz μ τ 0) (zu_lsz μ τ 1) c x y w v ∧
      ν 231 30 = nI (k + (zy_lvs c).length) ∧ (∀ j, j < (zy_lvs c).length → ν 259 (k + j) = nI ((zy_lvs c).getD j 0)) ∧ zu_frY μ ν (zy_ids c) k (k + (zy_lvs c).length) := by
  apply zy_ind
  · intro n μ k D x y w v ok hd hlt hT hk hle
    have hn : n < 24 := hlt n List.mem_cons_self
    have hle : k + 1 ≤ 24 := hle
    have e1 := zu_fm_leaf (μ := μ) (τ := τ) ok
    obtain ⟨N0, E0⟩ := ze_spot (h := zm_mk μ) (n := n) (D + 1) ht
    have ia : zi_in (nI (24 * τ + n)) 168 = true := zm_in (by omega) (by decide)
    have ca : (nI (24 * τ + n)).toNatClampNeg = 24 * τ + n := nI_clamp (by omega)
    have jn : zi_in (nI n) 24 = true := zm_in hn (by decide)
    have cn : (nI n).toNatClampNeg = n := nI_clamp (by omega)
    have ik : zi_in (nI k) 24 = true := zm_in (by omega) (by decide)
    have ck : (nI k).toNatClampNeg = k := nI_clamp (by omega)
    have e1' : zu_lay4 μ n x y w v 244 (24 * τ + n) = 1 := (zu_lay4_ne (by omega)).trans e1
    have hk' : zu_lay4 μ n x y w v 231 30 = nI k := (zu_lay4_ne (by omega)).trans hk
    have hk2 : zm_up (zu_lay4 μ n x y w v) 259 k (nI n) 231 30 = nI k := (zm_up_ne (by omega)).trans hk'
    obtain ⟨a1, a2, a3⟩ := zu_app_1 (μ := zu_lay4 μ n x y w v) (k := k) (n := n)
    refine ⟨_, ze_in [(0, .ref 232), (1, .int (nI τ)), (2, .int (nI n)), (3, .int x), (4, .int y), (5, .int w), (6, .int v)] zq_Mod_lay (Nat.le_of_ble_eq_true rfl) rfl (ze_S.end (p2 := 38) (L2 := [(7, .int (nI (24 * τ + n))), (0, .ref 232), (1, .int (nI τ)), (2, .int (nI n)), (3, .int x), (4, .int y), (5, .int w), (6, .int v)]) (s2 := []) (h2 := zm_mk (zu_lay4 μ n x y w v)) ⟨N0, 24, fun F m hF => ?_⟩ ⟨0, 19, fun F m hF => ?_⟩), ?_, a1, a2, fun c d h1 h2 h3 => ?_⟩
    · have E0 := E0 F (by omega)
      simp [zg_0, zg_aload_n, zg_bipush, zg_dup, zg_getfield, zg_goto, zg_iadd, zg_iaload, zg_iastore, zg_iconst, zg_idiv, zg_ifCond, zg_if_icmp, zg_iload, zg_iload_n, zg_imul, zg_invokestatic, zg_invokevirtual, zg_istore, zg_isub, zg_putfield, zg_return, zf_X6_lay, zi_ld, zi_lda, zi_cmp, zi_retOk, zi_isI, zi_f3, zi_cr, zi_ci, zi_cn, zi_get, zi_set, zM_g, zq_Mod_spot, E0, zm_iast zM_A255 jn, zm_iast zM_A256 jn, zm_iast zM_A257 jn, zm_iast zM_A258 jn, cn, zu_lay4, zy_ids]
    · simp [zg_0, zg_aload_n, zg_bipush, zg_dup, zg_getfield, zg_goto, zg_iadd, zg_iaload, zg_iastore, zg_iconst, zg_idiv, zg_ifCond, zg_if_icmp, zg_iload, zg_iload_n, zg_imul, zg_invokestatic, zg_invokevirtual, zg_istore, zg_isub, zg_putfield, zg_return, zf_X6_lay, zi_ld, zi_lda, zi_cmp, zi_retOk, zi_isI, zi_f3, zi_cr, zi_ci, zi_cn, zi_get, zi_set, zM_g, zm_iald (k := 0) zM_A244 ia, ca, e1', hk', zm_iast zM_A259 ik, ck, hk2, nI_1, zM_p30]
    · show zu_P _ n x y w v
      obtain ⟨p1, p2, p3, p4⟩ := zu_lay4_P (μ := μ) (n := n) (x := x) (y := y) (w := w) (v := v)
      exact ⟨(a3 _ _ (by omega) (by omega)).trans p1, (a3 _ _ (by omega) (by omega)).trans p2, (a3 _ _ (by omega) (by omega)).trans p3, (a3 _ _ (by omega) (by omega)).trans p4⟩
    · rw [a3 c d h1 h2, zu_lay4_ne (fun q => h3 ⟨q.1, q.2.1, List.mem_singleton.mpr q.2.2⟩)]
  · intro n a b wa wb iha ihb μ k D x y w v ok hd hlt hT hk hle
    obtain ⟨⟨q1, q2, q3, -, -⟩, oka, okb⟩ := ok
    have q2 : μ 245 (24 * τ + n) = nI (zy_id a) := q2
    have q3 : μ 246 (24 * τ + n) = nI (zy_id b) := q3
    have hd' : (n :: (zy_ids a ++ zy_ids b)).Nodup := hd
    obtain ⟨hnn, hd2⟩ := List.nodup_cons.mp hd'
    obtain ⟨da, db, dis⟩ := List.nodup_append.mp hd2
    have hna : n ∉ zy_ids a := fun h => hnn (List.mem_append_left _ h)
    have hnb : n ∉ zy_ids b := fun h => hnn (List.mem_append_right _ h)
    have hn : n < 24 := hlt n List.mem_cons_self
    have lta : ∀ m ∈ zy_ids a, m < 24 := fun m hm => hlt m (List.mem_cons_of_mem _ (List.mem_append_left _ hm))
    have ltb : ∀ m ∈ zy_ids b, m < 24 := fun m hm => hlt m (List.mem_cons_of_mem _ (List.mem_append_right _ hm))
    have Ta : ∀ m ∈ zy_lvs a, zu_T μ τ m (zu_tb μ τ m) ∧ ∀ x ∈ zu_tb μ τ m, x < 10 := fun m hm => hT m (List.mem_append_left _ hm)
    have Tb : ∀ m ∈ zy_lvs b, zu_T μ τ m (zu_tb μ τ m) ∧ ∀ x ∈ zu_tb μ τ m, x < 10 := fun m hm => hT m (List.mem_append_right _ hm)
    have ev : zy_lvs (.append (.tag n a) b) = zy_lvs a ++ zy_lvs b := rfl
    rw [ev, List.length_append] at hle
    have el : (zy_ids (.append (.tag n a) b)).length = (zy_ids a).length + (zy_ids b).length + 1 := by
      show (n :: (zy_ids a ++ zy_ids b)).length = _
      rw [List.length_cons, List.length_append]
    let M := zu_lay4 μ n x y w v
    have hM : ∀ c d, c < 255 → M c d = μ c d := fun c d hc => zu_lay4_ne (by omega)
    obtain ⟨F1, F2, F3⟩ := zu_fn_congr (τ := τ) (fun c d hc _ => hM c d hc)
    have TM : ∀ m, zu_T μ τ m (zu_tb μ τ m) → zu_T M τ m (zu_tb M τ m) := fun m ⟨t0, t1, t2⟩ => by
      rw [F2]
      exact ⟨t0, (hM _ _ (by decide)).trans t1, fun j hj => (hM _ _ (by decide)).trans (t2 j hj)⟩
    have okMa := zu_ok_cells (τ := τ) (ν := M) wa da (fun c d hc => hM c d (by omega)) oka
    have okMb := zu_ok_cells (τ := τ) (ν := M) wb db (fun c d hc => hM c d (by omega)) okb
    obtain ⟨N0, E0⟩ := ze_spot (h := zm_mk μ) (n := n) (D + 1 + (zy_ids a).length + (zy_ids b).length) ht
    have ia : zi_in (nI (24 * τ + n)) 168 = true := zm_in (by omega) (by decide)
    have ca : (nI (24 * τ + n)).toNatClampNeg = 24 * τ + n := nI_clamp (by omega)
    have jn : zi_in (nI n) 24 = true := zm_in hn (by decide)
    have cn : (nI n).toNatClampNeg = n := nI_clamp (by omega)
    have h100 : (Int8.ofInt 100).toInt32 = (100 : Int32) := by decide
    have m5 : M 245 (24 * τ + n) = nI (zy_id a) := (hM _ _ (by decide)).trans q2
    have m6 : M 246 (24 * τ + n) = nI (zy_id b) := (hM _ _ (by decide)).trans q3
    have m7 : M 247 (24 * τ + n) = μ 247 (24 * τ + n) := hM _ _ (by decide)
    have hkM : M 231 30 = nI k := (hM _ _ (by decide)).trans hk
    obtain ⟨lm, cm⟩ := zM_c (μ := M)
    have Sa : ze_S (D + 2 + (zy_ids a).length + (zy_ids b).length) 13 none zc_X6_lay 0 [(0, .ref 232), (1, .int (nI τ)), (2, .int (nI n)), (3, .int x), (4, .int y), (5, .int w), (6, .int v)] [] (zm_mk μ) 38 [(7, .int (nI (24 * τ + n))), (0, .ref 232), (1, .int (nI τ)), (2, .int (nI n)), (3, .int x), (4, .int y), (5, .int w), (6, .int v)] [] (zm_mk M) := by
      refine ⟨N0, 24, fun F m hF => ?_⟩
      have E0 := E0 F (by omega)
      rw [show D + 1 + (zy_ids a).length + (zy_ids b).length + 1 = D + 2 + (zy_ids a).length + (zy_ids b).length by omega] at E0
      simp [zg_0, zg_aload_n, zg_bipush, zg_dup, zg_getfield, zg_goto, zg_iadd, zg_iaload, zg_iastore, zg_iconst, zg_idiv, zg_ifCond, zg_if_icmp, zg_iload, zg_iload_n, zg_imul, zg_invokestatic, zg_invokevirtual, zg_istore, zg_isub, zg_putfield, zg_return, zf_X6_lay, zi_ld, zi_lda, zi_cmp, zi_retOk, zi_isI, zi_f3, zi_cr, zi_ci, zi_cn, zi_get, zi_set, zM_g, zq_Mod_spot, E0, zm_iast zM_A255 jn, zm_iast zM_A256 jn, zm_iast zM_A257 jn, zm_iast zM_A258 jn, cn, show zu_lay4 μ n x y w v = M from rfl]
      rfl
    rw [el, show D + 2 + ((zy_ids a).length + (zy_ids b).length + 1) = D + 2 + (zy_ids a).length + (zy_ids b).length + 1 by omega]
    -- the two trees below, one after the other
    have both : ∀ (x1 y1 w1 v1 x2 y2 w2 v2 : Int32), ∃ ν ξ, ze_E (D + 2 + (zy_ids a).length + (zy_ids b).length) A_Mod_lay [.ref 232, .int (nI τ), .int (nI (zy_id a)), .int x1, .int y1, .int w1, .int v1] (zm_mk M) none (zm_mk ν) ∧ ze_E (D + 2 + (zy_ids a).length + (zy_ids b).length) A_Mod_lay [.ref 232, .int (nI τ), .int (nI (zy_id b)), .int x2, .int y2, .int w2, .int v2] (zm_mk ν) none (zm_mk ξ) ∧ ν 246 (24 * τ + n) = nI (zy_id b) ∧
        zu_P ξ n x y w v ∧ zy_laid (zu_P ξ) (zu_fm μ τ) (fun n => μ 247 (24 * τ + n)) (zu_lsz μ τ 0) (zu_lsz μ τ 1) a x1 y1 w1 v1 ∧ zy_laid (zu_P ξ) (zu_fm μ τ) (fun n => μ 247 (24 * τ + n)) (zu_lsz μ τ 0) (zu_lsz μ τ 1) b x2 y2 w2 v2 ∧ ξ 231 30 = nI (k + (zy_lvs a ++ zy_lvs b).length) ∧ (∀ j, j < (zy_lvs a ++ zy_lvs b).length → ξ 259 (k + j) = nI ((zy_lvs a ++ zy_lvs b).getD j 0)) ∧ zu_frY μ ξ (n :: (zy_ids a ++ zy_ids b)) k (k + (zy_lvs a ++ zy_lvs b).length) := by
      intro x1 y1 w1 v1 x2 y2 w2 v2
      obtain ⟨ν, E1, L1, A1, B1, f1⟩ := iha M k (D + (zy_ids b).length) x1 y1 w1 v1 okMa da lta (fun m hm => ⟨TM m (Ta m hm).1, by rw [F2]; exact (Ta m hm).2⟩) hkM (by omega)
      have hN : ∀ c d, c < 255 → c ≠ 231 → ν c d = μ c d := fun c d hc h2 => (f1.tree hc h2).trans (hM c d hc)
      obtain ⟨G1, G2, G3⟩ := zu_fn_congr (τ := τ) hN
      obtain ⟨ξ, E2, L2, A2, B2, f2⟩ := ihb ν (k + (zy_lvs a).length) (D + (zy_ids a).length) x2 y2 w2 v2 (zu_ok_cells wb db (fun c d hc => hN c d (by omega) (by omega)) okb) db ltb (fun m hm => ⟨by
        obtain ⟨t0, t1, t2⟩ := (Tb m hm).1
        rw [G2]
        exact ⟨t0, (hN _ _ (by decide) (by decide)).trans t1, fun j hj => (hN _ _ (by decide) (by decide)).trans (t2 j hj)⟩, by rw [G2]; exact (Tb m hm).2⟩) A1 (by omega)
      rw [F1, F3 0 (by decide), F3 1 (by decide), show (fun n => M 247 (24 * τ + n)) = (fun n => μ 247 (24 * τ + n)) from funext fun m => hM _ _ (by decide)] at L1
      rw [G1, G3 0 (by decide), G3 1 (by decide), show (fun n => ν 247 (24 * τ + n)) = (fun n => μ 247 (24 * τ + n)) from funext fun m => hN _ _ (by decide) (by decide)] at L2
      rw [show D + (zy_ids b).length + 2 + (zy_ids a).length = D + 2 + (zy_ids a).length + (zy_ids b).length by omega] at E1
      rw [show D + (zy_ids a).length + 2 + (zy_ids b).length = D + 2 + (zy_ids a).length + (zy_ids b).length by omega] at E2
      refine ⟨ν, ξ, E1, E2, (hN _ _ (by decide) (by decide)).trans q3, zu_P_ne f2 hnb (zu_P_ne f1 hna zu_lay4_P), zy_laid_mono a wa x1 y1 w1 v1 (fun m hm x y w v p => zu_P_ne f2 (fun h => dis m hm m h rfl) p) L1, L2, ?_, fun j hj => ?_, fun c d h1 h2 h3 => ?_⟩
      · rw [A2, List.length_append, Nat.add_assoc]
      · rw [List.length_append] at hj
        by_cases e : j < (zy_lvs a).length
        · rw [f2 _ _ (by omega) (by omega) (by omega), zl_getD_l e]
          exact B1 j e
        · rw [zl_getD_r (by omega)]
          have := B2 (j - (zy_lvs a).length) (by omega)
          rw [show k + (zy_lvs a).length + (j - (zy_lvs a).length) = k + j by omega] at this
          exact this
      · rw [List.length_append] at h2
        rw [f2 c d h1 (by omega) (fun q => h3 ⟨q.1, q.2.1, List.mem_cons_of_mem _ (List.mem_append_right _ q.2.2)⟩), f1 c d h1 (by omega) (fun q => h3 ⟨q.1, q.2.1, List.mem_cons_of_mem _ (List.mem_append_left _ q.2.2)⟩), show M c d = μ c d from zu_lay4_ne (fun q => h3 ⟨q.1, q.2.1, by rw [q.2.2]; exact List.mem_cons_self⟩)]
    have hN1 : (1 : Int32) = nI 1 := rfl
    rcases zu_fm_cut q1 with ⟨f0, e4⟩ | ⟨f0, e4⟩
    · have e4M : M 244 (24 * τ + n) = 2 := (hM _ _ (by decide)).trans e4
      obtain ⟨ν, ξ, E1, E2, n6, P0, LA, LB, z1, z2, z3⟩ := both x y (zy_fp w (μ 247 (24 * τ + n)) (zu_lsz μ τ 0 a) (zu_lsz μ τ 0 b)) v (x + zy_fp w (μ 247 (24 * τ + n)) (zu_lsz μ τ 0 a) (zu_lsz μ τ 0 b)) y (w - zy_fp w (μ 247 (24 * τ + n)) (zu_lsz μ τ 0 a) (zu_lsz μ τ 0 b)) v
      have El := ze_Mleast (μ := M) ht (a := 0) (by decide) a wa okMa lta (fun m hm => ⟨TM m (Ta m hm).1, by rw [F2]; exact (Ta m hm).2⟩) (D + 1 + (zy_ids b).length)
      have Er := ze_Mleast (μ := M) ht (a := 0) (by decide) b wb okMb ltb (fun m hm => ⟨TM m (Tb m hm).1, by rw [F2]; exact (Tb m hm).2⟩) (D + 1 + (zy_ids a).length)
      rw [show D + 1 + (zy_ids b).length + 1 + (zy_ids a).length = D + 2 + (zy_ids a).length + (zy_ids b).length by omega, show zy_ls 0 (zu_fm M τ) (zu_lf M τ 0) a = zu_lsz μ τ 0 a from congrFun (F3 0 (by decide)) a, show nI (1 - 0) = 1 from rfl] at El
      rw [show D + 1 + (zy_ids a).length + 1 + (zy_ids b).length = D + 2 + (zy_ids a).length + (zy_ids b).length by omega, show zy_ls 0 (zu_fm M τ) (zu_lf M τ 0) b = zu_lsz μ τ 0 b from congrFun (F3 0 (by decide)) b, show nI (1 - 0) = 1 from rfl] at Er
      refine ⟨ξ, ?_, ⟨P0, ?_⟩, z1, z2, z3⟩
      · show ze_E _ A_Mod_lay [.ref 232, .int (nI τ), .int (nI n), .int x, .int y, .int w, .int v] _ _ _
        have efp : zy_fp w (μ 247 (24 * τ + n)) (zu_lsz μ τ 0 a) (zu_lsz μ τ 0 b) = zi_mx (zu_lsz μ τ 0 a) (zi_mn (w * μ 247 (24 * τ + n) / 100) (w - zu_lsz μ τ 0 b)) := rfl
        rw [efp] at E1 E2
        generalize zu_lsz μ τ 0 a = p at El E1 E2
        generalize zu_lsz μ τ 0 b = q at Er E1 E2
        generalize μ 247 (24 * τ + n) = sh at m7 E1 E2
        obtain ⟨N1, El⟩ := El
        obtain ⟨N2, Er⟩ := Er
        have Sb : ze_S (D + 2 + (zy_ids a).length + (zy_ids b).length) 13 none zc_X6_lay 38 [(7, .int (nI (24 * τ + n))), (0, .ref 232), (1, .int (nI τ)), (2, .int (nI n)), (3, .int x), (4, .int y), (5, .int w), (6, .int v)] [] (zm_mk M) 133 [(10, .int (w * sh / 100)), (9, .int w), (8, .int 1), (7, .int (nI (24 * τ + n))), (0, .ref 232), (1, .int (nI τ)), (2, .int (nI n)), (3, .int x), (4, .int y), (5, .int w), (6, .int v)] [.int q, .int w] (zm_mk M) := by
          refine ⟨N2, 38, fun F m hF => ?_⟩
          simp [zg_0, zg_aload_n, zg_bipush, zg_dup, zg_getfield, zg_goto, zg_iadd, zg_iaload, zg_iastore, zg_iconst, zg_idiv, zg_ifCond, zg_if_icmp, zg_iload, zg_iload_n, zg_imul, zg_invokestatic, zg_invokevirtual, zg_istore, zg_isub, zg_putfield, zg_return, zf_X6_lay, zi_ld, zi_lda, zi_cmp, zi_retOk, zi_isI, zi_f3, zi_cr, zi_ci, zi_cn, zi_get, zi_set, zM_g, zm_iald (k := 0) zM_A244 ia, zm_iald (k := 0) zM_A246 ia, zm_iald (k := 0) zM_A247 ia, ca, e4M, m6, m7, h100, zq_Mod_least, cm, Er F (by omega)]
        have Sc := ze_lay_m w q [(10, .int (w * sh / 100)), (9, .int w), (8, .int 1), (7, .int (nI (24 * τ + n))), (0, .ref 232), (1, .int (nI τ)), (2, .int (nI n)), (3, .int x), (4, .int y), (5, .int w), (6, .int v)] [] (zm_mk M) (D + 2 + (zy_ids a).length + (zy_ids b).length) rfl
        generalize w - q = ms at Sc E1 E2
        generalize w * sh / 100 = f1 at Sb Sc E1 E2
        have S1 := (Sa.trans Sb).trans Sc
        have nl : zi_nl (zi_set [(10, .int f1), (9, .int w), (8, .int 1), (7, .int (nI (24 * τ + n))), (0, .ref 232), (1, .int (nI τ)), (2, .int (nI n)), (3, .int x), (4, .int y), (5, .int w), (6, .int v)] 11 (.int ms)) = true := rfl
        have g0 : zi_get (zi_set [(10, .int f1), (9, .int w), (8, .int 1), (7, .int (nI (24 * τ + n))), (0, .ref 232), (1, .int (nI τ)), (2, .int (nI n)), (3, .int x), (4, .int y), (5, .int w), (6, .int v)] 11 (.int ms)) 0 = some (.ref 232) := rfl
        have g1 : zi_get (zi_set [(10, .int f1), (9, .int w), (8, .int 1), (7, .int (nI (24 * τ + n))), (0, .ref 232), (1, .int (nI τ)), (2, .int (nI n)), (3, .int x), (4, .int y), (5, .int w), (6, .int v)] 11 (.int ms)) 1 = some (.int (nI τ)) := rfl
        have g3 : zi_get (zi_set [(10, .int f1), (9, .int w), (8, .int 1), (7, .int (nI (24 * τ + n))), (0, .ref 232), (1, .int (nI τ)), (2, .int (nI n)), (3, .int x), (4, .int y), (5, .int w), (6, .int v)] 11 (.int ms)) 3 = some (.int x) := rfl
        have g4 : zi_get (zi_set [(10, .int f1), (9, .int w), (8, .int 1), (7, .int (nI (24 * τ + n))), (0, .ref 232), (1, .int (nI τ)), (2, .int (nI n)), (3, .int x), (4, .int y), (5, .int w), (6, .int v)] 11 (.int ms)) 4 = some (.int y) := rfl
        have g5 : zi_get (zi_set [(10, .int f1), (9, .int w), (8, .int 1), (7, .int (nI (24 * τ + n))), (0, .ref 232), (1, .int (nI τ)), (2, .int (nI n)), (3, .int x), (4, .int y), (5, .int w), (6, .int v)] 11 (.int ms)) 5 = some (.int w) := rfl
        have g6 : zi_get (zi_set [(10, .int f1), (9, .int w), (8, .int 1), (7, .int (nI (24 * τ + n))), (0, .ref 232), (1, .int (nI τ)), (2, .int (nI n)), (3, .int x), (4, .int y), (5, .int w), (6, .int v)] 11 (.int ms)) 6 = some (.int v) := rfl
        have g7 : zi_get (zi_set [(10, .int f1), (9, .int w), (8, .int 1), (7, .int (nI (24 * τ + n))), (0, .ref 232), (1, .int (nI τ)), (2, .int (nI n)), (3, .int x), (4, .int y), (5, .int w), (6, .int v)] 11 (.int ms)) 7 = some (.int (nI (24 * τ + n))) := rfl
        have g8 : zi_get (zi_set [(10, .int f1), (9, .int w), (8, .int 1), (7, .int (nI (24 * τ + n))), (0, .ref 232), (1, .int (nI τ)), (2, .int (nI n)), (3, .int x), (4, .int y), (5, .int w), (6, .int v)] 11 (.int ms)) 8 = some (.int 1) := rfl
        have g10 : zi_get (zi_set [(10, .int f1), (9, .int w), (8, .int 1), (7, .int (nI (24 * τ + n))), (0, .ref 232), (1, .int (nI τ)), (2, .int (nI n)), (3, .int x), (4, .int y), (5, .int w), (6, .int v)] 11 (.int ms)) 10 = some (.int f1) := rfl
        have g11 : zi_get (zi_set [(10, .int f1), (9, .int w), (8, .int 1), (7, .int (nI (24 * τ + n))), (0, .ref 232), (1, .int (nI τ)), (2, .int (nI n)), (3, .int x), (4, .int y), (5, .int w), (6, .int v)] 11 (.int ms)) 11 = some (.int ms) := zi_get_set_eq
        generalize zi_set [(10, .int f1), (9, .int w), (8, .int 1), (7, .int (nI (24 * τ + n))), (0, .ref 232), (1, .int (nI τ)), (2, .int (nI n)), (3, .int x), (4, .int y), (5, .int w), (6, .int v)] 11 (.int ms) = L at S1 nl g0 g1 g3 g4 g5 g6 g7 g8 g10 g11
        have Sd : ze_S (D + 2 + (zy_ids a).length + (zy_ids b).length) 13 none zc_X6_lay 136 L [] (zm_mk M) 152 (zi_set L 12 (.int p)) [] (zm_mk M) := by
          refine ⟨N1, 9, fun F m hF => ?_⟩
          simp (maxDischargeDepth := 9) [zg_0, zg_aload_n, zg_bipush, zg_dup, zg_getfield, zg_goto, zg_iadd, zg_iaload, zg_iastore, zg_iconst, zg_idiv, zg_ifCond, zg_if_icmp, zg_iload, zg_iload_n, zg_imul, zg_invokestatic, zg_invokevirtual, zg_istore, zg_isub, zg_putfield, zg_return, zf_X6_lay, zi_ld, zi_lda, zi_cmp, zi_retOk, zi_isI, zi_f3, zi_cr, zi_ci, zi_cn, zi_get_ne, zi_nl_i, zi_nl_r, zi_get_set_eq, nl, g0, g1, g7, g8, zM_g, zm_iald (k := 0) zM_A245 ia, ca, m5, zq_Mod_least, cm, El F (by omega)]
        have nl2 : zi_nl (zi_set L 12 (.int p)) = true := by simp (maxDischargeDepth := 9) [zi_get_ne, zi_nl_i, zi_nl_r, zi_get_set_eq, nl]
        have h10 : zi_get (zi_set L 12 (.int p)) 10 = some (.int f1) := by simp (maxDischargeDepth := 9) [zi_get_ne, zi_nl_i, zi_nl_r, zi_get_set_eq, nl, g10]
        have h11 : zi_get (zi_set L 12 (.int p)) 11 = some (.int ms) := by simp (maxDischargeDepth := 9) [zi_get_ne, zi_nl_i, zi_nl_r, zi_get_set_eq, nl, g11]
        have Se := ze_lay_c1 f1 ms (zi_set L 12 (.int p)) (zm_mk M) (D + 2 + (zy_ids a).length + (zy_ids b).length) nl2 h10 h11
        have nl3 : zi_nl (zi_set (zi_set L 12 (.int p)) 10 (.int (zi_mn f1 ms))) = true := by simp (maxDischargeDepth := 9) [zi_get_ne, zi_nl_i, zi_nl_r, zi_get_set_eq, nl]
        have Sf := ze_lay_c2 (zi_mn f1 ms) p (zi_set (zi_set L 12 (.int p)) 10 (.int (zi_mn f1 ms))) (zm_mk M) (D + 2 + (zy_ids a).length + (zy_ids b).length) nl3 zi_get_set_eq (by rw [zi_get_ne nl2 (by decide)]; exact zi_get_set_eq)
        generalize hf : zi_mx p (zi_mn f1 ms) = f at Sf E1 E2
        have S2 := ((S1.trans Sd).trans Se).trans Sf
        have nl4 : zi_nl (zi_set (zi_set (zi_set L 12 (.int p)) 10 (.int (zi_mn f1 ms))) 10 (.int f)) = true := by simp (maxDischargeDepth := 9) [zi_get_ne, zi_nl_i, zi_nl_r, zi_get_set_eq, nl]
        have gg : ∀ j, j ≠ 12 → j ≠ 10 → zi_get (zi_set (zi_set (zi_set L 12 (.int p)) 10 (.int (zi_mn f1 ms))) 10 (.int f)) j = zi_get L j := fun j h1 h2 => by rw [zi_get_ne nl3 h2, zi_get_ne nl2 h2, zi_get_ne nl h1]
        have k10 : zi_get (zi_set (zi_set (zi_set L 12 (.int p)) 10 (.int (zi_mn f1 ms))) 10 (.int f)) 10 = some (.int f) := zi_get_set_eq
        generalize zi_set (zi_set (zi_set L 12 (.int p)) 10 (.int (zi_mn f1 ms))) 10 (.int f) = L5 at S2 nl4 gg k10
        have k0 := (gg 0 (by decide) (by decide)).trans g0
        have k1 := (gg 1 (by decide) (by decide)).trans g1
        have k3 := (gg 3 (by decide) (by decide)).trans g3
        have k4 := (gg 4 (by decide) (by decide)).trans g4
        have k5 := (gg 5 (by decide) (by decide)).trans g5
        have k6 := (gg 6 (by decide) (by decide)).trans g6
        have k7 := (gg 7 (by decide) (by decide)).trans g7
        have k8 := (gg 8 (by decide) (by decide)).trans g8
        obtain ⟨N3, E1⟩ := E1
        obtain ⟨N4, E2⟩ := E2
        obtain ⟨ln, cn2⟩ := zM_c (μ := ν)
        have Sg : ze_S (D + 2 + (zy_ids a).length + (zy_ids b).length) 13 none zc_X6_lay 184 L5 [] (zm_mk M) 227 L5 [.int f, .int w, .int y, .int (x + f), .int (nI (zy_id b)), .int (nI τ), .ref 232] (zm_mk ν) := by
          refine ⟨N3, 25, fun F m hF => ?_⟩
          simp [zg_0, zg_aload_n, zg_bipush, zg_dup, zg_getfield, zg_goto, zg_iadd, zg_iaload, zg_iastore, zg_iconst, zg_idiv, zg_ifCond, zg_if_icmp, zg_iload, zg_iload_n, zg_imul, zg_invokestatic, zg_invokevirtual, zg_istore, zg_isub, zg_putfield, zg_return, zf_X6_lay, zi_ld, zi_lda, zi_cmp, zi_retOk, zi_isI, zi_f3, zi_cr, zi_ci, zi_cn, k0, k1, k3, k4, k5, k6, k7, k8, k10, zM_g, zm_iald (k := 0) zM_A245 ia, zm_iald (k := 0) zM_A246 ia, ca, m5, n6, zq_Mod_lay, cm, E1 F (by omega)]
        have Sh := ze_lay_s w f L5 [.int y, .int (x + f), .int (nI (zy_id b)), .int (nI τ), .ref 232] (zm_mk ν) (D + 2 + (zy_ids a).length + (zy_ids b).length)
        generalize w - f = r at Sh E2
        refine ze_in [(0, .ref 232), (1, .int (nI τ)), (2, .int (nI n)), (3, .int x), (4, .int y), (5, .int w), (6, .int v)] zq_Mod_lay (Nat.le_of_ble_eq_true rfl) rfl (((S2.trans Sg).trans Sh).end ⟨N4, 4, fun F m hF => ?_⟩)
        simp [zg_0, zg_aload_n, zg_bipush, zg_dup, zg_getfield, zg_goto, zg_iadd, zg_iaload, zg_iastore, zg_iconst, zg_idiv, zg_ifCond, zg_if_icmp, zg_iload, zg_iload_n, zg_imul, zg_invokestatic, zg_invokevirtual, zg_istore, zg_isub, zg_putfield, zg_return, zf_X6_lay, zi_ld, zi_lda, zi_cmp, zi_retOk, zi_isI, zi_f3, zi_cr, zi_ci, zi_cn, k6, zq_Mod_lay, cn2, E2 F (by omega)]
      · rw [if_pos f0]
        exact ⟨LA, LB⟩
    · have e4M : M 244 (24 * τ + n) = 3 := (hM _ _ (by decide)).trans e4
      obtain ⟨ν, ξ, E1, E2, n6, P0, LA, LB, z1, z2, z3⟩ := both x y w (zy_fp v (μ 247 (24 * τ + n)) (zu_lsz μ τ 1 a) (zu_lsz μ τ 1 b)) x (y + zy_fp v (μ 247 (24 * τ + n)) (zu_lsz μ τ 1 a) (zu_lsz μ τ 1 b)) w (v - zy_fp v (μ 247 (24 * τ + n)) (zu_lsz μ τ 1 a) (zu_lsz μ τ 1 b))
      have El := ze_Mleast (μ := M) ht (a := 1) (by decide) a wa okMa lta (fun m hm => ⟨TM m (Ta m hm).1, by rw [F2]; exact (Ta m hm).2⟩) (D + 1 + (zy_ids b).length)
      have Er := ze_Mleast (μ := M) ht (a := 1) (by decide) b wb okMb ltb (fun m hm => ⟨TM m (Tb m hm).1, by rw [F2]; exact (Tb m hm).2⟩) (D + 1 + (zy_ids a).length)
      rw [show D + 1 + (zy_ids b).length + 1 + (zy_ids a).length = D + 2 + (zy_ids a).length + (zy_ids b).length by omega, show zy_ls 1 (zu_fm M τ) (zu_lf M τ 1) a = zu_lsz μ τ 1 a from congrFun (F3 1 (by decide)) a, show nI (1 - 1) = 0 from rfl] at El
      rw [show D + 1 + (zy_ids a).length + 1 + (zy_ids b).length = D + 2 + (zy_ids a).length + (zy_ids b).length by omega, show zy_ls 1 (zu_fm M τ) (zu_lf M τ 1) b = zu_lsz μ τ 1 b from congrFun (F3 1 (by decide)) b, show nI (1 - 1) = 0 from rfl] at Er
      refine ⟨ξ, ?_, ⟨P0, ?_⟩, z1, z2, z3⟩
      · show ze_E _ A_Mod_lay [.ref 232, .int (nI τ), .int (nI n), .int x, .int y, .int w, .int v] _ _ _
        have efp : zy_fp v (μ 247 (24 * τ + n)) (zu_lsz μ τ 1 a) (zu_lsz μ τ 1 b) = zi_mx (zu_lsz μ τ 1 a) (zi_mn (v * μ 247 (24 * τ + n) / 100) (v - zu_lsz μ τ 1 b)) := rfl
        rw [efp] at E1 E2
        generalize zu_lsz μ τ 1 a = p at El E1 E2
        generalize zu_lsz μ τ 1 b = q at Er E1 E2
        generalize μ 247 (24 * τ + n) = sh at m7 E1 E2
        obtain ⟨N1, El⟩ := El
        obtain ⟨N2, Er⟩ := Er
        have Sb : ze_S (D + 2 + (zy_ids a).length + (zy_ids b).length) 13 none zc_X6_lay 38 [(7, .int (nI (24 * τ + n))), (0, .ref 232), (1, .int (nI τ)), (2, .int (nI n)), (3, .int x), (4, .int y), (5, .int w), (6, .int v)] [] (zm_mk M) 133 [(10, .int (v * sh / 100)), (9, .int v), (8, .int 0), (7, .int (nI (24 * τ + n))), (0, .ref 232), (1, .int (nI τ)), (2, .int (nI n)), (3, .int x), (4, .int y), (5, .int w), (6, .int v)] [.int q, .int v] (zm_mk M) := by
          refine ⟨N2, 36, fun F m hF => ?_⟩
          simp [zg_0, zg_aload_n, zg_bipush, zg_dup, zg_getfield, zg_goto, zg_iadd, zg_iaload, zg_iastore, zg_iconst, zg_idiv, zg_ifCond, zg_if_icmp, zg_iload, zg_iload_n, zg_imul, zg_invokestatic, zg_invokevirtual, zg_istore, zg_isub, zg_putfield, zg_return, zf_X6_lay, zi_ld, zi_lda, zi_cmp, zi_retOk, zi_isI, zi_f3, zi_cr, zi_ci, zi_cn, zi_get, zi_set, zM_g, zm_iald (k := 0) zM_A244 ia, zm_iald (k := 0) zM_A246 ia, zm_iald (k := 0) zM_A247 ia, ca, e4M, m6, m7, h100, zq_Mod_least, cm, Er F (by omega)]
        have Sc := ze_lay_m v q [(10, .int (v * sh / 100)), (9, .int v), (8, .int 0), (7, .int (nI (24 * τ + n))), (0, .ref 232), (1, .int (nI τ)), (2, .int (nI n)), (3, .int x), (4, .int y), (5, .int w), (6, .int v)] [] (zm_mk M) (D + 2 + (zy_ids a).length + (zy_ids b).length) rfl
        generalize v - q = ms at Sc E1 E2
        generalize v * sh / 100 = f1 at Sb Sc E1 E2
        have S1 := (Sa.trans Sb).trans Sc
        have nl : zi_nl (zi_set [(10, .int f1), (9, .int v), (8, .int 0), (7, .int (nI (24 * τ + n))), (0, .ref 232), (1, .int (nI τ)), (2, .int (nI n)), (3, .int x), (4, .int y), (5, .int w), (6, .int v)] 11 (.int ms)) = true := rfl
        have g0 : zi_get (zi_set [(10, .int f1), (9, .int v), (8, .int 0), (7, .int (nI (24 * τ + n))), (0, .ref 232), (1, .int (nI τ)), (2, .int (nI n)), (3, .int x), (4, .int y), (5, .int w), (6, .int v)] 11 (.int ms)) 0 = some (.ref 232) := rfl
        have g1 : zi_get (zi_set [(10, .int f1), (9, .int v), (8, .int 0), (7, .int (nI (24 * τ + n))), (0, .ref 232), (1, .int (nI τ)), (2, .int (nI n)), (3, .int x), (4, .int y), (5, .int w), (6, .int v)] 11 (.int ms)) 1 = some (.int (nI τ)) := rfl
        have g3 : zi_get (zi_set [(10, .int f1), (9, .int v), (8, .int 0), (7, .int (nI (24 * τ + n))), (0, .ref 232), (1, .int (nI τ)), (2, .int (nI n)), (3, .int x), (4, .int y), (5, .int w), (6, .int v)] 11 (.int ms)) 3 = some (.int x) := rfl
        have g4 : zi_get (zi_set [(10, .int f1), (9, .int v), (8, .int 0), (7, .int (nI (24 * τ + n))), (0, .ref 232), (1, .int (nI τ)), (2, .int (nI n)), (3, .int x), (4, .int y), (5, .int w), (6, .int v)] 11 (.int ms)) 4 = some (.int y) := rfl
        have g5 : zi_get (zi_set [(10, .int f1), (9, .int v), (8, .int 0), (7, .int (nI (24 * τ + n))), (0, .ref 232), (1, .int (nI τ)), (2, .int (nI n)), (3, .int x), (4, .int y), (5, .int w), (6, .int v)] 11 (.int ms)) 5 = some (.int w) := rfl
        have g6 : zi_get (zi_set [(10, .int f1), (9, .int v), (8, .int 0), (7, .int (nI (24 * τ + n))), (0, .ref 232), (1, .int (nI τ)), (2, .int (nI n)), (3, .int x), (4, .int y), (5, .int w), (6, .int v)] 11 (.int ms)) 6 = some (.int v) := rfl
        have g7 : zi_get (zi_set [(10, .int f1), (9, .int v), (8, .int 0), (7, .int (nI (24 * τ + n))), (0, .ref 232), (1, .int (nI τ)), (2, .int (nI n)), (3, .int x), (4, .int y), (5, .int w), (6, .int v)] 11 (.int ms)) 7 = some (.int (nI (24 * τ + n))) := rfl
        have g8 : zi_get (zi_set [(10, .int f1), (9, .int v), (8, .int 0), (7, .int (nI (24 * τ + n))), (0, .ref 232), (1, .int (nI τ)), (2, .int (nI n)), (3, .int x), (4, .int y), (5, .int w), (6, .int v)] 11 (.int ms)) 8 = some (.int 0) := rfl
        have g10 : zi_get (zi_set [(10, .int f1), (9, .int v), (8, .int 0), (7, .int (nI (24 * τ + n))), (0, .ref 232), (1, .int (nI τ)), (2, .int (nI n)), (3, .int x), (4, .int y), (5, .int w), (6, .int v)] 11 (.int ms)) 10 = some (.int f1) := rfl
        have g11 : zi_get (zi_set [(10, .int f1), (9, .int v), (8, .int 0), (7, .int (nI (24 * τ + n))), (0, .ref 232), (1, .int (nI τ)), (2, .int (nI n)), (3, .int x), (4, .int y), (5, .int w), (6, .int v)] 11 (.int ms)) 11 = some (.int ms) := zi_get_set_eq
        generalize zi_set [(10, .int f1), (9, .int v), (8, .int 0), (7, .int (nI (24 * τ + n))), (0, .ref 232), (1, .int (nI τ)), (2, .int (nI n)), (3, .int x), (4, .int y), (5, .int w), (6, .int v)] 11 (.int ms) = L at S1 nl g0 g1 g3 g4 g5 g6 g7 g8 g10 g11
        have Sd : ze_S (D + 2 + (zy_ids a).length + (zy_ids b).length) 13 none zc_X6_lay 136 L [] (zm_mk M) 152 (zi_set L 12 (.int p)) [] (zm_mk M) := by
          refine ⟨N1, 9, fun F m hF => ?_⟩
          simp (maxDischargeDepth := 9) [zg_0, zg_aload_n, zg_bipush, zg_dup, zg_getfield, zg_goto, zg_iadd, zg_iaload, zg_iastore, zg_iconst, zg_idiv, zg_ifCond, zg_if_icmp, zg_iload, zg_iload_n, zg_imul, zg_invokestatic, zg_invokevirtual, zg_istore, zg_isub, zg_putfield, zg_return, zf_X6_lay, zi_ld, zi_lda, zi_cmp, zi_retOk, zi_isI, zi_f3, zi_cr, zi_ci, zi_cn, zi_get_ne, zi_nl_i, zi_nl_r, zi_get_set_eq, nl, g0, g1, g7, g8, zM_g, zm_iald (k := 0) zM_A245 ia, ca, m5, zq_Mod_least, cm, El F (by omega)]
        have nl2 : zi_nl (zi_set L 12 (.int p)) = true := by simp (maxDischargeDepth := 9) [zi_get_ne, zi_nl_i, zi_nl_r, zi_get_set_eq, nl]
        have h10 : zi_get (zi_set L 12 (.int p)) 10 = some (.int f1) := by simp (maxDischargeDepth := 9) [zi_get_ne, zi_nl_i, zi_nl_r, zi_get_set_eq, nl, g10]
        have h11 : zi_get (zi_set L 12 (.int p)) 11 = some (.int ms) := by simp (maxDischargeDepth := 9) [zi_get_ne, zi_nl_i, zi_nl_r, zi_get_set_eq, nl, g11]
        have Se := ze_lay_c1 f1 ms (zi_set L 12 (.int p)) (zm_mk M) (D + 2 + (zy_ids a).length + (zy_ids b).length) nl2 h10 h11
        have nl3 : zi_nl (zi_set (zi_set L 12 (.int p)) 10 (.int (zi_mn f1 ms))) = true := by simp (maxDischargeDepth := 9) [zi_get_ne, zi_nl_i, zi_nl_r, zi_get_set_eq, nl]
        have Sf := ze_lay_c2 (zi_mn f1 ms) p (zi_set (zi_set L 12 (.int p)) 10 (.int (zi_mn f1 ms))) (zm_mk M) (D + 2 + (zy_ids a).length + (zy_ids b).length) nl3 zi_get_set_eq (by rw [zi_get_ne nl2 (by decide)]; exact zi_get_set_eq)
        generalize hf : zi_mx p (zi_mn f1 ms) = f at Sf E1 E2
        have S2 := ((S1.trans Sd).trans Se).trans Sf
        have nl4 : zi_nl (zi_set (zi_set (zi_set L 12 (.int p)) 10 (.int (zi_mn f1 ms))) 10 (.int f)) = true := by simp (maxDischargeDepth := 9) [zi_get_ne, zi_nl_i, zi_nl_r, zi_get_set_eq, nl]
        have gg : ∀ j, j ≠ 12 → j ≠ 10 → zi_get (zi_set (zi_set (zi_set L 12 (.int p)) 10 (.int (zi_mn f1 ms))) 10 (.int f)) j = zi_get L j := fun j h1 h2 => by rw [zi_get_ne nl3 h2, zi_get_ne nl2 h2, zi_get_ne nl h1]
        have k10 : zi_get (zi_set (zi_set (zi_set L 12 (.int p)) 10 (.int (zi_mn f1 ms))) 10 (.int f)) 10 = some (.int f) := zi_get_set_eq
        generalize zi_set (zi_set (zi_set L 12 (.int p)) 10 (.int (zi_mn f1 ms))) 10 (.int f) = L5 at S2 nl4 gg k10
        have k0 := (gg 0 (by decide) (by decide)).trans g0
        have k1 := (gg 1 (by decide) (by decide)).trans g1
        have k3 := (gg 3 (by decide) (by decide)).trans g3
        have k4 := (gg 4 (by decide) (by decide)).trans g4
        have k5 := (gg 5 (by decide) (by decide)).trans g5
        have k6 := (gg 6 (by decide) (by decide)).trans g6
        have k7 := (gg 7 (by decide) (by decide)).trans g7
        have k8 := (gg 8 (by decide) (by decide)).trans g8
        obtain ⟨N3, E1⟩ := E1
        obtain ⟨N4, E2⟩ := E2
        obtain ⟨ln, cn2⟩ := zM_c (μ := ν)
        have Sg : ze_S (D + 2 + (zy_ids a).length + (zy_ids b).length) 13 none zc_X6_lay 184 L5 [] (zm_mk M) 276 L5 [.int f, .int v, .int w, .int (y + f), .int x, .int (nI (zy_id b)), .int (nI τ), .ref 232] (zm_mk ν) := by
          refine ⟨N3, 26, fun F m hF => ?_⟩
          simp [zg_0, zg_aload_n, zg_bipush, zg_dup, zg_getfield, zg_goto, zg_iadd, zg_iaload, zg_iastore, zg_iconst, zg_idiv, zg_ifCond, zg_if_icmp, zg_iload, zg_iload_n, zg_imul, zg_invokestatic, zg_invokevirtual, zg_istore, zg_isub, zg_putfield, zg_return, zf_X6_lay, zi_ld, zi_lda, zi_cmp, zi_retOk, zi_isI, zi_f3, zi_cr, zi_ci, zi_cn, k0, k1, k3, k4, k5, k6, k7, k8, k10, zM_g, zm_iald (k := 0) zM_A245 ia, zm_iald (k := 0) zM_A246 ia, ca, m5, n6, zq_Mod_lay, cm, E1 F (by omega)]
        have Sh := ze_lay_t v f L5 [.int w, .int (y + f), .int x, .int (nI (zy_id b)), .int (nI τ), .ref 232] (zm_mk ν) (D + 2 + (zy_ids a).length + (zy_ids b).length)
        generalize v - f = r at Sh E2
        refine ze_in [(0, .ref 232), (1, .int (nI τ)), (2, .int (nI n)), (3, .int x), (4, .int y), (5, .int w), (6, .int v)] zq_Mod_lay (Nat.le_of_ble_eq_true rfl) rfl (((S2.trans Sg).trans Sh).end ⟨N4, 2, fun F m hF => ?_⟩)
        simp [zg_0, zg_aload_n, zg_bipush, zg_dup, zg_getfield, zg_goto, zg_iadd, zg_iaload, zg_iastore, zg_iconst, zg_idiv, zg_ifCond, zg_if_icmp, zg_iload, zg_iload_n, zg_imul, zg_invokestatic, zg_invokevirtual, zg_istore, zg_isub, zg_putfield, zg_return, zf_X6_lay, zi_ld, zi_lda, zi_cmp, zi_retOk, zi_isI, zi_f3, zi_cr, zi_ci, zi_cn, k6, zq_Mod_lay, cn2, E2 F (by omega)]
      · rw [if_neg (by rw [f0]; decide)]
        exact ⟨LA, LB⟩
end ZLZ
