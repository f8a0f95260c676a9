section
/-! the reference: open -/
/-- windows there, in an order in which each dialog stands behind its owner -/
noncomputable def zv_ord (μ : zm_M) (ord : List Nat) : Prop := ord.Nodup ∧ (∀ x, x ∈ ord ↔ x < 10 ∧ ¬ μ 234 x = 0) ∧ ∀ x, x < 10 → μ 234 x = 3 → ∃ o, o < 10 ∧ μ 237 x = nI o ∧ o ∈ ord ∧ ord.idxOf o < ord.idxOf x
/-- the window k has come to the screen s -/
noncomputable def zv_cam (μ ν : zm_M) (k s : Nat) (kd w v o : Int32) : Prop :=
  (ν 234 k = kd ∧ ν 237 k = o ∧ ν 235 k = w ∧ ν 236 k = v ∧ (¬ kd = 4 → ν 238 k = nI s)) ∧
  ∀ c d, ¬ (c = 231 ∧ d = 30) → ¬ (234 ≤ c ∧ c ≤ 238 ∧ d = k) → c ≠ 239 → c ≠ 240 → ¬ (253 ≤ c ∧ c ≤ 261) → (kd = 1 → ¬ zu_in 6 c d ∧ ¬ zu_in s c d) → ν c d = μ c d
noncomputable def zv_opn (μ ν : zm_M) (row stk : List Nat) (us : Nat → zy_F) (kd w v o : Int32) : Prop :=
  ((¬ zv_oarg μ kd w v o ∨ (∀ j, j < 10 → ¬ μ 234 j = 0) ∨ zv_osc μ row kd o = -1) ∧ ν = μ) ∨
  (zv_oarg μ kd w v o ∧ ∃ k s M, k < 10 ∧ s < 3 ∧ μ 234 k = 0 ∧ (∀ j, j < k → ¬ μ 234 j = 0) ∧ zv_osc μ row kd o = nI s ∧ 0 < μ 232 s ∧ (M 235 k = w ∧ M 236 k = v ∧ ∀ c d, ¬ (c = 235 ∧ d = k) → ¬ (c = 236 ∧ d = k) → M c d = μ c d) ∧
    ((kd = 1 ∧ ∃ lo ν3 b u', zv_los M us lo ∧ zv_tl M ν3 row (us s) s k lo b u' ∧ ((b = 0 ∧ ∀ c d, ¬ (c = 231 ∧ d = 30) → ¬ (255 ≤ c ∧ c ≤ 259) → ¬ zu_in 6 c d → ν c d = M c d) ∨ (b = 1 ∧ ∃ ν4, zv_cam μ ν4 k s kd w v o ∧ zu_eqT ν3 s ν4 s ∧ zv_foc ν4 ν row stk (zd_upd us s u') k))) ∨
     (¬ kd = 1 ∧ ((¬ kd = 4 ∧ ¬ (w ≤ μ 232 s ∧ v ≤ μ 233 s) ∧ ν = M) ∨ ((kd = 4 ∨ (w ≤ μ 232 s ∧ v ≤ μ 233 s)) ∧ ∃ ν4, zv_cam μ ν4 k s kd w v o ∧ zv_foc ν4 ν row stk us k)))))
theorem zv_kd {kd : Int32} (h : 1 ≤ kd ∧ kd ≤ 4) : kd = 1 ∨ kd = 2 ∨ kd = 3 ∨ kd = 4 := by
  rcases zd_rng kd 5 (by decide) with ⟨j, hj, rfl⟩ | e | e
  · match j, hj with
    | 0, _ => exact absurd h.1 (by decide)
    | 1, _ => exact Or.inl (by decide)
    | 2, _ => exact Or.inr (Or.inl (by decide))
    | 3, _ => exact Or.inr (Or.inr (Or.inl (by decide)))
    | 4, _ => exact Or.inr (Or.inr (Or.inr (by decide)))
  · have e1 := h.1
    rw [Int32.lt_iff_toInt_lt] at e
    rw [Int32.le_iff_toInt_le] at e1
    have z0 : (0 : Int32).toInt = 0 := by decide
    have z1 : (1 : Int32).toInt = 1 := by decide
    omega
  · have e1 := h.2
    rw [Int32.le_iff_toInt_le] at e1 e
    have z0 : (nI 5).toInt = 5 := by decide
    have z1 : (4 : Int32).toInt = 4 := by decide
    omega
section ZWS
variable {μ ν M : zm_M} {row stk ord : List Nat} {us : Nat → zy_F} {k s : Nat}
theorem zv_ord_rk (h : zv_ord μ ord) : ∃ rk, zv_rk μ rk := by
  obtain ⟨h1, h2, h3⟩ := h
  have hl : ord.length ≤ 10 := zv_nodup10 h1 (fun x hx => ((h2 x).mp hx).1)
  refine ⟨fun x => if x ∈ ord then ord.idxOf x else 0, fun x _ => ?_, fun x hx e => ?_⟩
  · show (if x ∈ ord then ord.idxOf x else 0) ≤ 9
    by_cases c : x ∈ ord
    · rw [if_pos c]
      have := List.idxOf_lt_length_iff.mpr c
      omega
    · rw [if_neg c]; omega
  · obtain ⟨o, ho, e2, e3, e4⟩ := h3 x hx e
    refine ⟨o, ho, e2, ?_⟩
    have hx' : x ∈ ord := (h2 x).mpr ⟨hx, by rw [e]; decide⟩
    show (if o ∈ ord then ord.idxOf o else 0) < (if x ∈ ord then ord.idxOf x else 0)
    rw [if_pos e3, if_pos hx']
    exact e4
theorem zv_ord_new (h : zv_ord μ ord) (hk : k < 10) (hk0 : μ 234 k = 0) (e4 : ¬ ν 234 k = 0) (eo : ∀ x, x ≠ k → ν 234 x = μ 234 x ∧ ν 237 x = μ 237 x) (hd : ν 234 k = 3 → ∃ j, j < 10 ∧ ν 237 k = nI j ∧ ¬ μ 234 j = 0) : zv_ord ν (ord ++ [k]) := by
  obtain ⟨h1, h2, h3⟩ := h
  have hkn : k ∉ ord := fun z => ((h2 k).mp z).2 hk0
  have ik : (ord ++ [k]).idxOf k = ord.length := by
    rw [List.idxOf_append, if_neg hkn]
    simp
  have im : ∀ x, x ∈ ord → (ord ++ [k]).idxOf x = ord.idxOf x := fun x hx => by rw [List.idxOf_append, if_pos hx]
  refine ⟨List.nodup_append.mpr ⟨h1, List.nodup_cons.mpr ⟨by simp, List.nodup_nil⟩, fun x hx y hy e => ?_⟩, fun x => ?_, fun x hx e => ?_⟩
  · rw [List.mem_singleton] at hy
    rw [e, hy] at hx
    exact hkn hx
  · rw [List.mem_append, List.mem_singleton]
    by_cases c : x = k
    · subst c
      exact ⟨fun _ => ⟨hk, e4⟩, fun _ => Or.inr rfl⟩
    · rw [(eo x c).1]
      exact ⟨fun z => (h2 x).mp (z.resolve_right c), fun z => Or.inl ((h2 x).mpr z)⟩
  · by_cases c : x = k
    · subst c
      obtain ⟨j, hj, e2, e3⟩ := hd e
      have hjo := (h2 j).mpr ⟨hj, e3⟩
      refine ⟨j, hj, e2, List.mem_append_left _ hjo, ?_⟩
      rw [ik, im j hjo]
      exact List.idxOf_lt_length_iff.mpr hjo
    · rw [(eo x c).1] at e
      obtain ⟨j, hj, e2, e3, e5⟩ := h3 x hx e
      have hxo := (h2 x).mpr ⟨hx, by rw [e]; decide⟩
      refine ⟨j, hj, by rw [(eo x c).2]; exact e2, List.mem_append_left _ e3, ?_⟩
      rw [im j e3, im x hxo]
      exact e5
set_option maxRecDepth 100000 in
/-- 349 on: the focus is given -/
theorem zv_op4 (D : Nat) (h : zR μ row stk us) (hord : zv_ord μ ord) {kd w v o : Int32} (ha : zv_oarg μ kd w v o) (hk : k < 10) (hk0 : μ 234 k = 0) (hc : zv_cam μ ν k s kd w v o) (hs : s < 3) {us' : Nat → zy_F} (ht : kd = 1 → ∃ m ab, zu_I ν s (us' s) ab ∧ zu_at ν s (us' s) k m) (L : zi_Lc) (g0 : zi_get L 0 = some (.ref 232)) (g6 : zi_get L 6 = some (.int (nI k))) :
    ∃ ν', ze_G (D + 28) 10 (some .int) zc_X6_open 349 L [] (zm_mk ν) (some (.int (nI k))) (zm_mk ν') ∧ zv_foc ν ν' row stk us' k := by
  obtain ⟨⟨c1, c2, c3, c4, c5⟩, fr⟩ := hc
  have hkd := zv_kd ha.1.1
  have cell : ∀ c d, ¬ (c = 231 ∧ d = 30) → ¬ (234 ≤ c ∧ c ≤ 238 ∧ d = k) → c < 239 ∨ c = 241 ∨ c = 242 → ν c d = μ c d := fun c d r1 r2 r3 => fr c d r1 r2 (by omega) (by omega) (by omega) (fun _ => ⟨zu_in_not (by omega), zu_in_not (by omega)⟩)
  have ho2 := zv_ord_new (ν := ν) hord hk hk0 (by rw [c1]; rcases hkd with e | e | e | e <;> rw [e] <;> decide) (fun x hx => ⟨cell _ _ (by omega) (by omega) (by omega), cell _ _ (by omega) (by omega) (by omega)⟩) (fun e => by
    rw [c1] at e
    rw [c2]
    exact ha.2.1 e)
  obtain ⟨rk, hr⟩ := zv_ord_rk ho2
  have hR := h.2.1
  have hS := h.2.2.1
  have hR2 : zv_L ν 242 12 row := ⟨hR.1.1, (cell _ _ (by omega) (by omega) (by omega)).trans hR.1.2.1, fun j hj => (cell _ _ (by omega) (by omega) (by omega)).trans (hR.1.2.2 j hj)⟩
  have hS2 : zv_L ν 241 10 stk := ⟨hS.1.1, (cell _ _ (by omega) (by omega) (by omega)).trans hS.1.2.1, fun j hj => (cell _ _ (by omega) (by omega) (by omega)).trans (hS.1.2.2 j hj)⟩
  obtain ⟨ν', ⟨N5, E5⟩, hf⟩ := zv_focused (μ := ν) (us := us') (D + 16) hr hk (fun e => by
    rw [c1] at e
    obtain ⟨m, ab, q1, q2⟩ := ht e
    exact ⟨s, m, ab, hs, c5 (by rw [e]; decide), q1, q2⟩) hS2 hS.2.1 (fun x hx => ((hS.2.2 x).mp hx).1) hR2 hR.2.1 (fun x hx => ((hR.2.2 x).mp hx).1)
  obtain ⟨lc6, cM6⟩ := zM_c (μ := ν)
  refine ⟨ν', ⟨N5, 5, fun F m hF => ?_⟩, hf⟩
  simp [zg_0, zg_aload_n, zg_bipush, zg_getfield, zg_goto, zg_iadd, zg_iaload, zg_iastore, zg_iconst, zg_ifCond, zg_if_icmp, zg_iload, zg_iload_n, zg_imul, zg_invokestatic, zg_invokevirtual, zg_ireturn, zg_istore, zg_isub, zg_ldc, zg_sipush, zf_X6_open, zi_ld, zi_lda, zi_cmp, zi_retOk, zi_isI, zi_f3, zi_cr, zi_ci, zi_cn, g0, g6, cM6, zq_Mod_focused, E5 F (by omega)]
set_option maxRecDepth 100000 in
theorem ze_Mopen (D : Nat) (h : zR μ row stk us) (hord : zv_ord μ ord) (kd w v o : Int32) : ∃ ν r, ze_E (D + 29) A_Mod_open [.ref 232, .int kd, .int w, .int v, .int o] (zm_mk μ) (some (.int r)) (zm_mk ν) ∧ zv_opn μ ν row stk us kd w v o := by
  have n2 : Int32.ofInt (-1000000002) = -1000000002 := by decide
  have h10 : (Int8.ofInt 10).toInt32 = (10 : Int32) := by decide
  have enter : ∀ {ν r}, ze_G (D + 28) 10 (some .int) zc_X6_open 0 [(0, .ref 232), (1, .int kd), (2, .int w), (3, .int v), (4, .int o)] [] (zm_mk μ) (some (.int r)) (zm_mk ν) → ze_E (D + 29) A_Mod_open [.ref 232, .int kd, .int w, .int v, .int o] (zm_mk μ) (some (.int r)) (zm_mk ν) := fun G => ze_in [(0, .ref 232), (1, .int kd), (2, .int w), (3, .int v), (4, .int o)] zq_Mod_open (Nat.le_of_ble_eq_true rfl) rfl G
  rcases zv_op0 (D + 25) h kd w v o with ⟨ha, g, S0⟩ | ⟨ha, G⟩
  · rcases zv_op1 (D + 25) h (g := g) ha with ⟨q, r, G⟩ | ⟨k, s, hk, hs, hk0, hkl, eo, hst, S1⟩
    · exact ⟨μ, r, enter (S0.end G), Or.inl ⟨Or.inr q, rfl⟩⟩
    · have ik : zi_in (nI k) 10 = true := zm_in hk (by decide)
      have ck : (nI k).toNatClampNeg = k := nI_clamp (by omega)
      have is : zi_in (nI s) 3 = true := zm_in hs (by decide)
      have cs : (nI s).toNatClampNeg = s := nI_clamp (by omega)
      have S2 : ze_S (D + 28) 10 (some .int) zc_X6_open 127 [(7, .int (nI s)), (6, .int (nI k)), (5, .int g), (0, .ref 232), (1, .int kd), (2, .int w), (3, .int v), (4, .int o)] [] (zm_mk μ) 143 [(7, .int (nI s)), (6, .int (nI k)), (5, .int g), (0, .ref 232), (1, .int kd), (2, .int w), (3, .int v), (4, .int o)] [] (zm_mk (zm_up (zm_up μ 235 k w) 236 k v)) := by
        refine ⟨0, 10, fun F m hF => ?_⟩
        simp [zg_0, zg_aload_n, zg_bipush, zg_getfield, zg_goto, zg_iadd, zg_iaload, zg_iastore, zg_iconst, zg_ifCond, zg_if_icmp, zg_iload, zg_iload_n, zg_imul, zg_invokestatic, zg_invokevirtual, zg_ireturn, zg_istore, zg_isub, zg_ldc, zg_sipush, zf_X6_open, zi_ld, zi_lda, zi_cmp, zi_retOk, zi_isI, zi_f3, zi_cr, zi_ci, zi_cn, zi_get, zi_set, zM_g, zm_iast zM_A235 ik, zm_iast zM_A236 ik, ck]
      have m1 : zm_up (zm_up μ 235 k w) 236 k v 235 k = w := by rw [zm_up_ne (by omega), zm_up_eq]
      have m2 : zm_up (zm_up μ 235 k w) 236 k v 236 k = v := zm_up_eq
      have fM : ∀ c d, ¬ (c = 235 ∧ d = k) → ¬ (c = 236 ∧ d = k) → zm_up (zm_up μ 235 k w) 236 k v c d = μ c d := fun c d r1 r2 => by rw [zm_up_ne r2, zm_up_ne r1]
      generalize zm_up (zm_up μ 235 k w) 236 k v = M at S2 m1 m2 fM
      obtain ⟨lcM, cMM⟩ := zM_c (μ := M)
      have SS := S0.trans (S1.trans S2)
      -- kind and owner
      have S5 : ∀ X : zm_M, ze_S (D + 28) 10 (some .int) zc_X6_open 205 [(7, .int (nI s)), (6, .int (nI k)), (5, .int g), (0, .ref 232), (1, .int kd), (2, .int w), (3, .int v), (4, .int o)] [] (zm_mk X) 222 [(7, .int (nI s)), (6, .int (nI k)), (5, .int g), (0, .ref 232), (1, .int kd), (2, .int w), (3, .int v), (4, .int o)] [] (zm_mk (zm_up (zm_up X 234 k kd) 237 k o)) := fun X => by
        refine ⟨0, 10, fun F m hF => ?_⟩
        simp [zg_0, zg_aload_n, zg_bipush, zg_getfield, zg_goto, zg_iadd, zg_iaload, zg_iastore, zg_iconst, zg_ifCond, zg_if_icmp, zg_iload, zg_iload_n, zg_imul, zg_invokestatic, zg_invokevirtual, zg_ireturn, zg_istore, zg_isub, zg_ldc, zg_sipush, zf_X6_open, zi_ld, zi_lda, zi_cmp, zi_retOk, zi_isI, zi_f3, zi_cr, zi_ci, zi_cn, zi_get, zi_set, zM_g, zm_iast zM_A234 ik, zm_iast zM_A237 ik, ck]
      have up5 : ∀ (X : zm_M), zm_up (zm_up X 234 k kd) 237 k o 234 k = kd ∧ zm_up (zm_up X 234 k kd) 237 k o 237 k = o ∧ ∀ c d, ¬ (c = 234 ∧ d = k) → ¬ (c = 237 ∧ d = k) → zm_up (zm_up X 234 k kd) 237 k o c d = X c d := fun X => ⟨by rw [zm_up_ne (by omega), zm_up_eq], zm_up_eq, fun c d r1 r2 => by rw [zm_up_ne r2, zm_up_ne r1]⟩
      rcases zv_kd ha.1.1 with rfl | rfl | rfl | rfl
      · -- tiled
        obtain ⟨lo, ν3, b, u', hlo, ⟨N3, E3⟩, htl, hb, hT, f3⟩ := zR_tile D h hk hs hk0 (M := M) (fun c d r1 r2 => fM c d (fun z => r1 z.1) (fun z => r2 z.1))
        rcases hb with rfl | rfl
        · refine ⟨ν3, -1000000002, enter (SS.end ⟨N3, 10, fun F m hF => ?_⟩), Or.inr ⟨ha, k, s, M, hk, hs, hk0, hkl, eo, hst, ⟨m1, m2, fM⟩, Or.inl ⟨rfl, lo, ν3, 0, u', hlo, htl, Or.inl ⟨rfl, fun c d r1 r2 r3 => f3 c d r1 r2 r3 (fun e => absurd e (by decide))⟩⟩⟩⟩
          simp [zg_0, zg_aload_n, zg_bipush, zg_getfield, zg_goto, zg_iadd, zg_iaload, zg_iastore, zg_iconst, zg_ifCond, zg_if_icmp, zg_iload, zg_iload_n, zg_imul, zg_invokestatic, zg_invokevirtual, zg_ireturn, zg_istore, zg_isub, zg_ldc, zg_sipush, zf_X6_open, zi_ld, zi_lda, zi_cmp, zi_retOk, zi_isI, zi_f3, zi_cr, zi_ci, zi_cn, zi_get, zi_set, cMM, zq_Mod_tile, E3 F (by omega), n2]
        · have S3 : ze_S (D + 28) 10 (some .int) zc_X6_open 143 [(7, .int (nI s)), (6, .int (nI k)), (5, .int g), (0, .ref 232), (1, .int 1), (2, .int w), (3, .int v), (4, .int o)] [] (zm_mk M) 205 [(7, .int (nI s)), (6, .int (nI k)), (5, .int g), (0, .ref 232), (1, .int 1), (2, .int w), (3, .int v), (4, .int o)] [] (zm_mk (zm_up ν3 238 k (nI s))) := by
            refine ⟨N3, 14, fun F m hF => ?_⟩
            simp [zg_0, zg_aload_n, zg_bipush, zg_getfield, zg_goto, zg_iadd, zg_iaload, zg_iastore, zg_iconst, zg_ifCond, zg_if_icmp, zg_iload, zg_iload_n, zg_imul, zg_invokestatic, zg_invokevirtual, zg_ireturn, zg_istore, zg_isub, zg_ldc, zg_sipush, zf_X6_open, zi_ld, zi_lda, zi_cmp, zi_retOk, zi_isI, zi_f3, zi_cr, zi_ci, zi_cn, zi_get, zi_set, zM_g, cMM, zq_Mod_tile, E3 F (by omega), zm_iast zM_A238 ik, ck]
          have S6 := S5 (zm_up ν3 238 k (nI s))
          obtain ⟨u1, u2, u3⟩ := up5 (zm_up ν3 238 k (nI s))
          have fX : ∀ c d, ¬ (c = 238 ∧ d = k) → zm_up ν3 238 k (nI s) c d = ν3 c d := fun c d r => zm_up_ne r
          have eX : zm_up ν3 238 k (nI s) 238 k = nI s := zm_up_eq
          generalize zm_up (zm_up (zm_up ν3 238 k (nI s)) 234 k 1) 237 k o = ν4 at S6 u1 u2 u3
          generalize zm_up ν3 238 k (nI s) = X at S3 S6 u3 fX eX
          have hc : zv_cam μ ν4 k s 1 w v o := by
            have f3' : ∀ c d, c < 243 ∨ 261 < c → ¬ (c = 231 ∧ d = 30) → ν3 c d = M c d := fun c d r1 r2 => f3 c d r2 (by omega) (zu_in_not (by omega)) (fun _ => zu_in_not (by omega))
            refine ⟨⟨u1, u2, ?_, ?_, fun _ => ?_⟩, fun c d r1 r2 r3 r4 r5 r6 => ?_⟩
            · rw [u3 _ _ (by omega) (by omega), fX _ _ (by omega), f3' _ _ (by omega) (by omega), m1]
            · rw [u3 _ _ (by omega) (by omega), fX _ _ (by omega), f3' _ _ (by omega) (by omega), m2]
            · rw [u3 _ _ (by omega) (by omega), eX]
            · rw [u3 c d (by omega) (by omega), fX c d (by omega), f3 c d r1 (by omega) (r6 rfl).1 (fun _ => (r6 rfl).2), fM c d (by omega) (by omega)]
          have tS : zu_eqT ν3 s ν4 s := zu_eq_in (fun c d r => (u3 c d (fun z => zu_in_not (Or.inl (by omega)) r) (fun z => zu_in_not (Or.inl (by omega)) r)).trans (fX c d (fun z => zu_in_not (Or.inl (by omega)) r)))
          obtain ⟨ab, m, q1, q2⟩ := hT rfl
          have eus : zd_upd us s u' s = u' := if_pos rfl
          obtain ⟨ν, G, hf⟩ := zv_op4 D h hord ha hk hk0 hc hs (us' := zd_upd us s u') (fun _ => ⟨m, ab, by rw [eus]; exact tS.I q1, by rw [eus]; exact zu_at_eqT q1 tS q2⟩) [(7, .int (nI s)), (6, .int (nI k)), (5, .int g), (0, .ref 232), (1, .int 1), (2, .int w), (3, .int v), (4, .int o)] rfl rfl
          refine ⟨ν, nI k, enter (SS.end (S3.end (S6.end (ze_S.end ⟨0, 9, fun F m hF => ?_⟩ G)))), Or.inr ⟨ha, k, s, M, hk, hs, hk0, hkl, eo, hst, ⟨m1, m2, fM⟩, Or.inl ⟨rfl, lo, ν3, 1, u', hlo, htl, Or.inr ⟨rfl, ν4, hc, tS, hf⟩⟩⟩⟩
          simp [zg_0, zg_aload_n, zg_bipush, zg_getfield, zg_goto, zg_iadd, zg_iaload, zg_iastore, zg_iconst, zg_ifCond, zg_if_icmp, zg_iload, zg_iload_n, zg_imul, zg_invokestatic, zg_invokevirtual, zg_ireturn, zg_istore, zg_isub, zg_ldc, zg_sipush, zf_X6_open, zi_ld, zi_lda, zi_cmp, zi_retOk, zi_isI, zi_f3, zi_cr, zi_ci, zi_cn, zi_get, zi_set]
      · -- floating
        obtain ⟨N3, E3⟩ := ze_McanBeWhole (μ := M) (D + 27) hk (μ 232 s) (μ 233 s)
        rw [m1, m2] at E3
        have x2 : M 232 s = μ 232 s := fM _ _ (by omega) (by omega)
        have x3 : M 233 s = μ 233 s := fM _ _ (by omega) (by omega)
        by_cases c : w ≤ μ 232 s ∧ v ≤ μ 233 s
        · rw [if_pos c] at E3
          have S3 : ze_S (D + 28) 10 (some .int) zc_X6_open 143 [(7, .int (nI s)), (6, .int (nI k)), (5, .int g), (0, .ref 232), (1, .int 2), (2, .int w), (3, .int v), (4, .int o)] [] (zm_mk M) 205 [(7, .int (nI s)), (6, .int (nI k)), (5, .int g), (0, .ref 232), (1, .int 2), (2, .int w), (3, .int v), (4, .int o)] [] (zm_mk M) := by
            refine ⟨N3, 18, fun F m hF => ?_⟩
            simp [zg_0, zg_aload_n, zg_bipush, zg_getfield, zg_goto, zg_iadd, zg_iaload, zg_iastore, zg_iconst, zg_ifCond, zg_if_icmp, zg_iload, zg_iload_n, zg_imul, zg_invokestatic, zg_invokevirtual, zg_ireturn, zg_istore, zg_isub, zg_ldc, zg_sipush, zf_X6_open, zi_ld, zi_lda, zi_cmp, zi_retOk, zi_isI, zi_f3, zi_cr, zi_ci, zi_cn, zi_get, zi_set, zM_g, cMM, zm_iald (k := 0) zM_A232 is, zm_iald (k := 0) zM_A233 is, cs, x2, x3, zq_Mod_canBeWhole, E3 F (by omega)]
          have S6 := S5 M
          obtain ⟨u1, u2, u3⟩ := up5 M
          generalize zm_up (zm_up M 234 k 2) 237 k o = Y at S6 u1 u2 u3
          obtain ⟨lcY, cMY⟩ := zM_c (μ := Y)
          obtain ⟨p, q, ⟨N4, E4⟩, -, -⟩ := ze_MputAt (μ := Y) (D + 26) hk hs (10 * nI k) (10 * nI k)
          have fP : ∀ c d, ¬ (c = 238 ∧ d = k) → c ≠ 239 → c ≠ 240 → zv_put Y k s p q c d = Y c d := fun c d r1 r2 r3 => by unfold zv_put; rw [zm_up_ne (by omega), zm_up_ne (by omega), zm_up_ne r1]
          have eP : zv_put Y k s p q 238 k = nI s := by unfold zv_put; rw [zm_up_ne (by omega), zm_up_ne (by omega), zm_up_eq]
          generalize zv_put Y k s p q = ν4 at E4 fP eP
          have hc : zv_cam μ ν4 k s 2 w v o := by
            refine ⟨⟨?_, ?_, ?_, ?_, fun _ => eP⟩, fun c d r1 r2 r3 r4 r5 r6 => ?_⟩
            · rw [fP _ _ (by omega) (by omega) (by omega), u1]
            · rw [fP _ _ (by omega) (by omega) (by omega), u2]
            · rw [fP _ _ (by omega) (by omega) (by omega), u3 _ _ (by omega) (by omega), m1]
            · rw [fP _ _ (by omega) (by omega) (by omega), u3 _ _ (by omega) (by omega), m2]
            · rw [fP c d (by omega) r3 r4, u3 c d (by omega) (by omega), fM c d (by omega) (by omega)]
          obtain ⟨ν, G, hf⟩ := zv_op4 D h hord ha hk hk0 hc hs (us' := us) (fun e => absurd e (by decide)) [(7, .int (nI s)), (6, .int (nI k)), (5, .int g), (0, .ref 232), (1, .int 2), (2, .int w), (3, .int v), (4, .int o)] rfl rfl
          refine ⟨ν, nI k, enter (SS.end (S3.end (S6.end (ze_S.end ⟨N4, 14, fun F m hF => ?_⟩ G)))), Or.inr ⟨ha, k, s, M, hk, hs, hk0, hkl, eo, hst, ⟨m1, m2, fM⟩, Or.inr ⟨by decide, Or.inr ⟨Or.inr c, ν4, hc, hf⟩⟩⟩⟩
          simp [zg_0, zg_aload_n, zg_bipush, zg_getfield, zg_goto, zg_iadd, zg_iaload, zg_iastore, zg_iconst, zg_ifCond, zg_if_icmp, zg_iload, zg_iload_n, zg_imul, zg_invokestatic, zg_invokevirtual, zg_ireturn, zg_istore, zg_isub, zg_ldc, zg_sipush, zf_X6_open, zi_ld, zi_lda, zi_cmp, zi_retOk, zi_isI, zi_f3, zi_cr, zi_ci, zi_cn, zi_get, zi_set, h10, cMY, zq_Mod_putAt, E4 F (by omega)]
        · rw [if_neg c] at E3
          refine ⟨M, -1000000002, enter (SS.end ⟨N3, 20, fun F m hF => ?_⟩), Or.inr ⟨ha, k, s, M, hk, hs, hk0, hkl, eo, hst, ⟨m1, m2, fM⟩, Or.inr ⟨by decide, Or.inl ⟨by decide, c, rfl⟩⟩⟩⟩
          simp [zg_0, zg_aload_n, zg_bipush, zg_getfield, zg_goto, zg_iadd, zg_iaload, zg_iastore, zg_iconst, zg_ifCond, zg_if_icmp, zg_iload, zg_iload_n, zg_imul, zg_invokestatic, zg_invokevirtual, zg_ireturn, zg_istore, zg_isub, zg_ldc, zg_sipush, zf_X6_open, zi_ld, zi_lda, zi_cmp, zi_retOk, zi_isI, zi_f3, zi_cr, zi_ci, zi_cn, zi_get, zi_set, zM_g, cMM, zm_iald (k := 0) zM_A232 is, zm_iald (k := 0) zM_A233 is, cs, x2, x3, zq_Mod_canBeWhole, E3 F (by omega), n2]
      · -- a dialog
        obtain ⟨j, hj, rfl, hj0⟩ := ha.2.1 rfl
        obtain ⟨N3, E3⟩ := ze_McanBeWhole (μ := M) (D + 27) hk (μ 232 s) (μ 233 s)
        rw [m1, m2] at E3
        have x2 : M 232 s = μ 232 s := fM _ _ (by omega) (by omega)
        have x3 : M 233 s = μ 233 s := fM _ _ (by omega) (by omega)
        by_cases c : w ≤ μ 232 s ∧ v ≤ μ 233 s
        · rw [if_pos c] at E3
          have S3 : ze_S (D + 28) 10 (some .int) zc_X6_open 143 [(7, .int (nI s)), (6, .int (nI k)), (5, .int g), (0, .ref 232), (1, .int 3), (2, .int w), (3, .int v), (4, .int (nI j))] [] (zm_mk M) 205 [(7, .int (nI s)), (6, .int (nI k)), (5, .int g), (0, .ref 232), (1, .int 3), (2, .int w), (3, .int v), (4, .int (nI j))] [] (zm_mk M) := by
            refine ⟨N3, 18, fun F m hF => ?_⟩
            simp [zg_0, zg_aload_n, zg_bipush, zg_getfield, zg_goto, zg_iadd, zg_iaload, zg_iastore, zg_iconst, zg_ifCond, zg_if_icmp, zg_iload, zg_iload_n, zg_imul, zg_invokestatic, zg_invokevirtual, zg_ireturn, zg_istore, zg_isub, zg_ldc, zg_sipush, zf_X6_open, zi_ld, zi_lda, zi_cmp, zi_retOk, zi_isI, zi_f3, zi_cr, zi_ci, zi_cn, zi_get, zi_set, zM_g, cMM, zm_iald (k := 0) zM_A232 is, zm_iald (k := 0) zM_A233 is, cs, x2, x3, zq_Mod_canBeWhole, E3 F (by omega)]
          have S6 := S5 M
          obtain ⟨u1, u2, u3⟩ := up5 M
          generalize zm_up (zm_up M 234 k 3) 237 k (nI j) = Y at S6 u1 u2 u3
          have hjk : j ≠ k := fun e => hj0 (by rw [e]; exact hk0)
          have y4 : Y 234 j = μ 234 j := by rw [u3 _ _ (by omega) (by omega), fM _ _ (by omega) (by omega)]
          have y8 : Y 238 j = μ 238 j := by rw [u3 _ _ (by omega) (by omega), fM _ _ (by omega) (by omega)]
          have hA : zv_arg Y us j := by
            refine ⟨by rw [y4]; exact zR_fl h hj hj0, fun e => ?_⟩
            rw [y4] at e
            obtain ⟨q, m, ab, r1, r2, r3, r4⟩ := zR_til h hj e
            have t : zu_eqT μ q Y q := zu_eq_in (fun c d r => (u3 c d (fun z => zu_in_not (Or.inl (by omega)) r) (fun z => zu_in_not (Or.inl (by omega)) r)).trans (fM c d (fun z => zu_in_not (Or.inl (by omega)) r) (fun z => zu_in_not (Or.inl (by omega)) r)))
            exact ⟨q, m, ab, r1, by rw [y8]; exact r2, t.I r3, zu_at_eqT r3 t r4⟩
          obtain ⟨M', p, q, L', S7, g0, g6, fM'⟩ := zv_op3 D hj hk hs hA (w := w) (v := v) (kd := 3) (g := g)
          have fP : ∀ c d, ¬ (c = 238 ∧ d = k) → c ≠ 239 → c ≠ 240 → zv_put M' k s p q c d = M' c d := fun c d r1 r2 r3 => by unfold zv_put; rw [zm_up_ne (by omega), zm_up_ne (by omega), zm_up_ne r1]
          have eP : zv_put M' k s p q 238 k = nI s := by unfold zv_put; rw [zm_up_ne (by omega), zm_up_ne (by omega), zm_up_eq]
          generalize zv_put M' k s p q = ν4 at S7 fP eP
          have hc : zv_cam μ ν4 k s 3 w v (nI j) := by
            refine ⟨⟨?_, ?_, ?_, ?_, fun _ => eP⟩, fun c d r1 r2 r3 r4 r5 r6 => ?_⟩
            · rw [fP _ _ (by omega) (by omega) (by omega), fM' _ _ (by omega) (by omega) (by omega) (by omega), u1]
            · rw [fP _ _ (by omega) (by omega) (by omega), fM' _ _ (by omega) (by omega) (by omega) (by omega), u2]
            · rw [fP _ _ (by omega) (by omega) (by omega), fM' _ _ (by omega) (by omega) (by omega) (by omega), u3 _ _ (by omega) (by omega), m1]
            · rw [fP _ _ (by omega) (by omega) (by omega), fM' _ _ (by omega) (by omega) (by omega) (by omega), u3 _ _ (by omega) (by omega), m2]
            · rw [fP c d (by omega) r3 r4, fM' c d r1 r3 r4 r5, u3 c d (by omega) (by omega), fM c d (by omega) (by omega)]
          obtain ⟨ν, G, hf⟩ := zv_op4 D h hord ha hk hk0 hc hs (us' := us) (fun e => absurd e (by decide)) L' g0 g6
          refine ⟨ν, nI k, enter (SS.end (S3.end (S6.end (ze_S.end (p2 := 293) (L2 := [(7, .int (nI s)), (6, .int (nI k)), (5, .int g), (0, .ref 232), (1, .int 3), (2, .int w), (3, .int v), (4, .int (nI j))]) (s2 := []) (h2 := zm_mk Y) ⟨0, 9, fun F m hF => ?_⟩ (S7.end G))))), Or.inr ⟨ha, k, s, M, hk, hs, hk0, hkl, eo, hst, ⟨m1, m2, fM⟩, Or.inr ⟨by decide, Or.inr ⟨Or.inr c, ν4, hc, hf⟩⟩⟩⟩
          simp [zg_0, zg_aload_n, zg_bipush, zg_getfield, zg_goto, zg_iadd, zg_iaload, zg_iastore, zg_iconst, zg_ifCond, zg_if_icmp, zg_iload, zg_iload_n, zg_imul, zg_invokestatic, zg_invokevirtual, zg_ireturn, zg_istore, zg_isub, zg_ldc, zg_sipush, zf_X6_open, zi_ld, zi_lda, zi_cmp, zi_retOk, zi_isI, zi_f3, zi_cr, zi_ci, zi_cn, zi_get, zi_set]
        · rw [if_neg c] at E3
          refine ⟨M, -1000000002, enter (SS.end ⟨N3, 20, fun F m hF => ?_⟩), Or.inr ⟨ha, k, s, M, hk, hs, hk0, hkl, eo, hst, ⟨m1, m2, fM⟩, Or.inr ⟨by decide, Or.inl ⟨by decide, c, rfl⟩⟩⟩⟩
          simp [zg_0, zg_aload_n, zg_bipush, zg_getfield, zg_goto, zg_iadd, zg_iaload, zg_iastore, zg_iconst, zg_ifCond, zg_if_icmp, zg_iload, zg_iload_n, zg_imul, zg_invokestatic, zg_invokevirtual, zg_ireturn, zg_istore, zg_isub, zg_ldc, zg_sipush, zf_X6_open, zi_ld, zi_lda, zi_cmp, zi_retOk, zi_isI, zi_f3, zi_cr, zi_ci, zi_cn, zi_get, zi_set, zM_g, cMM, zm_iald (k := 0) zM_A232 is, zm_iald (k := 0) zM_A233 is, cs, x2, x3, zq_Mod_canBeWhole, E3 F (by omega), n2]
      · -- sticky
        have S3 : ze_S (D + 28) 10 (some .int) zc_X6_open 143 [(7, .int (nI s)), (6, .int (nI k)), (5, .int g), (0, .ref 232), (1, .int 4), (2, .int w), (3, .int v), (4, .int o)] [] (zm_mk M) 205 [(7, .int (nI s)), (6, .int (nI k)), (5, .int g), (0, .ref 232), (1, .int 4), (2, .int w), (3, .int v), (4, .int o)] [] (zm_mk M) := by
          refine ⟨0, 6, fun F m hF => ?_⟩
          simp [zg_0, zg_aload_n, zg_bipush, zg_getfield, zg_goto, zg_iadd, zg_iaload, zg_iastore, zg_iconst, zg_ifCond, zg_if_icmp, zg_iload, zg_iload_n, zg_imul, zg_invokestatic, zg_invokevirtual, zg_ireturn, zg_istore, zg_isub, zg_ldc, zg_sipush, zf_X6_open, zi_ld, zi_lda, zi_cmp, zi_retOk, zi_isI, zi_f3, zi_cr, zi_ci, zi_cn, zi_get, zi_set]
        have S6 := S5 M
        obtain ⟨u1, u2, u3⟩ := up5 M
        generalize zm_up (zm_up M 234 k 4) 237 k o = Y at S6 u1 u2 u3
        have S7 : ze_S (D + 28) 10 (some .int) zc_X6_open 222 [(7, .int (nI s)), (6, .int (nI k)), (5, .int g), (0, .ref 232), (1, .int 4), (2, .int w), (3, .int v), (4, .int o)] [] (zm_mk Y) 349 [(7, .int (nI s)), (6, .int (nI k)), (5, .int g), (0, .ref 232), (1, .int 4), (2, .int w), (3, .int v), (4, .int o)] [] (zm_mk (zm_up (zm_up (zm_up Y 238 k (-1)) 239 k (10 * nI k)) 240 k (10 * nI k))) := by
          refine ⟨0, 26, fun F m hF => ?_⟩
          simp [zg_0, zg_aload_n, zg_bipush, zg_getfield, zg_goto, zg_iadd, zg_iaload, zg_iastore, zg_iconst, zg_ifCond, zg_if_icmp, zg_iload, zg_iload_n, zg_imul, zg_invokestatic, zg_invokevirtual, zg_ireturn, zg_istore, zg_isub, zg_ldc, zg_sipush, zf_X6_open, zi_ld, zi_lda, zi_cmp, zi_retOk, zi_isI, zi_f3, zi_cr, zi_ci, zi_cn, zi_get, zi_set, zM_g, h10, zm_iast zM_A238 ik, zm_iast zM_A239 ik, zm_iast zM_A240 ik, ck]
        have fP : ∀ c d, ¬ (c = 238 ∧ d = k) → c ≠ 239 → c ≠ 240 → zm_up (zm_up (zm_up Y 238 k (-1)) 239 k (10 * nI k)) 240 k (10 * nI k) c d = Y c d := fun c d r1 r2 r3 => by rw [zm_up_ne (by omega), zm_up_ne (by omega), zm_up_ne r1]
        generalize zm_up (zm_up (zm_up Y 238 k (-1)) 239 k (10 * nI k)) 240 k (10 * nI k) = ν4 at S7 fP
        have hc : zv_cam μ ν4 k s 4 w v o := by
          refine ⟨⟨?_, ?_, ?_, ?_, fun e => absurd rfl e⟩, fun c d r1 r2 r3 r4 r5 r6 => ?_⟩
          · rw [fP _ _ (by omega) (by omega) (by omega), u1]
          · rw [fP _ _ (by omega) (by omega) (by omega), u2]
          · rw [fP _ _ (by omega) (by omega) (by omega), u3 _ _ (by omega) (by omega), m1]
          · rw [fP _ _ (by omega) (by omega) (by omega), u3 _ _ (by omega) (by omega), m2]
          · rw [fP c d (by omega) r3 r4, u3 c d (by omega) (by omega), fM c d (by omega) (by omega)]
        obtain ⟨ν, G, hf⟩ := zv_op4 D h hord ha hk hk0 hc hs (us' := us) (fun e => absurd e (by decide)) [(7, .int (nI s)), (6, .int (nI k)), (5, .int g), (0, .ref 232), (1, .int 4), (2, .int w), (3, .int v), (4, .int o)] rfl rfl
        exact ⟨ν, nI k, enter (SS.end (S3.end (S6.end (S7.end G)))), Or.inr ⟨ha, k, s, M, hk, hs, hk0, hkl, eo, hst, ⟨m1, m2, fM⟩, Or.inr ⟨by decide, Or.inr ⟨Or.inl rfl, ν4, hc, hf⟩⟩⟩⟩
  · exact ⟨μ, _, enter G, Or.inl ⟨Or.inl ha, rfl⟩⟩
end ZWS
end
section
/-! the reference: screen, its pieces -/
/-- does the window k of the screen s find room in w, v? -/
noncomputable def zv_srm (μ : zm_M) (s : Nat) (w v : Int32) (k : Nat) : Bool := !zv_on μ k (nI s) || decide (μ 235 k ≤ w ∧ μ 236 k ≤ v)
section ZWT
variable {μ ξ ν : zm_M} {row stk : List Nat} {us : Nat → zy_F} {s : Nat}
set_option maxRecDepth 100000 in
theorem zv_scA (D : Nat) {w v : Int32} (hs : s < 3) (b0 : Bool) (L0 : zi_Lc) (nl0 : zi_nl L0 = true) (a0 : zi_get L0 0 = some (.ref 232)) (a1 : zi_get L0 1 = some (.int (nI s))) (a2 : zi_get L0 2 = some (.int w)) (a3 : zi_get L0 3 = some (.int v)) (a4 : zi_get L0 4 = some (.int (if b0 = true then 1 else 0))) (a5 : zi_get L0 5 = some (.int (nI 0))) :
    ∃ L' h', ze_S (D + 1) 6 (some .int) zc_X6_screen 114 L0 [] (zm_mk μ) 160 L' [] h' ∧ (zi_nl L' = true ∧ zi_get L' 0 = some (.ref 232) ∧ zi_get L' 1 = some (.int (nI s)) ∧ zi_get L' 2 = some (.int w) ∧ zi_get L' 3 = some (.int v) ∧ zi_get L' 4 = some (.int (if zv_gd (zv_srm μ s w v) b0 10 = true then 1 else 0)) ∧ zm_mk μ = h') := by
  have h10 : (Int8.ofInt 10).toInt32 = (10 : Int32) := by decide
  have n1 : ¬ (1 : Int32) = 0 := by decide
  obtain ⟨lc, cM⟩ := zM_c (μ := μ)
  refine ze_loopS (Q := fun i L hp => i ≤ 10 ∧ zi_nl L = true ∧ zi_get L 0 = some (.ref 232) ∧ zi_get L 1 = some (.int (nI s)) ∧ zi_get L 2 = some (.int w) ∧ zi_get L 3 = some (.int v) ∧ zi_get L 5 = some (.int (nI i)) ∧ zm_mk μ = hp ∧ ∃ (b : Bool), zi_get L 4 = some (.int (if b = true then 1 else 0)) ∧ (b = zv_gd (zv_srm μ s w v) b0 i)) (R := fun L' h' => zi_nl L' = true ∧ zi_get L' 0 = some (.ref 232) ∧ zi_get L' 1 = some (.int (nI s)) ∧ zi_get L' 2 = some (.int w) ∧ zi_get L' 3 = some (.int v) ∧ zi_get L' 4 = some (.int (if zv_gd (zv_srm μ s w v) b0 10 = true then 1 else 0)) ∧ zm_mk μ = h') 10 ?_ ?_ 10 0 _ _ (by omega) ⟨by omega, nl0, a0, a1, a2, a3, a5, rfl, b0, a4, rfl⟩
  · rintro i L _ hi ⟨-, nl, g0, g1, g2, g3, g5, rfl, b, g4, hq⟩
    have c1 : ¬ (10 : Int32) ≤ nI i := nI_ge (b := 10) hi (by decide)
    obtain ⟨N1, E1⟩ := ze_McanBeWhole (μ := μ) D hi w v
    obtain ⟨N2, E2⟩ := ze_MisOnScreen (μ := μ) D hi (nI s)
    have hs1 : zv_gd (zv_srm μ s w v) b0 (i + 1) = (b && zv_srm μ s w v i) := by rw [hq]; rfl
    have hr : zv_srm μ s w v i = (!zv_on μ i (nI s) || decide (μ 235 i ≤ w ∧ μ 236 i ≤ v)) := rfl
    rw [hr] at hs1
    cases b with
    | false =>
      have g4 : zi_get L 4 = some (.int 0) := g4
      refine ⟨zi_set (zi_set L 4 (.int 0)) 5 (.int (nI (i + 1))), zm_mk μ, ⟨N1 + N2, 9, fun F m hF => ?_⟩, by omega, ?_, ?_, ?_, ?_, ?_, zi_get_set_eq, rfl, false, ?_, hs1.symm⟩
      · simp (maxDischargeDepth := 9) [zg_0, zg_aload_n, zg_baload, zg_bastore, zg_bipush, zg_getfield, zg_goto, zg_iaload, zg_iastore, zg_iconst, zg_ifCond, zg_if_icmp, zg_iinc, zg_iload, zg_iload_n, zg_invokestatic, zg_invokevirtual, zg_ireturn, zg_istore, zg_ldc, zg_sipush, zf_X6_screen, zi_ld, zi_lda, zi_cmp, zi_retOk, zi_isI, zi_f3, zi_cr, zi_ci, zi_cn, zi_get_ne, zi_nl_i, zi_nl_r, zi_get_set_eq, nl, g0, g1, g2, g3, g5, g4, h10, c1, nI_1]
      · simp (maxDischargeDepth := 9) [zi_get_ne, zi_nl_i, zi_nl_r, zi_get_set_eq, nl]
      · simp (maxDischargeDepth := 9) [zi_get_ne, zi_nl_i, zi_nl_r, zi_get_set_eq, nl, g0]
      · simp (maxDischargeDepth := 9) [zi_get_ne, zi_nl_i, zi_nl_r, zi_get_set_eq, nl, g1]
      · simp (maxDischargeDepth := 9) [zi_get_ne, zi_nl_i, zi_nl_r, zi_get_set_eq, nl, g2]
      · simp (maxDischargeDepth := 9) [zi_get_ne, zi_nl_i, zi_nl_r, zi_get_set_eq, nl, g3]
      · simp (maxDischargeDepth := 9) [zi_get_ne, zi_nl_i, zi_nl_r, zi_get_set_eq, nl, g4]
    | true =>
      have g4 : zi_get L 4 = some (.int 1) := g4
      by_cases c2 : zv_on μ i (nI s) = true
      · rw [if_pos c2] at E2
        rw [c2] at hs1
        by_cases c4 : μ 235 i ≤ w ∧ μ 236 i ≤ v
        · rw [if_pos c4] at E1
          refine ⟨zi_set (zi_set L 4 (.int 1)) 5 (.int (nI (i + 1))), zm_mk μ, ⟨N1 + N2, 21, fun F m hF => ?_⟩, by omega, ?_, ?_, ?_, ?_, ?_, zi_get_set_eq, rfl, true, ?_, by rw [hs1, decide_eq_true c4]; rfl⟩
          · simp (maxDischargeDepth := 9) [zg_0, zg_aload_n, zg_baload, zg_bastore, zg_bipush, zg_getfield, zg_goto, zg_iaload, zg_iastore, zg_iconst, zg_ifCond, zg_if_icmp, zg_iinc, zg_iload, zg_iload_n, zg_invokestatic, zg_invokevirtual, zg_ireturn, zg_istore, zg_ldc, zg_sipush, zf_X6_screen, zi_ld, zi_lda, zi_cmp, zi_retOk, zi_isI, zi_f3, zi_cr, zi_ci, zi_cn, zi_get_ne, zi_nl_i, zi_nl_r, zi_get_set_eq, nl, g0, g1, g2, g3, g5, g4, h10, c1, n1, cM, zq_Mod_isOnScreen, zq_Mod_canBeWhole, E1 F (by omega), E2 F (by omega), nI_1]
          · simp (maxDischargeDepth := 9) [zi_get_ne, zi_nl_i, zi_nl_r, zi_get_set_eq, nl]
          · simp (maxDischargeDepth := 9) [zi_get_ne, zi_nl_i, zi_nl_r, zi_get_set_eq, nl, g0]
          · simp (maxDischargeDepth := 9) [zi_get_ne, zi_nl_i, zi_nl_r, zi_get_set_eq, nl, g1]
          · simp (maxDischargeDepth := 9) [zi_get_ne, zi_nl_i, zi_nl_r, zi_get_set_eq, nl, g2]
          · simp (maxDischargeDepth := 9) [zi_get_ne, zi_nl_i, zi_nl_r, zi_get_set_eq, nl, g3]
          · simp (maxDischargeDepth := 9) [zi_get_ne, zi_nl_i, zi_nl_r, zi_get_set_eq, nl, g4]
        · rw [if_neg c4] at E1
          refine ⟨zi_set (zi_set L 4 (.int 0)) 5 (.int (nI (i + 1))), zm_mk μ, ⟨N1 + N2, 20, fun F m hF => ?_⟩, by omega, ?_, ?_, ?_, ?_, ?_, zi_get_set_eq, rfl, false, ?_, by rw [hs1, decide_eq_false c4]; rfl⟩
          · simp (maxDischargeDepth := 9) [zg_0, zg_aload_n, zg_baload, zg_bastore, zg_bipush, zg_getfield, zg_goto, zg_iaload, zg_iastore, zg_iconst, zg_ifCond, zg_if_icmp, zg_iinc, zg_iload, zg_iload_n, zg_invokestatic, zg_invokevirtual, zg_ireturn, zg_istore, zg_ldc, zg_sipush, zf_X6_screen, zi_ld, zi_lda, zi_cmp, zi_retOk, zi_isI, zi_f3, zi_cr, zi_ci, zi_cn, zi_get_ne, zi_nl_i, zi_nl_r, zi_get_set_eq, nl, g0, g1, g2, g3, g5, g4, h10, c1, n1, cM, zq_Mod_isOnScreen, zq_Mod_canBeWhole, E1 F (by omega), E2 F (by omega), nI_1]
          · simp (maxDischargeDepth := 9) [zi_get_ne, zi_nl_i, zi_nl_r, zi_get_set_eq, nl]
          · simp (maxDischargeDepth := 9) [zi_get_ne, zi_nl_i, zi_nl_r, zi_get_set_eq, nl, g0]
          · simp (maxDischargeDepth := 9) [zi_get_ne, zi_nl_i, zi_nl_r, zi_get_set_eq, nl, g1]
          · simp (maxDischargeDepth := 9) [zi_get_ne, zi_nl_i, zi_nl_r, zi_get_set_eq, nl, g2]
          · simp (maxDischargeDepth := 9) [zi_get_ne, zi_nl_i, zi_nl_r, zi_get_set_eq, nl, g3]
          · simp (maxDischargeDepth := 9) [zi_get_ne, zi_nl_i, zi_nl_r, zi_get_set_eq, nl, g4]
      · rw [if_neg c2] at E2
        have c2' : zv_on μ i (nI s) = false := by simpa using c2
        refine ⟨zi_set (zi_set L 4 (.int 1)) 5 (.int (nI (i + 1))), zm_mk μ, ⟨N1 + N2, 15, fun F m hF => ?_⟩, by omega, ?_, ?_, ?_, ?_, ?_, zi_get_set_eq, rfl, true, ?_, by rw [hs1, c2']; rfl⟩
        · simp (maxDischargeDepth := 9) [zg_0, zg_aload_n, zg_baload, zg_bastore, zg_bipush, zg_getfield, zg_goto, zg_iaload, zg_iastore, zg_iconst, zg_ifCond, zg_if_icmp, zg_iinc, zg_iload, zg_iload_n, zg_invokestatic, zg_invokevirtual, zg_ireturn, zg_istore, zg_ldc, zg_sipush, zf_X6_screen, zi_ld, zi_lda, zi_cmp, zi_retOk, zi_isI, zi_f3, zi_cr, zi_ci, zi_cn, zi_get_ne, zi_nl_i, zi_nl_r, zi_get_set_eq, nl, g0, g1, g2, g3, g5, g4, h10, c1, n1, cM, zq_Mod_isOnScreen, E2 F (by omega), nI_1]
        · simp (maxDischargeDepth := 9) [zi_get_ne, zi_nl_i, zi_nl_r, zi_get_set_eq, nl]
        · simp (maxDischargeDepth := 9) [zi_get_ne, zi_nl_i, zi_nl_r, zi_get_set_eq, nl, g0]
        · simp (maxDischargeDepth := 9) [zi_get_ne, zi_nl_i, zi_nl_r, zi_get_set_eq, nl, g1]
        · simp (maxDischargeDepth := 9) [zi_get_ne, zi_nl_i, zi_nl_r, zi_get_set_eq, nl, g2]
        · simp (maxDischargeDepth := 9) [zi_get_ne, zi_nl_i, zi_nl_r, zi_get_set_eq, nl, g3]
        · simp (maxDischargeDepth := 9) [zi_get_ne, zi_nl_i, zi_nl_r, zi_get_set_eq, nl, g4]
  · rintro L _ ⟨-, nl, g0, g1, g2, g3, g5, rfl, b, g4, hq⟩
    subst hq
    have c1 : (10 : Int32) ≤ nI 10 := by decide
    refine ⟨L, zm_mk μ, ⟨0, 3, fun F m hF => ?_⟩, nl, g0, g1, g2, g3, g4, rfl⟩
    simp (maxDischargeDepth := 9) [zg_0, zg_aload_n, zg_baload, zg_bastore, zg_bipush, zg_getfield, zg_goto, zg_iaload, zg_iastore, zg_iconst, zg_ifCond, zg_if_icmp, zg_iinc, zg_iload, zg_iload_n, zg_invokestatic, zg_invokevirtual, zg_ireturn, zg_istore, zg_ldc, zg_sipush, zf_X6_screen, zi_ld, zi_lda, zi_cmp, zi_retOk, zi_isI, zi_f3, zi_cr, zi_ci, zi_cn, zi_get_ne, zi_nl_i, zi_nl_r, zi_get_set_eq, nl, g0, g1, g2, g3, g5, h10, c1]
/-- only places differ -/
noncomputable def zv_pl (μ ν : zm_M) : Prop := ∀ c d, c ≠ 239 → c ≠ 240 → ν c d = μ c d
set_option maxRecDepth 100000 in
theorem zv_scB (D : Nat) (hs : s < 3) (L0 : zi_Lc) (nl0 : zi_nl L0 = true) (a0 : zi_get L0 0 = some (.ref 232)) (a1 : zi_get L0 1 = some (.int (nI s))) (a5 : zi_get L0 5 = some (.int (nI 0))) :
    ∃ r h', ze_G (D + 2) 6 (some .int) zc_X6_screen 185 L0 [] (zm_mk μ) r h' ∧ (r = some (.int 0) ∧ ∃ ν, zm_mk ν = h' ∧ zv_pl μ ν) := by
  have h10 : (Int8.ofInt 10).toInt32 = (10 : Int32) := by decide
  refine ze_loop (Q := fun i L hp => i ≤ 10 ∧ zi_nl L = true ∧ zi_get L 0 = some (.ref 232) ∧ zi_get L 1 = some (.int (nI s)) ∧ zi_get L 5 = some (.int (nI i)) ∧ ∃ ξ : zm_M, zm_mk ξ = hp ∧ (zv_pl μ ξ) ∧ (True)) (R := fun r h' => r = some (.int 0) ∧ ∃ ν, zm_mk ν = h' ∧ zv_pl μ ν) 10 ?_ ?_ 10 0 _ _ (by omega) ⟨by omega, nl0, a0, a1, a5, μ, rfl, (fun _ _ _ _ => rfl), trivial⟩
  · rintro i L _ hi ⟨-, nl, g0, g1, g5, ξ, rfl, f1, hq⟩
    have c1 : ¬ (10 : Int32) ≤ nI i := nI_ge (b := 10) hi (by decide)
    have ik : zi_in (nI i) 10 = true := zm_in hi (by decide)
    have ck : (nI i).toNatClampNeg = i := nI_clamp (by omega)
    obtain ⟨lc, cM⟩ := zM_c (μ := ξ)
    obtain ⟨N2, E2⟩ := ze_MisOnScreen (μ := ξ) (D + 1) hi (nI s)
    by_cases c2 : zv_on ξ i (nI s) = true
    · rw [if_pos c2] at E2
      obtain ⟨pp, qq, ⟨N1, E1⟩, -, -⟩ := ze_MputAt (μ := ξ) D hi hs (ξ 239 i) (ξ 240 i)
      have e8 : ξ 238 i = nI s := (of_decide_eq_true c2).2.2
      have f1' : zv_pl μ (zv_put ξ i s pp qq) := fun c d r1 r2 => by
        unfold zv_put
        rw [zm_up_ne (by omega), zm_up_ne (by omega)]
        by_cases e : c = 238 ∧ d = i
        · rw [e.1, e.2, zm_up_eq, ← e8]
          exact f1 _ _ (by decide) (by decide)
        · rw [zm_up_ne e]
          exact f1 c d r1 r2
      left
      refine ⟨zi_set L 5 (.int (nI (i + 1))), zm_mk (zv_put ξ i s pp qq), ⟨N1 + N2, 22, fun F m hF => ?_⟩, by omega, ?_, ?_, ?_, zi_get_set_eq, _, rfl, f1', trivial⟩
      · simp (maxDischargeDepth := 9) [zg_0, zg_aload_n, zg_baload, zg_bastore, zg_bipush, zg_getfield, zg_goto, zg_iaload, zg_iastore, zg_iconst, zg_ifCond, zg_if_icmp, zg_iinc, zg_iload, zg_iload_n, zg_invokestatic, zg_invokevirtual, zg_ireturn, zg_istore, zg_ldc, zg_sipush, zf_X6_screen, zi_ld, zi_lda, zi_cmp, zi_retOk, zi_isI, zi_f3, zi_cr, zi_ci, zi_cn, zi_get_ne, zi_nl_i, zi_nl_r, zi_get_set_eq, nl, g0, g1, g5, h10, c1, cM, zM_g, zq_Mod_isOnScreen, zq_Mod_putAt, E1 F (by omega), E2 F (by omega), zm_iald (k := 0) zM_A239 ik, zm_iald (k := 0) zM_A240 ik, ck, nI_1]
      · simp (maxDischargeDepth := 9) [zi_get_ne, zi_nl_i, zi_nl_r, zi_get_set_eq, nl]
      · simp (maxDischargeDepth := 9) [zi_get_ne, zi_nl_i, zi_nl_r, zi_get_set_eq, nl, g0]
      · simp (maxDischargeDepth := 9) [zi_get_ne, zi_nl_i, zi_nl_r, zi_get_set_eq, nl, g1]
    · rw [if_neg c2] at E2
      left
      refine ⟨zi_set L 5 (.int (nI (i + 1))), zm_mk ξ, ⟨N2, 10, fun F m hF => ?_⟩, by omega, ?_, ?_, ?_, zi_get_set_eq, _, rfl, f1, trivial⟩
      · simp (maxDischargeDepth := 9) [zg_0, zg_aload_n, zg_baload, zg_bastore, zg_bipush, zg_getfield, zg_goto, zg_iaload, zg_iastore, zg_iconst, zg_ifCond, zg_if_icmp, zg_iinc, zg_iload, zg_iload_n, zg_invokestatic, zg_invokevirtual, zg_ireturn, zg_istore, zg_ldc, zg_sipush, zf_X6_screen, zi_ld, zi_lda, zi_cmp, zi_retOk, zi_isI, zi_f3, zi_cr, zi_ci, zi_cn, zi_get_ne, zi_nl_i, zi_nl_r, zi_get_set_eq, nl, g0, g1, g5, h10, c1, cM, zq_Mod_isOnScreen, E2 F (by omega), nI_1]
      · simp (maxDischargeDepth := 9) [zi_get_ne, zi_nl_i, zi_nl_r, zi_get_set_eq, nl]
      · simp (maxDischargeDepth := 9) [zi_get_ne, zi_nl_i, zi_nl_r, zi_get_set_eq, nl, g0]
      · simp (maxDischargeDepth := 9) [zi_get_ne, zi_nl_i, zi_nl_r, zi_get_set_eq, nl, g1]
  · rintro L _ ⟨-, nl, g0, g1, g5, ξ, rfl, f1, hq⟩
    have c1 : (10 : Int32) ≤ nI 10 := by decide
    refine ⟨some (.int 0), zm_mk ξ, ⟨0, 5, fun F m hF => ?_⟩, rfl, ξ, rfl, f1⟩
    simp [zg_0, zg_aload_n, zg_baload, zg_bastore, zg_bipush, zg_getfield, zg_goto, zg_iaload, zg_iastore, zg_iconst, zg_ifCond, zg_if_icmp, zg_iinc, zg_iload, zg_iload_n, zg_invokestatic, zg_invokevirtual, zg_ireturn, zg_istore, zg_ldc, zg_sipush, zf_X6_screen, zi_ld, zi_lda, zi_cmp, zi_retOk, zi_isI, zi_f3, zi_cr, zi_ci, zi_cn, g0, g1, g5, h10, c1]
end ZWT
end
section
/-! the reference: screen -/
/-- what is kept of the screens that are gone: trees of windows that are there -/
noncomputable def zv_kep (μ : zm_M) (us : Nat → zy_F) : Prop := (∀ s, s < 3 → ¬ μ 251 s = 0 → (∃ ab, zu_I μ (3 + s) (us (3 + s)) ab) ∧ zu_nd μ (3 + s) (us (3 + s)) ∧ ∀ n ∈ zy_lvs (us (3 + s)), ∀ w ∈ zu_tb μ (3 + s) n, μ 234 w = 1) ∧ ∀ d, d < 30 → μ 252 d = 0 ∨ μ 252 d = 1
/-- the screen s is there now, of the size x, y; nothing has come to it yet -/
noncomputable def zv_nw (μ M : zm_M) (s : Nat) (x y : Int32) : Prop := (M 232 s = x ∧ M 233 s = y) ∧ zu_I M s .nil (fun _ => -1) ∧ ∀ c d, ¬ (c = 232 ∧ d = s) → ¬ (c = 233 ∧ d = s) → ¬ zu_in s c d → M c d = μ c d
/-- does all come back? -/
noncomputable def zv_bk (M : zm_M) (us : Nat → zy_F) (dl : Nat → Bool) (ow : Nat → Nat) (s : Nat) : Bool := zv_gd (zv_room M (zv_back M dl ow s) s) (zu_fit M (3 + s) (us (3 + s)) (M 232 s) (M 233 s)) 10
noncomputable def zv_scr (μ ν : zm_M) (us : Nat → zy_F) (w x y : Int32) : Prop :=
  ((¬ ∃ s, zd_sarg w x y s) ∧ ν = μ) ∨
  ∃ s, zd_sarg w x y s ∧
    ((¬ μ 232 s = 0 ∧ ((zv_gd (zv_srm μ s x y) (zu_fit μ s (us s) x y) 10 = false ∧ ν = μ) ∨ (zv_gd (zv_srm μ s x y) (zu_fit μ s (us s) x y) 10 = true ∧ (ν 232 s = x ∧ ν 233 s = y) ∧ ∀ c d, c ≠ 239 → c ≠ 240 → ¬ (c = 232 ∧ d = s) → ¬ (c = 233 ∧ d = s) → ν c d = μ c d))) ∨
     (μ 232 s = 0 ∧ ∃ M, zv_nw μ M s x y ∧
       (((μ 251 s = 0 ∨ zv_bk M us (zv_dlg μ) (zv_own μ) s = false) ∧ ν 251 s = 0 ∧ ∀ c d, c ≠ 260 → ¬ (c = 251 ∧ d = s) → ν c d = M c d) ∨
        (¬ μ 251 s = 0 ∧ zv_bk M us (zv_dlg μ) (zv_own μ) s = true ∧ ∃ M2 ξ us1 ν1, (∀ c d, ¬ (c = 231 ∧ d = 30) → c ≠ 259 → c ≠ 260 → M2 c d = M c d) ∧ zv_bs M2 s us ξ us1 ((zy_lvs (us (3 + s))).flatMap (zu_tb M (3 + s))) ∧ zv_br (zu_cq ξ (3 + s) s 24 240) ν1 s (zv_back M (zv_dlg μ) (zv_own μ) s) 10 ∧ ν = zm_up ν1 251 s 0))))
section ZWU
variable {μ ν : zm_M} {row stk : List Nat} {us : Nat → zy_F} {s : Nat}
theorem zR_lv (h : zR μ row stk us) {w : Nat} (hw : w < 10) (c : μ 234 w = 1) : zv_lv μ us w := by
  obtain ⟨q, m, ab, hq, hh, hI, hat⟩ := zR_til h hw c
  refine ⟨hw, q, hq, hh, ⟨m, hat⟩, fun p hp hpq n hn z => ?_⟩
  have := ((h.2.2.2.2.1 p hp).2.2 n hn w z).2
  exact hpq ((nI_eq (by omega) (by omega)).mp (this.symm.trans hh))
/-- a screen that isn't there has no tree -/
theorem zR_none (h : zR μ row stk us) (hs : s < 3) (c : μ 232 s = 0) : us s = .nil := by
  obtain ⟨⟨ab, hI⟩, hnd, hw⟩ := h.2.2.2.2.1 s hs
  refine (zu_I_or hI).resolve_right (fun wf => ?_)
  have hm := zl_mem (zy_lvs_pos wf)
  obtain ⟨t1, t2, t3⟩ := zu_I_tb hI hm
  obtain ⟨w, hwm⟩ := List.exists_mem_of_ne_nil _ t2
  obtain ⟨e1, e2⟩ := hw _ hm w hwm
  obtain ⟨q, hq, hh, hp, -⟩ := h.2.2.2.2.2.1 w (t3 w hwm) (by rw [e1]; decide) (by rw [e1]; decide)
  have := (nI_eq (by omega) (by omega)).mp (hh.symm.trans e2)
  rw [this, c] at hp
  exact absurd hp (by decide)
set_option maxRecDepth 100000 in
theorem ze_Mscreen (D : Nat) (h : zR μ row stk us) (hK : zv_kep μ us) (w x y : Int32) : ∃ ν v, ze_E (D + 28) A_Mod_screen [.ref 232, .int w, .int x, .int y] (zm_mk μ) (some (.int v)) (zm_mk ν) ∧ zv_scr μ ν us w x y := by
  have n1 : Int32.ofInt (-1000000001) = -1000000001 := by decide
  have n2 : Int32.ofInt (-1000000002) = -1000000002 := by decide
  have h40 : (Int8.ofInt 40).toInt32 = (40 : Int32) := by decide
  have h400 : (Int16.ofInt 400).toInt32 = (400 : Int32) := by decide
  obtain ⟨lc, cM⟩ := zM_c (μ := μ)
  have enter : ∀ {ν r}, ze_G (D + 27) 6 (some .int) zc_X6_screen 0 [(0, .ref 232), (1, .int w), (2, .int x), (3, .int y)] [] (zm_mk μ) (some (.int r)) (zm_mk ν) → ze_E (D + 28) A_Mod_screen [.ref 232, .int w, .int x, .int y] (zm_mk μ) (some (.int r)) (zm_mk ν) := fun G => ze_in [(0, .ref 232), (1, .int w), (2, .int x), (3, .int y)] zq_Mod_screen (Nat.le_of_ble_eq_true rfl) rfl G
  rcases zM_isIn (hp := zm_mk μ) (D + 26) w (n := 2) (b := 2) (by decide) (by decide) with ⟨s, hs, rfl, N1, E1⟩ | ⟨⟨N1, E1⟩, hno⟩
  · have hs : s < 3 := hs
    have is : zi_in (nI s) 3 = true := zm_in hs (by decide)
    have cs : (nI s).toNatClampNeg = s := nI_clamp (by omega)
    obtain ⟨N2, E2⟩ := ze_isIn (h := zm_mk μ) (D + 26) x 40 400
    by_cases c1 : 40 ≤ x ∧ x ≤ 400
    · rw [if_pos c1] at E2
      obtain ⟨N3, E3⟩ := ze_isIn (h := zm_mk μ) (D + 26) y 40 400
      by_cases c2 : 40 ≤ y ∧ y ≤ 400
      · rw [if_pos c2] at E3
        have hsa : zd_sarg (nI s) x y s := ⟨hs, rfl, c1, c2⟩
        have p40 : (0 : Int32) ≤ 40 := by decide
        have hx0 : 0 ≤ x := Int32.le_trans p40 c1.1
        have hy0 : 0 ≤ y := Int32.le_trans p40 c2.1
        have S0 : ze_S (D + 27) 6 (some .int) zc_X6_screen 0 [(0, .ref 232), (1, .int (nI s)), (2, .int x), (3, .int y)] [] (zm_mk μ) 36 [(0, .ref 232), (1, .int (nI s)), (2, .int x), (3, .int y)] [] (zm_mk μ) := by
          refine ⟨N1 + N2 + N3, 15, fun F n hF => ?_⟩
          simp [zg_0, zg_aload_n, zg_baload, zg_bastore, zg_bipush, zg_getfield, zg_goto, zg_iaload, zg_iastore, zg_iconst, zg_ifCond, zg_if_icmp, zg_iinc, zg_iload, zg_iload_n, zg_invokestatic, zg_invokevirtual, zg_ireturn, zg_istore, zg_ldc, zg_sipush, zf_X6_screen, zi_ld, zi_lda, zi_cmp, zi_retOk, zi_isI, zi_f3, zi_cr, zi_ci, zi_cn, zi_get, zi_set, h40, h400, zq_Mod_isIn, E1 F (by omega), E2 F (by omega), E3 F (by omega)]
        by_cases c0 : μ 232 s = 0
        · -- the screen comes
          have hnil := zR_none h hs c0
          have w1 : zm_up (zm_up μ 232 s x) 233 s y 232 s = x := by rw [zm_up_ne (by omega), zm_up_eq]
          have w2 : zm_up (zm_up μ 232 s x) 233 s y 233 s = y := zm_up_eq
          have w3 : ∀ c d, ¬ (c = 232 ∧ d = s) → ¬ (c = 233 ∧ d = s) → zm_up (zm_up μ 232 s x) 233 s y c d = μ c d := fun c d r1 r2 => by rw [zm_up_ne r2, zm_up_ne r1]
          have S1 : ze_S (D + 27) 6 (some .int) zc_X6_screen 36 [(0, .ref 232), (1, .int (nI s)), (2, .int x), (3, .int y)] [] (zm_mk μ) 59 [(0, .ref 232), (1, .int (nI s)), (2, .int x), (3, .int y)] [] (zm_mk (zm_up (zm_up μ 232 s x) 233 s y)) := by
            refine ⟨0, 15, fun F n hF => ?_⟩
            simp [zg_0, zg_aload_n, zg_baload, zg_bastore, zg_bipush, zg_getfield, zg_goto, zg_iaload, zg_iastore, zg_iconst, zg_ifCond, zg_if_icmp, zg_iinc, zg_iload, zg_iload_n, zg_invokestatic, zg_invokevirtual, zg_ireturn, zg_istore, zg_ldc, zg_sipush, zf_X6_screen, zi_ld, zi_lda, zi_cmp, zi_retOk, zi_isI, zi_f3, zi_cr, zi_ci, zi_cn, zi_get, zi_set, zM_g, zm_iald (k := 0) zM_A232 is, zm_iast zM_A232 is, zm_iast zM_A233 is, cs, c0]
          generalize zm_up (zm_up μ 232 s x) 233 s y = A at S1 w1 w2 w3
          obtain ⟨lcA, cMA⟩ := zM_c (μ := A)
          obtain ⟨M, ⟨N4, E4⟩, hE, fE⟩ := ze_MclearTreeI (μ := A) (D + 25) (τ := s) (by omega)
          have hM : zv_nw μ M s x y := ⟨⟨(fE _ _ (zu_in_not (by decide))).trans w1, (fE _ _ (zu_in_not (by decide))).trans w2⟩, hE, fun c d r1 r2 r3 => (fE c d r3).trans (w3 c d r1 r2)⟩
          obtain ⟨lcM, cMM⟩ := zM_c (μ := M)
          have x51 : M 251 s = μ 251 s := hM.2.2 _ _ (by omega) (by omega) (zu_in_not (by decide))
          have tail : ∀ (X : zm_M) (r : Int32) (L : zi_Lc), zi_get L 0 = some (.ref 232) → zi_get L 1 = some (.int (nI s)) → zi_nl L = true → ze_G (D + 27) 6 (some .int) zc_X6_screen 90 L [.int r] (zm_mk X) (some (.int r)) (zm_mk (zm_up X 251 s 0)) := fun X r L g0 g1 nl => by
            have o0 : (0 : Int32) = 0 ∨ (0 : Int32) = 1 := Or.inl rfl
            refine ⟨0, 8, fun F n hF => ?_⟩
            simp (maxDischargeDepth := 9) [zg_0, zg_aload_n, zg_baload, zg_bastore, zg_bipush, zg_getfield, zg_goto, zg_iaload, zg_iastore, zg_iconst, zg_ifCond, zg_if_icmp, zg_iinc, zg_iload, zg_iload_n, zg_invokestatic, zg_invokevirtual, zg_ireturn, zg_istore, zg_ldc, zg_sipush, zf_X6_screen, zi_ld, zi_lda, zi_cmp, zi_retOk, zi_isI, zi_f3, zi_cr, zi_ci, zi_cn, zi_get_ne, zi_nl_i, zi_nl_r, zi_get_set_eq, nl, g0, g1, zM_g, zm_bast zM_A251 is o0, cs]
          have L0g : zi_get [(0, .ref 232), (1, .int (nI s)), (2, .int x), (3, .int y)] 0 = some (.ref 232) ∧ zi_get [(0, .ref 232), (1, .int (nI s)), (2, .int x), (3, .int y)] 1 = some (.int (nI s)) := ⟨rfl, rfl⟩
          by_cases c3 : μ 251 s = 0
          · have c3' : M 251 s = 0 := x51.trans c3
            refine ⟨zm_up M 251 s 0, 0, enter (S0.end (S1.end (ze_S.end ⟨N4, 9, fun F n hF => ?_⟩ (tail M 0 _ L0g.1 L0g.2 rfl)))), Or.inr ⟨s, hsa, Or.inr ⟨c0, M, hM, Or.inl ⟨Or.inl c3, zm_up_eq, fun c d _ r => zm_up_ne r⟩⟩⟩⟩
            simp [zg_0, zg_aload_n, zg_baload, zg_bastore, zg_bipush, zg_getfield, zg_goto, zg_iaload, zg_iastore, zg_iconst, zg_ifCond, zg_if_icmp, zg_iinc, zg_iload, zg_iload_n, zg_invokestatic, zg_invokevirtual, zg_ireturn, zg_istore, zg_ldc, zg_sipush, zf_X6_screen, zi_ld, zi_lda, zi_cmp, zi_retOk, zi_isI, zi_f3, zi_cr, zi_ci, zi_cn, zi_get, zi_set, zM_g, cMA, zq_Mod_clearTree, E4 F (by omega), zm_bald zM_A251 is, cs, c3']
          · have c3' : ¬ M 251 s = 0 := by rw [x51]; exact c3
            obtain ⟨⟨⟨abk, hIk⟩, hKd, hKw⟩, h252⟩ := And.intro (hK.1 s hs c3) hK.2
            have tK : zu_eqT μ (3 + s) M (3 + s) := zu_eq_in (fun c d r => hM.2.2 c d (fun z => zu_in_not (Or.inl (by omega)) r) (fun z => zu_in_not (Or.inl (by omega)) r) (zu_in_ne r (by omega)))
            have hIkM := tK.I hIk
            have low : ∀ c d, 234 ≤ c → c < 243 ∨ 250 < c → M c d = μ c d := fun c d r1 r2 => hM.2.2 c d (by omega) (by omega) (zu_in_not r2)
            have hb : ∀ k, k < 10 → M 252 (10 * s + k) = 0 ∨ M 252 (10 * s + k) = 1 := fun k hk => by
              rw [low _ _ (by decide) (by decide)]
              exact h252 _ (by omega)
            have how := zv_ow_cells (ν := M) (zR_ow h) (fun c d r => low c d (by omega) (by omega))
            obtain ⟨θ, ⟨N5, E5⟩, hcm, fθ⟩ := ze_McomesBack (μ := M) D hs hb how hIkM (by rw [hM.1.1]; exact hx0) (by rw [hM.1.2]; exact hy0)
            obtain ⟨lcθ, cMθ⟩ := zM_c (μ := θ)
            have ebk : zv_gd (zv_room M (zv_back M (zv_dlg μ) (zv_own μ) s) s) (zu_fit M (3 + s) (us (3 + s)) (M 232 s) (M 233 s)) 10 = zv_bk M us (zv_dlg μ) (zv_own μ) s := rfl
            rw [ebk] at E5
            by_cases c4 : zv_bk M us (zv_dlg μ) (zv_own μ) s = true
            · rw [if_pos c4] at E5
              have tθ : ∀ q, q < 3 → zu_I θ q (us q) (fun n => zu_ab θ q (nI n)) ∨ ∃ ab, zu_I θ q (us q) ab := fun q hq => by
                refine Or.inr ?_
                by_cases e : q = s
                · rw [e, hnil]
                  exact ⟨_, (zu_fr260 (τ := s) fθ).I hE⟩
                · obtain ⟨⟨ab, hI⟩, -⟩ := h.2.2.2.2.1 q hq
                  have t1 : zu_eqT μ q M q := zu_eq_in (fun c d r => hM.2.2 c d (fun z => zu_in_not (Or.inl (by omega)) r) (fun z => zu_in_not (Or.inl (by omega)) r) (zu_in_ne r e))
                  exact ⟨ab, (t1.trans (zu_fr260 (τ := q) fθ)).I hI⟩
              have hIθ : ∀ q, q < 3 → ∃ ab, zu_I θ q (us q) ab := fun q hq => (tθ q hq).elim (fun z => ⟨_, z⟩) id
              have teq : ∀ q, q < 3 → q ≠ s → zu_eqT μ q θ q := fun q hq e => by
                have t1 : zu_eqT μ q M q := zu_eq_in (fun c d r => hM.2.2 c d (fun z => zu_in_not (Or.inl (by omega)) r) (fun z => zu_in_not (Or.inl (by omega)) r) (zu_in_ne r e))
                exact t1.trans (zu_fr260 (τ := q) fθ)
              have hndθ : ∀ q, q < 3 → zu_nd θ q (us q) := fun q hq => by
                by_cases e : q = s
                · rw [e, hnil]
                  exact ⟨fun n hn => (by cases hn), fun n hn => (by cases hn)⟩
                · obtain ⟨⟨ab, hI⟩, hnd, -⟩ := h.2.2.2.2.1 q hq
                  exact zu_nd_eqT hI hnd (teq q hq e)
              have tKθ := tK.trans (zu_fr260 (τ := 3 + s) fθ)
              have hKdθ := zu_nd_eqT hIk hKd tKθ
              have etb : ∀ n ∈ zy_lvs (us (3 + s)), zu_tb θ (3 + s) n = zu_tb μ (3 + s) n := fun n hn => tKθ.tb (zu_I_lt hIk hn) (zu_I_tbl hIk hn)
              have hlvθ : ∀ n ∈ zy_lvs (us (3 + s)), ∀ w ∈ zu_tb θ (3 + s) n, zv_lv θ us w := fun n hn w hw => by
                rw [etb n hn] at hw
                obtain ⟨b1, q, b2, b3, ⟨m, b4⟩, b5⟩ := zR_lv h ((zu_I_tb hIk hn).2.2 w hw) (hKw n hn w hw)
                have hqs : q ≠ s := fun e => by
                  rw [e, hnil] at b4
                  cases b4.1
                obtain ⟨⟨ab, hI⟩, -⟩ := h.2.2.2.2.1 q b2
                refine ⟨b1, q, b2, by rw [fθ _ _ (by decide), low _ _ (by decide) (by decide)]; exact b3, ⟨m, zu_at_eqT hI (teq q b2 hqs) b4⟩, fun p hp hpq n hn z => ?_⟩
                by_cases e : p = s
                · rw [e, hnil] at hn
                  cases hn
                · obtain ⟨⟨ab, hI⟩, -⟩ := h.2.2.2.2.1 p hp
                  rw [(teq p hp e).tb (zu_I_lt hI hn) (zu_I_tbl hI hn)] at z
                  exact b5 p hp hpq n hn z
              have hbθ : ∀ k, k < 10 → θ 252 (10 * s + k) = 0 ∨ θ 252 (10 * s + k) = 1 := fun k hk => by
                rw [fθ _ _ (by decide)]
                exact hb k hk
              obtain ⟨M2, ξ, us1, ν1, ⟨N6, E6⟩, fv, hbs, hbr⟩ := ze_Mbring (μ := θ) (us := us) D hs hIθ hndθ (tKθ.I hIk) hKdθ hlvθ hcm hbθ
              have eW : (zy_lvs (us (3 + s))).flatMap (zu_tb θ (3 + s)) = (zy_lvs (us (3 + s))).flatMap (zu_tb M (3 + s)) := by
                have : zu_tb θ (3 + s) = zu_tb M (3 + s) := funext fun n => zu_tb_cells (fun d => ⟨fθ _ _ (by decide), fθ _ _ (by decide)⟩)
                rw [this]
              rw [eW] at hbs
              refine ⟨zm_up ν1 251 s 0, nI (zl_ct (zv_back M (zv_dlg μ) (zv_own μ) s) 10), enter (S0.end (S1.end (ze_S.end ⟨N4 + N5 + N6, 16, fun F n hF => ?_⟩ (tail ν1 _ _ L0g.1 L0g.2 rfl)))), Or.inr ⟨s, hsa, Or.inr ⟨c0, M, hM, Or.inr ⟨c3, c4, M2, ξ, us1, ν1, fun c d r1 r2 r3 => (fv c d r1 r2).trans (fθ c d r3), hbs, hbr, rfl⟩⟩⟩⟩
              simp [zg_0, zg_aload_n, zg_baload, zg_bastore, zg_bipush, zg_getfield, zg_goto, zg_iaload, zg_iastore, zg_iconst, zg_ifCond, zg_if_icmp, zg_iinc, zg_iload, zg_iload_n, zg_invokestatic, zg_invokevirtual, zg_ireturn, zg_istore, zg_ldc, zg_sipush, zf_X6_screen, zi_ld, zi_lda, zi_cmp, zi_retOk, zi_isI, zi_f3, zi_cr, zi_ci, zi_cn, zi_get, zi_set, zM_g, cMA, cMM, cMθ, zq_Mod_clearTree, zq_Mod_comesBack, zq_Mod_bring, E4 F (by omega), E5 F (by omega), E6 F (by omega), zm_bald zM_A251 is, cs, c3']
            · rw [if_neg c4] at E5
              refine ⟨zm_up θ 251 s 0, 0, enter (S0.end (S1.end (ze_S.end ⟨N4 + N5, 13, fun F n hF => ?_⟩ (tail θ 0 _ L0g.1 L0g.2 rfl)))), Or.inr ⟨s, hsa, Or.inr ⟨c0, M, hM, Or.inl ⟨Or.inr (by simpa using c4), zm_up_eq, fun c d r1 r => (zm_up_ne r).trans (fθ c d r1)⟩⟩⟩⟩
              simp [zg_0, zg_aload_n, zg_baload, zg_bastore, zg_bipush, zg_getfield, zg_goto, zg_iaload, zg_iastore, zg_iconst, zg_ifCond, zg_if_icmp, zg_iinc, zg_iload, zg_iload_n, zg_invokestatic, zg_invokevirtual, zg_ireturn, zg_istore, zg_ldc, zg_sipush, zf_X6_screen, zi_ld, zi_lda, zi_cmp, zi_retOk, zi_isI, zi_f3, zi_cr, zi_ci, zi_cn, zi_get, zi_set, zM_g, cMA, cMM, zq_Mod_clearTree, zq_Mod_comesBack, E4 F (by omega), E5 F (by omega), zm_bald zM_A251 is, cs, c3']
        · -- another size
          obtain ⟨⟨ab, hI⟩, hnd, hw⟩ := h.2.2.2.2.1 s hs
          obtain ⟨N4, E4⟩ := ze_Mfits (μ := μ) (D + 1) (τ := s) (by omega) hI hx0 hy0
          generalize hb0 : zu_fit μ s (us s) x y = b0 at E4
          have S1 : ze_S (D + 27) 6 (some .int) zc_X6_screen 36 [(0, .ref 232), (1, .int (nI s)), (2, .int x), (3, .int y)] [] (zm_mk μ) 114 [(5, .int (nI 0)), (4, .int (if b0 = true then 1 else 0)), (0, .ref 232), (1, .int (nI s)), (2, .int x), (3, .int y)] [] (zm_mk μ) := by
            refine ⟨N4, 13, fun F n hF => ?_⟩
            simp [zg_0, zg_aload_n, zg_baload, zg_bastore, zg_bipush, zg_getfield, zg_goto, zg_iaload, zg_iastore, zg_iconst, zg_ifCond, zg_if_icmp, zg_iinc, zg_iload, zg_iload_n, zg_invokestatic, zg_invokevirtual, zg_ireturn, zg_istore, zg_ldc, zg_sipush, zf_X6_screen, zi_ld, zi_lda, zi_cmp, zi_retOk, zi_isI, zi_f3, zi_cr, zi_ci, zi_cn, zi_get, zi_set, zM_g, cM, zq_Mod_fits, E4 F (by omega), zm_iald (k := 0) zM_A232 is, cs, c0, nI_0]
          obtain ⟨L2, h2, S2, nl2, a0, a1, a2, a3, a4, rfl⟩ := zv_scA (μ := μ) (w := x) (v := y) (D + 26) hs b0 [(5, .int (nI 0)), (4, .int (if b0 = true then 1 else 0)), (0, .ref 232), (1, .int (nI s)), (2, .int x), (3, .int y)] rfl rfl rfl rfl rfl rfl rfl
          generalize hg : zv_gd (zv_srm μ s x y) b0 10 = good at a4
          cases good with
          | false =>
            have a4 : zi_get L2 4 = some (.int 0) := a4
            refine ⟨μ, -1000000002, enter (S0.end (S1.end (S2.end ⟨0, 4, fun F n hF => ?_⟩))), Or.inr ⟨s, hsa, Or.inl ⟨c0, Or.inl ⟨by rw [hb0]; exact hg, rfl⟩⟩⟩⟩
            simp [zg_0, zg_aload_n, zg_baload, zg_bastore, zg_bipush, zg_getfield, zg_goto, zg_iaload, zg_iastore, zg_iconst, zg_ifCond, zg_if_icmp, zg_iinc, zg_iload, zg_iload_n, zg_invokestatic, zg_invokevirtual, zg_ireturn, zg_istore, zg_ldc, zg_sipush, zf_X6_screen, zi_ld, zi_lda, zi_cmp, zi_retOk, zi_isI, zi_f3, zi_cr, zi_ci, zi_cn, a4, n2]
          | true =>
            have a4 : zi_get L2 4 = some (.int 1) := a4
            have n10 : ¬ (1 : Int32) = 0 := by decide
            have w1 : zm_up (zm_up μ 232 s x) 233 s y 232 s = x := by rw [zm_up_ne (by omega), zm_up_eq]
            have w2 : zm_up (zm_up μ 232 s x) 233 s y 233 s = y := zm_up_eq
            have w3 : ∀ c d, ¬ (c = 232 ∧ d = s) → ¬ (c = 233 ∧ d = s) → zm_up (zm_up μ 232 s x) 233 s y c d = μ c d := fun c d r1 r2 => by rw [zm_up_ne r2, zm_up_ne r1]
            have S3 : ze_S (D + 27) 6 (some .int) zc_X6_screen 160 L2 [] (zm_mk μ) 185 (zi_set L2 5 (.int (nI 0))) [] (zm_mk (zm_up (zm_up μ 232 s x) 233 s y)) := by
              have nl := nl2
              refine ⟨0, 14, fun F n hF => ?_⟩
              simp (maxDischargeDepth := 9) [zg_0, zg_aload_n, zg_baload, zg_bastore, zg_bipush, zg_getfield, zg_goto, zg_iaload, zg_iastore, zg_iconst, zg_ifCond, zg_if_icmp, zg_iinc, zg_iload, zg_iload_n, zg_invokestatic, zg_invokevirtual, zg_ireturn, zg_istore, zg_ldc, zg_sipush, zf_X6_screen, zi_ld, zi_lda, zi_cmp, zi_retOk, zi_isI, zi_f3, zi_cr, zi_ci, zi_cn, zi_get_ne, zi_nl_i, zi_nl_r, zi_get_set_eq, nl, a0, a1, a2, a3, a4, n10, zM_g, zm_iast zM_A232 is, zm_iast zM_A233 is, cs, nI_0]
            generalize zm_up (zm_up μ 232 s x) 233 s y = A at S3 w1 w2 w3
            obtain ⟨r, h', G, rfl, ν, rfl, hpl⟩ := zv_scB (μ := A) (D + 25) hs (zi_set L2 5 (.int (nI 0))) (zi_nl_i nl2) ((zi_get_ne nl2 (by decide)).trans a0) ((zi_get_ne nl2 (by decide)).trans a1) zi_get_set_eq
            exact ⟨ν, 0, enter (S0.end (S1.end (S2.end (S3.end G)))), Or.inr ⟨s, hsa, Or.inl ⟨c0, Or.inr ⟨by rw [hb0]; exact hg, ⟨(hpl _ _ (by decide) (by decide)).trans w1, (hpl _ _ (by decide) (by decide)).trans w2⟩, fun c d r1 r2 r3 r4 => (hpl c d r1 r2).trans (w3 c d r3 r4)⟩⟩⟩⟩
      · rw [if_neg c2] at E3
        refine ⟨μ, -1000000001, enter ⟨N1 + N2 + N3, 17, fun F n hF => ?_⟩, Or.inl ⟨fun ⟨s', q⟩ => c2 q.2.2.2, rfl⟩⟩
        simp [zg_0, zg_aload_n, zg_baload, zg_bastore, zg_bipush, zg_getfield, zg_goto, zg_iaload, zg_iastore, zg_iconst, zg_ifCond, zg_if_icmp, zg_iinc, zg_iload, zg_iload_n, zg_invokestatic, zg_invokevirtual, zg_ireturn, zg_istore, zg_ldc, zg_sipush, zf_X6_screen, zi_ld, zi_lda, zi_cmp, zi_retOk, zi_isI, zi_f3, zi_cr, zi_ci, zi_cn, zi_get, zi_set, h40, h400, zq_Mod_isIn, E1 F (by omega), E2 F (by omega), E3 F (by omega), n1]
    · rw [if_neg c1] at E2
      refine ⟨μ, -1000000001, enter ⟨N1 + N2, 12, fun F n hF => ?_⟩, Or.inl ⟨fun ⟨s', q⟩ => c1 q.2.2.1, rfl⟩⟩
      simp [zg_0, zg_aload_n, zg_baload, zg_bastore, zg_bipush, zg_getfield, zg_goto, zg_iaload, zg_iastore, zg_iconst, zg_ifCond, zg_if_icmp, zg_iinc, zg_iload, zg_iload_n, zg_invokestatic, zg_invokevirtual, zg_ireturn, zg_istore, zg_ldc, zg_sipush, zf_X6_screen, zi_ld, zi_lda, zi_cmp, zi_retOk, zi_isI, zi_f3, zi_cr, zi_ci, zi_cn, zi_get, zi_set, h40, h400, zq_Mod_isIn, E1 F (by omega), E2 F (by omega), n1]
  · refine ⟨μ, -1000000001, enter ⟨N1, 7, fun F n hF => ?_⟩, Or.inl ⟨fun ⟨s', q⟩ => hno s' q.1 q.2.1, rfl⟩⟩
    simp [zg_0, zg_aload_n, zg_baload, zg_bastore, zg_bipush, zg_getfield, zg_goto, zg_iaload, zg_iastore, zg_iconst, zg_ifCond, zg_if_icmp, zg_iinc, zg_iload, zg_iload_n, zg_invokestatic, zg_invokevirtual, zg_ireturn, zg_istore, zg_ldc, zg_sipush, zf_X6_screen, zi_ld, zi_lda, zi_cmp, zi_retOk, zi_isI, zi_f3, zi_cr, zi_ci, zi_cn, zi_get, zi_set, zq_Mod_isIn, E1 F (by omega), n1]
end ZWU
end
section
/-! the reference: gone, run -/
theorem zl_flat_congr {f g : Nat → List Nat} : ∀ l : List Nat, (∀ n ∈ l, f n = g n) → l.flatMap f = l.flatMap g
  | [], _ => rfl
  | a :: l, hh => by
    rw [List.flatMap_cons, List.flatMap_cons, hh a (List.mem_cons_self ..), zl_flat_congr l (fun n hn => hh n (List.mem_cons_of_mem _ hn))]
section ZWK2
variable {μ ν : zm_M} {row stk : List Nat} {us : Nat → zy_F}
set_option maxRecDepth 100000 in
theorem zv_gn1a (D : Nat) {o : Nat} (ho : o < 3) : ∃ μa, zu_cq μ o 6 24 240 = μa ∧ ze_E (D + 27) A_Mod_copyTree [.ref 232, .int (nI o), .int 6] (zm_mk μ) none (zm_mk μa) := by
  have q6 : nI 6 = (6 : Int32) := by decide
  obtain ⟨N2, E2⟩ := ze_McopyTree (μ := μ) (D + 25) (f := o) (t := 6) (by omega) (by decide) (by omega)
  rw [q6] at E2
  exact ⟨_, rfl, N2, E2⟩
theorem zv_gn1b (h : zR μ row stk us) {μa : zm_M} {s o : Nat} (hs : s < 3) (ho : o < 3) (hso : s ≠ o) (hμa : zu_cq μ o 6 24 240 = μa) : (zy_lvs (us s)).flatMap (zu_tb μa s) = (zy_lvs (us s)).flatMap (zu_tb μ s) := by
  obtain ⟨⟨abo, hIo⟩, hndo, hwo⟩ := h.2.2.2.2.1 o ho
  obtain ⟨⟨abs, hIs⟩, hnds, hws⟩ := h.2.2.2.2.1 s hs
  have tq := zu_cq_eqT (μ := μ) (f := o) (t := 6)
  have fq : zu_fr 6 μ (zu_cq μ o 6 24 240) := zu_cq_fr
  rw [hμa] at fq tq
  have ts := fq.eqT (τ := s) (by omega)
  have etb : ∀ n ∈ zy_lvs (us s), zu_tb μa s n = zu_tb μ s n := fun n hn => ts.tb (zu_I_lt hIs hn) (zu_I_tbl hIs hn)
  exact zl_flat_congr _ etb
set_option maxRecDepth 100000 in
theorem zv_gn1c (D : Nat) {μa : zm_M} {s : Nat} {uo : zy_F} {abo abs} (hs : s < 3) (emp : Bool) (hIa : zu_I μa 6 uo abo) (hIas : zu_I μa s (us s) abs) (he : emp = true → uo = .nil) (he' : emp = false → zy_wf uo) (eW : (zy_lvs (us s)).flatMap (zu_tb μa s) = (zy_lvs (us s)).flatMap (zu_tb μ s)) (hl : ((if emp = true then [] else zu_tb μa 6 ((zy_lvs uo).getD 0 0)) ++ (zy_lvs (us s)).flatMap (zu_tb μa s)).length ≤ 10) : ∃ ξ ξ2 n0 W, (zy_lvs (us s)).flatMap (zu_tb μ s) = W ∧ ze_E (D + 27) A_Mod_moveTabs [.ref 232, .int (nI s), .int 6] (zm_mk μa) (some (.int (nI W.length))) (zm_mk ξ2) ∧ zu_frv μa ξ ∧ zu_AD ξ 6 uo emp W ξ2 n0 := by
  have q6 : nI 6 = (6 : Int32) := by decide
  obtain ⟨ξ, ξ2, n0, E3, fv, hA⟩ := ze_MmoveTabs (μ := μa) (u := uo) (uf := us s) D (f := s) (τ := 6) (emp := emp) (by omega) (by decide) (by omega) hIa hIas he he' hl
  rw [eW] at E3 hA
  rw [q6] at E3
  exact ⟨ξ, ξ2, n0, _, rfl, E3, fv, hA⟩
theorem zv_gn1 (D : Nat) (h : zR μ row stk us) {s o : Nat} (hs : s < 3) (ho : o < 3) (hso : s ≠ o) : ∃ emp μa ξ ξ2 n0 W, ((emp = true → us o = .nil) ∧ (emp = false → zy_wf (us o)) ∧ (zy_lvs (us s)).flatMap (zu_tb μ s) = W ∧ zu_cq μ o 6 24 240 = μa) ∧ ze_E (D + 27) A_Mod_copyTree [.ref 232, .int (nI o), .int 6] (zm_mk μ) none (zm_mk μa) ∧ ze_E (D + 27) A_Mod_moveTabs [.ref 232, .int (nI s), .int 6] (zm_mk μa) (some (.int (nI W.length))) (zm_mk ξ2) ∧ zu_frv μa ξ ∧ zu_AD ξ 6 (us o) emp W ξ2 n0 ∧ W.length ≤ 10 ∧ ∀ c d, ¬ (c = 231 ∧ d = 30) → c ≠ 259 → ¬ zu_in 6 c d → ξ2 c d = μ c d := by
  obtain ⟨⟨abo, hIo⟩, hndo, hwo⟩ := h.2.2.2.2.1 o ho
  obtain ⟨⟨abs, hIs⟩, hnds, hws⟩ := h.2.2.2.2.1 s hs
  obtain ⟨hWd, hWm⟩ := zR_W h hs
  obtain ⟨μa, hμa, E2⟩ := zv_gn1a (μ := μ) D ho
  have eW := zv_gn1b h hs ho hso hμa
  have tq := zu_cq_eqT (μ := μ) (f := o) (t := 6)
  have fq : zu_fr 6 μ (zu_cq μ o 6 24 240) := zu_cq_fr
  rw [hμa] at fq tq
  have hIa := tq.I hIo
  have hIas := (fq.eqT (τ := s) (by omega)).I hIs
  have hemp : ∃ emp : Bool, (emp = true → us o = .nil) ∧ (emp = false → zy_wf (us o)) := by
    rcases zu_I_or hIo with e | e
    · exact ⟨true, fun _ => e, fun z => by cases z⟩
    · exact ⟨false, (fun z => by cases z), fun _ => e⟩
  obtain ⟨emp, he, he'⟩ := hemp
  have hl : ((if emp = true then [] else zu_tb μa 6 ((zy_lvs (us o)).getD 0 0)) ++ (zy_lvs (us s)).flatMap (zu_tb μa s)).length ≤ 10 := by
    rw [eW]
    cases emp with
    | true =>
      rw [if_pos rfl, List.nil_append]
      exact zv_nodup10 hWd (fun x hx => (hWm x hx).1)
    | false =>
      rw [if_neg Bool.false_ne_true]
      have hm := zl_mem (zy_lvs_pos (he' rfl))
      rw [tq.tb (zu_I_lt hIo hm) (zu_I_tbl hIo hm)]
      refine zv_nodup10 (List.nodup_append.mpr ⟨hndo.1 _ hm, hWd, fun x hx y hy e => ?_⟩) (fun x hx => ?_)
      · have e1 := (hWm y hy).2.2
        have e2 := (hwo _ hm x hx).2
        rw [e] at e2
        exact hso ((nI_eq (by omega) (by omega)).mp (e1.symm.trans e2))
      · rcases List.mem_append.mp hx with hx | hx
        · exact (zu_I_tb hIo hm).2.2 x hx
        · exact (hWm x hx).1
  obtain ⟨ξ, ξ2, n0, W, hW, E3, fv, hA⟩ := zv_gn1c D hs emp hIa hIas he he' eW hl
  exact ⟨emp, μa, ξ, ξ2, n0, W, ⟨he, he', hW, hμa⟩, E2, E3, fv, hA, (by rw [← hW]; exact zv_nodup10 hWd (fun x hx => (hWm x hx).1)), fun c d r1 r2 r3 => (hA.2.1 c d r3).trans ((fv c d r1 r2).trans (fq c d r3))⟩
set_option maxRecDepth 100000 in
theorem ze_Mgone (D : Nat) (h : zR μ row stk us) (w : Int32) : ∃ ν v, ze_E (D + 28) A_Mod_gone [.ref 232, .int w] (zm_mk μ) (some (.int v)) (zm_mk ν) ∧ zv_gon μ ν us w := by
  have n1 : Int32.ofInt (-1000000001) = -1000000001 := by decide
  have n2 : Int32.ofInt (-1000000002) = -1000000002 := by decide
  have h6 : (Int8.ofInt 6).toInt32 = (6 : Int32) := by decide
  have q6 : nI 6 = (6 : Int32) := by decide
  obtain ⟨lc, cM⟩ := zM_c (μ := μ)
  rcases zM_isIn (hp := zm_mk μ) (D + 26) w (n := 2) (b := 2) (by decide) (by decide) with ⟨s, hs, rfl, N1, E1⟩ | ⟨⟨N1, E1⟩, hno⟩
  · have hs : s < 3 := hs
    have is : zi_in (nI s) 3 = true := zm_in hs (by decide)
    have cs : (nI s).toNatClampNeg = s := nI_clamp (by omega)
    obtain ⟨L1, S1, nl1, a0, a1, a2⟩ := zv_gn0 (μ := μ) D hs E1
    have hlso : zv_lso μ s = zl_fi (fun k => decide (¬ nI k = nI s ∧ 0 < μ 232 k)) (-1) 3 0 := rfl
    by_cases c0 : μ 232 s = 0
    · refine ⟨μ, -1000000002, ze_in [(0, .ref 232), (1, .int (nI s))] zq_Mod_gone (Nat.le_of_ble_eq_true rfl) rfl (S1.end ⟨0, 7, fun F n hF => ?_⟩), Or.inl ⟨fun ⟨s', o, b1, b2, b3, b4, _⟩ => ?_, rfl⟩⟩
      · simp [zg_0, zg_aload_n, zg_bastore, zg_bipush, zg_getfield, zg_goto, zg_iadd, zg_iaload, zg_iastore, zg_iconst, zg_ifCond, zg_if_icmp, zg_iinc, zg_iload, zg_iload_n, zg_imul, zg_invokestatic, zg_invokevirtual, zg_ireturn, zg_istore, zg_istore_n, zg_ldc, zf_X6_gone, zi_ld, zi_lda, zi_cmp, zi_retOk, zi_isI, zi_f3, zi_cr, zi_ci, zi_cn, a0, a1, zM_g, zm_iald (k := 0) zM_A232 is, cs, c0, n2]
      · rw [← (nI_eq (by omega) (by omega)).mp b3] at b4
        exact b4 c0
    · rcases zl_fi_spec (fun k => decide (¬ nI k = nI s ∧ 0 < μ 232 k)) (-1) 3 0 with ⟨o, -, ho, po, -, eo⟩ | ⟨-, eo⟩
      · have ho : o < 3 := by omega
        rw [← hlso] at eo
        obtain ⟨p1, p2⟩ := of_decide_eq_true po
        have hso : s ≠ o := fun e => p1 (by rw [e])
        have eo' := eo
        rw [eo] at a2
        have io : zi_in (nI o) 3 = true := zm_in ho (by decide)
        have co : (nI o).toNatClampNeg = o := nI_clamp (by omega)
        have m1 : (0 : Int32) ≤ nI o := Int32.not_lt.mp (nI_pos (by omega))
        obtain ⟨emp, μa, ξ, ξ2, n0, W, ⟨he, he', hW, hμa⟩, ⟨N2, E2⟩, ⟨N3, E3⟩, fv, hA, hW10, f2⟩ := zv_gn1 D h hs ho hso
        have f23 : ∀ c d, 232 ≤ c → c < 243 → ξ2 c d = μ c d := fun c d r1 r2 => f2 c d (by omega) (by omega) (zu_in_not (Or.inl r2))
        obtain ⟨ab2, hI2⟩ := hA.1
        have hsz := h.2.2.2.2.2.2 o ho
        obtain ⟨N4, E4⟩ := ze_Mfits (μ := ξ2) (D + 1) (τ := 6) (by decide) hI2 hsz.1 hsz.2
        rw [q6] at E4
        generalize hb0 : zu_fit ξ2 6 (zy_ad emp (us o) W n0) (μ 232 o) (μ 233 o) = b0 at E4
        have S2 := zv_gn2 (W := W) (b0 := b0) D hs ho c0 L1 nl1 a0 a1 a2 E2 E3 (f23 232 o (by decide) (by decide)) (f23 233 o (by decide) (by decide)) E4
        obtain ⟨L2, h2, S3, nl2, b0', b1, b2, b3, b4, rfl⟩ := zv_gnB (μ := ξ2) (D + 26) hs ho b0 W.length (zi_set (zi_set (zi_set L1 3 (.int (nI W.length))) 4 (.int (if b0 = true then 1 else 0))) 5 (.int (nI 0))) (zi_nl_i (zi_nl_i (zi_nl_i nl1))) (by have nl := nl1; simp (maxDischargeDepth := 9) [zi_get_ne, zi_nl_i, zi_nl_r, zi_get_set_eq, nl, a0]) (by have nl := nl1; simp (maxDischargeDepth := 9) [zi_get_ne, zi_nl_i, zi_nl_r, zi_get_set_eq, nl, a1]) (by have nl := nl1; simp (maxDischargeDepth := 9) [zi_get_ne, zi_nl_i, zi_nl_r, zi_get_set_eq, nl, a2]) (by have nl := nl1; simp (maxDischargeDepth := 9) [zi_get_ne, zi_nl_i, zi_nl_r, zi_get_set_eq, nl]) (by have nl := nl1; simp (maxDischargeDepth := 9) [zi_get_ne, zi_nl_i, zi_nl_r, zi_get_set_eq, nl]) zi_get_set_eq
        have eon : (fun k => zv_on ξ2 k (nI s)) = fun k => zv_on μ k (nI s) := funext fun k => by
          unfold zv_on
          rw [f23 234 k (by decide) (by decide), f23 238 k (by decide) (by decide)]
        have egr : zv_grm ξ2 s o = zv_grm μ s o := funext fun k => by
          unfold zv_grm zv_on
          rw [f23 234 k (by decide) (by decide), f23 238 k (by decide) (by decide), f23 235 k (by decide) (by decide), f23 236 k (by decide) (by decide), f23 232 o (by decide) (by decide), f23 233 o (by decide) (by decide)]
        rw [eon] at b3
        rw [egr] at b4
        have tail : (zv_gd (zv_grm μ s o) b0 10 = false ∧ ∃ v, ze_G (D + 27) 7 (some .int) zc_X6_gone 174 L2 [] (zm_mk ξ2) (some (.int v)) (zm_mk ξ2)) ∨ (zv_gd (zv_grm μ s o) b0 10 = true ∧ ∃ ν v, ze_G (D + 27) 7 (some .int) zc_X6_gone 174 L2 [] (zm_mk ξ2) (some (.int v)) (zm_mk ν) ∧ zv_gne μ ξ2 ν s o (W.length + zl_ct (fun k => zv_on μ k (nI s)) 10)) := by
          generalize zv_gd (zv_grm μ s o) b0 10 = good at b4
          generalize hn : W.length + zl_ct (fun k => zv_on μ k (nI s)) 10 = n at b3
          cases good with
          | false =>
            have b4 : zi_get L2 4 = some (.int 0) := b4
            refine Or.inl ⟨rfl, -1000000002, 0, 4, fun F m hF => ?_⟩
            simp [zg_0, zg_aload_n, zg_bastore, zg_bipush, zg_getfield, zg_goto, zg_iadd, zg_iaload, zg_iastore, zg_iconst, zg_ifCond, zg_if_icmp, zg_iinc, zg_iload, zg_iload_n, zg_imul, zg_invokestatic, zg_invokevirtual, zg_ireturn, zg_istore, zg_istore_n, zg_ldc, zf_X6_gone, zi_ld, zi_lda, zi_cmp, zi_retOk, zi_isI, zi_f3, zi_cr, zi_ci, zi_cn, b4, n2]
          | true =>
            have b4 : zi_get L2 4 = some (.int 1) := b4
            have hn31 : n < 2 ^ 31 := by
              have := zl_ct_le (fun k => zv_on μ k (nI s)) 10
              omega
            obtain ⟨ν, G, q⟩ := zv_gn3 (μ := μ) D hs ho hso h.1 f2 hn31 L2 nl2 b0' b1 b2 b3 b4
            exact Or.inr ⟨rfl, ν, nI n, G, q⟩
        rcases tail with ⟨q1, v, G⟩ | ⟨q1, ν, v, G, q2⟩
        · refine ⟨ξ2, v, ze_in [(0, .ref 232), (1, .int (nI s))] zq_Mod_gone (Nat.le_of_ble_eq_true rfl) rfl ((S1.end (S2.end (S3.end G)))), Or.inr ⟨s, o, emp, ξ, ξ2, n0, W, hs, ho, hso, rfl, c0, p2, eo', he, he', hW.symm, by rw [hμa]; exact fv, hA, Or.inl ⟨by rw [hb0]; exact q1, rfl⟩⟩⟩
        · refine ⟨ν, v, ze_in [(0, .ref 232), (1, .int (nI s))] zq_Mod_gone (Nat.le_of_ble_eq_true rfl) rfl ((S1.end (S2.end (S3.end G)))), Or.inr ⟨s, o, emp, ξ, ξ2, n0, W, hs, ho, hso, rfl, c0, p2, eo', he, he', hW.symm, by rw [hμa]; exact fv, hA, Or.inr ⟨by rw [hb0]; exact q1, q2⟩⟩⟩
      · rw [← hlso] at eo
        rw [eo] at a2
        have m1 : ¬ (0 : Int32) ≤ -1 := by decide
        refine ⟨μ, -1000000002, ze_in [(0, .ref 232), (1, .int (nI s))] zq_Mod_gone (Nat.le_of_ble_eq_true rfl) rfl ((S1.end ⟨0, 9, fun F n hF => ?_⟩)), Or.inl ⟨fun ⟨s', o, b1, b2, b3, b4, b5⟩ => ?_, rfl⟩⟩
        · simp [zg_0, zg_aload_n, zg_bastore, zg_bipush, zg_getfield, zg_goto, zg_iadd, zg_iaload, zg_iastore, zg_iconst, zg_ifCond, zg_if_icmp, zg_iinc, zg_iload, zg_iload_n, zg_imul, zg_invokestatic, zg_invokevirtual, zg_ireturn, zg_istore, zg_istore_n, zg_ldc, zf_X6_gone, zi_ld, zi_lda, zi_cmp, zi_retOk, zi_isI, zi_f3, zi_cr, zi_ci, zi_cn, a0, a1, a2, zM_g, zm_iald (k := 0) zM_A232 is, cs, c0, m1, n2]
        · rw [← (nI_eq (by omega) (by omega)).mp b3, eo] at b5
          have : nI o < 0 := by rw [← b5]; decide
          exact nI_pos (by omega) this
  · refine ⟨μ, -1000000001, ze_in [(0, .ref 232), (1, .int w)] zq_Mod_gone (Nat.le_of_ble_eq_true rfl) rfl ⟨N1, 7, fun F n hF => ?_⟩, Or.inl ⟨fun ⟨s', o, b1, b2, b3, _⟩ => hno s' (by omega) b3, rfl⟩⟩
    simp [zg_0, zg_aload_n, zg_bastore, zg_bipush, zg_getfield, zg_goto, zg_iadd, zg_iaload, zg_iastore, zg_iconst, zg_ifCond, zg_if_icmp, zg_iinc, zg_iload, zg_iload_n, zg_imul, zg_invokestatic, zg_invokevirtual, zg_ireturn, zg_istore, zg_istore_n, zg_ldc, zf_X6_gone, zi_ld, zi_lda, zi_cmp, zi_retOk, zi_isI, zi_f3, zi_cr, zi_ci, zi_cn, zi_get, zi_set, zq_Mod_isIn, E1 F (by omega), n1]
end ZWK2
end
section
/-! class and reference side by side -/
section ZKA
variable {μ ν ξ : zm_M} {row stk : List Nat} {Rs : Nat → List Nat} {ts : Nat → zy_F}
theorem zJ.low (h : zJ μ row stk Rs ts) (e : ∀ c, c < 231 → ν c = μ c) : zJ ν row stk Rs ts := by
  obtain ⟨h1, h2, h3, h4, h5, h6⟩ := h
  have eW : ∀ k, k < 10 → ν (zdW k) = μ (zdW k) := fun k hk => e _ (by unfold zdW; omega)
  have eL : ∀ k, k < 10 → ν (zdW k + 1) = μ (zdW k + 1) := fun k hk => e _ (by unfold zdW; omega)
  have eT : ∀ s, s < 3 → ∀ j, j < 19 → ν (zdT s + j) = μ (zdT s + j) := fun s hs j hj => e _ (by unfold zdT; omega)
  have eV : ∀ s, s < 3 → ∀ j, j < 19 → ν (zdV s + j) = μ (zdV s + j) := fun s hs j hj => e _ (by unfold zdV; omega)
  have th : ∀ k, k < 10 → zd_th ν k = zd_th μ k := fun k hk => by unfold zd_th; rw [eW k hk]
  have til : ∀ k, k < 10 → zd_til ν k = zd_til μ k := fun k hk => by unfold zd_til; rw [eW k hk]
  refine ⟨⟨zr_L_congr (e _ (by decide)) (e _ (by decide)) h1.1, h1.2.1, fun k => ?_⟩, ⟨zr_L_congr (e _ (by decide)) (e _ (by decide)) h2.1, h2.2⟩, fun k hk ht => ?_, fun s hs => ?_, fun s hs => ?_, fun s hs ht => ?_⟩
  · rw [h1.2.2 k]
    constructor
    · rintro ⟨a, b⟩
      exact ⟨a, by rw [th k a]; exact b⟩
    · rintro ⟨a, b⟩
      exact ⟨a, by rw [← th k a]; exact b⟩
  · rw [th k hk] at ht
    obtain ⟨a1, a2, a3, a4, a5⟩ := h3 k hk ht
    rw [eW k hk, eL k hk]
    refine ⟨a1, a2, fun q => ?_, fun q => ?_, a5⟩
    · obtain ⟨s, b1, b2, b3⟩ := a3 q
      exact ⟨s, b1, b2, by rw [e _ (by unfold zdS; omega)]; exact b3⟩
    · obtain ⟨o, b1, b2, b3, b4⟩ := a4 q
      exact ⟨o, b1, b2, b3, by rw [th o b1]; exact b4⟩
  · obtain ⟨a1, a2, a3⟩ := h4 s hs
    refine ⟨zt_C_19 (eT s hs) a1, fun k => ?_, fun k hk => ?_⟩
    · rw [a2 k]
      constructor
      · rintro ⟨b1, b2⟩
        exact ⟨b1, by rw [til k b1, eW k b1]; exact b2⟩
      · rintro ⟨b1, b2⟩
        exact ⟨b1, by rw [til k b1, eW k b1] at b2; exact b2⟩
    · have hk10 := ((a2 k).mp hk).1
      rw [eT s hs 5 (by omega), eT s hs 6 (by omega), eL k hk10]
      exact a3 k hk
  · obtain ⟨a1, a2⟩ := h5 s hs
    refine ⟨zt_C_19 (eV s hs) a1, fun q => ?_⟩
    rw [e _ (by unfold zdK; omega)] at q
    obtain ⟨b1, b2, b3⟩ := a2 q
    refine ⟨by rw [e _ (by unfold zdS; omega)]; exact b1, fun k hk => ?_, fun k hk hq => ?_⟩
    · have hk10 := a1.1.1.2.2 k hk
      rw [eV s hs 5 (by omega), eV s hs 6 (by omega), eL k hk10, til k hk10]
      exact b2 k hk
    · rw [e _ (by unfold zdQ; omega)] at hq
      rw [th k hk, eW k hk]
      exact b3 k hk hq
  · rw [e _ (by unfold zdS; omega)] at ht
    obtain ⟨a1, a2⟩ := h6 s hs ht
    rw [e _ (by unfold zdZ; omega)]
    refine ⟨a1, ?_⟩
    unfold zt_fit at *
    rw [zt_lsz_19 (eT s hs) (by decide), zt_lsz_19 (eT s hs) (by decide), e _ (by unfold zdZ; omega)]
    exact a2

end ZKA
/-- windows and screens are the same -/
noncomputable def zK_w (ξ μ : zm_M) : Prop :=
  (∀ k, k < 10 → (zd_th ξ k = false → μ 234 k = 0) ∧ (zd_th ξ k = true → μ 234 k = ξ (zdW k) 3 ∧ (μ 235 k = ξ (zdW k + 1) 0 ∧ μ 236 k = ξ (zdW k + 1) 1) ∧ (ξ (zdW k) 3 = 3 → μ 237 k = ξ (zdW k) 4) ∧ (¬ ξ (zdW k) 3 = 4 → μ 238 k = ξ (zdW k) 5))) ∧
  ∀ s, s < 3 → (ξ (zdS s) 3 = 0 → μ 232 s = 0 ∧ μ 233 s = 0) ∧ (¬ ξ (zdS s) 3 = 0 → μ 232 s = ξ (zdZ s) 0 ∧ μ 233 s = ξ (zdZ s) 1)
/-- a dialog is where its owner is; what is kept with it is kept with its owner -/
noncomputable def zK_d (ξ : zm_M) : Prop := ∀ k, k < 10 → zd_th ξ k = true → ξ (zdW k) 3 = 3 → ∃ o, o < 10 ∧ ξ (zdW k) 4 = nI o ∧ ¬ ξ (zdW o) 3 = 4 ∧ ξ (zdW k) 5 = ξ (zdW o) 5 ∧ ∀ s, s < 3 → zd_has ξ s k = true → zd_has ξ s o = true
/-- what is kept is the same -/
noncomputable def zK_k (ξ μ : zm_M) (Rs : Nat → List Nat) (ts us : Nat → zy_F) : Prop :=
  (∀ d, d < 30 → μ 252 d = 0 ∨ μ 252 d = 1) ∧ ∀ s, s < 3 → (μ 251 s = 0 ↔ ξ (zdK s) 3 = 0) ∧ (¬ ξ (zdK s) 3 = 0 → (∀ k, k < 10 → (¬ μ 252 (10 * s + k) = 0 ↔ zd_has ξ s k = true)) ∧ zs ξ (zdV s) (Rs (3 + s)) (ts (3 + s)) μ (3 + s) (us (3 + s)))
/-- but for the rows -/
noncomputable def zK0 (ξ μ : zm_M) (ord : List Nat) (Rs : Nat → List Nat) (ts us : Nat → zy_F) : Prop :=
  zK_w ξ μ ∧ zK_d ξ ∧ zv_ord μ ord ∧ (∀ s, s < 3 → zs ξ (zdT s) (Rs s) (ts s) μ s (us s)) ∧ zK_k ξ μ Rs ts us
noncomputable def zK_r (ξ μ : zm_M) (row stk : List Nat) : Prop := zv_L μ 242 12 row ∧ zv_L μ 241 10 stk ∧ stk.Nodup ∧ ∀ k, k ∈ stk ↔ k < 10 ∧ zd_flo ξ k = true
noncomputable def zK (ξ μ : zm_M) (row stkC stk ord : List Nat) (Rs : Nat → List Nat) (ts us : Nat → zy_F) : Prop :=
  zJ ξ row stkC Rs ts ∧ zK_r ξ μ row stk ∧ zK0 ξ μ ord Rs ts us
section ZKB
variable {ξ μ ξ' μ' : zm_M} {row stkC stk ord : List Nat} {Rs : Nat → List Nat} {ts us : Nat → zy_F} {T τ : Nat} {R : List Nat} {t u : zy_F}
theorem zs_tb (hI : zt_I ξ T R t) (h : zs ξ T R t μ τ u) {m : Nat} (hm : m ∈ zy_lvs u) : ∃ n ∈ zy_lvs t, zs_pl ξ T R μ τ n m := by
  rcases zs_wf hI h with ⟨rfl, rfl⟩ | ⟨wt, wu⟩
  · cases hm
  · exact zy_sim_r t wt u wu h.1 m hm
theorem zs_nd (hI : zt_I ξ T R t) (h : zs ξ T R t μ τ u) : zu_nd μ τ u ∧ ∀ m ∈ zy_lvs u, ∀ w ∈ zu_tb μ τ m, w ∈ R := by
  have hw : ∀ m ∈ zy_lvs u, ∀ w ∈ zu_tb μ τ m, w ∈ R := fun m hm w hw => by
    obtain ⟨n, hn, p⟩ := zs_tb hI h hm
    rw [p.1] at hw
    exact (zt_tb_mem.mp hw).1
  refine ⟨⟨fun m hm => ?_, fun m hm m' hm' w a b => ?_⟩, hw⟩
  · obtain ⟨n, hn, p⟩ := zs_tb hI h hm
    rw [p.1]
    exact hI.1.2.1.filter _
  · obtain ⟨n, m0, -, -, at0, -⟩ := zs_at' hI h (hw m hm w a)
    rw [at0.2.2 m hm a, at0.2.2 m' hm' b]
/-- all that matters is the same, but for the trees -/
theorem zK0.gen' {Rs' : Nat → List Nat} {ts' us' : Nat → zy_F} (h : zK0 ξ μ ord Rs ts us) (hV : ∀ s, s < 3 → zt_I ξ (zdV s) (Rs (3 + s)) (ts (3 + s))) (eW : ∀ k, k < 10 → ξ' (zdW k) = ξ (zdW k)) (eL : ∀ k, k < 10 → ξ' (zdW k + 1) = ξ (zdW k + 1)) (eS : ∀ s, s < 3 → ξ' (zdS s) = ξ (zdS s) ∧ ξ' (zdZ s) = ξ (zdZ s) ∧ ξ' (zdK s) = ξ (zdK s) ∧ ξ' (zdQ s) = ξ (zdQ s)) (eV : ∀ s, s < 3 → ∀ j, j < 19 → ξ' (zdV s + j) = ξ (zdV s + j)) (f : ∀ c d, (232 ≤ c ∧ c ≤ 238) ∨ c = 251 ∨ c = 252 → μ' c d = μ c d) (hT : ∀ s, s < 3 → zu_eqT μ (3 + s) μ' (3 + s)) (hR : ∀ s, s < 3 → Rs' (3 + s) = Rs (3 + s) ∧ ts' (3 + s) = ts (3 + s) ∧ us' (3 + s) = us (3 + s)) (hz : ∀ s, s < 3 → zs ξ' (zdT s) (Rs' s) (ts' s) μ' s (us' s)) : zK0 ξ' μ' ord Rs' ts' us' := by
  obtain ⟨h2, h3, h5, h6, h7⟩ := h
  have th : ∀ k, k < 10 → zd_th ξ' k = zd_th ξ k := fun k hk => by unfold zd_th; rw [eW k hk]
  have has : ∀ s k, s < 3 → zd_has ξ' s k = zd_has ξ s k := fun s k hs => by unfold zd_has; rw [(eS s hs).2.2.1, (eS s hs).2.2.2, eV s hs 3 (by decide)]
  refine ⟨⟨fun k hk => ?_, fun s hs => ?_⟩, fun k hk a b => ?_, ⟨h5.1, fun x => ?_, fun x hx a => ?_⟩, hz, fun d hd => ?_, fun s hs => ?_⟩
  · rw [th k hk, eW k hk, eL k hk, f 234 k (by omega), f 235 k (by omega), f 236 k (by omega), f 237 k (by omega), f 238 k (by omega)]
    exact h2.1 k hk
  · rw [(eS s hs).1, (eS s hs).2.1, f 232 s (by omega), f 233 s (by omega)]
    exact h2.2 s hs
  · rw [th k hk] at a
    rw [eW k hk] at b ⊢
    obtain ⟨o, ho, q1, q2, q3, q4⟩ := h3 k hk a b
    refine ⟨o, ho, q1, by rw [eW o ho]; exact q2, by rw [eW o ho]; exact q3, fun s hs z => ?_⟩
    rw [has s _ hs] at z ⊢
    exact q4 s hs z
  · rw [f 234 x (by omega)]
    exact h5.2.1 x
  · rw [f 234 x (by omega)] at a
    rw [f 237 x (by omega)]
    exact h5.2.2 x hx a
  · rw [f 252 d (by omega)]
    exact h7.1 d hd
  · rw [f 251 s (by omega), (eS s hs).2.2.1, (hR s hs).1, (hR s hs).2.1, (hR s hs).2.2]
    refine ⟨(h7.2 s hs).1, fun c => ⟨fun k hk => ?_, ?_⟩⟩
    · rw [has s k hs, f 252 _ (by omega)]
      exact ((h7.2 s hs).2 c).1 k hk
    · exact zs_cl (hV s hs) (zs_eqT (hV s hs) ((h7.2 s hs).2 c).2 (hT s hs)) (eV s hs 3 (by decide)) (eV s hs 7 (by decide)) (eV s hs 8 (by decide)) (eV s hs 12 (by decide))
theorem zK0.gen (h : zK0 ξ μ ord Rs ts us) (hI : ∀ s, s < 3 → zt_I ξ (zdT s) (Rs s) (ts s)) (hV : ∀ s, s < 3 → zt_I ξ (zdV s) (Rs (3 + s)) (ts (3 + s))) (eW : ∀ k, k < 10 → ξ' (zdW k) = ξ (zdW k)) (eL : ∀ k, k < 10 → ξ' (zdW k + 1) = ξ (zdW k + 1)) (eS : ∀ s, s < 3 → ξ' (zdS s) = ξ (zdS s) ∧ ξ' (zdZ s) = ξ (zdZ s) ∧ ξ' (zdK s) = ξ (zdK s) ∧ ξ' (zdQ s) = ξ (zdQ s)) (eT : ∀ s, s < 3 → ∀ j, j < 19 → ξ' (zdT s + j) = ξ (zdT s + j)) (eV : ∀ s, s < 3 → ∀ j, j < 19 → ξ' (zdV s + j) = ξ (zdV s + j)) (f : ∀ c d, (232 ≤ c ∧ c ≤ 238) ∨ c = 251 ∨ c = 252 → μ' c d = μ c d) (hT : ∀ τ, zu_eqT μ τ μ' τ) : zK0 ξ' μ' ord Rs ts us :=
  h.gen' hV eW eL eS eV f (fun s _ => hT _) (fun _ _ => ⟨rfl, rfl, rfl⟩) (fun s hs => zs_cl (hI s hs) (zs_eqT (hI s hs) (h.2.2.2.1 s hs) (hT _)) (eT s hs 3 (by decide)) (eT s hs 7 (by decide)) (eT s hs 8 (by decide)) (eT s hs 12 (by decide)))
theorem zK_r.gen (h : zK_r ξ μ row stk) (eW : ∀ k, k < 10 → ξ' (zdW k) = ξ (zdW k)) (fL : ∀ C q l, (C = 241 ∧ q = 10) ∨ (C = 242 ∧ q = 12) → zv_L μ C q l → zv_L μ' C q l) : zK_r ξ' μ' row stk := by
  have flo : ∀ k, k < 10 → zd_flo ξ' k = zd_flo ξ k := fun k hk => by unfold zd_flo; rw [eW k hk]
  refine ⟨fL _ _ _ (Or.inr ⟨rfl, rfl⟩) h.1, fL _ _ _ (Or.inl ⟨rfl, rfl⟩) h.2.1, h.2.2.1, fun k => ?_⟩
  rw [h.2.2.2 k]
  exact ⟨fun z => ⟨z.1, by rw [flo k z.1]; exact z.2⟩, fun z => ⟨z.1, by rw [← flo k z.1]; exact z.2⟩⟩
/-- the class's memory below 231, the reference's from there on -/
theorem zK.congr (h : zK ξ μ row stkC stk ord Rs ts us) (e : ∀ c, c < 231 → ξ' c = ξ c) (f : ∀ c, 231 ≤ c → μ' c = μ c) : zK ξ' μ' row stkC stk ord Rs ts us := by
  obtain ⟨h1, h4, h0⟩ := h
  exact ⟨h1.low e, h4.gen (fun k hk => e _ (by unfold zdW; omega)) (fun C q l hC g => ⟨g.1, by rw [f 231 (Nat.le_refl _)]; exact g.2.1, fun j hj => by rw [f C (by omega)]; exact g.2.2 j hj⟩),
    h0.gen (fun s hs => (h1.2.2.2.1 s hs).1.1) (fun s hs => (h1.2.2.2.2.1 s hs).1.1) (fun k hk => e _ (by unfold zdW; omega)) (fun k hk => e _ (by unfold zdW; omega)) (fun s hs => ⟨e _ (by unfold zdS; omega), e _ (by unfold zdZ; omega), e _ (by unfold zdK; omega), e _ (by unfold zdQ; omega)⟩) (fun s hs j hj => e _ (by unfold zdT; omega)) (fun s hs j hj => e _ (by unfold zdV; omega)) (fun c d r => by rw [f c (by omega)]) (fun τ => zu_eq_in (fun c d r => by rw [f c (Nat.le_of_not_lt fun z => zu_in_not (Or.inl (by omega)) r)]))⟩
/-- a question asked on both sides -/
theorem zK.scr (h : zK ξ μ row stkC stk ord Rs ts us) (e : zJ_eqv ξ ξ') (f : zM_fr μ μ') : zK ξ' μ' row stkC stk ord Rs ts us := by
  obtain ⟨h1, h4, h0⟩ := h
  exact ⟨h1.eqv e, h4.gen (fun k hk => e _ (zJn_W hk).1) (fun C q l hC g => f.L (by omega) (by omega) g),
    h0.gen (fun s hs => (h1.2.2.2.1 s hs).1.1) (fun s hs => (h1.2.2.2.2.1 s hs).1.1) (fun k hk => e _ (zJn_W hk).1) (fun k hk => e _ (zJn_W hk).2) (fun s hs => ⟨e _ (zJn_S hs).1, e _ (zJn_S hs).2.1, e _ (zJn_S hs).2.2.1, e _ (zJn_S hs).2.2.2⟩) (fun s hs j hj => e _ (zJn_T hs hj).1) (fun s hs j hj => e _ (zJn_T hs hj).2) (fun c d r => f c d (by omega) (by omega) (by omega) (by omega)) (fun τ => f.eqT)⟩
/-- the sizes of tabs -/
theorem zK_sz (h : zK ξ μ row stkC stk ord Rs ts us) {s : Nat} (hs : s < 3) : zs_sz ξ (zdT s) (Rs s) μ := fun a ha w hw => by
  obtain ⟨h1, -, h2, -⟩ := h
  obtain ⟨-, b2, b3⟩ := h1.2.2.2.1 s hs
  obtain ⟨hw10, ht, -⟩ := (b2 w).mp hw
  have hth : zd_th ξ w = true := decide_eq_true (of_decide_eq_true ht).1
  obtain ⟨e5, e6⟩ := b3 w hw
  obtain ⟨-, ⟨f5, f6⟩, -⟩ := (h2.1 w hw10).2 hth
  rcases (by omega : a = 0 ∨ a = 1) with rfl | rfl
  · show μ 235 w = ξ (zdT s + 5) w
    rw [e5, f5]
  · show μ 236 w = ξ (zdT s + 6) w
    rw [e6, f6]
theorem zK_R (h : zK ξ μ row stkC stk ord Rs ts us) : zR μ row stk us := by
  obtain ⟨h1, h4, h2, h3, h5, h6, h7⟩ := h
  have hth : ∀ k, k < 10 → (¬ μ 234 k = 0 ↔ zd_th ξ k = true) := fun k hk => by
    cases c : zd_th ξ k with
    | false => exact ⟨fun z => absurd ((h2.1 k hk).1 c) z, fun z => by cases z⟩
    | true =>
      refine ⟨fun _ => rfl, fun _ => ?_⟩
      rw [((h2.1 k hk).2 c).1]
      rcases (h1.2.2.1 k hk c).1 with e | e | e | e <;> rw [e] <;> decide
  refine ⟨fun k hk => ?_, ⟨h4.1, h1.1.2.1, fun k => ?_⟩, ⟨h4.2.1, h4.2.2.1, fun k => ?_⟩, zv_ord_rk h5, fun q hq => ?_, fun k hk a b => ?_, fun q hq => ?_⟩
  · cases c : zd_th ξ k with
    | false => exact Or.inl ((h2.1 k hk).1 c)
    | true => rw [((h2.1 k hk).2 c).1]; exact Or.inr (h1.2.2.1 k hk c).1
  · rw [h1.1.2.2 k]
    exact ⟨fun z => ⟨z.1, (hth k z.1).mpr z.2⟩, fun z => ⟨z.1, (hth k z.1).mp z.2⟩⟩
  · rw [h4.2.2.2 k]
    refine and_congr_right (fun hk => ?_)
    cases c : zd_th ξ k with
    | false =>
      rw [(h2.1 k hk).1 c]
      exact ⟨fun z => (by
        have q : zd_th ξ k = true := decide_eq_true (of_decide_eq_true z).1
        rw [c] at q
        cases q), fun z => absurd z (by decide)⟩
    | true =>
      rw [((h2.1 k hk).2 c).1]
      have c2 := of_decide_eq_true c
      refine ⟨fun z => ?_, fun z => decide_eq_true ⟨c2, fun e => ?_⟩⟩
      · have z2 := (of_decide_eq_true z).2
        rcases (h1.2.2.1 k hk c).1 with e | e | e | e
        · exact absurd e z2
        all_goals rw [e]; decide
      · rw [e] at z
        exact absurd z (by decide)
  · have hC := (h1.2.2.2.1 q hq).1
    obtain ⟨n1, n2⟩ := zs_nd hC.1 (h6 q hq)
    refine ⟨(h6 q hq).2, n1, fun m hm w hw => ?_⟩
    obtain ⟨hw10, ht, hsc⟩ := ((h1.2.2.2.1 q hq).2.1 w).mp (n2 m hm w hw)
    obtain ⟨t1, t2⟩ := of_decide_eq_true ht
    obtain ⟨e1, -, -, e4⟩ := (h2.1 w hw10).2 (decide_eq_true t1)
    exact ⟨e1.trans t2, (e4 (by rw [t2]; decide)).trans hsc⟩
  · have c := (hth k hk).mp a
    obtain ⟨e1, -, -, e4⟩ := (h2.1 k hk).2 c
    rw [e1] at b ⊢
    obtain ⟨-, -, w3, -⟩ := h1.2.2.1 k hk c
    obtain ⟨s, hs, q1, q2⟩ := w3 b
    obtain ⟨z1, -⟩ := (h2.2 s hs).2 q2
    refine ⟨s, hs, (e4 b).trans q1, ?_, fun e => ?_⟩
    · rw [z1]
      have := (h1.2.2.2.2.2 s hs q2).1.1
      exact Int32.lt_of_lt_of_le (by decide) this
    · have hk' : k ∈ Rs s := ((h1.2.2.2.1 s hs).2.1 k).mpr ⟨hk, decide_eq_true ⟨of_decide_eq_true c, e⟩, q1⟩
      obtain ⟨n, m, -, -, hat, -⟩ := zs_at' (h1.2.2.2.1 s hs).1.1 (h6 s hs) hk'
      exact ⟨m, hat⟩
  · by_cases c : ξ (zdS q) 3 = 0
    · obtain ⟨z1, z2⟩ := (h2.2 q hq).1 c
      rw [z1, z2]
      exact ⟨Int32.le_refl _, Int32.le_refl _⟩
    · obtain ⟨z1, z2⟩ := (h2.2 q hq).2 c
      obtain ⟨q1, -, q3, -⟩ := (h1.2.2.2.2.2 q hq c).1
      rw [z1, z2]
      exact ⟨Int32.le_trans (by decide) q1, Int32.le_trans (by decide) q3⟩
theorem zK_kep (h : zK ξ μ row stkC stk ord Rs ts us) : zv_kep μ us := by
  obtain ⟨h1, h4, h2, h3, h5, h6, h7⟩ := h
  refine ⟨fun s hs c => ?_, h7.1⟩
  obtain ⟨k1, k2⟩ := h7.2 s hs
  have c' : ¬ ξ (zdK s) 3 = 0 := fun z => c (k1.mpr z)
  obtain ⟨-, k3⟩ := k2 c'
  obtain ⟨a1, a2⟩ := h1.2.2.2.2.1 s hs
  obtain ⟨n1, n2⟩ := zs_nd a1.1 k3
  refine ⟨k3.2, n1, fun m hm w hw => ?_⟩
  have hwR := n2 m hm w hw
  have ht := ((a2 c').2.1 w hwR).1
  obtain ⟨t1, t2⟩ := of_decide_eq_true ht
  exact ((h2.1 w (a1.1.1.2.2 w hwR)).2 (decide_eq_true t1)).1.trans t2
end ZKB
end
