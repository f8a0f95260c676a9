/-! the reference: open -/
/-- windows there, in an order in which each dialog stands behind its owner -/
def zv_ord (μ : zm_M) (ord : List Nat) : Prop := ord.Nodup ∧ (∀ x, x ∈ ord ↔ x < 10 ∧ ¬ μ 234 x = 0) ∧ ∀ x, x < 10 → μ 234 x = 3 → ∃ o, o < 10 ∧ μ 237 x = nI o ∧ o ∈ ord ∧ ord.idxOf o < ord.idxOf x
/-- the window k has come to the screen s -/
def zv_cam (μ ν : zm_M) (k s : Nat) (kd w v o : Int32) : Prop :=
  (ν 234 k = kd ∧ ν 237 k = o ∧ ν 235 k = w ∧ ν 236 k = v ∧ (¬ kd = 4 → ν 238 k = nI s)) ∧
  ∀ c d, ¬ (c = 231 ∧ d = 30) → ¬ (234 ≤ c ∧ c ≤ 238 ∧ d = k) → c ≠ 239 → c ≠ 240 → ¬ (253 ≤ c ∧ c ≤ 261) → (kd = 1 → ¬ zu_in 6 c d ∧ ¬ zu_in s c d) → ν c d = μ c d
def zv_opn (μ ν : zm_M) (row stk : List Nat) (us : Nat → zy_F) (kd w v o : Int32) : Prop :=
  ((¬ zv_oarg μ kd w v o ∨ (∀ j, j < 10 → ¬ μ 234 j = 0) ∨ zv_osc μ row kd o = -1) ∧ ν = μ) ∨
  (zv_oarg μ kd w v o ∧ ∃ k s M, k < 10 ∧ s < 3 ∧ μ 234 k = 0 ∧ (∀ j, j < k → ¬ μ 234 j = 0) ∧ zv_osc μ row kd o = nI s ∧ 0 < μ 232 s ∧ (M 235 k = w ∧ M 236 k = v ∧ ∀ c d, ¬ (c = 235 ∧ d = k) → ¬ (c = 236 ∧ d = k) → M c d = μ c d) ∧
    ((kd = 1 ∧ ∃ lo ν3 b u', zv_los M us lo ∧ zv_tl M ν3 row (us s) s k lo b u' ∧ ((b = 0 ∧ ∀ c d, ¬ (c = 231 ∧ d = 30) → ¬ (255 ≤ c ∧ c ≤ 259) → ¬ zu_in 6 c d → ν c d = M c d) ∨ (b = 1 ∧ ∃ ν4, zv_cam μ ν4 k s kd w v o ∧ zu_eqT ν3 s ν4 s ∧ zv_foc ν4 ν row stk (zd_upd us s u') k))) ∨
     (¬ kd = 1 ∧ ((¬ kd = 4 ∧ ¬ (w ≤ μ 232 s ∧ v ≤ μ 233 s) ∧ ν = M) ∨ ((kd = 4 ∨ (w ≤ μ 232 s ∧ v ≤ μ 233 s)) ∧ ∃ ν4, zv_cam μ ν4 k s kd w v o ∧ zv_foc ν4 ν row stk us k)))))
theorem zv_kd {kd : Int32} (h : 1 ≤ kd ∧ kd ≤ 4) : kd = 1 ∨ kd = 2 ∨ kd = 3 ∨ kd = 4 := by
  rcases zd_rng kd 5 (by decide) with ⟨j, hj, rfl⟩ | e | e
  · match j, hj with
    | 0, _ => exact absurd h.1 (by decide)
    | 1, _ => exact Or.inl (by decide)
    | 2, _ => exact Or.inr (Or.inl (by decide))
    | 3, _ => exact Or.inr (Or.inr (Or.inl (by decide)))
    | 4, _ => exact Or.inr (Or.inr (Or.inr (by decide)))
  · have e1 := h.1
    rw [Int32.lt_iff_toInt_lt] at e
    rw [Int32.le_iff_toInt_le] at e1
    have z0 : (0 : Int32).toInt = 0 := by decide
    have z1 : (1 : Int32).toInt = 1 := by decide
    omega
  · have e1 := h.2
    rw [Int32.le_iff_toInt_le] at e1 e
    have z0 : (nI 5).toInt = 5 := by decide
    have z1 : (4 : Int32).toInt = 4 := by decide
    omega
section ZWS
variable {μ ν M : zm_M} {row stk ord : List Nat} {us : Nat → zy_F} {k s : Nat}
theorem zv_ord_rk (h : zv_ord μ ord) : ∃ rk, zv_rk μ rk := by
  obtain ⟨h1, h2, h3⟩ := h
  have hl : ord.length ≤ 10 := zv_nodup10 h1 (fun x hx => ((h2 x).mp hx).1)
  refine ⟨fun x => if x ∈ ord then ord.idxOf x else 0, fun x _ => ?_, fun x hx e => ?_⟩
  · show (if x ∈ ord then ord.idxOf x else 0) ≤ 9
    by_cases c : x ∈ ord
    · rw [if_pos c]
      have := List.idxOf_lt_length_iff.mpr c
      omega
    · rw [if_neg c]; omega
  · obtain ⟨o, ho, e2, e3, e4⟩ := h3 x hx e
    refine ⟨o, ho, e2, ?_⟩
    have hx' : x ∈ ord := (h2 x).mpr ⟨hx, by rw [e]; decide⟩
    show (if o ∈ ord then ord.idxOf o else 0) < (if x ∈ ord then ord.idxOf x else 0)
    rw [if_pos e3, if_pos hx']
    exact e4
theorem zv_ord_new (h : zv_ord μ ord) (hk : k < 10) (hk0 : μ 234 k = 0) (e4 : ¬ ν 234 k = 0) (eo : ∀ x, x ≠ k → ν 234 x = μ 234 x ∧ ν 237 x = μ 237 x) (hd : ν 234 k = 3 → ∃ j, j < 10 ∧ ν 237 k = nI j ∧ ¬ μ 234 j = 0) : zv_ord ν (ord ++ [k]) := by
  obtain ⟨h1, h2, h3⟩ := h
  have hkn : k ∉ ord := fun z => ((h2 k).mp z).2 hk0
  have ik : (ord ++ [k]).idxOf k = ord.length := by
    rw [List.idxOf_append, if_neg hkn]
    simp
  have im : ∀ x, x ∈ ord → (ord ++ [k]).idxOf x = ord.idxOf x := fun x hx => by rw [List.idxOf_append, if_pos hx]
  refine ⟨List.nodup_append.mpr ⟨h1, List.nodup_cons.mpr ⟨by simp, List.nodup_nil⟩, fun x hx y hy e => ?_⟩, fun x => ?_, fun x hx e => ?_⟩
  · rw [List.mem_singleton] at hy
    rw [e, hy] at hx
    exact hkn hx
  · rw [List.mem_append, List.mem_singleton]
    by_cases c : x = k
    · subst c
      exact ⟨fun _ => ⟨hk, e4⟩, fun _ => Or.inr rfl⟩
    · rw [(eo x c).1]
      exact ⟨fun z => (h2 x).mp (z.resolve_right c), fun z => Or.inl ((h2 x).mpr z)⟩
  · by_cases c : x = k
    · subst c
      obtain ⟨j, hj, e2, e3⟩ := hd e
      have hjo := (h2 j).mpr ⟨hj, e3⟩
      refine ⟨j, hj, e2, List.mem_append_left _ hjo, ?_⟩
      rw [ik, im j hjo]
      exact List.idxOf_lt_length_iff.mpr hjo
    · rw [(eo x c).1] at e
      obtain ⟨j, hj, e2, e3, e5⟩ := h3 x hx e
      have hxo := (h2 x).mpr ⟨hx, by rw [e]; decide⟩
      refine ⟨j, hj, by rw [(eo x c).2]; exact e2, List.mem_append_left _ e3, ?_⟩
      rw [im j e3, im x hxo]
      exact e5
set_option maxRecDepth 100000 in
/-- 349 on: the focus is given -/
theorem zv_op4 (D : Nat) (h : zR μ row stk us) (hord : zv_ord μ ord) {kd w v o : Int32} (ha : zv_oarg μ kd w v o) (hk : k < 10) (hk0 : μ 234 k = 0) (hc : zv_cam μ ν k s kd w v o) (hs : s < 3) {us' : Nat → zy_F} (ht : kd = 1 → ∃ m ab, zu_I ν s (us' s) ab ∧ zu_at ν s (us' s) k m) (L : zi_Lc) (g0 : zi_get L 0 = some (.ref 232)) (g6 : zi_get L 6 = some (.int (nI k))) :
    ∃ ν', ze_G (D + 28) 10 (some .int) zc_X6_open 349 L [] (zm_mk ν) (some (.int (nI k))) (zm_mk ν') ∧ zv_foc ν ν' row stk us' k := by
  obtain ⟨⟨c1, c2, c3, c4, c5⟩, fr⟩ := hc
  have hkd := zv_kd ha.1.1
  have cell : ∀ c d, ¬ (c = 231 ∧ d = 30) → ¬ (234 ≤ c ∧ c ≤ 238 ∧ d = k) → c < 239 ∨ c = 241 ∨ c = 242 → ν c d = μ c d := fun c d r1 r2 r3 => fr c d r1 r2 (by omega) (by omega) (by omega) (fun _ => ⟨zu_in_not (by omega), zu_in_not (by omega)⟩)
  have ho2 := zv_ord_new (ν := ν) hord hk hk0 (by rw [c1]; rcases hkd with e | e | e | e <;> rw [e] <;> decide) (fun x hx => ⟨cell _ _ (by omega) (by omega) (by omega), cell _ _ (by omega) (by omega) (by omega)⟩) (fun e => by
    rw [c1] at e
    rw [c2]
    exact ha.2.1 e)
  obtain ⟨rk, hr⟩ := zv_ord_rk ho2
  have hR := h.2.1
  have hS := h.2.2.1
  have hR2 : zv_L ν 242 12 row := ⟨hR.1.1, (cell _ _ (by omega) (by omega) (by omega)).trans hR.1.2.1, fun j hj => (cell _ _ (by omega) (by omega) (by omega)).trans (hR.1.2.2 j hj)⟩
  have hS2 : zv_L ν 241 10 stk := ⟨hS.1.1, (cell _ _ (by omega) (by omega) (by omega)).trans hS.1.2.1, fun j hj => (cell _ _ (by omega) (by omega) (by omega)).trans (hS.1.2.2 j hj)⟩
  obtain ⟨ν', ⟨N5, E5⟩, hf⟩ := zv_focused (μ := ν) (us := us') (D + 16) hr hk (fun e => by
    rw [c1] at e
    obtain ⟨m, ab, q1, q2⟩ := ht e
    exact ⟨s, m, ab, hs, c5 (by rw [e]; decide), q1, q2⟩) hS2 hS.2.1 (fun x hx => ((hS.2.2 x).mp hx).1) hR2 hR.2.1 (fun x hx => ((hR.2.2 x).mp hx).1)
  obtain ⟨lc6, cM6⟩ := zM_c (μ := ν)
  refine ⟨ν', ⟨N5, 5, fun F m hF => ?_⟩, hf⟩
  simp [zg_0, zg_aload_n, zg_bipush, zg_getfield, zg_goto, zg_iadd, zg_iaload, zg_iastore, zg_iconst, zg_ifCond, zg_if_icmp, zg_iload, zg_iload_n, zg_imul, zg_invokestatic, zg_invokevirtual, zg_ireturn, zg_istore, zg_isub, zg_ldc, zg_sipush, zf_X6_open, zi_ld, zi_lda, zi_cmp, zi_retOk, zi_isI, zi_f3, zi_cr, zi_ci, zi_cn, g0, g6, cM6, zq_Mod_focused, E5 F (by omega)]
set_option maxRecDepth 100000 in
theorem ze_Mopen (D : Nat) (h : zR μ row stk us) (hord : zv_ord μ ord) (kd w v o : Int32) : ∃ ν r, ze_E (D + 29) A_Mod_open [.ref 232, .int kd, .int w, .int v, .int o] (zm_mk μ) (some (.int r)) (zm_mk ν) ∧ zv_opn μ ν row stk us kd w v o := by
  have n2 : Int32.ofInt (-1000000002) = -1000000002 := by decide
  have h10 : (Int8.ofInt 10).toInt32 = (10 : Int32) := by decide
  have enter : ∀ {ν r}, ze_G (D + 28) 10 (some .int) zc_X6_open 0 [(0, .ref 232), (1, .int kd), (2, .int w), (3, .int v), (4, .int o)] [] (zm_mk μ) (some (.int r)) (zm_mk ν) → ze_E (D + 29) A_Mod_open [.ref 232, .int kd, .int w, .int v, .int o] (zm_mk μ) (some (.int r)) (zm_mk ν) := fun G => ze_in [(0, .ref 232), (1, .int kd), (2, .int w), (3, .int v), (4, .int o)] zq_Mod_open (Nat.le_of_ble_eq_true rfl) rfl G
  rcases zv_op0 (D + 25) h kd w v o with ⟨ha, g, S0⟩ | ⟨ha, G⟩
  · rcases zv_op1 (D + 25) h (g := g) ha with ⟨q, r, G⟩ | ⟨k, s, hk, hs, hk0, hkl, eo, hst, S1⟩
    · exact ⟨μ, r, enter (S0.end G), Or.inl ⟨Or.inr q, rfl⟩⟩
    · have ik : zi_in (nI k) 10 = true := zm_in hk (by decide)
      have ck : (nI k).toNatClampNeg = k := nI_clamp (by omega)
      have is : zi_in (nI s) 3 = true := zm_in hs (by decide)
      have cs : (nI s).toNatClampNeg = s := nI_clamp (by omega)
      have S2 : ze_S (D + 28) 10 (some .int) zc_X6_open 127 [(7, .int (nI s)), (6, .int (nI k)), (5, .int g), (0, .ref 232), (1, .int kd), (2, .int w), (3, .int v), (4, .int o)] [] (zm_mk μ) 143 [(7, .int (nI s)), (6, .int (nI k)), (5, .int g), (0, .ref 232), (1, .int kd), (2, .int w), (3, .int v), (4, .int o)] [] (zm_mk (zm_up (zm_up μ 235 k w) 236 k v)) := by
        refine ⟨0, 10, fun F m hF => ?_⟩
        simp [zg_0, zg_aload_n, zg_bipush, zg_getfield, zg_goto, zg_iadd, zg_iaload, zg_iastore, zg_iconst, zg_ifCond, zg_if_icmp, zg_iload, zg_iload_n, zg_imul, zg_invokestatic, zg_invokevirtual, zg_ireturn, zg_istore, zg_isub, zg_ldc, zg_sipush, zf_X6_open, zi_ld, zi_lda, zi_cmp, zi_retOk, zi_isI, zi_f3, zi_cr, zi_ci, zi_cn, zi_get, zi_set, zM_g, zm_iast zM_A235 ik, zm_iast zM_A236 ik, ck]
      have m1 : zm_up (zm_up μ 235 k w) 236 k v 235 k = w := by rw [zm_up_ne (by omega), zm_up_eq]
      have m2 : zm_up (zm_up μ 235 k w) 236 k v 236 k = v := zm_up_eq
      have fM : ∀ c d, ¬ (c = 235 ∧ d = k) → ¬ (c = 236 ∧ d = k) → zm_up (zm_up μ 235 k w) 236 k v c d = μ c d := fun c d r1 r2 => by rw [zm_up_ne r2, zm_up_ne r1]
      generalize zm_up (zm_up μ 235 k w) 236 k v = M at S2 m1 m2 fM
      obtain ⟨lcM, cMM⟩ := zM_c (μ := M)
      have SS := S0.trans (S1.trans S2)
      -- kind and owner
      have S5 : ∀ X : zm_M, ze_S (D + 28) 10 (some .int) zc_X6_open 205 [(7, .int (nI s)), (6, .int (nI k)), (5, .int g), (0, .ref 232), (1, .int kd), (2, .int w), (3, .int v), (4, .int o)] [] (zm_mk X) 222 [(7, .int (nI s)), (6, .int (nI k)), (5, .int g), (0, .ref 232), (1, .int kd), (2, .int w), (3, .int v), (4, .int o)] [] (zm_mk (zm_up (zm_up X 234 k kd) 237 k o)) := fun X => by
        refine ⟨0, 10, fun F m hF => ?_⟩
        simp [zg_0, zg_aload_n, zg_bipush, zg_getfield, zg_goto, zg_iadd, zg_iaload, zg_iastore, zg_iconst, zg_ifCond, zg_if_icmp, zg_iload, zg_iload_n, zg_imul, zg_invokestatic, zg_invokevirtual, zg_ireturn, zg_istore, zg_isub, zg_ldc, zg_sipush, zf_X6_open, zi_ld, zi_lda, zi_cmp, zi_retOk, zi_isI, zi_f3, zi_cr, zi_ci, zi_cn, zi_get, zi_set, zM_g, zm_iast zM_A234 ik, zm_iast zM_A237 ik, ck]
      have up5 : ∀ (X : zm_M), zm_up (zm_up X 234 k kd) 237 k o 234 k = kd ∧ zm_up (zm_up X 234 k kd) 237 k o 237 k = o ∧ ∀ c d, ¬ (c = 234 ∧ d = k) → ¬ (c = 237 ∧ d = k) → zm_up (zm_up X 234 k kd) 237 k o c d = X c d := fun X => ⟨by rw [zm_up_ne (by omega), zm_up_eq], zm_up_eq, fun c d r1 r2 => by rw [zm_up_ne r2, zm_up_ne r1]⟩
      rcases zv_kd ha.1.1 with rfl | rfl | rfl | rfl
      · -- tiled
        obtain ⟨lo, ν3, b, u', hlo, ⟨N3, E3⟩, htl, hb, hT, f3⟩ := zR_tile D h hk hs hk0 (M := M) (fun c d r1 r2 => fM c d (fun z => r1 z.1) (fun z => r2 z.1))
        rcases hb with rfl | rfl
        · refine ⟨ν3, -1000000002, enter (SS.end ⟨N3, 10, fun F m hF => ?_⟩), Or.inr ⟨ha, k, s, M, hk, hs, hk0, hkl, eo, hst, ⟨m1, m2, fM⟩, Or.inl ⟨rfl, lo, ν3, 0, u', hlo, htl, Or.inl ⟨rfl, fun c d r1 r2 r3 => f3 c d r1 r2 r3 (fun e => absurd e (by decide))⟩⟩⟩⟩
          simp [zg_0, zg_aload_n, zg_bipush, zg_getfield, zg_goto, zg_iadd, zg_iaload, zg_iastore, zg_iconst, zg_ifCond, zg_if_icmp, zg_iload, zg_iload_n, zg_imul, zg_invokestatic, zg_invokevirtual, zg_ireturn, zg_istore, zg_isub, zg_ldc, zg_sipush, zf_X6_open, zi_ld, zi_lda, zi_cmp, zi_retOk, zi_isI, zi_f3, zi_cr, zi_ci, zi_cn, zi_get, zi_set, cMM, zq_Mod_tile, E3 F (by omega), n2]
        · have S3 : ze_S (D + 28) 10 (some .int) zc_X6_open 143 [(7, .int (nI s)), (6, .int (nI k)), (5, .int g), (0, .ref 232), (1, .int 1), (2, .int w), (3, .int v), (4, .int o)] [] (zm_mk M) 205 [(7, .int (nI s)), (6, .int (nI k)), (5, .int g), (0, .ref 232), (1, .int 1), (2, .int w), (3, .int v), (4, .int o)] [] (zm_mk (zm_up ν3 238 k (nI s))) := by
            refine ⟨N3, 14, fun F m hF => ?_⟩
            simp [zg_0, zg_aload_n, zg_bipush, zg_getfield, zg_goto, zg_iadd, zg_iaload, zg_iastore, zg_iconst, zg_ifCond, zg_if_icmp, zg_iload, zg_iload_n, zg_imul, zg_invokestatic, zg_invokevirtual, zg_ireturn, zg_istore, zg_isub, zg_ldc, zg_sipush, zf_X6_open, zi_ld, zi_lda, zi_cmp, zi_retOk, zi_isI, zi_f3, zi_cr, zi_ci, zi_cn, zi_get, zi_set, zM_g, cMM, zq_Mod_tile, E3 F (by omega), zm_iast zM_A238 ik, ck]
          have S6 := S5 (zm_up ν3 238 k (nI s))
          obtain ⟨u1, u2, u3⟩ := up5 (zm_up ν3 238 k (nI s))
          have fX : ∀ c d, ¬ (c = 238 ∧ d = k) → zm_up ν3 238 k (nI s) c d = ν3 c d := fun c d r => zm_up_ne r
          have eX : zm_up ν3 238 k (nI s) 238 k = nI s := zm_up_eq
          generalize zm_up (zm_up (zm_up ν3 238 k (nI s)) 234 k 1) 237 k o = ν4 at S6 u1 u2 u3
          generalize zm_up ν3 238 k (nI s) = X at S3 S6 u3 fX eX
          have hc : zv_cam μ ν4 k s 1 w v o := by
            have f3' : ∀ c d, c < 243 ∨ 261 < c → ¬ (c = 231 ∧ d = 30) → ν3 c d = M c d := fun c d r1 r2 => f3 c d r2 (by omega) (zu_in_not (by omega)) (fun _ => zu_in_not (by omega))
            refine ⟨⟨u1, u2, ?_, ?_, fun _ => ?_⟩, fun c d r1 r2 r3 r4 r5 r6 => ?_⟩
            · rw [u3 _ _ (by omega) (by omega), fX _ _ (by omega), f3' _ _ (by omega) (by omega), m1]
            · rw [u3 _ _ (by omega) (by omega), fX _ _ (by omega), f3' _ _ (by omega) (by omega), m2]
            · rw [u3 _ _ (by omega) (by omega), eX]
            · rw [u3 c d (by omega) (by omega), fX c d (by omega), f3 c d r1 (by omega) (r6 rfl).1 (fun _ => (r6 rfl).2), fM c d (by omega) (by omega)]
          have tS : zu_eqT ν3 s ν4 s := zu_eq_in (fun c d r => (u3 c d (fun z => zu_in_not (Or.inl (by omega)) r) (fun z => zu_in_not (Or.inl (by omega)) r)).trans (fX c d (fun z => zu_in_not (Or.inl (by omega)) r)))
          obtain ⟨ab, m, q1, q2⟩ := hT rfl
          have eus : zd_upd us s u' s = u' := if_pos rfl
          obtain ⟨ν, G, hf⟩ := zv_op4 D h hord ha hk hk0 hc hs (us' := zd_upd us s u') (fun _ => ⟨m, ab, by rw [eus]; exact tS.I q1, by rw [eus]; exact zu_at_eqT q1 tS q2⟩) [(7, .int (nI s)), (6, .int (nI k)), (5, .int g), (0, .ref 232), (1, .int 1), (2, .int w), (3, .int v), (4, .int o)] rfl rfl
          refine ⟨ν, nI k, enter (SS.end (S3.end (S6.end (ze_S.end ⟨0, 9, fun F m hF => ?_⟩ G)))), Or.inr ⟨ha, k, s, M, hk, hs, hk0, hkl, eo, hst, ⟨m1, m2, fM⟩, Or.inl ⟨rfl, lo, ν3, 1, u', hlo, htl, Or.inr ⟨rfl, ν4, hc, tS, hf⟩⟩⟩⟩
          simp [zg_0, zg_aload_n, zg_bipush, zg_getfield, zg_goto, zg_iadd, zg_iaload, zg_iastore, zg_iconst, zg_ifCond, zg_if_icmp, zg_iload, zg_iload_n, zg_imul, zg_invokestatic, zg_invokevirtual, zg_ireturn, zg_istore, zg_isub, zg_ldc, zg_sipush, zf_X6_open, zi_ld, zi_lda, zi_cmp, zi_retOk, zi_isI, zi_f3, zi_cr, zi_ci, zi_cn, zi_get, zi_set]
      · -- floating
        obtain ⟨N3, E3⟩ := ze_McanBeWhole (μ := M) (D + 27) hk (μ 232 s) (μ 233 s)
        rw [m1, m2] at E3
        have x2 : M 232 s = μ 232 s := fM _ _ (by omega) (by omega)
        have x3 : M 233 s = μ 233 s := fM _ _ (by omega) (by omega)
        by_cases c : w ≤ μ 232 s ∧ v ≤ μ 233 s
        · rw [if_pos c] at E3
          have S3 : ze_S (D + 28) 10 (some .int) zc_X6_open 143 [(7, .int (nI s)), (6, .int (nI k)), (5, .int g), (0, .ref 232), (1, .int 2), (2, .int w), (3, .int v), (4, .int o)] [] (zm_mk M) 205 [(7, .int (nI s)), (6, .int (nI k)), (5, .int g), (0, .ref 232), (1, .int 2), (2, .int w), (3, .int v), (4, .int o)] [] (zm_mk M) := by
            refine ⟨N3, 18, fun F m hF => ?_⟩
            simp [zg_0, zg_aload_n, zg_bipush, zg_getfield, zg_goto, zg_iadd, zg_iaload, zg_iastore, zg_iconst, zg_ifCond, zg_if_icmp, zg_iload, zg_iload_n, zg_imul, zg_invokestatic, zg_invokevirtual, zg_ireturn, zg_istore, zg_isub, zg_ldc, zg_sipush, zf_X6_open, zi_ld, zi_lda, zi_cmp, zi_retOk, zi_isI, zi_f3, zi_cr, zi_ci, zi_cn, zi_get, zi_set, zM_g, cMM, zm_iald (k := 0) zM_A232 is, zm_iald (k := 0) zM_A233 is, cs, x2, x3, zq_Mod_canBeWhole, E3 F (by omega)]
          have S6 := S5 M
          obtain ⟨u1, u2, u3⟩ := up5 M
          generalize zm_up (zm_up M 234 k 2) 237 k o = Y at S6 u1 u2 u3
          obtain ⟨lcY, cMY⟩ := zM_c (μ := Y)
          obtain ⟨p, q, ⟨N4, E4⟩, -, -⟩ := ze_MputAt (μ := Y) (D + 26) hk hs (10 * nI k) (10 * nI k)
          have fP : ∀ c d, ¬ (c = 238 ∧ d = k) → c ≠ 239 → c ≠ 240 → zv_put Y k s p q c d = Y c d := fun c d r1 r2 r3 => by unfold zv_put; rw [zm_up_ne (by omega), zm_up_ne (by omega), zm_up_ne r1]
          have eP : zv_put Y k s p q 238 k = nI s := by unfold zv_put; rw [zm_up_ne (by omega), zm_up_ne (by omega), zm_up_eq]
          generalize zv_put Y k s p q = ν4 at E4 fP eP
          have hc : zv_cam μ ν4 k s 2 w v o := by
            refine ⟨⟨?_, ?_, ?_, ?_, fun _ => eP⟩, fun c d r1 r2 r3 r4 r5 r6 => ?_⟩
            · rw [fP _ _ (by omega) (by omega) (by omega), u1]
            · rw [fP _ _ (by omega) (by omega) (by omega), u2]
            · rw [fP _ _ (by omega) (by omega) (by omega), u3 _ _ (by omega) (by omega), m1]
            · rw [fP _ _ (by omega) (by omega) (by omega), u3 _ _ (by omega) (by omega), m2]
            · rw [fP c d (by omega) r3 r4, u3 c d (by omega) (by omega), fM c d (by omega) (by omega)]
          obtain ⟨ν, G, hf⟩ := zv_op4 D h hord ha hk hk0 hc hs (us' := us) (fun e => absurd e (by decide)) [(7, .int (nI s)), (6, .int (nI k)), (5, .int g), (0, .ref 232), (1, .int 2), (2, .int w), (3, .int v), (4, .int o)] rfl rfl
          refine ⟨ν, nI k, enter (SS.end (S3.end (S6.end (ze_S.end ⟨N4, 14, fun F m hF => ?_⟩ G)))), Or.inr ⟨ha, k, s, M, hk, hs, hk0, hkl, eo, hst, ⟨m1, m2, fM⟩, Or.inr ⟨by decide, Or.inr ⟨Or.inr c, ν4, hc, hf⟩⟩⟩⟩
          simp [zg_0, zg_aload_n, zg_bipush, zg_getfield, zg_goto, zg_iadd, zg_iaload, zg_iastore, zg_iconst, zg_ifCond, zg_if_icmp, zg_iload, zg_iload_n, zg_imul, zg_invokestatic, zg_invokevirtual, zg_ireturn, zg_istore, zg_isub, zg_ldc, zg_sipush, zf_X6_open, zi_ld, zi_lda, zi_cmp, zi_retOk, zi_isI, zi_f3, zi_cr, zi_ci, zi_cn, zi_get, zi_set, h10, cMY, zq_Mod_putAt, E4 F (by omega)]
        · rw [if_neg c] at E3
          refine ⟨M, -1000000002, enter (SS.end ⟨N3, 20, fun F m hF => ?_⟩), Or.inr ⟨ha, k, s, M, hk, hs, hk0, hkl, eo, hst, ⟨m1, m2, fM⟩, Or.inr ⟨by decide, Or.inl ⟨by decide, c, rfl⟩⟩⟩⟩
          simp [zg_0, zg_aload_n, zg_bipush, zg_getfield, zg_goto, zg_iadd, zg_iaload, zg_iastore, zg_iconst, zg_ifCond, zg_if_icmp, zg_iload, zg_iload_n, zg_imul, zg_invokestatic, zg_invokevirtual, zg_ireturn, zg_istore, zg_isub, zg_ldc, zg_sipush, zf_X6_open, zi_ld, zi_lda, zi_cmp, zi_retOk, zi_isI, zi_f3, zi_cr, zi_ci, zi_cn, zi_get, zi_set, zM_g, cMM, zm_iald (k := 0) zM_A232 is, zm_iald (k := 0) zM_A233 is, cs, x2, x3, zq_Mod_canBeWhole, E3 F (by omega), n2]
      · -- a dialog
        obtain ⟨j, hj, rfl, hj0⟩ := ha.2.1 rfl
        obtain ⟨N3, E3⟩ := ze_McanBeWhole (μ := M) (D + 27) hk (μ 232 s) (μ 233 s)
        rw [m1, m2] at E3
        have x2 : M 232 s = μ 232 s := fM _ _ (by omega) (by omega)
        have x3 : M 233 s = μ 233 s := fM _ _ (by omega) (by omega)
        by_cases c : w ≤ μ 232 s ∧ v ≤ μ 233 s
        · rw [if_pos c] at E3
          have S3 : ze_S (D + 28) 10 (some .int) zc_X6_open 143 [(7, .int (nI s)), (6, .int (nI k)), (5, .int g), (0, .ref 232), (1, .int 3), (2, .int w), (3, .int v), (4, .int (nI j))] [] (zm_mk M) 205 [(7, .int (nI s)), (6, .int (nI k)), (5, .int g), (0, .ref 232), (1, .int 3), (2, .int w), (3, .int v), (4, .int (nI j))] [] (zm_mk M) := by
            refine ⟨N3, 18, fun F m hF => ?_⟩
            simp [zg_0, zg_aload_n, zg_bipush, zg_getfield, zg_goto, zg_iadd, zg_iaload, zg_iastore, zg_iconst, zg_ifCond, zg_if_icmp, zg_iload, zg_iload_n, zg_imul, zg_invokestatic, zg_invokevirtual, zg_ireturn, zg_istore, zg_isub, zg_ldc, zg_sipush, zf_X6_open, zi_ld, zi_lda, zi_cmp, zi_retOk, zi_isI, zi_f3, zi_cr, zi_ci, zi_cn, zi_get, zi_set, zM_g, cMM, zm_iald (k := 0) zM_A232 is, zm_iald (k := 0) zM_A233 is, cs, x2, x3, zq_Mod_canBeWhole, E3 F (by omega)]
          have S6 := S5 M
          obtain ⟨u1, u2, u3⟩ := up5 M
          generalize zm_up (zm_up M 234 k 3) 237 k (nI j) = Y at S6 u1 u2 u3
          have hjk : j ≠ k := fun e => hj0 (by rw [e]; exact hk0)
          have y4 : Y 234 j = μ 234 j := by rw [u3 _ _ (by omega) (by omega), fM _ _ (by omega) (by omega)]
          have y8 : Y 238 j = μ 238 j := by rw [u3 _ _ (by omega) (by omega), fM _ _ (by omega) (by omega)]
          have hA : zv_arg Y us j := by
            refine ⟨by rw [y4]; exact zR_fl h hj hj0, fun e => ?_⟩
            rw [y4] at e
            obtain ⟨q, m, ab, r1, r2, r3, r4⟩ := zR_til h hj e
            have t : zu_eqT μ q Y q := zu_eq_in (fun c d r => (u3 c d (fun z => zu_in_not (Or.inl (by omega)) r) (fun z => zu_in_not (Or.inl (by omega)) r)).trans (fM c d (fun z => zu_in_not (Or.inl (by omega)) r) (fun z => zu_in_not (Or.inl (by omega)) r)))
            exact ⟨q, m, ab, r1, by rw [y8]; exact r2, t.I r3, zu_at_eqT r3 t r4⟩
          obtain ⟨M', p, q, L', S7, g0, g6, fM'⟩ := zv_op3 D hj hk hs hA (w := w) (v := v) (kd := 3) (g := g)
          have fP : ∀ c d, ¬ (c = 238 ∧ d = k) → c ≠ 239 → c ≠ 240 → zv_put M' k s p q c d = M' c d := fun c d r1 r2 r3 => by unfold zv_put; rw [zm_up_ne (by omega), zm_up_ne (by omega), zm_up_ne r1]
          have eP : zv_put M' k s p q 238 k = nI s := by unfold zv_put; rw [zm_up_ne (by omega), zm_up_ne (by omega), zm_up_eq]
          generalize zv_put M' k s p q = ν4 at S7 fP eP
          have hc : zv_cam μ ν4 k s 3 w v (nI j) := by
            refine ⟨⟨?_, ?_, ?_, ?_, fun _ => eP⟩, fun c d r1 r2 r3 r4 r5 r6 => ?_⟩
            · rw [fP _ _ (by omega) (by omega) (by omega), fM' _ _ (by omega) (by omega) (by omega) (by omega), u1]
            · rw [fP _ _ (by omega) (by omega) (by omega), fM' _ _ (by omega) (by omega) (by omega) (by omega), u2]
            · rw [fP _ _ (by omega) (by omega) (by omega), fM' _ _ (by omega) (by omega) (by omega) (by omega), u3 _ _ (by omega) (by omega), m1]
            · rw [fP _ _ (by omega) (by omega) (by omega), fM' _ _ (by omega) (by omega) (by omega) (by omega), u3 _ _ (by omega) (by omega), m2]
            · rw [fP c d (by omega) r3 r4, fM' c d r1 r3 r4 r5, u3 c d (by omega) (by omega), fM c d (by omega) (by omega)]
          obtain ⟨ν, G, hf⟩ := zv_op4 D h hord ha hk hk0 hc hs (us' := us) (fun e => absurd e (by decide)) L' g0 g6
          refine ⟨ν, nI k, enter (SS.end (S3.end (S6.end (ze_S.end (p2 := 293) (L2 := [(7, .int (nI s)), (6, .int (nI k)), (5, .int g), (0, .ref 232), (1, .int 3), (2, .int w), (3, .int v), (4, .int (nI j))]) (s2 := []) (h2 := zm_mk Y) ⟨0, 9, fun F m hF => ?_⟩ (S7.end G))))), Or.inr ⟨ha, k, s, M, hk, hs, hk0, hkl, eo, hst, ⟨m1, m2, fM⟩, Or.inr ⟨by decide, Or.inr ⟨Or.inr c, ν4, hc, hf⟩⟩⟩⟩
          simp [zg_0, zg_aload_n, zg_bipush, zg_getfield, zg_goto, zg_iadd, zg_iaload, zg_iastore, zg_iconst, zg_ifCond, zg_if_icmp, zg_iload, zg_iload_n, zg_imul, zg_invokestatic, zg_invokevirtual, zg_ireturn, zg_istore, zg_isub, zg_ldc, zg_sipush, zf_X6_open, zi_ld, zi_lda, zi_cmp, zi_retOk, zi_isI, zi_f3, zi_cr, zi_ci, zi_cn, zi_get, zi_set]
        · rw [if_neg c] at E3
          refine ⟨M, -1000000002, enter (SS.end ⟨N3, 20, fun F m hF => ?_⟩), Or.inr ⟨ha, k, s, M, hk, hs, hk0, hkl, eo, hst, ⟨m1, m2, fM⟩, Or.inr ⟨by decide, Or.inl ⟨by decide, c, rfl⟩⟩⟩⟩
          simp [zg_0, zg_aload_n, zg_bipush, zg_getfield, zg_goto, zg_iadd, zg_iaload, zg_iastore, zg_iconst, zg_ifCond, zg_if_icmp, zg_iload, zg_iload_n, zg_imul, zg_invokestatic, zg_invokevirtual, zg_ireturn, zg_istore, zg_isub, zg_ldc, zg_sipush, zf_X6_open, zi_ld, zi_lda, zi_cmp, zi_retOk, zi_isI, zi_f3, zi_cr, zi_ci, zi_cn, zi_get, zi_set, zM_g, cMM, zm_iald (k := 0) zM_A232 is, zm_iald (k := 0) zM_A233 is, cs, x2, x3, zq_Mod_canBeWhole, E3 F (by omega), n2]
      · -- sticky
        have S3 : ze_S (D + 28) 10 (some .int) zc_X6_open 143 [(7, .int (nI s)), (6, .int (nI k)), (5, .int g), (0, .ref 232), (1, .int 4), (2, .int w), (3, .int v), (4, .int o)] [] (zm_mk M) 205 [(7, .int (nI s)), (6, .int (nI k)), (5, .int g), (0, .ref 232), (1, .int 4), (2, .int w), (3, .int v), (4, .int o)] [] (zm_mk M) := by
          refine ⟨0, 6, fun F m hF => ?_⟩
          simp [zg_0, zg_aload_n, zg_bipush, zg_getfield, zg_goto, zg_iadd, zg_iaload, zg_iastore, zg_iconst, zg_ifCond, zg_if_icmp, zg_iload, zg_iload_n, zg_imul, zg_invokestatic, zg_invokevirtual, zg_ireturn, zg_istore, zg_isub, zg_ldc, zg_sipush, zf_X6_open, zi_ld, zi_lda, zi_cmp, zi_retOk, zi_isI, zi_f3, zi_cr, zi_ci, zi_cn, zi_get, zi_set]
        have S6 := S5 M
        obtain ⟨u1, u2, u3⟩ := up5 M
        generalize zm_up (zm_up M 234 k 4) 237 k o = Y at S6 u1 u2 u3
        have S7 : ze_S (D + 28) 10 (some .int) zc_X6_open 222 [(7, .int (nI s)), (6, .int (nI k)), (5, .int g), (0, .ref 232), (1, .int 4), (2, .int w), (3, .int v), (4, .int o)] [] (zm_mk Y) 349 [(7, .int (nI s)), (6, .int (nI k)), (5, .int g), (0, .ref 232), (1, .int 4), (2, .int w), (3, .int v), (4, .int o)] [] (zm_mk (zm_up (zm_up (zm_up Y 238 k (-1)) 239 k (10 * nI k)) 240 k (10 * nI k))) := by
          refine ⟨0, 26, fun F m hF => ?_⟩
          simp [zg_0, zg_aload_n, zg_bipush, zg_getfield, zg_goto, zg_iadd, zg_iaload, zg_iastore, zg_iconst, zg_ifCond, zg_if_icmp, zg_iload, zg_iload_n, zg_imul, zg_invokestatic, zg_invokevirtual, zg_ireturn, zg_istore, zg_isub, zg_ldc, zg_sipush, zf_X6_open, zi_ld, zi_lda, zi_cmp, zi_retOk, zi_isI, zi_f3, zi_cr, zi_ci, zi_cn, zi_get, zi_set, zM_g, h10, zm_iast zM_A238 ik, zm_iast zM_A239 ik, zm_iast zM_A240 ik, ck]
        have fP : ∀ c d, ¬ (c = 238 ∧ d = k) → c ≠ 239 → c ≠ 240 → zm_up (zm_up (zm_up Y 238 k (-1)) 239 k (10 * nI k)) 240 k (10 * nI k) c d = Y c d := fun c d r1 r2 r3 => by rw [zm_up_ne (by omega), zm_up_ne (by omega), zm_up_ne r1]
        generalize zm_up (zm_up (zm_up Y 238 k (-1)) 239 k (10 * nI k)) 240 k (10 * nI k) = ν4 at S7 fP
        have hc : zv_cam μ ν4 k s 4 w v o := by
          refine ⟨⟨?_, ?_, ?_, ?_, fun e => absurd rfl e⟩, fun c d r1 r2 r3 r4 r5 r6 => ?_⟩
          · rw [fP _ _ (by omega) (by omega) (by omega), u1]
          · rw [fP _ _ (by omega) (by omega) (by omega), u2]
          · rw [fP _ _ (by omega) (by omega) (by omega), u3 _ _ (by omega) (by omega), m1]
          · rw [fP _ _ (by omega) (by omega) (by omega), u3 _ _ (by omega) (by omega), m2]
          · rw [fP c d (by omega) r3 r4, u3 c d (by omega) (by omega), fM c d (by omega) (by omega)]
        obtain ⟨ν, G, hf⟩ := zv_op4 D h hord ha hk hk0 hc hs (us' := us) (fun e => absurd e (by decide)) [(7, .int (nI s)), (6, .int (nI k)), (5, .int g), (0, .ref 232), (1, .int 4), (2, .int w), (3, .int v), (4, .int o)] rfl rfl
        exact ⟨ν, nI k, enter (SS.end (S3.end (S6.end (S7.end G)))), Or.inr ⟨ha, k, s, M, hk, hs, hk0, hkl, eo, hst, ⟨m1, m2, fM⟩, Or.inr ⟨by decide, Or.inr ⟨Or.inl rfl, ν4, hc, hf⟩⟩⟩⟩
  · exact ⟨μ, _, enter G, Or.inl ⟨Or.inl ha, rfl⟩⟩
end ZWS
