/-! Tree.lay -/
/-- every node of a tree that is laid into a rectangle has its own -/
def zy_laid (P : Nat → Int32 → Int32 → Int32 → Int32 → Prop) (fm sh : Nat → Int32) (l0 l1 : zy_F → Int32) : zy_F → Int32 → Int32 → Int32 → Int32 → Prop
  | .append (.tag n a) b, x, y, w, v => P n x y w v ∧ (if fm n = 0 then zy_laid P fm sh l0 l1 a x y (zy_fp w (sh n) (l0 a) (l0 b)) v ∧ zy_laid P fm sh l0 l1 b (x + zy_fp w (sh n) (l0 a) (l0 b)) y (w - zy_fp w (sh n) (l0 a) (l0 b)) v
      else zy_laid P fm sh l0 l1 a x y w (zy_fp v (sh n) (l1 a) (l1 b)) ∧ zy_laid P fm sh l0 l1 b x (y + zy_fp v (sh n) (l1 a) (l1 b)) w (v - zy_fp v (sh n) (l1 a) (l1 b)))
  | .tag n _, x, y, w, v => P n x y w v
  | _, _, _, _, _ => True
theorem zy_laid_mono {P P' : Nat → Int32 → Int32 → Int32 → Int32 → Prop} {fm sh : Nat → Int32} {l0 l1 : zy_F → Int32} : ∀ t, zy_wf t → ∀ x y w v, (∀ n ∈ zy_ids t, ∀ x y w v, P n x y w v → P' n x y w v) → zy_laid P fm sh l0 l1 t x y w v → zy_laid P' fm sh l0 l1 t x y w v := by
  apply zy_ind
  · intro n x y w v e h
    exact e n List.mem_cons_self x y w v h
  · intro n a b _ _ ia ib x y w v e h
    have ea : ∀ m ∈ zy_ids a, ∀ x y w v, P m x y w v → P' m x y w v := fun m hm => e m (List.mem_cons_of_mem _ (List.mem_append_left _ hm))
    have eb : ∀ m ∈ zy_ids b, ∀ x y w v, P m x y w v → P' m x y w v := fun m hm => e m (List.mem_cons_of_mem _ (List.mem_append_right _ hm))
    refine ⟨e n List.mem_cons_self x y w v h.1, ?_⟩
    have h2 := h.2
    by_cases c : fm n = 0
    · rw [if_pos c] at h2 ⊢
      exact ⟨ia _ _ _ _ ea h2.1, ib _ _ _ _ eb h2.2⟩
    · rw [if_neg c] at h2 ⊢
      exact ⟨ia _ _ _ _ ea h2.1, ib _ _ _ _ eb h2.2⟩
theorem zy_laid_id {P : Nat → Int32 → Int32 → Int32 → Int32 → Prop} {fm sh : Nat → Int32} {l0 l1 : zy_F → Int32} : ∀ t, zy_wf t → ∀ x y w v, zy_laid P fm sh l0 l1 t x y w v → P (zy_id t) x y w v := by
  apply zy_ind
  · intro n x y w v h
    exact h
  · intro n a b _ _ _ _ x y w v h
    exact h.1
section ZT8
variable {T : Nat}
def zt_P (μ : zm_M) (T n : Nat) (x y w v : Int32) : Prop := μ (T + 19) n = x ∧ μ (T + 20) n = y ∧ μ (T + 22) n = w ∧ μ (T + 23) n = v
theorem zt_u4_P {μ : zm_M} {i j a : Nat} {s1 l1 s2 l2 : Int32} (hij : i ≠ j) : zt_u4 μ T i j a s1 l1 s2 l2 (T + 19 + a) i = s1 ∧ zt_u4 μ T i j a s1 l1 s2 l2 (T + 22 + a) i = l1 ∧ zt_u4 μ T i j a s1 l1 s2 l2 (T + 19 + a) j = s2 ∧ zt_u4 μ T i j a s1 l1 s2 l2 (T + 22 + a) j = l2 ∧ ∀ m, m ≠ i → m ≠ j → ∀ c, zt_u4 μ T i j a s1 l1 s2 l2 c m = μ c m := by
  unfold zt_u4
  refine ⟨?_, ?_, ?_, zm_up_eq, fun m h1 h2 c => ?_⟩
  · rw [zm_up_ne (by omega), zm_up_ne (by omega), zm_up_ne (by omega), zm_up_eq]
  · rw [zm_up_ne (by omega), zm_up_ne (by omega), zm_up_eq]
  · rw [zm_up_ne (by omega), zm_up_eq]
  · rw [zm_up_ne (by omega), zm_up_ne (by omega), zm_up_ne (by omega), zm_up_ne (by omega)]
theorem zt_dx_m {μ : zm_M} {n i j a m : Nat} (hij : i ≠ j) (h1 : m ≠ i) (h2 : m ≠ j) (c : Nat) : zt_dx μ T n i j a c m = μ c m := by
  unfold zt_dx
  split <;> exact (zt_u4_P hij).2.2.2.2 m h1 h2 c
theorem zt_dx_A {μ : zm_M} {n i j a : Nat} (hij : i ≠ j) (c : μ (T + 7) n = nI a) : zt_dx μ T n i j a (T + 19 + a) i = μ (T + 19 + a) n ∧ zt_dx μ T n i j a (T + 22 + a) i = zy_fp (μ (T + 22 + a) n) (μ (T + 8) n) (μ (T + 16 + a) i) (μ (T + 16 + a) j) ∧ zt_dx μ T n i j a (T + 19 + a) j = μ (T + 19 + a) n + zy_fp (μ (T + 22 + a) n) (μ (T + 8) n) (μ (T + 16 + a) i) (μ (T + 16 + a) j) ∧ zt_dx μ T n i j a (T + 22 + a) j = μ (T + 22 + a) n - zy_fp (μ (T + 22 + a) n) (μ (T + 8) n) (μ (T + 16 + a) i) (μ (T + 16 + a) j) := by
  unfold zt_dx
  rw [if_pos c]
  obtain ⟨a1, a2, a3, a4, -⟩ := zt_u4_P (T := T) (μ := μ) (a := a) (s1 := μ (T + 19 + a) n) (l1 := zy_fp (μ (T + 22 + a) n) (μ (T + 8) n) (μ (T + 16 + a) i) (μ (T + 16 + a) j)) (s2 := μ (T + 19 + a) n + zy_fp (μ (T + 22 + a) n) (μ (T + 8) n) (μ (T + 16 + a) i) (μ (T + 16 + a) j)) (l2 := μ (T + 22 + a) n - zy_fp (μ (T + 22 + a) n) (μ (T + 8) n) (μ (T + 16 + a) i) (μ (T + 16 + a) j)) hij
  exact ⟨a1, a2, a3, a4⟩
theorem zt_dx_B {μ : zm_M} {n i j a : Nat} (hij : i ≠ j) (c : ¬ μ (T + 7) n = nI a) : zt_dx μ T n i j a (T + 19 + a) i = μ (T + 19 + a) n ∧ zt_dx μ T n i j a (T + 22 + a) i = μ (T + 22 + a) n ∧ zt_dx μ T n i j a (T + 19 + a) j = μ (T + 19 + a) n ∧ zt_dx μ T n i j a (T + 22 + a) j = μ (T + 22 + a) n := by
  unfold zt_dx
  rw [if_neg c]
  obtain ⟨a1, a2, a3, a4, -⟩ := zt_u4_P (T := T) (μ := μ) (a := a) (s1 := μ (T + 19 + a) n) (l1 := μ (T + 22 + a) n) (s2 := μ (T + 19 + a) n) (l2 := μ (T + 22 + a) n) hij
  exact ⟨a1, a2, a3, a4⟩
/-- divide, both axes: the two parts of a cut -/
theorem zt_dx_P {μ : zm_M} {n i j : Nat} {x y w v : Int32} (hn : n ≠ i ∧ n ≠ j) (hij : i ≠ j) (hf : μ (T + 7) n = 0 ∨ μ (T + 7) n = 1) (hP : zt_P μ T n x y w v) :
    if μ (T + 7) n = 0 then zt_P (zt_dx (zt_dx μ T n i j 0) T n i j 1) T i x y (zy_fp w (μ (T + 8) n) (μ (T + 16) i) (μ (T + 16) j)) v ∧ zt_P (zt_dx (zt_dx μ T n i j 0) T n i j 1) T j (x + zy_fp w (μ (T + 8) n) (μ (T + 16) i) (μ (T + 16) j)) y (w - zy_fp w (μ (T + 8) n) (μ (T + 16) i) (μ (T + 16) j)) v
    else zt_P (zt_dx (zt_dx μ T n i j 0) T n i j 1) T i x y w (zy_fp v (μ (T + 8) n) (μ (T + 17) i) (μ (T + 17) j)) ∧ zt_P (zt_dx (zt_dx μ T n i j 0) T n i j 1) T j x (y + zy_fp v (μ (T + 8) n) (μ (T + 17) i) (μ (T + 17) j)) w (v - zy_fp v (μ (T + 8) n) (μ (T + 17) i) (μ (T + 17) j)) := by
  obtain ⟨p1, p2, p3, p4⟩ := hP
  have r : ∀ c, c ≠ T + 19 → c ≠ T + 22 → zt_dx μ T n i j 0 c = μ c := fun c h1 h2 => zt_dx_row h1 h2
  have r2 : ∀ c, c ≠ T + 20 → c ≠ T + 23 → zt_dx (zt_dx μ T n i j 0) T n i j 1 c = zt_dx μ T n i j 0 c := fun c h1 h2 => zt_dx_row h1 h2
  unfold zt_P
  rw [r2 (T + 19) (by omega) (by omega), r2 (T + 22) (by omega) (by omega)]
  by_cases c : μ (T + 7) n = 0
  · rw [if_pos c]
    obtain ⟨a1, a2, a3, a4⟩ := zt_dx_A (T := T) (i := i) (j := j) (a := 0) hij c
    have c1 : ¬ zt_dx μ T n i j 0 (T + 7) n = nI 1 := by rw [r _ (by omega) (by omega), c]; decide
    obtain ⟨b1, b2, b3, b4⟩ := zt_dx_B (T := T) (i := i) (j := j) hij c1
    rw [r (T + 19 + 1) (by omega) (by omega)] at b1 b3
    rw [r (T + 22 + 1) (by omega) (by omega)] at b2 b4
    exact ⟨⟨a1.trans p1, b1.trans p2, by rw [← p3]; exact a2, b2.trans p4⟩, ⟨by rw [← p1, ← p3]; exact a3, b3.trans p2, by rw [← p3]; exact a4, b4.trans p4⟩⟩
  · rw [if_neg c]
    have c0 := hf.resolve_left c
    obtain ⟨b1, b2, b3, b4⟩ := zt_dx_B (T := T) (i := i) (j := j) (a := 0) hij c
    have c1 : zt_dx μ T n i j 0 (T + 7) n = nI 1 := by rw [r _ (by omega) (by omega), c0]; decide
    obtain ⟨a1, a2, a3, a4⟩ := zt_dx_A (T := T) (i := i) (j := j) hij c1
    rw [r (T + 19 + 1) (by omega) (by omega)] at a1 a3
    rw [r (T + 22 + 1) (by omega) (by omega), r (T + 8) (by omega) (by omega), r (T + 16 + 1) (by omega) (by omega)] at a2 a3 a4
    exact ⟨⟨b1.trans p1, a1.trans p2, b2.trans p3, by rw [← p4]; exact a2⟩, ⟨b3.trans p1, by rw [← p2, ← p4]; exact a3, b4.trans p3, by rw [← p4]; exact a4⟩⟩
def zt_frL (T : Nat) (μ μ' : zm_M) : Prop := ∀ c, c ≠ T + 19 → c ≠ T + 20 → c ≠ T + 22 → c ≠ T + 23 → μ' c = μ c
set_option maxRecDepth 100000 in
theorem zt_lay_S (D : Nat) (h : zt_at T) (fm sh lf0 lf1 : Nat → Int32) (k : Nat) (hk : k ≤ 19) : ∀ t, zy_wf t → ∀ (μ : zm_M) (L : zi_Lc) (p : Nat) (x y w v : Int32), μ (T + 7) = fm → μ (T + 8) = sh → zy_okM μ T t → (∀ n ∈ zy_ids t, n < 19) → (zy_ids t).Nodup →
    (∀ j, j < (zy_ids t).length → μ (T + 13) (p + j) = nI ((zy_ids t).getD j 0)) → zi_nl L = true → zi_get L 0 = some (.ref (T + 1)) → zi_get L 2 = some (.int (nI p)) → μ T 12 = nI k → p + (zy_ids t).length ≤ k →
    zy_lso (μ (T + 16)) 0 fm lf0 t → zy_lso (μ (T + 17)) 1 fm lf1 t → zt_P μ T (zy_id t) x y w v →
    ∃ μ' L', ze_S (D + 4) 3 none zc_X3_lay 48 L [] (zm_mk μ) 48 L' [] (zm_mk μ') ∧ zi_nl L' = true ∧ zi_get L' 0 = some (.ref (T + 1)) ∧ zi_get L' 2 = some (.int (nI (p + (zy_ids t).length))) ∧
      zt_frL T μ μ' ∧ (∀ n, n ∉ zy_ids t → ∀ c, μ' c n = μ c n) ∧ zy_laid (zt_P μ' T) fm sh (zy_ls 0 fm lf0) (zy_ls 1 fm lf1) t x y w v := by
  apply zy_ind
  · intro n μ L p x y w v hf hs hok hlt hnd ho nl g0 g2 h12 hp l0 l1 hP
    have hn : n < 19 := hlt n List.mem_cons_self
    have hfm : μ (T + 7) n = 2 := hok
    have hp : p + 1 ≤ k := hp
    have ho : μ (T + 13) p = nI n := ho 0 (Nat.zero_lt_one)
    have c1 : ¬ nI k ≤ nI p := nI_ge (by omega) (by omega)
    have i1 : zi_in (nI p) 19 = true := zm_in (by omega) (by decide)
    have i2 : zi_in (nI n) 19 = true := zm_in (by omega) (by decide)
    have e1 : (nI p).toNatClampNeg = p := nI_clamp (by omega)
    have e2 : (nI n).toNatClampNeg = n := nI_clamp (by omega)
    refine ⟨μ, zi_set L 2 (.int (nI (p + 1))), ⟨0, 15, fun F m _ => ?_⟩, ?_, ?_, zi_get_set_eq, fun c _ _ _ _ => rfl, fun m _ c => rfl, hP⟩
    · simp (maxDischargeDepth := 9) [zg_0, zg_aaload, zg_aload_n, zg_getfield, zg_goto, zg_iaload, zg_iastore, zg_iconst, zg_ifCond, zg_if_icmp, zg_iinc, zg_iload_n, zg_invokevirtual, zg_istore_n, zg_return, zf_X3_lay, zi_ld, zi_lda, zi_cmp, zi_retOk, zi_isI, zi_f3, zi_cr, zi_ci, zi_cn, zi_get_ne, zi_nl_i, zi_nl_r, zi_get_set_eq, nl, g0, g2, c1, h12, zt_g h, zt_ld h i1, e1, ho, zt_ld h i2, e2, hfm, nI_1]
    · simp (maxDischargeDepth := 9) [zi_get_ne, zi_nl_i, zi_nl_r, zi_get_set_eq, nl]
    · simp (maxDischargeDepth := 9) [zi_get_ne, zi_nl_i, zi_nl_r, zi_get_set_eq, nl, g0]
  · intro n a b wa wb iha ihb μ L p x y w v hf hs hok hlt hnd ho nl g0 g2 h12 hp l0 l1 hP
    have hlen : (zy_ids (.append (.tag n a) b)).length = (zy_ids a).length + (zy_ids b).length + 1 := by
      show (n :: (zy_ids a ++ zy_ids b)).length = _
      simp only [List.length_cons, List.length_append]
    rw [hlen] at ho hp ⊢
    have ho' : ∀ j, j < (zy_ids a).length + (zy_ids b).length + 1 → μ (T + 13) (p + j) = nI ((n :: (zy_ids a ++ zy_ids b)).getD j 0) := ho
    have hnd' : (n :: (zy_ids a ++ zy_ids b)).Nodup := hnd
    obtain ⟨hn1, hn2⟩ := List.nodup_cons.mp hnd'
    obtain ⟨nda, ndb, dis⟩ := List.nodup_append.mp hn2
    have hn : n < 19 := hlt n List.mem_cons_self
    have hla : ∀ m ∈ zy_ids a, m < 19 := fun m hm => hlt m (List.mem_cons_of_mem _ (List.mem_append_left _ hm))
    have hlb : ∀ m ∈ zy_ids b, m < 19 := fun m hm => hlt m (List.mem_cons_of_mem _ (List.mem_append_right _ hm))
    obtain ⟨⟨hfm, hfs, hsd, -, -⟩, oka, okb⟩ := hok
    have la := hla _ (zy_id_mem wa)
    have lb := hlb _ (zy_id_mem wb)
    have na : n ≠ zy_id a := fun e => hn1 (e ▸ List.mem_append_left _ (zy_id_mem wa))
    have nb : n ≠ zy_id b := fun e => hn1 (e ▸ List.mem_append_right _ (zy_id_mem wb))
    have nab : zy_id a ≠ zy_id b := fun e => dis _ (zy_id_mem wa) _ (zy_id_mem wb) e
    obtain ⟨N, E⟩ := ze_Tree_divide (μ := μ) D h hn la lb hfs hsd na
    have hP1 := zt_dx_P (T := T) ⟨na, nb⟩ nab hfm hP
    let ν := zt_dx (zt_dx μ T n (zy_id a) (zy_id b) 0) T n (zy_id a) (zy_id b) 1
    have hν : zt_dx (zt_dx μ T n (zy_id a) (zy_id b) 0) T n (zy_id a) (zy_id b) 1 = ν := rfl
    rw [hν] at hP1 E
    have fν : zt_frL T μ ν := fun c h1 h2 h3 h4 => (zt_dx_row h2 h4).trans (zt_dx_row h1 h3)
    have mν : ∀ m, m ≠ zy_id a → m ≠ zy_id b → ∀ c, ν c m = μ c m := fun m h1 h2 c => (zt_dx_m nab h1 h2 c).trans (zt_dx_m nab h1 h2 c)
    have hfm2 : ¬ μ (T + 7) n = 2 := by rcases hfm with e | e <;> rw [e] <;> decide
    have o0 := ho' 0 (by omega)
    have o0 : μ (T + 13) p = nI n := o0
    have c1 : ¬ nI k ≤ nI p := nI_ge (by omega) (by omega)
    have i1 : zi_in (nI p) 19 = true := zm_in (by omega) (by decide)
    have i2 : zi_in (nI n) 19 = true := zm_in (by omega) (by decide)
    have e1 : (nI p).toNatClampNeg = p := nI_clamp (by omega)
    have e2 : (nI n).toNatClampNeg = n := nI_clamp (by omega)
    obtain ⟨lc, cc⟩ := zt_c (μ := μ) h
    have S0 : ze_S (D + 4) 3 none zc_X3_lay 48 L [] (zm_mk μ) 48 (zi_set L 2 (.int (nI (p + 1)))) [] (zm_mk ν) := by
      refine ⟨N, 21, fun F m hF => ?_⟩
      simp (maxDischargeDepth := 9) [zg_0, zg_aaload, zg_aload_n, zg_getfield, zg_goto, zg_iaload, zg_iastore, zg_iconst, zg_ifCond, zg_if_icmp, zg_iinc, zg_iload_n, zg_invokevirtual, zg_istore_n, zg_return, zf_X3_lay, zi_ld, zi_lda, zi_cmp, zi_retOk, zi_isI, zi_f3, zi_cr, zi_ci, zi_cn, zi_get_ne, zi_nl_i, zi_nl_r, zi_get_set_eq, nl, g0, g2, c1, h12, zt_g h, zt_ld h i1, e1, o0, zt_ld h i2, e2, hfm2, nI_1, zq_Tree_divide, cc, E F hF]
    have okν : ∀ s, zy_okM μ T s → zy_okM ν T s := fun s hs => by
      unfold zy_okM at *
      rw [fν (T + 7) (by omega) (by omega) (by omega) (by omega), fν (T + 9) (by omega) (by omega) (by omega) (by omega), fν (T + 10) (by omega) (by omega) (by omega) (by omega), fν (T + 11) (by omega) (by omega) (by omega) (by omega)]
      exact hs
    have e7 : ν (T + 7) = fm := (fν _ (by omega) (by omega) (by omega) (by omega)).trans hf
    have e8 : ν (T + 8) = sh := (fν _ (by omega) (by omega) (by omega) (by omega)).trans hs
    have e13 : ν (T + 13) = μ (T + 13) := fν _ (by omega) (by omega) (by omega) (by omega)
    have e16 : ν (T + 16) = μ (T + 16) := fν _ (by omega) (by omega) (by omega) (by omega)
    have e17 : ν (T + 17) = μ (T + 17) := fν _ (by omega) (by omega) (by omega) (by omega)
    have eT : ν T = μ T := fν _ (by omega) (by omega) (by omega) (by omega)
    rw [zy_lso_id a wa l0.2.1, zy_lso_id b wb l0.2.2, zy_lso_id a wa l1.2.1, zy_lso_id b wb l1.2.2, hf, hs] at hP1
    have fin : ∀ (xa ya wa' va xb yb wb' vb : Int32), zt_P ν T (zy_id a) xa ya wa' va → zt_P ν T (zy_id b) xb yb wb' vb →
      ∃ μ' L', ze_S (D + 4) 3 none zc_X3_lay 48 L [] (zm_mk μ) 48 L' [] (zm_mk μ') ∧ zi_nl L' = true ∧ zi_get L' 0 = some (.ref (T + 1)) ∧ zi_get L' 2 = some (.int (nI (p + ((zy_ids a).length + (zy_ids b).length + 1)))) ∧
      zt_frL T μ μ' ∧ (∀ m, m ∉ zy_ids (.append (.tag n a) b) → ∀ c, μ' c m = μ c m) ∧ zt_P μ' T n x y w v ∧ zy_laid (zt_P μ' T) fm sh (zy_ls 0 fm lf0) (zy_ls 1 fm lf1) a xa ya wa' va ∧ zy_laid (zt_P μ' T) fm sh (zy_ls 0 fm lf0) (zy_ls 1 fm lf1) b xb yb wb' vb := by
      intro xa ya wa' va xb yb wb' vb Pa Pb
      obtain ⟨μ1, L1, S1, nl1, a0, a2, f1, m1, d1⟩ := iha ν (zi_set L 2 (.int (nI (p + 1)))) (p + 1) xa ya wa' va e7 e8 (okν a oka) hla nda (fun j hj => by
        rw [e13]
        have := ho' (1 + j) (by omega)
        rw [show p + (1 + j) = p + 1 + j by omega] at this
        rw [this, show 1 + j = j + 1 by omega]
        show nI ((zy_ids a ++ zy_ids b).getD j 0) = _
        rw [List.getD_eq_getElem?_getD, List.getElem?_append_left hj, List.getD_eq_getElem?_getD]) (by simp (maxDischargeDepth := 9) [zi_get_ne, zi_nl_i, zi_nl_r, zi_get_set_eq, nl]) (by simp (maxDischargeDepth := 9) [zi_get_ne, zi_nl_i, zi_nl_r, zi_get_set_eq, nl, g0]) zi_get_set_eq (by rw [eT]; exact h12) (by omega) (by rw [e16]; exact l0.2.1) (by rw [e17]; exact l1.2.1) Pa
      have Pb1 : zt_P μ1 T (zy_id b) xb yb wb' vb := by
        have := m1 (zy_id b) (fun e => dis _ e _ (zy_id_mem wb) rfl)
        unfold zt_P at *
        rw [this, this, this, this]
        exact Pb
      have ok1 : zy_okM μ1 T b := by
        have := okν b okb
        unfold zy_okM at *
        rw [f1 (T + 7) (by omega) (by omega) (by omega) (by omega), f1 (T + 9) (by omega) (by omega) (by omega) (by omega), f1 (T + 10) (by omega) (by omega) (by omega) (by omega), f1 (T + 11) (by omega) (by omega) (by omega) (by omega)]
        exact this
      obtain ⟨μ2, L2, S2, nl2, b0, b2, f2, m2, d2⟩ := ihb μ1 L1 (p + 1 + (zy_ids a).length) xb yb wb' vb ((f1 _ (by omega) (by omega) (by omega) (by omega)).trans e7) ((f1 _ (by omega) (by omega) (by omega) (by omega)).trans e8) ok1 hlb ndb (fun j hj => by
        rw [f1 (T + 13) (by omega) (by omega) (by omega) (by omega), e13]
        have := ho' (1 + (zy_ids a).length + j) (by omega)
        rw [show p + (1 + (zy_ids a).length + j) = p + 1 + (zy_ids a).length + j by omega] at this
        rw [this, show 1 + (zy_ids a).length + j = ((zy_ids a).length + j) + 1 by omega]
        show nI ((zy_ids a ++ zy_ids b).getD ((zy_ids a).length + j) 0) = _
        rw [List.getD_eq_getElem?_getD, List.getElem?_append_right (by omega), List.getD_eq_getElem?_getD, show (zy_ids a).length + j - (zy_ids a).length = j by omega]) nl1 a0 a2 (by rw [f1 T (by omega) (by omega) (by omega) (by omega), eT]; exact h12) (by omega) (by rw [f1 (T + 16) (by omega) (by omega) (by omega) (by omega), e16]; exact l0.2.2) (by rw [f1 (T + 17) (by omega) (by omega) (by omega) (by omega), e17]; exact l1.2.2) Pb1
      refine ⟨μ2, L2, (S0.trans S1).trans S2, nl2, b0, ?_, fun c h1 h2 h3 h4 => ((f2 c h1 h2 h3 h4).trans (f1 c h1 h2 h3 h4)).trans (fν c h1 h2 h3 h4), fun m hm c => ?_, ?_, ?_, d2⟩
      · rw [b2, show p + 1 + (zy_ids a).length + (zy_ids b).length = p + ((zy_ids a).length + (zy_ids b).length + 1) by omega]
      · have hm2 : m ∉ zy_ids a := fun e => hm (List.mem_cons_of_mem _ (List.mem_append_left _ e))
        have hm3 : m ∉ zy_ids b := fun e => hm (List.mem_cons_of_mem _ (List.mem_append_right _ e))
        rw [m2 m hm3, m1 m hm2, mν m (fun e => hm2 (e ▸ zy_id_mem wa)) (fun e => hm3 (e ▸ zy_id_mem wb))]
      · have q : ∀ c, μ2 c n = μ c n := fun c => by rw [m2 n (fun e => hn1 (List.mem_append_right _ e)), m1 n (fun e => hn1 (List.mem_append_left _ e)), mν n na nb]
        unfold zt_P
        rw [q, q, q, q]
        exact hP
      · refine zy_laid_mono a wa _ _ _ _ (fun m hm x y w v hP => ?_) d1
        have q := m2 m (fun e => dis _ hm _ e rfl)
        unfold zt_P at *
        rw [q, q, q, q]
        exact hP
    by_cases c : fm n = 0
    · rw [if_pos c] at hP1
      obtain ⟨μ', L', r1, r2, r3, r4, r5, r6, r7, r8, r9⟩ := fin _ _ _ _ _ _ _ _ hP1.1 hP1.2
      refine ⟨μ', L', r1, r2, r3, r4, r5, r6, r7, ?_⟩
      rw [if_pos c]
      exact ⟨r8, r9⟩
    · rw [if_neg c] at hP1
      obtain ⟨μ', L', r1, r2, r3, r4, r5, r6, r7, r8, r9⟩ := fin _ _ _ _ _ _ _ _ hP1.1 hP1.2
      refine ⟨μ', L', r1, r2, r3, r4, r5, r6, r7, ?_⟩
      rw [if_neg c]
      exact ⟨r8, r9⟩
end ZT8
