/-! places: what the reference's calls do with them -/
/-- the windows P are at X, Y; all others where they were -/
def zv_pd (μ ν : zm_M) (P : Nat → Bool) (X Y : Nat → Int32) : Prop := ∀ k, k < 10 → ν 239 k = (if P k = true then X k else μ 239 k) ∧ ν 240 k = (if P k = true then Y k else μ 240 k)
/-- what is kept of places stands -/
def zv_kpp (μ ν : zm_M) : Prop := ∀ d, ν 253 d = μ 253 d ∧ ν 254 d = μ 254 d
/-- nearest to x, y on the screen s -/
def zv_cx (μ : zm_M) (s : Nat) (x : Nat → Int32) (k : Nat) : Int32 := zv_ne (x k) (μ 232 s - μ 235 k)
def zv_cy (μ : zm_M) (s : Nat) (y : Nat → Int32) (k : Nat) : Int32 := zv_ne (y k) (μ 233 s - μ 236 k)
section ZZP
variable {μ ν ξ : zm_M} {row stk : List Nat} {us : Nat → zy_F} {s : Nat} {P : Nat → Bool} {X Y : Nat → Int32} {g : Nat → Bool} {k a b : Nat}
theorem zv_kpp.refl : zv_kpp μ μ := fun _ => ⟨rfl, rfl⟩
theorem zv_kpp.trans (h : zv_kpp μ ν) (g : zv_kpp ν ξ) : zv_kpp μ ξ := fun d => ⟨(g d).1.trans (h d).1, (g d).2.trans (h d).2⟩
theorem zv_kpp_of (f : ∀ c d, c = 253 ∨ c = 254 → ν c d = μ c d) : zv_kpp μ ν := fun d => ⟨f _ _ (Or.inl rfl), f _ _ (Or.inr rfl)⟩
theorem zv_pd_dec {i : Nat} : ∀ k, k ≠ i → (decide (k < i + 1) && P k) = (decide (k < i) && P k) := fun k hk => by
  have : (k < i + 1) = (k < i) := by
    apply propext
    omega
  rw [decide_eq_decide.mpr (by rw [this])]
theorem zv_pd_0 : zv_pd μ μ (fun k => decide (k < 0) && P k) X Y := fun k _ => by
  rw [if_neg (by simp), if_neg (by simp)]
  exact ⟨rfl, rfl⟩
theorem zv_pd_n {i : Nat} (h : zv_pd μ ξ (fun k => decide (k < i) && P k) X Y) (hp : P i = false) (e : ∀ k, k < 10 → ν 239 k = ξ 239 k ∧ ν 240 k = ξ 240 k) : zv_pd μ ν (fun k => decide (k < i + 1) && P k) X Y := by
  intro k hk
  rw [(e k hk).1, (e k hk).2, (h k hk).1, (h k hk).2]
  have e2 : (decide (k < i + 1) && P k) = (decide (k < i) && P k) := by
    by_cases e : k = i
    · rw [e, hp]; simp
    · exact zv_pd_dec k e
  show (if (decide (k < i) && P k) = true then X k else μ 239 k) = (if (decide (k < i + 1) && P k) = true then X k else μ 239 k) ∧ (if (decide (k < i) && P k) = true then Y k else μ 240 k) = (if (decide (k < i + 1) && P k) = true then Y k else μ 240 k)
  rw [e2]
  exact ⟨rfl, rfl⟩
theorem zv_pd_s {i : Nat} (h : zv_pd μ ξ (fun k => decide (k < i) && P k) X Y) (hp : P i = true) (e1 : ν 239 i = X i) (e2 : ν 240 i = Y i) (e : ∀ k, k < 10 → k ≠ i → ν 239 k = ξ 239 k ∧ ν 240 k = ξ 240 k) : zv_pd μ ν (fun k => decide (k < i + 1) && P k) X Y := by
  intro k hk
  by_cases c : k = i
  · subst c
    rw [if_pos (by simp [hp]), if_pos (by simp [hp])]
    exact ⟨e1, e2⟩
  · rw [(e k hk c).1, (e k hk c).2, (h k hk).1, (h k hk).2]
    have e2 := zv_pd_dec (P := P) k c
    show (if (decide (k < i) && P k) = true then X k else μ 239 k) = (if (decide (k < i + 1) && P k) = true then X k else μ 239 k) ∧ (if (decide (k < i) && P k) = true then Y k else μ 240 k) = (if (decide (k < i + 1) && P k) = true then Y k else μ 240 k)
    rw [e2]
    exact ⟨rfl, rfl⟩
theorem zv_pd_10 (h : zv_pd μ ν (fun k => decide (k < 10) && P k) X Y) : zv_pd μ ν P X Y := by
  intro k hk
  have e := h k hk
  have e2 : (decide (k < 10) && P k) = P k := by simp [hk]
  simp only [e2] at e
  exact e
theorem zv_pd_i {i : Nat} (hi : i < 10) (h : zv_pd μ ξ (fun k => decide (k < i) && P k) X Y) : ξ 239 i = μ 239 i ∧ ξ 240 i = μ 240 i := by
  have e := h i hi
  rw [if_neg (by simp), if_neg (by simp)] at e
  exact e
theorem zv_put_at {k s : Nat} {p q : Int32} : zv_put ξ k s p q 239 k = p ∧ zv_put ξ k s p q 240 k = q ∧ ∀ j, j ≠ k → zv_put ξ k s p q 239 j = ξ 239 j ∧ zv_put ξ k s p q 240 j = ξ 240 j := by
  unfold zv_put
  refine ⟨by rw [zm_up_ne (by omega), zm_up_eq], zm_up_eq, fun j hj => ⟨by rw [zm_up_ne (by omega), zm_up_ne (by omega), zm_up_ne (by omega)], by rw [zm_up_ne (by omega), zm_up_ne (by omega), zm_up_ne (by omega)]⟩⟩
set_option maxRecDepth 100000 in
theorem zv_scB_p (D : Nat) (hs : s < 3) (L0 : zi_Lc) (nl0 : zi_nl L0 = true) (a0 : zi_get L0 0 = some (.ref 232)) (a1 : zi_get L0 1 = some (.int (nI s))) (a5 : zi_get L0 5 = some (.int (nI 0))) :
    ∃ r h', ze_G (D + 2) 6 (some .int) zc_X6_screen 185 L0 [] (zm_mk μ) r h' ∧ (r = some (.int 0) ∧ ∃ ν, zm_mk ν = h' ∧ zv_pl μ ν ∧ zv_pd μ ν (fun k => zv_on μ k (nI s)) (zv_cx μ s (μ 239)) (zv_cy μ s (μ 240))) := by
  have h10 : (Int8.ofInt 10).toInt32 = (10 : Int32) := by decide
  refine ze_loop (Q := fun i L hp => i ≤ 10 ∧ zi_nl L = true ∧ zi_get L 0 = some (.ref 232) ∧ zi_get L 1 = some (.int (nI s)) ∧ zi_get L 5 = some (.int (nI i)) ∧ ∃ ξ : zm_M, zm_mk ξ = hp ∧ (zv_pl μ ξ) ∧ (zv_pd μ ξ (fun k => decide (k < i) && zv_on μ k (nI s)) (zv_cx μ s (μ 239)) (zv_cy μ s (μ 240))) ∧ (True)) (R := fun r h' => r = some (.int 0) ∧ ∃ ν, zm_mk ν = h' ∧ zv_pl μ ν ∧ zv_pd μ ν (fun k => zv_on μ k (nI s)) (zv_cx μ s (μ 239)) (zv_cy μ s (μ 240))) 10 ?_ ?_ 10 0 _ _ (by omega) ⟨by omega, nl0, a0, a1, a5, μ, rfl, (fun _ _ _ _ => rfl), zv_pd_0, trivial⟩
  · rintro i L _ hi ⟨-, nl, g0, g1, g5, ξ, rfl, f1, f2, hq⟩
    have c1 : ¬ (10 : Int32) ≤ nI i := nI_ge (b := 10) hi (by decide)
    have ik : zi_in (nI i) 10 = true := zm_in hi (by decide)
    have ck : (nI i).toNatClampNeg = i := nI_clamp (by omega)
    obtain ⟨lc, cM⟩ := zM_c (μ := ξ)
    obtain ⟨N2, E2⟩ := ze_MisOnScreen (μ := ξ) (D + 1) hi (nI s)
    have eon : zv_on ξ i (nI s) = zv_on μ i (nI s) := by
      unfold zv_on
      rw [f1 _ _ (by decide) (by decide), f1 _ _ (by decide) (by decide)]
    obtain ⟨i9, i0⟩ := zv_pd_i hi f2
    by_cases c2 : zv_on ξ i (nI s) = true
    · rw [if_pos c2] at E2
      obtain ⟨pp, qq, ⟨N1, E1⟩, epp, eqq⟩ := ze_MputAt (μ := ξ) D hi hs (ξ 239 i) (ξ 240 i)
      have e8 : ξ 238 i = nI s := (of_decide_eq_true c2).2.2
      have f1' : zv_pl μ (zv_put ξ i s pp qq) := fun c d r1 r2 => by
        unfold zv_put
        rw [zm_up_ne (by omega), zm_up_ne (by omega)]
        by_cases e : c = 238 ∧ d = i
        · rw [e.1, e.2, zm_up_eq, ← e8]
          exact f1 _ _ (by decide) (by decide)
        · rw [zm_up_ne e]
          exact f1 c d r1 r2
      have f2' : zv_pd μ (zv_put ξ i s pp qq) (fun k => decide (k < i + 1) && zv_on μ k (nI s)) (zv_cx μ s (μ 239)) (zv_cy μ s (μ 240)) := zv_pd_s f2 (by rw [← eon]; exact c2) (by
        rw [zv_put_at.1, epp, i9, f1 _ _ (by decide) (by decide), f1 _ _ (by decide) (by decide)]
        rfl) (by
        rw [zv_put_at.2.1, eqq, i0, f1 _ _ (by decide) (by decide), f1 _ _ (by decide) (by decide)]
        rfl) (fun j _ hj => zv_put_at.2.2 j hj)
      left
      refine ⟨zi_set L 5 (.int (nI (i + 1))), zm_mk (zv_put ξ i s pp qq), ⟨N1 + N2, 22, fun F m hF => ?_⟩, by omega, ?_, ?_, ?_, zi_get_set_eq, _, rfl, f1', f2', trivial⟩
      · simp (maxDischargeDepth := 9) [zi_go, zf_X6_screen, zi_ask, zi_new, zi_step, zi_ld, zi_lda, zi_cmp, zi_retOk, zi_isI, zi_f3, zi_cr, zi_ci, zi_cn, zi_get_ne, zi_nl_i, zi_nl_r, zi_get_set_eq, nl, g0, g1, g5, h10, c1, cM, zM_g, zq_Mod_isOnScreen, zq_Mod_putAt, E1 F (by omega), E2 F (by omega), zm_iald (k := 0) zM_A239 ik, zm_iald (k := 0) zM_A240 ik, ck, nI_1]
      · simp (maxDischargeDepth := 9) [zi_get_ne, zi_nl_i, zi_nl_r, zi_get_set_eq, nl]
      · simp (maxDischargeDepth := 9) [zi_get_ne, zi_nl_i, zi_nl_r, zi_get_set_eq, nl, g0]
      · simp (maxDischargeDepth := 9) [zi_get_ne, zi_nl_i, zi_nl_r, zi_get_set_eq, nl, g1]
    · rw [if_neg c2] at E2
      left
      refine ⟨zi_set L 5 (.int (nI (i + 1))), zm_mk ξ, ⟨N2, 10, fun F m hF => ?_⟩, by omega, ?_, ?_, ?_, zi_get_set_eq, _, rfl, f1, zv_pd_n f2 (by rw [← eon]; simpa using c2) (fun _ _ => ⟨rfl, rfl⟩), trivial⟩
      · simp (maxDischargeDepth := 9) [zi_go, zf_X6_screen, zi_ask, zi_new, zi_step, zi_ld, zi_lda, zi_cmp, zi_retOk, zi_isI, zi_f3, zi_cr, zi_ci, zi_cn, zi_get_ne, zi_nl_i, zi_nl_r, zi_get_set_eq, nl, g0, g1, g5, h10, c1, cM, zq_Mod_isOnScreen, E2 F (by omega), nI_1]
      · simp (maxDischargeDepth := 9) [zi_get_ne, zi_nl_i, zi_nl_r, zi_get_set_eq, nl]
      · simp (maxDischargeDepth := 9) [zi_get_ne, zi_nl_i, zi_nl_r, zi_get_set_eq, nl, g0]
      · simp (maxDischargeDepth := 9) [zi_get_ne, zi_nl_i, zi_nl_r, zi_get_set_eq, nl, g1]
  · rintro L _ ⟨-, nl, g0, g1, g5, ξ, rfl, f1, f2, hq⟩
    have c1 : (10 : Int32) ≤ nI 10 := by decide
    refine ⟨some (.int 0), zm_mk ξ, ⟨0, 5, fun F m hF => ?_⟩, rfl, ξ, rfl, f1, zv_pd_10 f2⟩
    simp [zi_go, zf_X6_screen, zi_ask, zi_new, zi_step, zi_ld, zi_lda, zi_cmp, zi_retOk, zi_isI, zi_f3, zi_cr, zi_ci, zi_cn, g0, g1, g5, h10, c1]
set_option maxRecDepth 100000 in
theorem zv_brA_p (D : Nat) (hs : s < 3) {k : Nat} (hk : k < 10) (hb : μ 252 (10 * s + k) = 0 ∨ μ 252 (10 * s + k) = 1) {z : Nat} (L : zi_Lc) (nl : zi_nl L = true) (g0 : zi_get L 0 = some (.ref 232)) (g1 : zi_get L 1 = some (.int (nI s))) (g2 : zi_get L 2 = some (.int (nI z))) (g3 : zi_get L 3 = some (.int (nI k))) :
    ∃ L' ν, ze_S (D + 2) 7 (some .int) zc_X6_bring 121 L [] (zm_mk μ) 206 L' [] (zm_mk ν) ∧ zi_nl L' = true ∧ zi_get L' 0 = some (.ref 232) ∧ zi_get L' 1 = some (.int (nI s)) ∧ zi_get L' 2 = some (.int (nI (z + 1))) ∧ zi_get L' 3 = some (.int (nI k)) ∧ zi_get L' 4 = some (.int (nI 0)) ∧ (∀ c d, c ≠ 238 → c ≠ 239 → c ≠ 240 → ν c d = μ c d) ∧ (∀ j, j ≠ k → ν 238 j = μ 238 j) ∧ (ν 238 k = if ¬ μ 234 k = 1 then nI s else μ 238 k) ∧ ((ν 239 k = if ¬ μ 234 k = 1 then zv_ne (if ¬ μ 252 (10 * s + k) = 0 then μ 253 (10 * s + k) else μ 239 k) (μ 232 s - μ 235 k) else μ 239 k) ∧ (ν 240 k = if ¬ μ 234 k = 1 then zv_ne (if ¬ μ 252 (10 * s + k) = 0 then μ 254 (10 * s + k) else μ 240 k) (μ 233 s - μ 236 k) else μ 240 k)) ∧ ∀ j, j ≠ k → ν 239 j = μ 239 j ∧ ν 240 j = μ 240 j := by
  have h10 : (Int8.ofInt 10).toInt32 = (10 : Int32) := by decide
  have n1 : (Int8.ofInt 1).toInt32 = (1 : Int32) := by decide
  have ik : zi_in (nI k) 10 = true := zm_in hk (by decide)
  have ck : (nI k).toNatClampNeg = k := nI_clamp (by omega)
  have mk : (10 : Int32) * nI s = nI (10 * s) := nI_mul10 (by omega)
  have ij : zi_in (nI (10 * s + k)) 30 = true := zm_in (by omega) (by decide)
  have cj : (nI (10 * s + k)).toNatClampNeg = 10 * s + k := nI_clamp (by omega)
  obtain ⟨lc, cM⟩ := zM_c (μ := μ)
  by_cases c : μ 234 k = 1
  · refine ⟨zi_set (zi_set L 2 (.int (nI (z + 1)))) 4 (.int (nI 0)), μ, ⟨0, 9, fun F m hF => ?_⟩, by simp (maxDischargeDepth := 9) [zi_get_ne, zi_nl_i, zi_nl_r, zi_get_set_eq, nl], by simp (maxDischargeDepth := 9) [zi_get_ne, zi_nl_i, zi_nl_r, zi_get_set_eq, nl, g0], by simp (maxDischargeDepth := 9) [zi_get_ne, zi_nl_i, zi_nl_r, zi_get_set_eq, nl, g1], by simp (maxDischargeDepth := 9) [zi_get_ne, zi_nl_i, zi_nl_r, zi_get_set_eq, nl], by simp (maxDischargeDepth := 9) [zi_get_ne, zi_nl_i, zi_nl_r, zi_get_set_eq, nl, g3], zi_get_set_eq, fun _ _ _ _ _ => rfl, fun _ _ => rfl, by rw [if_neg (not_not_intro c)], ⟨by rw [if_neg (not_not_intro c)], by rw [if_neg (not_not_intro c)]⟩, fun _ _ => ⟨rfl, rfl⟩⟩
    simp (maxDischargeDepth := 9) [zi_go, zf_X6_bring, zi_ask, zi_new, zi_step, zi_ld, zi_lda, zi_cmp, zi_retOk, zi_isI, zi_f3, zi_cr, zi_ci, zi_cn, zi_get_ne, zi_nl_i, zi_nl_r, zi_get_set_eq, nl, g0, g1, g2, g3, zM_g, zm_iald (k := 0) zM_A234 ik, ck, c, nI_0, nI_1]
  · have pf : ∀ p q, (∀ c d, c ≠ 238 → c ≠ 239 → c ≠ 240 → zv_put μ k s p q c d = μ c d) ∧ (∀ j, j ≠ k → zv_put μ k s p q 238 j = μ 238 j) ∧ (zv_put μ k s p q 238 k = if ¬ μ 234 k = 1 then nI s else μ 238 k) := fun p q => by
      unfold zv_put
      refine ⟨fun c d a1 a2 a3 => by rw [zm_up_ne (by omega), zm_up_ne (by omega), zm_up_ne (by omega)], fun j hj => by rw [zm_up_ne (by omega), zm_up_ne (by omega), zm_up_ne (by omega)], by rw [if_pos c, zm_up_ne (by omega), zm_up_ne (by omega), zm_up_eq]⟩
    rcases hb with b | b
    · obtain ⟨p, q, ⟨N1, E1⟩, ep, eq⟩ := ze_MputAt (μ := μ) D hk hs (μ 239 k) (μ 240 k)
      have pg : ((zv_put μ k s p q 239 k = if ¬ μ 234 k = 1 then zv_ne (if ¬ μ 252 (10 * s + k) = 0 then μ 253 (10 * s + k) else μ 239 k) (μ 232 s - μ 235 k) else μ 239 k) ∧ (zv_put μ k s p q 240 k = if ¬ μ 234 k = 1 then zv_ne (if ¬ μ 252 (10 * s + k) = 0 then μ 254 (10 * s + k) else μ 240 k) (μ 233 s - μ 236 k) else μ 240 k)) ∧ ∀ j, j ≠ k → zv_put μ k s p q 239 j = μ 239 j ∧ zv_put μ k s p q 240 j = μ 240 j := by
        have bb : ¬ ¬ μ 252 (10 * s + k) = 0 := by rw [b]; decide
        rw [if_pos c, if_pos c, if_neg bb, if_neg bb, zv_put_at.1, zv_put_at.2.1]
        exact ⟨⟨ep, eq⟩, zv_put_at.2.2⟩
      have pf := pf p q
      generalize zv_put μ k s p q = ν at E1 pf pg
      refine ⟨zi_set (zi_set (zi_set L 2 (.int (nI (z + 1)))) 4 (.int 0)) 4 (.int (nI 0)), ν, ⟨N1, 34, fun F m hF => ?_⟩, by simp (maxDischargeDepth := 9) [zi_get_ne, zi_nl_i, zi_nl_r, zi_get_set_eq, nl], by simp (maxDischargeDepth := 9) [zi_get_ne, zi_nl_i, zi_nl_r, zi_get_set_eq, nl, g0], by simp (maxDischargeDepth := 9) [zi_get_ne, zi_nl_i, zi_nl_r, zi_get_set_eq, nl, g1], by simp (maxDischargeDepth := 9) [zi_get_ne, zi_nl_i, zi_nl_r, zi_get_set_eq, nl], by simp (maxDischargeDepth := 9) [zi_get_ne, zi_nl_i, zi_nl_r, zi_get_set_eq, nl, g3], zi_get_set_eq, pf.1, pf.2.1, pf.2.2, pg⟩
      simp (maxDischargeDepth := 9) [zi_go, zf_X6_bring, zi_ask, zi_new, zi_step, zi_ld, zi_lda, zi_cmp, zi_retOk, zi_isI, zi_f3, zi_cr, zi_ci, zi_cn, zi_get_ne, zi_nl_i, zi_nl_r, zi_get_set_eq, nl, g0, g1, g2, g3, zM_g, h10, mk, nI_add, zm_bald zM_A252 ij, cj, b, zm_iald (k := 0) zM_A234 ik, zm_iald (k := 0) zM_A239 ik, zm_iald (k := 0) zM_A240 ik, ck, c, cM, zq_Mod_putAt, E1 F (by omega), nI_0, nI_1]
    · obtain ⟨p, q, ⟨N1, E1⟩, ep, eq⟩ := ze_MputAt (μ := μ) D hk hs (μ 253 (10 * s + k)) (μ 254 (10 * s + k))
      have pg : ((zv_put μ k s p q 239 k = if ¬ μ 234 k = 1 then zv_ne (if ¬ μ 252 (10 * s + k) = 0 then μ 253 (10 * s + k) else μ 239 k) (μ 232 s - μ 235 k) else μ 239 k) ∧ (zv_put μ k s p q 240 k = if ¬ μ 234 k = 1 then zv_ne (if ¬ μ 252 (10 * s + k) = 0 then μ 254 (10 * s + k) else μ 240 k) (μ 233 s - μ 236 k) else μ 240 k)) ∧ ∀ j, j ≠ k → zv_put μ k s p q 239 j = μ 239 j ∧ zv_put μ k s p q 240 j = μ 240 j := by
        have bb : ¬ μ 252 (10 * s + k) = 0 := by rw [b]; decide
        rw [if_pos c, if_pos c, if_pos bb, if_pos bb, zv_put_at.1, zv_put_at.2.1]
        exact ⟨⟨ep, eq⟩, zv_put_at.2.2⟩
      have pf := pf p q
      generalize zv_put μ k s p q = ν at E1 pf pg
      refine ⟨zi_set (zi_set (zi_set L 2 (.int (nI (z + 1)))) 4 (.int 1)) 4 (.int (nI 0)), ν, ⟨N1, 44, fun F m hF => ?_⟩, by simp (maxDischargeDepth := 9) [zi_get_ne, zi_nl_i, zi_nl_r, zi_get_set_eq, nl], by simp (maxDischargeDepth := 9) [zi_get_ne, zi_nl_i, zi_nl_r, zi_get_set_eq, nl, g0], by simp (maxDischargeDepth := 9) [zi_get_ne, zi_nl_i, zi_nl_r, zi_get_set_eq, nl, g1], by simp (maxDischargeDepth := 9) [zi_get_ne, zi_nl_i, zi_nl_r, zi_get_set_eq, nl], by simp (maxDischargeDepth := 9) [zi_get_ne, zi_nl_i, zi_nl_r, zi_get_set_eq, nl, g3], zi_get_set_eq, pf.1, pf.2.1, pf.2.2, pg⟩
      simp (maxDischargeDepth := 9) [zi_go, zf_X6_bring, zi_ask, zi_new, zi_step, zi_ld, zi_lda, zi_cmp, zi_retOk, zi_isI, zi_f3, zi_cr, zi_ci, zi_cn, zi_get_ne, zi_nl_i, zi_nl_r, zi_get_set_eq, nl, g0, g1, g2, g3, zM_g, h10, mk, nI_add, zm_bald zM_A252 ij, zm_iald (k := 0) zM_A253 ij, zm_iald (k := 0) zM_A254 ij, cj, b, zm_iald (k := 0) zM_A234 ik, ck, c, cM, zq_Mod_putAt, E1 F (by omega), nI_0, nI_1]
set_option maxRecDepth 100000 in
theorem zv_brK_p (D : Nat) (hs : s < 3) (hg : zv_cm μ g) (hb : ∀ k, k < 10 → μ 252 (10 * s + k) = 0 ∨ μ 252 (10 * s + k) = 1) (L0 : zi_Lc) (nl0 : zi_nl L0 = true) (a0 : zi_get L0 0 = some (.ref 232)) (a1 : zi_get L0 1 = some (.int (nI s))) (a2 : zi_get L0 2 = some (.int (nI 0))) (a3 : zi_get L0 3 = some (.int (nI 0))) :
    ∃ r h', ze_G (D + 2) 7 (some .int) zc_X6_bring 106 L0 [] (zm_mk μ) r h' ∧ (r = some (.int (nI (zl_ct g 10))) ∧ ∃ ν, zm_mk ν = h' ∧ zv_br μ ν s g 10 ∧ zv_pd μ ν (fun k => g k && !decide (μ 234 k = 1)) (zv_cx μ s (fun k => if ¬ μ 252 (10 * s + k) = 0 then μ 253 (10 * s + k) else μ 239 k)) (zv_cy μ s (fun k => if ¬ μ 252 (10 * s + k) = 0 then μ 254 (10 * s + k) else μ 240 k))) := by
  have h10 : (Int8.ofInt 10).toInt32 = (10 : Int32) := by decide
  refine ze_loop (Q := fun i L hp => i ≤ 10 ∧ zi_nl L = true ∧ zi_get L 0 = some (.ref 232) ∧ zi_get L 1 = some (.int (nI s)) ∧ zi_get L 3 = some (.int (nI i)) ∧ ∃ ξ : zm_M, zm_mk ξ = hp ∧ ∃ (z : Nat), zi_get L 2 = some (.int (nI z)) ∧ (z = zl_ct g i ∧ zv_br μ ξ s g i ∧ zv_pd μ ξ (fun k => decide (k < i) && (g k && !decide (μ 234 k = 1))) (zv_cx μ s (fun k => if ¬ μ 252 (10 * s + k) = 0 then μ 253 (10 * s + k) else μ 239 k)) (zv_cy μ s (fun k => if ¬ μ 252 (10 * s + k) = 0 then μ 254 (10 * s + k) else μ 240 k)))) (R := fun r h' => r = some (.int (nI (zl_ct g 10))) ∧ ∃ ν, zm_mk ν = h' ∧ zv_br μ ν s g 10 ∧ zv_pd μ ν (fun k => g k && !decide (μ 234 k = 1)) (zv_cx μ s (fun k => if ¬ μ 252 (10 * s + k) = 0 then μ 253 (10 * s + k) else μ 239 k)) (zv_cy μ s (fun k => if ¬ μ 252 (10 * s + k) = 0 then μ 254 (10 * s + k) else μ 240 k))) 10 ?_ ?_ 10 0 _ _ (by omega) ⟨by omega, nl0, a0, a1, a3, μ, rfl, 0, a2, rfl, ⟨fun j hj => by rw [if_neg (fun z => absurd z.1.1 (by omega))], fun o ho => ⟨Or.inr rfl, fun z => Or.inl z, fun z => z.elim id (fun y => (by obtain ⟨-, j, hj, -⟩ := y; omega))⟩, fun _ _ _ _ _ _ => rfl⟩, zv_pd_0⟩
  · rintro i L _ hi ⟨-, nl, g0, g1, g3, ξ, rfl, z, g2, hq⟩
    obtain ⟨hz, hb1, hb9⟩ := hq
    have c1 : ¬ (10 : Int32) ≤ nI i := nI_ge (b := 10) hi (by decide)
    have ik : zi_in (nI i) 10 = true := zm_in hi (by decide)
    have ck : (nI i).toNatClampNeg = i := nI_clamp (by omega)
    have ec : ξ 260 i = if g i = true then 1 else 0 := (hb1.2.2 _ _ (by decide) (by decide) (by decide) (by decide)).trans (hg i hi)
    have es : zl_ct g (i + 1) = zl_ct g i + if g i then 1 else 0 := rfl
    by_cases c2 : g i = true
    · rw [if_pos c2] at ec
      rw [if_pos c2] at es
      have hb2 := hb i hi
      have e25 : ξ 252 (10 * s + i) = μ 252 (10 * s + i) := hb1.2.2 _ _ (by decide) (by decide) (by decide) (by decide)
      rw [← e25] at hb2
      obtain ⟨L1, ξ1, S1, nl1, b0, b1, b2, b3, b4, m1, m2, m3, m4, m5⟩ := zv_brA_p (μ := ξ) D hs hi hb2 L nl g0 g1 g2 g3
      obtain ⟨L2, h2, S2, nl2, d0, d1, d2, d3, ν, rfl, n1, n2⟩ := zv_brF (μ := ξ1) (D + 2) hs hi L1 nl1 b0 b1 b2 b3 b4
      have e4 : ξ 234 i = μ 234 i := hb1.2.2 _ _ (by decide) (by decide) (by decide) (by decide)
      rw [e4] at m3
      have q : ∀ c d, c ≠ 238 → c ≠ 239 → c ≠ 240 → c ≠ 251 → ξ c d = μ c d := hb1.2.2
      obtain ⟨i9, i0⟩ := zv_pd_i hi hb9
      rw [e4, i9, i0, q 252 _ (by decide) (by decide) (by decide) (by decide), q 253 _ (by decide) (by decide) (by decide) (by decide), q 254 _ (by decide) (by decide) (by decide) (by decide), q 232 _ (by decide) (by decide) (by decide) (by decide), q 233 _ (by decide) (by decide) (by decide) (by decide), q 235 _ (by decide) (by decide) (by decide) (by decide), q 236 _ (by decide) (by decide) (by decide) (by decide)] at m4
      have hb9' : zv_pd μ ν (fun k => decide (k < i + 1) && (g k && !decide (μ 234 k = 1))) (zv_cx μ s (fun k => if ¬ μ 252 (10 * s + k) = 0 then μ 253 (10 * s + k) else μ 239 k)) (zv_cy μ s (fun k => if ¬ μ 252 (10 * s + k) = 0 then μ 254 (10 * s + k) else μ 240 k)) := by
        by_cases ck : μ 234 i = 1
        · refine zv_pd_n hb9 (by rw [ck]; simp) (fun j hj => ?_)
          rw [n2 _ _ (by decide), n2 _ _ (by decide)]
          by_cases ej : j = i
          · rw [ej, i9, i0]
            rw [if_neg (not_not_intro ck), if_neg (not_not_intro ck)] at m4
            exact m4
          · exact m5 j ej
        · rw [if_pos ck, if_pos ck] at m4
          refine zv_pd_s hb9 (by rw [c2]; simpa using ck) ((n2 _ _ (by decide)).trans m4.1) ((n2 _ _ (by decide)).trans m4.2) (fun j _ ej => ?_)
          rw [n2 _ _ (by decide), n2 _ _ (by decide)]
          exact m5 j ej
      left
      refine ⟨zi_set L2 3 (.int (nI (i + 1))), zm_mk ν, ze_S.trans ⟨0, 8, fun F m hF => ?_⟩ (S1.trans (S2.trans ⟨0, 2, fun F m hF => ?_⟩)), by omega, ?_, ?_, ?_, zi_get_set_eq, ν, rfl, z + 1, ?_, by rw [es, hz], zv_br_s hi hb1 c2 m1 m2 m3 n1 n2, hb9'⟩
      · simp (maxDischargeDepth := 9) [zi_go, zf_X6_bring, zi_ask, zi_new, zi_step, zi_ld, zi_lda, zi_cmp, zi_retOk, zi_isI, zi_f3, zi_cr, zi_ci, zi_cn, zi_get_ne, zi_nl_i, zi_nl_r, zi_get_set_eq, nl, g0, g1, g2, g3, h10, c1, zM_g, zm_bald zM_A260 ik, ck, ec]
      · have nl := nl2
        simp (maxDischargeDepth := 9) [zi_go, zf_X6_bring, zi_ask, zi_new, zi_step, zi_ld, zi_lda, zi_cmp, zi_retOk, zi_isI, zi_f3, zi_cr, zi_ci, zi_cn, zi_get_ne, zi_nl_i, zi_nl_r, zi_get_set_eq, nl, d0, d1, d2, d3, nI_1]
      · have nl := nl2
        simp (maxDischargeDepth := 9) [zi_get_ne, zi_nl_i, zi_nl_r, zi_get_set_eq, nl]
      · have nl := nl2
        simp (maxDischargeDepth := 9) [zi_get_ne, zi_nl_i, zi_nl_r, zi_get_set_eq, nl, d0]
      · have nl := nl2
        simp (maxDischargeDepth := 9) [zi_get_ne, zi_nl_i, zi_nl_r, zi_get_set_eq, nl, d1]
      · have nl := nl2
        simp (maxDischargeDepth := 9) [zi_get_ne, zi_nl_i, zi_nl_r, zi_get_set_eq, nl, d2]
    · rw [if_neg c2] at ec
      rw [if_neg c2] at es
      left
      refine ⟨zi_set L 3 (.int (nI (i + 1))), zm_mk ξ, ⟨0, 10, fun F m hF => ?_⟩, by omega, ?_, ?_, ?_, zi_get_set_eq, ξ, rfl, z, ?_, ⟨hz.trans es.symm, zv_br_no hb1 c2, zv_pd_n hb9 (by simp [c2]) (fun _ _ => ⟨rfl, rfl⟩)⟩⟩
      · simp (maxDischargeDepth := 9) [zi_go, zf_X6_bring, zi_ask, zi_new, zi_step, zi_ld, zi_lda, zi_cmp, zi_retOk, zi_isI, zi_f3, zi_cr, zi_ci, zi_cn, zi_get_ne, zi_nl_i, zi_nl_r, zi_get_set_eq, nl, g0, g1, g3, g2, h10, c1, zM_g, zm_bald zM_A260 ik, ck, ec, nI_1]
      · simp (maxDischargeDepth := 9) [zi_get_ne, zi_nl_i, zi_nl_r, zi_get_set_eq, nl]
      · simp (maxDischargeDepth := 9) [zi_get_ne, zi_nl_i, zi_nl_r, zi_get_set_eq, nl, g0]
      · simp (maxDischargeDepth := 9) [zi_get_ne, zi_nl_i, zi_nl_r, zi_get_set_eq, nl, g1]
      · simp (maxDischargeDepth := 9) [zi_get_ne, zi_nl_i, zi_nl_r, zi_get_set_eq, nl, g2]
  · rintro L _ ⟨-, nl, g0, g1, g3, ξ, rfl, z, g2, hq⟩
    obtain ⟨hz, hb1, hb9⟩ := hq
    have c1 : (10 : Int32) ≤ nI 10 := by decide
    refine ⟨_, zm_mk ξ, ⟨0, 5, fun F m hF => ?_⟩, by rw [← hz], ξ, rfl, hb1, zv_pd_10 hb9⟩
    simp [zi_go, zf_X6_bring, zi_ask, zi_new, zi_step, zi_ld, zi_lda, zi_cmp, zi_retOk, zi_isI, zi_f3, zi_cr, zi_ci, zi_cn, g0, g2, g3, h10, c1]
set_option maxRecDepth 100000 in
theorem ze_Mbring_p {uk : zy_F} {abk : Nat → Int32} (D : Nat) (hs : s < 3) (hI : ∀ q, q < 3 → ∃ ab, zu_I μ q (us q) ab) (hnd : ∀ q, q < 3 → zu_nd μ q (us q)) (hK : zu_I μ (3 + s) uk abk) (hKd : zu_nd μ (3 + s) uk) (hlv : ∀ n ∈ zy_lvs uk, ∀ w ∈ zu_tb μ (3 + s) n, zv_lv μ us w) (hg : zv_cm μ g) (hb : ∀ k, k < 10 → μ 252 (10 * s + k) = 0 ∨ μ 252 (10 * s + k) = 1) :
    ∃ μ1 ξ us1 ν, ze_E (D + 27) A_Mod_bring [.ref 232, .int (nI s)] (zm_mk μ) (some (.int (nI (zl_ct g 10)))) (zm_mk ν) ∧ zu_frv μ μ1 ∧ zv_bs μ1 s us ξ us1 ((zy_lvs uk).flatMap (zu_tb μ (3 + s))) ∧ zv_br (zu_cq ξ (3 + s) s 24 240) ν s g 10 ∧ zv_pd μ ν (fun k => g k && !decide (μ 234 k = 1)) (zv_cx μ s (fun k => if ¬ μ 252 (10 * s + k) = 0 then μ 253 (10 * s + k) else μ 239 k)) (zv_cy μ s (fun k => if ¬ μ 252 (10 * s + k) = 0 then μ 254 (10 * s + k) else μ 240 k)) := by
  obtain ⟨lc, cM⟩ := zM_c (μ := μ)
  have e3 : (3 : Int32) + nI s = nI (3 + s) := by rw [show (3 : Int32) = nI 3 by decide, nI_add]
  obtain ⟨μ1, ⟨N1, E1⟩, v1, f1⟩ := ze_MclearLeaves (μ := μ) D (τ := 3 + s) (by omega) hK
  have etb : ∀ τ, zu_tb μ1 τ = zu_tb μ τ := fun τ => funext fun n => zu_frv_tb f1
  have hI1 : ∀ q, q < 3 → ∃ ab, zu_I μ1 q (us q) ab := fun q hq => by
    obtain ⟨ab, h⟩ := hI q hq
    exact ⟨ab, (f1.eqT (τ := q)).I h⟩
  have nd1 : ∀ τ u, zu_nd μ τ u → zu_nd μ1 τ u := fun τ u h => by
    unfold zu_nd
    rw [etb]; exact h
  have hlv1 : ∀ w, zv_lv μ us w → zv_lv μ1 us w := fun w ⟨h1, q, h2, h3, ⟨m, h4⟩, h5⟩ => by
    obtain ⟨ab, hIq⟩ := hI q h2
    refine ⟨h1, q, h2, (f1 _ _ (by omega) (by decide)).trans h3, ⟨m, zu_at_eqT hIq (f1.eqT (τ := q)) h4⟩, ?_⟩
    intro p
    rw [etb]
    exact h5 p
  obtain ⟨L1, h1, S1, nl1, b0, b1, b2, ξ, us1, rfl, hbs⟩ := zv_brO (μ := μ1) (us := us) (uk := uk) (D + 22) hs hI1 (fun q hq => nd1 q _ (hnd q hq)) ((f1.eqT (τ := 3 + s)).I hK) (nd1 _ _ hKd) v1 (fun n hn w hw => hlv1 w (hlv n hn w (by rw [etb] at hw; exact hw))) [(3, .int (nI 0)), (2, .int (nI 0)), (0, .ref 232), (1, .int (nI s))] rfl rfl rfl rfl rfl
  rw [etb] at hbs
  obtain ⟨N2, E2⟩ := ze_McopyTree (μ := ξ) (D + 24) (f := 3 + s) (t := s) (by omega) (by omega) (by omega)
  obtain ⟨lc1, cM1⟩ := zM_c (μ := ξ)
  have fc : ∀ c d, 250 < c → zu_cq ξ (3 + s) s 24 240 c d = μ c d ∨ c = 259 := fun c d h => by
    by_cases e : c = 259
    · exact Or.inr e
    · exact Or.inl (((zu_cq_fr c d (zu_in_not (by omega))).trans (hbs.2.2 c d (by omega) (fun q hq => zu_in_not (by omega)))).trans (f1 c d (by omega) e))
  have hg2 : zv_cm (zu_cq ξ (3 + s) s 24 240) g := fun j hj => by
    rw [(fc 260 j (by decide)).resolve_right (by decide)]; exact hg j hj
  have hb2 : ∀ k, k < 10 → zu_cq ξ (3 + s) s 24 240 252 (10 * s + k) = 0 ∨ zu_cq ξ (3 + s) s 24 240 252 (10 * s + k) = 1 := fun k hk => by
    rw [(fc 252 _ (by decide)).resolve_right (by decide)]; exact hb k hk
  have nl := nl1
  obtain ⟨r, h2, G, rfl, ν, rfl, hbr, hpd⟩ := zv_brK_p (μ := zu_cq ξ (3 + s) s 24 240) (D + 24) hs hg2 hb2 (zi_set L1 3 (.int (nI 0))) (by simp (maxDischargeDepth := 9) [zi_get_ne, zi_nl_i, zi_nl_r, zi_get_set_eq, nl]) (by simp (maxDischargeDepth := 9) [zi_get_ne, zi_nl_i, zi_nl_r, zi_get_set_eq, nl, b0]) (by simp (maxDischargeDepth := 9) [zi_get_ne, zi_nl_i, zi_nl_r, zi_get_set_eq, nl, b1]) (by simp (maxDischargeDepth := 9) [zi_get_ne, zi_nl_i, zi_nl_r, zi_get_set_eq, nl, b2]) zi_get_set_eq
  have low : ∀ c d, c ≠ 238 → 231 < c → c < 243 → zu_cq ξ (3 + s) s 24 240 c d = μ c d := fun c d r0 r1 r2 => ((zu_cq_fr c d (zu_in_not (by omega))).trans (hbs.2.2 c d r0 (fun q hq => zu_in_not (by omega)))).trans (f1 c d (by omega) (by omega))
  have hpd' : zv_pd μ ν (fun k => g k && !decide (μ 234 k = 1)) (zv_cx μ s (fun k => if ¬ μ 252 (10 * s + k) = 0 then μ 253 (10 * s + k) else μ 239 k)) (zv_cy μ s (fun k => if ¬ μ 252 (10 * s + k) = 0 then μ 254 (10 * s + k) else μ 240 k)) := fun k hk => by
    have z : (ν 239 k = if (g k && !decide (zu_cq ξ (3 + s) s 24 240 234 k = 1)) = true then zv_ne (if ¬ zu_cq ξ (3 + s) s 24 240 252 (10 * s + k) = 0 then zu_cq ξ (3 + s) s 24 240 253 (10 * s + k) else zu_cq ξ (3 + s) s 24 240 239 k) (zu_cq ξ (3 + s) s 24 240 232 s - zu_cq ξ (3 + s) s 24 240 235 k) else zu_cq ξ (3 + s) s 24 240 239 k) ∧ (ν 240 k = if (g k && !decide (zu_cq ξ (3 + s) s 24 240 234 k = 1)) = true then zv_ne (if ¬ zu_cq ξ (3 + s) s 24 240 252 (10 * s + k) = 0 then zu_cq ξ (3 + s) s 24 240 254 (10 * s + k) else zu_cq ξ (3 + s) s 24 240 240 k) (zu_cq ξ (3 + s) s 24 240 233 s - zu_cq ξ (3 + s) s 24 240 236 k) else zu_cq ξ (3 + s) s 24 240 240 k) := hpd k hk
    show (ν 239 k = if (g k && !decide (μ 234 k = 1)) = true then zv_ne (if ¬ μ 252 (10 * s + k) = 0 then μ 253 (10 * s + k) else μ 239 k) (μ 232 s - μ 235 k) else μ 239 k) ∧ (ν 240 k = if (g k && !decide (μ 234 k = 1)) = true then zv_ne (if ¬ μ 252 (10 * s + k) = 0 then μ 254 (10 * s + k) else μ 240 k) (μ 233 s - μ 236 k) else μ 240 k)
    rw [low 234 k (by decide) (by decide) (by decide), low 239 k (by decide) (by decide) (by decide), low 240 k (by decide) (by decide) (by decide), low 232 s (by decide) (by decide) (by decide), low 233 s (by decide) (by decide) (by decide), low 235 k (by decide) (by decide) (by decide), low 236 k (by decide) (by decide) (by decide), (fc 252 _ (by decide)).resolve_right (by decide), (fc 253 _ (by decide)).resolve_right (by decide), (fc 254 _ (by decide)).resolve_right (by decide)] at z
    exact z
  refine ⟨μ1, ξ, us1, ν, ze_in [(0, .ref 232), (1, .int (nI s))] zq_Mod_bring (Nat.le_of_ble_eq_true rfl) rfl (ze_S.end ⟨N1, 9, fun F m hF => ?_⟩ (S1.end (ze_S.end ⟨N2, 8, fun F m hF => ?_⟩ G))), f1, hbs, hbr, hpd'⟩
  · simp [zi_go, zf_X6_bring, zi_ask, zi_new, zi_step, zi_ld, zi_lda, zi_cmp, zi_retOk, zi_isI, zi_f3, zi_cr, zi_ci, zi_cn, zi_get, zi_set, zM_g, cM, e3, zq_Mod_clearLeaves, E1 F (by omega), nI_0]
  · simp (maxDischargeDepth := 9) [zi_go, zf_X6_bring, zi_ask, zi_new, zi_step, zi_ld, zi_lda, zi_cmp, zi_retOk, zi_isI, zi_f3, zi_cr, zi_ci, zi_cn, zi_get_ne, zi_nl_i, zi_nl_r, zi_get_set_eq, nl, b0, b1, b2, cM1, e3, zq_Mod_copyTree, E2 F (by omega), nI_0]
def zv_brp (μ M ν : zm_M) (s : Nat) : Prop := zv_kpp μ ν ∧ zv_pd M ν (fun k => zv_back M (zv_dlg μ) (zv_own μ) s k && !decide (M 234 k = 1)) (zv_cx M s (fun k => if ¬ M 252 (10 * s + k) = 0 then M 253 (10 * s + k) else M 239 k)) (zv_cy M s (fun k => if ¬ M 252 (10 * s + k) = 0 then M 254 (10 * s + k) else M 240 k))
def zv_scrp (μ ν : zm_M) (us : Nat → zy_F) (w x y : Int32) : Prop :=
  ((¬ ∃ s, zd_sarg w x y s) ∧ zv_plc μ ν) ∨ ∃ s, zd_sarg w x y s ∧
    ((¬ μ 232 s = 0 ∧ ((zv_gd (zv_srm μ s x y) (zu_fit μ s (us s) x y) 10 = false ∧ zv_plc μ ν) ∨ (zv_gd (zv_srm μ s x y) (zu_fit μ s (us s) x y) 10 = true ∧ zv_kpp μ ν ∧ zv_pd μ ν (fun k => zv_on μ k (nI s)) (fun k => zv_ne (μ 239 k) (x - μ 235 k)) (fun k => zv_ne (μ 240 k) (y - μ 236 k))))) ∨
     (μ 232 s = 0 ∧ ∃ M, zv_nw μ M s x y ∧ (((μ 251 s = 0 ∨ zv_bk M us (zv_dlg μ) (zv_own μ) s = false) ∧ zv_plc μ ν) ∨ (¬ μ 251 s = 0 ∧ zv_bk M us (zv_dlg μ) (zv_own μ) s = true ∧ zv_brp μ M ν s))))
set_option maxRecDepth 100000 in
theorem ze_Mscreen_p (D : Nat) (h : zR μ row stk us) (hK : zv_kep μ us) (w x y : Int32) : ∃ ν v, ze_E (D + 28) A_Mod_screen [.ref 232, .int w, .int x, .int y] (zm_mk μ) (some (.int v)) (zm_mk ν) ∧ zv_scrp μ ν us w x y := by
  have n1 : Int32.ofInt (-1000000001) = -1000000001 := by decide
  have n2 : Int32.ofInt (-1000000002) = -1000000002 := by decide
  have h40 : (Int8.ofInt 40).toInt32 = (40 : Int32) := by decide
  have h400 : (Int16.ofInt 400).toInt32 = (400 : Int32) := by decide
  obtain ⟨lc, cM⟩ := zM_c (μ := μ)
  have enter : ∀ {ν r}, ze_G (D + 27) 6 (some .int) zc_X6_screen 0 [(0, .ref 232), (1, .int w), (2, .int x), (3, .int y)] [] (zm_mk μ) (some (.int r)) (zm_mk ν) → ze_E (D + 28) A_Mod_screen [.ref 232, .int w, .int x, .int y] (zm_mk μ) (some (.int r)) (zm_mk ν) := fun G => ze_in [(0, .ref 232), (1, .int w), (2, .int x), (3, .int y)] zq_Mod_screen (Nat.le_of_ble_eq_true rfl) rfl G
  rcases zM_isIn (hp := zm_mk μ) (D + 26) w (n := 2) (b := 2) (by decide) (by decide) with ⟨s, hs, rfl, N1, E1⟩ | ⟨⟨N1, E1⟩, hno⟩
  · have hs : s < 3 := hs
    have is : zi_in (nI s) 3 = true := zm_in hs (by decide)
    have cs : (nI s).toNatClampNeg = s := nI_clamp (by omega)
    obtain ⟨N2, E2⟩ := ze_isIn (h := zm_mk μ) (D + 26) x 40 400
    by_cases c1 : 40 ≤ x ∧ x ≤ 400
    · rw [if_pos c1] at E2
      obtain ⟨N3, E3⟩ := ze_isIn (h := zm_mk μ) (D + 26) y 40 400
      by_cases c2 : 40 ≤ y ∧ y ≤ 400
      · rw [if_pos c2] at E3
        have hsa : zd_sarg (nI s) x y s := ⟨hs, rfl, c1, c2⟩
        have p40 : (0 : Int32) ≤ 40 := by decide
        have hx0 : 0 ≤ x := Int32.le_trans p40 c1.1
        have hy0 : 0 ≤ y := Int32.le_trans p40 c2.1
        have S0 : ze_S (D + 27) 6 (some .int) zc_X6_screen 0 [(0, .ref 232), (1, .int (nI s)), (2, .int x), (3, .int y)] [] (zm_mk μ) 36 [(0, .ref 232), (1, .int (nI s)), (2, .int x), (3, .int y)] [] (zm_mk μ) := by
          refine ⟨N1 + N2 + N3, 15, fun F n hF => ?_⟩
          simp [zi_go, zf_X6_screen, zi_ask, zi_new, zi_step, zi_ld, zi_lda, zi_cmp, zi_retOk, zi_isI, zi_f3, zi_cr, zi_ci, zi_cn, zi_get, zi_set, h40, h400, zq_Mod_isIn, E1 F (by omega), E2 F (by omega), E3 F (by omega)]
        by_cases c0 : μ 232 s = 0
        · -- the screen comes
          have hnil := zR_none h hs c0
          have w1 : zm_up (zm_up μ 232 s x) 233 s y 232 s = x := by rw [zm_up_ne (by omega), zm_up_eq]
          have w2 : zm_up (zm_up μ 232 s x) 233 s y 233 s = y := zm_up_eq
          have w3 : ∀ c d, ¬ (c = 232 ∧ d = s) → ¬ (c = 233 ∧ d = s) → zm_up (zm_up μ 232 s x) 233 s y c d = μ c d := fun c d r1 r2 => by rw [zm_up_ne r2, zm_up_ne r1]
          have S1 : ze_S (D + 27) 6 (some .int) zc_X6_screen 36 [(0, .ref 232), (1, .int (nI s)), (2, .int x), (3, .int y)] [] (zm_mk μ) 59 [(0, .ref 232), (1, .int (nI s)), (2, .int x), (3, .int y)] [] (zm_mk (zm_up (zm_up μ 232 s x) 233 s y)) := by
            refine ⟨0, 15, fun F n hF => ?_⟩
            simp [zi_go, zf_X6_screen, zi_ask, zi_new, zi_step, zi_ld, zi_lda, zi_cmp, zi_retOk, zi_isI, zi_f3, zi_cr, zi_ci, zi_cn, zi_get, zi_set, zM_g, zm_iald (k := 0) zM_A232 is, zm_iast zM_A232 is, zm_iast zM_A233 is, cs, c0]
          generalize zm_up (zm_up μ 232 s x) 233 s y = A at S1 w1 w2 w3
          obtain ⟨lcA, cMA⟩ := zM_c (μ := A)
          obtain ⟨M, ⟨N4, E4⟩, hE, fE⟩ := ze_MclearTreeI (μ := A) (D + 25) (τ := s) (by omega)
          have hM : zv_nw μ M s x y := ⟨⟨(fE _ _ (zu_in_not (by decide))).trans w1, (fE _ _ (zu_in_not (by decide))).trans w2⟩, hE, fun c d r1 r2 r3 => (fE c d r3).trans (w3 c d r1 r2)⟩
          obtain ⟨lcM, cMM⟩ := zM_c (μ := M)
          have x51 : M 251 s = μ 251 s := hM.2.2 _ _ (by omega) (by omega) (zu_in_not (by decide))
          have tail : ∀ (X : zm_M) (r : Int32) (L : zi_Lc), zi_get L 0 = some (.ref 232) → zi_get L 1 = some (.int (nI s)) → zi_nl L = true → ze_G (D + 27) 6 (some .int) zc_X6_screen 90 L [.int r] (zm_mk X) (some (.int r)) (zm_mk (zm_up X 251 s 0)) := fun X r L g0 g1 nl => by
            have o0 : (0 : Int32) = 0 ∨ (0 : Int32) = 1 := Or.inl rfl
            refine ⟨0, 8, fun F n hF => ?_⟩
            simp (maxDischargeDepth := 9) [zi_go, zf_X6_screen, zi_ask, zi_new, zi_step, zi_ld, zi_lda, zi_cmp, zi_retOk, zi_isI, zi_f3, zi_cr, zi_ci, zi_cn, zi_get_ne, zi_nl_i, zi_nl_r, zi_get_set_eq, nl, g0, g1, zM_g, zm_bast zM_A251 is o0, cs]
          have L0g : zi_get [(0, .ref 232), (1, .int (nI s)), (2, .int x), (3, .int y)] 0 = some (.ref 232) ∧ zi_get [(0, .ref 232), (1, .int (nI s)), (2, .int x), (3, .int y)] 1 = some (.int (nI s)) := ⟨rfl, rfl⟩
          by_cases c3 : μ 251 s = 0
          · have c3' : M 251 s = 0 := x51.trans c3
            refine ⟨zm_up M 251 s 0, 0, enter (S0.end (S1.end (ze_S.end ⟨N4, 9, fun F n hF => ?_⟩ (tail M 0 _ L0g.1 L0g.2 rfl)))), Or.inr ⟨s, hsa, Or.inr ⟨c0, M, hM, Or.inl ⟨Or.inl c3, fun c d hc => (zm_up_ne (by omega)).trans (hM.2.2 c d (by omega) (by omega) (zu_in_not (by omega)))⟩⟩⟩⟩
            simp [zi_go, zf_X6_screen, zi_ask, zi_new, zi_step, zi_ld, zi_lda, zi_cmp, zi_retOk, zi_isI, zi_f3, zi_cr, zi_ci, zi_cn, zi_get, zi_set, zM_g, cMA, zq_Mod_clearTree, E4 F (by omega), zm_bald zM_A251 is, cs, c3']
          · have c3' : ¬ M 251 s = 0 := by rw [x51]; exact c3
            obtain ⟨⟨⟨abk, hIk⟩, hKd, hKw⟩, h252⟩ := And.intro (hK.1 s hs c3) hK.2
            have tK : zu_eqT μ (3 + s) M (3 + s) := zu_eq_in (fun c d r => hM.2.2 c d (fun z => zu_in_not (Or.inl (by omega)) r) (fun z => zu_in_not (Or.inl (by omega)) r) (zu_in_ne r (by omega)))
            have hIkM := tK.I hIk
            have low : ∀ c d, 234 ≤ c → c < 243 ∨ 250 < c → M c d = μ c d := fun c d r1 r2 => hM.2.2 c d (by omega) (by omega) (zu_in_not r2)
            have hb : ∀ k, k < 10 → M 252 (10 * s + k) = 0 ∨ M 252 (10 * s + k) = 1 := fun k hk => by
              rw [low _ _ (by decide) (by decide)]
              exact h252 _ (by omega)
            have how := zv_ow_cells (ν := M) (zR_ow h) (fun c d r => low c d (by omega) (by omega))
            obtain ⟨θ, ⟨N5, E5⟩, hcm, fθ⟩ := ze_McomesBack (μ := M) D hs hb how hIkM (by rw [hM.1.1]; exact hx0) (by rw [hM.1.2]; exact hy0)
            obtain ⟨lcθ, cMθ⟩ := zM_c (μ := θ)
            have ebk : zv_gd (zv_room M (zv_back M (zv_dlg μ) (zv_own μ) s) s) (zu_fit M (3 + s) (us (3 + s)) (M 232 s) (M 233 s)) 10 = zv_bk M us (zv_dlg μ) (zv_own μ) s := rfl
            rw [ebk] at E5
            by_cases c4 : zv_bk M us (zv_dlg μ) (zv_own μ) s = true
            · rw [if_pos c4] at E5
              have tθ : ∀ q, q < 3 → zu_I θ q (us q) (fun n => zu_ab θ q (nI n)) ∨ ∃ ab, zu_I θ q (us q) ab := fun q hq => by
                refine Or.inr ?_
                by_cases e : q = s
                · rw [e, hnil]
                  exact ⟨_, (zu_fr260 (τ := s) fθ).I hE⟩
                · obtain ⟨⟨ab, hI⟩, -⟩ := h.2.2.2.2.1 q hq
                  have t1 : zu_eqT μ q M q := zu_eq_in (fun c d r => hM.2.2 c d (fun z => zu_in_not (Or.inl (by omega)) r) (fun z => zu_in_not (Or.inl (by omega)) r) (zu_in_ne r e))
                  exact ⟨ab, (t1.trans (zu_fr260 (τ := q) fθ)).I hI⟩
              have hIθ : ∀ q, q < 3 → ∃ ab, zu_I θ q (us q) ab := fun q hq => (tθ q hq).elim (fun z => ⟨_, z⟩) id
              have teq : ∀ q, q < 3 → q ≠ s → zu_eqT μ q θ q := fun q hq e => by
                have t1 : zu_eqT μ q M q := zu_eq_in (fun c d r => hM.2.2 c d (fun z => zu_in_not (Or.inl (by omega)) r) (fun z => zu_in_not (Or.inl (by omega)) r) (zu_in_ne r e))
                exact t1.trans (zu_fr260 (τ := q) fθ)
              have hndθ : ∀ q, q < 3 → zu_nd θ q (us q) := fun q hq => by
                by_cases e : q = s
                · rw [e, hnil]
                  exact ⟨fun n hn => (by cases hn), fun n hn => (by cases hn)⟩
                · obtain ⟨⟨ab, hI⟩, hnd, -⟩ := h.2.2.2.2.1 q hq
                  exact zu_nd_eqT hI hnd (teq q hq e)
              have tKθ := tK.trans (zu_fr260 (τ := 3 + s) fθ)
              have hKdθ := zu_nd_eqT hIk hKd tKθ
              have etb : ∀ n ∈ zy_lvs (us (3 + s)), zu_tb θ (3 + s) n = zu_tb μ (3 + s) n := fun n hn => tKθ.tb (zu_I_lt hIk hn) (zu_I_tbl hIk hn)
              have hlvθ : ∀ n ∈ zy_lvs (us (3 + s)), ∀ w ∈ zu_tb θ (3 + s) n, zv_lv θ us w := fun n hn w hw => by
                rw [etb n hn] at hw
                obtain ⟨b1, q, b2, b3, ⟨m, b4⟩, b5⟩ := zR_lv h ((zu_I_tb hIk hn).2.2 w hw) (hKw n hn w hw)
                have hqs : q ≠ s := fun e => by
                  rw [e, hnil] at b4
                  cases b4.1
                obtain ⟨⟨ab, hI⟩, -⟩ := h.2.2.2.2.1 q b2
                refine ⟨b1, q, b2, by rw [fθ _ _ (by decide), low _ _ (by decide) (by decide)]; exact b3, ⟨m, zu_at_eqT hI (teq q b2 hqs) b4⟩, fun p hp hpq n hn z => ?_⟩
                by_cases e : p = s
                · rw [e, hnil] at hn
                  cases hn
                · obtain ⟨⟨ab, hI⟩, -⟩ := h.2.2.2.2.1 p hp
                  rw [(teq p hp e).tb (zu_I_lt hI hn) (zu_I_tbl hI hn)] at z
                  exact b5 p hp hpq n hn z
              have hbθ : ∀ k, k < 10 → θ 252 (10 * s + k) = 0 ∨ θ 252 (10 * s + k) = 1 := fun k hk => by
                rw [fθ _ _ (by decide)]
                exact hb k hk
              obtain ⟨M2, ξ, us1, ν1, ⟨N6, E6⟩, fv, hbs, hbr, hpd⟩ := ze_Mbring_p (μ := θ) (us := us) D hs hIθ hndθ (tKθ.I hIk) hKdθ hlvθ hcm hbθ
              have eW : (zy_lvs (us (3 + s))).flatMap (zu_tb θ (3 + s)) = (zy_lvs (us (3 + s))).flatMap (zu_tb M (3 + s)) := by
                have : zu_tb θ (3 + s) = zu_tb M (3 + s) := funext fun n => zu_tb_cells (fun d => ⟨fθ _ _ (by decide), fθ _ _ (by decide)⟩)
                rw [this]
              rw [eW] at hbs
              have lowM : ∀ c d, c ≠ 238 → ¬ (c = 232 ∧ d = s) → ¬ (c = 233 ∧ d = s) → (231 < c ∧ c < 243) ∨ 251 < c → M c d = μ c d := fun c d _ r2 r3 r4 => hM.2.2 c d r2 r3 (zu_in_not (by omega))
              have hkp : zv_kpp μ (zm_up ν1 251 s 0) := zv_kpp_of (fun c d hc => by
                rw [zm_up_ne (by omega), hbr.2.2 c d (by omega) (by omega) (by omega) (by omega), zu_cq_fr c d (zu_in_not (by omega)), hbs.2.2 c d (by omega) (fun q hq => zu_in_not (by omega)), fv c d (by omega) (by omega), fθ c d (by omega), lowM c d (by omega) (by omega) (by omega) (by omega)])
              have hpd' : zv_pd M (zm_up ν1 251 s 0) (fun k => zv_back M (zv_dlg μ) (zv_own μ) s k && !decide (M 234 k = 1)) (zv_cx M s (fun k => if ¬ M 252 (10 * s + k) = 0 then M 253 (10 * s + k) else M 239 k)) (zv_cy M s (fun k => if ¬ M 252 (10 * s + k) = 0 then M 254 (10 * s + k) else M 240 k)) := fun k hk => by
                have z := hpd k hk
                unfold zv_cx zv_cy at *
                simp only [fun c d (h : c ≠ 260) => fθ c d h, ne_eq, Nat.reduceEqDiff, not_false_eq_true] at z
                rw [zm_up_ne (by omega), zm_up_ne (by omega)]
                exact z
              refine ⟨zm_up ν1 251 s 0, nI (zl_ct (zv_back M (zv_dlg μ) (zv_own μ) s) 10), enter (S0.end (S1.end (ze_S.end ⟨N4 + N5 + N6, 16, fun F n hF => ?_⟩ (tail ν1 _ _ L0g.1 L0g.2 rfl)))), Or.inr ⟨s, hsa, Or.inr ⟨c0, M, hM, Or.inr ⟨c3, c4, hkp, hpd'⟩⟩⟩⟩
              simp [zi_go, zf_X6_screen, zi_ask, zi_new, zi_step, zi_ld, zi_lda, zi_cmp, zi_retOk, zi_isI, zi_f3, zi_cr, zi_ci, zi_cn, zi_get, zi_set, zM_g, cMA, cMM, cMθ, zq_Mod_clearTree, zq_Mod_comesBack, zq_Mod_bring, E4 F (by omega), E5 F (by omega), E6 F (by omega), zm_bald zM_A251 is, cs, c3']
            · rw [if_neg c4] at E5
              refine ⟨zm_up θ 251 s 0, 0, enter (S0.end (S1.end (ze_S.end ⟨N4 + N5, 13, fun F n hF => ?_⟩ (tail θ 0 _ L0g.1 L0g.2 rfl)))), Or.inr ⟨s, hsa, Or.inr ⟨c0, M, hM, Or.inl ⟨Or.inr (by simpa using c4), fun c d hc => (zm_up_ne (by omega)).trans ((fθ c d (by omega)).trans (hM.2.2 c d (by omega) (by omega) (zu_in_not (by omega))))⟩⟩⟩⟩
              simp [zi_go, zf_X6_screen, zi_ask, zi_new, zi_step, zi_ld, zi_lda, zi_cmp, zi_retOk, zi_isI, zi_f3, zi_cr, zi_ci, zi_cn, zi_get, zi_set, zM_g, cMA, cMM, zq_Mod_clearTree, zq_Mod_comesBack, E4 F (by omega), E5 F (by omega), zm_bald zM_A251 is, cs, c3']
        · -- another size
          obtain ⟨⟨ab, hI⟩, hnd, hw⟩ := h.2.2.2.2.1 s hs
          obtain ⟨N4, E4⟩ := ze_Mfits (μ := μ) (D + 1) (τ := s) (by omega) hI hx0 hy0
          generalize hb0 : zu_fit μ s (us s) x y = b0 at E4
          have S1 : ze_S (D + 27) 6 (some .int) zc_X6_screen 36 [(0, .ref 232), (1, .int (nI s)), (2, .int x), (3, .int y)] [] (zm_mk μ) 114 [(5, .int (nI 0)), (4, .int (if b0 = true then 1 else 0)), (0, .ref 232), (1, .int (nI s)), (2, .int x), (3, .int y)] [] (zm_mk μ) := by
            refine ⟨N4, 13, fun F n hF => ?_⟩
            simp [zi_go, zf_X6_screen, zi_ask, zi_new, zi_step, zi_ld, zi_lda, zi_cmp, zi_retOk, zi_isI, zi_f3, zi_cr, zi_ci, zi_cn, zi_get, zi_set, zM_g, cM, zq_Mod_fits, E4 F (by omega), zm_iald (k := 0) zM_A232 is, cs, c0, nI_0]
          obtain ⟨L2, h2, S2, nl2, a0, a1, a2, a3, a4, rfl⟩ := zv_scA (μ := μ) (w := x) (v := y) (D + 26) hs b0 [(5, .int (nI 0)), (4, .int (if b0 = true then 1 else 0)), (0, .ref 232), (1, .int (nI s)), (2, .int x), (3, .int y)] rfl rfl rfl rfl rfl rfl rfl
          generalize hg : zv_gd (zv_srm μ s x y) b0 10 = good at a4
          cases good with
          | false =>
            have a4 : zi_get L2 4 = some (.int 0) := a4
            refine ⟨μ, -1000000002, enter (S0.end (S1.end (S2.end ⟨0, 4, fun F n hF => ?_⟩))), Or.inr ⟨s, hsa, Or.inl ⟨c0, Or.inl ⟨by rw [hb0]; exact hg, zv_plc.refl⟩⟩⟩⟩
            simp [zi_go, zf_X6_screen, zi_ask, zi_new, zi_step, zi_ld, zi_lda, zi_cmp, zi_retOk, zi_isI, zi_f3, zi_cr, zi_ci, zi_cn, a4, n2]
          | true =>
            have a4 : zi_get L2 4 = some (.int 1) := a4
            have n10 : ¬ (1 : Int32) = 0 := by decide
            have w1 : zm_up (zm_up μ 232 s x) 233 s y 232 s = x := by rw [zm_up_ne (by omega), zm_up_eq]
            have w2 : zm_up (zm_up μ 232 s x) 233 s y 233 s = y := zm_up_eq
            have w3 : ∀ c d, ¬ (c = 232 ∧ d = s) → ¬ (c = 233 ∧ d = s) → zm_up (zm_up μ 232 s x) 233 s y c d = μ c d := fun c d r1 r2 => by rw [zm_up_ne r2, zm_up_ne r1]
            have S3 : ze_S (D + 27) 6 (some .int) zc_X6_screen 160 L2 [] (zm_mk μ) 185 (zi_set L2 5 (.int (nI 0))) [] (zm_mk (zm_up (zm_up μ 232 s x) 233 s y)) := by
              have nl := nl2
              refine ⟨0, 14, fun F n hF => ?_⟩
              simp (maxDischargeDepth := 9) [zi_go, zf_X6_screen, zi_ask, zi_new, zi_step, zi_ld, zi_lda, zi_cmp, zi_retOk, zi_isI, zi_f3, zi_cr, zi_ci, zi_cn, zi_get_ne, zi_nl_i, zi_nl_r, zi_get_set_eq, nl, a0, a1, a2, a3, a4, n10, zM_g, zm_iast zM_A232 is, zm_iast zM_A233 is, cs, nI_0]
            generalize zm_up (zm_up μ 232 s x) 233 s y = A at S3 w1 w2 w3
            obtain ⟨r, h', G, rfl, ν, rfl, hpl, hpd⟩ := zv_scB_p (μ := A) (D + 25) hs (zi_set L2 5 (.int (nI 0))) (zi_nl_i nl2) ((zi_get_ne nl2 (by decide)).trans a0) ((zi_get_ne nl2 (by decide)).trans a1) zi_get_set_eq
            refine ⟨ν, 0, enter (S0.end (S1.end (S2.end (S3.end G)))), Or.inr ⟨s, hsa, Or.inl ⟨c0, Or.inr ⟨by rw [hb0]; exact hg, zv_kpp_of (fun c d hc => (hpl c d (by omega) (by omega)).trans (w3 c d (by omega) (by omega))), fun k hk => ?_⟩⟩⟩⟩
            have z := hpd k hk
            have eon : zv_on A k (nI s) = zv_on μ k (nI s) := by
              unfold zv_on
              rw [w3 _ _ (by omega) (by omega), w3 _ _ (by omega) (by omega)]
            unfold zv_cx zv_cy at z
            simp only [eon] at z
            rw [w1, w2, w3 239 k (by omega) (by omega), w3 240 k (by omega) (by omega), w3 235 k (by omega) (by omega), w3 236 k (by omega) (by omega)] at z
            exact z
      · rw [if_neg c2] at E3
        refine ⟨μ, -1000000001, enter ⟨N1 + N2 + N3, 17, fun F n hF => ?_⟩, Or.inl ⟨fun ⟨s', q⟩ => c2 q.2.2.2, zv_plc.refl⟩⟩
        simp [zi_go, zf_X6_screen, zi_ask, zi_new, zi_step, zi_ld, zi_lda, zi_cmp, zi_retOk, zi_isI, zi_f3, zi_cr, zi_ci, zi_cn, zi_get, zi_set, h40, h400, zq_Mod_isIn, E1 F (by omega), E2 F (by omega), E3 F (by omega), n1]
    · rw [if_neg c1] at E2
      refine ⟨μ, -1000000001, enter ⟨N1 + N2, 12, fun F n hF => ?_⟩, Or.inl ⟨fun ⟨s', q⟩ => c1 q.2.2.1, zv_plc.refl⟩⟩
      simp [zi_go, zf_X6_screen, zi_ask, zi_new, zi_step, zi_ld, zi_lda, zi_cmp, zi_retOk, zi_isI, zi_f3, zi_cr, zi_ci, zi_cn, zi_get, zi_set, h40, h400, zq_Mod_isIn, E1 F (by omega), E2 F (by omega), n1]
  · refine ⟨μ, -1000000001, enter ⟨N1, 7, fun F n hF => ?_⟩, Or.inl ⟨fun ⟨s', q⟩ => hno s' q.1 q.2.1, zv_plc.refl⟩⟩
    simp [zi_go, zf_X6_screen, zi_ask, zi_new, zi_step, zi_ld, zi_lda, zi_cmp, zi_retOk, zi_isI, zi_f3, zi_cr, zi_ci, zi_cn, zi_get, zi_set, zq_Mod_isIn, E1 F (by omega), n1]
set_option maxRecDepth 100000 in
theorem zv_gnS_p (D : Nat) {s k : Nat} (hs : s < 3) (hk : k < 10) (hkd : μ 234 k = 0 ∨ μ 234 k = 1 ∨ μ 234 k = 2 ∨ μ 234 k = 3 ∨ μ 234 k = 4) (L : zi_Lc) (nl : zi_nl L = true) (g0 : zi_get L 0 = some (.ref 232)) (g1 : zi_get L 1 = some (.int (nI s))) (g5 : zi_get L 5 = some (.int (nI k))) :
    ∃ ν, ze_S D 7 (some .int) zc_X6_gone 215 L [] (zm_mk μ) 306 (zi_set L 6 (.int (if zv_ons μ s k = true then 1 else 0))) [] (zm_mk ν) ∧ ν 252 (10 * s + k) = (if zv_ons μ s k = true then 1 else 0) ∧ (∀ c d, c ≠ 253 → c ≠ 254 → ¬ (c = 252 ∧ d = 10 * s + k) → ν c d = μ c d) ∧ (ν 253 (10 * s + k) = μ 239 k ∧ ν 254 (10 * s + k) = μ 240 k) ∧ ∀ d, d ≠ 10 * s + k → ν 253 d = μ 253 d ∧ ν 254 d = μ 254 d := by
  have h10 : (Int8.ofInt 10).toInt32 = (10 : Int32) := by decide
  have ik : zi_in (nI k) 10 = true := zm_in hk (by decide)
  have ck : (nI k).toNatClampNeg = k := nI_clamp (by omega)
  have mk : (10 : Int32) * nI s = nI (10 * s) := nI_mul10 (by omega)
  have ij : zi_in (nI (10 * s + k)) 30 = true := zm_in (by omega) (by decide)
  have cj : (nI (10 * s + k)).toNatClampNeg = 10 * s + k := nI_clamp (by omega)
  have key : ∀ b : Int32, (b = 0 ∨ b = 1) → ∃ ν, ze_S D 7 (some .int) zc_X6_gone 252 L [.int b] (zm_mk μ) 306 (zi_set L 6 (.int b)) [] (zm_mk ν) ∧ ν 252 (10 * s + k) = b ∧ (∀ c d, c ≠ 253 → c ≠ 254 → ¬ (c = 252 ∧ d = 10 * s + k) → ν c d = μ c d) ∧ (ν 253 (10 * s + k) = μ 239 k ∧ ν 254 (10 * s + k) = μ 240 k) ∧ ∀ d, d ≠ 10 * s + k → ν 253 d = μ 253 d ∧ ν 254 d = μ 254 d := fun b hb => by
    have v1 : zm_up μ 252 (10 * s + k) b 239 k = μ 239 k := zm_up_ne (by omega)
    have v2 : zm_up (zm_up μ 252 (10 * s + k) b) 253 (10 * s + k) (μ 239 k) 240 k = μ 240 k := by rw [zm_up_ne (by omega), zm_up_ne (by omega)]
    refine ⟨zm_up (zm_up (zm_up μ 252 (10 * s + k) b) 253 (10 * s + k) (μ 239 k)) 254 (10 * s + k) (μ 240 k), ⟨0, 34, fun F m hF => ?_⟩, by rw [zm_up_ne (by omega), zm_up_ne (by omega), zm_up_eq], fun c d a b c => by rw [zm_up_ne (by omega), zm_up_ne (by omega), zm_up_ne (by omega)], ⟨by rw [zm_up_ne (by omega), zm_up_eq], zm_up_eq⟩, fun d hd => ⟨by rw [zm_up_ne (by omega), zm_up_ne (by omega), zm_up_ne (by omega)], by rw [zm_up_ne (by omega), zm_up_ne (by omega), zm_up_ne (by omega)]⟩⟩
    simp (maxDischargeDepth := 9) [zi_go, zf_X6_gone, zi_ask, zi_new, zi_step, zi_ld, zi_lda, zi_cmp, zi_retOk, zi_isI, zi_f3, zi_cr, zi_ci, zi_cn, zi_get_ne, zi_nl_i, zi_nl_r, zi_get_set_eq, nl, g0, g1, g5, h10, zM_g, mk, nI_add, zm_bast zM_A252 ij hb, zm_iast zM_A253 ij, zm_iast zM_A254 ij, cj, zm_iald (k := 0) zM_A239 ik, zm_iald (k := 0) zM_A240 ik, ck, v1, v2]
  by_cases c0 : μ 234 k = 0
  · have e : zv_ons μ s k = false := decide_eq_false (fun z => by rw [c0] at z; exact absurd z.1 (by decide))
    have c0' : μ 234 k ≤ 0 := by rw [c0]; decide
    obtain ⟨ν, S, q⟩ := key 0 (Or.inl rfl)
    rw [e]
    refine ⟨ν, ze_S.trans ⟨0, 6, fun F m hF => ?_⟩ S, q⟩
    simp (maxDischargeDepth := 9) [zi_go, zf_X6_gone, zi_ask, zi_new, zi_step, zi_ld, zi_lda, zi_cmp, zi_retOk, zi_isI, zi_f3, zi_cr, zi_ci, zi_cn, zi_get_ne, zi_nl_i, zi_nl_r, zi_get_set_eq, nl, g0, g1, g5, zM_g, zm_iald (k := 0) zM_A234 ik, ck, c0']
  · have c0p : 0 < μ 234 k := by
      rcases hkd with e | e | e | e | e
      · exact absurd e c0
      all_goals rw [e]; decide
    have c0' : ¬ μ 234 k ≤ 0 := Int32.not_le.mpr c0p
    by_cases c4 : μ 234 k = 4
    · have e : zv_ons μ s k = false := decide_eq_false (fun z => z.2.1 c4)
      have c9 : ¬ (4 : Int32) ≤ 0 := by decide
      obtain ⟨ν, S, q⟩ := key 0 (Or.inl rfl)
      rw [e]
      refine ⟨ν, ze_S.trans ⟨0, 12, fun F m hF => ?_⟩ S, q⟩
      simp (maxDischargeDepth := 9) [zi_go, zf_X6_gone, zi_ask, zi_new, zi_step, zi_ld, zi_lda, zi_cmp, zi_retOk, zi_isI, zi_f3, zi_cr, zi_ci, zi_cn, zi_get_ne, zi_nl_i, zi_nl_r, zi_get_set_eq, nl, g0, g1, g5, zM_g, zm_iald (k := 0) zM_A234 ik, ck, c4, c9]
    · by_cases c8 : μ 238 k = nI s
      · have e : zv_ons μ s k = true := decide_eq_true ⟨c0p, c4, c8⟩
        obtain ⟨ν, S, q⟩ := key 1 (Or.inr rfl)
        rw [e]
        refine ⟨ν, ze_S.trans ⟨0, 19, fun F m hF => ?_⟩ S, q⟩
        simp (maxDischargeDepth := 9) [zi_go, zf_X6_gone, zi_ask, zi_new, zi_step, zi_ld, zi_lda, zi_cmp, zi_retOk, zi_isI, zi_f3, zi_cr, zi_ci, zi_cn, zi_get_ne, zi_nl_i, zi_nl_r, zi_get_set_eq, nl, g0, g1, g5, zM_g, zm_iald (k := 0) zM_A234 ik, zm_iald (k := 0) zM_A238 ik, ck, c0', c4, c8]
      · have e : zv_ons μ s k = false := decide_eq_false (fun z => c8 z.2.2)
        obtain ⟨ν, S, q⟩ := key 0 (Or.inl rfl)
        rw [e]
        refine ⟨ν, ze_S.trans ⟨0, 18, fun F m hF => ?_⟩ S, q⟩
        simp (maxDischargeDepth := 9) [zi_go, zf_X6_gone, zi_ask, zi_new, zi_step, zi_ld, zi_lda, zi_cmp, zi_retOk, zi_isI, zi_f3, zi_cr, zi_ci, zi_cn, zi_get_ne, zi_nl_i, zi_nl_r, zi_get_set_eq, nl, g0, g1, g5, zM_g, zm_iald (k := 0) zM_A234 ik, zm_iald (k := 0) zM_A238 ik, ck, c0', c4, c8]
/-- what gone keeps of places, below i -/
def zv_gk (μ ξ : zm_M) (s i : Nat) : Prop := (∀ k, k < i → ξ 253 (10 * s + k) = μ 239 k ∧ ξ 254 (10 * s + k) = μ 240 k) ∧ ∀ d, ¬ (10 * s ≤ d ∧ d < 10 * s + 10) → ξ 253 d = μ 253 d ∧ ξ 254 d = μ 254 d
set_option maxRecDepth 100000 in
theorem zv_gnC_p (D : Nat) {s o n0 : Nat} (hs : s < 3) (ho : o < 3) (hkd : ∀ k, k < 10 → μ 234 k = 0 ∨ μ 234 k = 1 ∨ μ 234 k = 2 ∨ μ 234 k = 3 ∨ μ 234 k = 4) (L0 : zi_Lc) (nl0 : zi_nl L0 = true) (a0 : zi_get L0 0 = some (.ref 232)) (a1 : zi_get L0 1 = some (.int (nI s))) (a2 : zi_get L0 2 = some (.int (nI o))) (a3 : zi_get L0 3 = some (.int (nI n0))) (a5 : zi_get L0 5 = some (.int (nI 0))) :
    ∃ L' h', ze_S (D + 2) 7 (some .int) zc_X6_gone 208 L0 [] (zm_mk μ) 365 L' [] h' ∧ (zi_nl L' = true ∧ zi_get L' 0 = some (.ref 232) ∧ zi_get L' 1 = some (.int (nI s)) ∧ zi_get L' 2 = some (.int (nI o)) ∧ zi_get L' 3 = some (.int (nI n0)) ∧ ∃ ν, zm_mk ν = h' ∧ zv_gw μ ν s o 10 ∧ zv_pd μ ν (fun k => zv_ons μ s k && !decide (μ 234 k = 1)) (zv_cx μ o (μ 239)) (zv_cy μ o (μ 240)) ∧ zv_gk μ ν s 10) := by
  have h10 : (Int8.ofInt 10).toInt32 = (10 : Int32) := by decide
  refine ze_loopS (Q := fun i L hp => i ≤ 10 ∧ zi_nl L = true ∧ zi_get L 0 = some (.ref 232) ∧ zi_get L 1 = some (.int (nI s)) ∧ zi_get L 2 = some (.int (nI o)) ∧ zi_get L 3 = some (.int (nI n0)) ∧ zi_get L 5 = some (.int (nI i)) ∧ ∃ ξ : zm_M, zm_mk ξ = hp ∧ (zv_gw μ ξ s o i) ∧ (zv_pd μ ξ (fun k => decide (k < i) && (zv_ons μ s k && !decide (μ 234 k = 1))) (zv_cx μ o (μ 239)) (zv_cy μ o (μ 240))) ∧ (zv_gk μ ξ s i) ∧ (True)) (R := fun L' h' => zi_nl L' = true ∧ zi_get L' 0 = some (.ref 232) ∧ zi_get L' 1 = some (.int (nI s)) ∧ zi_get L' 2 = some (.int (nI o)) ∧ zi_get L' 3 = some (.int (nI n0)) ∧ ∃ ν, zm_mk ν = h' ∧ zv_gw μ ν s o 10 ∧ zv_pd μ ν (fun k => zv_ons μ s k && !decide (μ 234 k = 1)) (zv_cx μ o (μ 239)) (zv_cy μ o (μ 240)) ∧ zv_gk μ ν s 10) 10 ?_ ?_ 10 0 _ _ (by omega) ⟨by omega, nl0, a0, a1, a2, a3, a5, μ, rfl, ⟨(fun _ q => absurd q (by omega)), (fun k _ => (if_neg (fun z => absurd (of_decide_eq_true z.1) (by omega))).symm), fun _ _ _ _ _ _ _ _ => rfl⟩, zv_pd_0, ⟨(fun _ q => absurd q (by omega)), fun _ _ => ⟨rfl, rfl⟩⟩, trivial⟩
  · rintro i L _ hi ⟨-, nl, g0, g1, g2, g3, g5, ξ, rfl, f1, f2, f3, hq⟩
    have c1 : ¬ (10 : Int32) ≤ nI i := nI_ge (b := 10) hi (by decide)
    have ik : zi_in (nI i) 10 = true := zm_in hi (by decide)
    have ck : (nI i).toNatClampNeg = i := nI_clamp (by omega)
    have x4 : ∀ d, ξ 234 d = μ 234 d := fun d => f1.2.2 _ _ (by decide) (by decide) (by decide) (by decide) (by decide) (by omega)
    have x8 : ξ 238 i = μ 238 i := by
      rw [f1.2.1 i hi, if_neg (fun z => absurd (of_decide_eq_true z.1) (Nat.lt_irrefl _))]
    have eo : zv_ons ξ s i = zv_ons μ s i := by
      unfold zv_ons
      rw [x4, x8]
    obtain ⟨ν1, S1, p1, p2, p3, p4⟩ := zv_gnS_p (μ := ξ) (D + 2) hs hi (by rw [x4]; exact hkd i hi) L nl g0 g1 g5
    rw [eo] at S1 p1
    obtain ⟨i9, i0⟩ := zv_pd_i hi f2
    have pk1 : ∀ ν2 : zm_M, (∀ d, ν2 253 d = ν1 253 d ∧ ν2 254 d = ν1 254 d) → zv_gk μ ν2 s (i + 1) := fun ν2 e => by
      refine ⟨fun j hj => ?_, fun d hd => ?_⟩
      · rw [(e _).1, (e _).2]
        by_cases ej : j = i
        · rw [ej, p3.1, p3.2, i9, i0]
          exact ⟨rfl, rfl⟩
        · rw [(p4 _ (by omega)).1, (p4 _ (by omega)).2]
          exact f3.1 j (by omega)
      · rw [(e _).1, (e _).2, (p4 d (by omega)).1, (p4 d (by omega)).2]
        exact f3.2 d hd
    have fin : ∀ ν2 L2, ze_S (D + 2) 7 (some .int) zc_X6_gone 306 (zi_set L 6 (.int (if zv_ons μ s i = true then 1 else 0))) [] (zm_mk ν1) 359 L2 [] (zm_mk ν2) → L2 = zi_set L 6 (.int (if zv_ons μ s i = true then 1 else 0)) → (ν2 238 i = if zv_ons μ s i = true then nI o else ν1 238 i) → (∀ c d, c ≠ 239 → c ≠ 240 → ¬ (c = 238 ∧ d = i) → ν2 c d = ν1 c d) → zv_pd μ ν2 (fun k => decide (k < i + 1) && (zv_ons μ s k && !decide (μ 234 k = 1))) (zv_cx μ o (μ 239)) (zv_cy μ o (μ 240)) → ∃ L' h', ze_S (D + 2) 7 (some .int) zc_X6_gone 208 L [] (zm_mk ξ) 208 L' [] h' ∧ (i + 1 ≤ 10 ∧ zi_nl L' = true ∧ zi_get L' 0 = some (.ref 232) ∧ zi_get L' 1 = some (.int (nI s)) ∧ zi_get L' 2 = some (.int (nI o)) ∧ zi_get L' 3 = some (.int (nI n0)) ∧ zi_get L' 5 = some (.int (nI (i + 1))) ∧ ∃ ξ : zm_M, zm_mk ξ = h' ∧ zv_gw μ ξ s o (i + 1) ∧ zv_pd μ ξ (fun k => decide (k < i + 1) && (zv_ons μ s k && !decide (μ 234 k = 1))) (zv_cx μ o (μ 239)) (zv_cy μ o (μ 240)) ∧ zv_gk μ ξ s (i + 1) ∧ True) := fun ν2 L2 S2 e2 q1 q2 q3 => by
      subst e2
      have hg := zv_gw_s hi f1 (ν := ν2) (by rw [q2 _ _ (by decide) (by decide) (by omega)]; exact p1) (by rw [q1, p2 _ _ (by decide) (by decide) (by omega)]) (fun c d r1 r2 r3 r4 r5 r6 => (q2 c d r1 r2 r6).trans (p2 c d r3 r4 r5))
      generalize (if zv_ons μ s i = true then (1 : Int32) else 0) = b at S1 S2
      refine ⟨zi_set (zi_set L 6 (.int b)) 5 (.int (nI (i + 1))), zm_mk ν2, ze_S.trans ⟨0, 3, fun F m hF => ?_⟩ (S1.trans (S2.trans ⟨0, 2, fun F m hF => ?_⟩)), by omega, ?_, ?_, ?_, ?_, ?_, zi_get_set_eq, ν2, rfl, hg, q3, pk1 ν2 (fun d => ⟨q2 _ _ (by decide) (by decide) (by omega), q2 _ _ (by decide) (by decide) (by omega)⟩), trivial⟩
      · simp (maxDischargeDepth := 9) [zi_go, zf_X6_gone, zi_ask, zi_new, zi_step, zi_ld, zi_lda, zi_cmp, zi_retOk, zi_isI, zi_f3, zi_cr, zi_ci, zi_cn, zi_get_ne, zi_nl_i, zi_nl_r, zi_get_set_eq, nl, g0, g5, h10, c1]
      · simp (maxDischargeDepth := 9) [zi_go, zf_X6_gone, zi_ask, zi_new, zi_step, zi_ld, zi_lda, zi_cmp, zi_retOk, zi_isI, zi_f3, zi_cr, zi_ci, zi_cn, zi_get_ne, zi_nl_i, zi_nl_r, zi_get_set_eq, nl, g0, g5, nI_1]
      · simp (maxDischargeDepth := 9) [zi_get_ne, zi_nl_i, zi_nl_r, zi_get_set_eq, nl]
      · simp (maxDischargeDepth := 9) [zi_get_ne, zi_nl_i, zi_nl_r, zi_get_set_eq, nl, g0]
      · simp (maxDischargeDepth := 9) [zi_get_ne, zi_nl_i, zi_nl_r, zi_get_set_eq, nl, g1]
      · simp (maxDischargeDepth := 9) [zi_get_ne, zi_nl_i, zi_nl_r, zi_get_set_eq, nl, g2]
      · simp (maxDischargeDepth := 9) [zi_get_ne, zi_nl_i, zi_nl_r, zi_get_set_eq, nl, g3]
    have xo : ∀ c, c = 232 ∨ c = 233 ∨ c = 235 ∨ c = 236 → ∀ d, ν1 c d = μ c d := fun c hc d => (p2 c d (by omega) (by omega) (by omega)).trans (f1.2.2 c d (by omega) (by omega) (by omega) (by omega) (by omega) (by omega))
    have z9 : ν1 239 i = μ 239 i := (p2 _ _ (by decide) (by decide) (by omega)).trans i9
    have z0 : ν1 240 i = μ 240 i := (p2 _ _ (by decide) (by decide) (by omega)).trans i0
    have pk2 : ∀ ν2 : zm_M, (zv_ons μ s i && !decide (μ 234 i = 1)) = false → (∀ d, ν2 239 d = ν1 239 d ∧ ν2 240 d = ν1 240 d) → zv_pd μ ν2 (fun k => decide (k < i + 1) && (zv_ons μ s k && !decide (μ 234 k = 1))) (zv_cx μ o (μ 239)) (zv_cy μ o (μ 240)) := fun ν2 hp e => zv_pd_n f2 hp (fun j _ => by
      rw [(e j).1, (e j).2, p2 _ _ (by decide) (by decide) (by omega), p2 _ _ (by decide) (by decide) (by omega)]
      exact ⟨rfl, rfl⟩)
    have y4 : ν1 234 i = μ 234 i := (p2 _ _ (by decide) (by decide) (by omega)).trans (x4 i)
    by_cases c2 : zv_ons μ s i = true
    · rw [if_pos c2] at fin
      have n1 : ¬ (1 : Int32) = 0 := by decide
      by_cases c3 : μ 234 i = 1
      · refine fin (zm_up ν1 238 i (nI o)) _ ⟨0, 14, fun F m hF => ?_⟩ rfl (by rw [zm_up_eq, if_pos c2]) (fun c d r1 r2 r3 => zm_up_ne r3) (pk2 _ (by rw [c3]; simp) (fun d => ⟨zm_up_ne (by omega), zm_up_ne (by omega)⟩))
        simp (maxDischargeDepth := 9) [zi_go, zf_X6_gone, zi_ask, zi_new, zi_step, zi_ld, zi_lda, zi_cmp, zi_retOk, zi_isI, zi_f3, zi_cr, zi_ci, zi_cn, zi_get_ne, zi_nl_i, zi_nl_r, zi_get_set_eq, nl, g0, g2, g5, n1, zM_g, zm_iald (k := 0) zM_A234 ik, zm_iast zM_A238 ik, ck, y4, c3]
      · obtain ⟨pp, qq, ⟨N1, E1⟩, epp, eqq⟩ := ze_MputAt (μ := ν1) D hi ho (ν1 239 i) (ν1 240 i)
        obtain ⟨lc, cM⟩ := zM_c (μ := ν1)
        refine fin (zv_put ν1 i o pp qq) _ ⟨N1, 22, fun F m hF => ?_⟩ rfl (by unfold zv_put; rw [zm_up_ne (by omega), zm_up_ne (by omega), zm_up_eq, if_pos c2]) (fun c d r1 r2 r3 => by unfold zv_put; rw [zm_up_ne (by omega), zm_up_ne (by omega), zm_up_ne r3]) (zv_pd_s f2 (by rw [c2]; simpa using c3) (by
          rw [zv_put_at.1, epp, z9, xo 232 (by omega), xo 235 (by omega)]
          rfl) (by
          rw [zv_put_at.2.1, eqq, z0, xo 233 (by omega), xo 236 (by omega)]
          rfl) (fun j _ ej => by
          rw [(zv_put_at.2.2 j ej).1, (zv_put_at.2.2 j ej).2, p2 _ _ (by decide) (by decide) (by omega), p2 _ _ (by decide) (by decide) (by omega)]
          exact ⟨rfl, rfl⟩))
        simp (maxDischargeDepth := 9) [zi_go, zf_X6_gone, zi_ask, zi_new, zi_step, zi_ld, zi_lda, zi_cmp, zi_retOk, zi_isI, zi_f3, zi_cr, zi_ci, zi_cn, zi_get_ne, zi_nl_i, zi_nl_r, zi_get_set_eq, nl, g0, g2, g5, n1, zM_g, zm_iald (k := 0) zM_A234 ik, zm_iald (k := 0) zM_A239 ik, zm_iald (k := 0) zM_A240 ik, ck, y4, c3, cM, zq_Mod_putAt, E1 F (by omega)]
    · rw [if_neg c2] at fin
      refine fin ν1 _ ⟨0, 4, fun F m hF => ?_⟩ rfl (by rw [if_neg c2]) (fun c d _ _ _ => rfl) (pk2 _ (by simp [c2]) (fun d => ⟨rfl, rfl⟩))
      simp (maxDischargeDepth := 9) [zi_go, zf_X6_gone, zi_ask, zi_new, zi_step, zi_ld, zi_lda, zi_cmp, zi_retOk, zi_isI, zi_f3, zi_cr, zi_ci, zi_cn, zi_get_ne, zi_nl_i, zi_nl_r, zi_get_set_eq, nl, g0, g5]
  · rintro L _ ⟨-, nl, g0, g1, g2, g3, g5, ξ, rfl, f1, f2, f3, hq⟩
    have c1 : (10 : Int32) ≤ nI 10 := by decide
    refine ⟨L, zm_mk ξ, ⟨0, 3, fun F m hF => ?_⟩, nl, g0, g1, g2, g3, ξ, rfl, f1, zv_pd_10 f2, f3⟩
    simp (maxDischargeDepth := 9) [zi_go, zf_X6_gone, zi_ask, zi_new, zi_step, zi_ld, zi_lda, zi_cmp, zi_retOk, zi_isI, zi_f3, zi_cr, zi_ci, zi_cn, zi_get_ne, zi_nl_i, zi_nl_r, zi_get_set_eq, nl, g0, g1, g2, g3, g5, h10, c1, nI_1]
def zv_gnep (μ ν : zm_M) (s o : Nat) : Prop := zv_pd μ ν (fun k => zv_ons μ s k && !decide (μ 234 k = 1)) (zv_cx μ o (μ 239)) (zv_cy μ o (μ 240)) ∧ zv_gk μ ν s 10
set_option maxRecDepth 100000 in
theorem zv_gn3_p (D : Nat) {s o n : Nat} {ξ2 : zm_M} (hs : s < 3) (ho : o < 3) (hso : s ≠ o) (hkd : ∀ k, k < 10 → μ 234 k = 0 ∨ μ 234 k = 1 ∨ μ 234 k = 2 ∨ μ 234 k = 3 ∨ μ 234 k = 4) (f2 : ∀ c d, ¬ (c = 231 ∧ d = 30) → c ≠ 259 → ¬ zu_in 6 c d → ξ2 c d = μ c d) (hn31 : n < 2 ^ 31) (L2 : zi_Lc) (nl2 : zi_nl L2 = true) (b0' : zi_get L2 0 = some (.ref 232)) (b1 : zi_get L2 1 = some (.int (nI s))) (b2 : zi_get L2 2 = some (.int (nI o))) (b3 : zi_get L2 3 = some (.int (nI n))) (b4 : zi_get L2 4 = some (.int 1)) :
    ∃ ν, ze_G (D + 27) 7 (some .int) zc_X6_gone 174 L2 [] (zm_mk ξ2) (some (.int (nI n))) (zm_mk ν) ∧ zv_gnep μ ν s o := by
  have h6 : (Int8.ofInt 6).toInt32 = (6 : Int32) := by decide
  have q6 : nI 6 = (6 : Int32) := by decide
  have is : zi_in (nI s) 3 = true := zm_in hs (by decide)
  have cs : (nI s).toNatClampNeg = s := nI_clamp (by omega)
  obtain ⟨lc2, cM2⟩ := zM_c (μ := ξ2)
  have f23 : ∀ c d, 232 ≤ c → c < 243 → ξ2 c d = μ c d := fun c d r1 r2 => f2 c d (by omega) (by omega) (zu_in_not (Or.inl r2))
  have e3 : (3 : Int32) + nI s = nI (3 + s) := by rw [show (3 : Int32) = nI 3 by decide, nI_add]
  have n10 : ¬ (1 : Int32) = 0 := by decide
  obtain ⟨N5, E5⟩ := ze_McopyTree (μ := ξ2) (D + 25) (f := s) (t := 3 + s) (by omega) (by omega) (by omega)
  have tb := zu_cq_eqT (μ := ξ2) (f := s) (t := 3 + s)
  have fb : zu_fr (3 + s) ξ2 (zu_cq ξ2 s (3 + s) 24 240) := zu_cq_fr
  generalize zu_cq ξ2 s (3 + s) 24 240 = μb at E5 tb fb
  have hv : ∃ v : Int32, (v = 0 ∨ v = 1) ∧ v = (if 0 < n then 1 else 0) ∧ ze_S (D + 27) 7 (some .int) zc_X6_gone 174 L2 [] (zm_mk ξ2) 208 (zi_set L2 5 (.int (nI 0))) [] (zm_mk (zm_up μb 251 s v)) := by
    have nl := nl2
    by_cases cn : 0 < n
    · have cn' : ¬ nI n ≤ 0 := by
        have := nI_ge (a := 0) (b := n) cn hn31
        rw [nI_0] at this
        exact this
      refine ⟨1, Or.inr rfl, by rw [if_pos cn], N5, 18, fun F m hF => ?_⟩
      have o1 : (1 : Int32) = 0 ∨ (1 : Int32) = 1 := Or.inr rfl
      simp (maxDischargeDepth := 9) [zi_go, zf_X6_gone, zi_ask, zi_new, zi_step, zi_ld, zi_lda, zi_cmp, zi_retOk, zi_isI, zi_f3, zi_cr, zi_ci, zi_cn, zi_get_ne, zi_nl_i, zi_nl_r, zi_get_set_eq, nl, b0', b1, b2, b3, b4, n10, e3, cM2, zM_g, zq_Mod_copyTree, E5 F (by omega), cn', zm_bast zM_A251 is o1, cs, nI_0]
    · have cn' : nI n ≤ 0 := by
        have : n = 0 := by omega
        rw [this]; decide
      refine ⟨0, Or.inl rfl, by rw [if_neg cn], N5, 17, fun F m hF => ?_⟩
      have o1 : (0 : Int32) = 0 ∨ (0 : Int32) = 1 := Or.inl rfl
      simp (maxDischargeDepth := 9) [zi_go, zf_X6_gone, zi_ask, zi_new, zi_step, zi_ld, zi_lda, zi_cmp, zi_retOk, zi_isI, zi_f3, zi_cr, zi_ci, zi_cn, zi_get_ne, zi_nl_i, zi_nl_r, zi_get_set_eq, nl, b0', b1, b2, b3, b4, n10, e3, cM2, zM_g, zq_Mod_copyTree, E5 F (by omega), cn', zm_bast zM_A251 is o1, cs, nI_0]
  obtain ⟨v, -, ev, S4⟩ := hv
  have fc : ∀ c d, ¬ (c = 251 ∧ d = s) → zm_up μb 251 s v c d = μb c d := fun c d r => zm_up_ne r
  have ec : zm_up μb 251 s v 251 s = v := zm_up_eq
  generalize zm_up μb 251 s v = μc at S4 fc ec
  have kc : ∀ k, μc 234 k = μ 234 k := fun k => (fc _ _ (by omega)).trans ((fb _ _ (zu_in_not (by decide))).trans (f23 _ _ (by decide) (by decide)))
  have kc8 : ∀ k, μc 238 k = μ 238 k := fun k => (fc _ _ (by omega)).trans ((fb _ _ (zu_in_not (by decide))).trans (f23 _ _ (by decide) (by decide)))
  have eons : ∀ k, zv_ons μc s k = zv_ons μ s k := fun k => by
    unfold zv_ons
    rw [kc, kc8]
  obtain ⟨L3, h3, S5, nl3, d0, d1, d2, d3, μd, rfl, gw, gp, gk⟩ := zv_gnC_p (μ := μc) (n0 := n) (D + 25) hs ho (fun k hk => by rw [kc]; exact hkd k hk) (zi_set L2 5 (.int (nI 0))) (zi_nl_i nl2) (by have nl := nl2; simp (maxDischargeDepth := 9) [zi_get_ne, zi_nl_i, zi_nl_r, zi_get_set_eq, nl, b0']) (by have nl := nl2; simp (maxDischargeDepth := 9) [zi_get_ne, zi_nl_i, zi_nl_r, zi_get_set_eq, nl, b1]) (by have nl := nl2; simp (maxDischargeDepth := 9) [zi_get_ne, zi_nl_i, zi_nl_r, zi_get_set_eq, nl, b2]) (by have nl := nl2; simp (maxDischargeDepth := 9) [zi_get_ne, zi_nl_i, zi_nl_r, zi_get_set_eq, nl, b3]) zi_get_set_eq
  obtain ⟨g1, g2, g3⟩ := gw
  obtain ⟨lcd, cMd⟩ := zM_c (μ := μd)
  obtain ⟨N6, E6⟩ := ze_McopyTree (μ := μd) (D + 25) (f := 6) (t := o) (by decide) (by omega) (by omega)
  rw [q6] at E6
  have te := zu_cq_eqT (μ := μd) (f := 6) (t := o)
  have fe : zu_fr o μd (zu_cq μd 6 o 24 240) := zu_cq_fr
  generalize zu_cq μd 6 o 24 240 = μe at E6 te fe
  obtain ⟨lce, cMe⟩ := zM_c (μ := μe)
  obtain ⟨μf, ⟨N7, E7⟩, hE, ff⟩ := ze_MclearTreeI (μ := μe) (D + 25) (τ := s) (by omega)
  have fz : ∀ c d, ¬ (c = 232 ∧ d = s) → ¬ (c = 233 ∧ d = s) → zm_up (zm_up μf 232 s 0) 233 s 0 c d = μf c d := fun c d r1 r2 => by rw [zm_up_ne r2, zm_up_ne r1]
  have z1 : zm_up (zm_up μf 232 s 0) 233 s 0 232 s = 0 := by rw [zm_up_ne (by omega), zm_up_eq]
  have z2 : zm_up (zm_up μf 232 s 0) 233 s 0 233 s = 0 := zm_up_eq
  have G : ze_G (D + 27) 7 (some .int) zc_X6_gone 365 L3 [] (zm_mk μd) (some (.int (nI n))) (zm_mk (zm_up (zm_up μf 232 s 0) 233 s 0)) := by
    refine ⟨N6 + N7, 19, fun F m hF => ?_⟩
    simp [zi_go, zf_X6_gone, zi_ask, zi_new, zi_step, zi_ld, zi_lda, zi_cmp, zi_retOk, zi_isI, zi_f3, zi_cr, zi_ci, zi_cn, d0, d1, d2, d3, h6, zM_g, cMd, cMe, zq_Mod_copyTree, zq_Mod_clearTree, E6 F (by omega), E7 F (by omega), zm_iast zM_A232 is, zm_iast zM_A233 is, cs]
  generalize zm_up (zm_up μf 232 s 0) 233 s 0 = μz at fz z1 z2 G
  refine ⟨μz, S4.end (S5.end G), ?_⟩
  have up : ∀ c d, c < 243 ∨ 250 < c → ¬ (c = 232 ∧ d = s) → ¬ (c = 233 ∧ d = s) → μz c d = μd c d := fun c d r1 r2 r3 => (fz c d r2 r3).trans ((ff c d (zu_in_not r1)).trans (fe c d (zu_in_not r1)))
  have cμ : ∀ c d, (232 ≤ c ∧ c < 243) ∨ c = 253 ∨ c = 254 → μc c d = μ c d := fun c d r => (fc c d (by omega)).trans ((fb c d (zu_in_not (by omega))).trans (f2 c d (by omega) (by omega) (zu_in_not (by omega))))
  refine ⟨fun k hk => ?_, fun k hk => ?_, fun d hd => ?_⟩
  · have z := gp k hk
    unfold zv_cx zv_cy at *
    simp only [eons] at z
    rw [kc, cμ 239 k (by omega), cμ 240 k (by omega), cμ 232 o (by omega), cμ 233 o (by omega), cμ 235 k (by omega), cμ 236 k (by omega)] at z
    rw [up _ _ (by decide) (by omega) (by omega), up _ _ (by decide) (by omega) (by omega)]
    exact z
  · rw [up _ _ (by decide) (by omega) (by omega), up _ _ (by decide) (by omega) (by omega), ← cμ 239 k (by omega), ← cμ 240 k (by omega)]
    exact gk.1 k hk
  · rw [up _ _ (by decide) (by omega) (by omega), up _ _ (by decide) (by omega) (by omega), ← cμ 253 d (by omega), ← cμ 254 d (by omega)]
    exact gk.2 d hd
def zv_gonp (μ ν : zm_M) (w r : Int32) : Prop :=
  (zv_plc μ ν ∧ r < 0) ∨ ∃ s o, s < 3 ∧ o < 3 ∧ s ≠ o ∧ w = nI s ∧ ¬ μ 232 s = 0 ∧ zv_lso μ s = nI o ∧ 0 ≤ r ∧ zv_gnep μ ν s o
set_option maxRecDepth 100000 in
theorem ze_Mgone_p (D : Nat) (h : zR μ row stk us) (w : Int32) : ∃ ν v, ze_E (D + 28) A_Mod_gone [.ref 232, .int w] (zm_mk μ) (some (.int v)) (zm_mk ν) ∧ zv_gonp μ ν w v := by
  have n1 : Int32.ofInt (-1000000001) = -1000000001 := by decide
  have n2 : Int32.ofInt (-1000000002) = -1000000002 := by decide
  have h6 : (Int8.ofInt 6).toInt32 = (6 : Int32) := by decide
  have q6 : nI 6 = (6 : Int32) := by decide
  obtain ⟨lc, cM⟩ := zM_c (μ := μ)
  rcases zM_isIn (hp := zm_mk μ) (D + 26) w (n := 2) (b := 2) (by decide) (by decide) with ⟨s, hs, rfl, N1, E1⟩ | ⟨⟨N1, E1⟩, hno⟩
  · have hs : s < 3 := hs
    have is : zi_in (nI s) 3 = true := zm_in hs (by decide)
    have cs : (nI s).toNatClampNeg = s := nI_clamp (by omega)
    obtain ⟨L1, S1, nl1, a0, a1, a2⟩ := zv_gn0 (μ := μ) D hs E1
    have hlso : zv_lso μ s = zl_fi (fun k => decide (¬ nI k = nI s ∧ 0 < μ 232 k)) (-1) 3 0 := rfl
    by_cases c0 : μ 232 s = 0
    · refine ⟨μ, -1000000002, ze_in [(0, .ref 232), (1, .int (nI s))] zq_Mod_gone (Nat.le_of_ble_eq_true rfl) rfl (S1.end ⟨0, 7, fun F n hF => ?_⟩), Or.inl ⟨zv_plc.refl, by decide⟩⟩
      simp [zi_go, zf_X6_gone, zi_ask, zi_new, zi_step, zi_ld, zi_lda, zi_cmp, zi_retOk, zi_isI, zi_f3, zi_cr, zi_ci, zi_cn, a0, a1, zM_g, zm_iald (k := 0) zM_A232 is, cs, c0, n2]
    · rcases zl_fi_spec (fun k => decide (¬ nI k = nI s ∧ 0 < μ 232 k)) (-1) 3 0 with ⟨o, -, ho, po, -, eo⟩ | ⟨-, eo⟩
      · have ho : o < 3 := by omega
        rw [← hlso] at eo
        obtain ⟨p1, p2⟩ := of_decide_eq_true po
        have hso : s ≠ o := fun e => p1 (by rw [e])
        have eo' := eo
        rw [eo] at a2
        have io : zi_in (nI o) 3 = true := zm_in ho (by decide)
        have co : (nI o).toNatClampNeg = o := nI_clamp (by omega)
        have m1 : (0 : Int32) ≤ nI o := Int32.not_lt.mp (nI_pos (by omega))
        obtain ⟨emp, μa, ξ, ξ2, n0, W, ⟨he, he', hW, hμa⟩, ⟨N2, E2⟩, ⟨N3, E3⟩, fv, hA, hW10, f2⟩ := zv_gn1 D h hs ho hso
        have f23 : ∀ c d, 232 ≤ c → c < 243 → ξ2 c d = μ c d := fun c d r1 r2 => f2 c d (by omega) (by omega) (zu_in_not (Or.inl r2))
        obtain ⟨ab2, hI2⟩ := hA.1
        have hsz := h.2.2.2.2.2.2 o ho
        obtain ⟨N4, E4⟩ := ze_Mfits (μ := ξ2) (D + 1) (τ := 6) (by decide) hI2 hsz.1 hsz.2
        rw [q6] at E4
        generalize hb0 : zu_fit ξ2 6 (zy_ad emp (us o) W n0) (μ 232 o) (μ 233 o) = b0 at E4
        have S2 := zv_gn2 (W := W) (b0 := b0) D hs ho c0 L1 nl1 a0 a1 a2 E2 E3 (f23 232 o (by decide) (by decide)) (f23 233 o (by decide) (by decide)) E4
        obtain ⟨L2, h2, S3, nl2, b0', b1, b2, b3, b4, rfl⟩ := zv_gnB (μ := ξ2) (D + 26) hs ho b0 W.length (zi_set (zi_set (zi_set L1 3 (.int (nI W.length))) 4 (.int (if b0 = true then 1 else 0))) 5 (.int (nI 0))) (zi_nl_i (zi_nl_i (zi_nl_i nl1))) (by have nl := nl1; simp (maxDischargeDepth := 9) [zi_get_ne, zi_nl_i, zi_nl_r, zi_get_set_eq, nl, a0]) (by have nl := nl1; simp (maxDischargeDepth := 9) [zi_get_ne, zi_nl_i, zi_nl_r, zi_get_set_eq, nl, a1]) (by have nl := nl1; simp (maxDischargeDepth := 9) [zi_get_ne, zi_nl_i, zi_nl_r, zi_get_set_eq, nl, a2]) (by have nl := nl1; simp (maxDischargeDepth := 9) [zi_get_ne, zi_nl_i, zi_nl_r, zi_get_set_eq, nl]) (by have nl := nl1; simp (maxDischargeDepth := 9) [zi_get_ne, zi_nl_i, zi_nl_r, zi_get_set_eq, nl]) zi_get_set_eq
        have eon : (fun k => zv_on ξ2 k (nI s)) = fun k => zv_on μ k (nI s) := funext fun k => by
          unfold zv_on
          rw [f23 234 k (by decide) (by decide), f23 238 k (by decide) (by decide)]
        have egr : zv_grm ξ2 s o = zv_grm μ s o := funext fun k => by
          unfold zv_grm zv_on
          rw [f23 234 k (by decide) (by decide), f23 238 k (by decide) (by decide), f23 235 k (by decide) (by decide), f23 236 k (by decide) (by decide), f23 232 o (by decide) (by decide), f23 233 o (by decide) (by decide)]
        rw [eon] at b3
        rw [egr] at b4
        have tail : (zv_gd (zv_grm μ s o) b0 10 = false ∧ ∃ v, v < 0 ∧ ze_G (D + 27) 7 (some .int) zc_X6_gone 174 L2 [] (zm_mk ξ2) (some (.int v)) (zm_mk ξ2)) ∨ (zv_gd (zv_grm μ s o) b0 10 = true ∧ ∃ ν v, ze_G (D + 27) 7 (some .int) zc_X6_gone 174 L2 [] (zm_mk ξ2) (some (.int v)) (zm_mk ν) ∧ 0 ≤ v ∧ zv_gnep μ ν s o) := by
          generalize zv_gd (zv_grm μ s o) b0 10 = good at b4
          generalize hn : W.length + zl_ct (fun k => zv_on μ k (nI s)) 10 = n at b3
          cases good with
          | false =>
            have b4 : zi_get L2 4 = some (.int 0) := b4
            refine Or.inl ⟨rfl, -1000000002, by decide, 0, 4, fun F m hF => ?_⟩
            simp [zi_go, zf_X6_gone, zi_ask, zi_new, zi_step, zi_ld, zi_lda, zi_cmp, zi_retOk, zi_isI, zi_f3, zi_cr, zi_ci, zi_cn, b4, n2]
          | true =>
            have b4 : zi_get L2 4 = some (.int 1) := b4
            have hn31 : n < 2 ^ 31 := by
              have := zl_ct_le (fun k => zv_on μ k (nI s)) 10
              omega
            obtain ⟨ν, G, q⟩ := zv_gn3_p (μ := μ) D hs ho hso h.1 f2 hn31 L2 nl2 b0' b1 b2 b3 b4
            exact Or.inr ⟨rfl, ν, nI n, G, nI_pos' hn31, q⟩
        rcases tail with ⟨q1, v, hv, G⟩ | ⟨q1, ν, v, G, hv, q2⟩
        · refine ⟨ξ2, v, ze_in [(0, .ref 232), (1, .int (nI s))] zq_Mod_gone (Nat.le_of_ble_eq_true rfl) rfl ((S1.end (S2.end (S3.end G)))), Or.inl ⟨fun c d hc => f2 c d (by omega) (by omega) (zu_in_not (by omega)), hv⟩⟩
        · refine ⟨ν, v, ze_in [(0, .ref 232), (1, .int (nI s))] zq_Mod_gone (Nat.le_of_ble_eq_true rfl) rfl ((S1.end (S2.end (S3.end G)))), Or.inr ⟨s, o, hs, ho, hso, rfl, c0, eo', hv, q2⟩⟩
      · rw [← hlso] at eo
        rw [eo] at a2
        have m1 : ¬ (0 : Int32) ≤ -1 := by decide
        refine ⟨μ, -1000000002, ze_in [(0, .ref 232), (1, .int (nI s))] zq_Mod_gone (Nat.le_of_ble_eq_true rfl) rfl ((S1.end ⟨0, 9, fun F n hF => ?_⟩)), Or.inl ⟨zv_plc.refl, by decide⟩⟩
        simp [zi_go, zf_X6_gone, zi_ask, zi_new, zi_step, zi_ld, zi_lda, zi_cmp, zi_retOk, zi_isI, zi_f3, zi_cr, zi_ci, zi_cn, a0, a1, a2, zM_g, zm_iald (k := 0) zM_A232 is, cs, c0, m1, n2]
  · refine ⟨μ, -1000000001, ze_in [(0, .ref 232), (1, .int w)] zq_Mod_gone (Nat.le_of_ble_eq_true rfl) rfl ⟨N1, 7, fun F n hF => ?_⟩, Or.inl ⟨zv_plc.refl, by decide⟩⟩
    simp [zi_go, zf_X6_gone, zi_ask, zi_new, zi_step, zi_ld, zi_lda, zi_cmp, zi_retOk, zi_isI, zi_f3, zi_cr, zi_ci, zi_cn, zi_get, zi_set, zq_Mod_isIn, E1 F (by omega), n1]
set_option maxRecDepth 100000 in
theorem zv_dgC_p (D : Nat) (hk : k < 10) (ha : a < 3) (hb : b < 3) (hab : a ≠ b) (hg : zv_cm μ g) (L0 : zi_Lc) (nl0 : zi_nl L0 = true) (a0 : zi_get L0 0 = some (.ref 232)) (a1 : zi_get L0 1 = some (.int (nI k))) (a4 : zi_get L0 4 = some (.int (nI a))) (a5 : zi_get L0 5 = some (.int (nI b))) (a8 : zi_get L0 8 = some (.int (nI 0))) :
    ∃ L' h', ze_S (D + 2) 9 (some .int) zc_X6_drag 330 L0 [] (zm_mk μ) 394 L' [] h' ∧ (zi_nl L' = true ∧ zi_get L' 0 = some (.ref 232) ∧ zi_get L' 1 = some (.int (nI k)) ∧ ∃ ν, zm_mk ν = h' ∧ zv_dgw μ ν k b g 10 ∧ zv_pd μ ν (fun j => g j && !decide (j = k)) (zv_cx μ b (μ 239)) (zv_cy μ b (μ 240))) := by
  have h10 : (Int8.ofInt 10).toInt32 = (10 : Int32) := by decide
  have nab : ¬ nI a = nI b := fun e => hab ((nI_eq (by omega) (by omega)).mp e)
  have n1 : ¬ (1 : Int32) = 0 := by decide
  refine ze_loopS (Q := fun i L hp => i ≤ 10 ∧ zi_nl L = true ∧ zi_get L 0 = some (.ref 232) ∧ zi_get L 1 = some (.int (nI k)) ∧ zi_get L 4 = some (.int (nI a)) ∧ zi_get L 5 = some (.int (nI b)) ∧ zi_get L 8 = some (.int (nI i)) ∧ ∃ ξ : zm_M, zm_mk ξ = hp ∧ (zv_dgw μ ξ k b g i) ∧ (zv_pd μ ξ (fun j => decide (j < i) && (g j && !decide (j = k))) (zv_cx μ b (μ 239)) (zv_cy μ b (μ 240))) ∧ (True)) (R := fun L' h' => zi_nl L' = true ∧ zi_get L' 0 = some (.ref 232) ∧ zi_get L' 1 = some (.int (nI k)) ∧ ∃ ν, zm_mk ν = h' ∧ zv_dgw μ ν k b g 10 ∧ zv_pd μ ν (fun j => g j && !decide (j = k)) (zv_cx μ b (μ 239)) (zv_cy μ b (μ 240))) 10 ?_ ?_ 10 0 _ _ (by omega) ⟨by omega, nl0, a0, a1, a4, a5, a8, μ, rfl, ⟨(fun _ _ => (if_neg (fun z => absurd z.1 (by omega))).symm), (fun s _ => ⟨Or.inr rfl, ⟨fun e => Or.inl e, fun e => e.elim id (fun ⟨_, w, _⟩ => absurd w (by omega))⟩⟩), fun _ _ _ _ _ _ => rfl⟩, zv_pd_0, trivial⟩
  · rintro i L _ hi ⟨-, nl, g0, g1, g4, g5, g8, ξ, rfl, f1, f2, hq⟩
    have c1 : ¬ (10 : Int32) ≤ nI i := nI_ge (b := 10) hi (by decide)
    have ik : zi_in (nI i) 10 = true := zm_in hi (by decide)
    have ck : (nI i).toNatClampNeg = i := nI_clamp (by omega)
    have ec : ξ 260 i = if g i = true then 1 else 0 := (f1.2.2 _ _ (by decide) (by decide) (by decide) (by decide)).trans (hg i hi)
    by_cases c2 : g i = true
    · rw [if_pos c2] at ec
      by_cases c3 : i = k
      · subst c3
        have f1' := zv_dgw_no f1 (fun z => z.2 rfl)
        have f2' := zv_pd_n (ν := ξ) f2 (by simp) (fun _ _ => ⟨rfl, rfl⟩)
        refine ⟨zi_set L 8 (.int (nI (i + 1))), zm_mk ξ, ⟨0, 16, fun F m hF => ?_⟩, by omega, ?_, ?_, ?_, ?_, ?_, zi_get_set_eq, ξ, rfl, f1', f2', trivial⟩
        · simp (maxDischargeDepth := 9) [zi_go, zf_X6_drag, zi_ask, zi_new, zi_step, zi_ld, zi_lda, zi_cmp, zi_retOk, zi_isI, zi_f3, zi_cr, zi_ci, zi_cn, zi_get_ne, zi_nl_i, zi_nl_r, zi_get_set_eq, nl, g0, g1, g4, g5, g8, h10, c1, nab, n1, zM_g, zm_bald zM_A260 ik, ck, ec, nI_1]
        · simp (maxDischargeDepth := 9) [zi_get_ne, zi_nl_i, zi_nl_r, zi_get_set_eq, nl]
        · simp (maxDischargeDepth := 9) [zi_get_ne, zi_nl_i, zi_nl_r, zi_get_set_eq, nl, g0]
        · simp (maxDischargeDepth := 9) [zi_get_ne, zi_nl_i, zi_nl_r, zi_get_set_eq, nl, g1]
        · simp (maxDischargeDepth := 9) [zi_get_ne, zi_nl_i, zi_nl_r, zi_get_set_eq, nl, g4]
        · simp (maxDischargeDepth := 9) [zi_get_ne, zi_nl_i, zi_nl_r, zi_get_set_eq, nl, g5]
      · have c3' : ¬ nI i = nI k := fun e => c3 ((nI_eq (by omega) (by omega)).mp e)
        obtain ⟨pp, qq, ⟨N1, E1⟩, epp, eqq⟩ := ze_MputAt (μ := ξ) D hi hb (ξ 239 i) (ξ 240 i)
        have f1' := zv_dgw_s hi f1 ⟨c2, c3⟩ (ν := zv_put ξ i b pp qq) (by unfold zv_put; rw [zm_up_ne (by omega), zm_up_ne (by omega), zm_up_eq]) (fun c d r1 r2 r3 => by unfold zv_put; rw [zm_up_ne (by omega), zm_up_ne (by omega), zm_up_ne r3])
        obtain ⟨i9, i0⟩ := zv_pd_i hi f2
        have xo : ∀ c, c = 232 ∨ c = 233 ∨ c = 235 ∨ c = 236 → ∀ d, ξ c d = μ c d := fun c hc d => f1.2.2 c d (by omega) (by omega) (by omega) (by omega)
        have f2' : zv_pd μ (zv_fg (zv_put ξ i b pp qq) i) (fun j => decide (j < i + 1) && (g j && !decide (j = k))) (zv_cx μ b (μ 239)) (zv_cy μ b (μ 240)) := zv_pd_s f2 (by rw [c2]; simpa using c3) (by
          rw [zv_fg_ne (by decide), zv_put_at.1, epp, i9, xo 232 (by omega), xo 235 (by omega)]
          rfl) (by
          rw [zv_fg_ne (by decide), zv_put_at.2.1, eqq, i0, xo 233 (by omega), xo 236 (by omega)]
          rfl) (fun j _ ej => by
          rw [zv_fg_ne (by decide), zv_fg_ne (by decide)]
          exact zv_put_at.2.2 j ej)
        generalize zv_put ξ i b pp qq = ξ1 at E1 f1' f2'
        obtain ⟨N2, E2⟩ := ze_Mforget (μ := ξ1) (D + 1) hi
        obtain ⟨lc, cM⟩ := zM_c (μ := ξ)
        obtain ⟨lc1, cM1⟩ := zM_c (μ := ξ1)
        refine ⟨zi_set L 8 (.int (nI (i + 1))), zm_mk (zv_fg ξ1 i), ⟨N1 + N2, 31, fun F m hF => ?_⟩, by omega, ?_, ?_, ?_, ?_, ?_, zi_get_set_eq, zv_fg ξ1 i, rfl, f1', f2', trivial⟩
        · simp (maxDischargeDepth := 9) [zi_go, zf_X6_drag, zi_ask, zi_new, zi_step, zi_ld, zi_lda, zi_cmp, zi_retOk, zi_isI, zi_f3, zi_cr, zi_ci, zi_cn, zi_get_ne, zi_nl_i, zi_nl_r, zi_get_set_eq, nl, g0, g1, g4, g5, g8, h10, c1, nab, n1, zM_g, zm_bald zM_A260 ik, ck, ec, c3', zm_iald (k := 0) zM_A239 ik, zm_iald (k := 0) zM_A240 ik, cM, cM1, zq_Mod_putAt, zq_Mod_forget, E1 F (by omega), E2 F (by omega), nI_1]
        · simp (maxDischargeDepth := 9) [zi_get_ne, zi_nl_i, zi_nl_r, zi_get_set_eq, nl]
        · simp (maxDischargeDepth := 9) [zi_get_ne, zi_nl_i, zi_nl_r, zi_get_set_eq, nl, g0]
        · simp (maxDischargeDepth := 9) [zi_get_ne, zi_nl_i, zi_nl_r, zi_get_set_eq, nl, g1]
        · simp (maxDischargeDepth := 9) [zi_get_ne, zi_nl_i, zi_nl_r, zi_get_set_eq, nl, g4]
        · simp (maxDischargeDepth := 9) [zi_get_ne, zi_nl_i, zi_nl_r, zi_get_set_eq, nl, g5]
    · rw [if_neg c2] at ec
      have f1' := zv_dgw_no f1 (fun z => c2 z.1)
      have f2' := zv_pd_n (ν := ξ) f2 (by simp [c2]) (fun _ _ => ⟨rfl, rfl⟩)
      refine ⟨zi_set L 8 (.int (nI (i + 1))), zm_mk ξ, ⟨0, 13, fun F m hF => ?_⟩, by omega, ?_, ?_, ?_, ?_, ?_, zi_get_set_eq, ξ, rfl, f1', f2', trivial⟩
      · simp (maxDischargeDepth := 9) [zi_go, zf_X6_drag, zi_ask, zi_new, zi_step, zi_ld, zi_lda, zi_cmp, zi_retOk, zi_isI, zi_f3, zi_cr, zi_ci, zi_cn, zi_get_ne, zi_nl_i, zi_nl_r, zi_get_set_eq, nl, g0, g1, g4, g5, g8, h10, c1, nab, zM_g, zm_bald zM_A260 ik, ck, ec, nI_1]
      · simp (maxDischargeDepth := 9) [zi_get_ne, zi_nl_i, zi_nl_r, zi_get_set_eq, nl]
      · simp (maxDischargeDepth := 9) [zi_get_ne, zi_nl_i, zi_nl_r, zi_get_set_eq, nl, g0]
      · simp (maxDischargeDepth := 9) [zi_get_ne, zi_nl_i, zi_nl_r, zi_get_set_eq, nl, g1]
      · simp (maxDischargeDepth := 9) [zi_get_ne, zi_nl_i, zi_nl_r, zi_get_set_eq, nl, g4]
      · simp (maxDischargeDepth := 9) [zi_get_ne, zi_nl_i, zi_nl_r, zi_get_set_eq, nl, g5]
  · rintro L _ ⟨-, nl, g0, g1, g4, g5, g8, ξ, rfl, f1, f2, hq⟩
    have c1 : (10 : Int32) ≤ nI 10 := by decide
    refine ⟨L, zm_mk ξ, ⟨0, 3, fun F m hF => ?_⟩, nl, g0, g1, ξ, rfl, f1, zv_pd_10 f2⟩
    simp (maxDischargeDepth := 9) [zi_go, zf_X6_drag, zi_ask, zi_new, zi_step, zi_ld, zi_lda, zi_cmp, zi_retOk, zi_isI, zi_f3, zi_cr, zi_ci, zi_cn, zi_get_ne, zi_nl_i, zi_nl_r, zi_get_set_eq, nl, g0, g1, g4, g5, g8, h10, c1, nI_1]
def zv_dgp (μ ν : zm_M) (k a b : Nat) : Prop := zv_kpp μ ν ∧ (a = b → zv_plc μ ν) ∧ (a ≠ b → zv_pd μ ν (fun j => zv_grp μ k j && !decide (j = k)) (zv_cx μ b (μ 239)) (zv_cy μ b (μ 240)))
set_option maxRecDepth 100000 in
theorem zv_dg3_p (D : Nat) (h : zR μ row stk us) {k a b m2 mk : Nat} {u2 : zy_F} {ab2 : Nat → Int32} (hk : k < 10) (ha : a < 3) (hb : b < 3) (hkt : μ 234 k = 1) (hka : μ 238 k = nI a) (atk : zu_at μ a (us a) k mk) {ξ θ : zm_M} (fξ : zu_fr 6 μ ξ) (f0 : ∀ c d, c ≠ 260 → θ c d = ξ c d) (hI2 : zu_I ξ 6 u2 ab2) (hat2 : zu_at ξ 6 u2 k m2) (hcm : zv_cm θ (zv_grp μ k))
    (L : zi_Lc) (nl : zi_nl L = true) (g0 : zi_get L 0 = some (.ref 232)) (g1 : zi_get L 1 = some (.int (nI k))) (g4 : zi_get L 4 = some (.int (nI a))) (g5 : zi_get L 5 = some (.int (nI b))) :
    ∃ ν, ze_G (D + 27) 9 (some .int) zc_X6_drag 292 L [] (zm_mk θ) (some (.int 0)) (zm_mk ν) ∧ zv_dgp μ ν k a b := by
  have h6 : (Int8.ofInt 6).toInt32 = (6 : Int32) := by decide
  have q6 : nI 6 = (6 : Int32) := by decide
  have h10 : (Int8.ofInt 10).toInt32 = (10 : Int32) := by decide
  have ik : zi_in (nI k) 10 = true := zm_in hk (by decide)
  have ck : (nI k).toNatClampNeg = k := nI_clamp (by omega)
  obtain ⟨lc, cM⟩ := zM_c (μ := θ)
  obtain ⟨⟨aba, hIa⟩, hnda, hwa⟩ := h.2.2.2.2.1 a ha
  obtain ⟨N1, E1⟩ := ze_Mforget (μ := θ) (D + 26) hk
  have f1 : ∀ c d, c ≠ 251 → zv_fg θ k c d = θ c d := fun c d r => zv_fg_ne r
  have e1 : ∀ s, s < 3 → zv_fg θ k 251 s = if ¬ θ 251 s = 0 ∧ ¬ θ 252 (10 * s + k) = 0 then 0 else θ 251 s := fun s hs => zv_fg_at hs
  generalize zv_fg θ k = θ1 at E1 f1 e1
  obtain ⟨lc1, cM1⟩ := zM_c (μ := θ1)
  have g12 : ∀ c d, c ≠ 251 → c ≠ 260 → ¬ zu_in 6 c d → θ1 c d = μ c d := fun c d r1 r2 r3 => (f1 c d r1).trans ((f0 c d r2).trans (fξ c d r3))
  have t6 : zu_eqT ξ 6 θ1 6 := zu_eq_in (fun c d r => (f1 c d (fun z => zu_in_not (Or.inr (by omega)) r)).trans (f0 c d (fun z => zu_in_not (Or.inr (by omega)) r)))
  have tA : zu_eqT μ a θ1 a := zu_eq_in (fun c d r => g12 c d (fun z => zu_in_not (Or.inr (by omega)) r) (fun z => zu_in_not (Or.inr (by omega)) r) (zu_in_ne r (by omega)))
  -- the window leaves its tree
  have lv : ∃ θ2 ua, ze_S (D + 27) 9 (some .int) zc_X6_drag 292 L [] (zm_mk θ) 311 L [] (zm_mk θ2) ∧ (a ≠ b → ∃ m ab', zu_at μ a (us a) k m ∧ zu_isOut θ1 a (us a) m k θ2 ab' ∧ ua = (if (zu_tb θ1 a m).erase k = [] then zy_out m (us a) else us a)) ∧ (∀ c d, ¬ zu_in a c d → θ2 c d = θ1 c d) ∧ (a = b → θ2 = θ1) := by
    by_cases c : a = b
    · have c' : nI a = nI b := by rw [c]
      refine ⟨θ1, .nil, ⟨N1, 6, fun F m hF => ?_⟩, fun z => absurd c z, fun _ _ _ => rfl, fun _ => rfl⟩
      simp (maxDischargeDepth := 9) [zi_go, zf_X6_drag, zi_ask, zi_new, zi_step, zi_ld, zi_lda, zi_cmp, zi_retOk, zi_isI, zi_f3, zi_cr, zi_ci, zi_cn, zi_get_ne, zi_nl_i, zi_nl_r, zi_get_set_eq, nl, g0, g1, g4, g5, cM, zq_Mod_forget, E1 F (by omega), c']
    · have c' : ¬ nI a = nI b := fun e => c ((nI_eq (by omega) (by omega)).mp e)
      obtain ⟨θ2, ab', ⟨N2, E2⟩, ho⟩ := ze_Mleave (μ := θ1) (D + 23) (τ := a) (by omega) (tA.I hIa) hk (zu_at_eqT hIa tA atk)
      refine ⟨θ2, _, ⟨N1 + N2, 10, fun F m hF => ?_⟩, fun _ => ⟨mk, ab', atk, ho, rfl⟩, ho.2.2.2.2, fun z => absurd z c⟩
      simp (maxDischargeDepth := 9) [zi_go, zf_X6_drag, zi_ask, zi_new, zi_step, zi_ld, zi_lda, zi_cmp, zi_retOk, zi_isI, zi_f3, zi_cr, zi_ci, zi_cn, zi_get_ne, zi_nl_i, zi_nl_r, zi_get_set_eq, nl, g0, g1, g4, g5, cM, cM1, zq_Mod_forget, zq_Mod_leave, E1 F (by omega), E2 F (by omega), c']
  obtain ⟨θ2, ua, S1, o1, o2, o3⟩ := lv
  obtain ⟨lc2, cM2⟩ := zM_c (μ := θ2)
  obtain ⟨N3, E3⟩ := ze_McopyTree (μ := θ2) (D + 25) (f := 6) (t := b) (by decide) (by omega) (by omega)
  rw [q6] at E3
  have t3 := zu_cq_eqT (μ := θ2) (f := 6) (t := b)
  have f3 : zu_fr b θ2 (zu_cq θ2 6 b 24 240) := zu_cq_fr
  generalize zu_cq θ2 6 b 24 240 = θ3 at E3 t3 f3
  have f4 : ∀ c d, ¬ (c = 238 ∧ d = k) → zm_up θ3 238 k (nI b) c d = θ3 c d := fun c d r => zm_up_ne r
  have e4 : zm_up θ3 238 k (nI b) 238 k = nI b := zm_up_eq
  have S2 : ze_S (D + 27) 9 (some .int) zc_X6_drag 311 L [] (zm_mk θ2) 330 (zi_set L 8 (.int (nI 0))) [] (zm_mk (zm_up θ3 238 k (nI b))) := by
    refine ⟨N3, 11, fun F m hF => ?_⟩
    simp (maxDischargeDepth := 9) [zi_go, zf_X6_drag, zi_ask, zi_new, zi_step, zi_ld, zi_lda, zi_cmp, zi_retOk, zi_isI, zi_f3, zi_cr, zi_ci, zi_cn, zi_get_ne, zi_nl_i, zi_nl_r, zi_get_set_eq, nl, g0, g1, g4, g5, h6, cM2, zM_g, zq_Mod_copyTree, E3 F (by omega), zm_iast zM_A238 ik, ck, nI_0]
  generalize zm_up θ3 238 k (nI b) = θ4 at f4 e4 S2
  -- cells that are in no tree
  have up : ∀ c d, c < 243 ∨ 250 < c → ¬ (c = 238 ∧ d = k) → θ4 c d = θ1 c d := fun c d r1 r2 => (f4 c d r2).trans ((f3 c d (zu_in_not r1)).trans (o2 c d (zu_in_not r1)))
  have upμ : ∀ c d, c < 243 ∨ 250 < c → ¬ (c = 238 ∧ d = k) → c ≠ 251 → c ≠ 260 → θ4 c d = μ c d := fun c d r1 r2 r3 r4 => (up c d r1 r2).trans (g12 c d r3 r4 (zu_in_not r1))
  have hcm4 : zv_cm θ4 (zv_grp μ k) := fun j hj => by
    rw [up _ _ (by decide) (by omega), f1 _ _ (by decide)]
    exact hcm j hj
  -- its dialogs come along
  have dg : ∃ ν6 L6, ze_S (D + 27) 9 (some .int) zc_X6_drag 330 (zi_set L 8 (.int (nI 0))) [] (zm_mk θ4) 394 L6 [] (zm_mk ν6) ∧ zi_get L6 0 = some (.ref 232) ∧ zi_get L6 1 = some (.int (nI k)) ∧ (a = b → ν6 = θ4) ∧ (a ≠ b → zv_dgw θ4 ν6 k b (zv_grp μ k) 10 ∧ zv_pd θ4 ν6 (fun j => zv_grp μ k j && !decide (j = k)) (zv_cx θ4 b (θ4 239)) (zv_cy θ4 b (θ4 240))) := by
    by_cases c : a = b
    · have c' : nI a = nI b := by rw [c]
      have c1 : ¬ (10 : Int32) ≤ nI 0 := by decide
      refine ⟨θ4, zi_set L 8 (.int (nI 0)), ⟨0, 6, fun F m hF => ?_⟩, by simp (maxDischargeDepth := 9) [zi_get_ne, zi_nl_i, zi_nl_r, zi_get_set_eq, nl, g0], by simp (maxDischargeDepth := 9) [zi_get_ne, zi_nl_i, zi_nl_r, zi_get_set_eq, nl, g1], fun _ => rfl, fun z => absurd c z⟩
      simp (maxDischargeDepth := 9) [zi_go, zf_X6_drag, zi_ask, zi_new, zi_step, zi_ld, zi_lda, zi_cmp, zi_retOk, zi_isI, zi_f3, zi_cr, zi_ci, zi_cn, zi_get_ne, zi_nl_i, zi_nl_r, zi_get_set_eq, nl, g0, g1, g4, g5, h10, c1, c']
    · obtain ⟨L', h', S, nl', b0, b1, ν6, rfl, q, q'⟩ := zv_dgC_p (μ := θ4) (D + 25) hk ha hb c hcm4 (zi_set L 8 (.int (nI 0))) (by simp (maxDischargeDepth := 9) [zi_get_ne, zi_nl_i, zi_nl_r, zi_get_set_eq, nl]) (by simp (maxDischargeDepth := 9) [zi_get_ne, zi_nl_i, zi_nl_r, zi_get_set_eq, nl, g0]) (by simp (maxDischargeDepth := 9) [zi_get_ne, zi_nl_i, zi_nl_r, zi_get_set_eq, nl, g1]) (by simp (maxDischargeDepth := 9) [zi_get_ne, zi_nl_i, zi_nl_r, zi_get_set_eq, nl, g4]) (by simp (maxDischargeDepth := 9) [zi_get_ne, zi_nl_i, zi_nl_r, zi_get_set_eq, nl, g5]) zi_get_set_eq
      exact ⟨ν6, L', S, b0, b1, fun z => absurd z c, fun _ => ⟨q, q'⟩⟩
  obtain ⟨ν6, L6, S3, b0, b1, d1, d2'⟩ := dg
  have d2 := fun z => (d2' z).1
  have d3 : ∀ c d, c ≠ 238 → c ≠ 239 → c ≠ 240 → c ≠ 251 → ν6 c d = θ4 c d := fun c d r1 r2 r3 r4 => by
    by_cases e : a = b
    · rw [d1 e]
    · exact (d2 e).2.2 c d r1 r2 r3 r4
  have din : ∀ τ c d, zu_in τ c d → ν6 c d = θ3 c d := fun τ c d r => (d3 c d (fun z => zu_in_not (Or.inl (by omega)) r) (fun z => zu_in_not (Or.inl (by omega)) r) (fun z => zu_in_not (Or.inl (by omega)) r) (fun z => zu_in_not (Or.inr (by omega)) r)).trans (f4 c d (fun z => zu_in_not (Or.inl (by omega)) r))
  have tb6 : zu_eqT ξ 6 ν6 b := by
    have t1 : zu_eqT θ1 6 θ2 6 := zu_eq_in (fun c d r => o2 c d (zu_in_ne r (by omega)))
    exact t6.trans (t1.trans (t3.trans (zu_eq_in (din b))))
  have x8 : ∀ j, j < 10 → ν6 238 j = if j = k ∨ (a ≠ b ∧ zv_grp μ k j = true) then nI b else μ 238 j := fun j hj => by
    by_cases e : a = b
    · rw [d1 e]
      by_cases ek : j = k
      · rw [if_pos (Or.inl ek), ek, e4]
      · rw [if_neg (fun z => z.elim ek (fun z => z.1 e)), upμ _ _ (by decide) (by omega) (by decide) (by decide)]
    · rw [(d2 e).1 j hj]
      by_cases ek : j = k
      · rw [if_pos (Or.inl ek), if_neg (fun z => z.2.2 ek), ek, e4]
      · by_cases eg : zv_grp μ k j = true
        · rw [if_pos ⟨hj, eg, ek⟩, if_pos (Or.inr ⟨e, eg⟩)]
        · rw [if_neg (fun z => eg z.2.1), if_neg (fun z => z.elim ek (fun z => eg z.2)), upμ _ _ (by decide) (by omega) (by decide) (by decide)]
  have x4 : ∀ d, ν6 234 d = μ 234 d := fun d => (d3 _ _ (by decide) (by decide) (by decide) (by decide)).trans (upμ _ _ (by decide) (by omega) (by decide) (by decide))
  have x7 : ∀ d, ν6 237 d = μ 237 d := fun d => (d3 _ _ (by decide) (by decide) (by decide) (by decide)).trans (upμ _ _ (by decide) (by omega) (by decide) (by decide))
  obtain ⟨rk, hr⟩ := h.2.2.2.1
  have hr6 : zv_rk ν6 rk := ⟨hr.1, fun x hx e => by
    rw [x4] at e
    rw [x7]
    exact hr.2 x hx e⟩
  have rest : ∀ c d, c = 231 ∨ c = 241 ∨ c = 242 → ν6 c d = μ c d := fun c d r => (d3 c d (by omega) (by omega) (by omega) (by omega)).trans (upμ c d (by omega) (by omega) (by omega) (by omega))
  have hR := h.2.1
  have hS := h.2.2.1
  have hR6 : zv_L ν6 242 12 row := ⟨hR.1.1, (rest _ _ (Or.inl rfl)).trans hR.1.2.1, fun j hj => (rest _ _ (Or.inr (Or.inr rfl))).trans (hR.1.2.2 j hj)⟩
  have hS6 : zv_L ν6 241 10 stk := ⟨hS.1.1, (rest _ _ (Or.inl rfl)).trans hS.1.2.1, fun j hj => (rest _ _ (Or.inr (Or.inl rfl))).trans (hS.1.2.2 j hj)⟩
  obtain ⟨ν, ⟨N5, E5⟩, hf⟩ := zv_focused (μ := ν6) (us := zv_drU us a b ua u2) (D + 15) hr6 hk (fun _ => ⟨b, m2, ab2, hb, by rw [x8 k hk, if_pos (Or.inl rfl)], by
    show zu_I ν6 b (if b = b then u2 else _) ab2
    rw [if_pos rfl]
    exact tb6.I hI2, by
    show zu_at ν6 b (if b = b then u2 else _) k m2
    rw [if_pos rfl]
    exact zu_at_eqT hI2 tb6 hat2⟩) hS6 hS.2.1 (fun x hx => ((hS.2.2 x).mp hx).1) hR6 hR.2.1 (fun x hx => ((hR.2.2 x).mp hx).1)
  obtain ⟨lc6, cM6⟩ := zM_c (μ := ν6)
  have fin : ∀ c d, c = 239 ∨ c = 240 ∨ c = 253 ∨ c = 254 → ν c d = ν6 c d := fun c d r => hf.2.2.2 c d (by omega) (by omega) (by omega) (fun ⟨_, _, _, _, _, _, e, _⟩ => by omega)
  have p4 : ∀ c d, c ≠ 238 → c < 243 ∨ 250 < c → c ≠ 251 → c ≠ 260 → θ4 c d = μ c d := fun c d r0 r1 r2 r3 => upμ c d r1 (fun z => r0 z.1) r2 r3
  have hp : zv_dgp μ ν k a b := by
    refine ⟨zv_kpp_of (fun c d r => ?_), fun e c d r => ?_, fun e j hj => ?_⟩
    · rw [fin c d (by omega), d3 c d (by omega) (by omega) (by omega) (by omega), p4 c d (by omega) (by omega) (by omega) (by omega)]
    · rw [fin c d r, d1 e, p4 c d (by omega) (by omega) (by omega) (by omega)]
    · have z := (d2' e).2 j hj
      unfold zv_cx zv_cy at *
      rw [p4 239 j (by decide) (by decide) (by decide) (by decide), p4 240 j (by decide) (by decide) (by decide) (by decide), p4 232 b (by decide) (by decide) (by decide) (by decide), p4 233 b (by decide) (by decide) (by decide) (by decide), p4 235 j (by decide) (by decide) (by decide) (by decide), p4 236 j (by decide) (by decide) (by decide) (by decide)] at z
      rw [fin 239 j (by omega), fin 240 j (by omega)]
      exact z
  refine ⟨ν, S1.end (S2.end (S3.end ⟨N5, 5, fun F m hF => ?_⟩)), hp⟩
  simp [zi_go, zf_X6_drag, zi_ask, zi_new, zi_step, zi_ld, zi_lda, zi_cmp, zi_retOk, zi_isI, zi_f3, zi_cr, zi_ci, zi_cn, b0, b1, cM6, zq_Mod_focused, E5 F (by omega)]
def zv_drgp (μ ν : zm_M) (w x y r : Int32) : Prop :=
  (zv_plc μ ν ∧ r < 0) ∨ ∃ k o sd a b, zv_darg μ w x y k o sd ∧ a < 3 ∧ b < 3 ∧ μ 238 k = nI a ∧ μ 238 o = nI b ∧ r = 0 ∧ zv_dgp μ ν k a b
set_option maxRecDepth 100000 in
theorem ze_Mdrag_p (D : Nat) (h : zR μ row stk us) (w x y : Int32) : ∃ ν v, ze_E (D + 28) A_Mod_drag [.ref 232, .int w, .int x, .int y] (zm_mk μ) (some (.int v)) (zm_mk ν) ∧ zv_drgp μ ν w x y v := by
  have n2 : Int32.ofInt (-1000000002) = -1000000002 := by decide
  have h6 : (Int8.ofInt 6).toInt32 = (6 : Int32) := by decide
  have q6 : nI 6 = (6 : Int32) := by decide
  have h10 : (Int8.ofInt 10).toInt32 = (10 : Int32) := by decide
  rcases zv_dg0_v D h w x y with ⟨hno, v, hv, G⟩ | ⟨k, o, sd, a, b, hd, ha, hb, hka, hob, ⟨mk, atk⟩, ⟨mo, ato⟩, S0⟩
  · exact ⟨μ, v, ze_in [(0, .ref 232), (1, .int w), (2, .int x), (3, .int y)] zq_Mod_drag (Nat.le_of_ble_eq_true rfl) rfl G, Or.inl ⟨zv_plc.refl, zx_ref_lt hv⟩⟩
  · obtain ⟨⟨hk, ho, hsd⟩, -, ⟨hkt, hot, hko⟩⟩ := id hd
    obtain ⟨μ0, u', n, ab, S1, d1, f1, hI1, hnd1, hno1, at1⟩ := zv_dg1 (x3 := nI sd) D h hk hko ha hb hka atk ato
    obtain ⟨ξ, u2, ab2, m2, S2, d2, f2, hI2, at2⟩ := zv_dg2 (s := nI a) (t := nI b) D hk ho hsd hI1 hnd1 hno1 at1
    have fξ : zu_fr 6 μ ξ := f1.trans f2
    have hsz := h.2.2.2.2.2.2 b hb
    have ib : zi_in (nI b) 3 = true := zm_in hb (by decide)
    have cb : (nI b).toNatClampNeg = b := nI_clamp (by omega)
    have S3 : ze_S (D + 27) 9 (some .int) zc_X6_drag 150 [(6, .int (nI n)), (5, .int (nI b)), (4, .int (nI a)), (0, .ref 232), (1, .int (nI k)), (2, .int (nI o)), (3, .int (nI sd))] [] (zm_mk ξ) 153 [(7, .int (nI 0)), (6, .int (nI n)), (5, .int (nI b)), (4, .int (nI a)), (0, .ref 232), (1, .int (nI k)), (2, .int (nI o)), (3, .int (nI sd))] [] (zm_mk ξ) := by
      refine ⟨0, 2, fun F m hF => ?_⟩
      simp [zi_go, zf_X6_drag, zi_ask, zi_new, zi_step, zi_ld, zi_lda, zi_cmp, zi_retOk, zi_isI, zi_f3, zi_cr, zi_ci, zi_cn, zi_get, zi_set, nI_0]
    obtain ⟨L4, h4, S4, nl4, b0, b1, b3, b4, b5, θ1, rfl, cm1, g1⟩ := zv_dgA (μ := ξ) (D + 27) hk (s := nI a) (o := nI b) (x3 := nI sd) [(7, .int (nI 0)), (6, .int (nI n)), (5, .int (nI b)), (4, .int (nI a)), (0, .ref 232), (1, .int (nI k)), (2, .int (nI o)), (3, .int (nI sd))] rfl rfl rfl rfl rfl rfl rfl
    have x1 : ∀ c d, c < 243 ∨ 250 < c → c ≠ 260 → θ1 c d = μ c d := fun c d r1 r2 => (g1 c d r2).trans (fξ c d (zu_in_not r1))
    obtain ⟨θ, ⟨N5, E5⟩, cm2, g2⟩ := ze_Mspread (μ := θ1) (D + 26) cm1 (zv_ow_cells (zR_ow h) (fun c d r => x1 c d (by omega) (by omega)))
    have x2 : ∀ c d, c < 243 ∨ 250 < c → c ≠ 260 → θ c d = μ c d := fun c d r1 r2 => (g2 c d r2).trans (x1 c d r1 r2)
    have f0 : ∀ c d, c ≠ 260 → θ c d = ξ c d := fun c d r => (g2 c d r).trans (g1 c d r)
    have t6 : zu_eqT ξ 6 θ 6 := zu_eq_in (fun c d r => f0 c d (fun z => zu_in_not (Or.inr (by omega)) r))
    have hI2' := t6.I hI2
    have efit : zu_fit θ 6 u2 (μ 232 b) (μ 233 b) = zu_fit ξ 6 u2 (μ 232 b) (μ 233 b) := zu_fit_cells (fun c d r1 r2 => f0 c d (by omega))
    obtain ⟨N6, E6⟩ := ze_Mfits (μ := θ) (D + 1) (τ := 6) (by decide) hI2' hsz.1 hsz.2
    rw [efit, q6] at E6
    obtain ⟨lc1, cM1⟩ := zM_c (μ := θ1)
    obtain ⟨lc2, cM2⟩ := zM_c (μ := θ)
    have cm2 : zv_cm θ (zv_grp μ k) := cm2
    have edrm : zv_drm θ k b (zv_grp μ k) = zv_drm μ k b (zv_grp μ k) := funext fun j => by
      unfold zv_drm
      rw [x2 235 j (by decide) (by decide), x2 236 j (by decide) (by decide), x2 232 b (by decide) (by decide), x2 233 b (by decide) (by decide)]
    generalize hfit : zu_fit ξ 6 u2 (μ 232 b) (μ 233 b) = fit at E6
    have S5 : ze_S (D + 27) 9 (some .int) zc_X6_drag 184 L4 [] (zm_mk θ1) 213 (zi_set (zi_set L4 7 (.int (if fit = true then 1 else 0))) 8 (.int (nI 0))) [] (zm_mk θ) := by
      have nl := nl4
      refine ⟨N5 + N6, 16, fun F m hF => ?_⟩
      simp (maxDischargeDepth := 9) [zi_go, zf_X6_drag, zi_ask, zi_new, zi_step, zi_ld, zi_lda, zi_cmp, zi_retOk, zi_isI, zi_f3, zi_cr, zi_ci, zi_cn, zi_get_ne, zi_nl_i, zi_nl_r, zi_get_set_eq, nl, b0, b1, b3, b4, b5, h6, cM1, cM2, zM_g, zq_Mod_spread, zq_Mod_fits, E5 F (by omega), E6 F (by omega), zm_iald (k := 0) zM_A232 ib, zm_iald (k := 0) zM_A233 ib, cb, x2 232 b (by decide) (by decide), x2 233 b (by decide) (by decide), nI_0]
    have dg : ∃ L6 good, ze_S (D + 27) 9 (some .int) zc_X6_drag 213 (zi_set (zi_set L4 7 (.int (if fit = true then 1 else 0))) 8 (.int (nI 0))) [] (zm_mk θ) 284 L6 [] (zm_mk θ) ∧ zi_nl L6 = true ∧ zi_get L6 0 = some (.ref 232) ∧ zi_get L6 1 = some (.int (nI k)) ∧ zi_get L6 4 = some (.int (nI a)) ∧ zi_get L6 5 = some (.int (nI b)) ∧ zi_get L6 7 = some (.int (if good = true then 1 else 0)) ∧ (good = true ↔ fit = true ∧ (a = b ∨ ∀ j, j < 10 → zv_drm μ k b (zv_grp μ k) j = true)) := by
      have nl := nl4
      by_cases c : a = b
      · have c' : nI a = nI b := by rw [c]
        have c1 : ¬ (10 : Int32) ≤ nI 0 := by decide
        refine ⟨zi_set (zi_set L4 7 (.int (if fit = true then 1 else 0))) 8 (.int (nI 0)), fit, ⟨0, 6, fun F m hF => ?_⟩, by simp (maxDischargeDepth := 9) [zi_get_ne, zi_nl_i, zi_nl_r, zi_get_set_eq, nl], by simp (maxDischargeDepth := 9) [zi_get_ne, zi_nl_i, zi_nl_r, zi_get_set_eq, nl, b0], by simp (maxDischargeDepth := 9) [zi_get_ne, zi_nl_i, zi_nl_r, zi_get_set_eq, nl, b1], by simp (maxDischargeDepth := 9) [zi_get_ne, zi_nl_i, zi_nl_r, zi_get_set_eq, nl, b4], by simp (maxDischargeDepth := 9) [zi_get_ne, zi_nl_i, zi_nl_r, zi_get_set_eq, nl, b5], by simp (maxDischargeDepth := 9) [zi_get_ne, zi_nl_i, zi_nl_r, zi_get_set_eq, nl], ⟨fun z => ⟨z, Or.inl c⟩, fun z => z.1⟩⟩
        simp (maxDischargeDepth := 9) [zi_go, zf_X6_drag, zi_ask, zi_new, zi_step, zi_ld, zi_lda, zi_cmp, zi_retOk, zi_isI, zi_f3, zi_cr, zi_ci, zi_cn, zi_get_ne, zi_nl_i, zi_nl_r, zi_get_set_eq, nl, b0, b1, b4, b5, h10, c1, c']
      · obtain ⟨L6, h', S, nl6, p0, p1, p4, p5, p7, rfl⟩ := zv_dgB (μ := θ) (D + 26) hk ha hb c cm2 fit (zi_set (zi_set L4 7 (.int (if fit = true then 1 else 0))) 8 (.int (nI 0))) (by simp (maxDischargeDepth := 9) [zi_get_ne, zi_nl_i, zi_nl_r, zi_get_set_eq, nl]) (by simp (maxDischargeDepth := 9) [zi_get_ne, zi_nl_i, zi_nl_r, zi_get_set_eq, nl, b0]) (by simp (maxDischargeDepth := 9) [zi_get_ne, zi_nl_i, zi_nl_r, zi_get_set_eq, nl, b1]) (by simp (maxDischargeDepth := 9) [zi_get_ne, zi_nl_i, zi_nl_r, zi_get_set_eq, nl, b4]) (by simp (maxDischargeDepth := 9) [zi_get_ne, zi_nl_i, zi_nl_r, zi_get_set_eq, nl, b5]) (by simp (maxDischargeDepth := 9) [zi_get_ne, zi_nl_i, zi_nl_r, zi_get_set_eq, nl]) zi_get_set_eq
        rw [edrm] at p7
        exact ⟨L6, _, S, nl6, p0, p1, p4, p5, p7, (zv_gd_iff 10).trans (and_congr Iff.rfl ⟨fun z => Or.inr z, fun z => z.resolve_left c⟩)⟩
    obtain ⟨L6, good, S6, nl6, p0, p1, p4, p5, p7, hg⟩ := dg
    have SS := S0.trans (S1.trans (S2.trans (S3.trans (S4.trans (S5.trans S6)))))
    cases good with
    | false =>
      have p7 : zi_get L6 7 = some (.int 0) := p7
      have hng : ¬ (fit = true ∧ (a = b ∨ ∀ j, j < 10 → zv_drm μ k b (zv_grp μ k) j = true)) := fun z => by cases hg.mpr z
      refine ⟨θ, -1000000002, ze_in [(0, .ref 232), (1, .int w), (2, .int x), (3, .int y)] zq_Mod_drag (Nat.le_of_ble_eq_true rfl) rfl (SS.end ⟨0, 4, fun F m hF => by simp [zi_go, zf_X6_drag, zi_ask, zi_new, zi_step, zi_ld, zi_lda, zi_cmp, zi_retOk, zi_isI, zi_f3, zi_cr, zi_ci, zi_cn, p7, n2]⟩), Or.inl ⟨fun c d r => (f0 c d (by omega)).trans (fξ c d (zu_in_not (by omega))), by decide⟩⟩
    | true =>
      have p7 : zi_get L6 7 = some (.int 1) := p7
      have n10 : ¬ (1 : Int32) = 0 := by decide
      obtain ⟨ν, G, q1⟩ := zv_dg3_p D h hk ha hb hkt hka atk fξ f0 hI2 at2 cm2 L6 nl6 p0 p1 p4 p5
      have S7 : ze_S (D + 27) 9 (some .int) zc_X6_drag 284 L6 [] (zm_mk θ) 292 L6 [] (zm_mk θ) := by
        refine ⟨0, 2, fun F m hF => ?_⟩
        simp [zi_go, zf_X6_drag, zi_ask, zi_new, zi_step, zi_ld, zi_lda, zi_cmp, zi_retOk, zi_isI, zi_f3, zi_cr, zi_ci, zi_cn, p7, n10]
      refine ⟨ν, 0, ze_in [(0, .ref 232), (1, .int w), (2, .int x), (3, .int y)] zq_Mod_drag (Nat.le_of_ble_eq_true rfl) rfl (SS.end (S7.end G)), Or.inr ⟨k, o, sd, a, b, hd, ha, hb, hka, hob, rfl, q1⟩⟩
def zv_movp (μ ν : zm_M) (w x y v : Int32) : Prop :=
  (zv_plc μ ν ∧ v < 0) ∨ ∃ k, k < 10 ∧ w = nI k ∧ v = 0 ∧ zv_kpp μ ν ∧ (∀ j, j ≠ k → ν 239 j = μ 239 j ∧ ν 240 j = μ 240 j) ∧
    ((μ 234 k = 4 ∧ ν 239 k = zv_ne x 400 ∧ ν 240 k = zv_ne y 400) ∨ (¬ μ 234 k = 4 ∧ ∃ s, s < 3 ∧ μ 238 k = nI s ∧ ν 239 k = zv_ne x (μ 232 s - μ 235 k) ∧ ν 240 k = zv_ne y (μ 233 s - μ 236 k)))
set_option maxRecDepth 100000 in
theorem ze_Mmove_p (D : Nat) (h : zR μ row stk us) (w x y : Int32) : ∃ ν v, ze_E (D + 4) A_Mod_move [.ref 232, .int w, .int x, .int y] (zm_mk μ) (some (.int v)) (zm_mk ν) ∧ zv_movp μ ν w x y v := by
  have n1 : Int32.ofInt (-1000000001) = -1000000001 := by decide
  have n2 : Int32.ofInt (-1000000002) = -1000000002 := by decide
  have h1 : (Int16.ofInt (-1000)).toInt32 = (-1000 : Int32) := by decide
  have h2 : (Int16.ofInt 1000).toInt32 = (1000 : Int32) := by decide
  have h4 : (Int16.ofInt 400).toInt32 = (400 : Int32) := by decide
  obtain ⟨lc, cM⟩ := zM_c (μ := μ)
  rcases zR_win (D + 1) h w with ⟨k, hk, rfl, c0, N1, E1⟩ | ⟨⟨N1, E1⟩, c0⟩
  · have ik : zi_in (nI k) 10 = true := zm_in hk (by decide)
    have ck : (nI k).toNatClampNeg = k := nI_clamp (by omega)
    obtain ⟨N2, E2⟩ := ze_isIn (h := zm_mk μ) (D + 2) x (-1000) 1000
    by_cases c1 : -1000 ≤ x ∧ x ≤ 1000
    · rw [if_pos c1] at E2
      obtain ⟨N3, E3⟩ := ze_isIn (h := zm_mk μ) (D + 2) y (-1000) 1000
      by_cases c2 : -1000 ≤ y ∧ y ≤ 1000
      · rw [if_pos c2] at E3
        obtain ⟨N4, E4⟩ := ze_MisFloating (μ := μ) (D + 2) hk
        by_cases c3 : μ 234 k = 1
        · rw [if_neg (fun z => (zR_fl h hk c0).mp z c3)] at E4
          refine ⟨μ, -1000000002, ze_in [(0, .ref 232), (1, .int (nI k)), (2, .int x), (3, .int y)] zq_Mod_move (Nat.le_of_ble_eq_true rfl) rfl ⟨N1 + N2 + N3 + N4, 20, fun F n hF => ?_⟩, Or.inl ⟨zv_plc.refl, by decide⟩⟩
          simp [zi_go, zf_X6_move, zi_ask, zi_new, zi_step, zi_ld, zi_lda, zi_cmp, zi_retOk, zi_isI, zi_f3, zi_cr, zi_ci, zi_cn, zi_get, zi_set, h1, h2, cM, zq_Mod_isWindow, zq_Mod_isIn, zq_Mod_isFloating, E1 F (by omega), E2 F (by omega), E3 F (by omega), E4 F (by omega), n2]
        · rw [if_pos ((zR_fl h hk c0).mpr c3)] at E4
          by_cases c4 : μ 234 k = 4
          · obtain ⟨N5, E5⟩ := ze_Mnearest (h := zm_mk μ) (D + 2) x 400
            generalize ep : zv_ne x 400 = p at E5
            obtain ⟨N6, E6⟩ := ze_Mnearest (h := zm_mk (zm_up μ 239 k p)) (D + 2) y 400
            generalize eq : zv_ne y 400 = q at E6
            have f : ∀ c d, c ≠ 239 → c ≠ 240 → zm_up (zm_up μ 239 k p) 240 k q c d = μ c d := fun c d a b => by rw [zm_up_ne (by omega), zm_up_ne (by omega)]
            obtain ⟨N7, E7⟩ := ze_Mforget (μ := zm_up (zm_up μ 239 k p) 240 k q) (D + 2) hk
            obtain ⟨lc2, cM2⟩ := zM_c (μ := zm_up (zm_up μ 239 k p) 240 k q)
            refine ⟨zv_fg (zm_up (zm_up μ 239 k p) 240 k q) k, 0, ze_in [(0, .ref 232), (1, .int (nI k)), (2, .int x), (3, .int y)] zq_Mod_move (Nat.le_of_ble_eq_true rfl) rfl ⟨N1 + N2 + N3 + N4 + N5 + N6 + N7, 44, fun F n hF => ?_⟩, Or.inr ⟨k, hk, rfl, rfl, zv_kpp_of (fun c d hc => (zv_fg_ne (by omega)).trans (f c d (by omega) (by omega))), fun j hj => ⟨(zv_fg_ne (by decide)).trans ((zm_up_ne (by omega)).trans (zm_up_ne (by omega))), (zv_fg_ne (by decide)).trans ((zm_up_ne (by omega)).trans (zm_up_ne (by omega)))⟩, Or.inl ⟨c4, (zv_fg_ne (by decide)).trans ((zm_up_ne (by omega)).trans (zm_up_eq.trans ep.symm)), (zv_fg_ne (by decide)).trans (zm_up_eq.trans eq.symm)⟩⟩⟩
            simp [zi_go, zf_X6_move, zi_ask, zi_new, zi_step, zi_ld, zi_lda, zi_cmp, zi_retOk, zi_isI, zi_f3, zi_cr, zi_ci, zi_cn, zi_get, zi_set, zM_g, h1, h2, h4, cM, cM2, zq_Mod_isWindow, zq_Mod_isIn, zq_Mod_isFloating, zq_Mod_nearest, zq_Mod_forget, E1 F (by omega), E2 F (by omega), E3 F (by omega), E4 F (by omega), E5 F (by omega), E6 F (by omega), E7 F (by omega), zm_iald (k := 0) zM_A234 ik, ck, c4, zm_iast zM_A239 ik, zm_iast zM_A240 ik]
          · obtain ⟨s, hs, hh, -, -⟩ := h.2.2.2.2.2.1 k hk c0 c4
            obtain ⟨p, q, ⟨N5, E5⟩, ep, eq⟩ := ze_MputAt (μ := μ) (D + 1) hk hs x y
            have fp := @zv_put_at μ k s p q
            have f : ∀ c d, c ≠ 239 → c ≠ 240 → zv_put μ k s p q c d = μ c d := fun c d a b => by
              unfold zv_put
              rw [zm_up_ne (by omega), zm_up_ne (by omega)]
              by_cases e : c = 238 ∧ d = k
              · rw [e.1, e.2, zm_up_eq, hh]
              · rw [zm_up_ne e]
            generalize zv_put μ k s p q = ξ at E5 f fp
            obtain ⟨N7, E7⟩ := ze_Mforget (μ := ξ) (D + 2) hk
            obtain ⟨lc2, cM2⟩ := zM_c (μ := ξ)
            refine ⟨zv_fg ξ k, 0, ze_in [(0, .ref 232), (1, .int (nI k)), (2, .int x), (3, .int y)] zq_Mod_move (Nat.le_of_ble_eq_true rfl) rfl ⟨N1 + N2 + N3 + N4 + N5 + N7, 38, fun F n hF => ?_⟩, Or.inr ⟨k, hk, rfl, rfl, zv_kpp_of (fun c d hc => (zv_fg_ne (by omega)).trans (f c d (by omega) (by omega))), fun j hj => ⟨(zv_fg_ne (by decide)).trans (fp.2.2 j hj).1, (zv_fg_ne (by decide)).trans (fp.2.2 j hj).2⟩, Or.inr ⟨c4, s, hs, hh, (zv_fg_ne (by decide)).trans (fp.1.trans ep), (zv_fg_ne (by decide)).trans (fp.2.1.trans eq)⟩⟩⟩
            simp [zi_go, zf_X6_move, zi_ask, zi_new, zi_step, zi_ld, zi_lda, zi_cmp, zi_retOk, zi_isI, zi_f3, zi_cr, zi_ci, zi_cn, zi_get, zi_set, zM_g, h1, h2, h4, cM, cM2, zq_Mod_isWindow, zq_Mod_isIn, zq_Mod_isFloating, zq_Mod_putAt, zq_Mod_forget, E1 F (by omega), E2 F (by omega), E3 F (by omega), E4 F (by omega), E5 F (by omega), E7 F (by omega), zm_iald (k := 0) zM_A234 ik, zm_iald (k := 0) zM_A238 ik, ck, c4, hh]
      · rw [if_neg c2] at E3
        refine ⟨μ, -1000000001, ze_in [(0, .ref 232), (1, .int (nI k)), (2, .int x), (3, .int y)] zq_Mod_move (Nat.le_of_ble_eq_true rfl) rfl ⟨N1 + N2 + N3, 16, fun F n hF => ?_⟩, Or.inl ⟨zv_plc.refl, by decide⟩⟩
        simp [zi_go, zf_X6_move, zi_ask, zi_new, zi_step, zi_ld, zi_lda, zi_cmp, zi_retOk, zi_isI, zi_f3, zi_cr, zi_ci, zi_cn, zi_get, zi_set, h1, h2, cM, zq_Mod_isWindow, zq_Mod_isIn, E1 F (by omega), E2 F (by omega), E3 F (by omega), n1]
    · rw [if_neg c1] at E2
      refine ⟨μ, -1000000001, ze_in [(0, .ref 232), (1, .int (nI k)), (2, .int x), (3, .int y)] zq_Mod_move (Nat.le_of_ble_eq_true rfl) rfl ⟨N1 + N2, 11, fun F n hF => ?_⟩, Or.inl ⟨zv_plc.refl, by decide⟩⟩
      simp [zi_go, zf_X6_move, zi_ask, zi_new, zi_step, zi_ld, zi_lda, zi_cmp, zi_retOk, zi_isI, zi_f3, zi_cr, zi_ci, zi_cn, zi_get, zi_set, h1, h2, cM, zq_Mod_isWindow, zq_Mod_isIn, E1 F (by omega), E2 F (by omega), n1]
  · refine ⟨μ, -1000000001, ze_in [(0, .ref 232), (1, .int w), (2, .int x), (3, .int y)] zq_Mod_move (Nat.le_of_ble_eq_true rfl) rfl ⟨N1, 6, fun F n hF => ?_⟩, Or.inl ⟨zv_plc.refl, by decide⟩⟩
    simp [zi_go, zf_X6_move, zi_ask, zi_new, zi_step, zi_ld, zi_lda, zi_cmp, zi_retOk, zi_isI, zi_f3, zi_cr, zi_ci, zi_cn, zi_get, zi_set, cM, zq_Mod_isWindow, E1 F (by omega), n1]
end ZZP
