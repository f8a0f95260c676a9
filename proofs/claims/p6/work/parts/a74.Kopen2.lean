/-! side by side: open -/
section ZKP
variable {ξ μ ξ' μ' M : zm_M} {row row' stkC stkC' stk ord : List Nat} {Rs Rs' : Nat → List Nat} {ts ts' us us' : Nat → zy_F} {s k : Nat} {kd w v o : Int32}
theorem zs_cl3 {ξ μ ξ' : zm_M} {T Q τ : Nat} {R : List Nat} {t u : zy_F} (wt : t = .nil ∨ zy_wf t) (h : zs ξ T R t μ τ u) (e3 : ξ' (Q + 3) = ξ (T + 3)) (e7 : ξ' (Q + 7) = ξ (T + 7)) (e8 : ξ' (Q + 8) = ξ (T + 8)) (e12 : ξ' (Q + 12) = ξ (T + 12)) : zs ξ' Q R t μ τ u := by
  rcases wt with rfl | wt
  · obtain ⟨h1, ab, h2⟩ := h
    refine ⟨?_, ab, h2⟩
    cases u <;> exact h1
  · exact zs_cl2 wt h e3 e7 e8 e12
/-- the window k comes to the screen s on both sides -/
theorem zK0_came (h : zK ξ μ row stkC stk ord Rs ts us) (hk : k < 10) (hs : s < 3) (hnt : zd_th ξ k = false) (ha : zd_oarg ξ kd w v o) (hsc : zd_osc ξ row kd o = nI s) (f : zd_came ξ ξ' k s kd w v o) (g : zv_cam μ μ' k s kd w v o) (hz : ∀ q, q < 3 → zs ξ' (zdT q) (Rs' q) (ts' q) μ' q (us' q)) (hR : ∀ q, q < 3 → Rs' (3 + q) = Rs (3 + q) ∧ ts' (3 + q) = ts (3 + q) ∧ us' (3 + q) = us (3 + q)) : zK0 ξ' μ' (ord ++ [k]) Rs' ts' us' := by
  obtain ⟨h1, h4, h2, h3, h5, h6, h7⟩ := h
  obtain ⟨f, w2, w3, w4, w5, l0, l1⟩ := f
  obtain ⟨⟨g4, g7, g5, g6, g8⟩, g⟩ := g
  have kd4 := zv_kd ha.1.1
  have eW : ∀ j, j < 10 → j ≠ k → ξ' (zdW j) = ξ (zdW j) := fun j hj hne => f _ (zJn_W hj).1 (fun e => hne (zdW_inj e)) (by unfold zdW; omega) (fun _ => zJn_out hs (Or.inr (Or.inl ⟨j, hj, Or.inl rfl⟩)))
  have eL : ∀ j, j < 10 → j ≠ k → ξ' (zdW j + 1) = ξ (zdW j + 1) := fun j hj hne => f _ (zJn_W hj).2 (by unfold zdW; omega) (by unfold zdW; omega) (fun _ => zJn_out hs (Or.inr (Or.inl ⟨j, hj, Or.inr rfl⟩)))
  have eS : ∀ q, q < 3 → ξ' (zdS q) = ξ (zdS q) ∧ ξ' (zdZ q) = ξ (zdZ q) ∧ ξ' (zdK q) = ξ (zdK q) ∧ ξ' (zdQ q) = ξ (zdQ q) := fun q hq => ⟨f _ (zJn_S hq).1 (by unfold zdS zdW; omega) (by unfold zdS zdW; omega) (fun _ => zJn_out hs (Or.inr (Or.inr (Or.inl ⟨q, hq, Or.inl rfl⟩)))), f _ (zJn_S hq).2.1 (by unfold zdZ zdW; omega) (by unfold zdZ zdW; omega) (fun _ => zJn_out hs (Or.inr (Or.inr (Or.inl ⟨q, hq, Or.inr (Or.inl rfl)⟩)))), f _ (zJn_S hq).2.2.1 (by unfold zdK zdW; omega) (by unfold zdK zdW; omega) (fun _ => zJn_out hs (Or.inr (Or.inr (Or.inl ⟨q, hq, Or.inr (Or.inr (Or.inl rfl))⟩)))), f _ (zJn_S hq).2.2.2 (by unfold zdQ zdW; omega) (by unfold zdQ zdW; omega) (fun _ => zJn_out hs (Or.inr (Or.inr (Or.inl ⟨q, hq, Or.inr (Or.inr (Or.inr (Or.inl rfl)))⟩))))⟩
  have eV : ∀ q, q < 3 → ∀ j, j < 19 → ξ' (zdV q + j) = ξ (zdV q + j) := fun q hq j hj => f _ (zJn_T hq hj).2 (by unfold zdV zdW; omega) (by unfold zdV zdW; omega) (fun _ => zJn_out hs (Or.inr (Or.inr (Or.inl ⟨q, hq, Or.inr (Or.inr (Or.inr (Or.inr ⟨j, hj, rfl⟩)))⟩))))
  have th : ∀ j, j < 10 → j ≠ k → zd_th ξ' j = zd_th ξ j := fun j hj hne => by unfold zd_th; rw [eW j hj hne]
  have ne : ∀ j, zd_th ξ j = true → j ≠ k := fun j q e => by rw [e, hnt] at q; cases q
  have has : ∀ q j, q < 3 → zd_has ξ' q j = zd_has ξ q j := fun q j hq => by unfold zd_has; rw [(eS q hq).2.2.1, (eS q hq).2.2.2, eV q hq 3 (by decide)]
  have hV : ∀ q, q < 3 → zt_I ξ (zdV q) (Rs (3 + q)) (ts (3 + q)) := fun q hq => (h1.2.2.2.2.1 q hq).1.1
  have nok : ∀ q, q < 3 → ¬ zd_has ξ q k = true := fun q hq z => by
    obtain ⟨z1, z2⟩ := of_decide_eq_true z
    obtain ⟨a1, a2⟩ := h1.2.2.2.2.1 q hq
    obtain ⟨-, b2, b3⟩ := a2 z1
    rcases z2 with z2 | z2
    · have := (b3 k hk z2).1
      rw [hnt] at this
      cases this
    · by_cases c : k ∈ Rs (3 + q)
      · have : zd_th ξ k = true := decide_eq_true (of_decide_eq_true (b2 k c).1).1
        rw [hnt] at this
        cases this
      · rw [(hV q hq).2.2.2.2.1 k hk c] at z2
        exact z2 (by decide)
  have gC : ∀ c d, c ≠ 231 → d ≠ k → c < 239 → μ' c d = μ c d := fun c d r1 r2 r3 => g c d (by omega) (by omega) (by omega) (by omega) (by omega) (fun _ => ⟨zu_in_not (by omega), zu_in_not (by omega)⟩)
  have gS : ∀ c d, c = 232 ∨ c = 233 ∨ c = 251 ∨ c = 252 → μ' c d = μ c d := fun c d r => g c d (by omega) (by omega) (by omega) (by omega) (by omega) (fun _ => ⟨zu_in_not (by omega), zu_in_not (by omega)⟩)
  have hk0 : μ 234 k = 0 := (h2.1 k hk).1 hnt
  have g40 : ¬ μ' 234 k = 0 := by
    rw [g4]
    rcases kd4 with e | e | e | e <;> rw [e] <;> decide
  refine ⟨⟨fun x hx => ?_, fun q hq => ?_⟩, fun x hx a b => ?_, zv_ord_new h5 hk hk0 g40 (fun x hx => ?_) (fun e => ?_), hz, fun d hd => ?_, fun q hq => ?_⟩
  · by_cases e : x = k
    · subst e
      refine ⟨fun c => ?_, fun _ => ?_⟩
      · have : zd_th ξ' x = true := decide_eq_true (by rw [w2]; decide)
        rw [c] at this
        cases this
      · rw [w3, l0, l1, w4, g4]
        exact ⟨rfl, ⟨g5, g6⟩, fun _ => g7, fun z => (g8 z).trans (w5 z).symm⟩
    · rw [th x hx e, eW x hx e, eL x hx e, gC 234 x (by omega) e (by omega), gC 235 x (by omega) e (by omega), gC 236 x (by omega) e (by omega), gC 237 x (by omega) e (by omega), gC 238 x (by omega) e (by omega)]
      exact h2.1 x hx
  · rw [(eS q hq).1, (eS q hq).2.1, gS 232 q (by omega), gS 233 q (by omega)]
    exact h2.2 q hq
  · by_cases e : x = k
    · subst e
      rw [w3] at b
      obtain ⟨j, hj, q1, q2⟩ := ha.2.1 b
      have e' := ne j q2
      unfold zd_osc at hsc
      rw [if_pos b, q1, nI_clamp (by omega)] at hsc
      by_cases c : zd_sti ξ j = true
      · rw [if_pos c] at hsc
        exact (nI_ne_m1 (by omega) hsc.symm).elim
      · rw [if_neg c] at hsc
        refine ⟨j, hj, by rw [w4]; exact q1, ?_, ?_, fun q hq z => ?_⟩
        · rw [eW j hj e']
          exact fun z => c (decide_eq_true ⟨of_decide_eq_true q2, z⟩)
        · rw [eW j hj e', w5 (by rw [b]; decide)]
          exact hsc.symm
        · rw [has q _ hq] at z
          exact (nok q hq z).elim
    · rw [th x hx e] at a
      rw [eW x hx e] at b ⊢
      obtain ⟨o', ho, q1, q2, q3, q4⟩ := h3 x hx a b
      obtain ⟨-, -, -, w4', -⟩ := h1.2.2.1 x hx a
      obtain ⟨o2, ho', -, e2, e3⟩ := w4' b
      have eo := (nI_eq (by omega) (by omega)).mp (q1.symm.trans e2)
      subst eo
      have e' := ne o' e3
      refine ⟨o', ho, q1, by rw [eW o' ho e']; exact q2, by rw [eW o' ho e']; exact q3, fun q hq z => ?_⟩
      rw [has q _ hq] at z ⊢
      exact q4 q hq z
  · exact ⟨gC 234 x (by omega) hx (by omega), gC 237 x (by omega) hx (by omega)⟩
  · rw [g4] at e
    obtain ⟨j, hj, q1, q2⟩ := ha.2.1 e
    refine ⟨j, hj, g7.trans q1, ?_⟩
    rw [((h2.1 j hj).2 q2).1]
    rcases (h1.2.2.1 j hj q2).1 with z | z | z | z <;> rw [z] <;> decide
  · rw [gS 252 d (by omega)]
    exact h7.1 d hd
  · rw [gS 251 q (by omega), (eS q hq).2.2.1, (hR q hq).1, (hR q hq).2.1, (hR q hq).2.2]
    obtain ⟨a1, a2⟩ := h7.2 q hq
    refine ⟨a1, fun z => ?_⟩
    obtain ⟨b1, b2⟩ := a2 z
    have eq3 : zu_eqT μ (3 + q) μ' (3 + q) := zu_eq_in (fun c d r => g c d (fun z => zu_in_not (by omega) r) (fun z => zu_in_not (by omega) r) (fun z => zu_in_not (by omega) r) (fun z => zu_in_not (by omega) r) (fun z => zu_in_not (by omega) r) (fun _ => ⟨zu_in_ne r (by omega), zu_in_ne r (by omega)⟩))
    refine ⟨fun j hj => ?_, zs_cl (hV q hq) (zs_eqT (hV q hq) b2 eq3) (eV q hq 3 (by decide)) (eV q hq 7 (by decide)) (eV q hq 8 (by decide)) (eV q hq 12 (by decide))⟩
    rw [gS 252 _ (by omega), has q j hq]
    exact b1 j hj
/-- and has the focus -/
theorem zK_newf (h : zK ξ μ row stkC stk ord Rs ts us) (hk : k < 10) (hs : s < 3) (hnt : zd_th ξ k = false) (ha : zd_oarg ξ kd w v o) (hsc : zd_osc ξ row kd o = nI s) {ξ4 μ4 : zm_M} (f : zd_came ξ ξ4 k s kd w v o) (g : zv_cam μ μ4 k s kd w v o) (hz : ∀ q, q < 3 → zs ξ4 (zdT q) (Rs' q) (ts' q) μ4 q (us' q)) (hR : ∀ q, q < 3 → Rs' (3 + q) = Rs (3 + q) ∧ ts' (3 + q) = ts (3 + q) ∧ us' (3 + q) = us (3 + q)) (hI : ∀ q, q < 3 → zt_I ξ4 (zdT q) (Rs' q) (ts' q)) (hkR : kd = 1 → k ∈ Rs' s) (hJ : zJ ξ' (k :: row) stkC' Rs' ts') (ff : zd_foc ξ4 ξ' k) (gf : zv_foc μ4 μ' row stk us' k) : ∃ stk' ord', zK ξ' μ' (k :: row) stkC' stk' ord' Rs' ts' us' := by
  have h0 := zK0_came h hk hs hnt ha hsc f g hz hR
  obtain ⟨h1, h4, -⟩ := h
  obtain ⟨f, w2, w3, w4, w5, l0, l1⟩ := f
  obtain ⟨⟨g4, -⟩, -⟩ := g
  have hV : ∀ q, q < 3 → zt_I ξ4 (zdV q) (Rs' (3 + q)) (ts' (3 + q)) := fun q hq => by
    rw [(hR q hq).1, (hR q hq).2.1]
    exact (zt_C_19 (fun j hj => f _ (zJn_T hq hj).2 (by unfold zdV zdW; omega) (by unfold zdV zdW; omega) (fun _ => zJn_out hs (Or.inr (Or.inr (Or.inl ⟨q, hq, Or.inr (Or.inr (Or.inr (Or.inr ⟨j, hj, rfl⟩)))⟩))))) (h1.2.2.2.2.1 q hq).1).1
  have thk : zd_th ξ4 k = true := decide_eq_true (by rw [w2]; decide)
  have h0' := zK0_foc h0 hI hV hk thk (fun z => by
    have z2 := (of_decide_eq_true z).2
    rw [w3] at z2
    exact ⟨s, hs, w5 (by rw [z2]; decide), hkR z2⟩) ff gf
  obtain ⟨⟨stk', s1, s2, s3⟩, s4, -, -⟩ := gf
  have hkr : k ∉ row := fun z => by
    have := ((h1.1.2.2 k).mp z).2
    rw [hnt] at this
    cases this
  rw [List.erase_of_not_mem hkr] at s4
  refine ⟨stk', ord ++ [k], hJ, ⟨s4, s1, s2, fun x => ?_⟩, h0'⟩
  have eW' : ∀ x, x < 10 → ξ' (zdW x) = ξ4 (zdW x) := fun x hx => funext fun b => ff.1 _ b (by unfold zdW; omega) (by unfold zdW; omega) (by unfold zdW; omega) (by unfold zdW; omega) (fun ⟨_, s, hs, _, e, _⟩ => by unfold zdW zdT at e; omega)
  rw [s3 x, h4.2.2.2 x]
  have fk : zd_flo ξ k = false := by
    cases c : zd_flo ξ k with
    | false => rfl
    | true =>
      have : zd_th ξ k = true := decide_eq_true (of_decide_eq_true c).1
      rw [hnt] at this
      cases this
  by_cases e : x = k
  · subst e
    have e' : zd_flo ξ' x = true ↔ 2 ≤ μ4 234 x := by
      unfold zd_flo
      rw [eW' x hk, decide_eq_true_iff, w2, w3, g4]
      rcases zv_kd ha.1.1 with z | z | z | z <;> rw [z] <;> decide
    rw [e', fk]
    exact ⟨fun z => ⟨hk, z.elim (fun z => by cases z.2) (fun z => z.2)⟩, fun z => Or.inr ⟨rfl, z.2⟩⟩
  · have e' : x < 10 → zd_flo ξ' x = zd_flo ξ x := fun hx => by
      unfold zd_flo
      rw [eW' x hx, f _ (zJn_W hx).1 (fun z => e (zdW_inj z)) (by unfold zdW; omega) (fun _ => zJn_out hs (Or.inr (Or.inl ⟨x, hx, Or.inl rfl⟩)))]
    constructor
    · rintro (⟨a, b⟩ | ⟨a, -⟩)
      · exact ⟨a, by rw [e' a]; exact b⟩
      · exact absurd a e
    · rintro ⟨a, b⟩
      exact Or.inl ⟨a, by rw [← e' a]; exact b⟩
theorem zK_opn (h : zK ξ μ row stkC stk ord Rs ts us) (hJ : zJ ξ' row' stkC' Rs' ts') (f : zd_opn ξ ξ' row row' Rs Rs' ts ts' kd w v o) (g : zv_opn μ μ' row stk us kd w v o) : ∃ stkC'' stk' ord' us', zK ξ' μ' row' stkC'' stk' ord' Rs' ts' us' := by
  have hoa := zK_oarg (kd := kd) (w := w) (v := v) (o := o) h
  rcases f with ⟨f, rfl, rfl, rfl, rfl⟩ | ⟨ha, k, s, ξp, hk, hs, hnt, hmin, hsc, hth, hp, f⟩
  · rcases g with ⟨-, rfl⟩ | ⟨ga, k, s, M, hk, hs, hk0, -, gs, -⟩
    · exact ⟨_, _, _, _, h⟩
    · have ha := hoa.mpr ga
      rcases f with z | z | z
      · exact (z ha).elim
      · exact absurd hk0 ((zK_kind h hk).2.2.mp (z k hk))
      · rw [zK_osc h ha, gs] at z
        exact (nI_ne_m1 (by omega) z).elim
  · have ga := hoa.mp ha
    have hk0 : μ 234 k = 0 := (h.2.2.1.1 k hk).1 hnt
    have hsc' := hsc
    rw [zK_osc h ha] at hsc'
    rcases g with ⟨z, -⟩ | ⟨-, k', s', M, hk', hs', hk0', hmin', gs, hst, hM, g⟩
    · rcases z with z | z | z
      · exact (z ga).elim
      · exact (z k hk hk0).elim
      · rw [hsc'] at z
        exact (nI_ne_m1 (by omega) z).elim
    · have ek : k' = k := by
        rcases Nat.lt_trichotomy k' k with z | z | z
        · exact absurd hk0' ((zK_kind h hk').2.2.mp (hmin k' z))
        · exact z
        · exact absurd hk0 (hmin' k z)
      have es := (nI_eq (by omega) (by omega)).mp (gs.symm.trans hsc')
      subst ek
      subst es
      obtain ⟨m1, m2, m3⟩ := hM
      obtain ⟨p1, p2, p3, p4, p5, p6, p7⟩ := hp
      have hKp : zK ξp M row stkC stk ord Rs ts us := zK_free h hk hnt p2 p1 (fun c d r1 r2 r3 r4 r5 r6 => m3 c d (by omega) (by omega))
      have whole : zd_whole ξp (zdZ s') k' = true ↔ (w ≤ μ 232 s' ∧ v ≤ μ 233 s') := by
        obtain ⟨z0, z1⟩ := (h.2.2.1.2 s' hs).2 hth
        unfold zd_whole
        rw [decide_eq_true_iff, p5, p6, z0, z1, p1 (zdZ s') (zJn_S hs).2.1 (by unfold zdZ zdW; omega) (by unfold zdZ zdW; omega)]
      have hI : ∀ q, q < 3 → zt_I ξ (zdT q) (Rs q) (ts q) := fun q hq => (h.1.2.2.2.1 q hq).1.1
      have freef : ∀ {ν : zm_M}, (∀ c d, ¬ (c = 231 ∧ d = 30) → ¬ (255 ≤ c ∧ c ≤ 259) → ¬ zu_in 6 c d → ν c d = M c d) → ∀ c d, ¬ (c = 231 ∧ d = 30) → ¬ ((c = 235 ∨ c = 236) ∧ d = k') → c ≠ 239 → c ≠ 240 → ¬ (253 ≤ c ∧ c ≤ 261) → ¬ zu_in 6 c d → ν c d = μ c d := fun gg c d r1 r2 r3 r4 r5 r6 => (gg c d r1 (by omega) r6).trans (m3 c d (by omega) (by omega))
      -- the trees but the screen's
      have oth : ∀ {ξ4 μ4 : zm_M}, zd_came ξ ξ4 k' s' kd w v o → zv_cam μ μ4 k' s' kd w v o → ∀ q, q < 3 → (q ≠ s' ∨ ¬ kd = 1) → zs ξ4 (zdT q) (Rs q) (ts q) μ4 q (us q) ∧ zt_I ξ4 (zdT q) (Rs q) (ts q) := fun {ξ4 μ4} fc gc q hq hne => by
        have eT : ∀ j, j < 19 → ξ4 (zdT q + j) = ξ (zdT q + j) := fun j hj => fc.1 _ (zJn_T hq hj).1 (by unfold zdT zdW; omega) (by unfold zdT zdW; omega) (fun z => by
          have : q ≠ s' := hne.resolve_right (fun c => c z)
          unfold zt_out zdT; omega)
        have eu : zu_eqT μ q μ4 q := zu_eq_in (fun c d r => gc.2 c d (fun z => zu_in_not (by omega) r) (fun z => zu_in_not (by omega) r) (fun z => zu_in_not (by omega) r) (fun z => zu_in_not (by omega) r) (fun z => zu_in_not (by omega) r) (fun z => ⟨zu_in_ne r (by omega), zu_in_ne r (hne.resolve_right (fun c => c z))⟩))
        exact ⟨zs_cl (hI q hq) (zs_eqT (hI q hq) (h.2.2.2.2.2.1 q hq) eu) (eT 3 (by decide)) (eT 7 (by decide)) (eT 8 (by decide)) (eT 12 (by decide)), (zt_C_19 eT (h.1.2.2.2.1 q hq).1).1⟩
      have plain : ∀ {ξ4 μ4 : zm_M}, ¬ kd = 1 → zd_came ξ ξ4 k' s' kd w v o → zd_foc ξ4 ξ' k' → zv_cam μ μ4 k' s' kd w v o → zv_foc μ4 μ' row stk us k' → zJ ξ' (k' :: row) stkC' Rs ts → ∃ stkC'' stk' ord' us', zK ξ' μ' (k' :: row) stkC'' stk' ord' Rs ts us' := fun n1 fc ff gc gf hJ => by
        obtain ⟨stk', ord', z⟩ := zK_newf h hk hs hnt ha hsc fc gc (fun q hq => (oth fc gc q hq (Or.inr n1)).1) (fun _ _ => ⟨rfl, rfl, rfl⟩) (fun q hq => (oth fc gc q hq (Or.inr n1)).2) (fun z => absurd z n1) hJ ff gf
        exact ⟨_, _, _, _, z⟩
      rcases f with ⟨f, fr, fr2, rfl, rfl, rfl⟩ | ⟨f, rfl⟩
      · rcases g with ⟨g1, lo, ν3, b, u', hlo, htl, g⟩ | ⟨g1, g⟩
        · rcases f with ⟨-, ν3c, f⟩ | ⟨n1, -⟩
          · obtain ⟨e, -⟩ := zK_tl hKp hs (by rw [p1 _ (zJn_S hs).1 (by unfold zdS zdW; omega) (by unfold zdS zdW; omega)]; exact hth) hk (by unfold zd_th at *; rw [p2]; exact hnt) (p7 s' hs) ⟨m1.trans p5.symm, m2.trans p6.symm⟩ hlo f htl
            rcases g with ⟨-, g⟩ | ⟨e2, -⟩
            · exact ⟨_, _, _, _, zK_free h hk hnt fr2 fr (freef g)⟩
            · rw [e2] at e
              exact absurd e (by decide)
          · exact (n1 g1).elim
        · rcases f with ⟨z, -⟩ | ⟨-, n4, nw⟩
          · exact (g1 z).elim
          · rcases g with ⟨-, -, rfl⟩ | ⟨z, -⟩
            · exact ⟨_, _, _, _, zK_free h hk hnt fr2 fr (freef (fun _ _ _ _ _ => rfl))⟩
            · rcases z with z | z
              · exact (n4 z).elim
              · rw [whole.mpr z] at nw
                cases nw
      · rcases g with ⟨g1, lo, ν3, b, u', hlo, htl, g⟩ | ⟨g1, g⟩
        · rcases f with ⟨-, ν3c, ξ4, R', t', f, rfl, rfl, fc, e34, ff⟩ | ⟨n1, -⟩
          · obtain ⟨e, hz⟩ := zK_tl hKp hs (by rw [p1 _ (zJn_S hs).1 (by unfold zdS zdW; omega) (by unfold zdS zdW; omega)]; exact hth) hk (by unfold zd_th at *; rw [p2]; exact hnt) (p7 s' hs) ⟨m1.trans p5.symm, m2.trans p6.symm⟩ hlo f htl
            rcases g with ⟨e2, -⟩ | ⟨-, μ4, gc, eT, gf⟩
            · rw [e2] at e
              exact absurd e (by decide)
            · obtain ⟨z1, z2, z3⟩ := hz rfl
              have hI4 : zt_I ξ4 (zdT s') R' t' := (zt_C_19 (fun j _ => e34 j) z2).1
              have zs4 : zs ξ4 (zdT s') R' t' μ4 s' u' := zs_cl z2.1 (zs_eqT z2.1 z1 eT) (e34 3) (e34 7) (e34 8) (e34 12)
              have both : ∀ q, q < 3 → zs ξ4 (zdT q) (zd_upd Rs s' R' q) (zd_upd ts s' t' q) μ4 q (zd_upd us s' u' q) ∧ zt_I ξ4 (zdT q) (zd_upd Rs s' R' q) (zd_upd ts s' t' q) := fun q hq => by
                by_cases c : q = s'
                · subst c
                  rw [zd_upd_eq, zd_upd_eq, zd_upd_eq]
                  exact ⟨zs4, hI4⟩
                · rw [zd_upd_ne c, zd_upd_ne c, zd_upd_ne c]
                  exact oth fc gc q hq (Or.inl c)
              obtain ⟨stk', ord', z⟩ := zK_newf h hk hs hnt ha hsc fc gc (fun q hq => (both q hq).1) (fun q hq => ⟨zd_upd_ne (by omega), zd_upd_ne (by omega), zd_upd_ne (by omega)⟩) (fun q hq => (both q hq).2) (fun _ => by rw [zd_upd_eq]; exact z3) hJ ff gf
              exact ⟨_, _, _, _, z⟩
          · exact (n1 g1).elim
        · rcases f with ⟨z, -⟩ | ⟨n1, hw, rfl, rfl, ξ4, fc, ff⟩
          · exact (g1 z).elim
          · rcases g with ⟨n4, nw, -⟩ | ⟨-, μ4, gc, gf⟩
            · rcases hw with z | z
              · exact (n4 z).elim
              · exact (nw (whole.mp z)).elim
            · exact plain n1 fc ff gc gf hJ
end ZKP
