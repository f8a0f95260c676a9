/-! side by side: what open may be asked; a number that is free; the leaf at hand -/
section ZKO
variable {ξ μ ν νr ξ' μ' M : zm_M} {row stkC stk ord : List Nat} {Rs : Nat → List Nat} {ts us : Nat → zy_F} {R' : List Nat} {t' u' : zy_F} {lo : Nat → Nat} {s k n m : Nat} {b b' kd w v o : Int32}
theorem zK_oarg (h : zK ξ μ row stkC stk ord Rs ts us) : zd_oarg ξ kd w v o ↔ zv_oarg μ kd w v o := by
  have e : ∀ j, j < 10 → (zd_th ξ j = true ↔ ¬ μ 234 j = 0) := fun j hj => (zK_kind h hj).2.2
  unfold zd_oarg zv_oarg
  constructor
  · rintro ⟨a, b, c⟩
    refine ⟨a, fun z => ?_, c⟩
    obtain ⟨j, hj, q1, q2⟩ := b z
    exact ⟨j, hj, q1, (e j hj).mp q2⟩
  · rintro ⟨a, b, c⟩
    refine ⟨a, fun z => ?_, c⟩
    obtain ⟨j, hj, q1, q2⟩ := b z
    exact ⟨j, hj, q1, (e j hj).mpr q2⟩
/-- a screen is there on both sides -/
theorem zK_scn (h : zK ξ μ row stkC stk ord Rs ts us) {j : Nat} (hj : j < 3) : ¬ ξ (zdS j) 3 = 0 ↔ 0 < μ 232 j := by
  obtain ⟨q1, q2⟩ := h.2.2.1.2 j hj
  by_cases c : ξ (zdS j) 3 = 0
  · rw [(q1 c).1]
    exact ⟨fun z => absurd c z, fun z => absurd z (by decide)⟩
  · refine ⟨fun _ => ?_, fun _ => c⟩
    rw [(q2 c).1]
    have := (h.1.2.2.2.2.2 j hj c).1.1
    exact Int32.lt_of_lt_of_le (by decide) this
theorem nI_ne_m1 {j : Nat} (hj : j < 100) : ¬ nI j = -1 := fun e => by
  have : nI j < 0 := by rw [e]; decide
  exact nI_pos (by omega) this
theorem zK_lsb (h : zK ξ μ row stkC stk ord Rs ts us) : zd_lsb ξ (-1) = zv_lsb μ := by
  unfold zd_lsb zv_lsb
  refine zl_fi_congr 3 0 (fun j _ hj => ?_)
  rw [decide_eq_decide, ← zK_scn h (by omega : j < 3)]
  exact ⟨fun z => z.2, fun z => ⟨nI_ne_m1 (by omega), z⟩⟩
/-- a sticky window on both sides; the screen of the others -/
theorem zK_sti (h : zK ξ μ row stkC stk ord Rs ts us) {j : Nat} (hj : j < 10) (ht : zd_th ξ j = true) : (zd_sti ξ j = true ↔ μ 234 j = 4) ∧ (¬ μ 234 j = 4 → μ 238 j = ξ (zdW j) 5) := by
  obtain ⟨e1, -, -, e4⟩ := (h.2.2.1.1 j hj).2 ht
  rw [e1]
  exact ⟨⟨fun z => (of_decide_eq_true z).2, fun z => decide_eq_true ⟨of_decide_eq_true ht, z⟩⟩, e4⟩
theorem zK_sah (h : zK ξ μ row stkC stk ord Rs ts us) : ∀ l : List Nat, (∀ x ∈ l, x < 10 ∧ zd_th ξ x = true) → zd_sah ξ l = zv_sah μ l
  | [], _ => zK_lsb h
  | a :: l, hl => by
    obtain ⟨ha, ht⟩ := hl a (List.mem_cons_self ..)
    obtain ⟨q1, q2⟩ := zK_sti h ha ht
    show (if zd_sti ξ a = true then zd_sah ξ l else ξ (zdW a) 5) = (if μ 234 a = 4 then zv_sah μ l else μ 238 a)
    by_cases c : μ 234 a = 4
    · rw [if_pos c, if_pos (q1.mpr c)]
      exact zK_sah h l (fun x hx => hl x (List.mem_cons_of_mem _ hx))
    · rw [if_neg c, if_neg (fun z => c (q1.mp z)), q2 c]
theorem zK_osc (h : zK ξ μ row stkC stk ord Rs ts us) (ha : zd_oarg ξ kd w v o) : zd_osc ξ row kd o = zv_osc μ row kd o := by
  unfold zd_osc zv_osc
  by_cases c : kd = 3
  · rw [if_pos c, if_pos c]
    obtain ⟨j, hj, e, ht⟩ := ha.2.1 c
    rw [e, nI_clamp (by omega)]
    obtain ⟨q1, q2⟩ := zK_sti h hj ht
    by_cases c4 : μ 234 j = 4
    · rw [if_pos c4, if_pos (q1.mpr c4)]
    · rw [if_neg c4, if_neg (fun z => c4 (q1.mp z)), q2 c4]
  · rw [if_neg c, if_neg c]
    exact zK_sah h row (fun x hx => (h.1.1.2.2 x).mp hx)
/-- a number that no window has is nothing on both sides -/
theorem zK_free (h : zK ξ μ row stkC stk ord Rs ts us) (hk : k < 10) (hnt : zd_th ξ k = false) (w2 : ξ' (zdW k) 2 = ξ (zdW k) 2) (f : ∀ c, ¬ zJ_irr c → c ≠ zdW k → c ≠ zdW k + 1 → ξ' c = ξ c) (g : ∀ c d, ¬ (c = 231 ∧ d = 30) → ¬ ((c = 235 ∨ c = 236) ∧ d = k) → c ≠ 239 → c ≠ 240 → ¬ (253 ≤ c ∧ c ≤ 261) → ¬ zu_in 6 c d → μ' c d = μ c d) : zK ξ' μ' row stkC stk ord Rs ts us := by
  obtain ⟨h1, h4, h2, h3, h5, h6, h7⟩ := h
  have eW : ∀ j, j < 10 → j ≠ k → ξ' (zdW j) = ξ (zdW j) := fun j hj hne => f _ (zJn_W hj).1 (fun e => hne (zdW_inj e)) (by unfold zdW; omega)
  have eL : ∀ j, j < 10 → j ≠ k → ξ' (zdW j + 1) = ξ (zdW j + 1) := fun j hj hne => f _ (zJn_W hj).2 (by unfold zdW; omega) (by unfold zdW; omega)
  have eT : ∀ q, q < 3 → ∀ j, j < 19 → ξ' (zdT q + j) = ξ (zdT q + j) := fun q hq j hj => f _ (zJn_T hq hj).1 (by unfold zdT zdW; omega) (by unfold zdT zdW; omega)
  have eV : ∀ q, q < 3 → ∀ j, j < 19 → ξ' (zdV q + j) = ξ (zdV q + j) := fun q hq j hj => f _ (zJn_T hq hj).2 (by unfold zdV zdW; omega) (by unfold zdV zdW; omega)
  have eS : ∀ q, q < 3 → ξ' (zdS q) = ξ (zdS q) ∧ ξ' (zdZ q) = ξ (zdZ q) ∧ ξ' (zdK q) = ξ (zdK q) ∧ ξ' (zdQ q) = ξ (zdQ q) := fun q hq => ⟨f _ (zJn_S hq).1 (by unfold zdS zdW; omega) (by unfold zdS zdW; omega), f _ (zJn_S hq).2.1 (by unfold zdZ zdW; omega) (by unfold zdZ zdW; omega), f _ (zJn_S hq).2.2.1 (by unfold zdK zdW; omega) (by unfold zdK zdW; omega), f _ (zJn_S hq).2.2.2 (by unfold zdQ zdW; omega) (by unfold zdQ zdW; omega)⟩
  have thk : zd_th ξ' k = false := by
    unfold zd_th at *
    rw [w2]
    exact hnt
  have th : ∀ j, j < 10 → zd_th ξ' j = zd_th ξ j := fun j hj => by
    by_cases e : j = k
    · rw [e, thk, hnt]
    · unfold zd_th; rw [eW j hj e]
  have ne : ∀ j, zd_th ξ j = true → j ≠ k := fun j q e => by rw [e, hnt] at q; cases q
  have has : ∀ q j, q < 3 → zd_has ξ' q j = zd_has ξ q j := fun q j hq => by unfold zd_has; rw [(eS q hq).2.2.1, (eS q hq).2.2.2, eV q hq 3 (by decide)]
  have g4 : ∀ c d, c = 231 ∧ d ≠ 30 ∨ (232 ≤ c ∧ c ≤ 234) ∨ c = 237 ∨ c = 238 ∨ c = 241 ∨ c = 242 ∨ c = 251 ∨ c = 252 → μ' c d = μ c d := fun c d r => g c d (by omega) (by omega) (by omega) (by omega) (by omega) (zu_in_not (by omega))
  have gT : ∀ q, q < 6 → zu_eqT μ q μ' q := fun q hq => zu_eq_in (fun c d r => g c d (fun z => zu_in_not (by omega) r) (fun z => zu_in_not (by omega) r) (fun z => zu_in_not (by omega) r) (fun z => zu_in_not (by omega) r) (fun z => zu_in_not (by omega) r) (zu_in_ne r (by omega)))
  have hI : ∀ q, q < 3 → zt_I ξ (zdT q) (Rs q) (ts q) := fun q hq => (h1.2.2.2.1 q hq).1.1
  have hV : ∀ q, q < 3 → zt_I ξ (zdV q) (Rs (3 + q)) (ts (3 + q)) := fun q hq => (h1.2.2.2.2.1 q hq).1.1
  refine ⟨zJ_free h1 hk hnt w2 f, ⟨⟨h4.1.1, (g4 _ _ (by omega)).trans h4.1.2.1, fun j hj => (g4 _ _ (by omega)).trans (h4.1.2.2 j hj)⟩, ⟨h4.2.1.1, (g4 _ _ (by omega)).trans h4.2.1.2.1, fun j hj => (g4 _ _ (by omega)).trans (h4.2.1.2.2 j hj)⟩, h4.2.2.1, fun x => ?_⟩, ⟨fun x hx => ?_, fun q hq => ?_⟩, fun x hx a b => ?_, ⟨h5.1, fun x => ?_, fun x hx a => ?_⟩, fun q hq => ?_, fun d hd => ?_, fun q hq => ?_⟩
  · rw [h4.2.2.2 x]
    refine and_congr_right (fun hx => ?_)
    by_cases e : x = k
    · subst e
      have n1 : ∀ A : zm_M, zd_th A x = false → ¬ zd_flo A x = true := fun A c z => by
        have : zd_th A x = true := decide_eq_true (of_decide_eq_true z).1
        rw [c] at this
        cases this
      exact ⟨fun z => absurd z (n1 _ hnt), fun z => absurd z (n1 _ thk)⟩
    · unfold zd_flo
      rw [eW x hx e]
  · rw [th x hx, g4 234 x (by omega)]
    refine ⟨(h2.1 x hx).1, fun c => ?_⟩
    have e := ne x c
    rw [eW x hx e, eL x hx e, g 235 x (by omega) (by omega) (by omega) (by omega) (by omega) (zu_in_not (by omega)), g 236 x (by omega) (by omega) (by omega) (by omega) (by omega) (zu_in_not (by omega)), g4 237 x (by omega), g4 238 x (by omega)]
    exact (h2.1 x hx).2 c
  · rw [(eS q hq).1, (eS q hq).2.1, g4 232 q (by omega), g4 233 q (by omega)]
    exact h2.2 q hq
  · rw [th x hx] at a
    have e := ne x a
    rw [eW x hx e] at b ⊢
    obtain ⟨o, ho, q1, q2, q3, q4⟩ := h3 x hx a b
    obtain ⟨-, -, -, w4, -⟩ := h1.2.2.1 x hx a
    obtain ⟨o', ho', -, e2, e3⟩ := w4 b
    have eo := (nI_eq (by omega) (by omega)).mp (q1.symm.trans e2)
    subst eo
    have e' := ne o e3
    refine ⟨o, ho, q1, by rw [eW o ho e']; exact q2, by rw [eW o ho e']; exact q3, fun q hq z => ?_⟩
    rw [has q _ hq] at z ⊢
    exact q4 q hq z
  · rw [g4 234 x (by omega)]
    exact h5.2.1 x
  · rw [g4 234 x (by omega)] at a
    rw [g4 237 x (by omega)]
    exact h5.2.2 x hx a
  · exact zs_cl (hI q hq) (zs_eqT (hI q hq) (h6 q hq) (gT q (by omega))) (eT q hq 3 (by decide)) (eT q hq 7 (by decide)) (eT q hq 8 (by decide)) (eT q hq 12 (by decide))
  · rw [g4 252 d (by omega)]
    exact h7.1 d hd
  · rw [g4 251 q (by omega), (eS q hq).2.2.1]
    obtain ⟨a1, a2⟩ := h7.2 q hq
    refine ⟨a1, fun z => ?_⟩
    obtain ⟨b1, b2⟩ := a2 z
    refine ⟨fun j hj => ?_, zs_cl (hV q hq) (zs_eqT (hV q hq) b2 (gT (3 + q) (by omega))) (eV q hq 3 (by decide)) (eV q hq 7 (by decide)) (eV q hq 8 (by decide)) (eV q hq 12 (by decide))⟩
    rw [g4 252 _ (by omega), has q j hq]
    exact b1 j hj
/-- the leaf at hand is a tab's leaf, on both sides the same tab's -/
theorem zK_lah (h : zK ξ μ row stkC stk ord Rs ts us) (hs : s < 3) : ∀ l : List Nat, (∀ x ∈ l, x < 10) → (zd_lah ξ (zdT s) (ts s) l = zd_lah ξ (zdT s) (ts s) [] ∧ zv_lah μ s lo l = -1 ∧ ∀ x ∈ l, x ∉ Rs s) ∨ ∃ x, x ∈ l ∧ x ∈ Rs s ∧ zd_lah ξ (zdT s) (ts s) l = ξ (zdT s + 3) x ∧ zv_lah μ s lo l = nI (lo x)
  | [], _ => Or.inl ⟨rfl, rfl, fun x hx => by cases hx⟩
  | a :: l, hl => by
    have ha := hl a (List.mem_cons_self ..)
    obtain ⟨q1, q2, q3⟩ := zK_kind h ha
    have hI := (h.1.2.2.2.1 s hs).1.1
    have hR := (h.1.2.2.2.1 s hs).2.1 a
    have E1 : zd_lah ξ (zdT s) (ts s) (a :: l) = if ξ (zdT s + 3) a < 0 then zd_lah ξ (zdT s) (ts s) l else ξ (zdT s + 3) a := rfl
    have E2 : zv_lah μ s lo (a :: l) = if μ 234 a = 1 ∧ μ 238 a = nI s then nI (lo a) else zv_lah μ s lo l := rfl
    by_cases c : a ∈ Rs s
    · obtain ⟨-, c2, c3⟩ := hR.mp c
      obtain ⟨n, hn, en⟩ := hI.2.2.2.1 a c
      have : ¬ ξ (zdT s + 3) a < 0 := by rw [en]; exact nI_pos (by have := (zt_I_lvn hI).2 n hn; omega)
      exact Or.inr ⟨a, List.mem_cons_self .., c, by rw [E1, if_neg this], by rw [E2, if_pos ⟨q1.mp c2, (q2 c2).trans c3⟩]⟩
    · have c1 : ξ (zdT s + 3) a < 0 := by rw [hI.2.2.2.2.1 a ha c]; decide
      have c2 : ¬ (μ 234 a = 1 ∧ μ 238 a = nI s) := fun ⟨z1, z2⟩ => c (hR.mpr ⟨ha, q1.mpr z1, (q2 (q1.mpr z1)).symm.trans z2⟩)
      rcases zK_lah h hs l (fun x hx => hl x (List.mem_cons_of_mem _ hx)) with ⟨e1, e2, e3⟩ | ⟨x, hx, e1, e2, e3⟩
      · refine Or.inl ⟨by rw [E1, if_pos c1]; exact e1, by rw [E2, if_neg c2]; exact e2, fun x hx => ?_⟩
        rcases List.mem_cons.mp hx with rfl | hx
        · exact c
        · exact e3 x hx
      · exact Or.inr ⟨x, List.mem_cons_of_mem _ hx, e1, by rw [E1, if_pos c1]; exact e2, by rw [E2, if_neg c2]; exact e3⟩
/-- tile on both sides -/
theorem zK_tl (h : zK ξ M row stkC stk ord Rs ts us) (hs : s < 3) (hth : ¬ ξ (zdS s) 3 = 0) (hk : k < 10) (hnt : zd_th ξ k = false) (hl : zd_laid ξ s (Rs s) (ts s)) (hkz : M 235 k = ξ (zdW k + 1) 0 ∧ M 236 k = ξ (zdW k + 1) 1) (hlo : zv_los M us lo) (f : zd_tld ξ ν s k row (Rs s) (ts s) b R' t') (g : zv_tl M νr row (us s) s k lo b' u') : b = b' ∧ (b = 1 → zs ν (zdT s) R' t' νr s u' ∧ zt_C ν (zdT s) R' t' ∧ k ∈ R') := by
  have h0 := h
  obtain ⟨h1, -, h2, -, -, h6, -⟩ := h
  have hI := (h1.2.2.2.1 s hs).1.1
  have hz := h6 s hs
  have hsz := zK_sz h0 hs
  obtain ⟨z0, z1⟩ := (h2.2 s hs).2 hth
  have hkR : k ∉ Rs s := fun z => by
    have := (((h1.2.2.2.1 s hs).2.1 k).mp z).2.1
    have : zd_th ξ k = true := decide_eq_true (of_decide_eq_true this).1
    rw [hnt] at this
    cases this
  have hrow : ∀ x ∈ row, x < 10 := fun x hx => ((h1.1.2.2 x).mp hx).1
  have hRrow : ∀ x ∈ Rs s, x ∈ row := fun x hx => by
    obtain ⟨a, b, -⟩ := ((h1.2.2.2.1 s hs).2.1 x).mp hx
    exact (h1.1.2.2 x).mpr ⟨a, decide_eq_true (of_decide_eq_true b).1⟩
  rcases f with ⟨e, f, f2⟩ | ⟨n, hn, en, f, f2⟩
  · rw [e] at hI hz
    have hR0 := zt_I_nil hI
    have lv : ∀ m, m ∈ zy_lvs (us s) → False := fun m hm => by
      rw [(zs_nil_l hI hz).mp rfl] at hm
      cases hm
    rcases g with ⟨-, g⟩ | ⟨m, μ1, -, hm, -⟩
    · obtain ⟨p1, p2⟩ := zK_tl0 hs hk hkz z0.symm z1.symm f f2 g
      refine ⟨p1, fun z => ⟨p2 z, ?_⟩⟩
      obtain ⟨n, rfl, rfl, w⟩ := f2 z
      exact ⟨w.1, List.mem_singleton.mpr rfl⟩
    · exact (lv m hm).elim
  · rcases zK_lah (lo := lo) h0 hs row hrow with ⟨-, -, q3⟩ | ⟨x, hx, hxR, q1, q2⟩
    · obtain ⟨w, hw, -⟩ := hI.2.2.2.2.2 n hn
      exact (q3 w (hRrow w hw) hw).elim
    · obtain ⟨hx10, hxt, hxs⟩ := ((h1.2.2.2.1 s hs).2.1 x).mp hxR
      obtain ⟨k1, k2, k3⟩ := zK_kind h0 hx10
      have hat := hlo s x hs hx10 (k1.mp hxt) ((k2 hxt).trans hxs)
      obtain ⟨abu, hIu⟩ := hz.2
      rcases g with ⟨gl, -⟩ | ⟨m, μ1, gl, hm, fY, hv, g⟩
      · rw [gl] at q2
        exact (nI_ne_m1 (by have := zu_I_lt hIu hat.1; omega) q2.symm).elim
      · have em := (nI_eq (by have := zu_I_lt hIu hm; omega) (by have := zu_I_lt hIu hat.1; omega)).mp (gl.symm.trans q2)
        rw [← em] at hat
        obtain ⟨n', hn', en', p, x', y', W, V, P1, P2, hW, hV⟩ := zK_areas h0 hs hth hl hv hxR hat
        have enn := (nI_eq (by have := (zt_I_lvn hI).2 n hn; omega) (by have := (zt_I_lvn hI).2 n' hn'; omega)).mp (en.symm.trans (q1.trans en'))
        subst enn
        have fr := fY.fr
        have hax : (if ξ (zdT s + 23) n ≤ ξ (zdT s + 22) n then 0 else 1) = (if decide (¬ μ1 257 m < μ1 258 m) = true then 0 else 1) := by
          obtain ⟨-, -, a1, a2⟩ := P1
          obtain ⟨-, -, a3, a4⟩ := P2
          rw [a1, a2, a3, a4]
          by_cases c : nI V ≤ nI W
          · rw [if_pos c, if_pos (decide_eq_true (Int32.not_lt.mpr c))]
          · rw [if_neg c, if_neg (fun z => c (Int32.not_lt.mp (of_decide_eq_true z)))]
        have cell : ∀ c d, c < 239 → ¬ (c = 231 ∧ d = 30) → μ1 c d = M c d := fun c d r1 r2 => fY c d r2 (by omega)
        obtain ⟨p1, p2⟩ := zK_tlN hs hk hkR hI (zs_eqT hI hz fr.eqT) hn hm (zs_pl_eqT hIu hm fr.eqT p) (zs_szF hsz (fun c d r => cell c d (by omega) (by omega))) ⟨(cell _ _ (by omega) (by omega)).trans hkz.1, (cell _ _ (by omega) (by omega)).trans hkz.2⟩ (z0.symm.trans (cell _ _ (by omega) (by omega)).symm) (z1.symm.trans (cell _ _ (by omega) (by omega)).symm) hax f f2 g
        refine ⟨p1, fun z => ⟨p2 z, ?_⟩⟩
        obtain ⟨rfl, hh⟩ := f2 z
        rcases hh with ⟨a', c', f', ha', rfl, w⟩ | ⟨rfl, w⟩
        · exact ⟨w.1, List.mem_append_right _ (List.mem_singleton.mpr rfl)⟩
        · exact ⟨w.1, List.mem_append_right _ (List.mem_singleton.mpr rfl)⟩
end ZKO
