/-! side by side: what comes back with a screen -/
section ZKW0
variable {dl : Nat → Bool} {ow : Nat → Nat} {g g' : Nat → Bool}
theorem zl_sp1_g (ho : ∀ j, j < 10 → dl j = true → ow j < 10) (h : ∀ j, j < 10 → g j = g' j) : ∀ n, n ≤ 10 → ∀ j, j < 10 → zl_sp1 dl ow g n j = zl_sp1 dl ow g' n j
  | 0, _, j, hj => h j hj
  | n + 1, hn, j, hj => by
    rw [zl_sp1_s, zl_sp1_s]
    have ih := zl_sp1_g ho h n (by omega)
    by_cases c : j = n
    · rw [if_pos c, if_pos c, ih n (by omega)]
      cases d : dl n with
      | false => rfl
      | true => rw [ih (ow n) (ho n (by omega) d)]
    · rw [if_neg c, if_neg c]
      exact ih j hj
theorem zl_spn_g (ho : ∀ j, j < 10 → dl j = true → ow j < 10) (h : ∀ j, j < 10 → g j = g' j) : ∀ m j, j < 10 → zl_spn dl ow g m j = zl_spn dl ow g' m j
  | 0, j, hj => h j hj
  | m + 1, j, hj => zl_sp1_g ho (zl_spn_g ho h m) 10 (Nat.le_refl _) j hj
end ZKW0
section ZKW
variable {ξ μ ν ξ' μ' ξn M : zm_M} {row stkC stk ord : List Nat} {Rs Rs' : Nat → List Nat} {ts ts' us : Nat → zy_F} {s q j i o : Nat} {w x y : Int32}
theorem zd_dl_congr (e : ∀ j, j < 10 → ξn (zdW j) = ξ (zdW j)) (hj : j < 10) : zd_dl ξn j = zd_dl ξ j ∧ zd_ow ξn j = zd_ow ξ j := by
  have eo : zd_ow ξn j = zd_ow ξ j := by unfold zd_ow; rw [e j hj]
  refine ⟨?_, eo⟩
  unfold zd_dl
  rw [decide_eq_decide, e j hj, eo]
  refine and_congr_right fun _ => and_congr_right fun ⟨a, b⟩ => ?_
  have : zd_ow ξ j < 10 := by
    have h10 : nI 10 = (10 : Int32) := by decide
    rcases zd_rng (ξ (zdW j) 4) 10 (by decide) with ⟨i, hi, c⟩ | c | c
    · unfold zd_ow
      rw [c, nI_clamp (by omega)]
      exact hi
    · exact (a c).elim
    · rw [h10] at c
      exact (b c).elim
  rw [e _ this]
/-- what is kept is there; what is kept and tiled is in the tree that is kept -/
theorem zJ_hasK (h : zJ ξ row stkC Rs ts) (hq : q < 3) (hj : j < 10) (hh : zd_has ξ q j = true) : zd_th ξ j = true ∧ (zd_til ξ j = true → j ∈ Rs (3 + q)) := by
  obtain ⟨z1, z2⟩ := of_decide_eq_true hh
  obtain ⟨a1, a2⟩ := h.2.2.2.2.1 q hq
  obtain ⟨-, b2, b3⟩ := a2 z1
  rcases z2 with z2 | z2
  · obtain ⟨c1, c2, -⟩ := b3 j hj z2
    exact ⟨c1, fun z => absurd (of_decide_eq_true z).2 c2⟩
  · by_cases c : j ∈ Rs (3 + q)
    · exact ⟨decide_eq_true (of_decide_eq_true (b2 j c).1).1, fun _ => c⟩
    · rw [a1.1.2.2.2.2.1 j hj c] at z2
      exact absurd (by decide) z2
theorem zJ_kept (h : zJ ξ row stkC Rs ts) (hq : q < 3) (hk : ¬ ξ (zdK q) 3 = 0) (hj : j ∈ Rs (3 + q)) : j < 10 ∧ zd_has ξ q j = true ∧ zd_til ξ j = true := by
  obtain ⟨a1, a2⟩ := h.2.2.2.2.1 q hq
  have h10 := a1.1.1.2.2 j hj
  obtain ⟨n, hn, en⟩ := a1.1.2.2.2.1 j hj
  exact ⟨h10, decide_eq_true ⟨hk, Or.inr (by rw [en]; exact nI_pos (by have := (zt_I_lvn a1.1).2 n hn; omega))⟩, ((a2 hk).2.1 j hj).1⟩
theorem zK_dlo (h : zK ξ μ row stkC stk ord Rs ts us) : ∀ j, j < 10 → zd_dl ξ j = true → zd_ow ξ j < 10 := fun j hj z => ((zK_dl h j hj).2 z).2.1
/-- the group that comes back is closed -/
theorem zK_bcl (h : zK ξ μ row stkC stk ord Rs ts us) (hi : i < 10) (hd : zd_dl ξ i = true) (hg : zd_bgr ξ s (zd_ow ξ i) = true) : zd_bgr ξ s i = true := by
  by_cases c : ∃ w, w < 10 ∧ zd_has ξ s w = true
  · obtain ⟨w, hw, hh⟩ := c
    exact zl_spn_cl hw hh i hi hd hg
  · have := zl_spn_min (dl := zd_dl ξ) (ow := zd_ow ξ) (g := zd_has ξ s) (X := fun j => decide (10 ≤ j)) (fun j hj hdj hX => by
      have := zK_dlo h j hj hdj
      have := of_decide_eq_true hX
      omega) (fun j hj => decide_eq_true (by
      refine Nat.le_of_not_lt fun hlt => c ⟨j, hlt, hj⟩)) 10 _ hg
    have := of_decide_eq_true this
    have := zK_dlo h i hi hd
    omega
theorem zK_bow (h : zK ξ μ row stkC stk ord Rs ts us) (hs : s < 3) (hj : j < 10) (ht : zd_th ξ j = true) (h3 : ξ (zdW j) 3 = 3) (ho : o < 10) (e : ξ (zdW j) 4 = nI o) : zd_bgr ξ s j = zd_bgr ξ s o := by
  have hd := zK_dl h
  obtain ⟨e4, -, e7, -⟩ := (h.2.2.1.1 j hj).2 ht
  have eo : zd_ow ξ j = o := by
    unfold zd_ow
    rw [e, nI_clamp (by omega)]
  have hdl : zd_dl ξ j = true := (hd j hj).1.trans (decide_eq_true (e4.trans h3))
  have a1 : zd_bgr ξ s o = true → zd_bgr ξ s j = true := fun z => zK_bcl h hj hdl (by rw [eo]; exact z)
  have a2 : zd_bgr ξ s j = true → zd_bgr ξ s o = true := fun z => by
    have key := zl_spn_min (dl := zd_dl ξ) (ow := zd_ow ξ) (g := zd_has ξ s) (X := fun i => zd_has ξ s i || (zd_dl ξ i && zd_bgr ξ s (zd_ow ξ i))) (fun i hi hdl hX => ?_) (fun i hi => by rw [hi]; rfl) 10 j z
    · rw [eo] at key
      rcases Bool.or_eq_true_iff.mp key with c | c
      · obtain ⟨o', ho', q1, -, -, q4⟩ := h.2.2.2.1 j hj ht h3
        have := (nI_eq (by omega) (by omega)).mp (q1.symm.trans e)
        subst this
        exact zl_spn_mono 10 _ (q4 s hs c)
      · exact (Bool.and_eq_true_iff.mp c).2
    · have : zd_bgr ξ s (zd_ow ξ i) = true := by
        rcases Bool.or_eq_true_iff.mp hX with c | c
        · exact zl_spn_mono 10 _ c
        · obtain ⟨c1, c2⟩ := Bool.and_eq_true_iff.mp c
          exact zK_bcl h (zK_dlo h i hi hdl) c1 c2
      rw [hdl, this]
      exact Bool.or_true _
  cases c : zd_bgr ξ s o with
  | true => exact a1 c
  | false =>
    cases c2 : zd_bgr ξ s j with
    | false => rfl
    | true => rw [a2 c2] at c; cases c
theorem zd_new_row (hs : s < 3) (hn : zd_new ξ ξn s x y) : (∀ j, j < 10 → ξn (zdW j) = ξ (zdW j) ∧ ξn (zdW j + 1) = ξ (zdW j + 1)) ∧ (∀ q, q < 3 → ∀ j, j < 24 → ξn (zdT q + j) = ξ (zdT q + j) ∧ ξn (zdV q + j) = ξ (zdV q + j)) ∧ (∀ q, q < 3 → ξn (zdK q) = ξ (zdK q) ∧ ξn (zdQ q) = ξ (zdQ q)) ∧ ∀ q, q < 3 → q ≠ s → ξn (zdS q) = ξ (zdS q) ∧ ξn (zdZ q) = ξ (zdZ q) := by
  obtain ⟨f, -⟩ := hn
  refine ⟨fun j hj => ⟨funext fun d => ?_, funext fun d => ?_⟩, fun q hq j hj => ⟨funext fun d => ?_, funext fun d => ?_⟩, fun q hq => ⟨funext fun d => ?_, funext fun d => ?_⟩, fun q hq hne => ⟨funext fun d => ?_, funext fun d => ?_⟩⟩
  · exact f _ _ (by unfold zdW; omega) (by unfold zdW zdZ; omega) (by unfold zdW zdS; omega)
  · exact f _ _ (by unfold zdW; omega) (by unfold zdW zdZ; omega) (by unfold zdW zdS; omega)
  · exact f _ _ (by unfold zdT; omega) (by unfold zdT zdZ; omega) (by unfold zdT zdS; omega)
  · exact f _ _ (by unfold zdV; omega) (by unfold zdV zdZ; omega) (by unfold zdV zdS; omega)
  · exact f _ _ (by unfold zdK; omega) (by unfold zdK zdZ; omega) (by unfold zdK zdS; omega)
  · exact f _ _ (by unfold zdQ; omega) (by unfold zdQ zdZ; omega) (by unfold zdQ zdS; omega)
  · exact f _ _ (by unfold zdS; omega) (by unfold zdS zdZ; omega) (by unfold zdS; omega)
  · exact f _ _ (by unfold zdZ; omega) (by unfold zdZ; omega) (by unfold zdZ zdS; omega)
theorem zd_new_bgr (h : zK ξ μ row stkC stk ord Rs ts us) (hs : s < 3) (hn : zd_new ξ ξn s x y) : zd_has ξn s = zd_has ξ s ∧ zd_bgr ξn s = zd_bgr ξ s := by
  obtain ⟨r1, r2, r3, r4⟩ := zd_new_row hs hn
  have e1 : zd_has ξn s = zd_has ξ s := funext fun j => by
    unfold zd_has
    rw [(r3 s hs).1, (r3 s hs).2, (r2 s hs 3 (by decide)).2]
  refine ⟨e1, ?_⟩
  unfold zd_bgr
  rw [e1]
  exact zl_spn_congr (fun n hn => ⟨(zd_dl_congr (fun j hj => (r1 j hj).1) hn).1, fun _ => (zd_dl_congr (fun j hj => (r1 j hj).1) hn).2⟩) 10
theorem zK_back (h : zK ξ μ row stkC stk ord Rs ts us) (hs : s < 3) (hk : ¬ ξ (zdK s) 3 = 0) (eM : ∀ d, M 252 d = μ 252 d) (hj : j < 10) : zd_bgr ξ s j = zv_back M (zv_dlg μ) (zv_own μ) s j := by
  unfold zd_bgr zv_back
  rw [← zK_spn h]
  refine zl_spn_g (zK_dlo h) (fun i hi => ?_) 10 j hj
  have := ((h.2.2.2.2.2.2.2 s hs).2 hk).1 i hi
  rw [eM]
  cases c : zd_has ξ s i with
  | true => exact (decide_eq_true (this.mpr c)).symm
  | false => exact (decide_eq_false (fun z => by rw [this.mp z] at c; cases c)).symm
theorem zK_bth (h : zK ξ μ row stkC stk ord Rs ts us) (hs : s < 3) (hj : j < 10) (hg : zd_bgr ξ s j = true) : zd_th ξ j = true ∧ (zd_til ξ j = true → zd_has ξ s j = true) := by
  rcases zl_spn_or 10 j hg with c | c
  · exact ⟨(zJ_hasK h.1 hs hj c).1, fun _ => c⟩
  · obtain ⟨-, -, -, -, c5, c6⟩ := (zK_dl h j hj).2 c
    refine ⟨c5, fun z => ?_⟩
    have := (of_decide_eq_true z).2
    rw [c6] at this
    exact absurd this (by decide)
/-- all comes back on both sides or nothing does -/
theorem zK_bk (h : zK ξ μ row stkC stk ord Rs ts us) (hs : s < 3) (hk : ¬ ξ (zdK s) 3 = 0) (hn : zd_new ξ ξn s x y) (hM : zv_nw μ M s x y) : (zt_fit ξn (zdV s) (zdZ s) (Rs (3 + s)) (ts (3 + s)) = true ∧ zl_al (zd_gwf ξn (zd_bgr ξn s) (zdZ s)) 10 = true) ↔ zv_bk M us (zv_dlg μ) (zv_own μ) s = true := by
  obtain ⟨r1, r2, r3, r4⟩ := zd_new_row hs hn
  obtain ⟨-, -, n3, n4⟩ := id hn
  obtain ⟨⟨m1, m2⟩, -, mf⟩ := id hM
  have mC : ∀ c d, 234 ≤ c → (c < 243 ∨ 250 < c) → M c d = μ c d := fun c d a b => mf c d (by omega) (by omega) (zu_in_not (by omega))
  obtain ⟨a1, a2⟩ := h.1.2.2.2.2.1 s hs
  obtain ⟨-, b2, -⟩ := a2 hk
  obtain ⟨k1, k2⟩ := (h.2.2.2.2.2.2.2 s hs).2 hk
  have tM : zu_eqT μ (3 + s) M (3 + s) := zu_eq_in (fun c d r => mf c d (fun z => zu_in_not (by omega) r) (fun z => zu_in_not (by omega) r) (zu_in_ne r (by omega)))
  have zn : zs ξn (zdV s) (Rs (3 + s)) (ts (3 + s)) M (3 + s) (us (3 + s)) := zs_cl a1.1 (zs_eqT a1.1 k2 tM) (r2 s hs 3 (by decide)).2 (r2 s hs 7 (by decide)).2 (r2 s hs 8 (by decide)).2 (r2 s hs 12 (by decide)).2
  have hIn : zt_I ξn (zdV s) (Rs (3 + s)) (ts (3 + s)) := (zt_C_19 (fun j hj => (r2 s hs j (by omega)).2) a1).1
  have hsz : zs_sz ξn (zdV s) (Rs (3 + s)) M := fun a ha w hw => by
    obtain ⟨c1, c2, c3⟩ := b2 w hw
    obtain ⟨hw10, -, -⟩ := zJ_kept h.1 hs hk hw
    obtain ⟨-, ⟨e5, e6⟩, -⟩ := (h.2.2.1.1 w hw10).2 (decide_eq_true (of_decide_eq_true c1).1)
    rw [mC _ _ (by omega) (by omega), Nat.add_assoc, (r2 s hs (5 + a) (by omega)).2]
    rcases (by omega : a = 0 ∨ a = 1) with rfl | rfl
    · exact e5.trans c2.symm
    · exact e6.trans c3.symm
  have hfit := zs_fit hIn zn hsz (z := zdZ s) (n3.trans m1.symm) (n4.trans m2.symm)
  unfold zv_bk
  rw [zv_gd_iff, ← hfit, zl_al_iff, (zd_new_bgr h hs hn).2]
  refine and_congr_right fun _ => forall_congr' fun j => imp_congr_right fun hj => ?_
  have eW := (r1 j hj).1
  have eL := (r1 j hj).2
  unfold zd_gwf zv_room
  rw [← zK_back h hs hk (fun d => mC 252 d (by decide) (by decide)) hj]
  cases c : zd_bgr ξ s j with
  | false => exact ⟨fun _ => rfl, fun _ => rfl⟩
  | true =>
    have t := (zK_bth h hs hj c).1
    obtain ⟨e4, ⟨e5, e6⟩, -⟩ := (h.2.2.1.1 j hj).2 t
    have ew : zd_whole ξn (zdZ s) j = decide (M 235 j ≤ M 232 s ∧ M 236 j ≤ M 233 s) := by
      unfold zd_whole
      rw [eL, n3, n4, mC 235 j (by decide) (by decide), mC 236 j (by decide) (by decide), e5, e6, m1, m2]
    have ef : zd_flo ξn j = !decide (M 234 j = 1) := by
      unfold zd_flo
      rw [eW, mC 234 j (by decide) (by decide), e4]
      by_cases c1 : ξ (zdW j) 3 = 1
      · rw [decide_eq_true c1]
        exact decide_eq_false (fun z => z.2 c1)
      · rw [decide_eq_false c1]
        exact decide_eq_true ⟨of_decide_eq_true t, c1⟩
    rw [ew, ef]
    cases decide (M 234 j = 1) <;> simp
end ZKW
