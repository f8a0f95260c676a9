/-! side by side: the trial of a drag -/
section ZKQ
variable {ξ μ ν ν1 ξ' μ' : zm_M} {row stkC stk ord : List Nat} {Rs : Nat → List Nat} {ts us : Nat → zy_F} {R R' R2 : List Nat} {t t' u u' u2 t2 : zy_F} {k o a b sd s j q : Nat} {μ0 ν0 : zm_M}
/-- cells that no answer rests on, and the trial trees -/
theorem zK.scr6 (h : zK ξ μ row stkC stk ord Rs ts us) (e : zJ_eqv ξ ξ') (f : ∀ c d, ¬ (c = 231 ∧ d = 30) → c ≠ 239 → c ≠ 240 → ¬ (253 ≤ c ∧ c ≤ 261) → ¬ zu_in 6 c d → μ' c d = μ c d) : zK ξ' μ' row stkC stk ord Rs ts us := by
  obtain ⟨h1, h4, h0⟩ := h
  have g4 : ∀ c d, c = 231 ∧ d ≠ 30 ∨ (232 ≤ c ∧ c ≤ 238) ∨ c = 241 ∨ c = 242 ∨ c = 251 ∨ c = 252 → μ' c d = μ c d := fun c d r => f c d (by omega) (by omega) (by omega) (by omega) (zu_in_not (by omega))
  have gT : ∀ q, q < 6 → zu_eqT μ q μ' q := fun q hq => zu_eq_in (fun c d r => f c d (fun z => zu_in_not (by omega) r) (fun z => zu_in_not (by omega) r) (fun z => zu_in_not (by omega) r) (fun z => zu_in_not (by omega) r) (zu_in_ne r (by omega)))
  have eT : ∀ q, q < 3 → ∀ j, j < 19 → ξ' (zdT q + j) = ξ (zdT q + j) := fun q hq j hj => e _ (zJn_T hq hj).1
  have hI : ∀ q, q < 3 → zt_I ξ (zdT q) (Rs q) (ts q) := fun q hq => (h1.2.2.2.1 q hq).1.1
  refine ⟨h1.eqv e, zK_r.gen h4 (fun k hk => e _ (zJn_W hk).1) (fun C q l hc z => ⟨z.1, (g4 _ _ (by omega)).trans z.2.1, fun j hj => (g4 _ _ (by omega)).trans (z.2.2 j hj)⟩), h0.gen' (fun q hq => (h1.2.2.2.2.1 q hq).1.1) (fun k hk => e _ (zJn_W hk).1) (fun k hk => e _ (zJn_W hk).2) (fun q hq => ⟨e _ (zJn_S hq).1, e _ (zJn_S hq).2.1, e _ (zJn_S hq).2.2.1, e _ (zJn_S hq).2.2.2⟩) (fun q hq j hj => e _ (zJn_T hq hj).2) (fun c d r => g4 c d (by omega)) (fun q hq => gT _ (by omega)) (fun _ _ => ⟨rfl, rfl, rfl⟩) (fun q hq => ?_)⟩
  exact zs_cl (hI q hq) (zs_eqT (hI q hq) (h0.2.2.2.1 q hq) (gT q (by omega))) (eT q hq 3 (by decide)) (eT q hq 7 (by decide)) (eT q hq 8 (by decide)) (eT q hq 12 (by decide))
/-- what is kept with one of the group is kept with the window -/
theorem zK_gup (h : zK ξ μ row stkC stk ord Rs ts us) (hq : q < 3) (hg : zd_grp ξ k j = true) (hh : zd_has ξ q j = true) : zd_has ξ q k = true := by
  have hd := zK_dl h
  have key := zl_spn_min (dl := zd_dl ξ) (ow := zd_ow ξ) (g := fun j => decide (j = k)) (X := fun j => !zd_has ξ q j || zd_has ξ q k) (fun i hi hdl hX => ?_) (fun i hi => ?_) 10 j hg
  · rw [hh] at key
    simpa using key
  · obtain ⟨-, -, -, -, ht, h3⟩ := (hd i hi).2 hdl
    obtain ⟨o, ho, e1, -, -, e4⟩ := h.2.2.2.1 i hi ht h3
    have eo : zd_ow ξ i = o := by
      unfold zd_ow
      rw [e1, nI_clamp (by omega)]
    rw [eo] at hX
    cases c : zd_has ξ q i with
    | false => rfl
    | true =>
      rw [e4 q hq c] at hX
      simpa [c] using hX
  · rw [of_decide_eq_true hi]
    cases zd_has ξ q k <;> rfl
/-- a dialog is in the group as its owner is -/
theorem zK_gow (h : zK ξ μ row stkC stk ord Rs ts us) (hk : k < 10) (hkt : zd_til ξ k = true) (hj : j < 10) (ht : zd_th ξ j = true) (h3 : ξ (zdW j) 3 = 3) {o : Nat} (ho : o < 10) (e : ξ (zdW j) 4 = nI o) : zd_grp ξ k j = zd_grp ξ k o := by
  have hd := zK_dl h
  have cl := zl_spn_cl (dl := zd_dl ξ) (ow := zd_ow ξ) (g := fun j => decide (j = k)) hk (decide_eq_true rfl)
  obtain ⟨e4, -, e7, -⟩ := (h.2.2.1.1 j hj).2 ht
  have eo : zd_ow ξ j = o := by
    unfold zd_ow
    rw [e, nI_clamp (by omega)]
  have hdl : zd_dl ξ j = true := (hd j hj).1.trans (decide_eq_true (e4.trans h3))
  have a1 : zd_grp ξ k o = true → zd_grp ξ k j = true := fun z => cl j hj hdl (by rw [eo]; exact z)
  have a2 : zd_grp ξ k j = true → zd_grp ξ k o = true := fun z => by
    have key := zl_spn_min (dl := zd_dl ξ) (ow := zd_ow ξ) (g := fun j => decide (j = k)) (X := fun i => decide (i = k) || (zd_dl ξ i && zd_grp ξ k (zd_ow ξ i))) (fun i hi hdl hX => ?_) (fun i hi => by rw [hi]; rfl) 10 j z
    · rw [eo] at key
      rcases Bool.or_eq_true_iff.mp key with c | c
      · have c := of_decide_eq_true c
        rw [c] at h3
        have := (of_decide_eq_true hkt).2
        rw [h3] at this
        exact absurd this (by decide)
      · exact (Bool.and_eq_true_iff.mp c).2
    · have : zd_grp ξ k (zd_ow ξ i) = true := by
        rcases Bool.or_eq_true_iff.mp hX with c | c
        · rw [of_decide_eq_true c]
          exact zd_grp_k
        · obtain ⟨c1, c2⟩ := Bool.and_eq_true_iff.mp c
          exact cl _ ((hd i hi).2 hdl).2.1 c1 c2
      rw [hdl, this]
      exact Bool.or_true _
  cases c : zd_grp ξ k o with
  | true => exact a1 c
  | false =>
    cases c2 : zd_grp ξ k j with
    | false => rfl
    | true => rw [a2 c2] at c; cases c
/-- the tree without the window -/
theorem zK_dr (hb : b < 3) (hI : zt_I ξ (zdT b) R t) (hz : zs ξ (zdT b) R t μ b u) (hab : k ∈ R ↔ a = b) (f : zt_isDr ξ (zdT b) R t k ν0 7 R' t') (g : zv_isDr μ b u k a μ0 u') : zs ν0 7 R' t' μ0 6 u' := by
  rcases f with ⟨f1, rfl, rfl, fc, -⟩ | ⟨f1, n, hn, ek, rfl, rfl, fo⟩
  · rcases g with ⟨-, rfl, gt⟩ | ⟨g1, -⟩
    · exact zs_cl hI (zs_eqT hI hz gt) fc.1 fc.2.2.2.1 fc.2.2.2.2.1 fc.2.2.2.2.2
    · exact (f1 (hab.mpr g1)).elim
  · rcases g with ⟨g1, -⟩ | ⟨-, m, ab1, hat, go, rfl⟩
    · exact (g1 (hab.mp f1)).elim
    · obtain ⟨abu, hIu⟩ := hz.2
      have tq := zu_cq_eqT (μ := μ) (f := b) (t := 6)
      obtain ⟨m', hat', p⟩ := zs_at hI hz f1 hn ek
      have em : m' = m := hat.2.2 m' hat'.1 hat'.2.1
      subst em
      obtain ⟨o1, o2, -, -, o5, o6, o7⟩ := fo
      exact zs_out (ξ := fun c => ξ (zdT b + (c - 7))) (T := 7) (zt_I_7 hI) (zs_7 hI (zs_eqT hI hz tq)) hn (zu_at_eqT hIu tq hat) (zs_pl_eqT hIu hat.1 tq p) o1.1 o2 o5 o6 o7 go
/-- the trial tree -/
theorem zK_trl (h : zK ξ μ row stkC stk ord Rs ts us) (hk : k < 10) (ho : o < 10) (hb : b < 3) (hkt : zd_til ξ k = true) (hot : zd_til ξ o = true) (hko : k ≠ o) (ek : ξ (zdW k) 5 = nI a) (ha : a < 3) (eo : ξ (zdW o) 5 = nI b) (f : zd_trl ξ ν1 Rs ts k o sd b R2 t2) (g : zv_trl μ ν us a k o sd b u2) : zs ν1 7 R2 t2 ν 6 u2 := by
  have hT := h.1.2.2.2.1 b hb
  have hI := hT.1.1
  have hz := h.2.2.2.2.2.1 b hb
  have hab : k ∈ Rs b ↔ a = b := by
    rw [hT.2.1 k]
    exact ⟨fun z => (nI_eq (by omega) (by omega)).mp (ek.symm.trans z.2.2), fun z => ⟨hk, hkt, by rw [← z]; exact ek⟩⟩
  have hoR : o ∈ Rs b := (hT.2.1 o).mpr ⟨ho, hot, eo⟩
  obtain ⟨ν0, R', t', m, f1, f2, f3, rfl, f5, f6⟩ := f
  obtain ⟨μ0, u', n, g1, g2, g3⟩ := g
  have z := zK_dr hb hI hz hab f1 g1
  have hI0 := (zt_isDr_C f1).1
  have hR' : k ∉ R' ∧ o ∈ R' := by
    rcases f1 with ⟨q1, rfl, -⟩ | ⟨q1, n', -, -, rfl, -⟩
    · exact ⟨q1, hoR⟩
    · exact ⟨fun z => ((zl_er_mem hI.1.2.1).mp z).1 rfl, (zl_er_mem hI.1.2.1).mpr ⟨fun e => hko e.symm, hoR⟩⟩
  obtain ⟨m2, hat, p⟩ := zs_at hI0 z hR'.2 f2 f3
  have em : m2 = n := g2.2.2 m2 hat.1 hat.2.1
  subst em
  rcases f6 with ⟨q1, rfl, q3⟩ | ⟨q1, c, f, rfl, q3⟩
  · rcases g3 with ⟨-, rfl, ab, g4⟩ | ⟨r1, -⟩
    · exact zs_tab hI0 z f2 hat.1 p hk hR'.1 q3.2.1 q3.2.2.2.2.1 q3.2.2.2.2.2.1 q3.2.2.2.2.2.2 g4
    · exact absurd q1 (by omega)
  · rcases g3 with ⟨r1, -⟩ | ⟨-, ab', c', f', rfl, g4⟩
    · exact absurd r1 (by omega)
    · exact zs_cut hI0 z f2 hat.1 p hk hR'.1 q3.2.1 q3.2.2.1 q3.2.2.2.2.2.1 q3.2.2.2.2.2.2.1 q3.2.2.2.2.2.2.2 g4
/-- it fits on both sides or on none -/
theorem zK_trf (h : zK ξ μ row stkC stk ord Rs ts us) (hk : k < 10) (hkt : zd_til ξ k = true) (hb : b < 3) (hbt : ¬ ξ (zdS b) 3 = 0) (hc : zt_C ν1 7 R2 t2) (hR2 : ∀ j, j ∈ R2 ↔ (j ∈ Rs b ∨ j = k)) (h5 : ∀ j ∈ R2, ν1 (7 + 5) j = ξ (zdW j + 1) 0 ∧ ν1 (7 + 6) j = ξ (zdW j + 1) 1) (fr : zt_frT 7 ξ ν1) (gr : zu_fr 6 μ ν) (z : zs ν1 7 R2 t2 ν 6 u2) : zt_fit ν1 7 (zdZ b) R2 t2 = zu_fit ν 6 u2 (μ 232 b) (μ 233 b) := by
  obtain ⟨z0, z1⟩ := (h.2.2.1.2 b hb).2 hbt
  refine zs_fit hc.1 z (fun a ha w hw => ?_) (by rw [fr _ (by unfold zt_out zdZ; omega)]; exact z0.symm) (by rw [fr _ (by unfold zt_out zdZ; omega)]; exact z1.symm)
  have hw2 : w < 10 ∧ zd_th ξ w = true := by
    rcases (hR2 w).mp hw with c | c
    · obtain ⟨c1, c2, -⟩ := ((h.1.2.2.2.1 b hb).2.1 w).mp c
      exact ⟨c1, decide_eq_true (of_decide_eq_true c2).1⟩
    · rw [c]
      exact ⟨hk, decide_eq_true (of_decide_eq_true hkt).1⟩
  obtain ⟨-, ⟨e5, e6⟩, -⟩ := (h.2.2.1.1 w hw2.1).2 hw2.2
  rw [gr _ _ (zu_in_not (by omega))]
  rcases (by omega : a = 0 ∨ a = 1) with rfl | rfl
  · exact e5.trans (h5 w hw).1.symm
  · exact e6.trans (h5 w hw).2.symm
/-- the group finds room on both sides or on none -/
theorem zK_grm (h : zK ξ μ row stkC stk ord Rs ts us) (hkt : zd_til ξ k = true) (hb : b < 3) (hbt : ¬ ξ (zdS b) 3 = 0) : zl_al (zd_gwf ξ (zd_grp ξ k) (zdZ b)) 10 = true ↔ ∀ j, j < 10 → zv_drm μ k b (zv_grp μ k) j = true := by
  rw [zl_al_iff, ← zK_grp h]
  obtain ⟨z0, z1⟩ := (h.2.2.1.2 b hb).2 hbt
  refine forall_congr' fun j => ?_
  refine imp_congr_right fun hj => ?_
  unfold zd_gwf zv_drm
  cases c : zd_grp ξ k j with
  | false => exact ⟨fun _ => rfl, fun _ => rfl⟩
  | true =>
    by_cases e : j = k
    · have : zd_flo ξ j = false := by
        rw [e]
        exact decide_eq_false (fun z => z.2 (of_decide_eq_true hkt).2)
      rw [this, decide_eq_true e]
      exact ⟨fun _ => rfl, fun _ => rfl⟩
    · rcases zd_grp_dl h.1 hj c with e' | ⟨t1, t3⟩
      · exact (e e').elim
      · have : zd_flo ξ j = true := decide_eq_true ⟨of_decide_eq_true t1, by rw [t3]; decide⟩
        obtain ⟨-, ⟨e5, e6⟩, -⟩ := (h.2.2.1.1 j hj).2 t1
        have ew : zd_whole ξ (zdZ b) j = decide (μ 235 j ≤ μ 232 b ∧ μ 236 j ≤ μ 233 b) := by
          unfold zd_whole
          rw [e5, e6, z0, z1]
        rw [this, decide_eq_false e, ew]
        simp
end ZKQ
