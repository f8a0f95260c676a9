/-! side by side: drag -/
section ZKR
variable {ξ μ ν ν1 ξ' μ' ξ6 μ6 θ : zm_M} {row row' stkC stkC' stk ord : List Nat} {Rs Rs' : Nat → List Nat} {ts ts' us : Nat → zy_F} {R2 : List Nat} {ua u2 t2 : zy_F} {k o a b n q : Nat}
/-- what is kept when what is kept with k is forgotten -/
theorem zd_has_fgt (fK : ξ6 (zdK q) 3 = if zd_has ξ q k = true then 0 else ξ (zdK q) 3) (eQ : ξ6 (zdQ q) = ξ (zdQ q)) (eV : ξ6 (zdV q + 3) = ξ (zdV q + 3)) (j : Nat) : zd_has ξ6 q j = true ↔ ¬ zd_has ξ q k = true ∧ zd_has ξ q j = true := by
  have d6 : zd_has ξ6 q j = true ↔ ¬ ξ6 (zdK q) 3 = 0 ∧ (¬ ξ (zdQ q) j = 0 ∨ ¬ ξ (zdV q + 3) j < 0) := by
    unfold zd_has
    rw [decide_eq_true_iff, eQ, eV]
  have d0 : zd_has ξ q j = true ↔ ¬ ξ (zdK q) 3 = 0 ∧ (¬ ξ (zdQ q) j = 0 ∨ ¬ ξ (zdV q + 3) j < 0) := by
    unfold zd_has
    rw [decide_eq_true_iff]
  rw [d6, d0, fK]
  by_cases c : zd_has ξ q k = true
  · rw [if_pos c]
    exact ⟨fun z => absurd rfl z.1, fun z => absurd c z.1⟩
  · rw [if_neg c]
    exact ⟨fun z => ⟨c, z⟩, fun z => z.2⟩
/-- a drag done, before the focus is given -/
theorem zK0_drx (h : zK ξ μ row stkC stk ord Rs ts us) (hk : k < 10) (ha : a < 3) (hb : b < 3) (hkt : zd_til ξ k = true) (ek : ξ (zdW k) 5 = nI a) (hn : n ∈ zy_lvs (ts a)) (en : ξ (zdT a + 3) k = nI n) (hc1 : zt_C ν1 7 R2 t2) (hz1 : zs ν1 7 R2 t2 θ 6 u2)
    (f : ∀ c d, ¬ zJ_irr c → zt_out (zdT a) c → zt_out (zdT b) c → (∀ q, q < 3 → c = zdK q → d ≠ 3) → (∀ j, j < 10 → c = zdW j → d ≠ 5) → ξ6 c d = ξ c d) (fK : ∀ q, q < 3 → ξ6 (zdK q) 3 = if zd_has ξ q k = true then 0 else ξ (zdK q) 3) (f5 : ∀ j, j < 10 → ξ6 (zdW j) 5 = if ¬ a = b ∧ zd_grp ξ k j = true then nI b else ξ (zdW j) 5) (fO : ¬ a = b → zt_isOut ξ (zdT a) (Rs a) (ts a) n k ξ6 (zdT a)) (fC : zt_isCopy ν1 7 ξ6 (zdT b)) (g : zv_drx μ θ μ6 us k a b ua) : zK0 ξ6 μ6 ord (zd_drR Rs k a b R2) (zd_drT ξ Rs ts k a b n t2) (zv_drU us a b ua u2) := by
  have hK := h
  obtain ⟨h1, h4, h2, h3, h5, h6, h7⟩ := h
  obtain ⟨gb, ga, g8, g251, g⟩ := g
  have hgr := zK_grp hK (k := k)
  have gup : ∀ j q, q < 3 → zd_grp ξ k j = true → zd_has ξ q j = true → zd_has ξ q k = true := fun j q hq z z2 => zK_gup hK hq z z2
  have oW : ∀ j, j < 10 → ∀ q, q < 3 → zt_out (zdT q) (zdW j) ∧ zt_out (zdT q) (zdW j + 1) := fun j hj q hq => ⟨zJn_out hq (Or.inr (Or.inl ⟨j, hj, Or.inl rfl⟩)), zJn_out hq (Or.inr (Or.inl ⟨j, hj, Or.inr rfl⟩))⟩
  have eW : ∀ j d, j < 10 → d ≠ 5 → ξ6 (zdW j) d = ξ (zdW j) d := fun j d hj hd => f _ _ (zJn_W hj).1 (oW j hj a ha).1 (oW j hj b hb).1 (fun q hq e => by unfold zdW zdK at e; omega) (fun _ _ _ => hd)
  have eL : ∀ j, j < 10 → ξ6 (zdW j + 1) = ξ (zdW j + 1) := fun j hj => funext fun d => f _ _ (zJn_W hj).2 (oW j hj a ha).2 (oW j hj b hb).2 (fun q hq e => by unfold zdW zdK at e; omega) (fun i hi e => by unfold zdW at e; omega)
  have eS : ∀ q, q < 3 → ξ6 (zdS q) = ξ (zdS q) ∧ ξ6 (zdZ q) = ξ (zdZ q) ∧ ξ6 (zdQ q) = ξ (zdQ q) := fun q hq => ⟨funext fun d => f _ _ (zJn_S hq).1 (zJn_out ha (Or.inr (Or.inr (Or.inl ⟨q, hq, Or.inl rfl⟩)))) (zJn_out hb (Or.inr (Or.inr (Or.inl ⟨q, hq, Or.inl rfl⟩)))) (fun i hi e => by unfold zdS zdK at e; omega) (fun i hi e => by unfold zdS zdW at e; omega),
    funext fun d => f _ _ (zJn_S hq).2.1 (zJn_out ha (Or.inr (Or.inr (Or.inl ⟨q, hq, Or.inr (Or.inl rfl)⟩)))) (zJn_out hb (Or.inr (Or.inr (Or.inl ⟨q, hq, Or.inr (Or.inl rfl)⟩)))) (fun i hi e => by unfold zdZ zdK at e; omega) (fun i hi e => by unfold zdZ zdW at e; omega),
    funext fun d => f _ _ (zJn_S hq).2.2.2 (zJn_out ha (Or.inr (Or.inr (Or.inl ⟨q, hq, Or.inr (Or.inr (Or.inr (Or.inl rfl)))⟩)))) (zJn_out hb (Or.inr (Or.inr (Or.inl ⟨q, hq, Or.inr (Or.inr (Or.inr (Or.inl rfl)))⟩)))) (fun i hi e => by unfold zdQ zdK at e; omega) (fun i hi e => by unfold zdQ zdW at e; omega)⟩
  have eV : ∀ q, q < 3 → ∀ j, j < 19 → ξ6 (zdV q + j) = ξ (zdV q + j) := fun q hq j hj => funext fun d => f _ _ (zJn_T hq hj).2 (zJn_out ha (Or.inr (Or.inr (Or.inl ⟨q, hq, Or.inr (Or.inr (Or.inr (Or.inr ⟨j, hj, rfl⟩)))⟩)))) (zJn_out hb (Or.inr (Or.inr (Or.inl ⟨q, hq, Or.inr (Or.inr (Or.inr (Or.inr ⟨j, hj, rfl⟩)))⟩)))) (fun i hi e => by unfold zdV zdK at e; omega) (fun i hi e => by unfold zdV zdW at e; omega)
  have eT : ∀ q, q < 3 → q ≠ a → q ≠ b → ∀ j, j < 19 → ξ6 (zdT q + j) = ξ (zdT q + j) := fun q hq n1 n2 j hj => funext fun d => f _ _ (zJn_T hq hj).1 (by unfold zt_out zdT; omega) (by unfold zt_out zdT; omega) (fun i hi e => by unfold zdT zdK at e; omega) (fun i hi e => by unfold zdT zdW at e; omega)
  have th : ∀ j, j < 10 → zd_th ξ6 j = zd_th ξ j := fun j hj => by unfold zd_th; rw [eW j 2 hj (by decide)]
  have has : ∀ q j, q < 3 → (zd_has ξ6 q j = true ↔ ¬ zd_has ξ q k = true ∧ zd_has ξ q j = true) := fun q j hq => zd_has_fgt (fK q hq) (eS q hq).2.2 (eV q hq 3 (by decide)) j
  have gC : ∀ c d, (232 ≤ c ∧ c ≤ 237) ∨ c = 252 → μ6 c d = μ c d := fun c d r => g c d (by omega) (by omega) (by omega) (by omega) (by omega) (zu_in_not (by omega)) (zu_in_not (by omega)) (zu_in_not (by omega))
  have gT : ∀ q, q < 6 → q ≠ a → q ≠ b → zu_eqT μ q μ6 q := fun q hq n1 n2 => zu_eq_in (fun c d r => g c d (fun z => zu_in_not (by omega) r) (fun z => zu_in_not (by omega) r) (fun z => zu_in_not (by omega) r) (fun z => zu_in_not (by omega) r) (fun z => zu_in_not (by omega) r) (zu_in_ne r (by omega)) (zu_in_ne r n1) (zu_in_ne r n2))
  have hI : ∀ q, q < 3 → zt_I ξ (zdT q) (Rs q) (ts q) := fun q hq => (h1.2.2.2.1 q hq).1.1
  have hV : ∀ q, q < 3 → zt_I ξ (zdV q) (Rs (3 + q)) (ts (3 + q)) := fun q hq => (h1.2.2.2.2.1 q hq).1.1
  have hkR : k ∈ Rs a := ((h1.2.2.2.1 a ha).2.1 k).mpr ⟨hk, hkt, ek⟩
  refine ⟨⟨fun x hx => ?_, fun q hq => ?_⟩, fun x hx A B => ?_, ⟨h5.1, fun x => ?_, fun x hx A => ?_⟩, fun q hq => ?_, fun d hd => ?_, fun q hq => ?_⟩
  · rw [th x hx, gC 234 x (by omega)]
    refine ⟨(h2.1 x hx).1, fun c => ?_⟩
    obtain ⟨d1, d2, d3, d4⟩ := (h2.1 x hx).2 c
    rw [eW x 3 hx (by decide), eW x 4 hx (by decide), eL x hx, gC 235 x (by omega), gC 236 x (by omega), gC 237 x (by omega)]
    refine ⟨d1, d2, d3, fun z => ?_⟩
    rw [g8 x hx, f5 x hx, ← hgr]
    by_cases c1 : ¬ a = b ∧ zd_grp ξ k x = true
    · rw [if_pos (Or.inr c1), if_pos c1]
    · rw [if_neg c1]
      by_cases c2 : x = k
      · subst c2
        have : a = b := Decidable.byContradiction fun w => c1 ⟨w, zd_grp_k⟩
        rw [if_pos (Or.inl rfl), ek, this]
      · rw [if_neg (fun w => w.elim c2 c1)]
        exact d4 z
  · rw [(eS q hq).1, (eS q hq).2.1, gC 232 q (by omega), gC 233 q (by omega)]
    exact h2.2 q hq
  · rw [th x hx] at A
    rw [eW x 3 hx (by decide)] at B
    obtain ⟨o, ho, q1, q2, q3, q4⟩ := h3 x hx A B
    refine ⟨o, ho, by rw [eW x 4 hx (by decide)]; exact q1, by rw [eW o 3 ho (by decide)]; exact q2, ?_, fun q hq z => ?_⟩
    · rw [f5 x hx, f5 o ho, zK_gow hK hk hkt hx A B ho q1, q3]
    · obtain ⟨z1, z2⟩ := (has q x hq).mp z
      exact (has q o hq).mpr ⟨z1, q4 q hq z2⟩
  · rw [gC 234 x (by omega)]
    exact h5.2.1 x
  · rw [gC 234 x (by omega)] at A
    rw [gC 237 x (by omega)]
    exact h5.2.2 x hx A
  · by_cases cb : q = b
    · subst cb
      have e1 : zd_drR Rs k a q R2 q = R2 := if_pos rfl
      have e2 : zd_drT ξ Rs ts k a q n t2 q = t2 := if_pos rfl
      have e3 : zv_drU us a q ua u2 q = u2 := if_pos rfl
      rw [e1, e2, e3]
      exact zs_cl hc1.1 (zs_eqT hc1.1 hz1 gb) fC.1 fC.2.2.2.1 fC.2.2.2.2.1 fC.2.2.2.2.2
    · by_cases ca : q = a
      · subst ca
        have e1 : zd_drR Rs k q b R2 q = (Rs q).erase k := (if_neg cb).trans (if_pos rfl)
        have e2 : zd_drT ξ Rs ts k q b n t2 q = (if (zt_tb ξ (zdT q) (Rs q) n).erase k = [] then zy_out n (ts q) else ts q) := (if_neg cb).trans (if_pos rfl)
        have e3 : zv_drU us q b ua u2 q = ua := (if_neg cb).trans (if_pos rfl)
        rw [e1, e2, e3]
        obtain ⟨m, ab', A, B, hat, tA, hu, tB, rfl⟩ := ga cb
        obtain ⟨o1, o2, -, -, o5, o6, o7⟩ := fO cb
        obtain ⟨abu, hIu⟩ := (h6 q hq).2
        obtain ⟨m', hat', p⟩ := zs_at (hI q hq) (h6 q hq) hkR hn en
        have em : m' = m := hat.2.2 m' hat'.1 hat'.2.1
        subst em
        exact zs_eqT o1.1 (zs_out (hI q hq) (zs_eqT (hI q hq) (h6 q hq) tA) hn (zu_at_eqT hIu tA hat) (zs_pl_eqT hIu hat.1 tA p) o1.1 o2 o5 o6 o7 hu) tB
      · have e1 : zd_drR Rs k a b R2 q = Rs q := (if_neg cb).trans (if_neg ca)
        have e2 : zd_drT ξ Rs ts k a b n t2 q = ts q := (if_neg cb).trans (if_neg ca)
        have e3 : zv_drU us a b ua u2 q = us q := (if_neg cb).trans (if_neg ca)
        rw [e1, e2, e3]
        have e := eT q hq ca cb
        exact zs_cl (hI q hq) (zs_eqT (hI q hq) (h6 q hq) (gT q (by omega) ca cb)) (e 3 (by decide)) (e 7 (by decide)) (e 8 (by decide)) (e 12 (by decide))
  · rw [gC 252 d (by omega)]
    exact h7.1 d hd
  · have e1 : zd_drR Rs k a b R2 (3 + q) = Rs (3 + q) := (if_neg (by omega)).trans (if_neg (by omega))
    have e2 : zd_drT ξ Rs ts k a b n t2 (3 + q) = ts (3 + q) := (if_neg (by omega)).trans (if_neg (by omega))
    have e3 : zv_drU us a b ua u2 (3 + q) = us (3 + q) := (if_neg (by omega)).trans (if_neg (by omega))
    rw [e1, e2, e3]
    obtain ⟨a1, a2⟩ := h7.2 q hq
    have k251 : μ6 251 q = 0 ↔ ξ6 (zdK q) 3 = 0 := by
      rw [(g251 q hq).2, fK q hq]
      by_cases c : zd_has ξ q k = true
      · rw [if_pos c]
        obtain ⟨z1, z2⟩ := (zK_has hK hq hk).mpr c
        exact ⟨fun _ => rfl, fun _ => Or.inr ⟨k, hk, Or.inl rfl, z2⟩⟩
      · rw [if_neg c, ← a1]
        refine ⟨fun z => ?_, Or.inl⟩
        rcases z with z | ⟨j, hj, z1, z2⟩
        · exact z
        · refine Decidable.byContradiction fun w => c ?_
          have hj' := (zK_has hK hq hj).mp ⟨w, z2⟩
          rcases z1 with rfl | ⟨-, z1⟩
          · exact hj'
          · exact gup j q hq (by rw [hgr]; exact z1) hj'
    refine ⟨k251, fun z => ?_⟩
    have c : ¬ zd_has ξ q k = true := fun c => z (by rw [fK q hq, if_pos c])
    have z' : ¬ ξ (zdK q) 3 = 0 := fun w => z (by rw [fK q hq, if_neg c]; exact w)
    obtain ⟨b1, b2⟩ := a2 z'
    refine ⟨fun j hj => ?_, zs_cl (hV q hq) (zs_eqT (hV q hq) b2 (gT (3 + q) (by omega) (by omega) (by omega))) (eV q hq 3 (by decide)) (eV q hq 7 (by decide)) (eV q hq 8 (by decide)) (eV q hq 12 (by decide))⟩
    rw [gC 252 _ (by omega), has q j hq, b1 j hj]
    exact ⟨fun w => ⟨c, w⟩, fun w => w.2⟩
theorem zK_drgd (h : zK ξ μ row stkC stk ord Rs ts us) {w x y : Int32} (hJ : zJ ξ' row' stkC' Rs' ts') (f : zd_drgd ξ ξ' row row' Rs Rs' ts ts' w x y) (g : zv_drgd μ μ' row stk us w x y) : ∃ stkC'' stk' ord' us', zK ξ' μ' row' stkC'' stk' ord' Rs' ts' us' := by
  have arg : ∀ k o sd, zd_darg ξ w x y k o sd ↔ zv_darg μ w x y k o sd := fun k o sd => by
    unfold zd_darg zv_darg
    refine and_congr_right fun a => and_congr_right fun _ => ?_
    rw [(zK_kind h a.1).1, (zK_kind h a.2.1).1]
  rcases f with ⟨f, rfl, rfl, rfl, rfl⟩ | ⟨k, o, sd, a, b, ν1, R2, t2, fa, ha, hb, ek, eo, fr, ft, f⟩
  · rcases g with ⟨-, rfl⟩ | ⟨k, o, sd, a, b, θ, u2, ga, -⟩
    · exact ⟨_, _, _, _, h⟩
    · exact (f ⟨k, o, sd, (arg k o sd).mpr ga⟩).elim
  · rcases g with ⟨z, -⟩ | ⟨k', o', sd', a', b', θ, u2, ga, ha', hb', ek', eo', gr, gt, g⟩
    · exact (z ⟨k, o, sd, (arg k o sd).mp fa⟩).elim
    · obtain ⟨⟨hk, ho, hsd⟩, ⟨w1, w2, w3⟩, hkt, hot, hko⟩ := id fa
      obtain ⟨⟨hk', ho', hsd'⟩, ⟨w1', w2', w3'⟩, -⟩ := id ga
      have e1 := (nI_eq (by omega) (by omega)).mp (w1'.symm.trans w1)
      have e2 := (nI_eq (by omega) (by omega)).mp (w2'.symm.trans w2)
      have e3 := (nI_eq (by omega) (by omega)).mp (w3'.symm.trans w3)
      subst e1
      subst e2
      subst e3
      have e4 := (nI_eq (by omega) (by omega)).mp (ek'.symm.trans (((zK_kind h hk).2.1 hkt).trans ek))
      have e5 := (nI_eq (by omega) (by omega)).mp (eo'.symm.trans (((zK_kind h ho).2.1 hot).trans eo))
      subst e4
      subst e5
      have hbt : ¬ ξ (zdS b') 3 = 0 := by
        obtain ⟨-, -, w3, -⟩ := h.1.2.2.1 o' ho (decide_eq_true (of_decide_eq_true hot).1)
        obtain ⟨s, hs, q1, q2⟩ := w3 (by rw [(of_decide_eq_true hot).2]; decide)
        rw [← (nI_eq (by omega) (by omega)).mp (q1.symm.trans eo)]
        exact q2
      have hz1 := zK_trl h hk ho hb hkt hot hko ek ha eo ft gt
      obtain ⟨t1, t2', t3⟩ := zd_trl_R h.1 hb ft
      have hfit := zK_trf h hk hkt hb hbt t1 t2' t3 fr gr hz1
      have hgrm := zK_grm h hkt hb hbt
      rcases f with ⟨f, fe, rfl, rfl, rfl⟩ | ⟨f, rfl, n, ξ6, hn, en, rfl, rfl, f1, f2, f3, f4, f5, f6, ff⟩
      · rcases g with ⟨-, g⟩ | ⟨⟨g1, g2⟩, -⟩
        · exact ⟨_, _, _, _, h.scr6 fe (fun c d _ _ _ r r6 => g c d (by omega) r6)⟩
        · rw [← hfit] at g1
          rcases f with f | ⟨f, f'⟩
          · rw [f] at g1
            cases g1
          · rw [hgrm.mpr (g2.resolve_left f)] at f'
            cases f'
      · rcases g with ⟨g, -⟩ | ⟨-, μ6, ua, gx, gf⟩
        · rw [← hfit] at g
          rcases g with g | ⟨g, g'⟩
          · rw [f.1] at g
            cases g
          · exact (g' (hgrm.mp (f.2.resolve_left g))).elim
        · have h0 := zK0_drx h hk ha hb hkt ek hn en t1 hz1 f1 f2 f3 f4 f5 gx
          have oW : ∀ j, j < 10 → ∀ q, q < 3 → zt_out (zdT q) (zdW j) := fun j hj q hq => zJn_out hq (Or.inr (Or.inl ⟨j, hj, Or.inl rfl⟩))
          have eW : ∀ j d, j < 10 → d ≠ 5 → ξ6 (zdW j) d = ξ (zdW j) d := fun j d hj hd => f1 _ _ (zJn_W hj).1 (oW j hj a' ha) (oW j hj b' hb) (fun q hq e => by unfold zdW zdK at e; omega) (fun _ _ _ => hd)
          have hkR2 : k' ∈ R2 := (t2' k').mpr (Or.inr rfl)
          have hI6 : ∀ q, q < 3 → zt_I ξ6 (zdT q) (zd_drR Rs k' a' b' R2 q) (zd_drT ξ Rs ts k' a' b' n t2 q) := fun q hq => by
            by_cases cb : q = b'
            · have e1 : zd_drR Rs k' a' b' R2 q = R2 := if_pos cb
              have e2 : zd_drT ξ Rs ts k' a' b' n t2 q = t2 := if_pos cb
              rw [e1, e2, cb]
              exact f6.1
            · by_cases ca : q = a'
              · subst ca
                have e1 : zd_drR Rs k' q b' R2 q = (Rs q).erase k' := (if_neg cb).trans (if_pos rfl)
                have e2 : zd_drT ξ Rs ts k' q b' n t2 q = (if (zt_tb ξ (zdT q) (Rs q) n).erase k' = [] then zy_out n (ts q) else ts q) := (if_neg cb).trans (if_pos rfl)
                rw [e1, e2]
                exact (f4 cb).1.1
              · have e1 : zd_drR Rs k' a' b' R2 q = Rs q := (if_neg cb).trans (if_neg ca)
                have e2 : zd_drT ξ Rs ts k' a' b' n t2 q = ts q := (if_neg cb).trans (if_neg ca)
                rw [e1, e2]
                exact (zt_C_19 (fun j hj => funext fun d => f1 _ _ (zJn_T hq hj).1 (by unfold zt_out zdT; omega) (by unfold zt_out zdT; omega) (fun i hi e => by unfold zdT zdK at e; omega) (fun i hi e => by unfold zdT zdW at e; omega)) (h.1.2.2.2.1 q hq).1).1
          have hV6 : ∀ q, q < 3 → zt_I ξ6 (zdV q) (zd_drR Rs k' a' b' R2 (3 + q)) (zd_drT ξ Rs ts k' a' b' n t2 (3 + q)) := fun q hq => by
            have e1 : zd_drR Rs k' a' b' R2 (3 + q) = Rs (3 + q) := (if_neg (by omega)).trans (if_neg (by omega))
            have e2 : zd_drT ξ Rs ts k' a' b' n t2 (3 + q) = ts (3 + q) := (if_neg (by omega)).trans (if_neg (by omega))
            rw [e1, e2]
            exact (zt_C_19 (fun j hj => funext fun d => f1 _ _ (zJn_T hq hj).2 (zJn_out ha (Or.inr (Or.inr (Or.inl ⟨q, hq, Or.inr (Or.inr (Or.inr (Or.inr ⟨j, hj, rfl⟩)))⟩)))) (zJn_out hb (Or.inr (Or.inr (Or.inl ⟨q, hq, Or.inr (Or.inr (Or.inr (Or.inr ⟨j, hj, rfl⟩)))⟩)))) (fun i hi e => by unfold zdV zdK at e; omega) (fun i hi e => by unfold zdV zdW at e; omega)) (h.1.2.2.2.2.1 q hq).1).1
          have thk : zd_th ξ6 k' = true := decide_eq_true (by rw [eW k' 2 hk (by decide)]; exact (of_decide_eq_true hkt).1)
          have h0' := zK0_foc h0 hI6 hV6 hk thk (fun _ => ⟨b', hb, by
            rw [f3 k' hk]
            by_cases c : a' = b'
            · rw [if_neg (fun z => z.1 c), ek, c]
            · rw [if_pos ⟨c, zd_grp_k⟩], by
            have e1 : zd_drR Rs k' a' b' R2 b' = R2 := if_pos rfl
            rw [e1]; exact hkR2⟩) ff gf
          obtain ⟨⟨stk', s1, s2, s3⟩, s4, -, -⟩ := gf
          refine ⟨stkC', stk', ord, _, hJ, ⟨s4, s1, s2, fun x => ?_⟩, h0'⟩
          have k1 : μ6 234 k' = 1 := by
            rw [gx.2.2.2.2 _ _ (by decide) (by decide) (by decide) (by decide) (by decide) (zu_in_not (by decide)) (zu_in_not (by decide)) (zu_in_not (by decide))]
            exact (zK_kind h hk).1.mp hkt
          have eW' : ∀ x, x < 10 → ξ' (zdW x) = ξ6 (zdW x) := fun x hx => funext fun b => ff.1 _ b (by unfold zdW; omega) (by unfold zdW; omega) (by unfold zdW; omega) (by unfold zdW; omega) (fun ⟨_, s, hs, _, e, _⟩ => by unfold zdW zdT at e; omega)
          have flo : ∀ x, x < 10 → zd_flo ξ' x = zd_flo ξ x := fun x hx => by
            unfold zd_flo
            rw [eW' x hx, eW x 2 hx (by decide), eW x 3 hx (by decide)]
          rw [s3 x, h.2.1.2.2.2 x]
          constructor
          · rintro (⟨a, b⟩ | ⟨-, b⟩)
            · exact ⟨a, by rw [flo x a]; exact b⟩
            · rw [k1] at b
              exact absurd b (by decide)
          · rintro ⟨a, b⟩
            exact Or.inl ⟨a, by rw [← flo x a]; exact b⟩
end ZKR
