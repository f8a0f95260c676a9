/-! side by side: a screen comes, and what was kept -/
section ZKY
variable {ξ μ ν ξ' μ' ξn M : zm_M} {row stkC stk ord : List Nat} {Rs Rs' : Nat → List Nat} {ts ts' us us1 : Nat → zy_F} {s q j i o : Nat} {w x y : Int32}
/-- the windows of the tree that is kept -/
theorem zK_keptW (h : zK ξ μ row stkC stk ord Rs ts us) (hs : s < 3) (hk : ¬ ξ (zdK s) 3 = 0) (e : zu_eqT μ (3 + s) M (3 + s)) : ∀ v, v ∈ (zy_lvs (us (3 + s))).flatMap (zu_tb M (3 + s)) ↔ v ∈ Rs (3 + s) := fun v => by
  have hV := (h.1.2.2.2.2.1 s hs).1.1
  rw [← zs_flat hV (zs_eqT hV ((h.2.2.2.2.2.2.2 s hs).2 hk).2 e), List.mem_flatMap]
  constructor
  · rintro ⟨n, -, z⟩
    exact (zt_tb_mem.mp z).1
  · intro z
    obtain ⟨n, hn, en⟩ := hV.2.2.2.1 v z
    exact ⟨n, hn, zt_tb_mem.mpr ⟨z, en⟩⟩
/-- the trees but that of s -/
theorem zK_bsT (h : zK ξ μ row stkC stk ord Rs ts us) (hs : s < 3) (hk : ¬ ξ (zdK s) 3 = 0) (hn : zd_new ξ ξn s x y) {ν2 ν3 : zm_M} {Rs1 : Nat → List Nat} {ts1 : Nat → zy_F} (f2 : ∀ c, c ≠ 31 → ν2 c = ξn c) (hB : zd_tbk ν2 ν3 Rs ts (zd_has ξn s) 10 Rs1 ts1) {M2 θ : zm_M} (e : zu_eqT μ (3 + s) M (3 + s)) (e2 : ∀ q, q < 3 → q ≠ s → zu_eqT μ q M2 q) (g : zv_bs M2 s us θ us1 ((zy_lvs (us (3 + s))).flatMap (zu_tb M (3 + s)))) (hq : q < 3) (hqs : q ≠ s) : zs ν3 (zdT q) (Rs1 q) (ts1 q) θ q (us1 q) := by
  obtain ⟨n1, n2, n3, n4⟩ := zd_new_row hs hn
  have eT : ∀ q, q < 3 → ∀ j, j < 24 → ν2 (zdT q + j) = ξ (zdT q + j) := fun q hq j hj => (f2 _ (by unfold zdT; omega)).trans (n2 q hq j hj).1
  have eW : ∀ j, j < 10 → ν2 (zdW j) = ξ (zdW j) := fun j hj => (f2 _ (by unfold zdW; omega)).trans (n1 j hj).1
  have hC2 : ∀ q, q < 3 → zt_C ν2 (zdT q) (Rs q) (ts q) := fun q hq => zt_C_19 (fun j hj => eT q hq j (by omega)) (h.1.2.2.2.1 q hq).1
  have hI2 : ∀ q, q < 3 → zt_I ν2 (zdT q) (Rs q) (ts q) := fun q hq => (hC2 q hq).1
  have hX := zd_seq_X hI2 (fun q p j hq hp a b => (nI_eq (by omega) (by omega)).mp ((((h.1.2.2.2.1 q hq).2.1 j).mp a).2.2.symm.trans (((h.1.2.2.2.1 p hp).2.1 j).mp b).2.2)) _ ν2 Rs ts (fun _ => false) ν3 Rs1 ts1 (List.nodup_range.filter _) (fun _ _ => rfl) hC2 (fun q hq => zt_X_0 (hI2 q hq)) hB.1 q hq
  have hz2 : zs ν2 (zdT q) (Rs q) (ts q) M2 q (us q) := by
    have hI := (h.1.2.2.2.1 q hq).1.1
    exact zs_cl hI (zs_eqT hI (h.2.2.2.2.2.1 q hq) (e2 q hq hqs)) (eT q hq 3 (by decide)) (eT q hq 7 (by decide)) (eT q hq 8 (by decide)) (eT q hq 12 (by decide))
  refine zs_X (hI2 q hq) hz2 (zt_X_congr hX (zt_I_or (hI2 q hq)) (X' := fun x => decide (x ∈ (zy_lvs (us (3 + s))).flatMap (zu_tb M (3 + s)))) (fun v hv => ?_)) (g.1 q hq)
  obtain ⟨v10, vt, -⟩ := ((h.1.2.2.2.1 q hq).2.1 v).mp hv
  have vt2 : zd_til ν2 v = true := by
    unfold zd_til at vt ⊢
    rw [eW v v10]
    exact vt
  have e3 := (zd_new_bgr h hs hn).1
  rw [Bool.or_false, decide_eq_decide, zK_keptW h hs hk e v, List.mem_filter, List.mem_range, e3, vt2, Bool.and_true]
  exact ⟨fun z => ⟨v10, (zJ_kept h.1 hs hk z).2.1⟩, fun z => (zJ_hasK h.1 hs v10 z.2).2 vt⟩
theorem zK_sc2 (h : zK ξ μ row stkC stk ord Rs ts us) (hs : s < 3) (hk : ¬ ξ (zdK s) 3 = 0) (hn : zd_new ξ ξn s x y) (hM : zv_nw μ M s x y) {ν1 ν2 ν3 : zm_M} {Rs1 : Nat → List Nat} {ts1 : Nat → zy_F} (f2 : ∀ c, c ≠ 31 → ν2 c = ξn c) (hB : zd_tbk ν2 ν3 Rs ts (zd_has ξn s) 10 Rs1 ts1)
    (ff : ∀ c d, ¬ zJ_irr c → (∀ q, q < 3 → zt_out (zdT q) c) → (∀ q, q < 3 → c = zdK q → d ≠ 3) → (∀ j, j < 10 → c = zdW j → d ≠ 5) → ν1 c d = ξn c d) (fK : ∀ q, q < 3 → ν1 (zdK q) 3 = if zd_hasg ξn (zd_bgr ξn s) 10 q = true then 0 else ξn (zdK q) 3) (f5 : ∀ j, j < 10 → ν1 (zdW j) 5 = if zd_bgr ξn s j = true then nI s else ξn (zdW j) 5) (fT : ∀ q, q < 3 → q ≠ s → ∀ j, j < 24 → ν1 (zdT q + j) = ν3 (zdT q + j)) (hcp : zt_isCopy ξn (zdV s) ν1 (zdT s))
    (hJ : zJ (zm_up ν1 (zdK s) 3 0) row stkC (zd_upd Rs1 s (Rs (3 + s))) (zd_upd ts1 s (ts (3 + s)))) {M2 θ ν1r : zm_M} (gM2 : ∀ c d, ¬ (c = 231 ∧ d = 30) → c ≠ 259 → c ≠ 260 → M2 c d = M c d) (gs : zv_bs M2 s us θ us1 ((zy_lvs (us (3 + s))).flatMap (zu_tb M (3 + s)))) (gr : zv_br (zu_cq θ (3 + s) s 24 240) ν1r s (zv_back M (zv_dlg μ) (zv_own μ) s) 10) : ∃ us', zK (zm_up ν1 (zdK s) 3 0) (zm_up ν1r 251 s 0) row stkC stk ord (zd_upd Rs1 s (Rs (3 + s))) (zd_upd ts1 s (ts (3 + s))) us' := by
  obtain ⟨n1, n2, n3, n4⟩ := zd_new_row hs hn
  obtain ⟨eh, eb⟩ := zd_new_bgr h hs hn
  obtain ⟨-, m2, m3, m4⟩ := id hn
  obtain ⟨⟨k1, k2⟩, k3, k4⟩ := hM
  obtain ⟨gX, g238, gf⟩ := id gs
  obtain ⟨b238, b251, bf⟩ := gr
  -- the class
  have oW : ∀ j, j < 10 → ∀ q, q < 3 → zt_out (zdT q) (zdW j) ∧ zt_out (zdT q) (zdW j + 1) := fun j hj q hq => ⟨zJn_out hq (Or.inr (Or.inl ⟨j, hj, Or.inl rfl⟩)), zJn_out hq (Or.inr (Or.inl ⟨j, hj, Or.inr rfl⟩))⟩
  have uW : ∀ c, c ≠ zdK s → zm_up ν1 (zdK s) 3 0 c = ν1 c := fun c hc => zm_up_row hc
  have eW : ∀ j d, j < 10 → d ≠ 5 → zm_up ν1 (zdK s) 3 0 (zdW j) d = ξ (zdW j) d := fun j d hj hd => by
    rw [uW _ (by unfold zdW zdK; omega), ff _ _ (zJn_W hj).1 (fun q hq => (oW j hj q hq).1) (fun q hq e => by unfold zdW zdK at e; omega) (fun _ _ _ => hd), (n1 j hj).1]
  have e5 : ∀ j, j < 10 → zm_up ν1 (zdK s) 3 0 (zdW j) 5 = if zd_bgr ξ s j = true then nI s else ξ (zdW j) 5 := fun j hj => by
    rw [uW _ (by unfold zdW zdK; omega), f5 j hj, eb, (n1 j hj).1]
  have eL : ∀ j, j < 10 → zm_up ν1 (zdK s) 3 0 (zdW j + 1) = ξ (zdW j + 1) := fun j hj => by
    rw [uW _ (by unfold zdW zdK; omega), ← (n1 j hj).2]
    exact funext fun d => ff _ _ (zJn_W hj).2 (fun q hq => (oW j hj q hq).2) (fun q hq e => by unfold zdW zdK at e; omega) (fun i hi e => by unfold zdW at e; omega)
  have fS : ∀ q, q < 3 → zm_up ν1 (zdK s) 3 0 (zdS q) = ξn (zdS q) ∧ zm_up ν1 (zdK s) 3 0 (zdZ q) = ξn (zdZ q) ∧ zm_up ν1 (zdK s) 3 0 (zdQ q) = ξn (zdQ q) := fun q hq => ⟨(uW _ (by unfold zdS zdK; omega)).trans (funext fun d => ff _ _ (zJn_S hq).1 (fun p hp => zJn_out hp (Or.inr (Or.inr (Or.inl ⟨q, hq, Or.inl rfl⟩)))) (fun i hi e => by unfold zdS zdK at e; omega) (fun i hi e => by unfold zdS zdW at e; omega)),
    (uW _ (by unfold zdZ zdK; omega)).trans (funext fun d => ff _ _ (zJn_S hq).2.1 (fun p hp => zJn_out hp (Or.inr (Or.inr (Or.inl ⟨q, hq, Or.inr (Or.inl rfl)⟩)))) (fun i hi e => by unfold zdZ zdK at e; omega) (fun i hi e => by unfold zdZ zdW at e; omega)),
    (uW _ (by unfold zdQ zdK; omega)).trans (funext fun d => ff _ _ (zJn_S hq).2.2.2 (fun p hp => zJn_out hp (Or.inr (Or.inr (Or.inl ⟨q, hq, Or.inr (Or.inr (Or.inr (Or.inl rfl)))⟩)))) (fun i hi e => by unfold zdQ zdK at e; omega) (fun i hi e => by unfold zdQ zdW at e; omega))⟩
  have eV : ∀ q, q < 3 → ∀ j, j < 19 → zm_up ν1 (zdK s) 3 0 (zdV q + j) = ξ (zdV q + j) := fun q hq j hj => by
    rw [uW _ (by unfold zdV zdK; omega), ← (n2 q hq j (by omega)).2]
    exact funext fun d => ff _ _ (zJn_T hq hj).2 (fun p hp => zJn_out hp (Or.inr (Or.inr (Or.inl ⟨q, hq, Or.inr (Or.inr (Or.inr (Or.inr ⟨j, hj, rfl⟩)))⟩)))) (fun i hi e => by unfold zdV zdK at e; omega) (fun i hi e => by unfold zdV zdW at e; omega)
  have eK : ∀ q, q < 3 → zm_up ν1 (zdK s) 3 0 (zdK q) 3 = if q = s ∨ zd_hasg ξn (zd_bgr ξ s) 10 q = true then 0 else ξ (zdK q) 3 := fun q hq => by
    by_cases e : q = s
    · rw [if_pos (Or.inl e), e]; exact zm_up_eq
    · rw [uW _ (by unfold zdK; omega), fK q hq, eb, (n3 q hq).1]
      by_cases c : zd_hasg ξn (zd_bgr ξ s) 10 q = true
      · rw [if_pos c, if_pos (Or.inr c)]
      · rw [if_neg c, if_neg (fun z => z.elim e c)]
  -- the reference
  have cM : ∀ c d, ¬ (c = 231 ∧ d = 30) → c ≠ 238 → c ≠ 259 → c ≠ 260 → (∀ q, q < 3 → ¬ zu_in q c d) → zu_cq θ (3 + s) s 24 240 c d = M c d := fun c d r1 r2 r3 r4 r5 => (zu_cq_out (r5 s hs)).trans ((gf c d r2 r5).trans (gM2 c d r1 r3 r4))
  have no : ∀ c d, c < 243 ∨ 250 < c → ∀ q, q < 3 → ¬ zu_in q c d := fun c d r q _ => zu_in_not r
  have uR : ∀ c d, c ≠ 238 → c ≠ 239 → c ≠ 240 → c ≠ 251 → zm_up ν1r 251 s 0 c d = zu_cq θ (3 + s) s 24 240 c d := fun c d r1 r2 r3 r4 => (zm_up_ne (fun z => r4 z.1)).trans (bf c d r1 r2 r3 r4)
  have gC : ∀ c d, ((c = 232 ∨ c = 233) ∧ d ≠ s) ∨ (234 ≤ c ∧ c ≤ 237) ∨ c = 252 ∨ (c = 231 ∧ d ≠ 30) ∨ c = 241 ∨ c = 242 → zm_up ν1r 251 s 0 c d = μ c d := fun c d r => (uR c d (by omega) (by omega) (by omega) (by omega)).trans ((cM c d (by omega) (by omega) (by omega) (by omega) (no c d (by omega))).trans (k4 c d (by omega) (by omega) (zu_in_not (by omega))))
  have tM : ∀ q, q < 6 → q ≠ s → zu_eqT μ q M q := fun q hq hne => zu_eq_in (fun c d r => k4 c d (fun z => zu_in_not (by omega) r) (fun z => zu_in_not (by omega) r) (zu_in_ne r hne))
  have tM2 : ∀ q, zu_eqT M q M2 q := fun q => zu_eq_in (fun c d r => gM2 c d (fun z => zu_in_not (by omega) r) (fun z => zu_in_not (by omega) r) (fun z => zu_in_not (by omega) r))
  have tθ : ∀ q, q < 3 → zu_eqT M2 (3 + q) θ (3 + q) := fun q hq => zu_eq_in (fun c d r => gf c d (fun z => zu_in_not (by omega) r) (fun p hp => zu_in_ne r (by omega)))
  have tE : ∀ q, zu_eqT (zu_cq θ (3 + s) s 24 240) q (zm_up ν1r 251 s 0) q := fun q => zu_eq_in (fun c d r => uR c d (fun z => zu_in_not (by omega) r) (fun z => zu_in_not (by omega) r) (fun z => zu_in_not (by omega) r) (fun z => zu_in_not (by omega) r))
  have tQ : ∀ q, q ≠ s → zu_eqT θ q (zu_cq θ (3 + s) s 24 240) q := fun q hne => zu_eq_in (fun c d r => zu_cq_out (zu_in_ne r hne))
  have t3 : ∀ q, q < 3 → zu_eqT μ (3 + q) (zm_up ν1r 251 s 0) (3 + q) := fun q hq => (tM (3 + q) (by omega) (by omega)).trans ((tM2 _).trans ((tθ q hq).trans ((tQ _ (by omega)).trans (tE _))))
  have ts' : zu_eqT μ (3 + s) (zm_up ν1r 251 s 0) s := (tM (3 + s) (by omega) (by omega)).trans ((tM2 _).trans ((tθ s hs).trans (zu_cq_eqT.trans (tE _))))
  have hW := zK_keptW h hs hk (tM (3 + s) (by omega) (by omega))
  have hgb : ∀ j, j < 10 → zd_bgr ξ s j = zv_back M (zv_dlg μ) (zv_own μ) s j := fun j hj => zK_back h hs hk (fun d => k4 252 d (by omega) (by omega) (zu_in_not (by decide))) hj
  have c234 : ∀ j, zu_cq θ (3 + s) s 24 240 234 j = μ 234 j := fun j => (cM 234 j (by omega) (by decide) (by decide) (by decide) (no _ _ (by decide))).trans (k4 234 j (by omega) (by omega) (zu_in_not (by decide)))
  refine ⟨fun q => if q < 3 then (if q = s then us (3 + s) else us1 q) else us q, zK_sgen (s := s) (x := x) (y := y) h hJ (zd_bgr ξ s) eW e5 eL (fun q hq hne => ⟨(fS q hq).1.trans (n4 q hq hne).1, (fS q hq).2.1.trans (n4 q hq hne).2⟩) (by rw [(fS s hs).1, m2]; decide) (by rw [(fS s hs).2.1]; exact ⟨m3, m4⟩) (fun q hq => (fS q hq).2.2.trans (n3 q hq).2) eV (fun q hq => ?_)
    ⟨(uR _ _ (by decide) (by decide) (by decide) (by decide)).trans ((cM _ _ (by omega) (by decide) (by decide) (by decide) (no _ _ (by decide))).trans k1), (uR _ _ (by decide) (by decide) (by decide) (by decide)).trans ((cM _ _ (by omega) (by decide) (by decide) (by decide) (no _ _ (by decide))).trans k2)⟩ gC (fun j hj ht h4 => ?_) (fun q hq => ?_) t3 (fun j hj ht hd o ho eo => zK_bow h hs hj ht hd ho eo) (fun q hq => ?_) (fun q hq => ⟨(zd_upd_ne (by omega)).trans (hB.2.2.2.2 q hq (by simp)).1, (zd_upd_ne (by omega)).trans (hB.2.2.2.2 q hq (by simp)).2, if_neg (by omega)⟩)⟩
  · rw [eK q hq]
    by_cases c : q = s ∨ zd_hasg ξn (zd_bgr ξ s) 10 q = true
    · rw [if_pos c]; exact Or.inl rfl
    · rw [if_neg c]; exact Or.inr rfl
  · have e8 : zm_up ν1r 251 s 0 238 j = ν1r 238 j := zm_up_ne (by omega)
    rw [e8, b238 j hj, c234, ← hgb j hj]
    have c238 : zu_cq θ (3 + s) s 24 240 238 j = if j ∈ (zy_lvs (us (3 + s))).flatMap (zu_tb M (3 + s)) then nI s else μ 238 j := by
      rw [zu_cq_out (zu_in_not (by decide)), g238 j hj, gM2 238 j (by omega) (by decide) (by decide), k4 238 j (by omega) (by omega) (zu_in_not (by decide))]
    rw [c238]
    by_cases c : zd_bgr ξ s j = true
    · rw [if_pos c]
      by_cases c1 : μ 234 j = 1
      · have hj' := (zJ_hasK h.1 hs hj ((zK_bth h hs hj c).2 ((zK_kind h hj).1.mpr c1))).2 ((zK_kind h hj).1.mpr c1)
        rw [if_neg (fun z => z.2 c1), if_pos ((hW j).mpr hj')]
      · rw [if_pos ⟨⟨hj, c⟩, c1⟩]
    · rw [if_neg c, if_neg (fun z => c z.1.2), if_neg (fun z => c (zl_spn_mono 10 _ (zJ_kept h.1 hs hk ((hW j).mp z)).2.1))]
  · rw [eK q hq]
    by_cases e : q = s
    · rw [if_pos (Or.inl e), e]
      exact ⟨fun _ => rfl, fun _ => zm_up_eq⟩
    · have e1 : zm_up ν1r 251 s 0 251 q = ν1r 251 q := zm_up_ne (by omega)
      have c251 : zu_cq θ (3 + s) s 24 240 251 q = μ 251 q := (cM 251 q (by omega) (by decide) (by decide) (by decide) (no _ _ (by decide))).trans (k4 251 q (by omega) (by omega) (zu_in_not (by decide)))
      have c252 : ∀ d, zu_cq θ (3 + s) s 24 240 252 d = μ 252 d := fun d => (cM 252 d (by omega) (by decide) (by decide) (by decide) (no _ _ (by decide))).trans (k4 252 d (by omega) (by omega) (zu_in_not (by decide)))
      rw [e1, (b251 q hq).2, c251]
      have a1 := (h.2.2.2.2.2.2.2 q hq).1
      have hn' : ∀ j, zd_has ξn q j = zd_has ξ q j := fun j => by
        unfold zd_has
        rw [(n3 q hq).1, (n3 q hq).2, (n2 q hq 3 (by decide)).2]
      by_cases c : zd_hasg ξn (zd_bgr ξ s) 10 q = true
      · rw [if_pos (Or.inr c)]
        refine ⟨fun _ => rfl, fun _ => ?_⟩
        obtain ⟨j, hj, c1, c2⟩ := zd_hasg_iff.mp c
        rw [hn'] at c2
        obtain ⟨-, z2⟩ := (zK_has h hq hj).mpr c2
        exact Or.inr ⟨e, j, hj, by rw [← hgb j hj]; exact c1, by rw [c252]; exact z2⟩
      · rw [if_neg (fun z => z.elim e c), ← a1]
        refine ⟨fun z => ?_, Or.inl⟩
        rcases z with z | ⟨-, j, hj, z1, z2⟩
        · exact z
        · refine Decidable.byContradiction fun w => c (zd_hasg_iff.mpr ⟨j, hj, by rw [hgb j hj]; exact z1, ?_⟩)
          rw [c252] at z2
          rw [hn']
          exact (zK_has h hq hj).mp ⟨w, z2⟩
  · show zs _ (zdT q) (zd_upd Rs1 s (Rs (3 + s)) q) (zd_upd ts1 s (ts (3 + s)) q) _ q (if q < 3 then (if q = s then us (3 + s) else us1 q) else us q)
    rw [if_pos hq]
    by_cases e : q = s
    · subst e
      rw [if_pos rfl, zd_upd_eq, zd_upd_eq]
      have hV := (h.1.2.2.2.2.1 q hq).1.1
      refine zs_cl hV (zs_eqT hV ((h.2.2.2.2.2.2.2 q hq).2 hk).2 ts') ?_ ?_ ?_ ?_
      · rw [uW _ (by unfold zdT zdK; omega), hcp.1, (n2 q hq 3 (by decide)).2]
      · rw [uW _ (by unfold zdT zdK; omega), hcp.2.2.2.1, (n2 q hq 7 (by decide)).2]
      · rw [uW _ (by unfold zdT zdK; omega), hcp.2.2.2.2.1, (n2 q hq 8 (by decide)).2]
      · rw [uW _ (by unfold zdT zdK; omega), hcp.2.2.2.2.2, (n2 q hq 12 (by decide)).2]
    · rw [if_neg e, zd_upd_ne e, zd_upd_ne e]
      have hz3 := zK_bsT h hs hk hn f2 hB (tM (3 + s) (by omega) (by omega)) (fun p hp hne => (tM p (by omega) hne).trans (tM2 p)) gs hq e
      have hI3 := (hB.2.1 q hq).1.1
      have eT : ∀ j, j < 24 → zm_up ν1 (zdK s) 3 0 (zdT q + j) = ν3 (zdT q + j) := fun j hj => (uW _ (by unfold zdT zdK; omega)).trans (fT q hq e j hj)
      exact zs_cl hI3 (zs_eqT hI3 hz3 ((tQ q e).trans (tE q))) (eT 3 (by decide)) (eT 7 (by decide)) (eT 8 (by decide)) (eT 12 (by decide))
theorem zK_scn2 (h : zK ξ μ row stkC stk ord Rs ts us) (ha : zd_sarg w x y s) (hst : ξ (zdS s) 3 = 0) (hJ : zJ ξ' row stkC Rs' ts') (f : zd_scn2 ξ ξ' Rs Rs' ts ts' s x y) (g : zv_scr μ μ' us w x y) : ∃ us', zK ξ' μ' row stkC stk ord Rs' ts' us' := by
  obtain ⟨hs, ew, hx, hy⟩ := ha
  rcases g with ⟨z, -⟩ | ⟨s', ⟨hs', ew', -⟩, g⟩
  · exact (z ⟨s, hs, ew, hx, hy⟩).elim
  · have es := (nI_eq (by omega) (by omega)).mp (ew'.symm.trans ew)
    subst es
    rcases g with ⟨z, -⟩ | ⟨-, M, hM, g⟩
    · exact ((zK_sc0 h hs).mpr z hst).elim
    · obtain ⟨ξn, ν1, hn, rfl, f⟩ := f
      have eK : ξn (zdK s') 3 = ξ (zdK s') 3 := by rw [((zd_new_row hs hn).2.2.1 s' hs).1]
      have a1 := (h.2.2.2.2.2.2.2 s' hs).1
      rcases f with ⟨fc, f1, rfl, rfl⟩ | ⟨⟨c1, c2, c3⟩, ν2, ν3, Rs1, ts1, f2, hB, ff, fK, f5, fT, hC, hcp, rfl, rfl⟩
      · rcases g with ⟨-, g0, g⟩ | ⟨q1, q2, -⟩
        · exact ⟨_, zK_sc1 h hs hst hn hM f1 hJ g0 g⟩
        · have hk : ¬ ξ (zdK s') 3 = 0 := fun z => q1 (a1.mpr z)
          obtain ⟨d1, d2⟩ := (zK_bk h hs hk hn hM).mpr q2
          rcases fc with z | z | z
          · exact (hk (eK.symm.trans z)).elim
          · rw [z] at d1; cases d1
          · rw [z] at d2; cases d2
      · have hk : ¬ ξ (zdK s') 3 = 0 := fun z => c1 (eK.trans z)
        rcases g with ⟨q, -⟩ | ⟨-, -, M2, θ, us1, ν1r, gM2, gs, gr, rfl⟩
        · rcases q with q | q
          · exact (hk (a1.mp q)).elim
          · rw [(zK_bk h hs hk hn hM).mp ⟨c2, c3⟩] at q
            cases q
        · exact zK_sc2 h hs hk hn hM f2 hB ff fK f5 fT hcp hJ gM2 gs gr
end ZKY
