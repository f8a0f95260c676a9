/-! side by side: a new window tiled, the trials -/
section ZKN
variable {ξ μ ν νr ξ' μ' : zm_M} {ts us : Nat → zy_F} {R R' : List Nat} {t t' u u' : zy_F} {s k n m : Nat} {b b' : Int32} {ac : Bool}
/-- a leaf n, m at hand on both sides: the same is done -/
theorem zK_tlN (hs : s < 3) (hk : k < 10) (hkR : k ∉ R) (hI : zt_I ξ (zdT s) R t) (hz : zs ξ (zdT s) R t μ s u) (hn : n ∈ zy_lvs t) (hm : m ∈ zy_lvs u) (p : zs_pl ξ (zdT s) R μ s n m) (hsz : zs_sz ξ (zdT s) R μ) (hkz : μ 235 k = ξ (zdW k + 1) 0 ∧ μ 236 k = ξ (zdW k + 1) 1) (e0 : ξ (zdZ s) 0 = μ 232 s) (e1 : ξ (zdZ s) 1 = μ 233 s) (hax : (if ξ (zdT s + 23) n ≤ ξ (zdT s + 22) n then 0 else 1) = (if ac = true then 0 else 1))
    (f : zd_tiledN ξ ν s k n R t b) (f2 : b = 1 → R' = R ++ [k] ∧ ((∃ a c f, a < 2 ∧ t' = zy_cut n c f t ∧ zt_isCut ξ (zdT s) R t n k a false (ξ (zdW k + 1) 0) (ξ (zdW k + 1) 1) ν (zdT s) c f) ∨ (t' = t ∧ zt_isTab ξ (zdT s) R t n k (ξ (zdW k + 1) 0) (ξ (zdW k + 1) 1) ν (zdT s))))
    (g : zv_tlN μ νr s k m ac u u' b') : b = b' ∧ (b = 1 → zs ν (zdT s) R' t' νr s u') := by
  have n0 : ¬ (0 : Int32) = 1 := by decide
  obtain ⟨abu, hIu⟩ := hz.2
  have tT : ∀ {A : zm_M}, zu_eqT μ s A s → zu_eqT μ s (zu_cq A s 6 24 240) 6 := fun e => e.trans zu_cq_eqT
  -- a trial fits on both sides or on none
  have fit : ∀ {ξ1 X : zm_M} {T1 : zy_F} {U1 : zy_F}, zt_I ξ1 7 (R ++ [k]) T1 → zs ξ1 7 (R ++ [k]) T1 X 6 U1 → zt_frT 7 ξ ξ1 → zu_fr 6 μ X → (∀ v, ξ1 (7 + 5) v = if v = k then ξ (zdW k + 1) 0 else ξ (zdT s + 5) v) → (∀ v, ξ1 (7 + 6) v = if v = k then ξ (zdW k + 1) 1 else ξ (zdT s + 6) v) → zt_fit ξ1 7 (zdZ s) (R ++ [k]) T1 = zu_fit X 6 U1 (μ 232 s) (μ 233 s) := fun {ξ1 X T1 U1} i z fr gr e5 e6 => by
    have hne : ∀ v ∈ R, v ≠ k := fun v hv e => hkR (e ▸ hv)
    have hzX := zs_szF (ν := X) hsz (fun c d r => gr c d (zu_in_not (by omega)))
    refine zs_fit i z (zs_szA (ξ' := ξ1) (V := 7) hzX (fun a ha => ?_) (fun v hv => by rw [e5, if_neg (hne v hv)]) (fun v hv => by rw [e6, if_neg (hne v hv)])) ?_ ?_
    · rw [gr _ _ (zu_in_not (by omega))]
      rcases (by omega : a = 0 ∨ a = 1) with rfl | rfl
      · exact hkz.1.trans (by show _ = ξ1 (7 + 5) k; rw [e5, if_pos rfl])
      · exact hkz.2.trans (by show _ = ξ1 (7 + 6) k; rw [e6, if_pos rfl])
    · rw [fr _ (by unfold zt_out zdZ; omega)]; exact e0
    · rw [fr _ (by unfold zt_out zdZ; omega)]; exact e1
  unfold zd_tiledN at f
  dsimp only at f
  unfold zv_tlN at g
  have e' : (if ac = true then 1 else 0) = 1 - (if ac = true then 0 else 1) := by cases ac <;> rfl
  have ha : (if ac = true then 0 else 1) < 2 := by cases ac <;> decide
  rw [hax] at f
  rw [e'] at g
  generalize (if ac = true then 0 else 1) = a at f g ha
  obtain ⟨ξ1, c1, f1, fr1, k1, f⟩ := f
  obtain ⟨X1, ab1, d1, h1, j1, gr1, g⟩ := g
  have z6 := zs_eqT hI hz (tT zu_eqT.refl)
  have p6 := zs_pl_eqT hIu hm (tT zu_eqT.refl) p
  have t1 := zs_cut7 hI z6 hn hm p6 hk hkR k1 j1
  have q1 := fit k1.1.1 t1 fr1 gr1 k1.2.2.2.1 k1.2.2.2.2.1
  have toS : ∀ {X : zm_M} {T1 U1 : zy_F}, zt_I ν (zdT s) (R ++ [k]) T1 → zs ν (zdT s) (R ++ [k]) T1 X 6 U1 → zs ν (zdT s) (R ++ [k]) T1 (zu_cq X 6 s 24 240) s U1 := fun i z => zs_eqT i z zu_cq_eqT
  rcases f with ⟨r1, rfl, r2⟩ | ⟨r1, ξ2, c2, f2', fr2, k2, f⟩
  · rcases g with ⟨s1, rfl, rfl, rfl⟩ | ⟨s1, -⟩
    · refine ⟨rfl, fun _ => ?_⟩
      obtain ⟨rfl, hh⟩ := f2 rfl
      rcases hh with ⟨a', c', f', ha', rfl, w⟩ | ⟨-, w⟩
      · obtain ⟨rfl, rfl, -⟩ := zt_cut_inj hI ha' ha w r2
        exact toS r2.1.1 (zs_cut hI z6 hn hm p6 hk hkR r2.2.1 r2.2.2.1 r2.2.2.2.2.2.1 r2.2.2.2.2.2.2.1 r2.2.2.2.2.2.2.2 j1)
      · exact (zt_cut_tab hI r2 w).elim
    · have e : zt_fit ξ1 7 (zdZ s) (R ++ [k]) (zy_cut n c1 f1 t) = zu_fit X1 6 (zy_cut m d1 h1 u) (μ 232 s) (μ 233 s) := q1
      rw [r1, s1] at e
      cases e
  · rcases g with ⟨s1, -⟩ | ⟨s1, X2, ab2, d2, h2, j2, gr2, g⟩
    · have e : zt_fit ξ1 7 (zdZ s) (R ++ [k]) (zy_cut n c1 f1 t) = zu_fit X1 6 (zy_cut m d1 h1 u) (μ 232 s) (μ 233 s) := q1
      rw [r1, s1] at e
      cases e
    · have gr12 : zu_fr 6 μ X2 := gr1.trans gr2
      have z62 := zs_eqT hI hz (tT (gr1.eqT (τ := s) (by omega)))
      have p62 := zs_pl_eqT hIu hm (tT (gr1.eqT (τ := s) (by omega))) p
      have t2 := zs_cut7 hI z62 hn hm p62 hk hkR k2 j2
      have q2 : zt_fit ξ2 7 (zdZ s) (R ++ [k]) (zy_cut n c2 f2' t) = zu_fit X2 6 (zy_cut m d2 h2 u) (μ 232 s) (μ 233 s) := fit k2.1.1 t2 fr2 gr12 k2.2.2.2.1 k2.2.2.2.2.1
      rcases f with ⟨r3, rfl, r4⟩ | ⟨r3, ξ3, fr3, k3, f⟩
      · rcases g with ⟨s3, rfl, rfl, rfl⟩ | ⟨s3, -⟩
        · refine ⟨rfl, fun _ => ?_⟩
          obtain ⟨rfl, hh⟩ := f2 rfl
          rcases hh with ⟨a', c', f', ha', rfl, w⟩ | ⟨-, w⟩
          · obtain ⟨rfl, rfl, -⟩ := zt_cut_inj hI ha' (by omega) w r4
            exact toS r4.1.1 (zs_cut hI z62 hn hm p62 hk hkR r4.2.1 r4.2.2.1 r4.2.2.2.2.2.1 r4.2.2.2.2.2.2.1 r4.2.2.2.2.2.2.2 j2)
          · exact (zt_cut_tab hI r4 w).elim
        · rw [r3, s3] at q2
          cases q2
      · rcases g with ⟨s3, -⟩ | ⟨s3, X3, ab3, j3, gr3, g⟩
        · rw [r3, s3] at q2
          cases q2
        · have z63 := zs_eqT hI hz (tT (gr12.eqT (τ := s) (by omega)))
          have p63 := zs_pl_eqT hIu hm (tT (gr12.eqT (τ := s) (by omega))) p
          have t3 := zs_tab7 hI z63 hn hm p63 hk hkR k3 j3
          have q3 := fit k3.1.1 t3 fr3 (gr12.trans gr3) k3.2.2.1 k3.2.2.2.1
          rcases f with ⟨r5, rfl, r6⟩ | ⟨r5, rfl, -⟩
          · rcases g with ⟨s5, rfl, rfl, rfl⟩ | ⟨s5, -⟩
            · refine ⟨rfl, fun _ => ?_⟩
              obtain ⟨rfl, hh⟩ := f2 rfl
              rcases hh with ⟨a', c', f', ha', -, w⟩ | ⟨rfl, w⟩
              · exact (zt_cut_tab hI w r6).elim
              · exact toS r6.1.1 (zs_tab hI z63 hn hm p63 hk hkR r6.2.1 r6.2.2.2.2.1 r6.2.2.2.2.2.1 r6.2.2.2.2.2.2 j3)
            · rw [r5, s5] at q3
              cases q3
          · rcases g with ⟨s5, -⟩ | ⟨s5, rfl, -⟩
            · rw [r5, s5] at q3
              cases q3
            · exact ⟨rfl, fun e => absurd e n0⟩
/-- no leaf at hand -/
theorem zK_tl0 (hs : s < 3) (hk : k < 10) (hkz : μ 235 k = ξ (zdW k + 1) 0 ∧ μ 236 k = ξ (zdW k + 1) 1) (e0 : ξ (zdZ s) 0 = μ 232 s) (e1 : ξ (zdZ s) 1 = μ 233 s) (f : zd_tiled0 ξ ν s k b) (f2 : b = 1 → ∃ n, R' = [k] ∧ t' = .tag n .nil ∧ zt_isNew ξ (zdT s) k (ξ (zdW k + 1) 0) (ξ (zdW k + 1) 1) ν (zdT s) n) (g : zv_tl0 μ νr s k u' b') : b = b' ∧ (b = 1 → zs ν (zdT s) R' t' νr s u') := by
  have n0 : ¬ (0 : Int32) = 1 := by decide
  obtain ⟨ξ1, n, fr, k1, f⟩ := f
  obtain ⟨X, d, j1, g⟩ := g
  have t1 := zs_new (ξ := fun c => ξ (zdT s + (c - 7))) (T := 7) k1.2.1 hk k1.2.2.1 k1.2.2.2.2.2.2.2 j1
  have hz : zs_sz ξ1 7 [k] X := fun a ha w hw => by
    rw [List.mem_singleton.mp hw, j1.2.2.2.2 _ _ (zu_in_not (by omega))]
    rcases (by omega : a = 0 ∨ a = 1) with rfl | rfl
    · exact hkz.1.trans (by show _ = ξ1 (7 + 5) k; rw [k1.2.2.2.1, if_pos rfl])
    · exact hkz.2.trans (by show _ = ξ1 (7 + 6) k; rw [k1.2.2.2.2.1, if_pos rfl])
  have q := zs_fit k1.1.1 t1 hz (z := zdZ s) (w := μ 232 s) (v := μ 233 s) (by rw [fr _ (by unfold zt_out zdZ; omega)]; exact e0) (by rw [fr _ (by unfold zt_out zdZ; omega)]; exact e1)
  rcases f with ⟨r1, rfl, r2⟩ | ⟨r1, rfl, -⟩
  · rcases g with ⟨s1, rfl, rfl, rfl⟩ | ⟨s1, -⟩
    · refine ⟨rfl, fun _ => ?_⟩
      obtain ⟨n', rfl, rfl, w⟩ := f2 rfl
      exact zs_eqT w.1.1 (zs_new (ξ := ξ) (T := zdT s) w.2.1 hk w.2.2.1 w.2.2.2.2.2.2.2 j1) zu_cq_eqT
    · rw [r1, s1] at q
      cases q
  · rcases g with ⟨s1, -⟩ | ⟨s1, rfl, -⟩
    · rw [r1, s1] at q
      cases q
    · exact ⟨rfl, fun e => absurd e n0⟩
end ZKN
