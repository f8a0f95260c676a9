/-! side by side: the focus, a share -/
section ZKC
variable {ξ μ ξ' μ' : zm_M} {row stkC stkC' stk ord : List Nat} {Rs : Nat → List Nat} {ts us : Nat → zy_F} {T τ : Nat} {R : List Nat} {t u : zy_F} {ab : Nat → Int32}
/-- what is shown and the shares are no matter of the tree's form -/
theorem zu_I_sh (h : zu_I μ τ u ab) (e : ∀ c d, zu_in τ c d → c ≠ 250 → c ≠ 247 → μ' c d = μ c d) : zu_I μ' τ u ab ∧ (∀ n ∈ zy_lvs u, zu_tb μ' τ n = zu_tb μ τ n) ∧ ∀ n, n < 24 → zu_fm μ' τ n = zu_fm μ τ n := by
  have e6 : ∀ c n, zu_c6 c = true → n < 24 → c ≠ 250 → c ≠ 247 → μ' c (24 * τ + n) = μ c (24 * τ + n) := fun c n hc hn a b => e _ _ (Or.inr (Or.inl ⟨hc, by omega, by omega⟩)) a b
  have e0 : μ' 243 τ = μ 243 τ := e _ _ (Or.inl ⟨rfl, rfl⟩) (by decide) (by decide)
  have e8 : ∀ n j, n < 24 → j < 10 → μ' 248 (10 * (24 * τ + n) + j) = μ 248 (10 * (24 * τ + n) + j) := fun n j hn hj => e _ _ (Or.inr (Or.inr ⟨rfl, by omega, by omega⟩)) (by decide) (by decide)
  have fm : ∀ n, n < 24 → zu_fm μ' τ n = zu_fm μ τ n := fun n hn => by
    unfold zu_fm
    rw [e6 244 n rfl hn (by decide) (by decide)]
  have tT : ∀ n, n < 24 → ∀ l, zu_T μ τ n l → zu_T μ' τ n l := fun n hn l q => ⟨q.1, (e6 249 n rfl hn (by decide) (by decide)).trans q.2.1, fun j hj => (e8 n j hn (by have := q.1; omega)).trans (q.2.2 j hj)⟩
  obtain ⟨h1, h2, h3, h4, h5⟩ := id h
  refine ⟨⟨h1.imp (fun q => ⟨q.1, e0.trans q.2⟩) (fun q => ⟨q.1, ?_, e0.trans q.2.2.1, q.2.2.2⟩), h2, h3, fun n hn hnu => (e6 244 n rfl hn (by decide) (by decide)).trans (h4 n hn hnu), fun n hn => ?_⟩, fun n hn => ?_, fm⟩
  · exact zy_ok_congr u q.1 h2 (fun x hx => fm x (h3 x hx)) (fun x hx => ⟨e6 245 x rfl (h3 x (zy_cts_ids u q.1 x hx)) (by decide) (by decide), e6 246 x rfl (h3 x (zy_cts_ids u q.1 x hx)) (by decide) (by decide)⟩) (fun x _ _ => rfl) q.2.1
  · obtain ⟨l, t, r⟩ := h5 n hn
    exact ⟨l, tT n (zu_I_lt h hn) l t, r⟩
  · obtain ⟨t1, t2, t3⟩ := zu_I_tb h hn
    exact zu_tb_T (tT n (zu_I_lt h hn) _ t1) t3
theorem zs_chg (hI : zt_I ξ T R t) (h : zs ξ T R t μ τ u) (e3 : ξ' (T + 3) = ξ (T + 3)) (e7 : ξ' (T + 7) = ξ (T + 7)) (e : ∀ c d, zu_in τ c d → c ≠ 250 → c ≠ 247 → μ' c d = μ c d) (hs : ∀ n ∈ zy_lvs t, ∀ m ∈ zy_lvs u, zs_pl ξ T R μ τ n m → μ' 250 (24 * τ + m) = ξ' (T + 12) n) (hc : ∀ n ∈ zy_cts t, ∀ m ∈ zy_cts u, zs_pc ξ T μ τ n m → μ' 247 (24 * τ + m) = ξ' (T + 8) n) : zs ξ' T R t μ' τ u := by
  obtain ⟨h1, ab, h2⟩ := id h
  obtain ⟨i1, i2, i3⟩ := zu_I_sh h2 e
  refine ⟨?_, ab, i1⟩
  rcases zs_wf hI h with ⟨rfl, rfl⟩ | ⟨wt, wu⟩
  · trivial
  · refine zy_sim_mono t wt u wu h1 (fun x hx y hy p => ⟨?_, hs x hx y hy p⟩) (fun x hx y hy p => ⟨?_, hc x hx y hy p⟩)
    · rw [i2 y hy, zt_tb_congr (μ := ξ) (Q := T) e3]; exact p.1
    · rw [i3 y (zu_I_ct h2 hy), e7]; exact p.1
theorem zdT_inj {i j : Nat} (h : zdT i + 12 = zdT j + 12) : i = j := by
  unfold zdT at h
  omega
/-- the focus given on both sides -/
theorem zK0_foc (h : zK0 ξ μ ord Rs ts us) (hI : ∀ s, s < 3 → zt_I ξ (zdT s) (Rs s) (ts s)) (hV : ∀ s, s < 3 → zt_I ξ (zdV s) (Rs (3 + s)) (ts (3 + s))) {k : Nat} (hk : k < 10) (ht : zd_th ξ k = true) (hm : zd_til ξ k = true → ∃ s, s < 3 ∧ ξ (zdW k) 5 = nI s ∧ k ∈ Rs s) (f : zd_foc ξ ξ' k) (g : zv_foc μ μ' row stk us k) : zK0 ξ' μ' ord Rs ts us := by
  obtain ⟨ew, -, -, e4⟩ := (h.1.1 k hk).2 ht
  have til : zd_til ξ k = true ↔ μ 234 k = 1 := by
    rw [ew]
    exact ⟨fun z => (of_decide_eq_true z).2, fun z => decide_eq_true ⟨of_decide_eq_true ht, z⟩⟩
  have eC : ∀ c, c ≠ 3 → c ≠ 4 → c ≠ 5 → c ≠ 6 → (∀ s, s < 3 → c ≠ zdT s + 12) → ξ' c = ξ c := fun c a1 a2 a3 a4 a5 => funext fun b => f.1 c b a1 a2 a3 a4 (fun ⟨_, s, hs, _, e, _⟩ => a5 s hs e)
  have gC : ∀ c d, c ≠ 241 → c ≠ 242 → c ≠ 231 → c ≠ 250 → μ' c d = μ c d := fun c d a1 a2 a3 a4 => g.2.2.2 c d a1 a2 (fun z => a3 z.1) (fun ⟨_, _, _, _, _, _, z, _⟩ => a4 z)
  have m24 : ∀ q m, q < 3 → zu_at μ q (us q) k m → m < 24 := fun q m hq z => by
    obtain ⟨ab, hIq⟩ := (h.2.2.2.1 q hq).2
    exact zu_I_lt hIq z.1
  refine h.gen' hV (fun k hk => eC _ (by unfold zdW; omega) (by unfold zdW; omega) (by unfold zdW; omega) (by unfold zdW; omega) (fun s hs => by unfold zdW zdT; omega)) (fun k hk => eC _ (by unfold zdW; omega) (by unfold zdW; omega) (by unfold zdW; omega) (by unfold zdW; omega) (fun s hs => by unfold zdW zdT; omega))
    (fun s hs => ⟨eC _ (by unfold zdS; omega) (by unfold zdS; omega) (by unfold zdS; omega) (by unfold zdS; omega) (fun q hq => by unfold zdS zdT; omega), eC _ (by unfold zdZ; omega) (by unfold zdZ; omega) (by unfold zdZ; omega) (by unfold zdZ; omega) (fun q hq => by unfold zdZ zdT; omega), eC _ (by unfold zdK; omega) (by unfold zdK; omega) (by unfold zdK; omega) (by unfold zdK; omega) (fun q hq => by unfold zdK zdT; omega), eC _ (by unfold zdQ; omega) (by unfold zdQ; omega) (by unfold zdQ; omega) (by unfold zdQ; omega) (fun q hq => by unfold zdQ zdT; omega)⟩)
    (fun s hs j hj => eC _ (by unfold zdV; omega) (by unfold zdV; omega) (by unfold zdV; omega) (by unfold zdV; omega) (fun q hq => by unfold zdV zdT; omega)) (fun c d r => gC c d (by omega) (by omega) (by omega) (by omega)) (fun s hs => zu_eq_in (fun c d r => g.2.2.2 c d (fun z => zu_in_not (Or.inl (by omega)) r) (fun z => zu_in_not (Or.inl (by omega)) r) (fun z => zu_in_not (Or.inl (by omega)) r) (fun ⟨_, q, m, hq, _, hat, e1, e2⟩ => ?_)) ) (fun _ _ => ⟨rfl, rfl, rfl⟩) (fun s hs => ?_)
  · have := m24 q m hq hat
    subst e1
    rcases r with z | z | z <;> omega
  · have eT : ∀ j, j < 19 → j ≠ 12 → ξ' (zdT s + j) = ξ (zdT s + j) := fun j hj hj2 => eC _ (by unfold zdT; omega) (by unfold zdT; omega) (by unfold zdT; omega) (by unfold zdT; omega) (fun q hq => by unfold zdT; omega)
    by_cases c : zd_til ξ k = true ∧ ξ (zdW k) 5 = nI s
    · obtain ⟨c1, c2⟩ := c
      obtain ⟨s', hs', e5, hkR⟩ := hm c1
      have e := (nI_eq (by omega) (by omega)).mp (c2.symm.trans e5)
      subst e
      have hh : μ 238 k = nI s := (e4 (by rw [(of_decide_eq_true c1).2]; decide)).trans c2
      have k1 := til.mp c1
      obtain ⟨n0, m0, hn0, ek, hat, hp⟩ := zs_at' (hI s hs) (h.2.2.2.1 s hs) hkR
      have hn19 := (zt_I_lvn (hI s hs)).2
      refine zs_chg (hI s hs) (h.2.2.2.1 s hs) (eT 3 (by decide) (by decide)) (eT 7 (by decide) (by decide)) (fun c d r a b => g.2.2.2 c d (fun z => zu_in_not (Or.inl (by omega)) r) (fun z => zu_in_not (Or.inl (by omega)) r) (fun z => zu_in_not (Or.inl (by omega)) r) (fun ⟨_, _, _, _, _, _, z, _⟩ => a z)) (fun n hn m hm p => ?_) (fun n hn m hm p => ?_)
      · have hiff := zs_iff (hI s hs) (h.2.2.2.1 s hs) hn0 hat.1 hp n hn m hm p
        by_cases c3 : n = n0
        · have c4 := hiff.mp c3
          subst c3; subst c4
          rw [g.2.2.1 k1 s m hs hh hat]
          have := f.2 c1 s hs c2
          rw [ek, nI_clamp (by have := hn19 n hn; omega)] at this
          exact this.symm
        · have c4 : m ≠ m0 := fun z => c3 (hiff.mpr z)
          rw [g.2.2.2 250 (24 * s + m) (by decide) (by decide) (by omega) (fun ⟨_, q, m', hq, hh', hat', _, e2⟩ => by
            have e6 := (nI_eq (by omega) (by omega)).mp (hh'.symm.trans hh)
            subst e6
            have e7 := hat.2.2 m' hat'.1 hat'.2.1
            omega)]
          rw [f.1 (zdT s + 12) n (by unfold zdT; omega) (by unfold zdT; omega) (by unfold zdT; omega) (by unfold zdT; omega) (fun ⟨_, q, hq, _, e1, e2⟩ => by
            have e6 := zdT_inj e1
            subst e6
            rw [ek] at e2
            have := hn19 n hn
            have := hn19 n0 hn0
            exact c3 ((nI_eq (by omega) (by omega)).mp e2))]
          exact p.2
      · rw [gC 247 _ (by decide) (by decide) (by decide) (by decide), eT 8 (by decide) (by decide)]
        exact p.2
    · have e12 : ξ' (zdT s + 12) = ξ (zdT s + 12) := funext fun b => f.1 _ b (by unfold zdT; omega) (by unfold zdT; omega) (by unfold zdT; omega) (by unfold zdT; omega) (fun ⟨z1, q, hq, z2, z3, _⟩ => by
        have e6 := zdT_inj z3
        subst e6
        exact c ⟨z1, z2⟩)
      refine zs_cl (hI s hs) (zs_eqT (hI s hs) (h.2.2.2.1 s hs) (zu_eq_in (fun c' d r => g.2.2.2 c' d (fun z => zu_in_not (Or.inl (by omega)) r) (fun z => zu_in_not (Or.inl (by omega)) r) (fun z => zu_in_not (Or.inl (by omega)) r) (fun ⟨z1, q, m, hq, z2, hat, e1, e2⟩ => ?_)))) (eT 3 (by decide) (by decide)) (eT 7 (by decide) (by decide)) (eT 8 (by decide) (by decide)) e12
      have := m24 q m hq hat
      have hqs : q = s := by
        subst e1
        rcases r with z | z | z <;> omega
      subst hqs
      have c1 := til.mpr z1
      exact c ⟨c1, (e4 (by rw [(of_decide_eq_true c1).2]; decide)).symm.trans z2⟩
theorem zK_foc (h : zK ξ μ row stkC stk ord Rs ts us) {k : Nat} (hk : k < 10) (ht : zd_th ξ k = true) (hJ : zJ ξ' (k :: row.erase k) stkC' Rs ts) (f : zd_foc ξ ξ' k) (g : zv_foc μ μ' row stk us k) : ∃ stk', zK ξ' μ' (k :: row.erase k) stkC' stk' ord Rs ts us := by
  have hR := zK_R h
  obtain ⟨h1, h4, h0⟩ := h
  obtain ⟨⟨stk', g1, g2, g3⟩, g4, -, -⟩ := id g
  have h0' := zK0_foc h0 (fun s hs => (h1.2.2.2.1 s hs).1.1) (fun s hs => (h1.2.2.2.2.1 s hs).1.1) hk ht (fun c => by
    obtain ⟨s, hs, a, b, -⟩ := zJ_til h1 hk c
    exact ⟨s, hs, a, b⟩) f g
  refine ⟨stk', hJ, ⟨g4, g1, g2, fun x => ?_⟩, h0'⟩
  have ew := ((h0.1.1 k hk).2 ht).1
  have eW : ∀ x, x < 10 → ξ' (zdW x) = ξ (zdW x) := fun x hx => funext fun b => f.1 _ b (by unfold zdW; omega) (by unfold zdW; omega) (by unfold zdW; omega) (by unfold zdW; omega) (fun ⟨_, s, hs, _, e, _⟩ => by unfold zdW zdT at e; omega)
  have flo : ∀ x, x < 10 → zd_flo ξ' x = zd_flo ξ x := fun x hx => by unfold zd_flo; rw [eW x hx]
  rw [g3 x, h4.2.2.2 x]
  have hk0 : ¬ μ 234 k = 0 := fun z => by
    rw [ew] at z
    rcases (h1.2.2.1 k hk ht).1 with e | e | e | e <;> rw [e] at z <;> exact absurd z (by decide)
  have hfl : 2 ≤ μ 234 k → zd_flo ξ k = true := fun z => decide_eq_true ⟨of_decide_eq_true ht, by rw [← ew]; exact (zR_fl hR hk hk0).mp z⟩
  constructor
  · rintro (⟨a, b⟩ | ⟨a, b⟩)
    · exact ⟨a, by rw [flo x a]; exact b⟩
    · subst a
      exact ⟨hk, by rw [flo x hk]; exact hfl b⟩
  · rintro ⟨a, b⟩
    exact Or.inl ⟨a, by rw [← flo x a]; exact b⟩
end ZKC
