section
/-! side by side: the focus, a share -/
section ZKC
variable {ξ μ ξ' μ' : zm_M} {row stkC stkC' stk ord : List Nat} {Rs : Nat → List Nat} {ts us : Nat → zy_F} {T τ : Nat} {R : List Nat} {t u : zy_F} {ab : Nat → Int32}
/-- what is shown and the shares are no matter of the tree's form -/
theorem zu_I_sh (h : zu_I μ τ u ab) (e : ∀ c d, zu_in τ c d → c ≠ 250 → c ≠ 247 → μ' c d = μ c d) : zu_I μ' τ u ab ∧ (∀ n ∈ zy_lvs u, zu_tb μ' τ n = zu_tb μ τ n) ∧ ∀ n, n < 24 → zu_fm μ' τ n = zu_fm μ τ n := by
  have e6 : ∀ c n, zu_c6 c = true → n < 24 → c ≠ 250 → c ≠ 247 → μ' c (24 * τ + n) = μ c (24 * τ + n) := fun c n hc hn a b => e _ _ (Or.inr (Or.inl ⟨hc, by omega, by omega⟩)) a b
  have e0 : μ' 243 τ = μ 243 τ := e _ _ (Or.inl ⟨rfl, rfl⟩) (by decide) (by decide)
  have e8 : ∀ n j, n < 24 → j < 10 → μ' 248 (10 * (24 * τ + n) + j) = μ 248 (10 * (24 * τ + n) + j) := fun n j hn hj => e _ _ (Or.inr (Or.inr ⟨rfl, by omega, by omega⟩)) (by decide) (by decide)
  have fm : ∀ n, n < 24 → zu_fm μ' τ n = zu_fm μ τ n := fun n hn => by
    unfold zu_fm
    rw [e6 244 n rfl hn (by decide) (by decide)]
  have tT : ∀ n, n < 24 → ∀ l, zu_T μ τ n l → zu_T μ' τ n l := fun n hn l q => ⟨q.1, (e6 249 n rfl hn (by decide) (by decide)).trans q.2.1, fun j hj => (e8 n j hn (by have := q.1; omega)).trans (q.2.2 j hj)⟩
  obtain ⟨h1, h2, h3, h4, h5⟩ := id h
  refine ⟨⟨h1.imp (fun q => ⟨q.1, e0.trans q.2⟩) (fun q => ⟨q.1, ?_, e0.trans q.2.2.1, q.2.2.2⟩), h2, h3, fun n hn hnu => (e6 244 n rfl hn (by decide) (by decide)).trans (h4 n hn hnu), fun n hn => ?_⟩, fun n hn => ?_, fm⟩
  · exact zy_ok_congr u q.1 h2 (fun x hx => fm x (h3 x hx)) (fun x hx => ⟨e6 245 x rfl (h3 x (zy_cts_ids u q.1 x hx)) (by decide) (by decide), e6 246 x rfl (h3 x (zy_cts_ids u q.1 x hx)) (by decide) (by decide)⟩) (fun x _ _ => rfl) q.2.1
  · obtain ⟨l, t, r⟩ := h5 n hn
    exact ⟨l, tT n (zu_I_lt h hn) l t, r⟩
  · obtain ⟨t1, t2, t3⟩ := zu_I_tb h hn
    exact zu_tb_T (tT n (zu_I_lt h hn) _ t1) t3
theorem zs_chg (hI : zt_I ξ T R t) (h : zs ξ T R t μ τ u) (e3 : ξ' (T + 3) = ξ (T + 3)) (e7 : ξ' (T + 7) = ξ (T + 7)) (e : ∀ c d, zu_in τ c d → c ≠ 250 → c ≠ 247 → μ' c d = μ c d) (hs : ∀ n ∈ zy_lvs t, ∀ m ∈ zy_lvs u, zs_pl ξ T R μ τ n m → μ' 250 (24 * τ + m) = ξ' (T + 12) n) (hc : ∀ n ∈ zy_cts t, ∀ m ∈ zy_cts u, zs_pc ξ T μ τ n m → μ' 247 (24 * τ + m) = ξ' (T + 8) n) : zs ξ' T R t μ' τ u := by
  obtain ⟨h1, ab, h2⟩ := id h
  obtain ⟨i1, i2, i3⟩ := zu_I_sh h2 e
  refine ⟨?_, ab, i1⟩
  rcases zs_wf hI h with ⟨rfl, rfl⟩ | ⟨wt, wu⟩
  · trivial
  · refine zy_sim_mono t wt u wu h1 (fun x hx y hy p => ⟨?_, hs x hx y hy p⟩) (fun x hx y hy p => ⟨?_, hc x hx y hy p⟩)
    · rw [i2 y hy, zt_tb_congr (μ := ξ) (Q := T) e3]; exact p.1
    · rw [i3 y (zu_I_ct h2 hy), e7]; exact p.1
theorem zdT_inj {i j : Nat} (h : zdT i + 12 = zdT j + 12) : i = j := by
  unfold zdT at h
  omega
/-- the focus given on both sides -/
theorem zK0_foc (h : zK0 ξ μ ord Rs ts us) (hI : ∀ s, s < 3 → zt_I ξ (zdT s) (Rs s) (ts s)) (hV : ∀ s, s < 3 → zt_I ξ (zdV s) (Rs (3 + s)) (ts (3 + s))) {k : Nat} (hk : k < 10) (ht : zd_th ξ k = true) (hm : zd_til ξ k = true → ∃ s, s < 3 ∧ ξ (zdW k) 5 = nI s ∧ k ∈ Rs s) (f : zd_foc ξ ξ' k) (g : zv_foc μ μ' row stk us k) : zK0 ξ' μ' ord Rs ts us := by
  obtain ⟨ew, -, -, e4⟩ := (h.1.1 k hk).2 ht
  have til : zd_til ξ k = true ↔ μ 234 k = 1 := by
    rw [ew]
    exact ⟨fun z => (of_decide_eq_true z).2, fun z => decide_eq_true ⟨of_decide_eq_true ht, z⟩⟩
  have eC : ∀ c, c ≠ 3 → c ≠ 4 → c ≠ 5 → c ≠ 6 → (∀ s, s < 3 → c ≠ zdT s + 12) → ξ' c = ξ c := fun c a1 a2 a3 a4 a5 => funext fun b => f.1 c b a1 a2 a3 a4 (fun ⟨_, s, hs, _, e, _⟩ => a5 s hs e)
  have gC : ∀ c d, c ≠ 241 → c ≠ 242 → c ≠ 231 → c ≠ 250 → μ' c d = μ c d := fun c d a1 a2 a3 a4 => g.2.2.2 c d a1 a2 (fun z => a3 z.1) (fun ⟨_, _, _, _, _, _, z, _⟩ => a4 z)
  have m24 : ∀ q m, q < 3 → zu_at μ q (us q) k m → m < 24 := fun q m hq z => by
    obtain ⟨ab, hIq⟩ := (h.2.2.2.1 q hq).2
    exact zu_I_lt hIq z.1
  refine h.gen' hV (fun k hk => eC _ (by unfold zdW; omega) (by unfold zdW; omega) (by unfold zdW; omega) (by unfold zdW; omega) (fun s hs => by unfold zdW zdT; omega)) (fun k hk => eC _ (by unfold zdW; omega) (by unfold zdW; omega) (by unfold zdW; omega) (by unfold zdW; omega) (fun s hs => by unfold zdW zdT; omega))
    (fun s hs => ⟨eC _ (by unfold zdS; omega) (by unfold zdS; omega) (by unfold zdS; omega) (by unfold zdS; omega) (fun q hq => by unfold zdS zdT; omega), eC _ (by unfold zdZ; omega) (by unfold zdZ; omega) (by unfold zdZ; omega) (by unfold zdZ; omega) (fun q hq => by unfold zdZ zdT; omega), eC _ (by unfold zdK; omega) (by unfold zdK; omega) (by unfold zdK; omega) (by unfold zdK; omega) (fun q hq => by unfold zdK zdT; omega), eC _ (by unfold zdQ; omega) (by unfold zdQ; omega) (by unfold zdQ; omega) (by unfold zdQ; omega) (fun q hq => by unfold zdQ zdT; omega)⟩)
    (fun s hs j hj => eC _ (by unfold zdV; omega) (by unfold zdV; omega) (by unfold zdV; omega) (by unfold zdV; omega) (fun q hq => by unfold zdV zdT; omega)) (fun c d r => gC c d (by omega) (by omega) (by omega) (by omega)) (fun s hs => zu_eq_in (fun c d r => g.2.2.2 c d (fun z => zu_in_not (Or.inl (by omega)) r) (fun z => zu_in_not (Or.inl (by omega)) r) (fun z => zu_in_not (Or.inl (by omega)) r) (fun ⟨_, q, m, hq, _, hat, e1, e2⟩ => ?_)) ) (fun _ _ => ⟨rfl, rfl, rfl⟩) (fun s hs => ?_)
  · have := m24 q m hq hat
    subst e1
    rcases r with z | z | z <;> omega
  · have eT : ∀ j, j < 19 → j ≠ 12 → ξ' (zdT s + j) = ξ (zdT s + j) := fun j hj hj2 => eC _ (by unfold zdT; omega) (by unfold zdT; omega) (by unfold zdT; omega) (by unfold zdT; omega) (fun q hq => by unfold zdT; omega)
    by_cases c : zd_til ξ k = true ∧ ξ (zdW k) 5 = nI s
    · obtain ⟨c1, c2⟩ := c
      obtain ⟨s', hs', e5, hkR⟩ := hm c1
      have e := (nI_eq (by omega) (by omega)).mp (c2.symm.trans e5)
      subst e
      have hh : μ 238 k = nI s := (e4 (by rw [(of_decide_eq_true c1).2]; decide)).trans c2
      have k1 := til.mp c1
      obtain ⟨n0, m0, hn0, ek, hat, hp⟩ := zs_at' (hI s hs) (h.2.2.2.1 s hs) hkR
      have hn19 := (zt_I_lvn (hI s hs)).2
      refine zs_chg (hI s hs) (h.2.2.2.1 s hs) (eT 3 (by decide) (by decide)) (eT 7 (by decide) (by decide)) (fun c d r a b => g.2.2.2 c d (fun z => zu_in_not (Or.inl (by omega)) r) (fun z => zu_in_not (Or.inl (by omega)) r) (fun z => zu_in_not (Or.inl (by omega)) r) (fun ⟨_, _, _, _, _, _, z, _⟩ => a z)) (fun n hn m hm p => ?_) (fun n hn m hm p => ?_)
      · have hiff := zs_iff (hI s hs) (h.2.2.2.1 s hs) hn0 hat.1 hp n hn m hm p
        by_cases c3 : n = n0
        · have c4 := hiff.mp c3
          subst c3; subst c4
          rw [g.2.2.1 k1 s m hs hh hat]
          have := f.2 c1 s hs c2
          rw [ek, nI_clamp (by have := hn19 n hn; omega)] at this
          exact this.symm
        · have c4 : m ≠ m0 := fun z => c3 (hiff.mpr z)
          rw [g.2.2.2 250 (24 * s + m) (by decide) (by decide) (by omega) (fun ⟨_, q, m', hq, hh', hat', _, e2⟩ => by
            have e6 := (nI_eq (by omega) (by omega)).mp (hh'.symm.trans hh)
            subst e6
            have e7 := hat.2.2 m' hat'.1 hat'.2.1
            omega)]
          rw [f.1 (zdT s + 12) n (by unfold zdT; omega) (by unfold zdT; omega) (by unfold zdT; omega) (by unfold zdT; omega) (fun ⟨_, q, hq, _, e1, e2⟩ => by
            have e6 := zdT_inj e1
            subst e6
            rw [ek] at e2
            have := hn19 n hn
            have := hn19 n0 hn0
            exact c3 ((nI_eq (by omega) (by omega)).mp e2))]
          exact p.2
      · rw [gC 247 _ (by decide) (by decide) (by decide) (by decide), eT 8 (by decide) (by decide)]
        exact p.2
    · have e12 : ξ' (zdT s + 12) = ξ (zdT s + 12) := funext fun b => f.1 _ b (by unfold zdT; omega) (by unfold zdT; omega) (by unfold zdT; omega) (by unfold zdT; omega) (fun ⟨z1, q, hq, z2, z3, _⟩ => by
        have e6 := zdT_inj z3
        subst e6
        exact c ⟨z1, z2⟩)
      refine zs_cl (hI s hs) (zs_eqT (hI s hs) (h.2.2.2.1 s hs) (zu_eq_in (fun c' d r => g.2.2.2 c' d (fun z => zu_in_not (Or.inl (by omega)) r) (fun z => zu_in_not (Or.inl (by omega)) r) (fun z => zu_in_not (Or.inl (by omega)) r) (fun ⟨z1, q, m, hq, z2, hat, e1, e2⟩ => ?_)))) (eT 3 (by decide) (by decide)) (eT 7 (by decide) (by decide)) (eT 8 (by decide) (by decide)) e12
      have := m24 q m hq hat
      have hqs : q = s := by
        subst e1
        rcases r with z | z | z <;> omega
      subst hqs
      have c1 := til.mpr z1
      exact c ⟨c1, (e4 (by rw [(of_decide_eq_true c1).2]; decide)).symm.trans z2⟩
theorem zK_foc (h : zK ξ μ row stkC stk ord Rs ts us) {k : Nat} (hk : k < 10) (ht : zd_th ξ k = true) (hJ : zJ ξ' (k :: row.erase k) stkC' Rs ts) (f : zd_foc ξ ξ' k) (g : zv_foc μ μ' row stk us k) : ∃ stk', zK ξ' μ' (k :: row.erase k) stkC' stk' ord Rs ts us := by
  have hR := zK_R h
  obtain ⟨h1, h4, h0⟩ := h
  obtain ⟨⟨stk', g1, g2, g3⟩, g4, -, -⟩ := id g
  have h0' := zK0_foc h0 (fun s hs => (h1.2.2.2.1 s hs).1.1) (fun s hs => (h1.2.2.2.2.1 s hs).1.1) hk ht (fun c => by
    obtain ⟨s, hs, a, b, -⟩ := zJ_til h1 hk c
    exact ⟨s, hs, a, b⟩) f g
  refine ⟨stk', hJ, ⟨g4, g1, g2, fun x => ?_⟩, h0'⟩
  have ew := ((h0.1.1 k hk).2 ht).1
  have eW : ∀ x, x < 10 → ξ' (zdW x) = ξ (zdW x) := fun x hx => funext fun b => f.1 _ b (by unfold zdW; omega) (by unfold zdW; omega) (by unfold zdW; omega) (by unfold zdW; omega) (fun ⟨_, s, hs, _, e, _⟩ => by unfold zdW zdT at e; omega)
  have flo : ∀ x, x < 10 → zd_flo ξ' x = zd_flo ξ x := fun x hx => by unfold zd_flo; rw [eW x hx]
  rw [g3 x, h4.2.2.2 x]
  have hk0 : ¬ μ 234 k = 0 := fun z => by
    rw [ew] at z
    rcases (h1.2.2.1 k hk ht).1 with e | e | e | e <;> rw [e] at z <;> exact absurd z (by decide)
  have hfl : 2 ≤ μ 234 k → zd_flo ξ k = true := fun z => decide_eq_true ⟨of_decide_eq_true ht, by rw [← ew]; exact (zR_fl hR hk hk0).mp z⟩
  constructor
  · rintro (⟨a, b⟩ | ⟨a, b⟩)
    · exact ⟨a, by rw [flo x a]; exact b⟩
    · subst a
      exact ⟨hk, by rw [flo x hk]; exact hfl b⟩
  · rintro ⟨a, b⟩
    exact Or.inl ⟨a, by rw [← flo x a]; exact b⟩
end ZKC
end
section
/-! side by side: areas and neighbours -/
theorem nI_sub {a b : Nat} (h : b ≤ a) : nI a - nI b = nI (a - b) := by
  have : nI a = nI (a - b) + nI b := by rw [nI_add, Nat.sub_add_cancel h]
  rw [this, Int32.add_sub_cancel]
theorem zy_fp_N {sh : Int32} {W A B : Nat} (hW : W ≤ 400) (h : A + B ≤ W) : ∃ F, zy_fp (nI W) sh (nI A) (nI B) = nI F ∧ A ≤ F ∧ F + B ≤ W := by
  unfold zy_fp zi_bt
  rw [nI_sub (by omega)]
  generalize nI W * sh / 100 = x
  unfold zi_mn zi_mx
  by_cases c1 : nI (W - B) < x
  · rw [if_pos c1]
    by_cases c2 : nI A < nI (W - B)
    · rw [if_pos c2]
      exact ⟨W - B, rfl, by omega, by omega⟩
    · rw [if_neg c2]
      exact ⟨A, rfl, Nat.le_refl _, h⟩
  · rw [if_neg c1]
    by_cases c2 : nI A < x
    · rw [if_pos c2]
      have h0 : ¬ x < 0 := fun z => nI_pos (n := A) (by omega) (Int32.lt_trans c2 z)
      obtain ⟨j, hj, rfl⟩ := nI_of h0
      have e1 := (nI_ltI (a := A) (b := j) (by omega) hj).mp c2
      have e2 : j ≤ W - B := (nI_leI hj (by omega)).mp (Int32.not_lt.mp c1)
      exact ⟨j, rfl, by omega, by omega⟩
    · rw [if_neg c2]
      exact ⟨A, rfl, Nat.le_refl _, h⟩
theorem zy_laid_N {P : Nat → Int32 → Int32 → Int32 → Int32 → Prop} {fm sh lf0 lf1 : Nat → Int32} {g0 g1 : Nat → Nat} : ∀ t, zy_wf t → (zy_lvs t).length ≤ 100 → (∀ n ∈ zy_lvs t, lf0 n = nI (g0 n) ∧ g0 n ≤ 200) → (∀ n ∈ zy_lvs t, lf1 n = nI (g1 n) ∧ g1 n ≤ 200) → (∀ n ∈ zy_cts t, fm n = 0 ∨ fm n = 1) → ∀ x y W V, W ≤ 400 → V ≤ 400 → zy_lsN 0 fm g0 t ≤ W → zy_lsN 1 fm g1 t ≤ V → zy_laid P fm sh (zy_ls 0 fm lf0) (zy_ls 1 fm lf1) t x y (nI W) (nI V) → ∀ n ∈ zy_lvs t, ∃ x y W V, P n x y (nI W) (nI V) ∧ (g0 n ≤ W ∧ W ≤ 400) ∧ g1 n ≤ V ∧ V ≤ 400 := by
  apply zy_ind
  · intro n _ h0 h1 _ x y W V hW hV l0 l1 h m hm
    have : m = n := List.mem_singleton.mp hm
    subst this
    exact ⟨x, y, W, V, h, ⟨l0, hW⟩, l1, hV⟩
  · intro n a b wa wb iha ihb hl h0 h1 hc x y W V hW hV l0 l1 h m hm
    have hl' : (zy_lvs a ++ zy_lvs b).length ≤ 100 := hl
    rw [List.length_append] at hl'
    have ha0 : ∀ n ∈ zy_lvs a, lf0 n = nI (g0 n) ∧ g0 n ≤ 200 := fun n hn => h0 n (List.mem_append_left _ hn)
    have hb0 : ∀ n ∈ zy_lvs b, lf0 n = nI (g0 n) ∧ g0 n ≤ 200 := fun n hn => h0 n (List.mem_append_right _ hn)
    have ha1 : ∀ n ∈ zy_lvs a, lf1 n = nI (g1 n) ∧ g1 n ≤ 200 := fun n hn => h1 n (List.mem_append_left _ hn)
    have hb1 : ∀ n ∈ zy_lvs b, lf1 n = nI (g1 n) ∧ g1 n ≤ 200 := fun n hn => h1 n (List.mem_append_right _ hn)
    have hca : ∀ n ∈ zy_cts a, fm n = 0 ∨ fm n = 1 := fun n hn => hc n (List.mem_cons_of_mem _ (List.mem_append_left _ hn))
    have hcb : ∀ n ∈ zy_cts b, fm n = 0 ∨ fm n = 1 := fun n hn => hc n (List.mem_cons_of_mem _ (List.mem_append_right _ hn))
    have ea0 := (zy_ls_N (a := 0) (fm := fm) a wa (by omega) ha0).1
    have eb0 := (zy_ls_N (a := 0) (fm := fm) b wb (by omega) hb0).1
    have ea1 := (zy_ls_N (a := 1) (fm := fm) a wa (by omega) ha1).1
    have eb1 := (zy_ls_N (a := 1) (fm := fm) b wb (by omega) hb1).1
    have l0' : (if fm n = nI 0 then zy_lsN 0 fm g0 a + zy_lsN 0 fm g0 b else max (zy_lsN 0 fm g0 a) (zy_lsN 0 fm g0 b)) ≤ W := l0
    have l1' : (if fm n = nI 1 then zy_lsN 1 fm g1 a + zy_lsN 1 fm g1 b else max (zy_lsN 1 fm g1 a) (zy_lsN 1 fm g1 b)) ≤ V := l1
    obtain ⟨-, h⟩ := h
    have hm' : m ∈ zy_lvs a ++ zy_lvs b := hm
    rcases hc n (List.mem_cons_self ..) with e | e
    · have n0 : fm n = nI 0 := by rw [e]; decide
      have n1 : ¬ fm n = nI 1 := by rw [e]; decide
      rw [if_pos n0] at l0'
      rw [if_neg n1] at l1'
      rw [if_pos e, ea0, eb0] at h
      obtain ⟨F, eF, f1, f2⟩ := zy_fp_N (sh := sh n) hW l0'
      rw [eF, nI_sub (by omega)] at h
      rcases List.mem_append.mp hm' with hm | hm
      · exact iha (by omega) ha0 ha1 hca _ _ F V (by omega) hV f1 (by omega) h.1 m hm
      · exact ihb (by omega) hb0 hb1 hcb _ _ (W - F) V (by omega) hV (by omega) (by omega) h.2 m hm
    · have n0 : ¬ fm n = nI 0 := by rw [e]; decide
      have n1 : fm n = nI 1 := by rw [e]; decide
      rw [if_neg n0] at l0'
      rw [if_pos n1] at l1'
      rw [if_neg (by rw [e]; decide), ea1, eb1] at h
      obtain ⟨F, eF, f1, f2⟩ := zy_fp_N (sh := sh n) hV l1'
      rw [eF, nI_sub (by omega)] at h
      rcases List.mem_append.mp hm' with hm | hm
      · exact iha (by omega) ha0 ha1 hca _ _ W F hW (by omega) (by omega) f1 h.1 m hm
      · exact ihb (by omega) hb0 hb1 hcb _ _ W (V - F) hW (by omega) (by omega) (by omega) h.2 m hm
theorem zt_lfN_ge {tl : Nat → Nat} {hm : Nat → Int32} {n : Nat} : ∀ (R : List Nat) (m : Nat), m ≤ R.foldl (fun m w => if hm w = nI n then max m (tl w) else m) m ∧ ∀ w ∈ R, hm w = nI n → tl w ≤ R.foldl (fun m w => if hm w = nI n then max m (tl w) else m) m
  | [], m => ⟨Nat.le_refl _, fun _ h => by cases h⟩
  | a :: R, m => by
    obtain ⟨h1, h2⟩ := zt_lfN_ge R (if hm a = nI n then max m (tl a) else m)
    rw [List.foldl_cons]
    refine ⟨Nat.le_trans ?_ h1, fun w hw e => ?_⟩
    · by_cases c : hm a = nI n
      · rw [if_pos c]; omega
      · rw [if_neg c]; omega
    · rcases List.mem_cons.mp hw with rfl | hw
      · rw [if_pos e] at h1 ⊢
        omega
      · exact h2 w hw e
section ZKD
variable {ξ μ ν : zm_M} {row stkC stk ord : List Nat} {Rs : Nat → List Nat} {ts us : Nat → zy_F} {lo : Nat → Nat} {s k sd : Nat}
/-- the areas of a leaf on both sides -/
noncomputable def zK_a (ξ ν : zm_M) (s n m : Nat) : Prop := ∃ x y W V, zt_P ξ (zdT s) n x y (nI W) (nI V) ∧ zu_P ν m x y (nI W) (nI V) ∧ (1 ≤ W ∧ W ≤ 400) ∧ 1 ≤ V ∧ V ≤ 400
theorem zK_areas (h : zK ξ μ row stkC stk ord Rs ts us) (hs : s < 3) (hth : ¬ ξ (zdS s) 3 = 0) (hl : zd_laid ξ s (Rs s) (ts s)) (hv : zv_laid μ ν s (us s)) {w : Nat} (hw : w ∈ Rs s) {m : Nat} (hat : zu_at μ s (us s) w m) : ∃ n, n ∈ zy_lvs (ts s) ∧ ξ (zdT s + 3) w = nI n ∧ zs_pl ξ (zdT s) (Rs s) μ s n m ∧ zK_a ξ ν s n m := by
  have hz := zK_sz h hs
  obtain ⟨h1, h4, h0⟩ := h
  have hC := (h1.2.2.2.1 s hs).1
  have hzs := h0.2.2.2.1 s hs
  obtain ⟨n, hn, hwn⟩ := hC.1.2.2.2.1 w hw
  obtain ⟨m', hat', hp⟩ := zs_at hC.1 hzs hw hn hwn
  have em : m = m' := hat'.2.2 m hat.1 hat.2.1
  subst em
  refine ⟨n, hn, hwn, hp, ?_⟩
  obtain ⟨wt, hni⟩ := zt_I_lv hC.1 hn
  have wu : zy_wf (us s) := by
    obtain ⟨ab, hI⟩ := hzs.2
    exact (zu_I_lv hI hat.1).1
  obtain ⟨-, okM, -⟩ := zt_I_wf hC.1 hni
  -- the same areas
  have sim : zy_sim (fun n m => zt_lf (ξ (zdT s + 5)) (ξ (zdT s + 3)) (Rs s) n = zu_lf μ s 0 m ∧ zt_lf (ξ (zdT s + 6)) (ξ (zdT s + 3)) (Rs s) n = zu_lf μ s 1 m) (fun n m => ξ (zdT s + 7) n = zu_fm μ s m ∧ ξ (zdT s + 8) n = μ 247 (24 * s + m)) (ts s) (us s) :=
    zy_sim_mono _ wt _ wu hzs.1 (fun x hx y hy p => ⟨zs_lf (a := 0) hz (by decide) p, zs_lf (a := 1) hz (by decide) p⟩) (fun x hx y hy p => ⟨p.1.symm, p.2.symm⟩)
  have ar := zy_sim_laid _ wt _ wu sim _ _ _ _ (hl wt) (by
    have q := hv wu
    obtain ⟨z1, z2⟩ := (h0.1.2 s hs).2 hth
    rw [z1, z2] at q
    exact q)
  obtain ⟨m', hm', hp', x, y, w1, v1, pa, pb⟩ := zy_sim_l _ wt _ wu (zy_sim_and _ wt _ wu hzs.1 ar) n hn
  have em : m' = m := by
    refine hat.2.2 m' hm' ?_
    rw [hp'.1]
    exact zt_tb_mem.mpr ⟨hw, hwn⟩
  subst em
  -- they are no smaller than 1
  have hsm := zJ_sm h1 hs
  have t0 := zt_sm_tl hsm (a := 0) (by decide)
  have t1 := zt_sm_tl hsm (a := 1) (by decide)
  obtain ⟨⟨b1, b2, b3, b4⟩, hfit⟩ := h1.2.2.2.2.2 s hs hth
  obtain ⟨W0, hW0, eW⟩ := nI_of2 (M := 400) (n := 400) (by decide) (fun z => absurd (Int32.lt_of_le_of_lt b1 z) (by decide)) b2
  obtain ⟨V0, hV0, eV⟩ := nI_of2 (M := 400) (n := 400) (by decide) (fun z => absurd (Int32.lt_of_le_of_lt b3 z) (by decide)) b4
  obtain ⟨f0, f1⟩ := of_decide_eq_true hfit
  obtain ⟨L0, l0⟩ := zt_lsz_N hC.1 hsm (a := 0) (by decide)
  obtain ⟨L1, l1⟩ := zt_lsz_N hC.1 hsm (a := 1) (by decide)
  rw [L0, eW] at f0
  rw [L1, eV] at f1
  have f0 := (nI_leI (by omega) (by omega)).mp f0
  have f1 := (nI_leI (by omega) (by omega)).mp f1
  have q0 : ∀ n ∈ zy_lvs (ts s), zt_lf (ξ (zdT s + 5)) (ξ (zdT s + 3)) (Rs s) n = nI (zt_lfN (zt_tlN ξ (zdT s) 0) (ξ (zdT s + 3)) (Rs s) n) ∧ zt_lfN (zt_tlN ξ (zdT s) 0) (ξ (zdT s + 3)) (Rs s) n ≤ 200 := fun n _ => ⟨zt_lf_N (Rs s) 0 (by decide) t0, zt_lfN_le (Rs s) 0 (by decide) (fun w hw => (t0 w hw).2)⟩
  have q1 : ∀ n ∈ zy_lvs (ts s), zt_lf (ξ (zdT s + 6)) (ξ (zdT s + 3)) (Rs s) n = nI (zt_lfN (zt_tlN ξ (zdT s) 1) (ξ (zdT s + 3)) (Rs s) n) ∧ zt_lfN (zt_tlN ξ (zdT s) 1) (ξ (zdT s + 3)) (Rs s) n ≤ 200 := fun n _ => ⟨zt_lf_N (Rs s) 0 (by decide) t1, zt_lfN_le (Rs s) 0 (by decide) (fun w hw => (t1 w hw).2)⟩
  have hlen : (zy_lvs (ts s)).length ≤ 100 := by
    have := zy_nodup_le 19 (zy_lvs (ts s)) (zt_I_lvn hC.1).1 (zt_I_lvn hC.1).2
    omega
  have hl' := hl wt
  rw [eW, eV] at hl'
  obtain ⟨x2, y2, W, V, pc, ⟨w1', w2'⟩, v1', v2'⟩ := zy_laid_N _ wt hlen q0 q1 (fun c hc => (zy_ok_ct _ wt okM c hc).1) _ _ W0 V0 hW0 hV0 f0 f1 hl' n hn
  obtain ⟨s5, s6⟩ := (h1.2.2.2.1 s hs).2.2 w hw
  obtain ⟨hw10, hwt, -⟩ := ((h1.2.2.2.1 s hs).2.1 w).mp hw
  obtain ⟨-, ⟨z1, z2, z3, z4⟩, -⟩ := h1.2.2.1 w hw10 (decide_eq_true (of_decide_eq_true hwt).1)
  have g0 : 1 ≤ zt_tlN ξ (zdT s) 0 w := by
    have e := (t0 w hw).1
    have hb := (t0 w hw).2
    have e' : ξ (zdT s + 5) w = nI (zt_tlN ξ (zdT s) 0 w) := e
    rw [s5] at e'
    rw [e', show (1 : Int32) = nI 1 by decide] at z1
    exact (nI_leI (by decide) (by omega)).mp z1
  have g1 : 1 ≤ zt_tlN ξ (zdT s) 1 w := by
    have e := (t1 w hw).1
    have hb := (t1 w hw).2
    have e' : ξ (zdT s + 6) w = nI (zt_tlN ξ (zdT s) 1 w) := e
    rw [s6] at e'
    rw [e', show (1 : Int32) = nI 1 by decide] at z3
    exact (nI_leI (by decide) (by omega)).mp z3
  have r0 : 1 ≤ W := Nat.le_trans g0 (Nat.le_trans ((zt_lfN_ge (Rs s) 0).2 w hw hwn) w1')
  have r1 : 1 ≤ V := Nat.le_trans g1 (Nat.le_trans ((zt_lfN_ge (Rs s) 0).2 w hw hwn) v1')
  have ew : w1 = nI W := pa.2.2.1.symm.trans pc.2.2.1
  have ev : v1 = nI V := pa.2.2.2.symm.trans pc.2.2.2
  subst ew; subst ev
  exact ⟨x, y, W, V, pa, pb, ⟨r0, w2'⟩, r1, v2'⟩
end ZKD
end
section
/-! side by side: neighbours, toward -/
theorem zi_mn_lt (x y : Int32) : (if x < y then x else y) = zi_mn x y := by
  unfold zi_mn
  by_cases c : x < y
  · rw [if_pos c, if_neg (fun z => Int32.lt_irrefl (Int32.lt_trans c z))]
  · rw [if_neg c]
    by_cases c2 : y < x
    · rw [if_pos c2]
    · rw [if_neg c2]
      exact Int32.le_antisymm (Int32.not_lt.mp c) (Int32.not_lt.mp c2)
theorem zi_mx_lt (x y : Int32) : (if y < x then x else y) = zi_mx x y := by
  unfold zi_mx
  by_cases c : y < x
  · rw [if_pos c, if_neg (fun z => Int32.lt_irrefl (Int32.lt_trans c z))]
  · rw [if_neg c]
    by_cases c2 : x < y
    · rw [if_pos c2]
    · rw [if_neg c2]
      exact Int32.le_antisymm (Int32.not_lt.mp c2) (Int32.not_lt.mp c)
theorem zl_nb_congr {f g : Nat → Int32} : ∀ (l : List Nat) (b m : Int32), (∀ i ∈ l, f i = g i) → zl_nb f l b m = zl_nb g l b m
  | [], _, _, _ => rfl
  | a :: l, b, m, h => by
    show (if m < f a then zl_nb f l (nI a) (f a) else zl_nb f l b m) = (if m < g a then zl_nb g l (nI a) (g a) else zl_nb g l b m)
    rw [h a (List.mem_cons_self ..), zl_nb_congr l (nI a) (g a) (fun i hi => h i (List.mem_cons_of_mem _ hi)), zl_nb_congr l b m (fun i hi => h i (List.mem_cons_of_mem _ hi))]
theorem zl_nb_two {f : Nat → Int32} : ∀ (l : List Nat) (b1 b2 m : Int32), (zl_nb f l b1 m = b1 ∧ zl_nb f l b2 m = b2) ∨ ∃ i ∈ l, zl_nb f l b1 m = nI i ∧ zl_nb f l b2 m = nI i
  | [], _, _, _ => Or.inl ⟨rfl, rfl⟩
  | a :: l, b1, b2, m => by
    show ((if m < f a then zl_nb f l (nI a) (f a) else zl_nb f l b1 m) = b1 ∧ (if m < f a then zl_nb f l (nI a) (f a) else zl_nb f l b2 m) = b2) ∨ ∃ i ∈ a :: l, (if m < f a then zl_nb f l (nI a) (f a) else zl_nb f l b1 m) = nI i ∧ (if m < f a then zl_nb f l (nI a) (f a) else zl_nb f l b2 m) = nI i
    by_cases c : m < f a
    · rw [if_pos c, if_pos c]
      rcases zl_nb_or f l (nI a) (f a) with e | ⟨i, hi, e, -⟩
      · exact Or.inr ⟨a, List.mem_cons_self .., e, e⟩
      · exact Or.inr ⟨i, List.mem_cons_of_mem _ hi, e, e⟩
    · rw [if_neg c, if_neg c]
      rcases zl_nb_two (f := f) l b1 b2 m with e | ⟨i, hi, e⟩
      · exact Or.inl e
      · exact Or.inr ⟨i, List.mem_cons_of_mem _ hi, e⟩
section ZKE
variable {ξ μ ν ξ' μ' : zm_M} {row row' stkC stkC' stk ord : List Nat} {Rs : Nat → List Nat} {ts us : Nat → zy_F} {lo : Nat → Nat} {s k sd : Nat}
theorem zK_kind (h : zK ξ μ row stkC stk ord Rs ts us) {k : Nat} (hk : k < 10) : (zd_til ξ k = true ↔ μ 234 k = 1) ∧ (zd_til ξ k = true → μ 238 k = ξ (zdW k) 5) ∧ (zd_th ξ k = true ↔ ¬ μ 234 k = 0) := by
  obtain ⟨h1, -, h0⟩ := h
  cases c : zd_th ξ k with
  | false =>
    have e0 := (h0.1.1 k hk).1 c
    have nt : ¬ zd_til ξ k = true := fun z => by
      have : zd_th ξ k = true := decide_eq_true (of_decide_eq_true z).1
      rw [c] at this
      cases this
    exact ⟨⟨fun z => absurd z nt, (fun z => by rw [e0] at z; exact absurd z (by decide))⟩, fun z => absurd z nt, ⟨(fun z => by cases z), fun z => absurd e0 z⟩⟩
  | true =>
    obtain ⟨e1, -, -, e4⟩ := (h0.1.1 k hk).2 c
    have c2 := of_decide_eq_true c
    refine ⟨?_, fun z => e4 (by rw [(of_decide_eq_true z).2]; decide), ⟨fun _ z => ?_, fun _ => rfl⟩⟩
    · rw [e1]
      exact ⟨fun z => (of_decide_eq_true z).2, fun z => decide_eq_true ⟨c2, z⟩⟩
    · rw [e1] at z
      rcases (h1.2.2.1 k hk c).1 with e | e | e | e <;> rw [e] at z <;> exact absurd z (by decide)
/-- shown on both sides -/
theorem zK_shn (h : zK ξ μ row stkC stk ord Rs ts us) (hk : k < 10) (hs : s < 3) : zd_shn ξ s k ↔ zv_shn μ us s k := by
  obtain ⟨q1, q2, q3⟩ := zK_kind h hk
  obtain ⟨h1, -, h0⟩ := h
  have hC := (h1.2.2.2.1 s hs).1
  have hzs := h0.2.2.2.1 s hs
  constructor
  · rintro ⟨a, b, c⟩
    have hkR : k ∈ Rs s := ((h1.2.2.2.1 s hs).2.1 k).mpr ⟨hk, a, b⟩
    obtain ⟨n, m, hn, ek, hat, hp⟩ := zs_at' hC.1 hzs hkR
    refine ⟨q1.mp a, (q2 a).trans b, m, hat, ?_⟩
    rw [hp.2]
    rw [ek, nI_clamp (by have := (zt_I_lvn hC.1).2 n hn; omega)] at c
    exact c
  · rintro ⟨a, b, m, hat, c⟩
    have a' := q1.mpr a
    have b' := (q2 a').symm.trans b
    have hkR : k ∈ Rs s := ((h1.2.2.2.1 s hs).2.1 k).mpr ⟨hk, a', b'⟩
    obtain ⟨n, m', hn, ek, hat', hp⟩ := zs_at' hC.1 hzs hkR
    have em := hat.2.2 m' hat'.1 hat'.2.1
    subst em
    refine ⟨a', b', ?_⟩
    rw [ek, nI_clamp (by have := (zt_I_lvn hC.1).2 n hn; omega)]
    rw [hp.2] at c
    exact c
theorem zt_so_of {T n o : Nat} {x y w v : Int32} (hn : n < 19) (e : ξ (T + 3) o = nI n) (p : zt_P ξ T n x y w v) : (zt_so ξ T 0 o = x ∧ zt_so ξ T 1 o = y) ∧ zt_lo ξ T 0 o = w ∧ zt_lo ξ T 1 o = v := by
  have c : ¬ ξ (T + 3) o < 0 := by rw [e]; exact nI_pos (by omega)
  unfold zt_so zt_lo
  rw [if_neg c, if_neg c, if_neg c, if_neg c, e, nI_clamp (by omega)]
  exact ⟨⟨p.1, p.2.1⟩, p.2.2.1, p.2.2.2⟩
/-- what a window counts as a neighbour, on both sides -/
theorem zK_nf (h : zK ξ μ row stkC stk ord Rs ts us) (hs : s < 3) (hsd : sd < 4) (hth : ¬ ξ (zdS s) 3 = 0) (hl : zd_laid ξ s (Rs s) (ts s)) (hv : zv_laid μ ν s (us s)) (fY : zv_frY μ ν) (hlo : zv_los μ us lo) (hkR : k ∈ Rs s) {o : Nat} (ho : o < 10) : zt_nf ξ (zdT s) k sd o = zv_nf ν s k sd lo o := by
  obtain ⟨q1, q2, q3⟩ := zK_kind h ho
  have hk := ((h.1.2.2.2.1 s hs).2.1 k).mp hkR
  obtain ⟨k1, k2, -⟩ := zK_kind h hk.1
  have hC := (h.1.2.2.2.1 s hs).1
  have e4 : ν 234 o = μ 234 o := fY _ _ (by omega) (by omega)
  have e8 : ν 238 o = μ 238 o := fY _ _ (by omega) (by omega)
  unfold zt_nf zv_nf
  rw [e4, e8]
  by_cases c : o ∈ Rs s
  · obtain ⟨-, ot, osc⟩ := ((h.1.2.2.2.1 s hs).2.1 o).mp c
    have ato := hlo s o hs ho (q1.mp ot) ((q2 ot).trans osc)
    have atk := hlo s k hs hk.1 (k1.mp hk.2.1) ((k2 hk.2.1).trans hk.2.2)
    obtain ⟨n, hn, en, hp, x, y, W, V, pa, pb, ⟨w1, w2⟩, v1, v2⟩ := zK_areas h hs hth hl hv c ato
    obtain ⟨n', hn', en', hp', x', y', W', V', pa', pb', ⟨w1', w2'⟩, v1', v2'⟩ := zK_areas h hs hth hl hv hkR atk
    have n19 := (zt_I_lvn hC.1).2 n hn
    have n19' := (zt_I_lvn hC.1).2 n' hn'
    obtain ⟨⟨s0, s1⟩, l0, l1⟩ := zt_so_of n19 en pa
    obtain ⟨⟨s0', s1'⟩, l0', l1'⟩ := zt_so_of n19' en' pa'
    have nn : ¬ ξ (zdT s + 3) o < 0 := by rw [en]; exact nI_pos (by omega)
    have e50 : ν 250 (24 * s + lo o) = ξ (zdT s + 12) n := (fY _ _ (by omega) (by omega)).trans hp.2
    rw [e50, en, nI_clamp (by omega)]
    have nn' : ¬ nI n < 0 := nI_pos (by omega)
    by_cases ek : o = k
    · subst ek
      have hme : zt_me ξ (zdT s) o o sd = false := by
        have ne : ∀ (p : Int32) (A : Nat), 1 ≤ A → A ≤ 400 → ¬ p + nI A = p := fun p A a b z => by
          have : nI A = 0 := by
            have e : nI A + p - p = p - p := by rw [Int32.add_comm, z]
            rw [Int32.add_sub_cancel, Int32.sub_self] at e
            exact e
          exact nI_ne0 a (by omega) this
        unfold zt_me
        match sd, hsd with
        | 0, _ =>
          show decide (zt_so ξ (zdT s) 0 o + zt_lo ξ (zdT s) 0 o = zt_so ξ (zdT s) 0 o) = false
          rw [s0, l0]
          exact decide_eq_false (ne _ _ w1 w2)
        | 1, _ =>
          show decide (zt_so ξ (zdT s) 0 o = zt_so ξ (zdT s) 0 o + zt_lo ξ (zdT s) 0 o) = false
          rw [s0, l0]
          exact decide_eq_false (fun z => ne _ _ w1 w2 z.symm)
        | 2, _ =>
          show decide (zt_so ξ (zdT s) 1 o + zt_lo ξ (zdT s) 1 o = zt_so ξ (zdT s) 1 o) = false
          rw [s1, l1]
          exact decide_eq_false (ne _ _ v1 v2)
        | 3, _ =>
          show decide (zt_so ξ (zdT s) 1 o = zt_so ξ (zdT s) 1 o + zt_lo ξ (zdT s) 1 o) = false
          rw [s1, l1]
          exact decide_eq_false (fun z => ne _ _ v1 v2 z.symm)
      rw [if_neg (fun z => by rw [hme] at z; cases z.2), if_neg (fun z => z.1.1 rfl)]
    · have hme : zt_me ξ (zdT s) k o sd = zv_me ν sd (lo k) (lo o) := by
        unfold zt_me zv_me
        match sd, hsd with
        | 0, _ =>
          show decide (zt_so ξ (zdT s) 0 o + zt_lo ξ (zdT s) 0 o = zt_so ξ (zdT s) 0 k) = decide (ν 255 (lo o) + ν 257 (lo o) = ν 255 (lo k))
          rw [s0, l0, s0', pb.1, pb.2.2.1, pb'.1]
        | 1, _ =>
          show decide (zt_so ξ (zdT s) 0 o = zt_so ξ (zdT s) 0 k + zt_lo ξ (zdT s) 0 k) = decide (ν 255 (lo k) + ν 257 (lo k) = ν 255 (lo o))
          rw [s0, l0', s0', pb.1, pb'.2.2.1, pb'.1]
          exact decide_eq_decide.mpr eq_comm
        | 2, _ =>
          show decide (zt_so ξ (zdT s) 1 o + zt_lo ξ (zdT s) 1 o = zt_so ξ (zdT s) 1 k) = decide (ν 256 (lo o) + ν 258 (lo o) = ν 256 (lo k))
          rw [s1, l1, s1', pb.2.1, pb.2.2.2, pb'.2.1]
        | 3, _ =>
          show decide (zt_so ξ (zdT s) 1 o = zt_so ξ (zdT s) 1 k + zt_lo ξ (zdT s) 1 k) = decide (ν 256 (lo k) + ν 258 (lo k) = ν 256 (lo o))
          rw [s1, l1', s1', pb.2.1, pb'.2.2.2, pb'.2.1]
          exact decide_eq_decide.mpr eq_comm
      have hcb : zt_cb ξ (zdT s) k o (1 - sd / 2) = zv_cb ν sd (lo k) (lo o) := by
        unfold zt_cb zv_cb
        simp only [zi_mn_lt, zi_mx_lt]
        match sd, hsd with
        | 0, _ =>
          show zi_mn (zt_so ξ (zdT s) 1 k + zt_lo ξ (zdT s) 1 k) (zt_so ξ (zdT s) 1 o + zt_lo ξ (zdT s) 1 o) - zi_mx (zt_so ξ (zdT s) 1 k) (zt_so ξ (zdT s) 1 o) = _
          rw [s1, l1, s1', l1', if_pos (by decide), pb.2.1, pb.2.2.2, pb'.2.1, pb'.2.2.2]
        | 1, _ =>
          show zi_mn (zt_so ξ (zdT s) 1 k + zt_lo ξ (zdT s) 1 k) (zt_so ξ (zdT s) 1 o + zt_lo ξ (zdT s) 1 o) - zi_mx (zt_so ξ (zdT s) 1 k) (zt_so ξ (zdT s) 1 o) = _
          rw [s1, l1, s1', l1', if_pos (by decide), pb.2.1, pb.2.2.2, pb'.2.1, pb'.2.2.2]
        | 2, _ =>
          show zi_mn (zt_so ξ (zdT s) 0 k + zt_lo ξ (zdT s) 0 k) (zt_so ξ (zdT s) 0 o + zt_lo ξ (zdT s) 0 o) - zi_mx (zt_so ξ (zdT s) 0 k) (zt_so ξ (zdT s) 0 o) = _
          rw [s0, l0, s0', l0', if_neg (by decide), pb.1, pb.2.2.1, pb'.1, pb'.2.2.1]
        | 3, _ =>
          show zi_mn (zt_so ξ (zdT s) 0 k + zt_lo ξ (zdT s) 0 k) (zt_so ξ (zdT s) 0 o + zt_lo ξ (zdT s) 0 o) - zi_mx (zt_so ξ (zdT s) 0 k) (zt_so ξ (zdT s) 0 o) = _
          rw [s0, l0, s0', l0', if_neg (by decide), pb.1, pb.2.2.1, pb'.1, pb'.2.2.1]
      rw [hme, hcb]
      by_cases c2 : ξ (zdT s + 12) n = nI o ∧ zv_me ν sd (lo k) (lo o) = true
      · rw [if_pos ⟨⟨nn', c2.1⟩, c2.2⟩, if_pos ⟨⟨ek, q1.mp ot, (q2 ot).trans osc, c2.1⟩, c2.2⟩]
      · rw [if_neg (fun z => c2 ⟨z.1.2, z.2⟩), if_neg (fun z => c2 ⟨z.1.2.2.2, z.2⟩)]
  · have e3 : ξ (zdT s + 3) o = -1 := hC.1.2.2.2.2.1 o ho c
    rw [if_neg (fun z => z.1.1 (by rw [e3]; decide)), if_neg (fun z => c ?_)]
    have ot := q1.mpr z.1.2.1
    exact ((h.1.2.2.2.1 s hs).2.1 o).mpr ⟨ho, ot, (q2 ot).symm.trans z.1.2.2.1⟩
theorem zK_nbr (h : zK ξ μ row stkC stk ord Rs ts us) (hs : s < 3) (hsd : sd < 4) (hl : zd_laid ξ s (Rs s) (ts s)) (hv : zv_laid μ ν s (us s)) (fY : zv_frY μ ν) (hlo : zv_los μ us lo) (hk : k < 10) (hsh : zd_shn ξ s k) : (zd_ngb ξ s k sd = -1000000005 ∧ zl_nb (zv_nf ν s k sd lo) (List.range 10) (-1) 0 = -1) ∨ ∃ i, i < 10 ∧ zd_ngb ξ s k sd = nI i ∧ zl_nb (zv_nf ν s k sd lo) (List.range 10) (-1) 0 = nI i := by
  have hkR : k ∈ Rs s := ((h.1.2.2.2.1 s hs).2.1 k).mpr ⟨hk, hsh.1, hsh.2.1⟩
  have hth : ¬ ξ (zdS s) 3 = 0 := by
    obtain ⟨t1, t2⟩ := of_decide_eq_true hsh.1
    obtain ⟨q, hq, e1, e2⟩ := (h.1.2.2.1 k hk (decide_eq_true t1)).2.2.1 (by rw [t2]; decide)
    have := (nI_eq (by omega) (by omega)).mp (hsh.2.1.symm.trans e1)
    subst this
    exact e2
  unfold zd_ngb
  rw [zl_nb_congr (List.range 10) _ _ (fun i hi => zK_nf h hs hsd hth hl hv fY hlo hkR (List.mem_range.mp hi))]
  rcases zl_nb_two (f := zv_nf ν s k sd lo) (List.range 10) (-1000000005) (-1) 0 with e | ⟨i, hi, e⟩
  · exact Or.inl e
  · exact Or.inr ⟨i, List.mem_range.mp hi, e⟩
end ZKE
end
section
/-! side by side: toward, what is forgotten, move -/
section ZKF
variable {ξ μ ν ξ' μ' : zm_M} {row row' stkC stkC' stk ord : List Nat} {Rs : Nat → List Nat} {ts us : Nat → zy_F} {s k sd : Nat}
theorem zJ_row0 (h : zJ ξ row stkC Rs ts) (hne : row ≠ []) : row.getD 0 0 < 10 := ((h.1.2.2 _).mp (zl_mem (List.length_pos_iff.mpr hne))).1
theorem zK_tow (h : zK ξ μ row stkC stk ord Rs ts us) {x : Int32} (hJ : zJ ξ' row' stkC' Rs ts)
    (f : ((∀ sd, sd < 4 → x = nI sd → ∀ s, s < 3 → row ≠ [] → ¬ zd_shn ξ s (row.getD 0 0)) ∧ ξ' = ξ ∧ row' = row) ∨
     (∃ sd s ξ1, sd < 4 ∧ s < 3 ∧ x = nI sd ∧ row ≠ [] ∧ zd_shn ξ s (row.getD 0 0) ∧ zJ_eqv ξ ξ1 ∧ (∀ q, q < 3 → zd_laid ξ1 q (Rs q) (ts q)) ∧
       ((zd_ngb ξ1 s (row.getD 0 0) sd = -1000000005 ∧ ξ' = ξ1 ∧ row' = row) ∨ ∃ i, i < 10 ∧ zd_th ξ i = true ∧ zd_ngb ξ1 s (row.getD 0 0) sd = nI i ∧ row' = i :: row.erase i ∧ zd_foc ξ1 ξ' i)))
    (g : zv_twd μ μ' row stk us x) : ∃ stkC'' stk', zK ξ' μ' row' stkC'' stk' ord Rs ts us := by
  rcases f with ⟨f1, rfl, rfl⟩ | ⟨sd, s, ξ1, hsd, hs, rfl, hne, hsh, he, hl, f2⟩
  · rcases g with ⟨-, rfl⟩ | ⟨sd, s, μ1, lo, hsd, hs, rfl, hne, hsh, -⟩
    · exact ⟨_, _, h⟩
    · exact absurd ((zK_shn h (zJ_row0 h.1 hne) hs).mpr hsh) (f1 sd hsd rfl s hs hne)
  · rcases g with ⟨g1, rfl⟩ | ⟨sd', s', μ1, lo, hsd', hs', ex, -, hsh', hlo, hv, fY, g2⟩
    · exact absurd ((zK_shn h (zJ_row0 h.1 hne) hs).mp hsh) (g1 sd hsd rfl s hs hne)
    · have e1 := (nI_eq (by omega) (by omega)).mp ex
      subst e1
      have hk := zJ_row0 h.1 hne
      generalize row.getD 0 0 = k at hsh hsh' hk f2 g2
      have e2 := (nI_eq (by omega) (by omega)).mp (((zK_shn h hk hs').mpr hsh').2.1.symm.trans hsh.2.1)
      subst e2
      have h1 := h.scr he (zM_fr.refl (μ := μ))
      have h2 := h.scr he fY.fr
      have hnb := zK_nbr h1 hs hsd (hl _ hs) hv fY hlo hk ((zK_shn h1 hk hs).mpr hsh')
      rcases f2 with ⟨f3, rfl, rfl⟩ | ⟨i, hi, hit, f3, rfl, f4⟩
      · rcases g2 with ⟨-, rfl⟩ | ⟨j, hj, -, g4, -⟩
        · exact ⟨_, _, h2⟩
        · rcases hnb with ⟨-, e⟩ | ⟨p, hp, e, -⟩
          · rw [e] at g4
            exact absurd (by rw [← g4]; decide) (nI_pos (n := j) (by omega))
          · rw [f3] at e
            exact absurd (by rw [← e]; decide) (nI_pos (n := p) (by omega))
      · have hit1 : zd_th ξ1 i = true := by
          unfold zd_th at *
          rw [he _ (zJn_W hi).1]
          exact hit
        rcases g2 with ⟨g3, -⟩ | ⟨j, hj, -, g4, g5⟩
        · rcases hnb with ⟨e, -⟩ | ⟨p, hp, -, e⟩
          · rw [f3] at e
            exact absurd (by rw [e]; decide) (nI_pos (n := i) (by omega))
          · rw [g3] at e
            exact absurd (by rw [← e]; decide) (nI_pos (n := p) (by omega))
        · have : i = j := by
            rcases hnb with ⟨e, -⟩ | ⟨p, hp, e, e'⟩
            · rw [f3] at e
              exact absurd (by rw [e]; decide) (nI_pos (n := i) (by omega))
            · have a := (nI_eq (by omega) (by omega)).mp (f3.symm.trans e)
              have b := (nI_eq (by omega) (by omega)).mp (g4.symm.trans e')
              omega
          subst this
          obtain ⟨stk', q⟩ := zK_foc h2 hi hit1 hJ f4 g5
          exact ⟨_, stk', q⟩
/-- what is forgotten on both sides -/
theorem zK0_fgt {p : Nat → Bool} (h : zK0 ξ μ ord Rs ts us) (hI : ∀ s, s < 3 → zt_I ξ (zdT s) (Rs s) (ts s)) (hV : ∀ s, s < 3 → zt_I ξ (zdV s) (Rs (3 + s)) (ts (3 + s))) (f : zd_fgt ξ ξ' p) (g1 : ∀ s, s < 3 → (μ' 251 s = 0 ↔ μ 251 s = 0 ∨ p s = true)) (g2 : ∀ c d, (232 ≤ c ∧ c ≤ 238) ∨ c = 252 → μ' c d = μ c d) (hT : ∀ τ, zu_eqT μ τ μ' τ) : zK0 ξ' μ' ord Rs ts us := by
  obtain ⟨h2, h3, h5, h6, h7⟩ := h
  have eC : ∀ c, (∀ s, s < 3 → c ≠ zdK s) → ξ' c = ξ c := fun c hc => funext fun b => f.2 c b (fun s hs e => absurd e (hc s hs))
  have eW : ∀ k, k < 10 → ξ' (zdW k) = ξ (zdW k) := fun k hk => eC _ (fun s hs => by unfold zdW zdK; omega)
  have eL : ∀ k, k < 10 → ξ' (zdW k + 1) = ξ (zdW k + 1) := fun k hk => eC _ (fun s hs => by unfold zdW zdK; omega)
  have eS : ∀ s, s < 3 → ξ' (zdS s) = ξ (zdS s) := fun s hs => eC _ (fun q hq => by unfold zdS zdK; omega)
  have eZ : ∀ s, s < 3 → ξ' (zdZ s) = ξ (zdZ s) := fun s hs => eC _ (fun q hq => by unfold zdZ zdK; omega)
  have eQ : ∀ s, s < 3 → ξ' (zdQ s) = ξ (zdQ s) := fun s hs => eC _ (fun q hq => by unfold zdQ zdK; omega)
  have eT : ∀ s, s < 3 → ∀ j, j < 19 → ξ' (zdT s + j) = ξ (zdT s + j) := fun s hs j hj => eC _ (fun q hq => by unfold zdT zdK; omega)
  have eV : ∀ s, s < 3 → ∀ j, j < 19 → ξ' (zdV s + j) = ξ (zdV s + j) := fun s hs j hj => eC _ (fun q hq => by unfold zdV zdK; omega)
  have th : ∀ k, k < 10 → zd_th ξ' k = zd_th ξ k := fun k hk => by unfold zd_th; rw [eW k hk]
  have has : ∀ s k, s < 3 → zd_has ξ' s k = (!p s && zd_has ξ s k) := fun s k hs => by
    unfold zd_has
    rw [f.1 s hs, eQ s hs, eV s hs 3 (by decide)]
    cases p s with
    | true => simp
    | false => simp
  refine ⟨⟨fun k hk => ?_, fun s hs => ?_⟩, fun k hk a b => ?_, ⟨h5.1, fun x => ?_, fun x hx a => ?_⟩, fun s hs => ?_, fun d hd => ?_, fun s hs => ?_⟩
  · rw [th k hk, eW k hk, eL k hk, g2 234 k (by omega), g2 235 k (by omega), g2 236 k (by omega), g2 237 k (by omega), g2 238 k (by omega)]
    exact h2.1 k hk
  · rw [eS s hs, eZ s hs, g2 232 s (by omega), g2 233 s (by omega)]
    exact h2.2 s hs
  · rw [th k hk] at a
    rw [eW k hk] at b ⊢
    obtain ⟨o, ho, q1, q2, q3, q4⟩ := h3 k hk a b
    refine ⟨o, ho, q1, by rw [eW o ho]; exact q2, by rw [eW o ho]; exact q3, fun s hs z => ?_⟩
    rw [has s _ hs, Bool.and_eq_true] at z ⊢
    exact ⟨z.1, q4 s hs z.2⟩
  · rw [g2 234 x (by omega)]
    exact h5.2.1 x
  · rw [g2 234 x (by omega)] at a
    rw [g2 237 x (by omega)]
    exact h5.2.2 x hx a
  · exact zs_cl (hI s hs) (zs_eqT (hI s hs) (h6 s hs) (hT _)) (eT s hs 3 (by decide)) (eT s hs 7 (by decide)) (eT s hs 8 (by decide)) (eT s hs 12 (by decide))
  · rw [g2 252 d (by omega)]
    exact h7.1 d hd
  · obtain ⟨k1, k2⟩ := h7.2 s hs
    rw [g1 s hs, f.1 s hs]
    cases c : p s with
    | true => exact ⟨⟨fun _ => rfl, fun _ => Or.inr rfl⟩, fun z => absurd rfl z⟩
    | false =>
      refine ⟨⟨fun z => k1.mp (z.resolve_right (fun w => by cases w)), fun z => Or.inl (k1.mpr z)⟩, fun z => ⟨fun k hk => ?_, ?_⟩⟩
      · rw [has s k hs, c, g2 252 _ (by omega)]
        exact (k2 z).1 k hk
      · exact zs_cl (hV s hs) (zs_eqT (hV s hs) (k2 z).2 (hT _)) (eV s hs 3 (by decide)) (eV s hs 7 (by decide)) (eV s hs 8 (by decide)) (eV s hs 12 (by decide))
theorem zK_fgt {p : Nat → Bool} (h : zK ξ μ row stkC stk ord Rs ts us) (f : zd_fgt ξ ξ' p) (g1 : ∀ s, s < 3 → (μ' 251 s = 0 ↔ μ 251 s = 0 ∨ p s = true)) (g2 : ∀ c d, c ≠ 239 → c ≠ 240 → c ≠ 251 → μ' c d = μ c d) : zK ξ' μ' row stkC stk ord Rs ts us := by
  obtain ⟨h1, h4, h0⟩ := h
  have hT : ∀ τ, zu_eqT μ τ μ' τ := fun τ => zu_eq_in (fun c d r => g2 c d (fun z => zu_in_not (Or.inl (by omega)) r) (fun z => zu_in_not (Or.inl (by omega)) r) (fun z => zu_in_not (Or.inr (by omega)) r))
  have eW : ∀ k, k < 10 → ξ' (zdW k) = ξ (zdW k) := fun k hk => funext fun b => f.2 _ b (fun s hs e => by unfold zdW zdK at e; omega)
  exact ⟨h1.fgt f, h4.gen eW (fun C q l hC g => ⟨g.1, by rw [g2 231 q (by decide) (by decide) (by decide)]; exact g.2.1, fun j hj => by rw [g2 C j (by omega) (by omega) (by omega)]; exact g.2.2 j hj⟩),
    zK0_fgt h0 (fun s hs => (h1.2.2.2.1 s hs).1.1) (fun s hs => (h1.2.2.2.2.1 s hs).1.1) f g1 (fun c d r => g2 c d (by omega) (by omega) (by omega)) hT⟩
theorem zK_flo (h : zK ξ μ row stkC stk ord Rs ts us) (hk : k < 10) : zd_flo ξ k = true ↔ ¬ μ 234 k = 0 ∧ ¬ μ 234 k = 1 := by
  obtain ⟨q1, q2, q3⟩ := zK_kind h hk
  rw [← q3, ← q1]
  constructor
  · intro z
    obtain ⟨a, b⟩ := of_decide_eq_true z
    exact ⟨decide_eq_true a, fun w => b (of_decide_eq_true w).2⟩
  · rintro ⟨a, b⟩
    exact decide_eq_true ⟨of_decide_eq_true a, fun w => b (decide_eq_true ⟨of_decide_eq_true a, w⟩)⟩
/-- kept with the window, on both sides -/
theorem zK_has (h : zK ξ μ row stkC stk ord Rs ts us) (hs : s < 3) (hk : k < 10) : (¬ μ 251 s = 0 ∧ ¬ μ 252 (10 * s + k) = 0) ↔ zd_has ξ s k = true := by
  obtain ⟨-, -, -, -, -, -, -, h7⟩ := h
  obtain ⟨k1, k2⟩ := h7 s hs
  constructor
  · rintro ⟨a, b⟩
    exact ((k2 (fun z => a (k1.mpr z))).1 k hk).mp b
  · intro z
    have c : ¬ ξ (zdK s) 3 = 0 := (of_decide_eq_true z).1
    exact ⟨fun w => c (k1.mp w), ((k2 c).1 k hk).mpr z⟩
theorem zK_mov (h : zK ξ μ row stkC stk ord Rs ts us) {w x y : Int32} (f : zd_mov ξ ξ' w x y) (g : zv_mov μ μ' w x y) : zK ξ' μ' row stkC stk ord Rs ts us := by
  rcases f with ⟨f1, rfl⟩ | ⟨k, ξ1, hk, rfl, hf, hr, f1, f2⟩
  · rcases g with ⟨-, rfl⟩ | ⟨k, μ1, hk, rfl, hf, hr, -⟩
    · exact h
    · exact absurd ⟨k, hk, rfl, (zK_flo h hk).mpr hf, hr⟩ f1
  · rcases g with ⟨g1, -⟩ | ⟨k', μ1, hk', e, -, -, g1, rfl⟩
    · exact absurd ⟨k, hk, rfl, (zK_flo h hk).mp hf, hr⟩ g1
    · have e := (nI_eq (by omega) (by omega)).mp e
      subst e
      have h1 : zK ξ1 (zv_fg μ1 k) row stkC stk ord Rs ts us := zK_fgt h f1 (fun s hs => by
        rw [zv_fg_at hs, g1 251 s (by decide) (by decide), g1 252 _ (by decide) (by decide), ← zK_has h hs hk]
        by_cases c : ¬ μ 251 s = 0 ∧ ¬ μ 252 (10 * s + k) = 0
        · rw [if_pos c]
          exact ⟨fun _ => Or.inr c, fun _ => rfl⟩
        · rw [if_neg c]
          exact ⟨fun z => Or.inl z, fun z => z.resolve_right c⟩) (fun c d r1 r2 r3 => (zv_fg_ne r3).trans (g1 c d r1 r2))
      exact h1.scr f2 zM_fr.refl
end ZKF
end
section
/-! side by side: share -/
/-- the nearest cut of the form x above a leaf, one step up -/
theorem zy_nc_snoc {fm : Nat → Int32} {x : Int32} {n : Nat} {l : List Nat} {c : Nat} : (if 0 < ((l ++ [c]).filter (fun y => decide (fm y = x))).length then nI (((l ++ [c]).filter (fun y => decide (fm y = x))).getD 0 0) else -1) = if 0 < (l.filter (fun y => decide (fm y = x))).length then nI ((l.filter (fun y => decide (fm y = x))).getD 0 0) else if fm c = x then nI c else -1 := by
  rw [List.filter_append]
  by_cases c1 : 0 < (l.filter (fun y => decide (fm y = x))).length
  · rw [if_pos c1, if_pos (by rw [List.length_append]; omega), zl_getD_l c1]
  · rw [if_neg c1]
    have e : l.filter (fun y => decide (fm y = x)) = [] := List.eq_nil_of_length_eq_zero (by omega)
    rw [e, List.nil_append]
    by_cases c2 : fm c = x
    · have : [c].filter (fun y => decide (fm y = x)) = [c] := by simp [c2]
      rw [this, if_pos c2]
      rfl
    · have : [c].filter (fun y => decide (fm y = x)) = [] := by simp [c2]
      rw [this, if_neg c2]
      rfl
section ZKG
variable {pl pc : Nat → Nat → Prop} {fm fm' : Nat → Int32} {a : Int32} {n m : Nat}
theorem zy_nc_cut {x : Nat} {A B : zy_F} : zy_nc fm a n (.append (.tag x A) B) = if n ∈ zy_lvs A then (if 0 < ((zy_up n A).filter (fun y => decide (fm y = a))).length then zy_nc fm a n A else if fm x = a then nI x else -1) else if n ∈ zy_lvs B then (if 0 < ((zy_up n B).filter (fun y => decide (fm y = a))).length then zy_nc fm a n B else if fm x = a then nI x else -1) else -1 := by
  unfold zy_nc
  show (if 0 < ((if n ∈ zy_lvs A then zy_up n A ++ [x] else if n ∈ zy_lvs B then zy_up n B ++ [x] else []).filter (fun y => decide (fm y = a))).length then nI (((if n ∈ zy_lvs A then zy_up n A ++ [x] else if n ∈ zy_lvs B then zy_up n B ++ [x] else []).filter (fun y => decide (fm y = a))).getD 0 0) else -1) = _
  by_cases c1 : n ∈ zy_lvs A
  · simp only [if_pos c1]
    rw [zy_nc_snoc (n := n)]
    by_cases c2 : 0 < ((zy_up n A).filter (fun y => decide (fm y = a))).length
    · simp only [if_pos c2]
    · simp only [if_neg c2]
  · simp only [if_neg c1]
    by_cases c3 : n ∈ zy_lvs B
    · simp only [if_pos c3]
      rw [zy_nc_snoc (n := n)]
      by_cases c2 : 0 < ((zy_up n B).filter (fun y => decide (fm y = a))).length
      · simp only [if_pos c2]
      · simp only [if_neg c2]
    · simp only [if_neg c3]
      rfl
theorem zy_nc_pos {t : zy_F} : (0 < ((zy_up n t).filter (fun y => decide (fm y = a))).length ∧ ∃ c ∈ zy_up n t, zy_nc fm a n t = nI c) ∨ (¬ 0 < ((zy_up n t).filter (fun y => decide (fm y = a))).length ∧ zy_nc fm a n t = -1) := by
  unfold zy_nc
  by_cases c : 0 < ((zy_up n t).filter (fun y => decide (fm y = a))).length
  · rw [if_pos c]
    exact Or.inl ⟨c, _, (List.mem_filter.mp (zl_mem c)).1, rfl⟩
  · rw [if_neg c]
    exact Or.inr ⟨c, rfl⟩
theorem zy_up_cts : ∀ t, zy_wf t → ∀ c ∈ zy_up n t, c ∈ zy_cts t := by
  apply zy_ind
  · intro x c hc
    cases hc
  · intro x A B _ _ hA hB c hc
    have hc : c ∈ (if n ∈ zy_lvs A then zy_up n A ++ [x] else if n ∈ zy_lvs B then zy_up n B ++ [x] else []) := hc
    show c ∈ x :: (zy_cts A ++ zy_cts B)
    by_cases c1 : n ∈ zy_lvs A
    · rw [if_pos c1] at hc
      rcases List.mem_append.mp hc with h | h
      · exact List.mem_cons_of_mem _ (List.mem_append_left _ (hA c h))
      · rw [List.mem_singleton.mp h]; exact List.mem_cons_self ..
    · rw [if_neg c1] at hc
      by_cases c2 : n ∈ zy_lvs B
      · rw [if_pos c2] at hc
        rcases List.mem_append.mp hc with h | h
        · exact List.mem_cons_of_mem _ (List.mem_append_right _ (hB c h))
        · rw [List.mem_singleton.mp h]; exact List.mem_cons_self ..
      · rw [if_neg c2] at hc
        cases hc
theorem zy_up_pos {l : List Nat} {c : Nat} : 0 < ((l ++ [c]).filter (fun y => decide (fm y = a))).length ↔ 0 < (l.filter (fun y => decide (fm y = a))).length ∨ fm c = a := by
  rw [List.filter_append, List.length_append]
  by_cases c2 : fm c = a
  · have : [c].filter (fun y => decide (fm y = a)) = [c] := by simp [c2]
    rw [this]
    exact ⟨fun _ => Or.inr c2, fun _ => by rw [List.length_singleton]; omega⟩
  · have : [c].filter (fun y => decide (fm y = a)) = [] := by simp [c2]
    rw [this, List.length_nil, Nat.add_zero]
    exact ⟨fun z => Or.inl z, fun z => z.resolve_right c2⟩
noncomputable def zy_ncp (fm : Nat → Int32) (a : Int32) (n : Nat) (t : zy_F) : Prop := 0 < ((zy_up n t).filter (fun y => decide (fm y = a))).length
theorem zy_ncp_cut {x : Nat} {A B : zy_F} : zy_ncp fm a n (.append (.tag x A) B) ↔ (n ∈ zy_lvs A ∧ (zy_ncp fm a n A ∨ fm x = a)) ∨ (n ∉ zy_lvs A ∧ n ∈ zy_lvs B ∧ (zy_ncp fm a n B ∨ fm x = a)) := by
  unfold zy_ncp
  show 0 < ((if n ∈ zy_lvs A then zy_up n A ++ [x] else if n ∈ zy_lvs B then zy_up n B ++ [x] else []).filter (fun y => decide (fm y = a))).length ↔ _
  by_cases c1 : n ∈ zy_lvs A
  · rw [if_pos c1, zy_up_pos]
    exact ⟨fun z => Or.inl ⟨c1, z⟩, fun z => z.elim (fun z => z.2) (fun z => absurd c1 z.1)⟩
  · rw [if_neg c1]
    by_cases c2 : n ∈ zy_lvs B
    · rw [if_pos c2, zy_up_pos]
      exact ⟨fun z => Or.inr ⟨c1, c2, z⟩, fun z => z.elim (fun z => absurd z.1 c1) (fun z => z.2.2)⟩
    · rw [if_neg c2]
      exact ⟨fun z => absurd z (Nat.lt_irrefl 0), fun z => z.elim (fun z => absurd z.1 c1) (fun z => absurd z.2.1 c2)⟩
/-- the nearest cut is the same on both sides -/
theorem zy_sim_nc (hpc : ∀ x y, pc x y → fm x = fm' y) (hpl : ∀ x y, pl x y → (x = n ↔ y = m)) : ∀ t, zy_wf t → ∀ u, zy_wf u → zy_sim pl pc t u → (zy_ids t).Nodup → (zy_ids u).Nodup → (zy_nc fm a n t = -1 ∧ zy_nc fm' a m u = -1 ∧ ¬ zy_ncp fm a n t ∧ ¬ zy_ncp fm' a m u) ∨ ∃ c c', zy_nc fm a n t = nI c ∧ zy_nc fm' a m u = nI c' ∧ c ∈ zy_cts t ∧ c' ∈ zy_cts u ∧ (zy_ncp fm a n t ∧ zy_ncp fm' a m u) ∧ zy_sim pl (fun x y => pc x y ∧ (x = c ↔ y = c')) t u := by
  apply zy_sim_ind (P := fun t u => (zy_ids t).Nodup → (zy_ids u).Nodup → (zy_nc fm a n t = -1 ∧ zy_nc fm' a m u = -1 ∧ ¬ zy_ncp fm a n t ∧ ¬ zy_ncp fm' a m u) ∨ ∃ c c', zy_nc fm a n t = nI c ∧ zy_nc fm' a m u = nI c' ∧ c ∈ zy_cts t ∧ c' ∈ zy_cts u ∧ (zy_ncp fm a n t ∧ zy_ncp fm' a m u) ∧ zy_sim pl (fun x y => pc x y ∧ (x = c ↔ y = c')) t u)
  · intro x y _ _ _
    exact Or.inl ⟨rfl, rfl, (fun z => Nat.lt_irrefl 0 z), (fun z => Nat.lt_irrefl 0 z)⟩
  · intro x y A B C E wA wB wC wE hxy sAC sBE ihA ihB hd hd'
    have hd : (x :: (zy_ids A ++ zy_ids B)).Nodup := hd
    have hd' : (y :: (zy_ids C ++ zy_ids E)).Nodup := hd'
    obtain ⟨hx, hd⟩ := List.nodup_cons.mp hd
    obtain ⟨hy, hd'⟩ := List.nodup_cons.mp hd'
    obtain ⟨dA, dB, dAB⟩ := List.nodup_append.mp hd
    obtain ⟨dC, dE, dCE⟩ := List.nodup_append.mp hd'
    have xA : ∀ p ∈ zy_cts A, p ≠ x := fun p hp e => hx (List.mem_append_left _ (e ▸ zy_cts_ids A wA p hp))
    have xB : ∀ p ∈ zy_cts B, p ≠ x := fun p hp e => hx (List.mem_append_right _ (e ▸ zy_cts_ids B wB p hp))
    have yC : ∀ p ∈ zy_cts C, p ≠ y := fun p hp e => hy (List.mem_append_left _ (e ▸ zy_cts_ids C wC p hp))
    have yE : ∀ p ∈ zy_cts E, p ≠ y := fun p hp e => hy (List.mem_append_right _ (e ▸ zy_cts_ids E wE p hp))
    have ff := hpc x y hxy
    have mAC : n ∈ zy_lvs A ↔ m ∈ zy_lvs C := by
      constructor
      · intro h
        obtain ⟨q, hq, p⟩ := zy_sim_l A wA C wC sAC n h
        rw [← (hpl n q p).mp rfl]; exact hq
      · intro h
        obtain ⟨q, hq, p⟩ := zy_sim_r A wA C wC sAC m h
        rw [← (hpl q m p).mpr rfl]; exact hq
    have mBE : n ∈ zy_lvs B ↔ m ∈ zy_lvs E := by
      constructor
      · intro h
        obtain ⟨q, hq, p⟩ := zy_sim_l B wB E wE sBE n h
        rw [← (hpl n q p).mp rfl]; exact hq
      · intro h
        obtain ⟨q, hq, p⟩ := zy_sim_r B wB E wE sBE m h
        rw [← (hpl q m p).mpr rfl]; exact hq
    -- the root is the nearest one
    have root : zy_sim pl (fun p q => pc p q ∧ (p = x ↔ q = y)) (.append (.tag x A) B) (.append (.tag y C) E) :=
      ⟨⟨hxy, ⟨fun _ => rfl, fun _ => rfl⟩⟩, zy_sim_mono A wA C wC sAC (fun _ _ _ _ z => z) (fun p hp q hq z => ⟨z, ⟨fun e => absurd e (xA p hp), fun e => absurd e (yC q hq)⟩⟩), zy_sim_mono B wB E wE sBE (fun _ _ _ _ z => z) (fun p hp q hq z => ⟨z, ⟨fun e => absurd e (xB p hp), fun e => absurd e (yE q hq)⟩⟩)⟩
    have xin : x ∈ zy_cts (.append (.tag x A) B) := List.mem_cons_self ..
    have yin : y ∈ zy_cts (.append (.tag y C) E) := List.mem_cons_self ..
    by_cases c1 : n ∈ zy_lvs A
    · have c1' := mAC.mp c1
      rcases ihA dA dC with ⟨e1, e2, e3, e4⟩ | ⟨c, c', e1, e2, e3, e4, e5, e6⟩
      · have e3' : ¬ 0 < ((zy_up n A).filter (fun y => decide (fm y = a))).length := e3
        have e4' : ¬ 0 < ((zy_up m C).filter (fun y => decide (fm' y = a))).length := e4
        by_cases c2 : fm x = a
        · have c2' : fm' y = a := ff ▸ c2
          refine Or.inr ⟨x, y, ?_, ?_, xin, yin, ⟨zy_ncp_cut.mpr (Or.inl ⟨c1, Or.inr c2⟩), zy_ncp_cut.mpr (Or.inl ⟨c1', Or.inr c2'⟩)⟩, root⟩
          · rw [zy_nc_cut, if_pos c1, if_neg e3', if_pos c2]
          · rw [zy_nc_cut, if_pos c1', if_neg e4', if_pos c2']
        · have c2' : ¬ fm' y = a := ff ▸ c2
          refine Or.inl ⟨?_, ?_, fun z => ?_, fun z => ?_⟩
          · rw [zy_nc_cut, if_pos c1, if_neg e3', if_neg c2]
          · rw [zy_nc_cut, if_pos c1', if_neg e4', if_neg c2']
          · rcases zy_ncp_cut.mp z with w | w
            · exact w.2.elim e3 c2
            · exact w.1 c1
          · rcases zy_ncp_cut.mp z with w | w
            · exact w.2.elim e4 c2'
            · exact w.1 c1'
      · have p1 : 0 < ((zy_up n A).filter (fun y => decide (fm y = a))).length := e5.1
        have p2 : 0 < ((zy_up m C).filter (fun y => decide (fm' y = a))).length := e5.2
        refine Or.inr ⟨c, c', ?_, ?_, List.mem_cons_of_mem _ (List.mem_append_left _ e3), List.mem_cons_of_mem _ (List.mem_append_left _ e4), ⟨zy_ncp_cut.mpr (Or.inl ⟨c1, Or.inl e5.1⟩), zy_ncp_cut.mpr (Or.inl ⟨c1', Or.inl e5.2⟩)⟩, ⟨⟨hxy, ⟨fun e => absurd e.symm (xA c e3), fun e => absurd e.symm (yC c' e4)⟩⟩, e6, zy_sim_mono B wB E wE sBE (fun _ _ _ _ z => z) (fun p hp q hq z => ⟨z, ⟨fun e => ?_, fun e => ?_⟩⟩)⟩⟩
        · rw [zy_nc_cut, if_pos c1, if_pos p1, e1]
        · rw [zy_nc_cut, if_pos c1', if_pos p2, e2]
        · exact absurd rfl (dAB c (zy_cts_ids A wA c e3) c (e ▸ zy_cts_ids B wB p hp))
        · exact absurd rfl (dCE c' (zy_cts_ids C wC c' e4) c' (e ▸ zy_cts_ids E wE q hq))
    · have c1' : m ∉ zy_lvs C := fun z => c1 (mAC.mpr z)
      by_cases c3 : n ∈ zy_lvs B
      · have c3' := mBE.mp c3
        rcases ihB dB dE with ⟨e1, e2, e3, e4⟩ | ⟨c, c', e1, e2, e3, e4, e5, e6⟩
        · have e3' : ¬ 0 < ((zy_up n B).filter (fun y => decide (fm y = a))).length := e3
          have e4' : ¬ 0 < ((zy_up m E).filter (fun y => decide (fm' y = a))).length := e4
          by_cases c2 : fm x = a
          · have c2' : fm' y = a := ff ▸ c2
            refine Or.inr ⟨x, y, ?_, ?_, xin, yin, ⟨zy_ncp_cut.mpr (Or.inr ⟨c1, c3, Or.inr c2⟩), zy_ncp_cut.mpr (Or.inr ⟨c1', c3', Or.inr c2'⟩)⟩, root⟩
            · rw [zy_nc_cut, if_neg c1, if_pos c3, if_neg e3', if_pos c2]
            · rw [zy_nc_cut, if_neg c1', if_pos c3', if_neg e4', if_pos c2']
          · have c2' : ¬ fm' y = a := ff ▸ c2
            refine Or.inl ⟨?_, ?_, fun z => ?_, fun z => ?_⟩
            · rw [zy_nc_cut, if_neg c1, if_pos c3, if_neg e3', if_neg c2]
            · rw [zy_nc_cut, if_neg c1', if_pos c3', if_neg e4', if_neg c2']
            · rcases zy_ncp_cut.mp z with w | w
              · exact c1 w.1
              · exact w.2.2.elim e3 c2
            · rcases zy_ncp_cut.mp z with w | w
              · exact c1' w.1
              · exact w.2.2.elim e4 c2'
        · have p1 : 0 < ((zy_up n B).filter (fun y => decide (fm y = a))).length := e5.1
          have p2 : 0 < ((zy_up m E).filter (fun y => decide (fm' y = a))).length := e5.2
          refine Or.inr ⟨c, c', ?_, ?_, List.mem_cons_of_mem _ (List.mem_append_right _ e3), List.mem_cons_of_mem _ (List.mem_append_right _ e4), ⟨zy_ncp_cut.mpr (Or.inr ⟨c1, c3, Or.inl e5.1⟩), zy_ncp_cut.mpr (Or.inr ⟨c1', c3', Or.inl e5.2⟩)⟩, ⟨⟨hxy, ⟨fun e => absurd e.symm (xB c e3), fun e => absurd e.symm (yE c' e4)⟩⟩, zy_sim_mono A wA C wC sAC (fun _ _ _ _ z => z) (fun p hp q hq z => ⟨z, ⟨fun e => ?_, fun e => ?_⟩⟩), e6⟩⟩
          · rw [zy_nc_cut, if_neg c1, if_pos c3, if_pos p1, e1]
          · rw [zy_nc_cut, if_neg c1', if_pos c3', if_pos p2, e2]
          · exact absurd rfl (dAB c (e ▸ zy_cts_ids A wA p hp) c (zy_cts_ids B wB c e3))
          · exact absurd rfl (dCE c' (e ▸ zy_cts_ids C wC q hq) c' (zy_cts_ids E wE c' e4))
      · have c3' : m ∉ zy_lvs E := fun z => c3 (mBE.mpr z)
        refine Or.inl ⟨?_, ?_, fun z => ?_, fun z => ?_⟩
        · rw [zy_nc_cut, if_neg c1, if_neg c3]
        · rw [zy_nc_cut, if_neg c1', if_neg c3']
        · rcases zy_ncp_cut.mp z with w | w
          · exact c1 w.1
          · exact c3 w.2.1
        · rcases zy_ncp_cut.mp z with w | w
          · exact c1' w.1
          · exact c3' w.2.1
end ZKG
section ZKH
variable {ξ μ ξ' μ' : zm_M} {row stkC stk ord : List Nat} {Rs : Nat → List Nat} {ts us : Nat → zy_F}
theorem zK_shr (h : zK ξ μ row stkC stk ord Rs ts us) {w x v : Int32} (hJ : zJ ξ' row stkC Rs ts) (f : zd_shr ξ ξ' ts w x v) (g : zv_shr μ μ' us w x v) : zK ξ' μ' row stkC stk ord Rs ts us := by
  -- the cuts on both sides
  have key : ∀ k s n m a, k < 10 → s < 3 → a < 2 → zd_til ξ k = true → ξ (zdW k) 5 = nI s → n ∈ zy_lvs (ts s) → ξ (zdT s + 3) k = nI n → zu_at μ s (us s) k m → (zy_nc (ξ (zdT s + 7)) (nI a) n (ts s) = -1 ∧ zy_nc (zu_fm μ s) (nI a) m (us s) = -1) ∨ ∃ c c', zy_nc (ξ (zdT s + 7)) (nI a) n (ts s) = nI c ∧ zy_nc (zu_fm μ s) (nI a) m (us s) = nI c' ∧ c < 19 ∧ c' < 24 ∧ zy_sim (zs_pl ξ (zdT s) (Rs s) μ s) (fun x y => zs_pc ξ (zdT s) μ s x y ∧ (x = c ↔ y = c')) (ts s) (us s) := fun k s n m a hk hs ha c1 c2 hn ek hat => by
    have hC := (h.1.2.2.2.1 s hs).1
    have hzs := h.2.2.2.2.2.1 s hs
    have hkR : k ∈ Rs s := ((h.1.2.2.2.1 s hs).2.1 k).mpr ⟨hk, c1, c2⟩
    obtain ⟨m', hat', hp⟩ := zs_at hC.1 hzs hkR hn ek
    have em := hat'.2.2 m hat.1 hat.2.1
    subst em
    obtain ⟨wt, hni⟩ := zt_I_lv hC.1 hn
    obtain ⟨ab, hI⟩ := hzs.2
    have wu := (zu_I_lv hI hat.1).1
    have sim : zy_sim (fun x y => zs_pl ξ (zdT s) (Rs s) μ s x y ∧ (x = n ↔ y = m)) (zs_pc ξ (zdT s) μ s) (ts s) (us s) := zy_sim_mono _ wt _ wu hzs.1 (fun x hx y hy p => ⟨p, zs_iff hC.1 hzs hn hat.1 hp x hx y hy p⟩) (fun x hx y hy p => p)
    rcases zy_sim_nc (fm := ξ (zdT s + 7)) (fm' := zu_fm μ s) (a := nI a) (n := n) (m := m) (fun x y p => p.1.symm) (fun x y p => p.2) _ wt _ wu sim hC.1.2.1.2.1 hI.2.1 with ⟨e1, e2, -, -⟩ | ⟨c, c', e1, e2, e3, e4, -, e5⟩
    · exact Or.inl ⟨e1, e2⟩
    · exact Or.inr ⟨c, c', e1, e2, hC.1.2.1.2.2.1 c (zy_cts_ids _ wt c e3), zu_I_ct hI e4, zy_sim_mono _ wt _ wu e5 (fun x hx y hy p => p.1) (fun x hx y hy p => p)⟩
  have link : ∀ k s m, k < 10 → s < 3 → (μ 234 k = 1 ∧ μ 238 k = nI s ∧ zu_at μ s (us s) k m) → zd_til ξ k = true ∧ ξ (zdW k) 5 = nI s ∧ ∃ n, n ∈ zy_lvs (ts s) ∧ ξ (zdT s + 3) k = nI n := fun k s m hk hs ⟨a, b, c⟩ => by
    obtain ⟨q1, q2, -⟩ := zK_kind h hk
    have a' := q1.mpr a
    have b' := (q2 a').symm.trans b
    have hkR : k ∈ Rs s := ((h.1.2.2.2.1 s hs).2.1 k).mpr ⟨hk, a', b'⟩
    obtain ⟨n, hn, e⟩ := (h.1.2.2.2.1 s hs).1.1.2.2.2.1 k hkR
    exact ⟨a', b', n, hn, e⟩
  have link' : ∀ k s, k < 10 → s < 3 → zd_til ξ k = true → ξ (zdW k) 5 = nI s → μ 234 k = 1 ∧ μ 238 k = nI s ∧ ∃ m, zu_at μ s (us s) k m := fun k s hk hs a b => by
    obtain ⟨q1, q2, -⟩ := zK_kind h hk
    have hkR : k ∈ Rs s := ((h.1.2.2.2.1 s hs).2.1 k).mpr ⟨hk, a, b⟩
    obtain ⟨n, m, -, -, hat, -⟩ := zs_at' (h.1.2.2.2.1 s hs).1.1 (h.2.2.2.2.2.1 s hs) hkR
    exact ⟨q1.mp a, (q2 a).trans b, m, hat⟩
  rcases f with ⟨f1, rfl⟩ | ⟨k, s, n, a, hk, hs, ha, rfl, rfl, hv, c1, c2, hn, ek, c3, rfl⟩
  · rcases g with ⟨-, rfl⟩ | ⟨k, s, m, a, hk, hs, ha, rfl, rfl, hv, k1, k2, hat, c3, -⟩
    · exact h
    · obtain ⟨a', b', n, hn, e⟩ := link k s m hk hs ⟨k1, k2, hat⟩
      refine absurd ⟨k, s, n, a, hk, hs, ha, rfl, rfl, hv, a', b', hn, e, ?_⟩ f1
      rcases key k s n m a hk hs ha a' b' hn e hat with ⟨-, e2⟩ | ⟨c, c', e1, -, hc, -⟩
      · rw [e2] at c3
        exact absurd (by decide) c3
      · rw [e1]; exact nI_pos (by omega)
  · obtain ⟨k1, k2, m, hat⟩ := link' k s hk hs c1 c2
    rcases key k s n m a hk hs ha c1 c2 hn ek hat with ⟨e1, -⟩ | ⟨c, c', e1, e2, hc, hc', sim⟩
    · rw [e1] at c3
      exact absurd (by decide) c3
    · rcases g with ⟨g1, -⟩ | ⟨k', s', m', a', hk', hs', ha', ek', ea', -, -, k2', hat', -, rfl⟩
      · refine absurd ⟨k, s, m, a, hk, hs, ha, rfl, rfl, hv, k1, k2, hat, ?_⟩ g1
        rw [e2]; exact nI_pos (by omega)
      · have x1 := (nI_eq (by omega) (by omega)).mp ek'
        subst x1
        have x2 := (nI_eq (by omega) (by omega)).mp (k2'.symm.trans k2)
        subst x2
        have x3 := hat.2.2 m' hat'.1 hat'.2.1
        subst x3
        rw [e1, nI_clamp (by omega)] at hJ ⊢
        rw [e2, nI_clamp (by omega)]
        obtain ⟨h1, h4, h0⟩ := h
        have eC : ∀ c', c' ≠ zdT s' + 8 → zm_up ξ (zdT s' + 8) c v c' = ξ c' := fun c' r => zm_up_row r
        have eg : ∀ x y, ¬ (x = 247 ∧ y = 24 * s' + c') → zm_up μ 247 (24 * s' + c') v x y = μ x y := fun x y r => zm_up_ne r
        have hI := fun q hq => (h1.2.2.2.1 q hq).1.1
        refine ⟨hJ, h4.gen (fun k hk => eC _ (by unfold zdW zdT; omega)) (fun C q l hC g => ⟨g.1, by rw [eg _ _ (by omega)]; exact g.2.1, fun j hj => by rw [eg _ _ (by omega)]; exact g.2.2 j hj⟩), h0.gen' (fun q hq => (h1.2.2.2.2.1 q hq).1.1) (fun k hk => eC _ (by unfold zdW zdT; omega)) (fun k hk => eC _ (by unfold zdW zdT; omega)) (fun q hq => ⟨eC _ (by unfold zdS zdT; omega), eC _ (by unfold zdZ zdT; omega), eC _ (by unfold zdK zdT; omega), eC _ (by unfold zdQ zdT; omega)⟩) (fun q hq j hj => eC _ (by unfold zdV zdT; omega)) (fun x y r => eg x y (by omega)) (fun q hq => zu_eq_in (fun x y r => eg x y (fun z => by
          obtain ⟨z1, z2⟩ := z
          subst z1
          rcases r with w | w | w <;> omega))) (fun _ _ => ⟨rfl, rfl, rfl⟩) (fun q hq => ?_)⟩
        by_cases eq : q = s'
        · subst eq
          obtain ⟨-, ab, hIu⟩ := h0.2.2.2.1 q hq
          obtain ⟨i1, i2, i3⟩ := zu_I_sh (μ' := zm_up μ 247 (24 * q + c') v) hIu (fun x y r a b => eg x y (fun z => b z.1))
          obtain ⟨wt, -⟩ := zt_I_lv (hI q hq) hn
          have wu := (zu_I_lv hIu hat.1).1
          refine ⟨zy_sim_mono _ wt _ wu sim (fun x hx y hy p => ⟨?_, ?_⟩) (fun x hx y hy p => ⟨?_, ?_⟩), ab, i1⟩
          · rw [i2 y hy, zt_tb_congr (μ := ξ) (Q := zdT q) (eC _ (by omega))]; exact p.1
          · rw [eg _ _ (by omega), eC _ (by omega)]; exact p.2
          · rw [i3 y (zu_I_ct hIu hy), eC _ (by omega)]; exact p.1.1
          · by_cases ec : x = c
            · have ec' := p.2.mp ec
              rw [ec, ec', zm_up_eq, zm_up_eq]
            · have ec' : y ≠ c' := fun z => ec (p.2.mpr z)
              rw [eg _ _ (by omega), zm_up_ne (by omega)]
              exact p.1.2
        · exact zs_cl (hI q hq) (zs_eqT (hI q hq) (h0.2.2.2.1 q hq) (zu_eq_in (fun x y r => eg x y (fun z => by
            obtain ⟨ab, hIu⟩ := (h0.2.2.2.1 s' hs').2
            obtain ⟨z1, z2⟩ := z
            subst z1
            rcases r with w | w | w <;> omega)))) (eC _ (by unfold zdT; omega)) (eC _ (by unfold zdT; omega)) (eC _ (by unfold zdT; omega)) (eC _ (by unfold zdT; omega))
end ZKH
end
section
/-! side by side: groups, close -/
section ZKI
variable {dl dl' : Nat → Bool} {ow ow' : Nat → Nat} {g g' : Nat → Bool}
theorem zl_sp1_congr (h : ∀ n, n < 10 → dl n = dl' n ∧ (dl n = true → ow n = ow' n)) : ∀ n, n ≤ 10 → zl_sp1 dl ow g n = zl_sp1 dl' ow' g n
  | 0, _ => rfl
  | n + 1, hn => by
    have ih := zl_sp1_congr h n (by omega)
    funext j
    rw [zl_sp1_s, zl_sp1_s, ih]
    obtain ⟨e1, e2⟩ := h n (by omega)
    by_cases c : j = n
    · rw [if_pos c, if_pos c, ← e1]
      cases d : dl n with
      | false => rfl
      | true => rw [e2 d]
    · rw [if_neg c, if_neg c]
theorem zl_spn_congr (h : ∀ n, n < 10 → dl n = dl' n ∧ (dl n = true → ow n = ow' n)) : ∀ m, zl_spn dl ow g m = zl_spn dl' ow' g m
  | 0 => rfl
  | m + 1 => by
    show zl_sp1 dl ow (zl_spn dl ow g m) 10 = zl_sp1 dl' ow' (zl_spn dl' ow' g m) 10
    rw [zl_spn_congr h m]
    exact zl_sp1_congr h 10 (Nat.le_refl _)
/-- the least set that is closed -/
theorem zl_sp1_min {X : Nat → Bool} (hX : ∀ j, j < 10 → dl j = true → X (ow j) = true → X j = true) (hg : ∀ j, g j = true → X j = true) : ∀ n, n ≤ 10 → ∀ j, zl_sp1 dl ow g n j = true → X j = true
  | 0, _, j, h => hg j h
  | n + 1, hn, j, h => by
    rw [zl_sp1_s] at h
    by_cases c : j = n
    · rw [if_pos c, Bool.or_eq_true, Bool.and_eq_true] at h
      rcases h with h | ⟨h1, h2⟩
      · rw [c]; exact zl_sp1_min hX hg n (by omega) n h
      · rw [c]; exact hX n (by omega) h1 (zl_sp1_min hX hg n (by omega) _ h2)
    · rw [if_neg c] at h
      exact zl_sp1_min hX hg n (by omega) j h
theorem zl_spn_min {X : Nat → Bool} (hX : ∀ j, j < 10 → dl j = true → X (ow j) = true → X j = true) (hg : ∀ j, g j = true → X j = true) : ∀ m j, zl_spn dl ow g m j = true → X j = true
  | 0, j, h => hg j h
  | m + 1, j, h => zl_sp1_min hX (zl_spn_min hX hg m) 10 (Nat.le_refl _) j h
theorem zl_idx_ne {a y : Nat} {l : List Nat} (h : a ≠ y) : (a :: l).idxOf y = l.idxOf y + 1 := by
  rw [List.idxOf_cons]
  have : (a == y) = false := by simpa using h
  rw [this]
  rfl
/-- an order with some left out -/
theorem zl_idx_filter {p : Nat → Bool} {x y : Nat} : ∀ l : List Nat, x ∈ l → y ∈ l → p x = true → p y = true → l.idxOf x < l.idxOf y → (l.filter p).idxOf x < (l.filter p).idxOf y
  | [], h, _, _, _, _ => by cases h
  | a :: l, hx, hy, px, py, h => by
    by_cases ey : a = y
    · subst ey
      rw [List.idxOf_cons_self] at h
      exact absurd h (Nat.not_lt_zero _)
    · have hy' : y ∈ l := (List.mem_cons.mp hy).resolve_left (fun e => ey e.symm)
      by_cases ex : a = x
      · subst ex
        rw [List.filter_cons, if_pos px, List.idxOf_cons_self, zl_idx_ne ey]
        exact Nat.succ_pos _
      · have hx' : x ∈ l := (List.mem_cons.mp hx).resolve_left (fun e => ex e.symm)
        rw [zl_idx_ne ey, zl_idx_ne ex] at h
        have ih := zl_idx_filter l hx' hy' px py (by omega)
        rw [List.filter_cons]
        by_cases pa : p a = true
        · rw [if_pos pa, zl_idx_ne ey, zl_idx_ne ex]
          omega
        · rw [if_neg pa]
          exact ih
end ZKI
section ZKJ
variable {ξ μ ν ξ' μ' : zm_M} {row row' stkC stkC' stk ord : List Nat} {Rs : Nat → List Nat} {ts us : Nat → zy_F} {s k : Nat}
/-- dialogs and owners on both sides -/
theorem zK_dl (h : zK ξ μ row stkC stk ord Rs ts us) : ∀ x, x < 10 → zd_dl ξ x = zv_dlg μ x ∧ (zd_dl ξ x = true → zd_ow ξ x = zv_own μ x ∧ zd_ow ξ x < 10 ∧ μ 234 x = 3 ∧ μ 237 x = nI (zd_ow ξ x) ∧ zd_th ξ x = true ∧ ξ (zdW x) 3 = 3) := fun x hx => by
  obtain ⟨h1, h4, h0⟩ := h
  cases c : zd_th ξ x with
  | false =>
    have e1 : zd_dl ξ x = false := decide_eq_false (fun z => by
      have : zd_th ξ x = true := decide_eq_true z.1
      rw [c] at this
      cases this)
    have e2 : zv_dlg μ x = false := decide_eq_false (fun z => by
      rw [(h0.1.1 x hx).1 c] at z
      exact absurd z (by decide))
    exact ⟨e1.trans e2.symm, fun z => by rw [e1] at z; cases z⟩
  | true =>
    obtain ⟨e4, -, e7, -⟩ := (h0.1.1 x hx).2 c
    obtain ⟨-, -, -, w4, w5⟩ := h1.2.2.1 x hx c
    by_cases c3 : ξ (zdW x) 3 = 3
    · obtain ⟨o, ho, -, eo, to⟩ := w4 c3
      have ew : zd_ow ξ x = o := by
        unfold zd_ow
        rw [eo, nI_clamp (by omega)]
      have ev : zv_own μ x = o := by
        unfold zv_own
        rw [e7 c3, eo, nI_clamp (by omega)]
      have e1 : zd_dl ξ x = true := decide_eq_true ⟨of_decide_eq_true c, ⟨by rw [eo]; exact nI_pos (by omega), by rw [eo]; exact nI_ge (b := 10) ho (by decide)⟩, by rw [ew]; exact of_decide_eq_true to⟩
      have e2 : zv_dlg μ x = true := decide_eq_true (e4.trans c3)
      exact ⟨e1.trans e2.symm, fun _ => ⟨ew.trans ev.symm, by rw [ew]; exact ho, e4.trans c3, by rw [ew, e7 c3]; exact eo, rfl, c3⟩⟩
    · have eo := w5 c3
      have e1 : zd_dl ξ x = false := decide_eq_false (fun z => z.2.1.1 (by rw [eo]; decide))
      have e2 : zv_dlg μ x = false := decide_eq_false (fun z => c3 (e4.symm.trans z))
      exact ⟨e1.trans e2.symm, fun z => by rw [e1] at z; cases z⟩
theorem zK_spn (h : zK ξ μ row stkC stk ord Rs ts us) {g : Nat → Bool} (m : Nat) : zl_spn (zd_dl ξ) (zd_ow ξ) g m = zl_spn (zv_dlg μ) (zv_own μ) g m :=
  zl_spn_congr (fun n hn => ⟨(zK_dl h n hn).1, fun z => ((zK_dl h n hn).2 z).1⟩) m
theorem zK_grp (h : zK ξ μ row stkC stk ord Rs ts us) : zd_grp ξ k = zv_grp μ k := zK_spn h 10
/-- the group that is closed is the reference's -/
theorem zK_gs (h : zK ξ μ row stkC stk ord Rs ts us) (hk : k < 10) {X : Nat → Bool} (e : ∀ d, d < 10 → ν 234 d = μ 234 d ∧ ν 237 d = μ 237 d) (g : zv_gs ν k (fun _ => false) X) : ∀ j, j < 10 → X j = zd_grp ξ k j := fun j hj => by
  obtain ⟨g1, g2, g3, g4⟩ := g
  have hd := zK_dl h
  have cl := zl_spn_cl (dl := zd_dl ξ) (ow := zd_ow ξ) (g := fun j => decide (j = k)) hk (decide_eq_true rfl)
  have a1 : X j = true → zd_grp ξ k j = true := fun z => by
    rcases g4 (fun j => decide (j < 10) && zd_grp ξ k j) (by rw [zd_grp_k, decide_eq_true hk]; rfl) (fun d o hd' ho e1 e2 z => by
      rw [(e d hd').1] at e1
      rw [(e d hd').2] at e2
      have z2 := (Bool.and_eq_true _ _ ▸ z : decide (o < 10) = true ∧ zd_grp ξ k o = true).2
      have hdl : zd_dl ξ d = true := by
        rw [(hd d hd').1]
        exact decide_eq_true e1
      have eow : zd_ow ξ d = o := by
        have := ((hd d hd').2 hdl).2.2.2.1
        exact (nI_eq (by have := ((hd d hd').2 hdl).2.1; omega) (by omega)).mp (this.symm.trans e2)
      rw [decide_eq_true hd', Bool.true_and]
      exact cl d hd' hdl (by rw [eow]; exact z2)) j z with w | w
    · cases w
    · exact (Bool.and_eq_true _ _ ▸ w : decide (j < 10) = true ∧ zd_grp ξ k j = true).2
  have a2 : zd_grp ξ k j = true → X j = true := zl_spn_min (X := X) (fun d hd' hdl z => by
    obtain ⟨-, b2, b3, b4, -⟩ := (hd d hd').2 hdl
    exact g3 (zd_ow ξ d) b2 z rfl d hd' ((e d hd').1.trans b3) ((e d hd').2.trans b4)) (fun j z => by rw [of_decide_eq_true z]; exact g1) 10 j
  cases c : zd_grp ξ k j with
  | true => exact a2 c
  | false =>
    cases c2 : X j with
    | false => rfl
    | true => rw [a1 c2] at c; cases c
/-- the trees behind a close -/
noncomputable def zK_clU (μ : zm_M) (us : Nat → zy_F) (b : Bool) (s k m : Nat) : Nat → zy_F := if b = true then zd_upd us s (if (zu_tb (zv_fg μ k) s m).erase k = [] then zy_out m (us s) else us s) else us
theorem zv_cls_all (h : zK ξ μ row stkC stk ord Rs ts us) (hk : k < 10) (hs : s < 3) (ht : zd_til ξ k = true → ξ (zdW k) 5 = nI s) (g : zv_cls μ μ' row stk us k) : ∃ m, (zd_til ξ k = true → ∃ ν2 ab', zu_at μ s (us s) k m ∧ zu_isOut (zv_fg μ k) s (us s) m k ν2 ab' ∧ zu_eqT ν2 s μ' s) ∧ (∀ j, j < 10 → μ' 234 j = if zd_grp ξ k j = true then 0 else μ 234 j) ∧ (zv_L μ' 242 12 (row.filter (fun x => !zd_grp ξ k x)) ∧ zv_L μ' 241 10 (stk.filter (fun x => !zd_grp ξ k x))) ∧ (∀ q, q < 3 → (μ' 251 q = 0 ↔ μ 251 q = 0 ∨ ∃ j, j < 10 ∧ zd_grp ξ k j = true ∧ ¬ μ 252 (10 * q + j) = 0)) ∧ ∀ c d, c ≠ 234 → c ≠ 241 → c ≠ 242 → c ≠ 251 → c ≠ 231 → (zd_til ξ k = true → ¬ zu_in s c d) → μ' c d = μ c d := by
  obtain ⟨q1, q2, -⟩ := zK_kind h hk
  have hR := zK_R h
  have rb : ∀ x ∈ row, x < 10 := fun x hx => ((hR.2.1.2.2 x).mp hx).1
  have sb : ∀ x ∈ stk, x < 10 := fun x hx => ((hR.2.2.1.2.2 x).mp hx).1
  have flt : ∀ (X : Nat → Bool) (l : List Nat), (∀ x ∈ l, x < 10) → (∀ j, j < 10 → X j = zd_grp ξ k j) → l.filter (fun x => !X x) = l.filter (fun x => !zd_grp ξ k x) := fun X l hl e => List.filter_congr (fun x hx => by rw [e x (hl x hx)])
  rcases g with ⟨g1, X, g2, g3⟩ | ⟨g1, s', m, ν2, ab', X, hs', hh, hat, ho, g2, g3⟩
  · have eX := zK_gs h hk (fun d _ => ⟨rfl, rfl⟩) g3
    have nt : ¬ zd_til ξ k = true := fun z => g1 (q1.mp z)
    obtain ⟨a1, a2, a3, a4, a5⟩ := g2
    rw [flt X row rb eX] at a2
    rw [flt X stk sb eX] at a3
    refine ⟨0, fun z => absurd z nt, fun j hj => by rw [a1 j hj, eX j hj], ⟨a2, a3⟩, fun q hq => (a4 q hq).2.trans (or_congr Iff.rfl ⟨fun ⟨j, b1, b2, b3⟩ => ⟨j, b1, by rw [← eX j b1]; exact b2, b3⟩, fun ⟨j, b1, b2, b3⟩ => ⟨j, b1, by rw [eX j b1]; exact b2, b3⟩⟩), fun c d r1 r2 r3 r4 r5 _ => a5 c d r1 r2 r3 r4 (fun z => r5 z.1)⟩
  · have c1 := q1.mpr g1
    have e1 := (nI_eq (by omega) (by omega)).mp (hh.symm.trans ((q2 c1).trans (ht c1)))
    subst e1
    have fr := ho.2.2.2.2
    have f2 : ∀ c d, c ≠ 251 → ¬ zu_in s' c d → ν2 c d = μ c d := fun c d r1 r2 => (fr c d r2).trans (zv_fg_ne r1)
    have eX := zK_gs h hk (ν := ν2) (fun d _ => ⟨f2 _ _ (by decide) (zu_in_not (by decide)), f2 _ _ (by decide) (zu_in_not (by decide))⟩) g3
    obtain ⟨a1, a2, a3, a4, a5⟩ := g2
    rw [flt X row rb eX] at a2
    rw [flt X stk sb eX] at a3
    refine ⟨m, fun _ => ⟨ν2, ab', hat, ho, zu_eq_in (fun c d r => a5 c d (fun z => zu_in_not (Or.inl (by omega)) r) (fun z => zu_in_not (Or.inl (by omega)) r) (fun z => zu_in_not (Or.inl (by omega)) r) (fun z => zu_in_not (Or.inr (by omega)) r) (fun z => zu_in_not (Or.inl (by omega)) r))⟩, fun j hj => ?_, ⟨a2, a3⟩, fun q hq => ?_, fun c d r1 r2 r3 r4 r5 r6 => (a5 c d r1 r2 r3 r4 (fun z => r5 z.1)).trans (f2 c d r4 (r6 c1))⟩
    · rw [a1 j hj, eX j hj, f2 _ _ (by decide) (zu_in_not (by decide))]
    · have e52 : ∀ j, ν2 252 j = μ 252 j := fun j => f2 _ _ (by decide) (zu_in_not (by decide))
      have e51 : ν2 251 q = if ¬ μ 251 q = 0 ∧ ¬ μ 252 (10 * q + k) = 0 then 0 else μ 251 q := (fr _ _ (zu_in_not (by decide))).trans (zv_fg_at hq)
      rw [(a4 q hq).2, e51]
      constructor
      · rintro (z | ⟨j, b1, b2, b3⟩)
        · by_cases c : ¬ μ 251 q = 0 ∧ ¬ μ 252 (10 * q + k) = 0
          · exact Or.inr ⟨k, hk, zd_grp_k, c.2⟩
          · rw [if_neg c] at z
            exact Or.inl z
        · exact Or.inr ⟨j, b1, by rw [← eX j b1]; exact b2, by rw [← e52]; exact b3⟩
      · rintro (z | ⟨j, b1, b2, b3⟩)
        · rw [if_neg (fun w => w.1 z)]
          exact Or.inl z
        · exact Or.inr ⟨j, b1, by rw [eX j b1]; exact b2, by rw [e52]; exact b3⟩
end ZKJ
end
section
/-! side by side: close -/
section ZKL
variable {ξ μ ν ξ' μ' : zm_M} {row row' stkC stkC' stk ord : List Nat} {Rs : Nat → List Nat} {ts us : Nat → zy_F} {s k n : Nat}
theorem zd_upd_eq {α : Type} {f : Nat → α} {s : Nat} {x : α} : zd_upd f s x s = x := if_pos rfl
theorem zd_upd_ne {α : Type} {f : Nat → α} {s q : Nat} {x : α} (h : q ≠ s) : zd_upd f s x q = f q := if_neg h
theorem zd_hasg_iff {G : Nat → Bool} {q : Nat} : zd_hasg ξ G 10 q = true ↔ ∃ j, j < 10 ∧ G j = true ∧ zd_has ξ q j = true := by
  constructor
  · intro z
    refine Decidable.byContradiction fun w => ?_
    have : zl_al (fun k => !(G k && zd_has ξ q k)) 10 = true := (zl_al_iff 10).mpr (fun i hi => by
      cases c : (G i && zd_has ξ q i) with
      | false => rfl
      | true =>
        rw [Bool.and_eq_true] at c
        exact absurd ⟨i, hi, c.1, c.2⟩ w)
    unfold zd_hasg at z
    rw [this] at z
    cases z
  · rintro ⟨j, hj, a, b⟩
    exact zd_hasg_of hj a b
theorem zK_cls (h : zK ξ μ row stkC stk ord Rs ts us) (hk : k < 10) (hs : s < 3) (ht : zd_til ξ k = true → ξ (zdW k) 5 = nI s ∧ n ∈ zy_lvs (ts s) ∧ k ∈ Rs s ∧ ξ (zdT s + 3) k = nI n) (hJ : zJ ξ' (row.filter (zd_left (zd_grp ξ k) 10)) stkC' (zd_clR ξ Rs k s) (zd_clT ξ Rs ts k s n)) (f : zd_cls ξ ξ' row stkC (zd_grp ξ k) 10 k s n (Rs s) (ts s)) (g : zv_cls μ μ' row stk us k) : ∃ stk' ord' us', zK ξ' μ' (row.filter (zd_left (zd_grp ξ k) 10)) stkC' stk' ord' (zd_clR ξ Rs k s) (zd_clT ξ Rs ts k s n) us' := by
  obtain ⟨m, g1, g2, ⟨g3, g4⟩, g5, g6⟩ := zv_cls_all h hk hs (fun z => (ht z).1) g
  obtain ⟨-, f2, f3, f4, -, f6⟩ := f
  have hdl := zK_dl h
  have hhas := fun q (hq : q < 3) j (hj : j < 10) => zK_has h hq hj
  have cl : zl_cl (zd_dl ξ) (zd_ow ξ) (zd_grp ξ k) := zl_spn_cl hk (decide_eq_true rfl)
  obtain ⟨h1, h4, h2, h3, h5, h6, h7⟩ := h
  have hrow : ∀ x ∈ row, x < 10 := fun x hx => ((h1.1.2.2 x).mp hx).1
  have hI := fun q hq => (h1.2.2.2.1 q hq).1.1
  have hV := fun q hq => (h1.2.2.2.2.1 q hq).1.1
  generalize zd_grp ξ k = G at *
  have left : ∀ j, j < 10 → zd_left G 10 j = !G j := fun j hj => zd_left_10 hj
  have eC : ∀ c b, c ≠ 3 → c ≠ 4 → c ≠ 5 → c ≠ 6 → c ≠ 31 → (∀ q, q < 3 → c = zdK q → b ≠ 3) → (∀ j, j < 10 → c = zdW j → b ≠ 2) → zt_out (zdT s) c → ξ' c b = ξ c b := fun c b a1 a2 a3 a4 a5 a6 a7 a8 => f6 c b a1 a2 a3 a4 a5 a6 a7 (fun _ _ => a8)
  have eW : ∀ j, j < 10 → ∀ b, b ≠ 2 → ξ' (zdW j) b = ξ (zdW j) b := fun j hj b hb => eC _ b (by unfold zdW; omega) (by unfold zdW; omega) (by unfold zdW; omega) (by unfold zdW; omega) (by unfold zdW; omega) (fun q hq e => by unfold zdW zdK at e; omega) (fun _ _ _ => hb) (by unfold zt_out zdT zdW; omega)
  have eL : ∀ j, j < 10 → ξ' (zdW j + 1) = ξ (zdW j + 1) := fun j hj => funext fun b => eC _ b (by unfold zdW; omega) (by unfold zdW; omega) (by unfold zdW; omega) (by unfold zdW; omega) (by unfold zdW; omega) (fun q hq e => by unfold zdW zdK at e; omega) (fun q hq e => by unfold zdW at e; omega) (by unfold zt_out zdT zdW; omega)
  have eS : ∀ q, q < 3 → ξ' (zdS q) = ξ (zdS q) := fun q hq => funext fun b => eC _ b (by unfold zdS; omega) (by unfold zdS; omega) (by unfold zdS; omega) (by unfold zdS; omega) (by unfold zdS; omega) (fun p hp e => by unfold zdS zdK at e; omega) (fun p hp e => by unfold zdS zdW at e; omega) (by unfold zt_out zdT zdS; omega)
  have eZ : ∀ q, q < 3 → ξ' (zdZ q) = ξ (zdZ q) := fun q hq => funext fun b => eC _ b (by unfold zdZ; omega) (by unfold zdZ; omega) (by unfold zdZ; omega) (by unfold zdZ; omega) (by unfold zdZ; omega) (fun p hp e => by unfold zdZ zdK at e; omega) (fun p hp e => by unfold zdZ zdW at e; omega) (by unfold zt_out zdT zdZ; omega)
  have eQ : ∀ q, q < 3 → ξ' (zdQ q) = ξ (zdQ q) := fun q hq => funext fun b => eC _ b (by unfold zdQ; omega) (by unfold zdQ; omega) (by unfold zdQ; omega) (by unfold zdQ; omega) (by unfold zdQ; omega) (fun p hp e => by unfold zdQ zdK at e; omega) (fun p hp e => by unfold zdQ zdW at e; omega) (by unfold zt_out zdT zdQ; omega)
  have eV : ∀ q, q < 3 → ∀ j, j < 19 → ξ' (zdV q + j) = ξ (zdV q + j) := fun q hq j hj => funext fun b => eC _ b (by unfold zdV; omega) (by unfold zdV; omega) (by unfold zdV; omega) (by unfold zdV; omega) (by unfold zdV; omega) (fun p hp e => by unfold zdV zdK at e; omega) (fun p hp e => by unfold zdV zdW at e; omega) (by unfold zt_out zdT zdV; omega)
  have eT : ∀ q, q < 3 → (zd_til ξ k = true → q ≠ s) → ∀ j, j < 19 → ξ' (zdT q + j) = ξ (zdT q + j) := fun q hq hqs j hj => funext fun b => f6 _ b (by unfold zdT; omega) (by unfold zdT; omega) (by unfold zdT; omega) (by unfold zdT; omega) (by unfold zdT; omega) (fun p hp e => by unfold zdT zdK at e; omega) (fun p hp e => by unfold zdT zdW at e; omega) (fun z _ => by
    have := hqs z
    unfold zt_out zdT
    omega)
  have th : ∀ j, j < 10 → zd_th ξ' j = (zd_th ξ j && !G j) := fun j hj => by
    unfold zd_th
    rw [f2 j hj, left j hj]
    cases G j with
    | true => simp
    | false => simp
  have flo : ∀ j, j < 10 → zd_flo ξ' j = (zd_flo ξ j && !G j) := fun j hj => by
    unfold zd_flo
    rw [f2 j hj, left j hj, eW j hj 3 (by decide)]
    cases G j with
    | true => simp
    | false => simp
  have has : ∀ q j, q < 3 → zd_has ξ' q j = (!zd_hasg ξ G 10 q && zd_has ξ q j) := fun q j hq => by
    unfold zd_has
    rw [f3 q hq, eQ q hq, eV q hq 3 (by decide)]
    cases zd_hasg ξ G 10 q with
    | true => simp
    | false => simp
  have grow : row.filter (fun x => !G x) = row.filter (zd_left G 10) := List.filter_congr (fun x hx => (left x (hrow x hx)).symm)
  refine ⟨stk.filter (fun x => !G x), ord.filter (fun x => !G x), zK_clU μ us (zd_til ξ k) s k m, hJ, ⟨by rw [← grow]; exact g3, g4, h4.2.2.1.filter _, fun x => ?_⟩, ⟨fun j hj => ?_, fun q hq => ?_⟩, fun j hj a b => ?_, ⟨h5.1.filter _, fun x => ?_, fun x hx e => ?_⟩, fun q hq => ?_, fun d hd => ?_, fun q hq => ?_⟩
  · rw [List.mem_filter, h4.2.2.2 x]
    constructor
    · rintro ⟨⟨a, b⟩, c⟩
      refine ⟨a, ?_⟩
      rw [flo x a, b, c]; rfl
    · rintro ⟨a, b⟩
      rw [flo x a, Bool.and_eq_true] at b
      exact ⟨⟨a, b.1⟩, b.2⟩
  · rw [th j hj, g2 j hj, eW j hj 3 (by decide), eW j hj 4 (by decide), eW j hj 5 (by decide), eL j hj]
    have up : ∀ c, c = 235 ∨ c = 236 ∨ c = 237 ∨ c = 238 → μ' c j = μ c j := fun c r => g6 c j (by omega) (by omega) (by omega) (by omega) (by omega) (fun _ => zu_in_not (by omega))
    rw [up 235 (by omega), up 236 (by omega), up 237 (by omega), up 238 (by omega)]
    cases G j with
    | true => exact ⟨fun _ => rfl, fun z => by simp at z⟩
    | false =>
      have := h2.1 j hj
      simpa using this
  · rw [eS q hq, eZ q hq, g6 232 q (by decide) (by decide) (by decide) (by decide) (by decide) (fun _ => zu_in_not (by decide)), g6 233 q (by decide) (by decide) (by decide) (by decide) (by decide) (fun _ => zu_in_not (by decide))]
    exact h2.2 q hq
  · rw [th j hj, Bool.and_eq_true] at a
    rw [eW j hj 3 (by decide)] at b
    obtain ⟨o, ho, q1, q2, q3, q4⟩ := h3 j hj a.1 b
    refine ⟨o, ho, by rw [eW j hj 4 (by decide)]; exact q1, by rw [eW o ho 3 (by decide)]; exact q2, by rw [eW j hj 5 (by decide), eW o ho 5 (by decide)]; exact q3, fun q hq z => ?_⟩
    rw [has q _ hq, Bool.and_eq_true] at z ⊢
    exact ⟨z.1, q4 q hq z.2⟩
  · rw [List.mem_filter, h5.2.1 x]
    constructor
    · rintro ⟨⟨a, b⟩, c⟩
      refine ⟨a, ?_⟩
      rw [g2 x a, if_neg (fun z => by rw [z] at c; cases c)]
      exact b
    · rintro ⟨a, b⟩
      rw [g2 x a] at b
      by_cases c : G x = true
      · rw [if_pos c] at b
        exact absurd rfl b
      · rw [if_neg c] at b
        exact ⟨⟨a, b⟩, by simpa using c⟩
  · rw [g2 x hx] at e
    by_cases c : G x = true
    · rw [if_pos c] at e
      exact absurd e (by decide)
    · rw [if_neg c] at e
      obtain ⟨o, ho, e2, e3, e4⟩ := h5.2.2 x hx e
      have hx' : x ∈ ord := (h5.2.1 x).mpr ⟨hx, by rw [e]; decide⟩
      have hd : zd_dl ξ x = true := by
        rw [(hdl x hx).1]
        exact decide_eq_true e
      obtain ⟨-, b2, -, b4, -⟩ := (hdl x hx).2 hd
      have eo : zd_ow ξ x = o := (nI_eq (by omega) (by omega)).mp (b4.symm.trans e2)
      have no : ¬ G o = true := fun z => c (cl x hx hd (by rw [eo]; exact z))
      have c' : (!G x) = true := by simpa using c
      have no' : (!G o) = true := by simpa using no
      refine ⟨o, ho, by rw [g6 237 x (by decide) (by decide) (by decide) (by decide) (by decide) (fun _ => zu_in_not (by decide))]; exact e2, List.mem_filter.mpr ⟨e3, no'⟩, ?_⟩
      exact zl_idx_filter (p := fun x => !G x) ord e3 hx' no' c' e4
  · by_cases c : zd_til ξ k = true
    · obtain ⟨t1, t2, t3, t4⟩ := ht c
      unfold zd_clR zd_clT zK_clU
      rw [if_pos c, if_pos c, if_pos c]
      by_cases e : q = s
      · subst e
        rw [zd_upd_eq, zd_upd_eq, zd_upd_eq]
        obtain ⟨ν2, ab', p1, p2, p3⟩ := g1 c
        have tf : zu_eqT μ q (zv_fg μ k) q := zu_eq_in (fun x y r => zv_fg_ne (fun z => zu_in_not (Or.inr (by omega)) r))
        obtain ⟨ab, hIu⟩ := (h6 q hq).2
        have z0 := zs_eqT (hI q hq) (h6 q hq) tf
        have at0 := zu_at_eqT hIu tf p1
        obtain ⟨m', at', pp⟩ := zs_at (hI q hq) z0 t3 t2 t4
        have em := at'.2.2 m at0.1 at0.2.1
        subst em
        obtain ⟨o1, o2, o3, o4, o5, o6, o7⟩ := f4 c (by omega)
        exact zs_eqT o1.1 (zs_out (hI q hq) z0 t2 at0 pp o1.1 o2 o5 o6 o7 p2) p3
      · rw [zd_upd_ne e, zd_upd_ne e, zd_upd_ne e]
        exact zs_cl (hI q hq) (zs_eqT (hI q hq) (h6 q hq) (zu_eq_in (fun x y r => g6 x y (fun z => zu_in_not (Or.inl (by omega)) r) (fun z => zu_in_not (Or.inl (by omega)) r) (fun z => zu_in_not (Or.inl (by omega)) r) (fun z => zu_in_not (Or.inr (by omega)) r) (fun z => zu_in_not (Or.inl (by omega)) r) (fun _ => zu_in_ne r e)))) (eT q hq (fun _ => e) 3 (by decide)) (eT q hq (fun _ => e) 7 (by decide)) (eT q hq (fun _ => e) 8 (by decide)) (eT q hq (fun _ => e) 12 (by decide))
    · unfold zd_clR zd_clT zK_clU
      rw [if_neg c, if_neg c, if_neg c]
      exact zs_cl (hI q hq) (zs_eqT (hI q hq) (h6 q hq) (zu_eq_in (fun x y r => g6 x y (fun z => zu_in_not (Or.inl (by omega)) r) (fun z => zu_in_not (Or.inl (by omega)) r) (fun z => zu_in_not (Or.inl (by omega)) r) (fun z => zu_in_not (Or.inr (by omega)) r) (fun z => zu_in_not (Or.inl (by omega)) r) (fun z => absurd z c)))) (eT q hq (fun z => absurd z c) 3 (by decide)) (eT q hq (fun z => absurd z c) 7 (by decide)) (eT q hq (fun z => absurd z c) 8 (by decide)) (eT q hq (fun z => absurd z c) 12 (by decide))
  · rw [g6 252 d (by decide) (by decide) (by decide) (by decide) (by decide) (fun _ => zu_in_not (by decide))]
    exact h7.1 d hd
  · obtain ⟨k1, k2⟩ := h7.2 q hq
    have eR : zd_clR ξ Rs k s (3 + q) = Rs (3 + q) := by
      unfold zd_clR
      by_cases c : zd_til ξ k = true
      · rw [if_pos c, zd_upd_ne (by omega)]
      · rw [if_neg c]
    have et : zd_clT ξ Rs ts k s n (3 + q) = ts (3 + q) := by
      unfold zd_clT
      by_cases c : zd_til ξ k = true
      · rw [if_pos c, zd_upd_ne (by omega)]
      · rw [if_neg c]
    have eu : zK_clU μ us (zd_til ξ k) s k m (3 + q) = us (3 + q) := by
      unfold zK_clU
      by_cases c : zd_til ξ k = true
      · rw [if_pos c, zd_upd_ne (by omega)]
      · rw [if_neg c]
    rw [eR, et, eu, g5 q hq, f3 q hq]
    have hg : zd_hasg ξ G 10 q = true ↔ ¬ μ 251 q = 0 ∧ ∃ j, j < 10 ∧ G j = true ∧ ¬ μ 252 (10 * q + j) = 0 := by
      rw [zd_hasg_iff]
      constructor
      · rintro ⟨j, a, b, c⟩
        obtain ⟨c1, c2⟩ := (hhas q hq j a).mpr c
        exact ⟨c1, j, a, b, c2⟩
      · rintro ⟨c1, j, a, b, c2⟩
        exact ⟨j, a, b, (hhas q hq j a).mp ⟨c1, c2⟩⟩
    by_cases c : zd_hasg ξ G 10 q = true
    · rw [if_pos c]
      exact ⟨⟨fun _ => rfl, fun _ => Or.inr (hg.mp c).2⟩, fun z => absurd rfl z⟩
    · rw [if_neg c]
      refine ⟨⟨fun z => z.elim k1.mp (fun z => Decidable.byContradiction fun w => c (hg.mpr ⟨fun y => w (k1.mp y), z⟩)), fun z => Or.inl (k1.mpr z)⟩, fun z => ⟨fun j hj => ?_, ?_⟩⟩
      · rw [has q j hq, g6 252 _ (by decide) (by decide) (by decide) (by decide) (by decide) (fun _ => zu_in_not (by decide))]
        have c' : zd_hasg ξ G 10 q = false := by simpa using c
        rw [c']
        exact (k2 z).1 j hj
      · exact zs_cl (hV q hq) (zs_eqT (hV q hq) (k2 z).2 (zu_eq_in (fun x y r => g6 x y (fun z => zu_in_not (Or.inl (by omega)) r) (fun z => zu_in_not (Or.inl (by omega)) r) (fun z => zu_in_not (Or.inl (by omega)) r) (fun z => zu_in_not (Or.inr (by omega)) r) (fun z => zu_in_not (Or.inl (by omega)) r) (fun _ => zu_in_ne r (by omega))))) (eV q hq 3 (by decide)) (eV q hq 7 (by decide)) (eV q hq 8 (by decide)) (eV q hq 12 (by decide))
end ZKL
end
section
/-! side by side: a new window tiled -/
section ZKM
variable {ξ μ ν ξ1 ξ' μ' : zm_M} {row stkC stk ord : List Nat} {Rs : Nat → List Nat} {ts us : Nat → zy_F} {T Q τ σ : Nat} {R : List Nat} {t u : zy_F} {s k n m a c f c' f' : Nat} {x y : Int32} {ab' : Nat → Int32}
/-- another place of the class, the trees well formed -/
theorem zs_cl2 (wt : zy_wf t) (h : zs ξ T R t μ τ u) (e3 : ξ' (Q + 3) = ξ (T + 3)) (e7 : ξ' (Q + 7) = ξ (T + 7)) (e8 : ξ' (Q + 8) = ξ (T + 8)) (e12 : ξ' (Q + 12) = ξ (T + 12)) : zs ξ' Q R t μ τ u := by
  obtain ⟨h1, ab, h2⟩ := id h
  have wu := zy_sim_wf (zu_I_or h2) wt h1
  refine ⟨?_, ab, h2⟩
  refine zy_sim_mono t wt u wu h1 (fun x hx y hy p => ⟨?_, ?_⟩) (fun x hx y hy p => ⟨?_, ?_⟩)
  · rw [zt_tb_congr (Q := T) (μ := ξ) e3]; exact p.1
  · rw [e12]; exact p.2
  · rw [e7]; exact p.1
  · rw [e8]; exact p.2
theorem zt_wf_of (hI : zt_I ξ T R t) (hk : k ∈ R) : zy_wf t := by
  rcases zt_I_or hI with rfl | w
  · obtain ⟨n, hn, -⟩ := hI.2.2.2.1 k hk
    cases hn
  · exact w
theorem zs_pl_eqT {ab : Nat → Int32} (hI : zu_I μ τ u ab) (hm : m ∈ zy_lvs u) (e : zu_eqT μ τ ν σ) (p : zs_pl ξ T R μ τ n m) : zs_pl ξ T R ν σ n m :=
  ⟨(e.tb (zu_I_lt hI hm) (zu_I_tbl hI hm)).trans p.1, (e.2.1 250 m rfl (zu_I_lt hI hm)).trans p.2⟩
theorem zt_cut_inj (hI : zt_I ξ Q R t) {nf : Bool} {a' : Nat} (ha : a < 2) (ha' : a' < 2) (h1 : zt_isCut ξ Q R t n k a nf x y ν T c f) (h2 : zt_isCut ξ Q R t n k a' nf x y ν T c' f') : c = c' ∧ f = f' ∧ a = a' := by
  obtain ⟨-, ⟨c1, c2, c3, c4, c5⟩, -, -, -, e, -⟩ := h1
  obtain ⟨-, ⟨d1, d2, d3, d4, d5⟩, -, -, -, e', -⟩ := h2
  have h3 := hI.2.2.1
  have g1 := (e f).symm.trans (e' f)
  have g2 := (e c).symm.trans (e' c)
  rw [if_pos rfl, h3 f c2 c4] at g1
  rw [if_neg c5, if_pos rfl, h3 c c1 c3] at g2
  have n2 : ∀ b, b < 2 → ¬ (2 : Int32) = nI b ∧ ¬ nI b = 2 ∧ ¬ nI b = 3 := by decide
  have ef : f = f' := by
    refine Decidable.byContradiction fun z => ?_
    rw [if_neg z] at g1
    by_cases z2 : f = c'
    · rw [if_pos z2] at g1
      exact (n2 a' ha').1 g1
    · rw [if_neg z2] at g1
      exact absurd g1 (by decide)
  have ec : c = c' := by
    refine Decidable.byContradiction fun z => ?_
    by_cases z2 : c = f'
    · rw [if_pos z2] at g2
      exact (n2 a ha).2.1 g2
    · rw [if_neg z2, if_neg z] at g2
      exact (n2 a ha).2.2 g2
  refine ⟨ec, ef, ?_⟩
  have z2 : ¬ c = f' := by rw [← ef]; exact c5
  rw [if_neg z2, if_pos ec] at g2
  exact (nI_eq (by omega) (by omega)).mp g2
theorem zt_cut_tab (hI : zt_I ξ Q R t) {nf : Bool} {n' : Nat} (h1 : zt_isCut ξ Q R t n k a nf x y ν T c f) (h2 : zt_isTab ξ Q R t n' k x y ν T) : False := by
  obtain ⟨-, ⟨c1, c2, c3, c4, c5⟩, -, -, -, e, -⟩ := h1
  obtain ⟨-, -, -, -, e', -⟩ := h2
  have g1 := (e f).symm.trans (congrFun e' f)
  rw [if_pos rfl, hI.2.2.1 f c2 c4] at g1
  exact absurd g1 (by decide)
/-- the trial tree of the class is at 7 -/
theorem zt_I_7 (hI : zt_I ξ Q R t) : zt_I (fun c => ξ (Q + (c - 7))) 7 R t := hI
theorem zs_7 (hI : zt_I ξ Q R t) (h : zs ξ Q R t μ τ u) : zs (fun c => ξ (Q + (c - 7))) 7 R t μ τ u := zs_cl hI h rfl rfl rfl rfl
theorem zs_cut7 (hI : zt_I ξ Q R t) (h : zs ξ Q R t μ τ u) (hn : n ∈ zy_lvs t) (hm : m ∈ zy_lvs u) (p : zs_pl ξ Q R μ τ n m) (hk : k < 10) (hkR : k ∉ R) {nf : Bool} (hc : zt_isCut ξ Q R t n k a nf x y ξ' 7 c f) (hu : zu_isCut μ τ u m k a nf ν ab' c' f') : zs ξ' 7 (R ++ [k]) (zy_sub n (.append (.tag c (.tag (if nf then f else n) .nil)) (.tag (if nf then n else f) .nil)) t) ν τ (zy_sub m (.append (.tag c' (.tag (if nf then f' else m) .nil)) (.tag (if nf then m else f') .nil)) u) :=
  zs_cut (ξ := fun c => ξ (Q + (c - 7))) (zt_I_7 hI) (zs_7 hI h) hn hm p hk hkR hc.2.1 hc.2.2.1 hc.2.2.2.2.2.1 hc.2.2.2.2.2.2.1 hc.2.2.2.2.2.2.2 hu
theorem zs_tab7 (hI : zt_I ξ Q R t) (h : zs ξ Q R t μ τ u) (hn : n ∈ zy_lvs t) (hm : m ∈ zy_lvs u) (p : zs_pl ξ Q R μ τ n m) (hk : k < 10) (hkR : k ∉ R) (hc : zt_isTab ξ Q R t n k x y ξ' 7) (hu : zu_isTab μ τ u ab' m k ν) : zs ξ' 7 (R ++ [k]) t ν τ u :=
  zs_tab (ξ := fun c => ξ (Q + (c - 7))) (zt_I_7 hI) (zs_7 hI h) hn hm p hk hkR hc.2.1 hc.2.2.2.2.1 hc.2.2.2.2.2.1 hc.2.2.2.2.2.2 hu
/-- the sizes of the tabs of a trial -/
theorem zs_szA {V : Nat} (hz : zs_sz ξ Q R μ) (hk : ∀ a, a < 2 → μ (235 + a) k = ξ' (V + 5 + a) k) (e5 : ∀ v ∈ R, ξ' (V + 5) v = ξ (Q + 5) v) (e6 : ∀ v ∈ R, ξ' (V + 6) v = ξ (Q + 6) v) : zs_sz ξ' V (R ++ [k]) μ := by
  intro a ha w hw
  rcases List.mem_append.mp hw with hw | hw
  · have := hz a ha w hw
    rcases (by omega : a = 0 ∨ a = 1) with rfl | rfl
    · exact this.trans (e5 w hw).symm
    · exact this.trans (e6 w hw).symm
  · rw [List.mem_singleton.mp hw]
    exact hk a ha
theorem zs_szF (hz : zs_sz ξ Q R μ) (f : ∀ c d, c = 235 ∨ c = 236 → ν c d = μ c d) : zs_sz ξ Q R ν := fun a ha w hw => (f _ w (by omega)).trans (hz a ha w hw)
end ZKM
end
section
/-! side by side: a new window tiled, the trials -/
section ZKN
variable {ξ μ ν νr ξ' μ' : zm_M} {ts us : Nat → zy_F} {R R' : List Nat} {t t' u u' : zy_F} {s k n m : Nat} {b b' : Int32} {ac : Bool}
/-- a leaf n, m at hand on both sides: the same is done -/
theorem zK_tlN (hs : s < 3) (hk : k < 10) (hkR : k ∉ R) (hI : zt_I ξ (zdT s) R t) (hz : zs ξ (zdT s) R t μ s u) (hn : n ∈ zy_lvs t) (hm : m ∈ zy_lvs u) (p : zs_pl ξ (zdT s) R μ s n m) (hsz : zs_sz ξ (zdT s) R μ) (hkz : μ 235 k = ξ (zdW k + 1) 0 ∧ μ 236 k = ξ (zdW k + 1) 1) (e0 : ξ (zdZ s) 0 = μ 232 s) (e1 : ξ (zdZ s) 1 = μ 233 s) (hax : (if ξ (zdT s + 23) n ≤ ξ (zdT s + 22) n then 0 else 1) = (if ac = true then 0 else 1))
    (f : zd_tiledN ξ ν s k n R t b) (f2 : b = 1 → R' = R ++ [k] ∧ ((∃ a c f, a < 2 ∧ t' = zy_cut n c f t ∧ zt_isCut ξ (zdT s) R t n k a false (ξ (zdW k + 1) 0) (ξ (zdW k + 1) 1) ν (zdT s) c f) ∨ (t' = t ∧ zt_isTab ξ (zdT s) R t n k (ξ (zdW k + 1) 0) (ξ (zdW k + 1) 1) ν (zdT s))))
    (g : zv_tlN μ νr s k m ac u u' b') : b = b' ∧ (b = 1 → zs ν (zdT s) R' t' νr s u') := by
  have n0 : ¬ (0 : Int32) = 1 := by decide
  obtain ⟨abu, hIu⟩ := hz.2
  have tT : ∀ {A : zm_M}, zu_eqT μ s A s → zu_eqT μ s (zu_cq A s 6 24 240) 6 := fun e => e.trans zu_cq_eqT
  -- a trial fits on both sides or on none
  have fit : ∀ {ξ1 X : zm_M} {T1 : zy_F} {U1 : zy_F}, zt_I ξ1 7 (R ++ [k]) T1 → zs ξ1 7 (R ++ [k]) T1 X 6 U1 → zt_frT 7 ξ ξ1 → zu_fr 6 μ X → (∀ v, ξ1 (7 + 5) v = if v = k then ξ (zdW k + 1) 0 else ξ (zdT s + 5) v) → (∀ v, ξ1 (7 + 6) v = if v = k then ξ (zdW k + 1) 1 else ξ (zdT s + 6) v) → zt_fit ξ1 7 (zdZ s) (R ++ [k]) T1 = zu_fit X 6 U1 (μ 232 s) (μ 233 s) := fun {ξ1 X T1 U1} i z fr gr e5 e6 => by
    have hne : ∀ v ∈ R, v ≠ k := fun v hv e => hkR (e ▸ hv)
    have hzX := zs_szF (ν := X) hsz (fun c d r => gr c d (zu_in_not (by omega)))
    refine zs_fit i z (zs_szA (ξ' := ξ1) (V := 7) hzX (fun a ha => ?_) (fun v hv => by rw [e5, if_neg (hne v hv)]) (fun v hv => by rw [e6, if_neg (hne v hv)])) ?_ ?_
    · rw [gr _ _ (zu_in_not (by omega))]
      rcases (by omega : a = 0 ∨ a = 1) with rfl | rfl
      · exact hkz.1.trans (by show _ = ξ1 (7 + 5) k; rw [e5, if_pos rfl])
      · exact hkz.2.trans (by show _ = ξ1 (7 + 6) k; rw [e6, if_pos rfl])
    · rw [fr _ (by unfold zt_out zdZ; omega)]; exact e0
    · rw [fr _ (by unfold zt_out zdZ; omega)]; exact e1
  unfold zd_tiledN at f
  dsimp only at f
  unfold zv_tlN at g
  have e' : (if ac = true then 1 else 0) = 1 - (if ac = true then 0 else 1) := by cases ac <;> rfl
  have ha : (if ac = true then 0 else 1) < 2 := by cases ac <;> decide
  rw [hax] at f
  rw [e'] at g
  generalize (if ac = true then 0 else 1) = a at f g ha
  obtain ⟨ξ1, c1, f1, fr1, k1, f⟩ := f
  obtain ⟨X1, ab1, d1, h1, j1, gr1, g⟩ := g
  have z6 := zs_eqT hI hz (tT zu_eqT.refl)
  have p6 := zs_pl_eqT hIu hm (tT zu_eqT.refl) p
  have t1 := zs_cut7 hI z6 hn hm p6 hk hkR k1 j1
  have q1 := fit k1.1.1 t1 fr1 gr1 k1.2.2.2.1 k1.2.2.2.2.1
  have toS : ∀ {X : zm_M} {T1 U1 : zy_F}, zt_I ν (zdT s) (R ++ [k]) T1 → zs ν (zdT s) (R ++ [k]) T1 X 6 U1 → zs ν (zdT s) (R ++ [k]) T1 (zu_cq X 6 s 24 240) s U1 := fun i z => zs_eqT i z zu_cq_eqT
  rcases f with ⟨r1, rfl, r2⟩ | ⟨r1, ξ2, c2, f2', fr2, k2, f⟩
  · rcases g with ⟨s1, rfl, rfl, rfl⟩ | ⟨s1, -⟩
    · refine ⟨rfl, fun _ => ?_⟩
      obtain ⟨rfl, hh⟩ := f2 rfl
      rcases hh with ⟨a', c', f', ha', rfl, w⟩ | ⟨-, w⟩
      · obtain ⟨rfl, rfl, -⟩ := zt_cut_inj hI ha' ha w r2
        exact toS r2.1.1 (zs_cut hI z6 hn hm p6 hk hkR r2.2.1 r2.2.2.1 r2.2.2.2.2.2.1 r2.2.2.2.2.2.2.1 r2.2.2.2.2.2.2.2 j1)
      · exact (zt_cut_tab hI r2 w).elim
    · have e : zt_fit ξ1 7 (zdZ s) (R ++ [k]) (zy_cut n c1 f1 t) = zu_fit X1 6 (zy_cut m d1 h1 u) (μ 232 s) (μ 233 s) := q1
      rw [r1, s1] at e
      cases e
  · rcases g with ⟨s1, -⟩ | ⟨s1, X2, ab2, d2, h2, j2, gr2, g⟩
    · have e : zt_fit ξ1 7 (zdZ s) (R ++ [k]) (zy_cut n c1 f1 t) = zu_fit X1 6 (zy_cut m d1 h1 u) (μ 232 s) (μ 233 s) := q1
      rw [r1, s1] at e
      cases e
    · have gr12 : zu_fr 6 μ X2 := gr1.trans gr2
      have z62 := zs_eqT hI hz (tT (gr1.eqT (τ := s) (by omega)))
      have p62 := zs_pl_eqT hIu hm (tT (gr1.eqT (τ := s) (by omega))) p
      have t2 := zs_cut7 hI z62 hn hm p62 hk hkR k2 j2
      have q2 : zt_fit ξ2 7 (zdZ s) (R ++ [k]) (zy_cut n c2 f2' t) = zu_fit X2 6 (zy_cut m d2 h2 u) (μ 232 s) (μ 233 s) := fit k2.1.1 t2 fr2 gr12 k2.2.2.2.1 k2.2.2.2.2.1
      rcases f with ⟨r3, rfl, r4⟩ | ⟨r3, ξ3, fr3, k3, f⟩
      · rcases g with ⟨s3, rfl, rfl, rfl⟩ | ⟨s3, -⟩
        · refine ⟨rfl, fun _ => ?_⟩
          obtain ⟨rfl, hh⟩ := f2 rfl
          rcases hh with ⟨a', c', f', ha', rfl, w⟩ | ⟨-, w⟩
          · obtain ⟨rfl, rfl, -⟩ := zt_cut_inj hI ha' (by omega) w r4
            exact toS r4.1.1 (zs_cut hI z62 hn hm p62 hk hkR r4.2.1 r4.2.2.1 r4.2.2.2.2.2.1 r4.2.2.2.2.2.2.1 r4.2.2.2.2.2.2.2 j2)
          · exact (zt_cut_tab hI r4 w).elim
        · rw [r3, s3] at q2
          cases q2
      · rcases g with ⟨s3, -⟩ | ⟨s3, X3, ab3, j3, gr3, g⟩
        · rw [r3, s3] at q2
          cases q2
        · have z63 := zs_eqT hI hz (tT (gr12.eqT (τ := s) (by omega)))
          have p63 := zs_pl_eqT hIu hm (tT (gr12.eqT (τ := s) (by omega))) p
          have t3 := zs_tab7 hI z63 hn hm p63 hk hkR k3 j3
          have q3 := fit k3.1.1 t3 fr3 (gr12.trans gr3) k3.2.2.1 k3.2.2.2.1
          rcases f with ⟨r5, rfl, r6⟩ | ⟨r5, rfl, -⟩
          · rcases g with ⟨s5, rfl, rfl, rfl⟩ | ⟨s5, -⟩
            · refine ⟨rfl, fun _ => ?_⟩
              obtain ⟨rfl, hh⟩ := f2 rfl
              rcases hh with ⟨a', c', f', ha', -, w⟩ | ⟨rfl, w⟩
              · exact (zt_cut_tab hI w r6).elim
              · exact toS r6.1.1 (zs_tab hI z63 hn hm p63 hk hkR r6.2.1 r6.2.2.2.2.1 r6.2.2.2.2.2.1 r6.2.2.2.2.2.2 j3)
            · rw [r5, s5] at q3
              cases q3
          · rcases g with ⟨s5, -⟩ | ⟨s5, rfl, -⟩
            · rw [r5, s5] at q3
              cases q3
            · exact ⟨rfl, fun e => absurd e n0⟩
/-- no leaf at hand -/
theorem zK_tl0 (hs : s < 3) (hk : k < 10) (hkz : μ 235 k = ξ (zdW k + 1) 0 ∧ μ 236 k = ξ (zdW k + 1) 1) (e0 : ξ (zdZ s) 0 = μ 232 s) (e1 : ξ (zdZ s) 1 = μ 233 s) (f : zd_tiled0 ξ ν s k b) (f2 : b = 1 → ∃ n, R' = [k] ∧ t' = .tag n .nil ∧ zt_isNew ξ (zdT s) k (ξ (zdW k + 1) 0) (ξ (zdW k + 1) 1) ν (zdT s) n) (g : zv_tl0 μ νr s k u' b') : b = b' ∧ (b = 1 → zs ν (zdT s) R' t' νr s u') := by
  have n0 : ¬ (0 : Int32) = 1 := by decide
  obtain ⟨ξ1, n, fr, k1, f⟩ := f
  obtain ⟨X, d, j1, g⟩ := g
  have t1 := zs_new (ξ := fun c => ξ (zdT s + (c - 7))) (T := 7) k1.2.1 hk k1.2.2.1 k1.2.2.2.2.2.2.2 j1
  have hz : zs_sz ξ1 7 [k] X := fun a ha w hw => by
    rw [List.mem_singleton.mp hw, j1.2.2.2.2 _ _ (zu_in_not (by omega))]
    rcases (by omega : a = 0 ∨ a = 1) with rfl | rfl
    · exact hkz.1.trans (by show _ = ξ1 (7 + 5) k; rw [k1.2.2.2.1, if_pos rfl])
    · exact hkz.2.trans (by show _ = ξ1 (7 + 6) k; rw [k1.2.2.2.2.1, if_pos rfl])
  have q := zs_fit k1.1.1 t1 hz (z := zdZ s) (w := μ 232 s) (v := μ 233 s) (by rw [fr _ (by unfold zt_out zdZ; omega)]; exact e0) (by rw [fr _ (by unfold zt_out zdZ; omega)]; exact e1)
  rcases f with ⟨r1, rfl, r2⟩ | ⟨r1, rfl, -⟩
  · rcases g with ⟨s1, rfl, rfl, rfl⟩ | ⟨s1, -⟩
    · refine ⟨rfl, fun _ => ?_⟩
      obtain ⟨n', rfl, rfl, w⟩ := f2 rfl
      exact zs_eqT w.1.1 (zs_new (ξ := ξ) (T := zdT s) w.2.1 hk w.2.2.1 w.2.2.2.2.2.2.2 j1) zu_cq_eqT
    · rw [r1, s1] at q
      cases q
  · rcases g with ⟨s1, -⟩ | ⟨s1, rfl, -⟩
    · rw [r1, s1] at q
      cases q
    · exact ⟨rfl, fun e => absurd e n0⟩
end ZKN
end
section
/-! side by side: what open may be asked; a number that is free; the leaf at hand -/
section ZKO
variable {ξ μ ν νr ξ' μ' M : zm_M} {row stkC stk ord : List Nat} {Rs : Nat → List Nat} {ts us : Nat → zy_F} {R' : List Nat} {t' u' : zy_F} {lo : Nat → Nat} {s k n m : Nat} {b b' kd w v o : Int32}
theorem zK_oarg (h : zK ξ μ row stkC stk ord Rs ts us) : zd_oarg ξ kd w v o ↔ zv_oarg μ kd w v o := by
  have e : ∀ j, j < 10 → (zd_th ξ j = true ↔ ¬ μ 234 j = 0) := fun j hj => (zK_kind h hj).2.2
  unfold zd_oarg zv_oarg
  constructor
  · rintro ⟨a, b, c⟩
    refine ⟨a, fun z => ?_, c⟩
    obtain ⟨j, hj, q1, q2⟩ := b z
    exact ⟨j, hj, q1, (e j hj).mp q2⟩
  · rintro ⟨a, b, c⟩
    refine ⟨a, fun z => ?_, c⟩
    obtain ⟨j, hj, q1, q2⟩ := b z
    exact ⟨j, hj, q1, (e j hj).mpr q2⟩
/-- a screen is there on both sides -/
theorem zK_scn (h : zK ξ μ row stkC stk ord Rs ts us) {j : Nat} (hj : j < 3) : ¬ ξ (zdS j) 3 = 0 ↔ 0 < μ 232 j := by
  obtain ⟨q1, q2⟩ := h.2.2.1.2 j hj
  by_cases c : ξ (zdS j) 3 = 0
  · rw [(q1 c).1]
    exact ⟨fun z => absurd c z, fun z => absurd z (by decide)⟩
  · refine ⟨fun _ => ?_, fun _ => c⟩
    rw [(q2 c).1]
    have := (h.1.2.2.2.2.2 j hj c).1.1
    exact Int32.lt_of_lt_of_le (by decide) this
theorem nI_ne_m1 {j : Nat} (hj : j < 100) : ¬ nI j = -1 := fun e => by
  have : nI j < 0 := by rw [e]; decide
  exact nI_pos (by omega) this
theorem zK_lsb (h : zK ξ μ row stkC stk ord Rs ts us) : zd_lsb ξ (-1) = zv_lsb μ := by
  unfold zd_lsb zv_lsb
  refine zl_fi_congr 3 0 (fun j _ hj => ?_)
  rw [decide_eq_decide, ← zK_scn h (by omega : j < 3)]
  exact ⟨fun z => z.2, fun z => ⟨nI_ne_m1 (by omega), z⟩⟩
/-- a sticky window on both sides; the screen of the others -/
theorem zK_sti (h : zK ξ μ row stkC stk ord Rs ts us) {j : Nat} (hj : j < 10) (ht : zd_th ξ j = true) : (zd_sti ξ j = true ↔ μ 234 j = 4) ∧ (¬ μ 234 j = 4 → μ 238 j = ξ (zdW j) 5) := by
  obtain ⟨e1, -, -, e4⟩ := (h.2.2.1.1 j hj).2 ht
  rw [e1]
  exact ⟨⟨fun z => (of_decide_eq_true z).2, fun z => decide_eq_true ⟨of_decide_eq_true ht, z⟩⟩, e4⟩
theorem zK_sah (h : zK ξ μ row stkC stk ord Rs ts us) : ∀ l : List Nat, (∀ x ∈ l, x < 10 ∧ zd_th ξ x = true) → zd_sah ξ l = zv_sah μ l
  | [], _ => zK_lsb h
  | a :: l, hl => by
    obtain ⟨ha, ht⟩ := hl a (List.mem_cons_self ..)
    obtain ⟨q1, q2⟩ := zK_sti h ha ht
    show (if zd_sti ξ a = true then zd_sah ξ l else ξ (zdW a) 5) = (if μ 234 a = 4 then zv_sah μ l else μ 238 a)
    by_cases c : μ 234 a = 4
    · rw [if_pos c, if_pos (q1.mpr c)]
      exact zK_sah h l (fun x hx => hl x (List.mem_cons_of_mem _ hx))
    · rw [if_neg c, if_neg (fun z => c (q1.mp z)), q2 c]
theorem zK_osc (h : zK ξ μ row stkC stk ord Rs ts us) (ha : zd_oarg ξ kd w v o) : zd_osc ξ row kd o = zv_osc μ row kd o := by
  unfold zd_osc zv_osc
  by_cases c : kd = 3
  · rw [if_pos c, if_pos c]
    obtain ⟨j, hj, e, ht⟩ := ha.2.1 c
    rw [e, nI_clamp (by omega)]
    obtain ⟨q1, q2⟩ := zK_sti h hj ht
    by_cases c4 : μ 234 j = 4
    · rw [if_pos c4, if_pos (q1.mpr c4)]
    · rw [if_neg c4, if_neg (fun z => c4 (q1.mp z)), q2 c4]
  · rw [if_neg c, if_neg c]
    exact zK_sah h row (fun x hx => (h.1.1.2.2 x).mp hx)
/-- a number that no window has is nothing on both sides -/
theorem zK_free (h : zK ξ μ row stkC stk ord Rs ts us) (hk : k < 10) (hnt : zd_th ξ k = false) (w2 : ξ' (zdW k) 2 = ξ (zdW k) 2) (f : ∀ c, ¬ zJ_irr c → c ≠ zdW k → c ≠ zdW k + 1 → ξ' c = ξ c) (g : ∀ c d, ¬ (c = 231 ∧ d = 30) → ¬ ((c = 235 ∨ c = 236) ∧ d = k) → c ≠ 239 → c ≠ 240 → ¬ (253 ≤ c ∧ c ≤ 261) → ¬ zu_in 6 c d → μ' c d = μ c d) : zK ξ' μ' row stkC stk ord Rs ts us := by
  obtain ⟨h1, h4, h2, h3, h5, h6, h7⟩ := h
  have eW : ∀ j, j < 10 → j ≠ k → ξ' (zdW j) = ξ (zdW j) := fun j hj hne => f _ (zJn_W hj).1 (fun e => hne (zdW_inj e)) (by unfold zdW; omega)
  have eL : ∀ j, j < 10 → j ≠ k → ξ' (zdW j + 1) = ξ (zdW j + 1) := fun j hj hne => f _ (zJn_W hj).2 (by unfold zdW; omega) (by unfold zdW; omega)
  have eT : ∀ q, q < 3 → ∀ j, j < 19 → ξ' (zdT q + j) = ξ (zdT q + j) := fun q hq j hj => f _ (zJn_T hq hj).1 (by unfold zdT zdW; omega) (by unfold zdT zdW; omega)
  have eV : ∀ q, q < 3 → ∀ j, j < 19 → ξ' (zdV q + j) = ξ (zdV q + j) := fun q hq j hj => f _ (zJn_T hq hj).2 (by unfold zdV zdW; omega) (by unfold zdV zdW; omega)
  have eS : ∀ q, q < 3 → ξ' (zdS q) = ξ (zdS q) ∧ ξ' (zdZ q) = ξ (zdZ q) ∧ ξ' (zdK q) = ξ (zdK q) ∧ ξ' (zdQ q) = ξ (zdQ q) := fun q hq => ⟨f _ (zJn_S hq).1 (by unfold zdS zdW; omega) (by unfold zdS zdW; omega), f _ (zJn_S hq).2.1 (by unfold zdZ zdW; omega) (by unfold zdZ zdW; omega), f _ (zJn_S hq).2.2.1 (by unfold zdK zdW; omega) (by unfold zdK zdW; omega), f _ (zJn_S hq).2.2.2 (by unfold zdQ zdW; omega) (by unfold zdQ zdW; omega)⟩
  have thk : zd_th ξ' k = false := by
    unfold zd_th at *
    rw [w2]
    exact hnt
  have th : ∀ j, j < 10 → zd_th ξ' j = zd_th ξ j := fun j hj => by
    by_cases e : j = k
    · rw [e, thk, hnt]
    · unfold zd_th; rw [eW j hj e]
  have ne : ∀ j, zd_th ξ j = true → j ≠ k := fun j q e => by rw [e, hnt] at q; cases q
  have has : ∀ q j, q < 3 → zd_has ξ' q j = zd_has ξ q j := fun q j hq => by unfold zd_has; rw [(eS q hq).2.2.1, (eS q hq).2.2.2, eV q hq 3 (by decide)]
  have g4 : ∀ c d, c = 231 ∧ d ≠ 30 ∨ (232 ≤ c ∧ c ≤ 234) ∨ c = 237 ∨ c = 238 ∨ c = 241 ∨ c = 242 ∨ c = 251 ∨ c = 252 → μ' c d = μ c d := fun c d r => g c d (by omega) (by omega) (by omega) (by omega) (by omega) (zu_in_not (by omega))
  have gT : ∀ q, q < 6 → zu_eqT μ q μ' q := fun q hq => zu_eq_in (fun c d r => g c d (fun z => zu_in_not (by omega) r) (fun z => zu_in_not (by omega) r) (fun z => zu_in_not (by omega) r) (fun z => zu_in_not (by omega) r) (fun z => zu_in_not (by omega) r) (zu_in_ne r (by omega)))
  have hI : ∀ q, q < 3 → zt_I ξ (zdT q) (Rs q) (ts q) := fun q hq => (h1.2.2.2.1 q hq).1.1
  have hV : ∀ q, q < 3 → zt_I ξ (zdV q) (Rs (3 + q)) (ts (3 + q)) := fun q hq => (h1.2.2.2.2.1 q hq).1.1
  refine ⟨zJ_free h1 hk hnt w2 f, ⟨⟨h4.1.1, (g4 _ _ (by omega)).trans h4.1.2.1, fun j hj => (g4 _ _ (by omega)).trans (h4.1.2.2 j hj)⟩, ⟨h4.2.1.1, (g4 _ _ (by omega)).trans h4.2.1.2.1, fun j hj => (g4 _ _ (by omega)).trans (h4.2.1.2.2 j hj)⟩, h4.2.2.1, fun x => ?_⟩, ⟨fun x hx => ?_, fun q hq => ?_⟩, fun x hx a b => ?_, ⟨h5.1, fun x => ?_, fun x hx a => ?_⟩, fun q hq => ?_, fun d hd => ?_, fun q hq => ?_⟩
  · rw [h4.2.2.2 x]
    refine and_congr_right (fun hx => ?_)
    by_cases e : x = k
    · subst e
      have n1 : ∀ A : zm_M, zd_th A x = false → ¬ zd_flo A x = true := fun A c z => by
        have : zd_th A x = true := decide_eq_true (of_decide_eq_true z).1
        rw [c] at this
        cases this
      exact ⟨fun z => absurd z (n1 _ hnt), fun z => absurd z (n1 _ thk)⟩
    · unfold zd_flo
      rw [eW x hx e]
  · rw [th x hx, g4 234 x (by omega)]
    refine ⟨(h2.1 x hx).1, fun c => ?_⟩
    have e := ne x c
    rw [eW x hx e, eL x hx e, g 235 x (by omega) (by omega) (by omega) (by omega) (by omega) (zu_in_not (by omega)), g 236 x (by omega) (by omega) (by omega) (by omega) (by omega) (zu_in_not (by omega)), g4 237 x (by omega), g4 238 x (by omega)]
    exact (h2.1 x hx).2 c
  · rw [(eS q hq).1, (eS q hq).2.1, g4 232 q (by omega), g4 233 q (by omega)]
    exact h2.2 q hq
  · rw [th x hx] at a
    have e := ne x a
    rw [eW x hx e] at b ⊢
    obtain ⟨o, ho, q1, q2, q3, q4⟩ := h3 x hx a b
    obtain ⟨-, -, -, w4, -⟩ := h1.2.2.1 x hx a
    obtain ⟨o', ho', -, e2, e3⟩ := w4 b
    have eo := (nI_eq (by omega) (by omega)).mp (q1.symm.trans e2)
    subst eo
    have e' := ne o e3
    refine ⟨o, ho, q1, by rw [eW o ho e']; exact q2, by rw [eW o ho e']; exact q3, fun q hq z => ?_⟩
    rw [has q _ hq] at z ⊢
    exact q4 q hq z
  · rw [g4 234 x (by omega)]
    exact h5.2.1 x
  · rw [g4 234 x (by omega)] at a
    rw [g4 237 x (by omega)]
    exact h5.2.2 x hx a
  · exact zs_cl (hI q hq) (zs_eqT (hI q hq) (h6 q hq) (gT q (by omega))) (eT q hq 3 (by decide)) (eT q hq 7 (by decide)) (eT q hq 8 (by decide)) (eT q hq 12 (by decide))
  · rw [g4 252 d (by omega)]
    exact h7.1 d hd
  · rw [g4 251 q (by omega), (eS q hq).2.2.1]
    obtain ⟨a1, a2⟩ := h7.2 q hq
    refine ⟨a1, fun z => ?_⟩
    obtain ⟨b1, b2⟩ := a2 z
    refine ⟨fun j hj => ?_, zs_cl (hV q hq) (zs_eqT (hV q hq) b2 (gT (3 + q) (by omega))) (eV q hq 3 (by decide)) (eV q hq 7 (by decide)) (eV q hq 8 (by decide)) (eV q hq 12 (by decide))⟩
    rw [g4 252 _ (by omega), has q j hq]
    exact b1 j hj
/-- the leaf at hand is a tab's leaf, on both sides the same tab's -/
theorem zK_lah (h : zK ξ μ row stkC stk ord Rs ts us) (hs : s < 3) : ∀ l : List Nat, (∀ x ∈ l, x < 10) → (zd_lah ξ (zdT s) (ts s) l = zd_lah ξ (zdT s) (ts s) [] ∧ zv_lah μ s lo l = -1 ∧ ∀ x ∈ l, x ∉ Rs s) ∨ ∃ x, x ∈ l ∧ x ∈ Rs s ∧ zd_lah ξ (zdT s) (ts s) l = ξ (zdT s + 3) x ∧ zv_lah μ s lo l = nI (lo x)
  | [], _ => Or.inl ⟨rfl, rfl, fun x hx => by cases hx⟩
  | a :: l, hl => by
    have ha := hl a (List.mem_cons_self ..)
    obtain ⟨q1, q2, q3⟩ := zK_kind h ha
    have hI := (h.1.2.2.2.1 s hs).1.1
    have hR := (h.1.2.2.2.1 s hs).2.1 a
    have E1 : zd_lah ξ (zdT s) (ts s) (a :: l) = if ξ (zdT s + 3) a < 0 then zd_lah ξ (zdT s) (ts s) l else ξ (zdT s + 3) a := rfl
    have E2 : zv_lah μ s lo (a :: l) = if μ 234 a = 1 ∧ μ 238 a = nI s then nI (lo a) else zv_lah μ s lo l := rfl
    by_cases c : a ∈ Rs s
    · obtain ⟨-, c2, c3⟩ := hR.mp c
      obtain ⟨n, hn, en⟩ := hI.2.2.2.1 a c
      have : ¬ ξ (zdT s + 3) a < 0 := by rw [en]; exact nI_pos (by have := (zt_I_lvn hI).2 n hn; omega)
      exact Or.inr ⟨a, List.mem_cons_self .., c, by rw [E1, if_neg this], by rw [E2, if_pos ⟨q1.mp c2, (q2 c2).trans c3⟩]⟩
    · have c1 : ξ (zdT s + 3) a < 0 := by rw [hI.2.2.2.2.1 a ha c]; decide
      have c2 : ¬ (μ 234 a = 1 ∧ μ 238 a = nI s) := fun ⟨z1, z2⟩ => c (hR.mpr ⟨ha, q1.mpr z1, (q2 (q1.mpr z1)).symm.trans z2⟩)
      rcases zK_lah h hs l (fun x hx => hl x (List.mem_cons_of_mem _ hx)) with ⟨e1, e2, e3⟩ | ⟨x, hx, e1, e2, e3⟩
      · refine Or.inl ⟨by rw [E1, if_pos c1]; exact e1, by rw [E2, if_neg c2]; exact e2, fun x hx => ?_⟩
        rcases List.mem_cons.mp hx with rfl | hx
        · exact c
        · exact e3 x hx
      · exact Or.inr ⟨x, List.mem_cons_of_mem _ hx, e1, by rw [E1, if_pos c1]; exact e2, by rw [E2, if_neg c2]; exact e3⟩
/-- tile on both sides -/
theorem zK_tl (h : zK ξ M row stkC stk ord Rs ts us) (hs : s < 3) (hth : ¬ ξ (zdS s) 3 = 0) (hk : k < 10) (hnt : zd_th ξ k = false) (hl : zd_laid ξ s (Rs s) (ts s)) (hkz : M 235 k = ξ (zdW k + 1) 0 ∧ M 236 k = ξ (zdW k + 1) 1) (hlo : zv_los M us lo) (f : zd_tld ξ ν s k row (Rs s) (ts s) b R' t') (g : zv_tl M νr row (us s) s k lo b' u') : b = b' ∧ (b = 1 → zs ν (zdT s) R' t' νr s u' ∧ zt_C ν (zdT s) R' t' ∧ k ∈ R') := by
  have h0 := h
  obtain ⟨h1, -, h2, -, -, h6, -⟩ := h
  have hI := (h1.2.2.2.1 s hs).1.1
  have hz := h6 s hs
  have hsz := zK_sz h0 hs
  obtain ⟨z0, z1⟩ := (h2.2 s hs).2 hth
  have hkR : k ∉ Rs s := fun z => by
    have := (((h1.2.2.2.1 s hs).2.1 k).mp z).2.1
    have : zd_th ξ k = true := decide_eq_true (of_decide_eq_true this).1
    rw [hnt] at this
    cases this
  have hrow : ∀ x ∈ row, x < 10 := fun x hx => ((h1.1.2.2 x).mp hx).1
  have hRrow : ∀ x ∈ Rs s, x ∈ row := fun x hx => by
    obtain ⟨a, b, -⟩ := ((h1.2.2.2.1 s hs).2.1 x).mp hx
    exact (h1.1.2.2 x).mpr ⟨a, decide_eq_true (of_decide_eq_true b).1⟩
  rcases f with ⟨e, f, f2⟩ | ⟨n, hn, en, f, f2⟩
  · rw [e] at hI hz
    have hR0 := zt_I_nil hI
    have lv : ∀ m, m ∈ zy_lvs (us s) → False := fun m hm => by
      rw [(zs_nil_l hI hz).mp rfl] at hm
      cases hm
    rcases g with ⟨-, g⟩ | ⟨m, μ1, -, hm, -⟩
    · obtain ⟨p1, p2⟩ := zK_tl0 hs hk hkz z0.symm z1.symm f f2 g
      refine ⟨p1, fun z => ⟨p2 z, ?_⟩⟩
      obtain ⟨n, rfl, rfl, w⟩ := f2 z
      exact ⟨w.1, List.mem_singleton.mpr rfl⟩
    · exact (lv m hm).elim
  · rcases zK_lah (lo := lo) h0 hs row hrow with ⟨-, -, q3⟩ | ⟨x, hx, hxR, q1, q2⟩
    · obtain ⟨w, hw, -⟩ := hI.2.2.2.2.2 n hn
      exact (q3 w (hRrow w hw) hw).elim
    · obtain ⟨hx10, hxt, hxs⟩ := ((h1.2.2.2.1 s hs).2.1 x).mp hxR
      obtain ⟨k1, k2, k3⟩ := zK_kind h0 hx10
      have hat := hlo s x hs hx10 (k1.mp hxt) ((k2 hxt).trans hxs)
      obtain ⟨abu, hIu⟩ := hz.2
      rcases g with ⟨gl, -⟩ | ⟨m, μ1, gl, hm, fY, hv, g⟩
      · rw [gl] at q2
        exact (nI_ne_m1 (by have := zu_I_lt hIu hat.1; omega) q2.symm).elim
      · have em := (nI_eq (by have := zu_I_lt hIu hm; omega) (by have := zu_I_lt hIu hat.1; omega)).mp (gl.symm.trans q2)
        rw [← em] at hat
        obtain ⟨n', hn', en', p, x', y', W, V, P1, P2, hW, hV⟩ := zK_areas h0 hs hth hl hv hxR hat
        have enn := (nI_eq (by have := (zt_I_lvn hI).2 n hn; omega) (by have := (zt_I_lvn hI).2 n' hn'; omega)).mp (en.symm.trans (q1.trans en'))
        subst enn
        have fr := fY.fr
        have hax : (if ξ (zdT s + 23) n ≤ ξ (zdT s + 22) n then 0 else 1) = (if decide (¬ μ1 257 m < μ1 258 m) = true then 0 else 1) := by
          obtain ⟨-, -, a1, a2⟩ := P1
          obtain ⟨-, -, a3, a4⟩ := P2
          rw [a1, a2, a3, a4]
          by_cases c : nI V ≤ nI W
          · rw [if_pos c, if_pos (decide_eq_true (Int32.not_lt.mpr c))]
          · rw [if_neg c, if_neg (fun z => c (Int32.not_lt.mp (of_decide_eq_true z)))]
        have cell : ∀ c d, c < 239 → ¬ (c = 231 ∧ d = 30) → μ1 c d = M c d := fun c d r1 r2 => fY c d r2 (by omega)
        obtain ⟨p1, p2⟩ := zK_tlN hs hk hkR hI (zs_eqT hI hz fr.eqT) hn hm (zs_pl_eqT hIu hm fr.eqT p) (zs_szF hsz (fun c d r => cell c d (by omega) (by omega))) ⟨(cell _ _ (by omega) (by omega)).trans hkz.1, (cell _ _ (by omega) (by omega)).trans hkz.2⟩ (z0.symm.trans (cell _ _ (by omega) (by omega)).symm) (z1.symm.trans (cell _ _ (by omega) (by omega)).symm) hax f f2 g
        refine ⟨p1, fun z => ⟨p2 z, ?_⟩⟩
        obtain ⟨rfl, hh⟩ := f2 z
        rcases hh with ⟨a', c', f', ha', rfl, w⟩ | ⟨rfl, w⟩
        · exact ⟨w.1, List.mem_append_right _ (List.mem_singleton.mpr rfl)⟩
        · exact ⟨w.1, List.mem_append_right _ (List.mem_singleton.mpr rfl)⟩
end ZKO
end
section
/-! side by side: open -/
section ZKP
variable {ξ μ ξ' μ' M : zm_M} {row row' stkC stkC' stk ord : List Nat} {Rs Rs' : Nat → List Nat} {ts ts' us us' : Nat → zy_F} {s k : Nat} {kd w v o : Int32}
theorem zs_cl3 {ξ μ ξ' : zm_M} {T Q τ : Nat} {R : List Nat} {t u : zy_F} (wt : t = .nil ∨ zy_wf t) (h : zs ξ T R t μ τ u) (e3 : ξ' (Q + 3) = ξ (T + 3)) (e7 : ξ' (Q + 7) = ξ (T + 7)) (e8 : ξ' (Q + 8) = ξ (T + 8)) (e12 : ξ' (Q + 12) = ξ (T + 12)) : zs ξ' Q R t μ τ u := by
  rcases wt with rfl | wt
  · obtain ⟨h1, ab, h2⟩ := h
    refine ⟨?_, ab, h2⟩
    cases u <;> exact h1
  · exact zs_cl2 wt h e3 e7 e8 e12
/-- the window k comes to the screen s on both sides -/
theorem zK0_came (h : zK ξ μ row stkC stk ord Rs ts us) (hk : k < 10) (hs : s < 3) (hnt : zd_th ξ k = false) (ha : zd_oarg ξ kd w v o) (hsc : zd_osc ξ row kd o = nI s) (f : zd_came ξ ξ' k s kd w v o) (g : zv_cam μ μ' k s kd w v o) (hz : ∀ q, q < 3 → zs ξ' (zdT q) (Rs' q) (ts' q) μ' q (us' q)) (hR : ∀ q, q < 3 → Rs' (3 + q) = Rs (3 + q) ∧ ts' (3 + q) = ts (3 + q) ∧ us' (3 + q) = us (3 + q)) : zK0 ξ' μ' (ord ++ [k]) Rs' ts' us' := by
  obtain ⟨h1, h4, h2, h3, h5, h6, h7⟩ := h
  obtain ⟨f, w2, w3, w4, w5, l0, l1⟩ := f
  obtain ⟨⟨g4, g7, g5, g6, g8⟩, g⟩ := g
  have kd4 := zv_kd ha.1.1
  have eW : ∀ j, j < 10 → j ≠ k → ξ' (zdW j) = ξ (zdW j) := fun j hj hne => f _ (zJn_W hj).1 (fun e => hne (zdW_inj e)) (by unfold zdW; omega) (fun _ => zJn_out hs (Or.inr (Or.inl ⟨j, hj, Or.inl rfl⟩)))
  have eL : ∀ j, j < 10 → j ≠ k → ξ' (zdW j + 1) = ξ (zdW j + 1) := fun j hj hne => f _ (zJn_W hj).2 (by unfold zdW; omega) (by unfold zdW; omega) (fun _ => zJn_out hs (Or.inr (Or.inl ⟨j, hj, Or.inr rfl⟩)))
  have eS : ∀ q, q < 3 → ξ' (zdS q) = ξ (zdS q) ∧ ξ' (zdZ q) = ξ (zdZ q) ∧ ξ' (zdK q) = ξ (zdK q) ∧ ξ' (zdQ q) = ξ (zdQ q) := fun q hq => ⟨f _ (zJn_S hq).1 (by unfold zdS zdW; omega) (by unfold zdS zdW; omega) (fun _ => zJn_out hs (Or.inr (Or.inr (Or.inl ⟨q, hq, Or.inl rfl⟩)))), f _ (zJn_S hq).2.1 (by unfold zdZ zdW; omega) (by unfold zdZ zdW; omega) (fun _ => zJn_out hs (Or.inr (Or.inr (Or.inl ⟨q, hq, Or.inr (Or.inl rfl)⟩)))), f _ (zJn_S hq).2.2.1 (by unfold zdK zdW; omega) (by unfold zdK zdW; omega) (fun _ => zJn_out hs (Or.inr (Or.inr (Or.inl ⟨q, hq, Or.inr (Or.inr (Or.inl rfl))⟩)))), f _ (zJn_S hq).2.2.2 (by unfold zdQ zdW; omega) (by unfold zdQ zdW; omega) (fun _ => zJn_out hs (Or.inr (Or.inr (Or.inl ⟨q, hq, Or.inr (Or.inr (Or.inr (Or.inl rfl)))⟩))))⟩
  have eV : ∀ q, q < 3 → ∀ j, j < 19 → ξ' (zdV q + j) = ξ (zdV q + j) := fun q hq j hj => f _ (zJn_T hq hj).2 (by unfold zdV zdW; omega) (by unfold zdV zdW; omega) (fun _ => zJn_out hs (Or.inr (Or.inr (Or.inl ⟨q, hq, Or.inr (Or.inr (Or.inr (Or.inr ⟨j, hj, rfl⟩)))⟩))))
  have th : ∀ j, j < 10 → j ≠ k → zd_th ξ' j = zd_th ξ j := fun j hj hne => by unfold zd_th; rw [eW j hj hne]
  have ne : ∀ j, zd_th ξ j = true → j ≠ k := fun j q e => by rw [e, hnt] at q; cases q
  have has : ∀ q j, q < 3 → zd_has ξ' q j = zd_has ξ q j := fun q j hq => by unfold zd_has; rw [(eS q hq).2.2.1, (eS q hq).2.2.2, eV q hq 3 (by decide)]
  have hV : ∀ q, q < 3 → zt_I ξ (zdV q) (Rs (3 + q)) (ts (3 + q)) := fun q hq => (h1.2.2.2.2.1 q hq).1.1
  have nok : ∀ q, q < 3 → ¬ zd_has ξ q k = true := fun q hq z => by
    obtain ⟨z1, z2⟩ := of_decide_eq_true z
    obtain ⟨a1, a2⟩ := h1.2.2.2.2.1 q hq
    obtain ⟨-, b2, b3⟩ := a2 z1
    rcases z2 with z2 | z2
    · have := (b3 k hk z2).1
      rw [hnt] at this
      cases this
    · by_cases c : k ∈ Rs (3 + q)
      · have : zd_th ξ k = true := decide_eq_true (of_decide_eq_true (b2 k c).1).1
        rw [hnt] at this
        cases this
      · rw [(hV q hq).2.2.2.2.1 k hk c] at z2
        exact z2 (by decide)
  have gC : ∀ c d, c ≠ 231 → d ≠ k → c < 239 → μ' c d = μ c d := fun c d r1 r2 r3 => g c d (by omega) (by omega) (by omega) (by omega) (by omega) (fun _ => ⟨zu_in_not (by omega), zu_in_not (by omega)⟩)
  have gS : ∀ c d, c = 232 ∨ c = 233 ∨ c = 251 ∨ c = 252 → μ' c d = μ c d := fun c d r => g c d (by omega) (by omega) (by omega) (by omega) (by omega) (fun _ => ⟨zu_in_not (by omega), zu_in_not (by omega)⟩)
  have hk0 : μ 234 k = 0 := (h2.1 k hk).1 hnt
  have g40 : ¬ μ' 234 k = 0 := by
    rw [g4]
    rcases kd4 with e | e | e | e <;> rw [e] <;> decide
  refine ⟨⟨fun x hx => ?_, fun q hq => ?_⟩, fun x hx a b => ?_, zv_ord_new h5 hk hk0 g40 (fun x hx => ?_) (fun e => ?_), hz, fun d hd => ?_, fun q hq => ?_⟩
  · by_cases e : x = k
    · subst e
      refine ⟨fun c => ?_, fun _ => ?_⟩
      · have : zd_th ξ' x = true := decide_eq_true (by rw [w2]; decide)
        rw [c] at this
        cases this
      · rw [w3, l0, l1, w4, g4]
        exact ⟨rfl, ⟨g5, g6⟩, fun _ => g7, fun z => (g8 z).trans (w5 z).symm⟩
    · rw [th x hx e, eW x hx e, eL x hx e, gC 234 x (by omega) e (by omega), gC 235 x (by omega) e (by omega), gC 236 x (by omega) e (by omega), gC 237 x (by omega) e (by omega), gC 238 x (by omega) e (by omega)]
      exact h2.1 x hx
  · rw [(eS q hq).1, (eS q hq).2.1, gS 232 q (by omega), gS 233 q (by omega)]
    exact h2.2 q hq
  · by_cases e : x = k
    · subst e
      rw [w3] at b
      obtain ⟨j, hj, q1, q2⟩ := ha.2.1 b
      have e' := ne j q2
      unfold zd_osc at hsc
      rw [if_pos b, q1, nI_clamp (by omega)] at hsc
      by_cases c : zd_sti ξ j = true
      · rw [if_pos c] at hsc
        exact (nI_ne_m1 (by omega) hsc.symm).elim
      · rw [if_neg c] at hsc
        refine ⟨j, hj, by rw [w4]; exact q1, ?_, ?_, fun q hq z => ?_⟩
        · rw [eW j hj e']
          exact fun z => c (decide_eq_true ⟨of_decide_eq_true q2, z⟩)
        · rw [eW j hj e', w5 (by rw [b]; decide)]
          exact hsc.symm
        · rw [has q _ hq] at z
          exact (nok q hq z).elim
    · rw [th x hx e] at a
      rw [eW x hx e] at b ⊢
      obtain ⟨o', ho, q1, q2, q3, q4⟩ := h3 x hx a b
      obtain ⟨-, -, -, w4', -⟩ := h1.2.2.1 x hx a
      obtain ⟨o2, ho', -, e2, e3⟩ := w4' b
      have eo := (nI_eq (by omega) (by omega)).mp (q1.symm.trans e2)
      subst eo
      have e' := ne o' e3
      refine ⟨o', ho, q1, by rw [eW o' ho e']; exact q2, by rw [eW o' ho e']; exact q3, fun q hq z => ?_⟩
      rw [has q _ hq] at z ⊢
      exact q4 q hq z
  · exact ⟨gC 234 x (by omega) hx (by omega), gC 237 x (by omega) hx (by omega)⟩
  · rw [g4] at e
    obtain ⟨j, hj, q1, q2⟩ := ha.2.1 e
    refine ⟨j, hj, g7.trans q1, ?_⟩
    rw [((h2.1 j hj).2 q2).1]
    rcases (h1.2.2.1 j hj q2).1 with z | z | z | z <;> rw [z] <;> decide
  · rw [gS 252 d (by omega)]
    exact h7.1 d hd
  · rw [gS 251 q (by omega), (eS q hq).2.2.1, (hR q hq).1, (hR q hq).2.1, (hR q hq).2.2]
    obtain ⟨a1, a2⟩ := h7.2 q hq
    refine ⟨a1, fun z => ?_⟩
    obtain ⟨b1, b2⟩ := a2 z
    have eq3 : zu_eqT μ (3 + q) μ' (3 + q) := zu_eq_in (fun c d r => g c d (fun z => zu_in_not (by omega) r) (fun z => zu_in_not (by omega) r) (fun z => zu_in_not (by omega) r) (fun z => zu_in_not (by omega) r) (fun z => zu_in_not (by omega) r) (fun _ => ⟨zu_in_ne r (by omega), zu_in_ne r (by omega)⟩))
    refine ⟨fun j hj => ?_, zs_cl (hV q hq) (zs_eqT (hV q hq) b2 eq3) (eV q hq 3 (by decide)) (eV q hq 7 (by decide)) (eV q hq 8 (by decide)) (eV q hq 12 (by decide))⟩
    rw [gS 252 _ (by omega), has q j hq]
    exact b1 j hj
/-- and has the focus -/
theorem zK_newf (h : zK ξ μ row stkC stk ord Rs ts us) (hk : k < 10) (hs : s < 3) (hnt : zd_th ξ k = false) (ha : zd_oarg ξ kd w v o) (hsc : zd_osc ξ row kd o = nI s) {ξ4 μ4 : zm_M} (f : zd_came ξ ξ4 k s kd w v o) (g : zv_cam μ μ4 k s kd w v o) (hz : ∀ q, q < 3 → zs ξ4 (zdT q) (Rs' q) (ts' q) μ4 q (us' q)) (hR : ∀ q, q < 3 → Rs' (3 + q) = Rs (3 + q) ∧ ts' (3 + q) = ts (3 + q) ∧ us' (3 + q) = us (3 + q)) (hI : ∀ q, q < 3 → zt_I ξ4 (zdT q) (Rs' q) (ts' q)) (hkR : kd = 1 → k ∈ Rs' s) (hJ : zJ ξ' (k :: row) stkC' Rs' ts') (ff : zd_foc ξ4 ξ' k) (gf : zv_foc μ4 μ' row stk us' k) : ∃ stk' ord', zK ξ' μ' (k :: row) stkC' stk' ord' Rs' ts' us' := by
  have h0 := zK0_came h hk hs hnt ha hsc f g hz hR
  obtain ⟨h1, h4, -⟩ := h
  obtain ⟨f, w2, w3, w4, w5, l0, l1⟩ := f
  obtain ⟨⟨g4, -⟩, -⟩ := g
  have hV : ∀ q, q < 3 → zt_I ξ4 (zdV q) (Rs' (3 + q)) (ts' (3 + q)) := fun q hq => by
    rw [(hR q hq).1, (hR q hq).2.1]
    exact (zt_C_19 (fun j hj => f _ (zJn_T hq hj).2 (by unfold zdV zdW; omega) (by unfold zdV zdW; omega) (fun _ => zJn_out hs (Or.inr (Or.inr (Or.inl ⟨q, hq, Or.inr (Or.inr (Or.inr (Or.inr ⟨j, hj, rfl⟩)))⟩))))) (h1.2.2.2.2.1 q hq).1).1
  have thk : zd_th ξ4 k = true := decide_eq_true (by rw [w2]; decide)
  have h0' := zK0_foc h0 hI hV hk thk (fun z => by
    have z2 := (of_decide_eq_true z).2
    rw [w3] at z2
    exact ⟨s, hs, w5 (by rw [z2]; decide), hkR z2⟩) ff gf
  obtain ⟨⟨stk', s1, s2, s3⟩, s4, -, -⟩ := gf
  have hkr : k ∉ row := fun z => by
    have := ((h1.1.2.2 k).mp z).2
    rw [hnt] at this
    cases this
  rw [List.erase_of_not_mem hkr] at s4
  refine ⟨stk', ord ++ [k], hJ, ⟨s4, s1, s2, fun x => ?_⟩, h0'⟩
  have eW' : ∀ x, x < 10 → ξ' (zdW x) = ξ4 (zdW x) := fun x hx => funext fun b => ff.1 _ b (by unfold zdW; omega) (by unfold zdW; omega) (by unfold zdW; omega) (by unfold zdW; omega) (fun ⟨_, s, hs, _, e, _⟩ => by unfold zdW zdT at e; omega)
  rw [s3 x, h4.2.2.2 x]
  have fk : zd_flo ξ k = false := by
    cases c : zd_flo ξ k with
    | false => rfl
    | true =>
      have : zd_th ξ k = true := decide_eq_true (of_decide_eq_true c).1
      rw [hnt] at this
      cases this
  by_cases e : x = k
  · subst e
    have e' : zd_flo ξ' x = true ↔ 2 ≤ μ4 234 x := by
      unfold zd_flo
      rw [eW' x hk, decide_eq_true_iff, w2, w3, g4]
      rcases zv_kd ha.1.1 with z | z | z | z <;> rw [z] <;> decide
    rw [e', fk]
    exact ⟨fun z => ⟨hk, z.elim (fun z => by cases z.2) (fun z => z.2)⟩, fun z => Or.inr ⟨rfl, z.2⟩⟩
  · have e' : x < 10 → zd_flo ξ' x = zd_flo ξ x := fun hx => by
      unfold zd_flo
      rw [eW' x hx, f _ (zJn_W hx).1 (fun z => e (zdW_inj z)) (by unfold zdW; omega) (fun _ => zJn_out hs (Or.inr (Or.inl ⟨x, hx, Or.inl rfl⟩)))]
    constructor
    · rintro (⟨a, b⟩ | ⟨a, -⟩)
      · exact ⟨a, by rw [e' a]; exact b⟩
      · exact absurd a e
    · rintro ⟨a, b⟩
      exact Or.inl ⟨a, by rw [← e' a]; exact b⟩
theorem zK_opn (h : zK ξ μ row stkC stk ord Rs ts us) (hJ : zJ ξ' row' stkC' Rs' ts') (f : zd_opn ξ ξ' row row' Rs Rs' ts ts' kd w v o) (g : zv_opn μ μ' row stk us kd w v o) : ∃ stkC'' stk' ord' us', zK ξ' μ' row' stkC'' stk' ord' Rs' ts' us' := by
  have hoa := zK_oarg (kd := kd) (w := w) (v := v) (o := o) h
  rcases f with ⟨f, rfl, rfl, rfl, rfl⟩ | ⟨ha, k, s, ξp, hk, hs, hnt, hmin, hsc, hth, hp, f⟩
  · rcases g with ⟨-, rfl⟩ | ⟨ga, k, s, M, hk, hs, hk0, -, gs, -⟩
    · exact ⟨_, _, _, _, h⟩
    · have ha := hoa.mpr ga
      rcases f with z | z | z
      · exact (z ha).elim
      · exact absurd hk0 ((zK_kind h hk).2.2.mp (z k hk))
      · rw [zK_osc h ha, gs] at z
        exact (nI_ne_m1 (by omega) z).elim
  · have ga := hoa.mp ha
    have hk0 : μ 234 k = 0 := (h.2.2.1.1 k hk).1 hnt
    have hsc' := hsc
    rw [zK_osc h ha] at hsc'
    rcases g with ⟨z, -⟩ | ⟨-, k', s', M, hk', hs', hk0', hmin', gs, hst, hM, g⟩
    · rcases z with z | z | z
      · exact (z ga).elim
      · exact (z k hk hk0).elim
      · rw [hsc'] at z
        exact (nI_ne_m1 (by omega) z).elim
    · have ek : k' = k := by
        rcases Nat.lt_trichotomy k' k with z | z | z
        · exact absurd hk0' ((zK_kind h hk').2.2.mp (hmin k' z))
        · exact z
        · exact absurd hk0 (hmin' k z)
      have es := (nI_eq (by omega) (by omega)).mp (gs.symm.trans hsc')
      subst ek
      subst es
      obtain ⟨m1, m2, m3⟩ := hM
      obtain ⟨p1, p2, p3, p4, p5, p6, p7⟩ := hp
      have hKp : zK ξp M row stkC stk ord Rs ts us := zK_free h hk hnt p2 p1 (fun c d r1 r2 r3 r4 r5 r6 => m3 c d (by omega) (by omega))
      have whole : zd_whole ξp (zdZ s') k' = true ↔ (w ≤ μ 232 s' ∧ v ≤ μ 233 s') := by
        obtain ⟨z0, z1⟩ := (h.2.2.1.2 s' hs).2 hth
        unfold zd_whole
        rw [decide_eq_true_iff, p5, p6, z0, z1, p1 (zdZ s') (zJn_S hs).2.1 (by unfold zdZ zdW; omega) (by unfold zdZ zdW; omega)]
      have hI : ∀ q, q < 3 → zt_I ξ (zdT q) (Rs q) (ts q) := fun q hq => (h.1.2.2.2.1 q hq).1.1
      have freef : ∀ {ν : zm_M}, (∀ c d, ¬ (c = 231 ∧ d = 30) → ¬ (255 ≤ c ∧ c ≤ 259) → ¬ zu_in 6 c d → ν c d = M c d) → ∀ c d, ¬ (c = 231 ∧ d = 30) → ¬ ((c = 235 ∨ c = 236) ∧ d = k') → c ≠ 239 → c ≠ 240 → ¬ (253 ≤ c ∧ c ≤ 261) → ¬ zu_in 6 c d → ν c d = μ c d := fun gg c d r1 r2 r3 r4 r5 r6 => (gg c d r1 (by omega) r6).trans (m3 c d (by omega) (by omega))
      -- the trees but the screen's
      have oth : ∀ {ξ4 μ4 : zm_M}, zd_came ξ ξ4 k' s' kd w v o → zv_cam μ μ4 k' s' kd w v o → ∀ q, q < 3 → (q ≠ s' ∨ ¬ kd = 1) → zs ξ4 (zdT q) (Rs q) (ts q) μ4 q (us q) ∧ zt_I ξ4 (zdT q) (Rs q) (ts q) := fun {ξ4 μ4} fc gc q hq hne => by
        have eT : ∀ j, j < 19 → ξ4 (zdT q + j) = ξ (zdT q + j) := fun j hj => fc.1 _ (zJn_T hq hj).1 (by unfold zdT zdW; omega) (by unfold zdT zdW; omega) (fun z => by
          have : q ≠ s' := hne.resolve_right (fun c => c z)
          unfold zt_out zdT; omega)
        have eu : zu_eqT μ q μ4 q := zu_eq_in (fun c d r => gc.2 c d (fun z => zu_in_not (by omega) r) (fun z => zu_in_not (by omega) r) (fun z => zu_in_not (by omega) r) (fun z => zu_in_not (by omega) r) (fun z => zu_in_not (by omega) r) (fun z => ⟨zu_in_ne r (by omega), zu_in_ne r (hne.resolve_right (fun c => c z))⟩))
        exact ⟨zs_cl (hI q hq) (zs_eqT (hI q hq) (h.2.2.2.2.2.1 q hq) eu) (eT 3 (by decide)) (eT 7 (by decide)) (eT 8 (by decide)) (eT 12 (by decide)), (zt_C_19 eT (h.1.2.2.2.1 q hq).1).1⟩
      have plain : ∀ {ξ4 μ4 : zm_M}, ¬ kd = 1 → zd_came ξ ξ4 k' s' kd w v o → zd_foc ξ4 ξ' k' → zv_cam μ μ4 k' s' kd w v o → zv_foc μ4 μ' row stk us k' → zJ ξ' (k' :: row) stkC' Rs ts → ∃ stkC'' stk' ord' us', zK ξ' μ' (k' :: row) stkC'' stk' ord' Rs ts us' := fun n1 fc ff gc gf hJ => by
        obtain ⟨stk', ord', z⟩ := zK_newf h hk hs hnt ha hsc fc gc (fun q hq => (oth fc gc q hq (Or.inr n1)).1) (fun _ _ => ⟨rfl, rfl, rfl⟩) (fun q hq => (oth fc gc q hq (Or.inr n1)).2) (fun z => absurd z n1) hJ ff gf
        exact ⟨_, _, _, _, z⟩
      rcases f with ⟨f, fr, fr2, rfl, rfl, rfl⟩ | ⟨f, rfl⟩
      · rcases g with ⟨g1, lo, ν3, b, u', hlo, htl, g⟩ | ⟨g1, g⟩
        · rcases f with ⟨-, ν3c, f⟩ | ⟨n1, -⟩
          · obtain ⟨e, -⟩ := zK_tl hKp hs (by rw [p1 _ (zJn_S hs).1 (by unfold zdS zdW; omega) (by unfold zdS zdW; omega)]; exact hth) hk (by unfold zd_th at *; rw [p2]; exact hnt) (p7 s' hs) ⟨m1.trans p5.symm, m2.trans p6.symm⟩ hlo f htl
            rcases g with ⟨-, g⟩ | ⟨e2, -⟩
            · exact ⟨_, _, _, _, zK_free h hk hnt fr2 fr (freef g)⟩
            · rw [e2] at e
              exact absurd e (by decide)
          · exact (n1 g1).elim
        · rcases f with ⟨z, -⟩ | ⟨-, n4, nw⟩
          · exact (g1 z).elim
          · rcases g with ⟨-, -, rfl⟩ | ⟨z, -⟩
            · exact ⟨_, _, _, _, zK_free h hk hnt fr2 fr (freef (fun _ _ _ _ _ => rfl))⟩
            · rcases z with z | z
              · exact (n4 z).elim
              · rw [whole.mpr z] at nw
                cases nw
      · rcases g with ⟨g1, lo, ν3, b, u', hlo, htl, g⟩ | ⟨g1, g⟩
        · rcases f with ⟨-, ν3c, ξ4, R', t', f, rfl, rfl, fc, e34, ff⟩ | ⟨n1, -⟩
          · obtain ⟨e, hz⟩ := zK_tl hKp hs (by rw [p1 _ (zJn_S hs).1 (by unfold zdS zdW; omega) (by unfold zdS zdW; omega)]; exact hth) hk (by unfold zd_th at *; rw [p2]; exact hnt) (p7 s' hs) ⟨m1.trans p5.symm, m2.trans p6.symm⟩ hlo f htl
            rcases g with ⟨e2, -⟩ | ⟨-, μ4, gc, eT, gf⟩
            · rw [e2] at e
              exact absurd e (by decide)
            · obtain ⟨z1, z2, z3⟩ := hz rfl
              have hI4 : zt_I ξ4 (zdT s') R' t' := (zt_C_19 (fun j _ => e34 j) z2).1
              have zs4 : zs ξ4 (zdT s') R' t' μ4 s' u' := zs_cl z2.1 (zs_eqT z2.1 z1 eT) (e34 3) (e34 7) (e34 8) (e34 12)
              have both : ∀ q, q < 3 → zs ξ4 (zdT q) (zd_upd Rs s' R' q) (zd_upd ts s' t' q) μ4 q (zd_upd us s' u' q) ∧ zt_I ξ4 (zdT q) (zd_upd Rs s' R' q) (zd_upd ts s' t' q) := fun q hq => by
                by_cases c : q = s'
                · subst c
                  rw [zd_upd_eq, zd_upd_eq, zd_upd_eq]
                  exact ⟨zs4, hI4⟩
                · rw [zd_upd_ne c, zd_upd_ne c, zd_upd_ne c]
                  exact oth fc gc q hq (Or.inl c)
              obtain ⟨stk', ord', z⟩ := zK_newf h hk hs hnt ha hsc fc gc (fun q hq => (both q hq).1) (fun q hq => ⟨zd_upd_ne (by omega), zd_upd_ne (by omega), zd_upd_ne (by omega)⟩) (fun q hq => (both q hq).2) (fun _ => by rw [zd_upd_eq]; exact z3) hJ ff gf
              exact ⟨_, _, _, _, z⟩
          · exact (n1 g1).elim
        · rcases f with ⟨z, -⟩ | ⟨n1, hw, rfl, rfl, ξ4, fc, ff⟩
          · exact (g1 z).elim
          · rcases g with ⟨n4, nw, -⟩ | ⟨-, μ4, gc, gf⟩
            · rcases hw with z | z
              · exact (n4 z).elim
              · exact (nw (whole.mp z)).elim
            · exact plain n1 fc ff gc gf hJ
end ZKP
end
section
/-! side by side: the trial of a drag -/
section ZKQ
variable {ξ μ ν ν1 ξ' μ' : zm_M} {row stkC stk ord : List Nat} {Rs : Nat → List Nat} {ts us : Nat → zy_F} {R R' R2 : List Nat} {t t' u u' u2 t2 : zy_F} {k o a b sd s j q : Nat} {μ0 ν0 : zm_M}
/-- cells that no answer rests on, and the trial trees -/
theorem zK.scr6 (h : zK ξ μ row stkC stk ord Rs ts us) (e : zJ_eqv ξ ξ') (f : ∀ c d, ¬ (c = 231 ∧ d = 30) → c ≠ 239 → c ≠ 240 → ¬ (253 ≤ c ∧ c ≤ 261) → ¬ zu_in 6 c d → μ' c d = μ c d) : zK ξ' μ' row stkC stk ord Rs ts us := by
  obtain ⟨h1, h4, h0⟩ := h
  have g4 : ∀ c d, c = 231 ∧ d ≠ 30 ∨ (232 ≤ c ∧ c ≤ 238) ∨ c = 241 ∨ c = 242 ∨ c = 251 ∨ c = 252 → μ' c d = μ c d := fun c d r => f c d (by omega) (by omega) (by omega) (by omega) (zu_in_not (by omega))
  have gT : ∀ q, q < 6 → zu_eqT μ q μ' q := fun q hq => zu_eq_in (fun c d r => f c d (fun z => zu_in_not (by omega) r) (fun z => zu_in_not (by omega) r) (fun z => zu_in_not (by omega) r) (fun z => zu_in_not (by omega) r) (zu_in_ne r (by omega)))
  have eT : ∀ q, q < 3 → ∀ j, j < 19 → ξ' (zdT q + j) = ξ (zdT q + j) := fun q hq j hj => e _ (zJn_T hq hj).1
  have hI : ∀ q, q < 3 → zt_I ξ (zdT q) (Rs q) (ts q) := fun q hq => (h1.2.2.2.1 q hq).1.1
  refine ⟨h1.eqv e, zK_r.gen h4 (fun k hk => e _ (zJn_W hk).1) (fun C q l hc z => ⟨z.1, (g4 _ _ (by omega)).trans z.2.1, fun j hj => (g4 _ _ (by omega)).trans (z.2.2 j hj)⟩), h0.gen' (fun q hq => (h1.2.2.2.2.1 q hq).1.1) (fun k hk => e _ (zJn_W hk).1) (fun k hk => e _ (zJn_W hk).2) (fun q hq => ⟨e _ (zJn_S hq).1, e _ (zJn_S hq).2.1, e _ (zJn_S hq).2.2.1, e _ (zJn_S hq).2.2.2⟩) (fun q hq j hj => e _ (zJn_T hq hj).2) (fun c d r => g4 c d (by omega)) (fun q hq => gT _ (by omega)) (fun _ _ => ⟨rfl, rfl, rfl⟩) (fun q hq => ?_)⟩
  exact zs_cl (hI q hq) (zs_eqT (hI q hq) (h0.2.2.2.1 q hq) (gT q (by omega))) (eT q hq 3 (by decide)) (eT q hq 7 (by decide)) (eT q hq 8 (by decide)) (eT q hq 12 (by decide))
/-- what is kept with one of the group is kept with the window -/
theorem zK_gup (h : zK ξ μ row stkC stk ord Rs ts us) (hq : q < 3) (hg : zd_grp ξ k j = true) (hh : zd_has ξ q j = true) : zd_has ξ q k = true := by
  have hd := zK_dl h
  have key := zl_spn_min (dl := zd_dl ξ) (ow := zd_ow ξ) (g := fun j => decide (j = k)) (X := fun j => !zd_has ξ q j || zd_has ξ q k) (fun i hi hdl hX => ?_) (fun i hi => ?_) 10 j hg
  · rw [hh] at key
    simpa using key
  · obtain ⟨-, -, -, -, ht, h3⟩ := (hd i hi).2 hdl
    obtain ⟨o, ho, e1, -, -, e4⟩ := h.2.2.2.1 i hi ht h3
    have eo : zd_ow ξ i = o := by
      unfold zd_ow
      rw [e1, nI_clamp (by omega)]
    rw [eo] at hX
    cases c : zd_has ξ q i with
    | false => rfl
    | true =>
      rw [e4 q hq c] at hX
      simpa [c] using hX
  · rw [of_decide_eq_true hi]
    cases zd_has ξ q k <;> rfl
/-- a dialog is in the group as its owner is -/
theorem zK_gow (h : zK ξ μ row stkC stk ord Rs ts us) (hk : k < 10) (hkt : zd_til ξ k = true) (hj : j < 10) (ht : zd_th ξ j = true) (h3 : ξ (zdW j) 3 = 3) {o : Nat} (ho : o < 10) (e : ξ (zdW j) 4 = nI o) : zd_grp ξ k j = zd_grp ξ k o := by
  have hd := zK_dl h
  have cl := zl_spn_cl (dl := zd_dl ξ) (ow := zd_ow ξ) (g := fun j => decide (j = k)) hk (decide_eq_true rfl)
  obtain ⟨e4, -, e7, -⟩ := (h.2.2.1.1 j hj).2 ht
  have eo : zd_ow ξ j = o := by
    unfold zd_ow
    rw [e, nI_clamp (by omega)]
  have hdl : zd_dl ξ j = true := (hd j hj).1.trans (decide_eq_true (e4.trans h3))
  have a1 : zd_grp ξ k o = true → zd_grp ξ k j = true := fun z => cl j hj hdl (by rw [eo]; exact z)
  have a2 : zd_grp ξ k j = true → zd_grp ξ k o = true := fun z => by
    have key := zl_spn_min (dl := zd_dl ξ) (ow := zd_ow ξ) (g := fun j => decide (j = k)) (X := fun i => decide (i = k) || (zd_dl ξ i && zd_grp ξ k (zd_ow ξ i))) (fun i hi hdl hX => ?_) (fun i hi => by rw [hi]; rfl) 10 j z
    · rw [eo] at key
      rcases Bool.or_eq_true_iff.mp key with c | c
      · have c := of_decide_eq_true c
        rw [c] at h3
        have := (of_decide_eq_true hkt).2
        rw [h3] at this
        exact absurd this (by decide)
      · exact (Bool.and_eq_true_iff.mp c).2
    · have : zd_grp ξ k (zd_ow ξ i) = true := by
        rcases Bool.or_eq_true_iff.mp hX with c | c
        · rw [of_decide_eq_true c]
          exact zd_grp_k
        · obtain ⟨c1, c2⟩ := Bool.and_eq_true_iff.mp c
          exact cl _ ((hd i hi).2 hdl).2.1 c1 c2
      rw [hdl, this]
      exact Bool.or_true _
  cases c : zd_grp ξ k o with
  | true => exact a1 c
  | false =>
    cases c2 : zd_grp ξ k j with
    | false => rfl
    | true => rw [a2 c2] at c; cases c
/-- the tree without the window -/
theorem zK_dr (hb : b < 3) (hI : zt_I ξ (zdT b) R t) (hz : zs ξ (zdT b) R t μ b u) (hab : k ∈ R ↔ a = b) (f : zt_isDr ξ (zdT b) R t k ν0 7 R' t') (g : zv_isDr μ b u k a μ0 u') : zs ν0 7 R' t' μ0 6 u' := by
  rcases f with ⟨f1, rfl, rfl, fc, -⟩ | ⟨f1, n, hn, ek, rfl, rfl, fo⟩
  · rcases g with ⟨-, rfl, gt⟩ | ⟨g1, -⟩
    · exact zs_cl hI (zs_eqT hI hz gt) fc.1 fc.2.2.2.1 fc.2.2.2.2.1 fc.2.2.2.2.2
    · exact (f1 (hab.mpr g1)).elim
  · rcases g with ⟨g1, -⟩ | ⟨-, m, ab1, hat, go, rfl⟩
    · exact (g1 (hab.mp f1)).elim
    · obtain ⟨abu, hIu⟩ := hz.2
      have tq := zu_cq_eqT (μ := μ) (f := b) (t := 6)
      obtain ⟨m', hat', p⟩ := zs_at hI hz f1 hn ek
      have em : m' = m := hat.2.2 m' hat'.1 hat'.2.1
      subst em
      obtain ⟨o1, o2, -, -, o5, o6, o7⟩ := fo
      exact zs_out (ξ := fun c => ξ (zdT b + (c - 7))) (T := 7) (zt_I_7 hI) (zs_7 hI (zs_eqT hI hz tq)) hn (zu_at_eqT hIu tq hat) (zs_pl_eqT hIu hat.1 tq p) o1.1 o2 o5 o6 o7 go
/-- the trial tree -/
theorem zK_trl (h : zK ξ μ row stkC stk ord Rs ts us) (hk : k < 10) (ho : o < 10) (hb : b < 3) (hkt : zd_til ξ k = true) (hot : zd_til ξ o = true) (hko : k ≠ o) (ek : ξ (zdW k) 5 = nI a) (ha : a < 3) (eo : ξ (zdW o) 5 = nI b) (f : zd_trl ξ ν1 Rs ts k o sd b R2 t2) (g : zv_trl μ ν us a k o sd b u2) : zs ν1 7 R2 t2 ν 6 u2 := by
  have hT := h.1.2.2.2.1 b hb
  have hI := hT.1.1
  have hz := h.2.2.2.2.2.1 b hb
  have hab : k ∈ Rs b ↔ a = b := by
    rw [hT.2.1 k]
    exact ⟨fun z => (nI_eq (by omega) (by omega)).mp (ek.symm.trans z.2.2), fun z => ⟨hk, hkt, by rw [← z]; exact ek⟩⟩
  have hoR : o ∈ Rs b := (hT.2.1 o).mpr ⟨ho, hot, eo⟩
  obtain ⟨ν0, R', t', m, f1, f2, f3, rfl, f5, f6⟩ := f
  obtain ⟨μ0, u', n, g1, g2, g3⟩ := g
  have z := zK_dr hb hI hz hab f1 g1
  have hI0 := (zt_isDr_C f1).1
  have hR' : k ∉ R' ∧ o ∈ R' := by
    rcases f1 with ⟨q1, rfl, -⟩ | ⟨q1, n', -, -, rfl, -⟩
    · exact ⟨q1, hoR⟩
    · exact ⟨fun z => ((zl_er_mem hI.1.2.1).mp z).1 rfl, (zl_er_mem hI.1.2.1).mpr ⟨fun e => hko e.symm, hoR⟩⟩
  obtain ⟨m2, hat, p⟩ := zs_at hI0 z hR'.2 f2 f3
  have em : m2 = n := g2.2.2 m2 hat.1 hat.2.1
  subst em
  rcases f6 with ⟨q1, rfl, q3⟩ | ⟨q1, c, f, rfl, q3⟩
  · rcases g3 with ⟨-, rfl, ab, g4⟩ | ⟨r1, -⟩
    · exact zs_tab hI0 z f2 hat.1 p hk hR'.1 q3.2.1 q3.2.2.2.2.1 q3.2.2.2.2.2.1 q3.2.2.2.2.2.2 g4
    · exact absurd q1 (by omega)
  · rcases g3 with ⟨r1, -⟩ | ⟨-, ab', c', f', rfl, g4⟩
    · exact absurd r1 (by omega)
    · exact zs_cut hI0 z f2 hat.1 p hk hR'.1 q3.2.1 q3.2.2.1 q3.2.2.2.2.2.1 q3.2.2.2.2.2.2.1 q3.2.2.2.2.2.2.2 g4
/-- it fits on both sides or on none -/
theorem zK_trf (h : zK ξ μ row stkC stk ord Rs ts us) (hk : k < 10) (hkt : zd_til ξ k = true) (hb : b < 3) (hbt : ¬ ξ (zdS b) 3 = 0) (hc : zt_C ν1 7 R2 t2) (hR2 : ∀ j, j ∈ R2 ↔ (j ∈ Rs b ∨ j = k)) (h5 : ∀ j ∈ R2, ν1 (7 + 5) j = ξ (zdW j + 1) 0 ∧ ν1 (7 + 6) j = ξ (zdW j + 1) 1) (fr : zt_frT 7 ξ ν1) (gr : zu_fr 6 μ ν) (z : zs ν1 7 R2 t2 ν 6 u2) : zt_fit ν1 7 (zdZ b) R2 t2 = zu_fit ν 6 u2 (μ 232 b) (μ 233 b) := by
  obtain ⟨z0, z1⟩ := (h.2.2.1.2 b hb).2 hbt
  refine zs_fit hc.1 z (fun a ha w hw => ?_) (by rw [fr _ (by unfold zt_out zdZ; omega)]; exact z0.symm) (by rw [fr _ (by unfold zt_out zdZ; omega)]; exact z1.symm)
  have hw2 : w < 10 ∧ zd_th ξ w = true := by
    rcases (hR2 w).mp hw with c | c
    · obtain ⟨c1, c2, -⟩ := ((h.1.2.2.2.1 b hb).2.1 w).mp c
      exact ⟨c1, decide_eq_true (of_decide_eq_true c2).1⟩
    · rw [c]
      exact ⟨hk, decide_eq_true (of_decide_eq_true hkt).1⟩
  obtain ⟨-, ⟨e5, e6⟩, -⟩ := (h.2.2.1.1 w hw2.1).2 hw2.2
  rw [gr _ _ (zu_in_not (by omega))]
  rcases (by omega : a = 0 ∨ a = 1) with rfl | rfl
  · exact e5.trans (h5 w hw).1.symm
  · exact e6.trans (h5 w hw).2.symm
/-- the group finds room on both sides or on none -/
theorem zK_grm (h : zK ξ μ row stkC stk ord Rs ts us) (hkt : zd_til ξ k = true) (hb : b < 3) (hbt : ¬ ξ (zdS b) 3 = 0) : zl_al (zd_gwf ξ (zd_grp ξ k) (zdZ b)) 10 = true ↔ ∀ j, j < 10 → zv_drm μ k b (zv_grp μ k) j = true := by
  rw [zl_al_iff, ← zK_grp h]
  obtain ⟨z0, z1⟩ := (h.2.2.1.2 b hb).2 hbt
  refine forall_congr' fun j => ?_
  refine imp_congr_right fun hj => ?_
  unfold zd_gwf zv_drm
  cases c : zd_grp ξ k j with
  | false => exact ⟨fun _ => rfl, fun _ => rfl⟩
  | true =>
    by_cases e : j = k
    · have : zd_flo ξ j = false := by
        rw [e]
        exact decide_eq_false (fun z => z.2 (of_decide_eq_true hkt).2)
      rw [this, decide_eq_true e]
      exact ⟨fun _ => rfl, fun _ => rfl⟩
    · rcases zd_grp_dl h.1 hj c with e' | ⟨t1, t3⟩
      · exact (e e').elim
      · have : zd_flo ξ j = true := decide_eq_true ⟨of_decide_eq_true t1, by rw [t3]; decide⟩
        obtain ⟨-, ⟨e5, e6⟩, -⟩ := (h.2.2.1.1 j hj).2 t1
        have ew : zd_whole ξ (zdZ b) j = decide (μ 235 j ≤ μ 232 b ∧ μ 236 j ≤ μ 233 b) := by
          unfold zd_whole
          rw [e5, e6, z0, z1]
        rw [this, decide_eq_false e, ew]
        simp
end ZKQ
end
section
/-! side by side: drag -/
section ZKR
variable {ξ μ ν ν1 ξ' μ' ξ6 μ6 θ : zm_M} {row row' stkC stkC' stk ord : List Nat} {Rs Rs' : Nat → List Nat} {ts ts' us : Nat → zy_F} {R2 : List Nat} {ua u2 t2 : zy_F} {k o a b n q : Nat}
/-- what is kept when what is kept with k is forgotten -/
theorem zd_has_fgt (fK : ξ6 (zdK q) 3 = if zd_has ξ q k = true then 0 else ξ (zdK q) 3) (eQ : ξ6 (zdQ q) = ξ (zdQ q)) (eV : ξ6 (zdV q + 3) = ξ (zdV q + 3)) (j : Nat) : zd_has ξ6 q j = true ↔ ¬ zd_has ξ q k = true ∧ zd_has ξ q j = true := by
  have d6 : zd_has ξ6 q j = true ↔ ¬ ξ6 (zdK q) 3 = 0 ∧ (¬ ξ (zdQ q) j = 0 ∨ ¬ ξ (zdV q + 3) j < 0) := by
    unfold zd_has
    rw [decide_eq_true_iff, eQ, eV]
  have d0 : zd_has ξ q j = true ↔ ¬ ξ (zdK q) 3 = 0 ∧ (¬ ξ (zdQ q) j = 0 ∨ ¬ ξ (zdV q + 3) j < 0) := by
    unfold zd_has
    rw [decide_eq_true_iff]
  rw [d6, d0, fK]
  by_cases c : zd_has ξ q k = true
  · rw [if_pos c]
    exact ⟨fun z => absurd rfl z.1, fun z => absurd c z.1⟩
  · rw [if_neg c]
    exact ⟨fun z => ⟨c, z⟩, fun z => z.2⟩
/-- a drag done, before the focus is given -/
theorem zK0_drx (h : zK ξ μ row stkC stk ord Rs ts us) (hk : k < 10) (ha : a < 3) (hb : b < 3) (hkt : zd_til ξ k = true) (ek : ξ (zdW k) 5 = nI a) (hn : n ∈ zy_lvs (ts a)) (en : ξ (zdT a + 3) k = nI n) (hc1 : zt_C ν1 7 R2 t2) (hz1 : zs ν1 7 R2 t2 θ 6 u2)
    (f : ∀ c d, ¬ zJ_irr c → zt_out (zdT a) c → zt_out (zdT b) c → (∀ q, q < 3 → c = zdK q → d ≠ 3) → (∀ j, j < 10 → c = zdW j → d ≠ 5) → ξ6 c d = ξ c d) (fK : ∀ q, q < 3 → ξ6 (zdK q) 3 = if zd_has ξ q k = true then 0 else ξ (zdK q) 3) (f5 : ∀ j, j < 10 → ξ6 (zdW j) 5 = if ¬ a = b ∧ zd_grp ξ k j = true then nI b else ξ (zdW j) 5) (fO : ¬ a = b → zt_isOut ξ (zdT a) (Rs a) (ts a) n k ξ6 (zdT a)) (fC : zt_isCopy ν1 7 ξ6 (zdT b)) (g : zv_drx μ θ μ6 us k a b ua) : zK0 ξ6 μ6 ord (zd_drR Rs k a b R2) (zd_drT ξ Rs ts k a b n t2) (zv_drU us a b ua u2) := by
  have hK := h
  obtain ⟨h1, h4, h2, h3, h5, h6, h7⟩ := h
  obtain ⟨gb, ga, g8, g251, g⟩ := g
  have hgr := zK_grp hK (k := k)
  have gup : ∀ j q, q < 3 → zd_grp ξ k j = true → zd_has ξ q j = true → zd_has ξ q k = true := fun j q hq z z2 => zK_gup hK hq z z2
  have oW : ∀ j, j < 10 → ∀ q, q < 3 → zt_out (zdT q) (zdW j) ∧ zt_out (zdT q) (zdW j + 1) := fun j hj q hq => ⟨zJn_out hq (Or.inr (Or.inl ⟨j, hj, Or.inl rfl⟩)), zJn_out hq (Or.inr (Or.inl ⟨j, hj, Or.inr rfl⟩))⟩
  have eW : ∀ j d, j < 10 → d ≠ 5 → ξ6 (zdW j) d = ξ (zdW j) d := fun j d hj hd => f _ _ (zJn_W hj).1 (oW j hj a ha).1 (oW j hj b hb).1 (fun q hq e => by unfold zdW zdK at e; omega) (fun _ _ _ => hd)
  have eL : ∀ j, j < 10 → ξ6 (zdW j + 1) = ξ (zdW j + 1) := fun j hj => funext fun d => f _ _ (zJn_W hj).2 (oW j hj a ha).2 (oW j hj b hb).2 (fun q hq e => by unfold zdW zdK at e; omega) (fun i hi e => by unfold zdW at e; omega)
  have eS : ∀ q, q < 3 → ξ6 (zdS q) = ξ (zdS q) ∧ ξ6 (zdZ q) = ξ (zdZ q) ∧ ξ6 (zdQ q) = ξ (zdQ q) := fun q hq => ⟨funext fun d => f _ _ (zJn_S hq).1 (zJn_out ha (Or.inr (Or.inr (Or.inl ⟨q, hq, Or.inl rfl⟩)))) (zJn_out hb (Or.inr (Or.inr (Or.inl ⟨q, hq, Or.inl rfl⟩)))) (fun i hi e => by unfold zdS zdK at e; omega) (fun i hi e => by unfold zdS zdW at e; omega),
    funext fun d => f _ _ (zJn_S hq).2.1 (zJn_out ha (Or.inr (Or.inr (Or.inl ⟨q, hq, Or.inr (Or.inl rfl)⟩)))) (zJn_out hb (Or.inr (Or.inr (Or.inl ⟨q, hq, Or.inr (Or.inl rfl)⟩)))) (fun i hi e => by unfold zdZ zdK at e; omega) (fun i hi e => by unfold zdZ zdW at e; omega),
    funext fun d => f _ _ (zJn_S hq).2.2.2 (zJn_out ha (Or.inr (Or.inr (Or.inl ⟨q, hq, Or.inr (Or.inr (Or.inr (Or.inl rfl)))⟩)))) (zJn_out hb (Or.inr (Or.inr (Or.inl ⟨q, hq, Or.inr (Or.inr (Or.inr (Or.inl rfl)))⟩)))) (fun i hi e => by unfold zdQ zdK at e; omega) (fun i hi e => by unfold zdQ zdW at e; omega)⟩
  have eV : ∀ q, q < 3 → ∀ j, j < 19 → ξ6 (zdV q + j) = ξ (zdV q + j) := fun q hq j hj => funext fun d => f _ _ (zJn_T hq hj).2 (zJn_out ha (Or.inr (Or.inr (Or.inl ⟨q, hq, Or.inr (Or.inr (Or.inr (Or.inr ⟨j, hj, rfl⟩)))⟩)))) (zJn_out hb (Or.inr (Or.inr (Or.inl ⟨q, hq, Or.inr (Or.inr (Or.inr (Or.inr ⟨j, hj, rfl⟩)))⟩)))) (fun i hi e => by unfold zdV zdK at e; omega) (fun i hi e => by unfold zdV zdW at e; omega)
  have eT : ∀ q, q < 3 → q ≠ a → q ≠ b → ∀ j, j < 19 → ξ6 (zdT q + j) = ξ (zdT q + j) := fun q hq n1 n2 j hj => funext fun d => f _ _ (zJn_T hq hj).1 (by unfold zt_out zdT; omega) (by unfold zt_out zdT; omega) (fun i hi e => by unfold zdT zdK at e; omega) (fun i hi e => by unfold zdT zdW at e; omega)
  have th : ∀ j, j < 10 → zd_th ξ6 j = zd_th ξ j := fun j hj => by unfold zd_th; rw [eW j 2 hj (by decide)]
  have has : ∀ q j, q < 3 → (zd_has ξ6 q j = true ↔ ¬ zd_has ξ q k = true ∧ zd_has ξ q j = true) := fun q j hq => zd_has_fgt (fK q hq) (eS q hq).2.2 (eV q hq 3 (by decide)) j
  have gC : ∀ c d, (232 ≤ c ∧ c ≤ 237) ∨ c = 252 → μ6 c d = μ c d := fun c d r => g c d (by omega) (by omega) (by omega) (by omega) (by omega) (zu_in_not (by omega)) (zu_in_not (by omega)) (zu_in_not (by omega))
  have gT : ∀ q, q < 6 → q ≠ a → q ≠ b → zu_eqT μ q μ6 q := fun q hq n1 n2 => zu_eq_in (fun c d r => g c d (fun z => zu_in_not (by omega) r) (fun z => zu_in_not (by omega) r) (fun z => zu_in_not (by omega) r) (fun z => zu_in_not (by omega) r) (fun z => zu_in_not (by omega) r) (zu_in_ne r (by omega)) (zu_in_ne r n1) (zu_in_ne r n2))
  have hI : ∀ q, q < 3 → zt_I ξ (zdT q) (Rs q) (ts q) := fun q hq => (h1.2.2.2.1 q hq).1.1
  have hV : ∀ q, q < 3 → zt_I ξ (zdV q) (Rs (3 + q)) (ts (3 + q)) := fun q hq => (h1.2.2.2.2.1 q hq).1.1
  have hkR : k ∈ Rs a := ((h1.2.2.2.1 a ha).2.1 k).mpr ⟨hk, hkt, ek⟩
  refine ⟨⟨fun x hx => ?_, fun q hq => ?_⟩, fun x hx A B => ?_, ⟨h5.1, fun x => ?_, fun x hx A => ?_⟩, fun q hq => ?_, fun d hd => ?_, fun q hq => ?_⟩
  · rw [th x hx, gC 234 x (by omega)]
    refine ⟨(h2.1 x hx).1, fun c => ?_⟩
    obtain ⟨d1, d2, d3, d4⟩ := (h2.1 x hx).2 c
    rw [eW x 3 hx (by decide), eW x 4 hx (by decide), eL x hx, gC 235 x (by omega), gC 236 x (by omega), gC 237 x (by omega)]
    refine ⟨d1, d2, d3, fun z => ?_⟩
    rw [g8 x hx, f5 x hx, ← hgr]
    by_cases c1 : ¬ a = b ∧ zd_grp ξ k x = true
    · rw [if_pos (Or.inr c1), if_pos c1]
    · rw [if_neg c1]
      by_cases c2 : x = k
      · subst c2
        have : a = b := Decidable.byContradiction fun w => c1 ⟨w, zd_grp_k⟩
        rw [if_pos (Or.inl rfl), ek, this]
      · rw [if_neg (fun w => w.elim c2 c1)]
        exact d4 z
  · rw [(eS q hq).1, (eS q hq).2.1, gC 232 q (by omega), gC 233 q (by omega)]
    exact h2.2 q hq
  · rw [th x hx] at A
    rw [eW x 3 hx (by decide)] at B
    obtain ⟨o, ho, q1, q2, q3, q4⟩ := h3 x hx A B
    refine ⟨o, ho, by rw [eW x 4 hx (by decide)]; exact q1, by rw [eW o 3 ho (by decide)]; exact q2, ?_, fun q hq z => ?_⟩
    · rw [f5 x hx, f5 o ho, zK_gow hK hk hkt hx A B ho q1, q3]
    · obtain ⟨z1, z2⟩ := (has q x hq).mp z
      exact (has q o hq).mpr ⟨z1, q4 q hq z2⟩
  · rw [gC 234 x (by omega)]
    exact h5.2.1 x
  · rw [gC 234 x (by omega)] at A
    rw [gC 237 x (by omega)]
    exact h5.2.2 x hx A
  · by_cases cb : q = b
    · subst cb
      have e1 : zd_drR Rs k a q R2 q = R2 := if_pos rfl
      have e2 : zd_drT ξ Rs ts k a q n t2 q = t2 := if_pos rfl
      have e3 : zv_drU us a q ua u2 q = u2 := if_pos rfl
      rw [e1, e2, e3]
      exact zs_cl hc1.1 (zs_eqT hc1.1 hz1 gb) fC.1 fC.2.2.2.1 fC.2.2.2.2.1 fC.2.2.2.2.2
    · by_cases ca : q = a
      · subst ca
        have e1 : zd_drR Rs k q b R2 q = (Rs q).erase k := (if_neg cb).trans (if_pos rfl)
        have e2 : zd_drT ξ Rs ts k q b n t2 q = (if (zt_tb ξ (zdT q) (Rs q) n).erase k = [] then zy_out n (ts q) else ts q) := (if_neg cb).trans (if_pos rfl)
        have e3 : zv_drU us q b ua u2 q = ua := (if_neg cb).trans (if_pos rfl)
        rw [e1, e2, e3]
        obtain ⟨m, ab', A, B, hat, tA, hu, tB, rfl⟩ := ga cb
        obtain ⟨o1, o2, -, -, o5, o6, o7⟩ := fO cb
        obtain ⟨abu, hIu⟩ := (h6 q hq).2
        obtain ⟨m', hat', p⟩ := zs_at (hI q hq) (h6 q hq) hkR hn en
        have em : m' = m := hat.2.2 m' hat'.1 hat'.2.1
        subst em
        exact zs_eqT o1.1 (zs_out (hI q hq) (zs_eqT (hI q hq) (h6 q hq) tA) hn (zu_at_eqT hIu tA hat) (zs_pl_eqT hIu hat.1 tA p) o1.1 o2 o5 o6 o7 hu) tB
      · have e1 : zd_drR Rs k a b R2 q = Rs q := (if_neg cb).trans (if_neg ca)
        have e2 : zd_drT ξ Rs ts k a b n t2 q = ts q := (if_neg cb).trans (if_neg ca)
        have e3 : zv_drU us a b ua u2 q = us q := (if_neg cb).trans (if_neg ca)
        rw [e1, e2, e3]
        have e := eT q hq ca cb
        exact zs_cl (hI q hq) (zs_eqT (hI q hq) (h6 q hq) (gT q (by omega) ca cb)) (e 3 (by decide)) (e 7 (by decide)) (e 8 (by decide)) (e 12 (by decide))
  · rw [gC 252 d (by omega)]
    exact h7.1 d hd
  · have e1 : zd_drR Rs k a b R2 (3 + q) = Rs (3 + q) := (if_neg (by omega)).trans (if_neg (by omega))
    have e2 : zd_drT ξ Rs ts k a b n t2 (3 + q) = ts (3 + q) := (if_neg (by omega)).trans (if_neg (by omega))
    have e3 : zv_drU us a b ua u2 (3 + q) = us (3 + q) := (if_neg (by omega)).trans (if_neg (by omega))
    rw [e1, e2, e3]
    obtain ⟨a1, a2⟩ := h7.2 q hq
    have k251 : μ6 251 q = 0 ↔ ξ6 (zdK q) 3 = 0 := by
      rw [(g251 q hq).2, fK q hq]
      by_cases c : zd_has ξ q k = true
      · rw [if_pos c]
        obtain ⟨z1, z2⟩ := (zK_has hK hq hk).mpr c
        exact ⟨fun _ => rfl, fun _ => Or.inr ⟨k, hk, Or.inl rfl, z2⟩⟩
      · rw [if_neg c, ← a1]
        refine ⟨fun z => ?_, Or.inl⟩
        rcases z with z | ⟨j, hj, z1, z2⟩
        · exact z
        · refine Decidable.byContradiction fun w => c ?_
          have hj' := (zK_has hK hq hj).mp ⟨w, z2⟩
          rcases z1 with rfl | ⟨-, z1⟩
          · exact hj'
          · exact gup j q hq (by rw [hgr]; exact z1) hj'
    refine ⟨k251, fun z => ?_⟩
    have c : ¬ zd_has ξ q k = true := fun c => z (by rw [fK q hq, if_pos c])
    have z' : ¬ ξ (zdK q) 3 = 0 := fun w => z (by rw [fK q hq, if_neg c]; exact w)
    obtain ⟨b1, b2⟩ := a2 z'
    refine ⟨fun j hj => ?_, zs_cl (hV q hq) (zs_eqT (hV q hq) b2 (gT (3 + q) (by omega) (by omega) (by omega))) (eV q hq 3 (by decide)) (eV q hq 7 (by decide)) (eV q hq 8 (by decide)) (eV q hq 12 (by decide))⟩
    rw [gC 252 _ (by omega), has q j hq, b1 j hj]
    exact ⟨fun w => ⟨c, w⟩, fun w => w.2⟩
theorem zK_drgd (h : zK ξ μ row stkC stk ord Rs ts us) {w x y : Int32} (hJ : zJ ξ' row' stkC' Rs' ts') (f : zd_drgd ξ ξ' row row' Rs Rs' ts ts' w x y) (g : zv_drgd μ μ' row stk us w x y) : ∃ stkC'' stk' ord' us', zK ξ' μ' row' stkC'' stk' ord' Rs' ts' us' := by
  have arg : ∀ k o sd, zd_darg ξ w x y k o sd ↔ zv_darg μ w x y k o sd := fun k o sd => by
    unfold zd_darg zv_darg
    refine and_congr_right fun a => and_congr_right fun _ => ?_
    rw [(zK_kind h a.1).1, (zK_kind h a.2.1).1]
  rcases f with ⟨f, rfl, rfl, rfl, rfl⟩ | ⟨k, o, sd, a, b, ν1, R2, t2, fa, ha, hb, ek, eo, fr, ft, f⟩
  · rcases g with ⟨-, rfl⟩ | ⟨k, o, sd, a, b, θ, u2, ga, -⟩
    · exact ⟨_, _, _, _, h⟩
    · exact (f ⟨k, o, sd, (arg k o sd).mpr ga⟩).elim
  · rcases g with ⟨z, -⟩ | ⟨k', o', sd', a', b', θ, u2, ga, ha', hb', ek', eo', gr, gt, g⟩
    · exact (z ⟨k, o, sd, (arg k o sd).mp fa⟩).elim
    · obtain ⟨⟨hk, ho, hsd⟩, ⟨w1, w2, w3⟩, hkt, hot, hko⟩ := id fa
      obtain ⟨⟨hk', ho', hsd'⟩, ⟨w1', w2', w3'⟩, -⟩ := id ga
      have e1 := (nI_eq (by omega) (by omega)).mp (w1'.symm.trans w1)
      have e2 := (nI_eq (by omega) (by omega)).mp (w2'.symm.trans w2)
      have e3 := (nI_eq (by omega) (by omega)).mp (w3'.symm.trans w3)
      subst e1
      subst e2
      subst e3
      have e4 := (nI_eq (by omega) (by omega)).mp (ek'.symm.trans (((zK_kind h hk).2.1 hkt).trans ek))
      have e5 := (nI_eq (by omega) (by omega)).mp (eo'.symm.trans (((zK_kind h ho).2.1 hot).trans eo))
      subst e4
      subst e5
      have hbt : ¬ ξ (zdS b') 3 = 0 := by
        obtain ⟨-, -, w3, -⟩ := h.1.2.2.1 o' ho (decide_eq_true (of_decide_eq_true hot).1)
        obtain ⟨s, hs, q1, q2⟩ := w3 (by rw [(of_decide_eq_true hot).2]; decide)
        rw [← (nI_eq (by omega) (by omega)).mp (q1.symm.trans eo)]
        exact q2
      have hz1 := zK_trl h hk ho hb hkt hot hko ek ha eo ft gt
      obtain ⟨t1, t2', t3⟩ := zd_trl_R h.1 hb ft
      have hfit := zK_trf h hk hkt hb hbt t1 t2' t3 fr gr hz1
      have hgrm := zK_grm h hkt hb hbt
      rcases f with ⟨f, fe, rfl, rfl, rfl⟩ | ⟨f, rfl, n, ξ6, hn, en, rfl, rfl, f1, f2, f3, f4, f5, f6, ff⟩
      · rcases g with ⟨-, g⟩ | ⟨⟨g1, g2⟩, -⟩
        · exact ⟨_, _, _, _, h.scr6 fe (fun c d _ _ _ r r6 => g c d (by omega) r6)⟩
        · rw [← hfit] at g1
          rcases f with f | ⟨f, f'⟩
          · rw [f] at g1
            cases g1
          · rw [hgrm.mpr (g2.resolve_left f)] at f'
            cases f'
      · rcases g with ⟨g, -⟩ | ⟨-, μ6, ua, gx, gf⟩
        · rw [← hfit] at g
          rcases g with g | ⟨g, g'⟩
          · rw [f.1] at g
            cases g
          · exact (g' (hgrm.mp (f.2.resolve_left g))).elim
        · have h0 := zK0_drx h hk ha hb hkt ek hn en t1 hz1 f1 f2 f3 f4 f5 gx
          have oW : ∀ j, j < 10 → ∀ q, q < 3 → zt_out (zdT q) (zdW j) := fun j hj q hq => zJn_out hq (Or.inr (Or.inl ⟨j, hj, Or.inl rfl⟩))
          have eW : ∀ j d, j < 10 → d ≠ 5 → ξ6 (zdW j) d = ξ (zdW j) d := fun j d hj hd => f1 _ _ (zJn_W hj).1 (oW j hj a' ha) (oW j hj b' hb) (fun q hq e => by unfold zdW zdK at e; omega) (fun _ _ _ => hd)
          have hkR2 : k' ∈ R2 := (t2' k').mpr (Or.inr rfl)
          have hI6 : ∀ q, q < 3 → zt_I ξ6 (zdT q) (zd_drR Rs k' a' b' R2 q) (zd_drT ξ Rs ts k' a' b' n t2 q) := fun q hq => by
            by_cases cb : q = b'
            · have e1 : zd_drR Rs k' a' b' R2 q = R2 := if_pos cb
              have e2 : zd_drT ξ Rs ts k' a' b' n t2 q = t2 := if_pos cb
              rw [e1, e2, cb]
              exact f6.1
            · by_cases ca : q = a'
              · subst ca
                have e1 : zd_drR Rs k' q b' R2 q = (Rs q).erase k' := (if_neg cb).trans (if_pos rfl)
                have e2 : zd_drT ξ Rs ts k' q b' n t2 q = (if (zt_tb ξ (zdT q) (Rs q) n).erase k' = [] then zy_out n (ts q) else ts q) := (if_neg cb).trans (if_pos rfl)
                rw [e1, e2]
                exact (f4 cb).1.1
              · have e1 : zd_drR Rs k' a' b' R2 q = Rs q := (if_neg cb).trans (if_neg ca)
                have e2 : zd_drT ξ Rs ts k' a' b' n t2 q = ts q := (if_neg cb).trans (if_neg ca)
                rw [e1, e2]
                exact (zt_C_19 (fun j hj => funext fun d => f1 _ _ (zJn_T hq hj).1 (by unfold zt_out zdT; omega) (by unfold zt_out zdT; omega) (fun i hi e => by unfold zdT zdK at e; omega) (fun i hi e => by unfold zdT zdW at e; omega)) (h.1.2.2.2.1 q hq).1).1
          have hV6 : ∀ q, q < 3 → zt_I ξ6 (zdV q) (zd_drR Rs k' a' b' R2 (3 + q)) (zd_drT ξ Rs ts k' a' b' n t2 (3 + q)) := fun q hq => by
            have e1 : zd_drR Rs k' a' b' R2 (3 + q) = Rs (3 + q) := (if_neg (by omega)).trans (if_neg (by omega))
            have e2 : zd_drT ξ Rs ts k' a' b' n t2 (3 + q) = ts (3 + q) := (if_neg (by omega)).trans (if_neg (by omega))
            rw [e1, e2]
            exact (zt_C_19 (fun j hj => funext fun d => f1 _ _ (zJn_T hq hj).2 (zJn_out ha (Or.inr (Or.inr (Or.inl ⟨q, hq, Or.inr (Or.inr (Or.inr (Or.inr ⟨j, hj, rfl⟩)))⟩)))) (zJn_out hb (Or.inr (Or.inr (Or.inl ⟨q, hq, Or.inr (Or.inr (Or.inr (Or.inr ⟨j, hj, rfl⟩)))⟩)))) (fun i hi e => by unfold zdV zdK at e; omega) (fun i hi e => by unfold zdV zdW at e; omega)) (h.1.2.2.2.2.1 q hq).1).1
          have thk : zd_th ξ6 k' = true := decide_eq_true (by rw [eW k' 2 hk (by decide)]; exact (of_decide_eq_true hkt).1)
          have h0' := zK0_foc h0 hI6 hV6 hk thk (fun _ => ⟨b', hb, by
            rw [f3 k' hk]
            by_cases c : a' = b'
            · rw [if_neg (fun z => z.1 c), ek, c]
            · rw [if_pos ⟨c, zd_grp_k⟩], by
            have e1 : zd_drR Rs k' a' b' R2 b' = R2 := if_pos rfl
            rw [e1]; exact hkR2⟩) ff gf
          obtain ⟨⟨stk', s1, s2, s3⟩, s4, -, -⟩ := gf
          refine ⟨stkC', stk', ord, _, hJ, ⟨s4, s1, s2, fun x => ?_⟩, h0'⟩
          have k1 : μ6 234 k' = 1 := by
            rw [gx.2.2.2.2 _ _ (by decide) (by decide) (by decide) (by decide) (by decide) (zu_in_not (by decide)) (zu_in_not (by decide)) (zu_in_not (by decide))]
            exact (zK_kind h hk).1.mp hkt
          have eW' : ∀ x, x < 10 → ξ' (zdW x) = ξ6 (zdW x) := fun x hx => funext fun b => ff.1 _ b (by unfold zdW; omega) (by unfold zdW; omega) (by unfold zdW; omega) (by unfold zdW; omega) (fun ⟨_, s, hs, _, e, _⟩ => by unfold zdW zdT at e; omega)
          have flo : ∀ x, x < 10 → zd_flo ξ' x = zd_flo ξ x := fun x hx => by
            unfold zd_flo
            rw [eW' x hx, eW x 2 hx (by decide), eW x 3 hx (by decide)]
          rw [s3 x, h.2.1.2.2.2 x]
          constructor
          · rintro (⟨a, b⟩ | ⟨-, b⟩)
            · exact ⟨a, by rw [flo x a]; exact b⟩
            · rw [k1] at b
              exact absurd b (by decide)
          · rintro ⟨a, b⟩
            exact Or.inl ⟨a, by rw [← flo x a]; exact b⟩
end ZKR
end
section
/-! side by side: the windows of a screen in another's tree -/
section ZKS
variable {pl pc : Nat → Nat → Prop} {f g : Nat → List Nat}
theorem zy_sim_flat (hf : ∀ n m, pl n m → f n = g m) : ∀ t, zy_wf t → ∀ u, zy_wf u → zy_sim pl pc t u → (zy_lvs t).flatMap f = (zy_lvs u).flatMap g := by
  apply zy_sim_ind (P := fun t u => (zy_lvs t).flatMap f = (zy_lvs u).flatMap g)
  · intro n m h
    show [n].flatMap f = [m].flatMap g
    rw [List.flatMap_singleton, List.flatMap_singleton]
    exact hf n m h
  · intro n m a b c d _ _ _ _ _ _ _ iha ihb
    show (zy_lvs a ++ zy_lvs b).flatMap f = (zy_lvs c ++ zy_lvs d).flatMap g
    rw [List.flatMap_append, List.flatMap_append, iha, ihb]
/-- the first leaves go together -/
theorem zy_sim_first : ∀ t, zy_wf t → ∀ u, zy_wf u → zy_sim pl pc t u → pl ((zy_lvs t).getD 0 0) ((zy_lvs u).getD 0 0) := by
  have happ : ∀ (a b : List Nat), 0 < a.length → (a ++ b).getD 0 0 = a.getD 0 0 := fun a b h => by
    cases a with
    | nil => exact absurd h (by decide)
    | cons x l => rfl
  intro t wt u wu h
  revert wt wu h
  intro wt wu h
  refine zy_sim_ind (pl := pl) (pc := pc) (P := fun t u => pl ((zy_lvs t).getD 0 0) ((zy_lvs u).getD 0 0)) ?_ ?_ t wt u wu h
  · intro n m h
    exact h
  · intro n m a b c d wa wb wc wd _ _ _ iha _
    show pl ((zy_lvs a ++ zy_lvs b).getD 0 0) ((zy_lvs c ++ zy_lvs d).getD 0 0)
    rw [happ _ _ (zy_lvs_pos wa), happ _ _ (zy_lvs_pos wc)]
    exact iha
end ZKS
section ZKT
variable {ξ μ ν ξ1 ξ2 μa θ θ2 : zm_M} {T τ Q : Nat} {R : List Nat} {t u : zy_F} {W : List Nat} {emp : Bool} {n1 : Nat}
theorem zs_flat (hI : zt_I ξ T R t) (h : zs ξ T R t μ τ u) : (zy_lvs t).flatMap (zt_tb ξ T R) = (zy_lvs u).flatMap (zu_tb μ τ) := by
  rcases zs_wf hI h with ⟨rfl, rfl⟩ | ⟨wt, wu⟩
  · rfl
  · exact zy_sim_flat (fun n m p => p.1.symm) t wt u wu h.1
theorem zt_tb_AD {n n0 : Nat} (hW : ∀ v ∈ R, v ∉ W) (hn : n < 19) (hn0 : n0 < 19) (e3 : ∀ v, ξ2 (T + 3) v = if v ∈ W then nI n0 else ξ1 (T + 3) v) : zt_tb ξ2 T (R ++ W) n = if n = n0 then zt_tb ξ1 T R n ++ W else zt_tb ξ1 T R n := by
  unfold zt_tb
  rw [List.filter_append]
  have a1 : R.filter (fun v => decide (ξ2 (T + 3) v = nI n)) = R.filter (fun v => decide (ξ1 (T + 3) v = nI n)) := by
    refine List.filter_congr fun v hv => ?_
    rw [e3, if_neg (hW v hv)]
  rw [a1]
  by_cases c : n = n0
  · rw [if_pos c]
    congr 1
    refine List.filter_eq_self.mpr fun v hv => decide_eq_true ?_
    rw [e3, if_pos hv, c]
  · rw [if_neg c]
    have : W.filter (fun v => decide (ξ2 (T + 3) v = nI n)) = [] := by
      refine List.filter_eq_nil_iff.mpr fun v hv => ?_
      rw [e3, if_pos hv]
      exact fun z => c ((nI_eq (by omega) (by omega)).mp (of_decide_eq_true z).symm)
    rw [this, List.append_nil]
/-- all of W added on both sides -/
theorem zs_AD (hI : zt_I ξ1 T R t) (hz : zs ξ1 T R t θ τ u) (he : emp = true → t = .nil ∧ R = []) (he' : emp = false → zy_wf t) (f : zt_AD ξ1 T Q R t emp W ξ2) (g : zu_AD θ τ u emp W θ2 n1) {n0 : Nat} (hC : zt_C ξ2 T (R ++ W) (zy_ad emp t W n0)) : zs ξ2 T (R ++ W) (zy_ad emp t W n0) θ2 τ (zy_ad emp u W n1) := by
  obtain ⟨m0, fC, -, f0, f3, -, -, f7, f8, f12⟩ := f
  obtain ⟨⟨ab, gI⟩, -, g1, g2⟩ := g
  have hWR : ∀ v ∈ R, v ∉ W := fun v hv hw => (List.nodup_append.mp hC.1.1.2.1).2.2 v hv v hw rfl
  refine ⟨?_, ab, gI⟩
  cases emp with
  | false =>
    have wt := he' rfl
    obtain ⟨abu, hIu⟩ := id hz.2
    have wu := zy_sim_wf (zu_I_or hIu) wt hz.1
    have e1 : zy_ad false t W n0 = t := if_neg (fun z => Bool.false_ne_true z.1)
    have e2 : zy_ad false u W n1 = u := if_neg (fun z => Bool.false_ne_true z.1)
    rw [e1, e2]
    obtain ⟨q1, q2, q3, q4⟩ := g1 rfl
    have hm0 := f0 rfl
    have hp := zy_sim_first t wt u wu hz.1
    rw [← hm0, ← q1] at hp
    have hml : m0 ∈ zy_lvs t := by rw [hm0]; exact zl_mem (zy_lvs_pos wt)
    have hnl : n1 ∈ zy_lvs u := by rw [q1]; exact zl_mem (zy_lvs_pos wu)
    have l19 := (zt_I_lvn hI).2
    have hno : ∀ {i : Nat}, ¬ ((false = true ∧ W ≠ []) ∧ i = m0) := fun z => Bool.false_ne_true z.1.1
    refine zy_sim_mono t wt u wu hz.1 (fun x hx y hy p => ⟨?_, ?_⟩) (fun x hx y hy p => ⟨?_, ?_⟩)
    · rw [zt_tb_AD hWR (l19 x hx) (l19 m0 hml) f3]
      have hiff := zs_iff hI hz hml hnl hp x hx y hy p
      by_cases c : x = m0
      · have c' := hiff.mp c
        rw [if_pos c, c', q2, ← p.1, c']
      · rw [if_neg c, q3 y hy (fun z => c (hiff.mpr z))]
        exact p.1
    · rw [(q4 y (zy_lvs_ids u wu y hy)).1, f12, if_neg hno]
      exact p.2
    · rw [(q4 y (zy_cts_ids u wu y hy)).2.2, f7, if_neg hno]
      exact p.1
    · rw [(q4 y (zy_cts_ids u wu y hy)).2.1, f8]
      exact p.2
  | true =>
    obtain ⟨rfl, rfl⟩ := he rfl
    have eu := (zs_nil_l hI hz).mp rfl
    subst eu
    by_cases cW : W = []
    · have e1 : ∀ n, zy_ad true .nil W n = .nil := fun n => if_neg (fun z => z.2 cW)
      rw [e1, e1]
      trivial
    · have e1 : ∀ n, zy_ad true .nil W n = .tag n .nil := fun n => if_pos ⟨rfl, cW⟩
      rw [e1] at hC fC ⊢
      rw [e1] at gI ⊢
      obtain ⟨w, hw⟩ := List.exists_mem_of_ne_nil W cW
      have em : m0 = n0 := by
        obtain ⟨n, hn, en⟩ := hC.1.2.2.2.1 w (List.mem_append_right _ hw)
        have en' : n = n0 := List.mem_singleton.mp hn
        have l1 := (zt_I_lvn hC.1).2 n hn
        have l2 := (zt_I_lvn fC.1).2 m0 (List.mem_singleton.mpr rfl)
        rw [f3, if_pos hw] at en
        rw [(nI_eq (by omega) (by omega)).mp en, en']
      subst em
      obtain ⟨q1, q2, q3⟩ := g2 rfl cW
      show zs_pl ξ2 T ([] ++ W) θ2 τ m0 n1
      refine ⟨?_, ?_⟩
      · have l2 := (zt_I_lvn fC.1).2 m0 (List.mem_singleton.mpr rfl)
        rw [zt_tb_AD (fun v hv => by cases hv) l2 l2 f3, if_pos rfl, q2]
        rfl
      · rw [q3, f12, if_pos ⟨⟨rfl, cW⟩, rfl⟩]
theorem zl_ct_ex {p : Nat → Bool} : ∀ n, 0 < zl_ct p n → ∃ j, j < n ∧ p j = true
  | 0, h => absurd h (Nat.lt_irrefl _)
  | n + 1, h => by
    by_cases c : p n = true
    · exact ⟨n, by omega, c⟩
    · have e : zl_ct p (n + 1) = zl_ct p n := by
        show zl_ct p n + (if p n then 1 else 0) = zl_ct p n
        rw [if_neg c]; rfl
      rw [e] at h
      obtain ⟨j, hj, q⟩ := zl_ct_ex n h
      exact ⟨j, by omega, q⟩
end ZKT
end
