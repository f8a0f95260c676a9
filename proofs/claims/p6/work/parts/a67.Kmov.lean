/-! side by side: toward, what is forgotten, move -/
section ZKF
variable {ξ μ ν ξ' μ' : zm_M} {row row' stkC stkC' stk ord : List Nat} {Rs : Nat → List Nat} {ts us : Nat → zy_F} {s k sd : Nat}
theorem zJ_row0 (h : zJ ξ row stkC Rs ts) (hne : row ≠ []) : row.getD 0 0 < 10 := ((h.1.2.2 _).mp (zl_mem (List.length_pos_iff.mpr hne))).1
theorem zK_tow (h : zK ξ μ row stkC stk ord Rs ts us) {x : Int32} (hJ : zJ ξ' row' stkC' Rs ts)
    (f : ((∀ sd, sd < 4 → x = nI sd → ∀ s, s < 3 → row ≠ [] → ¬ zd_shn ξ s (row.getD 0 0)) ∧ ξ' = ξ ∧ row' = row) ∨
     (∃ sd s ξ1, sd < 4 ∧ s < 3 ∧ x = nI sd ∧ row ≠ [] ∧ zd_shn ξ s (row.getD 0 0) ∧ zJ_eqv ξ ξ1 ∧ (∀ q, q < 3 → zd_laid ξ1 q (Rs q) (ts q)) ∧
       ((zd_ngb ξ1 s (row.getD 0 0) sd = -1000000005 ∧ ξ' = ξ1 ∧ row' = row) ∨ ∃ i, i < 10 ∧ zd_th ξ i = true ∧ zd_ngb ξ1 s (row.getD 0 0) sd = nI i ∧ row' = i :: row.erase i ∧ zd_foc ξ1 ξ' i)))
    (g : zv_twd μ μ' row stk us x) : ∃ stkC'' stk', zK ξ' μ' row' stkC'' stk' ord Rs ts us := by
  rcases f with ⟨f1, rfl, rfl⟩ | ⟨sd, s, ξ1, hsd, hs, rfl, hne, hsh, he, hl, f2⟩
  · rcases g with ⟨-, rfl⟩ | ⟨sd, s, μ1, lo, hsd, hs, rfl, hne, hsh, -⟩
    · exact ⟨_, _, h⟩
    · exact absurd ((zK_shn h (zJ_row0 h.1 hne) hs).mpr hsh) (f1 sd hsd rfl s hs hne)
  · rcases g with ⟨g1, rfl⟩ | ⟨sd', s', μ1, lo, hsd', hs', ex, -, hsh', hlo, hv, fY, g2⟩
    · exact absurd ((zK_shn h (zJ_row0 h.1 hne) hs).mp hsh) (g1 sd hsd rfl s hs hne)
    · have e1 := (nI_eq (by omega) (by omega)).mp ex
      subst e1
      have hk := zJ_row0 h.1 hne
      generalize row.getD 0 0 = k at hsh hsh' hk f2 g2
      have e2 := (nI_eq (by omega) (by omega)).mp (((zK_shn h hk hs').mpr hsh').2.1.symm.trans hsh.2.1)
      subst e2
      have h1 := h.scr he (zM_fr.refl (μ := μ))
      have h2 := h.scr he fY.fr
      have hnb := zK_nbr h1 hs hsd (hl _ hs) hv fY hlo hk ((zK_shn h1 hk hs).mpr hsh')
      rcases f2 with ⟨f3, rfl, rfl⟩ | ⟨i, hi, hit, f3, rfl, f4⟩
      · rcases g2 with ⟨-, rfl⟩ | ⟨j, hj, -, g4, -⟩
        · exact ⟨_, _, h2⟩
        · rcases hnb with ⟨-, e⟩ | ⟨p, hp, e, -⟩
          · rw [e] at g4
            exact absurd (by rw [← g4]; decide) (nI_pos (n := j) (by omega))
          · rw [f3] at e
            exact absurd (by rw [← e]; decide) (nI_pos (n := p) (by omega))
      · have hit1 : zd_th ξ1 i = true := by
          unfold zd_th at *
          rw [he _ (zJn_W hi).1]
          exact hit
        rcases g2 with ⟨g3, -⟩ | ⟨j, hj, -, g4, g5⟩
        · rcases hnb with ⟨e, -⟩ | ⟨p, hp, -, e⟩
          · rw [f3] at e
            exact absurd (by rw [e]; decide) (nI_pos (n := i) (by omega))
          · rw [g3] at e
            exact absurd (by rw [← e]; decide) (nI_pos (n := p) (by omega))
        · have : i = j := by
            rcases hnb with ⟨e, -⟩ | ⟨p, hp, e, e'⟩
            · rw [f3] at e
              exact absurd (by rw [e]; decide) (nI_pos (n := i) (by omega))
            · have a := (nI_eq (by omega) (by omega)).mp (f3.symm.trans e)
              have b := (nI_eq (by omega) (by omega)).mp (g4.symm.trans e')
              omega
          subst this
          obtain ⟨stk', q⟩ := zK_foc h2 hi hit1 hJ f4 g5
          exact ⟨_, stk', q⟩
/-- what is forgotten on both sides -/
theorem zK0_fgt {p : Nat → Bool} (h : zK0 ξ μ ord Rs ts us) (hI : ∀ s, s < 3 → zt_I ξ (zdT s) (Rs s) (ts s)) (hV : ∀ s, s < 3 → zt_I ξ (zdV s) (Rs (3 + s)) (ts (3 + s))) (f : zd_fgt ξ ξ' p) (g1 : ∀ s, s < 3 → (μ' 251 s = 0 ↔ μ 251 s = 0 ∨ p s = true)) (g2 : ∀ c d, (232 ≤ c ∧ c ≤ 238) ∨ c = 252 → μ' c d = μ c d) (hT : ∀ τ, zu_eqT μ τ μ' τ) : zK0 ξ' μ' ord Rs ts us := by
  obtain ⟨h2, h3, h5, h6, h7⟩ := h
  have eC : ∀ c, (∀ s, s < 3 → c ≠ zdK s) → ξ' c = ξ c := fun c hc => funext fun b => f.2 c b (fun s hs e => absurd e (hc s hs))
  have eW : ∀ k, k < 10 → ξ' (zdW k) = ξ (zdW k) := fun k hk => eC _ (fun s hs => by unfold zdW zdK; omega)
  have eL : ∀ k, k < 10 → ξ' (zdW k + 1) = ξ (zdW k + 1) := fun k hk => eC _ (fun s hs => by unfold zdW zdK; omega)
  have eS : ∀ s, s < 3 → ξ' (zdS s) = ξ (zdS s) := fun s hs => eC _ (fun q hq => by unfold zdS zdK; omega)
  have eZ : ∀ s, s < 3 → ξ' (zdZ s) = ξ (zdZ s) := fun s hs => eC _ (fun q hq => by unfold zdZ zdK; omega)
  have eQ : ∀ s, s < 3 → ξ' (zdQ s) = ξ (zdQ s) := fun s hs => eC _ (fun q hq => by unfold zdQ zdK; omega)
  have eT : ∀ s, s < 3 → ∀ j, j < 19 → ξ' (zdT s + j) = ξ (zdT s + j) := fun s hs j hj => eC _ (fun q hq => by unfold zdT zdK; omega)
  have eV : ∀ s, s < 3 → ∀ j, j < 19 → ξ' (zdV s + j) = ξ (zdV s + j) := fun s hs j hj => eC _ (fun q hq => by unfold zdV zdK; omega)
  have th : ∀ k, k < 10 → zd_th ξ' k = zd_th ξ k := fun k hk => by unfold zd_th; rw [eW k hk]
  have has : ∀ s k, s < 3 → zd_has ξ' s k = (!p s && zd_has ξ s k) := fun s k hs => by
    unfold zd_has
    rw [f.1 s hs, eQ s hs, eV s hs 3 (by decide)]
    cases p s with
    | true => simp
    | false => simp
  refine ⟨⟨fun k hk => ?_, fun s hs => ?_⟩, fun k hk a b => ?_, ⟨h5.1, fun x => ?_, fun x hx a => ?_⟩, fun s hs => ?_, fun d hd => ?_, fun s hs => ?_⟩
  · rw [th k hk, eW k hk, eL k hk, g2 234 k (by omega), g2 235 k (by omega), g2 236 k (by omega), g2 237 k (by omega), g2 238 k (by omega)]
    exact h2.1 k hk
  · rw [eS s hs, eZ s hs, g2 232 s (by omega), g2 233 s (by omega)]
    exact h2.2 s hs
  · rw [th k hk] at a
    rw [eW k hk] at b ⊢
    obtain ⟨o, ho, q1, q2, q3, q4⟩ := h3 k hk a b
    refine ⟨o, ho, q1, by rw [eW o ho]; exact q2, by rw [eW o ho]; exact q3, fun s hs z => ?_⟩
    rw [has s _ hs, Bool.and_eq_true] at z ⊢
    exact ⟨z.1, q4 s hs z.2⟩
  · rw [g2 234 x (by omega)]
    exact h5.2.1 x
  · rw [g2 234 x (by omega)] at a
    rw [g2 237 x (by omega)]
    exact h5.2.2 x hx a
  · exact zs_cl (hI s hs) (zs_eqT (hI s hs) (h6 s hs) (hT _)) (eT s hs 3 (by decide)) (eT s hs 7 (by decide)) (eT s hs 8 (by decide)) (eT s hs 12 (by decide))
  · rw [g2 252 d (by omega)]
    exact h7.1 d hd
  · obtain ⟨k1, k2⟩ := h7.2 s hs
    rw [g1 s hs, f.1 s hs]
    cases c : p s with
    | true => exact ⟨⟨fun _ => rfl, fun _ => Or.inr rfl⟩, fun z => absurd rfl z⟩
    | false =>
      refine ⟨⟨fun z => k1.mp (z.resolve_right (fun w => by cases w)), fun z => Or.inl (k1.mpr z)⟩, fun z => ⟨fun k hk => ?_, ?_⟩⟩
      · rw [has s k hs, c, g2 252 _ (by omega)]
        exact (k2 z).1 k hk
      · exact zs_cl (hV s hs) (zs_eqT (hV s hs) (k2 z).2 (hT _)) (eV s hs 3 (by decide)) (eV s hs 7 (by decide)) (eV s hs 8 (by decide)) (eV s hs 12 (by decide))
theorem zK_fgt {p : Nat → Bool} (h : zK ξ μ row stkC stk ord Rs ts us) (f : zd_fgt ξ ξ' p) (g1 : ∀ s, s < 3 → (μ' 251 s = 0 ↔ μ 251 s = 0 ∨ p s = true)) (g2 : ∀ c d, c ≠ 239 → c ≠ 240 → c ≠ 251 → μ' c d = μ c d) : zK ξ' μ' row stkC stk ord Rs ts us := by
  obtain ⟨h1, h4, h0⟩ := h
  have hT : ∀ τ, zu_eqT μ τ μ' τ := fun τ => zu_eq_in (fun c d r => g2 c d (fun z => zu_in_not (Or.inl (by omega)) r) (fun z => zu_in_not (Or.inl (by omega)) r) (fun z => zu_in_not (Or.inr (by omega)) r))
  have eW : ∀ k, k < 10 → ξ' (zdW k) = ξ (zdW k) := fun k hk => funext fun b => f.2 _ b (fun s hs e => by unfold zdW zdK at e; omega)
  exact ⟨h1.fgt f, h4.gen eW (fun C q l hC g => ⟨g.1, by rw [g2 231 q (by decide) (by decide) (by decide)]; exact g.2.1, fun j hj => by rw [g2 C j (by omega) (by omega) (by omega)]; exact g.2.2 j hj⟩),
    zK0_fgt h0 (fun s hs => (h1.2.2.2.1 s hs).1.1) (fun s hs => (h1.2.2.2.2.1 s hs).1.1) f g1 (fun c d r => g2 c d (by omega) (by omega) (by omega)) hT⟩
theorem zK_flo (h : zK ξ μ row stkC stk ord Rs ts us) (hk : k < 10) : zd_flo ξ k = true ↔ ¬ μ 234 k = 0 ∧ ¬ μ 234 k = 1 := by
  obtain ⟨q1, q2, q3⟩ := zK_kind h hk
  rw [← q3, ← q1]
  constructor
  · intro z
    obtain ⟨a, b⟩ := of_decide_eq_true z
    exact ⟨decide_eq_true a, fun w => b (of_decide_eq_true w).2⟩
  · rintro ⟨a, b⟩
    exact decide_eq_true ⟨of_decide_eq_true a, fun w => b (decide_eq_true ⟨of_decide_eq_true a, w⟩)⟩
/-- kept with the window, on both sides -/
theorem zK_has (h : zK ξ μ row stkC stk ord Rs ts us) (hs : s < 3) (hk : k < 10) : (¬ μ 251 s = 0 ∧ ¬ μ 252 (10 * s + k) = 0) ↔ zd_has ξ s k = true := by
  obtain ⟨-, -, -, -, -, -, -, h7⟩ := h
  obtain ⟨k1, k2⟩ := h7 s hs
  constructor
  · rintro ⟨a, b⟩
    exact ((k2 (fun z => a (k1.mpr z))).1 k hk).mp b
  · intro z
    have c : ¬ ξ (zdK s) 3 = 0 := (of_decide_eq_true z).1
    exact ⟨fun w => c (k1.mp w), ((k2 c).1 k hk).mpr z⟩
theorem zK_mov (h : zK ξ μ row stkC stk ord Rs ts us) {w x y : Int32} (f : zd_mov ξ ξ' w x y) (g : zv_mov μ μ' w x y) : zK ξ' μ' row stkC stk ord Rs ts us := by
  rcases f with ⟨f1, rfl⟩ | ⟨k, ξ1, hk, rfl, hf, hr, f1, f2⟩
  · rcases g with ⟨-, rfl⟩ | ⟨k, μ1, hk, rfl, hf, hr, -⟩
    · exact h
    · exact absurd ⟨k, hk, rfl, (zK_flo h hk).mpr hf, hr⟩ f1
  · rcases g with ⟨g1, -⟩ | ⟨k', μ1, hk', e, -, -, g1, rfl⟩
    · exact absurd ⟨k, hk, rfl, (zK_flo h hk).mp hf, hr⟩ g1
    · have e := (nI_eq (by omega) (by omega)).mp e
      subst e
      have h1 : zK ξ1 (zv_fg μ1 k) row stkC stk ord Rs ts us := zK_fgt h f1 (fun s hs => by
        rw [zv_fg_at hs, g1 251 s (by decide) (by decide), g1 252 _ (by decide) (by decide), ← zK_has h hs hk]
        by_cases c : ¬ μ 251 s = 0 ∧ ¬ μ 252 (10 * s + k) = 0
        · rw [if_pos c]
          exact ⟨fun _ => Or.inr c, fun _ => rfl⟩
        · rw [if_neg c]
          exact ⟨fun z => Or.inl z, fun z => z.resolve_right c⟩) (fun c d r1 r2 r3 => (zv_fg_ne r3).trans (g1 c d r1 r2))
      exact h1.scr f2 zM_fr.refl
end ZKF
