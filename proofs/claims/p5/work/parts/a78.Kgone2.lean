section
/-! side by side: gone -/
section ZKU
variable {ξ μ ν ξ' μ' ξ2 θ θ2 : zm_M} {row stkC stk ord : List Nat} {Rs Rs' : Nat → List Nat} {ts ts' us : Nat → zy_F} {W : List Nat} {u2 t2 : zy_F} {s o k j : Nat} {emp : Bool} {n0 n1 : Nat}
/-- on a screen, on both sides -/
theorem zK_on (h : zK ξ μ row stkC stk ord Rs ts us) (hk : k < 10) : zd_on ξ (nI s) k = zv_ons μ s k ∧ zd_loose ξ (nI s) k = zv_on μ k (nI s) := by
  have hR := zK_R h
  obtain ⟨-, -, q3⟩ := zK_kind h hk
  cases c : zd_th ξ k with
  | false =>
    have e0 := (h.2.2.1.1 k hk).1 c
    have c' : ¬ ¬ ξ (zdW k) 2 = 0 := fun z => by
      have : zd_th ξ k = true := decide_eq_true z
      rw [c] at this
      cases this
    unfold zd_on zv_ons zd_loose zv_on
    rw [decide_eq_decide, decide_eq_decide, e0]
    exact ⟨⟨fun z => absurd z.1 c', fun z => absurd z.1 (by decide)⟩, ⟨fun z => absurd z.1 c', fun z => absurd z.1 (by decide)⟩⟩
  | true =>
    obtain ⟨e1, -, -, e4⟩ := (h.2.2.1.1 k hk).2 c
    have c' := of_decide_eq_true c
    have k4 := (h.1.2.2.1 k hk c).1
    have p0 : 0 < μ 234 k := by
      rw [e1]
      rcases k4 with z | z | z | z <;> rw [z] <;> decide
    have p1 : 1 < μ 234 k ↔ ¬ ξ (zdW k) 3 = 1 := by
      rw [e1]
      rcases k4 with z | z | z | z <;> rw [z] <;> decide
    unfold zd_on zv_ons zd_loose zv_on
    rw [decide_eq_decide, decide_eq_decide, p1]
    refine ⟨⟨fun z => ⟨p0, by rw [e1]; exact z.2.1, (e4 z.2.1).trans z.2.2⟩, fun z => ?_⟩, ⟨fun z => ⟨z.2.2.2, by rw [e1]; exact z.2.1, (e4 z.2.1).trans z.2.2.1⟩, fun z => ?_⟩⟩
    · have z1 : ¬ ξ (zdW k) 3 = 4 := by rw [← e1]; exact z.2.1
      exact ⟨c', z1, (e4 z1).symm.trans z.2.2⟩
    · have z1 : ¬ ξ (zdW k) 3 = 4 := by rw [← e1]; exact z.2.1
      exact ⟨c', z1, (e4 z1).symm.trans z.2.2, z.1⟩
theorem zK_lso (h : zK ξ μ row stkC stk ord Rs ts us) : zd_lsb ξ (nI s) = zv_lso μ s := by
  unfold zd_lsb zv_lso
  refine zl_fi_congr 3 0 (fun j _ hj => ?_)
  rw [decide_eq_decide, ← zK_scn h (by omega : j < 3)]
/-- the trees behind a screen that goes -/
noncomputable def zv_goU (us : Nat → zy_F) (s o : Nat) (u2 : zy_F) : Nat → zy_F := fun q => if q = o then u2 else if q = s then .nil else if q = 3 + s then us s else us q
theorem zK0_gne (h : zK ξ μ row stkC stk ord Rs ts us) (hs : s < 3) (ho : o < 3) (hso : s ≠ o) (hW : W = (zy_lvs (ts s)).flatMap (zt_tb ξ (zdT s) (Rs s))) (hC2 : zt_C ξ2 7 (Rs o ++ W) t2) (hz2 : zs ξ2 7 (Rs o ++ W) t2 θ2 6 u2)
    (f : ∀ c d, ¬ zJ_irr c → zt_out (zdT s) c → zt_out (zdT o) c → zt_out (zdV s) c → c ≠ zdQ s → ¬ (c = zdK s ∧ d = 3) → ¬ (c = zdS s ∧ d = 3) → (∀ j, j < 10 → c = zdW j → d ≠ 5) → ξ' c d = ξ c d) (fS : ξ' (zdS s) 3 = 0) (fK : ξ' (zdK s) 3 = (if 0 < zl_ct (zd_on ξ (nI s)) 10 then 1 else 0)) (f5 : ∀ j, j < 10 → ξ' (zdW j) 5 = if zd_on ξ (nI s) j = true then nI o else ξ (zdW j) 5) (fQ : ∀ j, j < 10 → ξ' (zdQ s) j = if zd_loose ξ (nI s) j = true then 1 else 0) (fV : zt_isCopy ξ (zdT s) ξ' (zdV s)) (fC : zt_isCopy ξ2 7 ξ' (zdT o)) (g : zv_gne μ θ2 μ' s o (W.length + zl_ct (fun k => zv_on μ k (nI s)) 10)) : zK0 ξ' μ' ord (zd_goR Rs s o (Rs o ++ W)) (zd_goT ts s o t2) (zv_goU us s o u2) := by
  have hK := h
  obtain ⟨h1, h4, h2, h3, h5, h6, h7⟩ := h
  obtain ⟨g3, go, gs, g251, g252, g238, ⟨gz1, gz2⟩, g⟩ := g
  have hon : ∀ k, k < 10 → zd_on ξ (nI s) k = zv_ons μ s k := fun k hk => (zK_on hK hk).1
  have hlo : ∀ k, k < 10 → zd_loose ξ (nI s) k = zv_on μ k (nI s) := fun k hk => (zK_on hK hk).2
  have oW : ∀ j, j < 10 → (∀ q, q < 3 → zt_out (zdT q) (zdW j) ∧ zt_out (zdT q) (zdW j + 1)) ∧ zt_out (zdV s) (zdW j) ∧ zt_out (zdV s) (zdW j + 1) := fun j hj => ⟨fun q hq => ⟨by unfold zt_out zdT zdW; omega, by unfold zt_out zdT zdW; omega⟩, by unfold zt_out zdV zdW; omega, by unfold zt_out zdV zdW; omega⟩
  have eW : ∀ j d, j < 10 → d ≠ 5 → ξ' (zdW j) d = ξ (zdW j) d := fun j d hj hd => f _ _ (zJn_W hj).1 ((oW j hj).1 s hs).1 ((oW j hj).1 o ho).1 (oW j hj).2.1 (by unfold zdW zdQ; omega) (by unfold zdW zdK; omega) (by unfold zdW zdS; omega) (fun _ _ _ => hd)
  have eL : ∀ j, j < 10 → ξ' (zdW j + 1) = ξ (zdW j + 1) := fun j hj => funext fun d => f _ _ (zJn_W hj).2 ((oW j hj).1 s hs).2 ((oW j hj).1 o ho).2 (oW j hj).2.2 (by unfold zdW zdQ; omega) (by unfold zdW zdK; omega) (by unfold zdW zdS; omega) (fun i hi e => by unfold zdW at e; omega)
  have eS : ∀ q, q < 3 → q ≠ s → ξ' (zdS q) = ξ (zdS q) ∧ ξ' (zdK q) = ξ (zdK q) ∧ ξ' (zdQ q) = ξ (zdQ q) := fun q hq hne => ⟨funext fun d => f _ _ (zJn_S hq).1 (by unfold zt_out zdT zdS; omega) (by unfold zt_out zdT zdS; omega) (by unfold zt_out zdV zdS; omega) (by unfold zdS zdQ; omega) (by unfold zdS zdK; omega) (by unfold zdS; omega) (fun i hi e => by unfold zdS zdW at e; omega),
    funext fun d => f _ _ (zJn_S hq).2.2.1 (by unfold zt_out zdT zdK; omega) (by unfold zt_out zdT zdK; omega) (by unfold zt_out zdV zdK; omega) (by unfold zdK zdQ; omega) (by unfold zdK; omega) (by unfold zdK zdS; omega) (fun i hi e => by unfold zdK zdW at e; omega),
    funext fun d => f _ _ (zJn_S hq).2.2.2 (by unfold zt_out zdT zdQ; omega) (by unfold zt_out zdT zdQ; omega) (by unfold zt_out zdV zdQ; omega) (by unfold zdQ; omega) (by unfold zdQ zdK; omega) (by unfold zdQ zdS; omega) (fun i hi e => by unfold zdQ zdW at e; omega)⟩
  have eZ : ∀ q, q < 3 → ξ' (zdZ q) = ξ (zdZ q) := fun q hq => funext fun d => f _ _ (zJn_S hq).2.1 (by unfold zt_out zdT zdZ; omega) (by unfold zt_out zdT zdZ; omega) (by unfold zt_out zdV zdZ; omega) (by unfold zdZ zdQ; omega) (by unfold zdZ zdK; omega) (by unfold zdZ zdS; omega) (fun i hi e => by unfold zdZ zdW at e; omega)
  have eV : ∀ q, q < 3 → q ≠ s → ∀ j, j < 19 → ξ' (zdV q + j) = ξ (zdV q + j) := fun q hq hne j hj => funext fun d => f _ _ (zJn_T hq hj).2 (by unfold zt_out zdT zdV; omega) (by unfold zt_out zdT zdV; omega) (by unfold zt_out zdV; omega) (by unfold zdV zdQ; omega) (by unfold zdV zdK; omega) (by unfold zdV zdS; omega) (fun i hi e => by unfold zdV zdW at e; omega)
  have eT : ∀ q, q < 3 → q ≠ s → q ≠ o → ∀ j, j < 19 → ξ' (zdT q + j) = ξ (zdT q + j) := fun q hq n1 n2 j hj => funext fun d => f _ _ (zJn_T hq hj).1 (by unfold zt_out zdT; omega) (by unfold zt_out zdT; omega) (by unfold zt_out zdV zdT; omega) (by unfold zdT zdQ; omega) (by unfold zdT zdK; omega) (by unfold zdT zdS; omega) (fun i hi e => by unfold zdT zdW at e; omega)
  have th : ∀ j, j < 10 → zd_th ξ' j = zd_th ξ j := fun j hj => by unfold zd_th; rw [eW j 2 hj (by decide)]
  have has : ∀ q j, q < 3 → q ≠ s → zd_has ξ' q j = zd_has ξ q j := fun q j hq hne => by unfold zd_has; rw [(eS q hq hne).2.1, (eS q hq hne).2.2, eV q hq hne 3 (by decide)]
  have hI : ∀ q, q < 3 → zt_I ξ (zdT q) (Rs q) (ts q) := fun q hq => (h1.2.2.2.1 q hq).1.1
  have hV : ∀ q, q < 3 → zt_I ξ (zdV q) (Rs (3 + q)) (ts (3 + q)) := fun q hq => (h1.2.2.2.2.1 q hq).1.1
  -- what is kept of s is what was on it
  have onR : ∀ j, j < 10 → (j ∈ Rs s ↔ zd_on ξ (nI s) j = true ∧ ξ (zdW j) 3 = 1) := fun j hj => by
    rw [(h1.2.2.2.1 s hs).2.1 j]
    unfold zd_til zd_on
    rw [decide_eq_true_iff, decide_eq_true_iff]
    exact ⟨fun z => ⟨⟨z.2.1.1, by rw [z.2.1.2]; decide, z.2.2⟩, z.2.1.2⟩, fun z => ⟨hj, ⟨z.1.1, z.2⟩, z.1.2.2⟩⟩
  have kz : ξ' (zdK s) 3 = 0 ↔ ¬ 0 < zl_ct (zd_on ξ (nI s)) 10 := by
    rw [fK]
    by_cases c : 0 < zl_ct (zd_on ξ (nI s)) 10
    · rw [if_pos c]; exact ⟨fun z => absurd z (by decide), fun z => absurd c z⟩
    · rw [if_neg c]; exact ⟨fun _ => c, fun _ => rfl⟩
  have hasS : ∀ j, j < 10 → (zd_has ξ' s j = true ↔ zd_on ξ (nI s) j = true) := fun j hj => by
    unfold zd_has
    rw [decide_eq_true_iff, kz, fQ j hj, fV.1]
    have e1 : ¬ (if zd_loose ξ (nI s) j = true then (1 : Int32) else 0) = 0 ↔ zd_loose ξ (nI s) j = true := by
      by_cases c : zd_loose ξ (nI s) j = true
      · rw [if_pos c]; exact ⟨fun _ => c, fun _ => by decide⟩
      · rw [if_neg c]; exact ⟨fun z => absurd rfl z, fun z => absurd z c⟩
    have e2 : ¬ ξ (zdT s + 3) j < 0 ↔ j ∈ Rs s := by
      by_cases c : j ∈ Rs s
      · obtain ⟨n, hn, en⟩ := (hI s hs).2.2.2.1 j c
        rw [en]
        exact ⟨fun _ => c, fun _ => nI_pos (by have := (zt_I_lvn (hI s hs)).2 n hn; omega)⟩
      · rw [(hI s hs).2.2.2.2.1 j hj c]
        exact ⟨fun z => absurd (by decide) z, fun z => absurd z c⟩
    rw [e1, e2, onR j hj]
    have e3 : zd_loose ξ (nI s) j = true ↔ zd_on ξ (nI s) j = true ∧ ¬ ξ (zdW j) 3 = 1 := by
      unfold zd_loose zd_on
      rw [decide_eq_true_iff, decide_eq_true_iff]
      exact ⟨fun z => ⟨⟨z.1, z.2.1, z.2.2.1⟩, z.2.2.2⟩, fun z => ⟨z.1.1, z.1.2.1, z.1.2.2, z.2⟩⟩
    rw [e3]
    constructor
    · rintro ⟨-, z | z⟩
      · exact z.1
      · exact z.1
    · intro z
      refine ⟨fun w => w (zl_ct_pos 10 hj z), ?_⟩
      by_cases c : ξ (zdW j) 3 = 1
      · exact Or.inr ⟨z, c⟩
      · exact Or.inl ⟨z, c⟩
  have cnt : 0 < W.length + zl_ct (fun k => zv_on μ k (nI s)) 10 ↔ 0 < zl_ct (zd_on ξ (nI s)) 10 := by
    constructor
    · intro z
      by_cases c : W = []
      · rw [c] at z
        obtain ⟨j, hj, p⟩ := zl_ct_ex 10 (by simpa using z : 0 < zl_ct (fun k => zv_on μ k (nI s)) 10)
        refine zl_ct_pos 10 hj ?_
        have p' : zd_loose ξ (nI s) j = true := by rw [hlo j hj]; exact p
        exact decide_eq_true ⟨(of_decide_eq_true p').1, (of_decide_eq_true p').2.1, (of_decide_eq_true p').2.2.1⟩
      · obtain ⟨w, hw⟩ := List.exists_mem_of_ne_nil W c
        rw [hW] at hw
        obtain ⟨n, -, hwn⟩ := List.mem_flatMap.mp hw
        have hwR := (zt_tb_mem.mp hwn).1
        have hw10 := (hI s hs).1.2.2 w hwR
        exact zl_ct_pos 10 hw10 ((onR w hw10).mp hwR).1
    · intro z
      obtain ⟨j, hj, p⟩ := zl_ct_ex 10 z
      by_cases c : ξ (zdW j) 3 = 1
      · have hjR := (onR j hj).mpr ⟨p, c⟩
        obtain ⟨n, hn, en⟩ := (hI s hs).2.2.2.1 j hjR
        have : j ∈ W := by
          rw [hW]
          exact List.mem_flatMap.mpr ⟨n, hn, zt_tb_mem.mpr ⟨hjR, en⟩⟩
        have := List.length_pos_of_mem this
        omega
      · have p' : zd_loose ξ (nI s) j = true := decide_eq_true ⟨(of_decide_eq_true p).1, (of_decide_eq_true p).2.1, (of_decide_eq_true p).2.2, c⟩
        rw [hlo j hj] at p'
        have := zl_ct_pos (p := fun k => zv_on μ k (nI s)) 10 hj p'
        omega
  have gC : ∀ c d, (234 ≤ c ∧ c ≤ 237) ∨ (c = 232 ∧ d ≠ s) ∨ (c = 233 ∧ d ≠ s) ∨ (c = 251 ∧ d ≠ s) ∨ (c = 252 ∧ ¬ (10 * s ≤ d ∧ d < 10 * s + 10)) → μ' c d = μ c d := fun c d r => g c d (by omega) (by omega) (by omega) (by omega) (by omega) (by omega) (by omega) (by omega) (by omega) (zu_in_not (by omega)) (zu_in_not (by omega)) (zu_in_not (by omega)) (zu_in_not (by omega))
  have gT : ∀ q, q < 6 → q ≠ s → q ≠ o → q ≠ 3 + s → zu_eqT μ q μ' q := fun q hq n1 n2 n3 => zu_eq_in (fun c d r => g c d (fun z => zu_in_not (by omega) r) (fun z => zu_in_not (by omega) r) (fun z => zu_in_not (by omega) r) (fun z => zu_in_not (by omega) r) (fun z => zu_in_not (by omega) r) (fun z => zu_in_not (by omega) r) (fun z => zu_in_not (by omega) r) (fun z => zu_in_not (by omega) r) (fun z => zu_in_not (by omega) r) (zu_in_ne r n1) (zu_in_ne r n2) (zu_in_ne r n3) (zu_in_ne r (by omega)))
  refine ⟨⟨fun x hx => ?_, fun q hq => ?_⟩, fun x hx A B => ?_, ⟨h5.1, fun x => ?_, fun x hx A => ?_⟩, fun q hq => ?_, fun d hd => ?_, fun q hq => ?_⟩
  · rw [th x hx, gC 234 x (by omega)]
    refine ⟨(h2.1 x hx).1, fun c => ?_⟩
    obtain ⟨d1, d2, d3, d4⟩ := (h2.1 x hx).2 c
    rw [eW x 3 hx (by decide), eW x 4 hx (by decide), eL x hx, gC 235 x (by omega), gC 236 x (by omega), gC 237 x (by omega)]
    refine ⟨d1, d2, d3, fun z => ?_⟩
    rw [g238 x hx, f5 x hx, hon x hx, d4 z]
  · by_cases e : q = s
    · subst e
      exact ⟨fun _ => ⟨gz1, gz2⟩, fun z => absurd fS z⟩
    · rw [(eS q hq e).1, eZ q hq, gC 232 q (by omega), gC 233 q (by omega)]
      exact h2.2 q hq
  · rw [th x hx] at A
    rw [eW x 3 hx (by decide)] at B
    obtain ⟨p, hp, q1, q2, q3, q4⟩ := h3 x hx A B
    obtain ⟨-, -, -, w4, -⟩ := h1.2.2.1 x hx A
    obtain ⟨p', hp', -, e2, e3⟩ := w4 B
    have ep := (nI_eq (by omega) (by omega)).mp (q1.symm.trans e2)
    subst ep
    have same : zd_on ξ (nI s) x = zd_on ξ (nI s) p := by
      unfold zd_on
      rw [decide_eq_decide, q3]
      exact ⟨fun z => ⟨of_decide_eq_true e3, q2, z.2.2⟩, fun z => ⟨of_decide_eq_true A, by rw [B]; decide, z.2.2⟩⟩
    refine ⟨p, hp, by rw [eW x 4 hx (by decide)]; exact q1, by rw [eW p 3 hp (by decide)]; exact q2, by rw [f5 x hx, f5 p hp, same, q3], fun q hq z => ?_⟩
    by_cases e : q = s
    · subst e
      rw [hasS x hx, same] at z
      exact (hasS p hp).mpr z
    · rw [has q _ hq e] at z ⊢
      exact q4 q hq z
  · rw [gC 234 x (by omega)]
    exact h5.2.1 x
  · rw [gC 234 x (by omega)] at A
    rw [gC 237 x (by omega)]
    exact h5.2.2 x hx A
  · by_cases co : q = o
    · subst co
      have e1 : zd_goR Rs s q (Rs q ++ W) q = Rs q ++ W := if_pos rfl
      have e2 : zd_goT ts s q t2 q = t2 := if_pos rfl
      have e3 : zv_goU us s q u2 q = u2 := if_pos rfl
      rw [e1, e2, e3]
      exact zs_cl hC2.1 (zs_eqT hC2.1 hz2 go) fC.1 fC.2.2.2.1 fC.2.2.2.2.1 fC.2.2.2.2.2
    · by_cases cs : q = s
      · subst cs
        have e1 : zd_goR Rs q o (Rs o ++ W) q = [] := (if_neg co).trans (if_pos rfl)
        have e2 : zd_goT ts q o t2 q = .nil := (if_neg co).trans (if_pos rfl)
        have e3 : zv_goU us q o u2 q = .nil := (if_neg co).trans (if_pos rfl)
        rw [e1, e2, e3]
        exact zs_nil gs
      · have e1 : zd_goR Rs s o (Rs o ++ W) q = Rs q := (if_neg co).trans ((if_neg cs).trans (if_neg (by omega)))
        have e2 : zd_goT ts s o t2 q = ts q := (if_neg co).trans ((if_neg cs).trans (if_neg (by omega)))
        have e3 : zv_goU us s o u2 q = us q := (if_neg co).trans ((if_neg cs).trans (if_neg (by omega)))
        rw [e1, e2, e3]
        have e := eT q hq cs co
        exact zs_cl (hI q hq) (zs_eqT (hI q hq) (h6 q hq) (gT q (by omega) cs co (by omega))) (e 3 (by decide)) (e 7 (by decide)) (e 8 (by decide)) (e 12 (by decide))
  · by_cases c : 10 * s ≤ d ∧ d < 10 * s + 10
    · have := g252 (d - 10 * s) (by omega)
      rw [show 10 * s + (d - 10 * s) = d by omega] at this
      rw [this]
      by_cases c2 : zv_ons μ s (d - 10 * s) = true
      · rw [if_pos c2]; exact Or.inr rfl
      · rw [if_neg c2]; exact Or.inl rfl
    · rw [gC 252 d (by omega)]
      exact h7.1 d hd
  · by_cases cs : q = s
    · subst cs
      have e1 : zd_goR Rs q o (Rs o ++ W) (3 + q) = Rs q := (if_neg (by omega)).trans ((if_neg (by omega)).trans (if_pos rfl))
      have e2 : zd_goT ts q o t2 (3 + q) = ts q := (if_neg (by omega)).trans ((if_neg (by omega)).trans (if_pos rfl))
      have e3 : zv_goU us q o u2 (3 + q) = us q := (if_neg (by omega)).trans ((if_neg (by omega)).trans (if_pos rfl))
      rw [e1, e2, e3]
      refine ⟨?_, fun _ => ⟨fun j hj => ?_, zs_cl (hI q hq) (zs_eqT (hI q hq) (h6 q hq) g3) fV.1 fV.2.2.2.1 fV.2.2.2.2.1 fV.2.2.2.2.2⟩⟩
      · rw [kz, g251, ← cnt]
        by_cases c : 0 < W.length + zl_ct (fun k => zv_on μ k (nI q)) 10
        · rw [if_pos c]; exact ⟨fun z => absurd z (by decide), fun z => absurd c z⟩
        · rw [if_neg c]; exact ⟨fun _ => c, fun _ => rfl⟩
      · rw [hasS j hj, g252 j hj, hon j hj]
        by_cases c : zv_ons μ q j = true
        · rw [if_pos c]; exact ⟨fun _ => c, fun _ => by decide⟩
        · rw [if_neg c]; exact ⟨fun z => absurd rfl z, fun z => absurd z c⟩
    · have e1 : zd_goR Rs s o (Rs o ++ W) (3 + q) = Rs (3 + q) := (if_neg (by omega)).trans ((if_neg (by omega)).trans (if_neg (by omega)))
      have e2 : zd_goT ts s o t2 (3 + q) = ts (3 + q) := (if_neg (by omega)).trans ((if_neg (by omega)).trans (if_neg (by omega)))
      have e3 : zv_goU us s o u2 (3 + q) = us (3 + q) := (if_neg (by omega)).trans ((if_neg (by omega)).trans (if_neg (by omega)))
      rw [e1, e2, e3, gC 251 q (by omega), (eS q hq cs).2.1]
      obtain ⟨a1, a2⟩ := h7.2 q hq
      refine ⟨a1, fun z => ?_⟩
      obtain ⟨b1, b2⟩ := a2 z
      have e := eV q hq cs
      refine ⟨fun j hj => ?_, zs_cl (hV q hq) (zs_eqT (hV q hq) b2 (gT (3 + q) (by omega) (by omega) (by omega) (by omega))) (e 3 (by decide)) (e 7 (by decide)) (e 8 (by decide)) (e 12 (by decide))⟩
      rw [gC 252 _ (by omega), has q j hq cs]
      exact b1 j hj
theorem zK_gon (h : zK ξ μ row stkC stk ord Rs ts us) {w : Int32} (hJ : zJ ξ' row stkC Rs' ts') (f : zd_gon ξ ξ' Rs Rs' ts ts' w) (g : zv_gon μ μ' us w) : ∃ us', zK ξ' μ' row stkC stk ord Rs' ts' us' := by
  have sc0 : ∀ s, s < 3 → (¬ ξ (zdS s) 3 = 0 ↔ ¬ μ 232 s = 0) := fun s hs => by
    obtain ⟨q1, q2⟩ := h.2.2.1.2 s hs
    by_cases c : ξ (zdS s) 3 = 0
    · rw [(q1 c).1]; exact ⟨fun z => absurd c z, fun z => absurd rfl z⟩
    · have := (zK_scn h hs).mp c
      exact ⟨fun _ e => by rw [e] at this; exact absurd this (by decide), fun _ => c⟩
  rcases f with ⟨f, rfl, rfl, rfl⟩ | ⟨s, o, ν2, emp, W, n0, hs, ho, hso, ew, hst, hot, hl, ft, fC2, f⟩
  · rcases g with ⟨-, rfl⟩ | ⟨s, o, emp, θ, θ2, n1, W, hs, ho, hso, ew, g1, g2, g3, -⟩
    · exact ⟨_, h⟩
    · exact (f ⟨s, o, hs, ho, ew, (sc0 s hs).mpr g1, (zK_lso h).trans g3⟩).elim
  · rcases g with ⟨z, -⟩ | ⟨s', o', emp', θ, θ2, n1, W', hs', ho', hso', ew', g1, g2, g3, g4, g5, gW, gv, gA, g⟩
    · exact (z ⟨s, o, hs, ho, ew, (sc0 s hs).mp hst, (zK_lso h).symm.trans hl⟩).elim
    · have e1 := (nI_eq (by omega) (by omega)).mp (ew'.symm.trans ew)
      subst e1
      have e2 := (nI_eq (by omega) (by omega)).mp (g3.symm.trans ((zK_lso h).symm.trans hl))
      subst e2
      obtain ⟨ν1, fr1, fc, fC1, fe, fe', fW, fA⟩ := ft
      have hI : ∀ q, q < 3 → zt_I ξ (zdT q) (Rs q) (ts q) := fun q hq => (h.1.2.2.2.1 q hq).1.1
      have hzs := h.2.2.2.2.2.1
      have eWW : W = W' := by rw [fW, gW]; exact zs_flat (hI s' hs) (hzs s' hs)
      subst eWW
      have eem : emp = emp' := by
        have hn := zs_nil_l (hI o' ho) (hzs o' ho)
        cases emp with
        | true =>
          cases emp' with
          | true => rfl
          | false =>
            have := g5 rfl
            rw [hn.mp (fe rfl).1] at this
            exact this.elim
        | false =>
          cases emp' with
          | false => rfl
          | true =>
            have := fe' rfl
            rw [hn.mpr (g4 rfl)] at this
            exact this.elim
      subst eem
      -- the trial tree
      have z1 : zs ν1 7 (Rs o') (ts o') θ 6 (us o') := by
        have za : zs ν1 7 (Rs o') (ts o') (zu_cq μ o' 6 24 240) 6 (us o') := zs_cl (hI o' ho) (zs_eqT (hI o' ho) (hzs o' ho) zu_cq_eqT) fc.1 fc.2.2.2.1 fc.2.2.2.2.1 fc.2.2.2.2.2
        exact zs_eqT fC1.1 za (zu_eq_in (fun c d r => gv c d (fun z => zu_in_not (by omega) r) (fun z => zu_in_not (by omega) r)))
      have z2 := zs_AD fC1.1 z1 fe fe' fA gA fC2
      have f2 : ∀ c d, ¬ (c = 231 ∧ d = 30) → c ≠ 259 → ¬ zu_in 6 c d → θ2 c d = μ c d := fun c d r1 r2 r3 => (gA.2.1 c d r3).trans ((gv c d r1 r2).trans (zu_cq_out r3))
      have hsz : zs_sz ν2 7 (Rs o' ++ W) θ2 := fun a ha w hw => by
        rw [f2 _ _ (by omega) (by omega) (zu_in_not (by omega))]
        obtain ⟨m0, -, fr2, -, -, f5, f6, -⟩ := fA
        have key : μ (235 + a) w = if w ∈ W then ν1 (zdT s' + 5 + a) w else ν1 (7 + 5 + a) w := by
          by_cases c : w ∈ W
          · rw [if_pos c]
            have hwR : w ∈ Rs s' := by
              rw [fW] at c
              obtain ⟨n, -, hwn⟩ := List.mem_flatMap.mp c
              exact (zt_tb_mem.mp hwn).1
            rw [fr1 _ (by unfold zt_out zdT; omega)]
            exact zK_sz h hs a ha w hwR
          · rw [if_neg c]
            have hwR : w ∈ Rs o' := (List.mem_append.mp hw).resolve_right c
            rw [zK_sz h ho a ha w hwR]
            rcases (by omega : a = 0 ∨ a = 1) with rfl | rfl
            · exact (congrFun fc.2.1 w).symm
            · exact (congrFun fc.2.2.1 w).symm
        rw [key]
        rcases (by omega : a = 0 ∨ a = 1) with rfl | rfl
        · exact (f5 w).symm
        · exact (f6 w).symm
      have fr2 : zt_frT 7 ξ ν2 := by
        obtain ⟨m0, -, fr2, -⟩ := fA
        exact fr1.trans fr2
      obtain ⟨s0, s1⟩ := (h.2.2.1.2 o' ho).2 hot
      have hfit : zt_fit ν2 7 (zdZ o') (Rs o' ++ W) (zy_ad emp (ts o') W n0) = zu_fit θ2 6 (zy_ad emp (us o') W n1) (μ 232 o') (μ 233 o') := zs_fit fC2.1 z2 hsz (by rw [fr2 _ (by unfold zt_out zdZ; omega)]; exact s0.symm) (by rw [fr2 _ (by unfold zt_out zdZ; omega)]; exact s1.symm)
      have hrm : zl_al (zd_lwf ξ (nI s') (zdZ o')) 10 = true ↔ ∀ j, j < 10 → zv_grm μ s' o' j = true := by
        rw [zl_al_iff]
        refine forall_congr' fun j => imp_congr_right fun hj => ?_
        unfold zd_lwf zv_grm
        rw [(zK_on h hj).2]
        cases c : zv_on μ j (nI s') with
        | false => exact ⟨fun _ => rfl, fun _ => rfl⟩
        | true =>
          have t : zd_th ξ j = true := by
            have : zd_loose ξ (nI s') j = true := by rw [(zK_on h hj).2]; exact c
            exact decide_eq_true (of_decide_eq_true this).1
          obtain ⟨-, ⟨e5, e6⟩, -⟩ := (h.2.2.1.1 j hj).2 t
          have ew : zd_whole ξ (zdZ o') j = decide (μ 235 j ≤ μ 232 o' ∧ μ 236 j ≤ μ 233 o') := by
            unfold zd_whole
            rw [e5, e6, s0, s1]
          rw [ew]
      have hgood : zv_gd (zv_grm μ s' o') (zu_fit θ2 6 (zy_ad emp (us o') W n1) (μ 232 o') (μ 233 o')) 10 = true ↔ (zt_fit ν2 7 (zdZ o') (Rs o' ++ W) (zy_ad emp (ts o') W n0) = true ∧ zl_al (zd_lwf ξ (nI s') (zdZ o')) 10 = true) := by
        rw [zv_gd_iff, hrm, hfit]
      rcases f with ⟨f, feq, rfl, rfl⟩ | ⟨f, rfl, rfl, f1, f2', f3, f4, f5, f6, f7⟩
      · rcases g with ⟨-, rfl⟩ | ⟨g, -⟩
        · exact ⟨_, h.scr6 feq (fun c d r1 _ _ r r6 => f2 c d r1 (by omega) r6)⟩
        · obtain ⟨q1, q2⟩ := hgood.mp g
          rcases f with f | f
          · rw [f] at q1; cases q1
          · rw [f] at q2; cases q2
      · rcases g with ⟨g, -⟩ | ⟨-, g⟩
        · rw [hgood.mpr f] at g
          cases g
        · have h0 := zK0_gne h hs ho hso fW fC2 z2 f1 f2' f3 f4 f5 f6 f7 g
          have eW : ∀ j d, j < 10 → d ≠ 5 → ξ' (zdW j) d = ξ (zdW j) d := fun j d hj hd => f1 _ _ (zJn_W hj).1 (by unfold zt_out zdT zdW; omega) (by unfold zt_out zdT zdW; omega) (by unfold zt_out zdV zdW; omega) (by unfold zdW zdQ; omega) (by unfold zdW zdK; omega) (by unfold zdW zdS; omega) (fun _ _ _ => hd)
          have gL : ∀ c d, (c = 231 ∧ d ≠ 30) ∨ c = 241 ∨ c = 242 → μ' c d = μ c d := fun c d r => g.2.2.2.2.2.2.2 c d (by omega) (by omega) (by omega) (by omega) (by omega) (by omega) (by omega) (by omega) (by omega) (zu_in_not (by omega)) (zu_in_not (by omega)) (zu_in_not (by omega)) (zu_in_not (by omega))
          obtain ⟨r1, r2, r3, r4⟩ := h.2.1
          refine ⟨_, hJ, ⟨⟨r1.1, (gL _ _ (by omega)).trans r1.2.1, fun j hj => (gL _ _ (by omega)).trans (r1.2.2 j hj)⟩, ⟨r2.1, (gL _ _ (by omega)).trans r2.2.1, fun j hj => (gL _ _ (by omega)).trans (r2.2.2 j hj)⟩, r3, fun x => ?_⟩, h0⟩
          rw [r4 x]
          refine and_congr_right fun hx => ?_
          unfold zd_flo
          rw [eW x 2 hx (by decide), eW x 3 hx (by decide)]
end ZKU
end
section
/-! the desk: a screen comes, with all that is done -/
section ZSE
variable {μ ν : zm_M} {row stk : List Nat} {Rs : Nat → List Nat} {ts : Nat → zy_F}
noncomputable def zd_scn2 (μ ν : zm_M) (Rs Rs' : Nat → List Nat) (ts ts' : Nat → zy_F) (s : Nat) (x y : Int32) : Prop :=
  ∃ ξ ν1, zd_new μ ξ s x y ∧ ν = zm_up ν1 (zdK s) 3 0 ∧ (((ξ (zdK s) 3 = 0 ∨ zt_fit ξ (zdV s) (zdZ s) (Rs (3 + s)) (ts (3 + s)) = false ∨ zl_al (zd_gwf ξ (zd_bgr ξ s) (zdZ s)) 10 = false) ∧ (∀ c, c ≠ 31 → ν1 c = ξ c) ∧ Rs' = Rs ∧ ts' = ts) ∨
    ((¬ ξ (zdK s) 3 = 0 ∧ zt_fit ξ (zdV s) (zdZ s) (Rs (3 + s)) (ts (3 + s)) = true ∧ zl_al (zd_gwf ξ (zd_bgr ξ s) (zdZ s)) 10 = true) ∧ ∃ ν2 ν3 Rs1 ts1, (∀ c, c ≠ 31 → ν2 c = ξ c) ∧ zd_tbk ν2 ν3 Rs ts (zd_has ξ s) 10 Rs1 ts1 ∧
      (∀ c d, ¬ zJ_irr c → (∀ q, q < 3 → zt_out (zdT q) c) → (∀ q, q < 3 → c = zdK q → d ≠ 3) → (∀ j, j < 10 → c = zdW j → d ≠ 5) → ν1 c d = ξ c d) ∧ (∀ q, q < 3 → ν1 (zdK q) 3 = if zd_hasg ξ (zd_bgr ξ s) 10 q = true then 0 else ξ (zdK q) 3) ∧
      (∀ j, j < 10 → ν1 (zdW j) 5 = if zd_bgr ξ s j = true then nI s else ξ (zdW j) 5) ∧ (∀ q, q < 3 → q ≠ s → ∀ j, j < 24 → ν1 (zdT q + j) = ν3 (zdT q + j)) ∧ zt_C ν1 (zdT s) (Rs (3 + s)) (ts (3 + s)) ∧ zt_isCopy ξ (zdV s) ν1 (zdT s) ∧ Rs' = zd_upd Rs1 s (Rs (3 + s)) ∧ ts' = zd_upd ts1 s (ts (3 + s))))
set_option maxRecDepth 100000 in
theorem ze_screen_3 (D : Nat) (h : zJ μ row stk Rs ts) {w x y : Int32} {s : Nat} (ha : zd_sarg w x y s) (hst : μ (zdS s) 3 = 0) : ∃ ν r Rs' ts', ze_E (D + 8) A_Desk_screen [.ref 1, .int w, .int x, .int y] (zm_mk μ) (some (.int r)) (zm_mk ν) ∧ zJ ν row stk Rs' ts' ∧ zd_scn2 μ ν Rs Rs' ts ts' s x y := by
  rcases ze_screen_0 (μ := μ) (D + 6) w x y with ⟨hno, -⟩ | ⟨s', ha', S0⟩
  · exact absurd ⟨s, ha⟩ hno
  obtain ⟨hs, rfl, hx, hy⟩ := ha
  have es : s' = s := (nI_eq (by have := ha'.1; omega) (by omega)).mp ha'.2.1.symm
  subst es
  let ξ0 := zm_up (zm_up μ 32 0 x) 32 1 y
  have S0 : ze_S (D + 7) 6 (some .int) zc_X5_screen 0 [(0, .ref 1), (1, .int (nI s')), (2, .int x), (3, .int y)] [] (zm_mk μ) 46 [(4, .ref (zdS s' + 1)), (0, .ref 1), (1, .int (nI s')), (2, .int x), (3, .int y)] [] (zm_mk ξ0) := S0
  have r0 : ∀ c, c ≠ 32 → ξ0 c = μ c := fun c hc => (zm_up_row hc).trans (zm_up_row hc)
  have x0 : ξ0 32 0 = x := (zm_up_ne (by decide)).trans zm_up_eq
  have x1 : ξ0 32 1 = y := zm_up_eq
  let ξ1 := zm_up ξ0 (zdS s') 3 1
  have q0 : ξ1 32 0 = x := (zm_up_ne (by unfold zdS; omega)).trans x0
  have q1 : ξ1 32 1 = y := (zm_up_ne (by unfold zdS; omega)).trans x1
  obtain ⟨N1, E1⟩ := ze_setSize (μ := ξ1) (D + 6) hs
  rw [q0, q1] at E1
  let ξ := zm_up (zm_up ξ1 (zdZ s') 0 x) (zdZ s') 1 y
  have mξ : zm_up (zm_up ξ1 (zdZ s') 0 x) (zdZ s') 1 y = ξ := rfl
  rw [mξ] at E1
  have hn : zd_new μ ξ s' x y := by
    refine ⟨fun c d a1 a2 a3 => ?_, ?_, (zm_up_ne (by omega)).trans zm_up_eq, zm_up_eq⟩
    · show zm_up _ _ _ _ _ _ = _
      rw [zm_up_ne (fun e => a2 e.1), zm_up_ne (fun e => a2 e.1)]
      show zm_up _ _ _ _ _ _ = _
      rw [zm_up_ne a3, r0 c a1]
    · show zm_up _ _ _ _ _ _ = _
      rw [zm_up_ne (by unfold zdS zdZ; omega), zm_up_ne (by unfold zdS zdZ; omega)]
      exact zm_up_eq
  have rξ : ∀ c, c ≠ 32 → c ≠ zdZ s' → c ≠ zdS s' → ξ c = μ c := fun c a1 a2 a3 => funext fun d => hn.1 c d a1 a2 (fun e => a3 e.1)
  have tξ : ∀ q, q < 3 → ∀ j, j < 24 → ξ (zdT q + j) = μ (zdT q + j) := fun q hq j hj => rξ _ (by unfold zdT; omega) (by unfold zdT zdZ; omega) (by unfold zdT zdS; omega)
  have wξ : ∀ j, j < 10 → ξ (zdW j) = μ (zdW j) := fun j hj => rξ _ (by unfold zdW; omega) (by unfold zdW zdZ; omega) (by unfold zdW zdS; omega)
  have tilξ : ∀ j, j < 10 → zd_til ξ j = zd_til μ j := fun j hj => by unfold zd_til; rw [wξ j hj]
  have mem : ∀ q, q < 3 → ∀ j, j ∈ Rs q ↔ (j < 10 ∧ zd_til μ j = true ∧ μ (zdW j) 5 = nI q) := fun q hq => (h.2.2.2.1 q hq).2.1
  obtain ⟨ν1, r, ⟨N2, E2⟩, hb⟩ := ze_bringBack (μ := ξ) (Rs := Rs) (ts := ts) D hs (fun q hq => zt_C_19 (fun j hj => tξ q hq j (by omega)) (h.2.2.2.1 q hq).1) (zt_C_19 (fun j hj => rξ _ (by unfold zdV; omega) (by unfold zdV zdZ; omega) (by unfold zdV zdS; omega)) (h.2.2.2.2.1 s' hs).1) (fun j hj q => by
      rw [tilξ j hj] at q
      obtain ⟨p, hp, e, hR, -⟩ := zJ_til h hj q
      exact ⟨p, hp, by rw [wξ j hj]; exact e, hR⟩) (fun q p j hq hp a b => (nI_eq (by omega) (by omega)).mp (((mem q hq j).mp a).2.2.symm.trans ((mem p hp j).mp b).2.2)) (fun q hq u hu a ha => by
      rw [show ξ (zdT q + 5 + a) = μ (zdT q + 5 + a) by rw [Nat.add_assoc]; exact tξ q hq (5 + a) (by omega)]
      exact zJ_sm h hq u hu a ha) (fun q j hq hj => by
      obtain ⟨a, b, -⟩ := (mem q hq j).mp hj
      rw [tilξ j a]
      exact b)
  have hst' : ξ0 (zdS s') 3 = 0 := by rw [r0 _ (by unfold zdS; omega)]; exact hst
  obtain ⟨N3, E3⟩ := ze_forget (μ := ν1) (D + 6) hs
  have cs1 : (zm_mk ξ1)[zdS s']? = some (2, [.ref (zdZ s' + 1), .ref (zdT s' + 1), .ref (zdK s' + 1), .int (ξ1 (zdS s') 3)]) := zm_get (zdS_h hs)
  have ck := zdK_c (μ := ν1) hs
  have m1 : zm_up ξ0 (zdS s') 3 1 = ξ1 := rfl
  have E : ze_E (D + 8) A_Desk_screen [.ref 1, .int (nI s'), .int x, .int y] (zm_mk μ) (some (.int r)) (zm_mk (zm_up ν1 (zdK s') 3 0)) := by
    refine ze_in [(0, .ref 1), (1, .int (nI s')), (2, .int x), (3, .int y)] zq_Desk_screen (Nat.le_of_ble_eq_true rfl) rfl (S0.end ⟨N1 + N2 + N3, 19, fun F n hF => ?_⟩)
    simp [zg_0, zg_aaload, zg_aload, zg_aload_n, zg_astore, zg_getfield, zg_iastore, zg_iconst, zg_ifCond, zg_iload, zg_iload_n, zg_invokestatic, zg_invokevirtual, zg_ireturn, zg_istore, zg_ldc, zg_putfield, zf_X5_screen, zi_ld, zi_lda, zi_cmp, zi_retOk, zi_isI, zi_f3, zi_cr, zi_ci, zi_cn, zi_get, zi_set, zdS_g hs, hst', zdS_p3 hs (Or.inr rfl), m1, zd_g, zq_Scr_setSize, cs1, E1 F (by omega), zq_Desk_bringBack, zd_c, E2 F (by omega), zq_Kept_forget, ck, E3 F (by omega)]
  rcases id hb with ⟨hc, f⟩ | ⟨⟨k1, k2, k3⟩, ν2, ν3, Rs1, ts1, f2, hB, ff, fK, f5, fT, hC, hcp⟩
  · exact ⟨_, r, Rs, ts, E, zJ_scn_0 h hs hst hx hy hn f, ξ, ν1, hn, rfl, Or.inl ⟨hc, f, rfl, rfl⟩⟩
  · exact ⟨_, r, _, _, E, zJ_scn_1 h hs hst hx hy hn k1 k2 f2 hB ff fK f5 fT hC hcp, ξ, ν1, hn, rfl, Or.inr ⟨⟨k1, k2, k3⟩, ν2, ν3, Rs1, ts1, f2, hB, ff, fK, f5, fT, hC, hcp, rfl, rfl⟩⟩
end ZSE
end
section
/-! side by side: a screen that is there gets another size -/
section ZKV
variable {ξ μ ν ξ' μ' : zm_M} {row stkC stk ord : List Nat} {Rs Rs' : Nat → List Nat} {ts ts' us : Nat → zy_F} {s : Nat} {w x y : Int32}
theorem zK_sno (h : zK ξ μ row stkC stk ord Rs ts us) (hno : ¬ ∃ s, zd_sarg w x y s) (g : zv_scr μ μ' us w x y) : zK ξ μ' row stkC stk ord Rs ts us := by
  rcases g with ⟨-, rfl⟩ | ⟨s, ha, -⟩
  · exact h
  · exact (hno ⟨s, ha⟩).elim
theorem zK_sc0 (h : zK ξ μ row stkC stk ord Rs ts us) (hs : s < 3) : ¬ ξ (zdS s) 3 = 0 ↔ ¬ μ 232 s = 0 := by
  obtain ⟨q1, q2⟩ := h.2.2.1.2 s hs
  by_cases c : ξ (zdS s) 3 = 0
  · rw [(q1 c).1]; exact ⟨fun z => absurd c z, fun z => absurd rfl z⟩
  · have := (zK_scn h hs).mp c
    exact ⟨fun _ e => by rw [e] at this; exact absurd this (by decide), fun _ => c⟩
theorem zK_rsz (h : zK ξ μ row stkC stk ord Rs ts us) (ha : zd_sarg w x y s) (hst : ¬ ξ (zdS s) 3 = 0) (hJ : zJ ξ' row stkC Rs ts) (f : zd_rsz ξ ξ' Rs ts s x y) (g : zv_scr μ μ' us w x y) : zK ξ' μ' row stkC stk ord Rs ts us := by
  obtain ⟨hs, ew, hx, hy⟩ := ha
  rcases g with ⟨z, -⟩ | ⟨s', ⟨hs', ew', -⟩, g⟩
  · exact (z ⟨s, hs, ew, hx, hy⟩).elim
  · have es := (nI_eq (by omega) (by omega)).mp (ew'.symm.trans ew)
    subst es
    rcases g with ⟨-, g⟩ | ⟨z, -⟩
    · obtain ⟨ξa, fe, x0, x1, f⟩ := f
      have eT : ∀ q, q < 3 → ∀ j, j < 19 → ξa (zdT q + j) = ξ (zdT q + j) := fun q hq j hj => fe _ (zJn_T hq hj).1
      have hI := (h.1.2.2.2.1 s' hs).1.1
      have hIa := (zt_C_19 (eT s' hs) (h.1.2.2.2.1 s' hs).1).1
      have za : zs ξa (zdT s') (Rs s') (ts s') μ s' (us s') := zs_cl hI (h.2.2.2.2.2.1 s' hs) (eT s' hs 3 (by decide)) (eT s' hs 7 (by decide)) (eT s' hs 8 (by decide)) (eT s' hs 12 (by decide))
      have hsz : zs_sz ξa (zdT s') (Rs s') μ := fun a ha w hw => by
        rw [zK_sz h hs a ha w hw, Nat.add_assoc, eT s' hs (5 + a) (by omega)]
      have hfit := zs_fit hIa za hsz x0 x1
      have hrm : zl_al (zd_lwf ξa (nI s') 32) 10 = true ↔ ∀ j, j < 10 → zv_srm μ s' x y j = true := by
        rw [zl_al_iff]
        refine forall_congr' fun j => imp_congr_right fun hj => ?_
        have eW : ξa (zdW j) = ξ (zdW j) := fe _ (zJn_W hj).1
        have eL : ξa (zdW j + 1) = ξ (zdW j + 1) := fe _ (zJn_W hj).2
        have el : zd_loose ξa (nI s') j = zd_loose ξ (nI s') j := by unfold zd_loose; rw [eW]
        unfold zd_lwf zv_srm
        rw [el, (zK_on h hj).2]
        cases c : zv_on μ j (nI s') with
        | false => exact ⟨fun _ => rfl, fun _ => rfl⟩
        | true =>
          have t : zd_th ξ j = true := by
            have : zd_loose ξ (nI s') j = true := by rw [(zK_on h hj).2]; exact c
            exact decide_eq_true (of_decide_eq_true this).1
          obtain ⟨-, ⟨e5, e6⟩, -⟩ := (h.2.2.1.1 j hj).2 t
          have ew : zd_whole ξa 32 j = decide (μ 235 j ≤ x ∧ μ 236 j ≤ y) := by
            unfold zd_whole
            rw [eL, e5, e6, x0, x1]
          rw [ew]
      have hgood : zv_gd (zv_srm μ s' x y) (zu_fit μ s' (us s') x y) 10 = true ↔ (zt_fit ξa (zdT s') 32 (Rs s') (ts s') = true ∧ zl_al (zd_lwf ξa (nI s') 32) 10 = true) := by
        rw [zv_gd_iff, hrm, hfit]
      rcases f with ⟨f, rfl⟩ | ⟨f, f1, f2, f3⟩
      · rcases g with ⟨-, rfl⟩ | ⟨g, -⟩
        · exact h.scr fe zM_fr.refl
        · obtain ⟨q1, q2⟩ := hgood.mp g
          rcases f with f | f
          · rw [f] at q1; cases q1
          · rw [f] at q2; cases q2
      · rcases g with ⟨g, -⟩ | ⟨-, ⟨g1, g2⟩, g⟩
        · rw [hgood.mpr f] at g
          cases g
        · obtain ⟨h1, ⟨r1, r2, r3, r4⟩, h2, h3, h5, h6, h7⟩ := h
          have eW : ∀ j, j < 10 → ξ' (zdW j) = ξ (zdW j) := fun j hj => f1 _ (zJn_W hj).1 (by unfold zdW zdZ; omega)
          have eL : ∀ j, j < 10 → ξ' (zdW j + 1) = ξ (zdW j + 1) := fun j hj => f1 _ (zJn_W hj).2 (by unfold zdW zdZ; omega)
          have eT : ∀ q, q < 3 → ∀ j, j < 19 → ξ' (zdT q + j) = ξ (zdT q + j) := fun q hq j hj => f1 _ (zJn_T hq hj).1 (by unfold zdT zdZ; omega)
          have eV : ∀ q, q < 3 → ∀ j, j < 19 → ξ' (zdV q + j) = ξ (zdV q + j) := fun q hq j hj => f1 _ (zJn_T hq hj).2 (by unfold zdV zdZ; omega)
          have eS : ∀ q, q < 3 → ξ' (zdS q) = ξ (zdS q) ∧ ξ' (zdK q) = ξ (zdK q) ∧ ξ' (zdQ q) = ξ (zdQ q) := fun q hq => ⟨f1 _ (zJn_S hq).1 (by unfold zdS zdZ; omega), f1 _ (zJn_S hq).2.2.1 (by unfold zdK zdZ; omega), f1 _ (zJn_S hq).2.2.2 (by unfold zdQ zdZ; omega)⟩
          have th : ∀ j, j < 10 → zd_th ξ' j = zd_th ξ j := fun j hj => by unfold zd_th; rw [eW j hj]
          have has : ∀ q j, q < 3 → zd_has ξ' q j = zd_has ξ q j := fun q j hq => by unfold zd_has; rw [(eS q hq).2.1, (eS q hq).2.2, eV q hq 3 (by decide)]
          have gC : ∀ c d, c ≠ 232 → c ≠ 233 → c ≠ 239 → c ≠ 240 → μ' c d = μ c d := fun c d a b e f => g c d e f (by omega) (by omega)
          have gT : ∀ q, zu_eqT μ q μ' q := fun q => zu_eq_in (fun c d r => gC c d (fun z => zu_in_not (by omega) r) (fun z => zu_in_not (by omega) r) (fun z => zu_in_not (by omega) r) (fun z => zu_in_not (by omega) r))
          have hI : ∀ q, q < 3 → zt_I ξ (zdT q) (Rs q) (ts q) := fun q hq => (h1.2.2.2.1 q hq).1.1
          have hV : ∀ q, q < 3 → zt_I ξ (zdV q) (Rs (3 + q)) (ts (3 + q)) := fun q hq => (h1.2.2.2.2.1 q hq).1.1
          refine ⟨hJ, ⟨⟨r1.1, (gC _ _ (by omega) (by omega) (by omega) (by omega)).trans r1.2.1, fun j hj => (gC _ _ (by omega) (by omega) (by omega) (by omega)).trans (r1.2.2 j hj)⟩, ⟨r2.1, (gC _ _ (by omega) (by omega) (by omega) (by omega)).trans r2.2.1, fun j hj => (gC _ _ (by omega) (by omega) (by omega) (by omega)).trans (r2.2.2 j hj)⟩, r3, fun z => ?_⟩, ⟨fun z hz => ?_, fun q hq => ?_⟩, fun z hz A B => ?_, ⟨h5.1, fun z => ?_, fun z hz A => ?_⟩, fun q hq => ?_, fun d hd => ?_, fun q hq => ?_⟩
          · rw [r4 z]
            refine and_congr_right fun hz => ?_
            unfold zd_flo
            rw [eW z hz]
          · rw [th z hz, eW z hz, eL z hz, gC 234 z (by omega) (by omega) (by omega) (by omega), gC 235 z (by omega) (by omega) (by omega) (by omega), gC 236 z (by omega) (by omega) (by omega) (by omega), gC 237 z (by omega) (by omega) (by omega) (by omega), gC 238 z (by omega) (by omega) (by omega) (by omega)]
            exact h2.1 z hz
          · by_cases e : q = s'
            · subst e
              rw [(eS q hq).1, g1, g2, f2, f3]
              exact ⟨fun z => absurd z hst, fun _ => ⟨rfl, rfl⟩⟩
            · have eZ : ξ' (zdZ q) = ξ (zdZ q) := f1 _ (zJn_S hq).2.1 (by unfold zdZ; omega)
              rw [(eS q hq).1, eZ, g 232 q (by decide) (by decide) (by omega) (by omega), g 233 q (by decide) (by decide) (by omega) (by omega)]
              exact h2.2 q hq
          · rw [th z hz] at A
            rw [eW z hz] at B ⊢
            obtain ⟨o, ho, q1, q2, q3, q4⟩ := h3 z hz A B
            refine ⟨o, ho, q1, by rw [eW o ho]; exact q2, by rw [eW o ho]; exact q3, fun q hq z => ?_⟩
            rw [has q _ hq] at z ⊢
            exact q4 q hq z
          · rw [gC 234 z (by omega) (by omega) (by omega) (by omega)]
            exact h5.2.1 z
          · rw [gC 234 z (by omega) (by omega) (by omega) (by omega)] at A
            rw [gC 237 z (by omega) (by omega) (by omega) (by omega)]
            exact h5.2.2 z hz A
          · exact zs_cl (hI q hq) (zs_eqT (hI q hq) (h6 q hq) (gT q)) (eT q hq 3 (by decide)) (eT q hq 7 (by decide)) (eT q hq 8 (by decide)) (eT q hq 12 (by decide))
          · rw [gC 252 d (by omega) (by omega) (by omega) (by omega)]
            exact h7.1 d hd
          · rw [gC 251 q (by omega) (by omega) (by omega) (by omega), (eS q hq).2.1]
            obtain ⟨a1, a2⟩ := h7.2 q hq
            refine ⟨a1, fun z => ?_⟩
            obtain ⟨b1, b2⟩ := a2 z
            refine ⟨fun j hj => ?_, zs_cl (hV q hq) (zs_eqT (hV q hq) b2 (gT _)) (eV q hq 3 (by decide)) (eV q hq 7 (by decide)) (eV q hq 8 (by decide)) (eV q hq 12 (by decide))⟩
            rw [gC 252 _ (by omega) (by omega) (by omega) (by omega), has q j hq]
            exact b1 j hj
    · exact ((zK_sc0 h hs).mp hst z).elim
end ZKV
end
section
/-! side by side: what comes back with a screen -/
section ZKW0
variable {dl : Nat → Bool} {ow : Nat → Nat} {g g' : Nat → Bool}
theorem zl_sp1_g (ho : ∀ j, j < 10 → dl j = true → ow j < 10) (h : ∀ j, j < 10 → g j = g' j) : ∀ n, n ≤ 10 → ∀ j, j < 10 → zl_sp1 dl ow g n j = zl_sp1 dl ow g' n j
  | 0, _, j, hj => h j hj
  | n + 1, hn, j, hj => by
    rw [zl_sp1_s, zl_sp1_s]
    have ih := zl_sp1_g ho h n (by omega)
    by_cases c : j = n
    · rw [if_pos c, if_pos c, ih n (by omega)]
      cases d : dl n with
      | false => rfl
      | true => rw [ih (ow n) (ho n (by omega) d)]
    · rw [if_neg c, if_neg c]
      exact ih j hj
theorem zl_spn_g (ho : ∀ j, j < 10 → dl j = true → ow j < 10) (h : ∀ j, j < 10 → g j = g' j) : ∀ m j, j < 10 → zl_spn dl ow g m j = zl_spn dl ow g' m j
  | 0, j, hj => h j hj
  | m + 1, j, hj => zl_sp1_g ho (zl_spn_g ho h m) 10 (Nat.le_refl _) j hj
end ZKW0
section ZKW
variable {ξ μ ν ξ' μ' ξn M : zm_M} {row stkC stk ord : List Nat} {Rs Rs' : Nat → List Nat} {ts ts' us : Nat → zy_F} {s q j i o : Nat} {w x y : Int32}
theorem zd_dl_congr (e : ∀ j, j < 10 → ξn (zdW j) = ξ (zdW j)) (hj : j < 10) : zd_dl ξn j = zd_dl ξ j ∧ zd_ow ξn j = zd_ow ξ j := by
  have eo : zd_ow ξn j = zd_ow ξ j := by unfold zd_ow; rw [e j hj]
  refine ⟨?_, eo⟩
  unfold zd_dl
  rw [decide_eq_decide, e j hj, eo]
  refine and_congr_right fun _ => and_congr_right fun ⟨a, b⟩ => ?_
  have : zd_ow ξ j < 10 := by
    have h10 : nI 10 = (10 : Int32) := by decide
    rcases zd_rng (ξ (zdW j) 4) 10 (by decide) with ⟨i, hi, c⟩ | c | c
    · unfold zd_ow
      rw [c, nI_clamp (by omega)]
      exact hi
    · exact (a c).elim
    · rw [h10] at c
      exact (b c).elim
  rw [e _ this]
/-- what is kept is there; what is kept and tiled is in the tree that is kept -/
theorem zJ_hasK (h : zJ ξ row stkC Rs ts) (hq : q < 3) (hj : j < 10) (hh : zd_has ξ q j = true) : zd_th ξ j = true ∧ (zd_til ξ j = true → j ∈ Rs (3 + q)) := by
  obtain ⟨z1, z2⟩ := of_decide_eq_true hh
  obtain ⟨a1, a2⟩ := h.2.2.2.2.1 q hq
  obtain ⟨-, b2, b3⟩ := a2 z1
  rcases z2 with z2 | z2
  · obtain ⟨c1, c2, -⟩ := b3 j hj z2
    exact ⟨c1, fun z => absurd (of_decide_eq_true z).2 c2⟩
  · by_cases c : j ∈ Rs (3 + q)
    · exact ⟨decide_eq_true (of_decide_eq_true (b2 j c).1).1, fun _ => c⟩
    · rw [a1.1.2.2.2.2.1 j hj c] at z2
      exact absurd (by decide) z2
theorem zJ_kept (h : zJ ξ row stkC Rs ts) (hq : q < 3) (hk : ¬ ξ (zdK q) 3 = 0) (hj : j ∈ Rs (3 + q)) : j < 10 ∧ zd_has ξ q j = true ∧ zd_til ξ j = true := by
  obtain ⟨a1, a2⟩ := h.2.2.2.2.1 q hq
  have h10 := a1.1.1.2.2 j hj
  obtain ⟨n, hn, en⟩ := a1.1.2.2.2.1 j hj
  exact ⟨h10, decide_eq_true ⟨hk, Or.inr (by rw [en]; exact nI_pos (by have := (zt_I_lvn a1.1).2 n hn; omega))⟩, ((a2 hk).2.1 j hj).1⟩
theorem zK_dlo (h : zK ξ μ row stkC stk ord Rs ts us) : ∀ j, j < 10 → zd_dl ξ j = true → zd_ow ξ j < 10 := fun j hj z => ((zK_dl h j hj).2 z).2.1
/-- the group that comes back is closed -/
theorem zK_bcl (h : zK ξ μ row stkC stk ord Rs ts us) (hi : i < 10) (hd : zd_dl ξ i = true) (hg : zd_bgr ξ s (zd_ow ξ i) = true) : zd_bgr ξ s i = true := by
  by_cases c : ∃ w, w < 10 ∧ zd_has ξ s w = true
  · obtain ⟨w, hw, hh⟩ := c
    exact zl_spn_cl hw hh i hi hd hg
  · have := zl_spn_min (dl := zd_dl ξ) (ow := zd_ow ξ) (g := zd_has ξ s) (X := fun j => decide (10 ≤ j)) (fun j hj hdj hX => by
      have := zK_dlo h j hj hdj
      have := of_decide_eq_true hX
      omega) (fun j hj => decide_eq_true (by
      refine Nat.le_of_not_lt fun hlt => c ⟨j, hlt, hj⟩)) 10 _ hg
    have := of_decide_eq_true this
    have := zK_dlo h i hi hd
    omega
theorem zK_bow (h : zK ξ μ row stkC stk ord Rs ts us) (hs : s < 3) (hj : j < 10) (ht : zd_th ξ j = true) (h3 : ξ (zdW j) 3 = 3) (ho : o < 10) (e : ξ (zdW j) 4 = nI o) : zd_bgr ξ s j = zd_bgr ξ s o := by
  have hd := zK_dl h
  obtain ⟨e4, -, e7, -⟩ := (h.2.2.1.1 j hj).2 ht
  have eo : zd_ow ξ j = o := by
    unfold zd_ow
    rw [e, nI_clamp (by omega)]
  have hdl : zd_dl ξ j = true := (hd j hj).1.trans (decide_eq_true (e4.trans h3))
  have a1 : zd_bgr ξ s o = true → zd_bgr ξ s j = true := fun z => zK_bcl h hj hdl (by rw [eo]; exact z)
  have a2 : zd_bgr ξ s j = true → zd_bgr ξ s o = true := fun z => by
    have key := zl_spn_min (dl := zd_dl ξ) (ow := zd_ow ξ) (g := zd_has ξ s) (X := fun i => zd_has ξ s i || (zd_dl ξ i && zd_bgr ξ s (zd_ow ξ i))) (fun i hi hdl hX => ?_) (fun i hi => by rw [hi]; rfl) 10 j z
    · rw [eo] at key
      rcases Bool.or_eq_true_iff.mp key with c | c
      · obtain ⟨o', ho', q1, -, -, q4⟩ := h.2.2.2.1 j hj ht h3
        have := (nI_eq (by omega) (by omega)).mp (q1.symm.trans e)
        subst this
        exact zl_spn_mono 10 _ (q4 s hs c)
      · exact (Bool.and_eq_true_iff.mp c).2
    · have : zd_bgr ξ s (zd_ow ξ i) = true := by
        rcases Bool.or_eq_true_iff.mp hX with c | c
        · exact zl_spn_mono 10 _ c
        · obtain ⟨c1, c2⟩ := Bool.and_eq_true_iff.mp c
          exact zK_bcl h (zK_dlo h i hi hdl) c1 c2
      rw [hdl, this]
      exact Bool.or_true _
  cases c : zd_bgr ξ s o with
  | true => exact a1 c
  | false =>
    cases c2 : zd_bgr ξ s j with
    | false => rfl
    | true => rw [a2 c2] at c; cases c
theorem zd_new_row (hs : s < 3) (hn : zd_new ξ ξn s x y) : (∀ j, j < 10 → ξn (zdW j) = ξ (zdW j) ∧ ξn (zdW j + 1) = ξ (zdW j + 1)) ∧ (∀ q, q < 3 → ∀ j, j < 24 → ξn (zdT q + j) = ξ (zdT q + j) ∧ ξn (zdV q + j) = ξ (zdV q + j)) ∧ (∀ q, q < 3 → ξn (zdK q) = ξ (zdK q) ∧ ξn (zdQ q) = ξ (zdQ q)) ∧ ∀ q, q < 3 → q ≠ s → ξn (zdS q) = ξ (zdS q) ∧ ξn (zdZ q) = ξ (zdZ q) := by
  obtain ⟨f, -⟩ := hn
  refine ⟨fun j hj => ⟨funext fun d => ?_, funext fun d => ?_⟩, fun q hq j hj => ⟨funext fun d => ?_, funext fun d => ?_⟩, fun q hq => ⟨funext fun d => ?_, funext fun d => ?_⟩, fun q hq hne => ⟨funext fun d => ?_, funext fun d => ?_⟩⟩
  · exact f _ _ (by unfold zdW; omega) (by unfold zdW zdZ; omega) (by unfold zdW zdS; omega)
  · exact f _ _ (by unfold zdW; omega) (by unfold zdW zdZ; omega) (by unfold zdW zdS; omega)
  · exact f _ _ (by unfold zdT; omega) (by unfold zdT zdZ; omega) (by unfold zdT zdS; omega)
  · exact f _ _ (by unfold zdV; omega) (by unfold zdV zdZ; omega) (by unfold zdV zdS; omega)
  · exact f _ _ (by unfold zdK; omega) (by unfold zdK zdZ; omega) (by unfold zdK zdS; omega)
  · exact f _ _ (by unfold zdQ; omega) (by unfold zdQ zdZ; omega) (by unfold zdQ zdS; omega)
  · exact f _ _ (by unfold zdS; omega) (by unfold zdS zdZ; omega) (by unfold zdS; omega)
  · exact f _ _ (by unfold zdZ; omega) (by unfold zdZ; omega) (by unfold zdZ zdS; omega)
theorem zd_new_bgr (h : zK ξ μ row stkC stk ord Rs ts us) (hs : s < 3) (hn : zd_new ξ ξn s x y) : zd_has ξn s = zd_has ξ s ∧ zd_bgr ξn s = zd_bgr ξ s := by
  obtain ⟨r1, r2, r3, r4⟩ := zd_new_row hs hn
  have e1 : zd_has ξn s = zd_has ξ s := funext fun j => by
    unfold zd_has
    rw [(r3 s hs).1, (r3 s hs).2, (r2 s hs 3 (by decide)).2]
  refine ⟨e1, ?_⟩
  unfold zd_bgr
  rw [e1]
  exact zl_spn_congr (fun n hn => ⟨(zd_dl_congr (fun j hj => (r1 j hj).1) hn).1, fun _ => (zd_dl_congr (fun j hj => (r1 j hj).1) hn).2⟩) 10
theorem zK_back (h : zK ξ μ row stkC stk ord Rs ts us) (hs : s < 3) (hk : ¬ ξ (zdK s) 3 = 0) (eM : ∀ d, M 252 d = μ 252 d) (hj : j < 10) : zd_bgr ξ s j = zv_back M (zv_dlg μ) (zv_own μ) s j := by
  unfold zd_bgr zv_back
  rw [← zK_spn h]
  refine zl_spn_g (zK_dlo h) (fun i hi => ?_) 10 j hj
  have := ((h.2.2.2.2.2.2.2 s hs).2 hk).1 i hi
  rw [eM]
  cases c : zd_has ξ s i with
  | true => exact (decide_eq_true (this.mpr c)).symm
  | false => exact (decide_eq_false (fun z => by rw [this.mp z] at c; cases c)).symm
theorem zK_bth (h : zK ξ μ row stkC stk ord Rs ts us) (hs : s < 3) (hj : j < 10) (hg : zd_bgr ξ s j = true) : zd_th ξ j = true ∧ (zd_til ξ j = true → zd_has ξ s j = true) := by
  rcases zl_spn_or 10 j hg with c | c
  · exact ⟨(zJ_hasK h.1 hs hj c).1, fun _ => c⟩
  · obtain ⟨-, -, -, -, c5, c6⟩ := (zK_dl h j hj).2 c
    refine ⟨c5, fun z => ?_⟩
    have := (of_decide_eq_true z).2
    rw [c6] at this
    exact absurd this (by decide)
/-- all comes back on both sides or nothing does -/
theorem zK_bk (h : zK ξ μ row stkC stk ord Rs ts us) (hs : s < 3) (hk : ¬ ξ (zdK s) 3 = 0) (hn : zd_new ξ ξn s x y) (hM : zv_nw μ M s x y) : (zt_fit ξn (zdV s) (zdZ s) (Rs (3 + s)) (ts (3 + s)) = true ∧ zl_al (zd_gwf ξn (zd_bgr ξn s) (zdZ s)) 10 = true) ↔ zv_bk M us (zv_dlg μ) (zv_own μ) s = true := by
  obtain ⟨r1, r2, r3, r4⟩ := zd_new_row hs hn
  obtain ⟨-, -, n3, n4⟩ := id hn
  obtain ⟨⟨m1, m2⟩, -, mf⟩ := id hM
  have mC : ∀ c d, 234 ≤ c → (c < 243 ∨ 250 < c) → M c d = μ c d := fun c d a b => mf c d (by omega) (by omega) (zu_in_not (by omega))
  obtain ⟨a1, a2⟩ := h.1.2.2.2.2.1 s hs
  obtain ⟨-, b2, -⟩ := a2 hk
  obtain ⟨k1, k2⟩ := (h.2.2.2.2.2.2.2 s hs).2 hk
  have tM : zu_eqT μ (3 + s) M (3 + s) := zu_eq_in (fun c d r => mf c d (fun z => zu_in_not (by omega) r) (fun z => zu_in_not (by omega) r) (zu_in_ne r (by omega)))
  have zn : zs ξn (zdV s) (Rs (3 + s)) (ts (3 + s)) M (3 + s) (us (3 + s)) := zs_cl a1.1 (zs_eqT a1.1 k2 tM) (r2 s hs 3 (by decide)).2 (r2 s hs 7 (by decide)).2 (r2 s hs 8 (by decide)).2 (r2 s hs 12 (by decide)).2
  have hIn : zt_I ξn (zdV s) (Rs (3 + s)) (ts (3 + s)) := (zt_C_19 (fun j hj => (r2 s hs j (by omega)).2) a1).1
  have hsz : zs_sz ξn (zdV s) (Rs (3 + s)) M := fun a ha w hw => by
    obtain ⟨c1, c2, c3⟩ := b2 w hw
    obtain ⟨hw10, -, -⟩ := zJ_kept h.1 hs hk hw
    obtain ⟨-, ⟨e5, e6⟩, -⟩ := (h.2.2.1.1 w hw10).2 (decide_eq_true (of_decide_eq_true c1).1)
    rw [mC _ _ (by omega) (by omega), Nat.add_assoc, (r2 s hs (5 + a) (by omega)).2]
    rcases (by omega : a = 0 ∨ a = 1) with rfl | rfl
    · exact e5.trans c2.symm
    · exact e6.trans c3.symm
  have hfit := zs_fit hIn zn hsz (z := zdZ s) (n3.trans m1.symm) (n4.trans m2.symm)
  unfold zv_bk
  rw [zv_gd_iff, ← hfit, zl_al_iff, (zd_new_bgr h hs hn).2]
  refine and_congr_right fun _ => forall_congr' fun j => imp_congr_right fun hj => ?_
  have eW := (r1 j hj).1
  have eL := (r1 j hj).2
  unfold zd_gwf zv_room
  rw [← zK_back h hs hk (fun d => mC 252 d (by decide) (by decide)) hj]
  cases c : zd_bgr ξ s j with
  | false => exact ⟨fun _ => rfl, fun _ => rfl⟩
  | true =>
    have t := (zK_bth h hs hj c).1
    obtain ⟨e4, ⟨e5, e6⟩, -⟩ := (h.2.2.1.1 j hj).2 t
    have ew : zd_whole ξn (zdZ s) j = decide (M 235 j ≤ M 232 s ∧ M 236 j ≤ M 233 s) := by
      unfold zd_whole
      rw [eL, n3, n4, mC 235 j (by decide) (by decide), mC 236 j (by decide) (by decide), e5, e6, m1, m2]
    have ef : zd_flo ξn j = !decide (M 234 j = 1) := by
      unfold zd_flo
      rw [eW, mC 234 j (by decide) (by decide), e4]
      by_cases c1 : ξ (zdW j) 3 = 1
      · rw [decide_eq_true c1]
        exact decide_eq_false (fun z => z.2 c1)
      · rw [decide_eq_false c1]
        exact decide_eq_true ⟨of_decide_eq_true t, c1⟩
    rw [ew, ef]
    cases decide (M 234 j = 1) <;> simp
end ZKW
end
section
/-! side by side: a screen comes -/
section ZKX
variable {ξ μ ν ξ' μ' ξn M : zm_M} {row stkC stk ord : List Nat} {Rs Rs' : Nat → List Nat} {ts ts' us us' : Nat → zy_F} {s q j i o : Nat} {w x y : Int32}
theorem zK_sgen (h : zK ξ μ row stkC stk ord Rs ts us) (hJ : zJ ξ' row stkC Rs' ts') (G : Nat → Bool) (eW : ∀ j d, j < 10 → d ≠ 5 → ξ' (zdW j) d = ξ (zdW j) d) (e5 : ∀ j, j < 10 → ξ' (zdW j) 5 = if G j = true then nI s else ξ (zdW j) 5) (eL : ∀ j, j < 10 → ξ' (zdW j + 1) = ξ (zdW j + 1)) (eS : ∀ q, q < 3 → q ≠ s → ξ' (zdS q) = ξ (zdS q) ∧ ξ' (zdZ q) = ξ (zdZ q)) (nS : ¬ ξ' (zdS s) 3 = 0) (nZ : ξ' (zdZ s) 0 = x ∧ ξ' (zdZ s) 1 = y) (eQ : ∀ q, q < 3 → ξ' (zdQ q) = ξ (zdQ q)) (eV : ∀ q, q < 3 → ∀ j, j < 19 → ξ' (zdV q + j) = ξ (zdV q + j)) (kK : ∀ q, q < 3 → ξ' (zdK q) 3 = 0 ∨ ξ' (zdK q) 3 = ξ (zdK q) 3)
    (g1 : μ' 232 s = x ∧ μ' 233 s = y) (gC : ∀ c d, ((c = 232 ∨ c = 233) ∧ d ≠ s) ∨ (234 ≤ c ∧ c ≤ 237) ∨ c = 252 ∨ (c = 231 ∧ d ≠ 30) ∨ c = 241 ∨ c = 242 → μ' c d = μ c d) (g8 : ∀ j, j < 10 → zd_th ξ j = true → ¬ ξ (zdW j) 3 = 4 → μ' 238 j = if G j = true then nI s else μ 238 j) (g251 : ∀ q, q < 3 → (μ' 251 q = 0 ↔ ξ' (zdK q) 3 = 0)) (gT : ∀ q, q < 3 → zu_eqT μ (3 + q) μ' (3 + q))
    (hG : ∀ j, j < 10 → zd_th ξ j = true → ξ (zdW j) 3 = 3 → ∀ o, o < 10 → ξ (zdW j) 4 = nI o → G j = G o) (hz : ∀ q, q < 3 → zs ξ' (zdT q) (Rs' q) (ts' q) μ' q (us' q)) (hR : ∀ q, q < 3 → Rs' (3 + q) = Rs (3 + q) ∧ ts' (3 + q) = ts (3 + q) ∧ us' (3 + q) = us (3 + q)) : zK ξ' μ' row stkC stk ord Rs' ts' us' := by
  obtain ⟨h1, ⟨r1, r2, r3, r4⟩, h2, h3, h5, h6, h7⟩ := h
  have th : ∀ j, j < 10 → zd_th ξ' j = zd_th ξ j := fun j hj => by unfold zd_th; rw [eW j 2 hj (by decide)]
  have has : ∀ q j, q < 3 → ¬ ξ' (zdK q) 3 = 0 → zd_has ξ' q j = zd_has ξ q j := fun q j hq z => by
    unfold zd_has
    rw [(kK q hq).resolve_left z, eQ q hq, eV q hq 3 (by decide)]
  have hV : ∀ q, q < 3 → zt_I ξ (zdV q) (Rs (3 + q)) (ts (3 + q)) := fun q hq => (h1.2.2.2.2.1 q hq).1.1
  refine ⟨hJ, ⟨⟨r1.1, (gC _ _ (by omega)).trans r1.2.1, fun j hj => (gC _ _ (by omega)).trans (r1.2.2 j hj)⟩, ⟨r2.1, (gC _ _ (by omega)).trans r2.2.1, fun j hj => (gC _ _ (by omega)).trans (r2.2.2 j hj)⟩, r3, fun z => ?_⟩, ⟨fun z hz' => ?_, fun q hq => ?_⟩, fun z hz' A B => ?_, ⟨h5.1, fun z => ?_, fun z hz' A => ?_⟩, hz, fun d hd => ?_, fun q hq => ?_⟩
  · rw [r4 z]
    refine and_congr_right fun hz' => ?_
    unfold zd_flo
    rw [eW z 2 hz' (by decide), eW z 3 hz' (by decide)]
  · rw [th z hz', gC 234 z (by omega)]
    refine ⟨(h2.1 z hz').1, fun c => ?_⟩
    obtain ⟨d1, d2, d3, d4⟩ := (h2.1 z hz').2 c
    rw [eW z 3 hz' (by decide), eW z 4 hz' (by decide), eL z hz', gC 235 z (by omega), gC 236 z (by omega), gC 237 z (by omega)]
    refine ⟨d1, d2, d3, fun w => ?_⟩
    rw [g8 z hz' c w, e5 z hz', d4 w]
  · by_cases e : q = s
    · subst e
      rw [g1.1, g1.2, nZ.1, nZ.2]
      exact ⟨fun z => absurd z nS, fun _ => ⟨rfl, rfl⟩⟩
    · rw [(eS q hq e).1, (eS q hq e).2, gC 232 q (by omega), gC 233 q (by omega)]
      exact h2.2 q hq
  · rw [th z hz'] at A
    rw [eW z 3 hz' (by decide)] at B
    obtain ⟨o, ho, q1, q2, q3, q4⟩ := h3 z hz' A B
    refine ⟨o, ho, by rw [eW z 4 hz' (by decide)]; exact q1, by rw [eW o 3 ho (by decide)]; exact q2, by rw [e5 z hz', e5 o ho, hG z hz' A B o ho q1, q3], fun q hq w => ?_⟩
    have w0 : ¬ ξ' (zdK q) 3 = 0 := (of_decide_eq_true w).1
    rw [has q _ hq w0] at w ⊢
    exact q4 q hq w
  · rw [gC 234 z (by omega)]
    exact h5.2.1 z
  · rw [gC 234 z (by omega)] at A
    rw [gC 237 z (by omega)]
    exact h5.2.2 z hz' A
  · rw [gC 252 d (by omega)]
    exact h7.1 d hd
  · rw [(hR q hq).1, (hR q hq).2.1, (hR q hq).2.2]
    refine ⟨g251 q hq, fun z => ?_⟩
    have z' : ¬ ξ (zdK q) 3 = 0 := by rw [← (kK q hq).resolve_left z]; exact z
    obtain ⟨b1, b2⟩ := (h7.2 q hq).2 z'
    refine ⟨fun j hj => ?_, zs_cl (hV q hq) (zs_eqT (hV q hq) b2 (gT q hq)) (eV q hq 3 (by decide)) (eV q hq 7 (by decide)) (eV q hq 8 (by decide)) (eV q hq 12 (by decide))⟩
    rw [gC 252 _ (by omega), has q j hq z]
    exact b1 j hj
/-- nothing comes with it -/
theorem zK_sc1 (h : zK ξ μ row stkC stk ord Rs ts us) (hs : s < 3) (hst : ξ (zdS s) 3 = 0) (hn : zd_new ξ ξn s x y) (hM : zv_nw μ M s x y) {ν1 : zm_M} (f1 : ∀ c, c ≠ 31 → ν1 c = ξn c) (hJ : zJ (zm_up ν1 (zdK s) 3 0) row stkC Rs ts) (g0 : μ' 251 s = 0) (g : ∀ c d, c ≠ 260 → ¬ (c = 251 ∧ d = s) → μ' c d = M c d) : zK (zm_up ν1 (zdK s) 3 0) μ' row stkC stk ord Rs ts us := by
  obtain ⟨n1, n2, n3, n4⟩ := zd_new_row hs hn
  obtain ⟨-, m2, m3, m4⟩ := hn
  obtain ⟨⟨k1, k2⟩, k3, k4⟩ := hM
  have fr : ∀ c, c ≠ 31 → c ≠ zdK s → zm_up ν1 (zdK s) 3 0 c = ξn c := fun c a b => (zm_up_row b).trans (f1 c a)
  have fT : ∀ q, q < 3 → ∀ j, j < 24 → zm_up ν1 (zdK s) 3 0 (zdT q + j) = ξ (zdT q + j) ∧ zm_up ν1 (zdK s) 3 0 (zdV q + j) = ξ (zdV q + j) := fun q hq j hj => ⟨(fr _ (by unfold zdT; omega) (by unfold zdT zdK; omega)).trans (n2 q hq j hj).1, (fr _ (by unfold zdV; omega) (by unfold zdV zdK; omega)).trans (n2 q hq j hj).2⟩
  have gM : ∀ c d, c ≠ 260 → ¬ (c = 251 ∧ d = s) → ¬ (c = 232 ∧ d = s) → ¬ (c = 233 ∧ d = s) → ¬ zu_in s c d → μ' c d = μ c d := fun c d a b e f r => (g c d a b).trans (k4 c d e f r)
  have gT : ∀ q, q < 6 → q ≠ s → zu_eqT μ q μ' q := fun q hq hne => zu_eq_in (fun c d r => gM c d (fun z => zu_in_not (by omega) r) (fun z => zu_in_not (by omega) r) (fun z => zu_in_not (by omega) r) (fun z => zu_in_not (by omega) r) (zu_in_ne r hne))
  have eW : ∀ j, j < 10 → zm_up ν1 (zdK s) 3 0 (zdW j) = ξ (zdW j) ∧ zm_up ν1 (zdK s) 3 0 (zdW j + 1) = ξ (zdW j + 1) := fun j hj => ⟨(fr _ (by unfold zdW; omega) (by unfold zdW zdK; omega)).trans (n1 j hj).1, (fr _ (by unfold zdW; omega) (by unfold zdW zdK; omega)).trans (n1 j hj).2⟩
  have eK : ∀ q, q < 3 → zm_up ν1 (zdK s) 3 0 (zdK q) 3 = if q = s then 0 else ξ (zdK q) 3 := fun q hq => by
    by_cases e : q = s
    · rw [if_pos e, e]; exact zm_up_eq
    · rw [if_neg e, fr _ (by unfold zdK; omega) (by unfold zdK; omega), (n3 q hq).1]
  refine zK_sgen (s := s) (x := x) (y := y) h hJ (fun _ => false) (fun j d hj _ => by rw [(eW j hj).1]) (fun j hj => by rw [(eW j hj).1]; exact (if_neg (by decide)).symm) (fun j hj => (eW j hj).2) (fun q hq hne => ⟨(fr _ (by unfold zdS; omega) (by unfold zdS zdK; omega)).trans (n4 q hq hne).1, (fr _ (by unfold zdZ; omega) (by unfold zdZ zdK; omega)).trans (n4 q hq hne).2⟩)
    (by rw [fr _ (by unfold zdS; omega) (by unfold zdS zdK; omega), m2]; decide) (by rw [fr _ (by unfold zdZ; omega) (by unfold zdZ zdK; omega)]; exact ⟨m3, m4⟩) (fun q hq => (fr _ (by unfold zdQ; omega) (by unfold zdQ zdK; omega)).trans (n3 q hq).2) (fun q hq j hj => (fT q hq j (by omega)).2) (fun q hq => ?_) ⟨(g _ _ (by decide) (by omega)).trans k1, (g _ _ (by decide) (by omega)).trans k2⟩ (fun c d r => gM c d (by omega) (by omega) (by omega) (by omega) (zu_in_not (by omega))) (fun j hj _ _ => ?_) (fun q hq => ?_) (fun q hq => gT _ (by omega) (by omega)) (fun _ _ _ _ _ _ _ => rfl) (fun q hq => ?_) (fun _ _ => ⟨rfl, rfl, rfl⟩)
  · rw [eK q hq]
    by_cases e : q = s
    · rw [if_pos e]; exact Or.inl rfl
    · rw [if_neg e]; exact Or.inr rfl
  · rw [gM 238 j (by decide) (by omega) (by omega) (by omega) (zu_in_not (by decide))]
    exact (if_neg (by decide)).symm
  · rw [eK q hq]
    by_cases e : q = s
    · rw [if_pos e, e, g0]
    · rw [if_neg e, gM 251 q (by decide) (by omega) (by omega) (by omega) (zu_in_not (by decide))]
      exact (h.2.2.2.2.2.2.2 q hq).1
  · by_cases e : q = s
    · subst e
      obtain ⟨e1, e2⟩ := zJ_none h.1 hq hst
      have e3 : us q = .nil := zR_none (zK_R h) hq (Decidable.byContradiction fun z => (zK_sc0 h hq).mpr z hst)
      rw [e1, e2, e3]
      have tM : zu_eqT M q μ' q := zu_eq_in (fun c d r => g c d (fun z => zu_in_not (by omega) r) (fun z => zu_in_not (by omega) r))
      exact zs_nil (tM.I k3)
    · have hI := (h.1.2.2.2.1 q hq).1.1
      exact zs_cl hI (zs_eqT hI (h.2.2.2.2.2.1 q hq) (gT q (by omega) e)) (fT q hq 3 (by decide)).1 (fT q hq 7 (by decide)).1 (fT q hq 8 (by decide)).1 (fT q hq 12 (by decide)).1
end ZKX
end
section
/-! side by side: a screen comes, and what was kept -/
section ZKY
variable {ξ μ ν ξ' μ' ξn M : zm_M} {row stkC stk ord : List Nat} {Rs Rs' : Nat → List Nat} {ts ts' us us1 : Nat → zy_F} {s q j i o : Nat} {w x y : Int32}
/-- the windows of the tree that is kept -/
theorem zK_keptW (h : zK ξ μ row stkC stk ord Rs ts us) (hs : s < 3) (hk : ¬ ξ (zdK s) 3 = 0) (e : zu_eqT μ (3 + s) M (3 + s)) : ∀ v, v ∈ (zy_lvs (us (3 + s))).flatMap (zu_tb M (3 + s)) ↔ v ∈ Rs (3 + s) := fun v => by
  have hV := (h.1.2.2.2.2.1 s hs).1.1
  rw [← zs_flat hV (zs_eqT hV ((h.2.2.2.2.2.2.2 s hs).2 hk).2 e), List.mem_flatMap]
  constructor
  · rintro ⟨n, -, z⟩
    exact (zt_tb_mem.mp z).1
  · intro z
    obtain ⟨n, hn, en⟩ := hV.2.2.2.1 v z
    exact ⟨n, hn, zt_tb_mem.mpr ⟨z, en⟩⟩
/-- the trees but that of s -/
theorem zK_bsT (h : zK ξ μ row stkC stk ord Rs ts us) (hs : s < 3) (hk : ¬ ξ (zdK s) 3 = 0) (hn : zd_new ξ ξn s x y) {ν2 ν3 : zm_M} {Rs1 : Nat → List Nat} {ts1 : Nat → zy_F} (f2 : ∀ c, c ≠ 31 → ν2 c = ξn c) (hB : zd_tbk ν2 ν3 Rs ts (zd_has ξn s) 10 Rs1 ts1) {M2 θ : zm_M} (e : zu_eqT μ (3 + s) M (3 + s)) (e2 : ∀ q, q < 3 → q ≠ s → zu_eqT μ q M2 q) (g : zv_bs M2 s us θ us1 ((zy_lvs (us (3 + s))).flatMap (zu_tb M (3 + s)))) (hq : q < 3) (hqs : q ≠ s) : zs ν3 (zdT q) (Rs1 q) (ts1 q) θ q (us1 q) := by
  obtain ⟨n1, n2, n3, n4⟩ := zd_new_row hs hn
  have eT : ∀ q, q < 3 → ∀ j, j < 24 → ν2 (zdT q + j) = ξ (zdT q + j) := fun q hq j hj => (f2 _ (by unfold zdT; omega)).trans (n2 q hq j hj).1
  have eW : ∀ j, j < 10 → ν2 (zdW j) = ξ (zdW j) := fun j hj => (f2 _ (by unfold zdW; omega)).trans (n1 j hj).1
  have hC2 : ∀ q, q < 3 → zt_C ν2 (zdT q) (Rs q) (ts q) := fun q hq => zt_C_19 (fun j hj => eT q hq j (by omega)) (h.1.2.2.2.1 q hq).1
  have hI2 : ∀ q, q < 3 → zt_I ν2 (zdT q) (Rs q) (ts q) := fun q hq => (hC2 q hq).1
  have hX := zd_seq_X hI2 (fun q p j hq hp a b => (nI_eq (by omega) (by omega)).mp ((((h.1.2.2.2.1 q hq).2.1 j).mp a).2.2.symm.trans (((h.1.2.2.2.1 p hp).2.1 j).mp b).2.2)) _ ν2 Rs ts (fun _ => false) ν3 Rs1 ts1 (List.nodup_range.filter _) (fun _ _ => rfl) hC2 (fun q hq => zt_X_0 (hI2 q hq)) hB.1 q hq
  have hz2 : zs ν2 (zdT q) (Rs q) (ts q) M2 q (us q) := by
    have hI := (h.1.2.2.2.1 q hq).1.1
    exact zs_cl hI (zs_eqT hI (h.2.2.2.2.2.1 q hq) (e2 q hq hqs)) (eT q hq 3 (by decide)) (eT q hq 7 (by decide)) (eT q hq 8 (by decide)) (eT q hq 12 (by decide))
  refine zs_X (hI2 q hq) hz2 (zt_X_congr hX (zt_I_or (hI2 q hq)) (X' := fun x => decide (x ∈ (zy_lvs (us (3 + s))).flatMap (zu_tb M (3 + s)))) (fun v hv => ?_)) (g.1 q hq)
  obtain ⟨v10, vt, -⟩ := ((h.1.2.2.2.1 q hq).2.1 v).mp hv
  have vt2 : zd_til ν2 v = true := by
    unfold zd_til at vt ⊢
    rw [eW v v10]
    exact vt
  have e3 := (zd_new_bgr h hs hn).1
  rw [Bool.or_false, decide_eq_decide, zK_keptW h hs hk e v, List.mem_filter, List.mem_range, e3, vt2, Bool.and_true]
  exact ⟨fun z => ⟨v10, (zJ_kept h.1 hs hk z).2.1⟩, fun z => (zJ_hasK h.1 hs v10 z.2).2 vt⟩
theorem zK_sc2 (h : zK ξ μ row stkC stk ord Rs ts us) (hs : s < 3) (hk : ¬ ξ (zdK s) 3 = 0) (hn : zd_new ξ ξn s x y) (hM : zv_nw μ M s x y) {ν1 ν2 ν3 : zm_M} {Rs1 : Nat → List Nat} {ts1 : Nat → zy_F} (f2 : ∀ c, c ≠ 31 → ν2 c = ξn c) (hB : zd_tbk ν2 ν3 Rs ts (zd_has ξn s) 10 Rs1 ts1)
    (ff : ∀ c d, ¬ zJ_irr c → (∀ q, q < 3 → zt_out (zdT q) c) → (∀ q, q < 3 → c = zdK q → d ≠ 3) → (∀ j, j < 10 → c = zdW j → d ≠ 5) → ν1 c d = ξn c d) (fK : ∀ q, q < 3 → ν1 (zdK q) 3 = if zd_hasg ξn (zd_bgr ξn s) 10 q = true then 0 else ξn (zdK q) 3) (f5 : ∀ j, j < 10 → ν1 (zdW j) 5 = if zd_bgr ξn s j = true then nI s else ξn (zdW j) 5) (fT : ∀ q, q < 3 → q ≠ s → ∀ j, j < 24 → ν1 (zdT q + j) = ν3 (zdT q + j)) (hcp : zt_isCopy ξn (zdV s) ν1 (zdT s))
    (hJ : zJ (zm_up ν1 (zdK s) 3 0) row stkC (zd_upd Rs1 s (Rs (3 + s))) (zd_upd ts1 s (ts (3 + s)))) {M2 θ ν1r : zm_M} (gM2 : ∀ c d, ¬ (c = 231 ∧ d = 30) → c ≠ 259 → c ≠ 260 → M2 c d = M c d) (gs : zv_bs M2 s us θ us1 ((zy_lvs (us (3 + s))).flatMap (zu_tb M (3 + s)))) (gr : zv_br (zu_cq θ (3 + s) s 24 240) ν1r s (zv_back M (zv_dlg μ) (zv_own μ) s) 10) : ∃ us', zK (zm_up ν1 (zdK s) 3 0) (zm_up ν1r 251 s 0) row stkC stk ord (zd_upd Rs1 s (Rs (3 + s))) (zd_upd ts1 s (ts (3 + s))) us' := by
  obtain ⟨n1, n2, n3, n4⟩ := zd_new_row hs hn
  obtain ⟨eh, eb⟩ := zd_new_bgr h hs hn
  obtain ⟨-, m2, m3, m4⟩ := id hn
  obtain ⟨⟨k1, k2⟩, k3, k4⟩ := hM
  obtain ⟨gX, g238, gf⟩ := id gs
  obtain ⟨b238, b251, bf⟩ := gr
  -- the class
  have oW : ∀ j, j < 10 → ∀ q, q < 3 → zt_out (zdT q) (zdW j) ∧ zt_out (zdT q) (zdW j + 1) := fun j hj q hq => ⟨zJn_out hq (Or.inr (Or.inl ⟨j, hj, Or.inl rfl⟩)), zJn_out hq (Or.inr (Or.inl ⟨j, hj, Or.inr rfl⟩))⟩
  have uW : ∀ c, c ≠ zdK s → zm_up ν1 (zdK s) 3 0 c = ν1 c := fun c hc => zm_up_row hc
  have eW : ∀ j d, j < 10 → d ≠ 5 → zm_up ν1 (zdK s) 3 0 (zdW j) d = ξ (zdW j) d := fun j d hj hd => by
    rw [uW _ (by unfold zdW zdK; omega), ff _ _ (zJn_W hj).1 (fun q hq => (oW j hj q hq).1) (fun q hq e => by unfold zdW zdK at e; omega) (fun _ _ _ => hd), (n1 j hj).1]
  have e5 : ∀ j, j < 10 → zm_up ν1 (zdK s) 3 0 (zdW j) 5 = if zd_bgr ξ s j = true then nI s else ξ (zdW j) 5 := fun j hj => by
    rw [uW _ (by unfold zdW zdK; omega), f5 j hj, eb, (n1 j hj).1]
  have eL : ∀ j, j < 10 → zm_up ν1 (zdK s) 3 0 (zdW j + 1) = ξ (zdW j + 1) := fun j hj => by
    rw [uW _ (by unfold zdW zdK; omega), ← (n1 j hj).2]
    exact funext fun d => ff _ _ (zJn_W hj).2 (fun q hq => (oW j hj q hq).2) (fun q hq e => by unfold zdW zdK at e; omega) (fun i hi e => by unfold zdW at e; omega)
  have fS : ∀ q, q < 3 → zm_up ν1 (zdK s) 3 0 (zdS q) = ξn (zdS q) ∧ zm_up ν1 (zdK s) 3 0 (zdZ q) = ξn (zdZ q) ∧ zm_up ν1 (zdK s) 3 0 (zdQ q) = ξn (zdQ q) := fun q hq => ⟨(uW _ (by unfold zdS zdK; omega)).trans (funext fun d => ff _ _ (zJn_S hq).1 (fun p hp => zJn_out hp (Or.inr (Or.inr (Or.inl ⟨q, hq, Or.inl rfl⟩)))) (fun i hi e => by unfold zdS zdK at e; omega) (fun i hi e => by unfold zdS zdW at e; omega)),
    (uW _ (by unfold zdZ zdK; omega)).trans (funext fun d => ff _ _ (zJn_S hq).2.1 (fun p hp => zJn_out hp (Or.inr (Or.inr (Or.inl ⟨q, hq, Or.inr (Or.inl rfl)⟩)))) (fun i hi e => by unfold zdZ zdK at e; omega) (fun i hi e => by unfold zdZ zdW at e; omega)),
    (uW _ (by unfold zdQ zdK; omega)).trans (funext fun d => ff _ _ (zJn_S hq).2.2.2 (fun p hp => zJn_out hp (Or.inr (Or.inr (Or.inl ⟨q, hq, Or.inr (Or.inr (Or.inr (Or.inl rfl)))⟩)))) (fun i hi e => by unfold zdQ zdK at e; omega) (fun i hi e => by unfold zdQ zdW at e; omega))⟩
  have eV : ∀ q, q < 3 → ∀ j, j < 19 → zm_up ν1 (zdK s) 3 0 (zdV q + j) = ξ (zdV q + j) := fun q hq j hj => by
    rw [uW _ (by unfold zdV zdK; omega), ← (n2 q hq j (by omega)).2]
    exact funext fun d => ff _ _ (zJn_T hq hj).2 (fun p hp => zJn_out hp (Or.inr (Or.inr (Or.inl ⟨q, hq, Or.inr (Or.inr (Or.inr (Or.inr ⟨j, hj, rfl⟩)))⟩)))) (fun i hi e => by unfold zdV zdK at e; omega) (fun i hi e => by unfold zdV zdW at e; omega)
  have eK : ∀ q, q < 3 → zm_up ν1 (zdK s) 3 0 (zdK q) 3 = if q = s ∨ zd_hasg ξn (zd_bgr ξ s) 10 q = true then 0 else ξ (zdK q) 3 := fun q hq => by
    by_cases e : q = s
    · rw [if_pos (Or.inl e), e]; exact zm_up_eq
    · rw [uW _ (by unfold zdK; omega), fK q hq, eb, (n3 q hq).1]
      by_cases c : zd_hasg ξn (zd_bgr ξ s) 10 q = true
      · rw [if_pos c, if_pos (Or.inr c)]
      · rw [if_neg c, if_neg (fun z => z.elim e c)]
  -- the reference
  have cM : ∀ c d, ¬ (c = 231 ∧ d = 30) → c ≠ 238 → c ≠ 259 → c ≠ 260 → (∀ q, q < 3 → ¬ zu_in q c d) → zu_cq θ (3 + s) s 24 240 c d = M c d := fun c d r1 r2 r3 r4 r5 => (zu_cq_out (r5 s hs)).trans ((gf c d r2 r5).trans (gM2 c d r1 r3 r4))
  have no : ∀ c d, c < 243 ∨ 250 < c → ∀ q, q < 3 → ¬ zu_in q c d := fun c d r q _ => zu_in_not r
  have uR : ∀ c d, c ≠ 238 → c ≠ 239 → c ≠ 240 → c ≠ 251 → zm_up ν1r 251 s 0 c d = zu_cq θ (3 + s) s 24 240 c d := fun c d r1 r2 r3 r4 => (zm_up_ne (fun z => r4 z.1)).trans (bf c d r1 r2 r3 r4)
  have gC : ∀ c d, ((c = 232 ∨ c = 233) ∧ d ≠ s) ∨ (234 ≤ c ∧ c ≤ 237) ∨ c = 252 ∨ (c = 231 ∧ d ≠ 30) ∨ c = 241 ∨ c = 242 → zm_up ν1r 251 s 0 c d = μ c d := fun c d r => (uR c d (by omega) (by omega) (by omega) (by omega)).trans ((cM c d (by omega) (by omega) (by omega) (by omega) (no c d (by omega))).trans (k4 c d (by omega) (by omega) (zu_in_not (by omega))))
  have tM : ∀ q, q < 6 → q ≠ s → zu_eqT μ q M q := fun q hq hne => zu_eq_in (fun c d r => k4 c d (fun z => zu_in_not (by omega) r) (fun z => zu_in_not (by omega) r) (zu_in_ne r hne))
  have tM2 : ∀ q, zu_eqT M q M2 q := fun q => zu_eq_in (fun c d r => gM2 c d (fun z => zu_in_not (by omega) r) (fun z => zu_in_not (by omega) r) (fun z => zu_in_not (by omega) r))
  have tθ : ∀ q, q < 3 → zu_eqT M2 (3 + q) θ (3 + q) := fun q hq => zu_eq_in (fun c d r => gf c d (fun z => zu_in_not (by omega) r) (fun p hp => zu_in_ne r (by omega)))
  have tE : ∀ q, zu_eqT (zu_cq θ (3 + s) s 24 240) q (zm_up ν1r 251 s 0) q := fun q => zu_eq_in (fun c d r => uR c d (fun z => zu_in_not (by omega) r) (fun z => zu_in_not (by omega) r) (fun z => zu_in_not (by omega) r) (fun z => zu_in_not (by omega) r))
  have tQ : ∀ q, q ≠ s → zu_eqT θ q (zu_cq θ (3 + s) s 24 240) q := fun q hne => zu_eq_in (fun c d r => zu_cq_out (zu_in_ne r hne))
  have t3 : ∀ q, q < 3 → zu_eqT μ (3 + q) (zm_up ν1r 251 s 0) (3 + q) := fun q hq => (tM (3 + q) (by omega) (by omega)).trans ((tM2 _).trans ((tθ q hq).trans ((tQ _ (by omega)).trans (tE _))))
  have ts' : zu_eqT μ (3 + s) (zm_up ν1r 251 s 0) s := (tM (3 + s) (by omega) (by omega)).trans ((tM2 _).trans ((tθ s hs).trans (zu_cq_eqT.trans (tE _))))
  have hW := zK_keptW h hs hk (tM (3 + s) (by omega) (by omega))
  have hgb : ∀ j, j < 10 → zd_bgr ξ s j = zv_back M (zv_dlg μ) (zv_own μ) s j := fun j hj => zK_back h hs hk (fun d => k4 252 d (by omega) (by omega) (zu_in_not (by decide))) hj
  have c234 : ∀ j, zu_cq θ (3 + s) s 24 240 234 j = μ 234 j := fun j => (cM 234 j (by omega) (by decide) (by decide) (by decide) (no _ _ (by decide))).trans (k4 234 j (by omega) (by omega) (zu_in_not (by decide)))
  refine ⟨fun q => if q < 3 then (if q = s then us (3 + s) else us1 q) else us q, zK_sgen (s := s) (x := x) (y := y) h hJ (zd_bgr ξ s) eW e5 eL (fun q hq hne => ⟨(fS q hq).1.trans (n4 q hq hne).1, (fS q hq).2.1.trans (n4 q hq hne).2⟩) (by rw [(fS s hs).1, m2]; decide) (by rw [(fS s hs).2.1]; exact ⟨m3, m4⟩) (fun q hq => (fS q hq).2.2.trans (n3 q hq).2) eV (fun q hq => ?_)
    ⟨(uR _ _ (by decide) (by decide) (by decide) (by decide)).trans ((cM _ _ (by omega) (by decide) (by decide) (by decide) (no _ _ (by decide))).trans k1), (uR _ _ (by decide) (by decide) (by decide) (by decide)).trans ((cM _ _ (by omega) (by decide) (by decide) (by decide) (no _ _ (by decide))).trans k2)⟩ gC (fun j hj ht h4 => ?_) (fun q hq => ?_) t3 (fun j hj ht hd o ho eo => zK_bow h hs hj ht hd ho eo) (fun q hq => ?_) (fun q hq => ⟨(zd_upd_ne (by omega)).trans (hB.2.2.2.2 q hq (by simp)).1, (zd_upd_ne (by omega)).trans (hB.2.2.2.2 q hq (by simp)).2, if_neg (by omega)⟩)⟩
  · rw [eK q hq]
    by_cases c : q = s ∨ zd_hasg ξn (zd_bgr ξ s) 10 q = true
    · rw [if_pos c]; exact Or.inl rfl
    · rw [if_neg c]; exact Or.inr rfl
  · have e8 : zm_up ν1r 251 s 0 238 j = ν1r 238 j := zm_up_ne (by omega)
    rw [e8, b238 j hj, c234, ← hgb j hj]
    have c238 : zu_cq θ (3 + s) s 24 240 238 j = if j ∈ (zy_lvs (us (3 + s))).flatMap (zu_tb M (3 + s)) then nI s else μ 238 j := by
      rw [zu_cq_out (zu_in_not (by decide)), g238 j hj, gM2 238 j (by omega) (by decide) (by decide), k4 238 j (by omega) (by omega) (zu_in_not (by decide))]
    rw [c238]
    by_cases c : zd_bgr ξ s j = true
    · rw [if_pos c]
      by_cases c1 : μ 234 j = 1
      · have hj' := (zJ_hasK h.1 hs hj ((zK_bth h hs hj c).2 ((zK_kind h hj).1.mpr c1))).2 ((zK_kind h hj).1.mpr c1)
        rw [if_neg (fun z => z.2 c1), if_pos ((hW j).mpr hj')]
      · rw [if_pos ⟨⟨hj, c⟩, c1⟩]
    · rw [if_neg c, if_neg (fun z => c z.1.2), if_neg (fun z => c (zl_spn_mono 10 _ (zJ_kept h.1 hs hk ((hW j).mp z)).2.1))]
  · rw [eK q hq]
    by_cases e : q = s
    · rw [if_pos (Or.inl e), e]
      exact ⟨fun _ => rfl, fun _ => zm_up_eq⟩
    · have e1 : zm_up ν1r 251 s 0 251 q = ν1r 251 q := zm_up_ne (by omega)
      have c251 : zu_cq θ (3 + s) s 24 240 251 q = μ 251 q := (cM 251 q (by omega) (by decide) (by decide) (by decide) (no _ _ (by decide))).trans (k4 251 q (by omega) (by omega) (zu_in_not (by decide)))
      have c252 : ∀ d, zu_cq θ (3 + s) s 24 240 252 d = μ 252 d := fun d => (cM 252 d (by omega) (by decide) (by decide) (by decide) (no _ _ (by decide))).trans (k4 252 d (by omega) (by omega) (zu_in_not (by decide)))
      rw [e1, (b251 q hq).2, c251]
      have a1 := (h.2.2.2.2.2.2.2 q hq).1
      have hn' : ∀ j, zd_has ξn q j = zd_has ξ q j := fun j => by
        unfold zd_has
        rw [(n3 q hq).1, (n3 q hq).2, (n2 q hq 3 (by decide)).2]
      by_cases c : zd_hasg ξn (zd_bgr ξ s) 10 q = true
      · rw [if_pos (Or.inr c)]
        refine ⟨fun _ => rfl, fun _ => ?_⟩
        obtain ⟨j, hj, c1, c2⟩ := zd_hasg_iff.mp c
        rw [hn'] at c2
        obtain ⟨-, z2⟩ := (zK_has h hq hj).mpr c2
        exact Or.inr ⟨e, j, hj, by rw [← hgb j hj]; exact c1, by rw [c252]; exact z2⟩
      · rw [if_neg (fun z => z.elim e c), ← a1]
        refine ⟨fun z => ?_, Or.inl⟩
        rcases z with z | ⟨-, j, hj, z1, z2⟩
        · exact z
        · refine Decidable.byContradiction fun w => c (zd_hasg_iff.mpr ⟨j, hj, by rw [hgb j hj]; exact z1, ?_⟩)
          rw [c252] at z2
          rw [hn']
          exact (zK_has h hq hj).mp ⟨w, z2⟩
  · show zs _ (zdT q) (zd_upd Rs1 s (Rs (3 + s)) q) (zd_upd ts1 s (ts (3 + s)) q) _ q (if q < 3 then (if q = s then us (3 + s) else us1 q) else us q)
    rw [if_pos hq]
    by_cases e : q = s
    · subst e
      rw [if_pos rfl, zd_upd_eq, zd_upd_eq]
      have hV := (h.1.2.2.2.2.1 q hq).1.1
      refine zs_cl hV (zs_eqT hV ((h.2.2.2.2.2.2.2 q hq).2 hk).2 ts') ?_ ?_ ?_ ?_
      · rw [uW _ (by unfold zdT zdK; omega), hcp.1, (n2 q hq 3 (by decide)).2]
      · rw [uW _ (by unfold zdT zdK; omega), hcp.2.2.2.1, (n2 q hq 7 (by decide)).2]
      · rw [uW _ (by unfold zdT zdK; omega), hcp.2.2.2.2.1, (n2 q hq 8 (by decide)).2]
      · rw [uW _ (by unfold zdT zdK; omega), hcp.2.2.2.2.2, (n2 q hq 12 (by decide)).2]
    · rw [if_neg e, zd_upd_ne e, zd_upd_ne e]
      have hz3 := zK_bsT h hs hk hn f2 hB (tM (3 + s) (by omega) (by omega)) (fun p hp hne => (tM p (by omega) hne).trans (tM2 p)) gs hq e
      have hI3 := (hB.2.1 q hq).1.1
      have eT : ∀ j, j < 24 → zm_up ν1 (zdK s) 3 0 (zdT q + j) = ν3 (zdT q + j) := fun j hj => (uW _ (by unfold zdT zdK; omega)).trans (fT q hq e j hj)
      exact zs_cl hI3 (zs_eqT hI3 hz3 ((tQ q e).trans (tE q))) (eT 3 (by decide)) (eT 7 (by decide)) (eT 8 (by decide)) (eT 12 (by decide))
theorem zK_scn2 (h : zK ξ μ row stkC stk ord Rs ts us) (ha : zd_sarg w x y s) (hst : ξ (zdS s) 3 = 0) (hJ : zJ ξ' row stkC Rs' ts') (f : zd_scn2 ξ ξ' Rs Rs' ts ts' s x y) (g : zv_scr μ μ' us w x y) : ∃ us', zK ξ' μ' row stkC stk ord Rs' ts' us' := by
  obtain ⟨hs, ew, hx, hy⟩ := ha
  rcases g with ⟨z, -⟩ | ⟨s', ⟨hs', ew', -⟩, g⟩
  · exact (z ⟨s, hs, ew, hx, hy⟩).elim
  · have es := (nI_eq (by omega) (by omega)).mp (ew'.symm.trans ew)
    subst es
    rcases g with ⟨z, -⟩ | ⟨-, M, hM, g⟩
    · exact ((zK_sc0 h hs).mpr z hst).elim
    · obtain ⟨ξn, ν1, hn, rfl, f⟩ := f
      have eK : ξn (zdK s') 3 = ξ (zdK s') 3 := by rw [((zd_new_row hs hn).2.2.1 s' hs).1]
      have a1 := (h.2.2.2.2.2.2.2 s' hs).1
      rcases f with ⟨fc, f1, rfl, rfl⟩ | ⟨⟨c1, c2, c3⟩, ν2, ν3, Rs1, ts1, f2, hB, ff, fK, f5, fT, hC, hcp, rfl, rfl⟩
      · rcases g with ⟨-, g0, g⟩ | ⟨q1, q2, -⟩
        · exact ⟨_, zK_sc1 h hs hst hn hM f1 hJ g0 g⟩
        · have hk : ¬ ξ (zdK s') 3 = 0 := fun z => q1 (a1.mpr z)
          obtain ⟨d1, d2⟩ := (zK_bk h hs hk hn hM).mpr q2
          rcases fc with z | z | z
          · exact (hk (eK.symm.trans z)).elim
          · rw [z] at d1; cases d1
          · rw [z] at d2; cases d2
      · have hk : ¬ ξ (zdK s') 3 = 0 := fun z => c1 (eK.trans z)
        rcases g with ⟨q, -⟩ | ⟨-, -, M2, θ, us1, ν1r, gM2, gs, gr, rfl⟩
        · rcases q with q | q
          · exact (hk (a1.mp q)).elim
          · rw [(zK_bk h hs hk hn hM).mp ⟨c2, c3⟩] at q
            cases q
        · exact zK_sc2 h hs hk hn hM f2 hB ff fK f5 fT hcp hJ gM2 gs gr
end ZKY
end
section
/-! the law: what a class's call leaves alone, what a reference's call leaves alone -/
/-- the class's call: the reference's cells stand -/
noncomputable def zW_up (M N : zm_M) : Prop := ∀ c, 231 ≤ c → N c = M c
/-- the reference's call: the class's cells stand -/
noncomputable def zW_lo (N θ : zm_M) : Prop := ∀ c, c < 231 → θ c = N c
section ZWF
variable {M N θ ξ : zm_M} {row row' stk : List Nat} {Rs Rs' : Nat → List Nat} {ts ts' us : Nat → zy_F} {s k : Nat} {w x y v o kd : Int32}
theorem zW_up.trans (h : zW_up M N) (g : zW_up N ξ) : zW_up M ξ := fun c hc => (g c hc).trans (h c hc)
theorem zW_up.refl : zW_up M M := fun _ _ => rfl
theorem zW_lo.trans (h : zW_lo M N) (g : zW_lo N ξ) : zW_lo M ξ := fun c hc => (g c hc).trans (h c hc)
theorem zW_lo.refl : zW_lo M M := fun _ _ => rfl
theorem zW_eqv (h : zJ_eqv M N) : zW_up M N := fun c hc => h c (zJn_M hc)
theorem zW_foc (h : zd_foc M N k) : zW_up M N := fun c hc => funext fun b => h.1 c b (by omega) (by omega) (by omega) (by omega) (fun ⟨_, s, hs, _, e, _⟩ => by unfold zdT at e; omega)
theorem zW_fgt {p : Nat → Bool} (h : zd_fgt M N p) : zW_up M N := fun c hc => funext fun b => h.2 c b (fun s hs e => by unfold zdK at e; omega)
theorem zW_mov (h : zd_mov M N w x y) : zW_up M N := by
  rcases h with ⟨-, rfl⟩ | ⟨k, ξ, -, -, -, -, h1, h2⟩
  · exact zW_up.refl
  · exact (zW_fgt h1).trans (zW_eqv h2)
theorem zW_shr (h : zd_shr M N ts w x v) : zW_up M N := by
  rcases h with ⟨-, rfl⟩ | ⟨k, s, n, a, -, hs, -, -, -, -, -, -, -, -, -, rfl⟩
  · exact zW_up.refl
  · exact fun c hc => zm_up_row (by unfold zdT; omega)
theorem zW_came (hk : k < 10) (hs : s < 3) (h : zd_came M N k s kd w v o) : zW_up M N := fun c hc => h.1 c (zJn_M hc) (by unfold zdW; omega) (by unfold zdW; omega) (fun _ => by unfold zt_out zdT; omega)
theorem zW_opn (h : zd_opn M N row row' Rs Rs' ts ts' kd w v o) : zW_up M N := by
  rcases h with ⟨-, rfl, -⟩ | ⟨-, k, s, ξ, hk, hs, -, -, -, -, -, h⟩
  · exact zW_up.refl
  · rcases h with ⟨-, h, -⟩ | ⟨⟨-, ν3, ν4, R', t', -, -, -, h1, -, h2⟩ | ⟨-, -, -, -, ν4, h1, h2⟩, -⟩
    · exact fun c hc => h c (zJn_M hc) (by unfold zdW; omega) (by unfold zdW; omega)
    · exact (zW_came hk hs h1).trans (zW_foc h2)
    · exact (zW_came hk hs h1).trans (zW_foc h2)
theorem zW_cls {G : Nat → Bool} {i n : Nat} {R : List Nat} {t : zy_F} (hs : s < 3) (h : zd_cls M N row stk G i k s n R t) : zW_up M N := fun c hc => funext fun b => h.2.2.2.2.2 c b (by omega) (by omega) (by omega) (by omega) (by omega) (fun q hq e => by unfold zdK at e; omega) (fun j hj e => by unfold zdW at e; omega) (fun _ _ => by unfold zt_out zdT; omega)
theorem zW_drgd (h : zd_drgd M N row row' Rs Rs' ts ts' w x y) : zW_up M N := by
  rcases h with ⟨-, rfl, -⟩ | ⟨k, o, sd, a, b, ν1, R2, t2, -, ha, hb, -, -, -, -, h⟩
  · exact zW_up.refl
  · rcases h with ⟨-, h, -⟩ | ⟨-, -, n, ν6, -, -, -, -, h1, -, -, -, -, -, h2⟩
    · exact zW_eqv h
    · refine zW_up.trans (fun c hc => funext fun d => h1 c d (zJn_M hc) (by unfold zt_out zdT; omega) (by unfold zt_out zdT; omega) (fun q hq e => by unfold zdK at e; omega) (fun j hj e => by unfold zdW at e; omega)) (zW_foc h2)
theorem zW_gon (h : zd_gon M N Rs Rs' ts ts' w) : zW_up M N := by
  rcases h with ⟨-, rfl, -⟩ | ⟨s, o, ν2, emp, W, n0, hs, ho, -, -, -, -, -, -, -, h⟩
  · exact zW_up.refl
  · rcases h with ⟨-, h, -⟩ | ⟨-, -, -, h1, -⟩
    · exact zW_eqv h
    · exact fun c hc => funext fun d => h1 c d (zJn_M hc) (by unfold zt_out zdT; omega) (by unfold zt_out zdT; omega) (by unfold zt_out zdV; omega) (by unfold zdQ; omega) (by unfold zdK; omega) (by unfold zdS; omega) (fun j hj e => by unfold zdW at e; omega)
theorem zW_rsz (hs : s < 3) (h : zd_rsz M N Rs ts s x y) : zW_up M N := by
  obtain ⟨ξ, h1, -, -, h⟩ := h
  rcases h with ⟨-, rfl⟩ | ⟨-, h, -⟩
  · exact zW_eqv h1
  · exact fun c hc => h c (zJn_M hc) (by unfold zdZ; omega)
theorem zW_scn (hs : s < 3) (h : zd_scn2 M N Rs Rs' ts ts' s x y) : zW_up M N := by
  obtain ⟨ξ, ν1, h1, rfl, h⟩ := h
  have a1 : zW_up M ξ := fun c hc => funext fun d => h1.1 c d (by omega) (by unfold zdZ; omega) (by unfold zdS; omega)
  have a2 : zW_up ν1 (zm_up ν1 (zdK s) 3 0) := fun c hc => zm_up_row (by unfold zdK; omega)
  rcases h with ⟨-, h, -⟩ | ⟨-, ν2, ν3, Rs1, ts1, -, -, h, -⟩
  · exact a1.trans (zW_up.trans (fun c hc => h c (by omega)) a2)
  · exact a1.trans (zW_up.trans (fun c hc => funext fun d => h c d (zJn_M hc) (fun q hq => by unfold zt_out zdT; omega) (fun q hq e => by unfold zdK at e; omega) (fun j hj e => by unfold zdW at e; omega)) a2)
-- the reference
theorem zW_fr (h : zM_fr N θ) : zW_lo N θ := fun c hc => funext fun d => h c d (by omega) (by omega) (by omega) (by omega)
theorem zW_mfoc (h : zv_foc N θ row stk us k) : zW_lo N θ := fun c hc => funext fun d => h.2.2.2 c d (by omega) (by omega) (by omega) (fun ⟨_, _, _, _, _, _, e, _⟩ => by omega)
theorem zW_mtwd (h : zv_twd N θ row stk us x) : zW_lo N θ := by
  rcases h with ⟨-, rfl⟩ | ⟨sd, s, ξ, lo, -, -, -, -, -, -, -, h1, h⟩
  · exact zW_lo.refl
  · have a := zW_fr h1.fr
    rcases h with ⟨-, rfl⟩ | ⟨i, -, -, -, h⟩
    · exact a
    · exact a.trans (zW_mfoc h)
theorem zW_mmov (h : zv_mov N θ w x y) : zW_lo N θ := by
  rcases h with ⟨-, rfl⟩ | ⟨k, ξ, -, -, -, -, h1, rfl⟩
  · exact zW_lo.refl
  · exact fun c hc => funext fun d => (zv_fg_ne (by omega)).trans (h1 c d (by omega) (by omega))
theorem zW_mshr (h : zv_shr N θ us w x v) : zW_lo N θ := by
  rcases h with ⟨-, rfl⟩ | ⟨k, s, n, a, -, hs, -, -, -, -, -, -, -, -, rfl⟩
  · exact zW_lo.refl
  · exact fun c hc => zm_up_row (by omega)
theorem zW_mopn (h : zv_opn N θ row stk us kd w v o) : zW_lo N θ := by
  rcases h with ⟨-, rfl⟩ | ⟨-, k, s, M, hk, hs, -, -, -, -, ⟨-, -, hM⟩, h⟩
  · exact zW_lo.refl
  · have cam : ∀ {ν4}, zv_cam N ν4 k s kd w v o → zW_lo N ν4 := fun g c hc => funext fun d => g.2 c d (by omega) (by omega) (by omega) (by omega) (by omega) (fun _ => ⟨zu_in_not (by omega), zu_in_not (by omega)⟩)
    have a : zW_lo N M := fun c hc => funext fun d => hM c d (by omega) (by omega)
    rcases h with ⟨-, lo, ν3, b, u', -, -, ⟨-, h⟩ | ⟨-, ν4, h1, -, h2⟩⟩ | ⟨-, ⟨-, -, rfl⟩ | ⟨-, ν4, h1, h2⟩⟩
    · exact a.trans (fun c hc => funext fun d => h c d (by omega) (by omega) (zu_in_not (by omega)))
    · exact (cam h1).trans (zW_mfoc h2)
    · exact a
    · exact (cam h1).trans (zW_mfoc h2)
theorem zW_mdrgd (h : zv_drgd N θ row stk us w x y) : zW_lo N θ := by
  rcases h with ⟨-, rfl⟩ | ⟨k, o, sd, a, b, ξ, u2, -, ha, hb, -, -, -, -, h⟩
  · exact zW_lo.refl
  · rcases h with ⟨-, h⟩ | ⟨-, ν6, ua, h1, h2⟩
    · exact fun c hc => funext fun d => h c d (by omega) (zu_in_not (by omega))
    · exact zW_lo.trans (fun c hc => funext fun d => h1.2.2.2.2 c d (by omega) (by omega) (by omega) (by omega) (by omega) (zu_in_not (by omega)) (zu_in_not (by omega)) (zu_in_not (by omega))) (zW_mfoc h2)
theorem zW_mgon (h : zv_gon N θ us w) : zW_lo N θ := by
  rcases h with ⟨-, rfl⟩ | ⟨s, o, emp, ξ, ξ2, n1, W, hs, ho, -, -, -, -, -, -, -, -, h1, h2, h⟩
  · exact zW_lo.refl
  · rcases h with ⟨-, rfl⟩ | ⟨-, h⟩
    · exact fun c hc => funext fun d => (h2.2.1 c d (zu_in_not (by omega))).trans ((h1 c d (by omega) (by omega)).trans (zu_cq_out (zu_in_not (by omega))))
    · exact fun c hc => funext fun d => h.2.2.2.2.2.2.2 c d (by omega) (by omega) (by omega) (by omega) (by omega) (by omega) (by omega) (by omega) (by omega) (zu_in_not (by omega)) (zu_in_not (by omega)) (zu_in_not (by omega)) (zu_in_not (by omega))
theorem zW_mscr (h : zv_scr N θ us w x y) : zW_lo N θ := by
  rcases h with ⟨-, rfl⟩ | ⟨s, ha, h⟩
  · exact zW_lo.refl
  · rcases h with ⟨-, ⟨-, rfl⟩ | ⟨-, -, h⟩⟩ | ⟨-, M, hM, h⟩
    · exact zW_lo.refl
    · exact fun c hc => funext fun d => h c d (by omega) (by omega) (by omega) (by omega)
    · have a : zW_lo N M := fun c hc => funext fun d => hM.2.2 c d (by omega) (by omega) (zu_in_not (by omega))
      rcases h with ⟨-, -, h⟩ | ⟨-, -, M2, ξ, us1, ν1, h1, h2, h3, rfl⟩
      · exact a.trans (fun c hc => funext fun d => h c d (by omega) (by omega))
      · refine a.trans (fun c hc => funext fun d => (zm_up_ne (by omega)).trans ((h3.2.2 c d (by omega) (by omega) (by omega) (by omega)).trans ((zu_cq_out (zu_in_not (by omega))).trans ((h2.2.2 c d (by omega) (fun q _ => zu_in_not (by omega))).trans (h1 c d (by omega) (by omega) (by omega))))))
end ZWF
end
section
/-! the law: one call on both sides -/
/-- class and reference, side by side in one memory -/
noncomputable def zW (M : zm_M) : Prop := ∃ row stkC stk ord Rs ts us, zK M M row stkC stk ord Rs ts us
/-- the call a on the class, then the call b on the reference, both with the values vs -/
noncomputable def zW_c (M : zm_M) (a b : Nat) (vs : List Value) : Prop := ∃ N θ r1 r2, ze_E 64 a (.ref 1 :: vs) (zm_mk M) (some (.int r1)) (zm_mk N) ∧ ze_E 64 b (.ref 232 :: vs) (zm_mk N) (some (.int r2)) (zm_mk θ) ∧ zW θ
section ZWG
variable {M N θ : zm_M} {row row' stkC stkC' stk ord : List Nat} {Rs Rs' : Nat → List Nat} {ts ts' us us' : Nat → zy_F}
theorem zW_end (h : zK N θ row stkC stk ord Rs ts us) (lo : zW_lo N θ) : zW θ := ⟨_, _, _, _, _, _, _, h.congr lo (fun _ _ => rfl)⟩
theorem zW_mid (h : zK M M row stkC stk ord Rs ts us) (up : zW_up M N) : zK M N row stkC stk ord Rs ts us := h.congr (fun _ _ => rfl) up
theorem zW_ro (h : zK M M row stkC stk ord Rs ts us) (e : zJ_eqv M N) (f : zM_fr N θ) : zW θ := zW_end ((zW_mid h (zW_eqv e)).scr e f) (zW_fr f)
theorem zW_area (h : zW M) (w x : Int32) : zW_c M A_Desk_area A_Mod_area [.int w, .int x] := by
  obtain ⟨row, stkC, stk, ord, Rs, ts, us, h⟩ := h
  obtain ⟨N, r1, E1, e⟩ := ze_area 57 h.1 w x
  obtain ⟨θ, r2, E2, f⟩ := ze_Marea 35 (zK_R (zW_mid h (zW_eqv e))) w x
  exact ⟨N, θ, r1, r2, E1, E2, zW_ro h e f⟩
theorem zW_about (h : zW M) (w x : Int32) : zW_c M A_Desk_about A_Mod_about [.int w, .int x] := by
  obtain ⟨row, stkC, stk, ord, Rs, ts, us, h⟩ := h
  obtain ⟨r1, E1⟩ := ze_about 60 h.1 w x
  obtain ⟨r2, E2⟩ := ze_Mabout 59 (zK_R h) w x
  exact ⟨M, M, r1, r2, E1, E2, _, _, _, _, _, _, _, h⟩
theorem zW_count (h : zW M) (x : Int32) : zW_c M A_Desk_count A_Mod_count [.int x] := by
  obtain ⟨row, stkC, stk, ord, Rs, ts, us, h⟩ := h
  obtain ⟨r1, E1⟩ := ze_count 61 h.1 x
  obtain ⟨r2, E2⟩ := ze_Mcount (μ := M) 63 x
  exact ⟨M, M, r1, r2, E1, E2, _, _, _, _, _, _, _, h⟩
theorem zW_told (h : zW M) (w x : Int32) : zW_c M A_Desk_told A_Mod_told [.int w, .int x] := by
  obtain ⟨row, stkC, stk, ord, Rs, ts, us, h⟩ := h
  obtain ⟨r1, E1⟩ := ze_told 60 h.1 w x
  obtain ⟨θ, r2, E2, f⟩ := ze_Mtold 35 (zK_R h) w x
  exact ⟨M, θ, r1, r2, E1, E2, zW_ro h zJ_eqv.refl f⟩
theorem zW_tab (h : zW M) (w x y : Int32) : zW_c M A_Desk_tab A_Mod_tab [.int w, .int x, .int y] := by
  obtain ⟨row, stkC, stk, ord, Rs, ts, us, h⟩ := h
  obtain ⟨r1, E1⟩ := ze_tab 61 h.1 w x y
  obtain ⟨θ, r2, E2, f⟩ := ze_Mtab 35 (zK_R h) w x y
  exact ⟨M, θ, r1, r2, E1, E2, zW_ro h zJ_eqv.refl f⟩
theorem zW_at (h : zW M) (w x y : Int32) : zW_c M A_Desk_at A_Mod_at [.int w, .int x, .int y] := by
  obtain ⟨row, stkC, stk, ord, Rs, ts, us, h⟩ := h
  obtain ⟨N, r1, E1, e⟩ := ze_at 57 h.1 w x y
  obtain ⟨θ, r2, E2, f⟩ := ze_Mat 35 (zK_R (zW_mid h (zW_eqv e))) w x y
  exact ⟨N, θ, r1, r2, E1, E2, zW_ro h e f⟩
theorem zW_neighbour (h : zW M) (w x : Int32) : zW_c M A_Desk_neighbour A_Mod_neighbour [.int w, .int x] := by
  obtain ⟨row, stkC, stk, ord, Rs, ts, us, h⟩ := h
  obtain ⟨N, r1, E1, e⟩ := ze_neighbour 57 h.1 w x
  obtain ⟨θ, r2, E2, f⟩ := ze_Mneighbour 35 (zK_R (zW_mid h (zW_eqv e))) w x
  exact ⟨N, θ, r1, r2, E1, E2, zW_ro h e f⟩
theorem zW_steps (h : zW M) (w x : Int32) : zW_c M A_Desk_steps A_Mod_steps [.int w, .int x] := by
  obtain ⟨row, stkC, stk, ord, Rs, ts, us, h⟩ := h
  obtain ⟨N, r1, E1, e⟩ := ze_steps 57 h.1 w x
  obtain ⟨θ, r2, E2, f⟩ := ze_Msteps 35 (zK_R (zW_mid h (zW_eqv e))) w x
  exact ⟨N, θ, r1, r2, E1, E2, zW_ro h e f⟩
theorem zW_toward (h : zW M) (x : Int32) : zW_c M A_Desk_toward A_Mod_toward [.int x] := by
  obtain ⟨row, stkC, stk, ord, Rs, ts, us, h⟩ := h
  obtain ⟨N, r1, row', stk', E1, hJ, f⟩ := ze_toward 48 h.1 x
  have up : zW_up M N := by
    rcases id f with ⟨-, rfl, -⟩ | ⟨sd, s, ξ, -, -, -, -, -, h1, -, ⟨-, rfl, -⟩ | ⟨i, -, -, -, -, h2⟩⟩
    · exact zW_up.refl
    · exact zW_eqv h1
    · exact (zW_eqv h1).trans (zW_foc h2)
  have hm := zW_mid h up
  obtain ⟨θ, r2, E2, g⟩ := ze_Mtoward 35 (zK_R hm) x
  obtain ⟨_, _, z⟩ := zK_tow hm hJ f g
  exact ⟨N, θ, r1, r2, E1, E2, zW_end z (zW_mtwd g)⟩
theorem zW_move (h : zW M) (w x y : Int32) : zW_c M A_Desk_move A_Mod_move [.int w, .int x, .int y] := by
  obtain ⟨row, stkC, stk, ord, Rs, ts, us, h⟩ := h
  obtain ⟨N, r1, E1, -, f⟩ := ze_move 59 h.1 w x y
  have hm := zW_mid h (zW_mov f)
  obtain ⟨θ, r2, E2, g⟩ := ze_Mmove 60 (zK_R hm) w x y
  exact ⟨N, θ, r1, r2, E1, E2, zW_end (zK_mov hm f g) (zW_mmov g)⟩
theorem zW_share (h : zW M) (w x v : Int32) : zW_c M A_Desk_share A_Mod_share [.int w, .int x, .int v] := by
  obtain ⟨row, stkC, stk, ord, Rs, ts, us, h⟩ := h
  obtain ⟨N, r1, E1, hJ, f⟩ := ze_share 61 h.1 w x v
  have hm := zW_mid h (zW_shr f)
  obtain ⟨θ, r2, E2, g⟩ := ze_Mshare 60 (zK_R hm) w x v
  exact ⟨N, θ, r1, r2, E1, E2, zW_end (zK_shr hm hJ f g) (zW_mshr g)⟩
theorem zW_open (h : zW M) (kd w v o : Int32) : zW_c M A_Desk_open A_Mod_open [.int kd, .int w, .int v, .int o] := by
  obtain ⟨row, stkC, stk, ord, Rs, ts, us, h⟩ := h
  obtain ⟨N, r1, row', stk', Rs', ts', E1, hJ, f⟩ := ze_open 48 h.1 kd w v o
  have hm := zW_mid h (zW_opn f)
  obtain ⟨θ, r2, E2, g⟩ := ze_Mopen 35 (zK_R hm) hm.2.2.2.2.1 kd w v o
  obtain ⟨_, _, _, _, z⟩ := zK_opn hm hJ f g
  exact ⟨N, θ, r1, r2, E1, E2, zW_end z (zW_mopn g)⟩
theorem zW_drag (h : zW M) (w x y : Int32) : zW_c M A_Desk_drag A_Mod_drag [.int w, .int x, .int y] := by
  obtain ⟨row, stkC, stk, ord, Rs, ts, us, h⟩ := h
  obtain ⟨N, r1, row', stk', Rs', ts', E1, hJ, f⟩ := ze_drag 48 h.1 w x y
  have hm := zW_mid h (zW_drgd f)
  obtain ⟨θ, r2, E2, g⟩ := ze_Mdrag 36 (zK_R hm) w x y
  obtain ⟨_, _, _, _, z⟩ := zK_drgd hm hJ f g
  exact ⟨N, θ, r1, r2, E1, E2, zW_end z (zW_mdrgd g)⟩
theorem zW_gone (h : zW M) (w : Int32) : zW_c M A_Desk_gone A_Mod_gone [.int w] := by
  obtain ⟨row, stkC, stk, ord, Rs, ts, us, h⟩ := h
  obtain ⟨N, r1, Rs', ts', E1, hJ, f⟩ := ze_gone 57 h.1 w
  have hm := zW_mid h (zW_gon f)
  obtain ⟨θ, r2, E2, g⟩ := ze_Mgone 36 (zK_R hm) w
  obtain ⟨_, z⟩ := zK_gon hm hJ f g
  exact ⟨N, θ, r1, r2, E1, E2, zW_end z (zW_mgon g)⟩
theorem zW_screen (h : zW M) (w x y : Int32) : zW_c M A_Desk_screen A_Mod_screen [.int w, .int x, .int y] := by
  obtain ⟨row, stkC, stk, ord, Rs, ts, us, h⟩ := h
  by_cases c : ∃ s, zd_sarg w x y s
  · obtain ⟨s, ha⟩ := c
    by_cases c2 : M (zdS s) 3 = 0
    · obtain ⟨N, r1, Rs', ts', E1, hJ, f⟩ := ze_screen_3 56 h.1 ha c2
      have hm := zW_mid h (zW_scn ha.1 f)
      obtain ⟨θ, r2, E2, g⟩ := ze_Mscreen 36 (zK_R hm) (zK_kep hm) w x y
      obtain ⟨_, z⟩ := zK_scn2 hm ha c2 hJ f g
      exact ⟨N, θ, r1, r2, E1, E2, zW_end z (zW_mscr g)⟩
    · obtain ⟨N, r1, E1, hJ, f⟩ := ze_screen_1 57 h.1 ha c2
      have hm := zW_mid h (zW_rsz ha.1 f)
      obtain ⟨θ, r2, E2, g⟩ := ze_Mscreen 36 (zK_R hm) (zK_kep hm) w x y
      exact ⟨N, θ, r1, r2, E1, E2, zW_end (zK_rsz hm ha c2 hJ f g) (zW_mscr g)⟩
  · have E1 := ze_screen_no (μ := M) 62 c
    obtain ⟨θ, r2, E2, g⟩ := ze_Mscreen 36 (zK_R h) (zK_kep h) w x y
    exact ⟨M, θ, _, r2, E1, E2, zW_end (zK_sno h c g) (zW_mscr g)⟩
theorem zW_win (h : zK M M row stkC stk ord Rs ts us) (w : Int32) : (∃ k, k < 10 ∧ w = nI k ∧ zd_th M k = true ∧ ¬ M 234 k = 0) ∨ ((∀ D, ze_E (D + 1) A_Desk_isWindow [.ref 1, .int w] (zm_mk M) (some (.int 0)) (zm_mk M)) ∧ ∀ k, k < 10 → w = nI k → M 234 k = 0) := by
  rcases zd_rng w 10 (by decide) with ⟨k, hk, rfl⟩ | c
  · cases e : zd_th M k with
    | true => exact Or.inl ⟨k, hk, rfl, e, (zK_kind h hk).2.2.mp e⟩
    | false =>
      refine Or.inr ⟨fun D => ?_, fun k' hk' e' => ?_⟩
      · have := ze_thW (μ := M) D hk
        rw [e] at this
        exact this
      · have := (nI_eq (by omega) (by omega)).mp e'
        subst this
        exact (h.2.2.1.1 k hk).1 e
  · refine Or.inr ⟨fun D => ze_isWindow_out D c, fun k hk e => ?_⟩
    exfalso
    rw [e] at c
    rcases c with c | c
    · exact nI_pos (by omega) c
    · exact nI_ge (b := 10) hk (by decide) c
theorem zW_focus (h : zW M) (w : Int32) : zW_c M A_Desk_focus A_Mod_focus [.int w] := by
  obtain ⟨row, stkC, stk, ord, Rs, ts, us, h⟩ := h
  rcases zW_win h w with ⟨k, hk, rfl, ht, hk0⟩ | ⟨E, hno⟩
  · obtain ⟨N, stk', r1, E1, hJ, f⟩ := ze_focus 48 h.1 hk ht
    have hm := zW_mid h (zW_foc f)
    obtain ⟨θ, r2, E2, g⟩ := ze_Mfocus 51 (zK_R hm) (nI k)
    rcases g with ⟨g, -⟩ | ⟨k', hk', e, -, g⟩
    · exact absurd (g k hk rfl) ((zK_kind hm hk).2.2.mp ht)
    · have := (nI_eq (by omega) (by omega)).mp e
      subst this
      obtain ⟨_, z⟩ := zK_foc hm hk ht hJ f g
      exact ⟨N, θ, r1, r2, E1, E2, zW_end z (zW_mfoc g)⟩
  · obtain ⟨θ, r2, E2, g⟩ := ze_Mfocus 51 (zK_R h) w
    rcases g with ⟨-, rfl⟩ | ⟨k', hk', e, g, -⟩
    · exact ⟨θ, θ, _, r2, ze_focus_no 62 (E 62), E2, _, _, _, _, _, _, _, h⟩
    · exact absurd (hno k' hk' e) g
theorem zW_back (h : zW M) : zW_c M A_Desk_back A_Mod_back [] := by
  obtain ⟨row, stkC, stk, ord, Rs, ts, us, h⟩ := h
  by_cases hl : row.length < 2
  · obtain ⟨θ, r2, E2, g⟩ := ze_Mback 51 (zK_R h)
    rcases g with ⟨-, rfl⟩ | ⟨g, -⟩
    · exact ⟨θ, θ, _, r2, ze_back_no 62 h.1 hl, E2, _, _, _, _, _, _, _, h⟩
    · exact absurd hl g
  · obtain ⟨N, stk', r1, E1, hJ, f⟩ := ze_back 48 h.1 hl
    have hm := zW_mid h (zW_foc f)
    obtain ⟨θ, r2, E2, g⟩ := ze_Mback 51 (zK_R hm)
    rcases g with ⟨g, -⟩ | ⟨-, g⟩
    · exact absurd g hl
    · obtain ⟨hk, ht⟩ := (h.1.1.2.2 (row.getD 1 0)).mp (zl_mem (by omega))
      obtain ⟨_, z⟩ := zK_foc hm hk ht hJ f g
      exact ⟨N, θ, r1, r2, E1, E2, zW_end z (zW_mfoc g)⟩
theorem zW_close (h : zW M) (w : Int32) : zW_c M A_Desk_close A_Mod_close [.int w] := by
  obtain ⟨row, stkC, stk, ord, Rs, ts, us, h⟩ := h
  rcases zW_win h w with ⟨k, hk, rfl, ht, hk0⟩ | ⟨E, hno⟩
  · obtain ⟨N, r1, s, n, hs, hn, E1, hJ, f⟩ := ze_close 58 h.1 hk ht
    have hm := zW_mid h (zW_cls hs f)
    obtain ⟨θ, r2, E2, g⟩ := ze_Mclose 51 (zK_R hm) (nI k)
    rcases g with ⟨g, -⟩ | ⟨k', hk', e, -, g⟩
    · exact absurd (g k hk rfl) ((zK_kind hm hk).2.2.mp ht)
    · have := (nI_eq (by omega) (by omega)).mp e
      subst this
      obtain ⟨_, _, _, z⟩ := zK_cls hm hk hs hn hJ f g
      obtain ⟨m, -, -, -, -, fr⟩ := zv_cls_all hm hk hs (fun c => (hn c).1) g
      exact ⟨N, θ, r1, r2, E1, E2, zW_end z (fun c hc => funext fun d => fr c d (by omega) (by omega) (by omega) (by omega) (by omega) (fun _ => zu_in_not (by omega)))⟩
  · obtain ⟨θ, r2, E2, g⟩ := ze_Mclose 51 (zK_R h) w
    rcases g with ⟨-, rfl⟩ | ⟨k', hk', e, g, -⟩
    · exact ⟨θ, θ, _, r2, ze_close_no 62 (E 62), E2, _, _, _, _, _, _, _, h⟩
    · exact absurd (hno k' hk' e) g
/-- isOf: the same answer -/
theorem zW_isOf (h : zW M) (w x : Int32) : ∃ r, ze_E 64 A_Desk_isOf [.ref 1, .int w, .int x] (zm_mk M) (some (.int r)) (zm_mk M) ∧ ze_E 64 A_Mod_isOf [.ref 232, .int w, .int x] (zm_mk M) (some (.int r)) (zm_mk M) := by
  obtain ⟨row, stkC, stk, ord, Rs, ts, us, h⟩ := h
  rcases zd_rng w 10 (by decide) with ⟨k, hk, rfl⟩ | c
  · have E1 := ze_isOf_in (μ := M) 62 hk x
    have E2 := ze_MisOf 61 (zK_R h) hk x
    have key : (if ¬ M 234 k = 0 ∧ (0 ≤ x ∧ x ≤ 4) then (if M 234 k = x ∨ x = 0 ∨ (x = 2 ∧ ¬ M 234 k = 1) then (1 : Int32) else 0) else -1000000001) = (if zd_th M k = true ∧ (0 ≤ x ∧ x ≤ 4) then (if M (zdW k) 3 = x ∨ x = 0 ∨ (x = 2 ∧ ¬ M (zdW k) 3 = 1) then 1 else 0) else -1000000001) := by
      have q := (zK_kind h hk).2.2
      cases e : zd_th M k with
      | false => rw [if_neg (fun z => (by rw [e] at q; exact Bool.false_ne_true (q.mpr z.1) : False)), if_neg (fun z => Bool.false_ne_true z.1)]
      | true =>
        rw [((h.2.2.1.1 k hk).2 e).1]
        have q0 := q.mp e
        rw [((h.2.2.1.1 k hk).2 e).1] at q0
        by_cases c : 0 ≤ x ∧ x ≤ 4
        · have q1 : ¬ M (zdW k) 3 = 0 ∧ (0 ≤ x ∧ x ≤ 4) := ⟨q0, c⟩
          have q2 : true = true ∧ (0 ≤ x ∧ x ≤ 4) := ⟨rfl, c⟩
          rw [if_pos q1, if_pos q2]
        · have q1 : ¬ (¬ M (zdW k) 3 = 0 ∧ (0 ≤ x ∧ x ≤ 4)) := fun z => c z.2
          have q2 : ¬ (true = true ∧ (0 ≤ x ∧ x ≤ 4)) := fun z => c z.2
          rw [if_neg q1, if_neg q2]
    rw [key] at E2
    exact ⟨_, E1, E2⟩
  · exact ⟨_, ze_isOf_out 62 c x, ze_MisOf_out 61 c x⟩
end ZWG
end
section
/-! the same answer on both sides -/
/-- asked on both sides, with the same answer, and with what both then hold -/
noncomputable def zW_e (M : zm_M) (a b : Nat) (vs : List Value) : Prop := ∃ N θ r, ze_E 64 a (.ref 1 :: vs) (zm_mk M) (some (.int r)) (zm_mk N) ∧ ze_E 64 b (.ref 232 :: vs) (zm_mk N) (some (.int r)) (zm_mk θ) ∧ zW θ
section ZXE
variable {M : zm_M}
theorem zW_isOf_c (h : zW M) (w x : Int32) : zW_c M A_Desk_isOf A_Mod_isOf [.int w, .int x] := by
  obtain ⟨r, E1, E2⟩ := zW_isOf h w x
  exact ⟨M, M, r, r, E1, E2, h⟩
theorem zW_isOf_e (h : zW M) (w x : Int32) : zW_e M A_Desk_isOf A_Mod_isOf [.int w, .int x] := by
  obtain ⟨r, E1, E2⟩ := zW_isOf h w x
  exact ⟨M, M, r, E1, E2, h⟩
end ZXE
end
section
/-! count: the same answer -/
theorem zl_ct_len {p : Nat → Bool} : ∀ (n : Nat) (l : List Nat), l.Nodup → (∀ k, k ∈ l ↔ k < n ∧ p k = true) → l.length = zl_ct p n
  | 0, l, _, h => by
    cases l with
    | nil => rfl
    | cons a l => exact absurd ((h a).mp List.mem_cons_self).1 (by omega)
  | n + 1, l, hd, h => by
    have es : zl_ct p (n + 1) = zl_ct p n + if p n then 1 else 0 := rfl
    by_cases c : p n = true
    · have hm : n ∈ l := (h n).mpr ⟨by omega, c⟩
      have := zl_ct_len n (l.erase n) (hd.erase n) (fun k => by
        rw [zl_er_mem hd, h k]
        constructor
        · rintro ⟨a, b, q⟩
          exact ⟨by omega, q⟩
        · rintro ⟨a, q⟩
          exact ⟨by omega, by omega, q⟩)
      rw [List.length_erase_of_mem hm] at this
      have := List.length_pos_of_mem hm
      rw [es, if_pos c]
      omega
    · have := zl_ct_len n l hd (fun k => by
        rw [h k]
        constructor
        · rintro ⟨a, q⟩
          refine ⟨Nat.lt_of_le_of_ne (by omega) (fun e => c ?_), q⟩
          rw [← e]; exact q
        · rintro ⟨a, q⟩
          exact ⟨by omega, q⟩)
      rw [es, if_neg c]
      exact this
theorem zl_ct_congr {p q : Nat → Bool} : ∀ n, (∀ k, k < n → p k = q k) → zl_ct p n = zl_ct q n
  | 0, _ => rfl
  | n + 1, h => by
    show zl_ct p n + (if p n then 1 else 0) = zl_ct q n + if q n then 1 else 0
    rw [zl_ct_congr n (fun k hk => h k (by omega)), h n (by omega)]
section ZXC
variable {μ : zm_M} {row stk : List Nat} {Rs : Nat → List Nat} {ts : Nat → zy_F}
noncomputable def zd_und (μ : zm_M) (x : Int32) (k : Nat) : Bool := decide (¬ μ (zdW k) 2 = 0 ∧ (μ (zdW k) 3 = x ∨ x = 0 ∨ (x = 2 ∧ ¬ μ (zdW k) 3 = 1)))
set_option maxRecDepth 100000 in
theorem ze_windowsUnder_v (D : Nat) (x : Int32) : ze_E (D + 2) A_Desk_windowsUnder [.ref 1, .int x] (zm_mk μ) (some (.int (nI (zl_ct (zd_und μ x) 10)))) (zm_mk μ) := by
  have h10 : (Int8.ofInt 10).toInt32 = (10 : Int32) := by decide
  have key : ∃ r h', ze_G (D + 1) 4 (some .int) zc_X5_windowsUnder 4 [(3, .int (nI 0)), (2, .int (nI 0)), (0, .ref 1), (1, .int x)] [] (zm_mk μ) r h' ∧ (r = some (.int (nI (zl_ct (zd_und μ x) 10))) ∧ zm_mk μ = h') := by
    refine ze_loop (Q := fun i L hp => i ≤ 10 ∧ zi_nl L = true ∧ zi_get L 0 = some (.ref 1) ∧ zi_get L 1 = some (.int x) ∧ zi_get L 3 = some (.int (nI i)) ∧ zm_mk μ = hp ∧ (zi_get L 2 = some (.int (nI (zl_ct (zd_und μ x) i))))) (R := fun r h' => r = some (.int (nI (zl_ct (zd_und μ x) 10))) ∧ zm_mk μ = h') 10 ?_ ?_ 10 0 _ _ (by omega) ⟨by omega, rfl, rfl, rfl, rfl, rfl, rfl⟩
    · rintro i L _ hi ⟨-, nl, g0, g1, g3, rfl, hq⟩
      have c1 : ¬ (10 : Int32) ≤ nI i := nI_ge (b := 10) hi (by decide)
      obtain ⟨N1, E1⟩ := ze_fallsUnder (μ := μ) D (zdW_at hi) x
      have cw := zw_c (μ := μ) (zdW_at hi)
      have es : zl_ct (zd_und μ x) (i + 1) = zl_ct (zd_und μ x) i + if zd_und μ x i = true then 1 else 0 := rfl
      have ez : zb (¬ μ (zdW i) 2 = 0 ∧ (μ (zdW i) 3 = x ∨ x = 0 ∨ (x = 2 ∧ ¬ μ (zdW i) 3 = 1))) = if zd_und μ x i = true then 1 else 0 := zb_dec
      rw [ez] at E1
      by_cases c2 : zd_und μ x i = true
      · rw [if_pos c2] at es E1
        left
        refine ⟨zi_set (zi_set L 2 (.int (nI (zl_ct (zd_und μ x) i + 1)))) 3 (.int (nI (i + 1))), zm_mk μ, ⟨N1, 17, fun F m hF => ?_⟩, by omega, ?_, ?_, ?_, zi_get_set_eq, rfl, by rw [es]; simp (maxDischargeDepth := 9) [zi_get_ne, zi_nl_i, zi_nl_r, zi_get_set_eq, nl]⟩
        · simp (maxDischargeDepth := 9) [zg_0, zg_aaload, zg_aload_n, zg_bipush, zg_getfield, zg_goto, zg_iadd, zg_iconst, zg_ifCond, zg_if_icmp, zg_iinc, zg_iload_n, zg_invokevirtual, zg_ireturn, zg_istore_n, zf_X5_windowsUnder, zi_ld, zi_lda, zi_cmp, zi_retOk, zi_isI, zi_f3, zi_cr, zi_ci, zi_cn, zi_get_ne, zi_nl_i, zi_nl_r, zi_get_set_eq, nl, g0, g1, g3, h10, c1, zd_g, zd_w hi, zq_Win_fallsUnder, cw, E1 F (by omega), hq, nI_1]
        · simp (maxDischargeDepth := 9) [zi_get_ne, zi_nl_i, zi_nl_r, zi_get_set_eq, nl]
        · simp (maxDischargeDepth := 9) [zi_get_ne, zi_nl_i, zi_nl_r, zi_get_set_eq, nl, g0]
        · simp (maxDischargeDepth := 9) [zi_get_ne, zi_nl_i, zi_nl_r, zi_get_set_eq, nl, g1]
      · rw [if_neg c2] at es E1
        rw [Nat.add_zero] at es
        left
        refine ⟨zi_set (zi_set L 2 (.int (nI (zl_ct (zd_und μ x) i)))) 3 (.int (nI (i + 1))), zm_mk μ, ⟨N1, 16, fun F m hF => ?_⟩, by omega, ?_, ?_, ?_, zi_get_set_eq, rfl, by rw [es]; simp (maxDischargeDepth := 9) [zi_get_ne, zi_nl_i, zi_nl_r, zi_get_set_eq, nl]⟩
        · simp (maxDischargeDepth := 9) [zg_0, zg_aaload, zg_aload_n, zg_bipush, zg_getfield, zg_goto, zg_iadd, zg_iconst, zg_ifCond, zg_if_icmp, zg_iinc, zg_iload_n, zg_invokevirtual, zg_ireturn, zg_istore_n, zf_X5_windowsUnder, zi_ld, zi_lda, zi_cmp, zi_retOk, zi_isI, zi_f3, zi_cr, zi_ci, zi_cn, zi_get_ne, zi_nl_i, zi_nl_r, zi_get_set_eq, nl, g0, g1, g3, h10, c1, zd_g, zd_w hi, zq_Win_fallsUnder, cw, E1 F (by omega), hq, nI_1]
        · simp (maxDischargeDepth := 9) [zi_get_ne, zi_nl_i, zi_nl_r, zi_get_set_eq, nl]
        · simp (maxDischargeDepth := 9) [zi_get_ne, zi_nl_i, zi_nl_r, zi_get_set_eq, nl, g0]
        · simp (maxDischargeDepth := 9) [zi_get_ne, zi_nl_i, zi_nl_r, zi_get_set_eq, nl, g1]
    · rintro L _ ⟨-, nl, g0, g1, g3, rfl, hq⟩
      have c1 : (10 : Int32) ≤ nI 10 := by decide
      refine ⟨_, zm_mk μ, ⟨0, 5, fun F m hF => ?_⟩, rfl, rfl⟩
      simp [zg_0, zg_aaload, zg_aload_n, zg_bipush, zg_getfield, zg_goto, zg_iadd, zg_iconst, zg_ifCond, zg_if_icmp, zg_iinc, zg_iload_n, zg_invokevirtual, zg_ireturn, zg_istore_n, zf_X5_windowsUnder, zi_ld, zi_lda, zi_cmp, zi_retOk, zi_isI, zi_f3, zi_cr, zi_ci, zi_cn, g0, g3, hq, h10, c1]
  obtain ⟨r, h', G, rfl, rfl⟩ := key
  refine ze_in [(0, .ref 1), (1, .int x)] zq_Desk_windowsUnder (Nat.le_of_ble_eq_true rfl) rfl (ze_S.end ⟨0, 4, fun F m hF => ?_⟩ G)
  simp [zg_0, zg_aaload, zg_aload_n, zg_bipush, zg_getfield, zg_goto, zg_iadd, zg_iconst, zg_ifCond, zg_if_icmp, zg_iinc, zg_iload_n, zg_invokevirtual, zg_ireturn, zg_istore_n, zf_X5_windowsUnder, zi_ld, zi_lda, zi_cmp, zi_retOk, zi_isI, zi_f3, zi_cr, zi_ci, zi_cn, zi_get, zi_set, nI_0]
noncomputable def zd_sth (μ : zm_M) (s : Nat) : Bool := decide (¬ μ (zdS s) 3 = 0)
noncomputable def zd_kth (μ : zm_M) (s : Nat) : Bool := decide (¬ μ (zdK s) 3 = 0)
set_option maxRecDepth 100000 in
theorem ze_screensThere_v (D : Nat) : ze_E (D + 1) A_Desk_screensThere [.ref 1] (zm_mk μ) (some (.int (nI (zl_ct (zd_sth μ) 3)))) (zm_mk μ) := by
  have key : ∃ r h', ze_G D 3 (some .int) zc_X5_screensThere 4 [(2, .int (nI 0)), (1, .int (nI 0)), (0, .ref 1)] [] (zm_mk μ) r h' ∧ (r = some (.int (nI (zl_ct (zd_sth μ) 3))) ∧ zm_mk μ = h') := by
    refine ze_loop (Q := fun i L hp => i ≤ 3 ∧ zi_nl L = true ∧ zi_get L 0 = some (.ref 1) ∧ zi_get L 2 = some (.int (nI i)) ∧ zm_mk μ = hp ∧ (zi_get L 1 = some (.int (nI (zl_ct (zd_sth μ) i))))) (R := fun r h' => r = some (.int (nI (zl_ct (zd_sth μ) 3))) ∧ zm_mk μ = h') 3 ?_ ?_ 3 0 _ _ (by omega) ⟨by omega, rfl, rfl, rfl, rfl, rfl⟩
    · rintro i L _ hi ⟨-, nl, g0, g2, rfl, hq⟩
      have c1 : ¬ (3 : Int32) ≤ nI i := nI_ge (b := 3) hi (by decide)
      have es : zl_ct (zd_sth μ) (i + 1) = zl_ct (zd_sth μ) i + if zd_sth μ i = true then 1 else 0 := rfl
      by_cases c2 : μ (zdS i) 3 = 0
      · have c3 : ¬ zd_sth μ i = true := fun z => of_decide_eq_true z c2
        rw [if_neg c3, Nat.add_zero] at es
        left
        refine ⟨zi_set (zi_set L 1 (.int (nI (zl_ct (zd_sth μ) i)))) 2 (.int (nI (i + 1))), zm_mk μ, ⟨0, 15, fun F m hF => ?_⟩, by omega, ?_, ?_, zi_get_set_eq, rfl, by rw [es]; simp (maxDischargeDepth := 9) [zi_get_ne, zi_nl_i, zi_nl_r, zi_get_set_eq, nl]⟩
        · simp (maxDischargeDepth := 9) [zg_0, zg_aaload, zg_aload_n, zg_getfield, zg_goto, zg_iadd, zg_iconst, zg_ifCond, zg_if_icmp, zg_iinc, zg_iload_n, zg_ireturn, zg_istore_n, zf_X5_screensThere, zi_ld, zi_lda, zi_cmp, zi_retOk, zi_isI, zi_f3, zi_cr, zi_ci, zi_cn, zi_get_ne, zi_nl_i, zi_nl_r, zi_get_set_eq, nl, g0, g2, c1, zd_g, zd_s hi, zdS_g hi, c2, hq, nI_1]
        · simp (maxDischargeDepth := 9) [zi_get_ne, zi_nl_i, zi_nl_r, zi_get_set_eq, nl]
        · simp (maxDischargeDepth := 9) [zi_get_ne, zi_nl_i, zi_nl_r, zi_get_set_eq, nl, g0]
      · have c3 : zd_sth μ i = true := decide_eq_true c2
        rw [if_pos c3] at es
        left
        refine ⟨zi_set (zi_set L 1 (.int (nI (zl_ct (zd_sth μ) i + 1)))) 2 (.int (nI (i + 1))), zm_mk μ, ⟨0, 16, fun F m hF => ?_⟩, by omega, ?_, ?_, zi_get_set_eq, rfl, by rw [es]; simp (maxDischargeDepth := 9) [zi_get_ne, zi_nl_i, zi_nl_r, zi_get_set_eq, nl]⟩
        · simp (maxDischargeDepth := 9) [zg_0, zg_aaload, zg_aload_n, zg_getfield, zg_goto, zg_iadd, zg_iconst, zg_ifCond, zg_if_icmp, zg_iinc, zg_iload_n, zg_ireturn, zg_istore_n, zf_X5_screensThere, zi_ld, zi_lda, zi_cmp, zi_retOk, zi_isI, zi_f3, zi_cr, zi_ci, zi_cn, zi_get_ne, zi_nl_i, zi_nl_r, zi_get_set_eq, nl, g0, g2, c1, zd_g, zd_s hi, zdS_g hi, c2, hq, nI_1]
        · simp (maxDischargeDepth := 9) [zi_get_ne, zi_nl_i, zi_nl_r, zi_get_set_eq, nl]
        · simp (maxDischargeDepth := 9) [zi_get_ne, zi_nl_i, zi_nl_r, zi_get_set_eq, nl, g0]
    · rintro L _ ⟨-, nl, g0, g2, rfl, hq⟩
      have c1 : (3 : Int32) ≤ nI 3 := by decide
      refine ⟨_, zm_mk μ, ⟨0, 5, fun F m hF => ?_⟩, rfl, rfl⟩
      simp [zg_0, zg_aaload, zg_aload_n, zg_getfield, zg_goto, zg_iadd, zg_iconst, zg_ifCond, zg_if_icmp, zg_iinc, zg_iload_n, zg_ireturn, zg_istore_n, zf_X5_screensThere, zi_ld, zi_lda, zi_cmp, zi_retOk, zi_isI, zi_f3, zi_cr, zi_ci, zi_cn, g0, g2, hq, c1]
  obtain ⟨r, h', G, rfl, rfl⟩ := key
  refine ze_in [(0, .ref 1)] zq_Desk_screensThere (Nat.le_of_ble_eq_true rfl) rfl (ze_S.end ⟨0, 4, fun F m hF => ?_⟩ G)
  simp [zg_0, zg_aaload, zg_aload_n, zg_getfield, zg_goto, zg_iadd, zg_iconst, zg_ifCond, zg_if_icmp, zg_iinc, zg_iload_n, zg_ireturn, zg_istore_n, zf_X5_screensThere, zi_ld, zi_lda, zi_cmp, zi_retOk, zi_isI, zi_f3, zi_cr, zi_ci, zi_cn, zi_get, zi_set, nI_0]
set_option maxRecDepth 100000 in
theorem ze_screensWithKept_v (D : Nat) : ze_E (D + 1) A_Desk_screensWithKept [.ref 1] (zm_mk μ) (some (.int (nI (zl_ct (zd_kth μ) 3)))) (zm_mk μ) := by
  have key : ∃ r h', ze_G D 3 (some .int) zc_X5_screensWithKept 4 [(2, .int (nI 0)), (1, .int (nI 0)), (0, .ref 1)] [] (zm_mk μ) r h' ∧ (r = some (.int (nI (zl_ct (zd_kth μ) 3))) ∧ zm_mk μ = h') := by
    refine ze_loop (Q := fun i L hp => i ≤ 3 ∧ zi_nl L = true ∧ zi_get L 0 = some (.ref 1) ∧ zi_get L 2 = some (.int (nI i)) ∧ zm_mk μ = hp ∧ (zi_get L 1 = some (.int (nI (zl_ct (zd_kth μ) i))))) (R := fun r h' => r = some (.int (nI (zl_ct (zd_kth μ) 3))) ∧ zm_mk μ = h') 3 ?_ ?_ 3 0 _ _ (by omega) ⟨by omega, rfl, rfl, rfl, rfl, rfl⟩
    · rintro i L _ hi ⟨-, nl, g0, g2, rfl, hq⟩
      have c1 : ¬ (3 : Int32) ≤ nI i := nI_ge (b := 3) hi (by decide)
      have es : zl_ct (zd_kth μ) (i + 1) = zl_ct (zd_kth μ) i + if zd_kth μ i = true then 1 else 0 := rfl
      by_cases c2 : μ (zdK i) 3 = 0
      · have c3 : ¬ zd_kth μ i = true := fun z => of_decide_eq_true z c2
        rw [if_neg c3, Nat.add_zero] at es
        left
        refine ⟨zi_set (zi_set L 1 (.int (nI (zl_ct (zd_kth μ) i)))) 2 (.int (nI (i + 1))), zm_mk μ, ⟨0, 16, fun F m hF => ?_⟩, by omega, ?_, ?_, zi_get_set_eq, rfl, by rw [es]; simp (maxDischargeDepth := 9) [zi_get_ne, zi_nl_i, zi_nl_r, zi_get_set_eq, nl]⟩
        · simp (maxDischargeDepth := 9) [zg_0, zg_aaload, zg_aload_n, zg_getfield, zg_goto, zg_iadd, zg_iconst, zg_ifCond, zg_if_icmp, zg_iinc, zg_iload_n, zg_ireturn, zg_istore_n, zf_X5_screensWithKept, zi_ld, zi_lda, zi_cmp, zi_retOk, zi_isI, zi_f3, zi_cr, zi_ci, zi_cn, zi_get_ne, zi_nl_i, zi_nl_r, zi_get_set_eq, nl, g0, g2, c1, zd_g, zd_s hi, zdS_g hi, zdK_g hi, c2, hq, nI_1]
        · simp (maxDischargeDepth := 9) [zi_get_ne, zi_nl_i, zi_nl_r, zi_get_set_eq, nl]
        · simp (maxDischargeDepth := 9) [zi_get_ne, zi_nl_i, zi_nl_r, zi_get_set_eq, nl, g0]
      · have c3 : zd_kth μ i = true := decide_eq_true c2
        rw [if_pos c3] at es
        left
        refine ⟨zi_set (zi_set L 1 (.int (nI (zl_ct (zd_kth μ) i + 1)))) 2 (.int (nI (i + 1))), zm_mk μ, ⟨0, 17, fun F m hF => ?_⟩, by omega, ?_, ?_, zi_get_set_eq, rfl, by rw [es]; simp (maxDischargeDepth := 9) [zi_get_ne, zi_nl_i, zi_nl_r, zi_get_set_eq, nl]⟩
        · simp (maxDischargeDepth := 9) [zg_0, zg_aaload, zg_aload_n, zg_getfield, zg_goto, zg_iadd, zg_iconst, zg_ifCond, zg_if_icmp, zg_iinc, zg_iload_n, zg_ireturn, zg_istore_n, zf_X5_screensWithKept, zi_ld, zi_lda, zi_cmp, zi_retOk, zi_isI, zi_f3, zi_cr, zi_ci, zi_cn, zi_get_ne, zi_nl_i, zi_nl_r, zi_get_set_eq, nl, g0, g2, c1, zd_g, zd_s hi, zdS_g hi, zdK_g hi, c2, hq, nI_1]
        · simp (maxDischargeDepth := 9) [zi_get_ne, zi_nl_i, zi_nl_r, zi_get_set_eq, nl]
        · simp (maxDischargeDepth := 9) [zi_get_ne, zi_nl_i, zi_nl_r, zi_get_set_eq, nl, g0]
    · rintro L _ ⟨-, nl, g0, g2, rfl, hq⟩
      have c1 : (3 : Int32) ≤ nI 3 := by decide
      refine ⟨_, zm_mk μ, ⟨0, 5, fun F m hF => ?_⟩, rfl, rfl⟩
      simp [zg_0, zg_aaload, zg_aload_n, zg_getfield, zg_goto, zg_iadd, zg_iconst, zg_ifCond, zg_if_icmp, zg_iinc, zg_iload_n, zg_ireturn, zg_istore_n, zf_X5_screensWithKept, zi_ld, zi_lda, zi_cmp, zi_retOk, zi_isI, zi_f3, zi_cr, zi_ci, zi_cn, g0, g2, hq, c1]
  obtain ⟨r, h', G, rfl, rfl⟩ := key
  refine ze_in [(0, .ref 1)] zq_Desk_screensWithKept (Nat.le_of_ble_eq_true rfl) rfl (ze_S.end ⟨0, 4, fun F m hF => ?_⟩ G)
  simp [zg_0, zg_aaload, zg_aload_n, zg_getfield, zg_goto, zg_iadd, zg_iconst, zg_ifCond, zg_if_icmp, zg_iinc, zg_iload_n, zg_ireturn, zg_istore_n, zf_X5_screensWithKept, zi_ld, zi_lda, zi_cmp, zi_retOk, zi_isI, zi_f3, zi_cr, zi_ci, zi_cn, zi_get, zi_set, nI_0]
noncomputable def zv_nA (μ : zm_M) (i : Nat) : Bool := decide (0 < μ 232 i)
theorem zv_ctA_v (D : Nat) (L0 : zi_Lc) (nl0 : zi_nl L0 = true) (a0 : zi_get L0 0 = some (.ref 232)) (a2 : zi_get L0 2 = some (.int (nI 0))) (a3 : zi_get L0 3 = some (.int (nI 0))) : ∃ r h', ze_G D 4 (some .int) zc_X6_count 42 L0 [] (zm_mk μ) r h' ∧ (r = some (.int (nI (zl_ct (zv_nA μ) 3))) ∧ zm_mk μ = h') := by
  refine ze_loop (Q := fun i L hp => i ≤ 3 ∧ zi_nl L = true ∧ zi_get L 0 = some (.ref 232) ∧ zi_get L 3 = some (.int (nI i)) ∧ zm_mk μ = hp ∧ (zi_get L 2 = some (.int (nI (zl_ct (zv_nA μ) i))))) (R := fun r h' => r = some (.int (nI (zl_ct (zv_nA μ) 3))) ∧ zm_mk μ = h') 3 ?_ ?_ 3 0 _ _ (by omega) ⟨by omega, nl0, a0, a3, rfl, a2⟩
  · rintro i L _ hi ⟨-, nl, g0, g3, rfl, hq⟩
    have c1 : ¬ (3 : Int32) ≤ nI i := nI_ge (b := 3) hi (by decide)
    have ik : zi_in (nI i) 3 = true := zm_in hi (by decide)
    have ck : (nI i).toNatClampNeg = i := nI_clamp (by omega)
    have es : zl_ct (zv_nA μ) (i + 1) = zl_ct (zv_nA μ) i + if zv_nA μ i = true then 1 else 0 := rfl
    by_cases c2 : μ 232 i ≤ 0
    · have c3 : ¬ zv_nA μ i = true := fun z => Int32.not_le.mpr (of_decide_eq_true z) c2
      rw [if_neg c3, Nat.add_zero] at es
      left
      refine ⟨zi_set (zi_set L 2 (.int (nI (zl_ct (zv_nA μ) i)))) 3 (.int (nI (i + 1))), zm_mk μ, ⟨0, 14, fun F m hF => ?_⟩, by omega, ?_, ?_, zi_get_set_eq, rfl, by rw [es]; simp (maxDischargeDepth := 9) [zi_get_ne, zi_nl_i, zi_nl_r, zi_get_set_eq, nl]⟩
      · simp (maxDischargeDepth := 9) [zg_0, zg_aload_n, zg_baload, zg_bipush, zg_getfield, zg_goto, zg_iadd, zg_iaload, zg_iconst, zg_ifCond, zg_if_icmp, zg_iinc, zg_iload_n, zg_ireturn, zg_istore_n, zg_ldc, zg_ldc_w, zg_tableswitch, zf_X6_count, zi_ld, zi_lda, zi_cmp, zi_retOk, zi_isI, zi_f3, zi_cr, zi_ci, zi_cn, zi_get_ne, zi_nl_i, zi_nl_r, zi_get_set_eq, nl, g0, g3, c1, zM_g, zm_iald (k := 0) zM_A232 ik, ck, c2, hq, nI_1]
      · simp (maxDischargeDepth := 9) [zi_get_ne, zi_nl_i, zi_nl_r, zi_get_set_eq, nl]
      · simp (maxDischargeDepth := 9) [zi_get_ne, zi_nl_i, zi_nl_r, zi_get_set_eq, nl, g0]
    · have c3 : zv_nA μ i = true := decide_eq_true (Int32.not_le.mp c2)
      rw [if_pos c3] at es
      left
      refine ⟨zi_set (zi_set L 2 (.int (nI (zl_ct (zv_nA μ) i + 1)))) 3 (.int (nI (i + 1))), zm_mk μ, ⟨0, 15, fun F m hF => ?_⟩, by omega, ?_, ?_, zi_get_set_eq, rfl, by rw [es]; simp (maxDischargeDepth := 9) [zi_get_ne, zi_nl_i, zi_nl_r, zi_get_set_eq, nl]⟩
      · simp (maxDischargeDepth := 9) [zg_0, zg_aload_n, zg_baload, zg_bipush, zg_getfield, zg_goto, zg_iadd, zg_iaload, zg_iconst, zg_ifCond, zg_if_icmp, zg_iinc, zg_iload_n, zg_ireturn, zg_istore_n, zg_ldc, zg_ldc_w, zg_tableswitch, zf_X6_count, zi_ld, zi_lda, zi_cmp, zi_retOk, zi_isI, zi_f3, zi_cr, zi_ci, zi_cn, zi_get_ne, zi_nl_i, zi_nl_r, zi_get_set_eq, nl, g0, g3, c1, zM_g, zm_iald (k := 0) zM_A232 ik, ck, c2, hq, nI_1]
      · simp (maxDischargeDepth := 9) [zi_get_ne, zi_nl_i, zi_nl_r, zi_get_set_eq, nl]
      · simp (maxDischargeDepth := 9) [zi_get_ne, zi_nl_i, zi_nl_r, zi_get_set_eq, nl, g0]
  · rintro L _ ⟨-, nl, g0, g3, rfl, hq⟩
    have c1 : (3 : Int32) ≤ nI 3 := by decide
    refine ⟨_, zm_mk μ, ⟨0, 5, fun F m hF => ?_⟩, rfl, rfl⟩
    simp [zg_0, zg_aload_n, zg_baload, zg_bipush, zg_getfield, zg_goto, zg_iadd, zg_iaload, zg_iconst, zg_ifCond, zg_if_icmp, zg_iinc, zg_iload_n, zg_ireturn, zg_istore_n, zg_ldc, zg_ldc_w, zg_tableswitch, zf_X6_count, zi_ld, zi_lda, zi_cmp, zi_retOk, zi_isI, zi_f3, zi_cr, zi_ci, zi_cn, g0, g3, hq, c1]
noncomputable def zv_nB (μ : zm_M) (i : Nat) : Bool := decide (μ 234 i = 1)
theorem zv_ctB_v (D : Nat) (L0 : zi_Lc) (nl0 : zi_nl L0 = true) (a0 : zi_get L0 0 = some (.ref 232)) (a2 : zi_get L0 2 = some (.int (nI 0))) (a3 : zi_get L0 3 = some (.int (nI 0))) : ∃ r h', ze_G D 4 (some .int) zc_X6_count 79 L0 [] (zm_mk μ) r h' ∧ (r = some (.int (nI (zl_ct (zv_nB μ) 10))) ∧ zm_mk μ = h') := by
  have h10 : (Int8.ofInt 10).toInt32 = (10 : Int32) := by decide
  refine ze_loop (Q := fun i L hp => i ≤ 10 ∧ zi_nl L = true ∧ zi_get L 0 = some (.ref 232) ∧ zi_get L 3 = some (.int (nI i)) ∧ zm_mk μ = hp ∧ (zi_get L 2 = some (.int (nI (zl_ct (zv_nB μ) i))))) (R := fun r h' => r = some (.int (nI (zl_ct (zv_nB μ) 10))) ∧ zm_mk μ = h') 10 ?_ ?_ 10 0 _ _ (by omega) ⟨by omega, nl0, a0, a3, rfl, a2⟩
  · rintro i L _ hi ⟨-, nl, g0, g3, rfl, hq⟩
    have c1 : ¬ (10 : Int32) ≤ nI i := nI_ge (b := 10) hi (by decide)
    have ik : zi_in (nI i) 10 = true := zm_in hi (by decide)
    have ck : (nI i).toNatClampNeg = i := nI_clamp (by omega)
    have es : zl_ct (zv_nB μ) (i + 1) = zl_ct (zv_nB μ) i + if zv_nB μ i = true then 1 else 0 := rfl
    by_cases c2 : ¬ μ 234 i = 1
    · have c3 : ¬ zv_nB μ i = true := fun z => c2 (of_decide_eq_true z)
      rw [if_neg c3, Nat.add_zero] at es
      left
      refine ⟨zi_set (zi_set L 2 (.int (nI (zl_ct (zv_nB μ) i)))) 3 (.int (nI (i + 1))), zm_mk μ, ⟨0, 15, fun F m hF => ?_⟩, by omega, ?_, ?_, zi_get_set_eq, rfl, by rw [es]; simp (maxDischargeDepth := 9) [zi_get_ne, zi_nl_i, zi_nl_r, zi_get_set_eq, nl]⟩
      · simp (maxDischargeDepth := 9) [zg_0, zg_aload_n, zg_baload, zg_bipush, zg_getfield, zg_goto, zg_iadd, zg_iaload, zg_iconst, zg_ifCond, zg_if_icmp, zg_iinc, zg_iload_n, zg_ireturn, zg_istore_n, zg_ldc, zg_ldc_w, zg_tableswitch, zf_X6_count, zi_ld, zi_lda, zi_cmp, zi_retOk, zi_isI, zi_f3, zi_cr, zi_ci, zi_cn, zi_get_ne, zi_nl_i, zi_nl_r, zi_get_set_eq, nl, g0, g3, h10, c1, zM_g, zm_iald (k := 0) zM_A234 ik, ck, c2, hq, nI_1]
      · simp (maxDischargeDepth := 9) [zi_get_ne, zi_nl_i, zi_nl_r, zi_get_set_eq, nl]
      · simp (maxDischargeDepth := 9) [zi_get_ne, zi_nl_i, zi_nl_r, zi_get_set_eq, nl, g0]
    · have c3 : zv_nB μ i = true := decide_eq_true (Decidable.not_not.mp c2)
      rw [if_pos c3] at es
      left
      refine ⟨zi_set (zi_set L 2 (.int (nI (zl_ct (zv_nB μ) i + 1)))) 3 (.int (nI (i + 1))), zm_mk μ, ⟨0, 16, fun F m hF => ?_⟩, by omega, ?_, ?_, zi_get_set_eq, rfl, by rw [es]; simp (maxDischargeDepth := 9) [zi_get_ne, zi_nl_i, zi_nl_r, zi_get_set_eq, nl]⟩
      · simp (maxDischargeDepth := 9) [zg_0, zg_aload_n, zg_baload, zg_bipush, zg_getfield, zg_goto, zg_iadd, zg_iaload, zg_iconst, zg_ifCond, zg_if_icmp, zg_iinc, zg_iload_n, zg_ireturn, zg_istore_n, zg_ldc, zg_ldc_w, zg_tableswitch, zf_X6_count, zi_ld, zi_lda, zi_cmp, zi_retOk, zi_isI, zi_f3, zi_cr, zi_ci, zi_cn, zi_get_ne, zi_nl_i, zi_nl_r, zi_get_set_eq, nl, g0, g3, h10, c1, zM_g, zm_iald (k := 0) zM_A234 ik, ck, Decidable.not_not.mp c2, hq, nI_1]
      · simp (maxDischargeDepth := 9) [zi_get_ne, zi_nl_i, zi_nl_r, zi_get_set_eq, nl]
      · simp (maxDischargeDepth := 9) [zi_get_ne, zi_nl_i, zi_nl_r, zi_get_set_eq, nl, g0]
  · rintro L _ ⟨-, nl, g0, g3, rfl, hq⟩
    have c1 : (10 : Int32) ≤ nI 10 := by decide
    refine ⟨_, zm_mk μ, ⟨0, 5, fun F m hF => ?_⟩, rfl, rfl⟩
    simp [zg_0, zg_aload_n, zg_baload, zg_bipush, zg_getfield, zg_goto, zg_iadd, zg_iaload, zg_iconst, zg_ifCond, zg_if_icmp, zg_iinc, zg_iload_n, zg_ireturn, zg_istore_n, zg_ldc, zg_ldc_w, zg_tableswitch, zf_X6_count, zi_ld, zi_lda, zi_cmp, zi_retOk, zi_isI, zi_f3, zi_cr, zi_ci, zi_cn, g0, g3, hq, h10, c1]
noncomputable def zv_nC (μ : zm_M) (i : Nat) : Bool := decide (¬ μ 251 i = 0)
theorem zv_ctC_v (D : Nat) (L0 : zi_Lc) (nl0 : zi_nl L0 = true) (a0 : zi_get L0 0 = some (.ref 232)) (a2 : zi_get L0 2 = some (.int (nI 0))) (a3 : zi_get L0 3 = some (.int (nI 0))) : ∃ r h', ze_G D 4 (some .int) zc_X6_count 138 L0 [] (zm_mk μ) r h' ∧ (r = some (.int (nI (zl_ct (zv_nC μ) 3))) ∧ zm_mk μ = h') := by
  refine ze_loop (Q := fun i L hp => i ≤ 3 ∧ zi_nl L = true ∧ zi_get L 0 = some (.ref 232) ∧ zi_get L 3 = some (.int (nI i)) ∧ zm_mk μ = hp ∧ (zi_get L 2 = some (.int (nI (zl_ct (zv_nC μ) i))))) (R := fun r h' => r = some (.int (nI (zl_ct (zv_nC μ) 3))) ∧ zm_mk μ = h') 3 ?_ ?_ 3 0 _ _ (by omega) ⟨by omega, nl0, a0, a3, rfl, a2⟩
  · rintro i L _ hi ⟨-, nl, g0, g3, rfl, hq⟩
    have c1 : ¬ (3 : Int32) ≤ nI i := nI_ge (b := 3) hi (by decide)
    have ik : zi_in (nI i) 3 = true := zm_in hi (by decide)
    have ck : (nI i).toNatClampNeg = i := nI_clamp (by omega)
    have es : zl_ct (zv_nC μ) (i + 1) = zl_ct (zv_nC μ) i + if zv_nC μ i = true then 1 else 0 := rfl
    by_cases c2 : μ 251 i = 0
    · have c3 : ¬ zv_nC μ i = true := fun z => of_decide_eq_true z c2
      rw [if_neg c3, Nat.add_zero] at es
      left
      refine ⟨zi_set (zi_set L 2 (.int (nI (zl_ct (zv_nC μ) i)))) 3 (.int (nI (i + 1))), zm_mk μ, ⟨0, 14, fun F m hF => ?_⟩, by omega, ?_, ?_, zi_get_set_eq, rfl, by rw [es]; simp (maxDischargeDepth := 9) [zi_get_ne, zi_nl_i, zi_nl_r, zi_get_set_eq, nl]⟩
      · simp (maxDischargeDepth := 9) [zg_0, zg_aload_n, zg_baload, zg_bipush, zg_getfield, zg_goto, zg_iadd, zg_iaload, zg_iconst, zg_ifCond, zg_if_icmp, zg_iinc, zg_iload_n, zg_ireturn, zg_istore_n, zg_ldc, zg_ldc_w, zg_tableswitch, zf_X6_count, zi_ld, zi_lda, zi_cmp, zi_retOk, zi_isI, zi_f3, zi_cr, zi_ci, zi_cn, zi_get_ne, zi_nl_i, zi_nl_r, zi_get_set_eq, nl, g0, g3, c1, zM_g, zm_bald zM_A251 ik, ck, c2, hq, nI_1]
      · simp (maxDischargeDepth := 9) [zi_get_ne, zi_nl_i, zi_nl_r, zi_get_set_eq, nl]
      · simp (maxDischargeDepth := 9) [zi_get_ne, zi_nl_i, zi_nl_r, zi_get_set_eq, nl, g0]
    · have c3 : zv_nC μ i = true := decide_eq_true (c2)
      rw [if_pos c3] at es
      left
      refine ⟨zi_set (zi_set L 2 (.int (nI (zl_ct (zv_nC μ) i + 1)))) 3 (.int (nI (i + 1))), zm_mk μ, ⟨0, 15, fun F m hF => ?_⟩, by omega, ?_, ?_, zi_get_set_eq, rfl, by rw [es]; simp (maxDischargeDepth := 9) [zi_get_ne, zi_nl_i, zi_nl_r, zi_get_set_eq, nl]⟩
      · simp (maxDischargeDepth := 9) [zg_0, zg_aload_n, zg_baload, zg_bipush, zg_getfield, zg_goto, zg_iadd, zg_iaload, zg_iconst, zg_ifCond, zg_if_icmp, zg_iinc, zg_iload_n, zg_ireturn, zg_istore_n, zg_ldc, zg_ldc_w, zg_tableswitch, zf_X6_count, zi_ld, zi_lda, zi_cmp, zi_retOk, zi_isI, zi_f3, zi_cr, zi_ci, zi_cn, zi_get_ne, zi_nl_i, zi_nl_r, zi_get_set_eq, nl, g0, g3, c1, zM_g, zm_bald zM_A251 ik, ck, c2, hq, nI_1]
      · simp (maxDischargeDepth := 9) [zi_get_ne, zi_nl_i, zi_nl_r, zi_get_set_eq, nl]
      · simp (maxDischargeDepth := 9) [zi_get_ne, zi_nl_i, zi_nl_r, zi_get_set_eq, nl, g0]
  · rintro L _ ⟨-, nl, g0, g3, rfl, hq⟩
    have c1 : (3 : Int32) ≤ nI 3 := by decide
    refine ⟨_, zm_mk μ, ⟨0, 5, fun F m hF => ?_⟩, rfl, rfl⟩
    simp [zg_0, zg_aload_n, zg_baload, zg_bipush, zg_getfield, zg_goto, zg_iadd, zg_iaload, zg_iconst, zg_ifCond, zg_if_icmp, zg_iinc, zg_iload_n, zg_ireturn, zg_istore_n, zg_ldc, zg_ldc_w, zg_tableswitch, zf_X6_count, zi_ld, zi_lda, zi_cmp, zi_retOk, zi_isI, zi_f3, zi_cr, zi_ci, zi_cn, g0, g3, hq, c1]
end ZXC
end
section
/-! count: the same answer on both sides -/
section ZXD
variable {μ : zm_M} {row stk : List Nat} {Rs : Nat → List Nat} {ts : Nat → zy_F}
set_option maxRecDepth 100000 in
theorem ze_count_v (D : Nat) (hr1 : zr_L μ 3 row) {j : Nat} (hj : j < 6) {v : Int32} (e0 : j = 0 → v = nI (zl_ct (zd_sth μ) 3)) (e1 : j = 1 → v = nI (zl_ct (zd_und μ 0) 10)) (e2 : j = 2 → v = nI (zl_ct (zd_und μ 1) 10)) (e3 : j = 3 → v = nI (zl_ct (zd_und μ 2) 10)) (e4 : j = 4 → v = if row.length = 0 then -1000000005 else nI (row.getD 0 0)) (e5 : j = 5 → v = nI (zl_ct (zd_kth μ) 3)) : ze_E (D + 3) A_Desk_count [.ref 1, .int (nI j)] (zm_mk μ) (some (.int v)) (zm_mk μ) := by
  have n5 : Int32.ofInt (-1000000005) = -1000000005 := by decide
  match j, hj with
  | 0, _ =>
    have t0 : (nI 0).toInt = 0 := by decide
    obtain ⟨N1, E1⟩ := ze_screensThere_v (μ := μ) (D + 1)
    rw [← e0 rfl] at E1
    refine ze_in [(0, .ref 1), (1, .int (nI 0))] zq_Desk_count (Nat.le_of_ble_eq_true rfl) rfl ⟨N1, 5, fun F n hF => ?_⟩
    simp [zg_0, zg_aload_n, zg_getfield, zg_goto, zg_iconst, zg_ifCond, zg_iload_n, zg_invokevirtual, zg_ireturn, zg_ldc, zg_tableswitch, zf_X5_count, zi_ld, zi_lda, zi_cmp, zi_retOk, zi_isI, zi_f3, zi_cr, zi_ci, zi_cn, zi_get, zi_set, t0, zq_Desk_screensThere, zd_c, E1 F (by omega)]
  | 1, _ =>
    have t0 : (nI 1).toInt = 1 := by decide
    obtain ⟨N1, E1⟩ := ze_windowsUnder_v (μ := μ) D 0
    rw [← e1 rfl] at E1
    refine ze_in [(0, .ref 1), (1, .int (nI 1))] zq_Desk_count (Nat.le_of_ble_eq_true rfl) rfl ⟨N1, 6, fun F n hF => ?_⟩
    simp [zg_0, zg_aload_n, zg_getfield, zg_goto, zg_iconst, zg_ifCond, zg_iload_n, zg_invokevirtual, zg_ireturn, zg_ldc, zg_tableswitch, zf_X5_count, zi_ld, zi_lda, zi_cmp, zi_retOk, zi_isI, zi_f3, zi_cr, zi_ci, zi_cn, zi_get, zi_set, t0, zq_Desk_windowsUnder, zd_c, E1 F (by omega)]
  | 2, _ =>
    have t0 : (nI 2).toInt = 2 := by decide
    obtain ⟨N1, E1⟩ := ze_windowsUnder_v (μ := μ) D 1
    rw [← e2 rfl] at E1
    refine ze_in [(0, .ref 1), (1, .int (nI 2))] zq_Desk_count (Nat.le_of_ble_eq_true rfl) rfl ⟨N1, 6, fun F n hF => ?_⟩
    simp [zg_0, zg_aload_n, zg_getfield, zg_goto, zg_iconst, zg_ifCond, zg_iload_n, zg_invokevirtual, zg_ireturn, zg_ldc, zg_tableswitch, zf_X5_count, zi_ld, zi_lda, zi_cmp, zi_retOk, zi_isI, zi_f3, zi_cr, zi_ci, zi_cn, zi_get, zi_set, t0, zq_Desk_windowsUnder, zd_c, E1 F (by omega)]
  | 3, _ =>
    have t0 : (nI 3).toInt = 3 := by decide
    obtain ⟨N1, E1⟩ := ze_windowsUnder_v (μ := μ) D 2
    rw [← e3 rfl] at E1
    refine ze_in [(0, .ref 1), (1, .int (nI 3))] zq_Desk_count (Nat.le_of_ble_eq_true rfl) rfl ⟨N1, 6, fun F n hF => ?_⟩
    simp [zg_0, zg_aload_n, zg_getfield, zg_goto, zg_iconst, zg_ifCond, zg_iload_n, zg_invokevirtual, zg_ireturn, zg_ldc, zg_tableswitch, zf_X5_count, zi_ld, zi_lda, zi_cmp, zi_retOk, zi_isI, zi_f3, zi_cr, zi_ci, zi_cn, zi_get, zi_set, t0, zq_Desk_windowsUnder, zd_c, E1 F (by omega)]
  | 4, _ =>
    have t0 : (nI 4).toInt = 4 := by decide
    obtain ⟨N1, E1⟩ := ze_Row_sizeL (μ := μ) (D + 1) zd3_at hr1
    have cr := zr_c (μ := μ) zd3_at
    have e4 := e4 rfl
    by_cases c : row.length = 0
    · have e : nI row.length = 0 := by rw [c]; exact nI_0
      rw [e] at E1
      rw [if_pos c] at e4
      subst e4
      refine ze_in [(0, .ref 1), (1, .int (nI 4))] zq_Desk_count (Nat.le_of_ble_eq_true rfl) rfl ⟨N1, 9, fun F n hF => ?_⟩
      simp [zg_0, zg_aload_n, zg_getfield, zg_goto, zg_iconst, zg_ifCond, zg_iload_n, zg_invokevirtual, zg_ireturn, zg_ldc, zg_tableswitch, zf_X5_count, zi_ld, zi_lda, zi_cmp, zi_retOk, zi_isI, zi_f3, zi_cr, zi_ci, zi_cn, zi_get, zi_set, t0, zd_g, zq_Row_size, cr, E1 F (by omega), n5]
    · obtain ⟨N2, E2⟩ := ze_Row_getL (μ := μ) (i := 0) (D + 1) zd3_at hr1 (by omega)
      rw [nI_0] at E2
      have hl := hr1.1
      have e : ¬ nI row.length = 0 := fun q => c ((nI_eq (b := 0) (by omega) (by decide)).mp q)
      rw [if_neg c] at e4
      rw [← e4] at E2
      refine ze_in [(0, .ref 1), (1, .int (nI 4))] zq_Desk_count (Nat.le_of_ble_eq_true rfl) rfl ⟨N1 + N2, 11, fun F n hF => ?_⟩
      simp [zg_0, zg_aload_n, zg_getfield, zg_goto, zg_iconst, zg_ifCond, zg_iload_n, zg_invokevirtual, zg_ireturn, zg_ldc, zg_tableswitch, zf_X5_count, zi_ld, zi_lda, zi_cmp, zi_retOk, zi_isI, zi_f3, zi_cr, zi_ci, zi_cn, zi_get, zi_set, t0, zd_g, zq_Row_size, cr, E1 F (by omega), e, zq_Row_get, E2 F (by omega)]
  | 5, _ =>
    have t0 : (nI 5).toInt = 5 := by decide
    obtain ⟨N1, E1⟩ := ze_screensWithKept_v (μ := μ) (D + 1)
    rw [← e5 rfl] at E1
    refine ze_in [(0, .ref 1), (1, .int (nI 5))] zq_Desk_count (Nat.le_of_ble_eq_true rfl) rfl ⟨N1, 5, fun F n hF => ?_⟩
    simp [zg_0, zg_aload_n, zg_getfield, zg_goto, zg_iconst, zg_ifCond, zg_iload_n, zg_invokevirtual, zg_ireturn, zg_ldc, zg_tableswitch, zf_X5_count, zi_ld, zi_lda, zi_cmp, zi_retOk, zi_isI, zi_f3, zi_cr, zi_ci, zi_cn, zi_get, zi_set, t0, zq_Desk_screensWithKept, zd_c, E1 F (by omega)]
set_option maxRecDepth 100000 in
theorem ze_count_bad (D : Nat) {x : Int32} (ho : x < 0 ∨ nI 6 ≤ x) : ze_E (D + 3) A_Desk_count [.ref 1, .int x] (zm_mk μ) (some (.int (-1000000001))) (zm_mk μ) := by
  have n4 : Int32.ofInt (-1000000001) = -1000000001 := by decide
  have ho' : x.toInt < 0 ∨ 5 < x.toInt := by
    rcases zd_sw (by decide) ho with q | q
    · exact Or.inl q
    · right; omega
  refine ze_in [(0, .ref 1), (1, .int x)] zq_Desk_count (Nat.le_of_ble_eq_true rfl) rfl ⟨0, 4, fun F n hF => ?_⟩
  simp [zg_0, zg_aload_n, zg_getfield, zg_goto, zg_iconst, zg_ifCond, zg_iload_n, zg_invokevirtual, zg_ireturn, zg_ldc, zg_tableswitch, zf_X5_count, zi_ld, zi_lda, zi_cmp, zi_retOk, zi_isI, zi_f3, zi_cr, zi_ci, zi_cn, zi_get, zi_set, ho', n4]
set_option maxRecDepth 100000 in
theorem ze_Mcount_v (D : Nat) {j : Nat} (hj : j < 6) {v : Int32} (e0 : j = 0 → v = nI (zl_ct (zv_nA μ) 3)) (e1 : j = 1 → v = μ 231 12) (e2 : j = 2 → v = nI (zl_ct (zv_nB μ) 10)) (e3 : j = 3 → v = μ 231 10) (e4 : j = 4 → v = if μ 231 12 ≤ 0 then -1000000005 else μ 242 0) (e5 : j = 5 → v = nI (zl_ct (zv_nC μ) 3)) : ze_E (D + 1) A_Mod_count [.ref 232, .int (nI j)] (zm_mk μ) (some (.int v)) (zm_mk μ) := by
  have n5 : Int32.ofInt (-1000000005) = -1000000005 := by decide
  have i0 : zi_in (0 : Int32) 10 = true := by decide
  have z0 : (0 : Int32).toNatClampNeg = 0 := by decide
  refine ze_in [(0, .ref 232), (1, .int (nI j))] zq_Mod_count (Nat.le_of_ble_eq_true rfl) rfl ?_
  match j, hj with
  | 0, _ =>
    have t0 : (nI 0).toInt = 0 := by decide
    obtain ⟨r, h', G, rfl, rfl⟩ := zv_ctA_v (μ := μ) D [(3, .int (nI 0)), (2, .int (nI 0)), (0, .ref 232), (1, .int (nI 0))] rfl rfl rfl rfl
    rw [← e0 rfl] at G
    refine ze_S.end ⟨0, 6, fun F n hF => ?_⟩ G
    simp [zg_0, zg_aload_n, zg_baload, zg_bipush, zg_getfield, zg_goto, zg_iadd, zg_iaload, zg_iconst, zg_ifCond, zg_if_icmp, zg_iinc, zg_iload_n, zg_ireturn, zg_istore_n, zg_ldc, zg_ldc_w, zg_tableswitch, zf_X6_count, zi_ld, zi_lda, zi_cmp, zi_retOk, zi_isI, zi_f3, zi_cr, zi_ci, zi_cn, zi_get, zi_set, t0, nI_0]
  | 1, _ =>
    have t0 : (nI 1).toInt = 1 := by decide
    rw [e1 rfl]
    refine ⟨0, 7, fun F n hF => ?_⟩
    simp [zg_0, zg_aload_n, zg_baload, zg_bipush, zg_getfield, zg_goto, zg_iadd, zg_iaload, zg_iconst, zg_ifCond, zg_if_icmp, zg_iinc, zg_iload_n, zg_ireturn, zg_istore_n, zg_ldc, zg_ldc_w, zg_tableswitch, zf_X6_count, zi_ld, zi_lda, zi_cmp, zi_retOk, zi_isI, zi_f3, zi_cr, zi_ci, zi_cn, zi_get, zi_set, t0, zM_g]
  | 2, _ =>
    have t0 : (nI 2).toInt = 2 := by decide
    obtain ⟨r, h', G, rfl, rfl⟩ := zv_ctB_v (μ := μ) D [(3, .int (nI 0)), (2, .int (nI 0)), (0, .ref 232), (1, .int (nI 2))] rfl rfl rfl rfl
    rw [← e2 rfl] at G
    refine ze_S.end ⟨0, 6, fun F n hF => ?_⟩ G
    simp [zg_0, zg_aload_n, zg_baload, zg_bipush, zg_getfield, zg_goto, zg_iadd, zg_iaload, zg_iconst, zg_ifCond, zg_if_icmp, zg_iinc, zg_iload_n, zg_ireturn, zg_istore_n, zg_ldc, zg_ldc_w, zg_tableswitch, zf_X6_count, zi_ld, zi_lda, zi_cmp, zi_retOk, zi_isI, zi_f3, zi_cr, zi_ci, zi_cn, zi_get, zi_set, t0, nI_0]
  | 3, _ =>
    have t0 : (nI 3).toInt = 3 := by decide
    rw [e3 rfl]
    refine ⟨0, 7, fun F n hF => ?_⟩
    simp [zg_0, zg_aload_n, zg_baload, zg_bipush, zg_getfield, zg_goto, zg_iadd, zg_iaload, zg_iconst, zg_ifCond, zg_if_icmp, zg_iinc, zg_iload_n, zg_ireturn, zg_istore_n, zg_ldc, zg_ldc_w, zg_tableswitch, zf_X6_count, zi_ld, zi_lda, zi_cmp, zi_retOk, zi_isI, zi_f3, zi_cr, zi_ci, zi_cn, zi_get, zi_set, t0, zM_g]
  | 4, _ =>
    have t0 : (nI 4).toInt = 4 := by decide
    have e4 := e4 rfl
    by_cases c : μ 231 12 ≤ 0
    · rw [if_pos c] at e4
      subst e4
      refine ⟨0, 9, fun F n hF => ?_⟩
      simp [zg_0, zg_aload_n, zg_baload, zg_bipush, zg_getfield, zg_goto, zg_iadd, zg_iaload, zg_iconst, zg_ifCond, zg_if_icmp, zg_iinc, zg_iload_n, zg_ireturn, zg_istore_n, zg_ldc, zg_ldc_w, zg_tableswitch, zf_X6_count, zi_ld, zi_lda, zi_cmp, zi_retOk, zi_isI, zi_f3, zi_cr, zi_ci, zi_cn, zi_get, zi_set, t0, zM_g, c, n5]
    · rw [if_neg c] at e4
      subst e4
      refine ⟨0, 13, fun F n hF => ?_⟩
      simp [zg_0, zg_aload_n, zg_baload, zg_bipush, zg_getfield, zg_goto, zg_iadd, zg_iaload, zg_iconst, zg_ifCond, zg_if_icmp, zg_iinc, zg_iload_n, zg_ireturn, zg_istore_n, zg_ldc, zg_ldc_w, zg_tableswitch, zf_X6_count, zi_ld, zi_lda, zi_cmp, zi_retOk, zi_isI, zi_f3, zi_cr, zi_ci, zi_cn, zi_get, zi_set, t0, zM_g, c, zm_iald (k := 0) zM_A242 i0, z0]
  | 5, _ =>
    have t0 : (nI 5).toInt = 5 := by decide
    obtain ⟨r, h', G, rfl, rfl⟩ := zv_ctC_v (μ := μ) D [(3, .int (nI 0)), (2, .int (nI 0)), (0, .ref 232), (1, .int (nI 5))] rfl rfl rfl rfl
    rw [← e5 rfl] at G
    refine ze_S.end ⟨0, 6, fun F n hF => ?_⟩ G
    simp [zg_0, zg_aload_n, zg_baload, zg_bipush, zg_getfield, zg_goto, zg_iadd, zg_iaload, zg_iconst, zg_ifCond, zg_if_icmp, zg_iinc, zg_iload_n, zg_ireturn, zg_istore_n, zg_ldc, zg_ldc_w, zg_tableswitch, zf_X6_count, zi_ld, zi_lda, zi_cmp, zi_retOk, zi_isI, zi_f3, zi_cr, zi_ci, zi_cn, zi_get, zi_set, t0, nI_0]
set_option maxRecDepth 100000 in
theorem ze_Mcount_bad (D : Nat) {x : Int32} (ho : x < 0 ∨ nI 6 ≤ x) : ze_E (D + 1) A_Mod_count [.ref 232, .int x] (zm_mk μ) (some (.int (-1000000001))) (zm_mk μ) := by
  have n4 : Int32.ofInt (-1000000001) = -1000000001 := by decide
  have ho' : x.toInt < 0 ∨ 5 < x.toInt := by
    rcases zd_sw (by decide) ho with q | q
    · exact Or.inl q
    · right; omega
  refine ze_in [(0, .ref 232), (1, .int x)] zq_Mod_count (Nat.le_of_ble_eq_true rfl) rfl ⟨0, 6, fun F n hF => ?_⟩
  simp [zg_0, zg_aload_n, zg_baload, zg_bipush, zg_getfield, zg_goto, zg_iadd, zg_iaload, zg_iconst, zg_ifCond, zg_if_icmp, zg_iinc, zg_iload_n, zg_ireturn, zg_istore_n, zg_ldc, zg_ldc_w, zg_tableswitch, zf_X6_count, zi_ld, zi_lda, zi_cmp, zi_retOk, zi_isI, zi_f3, zi_cr, zi_ci, zi_cn, zi_get, zi_set, ho', n4]
end ZXD
section ZXD2
variable {M ξ μ : zm_M} {row stkC stk ord : List Nat} {Rs : Nat → List Nat} {ts us : Nat → zy_F}
theorem zK_flo2 (h : zK ξ μ row stkC stk ord Rs ts us) {k : Nat} (hk : k < 10) : zd_und ξ 2 k = zd_flo ξ k := by
  unfold zd_und zd_flo
  refine decide_eq_decide.mpr ⟨fun ⟨a, b⟩ => ⟨a, ?_⟩, fun ⟨a, b⟩ => ⟨a, Or.inr (Or.inr ⟨rfl, b⟩)⟩⟩
  rcases b with b | b | b
  · rw [b]; decide
  · exact absurd b (by decide)
  · exact b.2
theorem zK_und1 (h : zK ξ μ row stkC stk ord Rs ts us) {k : Nat} (hk : k < 10) : zd_und ξ 1 k = zv_nB μ k := by
  unfold zd_und zv_nB
  refine decide_eq_decide.mpr ?_
  have h2 := h.2.2.1.1 k hk
  cases e : zd_th ξ k with
  | false =>
    rw [h2.1 e]
    exact ⟨fun z => absurd (of_decide_eq_false e z.1) id, fun z => absurd z (by decide)⟩
  | true =>
    rw [(h2.2 e).1]
    refine ⟨fun ⟨a, b⟩ => ?_, fun b => ⟨of_decide_eq_true e, Or.inl b⟩⟩
    rcases b with b | b | b
    · exact b
    · exact absurd b (by decide)
    · exact absurd b.1 (by decide)
theorem zK_row (h : zK ξ μ row stkC stk ord Rs ts us) : row.length = zl_ct (zd_und ξ 0) 10 := by
  refine zl_ct_len 10 row h.1.1.2.1 (fun k => ?_)
  rw [h.1.1.2.2 k]
  refine and_congr_right (fun hk => ?_)
  unfold zd_und zd_th
  rw [decide_eq_true_iff, decide_eq_true_iff]
  exact ⟨fun z => ⟨z, Or.inr (Or.inl rfl)⟩, fun z => z.1⟩
theorem zK_stl (h : zK ξ μ row stkC stk ord Rs ts us) : stk.length = zl_ct (zd_und ξ 2) 10 := by
  rw [zl_ct_congr 10 (fun k hk => zK_flo2 h hk)]
  exact zl_ct_len 10 stk h.2.1.2.2.1 h.2.1.2.2.2
theorem zK_sth (h : zK ξ μ row stkC stk ord Rs ts us) {s : Nat} (hs : s < 3) : zd_sth ξ s = zv_nA μ s := by
  unfold zd_sth zv_nA
  refine decide_eq_decide.mpr ?_
  have h2 := h.2.2.1.2 s hs
  by_cases c : ξ (zdS s) 3 = 0
  · rw [(h2.1 c).1]
    exact ⟨fun z => absurd c z, fun z => absurd z (by decide)⟩
  · rw [(h2.2 c).1]
    have := (h.1.2.2.2.2.2 s hs c).1.1
    exact ⟨fun _ => Int32.lt_of_lt_of_le (by decide) this, fun _ => c⟩
theorem zK_kth (h : zK ξ μ row stkC stk ord Rs ts us) {s : Nat} (hs : s < 3) : zd_kth ξ s = zv_nC μ s := by
  unfold zd_kth zv_nC
  exact decide_eq_decide.mpr (not_congr ((h.2.2.2.2.2.2.2 s hs).1).symm)
theorem zW_count_e (h : zW M) (x : Int32) : zW_e M A_Desk_count A_Mod_count [.int x] := by
  have hW := h
  obtain ⟨row, stkC, stk, ord, Rs, ts, us, h⟩ := h
  rcases zd_rng x 6 (by decide) with ⟨j, hj, rfl⟩ | ho
  · have q0 : zl_ct (zd_sth M) 3 = zl_ct (zv_nA M) 3 := zl_ct_congr 3 (fun s hs => zK_sth h hs)
    have q1 : M 231 12 = nI (zl_ct (zd_und M 0) 10) := by rw [h.2.1.1.2.1, zK_row h]
    have q2 : zl_ct (zd_und M 1) 10 = zl_ct (zv_nB M) 10 := zl_ct_congr 10 (fun k hk => zK_und1 h hk)
    have q3 : M 231 10 = nI (zl_ct (zd_und M 2) 10) := by rw [h.2.1.2.1.2.1, zK_stl h]
    have q5 : zl_ct (zd_kth M) 3 = zl_ct (zv_nC M) 3 := zl_ct_congr 3 (fun s hs => zK_kth h hs)
    have q4 : (if M 231 12 ≤ 0 then -1000000005 else M 242 0) = (if row.length = 0 then -1000000005 else nI (row.getD 0 0) : Int32) := by
      have hL := h.2.1.1
      have l10 := hL.1
      rw [hL.2.1]
      by_cases c : row.length = 0
      · rw [if_pos c, if_pos (by rw [c]; decide)]
      · have : ∀ n, n < 11 → ¬ n = 0 → ¬ nI n ≤ 0 := by decide
        rw [if_neg c, if_neg (this _ (by omega) c), hL.2.2 0 (by omega)]
    refine ⟨M, M, if j = 0 then nI (zl_ct (zd_sth M) 3) else if j = 1 then nI (zl_ct (zd_und M 0) 10) else if j = 2 then nI (zl_ct (zd_und M 1) 10) else if j = 3 then nI (zl_ct (zd_und M 2) 10) else if j = 4 then (if row.length = 0 then -1000000005 else nI (row.getD 0 0)) else nI (zl_ct (zd_kth M) 3), ze_count_v 61 h.1.1.1 hj ?_ ?_ ?_ ?_ ?_ ?_, ze_Mcount_v 63 hj ?_ ?_ ?_ ?_ ?_ ?_, hW⟩
    · rintro rfl; rfl
    · rintro rfl; rfl
    · rintro rfl; rfl
    · rintro rfl; rfl
    · rintro rfl; rfl
    · rintro rfl; rfl
    · rintro rfl; rw [← q0]; rfl
    · rintro rfl; rw [q1]; rfl
    · rintro rfl; rw [← q2]; rfl
    · rintro rfl; rw [q3]; rfl
    · rintro rfl; rw [q4]; rfl
    · rintro rfl; rw [← q5]; rfl
  · exact ⟨M, M, _, ze_count_bad 61 ho, ze_Mcount_bad 63 ho, hW⟩
end ZXD2
end
