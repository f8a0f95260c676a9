/-! side by side: gone -/
section ZKU
variable {ξ μ ν ξ' μ' ξ2 θ θ2 : zm_M} {row stkC stk ord : List Nat} {Rs Rs' : Nat → List Nat} {ts ts' us : Nat → zy_F} {W : List Nat} {u2 t2 : zy_F} {s o k j : Nat} {emp : Bool} {n0 n1 : Nat}
/-- on a screen, on both sides -/
theorem zK_on (h : zK ξ μ row stkC stk ord Rs ts us) (hk : k < 10) : zd_on ξ (nI s) k = zv_ons μ s k ∧ zd_loose ξ (nI s) k = zv_on μ k (nI s) := by
  have hR := zK_R h
  obtain ⟨-, -, q3⟩ := zK_kind h hk
  cases c : zd_th ξ k with
  | false =>
    have e0 := (h.2.2.1.1 k hk).1 c
    have c' : ¬ ¬ ξ (zdW k) 2 = 0 := fun z => by
      have : zd_th ξ k = true := decide_eq_true z
      rw [c] at this
      cases this
    unfold zd_on zv_ons zd_loose zv_on
    rw [decide_eq_decide, decide_eq_decide, e0]
    exact ⟨⟨fun z => absurd z.1 c', fun z => absurd z.1 (by decide)⟩, ⟨fun z => absurd z.1 c', fun z => absurd z.1 (by decide)⟩⟩
  | true =>
    obtain ⟨e1, -, -, e4⟩ := (h.2.2.1.1 k hk).2 c
    have c' := of_decide_eq_true c
    have k4 := (h.1.2.2.1 k hk c).1
    have p0 : 0 < μ 234 k := by
      rw [e1]
      rcases k4 with z | z | z | z <;> rw [z] <;> decide
    have p1 : 1 < μ 234 k ↔ ¬ ξ (zdW k) 3 = 1 := by
      rw [e1]
      rcases k4 with z | z | z | z <;> rw [z] <;> decide
    unfold zd_on zv_ons zd_loose zv_on
    rw [decide_eq_decide, decide_eq_decide, p1]
    refine ⟨⟨fun z => ⟨p0, by rw [e1]; exact z.2.1, (e4 z.2.1).trans z.2.2⟩, fun z => ?_⟩, ⟨fun z => ⟨z.2.2.2, by rw [e1]; exact z.2.1, (e4 z.2.1).trans z.2.2.1⟩, fun z => ?_⟩⟩
    · have z1 : ¬ ξ (zdW k) 3 = 4 := by rw [← e1]; exact z.2.1
      exact ⟨c', z1, (e4 z1).symm.trans z.2.2⟩
    · have z1 : ¬ ξ (zdW k) 3 = 4 := by rw [← e1]; exact z.2.1
      exact ⟨c', z1, (e4 z1).symm.trans z.2.2, z.1⟩
theorem zK_lso (h : zK ξ μ row stkC stk ord Rs ts us) : zd_lsb ξ (nI s) = zv_lso μ s := by
  unfold zd_lsb zv_lso
  refine zl_fi_congr 3 0 (fun j _ hj => ?_)
  rw [decide_eq_decide, ← zK_scn h (by omega : j < 3)]
/-- the trees behind a screen that goes -/
def zv_goU (us : Nat → zy_F) (s o : Nat) (u2 : zy_F) : Nat → zy_F := fun q => if q = o then u2 else if q = s then .nil else if q = 3 + s then us s else us q
theorem zK0_gne (h : zK ξ μ row stkC stk ord Rs ts us) (hs : s < 3) (ho : o < 3) (hso : s ≠ o) (hW : W = (zy_lvs (ts s)).flatMap (zt_tb ξ (zdT s) (Rs s))) (hC2 : zt_C ξ2 7 (Rs o ++ W) t2) (hz2 : zs ξ2 7 (Rs o ++ W) t2 θ2 6 u2)
    (f : ∀ c d, ¬ zJ_irr c → zt_out (zdT s) c → zt_out (zdT o) c → zt_out (zdV s) c → c ≠ zdQ s → ¬ (c = zdK s ∧ d = 3) → ¬ (c = zdS s ∧ d = 3) → (∀ j, j < 10 → c = zdW j → d ≠ 5) → ξ' c d = ξ c d) (fS : ξ' (zdS s) 3 = 0) (fK : ξ' (zdK s) 3 = (if 0 < zl_ct (zd_on ξ (nI s)) 10 then 1 else 0)) (f5 : ∀ j, j < 10 → ξ' (zdW j) 5 = if zd_on ξ (nI s) j = true then nI o else ξ (zdW j) 5) (fQ : ∀ j, j < 10 → ξ' (zdQ s) j = if zd_loose ξ (nI s) j = true then 1 else 0) (fV : zt_isCopy ξ (zdT s) ξ' (zdV s)) (fC : zt_isCopy ξ2 7 ξ' (zdT o)) (g : zv_gne μ θ2 μ' s o (W.length + zl_ct (fun k => zv_on μ k (nI s)) 10)) : zK0 ξ' μ' ord (zd_goR Rs s o (Rs o ++ W)) (zd_goT ts s o t2) (zv_goU us s o u2) := by
  have hK := h
  obtain ⟨h1, h4, h2, h3, h5, h6, h7⟩ := h
  obtain ⟨g3, go, gs, g251, g252, g238, ⟨gz1, gz2⟩, g⟩ := g
  have hon : ∀ k, k < 10 → zd_on ξ (nI s) k = zv_ons μ s k := fun k hk => (zK_on hK hk).1
  have hlo : ∀ k, k < 10 → zd_loose ξ (nI s) k = zv_on μ k (nI s) := fun k hk => (zK_on hK hk).2
  have oW : ∀ j, j < 10 → (∀ q, q < 3 → zt_out (zdT q) (zdW j) ∧ zt_out (zdT q) (zdW j + 1)) ∧ zt_out (zdV s) (zdW j) ∧ zt_out (zdV s) (zdW j + 1) := fun j hj => ⟨fun q hq => ⟨by unfold zt_out zdT zdW; omega, by unfold zt_out zdT zdW; omega⟩, by unfold zt_out zdV zdW; omega, by unfold zt_out zdV zdW; omega⟩
  have eW : ∀ j d, j < 10 → d ≠ 5 → ξ' (zdW j) d = ξ (zdW j) d := fun j d hj hd => f _ _ (zJn_W hj).1 ((oW j hj).1 s hs).1 ((oW j hj).1 o ho).1 (oW j hj).2.1 (by unfold zdW zdQ; omega) (by unfold zdW zdK; omega) (by unfold zdW zdS; omega) (fun _ _ _ => hd)
  have eL : ∀ j, j < 10 → ξ' (zdW j + 1) = ξ (zdW j + 1) := fun j hj => funext fun d => f _ _ (zJn_W hj).2 ((oW j hj).1 s hs).2 ((oW j hj).1 o ho).2 (oW j hj).2.2 (by unfold zdW zdQ; omega) (by unfold zdW zdK; omega) (by unfold zdW zdS; omega) (fun i hi e => by unfold zdW at e; omega)
  have eS : ∀ q, q < 3 → q ≠ s → ξ' (zdS q) = ξ (zdS q) ∧ ξ' (zdK q) = ξ (zdK q) ∧ ξ' (zdQ q) = ξ (zdQ q) := fun q hq hne => ⟨funext fun d => f _ _ (zJn_S hq).1 (by unfold zt_out zdT zdS; omega) (by unfold zt_out zdT zdS; omega) (by unfold zt_out zdV zdS; omega) (by unfold zdS zdQ; omega) (by unfold zdS zdK; omega) (by unfold zdS; omega) (fun i hi e => by unfold zdS zdW at e; omega),
    funext fun d => f _ _ (zJn_S hq).2.2.1 (by unfold zt_out zdT zdK; omega) (by unfold zt_out zdT zdK; omega) (by unfold zt_out zdV zdK; omega) (by unfold zdK zdQ; omega) (by unfold zdK; omega) (by unfold zdK zdS; omega) (fun i hi e => by unfold zdK zdW at e; omega),
    funext fun d => f _ _ (zJn_S hq).2.2.2 (by unfold zt_out zdT zdQ; omega) (by unfold zt_out zdT zdQ; omega) (by unfold zt_out zdV zdQ; omega) (by unfold zdQ; omega) (by unfold zdQ zdK; omega) (by unfold zdQ zdS; omega) (fun i hi e => by unfold zdQ zdW at e; omega)⟩
  have eZ : ∀ q, q < 3 → ξ' (zdZ q) = ξ (zdZ q) := fun q hq => funext fun d => f _ _ (zJn_S hq).2.1 (by unfold zt_out zdT zdZ; omega) (by unfold zt_out zdT zdZ; omega) (by unfold zt_out zdV zdZ; omega) (by unfold zdZ zdQ; omega) (by unfold zdZ zdK; omega) (by unfold zdZ zdS; omega) (fun i hi e => by unfold zdZ zdW at e; omega)
  have eV : ∀ q, q < 3 → q ≠ s → ∀ j, j < 19 → ξ' (zdV q + j) = ξ (zdV q + j) := fun q hq hne j hj => funext fun d => f _ _ (zJn_T hq hj).2 (by unfold zt_out zdT zdV; omega) (by unfold zt_out zdT zdV; omega) (by unfold zt_out zdV; omega) (by unfold zdV zdQ; omega) (by unfold zdV zdK; omega) (by unfold zdV zdS; omega) (fun i hi e => by unfold zdV zdW at e; omega)
  have eT : ∀ q, q < 3 → q ≠ s → q ≠ o → ∀ j, j < 19 → ξ' (zdT q + j) = ξ (zdT q + j) := fun q hq n1 n2 j hj => funext fun d => f _ _ (zJn_T hq hj).1 (by unfold zt_out zdT; omega) (by unfold zt_out zdT; omega) (by unfold zt_out zdV zdT; omega) (by unfold zdT zdQ; omega) (by unfold zdT zdK; omega) (by unfold zdT zdS; omega) (fun i hi e => by unfold zdT zdW at e; omega)
  have th : ∀ j, j < 10 → zd_th ξ' j = zd_th ξ j := fun j hj => by unfold zd_th; rw [eW j 2 hj (by decide)]
  have has : ∀ q j, q < 3 → q ≠ s → zd_has ξ' q j = zd_has ξ q j := fun q j hq hne => by unfold zd_has; rw [(eS q hq hne).2.1, (eS q hq hne).2.2, eV q hq hne 3 (by decide)]
  have hI : ∀ q, q < 3 → zt_I ξ (zdT q) (Rs q) (ts q) := fun q hq => (h1.2.2.2.1 q hq).1.1
  have hV : ∀ q, q < 3 → zt_I ξ (zdV q) (Rs (3 + q)) (ts (3 + q)) := fun q hq => (h1.2.2.2.2.1 q hq).1.1
  -- what is kept of s is what was on it
  have onR : ∀ j, j < 10 → (j ∈ Rs s ↔ zd_on ξ (nI s) j = true ∧ ξ (zdW j) 3 = 1) := fun j hj => by
    rw [(h1.2.2.2.1 s hs).2.1 j]
    unfold zd_til zd_on
    rw [decide_eq_true_iff, decide_eq_true_iff]
    exact ⟨fun z => ⟨⟨z.2.1.1, by rw [z.2.1.2]; decide, z.2.2⟩, z.2.1.2⟩, fun z => ⟨hj, ⟨z.1.1, z.2⟩, z.1.2.2⟩⟩
  have kz : ξ' (zdK s) 3 = 0 ↔ ¬ 0 < zl_ct (zd_on ξ (nI s)) 10 := by
    rw [fK]
    by_cases c : 0 < zl_ct (zd_on ξ (nI s)) 10
    · rw [if_pos c]; exact ⟨fun z => absurd z (by decide), fun z => absurd c z⟩
    · rw [if_neg c]; exact ⟨fun _ => c, fun _ => rfl⟩
  have hasS : ∀ j, j < 10 → (zd_has ξ' s j = true ↔ zd_on ξ (nI s) j = true) := fun j hj => by
    unfold zd_has
    rw [decide_eq_true_iff, kz, fQ j hj, fV.1]
    have e1 : ¬ (if zd_loose ξ (nI s) j = true then (1 : Int32) else 0) = 0 ↔ zd_loose ξ (nI s) j = true := by
      by_cases c : zd_loose ξ (nI s) j = true
      · rw [if_pos c]; exact ⟨fun _ => c, fun _ => by decide⟩
      · rw [if_neg c]; exact ⟨fun z => absurd rfl z, fun z => absurd z c⟩
    have e2 : ¬ ξ (zdT s + 3) j < 0 ↔ j ∈ Rs s := by
      by_cases c : j ∈ Rs s
      · obtain ⟨n, hn, en⟩ := (hI s hs).2.2.2.1 j c
        rw [en]
        exact ⟨fun _ => c, fun _ => nI_pos (by have := (zt_I_lvn (hI s hs)).2 n hn; omega)⟩
      · rw [(hI s hs).2.2.2.2.1 j hj c]
        exact ⟨fun z => absurd (by decide) z, fun z => absurd z c⟩
    rw [e1, e2, onR j hj]
    have e3 : zd_loose ξ (nI s) j = true ↔ zd_on ξ (nI s) j = true ∧ ¬ ξ (zdW j) 3 = 1 := by
      unfold zd_loose zd_on
      rw [decide_eq_true_iff, decide_eq_true_iff]
      exact ⟨fun z => ⟨⟨z.1, z.2.1, z.2.2.1⟩, z.2.2.2⟩, fun z => ⟨z.1.1, z.1.2.1, z.1.2.2, z.2⟩⟩
    rw [e3]
    constructor
    · rintro ⟨-, z | z⟩
      · exact z.1
      · exact z.1
    · intro z
      refine ⟨fun w => w (zl_ct_pos 10 hj z), ?_⟩
      by_cases c : ξ (zdW j) 3 = 1
      · exact Or.inr ⟨z, c⟩
      · exact Or.inl ⟨z, c⟩
  have cnt : 0 < W.length + zl_ct (fun k => zv_on μ k (nI s)) 10 ↔ 0 < zl_ct (zd_on ξ (nI s)) 10 := by
    constructor
    · intro z
      by_cases c : W = []
      · rw [c] at z
        obtain ⟨j, hj, p⟩ := zl_ct_ex 10 (by simpa using z : 0 < zl_ct (fun k => zv_on μ k (nI s)) 10)
        refine zl_ct_pos 10 hj ?_
        have p' : zd_loose ξ (nI s) j = true := by rw [hlo j hj]; exact p
        exact decide_eq_true ⟨(of_decide_eq_true p').1, (of_decide_eq_true p').2.1, (of_decide_eq_true p').2.2.1⟩
      · obtain ⟨w, hw⟩ := List.exists_mem_of_ne_nil W c
        rw [hW] at hw
        obtain ⟨n, -, hwn⟩ := List.mem_flatMap.mp hw
        have hwR := (zt_tb_mem.mp hwn).1
        have hw10 := (hI s hs).1.2.2 w hwR
        exact zl_ct_pos 10 hw10 ((onR w hw10).mp hwR).1
    · intro z
      obtain ⟨j, hj, p⟩ := zl_ct_ex 10 z
      by_cases c : ξ (zdW j) 3 = 1
      · have hjR := (onR j hj).mpr ⟨p, c⟩
        obtain ⟨n, hn, en⟩ := (hI s hs).2.2.2.1 j hjR
        have : j ∈ W := by
          rw [hW]
          exact List.mem_flatMap.mpr ⟨n, hn, zt_tb_mem.mpr ⟨hjR, en⟩⟩
        have := List.length_pos_of_mem this
        omega
      · have p' : zd_loose ξ (nI s) j = true := decide_eq_true ⟨(of_decide_eq_true p).1, (of_decide_eq_true p).2.1, (of_decide_eq_true p).2.2, c⟩
        rw [hlo j hj] at p'
        have := zl_ct_pos (p := fun k => zv_on μ k (nI s)) 10 hj p'
        omega
  have gC : ∀ c d, (234 ≤ c ∧ c ≤ 237) ∨ (c = 232 ∧ d ≠ s) ∨ (c = 233 ∧ d ≠ s) ∨ (c = 251 ∧ d ≠ s) ∨ (c = 252 ∧ ¬ (10 * s ≤ d ∧ d < 10 * s + 10)) → μ' c d = μ c d := fun c d r => g c d (by omega) (by omega) (by omega) (by omega) (by omega) (by omega) (by omega) (by omega) (by omega) (zu_in_not (by omega)) (zu_in_not (by omega)) (zu_in_not (by omega)) (zu_in_not (by omega))
  have gT : ∀ q, q < 6 → q ≠ s → q ≠ o → q ≠ 3 + s → zu_eqT μ q μ' q := fun q hq n1 n2 n3 => zu_eq_in (fun c d r => g c d (fun z => zu_in_not (by omega) r) (fun z => zu_in_not (by omega) r) (fun z => zu_in_not (by omega) r) (fun z => zu_in_not (by omega) r) (fun z => zu_in_not (by omega) r) (fun z => zu_in_not (by omega) r) (fun z => zu_in_not (by omega) r) (fun z => zu_in_not (by omega) r) (fun z => zu_in_not (by omega) r) (zu_in_ne r n1) (zu_in_ne r n2) (zu_in_ne r n3) (zu_in_ne r (by omega)))
  refine ⟨⟨fun x hx => ?_, fun q hq => ?_⟩, fun x hx A B => ?_, ⟨h5.1, fun x => ?_, fun x hx A => ?_⟩, fun q hq => ?_, fun d hd => ?_, fun q hq => ?_⟩
  · rw [th x hx, gC 234 x (by omega)]
    refine ⟨(h2.1 x hx).1, fun c => ?_⟩
    obtain ⟨d1, d2, d3, d4⟩ := (h2.1 x hx).2 c
    rw [eW x 3 hx (by decide), eW x 4 hx (by decide), eL x hx, gC 235 x (by omega), gC 236 x (by omega), gC 237 x (by omega)]
    refine ⟨d1, d2, d3, fun z => ?_⟩
    rw [g238 x hx, f5 x hx, hon x hx, d4 z]
  · by_cases e : q = s
    · subst e
      exact ⟨fun _ => ⟨gz1, gz2⟩, fun z => absurd fS z⟩
    · rw [(eS q hq e).1, eZ q hq, gC 232 q (by omega), gC 233 q (by omega)]
      exact h2.2 q hq
  · rw [th x hx] at A
    rw [eW x 3 hx (by decide)] at B
    obtain ⟨p, hp, q1, q2, q3, q4⟩ := h3 x hx A B
    obtain ⟨-, -, -, w4, -⟩ := h1.2.2.1 x hx A
    obtain ⟨p', hp', -, e2, e3⟩ := w4 B
    have ep := (nI_eq (by omega) (by omega)).mp (q1.symm.trans e2)
    subst ep
    have same : zd_on ξ (nI s) x = zd_on ξ (nI s) p := by
      unfold zd_on
      rw [decide_eq_decide, q3]
      exact ⟨fun z => ⟨of_decide_eq_true e3, q2, z.2.2⟩, fun z => ⟨of_decide_eq_true A, by rw [B]; decide, z.2.2⟩⟩
    refine ⟨p, hp, by rw [eW x 4 hx (by decide)]; exact q1, by rw [eW p 3 hp (by decide)]; exact q2, by rw [f5 x hx, f5 p hp, same, q3], fun q hq z => ?_⟩
    by_cases e : q = s
    · subst e
      rw [hasS x hx, same] at z
      exact (hasS p hp).mpr z
    · rw [has q _ hq e] at z ⊢
      exact q4 q hq z
  · rw [gC 234 x (by omega)]
    exact h5.2.1 x
  · rw [gC 234 x (by omega)] at A
    rw [gC 237 x (by omega)]
    exact h5.2.2 x hx A
  · by_cases co : q = o
    · subst co
      have e1 : zd_goR Rs s q (Rs q ++ W) q = Rs q ++ W := if_pos rfl
      have e2 : zd_goT ts s q t2 q = t2 := if_pos rfl
      have e3 : zv_goU us s q u2 q = u2 := if_pos rfl
      rw [e1, e2, e3]
      exact zs_cl hC2.1 (zs_eqT hC2.1 hz2 go) fC.1 fC.2.2.2.1 fC.2.2.2.2.1 fC.2.2.2.2.2
    · by_cases cs : q = s
      · subst cs
        have e1 : zd_goR Rs q o (Rs o ++ W) q = [] := (if_neg co).trans (if_pos rfl)
        have e2 : zd_goT ts q o t2 q = .nil := (if_neg co).trans (if_pos rfl)
        have e3 : zv_goU us q o u2 q = .nil := (if_neg co).trans (if_pos rfl)
        rw [e1, e2, e3]
        exact zs_nil gs
      · have e1 : zd_goR Rs s o (Rs o ++ W) q = Rs q := (if_neg co).trans ((if_neg cs).trans (if_neg (by omega)))
        have e2 : zd_goT ts s o t2 q = ts q := (if_neg co).trans ((if_neg cs).trans (if_neg (by omega)))
        have e3 : zv_goU us s o u2 q = us q := (if_neg co).trans ((if_neg cs).trans (if_neg (by omega)))
        rw [e1, e2, e3]
        have e := eT q hq cs co
        exact zs_cl (hI q hq) (zs_eqT (hI q hq) (h6 q hq) (gT q (by omega) cs co (by omega))) (e 3 (by decide)) (e 7 (by decide)) (e 8 (by decide)) (e 12 (by decide))
  · by_cases c : 10 * s ≤ d ∧ d < 10 * s + 10
    · have := g252 (d - 10 * s) (by omega)
      rw [show 10 * s + (d - 10 * s) = d by omega] at this
      rw [this]
      by_cases c2 : zv_ons μ s (d - 10 * s) = true
      · rw [if_pos c2]; exact Or.inr rfl
      · rw [if_neg c2]; exact Or.inl rfl
    · rw [gC 252 d (by omega)]
      exact h7.1 d hd
  · by_cases cs : q = s
    · subst cs
      have e1 : zd_goR Rs q o (Rs o ++ W) (3 + q) = Rs q := (if_neg (by omega)).trans ((if_neg (by omega)).trans (if_pos rfl))
      have e2 : zd_goT ts q o t2 (3 + q) = ts q := (if_neg (by omega)).trans ((if_neg (by omega)).trans (if_pos rfl))
      have e3 : zv_goU us q o u2 (3 + q) = us q := (if_neg (by omega)).trans ((if_neg (by omega)).trans (if_pos rfl))
      rw [e1, e2, e3]
      refine ⟨?_, fun _ => ⟨fun j hj => ?_, zs_cl (hI q hq) (zs_eqT (hI q hq) (h6 q hq) g3) fV.1 fV.2.2.2.1 fV.2.2.2.2.1 fV.2.2.2.2.2⟩⟩
      · rw [kz, g251, ← cnt]
        by_cases c : 0 < W.length + zl_ct (fun k => zv_on μ k (nI q)) 10
        · rw [if_pos c]; exact ⟨fun z => absurd z (by decide), fun z => absurd c z⟩
        · rw [if_neg c]; exact ⟨fun _ => c, fun _ => rfl⟩
      · rw [hasS j hj, g252 j hj, hon j hj]
        by_cases c : zv_ons μ q j = true
        · rw [if_pos c]; exact ⟨fun _ => c, fun _ => by decide⟩
        · rw [if_neg c]; exact ⟨fun z => absurd rfl z, fun z => absurd z c⟩
    · have e1 : zd_goR Rs s o (Rs o ++ W) (3 + q) = Rs (3 + q) := (if_neg (by omega)).trans ((if_neg (by omega)).trans (if_neg (by omega)))
      have e2 : zd_goT ts s o t2 (3 + q) = ts (3 + q) := (if_neg (by omega)).trans ((if_neg (by omega)).trans (if_neg (by omega)))
      have e3 : zv_goU us s o u2 (3 + q) = us (3 + q) := (if_neg (by omega)).trans ((if_neg (by omega)).trans (if_neg (by omega)))
      rw [e1, e2, e3, gC 251 q (by omega), (eS q hq cs).2.1]
      obtain ⟨a1, a2⟩ := h7.2 q hq
      refine ⟨a1, fun z => ?_⟩
      obtain ⟨b1, b2⟩ := a2 z
      have e := eV q hq cs
      refine ⟨fun j hj => ?_, zs_cl (hV q hq) (zs_eqT (hV q hq) b2 (gT (3 + q) (by omega) (by omega) (by omega) (by omega))) (e 3 (by decide)) (e 7 (by decide)) (e 8 (by decide)) (e 12 (by decide))⟩
      rw [gC 252 _ (by omega), has q j hq cs]
      exact b1 j hj
theorem zK_gon (h : zK ξ μ row stkC stk ord Rs ts us) {w : Int32} (hJ : zJ ξ' row stkC Rs' ts') (f : zd_gon ξ ξ' Rs Rs' ts ts' w) (g : zv_gon μ μ' us w) : ∃ us', zK ξ' μ' row stkC stk ord Rs' ts' us' := by
  have sc0 : ∀ s, s < 3 → (¬ ξ (zdS s) 3 = 0 ↔ ¬ μ 232 s = 0) := fun s hs => by
    obtain ⟨q1, q2⟩ := h.2.2.1.2 s hs
    by_cases c : ξ (zdS s) 3 = 0
    · rw [(q1 c).1]; exact ⟨fun z => absurd c z, fun z => absurd rfl z⟩
    · have := (zK_scn h hs).mp c
      exact ⟨fun _ e => by rw [e] at this; exact absurd this (by decide), fun _ => c⟩
  rcases f with ⟨f, rfl, rfl, rfl⟩ | ⟨s, o, ν2, emp, W, n0, hs, ho, hso, ew, hst, hot, hl, ft, fC2, f⟩
  · rcases g with ⟨-, rfl⟩ | ⟨s, o, emp, θ, θ2, n1, W, hs, ho, hso, ew, g1, g2, g3, -⟩
    · exact ⟨_, h⟩
    · exact (f ⟨s, o, hs, ho, ew, (sc0 s hs).mpr g1, (zK_lso h).trans g3⟩).elim
  · rcases g with ⟨z, -⟩ | ⟨s', o', emp', θ, θ2, n1, W', hs', ho', hso', ew', g1, g2, g3, g4, g5, gW, gv, gA, g⟩
    · exact (z ⟨s, o, hs, ho, ew, (sc0 s hs).mp hst, (zK_lso h).symm.trans hl⟩).elim
    · have e1 := (nI_eq (by omega) (by omega)).mp (ew'.symm.trans ew)
      subst e1
      have e2 := (nI_eq (by omega) (by omega)).mp (g3.symm.trans ((zK_lso h).symm.trans hl))
      subst e2
      obtain ⟨ν1, fr1, fc, fC1, fe, fe', fW, fA⟩ := ft
      have hI : ∀ q, q < 3 → zt_I ξ (zdT q) (Rs q) (ts q) := fun q hq => (h.1.2.2.2.1 q hq).1.1
      have hzs := h.2.2.2.2.2.1
      have eWW : W = W' := by rw [fW, gW]; exact zs_flat (hI s' hs) (hzs s' hs)
      subst eWW
      have eem : emp = emp' := by
        have hn := zs_nil_l (hI o' ho) (hzs o' ho)
        cases emp with
        | true =>
          cases emp' with
          | true => rfl
          | false =>
            have := g5 rfl
            rw [hn.mp (fe rfl).1] at this
            exact this.elim
        | false =>
          cases emp' with
          | false => rfl
          | true =>
            have := fe' rfl
            rw [hn.mpr (g4 rfl)] at this
            exact this.elim
      subst eem
      -- the trial tree
      have z1 : zs ν1 7 (Rs o') (ts o') θ 6 (us o') := by
        have za : zs ν1 7 (Rs o') (ts o') (zu_cq μ o' 6 24 240) 6 (us o') := zs_cl (hI o' ho) (zs_eqT (hI o' ho) (hzs o' ho) zu_cq_eqT) fc.1 fc.2.2.2.1 fc.2.2.2.2.1 fc.2.2.2.2.2
        exact zs_eqT fC1.1 za (zu_eq_in (fun c d r => gv c d (fun z => zu_in_not (by omega) r) (fun z => zu_in_not (by omega) r)))
      have z2 := zs_AD fC1.1 z1 fe fe' fA gA fC2
      have f2 : ∀ c d, ¬ (c = 231 ∧ d = 30) → c ≠ 259 → ¬ zu_in 6 c d → θ2 c d = μ c d := fun c d r1 r2 r3 => (gA.2.1 c d r3).trans ((gv c d r1 r2).trans (zu_cq_out r3))
      have hsz : zs_sz ν2 7 (Rs o' ++ W) θ2 := fun a ha w hw => by
        rw [f2 _ _ (by omega) (by omega) (zu_in_not (by omega))]
        obtain ⟨m0, -, fr2, -, -, f5, f6, -⟩ := fA
        have key : μ (235 + a) w = if w ∈ W then ν1 (zdT s' + 5 + a) w else ν1 (7 + 5 + a) w := by
          by_cases c : w ∈ W
          · rw [if_pos c]
            have hwR : w ∈ Rs s' := by
              rw [fW] at c
              obtain ⟨n, -, hwn⟩ := List.mem_flatMap.mp c
              exact (zt_tb_mem.mp hwn).1
            rw [fr1 _ (by unfold zt_out zdT; omega)]
            exact zK_sz h hs a ha w hwR
          · rw [if_neg c]
            have hwR : w ∈ Rs o' := (List.mem_append.mp hw).resolve_right c
            rw [zK_sz h ho a ha w hwR]
            rcases (by omega : a = 0 ∨ a = 1) with rfl | rfl
            · exact (congrFun fc.2.1 w).symm
            · exact (congrFun fc.2.2.1 w).symm
        rw [key]
        rcases (by omega : a = 0 ∨ a = 1) with rfl | rfl
        · exact (f5 w).symm
        · exact (f6 w).symm
      have fr2 : zt_frT 7 ξ ν2 := by
        obtain ⟨m0, -, fr2, -⟩ := fA
        exact fr1.trans fr2
      obtain ⟨s0, s1⟩ := (h.2.2.1.2 o' ho).2 hot
      have hfit : zt_fit ν2 7 (zdZ o') (Rs o' ++ W) (zy_ad emp (ts o') W n0) = zu_fit θ2 6 (zy_ad emp (us o') W n1) (μ 232 o') (μ 233 o') := zs_fit fC2.1 z2 hsz (by rw [fr2 _ (by unfold zt_out zdZ; omega)]; exact s0.symm) (by rw [fr2 _ (by unfold zt_out zdZ; omega)]; exact s1.symm)
      have hrm : zl_al (zd_lwf ξ (nI s') (zdZ o')) 10 = true ↔ ∀ j, j < 10 → zv_grm μ s' o' j = true := by
        rw [zl_al_iff]
        refine forall_congr' fun j => imp_congr_right fun hj => ?_
        unfold zd_lwf zv_grm
        rw [(zK_on h hj).2]
        cases c : zv_on μ j (nI s') with
        | false => exact ⟨fun _ => rfl, fun _ => rfl⟩
        | true =>
          have t : zd_th ξ j = true := by
            have : zd_loose ξ (nI s') j = true := by rw [(zK_on h hj).2]; exact c
            exact decide_eq_true (of_decide_eq_true this).1
          obtain ⟨-, ⟨e5, e6⟩, -⟩ := (h.2.2.1.1 j hj).2 t
          have ew : zd_whole ξ (zdZ o') j = decide (μ 235 j ≤ μ 232 o' ∧ μ 236 j ≤ μ 233 o') := by
            unfold zd_whole
            rw [e5, e6, s0, s1]
          rw [ew]
      have hgood : zv_gd (zv_grm μ s' o') (zu_fit θ2 6 (zy_ad emp (us o') W n1) (μ 232 o') (μ 233 o')) 10 = true ↔ (zt_fit ν2 7 (zdZ o') (Rs o' ++ W) (zy_ad emp (ts o') W n0) = true ∧ zl_al (zd_lwf ξ (nI s') (zdZ o')) 10 = true) := by
        rw [zv_gd_iff, hrm, hfit]
      rcases f with ⟨f, feq, rfl, rfl⟩ | ⟨f, rfl, rfl, f1, f2', f3, f4, f5, f6, f7⟩
      · rcases g with ⟨-, rfl⟩ | ⟨g, -⟩
        · exact ⟨_, h.scr6 feq (fun c d r1 _ _ r r6 => f2 c d r1 (by omega) r6)⟩
        · obtain ⟨q1, q2⟩ := hgood.mp g
          rcases f with f | f
          · rw [f] at q1; cases q1
          · rw [f] at q2; cases q2
      · rcases g with ⟨g, -⟩ | ⟨-, g⟩
        · rw [hgood.mpr f] at g
          cases g
        · have h0 := zK0_gne h hs ho hso fW fC2 z2 f1 f2' f3 f4 f5 f6 f7 g
          have eW : ∀ j d, j < 10 → d ≠ 5 → ξ' (zdW j) d = ξ (zdW j) d := fun j d hj hd => f1 _ _ (zJn_W hj).1 (by unfold zt_out zdT zdW; omega) (by unfold zt_out zdT zdW; omega) (by unfold zt_out zdV zdW; omega) (by unfold zdW zdQ; omega) (by unfold zdW zdK; omega) (by unfold zdW zdS; omega) (fun _ _ _ => hd)
          have gL : ∀ c d, (c = 231 ∧ d ≠ 30) ∨ c = 241 ∨ c = 242 → μ' c d = μ c d := fun c d r => g.2.2.2.2.2.2.2 c d (by omega) (by omega) (by omega) (by omega) (by omega) (by omega) (by omega) (by omega) (by omega) (zu_in_not (by omega)) (zu_in_not (by omega)) (zu_in_not (by omega)) (zu_in_not (by omega))
          obtain ⟨r1, r2, r3, r4⟩ := h.2.1
          refine ⟨_, hJ, ⟨⟨r1.1, (gL _ _ (by omega)).trans r1.2.1, fun j hj => (gL _ _ (by omega)).trans (r1.2.2 j hj)⟩, ⟨r2.1, (gL _ _ (by omega)).trans r2.2.1, fun j hj => (gL _ _ (by omega)).trans (r2.2.2 j hj)⟩, r3, fun x => ?_⟩, h0⟩
          rw [r4 x]
          refine and_congr_right fun hx => ?_
          unfold zd_flo
          rw [eW x 2 hx (by decide), eW x 3 hx (by decide)]
end ZKU
