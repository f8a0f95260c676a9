/-! the desk: open, whole -/
section ZO7
variable {μ ν : zm_M} {row stk : List Nat} {Rs : Nat → List Nat} {ts : Nat → zy_F}
theorem zt_fit_copy {A B : zm_M} {T V z : Nat} {R : List Nat} {t : zy_F} (h : zt_isCopy A T B V) (hz : B z = A z) : zt_fit B V z R t = zt_fit A T z R t := by
  unfold zt_fit
  rw [zt_lsz_copy h (by decide), zt_lsz_copy h (by decide), hz]
theorem zt_isNew_cp {ξ A B : zm_M} {Q k n T V : Nat} {x y : Int32} (h : zt_isNew ξ Q k x y A T n) (g : zt_isNew ξ Q k x y B V n) : zt_isCopy A T B V := by
  obtain ⟨-, -, h3, h5, h6, h7, h8, h12⟩ := h
  obtain ⟨-, -, g3, g5, g6, g7, g8, g12⟩ := g
  exact ⟨funext fun v => (g3 v).trans (h3 v).symm, funext fun v => (g5 v).trans (h5 v).symm, funext fun v => (g6 v).trans (h6 v).symm, funext fun v => (g7 v).trans (h7 v).symm, g8.trans h8.symm, funext fun v => (g12 v).trans (h12 v).symm⟩
theorem zt_isCut_cp {ξ A B : zm_M} {Q n k a c f T V : Nat} {nf : Bool} {R : List Nat} {t : zy_F} {x y : Int32} (h : zt_isCut ξ Q R t n k a nf x y A T c f) (g : zt_isCut ξ Q R t n k a nf x y B V c f) : zt_isCopy A T B V := by
  obtain ⟨-, -, h3, h5, h6, h7, h8, h12⟩ := h
  obtain ⟨-, -, g3, g5, g6, g7, g8, g12⟩ := g
  exact ⟨funext fun v => (g3 v).trans (h3 v).symm, funext fun v => (g5 v).trans (h5 v).symm, funext fun v => (g6 v).trans (h6 v).symm, funext fun v => (g7 v).trans (h7 v).symm, funext fun v => (g8 v).trans (h8 v).symm, funext fun v => (g12 v).trans (h12 v).symm⟩
theorem zt_isTab_cp {ξ A B : zm_M} {Q n k T V : Nat} {R : List Nat} {t : zy_F} {x y : Int32} (h : zt_isTab ξ Q R t n k x y A T) (g : zt_isTab ξ Q R t n k x y B V) : zt_isCopy A T B V := by
  obtain ⟨-, h3, h5, h6, h7, h8, h12⟩ := h
  obtain ⟨-, g3, g5, g6, g7, g8, g12⟩ := g
  exact ⟨funext fun v => (g3 v).trans (h3 v).symm, funext fun v => (g5 v).trans (h5 v).symm, funext fun v => (g6 v).trans (h6 v).symm, g7.trans h7.symm, g8.trans h8.symm, g12.trans h12.symm⟩
theorem zJn_7 {c : Nat} (h : ¬ zJ_irr c) : zt_out 7 c := by
  unfold zJ_irr at h
  unfold zt_out
  omega
/-- a tiled window has come to the screen s -/
theorem zJ0_tiled (h : zJ μ row stk Rs ts) {k s : Nat} (hk : k < 10) (hs : s < 3) (hnt : zd_th μ k = false) (hst : ¬ μ (zdS s) 3 = 0) {w v : Int32} (hsz : 1 ≤ w ∧ w ≤ 200 ∧ 1 ≤ v ∧ v ≤ 200) {ξ ν3 : zm_M} (f : ∀ c, ¬ zJ_irr c → c ≠ zdW k → c ≠ zdW k + 1 → ξ c = μ c) (w3 : ξ (zdW k) 3 = 1) (w4 : ξ (zdW k) 4 = -1) (w5 : ξ (zdW k) 5 = nI s) (l0 : ξ (zdW k + 1) 0 = w) (l1 : ξ (zdW k + 1) 1 = v)
    (fr : ∀ c, zt_out 7 c → zt_out (zdT s) c → ν3 c = ξ c) {R' : List Nat} {t' : zy_F} (hC : zt_C ν3 (zdT s) R' t') (hR : ∀ j, j ∈ R' ↔ (j ∈ Rs s ∨ j = k)) (h5 : ∀ j ∈ Rs s, ν3 (zdT s + 5) j = ξ (zdT s + 5) j ∧ ν3 (zdT s + 6) j = ξ (zdT s + 6) j) (hk5 : ν3 (zdT s + 5) k = w ∧ ν3 (zdT s + 6) k = v) (hfit : zt_fit ν3 (zdT s) (zdZ s) R' t' = true) :
    zJ0 (zm_up ν3 (zdW k) 2 1) stk (zd_upd Rs s R') (zd_upd ts s t') ∧ zd_came μ (zm_up ν3 (zdW k) 2 1) k s 1 w v (-1) ∧ ∀ j, zm_up ν3 (zdW k) 2 1 (zdT s + j) = ν3 (zdT s + j) := by
  have oW : zt_out 7 (zdW k) ∧ zt_out (zdT s) (zdW k) ∧ zt_out 7 (zdW k + 1) ∧ zt_out (zdT s) (zdW k + 1) := by
    unfold zt_out zdW zdT
    omega
  have u : ∀ c, c ≠ zdW k → zm_up ν3 (zdW k) 2 1 c = ν3 c := fun c hc => zm_up_row hc
  have u3 : ∀ b, b ≠ 2 → zm_up ν3 (zdW k) 2 1 (zdW k) b = ξ (zdW k) b := fun b hb => by
    rw [zm_up_ne (fun e => hb e.2), fr _ oW.1 oW.2.1]
  have u1 : zm_up ν3 (zdW k) 2 1 (zdW k + 1) = ξ (zdW k + 1) := by rw [u _ (by omega), fr _ oW.2.2.1 oW.2.2.2]
  have uT : ∀ q, q < 3 → ∀ j, zm_up ν3 (zdW k) 2 1 (zdT q + j) = ν3 (zdT q + j) := fun q hq j => u _ (by unfold zdT zdW; omega)
  have ff : ∀ c, ¬ zJ_irr c → c ≠ zdW k → c ≠ zdW k + 1 → zt_out (zdT s) c → zm_up ν3 (zdW k) 2 1 c = μ c := fun c a1 a2 a3 a4 => by
    rw [u c a2, fr c (zJn_7 a1) a4]
    exact f c a1 a2 a3
  have hcame : zd_came μ (zm_up ν3 (zdW k) 2 1) k s 1 w v (-1) := ⟨fun c a1 a2 a3 a4 => ff c a1 a2 a3 (a4 rfl), zm_up_eq, by rw [u3 3 (by decide)]; exact w3, by rw [u3 4 (by decide)]; exact w4, fun _ => by rw [u3 5 (by decide)]; exact w5, by rw [u1]; exact l0, by rw [u1]; exact l1⟩
  refine ⟨?_, hcame, uT s hs⟩
  obtain ⟨c1, c2, c3, c4, c5, c6, c7⟩ := hcame
  refine zJ0_come (Rs' := zd_upd Rs s R') (ts' := zd_upd ts s t') h hk hnt c2 c3 c4 c6 c7 (fun c a1 a2 a3 a4 => ff c a1 a2 a3 (a4 s hs)) (Or.inl rfl) hsz (fun _ => ⟨s, hs, c5 (by decide), hst⟩) (fun e => absurd e (by decide)) (fun _ => rfl) (fun q hq => ?_) (fun q hq hqt => ?_) (fun q hq => ?_)
  · by_cases e : q = s
    · subst e
      unfold zd_upd
      rw [if_pos rfl, if_pos rfl]
      refine ⟨zt_C_congr (fun c h1 h2 => u c (by unfold zdT at h1; unfold zdW; omega)) hC, fun j => ?_, fun j hj => ?_, fun _ => ?_⟩
      · rw [hR j]
        exact ⟨fun q => q.imp id (fun e => ⟨e, rfl, c5 (by decide)⟩), fun q => q.imp id (fun e => e.1)⟩
      · rw [uT q hq, uT q hq, (h5 j hj).1, (h5 j hj).2, f (zdT q + 5) (zJn_T hq (by decide)).1 (by unfold zdT zdW; omega) (by unfold zdT zdW; omega), f (zdT q + 6) (zJn_T hq (by decide)).1 (by unfold zdT zdW; omega) (by unfold zdT zdW; omega)]
        exact ⟨rfl, rfl⟩
      · rw [uT q hq, uT q hq]
        exact hk5
    · unfold zd_upd
      rw [if_neg e, if_neg e]
      have ro : ∀ j, j < 19 → zm_up ν3 (zdW k) 2 1 (zdT q + j) = μ (zdT q + j) := fun j hj => ff _ (zJn_T hq hj).1 (by unfold zdT zdW; omega) (by unfold zdT zdW; omega) (by unfold zt_out zdT; omega)
      refine ⟨zt_C_19 ro (h.2.2.2.1 q hq).1, fun j => ?_, fun j hj => ?_, fun hj => ?_⟩
      · refine ⟨Or.inl, fun z => z.elim id (fun z => absurd ((nI_eq (by omega) (by omega)).mp (z.2.2.symm.trans (c5 (by decide)))) e)⟩
      · rw [ro 5 (by omega), ro 6 (by omega)]
        exact ⟨rfl, rfl⟩
      · have := ((h.2.2.2.1 q hq).2.1 k).mp hj
        have : zd_th μ k = true := decide_eq_true (of_decide_eq_true this.2.1).1
        rw [hnt] at this
        cases this
  · by_cases e : q = s
    · subst e
      unfold zd_upd
      rw [if_pos rfl, if_pos rfl, zt_fit_copy (A := ν3) (T := zdT q) ⟨uT q hq _, uT q hq _, uT q hq _, uT q hq _, uT q hq _, uT q hq _⟩ (u _ (by unfold zdZ zdW; omega))]
      exact hfit
    · unfold zd_upd
      rw [if_neg e, if_neg e]
      have ro : ∀ j, j < 19 → zm_up ν3 (zdW k) 2 1 (zdT q + j) = μ (zdT q + j) := fun j hj => ff _ (zJn_T hq hj).1 (by unfold zdT zdW; omega) (by unfold zdT zdW; omega) (by unfold zt_out zdT; omega)
      rw [zt_fit_copy (A := μ) (T := zdT q) ⟨ro _ (by omega), ro _ (by omega), ro _ (by omega), ro _ (by omega), ro _ (by omega), ro _ (by omega)⟩ (ff _ (zJn_S hq).2.1 (by unfold zdZ zdW; omega) (by unfold zdZ zdW; omega) (zJn_out hs (Or.inr (Or.inr (Or.inl ⟨q, hq, Or.inr (Or.inl rfl)⟩)))))]
      exact (h.2.2.2.2.2 q hq hqt).2
  · unfold zd_upd
    rw [if_neg (by omega), if_neg (by omega)]
    exact ⟨rfl, rfl⟩
/-- one that is not tiled has come -/
theorem zJ0_other (h : zJ μ row stk Rs ts) {k s : Nat} (hk : k < 10) (hs : s < 3) (hnt : zd_th μ k = false) (hst : ¬ μ (zdS s) 3 = 0) {kd w v o : Int32} (hkd : kd = 2 ∨ kd = 3 ∨ kd = 4) (hsz : 1 ≤ w ∧ w ≤ 200 ∧ 1 ≤ v ∧ v ≤ 200) (ho3 : kd = 3 → ∃ j, j < 10 ∧ o = nI j ∧ zd_th μ j = true) (ho : ¬ kd = 3 → o = -1) {ν4 : zm_M} (hc : zd_came μ ν4 k s kd w v o) : zJ0 ν4 stk Rs ts := by
  obtain ⟨c1, c2, c3, c4, c5, c6, c7⟩ := hc
  have h1 : ¬ kd = 1 := by rcases hkd with e | e | e <;> rw [e] <;> decide
  have ff : ∀ c, ¬ zJ_irr c → c ≠ zdW k → c ≠ zdW k + 1 → ν4 c = μ c := fun c a1 a2 a3 => c1 c a1 a2 a3 (fun e => absurd e h1)
  refine zJ0_come (Rs' := Rs) (ts' := ts) h hk hnt c2 c3 c4 c6 c7 (fun c a1 a2 a3 _ => ff c a1 a2 a3) (Or.inr hkd) hsz (fun q => ⟨s, hs, c5 q, hst⟩) ho3 ho (fun q hq => ?_) (fun q hq hqt => ?_) (fun q hq => ⟨rfl, rfl⟩)
  · have ro : ∀ j, j < 19 → ν4 (zdT q + j) = μ (zdT q + j) := fun j hj => ff _ (zJn_T hq hj).1 (by unfold zdT zdW; omega) (by unfold zdT zdW; omega)
    refine ⟨zt_C_19 ro (h.2.2.2.1 q hq).1, fun j => ⟨Or.inl, fun z => z.elim id (fun z => absurd z.2.1 h1)⟩, fun j hj => ?_, fun hj => ?_⟩
    · rw [ro 5 (by omega), ro 6 (by omega)]
      exact ⟨rfl, rfl⟩
    · have := ((h.2.2.2.1 q hq).2.1 k).mp hj
      have : zd_th μ k = true := decide_eq_true (of_decide_eq_true this.2.1).1
      rw [hnt] at this
      cases this
  · have ro : ∀ j, j < 19 → ν4 (zdT q + j) = μ (zdT q + j) := fun j hj => ff _ (zJn_T hq hj).1 (by unfold zdT zdW; omega) (by unfold zdT zdW; omega)
    rw [zt_fit_copy (A := μ) (T := zdT q) ⟨ro _ (by omega), ro _ (by omega), ro _ (by omega), ro _ (by omega), ro _ (by omega), ro _ (by omega)⟩ (ff _ (zJn_S hq).2.1 (by unfold zdZ zdW; omega) (by unfold zdZ zdW; omega))]
    exact (h.2.2.2.2.2 q hq hqt).2
end ZO7
