/-! class and reference side by side -/
section ZKA
variable {μ ν ξ : zm_M} {row stk : List Nat} {Rs : Nat → List Nat} {ts : Nat → zy_F}
theorem zJ.low (h : zJ μ row stk Rs ts) (e : ∀ c, c < 231 → ν c = μ c) : zJ ν row stk Rs ts := by
  obtain ⟨h1, h2, h3, h4, h5, h6⟩ := h
  have eW : ∀ k, k < 10 → ν (zdW k) = μ (zdW k) := fun k hk => e _ (by unfold zdW; omega)
  have eL : ∀ k, k < 10 → ν (zdW k + 1) = μ (zdW k + 1) := fun k hk => e _ (by unfold zdW; omega)
  have eT : ∀ s, s < 3 → ∀ j, j < 19 → ν (zdT s + j) = μ (zdT s + j) := fun s hs j hj => e _ (by unfold zdT; omega)
  have eV : ∀ s, s < 3 → ∀ j, j < 19 → ν (zdV s + j) = μ (zdV s + j) := fun s hs j hj => e _ (by unfold zdV; omega)
  have th : ∀ k, k < 10 → zd_th ν k = zd_th μ k := fun k hk => by unfold zd_th; rw [eW k hk]
  have til : ∀ k, k < 10 → zd_til ν k = zd_til μ k := fun k hk => by unfold zd_til; rw [eW k hk]
  refine ⟨⟨zr_L_congr (e _ (by decide)) (e _ (by decide)) h1.1, h1.2.1, fun k => ?_⟩, ⟨zr_L_congr (e _ (by decide)) (e _ (by decide)) h2.1, h2.2⟩, fun k hk ht => ?_, fun s hs => ?_, fun s hs => ?_, fun s hs ht => ?_⟩
  · rw [h1.2.2 k]
    constructor
    · rintro ⟨a, b⟩
      exact ⟨a, by rw [th k a]; exact b⟩
    · rintro ⟨a, b⟩
      exact ⟨a, by rw [← th k a]; exact b⟩
  · rw [th k hk] at ht
    obtain ⟨a1, a2, a3, a4, a5⟩ := h3 k hk ht
    rw [eW k hk, eL k hk]
    refine ⟨a1, a2, fun q => ?_, fun q => ?_, a5⟩
    · obtain ⟨s, b1, b2, b3⟩ := a3 q
      exact ⟨s, b1, b2, by rw [e _ (by unfold zdS; omega)]; exact b3⟩
    · obtain ⟨o, b1, b2, b3, b4⟩ := a4 q
      exact ⟨o, b1, b2, b3, by rw [th o b1]; exact b4⟩
  · obtain ⟨a1, a2, a3⟩ := h4 s hs
    refine ⟨zt_C_19 (eT s hs) a1, fun k => ?_, fun k hk => ?_⟩
    · rw [a2 k]
      constructor
      · rintro ⟨b1, b2⟩
        exact ⟨b1, by rw [til k b1, eW k b1]; exact b2⟩
      · rintro ⟨b1, b2⟩
        exact ⟨b1, by rw [til k b1, eW k b1] at b2; exact b2⟩
    · have hk10 := ((a2 k).mp hk).1
      rw [eT s hs 5 (by omega), eT s hs 6 (by omega), eL k hk10]
      exact a3 k hk
  · obtain ⟨a1, a2⟩ := h5 s hs
    refine ⟨zt_C_19 (eV s hs) a1, fun q => ?_⟩
    rw [e _ (by unfold zdK; omega)] at q
    obtain ⟨b1, b2, b3⟩ := a2 q
    refine ⟨by rw [e _ (by unfold zdS; omega)]; exact b1, fun k hk => ?_, fun k hk hq => ?_⟩
    · have hk10 := a1.1.1.2.2 k hk
      rw [eV s hs 5 (by omega), eV s hs 6 (by omega), eL k hk10, til k hk10]
      exact b2 k hk
    · rw [e _ (by unfold zdQ; omega)] at hq
      rw [th k hk, eW k hk]
      exact b3 k hk hq
  · rw [e _ (by unfold zdS; omega)] at ht
    obtain ⟨a1, a2⟩ := h6 s hs ht
    rw [e _ (by unfold zdZ; omega)]
    refine ⟨a1, ?_⟩
    unfold zt_fit at *
    rw [zt_lsz_19 (eT s hs) (by decide), zt_lsz_19 (eT s hs) (by decide), e _ (by unfold zdZ; omega)]
    exact a2

end ZKA
/-- windows and screens are the same -/
def zK_w (ξ μ : zm_M) : Prop :=
  (∀ k, k < 10 → (zd_th ξ k = false → μ 234 k = 0) ∧ (zd_th ξ k = true → μ 234 k = ξ (zdW k) 3 ∧ (μ 235 k = ξ (zdW k + 1) 0 ∧ μ 236 k = ξ (zdW k + 1) 1) ∧ (ξ (zdW k) 3 = 3 → μ 237 k = ξ (zdW k) 4) ∧ (¬ ξ (zdW k) 3 = 4 → μ 238 k = ξ (zdW k) 5))) ∧
  ∀ s, s < 3 → (ξ (zdS s) 3 = 0 → μ 232 s = 0 ∧ μ 233 s = 0) ∧ (¬ ξ (zdS s) 3 = 0 → μ 232 s = ξ (zdZ s) 0 ∧ μ 233 s = ξ (zdZ s) 1)
/-- a dialog is where its owner is; what is kept with it is kept with its owner -/
def zK_d (ξ : zm_M) : Prop := ∀ k, k < 10 → zd_th ξ k = true → ξ (zdW k) 3 = 3 → ∃ o, o < 10 ∧ ξ (zdW k) 4 = nI o ∧ ¬ ξ (zdW o) 3 = 4 ∧ ξ (zdW k) 5 = ξ (zdW o) 5 ∧ ∀ s, s < 3 → zd_has ξ s k = true → zd_has ξ s o = true
/-- what is kept is the same -/
def zK_k (ξ μ : zm_M) (Rs : Nat → List Nat) (ts us : Nat → zy_F) : Prop :=
  (∀ d, d < 30 → μ 252 d = 0 ∨ μ 252 d = 1) ∧ ∀ s, s < 3 → (μ 251 s = 0 ↔ ξ (zdK s) 3 = 0) ∧ (¬ ξ (zdK s) 3 = 0 → (∀ k, k < 10 → (¬ μ 252 (10 * s + k) = 0 ↔ zd_has ξ s k = true)) ∧ zs ξ (zdV s) (Rs (3 + s)) (ts (3 + s)) μ (3 + s) (us (3 + s)))
/-- but for the rows -/
def zK0 (ξ μ : zm_M) (ord : List Nat) (Rs : Nat → List Nat) (ts us : Nat → zy_F) : Prop :=
  zK_w ξ μ ∧ zK_d ξ ∧ zv_ord μ ord ∧ (∀ s, s < 3 → zs ξ (zdT s) (Rs s) (ts s) μ s (us s)) ∧ zK_k ξ μ Rs ts us
def zK_r (ξ μ : zm_M) (row stk : List Nat) : Prop := zv_L μ 242 12 row ∧ zv_L μ 241 10 stk ∧ stk.Nodup ∧ ∀ k, k ∈ stk ↔ k < 10 ∧ zd_flo ξ k = true
def zK (ξ μ : zm_M) (row stkC stk ord : List Nat) (Rs : Nat → List Nat) (ts us : Nat → zy_F) : Prop :=
  zJ ξ row stkC Rs ts ∧ zK_r ξ μ row stk ∧ zK0 ξ μ ord Rs ts us
section ZKB
variable {ξ μ ξ' μ' : zm_M} {row stkC stk ord : List Nat} {Rs : Nat → List Nat} {ts us : Nat → zy_F} {T τ : Nat} {R : List Nat} {t u : zy_F}
theorem zs_tb (hI : zt_I ξ T R t) (h : zs ξ T R t μ τ u) {m : Nat} (hm : m ∈ zy_lvs u) : ∃ n ∈ zy_lvs t, zs_pl ξ T R μ τ n m := by
  rcases zs_wf hI h with ⟨rfl, rfl⟩ | ⟨wt, wu⟩
  · cases hm
  · exact zy_sim_r t wt u wu h.1 m hm
theorem zs_nd (hI : zt_I ξ T R t) (h : zs ξ T R t μ τ u) : zu_nd μ τ u ∧ ∀ m ∈ zy_lvs u, ∀ w ∈ zu_tb μ τ m, w ∈ R := by
  have hw : ∀ m ∈ zy_lvs u, ∀ w ∈ zu_tb μ τ m, w ∈ R := fun m hm w hw => by
    obtain ⟨n, hn, p⟩ := zs_tb hI h hm
    rw [p.1] at hw
    exact (zt_tb_mem.mp hw).1
  refine ⟨⟨fun m hm => ?_, fun m hm m' hm' w a b => ?_⟩, hw⟩
  · obtain ⟨n, hn, p⟩ := zs_tb hI h hm
    rw [p.1]
    exact hI.1.2.1.filter _
  · obtain ⟨n, m0, -, -, at0, -⟩ := zs_at' hI h (hw m hm w a)
    rw [at0.2.2 m hm a, at0.2.2 m' hm' b]
/-- all that matters is the same, but for the trees -/
theorem zK0.gen' {Rs' : Nat → List Nat} {ts' us' : Nat → zy_F} (h : zK0 ξ μ ord Rs ts us) (hV : ∀ s, s < 3 → zt_I ξ (zdV s) (Rs (3 + s)) (ts (3 + s))) (eW : ∀ k, k < 10 → ξ' (zdW k) = ξ (zdW k)) (eL : ∀ k, k < 10 → ξ' (zdW k + 1) = ξ (zdW k + 1)) (eS : ∀ s, s < 3 → ξ' (zdS s) = ξ (zdS s) ∧ ξ' (zdZ s) = ξ (zdZ s) ∧ ξ' (zdK s) = ξ (zdK s) ∧ ξ' (zdQ s) = ξ (zdQ s)) (eV : ∀ s, s < 3 → ∀ j, j < 19 → ξ' (zdV s + j) = ξ (zdV s + j)) (f : ∀ c d, (232 ≤ c ∧ c ≤ 238) ∨ c = 251 ∨ c = 252 → μ' c d = μ c d) (hT : ∀ s, s < 3 → zu_eqT μ (3 + s) μ' (3 + s)) (hR : ∀ s, s < 3 → Rs' (3 + s) = Rs (3 + s) ∧ ts' (3 + s) = ts (3 + s) ∧ us' (3 + s) = us (3 + s)) (hz : ∀ s, s < 3 → zs ξ' (zdT s) (Rs' s) (ts' s) μ' s (us' s)) : zK0 ξ' μ' ord Rs' ts' us' := by
  obtain ⟨h2, h3, h5, h6, h7⟩ := h
  have th : ∀ k, k < 10 → zd_th ξ' k = zd_th ξ k := fun k hk => by unfold zd_th; rw [eW k hk]
  have has : ∀ s k, s < 3 → zd_has ξ' s k = zd_has ξ s k := fun s k hs => by unfold zd_has; rw [(eS s hs).2.2.1, (eS s hs).2.2.2, eV s hs 3 (by decide)]
  refine ⟨⟨fun k hk => ?_, fun s hs => ?_⟩, fun k hk a b => ?_, ⟨h5.1, fun x => ?_, fun x hx a => ?_⟩, hz, fun d hd => ?_, fun s hs => ?_⟩
  · rw [th k hk, eW k hk, eL k hk, f 234 k (by omega), f 235 k (by omega), f 236 k (by omega), f 237 k (by omega), f 238 k (by omega)]
    exact h2.1 k hk
  · rw [(eS s hs).1, (eS s hs).2.1, f 232 s (by omega), f 233 s (by omega)]
    exact h2.2 s hs
  · rw [th k hk] at a
    rw [eW k hk] at b ⊢
    obtain ⟨o, ho, q1, q2, q3, q4⟩ := h3 k hk a b
    refine ⟨o, ho, q1, by rw [eW o ho]; exact q2, by rw [eW o ho]; exact q3, fun s hs z => ?_⟩
    rw [has s _ hs] at z ⊢
    exact q4 s hs z
  · rw [f 234 x (by omega)]
    exact h5.2.1 x
  · rw [f 234 x (by omega)] at a
    rw [f 237 x (by omega)]
    exact h5.2.2 x hx a
  · rw [f 252 d (by omega)]
    exact h7.1 d hd
  · rw [f 251 s (by omega), (eS s hs).2.2.1, (hR s hs).1, (hR s hs).2.1, (hR s hs).2.2]
    refine ⟨(h7.2 s hs).1, fun c => ⟨fun k hk => ?_, ?_⟩⟩
    · rw [has s k hs, f 252 _ (by omega)]
      exact ((h7.2 s hs).2 c).1 k hk
    · exact zs_cl (hV s hs) (zs_eqT (hV s hs) ((h7.2 s hs).2 c).2 (hT s hs)) (eV s hs 3 (by decide)) (eV s hs 7 (by decide)) (eV s hs 8 (by decide)) (eV s hs 12 (by decide))
theorem zK0.gen (h : zK0 ξ μ ord Rs ts us) (hI : ∀ s, s < 3 → zt_I ξ (zdT s) (Rs s) (ts s)) (hV : ∀ s, s < 3 → zt_I ξ (zdV s) (Rs (3 + s)) (ts (3 + s))) (eW : ∀ k, k < 10 → ξ' (zdW k) = ξ (zdW k)) (eL : ∀ k, k < 10 → ξ' (zdW k + 1) = ξ (zdW k + 1)) (eS : ∀ s, s < 3 → ξ' (zdS s) = ξ (zdS s) ∧ ξ' (zdZ s) = ξ (zdZ s) ∧ ξ' (zdK s) = ξ (zdK s) ∧ ξ' (zdQ s) = ξ (zdQ s)) (eT : ∀ s, s < 3 → ∀ j, j < 19 → ξ' (zdT s + j) = ξ (zdT s + j)) (eV : ∀ s, s < 3 → ∀ j, j < 19 → ξ' (zdV s + j) = ξ (zdV s + j)) (f : ∀ c d, (232 ≤ c ∧ c ≤ 238) ∨ c = 251 ∨ c = 252 → μ' c d = μ c d) (hT : ∀ τ, zu_eqT μ τ μ' τ) : zK0 ξ' μ' ord Rs ts us :=
  h.gen' hV eW eL eS eV f (fun s _ => hT _) (fun _ _ => ⟨rfl, rfl, rfl⟩) (fun s hs => zs_cl (hI s hs) (zs_eqT (hI s hs) (h.2.2.2.1 s hs) (hT _)) (eT s hs 3 (by decide)) (eT s hs 7 (by decide)) (eT s hs 8 (by decide)) (eT s hs 12 (by decide)))
theorem zK_r.gen (h : zK_r ξ μ row stk) (eW : ∀ k, k < 10 → ξ' (zdW k) = ξ (zdW k)) (fL : ∀ C q l, (C = 241 ∧ q = 10) ∨ (C = 242 ∧ q = 12) → zv_L μ C q l → zv_L μ' C q l) : zK_r ξ' μ' row stk := by
  have flo : ∀ k, k < 10 → zd_flo ξ' k = zd_flo ξ k := fun k hk => by unfold zd_flo; rw [eW k hk]
  refine ⟨fL _ _ _ (Or.inr ⟨rfl, rfl⟩) h.1, fL _ _ _ (Or.inl ⟨rfl, rfl⟩) h.2.1, h.2.2.1, fun k => ?_⟩
  rw [h.2.2.2 k]
  exact ⟨fun z => ⟨z.1, by rw [flo k z.1]; exact z.2⟩, fun z => ⟨z.1, by rw [← flo k z.1]; exact z.2⟩⟩
/-- the class's memory below 231, the reference's from there on -/
theorem zK.congr (h : zK ξ μ row stkC stk ord Rs ts us) (e : ∀ c, c < 231 → ξ' c = ξ c) (f : ∀ c, 231 ≤ c → μ' c = μ c) : zK ξ' μ' row stkC stk ord Rs ts us := by
  obtain ⟨h1, h4, h0⟩ := h
  exact ⟨h1.low e, h4.gen (fun k hk => e _ (by unfold zdW; omega)) (fun C q l hC g => ⟨g.1, by rw [f 231 (Nat.le_refl _)]; exact g.2.1, fun j hj => by rw [f C (by omega)]; exact g.2.2 j hj⟩),
    h0.gen (fun s hs => (h1.2.2.2.1 s hs).1.1) (fun s hs => (h1.2.2.2.2.1 s hs).1.1) (fun k hk => e _ (by unfold zdW; omega)) (fun k hk => e _ (by unfold zdW; omega)) (fun s hs => ⟨e _ (by unfold zdS; omega), e _ (by unfold zdZ; omega), e _ (by unfold zdK; omega), e _ (by unfold zdQ; omega)⟩) (fun s hs j hj => e _ (by unfold zdT; omega)) (fun s hs j hj => e _ (by unfold zdV; omega)) (fun c d r => by rw [f c (by omega)]) (fun τ => zu_eq_in (fun c d r => by rw [f c (Nat.le_of_not_lt fun z => zu_in_not (Or.inl (by omega)) r)]))⟩
/-- a question asked on both sides -/
theorem zK.scr (h : zK ξ μ row stkC stk ord Rs ts us) (e : zJ_eqv ξ ξ') (f : zM_fr μ μ') : zK ξ' μ' row stkC stk ord Rs ts us := by
  obtain ⟨h1, h4, h0⟩ := h
  exact ⟨h1.eqv e, h4.gen (fun k hk => e _ (zJn_W hk).1) (fun C q l hC g => f.L (by omega) (by omega) g),
    h0.gen (fun s hs => (h1.2.2.2.1 s hs).1.1) (fun s hs => (h1.2.2.2.2.1 s hs).1.1) (fun k hk => e _ (zJn_W hk).1) (fun k hk => e _ (zJn_W hk).2) (fun s hs => ⟨e _ (zJn_S hs).1, e _ (zJn_S hs).2.1, e _ (zJn_S hs).2.2.1, e _ (zJn_S hs).2.2.2⟩) (fun s hs j hj => e _ (zJn_T hs hj).1) (fun s hs j hj => e _ (zJn_T hs hj).2) (fun c d r => f c d (by omega) (by omega) (by omega) (by omega)) (fun τ => f.eqT)⟩
/-- the sizes of tabs -/
theorem zK_sz (h : zK ξ μ row stkC stk ord Rs ts us) {s : Nat} (hs : s < 3) : zs_sz ξ (zdT s) (Rs s) μ := fun a ha w hw => by
  obtain ⟨h1, -, h2, -⟩ := h
  obtain ⟨-, b2, b3⟩ := h1.2.2.2.1 s hs
  obtain ⟨hw10, ht, -⟩ := (b2 w).mp hw
  have hth : zd_th ξ w = true := decide_eq_true (of_decide_eq_true ht).1
  obtain ⟨e5, e6⟩ := b3 w hw
  obtain ⟨-, ⟨f5, f6⟩, -⟩ := (h2.1 w hw10).2 hth
  rcases (by omega : a = 0 ∨ a = 1) with rfl | rfl
  · show μ 235 w = ξ (zdT s + 5) w
    rw [e5, f5]
  · show μ 236 w = ξ (zdT s + 6) w
    rw [e6, f6]
theorem zK_R (h : zK ξ μ row stkC stk ord Rs ts us) : zR μ row stk us := by
  obtain ⟨h1, h4, h2, h3, h5, h6, h7⟩ := h
  have hth : ∀ k, k < 10 → (¬ μ 234 k = 0 ↔ zd_th ξ k = true) := fun k hk => by
    cases c : zd_th ξ k with
    | false => exact ⟨fun z => absurd ((h2.1 k hk).1 c) z, fun z => by cases z⟩
    | true =>
      refine ⟨fun _ => rfl, fun _ => ?_⟩
      rw [((h2.1 k hk).2 c).1]
      rcases (h1.2.2.1 k hk c).1 with e | e | e | e <;> rw [e] <;> decide
  refine ⟨fun k hk => ?_, ⟨h4.1, h1.1.2.1, fun k => ?_⟩, ⟨h4.2.1, h4.2.2.1, fun k => ?_⟩, zv_ord_rk h5, fun q hq => ?_, fun k hk a b => ?_, fun q hq => ?_⟩
  · cases c : zd_th ξ k with
    | false => exact Or.inl ((h2.1 k hk).1 c)
    | true => rw [((h2.1 k hk).2 c).1]; exact Or.inr (h1.2.2.1 k hk c).1
  · rw [h1.1.2.2 k]
    exact ⟨fun z => ⟨z.1, (hth k z.1).mpr z.2⟩, fun z => ⟨z.1, (hth k z.1).mp z.2⟩⟩
  · rw [h4.2.2.2 k]
    refine and_congr_right (fun hk => ?_)
    cases c : zd_th ξ k with
    | false =>
      rw [(h2.1 k hk).1 c]
      exact ⟨fun z => (by
        have q : zd_th ξ k = true := decide_eq_true (of_decide_eq_true z).1
        rw [c] at q
        cases q), fun z => absurd z (by decide)⟩
    | true =>
      rw [((h2.1 k hk).2 c).1]
      have c2 := of_decide_eq_true c
      refine ⟨fun z => ?_, fun z => decide_eq_true ⟨c2, fun e => ?_⟩⟩
      · have z2 := (of_decide_eq_true z).2
        rcases (h1.2.2.1 k hk c).1 with e | e | e | e
        · exact absurd e z2
        all_goals rw [e]; decide
      · rw [e] at z
        exact absurd z (by decide)
  · have hC := (h1.2.2.2.1 q hq).1
    obtain ⟨n1, n2⟩ := zs_nd hC.1 (h6 q hq)
    refine ⟨(h6 q hq).2, n1, fun m hm w hw => ?_⟩
    obtain ⟨hw10, ht, hsc⟩ := ((h1.2.2.2.1 q hq).2.1 w).mp (n2 m hm w hw)
    obtain ⟨t1, t2⟩ := of_decide_eq_true ht
    obtain ⟨e1, -, -, e4⟩ := (h2.1 w hw10).2 (decide_eq_true t1)
    exact ⟨e1.trans t2, (e4 (by rw [t2]; decide)).trans hsc⟩
  · have c := (hth k hk).mp a
    obtain ⟨e1, -, -, e4⟩ := (h2.1 k hk).2 c
    rw [e1] at b ⊢
    obtain ⟨-, -, w3, -⟩ := h1.2.2.1 k hk c
    obtain ⟨s, hs, q1, q2⟩ := w3 b
    obtain ⟨z1, -⟩ := (h2.2 s hs).2 q2
    refine ⟨s, hs, (e4 b).trans q1, ?_, fun e => ?_⟩
    · rw [z1]
      have := (h1.2.2.2.2.2 s hs q2).1.1
      exact Int32.lt_of_lt_of_le (by decide) this
    · have hk' : k ∈ Rs s := ((h1.2.2.2.1 s hs).2.1 k).mpr ⟨hk, decide_eq_true ⟨of_decide_eq_true c, e⟩, q1⟩
      obtain ⟨n, m, -, -, hat, -⟩ := zs_at' (h1.2.2.2.1 s hs).1.1 (h6 s hs) hk'
      exact ⟨m, hat⟩
  · by_cases c : ξ (zdS q) 3 = 0
    · obtain ⟨z1, z2⟩ := (h2.2 q hq).1 c
      rw [z1, z2]
      exact ⟨Int32.le_refl _, Int32.le_refl _⟩
    · obtain ⟨z1, z2⟩ := (h2.2 q hq).2 c
      obtain ⟨q1, -, q3, -⟩ := (h1.2.2.2.2.2 q hq c).1
      rw [z1, z2]
      exact ⟨Int32.le_trans (by decide) q1, Int32.le_trans (by decide) q3⟩
theorem zK_kep (h : zK ξ μ row stkC stk ord Rs ts us) : zv_kep μ us := by
  obtain ⟨h1, h4, h2, h3, h5, h6, h7⟩ := h
  refine ⟨fun s hs c => ?_, h7.1⟩
  obtain ⟨k1, k2⟩ := h7.2 s hs
  have c' : ¬ ξ (zdK s) 3 = 0 := fun z => c (k1.mpr z)
  obtain ⟨-, k3⟩ := k2 c'
  obtain ⟨a1, a2⟩ := h1.2.2.2.2.1 s hs
  obtain ⟨n1, n2⟩ := zs_nd a1.1 k3
  refine ⟨k3.2, n1, fun m hm w hw => ?_⟩
  have hwR := n2 m hm w hw
  have ht := ((a2 c').2.1 w hwR).1
  obtain ⟨t1, t2⟩ := of_decide_eq_true ht
  exact ((h2.1 w (a1.1.1.2.2 w hwR)).2 (decide_eq_true t1)).1.trans t2
end ZKB
