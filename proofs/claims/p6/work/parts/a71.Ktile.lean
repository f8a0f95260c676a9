/-! side by side: a new window tiled -/
section ZKM
variable {ξ μ ν ξ1 ξ' μ' : zm_M} {row stkC stk ord : List Nat} {Rs : Nat → List Nat} {ts us : Nat → zy_F} {T Q τ σ : Nat} {R : List Nat} {t u : zy_F} {s k n m a c f c' f' : Nat} {x y : Int32} {ab' : Nat → Int32}
/-- another place of the class, the trees well formed -/
theorem zs_cl2 (wt : zy_wf t) (h : zs ξ T R t μ τ u) (e3 : ξ' (Q + 3) = ξ (T + 3)) (e7 : ξ' (Q + 7) = ξ (T + 7)) (e8 : ξ' (Q + 8) = ξ (T + 8)) (e12 : ξ' (Q + 12) = ξ (T + 12)) : zs ξ' Q R t μ τ u := by
  obtain ⟨h1, ab, h2⟩ := id h
  have wu := zy_sim_wf (zu_I_or h2) wt h1
  refine ⟨?_, ab, h2⟩
  refine zy_sim_mono t wt u wu h1 (fun x hx y hy p => ⟨?_, ?_⟩) (fun x hx y hy p => ⟨?_, ?_⟩)
  · rw [zt_tb_congr (Q := T) (μ := ξ) e3]; exact p.1
  · rw [e12]; exact p.2
  · rw [e7]; exact p.1
  · rw [e8]; exact p.2
theorem zt_wf_of (hI : zt_I ξ T R t) (hk : k ∈ R) : zy_wf t := by
  rcases zt_I_or hI with rfl | w
  · obtain ⟨n, hn, -⟩ := hI.2.2.2.1 k hk
    cases hn
  · exact w
theorem zs_pl_eqT {ab : Nat → Int32} (hI : zu_I μ τ u ab) (hm : m ∈ zy_lvs u) (e : zu_eqT μ τ ν σ) (p : zs_pl ξ T R μ τ n m) : zs_pl ξ T R ν σ n m :=
  ⟨(e.tb (zu_I_lt hI hm) (zu_I_tbl hI hm)).trans p.1, (e.2.1 250 m rfl (zu_I_lt hI hm)).trans p.2⟩
theorem zt_cut_inj (hI : zt_I ξ Q R t) {nf : Bool} {a' : Nat} (ha : a < 2) (ha' : a' < 2) (h1 : zt_isCut ξ Q R t n k a nf x y ν T c f) (h2 : zt_isCut ξ Q R t n k a' nf x y ν T c' f') : c = c' ∧ f = f' ∧ a = a' := by
  obtain ⟨-, ⟨c1, c2, c3, c4, c5⟩, -, -, -, e, -⟩ := h1
  obtain ⟨-, ⟨d1, d2, d3, d4, d5⟩, -, -, -, e', -⟩ := h2
  have h3 := hI.2.2.1
  have g1 := (e f).symm.trans (e' f)
  have g2 := (e c).symm.trans (e' c)
  rw [if_pos rfl, h3 f c2 c4] at g1
  rw [if_neg c5, if_pos rfl, h3 c c1 c3] at g2
  have n2 : ∀ b, b < 2 → ¬ (2 : Int32) = nI b ∧ ¬ nI b = 2 ∧ ¬ nI b = 3 := by decide
  have ef : f = f' := by
    refine Decidable.byContradiction fun z => ?_
    rw [if_neg z] at g1
    by_cases z2 : f = c'
    · rw [if_pos z2] at g1
      exact (n2 a' ha').1 g1
    · rw [if_neg z2] at g1
      exact absurd g1 (by decide)
  have ec : c = c' := by
    refine Decidable.byContradiction fun z => ?_
    by_cases z2 : c = f'
    · rw [if_pos z2] at g2
      exact (n2 a ha).2.1 g2
    · rw [if_neg z2, if_neg z] at g2
      exact (n2 a ha).2.2 g2
  refine ⟨ec, ef, ?_⟩
  have z2 : ¬ c = f' := by rw [← ef]; exact c5
  rw [if_neg z2, if_pos ec] at g2
  exact (nI_eq (by omega) (by omega)).mp g2
theorem zt_cut_tab (hI : zt_I ξ Q R t) {nf : Bool} {n' : Nat} (h1 : zt_isCut ξ Q R t n k a nf x y ν T c f) (h2 : zt_isTab ξ Q R t n' k x y ν T) : False := by
  obtain ⟨-, ⟨c1, c2, c3, c4, c5⟩, -, -, -, e, -⟩ := h1
  obtain ⟨-, -, -, -, e', -⟩ := h2
  have g1 := (e f).symm.trans (congrFun e' f)
  rw [if_pos rfl, hI.2.2.1 f c2 c4] at g1
  exact absurd g1 (by decide)
/-- the trial tree of the class is at 7 -/
theorem zt_I_7 (hI : zt_I ξ Q R t) : zt_I (fun c => ξ (Q + (c - 7))) 7 R t := hI
theorem zs_7 (hI : zt_I ξ Q R t) (h : zs ξ Q R t μ τ u) : zs (fun c => ξ (Q + (c - 7))) 7 R t μ τ u := zs_cl hI h rfl rfl rfl rfl
theorem zs_cut7 (hI : zt_I ξ Q R t) (h : zs ξ Q R t μ τ u) (hn : n ∈ zy_lvs t) (hm : m ∈ zy_lvs u) (p : zs_pl ξ Q R μ τ n m) (hk : k < 10) (hkR : k ∉ R) {nf : Bool} (hc : zt_isCut ξ Q R t n k a nf x y ξ' 7 c f) (hu : zu_isCut μ τ u m k a nf ν ab' c' f') : zs ξ' 7 (R ++ [k]) (zy_sub n (.append (.tag c (.tag (if nf then f else n) .nil)) (.tag (if nf then n else f) .nil)) t) ν τ (zy_sub m (.append (.tag c' (.tag (if nf then f' else m) .nil)) (.tag (if nf then m else f') .nil)) u) :=
  zs_cut (ξ := fun c => ξ (Q + (c - 7))) (zt_I_7 hI) (zs_7 hI h) hn hm p hk hkR hc.2.1 hc.2.2.1 hc.2.2.2.2.2.1 hc.2.2.2.2.2.2.1 hc.2.2.2.2.2.2.2 hu
theorem zs_tab7 (hI : zt_I ξ Q R t) (h : zs ξ Q R t μ τ u) (hn : n ∈ zy_lvs t) (hm : m ∈ zy_lvs u) (p : zs_pl ξ Q R μ τ n m) (hk : k < 10) (hkR : k ∉ R) (hc : zt_isTab ξ Q R t n k x y ξ' 7) (hu : zu_isTab μ τ u ab' m k ν) : zs ξ' 7 (R ++ [k]) t ν τ u :=
  zs_tab (ξ := fun c => ξ (Q + (c - 7))) (zt_I_7 hI) (zs_7 hI h) hn hm p hk hkR hc.2.1 hc.2.2.2.2.1 hc.2.2.2.2.2.1 hc.2.2.2.2.2.2 hu
/-- the sizes of the tabs of a trial -/
theorem zs_szA {V : Nat} (hz : zs_sz ξ Q R μ) (hk : ∀ a, a < 2 → μ (235 + a) k = ξ' (V + 5 + a) k) (e5 : ∀ v ∈ R, ξ' (V + 5) v = ξ (Q + 5) v) (e6 : ∀ v ∈ R, ξ' (V + 6) v = ξ (Q + 6) v) : zs_sz ξ' V (R ++ [k]) μ := by
  intro a ha w hw
  rcases List.mem_append.mp hw with hw | hw
  · have := hz a ha w hw
    rcases (by omega : a = 0 ∨ a = 1) with rfl | rfl
    · exact this.trans (e5 w hw).symm
    · exact this.trans (e6 w hw).symm
  · rw [List.mem_singleton.mp hw]
    exact hk a ha
theorem zs_szF (hz : zs_sz ξ Q R μ) (f : ∀ c d, c = 235 ∨ c = 236 → ν c d = μ c d) : zs_sz ξ Q R ν := fun a ha w hw => (f _ w (by omega)).trans (hz a ha w hw)
end ZKM
