/-! the class's trees when a set of windows has left -/
def zt_X (μ ξ : zm_M) (T : Nat) (R : List Nat) (t : zy_F) (R' : List Nat) (t' : zy_F) (X : Nat → Bool) : Prop :=
  R' = R.filter (fun w => !X w) ∧ t' = zy_keep (fun n => decide ((zt_tb μ T R n).filter (fun w => !X w) ≠ [])) t ∧ (∀ n ∈ zy_lvs t', zt_tb ξ T R' n = (zt_tb μ T R n).filter (fun w => !X w) ∧ ∀ g, g ∈ zt_tb μ T R n → μ (T + 12) n = nI g → ξ (T + 12) n = zl_sw (zt_tb μ T R n) g X) ∧
  (∀ n ∈ zy_ids t', ξ (T + 7) n = μ (T + 7) n) ∧ ξ (T + 8) = μ (T + 8)
section ZTX
variable {μ ξ ν : zm_M} {T : Nat} {R R1 : List Nat} {t t1 : zy_F} {X X' : Nat → Bool}
theorem zt_I_or (h : zt_I μ T R t) : t = .nil ∨ zy_wf t := h.2.1.1.imp (·.1) (·.1)
theorem zt_tb_ne (hI : zt_I μ T R t) {n : Nat} (hn : n ∈ zy_lvs t) : zt_tb μ T R n ≠ [] := by
  obtain ⟨w, h1, h2, -⟩ := hI.2.2.2.2.2 n hn
  exact List.ne_nil_of_mem (zt_tb_mem.mpr ⟨h1, h2⟩)
theorem zt_X_0 (hI : zt_I μ T R t) : zt_X μ μ T R t R t (fun _ => false) := by
  refine ⟨zl_flt_no.symm, ?_, fun n hn => ⟨zl_flt_no.symm, fun g hg e => by rw [zl_sw_0 hg]; exact e⟩, fun n _ => rfl, rfl⟩
  rcases zt_I_or hI with e | w
  · rw [e]; rfl
  · refine (zy_keep_all t w fun n hn => decide_eq_true ?_).symm
    rw [zl_flt_no]
    exact zt_tb_ne hI hn
theorem zt_X_same {ξ' : zm_M} (h : zt_X μ ξ T R t R1 t1 X) (e : ∀ j, j < 19 → ξ' (T + j) = ξ (T + j)) : zt_X μ ξ' T R t R1 t1 X := by
  obtain ⟨h1, h2, h3, h4, h5⟩ := h
  refine ⟨h1, h2, fun n hn => ?_, fun n hn => by rw [e 7 (by decide)]; exact h4 n hn, by rw [e 8 (by decide)]; exact h5⟩
  rw [zt_tb_congr (e 3 (by decide)), e 12 (by decide)]
  exact h3 n hn
theorem zt_X_congr (h : zt_X μ ξ T R t R1 t1 X) (w : t = .nil ∨ zy_wf t) (e : ∀ x ∈ R, X' x = X x) : zt_X μ ξ T R t R1 t1 X' := by
  obtain ⟨h1, h2, h3, h4, h5⟩ := h
  have ef : ∀ n, (zt_tb μ T R n).filter (fun w => !X' w) = (zt_tb μ T R n).filter (fun w => !X w) := fun n => List.filter_congr fun x hx => by rw [e x (zt_tb_mem.mp hx).1]
  refine ⟨by rw [h1]; exact List.filter_congr fun x hx => by rw [e x hx], ?_, fun n hn => ⟨by rw [ef]; exact (h3 n hn).1, fun g hg q => by rw [(h3 n hn).2 g hg q]; exact zl_sw_congr fun x hx => (e x (zt_tb_mem.mp hx).1).symm⟩, h4, h5⟩
  rw [h2]
  rcases w with w | w
  · rw [w]; rfl
  · exact zy_keep_congr t w fun n _ => by rw [ef]
theorem zt_X_step (hI : zt_I μ T R t) (hI1 : zt_I ξ T R1 t1) (h : zt_X μ ξ T R t R1 t1 X) {w n : Nat} (hX : X w = false) (hn : n ∈ zy_lvs t1) (hwR : w ∈ R1) (hwn : ξ (T + 3) w = nI n) (ho : zt_isOut ξ T R1 t1 n w ν T) :
    zt_X μ ν T R t (R1.erase w) (if (zt_tb ξ T R1 n).erase w = [] then zy_out n t1 else t1) (zv_add X w) := by
  obtain ⟨hR, hk, hl, hi, h8⟩ := h
  have wt1 : zy_wf t1 := by
    rcases zt_I_or hI1 with e | w
    · rw [e] at hn; cases hn
    · exact w
  have wt : zy_wf t := by
    rcases zt_I_or hI with e | w
    · rw [e, zy_keep_nil] at hk
      rw [hk] at wt1; exact wt1.elim
    · exact w
  have hdR := hI.1.2.1
  have hdR1 := hI1.1.2.1
  have hsub : ∀ x ∈ zy_lvs t1, x ∈ zy_lvs t := fun x hx => by
    rw [hk, zy_keep_lvs t wt] at hx
    exact (List.mem_filter.mp hx).1
  have hnt := hsub n hn
  have h19 := (zt_I_lvn hI).2
  obtain ⟨e1, e2⟩ := hl n hn
  have hwF1 : w ∈ zt_tb ξ T R1 n := zt_tb_mem.mpr ⟨hwR, hwn⟩
  have hwF : w ∈ zt_tb μ T R n := by
    rw [e1] at hwF1
    exact (List.mem_filter.mp hwF1).1
  have hdF : ∀ x, (zt_tb μ T R x).Nodup := fun x => hdR.filter _
  have hbF : ∀ x ∈ zt_tb μ T R n, x < 10 := fun x hx => hI.1.2.2 x (zt_tb_mem.mp hx).1
  have hoth : ∀ x ∈ zy_lvs t, x ≠ n → ∀ y ∈ zt_tb μ T R x, zv_add X w y = X y := fun x hx hne y hy => zv_add_ne (fun e => by
    have h1 := (zt_tb_mem.mp hy).2
    have h2 := (zt_tb_mem.mp hwF).2
    rw [e] at h1
    have l1 := h19 x hx
    have l2 := h19 n hnt
    exact hne ((nI_eq (by omega) (by omega)).mp (h1.symm.trans h2)))
  have hof : ∀ x ∈ zy_lvs t, x ≠ n → (zt_tb μ T R x).filter (fun y => !zv_add X w y) = (zt_tb μ T R x).filter (fun y => !X y) := fun x hx hne => List.filter_congr fun y hy => by rw [hoth x hx hne y hy]
  have hmf : (zt_tb μ T R n).filter (fun x => !zv_add X w x) = (zt_tb ξ T R1 n).erase w := by rw [e1]; exact zl_flt_er (hdF n)
  have hout : zy_out n t1 = zy_keep (fun x => decide (x ≠ n)) t1 := zy_out_keep t1 wt1 hI1.2.1.2.1 hn
  have hids : ∀ x ∈ zy_ids (if (zt_tb ξ T R1 n).erase w = [] then zy_out n t1 else t1), x ∈ zy_ids t1 := fun x hx => by
    by_cases c : (zt_tb ξ T R1 n).erase w = []
    · rw [if_pos c, hout] at hx; exact zy_keep_ids t1 wt1 hx
    · rw [if_neg c] at hx; exact hx
  have hlvs : ∀ x ∈ zy_lvs (if (zt_tb ξ T R1 n).erase w = [] then zy_out n t1 else t1), x ∈ zy_lvs t1 ∧ (x = n → (zt_tb ξ T R1 n).erase w ≠ []) := fun x hx => by
    by_cases c : (zt_tb ξ T R1 n).erase w = []
    · rw [if_pos c, hout, zy_keep_lvs t1 wt1] at hx
      obtain ⟨h1, h2⟩ := List.mem_filter.mp hx
      exact ⟨h1, fun e => absurd e (of_decide_eq_true h2)⟩
    · rw [if_neg c] at hx; exact ⟨hx, fun _ => c⟩
  obtain ⟨o1, o3, -, -, o7, o8, o12⟩ := ho
  have etb : ∀ x, zt_tb ν T (R1.erase w) x = (zt_tb ξ T R1 x).erase w := fun x => zt_tb_out hdR1 (fun v hv => by rw [o3 v, if_neg hv])
  refine ⟨?_, ?_, fun x hx => ?_, fun x hx => (o7 x hx).trans (hi x (hids x hx)), o8.trans h8⟩
  · rw [hR]; exact (zl_flt_er hdR).symm
  · by_cases c : (zt_tb ξ T R1 n).erase w = []
    · rw [if_pos c, hout, hk, zy_keep_keep t wt]
      refine zy_keep_congr t wt fun x hx => ?_
      by_cases e : x = n
      · rw [e, hmf, c, decide_eq_false (not_not_intro rfl), decide_eq_false (not_not_intro rfl)]; rfl
      · rw [hof x hx e, decide_eq_true e, Bool.true_and]
    · rw [if_neg c, hk]
      refine zy_keep_congr t wt fun x hx => ?_
      by_cases e : x = n
      · rw [e, hmf, decide_eq_true c, ← e1, decide_eq_true (List.ne_nil_of_mem hwF1)]
      · rw [hof x hx e]
  · obtain ⟨h1, h2⟩ := hlvs x hx
    obtain ⟨a1, a2⟩ := hl x h1
    by_cases e : x = n
    · subst e
      have h2 := h2 rfl
      refine ⟨by rw [etb, hmf], fun g hg eg => ?_⟩
      rw [o12 x, a2 g hg eg, zl_sw_step (hdF x) hbF hwF hX (by rw [← e1]; exact h2), ← e1]
      by_cases c : zl_sw (zt_tb μ T R x) g X = nI w
      · rw [if_pos ⟨rfl, c⟩, if_pos c]
      · rw [if_neg (fun z => c z.2), if_neg c]
    · refine ⟨?_, fun g hg eg => ?_⟩
      · rw [etb, hof x (hsub x h1) e, ← a1]
        refine List.erase_of_not_mem fun q => ?_
        have l1 := h19 x (hsub x h1)
        have l2 := h19 n hnt
        exact e ((nI_eq (by omega) (by omega)).mp ((zt_tb_mem.mp q).2.symm.trans hwn))
      · rw [o12 x, if_neg (fun z => e z.1), a2 g hg eg]
        exact (zl_sw_congr (hoth x (hsub x h1) e)).symm
theorem zd_seq_X {μ0 : zm_M} {Rs0 : Nat → List Nat} {ts0 : Nat → zy_F} (hI0 : ∀ q, q < 3 → zt_I μ0 (zdT q) (Rs0 q) (ts0 q)) (hdj : ∀ q p j, q < 3 → p < 3 → j ∈ Rs0 q → j ∈ Rs0 p → q = p) : ∀ (l : List Nat) (μ : zm_M) (Rs : Nat → List Nat) (ts : Nat → zy_F) (X : Nat → Bool) (ξ : zm_M) (Rs' : Nat → List Nat) (ts' : Nat → zy_F), l.Nodup → (∀ x ∈ l, X x = false) → (∀ q, q < 3 → zt_C μ (zdT q) (Rs q) (ts q)) → (∀ q, q < 3 → zt_X μ0 μ (zdT q) (Rs0 q) (ts0 q) (Rs q) (ts q) X) → zd_seq l μ Rs ts ξ Rs' ts' →
    ∀ q, q < 3 → zt_X μ0 ξ (zdT q) (Rs0 q) (ts0 q) (Rs' q) (ts' q) (fun x => decide (x ∈ l) || X x)
  | [], μ, Rs, ts, X, ξ, Rs', ts', _, _, _, h, hs, q, hq => by
    obtain ⟨e, rfl, rfl⟩ := hs
    exact zt_X_same (h q hq) (e q hq)
  | k :: l, μ, Rs, ts, X, ξ, Rs', ts', hd, hX, hC, h, hs, q, hq => by
    obtain ⟨ν, p, n, ⟨hp, -, hn, hkR, hkn⟩, ho, hoth, -, hs⟩ := hs
    obtain ⟨hkl, hdl⟩ := List.nodup_cons.mp hd
    have hXk := hX k List.mem_cons_self
    have key := zd_seq_X hI0 hdj l ν _ _ (zv_add X k) ξ Rs' ts' hdl (fun x hx => by
      rw [zv_add_ne (fun (e : x = k) => hkl (e ▸ hx))]
      exact hX x (List.mem_cons_of_mem _ hx)) (fun r hr => by
      unfold zd_upd
      by_cases e : r = p
      · subst e
        rw [if_pos rfl, if_pos rfl]
        exact ho.1
      · rw [if_neg e, if_neg e]
        exact zt_C_19 (hoth r hr e) (hC r hr)) (fun r hr => by
      unfold zd_upd
      by_cases e : r = p
      · subst e
        rw [if_pos rfl, if_pos rfl]
        exact zt_X_step (hI0 r hr) (hC r hr).1 (h r hr) hXk hn hkR hkn ho
      · rw [if_neg e, if_neg e]
        refine zt_X_congr (zt_X_same (h r hr) (hoth r hr e)) (zt_I_or (hI0 r hr)) fun x hx => zv_add_ne fun q => e ?_
        have : k ∈ Rs0 p := by
          rw [(h p hp).1] at hkR
          exact (List.mem_filter.mp hkR).1
        exact hdj r p k hr hp (q ▸ hx) this) hs q hq
    refine zt_X_congr key (zt_I_or (hI0 q hq)) fun x _ => ?_
    show (decide (x ∈ k :: l) || X x) = (decide (x ∈ l) || (decide (x = k) || X x))
    by_cases e1 : x = k
    · rw [decide_eq_true (e1 ▸ List.mem_cons_self), decide_eq_true e1, Bool.true_or, Bool.or_true]
    · by_cases e2 : x ∈ l
      · rw [decide_eq_true (List.mem_cons_of_mem _ e2), decide_eq_true e2, Bool.true_or, Bool.true_or]
      · rw [decide_eq_false (fun z => (List.mem_cons.mp z).elim e1 e2), decide_eq_false e2, decide_eq_false e1, Bool.false_or, Bool.false_or]
end ZTX
section ZSX
variable {μ ξ θ ψ : zm_M} {T q : Nat} {R R' : List Nat} {t t' u u' : zy_F} {X : Nat → Bool}
theorem zs_X (hI : zt_I μ T R t) (h : zs μ T R t θ q u) (hc : zt_X μ ξ T R t R' t' X) (hr : zu_X θ ψ q u u' X) : zs ξ T R' t' ψ q u' := by
  obtain ⟨-, k1, l1, i1, e8⟩ := hc
  obtain ⟨hab, k2, l2, i2⟩ := hr
  refine ⟨?_, hab⟩
  obtain ⟨hs, ab0, hI0⟩ := h
  rcases zs_wf hI ⟨hs, ab0, hI0⟩ with ⟨e1, e2⟩ | ⟨wt, wu⟩
  · rw [e1, zy_keep_nil] at k1
    rw [e2, zy_keep_nil] at k2
    rw [k1, k2]; exact trivial
  have hg : ∀ n ∈ zy_lvs t, ∃ g, g ∈ zt_tb μ T R n ∧ μ (T + 12) n = nI g := fun n hn => by
    obtain ⟨w, h1, h2, h3⟩ := hI.2.2.2.2.2 n hn
    exact ⟨w, zt_tb_mem.mpr ⟨h1, h2⟩, h3⟩
  have s1 : zy_sim (fun n m => decide ((zt_tb μ T R n).filter (fun w => !X w) ≠ []) = decide ((zu_tb θ q m).filter (fun w => !X w) ≠ []) ∧ (decide ((zt_tb μ T R n).filter (fun w => !X w) ≠ []) = true → zs_pl μ T R θ q n m)) (zs_pc μ T θ q) t u :=
    zy_sim_mono t wt u wu hs (fun n _ m _ p => ⟨by rw [p.1], fun _ => p⟩) (fun _ _ _ _ p => p)
  have s2 := zy_sim_keep wt wu s1
  rw [← k1, ← k2] at s2
  have or1 := zy_keep_or (p := fun n => decide ((zt_tb μ T R n).filter (fun w => !X w) ≠ [])) t wt
  have or2 := zy_keep_or (p := fun m => decide ((zu_tb θ q m).filter (fun w => !X w) ≠ [])) u wu
  rw [← k1] at or1
  rw [← k2] at or2
  rcases or1 with e | w1
  · rw [e] at s2 ⊢
    have := zy_sim_nil or2 s2
    rw [this]; exact trivial
  have w2 := zy_sim_wf or2 w1 s2
  have sub : ∀ n ∈ zy_lvs t', n ∈ zy_lvs t := fun n hn => by
    rw [k1, zy_keep_lvs t wt] at hn
    exact (List.mem_filter.mp hn).1
  refine zy_sim_mono t' w1 u' w2 s2 (fun n hn m hm p => ?_) (fun n hn m hm p => ?_)
  · obtain ⟨a1, a2⟩ := l1 n hn
    obtain ⟨b1, b2⟩ := l2 m hm
    obtain ⟨g, g1, g2⟩ := hg n (sub n hn)
    refine ⟨by rw [a1, b1, p.1], ?_⟩
    rw [a2 g g1 g2, b2 g (by rw [p.1]; exact g1) (by rw [p.2]; exact g2), p.1]
  · have c1 := zy_cts_ids t' w1 n hn
    have c2 := zy_cts_ids u' w2 m hm
    exact ⟨by rw [(i2 m c2).2, i1 n c1]; exact p.1, by rw [(i2 m c2).1, e8]; exact p.2⟩
end ZSX
