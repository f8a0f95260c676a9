/-! side by side: the windows of a screen in another's tree -/
section ZKS
variable {pl pc : Nat → Nat → Prop} {f g : Nat → List Nat}
theorem zy_sim_flat (hf : ∀ n m, pl n m → f n = g m) : ∀ t, zy_wf t → ∀ u, zy_wf u → zy_sim pl pc t u → (zy_lvs t).flatMap f = (zy_lvs u).flatMap g := by
  apply zy_sim_ind (P := fun t u => (zy_lvs t).flatMap f = (zy_lvs u).flatMap g)
  · intro n m h
    show [n].flatMap f = [m].flatMap g
    rw [List.flatMap_singleton, List.flatMap_singleton]
    exact hf n m h
  · intro n m a b c d _ _ _ _ _ _ _ iha ihb
    show (zy_lvs a ++ zy_lvs b).flatMap f = (zy_lvs c ++ zy_lvs d).flatMap g
    rw [List.flatMap_append, List.flatMap_append, iha, ihb]
/-- the first leaves go together -/
theorem zy_sim_first : ∀ t, zy_wf t → ∀ u, zy_wf u → zy_sim pl pc t u → pl ((zy_lvs t).getD 0 0) ((zy_lvs u).getD 0 0) := by
  have happ : ∀ (a b : List Nat), 0 < a.length → (a ++ b).getD 0 0 = a.getD 0 0 := fun a b h => by
    cases a with
    | nil => exact absurd h (by decide)
    | cons x l => rfl
  intro t wt u wu h
  revert wt wu h
  intro wt wu h
  refine zy_sim_ind (pl := pl) (pc := pc) (P := fun t u => pl ((zy_lvs t).getD 0 0) ((zy_lvs u).getD 0 0)) ?_ ?_ t wt u wu h
  · intro n m h
    exact h
  · intro n m a b c d wa wb wc wd _ _ _ iha _
    show pl ((zy_lvs a ++ zy_lvs b).getD 0 0) ((zy_lvs c ++ zy_lvs d).getD 0 0)
    rw [happ _ _ (zy_lvs_pos wa), happ _ _ (zy_lvs_pos wc)]
    exact iha
end ZKS
section ZKT
variable {ξ μ ν ξ1 ξ2 μa θ θ2 : zm_M} {T τ Q : Nat} {R : List Nat} {t u : zy_F} {W : List Nat} {emp : Bool} {n1 : Nat}
theorem zs_flat (hI : zt_I ξ T R t) (h : zs ξ T R t μ τ u) : (zy_lvs t).flatMap (zt_tb ξ T R) = (zy_lvs u).flatMap (zu_tb μ τ) := by
  rcases zs_wf hI h with ⟨rfl, rfl⟩ | ⟨wt, wu⟩
  · rfl
  · exact zy_sim_flat (fun n m p => p.1.symm) t wt u wu h.1
theorem zt_tb_AD {n n0 : Nat} (hW : ∀ v ∈ R, v ∉ W) (hn : n < 19) (hn0 : n0 < 19) (e3 : ∀ v, ξ2 (T + 3) v = if v ∈ W then nI n0 else ξ1 (T + 3) v) : zt_tb ξ2 T (R ++ W) n = if n = n0 then zt_tb ξ1 T R n ++ W else zt_tb ξ1 T R n := by
  unfold zt_tb
  rw [List.filter_append]
  have a1 : R.filter (fun v => decide (ξ2 (T + 3) v = nI n)) = R.filter (fun v => decide (ξ1 (T + 3) v = nI n)) := by
    refine List.filter_congr fun v hv => ?_
    rw [e3, if_neg (hW v hv)]
  rw [a1]
  by_cases c : n = n0
  · rw [if_pos c]
    congr 1
    refine List.filter_eq_self.mpr fun v hv => decide_eq_true ?_
    rw [e3, if_pos hv, c]
  · rw [if_neg c]
    have : W.filter (fun v => decide (ξ2 (T + 3) v = nI n)) = [] := by
      refine List.filter_eq_nil_iff.mpr fun v hv => ?_
      rw [e3, if_pos hv]
      exact fun z => c ((nI_eq (by omega) (by omega)).mp (of_decide_eq_true z).symm)
    rw [this, List.append_nil]
/-- all of W added on both sides -/
theorem zs_AD (hI : zt_I ξ1 T R t) (hz : zs ξ1 T R t θ τ u) (he : emp = true → t = .nil ∧ R = []) (he' : emp = false → zy_wf t) (f : zt_AD ξ1 T Q R t emp W ξ2) (g : zu_AD θ τ u emp W θ2 n1) {n0 : Nat} (hC : zt_C ξ2 T (R ++ W) (zy_ad emp t W n0)) : zs ξ2 T (R ++ W) (zy_ad emp t W n0) θ2 τ (zy_ad emp u W n1) := by
  obtain ⟨m0, fC, -, f0, f3, -, -, f7, f8, f12⟩ := f
  obtain ⟨⟨ab, gI⟩, -, g1, g2⟩ := g
  have hWR : ∀ v ∈ R, v ∉ W := fun v hv hw => (List.nodup_append.mp hC.1.1.2.1).2.2 v hv v hw rfl
  refine ⟨?_, ab, gI⟩
  cases emp with
  | false =>
    have wt := he' rfl
    obtain ⟨abu, hIu⟩ := id hz.2
    have wu := zy_sim_wf (zu_I_or hIu) wt hz.1
    have e1 : zy_ad false t W n0 = t := if_neg (fun z => Bool.false_ne_true z.1)
    have e2 : zy_ad false u W n1 = u := if_neg (fun z => Bool.false_ne_true z.1)
    rw [e1, e2]
    obtain ⟨q1, q2, q3, q4⟩ := g1 rfl
    have hm0 := f0 rfl
    have hp := zy_sim_first t wt u wu hz.1
    rw [← hm0, ← q1] at hp
    have hml : m0 ∈ zy_lvs t := by rw [hm0]; exact zl_mem (zy_lvs_pos wt)
    have hnl : n1 ∈ zy_lvs u := by rw [q1]; exact zl_mem (zy_lvs_pos wu)
    have l19 := (zt_I_lvn hI).2
    have hno : ∀ {i : Nat}, ¬ ((false = true ∧ W ≠ []) ∧ i = m0) := fun z => Bool.false_ne_true z.1.1
    refine zy_sim_mono t wt u wu hz.1 (fun x hx y hy p => ⟨?_, ?_⟩) (fun x hx y hy p => ⟨?_, ?_⟩)
    · rw [zt_tb_AD hWR (l19 x hx) (l19 m0 hml) f3]
      have hiff := zs_iff hI hz hml hnl hp x hx y hy p
      by_cases c : x = m0
      · have c' := hiff.mp c
        rw [if_pos c, c', q2, ← p.1, c']
      · rw [if_neg c, q3 y hy (fun z => c (hiff.mpr z))]
        exact p.1
    · rw [(q4 y (zy_lvs_ids u wu y hy)).1, f12, if_neg hno]
      exact p.2
    · rw [(q4 y (zy_cts_ids u wu y hy)).2.2, f7, if_neg hno]
      exact p.1
    · rw [(q4 y (zy_cts_ids u wu y hy)).2.1, f8]
      exact p.2
  | true =>
    obtain ⟨rfl, rfl⟩ := he rfl
    have eu := (zs_nil_l hI hz).mp rfl
    subst eu
    by_cases cW : W = []
    · have e1 : ∀ n, zy_ad true .nil W n = .nil := fun n => if_neg (fun z => z.2 cW)
      rw [e1, e1]
      trivial
    · have e1 : ∀ n, zy_ad true .nil W n = .tag n .nil := fun n => if_pos ⟨rfl, cW⟩
      rw [e1] at hC fC ⊢
      rw [e1] at gI ⊢
      obtain ⟨w, hw⟩ := List.exists_mem_of_ne_nil W cW
      have em : m0 = n0 := by
        obtain ⟨n, hn, en⟩ := hC.1.2.2.2.1 w (List.mem_append_right _ hw)
        have en' : n = n0 := List.mem_singleton.mp hn
        have l1 := (zt_I_lvn hC.1).2 n hn
        have l2 := (zt_I_lvn fC.1).2 m0 (List.mem_singleton.mpr rfl)
        rw [f3, if_pos hw] at en
        rw [(nI_eq (by omega) (by omega)).mp en, en']
      subst em
      obtain ⟨q1, q2, q3⟩ := g2 rfl cW
      show zs_pl ξ2 T ([] ++ W) θ2 τ m0 n1
      refine ⟨?_, ?_⟩
      · have l2 := (zt_I_lvn fC.1).2 m0 (List.mem_singleton.mpr rfl)
        rw [zt_tb_AD (fun v hv => by cases hv) l2 l2 f3, if_pos rfl, q2]
        rfl
      · rw [q3, f12, if_pos ⟨⟨rfl, cW⟩, rfl⟩]
theorem zl_ct_ex {p : Nat → Bool} : ∀ n, 0 < zl_ct p n → ∃ j, j < n ∧ p j = true
  | 0, h => absurd h (Nat.lt_irrefl _)
  | n + 1, h => by
    by_cases c : p n = true
    · exact ⟨n, by omega, c⟩
    · have e : zl_ct p (n + 1) = zl_ct p n := by
        show zl_ct p n + (if p n then 1 else 0) = zl_ct p n
        rw [if_neg c]; rfl
      rw [e] at h
      obtain ⟨j, hj, q⟩ := zl_ct_ex n h
      exact ⟨j, by omega, q⟩
end ZKT
