/-! a tab taken out: what holds of the Tree behind it -/
/-- the tree without the leaf n -/
def zy_out (n : Nat) (t : zy_F) : zy_F := if zy_id t = n then .nil else zy_del n t
section ZO1
variable {T : Nat} {μ θ : zm_M} {t : zy_F} {R : List Nat}
/-- the tabs of the leaf n -/
def zt_tb (μ : zm_M) (T : Nat) (R : List Nat) (n : Nat) : List Nat := R.filter (fun x => decide (μ (T + 3) x = nI n))
theorem zt_tb_mem {n v : Nat} : v ∈ zt_tb μ T R n ↔ v ∈ R ∧ μ (T + 3) v = nI n := by
  unfold zt_tb
  rw [List.mem_filter, decide_eq_true_iff]
theorem zl_nx_mem {F : List Nat} {w : Nat} (h : F.erase w ≠ []) : ∃ v ∈ F.erase w, zl_nx F w = nI v := by
  unfold zl_nx
  rw [if_neg h]
  have hp : 0 < (F.erase w).length := List.length_pos_iff.mpr h
  exact ⟨_, zl_mem (by omega), rfl⟩
theorem zl_er_mem {l : List Nat} (hd : l.Nodup) {v w : Nat} : v ∈ l.erase w ↔ v ≠ w ∧ v ∈ l := List.Nodup.mem_erase_iff hd
theorem zt_I_keep (hI : zt_I μ T R t) {n w : Nat} (hn19 : n < 19) (hwR : w ∈ R) (hwn : μ (T + 3) w = nI n) (hF : (zt_tb μ T R n).erase w ≠ []) (hrow : zr_L θ (T + 1) (R.erase w)) (t3 : ∀ v, θ (T + 3) v = if v = w then -1 else μ (T + 3) v)
    (t12 : ∀ i, θ (T + 12) i = if i = n ∧ μ (T + 12) n = nI w then zl_nx (zt_tb μ T R n) w else μ (T + 12) i) (e7 : θ (T + 7) = μ (T + 7)) (e9 : θ (T + 9) = μ (T + 9)) (e10 : θ (T + 10) = μ (T + 10)) (e11 : θ (T + 11) = μ (T + 11)) (e0 : θ T 9 = μ T 9) : zt_I θ T (R.erase w) t := by
  obtain ⟨⟨k1, k2, k3⟩, k4, k8, k9, k10, k11⟩ := hI
  have hFd : (zt_tb μ T R n).Nodup := k2.filter _
  refine ⟨⟨hrow, k2.erase w, fun v hv => k3 v (List.mem_of_mem_erase hv)⟩, ?_, ?_, ?_, ?_, ?_⟩
  · unfold zt_root zy_okM at *
    rw [e0, e7, e9, e10, e11]
    exact k4
  · rw [e7]; exact k8
  · intro v hv
    obtain ⟨h1, h2⟩ := (zl_er_mem k2).mp hv
    obtain ⟨m, hm, e⟩ := k9 v h2
    exact ⟨m, hm, by rw [t3, if_neg h1]; exact e⟩
  · intro v hv hvR
    rw [t3]
    by_cases e : v = w
    · rw [if_pos e]
    · rw [if_neg e]
      exact k10 v hv (fun h => hvR ((zl_er_mem k2).mpr ⟨e, h⟩))
  · intro m hm
    obtain ⟨v, hv, e1, e2⟩ := k11 m hm
    by_cases c : m = n ∧ μ (T + 12) n = nI w
    · obtain ⟨u, hu, eu⟩ := zl_nx_mem hF
      obtain ⟨u1, u2⟩ := (zl_er_mem hFd).mp hu
      obtain ⟨u3, u4⟩ := zt_tb_mem.mp u2
      refine ⟨u, (zl_er_mem k2).mpr ⟨u1, u3⟩, ?_, ?_⟩
      · rw [t3, if_neg u1, c.1]; exact u4
      · rw [t12, if_pos c]; exact eu
    · have hvw : v ≠ w := by
        intro e
        subst e
        have hm19 := zy_lvs_lt (k4.1.imp (·.1) (·.1)) k4.2.2.1 m hm
        have q1 : m = n := (nI_eq (by omega) (by omega)).mp (e1.symm.trans hwn)
        exact c ⟨q1, by rw [← q1]; exact e2⟩
      refine ⟨v, (zl_er_mem k2).mpr ⟨hvw, hv⟩, ?_, ?_⟩
      · rw [t3, if_neg hvw]; exact e1
      · rw [t12, if_neg c]; exact e2
/-- the last tab of a leaf goes, and the leaf with it: what is said of the nodes then -/
def zt_dropped (μ θ : zm_M) (T : Nat) (t : zy_F) (n : Nat) : Prop :=
  (zy_id t = n ∧ (∀ i, θ (T + 7) i = if i = n then 3 else μ (T + 7) i) ∧ θ T 9 = -1) ∨
  (zy_id t ≠ n ∧ ∃ q j, q ∈ zy_cts t ∧ j ∈ zy_ids t ∧ n ≠ j ∧ μ (T + 11) n = nI q ∧ μ (T + 11) j = nI q ∧ ((μ (T + 9) q = nI n ∧ μ (T + 10) q = nI j) ∨ (μ (T + 9) q = nI j ∧ μ (T + 10) q = nI n)) ∧
    (∀ i, θ (T + 7) i = if i = q then 3 else if i = n then 3 else μ (T + 7) i) ∧ (∀ c ∈ zy_cts t, θ (T + 9) c = if μ (T + 9) c = nI q then nI j else μ (T + 9) c) ∧ (∀ c ∈ zy_cts t, θ (T + 10) c = if μ (T + 10) c = nI q then nI j else μ (T + 10) c) ∧
    (∀ i, θ (T + 11) i = if i = j then μ (T + 11) q else μ (T + 11) i) ∧ θ T 9 = if zy_id t = q then nI j else μ T 9)
theorem zt_I_drop (hI : zt_I μ T R t) {n w : Nat} (hn : n ∈ zy_lvs t) (hwR : w ∈ R) (hwn : μ (T + 3) w = nI n) (hF : (zt_tb μ T R n).erase w = []) (hrow : zr_L θ (T + 1) (R.erase w)) (t3 : ∀ v, θ (T + 3) v = if v = w then -1 else μ (T + 3) v)
    (t12 : ∀ i, i ≠ n → θ (T + 12) i = μ (T + 12) i) (hd : zt_dropped μ θ T t n) : zt_I θ T (R.erase w) (zy_out n t) ∧ ∀ i ∈ zy_ids (zy_out n t), θ (T + 7) i = μ (T + 7) i := by
  have hnid := (zt_I_lv hI hn).2
  obtain ⟨wt, ok, hr⟩ := zt_I_wf hI hnid
  obtain ⟨⟨k1, k2, k3⟩, ⟨-, k5, k6, k7⟩, k8, k9, k10, k11⟩ := hI
  have hn19 := k6 n hnid
  have hFd : (zt_tb μ T R n).Nodup := k2.filter _
  have hlt : ∀ m ∈ zy_lvs t, m < 19 := fun m hm => k6 m (zy_lvs_ids t wt m hm)
  have hnone : ∀ v ∈ R.erase w, ¬ μ (T + 3) v = nI n := fun v hv e => by
    obtain ⟨h1, h2⟩ := (zl_er_mem k2).mp hv
    have : v ∈ (zt_tb μ T R n).erase w := (zl_er_mem hFd).mpr ⟨h1, zt_tb_mem.mpr ⟨h2, e⟩⟩
    rw [hF] at this
    cases this
  have b1 : ∀ v, v < 10 → v ∉ R.erase w → θ (T + 3) v = -1 := fun v hv hvR => by
    rw [t3]
    by_cases e : v = w
    · rw [if_pos e]
    · rw [if_neg e]
      exact k10 v hv (fun h => hvR ((zl_er_mem k2).mpr ⟨e, h⟩))
  have fm2 := zy_ok_lf t wt ok n hn
  have hidt := zy_id_mem wt
  have hrt : μ (T + 11) (zy_id t) = -1 := k7.resolve_left (fun e => by rw [e] at hidt; cases hidt)
  rcases hd with ⟨hid, t7, t0⟩ | ⟨hid, q, j, hq, hj, hnj, an, aj, hqn, t7, t9, t10, t11, t0⟩
  · have et := zy_leaf_of fm2 t wt ok hid
    have eo : zy_out n t = .nil := by unfold zy_out; rw [if_pos hid]
    have hl : ∀ m ∈ zy_lvs t, m = n := fun m hm => by rw [et] at hm; simpa [zy_lvs] using hm
    have hi : ∀ m ∈ zy_ids t, m = n := fun m hm => by rw [et] at hm; simpa [zy_ids] using hm
    have hE : R.erase w = [] := by
      cases hc : R.erase w with
      | nil => rfl
      | cons v l =>
        exfalso
        have hv : v ∈ R.erase w := by rw [hc]; exact List.mem_cons_self
        obtain ⟨h1, h2⟩ := (zl_er_mem k2).mp hv
        obtain ⟨m, hm, e⟩ := k9 v h2
        exact hnone v hv (by rw [e, hl m hm])
    rw [eo]
    refine ⟨⟨⟨hrow, k2.erase w, fun v hv => k3 v (List.mem_of_mem_erase hv)⟩, ⟨Or.inl ⟨rfl, t0⟩, List.nodup_nil, fun w hw => (by cases hw), Or.inl rfl⟩, fun i hi2 _ => ?_, fun v hv => ?_, b1, fun m hm => by cases hm⟩, fun i hi => by cases hi⟩
    · rw [t7]
      by_cases e : i = n
      · rw [if_pos e]
      · rw [if_neg e]
        exact k8 i hi2 (fun h => e (hi i h))
    · rw [hE] at hv; cases hv
  · have eo : zy_out n t = zy_del n t := by unfold zy_out; rw [if_neg hid]
    rw [eo]
    have hq19 := k6 q (zy_cts_ids t wt q hq)
    have hj19 := k6 j hj
    have i31 : ∀ x ∈ zy_ids t, x < 2 ^ 31 := fun x hx => by have := k6 x hx; omega
    obtain ⟨P0, P1, P2, P3⟩ := zy_del_perm (q := q) fm2 (by omega) (by omega) t wt i31 ok k5 hn (Ne.symm hid) an
    have hnd := P1.nodup_iff.mpr k5
    obtain ⟨d1, hnd2⟩ := List.nodup_cons.mp hnd
    obtain ⟨d2, hnd3⟩ := List.nodup_cons.mp hnd2
    have d1' : n ∉ zy_ids (zy_del n t) := fun h => d1 (List.mem_cons_of_mem _ h)
    have hqn' : q ≠ n := fun e => d1 (e ▸ List.mem_cons_self)
    have sub : ∀ x ∈ zy_ids (zy_del n t), x ∈ zy_ids t := fun x hx => P1.mem_iff.mp (List.mem_cons_of_mem _ (List.mem_cons_of_mem _ hx))
    have subl : ∀ x ∈ zy_lvs (zy_del n t), x ∈ zy_lvs t := fun x hx => P2.mem_iff.mp (List.mem_cons_of_mem _ hx)
    have f7 : ∀ x, x ≠ n → x ≠ q → θ (T + 7) x = μ (T + 7) x := fun x h1 h2 => by rw [t7, if_neg h2, if_neg h1]
    have hfq : ¬ μ (T + 7) q = 2 := by
      rcases (zy_ok_ct t wt ok q hq).1 with e | e <;> rw [e] <;> decide
    obtain ⟨O1, O2⟩ := zy_ok_del (fm' := θ (T + 7)) (fs' := θ (T + 9)) (sd' := θ (T + 10)) (ab' := θ (T + 11)) (n := n) (q := q) (j := j) fm2 hfq (by omega) (by omega) (by omega) hnj (by rw [t11, if_pos rfl]) aj an hqn t wt k5 i31 (Ne.symm hid) (fun x _ h1 h2 => f7 x h1 h2) (fun c hc _ => ⟨t9 c hc, t10 c hc⟩) (fun x _ hx => by rw [t11, if_neg hx]) ok
    have hidq : zy_id t ≠ j := fun e => by
      rw [e, aj] at hrt
      have : nI q < 0 := by rw [hrt]; decide
      exact nI_pos (by omega) this
    refine ⟨⟨⟨hrow, k2.erase w, fun v hv => k3 v (List.mem_of_mem_erase hv)⟩, ⟨Or.inr ⟨P0, O1, ?_⟩, hnd3, fun x hx => k6 x (sub x hx), Or.inr ?_⟩, fun i hi hin => ?_, fun v hv => ?_, b1, fun m hm => ?_⟩, fun i hi => f7 i (fun e => d1' (e ▸ hi)) (fun e => d2 (e ▸ hi))⟩
    · rw [t0, O2]
      by_cases e : zy_id t = q
      · rw [if_pos e, if_pos e]
      · rw [if_neg e, if_neg e]; exact hr
    · rw [O2]
      by_cases e : zy_id t = q
      · rw [if_pos e, t11, if_pos rfl, ← e]; exact hrt
      · rw [if_neg e, t11, if_neg hidq]; exact hrt
    · rw [t7]
      by_cases e1 : i = q
      · rw [if_pos e1]
      · rw [if_neg e1]
        by_cases e2 : i = n
        · rw [if_pos e2]
        · rw [if_neg e2]
          refine k8 i hi (fun h => ?_)
          rcases List.mem_cons.mp (P1.mem_iff.mpr h) with h | h
          · exact e2 h
          · rcases List.mem_cons.mp h with h | h
            · exact e1 h
            · exact hin h
    · obtain ⟨h1, h2⟩ := (zl_er_mem k2).mp hv
      obtain ⟨m, hm, e⟩ := k9 v h2
      refine ⟨m, ?_, by rw [t3, if_neg h1]; exact e⟩
      rcases List.mem_cons.mp (P2.mem_iff.mpr hm) with h | h
      · exact absurd (by rw [e, h]) (hnone v hv)
      · exact h
    · have hmt := subl m hm
      have hmn : m ≠ n := fun e => d1' (e ▸ zy_lvs_ids _ P0 m hm)
      obtain ⟨v, hv, e1, e2⟩ := k11 m hmt
      have hvw : v ≠ w := by
        intro e
        subst e
        have := hlt m hmt
        exact hmn ((nI_eq (by omega) (by omega)).mp (e1.symm.trans hwn))
      refine ⟨v, (zl_er_mem k2).mpr ⟨hvw, hv⟩, ?_, ?_⟩
      · rw [t3, if_neg hvw]; exact e1
      · rw [t12 m hmn]; exact e2
end ZO1
