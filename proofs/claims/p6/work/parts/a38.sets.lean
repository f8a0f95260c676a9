/-! windows that leave a tree, as a set -/
theorem zl_nd_inj : ∀ (P : List Nat), P.Nodup → ∀ i j, i < P.length → j < P.length → P.getD i 0 = P.getD j 0 → i = j
  | [], _, i, _, h, _, _ => by cases h
  | x :: l, hd, 0, 0, _, _, _ => rfl
  | x :: l, hd, 0, j + 1, _, hj, e => by
    have e : x = l.getD j 0 := e
    exact absurd (e ▸ zl_mem (Nat.lt_of_succ_lt_succ hj)) (List.nodup_cons.mp hd).1
  | x :: l, hd, i + 1, 0, hi, _, e => by
    have e : l.getD i 0 = x := e
    exact absurd (e ▸ zl_mem (Nat.lt_of_succ_lt_succ hi)) (List.nodup_cons.mp hd).1
  | x :: l, hd, i + 1, j + 1, hi, hj, e => by
    have e : l.getD i 0 = l.getD j 0 := e
    rw [zl_nd_inj l (List.nodup_cons.mp hd).2 i j (Nat.lt_of_succ_lt_succ hi) (Nat.lt_of_succ_lt_succ hj) e]
theorem zl_idx_getD : ∀ {l : List Nat} {k : Nat}, k ∈ l → l.getD (l.idxOf k) 0 = k := by
  intro l k h
  have hl := List.idxOf_lt_length_of_mem h
  rw [List.getD_eq_getElem?_getD, List.getElem?_eq_getElem hl]
  exact List.getElem_idxOf hl
theorem zl_sw_AB {A B : List Nat} {w : Nat} (hd : (A ++ B).Nodup) (hb : ∀ x ∈ A ++ B, x < 10) (hw : w ∈ A ++ B) (hne : (A ++ B).erase w ≠ []) :
    nI (((A ++ B).erase w).getD (min (A.erase w).length (((A ++ B).erase w).length - 1)) 0) = if nI ((A ++ B).getD (min A.length ((A ++ B).length - 1)) 0) = nI w then zl_nx (A ++ B) w else nI ((A ++ B).getD (min A.length ((A ++ B).length - 1)) 0) := by
  have hj := List.idxOf_lt_length_of_mem hw
  have hjw := zl_idx_getD hw
  have hlen := List.length_erase_of_mem hw
  have hpos : 0 < ((A ++ B).erase w).length := List.length_pos_iff.mpr hne
  have hA : A.length ≤ (A ++ B).length := by rw [List.length_append]; omega
  have hAm : w ∈ A → (A ++ B).idxOf w < A.length ∧ (A.erase w).length = A.length - 1 := fun h => by
    refine ⟨?_, List.length_erase_of_mem h⟩
    have h1 := List.idxOf_lt_length_of_mem h
    have h2 := zl_idx_getD h
    have := zl_nd_inj _ hd ((A ++ B).idxOf w) (A.idxOf w) hj (by omega) (by rw [hjw, zl_getD_l h1, h2])
    omega
  have hAn : w ∉ A → A.length ≤ (A ++ B).idxOf w ∧ (A.erase w).length = A.length := fun h => by
    refine ⟨Nat.le_of_not_lt fun q => h ?_, by rw [List.erase_of_not_mem h]⟩
    have := zl_mem q
    rw [← zl_getD_l (l' := B) q, hjw] at this
    exact this
  have hnx : zl_nx (A ++ B) w = nI (((A ++ B).erase w).getD (min ((A ++ B).idxOf w) (((A ++ B).erase w).length - 1)) 0) := by
    unfold zl_nx
    rw [if_neg hne]
  have hj' : ∀ i, i < (A ++ B).length → ((A ++ B).getD i 0 = w ↔ i = (A ++ B).idxOf w) := fun i hi =>
    ⟨fun e => zl_nd_inj _ hd _ _ hi hj (e.trans hjw.symm), fun e => by rw [e]; exact hjw⟩
  have her : ∀ t, t < ((A ++ B).erase w).length → ((A ++ B).erase w).getD t 0 = if t < (A ++ B).idxOf w then (A ++ B).getD t 0 else (A ++ B).getD (t + 1) 0 := fun t ht => zl_idx_er ht
  have hb' : ∀ i, i < (A ++ B).length → (nI ((A ++ B).getD i 0) = nI w ↔ (A ++ B).getD i 0 = w) := fun i hi => by
    have h1 := hb _ (zl_mem hi)
    have h2 := hb _ hw
    exact nI_eq (by omega) (by omega)
  generalize A ++ B = P at *
  generalize hjj : P.idxOf w = j at *
  have hi : min A.length (P.length - 1) < P.length := by omega
  by_cases c : min A.length (P.length - 1) = j
  · rw [if_pos ((hb' _ hi).mpr ((hj' _ hi).mpr c)), hnx]
    by_cases m : w ∈ A
    · obtain ⟨h1, h2⟩ := hAm m
      rw [h2]
      congr 2
      omega
    · obtain ⟨h1, h2⟩ := hAn m
      rw [h2]
      congr 2
      omega
  · rw [if_neg (fun e => c ((hj' _ hi).mp ((hb' _ hi).mp e)))]
    by_cases m : w ∈ A
    · obtain ⟨h1, h2⟩ := hAm m
      rw [h2, her _ (by omega)]
      have q : ¬ min (A.length - 1) ((P.erase w).length - 1) < j := by omega
      rw [if_neg q]
      congr 2
      omega
    · obtain ⟨h1, h2⟩ := hAn m
      rw [h2, her _ (by omega)]
      have q : min A.length ((P.erase w).length - 1) < j := by omega
      rw [if_pos q]
      congr 2
      omega
theorem zl_flt_er {l : List Nat} (h : l.Nodup) {X : Nat → Bool} {w : Nat} : l.filter (fun x => !zv_add X w x) = (l.filter (fun x => !X x)).erase w := by
  rw [zl_filter_erase h]
  refine List.filter_congr fun x _ => ?_
  by_cases e : x = w
  · rw [e, zv_add_k, decide_eq_false (not_not_intro rfl), Bool.and_false]; rfl
  · rw [zv_add_ne e, decide_eq_true e, Bool.and_true]
theorem zl_sw_step {F : List Nat} {g w : Nat} {X : Nat → Bool} (hd : F.Nodup) (hb : ∀ x ∈ F, x < 10) (hw : w ∈ F) (hX : X w = false) (hne : (F.filter (fun x => !X x)).erase w ≠ []) :
    zl_sw F g (zv_add X w) = if zl_sw F g X = nI w then zl_nx (F.filter (fun x => !X x)) w else zl_sw F g X := by
  have hdt : (F.take (F.idxOf g)).Nodup := (List.take_sublist _ _).nodup hd
  have hP : F.filter (fun x => !X x) = (F.take (F.idxOf g)).filter (fun x => !X x) ++ (F.drop (F.idxOf g)).filter (fun x => !X x) := by
    rw [← List.filter_append, List.take_append_drop]
  have hdP : (F.filter (fun x => !X x)).Nodup := hd.filter _
  have hwP : w ∈ F.filter (fun x => !X x) := List.mem_filter.mpr ⟨hw, by rw [hX]; rfl⟩
  have hbP : ∀ x ∈ F.filter (fun x => !X x), x < 10 := fun x hx => hb x (List.mem_filter.mp hx).1
  unfold zl_sw
  rw [zl_flt_er hd, zl_flt_er hdt]
  rw [hP] at hdP hwP hbP hne ⊢
  exact zl_sw_AB hdP hbP hwP hne
theorem zl_sw_congr {F : List Nat} {g : Nat} {X X' : Nat → Bool} (h : ∀ x ∈ F, X x = X' x) : zl_sw F g X = zl_sw F g X' := by
  have h1 : F.filter (fun w => !X w) = F.filter (fun w => !X' w) := List.filter_congr fun x hx => by rw [h x hx]
  have h2 : (F.take (F.idxOf g)).filter (fun w => !X w) = (F.take (F.idxOf g)).filter (fun w => !X' w) := List.filter_congr fun x hx => by rw [h x (List.mem_of_mem_take hx)]
  unfold zl_sw
  rw [h1, h2]
theorem zl_sw_0 {F : List Nat} {g : Nat} (hg : g ∈ F) : zl_sw F g (fun _ => false) = nI g := by
  have h := List.idxOf_lt_length_of_mem hg
  unfold zl_sw
  rw [zl_flt_no, zl_flt_no, List.length_take]
  have e : min (min (F.idxOf g) F.length) (F.length - 1) = F.idxOf g := by omega
  rw [e, zl_idx_getD hg]
/-- the tree u' is u when the windows X have left it -/
def zu_X (μ ξ : zm_M) (q : Nat) (u u' : zy_F) (X : Nat → Bool) : Prop :=
  (∃ ab, zu_I ξ q u' ab) ∧ u' = zy_keep (fun n => decide ((zu_tb μ q n).filter (fun w => !X w) ≠ [])) u ∧ (∀ n ∈ zy_lvs u', zu_tb ξ q n = (zu_tb μ q n).filter (fun w => !X w) ∧ ∀ g, g ∈ zu_tb μ q n → μ 250 (24 * q + n) = nI g → ξ 250 (24 * q + n) = zl_sw (zu_tb μ q n) g X) ∧
  ∀ n ∈ zy_ids u', ξ 247 (24 * q + n) = μ 247 (24 * q + n) ∧ zu_fm ξ q n = zu_fm μ q n
/-- no window twice in a tree -/
def zu_nd (μ : zm_M) (q : Nat) (u : zy_F) : Prop := (∀ n ∈ zy_lvs u, (zu_tb μ q n).Nodup) ∧ ∀ n ∈ zy_lvs u, ∀ m ∈ zy_lvs u, ∀ w, w ∈ zu_tb μ q n → w ∈ zu_tb μ q m → n = m
section ZVX
variable {μ ξ ν : zm_M} {q : Nat} {u u1 : zy_F} {ab : Nat → Int32} {X : Nat → Bool}
theorem zu_I_or (h : zu_I μ q u ab) : u = .nil ∨ zy_wf u := h.1.elim (fun e => Or.inl e.1) (fun e => Or.inr e.1)
theorem zu_X_0 (hI : zu_I μ q u ab) : zu_X μ μ q u u (fun _ => false) := by
  refine ⟨⟨ab, hI⟩, ?_, fun n hn => ⟨zl_flt_no.symm, fun g hg e => by rw [zl_sw_0 hg]; exact e⟩, fun n _ => ⟨rfl, rfl⟩⟩
  rcases zu_I_or hI with e | w
  · rw [e]; rfl
  · refine (zy_keep_all u w fun n hn => decide_eq_true ?_).symm
    rw [zl_flt_no]
    exact (zu_I_tb hI hn).2.1
theorem zu_X_step (hI : zu_I μ q u ab) (hnd : zu_nd μ q u) (h : zu_X μ ξ q u u1 X) {w m : Nat} {ab' : Nat → Int32} (hX : X w = false) (hat : zu_at ξ q u1 w m) (ho : zu_isOut ξ q u1 m w ν ab') :
    zu_X μ ν q u (if (zu_tb ξ q m).erase w = [] then zy_out m u1 else u1) (zv_add X w) := by
  obtain ⟨⟨ab1, hI1⟩, hk, hl, hi⟩ := h
  have wu1 : zy_wf u1 := (zu_I_lv hI1 hat.1).1
  have wu : zy_wf u := by
    rcases zu_I_or hI with e | w
    · rw [e, zy_keep_nil] at hk
      rw [hk] at wu1; exact wu1.elim
    · exact w
  have hsub : ∀ n ∈ zy_lvs u1, n ∈ zy_lvs u := fun n hn => by
    rw [hk, zy_keep_lvs u wu] at hn
    exact (List.mem_filter.mp hn).1
  have hmu := hsub m hat.1
  obtain ⟨e1, e2⟩ := hl m hat.1
  have hwF : w ∈ zu_tb μ q m := by
    have := hat.2.1
    rw [e1] at this
    exact (List.mem_filter.mp this).1
  have hdF := hnd.1 m hmu
  have hbF := (zu_I_tb hI hmu).2.2
  have hoth : ∀ n ∈ zy_lvs u, n ≠ m → ∀ x ∈ zu_tb μ q n, zv_add X w x = X x := fun n hn hne x hx => zv_add_ne (fun e => hne (hnd.2 n hn m hmu w (e ▸ hx) hwF))
  have hof : ∀ n ∈ zy_lvs u, n ≠ m → (zu_tb μ q n).filter (fun x => !zv_add X w x) = (zu_tb μ q n).filter (fun x => !X x) := fun n hn hne => List.filter_congr fun x hx => by rw [hoth n hn hne x hx]
  have hmf : (zu_tb μ q m).filter (fun x => !zv_add X w x) = (zu_tb ξ q m).erase w := by rw [e1]; exact zl_flt_er hdF
  have hout : zy_out m u1 = zy_keep (fun n => decide (n ≠ m)) u1 := zy_out_keep u1 wu1 hI1.2.1 hat.1
  have hids : ∀ n ∈ zy_ids (if (zu_tb ξ q m).erase w = [] then zy_out m u1 else u1), n ∈ zy_ids u1 := fun n hn => by
    by_cases c : (zu_tb ξ q m).erase w = []
    · rw [if_pos c, hout] at hn; exact zy_keep_ids u1 wu1 hn
    · rw [if_neg c] at hn; exact hn
  have hlvs : ∀ n ∈ zy_lvs (if (zu_tb ξ q m).erase w = [] then zy_out m u1 else u1), n ∈ zy_lvs u1 ∧ (n = m → (zu_tb ξ q m).erase w ≠ []) := fun n hn => by
    by_cases c : (zu_tb ξ q m).erase w = []
    · rw [if_pos c, hout, zy_keep_lvs u1 wu1] at hn
      obtain ⟨h1, h2⟩ := List.mem_filter.mp hn
      exact ⟨h1, fun e => absurd e (of_decide_eq_true h2)⟩
    · rw [if_neg c] at hn; exact ⟨hn, fun _ => c⟩
  obtain ⟨o1, o2, o3, o4, o5⟩ := ho
  have hlv2 : ∀ n ∈ zy_lvs (if (zu_tb ξ q m).erase w = [] then zy_out m u1 else u1), n ∈ zy_ids (if (zu_tb ξ q m).erase w = [] then zy_out m u1 else u1) := fun n hn => (zu_I_lv o1 hn).2
  refine ⟨⟨ab', o1⟩, ?_, fun n hn => ?_, fun n hn => ?_⟩
  · by_cases c : (zu_tb ξ q m).erase w = []
    · rw [if_pos c, hout, hk, zy_keep_keep u wu]
      refine zy_keep_congr u wu fun n hn => ?_
      by_cases e : n = m
      · rw [e, hmf, c, decide_eq_false (not_not_intro rfl), decide_eq_false (not_not_intro rfl)]; rfl
      · rw [hof n hn e, decide_eq_true e, Bool.true_and]
    · rw [if_neg c, hk]
      refine zy_keep_congr u wu fun n hn => ?_
      by_cases e : n = m
      · rw [e, hmf, decide_eq_true c, ← e1, decide_eq_true (List.ne_nil_of_mem hat.2.1)]
      · rw [hof n hn e]
  · obtain ⟨h1, h2⟩ := hlvs n hn
    obtain ⟨a1, a2⟩ := hl n h1
    obtain ⟨b1, -⟩ := o4 n (hlv2 n hn)
    by_cases e : n = m
    · subst e
      have h2 := h2 rfl
      refine ⟨?_, fun g hg eg => ?_⟩
      · rw [hmf]
        exact zu_tb_T (o3 h2) (fun x hx => (zu_I_tb hI1 h1).2.2 x (List.mem_of_mem_erase hx))
      · rw [b1, a2 g hg eg, zl_sw_step hdF hbF hwF hX (by rw [← e1]; exact h2), ← e1]
        by_cases c : zl_sw (zu_tb μ q n) g X = nI w
        · rw [if_pos ⟨rfl, c⟩, if_pos c]
        · rw [if_neg (fun z => c z.2), if_neg c]
    · obtain ⟨t1, t2, t3⟩ := zu_I_tb hI1 h1
      refine ⟨?_, fun g hg eg => ?_⟩
      · rw [hof n (hsub n h1) e, ← a1]
        exact zu_tb_T (o2 n h1 e _ t1) t3
      · rw [b1, if_neg (fun z => e z.1), a2 g hg eg]
        exact (zl_sw_congr (hoth n (hsub n h1) e)).symm
  · obtain ⟨-, b2, b3⟩ := o4 n hn
    obtain ⟨c2, c3⟩ := hi n (hids n hn)
    exact ⟨b2.trans c2, b3.trans c3⟩
end ZVX
