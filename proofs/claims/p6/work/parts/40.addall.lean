/-! Tree.addAllTabs -/
section ZAA
variable {T Q : Nat} {μ : zm_M} {R S : List Nat} {t u : zy_F}
theorem zt_C_congr {ν : zm_M} (h : ∀ c, Q ≤ c → c < Q + 24 → ν c = μ c) (g : zt_C μ Q S u) : zt_C ν Q S u := by
  refine ⟨zt_same.I ⟨h _ (by omega) (by omega), h _ (by omega) (by omega), h _ (by omega) (by omega), h _ (by omega) (by omega), h _ (by omega) (by omega), h _ (by omega) (by omega), h _ (by omega) (by omega), h _ (by omega) (by omega), h _ (by omega) (by omega), h _ (by omega) (by omega), h _ (by omega) (by omega), by rw [h Q (by omega) (by omega)]⟩ g.1, ?_, fun a ha => ?_⟩
  · have := g.2.1
    unfold zt_O at *
    rw [h Q (by omega) (by omega), h (Q + 13) (by omega) (by omega)]
    exact this
  · have := g.2.2 a ha
    rw [h (Q + 16 + a) (by omega) (by omega), h (Q + 7) (by omega) (by omega), h (Q + 5 + a) (by omega) (by omega), h (Q + 3) (by omega) (by omega)]
    exact this
/-- the tree when the tabs W have come to its first leaf, or to a new one -/
def zy_ad (emp : Bool) (t : zy_F) (W : List Nat) (n0 : Nat) : zy_F := if emp = true ∧ W ≠ [] then .tag n0 .nil else t
def zt_AD (μ : zm_M) (T Q : Nat) (R : List Nat) (t : zy_F) (emp : Bool) (W : List Nat) (ν : zm_M) : Prop :=
  ∃ n0, zt_C ν T (R ++ W) (zy_ad emp t W n0) ∧ zt_frT T μ ν ∧ (emp = false → n0 = (zy_lvs t).getD 0 0) ∧
    (∀ v, ν (T + 3) v = if v ∈ W then nI n0 else μ (T + 3) v) ∧ (∀ v, ν (T + 5) v = if v ∈ W then μ (Q + 5) v else μ (T + 5) v) ∧ (∀ v, ν (T + 6) v = if v ∈ W then μ (Q + 6) v else μ (T + 6) v) ∧
    (∀ i, ν (T + 7) i = if (emp = true ∧ W ≠ []) ∧ i = n0 then 2 else μ (T + 7) i) ∧ ν (T + 8) = μ (T + 8) ∧ (∀ i, ν (T + 12) i = if (emp = true ∧ W ≠ []) ∧ i = n0 then nI (W.getD 0 0) else μ (T + 12) i)
theorem zl_snoc_if {α : Type} {W : List Nat} {w v : Nat} {a b c : α} (h : v = w → a = c) : (if v = w then a else if v ∈ W then c else b) = if v ∈ W ++ [w] then c else b := by
  by_cases e : v = w
  · rw [if_pos e, if_pos (by rw [e]; exact List.mem_append_right _ List.mem_cons_self)]
    exact h e
  · rw [if_neg e]
    by_cases c2 : v ∈ W
    · rw [if_pos c2, if_pos (List.mem_append_left _ c2)]
    · rw [if_neg c2, if_neg (fun q => by
        rcases List.mem_append.mp q with q | q
        · exact c2 q
        · exact e (by simpa using q))]
theorem zl_one {α : Type} {w v : Nat} {a b c : α} (h : v = w → a = c) : (if v = w then a else b) = if v ∈ ([] : List Nat) ++ [w] then c else b := by
  by_cases e : v = w
  · rw [if_pos e, if_pos (by rw [e]; exact List.mem_cons_self)]
    exact h e
  · rw [if_neg e, if_neg (fun q => e (by simpa using q))]
theorem zl_snoc_ne {W : List Nat} {w : Nat} : W ++ [w] ≠ [] := by simp
theorem zl_snoc_0 {W : List Nat} {w : Nat} (h : W ≠ []) : (W ++ [w]).getD 0 0 = W.getD 0 0 := zl_getD_l (List.length_pos_iff.mpr h)
theorem zy_lvs_pos (h : zy_wf t) : 0 < (zy_lvs t).length := by
  have h1 := zy_len t h
  have h2 := zy_len_pos h
  omega
theorem zt_AD_step (D : Nat) (h : zt_at T) {emp : Bool} (he : emp = true → t = .nil ∧ R = []) (he' : emp = false → zy_wf t) {W : List Nat} {ν : zm_M} (hA : zt_AD μ T Q R t emp W ν) {w : Nat} (hw : w < 10) (hwR : w ∉ R ++ W) :
    ∃ ν', (∃ x, ze_E (D + 4) A_Tree_leafNumber [.ref (T + 1), .int 0] (zm_mk ν) (some (.int x)) (zm_mk ν) ∧ ze_E (D + 4) A_Tree_addTab [.ref (T + 1), .int x, .int (nI w), .int (μ (Q + 5) w), .int (μ (Q + 6) w)] (zm_mk ν) none (zm_mk ν')) ∧ zt_AD μ T Q R t emp (W ++ [w]) ν' := by
  obtain ⟨n0, hC, fr, hn0, t3, t5, t6, t7, t8, t12⟩ := hA
  obtain ⟨NL, EL⟩ := ze_Tree_leafNumber (D + 3) h hC (j := 0) (by decide)
  have EL : ze_E (D + 4) A_Tree_leafNumber [.ref (T + 1), .int 0] (zm_mk ν) (some (.int (if 0 < (zy_lvs (zy_ad emp t W n0)).length then nI ((zy_lvs (zy_ad emp t W n0)).getD 0 0) else -1))) (zm_mk ν) := ⟨NL, EL⟩
  by_cases c : emp = true ∧ W = []
  · obtain ⟨c1, c2⟩ := c
    subst c2
    obtain ⟨rfl, rfl⟩ := he c1
    have e0 : zy_ad emp .nil [] n0 = .nil := by
      unfold zy_ad
      split <;> first | rfl | exact absurd rfl (‹emp = true ∧ _›).2
    rw [e0] at hC EL
    obtain ⟨ν', n, E, C, f, -, s3, s5, s6, s7, s8, s12⟩ := ze_Tree_addTab_0 D h hC.1 hw (z := -1) (by decide) (μ (Q + 5) w) (μ (Q + 6) w)
    refine ⟨ν', ⟨-1, EL, E⟩, n, ?_, fr.trans f, fun e => (by rw [e] at c1; cases c1), fun v => ?_, fun v => ?_, fun v => ?_, fun i => ?_, s8.trans t8, fun i => ?_⟩
    · have : zy_ad emp .nil ([] ++ [w]) n = .tag n .nil := by
        unfold zy_ad
        rw [if_pos ⟨c1, zl_snoc_ne⟩]
      rw [this]
      exact C
    · have := t3 v
      rw [if_neg List.not_mem_nil] at this
      rw [s3, this]; exact zl_one (fun _ => rfl)
    · have := t5 v
      rw [if_neg List.not_mem_nil] at this
      rw [s5, this]; exact zl_one (fun e => by rw [e])
    · have := t6 v
      rw [if_neg List.not_mem_nil] at this
      rw [s6, this]; exact zl_one (fun e => by rw [e])
    · have := t7 i
      rw [if_neg (fun q => q.1.2 rfl)] at this
      rw [s7, this]
      by_cases e : i = n
      · rw [if_pos e, if_pos ⟨⟨c1, zl_snoc_ne⟩, e⟩]
      · rw [if_neg e, if_neg (show ¬ ((emp = true ∧ [] ++ [w] ≠ []) ∧ i = n) from fun q => e q.2)]
    · have := t12 i
      rw [if_neg (fun q => q.1.2 rfl)] at this
      rw [s12, this]
      by_cases e : i = n
      · rw [if_pos e, if_pos ⟨⟨c1, zl_snoc_ne⟩, e⟩]; rfl
      · rw [if_neg e, if_neg (show ¬ ((emp = true ∧ [] ++ [w] ≠ []) ∧ i = n) from fun q => e q.2)]
  · have hlv : (zy_lvs (zy_ad emp t W n0)).getD 0 0 = n0 ∧ 0 < (zy_lvs (zy_ad emp t W n0)).length ∧ zy_ad emp t (W ++ [w]) n0 = zy_ad emp t W n0 ∧ ((emp = true ∧ W ++ [w] ≠ []) ↔ (emp = true ∧ W ≠ [])) := by
      unfold zy_ad
      cases emp with
      | true =>
        have hW : W ≠ [] := fun e => c ⟨rfl, e⟩
        rw [if_pos ⟨rfl, hW⟩, if_pos ⟨rfl, zl_snoc_ne⟩]
        exact ⟨rfl, Nat.succ_pos _, rfl, ⟨fun _ => ⟨rfl, hW⟩, fun _ => ⟨rfl, zl_snoc_ne⟩⟩⟩
      | false =>
        rw [if_neg (fun q => by cases q.1), if_neg (fun q => by cases q.1)]
        exact ⟨(hn0 rfl).symm, zy_lvs_pos (he' rfl), rfl, ⟨fun q => (by cases q.1), fun q => (by cases q.1)⟩⟩
    obtain ⟨l1, l2, l3, l4⟩ := hlv
    rw [if_pos l2, l1] at EL
    have hmem : n0 ∈ zy_lvs (zy_ad emp t W n0) := by
      have := zl_mem l2
      rw [l1] at this
      exact this
    obtain ⟨ν', E, C, f, s3, s5, s6, s7, s8, s12⟩ := ze_Tree_addTab D h hC.1 hmem hw hwR (μ (Q + 5) w) (μ (Q + 6) w)
    rw [List.append_assoc] at C
    refine ⟨ν', ⟨nI n0, EL, E⟩, n0, ?_, fr.trans f, hn0, fun v => ?_, fun v => ?_, fun v => ?_, fun i => ?_, s8.trans t8, fun i => ?_⟩
    · rw [l3]
      exact C
    · rw [s3, t3]; exact zl_snoc_if (fun _ => rfl)
    · rw [s5, t5]; exact zl_snoc_if (fun e => by rw [e])
    · rw [s6, t6]; exact zl_snoc_if (fun e => by rw [e])
    · rw [s7, t7]
      by_cases e : (emp = true ∧ W ≠ []) ∧ i = n0
      · rw [if_pos e, if_pos ⟨l4.mpr e.1, e.2⟩]
      · rw [if_neg e, if_neg (fun q => e ⟨l4.mp q.1, q.2⟩)]
    · rw [s12, t12]
      by_cases e : (emp = true ∧ W ≠ []) ∧ i = n0
      · rw [if_pos e, if_pos ⟨l4.mpr e.1, e.2⟩, zl_snoc_0 e.1.2]
      · rw [if_neg e, if_neg (fun q => e ⟨l4.mp q.1, q.2⟩)]
theorem zl_flat_take {l : List Nat} {f : Nat → List Nat} {i : Nat} (hi : i < l.length) : (l.take (i + 1)).flatMap f = (l.take i).flatMap f ++ f (l.getD i 0) := by
  rw [zl_take hi, List.flatMap_append]
  simp
theorem zl_flat_mem {l : List Nat} {f : Nat → List Nat} {i w : Nat} (h : w ∈ (l.take i).flatMap f) : ∃ n ∈ l, w ∈ f n := by
  obtain ⟨n, hn, hw⟩ := List.mem_flatMap.mp h
  exact ⟨n, List.mem_of_mem_take hn, hw⟩
theorem zt_AD_C {emp : Bool} {W : List Nat} {ν : zm_M} (hA : zt_AD μ T Q R t emp W ν) (hd : T + 24 ≤ Q ∨ Q + 24 ≤ T) (hQ : zt_C μ Q S u) : zt_C ν Q S u ∧ (∀ c, Q ≤ c → c < Q + 24 → ν c = μ c) := by
  obtain ⟨n0, -, fr, -⟩ := hA
  have : ∀ c, Q ≤ c → c < Q + 24 → ν c = μ c := fun c h1 h2 => fr c (by unfold zt_out; omega)
  exact ⟨zt_C_congr this hQ, this⟩
set_option maxRecDepth 100000 in
theorem ze_Tree_addAllTabs (D : Nat) (h : zt_at T) (hQt : zt_at Q) (hd : T + 24 ≤ Q ∨ Q + 24 ≤ T) {emp : Bool} (he : emp = true → t = .nil ∧ R = []) (he' : emp = false → zy_wf t) (hC : zt_C μ T R t) (hQ : zt_C μ Q S u) (hRS : ∀ w ∈ S, w ∉ R) :
    ∃ ν, ze_E (D + 5) A_Tree_addAllTabs [.ref (T + 1), .ref (Q + 1)] (zm_mk μ) none (zm_mk ν) ∧ zt_AD μ T Q R t emp ((zy_lvs u).flatMap (zt_tb μ Q S)) ν := by
  obtain ⟨hI, ⟨o1, o2⟩, -⟩ := id hQ
  obtain ⟨⟨s1, s2, s3⟩, ⟨k4, k5, k6, k7⟩, -⟩ := id hI
  have hlvn : (zy_lvs u).Nodup := by
    rcases k4 with ⟨rfl, _⟩ | ⟨wt, ok, _⟩
    · exact List.nodup_nil
    · exact zy_lvs_nodup u wt k5
  have hlv : ∀ n ∈ zy_lvs u, n < 19 := zy_lvs_lt (k4.imp (·.1) (·.1)) k6
  have hll := zy_nodup_le 19 (zy_lvs u) hlvn hlv
  have hnl : (μ Q 12 + 1) / 2 = nI (zy_lvs u).length := by
    rw [o1]
    rcases k4 with ⟨rfl, _⟩ | ⟨wt, ok, _⟩
    · decide
    · have h1 := zy_len u wt
      have h2 := zy_nodup_le 19 (zy_ids u) k5 k6
      have : ∀ a b, a + 1 = 2 * b → a ≤ 19 → (nI a + 1) / 2 = nI b := by
        intro a b e1 e2
        have e3 : a = 2 * b - 1 := by omega
        have e4 : 1 ≤ b ∧ b ≤ 10 := by omega
        subst e3
        have : ∀ b, b < 11 → 1 ≤ b → (nI (2 * b - 1) + 1) / 2 = nI b := by decide
        exact this b (by omega) e4.1
      exact this _ _ h1 h2
  have key : ∃ r h', ze_G (D + 4) 6 none zc_X3_addAllTabs 2 [(2, .int (nI 0)), (0, .ref (T + 1)), (1, .ref (Q + 1))] [] (zm_mk μ) r h' ∧ (r = none ∧ ∃ ν, zm_mk ν = h' ∧ zt_AD μ T Q R t emp ((zy_lvs u).flatMap (zt_tb μ Q S)) ν) := by
    refine ze_loop (Q := fun i L hp => i ≤ (zy_lvs u).length ∧ zi_nl L = true ∧ zi_get L 0 = some (.ref (T + 1)) ∧ zi_get L 1 = some (.ref (Q + 1)) ∧ zi_get L 2 = some (.int (nI i)) ∧ ∃ ν : zm_M, zm_mk ν = hp ∧ zt_AD μ T Q R t emp (((zy_lvs u).take i).flatMap (zt_tb μ Q S)) ν) (R := fun r h' => r = none ∧ ∃ ν, zm_mk ν = h' ∧ zt_AD μ T Q R t emp ((zy_lvs u).flatMap (zt_tb μ Q S)) ν) (zy_lvs u).length ?_ ?_ (zy_lvs u).length 0 _ _ (by omega) ⟨by omega, rfl, rfl, rfl, rfl, μ, rfl, ?_⟩
    · rintro i0 L _ hi0 ⟨-, nl, g0, g1, g2, ν, rfl, hA⟩
      left
      have hlm : (zy_lvs u).getD i0 0 ∈ zy_lvs u := zl_mem hi0
      have hft := zl_flat_take (f := zt_tb μ Q S) hi0
      obtain ⟨hQν, hrQ⟩ := zt_AD_C hA hd hQ
      obtain ⟨N1, E1⟩ := ze_Tree_leaves (μ := ν) (D + 3) hQt
      rw [hrQ Q (by omega) (by omega), hnl] at E1
      obtain ⟨N2, E2⟩ := ze_Tree_leafNumber (D + 3) hQt hQν (j := i0) (by omega)
      rw [if_pos hi0] at E2
      have hWd : ∀ w ∈ ((zy_lvs u).take i0).flatMap (zt_tb μ Q S), w ∉ zt_tb μ Q S ((zy_lvs u).getD i0 0) := by
        intro w hw hw2
        obtain ⟨n, hn, hwn⟩ := List.mem_flatMap.mp hw
        have e1 := (zt_tb_mem.mp hwn).2
        have e2 := (zt_tb_mem.mp hw2).2
        have h1 := hlv n (List.mem_of_mem_take hn)
        have h2 := hlv _ hlm
        have e : n = (zy_lvs u).getD i0 0 := (nI_eq (by omega) (by omega)).mp (e1.symm.trans e2)
        obtain ⟨j, hj, ej⟩ := List.mem_take_iff_getElem.mp hn
        have hj' : j < (zy_lvs u).length := by omega
        have ei : (zy_lvs u).getD i0 0 = (zy_lvs u)[i0] := by
          rw [List.getD_eq_getElem?_getD, List.getElem?_eq_getElem hi0]; rfl
        have : (zy_lvs u)[j] = (zy_lvs u)[i0] := by rw [ej, e, ei]
        exact List.pairwise_iff_getElem.mp hlvn j i0 hj' hi0 (by omega) this
      generalize (zy_lvs u).getD i0 0 = l at hlm hft E2 hWd
      have hl := hlv l hlm
      generalize hWi : ((zy_lvs u).take i0).flatMap (zt_tb μ Q S) = Wi at hA hft hWd
      have hWS : ∀ w ∈ Wi, w ∈ S := fun w hw => by
        rw [← hWi] at hw
        obtain ⟨n, -, hwn⟩ := zl_flat_mem hw
        exact (zt_tb_mem.mp hwn).1
      have htd : (zt_tb μ Q S l).Nodup := s2.filter _
      have htl : (zt_tb μ Q S l).length ≤ 10 := Nat.le_trans (List.length_filter_le _ _) s1.1
      have inner : ∃ L' h', ze_S (D + 4) 6 none zc_X3_addAllTabs 19 (zi_set (zi_set L 3 (.int (nI l))) 4 (.int (nI 0))) [] (zm_mk ν) 73 L' [] h' ∧ (zi_nl L' = true ∧ zi_get L' 0 = some (.ref (T + 1)) ∧ zi_get L' 1 = some (.ref (Q + 1)) ∧ zi_get L' 2 = some (.int (nI i0)) ∧ ∃ ξ : zm_M, zm_mk ξ = h' ∧ zt_AD μ T Q R t emp (Wi ++ zt_tb μ Q S l) ξ) := by
        have z0 : zi_nl (zi_set (zi_set L 3 (.int (nI l))) 4 (.int (nI 0))) = true := by simp (maxDischargeDepth := 9) [zi_get_ne, zi_nl_i, zi_nl_r, zi_get_set_eq, nl]
        have z1 : zi_get (zi_set (zi_set L 3 (.int (nI l))) 4 (.int (nI 0))) 0 = some (.ref (T + 1)) := by simp (maxDischargeDepth := 9) [zi_get_ne, zi_nl_i, zi_nl_r, zi_get_set_eq, nl, g0]
        have z2 : zi_get (zi_set (zi_set L 3 (.int (nI l))) 4 (.int (nI 0))) 1 = some (.ref (Q + 1)) := by simp (maxDischargeDepth := 9) [zi_get_ne, zi_nl_i, zi_nl_r, zi_get_set_eq, nl, g1]
        have z3 : zi_get (zi_set (zi_set L 3 (.int (nI l))) 4 (.int (nI 0))) 2 = some (.int (nI i0)) := by simp (maxDischargeDepth := 9) [zi_get_ne, zi_nl_i, zi_nl_r, zi_get_set_eq, nl, g2]
        have z4 : zi_get (zi_set (zi_set L 3 (.int (nI l))) 4 (.int (nI 0))) 3 = some (.int (nI l)) := by simp (maxDischargeDepth := 9) [zi_get_ne, zi_nl_i, zi_nl_r, zi_get_set_eq, nl]
        have z5 : zi_get (zi_set (zi_set L 3 (.int (nI l))) 4 (.int (nI 0))) 4 = some (.int (nI 0)) := zi_get_set_eq
        generalize zi_set (zi_set L 3 (.int (nI l))) 4 (.int (nI 0)) = L0 at z0 z1 z2 z3 z4 z5
        refine ze_loopS (Q := fun i L hp => i ≤ (zt_tb μ Q S l).length ∧ zi_nl L = true ∧ zi_get L 0 = some (.ref (T + 1)) ∧ zi_get L 1 = some (.ref (Q + 1)) ∧ zi_get L 2 = some (.int (nI i0)) ∧ zi_get L 3 = some (.int (nI l)) ∧ zi_get L 4 = some (.int (nI i)) ∧ ∃ ξ : zm_M, zm_mk ξ = hp ∧ (zt_AD μ T Q R t emp (Wi ++ (zt_tb μ Q S l).take i) ξ) ∧ (True)) (R := fun L' h' => zi_nl L' = true ∧ zi_get L' 0 = some (.ref (T + 1)) ∧ zi_get L' 1 = some (.ref (Q + 1)) ∧ zi_get L' 2 = some (.int (nI i0)) ∧ ∃ ξ : zm_M, zm_mk ξ = h' ∧ zt_AD μ T Q R t emp (Wi ++ zt_tb μ Q S l) ξ) (zt_tb μ Q S l).length ?_ ?_ (zt_tb μ Q S l).length 0 _ _ (by omega) ⟨by omega, z0, z1, z2, z3, z4, z5, ν, rfl, (by rw [List.take_zero, List.append_nil]; exact hA), trivial⟩
        · rintro i L _ hi ⟨-, nl, g0, g1, g2, g3, g4, ξ, rfl, hA, hq⟩
          have hwm : (zt_tb μ Q S l).getD i 0 ∈ zt_tb μ Q S l := zl_mem hi
          have htk := zl_take hi
          obtain ⟨hQξ, hrξ⟩ := zt_AD_C hA hd hQ
          have etb : S.filter (fun v => decide (ξ (Q + 3) v = nI l)) = zt_tb μ Q S l := by
            unfold zt_tb
            rw [hrξ (Q + 3) (by omega) (by omega)]
          obtain ⟨N1, E1⟩ := ze_Tree_tabsIn (μ := ξ) (D + 2) hQt hQξ.1 (nI l)
          obtain ⟨N2, E2⟩ := ze_Tree_tabIn (μ := ξ) (D + 2) hQt hQξ.1 (nI l) (j := i) (by omega)
          rw [etb] at E1 E2
          rw [if_pos hi] at E2
          have hwn : (zt_tb μ Q S l).getD i 0 ∉ (zt_tb μ Q S l).take i := by
            intro hm
            obtain ⟨j, hj, ej⟩ := List.mem_take_iff_getElem.mp hm
            have ei : (zt_tb μ Q S l).getD i 0 = (zt_tb μ Q S l)[i] := by
              rw [List.getD_eq_getElem?_getD, List.getElem?_eq_getElem hi]; rfl
            have : (zt_tb μ Q S l)[j] = (zt_tb μ Q S l)[i] := by rw [ej, ei]
            exact List.pairwise_iff_getElem.mp htd j i (by omega) hi (by omega) this
          generalize (zt_tb μ Q S l).getD i 0 = w at hwm htk E2 hwn
          obtain ⟨hwS, hwl⟩ := zt_tb_mem.mp hwm
          have hw := s3 w hwS
          have hwR : w ∉ R ++ (Wi ++ (zt_tb μ Q S l).take i) := by
            intro hm
            rcases List.mem_append.mp hm with hm | hm
            · exact hRS w hwS hm
            · rcases List.mem_append.mp hm with hm | hm
              · exact hWd w hm hwm
              · exact hwn hm
          obtain ⟨ξ', ⟨x, ⟨N3, E3⟩, ⟨N4, E4⟩⟩, hA'⟩ := zt_AD_step D h he he' hA hw hwR
          rw [List.append_assoc, ← htk] at hA'
          obtain ⟨lq, cq⟩ := zt_c (μ := ξ) hQt
          obtain ⟨lt, ct⟩ := zt_c (μ := ξ) h
          have c1 : ¬ nI (zt_tb μ Q S l).length ≤ nI i := nI_ge hi (by omega)
          have i1 : zi_in (nI w) 10 = true := zm_in hw (by decide)
          have e1 : (nI w).toNatClampNeg = w := nI_clamp (by omega)
          have r5 : ξ (Q + 5) = μ (Q + 5) := hrξ _ (by omega) (by omega)
          have r6 : ξ (Q + 6) = μ (Q + 6) := hrξ _ (by omega) (by omega)
          refine ⟨zi_set (zi_set L 5 (.int (nI w))) 4 (.int (nI (i + 1))), zm_mk ξ', ⟨N1 + N2 + N3 + N4, 30, fun F m hF => ?_⟩, by omega, ?_, ?_, ?_, ?_, ?_, zi_get_set_eq, ξ', rfl, hA', trivial⟩
          · simp (maxDischargeDepth := 9) [zg_0, zg_aaload, zg_aload_n, zg_getfield, zg_goto, zg_iaload, zg_iconst, zg_if_icmp, zg_iinc, zg_iload, zg_iload_n, zg_invokevirtual, zg_istore, zg_istore_n, zg_return, zf_X3_addAllTabs, zi_ld, zi_lda, zi_cmp, zi_retOk, zi_isI, zi_f3, zi_cr, zi_ci, zi_cn, zi_get_ne, zi_nl_i, zi_nl_r, zi_get_set_eq, nl, g0, g1, g2, g3, g4, zt_g hQt, zq_Tree_tabsIn, zq_Tree_tabIn, zq_Tree_leafNumber, zq_Tree_addTab, cq, ct, c1, E1 F (by omega), E2 F (by omega), E3 F (by omega), E4 F (by omega), zm_ax0 hQt.2.2.2.1.1, zm_ax1 hQt.2.2.2.1.1, zm_iald (k := 0) hQt.2.2.2.1.2.1 i1, zm_iald (k := 0) hQt.2.2.2.1.2.2 i1, e1, r5, r6, nI_1]
          · simp (maxDischargeDepth := 9) [zi_get_ne, zi_nl_i, zi_nl_r, zi_get_set_eq, nl]
          · simp (maxDischargeDepth := 9) [zi_get_ne, zi_nl_i, zi_nl_r, zi_get_set_eq, nl, g0]
          · simp (maxDischargeDepth := 9) [zi_get_ne, zi_nl_i, zi_nl_r, zi_get_set_eq, nl, g1]
          · simp (maxDischargeDepth := 9) [zi_get_ne, zi_nl_i, zi_nl_r, zi_get_set_eq, nl, g2]
          · simp (maxDischargeDepth := 9) [zi_get_ne, zi_nl_i, zi_nl_r, zi_get_set_eq, nl, g3]
        · rintro L _ ⟨-, nl, g0, g1, g2, g3, g4, ξ, rfl, hA, hq⟩
          obtain ⟨hQξ, hrξ⟩ := zt_AD_C hA hd hQ
          have etb : S.filter (fun v => decide (ξ (Q + 3) v = nI l)) = zt_tb μ Q S l := by
            unfold zt_tb
            rw [hrξ (Q + 3) (by omega) (by omega)]
          obtain ⟨N1, E1⟩ := ze_Tree_tabsIn (μ := ξ) (D + 2) hQt hQξ.1 (nI l)
          rw [etb] at E1
          rw [List.take_length] at hA
          obtain ⟨lq, cq⟩ := zt_c (μ := ξ) hQt
          refine ⟨L, zm_mk ξ, ⟨N1, 5, fun F m hF => ?_⟩, nl, g0, g1, g2, ξ, rfl, hA⟩
          simp [zg_0, zg_aaload, zg_aload_n, zg_getfield, zg_goto, zg_iaload, zg_iconst, zg_if_icmp, zg_iinc, zg_iload, zg_iload_n, zg_invokevirtual, zg_istore, zg_istore_n, zg_return, zf_X3_addAllTabs, zi_ld, zi_lda, zi_cmp, zi_retOk, zi_isI, zi_f3, zi_cr, zi_ci, zi_cn, g0, g1, g2, g3, g4, zq_Tree_tabsIn, cq, E1 F (by omega)]
      obtain ⟨L', h', S1, nl', g0', g1', g2', ξ, rfl, hA'⟩ := inner
      refine ⟨zi_set L' 2 (.int (nI (i0 + 1))), zm_mk ξ, ?_, by omega, ?_, ?_, ?_, zi_get_set_eq, ξ, rfl, by rw [hft]; exact hA'⟩
      · refine ze_S.trans (p2 := 19) (L2 := zi_set (zi_set L 3 (.int (nI l))) 4 (.int (nI 0))) (s2 := []) (h2 := zm_mk ν) ⟨N1 + N2, 10, fun F m hF => ?_⟩ (S1.trans ⟨0, 2, fun F m hF => ?_⟩)
        · obtain ⟨l1, c1⟩ := zt_c (μ := ν) hQt
          have c2 : ¬ nI (zy_lvs u).length ≤ nI i0 := nI_ge hi0 (by omega)
          simp (maxDischargeDepth := 9) [zg_0, zg_aaload, zg_aload_n, zg_getfield, zg_goto, zg_iaload, zg_iconst, zg_if_icmp, zg_iinc, zg_iload, zg_iload_n, zg_invokevirtual, zg_istore, zg_istore_n, zg_return, zf_X3_addAllTabs, zi_ld, zi_lda, zi_cmp, zi_retOk, zi_isI, zi_f3, zi_cr, zi_ci, zi_cn, zi_get_ne, zi_nl_i, zi_nl_r, zi_get_set_eq, nl, g0, g1, g2, zq_Tree_leaves, zq_Tree_leafNumber, c1, c2, E1 F (by omega), E2 F (by omega), nI_0]
        · simp [zg_0, zg_aaload, zg_aload_n, zg_getfield, zg_goto, zg_iaload, zg_iconst, zg_if_icmp, zg_iinc, zg_iload, zg_iload_n, zg_invokevirtual, zg_istore, zg_istore_n, zg_return, zf_X3_addAllTabs, zi_ld, zi_lda, zi_cmp, zi_retOk, zi_isI, zi_f3, zi_cr, zi_ci, zi_cn, g2', nI_1]
      · have nl := nl'
        simp (maxDischargeDepth := 9) [zi_get_ne, zi_nl_i, zi_nl_r, zi_get_set_eq, nl]
      · have nl := nl'
        simp (maxDischargeDepth := 9) [zi_get_ne, zi_nl_i, zi_nl_r, zi_get_set_eq, nl, g0']
      · have nl := nl'
        simp (maxDischargeDepth := 9) [zi_get_ne, zi_nl_i, zi_nl_r, zi_get_set_eq, nl, g1']
    · rintro L _ ⟨-, nl, g0, g1, g2, ν, rfl, hA⟩
      obtain ⟨hQν, hrQ⟩ := zt_AD_C hA hd hQ
      obtain ⟨N1, E1⟩ := ze_Tree_leaves (μ := ν) (D + 3) hQt
      rw [hrQ Q (by omega) (by omega), hnl] at E1
      rw [List.take_length] at hA
      refine ⟨none, zm_mk ν, ⟨N1, 5, fun F m hF => ?_⟩, rfl, ν, rfl, hA⟩
      obtain ⟨l1, c1⟩ := zt_c (μ := ν) hQt
      simp [zg_0, zg_aaload, zg_aload_n, zg_getfield, zg_goto, zg_iaload, zg_iconst, zg_if_icmp, zg_iinc, zg_iload, zg_iload_n, zg_invokevirtual, zg_istore, zg_istore_n, zg_return, zf_X3_addAllTabs, zi_ld, zi_lda, zi_cmp, zi_retOk, zi_isI, zi_f3, zi_cr, zi_ci, zi_cn, g1, g2, zq_Tree_leaves, c1, E1 F (by omega)]
    · refine ⟨(zy_lvs t).getD 0 0, ?_, fun _ _ => rfl, fun _ => rfl, fun v => ?_, fun v => ?_, fun v => ?_, fun i => ?_, rfl, fun i => ?_⟩
      · have : zy_ad emp t [] ((zy_lvs t).getD 0 0) = t := by
          unfold zy_ad
          rw [if_neg (fun q => q.2 rfl)]
        rw [List.take_zero, List.flatMap_nil, this, List.append_nil]
        exact hC
      · rw [List.take_zero, List.flatMap_nil, if_neg List.not_mem_nil]
      · rw [List.take_zero, List.flatMap_nil, if_neg List.not_mem_nil]
      · rw [List.take_zero, List.flatMap_nil, if_neg List.not_mem_nil]
      · rw [List.take_zero, List.flatMap_nil, if_neg (fun q => q.1.2 rfl)]
      · rw [List.take_zero, List.flatMap_nil, if_neg (fun q => q.1.2 rfl)]
  obtain ⟨r, h', G, rfl, ν, rfl, hA⟩ := key
  refine ⟨ν, ze_in [(0, .ref (T + 1)), (1, .ref (Q + 1))] zq_Tree_addAllTabs (Nat.le_of_ble_eq_true rfl) rfl (ze_S.end ⟨0, 2, fun F m hF => ?_⟩ G), hA⟩
  simp [zg_0, zg_aaload, zg_aload_n, zg_getfield, zg_goto, zg_iaload, zg_iconst, zg_if_icmp, zg_iinc, zg_iload, zg_iload_n, zg_invokevirtual, zg_istore, zg_istore_n, zg_return, zf_X3_addAllTabs, zi_ld, zi_lda, zi_cmp, zi_retOk, zi_isI, zi_f3, zi_cr, zi_ci, zi_cn, zi_get, zi_set, nI_0]
end ZAA
