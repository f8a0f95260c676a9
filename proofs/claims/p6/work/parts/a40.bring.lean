/-! the reference: bring, the tiled ones leave where they are -/
section ZVY
variable {μ ξ ν : zm_M} {q : Nat} {u u1 : zy_F} {ab : Nat → Int32} {X X' : Nat → Bool}
theorem zu_X_eqT (h : zu_X μ ξ q u u1 X) (e : zu_eqT ξ q ν q) : zu_X μ ν q u u1 X := by
  obtain ⟨⟨ab, hI⟩, h2, h3, h4⟩ := h
  refine ⟨⟨ab, e.I hI⟩, h2, fun n hn => ?_, fun n hn => ?_⟩
  · have h24 := zu_I_lt hI hn
    rw [e.tb h24 (zu_I_tbl hI hn), e.2.1 250 n (by decide) h24]
    exact h3 n hn
  · have h24 := hI.2.2.1 n hn
    rw [e.2.1 247 n (by decide) h24, e.fm h24]
    exact h4 n hn
theorem zu_X_congr (h : zu_X μ ξ q u u1 X) (w : u = .nil ∨ zy_wf u) (e : ∀ n ∈ zy_lvs u, ∀ x ∈ zu_tb μ q n, X' x = X x) : zu_X μ ξ q u u1 X' := by
  obtain ⟨h1, h2, h3, h4⟩ := h
  have ef : ∀ n ∈ zy_lvs u, (zu_tb μ q n).filter (fun w => !X' w) = (zu_tb μ q n).filter (fun w => !X w) := fun n hn => List.filter_congr fun x hx => by rw [e n hn x hx]
  have hk : u1 = zy_keep (fun n => decide ((zu_tb μ q n).filter (fun w => !X' w) ≠ [])) u := by
    rw [h2]
    rcases w with w | w
    · rw [w]; rfl
    · exact zy_keep_congr u w fun n hn => by rw [ef n hn]
  refine ⟨h1, hk, fun n hn => ?_, h4⟩
  have hnu : n ∈ zy_lvs u := by
    rcases w with w | w
    · rw [h2, w] at hn; cases hn
    · rw [h2, zy_keep_lvs u w] at hn; exact (List.mem_filter.mp hn).1
  exact ⟨by rw [ef n hnu]; exact (h3 n hn).1, fun g hg q => by rw [(h3 n hn).2 g hg q]; exact zl_sw_congr fun x hx => (e n hnu x hx).symm⟩
theorem zu_X_at (hI : zu_I μ q u ab) (h : zu_X μ ξ q u u1 X) {w m : Nat} (hX : X w = false) (hat : zu_at μ q u w m) : zu_at ξ q u1 w m := by
  obtain ⟨h1, h2, h3, h4⟩ := h
  have wu := (zu_I_lv hI hat.1).1
  have hm : m ∈ zy_lvs u1 := by
    rw [h2, zy_keep_lvs u wu]
    refine List.mem_filter.mpr ⟨hat.1, decide_eq_true (List.ne_nil_of_mem (List.mem_filter.mpr ⟨hat.2.1, ?_⟩))⟩
    rw [hX]; rfl
  refine ⟨hm, ?_, fun n hn hw => ?_⟩
  · rw [(h3 m hm).1]
    exact List.mem_filter.mpr ⟨hat.2.1, by rw [hX]; rfl⟩
  · rw [(h3 n hn).1] at hw
    rw [h2, zy_keep_lvs u wu] at hn
    exact hat.2.2 n (List.mem_filter.mp hn).1 (List.mem_filter.mp hw).1
/-- the windows W have left their trees -/
def zv_bs (μ : zm_M) (s : Nat) (us : Nat → zy_F) (ξ : zm_M) (us1 : Nat → zy_F) (W : List Nat) : Prop :=
  (∀ q, q < 3 → zu_X μ ξ q (us q) (us1 q) (fun x => decide (x ∈ W))) ∧ (∀ j, j < 10 → ξ 238 j = if j ∈ W then nI s else μ 238 j) ∧ ∀ c d, c ≠ 238 → (∀ q, q < 3 → ¬ zu_in q c d) → ξ c d = μ c d
def zv_lv (μ : zm_M) (us : Nat → zy_F) (w : Nat) : Prop := w < 10 ∧ ∃ q, q < 3 ∧ μ 238 w = nI q ∧ (∃ m, zu_at μ q (us q) w m) ∧ ∀ p, p < 3 → p ≠ q → ∀ n ∈ zy_lvs (us p), w ∉ zu_tb μ p n
variable {us us1 : Nat → zy_F} {s : Nat} {W : List Nat}
theorem zl_mem_snoc {w x : Nat} : decide (x ∈ W ++ [w]) = zv_add (fun x => decide (x ∈ W)) w x := by
  by_cases e : x = w
  · rw [e, zv_add_k]
    exact decide_eq_true (List.mem_append_right _ (List.mem_singleton.mpr rfl))
  · rw [zv_add_ne e]
    by_cases h : x ∈ W
    · rw [decide_eq_true h, decide_eq_true (List.mem_append_left _ h)]
    · rw [decide_eq_false h, decide_eq_false (fun z => (List.mem_append.mp z).elim h (fun z => e (List.mem_singleton.mp z)))]
theorem zu_in_ne {p q c d : Nat} (h : zu_in p c d) (hpq : p ≠ q) : ¬ zu_in q c d := by
  intro g
  rcases h with ⟨h1, h2⟩ | ⟨h1, h2, h3⟩ | ⟨h1, h2, h3⟩
  · rcases g with ⟨g1, g2⟩ | ⟨g1, g2, g3⟩ | ⟨g1, g2, g3⟩
    · omega
    · rw [h1] at g1; revert g1; decide
    · omega
  · rcases g with ⟨g1, g2⟩ | ⟨g1, g2, g3⟩ | ⟨g1, g2, g3⟩
    · rw [g1] at h1; revert h1; decide
    · omega
    · rw [g1] at h1; revert h1; decide
  · rcases g with ⟨g1, g2⟩ | ⟨g1, g2, g3⟩ | ⟨g1, g2, g3⟩
    · omega
    · rw [h1] at g1; revert g1; decide
    · omega
theorem zu_up238 {τ w : Nat} {v : Int32} : zu_eqT ν τ (zm_up ν 238 w v) τ :=
  ⟨zm_up_ne (by omega), fun c n hc _ => zm_up_ne (by rintro ⟨rfl, -⟩; revert hc; decide), fun n j _ _ => zm_up_ne (by omega)⟩
theorem zv_bs_step (D : Nat) (hI : ∀ q, q < 3 → ∃ ab, zu_I μ q (us q) ab) (hnd : ∀ q, q < 3 → zu_nd μ q (us q)) (h : zv_bs μ s us ξ us1 W) {w : Nat} (hw : zv_lv μ us w) (hW : w ∉ W) :
    ∃ q ν us2, q < 3 ∧ ξ 238 w = nI q ∧ ze_E (D + 4) A_Mod_leave [.ref 232, .int (nI q), .int (nI w)] (zm_mk ξ) none (zm_mk ν) ∧ zv_bs μ s us (zm_up ν 238 w (nI s)) us2 (W ++ [w]) := by
  obtain ⟨h1, h2, h3⟩ := h
  obtain ⟨w10, q, hq, hh, ⟨m, hat⟩, hoth⟩ := hw
  obtain ⟨ab0, hI0⟩ := hI q hq
  obtain ⟨ab1, hI1⟩ := (h1 q hq).1
  have hX : (fun x => decide (x ∈ W)) w = false := decide_eq_false hW
  have hat1 := zu_X_at hI0 (h1 q hq) hX hat
  obtain ⟨ν, ab', E, ho⟩ := ze_Mleave (μ := ξ) D (by omega) hI1 w10 hat1
  have fr := ho.2.2.2.2
  have e8 : ξ 238 w = nI q := by rw [h2 w w10, if_neg hW]; exact hh
  refine ⟨q, ν, fun p => if p = q then (if (zu_tb ξ q m).erase w = [] then zy_out m (us1 q) else us1 q) else us1 p, hq, e8, E, fun p hp => ?_, fun j hj => ?_, fun c d hc hd => ?_⟩
  · have eX : (fun x => decide (x ∈ W ++ [w])) = zv_add (fun x => decide (x ∈ W)) w := funext fun x => zl_mem_snoc
    rw [eX]
    refine zu_X_eqT (ξ := ν) ?_ zu_up238
    show zu_X μ ν p (us p) (if p = q then (if (zu_tb ξ q m).erase w = [] then zy_out m (us1 q) else us1 q) else us1 p) (zv_add (fun x => decide (x ∈ W)) w)
    by_cases e : p = q
    · subst e
      rw [if_pos rfl]
      exact zu_X_step hI0 (hnd p hp) (h1 p hp) hX hat1 ho
    · rw [if_neg e]
      obtain ⟨abp, hIp⟩ := hI p hp
      refine zu_X_congr (zu_X_eqT (h1 p hp) (fr.eqT e)) (zu_I_or hIp) fun n hn x hx => zv_add_ne fun z => hoth p hp e n hn (z ▸ hx)
  · rw [zm_up_pt]
    by_cases e : j = w
    · rw [if_pos e, if_pos (e ▸ List.mem_append_right _ (List.mem_singleton.mpr rfl))]
    · rw [if_neg e, zu_fr_out fr (by omega), h2 j hj]
      by_cases c : j ∈ W
      · rw [if_pos c, if_pos (List.mem_append_left _ c)]
      · rw [if_neg c, if_neg (fun z => (List.mem_append.mp z).elim c (fun z => e (List.mem_singleton.mp z)))]
  · rw [zm_up_ne (fun z => hc z.1), fr c d (hd q hq)]
    exact h3 c d hc hd
end ZVY
section ZVY2
variable {μ : zm_M} {us us0 : Nat → zy_F} {s : Nat} {uk : zy_F} {abk : Nat → Int32}
set_option maxRecDepth 100000 in
theorem zv_brI (D : Nat) (hs : s < 3) (hI : ∀ q, q < 3 → ∃ ab, zu_I μ q (us q) ab) (hnd : ∀ q, q < 3 → zu_nd μ q (us q)) {m i0 : Nat} (hm24 : m < 24) {tb W0 : List Nat} (hT : zu_T μ (3 + s) m tb) (htb : tb.Nodup) (hlv : ∀ w ∈ tb, zv_lv μ us w ∧ w ∉ W0) {ν0 : zm_M} (h0 : zv_bs μ s us ν0 us0 W0) (L0 : zi_Lc) (nl0 : zi_nl L0 = true) (a0 : zi_get L0 0 = some (.ref 232)) (a1 : zi_get L0 1 = some (.int (nI s))) (a2 : zi_get L0 2 = some (.int (nI 0))) (a3 : zi_get L0 3 = some (.int (nI i0))) (a4 : zi_get L0 4 = some (.int (nI (24 * (3 + s) + m)))) (a5 : zi_get L0 5 = some (.int (nI 0))) :
    ∃ L' h', ze_S (D + 4) 7 (some .int) zc_X6_bring 36 L0 [] (zm_mk ν0) 90 L' [] h' ∧ (zi_nl L' = true ∧ zi_get L' 0 = some (.ref 232) ∧ zi_get L' 1 = some (.int (nI s)) ∧ zi_get L' 2 = some (.int (nI 0)) ∧ zi_get L' 3 = some (.int (nI i0)) ∧ ∃ ν us1, zm_mk ν = h' ∧ zv_bs μ s us ν us1 (W0 ++ tb)) := by
  have h10 : (Int8.ofInt 10).toInt32 = (10 : Int32) := by decide
  have mk : (10 : Int32) * nI (24 * (3 + s) + m) = nI (10 * (24 * (3 + s) + m)) := nI_mul10 (by omega)
  have ia : zi_in (nI (24 * (3 + s) + m)) 168 = true := zm_in (by omega) (by decide)
  have ca : (nI (24 * (3 + s) + m)).toNatClampNeg = 24 * (3 + s) + m := nI_clamp (by omega)
  have hcell : ∀ ν us1 W, zv_bs μ s us ν us1 W → ν 249 (24 * (3 + s) + m) = nI tb.length ∧ ∀ j, j < tb.length → ν 248 (10 * (24 * (3 + s) + m) + j) = nI (tb.getD j 0) := fun ν us1 W h => by
    have t10 := hT.1
    exact ⟨(h.2.2 _ _ (by decide) (fun q hq => zu_in_ne (p := 3 + s) (Or.inr (Or.inl ⟨by decide, by omega, by omega⟩)) (by omega))).trans hT.2.1, fun j hj => (h.2.2 _ _ (by decide) (fun q hq => zu_in_ne (p := 3 + s) (Or.inr (Or.inr ⟨rfl, by omega, by omega⟩)) (by omega))).trans (hT.2.2 j hj)⟩
  have htl := hT.1
  refine ze_loopS (Q := fun i L hp => i ≤ tb.length ∧ zi_nl L = true ∧ zi_get L 0 = some (.ref 232) ∧ zi_get L 1 = some (.int (nI s)) ∧ zi_get L 2 = some (.int (nI 0)) ∧ zi_get L 3 = some (.int (nI i0)) ∧ zi_get L 4 = some (.int (nI (24 * (3 + s) + m))) ∧ zi_get L 5 = some (.int (nI i)) ∧ ∃ ξ : zm_M, zm_mk ξ = hp ∧ (∃ us1, zv_bs μ s us ξ us1 (W0 ++ tb.take i))) (R := fun L' h' => zi_nl L' = true ∧ zi_get L' 0 = some (.ref 232) ∧ zi_get L' 1 = some (.int (nI s)) ∧ zi_get L' 2 = some (.int (nI 0)) ∧ zi_get L' 3 = some (.int (nI i0)) ∧ ∃ ν us1, zm_mk ν = h' ∧ zv_bs μ s us ν us1 (W0 ++ tb)) tb.length ?_ ?_ tb.length 0 _ _ (by omega) ⟨by omega, nl0, a0, a1, a2, a3, a4, a5, ν0, rfl, us0, (by rw [List.take_zero, List.append_nil]; exact h0)⟩
  · rintro i L _ hi ⟨-, nl, g0, g1, g2, g3, g4, g5, ξ, rfl, hq⟩
    obtain ⟨us1, hq⟩ := hq
    obtain ⟨k1, k2⟩ := hcell ξ us1 _ hq
    have k2i := k2 i hi
    have c1 : ¬ nI tb.length ≤ nI i := nI_ge hi (by omega)
    have ij : zi_in (nI (10 * (24 * (3 + s) + m) + i)) 1680 = true := zm_in (by omega) (by decide)
    have cj : (nI (10 * (24 * (3 + s) + m) + i)).toNatClampNeg = 10 * (24 * (3 + s) + m) + i := nI_clamp (by omega)
    have hwm : tb.getD i 0 ∈ tb := zl_mem hi
    have htk : tb.take (i + 1) = tb.take i ++ [tb.getD i 0] := zl_take hi
    have hnew : tb.getD i 0 ∉ W0 ++ tb.take i := fun z => by
      rcases List.mem_append.mp z with z | z
      · exact (hlv _ hwm).2 z
      · obtain ⟨j, hj, e⟩ := zl_mem_getD z
        rw [List.length_take] at hj
        have e' : tb.getD j 0 = tb.getD i 0 := by
          rw [← e]
          conv => lhs; rw [← List.take_append_drop i tb]
          exact zl_getD_l (by rw [List.length_take]; exact hj)
        have := zl_nd_inj tb htb j i (by omega) hi e'
        omega
    generalize tb.getD i 0 = w at k2i hwm htk hnew
    have hw := (hlv w hwm).1
    have w10 := hw.1
    have iw : zi_in (nI w) 10 = true := zm_in w10 (by decide)
    have cw : (nI w).toNatClampNeg = w := nI_clamp (by omega)
    obtain ⟨q, ν, us2, hq3, e8, ⟨N1, E1⟩, hbs⟩ := zv_bs_step (s := s) D hI hnd hq hw hnew
    rw [List.append_assoc, ← htk] at hbs
    obtain ⟨lc, cM⟩ := zM_c (μ := ξ)
    refine ⟨zi_set (zi_set L 6 (.int (nI w))) 5 (.int (nI (i + 1))), zm_mk (zm_up ν 238 w (nI s)), ⟨N1, 29, fun F m hF => ?_⟩, by omega, ?_, ?_, ?_, ?_, ?_, ?_, zi_get_set_eq, _, rfl, us2, hbs⟩
    · simp (maxDischargeDepth := 9) [zg_0, zg_aload_n, zg_baload, zg_bastore, zg_bipush, zg_getfield, zg_goto, zg_iadd, zg_iaload, zg_iastore, zg_iconst, zg_ifCond, zg_if_icmp, zg_iinc, zg_iload, zg_iload_n, zg_imul, zg_invokestatic, zg_invokevirtual, zg_ireturn, zg_istore, zg_istore_n, zf_X6_bring, zi_ld, zi_lda, zi_cmp, zi_retOk, zi_isI, zi_f3, zi_cr, zi_ci, zi_cn, zi_get_ne, zi_nl_i, zi_nl_r, zi_get_set_eq, nl, g0, g1, g2, g3, g4, g5, zM_g, zm_iald (k := 0) zM_A249 ia, ca, k1, c1, h10, mk, nI_add, zm_iald (k := 0) zM_A248 ij, cj, k2i, zm_iald (k := 0) zM_A238 iw, cw, e8, cM, zq_Mod_leave, E1 F (by omega), zm_iast zM_A238 iw, nI_1]
    · simp (maxDischargeDepth := 9) [zi_get_ne, zi_nl_i, zi_nl_r, zi_get_set_eq, nl]
    · simp (maxDischargeDepth := 9) [zi_get_ne, zi_nl_i, zi_nl_r, zi_get_set_eq, nl, g0]
    · simp (maxDischargeDepth := 9) [zi_get_ne, zi_nl_i, zi_nl_r, zi_get_set_eq, nl, g1]
    · simp (maxDischargeDepth := 9) [zi_get_ne, zi_nl_i, zi_nl_r, zi_get_set_eq, nl, g2]
    · simp (maxDischargeDepth := 9) [zi_get_ne, zi_nl_i, zi_nl_r, zi_get_set_eq, nl, g3]
    · simp (maxDischargeDepth := 9) [zi_get_ne, zi_nl_i, zi_nl_r, zi_get_set_eq, nl, g4]
  · rintro L _ ⟨-, nl, g0, g1, g2, g3, g4, g5, ξ, rfl, hq⟩
    obtain ⟨us1, hq⟩ := hq
    rw [List.take_length] at hq
    obtain ⟨k1, k2⟩ := hcell ξ us1 _ hq
    have c1 : nI tb.length ≤ nI tb.length := Int32.le_refl _
    refine ⟨L, zm_mk ξ, ⟨0, 6, fun F m hF => ?_⟩, nl, g0, g1, g2, g3, ξ, us1, rfl, hq⟩
    simp (maxDischargeDepth := 9) [zg_0, zg_aload_n, zg_baload, zg_bastore, zg_bipush, zg_getfield, zg_goto, zg_iadd, zg_iaload, zg_iastore, zg_iconst, zg_ifCond, zg_if_icmp, zg_iinc, zg_iload, zg_iload_n, zg_imul, zg_invokestatic, zg_invokevirtual, zg_ireturn, zg_istore, zg_istore_n, zf_X6_bring, zi_ld, zi_lda, zi_cmp, zi_retOk, zi_isI, zi_f3, zi_cr, zi_ci, zi_cn, zi_get_ne, zi_nl_i, zi_nl_r, zi_get_set_eq, nl, g0, g1, g2, g3, g4, g5, zM_g, zm_iald (k := 0) zM_A249 ia, ca, k1, c1]
set_option maxRecDepth 100000 in
theorem zv_brO (D : Nat) (hs : s < 3) (hI : ∀ q, q < 3 → ∃ ab, zu_I μ q (us q) ab) (hnd : ∀ q, q < 3 → zu_nd μ q (us q)) (hK : zu_I μ (3 + s) uk abk) (hKd : zu_nd μ (3 + s) uk) (hl : zu_lv μ (zy_lvs uk)) (hlv : ∀ n ∈ zy_lvs uk, ∀ w ∈ zu_tb μ (3 + s) n, zv_lv μ us w) (L0 : zi_Lc) (nl0 : zi_nl L0 = true) (a0 : zi_get L0 0 = some (.ref 232)) (a1 : zi_get L0 1 = some (.int (nI s))) (a2 : zi_get L0 2 = some (.int (nI 0))) (a3 : zi_get L0 3 = some (.int (nI 0))) :
    ∃ L' h', ze_S (D + 4) 7 (some .int) zc_X6_bring 11 L0 [] (zm_mk μ) 96 L' [] h' ∧ (zi_nl L' = true ∧ zi_get L' 0 = some (.ref 232) ∧ zi_get L' 1 = some (.int (nI s)) ∧ zi_get L' 2 = some (.int (nI 0)) ∧ ∃ ν us1, zm_mk ν = h' ∧ zv_bs μ s us ν us1 ((zy_lvs uk).flatMap (zu_tb μ (3 + s)))) := by
  obtain ⟨hndl, h24, hlen⟩ := zu_lvs_nodup hK
  have e3 : (3 : Int32) + nI s = nI (3 + s) := by rw [show (3 : Int32) = nI 3 by decide, nI_add]
  have hcell : ∀ ν us1 W, zv_bs μ s us ν us1 W → ν 231 30 = nI (zy_lvs uk).length ∧ ∀ j, j < (zy_lvs uk).length → ν 259 j = nI ((zy_lvs uk).getD j 0) := fun ν us1 W h =>
    ⟨(h.2.2 _ _ (by decide) (fun q hq => zu_in_not (by omega))).trans hl.1, fun j hj => (h.2.2 _ _ (by decide) (fun q hq => zu_in_not (by omega))).trans (hl.2 j hj)⟩
  have hbs0 : zv_bs μ s us μ us [] := ⟨fun q hq => by
    obtain ⟨ab, h⟩ := hI q hq
    exact zu_X_congr (zu_X_0 h) (zu_I_or h) (fun _ _ _ _ => rfl), fun _ _ => rfl, fun _ _ _ _ => rfl⟩
  refine ze_loopS (Q := fun i L hp => i ≤ (zy_lvs uk).length ∧ zi_nl L = true ∧ zi_get L 0 = some (.ref 232) ∧ zi_get L 1 = some (.int (nI s)) ∧ zi_get L 2 = some (.int (nI 0)) ∧ zi_get L 3 = some (.int (nI i)) ∧ ∃ ξ : zm_M, zm_mk ξ = hp ∧ (∃ us1, zv_bs μ s us ξ us1 (((zy_lvs uk).take i).flatMap (zu_tb μ (3 + s))))) (R := fun L' h' => zi_nl L' = true ∧ zi_get L' 0 = some (.ref 232) ∧ zi_get L' 1 = some (.int (nI s)) ∧ zi_get L' 2 = some (.int (nI 0)) ∧ ∃ ν us1, zm_mk ν = h' ∧ zv_bs μ s us ν us1 ((zy_lvs uk).flatMap (zu_tb μ (3 + s)))) (zy_lvs uk).length ?_ ?_ (zy_lvs uk).length 0 _ _ (by omega) ⟨by omega, nl0, a0, a1, a2, a3, μ, rfl, us, hbs0⟩
  · rintro i L _ hi ⟨-, nl, g0, g1, g2, g3, ξ, rfl, hq⟩
    obtain ⟨us1, hq⟩ := hq
    obtain ⟨k1, k2⟩ := hcell ξ us1 _ hq
    have k2i := k2 i hi
    have c1 : ¬ nI (zy_lvs uk).length ≤ nI i := nI_ge hi (by omega)
    have ii : zi_in (nI i) 24 = true := zm_in (by omega) (by decide)
    have ci : (nI i).toNatClampNeg = i := nI_clamp (by omega)
    have hmem : (zy_lvs uk).getD i 0 ∈ zy_lvs uk := zl_mem hi
    have htk := zl_flat_take (f := zu_tb μ (3 + s)) hi
    have hm24 := h24 _ hmem
    obtain ⟨t1, t2, t3⟩ := zu_I_tb hK hmem
    have hfresh : ∀ w ∈ zu_tb μ (3 + s) ((zy_lvs uk).getD i 0), w ∉ ((zy_lvs uk).take i).flatMap (zu_tb μ (3 + s)) := fun w hw z => by
      obtain ⟨n, hn, hwn⟩ := List.mem_flatMap.mp z
      have e := hKd.2 n (List.mem_of_mem_take hn) _ hmem w hwn hw
      obtain ⟨j, hj, ej⟩ := zl_mem_getD hn
      rw [List.length_take] at hj
      have e' : (zy_lvs uk).getD j 0 = (zy_lvs uk).getD i 0 := by
        rw [← e, ← ej]
        conv => lhs; rw [← List.take_append_drop i (zy_lvs uk)]
        exact zl_getD_l (by rw [List.length_take]; exact hj)
      have := zl_nd_inj _ hndl j i (by omega) hi e'
      omega
    have hd1 := hKd.1 _ hmem
    have hlv1 := hlv _ hmem
    generalize (zy_lvs uk).getD i 0 = m at k2i hmem htk hm24 t1 t2 t3 hfresh hd1 hlv1
    obtain ⟨N1, E1⟩ := ze_spot (h := zm_mk ξ) (D + 3) (t := 3 + s) (n := m) (by omega)
    obtain ⟨L', h', S1, nl', b0, b1, b2, b3, ν, us2, rfl, hbs⟩ := zv_brI (μ := μ) (i0 := i) D hs hI hnd hm24 t1 hd1 (fun w hw => ⟨hlv1 w hw, hfresh w hw⟩) hq (zi_set (zi_set L 4 (.int (nI (24 * (3 + s) + m)))) 5 (.int (nI 0))) (by simp (maxDischargeDepth := 9) [zi_get_ne, zi_nl_i, zi_nl_r, zi_get_set_eq, nl]) (by simp (maxDischargeDepth := 9) [zi_get_ne, zi_nl_i, zi_nl_r, zi_get_set_eq, nl, g0]) (by simp (maxDischargeDepth := 9) [zi_get_ne, zi_nl_i, zi_nl_r, zi_get_set_eq, nl, g1]) (by simp (maxDischargeDepth := 9) [zi_get_ne, zi_nl_i, zi_nl_r, zi_get_set_eq, nl, g2]) (by simp (maxDischargeDepth := 9) [zi_get_ne, zi_nl_i, zi_nl_r, zi_get_set_eq, nl, g3]) (by simp (maxDischargeDepth := 9) [zi_get_ne, zi_nl_i, zi_nl_r, zi_get_set_eq, nl]) zi_get_set_eq
    rw [← htk] at hbs
    refine ⟨zi_set L' 3 (.int (nI (i + 1))), zm_mk ν, ze_S.trans ⟨N1, 15, fun F m hF => ?_⟩ (S1.trans ⟨0, 2, fun F m hF => ?_⟩), by omega, ?_, ?_, ?_, ?_, zi_get_set_eq, ν, rfl, us2, hbs⟩
    · simp (maxDischargeDepth := 9) [zg_0, zg_aload_n, zg_baload, zg_bastore, zg_bipush, zg_getfield, zg_goto, zg_iadd, zg_iaload, zg_iastore, zg_iconst, zg_ifCond, zg_if_icmp, zg_iinc, zg_iload, zg_iload_n, zg_imul, zg_invokestatic, zg_invokevirtual, zg_ireturn, zg_istore, zg_istore_n, zf_X6_bring, zi_ld, zi_lda, zi_cmp, zi_retOk, zi_isI, zi_f3, zi_cr, zi_ci, zi_cn, zi_get_ne, zi_nl_i, zi_nl_r, zi_get_set_eq, nl, g0, g1, g2, g3, zM_g, k1, c1, e3, zm_iald (k := 0) zM_A259 ii, ci, k2i, zq_Mod_spot, E1 F (by omega), nI_0]
    · have nl := nl'
      simp (maxDischargeDepth := 9) [zg_0, zg_aload_n, zg_baload, zg_bastore, zg_bipush, zg_getfield, zg_goto, zg_iadd, zg_iaload, zg_iastore, zg_iconst, zg_ifCond, zg_if_icmp, zg_iinc, zg_iload, zg_iload_n, zg_imul, zg_invokestatic, zg_invokevirtual, zg_ireturn, zg_istore, zg_istore_n, zf_X6_bring, zi_ld, zi_lda, zi_cmp, zi_retOk, zi_isI, zi_f3, zi_cr, zi_ci, zi_cn, zi_get_ne, zi_nl_i, zi_nl_r, zi_get_set_eq, nl, b0, b1, b2, b3, nI_1]
    · have nl := nl'
      simp (maxDischargeDepth := 9) [zi_get_ne, zi_nl_i, zi_nl_r, zi_get_set_eq, nl]
    · have nl := nl'
      simp (maxDischargeDepth := 9) [zi_get_ne, zi_nl_i, zi_nl_r, zi_get_set_eq, nl, b0]
    · have nl := nl'
      simp (maxDischargeDepth := 9) [zi_get_ne, zi_nl_i, zi_nl_r, zi_get_set_eq, nl, b1]
    · have nl := nl'
      simp (maxDischargeDepth := 9) [zi_get_ne, zi_nl_i, zi_nl_r, zi_get_set_eq, nl, b2]
  · rintro L _ ⟨-, nl, g0, g1, g2, g3, ξ, rfl, hq⟩
    obtain ⟨us1, hq⟩ := hq
    rw [List.take_length] at hq
    obtain ⟨k1, k2⟩ := hcell ξ us1 _ hq
    have c1 : nI (zy_lvs uk).length ≤ nI (zy_lvs uk).length := Int32.le_refl _
    refine ⟨L, zm_mk ξ, ⟨0, 4, fun F m hF => ?_⟩, nl, g0, g1, g2, ξ, us1, rfl, hq⟩
    simp (maxDischargeDepth := 9) [zg_0, zg_aload_n, zg_baload, zg_bastore, zg_bipush, zg_getfield, zg_goto, zg_iadd, zg_iaload, zg_iastore, zg_iconst, zg_ifCond, zg_if_icmp, zg_iinc, zg_iload, zg_iload_n, zg_imul, zg_invokestatic, zg_invokevirtual, zg_ireturn, zg_istore, zg_istore_n, zf_X6_bring, zi_ld, zi_lda, zi_cmp, zi_retOk, zi_isI, zi_f3, zi_cr, zi_ci, zi_cn, zi_get_ne, zi_nl_i, zi_nl_r, zi_get_set_eq, nl, g0, g1, g2, g3, zM_g, k1, c1]
end ZVY2
