/-! Tree.nextShown, pure and run -/
/-- the tab behind the one that goes, or else the last one -/
def zl_ns (p : Nat → Bool) (g : Nat) : List Nat → Int32 → Bool → Int32
  | [], nx, _ => nx
  | x :: l, nx, b => if x = g then zl_ns p g l nx true else if p x then (if b then nI x else zl_ns p g l (nI x) b) else zl_ns p g l nx b
theorem zl_drop {l : List Nat} {i : Nat} (h : i < l.length) : l.drop i = l.getD i 0 :: l.drop (i + 1) := by
  rw [List.drop_eq_getElem_cons h, List.getD_eq_getElem?_getD, List.getElem?_eq_getElem h]
  rfl
theorem zl_ns_filter (p : Nat → Bool) (g : Nat) (hg : p g = true) : ∀ (l : List Nat) (nx : Int32) (b : Bool), zl_ns p g l nx b = zl_ns (fun _ => true) g (l.filter p) nx b := by
  intro l
  induction l with
  | nil => intro nx b; rfl
  | cons x l ih =>
    intro nx b
    by_cases e : x = g
    · subst e
      rw [List.filter_cons, if_pos hg]
      unfold zl_ns
      rw [if_pos rfl, if_pos rfl]
      exact ih nx true
    · rw [List.filter_cons]
      by_cases c : p x = true
      · rw [if_pos c]
        show (if x = g then _ else if p x = true then (if b = true then nI x else zl_ns p g l (nI x) b) else _) = if x = g then _ else if true = true then (if b = true then nI x else zl_ns (fun _ => true) g (l.filter p) (nI x) b) else _
        rw [if_neg e, if_neg e, if_pos c, if_pos rfl, ih]
      · rw [if_neg c]
        show (if x = g then _ else if p x = true then _ else zl_ns p g l nx b) = _
        rw [if_neg e, if_neg c]
        exact ih nx b
/-- what is shown when the tab g of the tabs F goes -/
def zl_nx (F : List Nat) (g : Nat) : Int32 := if F.erase g = [] then -1 else nI ((F.erase g).getD (min (F.idxOf g) ((F.erase g).length - 1)) 0)
theorem zl_ns_behind (g : Nat) : ∀ (l : List Nat) (nx : Int32), g ∉ l → zl_ns (fun _ => true) g l nx true = if l = [] then nx else nI (l.getD 0 0) := by
  intro l nx h
  cases l with
  | nil => rfl
  | cons x l =>
    show (if x = g then _ else if true = true then (if true = true then nI x else _) else _) = if x :: l = [] then nx else nI x
    rw [if_neg (fun (e : x = g) => h (e ▸ List.mem_cons_self)), if_pos rfl, if_pos rfl, if_neg (by simp)]
theorem zl_ns_eq (g : Nat) : ∀ (F : List Nat) (nx : Int32), F.Nodup → g ∈ F → zl_ns (fun _ => true) g F nx false = if F.erase g = [] then nx else nI ((F.erase g).getD (min (F.idxOf g) ((F.erase g).length - 1)) 0) := by
  intro F
  induction F with
  | nil => intro nx _ h; cases h
  | cons x l ih =>
    intro nx hd h
    obtain ⟨h1, h2⟩ := List.nodup_cons.mp hd
    by_cases e : x = g
    · subst e
      show (if x = x then zl_ns (fun _ => true) x l nx true else _) = _
      rw [if_pos rfl, zl_ns_behind x l nx h1, List.erase_cons_head, List.idxOf_cons_self]
      by_cases c : l = []
      · rw [if_pos c, if_pos c]
      · rw [if_neg c, if_neg c, Nat.zero_min]
    · have hl : g ∈ l := by
        rcases List.mem_cons.mp h with h | h
        · exact absurd h.symm e
        · exact h
      show (if x = g then _ else if true = true then (if false = true then nI x else zl_ns (fun _ => true) g l (nI x) false) else _) = _
      rw [if_neg e, if_pos rfl, if_neg (by decide), ih (nI x) h2 hl]
      have hxg : (x == g) = false := by simpa using e
      have e1 : (x :: l).erase g = x :: l.erase g := by rw [List.erase_cons, hxg]; rfl
      have e2 : (x :: l).idxOf g = l.idxOf g + 1 := by rw [List.idxOf_cons, hxg]; rfl
      rw [e1, e2, if_neg (show ¬ (x :: l.erase g = []) by simp)]
      by_cases c : l.erase g = []
      · rw [if_pos c, c]; rfl
      · rw [if_neg c]
        have hp : 0 < (l.erase g).length := List.length_pos_iff.mpr c
        have : min (l.idxOf g + 1) ((x :: l.erase g).length - 1) = min (l.idxOf g) ((l.erase g).length - 1) + 1 := by
          rw [List.length_cons]; omega
        rw [this]
        rfl
section ZNS
variable {T : Nat} {μ : zm_M} {R : List Nat}
set_option maxRecDepth 100000 in
theorem ze_Tree_nextShown (D : Nat) (h : zt_at T) (hR : zr_L μ (T + 1) R) (hb : ∀ w ∈ R, w < 10) {g n : Nat} (hg : g < 10) :
    ze_E (D + 2) A_Tree_nextShown [.ref (T + 1), .int (nI g), .int (nI n)] (zm_mk μ) (some (.int (zl_ns (fun x => decide (μ (T + 3) x = nI n)) g R (-1) false))) (zm_mk μ) := by
  have key : ∃ r h', ze_G (D + 1) 7 (some .int) zc_X3_nextShown 8 [(5, .int (nI 0)), (4, .int 0), (3, .int (-1)), (0, .ref (T + 1)), (1, .int (nI g)), (2, .int (nI n))] [] (zm_mk μ) r h' ∧ (r = some (.int (zl_ns (fun x => decide (μ (T + 3) x = nI n)) g R (-1) false)) ∧ zm_mk μ = h') := by
    have hR10 := hR.1
    refine ze_loop (Q := fun i L hp => i ≤ R.length ∧ zi_nl L = true ∧ zi_get L 0 = some (.ref (T + 1)) ∧ zi_get L 1 = some (.int (nI g)) ∧ zi_get L 2 = some (.int (nI n)) ∧ zi_get L 5 = some (.int (nI i)) ∧ zm_mk μ = hp ∧ ∃ (nx : Int32) (b : Bool), zi_get L 3 = some (.int nx) ∧ zi_get L 4 = some (.int (if b then 1 else 0)) ∧ zl_ns (fun x => decide (μ (T + 3) x = nI n)) g R (-1) false = zl_ns (fun x => decide (μ (T + 3) x = nI n)) g (R.drop i) nx b)
      (R := fun r h' => r = some (.int (zl_ns (fun x => decide (μ (T + 3) x = nI n)) g R (-1) false)) ∧ zm_mk μ = h') R.length ?_ ?_ R.length 0 _ _ (by omega) ⟨by omega, rfl, rfl, rfl, rfl, rfl, rfl, -1, false, rfl, rfl, rfl⟩
    · rintro i L _ hi ⟨-, nl, g0, g1, g2, g5, rfl, nx, b, g3, g4, hq⟩
      have hwm : R.getD i 0 ∈ R := zl_mem hi
      rw [zl_drop hi] at hq
      obtain ⟨N1, h1⟩ := ze_Row_sizeL (μ := μ) D h.2.1 hR
      obtain ⟨N2, h2⟩ := ze_Row_getL (μ := μ) D h.2.1 hR hi
      generalize R.getD i 0 = w at hwm h2 hq
      have hw := hb w hwm
      have c1 : ¬ nI R.length ≤ nI i := nI_ge hi (by omega)
      have i1 : zi_in (nI w) 10 = true := zm_in hw (by decide)
      have e1 : (nI w).toNatClampNeg = w := nI_clamp (by omega)
      have cr := zr_c (μ := μ) h.2.1
      have hq' : zl_ns (fun x => decide (μ (T + 3) x = nI n)) g R (-1) false = if w = g then zl_ns (fun x => decide (μ (T + 3) x = nI n)) g (R.drop (i + 1)) nx true else if decide (μ (T + 3) w = nI n) = true then (if b = true then nI w else zl_ns (fun x => decide (μ (T + 3) x = nI n)) g (R.drop (i + 1)) (nI w) b) else zl_ns (fun x => decide (μ (T + 3) x = nI n)) g (R.drop (i + 1)) nx b := hq
      by_cases c2 : w = g
      · rw [if_pos c2] at hq'
        subst c2
        left
        refine ⟨zi_set (zi_set (zi_set L 6 (.int (nI w))) 4 (.int 1)) 5 (.int (nI (i + 1))), zm_mk μ, ⟨N1 + N2, 18, fun F m hF => ?_⟩, by omega, ?_, ?_, ?_, ?_, zi_get_set_eq, rfl, nx, true, ?_, ?_, hq'⟩
        · simp (maxDischargeDepth := 9) [zg_0, zg_aload_n, zg_getfield, zg_goto, zg_iaload, zg_iconst, zg_ifCond, zg_if_icmp, zg_iinc, zg_iload, zg_iload_n, zg_invokevirtual, zg_ireturn, zg_istore, zg_istore_n, zf_X3_nextShown, zi_ld, zi_lda, zi_cmp, zi_retOk, zi_isI, zi_f3, zi_cr, zi_ci, zi_cn, zi_get_ne, zi_nl_i, zi_nl_r, zi_get_set_eq, nl, g0, g1, g2, g5, zt_g h, zq_Row_size, zq_Row_get, cr, h1 F (by omega), h2 F (by omega), c1, nI_1]
        · simp (maxDischargeDepth := 9) [zi_get_ne, zi_nl_i, zi_nl_r, zi_get_set_eq, nl]
        · simp (maxDischargeDepth := 9) [zi_get_ne, zi_nl_i, zi_nl_r, zi_get_set_eq, nl, g0]
        · simp (maxDischargeDepth := 9) [zi_get_ne, zi_nl_i, zi_nl_r, zi_get_set_eq, nl, g1]
        · simp (maxDischargeDepth := 9) [zi_get_ne, zi_nl_i, zi_nl_r, zi_get_set_eq, nl, g2]
        · simp (maxDischargeDepth := 9) [zi_get_ne, zi_nl_i, zi_nl_r, zi_get_set_eq, nl, g3]
        · simp (maxDischargeDepth := 9) [zi_get_ne, zi_nl_i, zi_nl_r, zi_get_set_eq, nl]
      · rw [if_neg c2] at hq'
        have c2' : ¬ nI w = nI g := fun e => c2 ((nI_eq (by omega) (by omega)).mp e)
        by_cases c3 : μ (T + 3) w = nI n
        · rw [if_pos (by simpa using c3)] at hq'
          cases b with
          | true =>
            rw [if_pos rfl] at hq'
            right
            refine ⟨some (.int (nI w)), zm_mk μ, ⟨N1 + N2, 30, fun F m hF => ?_⟩, by rw [hq'], rfl⟩
            have g4' : zi_get L 4 = some (.int 1) := g4
            simp (maxDischargeDepth := 9) [zg_0, zg_aload_n, zg_getfield, zg_goto, zg_iaload, zg_iconst, zg_ifCond, zg_if_icmp, zg_iinc, zg_iload, zg_iload_n, zg_invokevirtual, zg_ireturn, zg_istore, zg_istore_n, zf_X3_nextShown, zi_ld, zi_lda, zi_cmp, zi_retOk, zi_isI, zi_f3, zi_cr, zi_ci, zi_cn, zi_get_ne, zi_nl_i, zi_nl_r, zi_get_set_eq, nl, g0, g1, g2, g4', g5, zt_g h, zq_Row_size, zq_Row_get, cr, h1 F (by omega), h2 F (by omega), c1, c2', zm_iald (k := 0) h.2.2.1 i1, e1, c3, nI_1]
          | false =>
            rw [if_neg (by decide)] at hq'
            left
            have g4' : zi_get L 4 = some (.int 0) := g4
            refine ⟨zi_set (zi_set (zi_set L 6 (.int (nI w))) 3 (.int (nI w))) 5 (.int (nI (i + 1))), zm_mk μ, ⟨N1 + N2, 25, fun F m hF => ?_⟩, by omega, ?_, ?_, ?_, ?_, zi_get_set_eq, rfl, nI w, false, ?_, ?_, hq'⟩
            · simp (maxDischargeDepth := 9) [zg_0, zg_aload_n, zg_getfield, zg_goto, zg_iaload, zg_iconst, zg_ifCond, zg_if_icmp, zg_iinc, zg_iload, zg_iload_n, zg_invokevirtual, zg_ireturn, zg_istore, zg_istore_n, zf_X3_nextShown, zi_ld, zi_lda, zi_cmp, zi_retOk, zi_isI, zi_f3, zi_cr, zi_ci, zi_cn, zi_get_ne, zi_nl_i, zi_nl_r, zi_get_set_eq, nl, g0, g1, g2, g4', g5, zt_g h, zq_Row_size, zq_Row_get, cr, h1 F (by omega), h2 F (by omega), c1, c2', zm_iald (k := 0) h.2.2.1 i1, e1, c3, nI_1]
            · simp (maxDischargeDepth := 9) [zi_get_ne, zi_nl_i, zi_nl_r, zi_get_set_eq, nl]
            · simp (maxDischargeDepth := 9) [zi_get_ne, zi_nl_i, zi_nl_r, zi_get_set_eq, nl, g0]
            · simp (maxDischargeDepth := 9) [zi_get_ne, zi_nl_i, zi_nl_r, zi_get_set_eq, nl, g1]
            · simp (maxDischargeDepth := 9) [zi_get_ne, zi_nl_i, zi_nl_r, zi_get_set_eq, nl, g2]
            · simp (maxDischargeDepth := 9) [zi_get_ne, zi_nl_i, zi_nl_r, zi_get_set_eq, nl]
            · simp (maxDischargeDepth := 9) [zi_get_ne, zi_nl_i, zi_nl_r, zi_get_set_eq, nl, g4]
        · rw [if_neg (by simpa using c3)] at hq'
          left
          refine ⟨zi_set (zi_set L 6 (.int (nI w))) 5 (.int (nI (i + 1))), zm_mk μ, ⟨N1 + N2, 21, fun F m hF => ?_⟩, by omega, ?_, ?_, ?_, ?_, zi_get_set_eq, rfl, nx, b, ?_, ?_, hq'⟩
          · simp (maxDischargeDepth := 9) [zg_0, zg_aload_n, zg_getfield, zg_goto, zg_iaload, zg_iconst, zg_ifCond, zg_if_icmp, zg_iinc, zg_iload, zg_iload_n, zg_invokevirtual, zg_ireturn, zg_istore, zg_istore_n, zf_X3_nextShown, zi_ld, zi_lda, zi_cmp, zi_retOk, zi_isI, zi_f3, zi_cr, zi_ci, zi_cn, zi_get_ne, zi_nl_i, zi_nl_r, zi_get_set_eq, nl, g0, g1, g2, g5, zt_g h, zq_Row_size, zq_Row_get, cr, h1 F (by omega), h2 F (by omega), c1, c2', zm_iald (k := 0) h.2.2.1 i1, e1, c3, nI_1]
          · simp (maxDischargeDepth := 9) [zi_get_ne, zi_nl_i, zi_nl_r, zi_get_set_eq, nl]
          · simp (maxDischargeDepth := 9) [zi_get_ne, zi_nl_i, zi_nl_r, zi_get_set_eq, nl, g0]
          · simp (maxDischargeDepth := 9) [zi_get_ne, zi_nl_i, zi_nl_r, zi_get_set_eq, nl, g1]
          · simp (maxDischargeDepth := 9) [zi_get_ne, zi_nl_i, zi_nl_r, zi_get_set_eq, nl, g2]
          · simp (maxDischargeDepth := 9) [zi_get_ne, zi_nl_i, zi_nl_r, zi_get_set_eq, nl, g3]
          · simp (maxDischargeDepth := 9) [zi_get_ne, zi_nl_i, zi_nl_r, zi_get_set_eq, nl, g4]
    · rintro L _ ⟨-, nl, g0, g1, g2, g5, rfl, nx, b, g3, g4, hq⟩
      obtain ⟨N1, h1⟩ := ze_Row_sizeL (μ := μ) D h.2.1 hR
      have cr := zr_c (μ := μ) h.2.1
      rw [List.drop_length] at hq
      have hq : zl_ns (fun x => decide (μ (T + 3) x = nI n)) g R (-1) false = nx := hq
      rw [hq]
      refine ⟨some (.int nx), zm_mk μ, ⟨N1, 8, fun F m hF => ?_⟩, rfl, rfl⟩
      simp [zg_0, zg_aload_n, zg_getfield, zg_goto, zg_iaload, zg_iconst, zg_ifCond, zg_if_icmp, zg_iinc, zg_iload, zg_iload_n, zg_invokevirtual, zg_ireturn, zg_istore, zg_istore_n, zf_X3_nextShown, zi_ld, zi_lda, zi_cmp, zi_retOk, zi_isI, zi_f3, zi_cr, zi_ci, zi_cn, g0, g3, g5, zt_g h, zq_Row_size, cr, h1 F (by omega)]
  obtain ⟨r, h', G, rfl, rfl⟩ := key
  refine ze_in [(0, .ref (T + 1)), (1, .int (nI g)), (2, .int (nI n))] zq_Tree_nextShown (Nat.le_of_ble_eq_true rfl) rfl (ze_S.end ⟨0, 6, fun F m hF => ?_⟩ G)
  simp [zg_0, zg_aload_n, zg_getfield, zg_goto, zg_iaload, zg_iconst, zg_ifCond, zg_if_icmp, zg_iinc, zg_iload, zg_iload_n, zg_invokevirtual, zg_ireturn, zg_istore, zg_istore_n, zf_X3_nextShown, zi_ld, zi_lda, zi_cmp, zi_retOk, zi_isI, zi_f3, zi_cr, zi_ci, zi_cn, zi_get, zi_set, nI_0]
end ZNS
