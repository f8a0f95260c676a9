/-! the reference: gone -/
/-- the least screen that is there, but s -/
def zv_lso (μ : zm_M) (s : Nat) : Int32 := zl_fi (fun k => decide (¬ nI k = nI s ∧ 0 < μ 232 k)) (-1) 3 0
/-- what is left when the screen s has gone to o; ξ holds the trial tree -/
def zv_gne (μ ξ ν : zm_M) (s o n : Nat) : Prop :=
  zu_eqT μ s ν (3 + s) ∧ zu_eqT ξ 6 ν o ∧ zu_I ν s .nil (fun _ => -1) ∧ ν 251 s = (if 0 < n then 1 else 0) ∧ (∀ k, k < 10 → ν 252 (10 * s + k) = if zv_ons μ s k = true then 1 else 0) ∧ (∀ k, k < 10 → ν 238 k = if zv_ons μ s k = true then nI o else μ 238 k) ∧ (ν 232 s = 0 ∧ ν 233 s = 0) ∧
  ∀ c d, ¬ (c = 231 ∧ d = 30) → c ≠ 238 → c ≠ 239 → c ≠ 240 → ¬ (253 ≤ c ∧ c ≤ 261) → ¬ (c = 252 ∧ 10 * s ≤ d ∧ d < 10 * s + 10) → ¬ (c = 251 ∧ d = s) → ¬ (c = 232 ∧ d = s) → ¬ (c = 233 ∧ d = s) → ¬ zu_in s c d → ¬ zu_in o c d → ¬ zu_in (3 + s) c d → ¬ zu_in 6 c d → ν c d = μ c d
def zv_gon (μ ν : zm_M) (us : Nat → zy_F) (w : Int32) : Prop :=
  ((¬ ∃ s o, s < 3 ∧ o < 3 ∧ w = nI s ∧ ¬ μ 232 s = 0 ∧ zv_lso μ s = nI o) ∧ ν = μ) ∨
  ∃ s o emp ξ ξ2 n1 W, s < 3 ∧ o < 3 ∧ s ≠ o ∧ w = nI s ∧ ¬ μ 232 s = 0 ∧ 0 < μ 232 o ∧ zv_lso μ s = nI o ∧ (emp = true → us o = .nil) ∧ (emp = false → zy_wf (us o)) ∧ W = (zy_lvs (us s)).flatMap (zu_tb μ s) ∧ zu_frv (zu_cq μ o 6 24 240) ξ ∧ zu_AD ξ 6 (us o) emp W ξ2 n1 ∧
    ((zv_gd (zv_grm μ s o) (zu_fit ξ2 6 (zy_ad emp (us o) W n1) (μ 232 o) (μ 233 o)) 10 = false ∧ ν = ξ2) ∨
     (zv_gd (zv_grm μ s o) (zu_fit ξ2 6 (zy_ad emp (us o) W n1) (μ 232 o) (μ 233 o)) 10 = true ∧ zv_gne μ ξ2 ν s o (W.length + zl_ct (fun k => zv_on μ k (nI s)) 10)))
theorem zl_flat_nodup {f : Nat → List Nat} : ∀ (l : List Nat), l.Nodup → (∀ n ∈ l, (f n).Nodup) → (∀ n ∈ l, ∀ m ∈ l, ∀ w, w ∈ f n → w ∈ f m → n = m) → (l.flatMap f).Nodup
  | [], _, _, _ => List.nodup_nil
  | a :: l, hd, h1, h2 => by
    rw [List.flatMap_cons]
    obtain ⟨ha, hd⟩ := List.nodup_cons.mp hd
    refine List.nodup_append.mpr ⟨h1 a (List.mem_cons_self ..), zl_flat_nodup l hd (fun n hn => h1 n (List.mem_cons_of_mem _ hn)) (fun n hn m hm => h2 n (List.mem_cons_of_mem _ hn) m (List.mem_cons_of_mem _ hm)), fun x hx y hy e => ?_⟩
    subst e
    obtain ⟨n, hn, hxn⟩ := List.mem_flatMap.mp hy
    have := h2 a (List.mem_cons_self ..) n (List.mem_cons_of_mem _ hn) x hx hxn
    exact ha (this ▸ hn)
section ZWK
variable {μ ν : zm_M} {row stk : List Nat} {us : Nat → zy_F}
/-- the windows of a tree, each once -/
theorem zR_W (h : zR μ row stk us) {s : Nat} (hs : s < 3) : ((zy_lvs (us s)).flatMap (zu_tb μ s)).Nodup ∧ ∀ w ∈ (zy_lvs (us s)).flatMap (zu_tb μ s), w < 10 ∧ μ 234 w = 1 ∧ μ 238 w = nI s := by
  obtain ⟨⟨ab, hI⟩, hnd, hw⟩ := h.2.2.2.2.1 s hs
  refine ⟨zl_flat_nodup _ (zu_lvs_nodup hI).1 hnd.1 (fun n hn m hm w => hnd.2 n hn m hm w), fun w hx => ?_⟩
  obtain ⟨n, hn, hxn⟩ := List.mem_flatMap.mp hx
  exact ⟨(zu_I_tb hI hn).2.2 w hxn, hw n hn w hxn⟩
theorem zu_cq_out {f t c d : Nat} (h : ¬ zu_in t c d) : zu_cq μ f t 24 240 c d = μ c d := zu_cq_fr c d h
set_option maxRecDepth 100000 in
theorem zv_gn3 (D : Nat) {s o n : Nat} {ξ2 : zm_M} (hs : s < 3) (ho : o < 3) (hso : s ≠ o) (hkd : ∀ k, k < 10 → μ 234 k = 0 ∨ μ 234 k = 1 ∨ μ 234 k = 2 ∨ μ 234 k = 3 ∨ μ 234 k = 4) (f2 : ∀ c d, ¬ (c = 231 ∧ d = 30) → c ≠ 259 → ¬ zu_in 6 c d → ξ2 c d = μ c d) (hn31 : n < 2 ^ 31) (L2 : zi_Lc) (nl2 : zi_nl L2 = true) (b0' : zi_get L2 0 = some (.ref 232)) (b1 : zi_get L2 1 = some (.int (nI s))) (b2 : zi_get L2 2 = some (.int (nI o))) (b3 : zi_get L2 3 = some (.int (nI n))) (b4 : zi_get L2 4 = some (.int 1)) :
    ∃ ν, ze_G (D + 27) 7 (some .int) zc_X6_gone 174 L2 [] (zm_mk ξ2) (some (.int (nI n))) (zm_mk ν) ∧ zv_gne μ ξ2 ν s o n := by
  have h6 : (Int8.ofInt 6).toInt32 = (6 : Int32) := by decide
  have q6 : nI 6 = (6 : Int32) := by decide
  have is : zi_in (nI s) 3 = true := zm_in hs (by decide)
  have cs : (nI s).toNatClampNeg = s := nI_clamp (by omega)
  obtain ⟨lc2, cM2⟩ := zM_c (μ := ξ2)
  have f23 : ∀ c d, 232 ≤ c → c < 243 → ξ2 c d = μ c d := fun c d r1 r2 => f2 c d (by omega) (by omega) (zu_in_not (Or.inl r2))
  have e3 : (3 : Int32) + nI s = nI (3 + s) := by rw [show (3 : Int32) = nI 3 by decide, nI_add]
  have n10 : ¬ (1 : Int32) = 0 := by decide
  obtain ⟨N5, E5⟩ := ze_McopyTree (μ := ξ2) (D + 25) (f := s) (t := 3 + s) (by omega) (by omega) (by omega)
  have tb := zu_cq_eqT (μ := ξ2) (f := s) (t := 3 + s)
  have fb : zu_fr (3 + s) ξ2 (zu_cq ξ2 s (3 + s) 24 240) := zu_cq_fr
  generalize zu_cq ξ2 s (3 + s) 24 240 = μb at E5 tb fb
  have hv : ∃ v : Int32, (v = 0 ∨ v = 1) ∧ v = (if 0 < n then 1 else 0) ∧ ze_S (D + 27) 7 (some .int) zc_X6_gone 174 L2 [] (zm_mk ξ2) 208 (zi_set L2 5 (.int (nI 0))) [] (zm_mk (zm_up μb 251 s v)) := by
    have nl := nl2
    by_cases cn : 0 < n
    · have cn' : ¬ nI n ≤ 0 := by
        have := nI_ge (a := 0) (b := n) cn hn31
        rw [nI_0] at this
        exact this
      refine ⟨1, Or.inr rfl, by rw [if_pos cn], N5, 18, fun F m hF => ?_⟩
      have o1 : (1 : Int32) = 0 ∨ (1 : Int32) = 1 := Or.inr rfl
      simp (maxDischargeDepth := 9) [zg_0, zg_aload_n, zg_bastore, zg_bipush, zg_getfield, zg_goto, zg_iadd, zg_iaload, zg_iastore, zg_iconst, zg_ifCond, zg_if_icmp, zg_iinc, zg_iload, zg_iload_n, zg_imul, zg_invokestatic, zg_invokevirtual, zg_ireturn, zg_istore, zg_istore_n, zg_ldc, zf_X6_gone, zi_ld, zi_lda, zi_cmp, zi_retOk, zi_isI, zi_f3, zi_cr, zi_ci, zi_cn, zi_get_ne, zi_nl_i, zi_nl_r, zi_get_set_eq, nl, b0', b1, b2, b3, b4, n10, e3, cM2, zM_g, zq_Mod_copyTree, E5 F (by omega), cn', zm_bast zM_A251 is o1, cs, nI_0]
    · have cn' : nI n ≤ 0 := by
        have : n = 0 := by omega
        rw [this]; decide
      refine ⟨0, Or.inl rfl, by rw [if_neg cn], N5, 17, fun F m hF => ?_⟩
      have o1 : (0 : Int32) = 0 ∨ (0 : Int32) = 1 := Or.inl rfl
      simp (maxDischargeDepth := 9) [zg_0, zg_aload_n, zg_bastore, zg_bipush, zg_getfield, zg_goto, zg_iadd, zg_iaload, zg_iastore, zg_iconst, zg_ifCond, zg_if_icmp, zg_iinc, zg_iload, zg_iload_n, zg_imul, zg_invokestatic, zg_invokevirtual, zg_ireturn, zg_istore, zg_istore_n, zg_ldc, zf_X6_gone, zi_ld, zi_lda, zi_cmp, zi_retOk, zi_isI, zi_f3, zi_cr, zi_ci, zi_cn, zi_get_ne, zi_nl_i, zi_nl_r, zi_get_set_eq, nl, b0', b1, b2, b3, b4, n10, e3, cM2, zM_g, zq_Mod_copyTree, E5 F (by omega), cn', zm_bast zM_A251 is o1, cs, nI_0]
  obtain ⟨v, -, ev, S4⟩ := hv
  have fc : ∀ c d, ¬ (c = 251 ∧ d = s) → zm_up μb 251 s v c d = μb c d := fun c d r => zm_up_ne r
  have ec : zm_up μb 251 s v 251 s = v := zm_up_eq
  generalize zm_up μb 251 s v = μc at S4 fc ec
  have kc : ∀ k, μc 234 k = μ 234 k := fun k => (fc _ _ (by omega)).trans ((fb _ _ (zu_in_not (by decide))).trans (f23 _ _ (by decide) (by decide)))
  have kc8 : ∀ k, μc 238 k = μ 238 k := fun k => (fc _ _ (by omega)).trans ((fb _ _ (zu_in_not (by decide))).trans (f23 _ _ (by decide) (by decide)))
  have eons : ∀ k, zv_ons μc s k = zv_ons μ s k := fun k => by
    unfold zv_ons
    rw [kc, kc8]
  obtain ⟨L3, h3, S5, nl3, d0, d1, d2, d3, μd, rfl, gw⟩ := zv_gnC (μ := μc) (n0 := n) (D + 25) hs ho (fun k hk => by rw [kc]; exact hkd k hk) (zi_set L2 5 (.int (nI 0))) (zi_nl_i nl2) (by have nl := nl2; simp (maxDischargeDepth := 9) [zi_get_ne, zi_nl_i, zi_nl_r, zi_get_set_eq, nl, b0']) (by have nl := nl2; simp (maxDischargeDepth := 9) [zi_get_ne, zi_nl_i, zi_nl_r, zi_get_set_eq, nl, b1]) (by have nl := nl2; simp (maxDischargeDepth := 9) [zi_get_ne, zi_nl_i, zi_nl_r, zi_get_set_eq, nl, b2]) (by have nl := nl2; simp (maxDischargeDepth := 9) [zi_get_ne, zi_nl_i, zi_nl_r, zi_get_set_eq, nl, b3]) zi_get_set_eq
  obtain ⟨g1, g2, g3⟩ := gw
  obtain ⟨lcd, cMd⟩ := zM_c (μ := μd)
  obtain ⟨N6, E6⟩ := ze_McopyTree (μ := μd) (D + 25) (f := 6) (t := o) (by decide) (by omega) (by omega)
  rw [q6] at E6
  have te := zu_cq_eqT (μ := μd) (f := 6) (t := o)
  have fe : zu_fr o μd (zu_cq μd 6 o 24 240) := zu_cq_fr
  generalize zu_cq μd 6 o 24 240 = μe at E6 te fe
  obtain ⟨lce, cMe⟩ := zM_c (μ := μe)
  obtain ⟨μf, ⟨N7, E7⟩, hE, ff⟩ := ze_MclearTreeI (μ := μe) (D + 25) (τ := s) (by omega)
  have fz : ∀ c d, ¬ (c = 232 ∧ d = s) → ¬ (c = 233 ∧ d = s) → zm_up (zm_up μf 232 s 0) 233 s 0 c d = μf c d := fun c d r1 r2 => by rw [zm_up_ne r2, zm_up_ne r1]
  have z1 : zm_up (zm_up μf 232 s 0) 233 s 0 232 s = 0 := by rw [zm_up_ne (by omega), zm_up_eq]
  have z2 : zm_up (zm_up μf 232 s 0) 233 s 0 233 s = 0 := zm_up_eq
  have G : ze_G (D + 27) 7 (some .int) zc_X6_gone 365 L3 [] (zm_mk μd) (some (.int (nI n))) (zm_mk (zm_up (zm_up μf 232 s 0) 233 s 0)) := by
    refine ⟨N6 + N7, 19, fun F m hF => ?_⟩
    simp [zg_0, zg_aload_n, zg_bastore, zg_bipush, zg_getfield, zg_goto, zg_iadd, zg_iaload, zg_iastore, zg_iconst, zg_ifCond, zg_if_icmp, zg_iinc, zg_iload, zg_iload_n, zg_imul, zg_invokestatic, zg_invokevirtual, zg_ireturn, zg_istore, zg_istore_n, zg_ldc, zf_X6_gone, zi_ld, zi_lda, zi_cmp, zi_retOk, zi_isI, zi_f3, zi_cr, zi_ci, zi_cn, d0, d1, d2, d3, h6, zM_g, cMd, cMe, zq_Mod_copyTree, zq_Mod_clearTree, E6 F (by omega), E7 F (by omega), zm_iast zM_A232 is, zm_iast zM_A233 is, cs]
  generalize zm_up (zm_up μf 232 s 0) 233 s 0 = μz at fz z1 z2 G
  refine ⟨μz, S4.end (S5.end G), ?_⟩
  -- cells that are in no tree
  have fzin : ∀ τ c d, zu_in τ c d → μz c d = μf c d := fun τ c d r => fz c d (fun z => zu_in_not (Or.inl (by omega)) r) (fun z => zu_in_not (Or.inl (by omega)) r)
  have gin : ∀ τ c d, zu_in τ c d → μd c d = μc c d := fun τ c d r => by
    have hc : 243 ≤ c ∧ c ≤ 250 := by
      refine Decidable.byContradiction fun z => zu_in_not (τ := τ) (c := c) (d := d) (by omega) r
    exact g3 c d (by omega) (by omega) (by omega) (by omega) (by omega) (by omega)
  have eqin : ∀ {A B : zm_M} {τ : Nat}, (∀ c d, zu_in τ c d → B c d = A c d) → zu_eqT A τ B τ := fun {A B τ} hh => by
    refine ⟨hh _ _ (Or.inl ⟨rfl, rfl⟩), fun c n hc hn => hh _ _ (Or.inr (Or.inl ⟨hc, by omega, by omega⟩)), fun n j hn hj => hh _ _ (Or.inr (Or.inr ⟨rfl, by omega, by omega⟩))⟩
  have cin : ∀ τ c d, zu_in τ c d → μc c d = μb c d := fun τ c d r => fc c d (fun z => zu_in_not (Or.inr (by omega)) r)
  have t3s : zu_eqT μ s μz (3 + s) := by
    have t1 : zu_eqT μ s ξ2 s := eqin fun c d r => f2 c d (fun z => zu_in_not (Or.inl (by omega)) r) (fun z => zu_in_not (Or.inr (by omega)) r) (zu_in_ne r (by omega))
    have t2 : zu_eqT μb (3 + s) μc (3 + s) := eqin (cin _)
    have t3 : zu_eqT μc (3 + s) μd (3 + s) := eqin (gin _)
    have t4 := fe.eqT (τ := 3 + s) (by omega)
    have t5 := ff.eqT (τ := 3 + s) (by omega)
    have t6 : zu_eqT μf (3 + s) μz (3 + s) := eqin (fzin _)
    exact t1.trans (tb.trans (t2.trans (t3.trans (t4.trans (t5.trans t6)))))
  have t6o : zu_eqT ξ2 6 μz o := by
    have t1 := fb.eqT (τ := 6) (by omega)
    have t2 : zu_eqT μb 6 μc 6 := eqin (cin _)
    have t3 : zu_eqT μc 6 μd 6 := eqin (gin _)
    have t5 := ff.eqT (τ := o) (by omega)
    have t6 : zu_eqT μf o μz o := eqin (fzin _)
    exact t1.trans (t2.trans (t3.trans (te.trans (t5.trans t6))))
  have tes : zu_I μz s .nil (fun _ => -1) := (eqin (fzin s) : zu_eqT μf s μz s).I hE
  have up : ∀ c d, c < 243 ∨ 250 < c → ¬ (c = 232 ∧ d = s) → ¬ (c = 233 ∧ d = s) → μz c d = μd c d := fun c d r1 r2 r3 => (fz c d r2 r3).trans ((ff c d (zu_in_not r1)).trans (fe c d (zu_in_not r1)))
  refine ⟨t3s, t6o, tes, ?_, fun k hk => ?_, fun k hk => ?_, ⟨z1, z2⟩, fun c d r1 r2 r3 r4 r5 r6 r7 r8 r9 ra rb rc rd => ?_⟩
  · rw [up _ _ (by decide) (by omega) (by omega), g3 _ _ (by decide) (by decide) (by decide) (by decide) (by decide) (by omega), ec, ev]
  · rw [up _ _ (by decide) (by omega) (by omega), g1 k hk, eons]
  · rw [up _ _ (by decide) (by omega) (by omega), g2 k hk, eons, kc8]
    simp only [hk, decide_true, true_and]
  · rw [fz c d r8 r9, ff c d ra, fe c d rb, g3 c d r2 r3 r4 (by omega) (by omega) r6, fc c d r7, fb c d rc]
    exact f2 c d r1 (by omega) rd

set_option maxRecDepth 100000 in
theorem zv_gn0 (D : Nat) {s : Nat} (hs : s < 3) {N1 : Nat} (E1 : ∀ F, N1 ≤ F → zi_run zi_ms F (D + 27) A_Mod_isIn [.int (nI s), .int 0, .int 2] (zm_mk μ) [] = some [([], some (.int 1), zm_mk μ)]) : ∃ L1, ze_S (D + 27) 7 (some .int) zc_X6_gone 0 [(0, .ref 232), (1, .int (nI s))] [] (zm_mk μ) 46 L1 [] (zm_mk μ) ∧ zi_nl L1 = true ∧ zi_get L1 0 = some (.ref 232) ∧ zi_get L1 1 = some (.int (nI s)) ∧ zi_get L1 2 = some (.int (zv_lso μ s)) := by
  have m1 : Int32.ofInt (-1) = -1 := by decide
  have z2 : Int32.ofInt 2 = zv_dn 3 := by decide
  have S0 : ze_S (D + 27) 7 (some .int) zc_X6_gone 0 [(0, .ref 232), (1, .int (nI s))] [] (zm_mk μ) 14 [(2, .int (-1)), (0, .ref 232), (1, .int (nI s))] [] (zm_mk μ) := by
    refine ⟨N1, 7, fun F n hF => ?_⟩
    simp [zg_0, zg_aload_n, zg_bastore, zg_bipush, zg_getfield, zg_goto, zg_iadd, zg_iaload, zg_iastore, zg_iconst, zg_ifCond, zg_if_icmp, zg_iinc, zg_iload, zg_iload_n, zg_imul, zg_invokestatic, zg_invokevirtual, zg_ireturn, zg_istore, zg_istore_n, zg_ldc, zf_X6_gone, zi_ld, zi_lda, zi_cmp, zi_retOk, zi_isI, zi_f3, zi_cr, zi_ci, zi_cn, zi_get, zi_set, zq_Mod_isIn, E1 F (by omega), m1]
  have S1 : ze_S (D + 27) 7 (some .int) zc_X6_gone 14 [(2, .int (-1)), (0, .ref 232), (1, .int (nI s))] [] (zm_mk μ) 16 (zi_set [(2, .int (-1)), (0, .ref 232), (1, .int (nI s))] 3 (.int (zv_dn 3))) [] (zm_mk μ) := by
    rw [← z2]
    refine ⟨0, 2, fun F n hF => ?_⟩
    simp [zg_0, zg_aload_n, zg_bastore, zg_bipush, zg_getfield, zg_goto, zg_iadd, zg_iaload, zg_iastore, zg_iconst, zg_ifCond, zg_if_icmp, zg_iinc, zg_iload, zg_iload_n, zg_imul, zg_invokestatic, zg_invokevirtual, zg_ireturn, zg_istore, zg_istore_n, zg_ldc, zf_X6_gone, zi_ld, zi_lda, zi_cmp, zi_retOk, zi_isI, zi_f3, zi_cr, zi_ci, zi_cn]
  obtain ⟨L1, S2, nl1, a0, a1, a2⟩ := zv_gnA (μ := μ) (D + 27) hs 3 (by decide) (zi_set [(2, .int (-1)), (0, .ref 232), (1, .int (nI s))] 3 (.int (zv_dn 3))) (-1) (zi_nl_i rfl) ((zi_get_ne rfl (by decide)).trans rfl) ((zi_get_ne rfl (by decide)).trans rfl) ((zi_get_ne rfl (by decide)).trans rfl) zi_get_set_eq
  rw [zv_lsc_fi hs] at a2
  exact ⟨L1, S0.trans (S1.trans S2), nl1, a0, a1, a2⟩
set_option maxRecDepth 100000 in
theorem zv_gn2 (D : Nat) {s o N2 N3 N4 : Nat} {μa ξ2 : zm_M} {W : List Nat} {b0 : Bool} (hs : s < 3) (ho : o < 3) (c0 : ¬ μ 232 s = 0) (L1 : zi_Lc) (nl1 : zi_nl L1 = true) (a0 : zi_get L1 0 = some (.ref 232)) (a1 : zi_get L1 1 = some (.int (nI s))) (a2 : zi_get L1 2 = some (.int (nI o))) (E2 : ∀ F, N2 ≤ F → zi_run zi_ms F (D + 25 + 2) A_Mod_copyTree [.ref 232, .int (nI o), .int 6] (zm_mk μ) [] = some [([], none, zm_mk μa)]) (E3 : ∀ F, N3 ≤ F → zi_run zi_ms F (D + 27) A_Mod_moveTabs [.ref 232, .int (nI s), .int 6] (zm_mk μa) [] = some [([], some (.int (nI W.length)), zm_mk ξ2)]) (x1 : ξ2 232 o = μ 232 o) (x2 : ξ2 233 o = μ 233 o) (E4 : ∀ F, N4 ≤ F → zi_run zi_ms F (D + 1 + 26) A_Mod_fits [.ref 232, .int 6, .int (μ 232 o), .int (μ 233 o)] (zm_mk ξ2) [] = some [([], some (.int (if b0 = true then 1 else 0)), zm_mk ξ2)]) :
    ze_S (D + 27) 7 (some .int) zc_X6_gone 46 L1 [] (zm_mk μ) 100 (zi_set (zi_set (zi_set L1 3 (.int (nI W.length))) 4 (.int (if b0 = true then 1 else 0))) 5 (.int (nI 0))) [] (zm_mk ξ2) := by
  have h6 : (Int8.ofInt 6).toInt32 = (6 : Int32) := by decide
  have is : zi_in (nI s) 3 = true := zm_in hs (by decide)
  have cs : (nI s).toNatClampNeg = s := nI_clamp (by omega)
  have io : zi_in (nI o) 3 = true := zm_in ho (by decide)
  have co : (nI o).toNatClampNeg = o := nI_clamp (by omega)
  have m1 : (0 : Int32) ≤ nI o := Int32.not_lt.mp (nI_pos (by omega))
  obtain ⟨lc, cM⟩ := zM_c (μ := μ)
  obtain ⟨lca, cMa⟩ := zM_c (μ := μa)
  obtain ⟨lc2, cM2⟩ := zM_c (μ := ξ2)
  have nl := nl1
  generalize (if b0 = true then (1 : Int32) else 0) = bb at E4 ⊢
  refine ⟨N2 + N3 + N4, 30, fun F m hF => ?_⟩
  simp (maxDischargeDepth := 9) [zg_0, zg_aload_n, zg_bastore, zg_bipush, zg_getfield, zg_goto, zg_iadd, zg_iaload, zg_iastore, zg_iconst, zg_ifCond, zg_if_icmp, zg_iinc, zg_iload, zg_iload_n, zg_imul, zg_invokestatic, zg_invokevirtual, zg_ireturn, zg_istore, zg_istore_n, zg_ldc, zf_X6_gone, zi_ld, zi_lda, zi_cmp, zi_retOk, zi_isI, zi_f3, zi_cr, zi_ci, zi_cn, zi_get_ne, zi_nl_i, zi_nl_r, zi_get_set_eq, nl, a0, a1, a2, zM_g, zm_iald (k := 0) zM_A232 is, zm_iald (k := 0) zM_A232 io, zm_iald (k := 0) zM_A233 io, cs, co, c0, m1, h6, cM, cMa, cM2, zq_Mod_copyTree, zq_Mod_moveTabs, zq_Mod_fits, E2 F (by omega), E3 F (by omega), x1, x2, E4 F (by omega), nI_0]
end ZWK
