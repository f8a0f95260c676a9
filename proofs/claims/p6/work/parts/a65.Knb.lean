/-! side by side: areas and neighbours -/
theorem nI_sub {a b : Nat} (h : b ≤ a) : nI a - nI b = nI (a - b) := by
  have : nI a = nI (a - b) + nI b := by rw [nI_add, Nat.sub_add_cancel h]
  rw [this, Int32.add_sub_cancel]
theorem zy_fp_N {sh : Int32} {W A B : Nat} (hW : W ≤ 400) (h : A + B ≤ W) : ∃ F, zy_fp (nI W) sh (nI A) (nI B) = nI F ∧ A ≤ F ∧ F + B ≤ W := by
  unfold zy_fp zi_bt
  rw [nI_sub (by omega)]
  generalize nI W * sh / 100 = x
  unfold zi_mn zi_mx
  by_cases c1 : nI (W - B) < x
  · rw [if_pos c1]
    by_cases c2 : nI A < nI (W - B)
    · rw [if_pos c2]
      exact ⟨W - B, rfl, by omega, by omega⟩
    · rw [if_neg c2]
      exact ⟨A, rfl, Nat.le_refl _, h⟩
  · rw [if_neg c1]
    by_cases c2 : nI A < x
    · rw [if_pos c2]
      have h0 : ¬ x < 0 := fun z => nI_pos (n := A) (by omega) (Int32.lt_trans c2 z)
      obtain ⟨j, hj, rfl⟩ := nI_of h0
      have e1 := (nI_ltI (a := A) (b := j) (by omega) hj).mp c2
      have e2 : j ≤ W - B := (nI_leI hj (by omega)).mp (Int32.not_lt.mp c1)
      exact ⟨j, rfl, by omega, by omega⟩
    · rw [if_neg c2]
      exact ⟨A, rfl, Nat.le_refl _, h⟩
theorem zy_laid_N {P : Nat → Int32 → Int32 → Int32 → Int32 → Prop} {fm sh lf0 lf1 : Nat → Int32} {g0 g1 : Nat → Nat} : ∀ t, zy_wf t → (zy_lvs t).length ≤ 100 → (∀ n ∈ zy_lvs t, lf0 n = nI (g0 n) ∧ g0 n ≤ 200) → (∀ n ∈ zy_lvs t, lf1 n = nI (g1 n) ∧ g1 n ≤ 200) → (∀ n ∈ zy_cts t, fm n = 0 ∨ fm n = 1) → ∀ x y W V, W ≤ 400 → V ≤ 400 → zy_lsN 0 fm g0 t ≤ W → zy_lsN 1 fm g1 t ≤ V → zy_laid P fm sh (zy_ls 0 fm lf0) (zy_ls 1 fm lf1) t x y (nI W) (nI V) → ∀ n ∈ zy_lvs t, ∃ x y W V, P n x y (nI W) (nI V) ∧ (g0 n ≤ W ∧ W ≤ 400) ∧ g1 n ≤ V ∧ V ≤ 400 := by
  apply zy_ind
  · intro n _ h0 h1 _ x y W V hW hV l0 l1 h m hm
    have : m = n := List.mem_singleton.mp hm
    subst this
    exact ⟨x, y, W, V, h, ⟨l0, hW⟩, l1, hV⟩
  · intro n a b wa wb iha ihb hl h0 h1 hc x y W V hW hV l0 l1 h m hm
    have hl' : (zy_lvs a ++ zy_lvs b).length ≤ 100 := hl
    rw [List.length_append] at hl'
    have ha0 : ∀ n ∈ zy_lvs a, lf0 n = nI (g0 n) ∧ g0 n ≤ 200 := fun n hn => h0 n (List.mem_append_left _ hn)
    have hb0 : ∀ n ∈ zy_lvs b, lf0 n = nI (g0 n) ∧ g0 n ≤ 200 := fun n hn => h0 n (List.mem_append_right _ hn)
    have ha1 : ∀ n ∈ zy_lvs a, lf1 n = nI (g1 n) ∧ g1 n ≤ 200 := fun n hn => h1 n (List.mem_append_left _ hn)
    have hb1 : ∀ n ∈ zy_lvs b, lf1 n = nI (g1 n) ∧ g1 n ≤ 200 := fun n hn => h1 n (List.mem_append_right _ hn)
    have hca : ∀ n ∈ zy_cts a, fm n = 0 ∨ fm n = 1 := fun n hn => hc n (List.mem_cons_of_mem _ (List.mem_append_left _ hn))
    have hcb : ∀ n ∈ zy_cts b, fm n = 0 ∨ fm n = 1 := fun n hn => hc n (List.mem_cons_of_mem _ (List.mem_append_right _ hn))
    have ea0 := (zy_ls_N (a := 0) (fm := fm) a wa (by omega) ha0).1
    have eb0 := (zy_ls_N (a := 0) (fm := fm) b wb (by omega) hb0).1
    have ea1 := (zy_ls_N (a := 1) (fm := fm) a wa (by omega) ha1).1
    have eb1 := (zy_ls_N (a := 1) (fm := fm) b wb (by omega) hb1).1
    have l0' : (if fm n = nI 0 then zy_lsN 0 fm g0 a + zy_lsN 0 fm g0 b else max (zy_lsN 0 fm g0 a) (zy_lsN 0 fm g0 b)) ≤ W := l0
    have l1' : (if fm n = nI 1 then zy_lsN 1 fm g1 a + zy_lsN 1 fm g1 b else max (zy_lsN 1 fm g1 a) (zy_lsN 1 fm g1 b)) ≤ V := l1
    obtain ⟨-, h⟩ := h
    have hm' : m ∈ zy_lvs a ++ zy_lvs b := hm
    rcases hc n (List.mem_cons_self ..) with e | e
    · have n0 : fm n = nI 0 := by rw [e]; decide
      have n1 : ¬ fm n = nI 1 := by rw [e]; decide
      rw [if_pos n0] at l0'
      rw [if_neg n1] at l1'
      rw [if_pos e, ea0, eb0] at h
      obtain ⟨F, eF, f1, f2⟩ := zy_fp_N (sh := sh n) hW l0'
      rw [eF, nI_sub (by omega)] at h
      rcases List.mem_append.mp hm' with hm | hm
      · exact iha (by omega) ha0 ha1 hca _ _ F V (by omega) hV f1 (by omega) h.1 m hm
      · exact ihb (by omega) hb0 hb1 hcb _ _ (W - F) V (by omega) hV (by omega) (by omega) h.2 m hm
    · have n0 : ¬ fm n = nI 0 := by rw [e]; decide
      have n1 : fm n = nI 1 := by rw [e]; decide
      rw [if_neg n0] at l0'
      rw [if_pos n1] at l1'
      rw [if_neg (by rw [e]; decide), ea1, eb1] at h
      obtain ⟨F, eF, f1, f2⟩ := zy_fp_N (sh := sh n) hV l1'
      rw [eF, nI_sub (by omega)] at h
      rcases List.mem_append.mp hm' with hm | hm
      · exact iha (by omega) ha0 ha1 hca _ _ W F hW (by omega) (by omega) f1 h.1 m hm
      · exact ihb (by omega) hb0 hb1 hcb _ _ W (V - F) hW (by omega) (by omega) (by omega) h.2 m hm
theorem zt_lfN_ge {tl : Nat → Nat} {hm : Nat → Int32} {n : Nat} : ∀ (R : List Nat) (m : Nat), m ≤ R.foldl (fun m w => if hm w = nI n then max m (tl w) else m) m ∧ ∀ w ∈ R, hm w = nI n → tl w ≤ R.foldl (fun m w => if hm w = nI n then max m (tl w) else m) m
  | [], m => ⟨Nat.le_refl _, fun _ h => by cases h⟩
  | a :: R, m => by
    obtain ⟨h1, h2⟩ := zt_lfN_ge R (if hm a = nI n then max m (tl a) else m)
    rw [List.foldl_cons]
    refine ⟨Nat.le_trans ?_ h1, fun w hw e => ?_⟩
    · by_cases c : hm a = nI n
      · rw [if_pos c]; omega
      · rw [if_neg c]; omega
    · rcases List.mem_cons.mp hw with rfl | hw
      · rw [if_pos e] at h1 ⊢
        omega
      · exact h2 w hw e
section ZKD
variable {ξ μ ν : zm_M} {row stkC stk ord : List Nat} {Rs : Nat → List Nat} {ts us : Nat → zy_F} {lo : Nat → Nat} {s k sd : Nat}
/-- the areas of a leaf on both sides -/
def zK_a (ξ ν : zm_M) (s n m : Nat) : Prop := ∃ x y W V, zt_P ξ (zdT s) n x y (nI W) (nI V) ∧ zu_P ν m x y (nI W) (nI V) ∧ (1 ≤ W ∧ W ≤ 400) ∧ 1 ≤ V ∧ V ≤ 400
theorem zK_areas (h : zK ξ μ row stkC stk ord Rs ts us) (hs : s < 3) (hth : ¬ ξ (zdS s) 3 = 0) (hl : zd_laid ξ s (Rs s) (ts s)) (hv : zv_laid μ ν s (us s)) {w : Nat} (hw : w ∈ Rs s) {m : Nat} (hat : zu_at μ s (us s) w m) : ∃ n, n ∈ zy_lvs (ts s) ∧ ξ (zdT s + 3) w = nI n ∧ zs_pl ξ (zdT s) (Rs s) μ s n m ∧ zK_a ξ ν s n m := by
  have hz := zK_sz h hs
  obtain ⟨h1, h4, h0⟩ := h
  have hC := (h1.2.2.2.1 s hs).1
  have hzs := h0.2.2.2.1 s hs
  obtain ⟨n, hn, hwn⟩ := hC.1.2.2.2.1 w hw
  obtain ⟨m', hat', hp⟩ := zs_at hC.1 hzs hw hn hwn
  have em : m = m' := hat'.2.2 m hat.1 hat.2.1
  subst em
  refine ⟨n, hn, hwn, hp, ?_⟩
  obtain ⟨wt, hni⟩ := zt_I_lv hC.1 hn
  have wu : zy_wf (us s) := by
    obtain ⟨ab, hI⟩ := hzs.2
    exact (zu_I_lv hI hat.1).1
  obtain ⟨-, okM, -⟩ := zt_I_wf hC.1 hni
  -- the same areas
  have sim : zy_sim (fun n m => zt_lf (ξ (zdT s + 5)) (ξ (zdT s + 3)) (Rs s) n = zu_lf μ s 0 m ∧ zt_lf (ξ (zdT s + 6)) (ξ (zdT s + 3)) (Rs s) n = zu_lf μ s 1 m) (fun n m => ξ (zdT s + 7) n = zu_fm μ s m ∧ ξ (zdT s + 8) n = μ 247 (24 * s + m)) (ts s) (us s) :=
    zy_sim_mono _ wt _ wu hzs.1 (fun x hx y hy p => ⟨zs_lf (a := 0) hz (by decide) p, zs_lf (a := 1) hz (by decide) p⟩) (fun x hx y hy p => ⟨p.1.symm, p.2.symm⟩)
  have ar := zy_sim_laid _ wt _ wu sim _ _ _ _ (hl wt) (by
    have q := hv wu
    obtain ⟨z1, z2⟩ := (h0.1.2 s hs).2 hth
    rw [z1, z2] at q
    exact q)
  obtain ⟨m', hm', hp', x, y, w1, v1, pa, pb⟩ := zy_sim_l _ wt _ wu (zy_sim_and _ wt _ wu hzs.1 ar) n hn
  have em : m' = m := by
    refine hat.2.2 m' hm' ?_
    rw [hp'.1]
    exact zt_tb_mem.mpr ⟨hw, hwn⟩
  subst em
  -- they are no smaller than 1
  have hsm := zJ_sm h1 hs
  have t0 := zt_sm_tl hsm (a := 0) (by decide)
  have t1 := zt_sm_tl hsm (a := 1) (by decide)
  obtain ⟨⟨b1, b2, b3, b4⟩, hfit⟩ := h1.2.2.2.2.2 s hs hth
  obtain ⟨W0, hW0, eW⟩ := nI_of2 (M := 400) (n := 400) (by decide) (fun z => absurd (Int32.lt_of_le_of_lt b1 z) (by decide)) b2
  obtain ⟨V0, hV0, eV⟩ := nI_of2 (M := 400) (n := 400) (by decide) (fun z => absurd (Int32.lt_of_le_of_lt b3 z) (by decide)) b4
  obtain ⟨f0, f1⟩ := of_decide_eq_true hfit
  obtain ⟨L0, l0⟩ := zt_lsz_N hC.1 hsm (a := 0) (by decide)
  obtain ⟨L1, l1⟩ := zt_lsz_N hC.1 hsm (a := 1) (by decide)
  rw [L0, eW] at f0
  rw [L1, eV] at f1
  have f0 := (nI_leI (by omega) (by omega)).mp f0
  have f1 := (nI_leI (by omega) (by omega)).mp f1
  have q0 : ∀ n ∈ zy_lvs (ts s), zt_lf (ξ (zdT s + 5)) (ξ (zdT s + 3)) (Rs s) n = nI (zt_lfN (zt_tlN ξ (zdT s) 0) (ξ (zdT s + 3)) (Rs s) n) ∧ zt_lfN (zt_tlN ξ (zdT s) 0) (ξ (zdT s + 3)) (Rs s) n ≤ 200 := fun n _ => ⟨zt_lf_N (Rs s) 0 (by decide) t0, zt_lfN_le (Rs s) 0 (by decide) (fun w hw => (t0 w hw).2)⟩
  have q1 : ∀ n ∈ zy_lvs (ts s), zt_lf (ξ (zdT s + 6)) (ξ (zdT s + 3)) (Rs s) n = nI (zt_lfN (zt_tlN ξ (zdT s) 1) (ξ (zdT s + 3)) (Rs s) n) ∧ zt_lfN (zt_tlN ξ (zdT s) 1) (ξ (zdT s + 3)) (Rs s) n ≤ 200 := fun n _ => ⟨zt_lf_N (Rs s) 0 (by decide) t1, zt_lfN_le (Rs s) 0 (by decide) (fun w hw => (t1 w hw).2)⟩
  have hlen : (zy_lvs (ts s)).length ≤ 100 := by
    have := zy_nodup_le 19 (zy_lvs (ts s)) (zt_I_lvn hC.1).1 (zt_I_lvn hC.1).2
    omega
  have hl' := hl wt
  rw [eW, eV] at hl'
  obtain ⟨x2, y2, W, V, pc, ⟨w1', w2'⟩, v1', v2'⟩ := zy_laid_N _ wt hlen q0 q1 (fun c hc => (zy_ok_ct _ wt okM c hc).1) _ _ W0 V0 hW0 hV0 f0 f1 hl' n hn
  obtain ⟨s5, s6⟩ := (h1.2.2.2.1 s hs).2.2 w hw
  obtain ⟨hw10, hwt, -⟩ := ((h1.2.2.2.1 s hs).2.1 w).mp hw
  obtain ⟨-, ⟨z1, z2, z3, z4⟩, -⟩ := h1.2.2.1 w hw10 (decide_eq_true (of_decide_eq_true hwt).1)
  have g0 : 1 ≤ zt_tlN ξ (zdT s) 0 w := by
    have e := (t0 w hw).1
    have hb := (t0 w hw).2
    have e' : ξ (zdT s + 5) w = nI (zt_tlN ξ (zdT s) 0 w) := e
    rw [s5] at e'
    rw [e', show (1 : Int32) = nI 1 by decide] at z1
    exact (nI_leI (by decide) (by omega)).mp z1
  have g1 : 1 ≤ zt_tlN ξ (zdT s) 1 w := by
    have e := (t1 w hw).1
    have hb := (t1 w hw).2
    have e' : ξ (zdT s + 6) w = nI (zt_tlN ξ (zdT s) 1 w) := e
    rw [s6] at e'
    rw [e', show (1 : Int32) = nI 1 by decide] at z3
    exact (nI_leI (by decide) (by omega)).mp z3
  have r0 : 1 ≤ W := Nat.le_trans g0 (Nat.le_trans ((zt_lfN_ge (Rs s) 0).2 w hw hwn) w1')
  have r1 : 1 ≤ V := Nat.le_trans g1 (Nat.le_trans ((zt_lfN_ge (Rs s) 0).2 w hw hwn) v1')
  have ew : w1 = nI W := pa.2.2.1.symm.trans pc.2.2.1
  have ev : v1 = nI V := pa.2.2.2.symm.trans pc.2.2.2
  subst ew; subst ev
  exact ⟨x, y, W, V, pa, pb, ⟨r0, w2'⟩, r1, v2'⟩
end ZKD
