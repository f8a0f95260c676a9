/-! places: what at answers -/
/-- the laid leaf n of the class's tree holds the point -/
def zt_lin (μ : zm_M) (T n : Nat) (x y : Int32) : Prop := (μ (T + 19) n ≤ x ∧ x < μ (T + 19) n + μ (T + 22) n) ∧ μ (T + 20) n ≤ y ∧ y < μ (T + 20) n + μ (T + 23) n
/-- a rectangle of numbers holds the point -/
def zt_hd (P : Nat → Int32 → Int32 → Int32 → Int32 → Prop) (PX PY n : Nat) : Prop := ∃ X Y W V, P n (nI X) (nI Y) (nI W) (nI V) ∧ (X + W ≤ 400 ∧ Y + V ≤ 400) ∧ (X ≤ PX ∧ PX < X + W) ∧ Y ≤ PY ∧ PY < Y + V
/-- the leaves of a laid tree lie apart -/
theorem zy_laid_D {P : Nat → Int32 → Int32 → Int32 → Int32 → Prop} {fm sh lf0 lf1 : Nat → Int32} {g0 g1 : Nat → Nat} {PX PY : Nat} (hP : ∀ n x y w v x' y' w' v', P n x y w v → P n x' y' w' v' → (x = x' ∧ y = y') ∧ w = w' ∧ v = v') : ∀ t, zy_wf t → (zy_lvs t).length ≤ 100 → (∀ n ∈ zy_lvs t, lf0 n = nI (g0 n) ∧ g0 n ≤ 200) → (∀ n ∈ zy_lvs t, lf1 n = nI (g1 n) ∧ g1 n ≤ 200) → (∀ n ∈ zy_cts t, fm n = 0 ∨ fm n = 1) → ∀ X Y W V, X + W ≤ 400 → Y + V ≤ 400 → zy_lsN 0 fm g0 t ≤ W → zy_lsN 1 fm g1 t ≤ V → zy_laid P fm sh (zy_ls 0 fm lf0) (zy_ls 1 fm lf1) t (nI X) (nI Y) (nI W) (nI V) → (∀ n ∈ zy_lvs t, ∃ X Y W V, P n (nI X) (nI Y) (nI W) (nI V) ∧ X + W ≤ 400 ∧ Y + V ≤ 400) ∧ (∀ n ∈ zy_lvs t, zt_hd P PX PY n → (X ≤ PX ∧ PX < X + W) ∧ Y ≤ PY ∧ PY < Y + V) ∧ ∀ n ∈ zy_lvs t, ∀ m ∈ zy_lvs t, zt_hd P PX PY n → zt_hd P PX PY m → n = m := by
  apply zy_ind
  · intro n _ h0 h1 _ X Y W V hW hV l0 l1 h
    refine ⟨fun m hm => ?_, fun m hm q => ?_, fun m hm m' hm' _ _ => (List.mem_singleton.mp hm).trans (List.mem_singleton.mp hm').symm⟩
    · have : m = n := List.mem_singleton.mp hm
      subst this
      exact ⟨X, Y, W, V, h, hW, hV⟩
    · have : m = n := List.mem_singleton.mp hm
      subst this
      obtain ⟨X', Y', W', V', p, ⟨b1, b2⟩, c1, c2⟩ := q
      obtain ⟨⟨e1, e2⟩, e3, e4⟩ := hP _ _ _ _ _ _ _ _ _ h p
      have e1 := (nI_eq (by omega) (by omega)).mp e1
      have e2 := (nI_eq (by omega) (by omega)).mp e2
      have e3 := (nI_eq (by omega) (by omega)).mp e3
      have e4 := (nI_eq (by omega) (by omega)).mp e4
      subst e1; subst e2; subst e3; subst e4
      exact ⟨c1, c2⟩
  · intro n a b wa wb iha ihb hl h0 h1 hc X Y W V hW hV l0 l1 h
    have hl' : (zy_lvs a ++ zy_lvs b).length ≤ 100 := hl
    rw [List.length_append] at hl'
    have ha0 : ∀ n ∈ zy_lvs a, lf0 n = nI (g0 n) ∧ g0 n ≤ 200 := fun n hn => h0 n (List.mem_append_left _ hn)
    have hb0 : ∀ n ∈ zy_lvs b, lf0 n = nI (g0 n) ∧ g0 n ≤ 200 := fun n hn => h0 n (List.mem_append_right _ hn)
    have ha1 : ∀ n ∈ zy_lvs a, lf1 n = nI (g1 n) ∧ g1 n ≤ 200 := fun n hn => h1 n (List.mem_append_left _ hn)
    have hb1 : ∀ n ∈ zy_lvs b, lf1 n = nI (g1 n) ∧ g1 n ≤ 200 := fun n hn => h1 n (List.mem_append_right _ hn)
    have hca : ∀ n ∈ zy_cts a, fm n = 0 ∨ fm n = 1 := fun n hn => hc n (List.mem_cons_of_mem _ (List.mem_append_left _ hn))
    have hcb : ∀ n ∈ zy_cts b, fm n = 0 ∨ fm n = 1 := fun n hn => hc n (List.mem_cons_of_mem _ (List.mem_append_right _ hn))
    have ea0 := (zy_ls_N (a := 0) (fm := fm) a wa (by omega) ha0).1
    have eb0 := (zy_ls_N (a := 0) (fm := fm) b wb (by omega) hb0).1
    have ea1 := (zy_ls_N (a := 1) (fm := fm) a wa (by omega) ha1).1
    have eb1 := (zy_ls_N (a := 1) (fm := fm) b wb (by omega) hb1).1
    have l0' : (if fm n = nI 0 then zy_lsN 0 fm g0 a + zy_lsN 0 fm g0 b else max (zy_lsN 0 fm g0 a) (zy_lsN 0 fm g0 b)) ≤ W := l0
    have l1' : (if fm n = nI 1 then zy_lsN 1 fm g1 a + zy_lsN 1 fm g1 b else max (zy_lsN 1 fm g1 a) (zy_lsN 1 fm g1 b)) ≤ V := l1
    obtain ⟨-, h⟩ := h
    have fin : ∀ {XA YA WA VA XB YB WB VB : Nat}, ((XA = X ∧ YA = Y ∧ ((XA + WA = XB ∧ WA + WB = W ∧ YB = Y ∧ VA = V ∧ VB = V) ∨ (YA + VA = YB ∧ VA + VB = V ∧ XB = X ∧ WA = W ∧ WB = W)))) →
        ((∀ n ∈ zy_lvs a, ∃ X Y W V, P n (nI X) (nI Y) (nI W) (nI V) ∧ X + W ≤ 400 ∧ Y + V ≤ 400) ∧ (∀ n ∈ zy_lvs a, zt_hd P PX PY n → (XA ≤ PX ∧ PX < XA + WA) ∧ YA ≤ PY ∧ PY < YA + VA) ∧ ∀ n ∈ zy_lvs a, ∀ m ∈ zy_lvs a, zt_hd P PX PY n → zt_hd P PX PY m → n = m) →
        ((∀ n ∈ zy_lvs b, ∃ X Y W V, P n (nI X) (nI Y) (nI W) (nI V) ∧ X + W ≤ 400 ∧ Y + V ≤ 400) ∧ (∀ n ∈ zy_lvs b, zt_hd P PX PY n → (XB ≤ PX ∧ PX < XB + WB) ∧ YB ≤ PY ∧ PY < YB + VB) ∧ ∀ n ∈ zy_lvs b, ∀ m ∈ zy_lvs b, zt_hd P PX PY n → zt_hd P PX PY m → n = m) →
        (∀ n ∈ zy_lvs a ++ zy_lvs b, ∃ X Y W V, P n (nI X) (nI Y) (nI W) (nI V) ∧ X + W ≤ 400 ∧ Y + V ≤ 400) ∧ (∀ n ∈ zy_lvs a ++ zy_lvs b, zt_hd P PX PY n → (X ≤ PX ∧ PX < X + W) ∧ Y ≤ PY ∧ PY < Y + V) ∧ ∀ n ∈ zy_lvs a ++ zy_lvs b, ∀ m ∈ zy_lvs a ++ zy_lvs b, zt_hd P PX PY n → zt_hd P PX PY m → n = m := by
      intro XA YA WA VA XB YB WB VB hr ⟨p1, p2, p3⟩ ⟨q1, q2, q3⟩
      refine ⟨fun m hm => ?_, fun m hm hh => ?_, fun m hm m' hm' hh hh' => ?_⟩
      · rcases List.mem_append.mp hm with hm | hm
        · exact p1 m hm
        · exact q1 m hm
      · rcases List.mem_append.mp hm with hm | hm
        · have := p2 m hm hh
          omega
        · have := q2 m hm hh
          omega
      · rcases List.mem_append.mp hm with hm | hm
        · rcases List.mem_append.mp hm' with hm' | hm'
          · exact p3 m hm m' hm' hh hh'
          · have c1 := p2 m hm hh
            have c2 := q2 m' hm' hh'
            exfalso
            omega
        · rcases List.mem_append.mp hm' with hm' | hm'
          · have c1 := q2 m hm hh
            have c2 := p2 m' hm' hh'
            exfalso
            omega
          · exact q3 m hm m' hm' hh hh'
    rcases hc n (List.mem_cons_self ..) with e | e
    · have n0 : fm n = nI 0 := by rw [e]; decide
      have n1 : ¬ fm n = nI 1 := by rw [e]; decide
      rw [if_pos n0] at l0'
      rw [if_neg n1] at l1'
      rw [if_pos e, ea0, eb0] at h
      obtain ⟨F, eF, f1, f2⟩ := zy_fp_N (sh := sh n) (show W ≤ 400 by omega) l0'
      rw [eF, nI_sub (by omega), nI_add] at h
      exact fin ⟨rfl, rfl, Or.inl ⟨rfl, by omega, rfl, rfl, rfl⟩⟩ (iha (by omega) ha0 ha1 hca X Y F V (by omega) hV f1 (by omega) h.1) (ihb (by omega) hb0 hb1 hcb (X + F) Y (W - F) V (by omega) hV (by omega) (by omega) h.2)
    · have n0 : ¬ fm n = nI 0 := by rw [e]; decide
      have n1 : fm n = nI 1 := by rw [e]; decide
      rw [if_neg n0] at l0'
      rw [if_pos n1] at l1'
      rw [if_neg (by rw [e]; decide), ea1, eb1] at h
      obtain ⟨F, eF, f1, f2⟩ := zy_fp_N (sh := sh n) (show V ≤ 400 by omega) l1'
      rw [eF, nI_sub (by omega), nI_add] at h
      exact fin ⟨rfl, rfl, Or.inr ⟨rfl, by omega, rfl, rfl, rfl⟩⟩ (iha (by omega) ha0 ha1 hca X Y W F hW (by omega) (by omega) f1 h.1) (ihb (by omega) hb0 hb1 hcb X (Y + F) W (V - F) hW (by omega) (by omega) (by omega) h.2)
section ZXN
variable {ξ μ ν M N θ : zm_M} {row stkC stk ord : List Nat} {Rs : Nat → List Nat} {ts us : Nat → zy_F} {k s a : Nat} {x y v : Int32}
/-- at most one leaf of the class's tree holds the point -/
theorem zK_one (h : zK ξ μ row stkC stk ord Rs ts us) (hs : s < 3) (hth : ¬ ξ (zdS s) 3 = 0) (hl : zd_laid ξ s (Rs s) (ts s)) (bx : ¬ x < 0 ∧ x ≤ 400) (by' : ¬ y < 0 ∧ y ≤ 400) {n m : Nat} (hn : n ∈ zy_lvs (ts s)) (hm : m ∈ zy_lvs (ts s)) (pn : zt_lin ξ (zdT s) n x y) (pm : zt_lin ξ (zdT s) m x y) : n = m := by
  obtain ⟨h1, h4, h0⟩ := h
  have hC := (h1.2.2.2.1 s hs).1
  obtain ⟨wt, hni⟩ := zt_I_lv hC.1 hn
  obtain ⟨-, okM, -⟩ := zt_I_wf hC.1 hni
  have hsm := zJ_sm h1 hs
  have t0 := zt_sm_tl hsm (a := 0) (by decide)
  have t1 := zt_sm_tl hsm (a := 1) (by decide)
  obtain ⟨⟨b1, b2, b3, b4⟩, hfit⟩ := h1.2.2.2.2.2 s hs hth
  obtain ⟨W0, hW0, eW⟩ := nI_of2 (M := 400) (n := 400) (by decide) (fun z => absurd (Int32.lt_of_le_of_lt b1 z) (by decide)) b2
  obtain ⟨V0, hV0, eV⟩ := nI_of2 (M := 400) (n := 400) (by decide) (fun z => absurd (Int32.lt_of_le_of_lt b3 z) (by decide)) b4
  obtain ⟨PX, hPX, ex⟩ := nI_of2 (M := 400) (n := 400) (by decide) bx.1 bx.2
  obtain ⟨PY, hPY, ey⟩ := nI_of2 (M := 400) (n := 400) (by decide) by'.1 by'.2
  obtain ⟨f0, f1⟩ := of_decide_eq_true hfit
  obtain ⟨L0, l0⟩ := zt_lsz_N hC.1 hsm (a := 0) (by decide)
  obtain ⟨L1, l1⟩ := zt_lsz_N hC.1 hsm (a := 1) (by decide)
  rw [L0, eW] at f0
  rw [L1, eV] at f1
  have f0 := (nI_leI (by omega) (by omega)).mp f0
  have f1 := (nI_leI (by omega) (by omega)).mp f1
  have q0 : ∀ n ∈ zy_lvs (ts s), zt_lf (ξ (zdT s + 5)) (ξ (zdT s + 3)) (Rs s) n = nI (zt_lfN (zt_tlN ξ (zdT s) 0) (ξ (zdT s + 3)) (Rs s) n) ∧ zt_lfN (zt_tlN ξ (zdT s) 0) (ξ (zdT s + 3)) (Rs s) n ≤ 200 := fun n _ => ⟨zt_lf_N (Rs s) 0 (by decide) t0, zt_lfN_le (Rs s) 0 (by decide) (fun w hw => (t0 w hw).2)⟩
  have q1 : ∀ n ∈ zy_lvs (ts s), zt_lf (ξ (zdT s + 6)) (ξ (zdT s + 3)) (Rs s) n = nI (zt_lfN (zt_tlN ξ (zdT s) 1) (ξ (zdT s + 3)) (Rs s) n) ∧ zt_lfN (zt_tlN ξ (zdT s) 1) (ξ (zdT s + 3)) (Rs s) n ≤ 200 := fun n _ => ⟨zt_lf_N (Rs s) 0 (by decide) t1, zt_lfN_le (Rs s) 0 (by decide) (fun w hw => (t1 w hw).2)⟩
  have hlen : (zy_lvs (ts s)).length ≤ 100 := by
    have := zy_nodup_le 19 (zy_lvs (ts s)) (zt_I_lvn hC.1).1 (zt_I_lvn hC.1).2
    omega
  have hl' := hl wt
  rw [eW, eV, ← nI_0] at hl'
  obtain ⟨d1, d2, d3⟩ := zy_laid_D (P := zt_P ξ (zdT s)) (PX := PX) (PY := PY) (fun n x y w v x' y' w' v' p q => ⟨⟨p.1.symm.trans q.1, p.2.1.symm.trans q.2.1⟩, p.2.2.1.symm.trans q.2.2.1, p.2.2.2.symm.trans q.2.2.2⟩) _ wt hlen q0 q1 (fun c hc => (zy_ok_ct _ wt okM c hc).1) 0 0 W0 V0 (by omega) (by omega) f0 f1 hl'
  have hh : ∀ n ∈ zy_lvs (ts s), zt_lin ξ (zdT s) n x y → zt_hd (zt_P ξ (zdT s)) PX PY n := fun n hn p => by
    obtain ⟨X, Y, W, V, p0, r1, r2⟩ := d1 n hn
    obtain ⟨⟨p1, p2⟩, p3, p4⟩ := p
    obtain ⟨o1, o2, o3, o4⟩ := id p0
    rw [o1, ex] at p1
    rw [o1, o3, ex, nI_add] at p2
    rw [o2, ey] at p3
    rw [o2, o4, ey, nI_add] at p4
    exact ⟨X, Y, W, V, p0, ⟨r1, r2⟩, ⟨(nI_leI (by omega) (by omega)).mp p1, (nI_ltI (by omega) (by omega)).mp p2⟩, (nI_leI (by omega) (by omega)).mp p3, (nI_ltI (by omega) (by omega)).mp p4⟩
  exact d3 n hn m hm (hh n hn pn) (hh m hm pm)
/-- the leaves side by side -/
theorem zK_lf (h : zK ξ μ row stkC stk ord Rs ts us) (hs : s < 3) (hth : ¬ ξ (zdS s) 3 = 0) (hl : zd_laid ξ s (Rs s) (ts s)) (hv : zv_laid μ ν s (us s)) {n : Nat} (hn : n ∈ zy_lvs (ts s)) : ∃ w m, w ∈ Rs s ∧ ξ (zdT s + 3) w = nI n ∧ ξ (zdT s + 12) n = nI w ∧ m ∈ zy_lvs (us s) ∧ (∀ m' ∈ zy_lvs (us s), w ∈ zu_tb μ s m' → m' = m) ∧ μ 250 (24 * s + m) = nI w ∧ (zv_lin ν m x y ↔ zt_lin ξ (zdT s) n x y) := by
  have hC := (h.1.2.2.2.1 s hs).1
  obtain ⟨w, hw, e3, e12⟩ := hC.1.2.2.2.2.2 n hn
  obtain ⟨m, hat, hp⟩ := zs_at hC.1 (h.2.2.2.2.2.1 s hs) hw hn e3
  obtain ⟨n', hn', e3', -, x', y', W, V, pa, pb, -⟩ := zK_areas h hs hth hl hv hw hat
  have hn19 := (zt_I_lvn hC.1).2
  have en : n = n' := (nI_eq (by have := hn19 n hn; omega) (by have := hn19 n' hn'; omega)).mp (e3.symm.trans e3')
  subst en
  refine ⟨w, m, hw, e3, e12, hat.1, fun m' hm' q => hat.2.2 m' hm' q, hp.2.trans e12, ?_⟩
  unfold zv_lin zt_lin
  rw [pa.1, pa.2.1, pa.2.2.1, pa.2.2.2, pb.1, pb.2.1, pb.2.2.1, pb.2.2.2]
theorem zK_rt (h : zK ξ μ row stkC stk ord Rs ts us) (hs : s < 3) (hth : ¬ ξ (zdS s) 3 = 0) (hl : zd_laid ξ s (Rs s) (ts s)) (hv : zv_laid μ ν s (us s)) {m : Nat} (hm : m ∈ zy_lvs (us s)) : ∃ n w, n ∈ zy_lvs (ts s) ∧ w ∈ Rs s ∧ ξ (zdT s + 3) w = nI n ∧ ξ (zdT s + 12) n = nI w ∧ μ 250 (24 * s + m) = nI w ∧ (zv_lin ν m x y ↔ zt_lin ξ (zdT s) n x y) := by
  have hC := (h.1.2.2.2.1 s hs).1
  obtain ⟨n, hn, p⟩ := zs_tb hC.1 (h.2.2.2.2.2.1 s hs) hm
  obtain ⟨w, m', hw, e3, e12, hm', hu, e, q⟩ := zK_lf (x := x) (y := y) h hs hth hl hv hn
  have em : m = m' := hu m hm (by rw [p.1]; exact zt_tb_mem.mpr ⟨hw, e3⟩)
  subst em
  exact ⟨n, w, hn, hw, e3, e12, e, q⟩
/-- what lies at a point of the trees -/
theorem zK_atL (h : zK ξ μ row stkC stk ord Rs ts us) (hs : s < 3) (hth : ¬ ξ (zdS s) 3 = 0) (hl : zd_laid ξ s (Rs s) (ts s)) (hv : zv_laid μ ν s (us s)) (f : ∀ d, ν 250 d = μ 250 d) (bx : ¬ x < 0 ∧ x ≤ 400) (by' : ¬ y < 0 ∧ y ≤ 400) {v1 v2 : Int32} (h1 : zt_shv ξ (zdT s) x y v1) (h2 : zv_alv ν (zy_lvs (us s)) s x y v2) : v1 = v2 := by
  have hC := (h.1.2.2.2.1 s hs).1
  have hn19 := (zt_I_lvn hC.1).2
  have sp : ∀ k n, n < 19 → ξ (zdT s + 3) k = nI n → (zt_shp ξ (zdT s) k x y ↔ ξ (zdT s + 12) n = nI k ∧ zt_lin ξ (zdT s) n x y) := fun k n hn e => by
    obtain ⟨⟨q1, q2⟩, q3, q4⟩ := zt_so_of (ξ := ξ) (T := zdT s) hn e ⟨rfl, rfl, rfl, rfl⟩
    unfold zt_shp zt_lin
    rw [q1, q2, q3, q4, e, nI_clamp (show n < 2 ^ 31 by omega)]
    exact ⟨fun z => ⟨z.1.2, z.2⟩, fun z => ⟨⟨nI_pos (by omega), z.1⟩, z.2⟩⟩
  rcases h1 with ⟨k, hk, hsp, rfl⟩ | ⟨hno, rfl⟩
  · have hkR : k ∈ Rs s := by
      refine Classical.byContradiction (fun c => ?_)
      have e := hC.1.2.2.2.2.1 k hk c
      exact hsp.1.1 (by rw [e]; decide)
    obtain ⟨n, hn, e3⟩ := hC.1.2.2.2.1 k hkR
    obtain ⟨e12, pn⟩ := (sp k n (hn19 n hn) e3).mp hsp
    rcases h2 with ⟨m, hm, pm, rfl⟩ | ⟨hall, rfl⟩
    · obtain ⟨n', w, hn', hw, e3', e12', e, q⟩ := zK_rt (x := x) (y := y) h hs hth hl hv hm
      have en := zK_one h hs hth hl bx by' hn hn' pn (q.mp pm)
      subst en
      rw [f, e, ← e12', e12]
    · obtain ⟨w, m, -, -, -, hm, -, -, q⟩ := zK_lf (x := x) (y := y) h hs hth hl hv hn
      exact absurd (q.mpr pn) (hall m hm)
  · rcases h2 with ⟨m, hm, pm, rfl⟩ | ⟨hall, rfl⟩
    · obtain ⟨n', w, hn', hw, e3', e12', e, q⟩ := zK_rt (x := x) (y := y) h hs hth hl hv hm
      exact absurd ((sp w n' (hn19 n' hn') e3').mpr ⟨e12', q.mp pm⟩) (hno w (hC.1.1.2.2 w hw))
    · rfl
/-- floating ones -/
theorem zX_btid {p m : Int32} (h : 0 ≤ p) (h2 : p ≤ m) : zi_bt 0 p m = p := by
  rw [← zX_ne (Int32.le_trans h h2)]
  unfold zv_ne
  rw [if_neg (Int32.not_lt.mpr h), if_neg (Int32.not_lt.mpr h2)]
theorem zX_lt {x z : Int32} (b1 : 40 ≤ z) (b2 : z ≤ 400) : x < z ↔ x ≤ z - 1 := by
  rw [Int32.le_iff_toInt_le] at b1 b2
  rw [show (40 : Int32).toInt = 40 by decide] at b1
  rw [show (400 : Int32).toInt = 400 by decide] at b2
  rw [Int32.lt_iff_toInt_lt, Int32.le_iff_toInt_le, Int32.toInt_sub, show (1 : Int32).toInt = 1 by decide]
  have : (z.toInt - 1).bmod (2 ^ 32) = z.toInt - 1 := by
    rw [Int.bmod_def]
    split <;> omega
  rw [this]
  omega
theorem zX_cov (h : zK ξ μ row stkC stk ord Rs ts us) (hs : s < 3) (hth : ¬ ξ (zdS s) 3 = 0) (hf : zX_f ξ μ) (hn : zX_n ξ) (hk : k < 10) (flo : zd_flo ξ k = true) (x y : Int32) : zd_cov ξ k (zdZ s) (nI s) x y = zv_lie μ k s x y := by
  obtain ⟨t2, t3⟩ := zd_flo_iff.mp flo
  have th : zd_th ξ k = true := zd_th_iff.mpr t2
  obtain ⟨k1, ⟨k2, k3⟩, -, k5⟩ := (h.2.2.1.1 k hk).2 th
  obtain ⟨z1, z2⟩ := (h.2.2.1.2 s hs).2 hth
  have p0 : μ 239 k = ξ (zdW k + 2) 0 := hf k hk flo 0 (by decide)
  have p1 : μ 240 k = ξ (zdW k + 2) 1 := hf k hk flo 1 (by decide)
  obtain ⟨⟨b1, b2, b3, b4⟩, -⟩ := h.1.2.2.2.2.2 s hs hth
  obtain ⟨-, ⟨w1, w2, w3, w4⟩, -⟩ := h.1.2.2.1 k hk th
  unfold zd_cov zv_lie zd_spn zv_rc
  rw [k1, k2, k3, z1, z2, p0, p1]
  by_cases c4 : ξ (zdW k) 3 = 4
  · rw [if_pos c4, show zd_loose ξ (nI s) k = false from decide_eq_false (fun z => z.2.1 c4), Bool.false_or, zd_sti_iff.mpr ⟨t2, c4⟩, Bool.true_and]
    unfold zd_whole
    by_cases c : ξ (zdW k + 1) 0 ≤ ξ (zdZ s) 0 ∧ ξ (zdW k + 1) 1 ≤ ξ (zdZ s) 1
    · rw [decide_eq_true c, Bool.true_and, Bool.true_and, zX_ne (zX_sub w1 w2 b2 c.1), zX_ne (zX_sub w3 w4 b4 c.2), ← Bool.decide_and]
    · rw [decide_eq_false c, Bool.false_and, Bool.false_and]
  · rw [if_neg c4, show zd_sti ξ k = false from decide_eq_false (fun z => c4 z.2), Bool.false_and, Bool.or_false, k5 c4]
    unfold zd_loose
    by_cases c : ξ (zdW k) 5 = nI s
    · obtain ⟨s', hs', es, q⟩ := hn k hk flo c4
      have : s' = s := (nI_eq (by omega) (by omega)).mp (es.symm.trans c)
      subst this
      rw [decide_eq_true (show ¬ ξ (zdW k) 2 = 0 ∧ ¬ ξ (zdW k) 3 = 4 ∧ ξ (zdW k) 5 = nI s' ∧ ¬ ξ (zdW k) 3 = 1 from ⟨t2, c4, c, t3⟩), decide_eq_true c, Bool.true_and, Bool.true_and, zX_btid (q 0 (by decide)).2.1 (q 0 (by decide)).2.2, zX_btid (q 1 (by decide)).2.1 (q 1 (by decide)).2.2, ← Bool.decide_and]
    · rw [decide_eq_false (fun z : ¬ ξ (zdW k) 2 = 0 ∧ ¬ ξ (zdW k) 3 = 4 ∧ ξ (zdW k) 5 = nI s ∧ ¬ ξ (zdW k) 3 = 1 => c z.2.2.1), decide_eq_false c, Bool.false_and, Bool.false_and]
theorem zl_topP_eq {p q : Nat → Bool} {l : List Nat} {v1 v2 : Int32} (e : ∀ k ∈ l, p k = q k) (h1 : zl_topP p l v1) (h2 : zl_topP q l v2) : v1 = v2 := by
  obtain ⟨i, hi, a1, a2, rfl⟩ := h1
  obtain ⟨j, hj, b1, b2, rfl⟩ := h2
  rcases Nat.lt_trichotomy i j with c | c | c
  · have := a2 j c hj
    rw [e _ (zl_mem hj), b1] at this
    cases this
  · rw [c]
  · have := b2 i c hi
    rw [← e _ (zl_mem hi), a1] at this
    cases this
theorem zl_topP_no {p q : Nat → Bool} {l : List Nat} {v1 : Int32} (e : ∀ k ∈ l, p k = q k) (h1 : zl_topP p l v1) (h2 : ∀ i, i < l.length → q (l.getD i 0) = false) : False := by
  obtain ⟨i, hi, a1, -⟩ := h1
  have := h2 i hi
  rw [← e _ (zl_mem hi), a1] at this
  cases this
theorem zX_at_e (hX : zX M) (w x y : Int32) : zX_e M A_Desk_at A_Mod_at [.int w, .int x, .int y] := by
  obtain ⟨⟨⟨row, stkC, stk, ord, Rs, ts, us, h⟩, st⟩, hp⟩ := id hX
  obtain rfl : stk = stkC := (zY_eq h st).symm
  obtain ⟨N, r1, E1, e, v1⟩ := ze_at_v 57 h.1 w x y
  have hm := zW_mid h (zW_eqv e.v)
  obtain ⟨θ, r2, E2, f, v2⟩ := ze_Mat_v 35 (zK_R hm) w x y
  have hN : zK N N row stk stk ord Rs ts us := hm.scr e.v zM_fr.refl
  have eW : ∀ k, k < 10 → N (zdW k) = M (zdW k) ∧ N (zdW k + 1) = M (zdW k + 1) := fun k hk => ⟨e.v _ (zJn_W hk).1, e.v _ (zJn_W hk).2⟩
  have flo : ∀ k, k < 10 → zd_flo N k = true → zd_flo M k = true := fun k hk q => by
    rw [zd_flo_iff] at q ⊢
    rw [(eW k hk).1] at q
    exact q
  have hf : zX_f N N := fun k hk q a ha => by
    rw [zW_eqv e.v _ (by omega), e.p.1 k hk a ha]
    exact hp.1 k hk (flo k hk q) a ha
  have hn : zX_n N := fun k hk q q4 => by
    rw [(eW k hk).1] at q4
    obtain ⟨s, hs, es, q⟩ := hp.2.2 k hk (flo k hk q) q4
    refine ⟨s, hs, by rw [(eW k hk).1]; exact es, fun a ha => ?_⟩
    rw [(eW k hk).2, e.v _ (zJn_S hs).2.1, e.p.1 k hk a ha]
    exact q a ha
  have er : r1 = r2 := by
    rcases v1 with ⟨n1, rfl⟩ | ⟨s, hs, rfl, v1⟩
    · rcases v2 with ⟨-, rfl⟩ | ⟨s, hs, es, -⟩
      · rfl
      · exact absurd ⟨s, hs, es⟩ n1
    · rcases v2 with ⟨n2, -⟩ | ⟨s', hs', es, v2⟩
      · exact absurd ⟨s, hs, rfl⟩ n2
      · have := (nI_eq (by omega) (by omega)).mp es
        subst this
        have eS := e.v _ (zJn_S hs).1
        have eZ := e.v _ (zJn_S hs).2.1
        obtain ⟨w0, w1⟩ := hN.2.2.1.2 s hs
        rcases v1 with ⟨c3, rfl⟩ | ⟨c3, v1⟩
        · rcases v2 with ⟨-, rfl⟩ | ⟨c, -⟩
          · rfl
          · exact absurd (w0 (by rw [eS]; exact c3)).1 c
        · have hth : ¬ N (zdS s) 3 = 0 := by rw [eS]; exact c3
          obtain ⟨z1, z2⟩ := w1 hth
          obtain ⟨⟨b1, b2, b3, b4⟩, -⟩ := hN.1.2.2.2.2.2 s hs hth
          rcases v2 with ⟨c, -⟩ | ⟨-, v2⟩
          · rw [z1] at c
            rw [c] at b1
            exact absurd b1 (by decide)
          · rw [← eZ] at v1
            rw [z1, z2] at v2
            have eq : (0 ≤ x ∧ x < N (zdZ s) 0 ∧ 0 ≤ y ∧ y < N (zdZ s) 1) ↔ ((0 ≤ x ∧ x ≤ N (zdZ s) 0 - 1) ∧ 0 ≤ y ∧ y ≤ N (zdZ s) 1 - 1) := by
              rw [← zX_lt b1 b2, ← zX_lt b3 b4]
              exact ⟨fun z => ⟨⟨z.1, z.2.1⟩, z.2.2⟩, fun z => ⟨z.1.1, z.1.2, z.2⟩⟩
            rcases v1 with ⟨c, rfl⟩ | ⟨c, v1⟩
            · rcases v2 with ⟨-, rfl⟩ | ⟨c', -⟩
              · rfl
              · exact absurd (eq.mpr c') c
            · rcases v2 with ⟨c', -⟩ | ⟨-, v2⟩
              · exact absurd (eq.mp c) c'
              · have ec : ∀ k ∈ stk, zd_cov M k (zdZ s) (nI s) x y = zv_lie N k s x y := fun k hk => by
                  obtain ⟨hk, fl⟩ := (hN.2.1.2.2.2 k).mp hk
                  rw [← zX_cov hN hs hth hf hn hk fl x y]
                  unfold zd_cov zd_loose zd_sti zd_whole zd_spn
                  rw [(eW k hk).1, (eW k hk).2, eZ, e.p.1 k hk 0 (by decide), e.p.1 k hk 1 (by decide)]
                rcases v1 with v1 | ⟨v1, hl, v1'⟩
                · rcases v2 with v2 | ⟨v2, -⟩
                  · exact zl_topP_eq ec v1 v2
                  · exact (zl_topP_no ec v1 v2).elim
                · rcases v2 with v2 | ⟨v2, hv, v2'⟩
                  · exact (zl_topP_no (fun k hk => (ec k hk).symm) v2 v1).elim
                  · refine zK_atL hN hs hth hl hv (fun d => f _ _ (fun z => absurd z.1 (by decide)) (by decide) (by decide) (by decide)) ⟨Int32.not_lt.mpr c.1, ?_⟩ ⟨Int32.not_lt.mpr c.2.2.1, ?_⟩ v1' v2'
                    · exact Int32.le_trans (Int32.le_of_lt c.2.1) b2
                    · exact Int32.le_trans (Int32.le_of_lt c.2.2.2) b4
  subst er
  obtain ⟨N', θ', r1', r2', F1, F2, q⟩ := zX_ro hX (zY_at hX.1 w x y) E1 E2 e f
  obtain ⟨q1, e1⟩ := ze_E_det F1 E1
  rw [e1] at F2
  obtain ⟨q2, e2⟩ := ze_E_det F2 E2
  exact ⟨N, θ', r1, E1, by rw [e2]; exact E2, q⟩
end ZXN
