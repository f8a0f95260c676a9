/-! places: the same on both sides -/
/-- where floating windows are -/
def zX_f (ξ μ : zm_M) : Prop := ∀ k, k < 10 → zd_flo ξ k = true → ∀ a, a < 2 → μ (239 + a) k = ξ (zdW k + 2) a
/-- where they were when their screen went -/
def zX_k (ξ μ : zm_M) : Prop := ∀ s, s < 3 → ¬ ξ (zdK s) 3 = 0 → ∀ k, k < 10 → ¬ ξ (zdQ s) k = 0 → ∀ a, a < 2 → μ (253 + a) (10 * s + k) = ξ (zdP s + 1 + a) k
/-- they lie on their screen -/
def zX_n (ξ : zm_M) : Prop := ∀ k, k < 10 → zd_flo ξ k = true → ¬ ξ (zdW k) 3 = 4 → ∃ s, s < 3 ∧ ξ (zdW k) 5 = nI s ∧ ∀ a, a < 2 → ξ (zdW k + 1) a ≤ ξ (zdZ s) a ∧ 0 ≤ ξ (zdW k + 2) a ∧ ξ (zdW k + 2) a ≤ ξ (zdZ s) a - ξ (zdW k + 1) a
def zX2 (ξ μ : zm_M) : Prop := zX_f ξ μ ∧ zX_k ξ μ ∧ zX_n ξ
section ZXC
variable {ξ μ ν M N θ : zm_M} {row stkC stk ord : List Nat} {Rs : Nat → List Nat} {ts us : Nat → zy_F} {k s a : Nat} {v : Int32}
theorem zd_sti_iff : zd_sti ξ k = true ↔ ¬ ξ (zdW k) 2 = 0 ∧ ξ (zdW k) 3 = 4 := decide_eq_true_iff
theorem zd_til_iff : zd_til ξ k = true ↔ ¬ ξ (zdW k) 2 = 0 ∧ ξ (zdW k) 3 = 1 := decide_eq_true_iff
theorem zd_th_iff : zd_th ξ k = true ↔ ¬ ξ (zdW k) 2 = 0 := decide_eq_true_iff
/-- areas: what the reference answers is what the class does -/
theorem zK_av (h : zK ξ μ row stkC stk ord Rs ts us) (hX : zX_f ξ μ) (hk : k < 10) (th : zd_th ξ k = true) (hl : ∀ q, q < 3 → zd_laid ξ q (Rs q) (ts q)) (ha : a < 5) (hv : zv_av μ us k a v) : v = if a = 0 then (if zd_sti ξ k = true then -1000000005 else ξ (zdW k) 5) else if a < 3 then zd_sto ξ k (a - 1) else zd_lno ξ k (a - 3) := by
  obtain ⟨h1, h4, h0⟩ := id h
  obtain ⟨k1, ⟨k2, k3⟩, -, k5⟩ := (h0.1.1 k hk).2 th
  obtain ⟨-, -, a3, -⟩ := h1.2.2.1 k hk th
  have t2 := zd_th_iff.mp th
  obtain ⟨v0, v1, v2⟩ := hv
  by_cases z : a = 0
  · subst z
    rw [if_pos rfl, v0 rfl, k1]
    by_cases c : ξ (zdW k) 3 = 4
    · rw [if_pos c, if_pos (zd_sti_iff.mpr ⟨t2, c⟩)]
    · rw [if_neg c, if_neg (fun q => c (zd_sti_iff.mp q).2), k5 c]
  · rw [if_neg z]
    by_cases c : μ 234 k = 1
    · obtain ⟨q, m, ν, hq, hh, hvl, hat, hv⟩ := v2 z c
      obtain ⟨kt1, kt2, -⟩ := zK_kind h hk
      have til := kt1.mpr c
      have e5 : ξ (zdW k) 5 = nI q := (kt2 til).symm.trans hh
      have c3 := (zd_til_iff.mp til).2
      obtain ⟨s', hs', es', hth⟩ := a3 (by rw [c3]; decide)
      have es : s' = q := (nI_eq (by omega) (by omega)).mp (es'.symm.trans e5)
      subst es
      have hkR : k ∈ Rs s' := ((h1.2.2.2.1 s' hq).2.1 k).mpr ⟨hk, til, e5⟩
      obtain ⟨n, hn, hwn, -, x, y, W, V, pa, pb, -⟩ := zK_areas h hq hth (hl s' hq) hvl hkR hat
      have hn19 := (zt_I_lvn (h1.2.2.2.1 s' hq).1.1).2 n hn
      have c0 : ¬ nI n < 0 := nI_pos (by omega)
      have so : ∀ b, zd_sto ξ k b = ξ (zdT s' + 19 + b) n := fun b => by
        unfold zd_sto zt_so
        rw [if_pos til, e5, nI_clamp (show s' < 2 ^ 31 by omega), hwn, if_neg c0, nI_clamp (show n < 2 ^ 31 by omega)]
      have lo : ∀ b, zd_lno ξ k b = ξ (zdT s' + 22 + b) n := fun b => by
        unfold zd_lno zt_lo
        rw [if_pos til, e5, nI_clamp (show s' < 2 ^ 31 by omega), hwn, if_neg c0, nI_clamp (show n < 2 ^ 31 by omega)]
      rcases (by omega : a = 1 ∨ a = 2 ∨ a = 3 ∨ a = 4) with rfl | rfl | rfl | rfl
      · rw [if_pos (by decide), so, hv]
        exact pb.1.trans pa.1.symm
      · rw [if_pos (by decide), so, hv]
        exact pb.2.1.trans pa.2.1.symm
      · rw [if_neg (by decide), lo, hv]
        exact pb.2.2.1.trans pa.2.2.1.symm
      · rw [if_neg (by decide), lo, hv]
        exact pb.2.2.2.trans pa.2.2.2.symm
    · have nt : ¬ zd_til ξ k = true := fun q => c ((zK_kind h hk).1.mp q)
      have flo : zd_flo ξ k = true := zd_flo_iff.mpr ⟨t2, fun q => nt (zd_til_iff.mpr ⟨t2, q⟩)⟩
      have p := hX k hk flo
      have so : ∀ b, zd_sto ξ k b = ξ (zdW k + 2) b := fun b => if_neg nt
      have lo : ∀ b, zd_lno ξ k b = ξ (zdW k + 1) b := fun b => if_neg nt
      rw [v1 z c]
      rcases (by omega : a = 1 ∨ a = 2 ∨ a = 3 ∨ a = 4) with rfl | rfl | rfl | rfl
      · show μ 239 k = zd_sto ξ k 0
        rw [so]
        exact p 0 (by decide)
      · show μ 240 k = zd_sto ξ k 1
        rw [so]
        exact p 1 (by decide)
      · show μ 235 k = zd_lno ξ k 0
        rw [lo]
        exact k2
      · show μ 236 k = zd_lno ξ k 1
        rw [lo]
        exact k3
/-- zi_bt is the reference's nearest -/
theorem zX_ne {v m : Int32} (h : 0 ≤ m) : zv_ne v m = zi_bt 0 v m := by
  have e0 : (0 : Int32).toInt = 0 := by decide
  rw [Int32.le_iff_toInt_le, e0] at h
  unfold zv_ne zi_bt zi_mx zi_mn
  by_cases c1 : v < 0
  · have c1' := Int32.lt_iff_toInt_lt.mp c1
    have c2 : ¬ m < v := fun z => by
      have := Int32.lt_iff_toInt_lt.mp z
      omega
    have c3 : ¬ (0 : Int32) < v := fun z => by
      have := Int32.lt_iff_toInt_lt.mp z
      omega
    rw [if_pos c1, if_neg c2, if_neg c3]
  · rw [if_neg c1]
    rw [Int32.lt_iff_toInt_lt, e0] at c1
    by_cases c2 : m < v
    · rw [if_pos c2]
      by_cases c3 : (0 : Int32) < m
      · rw [if_pos c3]
      · rw [if_neg c3]
        rw [Int32.lt_iff_toInt_lt, e0] at c3
        exact Int32.toInt_inj.mp (by rw [e0]; omega)
    · rw [if_neg c2]
      by_cases c3 : (0 : Int32) < v
      · rw [if_pos c3]
      · rw [if_neg c3]
        rw [Int32.lt_iff_toInt_lt, e0] at c3
        exact Int32.toInt_inj.mp (by rw [e0]; omega)
theorem zX2_mk {ξ' μ' : zm_M} (e1 : zm_mk ξ = zm_mk ξ') (e2 : zm_mk μ = zm_mk μ') (h : zX2 ξ μ) : zX2 ξ' μ' := by
  obtain ⟨h1, h2, h3⟩ := h
  have c2 : ∀ k, k < 10 → ξ (zdW k) 2 = ξ' (zdW k) 2 := fun k hk => zm_mk_inj e1 (zdW_at hk).1 rfl
  have c3 : ∀ k, k < 10 → ξ (zdW k) 3 = ξ' (zdW k) 3 := fun k hk => zm_mk_inj e1 (zdW_at hk).1 rfl
  have c5 : ∀ k, k < 10 → ξ (zdW k) 5 = ξ' (zdW k) 5 := fun k hk => zm_mk_inj e1 (zdW_at hk).1 rfl
  have cp := zd_plW_mk e1
  have cl : ∀ k, k < 10 → ∀ a, a < 2 → ξ (zdW k + 1) a = ξ' (zdW k + 1) a := fun k hk a ha => zm_mk_A e1 (zdW_at hk).2.1 ha
  have cz : ∀ s, s < 3 → ∀ a, a < 2 → ξ (zdZ s) a = ξ' (zdZ s) a := fun s hs a ha => zm_mk_A e1 (zdZ_A hs) ha
  have ck : ∀ s, s < 3 → ξ (zdK s) 3 = ξ' (zdK s) 3 := fun s hs => zm_mk_inj e1 (zdK_h hs) rfl
  have cq : ∀ s, s < 3 → ∀ k, k < 10 → ξ (zdQ s) k = ξ' (zdQ s) k := fun s hs k hk => zm_mk_A e1 (zdP_h hs).2.2.2 hk
  have cP := zd_kpp_mk e1
  have flo : ∀ k, k < 10 → zd_flo ξ' k = true → zd_flo ξ k = true := fun k hk q => by
    rw [zd_flo_iff] at q ⊢
    rw [c2 k hk, c3 k hk]
    exact q
  refine ⟨fun k hk q a ha => ?_, fun s hs q k hk q2 a ha => ?_, fun k hk q q4 => ?_⟩
  · rw [← cp k hk a ha, ← h1 k hk (flo k hk q) a ha]
    rcases (by omega : a = 0 ∨ a = 1) with rfl | rfl
    · exact (zm_mk_A e2 zM_A239 hk).symm
    · exact (zm_mk_A e2 zM_A240 hk).symm
  · rw [← cP s hs k hk a ha, ← h2 s hs (by rw [ck s hs]; exact q) k hk (by rw [cq s hs k hk]; exact q2) a ha]
    rcases (by omega : a = 0 ∨ a = 1) with rfl | rfl
    · exact (zm_mk_A e2 zM_A253 (by omega)).symm
    · exact (zm_mk_A e2 zM_A254 (by omega)).symm
  · obtain ⟨s, hs, e, h⟩ := h3 k hk (flo k hk q) (by rw [c3 k hk]; exact q4)
    refine ⟨s, hs, by rw [← c5 k hk]; exact e, fun a ha => ?_⟩
    rw [← cl k hk a ha, ← cz s hs a ha, ← cp k hk a ha]
    exact h a ha
/-- what floats, and what is kept of it, was there before -/
def zX_lo (M N : zm_M) : Prop := (∀ k, k < 10 → zd_flo N k = true → zd_flo M k = true ∧ N (zdW k) 3 = M (zdW k) 3 ∧ N (zdW k) 5 = M (zdW k) 5 ∧ ∀ a, a < 2 → N (zdW k + 1) a = M (zdW k + 1) a) ∧ (∀ s, s < 3 → ∀ a, a < 2 → N (zdZ s) a = M (zdZ s) a) ∧ ∀ s, s < 3 → ¬ N (zdK s) 3 = 0 → ¬ M (zdK s) 3 = 0 ∧ ∀ k, k < 10 → ¬ N (zdQ s) k = 0 → ¬ M (zdQ s) k = 0
theorem zX2_same (h : zX2 M M) (q : zX_lo M N) (pc : zd_plc M N) (up : zW_up M N) (pr : zv_plc N θ) : zX2 N θ := by
  obtain ⟨h1, h2, h3⟩ := h
  obtain ⟨q1, q2, q3⟩ := q
  refine ⟨fun k hk f a ha => ?_, fun s hs f k hk f2 a ha => ?_, fun k hk f f4 => ?_⟩
  · rw [pr _ _ (by omega), up _ (by omega), pc.1 k hk a ha]
    exact h1 k hk (q1 k hk f).1 a ha
  · obtain ⟨r1, r2⟩ := q3 s hs f
    rw [pr _ _ (by omega), up _ (by omega), pc.2 s hs k hk a ha]
    exact h2 s hs r1 k hk (r2 k hk f2) a ha
  · obtain ⟨r1, r2, r3, r4⟩ := q1 k hk f
    obtain ⟨s, hs, e, h⟩ := h3 k hk r1 (by rw [← r2]; exact f4)
    refine ⟨s, hs, by rw [r3]; exact e, fun a ha => ?_⟩
    rw [r4 a ha, q2 s hs a ha, pc.1 k hk a ha]
    exact h a ha
theorem zX2_lo (h : zX2 N θ) (lo : zW_lo N θ) : zX2 θ θ := by
  obtain ⟨h1, h2, h3⟩ := h
  have e : ∀ k, k < 10 → θ (zdW k) = N (zdW k) := fun k hk => lo _ (by unfold zdW; omega)
  have flo : ∀ k, k < 10 → zd_flo θ k = true → zd_flo N k = true := fun k hk q => by
    rw [zd_flo_iff] at q ⊢
    rw [e k hk] at q
    exact q
  refine ⟨fun k hk q a ha => ?_, fun s hs q k hk q2 a ha => ?_, fun k hk q q4 => ?_⟩
  · rw [lo (zdW k + 2) (by unfold zdW; omega)]
    exact h1 k hk (flo k hk q) a ha
  · rw [lo (zdP s + 1 + a) (by unfold zdP; omega)]
    rw [lo (zdK s) (by unfold zdK; omega)] at q
    rw [lo (zdQ s) (by unfold zdQ; omega)] at q2
    exact h2 s hs q k hk q2 a ha
  · rw [e k hk] at q4
    obtain ⟨s, hs, r, h⟩ := h3 k hk (flo k hk q) q4
    refine ⟨s, hs, by rw [e k hk]; exact r, fun a ha => ?_⟩
    rw [lo (zdW k + 1) (by unfold zdW; omega), lo (zdZ s) (by unfold zdZ; omega), lo (zdW k + 2) (by unfold zdW; omega)]
    exact h a ha
theorem zX_lo_eqv (h : zJ_eqv M N) : zX_lo M N := by
  have e : ∀ k, k < 10 → N (zdW k) = M (zdW k) := fun k hk => h _ (zJn_W hk).1
  refine ⟨fun k hk q => ⟨?_, by rw [e k hk], by rw [e k hk], fun a ha => by rw [h _ (zJn_W hk).2]⟩, fun s hs a ha => by rw [h (zdZ s) (by unfold zJ_irr zdZ; omega)], fun s hs q => ⟨by rw [← h (zdK s) (by unfold zJ_irr zdK; omega)]; exact q, fun k hk q2 => by rw [← h (zdQ s) (by unfold zJ_irr zdQ; omega)]; exact q2⟩⟩
  rw [zd_flo_iff] at q ⊢
  rw [e k hk] at q
  exact q
end ZXC
/-- class and reference: places the same, too -/
def zX (M : zm_M) : Prop := zY M ∧ zX2 M M
def zX_c (M : zm_M) (a b : Nat) (vs : List Value) : Prop := ∃ N θ r1 r2, ze_E 64 a (.ref 1 :: vs) (zm_mk M) (some (.int r1)) (zm_mk N) ∧ ze_E 64 b (.ref 232 :: vs) (zm_mk N) (some (.int r2)) (zm_mk θ) ∧ zX θ
def zX_e (M : zm_M) (a b : Nat) (vs : List Value) : Prop := ∃ N θ r, ze_E 64 a (.ref 1 :: vs) (zm_mk M) (some (.int r)) (zm_mk N) ∧ ze_E 64 b (.ref 232 :: vs) (zm_mk N) (some (.int r)) (zm_mk θ) ∧ zX θ
section ZXD
variable {M N θ : zm_M} {row stkC stk ord : List Nat} {Rs : Nat → List Nat} {ts us : Nat → zy_F} {a b : Nat} {vs : List Value} {r r1 r2 : Int32}
theorem zX_e.c (h : zX_e M a b vs) : zX_c M a b vs := by
  obtain ⟨N, θ, r, E1, E2, q⟩ := h
  exact ⟨N, θ, r, r, E1, E2, q⟩
/-- two runs from the same memory are the same -/
theorem zX_fin (hY : zY_c M a b vs) (E1 : ze_E 64 a (.ref 1 :: vs) (zm_mk M) (some (.int r1)) (zm_mk N)) (E2 : ze_E 64 b (.ref 232 :: vs) (zm_mk N) (some (.int r2)) (zm_mk θ)) (lo : zW_lo N θ) (hp : zX2 N θ) : zX_c M a b vs := by
  obtain ⟨N', θ', r1', r2', F1, F2, q⟩ := hY
  obtain ⟨-, e1⟩ := ze_E_det F1 E1
  rw [e1] at F2
  obtain ⟨-, e2⟩ := ze_E_det F2 E2
  exact ⟨N', θ', r1', r2', F1, by rw [e1]; exact F2, q, zX2_mk e2.symm e2.symm (zX2_lo hp lo)⟩
theorem zX_ro (hX : zX M) (hY : zY_c M a b vs) (E1 : ze_E 64 a (.ref 1 :: vs) (zm_mk M) (some (.int r1)) (zm_mk N)) (E2 : ze_E 64 b (.ref 232 :: vs) (zm_mk N) (some (.int r2)) (zm_mk θ)) (e : zJ_eqs M N) (f : zM_frs N θ) : zX_c M a b vs :=
  zX_fin hY E1 E2 (zW_fr f.w) (zX2_same hX.2 (zX_lo_eqv e.v) e.p (zW_eqv e.v) f.p)
theorem zX_area_e (hX : zX M) (w x : Int32) : zX_e M A_Desk_area A_Mod_area [.int w, .int x] := by
  obtain ⟨⟨⟨row, stkC, stk, ord, Rs, ts, us, h⟩, st⟩, hp⟩ := id hX
  obtain ⟨N, r1, E1, e, v1⟩ := ze_area_v 57 h.1 w x
  have hm := zW_mid h (zW_eqv e.v)
  obtain ⟨θ, r2, E2, f, v2⟩ := ze_Marea_v 35 (zK_R hm) w x
  have hN : zK N N row stkC stk ord Rs ts us := hm.scr e.v zM_fr.refl
  have er : r1 = r2 := by
    rcases v1 with ⟨rfl, n1⟩ | ⟨k, a, hk, ha, rfl, rfl, th, hl, p0, p1⟩
    · rcases v2 with ⟨rfl, -⟩ | ⟨k, a, hk, ha, rfl, rfl, th, -⟩
      · rfl
      · exact absurd ⟨k, a, hk, ha, rfl, rfl, (zK_kind hm hk).2.2.mpr th⟩ n1
    · rcases v2 with ⟨-, n2⟩ | ⟨k', a', hk', ha', ek, ea, -, hv⟩
      · exact absurd ⟨k, a, hk, ha, rfl, rfl, (zK_kind hm hk).2.2.mp th⟩ n2
      · have := (nI_eq (by omega) (by omega)).mp ek
        subst this
        have := (nI_eq (by omega) (by omega)).mp ea
        subst this
        have thN : zd_th N k = true := by
          rw [zd_th_iff] at th ⊢
          rw [e.v _ (zJn_W hk).1]
          exact th
        have hXf : zX_f N N := fun j hj q b hb => by
          rw [zW_eqv e.v _ (by omega), e.p.1 j hj b hb]
          refine hp.1 j hj ?_ b hb
          rw [zd_flo_iff] at q ⊢
          rw [e.v _ (zJn_W hj).1] at q
          exact q
        have := zK_av hN hXf hk thN hl ha hv
        by_cases z : a = 0
        · rw [p0 z, this, if_pos z]
        · rw [p1 z, this, if_neg z]
  subst er
  obtain ⟨N', θ', r1', r2', F1, F2, q⟩ := zX_ro hX (zY_area hX.1 w x) E1 E2 e f
  obtain ⟨q1, e1⟩ := ze_E_det F1 E1
  rw [e1] at F2
  obtain ⟨q2, e2⟩ := ze_E_det F2 E2
  refine ⟨N, θ', r1, E1, by rw [e2]; exact E2, q⟩
end ZXD
