/-! side by side: neighbours, toward -/
theorem zi_mn_lt (x y : Int32) : (if x < y then x else y) = zi_mn x y := by
  unfold zi_mn
  by_cases c : x < y
  · rw [if_pos c, if_neg (fun z => Int32.lt_irrefl (Int32.lt_trans c z))]
  · rw [if_neg c]
    by_cases c2 : y < x
    · rw [if_pos c2]
    · rw [if_neg c2]
      exact Int32.le_antisymm (Int32.not_lt.mp c) (Int32.not_lt.mp c2)
theorem zi_mx_lt (x y : Int32) : (if y < x then x else y) = zi_mx x y := by
  unfold zi_mx
  by_cases c : y < x
  · rw [if_pos c, if_neg (fun z => Int32.lt_irrefl (Int32.lt_trans c z))]
  · rw [if_neg c]
    by_cases c2 : x < y
    · rw [if_pos c2]
    · rw [if_neg c2]
      exact Int32.le_antisymm (Int32.not_lt.mp c2) (Int32.not_lt.mp c)
theorem zl_nb_congr {f g : Nat → Int32} : ∀ (l : List Nat) (b m : Int32), (∀ i ∈ l, f i = g i) → zl_nb f l b m = zl_nb g l b m
  | [], _, _, _ => rfl
  | a :: l, b, m, h => by
    show (if m < f a then zl_nb f l (nI a) (f a) else zl_nb f l b m) = (if m < g a then zl_nb g l (nI a) (g a) else zl_nb g l b m)
    rw [h a (List.mem_cons_self ..), zl_nb_congr l (nI a) (g a) (fun i hi => h i (List.mem_cons_of_mem _ hi)), zl_nb_congr l b m (fun i hi => h i (List.mem_cons_of_mem _ hi))]
theorem zl_nb_two {f : Nat → Int32} : ∀ (l : List Nat) (b1 b2 m : Int32), (zl_nb f l b1 m = b1 ∧ zl_nb f l b2 m = b2) ∨ ∃ i ∈ l, zl_nb f l b1 m = nI i ∧ zl_nb f l b2 m = nI i
  | [], _, _, _ => Or.inl ⟨rfl, rfl⟩
  | a :: l, b1, b2, m => by
    show ((if m < f a then zl_nb f l (nI a) (f a) else zl_nb f l b1 m) = b1 ∧ (if m < f a then zl_nb f l (nI a) (f a) else zl_nb f l b2 m) = b2) ∨ ∃ i ∈ a :: l, (if m < f a then zl_nb f l (nI a) (f a) else zl_nb f l b1 m) = nI i ∧ (if m < f a then zl_nb f l (nI a) (f a) else zl_nb f l b2 m) = nI i
    by_cases c : m < f a
    · rw [if_pos c, if_pos c]
      rcases zl_nb_or f l (nI a) (f a) with e | ⟨i, hi, e, -⟩
      · exact Or.inr ⟨a, List.mem_cons_self .., e, e⟩
      · exact Or.inr ⟨i, List.mem_cons_of_mem _ hi, e, e⟩
    · rw [if_neg c, if_neg c]
      rcases zl_nb_two (f := f) l b1 b2 m with e | ⟨i, hi, e⟩
      · exact Or.inl e
      · exact Or.inr ⟨i, List.mem_cons_of_mem _ hi, e⟩
section ZKE
variable {ξ μ ν ξ' μ' : zm_M} {row row' stkC stkC' stk ord : List Nat} {Rs : Nat → List Nat} {ts us : Nat → zy_F} {lo : Nat → Nat} {s k sd : Nat}
theorem zK_kind (h : zK ξ μ row stkC stk ord Rs ts us) {k : Nat} (hk : k < 10) : (zd_til ξ k = true ↔ μ 234 k = 1) ∧ (zd_til ξ k = true → μ 238 k = ξ (zdW k) 5) ∧ (zd_th ξ k = true ↔ ¬ μ 234 k = 0) := by
  obtain ⟨h1, -, h0⟩ := h
  cases c : zd_th ξ k with
  | false =>
    have e0 := (h0.1.1 k hk).1 c
    have nt : ¬ zd_til ξ k = true := fun z => by
      have : zd_th ξ k = true := decide_eq_true (of_decide_eq_true z).1
      rw [c] at this
      cases this
    exact ⟨⟨fun z => absurd z nt, (fun z => by rw [e0] at z; exact absurd z (by decide))⟩, fun z => absurd z nt, ⟨(fun z => by cases z), fun z => absurd e0 z⟩⟩
  | true =>
    obtain ⟨e1, -, -, e4⟩ := (h0.1.1 k hk).2 c
    have c2 := of_decide_eq_true c
    refine ⟨?_, fun z => e4 (by rw [(of_decide_eq_true z).2]; decide), ⟨fun _ z => ?_, fun _ => rfl⟩⟩
    · rw [e1]
      exact ⟨fun z => (of_decide_eq_true z).2, fun z => decide_eq_true ⟨c2, z⟩⟩
    · rw [e1] at z
      rcases (h1.2.2.1 k hk c).1 with e | e | e | e <;> rw [e] at z <;> exact absurd z (by decide)
/-- shown on both sides -/
theorem zK_shn (h : zK ξ μ row stkC stk ord Rs ts us) (hk : k < 10) (hs : s < 3) : zd_shn ξ s k ↔ zv_shn μ us s k := by
  obtain ⟨q1, q2, q3⟩ := zK_kind h hk
  obtain ⟨h1, -, h0⟩ := h
  have hC := (h1.2.2.2.1 s hs).1
  have hzs := h0.2.2.2.1 s hs
  constructor
  · rintro ⟨a, b, c⟩
    have hkR : k ∈ Rs s := ((h1.2.2.2.1 s hs).2.1 k).mpr ⟨hk, a, b⟩
    obtain ⟨n, m, hn, ek, hat, hp⟩ := zs_at' hC.1 hzs hkR
    refine ⟨q1.mp a, (q2 a).trans b, m, hat, ?_⟩
    rw [hp.2]
    rw [ek, nI_clamp (by have := (zt_I_lvn hC.1).2 n hn; omega)] at c
    exact c
  · rintro ⟨a, b, m, hat, c⟩
    have a' := q1.mpr a
    have b' := (q2 a').symm.trans b
    have hkR : k ∈ Rs s := ((h1.2.2.2.1 s hs).2.1 k).mpr ⟨hk, a', b'⟩
    obtain ⟨n, m', hn, ek, hat', hp⟩ := zs_at' hC.1 hzs hkR
    have em := hat.2.2 m' hat'.1 hat'.2.1
    subst em
    refine ⟨a', b', ?_⟩
    rw [ek, nI_clamp (by have := (zt_I_lvn hC.1).2 n hn; omega)]
    rw [hp.2] at c
    exact c
theorem zt_so_of {T n o : Nat} {x y w v : Int32} (hn : n < 19) (e : ξ (T + 3) o = nI n) (p : zt_P ξ T n x y w v) : (zt_so ξ T 0 o = x ∧ zt_so ξ T 1 o = y) ∧ zt_lo ξ T 0 o = w ∧ zt_lo ξ T 1 o = v := by
  have c : ¬ ξ (T + 3) o < 0 := by rw [e]; exact nI_pos (by omega)
  unfold zt_so zt_lo
  rw [if_neg c, if_neg c, if_neg c, if_neg c, e, nI_clamp (by omega)]
  exact ⟨⟨p.1, p.2.1⟩, p.2.2.1, p.2.2.2⟩
/-- what a window counts as a neighbour, on both sides -/
theorem zK_nf (h : zK ξ μ row stkC stk ord Rs ts us) (hs : s < 3) (hsd : sd < 4) (hth : ¬ ξ (zdS s) 3 = 0) (hl : zd_laid ξ s (Rs s) (ts s)) (hv : zv_laid μ ν s (us s)) (fY : zv_frY μ ν) (hlo : zv_los μ us lo) (hkR : k ∈ Rs s) {o : Nat} (ho : o < 10) : zt_nf ξ (zdT s) k sd o = zv_nf ν s k sd lo o := by
  obtain ⟨q1, q2, q3⟩ := zK_kind h ho
  have hk := ((h.1.2.2.2.1 s hs).2.1 k).mp hkR
  obtain ⟨k1, k2, -⟩ := zK_kind h hk.1
  have hC := (h.1.2.2.2.1 s hs).1
  have e4 : ν 234 o = μ 234 o := fY _ _ (by omega) (by omega)
  have e8 : ν 238 o = μ 238 o := fY _ _ (by omega) (by omega)
  unfold zt_nf zv_nf
  rw [e4, e8]
  by_cases c : o ∈ Rs s
  · obtain ⟨-, ot, osc⟩ := ((h.1.2.2.2.1 s hs).2.1 o).mp c
    have ato := hlo s o hs ho (q1.mp ot) ((q2 ot).trans osc)
    have atk := hlo s k hs hk.1 (k1.mp hk.2.1) ((k2 hk.2.1).trans hk.2.2)
    obtain ⟨n, hn, en, hp, x, y, W, V, pa, pb, ⟨w1, w2⟩, v1, v2⟩ := zK_areas h hs hth hl hv c ato
    obtain ⟨n', hn', en', hp', x', y', W', V', pa', pb', ⟨w1', w2'⟩, v1', v2'⟩ := zK_areas h hs hth hl hv hkR atk
    have n19 := (zt_I_lvn hC.1).2 n hn
    have n19' := (zt_I_lvn hC.1).2 n' hn'
    obtain ⟨⟨s0, s1⟩, l0, l1⟩ := zt_so_of n19 en pa
    obtain ⟨⟨s0', s1'⟩, l0', l1'⟩ := zt_so_of n19' en' pa'
    have nn : ¬ ξ (zdT s + 3) o < 0 := by rw [en]; exact nI_pos (by omega)
    have e50 : ν 250 (24 * s + lo o) = ξ (zdT s + 12) n := (fY _ _ (by omega) (by omega)).trans hp.2
    rw [e50, en, nI_clamp (by omega)]
    have nn' : ¬ nI n < 0 := nI_pos (by omega)
    by_cases ek : o = k
    · subst ek
      have hme : zt_me ξ (zdT s) o o sd = false := by
        have ne : ∀ (p : Int32) (A : Nat), 1 ≤ A → A ≤ 400 → ¬ p + nI A = p := fun p A a b z => by
          have : nI A = 0 := by
            have e : nI A + p - p = p - p := by rw [Int32.add_comm, z]
            rw [Int32.add_sub_cancel, Int32.sub_self] at e
            exact e
          exact nI_ne0 a (by omega) this
        unfold zt_me
        match sd, hsd with
        | 0, _ =>
          show decide (zt_so ξ (zdT s) 0 o + zt_lo ξ (zdT s) 0 o = zt_so ξ (zdT s) 0 o) = false
          rw [s0, l0]
          exact decide_eq_false (ne _ _ w1 w2)
        | 1, _ =>
          show decide (zt_so ξ (zdT s) 0 o = zt_so ξ (zdT s) 0 o + zt_lo ξ (zdT s) 0 o) = false
          rw [s0, l0]
          exact decide_eq_false (fun z => ne _ _ w1 w2 z.symm)
        | 2, _ =>
          show decide (zt_so ξ (zdT s) 1 o + zt_lo ξ (zdT s) 1 o = zt_so ξ (zdT s) 1 o) = false
          rw [s1, l1]
          exact decide_eq_false (ne _ _ v1 v2)
        | 3, _ =>
          show decide (zt_so ξ (zdT s) 1 o = zt_so ξ (zdT s) 1 o + zt_lo ξ (zdT s) 1 o) = false
          rw [s1, l1]
          exact decide_eq_false (fun z => ne _ _ v1 v2 z.symm)
      rw [if_neg (fun z => by rw [hme] at z; cases z.2), if_neg (fun z => z.1.1 rfl)]
    · have hme : zt_me ξ (zdT s) k o sd = zv_me ν sd (lo k) (lo o) := by
        unfold zt_me zv_me
        match sd, hsd with
        | 0, _ =>
          show decide (zt_so ξ (zdT s) 0 o + zt_lo ξ (zdT s) 0 o = zt_so ξ (zdT s) 0 k) = decide (ν 255 (lo o) + ν 257 (lo o) = ν 255 (lo k))
          rw [s0, l0, s0', pb.1, pb.2.2.1, pb'.1]
        | 1, _ =>
          show decide (zt_so ξ (zdT s) 0 o = zt_so ξ (zdT s) 0 k + zt_lo ξ (zdT s) 0 k) = decide (ν 255 (lo k) + ν 257 (lo k) = ν 255 (lo o))
          rw [s0, l0', s0', pb.1, pb'.2.2.1, pb'.1]
          exact decide_eq_decide.mpr eq_comm
        | 2, _ =>
          show decide (zt_so ξ (zdT s) 1 o + zt_lo ξ (zdT s) 1 o = zt_so ξ (zdT s) 1 k) = decide (ν 256 (lo o) + ν 258 (lo o) = ν 256 (lo k))
          rw [s1, l1, s1', pb.2.1, pb.2.2.2, pb'.2.1]
        | 3, _ =>
          show decide (zt_so ξ (zdT s) 1 o = zt_so ξ (zdT s) 1 k + zt_lo ξ (zdT s) 1 k) = decide (ν 256 (lo k) + ν 258 (lo k) = ν 256 (lo o))
          rw [s1, l1', s1', pb.2.1, pb'.2.2.2, pb'.2.1]
          exact decide_eq_decide.mpr eq_comm
      have hcb : zt_cb ξ (zdT s) k o (1 - sd / 2) = zv_cb ν sd (lo k) (lo o) := by
        unfold zt_cb zv_cb
        simp only [zi_mn_lt, zi_mx_lt]
        match sd, hsd with
        | 0, _ =>
          show zi_mn (zt_so ξ (zdT s) 1 k + zt_lo ξ (zdT s) 1 k) (zt_so ξ (zdT s) 1 o + zt_lo ξ (zdT s) 1 o) - zi_mx (zt_so ξ (zdT s) 1 k) (zt_so ξ (zdT s) 1 o) = _
          rw [s1, l1, s1', l1', if_pos (by decide), pb.2.1, pb.2.2.2, pb'.2.1, pb'.2.2.2]
        | 1, _ =>
          show zi_mn (zt_so ξ (zdT s) 1 k + zt_lo ξ (zdT s) 1 k) (zt_so ξ (zdT s) 1 o + zt_lo ξ (zdT s) 1 o) - zi_mx (zt_so ξ (zdT s) 1 k) (zt_so ξ (zdT s) 1 o) = _
          rw [s1, l1, s1', l1', if_pos (by decide), pb.2.1, pb.2.2.2, pb'.2.1, pb'.2.2.2]
        | 2, _ =>
          show zi_mn (zt_so ξ (zdT s) 0 k + zt_lo ξ (zdT s) 0 k) (zt_so ξ (zdT s) 0 o + zt_lo ξ (zdT s) 0 o) - zi_mx (zt_so ξ (zdT s) 0 k) (zt_so ξ (zdT s) 0 o) = _
          rw [s0, l0, s0', l0', if_neg (by decide), pb.1, pb.2.2.1, pb'.1, pb'.2.2.1]
        | 3, _ =>
          show zi_mn (zt_so ξ (zdT s) 0 k + zt_lo ξ (zdT s) 0 k) (zt_so ξ (zdT s) 0 o + zt_lo ξ (zdT s) 0 o) - zi_mx (zt_so ξ (zdT s) 0 k) (zt_so ξ (zdT s) 0 o) = _
          rw [s0, l0, s0', l0', if_neg (by decide), pb.1, pb.2.2.1, pb'.1, pb'.2.2.1]
      rw [hme, hcb]
      by_cases c2 : ξ (zdT s + 12) n = nI o ∧ zv_me ν sd (lo k) (lo o) = true
      · rw [if_pos ⟨⟨nn', c2.1⟩, c2.2⟩, if_pos ⟨⟨ek, q1.mp ot, (q2 ot).trans osc, c2.1⟩, c2.2⟩]
      · rw [if_neg (fun z => c2 ⟨z.1.2, z.2⟩), if_neg (fun z => c2 ⟨z.1.2.2.2, z.2⟩)]
  · have e3 : ξ (zdT s + 3) o = -1 := hC.1.2.2.2.2.1 o ho c
    rw [if_neg (fun z => z.1.1 (by rw [e3]; decide)), if_neg (fun z => c ?_)]
    have ot := q1.mpr z.1.2.1
    exact ((h.1.2.2.2.1 s hs).2.1 o).mpr ⟨ho, ot, (q2 ot).symm.trans z.1.2.2.1⟩
theorem zK_nbr (h : zK ξ μ row stkC stk ord Rs ts us) (hs : s < 3) (hsd : sd < 4) (hl : zd_laid ξ s (Rs s) (ts s)) (hv : zv_laid μ ν s (us s)) (fY : zv_frY μ ν) (hlo : zv_los μ us lo) (hk : k < 10) (hsh : zd_shn ξ s k) : (zd_ngb ξ s k sd = -1000000005 ∧ zl_nb (zv_nf ν s k sd lo) (List.range 10) (-1) 0 = -1) ∨ ∃ i, i < 10 ∧ zd_ngb ξ s k sd = nI i ∧ zl_nb (zv_nf ν s k sd lo) (List.range 10) (-1) 0 = nI i := by
  have hkR : k ∈ Rs s := ((h.1.2.2.2.1 s hs).2.1 k).mpr ⟨hk, hsh.1, hsh.2.1⟩
  have hth : ¬ ξ (zdS s) 3 = 0 := by
    obtain ⟨t1, t2⟩ := of_decide_eq_true hsh.1
    obtain ⟨q, hq, e1, e2⟩ := (h.1.2.2.1 k hk (decide_eq_true t1)).2.2.1 (by rw [t2]; decide)
    have := (nI_eq (by omega) (by omega)).mp (hsh.2.1.symm.trans e1)
    subst this
    exact e2
  unfold zd_ngb
  rw [zl_nb_congr (List.range 10) _ _ (fun i hi => zK_nf h hs hsd hth hl hv fY hlo hkR (List.mem_range.mp hi))]
  rcases zl_nb_two (f := zv_nf ν s k sd lo) (List.range 10) (-1000000005) (-1) 0 with e | ⟨i, hi, e⟩
  · exact Or.inl e
  · exact Or.inr ⟨i, List.mem_range.mp hi, e⟩
end ZKE
