/-! the reference: a new window tiled -/
def zv_tlN (μ ν : zm_M) (s k m : Nat) (ac : Bool) (u u' : zy_F) (b : Int32) : Prop :=
  ∃ ξ1 ab1 c1 f1, zu_isCut (zu_cq μ s 6 24 240) 6 u m k (if ac = true then 0 else 1) false ξ1 ab1 c1 f1 ∧ zu_fr 6 μ ξ1 ∧
    ((zu_fit ξ1 6 (zy_cut m c1 f1 u) (μ 232 s) (μ 233 s) = true ∧ b = 1 ∧ ν = zu_cq ξ1 6 s 24 240 ∧ u' = zy_cut m c1 f1 u) ∨
     (zu_fit ξ1 6 (zy_cut m c1 f1 u) (μ 232 s) (μ 233 s) = false ∧ ∃ ξ2 ab2 c2 f2, zu_isCut (zu_cq ξ1 s 6 24 240) 6 u m k (if ac = true then 1 else 0) false ξ2 ab2 c2 f2 ∧ zu_fr 6 ξ1 ξ2 ∧
       ((zu_fit ξ2 6 (zy_cut m c2 f2 u) (μ 232 s) (μ 233 s) = true ∧ b = 1 ∧ ν = zu_cq ξ2 6 s 24 240 ∧ u' = zy_cut m c2 f2 u) ∨
        (zu_fit ξ2 6 (zy_cut m c2 f2 u) (μ 232 s) (μ 233 s) = false ∧ ∃ ξ3 ab3, zu_isTab (zu_cq ξ2 s 6 24 240) 6 u ab3 m k ξ3 ∧ zu_fr 6 ξ2 ξ3 ∧
          ((zu_fit ξ3 6 u (μ 232 s) (μ 233 s) = true ∧ b = 1 ∧ ν = zu_cq ξ3 6 s 24 240 ∧ u' = u) ∨ (zu_fit ξ3 6 u (μ 232 s) (μ 233 s) = false ∧ b = 0 ∧ ν = ξ3))))))
def zv_tl0 (μ ν : zm_M) (s k : Nat) (u' : zy_F) (b : Int32) : Prop :=
  ∃ ξ f, zu_isNew μ 6 k ξ f ∧ ((zu_fit ξ 6 (.tag f .nil) (μ 232 s) (μ 233 s) = true ∧ b = 1 ∧ ν = zu_cq ξ 6 s 24 240 ∧ u' = .tag f .nil) ∨ (zu_fit ξ 6 (.tag f .nil) (μ 232 s) (μ 233 s) = false ∧ b = 0 ∧ ν = ξ))
/-- what tile did: u' is the screen's tree then, if b is 1 -/
def zv_tl (μ ν : zm_M) (row : List Nat) (u : zy_F) (s k : Nat) (lo : Nat → Nat) (b : Int32) (u' : zy_F) : Prop :=
  (zv_lah μ s lo row = -1 ∧ zv_tl0 μ ν s k u' b) ∨ ∃ m μ1, zv_lah μ s lo row = nI m ∧ m ∈ zy_lvs u ∧ zv_frY μ μ1 ∧ zv_laid μ μ1 s u ∧ zv_tlN μ1 ν s k m (decide (¬ μ1 257 m < μ1 258 m)) u u' b
section ZWR
variable {μ ν M : zm_M} {row stk : List Nat} {us : Nat → zy_F} {u : zy_F} {ab : Nat → Int32} {k s m : Nat} {b : Int32}
/-- what is known of the tree when the window has come -/
def zv_tlK (M ν : zm_M) (s k : Nat) (b : Int32) (u' : zy_F) : Prop :=
  (b = 0 ∨ b = 1) ∧ (b = 1 → ∃ ab m, zu_I ν s u' ab ∧ zu_at ν s u' k m) ∧ ∀ c d, ¬ (c = 231 ∧ d = 30) → ¬ (255 ≤ c ∧ c ≤ 259) → ¬ zu_in 6 c d → (b = 1 → ¬ zu_in s c d) → ν c d = M c d
theorem zv_tlN_of {ac : Bool} (hs : s < 3) (hk : k < 10) (hI : zu_I μ s u ab) (hm : m ∈ zy_lvs u) (hno : ∀ n ∈ zy_lvs u, k ∉ zu_tb μ s n) (h : zv_tiledN μ ν s k m ac u b) : ∃ u', zv_tlN μ ν s k m ac u u' b ∧ zv_tlK μ ν s k b u' := by
  have hs6 : s ≠ 6 := by omega
  have h6s : (6 : Nat) ≠ s := by omega
  -- the window in a trial tree that is a copy of the screen's
  have nox : ∀ {A : zm_M}, zu_eqT μ s A s → zu_I (zu_cq A s 6 24 240) 6 u ab ∧ ∀ n ∈ zy_lvs u, k ∉ zu_tb (zu_cq A s 6 24 240) 6 n := fun {A} e => by
    have t := e.trans (zu_cq_eqT (μ := A) (f := s) (t := 6))
    exact ⟨t.I hI, fun n hn => by rw [t.tb (zu_I_lt hI hn) (zu_I_tbl hI hn)]; exact hno n hn⟩
  have toS : ∀ {ξ : zm_M} {u' : zy_F} {ab' : Nat → Int32} {f : Nat}, zu_fr 6 μ ξ → zu_I ξ 6 u' ab' → zu_at ξ 6 u' k f → zv_tlK μ (zu_cq ξ 6 s 24 240) s k 1 u' := fun {ξ u' ab' f} fx i a => by
    have t := zu_cq_eqT (μ := ξ) (f := 6) (t := s)
    exact ⟨Or.inr rfl, fun _ => ⟨ab', f, t.I i, zu_at_eqT i t a⟩, fun c d _ _ r3 r4 => (zu_cq_out (r4 rfl)).trans (fx c d r3)⟩
  obtain ⟨ξ1, ab1, c1, f1, p1, p2, p3⟩ := h
  obtain ⟨i1, n1⟩ := nox (zu_eqT.refl (μ := μ) (τ := s))
  rcases p3 with ⟨q1, q2, q3⟩ | ⟨q1, ξ2, ab2, c2, f2, p4, p5, p6⟩
  · refine ⟨zy_cut m c1 f1 u, ⟨ξ1, ab1, c1, f1, p1, p2, Or.inl ⟨q1, q2, q3, rfl⟩⟩, ?_⟩
    rw [q2, q3]
    exact toS p2 p1.1 (zu_isCut_at i1 hm hk n1 p1)
  · obtain ⟨i2, n2⟩ := nox (p2.eqT hs6)
    have p25 := p2.trans p5
    rcases p6 with ⟨r1, r2, r3⟩ | ⟨r1, ξ3, ab3, p7, p8, p9⟩
    · refine ⟨zy_cut m c2 f2 u, ⟨ξ1, ab1, c1, f1, p1, p2, Or.inr ⟨q1, ξ2, ab2, c2, f2, p4, p5, Or.inl ⟨r1, r2, r3, rfl⟩⟩⟩, ?_⟩
      rw [r2, r3]
      exact toS p25 p4.1 (zu_isCut_at i2 hm hk n2 p4)
    · obtain ⟨i3, n3⟩ := nox (p25.eqT hs6)
      have p258 := p25.trans p8
      rcases p9 with ⟨t1, t2, t3⟩ | ⟨t1, t2, t3⟩
      · refine ⟨u, ⟨ξ1, ab1, c1, f1, p1, p2, Or.inr ⟨q1, ξ2, ab2, c2, f2, p4, p5, Or.inr ⟨r1, ξ3, ab3, p7, p8, Or.inl ⟨t1, t2, t3, rfl⟩⟩⟩⟩, ?_⟩
        rw [t2, t3]
        exact toS p258 p7.1 (zu_isTab_at i3 hm hk n3 p7)
      · refine ⟨u, ⟨ξ1, ab1, c1, f1, p1, p2, Or.inr ⟨q1, ξ2, ab2, c2, f2, p4, p5, Or.inr ⟨r1, ξ3, ab3, p7, p8, Or.inr ⟨t1, t2, t3⟩⟩⟩⟩, Or.inl t2, fun e => ?_, fun c d _ _ r3' _ => ?_⟩
        · rw [t2] at e; exact absurd e (by decide)
        · rw [t3]; exact p258 c d r3'
theorem zv_tl0_of (hs : s < 3) (hk : k < 10) (h : zv_tiled0 μ ν s k b) : ∃ u', zv_tl0 μ ν s k u' b ∧ zv_tlK μ ν s k b u' := by
  obtain ⟨ξ, f, p1, p2⟩ := h
  rcases p2 with ⟨q1, q2, q3⟩ | ⟨q1, q2, q3⟩
  · refine ⟨.tag f .nil, ⟨ξ, f, p1, Or.inl ⟨q1, q2, q3, rfl⟩⟩, Or.inr q2, fun _ => ?_, fun c d _ _ r3 r4 => ?_⟩
    · rw [q3]
      have t := zu_cq_eqT (μ := ξ) (f := 6) (t := s)
      exact ⟨_, f, t.I p1.1, zu_at_eqT p1.1 t (zu_isNew_at hk p1)⟩
    · rw [q3, zu_cq_out (r4 q2)]
      exact p1.2.2.2.2 c d r3
  · refine ⟨.nil, ⟨ξ, f, p1, Or.inr ⟨q1, q2, q3⟩⟩, Or.inl q2, fun e => ?_, fun c d _ _ r3 _ => ?_⟩
    · rw [q2] at e; exact absurd e (by decide)
    · rw [q3]; exact p1.2.2.2.2 c d r3
theorem zv_lah_or {lo : Nat → Nat} (hlo : zv_los μ us lo) (hs : s < 3) : ∀ l : List Nat, (∀ j ∈ l, j < 10) → zv_lah μ s lo l = -1 ∨ ∃ m, zv_lah μ s lo l = nI m ∧ m ∈ zy_lvs (us s)
  | [], _ => Or.inl rfl
  | x :: l, hm => by
    show (if μ 234 x = 1 ∧ μ 238 x = nI s then nI (lo x) else zv_lah μ s lo l) = -1 ∨ ∃ m, (if μ 234 x = 1 ∧ μ 238 x = nI s then nI (lo x) else zv_lah μ s lo l) = nI m ∧ m ∈ zy_lvs (us s)
    by_cases c : μ 234 x = 1 ∧ μ 238 x = nI s
    · rw [if_pos c]
      exact Or.inr ⟨lo x, rfl, (hlo s x hs (hm x (List.mem_cons_self ..)) c.1 c.2).1⟩
    · rw [if_neg c]
      exact zv_lah_or hlo hs l (fun j hj => hm j (List.mem_cons_of_mem _ hj))
/-- tile(k, s) of a window that is not there yet; M is the memory but for its sizes -/
theorem zR_tile (D : Nat) (h : zR μ row stk us) (hk : k < 10) (hs : s < 3) (hk0 : μ 234 k = 0) (fM : ∀ c d, c ≠ 235 → c ≠ 236 → M c d = μ c d) :
    ∃ lo ν b u', zv_los M us lo ∧ ze_E (D + 28) A_Mod_tile [.ref 232, .int (nI k), .int (nI s)] (zm_mk M) (some (.int b)) (zm_mk ν) ∧ zv_tl M ν row (us s) s k lo b u' ∧ zv_tlK M ν s k b u' := by
  obtain ⟨lo, hlo⟩ := zR_lo h
  have tT : ∀ q, zu_eqT μ q M q := fun q => zu_eq_in (fun c d r => fM c d (fun z => zu_in_not (Or.inl (by omega)) r) (fun z => zu_in_not (Or.inl (by omega)) r))
  have hloM : zv_los M us lo := fun q j hq hj a b => by
    rw [fM _ _ (by decide) (by decide)] at a b
    obtain ⟨⟨ab, hI⟩, -⟩ := h.2.2.2.2.1 q hq
    exact zu_at_eqT hI (tT q) (hlo q j hq hj a b)
  obtain ⟨⟨ab, hI⟩, hnd, hw⟩ := h.2.2.2.2.1 s hs
  have hIM := (tT s).I hI
  have hndM := zu_nd_eqT hI hnd (tT s)
  have hno : ∀ n ∈ zy_lvs (us s), k ∉ zu_tb M s n := fun n hn z => by
    rw [(tT s).tb (zu_I_lt hI hn) (zu_I_tbl hI hn)] at z
    have := (hw n hn k z).1
    rw [hk0] at this
    exact absurd this (by decide)
  have hR := h.2.1
  have rb : ∀ x ∈ row, x < 10 := fun x hx => ((hR.2.2 x).mp hx).1
  have hRM : zv_L M 242 12 row := ⟨hR.1.1, (fM _ _ (by decide) (by decide)).trans hR.1.2.1, fun j hj => (fM _ _ (by decide) (by decide)).trans (hR.1.2.2 j hj)⟩
  have hsz := h.2.2.2.2.2.2 s hs
  have h0 : 0 ≤ M 232 s := by rw [fM _ _ (by decide) (by decide)]; exact hsz.1
  have h1 : 0 ≤ M 233 s := by rw [fM _ _ (by decide) (by decide)]; exact hsz.2
  rcases zv_lah_or (s := s) hloM hs row rb with el | ⟨m, el, hm⟩
  · obtain ⟨ν, b, E, q⟩ := ze_Mtile0 (μ := M) D hk hs hIM hRM rb (fun j hj a c => hloM s j hs hj a c) el h0 h1
    obtain ⟨u', q1, q2⟩ := zv_tl0_of hs hk q
    exact ⟨lo, ν, b, u', hloM, E, Or.inl ⟨el, q1⟩, q2⟩
  · obtain ⟨M1, ν, b, E, f1, hl, q⟩ := ze_MtileN (μ := M) D hk hs hIM hRM rb (fun j hj a c => hloM s j hs hj a c) el hm (zu_lvs10 hIM hndM).2 (zu_tb9 hIM hndM hm hk (hno m hm)) h0 h1
    have t1 := zv_frY_eqT (τ := s) f1
    obtain ⟨u', q1, q2, q3, q4⟩ := zv_tlN_of hs hk (t1.I hIM) hm (fun n hn z => by
      rw [t1.tb (zu_I_lt hIM hn) (zu_I_tbl hIM hn)] at z
      exact hno n hn z) q
    refine ⟨lo, ν, b, u', hloM, E, Or.inr ⟨m, M1, el, hm, f1, hl, q1⟩, q2, q3, fun c d r1 r2 r3 r4 => (q4 c d r1 r2 r3 r4).trans (f1 c d r1 r2)⟩
end ZWR
