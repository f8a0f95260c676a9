/-! the law: the stack's order the same on both sides -/
/-- the class's cells of the stack stand -/
def zY_up (M N : zm_M) : Prop := ∀ c, c = 5 ∨ c = 6 → N c = M c
/-- the reference's stack stands -/
def zY_lo (N θ : zm_M) : Prop := ∀ c d, c = 241 ∨ (c = 231 ∧ d = 10) → θ c d = N c d
def zY_st (M : zm_M) : Prop := ∃ S, zr_L M 5 S ∧ zv_L M 241 10 S ∧ ∀ x ∈ S, x < 10
def zY (M : zm_M) : Prop := zW M ∧ zY_st M
def zY_c (M : zm_M) (a b : Nat) (vs : List Value) : Prop := ∃ N θ r1 r2, ze_E 64 a (.ref 1 :: vs) (zm_mk M) (some (.int r1)) (zm_mk N) ∧ ze_E 64 b (.ref 232 :: vs) (zm_mk N) (some (.int r2)) (zm_mk θ) ∧ zY θ
def zY_e (M : zm_M) (a b : Nat) (vs : List Value) : Prop := ∃ N θ r, ze_E 64 a (.ref 1 :: vs) (zm_mk M) (some (.int r)) (zm_mk N) ∧ ze_E 64 b (.ref 232 :: vs) (zm_mk N) (some (.int r)) (zm_mk θ) ∧ zY θ
section ZYF
variable {M N θ ξ : zm_M} {row row' stk : List Nat} {Rs Rs' : Nat → List Nat} {ts ts' us : Nat → zy_F} {s k : Nat} {w x y v o kd : Int32}
theorem zY_up.trans (h : zY_up M N) (g : zY_up N ξ) : zY_up M ξ := fun c hc => (g c hc).trans (h c hc)
theorem zY_up.refl : zY_up M M := fun _ _ => rfl
theorem zY_lo.trans (h : zY_lo M N) (g : zY_lo N ξ) : zY_lo M ξ := fun c d hc => (g c d hc).trans (h c d hc)
theorem zY_lo.refl : zY_lo M M := fun _ _ _ => rfl
theorem zY_u_eqv (h : zJ_eqv M N) : zY_up M N := fun c hc => h c (zJn_0 (by omega))
theorem zY_u_fgt {p : Nat → Bool} (h : zd_fgt M N p) : zY_up M N := fun c hc => funext fun b => h.2 c b (fun s hs e => by unfold zdK at e; omega)
theorem zY_u_mov (h : zd_mov M N w x y) : zY_up M N := by
  rcases h with ⟨-, rfl⟩ | ⟨k, ξ, -, -, -, -, h1, h2⟩
  · exact zY_up.refl
  · exact (zY_u_fgt h1).trans (zY_u_eqv h2)
theorem zY_u_shr (h : zd_shr M N ts w x v) : zY_up M N := by
  rcases h with ⟨-, rfl⟩ | ⟨k, s, n, a, -, hs, -, -, -, -, -, -, -, -, -, rfl⟩
  · exact zY_up.refl
  · exact fun c hc => zm_up_row (by unfold zdT; omega)
theorem zY_u_gon (h : zd_gon M N Rs Rs' ts ts' w) : zY_up M N := by
  rcases h with ⟨-, rfl, -⟩ | ⟨s, o, ν2, emp, W, n0, hs, ho, -, -, -, -, -, -, -, h⟩
  · exact zY_up.refl
  · rcases h with ⟨-, h, -⟩ | ⟨-, -, -, h1, -⟩
    · exact zY_u_eqv h
    · exact fun c hc => funext fun d => h1 c d (zJn_0 (by omega)) (by unfold zt_out zdT; omega) (by unfold zt_out zdT; omega) (by unfold zt_out zdV; omega) (by unfold zdQ; omega) (by unfold zdK; omega) (by unfold zdS; omega) (fun j hj e => by unfold zdW at e; omega)
theorem zY_u_rsz (hs : s < 3) (h : zd_rsz M N Rs ts s x y) : zY_up M N := by
  obtain ⟨ξ, h1, -, -, h⟩ := h
  rcases h with ⟨-, rfl⟩ | ⟨-, h, -⟩
  · exact zY_u_eqv h1
  · exact fun c hc => h c (zJn_0 (by omega)) (by unfold zdZ; omega)
theorem zY_u_scn (hs : s < 3) (h : zd_scn2 M N Rs Rs' ts ts' s x y) : zY_up M N := by
  obtain ⟨ξ, ν1, h1, rfl, h⟩ := h
  have a1 : zY_up M ξ := fun c hc => funext fun d => h1.1 c d (by omega) (by unfold zdZ; omega) (by unfold zdS; omega)
  have a2 : zY_up ν1 (zm_up ν1 (zdK s) 3 0) := fun c hc => zm_up_row (by unfold zdK; omega)
  rcases h with ⟨-, h, -⟩ | ⟨-, ν2, ν3, Rs1, ts1, -, -, h, -⟩
  · exact a1.trans (zY_up.trans (fun c hc => h c (by omega)) a2)
  · exact a1.trans (zY_up.trans (fun c hc => funext fun d => h c d (zJn_0 (by omega)) (fun q hq => by unfold zt_out zdT; omega) (fun q hq e => by unfold zdK at e; omega) (fun j hj e => by unfold zdW at e; omega)) a2)
theorem zY_l_fr (h : zM_fr N θ) : zY_lo N θ := fun c d hc => h c d (by omega) (by omega) (by omega) (by omega)
theorem zY_l_mov (h : zv_mov N θ w x y) : zY_lo N θ := by
  rcases h with ⟨-, rfl⟩ | ⟨k, ξ, -, -, -, -, h1, rfl⟩
  · exact zY_lo.refl
  · exact fun c d hc => (zv_fg_ne (by omega)).trans (h1 c d (by omega) (by omega))
theorem zY_l_shr (h : zv_shr N θ us w x v) : zY_lo N θ := by
  rcases h with ⟨-, rfl⟩ | ⟨k, s, n, a, -, hs, -, -, -, -, -, -, -, -, rfl⟩
  · exact zY_lo.refl
  · exact fun c d hc => zm_up_ne (by omega)
theorem zY_l_gon (h : zv_gon N θ us w) : zY_lo N θ := by
  rcases h with ⟨-, rfl⟩ | ⟨s, o, emp, ξ, ξ2, n1, W, hs, ho, -, -, -, -, -, -, -, -, h1, h2, h⟩
  · exact zY_lo.refl
  · rcases h with ⟨-, rfl⟩ | ⟨-, h⟩
    · exact fun c d hc => (h2.2.1 c d (zu_in_not (by omega))).trans ((h1 c d (by omega) (by omega)).trans (zu_cq_out (zu_in_not (by omega))))
    · exact fun c d hc => h.2.2.2.2.2.2.2 c d (by omega) (by omega) (by omega) (by omega) (by omega) (by omega) (by omega) (by omega) (by omega) (zu_in_not (by omega)) (zu_in_not (by omega)) (zu_in_not (by omega)) (zu_in_not (by omega))
theorem zY_l_scr (h : zv_scr N θ us w x y) : zY_lo N θ := by
  rcases h with ⟨-, rfl⟩ | ⟨s, ha, h⟩
  · exact zY_lo.refl
  · rcases h with ⟨-, ⟨-, rfl⟩ | ⟨-, -, h⟩⟩ | ⟨-, M, hM, h⟩
    · exact zY_lo.refl
    · exact fun c d hc => h c d (by omega) (by omega) (by omega) (by omega)
    · have a : zY_lo N M := fun c d hc => hM.2.2 c d (by omega) (by omega) (zu_in_not (by omega))
      rcases h with ⟨-, -, h⟩ | ⟨-, -, M2, ξ, us1, ν1, h1, h2, h3, rfl⟩
      · exact a.trans (fun c d hc => h c d (by omega) (by omega))
      · refine a.trans (fun c d hc => (zm_up_ne (by omega)).trans ((h3.2.2 c d (by omega) (by omega) (by omega) (by omega)).trans ((zu_cq_out (zu_in_not (by omega))).trans ((h2.2.2 c d (by omega) (fun q _ => zu_in_not (by omega))).trans (h1 c d (by omega) (by omega) (by omega))))))
theorem zY_st_k (s : zY_st M) (up : zW_up M N) (u : zY_up M N) (lo : zW_lo N θ) (l : zY_lo N θ) : zY_st θ := by
  obtain ⟨S, h1, h2, h3⟩ := s
  refine ⟨S, zr_L_congr ((lo 5 (by decide)).trans (u 5 (Or.inl rfl))) ((lo 6 (by decide)).trans (u 6 (Or.inr rfl))) h1, ⟨h2.1, ?_, fun j hj => ?_⟩, h3⟩
  · rw [l 231 10 (Or.inr ⟨rfl, rfl⟩), up 231 (by decide)]
    exact h2.2.1
  · rw [l 241 j (Or.inl rfl), up 241 (by decide)]
    exact h2.2.2 j hj
theorem zv_L_uq {C q : Nat} {l l' : List Nat} (h : zv_L M C q l) (h' : zv_L M C q l') (hb : ∀ x ∈ l, x < 10) (hb' : ∀ x ∈ l', x < 10) : l = l' := by
  have e := zv_L_len h h'
  refine List.ext_getElem e (fun i h1 h2 => ?_)
  have a := h.2.2 i h1
  have b := h'.2.2 i h2
  have z1 : l.getD i 0 = l[i] := by rw [List.getD_eq_getElem?_getD, List.getElem?_eq_getElem h1]; rfl
  have z2 : l'.getD i 0 = l'[i] := by rw [List.getD_eq_getElem?_getD, List.getElem?_eq_getElem h2]; rfl
  rw [z1] at a
  rw [z2] at b
  have b1 := hb _ (List.getElem_mem h1)
  have b2 := hb' _ (List.getElem_mem h2)
  exact (nI_eq (by omega) (by omega)).mp (a.symm.trans b)
end ZYF
section ZYG
variable {M N θ ξ μ ξ' μ' : zm_M} {row row' stkC stkC' stk stk' ord : List Nat} {Rs Rs' : Nat → List Nat} {ts ts' us us' : Nat → zy_F} {k : Nat}
theorem zY_eq (h : zK M M row stkC stk ord Rs ts us) (s : zY_st M) : stkC = stk := by
  obtain ⟨S, h1, h2, h3⟩ := s
  rw [zr_L_uq h.1.2.1.1 h1 h.1.2.1.2.2 h3]
  exact zv_L_uq h2 h.2.1.2.1 h3 (fun x hx => ((h.2.1.2.2.2 x).mp hx).1)
theorem zY_ro (h : zK M M row stkC stk ord Rs ts us) (s : zY_st M) (e : zJ_eqv M N) (f : zM_fr N θ) : zY θ := ⟨zW_ro h e f, zY_st_k s (zW_eqv e) (zY_u_eqv e) (zW_fr f) (zY_l_fr f)⟩
theorem zK_flo3 (h : zK ξ μ row stkC stk ord Rs ts us) {x : Nat} (hx : x < 10) : zd_flo ξ x = true ↔ 2 ≤ μ 234 x := by
  rw [zK_flo h hx]
  rcases (zK_R h).1 x hx with e | e | e | e | e <;> rw [e] <;> decide
/-- windows and their owners, as the reference has them -/
theorem zK_flow (h : zK ξ μ row stkC stk ord Rs ts us) : zv_flow μ (zd_flo ξ) (zd_owb ξ) := by
  refine ⟨fun x hx => zK_flo3 h hx, fun a x ha hx => ?_⟩
  have h2 := h.2.2.1.1 x hx
  cases e : zd_th ξ x with
  | false =>
    rw [h2.1 e]
    exact ⟨fun z => absurd (of_decide_eq_true z).2.2.1 (of_decide_eq_false e), fun z => absurd z.1 (by decide)⟩
  | true =>
    obtain ⟨q1, -, q2, -⟩ := h2.2 e
    rw [zd_owb_of ha hx e, q1]
    constructor
    · intro z
      have k3 : ξ (zdW x) 3 = 3 := by
        refine Decidable.byContradiction fun n => ?_
        have := (h.1.2.2.1 x hx e).2.2.2.2 n
        rw [z] at this
        exact nI_ne_m1 (by omega) this
      exact ⟨k3, (q2 k3).trans z⟩
    · rintro ⟨z1, z2⟩
      exact (q2 z1).symm.trans z2
theorem zK_rkc (h : zK ξ μ row stkC stk ord Rs ts us) : ∃ rk, zd_rkc ξ rk := by
  obtain ⟨rk, r1, r2⟩ := (zK_R h).2.2.2.1
  have fl := zK_flow h
  refine ⟨fun x => if x < 10 then rk x else 0, fun x => ?_, fun a b e => ?_, fun a b e => ?_⟩
  · show (if x < 10 then rk x else 0) ≤ 9
    by_cases c : x < 10
    · rw [if_pos c]; exact r1 x c
    · rw [if_neg c]; decide
  · obtain ⟨ha, hb, -, -⟩ := of_decide_eq_true e
    obtain ⟨e1, e2⟩ := (fl.2 a b ha hb).mp e
    obtain ⟨o, ho, e3, lt⟩ := r2 b hb e1
    have := (nI_eq (by omega) (by omega)).mp (e3.symm.trans e2)
    subst this
    show (if o < 10 then rk o else 0) < (if b < 10 then rk b else 0)
    rw [if_pos ho, if_pos hb]
    exact lt
  · obtain ⟨ha, hb, -, -⟩ := of_decide_eq_true e
    obtain ⟨e1, -⟩ := (fl.2 a b ha hb).mp e
    rw [zK_flo3 h hb, e1]
    decide
/-- the focus given on both sides: the stacks are the same again -/
theorem zY_fox (hc : ∃ rk, zd_rkc ξ rk) (hw : zv_flow μ (zd_flo ξ) (zd_owb ξ)) (hl : zr_L ξ 5 stk) (hn : stk.Nodup) (hb : ∀ j ∈ stk, j < 10 ∧ zd_flo ξ j = true) (hk : k < 10) (f : zd_fox ξ ξ' k) (g : zv_fox μ μ' row stk us k) (lo : ∀ c, c < 231 → μ' c = ξ' c) : zY_st μ' := by
  obtain ⟨rk, hc⟩ := hc
  have a := f.2 stk rk hl hn hb hc
  have b := g.2 _ _ hw
  refine ⟨zd_rz ξ 10 k stk, zr_L_congr (lo 5 (by decide)) (lo 6 (by decide)) a, b, fun x hx => ?_⟩
  rcases (zl_rz_ok (fl := zd_flo ξ) (ow := zd_owb ξ) 10 k stk hn).2.2.1 x hx with z | z
  · exact (hb x z).1
  · rw [z.2]; exact hk
/-- what a window's coming leaves of the stack -/
theorem zY_sb (h : zK ξ μ row stk stk ord Rs ts us) : zr_L ξ 5 stk ∧ stk.Nodup ∧ ∀ j ∈ stk, j < 10 ∧ zd_flo ξ j = true := ⟨h.1.2.1.1, h.2.1.2.2.1, fun j hj => (h.2.1.2.2.2 j).mp hj⟩
/-- the same windows in another memory -/
theorem zd_rkc_W (e : ∀ j, j < 10 → ξ' (zdW j) = ξ (zdW j)) (h : ∃ rk, zd_rkc ξ rk) : ∃ rk, zd_rkc ξ' rk := by
  obtain ⟨rk, r1, r2, r3⟩ := h
  obtain ⟨e1, e2⟩ := zd_rz_cells e
  refine ⟨rk, r1, fun a b z => r2 a b (by rw [← e1]; exact z), fun a b z => ?_⟩
  rw [e1] at z
  obtain ⟨-, hb, -⟩ := of_decide_eq_true z
  rw [(e2 b hb).1]
  exact r3 a b z
theorem zv_flow_W (e : ∀ j, j < 10 → ξ' (zdW j) = ξ (zdW j)) (g : ∀ x, x < 10 → μ' 234 x = μ 234 x ∧ μ' 237 x = μ 237 x) (h : zv_flow μ (zd_flo ξ) (zd_owb ξ)) : zv_flow μ' (zd_flo ξ') (zd_owb ξ') := by
  obtain ⟨e1, e2⟩ := zd_rz_cells e
  refine ⟨fun x hx => ?_, fun a x ha hx => ?_⟩
  · rw [(e2 x hx).1, (g x hx).1]; exact h.1 x hx
  · rw [e1, (g x hx).1, (g x hx).2]; exact h.2 a x ha hx
theorem zd_foc_W (f : zd_foc ξ ξ' k) : ∀ j, j < 10 → ξ' (zdW j) = ξ (zdW j) := fun j hj => funext fun b => f.1 _ b (by unfold zdW; omega) (by unfold zdW; omega) (by unfold zdW; omega) (by unfold zdW; omega) (fun ⟨_, s, hs, _, e, _⟩ => by unfold zdW zdT at e; omega)
theorem zv_foc_W (g : zv_foc μ μ' row stk us k) : ∀ x, x < 10 → μ' 234 x = μ 234 x ∧ μ' 237 x = μ 237 x := fun x hx => ⟨g.2.2.2 _ _ (by decide) (by decide) (by omega) (fun ⟨_, _, _, _, _, _, e, _⟩ => by omega), g.2.2.2 _ _ (by decide) (by decide) (by omega) (fun ⟨_, _, _, _, _, _, e, _⟩ => by omega)⟩
/-- the focus given to a window that has just come, on both sides: z is what holds in the end -/
theorem zY_foxE (z : zK ξ' μ' row' stkC' stk' ord Rs' ts' us') (hl : zr_L ξ 5 stk) (hn : stk.Nodup) (hb : ∀ j ∈ stk, j < 10 ∧ zd_flo ξ j = true) (hk : k < 10) (f : zd_fox ξ ξ' k) (g : zv_fox μ μ' row stk us k) (lo : ∀ c, c < 231 → μ' c = ξ' c) : zY_st μ' := by
  have eW := zd_foc_W f.1
  have eM := zv_foc_W g.1
  refine zY_fox (zd_rkc_W (fun j hj => (eW j hj).symm) (zK_rkc z)) (zv_flow_W (fun j hj => (eW j hj).symm) (fun x hx => ⟨(eM x hx).1.symm, (eM x hx).2.symm⟩) (zK_flow z)) hl hn hb hk f g lo
end ZYG
