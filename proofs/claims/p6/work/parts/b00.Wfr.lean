/-! the law: what a class's call leaves alone, what a reference's call leaves alone -/
/-- the class's call: the reference's cells stand -/
def zW_up (M N : zm_M) : Prop := ∀ c, 231 ≤ c → N c = M c
/-- the reference's call: the class's cells stand -/
def zW_lo (N θ : zm_M) : Prop := ∀ c, c < 231 → θ c = N c
section ZWF
variable {M N θ ξ : zm_M} {row row' stk : List Nat} {Rs Rs' : Nat → List Nat} {ts ts' us : Nat → zy_F} {s k : Nat} {w x y v o kd : Int32}
theorem zW_up.trans (h : zW_up M N) (g : zW_up N ξ) : zW_up M ξ := fun c hc => (g c hc).trans (h c hc)
theorem zW_up.refl : zW_up M M := fun _ _ => rfl
theorem zW_lo.trans (h : zW_lo M N) (g : zW_lo N ξ) : zW_lo M ξ := fun c hc => (g c hc).trans (h c hc)
theorem zW_lo.refl : zW_lo M M := fun _ _ => rfl
theorem zW_eqv (h : zJ_eqv M N) : zW_up M N := fun c hc => h c (zJn_M hc)
theorem zW_foc (h : zd_foc M N k) : zW_up M N := fun c hc => funext fun b => h.1 c b (by omega) (by omega) (by omega) (by omega) (fun ⟨_, s, hs, _, e, _⟩ => by unfold zdT at e; omega)
theorem zW_fgt {p : Nat → Bool} (h : zd_fgt M N p) : zW_up M N := fun c hc => funext fun b => h.2 c b (fun s hs e => by unfold zdK at e; omega)
theorem zW_mov (h : zd_mov M N w x y) : zW_up M N := by
  rcases h with ⟨-, rfl⟩ | ⟨k, ξ, -, -, -, -, h1, h2⟩
  · exact zW_up.refl
  · exact (zW_fgt h1).trans (zW_eqv h2)
theorem zW_shr (h : zd_shr M N ts w x v) : zW_up M N := by
  rcases h with ⟨-, rfl⟩ | ⟨k, s, n, a, -, hs, -, -, -, -, -, -, -, -, -, rfl⟩
  · exact zW_up.refl
  · exact fun c hc => zm_up_row (by unfold zdT; omega)
theorem zW_came (hk : k < 10) (hs : s < 3) (h : zd_came M N k s kd w v o) : zW_up M N := fun c hc => h.1 c (zJn_M hc) (by unfold zdW; omega) (by unfold zdW; omega) (fun _ => by unfold zt_out zdT; omega)
theorem zW_opn (h : zd_opn M N row row' Rs Rs' ts ts' kd w v o) : zW_up M N := by
  rcases h with ⟨-, rfl, -⟩ | ⟨-, k, s, ξ, hk, hs, -, -, -, -, -, h⟩
  · exact zW_up.refl
  · rcases h with ⟨-, h, -⟩ | ⟨⟨-, ν3, ν4, R', t', -, -, -, h1, -, h2⟩ | ⟨-, -, -, -, ν4, h1, h2⟩, -⟩
    · exact fun c hc => h c (zJn_M hc) (by unfold zdW; omega) (by unfold zdW; omega)
    · exact (zW_came hk hs h1).trans (zW_foc h2)
    · exact (zW_came hk hs h1).trans (zW_foc h2)
theorem zW_cls {G : Nat → Bool} {i n : Nat} {R : List Nat} {t : zy_F} (hs : s < 3) (h : zd_cls M N row stk G i k s n R t) : zW_up M N := fun c hc => funext fun b => h.2.2.2.2.2 c b (by omega) (by omega) (by omega) (by omega) (by omega) (fun q hq e => by unfold zdK at e; omega) (fun j hj e => by unfold zdW at e; omega) (fun _ _ => by unfold zt_out zdT; omega)
theorem zW_drgd (h : zd_drgd M N row row' Rs Rs' ts ts' w x y) : zW_up M N := by
  rcases h with ⟨-, rfl, -⟩ | ⟨k, o, sd, a, b, ν1, R2, t2, -, ha, hb, -, -, -, -, h⟩
  · exact zW_up.refl
  · rcases h with ⟨-, h, -⟩ | ⟨-, -, n, ν6, -, -, -, -, h1, -, -, -, -, -, h2⟩
    · exact zW_eqv h
    · refine zW_up.trans (fun c hc => funext fun d => h1 c d (zJn_M hc) (by unfold zt_out zdT; omega) (by unfold zt_out zdT; omega) (fun q hq e => by unfold zdK at e; omega) (fun j hj e => by unfold zdW at e; omega)) (zW_foc h2)
theorem zW_gon (h : zd_gon M N Rs Rs' ts ts' w) : zW_up M N := by
  rcases h with ⟨-, rfl, -⟩ | ⟨s, o, ν2, emp, W, n0, hs, ho, -, -, -, -, -, -, -, h⟩
  · exact zW_up.refl
  · rcases h with ⟨-, h, -⟩ | ⟨-, -, -, h1, -⟩
    · exact zW_eqv h
    · exact fun c hc => funext fun d => h1 c d (zJn_M hc) (by unfold zt_out zdT; omega) (by unfold zt_out zdT; omega) (by unfold zt_out zdV; omega) (by unfold zdQ; omega) (by unfold zdK; omega) (by unfold zdS; omega) (fun j hj e => by unfold zdW at e; omega)
theorem zW_rsz (hs : s < 3) (h : zd_rsz M N Rs ts s x y) : zW_up M N := by
  obtain ⟨ξ, h1, -, -, h⟩ := h
  rcases h with ⟨-, rfl⟩ | ⟨-, h, -⟩
  · exact zW_eqv h1
  · exact fun c hc => h c (zJn_M hc) (by unfold zdZ; omega)
theorem zW_scn (hs : s < 3) (h : zd_scn2 M N Rs Rs' ts ts' s x y) : zW_up M N := by
  obtain ⟨ξ, ν1, h1, rfl, h⟩ := h
  have a1 : zW_up M ξ := fun c hc => funext fun d => h1.1 c d (by omega) (by unfold zdZ; omega) (by unfold zdS; omega)
  have a2 : zW_up ν1 (zm_up ν1 (zdK s) 3 0) := fun c hc => zm_up_row (by unfold zdK; omega)
  rcases h with ⟨-, h, -⟩ | ⟨-, ν2, ν3, Rs1, ts1, -, -, h, -⟩
  · exact a1.trans (zW_up.trans (fun c hc => h c (by omega)) a2)
  · exact a1.trans (zW_up.trans (fun c hc => funext fun d => h c d (zJn_M hc) (fun q hq => by unfold zt_out zdT; omega) (fun q hq e => by unfold zdK at e; omega) (fun j hj e => by unfold zdW at e; omega)) a2)
-- the reference
theorem zW_fr (h : zM_fr N θ) : zW_lo N θ := fun c hc => funext fun d => h c d (by omega) (by omega) (by omega) (by omega)
theorem zW_mfoc (h : zv_foc N θ row stk us k) : zW_lo N θ := fun c hc => funext fun d => h.2.2.2 c d (by omega) (by omega) (by omega) (fun ⟨_, _, _, _, _, _, e, _⟩ => by omega)
theorem zW_mtwd (h : zv_twd N θ row stk us x) : zW_lo N θ := by
  rcases h with ⟨-, rfl⟩ | ⟨sd, s, ξ, lo, -, -, -, -, -, -, -, h1, h⟩
  · exact zW_lo.refl
  · have a := zW_fr h1.fr
    rcases h with ⟨-, rfl⟩ | ⟨i, -, -, -, h⟩
    · exact a
    · exact a.trans (zW_mfoc h)
theorem zW_mmov (h : zv_mov N θ w x y) : zW_lo N θ := by
  rcases h with ⟨-, rfl⟩ | ⟨k, ξ, -, -, -, -, h1, rfl⟩
  · exact zW_lo.refl
  · exact fun c hc => funext fun d => (zv_fg_ne (by omega)).trans (h1 c d (by omega) (by omega))
theorem zW_mshr (h : zv_shr N θ us w x v) : zW_lo N θ := by
  rcases h with ⟨-, rfl⟩ | ⟨k, s, n, a, -, hs, -, -, -, -, -, -, -, -, rfl⟩
  · exact zW_lo.refl
  · exact fun c hc => zm_up_row (by omega)
theorem zW_mopn (h : zv_opn N θ row stk us kd w v o) : zW_lo N θ := by
  rcases h with ⟨-, rfl⟩ | ⟨-, k, s, M, hk, hs, -, -, -, -, ⟨-, -, hM⟩, h⟩
  · exact zW_lo.refl
  · have cam : ∀ {ν4}, zv_cam N ν4 k s kd w v o → zW_lo N ν4 := fun g c hc => funext fun d => g.2 c d (by omega) (by omega) (by omega) (by omega) (by omega) (fun _ => ⟨zu_in_not (by omega), zu_in_not (by omega)⟩)
    have a : zW_lo N M := fun c hc => funext fun d => hM c d (by omega) (by omega)
    rcases h with ⟨-, lo, ν3, b, u', -, -, ⟨-, h⟩ | ⟨-, ν4, h1, -, h2⟩⟩ | ⟨-, ⟨-, -, rfl⟩ | ⟨-, ν4, h1, h2⟩⟩
    · exact a.trans (fun c hc => funext fun d => h c d (by omega) (by omega) (zu_in_not (by omega)))
    · exact (cam h1).trans (zW_mfoc h2)
    · exact a
    · exact (cam h1).trans (zW_mfoc h2)
theorem zW_mdrgd (h : zv_drgd N θ row stk us w x y) : zW_lo N θ := by
  rcases h with ⟨-, rfl⟩ | ⟨k, o, sd, a, b, ξ, u2, -, ha, hb, -, -, -, -, h⟩
  · exact zW_lo.refl
  · rcases h with ⟨-, h⟩ | ⟨-, ν6, ua, h1, h2⟩
    · exact fun c hc => funext fun d => h c d (by omega) (zu_in_not (by omega))
    · exact zW_lo.trans (fun c hc => funext fun d => h1.2.2.2.2 c d (by omega) (by omega) (by omega) (by omega) (by omega) (zu_in_not (by omega)) (zu_in_not (by omega)) (zu_in_not (by omega))) (zW_mfoc h2)
theorem zW_mgon (h : zv_gon N θ us w) : zW_lo N θ := by
  rcases h with ⟨-, rfl⟩ | ⟨s, o, emp, ξ, ξ2, n1, W, hs, ho, -, -, -, -, -, -, -, -, h1, h2, h⟩
  · exact zW_lo.refl
  · rcases h with ⟨-, rfl⟩ | ⟨-, h⟩
    · exact fun c hc => funext fun d => (h2.2.1 c d (zu_in_not (by omega))).trans ((h1 c d (by omega) (by omega)).trans (zu_cq_out (zu_in_not (by omega))))
    · exact fun c hc => funext fun d => h.2.2.2.2.2.2.2 c d (by omega) (by omega) (by omega) (by omega) (by omega) (by omega) (by omega) (by omega) (by omega) (zu_in_not (by omega)) (zu_in_not (by omega)) (zu_in_not (by omega)) (zu_in_not (by omega))
theorem zW_mscr (h : zv_scr N θ us w x y) : zW_lo N θ := by
  rcases h with ⟨-, rfl⟩ | ⟨s, ha, h⟩
  · exact zW_lo.refl
  · rcases h with ⟨-, ⟨-, rfl⟩ | ⟨-, -, h⟩⟩ | ⟨-, M, hM, h⟩
    · exact zW_lo.refl
    · exact fun c hc => funext fun d => h c d (by omega) (by omega) (by omega) (by omega)
    · have a : zW_lo N M := fun c hc => funext fun d => hM.2.2 c d (by omega) (by omega) (zu_in_not (by omega))
      rcases h with ⟨-, -, h⟩ | ⟨-, -, M2, ξ, us1, ν1, h1, h2, h3, rfl⟩
      · exact a.trans (fun c hc => funext fun d => h c d (by omega) (by omega))
      · refine a.trans (fun c hc => funext fun d => (zm_up_ne (by omega)).trans ((h3.2.2 c d (by omega) (by omega) (by omega) (by omega)).trans ((zu_cq_out (zu_in_not (by omega))).trans ((h2.2.2 c d (by omega) (fun q _ => zu_in_not (by omega))).trans (h1 c d (by omega) (by omega) (by omega))))))
end ZWF
