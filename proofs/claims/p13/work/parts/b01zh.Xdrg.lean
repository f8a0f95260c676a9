/-! places: drag -/
section ZXI
variable {M N Np θ θp ξ : zm_M} {row row' stkC stk ord : List Nat} {Rs : Nat → List Nat} {ts us : Nat → zy_F}
theorem zX_drag (hX : zX M) (w x y : Int32) : zX_c M A_Desk_drag A_Mod_drag [.int w, .int x, .int y] := by
  have hY := zY_drag hX.1 w x y
  have he := zW_drag_e hX.1.1 w x y
  obtain ⟨row, stkC, stk, ord, Rs, ts, us, h⟩ := hX.1.1
  obtain ⟨N, r1, row', stk', Rs', ts', E1, hJ, f⟩ := ze_drag_v 48 h.1 w x y
  have f0 : zd_drgd M N row row' Rs Rs' ts ts' w x y := by
    rcases id f with ⟨a, b, c, d, e, -⟩ | ⟨k, o, sd, a, b, ν1, R2, t2, a1, a2, a3, a4, a5, a6, a7, ⟨b1, b2, b3, b4, b5, -⟩ | ⟨b1, b2, n, ν6, c1, c2, c3, c4, c5, c6, c7, c8, c9, d1, d2, -⟩⟩
    · exact Or.inl ⟨a, b, c, d, e⟩
    · exact Or.inr ⟨k, o, sd, a, b, ν1, R2, t2, a1, a2, a3, a4, a5, a6, a7, Or.inl ⟨b1, b2, b3, b4, b5⟩⟩
    · exact Or.inr ⟨k, o, sd, a, b, ν1, R2, t2, a1, a2, a3, a4, a5, a6, a7, Or.inr ⟨b1, b2, n, ν6, c1, c2, c3, c4, c5, c6, c7, c8, c9, d1, d2⟩⟩
  have up := zW_drgd f0
  have hm := zW_mid h up
  obtain ⟨θ, r2, E2, g⟩ := ze_Mdrag_v 36 (zK_R hm) w x y
  have g0 : zv_drgd N θ row stk us w x y := by
    rcases id g with ⟨a, b, -⟩ | ⟨k, o, sd, a, b, ξ, u2, a1, a2, a3, a4, a5, a6, a7, ⟨b1, b2, -⟩ | ⟨b1, ν6, ua, c1, c2, -⟩⟩
    · exact Or.inl ⟨a, b⟩
    · exact Or.inr ⟨k, o, sd, a, b, ξ, u2, a1, a2, a3, a4, a5, a6, a7, Or.inl ⟨b1, b2⟩⟩
    · exact Or.inr ⟨k, o, sd, a, b, ξ, u2, a1, a2, a3, a4, a5, a6, a7, Or.inr ⟨b1, ν6, ua, c1, c2⟩⟩
  obtain ⟨Np, r1p, E1p, pc⟩ := ze_drag_p 48 h.1 w x y
  obtain ⟨θp, r2p, E2p, pr⟩ := ze_Mdrag_p 36 (zK_R hm) w x y
  obtain ⟨er, eN⟩ := zX_det he E1 E1p E2p
  have eθ := (ze_E_det E2 E2p).2
  have e11 : r1 = r1p := Value.int.inj (Option.some.inj (ze_E_det E1 E1p).1)
  refine zX_fin hY E1 E2 (zW_mdrgd g0) (zX2_mk rfl eθ.symm ?_)
  clear hY he E1 E2 E1p E2p g g0 f0
  have wp := zd_plW_mk eN
  have kp := zd_kpp_mk eN
  have up' : ∀ c d, 231 ≤ c → N c d = M c d := fun c d hc => by rw [up c hc]
  rcases pc with ⟨pc, hr⟩ | ⟨k, o, sd, a, b, da, ha, hb, ek, eo, hr, hkp, hgw, hpl⟩
  · rcases pr with ⟨pr, -⟩ | ⟨_, _, _, _, _, _, _, _, _, _, hr2, _⟩
    · have lo2 : zX_lo M N := by
        rcases f with ⟨-, rfl, -⟩ | ⟨k, o, sd, a, b, ν1, R2, t2, -, -, -, -, -, -, -, ⟨-, f, -⟩ | ⟨-, -, n, ν6, -, -, -, -, -, -, -, -, -, -, -, f⟩⟩
        · exact zX_lo_refl
        · exact zX_lo_eqv f
        · rw [← e11, f] at hr
          exact absurd hr (by decide)
      exact zX2_same hX.2 lo2 (zd_plc_mk eN pc) up pr
    · rw [er, hr2] at hr
      exact absurd hr (by decide)
  · rcases pr with ⟨-, hr2⟩ | ⟨k', o', sd', a', b', da', ha', hb', ek', eo', hr', hkp', hsm, hpd⟩
    · rw [← er, hr] at hr2
      exact absurd hr2 (by decide)
    obtain ⟨⟨hk, ho, hsd⟩, ⟨w1, w2, w3⟩, htk, hto, hko⟩ := id da
    obtain ⟨⟨hk', ho', hsd'⟩, ⟨w1', w2', w3'⟩, -⟩ := id da'
    have := (nI_eq (by omega) (by omega)).mp (w1.symm.trans w1')
    subst this
    have := (nI_eq (by omega) (by omega)).mp (w2.symm.trans w2')
    subst this
    have := (nI_eq (by omega) (by omega)).mp (((zK_kind hm hk).2.1 htk).trans ek |>.symm.trans ek')
    subst this
    have := (nI_eq (by omega) (by omega)).mp (((zK_kind hm ho).2.1 hto).trans eo |>.symm.trans eo')
    subst this
    rcases f with ⟨f, -⟩ | ⟨k', o', sd', a', b', ν1, R2, t2, da', ha', hb', ek', eo', -, -, ⟨-, -, -, -, -, f⟩ | ⟨-, -, n, ν6, -, -, -, -, fr, fK, f5, -, -, -, ff, -⟩⟩
    · exact absurd ⟨k, o, sd, da⟩ f
    · rw [← e11, f] at hr
      exact absurd hr (by decide)
    obtain ⟨⟨hk', ho', hsd'⟩, ⟨w1', w2', w3'⟩, -⟩ := id da'
    have := (nI_eq (by omega) (by omega)).mp (w1.symm.trans w1')
    subst this
    have := (nI_eq (by omega) (by omega)).mp (w2.symm.trans w2')
    subst this
    have := (nI_eq (by omega) (by omega)).mp (ek.symm.trans ek')
    subst this
    have := (nI_eq (by omega) (by omega)).mp (eo.symm.trans eo')
    subst this
    have f1 : ∀ c d, (36 ≤ c ∧ c < 66) ∨ (66 ≤ c ∧ c < 231 ∧ ((c - 66) % 55 = 1 ∨ (c - 66) % 55 = 26 ∨ (c - 66) % 55 = 54)) → N c d = ν6 c d := fun c d hc => ff.1 c d (by omega) (by omega) (by omega) (by omega) (fun ⟨_, s, hs, _, e, _⟩ => by unfold zdT at e; omega)
    have nW : ∀ j, j < 10 → ∀ d, d ≠ 5 → N (zdW j) d = M (zdW j) d := fun j hj d hd => (f1 _ _ (by unfold zdW; omega)).trans (fr _ _ (zJn_W hj).1 (by unfold zt_out zdT zdW; omega) (by unfold zt_out zdT zdW; omega) (fun q hq e => by unfold zdW zdK at e; omega) (fun _ _ _ => hd))
    have nL : ∀ j, j < 10 → ∀ d, N (zdW j + 1) d = M (zdW j + 1) d := fun j hj d => (f1 _ _ (by unfold zdW; omega)).trans (fr _ _ (zJn_W hj).2 (by unfold zt_out zdT zdW; omega) (by unfold zt_out zdT zdW; omega) (fun q hq e => by unfold zdW zdK at e; omega) (fun i hi e => by unfold zdW at e; omega))
    have nZ : ∀ q, q < 3 → ∀ d, N (zdZ q) d = M (zdZ q) d := fun q hq d => (f1 _ _ (by unfold zdZ; omega)).trans (fr _ _ (by unfold zJ_irr zdZ; omega) (by unfold zt_out zdT zdZ; omega) (by unfold zt_out zdT zdZ; omega) (fun q' hq' e => by unfold zdZ zdK at e; omega) (fun i hi e => by unfold zdZ zdW at e; omega))
    have nQ : ∀ q, q < 3 → ∀ d, N (zdQ q) d = M (zdQ q) d := fun q hq d => (f1 _ _ (by unfold zdQ; omega)).trans (fr _ _ (by unfold zJ_irr zdQ; omega) (by unfold zt_out zdT zdQ; omega) (by unfold zt_out zdT zdQ; omega) (fun q' hq' e => by unfold zdQ zdK at e; omega) (fun i hi e => by unfold zdQ zdW at e; omega))
    have n5 : ∀ j, j < 10 → N (zdW j) 5 = if ¬ a = b ∧ zd_grp M k j = true then nI b else M (zdW j) 5 := fun j hj => (f1 _ _ (by unfold zdW; omega)).trans (f5 j hj)
    have nK : ∀ q, q < 3 → ¬ N (zdK q) 3 = 0 → ¬ M (zdK q) 3 = 0 := fun q hq z => by
      rw [f1 _ _ (by unfold zdK; omega), fK q hq] at z
      intro z2
      refine z ?_
      split
      · rfl
      · exact z2
    have flo : ∀ j, j < 10 → zd_flo N j = true → zd_flo M j = true := fun j hj q => by
      rw [zd_flo_iff] at q ⊢
      rw [nW j hj 2 (by decide), nW j hj 3 (by decide)] at q
      exact q
    have hbt : ¬ M (zdS b) 3 = 0 := by
      obtain ⟨-, -, w3, -⟩ := h.1.2.2.1 o ho (decide_eq_true (of_decide_eq_true hto).1)
      obtain ⟨s, hs, q1, q2⟩ := w3 (by rw [(of_decide_eq_true hto).2]; decide)
      rw [← (nI_eq (by omega) (by omega)).mp (q1.symm.trans eo)]
      exact q2
    have hg := zK_grp (k := k) hm
    refine zX2_gen hX.2 up (fun q hq z j hj z2 a ha => ?_) (fun j hj q => ?_)
    · rw [nQ q hq] at z2
      rw [kp q hq j hj a ha, hkp q hq j hj a ha, ← hX.2.2.1 q hq (nK q hq z) j hj z2 a ha]
      rcases (by omega : a = 0 ∨ a = 1) with rfl | rfl
      · exact (hkp' _).1.trans (up' _ _ (by decide))
      · exact (hkp' _).2.trans (up' _ _ (by decide))
    · have fm := flo j hj q
      obtain ⟨m2, m3⟩ := zd_flo_iff.mp fm
      obtain ⟨c1, ⟨c2, c3⟩, -, c5⟩ := (hm.2.2.1.1 j hj).2 (zd_th_iff.mpr m2)
      obtain ⟨b1, ⟨b2, b3, b4, b5⟩, -⟩ := h.1.2.2.1 j hj (zd_th_iff.mpr m2)
      have p := hX.2.1 j hj fm
      by_cases c : ¬ a = b ∧ zd_grp M k j = true
      · have jk : j ≠ k := fun e => m3 (by rw [e]; exact (zd_til_iff.mp htk).2)
        have z := hpd c.1 j hj
        have cP : (zv_grp N k j && !decide (j = k)) = true := by rw [← hg, c.2, decide_eq_false jk]; rfl
        rw [if_pos cP, if_pos cP] at z
        have whole : M (zdW j + 1) 0 ≤ M (zdZ b) 0 ∧ M (zdW j + 1) 1 ≤ M (zdZ b) 1 := by
          have := (zl_al_iff 10).mp (hgw.resolve_left c.1) j hj
          unfold zd_gwf at this
          rw [c.2, fm] at this
          exact of_decide_eq_true this
        obtain ⟨⟨y1, y2, y3, y4⟩, -⟩ := h.1.2.2.2.2.2 b hb hbt
        obtain ⟨v1, v2⟩ := (hm.2.2.1.2 b hb).2 hbt
        refine Or.inr (Or.inr ⟨b, hb, by rw [n5 j hj, if_pos c], fun e he => ?_⟩)
        rw [nL j hj, nZ b hb, wp j hj e he, hpl j hj e he, if_pos (by rw [c.2, fm, decide_eq_false c.1]; rfl)]
        refine ⟨M (zdW j + 2) e, ?_⟩
        rcases (by omega : e = 0 ∨ e = 1) with rfl | rfl
        · refine ⟨whole.1, zX_sub b2 b3 y2 whole.1, rfl, ?_⟩
          rw [← v1, ← c2, ← p 0 (by decide)]
          refine z.1.trans ?_
          unfold zv_cx
          rw [up' 239 j (by decide)]
        · refine ⟨whole.2, zX_sub b4 b5 y4 whole.2, rfl, ?_⟩
          rw [← v2, ← c3, ← p 1 (by decide)]
          refine z.2.trans ?_
          unfold zv_cy
          rw [up' 240 j (by decide)]
      · have cb : ¬ (!decide (a = b) && (zd_grp M k j && zd_flo M j)) = true := fun e => by
          obtain ⟨e1, e2⟩ := Bool.and_eq_true_iff.mp e
          refine c ⟨fun e3 => ?_, (Bool.and_eq_true_iff.mp e2).1⟩
          rw [decide_eq_true e3] at e1
          cases e1
        have z : θp 239 j = N 239 j ∧ θp 240 j = N 240 j := by
          by_cases ab : a = b
          · exact ⟨hsm ab _ _ (by omega), hsm ab _ _ (by omega)⟩
          · have z := hpd ab j hj
            have cP : ¬ (zv_grp N k j && !decide (j = k)) = true := fun e => by
              rw [← hg] at e
              exact c ⟨ab, (Bool.and_eq_true_iff.mp e).1⟩
            rw [if_neg cP, if_neg cP] at z
            exact z
        refine Or.inl ⟨fm, fun e he => ⟨?_, ?_⟩, fun q4 => ⟨by rw [← nW j hj 3 (by decide)]; exact q4, by rw [n5 j hj, if_neg c], fun s' hs' _ e he => ⟨nL j hj e, nZ s' hs' e⟩⟩⟩
        · rw [wp j hj e he, hpl j hj e he, if_neg cb]
        · rcases (by omega : e = 0 ∨ e = 1) with rfl | rfl
          · exact z.1
          · exact z.2
end ZXI
