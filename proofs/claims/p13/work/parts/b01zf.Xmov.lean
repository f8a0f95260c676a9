/-! places: move -/
section ZXG
variable {M N Np θ θp ξ : zm_M} {row row' stkC stk ord : List Nat} {Rs : Nat → List Nat} {ts us : Nat → zy_F}
theorem zX_move (hX : zX M) (w x y : Int32) : zX_c M A_Desk_move A_Mod_move [.int w, .int x, .int y] := by
  have hY := zY_move hX.1 w x y
  have he := zW_move_e hX.1.1 w x y
  obtain ⟨row, stkC, stk, ord, Rs, ts, us, h⟩ := hX.1.1
  obtain ⟨N, r1, E1, hJ, f⟩ := ze_move 59 h.1 w x y
  have up := zW_mov f
  have hm := zW_mid h up
  obtain ⟨θ, r2, E2, g⟩ := ze_Mmove 60 (zK_R hm) w x y
  obtain ⟨Np, r1p, E1p, pc⟩ := ze_move_p 59 h.1 w x y
  obtain ⟨θp, r2p, E2p, pr⟩ := ze_Mmove_p 60 (zK_R hm) w x y
  obtain ⟨er, eN⟩ := zX_det he E1 E1p E2p
  have eθ := (ze_E_det E2 E2p).2
  have lo2 : zX_lo M N := by
    rcases id f with ⟨-, rfl⟩ | ⟨k, ξ, -, -, -, -, h1, h2⟩
    · exact zX_lo_refl
    · exact zX_lo_trans (zX_lo_fgt h1) (zX_lo_eqv h2)
  refine zX_fin hY E1 E2 (zW_mmov g) (zX2_mk rfl eθ.symm ?_)
  have wp := zd_plW_mk eN
  have kp := zd_kpp_mk eN
  have hR := zK_R hm
  rcases pc with ⟨pc, hr⟩ | ⟨k, hk, ek, hf, e1, hkp, hoth, hpl⟩
  · rcases pr with ⟨pr, -⟩ | ⟨k, hk, -, e2, -⟩
    · exact zX2_same hX.2 lo2 (zd_plc_mk eN pc) up pr
    · rw [er, e2] at hr
      exact absurd hr (by decide)
  · rcases pr with ⟨-, hr⟩ | ⟨k', hk', ek', e2, hkp2, hoth2, hpl2⟩
    · rw [← er, e1] at hr
      exact absurd hr (by decide)
    · have := (nI_eq (by omega) (by omega)).mp (ek.symm.trans ek')
      subst this
      obtain ⟨l1, l2, l3⟩ := lo2
      have up' : ∀ c d, 231 ≤ c → N c d = M c d := fun c d hc => by rw [up c hc]
      refine zX2_gen hX.2 up (fun s hs q j hj q2 a ha => ?_) (fun j hj q => ?_)
      · obtain ⟨t1, t2⟩ := l3 s hs q
        rw [kp s hs j hj a ha, hkp s hs j hj a ha, ← hX.2.2.1 s hs t1 j hj (t2 j hj q2) a ha]
        rcases (by omega : a = 0 ∨ a = 1) with rfl | rfl
        · exact (hkp2 _).1.trans (up' _ _ (by decide))
        · exact (hkp2 _).2.trans (up' _ _ (by decide))
      · obtain ⟨t1, t2, t3, t4⟩ := l1 j hj q
        by_cases c : j = k
        · subst c
          have kd : N 234 j = M (zdW j) 3 := (up' _ _ (by decide)).trans ((h.2.2.1.1 j hj).2 (zd_th_iff.mpr (zd_flo_iff.mp t1).1)).1
          by_cases c4 : M (zdW j) 3 = 4
          · obtain ⟨-, p1, p2⟩ | ⟨p0, -⟩ := hpl
            · obtain ⟨-, q1, q2⟩ | ⟨q0, -⟩ := hpl2
              · refine Or.inr (Or.inl ⟨t2.trans c4, fun a ha => ?_⟩)
                rcases (by omega : a = 0 ∨ a = 1) with rfl | rfl
                · rw [wp j hj 0 ha, p1, q1]
                  exact zX_ne (by decide)
                · rw [wp j hj 1 ha, p2, q2]
                  exact zX_ne (by decide)
              · exact absurd (kd.trans c4) q0
            · exact absurd c4 p0
          · obtain ⟨p0, -⟩ | ⟨-, s, hs, es, p1, p2⟩ := hpl
            · exact absurd p0 c4
            · obtain ⟨q0, -⟩ | ⟨-, s', hs', es', q1, q2⟩ := hpl2
              · exact absurd (kd.symm.trans q0) c4
              · obtain ⟨w1, ⟨w2, w3⟩, -, w5⟩ := (hm.2.2.1.1 j hj).2 (zd_th_iff.mpr (zd_flo_iff.mp t1).1)
                have ess : s = s' := (nI_eq (by omega) (by omega)).mp (es.symm.trans ((w5 c4).symm.trans es'))
                subst ess
                obtain ⟨b1, ⟨b2, b3, b4, b5⟩, b6, -⟩ := h.1.2.2.1 j hj (zd_th_iff.mpr (zd_flo_iff.mp t1).1)
                obtain ⟨s2, hs2, es2, hth⟩ := b6 c4
                have ess : s = s2 := (nI_eq (by omega) (by omega)).mp (es.symm.trans es2)
                subst ess
                obtain ⟨⟨z1, z2, z3, z4⟩, -⟩ := h.1.2.2.2.2.2 s hs hth
                obtain ⟨s3, hs3, es3, hn⟩ := hX.2.2.2 j hj t1 c4
                have ess : s = s3 := (nI_eq (by omega) (by omega)).mp (es.symm.trans es3)
                subst ess
                obtain ⟨y1, y2⟩ := (hm.2.2.1.2 s hs).2 hth
                refine Or.inr (Or.inr ⟨s, hs, t3.trans es, fun a ha => ?_⟩)
                rw [t4 a ha, l2 s hs a ha, wp j hj a ha]
                rcases (by omega : a = 0 ∨ a = 1) with rfl | rfl
                · refine ⟨x, (hn 0 ha).1, zX_sub b2 b3 z2 (hn 0 ha).1, p1, ?_⟩
                  rw [← y1, ← w2]
                  exact q1
                · refine ⟨y, (hn 1 ha).1, zX_sub b4 b5 z4 (hn 1 ha).1, p2, ?_⟩
                  rw [← y2, ← w3]
                  exact q2
        · refine Or.inl ⟨t1, fun a ha => ⟨(wp j hj a ha).trans (hoth j hj c a ha), ?_⟩, fun q4 => ⟨by rw [← t2]; exact q4, t3, fun s hs _ a ha => ⟨t4 a ha, l2 s hs a ha⟩⟩⟩
          rcases (by omega : a = 0 ∨ a = 1) with rfl | rfl
          · exact (hoth2 j c).1
          · exact (hoth2 j c).2
end ZXG
