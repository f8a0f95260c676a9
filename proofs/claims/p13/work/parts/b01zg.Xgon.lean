/-! places: gone -/
section ZXH
variable {M N Np θ θp ξ : zm_M} {row row' stkC stk ord : List Nat} {Rs : Nat → List Nat} {ts us : Nat → zy_F}
theorem zX_gone (hX : zX M) (w : Int32) : zX_c M A_Desk_gone A_Mod_gone [.int w] := by
  have hY := zY_gone hX.1 w
  have he := zW_gone_e hX.1.1 w
  obtain ⟨row, stkC, stk, ord, Rs, ts, us, h⟩ := hX.1.1
  obtain ⟨N, r1, Rs', ts', E1, hJ, f⟩ := ze_gone_v 57 h.1 w
  have f0 : zd_gon M N Rs Rs' ts ts' w := by
    rcases id f with ⟨a, b, c, d, -⟩ | ⟨s, o, ν2, emp, W, n0, a1, a2, a3, a4, a5, a6, a7, a8, a9, ⟨b1, b2, b3, b4, -⟩ | ⟨b1, b2, b3, b4, b5, b6, b7, b8, b9, c1, -⟩⟩
    · exact Or.inl ⟨a, b, c, d⟩
    · exact Or.inr ⟨s, o, ν2, emp, W, n0, a1, a2, a3, a4, a5, a6, a7, a8, a9, Or.inl ⟨b1, b2, b3, b4⟩⟩
    · exact Or.inr ⟨s, o, ν2, emp, W, n0, a1, a2, a3, a4, a5, a6, a7, a8, a9, Or.inr ⟨b1, b2, b3, b4, b5, b6, b7, b8, b9, c1⟩⟩
  have up := zW_gon f0
  have hm := zW_mid h up
  obtain ⟨θ, r2, E2, g⟩ := ze_Mgone 36 (zK_R hm) w
  obtain ⟨Np, r1p, E1p, pc⟩ := ze_gone_p 57 h.1 w
  obtain ⟨θp, r2p, E2p, pr⟩ := ze_Mgone_p 36 (zK_R hm) w
  obtain ⟨er, eN⟩ := zX_det he E1 E1p E2p
  have eθ := (ze_E_det E2 E2p).2
  have e11 : r1 = r1p := Value.int.inj (Option.some.inj (ze_E_det E1 E1p).1)
  refine zX_fin hY E1 E2 (zW_mgon g) (zX2_mk rfl eθ.symm ?_)
  have wp := zd_plW_mk eN
  have kp := zd_kpp_mk eN
  have up' : ∀ c d, 231 ≤ c → N c d = M c d := fun c d hc => by rw [up c hc]
  have hct : ∀ s, ¬ nI (zl_ct (zd_on M (nI s)) 10) < 0 := fun s => nI_pos (by have := zl_ct_le (zd_on M (nI s)) 10; omega)
  rcases pc with ⟨pc, hr⟩ | ⟨s, o, hs, ho, hso, rfl, hst, hot, hl, hr, hlw, hpl, hkeep, hoth⟩
  · rcases pr with ⟨pr, -⟩ | ⟨_, _, _, _, _, _, _, _, hr2, _⟩
    · have lo2 : zX_lo M N := by
        rcases f with ⟨-, rfl, -⟩ | ⟨s, o, ν2, emp, W, n0, -, -, -, -, -, -, -, -, -, ⟨-, f, -⟩ | ⟨-, -, -, -, -, -, -, -, -, -, f⟩⟩
        · exact zX_lo_refl
        · exact zX_lo_eqv f
        · rw [← e11, f] at hr
          exact absurd hr (hct s)
      exact zX2_same hX.2 lo2 (zd_plc_mk eN pc) up pr
    · rw [er] at hr
      exact absurd hr (Int32.not_lt.mpr hr2)
  · rcases pr with ⟨-, hr2⟩ | ⟨s', o', hs', ho', hso', ew, -, hl', -, hpd, hgk⟩
    · rw [← er] at hr2
      exact absurd hr2 (Int32.not_lt.mpr hr)
    have := (nI_eq (by omega) (by omega)).mp ew
    subst this
    have := (nI_eq (by omega) (by omega)).mp (hl.symm.trans ((zK_lso hm).trans hl'))
    subst this
    rcases f with ⟨f1, -⟩ | ⟨s', o', ν2, emp, W, n0, hs', ho', hso', ew, -, -, hl', -, -, ⟨-, -, -, -, f⟩ | ⟨-, -, -, fr, -, -, f5, fQ, -⟩⟩
    · exact absurd ⟨s, o, hs, ho, rfl, hst, hl⟩ f1
    · rw [← e11, f] at hr
      exact absurd hr (by decide)
    have := (nI_eq (by omega) (by omega)).mp ew
    subst this
    have := (nI_eq (by omega) (by omega)).mp (hl.symm.trans hl')
    subst this
    have nW : ∀ j, j < 10 → ∀ d, d ≠ 5 → N (zdW j) d = M (zdW j) d := fun j hj d hd => fr _ _ (zJn_W hj).1 (by unfold zt_out zdT zdW; omega) (by unfold zt_out zdT zdW; omega) (by unfold zt_out zdV zdW; omega) (by unfold zdW zdQ; omega) (by unfold zdW zdK; omega) (by unfold zdW zdS; omega) (fun _ _ _ => hd)
    have nL : ∀ j, j < 10 → ∀ d, N (zdW j + 1) d = M (zdW j + 1) d := fun j hj d => fr _ _ (zJn_W hj).2 (by unfold zt_out zdT zdW; omega) (by unfold zt_out zdT zdW; omega) (by unfold zt_out zdV zdW; omega) (by unfold zdW zdQ; omega) (by unfold zdW zdK; omega) (by unfold zdW zdS; omega) (fun i hi e => by unfold zdW at e; omega)
    have nZ : ∀ q, q < 3 → ∀ d, N (zdZ q) d = M (zdZ q) d := fun q hq d => fr _ _ (by unfold zJ_irr zdZ; omega) (by unfold zt_out zdT zdZ; omega) (by unfold zt_out zdT zdZ; omega) (by unfold zt_out zdV zdZ; omega) (by unfold zdZ zdQ; omega) (by unfold zdZ zdK; omega) (by unfold zdZ zdS; omega) (fun i hi e => by unfold zdZ zdW at e; omega)
    have nK : ∀ q, q < 3 → q ≠ s → N (zdK q) 3 = M (zdK q) 3 := fun q hq hn => fr _ _ (by unfold zJ_irr zdK; omega) (by unfold zt_out zdT zdK; omega) (by unfold zt_out zdT zdK; omega) (by unfold zt_out zdV zdK; omega) (by unfold zdK zdQ; omega) (by unfold zdK; omega) (by unfold zdK zdS; omega) (fun i hi e => by unfold zdK zdW at e; omega)
    have nQ : ∀ q, q < 3 → q ≠ s → ∀ d, N (zdQ q) d = M (zdQ q) d := fun q hq hn d => fr _ _ (by unfold zJ_irr zdQ; omega) (by unfold zt_out zdT zdQ; omega) (by unfold zt_out zdT zdQ; omega) (by unfold zt_out zdV zdQ; omega) (by unfold zdQ; omega) (by unfold zdQ zdK; omega) (by unfold zdQ zdS; omega) (fun i hi e => by unfold zdQ zdW at e; omega)
    have flo : ∀ j, j < 10 → zd_flo N j = true → zd_flo M j = true := fun j hj q => by
      rw [zd_flo_iff] at q ⊢
      rw [nW j hj 2 (by decide), nW j hj 3 (by decide)] at q
      exact q
    refine zX2_gen hX.2 up (fun q hq z j hj z2 a ha => ?_) (fun j hj q => ?_)
    · by_cases c : q = s
      · subst c
        rw [fQ j hj] at z2
        have hlo : zd_loose M (nI q) j = true := by
          by_cases c : zd_loose M (nI q) j = true
          · exact c
          · rw [if_neg c] at z2
            exact absurd rfl z2
        obtain ⟨l1, -, -, l4⟩ := of_decide_eq_true hlo
        have fm : zd_flo M j = true := zd_flo_iff.mpr ⟨l1, l4⟩
        have p := hX.2.1 j hj fm a ha
        rw [kp q hq j hj a ha]
        rcases (by omega : a = 0 ∨ a = 1) with rfl | rfl
        · exact ((hgk.1 j hj).1.trans (up' _ _ (by decide))).trans (p.trans (hkeep j hj).1.symm)
        · exact ((hgk.1 j hj).2.trans (up' _ _ (by decide))).trans (p.trans (hkeep j hj).2.symm)
      · rw [nK q hq c] at z
        rw [nQ q hq c] at z2
        rw [kp q hq j hj a ha, hoth q hq c j hj a ha, ← hX.2.2.1 q hq z j hj z2 a ha]
        have z := hgk.2 (10 * q + j) (by omega)
        rcases (by omega : a = 0 ∨ a = 1) with rfl | rfl
        · exact z.1.trans (up' _ _ (by decide))
        · exact z.2.trans (up' _ _ (by decide))
    · have fm := flo j hj q
      obtain ⟨m2, m3⟩ := zd_flo_iff.mp fm
      obtain ⟨w1, ⟨w2, w3⟩, -, w5⟩ := (hm.2.2.1.1 j hj).2 (zd_th_iff.mpr m2)
      obtain ⟨b1, ⟨b2, b3, b4, b5⟩, -⟩ := h.1.2.2.1 j hj (zd_th_iff.mpr m2)
      have p := hX.2.1 j hj fm
      have z := hpd j hj
      have n1 : ¬ N 234 j = 1 := by rw [w1]; exact m3
      by_cases c : zd_on M (nI s) j = true
      · obtain ⟨-, c4, c5⟩ := of_decide_eq_true c
        have on : zv_ons N s j = true := decide_eq_true ⟨by
          rw [w1]
          rcases b1 with e | e | e | e <;> rw [e] <;> decide, by rw [w1]; exact c4, by rw [w5 c4]; exact c5⟩
        have cP : (zv_ons N s j && !decide (N 234 j = 1)) = true := by rw [on, decide_eq_false n1]; rfl
        have hz := z
        rw [if_pos cP, if_pos cP] at hz
        have whole : M (zdW j + 1) 0 ≤ M (zdZ o) 0 ∧ M (zdW j + 1) 1 ≤ M (zdZ o) 1 := by
          have := (zl_al_iff 10).mp hlw j hj
          unfold zd_lwf at this
          have lo : zd_loose M (nI s) j = true := decide_eq_true ⟨m2, c4, c5, m3⟩
          rw [lo] at this
          exact of_decide_eq_true this
        obtain ⟨⟨y1, y2, y3, y4⟩, -⟩ := h.1.2.2.2.2.2 o ho hot
        obtain ⟨v1, v2⟩ := (hm.2.2.1.2 o ho).2 hot
        refine Or.inr (Or.inr ⟨o, ho, by rw [f5 j hj, if_pos c], fun a ha => ?_⟩)
        rw [nL j hj, nZ o ho, wp j hj a ha, hpl j hj a ha, if_pos (by rw [c, fm]; rfl)]
        refine ⟨M (zdW j + 2) a, ?_⟩
        rcases (by omega : a = 0 ∨ a = 1) with rfl | rfl
        · refine ⟨whole.1, zX_sub b2 b3 y2 whole.1, rfl, ?_⟩
          rw [← v1, ← w2, ← p 0 (by decide)]
          refine hz.1.trans ?_
          unfold zv_cx
          rw [up' 239 j (by decide)]
        · refine ⟨whole.2, zX_sub b4 b5 y4 whole.2, rfl, ?_⟩
          rw [← v2, ← w3, ← p 1 (by decide)]
          refine hz.2.trans ?_
          unfold zv_cy
          rw [up' 240 j (by decide)]
      · have on : zv_ons N s j = false := decide_eq_false (fun ⟨_, z1, z2⟩ => by
          rw [w1] at z1
          rw [w5 z1] at z2
          exact c (decide_eq_true ⟨m2, z1, z2⟩))
        have cP : ¬ (zv_ons N s j && !decide (N 234 j = 1)) = true := by rw [on, Bool.false_and]; decide
        rw [if_neg cP, if_neg cP] at z
        refine Or.inl ⟨fm, fun a ha => ⟨?_, ?_⟩, fun q4 => ⟨by rw [← nW j hj 3 (by decide)]; exact q4, by rw [f5 j hj, if_neg c], fun s' hs' _ a ha => ⟨nL j hj a, nZ s' hs' a⟩⟩⟩
        · rw [wp j hj a ha, hpl j hj a ha, if_neg (fun z => c (Bool.and_eq_true_iff.mp z).1)]
        · rcases (by omega : a = 0 ∨ a = 1) with rfl | rfl
          · exact z.1
          · exact z.2
end ZXH
