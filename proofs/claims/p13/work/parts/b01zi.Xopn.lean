/-! places: open -/
section ZXJ
variable {M N Np θ θp ξ Y : zm_M} {row row' stkC stk ord : List Nat} {Rs : Nat → List Nat} {ts us : Nat → zy_F} {k q a : Nat} {v : Int32}
theorem zX_laid_cg {s : Nat} {R : List Nat} {t : zy_F} (e : ∀ c, 66 ≤ c → ξ c = N c) (h : zd_laid N s R t) : zd_laid ξ s R t := by
  have c : ∀ j, ξ (zdT s + j) = N (zdT s + j) := fun j => e _ (by unfold zdT; omega)
  have z : ξ (zdZ s) = N (zdZ s) := e _ (by unfold zdZ; omega)
  unfold zd_laid zt_P at *
  rw [c, c, c, c, c, c, c, c, c, z]
  exact h
/-- the owner's area, on both sides -/
theorem zX_own (hm : zK M N row stkC stk ord Rs ts us) (hf : zX_f M N) (hq : q < 10) (hk : k < 10) (hqk : q ≠ k) (th : ¬ N 234 q = 0) (hk0 : N 234 k = 0) (hξ : ∀ c, ¬ zJ_irs c → c ≠ zdW k → c ≠ zdW k + 1 → ξ c = M c) (hl : ∀ q, q < 3 → zd_laid ξ q (Rs q) (ts q)) (hY : ∀ c d, ¬ ((c = 234 ∨ c = 235 ∨ c = 236 ∨ c = 237) ∧ d = k) → Y c d = N c d) (ha : a < 5) (ha0 : ¬ a = 0) (hv : zv_av Y us q a v) : v = if a < 3 then zd_sto ξ q (a - 1) else zd_lno ξ q (a - 3) := by
  have eg : ∀ c, c ≠ zdW k → c ≠ zdW k + 1 → (fun c => if c = zdW k ∨ c = zdW k + 1 then M c else ξ c) c = ξ c := fun c h1 h2 => if_neg (fun z => z.elim h1 h2)
  have e0 : zJ_eqs M (fun c => if c = zdW k ∨ c = zdW k + 1 then M c else ξ c) := fun c hc => by
    show (if c = zdW k ∨ c = zdW k + 1 then M c else ξ c) = M c
    split
    · rfl
    · rename_i z
      exact hξ c hc (fun e => z (Or.inl e)) (fun e => z (Or.inr e))
  generalize (fun c => if c = zdW k ∨ c = zdW k + 1 then M c else ξ c) = ξ0 at eg e0
  have h0 : zK ξ0 N row stkC stk ord Rs ts us := hm.scr e0.v zM_fr.refl
  have eW : ∀ i, i < 10 → ξ0 (zdW i) = M (zdW i) := fun i hi => e0.v _ (zJn_W hi).1
  have hX0 : zX_f ξ0 N := fun i hi f a ha => by
    rw [e0 (zdW i + 2) (by unfold zJ_irs zdW; omega)]
    refine hf i hi ?_ a ha
    rw [zd_flo_iff] at f ⊢
    rw [eW i hi] at f
    exact f
  have g6 : ∀ c, 66 ≤ c → ξ0 c = ξ c := fun c hc => eg c (by unfold zdW; omega) (by unfold zdW; omega)
  have hl0 : ∀ q, q < 3 → zd_laid ξ0 q (Rs q) (ts q) := fun q hq => zX_laid_cg g6 (hl q hq)
  have thM : zd_th ξ0 q = true := by
    have := (zK_kind hm hq).2.2.mpr th
    rw [zd_th_iff] at this ⊢
    rw [eW q hq]
    exact this
  have tbY : ∀ τ n, zu_tb Y τ n = zu_tb N τ n := fun τ n => zu_tb_cells (μ := N) (ν := Y) (fun d => ⟨hY _ _ (by omega), hY _ _ (by omega)⟩)
  have hvN : zv_av N us q a v := by
    refine ⟨fun z => absurd z ha0, fun z z2 => ?_, fun z z2 => ?_⟩
    · rw [hv.2.1 z (by rw [hY _ _ (by omega)]; exact z2)]
      rcases (by omega : a = 1 ∨ a = 2 ∨ a = 3 ∨ a = 4) with rfl | rfl | rfl | rfl
      · exact hY 239 q (by omega)
      · exact hY 240 q (by omega)
      · exact hY 235 q (by omega)
      · exact hY 236 q (by omega)
    · obtain ⟨p, m, ν, hp, hh, hvl, hat, hv⟩ := hv.2.2 z (by rw [hY _ _ (by omega)]; exact z2)
      rw [hY _ _ (by omega)] at hh
      refine ⟨p, m, ν, hp, hh, zv_laid_cg (fun d => hY _ _ (by omega)) (fun d => hY _ _ (by omega)) (hY _ _ (by omega)) (hY _ _ (by omega)) (fun n hn b hb => ?_) hvl, ?_, hv⟩
      · unfold zu_lf
        rw [tbY]
        refine zl_fold_congr (F := zi_mx) _ _ (fun w hw => hY _ _ ?_)
        have w1 := (((zK_R hm).2.2.2.2.1 p hp).2.2 n hn w hw).1
        rintro ⟨-, rfl⟩
        rw [hk0] at w1
        exact absurd w1 (by decide)
      · unfold zu_at at hat ⊢
        simp only [tbY] at hat
        exact hat
  have r := zK_av h0 hX0 hq thM hl0 ha hvN
  rw [if_neg ha0] at r
  have eq0 : zdW q ≠ zdW k ∧ zdW q ≠ zdW k + 1 ∧ zdW q + 1 ≠ zdW k ∧ zdW q + 1 ≠ zdW k + 1 ∧ zdW q + 2 ≠ zdW k ∧ zdW q + 2 ≠ zdW k + 1 := by unfold zdW; omega
  obtain ⟨q1, q2, q3, q4, q5, q6⟩ := eq0
  have cW := eg _ q1 q2
  have cT : ∀ z j, ξ0 (zdT z + j) = ξ (zdT z + j) := fun z j => g6 _ (by unfold zdT; omega)
  have s1 : ∀ b, zd_sto ξ0 q b = zd_sto ξ q b := fun b => by
    unfold zd_sto zd_til zt_so
    rw [cW, eg _ q5 q6, cT, show ∀ z, zdT z + 19 + b = zdT z + (19 + b) from fun z => Nat.add_assoc _ _ _, cT]
  have s2 : ∀ b, zd_lno ξ0 q b = zd_lno ξ q b := fun b => by
    unfold zd_lno zd_til zt_lo
    rw [cW, eg _ q3 q4, cT, show ∀ z, zdT z + 22 + b = zdT z + (22 + b) from fun z => Nat.add_assoc _ _ _, cT]
  rw [s1, s2] at r
  exact r
theorem zX_open (hX : zX M) (kd w v o : Int32) : zX_c M A_Desk_open A_Mod_open [.int kd, .int w, .int v, .int o] := by
  have hY := zY_open hX.1 kd w v o
  have he := zW_open_e hX.1.1 kd w v o
  obtain ⟨row, stkC, stk, ord, Rs, ts, us, h⟩ := hX.1.1
  obtain ⟨N, r1, row', stk', Rs', ts', E1, hJ, f⟩ := ze_open_v 48 h.1 kd w v o
  have f0 : zd_opn M N row row' Rs Rs' ts ts' kd w v o := by
    rcases id f with ⟨a, b, c, d, e, -⟩ | ⟨ha, k, s, ξ, a1, a2, a3, a4, a5, a6, a7, ⟨b1, b2, b3, b4, b5, b6, -⟩ | ⟨b1, b2, -⟩⟩
    · exact Or.inl ⟨a, b, c, d, e⟩
    · exact Or.inr ⟨ha, k, s, ξ, a1, a2, a3, a4, a5, a6, a7, Or.inl ⟨b1, b2, b3, b4, b5, b6⟩⟩
    · exact Or.inr ⟨ha, k, s, ξ, a1, a2, a3, a4, a5, a6, a7, Or.inr ⟨b1, b2⟩⟩
  have up := zW_opn f0
  have hm := zW_mid h up
  obtain ⟨θ, r2, E2, g⟩ := ze_Mopen_v 35 (zK_R hm) hm.2.2.2.2.1 kd w v o
  have g0 : zv_opn N θ row stk us kd w v o := by
    rcases id g with ⟨a, b, -⟩ | ⟨ha, k, s, M', a1, a2, a3, a4, a5, a6, a7, ⟨b1, lo, ν3, b, u', b2, b3, ⟨c1, c2, -⟩ | ⟨c1, ν4, c2, c3, c4, -⟩⟩ | ⟨b1, ⟨c1, c2, c3, -⟩ | ⟨c1, ν4, c2, c3, -⟩⟩⟩
    · exact Or.inl ⟨a, b⟩
    · exact Or.inr ⟨ha, k, s, M', a1, a2, a3, a4, a5, a6, a7, Or.inl ⟨b1, lo, ν3, b, u', b2, b3, Or.inl ⟨c1, c2⟩⟩⟩
    · exact Or.inr ⟨ha, k, s, M', a1, a2, a3, a4, a5, a6, a7, Or.inl ⟨b1, lo, ν3, b, u', b2, b3, Or.inr ⟨c1, ν4, c2, c3, c4⟩⟩⟩
    · exact Or.inr ⟨ha, k, s, M', a1, a2, a3, a4, a5, a6, a7, Or.inr ⟨b1, Or.inl ⟨c1, c2, c3⟩⟩⟩
    · exact Or.inr ⟨ha, k, s, M', a1, a2, a3, a4, a5, a6, a7, Or.inr ⟨b1, Or.inr ⟨c1, ν4, c2, c3⟩⟩⟩
  obtain ⟨_, _, _, _, zq⟩ := zK_opn hm hJ f0 g0
  obtain ⟨Np, r1p, E1p, pc⟩ := ze_open_p 48 h.1 kd w v o
  obtain ⟨θp, r2p, E2p, pr⟩ := ze_Mopen_p 35 (zK_R hm) hm.2.2.2.2.1 kd w v o
  obtain ⟨er, eN⟩ := zX_det he E1 E1p E2p
  have eθ := (ze_E_det E2 E2p).2
  have e11 : r1 = r1p := Value.int.inj (Option.some.inj (ze_E_det E1 E1p).1)
  refine zX_fin hY E1 E2 (zW_mopn g0) (zX2_mk rfl eθ.symm ?_)
  clear hY he E1 E2 E1p E2p g g0 f0
  have wp := zd_plW_mk eN
  have kp := zd_kpp_mk eN
  have up' : ∀ c d, 231 ≤ c → N c d = M c d := fun c d hc => by rw [up c hc]
  have neg : ∀ j, j < 10 → ¬ nI j < 0 := fun j hj => nI_pos (by omega)
  rcases pc with ⟨pc, hr⟩ | ⟨k, s, hk, hs, hnt, hr, h5, hkp, hoth, hpl⟩
  · rcases pr with ⟨pr, -⟩ | ⟨k, s, hk, hs, -, hr2, -⟩
    · have lo2 : zX_lo M N := by
        rcases f with ⟨-, rfl, -⟩ | ⟨-, k, s, ξ, hk, hs, hnt, -, -, -, -, ⟨-, fr, f2, -⟩ | ⟨-, -, f⟩⟩
        · exact zX_lo_refl
        · have e : ∀ c, ¬ zJ_irr c → ¬ (36 ≤ c ∧ c < 66) → N c = M c := fun c hc h2 => fr c hc (by unfold zdW; omega) (by unfold zdW; omega)
          refine ⟨fun j hj z => ?_, fun q hq a ha => by rw [e (zdZ q) (by unfold zJ_irr zdZ; omega) (by unfold zdZ; omega)], fun q hq z => ⟨by rw [← e (zdK q) (by unfold zJ_irr zdK; omega) (by unfold zdK; omega)]; exact z, fun i hi z2 => by rw [← e (zdQ q) (by unfold zJ_irr zdQ; omega) (by unfold zdQ; omega)]; exact z2⟩⟩
          by_cases c : j = k
          · subst c
            exfalso
            refine (zd_flo_iff.mp z).1 (f2.trans ?_)
            by_cases c : M (zdW j) 2 = 0
            · exact c
            · rw [zd_th_iff.mpr c] at hnt
              cases hnt
          · have e1 := fr (zdW j) (zJn_W hj).1 (fun e => c (zdW_inj e)) (by unfold zdW; omega)
            have e2 := fr (zdW j + 1) (zJn_W hj).2 (by unfold zdW; omega) (by unfold zdW; omega)
            refine ⟨?_, by rw [e1], by rw [e1], fun a ha => by rw [e2]⟩
            rw [zd_flo_iff] at z ⊢
            rw [e1] at z
            exact z
        · rw [← e11, f] at hr
          exact absurd hr (neg k hk)
      exact zX2_same hX.2 lo2 (zd_plc_mk eN pc) up pr
    · rw [er, hr2] at hr
      exact absurd hr (neg k hk)
  · rcases pr with ⟨-, hr2⟩ | ⟨k', s', hk', hs', hk0, hr', h8, hkp', hoth', hpl'⟩
    · rw [← er, hr] at hr2
      exact absurd hr2 (neg k hk)
    have := (nI_eq (by omega) (by omega)).mp (hr.symm.trans (er.trans hr'))
    subst this
    have hcm : zd_oarg M kd w v o ∧ ∃ s4 ν4, s4 < 3 ∧ ¬ M (zdS s4) 3 = 0 ∧ zd_came M ν4 k s4 kd w v o ∧ zd_foc ν4 N k := by
      rcases f with ⟨-, -, -, -, -, f2⟩ | ⟨ha, k', s4, ξ, hk', hs4, hnt, -, -, hst, -, ⟨-, -, -, -, -, -, f⟩ | ⟨f, -, f2⟩⟩
      · exfalso
        rw [e11, hr] at f2
        rcases f2 with ⟨-, z⟩ | ⟨-, z⟩
        · exact neg k hk (by rw [z]; decide)
        · exact neg k hk (zx_op2_lt z)
      · exact absurd (by rw [← hr, ← e11, f]; decide) (neg k hk)
      · have := (nI_eq (by omega) (by omega)).mp (f2.symm.trans (e11.trans hr))
        subst this
        refine ⟨ha, s4, ?_⟩
        rcases f with ⟨-, ν3, ν4, _, _, -, -, -, q1, -, q2⟩ | ⟨-, -, -, -, ν4, q1, q2⟩
        · exact ⟨ν4, hs4, hst, q1, q2⟩
        · exact ⟨ν4, hs4, hst, q1, q2⟩
    obtain ⟨ha, s4, ν4, hs4, hst, ⟨fc, c2, c3, c4, c5, c0, c1⟩, ff⟩ := hcm
    have f1 : ∀ c d, (36 ≤ c ∧ c < 66) ∨ (66 ≤ c ∧ c < 231 ∧ ((c - 66) % 55 = 1 ∨ (c - 66) % 55 = 26 ∨ (c - 66) % 55 = 54)) → N c d = ν4 c d := fun c d hc => ff.1 c d (by omega) (by omega) (by omega) (by omega) (fun ⟨_, s, hs, _, e, _⟩ => by unfold zdT at e; omega)
    have c2 := (f1 (zdW k) 2 (by unfold zdW; omega)).trans c2
    have c3 := (f1 (zdW k) 3 (by unfold zdW; omega)).trans c3
    have c0 := (f1 (zdW k + 1) 0 (by unfold zdW; omega)).trans c0
    have c1 := (f1 (zdW k + 1) 1 (by unfold zdW; omega)).trans c1
    have nW : ∀ j, j < 10 → j ≠ k → ∀ d, N (zdW j) d = M (zdW j) d := fun j hj hn d => (f1 _ _ (by unfold zdW; omega)).trans (congrFun (fc _ (zJn_W hj).1 (fun e => hn (zdW_inj e)) (by unfold zdW; omega) (fun _ => by unfold zt_out zdT zdW; omega)) d)
    have nL : ∀ j, j < 10 → j ≠ k → ∀ d, N (zdW j + 1) d = M (zdW j + 1) d := fun j hj hn d => (f1 _ _ (by unfold zdW; omega)).trans (congrFun (fc _ (zJn_W hj).2 (by unfold zdW; omega) (by unfold zdW; omega) (fun _ => by unfold zt_out zdT zdW; omega)) d)
    have nZ : ∀ q, q < 3 → ∀ d, N (zdZ q) d = M (zdZ q) d := fun q hq d => (f1 _ _ (by unfold zdZ; omega)).trans (congrFun (fc _ (by unfold zJ_irr zdZ; omega) (by unfold zdZ zdW; omega) (by unfold zdZ zdW; omega) (fun _ => by unfold zt_out zdT zdZ; omega)) d)
    have nK : ∀ q, q < 3 → ∀ d, N (zdK q) d = M (zdK q) d := fun q hq d => (f1 _ _ (by unfold zdK; omega)).trans (congrFun (fc _ (by unfold zJ_irr zdK; omega) (by unfold zdK zdW; omega) (by unfold zdK zdW; omega) (fun _ => by unfold zt_out zdT zdK; omega)) d)
    have nQ : ∀ q, q < 3 → ∀ d, N (zdQ q) d = M (zdQ q) d := fun q hq d => (f1 _ _ (by unfold zdQ; omega)).trans (congrFun (fc _ (by unfold zJ_irr zdQ; omega) (by unfold zdQ zdW; omega) (by unfold zdQ zdW; omega) (fun _ => by unfold zt_out zdT zdQ; omega)) d)
    refine zX2_gen hX.2 up (fun q hq z j hj z2 a ha => ?_) (fun j hj q => ?_)
    · rw [nK q hq] at z
      rw [nQ q hq] at z2
      rw [kp q hq j hj a ha, hkp q hq j hj a ha, ← hX.2.2.1 q hq z j hj z2 a ha]
      rcases (by omega : a = 0 ∨ a = 1) with rfl | rfl
      · exact (hkp' _).1.trans (up' _ _ (by decide))
      · exact (hkp' _).2.trans (up' _ _ (by decide))
    · by_cases c : j = k
      · subst c
        have k1 : ¬ kd = 1 := fun e => (zd_flo_iff.mp q).2 (c3.trans e)
        obtain ⟨⟨-, ⟨w1, w2⟩, v1, v2⟩, -⟩ := ha
        rcases hpl with e | ⟨e, p1, p2⟩ | ⟨e, p1, p2, x, y, p3, p4, hp⟩
        · exact absurd e k1
        · rcases hpl' with e' | ⟨e', q1, q2⟩ | ⟨e', -⟩
          · exact absurd e' k1
          · refine Or.inr (Or.inl ⟨c3.trans e, fun a ha => ?_⟩)
            rcases (by omega : a = 0 ∨ a = 1) with rfl | rfl
            · rw [wp j hj 0 ha, p1]
              exact q1
            · rw [wp j hj 1 ha, p2]
              exact q2
          · rw [e] at e'
            exact absurd e' (by decide)
        · have k4 : ¬ kd = 4 := fun z => by
            rw [z] at e
            exact absurd e (by decide)
          rcases hpl' with e' | ⟨e', -⟩ | ⟨e', x', y', q3, q4, hq⟩
          · exact absurd e' k1
          · exact absurd e' k4
          have n5 : N (zdW j) 5 = nI s := (zm_mk_inj eN (zdW_at hj).1 rfl).trans (h5 k4)
          have n5' : N (zdW j) 5 = nI s4 := (f1 (zdW j) 5 (by unfold zdW; omega)).trans (c5 k4)
          have := (nI_eq (by omega) (by omega)).mp (n5.symm.trans n5')
          subst this
          have t8 : θ 238 j = N (zdW j) 5 := ((zq.2.2.1.1 j hj).2 (zd_th_iff.mpr (by rw [c2]; decide))).2.2.2 (by rw [c3]; exact k4)
          have := (nI_eq (by omega) (by omega)).mp (n5.symm.trans (t8.symm.trans ((zm_mk_A eθ zM_A238 hj).trans (h8 k4))))
          subst this
          have hxy : x = x' ∧ y = y' := by
            rcases hp with ⟨e1, x1, y1⟩ | ⟨e1, i, ξ, hi, hik, io, hξ, hl, x1, y1⟩
            · rcases hq with ⟨-, x2, y2⟩ | ⟨e2, -⟩
              · exact ⟨x1.trans x2.symm, y1.trans y2.symm⟩
              · rw [e1] at e2
                exact absurd e2 (by decide)
            · rcases hq with ⟨e2, -⟩ | ⟨-, i', Y, a1, a3, a2, a4, hi', hi0, io', hYf, av1, av3, av2, av4, x2, y2⟩
              · rw [e1] at e2
                exact absurd e2 (by decide)
              · have := (nI_eq (by omega) (by omega)).mp (io.symm.trans io')
                subst this
                have hf : zX_f M N := fun l hl f b hb => by
                  rw [up' _ _ (by omega)]
                  exact hX.2.1 l hl f b hb
                have o1 := zX_own hm hf hi hj hik hi0 hk0 hξ hl hYf (by decide) (by decide) av1
                have o2 := zX_own hm hf hi hj hik hi0 hk0 hξ hl hYf (by decide) (by decide) av2
                have o3 := zX_own hm hf hi hj hik hi0 hk0 hξ hl hYf (by decide) (by decide) av3
                have o4 := zX_own hm hf hi hj hik hi0 hk0 hξ hl hYf (by decide) (by decide) av4
                rw [if_pos (by decide)] at o1 o2
                rw [if_neg (by decide)] at o3 o4
                rw [x1, y1, x2, y2, o1, o2, o3, o4]
                exact ⟨rfl, rfl⟩
          obtain ⟨rfl, rfl⟩ := hxy
          obtain ⟨⟨z1, z2, z3, z4⟩, -⟩ := h.1.2.2.2.2.2 s hs hst
          obtain ⟨y1, y2⟩ := (hm.2.2.1.2 s hs).2 hst
          refine Or.inr (Or.inr ⟨s, hs, n5, fun a ha => ?_⟩)
          rw [nZ s hs a, wp j hj a ha]
          rcases (by omega : a = 0 ∨ a = 1) with rfl | rfl
          · rw [c0]
            refine ⟨x, p1, zX_sub w1 w2 z2 p1, p3, ?_⟩
            rw [← y1]
            exact q3
          · rw [c1]
            refine ⟨y, p2, zX_sub v1 v2 z4 p2, p4, ?_⟩
            rw [← y2]
            exact q4
      · have fm : zd_flo M j = true := by
          rw [zd_flo_iff] at q ⊢
          rw [nW j hj c, nW j hj c] at q
          exact q
        refine Or.inl ⟨fm, fun a ha => ⟨(wp j hj a ha).trans (hoth j hj c a ha), ?_⟩, fun q4 => ⟨by rw [← nW j hj c]; exact q4, nW j hj c 5, fun s hs _ a ha => ⟨nL j hj c a, nZ s hs a⟩⟩⟩
        rcases (by omega : a = 0 ∨ a = 1) with rfl | rfl
        · exact (hoth' j c).1
        · exact (hoth' j c).2
end ZXJ
