/-! places: screen -/
section ZXK
variable {M N Np θ θp ξ μ ξa : zm_M} {row row' stkC stk ord : List Nat} {Rs : Nat → List Nat} {ts us : Nat → zy_F} {s : Nat} {w x y : Int32}
/-- both take the new size, or neither -/
theorem zX_good (h : zK ξ μ row stkC stk ord Rs ts us) (hs : s < 3) (fe : zJ_eqv ξ ξa) (x0 : ξa 32 0 = x) (x1 : ξa 32 1 = y) : zv_gd (zv_srm μ s x y) (zu_fit μ s (us s) x y) 10 = true ↔ (zt_fit ξa (zdT s) 32 (Rs s) (ts s) = true ∧ zl_al (zd_lwf ξa (nI s) 32) 10 = true) := by
  have eT : ∀ q, q < 3 → ∀ j, j < 19 → ξa (zdT q + j) = ξ (zdT q + j) := fun q hq j hj => fe _ (zJn_T hq hj).1
  have hI := (h.1.2.2.2.1 s hs).1.1
  have hIa := (zt_C_19 (eT s hs) (h.1.2.2.2.1 s hs).1).1
  have za : zs ξa (zdT s) (Rs s) (ts s) μ s (us s) := zs_cl hI (h.2.2.2.2.2.1 s hs) (eT s hs 3 (by decide)) (eT s hs 7 (by decide)) (eT s hs 8 (by decide)) (eT s hs 12 (by decide))
  have hsz : zs_sz ξa (zdT s) (Rs s) μ := fun a ha w hw => by
    rw [zK_sz h hs a ha w hw, Nat.add_assoc, eT s hs (5 + a) (by omega)]
  have hfit := zs_fit hIa za hsz x0 x1
  have hrm : zl_al (zd_lwf ξa (nI s) 32) 10 = true ↔ ∀ j, j < 10 → zv_srm μ s x y j = true := by
    rw [zl_al_iff]
    refine forall_congr' fun j => imp_congr_right fun hj => ?_
    have eW : ξa (zdW j) = ξ (zdW j) := fe _ (zJn_W hj).1
    have eL : ξa (zdW j + 1) = ξ (zdW j + 1) := fe _ (zJn_W hj).2
    have el : zd_loose ξa (nI s) j = zd_loose ξ (nI s) j := by unfold zd_loose; rw [eW]
    unfold zd_lwf zv_srm
    rw [el, (zK_on h hj).2]
    cases c : zv_on μ j (nI s) with
    | false => exact ⟨fun _ => rfl, fun _ => rfl⟩
    | true =>
      have t : zd_th ξ j = true := by
        have : zd_loose ξ (nI s) j = true := by rw [(zK_on h hj).2]; exact c
        exact decide_eq_true (of_decide_eq_true this).1
      obtain ⟨-, ⟨e5, e6⟩, -⟩ := (h.2.2.1.1 j hj).2 t
      have ew : zd_whole ξa 32 j = decide (μ 235 j ≤ x ∧ μ 236 j ≤ y) := by
        unfold zd_whole
        rw [eL, e5, e6, x0, x1]
      rw [ew]
  rw [zv_gd_iff, hrm, hfit]
theorem zX_scr1 (hX : zX M) (ha : zd_sarg w x y s) (c2 : ¬ M (zdS s) 3 = 0) : zX_c M A_Desk_screen A_Mod_screen [.int w, .int x, .int y] := by
  have hY := zY_screen hX.1 w x y
  obtain ⟨row, stkC, stk, ord, Rs, ts, us, h⟩ := hX.1.1
  obtain ⟨N, r1, E1, hJ, f⟩ := ze_screen_1 57 h.1 ha c2
  have up := zW_rsz ha.1 f
  have hm := zW_mid h up
  obtain ⟨θ, r2, E2, g⟩ := ze_Mscreen 36 (zK_R hm) (zK_kep hm) w x y
  obtain ⟨Np, r1p, E1p, ξp, fe, x0, x1, pc⟩ := ze_screen_1p 57 h.1 ha c2
  obtain ⟨θp, r2p, E2p, pr⟩ := ze_Mscreen_p 36 (zK_R hm) (zK_kep hm) w x y
  have eN := (ze_E_det E1 E1p).2
  have eθ := (ze_E_det E2 E2p).2
  refine zX_fin hY E1 E2 (zW_mscr g) (zX2_mk rfl eθ.symm ?_)
  clear hY E1 E2 E1p E2p g
  have wp := zd_plW_mk eN
  have kp := zd_kpp_mk eN
  have up' : ∀ c d, 231 ≤ c → N c d = M c d := fun c d hc => by rw [up c hc]
  obtain ⟨hs, ew, ⟨hx0, hx⟩, hy0, hy⟩ := id ha
  obtain ⟨ξa, fa, xa0, xa1, f⟩ := f
  have G1 := zX_good hm hs fe x0 x1
  have G2 := zX_good hm hs fa xa0 xa1
  rcases pr with ⟨z, -⟩ | ⟨s', ⟨hs', ew', -⟩, pr⟩
  · exact (z ⟨s, ha⟩).elim
  have es := (nI_eq (by omega) (by omega)).mp (ew'.symm.trans ew)
  subst es
  rcases pr with ⟨-, pr⟩ | ⟨z, -⟩
  rotate_left
  · exact ((zK_sc0 hm hs).mp c2 z).elim
  rcases pc with ⟨fb, pc⟩ | ⟨fb, hkp, hlo, hpl⟩
  · have nb : ¬ zv_gd (zv_srm N s' x y) (zu_fit N s' (us s') x y) 10 = true := fun z => by
      obtain ⟨q1, q2⟩ := G1.mp z
      rcases fb with z | z
      · rw [z] at q1; cases q1
      · rw [z] at q2; cases q2
    rcases pr with ⟨-, pr⟩ | ⟨z, -⟩
    · rcases f with ⟨-, e⟩ | ⟨z, -⟩
      · exact zX2_same hX.2 (by rw [e]; exact zX_lo_eqv fa) (zd_plc_mk eN pc) up pr
      · exact (nb (G2.mpr z)).elim
    · exact (nb z).elim
  · have yb := G1.mpr fb
    rcases pr with ⟨z, -⟩ | ⟨-, hkp', hpd⟩
    · rw [yb] at z
      cases z
    rcases f with ⟨z, -⟩ | ⟨-, fr, z0, z1⟩
    · obtain ⟨q1, q2⟩ := G2.mp yb
      rcases z with z | z
      · rw [z] at q1; cases q1
      · rw [z] at q2; cases q2
    have nW : ∀ j, j < 10 → ∀ d, N (zdW j) d = M (zdW j) d := fun j hj d => congrFun (fr _ (zJn_W hj).1 (by unfold zdW zdZ; omega)) d
    have nL : ∀ j, j < 10 → ∀ d, N (zdW j + 1) d = M (zdW j + 1) d := fun j hj d => congrFun (fr _ (zJn_W hj).2 (by unfold zdW zdZ; omega)) d
    have nZ : ∀ q, q < 3 → q ≠ s' → ∀ d, N (zdZ q) d = M (zdZ q) d := fun q hq hn d => congrFun (fr _ (by unfold zJ_irr zdZ; omega) (by unfold zdZ; omega)) d
    have nK : ∀ q, q < 3 → ∀ d, N (zdK q) d = M (zdK q) d := fun q hq d => congrFun (fr _ (by unfold zJ_irr zdK; omega) (by unfold zdK zdZ; omega)) d
    have nQ : ∀ q, q < 3 → ∀ d, N (zdQ q) d = M (zdQ q) d := fun q hq d => congrFun (fr _ (by unfold zJ_irr zdQ; omega) (by unfold zdQ zdZ; omega)) d
    refine zX2_gen hX.2 up (fun q hq z j hj z2 a ha => ?_) (fun j hj q => ?_)
    · rw [nK q hq] at z
      rw [nQ q hq] at z2
      rw [kp q hq j hj a ha, hkp q hq j hj a ha, ← hX.2.2.1 q hq z j hj z2 a ha]
      rcases (by omega : a = 0 ∨ a = 1) with rfl | rfl
      · exact (hkp' _).1.trans (up' _ _ (by decide))
      · exact (hkp' _).2.trans (up' _ _ (by decide))
    · have fm : zd_flo M j = true := by
        rw [zd_flo_iff] at q ⊢
        rw [nW j hj, nW j hj] at q
        exact q
      obtain ⟨m2, m3⟩ := zd_flo_iff.mp fm
      obtain ⟨c1, ⟨c3, c4⟩, -, c5⟩ := (hm.2.2.1.1 j hj).2 (zd_th_iff.mpr m2)
      obtain ⟨b1, ⟨b2, b3, b4, b5⟩, -⟩ := h.1.2.2.1 j hj (zd_th_iff.mpr m2)
      have p := hX.2.1 j hj fm
      have z := hpd j hj
      have hon := (zK_on (s := s') hm hj).2
      by_cases c : zd_on M (nI s') j = true
      · obtain ⟨-, d4, d5⟩ := of_decide_eq_true c
        have lo : zd_loose M (nI s') j = true := decide_eq_true ⟨m2, d4, d5, m3⟩
        have whole := hlo j hj lo
        have lo' := hon.symm.trans lo
        rw [if_pos lo', if_pos lo'] at z
        refine Or.inr (Or.inr ⟨s', hs, by rw [nW j hj]; exact d5, fun e he => ?_⟩)
        rw [nL j hj, wp j hj e he, hpl j hj e he, if_pos (by rw [c, fm]; rfl)]
        refine ⟨M (zdW j + 2) e, ?_⟩
        rcases (by omega : e = 0 ∨ e = 1) with rfl | rfl
        · rw [z0, if_pos rfl]
          refine ⟨whole.1, zX_sub b2 b3 hx whole.1, rfl, ?_⟩
          rw [← c3, ← p 0 (by decide), ← up' 239 j (by decide)]
          exact z.1
        · rw [z1, if_neg (by decide)]
          refine ⟨whole.2, zX_sub b4 b5 hy whole.2, rfl, ?_⟩
          rw [← c4, ← p 1 (by decide), ← up' 240 j (by decide)]
          exact z.2
      · have nlo : ¬ zd_loose M (nI s') j = true := fun z => by
          obtain ⟨e1, e2, e3, -⟩ := of_decide_eq_true z
          exact c (decide_eq_true ⟨e1, e2, e3⟩)
        have nlo' : ¬ zv_on N j (nI s') = true := fun e => nlo (hon.trans e)
        rw [if_neg nlo', if_neg nlo'] at z
        refine Or.inl ⟨fm, fun e he => ⟨?_, ?_⟩, fun q4 => ?_⟩
        · rw [wp j hj e he, hpl j hj e he, if_neg (fun z => c (Bool.and_eq_true_iff.mp z).1)]
        · rcases (by omega : e = 0 ∨ e = 1) with rfl | rfl
          · exact z.1
          · exact z.2
        · rw [nW j hj] at q4
          refine ⟨q4, nW j hj 5, fun q hq e a ha => ⟨nL j hj a, nZ q hq (fun z => ?_) a⟩⟩
          subst z
          exact c (decide_eq_true ⟨m2, q4, e⟩)
theorem zX_scr2 (hX : zX M) (ha : zd_sarg w x y s) (c2 : M (zdS s) 3 = 0) : zX_c M A_Desk_screen A_Mod_screen [.int w, .int x, .int y] := by
  have hY := zY_screen hX.1 w x y
  obtain ⟨row, stkC, stk, ord, Rs, ts, us, h⟩ := hX.1.1
  obtain ⟨N, r1, Rs', ts', E1, hJ, f⟩ := ze_screen_3 56 h.1 ha c2
  have up := zW_scn ha.1 f
  have hm := zW_mid h up
  obtain ⟨θ, r2, E2, g⟩ := ze_Mscreen 36 (zK_R hm) (zK_kep hm) w x y
  obtain ⟨Np, r1p, E1p, ξp, νp, hnp, pc, ep⟩ := ze_screen_2p 56 h.1 ha c2
  obtain ⟨θp, r2p, E2p, pr⟩ := ze_Mscreen_p 36 (zK_R hm) (zK_kep hm) w x y
  have eN := (ze_E_det E1 E1p).2
  have eθ := (ze_E_det E2 E2p).2
  refine zX_fin hY E1 E2 (zW_mscr g) (zX2_mk rfl eθ.symm ?_)
  clear hY E1 E2 E1p E2p g
  have wp := zd_plW_mk eN
  have kp := zd_kpp_mk eN
  have up' : ∀ c d, 231 ≤ c → N c d = M c d := fun c d hc => by rw [up c hc]
  obtain ⟨hs, ew, ⟨hx0, hx⟩, hy0, hy⟩ := id ha
  obtain ⟨ξn, ν1, hn, e1, f⟩ := f
  rcases pr with ⟨z, -⟩ | ⟨s', ⟨hs', ew', -⟩, pr⟩
  · exact (z ⟨s, ha⟩).elim
  have es := (nI_eq (by omega) (by omega)).mp (ew'.symm.trans ew)
  subst es
  rcases pr with ⟨z, -⟩ | ⟨-, Mr, hM, pr⟩
  · exact ((zK_sc0 hm hs).mpr z c2).elim
  have a1 := (hm.2.2.2.2.2.2.2 s' hs).1
  have noS : ∀ j, j < 10 → zd_flo M j = true → ¬ M (zdW j) 3 = 4 → ¬ M (zdW j) 5 = nI s' := fun j hj fm n4 e => by
    obtain ⟨-, -, w3, -⟩ := h.1.2.2.1 j hj (zd_th_iff.mpr (zd_flo_iff.mp fm).1)
    obtain ⟨q, hq, q1, q2⟩ := w3 n4
    rw [(nI_eq (by omega) (by omega)).mp (q1.symm.trans e)] at q2
    exact q2 c2
  have key : ∀ ξ0, zd_new M ξ0 s' x y → ((¬ ξ0 (zdK s') 3 = 0 ∧ zt_fit ξ0 (zdV s') (zdZ s') (Rs (3 + s')) (ts (3 + s')) = true ∧ zl_al (zd_gwf ξ0 (zd_bgr ξ0 s') (zdZ s')) 10 = true) ↔ (¬ M (zdK s') 3 = 0 ∧ zv_bk Mr us (zv_dlg N) (zv_own N) s' = true)) := fun ξ0 h0 => by
    have eK : ξ0 (zdK s') 3 = M (zdK s') 3 := by rw [((zd_new_row hs h0).2.2.1 s' hs).1]
    rw [eK]
    exact and_congr_right fun hk => zK_bk hm hs hk h0 hM
  have nkey : ∀ ξ0, zd_new M ξ0 s' x y → (ξ0 (zdK s') 3 = 0 ∨ zt_fit ξ0 (zdV s') (zdZ s') (Rs (3 + s')) (ts (3 + s')) = false ∨ zl_al (zd_gwf ξ0 (zd_bgr ξ0 s') (zdZ s')) 10 = false) → ¬ (¬ M (zdK s') 3 = 0 ∧ zv_bk Mr us (zv_dlg N) (zv_own N) s' = true) := fun ξ0 h0 hc z => by
    obtain ⟨z1, z2, z3⟩ := (key ξ0 h0).mpr z
    rcases hc with c | c | c
    · exact z1 c
    · rw [c] at z2; cases z2
    · rw [c] at z3; cases z3
  obtain ⟨n1, n2, n3, n4⟩ := zd_new_row hs hn
  obtain ⟨p1, p2, p3, p4⟩ := zd_new_row hs hnp
  have pP : ∀ q, q < 3 → ∀ j, ∀ a, a < 2 → ξp (zdP q + 1 + a) j = M (zdP q + 1 + a) j := fun q hq j a ha => hnp.1 _ _ (by unfold zdP; omega) (by unfold zdP zdZ; omega) (by unfold zdP zdS; omega)
  have pW : ∀ j, j < 10 → ∀ a, ξp (zdW j + 2) a = M (zdW j + 2) a := fun j hj a => hnp.1 _ _ (by unfold zdW; omega) (by unfold zdW zdZ; omega) (by unfold zdW zdS; omega)
  have NP : ∀ q, q < 3 → ∀ j, ∀ a, a < 2 → Np (zdP q + 1 + a) j = νp (zdP q + 1 + a) j := fun q hq j a ha => by rw [ep]; exact zm_up_ne (by unfold zdP zdK; omega)
  have NW : ∀ j, j < 10 → ∀ a, Np (zdW j + 2) a = νp (zdW j + 2) a := fun j hj a => by rw [ep]; exact zm_up_ne (by unfold zdW zdK; omega)
  have N1 : ∀ c d, c ≠ zdK s' → N c d = ν1 c d := fun c d hc => by rw [e1]; exact zm_up_ne (fun z => hc z.1)
  have Ns : N (zdK s') 3 = 0 := by rw [e1]; exact zm_up_eq
  rcases pc with ⟨fb, pc⟩ | ⟨fb, hkp, hpl⟩
  · have nb := nkey ξp hnp fb
    rcases f with ⟨-, f1, -⟩ | ⟨fc, -⟩
    rotate_left
    · exact (nb ((key ξn hn).mp fc)).elim
    rcases pr with ⟨-, pr⟩ | ⟨z1, z2, -⟩
    rotate_left
    · exact (nb ⟨fun z => z1 (a1.mpr z), z2⟩).elim
    have nW : ∀ j, j < 10 → ∀ d, N (zdW j) d = M (zdW j) d := fun j hj d => (N1 _ _ (by unfold zdW zdK; omega)).trans ((congrFun (f1 _ (by unfold zdW; omega)) d).trans (congrFun (n1 j hj).1 d))
    have nL : ∀ j, j < 10 → ∀ d, N (zdW j + 1) d = M (zdW j + 1) d := fun j hj d => (N1 _ _ (by unfold zdW zdK; omega)).trans ((congrFun (f1 _ (by unfold zdW; omega)) d).trans (congrFun (n1 j hj).2 d))
    have nZ : ∀ q, q < 3 → q ≠ s' → ∀ d, N (zdZ q) d = M (zdZ q) d := fun q hq hne d => (N1 _ _ (by unfold zdZ zdK; omega)).trans ((congrFun (f1 _ (by unfold zdZ; omega)) d).trans (congrFun (n4 q hq hne).2 d))
    have nK : ∀ q, q < 3 → q ≠ s' → N (zdK q) 3 = M (zdK q) 3 := fun q hq hne => (N1 _ _ (by unfold zdK; omega)).trans ((congrFun (f1 _ (by unfold zdK; omega)) 3).trans (congrFun (n3 q hq).1 3))
    have nQ : ∀ q, q < 3 → ∀ d, N (zdQ q) d = M (zdQ q) d := fun q hq d => (N1 _ _ (by unfold zdQ zdK; omega)).trans ((congrFun (f1 _ (by unfold zdQ; omega)) d).trans (congrFun (n3 q hq).2 d))
    refine zX2_gen hX.2 up (fun q hq z j hj z2 a ha => ?_) (fun j hj q => ?_)
    · have hne : q ≠ s' := fun e => z (by rw [e]; exact Ns)
      rw [nK q hq hne] at z
      rw [nQ q hq] at z2
      rw [kp q hq j hj a ha, NP q hq j a ha, pc.2 q hq j hj a ha, pP q hq j a ha, ← hX.2.2.1 q hq z j hj z2 a ha, pr _ _ (by omega), up' _ _ (by omega)]
    · have fm : zd_flo M j = true := by
        rw [zd_flo_iff] at q ⊢
        rw [nW j hj, nW j hj] at q
        exact q
      refine Or.inl ⟨fm, fun e he => ⟨?_, pr _ _ (by omega)⟩, fun q4 => ?_⟩
      · rw [wp j hj e he, NW j hj e, pc.1 j hj e he, pW j hj e]
      · rw [nW j hj] at q4
        refine ⟨q4, nW j hj 5, fun q hq e a ha => ⟨nL j hj a, nZ q hq (fun z => ?_) a⟩⟩
        rw [z] at e
        exact noS j hj fm q4 e
  · have yb := (key ξp hnp).mp fb
    rcases f with ⟨fc, -⟩ | ⟨-, ν2, ν3, Rs1, ts1, -, -, ff, fK, f5, -⟩
    · exact (nkey ξn hn fc yb).elim
    rcases pr with ⟨z, -⟩ | ⟨-, -, hkp', hpd⟩
    · rcases z with z | z
      · exact (yb.1 (a1.mp z)).elim
      · rw [yb.2] at z
        cases z
    obtain ⟨hk, -⟩ := yb
    have nW : ∀ j, j < 10 → ∀ d, d ≠ 5 → N (zdW j) d = M (zdW j) d := fun j hj d hd => (N1 _ _ (by unfold zdW zdK; omega)).trans ((ff _ _ (zJn_W hj).1 (fun q hq => by unfold zt_out zdT zdW; omega) (fun q hq e => by unfold zdW zdK at e; omega) (fun _ _ _ => hd)).trans (congrFun (n1 j hj).1 d))
    have nL : ∀ j, j < 10 → ∀ d, N (zdW j + 1) d = M (zdW j + 1) d := fun j hj d => (N1 _ _ (by unfold zdW zdK; omega)).trans ((ff _ _ (zJn_W hj).2 (fun q hq => by unfold zt_out zdT zdW; omega) (fun q hq e => by unfold zdW zdK at e; omega) (fun i hi e => by unfold zdW at e; omega)).trans (congrFun (n1 j hj).2 d))
    have nZ0 : ∀ q, q < 3 → ∀ d, N (zdZ q) d = ξn (zdZ q) d := fun q hq d => (N1 _ _ (by unfold zdZ zdK; omega)).trans (ff _ _ (by unfold zJ_irr zdZ; omega) (fun p hp => by unfold zt_out zdT zdZ; omega) (fun p hp e => by unfold zdZ zdK at e; omega) (fun i hi e => by unfold zdZ zdW at e; omega))
    have nQ : ∀ q, q < 3 → ∀ d, N (zdQ q) d = M (zdQ q) d := fun q hq d => (N1 _ _ (by unfold zdQ zdK; omega)).trans ((ff _ _ (by unfold zJ_irr zdQ; omega) (fun p hp => by unfold zt_out zdT zdQ; omega) (fun p hp e => by unfold zdQ zdK at e; omega) (fun i hi e => by unfold zdQ zdW at e; omega)).trans (congrFun (n3 q hq).2 d))
    have nK : ∀ q, q < 3 → q ≠ s' → ¬ N (zdK q) 3 = 0 → ¬ M (zdK q) 3 = 0 := fun q hq hne z => by
      rw [N1 _ _ (by unfold zdK; omega), fK q hq, (n3 q hq).1] at z
      intro z2
      refine z ?_
      split
      · rfl
      · exact z2
    obtain ⟨nh, nb⟩ := zd_new_bgr hm hs hn
    obtain ⟨ph, pb⟩ := zd_new_bgr hm hs hnp
    have n5 : ∀ j, j < 10 → N (zdW j) 5 = if zd_bgr M s' j = true then nI s' else M (zdW j) 5 := fun j hj => by
      rw [N1 _ _ (by unfold zdW zdK; omega), f5 j hj, nb, (n1 j hj).1]
    have mC : ∀ c d, 234 ≤ c → (c < 243 ∨ 250 < c) → Mr c d = N c d := fun c d a b => hM.2.2 c d (by omega) (by omega) (zu_in_not (by omega))
    refine zX2_gen hX.2 up (fun q hq z j hj z2 a ha => ?_) (fun j hj q => ?_)
    · have hne : q ≠ s' := fun e => z (by rw [e]; exact Ns)
      rw [nQ q hq] at z2
      rw [kp q hq j hj a ha, NP q hq j a ha, hkp q hq j hj a ha, pP q hq j a ha, ← hX.2.2.1 q hq (nK q hq hne z) j hj z2 a ha]
      rcases (by omega : a = 0 ∨ a = 1) with rfl | rfl
      · exact (hkp' _).1.trans (up' _ _ (by decide))
      · exact (hkp' _).2.trans (up' _ _ (by decide))
    · have fm : zd_flo M j = true := by
        rw [zd_flo_iff] at q ⊢
        rw [nW j hj 2 (by decide), nW j hj 3 (by decide)] at q
        exact q
      obtain ⟨m2, m3⟩ := zd_flo_iff.mp fm
      obtain ⟨c1, ⟨c3, c4⟩, -, c5⟩ := (hm.2.2.1.1 j hj).2 (zd_th_iff.mpr m2)
      obtain ⟨b1, ⟨b2, b3, b4, b5⟩, -⟩ := h.1.2.2.1 j hj (zd_th_iff.mpr m2)
      have p := hX.2.1 j hj fm
      have hbg : zd_bgr M s' j = zv_back Mr (zv_dlg N) (zv_own N) s' j := zK_back hm hs hk (fun d => mC 252 d (by decide) (by decide)) hj
      have ntl : zd_til M j = false := by
        cases e : zd_til M j with
        | false => rfl
        | true => exact absurd (zd_til_iff.mp e).2 m3
      have tp : zd_til ξp j = false := by
        rw [← ntl]
        unfold zd_til
        rw [(p1 j hj).1]
      have fp : zd_flo ξp j = true := by
        rw [← fm]
        unfold zd_flo
        rw [(p1 j hj).1]
      have k252 : ¬ Mr 252 (10 * s' + j) = 0 ↔ zd_has M s' j = true := by
        rw [mC 252 _ (by decide) (by decide)]
        exact ((hm.2.2.2.2.2.2.2 s' hs).2 hk).1 j hj
      have hQ : zd_has M s' j = true → ¬ M (zdQ s') j = 0 := fun d => by
        obtain ⟨-, z | z⟩ := of_decide_eq_true d
        · exact z
        · exfalso
          obtain ⟨a1, a2⟩ := h.1.2.2.2.2.1 s' hs
          by_cases c : j ∈ Rs (3 + s')
          · exact m3 (zd_til_iff.mp (zJ_kept h.1 hs hk c).2.2).2
          · rw [a1.1.2.2.2.2.1 j hj c] at z
            exact absurd (by decide) z
      have z := hpd j hj
      have ez : (zv_back Mr (zv_dlg N) (zv_own N) s' j && !decide (Mr 234 j = 1)) = zd_bgr M s' j := by
        rw [← hbg, mC 234 j (by decide) (by decide), c1, decide_eq_false m3]
        cases zd_bgr M s' j <;> rfl
      have n1 : ¬ M (zdW j) 3 = 1 := m3
      have hp : ∀ a, a < 2 → Np (zdW j + 2) a = if zd_bgr M s' j = true then zx_cl ξp j s' a (if zd_has M s' j = true then M (zdP s' + 1 + a) j else M (zdW j + 2) a) else M (zdW j + 2) a := fun a ha => by
        rw [NW j hj a, hpl j hj a ha, pb, ph, fp, tp, pP s' hs j a ha, pW j hj a]
        by_cases c : zd_bgr M s' j = true
        · rw [c]
          by_cases d : zd_has M s' j = true
          · rw [d]; rfl
          · rw [Bool.not_eq_true] at d
            rw [d]; rfl
        · have d : zd_has M s' j = false := by
            cases e : zd_has M s' j with
            | false => rfl
            | true => exact absurd (zl_spn_mono 10 _ e) c
          rw [Bool.not_eq_true] at c
          rw [c, d]; rfl
      by_cases c : zd_bgr M s' j = true
      · have ez1 := ez.trans c
        rw [if_pos ez1, if_pos ez1] at z
        obtain ⟨zz1, zz2⟩ := z
        have zz1 : θp 239 j = zv_ne (if ¬ Mr 252 (10 * s' + j) = 0 then Mr 253 (10 * s' + j) else Mr 239 j) (Mr 232 s' - Mr 235 j) := zz1
        have zz2 : θp 240 j = zv_ne (if ¬ Mr 252 (10 * s' + j) = 0 then Mr 254 (10 * s' + j) else Mr 240 j) (Mr 233 s' - Mr 236 j) := zz2
        have whole : M (zdW j + 1) 0 ≤ x ∧ M (zdW j + 1) 1 ≤ y := by
          have := (zl_al_iff 10).mp fb.2.2 j hj
          unfold zd_gwf at this
          rw [pb, c, fp] at this
          have := of_decide_eq_true this
          rw [(p1 j hj).2, hnp.2.2.1, hnp.2.2.2] at this
          exact this
        refine Or.inr (Or.inr ⟨s', hs, by rw [n5 j hj, if_pos c], fun e he => ?_⟩)
        rw [nL j hj, wp j hj e he, hp e he, if_pos c]
        refine ⟨if zd_has M s' j = true then M (zdP s' + 1 + e) j else M (zdW j + 2) e, ?_⟩
        unfold zx_cl
        rw [(p1 j hj).2]
        rcases (by omega : e = 0 ∨ e = 1) with rfl | rfl
        · rw [(nZ0 s' hs 0).trans hn.2.2.1, hnp.2.2.1]
          refine ⟨whole.1, zX_sub b2 b3 hx whole.1, rfl, ?_⟩
          rw [zz1, hM.1.1, mC 235 j (by decide) (by decide), c3]
          by_cases d : zd_has M s' j = true
          · rw [if_pos (k252.mpr d), if_pos d, mC 253 _ (by decide) (by decide), up' 253 _ (by decide), ← hX.2.2.1 s' hs hk j hj (hQ d) 0 (by decide)]
          · rw [if_neg (fun z => d (k252.mp z)), if_neg d, mC 239 _ (by decide) (by decide), up' 239 _ (by decide), ← p 0 (by decide)]
        · rw [(nZ0 s' hs 1).trans hn.2.2.2, hnp.2.2.2]
          refine ⟨whole.2, zX_sub b4 b5 hy whole.2, rfl, ?_⟩
          rw [zz2, hM.1.2, mC 236 j (by decide) (by decide), c4]
          by_cases d : zd_has M s' j = true
          · rw [if_pos (k252.mpr d), if_pos d, mC 254 _ (by decide) (by decide), up' 254 _ (by decide), ← hX.2.2.1 s' hs hk j hj (hQ d) 1 (by decide)]
          · rw [if_neg (fun z => d (k252.mp z)), if_neg d, mC 240 _ (by decide) (by decide), up' 240 _ (by decide), ← p 1 (by decide)]
      · have ez0 : ¬ (zv_back Mr (zv_dlg N) (zv_own N) s' j && !decide (Mr 234 j = 1)) = true := fun e => c (ez.symm.trans e)
        rw [if_neg ez0, if_neg ez0] at z
        have z : θp 239 j = Mr 239 j ∧ θp 240 j = Mr 240 j := z
        refine Or.inl ⟨fm, fun e he => ⟨?_, ?_⟩, fun q4 => ?_⟩
        · rw [wp j hj e he, hp e he, if_neg c]
        · rcases (by omega : e = 0 ∨ e = 1) with rfl | rfl
          · exact z.1.trans (mC _ _ (by decide) (by decide))
          · exact z.2.trans (mC _ _ (by decide) (by decide))
        · rw [nW j hj 3 (by decide)] at q4
          refine ⟨q4, by rw [n5 j hj, if_neg c], fun q hq e a ha => ⟨nL j hj a, ?_⟩⟩
          have hne : q ≠ s' := fun z => by
            rw [z] at e
            exact noS j hj fm q4 e
          rw [nZ0 q hq, (n4 q hq hne).2]
theorem zX_screen (hX : zX M) (w x y : Int32) : zX_c M A_Desk_screen A_Mod_screen [.int w, .int x, .int y] := by
  by_cases c : ∃ s, zd_sarg w x y s
  · obtain ⟨s, ha⟩ := c
    by_cases c2 : M (zdS s) 3 = 0
    · exact zX_scr2 hX ha c2
    · exact zX_scr1 hX ha c2
  · have hY := zY_screen hX.1 w x y
    obtain ⟨row, stkC, stk, ord, Rs, ts, us, h⟩ := hX.1.1
    have E1 := ze_screen_no (μ := M) 62 c
    obtain ⟨θ, r2, E2, g⟩ := ze_Mscreen 36 (zK_R h) (zK_kep h) w x y
    have pr : zv_plc M θ := by
      rcases id g with ⟨-, rfl⟩ | ⟨s, z, -⟩
      · exact zv_plc.refl
      · exact (c ⟨s, z⟩).elim
    exact zX_plc hX hY E1 E2 zX_lo_refl zd_plc.refl zW_up.refl pr (zW_mscr g)
end ZXK
