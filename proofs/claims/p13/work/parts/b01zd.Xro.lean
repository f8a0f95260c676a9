/-! places: calls that move nothing -/
section ZXE
variable {M N Np θ ξ : zm_M} {row row' stkC stk ord : List Nat} {Rs : Nat → List Nat} {ts us : Nat → zy_F} {a b k s : Nat} {vs : List Value} {r1 r2 : Int32}
theorem zX_plc (h : zX M) (hY : zY_c M a b vs) (E1 : ze_E 64 a (.ref 1 :: vs) (zm_mk M) (some (.int r1)) (zm_mk N)) (E2 : ze_E 64 b (.ref 232 :: vs) (zm_mk N) (some (.int r2)) (zm_mk θ)) (q : zX_lo M N) (pc : zd_plc M N) (up : zW_up M N) (pr : zv_plc N θ) (lo : zW_lo N θ) : zX_c M a b vs := zX_fin hY E1 E2 lo (zX2_same h.2 q pc up pr)
theorem zX_lo_cells (e : ∀ c d, (36 ≤ c ∧ c < 66) ∨ (66 ≤ c ∧ c < 231 ∧ ((c - 66) % 55 = 1 ∨ (c - 66) % 55 = 26 ∨ (c - 66) % 55 = 54)) → (36 ≤ c ∧ c < 66 → (c - 36) % 3 ≠ 2) → N c d = M c d) : zX_lo M N := by
  have eW : ∀ k, k < 10 → ∀ d, N (zdW k) d = M (zdW k) d := fun k hk d => e _ _ (by unfold zdW; omega) (by unfold zdW; omega)
  refine ⟨fun k hk q => ⟨?_, eW k hk 3, eW k hk 5, fun a ha => e _ _ (by unfold zdW; omega) (by unfold zdW; omega)⟩, fun s hs a ha => e _ _ (by unfold zdZ; omega) (by unfold zdZ; omega), fun s hs q => ⟨by rw [← e (zdK s) 3 (by unfold zdK; omega) (by unfold zdK; omega)]; exact q, fun k hk q2 => by rw [← e (zdQ s) k (by unfold zdQ; omega) (by unfold zdQ; omega)]; exact q2⟩⟩
  rw [zd_flo_iff] at q ⊢
  rw [eW k hk, eW k hk] at q
  exact q
theorem zX_lo_foc (h : zd_foc M N k) : zX_lo M N := zX_lo_cells (fun c d h1 h2 => h.1 c d (by omega) (by omega) (by omega) (by omega) (fun ⟨_, s, hs, _, e, _⟩ => by unfold zdT at e; omega))
theorem zX_lo_trans (h : zX_lo M N) (g : zX_lo N ξ) : zX_lo M ξ := by
  refine ⟨fun k hk q => ?_, fun s hs a ha => (g.2.1 s hs a ha).trans (h.2.1 s hs a ha), fun s hs q => ?_⟩
  · obtain ⟨q1, q2, q3, q4⟩ := g.1 k hk q
    obtain ⟨p1, p2, p3, p4⟩ := h.1 k hk q1
    exact ⟨p1, q2.trans p2, q3.trans p3, fun a ha => (q4 a ha).trans (p4 a ha)⟩
  · obtain ⟨q1, q2⟩ := g.2.2 s hs q
    obtain ⟨p1, p2⟩ := h.2.2 s hs q1
    exact ⟨p1, fun k hk z => p2 k hk (q2 k hk z)⟩
theorem zX_lo_refl : zX_lo M M := ⟨fun _ _ q => ⟨q, rfl, rfl, fun _ _ => rfl⟩, fun _ _ _ _ => rfl, fun _ _ q => ⟨q, fun _ _ z => z⟩⟩
theorem zd_plc_mk (e : zm_mk N = zm_mk Np) (p : zd_plc M Np) : zd_plc M N := ⟨fun k hk a ha => (zd_plW_mk e k hk a ha).trans (p.1 k hk a ha), fun s hs j hj a ha => (zd_kpp_mk e s hs j hj a ha).trans (p.2 s hs j hj a ha)⟩
theorem zv_foc_p (h : zv_foc N θ row stk us k) : zv_plc N θ := fun c d hc => zv_foc_c h c d (by omega) (by omega)
theorem zX_area (h : zX M) (w x : Int32) : zX_c M A_Desk_area A_Mod_area [.int w, .int x] := (zX_area_e h w x).c
theorem zX_neighbour (hX : zX M) (w x : Int32) : zX_c M A_Desk_neighbour A_Mod_neighbour [.int w, .int x] := by
  obtain ⟨row, stkC, stk, ord, Rs, ts, us, h⟩ := hX.1.1
  obtain ⟨N, r1, E1, e⟩ := ze_neighbour_s 57 h.1 w x
  obtain ⟨θ, r2, E2, f⟩ := ze_Mneighbour_s 35 (zK_R (zW_mid h (zW_eqv e.v))) w x
  exact zX_ro hX (zY_neighbour hX.1 w x) E1 E2 e f
theorem zX_steps (hX : zX M) (w x : Int32) : zX_c M A_Desk_steps A_Mod_steps [.int w, .int x] := by
  obtain ⟨row, stkC, stk, ord, Rs, ts, us, h⟩ := hX.1.1
  obtain ⟨N, r1, E1, e⟩ := ze_steps_s 57 h.1 w x
  obtain ⟨θ, r2, E2, f⟩ := ze_Msteps_s 35 (zK_R (zW_mid h (zW_eqv e.v))) w x
  exact zX_ro hX (zY_steps hX.1 w x) E1 E2 e f
theorem zX_at (hX : zX M) (w x y : Int32) : zX_c M A_Desk_at A_Mod_at [.int w, .int x, .int y] := by
  obtain ⟨row, stkC, stk, ord, Rs, ts, us, h⟩ := hX.1.1
  obtain ⟨N, r1, E1, e⟩ := ze_at_s 57 h.1 w x y
  obtain ⟨θ, r2, E2, f⟩ := ze_Mat_s 35 (zK_R (zW_mid h (zW_eqv e.v))) w x y
  exact zX_ro hX (zY_at hX.1 w x y) E1 E2 e f
theorem zX_told (hX : zX M) (w x : Int32) : zX_c M A_Desk_told A_Mod_told [.int w, .int x] := by
  obtain ⟨row, stkC, stk, ord, Rs, ts, us, h⟩ := hX.1.1
  obtain ⟨r1, E1⟩ := ze_told 60 h.1 w x
  obtain ⟨θ, r2, E2, f⟩ := ze_Mtold_s 35 (zK_R h) w x
  exact zX_ro hX (zY_told hX.1 w x) E1 E2 zJ_eqs.refl f
theorem zX_tab (hX : zX M) (w x y : Int32) : zX_c M A_Desk_tab A_Mod_tab [.int w, .int x, .int y] := by
  obtain ⟨row, stkC, stk, ord, Rs, ts, us, h⟩ := hX.1.1
  obtain ⟨r1, E1⟩ := ze_tab 61 h.1 w x y
  obtain ⟨θ, r2, E2, f⟩ := ze_Mtab_s 35 (zK_R h) w x y
  exact zX_ro hX (zY_tab hX.1 w x y) E1 E2 zJ_eqs.refl f
theorem zX_about (hX : zX M) (w x : Int32) : zX_c M A_Desk_about A_Mod_about [.int w, .int x] := by
  obtain ⟨row, stkC, stk, ord, Rs, ts, us, h⟩ := hX.1.1
  obtain ⟨r1, E1⟩ := ze_about 60 h.1 w x
  obtain ⟨r2, E2⟩ := ze_Mabout 59 (zK_R h) w x
  exact zX_ro hX (zY_about hX.1 w x) E1 E2 zJ_eqs.refl zM_frs.refl
theorem zX_count (hX : zX M) (x : Int32) : zX_c M A_Desk_count A_Mod_count [.int x] := by
  obtain ⟨row, stkC, stk, ord, Rs, ts, us, h⟩ := hX.1.1
  obtain ⟨r1, E1⟩ := ze_count 61 h.1 x
  obtain ⟨r2, E2⟩ := ze_Mcount (μ := M) 63 x
  exact zX_ro hX (zY_count hX.1 x) E1 E2 zJ_eqs.refl zM_frs.refl
theorem zX_isOf (hX : zX M) (w x : Int32) : zX_c M A_Desk_isOf A_Mod_isOf [.int w, .int x] := by
  obtain ⟨r, E1, E2⟩ := zW_isOf hX.1.1 w x
  exact zX_ro hX (zY_isOf hX.1 w x) E1 E2 zJ_eqs.refl zM_frs.refl
theorem zX_focus (hX : zX M) (w : Int32) : zX_c M A_Desk_focus A_Mod_focus [.int w] := by
  have hY := zY_focus hX.1 w
  obtain ⟨row, stkC, stk, ord, Rs, ts, us, h⟩ := hX.1.1
  rcases zW_win h w with ⟨k, hk, rfl, ht, hk0⟩ | ⟨E, hno⟩
  · obtain ⟨N, stk', r1, E1, hJ, f⟩ := ze_focus 48 h.1 hk ht
    have hm := zW_mid h (zW_foc f)
    obtain ⟨θ, r2, E2, g⟩ := ze_Mfocus 51 (zK_R hm) (nI k)
    rcases g with ⟨g, -⟩ | ⟨k', hk', e, -, g⟩
    · exact absurd (g k hk rfl) ((zK_kind hm hk).2.2.mp ht)
    · exact zX_plc hX hY E1 E2 (zX_lo_foc f) (zd_foc_p f) (zW_foc f) (zv_foc_p g) (zW_mfoc g)
  · obtain ⟨θ, r2, E2, g⟩ := ze_Mfocus 51 (zK_R h) w
    rcases g with ⟨-, rfl⟩ | ⟨k', hk', e, g, -⟩
    · exact zX_plc hX hY (ze_focus_no 62 (E 62)) E2 zX_lo_refl zd_plc.refl zW_up.refl zv_plc.refl zW_lo.refl
    · exact absurd (hno k' hk' e) g
theorem zX_back (hX : zX M) : zX_c M A_Desk_back A_Mod_back [] := by
  have hY := zY_back hX.1
  obtain ⟨row, stkC, stk, ord, Rs, ts, us, h⟩ := hX.1.1
  by_cases hl : row.length < 2
  · obtain ⟨θ, r2, E2, g⟩ := ze_Mback 51 (zK_R h)
    rcases g with ⟨-, rfl⟩ | ⟨g, -⟩
    · exact zX_plc hX hY (ze_back_no 62 h.1 hl) E2 zX_lo_refl zd_plc.refl zW_up.refl zv_plc.refl zW_lo.refl
    · exact absurd hl g
  · obtain ⟨N, stk', r1, E1, hJ, f⟩ := ze_back 48 h.1 hl
    have hm := zW_mid h (zW_foc f)
    obtain ⟨θ, r2, E2, g⟩ := ze_Mback 51 (zK_R hm)
    rcases g with ⟨g, -⟩ | ⟨-, g⟩
    · exact absurd g hl
    · exact zX_plc hX hY E1 E2 (zX_lo_foc f) (zd_foc_p f) (zW_foc f) (zv_foc_p g) (zW_mfoc g)
theorem zX_share (hX : zX M) (w x v : Int32) : zX_c M A_Desk_share A_Mod_share [.int w, .int x, .int v] := by
  have hY := zY_share hX.1 w x v
  obtain ⟨row, stkC, stk, ord, Rs, ts, us, h⟩ := hX.1.1
  obtain ⟨N, r1, E1, hJ, f⟩ := ze_share 61 h.1 w x v
  have hm := zW_mid h (zW_shr f)
  obtain ⟨θ, r2, E2, g⟩ := ze_Mshare 60 (zK_R hm) w x v
  have pc : zX_lo M N ∧ zd_plc M N := by
    rcases id f with ⟨-, rfl⟩ | ⟨k, s, n, a, -, hs, -, -, -, -, -, -, -, -, -, rfl⟩
    · exact ⟨zX_lo_refl, zd_plc.refl⟩
    · exact ⟨zX_lo_cells (fun c d h1 h2 => zm_up_ne (by unfold zdT; omega)), fun k hk a ha => zm_up_ne (by unfold zdT zdW; omega), fun q hq j hj a ha => zm_up_ne (by unfold zdT zdP; omega)⟩
  have pr : zv_plc N θ := by
    rcases id g with ⟨-, rfl⟩ | ⟨k, s, n, a, -, hs, -, -, -, -, -, -, -, -, rfl⟩
    · exact zv_plc.refl
    · exact fun c d hc => zm_up_ne (by omega)
  exact zX_plc hX hY E1 E2 pc.1 pc.2 (zW_shr f) pr (zW_mshr g)
theorem zX_toward (hX : zX M) (x : Int32) : zX_c M A_Desk_toward A_Mod_toward [.int x] := by
  have hY := zY_toward hX.1 x
  obtain ⟨row, stkC, stk, ord, Rs, ts, us, h⟩ := hX.1.1
  obtain ⟨N, r1, row', stk', E1, hJ, f⟩ := ze_toward 48 h.1 x
  obtain ⟨Np, r1', E1', p⟩ := ze_toward_s 48 h.1 x
  have pc := zd_plc_mk (ze_E_det E1 E1').2 p
  have up : zX_lo M N ∧ zW_up M N := by
    rcases id f with ⟨-, rfl, -⟩ | ⟨sd, s, ξ, -, -, -, -, -, h1, -, ⟨-, rfl, -⟩ | ⟨i, -, -, -, -, h2⟩⟩
    · exact ⟨zX_lo_refl, zW_up.refl⟩
    · exact ⟨zX_lo_eqv h1, zW_eqv h1⟩
    · exact ⟨zX_lo_trans (zX_lo_eqv h1) (zX_lo_foc h2), (zW_eqv h1).trans (zW_foc h2)⟩
  have hm := zW_mid h up.2
  obtain ⟨θ, r2, E2, g⟩ := ze_Mtoward 35 (zK_R hm) x
  have pr : zv_plc N θ := by
    rcases id g with ⟨-, rfl⟩ | ⟨sd, s, ξ, lo, -, -, -, -, -, -, -, h1, h⟩
    · exact zv_plc.refl
    · have q : zv_plc N ξ := fun c d hc => h1 c d (by omega) (by omega)
      rcases h with ⟨-, rfl⟩ | ⟨i, -, -, -, h⟩
      · exact q
      · exact q.trans (zv_foc_p h)
  exact zX_plc hX hY E1 E2 up.1 pc up.2 pr (zW_mtwd g)
theorem zX_close (hX : zX M) (w : Int32) : zX_c M A_Desk_close A_Mod_close [.int w] := by
  have hY := zY_close hX.1 w
  obtain ⟨row, stkC, stk, ord, Rs, ts, us, h⟩ := hX.1.1
  rcases zW_win h w with ⟨k, hk, rfl, ht, hk0⟩ | ⟨E, hno⟩
  · obtain ⟨N, r1, s, n, hs, hn, E1, hJ, f⟩ := ze_close 58 h.1 hk ht
    have hm := zW_mid h (zW_cls hs f)
    obtain ⟨θ, r2, E2, g⟩ := ze_Mclose 51 (zK_R hm) (nI k)
    rcases g with ⟨g, -⟩ | ⟨k', hk', e, -, g⟩
    · exact absurd (g k hk rfl) ((zK_kind hm hk).2.2.mp ht)
    · have := (nI_eq (by omega) (by omega)).mp e
      subst this
      obtain ⟨m, -, -, -, -, fr⟩ := zv_cls_all hm hk hs (fun c => (hn c).1) g
      have lo : zW_lo N θ := fun c hc => funext fun d => fr c d (by omega) (by omega) (by omega) (by omega) (by omega) (fun _ => zu_in_not (by omega))
      have pr : zv_plc N θ := fun c d hc => fr c d (by omega) (by omega) (by omega) (by omega) (by omega) (fun _ => zu_in_not (by omega))
      have fc := f.2.2.2.2.2
      have pc : zd_plc M N := ⟨fun j hj a ha => fc _ _ (by unfold zdW; omega) (by unfold zdW; omega) (by unfold zdW; omega) (by unfold zdW; omega) (by unfold zdW; omega) (fun q hq e => by unfold zdW zdK at e; omega) (fun i hi e => by unfold zdW at e; omega) (fun _ _ => by unfold zt_out zdT zdW; omega), fun q hq j hj a ha => fc _ _ (by unfold zdP; omega) (by unfold zdP; omega) (by unfold zdP; omega) (by unfold zdP; omega) (by unfold zdP; omega) (fun q hq e => by unfold zdP zdK at e; omega) (fun i hi e => by unfold zdP zdW at e; omega) (fun _ _ => by unfold zt_out zdT zdP; omega)⟩
      have eW : ∀ j, j < 10 → ∀ d, d ≠ 2 → N (zdW j) d = M (zdW j) d := fun j hj d hd => fc _ _ (by unfold zdW; omega) (by unfold zdW; omega) (by unfold zdW; omega) (by unfold zdW; omega) (by unfold zdW; omega) (fun q hq e => by unfold zdW zdK at e; omega) (fun i hi e => hd) (fun _ _ => by unfold zt_out zdT zdW; omega)
      have lo2 : zX_lo M N := by
        refine ⟨fun j hj q => ⟨?_, eW j hj 3 (by decide), eW j hj 5 (by decide), fun a ha => fc _ _ (by unfold zdW; omega) (by unfold zdW; omega) (by unfold zdW; omega) (by unfold zdW; omega) (by unfold zdW; omega) (fun q hq e => by unfold zdW zdK at e; omega) (fun i hi e => by unfold zdW at e; omega) (fun _ _ => by unfold zt_out zdT zdW; omega)⟩, fun q hq a ha => fc _ _ (by unfold zdZ; omega) (by unfold zdZ; omega) (by unfold zdZ; omega) (by unfold zdZ; omega) (by unfold zdZ; omega) (fun q hq e => by unfold zdZ zdK at e; omega) (fun i hi e => by unfold zdZ zdW at e; omega) (fun _ _ => by unfold zt_out zdT zdZ; omega), fun q hq z => ⟨?_, fun j hj z2 => ?_⟩⟩
        · rw [zd_flo_iff] at q ⊢
          rw [eW j hj 3 (by decide), f.2.1 j hj] at q
          refine ⟨fun z => q.1 ?_, q.2⟩
          split
          · exact z
          · rfl
        · rw [f.2.2.1 q hq] at z
          intro z3
          refine z ?_
          split
          · rfl
          · exact z3
        · have e : N (zdQ q) j = M (zdQ q) j := fc _ _ (by unfold zdQ; omega) (by unfold zdQ; omega) (by unfold zdQ; omega) (by unfold zdQ; omega) (by unfold zdQ; omega) (fun q hq e => by unfold zdQ zdK at e; omega) (fun i hi e => by unfold zdQ zdW at e; omega) (fun _ _ => by unfold zt_out zdT zdQ; omega)
          rw [← e]
          exact z2
      exact zX_plc hX hY E1 E2 lo2 pc (zW_cls hs f) pr lo
  · obtain ⟨θ, r2, E2, g⟩ := ze_Mclose 51 (zK_R h) w
    rcases g with ⟨-, rfl⟩ | ⟨k', hk', e, g, -⟩
    · exact zX_plc hX hY (ze_close_no 62 (E 62)) E2 zX_lo_refl zd_plc.refl zW_up.refl zv_plc.refl zW_lo.refl
    · exact absurd (hno k' hk' e) g
end ZXE
