/-! the law: one call on both sides, the stack's order with it -/
section ZYS
variable {M N θ : zm_M} {row row' stkC stkC' stk ord : List Nat} {Rs Rs' : Nat → List Nat} {ts ts' us us' : Nat → zy_F}
theorem zY_area (h : zY M) (w x : Int32) : zY_c M A_Desk_area A_Mod_area [.int w, .int x] := by
  obtain ⟨⟨row, stkC, stk, ord, Rs, ts, us, h⟩, st⟩ := h
  obtain ⟨N, r1, E1, e⟩ := ze_area 57 h.1 w x
  obtain ⟨θ, r2, E2, f⟩ := ze_Marea 35 (zK_R (zW_mid h (zW_eqv e))) w x
  exact ⟨N, θ, r1, r2, E1, E2, zY_ro h st e f⟩
theorem zY_count (h : zY M) (x : Int32) : zY_c M A_Desk_count A_Mod_count [.int x] := by
  obtain ⟨⟨row, stkC, stk, ord, Rs, ts, us, h⟩, st⟩ := h
  obtain ⟨r1, E1⟩ := ze_count 61 h.1 x
  obtain ⟨r2, E2⟩ := ze_Mcount (μ := M) 63 x
  exact ⟨M, M, r1, r2, E1, E2, ⟨_, _, _, _, _, _, _, h⟩, st⟩
theorem zY_told (h : zY M) (w x : Int32) : zY_c M A_Desk_told A_Mod_told [.int w, .int x] := by
  obtain ⟨⟨row, stkC, stk, ord, Rs, ts, us, h⟩, st⟩ := h
  obtain ⟨r1, E1⟩ := ze_told 60 h.1 w x
  obtain ⟨θ, r2, E2, f⟩ := ze_Mtold 35 (zK_R h) w x
  exact ⟨M, θ, r1, r2, E1, E2, zY_ro h st zJ_eqv.refl f⟩
theorem zY_tab (h : zY M) (w x y : Int32) : zY_c M A_Desk_tab A_Mod_tab [.int w, .int x, .int y] := by
  obtain ⟨⟨row, stkC, stk, ord, Rs, ts, us, h⟩, st⟩ := h
  obtain ⟨r1, E1⟩ := ze_tab 61 h.1 w x y
  obtain ⟨θ, r2, E2, f⟩ := ze_Mtab 35 (zK_R h) w x y
  exact ⟨M, θ, r1, r2, E1, E2, zY_ro h st zJ_eqv.refl f⟩
theorem zY_at (h : zY M) (w x y : Int32) : zY_c M A_Desk_at A_Mod_at [.int w, .int x, .int y] := by
  obtain ⟨⟨row, stkC, stk, ord, Rs, ts, us, h⟩, st⟩ := h
  obtain ⟨N, r1, E1, e⟩ := ze_at 57 h.1 w x y
  obtain ⟨θ, r2, E2, f⟩ := ze_Mat 35 (zK_R (zW_mid h (zW_eqv e))) w x y
  exact ⟨N, θ, r1, r2, E1, E2, zY_ro h st e f⟩
theorem zY_neighbour (h : zY M) (w x : Int32) : zY_c M A_Desk_neighbour A_Mod_neighbour [.int w, .int x] := by
  obtain ⟨⟨row, stkC, stk, ord, Rs, ts, us, h⟩, st⟩ := h
  obtain ⟨N, r1, E1, e⟩ := ze_neighbour 57 h.1 w x
  obtain ⟨θ, r2, E2, f⟩ := ze_Mneighbour 35 (zK_R (zW_mid h (zW_eqv e))) w x
  exact ⟨N, θ, r1, r2, E1, E2, zY_ro h st e f⟩
theorem zY_steps (h : zY M) (w x : Int32) : zY_c M A_Desk_steps A_Mod_steps [.int w, .int x] := by
  obtain ⟨⟨row, stkC, stk, ord, Rs, ts, us, h⟩, st⟩ := h
  obtain ⟨N, r1, E1, e⟩ := ze_steps 57 h.1 w x
  obtain ⟨θ, r2, E2, f⟩ := ze_Msteps 35 (zK_R (zW_mid h (zW_eqv e))) w x
  exact ⟨N, θ, r1, r2, E1, E2, zY_ro h st e f⟩
theorem zY_move (h : zY M) (w x y : Int32) : zY_c M A_Desk_move A_Mod_move [.int w, .int x, .int y] := by
  obtain ⟨⟨row, stkC, stk, ord, Rs, ts, us, h⟩, st⟩ := h
  obtain ⟨N, r1, E1, -, f⟩ := ze_move 59 h.1 w x y
  have hm := zW_mid h (zW_mov f)
  obtain ⟨θ, r2, E2, g⟩ := ze_Mmove 60 (zK_R hm) w x y
  exact ⟨N, θ, r1, r2, E1, E2, zW_end (zK_mov hm f g) (zW_mmov g), zY_st_k st (zW_mov f) (zY_u_mov f) (zW_mmov g) (zY_l_mov g)⟩
theorem zY_share (h : zY M) (w x v : Int32) : zY_c M A_Desk_share A_Mod_share [.int w, .int x, .int v] := by
  obtain ⟨⟨row, stkC, stk, ord, Rs, ts, us, h⟩, st⟩ := h
  obtain ⟨N, r1, E1, hJ, f⟩ := ze_share 61 h.1 w x v
  have hm := zW_mid h (zW_shr f)
  obtain ⟨θ, r2, E2, g⟩ := ze_Mshare 60 (zK_R hm) w x v
  exact ⟨N, θ, r1, r2, E1, E2, zW_end (zK_shr hm hJ f g) (zW_mshr g), zY_st_k st (zW_shr f) (zY_u_shr f) (zW_mshr g) (zY_l_shr g)⟩
theorem zY_gone (h : zY M) (w : Int32) : zY_c M A_Desk_gone A_Mod_gone [.int w] := by
  obtain ⟨⟨row, stkC, stk, ord, Rs, ts, us, h⟩, st⟩ := h
  obtain ⟨N, r1, Rs', ts', E1, hJ, f⟩ := ze_gone 57 h.1 w
  have hm := zW_mid h (zW_gon f)
  obtain ⟨θ, r2, E2, g⟩ := ze_Mgone 36 (zK_R hm) w
  obtain ⟨_, z⟩ := zK_gon hm hJ f g
  exact ⟨N, θ, r1, r2, E1, E2, zW_end z (zW_mgon g), zY_st_k st (zW_gon f) (zY_u_gon f) (zW_mgon g) (zY_l_gon g)⟩
theorem zY_screen (h : zY M) (w x y : Int32) : zY_c M A_Desk_screen A_Mod_screen [.int w, .int x, .int y] := by
  obtain ⟨⟨row, stkC, stk, ord, Rs, ts, us, h⟩, st⟩ := h
  by_cases c : ∃ s, zd_sarg w x y s
  · obtain ⟨s, ha⟩ := c
    by_cases c2 : M (zdS s) 3 = 0
    · obtain ⟨N, r1, Rs', ts', E1, hJ, f⟩ := ze_screen_3 56 h.1 ha c2
      have hm := zW_mid h (zW_scn ha.1 f)
      obtain ⟨θ, r2, E2, g⟩ := ze_Mscreen 36 (zK_R hm) (zK_kep hm) w x y
      obtain ⟨_, z⟩ := zK_scn2 hm ha c2 hJ f g
      exact ⟨N, θ, r1, r2, E1, E2, zW_end z (zW_mscr g), zY_st_k st (zW_scn ha.1 f) (zY_u_scn ha.1 f) (zW_mscr g) (zY_l_scr g)⟩
    · obtain ⟨N, r1, E1, hJ, f⟩ := ze_screen_1 57 h.1 ha c2
      have hm := zW_mid h (zW_rsz ha.1 f)
      obtain ⟨θ, r2, E2, g⟩ := ze_Mscreen 36 (zK_R hm) (zK_kep hm) w x y
      exact ⟨N, θ, r1, r2, E1, E2, zW_end (zK_rsz hm ha c2 hJ f g) (zW_mscr g), zY_st_k st (zW_rsz ha.1 f) (zY_u_rsz ha.1 f) (zW_mscr g) (zY_l_scr g)⟩
  · have E1 := ze_screen_no (μ := M) 62 c
    obtain ⟨θ, r2, E2, g⟩ := ze_Mscreen 36 (zK_R h) (zK_kep h) w x y
    exact ⟨M, θ, _, r2, E1, E2, zW_end (zK_sno h c g) (zW_mscr g), zY_st_k st zW_up.refl zY_up.refl (zW_mscr g) (zY_l_scr g)⟩
theorem zY_isOf (h : zY M) (w x : Int32) : zY_c M A_Desk_isOf A_Mod_isOf [.int w, .int x] := by
  obtain ⟨r, E1, E2⟩ := zW_isOf h.1 w x
  exact ⟨M, M, r, r, E1, E2, h⟩
theorem zY_focus (h : zY M) (w : Int32) : zY_c M A_Desk_focus A_Mod_focus [.int w] := by
  obtain ⟨⟨row, stkC, stk, ord, Rs, ts, us, h⟩, st⟩ := h
  obtain rfl : stk = stkC := (zY_eq h st).symm
  obtain ⟨sl, sn, sb⟩ := zY_sb h
  rcases zW_win h w with ⟨k, hk, rfl, ht, hk0⟩ | ⟨E, hno⟩
  · obtain ⟨N, stk', E1, hJ, f⟩ := ze_focus_x 48 h.1 hk ht
    have hm := zW_mid h (zW_foc f.1)
    obtain ⟨θ, r2, E2, g⟩ := ze_Mfocus_x 51 (zK_R hm) (nI k)
    rcases g with ⟨g, -, -⟩ | ⟨k', hk', e, -, g, rfl⟩
    · exact absurd (g k hk rfl) ((zK_kind hm hk).2.2.mp ht)
    · have := (nI_eq (by omega) (by omega)).mp e
      subst this
      obtain ⟨_, z⟩ := zK_foc hm hk ht hJ f.1 g.1
      have hkr : k ∈ row := (h.1.1.2.2 k).mpr ⟨hk, ht⟩
      have e0 : N 242 0 = nI (row.getD 0 0) := hm.2.1.1.2.2 0 (List.length_pos_of_mem hkr)
      rw [e0] at E2
      exact ⟨N, θ, _, _, E1, E2, zW_end z (zW_mfoc g.1), zY_fox (zK_rkc h) (zK_flow hm) sl sn sb hk f g (zW_mfoc g.1)⟩
  · obtain ⟨θ, r2, E2, g⟩ := ze_Mfocus_x 51 (zK_R h) w
    rcases g with ⟨-, rfl, rfl⟩ | ⟨k', hk', e, g, -⟩
    · exact ⟨θ, θ, _, _, ze_focus_no 62 (E 62), E2, ⟨_, _, _, _, _, _, _, h⟩, st⟩
    · exact absurd (hno k' hk' e) g
theorem zY_back (h : zY M) : zY_c M A_Desk_back A_Mod_back [] := by
  obtain ⟨⟨row, stkC, stk, ord, Rs, ts, us, h⟩, st⟩ := h
  obtain rfl : stk = stkC := (zY_eq h st).symm
  obtain ⟨sl, sn, sb⟩ := zY_sb h
  by_cases hl : row.length < 2
  · obtain ⟨θ, r2, E2, g⟩ := ze_Mback_x 51 (zK_R h)
    rcases g with ⟨-, rfl, rfl⟩ | ⟨g, -⟩
    · exact ⟨θ, θ, _, _, ze_back_no 62 h.1 hl, E2, ⟨_, _, _, _, _, _, _, h⟩, st⟩
    · exact absurd hl g
  · obtain ⟨N, stk', E1, hJ, f⟩ := ze_back_x 48 h.1 hl
    have hm := zW_mid h (zW_foc f.1)
    obtain ⟨θ, r2, E2, g⟩ := ze_Mback_x 51 (zK_R hm)
    rcases g with ⟨g, -, -⟩ | ⟨-, g, rfl⟩
    · exact absurd g hl
    · obtain ⟨hk, ht⟩ := (h.1.1.2.2 (row.getD 1 0)).mp (zl_mem (by omega))
      obtain ⟨_, z⟩ := zK_foc hm hk ht hJ f.1 g.1
      exact ⟨N, θ, _, _, E1, E2, zW_end z (zW_mfoc g.1), zY_fox (zK_rkc h) (zK_flow hm) sl sn sb hk f g (zW_mfoc g.1)⟩
theorem zY_close (h : zY M) (w : Int32) : zY_c M A_Desk_close A_Mod_close [.int w] := by
  obtain ⟨⟨row, stkC, stk, ord, Rs, ts, us, h⟩, st⟩ := h
  obtain rfl : stk = stkC := (zY_eq h st).symm
  obtain ⟨sl, sn, sb⟩ := zY_sb h
  rcases zW_win h w with ⟨k, hk, rfl, ht, hk0⟩ | ⟨E, hno⟩
  · obtain ⟨N, r1, s, n, hs, hn, E1, hJ, f⟩ := ze_close 58 h.1 hk ht
    have hm := zW_mid h (zW_cls hs f)
    obtain ⟨θ, r2, E2, g⟩ := ze_Mclose 51 (zK_R hm) (nI k)
    rcases g with ⟨g, -⟩ | ⟨k', hk', e, -, g⟩
    · exact absurd (g k hk rfl) ((zK_kind hm hk).2.2.mp ht)
    · have := (nI_eq (by omega) (by omega)).mp e
      subst this
      obtain ⟨_, _, _, z⟩ := zK_cls hm hk hs hn hJ f g
      obtain ⟨m, -, -, ⟨-, fs⟩, -, fr⟩ := zv_cls_all hm hk hs (fun c => (hn c).1) g
      have lo : zW_lo N θ := fun c hc => funext fun d => fr c d (by omega) (by omega) (by omega) (by omega) (by omega) (fun _ => zu_in_not (by omega))
      have es : stk.filter (fun x => !zd_grp M k x) = stk.filter (zd_left (zd_grp M k) 10) := List.filter_congr (fun x hx => (zd_left_10 (sb x hx).1).symm)
      rw [es] at fs
      exact ⟨N, θ, r1, r2, E1, E2, zW_end z lo, stk.filter (zd_left (zd_grp M k) 10), zr_L_congr (lo 5 (by decide)) (lo 6 (by decide)) f.1.2, fs, fun x hx => (sb x (List.mem_filter.mp hx).1).1⟩
  · obtain ⟨θ, r2, E2, g⟩ := ze_Mclose 51 (zK_R h) w
    rcases g with ⟨-, rfl⟩ | ⟨k', hk', e, g, -⟩
    · exact ⟨θ, θ, _, r2, ze_close_no 62 (E 62), E2, ⟨_, _, _, _, _, _, _, h⟩, st⟩
    · exact absurd (hno k' hk' e) g
theorem zY_toward (h : zY M) (x : Int32) : zY_c M A_Desk_toward A_Mod_toward [.int x] := by
  obtain ⟨⟨row, stkC, stk, ord, Rs, ts, us, h⟩, st⟩ := h
  obtain rfl : stk = stkC := (zY_eq h st).symm
  obtain ⟨sl, sn, sb⟩ := zY_sb h
  obtain ⟨N, r1, row', stk', E1, hJ, f⟩ := ze_toward_x 48 h.1 x
  have up : zW_up M N := by
    rcases id f with ⟨-, rfl, -⟩ | ⟨sd, s, ξ, -, -, -, -, -, h1, -, ⟨-, rfl, -⟩ | ⟨i, -, -, -, -, h2, -⟩⟩
    · exact zW_up.refl
    · exact zW_eqv h1
    · exact (zW_eqv h1).trans (zW_foc h2.1)
  have hm := zW_mid h up
  obtain ⟨θ, r2, E2, g⟩ := ze_Mtoward_x 35 (zK_R hm) x
  have f0 : ((∀ sd, sd < 4 → x = nI sd → ∀ s, s < 3 → row ≠ [] → ¬ zd_shn M s (row.getD 0 0)) ∧ N = M ∧ row' = row) ∨
     (∃ sd s ξ1, sd < 4 ∧ s < 3 ∧ x = nI sd ∧ row ≠ [] ∧ zd_shn M s (row.getD 0 0) ∧ zJ_eqv M ξ1 ∧ (∀ q, q < 3 → zd_laid ξ1 q (Rs q) (ts q)) ∧
       ((zd_ngb ξ1 s (row.getD 0 0) sd = -1000000005 ∧ N = ξ1 ∧ row' = row) ∨ ∃ i, i < 10 ∧ zd_th M i = true ∧ zd_ngb ξ1 s (row.getD 0 0) sd = nI i ∧ row' = i :: row.erase i ∧ zd_foc ξ1 N i)) := by
    rcases id f with ⟨a, b, c, -⟩ | ⟨sd, s, ξ, a1, a2, a3, a4, a5, a6, a7, ⟨b1, b2, b3, -⟩ | ⟨i, b1, b2, b3, b4, b5, -⟩⟩
    · exact Or.inl ⟨a, b, c⟩
    · exact Or.inr ⟨sd, s, ξ, a1, a2, a3, a4, a5, a6, a7, Or.inl ⟨b1, b2, b3⟩⟩
    · exact Or.inr ⟨sd, s, ξ, a1, a2, a3, a4, a5, a6, a7, Or.inr ⟨i, b1, b2, b3, b4, b5.1⟩⟩
  have g0 : zv_twd N θ row stk us x := by
    rcases id g with ⟨a, b, -⟩ | ⟨sd, s, ξ, lo, a1, a2, a3, a4, a5, a6, a7, a8, ⟨b1, b2, -⟩ | ⟨i, b1, b2, b3, b4, -⟩⟩
    · exact Or.inl ⟨a, b⟩
    · exact Or.inr ⟨sd, s, ξ, lo, a1, a2, a3, a4, a5, a6, a7, a8, Or.inl ⟨b1, b2⟩⟩
    · exact Or.inr ⟨sd, s, ξ, lo, a1, a2, a3, a4, a5, a6, a7, a8, Or.inr ⟨i, b1, b2, b3, b4.1⟩⟩
  obtain ⟨_, _, z⟩ := zK_tow hm hJ f0 g0
  have W := zW_end z (zW_mtwd g0)
  have key : r2 = r1 := by
    rcases f with ⟨f1, -, -, rfl⟩ | ⟨sd, s, ξ1, hsd, hs, rfl, hne, hsh, he, hl, f2⟩
    · rcases g with ⟨-, -, rfl⟩ | ⟨sd, s, μ1, lo, hsd, hs, rfl, hne, hsh, -⟩
      · rfl
      · exact absurd ((zK_shn hm (zJ_row0 h.1 hne) hs).mpr hsh) (f1 sd hsd rfl s hs hne)
    · rcases g with ⟨g1, -, -⟩ | ⟨sd', s', μ1, lo, hsd', hs', ex, -, hsh', hlo, hv, fY, g2⟩
      · exact absurd ((zK_shn hm (zJ_row0 h.1 hne) hs).mp hsh) (g1 sd hsd rfl s hs hne)
      · have e1 := (nI_eq (by omega) (by omega)).mp ex
        subst e1
        have hk := zJ_row0 h.1 hne
        generalize row.getD 0 0 = k at hsh hsh' hk f2 g2
        have e2 := (nI_eq (by omega) (by omega)).mp (((zK_shn hm hk hs').mpr hsh').2.1.symm.trans hsh.2.1)
        subst e2
        have h1 := hm.scr he (zM_fr.refl (μ := N))
        have hnb := zK_nbr h1 hs hsd (hl _ hs) hv fY hlo hk ((zK_shn h1 hk hs).mpr hsh')
        rcases hnb with ⟨z1, z2⟩ | ⟨p, hp, z1, z2⟩
        · rcases f2 with ⟨-, -, -, rfl⟩ | ⟨i, hi, -, f3, -⟩
          · rcases g2 with ⟨-, -, rfl⟩ | ⟨j, hj, -, g3, -⟩
            · rfl
            · rw [z2] at g3
              exact absurd (by rw [← g3]; decide) (nI_pos (n := j) (by omega))
          · rw [z1] at f3
            exact absurd (by rw [← f3]; decide) (nI_pos (n := i) (by omega))
        · rcases f2 with ⟨f3, -, -, -⟩ | ⟨i, hi, -, f3, -, -, rfl⟩
          · rw [z1] at f3
            exact absurd (by rw [f3]; decide) (nI_pos (n := p) (by omega))
          · rcases g2 with ⟨g3, -, -⟩ | ⟨j, hj, -, g3, -, rfl⟩
            · rw [z2] at g3
              exact absurd (by rw [g3]; decide) (nI_pos (n := p) (by omega))
            · rw [← f3, ← g3, z1, z2]
  have lo := zW_mtwd g0
  have sdn : zx_sd x < 0 := by
    unfold zx_sd
    by_cases c : 0 ≤ x ∧ x < 4
    · rw [if_pos c]; decide
    · rw [if_neg c]; decide
  have P : (zY_up M N ∧ r1 < 0) ∨ ∃ i ξ, i < 10 ∧ zJ_eqv M ξ ∧ zd_fox ξ N i ∧ r1 = nI i := by
    rcases f with ⟨-, rfl, -, rfl⟩ | ⟨sd, s, ξ, -, -, -, -, -, a6, -, ⟨-, rfl, -, rfl⟩ | ⟨i, hi, -, -, -, b5, b6⟩⟩
    · exact Or.inl ⟨zY_up.refl, sdn⟩
    · exact Or.inl ⟨zY_u_eqv a6, by decide⟩
    · exact Or.inr ⟨i, ξ, hi, a6, b5, b6⟩
  have Q : (zY_lo N θ ∧ r2 < 0) ∨ ∃ i ξ, i < 10 ∧ zM_fr N ξ ∧ zv_fox ξ θ row stk us i ∧ r2 = nI i := by
    rcases g with ⟨-, rfl, rfl⟩ | ⟨sd, s, ξ, lo, -, -, -, -, -, -, -, a8, ⟨-, rfl, rfl⟩ | ⟨i, hi, -, -, b4, b5⟩⟩
    · exact Or.inl ⟨zY_lo.refl, sdn⟩
    · exact Or.inl ⟨zY_l_fr a8.fr, by decide⟩
    · exact Or.inr ⟨i, ξ, hi, a8.fr, b4, b5⟩
  refine ⟨N, θ, r1, r2, E1, E2, W, ?_⟩
  rcases P with ⟨p1, p2⟩ | ⟨i, ξ, hi, p1, p2, p3⟩
  · rcases Q with ⟨q1, -⟩ | ⟨j, μ1, hj, -, -, q3⟩
    · exact zY_st_k st up p1 lo q1
    · rw [← key, q3] at p2
      exact absurd p2 (nI_pos (by omega))
  · rcases Q with ⟨-, q2⟩ | ⟨j, μ1, hj, q1, q2, q3⟩
    · rw [key, p3] at q2
      exact absurd q2 (nI_pos (by omega))
    · have e := (nI_eq (by omega) (by omega)).mp (q3.symm.trans (key.trans p3))
      subst e
      have h1 := hm.scr p1 q1
      obtain ⟨sl, sn, sb⟩ := zY_sb h1
      exact zY_fox (zK_rkc h1) (zK_flow h1) sl sn sb hj p2 q2 lo
theorem zY_open (h : zY M) (kd w v o : Int32) : zY_c M A_Desk_open A_Mod_open [.int kd, .int w, .int v, .int o] := by
  obtain ⟨⟨row, stkC, stk, ord, Rs, ts, us, h⟩, st⟩ := h
  obtain rfl : stk = stkC := (zY_eq h st).symm
  obtain ⟨sl, sn, sb⟩ := zY_sb h
  obtain ⟨N, r1, row', stk', Rs', ts', E1, hJ, f⟩ := ze_open_x 48 h.1 kd w v o
  have f0 : zd_opn M N row row' Rs Rs' ts ts' kd w v o := by
    rcases id f with ⟨a, b, c, d, e, -⟩ | ⟨ha, k, s, ξ, a1, a2, a3, a4, a5, a6, a7, ⟨b1, b2, b3, b4, b5, b6, -⟩ | ⟨b1, b2, -⟩⟩
    · exact Or.inl ⟨a, b, c, d, e⟩
    · exact Or.inr ⟨ha, k, s, ξ, a1, a2, a3, a4, a5, a6, a7, Or.inl ⟨b1, b2, b3, b4, b5, b6⟩⟩
    · exact Or.inr ⟨ha, k, s, ξ, a1, a2, a3, a4, a5, a6, a7, Or.inr ⟨b1.imp (fun ⟨d0, d1, d2, d3, d4, d5, d6, d7, d8, d9, e1⟩ => ⟨d0, d1, d2, d3, d4, d5, d6, d7, d8, d9, e1.1⟩) (fun ⟨d0, d1, d2, d3, d4, d5, d6⟩ => ⟨d0, d1, d2, d3, d4, d5, d6.1⟩), b2⟩⟩
  have hm := zW_mid h (zW_opn f0)
  obtain ⟨θ, r2, E2, g⟩ := ze_Mopen_x 35 (zK_R hm) hm.2.2.2.2.1 kd w v o
  have g0 : zv_opn N θ row stk us kd w v o := by
    rcases id g with ⟨a, b, -⟩ | ⟨ha, k, s, M', a1, a2, a3, a4, a5, a6, a7, ⟨b1, lo, ν3, b, u', b2, b3, ⟨c1, c2, -⟩ | ⟨c1, ν4, c2, c3, c4, -⟩⟩ | ⟨b1, ⟨c1, c2, c3, -⟩ | ⟨c1, ν4, c2, c3, -⟩⟩⟩
    · exact Or.inl ⟨a, b⟩
    · exact Or.inr ⟨ha, k, s, M', a1, a2, a3, a4, a5, a6, a7, Or.inl ⟨b1, lo, ν3, b, u', b2, b3, Or.inl ⟨c1, c2⟩⟩⟩
    · exact Or.inr ⟨ha, k, s, M', a1, a2, a3, a4, a5, a6, a7, Or.inl ⟨b1, lo, ν3, b, u', b2, b3, Or.inr ⟨c1, ν4, c2, c3, c4.1⟩⟩⟩
    · exact Or.inr ⟨ha, k, s, M', a1, a2, a3, a4, a5, a6, a7, Or.inr ⟨b1, Or.inl ⟨c1, c2, c3⟩⟩⟩
    · exact Or.inr ⟨ha, k, s, M', a1, a2, a3, a4, a5, a6, a7, Or.inr ⟨b1, Or.inr ⟨c1, ν4, c2, c3.1⟩⟩⟩
  obtain ⟨_, _, _, _, z⟩ := zK_opn hm hJ f0 g0
  have key : r2 = r1 := by
    have hoa := zK_oarg (kd := kd) (w := w) (v := v) (o := o) hm
    have zl : ∀ {l' : List Nat}, zv_L θ 242 12 l' → row'.length = l'.length := fun q => zv_L_len z.2.1.1 q
    have hL := hm.2.1.1
    -- what the reference did, by its row
    have gr : (zx_op (zv_oarg N kd w v o) (∀ j, j < 10 → ¬ N 234 j = 0) r2 ∧ row'.length = row.length ∧ (¬ zv_oarg N kd w v o ∨ (∀ j, j < 10 → ¬ N 234 j = 0) ∨ zv_osc N row kd o = -1)) ∨ ∃ k s, k < 10 ∧ s < 3 ∧ zv_oarg N kd w v o ∧ N 234 k = 0 ∧ (∀ j, j < k → ¬ N 234 j = 0) ∧ zv_osc N row kd o = nI s ∧ ((r2 = -1000000002 ∧ row'.length = row.length) ∨ (r2 = nI k ∧ row'.length = row.length + 1)) := by
      rcases g with ⟨a, rfl, b⟩ | ⟨ha, k, s, M', a1, a2, a3, a4, a5, a6, ⟨m1, m2, m3⟩, g⟩
      · exact Or.inl ⟨b, zl hL, a⟩
      · refine Or.inr ⟨k, s, a1, a2, ha, a3, a4, a5, ?_⟩
        have hkr : k ∉ row := fun q => ((zK_kind hm a1).2.2.mp ((hm.1.1.2.2 k).mp q).2) a3
        have len : ∀ {ν4 : zm_M} {us'}, zv_foc ν4 θ row stk us' k → row'.length = row.length + 1 := fun hf => by
          rw [zl hf.2.1, zl_er_no hkr, List.length_cons]
        have same : (∀ c d, ¬ (c = 231 ∧ d = 30) → ¬ (255 ≤ c ∧ c ≤ 259) → ¬ zu_in 6 c d → θ c d = M' c d) → row'.length = row.length := fun fr => by
          have e : ∀ c d, (c = 242 ∨ (c = 231 ∧ d = 12)) → θ c d = N c d := fun c d q => (fr c d (by omega) (by omega) (zu_in_not (by omega))).trans (m3 c d (by omega) (by omega))
          exact zl ⟨hL.1, (e _ _ (Or.inr ⟨rfl, rfl⟩)).trans hL.2.1, fun j hj => (e _ _ (Or.inl rfl)).trans (hL.2.2 j hj)⟩
        rcases g with ⟨b1, lo, ν3, b, u', b2, b3, ⟨c1, c2, c3⟩ | ⟨c1, ν4, c2, c3, c4, c5⟩⟩ | ⟨b1, ⟨c1, c2, c3, c4⟩ | ⟨c1, ν4, c2, c3, c4⟩⟩
        · exact Or.inl ⟨c3, same c2⟩
        · exact Or.inr ⟨c5, len c4.1⟩
        · exact Or.inl ⟨c4, same (fun c d _ _ _ => by rw [c3])⟩
        · exact Or.inr ⟨c4, len c3.1⟩
    rcases f with ⟨f1, -, rfl, -, -, f2⟩ | ⟨ha, k, s, ξ, hk, hs, hnt, hmin, hsc, hth, hp, f⟩
    · rcases gr with ⟨g1, -, -⟩ | ⟨k, s, hk, hs, ga, hk0, hmin, gs, -⟩
      · refine zx_op_eq hoa ⟨fun q j hj => (zK_kind hm hj).2.2.mp (q j hj), fun q j hj => (zK_kind hm hj).2.2.mpr (q j hj)⟩ f2 g1
      · have ha := hoa.mpr ga
        exfalso
        rcases f1 with z | z | z
        · exact z ha
        · exact absurd hk0 ((zK_kind hm hk).2.2.mp (z k hk))
        · rw [zK_osc hm ha, gs] at z
          exact nI_ne_m1 (by omega) z
    · have ga := hoa.mp ha
      have hk0 : N 234 k = 0 := (hm.2.2.1.1 k hk).1 hnt
      have hsc' := hsc
      rw [zK_osc hm ha] at hsc'
      rcases gr with ⟨-, -, z⟩ | ⟨k', s', hk', hs', -, hk0', hmin', gs, g⟩
      · exfalso
        rcases z with z | z | z
        · exact z ga
        · exact z k hk hk0
        · rw [hsc'] at z
          exact nI_ne_m1 (by omega) z
      · have ek : k' = k := by
          rcases Nat.lt_trichotomy k' k with z | z | z
          · exact absurd hk0' ((zK_kind hm hk').2.2.mp (hmin k' z))
          · exact z
          · exact absurd hk0 (hmin' k z)
        subst ek
        rcases f with ⟨-, -, -, rfl, -, -, rfl⟩ | ⟨-, rfl, rfl⟩
        · rcases g with ⟨rfl, -⟩ | ⟨-, e⟩
          · rfl
          · omega
        · rcases g with ⟨-, e⟩ | ⟨rfl, -⟩
          · rw [List.length_cons] at e
            omega
          · rfl
  have lo := zW_mopn g0
  have neg : ∀ {A B : Prop} {r : Int32}, zx_op A B r → r < 0 := fun q => by
    rcases q with ⟨-, rfl⟩ | ⟨-, ⟨-, rfl⟩ | ⟨-, rfl⟩⟩ <;> decide
  have P : (zY_up M N ∧ r1 < 0) ∨ ∃ k s ξ, k < 10 ∧ s < 3 ∧ zd_th M k = false ∧ zd_came M ξ k s kd w v o ∧ zd_fox ξ N k ∧ r1 = nI k := by
    rcases f with ⟨-, rfl, -, -, -, q⟩ | ⟨-, k, s, ξ, a1, a2, a3, -, -, -, -, ⟨-, b2, -, -, -, -, rfl⟩ | ⟨b1, -, b3⟩⟩
    · exact Or.inl ⟨zY_up.refl, neg q⟩
    · exact Or.inl ⟨fun c hc => b2 c (zJn_0 (by omega)) (by unfold zdW; omega) (by unfold zdW; omega), by decide⟩
    · rcases b1 with ⟨-, ν3, ν4, R', t', -, -, -, d1, -, d2⟩ | ⟨-, -, -, -, ν4, d1, d2⟩
      · exact Or.inr ⟨k, s, ν4, a1, a2, a3, d1, d2, b3⟩
      · exact Or.inr ⟨k, s, ν4, a1, a2, a3, d1, d2, b3⟩
  have Q : (zY_lo N θ ∧ r2 < 0) ∨ ∃ k ξ us', k < 10 ∧ zv_fox ξ θ row stk us' k ∧ r2 = nI k := by
    rcases g with ⟨-, rfl, q⟩ | ⟨-, k, s, M', a1, a2, -, -, -, -, ⟨-, -, m3⟩, ⟨-, lo, ν3, b, u', -, -, ⟨-, c2, rfl⟩ | ⟨-, ν4, -, -, c4, c5⟩⟩ | ⟨-, ⟨-, -, rfl, rfl⟩ | ⟨-, ν4, -, c3, c4⟩⟩⟩
    · exact Or.inl ⟨zY_lo.refl, neg q⟩
    · exact Or.inl ⟨fun c d hc => (c2 c d (by omega) (by omega) (zu_in_not (by omega))).trans (m3 c d (by omega) (by omega)), by decide⟩
    · exact Or.inr ⟨k, ν4, _, a1, c4, c5⟩
    · exact Or.inl ⟨fun c d hc => m3 c d (by omega) (by omega), by decide⟩
    · exact Or.inr ⟨k, ν4, _, a1, c3, c4⟩
  refine ⟨N, θ, r1, r2, E1, E2, zW_end z lo, ?_⟩
  rcases P with ⟨p1, p2⟩ | ⟨k, s, ξ, hk, hs, hnt, hc, p2, p3⟩
  · rcases Q with ⟨q1, -⟩ | ⟨j, μ1, us', hj, -, q3⟩
    · exact zY_st_k st (zW_opn f0) p1 lo q1
    · rw [← key, q3] at p2
      exact absurd p2 (nI_pos (by omega))
  · rcases Q with ⟨-, q2⟩ | ⟨j, μ1, us', hj, q2, q3⟩
    · rw [key, p3] at q2
      exact absurd q2 (nI_pos (by omega))
    · have e := (nI_eq (by omega) (by omega)).mp (q3.symm.trans (key.trans p3))
      subst e
      obtain ⟨fr, -⟩ := hc
      have e0 : ∀ c, c = 5 ∨ c = 6 → ξ c = M c := fun c hc => fr c (zJn_0 (by omega)) (by unfold zdW; omega) (by unfold zdW; omega) (fun _ => zJn_out hs (Or.inl (by omega)))
      refine zY_foxE z (zr_L_congr (e0 5 (Or.inl rfl)) (e0 6 (Or.inr rfl)) sl) sn (fun x hx => ?_) hj p2 q2 lo
      obtain ⟨hx10, hxf⟩ := sb x hx
      have hne : x ≠ j := fun e => by
        have t : zd_th M x = true := decide_eq_true (of_decide_eq_true hxf).1
        rw [e, hnt] at t
        cases t
      refine ⟨hx10, ?_⟩
      unfold zd_flo
      rw [fr _ (zJn_W hx10).1 (fun e => hne (zdW_inj e)) (by unfold zdW; omega) (fun _ => zJn_out hs (Or.inr (Or.inl ⟨x, hx10, Or.inl rfl⟩)))]
      exact hxf
theorem zY_drag (h : zY M) (w x y : Int32) : zY_c M A_Desk_drag A_Mod_drag [.int w, .int x, .int y] := by
  obtain ⟨⟨row, stkC, stk, ord, Rs, ts, us, h⟩, st⟩ := h
  obtain rfl : stk = stkC := (zY_eq h st).symm
  obtain ⟨sl, sn, sb⟩ := zY_sb h
  obtain ⟨N, r1, row', stk', Rs', ts', E1, hJ, f⟩ := ze_drag_x 48 h.1 w x y
  have f0 : zd_drgd M N row row' Rs Rs' ts ts' w x y := by
    rcases id f with ⟨a, b, c, d, e, -⟩ | ⟨k, o, sd, a, b, ν1, R2, t2, a1, a2, a3, a4, a5, a6, a7, ⟨b1, b2, b3, b4, b5, -⟩ | ⟨b1, b2, n, ν6, c1, c2, c3, c4, c5, c6, c7, c8, c9, d1, d2, -⟩⟩
    · exact Or.inl ⟨a, b, c, d, e⟩
    · exact Or.inr ⟨k, o, sd, a, b, ν1, R2, t2, a1, a2, a3, a4, a5, a6, a7, Or.inl ⟨b1, b2, b3, b4, b5⟩⟩
    · exact Or.inr ⟨k, o, sd, a, b, ν1, R2, t2, a1, a2, a3, a4, a5, a6, a7, Or.inr ⟨b1, b2, n, ν6, c1, c2, c3, c4, c5, c6, c7, c8, c9, d1, d2.1⟩⟩
  have hm := zW_mid h (zW_drgd f0)
  obtain ⟨θ, r2, E2, g⟩ := ze_Mdrag_x 36 (zK_R hm) w x y
  have g0 : zv_drgd N θ row stk us w x y := by
    rcases id g with ⟨a, b, -⟩ | ⟨k, o, sd, a, b, ξ, u2, a1, a2, a3, a4, a5, a6, a7, ⟨b1, b2, -⟩ | ⟨b1, ν6, ua, c1, c2, -⟩⟩
    · exact Or.inl ⟨a, b⟩
    · exact Or.inr ⟨k, o, sd, a, b, ξ, u2, a1, a2, a3, a4, a5, a6, a7, Or.inl ⟨b1, b2⟩⟩
    · exact Or.inr ⟨k, o, sd, a, b, ξ, u2, a1, a2, a3, a4, a5, a6, a7, Or.inr ⟨b1, ν6, ua, c1, c2.1⟩⟩
  obtain ⟨_, _, _, _, z⟩ := zK_drgd hm hJ f0 g0
  have key : r2 = r1 := by
    have arg : ∀ k o sd, zd_darg M w x y k o sd ↔ zv_darg N w x y k o sd := fun k o sd => by
      unfold zd_darg zv_darg
      refine and_congr_right fun a => and_congr_right fun _ => ?_
      rw [(zK_kind hm a.1).1, (zK_kind hm a.2.1).1]
    have ref : zd_drA M w x y ↔ zv_drA N w x y := by
      unfold zd_drA zv_drA
      refine exists_congr fun k => exists_congr fun o => exists_congr fun sd => and_congr_right fun a => and_congr_right fun _ => ?_
      rw [(zK_kind hm a.1).2.2, (zK_kind hm a.2.1).2.2]
    rcases f with ⟨f, -, -, -, -, f1⟩ | ⟨k, o, sd, a, b, ν1, R2, t2, fa, ha, hb, ek, eo, fr, ft, f⟩
    · rcases g with ⟨-, -, g1⟩ | ⟨k, o, sd, a, b, ξ, u2, ga, -⟩
      · exact zx_ref_eq ref f1 g1
      · exact (f ⟨k, o, sd, (arg k o sd).mpr ga⟩).elim
    · rcases g with ⟨z, -⟩ | ⟨k', o', sd', a', b', ξ, u2, ga, ha', hb', ek', eo', gr, gt, g⟩
      · exact (z ⟨k, o, sd, (arg k o sd).mp fa⟩).elim
      · obtain ⟨⟨hk, ho, hsd⟩, ⟨w1, w2, w3⟩, hkt, hot, hko⟩ := id fa
        obtain ⟨⟨hk', ho', hsd'⟩, ⟨w1', w2', w3'⟩, -⟩ := id ga
        have e1 := (nI_eq (by omega) (by omega)).mp (w1'.symm.trans w1)
        have e2 := (nI_eq (by omega) (by omega)).mp (w2'.symm.trans w2)
        have e3 := (nI_eq (by omega) (by omega)).mp (w3'.symm.trans w3)
        subst e1
        subst e2
        subst e3
        have e4 := (nI_eq (by omega) (by omega)).mp (ek'.symm.trans (((zK_kind hm hk).2.1 hkt).trans ek))
        have e5 := (nI_eq (by omega) (by omega)).mp (eo'.symm.trans (((zK_kind hm ho).2.1 hot).trans eo))
        subst e4
        subst e5
        have hbt : ¬ M (zdS b') 3 = 0 := by
          obtain ⟨-, -, w3, -⟩ := hm.1.2.2.1 o' ho (decide_eq_true (of_decide_eq_true hot).1)
          obtain ⟨s, hs, q1, q2⟩ := w3 (by rw [(of_decide_eq_true hot).2]; decide)
          rw [← (nI_eq (by omega) (by omega)).mp (q1.symm.trans eo)]
          exact q2
        have hz1 := zK_trl hm hk ho hb hkt hot hko ek ha eo ft gt
        obtain ⟨t1, t2', t3⟩ := zd_trl_R hm.1 hb ft
        have hfit := zK_trf hm hk hkt hb hbt t1 t2' t3 fr gr hz1
        have hgrm := zK_grm hm hkt hb hbt
        rcases f with ⟨f, -, -, -, -, rfl⟩ | ⟨f, -, n, ξ6, -, -, -, -, -, -, -, -, -, -, -, rfl⟩
        · rcases g with ⟨-, -, rfl⟩ | ⟨⟨g1, g2⟩, -⟩
          · rfl
          · rw [← hfit] at g1
            rcases f with f | ⟨f, f'⟩
            · rw [f] at g1
              cases g1
            · rw [hgrm.mpr (g2.resolve_left f)] at f'
              cases f'
        · rcases g with ⟨g, -⟩ | ⟨-, μ6, ua, -, -, rfl⟩
          · rw [← hfit] at g
            rcases g with g | ⟨g, g'⟩
            · rw [f.1] at g
              cases g
            · exact (g' (hgrm.mp (f.2.resolve_left g))).elim
          · rfl
  have lo := zW_mdrgd g0
  have neg : ∀ {A : Prop} {r : Int32}, zx_ref A r → r < 0 := fun q => by
    rcases q with ⟨-, rfl⟩ | ⟨-, rfl⟩ <;> decide
  have P : (zY_up M N ∧ r1 < 0) ∨ ∃ k a b ξ, k < 10 ∧ a < 3 ∧ b < 3 ∧ w = nI k ∧ (∀ c d, ¬ zJ_irr c → zt_out (zdT a) c → zt_out (zdT b) c → (∀ q, q < 3 → c = zdK q → d ≠ 3) → (∀ j, j < 10 → c = zdW j → d ≠ 5) → ξ c d = M c d) ∧ zd_fox ξ N k ∧ r1 = 0 := by
    rcases f with ⟨-, rfl, -, -, -, q⟩ | ⟨k, o, sd, a, b, ν1, R2, t2, a1, a2, a3, -, -, -, -, ⟨-, b2, -, -, -, rfl⟩ | ⟨-, -, n, ν6, -, -, -, -, c5, -, -, -, -, -, d2, d3⟩⟩
    · exact Or.inl ⟨zY_up.refl, neg q⟩
    · exact Or.inl ⟨zY_u_eqv b2, by decide⟩
    · exact Or.inr ⟨k, a, b, ν6, a1.1.1, a2, a3, a1.2.1.1, c5, d2, d3⟩
  have Q : (zY_lo N θ ∧ r2 < 0) ∨ ∃ k ξ us', k < 10 ∧ w = nI k ∧ zv_fox ξ θ row stk us' k ∧ r2 = 0 := by
    rcases g with ⟨-, rfl, q⟩ | ⟨k, o, sd, a, b, ξ, u2, a1, -, -, -, -, -, -, ⟨-, b2, rfl⟩ | ⟨-, ν6, ua, -, c2, c3⟩⟩
    · exact Or.inl ⟨zY_lo.refl, neg q⟩
    · exact Or.inl ⟨fun c d hc => b2 c d (by omega) (zu_in_not (by omega)), by decide⟩
    · exact Or.inr ⟨k, ν6, _, a1.1.1, a1.2.1.1, c2, c3⟩
  refine ⟨N, θ, r1, r2, E1, E2, zW_end z lo, ?_⟩
  rcases P with ⟨p1, p2⟩ | ⟨k, a, b, ξ, hk, ha, hb, ew, fr, p2, p3⟩
  · rcases Q with ⟨q1, -⟩ | ⟨j, μ1, us', hj, -, -, q3⟩
    · exact zY_st_k st (zW_drgd f0) p1 lo q1
    · rw [← key, q3] at p2
      exact absurd p2 (by decide)
  · rcases Q with ⟨-, q2⟩ | ⟨j, μ1, us', hj, ew', q2, q3⟩
    · rw [key, p3] at q2
      exact absurd q2 (by decide)
    · have e := (nI_eq (by omega) (by omega)).mp (ew'.symm.trans ew)
      subst e
      have e0 : ∀ c, c = 5 ∨ c = 6 → ξ c = M c := fun c hc => funext fun d => fr c d (zJn_0 (by omega)) (by unfold zt_out zdT; omega) (by unfold zt_out zdT; omega) (fun q hq e => by unfold zdK at e; omega) (fun j hj e => by unfold zdW at e; omega)
      refine zY_foxE z (zr_L_congr (e0 5 (Or.inl rfl)) (e0 6 (Or.inr rfl)) sl) sn (fun x hx => ?_) hj p2 q2 lo
      obtain ⟨hx10, hxf⟩ := sb x hx
      have ew : ∀ d, d ≠ 5 → ξ (zdW x) d = M (zdW x) d := fun d hd => fr _ d (zJn_W hx10).1 (by unfold zt_out zdT zdW; omega) (by unfold zt_out zdT zdW; omega) (fun q hq e => by unfold zdW zdK at e; omega) (fun _ _ _ => hd)
      refine ⟨hx10, ?_⟩
      unfold zd_flo at *
      rw [ew 2 (by decide), ew 3 (by decide)]
      exact hxf
theorem zr_in_ix {l : List Nat} {k : Nat} (h : k ∈ l) : zr_in l k = zr_ix l k 0 := by
  unfold zr_in
  rw [if_pos h, zr_ix_in h, Nat.zero_add]
theorem zY_about_e (h : zY M) (w x : Int32) : zY_e M A_Desk_about A_Mod_about [.int w, .int x] := by
  have hY := h
  obtain ⟨⟨row, stkC, stk, ord, Rs, ts, us, h⟩, st⟩ := h
  obtain rfl : stk = stkC := (zY_eq h st).symm
  obtain ⟨sl, sn, sb⟩ := zY_sb h
  obtain ⟨r1, E1, f⟩ := ze_about_v 60 h.1 w x
  obtain ⟨r2, E2, g⟩ := ze_Mabout_v 59 (zK_R h) w x
  have key : r2 = r1 := by
    rcases f with ⟨f1, rfl⟩ | ⟨k, j, hk, hj, rfl, rfl, ht, f⟩
    · rcases g with ⟨-, rfl⟩ | ⟨k, j, hk, hj, rfl, rfl, ht, -⟩
      · rfl
      · exact absurd ⟨k, j, hk, hj, rfl, rfl, (zK_kind h hk).2.2.mpr ht⟩ f1
    · have ht' := (zK_kind h hk).2.2.mp ht
      rcases g with ⟨g1, -⟩ | ⟨k', j', hk', hj', e1, e2, -, g⟩
      · exact absurd ⟨k, j, hk, hj, rfl, rfl, ht'⟩ g1
      · have e1 := (nI_eq (by omega) (by omega)).mp e1
        have e2 := (nI_eq (by omega) (by omega)).mp e2
        subst e1 e2
        obtain ⟨m1, ⟨m2, m3⟩, m4, -⟩ := (h.2.2.1.1 k hk).2 ht
        obtain ⟨w1, -, -, w4, w5⟩ := h.1.2.2.1 k hk ht
        have fl := zK_flo3 h hk
        have sh : (∃ s, s < 3 ∧ zd_shn M s k) ↔ ∃ s, s < 3 ∧ zv_shn M us s k := exists_congr fun s => and_congr_right fun hs => zK_shn h hk hs
        rcases f with ⟨rfl, f⟩ | ⟨rfl, f⟩ | ⟨rfl, f⟩ | ⟨rfl, f⟩ | ⟨rfl, f⟩ | ⟨rfl, f⟩ | ⟨rfl, f⟩
        · rcases g with ⟨-, g⟩ | ⟨e, -⟩ | ⟨e, -⟩ | ⟨e, -⟩ | ⟨e, -⟩ | ⟨e, -⟩ | ⟨e, -⟩
          · rw [g, f, m1]
          · exact absurd e (by decide)
          · exact absurd e (by decide)
          · exact absurd e (by decide)
          · exact absurd e (by decide)
          · exact absurd e (by decide)
          · exact absurd e (by decide)
        · rcases g with ⟨e, -⟩ | ⟨-, g⟩ | ⟨e, -⟩ | ⟨e, -⟩ | ⟨e, -⟩ | ⟨e, -⟩ | ⟨e, -⟩
          · exact absurd e (by decide)
          · rw [g, f, m2]
          · exact absurd e (by decide)
          · exact absurd e (by decide)
          · exact absurd e (by decide)
          · exact absurd e (by decide)
          · exact absurd e (by decide)
        · rcases g with ⟨e, -⟩ | ⟨e, -⟩ | ⟨-, g⟩ | ⟨e, -⟩ | ⟨e, -⟩ | ⟨e, -⟩ | ⟨e, -⟩
          · exact absurd e (by decide)
          · exact absurd e (by decide)
          · rw [g, f, m3]
          · exact absurd e (by decide)
          · exact absurd e (by decide)
          · exact absurd e (by decide)
          · exact absurd e (by decide)
        · have g : (M 234 k = 3 ∧ r2 = M 237 k) ∨ (¬ M 234 k = 3 ∧ r2 = -1000000005) := by
            rcases g with ⟨e, -⟩ | ⟨e, -⟩ | ⟨e, -⟩ | ⟨-, g⟩ | ⟨e, -⟩ | ⟨e, -⟩ | ⟨e, -⟩
            · exact absurd e (by decide)
            · exact absurd e (by decide)
            · exact absurd e (by decide)
            · exact g
            · exact absurd e (by decide)
            · exact absurd e (by decide)
            · exact absurd e (by decide)
          rw [m1] at g
          by_cases c : M (zdW k) 3 = 3
          · obtain ⟨o, ho, -, eo, -⟩ := w4 c
            have pos : (0 : Int32) ≤ M (zdW k) 4 := by rw [eo]; exact Int32.not_lt.mp (nI_pos (by omega))
            rcases g with ⟨-, g⟩ | ⟨z, -⟩
            · rcases f with ⟨-, f⟩ | ⟨z, -⟩
              · rw [g, f, m4 c]
              · exact absurd pos z
            · exact absurd c z
          · have eo := w5 c
            rcases g with ⟨z, -⟩ | ⟨-, g⟩
            · exact absurd z c
            · rcases f with ⟨z, -⟩ | ⟨-, f⟩
              · rw [eo] at z
                exact absurd z (by decide)
              · rw [g, f]
        · have g : (2 ≤ M 234 k ∧ r2 = 1) ∨ (¬ 2 ≤ M 234 k ∧ ((r2 = 1 ∧ ∃ s, s < 3 ∧ zv_shn M us s k) ∨ (r2 = 0 ∧ ∀ s, s < 3 → ¬ zv_shn M us s k))) := by
            rcases g with ⟨e, -⟩ | ⟨e, -⟩ | ⟨e, -⟩ | ⟨e, -⟩ | ⟨-, g⟩ | ⟨e, -⟩ | ⟨e, -⟩
            · exact absurd e (by decide)
            · exact absurd e (by decide)
            · exact absurd e (by decide)
            · exact absurd e (by decide)
            · exact g
            · exact absurd e (by decide)
            · exact absurd e (by decide)
          rcases f with ⟨f1, f⟩ | ⟨f1, f⟩
          · rcases g with ⟨-, g⟩ | ⟨z, -⟩
            · rw [g, f]
            · exact absurd (fl.mp f1) z
          · rcases g with ⟨z, -⟩ | ⟨-, g⟩
            · exact absurd (fl.mpr z) f1
            · rcases f with ⟨f, f2⟩ | ⟨f, f2⟩
              · rcases g with ⟨g, -⟩ | ⟨-, g2⟩
                · rw [g, f]
                · obtain ⟨s, hs, z⟩ := sh.mp f2
                  exact absurd z (g2 s hs)
              · rcases g with ⟨-, g2⟩ | ⟨g, -⟩
                · obtain ⟨s, hs, z⟩ := sh.mpr g2
                  exact absurd z (f2 s hs)
                · rw [g, f]
        · have g : r2 = zr_in row k := by
            rcases g with ⟨e, -⟩ | ⟨e, -⟩ | ⟨e, -⟩ | ⟨e, -⟩ | ⟨e, -⟩ | ⟨-, g⟩ | ⟨e, -⟩
            · exact absurd e (by decide)
            · exact absurd e (by decide)
            · exact absurd e (by decide)
            · exact absurd e (by decide)
            · exact absurd e (by decide)
            · exact g
            · exact absurd e (by decide)
          rw [g, f, zr_in_ix ((h.1.1.2.2 k).mpr ⟨hk, ht⟩)]
        · have g : r2 = zr_in stk k := by
            rcases g with ⟨e, -⟩ | ⟨e, -⟩ | ⟨e, -⟩ | ⟨e, -⟩ | ⟨e, -⟩ | ⟨e, -⟩ | ⟨-, g⟩
            · exact absurd e (by decide)
            · exact absurd e (by decide)
            · exact absurd e (by decide)
            · exact absurd e (by decide)
            · exact absurd e (by decide)
            · exact absurd e (by decide)
            · exact g
          have hs := h.2.1.2.2.2 k
          rcases f with ⟨f1, f⟩ | ⟨f1, f⟩
          · rw [g, f, zr_in_ix (hs.mpr ⟨hk, f1⟩)]
          · rw [g, f]
            exact if_neg (fun z => f1 (hs.mp z).2)
  subst key
  exact ⟨M, M, r2, E1, E2, hY⟩
theorem zY_about (h : zY M) (w x : Int32) : zY_c M A_Desk_about A_Mod_about [.int w, .int x] := by
  obtain ⟨N, θ, r, E1, E2, h⟩ := zY_about_e h w x
  exact ⟨N, θ, r, r, E1, E2, h⟩
end ZYS
