/-! the law: one call on both sides -/
/-- class and reference, side by side in one memory -/
def zW (M : zm_M) : Prop := ∃ row stkC stk ord Rs ts us, zK M M row stkC stk ord Rs ts us
/-- the call a on the class, then the call b on the reference, both with the values vs -/
def zW_c (M : zm_M) (a b : Nat) (vs : List Value) : Prop := ∃ N θ r1 r2, ze_E 64 a (.ref 1 :: vs) (zm_mk M) (some (.int r1)) (zm_mk N) ∧ ze_E 64 b (.ref 232 :: vs) (zm_mk N) (some (.int r2)) (zm_mk θ) ∧ zW θ
section ZWG
variable {M N θ : zm_M} {row row' stkC stkC' stk ord : List Nat} {Rs Rs' : Nat → List Nat} {ts ts' us us' : Nat → zy_F}
theorem zW_end (h : zK N θ row stkC stk ord Rs ts us) (lo : zW_lo N θ) : zW θ := ⟨_, _, _, _, _, _, _, h.congr lo (fun _ _ => rfl)⟩
theorem zW_mid (h : zK M M row stkC stk ord Rs ts us) (up : zW_up M N) : zK M N row stkC stk ord Rs ts us := h.congr (fun _ _ => rfl) up
theorem zW_ro (h : zK M M row stkC stk ord Rs ts us) (e : zJ_eqv M N) (f : zM_fr N θ) : zW θ := zW_end ((zW_mid h (zW_eqv e)).scr e f) (zW_fr f)
theorem zW_area (h : zW M) (w x : Int32) : zW_c M A_Desk_area A_Mod_area [.int w, .int x] := by
  obtain ⟨row, stkC, stk, ord, Rs, ts, us, h⟩ := h
  obtain ⟨N, r1, E1, e⟩ := ze_area 57 h.1 w x
  obtain ⟨θ, r2, E2, f⟩ := ze_Marea 35 (zK_R (zW_mid h (zW_eqv e))) w x
  exact ⟨N, θ, r1, r2, E1, E2, zW_ro h e f⟩
theorem zW_about (h : zW M) (w x : Int32) : zW_c M A_Desk_about A_Mod_about [.int w, .int x] := by
  obtain ⟨row, stkC, stk, ord, Rs, ts, us, h⟩ := h
  obtain ⟨r1, E1⟩ := ze_about 60 h.1 w x
  obtain ⟨r2, E2⟩ := ze_Mabout 59 (zK_R h) w x
  exact ⟨M, M, r1, r2, E1, E2, _, _, _, _, _, _, _, h⟩
theorem zW_count (h : zW M) (x : Int32) : zW_c M A_Desk_count A_Mod_count [.int x] := by
  obtain ⟨row, stkC, stk, ord, Rs, ts, us, h⟩ := h
  obtain ⟨r1, E1⟩ := ze_count 61 h.1 x
  obtain ⟨r2, E2⟩ := ze_Mcount (μ := M) 63 x
  exact ⟨M, M, r1, r2, E1, E2, _, _, _, _, _, _, _, h⟩
theorem zW_told (h : zW M) (w x : Int32) : zW_c M A_Desk_told A_Mod_told [.int w, .int x] := by
  obtain ⟨row, stkC, stk, ord, Rs, ts, us, h⟩ := h
  obtain ⟨r1, E1⟩ := ze_told 60 h.1 w x
  obtain ⟨θ, r2, E2, f⟩ := ze_Mtold 35 (zK_R h) w x
  exact ⟨M, θ, r1, r2, E1, E2, zW_ro h zJ_eqv.refl f⟩
theorem zW_tab (h : zW M) (w x y : Int32) : zW_c M A_Desk_tab A_Mod_tab [.int w, .int x, .int y] := by
  obtain ⟨row, stkC, stk, ord, Rs, ts, us, h⟩ := h
  obtain ⟨r1, E1⟩ := ze_tab 61 h.1 w x y
  obtain ⟨θ, r2, E2, f⟩ := ze_Mtab 35 (zK_R h) w x y
  exact ⟨M, θ, r1, r2, E1, E2, zW_ro h zJ_eqv.refl f⟩
theorem zW_at (h : zW M) (w x y : Int32) : zW_c M A_Desk_at A_Mod_at [.int w, .int x, .int y] := by
  obtain ⟨row, stkC, stk, ord, Rs, ts, us, h⟩ := h
  obtain ⟨N, r1, E1, e⟩ := ze_at 57 h.1 w x y
  obtain ⟨θ, r2, E2, f⟩ := ze_Mat 35 (zK_R (zW_mid h (zW_eqv e))) w x y
  exact ⟨N, θ, r1, r2, E1, E2, zW_ro h e f⟩
theorem zW_neighbour (h : zW M) (w x : Int32) : zW_c M A_Desk_neighbour A_Mod_neighbour [.int w, .int x] := by
  obtain ⟨row, stkC, stk, ord, Rs, ts, us, h⟩ := h
  obtain ⟨N, r1, E1, e⟩ := ze_neighbour 57 h.1 w x
  obtain ⟨θ, r2, E2, f⟩ := ze_Mneighbour 35 (zK_R (zW_mid h (zW_eqv e))) w x
  exact ⟨N, θ, r1, r2, E1, E2, zW_ro h e f⟩
theorem zW_steps (h : zW M) (w x : Int32) : zW_c M A_Desk_steps A_Mod_steps [.int w, .int x] := by
  obtain ⟨row, stkC, stk, ord, Rs, ts, us, h⟩ := h
  obtain ⟨N, r1, E1, e⟩ := ze_steps 57 h.1 w x
  obtain ⟨θ, r2, E2, f⟩ := ze_Msteps 35 (zK_R (zW_mid h (zW_eqv e))) w x
  exact ⟨N, θ, r1, r2, E1, E2, zW_ro h e f⟩
theorem zW_toward (h : zW M) (x : Int32) : zW_c M A_Desk_toward A_Mod_toward [.int x] := by
  obtain ⟨row, stkC, stk, ord, Rs, ts, us, h⟩ := h
  obtain ⟨N, r1, row', stk', E1, hJ, f⟩ := ze_toward 48 h.1 x
  have up : zW_up M N := by
    rcases id f with ⟨-, rfl, -⟩ | ⟨sd, s, ξ, -, -, -, -, -, h1, -, ⟨-, rfl, -⟩ | ⟨i, -, -, -, -, h2⟩⟩
    · exact zW_up.refl
    · exact zW_eqv h1
    · exact (zW_eqv h1).trans (zW_foc h2)
  have hm := zW_mid h up
  obtain ⟨θ, r2, E2, g⟩ := ze_Mtoward 35 (zK_R hm) x
  obtain ⟨_, _, z⟩ := zK_tow hm hJ f g
  exact ⟨N, θ, r1, r2, E1, E2, zW_end z (zW_mtwd g)⟩
theorem zW_move (h : zW M) (w x y : Int32) : zW_c M A_Desk_move A_Mod_move [.int w, .int x, .int y] := by
  obtain ⟨row, stkC, stk, ord, Rs, ts, us, h⟩ := h
  obtain ⟨N, r1, E1, -, f⟩ := ze_move 59 h.1 w x y
  have hm := zW_mid h (zW_mov f)
  obtain ⟨θ, r2, E2, g⟩ := ze_Mmove 60 (zK_R hm) w x y
  exact ⟨N, θ, r1, r2, E1, E2, zW_end (zK_mov hm f g) (zW_mmov g)⟩
theorem zW_share (h : zW M) (w x v : Int32) : zW_c M A_Desk_share A_Mod_share [.int w, .int x, .int v] := by
  obtain ⟨row, stkC, stk, ord, Rs, ts, us, h⟩ := h
  obtain ⟨N, r1, E1, hJ, f⟩ := ze_share 61 h.1 w x v
  have hm := zW_mid h (zW_shr f)
  obtain ⟨θ, r2, E2, g⟩ := ze_Mshare 60 (zK_R hm) w x v
  exact ⟨N, θ, r1, r2, E1, E2, zW_end (zK_shr hm hJ f g) (zW_mshr g)⟩
theorem zW_open (h : zW M) (kd w v o : Int32) : zW_c M A_Desk_open A_Mod_open [.int kd, .int w, .int v, .int o] := by
  obtain ⟨row, stkC, stk, ord, Rs, ts, us, h⟩ := h
  obtain ⟨N, r1, row', stk', Rs', ts', E1, hJ, f⟩ := ze_open 48 h.1 kd w v o
  have hm := zW_mid h (zW_opn f)
  obtain ⟨θ, r2, E2, g⟩ := ze_Mopen 35 (zK_R hm) hm.2.2.2.2.1 kd w v o
  obtain ⟨_, _, _, _, z⟩ := zK_opn hm hJ f g
  exact ⟨N, θ, r1, r2, E1, E2, zW_end z (zW_mopn g)⟩
theorem zW_drag (h : zW M) (w x y : Int32) : zW_c M A_Desk_drag A_Mod_drag [.int w, .int x, .int y] := by
  obtain ⟨row, stkC, stk, ord, Rs, ts, us, h⟩ := h
  obtain ⟨N, r1, row', stk', Rs', ts', E1, hJ, f⟩ := ze_drag 48 h.1 w x y
  have hm := zW_mid h (zW_drgd f)
  obtain ⟨θ, r2, E2, g⟩ := ze_Mdrag 36 (zK_R hm) w x y
  obtain ⟨_, _, _, _, z⟩ := zK_drgd hm hJ f g
  exact ⟨N, θ, r1, r2, E1, E2, zW_end z (zW_mdrgd g)⟩
theorem zW_gone (h : zW M) (w : Int32) : zW_c M A_Desk_gone A_Mod_gone [.int w] := by
  obtain ⟨row, stkC, stk, ord, Rs, ts, us, h⟩ := h
  obtain ⟨N, r1, Rs', ts', E1, hJ, f⟩ := ze_gone 57 h.1 w
  have hm := zW_mid h (zW_gon f)
  obtain ⟨θ, r2, E2, g⟩ := ze_Mgone 36 (zK_R hm) w
  obtain ⟨_, z⟩ := zK_gon hm hJ f g
  exact ⟨N, θ, r1, r2, E1, E2, zW_end z (zW_mgon g)⟩
theorem zW_screen (h : zW M) (w x y : Int32) : zW_c M A_Desk_screen A_Mod_screen [.int w, .int x, .int y] := by
  obtain ⟨row, stkC, stk, ord, Rs, ts, us, h⟩ := h
  by_cases c : ∃ s, zd_sarg w x y s
  · obtain ⟨s, ha⟩ := c
    by_cases c2 : M (zdS s) 3 = 0
    · obtain ⟨N, r1, Rs', ts', E1, hJ, f⟩ := ze_screen_3 56 h.1 ha c2
      have hm := zW_mid h (zW_scn ha.1 f)
      obtain ⟨θ, r2, E2, g⟩ := ze_Mscreen 36 (zK_R hm) (zK_kep hm) w x y
      obtain ⟨_, z⟩ := zK_scn2 hm ha c2 hJ f g
      exact ⟨N, θ, r1, r2, E1, E2, zW_end z (zW_mscr g)⟩
    · obtain ⟨N, r1, E1, hJ, f⟩ := ze_screen_1 57 h.1 ha c2
      have hm := zW_mid h (zW_rsz ha.1 f)
      obtain ⟨θ, r2, E2, g⟩ := ze_Mscreen 36 (zK_R hm) (zK_kep hm) w x y
      exact ⟨N, θ, r1, r2, E1, E2, zW_end (zK_rsz hm ha c2 hJ f g) (zW_mscr g)⟩
  · have E1 := ze_screen_no (μ := M) 62 c
    obtain ⟨θ, r2, E2, g⟩ := ze_Mscreen 36 (zK_R h) (zK_kep h) w x y
    exact ⟨M, θ, _, r2, E1, E2, zW_end (zK_sno h c g) (zW_mscr g)⟩
theorem zW_win (h : zK M M row stkC stk ord Rs ts us) (w : Int32) : (∃ k, k < 10 ∧ w = nI k ∧ zd_th M k = true ∧ ¬ M 234 k = 0) ∨ ((∀ D, ze_E (D + 1) A_Desk_isWindow [.ref 1, .int w] (zm_mk M) (some (.int 0)) (zm_mk M)) ∧ ∀ k, k < 10 → w = nI k → M 234 k = 0) := by
  rcases zd_rng w 10 (by decide) with ⟨k, hk, rfl⟩ | c
  · cases e : zd_th M k with
    | true => exact Or.inl ⟨k, hk, rfl, e, (zK_kind h hk).2.2.mp e⟩
    | false =>
      refine Or.inr ⟨fun D => ?_, fun k' hk' e' => ?_⟩
      · have := ze_thW (μ := M) D hk
        rw [e] at this
        exact this
      · have := (nI_eq (by omega) (by omega)).mp e'
        subst this
        exact (h.2.2.1.1 k hk).1 e
  · refine Or.inr ⟨fun D => ze_isWindow_out D c, fun k hk e => ?_⟩
    exfalso
    rw [e] at c
    rcases c with c | c
    · exact nI_pos (by omega) c
    · exact nI_ge (b := 10) hk (by decide) c
theorem zW_focus (h : zW M) (w : Int32) : zW_c M A_Desk_focus A_Mod_focus [.int w] := by
  obtain ⟨row, stkC, stk, ord, Rs, ts, us, h⟩ := h
  rcases zW_win h w with ⟨k, hk, rfl, ht, hk0⟩ | ⟨E, hno⟩
  · obtain ⟨N, stk', r1, E1, hJ, f⟩ := ze_focus 48 h.1 hk ht
    have hm := zW_mid h (zW_foc f)
    obtain ⟨θ, r2, E2, g⟩ := ze_Mfocus 51 (zK_R hm) (nI k)
    rcases g with ⟨g, -⟩ | ⟨k', hk', e, -, g⟩
    · exact absurd (g k hk rfl) ((zK_kind hm hk).2.2.mp ht)
    · have := (nI_eq (by omega) (by omega)).mp e
      subst this
      obtain ⟨_, z⟩ := zK_foc hm hk ht hJ f g
      exact ⟨N, θ, r1, r2, E1, E2, zW_end z (zW_mfoc g)⟩
  · obtain ⟨θ, r2, E2, g⟩ := ze_Mfocus 51 (zK_R h) w
    rcases g with ⟨-, rfl⟩ | ⟨k', hk', e, g, -⟩
    · exact ⟨θ, θ, _, r2, ze_focus_no 62 (E 62), E2, _, _, _, _, _, _, _, h⟩
    · exact absurd (hno k' hk' e) g
theorem zW_back (h : zW M) : zW_c M A_Desk_back A_Mod_back [] := by
  obtain ⟨row, stkC, stk, ord, Rs, ts, us, h⟩ := h
  by_cases hl : row.length < 2
  · obtain ⟨θ, r2, E2, g⟩ := ze_Mback 51 (zK_R h)
    rcases g with ⟨-, rfl⟩ | ⟨g, -⟩
    · exact ⟨θ, θ, _, r2, ze_back_no 62 h.1 hl, E2, _, _, _, _, _, _, _, h⟩
    · exact absurd hl g
  · obtain ⟨N, stk', r1, E1, hJ, f⟩ := ze_back 48 h.1 hl
    have hm := zW_mid h (zW_foc f)
    obtain ⟨θ, r2, E2, g⟩ := ze_Mback 51 (zK_R hm)
    rcases g with ⟨g, -⟩ | ⟨-, g⟩
    · exact absurd g hl
    · obtain ⟨hk, ht⟩ := (h.1.1.2.2 (row.getD 1 0)).mp (zl_mem (by omega))
      obtain ⟨_, z⟩ := zK_foc hm hk ht hJ f g
      exact ⟨N, θ, r1, r2, E1, E2, zW_end z (zW_mfoc g)⟩
theorem zW_close (h : zW M) (w : Int32) : zW_c M A_Desk_close A_Mod_close [.int w] := by
  obtain ⟨row, stkC, stk, ord, Rs, ts, us, h⟩ := h
  rcases zW_win h w with ⟨k, hk, rfl, ht, hk0⟩ | ⟨E, hno⟩
  · obtain ⟨N, r1, s, n, hs, hn, E1, hJ, f⟩ := ze_close 58 h.1 hk ht
    have hm := zW_mid h (zW_cls hs f)
    obtain ⟨θ, r2, E2, g⟩ := ze_Mclose 51 (zK_R hm) (nI k)
    rcases g with ⟨g, -⟩ | ⟨k', hk', e, -, g⟩
    · exact absurd (g k hk rfl) ((zK_kind hm hk).2.2.mp ht)
    · have := (nI_eq (by omega) (by omega)).mp e
      subst this
      obtain ⟨_, _, _, z⟩ := zK_cls hm hk hs hn hJ f g
      obtain ⟨m, -, -, -, -, fr⟩ := zv_cls_all hm hk hs (fun c => (hn c).1) g
      exact ⟨N, θ, r1, r2, E1, E2, zW_end z (fun c hc => funext fun d => fr c d (by omega) (by omega) (by omega) (by omega) (by omega) (fun _ => zu_in_not (by omega)))⟩
  · obtain ⟨θ, r2, E2, g⟩ := ze_Mclose 51 (zK_R h) w
    rcases g with ⟨-, rfl⟩ | ⟨k', hk', e, g, -⟩
    · exact ⟨θ, θ, _, r2, ze_close_no 62 (E 62), E2, _, _, _, _, _, _, _, h⟩
    · exact absurd (hno k' hk' e) g
/-- isOf: the same answer -/
theorem zW_isOf (h : zW M) (w x : Int32) : ∃ r, ze_E 64 A_Desk_isOf [.ref 1, .int w, .int x] (zm_mk M) (some (.int r)) (zm_mk M) ∧ ze_E 64 A_Mod_isOf [.ref 232, .int w, .int x] (zm_mk M) (some (.int r)) (zm_mk M) := by
  obtain ⟨row, stkC, stk, ord, Rs, ts, us, h⟩ := h
  rcases zd_rng w 10 (by decide) with ⟨k, hk, rfl⟩ | c
  · have E1 := ze_isOf_in (μ := M) 62 hk x
    have E2 := ze_MisOf 61 (zK_R h) hk x
    have key : (if ¬ M 234 k = 0 ∧ (0 ≤ x ∧ x ≤ 4) then (if M 234 k = x ∨ x = 0 ∨ (x = 2 ∧ ¬ M 234 k = 1) then (1 : Int32) else 0) else -1000000001) = (if zd_th M k = true ∧ (0 ≤ x ∧ x ≤ 4) then (if M (zdW k) 3 = x ∨ x = 0 ∨ (x = 2 ∧ ¬ M (zdW k) 3 = 1) then 1 else 0) else -1000000001) := by
      have q := (zK_kind h hk).2.2
      cases e : zd_th M k with
      | false => rw [if_neg (fun z => (by rw [e] at q; exact Bool.false_ne_true (q.mpr z.1) : False)), if_neg (fun z => Bool.false_ne_true z.1)]
      | true =>
        rw [((h.2.2.1.1 k hk).2 e).1]
        have q0 := q.mp e
        rw [((h.2.2.1.1 k hk).2 e).1] at q0
        by_cases c : 0 ≤ x ∧ x ≤ 4
        · have q1 : ¬ M (zdW k) 3 = 0 ∧ (0 ≤ x ∧ x ≤ 4) := ⟨q0, c⟩
          have q2 : true = true ∧ (0 ≤ x ∧ x ≤ 4) := ⟨rfl, c⟩
          rw [if_pos q1, if_pos q2]
        · have q1 : ¬ (¬ M (zdW k) 3 = 0 ∧ (0 ≤ x ∧ x ≤ 4)) := fun z => c z.2
          have q2 : ¬ (true = true ∧ (0 ≤ x ∧ x ≤ 4)) := fun z => c z.2
          rw [if_neg q1, if_neg q2]
    rw [key] at E2
    exact ⟨_, E1, E2⟩
  · exact ⟨_, ze_isOf_out 62 c x, ze_MisOf_out 61 c x⟩
end ZWG
