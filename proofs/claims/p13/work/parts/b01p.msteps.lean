/-! steps: the reference's road -/
/-- x, n steps off, is told when the windows d steps off have been asked: all ahead of k, and of k the sides ahead of sd -/
def zb_R (G : Nat → Nat → Nat → Prop) (a d k sd n x : Nat) : Prop := zb_d G a n x ∧ (n ≤ d ∨ (n = d + 1 ∧ ∃ k' t, t < 4 ∧ zb_d G a d k' ∧ G k' t x ∧ (k' < k ∨ (k' = k ∧ t < sd))))
def zb_F (G : Nat → Nat → Nat → Prop) (a d k sd : Nat) (ξ : zm_M) : Prop := ∀ x, x < 10 → (∃ n, zb_R G a d k sd n x ∧ ξ 261 x = nI n) ∨ ((∀ n, ¬ zb_R G a d k sd n x) ∧ ξ 261 x = -1)
section ZBG
variable {G : Nat → Nat → Nat → Prop} {a d k sd : Nat} {ξ ξ' : zm_M}
theorem zb_R_le {n x : Nat} (h : zb_R G a d k sd n x) : n ≤ d + 1 := by
  rcases h.2 with h | ⟨h, -⟩ <;> omega
theorem zb_F_cells (h : zb_F G a d k sd ξ) (e : ∀ j, ξ' 261 j = ξ 261 j) : zb_F G a d k sd ξ' := fun x hx => by
  rw [e]
  exact h x hx
theorem zb_F_iff {d' k' sd' : Nat} (h : zb_F G a d k sd ξ) (e : ∀ n x, x < 10 → (zb_R G a d' k' sd' n x ↔ zb_R G a d k sd n x)) : zb_F G a d' k' sd' ξ := fun x hx => by
  rcases h x hx with ⟨n, h1, h2⟩ | ⟨h1, h2⟩
  · exact Or.inl ⟨n, (e n x hx).mpr h1, h2⟩
  · exact Or.inr ⟨fun n q => h1 n ((e n x hx).mp q), h2⟩
/-- is k asked in the round d? -/
theorem zb_F_at (h : zb_F G a d k sd ξ) (hd : d < 10) (hk : k < 10) : ξ 261 k = nI d ↔ zb_d G a d k := by
  constructor
  · intro e
    rcases h k hk with ⟨n, h1, h2⟩ | ⟨h1, h2⟩
    · have := zb_R_le h1
      have e2 : n = d := (nI_eq (by omega) (by omega)).mp (h2.symm.trans e)
      rw [← e2]
      exact h1.1
    · rw [h2] at e
      exact absurd (by rw [← e]; decide) (nI_pos (n := d) (by omega))
  · intro hd'
    rcases h k hk with ⟨n, h1, h2⟩ | ⟨h1, -⟩
    · rw [h2, zb_d_uq h1.1 hd']
    · exact absurd ⟨hd', Or.inl (Nat.le_refl d)⟩ (h1 d)
theorem zb_F_off (h : zb_F G a d k sd ξ) (hn : ¬ zb_d G a d k) : zb_F G a d (k + 1) 0 ξ := zb_F_iff h (fun n x _ => and_congr_right fun _ => or_congr Iff.rfl (and_congr_right fun _ => exists_congr fun k' => exists_congr fun t => and_congr_right fun _ => by
  constructor
  · rintro ⟨h1, h2, h3⟩
    refine ⟨h1, h2, Or.inl ?_⟩
    rcases h3 with h3 | ⟨-, h3⟩
    · exact Nat.lt_of_le_of_ne (by omega) (fun e => hn (by rw [← e]; exact h1))
    · omega
  · rintro ⟨h1, h2, h3⟩
    refine ⟨h1, h2, Or.inl ?_⟩
    rcases h3 with h3 | ⟨h3, -⟩
    · omega
    · exact absurd (by rw [← h3]; exact h1) hn))
theorem zb_F_4 (h : zb_F G a d k 4 ξ) : zb_F G a d (k + 1) 0 ξ := zb_F_iff h (fun n x _ => and_congr_right fun _ => or_congr Iff.rfl (and_congr_right fun _ => exists_congr fun k' => exists_congr fun t => and_congr_right fun ht => and_congr_right fun _ => and_congr_right fun _ => by omega))
theorem zb_F_10 (hn : ∀ n x, zb_W G a n x → x < 10) (h : zb_F G a d 10 0 ξ) : zb_F G a (d + 1) 0 0 ξ := zb_F_iff h (fun n x _ => by
  constructor
  · rintro ⟨h1, h2⟩
    refine ⟨h1, ?_⟩
    rcases h2 with h2 | ⟨-, k', t, -, -, -, h3⟩
    · by_cases c : n ≤ d
      · exact Or.inl c
      · have e : n = d + 1 := by omega
        subst e
        obtain ⟨k', t, ht, hk, hg⟩ := zb_d_pred h1
        exact Or.inr ⟨rfl, k', t, ht, hk, hg, Or.inl (hn d k' hk.1)⟩
    · omega
  · rintro ⟨h1, h2⟩
    refine ⟨h1, Or.inl ?_⟩
    rcases h2 with h2 | ⟨h2, -⟩ <;> omega)
theorem zb_F_no (h : zb_F G a d k sd ξ) (hg : ∀ x, ¬ G k sd x) : zb_F G a d k (sd + 1) ξ := zb_F_iff h (fun n x _ => and_congr_right fun _ => or_congr Iff.rfl (and_congr_right fun _ => exists_congr fun k' => exists_congr fun t => and_congr_right fun _ => by
  constructor
  · rintro ⟨h1, h2, h3⟩
    refine ⟨h1, h2, ?_⟩
    rcases h3 with h3 | ⟨h3, h4⟩
    · exact Or.inl h3
    · by_cases c : t = sd
      · rw [h3, c] at h2
        exact absurd h2 (hg x)
      · exact Or.inr ⟨h3, by omega⟩
  · rintro ⟨h1, h2, h3⟩
    exact ⟨h1, h2, h3.imp id (fun q => ⟨q.1, by omega⟩)⟩))
theorem zb_R_s {n x o : Nat} (hu : ∀ y, G k sd y → y = o) (h : zb_R G a d k (sd + 1) n x) : zb_R G a d k sd n x ∨ (x = o ∧ n = d + 1) := by
  obtain ⟨h1, h2⟩ := h
  rcases h2 with h2 | ⟨h2, k', t, ht, h3, h4, h5⟩
  · exact Or.inl ⟨h1, Or.inl h2⟩
  · rcases h5 with h5 | ⟨h5, h6⟩
    · exact Or.inl ⟨h1, Or.inr ⟨h2, k', t, ht, h3, h4, Or.inl h5⟩⟩
    · by_cases c : t = sd
      · rw [h5, c] at h4
        exact Or.inr ⟨hu x h4, h2⟩
      · exact Or.inl ⟨h1, Or.inr ⟨h2, k', t, ht, h3, h4, Or.inr ⟨h5, by omega⟩⟩⟩
theorem zb_R_mono {n x : Nat} (h : zb_R G a d k sd n x) : zb_R G a d k (sd + 1) n x := ⟨h.1, h.2.imp id (fun ⟨h2, k', t, ht, h3, h4, h5⟩ => ⟨h2, k', t, ht, h3, h4, h5.imp id (fun q => ⟨q.1, by omega⟩)⟩)⟩
theorem zb_F_old {o : Nat} (h : zb_F G a d k sd ξ) (ho : o < 10) (hu : ∀ y, G k sd y → y = o) (hf : 0 ≤ ξ 261 o) : zb_F G a d k (sd + 1) ξ := fun x hx => by
  rcases h x hx with ⟨n, h1, h2⟩ | ⟨h1, h2⟩
  · exact Or.inl ⟨n, zb_R_mono h1, h2⟩
  · refine Or.inr ⟨fun n q => ?_, h2⟩
    rcases zb_R_s hu q with q | ⟨q, -⟩
    · exact h1 n q
    · rw [← q, h2] at hf
      exact absurd hf (by decide)
theorem zb_F_new {o : Nat} (h : zb_F G a d k sd ξ) (hsd : sd < 4) (hdk : zb_d G a d k) (hg : G k sd o) (ho : o < 10) (hu : ∀ y, G k sd y → y = o) (hf : ¬ 0 ≤ ξ 261 o) (hd : d < 10) : zb_F G a d k (sd + 1) (zm_up ξ 261 o (nI (d + 1))) := fun x hx => by
  have hno : ∀ n, ¬ zb_R G a d k sd n o := fun n q => by
    rcases h o ho with ⟨n, h1, h2⟩ | ⟨h1, -⟩
    · have := zb_R_le h1
      rw [h2] at hf
      exact hf (nI_pos' (by omega))
    · exact h1 n q
  rw [zm_up_pt]
  by_cases c : x = o
  · subst c
    rw [if_pos rfl]
    obtain ⟨m, hm, hmd⟩ := zb_d_succ hdk hsd hg
    have e : m = d + 1 := by
      by_cases c2 : m ≤ d
      · exact absurd ⟨hmd, Or.inl c2⟩ (hno m)
      · omega
    subst e
    exact Or.inl ⟨d + 1, ⟨hmd, Or.inr ⟨rfl, k, sd, hsd, hdk, hg, Or.inr ⟨rfl, by omega⟩⟩⟩, rfl⟩
  · rw [if_neg c]
    rcases h x hx with ⟨n, h1, h2⟩ | ⟨h1, h2⟩
    · exact Or.inl ⟨n, zb_R_mono h1, h2⟩
    · refine Or.inr ⟨fun n q => ?_, h2⟩
      rcases zb_R_s hu q with q | ⟨q, -⟩
      · exact h1 n q
      · exact c q
theorem zb_F_0 (e : ∀ x, x < 10 → ξ 261 x = if x = a then 0 else -1) : zb_F G a 0 0 0 ξ := fun x hx => by
  rw [e x hx]
  by_cases c : x = a
  · subst c
    exact Or.inl ⟨0, ⟨zb_d_a, Or.inl (Nat.le_refl 0)⟩, by rw [if_pos rfl, nI_0]⟩
  · rw [if_neg c]
    refine Or.inr ⟨fun n q => ?_, rfl⟩
    obtain ⟨q1, q2⟩ := q
    rcases q2 with q2 | ⟨-, k', t, -, -, -, q3⟩
    · have : n = 0 := by omega
      subst this
      exact c (zb_d_0 q1)
    · omega
end ZBG
section ZBH
variable {ξ1 μ ν : zm_M} {row stkC stk ord : List Nat} {Rs : Nat → List Nat} {ts us : Nat → zy_F} {s a : Nat}
/-- neighbourOf, by the class's neighbours -/
theorem zK_nbG (D : Nat) (h : zK ξ1 μ row stkC stk ord Rs ts us) (hs : s < 3) (hl : zd_laid ξ1 s (Rs s) (ts s)) {k sd : Nat} (hk : k < 10) (hsd : sd < 4) (hsh : zd_shn ξ1 s k) : ∃ ν, zv_frY μ ν ∧ ((ze_E (D + 28) A_Mod_neighbourOf [.ref 232, .int (nI k), .int (nI sd)] (zm_mk μ) (some (.int (-1))) (zm_mk ν) ∧ ∀ x, ¬ zx_G ξ1 s k sd x) ∨ ∃ i, i < 10 ∧ ze_E (D + 28) A_Mod_neighbourOf [.ref 232, .int (nI k), .int (nI sd)] (zm_mk μ) (some (.int (nI i))) (zm_mk ν) ∧ zx_G ξ1 s k sd i) := by
  have hr := (zK_shn h hk hs).mp hsh
  obtain ⟨ν, lo, l1, l2, f, g⟩ := zR_nbr D (zK_R h) hk hs hsd hr.1 hr.2.1
  have hnb := zK_nbr h hs hsd hl l2 f l1 hk hsh
  refine ⟨ν, f, ?_⟩
  rcases g with ⟨g1, E⟩ | ⟨i, hi, -, g1, E⟩
  · refine Or.inl ⟨E, fun x hx => ?_⟩
    rcases hnb with ⟨z1, -⟩ | ⟨p, hp, z1, z2⟩
    · have := hx.2
      rw [z1] at this
      exact absurd (by rw [← this]; decide) (nI_pos (n := x) (by have := hx.1; omega))
    · rw [g1] at z2
      exact absurd (by rw [← z2]; decide) (nI_pos (n := p) (by omega))
  · refine Or.inr ⟨i, hi, E, hi, ?_⟩
    rcases hnb with ⟨-, z2⟩ | ⟨p, hp, z1, z2⟩
    · rw [g1] at z2
      exact absurd (by rw [z2]; decide) (nI_pos (n := i) (by omega))
    · rw [z1, ← z2, g1]
/-- whoever is reached is shown -/
theorem zx_W_shn (h : zJ ξ1 row stkC Rs ts) (hs : s < 3) (ha : a < 10) (hsh : zd_shn ξ1 s a) : ∀ n x, zb_W (zx_G ξ1 s) a n x → x < 10 ∧ zd_shn ξ1 s x := by
  intro n
  induction n with
  | zero =>
    intro x hx
    have hx : x = a := hx
    rw [hx]
    exact ⟨ha, hsh⟩
  | succ n ih =>
    rintro x ⟨k, t, ht, hk, hg⟩
    refine ⟨hg.1, ?_⟩
    rcases zd_ngb_shn h (s := s) (k := k) (sd := t) hs with e | ⟨i, hi, e, hsi⟩
    · have := hg.2
      rw [e] at this
      exact absurd (by rw [← this]; decide) (nI_pos (n := x) (by have := hg.1; omega))
    · rw [(nI_eq (by have := hg.1; omega) (by omega)).mp (hg.2.symm.trans e)]
      exact hsi
theorem zv_stS_v (D : Nat) (h : zK ξ1 μ row stkC stk ord Rs ts us) (hs : s < 3) (hl : zd_laid ξ1 s (Rs s) (ts s)) (ha : a < 10) (hsh : zd_shn ξ1 s a) {k d : Nat} (hk : k < 10) (hd : d < 10) : ∀ (j sd : Nat) (L : zi_Lc) (ν : zm_M), sd + j = 4 → zi_nl L = true → zi_get L 0 = some (.ref 232) → zi_get L 3 = some (.int (nI d)) → zi_get L 4 = some (.int (nI k)) → zi_get L 5 = some (.int (nI sd)) → zM_fr μ ν → zb_F (zx_G ξ1 s) a d k sd ν →
    ∃ L' ν', ze_S (D + 28) 7 (some .int) zc_X6_steps 89 L [] (zm_mk ν) 147 L' [] (zm_mk ν') ∧ zi_nl L' = true ∧ (∀ q, q ≠ 5 → q ≠ 6 → zi_get L' q = zi_get L q) ∧ zM_fr μ ν' ∧ zb_F (zx_G ξ1 s) a d (k + 1) 0 ν' := by
  have ik : zi_in (nI k) 10 = true := zm_in hk (by decide)
  have ck : (nI k).toNatClampNeg = k := nI_clamp (by omega)
  intro j
  induction j with
  | zero =>
    intro sd L ν hj nl g0 g3 g4 g5 f hv
    have : sd = 4 := by omega
    subst this
    have c1 : (4 : Int32) ≤ nI 4 := by decide
    refine ⟨L, ν, ⟨0, 3, fun F m hF => ?_⟩, nl, fun _ _ _ => rfl, f, zb_F_4 hv⟩
    simp (maxDischargeDepth := 9) [zi_go, zf_X6_steps, zi_ask, zi_new, zi_step, zi_ld, zi_lda, zi_cmp, zi_retOk, zi_isI, zi_f3, zi_cr, zi_ci, zi_cn, zi_get_ne, zi_nl_i, zi_nl_r, zi_get_set_eq, nl, g0, g3, g4, g5, c1]
  | succ j ih =>
    intro sd L ν hj nl g0 g3 g4 g5 f hv
    have c1 : ¬ (4 : Int32) ≤ nI sd := nI_ge (b := 4) (by omega) (by decide)
    by_cases c2 : ν 261 k = nI d
    · have hdk := (zb_F_at hv hd hk).mp c2
      have hks := (zx_W_shn h.1 hs ha hsh d k hdk.1).2
      have h2 := h.scr zJ_eqv.refl f
      obtain ⟨lc, cM⟩ := zM_c (μ := ν)
      obtain ⟨ξ, g, ⟨⟨N4, E4⟩, hno⟩ | ⟨i, hi, ⟨N4, E4⟩, hg⟩⟩ := zK_nbG D h2 hs hl hk (by omega : sd < 4) hks
      · have f' : zM_fr μ ξ := f.trans g.fr
        have hv' : zb_F (zx_G ξ1 s) a d k sd ξ := zb_F_cells hv (fun j => g _ _ (by omega) (by omega))
        have m1 : (-1 : Int32) < 0 := by decide
        obtain ⟨L', ν', S, nl', q1, q2, q3⟩ := ih (sd + 1) (zi_set (zi_set L 6 (.int (-1))) 5 (.int (nI (sd + 1)))) ξ (by omega) (by simp (maxDischargeDepth := 9) [zi_get_ne, zi_nl_i, zi_nl_r, zi_get_set_eq, nl]) (by simp (maxDischargeDepth := 9) [zi_get_ne, zi_nl_i, zi_nl_r, zi_get_set_eq, nl, g0]) (by simp (maxDischargeDepth := 9) [zi_get_ne, zi_nl_i, zi_nl_r, zi_get_set_eq, nl, g3]) (by simp (maxDischargeDepth := 9) [zi_get_ne, zi_nl_i, zi_nl_r, zi_get_set_eq, nl, g4]) zi_get_set_eq f' (zb_F_no hv' hno)
        refine ⟨L', ν', ze_S.trans ⟨N4, 18, fun F m hF => ?_⟩ S, nl', fun q a b => ?_, q2, q3⟩
        · simp (maxDischargeDepth := 9) [zi_go, zf_X6_steps, zi_ask, zi_new, zi_step, zi_ld, zi_lda, zi_cmp, zi_retOk, zi_isI, zi_f3, zi_cr, zi_ci, zi_cn, zi_get_ne, zi_nl_i, zi_nl_r, zi_get_set_eq, nl, g0, g3, g4, g5, c1, zM_g, zm_iald (k := 0) zM_A261 ik, ck, c2, cM, zq_Mod_neighbourOf, E4 F (by omega), m1, nI_1]
        · rw [q1 q a b]
          simp (maxDischargeDepth := 9) [zi_get_ne, zi_nl_i, zi_nl_r, zi_get_set_eq, nl, a, b]
      · have f' : zM_fr μ ξ := f.trans g.fr
        have hv' : zb_F (zx_G ξ1 s) a d k sd ξ := zb_F_cells hv (fun j => g _ _ (by omega) (by omega))
        have hu : ∀ y, zx_G ξ1 s k sd y → y = i := fun y hy => (nI_eq (by have := hy.1; omega) (by omega)).mp (hy.2.symm.trans hg.2)
        have m1 : ¬ nI i < 0 := nI_pos (by omega)
        have ii : zi_in (nI i) 10 = true := zm_in hi (by decide)
        have ci : (nI i).toNatClampNeg = i := nI_clamp (by omega)
        by_cases c3 : 0 ≤ ξ 261 i
        · obtain ⟨L', ν', S, nl', q1, q2, q3⟩ := ih (sd + 1) (zi_set (zi_set L 6 (.int (nI i))) 5 (.int (nI (sd + 1)))) ξ (by omega) (by simp (maxDischargeDepth := 9) [zi_get_ne, zi_nl_i, zi_nl_r, zi_get_set_eq, nl]) (by simp (maxDischargeDepth := 9) [zi_get_ne, zi_nl_i, zi_nl_r, zi_get_set_eq, nl, g0]) (by simp (maxDischargeDepth := 9) [zi_get_ne, zi_nl_i, zi_nl_r, zi_get_set_eq, nl, g3]) (by simp (maxDischargeDepth := 9) [zi_get_ne, zi_nl_i, zi_nl_r, zi_get_set_eq, nl, g4]) zi_get_set_eq f' (zb_F_old hv' hi hu c3)
          refine ⟨L', ν', ze_S.trans ⟨N4, 23, fun F m hF => ?_⟩ S, nl', fun q a b => ?_, q2, q3⟩
          · simp (maxDischargeDepth := 9) [zi_go, zf_X6_steps, zi_ask, zi_new, zi_step, zi_ld, zi_lda, zi_cmp, zi_retOk, zi_isI, zi_f3, zi_cr, zi_ci, zi_cn, zi_get_ne, zi_nl_i, zi_nl_r, zi_get_set_eq, nl, g0, g3, g4, g5, c1, zM_g, zm_iald (k := 0) zM_A261 ik, zm_iald (k := 0) zM_A261 ii, ck, ci, c2, c3, cM, zq_Mod_neighbourOf, E4 F (by omega), m1, nI_1]
          · rw [q1 q a b]
            simp (maxDischargeDepth := 9) [zi_get_ne, zi_nl_i, zi_nl_r, zi_get_set_eq, nl, a, b]
        · have f2 : zM_fr μ (zm_up ξ 261 i (nI (d + 1))) := f'.trans (fun c e _ _ _ a => zm_up_ne (by omega))
          have hv2 := zb_F_new hv' (by omega) hdk hg hi hu c3 hd
          obtain ⟨L', ν', S, nl', q1, q2, q3⟩ := ih (sd + 1) (zi_set (zi_set L 6 (.int (nI i))) 5 (.int (nI (sd + 1)))) _ (by omega) (by simp (maxDischargeDepth := 9) [zi_get_ne, zi_nl_i, zi_nl_r, zi_get_set_eq, nl]) (by simp (maxDischargeDepth := 9) [zi_get_ne, zi_nl_i, zi_nl_r, zi_get_set_eq, nl, g0]) (by simp (maxDischargeDepth := 9) [zi_get_ne, zi_nl_i, zi_nl_r, zi_get_set_eq, nl, g3]) (by simp (maxDischargeDepth := 9) [zi_get_ne, zi_nl_i, zi_nl_r, zi_get_set_eq, nl, g4]) zi_get_set_eq f2 hv2
          refine ⟨L', ν', ze_S.trans ⟨N4, 30, fun F m hF => ?_⟩ S, nl', fun q a b => ?_, q2, q3⟩
          · simp (maxDischargeDepth := 9) [zi_go, zf_X6_steps, zi_ask, zi_new, zi_step, zi_ld, zi_lda, zi_cmp, zi_retOk, zi_isI, zi_f3, zi_cr, zi_ci, zi_cn, zi_get_ne, zi_nl_i, zi_nl_r, zi_get_set_eq, nl, g0, g3, g4, g5, c1, zM_g, zm_iald (k := 0) zM_A261 ik, zm_iald (k := 0) zM_A261 ii, zm_iast zM_A261 ii, ck, ci, c2, c3, cM, zq_Mod_neighbourOf, E4 F (by omega), m1, nI_1]
          · rw [q1 q a b]
            simp (maxDischargeDepth := 9) [zi_get_ne, zi_nl_i, zi_nl_r, zi_get_set_eq, nl, a, b]
    · refine ⟨L, ν, ⟨0, 9, fun F m hF => ?_⟩, nl, fun _ _ _ => rfl, f, zb_F_off hv (fun z => c2 ((zb_F_at hv hd hk).mpr z))⟩
      simp (maxDischargeDepth := 9) [zi_go, zf_X6_steps, zi_ask, zi_new, zi_step, zi_ld, zi_lda, zi_cmp, zi_retOk, zi_isI, zi_f3, zi_cr, zi_ci, zi_cn, zi_get_ne, zi_nl_i, zi_nl_r, zi_get_set_eq, nl, g0, g3, g4, g5, c1, zM_g, zm_iald (k := 0) zM_A261 ik, ck, c2]
theorem zv_stK_v (D : Nat) (h : zK ξ1 μ row stkC stk ord Rs ts us) (hs : s < 3) (hl : zd_laid ξ1 s (Rs s) (ts s)) (ha : a < 10) (hsh : zd_shn ξ1 s a) {d b : Nat} (hd : d < 10) {ν0 : zm_M} (f0 : zM_fr μ ν0) (v0 : zb_F (zx_G ξ1 s) a d 0 0 ν0) (L0 : zi_Lc) (nl0 : zi_nl L0 = true) (a0 : zi_get L0 0 = some (.ref 232)) (a2 : zi_get L0 2 = some (.int (nI b))) (a3 : zi_get L0 3 = some (.int (nI d))) (a4 : zi_get L0 4 = some (.int (nI 0))) :
    ∃ L' h', ze_S (D + 28) 7 (some .int) zc_X6_steps 79 L0 [] (zm_mk ν0) 153 L' [] h' ∧ (zi_nl L' = true ∧ zi_get L' 0 = some (.ref 232) ∧ zi_get L' 2 = some (.int (nI b)) ∧ zi_get L' 3 = some (.int (nI d)) ∧ ∃ ν, zm_mk ν = h' ∧ zM_fr μ ν ∧ zb_F (zx_G ξ1 s) a d 10 0 ν) := by
  have h10 : (Int8.ofInt 10).toInt32 = (10 : Int32) := by decide
  refine ze_loopS (Q := fun i L hp => i ≤ 10 ∧ zi_nl L = true ∧ zi_get L 0 = some (.ref 232) ∧ zi_get L 2 = some (.int (nI b)) ∧ zi_get L 3 = some (.int (nI d)) ∧ zi_get L 4 = some (.int (nI i)) ∧ ∃ ξ : zm_M, zm_mk ξ = hp ∧ (zM_fr μ ξ) ∧ (zb_F (zx_G ξ1 s) a d i 0 ξ) ∧ (True)) (R := fun L' h' => zi_nl L' = true ∧ zi_get L' 0 = some (.ref 232) ∧ zi_get L' 2 = some (.int (nI b)) ∧ zi_get L' 3 = some (.int (nI d)) ∧ ∃ ν, zm_mk ν = h' ∧ zM_fr μ ν ∧ zb_F (zx_G ξ1 s) a d 10 0 ν) 10 ?_ ?_ 10 0 _ _ (by omega) ⟨by omega, nl0, a0, a2, a3, a4, ν0, rfl, f0, v0, trivial⟩
  · rintro i L _ hi ⟨-, nl, g0, g2, g3, g4, ξ, rfl, f1, f2, hq⟩
    have c1 : ¬ (10 : Int32) ≤ nI i := nI_ge (b := 10) hi (by decide)
    obtain ⟨L', ν', S, nl', q1, q2, q3⟩ := zv_stS_v D h hs hl ha hsh hi hd 4 0 (zi_set L 5 (.int (nI 0))) ξ rfl (by simp (maxDischargeDepth := 9) [zi_get_ne, zi_nl_i, zi_nl_r, zi_get_set_eq, nl]) (by simp (maxDischargeDepth := 9) [zi_get_ne, zi_nl_i, zi_nl_r, zi_get_set_eq, nl, g0]) (by simp (maxDischargeDepth := 9) [zi_get_ne, zi_nl_i, zi_nl_r, zi_get_set_eq, nl, g3]) (by simp (maxDischargeDepth := 9) [zi_get_ne, zi_nl_i, zi_nl_r, zi_get_set_eq, nl, g4]) zi_get_set_eq f1 f2
    have b0 : zi_get L' 0 = some (.ref 232) := by
      rw [q1 0 (by decide) (by decide)]
      simp (maxDischargeDepth := 9) [zi_get_ne, zi_nl_i, zi_nl_r, zi_get_set_eq, nl, g0]
    have b2 : zi_get L' 2 = some (.int (nI b)) := by
      rw [q1 2 (by decide) (by decide)]
      simp (maxDischargeDepth := 9) [zi_get_ne, zi_nl_i, zi_nl_r, zi_get_set_eq, nl, g2]
    have b3 : zi_get L' 3 = some (.int (nI d)) := by
      rw [q1 3 (by decide) (by decide)]
      simp (maxDischargeDepth := 9) [zi_get_ne, zi_nl_i, zi_nl_r, zi_get_set_eq, nl, g3]
    have b4 : zi_get L' 4 = some (.int (nI i)) := by
      rw [q1 4 (by decide) (by decide)]
      simp (maxDischargeDepth := 9) [zi_get_ne, zi_nl_i, zi_nl_r, zi_get_set_eq, nl, g4]
    refine ⟨zi_set L' 4 (.int (nI (i + 1))), zm_mk ν', ze_S.trans ⟨0, 5, fun F m hF => ?_⟩ (S.trans ⟨0, 2, fun F m hF => ?_⟩), by omega, ?_, ?_, ?_, ?_, zi_get_set_eq, ν', rfl, q2, q3, trivial⟩
    · simp (maxDischargeDepth := 9) [zi_go, zf_X6_steps, zi_ask, zi_new, zi_step, zi_ld, zi_lda, zi_cmp, zi_retOk, zi_isI, zi_f3, zi_cr, zi_ci, zi_cn, zi_get_ne, zi_nl_i, zi_nl_r, zi_get_set_eq, nl, g0, g2, g3, g4, h10, c1, nI_0]
    · have nl := nl'
      simp (maxDischargeDepth := 9) [zi_go, zf_X6_steps, zi_ask, zi_new, zi_step, zi_ld, zi_lda, zi_cmp, zi_retOk, zi_isI, zi_f3, zi_cr, zi_ci, zi_cn, zi_get_ne, zi_nl_i, zi_nl_r, zi_get_set_eq, nl, b0, b2, b3, b4, nI_1]
    · have nl := nl'
      simp (maxDischargeDepth := 9) [zi_get_ne, zi_nl_i, zi_nl_r, zi_get_set_eq, nl]
    · have nl := nl'
      simp (maxDischargeDepth := 9) [zi_get_ne, zi_nl_i, zi_nl_r, zi_get_set_eq, nl, b0]
    · have nl := nl'
      simp (maxDischargeDepth := 9) [zi_get_ne, zi_nl_i, zi_nl_r, zi_get_set_eq, nl, b2]
    · have nl := nl'
      simp (maxDischargeDepth := 9) [zi_get_ne, zi_nl_i, zi_nl_r, zi_get_set_eq, nl, b3]
  · rintro L _ ⟨-, nl, g0, g2, g3, g4, ξ, rfl, f1, f2, hq⟩
    have c1 : (10 : Int32) ≤ nI 10 := by decide
    refine ⟨L, zm_mk ξ, ⟨0, 3, fun F m hF => ?_⟩, nl, g0, g2, g3, ξ, rfl, f1, f2⟩
    simp (maxDischargeDepth := 9) [zi_go, zf_X6_steps, zi_ask, zi_new, zi_step, zi_ld, zi_lda, zi_cmp, zi_retOk, zi_isI, zi_f3, zi_cr, zi_ci, zi_cn, zi_get_ne, zi_nl_i, zi_nl_r, zi_get_set_eq, nl, g0, g2, g3, g4, h10, c1, nI_1]
theorem zv_stD_v (D : Nat) (h : zK ξ1 μ row stkC stk ord Rs ts us) (hs : s < 3) (hl : zd_laid ξ1 s (Rs s) (ts s)) (ha : a < 10) (hsh : zd_shn ξ1 s a) {b : Nat} {ν0 : zm_M} (f0 : zM_fr μ ν0) (v0 : zb_F (zx_G ξ1 s) a 0 0 0 ν0) (L0 : zi_Lc) (nl0 : zi_nl L0 = true) (a0 : zi_get L0 0 = some (.ref 232)) (a2 : zi_get L0 2 = some (.int (nI b))) (a3 : zi_get L0 3 = some (.int (nI 0))) :
    ∃ L' h', ze_S (D + 28) 7 (some .int) zc_X6_steps 70 L0 [] (zm_mk ν0) 159 L' [] h' ∧ (zi_nl L' = true ∧ zi_get L' 0 = some (.ref 232) ∧ zi_get L' 2 = some (.int (nI b)) ∧ ∃ ν, zm_mk ν = h' ∧ zM_fr μ ν ∧ zb_F (zx_G ξ1 s) a 10 0 0 ν) := by
  have h10 : (Int8.ofInt 10).toInt32 = (10 : Int32) := by decide
  refine ze_loopS (Q := fun i L hp => i ≤ 10 ∧ zi_nl L = true ∧ zi_get L 0 = some (.ref 232) ∧ zi_get L 2 = some (.int (nI b)) ∧ zi_get L 3 = some (.int (nI i)) ∧ ∃ ξ : zm_M, zm_mk ξ = hp ∧ (zM_fr μ ξ) ∧ (zb_F (zx_G ξ1 s) a i 0 0 ξ) ∧ (True)) (R := fun L' h' => zi_nl L' = true ∧ zi_get L' 0 = some (.ref 232) ∧ zi_get L' 2 = some (.int (nI b)) ∧ ∃ ν, zm_mk ν = h' ∧ zM_fr μ ν ∧ zb_F (zx_G ξ1 s) a 10 0 0 ν) 10 ?_ ?_ 10 0 _ _ (by omega) ⟨by omega, nl0, a0, a2, a3, ν0, rfl, f0, v0, trivial⟩
  · rintro i L _ hi ⟨-, nl, g0, g2, g3, ξ, rfl, f1, f2, hq⟩
    have c1 : ¬ (10 : Int32) ≤ nI i := nI_ge (b := 10) hi (by decide)
    obtain ⟨L', h', S, nl', b0, b2, b3, ν', rfl, q2, q3⟩ := zv_stK_v (b := b) D h hs hl ha hsh hi f1 f2 (zi_set L 4 (.int (nI 0))) (by simp (maxDischargeDepth := 9) [zi_get_ne, zi_nl_i, zi_nl_r, zi_get_set_eq, nl]) (by simp (maxDischargeDepth := 9) [zi_get_ne, zi_nl_i, zi_nl_r, zi_get_set_eq, nl, g0]) (by simp (maxDischargeDepth := 9) [zi_get_ne, zi_nl_i, zi_nl_r, zi_get_set_eq, nl, g2]) (by simp (maxDischargeDepth := 9) [zi_get_ne, zi_nl_i, zi_nl_r, zi_get_set_eq, nl, g3]) zi_get_set_eq
    refine ⟨zi_set L' 3 (.int (nI (i + 1))), zm_mk ν', ze_S.trans ⟨0, 5, fun F m hF => ?_⟩ (S.trans ⟨0, 2, fun F m hF => ?_⟩), by omega, ?_, ?_, ?_, zi_get_set_eq, ν', rfl, q2, zb_F_10 (fun n x q => (zx_W_shn h.1 hs ha hsh n x q).1) q3, trivial⟩
    · simp (maxDischargeDepth := 9) [zi_go, zf_X6_steps, zi_ask, zi_new, zi_step, zi_ld, zi_lda, zi_cmp, zi_retOk, zi_isI, zi_f3, zi_cr, zi_ci, zi_cn, zi_get_ne, zi_nl_i, zi_nl_r, zi_get_set_eq, nl, g0, g2, g3, h10, c1, nI_0]
    · have nl := nl'
      simp (maxDischargeDepth := 9) [zi_go, zf_X6_steps, zi_ask, zi_new, zi_step, zi_ld, zi_lda, zi_cmp, zi_retOk, zi_isI, zi_f3, zi_cr, zi_ci, zi_cn, zi_get_ne, zi_nl_i, zi_nl_r, zi_get_set_eq, nl, b0, b2, b3, nI_1]
    · have nl := nl'
      simp (maxDischargeDepth := 9) [zi_get_ne, zi_nl_i, zi_nl_r, zi_get_set_eq, nl]
    · have nl := nl'
      simp (maxDischargeDepth := 9) [zi_get_ne, zi_nl_i, zi_nl_r, zi_get_set_eq, nl, b0]
    · have nl := nl'
      simp (maxDischargeDepth := 9) [zi_get_ne, zi_nl_i, zi_nl_r, zi_get_set_eq, nl, b2]
  · rintro L _ ⟨-, nl, g0, g2, g3, ξ, rfl, f1, f2, hq⟩
    have c1 : (10 : Int32) ≤ nI 10 := by decide
    refine ⟨L, zm_mk ξ, ⟨0, 3, fun F m hF => ?_⟩, nl, g0, g2, ξ, rfl, f1, f2⟩
    simp (maxDischargeDepth := 9) [zi_go, zf_X6_steps, zi_ask, zi_new, zi_step, zi_ld, zi_lda, zi_cmp, zi_retOk, zi_isI, zi_f3, zi_cr, zi_ci, zi_cn, zi_get_ne, zi_nl_i, zi_nl_r, zi_get_set_eq, nl, g0, g2, g3, h10, c1, nI_1]
theorem zv_stF_v (D : Nat) {a b : Nat} (ha : a < 10) (L0 : zi_Lc) (nl0 : zi_nl L0 = true) (a0 : zi_get L0 0 = some (.ref 232)) (a1 : zi_get L0 1 = some (.int (nI a))) (a2 : zi_get L0 2 = some (.int (nI b))) (a3 : zi_get L0 3 = some (.int (nI 0))) :
    ∃ L' h', ze_S D 7 (some .int) zc_X6_steps 40 L0 [] (zm_mk μ) 68 L' [] h' ∧ (zi_nl L' = true ∧ zi_get L' 0 = some (.ref 232) ∧ zi_get L' 2 = some (.int (nI b)) ∧ ∃ ν, zm_mk ν = h' ∧ (∀ c e, c ≠ 261 → ν c e = μ c e) ∧ ∀ j, j < 10 → ν 261 j = if j = a then 0 else -1) := by
  have h10 : (Int8.ofInt 10).toInt32 = (10 : Int32) := by decide
  have m1 : (-1 : Int32) < 0 := by decide
  refine ze_loopS (Q := fun i L hp => i ≤ 10 ∧ zi_nl L = true ∧ zi_get L 0 = some (.ref 232) ∧ zi_get L 1 = some (.int (nI a)) ∧ zi_get L 2 = some (.int (nI b)) ∧ zi_get L 3 = some (.int (nI i)) ∧ ∃ ξ : zm_M, zm_mk ξ = hp ∧ (∀ c e, c ≠ 261 → ξ c e = μ c e) ∧ (∀ j, j < i → ξ 261 j = if j = a then 0 else -1) ∧ (True)) (R := fun L' h' => zi_nl L' = true ∧ zi_get L' 0 = some (.ref 232) ∧ zi_get L' 2 = some (.int (nI b)) ∧ ∃ ν, zm_mk ν = h' ∧ (∀ c e, c ≠ 261 → ν c e = μ c e) ∧ ∀ j, j < 10 → ν 261 j = if j = a then 0 else -1) 10 ?_ ?_ 10 0 _ _ (by omega) ⟨by omega, nl0, a0, a1, a2, a3, μ, rfl, (fun _ _ _ => rfl), (fun _ q => absurd q (by omega)), trivial⟩
  · rintro i L _ hi ⟨-, nl, g0, g1, g2, g3, ξ, rfl, f1, f2, hq⟩
    have c1 : ¬ (10 : Int32) ≤ nI i := nI_ge (b := 10) hi (by decide)
    have ik : zi_in (nI i) 10 = true := zm_in hi (by decide)
    have ck : (nI i).toNatClampNeg = i := nI_clamp (by omega)
    have f1' : ∀ x c e, c ≠ 261 → zm_up ξ 261 i x c e = μ c e := fun x c e q => (zm_up_ne (by omega)).trans (f1 c e q)
    by_cases c2 : i = a
    · subst c2
      have f2' : ∀ j, j < i + 1 → zm_up ξ 261 i 0 261 j = if j = i then 0 else -1 := fun j hj => by
        by_cases e : j = i
        · rw [e, zm_up_eq, if_pos rfl]
        · rw [zm_up_ne (by omega)]; exact f2 j (by omega)
      refine ⟨zi_set L 3 (.int (nI (i + 1))), zm_mk (zm_up ξ 261 i 0), ⟨0, 14, fun F m hF => ?_⟩, by omega, ?_, ?_, ?_, ?_, zi_get_set_eq, _, rfl, f1' 0, f2', trivial⟩
      · simp (maxDischargeDepth := 9) [zi_go, zf_X6_steps, zi_ask, zi_new, zi_step, zi_ld, zi_lda, zi_cmp, zi_retOk, zi_isI, zi_f3, zi_cr, zi_ci, zi_cn, zi_get_ne, zi_nl_i, zi_nl_r, zi_get_set_eq, nl, g0, g1, g2, g3, h10, c1, zM_g, zm_iast zM_A261 ik, ck, nI_1]
      · simp (maxDischargeDepth := 9) [zi_get_ne, zi_nl_i, zi_nl_r, zi_get_set_eq, nl]
      · simp (maxDischargeDepth := 9) [zi_get_ne, zi_nl_i, zi_nl_r, zi_get_set_eq, nl, g0]
      · simp (maxDischargeDepth := 9) [zi_get_ne, zi_nl_i, zi_nl_r, zi_get_set_eq, nl, g1]
      · simp (maxDischargeDepth := 9) [zi_get_ne, zi_nl_i, zi_nl_r, zi_get_set_eq, nl, g2]
    · have c2' : ¬ nI i = nI a := fun e => c2 ((nI_eq (by omega) (by omega)).mp e)
      have f2' : ∀ j, j < i + 1 → zm_up ξ 261 i (-1) 261 j = if j = a then 0 else -1 := fun j hj => by
        by_cases e : j = i
        · rw [e, zm_up_eq, if_neg c2]
        · rw [zm_up_ne (by omega)]; exact f2 j (by omega)
      refine ⟨zi_set L 3 (.int (nI (i + 1))), zm_mk (zm_up ξ 261 i (-1)), ⟨0, 13, fun F m hF => ?_⟩, by omega, ?_, ?_, ?_, ?_, zi_get_set_eq, _, rfl, f1' (-1), f2', trivial⟩
      · simp (maxDischargeDepth := 9) [zi_go, zf_X6_steps, zi_ask, zi_new, zi_step, zi_ld, zi_lda, zi_cmp, zi_retOk, zi_isI, zi_f3, zi_cr, zi_ci, zi_cn, zi_get_ne, zi_nl_i, zi_nl_r, zi_get_set_eq, nl, g0, g1, g2, g3, h10, c1, c2', zM_g, zm_iast zM_A261 ik, ck, nI_1]
      · simp (maxDischargeDepth := 9) [zi_get_ne, zi_nl_i, zi_nl_r, zi_get_set_eq, nl]
      · simp (maxDischargeDepth := 9) [zi_get_ne, zi_nl_i, zi_nl_r, zi_get_set_eq, nl, g0]
      · simp (maxDischargeDepth := 9) [zi_get_ne, zi_nl_i, zi_nl_r, zi_get_set_eq, nl, g1]
      · simp (maxDischargeDepth := 9) [zi_get_ne, zi_nl_i, zi_nl_r, zi_get_set_eq, nl, g2]
  · rintro L _ ⟨-, nl, g0, g1, g2, g3, ξ, rfl, f1, f2, hq⟩
    have c1 : (10 : Int32) ≤ nI 10 := by decide
    refine ⟨L, zm_mk ξ, ⟨0, 3, fun F m hF => ?_⟩, nl, g0, g2, ξ, rfl, f1, f2⟩
    simp (maxDischargeDepth := 9) [zi_go, zf_X6_steps, zi_ask, zi_new, zi_step, zi_ld, zi_lda, zi_cmp, zi_retOk, zi_isI, zi_f3, zi_cr, zi_ci, zi_cn, zi_get_ne, zi_nl_i, zi_nl_r, zi_get_set_eq, nl, g0, g1, g2, g3, h10, c1, nI_1]
def zx_sMA (μ : zm_M) (w x : Int32) : Prop := (∃ k, k < 10 ∧ w = nI k ∧ ¬ μ 234 k = 0) ∧ ∃ k, k < 10 ∧ x = nI k ∧ ¬ μ 234 k = 0
def zx_sMB (μ : zm_M) (us : Nat → zy_F) (w x : Int32) : Prop := (∃ k s, k < 10 ∧ s < 3 ∧ w = nI k ∧ zv_shn μ us s k) ∧ ∃ k s, k < 10 ∧ s < 3 ∧ x = nI k ∧ zv_shn μ us s k
set_option maxRecDepth 100000 in
theorem ze_Msteps_v (D : Nat) (hK : zK ξ1 μ row stkC stk ord Rs ts us) (hl : ∀ q, q < 3 → zd_laid ξ1 q (Rs q) (ts q)) (w x : Int32) : ∃ ν v, ze_E (D + 29) A_Mod_steps [.ref 232, .int w, .int x] (zm_mk μ) (some (.int v)) (zm_mk ν) ∧ zM_fr μ ν ∧ ((¬ zx_sMA μ w x ∧ v = -1000000001) ∨ (zx_sMA μ w x ∧ ¬ zx_sMB μ us w x ∧ v = -1000000002) ∨ ∃ a b s, a < 10 ∧ b < 10 ∧ s < 3 ∧ w = nI a ∧ x = nI b ∧ zv_shn μ us s a ∧ (∃ s', s' < 3 ∧ zv_shn μ us s' b) ∧ ((∃ n, n ≤ 10 ∧ zb_d (zx_G ξ1 s) a n b ∧ v = nI n) ∨ ((∀ n, n ≤ 10 → ¬ zb_d (zx_G ξ1 s) a n b) ∧ v = -1000000005))) := by
  have h := zK_R hK
  have n1 : Int32.ofInt (-1000000001) = -1000000001 := by decide
  have n2 : Int32.ofInt (-1000000002) = -1000000002 := by decide
  have n5 : Int32.ofInt (-1000000005) = -1000000005 := by decide
  obtain ⟨lc, cM⟩ := zM_c (μ := μ)
  rcases zR_win (D + 26) h w with ⟨a, ha, rfl, a0, N1, E1⟩ | ⟨⟨N1, E1⟩, c0⟩
  · rcases zR_win (D + 26) h x with ⟨b, hb, rfl, b0, N2, E2⟩ | ⟨⟨N2, E2⟩, c0⟩
    · rcases zR_shn (D + 24) h ha with ⟨⟨N3, E3⟩, s, hs, hsa⟩ | ⟨⟨N3, E3⟩, hns⟩
      · rcases zR_shn (D + 24) h hb with ⟨⟨N4, E4⟩, sb, hsb, hshb⟩ | ⟨⟨N4, E4⟩, hns⟩
        · obtain ⟨L1, h1, S1, nl1, p0, p2, ν1, rfl, f1, f2⟩ := zv_stF_v (μ := μ) (b := b) (D + 28) ha [(3, .int (nI 0)), (0, .ref 232), (1, .int (nI a)), (2, .int (nI b))] rfl rfl rfl rfl rfl
          have g1 : zM_fr μ ν1 := fun c e _ _ _ q => f1 c e (by omega)
          have v1 : zb_F (zx_G ξ1 s) a 0 0 0 ν1 := zb_F_0 f2
          have hsx : zd_shn ξ1 s a := (zK_shn hK ha hs).mpr hsa
          obtain ⟨L2, h2, S2, nl2, q0, q2, ν2, rfl, g2, v2⟩ := zv_stD_v (b := b) D hK hs (hl s hs) ha hsx g1 v1 (zi_set L1 3 (.int (nI 0))) (zi_nl_i nl1) ((zi_get_ne nl1 (by decide)).trans p0) ((zi_get_ne nl1 (by decide)).trans p2) zi_get_set_eq
          have ib : zi_in (nI b) 10 = true := zm_in hb (by decide)
          have cb : (nI b).toNatClampNeg = b := nI_clamp (by omega)
          have S3 : ze_S (D + 28) 7 (some .int) zc_X6_steps 68 L1 [] (zm_mk ν1) 70 (zi_set L1 3 (.int (nI 0))) [] (zm_mk ν1) := by
            refine ⟨0, 2, fun F m hF => ?_⟩
            simp [zi_go, zf_X6_steps, zi_ask, zi_new, zi_step, zi_ld, zi_lda, zi_cmp, zi_retOk, zi_isI, zi_f3, zi_cr, zi_ci, zi_cn, nI_0]
          have S0 : ze_S (D + 28) 7 (some .int) zc_X6_steps 0 [(0, .ref 232), (1, .int (nI a)), (2, .int (nI b))] [] (zm_mk μ) 40 [(3, .int (nI 0)), (0, .ref 232), (1, .int (nI a)), (2, .int (nI b))] [] (zm_mk μ) := by
            refine ⟨N1 + N2 + N3 + N4, 18, fun F m hF => ?_⟩
            simp [zi_go, zf_X6_steps, zi_ask, zi_new, zi_step, zi_ld, zi_lda, zi_cmp, zi_retOk, zi_isI, zi_f3, zi_cr, zi_ci, zi_cn, zi_get, zi_set, cM, zq_Mod_isWindow, zq_Mod_isShown, E1 F (by omega), E2 F (by omega), E3 F (by omega), E4 F (by omega), nI_0]
          by_cases c5 : ν2 261 b < 0
          · have c5' : ¬ 0 ≤ ν2 261 b := Int32.not_le.mpr c5
            refine ⟨ν2, -1000000005, ze_in [(0, .ref 232), (1, .int (nI a)), (2, .int (nI b))] zq_Mod_steps (Nat.le_of_ble_eq_true rfl) rfl (S0.end (S1.end (S3.end (S2.end ⟨0, 8, fun F m hF => ?_⟩)))), g2, Or.inr (Or.inr ⟨a, b, s, ha, hb, hs, rfl, rfl, hsa, ⟨sb, hsb, hshb⟩, Or.inr ⟨fun n hn q => ?_, rfl⟩⟩)⟩
            · simp [zi_go, zf_X6_steps, zi_ask, zi_new, zi_step, zi_ld, zi_lda, zi_cmp, zi_retOk, zi_isI, zi_f3, zi_cr, zi_ci, zi_cn, q0, q2, zM_g, zm_iald (k := 0) zM_A261 ib, cb, c5', n5]
            · rcases v2 b hb with ⟨n', z1, z2⟩ | ⟨z1, -⟩
              · have := zb_R_le z1
                rw [z2] at c5
                exact nI_pos (by omega) c5
              · exact z1 n ⟨q, Or.inl hn⟩
          · have c5' : 0 ≤ ν2 261 b := Int32.not_lt.mp c5
            refine ⟨ν2, ν2 261 b, ze_in [(0, .ref 232), (1, .int (nI a)), (2, .int (nI b))] zq_Mod_steps (Nat.le_of_ble_eq_true rfl) rfl (S0.end (S1.end (S3.end (S2.end ⟨0, 10, fun F m hF => ?_⟩)))), g2, Or.inr (Or.inr ⟨a, b, s, ha, hb, hs, rfl, rfl, hsa, ⟨sb, hsb, hshb⟩, Or.inl ?_⟩)⟩
            · simp [zi_go, zf_X6_steps, zi_ask, zi_new, zi_step, zi_ld, zi_lda, zi_cmp, zi_retOk, zi_isI, zi_f3, zi_cr, zi_ci, zi_cn, q0, q2, zM_g, zm_iald (k := 0) zM_A261 ib, cb, c5']
            · rcases v2 b hb with ⟨n', ⟨z1, z3⟩, z2⟩ | ⟨-, z2⟩
              · rcases z3 with z3 | ⟨-, k', t, -, -, -, z4⟩
                · exact ⟨n', z3, z1, z2⟩
                · omega
              · rw [z2] at c5
                exact absurd (by decide) c5
        · refine ⟨μ, -1000000002, ze_in [(0, .ref 232), (1, .int (nI a)), (2, .int (nI b))] zq_Mod_steps (Nat.le_of_ble_eq_true rfl) rfl ⟨N1 + N2 + N3 + N4, 18, fun F n hF => ?_⟩, zM_fr.refl, Or.inr (Or.inl ⟨⟨⟨a, ha, rfl, a0⟩, b, hb, rfl, b0⟩, fun z => z.2.elim (fun k q => q.elim (fun s q => hns s q.2.1 (by rw [(nI_eq (by omega) (by have := q.1; omega)).mp q.2.2.1]; exact q.2.2.2))), rfl⟩)⟩
          simp [zi_go, zf_X6_steps, zi_ask, zi_new, zi_step, zi_ld, zi_lda, zi_cmp, zi_retOk, zi_isI, zi_f3, zi_cr, zi_ci, zi_cn, zi_get, zi_set, cM, zq_Mod_isWindow, zq_Mod_isShown, E1 F (by omega), E2 F (by omega), E3 F (by omega), E4 F (by omega), n2]
      · refine ⟨μ, -1000000002, ze_in [(0, .ref 232), (1, .int (nI a)), (2, .int (nI b))] zq_Mod_steps (Nat.le_of_ble_eq_true rfl) rfl ⟨N1 + N2 + N3, 14, fun F n hF => ?_⟩, zM_fr.refl, Or.inr (Or.inl ⟨⟨⟨a, ha, rfl, a0⟩, b, hb, rfl, b0⟩, fun z => z.1.elim (fun k q => q.elim (fun s q => hns s q.2.1 (by rw [(nI_eq (by omega) (by have := q.1; omega)).mp q.2.2.1]; exact q.2.2.2))), rfl⟩)⟩
        simp [zi_go, zf_X6_steps, zi_ask, zi_new, zi_step, zi_ld, zi_lda, zi_cmp, zi_retOk, zi_isI, zi_f3, zi_cr, zi_ci, zi_cn, zi_get, zi_set, cM, zq_Mod_isWindow, zq_Mod_isShown, E1 F (by omega), E2 F (by omega), E3 F (by omega), n2]
    · refine ⟨μ, -1000000001, ze_in [(0, .ref 232), (1, .int (nI a)), (2, .int x)] zq_Mod_steps (Nat.le_of_ble_eq_true rfl) rfl ⟨N1 + N2, 10, fun F n hF => ?_⟩, zM_fr.refl, Or.inl ⟨fun z => z.2.elim (fun k q => q.2.2 (c0 k q.1 q.2.1)), rfl⟩⟩
      simp [zi_go, zf_X6_steps, zi_ask, zi_new, zi_step, zi_ld, zi_lda, zi_cmp, zi_retOk, zi_isI, zi_f3, zi_cr, zi_ci, zi_cn, zi_get, zi_set, cM, zq_Mod_isWindow, E1 F (by omega), E2 F (by omega), n1]
  · refine ⟨μ, -1000000001, ze_in [(0, .ref 232), (1, .int w), (2, .int x)] zq_Mod_steps (Nat.le_of_ble_eq_true rfl) rfl ⟨N1, 6, fun F n hF => ?_⟩, zM_fr.refl, Or.inl ⟨fun z => z.1.elim (fun k q => q.2.2 (c0 k q.1 q.2.1)), rfl⟩⟩
    simp [zi_go, zf_X6_steps, zi_ask, zi_new, zi_step, zi_ld, zi_lda, zi_cmp, zi_retOk, zi_isI, zi_f3, zi_cr, zi_ci, zi_cn, zi_get, zi_set, cM, zq_Mod_isWindow, E1 F (by omega), n1]
end ZBH
section ZBI
variable {M : zm_M}
theorem zW_steps_e (h : zW M) (w x : Int32) : zW_e M A_Desk_steps A_Mod_steps [.int w, .int x] := by
  obtain ⟨row, stkC, stk, ord, Rs, ts, us, h⟩ := h
  obtain ⟨N, r1, E1, e, V1⟩ := ze_steps_v 57 h.1 w x
  have hm := zW_mid h (zW_eqv e)
  -- the trees, laid
  obtain ⟨ξ0, -, f0, hl0⟩ := ze_layTrees (μ := M) 0 (fun s hs => (h.1.2.2.2.1 s hs).1)
  obtain ⟨ξ1, ev, hl, hfar⟩ : ∃ ξ1, zJ_eqv M ξ1 ∧ (∀ q, q < 3 → zd_laid ξ1 q (Rs q) (ts q)) ∧ ((¬ zx_stA M w x ∧ r1 = -1000000001) ∨ (zx_stA M w x ∧ ¬ zx_stB M w x ∧ r1 = -1000000002) ∨ ∃ a b s, a < 10 ∧ b < 10 ∧ s < 3 ∧ w = nI a ∧ x = nI b ∧ zd_shn M s a ∧ (∃ s', s' < 3 ∧ zd_shn M s' b) ∧ zx_far (zx_G ξ1 s) a b r1) := by
    rcases V1 with V1 | V1 | ⟨a, b, s, ν1, a1, a2, a3, a4, a5, a6, a7, a8, a9, b1⟩
    · exact ⟨ξ0, zd_frA_eqv f0, hl0, Or.inl V1⟩
    · exact ⟨ξ0, zd_frA_eqv f0, hl0, Or.inr (Or.inl V1)⟩
    · exact ⟨ν1, a8, a9, Or.inr (Or.inr ⟨a, b, s, a1, a2, a3, a4, a5, a6, a7, b1⟩)⟩
  have h2 := hm.scr ev (zM_fr.refl (μ := N))
  obtain ⟨θ, r2, E2, f, V2⟩ := ze_Msteps_v 35 h2 hl w x
  have W := zW_ro h e f
  have kA : zx_stA M w x ↔ zx_sMA N w x := by
    unfold zx_stA zx_sMA
    refine and_congr (exists_congr fun k => and_congr_right fun hk => and_congr_right fun _ => (zK_kind hm hk).2.2) (exists_congr fun k => and_congr_right fun hk => and_congr_right fun _ => (zK_kind hm hk).2.2)
  have kB : zx_stB M w x ↔ zx_sMB N us w x := by
    unfold zx_stB zx_sMB
    refine and_congr (exists_congr fun k => exists_congr fun s => and_congr_right fun hk => and_congr_right fun hs => and_congr_right fun _ => zK_shn hm hk hs) (exists_congr fun k => exists_congr fun s => and_congr_right fun hk => and_congr_right fun hs => and_congr_right fun _ => zK_shn hm hk hs)
  have sA : ∀ {a b s s' : Nat}, a < 10 → b < 10 → s < 3 → s' < 3 → w = nI a → x = nI b → zd_shn M s a → zd_shn M s' b → zx_stA M w x ∧ zx_stB M w x := fun ha hb hs hs' ew ex h1 h2 => ⟨⟨⟨_, ha, ew, decide_eq_true (of_decide_eq_true h1.1).1⟩, _, hb, ex, decide_eq_true (of_decide_eq_true h2.1).1⟩, ⟨_, _, ha, hs, ew, h1⟩, _, _, hb, hs', ex, h2⟩
  have key : r2 = r1 := by
    rcases hfar with ⟨n1, rfl⟩ | ⟨y1, n1, rfl⟩ | ⟨a, b, s, ha, hb, hs, ew, ex, hsa, ⟨s', hs', hsb⟩, F⟩
    · rcases V2 with ⟨-, rfl⟩ | ⟨y2, -, -⟩ | ⟨a, b, s, ha, hb, hs, ew, ex, hsa, ⟨s', hs', hsb⟩, -⟩
      · rfl
      · exact absurd (kA.mpr y2) n1
      · exact absurd (sA ha hb hs hs' ew ex ((zK_shn hm ha hs).mpr hsa) ((zK_shn hm hb hs').mpr hsb)).1 n1
    · rcases V2 with ⟨n2, -⟩ | ⟨-, -, rfl⟩ | ⟨a, b, s, ha, hb, hs, ew, ex, hsa, ⟨s', hs', hsb⟩, -⟩
      · exact absurd (kA.mp y1) n2
      · rfl
      · exact absurd (sA ha hb hs hs' ew ex ((zK_shn hm ha hs).mpr hsa) ((zK_shn hm hb hs').mpr hsb)).2 n1
    · have sa := sA ha hb hs hs' ew ex hsa hsb
      rcases V2 with ⟨n2, -⟩ | ⟨-, n2, -⟩ | ⟨a', b', s2, ha', hb', hs2, ew', ex', hsa', -, F2⟩
      · exact absurd (kA.mp sa.1) n2
      · exact absurd (kB.mp sa.2) n2
      · have e1 := (nI_eq (by omega) (by omega)).mp (ew'.symm.trans ew)
        have e2 := (nI_eq (by omega) (by omega)).mp (ex'.symm.trans ex)
        subst e1
        subst e2
        have e3 := (nI_eq (by omega) (by omega)).mp (((zK_shn hm ha hs2).mpr hsa').2.1.symm.trans hsa.2.1)
        subst e3
        rcases F with ⟨n, hn, hd, rfl⟩ | ⟨hno, rfl⟩
        · rcases F2 with ⟨m, hm2, hd2, rfl⟩ | ⟨hno2, -⟩
          · rw [zb_d_uq hd2 hd]
          · exact absurd hd (hno2 n hn)
        · rcases F2 with ⟨m, hm2, hd2, -⟩ | ⟨-, rfl⟩
          · exact absurd hd2.1 (hno m)
          · rfl
  subst key
  exact ⟨N, θ, r2, E1, E2, W⟩
end ZBI
