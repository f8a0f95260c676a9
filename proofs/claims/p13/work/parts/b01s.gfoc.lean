/-! the focus given: the stack after it, on both sides -/
section ZGF
variable {μ : zm_M} {row stk : List Nat} {R : List Nat} {t : zy_F} {rk : Nat → Nat}
set_option maxRecDepth 100000 in
theorem ze_giveFocus_v (D : Nat) (hr : zd_rkc μ rk) {k s : Nat} (hk : k < 10) (ht : zd_th μ k = true) (hs : s < 3) (hrow : zr_L μ 3 row) (hrn : row.Nodup) (hrb : ∀ j ∈ row, j < 10) (hstk : zr_L μ 5 stk) (hsn : stk.Nodup) (hsb : ∀ j ∈ stk, j < 10 ∧ zd_flo μ j = true) (hsc : zd_til μ k = true → μ (zdW k) 5 = nI s ∧ zt_I μ (zdT s) R t ∧ k ∈ R) :
    ∃ ν, ze_E (D + 15) A_Desk_giveFocus [.ref 1, .int (nI k)] (zm_mk μ) none (zm_mk ν) ∧ zr_L ν 5 (zd_rz μ 10 k stk) := by
  obtain ⟨ν1, E1, l1, f1⟩ := ze_Row_putFirst (μ := μ) (D + 10) zd3_at hrow hrb hk (zl_er_len hrn hrb hk)
  have f1' : ∀ c, c ≠ 3 → c ≠ 4 → ν1 c = μ c := fun c h1 h2 => funext fun b => f1 c b h1 h2
  obtain ⟨N1, E1⟩ := E1
  have ew : ν1 (zdW k) = μ (zdW k) := f1' _ (by unfold zdW; omega) (by unfold zdW; omega)
  have et : zd_til ν1 k = zd_til μ k := by unfold zd_til; rw [ew]
  obtain ⟨N2, E2⟩ := ze_tilW (μ := ν1) (D + 13) hk
  rw [et] at E2
  have cr := zr_c (μ := μ) zd3_at
  have cw := zw_c (μ := ν1) (zdW_at hk)
  by_cases c2 : zd_til μ k = true
  · rw [if_pos c2] at E2
    obtain ⟨h1, h2, h3⟩ := hsc c2
    obtain ⟨N3, E3⟩ := ze_treeOf (μ := ν1) (D + 13) hk hs (by rw [ew]; exact h1)
    have eT : ∀ j, ν1 (zdT s + j) = μ (zdT s + j) := fun j => f1' _ (by unfold zdT; omega) (by unfold zdT; omega)
    have hm : zt_hm ν1 (zdT s) := by
      have := zt_I_hm h2
      unfold zt_hm at *
      rw [eT]
      exact this
    obtain ⟨N4, E4⟩ := ze_Tree_show (μ := ν1) (D + 12) (zdT_at hs) hm hk
    obtain ⟨n, hn, en⟩ := h2.2.2.2.1 k h3
    have hn19 := h2.2.1.2.2.1 n (zt_I_lv h2 hn).2
    have hneg : ¬ ν1 (zdT s + 3) k < 0 := by rw [eT, en]; exact nI_pos (by omega)
    rw [if_neg hneg, eT, en, nI_clamp (by omega)] at E4
    let ν2 := zm_up ν1 (zdT s + 12) n (nI k)
    have f2 : ∀ c, c ≠ zdT s + 12 → ν2 c = ν1 c := fun c hc => zm_up_row hc
    have m2 : zm_up ν1 (zdT s + 12) n (nI k) = ν2 := rfl
    rw [m2] at E4
    have hstk2 : zr_L ν2 5 stk := zr_L_congr (by rw [f2 _ (by unfold zdT; omega), f1' _ (by decide) (by decide)]) (by rw [f2 _ (by unfold zdT; omega), f1' _ (by decide) (by decide)]) hstk
    obtain ⟨ν, ⟨N5, E5⟩, z1, z4⟩ := ze_raise_v D hr 10 0 rfl ν2 stk k (fun j hj => by rw [f2 _ (by unfold zdT zdW; omega), f1' _ (by unfold zdW; omega) (by unfold zdW; omega)]) hstk2 hsn hsb hk ht (Nat.zero_le _)
    refine ⟨ν, ?_, z1⟩
    · obtain ⟨lc, ct⟩ := zt_c (μ := ν1) (zdT_at hs)
      refine ze_in [(0, .ref 1), (1, .int (nI k))] zq_Desk_giveFocus (Nat.le_of_ble_eq_true rfl) rfl ⟨N1 + N2 + N3 + N4 + N5, 20, fun F m hF => ?_⟩
      have E5 := E5 F (by omega)
      rw [nI_0] at E5
      simp [zi_go, zf_X5_giveFocus, zi_ask, zi_new, zi_step, zi_ld, zi_lda, zi_cmp, zi_retOk, zi_isI, zi_f3, zi_cr, zi_ci, zi_cn, zi_get, zi_set, zd_g, zq_Row_putFirst, cr, E1 F (by omega), zd_w hk, zq_Win_isTiled, cw, E2 F (by omega), zq_Desk_treeOf, zd_c, E3 F (by omega), zq_Tree_show, ct, E4 F (by omega), zq_Desk_raise, E5]
  · rw [if_neg c2] at E2
    have hstk2 : zr_L ν1 5 stk := zr_L_congr (f1' _ (by decide) (by decide)) (f1' _ (by decide) (by decide)) hstk
    obtain ⟨ν, ⟨N5, E5⟩, z1, z4⟩ := ze_raise_v D hr 10 0 rfl ν1 stk k (fun j hj => by rw [f1' _ (by unfold zdW; omega) (by unfold zdW; omega)]) hstk2 hsn hsb hk ht (Nat.zero_le _)
    refine ⟨ν, ?_, z1⟩
    · refine ze_in [(0, .ref 1), (1, .int (nI k))] zq_Desk_giveFocus (Nat.le_of_ble_eq_true rfl) rfl ⟨N1 + N2 + N5, 15, fun F m hF => ?_⟩
      have E5 := E5 F (by omega)
      rw [nI_0] at E5
      simp [zi_go, zf_X5_giveFocus, zi_ask, zi_new, zi_step, zi_ld, zi_lda, zi_cmp, zi_retOk, zi_isI, zi_f3, zi_cr, zi_ci, zi_cn, zi_get, zi_set, zd_g, zq_Row_putFirst, cr, E1 F (by omega), zd_w hk, zq_Win_isTiled, cw, E2 F (by omega), zd_c, zq_Desk_raise, E5]
theorem zd_rz_nodup {n k : Nat} (hn : stk.Nodup) : (zd_rz μ n k stk).Nodup := (zl_rz_ok n k stk hn).1
/-- whose memory: any that ends the same run -/
theorem ze_stk_det {D : Nat} {vs : List Value} {μ ν ν' : zm_M} {a : Nat} {r r' : Option Value} {S S' : List Nat} (E : ze_E D a vs (zm_mk μ) r (zm_mk ν)) (E' : ze_E D a vs (zm_mk μ) r' (zm_mk ν')) (l : zr_L ν 5 S) (l' : zr_L ν' 5 S') (hb : ∀ x ∈ S, x < 10) (hb' : ∀ x ∈ S', x < 10) : S = S' :=
  zr_L_uq l (zr_L_mk (ze_E_det E' E).2 zd5_at l') hb hb'
end ZGF
section ZGM
variable {rk : Nat → Nat} {B : Nat} {K O : Nat → Int32} {fl : Nat → Bool} {ow : Nat → Nat → Bool}
theorem zl_rz_fold {n : Nat} : ∀ (D T : List Nat), T.Nodup → (D.foldl (fun S c => zl_rz fl ow n c S) T).Nodup ∧ ∀ x, x ∈ D.foldl (fun S c => zl_rz fl ow n c S) T → x ∈ T ∨ (fl x = true ∧ x ∈ D)
  | [], _, h => ⟨h, fun _ => Or.inl⟩
  | c :: D, T, h => by
    rw [List.foldl_cons]
    obtain ⟨a1, -, a3, -⟩ := zl_rz_ok (fl := fl) (ow := ow) n c T h
    obtain ⟨b1, b2⟩ := zl_rz_fold D (zl_rz fl ow n c T) a1
    refine ⟨b1, fun x hx => ?_⟩
    rcases b2 x hx with q | ⟨q1, q2⟩
    · rcases a3 x q with q | ⟨q1, q2⟩
      · exact Or.inl q
      · subst q2
        exact Or.inr ⟨q1, List.mem_cons_self⟩
    · exact Or.inr ⟨q1, List.mem_cons_of_mem _ q2⟩
theorem zv_raise0_v {μ : zm_M} (D : Nat) {k : Nat} (hk : k < 10) {l : List Nat} (hL : zv_L μ 241 10 l) (hd : l.Nodup) (hb : ∀ x ∈ l, x < 10) (hf : fl k = true ↔ 2 ≤ μ 234 k) : ∃ ν, ze_S (D + 1) 6 none zc_X6_raise 0 [(0, .ref 232), (1, .int (nI k))] [] (zm_mk μ) 33 [(0, .ref 232), (1, .int (nI k))] [] (zm_mk ν) ∧ zv_L ν 241 10 (if fl k = true then l.erase k ++ [k] else l) ∧ ∀ c d, c ≠ 241 → ¬ (c = 231 ∧ d = 10) → ν c d = μ c d := by
  obtain ⟨lc, cM⟩ := zM_c (μ := μ)
  obtain ⟨N1, E1⟩ := ze_MisFloating (μ := μ) D hk
  by_cases c : 2 ≤ μ 234 k
  · rw [if_pos c] at E1
    rw [if_pos (hf.mpr c), show l.erase k = l.filter (fun x => decide (x ≠ k)) from (hd.erase_eq_filter k).trans (List.filter_congr (fun x _ => by by_cases e : x = k <;> simp [e]))]
    obtain ⟨ν, ⟨N2, E2⟩, ⟨b1, b2, b3⟩, b4⟩ := ze_Munstack (μ := μ) D hk hL hb
    have hd' : (l.filter (fun x => decide (x ≠ k)) ++ [k]).Nodup := by
      refine List.nodup_append.mpr ⟨hd.filter _, by simp, fun a ha b hb2 => ?_⟩
      rw [List.mem_singleton.mp hb2]
      exact of_decide_eq_true (List.mem_filter.mp ha).2
    have hb' : ∀ x ∈ l.filter (fun x => decide (x ≠ k)) ++ [k], x < 10 := fun x hx => by
      rcases List.mem_append.mp hx with h | h
      · exact hb x (List.mem_filter.mp h).1
      · rw [List.mem_singleton.mp h]; exact hk
    have hlen := zv_nodup10 hd' hb'
    generalize l.filter (fun x => decide (x ≠ k)) = f at *
    rw [List.length_append] at hlen
    have hlen : f.length + 1 ≤ 10 := hlen
    have ik : zi_in (nI f.length) 10 = true := zm_in (by omega) (by decide)
    have ck : (nI f.length).toNatClampNeg = f.length := nI_clamp (by omega)
    have e10 : zm_up ν 241 f.length (nI k) 231 10 = nI f.length := (zm_up_ne (by omega)).trans b2
    refine ⟨zm_up (zm_up ν 241 f.length (nI k)) 231 10 (nI (f.length + 1)), ⟨N1 + N2, 19, fun F m hF => ?_⟩, ⟨by rw [List.length_append]; exact hlen, by rw [zm_up_eq, List.length_append]; rfl, fun j hj => ?_⟩, fun c d h1 h2 => ?_⟩
    · simp [zi_go, zf_X6_raise, zi_ask, zi_new, zi_step, zi_ld, zi_lda, zi_cmp, zi_retOk, zi_isI, zi_f3, zi_cr, zi_ci, zi_cn, zi_get, zi_set, zM_g, cM, zq_Mod_isFloating, zq_Mod_unstack, E1 F (by omega), E2 F (by omega), b2, zm_iast zM_A241 ik, ck, e10, nI_add, nI_1, zM_p10]
    · rw [List.length_append] at hj
      have hj : j < f.length + 1 := hj
      rw [zm_up_ne (by omega), zm_up_pt]
      by_cases e : j = f.length
      · rw [if_pos e, e, zl_getD_r (Nat.le_refl _), Nat.sub_self]
        rfl
      · rw [if_neg e, zl_getD_l (by omega)]
        exact b3 j (by omega)
    · rw [zm_up_ne h2, zm_up_ne (by omega)]
      exact b4 c d h1 h2
  · rw [if_neg c] at E1
    rw [if_neg (fun z => c (hf.mp z))]
    refine ⟨μ, ⟨N1, 4, fun F m hF => ?_⟩, hL, fun _ _ _ _ => rfl⟩
    simp [zi_go, zf_X6_raise, zi_ask, zi_new, zi_step, zi_ld, zi_lda, zi_cmp, zi_retOk, zi_isI, zi_f3, zi_cr, zi_ci, zi_cn, zi_get, zi_set, zM_g, cM, zq_Mod_isFloating, E1 F (by omega)]
set_option maxRecDepth 100000 in
theorem ze_Mraise_v (hfl : ∀ x, x < 10 → (fl x = true ↔ 2 ≤ K x)) (how : ∀ a x, a < 10 → x < 10 → (ow a x = true ↔ K x = 3 ∧ O x = nI a)) (hB : ∀ x, x < 10 → rk x ≤ B) (hr : ∀ o k, o < 10 → k < 10 → K o = 3 → O o = nI k → rk k < rk o) : ∀ (n k D : Nat), k < 10 → B - rk k ≤ n → ∀ (μ : zm_M) (l : List Nat), (∀ x, x < 10 → μ 234 x = K x ∧ μ 237 x = O x) → zv_L μ 241 10 l → l.Nodup → (∀ x ∈ l, x < 10) → (∀ x, x < 10 → K x = 3 → ∃ o, o < 10 ∧ O x = nI o) →
    ∃ ν, ze_E (D + 2 + n) A_Mod_raise [.ref 232, .int (nI k)] (zm_mk μ) none (zm_mk ν) ∧ zv_L ν 241 10 (zl_rz fl ow (n + 1) k l) ∧ ∀ c d, c ≠ 241 → ¬ (c = 231 ∧ d = 10) → ν c d = μ c d := by
  intro n
  induction n with
  | zero =>
    intro k D hk hn μ l hKO hL hd hb ho
    obtain ⟨μ1, s1, L1, f1⟩ := zv_raise0_v (fl := fl) (μ := μ) D hk hL hd hb (by rw [(hKO k hk).1]; exact hfl k hk)
    obtain ⟨l1, el1, d1, m1⟩ : ∃ l1, (if fl k = true then l.erase k ++ [k] else l) = l1 ∧ l1.Nodup ∧ ∀ x, x ∈ l1 → x ∈ l ∨ x = k := by
      by_cases f : fl k = true
      · refine ⟨l.erase k ++ [k], if_pos f, List.nodup_append.mpr ⟨hd.erase k, List.nodup_cons.mpr ⟨List.not_mem_nil, List.nodup_nil⟩, fun u hu v hv e => ?_⟩, fun x hx => ?_⟩
        · rw [List.mem_singleton.mp hv] at e
          rw [e] at hu
          exact ((zl_er_mem hd).mp hu).1 rfl
        · exact (List.mem_append.mp hx).imp (fun z => List.mem_of_mem_erase z) (fun z => List.mem_singleton.mp z)
      · exact ⟨l, if_neg f, hd, fun x hx => Or.inl hx⟩
    rw [el1] at L1
    have hb1 : ∀ x ∈ l1, x < 10 := fun x hx => by
      rcases m1 x hx with h | h
      · exact hb x h
      · rw [h]; exact hk
    have hKO1 : ∀ x, x < 10 → μ1 234 x = K x ∧ μ1 237 x = O x := fun x hx => by
      rw [f1 _ _ (by decide) (by omega), f1 _ _ (by decide) (by omega)]; exact hKO x hx
    obtain ⟨L', h', s2, rfl, nl, g0, g1, g5, g2, W, g3, hW⟩ := zv_raise1 (μ := μ1) (D + 1) hk L1 hb1 (fun x hx e => by
      rw [(hKO1 x (hb1 x hx)).1] at e
      rw [(hKO1 x (hb1 x hx)).2]
      exact ho x (hb1 x hx) e)
    have e0 : l1.filter (fun x => decide (μ1 234 x = 3 ∧ μ1 237 x = nI k)) = [] := by
      refine List.eq_nil_iff_forall_not_mem.mpr fun x hx => ?_
      obtain ⟨h1, h2⟩ := List.mem_filter.mp hx
      have hx10 := hb1 x h1
      have h2 := of_decide_eq_true h2
      rw [(hKO1 x hx10).1, (hKO1 x hx10).2] at h2
      have := hr x k hx10 hk h2.1 h2.2
      have := hB x hx10
      omega
    have e1 : zl_rz fl ow (0 + 1) k l = l1 := by
      show ((if fl k = true then l.erase k ++ [k] else l).filter (ow k)).foldl (fun S c => zl_rz fl ow 0 c S) (if fl k = true then l.erase k ++ [k] else l) = l1
      rw [el1]
      have : ∀ (E S : List Nat), E.foldl (fun S c => zl_rz fl ow 0 c S) S = S := fun E => by
        induction E with
        | nil => intro S; rfl
        | cons a E ih => intro S; exact ih S
      exact this _ _
    rw [e0] at g2
    rw [e1]
    have c1 : nI ([] : List Nat).length ≤ nI 0 := by decide
    refine ⟨μ1, ze_in [(0, .ref 232), (1, .int (nI k))] zq_Mod_raise (Nat.le_of_ble_eq_true rfl) rfl ((s1.trans s2).end ⟨0, 4, fun F m hF => ?_⟩), L1, f1⟩
    simp [zi_go, zf_X6_raise, zi_ask, zi_new, zi_step, zi_ld, zi_lda, zi_cmp, zi_retOk, zi_isI, zi_f3, zi_cr, zi_ci, zi_cn, g5, g2, c1]
  | succ n ih =>
    intro k D hk hn μ l hKO hL hd hb ho
    obtain ⟨μ1, s1, L1, f1⟩ := zv_raise0_v (fl := fl) (μ := μ) (D + 1 + n) hk hL hd hb (by rw [(hKO k hk).1]; exact hfl k hk)
    obtain ⟨l1, el1, d1, m1⟩ : ∃ l1, (if fl k = true then l.erase k ++ [k] else l) = l1 ∧ l1.Nodup ∧ ∀ x, x ∈ l1 → x ∈ l ∨ x = k := by
      by_cases f : fl k = true
      · refine ⟨l.erase k ++ [k], if_pos f, List.nodup_append.mpr ⟨hd.erase k, List.nodup_cons.mpr ⟨List.not_mem_nil, List.nodup_nil⟩, fun u hu v hv e => ?_⟩, fun x hx => ?_⟩
        · rw [List.mem_singleton.mp hv] at e
          rw [e] at hu
          exact ((zl_er_mem hd).mp hu).1 rfl
        · exact (List.mem_append.mp hx).imp (fun z => List.mem_of_mem_erase z) (fun z => List.mem_singleton.mp z)
      · exact ⟨l, if_neg f, hd, fun x hx => Or.inl hx⟩
    rw [el1] at L1
    have eD : D + 1 + n + 1 = D + 2 + n := by omega
    rw [eD] at s1
    have hb1 : ∀ x ∈ l1, x < 10 := fun x hx => by
      rcases m1 x hx with h | h
      · exact hb x h
      · rw [h]; exact hk
    have hKO1 : ∀ x, x < 10 → μ1 234 x = K x ∧ μ1 237 x = O x := fun x hx => by
      rw [f1 _ _ (by decide) (by omega), f1 _ _ (by decide) (by omega)]; exact hKO x hx
    obtain ⟨L', h', s2, rfl, nl, g0, g1, g5, g2, W, g3, hW⟩ := zv_raise1 (μ := μ1) (D + 2 + n) hk L1 hb1 (fun x hx e => by
      rw [(hKO1 x (hb1 x hx)).1] at e
      rw [(hKO1 x (hb1 x hx)).2]
      exact ho x (hb1 x hx) e)
    have hc : ∀ x ∈ l1.filter (fun x => decide (μ1 234 x = 3 ∧ μ1 237 x = nI k)), x ∈ l1 ∧ x < 10 ∧ B - rk x ≤ n := fun x hx => by
      obtain ⟨h1, h2⟩ := List.mem_filter.mp hx
      have hx10 := hb1 x h1
      have h2 := of_decide_eq_true h2
      rw [(hKO1 x hx10).1, (hKO1 x hx10).2] at h2
      have := hr x k hx10 hk h2.1 h2.2
      have := hB x hx10
      exact ⟨h1, hx10, by omega⟩
    have ec : l1.filter (ow k) = l1.filter (fun x => decide (μ1 234 x = 3 ∧ μ1 237 x = nI k)) := List.filter_congr (fun x hx => by
      have hx := hb1 x hx
      rw [(hKO1 x hx).1, (hKO1 x hx).2, Bool.eq_iff_iff, decide_eq_true_iff]
      exact how k x hk hx)
    have e1 : zl_rz fl ow (n + 1 + 1) k l = (l1.filter (ow k)).foldl (fun S c => zl_rz fl ow (n + 1) c S) l1 := by
      rw [← el1]
      rfl
    rw [e1, ec]
    have hcl : (l1.filter (fun x => decide (μ1 234 x = 3 ∧ μ1 237 x = nI k))).length ≤ 10 := Nat.le_trans (List.length_filter_le _ _) L1.1
    generalize l1.filter (fun x => decide (μ1 234 x = 3 ∧ μ1 237 x = nI k)) = c at *
    have key := ze_loop (D := D + 2 + n) (nL := 6) (ret := none) (code0 := zc_X6_raise) (pc := 108) (Q := fun i L hp => zi_n3 L = true ∧ zi_get L 0 = some (.ref 232) ∧ zi_get L 1 = some (.int (nI k)) ∧ zi_get L 5 = some (.int (nI i)) ∧ zi_get L 2 = some (.int (nI c.length)) ∧ zi_get L 3 = some (.long W) ∧ ∃ ξ, zm_mk ξ = hp ∧ zv_L ξ 241 10 ((c.take i).foldl (fun S c => zl_rz fl ow (n + 1) c S) l1) ∧ ∀ c d, c ≠ 241 → ¬ (c = 231 ∧ d = 10) → ξ c d = μ1 c d)
      (R := fun r h' => r = none ∧ ∃ ξ, zm_mk ξ = h' ∧ zv_L ξ 241 10 (c.foldl (fun S c => zl_rz fl ow (n + 1) c S) l1) ∧ ∀ c d, c ≠ 241 → ¬ (c = 231 ∧ d = 10) → ξ c d = μ1 c d) c.length ?_ ?_ c.length 0 L' (zm_mk μ1) (by omega) ⟨nl, g0, g1, g5, g2, g3, μ1, rfl, L1, fun _ _ _ _ => rfl⟩
    · obtain ⟨r, h', G, rfl, ν, rfl, a1, a4⟩ := key
      refine ⟨ν, ze_in [(0, .ref 232), (1, .int (nI k))] zq_Mod_raise (Nat.le_of_ble_eq_true rfl) rfl ((s1.trans s2).end G), a1, fun c d h1 h2 => (a4 c d h1 h2).trans (f1 c d h1 h2)⟩
    · rintro i L _ hi ⟨nl, g0, g1, g5, g2, g3, ξ, rfl, a1, a4⟩
      left
      obtain ⟨a2, a3⟩ := zl_rz_fold (fl := fl) (ow := ow) (n := n + 1) (c.take i) l1 d1
      have etk : c.take (i + 1) = c.take i ++ [c.getD i 0] := zl_take hi
      have c1 : ¬ nI c.length ≤ nI i := nI_ge hi (by omega)
      have m4 : (4 : Int32) * nI i = nI (4 * i) := by
        have : ∀ n, n < 10 → (4 : Int32) * nI n = nI (4 * n) := by decide
        exact this _ (by omega)
      have hdec := zv_dec hW (fun y hy => (hc y hy).2.1) hcl hi
      obtain ⟨x1, x2, x3⟩ := hc _ (zl_mem hi)
      generalize c.getD i 0 = x at hdec x1 x2 x3 etk
      obtain ⟨ν, ⟨N1, E1⟩, b1, b4⟩ := ih x D x2 x3 ξ _ (fun y hy => by rw [a4 _ _ (by decide) (by omega), a4 _ _ (by decide) (by omega)]; exact hKO1 y hy) a1 a2 (fun y hy => (a3 y hy).elim (hb1 y) (fun z => (hc y (List.mem_of_mem_take z.2)).2.1)) ho
      obtain ⟨lc, cM⟩ := zM_c (μ := ξ)
      generalize hV : ((W >>> ((nI (4 * i)).toInt64 &&& 63)) &&& 15) = V at hdec
      have h15 : Int64.ofInt 15 = 15 := by decide
      refine ⟨zi_set L 5 (.int (nI (i + 1))), zm_mk ν, ⟨N1, 15, fun F m hF => ?_⟩, ?_, ?_, ?_, zi_get_set_eq, ?_, ?_, ν, rfl, ?_, fun c d h1 h2 => (b4 c d h1 h2).trans (a4 c d h1 h2)⟩
      · simp (maxDischargeDepth := 9) [zi_go, zf_X6_raise, zi_ask, zi_new, zi_step, zi_ld, zi_lda, zi_cmp, zi_retOk, zi_isI, zi_f3, zi_cr, zi_ci, zi_cn, zi_g3_ne, zi_n3_i, zi_get_set_eq, nl, g0, g1, g5, g2, g3, c1, m4, h15, hV, hdec, zq_Mod_raise, cM, E1 F (by omega), nI_add, nI_1]
      · simp (maxDischargeDepth := 9) [zi_g3_ne, zi_n3_i, zi_get_set_eq, nl]
      · simp (maxDischargeDepth := 9) [zi_g3_ne, zi_n3_i, zi_get_set_eq, nl, g0]
      · simp (maxDischargeDepth := 9) [zi_g3_ne, zi_n3_i, zi_get_set_eq, nl, g1]
      · simp (maxDischargeDepth := 9) [zi_g3_ne, zi_n3_i, zi_get_set_eq, nl, g2]
      · simp (maxDischargeDepth := 9) [zi_g3_ne, zi_n3_i, zi_get_set_eq, nl, g3]
      · rw [etk, List.foldl_append, List.foldl_cons, List.foldl_nil]
        exact b1
    · rintro L _ ⟨nl, g0, g1, g5, g2, g3, ξ, rfl, a1, a4⟩
      rw [List.take_length] at a1
      have c1 : nI c.length ≤ nI c.length := Int32.le_refl _
      refine ⟨none, zm_mk ξ, ⟨0, 4, fun F m hF => ?_⟩, rfl, ξ, rfl, a1, a4⟩
      simp [zi_go, zf_X6_raise, zi_ask, zi_new, zi_step, zi_ld, zi_lda, zi_cmp, zi_retOk, zi_isI, zi_f3, zi_cr, zi_ci, zi_cn, g5, g2, c1]
end ZGM
section ZGN
variable {μ : zm_M} {rk : Nat → Nat} {fl : Nat → Bool} {ow : Nat → Nat → Bool}
/-- the reference's windows as fl and ow have them -/
def zv_flow (μ : zm_M) (fl : Nat → Bool) (ow : Nat → Nat → Bool) : Prop := (∀ x, x < 10 → (fl x = true ↔ 2 ≤ μ 234 x)) ∧ ∀ a x, a < 10 → x < 10 → (ow a x = true ↔ μ 234 x = 3 ∧ μ 237 x = nI a)
theorem ze_MraiseR_v (D : Nat) (h : zv_rk μ rk) (hw : zv_flow μ fl ow) {k : Nat} (hk : k < 10) {l : List Nat} (hL : zv_L μ 241 10 l) (hd : l.Nodup) (hb : ∀ x ∈ l, x < 10) :
    ∃ ν, ze_E (D + 11) A_Mod_raise [.ref 232, .int (nI k)] (zm_mk μ) none (zm_mk ν) ∧ zv_L ν 241 10 (zl_rz fl ow 10 k l) ∧ ∀ c d, c ≠ 241 → ¬ (c = 231 ∧ d = 10) → ν c d = μ c d :=
  ze_Mraise_v (rk := rk) (B := 9) (K := μ 234) (O := μ 237) hw.1 hw.2 h.1 (fun o k ho hk e1 e2 => by
    obtain ⟨p, hp, e3, h3⟩ := h.2 o ho e1
    have : p = k := (nI_eq (by omega) (by omega)).mp (e3.symm.trans e2)
    rw [← this]; exact h3) 9 k D hk (by omega) μ l (fun x _ => ⟨rfl, rfl⟩) hL hd hb (fun x hx e => by
    obtain ⟨p, hp, e3, -⟩ := h.2 x hx e
    exact ⟨p, hp, e3⟩)
set_option maxRecDepth 100000 in
theorem ze_Mfocused_f_v (D : Nat) (h : zv_rk μ rk) (hw : zv_flow μ fl ow) {k : Nat} (hk : k < 10) (hkind : ¬ μ 234 k = 1) {l r : List Nat} (hL : zv_L μ 241 10 l) (hd : l.Nodup) (hb : ∀ x ∈ l, x < 10) (hR : zv_L μ 242 12 r) (rd : r.Nodup) (rb : ∀ x ∈ r, x < 10) :
    ∃ ν, ze_E (D + 12) A_Mod_focused [.ref 232, .int (nI k)] (zm_mk μ) none (zm_mk ν) ∧ zv_L ν 241 10 (zl_rz fl ow 10 k l) := by
  obtain ⟨lc, cM⟩ := zM_c (μ := μ)
  have ik : zi_in (nI k) 10 = true := zm_in hk (by decide)
  have ck : (nI k).toNatClampNeg = k := nI_clamp (by omega)
  obtain ⟨μ1, ⟨N1, E1⟩, ⟨p1, p2, p3⟩, f1⟩ := ze_Mfront (μ := μ) (D + 10) hk hR rd rb
  obtain ⟨lc1, cM1⟩ := zM_c (μ := μ1)
  have e4 : ∀ x, μ1 234 x = μ 234 x := fun x => f1 _ _ (by decide) (by omega)
  have e7 : ∀ x, μ1 237 x = μ 237 x := fun x => f1 _ _ (by decide) (by omega)
  have h1 : zv_rk μ1 rk := ⟨h.1, fun x hx e => by rw [e7]; rw [e4] at e; exact h.2 x hx e⟩
  have hL1 : zv_L μ1 241 10 l := ⟨hL.1, (f1 _ _ (by decide) (by omega)).trans hL.2.1, fun j hj => (f1 _ _ (by decide) (by omega)).trans (hL.2.2 j hj)⟩
  obtain ⟨ν, ⟨N2, E2⟩, b1, -⟩ := ze_MraiseR_v (fl := fl) (ow := ow) (μ := μ1) D h1 ⟨fun x hx => by rw [e4]; exact hw.1 x hx, fun a x ha hx => by rw [e4, e7]; exact hw.2 a x ha hx⟩ hk hL1 hd hb
  refine ⟨ν, ze_in [(0, .ref 232), (1, .int (nI k))] zq_Mod_focused (Nat.le_of_ble_eq_true rfl) rfl ⟨N1 + N2, 13, fun F m hF => ?_⟩, b1⟩
  simp [zi_go, zf_X6_focused, zi_ask, zi_new, zi_step, zi_ld, zi_lda, zi_cmp, zi_retOk, zi_isI, zi_f3, zi_cr, zi_ci, zi_cn, zi_get, zi_set, zM_g, cM, cM1, zq_Mod_front, zq_Mod_raise, E1 F (by omega), E2 F (by omega), zm_iald (k := 0) zM_A234 ik, ck, e4, hkind]
set_option maxRecDepth 100000 in
theorem ze_Mfocused_t_v (D : Nat) (h : zv_rk μ rk) (hw : zv_flow μ fl ow) {k s m : Nat} (hk : k < 10) (hkind : μ 234 k = 1) (hs : s < 3) (hhome : μ 238 k = nI s) {u : zy_F} {ab : Nat → Int32} (hI : zu_I μ s u ab) (hat : zu_at μ s u k m) {l r : List Nat} (hL : zv_L μ 241 10 l) (hd : l.Nodup) (hb : ∀ x ∈ l, x < 10) (hR : zv_L μ 242 12 r) (rd : r.Nodup) (rb : ∀ x ∈ r, x < 10) :
    ∃ ν, ze_E (D + 12) A_Mod_focused [.ref 232, .int (nI k)] (zm_mk μ) none (zm_mk ν) ∧ zv_L ν 241 10 (zl_rz fl ow 10 k l) := by
  obtain ⟨lc, cM⟩ := zM_c (μ := μ)
  have hm24 := zu_I_lt hI hat.1
  have ik : zi_in (nI k) 10 = true := zm_in hk (by decide)
  have ck : (nI k).toNatClampNeg = k := nI_clamp (by omega)
  have im : zi_in (nI (24 * s + m)) 168 = true := zm_in (by omega) (by decide)
  have cm : (nI (24 * s + m)).toNatClampNeg = 24 * s + m := nI_clamp (by omega)
  obtain ⟨μ1, ⟨N1, E1⟩, ⟨p1, p2, p3⟩, f1⟩ := ze_Mfront (μ := μ) (D + 10) hk hR rd rb
  obtain ⟨lc1, cM1⟩ := zM_c (μ := μ1)
  have e4 : ∀ x, μ1 234 x = μ 234 x := fun x => f1 _ _ (by decide) (by omega)
  have e7 : ∀ x, μ1 237 x = μ 237 x := fun x => f1 _ _ (by decide) (by omega)
  have e8 : μ1 238 k = nI s := (f1 _ _ (by decide) (by omega)).trans hhome
  have e4' : μ1 234 k = 1 := (e4 k).trans hkind
  have hq : zu_eqT μ s μ1 s := ⟨f1 _ _ (by decide) (by omega), fun c n hc _ => f1 _ _ (by rintro rfl; revert hc; decide) (by rintro ⟨rfl, -⟩; revert hc; decide), fun n j _ _ => f1 _ _ (by decide) (by omega)⟩
  have hI1 := hq.I hI
  have hat1 : zu_at μ1 s u k m := ⟨hat.1, by rw [hq.tb hm24 (zu_I_tbl hI hat.1)]; exact hat.2.1, fun n hn g => hat.2.2 n hn (by rw [hq.tb (zu_I_lt hI hn) (zu_I_tbl hI hn)] at g; exact g)⟩
  obtain ⟨N3, E3⟩ := ze_MleafOf_at (μ := μ1) (D + 8) (by omega) hI1 hk hat1
  obtain ⟨N4, E4⟩ := ze_spot (h := zm_mk μ1) (n := m) (D + 10) (t := s) (by omega)
  have h1 : zv_rk (zm_up μ1 250 (24 * s + m) (nI k)) rk := ⟨h.1, fun x hx e => by rw [zm_up_ne (by omega), e7]; rw [zm_up_ne (by omega), e4] at e; exact h.2 x hx e⟩
  have hL1 : zv_L (zm_up μ1 250 (24 * s + m) (nI k)) 241 10 l := ⟨hL.1, (zm_up_ne (by omega)).trans ((f1 _ _ (by decide) (by omega)).trans hL.2.1), fun j hj => (zm_up_ne (by omega)).trans ((f1 _ _ (by decide) (by omega)).trans (hL.2.2 j hj))⟩
  obtain ⟨ν, ⟨N2, E2⟩, b1, -⟩ := ze_MraiseR_v (fl := fl) (ow := ow) (μ := zm_up μ1 250 (24 * s + m) (nI k)) D h1 ⟨fun x hx => by rw [zm_up_ne (by omega), e4]; exact hw.1 x hx, fun a x ha hx => by rw [zm_up_ne (by omega), zm_up_ne (by omega), e4, e7]; exact hw.2 a x ha hx⟩ hk hL1 hd hb
  obtain ⟨lc2, cM2⟩ := zM_c (μ := zm_up μ1 250 (24 * s + m) (nI k))
  refine ⟨ν, ze_in [(0, .ref 232), (1, .int (nI k))] zq_Mod_focused (Nat.le_of_ble_eq_true rfl) rfl ⟨N1 + N2 + N3 + N4, 29, fun F mm hF => ?_⟩, b1⟩
  simp [zi_go, zf_X6_focused, zi_ask, zi_new, zi_step, zi_ld, zi_lda, zi_cmp, zi_retOk, zi_isI, zi_f3, zi_cr, zi_ci, zi_cn, zi_get, zi_set, zM_g, cM, cM1, cM2, zq_Mod_front, zq_Mod_raise, zq_Mod_leafOf, zq_Mod_spot, E1 F (by omega), E2 F (by omega), E3 F (by omega), E4 F (by omega), zm_iald (k := 0) zM_A234 ik, zm_iald (k := 0) zM_A238 ik, ck, e4', e8, zm_iast zM_A250 im, cm]
end ZGN
