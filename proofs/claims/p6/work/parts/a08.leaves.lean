/-! the reference: the leaves in order -/
/-- the numbers l stand in the row of leaves from k on -/
def zu_app (μ : zm_M) (k : Nat) (l : List Nat) (ν : zm_M) : Prop := ν 231 30 = nI (k + l.length) ∧ (∀ j, j < l.length → ν 259 (k + j) = nI (l.getD j 0)) ∧ ∀ c d, ¬ (c = 231 ∧ d = 30) → ¬ (c = 259 ∧ k ≤ d ∧ d < k + l.length) → ν c d = μ c d
section ZUV
variable {τ : Nat} {ab : Nat → Int32}
theorem zu_app_app {μ ν ξ : zm_M} {k : Nat} {l l' : List Nat} (h : zu_app μ k l ν) (g : zu_app ν (k + l.length) l' ξ) : zu_app μ k (l ++ l') ξ := by
  obtain ⟨h1, h2, h3⟩ := h
  obtain ⟨g1, g2, g3⟩ := g
  refine ⟨?_, fun j hj => ?_, fun c d q1 q2 => ?_⟩
  · rw [g1, List.length_append, Nat.add_assoc]
  · rw [List.length_append] at hj
    by_cases e : j < l.length
    · rw [g3 _ _ (by omega) (by omega), zl_getD_l e]
      exact h2 j e
    · rw [zl_getD_r (by omega)]
      have := g2 (j - l.length) (by omega)
      rw [show k + l.length + (j - l.length) = k + j by omega] at this
      exact this
  · rw [List.length_append] at q2
    rw [g3 c d q1 (by omega), h3 c d q1 (by omega)]
theorem zu_app_1 {μ : zm_M} {k n : Nat} : zu_app μ k [n] (zm_up (zm_up μ 259 k (nI n)) 231 30 (nI (k + 1))) := by
  refine ⟨zm_up_eq, fun j hj => ?_, fun c d q1 q2 => ?_⟩
  · have : j = 0 := by simpa using hj
    subst this
    rw [zm_up_ne (by omega), zm_up_pt, if_pos (by omega)]
    rfl
  · rw [zm_up_ne q1, zm_up_ne (fun q => q2 ⟨q.1, by omega, by rw [List.length_singleton]; omega⟩)]
/-- the cells of trees stay -/
theorem zu_app.tree {μ ν : zm_M} {k c d : Nat} {l : List Nat} (h : zu_app μ k l ν) (h1 : c ≠ 231) (h2 : c ≠ 259) : ν c d = μ c d := h.2.2 c d (by omega) (by omega)
theorem zu_ok_cells {μ ν : zm_M} {c : zy_F} (hw : zy_wf c) (hd : (zy_ids c).Nodup) (h : ∀ x d, (x = 244 ∨ x = 245 ∨ x = 246) → ν x d = μ x d) (ok : zu_ok μ τ ab c) : zu_ok ν τ ab c := by
  refine zy_ok_congr c hw hd (fun x _ => ?_) (fun x _ => ⟨h _ _ (by simp), h _ _ (by simp)⟩) (fun _ _ _ => rfl) ok
  unfold zu_fm
  rw [h _ _ (by simp)]
set_option maxRecDepth 100000 in
theorem ze_MfindLeaves (ht : τ < 7) : ∀ c, zy_wf c → ∀ (μ : zm_M) (k D : Nat), zu_ok μ τ ab c → (zy_ids c).Nodup → (∀ n ∈ zy_ids c, n < 24) → μ 231 30 = nI k → k + (zy_lvs c).length ≤ 24 →
    ∃ ν, ze_E (D + 1 + (zy_ids c).length) A_Mod_findLeaves [.ref 232, .int (nI τ), .int (nI (zy_id c))] (zm_mk μ) none (zm_mk ν) ∧ zu_app μ k (zy_lvs c) ν := by
  apply zy_ind
  · intro n μ k D ok hd hlt hk hle
    have hn : n < 24 := hlt n List.mem_cons_self
    have hle : k + 1 ≤ 24 := hle
    have e1 := zu_fm_leaf (μ := μ) (τ := τ) ok
    obtain ⟨N0, E0⟩ := ze_spot (h := zm_mk μ) (n := n) D ht
    have ia : zi_in (nI (24 * τ + n)) 168 = true := zm_in (by omega) (by decide)
    have ca : (nI (24 * τ + n)).toNatClampNeg = 24 * τ + n := nI_clamp (by omega)
    have ik : zi_in (nI k) 24 = true := zm_in (by omega) (by decide)
    have ck : (nI k).toNatClampNeg = k := nI_clamp (by omega)
    have hk' : zm_up μ 259 k (nI n) 231 30 = nI k := (zm_up_ne (by omega)).trans hk
    refine ⟨_, ze_in [(0, .ref 232), (1, .int (nI τ)), (2, .int (nI n))] zq_Mod_findLeaves (Nat.le_of_ble_eq_true rfl) rfl ⟨N0, 22, fun F m hF => ?_⟩, zu_app_1⟩
    have E0 := E0 F (by omega)
    simp [zg_0, zg_aload_n, zg_dup, zg_getfield, zg_goto, zg_iadd, zg_iaload, zg_iastore, zg_iconst, zg_if_icmp, zg_iload_n, zg_invokestatic, zg_invokevirtual, zg_putfield, zg_return, zf_X6_findLeaves, zi_ld, zi_lda, zi_cmp, zi_retOk, zi_isI, zi_f3, zi_cr, zi_ci, zi_cn, zi_get, zi_set, zM_g, zq_Mod_spot, E0, zm_iald (k := 0) zM_A244 ia, ca, e1, hk, zm_iast zM_A259 ik, ck, hk', nI_1, zM_p30, zy_ids]
  · intro n x y wx wy ihx ihy μ k D ok hd hlt hk hle
    obtain ⟨⟨q1, q2, q3, -, -⟩, okx, oky⟩ := ok
    have q2 : μ 245 (24 * τ + n) = nI (zy_id x) := q2
    have q3 : μ 246 (24 * τ + n) = nI (zy_id y) := q3
    have hd' : (n :: (zy_ids x ++ zy_ids y)).Nodup := hd
    obtain ⟨-, hd2⟩ := List.nodup_cons.mp hd'
    obtain ⟨dx, dy, -⟩ := List.nodup_append.mp hd2
    have hn : n < 24 := hlt n List.mem_cons_self
    have hx : zy_id x < 24 := hlt _ (List.mem_cons_of_mem _ (List.mem_append_left _ (zy_id_mem wx)))
    have hy : zy_id y < 24 := hlt _ (List.mem_cons_of_mem _ (List.mem_append_right _ (zy_id_mem wy)))
    have ev : zy_lvs (.append (.tag n x) y) = zy_lvs x ++ zy_lvs y := rfl
    rw [ev, List.length_append] at hle
    have el : (zy_ids (.append (.tag n x) y)).length = (zy_ids x).length + (zy_ids y).length + 1 := by
      show (n :: (zy_ids x ++ zy_ids y)).length = _
      rw [List.length_cons, List.length_append]
    obtain ⟨ν, E1, A1⟩ := ihx μ k (D + (zy_ids y).length) okx dx (fun m hm => hlt m (List.mem_cons_of_mem _ (List.mem_append_left _ hm))) hk (by omega)
    obtain ⟨ξ, E2, A2⟩ := ihy ν (k + (zy_lvs x).length) (D + (zy_ids x).length) (zu_ok_cells wy dy (fun c d h => A1.tree (by omega) (by omega)) oky) dy (fun m hm => hlt m (List.mem_cons_of_mem _ (List.mem_append_right _ hm))) A1.1 (by omega)
    rw [show D + (zy_ids y).length + 1 + (zy_ids x).length = D + (zy_ids x).length + (zy_ids y).length + 1 by omega] at E1
    rw [show D + (zy_ids x).length + 1 + (zy_ids y).length = D + (zy_ids x).length + (zy_ids y).length + 1 by omega] at E2
    rw [el, show D + 1 + ((zy_ids x).length + (zy_ids y).length + 1) = D + (zy_ids x).length + (zy_ids y).length + 1 + 1 by omega]
    obtain ⟨N1, E1⟩ := E1
    obtain ⟨N2, E2⟩ := E2
    obtain ⟨N0, E0⟩ := ze_spot (h := zm_mk μ) (n := n) (D + (zy_ids x).length + (zy_ids y).length) ht
    obtain ⟨N3, E3⟩ := ze_spot (h := zm_mk ν) (n := n) (D + (zy_ids x).length + (zy_ids y).length) ht
    have ia : zi_in (nI (24 * τ + n)) 168 = true := zm_in (by omega) (by decide)
    have ca : (nI (24 * τ + n)).toNatClampNeg = 24 * τ + n := nI_clamp (by omega)
    obtain ⟨lm, cm⟩ := zM_c (μ := μ)
    obtain ⟨ln, cn⟩ := zM_c (μ := ν)
    have q3' : ν 246 (24 * τ + n) = nI (zy_id y) := (A1.tree (by decide) (by decide)).trans q3
    have e4 : ¬ μ 244 (24 * τ + n) = 1 := by
      rcases zu_fm_cut q1 with ⟨-, e⟩ | ⟨-, e⟩ <;> rw [e] <;> decide
    refine ⟨ξ, ?_, zu_app_app A1 A2⟩
    show ze_E _ A_Mod_findLeaves [.ref 232, .int (nI τ), .int (nI n)] _ _ _
    refine ze_in [(0, .ref 232), (1, .int (nI τ)), (2, .int (nI n))] zq_Mod_findLeaves (Nat.le_of_ble_eq_true rfl) rfl ⟨N0 + N1 + N2 + N3, 27, fun F m hF => ?_⟩
    simp [zg_0, zg_aload_n, zg_dup, zg_getfield, zg_goto, zg_iadd, zg_iaload, zg_iastore, zg_iconst, zg_if_icmp, zg_iload_n, zg_invokestatic, zg_invokevirtual, zg_putfield, zg_return, zf_X6_findLeaves, zi_ld, zi_lda, zi_cmp, zi_retOk, zi_isI, zi_f3, zi_cr, zi_ci, zi_cn, zi_get, zi_set, zM_g, zq_Mod_spot, E0 F (by omega), E3 F (by omega), zm_iald (k := 0) zM_A244 ia, zm_iald (k := 0) zM_A245 ia, zm_iald (k := 0) zM_A246 ia, ca, e4, q2, q3', zq_Mod_findLeaves, cm, cn, E1 F (by omega), E2 F (by omega)]
/-- the leaves of a tree, each once -/
theorem zu_lvs_nodup {μ : zm_M} {u : zy_F} (hI : zu_I μ τ u ab) : (zy_lvs u).Nodup ∧ (∀ n ∈ zy_lvs u, n < 24) ∧ (zy_lvs u).length ≤ 24 := by
  have h1 : (zy_lvs u).Nodup := by
    rcases hI.1 with ⟨rfl, -⟩ | ⟨w, -⟩
    · exact List.nodup_nil
    · exact zy_lvs_nodup u w hI.2.1
  have h2 : ∀ n ∈ zy_lvs u, n < 24 := fun n hn => hI.2.2.1 n (zu_I_lv hI hn).2
  exact ⟨h1, h2, zy_nodup_le 24 _ h1 h2⟩
/-- the row of leaves is l -/
def zu_lv (μ : zm_M) (l : List Nat) : Prop := μ 231 30 = nI l.length ∧ ∀ j, j < l.length → μ 259 j = nI (l.getD j 0)
def zu_frv (μ ν : zm_M) : Prop := ∀ c d, ¬ (c = 231 ∧ d = 30) → c ≠ 259 → ν c d = μ c d
set_option maxRecDepth 100000 in
theorem ze_MclearLeaves {μ : zm_M} {u : zy_F} (D : Nat) (ht : τ < 7) (hI : zu_I μ τ u ab) : ∃ ν, ze_E (D + 26) A_Mod_clearLeaves [.ref 232, .int (nI τ)] (zm_mk μ) none (zm_mk ν) ∧ zu_lv ν (zy_lvs u) ∧ zu_frv μ ν := by
  have it : zi_in (nI τ) 7 = true := zm_in ht (by decide)
  have ct : (nI τ).toNatClampNeg = τ := nI_clamp (by omega)
  have r0 : zm_up μ 231 30 0 243 τ = μ 243 τ := zm_up_ne (by omega)
  rcases hI.1 with ⟨rfl, hr⟩ | ⟨wt, ok, hr, -⟩
  · have c : (-1 : Int32) < 0 := by decide
    refine ⟨zm_up μ 231 30 0, ze_in [(0, .ref 232), (1, .int (nI τ))] zq_Mod_clearLeaves (Nat.le_of_ble_eq_true rfl) rfl ⟨0, 9, fun F m hF => ?_⟩, ⟨zm_up_eq, fun j hj => by cases hj⟩, fun c d h _ => zm_up_ne h⟩
    rw [hr] at r0
    simp [zg_0, zg_aload_n, zg_getfield, zg_iaload, zg_iconst, zg_ifCond, zg_iload_n, zg_invokevirtual, zg_putfield, zg_return, zf_X6_clearLeaves, zi_ld, zi_lda, zi_cmp, zi_retOk, zi_isI, zi_f3, zi_cr, zi_ci, zi_cn, zi_get, zi_set, zM_g, zM_p30, zm_iald (k := 0) zM_A243 it, ct, r0, c]
  · have hl := zy_nodup_le 24 (zy_ids u) hI.2.1 hI.2.2.1
    obtain ⟨-, -, hl2⟩ := zu_lvs_nodup hI
    obtain ⟨ν, E, A⟩ := ze_MfindLeaves ht u wt (zm_up μ 231 30 0) 0 (D + 24 - (zy_ids u).length) (zu_ok_cells wt hI.2.1 (fun x d h => zm_up_ne (by omega)) ok) hI.2.1 hI.2.2.1 zm_up_eq (by omega)
    rw [show D + 24 - (zy_ids u).length + 1 + (zy_ids u).length = D + 25 by omega] at E
    obtain ⟨N1, E⟩ := E
    obtain ⟨a1, a2, a3⟩ := A
    rw [Nat.zero_add] at a1 a3
    have hid : zy_id u < 24 := hI.2.2.1 _ (zy_id_mem wt)
    have c0 : ¬ nI (zy_id u) < 0 := nI_pos (by omega)
    refine ⟨ν, ze_in [(0, .ref 232), (1, .int (nI τ))] zq_Mod_clearLeaves (Nat.le_of_ble_eq_true rfl) rfl ⟨N1, 16, fun F m hF => ?_⟩, ⟨a1, fun j hj => ?_⟩, fun c d h h2 => ?_⟩
    · rw [hr] at r0
      obtain ⟨lm, cm⟩ := zM_c (μ := zm_up μ 231 30 0)
      simp [zg_0, zg_aload_n, zg_getfield, zg_iaload, zg_iconst, zg_ifCond, zg_iload_n, zg_invokevirtual, zg_putfield, zg_return, zf_X6_clearLeaves, zi_ld, zi_lda, zi_cmp, zi_retOk, zi_isI, zi_f3, zi_cr, zi_ci, zi_cn, zi_get, zi_set, zM_g, zM_p30, zm_iald (k := 0) zM_A243 it, ct, r0, c0, zq_Mod_findLeaves, cm, E F (by omega)]
    · have := a2 j hj
      rwa [Nat.zero_add] at this
    · rw [a3 c d h (fun q => h2 q.1), zm_up_ne h]
/-- the tree stands -/
theorem zu_frv.eqT {μ ν : zm_M} (h : zu_frv μ ν) : zu_eqT μ τ ν τ := ⟨h _ _ (by omega) (by decide), fun c n hc _ => h _ _ (by rintro ⟨rfl, -⟩; revert hc; decide) (by rintro rfl; revert hc; decide), fun n j _ _ => h _ _ (by omega) (by decide)⟩
end ZUV
