/-! the desk: open -/
section ZO6
variable {μ ν : zm_M} {row stk : List Nat} {Rs : Nat → List Nat} {ts : Nat → zy_F}
theorem zt_I_nil {T : Nat} {R : List Nat} (h : zt_I μ T R .nil) : R = [] := by
  cases R with
  | nil => rfl
  | cons k l =>
    obtain ⟨n, hn, -⟩ := h.2.2.2.1 k List.mem_cons_self
    cases hn
/-- the new window's number is prepared; the trees are laid -/
def zd_prep (μ ξ : zm_M) (Rs : Nat → List Nat) (ts : Nat → zy_F) (k : Nat) (kd w v o : Int32) : Prop :=
  (∀ c, ¬ zJ_irr c → c ≠ zdW k → c ≠ zdW k + 1 → ξ c = μ c) ∧ ξ (zdW k) 2 = μ (zdW k) 2 ∧ ξ (zdW k) 3 = kd ∧ ξ (zdW k) 4 = o ∧ ξ (zdW k + 1) 0 = w ∧ ξ (zdW k + 1) 1 = v ∧ ∀ q, q < 3 → zd_laid ξ q (Rs q) (ts q)
/-- the window k has come to the screen s -/
def zd_came (μ ν : zm_M) (k s : Nat) (kd w v o : Int32) : Prop :=
  (∀ c, ¬ zJ_irr c → c ≠ zdW k → c ≠ zdW k + 1 → (kd = 1 → zt_out (zdT s) c) → ν c = μ c) ∧ ν (zdW k) 2 = 1 ∧ ν (zdW k) 3 = kd ∧ ν (zdW k) 4 = o ∧ (¬ kd = 4 → ν (zdW k) 5 = nI s) ∧ ν (zdW k + 1) 0 = w ∧ ν (zdW k + 1) 1 = v
def zd_upd {α : Type} (f : Nat → α) (s : Nat) (x : α) : Nat → α := fun q => if q = s then x else f q
/-- what tile did for the window k on the screen s: the tabs and nodes R', t' then -/
def zd_tld (ξ ν : zm_M) (s k : Nat) (row : List Nat) (R : List Nat) (t : zy_F) (b : Int32) (R' : List Nat) (t' : zy_F) : Prop :=
  (t = .nil ∧ zd_tiled0 ξ ν s k b ∧ (b = 1 → ∃ n, R' = [k] ∧ t' = .tag n .nil ∧ zt_isNew ξ (zdT s) k (ξ (zdW k + 1) 0) (ξ (zdW k + 1) 1) ν (zdT s) n)) ∨
  (∃ n, n ∈ zy_lvs t ∧ zd_lah ξ (zdT s) t row = nI n ∧ zd_tiledN ξ ν s k n R t b ∧ (b = 1 → R' = R ++ [k] ∧ ((∃ a c f, a < 2 ∧ t' = zy_cut n c f t ∧ zt_isCut ξ (zdT s) R t n k a false (ξ (zdW k + 1) 0) (ξ (zdW k + 1) 1) ν (zdT s) c f) ∨ (t' = t ∧ zt_isTab ξ (zdT s) R t n k (ξ (zdW k + 1) 0) (ξ (zdW k + 1) 1) ν (zdT s)))))
def zd_opn (μ ν : zm_M) (row row' : List Nat) (Rs Rs' : Nat → List Nat) (ts ts' : Nat → zy_F) (kd w v o : Int32) : Prop :=
  ((¬ zd_oarg μ kd w v o ∨ (∀ j, j < 10 → zd_th μ j = true) ∨ zd_osc μ row kd o = -1) ∧ ν = μ ∧ row' = row ∧ Rs' = Rs ∧ ts' = ts) ∨
  (zd_oarg μ kd w v o ∧ ∃ k s ξ, k < 10 ∧ s < 3 ∧ zd_th μ k = false ∧ (∀ j, j < k → zd_th μ j = true) ∧ zd_osc μ row kd o = nI s ∧ ¬ μ (zdS s) 3 = 0 ∧ zd_prep μ ξ Rs ts k kd w v o ∧
    ((((kd = 1 ∧ ∃ ν3, zd_tld ξ ν3 s k row (Rs s) (ts s) 0 (Rs s) (ts s)) ∨ (¬ kd = 1 ∧ ¬ kd = 4 ∧ zd_whole ξ (zdZ s) k = false)) ∧ (∀ c, ¬ zJ_irr c → c ≠ zdW k → c ≠ zdW k + 1 → ν c = μ c) ∧ ν (zdW k) 2 = μ (zdW k) 2 ∧ row' = row ∧ Rs' = Rs ∧ ts' = ts) ∨
     (((kd = 1 ∧ ∃ ν3 ν4 R' t', zd_tld ξ ν3 s k row (Rs s) (ts s) 1 R' t' ∧ Rs' = zd_upd Rs s R' ∧ ts' = zd_upd ts s t' ∧ zd_came μ ν4 k s kd w v o ∧ (∀ j, ν4 (zdT s + j) = ν3 (zdT s + j)) ∧ zd_foc ν4 ν k) ∨
       (¬ kd = 1 ∧ (kd = 4 ∨ zd_whole ξ (zdZ s) k = true) ∧ Rs' = Rs ∧ ts' = ts ∧ ∃ ν4, zd_came μ ν4 k s kd w v o ∧ zd_foc ν4 ν k)) ∧ row' = k :: row)))
set_option maxRecDepth 100000 in
theorem ze_open_2 (D : Nat) {ν2 ν3 : zm_M} {kd w v o : Int32} {k s : Nat} {L : zi_Lc} (nl : zi_nl L = true) (g0 : zi_get L 0 = some (.ref 1)) (g6 : zi_get L 6 = some (.int (nI k))) (g7 : zi_get L 7 = some (.int (nI s))) (E : ze_E D A_Desk_findRoom [.ref 1, .int (nI k), .int (nI s)] (zm_mk ν2) (some (.int 0)) (zm_mk ν3)) :
    ze_G D 8 (some .int) zc_X5_open 145 L [] (zm_mk ν2) (some (.int (-1000000002))) (zm_mk ν3) := by
  have n2 : Int32.ofInt (-1000000002) = -1000000002 := by decide
  obtain ⟨N1, E1⟩ := E
  refine ⟨N1, 7, fun F n hF => ?_⟩
  simp (maxDischargeDepth := 9) [zg_0, zg_aaload, zg_aload_n, zg_getfield, zg_goto, zg_iconst, zg_ifCond, zg_if_icmp, zg_iload, zg_iload_n, zg_invokestatic, zg_invokevirtual, zg_ireturn, zg_istore, zg_ldc, zg_putfield, zf_X5_open, zi_ld, zi_lda, zi_cmp, zi_retOk, zi_isI, zi_f3, zi_cr, zi_ci, zi_cn, zi_get_ne, zi_nl_i, zi_nl_r, zi_get_set_eq, nl, g0, g6, g7, zq_Desk_findRoom, zd_c, E1 F (by omega), n2]
set_option maxRecDepth 100000 in
theorem ze_open_3 (D : Nat) {ν2 ν3 ν5 : zm_M} {k s : Nat} (hk : k < 10) {L : zi_Lc} (nl : zi_nl L = true) (g0 : zi_get L 0 = some (.ref 1)) (g6 : zi_get L 6 = some (.int (nI k))) (g7 : zi_get L 7 = some (.int (nI s))) (E : ze_E D A_Desk_findRoom [.ref 1, .int (nI k), .int (nI s)] (zm_mk ν2) (some (.int 1)) (zm_mk ν3)) (E' : ze_E D A_Desk_giveFocus [.ref 1, .int (nI k)] (zm_mk (zm_up ν3 (zdW k) 2 1)) none (zm_mk ν5)) :
    ze_G D 8 (some .int) zc_X5_open 145 L [] (zm_mk ν2) (some (.int (nI k))) (zm_mk ν5) := by
  obtain ⟨N1, E1⟩ := E
  obtain ⟨N2, E2⟩ := E'
  refine ⟨N1 + N2, 16, fun F n hF => ?_⟩
  simp (maxDischargeDepth := 9) [zg_0, zg_aaload, zg_aload_n, zg_getfield, zg_goto, zg_iconst, zg_ifCond, zg_if_icmp, zg_iload, zg_iload_n, zg_invokestatic, zg_invokevirtual, zg_ireturn, zg_istore, zg_ldc, zg_putfield, zf_X5_open, zi_ld, zi_lda, zi_cmp, zi_retOk, zi_isI, zi_f3, zi_cr, zi_ci, zi_cn, zi_get_ne, zi_nl_i, zi_nl_r, zi_get_set_eq, nl, g0, g6, g7, zq_Desk_findRoom, zd_c, E1 F (by omega), zd_g, zd_w hk, zw_p2 (zdW_at hk) (Or.inr rfl), zq_Desk_giveFocus, E2 F (by omega)]
/-- after a window has come, and the focus is its own -/
theorem ze_open_4 (D : Nat) (h : zJ μ row stk Rs ts) {Rs' : Nat → List Nat} {ts' : Nat → zy_F} {kd w v o : Int32} {k s : Nat} (hk : k < 10) (hs : s < 3) (hnt : zd_th μ k = false) {ν4 : zm_M} (hc : zd_came μ ν4 k s kd w v o) (h0 : zJ0 ν4 stk Rs' ts') : ∃ ν5 stk', ze_E (D + 15) A_Desk_giveFocus [.ref 1, .int (nI k)] (zm_mk ν4) none (zm_mk ν5) ∧ zJ ν5 (k :: row) stk' Rs' ts' ∧ zd_foc ν4 ν5 k := by
  obtain ⟨f, w2, -⟩ := hc
  have hkr : k ∉ row := fun q => by rw [((h.1.2.2 k).mp q).2] at hnt; cases hnt
  have e0 : ∀ c, c < 7 → ν4 c = μ c := fun c hc => f c (zJn_0 hc) (by unfold zdW; omega) (by unfold zdW; omega) (fun _ => zJn_out hs (Or.inl hc))
  have th : ∀ j, j < 10 → j ≠ k → zd_th ν4 j = zd_th μ j := fun j hj hne => by
    unfold zd_th
    rw [f _ (zJn_W hj).1 (fun e => hne (zdW_inj e)) (by unfold zdW; omega) (fun _ => zJn_out hs (Or.inr (Or.inl ⟨j, hj, Or.inl rfl⟩)))]
  have thk : zd_th ν4 k = true := decide_eq_true (by rw [w2]; decide)
  have := ze_giveFocusX (row := row) D h0 hk thk (zr_L_congr (e0 _ (by decide)) (e0 _ (by decide)) h.1.1) h.1.2.1 (fun j hj => by
    obtain ⟨a, b⟩ := (h.1.2.2 j).mp hj
    exact ⟨a, by rw [th j a (fun e => hkr (e ▸ hj))]; exact b⟩) (fun j hj ht => by
    by_cases e : j = k
    · exact Or.inr e
    · rw [th j hj e] at ht
      exact Or.inl ((h.1.2.2 j).mpr ⟨hj, ht⟩))
  rw [List.erase_of_not_mem hkr] at this
  exact this
end ZO6
