/-! the desk: tile -/
section ZT2
variable {μ : zm_M} {row : List Nat} {R : List Nat} {t : zy_F}
theorem zt_isCut_src {μ' : zm_M} {Q n k a c f T : Nat} {nf : Bool} {x y : Int32} {ν : zm_M} (h : zt_isCopy μ Q μ' Q) (g : zt_isCut μ' Q R t n k a nf x y ν T c f) : zt_isCut μ Q R t n k a nf x y ν T c f := by
  obtain ⟨c3, c5, c6, c7, c8, c12⟩ := h
  unfold zt_isCut at *
  rw [c3, c5, c6, c7, c8, c12] at g
  exact g
theorem zt_isTab_src {μ' : zm_M} {Q n k T : Nat} {x y : Int32} {ν : zm_M} (h : zt_isCopy μ Q μ' Q) (g : zt_isTab μ' Q R t n k x y ν T) : zt_isTab μ Q R t n k x y ν T := by
  obtain ⟨c3, c5, c6, c7, c8, c12⟩ := h
  unfold zt_isTab at *
  rw [c3, c5, c6, c7, c8, c12] at g
  exact g
theorem zt_isCut_to {Q n k a c f T V : Nat} {nf : Bool} {x y : Int32} {ν ξ : zm_M} (h : zt_isCopy ν T ξ V) (hC : zt_C ξ V (R ++ [k]) (zy_sub n (.append (.tag c (.tag (if nf then f else n) .nil)) (.tag (if nf then n else f) .nil)) t)) (g : zt_isCut μ Q R t n k a nf x y ν T c f) : zt_isCut μ Q R t n k a nf x y ξ V c f := by
  obtain ⟨c3, c5, c6, c7, c8, c12⟩ := h
  obtain ⟨-, g2, g3, g5, g6, g7, g8, g12⟩ := g
  rw [← c3] at g3
  rw [← c5] at g5
  rw [← c6] at g6
  rw [← c7] at g7
  rw [← c8] at g8
  rw [← c12] at g12
  exact ⟨hC, g2, g3, g5, g6, g7, g8, g12⟩
theorem zt_isTab_to {Q n k T V : Nat} {x y : Int32} {ν ξ : zm_M} (h : zt_isCopy ν T ξ V) (hC : zt_C ξ V (R ++ [k]) t) (g : zt_isTab μ Q R t n k x y ν T) : zt_isTab μ Q R t n k x y ξ V := by
  obtain ⟨c3, c5, c6, c7, c8, c12⟩ := h
  obtain ⟨-, g3, g5, g6, g7, g8, g12⟩ := g
  rw [← c3] at g3
  rw [← c5] at g5
  rw [← c6] at g6
  rw [← c7] at g7
  rw [← c8] at g8
  rw [← c12] at g12
  exact ⟨hC, g3, g5, g6, g7, g8, g12⟩
theorem zt_isNew_to {Q n k T V : Nat} {x y : Int32} {ν ξ : zm_M} (h : zt_isCopy ν T ξ V) (hC : zt_C ξ V [k] (.tag n .nil)) (g : zt_isNew μ Q k x y ν T n) : zt_isNew μ Q k x y ξ V n := by
  obtain ⟨c3, c5, c6, c7, c8, c12⟩ := h
  obtain ⟨-, g2, g3, g5, g6, g7, g8, g12⟩ := g
  rw [← c3] at g3
  rw [← c5] at g5
  rw [← c6] at g6
  rw [← c7] at g7
  rw [← c8] at g8
  rw [← c12] at g12
  exact ⟨hC, g2, g3, g5, g6, g7, g8, g12⟩
theorem zd_lah_or {T : Nat} (hI : zt_I μ T R t) : ∀ row : List Nat, (∀ j ∈ row, j < 10) → (t = .nil ∧ zd_lah μ T t row = -1) ∨ ∃ n ∈ zy_lvs t, zd_lah μ T t row = nI n := by
  intro row
  obtain ⟨-, ⟨k4, -, -, -⟩, -, k9, k10, -⟩ := hI
  induction row with
  | nil =>
    intro _
    rcases k4 with ⟨rfl, _⟩ | ⟨wt, _⟩
    · exact Or.inl ⟨rfl, rfl⟩
    · have := zy_lvs_pos wt
      right
      refine ⟨_, zl_mem this, ?_⟩
      show (if _ then _ else _ : Int32) = _
      rw [if_pos this]
  | cons k l ih =>
    intro h
    show (t = .nil ∧ (if μ (T + 3) k < 0 then zd_lah μ T t l else μ (T + 3) k) = -1) ∨ ∃ n ∈ zy_lvs t, (if μ (T + 3) k < 0 then zd_lah μ T t l else μ (T + 3) k) = nI n
    by_cases c : μ (T + 3) k < 0
    · rw [if_pos c]
      exact ih (fun j hj => h j (List.mem_cons_of_mem _ hj))
    · rw [if_neg c]
      have hk := h k List.mem_cons_self
      have hkR : k ∈ R := by
        by_cases e : k ∈ R
        · exact e
        · rw [k10 k hk e] at c
          exact absurd (by decide) c
      obtain ⟨n, hn, e⟩ := k9 k hkR
      exact Or.inr ⟨n, hn, e⟩
def zy_cut (n c f : Nat) (t : zy_F) : zy_F := zy_sub n (.append (.tag c (.tag n .nil)) (.tag f .nil)) t
/-- what tile leaves, a leaf n at hand: a cut, the other cut, a tab, or nothing -/
def zd_tiledN (μ ν : zm_M) (s k n : Nat) (R : List Nat) (t : zy_F) (b : Int32) : Prop :=
  let a := if μ (zdT s + 23) n ≤ μ (zdT s + 22) n then 0 else 1
  let x := μ (zdW k + 1) 0
  let y := μ (zdW k + 1) 1
  ∃ ξ1 c1 f1, zt_frT 7 μ ξ1 ∧ zt_isCut μ (zdT s) R t n k a false x y ξ1 7 c1 f1 ∧
    ((zt_fit ξ1 7 (zdZ s) (R ++ [k]) (zy_cut n c1 f1 t) = true ∧ b = 1 ∧ zt_isCut μ (zdT s) R t n k a false x y ν (zdT s) c1 f1) ∨
     (zt_fit ξ1 7 (zdZ s) (R ++ [k]) (zy_cut n c1 f1 t) = false ∧ ∃ ξ2 c2 f2, zt_frT 7 μ ξ2 ∧ zt_isCut μ (zdT s) R t n k (1 - a) false x y ξ2 7 c2 f2 ∧
       ((zt_fit ξ2 7 (zdZ s) (R ++ [k]) (zy_cut n c2 f2 t) = true ∧ b = 1 ∧ zt_isCut μ (zdT s) R t n k (1 - a) false x y ν (zdT s) c2 f2) ∨
        (zt_fit ξ2 7 (zdZ s) (R ++ [k]) (zy_cut n c2 f2 t) = false ∧ ∃ ξ3, zt_frT 7 μ ξ3 ∧ zt_isTab μ (zdT s) R t n k x y ξ3 7 ∧
          ((zt_fit ξ3 7 (zdZ s) (R ++ [k]) t = true ∧ b = 1 ∧ zt_isTab μ (zdT s) R t n k x y ν (zdT s)) ∨ (zt_fit ξ3 7 (zdZ s) (R ++ [k]) t = false ∧ b = 0 ∧ zt_frT 7 μ ν))))))
def zd_tiled0 (μ ν : zm_M) (s k : Nat) (b : Int32) : Prop :=
  ∃ ξ n, zt_frT 7 μ ξ ∧ zt_isNew μ (zdT s) k (μ (zdW k + 1) 0) (μ (zdW k + 1) 1) ξ 7 n ∧
    ((zt_fit ξ 7 (zdZ s) [k] (.tag n .nil) = true ∧ b = 1 ∧ zt_isNew μ (zdT s) k (μ (zdW k + 1) 0) (μ (zdW k + 1) 1) ν (zdT s) n) ∨ (zt_fit ξ 7 (zdZ s) [k] (.tag n .nil) = false ∧ b = 0 ∧ zt_frT 7 μ ν))
set_option maxRecDepth 100000 in
/-- from the found value on -/
theorem ze_tile_end_1 (D : Nat) {k s : Nat} (hs : s < 3) {ν : zm_M} (hI : zt_I ν 7 R t) {L : zi_Lc} (nl : zi_nl L = true) (g0 : zi_get L 0 = some (.ref 1)) (g2 : zi_get L 2 = some (.ref (zdS s + 1))) :
    ∃ ξ, ze_G (D + 4) 6 (some .boolean) zc_X5_tile 72 L [.int 1] (zm_mk ν) (some (.int 1)) (zm_mk ξ) ∧ zt_C ξ (zdT s) R t ∧ zt_frT (zdT s) ν ξ ∧ zt_isCopy ν 7 ξ (zdT s) := by
  obtain ⟨ξ, ⟨N1, E1⟩, C1, f1, l⟩ := ze_Tree_copyFrom (μ := ν) D (zdT_at hs) zd7_at (by unfold zdT; omega) hI
  refine ⟨ξ, ⟨N1, 10, fun F m hF => ?_⟩, C1, f1, l⟩
  obtain ⟨q1, d1⟩ := zt_c (μ := ν) (zdT_at hs)
  simp (maxDischargeDepth := 9) [zg_0, zg_aload_n, zg_getfield, zg_goto, zg_iconst, zg_ifCond, zg_iload, zg_iload_n, zg_invokevirtual, zg_ireturn, zg_istore, zg_istore_n, zg_isub, zf_X5_tile, zi_ld, zi_lda, zi_cmp, zi_retOk, zi_isI, zi_f3, zi_cr, zi_ci, zi_cn, zi_get_ne, zi_nl_i, zi_nl_r, zi_get_set_eq, nl, g0, g2, zdS_g hs, zd_g, zq_Tree_copyFrom, d1, E1 F (by omega)]
set_option maxRecDepth 100000 in
theorem ze_tile_end_0 (D : Nat) {ν : zm_M} {L : zi_Lc} (nl : zi_nl L = true) : ze_G D 6 (some .boolean) zc_X5_tile 72 L [.int 0] (zm_mk ν) (some (.int 0)) (zm_mk ν) := by
  refine ⟨0, 5, fun F m hF => ?_⟩
  simp (maxDischargeDepth := 9) [zg_0, zg_aload_n, zg_getfield, zg_goto, zg_iconst, zg_ifCond, zg_iload, zg_iload_n, zg_invokevirtual, zg_ireturn, zg_istore, zg_istore_n, zg_isub, zf_X5_tile, zi_ld, zi_lda, zi_cmp, zi_retOk, zi_isI, zi_f3, zi_cr, zi_ci, zi_cn, zi_get_ne, zi_nl_i, zi_nl_r, zi_get_set_eq, nl]
end ZT2
