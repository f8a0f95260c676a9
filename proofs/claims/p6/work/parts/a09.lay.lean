/-! the reference: areas -/
def zu_P (ν : zm_M) (n : Nat) (x y w v : Int32) : Prop := ν 255 n = x ∧ ν 256 n = y ∧ ν 257 n = w ∧ ν 258 n = v
/-- cells that lay does not touch: but for the areas of the nodes I, and the row of leaves from k to k' -/
def zu_frY (μ ν : zm_M) (I : List Nat) (k k' : Nat) : Prop := ∀ c d, ¬ (c = 231 ∧ d = 30) → ¬ (c = 259 ∧ k ≤ d ∧ d < k') → ¬ (255 ≤ c ∧ c ≤ 258 ∧ d ∈ I) → ν c d = μ c d
theorem zu_frY.tree {μ ν : zm_M} {I : List Nat} {k k' c d : Nat} (h : zu_frY μ ν I k k') (hc : c < 255) (h1 : c ≠ 231) : ν c d = μ c d := h c d (by omega) (by omega) (by omega)
section ZLY
variable {τ : Nat} {ab : Nat → Int32}
/-- 102 to 184: the first part -/
theorem ze_lay_m (x y : Int32) (L : zi_Lc) (st : List Value) (h : zi_Hp) (D : Nat) (nl : zi_nl L = true) : ze_S D 13 none zc_X6_lay 133 L (.int y :: .int x :: st) h 136 (zi_set L 11 (.int (x - y))) st h := by
  refine ⟨0, 2, fun F m hF => ?_⟩
  simp only [zi_go, zf_X6_lay, zi_ask, zi_new, zi_step, zi_isI]
  rfl
theorem ze_lay_s (x y : Int32) (L : zi_Lc) (st : List Value) (h : zi_Hp) (D : Nat) : ze_S D 13 none zc_X6_lay 227 L (.int y :: .int x :: st) h 228 L (.int (x - y) :: st) h := by
  refine ⟨0, 1, fun F m hF => ?_⟩
  simp only [zi_go, zf_X6_lay, zi_ask, zi_new, zi_step]
theorem ze_lay_t (x y : Int32) (L : zi_Lc) (st : List Value) (h : zi_Hp) (D : Nat) : ze_S D 13 none zc_X6_lay 276 L (.int y :: .int x :: st) h 277 L (.int (x - y) :: st) h := by
  refine ⟨0, 1, fun F m hF => ?_⟩
  simp only [zi_go, zf_X6_lay, zi_ask, zi_new, zi_step]
end ZLY
