/-! the law: a stretch of it -/
def zw_L (i : Nat) : zi_Lc := [(3, .int (nI i)), (2, .ref 232), (1, .ref 1), (0, .ref 0)]
def zw_S (l : List Value) (pc : Nat) (L : zi_Lc) (st : List Value) (h : zi_Hp) (pc' : Nat) (L' : zi_Lc) (st' : List Value) (h' : zi_Hp) : Prop :=
  ∃ N k, ∀ F n, N ≤ F → zi_go zi_ms (some l) 4 (some .boolean) zc_L 600000 7302250 (zi_run zi_ms F 64) (n + k) pc L st h [] 442 12042 = zi_go zi_ms (some l) 4 (some .boolean) zc_L 600000 7302250 (zi_run zi_ms F 64) n pc' L' st' h' [] 442 12042
section ZWL
variable {l : List Value} {i : Nat} {a b c d : Int32} {M N θ : zm_M} {r r1 r2 : Int32}
theorem zw_S.trans {p1 p2 p3 : Nat} {L1 L2 L3 : zi_Lc} {s1 s2 s3 : List Value} {h1 h2 h3 : zi_Hp} (a : zw_S l p1 L1 s1 h1 p2 L2 s2 h2) (b : zw_S l p2 L2 s2 h2 p3 L3 s3 h3) : zw_S l p1 L1 s1 h1 p3 L3 s3 h3 := by
  obtain ⟨N, k, a⟩ := a
  obtain ⟨M, j, b⟩ := b
  refine ⟨N + M, j + k, fun F n hF => ?_⟩
  rw [← Nat.add_assoc, a F (n + j) (by omega), b F n (by omega)]
theorem zw_ld {j : Nat} {x : Int32} (hn : l.length < 2 ^ 31) (h : l[i + j]? = some (.int x)) (hp : zi_Hp) : zi_iald (some l) [] hp (nI i + nI j) 0 = some (.int x) := by
  have hi := (List.getElem?_eq_some_iff.mp h).1
  rw [nI_add]
  have i1 : zi_in (nI (i + j)) l.length = true := zm_in hi (by omega)
  have c1 : (nI (i + j)).toNatClampNeg = i + j := nI_clamp (by omega)
  simp [zi_iald, i1, c1, h]
end ZWL
