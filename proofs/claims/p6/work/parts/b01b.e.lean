/-! the same answer on both sides -/
/-- asked on both sides, with the same answer, and with what both then hold -/
def zW_e (M : zm_M) (a b : Nat) (vs : List Value) : Prop := ∃ N θ r, ze_E 64 a (.ref 1 :: vs) (zm_mk M) (some (.int r)) (zm_mk N) ∧ ze_E 64 b (.ref 232 :: vs) (zm_mk N) (some (.int r)) (zm_mk θ) ∧ zW θ
section ZXE
variable {M : zm_M}
theorem zW_isOf_c (h : zW M) (w x : Int32) : zW_c M A_Desk_isOf A_Mod_isOf [.int w, .int x] := by
  obtain ⟨r, E1, E2⟩ := zW_isOf h w x
  exact ⟨M, M, r, r, E1, E2, h⟩
theorem zW_isOf_e (h : zW M) (w x : Int32) : zW_e M A_Desk_isOf A_Mod_isOf [.int w, .int x] := by
  obtain ⟨r, E1, E2⟩ := zW_isOf h w x
  exact ⟨M, M, r, E1, E2, h⟩
end ZXE
