/-! the words, and what a row must be -/
def zi_Ts : List Cond := lw_tbl.filter goodWord
def zi_tb (t : Nat) (w : Cond) : Bool := decide (lw_tbl[t]? = some w) && goodWord w
theorem zi_tb_in {t : Nat} {w : Cond} (h : zi_tb t w = true) : w ∈ zi_Ts := by
  simp only [zi_tb, Bool.and_eq_true, decide_eq_true_eq] at h
  exact List.mem_filter.mpr ⟨List.mem_of_getElem? h.1, h.2⟩
theorem zi_Ts_good {w : Cond} (h : w ∈ zi_Ts) : (w.onTables && w.keeps) = true ∨ ∃ ty, w = .arrayClass ty := good_of_word (List.mem_filter.mp h).2
def zi_tys (cy : Nat → ClassId) : List (ClassId × FieldType) := [(cy 7, .int), (cy 8, .boolean), (cy 9, .object RX2), (cy 10, .object RX4), (cy 11, .array .int)]
def zi_len (i : Instr) : Nat := match i with
  | .bipush _ | .ldc _ | .iload _ | .aload _ | .istore _ | .astore _ | .newarray _ => 2
  | .sipush _ | .ldc_w _ | .iinc _ _ | .getfield _ | .putfield _ | .goto _ | .ifCond _ _ | .if_icmp _ _ | .invokespecial _ | .invokestatic _ | .invokevirtual _ | .new _ | .anewarray _ | .ldc2_w _ => 3
  | .multianewarray _ _ => 4
  | _ => 1
def zi_lok (r : zi_Row) : Bool := match r.2.1 with
  | .tableswitch _ _ _ _ | .lookupswitch _ _ => true
  | i => decide (r.2.2.1 = zi_len i)
def zi_lk (own : String) (j t : Nat) (y : MethodName) : Bool := if t < 10000 then zi_tb t (.methodLink own j y) else decide (zi_nest[t - 10000]? = some (.methodLinkNest own j y RX5))
def zi_np (y : MethodName) : Option Nat := (parseMethodDescriptor y.desc).map (fun d => d.parameters.length)
def zi_ok (own : String) (ini : Bool) (ms : List zi_Me) (r : zi_Row) : Bool := match r with
  | (pc, i, _, a, b, t, v) => match i with
    | .getfield j => (match vwCl[a]? with | some q => decide (b < q.2.2) && decide ((q.2.1 b).1 = q.1) && zi_tb t (.fieldLink own j q.1 (q.2.1 b).2.1 (q.2.1 b).2.2.1) | none => false)
    | .putfield j => (match vwCl[a]? with | some q => decide (b < q.2.2) && decide ((q.2.1 b).1 = q.1) && zi_tb t (.fieldLink own j q.1 (q.2.1 b).2.1 (q.2.1 b).2.2.1) && (decide ((q.2.1 b).2.2.2 = false) || (ini && decide (q.1 = own))) | none => false)
    | .ldc j => zi_tb t (.constant own j (Int32.ofInt v))
    | .ldc_w j => zi_tb t (.constant own j (Int32.ofInt v))
    | .ldc2_w j => zi_tb t (.constantLong own j (Int64.ofInt v))
    | .lookupswitch _ ps => (ps.toList.zip (ps.toList.drop 1)).all (fun (a, next) => a.1 < next.1)
    | .new j => (match vwCl[a]? with | some q => zi_tb t (.classLink own j q.1) | none => false)
    | .anewarray j => zi_tb t (.classLink own j (if a = 9 then RX2 else RX4))
    | .multianewarray j _ => zi_tb t (.classLink own j ("[" ++ (FieldType.array .int).toString))
    | .goto off => decide ((pc : Int) + off = (a : Int))
    | .ifCond _ off => decide ((pc : Int) + off = (a : Int))
    | .if_icmp _ off => decide ((pc : Int) + off = (a : Int))
    | .tableswitch _ lo hi offs => decide (offs.size = (hi - lo + 1).toNat)
    | .invokespecial j => if a = 999 then zi_tb t (.methodLink own j objectInit) else (match ms[a]?, zi_mt[a]? with
      | some m, some g => zi_lk own j t m.1 && decide (m.1.name = "<init>") && decide (zi_np m.1 = some (b - 1)) && decide (1 ≤ b) && decide (m.2.2.2.1 = none) && zi_tb g.2.2.1 (.instanceMethod m.1)
      | none, _ => true
      | some _, none => false)
    | .invokestatic j => if a = 997 then zi_tb t (.methodLink own j arraycopyName) else (match ms[a]?, zi_mt[a]? with
      | some m, some g => zi_lk own j t m.1 && decide (zi_np m.1 = some b) && zi_tb g.2.2.1 (.static m.1)
      | none, _ => true
      | some _, none => false)
    | .invokevirtual j => (match ms[a]?, zi_mt[a]? with
      | some m, some g => zi_tb t (.methodLink own j m.1) && decide (zi_np m.1 = some (b - 1)) && decide (1 ≤ b) && (match vwCl[v.toNat]? with | some q => decide (q.1 = m.1.cls) | none => false) && decide (0 ≤ v) && zi_tb g.2.2.1 (.instanceMethod m.1) && zi_tb g.2.2.2.1 (.selects m.1.cls m.1 m.1)
      | none, _ => true
      | some _, none => false)
    | _ => true
/-! the classes -/
def zi_cok (a : Nat) (q : vw_C) : Prop := (∀ w ∈ u_ws q.1 q.2.1 q.2.2, w ∈ zi_Ts) ∧ (∀ k, k < q.2.2 → parseFieldDescriptor (q.2.1 k).2.2.1 = some (zi_ty a k)) ∧ (∀ x, x < q.2.2 → ∀ y, y < q.2.2 → x ≠ y → (q.2.1 x).2.1 ≠ (q.2.1 y).2.1) ∧ q.2.2 = zi_fld a ∧ Cond.instantiable q.1 q.2.2 ∈ zi_Ts ∧ Cond.initialized q.1 ∈ zi_Ts
section ZS
variable {ρ : Nat → Int32} {b0 : Nat} {as : List Nat} {cy : Nat → ClassId}
theorem zi_fit_ok {ty : FieldType} {v : Value} (h : zi_fit ty v = true) : narrow ty (zi_cv ρ b0 as v) = zi_cv ρ b0 as v ∧ fits ty (zi_cv ρ b0 as v) = true := by
  unfold zi_fit at h
  split at h
  · rename_i x
    simp only [Bool.or_eq_true, decide_eq_true_eq] at h
    rcases h with rfl | rfl
    · exact ⟨show narrow .boolean (.int 0) = .int 0 from by decide, show fits .boolean (.int 0) = true from by decide⟩
    · exact ⟨show narrow .boolean (.int 1) = .int 1 from by decide, show fits .boolean (.int 1) = true from by decide⟩
  · exact ⟨rfl, rfl⟩
  · exact ⟨rfl, rfl⟩
  · rename_i n a
    cases a with
    | zero => exact ⟨rfl, rfl⟩
    | succ a => exact ⟨rfl, rfl⟩
  · exact ⟨rfl, rfl⟩
  · rename_i n a
    cases a with
    | zero => exact ⟨rfl, rfl⟩
    | succ a => exact ⟨rfl, rfl⟩
  · exact ⟨rfl, rfl⟩
  · cases h
theorem zi_ce_obj {a : Nat} {fs : List Value} (h : a < 7) : zi_ce ρ b0 as cy (a, fs) = .inr (a, fs.map (zi_cv ρ b0 as)) := by
  unfold zi_ce
  rw [if_pos h]
theorem zi_ce_int {l : List Value} : zi_ce ρ b0 as cy (7, l) = .inl (cy 7, l.length, .inl (fun i => zi_iv ρ (l.getD i (.int 0)))) := by
  unfold zi_ce
  rw [if_neg (by dsimp only; omega), if_pos (by dsimp only; omega)]
theorem zi_ce_boo {l : List Value} : zi_ce ρ b0 as cy (8, l) = .inl (cy 8, l.length, .inl (fun i => zi_iv ρ (l.getD i (.int 0)))) := by
  unfold zi_ce
  rw [if_neg (by dsimp only; omega), if_pos (by dsimp only; omega)]
theorem zi_ce_ref {t : Nat} {l : List Value} (h : 9 ≤ t) : zi_ce ρ b0 as cy (t, l) = .inl (cy t, l.length, .inr (.inr (.inr (.inr (fun i => zi_rv as (l.getD i .null)))))) := by
  unfold zi_ce
  rw [if_neg (by dsimp only; omega), if_neg (by dsimp only; omega)]
theorem zi_in_lt {j : Int32} {n : Nat} (h : zi_in j n = true) : vp_in j n ∧ j.toNatClampNeg < n := by
  have h1 : vp_in j n := by simpa [zi_in, vp_in] using h
  exact ⟨h1, Nat.not_le.mp fun q => h1 (Or.inr q)⟩
theorem zi_upd {l : List Value} {j : Nat} {v : Value} (h : j < l.length) : (fun i => zi_iv ρ ((l.set j v).getD i (.int 0))) = upd (fun i => zi_iv ρ (l.getD i (.int 0))) j (zi_iv ρ v) := by
  funext i
  unfold upd
  by_cases e : i = j
  · subst e
    simp [List.getD_eq_getElem?_getD, h]
  · rw [if_neg e]
    simp [List.getD_eq_getElem?_getD, List.getElem?_set_ne (Ne.symm e)]
theorem zi_updr {l : List Value} {j q : Nat} (h : j < l.length) : (fun i => zi_rv as ((l.set j (.ref (q + 1))).getD i .null)) = va_up (fun i => zi_rv as (l.getD i .null)) j (some (as.getD q 0)) := by
  funext i
  unfold va_up
  by_cases e : i = j
  · subst e
    simp [List.getD_eq_getElem?_getD, h, zi_rv]
  · rw [if_neg e]
    simp [List.getD_eq_getElem?_getD, List.getElem?_set_ne (Ne.symm e)]
theorem zi_ld_at {L : zi_Lc} {d : zi_Dm} {k : Nat} {x : Value} {ls : Array Slot} {nL : Nat} (hr : zi_rho ρ d) (hl : lv_has ls nL (zi_lc ρ b0 as L)) (h : zi_ld L d k = some x) : ls[k]? = some (.val (.int (zi_iv ρ x))) ∧ zi_cv ρ b0 as x = .int (zi_iv ρ x) := by
  unfold zi_ld at h
  split at h
  · rename_i y hy
    cases h
    exact ⟨zi_get_at hl hy, rfl⟩
  · rename_i q hy
    cases h
    refine ⟨?_, zi_cv_iv zi_nm_isI⟩
    rw [zi_nm_iv hr]
    exact zi_get_at hl hy
  · cases h
theorem zi_lda_at {L : zi_Lc} {k : Nat} {x : Value} {ls : Array Slot} {nL : Nat} (hl : lv_has ls nL (zi_lc ρ b0 as L)) (h : zi_lda L k = some x) : ∃ y, ls[k]? = some (.val (.ref y)) ∧ zi_cv ρ b0 as x = .ref y := by
  unfold zi_lda at h
  split at h
  · rename_i r hy
    cases h
    have h1 := zi_get_at hl hy
    cases r with
    | zero => exact ⟨b0, h1, rfl⟩
    | succ r => exact ⟨as.getD r 0, h1, rfl⟩
  · cases h
end ZS
