/-! one instruction at a time, by its kind -/
section ZGK
variable (ms : List zi_Me) (scr : Option (List Value)) (nL : Nat) (ret : Option FieldType) (code : List zi_Row) (mc mS : Nat) (call : Nat → List Value → zi_Hp → zi_Dm → Option (List zi_Out))
def zi_on (o : Option zi_Row) (n pc : Nat) (ls : zi_Lc) (st : List Value) (h : zi_Hp) (d : zi_Dm) (kc ks : Nat) : Option (List zi_Out) :=
    match o with
    | none => none
    | some r =>
      match zi_ask r.2.1 st with
      | some (k, f) => (match d[k.toNat]? with
        | none => none
        | some l => if (zi_vals l).length ≤ 64 then zi_bind (zi_vals l) (fun v => zi_go ms scr nL ret code mc mS call n pc ls (f (Int32.ofInt v)) h (d.set k.toNat [(v, v)]) kc ks) else none)
      | none =>
        match r.2.1 with
        | .ireturn => (match st with | [v] => if zi_retOk ret v then some [(d, some v, h)] else none | _ => none)
        | .areturn => (match st with | [.ref x] => if zi_retA ret then some [(d, some (.ref x), h)] else none | _ => none)
        | .return_ => (match st with | [] => if ret = none then some [(d, none, h)] else none | _ => none)
        | .goto _ => zi_go ms scr nL ret code mc mS call n r.2.2.2.1 ls st h d kc ks
        | .ifCond c _ => (match st with
          | .int x :: rest => if zi_cmp c x 0 then zi_go ms scr nL ret code mc mS call n r.2.2.2.1 ls rest h d kc ks else zi_go ms scr nL ret code mc mS call n (pc + 3) ls rest h d kc ks
          | .float k :: rest => (match d[k.toNat]? with
            | none => none
            | some l => zi_bind [(zi_T c 0 l, r.2.2.2.1), (zi_T (zi_neg c) 0 l, pc + 3)] (fun q => if q.1.isEmpty then some [] else zi_go ms scr nL ret code mc mS call n q.2 ls rest h (d.set k.toNat q.1) kc ks))
          | _ => none)
        | .if_icmp c _ => (match st with
          | .int y :: .int x :: rest => if zi_cmp c x y then zi_go ms scr nL ret code mc mS call n r.2.2.2.1 ls rest h d kc ks else zi_go ms scr nL ret code mc mS call n (pc + 3) ls rest h d kc ks
          | .int y :: .float k :: rest => (match d[k.toNat]? with
            | none => none
            | some l => zi_bind [(zi_T c y.toInt l, r.2.2.2.1), (zi_T (zi_neg c) y.toInt l, pc + 3)] (fun q => if q.1.isEmpty then some [] else zi_go ms scr nL ret code mc mS call n q.2 ls rest h (d.set k.toNat q.1) kc ks))
          | .float k :: .int x :: rest => (match d[k.toNat]? with
            | none => none
            | some l => zi_bind [(zi_T (zi_swap c) x.toInt l, r.2.2.2.1), (zi_T (zi_neg (zi_swap c)) x.toInt l, pc + 3)] (fun q => if q.1.isEmpty then some [] else zi_go ms scr nL ret code mc mS call n q.2 ls rest h (d.set k.toNat q.1) kc ks))
          | _ => none)
        | .tableswitch dflt lo hi offs => (match st with
          | .int x :: rest => if x.toInt < lo ∨ hi < x.toInt then (if (pc : Int) + dflt = (((pc : Int) + dflt).toNat : Int) then zi_go ms scr nL ret code mc mS call n ((pc : Int) + dflt).toNat ls rest h d kc ks else none)
            else (match offs[(x.toInt - lo).toNat]? with
              | some off => if (pc : Int) + off = (((pc : Int) + off).toNat : Int) then zi_go ms scr nL ret code mc mS call n ((pc : Int) + off).toNat ls rest h d kc ks else none
              | none => none)
          | .float k :: rest => (match d[k.toNat]? with
            | none => none
            | some l => zi_bind ((zi_T .lt lo l, dflt) :: (zi_T .gt hi l, dflt) :: (List.range (hi - lo + 1).toNat).map (fun (j : Nat) => (zi_T .eq (lo + (j : Int)) l, offs[j]?.getD 0))) (fun q => if q.1.isEmpty then some [] else if (pc : Int) + q.2 = (((pc : Int) + q.2).toNat : Int) then zi_go ms scr nL ret code mc mS call n ((pc : Int) + q.2).toNat ls rest h (d.set k.toNat q.1) kc ks else none))
          | _ => none)
        | .invokespecial _ =>
          if r.2.2.2.1 = 999 then (match st with | .ref (x + 1) :: rest => if rest.length ≤ 4 then zi_go ms scr nL ret code mc mS call n (pc + 3) ls rest h d kc ks else none | _ => none)
          else (match ms[r.2.2.2.1]? with
            | none => none
            | some mt => if (st.drop r.2.2.2.2.1).length ≤ 4 ∧ kc + mt.2.2.2.2.2.1 ≤ mc ∧ ks + mt.2.2.2.2.2.2 ≤ mS ∧ r.2.2.2.2.1 ≤ st.length ∧ (mt.2.2.2.2.2.1 = 0 ∨ (zi_wfc h.length ls = true ∧ zi_wfl h.length (st.drop r.2.2.2.2.1) = true)) then
                (match (st.take r.2.2.2.2.1).reverse with
                | .ref (x + 1) :: tl => (match call r.2.2.2.1 (.ref (x + 1) :: tl) h d with
                  | none => none
                  | some [o] => zi_go ms scr nL ret code mc mS call n (pc + 3) ls (o.2.1.toList ++ st.drop r.2.2.2.2.1) o.2.2 o.1 (kc + mt.2.2.2.2.2.1) (ks + mt.2.2.2.2.2.2)
                  | some os => zi_bind os (fun o => zi_go ms scr nL ret code mc mS call n (pc + 3) ls (o.2.1.toList ++ st.drop r.2.2.2.2.1) o.2.2 o.1 (kc + mt.2.2.2.2.2.1) (ks + mt.2.2.2.2.2.2)))
                | _ => none)
              else none)
        | .lookupswitch dflt ps => (match st with
          | .int x :: rest => if (pc : Int) + Op.lookupswitch.offset ps.toList dflt x.toInt = (((pc : Int) + Op.lookupswitch.offset ps.toList dflt x.toInt).toNat : Int) then zi_go ms scr nL ret code mc mS call n ((pc : Int) + Op.lookupswitch.offset ps.toList dflt x.toInt).toNat ls rest h d kc ks else none
          | _ => none)
        | .invokestatic _ => if r.2.2.2.1 = 997 then (match st with
            | .int n0 :: .int dp :: .ref (r1 + 1) :: .int sp :: .ref (r0 + 1) :: rest => if rest.length ≤ 4 then (match zi_cpy h r0 sp r1 dp n0 with
              | some h' => zi_go ms scr nL ret code mc mS call n (pc + 3) ls rest h' d kc ks
              | none => none) else none
            | _ => none)
          else (match ms[r.2.2.2.1]? with
            | none => none
            | some mt => if (st.drop r.2.2.2.2.1).length ≤ 4 ∧ kc + mt.2.2.2.2.2.1 ≤ mc ∧ ks + mt.2.2.2.2.2.2 ≤ mS ∧ r.2.2.2.2.1 ≤ st.length ∧ (mt.2.2.2.2.2.1 = 0 ∨ (zi_wfc h.length ls = true ∧ zi_wfl h.length (st.drop r.2.2.2.2.1) = true)) then
                (match call r.2.2.2.1 (st.take r.2.2.2.2.1).reverse h d with
                | none => none
                | some [o] => zi_go ms scr nL ret code mc mS call n (pc + 3) ls (o.2.1.toList ++ st.drop r.2.2.2.2.1) o.2.2 o.1 (kc + mt.2.2.2.2.2.1) (ks + mt.2.2.2.2.2.2)
                | some os => zi_bind os (fun o => zi_go ms scr nL ret code mc mS call n (pc + 3) ls (o.2.1.toList ++ st.drop r.2.2.2.2.1) o.2.2 o.1 (kc + mt.2.2.2.2.2.1) (ks + mt.2.2.2.2.2.2)))
              else none)
        | .invokevirtual _ => (match ms[r.2.2.2.1]? with
            | none => none
            | some mt => if (st.drop r.2.2.2.2.1).length ≤ 4 ∧ kc + mt.2.2.2.2.2.1 ≤ mc ∧ ks + mt.2.2.2.2.2.2 ≤ mS ∧ r.2.2.2.2.1 ≤ st.length ∧ (mt.2.2.2.2.2.1 = 0 ∨ (zi_wfc h.length ls = true ∧ zi_wfl h.length (st.drop r.2.2.2.2.1) = true)) then
                (match (st.take r.2.2.2.2.1).reverse with
                | .ref (x + 1) :: tl => (match h[x]? with
                  | some (t, _) => if (t : Int) = r.2.2.2.2.2.2 ∧ t < 7 then
                    (match call r.2.2.2.1 (.ref (x + 1) :: tl) h d with
                    | none => none
                    | some [o] => zi_go ms scr nL ret code mc mS call n (pc + 3) ls (o.2.1.toList ++ st.drop r.2.2.2.2.1) o.2.2 o.1 (kc + mt.2.2.2.2.2.1) (ks + mt.2.2.2.2.2.2)
                    | some os => zi_bind os (fun o => zi_go ms scr nL ret code mc mS call n (pc + 3) ls (o.2.1.toList ++ st.drop r.2.2.2.2.1) o.2.2 o.1 (kc + mt.2.2.2.2.2.1) (ks + mt.2.2.2.2.2.2))) else none
                  | none => none)
                | _ => none)
              else none)
        | _ => match zi_new r st h with
          | some (st', h', k1, k2) => if kc + k1 ≤ mc ∧ ks + k2 ≤ mS ∧ zi_wfh h = true ∧ zi_wfc h.length ls = true ∧ zi_wfl h.length st = true then zi_go ms scr nL ret code mc mS call n (pc + r.2.2.1) ls st' h' d (kc + k1) (ks + k2) else none
          | none => match zi_step scr nL d r ls st h with
            | some (ls', st', h') => zi_go ms scr nL ret code mc mS call n (pc + r.2.2.1) ls' st' h' d kc ks
            | none => none
end ZGK
section ZGL
variable {ms : List zi_Me} {scr : Option (List Value)} {nL : Nat} {ret : Option FieldType} {code : List zi_Row} {mc mS : Nat} {call : Nat → List Value → zi_Hp → zi_Dm → Option (List zi_Out)} {n pc p ln a b t kc ks : Nat} {v : Int} {ls : zi_Lc} {st rest : List Value} {h : zi_Hp} {d : zi_Dm}
theorem zg_0 : zi_go ms scr nL ret code mc mS call (n + 1) pc ls st h d kc ks = zi_on ms scr nL ret code mc mS call (code.find? (fun r => r.1 == pc)) n pc ls st h d kc ks := by
  rw [zi_go.eq_def]
  rfl
theorem zg_iconst {x : Int} : zi_on ms scr nL ret code mc mS call (some (p, .iconst x, ln, a, b, t, v)) n pc ls st h d kc ks = zi_go ms scr nL ret code mc mS call n (pc + ln) ls (.int (Int32.ofInt x) :: st) h d kc ks := rfl
theorem zg_bipush {x : Int} : zi_on ms scr nL ret code mc mS call (some (p, .bipush x, ln, a, b, t, v)) n pc ls st h d kc ks = zi_go ms scr nL ret code mc mS call n (pc + ln) ls (.int (Int8.ofInt x).toInt32 :: st) h d kc ks := rfl
theorem zg_sipush {x : Int} : zi_on ms scr nL ret code mc mS call (some (p, .sipush x, ln, a, b, t, v)) n pc ls st h d kc ks = zi_go ms scr nL ret code mc mS call n (pc + ln) ls (.int (Int16.ofInt x).toInt32 :: st) h d kc ks := rfl
theorem zg_ldc {j : Nat} : zi_on ms scr nL ret code mc mS call (some (p, .ldc j, ln, a, b, t, v)) n pc ls st h d kc ks = zi_go ms scr nL ret code mc mS call n (pc + ln) ls (.int (Int32.ofInt v) :: st) h d kc ks := rfl
theorem zg_ldc_w {j : Nat} : zi_on ms scr nL ret code mc mS call (some (p, .ldc_w j, ln, a, b, t, v)) n pc ls st h d kc ks = zi_go ms scr nL ret code mc mS call n (pc + ln) ls (.int (Int32.ofInt v) :: st) h d kc ks := rfl
theorem zg_iload_n {k : Fin 4} : zi_on ms scr nL ret code mc mS call (some (p, .iload_n k, ln, a, b, t, v)) n pc ls st h d kc ks = (match zi_ld ls d k.val with | some x => zi_go ms scr nL ret code mc mS call n (pc + ln) ls (x :: st) h d kc ks | none => none) := by
  unfold zi_on
  dsimp only [zi_ask, zi_new, zi_step]
  cases zi_ld ls d k.val <;> rfl
theorem zg_iload {k : Nat} : zi_on ms scr nL ret code mc mS call (some (p, .iload k, ln, a, b, t, v)) n pc ls st h d kc ks = (match zi_ld ls d k with | some x => zi_go ms scr nL ret code mc mS call n (pc + ln) ls (x :: st) h d kc ks | none => none) := by
  unfold zi_on
  dsimp only [zi_ask, zi_new, zi_step]
  cases zi_ld ls d k <;> rfl
theorem zg_aload_n {k : Fin 4} : zi_on ms scr nL ret code mc mS call (some (p, .aload_n k, ln, a, b, t, v)) n pc ls st h d kc ks = (match zi_lda ls k.val with | some x => zi_go ms scr nL ret code mc mS call n (pc + ln) ls (x :: st) h d kc ks | none => none) := by
  unfold zi_on
  dsimp only [zi_ask, zi_new, zi_step]
  cases zi_lda ls k.val <;> rfl
theorem zg_aload {k : Nat} : zi_on ms scr nL ret code mc mS call (some (p, .aload k, ln, a, b, t, v)) n pc ls st h d kc ks = (match zi_lda ls k with | some x => zi_go ms scr nL ret code mc mS call n (pc + ln) ls (x :: st) h d kc ks | none => none) := by
  unfold zi_on
  dsimp only [zi_ask, zi_new, zi_step]
  cases zi_lda ls k <;> rfl
theorem zg_istore_n {k : Fin 4} {x : Value} : zi_on ms scr nL ret code mc mS call (some (p, .istore_n k, ln, a, b, t, v)) n pc ls (x :: rest) h d kc ks = (if zi_isI x = true ∧ k.val < nL then zi_go ms scr nL ret code mc mS call n (pc + ln) (zi_set ls k.val x) rest h d kc ks else none) := by
  unfold zi_on
  dsimp only [zi_ask, zi_new, zi_step]
  by_cases c : zi_isI x = true ∧ k.val < nL
  · simp only [if_pos c]
  · simp only [if_neg c]
theorem zg_istore {k : Nat} {x : Value} : zi_on ms scr nL ret code mc mS call (some (p, .istore k, ln, a, b, t, v)) n pc ls (x :: rest) h d kc ks = (if zi_isI x = true ∧ k < nL then zi_go ms scr nL ret code mc mS call n (pc + ln) (zi_set ls k x) rest h d kc ks else none) := by
  unfold zi_on
  dsimp only [zi_ask, zi_new, zi_step]
  by_cases c : zi_isI x = true ∧ k < nL
  · simp only [if_pos c]
  · simp only [if_neg c]
theorem zg_astore_n {k : Fin 4} {x : Nat} : zi_on ms scr nL ret code mc mS call (some (p, .astore_n k, ln, a, b, t, v)) n pc ls (.ref x :: rest) h d kc ks = (if k.val < nL then zi_go ms scr nL ret code mc mS call n (pc + ln) (zi_set ls k.val (.ref x)) rest h d kc ks else none) := by
  unfold zi_on
  dsimp only [zi_ask, zi_new, zi_step]
  by_cases c : k.val < nL
  · simp only [if_pos c]
  · simp only [if_neg c]
theorem zg_astore {k : Nat} {x : Nat} : zi_on ms scr nL ret code mc mS call (some (p, .astore k, ln, a, b, t, v)) n pc ls (.ref x :: rest) h d kc ks = (if k < nL then zi_go ms scr nL ret code mc mS call n (pc + ln) (zi_set ls k (.ref x)) rest h d kc ks else none) := by
  unfold zi_on
  dsimp only [zi_ask, zi_new, zi_step]
  by_cases c : k < nL
  · simp only [if_pos c]
  · simp only [if_neg c]
theorem zg_iinc {k : Nat} {x : Int} {y : Int32} (e : zi_get ls k = some (.int y)) : zi_on ms scr nL ret code mc mS call (some (p, .iinc k x, ln, a, b, t, v)) n pc ls st h d kc ks = (if k < nL then zi_go ms scr nL ret code mc mS call n (pc + ln) (zi_set ls k (.int (y + Int32.ofInt x))) st h d kc ks else none) := by
  unfold zi_on
  dsimp only [zi_ask, zi_new, zi_step]
  rw [e]
  dsimp only
  by_cases c : k < nL
  · simp only [if_pos c]
  · simp only [if_neg c]
theorem zg_iadd {x y : Int32} : zi_on ms scr nL ret code mc mS call (some (p, .iadd, ln, a, b, t, v)) n pc ls (.int y :: .int x :: rest) h d kc ks = zi_go ms scr nL ret code mc mS call n (pc + ln) ls (.int (x + y) :: rest) h d kc ks := rfl
theorem zg_isub {x y : Int32} : zi_on ms scr nL ret code mc mS call (some (p, .isub, ln, a, b, t, v)) n pc ls (.int y :: .int x :: rest) h d kc ks = zi_go ms scr nL ret code mc mS call n (pc + ln) ls (.int (x - y) :: rest) h d kc ks := rfl
theorem zg_imul {x y : Int32} : zi_on ms scr nL ret code mc mS call (some (p, .imul, ln, a, b, t, v)) n pc ls (.int y :: .int x :: rest) h d kc ks = zi_go ms scr nL ret code mc mS call n (pc + ln) ls (.int (x * y) :: rest) h d kc ks := rfl
theorem zg_iand {x y : Int32} : zi_on ms scr nL ret code mc mS call (some (p, .iand, ln, a, b, t, v)) n pc ls (.int y :: .int x :: rest) h d kc ks = zi_go ms scr nL ret code mc mS call n (pc + ln) ls (.int (x &&& y) :: rest) h d kc ks := rfl
theorem zg_ixor {x y : Int32} : zi_on ms scr nL ret code mc mS call (some (p, .ixor, ln, a, b, t, v)) n pc ls (.int y :: .int x :: rest) h d kc ks = zi_go ms scr nL ret code mc mS call n (pc + ln) ls (.int (x ^^^ y) :: rest) h d kc ks := rfl
theorem zg_idiv {x y : Int32} : zi_on ms scr nL ret code mc mS call (some (p, .idiv, ln, a, b, t, v)) n pc ls (.int y :: .int x :: rest) h d kc ks = (if y = 0 then none else zi_go ms scr nL ret code mc mS call n (pc + ln) ls (.int (x / y) :: rest) h d kc ks) := by
  unfold zi_on
  dsimp only [zi_ask, zi_new, zi_step]
  by_cases c : y = 0
  · simp only [if_pos c]
  · simp only [if_neg c]
theorem zg_irem {x y : Int32} : zi_on ms scr nL ret code mc mS call (some (p, .irem, ln, a, b, t, v)) n pc ls (.int y :: .int x :: rest) h d kc ks = (if y = 0 then none else zi_go ms scr nL ret code mc mS call n (pc + ln) ls (.int (x - x / y * y) :: rest) h d kc ks) := by
  unfold zi_on
  dsimp only [zi_ask, zi_new, zi_step]
  by_cases c : y = 0
  · simp only [if_pos c]
  · simp only [if_neg c]
theorem zg_dup {x : Value} : zi_on ms scr nL ret code mc mS call (some (p, .dup, ln, a, b, t, v)) n pc ls (x :: rest) h d kc ks = (if x.category = 1 then zi_go ms scr nL ret code mc mS call n (pc + ln) ls (x :: x :: rest) h d kc ks else none) := by
  unfold zi_on
  dsimp only [zi_ask, zi_new, zi_step]
  by_cases c : x.category = 1
  · simp only [if_pos c]
  · simp only [if_neg c]
theorem zg_dup2 {x y : Value} : zi_on ms scr nL ret code mc mS call (some (p, .dup2, ln, a, b, t, v)) n pc ls (x :: y :: rest) h d kc ks = (if x.category = 1 ∧ y.category = 1 then zi_go ms scr nL ret code mc mS call n (pc + ln) ls (x :: y :: x :: y :: rest) h d kc ks else none) := by
  unfold zi_on
  dsimp only [zi_ask, zi_new, zi_step]
  by_cases c : x.category = 1 ∧ y.category = 1
  · simp only [if_pos c]
  · simp only [if_neg c]
theorem zg_pop {x : Value} : zi_on ms scr nL ret code mc mS call (some (p, .pop, ln, a, b, t, v)) n pc ls (x :: rest) h d kc ks = (if x.category = 1 then zi_go ms scr nL ret code mc mS call n (pc + ln) ls rest h d kc ks else none) := by
  unfold zi_on
  dsimp only [zi_ask, zi_new, zi_step]
  by_cases c : x.category = 1
  · simp only [if_pos c]
  · simp only [if_neg c]
theorem zg_getfield {j r : Nat} : zi_on ms scr nL ret code mc mS call (some (p, .getfield j, ln, a, b, t, v)) n pc ls (.ref (r + 1) :: rest) h d kc ks = (match zi_gf h a b r with | some x => zi_go ms scr nL ret code mc mS call n (pc + ln) ls (x :: rest) h d kc ks | none => none) := by
  unfold zi_on
  dsimp only [zi_ask, zi_new, zi_step]
  cases zi_gf h a b r <;> rfl
theorem zg_putfield {j r : Nat} {x : Value} : zi_on ms scr nL ret code mc mS call (some (p, .putfield j, ln, a, b, t, v)) n pc ls (x :: .ref (r + 1) :: rest) h d kc ks = (match zi_pf h a b r x with | some h' => zi_go ms scr nL ret code mc mS call n (pc + ln) ls rest h' d kc ks | none => none) := by
  unfold zi_on
  dsimp only [zi_ask, zi_new, zi_step]
  cases zi_pf h a b r x <;> rfl
theorem zg_iaload {j : Int32} {r : Nat} : zi_on ms scr nL ret code mc mS call (some (p, .iaload, ln, a, b, t, v)) n pc ls (.int j :: .ref r :: rest) h d kc ks = (match zi_iald scr d h j r with | some x => zi_go ms scr nL ret code mc mS call n (pc + ln) ls (x :: rest) h d kc ks | none => none) := by
  unfold zi_on
  dsimp only [zi_ask, zi_new, zi_step]
  cases zi_iald scr d h j r <;> rfl
theorem zg_baload {j : Int32} {r : Nat} : zi_on ms scr nL ret code mc mS call (some (p, .baload, ln, a, b, t, v)) n pc ls (.int j :: .ref (r + 1) :: rest) h d kc ks = (match zi_bald h j r with | some x => zi_go ms scr nL ret code mc mS call n (pc + ln) ls (x :: rest) h d kc ks | none => none) := by
  unfold zi_on
  dsimp only [zi_ask, zi_new, zi_step]
  cases zi_bald h j r <;> rfl
theorem zg_aaload {j : Int32} {r : Nat} : zi_on ms scr nL ret code mc mS call (some (p, .aaload, ln, a, b, t, v)) n pc ls (.int j :: .ref (r + 1) :: rest) h d kc ks = (match zi_aald h j r with | some x => zi_go ms scr nL ret code mc mS call n (pc + ln) ls (x :: rest) h d kc ks | none => none) := by
  unfold zi_on
  dsimp only [zi_ask, zi_new, zi_step]
  cases zi_aald h j r <;> rfl
theorem zg_iastore {j : Int32} {r : Nat} {x : Value} : zi_on ms scr nL ret code mc mS call (some (p, .iastore, ln, a, b, t, v)) n pc ls (x :: .int j :: .ref (r + 1) :: rest) h d kc ks = (match zi_iast h j r x with | some h' => zi_go ms scr nL ret code mc mS call n (pc + ln) ls rest h' d kc ks | none => none) := by
  unfold zi_on
  dsimp only [zi_ask, zi_new, zi_step]
  cases zi_iast h j r x <;> rfl
theorem zg_bastore {x j : Int32} {r : Nat} : zi_on ms scr nL ret code mc mS call (some (p, .bastore, ln, a, b, t, v)) n pc ls (.int x :: .int j :: .ref (r + 1) :: rest) h d kc ks = (match zi_bast h j r x with | some h' => zi_go ms scr nL ret code mc mS call n (pc + ln) ls rest h' d kc ks | none => none) := by
  unfold zi_on
  dsimp only [zi_ask, zi_new, zi_step]
  cases zi_bast h j r x <;> rfl
theorem zg_arraylength {r : Nat} : zi_on ms scr nL ret code mc mS call (some (p, .arraylength, ln, a, b, t, v)) n pc ls (.ref r :: rest) h d kc ks = (match zi_alen scr h r with | some x => zi_go ms scr nL ret code mc mS call n (pc + ln) ls (x :: rest) h d kc ks | none => none) := by
  unfold zi_on
  dsimp only [zi_ask, zi_new, zi_step]
  cases zi_alen scr h r <;> rfl
theorem zg_lconst {x : Fin 2} : zi_on ms scr nL ret code mc mS call (some (p, .lconst x, ln, a, b, t, v)) n pc ls st h d kc ks = zi_go ms scr nL ret code mc mS call n (pc + ln) ls (.long (Int64.ofNat x.val) :: st) h d kc ks := rfl
theorem zg_ldc2_w {j : Nat} : zi_on ms scr nL ret code mc mS call (some (p, .ldc2_w j, ln, a, b, t, v)) n pc ls st h d kc ks = zi_go ms scr nL ret code mc mS call n (pc + ln) ls (.long (Int64.ofInt v) :: st) h d kc ks := rfl
theorem zg_i2l {x : Int32} : zi_on ms scr nL ret code mc mS call (some (p, .i2l, ln, a, b, t, v)) n pc ls (.int x :: rest) h d kc ks = zi_go ms scr nL ret code mc mS call n (pc + ln) ls (.long x.toInt64 :: rest) h d kc ks := rfl
theorem zg_l2i {x : Int64} : zi_on ms scr nL ret code mc mS call (some (p, .l2i, ln, a, b, t, v)) n pc ls (.long x :: rest) h d kc ks = zi_go ms scr nL ret code mc mS call n (pc + ln) ls (.int x.toInt32 :: rest) h d kc ks := rfl
theorem zg_lshl {y : Int32} {x : Int64} : zi_on ms scr nL ret code mc mS call (some (p, .lshl, ln, a, b, t, v)) n pc ls (.int y :: .long x :: rest) h d kc ks = zi_go ms scr nL ret code mc mS call n (pc + ln) ls (.long (x <<< (y.toInt64 &&& 63)) :: rest) h d kc ks := rfl
theorem zg_lshr {y : Int32} {x : Int64} : zi_on ms scr nL ret code mc mS call (some (p, .lshr, ln, a, b, t, v)) n pc ls (.int y :: .long x :: rest) h d kc ks = zi_go ms scr nL ret code mc mS call n (pc + ln) ls (.long (x >>> (y.toInt64 &&& 63)) :: rest) h d kc ks := rfl
theorem zg_lor {x y : Int64} : zi_on ms scr nL ret code mc mS call (some (p, .lor, ln, a, b, t, v)) n pc ls (.long y :: .long x :: rest) h d kc ks = zi_go ms scr nL ret code mc mS call n (pc + ln) ls (.long (x ||| y) :: rest) h d kc ks := rfl
theorem zg_land {x y : Int64} : zi_on ms scr nL ret code mc mS call (some (p, .land, ln, a, b, t, v)) n pc ls (.long y :: .long x :: rest) h d kc ks = zi_go ms scr nL ret code mc mS call n (pc + ln) ls (.long (x &&& y) :: rest) h d kc ks := rfl
theorem zg_lload_n {k : Fin 4} {y : Int64} (e : zi_get ls k.val = some (.long y)) : zi_on ms scr nL ret code mc mS call (some (p, .lload_n k, ln, a, b, t, v)) n pc ls st h d kc ks = zi_go ms scr nL ret code mc mS call n (pc + ln) ls (.long y :: st) h d kc ks := by
  unfold zi_on
  dsimp only [zi_ask, zi_new, zi_step]
  rw [e]
theorem zg_lstore_n {k : Fin 4} {x : Int64} : zi_on ms scr nL ret code mc mS call (some (p, .lstore_n k, ln, a, b, t, v)) n pc ls (.long x :: rest) h d kc ks = (if k.val + 1 < nL then zi_go ms scr nL ret code mc mS call n (pc + ln) (zi_set2 ls k.val (.long x)) rest h d kc ks else none) := by
  unfold zi_on
  dsimp only [zi_ask, zi_new, zi_step]
  by_cases c : k.val + 1 < nL
  · simp only [if_pos c]
  · simp only [if_neg c]
theorem zg_ireturn {x : Value} : zi_on ms scr nL ret code mc mS call (some (p, .ireturn, ln, a, b, t, v)) n pc ls [x] h d kc ks = (if zi_retOk ret x then some [(d, some x, h)] else none) := rfl
theorem zg_areturn {x : Nat} : zi_on ms scr nL ret code mc mS call (some (p, .areturn, ln, a, b, t, v)) n pc ls [.ref x] h d kc ks = (if zi_retA ret then some [(d, some (.ref x), h)] else none) := rfl
theorem zg_return : zi_on ms scr nL ret code mc mS call (some (p, .return_, ln, a, b, t, v)) n pc ls [] h d kc ks = (if ret = none then some [(d, none, h)] else none) := rfl
theorem zg_goto {x : Int} : zi_on ms scr nL ret code mc mS call (some (p, .goto x, ln, a, b, t, v)) n pc ls st h d kc ks = zi_go ms scr nL ret code mc mS call n a ls st h d kc ks := rfl
theorem zg_ifCond {c : _} {x : Int} {y : Int32} : zi_on ms scr nL ret code mc mS call (some (p, (.ifCond c x), ln, a, b, t, v)) n pc ls (.int y :: rest) h d kc ks = (if zi_cmp c y 0 then zi_go ms scr nL ret code mc mS call n a ls rest h d kc ks else zi_go ms scr nL ret code mc mS call n (pc + 3) ls rest h d kc ks) := rfl
theorem zg_if_icmp {c : _} {x : Int} {y z : Int32} : zi_on ms scr nL ret code mc mS call (some (p, (.if_icmp c x), ln, a, b, t, v)) n pc ls (.int y :: .int z :: rest) h d kc ks = (if zi_cmp c z y then zi_go ms scr nL ret code mc mS call n a ls rest h d kc ks else zi_go ms scr nL ret code mc mS call n (pc + 3) ls rest h d kc ks) := rfl
theorem zg_invokespecial {j : Nat} : zi_on ms scr nL ret code mc mS call (some (p, .invokespecial j, ln, a, b, t, v)) n pc ls st h d kc ks = (
          if a = 999 then (match st with | .ref (x + 1) :: rest => if rest.length ≤ 4 then zi_go ms scr nL ret code mc mS call n (pc + 3) ls rest h d kc ks else none | _ => none)
          else (match ms[a]? with
            | none => none
            | some mt => if (st.drop b).length ≤ 4 ∧ kc + mt.2.2.2.2.2.1 ≤ mc ∧ ks + mt.2.2.2.2.2.2 ≤ mS ∧ b ≤ st.length ∧ (mt.2.2.2.2.2.1 = 0 ∨ (zi_wfc h.length ls = true ∧ zi_wfl h.length (st.drop b) = true)) then
                (match (st.take b).reverse with
                | .ref (x + 1) :: tl => (match call a (.ref (x + 1) :: tl) h d with
                  | none => none
                  | some [o] => zi_go ms scr nL ret code mc mS call n (pc + 3) ls (o.2.1.toList ++ st.drop b) o.2.2 o.1 (kc + mt.2.2.2.2.2.1) (ks + mt.2.2.2.2.2.2)
                  | some os => zi_bind os (fun o => zi_go ms scr nL ret code mc mS call n (pc + 3) ls (o.2.1.toList ++ st.drop b) o.2.2 o.1 (kc + mt.2.2.2.2.2.1) (ks + mt.2.2.2.2.2.2)))
                | _ => none)
              else none)) := rfl
theorem zg_invokestatic {j : Nat} : zi_on ms scr nL ret code mc mS call (some (p, .invokestatic j, ln, a, b, t, v)) n pc ls st h d kc ks = ( if a = 997 then (match st with
            | .int n0 :: .int dp :: .ref (r1 + 1) :: .int sp :: .ref (r0 + 1) :: rest => if rest.length ≤ 4 then (match zi_cpy h r0 sp r1 dp n0 with
              | some h' => zi_go ms scr nL ret code mc mS call n (pc + 3) ls rest h' d kc ks
              | none => none) else none
            | _ => none)
          else (match ms[a]? with
            | none => none
            | some mt => if (st.drop b).length ≤ 4 ∧ kc + mt.2.2.2.2.2.1 ≤ mc ∧ ks + mt.2.2.2.2.2.2 ≤ mS ∧ b ≤ st.length ∧ (mt.2.2.2.2.2.1 = 0 ∨ (zi_wfc h.length ls = true ∧ zi_wfl h.length (st.drop b) = true)) then
                (match call a (st.take b).reverse h d with
                | none => none
                | some [o] => zi_go ms scr nL ret code mc mS call n (pc + 3) ls (o.2.1.toList ++ st.drop b) o.2.2 o.1 (kc + mt.2.2.2.2.2.1) (ks + mt.2.2.2.2.2.2)
                | some os => zi_bind os (fun o => zi_go ms scr nL ret code mc mS call n (pc + 3) ls (o.2.1.toList ++ st.drop b) o.2.2 o.1 (kc + mt.2.2.2.2.2.1) (ks + mt.2.2.2.2.2.2)))
              else none)) := rfl
theorem zg_invokevirtual {j : Nat} : zi_on ms scr nL ret code mc mS call (some (p, .invokevirtual j, ln, a, b, t, v)) n pc ls st h d kc ks = ( (match ms[a]? with
            | none => none
            | some mt => if (st.drop b).length ≤ 4 ∧ kc + mt.2.2.2.2.2.1 ≤ mc ∧ ks + mt.2.2.2.2.2.2 ≤ mS ∧ b ≤ st.length ∧ (mt.2.2.2.2.2.1 = 0 ∨ (zi_wfc h.length ls = true ∧ zi_wfl h.length (st.drop b) = true)) then
                (match (st.take b).reverse with
                | .ref (x + 1) :: tl => (match h[x]? with
                  | some (t, _) => if (t : Int) =  v ∧ t < 7 then
                    (match call a (.ref (x + 1) :: tl) h d with
                    | none => none
                    | some [o] => zi_go ms scr nL ret code mc mS call n (pc + 3) ls (o.2.1.toList ++ st.drop b) o.2.2 o.1 (kc + mt.2.2.2.2.2.1) (ks + mt.2.2.2.2.2.2)
                    | some os => zi_bind os (fun o => zi_go ms scr nL ret code mc mS call n (pc + 3) ls (o.2.1.toList ++ st.drop b) o.2.2 o.1 (kc + mt.2.2.2.2.2.1) (ks + mt.2.2.2.2.2.2))) else none
                  | none => none)
                | _ => none)
              else none)) := rfl
theorem zg_tableswitch {x lo hi : Int} {offs : Array Int} {y : Int32} : zi_on ms scr nL ret code mc mS call (some (p, (.tableswitch x lo hi offs), ln, a, b, t, v)) n pc ls (.int y :: rest) h d kc ks = (if y.toInt < lo ∨ hi < y.toInt then (if (pc : Int) + x = (((pc : Int) + x).toNat : Int) then zi_go ms scr nL ret code mc mS call n ((pc : Int) + x).toNat ls rest h d kc ks else none) else (match offs[(y.toInt - lo).toNat]? with | some off => if (pc : Int) + off = (((pc : Int) + off).toNat : Int) then zi_go ms scr nL ret code mc mS call n ((pc : Int) + off).toNat ls rest h d kc ks else none | none => none)) := rfl
end ZGL
