/-! a big-step interpreter over abstract cells, with unknown ints (.float k: the unknown number k) -/
noncomputable abbrev zi_Hp : Type := List (Nat × List Value)
noncomputable abbrev zi_Lc : Type := List (Nat × Value)
noncomputable abbrev zi_Iv : Type := List (Int × Int)
noncomputable abbrev zi_Dm : Type := List zi_Iv
noncomputable abbrev zi_Out : Type := zi_Dm × Option Value × zi_Hp
/-- pc, instruction, its length, resolved numbers a b, place t of its word in the tables, number v -/
noncomputable abbrev zi_Row : Type := Nat × Instr × Nat × Nat × Nat × Nat × Int
/-- name, bytes, max locals, return type, rows, most cells, most slots -/
noncomputable abbrev zi_Me : Type := MethodName × ByteArray × Nat × Option FieldType × List zi_Row × Nat × Nat
noncomputable def zi_clip (lo hi : Int) (l : zi_Iv) : zi_Iv := l.filterMap (fun q => if max q.1 lo ≤ min q.2 hi then some (max q.1 lo, min q.2 hi) else none)
noncomputable def zi_T (c : ClassFile.Cond) (v : Int) (l : zi_Iv) : zi_Iv := match c with
  | .eq => zi_clip v v l
  | .ne => zi_clip (-2147483648) (v - 1) l ++ zi_clip (v + 1) 2147483647 l
  | .lt => zi_clip (-2147483648) (v - 1) l
  | .ge => zi_clip v 2147483647 l
  | .gt => zi_clip (v + 1) 2147483647 l
  | .le => zi_clip (-2147483648) v l
noncomputable def zi_neg (c : ClassFile.Cond) : ClassFile.Cond := match c with
  | .eq => .ne | .ne => .eq | .lt => .ge | .ge => .lt | .gt => .le | .le => .gt
noncomputable def zi_swap (c : ClassFile.Cond) : ClassFile.Cond := match c with
  | .eq => .eq | .ne => .ne | .lt => .gt | .ge => .le | .gt => .lt | .le => .ge
noncomputable def zi_cmp (c : ClassFile.Cond) (x y : Int32) : Bool := match c with
  | .eq => decide (x = y) | .ne => decide (¬ x = y) | .lt => decide (x < y) | .ge => decide (y ≤ x) | .gt => decide (y < x) | .le => decide (x ≤ y)
noncomputable def zi_get (L : zi_Lc) (k : Nat) : Option Value := (L.find? (fun q => q.1 == k)).map (fun q => q.2)
noncomputable def zi_set (L : zi_Lc) (k : Nat) (v : Value) : zi_Lc := (k, v) :: L.filter (fun q => !(q.1 == k) && !(q.1 + 1 == k && q.2.category == 2))
noncomputable def zi_set2 (L : zi_Lc) (k : Nat) (v : Value) : zi_Lc := (k, v) :: L.filter (fun q => !(q.1 == k) && (!(q.1 == k + 1) && !(q.1 + 1 == k && q.2.category == 2)))
noncomputable def zi_isI (v : Value) : Bool := match v with | .int _ => true | .float _ => true | _ => false
/-- an unknown of which one value is left -/
noncomputable def zi_nm (d : zi_Dm) (v : Value) : Value := match v with
  | .float k => (match d[k.toNat]? with | some [q] => if q.1 = q.2 then .int (Int32.ofInt q.1) else .float k | _ => .float k)
  | v => v
noncomputable def zi_in (j : Int32) (n : Nat) : Bool := decide (¬ (j < 0 ∨ n ≤ j.toNatClampNeg))
noncomputable def zi_wfv (n : Nat) (v : Value) : Bool := match v with | .ref (i + 1) => decide (i < n) | _ => true
noncomputable def zi_wfl (n : Nat) (l : List Value) : Bool := l.all (zi_wfv n)
noncomputable def zi_wfc (n : Nat) (L : zi_Lc) : Bool := L.all (fun q => zi_wfv n q.2)
noncomputable def zi_wfh (h : zi_Hp) : Bool := h.all (fun c => c.1 == 7 || c.1 == 8 || zi_wfl h.length c.2)
noncomputable def zi_iop (i : Instr) (x y : Int32) : Option Int32 := match i with
  | .iadd => some (x + y) | .isub => some (x - y) | .imul => some (x * y) | .iand => some (x &&& y)
  | .idiv => if y = 0 then none else some (x / y)
  | .irem => if y = 0 then none else some (x - x / y * y)
  | _ => none
noncomputable def zi_ty (ci k : Nat) : FieldType := match ci with
  | 0 => tyX0 k | 1 => tyX1 k | 2 => tyX2 k | 3 => tyX3 k | 4 => tyX4 k | 5 => tyX5 k | _ => tyX6 k
noncomputable def zi_fld (ci : Nat) : Nat := match ci with
  | 0 => 4 | 1 => 2 | 2 => 4 | 3 => 16 | 4 => 6 | 5 => 9 | _ => 33
/-- may a field of this type take it? -/
noncomputable def zi_fit (ty : FieldType) (v : Value) : Bool := match ty, v with
  | .boolean, .int x => decide (x = 0) || decide (x = 1)
  | .int, .int _ => true
  | .int, .float _ => true
  | .object _, .ref _ => true
  | .object _, .null => true
  | .array _, .ref _ => true
  | .array _, .null => true
  | _, _ => false
noncomputable def zi_ld (ls : zi_Lc) (d : zi_Dm) (k : Nat) : Option Value := match zi_get ls k with
  | some (.int x) => some (.int x)
  | some (.float q) => some (zi_nm d (.float q))
  | _ => none
noncomputable def zi_lda (ls : zi_Lc) (k : Nat) : Option Value := match zi_get ls k with
  | some (.ref r) => some (.ref r)
  | _ => none
noncomputable def zi_iald (scr : Option (List Value)) (d : zi_Dm) (h : zi_Hp) (j : Int32) (r : Nat) : Option Value := match r with
  | 0 => (match scr with
    | some l => if zi_in j l.length then (match l[j.toNatClampNeg]? with | some (.int x) => some (.int x) | some (.float q) => some (zi_nm d (.float q)) | _ => none) else none
    | none => none)
  | r + 1 => (match h[r]? with
    | some (7, l) => if zi_in j l.length then (match l[j.toNatClampNeg]? with | some (.int x) => some (.int x) | some (.float q) => some (zi_nm d (.float q)) | _ => none) else none
    | _ => none)
noncomputable def zi_bald (h : zi_Hp) (j : Int32) (r : Nat) : Option Value := match h[r]? with
  | some (8, l) => if zi_in j l.length then (match l[j.toNatClampNeg]? with | some (.int x) => some (.int x) | _ => none) else none
  | _ => none
noncomputable def zi_aald (h : zi_Hp) (j : Int32) (r : Nat) : Option Value := match h[r]? with
  | some (t, l) => if decide (9 ≤ t ∧ t ≤ 11) && zi_in j l.length then (match l[j.toNatClampNeg]? with | some (.ref (x + 1)) => some (.ref (x + 1)) | some .null => some .null | _ => none) else none
  | _ => none
noncomputable def zi_iast (h : zi_Hp) (j : Int32) (r : Nat) (v : Value) : Option zi_Hp := match h[r]? with
  | some (7, l) => if zi_in j l.length && zi_isI v then some (h.set r (7, l.set j.toNatClampNeg v)) else none
  | _ => none
noncomputable def zi_bast (h : zi_Hp) (j : Int32) (r : Nat) (x : Int32) : Option zi_Hp := match h[r]? with
  | some (8, l) => if zi_in j l.length && (decide (x = 0) || decide (x = 1)) then some (h.set r (8, l.set j.toNatClampNeg (.int x))) else none
  | _ => none
noncomputable def zi_el (t : Nat) : Nat := if t = 9 then 2 else 4
noncomputable def zi_aast (h : zi_Hp) (j : Int32) (r q : Nat) : Option zi_Hp := match h[r]? with
  | some (t, l) => if decide (t = 9 ∨ t = 10) && zi_in j l.length then (match h[q]? with | some (ci, _) => if ci = zi_el t then some (h.set r (t, l.set j.toNatClampNeg (.ref (q + 1)))) else none | none => none) else none
  | _ => none
noncomputable def zi_alen (scr : Option (List Value)) (h : zi_Hp) (r : Nat) : Option Value := match r with
  | 0 => (match scr with | some l => some (.int (Int32.ofNat l.length)) | none => none)
  | r + 1 => (match h[r]? with | some (t, l) => if 7 ≤ t ∧ t ≤ 11 then some (.int (Int32.ofNat l.length)) else none | _ => none)
noncomputable def zi_gf (h : zi_Hp) (a b r : Nat) : Option Value := match h[r]? with
  | some (t, fs) => if t = a ∧ a < 7 then fs[b]? else none
  | none => none
noncomputable def zi_pf (h : zi_Hp) (a b r : Nat) (v : Value) : Option zi_Hp := match h[r]? with
  | some (t, fs) => if t = a ∧ a < 7 ∧ b < fs.length ∧ zi_fit (zi_ty a b) v = true then some (h.set r (t, fs.set b v)) else none
  | none => none
/-- an instruction that goes on behind itself and makes nothing -/
noncomputable def zi_step (scr : Option (List Value)) (nL : Nat) (d : zi_Dm) (r : zi_Row) (ls : zi_Lc) (st : List Value) (h : zi_Hp) : Option (zi_Lc × List Value × zi_Hp) :=
  match r with
  | (_, i, _, a, b, _, v) => match i with
    | .iconst n => some (ls, .int (Int32.ofInt n) :: st, h)
    | .bipush n => some (ls, .int (Int8.ofInt n).toInt32 :: st, h)
    | .sipush n => some (ls, .int (Int16.ofInt n).toInt32 :: st, h)
    | .ldc _ => some (ls, .int (Int32.ofInt v) :: st, h)
    | .ldc_w _ => some (ls, .int (Int32.ofInt v) :: st, h)
    | .iload_n k => (zi_ld ls d k.val).map (fun x => (ls, x :: st, h))
    | .iload k => (zi_ld ls d k).map (fun x => (ls, x :: st, h))
    | .aload_n k => (zi_lda ls k.val).map (fun x => (ls, x :: st, h))
    | .aload k => (zi_lda ls k).map (fun x => (ls, x :: st, h))
    | .istore_n k => (match st with | x :: rest => if zi_isI x = true ∧ k.val < nL then some (zi_set ls k.val x, rest, h) else none | _ => none)
    | .istore k => (match st with | x :: rest => if zi_isI x = true ∧ k < nL then some (zi_set ls k x, rest, h) else none | _ => none)
    | .astore_n k => (match st with | .ref x :: rest => if k.val < nL then some (zi_set ls k.val (.ref x), rest, h) else none | _ => none)
    | .astore k => (match st with | .ref x :: rest => if k < nL then some (zi_set ls k (.ref x), rest, h) else none | _ => none)
    | .iinc k n => (match zi_get ls k with | some (.int x) => if k < nL then some (zi_set ls k (.int (x + Int32.ofInt n)), st, h) else none | _ => none)
    | .iadd => (match st with | .int y :: .int x :: rest => some (ls, .int (x + y) :: rest, h) | _ => none)
    | .isub => (match st with | .int y :: .int x :: rest => some (ls, .int (x - y) :: rest, h) | _ => none)
    | .imul => (match st with | .int y :: .int x :: rest => some (ls, .int (x * y) :: rest, h) | _ => none)
    | .iand => (match st with
      | .int y :: .int x :: rest => some (ls, .int (x &&& y) :: rest, h)
      | .int y :: .float k :: rest => if y = 31 ∧ k.toNat = 0 then some (ls, .float 5 :: rest, h) else none
      | _ => none)
    | .idiv => (match st with | .int y :: .int x :: rest => if y = 0 then none else some (ls, .int (x / y) :: rest, h) | _ => none)
    | .irem => (match st with | .int y :: .int x :: rest => if y = 0 then none else some (ls, .int (x - x / y * y) :: rest, h) | _ => none)
    | .dup => (match st with | x :: rest => if x.category = 1 then some (ls, x :: x :: rest, h) else none | _ => none)
    | .dup2 => (match st with | x :: y :: rest => if x.category = 1 ∧ y.category = 1 then some (ls, x :: y :: x :: y :: rest, h) else none | _ => none)
    | .getfield _ => (match st with | .ref (r + 1) :: rest => (zi_gf h a b r).map (fun x => (ls, x :: rest, h)) | _ => none)
    | .putfield _ => (match st with | x :: .ref (r + 1) :: rest => (zi_pf h a b r x).map (fun h' => (ls, rest, h')) | _ => none)
    | .iaload => (match st with | .int j :: .ref r :: rest => (zi_iald scr d h j r).map (fun x => (ls, x :: rest, h)) | _ => none)
    | .baload => (match st with | .int j :: .ref (r + 1) :: rest => (zi_bald h j r).map (fun x => (ls, x :: rest, h)) | _ => none)
    | .aaload => (match st with | .int j :: .ref (r + 1) :: rest => (zi_aald h j r).map (fun x => (ls, x :: rest, h)) | _ => none)
    | .iastore => (match st with | x :: .int j :: .ref (r + 1) :: rest => (zi_iast h j r x).map (fun h' => (ls, rest, h')) | _ => none)
    | .bastore => (match st with | .int x :: .int j :: .ref (r + 1) :: rest => (zi_bast h j r x).map (fun h' => (ls, rest, h')) | _ => none)
    | .aastore => (match st with | .ref (q + 1) :: .int j :: .ref (r + 1) :: rest => (zi_aast h j r q).map (fun h' => (ls, rest, h')) | _ => none)
    | .arraylength => (match st with | .ref r :: rest => (zi_alen scr h r).map (fun x => (ls, x :: rest, h)) | _ => none)
    | .pop => (match st with | x :: rest => if x.category = 1 then some (ls, rest, h) else none | _ => none)
    | .ixor => (match st with | .int y :: .int x :: rest => some (ls, .int (x ^^^ y) :: rest, h) | _ => none)
    | .lconst n => some (ls, .long (Int64.ofNat n.val) :: st, h)
    | .ldc2_w _ => some (ls, .long (Int64.ofInt v) :: st, h)
    | .lload_n k => (match zi_get ls k.val with | some (.long x) => some (ls, .long x :: st, h) | _ => none)
    | .lstore_n k => (match st with | .long x :: rest => if k.val + 1 < nL then some (zi_set2 ls k.val (.long x), rest, h) else none | _ => none)
    | .i2l => (match st with | .int x :: rest => some (ls, .long x.toInt64 :: rest, h) | _ => none)
    | .l2i => (match st with | .long x :: rest => some (ls, .int x.toInt32 :: rest, h) | _ => none)
    | .lshl => (match st with | .int y :: .long x :: rest => some (ls, .long (x <<< (y.toInt64 &&& 63)) :: rest, h) | _ => none)
    | .lshr => (match st with | .int y :: .long x :: rest => some (ls, .long (x >>> (y.toInt64 &&& 63)) :: rest, h) | _ => none)
    | .lor => (match st with | .long y :: .long x :: rest => some (ls, .long (x ||| y) :: rest, h) | _ => none)
    | .land => (match st with | .long y :: .long x :: rest => some (ls, .long (x &&& y) :: rest, h) | _ => none)
    | _ => none
/-- System.arraycopy of ints -/
noncomputable def zi_cpy (h : zi_Hp) (r0 : Nat) (sp : Int32) (r1 : Nat) (dp n : Int32) : Option zi_Hp := match h[r0]?, h[r1]? with
  | some (7, l0), some (7, l1) => if sp < 0 ∨ dp < 0 ∨ n < 0 ∨ l0.length < sp.toNatClampNeg + n.toNatClampNeg ∨ l1.length < dp.toNatClampNeg + n.toNatClampNeg then none
      else some (h.set r1 (7, l1.take dp.toNatClampNeg ++ ((l0.drop sp.toNatClampNeg).take n.toNatClampNeg ++ l1.drop (dp.toNatClampNeg + n.toNatClampNeg))))
  | _, _ => none
/-- an instruction that makes cells: the new heap, the reference on top, cells and slots -/
noncomputable def zi_new (r : zi_Row) (st : List Value) (h : zi_Hp) : Option (List Value × zi_Hp × Nat × Nat) :=
  match r with
  | (_, i, _, a, _, _, _) => match i with
    | .new _ => if a < 7 then some (.ref (h.length + 1) :: st, h ++ [(a, (List.range (zi_fld a)).map (fun k => defaultValue (zi_ty a k)))], 1, zi_fld a) else none
    | .newarray .int => (match st with | .int n :: rest => if n < 0 ∨ 100000 < n.toNatClampNeg then none else some (.ref (h.length + 1) :: rest, h ++ [(7, List.replicate n.toNatClampNeg (.int 0))], 1, n.toNatClampNeg) | _ => none)
    | .newarray .boolean => (match st with | .int n :: rest => if n < 0 ∨ 100000 < n.toNatClampNeg then none else some (.ref (h.length + 1) :: rest, h ++ [(8, List.replicate n.toNatClampNeg (.int 0))], 1, n.toNatClampNeg) | _ => none)
    | .anewarray _ => (match st with | .int n :: rest => if n < 0 ∨ 100000 < n.toNatClampNeg ∨ ¬ (a = 9 ∨ a = 10) then none else some (.ref (h.length + 1) :: rest, h ++ [(a, List.replicate n.toNatClampNeg .null)], 1, n.toNatClampNeg) | _ => none)
    | .multianewarray _ 2 => (match st with | .int k :: .int n :: rest => if n < 0 ∨ k < 0 ∨ 100000 < n.toNatClampNeg ∨ 100000 < k.toNatClampNeg then none else some (.ref (h.length + 1) :: rest, h ++ (11, (List.range n.toNatClampNeg).map (fun i => .ref (h.length + 2 + i))) :: List.replicate n.toNatClampNeg (7, List.replicate k.toNatClampNeg (.int 0)), 1 + n.toNatClampNeg, n.toNatClampNeg + n.toNatClampNeg * k.toNatClampNeg) | _ => none)
    | _ => none
noncomputable def zi_bind {α : Type} : List α → (α → Option (List zi_Out)) → Option (List zi_Out)
  | [], _ => some []
  | x :: xs, k => match k x with
    | none => none
    | some a => match zi_bind xs k with
      | none => none
      | some b => some (a ++ b)
theorem zi_bind_one {α : Type} (x : α) (k : α → Option (List zi_Out)) : zi_bind [x] k = k x := by
  unfold zi_bind
  cases k x with
  | none => rfl
  | some a => simp [zi_bind]
noncomputable def zi_vals (l : zi_Iv) : List Int := l.flatMap (fun q => (List.range (q.2 - q.1 + 1).toNat).map (fun (j : Nat) => q.1 + (j : Int)))
/-- an unknown index that an array is asked at: its number and the rest of the stack behind a known one -/
noncomputable def zi_ask (i : Instr) (st : List Value) : Option (UInt32 × (Int32 → List Value)) := match i with
  | .iaload | .baload | .aaload => (match st with | .float k :: rest => some (k, fun c => .int c :: rest) | _ => none)
  | .iastore | .bastore | .aastore => (match st with | x :: .float k :: rest => some (k, fun c => x :: .int c :: rest) | _ => none)
  | _ => none
noncomputable def zi_retOk (ret : Option FieldType) (v : Value) : Bool := match ret with
  | some .int => zi_isI v
  | some .boolean => (match v with | .int x => decide (x = 0) || decide (x = 1) | _ => false)
  | _ => false
noncomputable def zi_retA (ret : Option FieldType) : Bool := match ret with
  | some (.object _) => true
  | _ => false
section ZG
variable (ms : List zi_Me) (scr : Option (List Value)) (nL : Nat) (ret : Option FieldType) (code : List zi_Row) (mc mS : Nat) (call : Nat → List Value → zi_Hp → zi_Dm → Option (List zi_Out))
noncomputable def zi_go : Nat → Nat → zi_Lc → List Value → zi_Hp → zi_Dm → Nat → Nat → Option (List zi_Out)
  | 0, _, _, _, _, _, _, _ => none
  | n + 1, pc, ls, st, h, d, kc, ks =>
    match code.find? (fun r => r.1 == pc) with
    | none => none
    | some r =>
      match zi_ask r.2.1 st with
      | some (k, f) => (match d[k.toNat]? with
        | none => none
        | some l => if (zi_vals l).length ≤ 64 then zi_bind (zi_vals l) (fun v => zi_go n pc ls (f (Int32.ofInt v)) h (d.set k.toNat [(v, v)]) kc ks) else none)
      | none =>
        match r.2.1 with
        | .ireturn => (match st with | [v] => if zi_retOk ret v then some [(d, some v, h)] else none | _ => none)
        | .areturn => (match st with | [.ref x] => if zi_retA ret then some [(d, some (.ref x), h)] else none | _ => none)
        | .return_ => (match st with | [] => if ret = none then some [(d, none, h)] else none | _ => none)
        | .goto _ => zi_go n r.2.2.2.1 ls st h d kc ks
        | .ifCond c _ => (match st with
          | .int x :: rest => if zi_cmp c x 0 then zi_go n r.2.2.2.1 ls rest h d kc ks else zi_go n (pc + 3) ls rest h d kc ks
          | .float k :: rest => (match d[k.toNat]? with
            | none => none
            | some l => zi_bind [(zi_T c 0 l, r.2.2.2.1), (zi_T (zi_neg c) 0 l, pc + 3)] (fun q => if q.1.isEmpty then some [] else zi_go n q.2 ls rest h (d.set k.toNat q.1) kc ks))
          | _ => none)
        | .if_icmp c _ => (match st with
          | .int y :: .int x :: rest => if zi_cmp c x y then zi_go n r.2.2.2.1 ls rest h d kc ks else zi_go n (pc + 3) ls rest h d kc ks
          | .int y :: .float k :: rest => (match d[k.toNat]? with
            | none => none
            | some l => zi_bind [(zi_T c y.toInt l, r.2.2.2.1), (zi_T (zi_neg c) y.toInt l, pc + 3)] (fun q => if q.1.isEmpty then some [] else zi_go n q.2 ls rest h (d.set k.toNat q.1) kc ks))
          | .float k :: .int x :: rest => (match d[k.toNat]? with
            | none => none
            | some l => zi_bind [(zi_T (zi_swap c) x.toInt l, r.2.2.2.1), (zi_T (zi_neg (zi_swap c)) x.toInt l, pc + 3)] (fun q => if q.1.isEmpty then some [] else zi_go n q.2 ls rest h (d.set k.toNat q.1) kc ks))
          | _ => none)
        | .tableswitch dflt lo hi offs => (match st with
          | .int x :: rest => if x.toInt < lo ∨ hi < x.toInt then (if (pc : Int) + dflt = (((pc : Int) + dflt).toNat : Int) then zi_go n ((pc : Int) + dflt).toNat ls rest h d kc ks else none)
            else (match offs[(x.toInt - lo).toNat]? with
              | some off => if (pc : Int) + off = (((pc : Int) + off).toNat : Int) then zi_go n ((pc : Int) + off).toNat ls rest h d kc ks else none
              | none => none)
          | .float k :: rest => (match d[k.toNat]? with
            | none => none
            | some l => zi_bind ((zi_T .lt lo l, dflt) :: (zi_T .gt hi l, dflt) :: (List.range (hi - lo + 1).toNat).map (fun (j : Nat) => (zi_T .eq (lo + (j : Int)) l, offs[j]?.getD 0))) (fun q => if q.1.isEmpty then some [] else if (pc : Int) + q.2 = (((pc : Int) + q.2).toNat : Int) then zi_go n ((pc : Int) + q.2).toNat ls rest h (d.set k.toNat q.1) kc ks else none))
          | _ => none)
        | .invokespecial _ =>
          if r.2.2.2.1 = 999 then (match st with | .ref (x + 1) :: rest => if rest.length ≤ 4 then zi_go n (pc + 3) ls rest h d kc ks else none | _ => none)
          else (match ms[r.2.2.2.1]? with
            | none => none
            | some mt => if (st.drop r.2.2.2.2.1).length ≤ 4 ∧ kc + mt.2.2.2.2.2.1 ≤ mc ∧ ks + mt.2.2.2.2.2.2 ≤ mS ∧ r.2.2.2.2.1 ≤ st.length ∧ (mt.2.2.2.2.2.1 = 0 ∨ (zi_wfc h.length ls = true ∧ zi_wfl h.length (st.drop r.2.2.2.2.1) = true)) then
                (match (st.take r.2.2.2.2.1).reverse with
                | .ref (x + 1) :: tl => (match call r.2.2.2.1 (.ref (x + 1) :: tl) h d with
                  | none => none
                  | some [o] => zi_go n (pc + 3) ls (o.2.1.toList ++ st.drop r.2.2.2.2.1) o.2.2 o.1 (kc + mt.2.2.2.2.2.1) (ks + mt.2.2.2.2.2.2)
                  | some os => zi_bind os (fun o => zi_go n (pc + 3) ls (o.2.1.toList ++ st.drop r.2.2.2.2.1) o.2.2 o.1 (kc + mt.2.2.2.2.2.1) (ks + mt.2.2.2.2.2.2)))
                | _ => none)
              else none)
        | .lookupswitch dflt ps => (match st with
          | .int x :: rest => if (pc : Int) + Op.lookupswitch.offset ps.toList dflt x.toInt = (((pc : Int) + Op.lookupswitch.offset ps.toList dflt x.toInt).toNat : Int) then zi_go n ((pc : Int) + Op.lookupswitch.offset ps.toList dflt x.toInt).toNat ls rest h d kc ks else none
          | _ => none)
        | .invokestatic _ => if r.2.2.2.1 = 997 then (match st with
            | .int n0 :: .int dp :: .ref (r1 + 1) :: .int sp :: .ref (r0 + 1) :: rest => if rest.length ≤ 4 then (match zi_cpy h r0 sp r1 dp n0 with
              | some h' => zi_go n (pc + 3) ls rest h' d kc ks
              | none => none) else none
            | _ => none)
          else (match ms[r.2.2.2.1]? with
            | none => none
            | some mt => if (st.drop r.2.2.2.2.1).length ≤ 4 ∧ kc + mt.2.2.2.2.2.1 ≤ mc ∧ ks + mt.2.2.2.2.2.2 ≤ mS ∧ r.2.2.2.2.1 ≤ st.length ∧ (mt.2.2.2.2.2.1 = 0 ∨ (zi_wfc h.length ls = true ∧ zi_wfl h.length (st.drop r.2.2.2.2.1) = true)) then
                (match call r.2.2.2.1 (st.take r.2.2.2.2.1).reverse h d with
                | none => none
                | some [o] => zi_go n (pc + 3) ls (o.2.1.toList ++ st.drop r.2.2.2.2.1) o.2.2 o.1 (kc + mt.2.2.2.2.2.1) (ks + mt.2.2.2.2.2.2)
                | some os => zi_bind os (fun o => zi_go n (pc + 3) ls (o.2.1.toList ++ st.drop r.2.2.2.2.1) o.2.2 o.1 (kc + mt.2.2.2.2.2.1) (ks + mt.2.2.2.2.2.2)))
              else none)
        | .invokevirtual _ => (match ms[r.2.2.2.1]? with
            | none => none
            | some mt => if (st.drop r.2.2.2.2.1).length ≤ 4 ∧ kc + mt.2.2.2.2.2.1 ≤ mc ∧ ks + mt.2.2.2.2.2.2 ≤ mS ∧ r.2.2.2.2.1 ≤ st.length ∧ (mt.2.2.2.2.2.1 = 0 ∨ (zi_wfc h.length ls = true ∧ zi_wfl h.length (st.drop r.2.2.2.2.1) = true)) then
                (match (st.take r.2.2.2.2.1).reverse with
                | .ref (x + 1) :: tl => (match h[x]? with
                  | some (t, _) => if (t : Int) = r.2.2.2.2.2.2 ∧ t < 7 then
                    (match call r.2.2.2.1 (.ref (x + 1) :: tl) h d with
                    | none => none
                    | some [o] => zi_go n (pc + 3) ls (o.2.1.toList ++ st.drop r.2.2.2.2.1) o.2.2 o.1 (kc + mt.2.2.2.2.2.1) (ks + mt.2.2.2.2.2.2)
                    | some os => zi_bind os (fun o => zi_go n (pc + 3) ls (o.2.1.toList ++ st.drop r.2.2.2.2.1) o.2.2 o.1 (kc + mt.2.2.2.2.2.1) (ks + mt.2.2.2.2.2.2))) else none
                  | none => none)
                | _ => none)
              else none)
        | _ => match zi_new r st h with
          | some (st', h', k1, k2) => if kc + k1 ≤ mc ∧ ks + k2 ≤ mS ∧ zi_wfh h = true ∧ zi_wfc h.length ls = true ∧ zi_wfl h.length st = true then zi_go n (pc + r.2.2.1) ls st' h' d (kc + k1) (ks + k2) else none
          | none => match zi_step scr nL d r ls st h with
            | some (ls', st', h') => zi_go n (pc + r.2.2.1) ls' st' h' d kc ks
            | none => none
end ZG
/-- a method by its number, at most D calls deep, F instructions each -/
noncomputable def zi_run (ms : List zi_Me) (F : Nat) : Nat → Nat → List Value → zi_Hp → zi_Dm → Option (List zi_Out)
  | 0, _, _, _, _ => none
  | D + 1, a, args, h, d => match ms[a]? with
    | none => none
    | some m => if (lg_sl args).length ≤ m.2.2.1 then zi_go ms none m.2.2.1 m.2.2.2.1 m.2.2.2.2.1 m.2.2.2.2.2.1 m.2.2.2.2.2.2 (zi_run ms F D) F 0 (lv_args 0 args) [] h d 0 0 else none
