/-! instructions read off the bytes, one after the other -/
noncomputable def zo_0 : List (Nat × Instr) := [(42, .aload_n 0), (27, .iload_n 1), (46, .iaload), (28, .iload_n 2), (29, .iload_n 3), (3, .iconst 0), (4, .iconst 1), (172, .ireturn), (96, .iadd), (79, .iastore), (50, .aaload), (5, .iconst 2), (177, .return_), (62, .istore_n 3), (61, .istore_n 2), (6, .iconst 3), (43, .aload_n 1), (44, .aload_n 2), (2, .iconst (-1)), (100, .isub), (104, .imul), (87, .pop), (26, .iload_n 0), (7, .iconst 4), (45, .aload_n 3), (60, .istore_n 1), (51, .baload), (89, .dup), (84, .bastore), (108, .idiv), (78, .astore_n 3), (77, .astore_n 2), (76, .astore_n 1), (112, .irem), (83, .aastore), (190, .arraylength), (92, .dup2), (8, .iconst 5), (126, .iand)]
noncomputable def zo_1 : List (Nat × (Nat → Instr)) := [(21, fun x => .iload x), (54, fun x => .istore x), (18, fun x => .ldc x), (25, fun x => .aload x), (58, fun x => .astore x)]
noncomputable def zo_1s : List (Nat × (Int → Instr)) := [(16, fun x => .bipush x)]
noncomputable def zo_2 : List (Nat × (Nat → Instr)) := [(180, fun x => .getfield x), (182, fun x => .invokevirtual x), (184, fun x => .invokestatic x), (181, fun x => .putfield x), (183, fun x => .invokespecial x), (187, fun x => .new x), (189, fun x => .anewarray x), (19, fun x => .ldc_w x)]
noncomputable def zo_2s : List (Nat × (Int → Instr)) := [(167, fun x => .goto x), (153, fun x => .ifCond .eq x), (154, fun x => .ifCond .ne x), (155, fun x => .ifCond .lt x), (156, fun x => .ifCond .ge x), (157, fun x => .ifCond .gt x), (158, fun x => .ifCond .le x), (159, fun x => .if_icmp .eq x), (160, fun x => .if_icmp .ne x), (161, fun x => .if_icmp .lt x), (162, fun x => .if_icmp .ge x), (163, fun x => .if_icmp .gt x), (164, fun x => .if_icmp .le x), (17, fun x => .sipush x)]
set_option maxRecDepth 100000 in
theorem zo_K : ∃ K : Nat → Nat → Decoder Instr, (∀ pc, Decoder.instr pc = (Reader.u1 >>= K pc)) ∧ (∀ p ∈ zo_0, ∀ pc, K pc p.1 = Pure.pure p.2) ∧ (∀ p ∈ zo_1, ∀ pc, K pc p.1 = (Reader.u1 >>= fun x => Pure.pure (p.2 x))) ∧ (∀ p ∈ zo_1s, ∀ pc, K pc p.1 = (Reader.s1 >>= fun x => Pure.pure (p.2 x))) ∧ (∀ p ∈ zo_2, ∀ pc, K pc p.1 = (Reader.u2 >>= fun x => Pure.pure (p.2 x))) ∧ (∀ p ∈ zo_2s, ∀ pc, K pc p.1 = (Reader.s2 >>= fun x => Pure.pure (p.2 x))) ∧ ∀ pc, K pc 132 = (Reader.u1 >>= fun x => Reader.s1 >>= fun y => Pure.pure (Instr.iinc x y)) :=
  ⟨_, fun pc => rfl, (List.forall_mem_cons.mpr ⟨fun _ => rfl, (List.forall_mem_cons.mpr ⟨fun _ => rfl, (List.forall_mem_cons.mpr ⟨fun _ => rfl, (List.forall_mem_cons.mpr ⟨fun _ => rfl, (List.forall_mem_cons.mpr ⟨fun _ => rfl, (List.forall_mem_cons.mpr ⟨fun _ => rfl, (List.forall_mem_cons.mpr ⟨fun _ => rfl, (List.forall_mem_cons.mpr ⟨fun _ => rfl, (List.forall_mem_cons.mpr ⟨fun _ => rfl, (List.forall_mem_cons.mpr ⟨fun _ => rfl, (List.forall_mem_cons.mpr ⟨fun _ => rfl, (List.forall_mem_cons.mpr ⟨fun _ => rfl, (List.forall_mem_cons.mpr ⟨fun _ => rfl, (List.forall_mem_cons.mpr ⟨fun _ => rfl, (List.forall_mem_cons.mpr ⟨fun _ => rfl, (List.forall_mem_cons.mpr ⟨fun _ => rfl, (List.forall_mem_cons.mpr ⟨fun _ => rfl, (List.forall_mem_cons.mpr ⟨fun _ => rfl, (List.forall_mem_cons.mpr ⟨fun _ => rfl, (List.forall_mem_cons.mpr ⟨fun _ => rfl, (List.forall_mem_cons.mpr ⟨fun _ => rfl, (List.forall_mem_cons.mpr ⟨fun _ => rfl, (List.forall_mem_cons.mpr ⟨fun _ => rfl, (List.forall_mem_cons.mpr ⟨fun _ => rfl, (List.forall_mem_cons.mpr ⟨fun _ => rfl, (List.forall_mem_cons.mpr ⟨fun _ => rfl, (List.forall_mem_cons.mpr ⟨fun _ => rfl, (List.forall_mem_cons.mpr ⟨fun _ => rfl, (List.forall_mem_cons.mpr ⟨fun _ => rfl, (List.forall_mem_cons.mpr ⟨fun _ => rfl, (List.forall_mem_cons.mpr ⟨fun _ => rfl, (List.forall_mem_cons.mpr ⟨fun _ => rfl, (List.forall_mem_cons.mpr ⟨fun _ => rfl, (List.forall_mem_cons.mpr ⟨fun _ => rfl, (List.forall_mem_cons.mpr ⟨fun _ => rfl, (List.forall_mem_cons.mpr ⟨fun _ => rfl, (List.forall_mem_cons.mpr ⟨fun _ => rfl, (List.forall_mem_cons.mpr ⟨fun _ => rfl, (List.forall_mem_cons.mpr ⟨fun _ => rfl, (fun _ h => absurd h List.not_mem_nil)⟩)⟩)⟩)⟩)⟩)⟩)⟩)⟩)⟩)⟩)⟩)⟩)⟩)⟩)⟩)⟩)⟩)⟩)⟩)⟩)⟩)⟩)⟩)⟩)⟩)⟩)⟩)⟩)⟩)⟩)⟩)⟩)⟩)⟩)⟩)⟩)⟩)⟩)⟩), (List.forall_mem_cons.mpr ⟨fun _ => rfl, (List.forall_mem_cons.mpr ⟨fun _ => rfl, (List.forall_mem_cons.mpr ⟨fun _ => rfl, (List.forall_mem_cons.mpr ⟨fun _ => rfl, (List.forall_mem_cons.mpr ⟨fun _ => rfl, (fun _ h => absurd h List.not_mem_nil)⟩)⟩)⟩)⟩)⟩), (List.forall_mem_cons.mpr ⟨fun _ => rfl, (fun _ h => absurd h List.not_mem_nil)⟩), (List.forall_mem_cons.mpr ⟨fun _ => rfl, (List.forall_mem_cons.mpr ⟨fun _ => rfl, (List.forall_mem_cons.mpr ⟨fun _ => rfl, (List.forall_mem_cons.mpr ⟨fun _ => rfl, (List.forall_mem_cons.mpr ⟨fun _ => rfl, (List.forall_mem_cons.mpr ⟨fun _ => rfl, (List.forall_mem_cons.mpr ⟨fun _ => rfl, (List.forall_mem_cons.mpr ⟨fun _ => rfl, (fun _ h => absurd h List.not_mem_nil)⟩)⟩)⟩)⟩)⟩)⟩)⟩)⟩), (List.forall_mem_cons.mpr ⟨fun _ => rfl, (List.forall_mem_cons.mpr ⟨fun _ => rfl, (List.forall_mem_cons.mpr ⟨fun _ => rfl, (List.forall_mem_cons.mpr ⟨fun _ => rfl, (List.forall_mem_cons.mpr ⟨fun _ => rfl, (List.forall_mem_cons.mpr ⟨fun _ => rfl, (List.forall_mem_cons.mpr ⟨fun _ => rfl, (List.forall_mem_cons.mpr ⟨fun _ => rfl, (List.forall_mem_cons.mpr ⟨fun _ => rfl, (List.forall_mem_cons.mpr ⟨fun _ => rfl, (List.forall_mem_cons.mpr ⟨fun _ => rfl, (List.forall_mem_cons.mpr ⟨fun _ => rfl, (List.forall_mem_cons.mpr ⟨fun _ => rfl, (List.forall_mem_cons.mpr ⟨fun _ => rfl, (fun _ h => absurd h List.not_mem_nil)⟩)⟩)⟩)⟩)⟩)⟩)⟩)⟩)⟩)⟩)⟩)⟩)⟩)⟩), fun _ => rfl⟩
section ZDC
variable {c : ByteArray} {pc n : Nat} {i : Instr} {a b : UInt8} {t : List UInt8} {r : zi_Row}
theorem zo_at (h : c.data.toList.drop pc = b :: t) : (∃ hp : pc < c.size, c[pc] = b) ∧ c.data.toList.drop (pc + 1) = t := by
  have hl : pc < c.data.toList.length := by
    rcases Nat.lt_or_ge pc c.data.toList.length with z | z
    · exact z
    · rw [List.drop_eq_nil_of_le z] at h
      cases h
  rw [List.drop_eq_getElem_cons hl] at h
  injection h with h1 h2
  exact ⟨⟨hl, h1⟩, h2⟩
theorem zo_bd {α β : Type} {r : Decoder α} {k : α → Decoder β} {c : ByteArray} {p : Nat} {a : α} {q : Nat} (h : r c p = .ok (a, q)) : (r >>= k) c p = k a c q := by
  show (r c p >>= fun x => k x.1 c x.2) = _
  rw [h]
  rfl
theorem zo_u1 (h : c.data.toList.drop pc = b :: t) : (Reader.u1 : Decoder Nat) c pc = .ok (b.toNat, pc + 1) := by
  obtain ⟨⟨hp, e⟩, -⟩ := zo_at h
  have : (Reader.u1 : Decoder Nat) c pc = (dite (pc < c.size) (fun h => ((do set (pc + 1); Pure.pure c[pc].toNat) : Decoder Nat)) (fun _ => throw (HasTruncated.truncated pc))) c pc := rfl
  rw [this, dif_pos hp, ← e]
  rfl
theorem zo_u2 (h : c.data.toList.drop pc = a :: b :: t) : (Reader.u2 : Decoder Nat) c pc = .ok (a.toNat * 256 + b.toNat, pc + 2) := by
  have h2 := (zo_at h).2
  have : (Reader.u2 : Decoder Nat) = (Reader.u1 >>= fun hi => Reader.u1 >>= fun lo => Pure.pure (hi * 256 + lo)) := rfl
  rw [this, zo_bd (zo_u1 h), zo_bd (zo_u1 h2)]
  rfl
theorem zo_mp {α β : Type} {r : Decoder α} {f : α → β} {c : ByteArray} {p : Nat} {a : α} {q : Nat} (h : r c p = .ok (a, q)) : (f <$> r) c p = .ok (f a, q) := by
  show (r c p >>= fun x => Pure.pure (f x.1, x.2)) = _
  rw [h]
  rfl
theorem zo_s1 (h : c.data.toList.drop pc = b :: t) : (Reader.s1 : Decoder Int) c pc = .ok (Reader.signed 8 b.toNat, pc + 1) := zo_mp (zo_u1 h)
theorem zo_s2 (h : c.data.toList.drop pc = a :: b :: t) : (Reader.s2 : Decoder Int) c pc = .ok (Reader.signed 16 (a.toNat * 256 + b.toNat), pc + 2) := zo_mp (zo_u2 h)
theorem zo_dec (h : Decoder.instr pc c pc = .ok (i, n)) : decode c pc = .ok (i, n - pc) := by
  show (Decoder.instr pc c pc >>= fun x => Pure.pure (x.1, x.2 - pc)) = _
  rw [h]
  rfl
noncomputable def zo_t0 (r : zi_Row) (o : Nat) : Bool := match zo_0.find? (fun p => p.1 == o) with
  | some p => decide (r.2.1 = p.2) && r.2.2.1 == 1
  | none => false
noncomputable def zo_t1 (r : zi_Row) (o x : Nat) : Bool := match zo_1.find? (fun p => p.1 == o) with
  | some p => decide (r.2.1 = p.2 x) && r.2.2.1 == 2
  | none => false
noncomputable def zo_t1s (r : zi_Row) (o x : Nat) : Bool := match zo_1s.find? (fun p => p.1 == o) with
  | some p => decide (r.2.1 = p.2 (Reader.signed 8 x)) && r.2.2.1 == 2
  | none => false
noncomputable def zo_t2 (r : zi_Row) (o x y : Nat) : Bool := match zo_2.find? (fun p => p.1 == o) with
  | some p => decide (r.2.1 = p.2 (x * 256 + y)) && r.2.2.1 == 3
  | none => false
noncomputable def zo_t2s (r : zi_Row) (o x y : Nat) : Bool := match zo_2s.find? (fun p => p.1 == o) with
  | some p => decide (r.2.1 = p.2 (Reader.signed 16 (x * 256 + y))) && r.2.2.1 == 3
  | none => false
noncomputable def zo_ti (r : zi_Row) (o x y : Nat) : Bool := o == 132 && (decide (r.2.1 = .iinc x (Reader.signed 8 y)) && r.2.2.1 == 3)
noncomputable def zo_r2 (r : zi_Row) (o x : Nat) : List UInt8 → Bool
  | [] => false
  | b :: _ => (zo_t2 r o x b.toNat || zo_t2s r o x b.toNat) || zo_ti r o x b.toNat
noncomputable def zo_r1 (r : zi_Row) (o : Nat) : List UInt8 → Bool
  | [] => false
  | a :: t => (zo_t1 r o a.toNat || zo_t1s r o a.toNat) || zo_r2 r o a.toNat t
noncomputable def zo_row (r : zi_Row) : List UInt8 → Bool
  | [] => false
  | op :: t => zo_t0 r op.toNat || zo_r1 r op.toNat t
theorem zo_fd {β : Type} {l : List (Nat × β)} {o : Nat} {p : Nat × β} (h : l.find? (fun p => p.1 == o) = some p) : p ∈ l ∧ p.1 = o := ⟨List.mem_of_find?_eq_some h, eq_of_beq (List.find?_some (p := fun p : Nat × β => p.1 == o) h)⟩
theorem zo_row_ok (h : zo_row r (c.data.toList.drop r.1) = true) : decode c r.1 = .ok (r.2.1, r.2.2.1) := by
  obtain ⟨K, k, k0, k1, k1s, k2, k2s, ki⟩ := zo_K
  generalize hl : c.data.toList.drop r.1 = l at h
  have fin : ∀ {i : Instr} {n : Nat} {l' : List UInt8} {op : UInt8}, c.data.toList.drop r.1 = op :: l' → K r.1 op.toNat c (r.1 + 1) = .ok (i, r.1 + n) → r.2.1 = i → r.2.2.1 = n → decode c r.1 = .ok (r.2.1, r.2.2.1) := fun {i n l' op} hl q e1 e2 => by
    have : Decoder.instr r.1 c r.1 = .ok (i, r.1 + n) := by
      rw [k, zo_bd (zo_u1 hl)]
      exact q
    rw [zo_dec this, e1, e2, Nat.add_sub_cancel_left]
  cases l with
  | nil => cases h
  | cons op t =>
    have h : (zo_t0 r op.toNat || zo_r1 r op.toNat t) = true := h
    rcases Bool.or_eq_true_iff.mp h with h | h
    · unfold zo_t0 at h
      split at h
      · rename_i p e
        obtain ⟨m, e⟩ := zo_fd e
        obtain ⟨h1, h2⟩ := Bool.and_eq_true_iff.mp h
        exact fin hl (by rw [← e, k0 p m]; rfl) (of_decide_eq_true h1) (eq_of_beq h2)
      · cases h
    · cases t with
      | nil => cases h
      | cons a t =>
        have h : ((zo_t1 r op.toNat a.toNat || zo_t1s r op.toNat a.toNat) || zo_r2 r op.toNat a.toNat t) = true := h
        have hl2 := (zo_at hl).2
        rcases Bool.or_eq_true_iff.mp h with h | h
        · rcases Bool.or_eq_true_iff.mp h with h | h
          · unfold zo_t1 at h
            split at h
            · rename_i p e
              obtain ⟨m, e⟩ := zo_fd e
              obtain ⟨h1, h2⟩ := Bool.and_eq_true_iff.mp h
              exact fin hl (by rw [← e, k1 p m, zo_bd (zo_u1 hl2)]; rfl) (of_decide_eq_true h1) (eq_of_beq h2)
            · cases h
          · unfold zo_t1s at h
            split at h
            · rename_i p e
              obtain ⟨m, e⟩ := zo_fd e
              obtain ⟨h1, h2⟩ := Bool.and_eq_true_iff.mp h
              exact fin hl (by rw [← e, k1s p m, zo_bd (zo_s1 hl2)]; rfl) (of_decide_eq_true h1) (eq_of_beq h2)
            · cases h
        · cases t with
          | nil => cases h
          | cons b t =>
            have h : ((zo_t2 r op.toNat a.toNat b.toNat || zo_t2s r op.toNat a.toNat b.toNat) || zo_ti r op.toNat a.toNat b.toNat) = true := h
            have hl3 := (zo_at hl2).2
            rcases Bool.or_eq_true_iff.mp h with h | h
            · rcases Bool.or_eq_true_iff.mp h with h | h
              · unfold zo_t2 at h
                split at h
                · rename_i p e
                  obtain ⟨m, e⟩ := zo_fd e
                  obtain ⟨h1, h2⟩ := Bool.and_eq_true_iff.mp h
                  exact fin hl (by rw [← e, k2 p m, zo_bd (zo_u2 hl2)]; rfl) (of_decide_eq_true h1) (eq_of_beq h2)
                · cases h
              · unfold zo_t2s at h
                split at h
                · rename_i p e
                  obtain ⟨m, e⟩ := zo_fd e
                  obtain ⟨h1, h2⟩ := Bool.and_eq_true_iff.mp h
                  exact fin hl (by rw [← e, k2s p m, zo_bd (zo_s2 hl2)]; rfl) (of_decide_eq_true h1) (eq_of_beq h2)
                · cases h
            · unfold zo_ti at h
              obtain ⟨e, h⟩ := Bool.and_eq_true_iff.mp h
              obtain ⟨h1, h2⟩ := Bool.and_eq_true_iff.mp h
              exact fin hl (by rw [eq_of_beq e, ki, zo_bd (zo_u1 hl2), zo_bd (zo_s1 hl3)]; rfl) (of_decide_eq_true h1) (eq_of_beq h2)
noncomputable def zo_seq (c : ByteArray) : List zi_Row → Nat → List UInt8 → Bool
  | [], _, _ => true
  | r :: rs, p, l => (Nat.ble p r.1 && (zo_row r (l.drop (r.1 - p)) || decide (decode c r.1 = .ok (r.2.1, r.2.2.1)))) && zo_seq c rs r.1 (l.drop (r.1 - p))
theorem zo_seq_ok : ∀ (rs : List zi_Row) (p : Nat), zo_seq c rs p (c.data.toList.drop p) = true → ∀ r ∈ rs, decode c r.1 = .ok (r.2.1, r.2.2.1)
  | [], _, _ => fun r h => by cases h
  | r :: rs, p, h => by
    have h : ((Nat.ble p r.1 && (zo_row r ((c.data.toList.drop p).drop (r.1 - p)) || decide (decode c r.1 = .ok (r.2.1, r.2.2.1)))) && zo_seq c rs r.1 ((c.data.toList.drop p).drop (r.1 - p))) = true := h
    obtain ⟨h, h3⟩ := Bool.and_eq_true_iff.mp h
    obtain ⟨h1, h2⟩ := Bool.and_eq_true_iff.mp h
    have h1 := Nat.le_of_ble_eq_true h1
    have e : (c.data.toList.drop p).drop (r.1 - p) = c.data.toList.drop r.1 := by
      rw [List.drop_drop, show p + (r.1 - p) = r.1 by omega]
    rw [e] at h2 h3
    intro r' hr'
    rcases List.mem_cons.mp hr' with rfl | hr'
    · rcases Bool.or_eq_true_iff.mp h2 with h2 | h2
      · exact zo_row_ok h2
      · exact of_decide_eq_true h2
    · exact zo_seq_ok rs _ h3 r' hr'
theorem zo_fin {rs : List zi_Row} {own : String} {ini : Bool} {ms : List zi_Me} (h : (zo_seq c rs 0 c.data.toList && rs.all (fun r => zi_lok r && zi_ok own ini ms r)) = true) : ∀ r ∈ rs, decode c r.1 = .ok (r.2.1, r.2.2.1) ∧ zi_lok r = true ∧ zi_ok own ini ms r = true := fun r hr => by
  obtain ⟨h1, h2⟩ := Bool.and_eq_true_iff.mp h
  exact ⟨zo_seq_ok rs 0 h1 r hr, Bool.and_eq_true_iff.mp (List.all_eq_true.mp h2 r hr)⟩
end ZDC
theorem zi_tb_rf {t : Nat} {w : Cond} (h : lw_tbl[t]? = some w) (g : goodWord w = true) : w ∈ zi_Ts := List.mem_filter.mpr ⟨List.mem_of_getElem? h, g⟩
