section ZN
variable {p : Program} {l : Launch} {e : Env} {R : Room} {s : State} {m : MethodId} {args : Array Value} {below : List Frame} {meth : Method} {c : Code} {H : Heap} {locs : List Loc} {cells slots : Nat} {Q : State → Prop}
variable {cc : ByteArray} {ls : Array Slot} {D : va_G} {A : Nat → Prop} {H0 : Heap}
variable {ρ : Nat → Int32} {b0 : Nat} {as : List Nat} {cy : Nat → ClassId} {own : String} {ini : Bool} {ms : List zi_Me}
theorem zi_zero (n : Nat) : (fun i => zi_iv ρ ((List.replicate n (Value.int 0)).getD i (.int 0))) = fun _ => 0 := by
  funext i
  rw [List.getD_eq_getElem?_getD, List.getElem?_replicate]
  split <;> rfl
theorem zi_nulls (n : Nat) : (fun i => zi_rv as ((List.replicate n Value.null).getD i .null)) = fun _ => none := by
  funext i
  rw [List.getD_eq_getElem?_getD, List.getElem?_replicate]
  split <;> rfl
theorem zi_defs {a : Nat} (h : a < 7) : ((List.range (zi_fld a)).map (fun k => defaultValue (zi_ty a k))).map (zi_cv ρ b0 as) = (List.range (zi_fld a)).map (fun k => defaultValue (zi_ty a k)) := by
  match a, h with
  | 0, _ => rfl
  | 1, _ => rfl
  | 2, _ => rfl
  | 3, _ => rfl
  | 4, _ => rfl
  | 5, _ => rfl
  | 6, _ => rfl
theorem zi_top (q : Nat) (qs : List Nat) {h : zi_Hp} (hl : as.length = h.length) : zi_cv ρ b0 (as ++ q :: qs) (.ref (h.length + 1)) = .ref q := by
  show Value.ref ((as ++ q :: qs).getD h.length 0) = _
  rw [← hl]
  simp [List.getD_eq_getElem?_getD]
theorem zi_one_new {q : Nat} {h : zi_Hp} {c : Nat × List Value} (hl : as.length = h.length) (hw : zi_wfh h = true) : zi_w ρ b0 (as ++ [q]) cy (h ++ [c]) = zi_w ρ b0 as cy h ++ [(q, zi_ce ρ b0 (as ++ [q]) cy c)] := by
  rw [zi_w_grow hl hw]
  rfl
set_option maxHeartbeats 4000000 in
theorem zi_new_sound {r : zi_Row} {L : zi_Lc} {st st' : List Value} {h h' : zi_Hp} {k1 k2 nL : Nat}
    (hx : p.tables.exec = Jvm.exec) (hb : c.code = cc) (hown : s.vm.findClass own = some m.cls) (hts : ∀ w ∈ zi_Ts, w.before args s = true) (hcl : ∀ a q, vwCl[a]? = some q → zi_cok a q)
    (hAI : Cond.arrayClass .int ∈ zi_Ts) (hAZ : Cond.arrayClass .boolean ∈ zi_Ts) (hA2 : va_AO RX2 s) (hA4 : va_AO RX4 s) (hAA : va_AOA .int s)
    (hK : va_K D vwCl (zi_tys cy) s) (hA : ∀ q, H0.size ≤ q → A q)
    (hdg : decode cc r.1 = .ok (r.2.1, r.2.2.1)) (hlen : zi_lok r = true) (hok : zi_ok own ini ms r = true) (hst : zi_new r st h = some (st', h', k1, k2)) (hC : cells + k1 ≤ R.cells) (hSl : slots + k2 ≤ R.slots)
    (hwh : zi_wfh h = true) (hwc : zi_wfc h.length L = true) (hws : zi_wfl h.length st = true) (hln : as.length = h.length)
    (hl : lv_has ls nL (zi_lc ρ b0 as L)) (hP : va_P D vwCl (zi_w ρ b0 as cy h) H) (hD : va_D A (zi_w ρ b0 as cy h)) (hS : va_S A H0 H locs)
    (kk : ∀ (qs : List Nat) (H1 : Heap), va_P D vwCl (zi_w ρ b0 (as ++ qs) cy h') H1 → va_D A (zi_w ρ b0 (as ++ qs) cy h') → va_S A H0 H1 locs → lv_has ls nL (zi_lc ρ b0 (as ++ qs) L) → (as ++ qs).length = h'.length → qs.length ≤ k1 → W p l e R s m args below meth c H1 locs (cells + k1) (slots + k2) Q (F0 m (r.1 + r.2.2.1) ls (st'.map (zi_cv ρ b0 (as ++ qs))))) :
    W p l e R s m args below meth c H locs cells slots Q (F0 m r.1 ls (st.map (zi_cv ρ b0 as))) := by
  obtain ⟨pc, i, ln, a, b, t, v⟩ := r
  dsimp only at hdg hlen hok hst kk ⊢
  unfold zi_new at hst
  dsimp only at hst
  rw [← hln] at hwc hws
  have hlc : ∀ qs : List Nat, lv_has ls nL (zi_lc ρ b0 (as ++ qs) L) := fun qs => by rw [zi_lc_grow hwc]; exact hl
  split at hst
  · -- new
    rename_i j
    split at hst
    · rename_i h7
      simp only [Option.some.injEq, Prod.mk.injEq] at hst
      obtain ⟨rfl, rfl, rfl, rfl⟩ := hst
      have e : ln = 3 := of_decide_eq_true hlen
      subst e
      unfold zi_ok at hok
      dsimp only at hok
      split at hok
      · rename_i q hq
        obtain ⟨u1, u2, u3, u4, u5, u6⟩ := hcl _ _ hq
        obtain ⟨C, T, N⟩ := q
        dsimp only at u1 u2 u3 u4 u5 u6 hok
        subst u4
        refine va_new (C := C) (T := T) (N := zi_fld a) (ci := a) (fs := (List.range (zi_fld a)).map (fun k => defaultValue (zi_ty a k))) hx hb hts u1 (zi_ty a) u2 hown (hts _ (zi_tb_in hok)) (hts _ u5) (hts _ u6) hK hP hD hS hA hq (fun k hk => by simp [vp_V, List.getD_eq_getElem?_getD, hk]) hC hSl hdg (fun q H1 p1 p2 p3 => ?_)
        have ew := zi_one_new (ρ := ρ) (b0 := b0) (cy := cy) (q := q) (c := (a, (List.range (zi_fld a)).map (fun k => defaultValue (zi_ty a k)))) hln hwh
        rw [zi_ce_obj h7, zi_defs h7] at ew
        rw [← ew] at p1 p2
        have h5 := kk [q] H1 p1 p2 p3 (hlc _) (by simp [hln]) (Nat.le_refl _)
        rw [List.map_cons, zi_top q [] hln, zi_cvl_grow hws] at h5
        exact h5
      · cases hok
    · cases hst
  · -- newarray int
    split at hst
    · rename_i n rest
      split at hst
      · cases hst
      · rename_i hn
        simp only [Option.some.injEq, Prod.mk.injEq] at hst
        obtain ⟨rfl, rfl, rfl, rfl⟩ := hst
        have e : ln = 2 := of_decide_eq_true hlen
        subst e
        have hn0 : ¬ n < 0 := fun q => hn (Or.inl q)
        have hn1 : n.toNatClampNeg ≤ 100000 := Nat.not_lt.mp fun q => hn (Or.inr q)
        refine va_newa (atype := .int) (ty := .int) (a0 := (n.toNatClampNeg, .inl (fun _ => 0))) hx hb (hts _ hAI) rfl hK hP hD hS hA (fun cA => rfl) hn0 rfl (by show _ * 4 ≤ _; omega) hC hSl hdg (fun q cA H1 hK1 p1 p2 p3 => ?_)
        have e : cA = cy 7 := Option.some.inj ((hK1.2 5 _ rfl).2.symm.trans (hK.2 0 _ rfl).2)
        subst e
        have ew := zi_one_new (ρ := ρ) (b0 := b0) (cy := cy) (q := q) (c := (7, List.replicate n.toNatClampNeg (.int 0))) hln hwh
        rw [zi_ce_int, zi_zero, List.length_replicate] at ew
        rw [← ew] at p1 p2
        have h5 := kk [q] H1 p1 p2 p3 (hlc _) (by simp [hln]) (Nat.le_refl _)
        rw [List.map_cons, zi_top q [] hln, zi_cvl_grow (by simp only [zi_wfl, List.all_cons, Bool.and_eq_true] at hws ⊢; exact hws.2)] at h5
        exact h5
    · cases hst
  · -- newarray boolean
    split at hst
    · rename_i n rest
      split at hst
      · cases hst
      · rename_i hn
        simp only [Option.some.injEq, Prod.mk.injEq] at hst
        obtain ⟨rfl, rfl, rfl, rfl⟩ := hst
        have e : ln = 2 := of_decide_eq_true hlen
        subst e
        have hn0 : ¬ n < 0 := fun q => hn (Or.inl q)
        have hn1 : n.toNatClampNeg ≤ 100000 := Nat.not_lt.mp fun q => hn (Or.inr q)
        refine va_newa (atype := .boolean) (ty := .boolean) (a0 := (n.toNatClampNeg, .inl (fun _ => 0))) hx hb (hts _ hAZ) rfl hK hP hD hS hA (fun cA => rfl) hn0 rfl (by show _ * 1 ≤ _; omega) hC hSl hdg (fun q cA H1 hK1 p1 p2 p3 => ?_)
        have e : cA = cy 8 := Option.some.inj ((hK1.2 5 _ rfl).2.symm.trans (hK.2 1 _ rfl).2)
        subst e
        have ew := zi_one_new (ρ := ρ) (b0 := b0) (cy := cy) (q := q) (c := (8, List.replicate n.toNatClampNeg (.int 0))) hln hwh
        rw [zi_ce_boo, zi_zero, List.length_replicate] at ew
        rw [← ew] at p1 p2
        have h5 := kk [q] H1 p1 p2 p3 (hlc _) (by simp [hln]) (Nat.le_refl _)
        rw [List.map_cons, zi_top q [] hln, zi_cvl_grow (by simp only [zi_wfl, List.all_cons, Bool.and_eq_true] at hws ⊢; exact hws.2)] at h5
        exact h5
    · cases hst
  · -- anewarray
    rename_i j
    split at hst
    · rename_i n rest
      split at hst
      · cases hst
      · rename_i hn
        simp only [Option.some.injEq, Prod.mk.injEq] at hst
        obtain ⟨rfl, rfl, rfl, rfl⟩ := hst
        have e : ln = 3 := of_decide_eq_true hlen
        subst e
        have hn0 : ¬ n < 0 := fun q => hn (Or.inl q)
        have hn1 : n.toNatClampNeg ≤ 100000 := Nat.not_lt.mp fun q => hn (Or.inr (Or.inl q))
        have ha : a = 9 ∨ a = 10 := Classical.not_not.mp fun q => hn (Or.inr (Or.inr q))
        have hok : zi_tb t (.classLink own j (if a = 9 then RX2 else RX4)) = true := hok
        have h9 : 9 ≤ a := by omega
        have kq : ∀ (q : Nat) (H1 : Heap), va_P D vwCl (zi_w ρ b0 as cy h ++ [(q, .inl (cy a, n.toNatClampNeg, .inr (.inr (.inr (.inr (fun _ => none))))))]) H1 → va_D A (zi_w ρ b0 as cy h ++ [(q, .inl (cy a, n.toNatClampNeg, .inr (.inr (.inr (.inr (fun _ => none))))))]) → va_S A H0 H1 locs → W p l e R s m args below meth c H1 locs (cells + 1) (slots + n.toNatClampNeg) Q (F0 m (pc + 3) ls (.ref q :: rest.map (zi_cv ρ b0 as))) := by
          intro q H1 p1 p2 p3
          have ew := zi_one_new (ρ := ρ) (b0 := b0) (cy := cy) (q := q) (c := (a, List.replicate n.toNatClampNeg .null)) hln hwh
          rw [zi_ce_ref h9, zi_nulls, List.length_replicate] at ew
          rw [← ew] at p1 p2
          have h5 := kk [q] H1 p1 p2 p3 (hlc _) (by simp [hln]) (Nat.le_refl _)
          rw [List.map_cons, zi_top q [] hln, zi_cvl_grow (by simp only [zi_wfl, List.all_cons, Bool.and_eq_true] at hws ⊢; exact hws.2)] at h5
          exact h5
        rcases ha with rfl | rfl
        · refine va_newq (C := RX2) hx hb hown (hts _ (zi_tb_in hok)) hA2 hK hP hD hS hA hn0 rfl (by omega) hC hSl hdg (fun q cA H1 hK1 p1 p2 p3 => ?_)
          obtain ⟨-, -, -, -, -, f1⟩ := (hK1.2 5 _ rfl).2
          obtain ⟨-, -, -, -, -, f2⟩ := (hK.2 2 _ rfl).2
          have e : cA = cy 9 := Option.some.inj (f1.symm.trans f2)
          subst e
          exact kq q H1 p1 p2 p3
        · refine va_newq (C := RX4) hx hb hown (hts _ (zi_tb_in hok)) hA4 hK hP hD hS hA hn0 rfl (by omega) hC hSl hdg (fun q cA H1 hK1 p1 p2 p3 => ?_)
          obtain ⟨-, -, -, -, -, f1⟩ := (hK1.2 5 _ rfl).2
          obtain ⟨-, -, -, -, -, f2⟩ := (hK.2 3 _ rfl).2
          have e : cA = cy 10 := Option.some.inj (f1.symm.trans f2)
          subst e
          exact kq q H1 p1 p2 p3
    · cases hst
  · -- multianewarray
    rename_i j
    split at hst
    · rename_i k n rest
      split at hst
      · cases hst
      · rename_i hn
        simp only [Option.some.injEq, Prod.mk.injEq] at hst
        obtain ⟨rfl, rfl, rfl, rfl⟩ := hst
        have e : ln = 4 := of_decide_eq_true hlen
        subst e
        have hn0 : ¬ n < 0 := fun q => hn (Or.inl q)
        have hk0 : ¬ k < 0 := fun q => hn (Or.inr (Or.inl q))
        have hn1 : n.toNatClampNeg ≤ 100000 := Nat.not_lt.mp fun q => hn (Or.inr (Or.inr (Or.inl q)))
        have hk1 : k.toNatClampNeg ≤ 100000 := Nat.not_lt.mp fun q => hn (Or.inr (Or.inr (Or.inr q)))
        have hok : zi_tb t (.classLink own j ("[" ++ (FieldType.array .int).toString)) = true := hok
        have f7 : s.vm.findClass (FieldType.array .int).toString = some (cy 7) := (hK.2 0 _ rfl).2
        refine va_mna (X := zi_w ρ b0 as cy h) (L := []) (f := fun _ => .inr (0, [])) (ty := .int) (cy := cy 7) (z := (k.toNatClampNeg, .inl (fun _ => 0))) hx hb hown (hts _ (zi_tb_in hok)) hAA (hts _ hAI) f7 hK (by simpa [va_pl] using hP) (by simpa [va_pl] using hD) hS hA hn0 hk0 rfl rfl (by omega) (by show _ * 4 ≤ _; omega) (by omega) rfl rfl hC hSl (fun c0 => arrV_new c0 _ _) hdg (fun q r cA H1 hinj hnot hK1 p1 p2 p3 => ?_)
        have e : cA = cy 11 := Option.some.inj ((hK1.2 5 _ rfl).2.symm.trans (hK.2 4 _ rfl).2)
        subst e
        have ew : (zi_w ρ b0 as cy h ++ [(q, .inl (cy 11, n.toNatClampNeg, .inr (.inr (.inr (.inr (fun i => if i < n.toNatClampNeg then some (r i) else none))))))]) ++ va_pl ([] ++ (List.range n.toNatClampNeg).map r) (vr_up (fun _ => .inr (0, [])) ((List.range n.toNatClampNeg).map r) (.inl (cy 7, (k.toNatClampNeg, .inl (fun _ => 0))))) = zi_w ρ b0 (as ++ q :: (List.range n.toNatClampNeg).map r) cy (h ++ (11, (List.range n.toNatClampNeg).map (fun i => .ref (h.length + 2 + i))) :: List.replicate n.toNatClampNeg (7, List.replicate k.toNatClampNeg (.int 0))) := by
          rw [zi_w_grow hln hwh, List.append_assoc, List.mapIdx_cons]
          congr 1
          rw [List.singleton_append]
          congr 1
          · rw [zi_ce_ref (by omega)]
            have e1 : (fun i => zi_rv (as ++ q :: (List.range n.toNatClampNeg).map r) (((List.range n.toNatClampNeg).map (fun i => Value.ref (h.length + 2 + i))).getD i .null)) = (fun i => if i < n.toNatClampNeg then some (r i) else none) := by
              funext i
              by_cases hi : i < n.toNatClampNeg
              · rw [if_pos hi]
                have e2 : ((List.range n.toNatClampNeg).map (fun i => Value.ref (h.length + 2 + i))).getD i .null = .ref ((h.length + 1 + i) + 1) := by
                  rw [List.getD_eq_getElem?_getD, List.getElem?_map, List.getElem?_range hi]
                  have e9 : h.length + 2 + i = h.length + 1 + i + 1 := by omega
                  exact congrArg Value.ref e9
                rw [e2]
                show some ((as ++ q :: (List.range n.toNatClampNeg).map r).getD (h.length + 1 + i) 0) = _
                rw [← hln, List.getD_eq_getElem?_getD, List.getElem?_append_right (by omega)]
                have e3 : as.length + 1 + i - as.length = i + 1 := by omega
                rw [e3]
                simp [hi]
              · rw [if_neg hi]
                have e2 : ((List.range n.toNatClampNeg).map (fun i => Value.ref (h.length + 2 + i))).getD i .null = .null := by
                  simp [List.getD_eq_getElem?_getD, hi]
                rw [e2]
                rfl
            rw [e1]
            simp
          · apply List.ext_getElem?
            intro i
            unfold va_pl
            rw [List.getElem?_mapIdx]
            have e7 : ∀ xs : List Nat, zi_ce ρ b0 xs cy (7, List.replicate k.toNatClampNeg (.int 0)) = .inl (cy 7, k.toNatClampNeg, .inl (fun _ => 0)) := fun xs => by rw [zi_ce_int, zi_zero, List.length_replicate]
            by_cases hi : i < n.toNatClampNeg
            · simp only [List.nil_append, List.getElem?_map, List.getElem?_range hi, List.getElem?_replicate, if_pos hi, Option.map_some, e7, List.getD_eq_getElem?_getD, List.getElem?_cons_succ, Option.getD_some]
              rw [vr_up_in (List.mem_map.mpr ⟨i, List.mem_range.mpr hi, rfl⟩)]
            · simp [hi]
        rw [ew] at p1 p2
        have h5 := kk (q :: (List.range n.toNatClampNeg).map r) H1 p1 p2 p3 (hlc _) (by simp [hln]) (by simp; omega)
        rw [List.map_cons, zi_top q _ hln, zi_cvl_grow (by simp only [zi_wfl, List.all_cons, Bool.and_eq_true] at hws ⊢; exact hws.2.2), ← Nat.add_assoc, ← Nat.add_assoc] at h5
        exact h5
    · cases hst
  · cases hst
end ZN
