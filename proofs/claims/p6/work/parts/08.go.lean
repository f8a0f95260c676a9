/-! what the tables say beside the words -/
def zi_Nst (U : State) : Prop := (∀ w ∈ zi_nest, va_Nw w U) ∧ va_AO RX2 U ∧ va_AO RX4 U ∧ va_AOA .int U
theorem zi_nest_k : ∀ w ∈ zi_nest, ∃ (a : String) (i : Nat) (x : MethodName) (h : String), w = Cond.methodLinkNest a i x h := by
  intro w hw
  simp only [zi_nest, List.mem_cons, List.not_mem_nil, or_false] at hw
  rcases hw with rfl | rfl | rfl | rfl | rfl | rfl | rfl | rfl | rfl <;> exact ⟨_, _, _, _, rfl⟩
theorem zi_Nst.warm {s U : State} (hW : s.WarmedH U.vm) (h : zi_Nst s) : zi_Nst U := by
  refine ⟨fun w hw => ?_, h.2.1.moved hW.alike, h.2.2.1.moved hW.alike, Jvm.Stand.arrayOver_alikeB hW.alike h.2.2.2⟩
  obtain ⟨a, i, x, g, rfl⟩ := zi_nest_k w hw
  exact va_Nw.warmM hW (h.1 _ hw)
theorem zi_Nst.same {u U : State} (e : u.vm = U.vm) (h : zi_Nst u) : zi_Nst U := by
  have ha : u.vm.Alike U.vm := by rw [← e]; exact Vm.Alike.refl u.vm
  refine ⟨fun w hw => ?_, h.2.1.moved ha, h.2.2.1.moved ha, Jvm.Stand.arrayOver_alikeB ha h.2.2.2⟩
  obtain ⟨a, i, x, g, rfl⟩ := zi_nest_k w hw
  exact va_Nw.same rfl e (h.1 _ hw)
/-! a method's contract -/
def zi_Pc (ρ : Nat → Int32) (b0 : Nat) (as : List Nat) (cy : Nat → ClassId) (D : va_G) (sz : Nat) (h : zi_Hp) (vs : List Value) : Array Value → State → Prop :=
  va_Pc (vs.map (zi_cv ρ b0 as)) (fun U => U.heap.size = sz ∧ va_P D vwCl (zi_w ρ b0 as cy h) U.heap ∧ va_K D vwCl (zi_tys cy) U ∧ va_D (fun _ => True) (zi_w ρ b0 as cy h) ∧ zi_Nst U)
def zi_Qc (ρ : Nat → Int32) (b0 : Nat) (as : List Nat) (cy : Nat → ClassId) (D : va_G) (sz : Nat) (h : zi_Hp) (mc : Nat) (os : List zi_Out) : Array Value → State → Outcome → State → Prop :=
  fun _ st oc t => ∃ o ∈ os, zi_rho ρ o.1 ∧ ∃ qs : List Nat, qs.length ≤ mc ∧ (as ++ qs).length = o.2.2.length ∧ oc = .returned (o.2.1.map (zi_cv ρ b0 (as ++ qs))) ∧ va_P D vwCl (zi_w ρ b0 (as ++ qs) cy o.2.2) t.heap ∧ va_D (va_A (zi_w ρ b0 as cy h) sz) (zi_w ρ b0 (as ++ qs) cy o.2.2) ∧ va_F (va_A (zi_w ρ b0 as cy h) sz) st t
abbrev zi_wsM (mt : zi_Me) : List Cond := Cond.code mt.1 mt.2.1 mt.2.2.1 mt.2.2.2.1 :: zi_Ts
abbrev zi_rm (mt : zi_Me) (dp : Nat) : Room := { frames := dp, cells := mt.2.2.2.2.2.1, slots := mt.2.2.2.2.2.2, locals := 40 * dp }
def zi_callOk (l : Launch) (ms : List zi_Me) (call : Nat → List Value → zi_Hp → zi_Dm → Option (List zi_Out)) (dp : Nat) : Prop :=
  ∀ (a : Nat) (mt : zi_Me), ms[a]? = some mt → ∀ (vs : List Value) (h : zi_Hp) (d : zi_Dm) (os : List zi_Out), call a vs h d = some os → ∀ (ρ : Nat → Int32) (b0 : Nat) (as : List Nat) (cy : Nat → ClassId) (D : va_G) (sz : Nat), zi_rho ρ d → as.length = h.length →
    Met l mt.1 (zi_wsM mt) (zi_rm mt dp) (zi_Pc ρ b0 as cy D sz h vs) (zi_Qc ρ b0 as cy D sz h mt.2.2.2.2.2.1 os) mt.2.2.2.2.2.1 mt.2.2.2.2.2.2 (va_A (zi_w ρ b0 as cy h) sz)
/-- what is known of each method -/
def zi_mOk (ms : List zi_Me) : Prop := ∀ (a : Nat) (mt : zi_Me), ms[a]? = some mt → Cond.code mt.1 mt.2.1 mt.2.2.1 mt.2.2.2.1 ∈ zi_Ts ∧ Cond.initialized mt.1.cls ∈ zi_Ts ∧ plainFor mt.1 = true ∧ (mt.1.cls ≠ "java/lang/invoke/MethodHandle" ∧ mt.1.cls ≠ "java/lang/invoke/VarHandle") ∧ mt.2.2.1 ≤ 21 ∧
  ∀ r ∈ mt.2.2.2.2.1, decode mt.2.1 r.1 = .ok (r.2.1, r.2.2.1) ∧ zi_lok r = true ∧ zi_ok mt.1.cls (decide (mt.1.name = "<init>")) ms r = true
theorem zi_goodM {ms : List zi_Me} (h : zi_mOk ms) {a : Nat} {mt : zi_Me} (e : ms[a]? = some mt) : GoodIn zi_Ts (zi_wsM mt) := by
  intro w hw
  rcases List.mem_cons.mp hw with rfl | hw
  · exact ⟨(h a mt e).1, zi_Ts_good (h a mt e).1⟩
  · exact ⟨hw, zi_Ts_good hw⟩
theorem zi_catsum (l : List Value) : (l.map fun v => v.category).sum ≤ 2 * l.length := by
  induction l with
  | nil => simp
  | cons v l ih =>
    have : v.category ≤ 2 := by rcases lv_cat v with h | h <;> omega
    simp only [List.map_cons, List.sum_cons, List.length_cons]
    omega
section ZB
variable {p : Program} {l : Launch} {e : Env} {R : Room} {s : State} {m : MethodId} {args : Array Value} {below : List Frame} {meth : Method} {c : Code} {H : Heap} {locs : List Loc} {cells slots : Nat} {Q : State → Prop}
variable {cc : ByteArray} {ls : Array Slot} {D : va_G} {A : Nat → Prop} {pc : Nat} {rest : List Value}
variable {ρ : Nat → Int32} {b0 : Nat} {as : List Nat} {cy : Nat → ClassId}
theorem zi_Wif {cnd : ClassFile.Cond} {x : Int32} {off : Int} {tgt : Nat} (hx : p.tables.exec = Jvm.exec) (hb : c.code = cc) (hdg : decode cc pc = .ok (.ifCond cnd off, 3)) (ht : (pc : Int) + off = (tgt : Int))
    (kt : zi_cmp cnd x 0 = true → W p l e R s m args below meth c H locs cells slots Q (F0 m tgt ls rest)) (kf : ¬ zi_cmp cnd x 0 = true → W p l e R s m args below meth c H locs cells slots Q (F0 m (pc + 3) ls rest)) : W p l e R s m args below meth c H locs cells slots Q (F0 m pc ls (.int x :: rest)) := by
  cases cnd <;> simp only [zi_cmp, decide_eq_true_eq] at kt kf
  · exact lv_if_eq hx hb hdg ht kt kf
  · exact lv_if_ne hx hb hdg ht kt (fun h => kf (fun n => n h))
  · exact lv_if_lt hx hb hdg ht kt kf
  · exact lv_if_ge hx hb hdg ht kt kf
  · exact lv_if_gt hx hb hdg ht kt kf
  · exact lv_if_le hx hb hdg ht kt kf
theorem zi_Wicmp {cnd : ClassFile.Cond} {x y : Int32} {off : Int} {tgt : Nat} (hx : p.tables.exec = Jvm.exec) (hb : c.code = cc) (hdg : decode cc pc = .ok (.if_icmp cnd off, 3)) (ht : (pc : Int) + off = (tgt : Int))
    (kt : zi_cmp cnd x y = true → W p l e R s m args below meth c H locs cells slots Q (F0 m tgt ls rest)) (kf : ¬ zi_cmp cnd x y = true → W p l e R s m args below meth c H locs cells slots Q (F0 m (pc + 3) ls rest)) : W p l e R s m args below meth c H locs cells slots Q (F0 m pc ls (.int y :: .int x :: rest)) := by
  cases cnd <;> simp only [zi_cmp, decide_eq_true_eq] at kt kf
  · exact lv_icmp_eq hx hb hdg ht kt kf
  · exact lv_icmp_ne hx hb hdg ht kt (fun h => kf (fun n => n h))
  · exact lv_icmp_lt hx hb hdg ht kt kf
  · exact lv_icmp_ge hx hb hdg ht kt kf
  · exact lv_icmp_gt hx hb hdg ht kt kf
  · exact lv_icmp_le hx hb hdg ht kt kf
/-- behind a call -/
theorem zi_Wcall {a : Array Value} {h : zi_Hp} {os : List zi_Out} {mc mS : Nat} {st0 : List Value}
    (hr : va_Run p l e R s m args below meth c H locs cells slots mc mS (F0 m pc ls st0) rest (zi_Qc ρ b0 as cy D H.size h mc os a) (va_A (zi_w ρ b0 as cy h) H.size))
    (hA : ∀ q, s.heap.size ≤ q → A q) (hD : va_D A (zi_w ρ b0 as cy h)) (hS : va_S A s.heap H locs)
    (kk : ∀ o ∈ os, zi_rho ρ o.1 → ∀ (qs : List Nat) (H1 : Heap) (locs1 : List Loc), qs.length ≤ mc → (as ++ qs).length = o.2.2.length → va_P D vwCl (zi_w ρ b0 (as ++ qs) cy o.2.2) H1 → va_D A (zi_w ρ b0 (as ++ qs) cy o.2.2) → va_S A s.heap H1 locs1 → W p l e R s m args below meth c H1 locs1 (cells + mc) (slots + mS) Q (F0 m (pc + 3) ls ((o.2.1.map (zi_cv ρ b0 (as ++ qs))).toList ++ rest))) :
    W p l e R s m args below meth c H locs cells slots Q (F0 m pc ls st0) := by
  have hF : ∀ q, va_A (zi_w ρ b0 as cy h) H.size q → A q := fun q hq => by
    rcases hq with ⟨k, x, hk⟩ | hq
    · exact hD.2 k (q, x) hk
    · exact hA q (Nat.le_trans hS.1 hq)
  intro T hT X
  obtain ⟨v, st₀, t, T', L, h0, X', hL, e1, e2, ⟨o, ho, hrho, qs, q1, q2, hv, hp, hd, hz, hk⟩, st⟩ := hr T hT X
  have hv : v = o.2.1.map (zi_cv ρ b0 (as ++ qs)) := by injection hv
  subst hv
  rw [h0] at hz hk
  obtain ⟨t2, a1, b1⟩ := kk o ho hrho qs T'.heap (locs ++ L) q1 q2 (by rw [e1]; exact hp) (hd.weaken (fun _ q _ h => hF q.1 h))
    ⟨Nat.le_trans hS.1 (by rw [e1]; exact hz), fun q h1 h2 => by rw [e1, hk q (Nat.lt_of_lt_of_le h1 hS.1) (fun z => h2 (hF q z))]; exact hS.2.1 q h1 h2, fun q hq => by
      rcases List.mem_append.mp hq with h | h
      · exact hS.2.2 q h
      · exact hF _ (hL q h)⟩ T' rfl X'
  exact ⟨t2, st t2 a1, b1⟩
theorem zi_blind {sz : Nat} {h : zi_Hp} {vs : List Value} : FrameBlind (zi_Pc ρ b0 as cy D sz h vs) := by
  intro a U g mk q
  obtain ⟨q0, q1, qP, qK, qD, qN⟩ := q
  exact ⟨q0, q1, qP, va_K.moved (u := U) (U := U.calling g mk a) (Vm.Alike.refl U.vm) qK, qD, zi_Nst.same (u := U) (U := U.calling g mk a) rfl qN⟩
theorem zi_pre {h : zi_Hp} {vs : List Value} (hP : va_P D vwCl (zi_w ρ b0 as cy h) H) (hK : va_K D vwCl (zi_tys cy) s) (hD : va_D A (zi_w ρ b0 as cy h)) (hN : zi_Nst s) :
    ∀ U : State, U.heap = H → s.WarmedH U.vm → zi_Pc ρ b0 as cy D H.size h vs (vs.map (zi_cv ρ b0 as)).toArray U := fun U hU hW =>
  ⟨rfl, by rw [hU], by rw [hU]; exact hP, va_K.moved hW.alike hK, hD.weaken (fun _ _ _ _ => trivial), hN.warm hW⟩
end ZB
theorem zi_ask_st {ρ : Nat → Int32} {b0 : Nat} {as : List Nat} {i : Instr} {st : List Value} {k : UInt32} {f : Int32 → List Value} (h : zi_ask i st = some (k, f)) : (f (ρ k.toNat)).map (zi_cv ρ b0 as) = st.map (zi_cv ρ b0 as) := by
  unfold zi_ask at h
  split at h
  all_goals first
    | cases h; done
    | (split at h
       · cases h; rfl
       · cases h)
theorem zi_cpyl {l0 l1 : List Value} {sp dp n : Nat} (h4 : sp + n ≤ l0.length) (h5 : dp + n ≤ l1.length) : (l1.take dp ++ ((l0.drop sp).take n ++ l1.drop (dp + n))).length = l1.length := by
  simp only [List.length_append, List.length_take, List.length_drop]
  omega
theorem zi_cpyf {ρ : Nat → Int32} {l0 l1 : List Value} {sp dp n : Nat} (h4 : sp + n ≤ l0.length) (h5 : dp + n ≤ l1.length) : (fun i => zi_iv ρ ((l1.take dp ++ ((l0.drop sp).take n ++ l1.drop (dp + n))).getD i (.int 0))) = va_cpy (fun i => zi_iv ρ (l0.getD i (.int 0))) (fun i => zi_iv ρ (l1.getD i (.int 0))) sp dp n := by
  funext i
  unfold va_cpy
  have e1 : (l1.take dp).length = dp := by rw [List.length_take]; omega
  have e2 : ((l0.drop sp).take n).length = n := by rw [List.length_take, List.length_drop]; omega
  simp only [List.getD_eq_getElem?_getD]
  by_cases c1 : i < dp
  · rw [if_neg (by omega), List.getElem?_append_left (by omega), List.getElem?_take, if_pos c1]
  · by_cases c2 : i < dp + n
    · rw [if_pos ⟨by omega, c2⟩, List.getElem?_append_right (by omega), List.getElem?_append_left (by omega), List.getElem?_take, if_pos (by omega), List.getElem?_drop, e1]
    · rw [if_neg (by omega), List.getElem?_append_right (by omega), List.getElem?_append_right (by omega), List.getElem?_drop, e1, e2]
      congr 3
      omega
theorem zi_lc_call {ρ : Nat → Int32} {b0 : Nat} {as qs : List Nat} {h : zi_Hp} {L : zi_Lc} {st : List Value} {mc : Nat} (c : mc = 0 ∨ (zi_wfc h.length L = true ∧ zi_wfl h.length st = true)) (hln : as.length = h.length) (hq : qs.length ≤ mc) : zi_lc ρ b0 (as ++ qs) L = zi_lc ρ b0 as L := by
  rcases c with rfl | c
  · rw [List.eq_nil_of_length_eq_zero (Nat.le_zero.mp hq), List.append_nil]
  · rw [← hln] at c
    exact zi_lc_grow c.1
theorem zi_cvl_call {ρ : Nat → Int32} {b0 : Nat} {as qs : List Nat} {h : zi_Hp} {L : zi_Lc} {st : List Value} {mc : Nat} (c : mc = 0 ∨ (zi_wfc h.length L = true ∧ zi_wfl h.length st = true)) (hln : as.length = h.length) (hq : qs.length ≤ mc) : st.map (zi_cv ρ b0 (as ++ qs)) = st.map (zi_cv ρ b0 as) := by
  rcases c with rfl | c
  · rw [List.eq_nil_of_length_eq_zero (Nat.le_zero.mp hq), List.append_nil]
  · rw [← hln] at c
    exact zi_cvl_grow c.2
