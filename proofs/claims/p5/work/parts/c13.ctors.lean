section
/-! the two constructors -/
noncomputable def zn_5 : zi_Hp := [(5, (List.range (zi_fld 5)).map (fun k => defaultValue (zi_ty 5 k)))]
noncomputable def zn_6 : zi_Hp := [(6, (List.range (zi_fld 6)).map (fun k => defaultValue (zi_ty 6 k)))]
noncomputable def zi_leq : List Value → List Value → Bool
  | [], [] => true
  | x :: xs, y :: ys => decide (x = y) && zi_leq xs ys
  | _, _ => false
theorem zi_leq_eq : ∀ {a b : List Value}, zi_leq a b = true → a = b
  | [], [], _ => rfl
  | x :: xs, y :: ys, h => by
    simp only [zi_leq, Bool.and_eq_true, decide_eq_true_eq] at h
    rw [h.1, zi_leq_eq h.2]
  | [], _ :: _, h => by cases h
  | _ :: _, [], h => by cases h
noncomputable def zi_heq : zi_Hp → zi_Hp → Bool
  | [], [] => true
  | x :: xs, y :: ys => decide (x.1 = y.1) && zi_leq x.2 y.2 && zi_heq xs ys
  | _, _ => false
theorem zi_heq_eq : ∀ {a b : zi_Hp}, zi_heq a b = true → a = b
  | [], [], _ => rfl
  | (x1, x2) :: xs, (y1, y2) :: ys, h => by
    simp only [zi_heq, Bool.and_eq_true, decide_eq_true_eq] at h
    rw [h.1.1, zi_leq_eq h.1.2, zi_heq_eq h.2]
  | [], _ :: _, h => by cases h
  | _ :: _, [], h => by cases h
/-- one outcome, nothing answered, this heap -/
noncomputable def zi_is (o : Option (List zi_Out)) (h : zi_Hp) : Bool := match o with
  | some [([], none, g)] => zi_heq g h
  | _ => false
theorem zi_is_eq {o : Option (List zi_Out)} {h : zi_Hp} (e : zi_is o h = true) : o = some [([], none, h)] := by
  unfold zi_is at e
  split at e
  · rw [zi_heq_eq e]
  · cases e
set_option maxRecDepth 100000 in
theorem ze_A : zi_run zi_ms 3000 10 0 [.ref 1] zn_5 [] = some [([], none, zh_1)] := zi_is_eq (by decide +kernel)
set_option maxRecDepth 100000 in
theorem ze_B : zi_run zi_ms 3000 10 6 [.ref 232] (zh_1 ++ zn_6) [] = some [([], none, zh_2)] := zi_is_eq (by decide +kernel)
end
section
/-! THE CLAIM OUT OF ONE WALK OF THE LAW'S BODY. Your part is whole_start (and what it stands on); all else here is the same for every law, but numbers. -/
noncomputable def R_law : String := "WindowDeskLaw"
noncomputable def lw_P (b : Addr) (xs : List Int32) (args : Array Value) (s : State) : Prop := args = #[.ref b] ∧ s.IntsAt b xs ∧ xs.length ≤ 2560 ∧ (Jvm.Cond.and given_1 narrow_1).before args s = true
noncomputable def lw_Q (_ : Array Value) (s : State) (o : Outcome) (t : State) : Prop := o = .returned (some (.int 1)) ∧ Framed s o t [] 600000 7302250
noncomputable def lw_Z (below : List Frame) (a : Array Value) (s : State) : State → Prop := fun t => ∃ o, t.status = .running ∧ Ended t below o ∧ lw_Q a s o t
/-- the law's own end, with 1 on the stack, nothing written that was there before, its room as the claim has it -/
theorem lw_ret {p : Program} {l : Launch} {e : Env} {s : State} {m : MethodId} {below : List Frame} {meth : Method} {c : Code} {b : Nat} (hx : p.tables.exec = Jvm.exec) (hb : c.code = code) (hr : meth.sig.returnType = ret) (hlocks : meth.locks = false) {pc : Nat} {H : Heap} {ls : Array Slot} (hdg : decode code pc = .ok (.ireturn, 1)) : W p l e room_1 s m #[Value.ref b] below meth c H [] 600000 7302250 (lw_Z below #[Value.ref b] s) (F0 m pc ls [.int 1]) := by
  intro T hT X
  obtain ⟨fs, hret, hrun, hended, hW, hframe⟩ := X.leave (v := some (.int 1)) (hlocks := hlocks) (fun h => by rw [hr] at h; cases h)
  have hmeth' : T.vm.method? m = some meth := X.method'
  refine ⟨T.setFrames fs, ?_, .returned (some (.int 1)), hrun, hended, rfl, ⟨_, rfl⟩, hW, hframe⟩
  jvm_step X.here [X.here.top, hx, hb, hdg, hmeth', hr, ret, narrow_b1]
  (try refine ⟨rfl, ?_⟩); (try refine ⟨rfl, ?_⟩)
  first | (intro acts; rw [hret _ acts rfl rfl rfl]) | rw [hret _ _ rfl rfl rfl]
  exact Steps.refl _
/-- what holds at the law's entry: the machine, the code, the tables' words (any of lw_tbl by 'hts w (by decide +kernel)'), the script of L ints xs at the cell b, what the Statement gives of the start (any of its parts by flat_of_before) -/
noncomputable def lw_At (p : Program) (s : State) (m : MethodId) (meth : Method) (c : Code) (b L : Nat) (xs : Nat → Int32) : Prop :=
  p.tables.exec = Jvm.exec ∧ c.code = code ∧ meth.sig.returnType = ret ∧ c.maxLocals = 4 ∧ s.vm.findClass R_law = some m.cls ∧ (∀ w ∈ lw_tbl, w.before #[Value.ref b] s = true) ∧ va_X b L xs s s.heap ∧ b < s.heap.size ∧ meth.locks = false ∧ (Jvm.Cond.and given_1 narrow_1).before #[Value.ref b] s = true
end
section
/-! the law: its start, and one round -/
theorem zi_world {args : Array Value} {s : State} (hts : ∀ w ∈ zi_Ts, w.before args s = true) (hN : zi_Nst s) : ∃ (D : va_G) (cy : Nat → ClassId), va_K D vwCl (zi_tys cy) s := by
  obtain ⟨c0, i0, k0⟩ := u_known (C := RX0) (T := TX0) (N := 4) (n := 4) hts zk_0.1 (hts _ zk_0.2.2.2.2.1)
  obtain ⟨c1, i1, k1⟩ := u_known (C := RX1) (T := TX1) (N := 2) (n := 2) hts zk_1.1 (hts _ zk_1.2.2.2.2.1)
  obtain ⟨c2, i2, k2⟩ := u_known (C := RX2) (T := TX2) (N := 4) (n := 4) hts zk_2.1 (hts _ zk_2.2.2.2.2.1)
  obtain ⟨c3, i3, k3⟩ := u_known (C := RX3) (T := TX3) (N := 16) (n := 16) hts zk_3.1 (hts _ zk_3.2.2.2.2.1)
  obtain ⟨c4, i4, k4⟩ := u_known (C := RX4) (T := TX4) (N := 6) (n := 6) hts zk_4.1 (hts _ zk_4.2.2.2.2.1)
  obtain ⟨c5, i5, k5⟩ := u_known (C := RX5) (T := TX5) (N := 9) (n := 9) hts zk_5.1 (hts _ zk_5.2.2.2.2.1)
  obtain ⟨c6, i6, k6⟩ := u_known (C := RX6) (T := TX6) (N := 33) (n := 33) hts zk_6.1 (hts _ zk_6.2.2.2.2.1)
  obtain ⟨aI, kI, pI, fI, gI, tI⟩ := Cond.arrayClass_spec (hts _ zi_AI)
  obtain ⟨aZ, kZ, pZ, fZ, gZ, tZ⟩ := Cond.arrayClass_spec (hts _ zi_AZ)
  obtain ⟨pS, aS, kS, fS, -, gS, tS, nS⟩ := Cond.arrayOver_spec hN.2.1
  obtain ⟨pW, aW, kW, fW, -, gW, tW, nW⟩ := Cond.arrayOver_spec hN.2.2.1
  obtain ⟨pA, aA, kA, fA, -, gA, tA, nA⟩ := Jvm.Stand.arrayOver_specB hN.2.2.2
  refine ⟨(fun k => if k = 0 then c0 else if k = 1 then c1 else if k = 2 then c2 else if k = 3 then c3 else if k = 4 then c4 else if k = 5 then c5 else c6, fun k => if k = 0 then i0 else if k = 1 then i1 else if k = 2 then i2 else if k = 3 then i3 else if k = 4 then i4 else if k = 5 then i5 else i6), fun t => if t = 7 then aI else if t = 8 then aZ else if t = 9 then aS else if t = 10 then aW else aA, ?_, ?_⟩
  · intro k q hq
    match k, hq with
    | 0, hq => cases hq; exact k0
    | 1, hq => cases hq; exact k1
    | 2, hq => cases hq; exact k2
    | 3, hq => cases hq; exact k3
    | 4, hq => cases hq; exact k4
    | 5, hq => cases hq; exact k5
    | 6, hq => cases hq; exact k6
    | k + 7, hq => simp at hq
  · intro k q hq
    match k, hq with
    | 0, hq => cases hq; exact ⟨fun n z => ⟨(fun q hq => by cases hq), kI, gI, pI, tI⟩, fI⟩
    | 1, hq => cases hq; exact ⟨fun n z => ⟨(fun q hq => by cases hq), kZ, gZ, pZ, tZ⟩, fZ⟩
    | 2, hq => cases hq; exact ⟨fun n z => ⟨(fun q hq => by cases hq), kS, gS, pS, tS⟩, ⟨kS, pS, gS, tS, fS, nS⟩⟩
    | 3, hq => cases hq; exact ⟨fun n z => ⟨(fun q hq => by cases hq), kW, gW, pW, tW⟩, ⟨kW, pW, gW, tW, fW, nW⟩⟩
    | 4, hq => cases hq; exact ⟨fun n z => ⟨(fun q hq => by cases hq), kA, gA, pA, tA⟩, nA⟩
    | k + 5, hq => simp [zi_tys] at hq
section ZL
variable {p : Program} {l : Launch} {e : Env} {R : Room} {s : State} {m : MethodId} {args : Array Value} {below : List Frame} {meth : Method} {c : Code} {H : Heap} {locs : List Loc} {cells slots : Nat} {Q : State → Prop}
variable {cc : ByteArray} {ls : Array Slot} {D : va_G} {A : Nat → Prop} {pc : Nat} {ρ : Nat → Int32} {b0 : Nat} {as : List Nat} {cy : Nat → ClassId} {own : String} {ms : List zi_Me} {nL dp : Nat} {call : Nat → List Value → zi_Hp → zi_Dm → Option (List zi_Out)}
/-- a constructor without arguments is called -/
theorem zi_Winit {a j t x : Nat} {mt : zi_Me} {rest : List Value} {h : zi_Hp} {d : zi_Dm} {os : List zi_Out}
    (hx : p.tables.exec = Jvm.exec) (hb : c.code = cc) (hml : c.maxLocals = nL) (hown : s.vm.findClass own = some m.cls) (hts : ∀ w ∈ zi_Ts, w.before args s = true) (hN : zi_Nst s) (hK : va_K D vwCl (zi_tys cy) s) (hA : ∀ q, s.heap.size ≤ q → A q)
    (hRf : dp + 1 ≤ R.frames) (hRl : 40 * (dp + 1) ≤ R.locals) (hC : cells + mt.2.2.2.2.2.1 ≤ R.cells) (hSl : slots + mt.2.2.2.2.2.2 ≤ R.slots)
    (hms : zi_mOk ms) (hcall : zi_callOk l ms call dp) (hmt : ms[a]? = some mt) (hrun : call a [.ref (x + 1)] h d = some os)
    (k1 : zi_tb t (.methodLink own j mt.1) = true) (k2 : mt.1.name = "<init>") (k3 : zi_np mt.1 = some 0) (k5 : mt.2.2.2.1 = none) (k6 : Cond.instanceMethod mt.1 ∈ zi_Ts) (hdg : decode cc pc = .ok (.invokespecial j, 3)) (hr4 : rest.length ≤ 4)
    (hrho : zi_rho ρ d) (hln : as.length = h.length) (hl : ls.size = nL) (hP : va_P D vwCl (zi_w ρ b0 as cy h) H) (hD : va_D A (zi_w ρ b0 as cy h)) (hS : va_S A s.heap H locs)
    (kk : ∀ o ∈ os, zi_rho ρ o.1 → ∀ (qs : List Nat) (H1 : Heap) (locs1 : List Loc), qs.length ≤ mt.2.2.2.2.2.1 → (as ++ qs).length = o.2.2.length → va_P D vwCl (zi_w ρ b0 (as ++ qs) cy o.2.2) H1 → va_D A (zi_w ρ b0 (as ++ qs) cy o.2.2) → va_S A s.heap H1 locs1 → W p l e R s m args below meth c H1 locs1 (cells + mt.2.2.2.2.2.1) (slots + mt.2.2.2.2.2.2) Q (F0 m (pc + 3) ls ((o.2.1.map (zi_cv ρ b0 (as ++ qs))).toList ++ rest.map (zi_cv ρ b0 as)))) :
    W p l e R s m args below meth c H locs cells slots Q (F0 m pc ls ((.ref (x + 1) :: rest).map (zi_cv ρ b0 as))) := by
  obtain ⟨m1, m2, m3, m4, m5, -⟩ := hms a mt hmt
  have hcs := zi_catsum (rest.map (zi_cv ρ b0 as))
  rw [List.length_map] at hcs
  have hM := hcall a mt hmt [.ref (x + 1)] h d os hrun ρ b0 as cy D H.size hrho hln
  have hws : zi_wsM mt = Cond.code mt.1 mt.2.1 mt.2.2.1 none :: zi_Ts := by rw [← k5]
  have hR : (zi_rm mt dp).frames + 1 ≤ R.frames ∧ 8 + (mt.2.2.1 + 11) + (zi_rm mt dp).locals ≤ R.locals := ⟨hRf, by show 8 + (mt.2.2.1 + 11) + 40 * dp ≤ R.locals; omega⟩
  refine zi_Wcall (va_runI (As := []) (b := as.getD x 0) ⟨hx, hb, hml, hown, hts⟩ hM ⟨callB_of 0 hts (zi_goodM hms hmt) hws rfl rfl (hts _ m2) (hts _ (zi_tb_in k1)) ⟨m4.1, m4.2, k3⟩ hR, k2, hts _ k6⟩ ⟨zi_blind, zi_pre (vs := [.ref (x + 1)]) hP hK hD hN⟩ rfl rfl hl rfl (lv_room (by omega)) hdg ⟨hC, hSl⟩) hA hD hS kk
end ZL
set_option maxHeartbeats 4000000 in
set_option maxRecDepth 100000 in
theorem whole_start {p : Program} {e : Env} {s : State} {m : MethodId} {below : List Frame} {meth : Method} {c : Code} (l : Launch) {b L : Nat} {xs : Nat → Int32} (hL : L ≤ 2560) (C0 : lw_At p s m meth c b L xs) : W p l e room_1 s m #[Value.ref b] below meth c s.heap [] 0 0 (lw_Z below #[Value.ref b] s) (entryFrame m ([Value.ref b] : List Value).toArray 4) := by
  obtain ⟨hx, hb, hr, hml, hown, hts0, hX0, hbl, hlocks, hgv⟩ := C0
  have hown : s.vm.findClass RL = some m.cls := hown
  have hts : ∀ w ∈ zi_Ts, w.before #[Value.ref b] s = true := fun w hw => hts0 w (List.mem_filter.mp hw).1
  have hN : zi_Nst s := ⟨fun w hw => by
    obtain ⟨a, i, x, g, rfl⟩ := zi_nest_k w hw
    exact va_Nw.of rfl (hts0 _ (zi_nest_in _ hw)), va_AO.of (hts0 _ zi_ov2), va_AO.of (hts0 _ zi_ov4), hts0 _ zi_ovA⟩
  obtain ⟨D, cy, hK⟩ := zi_world hts hN
  have hcall := zi_run_sound l 3000 zi_ms_ok zi_cl_ok zi_AI zi_AZ zi_oI zi_oC zi_cN zi_cS zi_cI 10
  obtain ⟨ρ, hρ, h5⟩ : ∃ ρ : Nat → Int32, (∀ j, j < 5 → ρ j = xs j) ∧ ρ 5 = ρ 0 &&& 31 := ⟨fun k => if k = 5 then xs 0 &&& 31 else xs k, fun j hj => if_neg (by omega), rfl⟩
  have hr0 : zi_rho ρ [] := ⟨fun k l hk => by simp at hk, h5⟩
  obtain ⟨A, hAe⟩ : ∃ A : Nat → Prop, A = fun q => s.heap.size ≤ q := ⟨_, rfl⟩
  have hA : ∀ q, s.heap.size ≤ q → A q := fun q h => by rw [hAe]; exact h
  have hA' : ∀ q, A q → s.heap.size ≤ q := fun q h => by rw [hAe] at h; exact h
  have hS : va_S A s.heap s.heap [] := va_S.rf
  have hP : va_P D vwCl (zi_w ρ b [] cy []) s.heap := fun k q h => by simp [zi_w] at h
  have hD : va_D A (zi_w ρ b [] cy []) := ⟨fun i j p q h => by simp [zi_w] at h, fun k q h => by simp [zi_w] at h⟩
  have hl := lv_entry ([.ref b]) (n := 4) (Nat.le_of_ble_eq_true rfl)
  rw [lg_entry_eq]
  generalize (lg_sl ([.ref b]) ++ List.replicate (4 - (lg_sl ([.ref b])).length) Slot.unset).toArray = ls at hl ⊢
  have hl : lv_has ls 4 (zi_lc ρ b [] [(0, .ref 0)]) := hl
  -- from the loop's head
  obtain ⟨sl, hsl⟩ : ∃ sl : List Value, sl = (List.range L).map (fun j => .int (xs j)) := ⟨_, rfl⟩
  have hsll : sl.length = L := by rw [hsl]; simp
  have hslg : ∀ j, j < L → sl[j]? = some (.int (xs j)) := fun j hj => by rw [hsl]; simp [hj]
  obtain ⟨θ, F, hgo⟩ := zw_law (l := sl) (by omega) (fun j hj => ⟨_, hslg j (by omega)⟩)
  have hcall2 := zi_run_sound l F zi_ms_ok zi_cl_ok zi_AI zi_AZ zi_oI zi_oC zi_cN zi_cS zi_cI 64
  have head : ∀ (as : List Nat) (H : Heap) (locs : List Loc) (ls : Array Slot), as.length ≤ 442 → as.length = zh_2.length → lv_has ls 4 (zi_lc ρ b as [(3, .int 0), (2, .ref 232), (1, .ref 1), (0, .ref 0)]) → va_P D vwCl (zi_w ρ b as cy zh_2) H → va_D A (zi_w ρ b as cy zh_2) → va_S A s.heap H locs → W p l e room_1 s m #[Value.ref b] below meth c H locs 442 12042 (lw_Z below #[Value.ref b] s) (F0 m 18 ls []) := by
    intro as H locs ls hal hln hl hP hD hS
    refine zi_go_sound (as0 := []) (OUT := [([], some (.int 1), zm_mk θ)]) (A := A) (dp := 64) (own := RL) (ini := false) (b0 := b) (cy := cy) (D := D) (ρ := ρ) (R := room_1) (cc := code) hx hb hml hown hts zi_cl_ok (fun h => by cases h) ?_ hN zi_AI zi_AZ zi_oI zi_oC zi_cN zi_cS zi_cI hK hA (by decide) (by decide) (by decide) (by decide) zvL_all zi_ms_ok hcall2 ?_ F 18 _ [] zh_2 [] 442 12042 _ hgo (fun _ h => h) hr0 (by decide) (by decide) as H locs ls ⟨as, rfl, hal⟩ hln hl hP hD hS
    · intro sl' hs'
      cases hs'
      refine ⟨?_, hbl, fun h => absurd (hA' b h) (Nat.not_le.mpr hbl)⟩
      obtain ⟨scr, e1, e2, e3, e4, e5⟩ := hX0
      rw [hsll]
      refine ⟨scr, e1, e2, e3, e4, fun j hj => ?_⟩
      rw [e5 j hj]
      have : sl.getD j (.int 0) = .int (xs j) := by rw [List.getD_eq_getElem?_getD, hslg j hj]; rfl
      show some (Value.int (xs j)) = some (Value.int (zi_iv ρ (sl.getD j (.int 0))))
      rw [this]
      rfl
    · intro pc ls st o H locs kc ks as' ho hro has hlen hkc hks hP1 hD1 hS1 hret
      have ho := List.mem_singleton.mp ho
      subst ho
      rcases hret with ⟨hd, v, hv, hrk, rfl⟩ | ⟨hd, x, hv, hra, rfl⟩ | ⟨hd, hv, hrn, rfl⟩
      · cases hv
        refine va_forget (fun q hq => hA' _ (hS1.2.2 q hq)) ?_
        refine W.widen (k := 600000) (n := 7302250) hkc hks ?_
        exact lw_ret hx hb hr hlocks hd
      · cases hra
      · cases hrn
  -- the two objects are made
  obtain ⟨g0, g1, g2⟩ := zv_L_0 (0, .new 7, 3, 5, 0, 106, 0) (List.mem_of_getElem? (i := 0) rfl)
  refine zi_new_sound (r := (0, .new 7, 3, 5, 0, 106, 0)) (own := RL) (ini := false) (ms := zi_ms) (L := [(0, .ref 0)]) (st := []) (st' := [.ref 1]) (h := []) (h' := zn_5) (k1 := 1) (k2 := 9) (nL := 4) hx hb hown hts zi_cl_ok zi_AI zi_AZ hN.2.1 hN.2.2.1 hN.2.2.2 hK hA g0 g1 g2 rfl (by decide) (by decide) rfl rfl rfl rfl hl hP hD hS (fun qs1 H1 p1 p2 p3 p4 p5 p6 => ?_)
  generalize ([] ++ qs1 : List Nat) = a1 at p1 p2 p4 p5 ⊢
  obtain ⟨g0, g1, g2⟩ := zv_L_0 (3, .dup, 1, 0, 0, 0, 0) (List.mem_of_getElem? (i := 1) rfl)
  refine zi_step_sound (r := (3, .dup, 1, 0, 0, 0, 0)) (own := RL) (ini := false) (ms := zi_ms) (scr := none) (L := [(0, .ref 0)]) (L' := [(0, .ref 0)]) (st := [.ref 1]) (st' := [.ref 1, .ref 1]) (h := zn_5) (h' := zn_5) (nL := 4) (d := []) hx hb hown hts zi_cl_ok (fun h => by cases h) (fun _ h => by cases h) hK hr0 g0 g1 g2 rfl p4 p1 p2 p3 (fun H2 l2 ls2 u1 u2 u3 u4 u5 => ?_)
  obtain ⟨g0, g1, g2⟩ := zv_L_0 (4, .invokespecial 9, 3, 0, 1, 108, 0) (List.mem_of_getElem? (i := 2) rfl)
  refine zi_Winit (a := 0) (mt := (yX5_init, cX5_init, 2, none, zc_X5_init, 400, 8000)) (j := 9) (t := 108) (x := 0) (rest := [.ref 1]) (nL := 4) (own := RL) (d := []) (h := zn_5) hx hb hml hown hts hN hK hA (by decide) (by decide) (by decide) (by decide) zi_ms_ok hcall rfl ze_A (by decide +kernel) rfl (by decide +kernel) rfl (zi_tb_in (t := 109) (by decide +kernel)) g0 (by decide) hr0 p5 u4.1 u1 u2 u3 (fun o ho ro qs2 H3 l3 v1 v2 v3 v4 v5 => ?_)
  cases List.mem_singleton.mp ho
  have q5 : a1.length = 1 := p5
  have w1 : zi_wfl a1.length [.ref 1] = true := by rw [q5]; rfl
  have hl3 : lv_has ls2 4 (zi_lc ρ b (a1 ++ qs2) [(0, .ref 0)]) := u4
  rw [← zi_cvl_grow (qs := qs2) w1]
  generalize a1 ++ qs2 = a2 at v2 v3 v4 hl3 ⊢
  obtain ⟨g0, g1, g2⟩ := zv_L_0 (7, .astore_n 1, 1, 0, 0, 0, 0) (List.mem_of_getElem? (i := 3) rfl)
  refine zi_step_sound (r := (7, .astore_n 1, 1, 0, 0, 0, 0)) (own := RL) (ini := false) (ms := zi_ms) (scr := none) (L := [(0, .ref 0)]) (L' := [(1, .ref 1), (0, .ref 0)]) (st := [.ref 1]) (st' := []) (h := zh_1) (h' := zh_1) (nL := 4) (d := []) hx hb hown hts zi_cl_ok (fun h => by cases h) (fun _ h => by cases h) hK hr0 g0 g1 g2 rfl hl3 v3 v4 v5 (fun H4 l4 ls4 u1 u2 u3 u4 u5 => ?_)
  obtain ⟨g0, g1, g2⟩ := zv_L_0 (8, .new 10, 3, 6, 0, 873, 0) (List.mem_of_getElem? (i := 4) rfl)
  refine zi_new_sound (r := (8, .new 10, 3, 6, 0, 873, 0)) (own := RL) (ini := false) (ms := zi_ms) (L := [(1, .ref 1), (0, .ref 0)]) (st := []) (st' := [.ref 232]) (h := zh_1) (h' := zh_1 ++ zn_6) (k1 := 1) (k2 := 33) (nL := 4) hx hb hown hts zi_cl_ok zi_AI zi_AZ hN.2.1 hN.2.2.1 hN.2.2.2 hK hA g0 g1 g2 (by decide +kernel) (by decide) (by decide) (by decide +kernel) (by decide +kernel) rfl v2 u4 u1 u2 u3 (fun qs3 H5 p1 p2 p3 p4 p5 p6 => ?_)
  generalize a2 ++ qs3 = a3 at p1 p2 p4 p5 ⊢
  obtain ⟨g0, g1, g2⟩ := zv_L_0 (11, .dup, 1, 0, 0, 0, 0) (List.mem_of_getElem? (i := 5) rfl)
  refine zi_step_sound (r := (11, .dup, 1, 0, 0, 0, 0)) (own := RL) (ini := false) (ms := zi_ms) (scr := none) (L := [(1, .ref 1), (0, .ref 0)]) (L' := [(1, .ref 1), (0, .ref 0)]) (st := [.ref 232]) (st' := [.ref 232, .ref 232]) (h := zh_1 ++ zn_6) (h' := zh_1 ++ zn_6) (nL := 4) (d := []) hx hb hown hts zi_cl_ok (fun h => by cases h) (fun _ h => by cases h) hK hr0 g0 g1 g2 rfl p4 p1 p2 p3 (fun H6 l6 ls6 u1 u2 u3 u4 u5 => ?_)
  obtain ⟨g0, g1, g2⟩ := zv_L_0 (12, .invokespecial 12, 3, 6, 1, 875, 0) (List.mem_of_getElem? (i := 6) rfl)
  refine zi_Winit (a := 6) (mt := (yX6_init, cX6_init, 2, none, zc_X6_init, 40, 4000)) (j := 12) (t := 875) (x := 231) (rest := [.ref 232]) (nL := 4) (own := RL) (d := []) (h := zh_1 ++ zn_6) hx hb hml hown hts hN hK hA (by decide) (by decide) (by decide) (by decide) zi_ms_ok hcall rfl ze_B (by decide +kernel) rfl (by decide +kernel) rfl (zi_tb_in (t := 876) (by decide +kernel)) g0 (by decide) hr0 p5 u4.1 u1 u2 u3 (fun o ho ro qs4 H7 l7 v1 v2 v3 v4 v5 => ?_)
  cases List.mem_singleton.mp ho
  have q5 : a3.length = 232 := p5.trans (by decide +kernel)
  have w1 : zi_wfl a3.length [.ref 232] = true := by rw [q5]; rfl
  have w2 : zi_wfc a3.length [(1, .ref 1), (0, .ref 0)] = true := by rw [q5]; rfl
  have hl7 : lv_has ls6 4 (zi_lc ρ b (a3 ++ qs4) [(1, .ref 1), (0, .ref 0)]) := by rw [zi_lc_grow w2]; exact u4
  rw [← zi_cvl_grow (qs := qs4) w1]
  generalize a3 ++ qs4 = a4 at v2 v3 v4 hl7 ⊢
  obtain ⟨g0, g1, g2⟩ := zv_L_0 (15, .astore_n 2, 1, 0, 0, 0, 0) (List.mem_of_getElem? (i := 7) rfl)
  refine zi_step_sound (r := (15, .astore_n 2, 1, 0, 0, 0, 0)) (own := RL) (ini := false) (ms := zi_ms) (scr := none) (L := [(1, .ref 1), (0, .ref 0)]) (L' := [(2, .ref 232), (1, .ref 1), (0, .ref 0)]) (st := [.ref 232]) (st' := []) (h := zh_2) (h' := zh_2) (nL := 4) (d := []) hx hb hown hts zi_cl_ok (fun h => by cases h) (fun _ h => by cases h) hK hr0 g0 g1 g2 rfl hl7 v3 v4 v5 (fun H8 l8 ls8 u1 u2 u3 u4 u5 => ?_)
  obtain ⟨g0, g1, g2⟩ := zv_L_0 (16, .iconst 0, 1, 0, 0, 0, 0) (List.mem_of_getElem? (i := 8) rfl)
  refine zi_step_sound (r := (16, .iconst 0, 1, 0, 0, 0, 0)) (own := RL) (ini := false) (ms := zi_ms) (scr := none) (L := [(2, .ref 232), (1, .ref 1), (0, .ref 0)]) (L' := [(2, .ref 232), (1, .ref 1), (0, .ref 0)]) (st := []) (st' := [.int 0]) (h := zh_2) (h' := zh_2) (nL := 4) (d := []) hx hb hown hts zi_cl_ok (fun h => by cases h) (fun _ h => by cases h) hK hr0 g0 g1 g2 rfl u4 u1 u2 u3 (fun H9 l9 ls9 u1 u2 u3 u4 u5 => ?_)
  obtain ⟨g0, g1, g2⟩ := zv_L_0 (17, .istore_n 3, 1, 0, 0, 0, 0) (List.mem_of_getElem? (i := 9) rfl)
  refine zi_step_sound (r := (17, .istore_n 3, 1, 0, 0, 0, 0)) (own := RL) (ini := false) (ms := zi_ms) (scr := none) (L := [(2, .ref 232), (1, .ref 1), (0, .ref 0)]) (L' := [(3, .int 0), (2, .ref 232), (1, .ref 1), (0, .ref 0)]) (st := [.int 0]) (st' := []) (h := zh_2) (h' := zh_2) (nL := 4) (d := []) hx hb hown hts zi_cl_ok (fun h => by cases h) (fun _ h => by cases h) hK hr0 g0 g1 g2 rfl u4 u1 u2 u3 (fun H10 l10 ls10 u1 u2 u3 u4 u5 => ?_)
  exact head a4 H10 l10 ls10 (by rw [v2]; decide +kernel) v2 u4 u1 u2 u3
end
