section
/-- Met.ofW, for a method in whose place nothing else is run -/
theorem zi_ofW {l : Launch} {y : MethodName} {ws ws' : List Cond} {rm : Room} {Pc : Array Value → State → Prop} {Qc : Array Value → State → Outcome → State → Prop} {mc ms : Nat} {free : Addr → Prop} {cc : ByteArray} {maxL : Nat} {ret : Option FieldType}
    (hy : plainFor y = true) (hw : ws = Cond.code y cc maxL ret :: ws')
    (body : ∀ p e s m args below meth c s₁, BodyLoose p l y (headSpec ws rm) cc maxL ret e s m args below meth c s₁ → c.maxLocals = maxL → Pc args s →
      W p l e (headSpec ws rm).room s m args below meth c s.heap [] 0 0 (MQ below Qc args s mc ms free) (entryFrame m args maxL)) : Met l y ws rm Pc Qc mc ms free := by
  refine MetFree.of_bodySF (code := cc) (maxLocals := maxL) (ret := ret) hy ?_ ?_
  · intro args s m h hn
    obtain ⟨meth, c, h1, h2, h3, h4, h5, h6, -, -⟩ := Cond.code_spec hn (atoms_spec (ws := ws) h _ (by rw [hw]; exact List.mem_cons_self))
    exact ⟨meth, c, h1, h2, h3, h4, h5, h6⟩
  · intro p e s m args below meth c s₁ B hml hP _
    have hh0 : s₁.heap = s.heap := by rw [B.state]; rfl
    obtain ⟨t, a1, o, b1, b2, b3⟩ := body p e s m args below meth c s₁ B hml hP s₁ hh0 (Stand.of_body B)
    exact ⟨t, o, a1, b1, b2, ⟨b3.1, b3.2⟩⟩
theorem zi_args {ρ : Nat → Int32} {b0 : Nat} {as : List Nat} (vs : List Value) : ∀ i : Nat, lv_args i (vs.map (zi_cv ρ b0 as)) = zi_lc ρ b0 as (lv_args i vs) := by
  induction vs with
  | nil => intro i; rfl
  | cons v vs ih =>
    intro i
    show (i, zi_cv ρ b0 as v) :: lv_args (if (zi_cv ρ b0 as v).category = 2 then i + 2 else i + 1) (vs.map (zi_cv ρ b0 as)) = _
    rw [zi_cv_cat, ih]
    rfl
theorem zi_sl {ρ : Nat → Int32} {b0 : Nat} {as : List Nat} (vs : List Value) : (lg_sl (vs.map (zi_cv ρ b0 as))).length = (lg_sl vs).length := by
  induction vs with
  | nil => rfl
  | cons v vs ih =>
    simp only [lg_sl, List.map_cons, List.flatMap_cons, List.length_append, zi_cv_cat] at ih ⊢
    rw [ih]
    split <;> rfl
set_option maxHeartbeats 4000000 in
theorem zi_run_sound (l : Launch) {ms : List zi_Me} (F : Nat) (hms : zi_mOk ms) (hcl : ∀ a q, vwCl[a]? = some q → zi_cok a q) (hAI : Cond.arrayClass .int ∈ zi_Ts) (hAZ : Cond.arrayClass .boolean ∈ zi_Ts) (hoI : Cond.instanceMethod objectInit ∈ zi_Ts) (hoC : Cond.code objectInit ⟨#[0xb1]⟩ 1 none ∈ zi_Ts) (hcN : Cond.native arraycopyName ∈ zi_Ts) (hcS : Cond.static arraycopyName ∈ zi_Ts) (hcI : Cond.initialized "java/lang/System" ∈ zi_Ts) :
    ∀ dp : Nat, zi_callOk l ms (zi_run ms F dp) dp := by
  intro dp
  induction dp with
  | zero =>
    intro a mt hmt vs h d os hrun
    simp only [zi_run] at hrun
    cases hrun
  | succ dp ih =>
    intro a mt hmt vs h d os hrun ρ b0 as cy D sz hrho hln
    unfold zi_run at hrun
    rw [hmt] at hrun
    dsimp only at hrun
    split at hrun
    · rename_i hsl
      obtain ⟨m1, m2, m3, m4, m5, m6⟩ := hms a mt hmt
      refine zi_ofW (cc := mt.2.1) (maxL := mt.2.2.1) (ret := mt.2.2.2.1) m3 rfl ?_
      intro p e s m args below meth c s₁ B hml hv
      obtain ⟨rfl, hsz, hP, hK, hD0, hN⟩ := hv
      have hx := B.exec
      have hb := B.bytes
      have hr := B.returns
      have hts0 := atoms_spec (ws := zi_wsM mt) B.pre
      have hts : ∀ w ∈ zi_Ts, w.before (vs.map (zi_cv ρ b0 as)).toArray s = true := fun w hw => hts0 w (List.mem_cons_of_mem _ hw)
      have hown : s.vm.findClass mt.1.cls = some m.cls := findClass_of_methodNamed B.named
      have hlocks := B.notSynchronized
      have hnm : meth.name = mt.1.name := (name_of_methodNamed B.named B.method).1
      subst hsz
      have hD := hD0.self (sz := s.heap.size)
      have hl := lv_entry (vs.map (zi_cv ρ b0 as)) (n := mt.2.2.1) (by rw [zi_sl]; exact hsl)
      rw [zi_args] at hl
      rw [lg_entry_eq]
      generalize (lg_sl (vs.map (zi_cv ρ b0 as)) ++ List.replicate (mt.2.2.1 - (lg_sl (vs.map (zi_cv ρ b0 as))).length) Slot.unset).toArray = ls at hl ⊢
      refine zi_go_sound (as0 := as) (OUT := os) (A := va_A (zi_w ρ b0 as cy h) s.heap.size) (dp := dp) (own := mt.1.cls) (ini := decide (mt.1.name = "<init>")) (scr := none) (R := (headSpec (zi_wsM mt) (zi_rm mt (dp + 1))).room) hx hb hml hown hts hcl (fun hi => by rw [hnm]; exact of_decide_eq_true hi) (fun sl hs => by cases hs) hN hAI hAZ hoI hoC hcN hcS hcI hK (fun q hq => Or.inr hq) (Nat.le_refl _) (Nat.le_refl _) (Nat.le_refl _) (Nat.le_refl _) m6 hms ih ?_ F 0 (lv_args 0 vs) [] h d 0 0 os hrun (fun _ ho => ho) hrho (Nat.zero_le _) (Nat.zero_le _) as s.heap [] ls ⟨[], by simp, Nat.le_refl _⟩ hln hl hP hD va_S.rf
      intro pc ls st o H locs kc ks as' ho hro has hlen hkc hks hP1 hD1 hS1 hret
      obtain ⟨qs, rfl, hq⟩ := has
      have hQ : ∀ t : State, t.heap = H → s.WarmedH t.vm → zi_Qc ρ b0 as cy D s.heap.size h mt.2.2.2.2.2.1 os (vs.map (zi_cv ρ b0 as)).toArray s (.returned (o.2.1.map (zi_cv ρ b0 (as ++ qs)))) t := fun t ht hW => ⟨o, ho, hro, qs, Nat.le_trans hq hkc, hlen, rfl, by rw [ht]; exact hP1, hD1, hS1.F ht⟩
      refine W.widen hkc hks ?_
      rcases hret with ⟨hd, v, hv, hrk, rfl⟩ | ⟨hd, x, hv, hra, rfl⟩ | ⟨hd, hv, hrn, rfl⟩
      · rw [hv] at hQ
        unfold zi_retOk at hrk
        split at hrk
        · rename_i hre
          have e1 := zi_cv_iv (ρ := ρ) (b := b0) (as := as ++ qs) hrk
          show W _ _ _ _ _ _ _ _ _ _ _ _ _ _ _ (F0 m pc ls [zi_cv ρ b0 (as ++ qs) v])
          have hQ : ∀ t : State, t.heap = H → s.WarmedH t.vm → zi_Qc ρ b0 as cy D s.heap.size h mt.2.2.2.2.2.1 os (vs.map (zi_cv ρ b0 as)).toArray s (.returned (some (zi_cv ρ b0 (as ++ qs) v))) t := hQ
          rw [e1] at hQ ⊢
          exact W.zret (ty := .int) hx hb (hr.trans hre) rfl hQ hS1.2.2 hd
        · rename_i hre
          split at hrk
          · rename_i x
            simp only [Bool.or_eq_true, decide_eq_true_eq] at hrk
            refine W.zret (v := x) (ty := .boolean) hx hb (hr.trans hre) ?_ hQ hS1.2.2 hd
            rcases hrk with rfl | rfl
            · decide
            · decide
          · cases hrk
        · cases hrk
      · rw [hv] at hQ
        unfold zi_retA at hra
        split at hra
        · rename_i nm hre
          refine W.aret (v := zi_cv ρ b0 (as ++ qs) (.ref x)) (rt := .object nm) hx hb (hr.trans hre) (Or.inl ⟨_, rfl⟩) (Or.inr ?_) hQ hS1.2.2 hd
          cases x <;> exact ⟨_, rfl⟩
        · cases hra
      · rw [hv] at hQ
        exact W.vret hx hb (hr.trans hrn) hQ hS1.2.2 hd
    · cases hrun
end
section
/-! the memory behind the constructors: every cell stands where it stands; only ints change -/
noncomputable def zh_1 : zi_Hp := [(5, [.ref 2, .ref 3, .ref 4, .ref 6, .ref 8, .ref 32, .ref 33, .ref 34, .ref 35]), (10, [.ref 37, .ref 40, .ref 43, .ref 46, .ref 49, .ref 52, .ref 55, .ref 58, .ref 61, .ref 64]), (9, [.ref 67, .ref 122, .ref 177]), (1, [.ref 5, .int 0]), (7, List.replicate 10 (.int 0)), (1, [.ref 7, .int 0]), (7, List.replicate 10 (.int 0)), (3, [.ref 9, .ref 11, .ref 12, .ref 15, .ref 16, .ref 17, .ref 18, .ref 19, .ref 20, .int (-1), .ref 21, .ref 22, .int 0, .ref 23, .ref 26, .ref 29]), (1, [.ref 10, .int 0]), (7, List.replicate 10 (.int 0)), (7, List.replicate 10 (.int (-1))), (11, [.ref 13, .ref 14]), (7, List.replicate 10 (.int 0)), (7, List.replicate 10 (.int 0)), (7, List.replicate 19 (.int 3)), (7, List.replicate 19 (.int 0)), (7, List.replicate 19 (.int 0)), (7, List.replicate 19 (.int 0)), (7, List.replicate 19 (.int 0)), (7, List.replicate 19 (.int 0)), (7, List.replicate 19 (.int 0)), (7, List.replicate 19 (.int 0)), (11, [.ref 24, .ref 25]), (7, List.replicate 19 (.int 0)), (7, List.replicate 19 (.int 0)), (11, [.ref 27, .ref 28]), (7, List.replicate 19 (.int 0)), (7, List.replicate 19 (.int 0)), (11, [.ref 30, .ref 31]), (7, List.replicate 19 (.int 0)), (7, List.replicate 19 (.int 0)), (8, List.replicate 10 (.int 0)), (7, [.int 0, .int 0]), (7, List.replicate 10 (.int 0)), (1, [.ref 36, .int 0]), (7, List.replicate 10 (.int 0)), (4, [.ref 38, .ref 39, .int 0, .int 0, .int (-1), .int (-1)]), (7, [.int 0, .int 0]), (7, [.int 0, .int 0]), (4, [.ref 41, .ref 42, .int 0, .int 0, .int (-1), .int (-1)]), (7, [.int 0, .int 0]), (7, [.int 0, .int 0]), (4, [.ref 44, .ref 45, .int 0, .int 0, .int (-1), .int (-1)]), (7, [.int 0, .int 0]), (7, [.int 0, .int 0]), (4, [.ref 47, .ref 48, .int 0, .int 0, .int (-1), .int (-1)]), (7, [.int 0, .int 0]), (7, [.int 0, .int 0]), (4, [.ref 50, .ref 51, .int 0, .int 0, .int (-1), .int (-1)]), (7, [.int 0, .int 0]), (7, [.int 0, .int 0]), (4, [.ref 53, .ref 54, .int 0, .int 0, .int (-1), .int (-1)]), (7, [.int 0, .int 0]), (7, [.int 0, .int 0]), (4, [.ref 56, .ref 57, .int 0, .int 0, .int (-1), .int (-1)]), (7, [.int 0, .int 0]), (7, [.int 0, .int 0]), (4, [.ref 59, .ref 60, .int 0, .int 0, .int (-1), .int (-1)]), (7, [.int 0, .int 0]), (7, [.int 0, .int 0]), (4, [.ref 62, .ref 63, .int 0, .int 0, .int (-1), .int (-1)]), (7, [.int 0, .int 0]), (7, [.int 0, .int 0]), (4, [.ref 65, .ref 66, .int 0, .int 0, .int (-1), .int (-1)]), (7, [.int 0, .int 0]), (7, [.int 0, .int 0]), (2, [.ref 68, .ref 69, .ref 93, .int 0]), (7, [.int 0, .int 0]), (3, [.ref 70, .ref 72, .ref 73, .ref 76, .ref 77, .ref 78, .ref 79, .ref 80, .ref 81, .int (-1), .ref 82, .ref 83, .int 0, .ref 84, .ref 87, .ref 90]), (1, [.ref 71, .int 0]), (7, List.replicate 10 (.int 0)), (7, List.replicate 10 (.int (-1))), (11, [.ref 74, .ref 75]), (7, List.replicate 10 (.int 0)), (7, List.replicate 10 (.int 0)), (7, List.replicate 19 (.int 3)), (7, List.replicate 19 (.int 0)), (7, List.replicate 19 (.int 0)), (7, List.replicate 19 (.int 0)), (7, List.replicate 19 (.int 0)), (7, List.replicate 19 (.int 0)), (7, List.replicate 19 (.int 0)), (7, List.replicate 19 (.int 0)), (11, [.ref 85, .ref 86]), (7, List.replicate 19 (.int 0)), (7, List.replicate 19 (.int 0)), (11, [.ref 88, .ref 89]), (7, List.replicate 19 (.int 0)), (7, List.replicate 19 (.int 0)), (11, [.ref 91, .ref 92]), (7, List.replicate 19 (.int 0)), (7, List.replicate 19 (.int 0)), (0, [.ref 94, .ref 118, .ref 121, .int 0]), (3, [.ref 95, .ref 97, .ref 98, .ref 101, .ref 102, .ref 103, .ref 104, .ref 105, .ref 106, .int (-1), .ref 107, .ref 108, .int 0, .ref 109, .ref 112, .ref 115]), (1, [.ref 96, .int 0]), (7, List.replicate 10 (.int 0)), (7, List.replicate 10 (.int (-1))), (11, [.ref 99, .ref 100]), (7, List.replicate 10 (.int 0)), (7, List.replicate 10 (.int 0)), (7, List.replicate 19 (.int 3)), (7, List.replicate 19 (.int 0)), (7, List.replicate 19 (.int 0)), (7, List.replicate 19 (.int 0)), (7, List.replicate 19 (.int 0)), (7, List.replicate 19 (.int 0)), (7, List.replicate 19 (.int 0)), (7, List.replicate 19 (.int 0)), (11, [.ref 110, .ref 111]), (7, List.replicate 19 (.int 0)), (7, List.replicate 19 (.int 0)), (11, [.ref 113, .ref 114]), (7, List.replicate 19 (.int 0)), (7, List.replicate 19 (.int 0)), (11, [.ref 116, .ref 117]), (7, List.replicate 19 (.int 0)), (7, List.replicate 19 (.int 0)), (11, [.ref 119, .ref 120]), (7, List.replicate 10 (.int 0)), (7, List.replicate 10 (.int 0)), (8, List.replicate 10 (.int 0)), (2, [.ref 123, .ref 124, .ref 148, .int 0]), (7, [.int 0, .int 0]), (3, [.ref 125, .ref 127, .ref 128, .ref 131, .ref 132, .ref 133, .ref 134, .ref 135, .ref 136, .int (-1), .ref 137, .ref 138, .int 0, .ref 139, .ref 142, .ref 145]), (1, [.ref 126, .int 0]), (7, List.replicate 10 (.int 0)), (7, List.replicate 10 (.int (-1))), (11, [.ref 129, .ref 130]), (7, List.replicate 10 (.int 0)), (7, List.replicate 10 (.int 0)), (7, List.replicate 19 (.int 3)), (7, List.replicate 19 (.int 0)), (7, List.replicate 19 (.int 0)), (7, List.replicate 19 (.int 0)), (7, List.replicate 19 (.int 0)), (7, List.replicate 19 (.int 0)), (7, List.replicate 19 (.int 0)), (7, List.replicate 19 (.int 0)), (11, [.ref 140, .ref 141]), (7, List.replicate 19 (.int 0)), (7, List.replicate 19 (.int 0)), (11, [.ref 143, .ref 144]), (7, List.replicate 19 (.int 0)), (7, List.replicate 19 (.int 0)), (11, [.ref 146, .ref 147]), (7, List.replicate 19 (.int 0)), (7, List.replicate 19 (.int 0)), (0, [.ref 149, .ref 173, .ref 176, .int 0]), (3, [.ref 150, .ref 152, .ref 153, .ref 156, .ref 157, .ref 158, .ref 159, .ref 160, .ref 161, .int (-1), .ref 162, .ref 163, .int 0, .ref 164, .ref 167, .ref 170]), (1, [.ref 151, .int 0]), (7, List.replicate 10 (.int 0)), (7, List.replicate 10 (.int (-1))), (11, [.ref 154, .ref 155]), (7, List.replicate 10 (.int 0)), (7, List.replicate 10 (.int 0)), (7, List.replicate 19 (.int 3)), (7, List.replicate 19 (.int 0)), (7, List.replicate 19 (.int 0)), (7, List.replicate 19 (.int 0)), (7, List.replicate 19 (.int 0)), (7, List.replicate 19 (.int 0)), (7, List.replicate 19 (.int 0)), (7, List.replicate 19 (.int 0)), (11, [.ref 165, .ref 166]), (7, List.replicate 19 (.int 0)), (7, List.replicate 19 (.int 0)), (11, [.ref 168, .ref 169]), (7, List.replicate 19 (.int 0)), (7, List.replicate 19 (.int 0)), (11, [.ref 171, .ref 172]), (7, List.replicate 19 (.int 0)), (7, List.replicate 19 (.int 0)), (11, [.ref 174, .ref 175]), (7, List.replicate 10 (.int 0)), (7, List.replicate 10 (.int 0)), (8, List.replicate 10 (.int 0)), (2, [.ref 178, .ref 179, .ref 203, .int 0]), (7, [.int 0, .int 0]), (3, [.ref 180, .ref 182, .ref 183, .ref 186, .ref 187, .ref 188, .ref 189, .ref 190, .ref 191, .int (-1), .ref 192, .ref 193, .int 0, .ref 194, .ref 197, .ref 200]), (1, [.ref 181, .int 0]), (7, List.replicate 10 (.int 0)), (7, List.replicate 10 (.int (-1))), (11, [.ref 184, .ref 185]), (7, List.replicate 10 (.int 0)), (7, List.replicate 10 (.int 0)), (7, List.replicate 19 (.int 3)), (7, List.replicate 19 (.int 0)), (7, List.replicate 19 (.int 0)), (7, List.replicate 19 (.int 0)), (7, List.replicate 19 (.int 0)), (7, List.replicate 19 (.int 0)), (7, List.replicate 19 (.int 0)), (7, List.replicate 19 (.int 0)), (11, [.ref 195, .ref 196]), (7, List.replicate 19 (.int 0)), (7, List.replicate 19 (.int 0)), (11, [.ref 198, .ref 199]), (7, List.replicate 19 (.int 0)), (7, List.replicate 19 (.int 0)), (11, [.ref 201, .ref 202]), (7, List.replicate 19 (.int 0)), (7, List.replicate 19 (.int 0)), (0, [.ref 204, .ref 228, .ref 231, .int 0]), (3, [.ref 205, .ref 207, .ref 208, .ref 211, .ref 212, .ref 213, .ref 214, .ref 215, .ref 216, .int (-1), .ref 217, .ref 218, .int 0, .ref 219, .ref 222, .ref 225]), (1, [.ref 206, .int 0]), (7, List.replicate 10 (.int 0)), (7, List.replicate 10 (.int (-1))), (11, [.ref 209, .ref 210]), (7, List.replicate 10 (.int 0)), (7, List.replicate 10 (.int 0)), (7, List.replicate 19 (.int 3)), (7, List.replicate 19 (.int 0)), (7, List.replicate 19 (.int 0)), (7, List.replicate 19 (.int 0)), (7, List.replicate 19 (.int 0)), (7, List.replicate 19 (.int 0)), (7, List.replicate 19 (.int 0)), (7, List.replicate 19 (.int 0)), (11, [.ref 220, .ref 221]), (7, List.replicate 19 (.int 0)), (7, List.replicate 19 (.int 0)), (11, [.ref 223, .ref 224]), (7, List.replicate 19 (.int 0)), (7, List.replicate 19 (.int 0)), (11, [.ref 226, .ref 227]), (7, List.replicate 19 (.int 0)), (7, List.replicate 19 (.int 0)), (11, [.ref 229, .ref 230]), (7, List.replicate 10 (.int 0)), (7, List.replicate 10 (.int 0)), (8, List.replicate 10 (.int 0))]
noncomputable def zh_m : zi_Hp := [(6, [.ref 233, .ref 234, .ref 235, .ref 236, .ref 237, .ref 238, .ref 239, .ref 240, .ref 241, .ref 242, .int 0, .ref 243, .int 0, .ref 244, .ref 245, .ref 246, .ref 247, .ref 248, .ref 249, .ref 250, .ref 251, .ref 252, .ref 253, .ref 254, .ref 255, .ref 256, .ref 257, .ref 258, .ref 259, .ref 260, .int 0, .ref 261, .ref 262]), (7, [.int 0, .int 0, .int 0]), (7, [.int 0, .int 0, .int 0]), (7, List.replicate 10 (.int 0)), (7, List.replicate 10 (.int 0)), (7, List.replicate 10 (.int 0)), (7, List.replicate 10 (.int 0)), (7, List.replicate 10 (.int 0)), (7, List.replicate 10 (.int 0)), (7, List.replicate 10 (.int 0)), (7, List.replicate 10 (.int 0)), (7, List.replicate 10 (.int 0)), (7, List.replicate 7 (.int (-1))), (7, List.replicate 168 (.int 0)), (7, List.replicate 168 (.int 0)), (7, List.replicate 168 (.int 0)), (7, List.replicate 168 (.int 0)), (7, List.replicate 1680 (.int 0)), (7, List.replicate 168 (.int 0)), (7, List.replicate 168 (.int 0)), (8, [.int 0, .int 0, .int 0]), (8, List.replicate 30 (.int 0)), (7, List.replicate 30 (.int 0)), (7, List.replicate 30 (.int 0)), (7, List.replicate 24 (.int 0)), (7, List.replicate 24 (.int 0)), (7, List.replicate 24 (.int 0)), (7, List.replicate 24 (.int 0)), (7, List.replicate 24 (.int 0)), (8, List.replicate 10 (.int 0)), (7, List.replicate 10 (.int 0))]
noncomputable def zh_2 : zi_Hp := zh_1 ++ zh_m
noncomputable abbrev zm_M : Type := Nat → Nat → Int32
noncomputable def zm_v (μ : zm_M) (i j : Nat) (v : Value) : Value := match v with
  | .int _ => .int (μ i j)
  | v => v
noncomputable def zm_mk (μ : zm_M) : zi_Hp := zh_2.mapIdx (fun i c => (c.1, c.2.mapIdx (zm_v μ i)))
noncomputable def zm_up (μ : zm_M) (i j : Nat) (x : Int32) : zm_M := fun a b => if a = i ∧ b = j then x else μ a b
theorem zm_up_eq {μ : zm_M} {i j : Nat} {x : Int32} : zm_up μ i j x i j = x := if_pos ⟨rfl, rfl⟩
theorem zm_up_ne {μ : zm_M} {i j a b : Nat} {x : Int32} (h : ¬ (a = i ∧ b = j)) : zm_up μ i j x a b = μ a b := if_neg h
theorem zm_get {μ : zm_M} {i t : Nat} {l : List Value} (h : zh_2[i]? = some (t, l)) : (zm_mk μ)[i]? = some (t, l.mapIdx (zm_v μ i)) := by
  unfold zm_mk
  rw [List.getElem?_mapIdx, h]
  rfl
theorem zm_put {μ : zm_M} {i t j : Nat} {l : List Value} {x y : Int32} (h : zh_2[i]? = some (t, l)) (hj : l[j]? = some (.int y)) : (zm_mk μ).set i (t, (l.mapIdx (zm_v μ i)).set j (.int x)) = zm_mk (zm_up μ i j x) := by
  apply List.ext_getElem?
  intro a
  have hi : i < zh_2.length := (List.getElem?_eq_some_iff.mp h).1
  rw [List.getElem?_set]
  by_cases e : i = a
  · subst e
    rw [if_pos rfl, if_pos (by unfold zm_mk; rw [List.length_mapIdx]; exact hi), zm_get h]
    congr 2
    apply List.ext_getElem?
    intro b
    rw [List.getElem?_set, List.getElem?_mapIdx]
    by_cases e2 : j = b
    · subst e2
      rw [if_pos rfl, if_pos (by rw [List.length_mapIdx]; exact (List.getElem?_eq_some_iff.mp hj).1), List.getElem?_mapIdx, hj]
      simp [zm_v, zm_up]
    · rw [if_neg e2, List.getElem?_mapIdx]
      cases l[b]? with
      | none => rfl
      | some v =>
        simp only [Option.map_some]
        congr 1
        unfold zm_v
        cases v <;> first | rfl | (rw [zm_up_ne (by omega)])
  · rw [if_neg e]
    unfold zm_mk
    rw [List.getElem?_mapIdx, List.getElem?_mapIdx]
    cases zh_2[a]? with
    | none => rfl
    | some c =>
      simp only [Option.map_some]
      congr 2
      apply List.ext_getElem?
      intro b
      rw [List.getElem?_mapIdx, List.getElem?_mapIdx]
      cases c.2[b]? with
      | none => rfl
      | some v =>
        simp only [Option.map_some]
        congr 1
        unfold zm_v
        cases v <;> first | rfl | (rw [zm_up_ne (by omega)])
/-- an array of n ints (t: 7) or of truth values (t: 8) at cell i -/
noncomputable def zm_isA (t i n : Nat) : Prop := ∃ l, zh_2[i]? = some (t, l) ∧ l.length = n ∧ ∀ j, j < n → ∃ y, l[j]? = some (.int y)
noncomputable def zm_isAb (t i n : Nat) : Bool := match zh_2[i]? with
  | some (t', l) => decide (t' = t) && decide (l.length = n) && l.all (fun v => match v with | .int _ => true | _ => false)
  | none => false
theorem zm_isA_of {t i n : Nat} (h : zm_isAb t i n = true) : zm_isA t i n := by
  unfold zm_isAb at h
  split at h
  · rename_i t' l e
    simp only [Bool.and_eq_true, decide_eq_true_eq] at h
    obtain ⟨⟨rfl, rfl⟩, h3⟩ := h
    refine ⟨l, e, rfl, fun j hj => ?_⟩
    have := List.all_eq_true.mp h3 l[j] (List.getElem_mem hj)
    split at this
    · rename_i y e9
      exact ⟨y, by rw [List.getElem?_eq_getElem hj, e9]⟩
    · cases this
  · cases h
section ZMM
variable {μ : zm_M}
theorem zm_iald {i n k : Nat} {d : zi_Dm} {scr : Option (List Value)} {j : Int32} (h : zm_isA 7 i n) (hj : zi_in j n = true) : zi_iald scr d (zm_mk μ) j (i + 1) = some (.int (μ i j.toNatClampNeg)) := by
  obtain ⟨l, h1, rfl, h3⟩ := h
  have hlt := (zi_in_lt hj).2
  obtain ⟨y, hy⟩ := h3 _ hlt
  unfold zi_iald
  simp only [zm_get h1, List.length_mapIdx, hj, if_true, List.getElem?_mapIdx, hy, Option.map_some, zm_v]
theorem zm_bald {i n : Nat} {j : Int32} (h : zm_isA 8 i n) (hj : zi_in j n = true) : zi_bald (zm_mk μ) j i = some (.int (μ i j.toNatClampNeg)) := by
  obtain ⟨l, h1, rfl, h3⟩ := h
  have hlt := (zi_in_lt hj).2
  obtain ⟨y, hy⟩ := h3 _ hlt
  unfold zi_bald
  simp only [zm_get h1, List.length_mapIdx, hj, if_true, List.getElem?_mapIdx, hy, Option.map_some, zm_v]
theorem zm_iast {i n : Nat} {j x : Int32} (h : zm_isA 7 i n) (hj : zi_in j n = true) : zi_iast (zm_mk μ) j i (.int x) = some (zm_mk (zm_up μ i j.toNatClampNeg x)) := by
  obtain ⟨l, h1, rfl, h3⟩ := h
  have hlt := (zi_in_lt hj).2
  obtain ⟨y, hy⟩ := h3 _ hlt
  unfold zi_iast
  simp only [zm_get h1, List.length_mapIdx, hj, zi_isI, Bool.and_self, if_true]
  rw [zm_put h1 hy]
theorem zm_bast {i n : Nat} {j x : Int32} (h : zm_isA 8 i n) (hj : zi_in j n = true) (hx : x = 0 ∨ x = 1) : zi_bast (zm_mk μ) j i x = some (zm_mk (zm_up μ i j.toNatClampNeg x)) := by
  obtain ⟨l, h1, rfl, h3⟩ := h
  have hlt := (zi_in_lt hj).2
  obtain ⟨y, hy⟩ := h3 _ hlt
  have hx2 : (decide (x = 0) || decide (x = 1)) = true := by simpa using hx
  unfold zi_bast
  simp only [zm_get h1, List.length_mapIdx, hj, hx2, Bool.and_self, if_true]
  rw [zm_put h1 hy]
/-- a field of an object: an int, or where it leads -/
theorem zm_gfi {i a b : Nat} {l : List Value} {y : Int32} (h : zh_2[i]? = some (a, l)) (ha : a < 7) (hb : l[b]? = some (.int y)) : zi_gf (zm_mk μ) a b i = some (.int (μ i b)) := by
  unfold zi_gf
  simp only [zm_get h, ha, and_self, if_true, List.getElem?_mapIdx, hb, Option.map_some, zm_v]
theorem zm_gfr {i a b q : Nat} {l : List Value} (h : zh_2[i]? = some (a, l)) (ha : a < 7) (hb : l[b]? = some (.ref q)) : zi_gf (zm_mk μ) a b i = some (.ref q) := by
  unfold zi_gf
  simp only [zm_get h, ha, and_self, if_true, List.getElem?_mapIdx, hb, Option.map_some, zm_v]
theorem zm_pfi {i a b : Nat} {l : List Value} {x y : Int32} (h : zh_2[i]? = some (a, l)) (ha : a < 7) (hb : l[b]? = some (.int y)) (hf : zi_fit (zi_ty a b) (.int x) = true) : zi_pf (zm_mk μ) a b i (.int x) = some (zm_mk (zm_up μ i b x)) := by
  have hlt := (List.getElem?_eq_some_iff.mp hb).1
  unfold zi_pf
  simp only [zm_get h, ha, hf, List.length_mapIdx, hlt, and_self, if_true]
  rw [zm_put h hb]
theorem zm_aald {i t q : Nat} {j : Int32} {l : List Value} (h : zh_2[i]? = some (t, l)) (ht : 9 ≤ t ∧ t ≤ 11) (hj : zi_in j l.length = true) (hq : l[j.toNatClampNeg]? = some (.ref (q + 1))) : zi_aald (zm_mk μ) j i = some (.ref (q + 1)) := by
  unfold zi_aald
  simp only [zm_get h, ht, List.length_mapIdx, hj, and_self, decide_true, Bool.and_self, if_true, List.getElem?_mapIdx, hq, Option.map_some, zm_v]
end ZMM
theorem zm_in {k n : Nat} (h : k < n) (hn : n < 2 ^ 31) : zi_in (nI k) n = true := by
  unfold zi_in
  exact decide_eq_true (vp_in_nI h hn)
end
section
/-! the methods by their numbers -/
noncomputable abbrev A_Desk_init : Nat := 0
noncomputable abbrev A_Row_init : Nat := 1
noncomputable abbrev A_Tree_init : Nat := 2
noncomputable abbrev A_Win_init : Nat := 3
noncomputable abbrev A_Scr_init : Nat := 4
noncomputable abbrev A_Kept_init : Nat := 5
noncomputable abbrev A_Mod_init : Nat := 6
noncomputable abbrev A_Row_clear : Nat := 7
noncomputable abbrev A_Tree_clear : Nat := 8
noncomputable abbrev A_Arr_fill : Nat := 9
noncomputable abbrev A_Desk_screen : Nat := 10
noncomputable abbrev A_Desk_gone : Nat := 11
noncomputable abbrev A_Desk_open : Nat := 12
noncomputable abbrev A_Desk_close : Nat := 13
noncomputable abbrev A_Desk_focus : Nat := 14
noncomputable abbrev A_Desk_back : Nat := 15
noncomputable abbrev A_Desk_toward : Nat := 16
noncomputable abbrev A_Desk_steps : Nat := 17
noncomputable abbrev A_Desk_drag : Nat := 18
noncomputable abbrev A_Desk_move : Nat := 19
noncomputable abbrev A_Desk_share : Nat := 20
noncomputable abbrev A_Desk_area : Nat := 21
noncomputable abbrev A_Desk_about : Nat := 22
noncomputable abbrev A_Desk_isOf : Nat := 23
noncomputable abbrev A_Desk_at : Nat := 24
noncomputable abbrev A_Desk_neighbour : Nat := 25
noncomputable abbrev A_Desk_told : Nat := 26
noncomputable abbrev A_Desk_tab : Nat := 27
noncomputable abbrev A_Desk_count : Nat := 28
noncomputable abbrev A_Desk_isScreen : Nat := 29
noncomputable abbrev A_Desk_isScreenSize : Nat := 30
noncomputable abbrev A_Desk_isWindowSize : Nat := 31
noncomputable abbrev A_Desk_isSide : Nat := 32
noncomputable abbrev A_Desk_isAxis : Nat := 33
noncomputable abbrev A_Desk_isPlace : Nat := 34
noncomputable abbrev A_Desk_isWindow : Nat := 35
noncomputable abbrev A_Desk_isShownTile : Nat := 36
noncomputable abbrev A_Desk_leastScreenBut : Nat := 37
noncomputable abbrev A_Desk_screenAtHand : Nat := 38
noncomputable abbrev A_Desk_screensThere : Nat := 39
noncomputable abbrev A_Desk_screensWithKept : Nat := 40
noncomputable abbrev A_Desk_windowsUnder : Nat := 41
noncomputable abbrev A_Desk_leastFreeNumber : Nat := 42
noncomputable abbrev A_Desk_bringBack : Nat := 43
noncomputable abbrev A_Row_size : Nat := 44
noncomputable abbrev A_Row_get : Nat := 45
noncomputable abbrev A_Scr_setSize : Nat := 46
noncomputable abbrev A_Kept_forget : Nat := 47
noncomputable abbrev A_Win_fallsUnder : Nat := 48
noncomputable abbrev A_Mod_screen : Nat := 49
noncomputable abbrev A_Mod_gone : Nat := 50
noncomputable abbrev A_Mod_open : Nat := 51
noncomputable abbrev A_Mod_close : Nat := 52
noncomputable abbrev A_Mod_focus : Nat := 53
noncomputable abbrev A_Mod_back : Nat := 54
noncomputable abbrev A_Mod_toward : Nat := 55
noncomputable abbrev A_Mod_steps : Nat := 56
noncomputable abbrev A_Mod_drag : Nat := 57
noncomputable abbrev A_Mod_move : Nat := 58
noncomputable abbrev A_Mod_share : Nat := 59
noncomputable abbrev A_Mod_area : Nat := 60
noncomputable abbrev A_Mod_about : Nat := 61
noncomputable abbrev A_Mod_isOf : Nat := 62
noncomputable abbrev A_Mod_at : Nat := 63
noncomputable abbrev A_Mod_neighbour : Nat := 64
noncomputable abbrev A_Mod_told : Nat := 65
noncomputable abbrev A_Mod_tab : Nat := 66
noncomputable abbrev A_Mod_count : Nat := 67
noncomputable abbrev A_Mod_isIn : Nat := 68
noncomputable abbrev A_Mod_isWindow : Nat := 69
noncomputable abbrev A_Mod_spot : Nat := 70
noncomputable abbrev A_Mod_clearTree : Nat := 71
noncomputable abbrev A_Mod_screenAtHand : Nat := 72
noncomputable abbrev A_Mod_freeNumber : Nat := 73
noncomputable abbrev A_Kept_has : Nat := 74
noncomputable abbrev A_Kept_keepPlace : Nat := 75
noncomputable abbrev A_Row_placeOf : Nat := 76
noncomputable abbrev A_Row_append : Nat := 77
noncomputable abbrev A_Row_takeOut : Nat := 78
noncomputable abbrev A_Row_putLast : Nat := 79
noncomputable abbrev A_Row_putFirst : Nat := 80
noncomputable abbrev A_Row_copyFrom : Nat := 81
noncomputable abbrev A_Tree_copyFrom : Nat := 82
noncomputable abbrev A_Tree_leafOf : Nat := 83
noncomputable abbrev A_Tree_isShown : Nat := 84
noncomputable abbrev A_Tree_leaves : Nat := 85
noncomputable abbrev A_Tree_cuts : Nat := 86
noncomputable abbrev A_Tree_leafNumber : Nat := 87
noncomputable abbrev A_Tree_shownIn : Nat := 88
noncomputable abbrev A_Tree_tabsIn : Nat := 89
noncomputable abbrev A_Tree_tabIn : Nat := 90
noncomputable abbrev A_Tree_leastOf : Nat := 91
noncomputable abbrev A_Tree_fits : Nat := 92
noncomputable abbrev A_Tree_nearestCut : Nat := 93
noncomputable abbrev A_Tree_changeShare : Nat := 94
noncomputable abbrev A_Tree_show : Nat := 95
noncomputable abbrev A_Tree_addTab : Nat := 96
noncomputable abbrev A_Tree_addAllTabs : Nat := 97
noncomputable abbrev A_Tree_cutLeaf : Nat := 98
noncomputable abbrev A_Tree_takeOut : Nat := 99
noncomputable abbrev A_Tree_nextShown : Nat := 100
noncomputable abbrev A_Tree_dropLeaf : Nat := 101
noncomputable abbrev A_Tree_putInPlaceOf : Nat := 102
noncomputable abbrev A_Tree_enter : Nat := 103
noncomputable abbrev A_Tree_newNode : Nat := 104
noncomputable abbrev A_Tree_settle : Nat := 105
noncomputable abbrev A_Tree_listNodes : Nat := 106
noncomputable abbrev A_Tree_measureLeaves : Nat := 107
noncomputable abbrev A_Tree_measureCuts : Nat := 108
noncomputable abbrev A_Tree_lay : Nat := 109
noncomputable abbrev A_Tree_divide : Nat := 110
noncomputable abbrev A_Tree_firstPart : Nat := 111
noncomputable abbrev A_Tree_isWide : Nat := 112
noncomputable abbrev A_Tree_startOf : Nat := 113
noncomputable abbrev A_Tree_lengthOf : Nat := 114
noncomputable abbrev A_Tree_endOf : Nat := 115
noncomputable abbrev A_Tree_shownAt : Nat := 116
noncomputable abbrev A_Tree_spans : Nat := 117
noncomputable abbrev A_Tree_neighbourTo : Nat := 118
noncomputable abbrev A_Tree_meets : Nat := 119
noncomputable abbrev A_Tree_commonBorder : Nat := 120
noncomputable abbrev A_Win_prepare : Nat := 121
noncomputable abbrev A_Win_isTiled : Nat := 122
noncomputable abbrev A_Win_isFloating : Nat := 123
noncomputable abbrev A_Win_isSticky : Nat := 124
noncomputable abbrev A_Win_isOn : Nat := 125
noncomputable abbrev A_Win_isLooseOn : Nat := 126
noncomputable abbrev A_Win_canBeWhole : Nat := 127
noncomputable abbrev A_Win_nearest : Nat := 128
noncomputable abbrev A_Win_putAt : Nat := 129
noncomputable abbrev A_Win_sendTo : Nat := 130
noncomputable abbrev A_Win_coversPoint : Nat := 131
noncomputable abbrev A_Win_spans : Nat := 132
noncomputable abbrev A_Desk_between : Nat := 133
noncomputable abbrev A_Desk_looseOnes : Nat := 134
noncomputable abbrev A_Desk_windowsOn : Nat := 135
noncomputable abbrev A_Desk_looseOnesFit : Nat := 136
noncomputable abbrev A_Desk_sendAll : Nat := 137
noncomputable abbrev A_Desk_treeOf : Nat := 138
noncomputable abbrev A_Desk_layTrees : Nat := 139
noncomputable abbrev A_Desk_startOf : Nat := 140
noncomputable abbrev A_Desk_lengthOf : Nat := 141
noncomputable abbrev A_Desk_findRoom : Nat := 142
noncomputable abbrev A_Desk_middleOf : Nat := 143
noncomputable abbrev A_Desk_tile : Nat := 144
noncomputable abbrev A_Desk_leafAtHand : Nat := 145
noncomputable abbrev A_Desk_tryCut : Nat := 146
noncomputable abbrev A_Desk_tryTab : Nat := 147
noncomputable abbrev A_Desk_end : Nat := 148
noncomputable abbrev A_Desk_giveFocus : Nat := 149
noncomputable abbrev A_Desk_raise : Nat := 150
noncomputable abbrev A_Desk_dialogsOf : Nat := 151
noncomputable abbrev A_Desk_lowestDialogOf : Nat := 152
noncomputable abbrev A_Desk_reachFrom : Nat := 153
noncomputable abbrev A_Desk_tryDrag : Nat := 154
noncomputable abbrev A_Desk_axisOf : Nat := 155
noncomputable abbrev A_Desk_isAfter : Nat := 156
noncomputable abbrev A_Desk_gatherWithDialogs : Nat := 157
noncomputable abbrev A_Desk_gatherDialogs : Nat := 158
noncomputable abbrev A_Desk_groupCanBeWhole : Nat := 159
noncomputable abbrev A_Desk_sendGroup : Nat := 160
noncomputable abbrev A_Desk_keepAll : Nat := 161
noncomputable abbrev A_Desk_forgetKeptWith : Nat := 162
noncomputable abbrev A_Desk_takeBack : Nat := 163
noncomputable abbrev A_Desk_forgetKeptWithGroup : Nat := 164
noncomputable abbrev A_Mod_half : Nat := 165
noncomputable abbrev A_Mod_nearest : Nat := 166
noncomputable abbrev A_Mod_isFloating : Nat := 167
noncomputable abbrev A_Mod_copyTree : Nat := 168
noncomputable abbrev A_Mod_newNode : Nat := 169
noncomputable abbrev A_Mod_newLeaf : Nat := 170
noncomputable abbrev A_Mod_addTab : Nat := 171
noncomputable abbrev A_Mod_placeOfTab : Nat := 172
noncomputable abbrev A_Mod_leafOf : Nat := 173
noncomputable abbrev A_Mod_above : Nat := 174
noncomputable abbrev A_Mod_stand : Nat := 175
noncomputable abbrev A_Mod_leave : Nat := 176
noncomputable abbrev A_Mod_cutLeaf : Nat := 177
noncomputable abbrev A_Mod_least : Nat := 178
noncomputable abbrev A_Mod_fits : Nat := 179
noncomputable abbrev A_Mod_lay : Nat := 180
noncomputable abbrev A_Mod_layAll : Nat := 181
noncomputable abbrev A_Mod_canBeWhole : Nat := 182
noncomputable abbrev A_Mod_putAt : Nat := 183
noncomputable abbrev A_Mod_isOnScreen : Nat := 184
noncomputable abbrev A_Mod_unstack : Nat := 185
noncomputable abbrev A_Mod_raise : Nat := 186
noncomputable abbrev A_Mod_front : Nat := 187
noncomputable abbrev A_Mod_focused : Nat := 188
noncomputable abbrev A_Mod_forget : Nat := 189
noncomputable abbrev A_Mod_spread : Nat := 190
noncomputable abbrev A_Mod_comesBack : Nat := 191
noncomputable abbrev A_Mod_bring : Nat := 192
noncomputable abbrev A_Mod_clearLeaves : Nat := 193
noncomputable abbrev A_Mod_findLeaves : Nat := 194
noncomputable abbrev A_Mod_moveTabs : Nat := 195
noncomputable abbrev A_Mod_tile : Nat := 196
noncomputable abbrev A_Mod_takesTrial : Nat := 197
noncomputable abbrev A_Mod_closed : Nat := 198
noncomputable abbrev A_Mod_isShown : Nat := 199
noncomputable abbrev A_Mod_common : Nat := 200
noncomputable abbrev A_Mod_neighbourOf : Nat := 201
noncomputable abbrev A_Mod_areaOf : Nat := 202
noncomputable abbrev A_Mod_placeIn : Nat := 203
noncomputable abbrev A_Mod_lies : Nat := 204
noncomputable abbrev A_Math_floorDiv : Nat := 205
noncomputable abbrev A_Math_max : Nat := 206
noncomputable abbrev A_Math_min : Nat := 207
set_option maxRecDepth 100000 in
theorem zq_Desk_init : zi_ms[0]? = some (yX5_init, cX5_init, 2, none, zc_X5_init, 400, 8000) := rfl
set_option maxRecDepth 100000 in
theorem zq_Row_init : zi_ms[1]? = some (yX1_init, cX1_init, 1, none, zc_X1_init, 1, 10) := rfl
set_option maxRecDepth 100000 in
theorem zq_Tree_init : zi_ms[2]? = some (yX3_init, cX3_init, 1, none, zc_X3_init, 30, 600) := rfl
set_option maxRecDepth 100000 in
theorem zq_Win_init : zi_ms[3]? = some (yX4_init, cX4_init, 1, none, zc_X4_init, 2, 4) := rfl
set_option maxRecDepth 100000 in
theorem zq_Scr_init : zi_ms[4]? = some (yX2_init, cX2_init, 1, none, zc_X2_init, 80, 1600) := rfl
set_option maxRecDepth 100000 in
theorem zq_Kept_init : zi_ms[5]? = some (yX0_init, cX0_init, 1, none, zc_X0_init, 40, 800) := rfl
set_option maxRecDepth 100000 in
theorem zq_Mod_init : zi_ms[6]? = some (yX6_init, cX6_init, 2, none, zc_X6_init, 40, 4000) := rfl
set_option maxRecDepth 100000 in
theorem zq_Row_clear : zi_ms[7]? = some (yX1_clear, cX1_clear, 1, none, zc_X1_clear, 0, 0) := rfl
set_option maxRecDepth 100000 in
theorem zq_Tree_clear : zi_ms[8]? = some (yX3_clear, cX3_clear, 1, none, zc_X3_clear, 0, 0) := rfl
set_option maxRecDepth 100000 in
theorem zq_Arr_fill : zi_ms[9]? = some (yJ7_fill_53178, cJ7_fill_53178, 4, none, zc_J7_fill_53178, 0, 0) := rfl
set_option maxRecDepth 100000 in
theorem zq_Desk_screen : zi_ms[10]? = some (yX5_screen, cX5_screen, 6, (some FieldType.int), zc_X5_screen, 0, 0) := rfl
set_option maxRecDepth 100000 in
theorem zq_Desk_gone : zi_ms[11]? = some (yX5_gone, cX5_gone, 5, (some FieldType.int), zc_X5_gone, 0, 0) := rfl
set_option maxRecDepth 100000 in
theorem zq_Desk_open : zi_ms[12]? = some (yX5_open, cX5_open, 8, (some FieldType.int), zc_X5_open, 0, 0) := rfl
set_option maxRecDepth 100000 in
theorem zq_Desk_close : zi_ms[13]? = some (yX5_close, cX5_close, 4, (some FieldType.int), zc_X5_close, 0, 0) := rfl
set_option maxRecDepth 100000 in
theorem zq_Desk_focus : zi_ms[14]? = some (yX5_focus, cX5_focus, 3, (some FieldType.int), zc_X5_focus, 0, 0) := rfl
set_option maxRecDepth 100000 in
theorem zq_Desk_back : zi_ms[15]? = some (yX5_back, cX5_back, 2, (some FieldType.int), zc_X5_back, 0, 0) := rfl
set_option maxRecDepth 100000 in
theorem zq_Desk_toward : zi_ms[16]? = some (yX5_toward, cX5_toward, 4, (some FieldType.int), zc_X5_toward, 0, 0) := rfl
set_option maxRecDepth 100000 in
theorem zq_Desk_steps : zi_ms[17]? = some (yX5_steps, cX5_steps, 4, (some FieldType.int), zc_X5_steps, 0, 0) := rfl
set_option maxRecDepth 100000 in
theorem zq_Desk_drag : zi_ms[18]? = some (yX5_drag, cX5_drag, 6, (some FieldType.int), zc_X5_drag, 0, 0) := rfl
set_option maxRecDepth 100000 in
theorem zq_Desk_move : zi_ms[19]? = some (yX5_move, cX5_move, 5, (some FieldType.int), zc_X5_move, 0, 0) := rfl
set_option maxRecDepth 100000 in
theorem zq_Desk_share : zi_ms[20]? = some (yX5_share, cX5_share, 6, (some FieldType.int), zc_X5_share, 0, 0) := rfl
set_option maxRecDepth 100000 in
theorem zq_Desk_area : zi_ms[21]? = some (yX5_area, cX5_area, 3, (some FieldType.int), zc_X5_area, 0, 0) := rfl
set_option maxRecDepth 100000 in
theorem zq_Desk_about : zi_ms[22]? = some (yX5_about, cX5_about, 4, (some FieldType.int), zc_X5_about, 0, 0) := rfl
set_option maxRecDepth 100000 in
theorem zq_Desk_isOf : zi_ms[23]? = some (yX5_isOf, cX5_isOf, 3, (some FieldType.int), zc_X5_isOf, 0, 0) := rfl
set_option maxRecDepth 100000 in
theorem zq_Desk_at : zi_ms[24]? = some (yX5_at, cX5_at, 6, (some FieldType.int), zc_X5_at, 0, 0) := rfl
set_option maxRecDepth 100000 in
theorem zq_Desk_neighbour : zi_ms[25]? = some (yX5_neighbour, cX5_neighbour, 3, (some FieldType.int), zc_X5_neighbour, 0, 0) := rfl
set_option maxRecDepth 100000 in
theorem zq_Desk_told : zi_ms[26]? = some (yX5_told, cX5_told, 4, (some FieldType.int), zc_X5_told, 0, 0) := rfl
set_option maxRecDepth 100000 in
theorem zq_Desk_tab : zi_ms[27]? = some (yX5_tab, cX5_tab, 6, (some FieldType.int), zc_X5_tab, 0, 0) := rfl
set_option maxRecDepth 100000 in
theorem zq_Desk_count : zi_ms[28]? = some (yX5_count, cX5_count, 2, (some FieldType.int), zc_X5_count, 0, 0) := rfl
set_option maxRecDepth 100000 in
theorem zq_Desk_isScreen : zi_ms[29]? = some (yX5_isScreen, cX5_isScreen, 1, (some FieldType.boolean), zc_X5_isScreen, 0, 0) := rfl
set_option maxRecDepth 100000 in
theorem zq_Desk_isScreenSize : zi_ms[30]? = some (yX5_isScreenSize, cX5_isScreenSize, 1, (some FieldType.boolean), zc_X5_isScreenSize, 0, 0) := rfl
set_option maxRecDepth 100000 in
theorem zq_Desk_isWindowSize : zi_ms[31]? = some (yX5_isWindowSize, cX5_isWindowSize, 1, (some FieldType.boolean), zc_X5_isWindowSize, 0, 0) := rfl
set_option maxRecDepth 100000 in
theorem zq_Desk_isSide : zi_ms[32]? = some (yX5_isSide, cX5_isSide, 1, (some FieldType.boolean), zc_X5_isSide, 0, 0) := rfl
set_option maxRecDepth 100000 in
theorem zq_Desk_isAxis : zi_ms[33]? = some (yX5_isAxis, cX5_isAxis, 1, (some FieldType.boolean), zc_X5_isAxis, 0, 0) := rfl
set_option maxRecDepth 100000 in
theorem zq_Desk_isPlace : zi_ms[34]? = some (yX5_isPlace, cX5_isPlace, 1, (some FieldType.boolean), zc_X5_isPlace, 0, 0) := rfl
set_option maxRecDepth 100000 in
theorem zq_Desk_isWindow : zi_ms[35]? = some (yX5_isWindow, cX5_isWindow, 2, (some FieldType.boolean), zc_X5_isWindow, 0, 0) := rfl
set_option maxRecDepth 100000 in
theorem zq_Desk_isShownTile : zi_ms[36]? = some (yX5_isShownTile, cX5_isShownTile, 2, (some FieldType.boolean), zc_X5_isShownTile, 0, 0) := rfl
set_option maxRecDepth 100000 in
theorem zq_Desk_leastScreenBut : zi_ms[37]? = some (yX5_leastScreenBut, cX5_leastScreenBut, 3, (some FieldType.int), zc_X5_leastScreenBut, 0, 0) := rfl
set_option maxRecDepth 100000 in
theorem zq_Desk_screenAtHand : zi_ms[38]? = some (yX5_screenAtHand, cX5_screenAtHand, 3, (some FieldType.int), zc_X5_screenAtHand, 0, 0) := rfl
set_option maxRecDepth 100000 in
theorem zq_Desk_screensThere : zi_ms[39]? = some (yX5_screensThere, cX5_screensThere, 3, (some FieldType.int), zc_X5_screensThere, 0, 0) := rfl
set_option maxRecDepth 100000 in
theorem zq_Desk_screensWithKept : zi_ms[40]? = some (yX5_screensWithKept, cX5_screensWithKept, 3, (some FieldType.int), zc_X5_screensWithKept, 0, 0) := rfl
set_option maxRecDepth 100000 in
theorem zq_Desk_windowsUnder : zi_ms[41]? = some (yX5_windowsUnder, cX5_windowsUnder, 4, (some FieldType.int), zc_X5_windowsUnder, 0, 0) := rfl
set_option maxRecDepth 100000 in
theorem zq_Desk_leastFreeNumber : zi_ms[42]? = some (yX5_leastFreeNumber, cX5_leastFreeNumber, 2, (some FieldType.int), zc_X5_leastFreeNumber, 0, 0) := rfl
set_option maxRecDepth 100000 in
theorem zq_Desk_bringBack : zi_ms[43]? = some (yX5_bringBack, cX5_bringBack, 5, (some FieldType.int), zc_X5_bringBack, 0, 0) := rfl
set_option maxRecDepth 100000 in
theorem zq_Row_size : zi_ms[44]? = some (yX1_size, cX1_size, 1, (some FieldType.int), zc_X1_size, 0, 0) := rfl
set_option maxRecDepth 100000 in
theorem zq_Row_get : zi_ms[45]? = some (yX1_get, cX1_get, 2, (some FieldType.int), zc_X1_get, 0, 0) := rfl
set_option maxRecDepth 100000 in
theorem zq_Scr_setSize : zi_ms[46]? = some (yX2_setSize, cX2_setSize, 2, none, zc_X2_setSize, 0, 0) := rfl
set_option maxRecDepth 100000 in
theorem zq_Kept_forget : zi_ms[47]? = some (yX0_forget, cX0_forget, 1, none, zc_X0_forget, 0, 0) := rfl
set_option maxRecDepth 100000 in
theorem zq_Win_fallsUnder : zi_ms[48]? = some (yX4_fallsUnder, cX4_fallsUnder, 3, (some FieldType.boolean), zc_X4_fallsUnder, 0, 0) := rfl
set_option maxRecDepth 100000 in
theorem zq_Mod_screen : zi_ms[49]? = some (yX6_screen, cX6_screen, 6, (some FieldType.int), zc_X6_screen, 0, 0) := rfl
set_option maxRecDepth 100000 in
theorem zq_Mod_gone : zi_ms[50]? = some (yX6_gone, cX6_gone, 7, (some FieldType.int), zc_X6_gone, 0, 0) := rfl
set_option maxRecDepth 100000 in
theorem zq_Mod_open : zi_ms[51]? = some (yX6_open, cX6_open, 10, (some FieldType.int), zc_X6_open, 0, 0) := rfl
set_option maxRecDepth 100000 in
theorem zq_Mod_close : zi_ms[52]? = some (yX6_close, cX6_close, 2, (some FieldType.int), zc_X6_close, 0, 0) := rfl
set_option maxRecDepth 100000 in
theorem zq_Mod_focus : zi_ms[53]? = some (yX6_focus, cX6_focus, 3, (some FieldType.int), zc_X6_focus, 0, 0) := rfl
set_option maxRecDepth 100000 in
theorem zq_Mod_back : zi_ms[54]? = some (yX6_back, cX6_back, 2, (some FieldType.int), zc_X6_back, 0, 0) := rfl
set_option maxRecDepth 100000 in
theorem zq_Mod_toward : zi_ms[55]? = some (yX6_toward, cX6_toward, 3, (some FieldType.int), zc_X6_toward, 0, 0) := rfl
set_option maxRecDepth 100000 in
theorem zq_Mod_steps : zi_ms[56]? = some (yX6_steps, cX6_steps, 7, (some FieldType.int), zc_X6_steps, 0, 0) := rfl
set_option maxRecDepth 100000 in
theorem zq_Mod_drag : zi_ms[57]? = some (yX6_drag, cX6_drag, 9, (some FieldType.int), zc_X6_drag, 0, 0) := rfl
set_option maxRecDepth 100000 in
theorem zq_Mod_move : zi_ms[58]? = some (yX6_move, cX6_move, 4, (some FieldType.int), zc_X6_move, 0, 0) := rfl
set_option maxRecDepth 100000 in
theorem zq_Mod_share : zi_ms[59]? = some (yX6_share, cX6_share, 7, (some FieldType.int), zc_X6_share, 0, 0) := rfl
set_option maxRecDepth 100000 in
theorem zq_Mod_area : zi_ms[60]? = some (yX6_area, cX6_area, 3, (some FieldType.int), zc_X6_area, 0, 0) := rfl
set_option maxRecDepth 100000 in
theorem zq_Mod_about : zi_ms[61]? = some (yX6_about, cX6_about, 3, (some FieldType.int), zc_X6_about, 0, 0) := rfl
set_option maxRecDepth 100000 in
theorem zq_Mod_isOf : zi_ms[62]? = some (yX6_isOf, cX6_isOf, 3, (some FieldType.int), zc_X6_isOf, 0, 0) := rfl
set_option maxRecDepth 100000 in
theorem zq_Mod_at : zi_ms[63]? = some (yX6_at, cX6_at, 6, (some FieldType.int), zc_X6_at, 0, 0) := rfl
set_option maxRecDepth 100000 in
theorem zq_Mod_neighbour : zi_ms[64]? = some (yX6_neighbour, cX6_neighbour, 4, (some FieldType.int), zc_X6_neighbour, 0, 0) := rfl
set_option maxRecDepth 100000 in
theorem zq_Mod_told : zi_ms[65]? = some (yX6_told, cX6_told, 5, (some FieldType.int), zc_X6_told, 0, 0) := rfl
set_option maxRecDepth 100000 in
theorem zq_Mod_tab : zi_ms[66]? = some (yX6_tab, cX6_tab, 5, (some FieldType.int), zc_X6_tab, 0, 0) := rfl
set_option maxRecDepth 100000 in
theorem zq_Mod_count : zi_ms[67]? = some (yX6_count, cX6_count, 4, (some FieldType.int), zc_X6_count, 0, 0) := rfl
set_option maxRecDepth 100000 in
theorem zq_Mod_isIn : zi_ms[68]? = some (yX6_isIn, cX6_isIn, 3, (some FieldType.boolean), zc_X6_isIn, 0, 0) := rfl
set_option maxRecDepth 100000 in
theorem zq_Mod_isWindow : zi_ms[69]? = some (yX6_isWindow, cX6_isWindow, 2, (some FieldType.boolean), zc_X6_isWindow, 0, 0) := rfl
set_option maxRecDepth 100000 in
theorem zq_Mod_spot : zi_ms[70]? = some (yX6_spot, cX6_spot, 2, (some FieldType.int), zc_X6_spot, 0, 0) := rfl
set_option maxRecDepth 100000 in
theorem zq_Mod_clearTree : zi_ms[71]? = some (yX6_clearTree, cX6_clearTree, 3, none, zc_X6_clearTree, 0, 0) := rfl
set_option maxRecDepth 100000 in
theorem zq_Mod_screenAtHand : zi_ms[72]? = some (yX6_screenAtHand, cX6_screenAtHand, 2, (some FieldType.int), zc_X6_screenAtHand, 0, 0) := rfl
set_option maxRecDepth 100000 in
theorem zq_Mod_freeNumber : zi_ms[73]? = some (yX6_freeNumber, cX6_freeNumber, 2, (some FieldType.int), zc_X6_freeNumber, 0, 0) := rfl
set_option maxRecDepth 100000 in
theorem zq_Kept_has : zi_ms[74]? = some (yX0_has, cX0_has, 2, (some FieldType.boolean), zc_X0_has, 0, 0) := rfl
set_option maxRecDepth 100000 in
theorem zq_Kept_keepPlace : zi_ms[75]? = some (yX0_keepPlace, cX0_keepPlace, 4, none, zc_X0_keepPlace, 0, 0) := rfl
set_option maxRecDepth 100000 in
theorem zq_Row_placeOf : zi_ms[76]? = some (yX1_placeOf, cX1_placeOf, 3, (some FieldType.int), zc_X1_placeOf, 0, 0) := rfl
set_option maxRecDepth 100000 in
theorem zq_Row_append : zi_ms[77]? = some (yX1_append, cX1_append, 2, none, zc_X1_append, 0, 0) := rfl
set_option maxRecDepth 100000 in
theorem zq_Row_takeOut : zi_ms[78]? = some (yX1_takeOut, cX1_takeOut, 4, none, zc_X1_takeOut, 0, 0) := rfl
set_option maxRecDepth 100000 in
theorem zq_Row_putLast : zi_ms[79]? = some (yX1_putLast, cX1_putLast, 2, none, zc_X1_putLast, 0, 0) := rfl
set_option maxRecDepth 100000 in
theorem zq_Row_putFirst : zi_ms[80]? = some (yX1_putFirst, cX1_putFirst, 3, none, zc_X1_putFirst, 0, 0) := rfl
set_option maxRecDepth 100000 in
theorem zq_Row_copyFrom : zi_ms[81]? = some (yX1_copyFrom, cX1_copyFrom, 2, none, zc_X1_copyFrom, 0, 0) := rfl
set_option maxRecDepth 100000 in
theorem zq_Tree_copyFrom : zi_ms[82]? = some (yX3_copyFrom, cX3_copyFrom, 3, none, zc_X3_copyFrom, 0, 0) := rfl
set_option maxRecDepth 100000 in
theorem zq_Tree_leafOf : zi_ms[83]? = some (yX3_leafOf, cX3_leafOf, 2, (some FieldType.int), zc_X3_leafOf, 0, 0) := rfl
set_option maxRecDepth 100000 in
theorem zq_Tree_isShown : zi_ms[84]? = some (yX3_isShown, cX3_isShown, 3, (some FieldType.boolean), zc_X3_isShown, 0, 0) := rfl
set_option maxRecDepth 100000 in
theorem zq_Tree_leaves : zi_ms[85]? = some (yX3_leaves, cX3_leaves, 1, (some FieldType.int), zc_X3_leaves, 0, 0) := rfl
set_option maxRecDepth 100000 in
theorem zq_Tree_cuts : zi_ms[86]? = some (yX3_cuts, cX3_cuts, 1, (some FieldType.int), zc_X3_cuts, 0, 0) := rfl
set_option maxRecDepth 100000 in
theorem zq_Tree_leafNumber : zi_ms[87]? = some (yX3_leafNumber, cX3_leafNumber, 4, (some FieldType.int), zc_X3_leafNumber, 0, 0) := rfl
set_option maxRecDepth 100000 in
theorem zq_Tree_shownIn : zi_ms[88]? = some (yX3_shownIn, cX3_shownIn, 2, (some FieldType.int), zc_X3_shownIn, 0, 0) := rfl
set_option maxRecDepth 100000 in
theorem zq_Tree_tabsIn : zi_ms[89]? = some (yX3_tabsIn, cX3_tabsIn, 4, (some FieldType.int), zc_X3_tabsIn, 0, 0) := rfl
set_option maxRecDepth 100000 in
theorem zq_Tree_tabIn : zi_ms[90]? = some (yX3_tabIn, cX3_tabIn, 5, (some FieldType.int), zc_X3_tabIn, 0, 0) := rfl
set_option maxRecDepth 100000 in
theorem zq_Tree_leastOf : zi_ms[91]? = some (yX3_leastOf, cX3_leastOf, 2, (some FieldType.int), zc_X3_leastOf, 0, 0) := rfl
set_option maxRecDepth 100000 in
theorem zq_Tree_fits : zi_ms[92]? = some (yX3_fits, cX3_fits, 2, (some FieldType.boolean), zc_X3_fits, 0, 0) := rfl
set_option maxRecDepth 100000 in
theorem zq_Tree_nearestCut : zi_ms[93]? = some (yX3_nearestCut, cX3_nearestCut, 5, (some FieldType.int), zc_X3_nearestCut, 0, 0) := rfl
set_option maxRecDepth 100000 in
theorem zq_Tree_changeShare : zi_ms[94]? = some (yX3_changeShare, cX3_changeShare, 4, (some FieldType.int), zc_X3_changeShare, 0, 0) := rfl
set_option maxRecDepth 100000 in
theorem zq_Tree_show : zi_ms[95]? = some (yX3_show, cX3_show, 3, none, zc_X3_show, 0, 0) := rfl
set_option maxRecDepth 100000 in
theorem zq_Tree_addTab : zi_ms[96]? = some (yX3_addTab, cX3_addTab, 6, none, zc_X3_addTab, 0, 0) := rfl
set_option maxRecDepth 100000 in
theorem zq_Tree_addAllTabs : zi_ms[97]? = some (yX3_addAllTabs, cX3_addAllTabs, 6, none, zc_X3_addAllTabs, 0, 0) := rfl
set_option maxRecDepth 100000 in
theorem zq_Tree_cutLeaf : zi_ms[98]? = some (yX3_cutLeaf, cX3_cutLeaf, 9, none, zc_X3_cutLeaf, 0, 0) := rfl
set_option maxRecDepth 100000 in
theorem zq_Tree_takeOut : zi_ms[99]? = some (yX3_takeOut, cX3_takeOut, 3, none, zc_X3_takeOut, 0, 0) := rfl
set_option maxRecDepth 100000 in
theorem zq_Tree_nextShown : zi_ms[100]? = some (yX3_nextShown, cX3_nextShown, 7, (some FieldType.int), zc_X3_nextShown, 0, 0) := rfl
set_option maxRecDepth 100000 in
theorem zq_Tree_dropLeaf : zi_ms[101]? = some (yX3_dropLeaf, cX3_dropLeaf, 3, none, zc_X3_dropLeaf, 0, 0) := rfl
set_option maxRecDepth 100000 in
theorem zq_Tree_putInPlaceOf : zi_ms[102]? = some (yX3_putInPlaceOf, cX3_putInPlaceOf, 4, none, zc_X3_putInPlaceOf, 0, 0) := rfl
set_option maxRecDepth 100000 in
theorem zq_Tree_enter : zi_ms[103]? = some (yX3_enter, cX3_enter, 5, none, zc_X3_enter, 0, 0) := rfl
set_option maxRecDepth 100000 in
theorem zq_Tree_newNode : zi_ms[104]? = some (yX3_newNode, cX3_newNode, 3, (some FieldType.int), zc_X3_newNode, 0, 0) := rfl
set_option maxRecDepth 100000 in
theorem zq_Tree_settle : zi_ms[105]? = some (yX3_settle, cX3_settle, 2, none, zc_X3_settle, 0, 0) := rfl
set_option maxRecDepth 100000 in
theorem zq_Tree_listNodes : zi_ms[106]? = some (yX3_listNodes, cX3_listNodes, 4, none, zc_X3_listNodes, 0, 0) := rfl
set_option maxRecDepth 100000 in
theorem zq_Tree_measureLeaves : zi_ms[107]? = some (yX3_measureLeaves, cX3_measureLeaves, 5, none, zc_X3_measureLeaves, 0, 0) := rfl
set_option maxRecDepth 100000 in
theorem zq_Tree_measureCuts : zi_ms[108]? = some (yX3_measureCuts, cX3_measureCuts, 6, none, zc_X3_measureCuts, 0, 0) := rfl
set_option maxRecDepth 100000 in
theorem zq_Tree_lay : zi_ms[109]? = some (yX3_lay, cX3_lay, 3, none, zc_X3_lay, 0, 0) := rfl
set_option maxRecDepth 100000 in
theorem zq_Tree_divide : zi_ms[110]? = some (yX3_divide, cX3_divide, 8, none, zc_X3_divide, 0, 0) := rfl
set_option maxRecDepth 100000 in
theorem zq_Tree_firstPart : zi_ms[111]? = some (yX3_firstPart, cX3_firstPart, 5, (some FieldType.int), zc_X3_firstPart, 0, 0) := rfl
set_option maxRecDepth 100000 in
theorem zq_Tree_isWide : zi_ms[112]? = some (yX3_isWide, cX3_isWide, 2, (some FieldType.boolean), zc_X3_isWide, 0, 0) := rfl
set_option maxRecDepth 100000 in
theorem zq_Tree_startOf : zi_ms[113]? = some (yX3_startOf, cX3_startOf, 4, (some FieldType.int), zc_X3_startOf, 0, 0) := rfl
set_option maxRecDepth 100000 in
theorem zq_Tree_lengthOf : zi_ms[114]? = some (yX3_lengthOf, cX3_lengthOf, 4, (some FieldType.int), zc_X3_lengthOf, 0, 0) := rfl
set_option maxRecDepth 100000 in
theorem zq_Tree_endOf : zi_ms[115]? = some (yX3_endOf, cX3_endOf, 3, (some FieldType.int), zc_X3_endOf, 0, 0) := rfl
set_option maxRecDepth 100000 in
theorem zq_Tree_shownAt : zi_ms[116]? = some (yX3_shownAt, cX3_shownAt, 4, (some FieldType.int), zc_X3_shownAt, 0, 0) := rfl
set_option maxRecDepth 100000 in
theorem zq_Tree_spans : zi_ms[117]? = some (yX3_spans, cX3_spans, 4, (some FieldType.boolean), zc_X3_spans, 0, 0) := rfl
set_option maxRecDepth 100000 in
theorem zq_Tree_neighbourTo : zi_ms[118]? = some (yX3_neighbourTo, cX3_neighbourTo, 8, (some FieldType.int), zc_X3_neighbourTo, 0, 0) := rfl
set_option maxRecDepth 100000 in
theorem zq_Tree_meets : zi_ms[119]? = some (yX3_meets, cX3_meets, 5, (some FieldType.boolean), zc_X3_meets, 0, 0) := rfl
set_option maxRecDepth 100000 in
theorem zq_Tree_commonBorder : zi_ms[120]? = some (yX3_commonBorder, cX3_commonBorder, 5, (some FieldType.int), zc_X3_commonBorder, 0, 0) := rfl
set_option maxRecDepth 100000 in
theorem zq_Win_prepare : zi_ms[121]? = some (yX4_prepare, cX4_prepare, 5, none, zc_X4_prepare, 0, 0) := rfl
set_option maxRecDepth 100000 in
theorem zq_Win_isTiled : zi_ms[122]? = some (yX4_isTiled, cX4_isTiled, 1, (some FieldType.boolean), zc_X4_isTiled, 0, 0) := rfl
set_option maxRecDepth 100000 in
theorem zq_Win_isFloating : zi_ms[123]? = some (yX4_isFloating, cX4_isFloating, 1, (some FieldType.boolean), zc_X4_isFloating, 0, 0) := rfl
set_option maxRecDepth 100000 in
theorem zq_Win_isSticky : zi_ms[124]? = some (yX4_isSticky, cX4_isSticky, 1, (some FieldType.boolean), zc_X4_isSticky, 0, 0) := rfl
set_option maxRecDepth 100000 in
theorem zq_Win_isOn : zi_ms[125]? = some (yX4_isOn, cX4_isOn, 2, (some FieldType.boolean), zc_X4_isOn, 0, 0) := rfl
set_option maxRecDepth 100000 in
theorem zq_Win_isLooseOn : zi_ms[126]? = some (yX4_isLooseOn, cX4_isLooseOn, 2, (some FieldType.boolean), zc_X4_isLooseOn, 0, 0) := rfl
set_option maxRecDepth 100000 in
theorem zq_Win_canBeWhole : zi_ms[127]? = some (yX4_canBeWhole, cX4_canBeWhole, 2, (some FieldType.boolean), zc_X4_canBeWhole, 0, 0) := rfl
set_option maxRecDepth 100000 in
theorem zq_Win_nearest : zi_ms[128]? = some (yX4_nearest, cX4_nearest, 4, (some FieldType.int), zc_X4_nearest, 0, 0) := rfl
set_option maxRecDepth 100000 in
theorem zq_Win_putAt : zi_ms[129]? = some (yX4_putAt, cX4_putAt, 4, none, zc_X4_putAt, 0, 0) := rfl
set_option maxRecDepth 100000 in
theorem zq_Win_sendTo : zi_ms[130]? = some (yX4_sendTo, cX4_sendTo, 3, none, zc_X4_sendTo, 0, 0) := rfl
set_option maxRecDepth 100000 in
theorem zq_Win_coversPoint : zi_ms[131]? = some (yX4_coversPoint, cX4_coversPoint, 6, (some FieldType.boolean), zc_X4_coversPoint, 0, 0) := rfl
set_option maxRecDepth 100000 in
theorem zq_Win_spans : zi_ms[132]? = some (yX4_spans, cX4_spans, 5, (some FieldType.boolean), zc_X4_spans, 0, 0) := rfl
set_option maxRecDepth 100000 in
theorem zq_Desk_between : zi_ms[133]? = some (yX5_between, cX5_between, 3, (some FieldType.int), zc_X5_between, 0, 0) := rfl
set_option maxRecDepth 100000 in
theorem zq_Desk_looseOnes : zi_ms[134]? = some (yX5_looseOnes, cX5_looseOnes, 4, (some FieldType.int), zc_X5_looseOnes, 0, 0) := rfl
set_option maxRecDepth 100000 in
theorem zq_Desk_windowsOn : zi_ms[135]? = some (yX5_windowsOn, cX5_windowsOn, 4, (some FieldType.int), zc_X5_windowsOn, 0, 0) := rfl
set_option maxRecDepth 100000 in
theorem zq_Desk_looseOnesFit : zi_ms[136]? = some (yX5_looseOnesFit, cX5_looseOnesFit, 4, (some FieldType.boolean), zc_X5_looseOnesFit, 0, 0) := rfl
set_option maxRecDepth 100000 in
theorem zq_Desk_sendAll : zi_ms[137]? = some (yX5_sendAll, cX5_sendAll, 4, none, zc_X5_sendAll, 0, 0) := rfl
set_option maxRecDepth 100000 in
theorem zq_Desk_treeOf : zi_ms[138]? = some (yX5_treeOf, cX5_treeOf, 2, (some (FieldType.object "WindowDesk$Tree")), zc_X5_treeOf, 0, 0) := rfl
set_option maxRecDepth 100000 in
theorem zq_Desk_layTrees : zi_ms[139]? = some (yX5_layTrees, cX5_layTrees, 2, none, zc_X5_layTrees, 0, 0) := rfl
set_option maxRecDepth 100000 in
theorem zq_Desk_startOf : zi_ms[140]? = some (yX5_startOf, cX5_startOf, 3, (some FieldType.int), zc_X5_startOf, 0, 0) := rfl
set_option maxRecDepth 100000 in
theorem zq_Desk_lengthOf : zi_ms[141]? = some (yX5_lengthOf, cX5_lengthOf, 3, (some FieldType.int), zc_X5_lengthOf, 0, 0) := rfl
set_option maxRecDepth 100000 in
theorem zq_Desk_findRoom : zi_ms[142]? = some (yX5_findRoom, cX5_findRoom, 6, (some FieldType.boolean), zc_X5_findRoom, 0, 0) := rfl
set_option maxRecDepth 100000 in
theorem zq_Desk_middleOf : zi_ms[143]? = some (yX5_middleOf, cX5_middleOf, 4, (some FieldType.int), zc_X5_middleOf, 0, 0) := rfl
set_option maxRecDepth 100000 in
theorem zq_Desk_tile : zi_ms[144]? = some (yX5_tile, cX5_tile, 6, (some FieldType.boolean), zc_X5_tile, 0, 0) := rfl
set_option maxRecDepth 100000 in
theorem zq_Desk_leafAtHand : zi_ms[145]? = some (yX5_leafAtHand, cX5_leafAtHand, 4, (some FieldType.int), zc_X5_leafAtHand, 0, 0) := rfl
set_option maxRecDepth 100000 in
theorem zq_Desk_tryCut : zi_ms[146]? = some (yX5_tryCut, cX5_tryCut, 6, (some FieldType.boolean), zc_X5_tryCut, 0, 0) := rfl
set_option maxRecDepth 100000 in
theorem zq_Desk_tryTab : zi_ms[147]? = some (yX5_tryTab, cX5_tryTab, 5, (some FieldType.boolean), zc_X5_tryTab, 0, 0) := rfl
set_option maxRecDepth 100000 in
theorem zq_Desk_end : zi_ms[148]? = some (yX5_end, cX5_end, 2, none, zc_X5_end, 0, 0) := rfl
set_option maxRecDepth 100000 in
theorem zq_Desk_giveFocus : zi_ms[149]? = some (yX5_giveFocus, cX5_giveFocus, 2, none, zc_X5_giveFocus, 0, 0) := rfl
set_option maxRecDepth 100000 in
theorem zq_Desk_raise : zi_ms[150]? = some (yX5_raise, cX5_raise, 5, none, zc_X5_raise, 0, 0) := rfl
set_option maxRecDepth 100000 in
theorem zq_Desk_dialogsOf : zi_ms[151]? = some (yX5_dialogsOf, cX5_dialogsOf, 4, (some FieldType.int), zc_X5_dialogsOf, 0, 0) := rfl
set_option maxRecDepth 100000 in
theorem zq_Desk_lowestDialogOf : zi_ms[152]? = some (yX5_lowestDialogOf, cX5_lowestDialogOf, 3, (some FieldType.int), zc_X5_lowestDialogOf, 0, 0) := rfl
set_option maxRecDepth 100000 in
theorem zq_Desk_reachFrom : zi_ms[153]? = some (yX5_reachFrom, cX5_reachFrom, 4, none, zc_X5_reachFrom, 0, 0) := rfl
set_option maxRecDepth 100000 in
theorem zq_Desk_tryDrag : zi_ms[154]? = some (yX5_tryDrag, cX5_tryDrag, 6, none, zc_X5_tryDrag, 0, 0) := rfl
set_option maxRecDepth 100000 in
theorem zq_Desk_axisOf : zi_ms[155]? = some (yX5_axisOf, cX5_axisOf, 1, (some FieldType.int), zc_X5_axisOf, 0, 0) := rfl
set_option maxRecDepth 100000 in
theorem zq_Desk_isAfter : zi_ms[156]? = some (yX5_isAfter, cX5_isAfter, 1, (some FieldType.boolean), zc_X5_isAfter, 0, 0) := rfl
set_option maxRecDepth 100000 in
theorem zq_Desk_gatherWithDialogs : zi_ms[157]? = some (yX5_gatherWithDialogs, cX5_gatherWithDialogs, 3, none, zc_X5_gatherWithDialogs, 0, 0) := rfl
set_option maxRecDepth 100000 in
theorem zq_Desk_gatherDialogs : zi_ms[158]? = some (yX5_gatherDialogs, cX5_gatherDialogs, 3, none, zc_X5_gatherDialogs, 0, 0) := rfl
set_option maxRecDepth 100000 in
theorem zq_Desk_groupCanBeWhole : zi_ms[159]? = some (yX5_groupCanBeWhole, cX5_groupCanBeWhole, 3, (some FieldType.boolean), zc_X5_groupCanBeWhole, 0, 0) := rfl
set_option maxRecDepth 100000 in
theorem zq_Desk_sendGroup : zi_ms[160]? = some (yX5_sendGroup, cX5_sendGroup, 3, none, zc_X5_sendGroup, 0, 0) := rfl
set_option maxRecDepth 100000 in
theorem zq_Desk_keepAll : zi_ms[161]? = some (yX5_keepAll, cX5_keepAll, 4, none, zc_X5_keepAll, 0, 0) := rfl
set_option maxRecDepth 100000 in
theorem zq_Desk_forgetKeptWith : zi_ms[162]? = some (yX5_forgetKeptWith, cX5_forgetKeptWith, 3, none, zc_X5_forgetKeptWith, 0, 0) := rfl
set_option maxRecDepth 100000 in
theorem zq_Desk_takeBack : zi_ms[163]? = some (yX5_takeBack, cX5_takeBack, 3, none, zc_X5_takeBack, 0, 0) := rfl
set_option maxRecDepth 100000 in
theorem zq_Desk_forgetKeptWithGroup : zi_ms[164]? = some (yX5_forgetKeptWithGroup, cX5_forgetKeptWithGroup, 2, none, zc_X5_forgetKeptWithGroup, 0, 0) := rfl
set_option maxRecDepth 100000 in
theorem zq_Mod_half : zi_ms[165]? = some (yX6_half, cX6_half, 1, (some FieldType.int), zc_X6_half, 0, 0) := rfl
set_option maxRecDepth 100000 in
theorem zq_Mod_nearest : zi_ms[166]? = some (yX6_nearest, cX6_nearest, 2, (some FieldType.int), zc_X6_nearest, 0, 0) := rfl
set_option maxRecDepth 100000 in
theorem zq_Mod_isFloating : zi_ms[167]? = some (yX6_isFloating, cX6_isFloating, 2, (some FieldType.boolean), zc_X6_isFloating, 0, 0) := rfl
set_option maxRecDepth 100000 in
theorem zq_Mod_copyTree : zi_ms[168]? = some (yX6_copyTree, cX6_copyTree, 7, none, zc_X6_copyTree, 0, 0) := rfl
set_option maxRecDepth 100000 in
theorem zq_Mod_newNode : zi_ms[169]? = some (yX6_newNode, cX6_newNode, 4, (some FieldType.int), zc_X6_newNode, 0, 0) := rfl
set_option maxRecDepth 100000 in
theorem zq_Mod_newLeaf : zi_ms[170]? = some (yX6_newLeaf, cX6_newLeaf, 4, (some FieldType.int), zc_X6_newLeaf, 0, 0) := rfl
set_option maxRecDepth 100000 in
theorem zq_Mod_addTab : zi_ms[171]? = some (yX6_addTab, cX6_addTab, 4, none, zc_X6_addTab, 0, 0) := rfl
set_option maxRecDepth 100000 in
theorem zq_Mod_placeOfTab : zi_ms[172]? = some (yX6_placeOfTab, cX6_placeOfTab, 5, (some FieldType.int), zc_X6_placeOfTab, 0, 0) := rfl
set_option maxRecDepth 100000 in
theorem zq_Mod_leafOf : zi_ms[173]? = some (yX6_leafOf, cX6_leafOf, 4, (some FieldType.int), zc_X6_leafOf, 0, 0) := rfl
set_option maxRecDepth 100000 in
theorem zq_Mod_above : zi_ms[174]? = some (yX6_above, cX6_above, 4, (some FieldType.int), zc_X6_above, 0, 0) := rfl
set_option maxRecDepth 100000 in
theorem zq_Mod_stand : zi_ms[175]? = some (yX6_stand, cX6_stand, 5, none, zc_X6_stand, 0, 0) := rfl
set_option maxRecDepth 100000 in
theorem zq_Mod_leave : zi_ms[176]? = some (yX6_leave, cX6_leave, 9, none, zc_X6_leave, 0, 0) := rfl
set_option maxRecDepth 100000 in
theorem zq_Mod_cutLeaf : zi_ms[177]? = some (yX6_cutLeaf, cX6_cutLeaf, 9, none, zc_X6_cutLeaf, 0, 0) := rfl
set_option maxRecDepth 100000 in
theorem zq_Mod_least : zi_ms[178]? = some (yX6_least, cX6_least, 8, (some FieldType.int), zc_X6_least, 0, 0) := rfl
set_option maxRecDepth 100000 in
theorem zq_Mod_fits : zi_ms[179]? = some (yX6_fits, cX6_fits, 4, (some FieldType.boolean), zc_X6_fits, 0, 0) := rfl
set_option maxRecDepth 100000 in
theorem zq_Mod_lay : zi_ms[180]? = some (yX6_lay, cX6_lay, 13, none, zc_X6_lay, 0, 0) := rfl
set_option maxRecDepth 100000 in
theorem zq_Mod_layAll : zi_ms[181]? = some (yX6_layAll, cX6_layAll, 2, none, zc_X6_layAll, 0, 0) := rfl
set_option maxRecDepth 100000 in
theorem zq_Mod_canBeWhole : zi_ms[182]? = some (yX6_canBeWhole, cX6_canBeWhole, 4, (some FieldType.boolean), zc_X6_canBeWhole, 0, 0) := rfl
set_option maxRecDepth 100000 in
theorem zq_Mod_putAt : zi_ms[183]? = some (yX6_putAt, cX6_putAt, 5, none, zc_X6_putAt, 0, 0) := rfl
set_option maxRecDepth 100000 in
theorem zq_Mod_isOnScreen : zi_ms[184]? = some (yX6_isOnScreen, cX6_isOnScreen, 3, (some FieldType.boolean), zc_X6_isOnScreen, 0, 0) := rfl
set_option maxRecDepth 100000 in
theorem zq_Mod_unstack : zi_ms[185]? = some (yX6_unstack, cX6_unstack, 4, none, zc_X6_unstack, 0, 0) := rfl
set_option maxRecDepth 100000 in
theorem zq_Mod_raise : zi_ms[186]? = some (yX6_raise, cX6_raise, 6, none, zc_X6_raise, 0, 0) := rfl
set_option maxRecDepth 100000 in
theorem zq_Mod_front : zi_ms[187]? = some (yX6_front, cX6_front, 5, none, zc_X6_front, 0, 0) := rfl
set_option maxRecDepth 100000 in
theorem zq_Mod_focused : zi_ms[188]? = some (yX6_focused, cX6_focused, 2, none, zc_X6_focused, 0, 0) := rfl
set_option maxRecDepth 100000 in
theorem zq_Mod_forget : zi_ms[189]? = some (yX6_forget, cX6_forget, 3, none, zc_X6_forget, 0, 0) := rfl
set_option maxRecDepth 100000 in
theorem zq_Mod_spread : zi_ms[190]? = some (yX6_spread, cX6_spread, 3, none, zc_X6_spread, 0, 0) := rfl
set_option maxRecDepth 100000 in
theorem zq_Mod_comesBack : zi_ms[191]? = some (yX6_comesBack, cX6_comesBack, 4, (some FieldType.boolean), zc_X6_comesBack, 0, 0) := rfl
set_option maxRecDepth 100000 in
theorem zq_Mod_bring : zi_ms[192]? = some (yX6_bring, cX6_bring, 7, (some FieldType.int), zc_X6_bring, 0, 0) := rfl
set_option maxRecDepth 100000 in
theorem zq_Mod_clearLeaves : zi_ms[193]? = some (yX6_clearLeaves, cX6_clearLeaves, 2, none, zc_X6_clearLeaves, 0, 0) := rfl
set_option maxRecDepth 100000 in
theorem zq_Mod_findLeaves : zi_ms[194]? = some (yX6_findLeaves, cX6_findLeaves, 3, none, zc_X6_findLeaves, 0, 0) := rfl
set_option maxRecDepth 100000 in
theorem zq_Mod_moveTabs : zi_ms[195]? = some (yX6_moveTabs, cX6_moveTabs, 9, (some FieldType.int), zc_X6_moveTabs, 0, 0) := rfl
set_option maxRecDepth 100000 in
theorem zq_Mod_tile : zi_ms[196]? = some (yX6_tile, cX6_tile, 6, (some FieldType.boolean), zc_X6_tile, 0, 0) := rfl
set_option maxRecDepth 100000 in
theorem zq_Mod_takesTrial : zi_ms[197]? = some (yX6_takesTrial, cX6_takesTrial, 2, (some FieldType.boolean), zc_X6_takesTrial, 0, 0) := rfl
set_option maxRecDepth 100000 in
theorem zq_Mod_closed : zi_ms[198]? = some (yX6_closed, cX6_closed, 5, (some FieldType.int), zc_X6_closed, 0, 0) := rfl
set_option maxRecDepth 100000 in
theorem zq_Mod_isShown : zi_ms[199]? = some (yX6_isShown, cX6_isShown, 2, (some FieldType.boolean), zc_X6_isShown, 0, 0) := rfl
set_option maxRecDepth 100000 in
theorem zq_Mod_common : zi_ms[200]? = some (yX6_common, cX6_common, 6, (some FieldType.int), zc_X6_common, 0, 0) := rfl
set_option maxRecDepth 100000 in
theorem zq_Mod_neighbourOf : zi_ms[201]? = some (yX6_neighbourOf, cX6_neighbourOf, 11, (some FieldType.int), zc_X6_neighbourOf, 0, 0) := rfl
set_option maxRecDepth 100000 in
theorem zq_Mod_areaOf : zi_ms[202]? = some (yX6_areaOf, cX6_areaOf, 4, (some FieldType.int), zc_X6_areaOf, 0, 0) := rfl
set_option maxRecDepth 100000 in
theorem zq_Mod_placeIn : zi_ms[203]? = some (yX6_placeIn, cX6_placeIn, 4, (some FieldType.int), zc_X6_placeIn, 0, 0) := rfl
set_option maxRecDepth 100000 in
theorem zq_Mod_lies : zi_ms[204]? = some (yX6_lies, cX6_lies, 7, (some FieldType.boolean), zc_X6_lies, 0, 0) := rfl
set_option maxRecDepth 100000 in
theorem zq_Math_floorDiv : zi_ms[205]? = some (yJ9_floorDiv_7cf53, cJ9_floorDiv_7cf53, 3, (some FieldType.int), zc_J9_floorDiv_7cf53, 0, 0) := rfl
set_option maxRecDepth 100000 in
theorem zq_Math_max : zi_ms[206]? = some (yJ9_max_7cf53, cJ9_max_7cf53, 2, (some FieldType.int), zc_J9_max_7cf53, 0, 0) := rfl
set_option maxRecDepth 100000 in
theorem zq_Math_min : zi_ms[207]? = some (yJ9_min_7cf53, cJ9_min_7cf53, 2, (some FieldType.int), zc_J9_min_7cf53, 0, 0) := rfl
/-! evaluation over the memory: a method returns; a stretch of code is gone through -/
noncomputable def ze_E (D a : Nat) (vs : List Value) (h : zi_Hp) (r : Option Value) (h' : zi_Hp) : Prop := ∃ N, ∀ F, N ≤ F → zi_run zi_ms F D a vs h [] = some [([], r, h')]
section ZEV
variable {D nL : Nat} {ret : Option FieldType} {code0 : List zi_Row}
/-- from one place of the code to another, whatever fuel is left behind it -/
noncomputable def ze_S (D nL : Nat) (ret : Option FieldType) (code0 : List zi_Row) (pc : Nat) (L : zi_Lc) (st : List Value) (h : zi_Hp) (pc' : Nat) (L' : zi_Lc) (st' : List Value) (h' : zi_Hp) : Prop :=
  ∃ N k, ∀ F n, N ≤ F → zi_go zi_ms none nL ret code0 0 0 (zi_run zi_ms F D) (n + k) pc L st h [] 0 0 = zi_go zi_ms none nL ret code0 0 0 (zi_run zi_ms F D) n pc' L' st' h' [] 0 0
/-- from a place of the code to the method's end -/
noncomputable def ze_G (D nL : Nat) (ret : Option FieldType) (code0 : List zi_Row) (pc : Nat) (L : zi_Lc) (st : List Value) (h : zi_Hp) (r : Option Value) (h' : zi_Hp) : Prop :=
  ∃ N k, ∀ F n, N ≤ F → zi_go zi_ms none nL ret code0 0 0 (zi_run zi_ms F D) (n + k) pc L st h [] 0 0 = some [([], r, h')]
theorem ze_S.refl {pc : Nat} {L : zi_Lc} {st : List Value} {h : zi_Hp} : ze_S D nL ret code0 pc L st h pc L st h := ⟨0, 0, fun _ _ _ => rfl⟩
theorem ze_S.trans {p1 p2 p3 : Nat} {L1 L2 L3 : zi_Lc} {s1 s2 s3 : List Value} {h1 h2 h3 : zi_Hp} (a : ze_S D nL ret code0 p1 L1 s1 h1 p2 L2 s2 h2) (b : ze_S D nL ret code0 p2 L2 s2 h2 p3 L3 s3 h3) : ze_S D nL ret code0 p1 L1 s1 h1 p3 L3 s3 h3 := by
  obtain ⟨N, k, a⟩ := a
  obtain ⟨M, j, b⟩ := b
  refine ⟨N + M, j + k, fun F n hF => ?_⟩
  rw [← Nat.add_assoc, a F (n + j) (by omega), b F n (by omega)]
theorem ze_S.end {p1 p2 : Nat} {L1 L2 : zi_Lc} {s1 s2 : List Value} {h1 h2 h3 : zi_Hp} {r : Option Value} (a : ze_S D nL ret code0 p1 L1 s1 h1 p2 L2 s2 h2) (b : ze_G D nL ret code0 p2 L2 s2 h2 r h3) : ze_G D nL ret code0 p1 L1 s1 h1 r h3 := by
  obtain ⟨N, k, a⟩ := a
  obtain ⟨M, j, b⟩ := b
  refine ⟨N + M, j + k, fun F n hF => ?_⟩
  rw [← Nat.add_assoc, a F (n + j) (by omega), b F n (by omega)]
/-- a method that makes nothing -/
theorem ze_enter {a : Nat} {y : MethodName} {cc : ByteArray} {vs : List Value} {h h' : zi_Hp} {r : Option Value} (hm : zi_ms[a]? = some (y, cc, nL, ret, code0, 0, 0)) (hs : (lg_sl vs).length ≤ nL) (g : ze_G D nL ret code0 0 (lv_args 0 vs) [] h r h') : ze_E (D + 1) a vs h r h' := by
  obtain ⟨N, k, g⟩ := g
  refine ⟨N + k, fun F hF => ?_⟩
  obtain ⟨n, rfl⟩ : ∃ n, F = n + k := ⟨F - k, by omega⟩
  unfold zi_run
  rw [hm]
  dsimp only
  rw [if_pos hs]
  exact g (n + k) n (by omega)
end ZEV
theorem zi_get_set_eq {L : zi_Lc} {k : Nat} {v : Value} : zi_get (zi_set L k v) k = some v := by
  simp [zi_get, zi_set]
theorem zi_get_set_ne {L : zi_Lc} {j k : Nat} {v x : Value} (hj : j ≠ k) (h : zi_get L j = some x) (hx : x.category = 1) : zi_get (zi_set L k v) j = some x := by
  have h0 : (k == j) = false := by simpa using Ne.symm hj
  unfold zi_get zi_set at *
  rw [List.find?_cons, h0]
  dsimp only
  obtain ⟨q, hq, rfl⟩ := Option.map_eq_some_iff.mp h
  have hqj : q.1 = j := by simpa using List.find?_some hq
  have key : ∀ L : zi_Lc, L.find? (fun q => q.1 == j) = some q → (L.filter (fun q => !(q.1 == k) && !(q.1 + 1 == k && q.2.category == 2))).find? (fun q => q.1 == j) = some q := by
    intro L
    induction L with
    | nil => intro h; cases h
    | cons a L ih =>
      intro h
      rw [List.find?_cons] at h
      by_cases e : (a.1 == j) = true
      · rw [e] at h
        have h : a = q := by simpa using h
        subst h
        have e1 : (!(a.1 == k) && !(a.1 + 1 == k && a.2.category == 2)) = true := by
          have : (a.1 == k) = false := by
            rw [hqj]
            simpa using hj
          rw [this, hx]
          simp
        rw [List.filter_cons, if_pos e1, List.find?_cons, e]
      · have e : (a.1 == j) = false := by simpa using e
        rw [e] at h
        dsimp only at h
        by_cases e1 : (!(a.1 == k) && !(a.1 + 1 == k && a.2.category == 2)) = true
        · rw [List.filter_cons, if_pos e1, List.find?_cons, e]
          exact ih h
        · rw [List.filter_cons, if_neg e1]
          exact ih h
  rw [key L hq]
  rfl
theorem zm_len (μ : zm_M) : (zm_mk μ).length = 262 := by
  unfold zm_mk
  rw [List.length_mapIdx]
  decide +kernel
theorem zi_f3 : ((3 : Fin 4) : Nat) = 3 := rfl
theorem zi_cr (a : Nat) : (Value.ref a).category = 1 := rfl
theorem zi_ci (x : Int32) : (Value.int x).category = 1 := rfl
theorem zi_cn : Value.null.category = 1 := rfl
/-- entering a method: its locals written out -/
theorem ze_in {D nL : Nat} {ret : Option FieldType} {code0 : List zi_Row} {a : Nat} {y : MethodName} {cc : ByteArray} {vs : List Value} {h h' : zi_Hp} {r : Option Value} (L : zi_Lc) (hm : zi_ms[a]? = some (y, cc, nL, ret, code0, 0, 0)) (hs : (lg_sl vs).length ≤ nL) (hL : lv_args 0 vs = L) (g : ze_G D nL ret code0 0 L [] h r h') : ze_E (D + 1) a vs h r h' := by
  subst hL
  exact ze_enter hm hs g
end
section
/-! one instruction at a time, by its kind -/
section ZGK
variable (ms : List zi_Me) (scr : Option (List Value)) (nL : Nat) (ret : Option FieldType) (code : List zi_Row) (mc mS : Nat) (call : Nat → List Value → zi_Hp → zi_Dm → Option (List zi_Out))
noncomputable def zi_on (o : Option zi_Row) (n pc : Nat) (ls : zi_Lc) (st : List Value) (h : zi_Hp) (d : zi_Dm) (kc ks : Nat) : Option (List zi_Out) :=
    match o with
    | none => none
    | some r =>
      match zi_ask r.2.1 st with
      | some (k, f) => (match d[k.toNat]? with
        | none => none
        | some l => if (zi_vals l).length ≤ 64 then zi_bind (zi_vals l) (fun v => zi_go ms scr nL ret code mc mS call n pc ls (f (Int32.ofInt v)) h (d.set k.toNat [(v, v)]) kc ks) else none)
      | none =>
        match r.2.1 with
        | .ireturn => (match st with | [v] => if zi_retOk ret v then some [(d, some v, h)] else none | _ => none)
        | .areturn => (match st with | [.ref x] => if zi_retA ret then some [(d, some (.ref x), h)] else none | _ => none)
        | .return_ => (match st with | [] => if ret = none then some [(d, none, h)] else none | _ => none)
        | .goto _ => zi_go ms scr nL ret code mc mS call n r.2.2.2.1 ls st h d kc ks
        | .ifCond c _ => (match st with
          | .int x :: rest => if zi_cmp c x 0 then zi_go ms scr nL ret code mc mS call n r.2.2.2.1 ls rest h d kc ks else zi_go ms scr nL ret code mc mS call n (pc + 3) ls rest h d kc ks
          | .float k :: rest => (match d[k.toNat]? with
            | none => none
            | some l => zi_bind [(zi_T c 0 l, r.2.2.2.1), (zi_T (zi_neg c) 0 l, pc + 3)] (fun q => if q.1.isEmpty then some [] else zi_go ms scr nL ret code mc mS call n q.2 ls rest h (d.set k.toNat q.1) kc ks))
          | _ => none)
        | .if_icmp c _ => (match st with
          | .int y :: .int x :: rest => if zi_cmp c x y then zi_go ms scr nL ret code mc mS call n r.2.2.2.1 ls rest h d kc ks else zi_go ms scr nL ret code mc mS call n (pc + 3) ls rest h d kc ks
          | .int y :: .float k :: rest => (match d[k.toNat]? with
            | none => none
            | some l => zi_bind [(zi_T c y.toInt l, r.2.2.2.1), (zi_T (zi_neg c) y.toInt l, pc + 3)] (fun q => if q.1.isEmpty then some [] else zi_go ms scr nL ret code mc mS call n q.2 ls rest h (d.set k.toNat q.1) kc ks))
          | .float k :: .int x :: rest => (match d[k.toNat]? with
            | none => none
            | some l => zi_bind [(zi_T (zi_swap c) x.toInt l, r.2.2.2.1), (zi_T (zi_neg (zi_swap c)) x.toInt l, pc + 3)] (fun q => if q.1.isEmpty then some [] else zi_go ms scr nL ret code mc mS call n q.2 ls rest h (d.set k.toNat q.1) kc ks))
          | _ => none)
        | .tableswitch dflt lo hi offs => (match st with
          | .int x :: rest => if x.toInt < lo ∨ hi < x.toInt then (if (pc : Int) + dflt = (((pc : Int) + dflt).toNat : Int) then zi_go ms scr nL ret code mc mS call n ((pc : Int) + dflt).toNat ls rest h d kc ks else none)
            else (match offs[(x.toInt - lo).toNat]? with
              | some off => if (pc : Int) + off = (((pc : Int) + off).toNat : Int) then zi_go ms scr nL ret code mc mS call n ((pc : Int) + off).toNat ls rest h d kc ks else none
              | none => none)
          | .float k :: rest => (match d[k.toNat]? with
            | none => none
            | some l => zi_bind ((zi_T .lt lo l, dflt) :: (zi_T .gt hi l, dflt) :: (List.range (hi - lo + 1).toNat).map (fun (j : Nat) => (zi_T .eq (lo + (j : Int)) l, offs[j]?.getD 0))) (fun q => if q.1.isEmpty then some [] else if (pc : Int) + q.2 = (((pc : Int) + q.2).toNat : Int) then zi_go ms scr nL ret code mc mS call n ((pc : Int) + q.2).toNat ls rest h (d.set k.toNat q.1) kc ks else none))
          | _ => none)
        | .invokespecial _ =>
          if r.2.2.2.1 = 999 then (match st with | .ref (x + 1) :: rest => if rest.length ≤ 4 then zi_go ms scr nL ret code mc mS call n (pc + 3) ls rest h d kc ks else none | _ => none)
          else (match ms[r.2.2.2.1]? with
            | none => none
            | some mt => if (st.drop r.2.2.2.2.1).length ≤ 4 ∧ kc + mt.2.2.2.2.2.1 ≤ mc ∧ ks + mt.2.2.2.2.2.2 ≤ mS ∧ r.2.2.2.2.1 ≤ st.length ∧ (mt.2.2.2.2.2.1 = 0 ∨ (zi_wfc h.length ls = true ∧ zi_wfl h.length (st.drop r.2.2.2.2.1) = true)) then
                (match (st.take r.2.2.2.2.1).reverse with
                | .ref (x + 1) :: tl => (match call r.2.2.2.1 (.ref (x + 1) :: tl) h d with
                  | none => none
                  | some [o] => zi_go ms scr nL ret code mc mS call n (pc + 3) ls (o.2.1.toList ++ st.drop r.2.2.2.2.1) o.2.2 o.1 (kc + mt.2.2.2.2.2.1) (ks + mt.2.2.2.2.2.2)
                  | some os => zi_bind os (fun o => zi_go ms scr nL ret code mc mS call n (pc + 3) ls (o.2.1.toList ++ st.drop r.2.2.2.2.1) o.2.2 o.1 (kc + mt.2.2.2.2.2.1) (ks + mt.2.2.2.2.2.2)))
                | _ => none)
              else none)
        | .lookupswitch dflt ps => (match st with
          | .int x :: rest => if (pc : Int) + Op.lookupswitch.offset ps.toList dflt x.toInt = (((pc : Int) + Op.lookupswitch.offset ps.toList dflt x.toInt).toNat : Int) then zi_go ms scr nL ret code mc mS call n ((pc : Int) + Op.lookupswitch.offset ps.toList dflt x.toInt).toNat ls rest h d kc ks else none
          | _ => none)
        | .invokestatic _ => if r.2.2.2.1 = 997 then (match st with
            | .int n0 :: .int dp :: .ref (r1 + 1) :: .int sp :: .ref (r0 + 1) :: rest => if rest.length ≤ 4 then (match zi_cpy h r0 sp r1 dp n0 with
              | some h' => zi_go ms scr nL ret code mc mS call n (pc + 3) ls rest h' d kc ks
              | none => none) else none
            | _ => none)
          else (match ms[r.2.2.2.1]? with
            | none => none
            | some mt => if (st.drop r.2.2.2.2.1).length ≤ 4 ∧ kc + mt.2.2.2.2.2.1 ≤ mc ∧ ks + mt.2.2.2.2.2.2 ≤ mS ∧ r.2.2.2.2.1 ≤ st.length ∧ (mt.2.2.2.2.2.1 = 0 ∨ (zi_wfc h.length ls = true ∧ zi_wfl h.length (st.drop r.2.2.2.2.1) = true)) then
                (match call r.2.2.2.1 (st.take r.2.2.2.2.1).reverse h d with
                | none => none
                | some [o] => zi_go ms scr nL ret code mc mS call n (pc + 3) ls (o.2.1.toList ++ st.drop r.2.2.2.2.1) o.2.2 o.1 (kc + mt.2.2.2.2.2.1) (ks + mt.2.2.2.2.2.2)
                | some os => zi_bind os (fun o => zi_go ms scr nL ret code mc mS call n (pc + 3) ls (o.2.1.toList ++ st.drop r.2.2.2.2.1) o.2.2 o.1 (kc + mt.2.2.2.2.2.1) (ks + mt.2.2.2.2.2.2)))
              else none)
        | .invokevirtual _ => (match ms[r.2.2.2.1]? with
            | none => none
            | some mt => if (st.drop r.2.2.2.2.1).length ≤ 4 ∧ kc + mt.2.2.2.2.2.1 ≤ mc ∧ ks + mt.2.2.2.2.2.2 ≤ mS ∧ r.2.2.2.2.1 ≤ st.length ∧ (mt.2.2.2.2.2.1 = 0 ∨ (zi_wfc h.length ls = true ∧ zi_wfl h.length (st.drop r.2.2.2.2.1) = true)) then
                (match (st.take r.2.2.2.2.1).reverse with
                | .ref (x + 1) :: tl => (match h[x]? with
                  | some (t, _) => if (t : Int) = r.2.2.2.2.2.2 ∧ t < 7 then
                    (match call r.2.2.2.1 (.ref (x + 1) :: tl) h d with
                    | none => none
                    | some [o] => zi_go ms scr nL ret code mc mS call n (pc + 3) ls (o.2.1.toList ++ st.drop r.2.2.2.2.1) o.2.2 o.1 (kc + mt.2.2.2.2.2.1) (ks + mt.2.2.2.2.2.2)
                    | some os => zi_bind os (fun o => zi_go ms scr nL ret code mc mS call n (pc + 3) ls (o.2.1.toList ++ st.drop r.2.2.2.2.1) o.2.2 o.1 (kc + mt.2.2.2.2.2.1) (ks + mt.2.2.2.2.2.2))) else none
                  | none => none)
                | _ => none)
              else none)
        | _ => match zi_new r st h with
          | some (st', h', k1, k2) => if kc + k1 ≤ mc ∧ ks + k2 ≤ mS ∧ zi_wfh h = true ∧ zi_wfc h.length ls = true ∧ zi_wfl h.length st = true then zi_go ms scr nL ret code mc mS call n (pc + r.2.2.1) ls st' h' d (kc + k1) (ks + k2) else none
          | none => match zi_step scr nL d r ls st h with
            | some (ls', st', h') => zi_go ms scr nL ret code mc mS call n (pc + r.2.2.1) ls' st' h' d kc ks
            | none => none
end ZGK
section ZGL
variable {ms : List zi_Me} {scr : Option (List Value)} {nL : Nat} {ret : Option FieldType} {code : List zi_Row} {mc mS : Nat} {call : Nat → List Value → zi_Hp → zi_Dm → Option (List zi_Out)} {n pc p ln a b t kc ks : Nat} {v : Int} {ls : zi_Lc} {st rest : List Value} {h : zi_Hp} {d : zi_Dm}
theorem zg_0 : zi_go ms scr nL ret code mc mS call (n + 1) pc ls st h d kc ks = zi_on ms scr nL ret code mc mS call (code.find? (fun r => r.1 == pc)) n pc ls st h d kc ks := by
  rw [zi_go.eq_def]
  rfl
theorem zg_iconst {x : Int} : zi_on ms scr nL ret code mc mS call (some (p, .iconst x, ln, a, b, t, v)) n pc ls st h d kc ks = zi_go ms scr nL ret code mc mS call n (pc + ln) ls (.int (Int32.ofInt x) :: st) h d kc ks := rfl
theorem zg_bipush {x : Int} : zi_on ms scr nL ret code mc mS call (some (p, .bipush x, ln, a, b, t, v)) n pc ls st h d kc ks = zi_go ms scr nL ret code mc mS call n (pc + ln) ls (.int (Int8.ofInt x).toInt32 :: st) h d kc ks := rfl
theorem zg_sipush {x : Int} : zi_on ms scr nL ret code mc mS call (some (p, .sipush x, ln, a, b, t, v)) n pc ls st h d kc ks = zi_go ms scr nL ret code mc mS call n (pc + ln) ls (.int (Int16.ofInt x).toInt32 :: st) h d kc ks := rfl
theorem zg_ldc {j : Nat} : zi_on ms scr nL ret code mc mS call (some (p, .ldc j, ln, a, b, t, v)) n pc ls st h d kc ks = zi_go ms scr nL ret code mc mS call n (pc + ln) ls (.int (Int32.ofInt v) :: st) h d kc ks := rfl
theorem zg_ldc_w {j : Nat} : zi_on ms scr nL ret code mc mS call (some (p, .ldc_w j, ln, a, b, t, v)) n pc ls st h d kc ks = zi_go ms scr nL ret code mc mS call n (pc + ln) ls (.int (Int32.ofInt v) :: st) h d kc ks := rfl
theorem zg_iload_n {k : Fin 4} : zi_on ms scr nL ret code mc mS call (some (p, .iload_n k, ln, a, b, t, v)) n pc ls st h d kc ks = (match zi_ld ls d k.val with | some x => zi_go ms scr nL ret code mc mS call n (pc + ln) ls (x :: st) h d kc ks | none => none) := by
  unfold zi_on
  dsimp only [zi_ask, zi_new, zi_step]
  cases zi_ld ls d k.val <;> rfl
theorem zg_iload {k : Nat} : zi_on ms scr nL ret code mc mS call (some (p, .iload k, ln, a, b, t, v)) n pc ls st h d kc ks = (match zi_ld ls d k with | some x => zi_go ms scr nL ret code mc mS call n (pc + ln) ls (x :: st) h d kc ks | none => none) := by
  unfold zi_on
  dsimp only [zi_ask, zi_new, zi_step]
  cases zi_ld ls d k <;> rfl
theorem zg_aload_n {k : Fin 4} : zi_on ms scr nL ret code mc mS call (some (p, .aload_n k, ln, a, b, t, v)) n pc ls st h d kc ks = (match zi_lda ls k.val with | some x => zi_go ms scr nL ret code mc mS call n (pc + ln) ls (x :: st) h d kc ks | none => none) := by
  unfold zi_on
  dsimp only [zi_ask, zi_new, zi_step]
  cases zi_lda ls k.val <;> rfl
theorem zg_aload {k : Nat} : zi_on ms scr nL ret code mc mS call (some (p, .aload k, ln, a, b, t, v)) n pc ls st h d kc ks = (match zi_lda ls k with | some x => zi_go ms scr nL ret code mc mS call n (pc + ln) ls (x :: st) h d kc ks | none => none) := by
  unfold zi_on
  dsimp only [zi_ask, zi_new, zi_step]
  cases zi_lda ls k <;> rfl
theorem zg_istore_n {k : Fin 4} {x : Value} : zi_on ms scr nL ret code mc mS call (some (p, .istore_n k, ln, a, b, t, v)) n pc ls (x :: rest) h d kc ks = (if zi_isI x = true ∧ k.val < nL then zi_go ms scr nL ret code mc mS call n (pc + ln) (zi_set ls k.val x) rest h d kc ks else none) := by
  unfold zi_on
  dsimp only [zi_ask, zi_new, zi_step]
  by_cases c : zi_isI x = true ∧ k.val < nL
  · simp only [if_pos c]
  · simp only [if_neg c]
theorem zg_istore {k : Nat} {x : Value} : zi_on ms scr nL ret code mc mS call (some (p, .istore k, ln, a, b, t, v)) n pc ls (x :: rest) h d kc ks = (if zi_isI x = true ∧ k < nL then zi_go ms scr nL ret code mc mS call n (pc + ln) (zi_set ls k x) rest h d kc ks else none) := by
  unfold zi_on
  dsimp only [zi_ask, zi_new, zi_step]
  by_cases c : zi_isI x = true ∧ k < nL
  · simp only [if_pos c]
  · simp only [if_neg c]
theorem zg_astore_n {k : Fin 4} {x : Nat} : zi_on ms scr nL ret code mc mS call (some (p, .astore_n k, ln, a, b, t, v)) n pc ls (.ref x :: rest) h d kc ks = (if k.val < nL then zi_go ms scr nL ret code mc mS call n (pc + ln) (zi_set ls k.val (.ref x)) rest h d kc ks else none) := by
  unfold zi_on
  dsimp only [zi_ask, zi_new, zi_step]
  by_cases c : k.val < nL
  · simp only [if_pos c]
  · simp only [if_neg c]
theorem zg_astore {k : Nat} {x : Nat} : zi_on ms scr nL ret code mc mS call (some (p, .astore k, ln, a, b, t, v)) n pc ls (.ref x :: rest) h d kc ks = (if k < nL then zi_go ms scr nL ret code mc mS call n (pc + ln) (zi_set ls k (.ref x)) rest h d kc ks else none) := by
  unfold zi_on
  dsimp only [zi_ask, zi_new, zi_step]
  by_cases c : k < nL
  · simp only [if_pos c]
  · simp only [if_neg c]
theorem zg_iinc {k : Nat} {x : Int} {y : Int32} (e : zi_get ls k = some (.int y)) : zi_on ms scr nL ret code mc mS call (some (p, .iinc k x, ln, a, b, t, v)) n pc ls st h d kc ks = (if k < nL then zi_go ms scr nL ret code mc mS call n (pc + ln) (zi_set ls k (.int (y + Int32.ofInt x))) st h d kc ks else none) := by
  unfold zi_on
  dsimp only [zi_ask, zi_new, zi_step]
  rw [e]
  dsimp only
  by_cases c : k < nL
  · simp only [if_pos c]
  · simp only [if_neg c]
theorem zg_iadd {x y : Int32} : zi_on ms scr nL ret code mc mS call (some (p, .iadd, ln, a, b, t, v)) n pc ls (.int y :: .int x :: rest) h d kc ks = zi_go ms scr nL ret code mc mS call n (pc + ln) ls (.int (x + y) :: rest) h d kc ks := rfl
theorem zg_isub {x y : Int32} : zi_on ms scr nL ret code mc mS call (some (p, .isub, ln, a, b, t, v)) n pc ls (.int y :: .int x :: rest) h d kc ks = zi_go ms scr nL ret code mc mS call n (pc + ln) ls (.int (x - y) :: rest) h d kc ks := rfl
theorem zg_imul {x y : Int32} : zi_on ms scr nL ret code mc mS call (some (p, .imul, ln, a, b, t, v)) n pc ls (.int y :: .int x :: rest) h d kc ks = zi_go ms scr nL ret code mc mS call n (pc + ln) ls (.int (x * y) :: rest) h d kc ks := rfl
theorem zg_iand {x y : Int32} : zi_on ms scr nL ret code mc mS call (some (p, .iand, ln, a, b, t, v)) n pc ls (.int y :: .int x :: rest) h d kc ks = zi_go ms scr nL ret code mc mS call n (pc + ln) ls (.int (x &&& y) :: rest) h d kc ks := rfl
theorem zg_ixor {x y : Int32} : zi_on ms scr nL ret code mc mS call (some (p, .ixor, ln, a, b, t, v)) n pc ls (.int y :: .int x :: rest) h d kc ks = zi_go ms scr nL ret code mc mS call n (pc + ln) ls (.int (x ^^^ y) :: rest) h d kc ks := rfl
theorem zg_idiv {x y : Int32} : zi_on ms scr nL ret code mc mS call (some (p, .idiv, ln, a, b, t, v)) n pc ls (.int y :: .int x :: rest) h d kc ks = (if y = 0 then none else zi_go ms scr nL ret code mc mS call n (pc + ln) ls (.int (x / y) :: rest) h d kc ks) := by
  unfold zi_on
  dsimp only [zi_ask, zi_new, zi_step]
  by_cases c : y = 0
  · simp only [if_pos c]
  · simp only [if_neg c]
theorem zg_irem {x y : Int32} : zi_on ms scr nL ret code mc mS call (some (p, .irem, ln, a, b, t, v)) n pc ls (.int y :: .int x :: rest) h d kc ks = (if y = 0 then none else zi_go ms scr nL ret code mc mS call n (pc + ln) ls (.int (x - x / y * y) :: rest) h d kc ks) := by
  unfold zi_on
  dsimp only [zi_ask, zi_new, zi_step]
  by_cases c : y = 0
  · simp only [if_pos c]
  · simp only [if_neg c]
theorem zg_dup {x : Value} : zi_on ms scr nL ret code mc mS call (some (p, .dup, ln, a, b, t, v)) n pc ls (x :: rest) h d kc ks = (if x.category = 1 then zi_go ms scr nL ret code mc mS call n (pc + ln) ls (x :: x :: rest) h d kc ks else none) := by
  unfold zi_on
  dsimp only [zi_ask, zi_new, zi_step]
  by_cases c : x.category = 1
  · simp only [if_pos c]
  · simp only [if_neg c]
theorem zg_dup2 {x y : Value} : zi_on ms scr nL ret code mc mS call (some (p, .dup2, ln, a, b, t, v)) n pc ls (x :: y :: rest) h d kc ks = (if x.category = 1 ∧ y.category = 1 then zi_go ms scr nL ret code mc mS call n (pc + ln) ls (x :: y :: x :: y :: rest) h d kc ks else none) := by
  unfold zi_on
  dsimp only [zi_ask, zi_new, zi_step]
  by_cases c : x.category = 1 ∧ y.category = 1
  · simp only [if_pos c]
  · simp only [if_neg c]
theorem zg_pop {x : Value} : zi_on ms scr nL ret code mc mS call (some (p, .pop, ln, a, b, t, v)) n pc ls (x :: rest) h d kc ks = (if x.category = 1 then zi_go ms scr nL ret code mc mS call n (pc + ln) ls rest h d kc ks else none) := by
  unfold zi_on
  dsimp only [zi_ask, zi_new, zi_step]
  by_cases c : x.category = 1
  · simp only [if_pos c]
  · simp only [if_neg c]
theorem zg_getfield {j r : Nat} : zi_on ms scr nL ret code mc mS call (some (p, .getfield j, ln, a, b, t, v)) n pc ls (.ref (r + 1) :: rest) h d kc ks = (match zi_gf h a b r with | some x => zi_go ms scr nL ret code mc mS call n (pc + ln) ls (x :: rest) h d kc ks | none => none) := by
  unfold zi_on
  dsimp only [zi_ask, zi_new, zi_step]
  cases zi_gf h a b r <;> rfl
theorem zg_putfield {j r : Nat} {x : Value} : zi_on ms scr nL ret code mc mS call (some (p, .putfield j, ln, a, b, t, v)) n pc ls (x :: .ref (r + 1) :: rest) h d kc ks = (match zi_pf h a b r x with | some h' => zi_go ms scr nL ret code mc mS call n (pc + ln) ls rest h' d kc ks | none => none) := by
  unfold zi_on
  dsimp only [zi_ask, zi_new, zi_step]
  cases zi_pf h a b r x <;> rfl
theorem zg_iaload {j : Int32} {r : Nat} : zi_on ms scr nL ret code mc mS call (some (p, .iaload, ln, a, b, t, v)) n pc ls (.int j :: .ref r :: rest) h d kc ks = (match zi_iald scr d h j r with | some x => zi_go ms scr nL ret code mc mS call n (pc + ln) ls (x :: rest) h d kc ks | none => none) := by
  unfold zi_on
  dsimp only [zi_ask, zi_new, zi_step]
  cases zi_iald scr d h j r <;> rfl
theorem zg_baload {j : Int32} {r : Nat} : zi_on ms scr nL ret code mc mS call (some (p, .baload, ln, a, b, t, v)) n pc ls (.int j :: .ref (r + 1) :: rest) h d kc ks = (match zi_bald h j r with | some x => zi_go ms scr nL ret code mc mS call n (pc + ln) ls (x :: rest) h d kc ks | none => none) := by
  unfold zi_on
  dsimp only [zi_ask, zi_new, zi_step]
  cases zi_bald h j r <;> rfl
theorem zg_aaload {j : Int32} {r : Nat} : zi_on ms scr nL ret code mc mS call (some (p, .aaload, ln, a, b, t, v)) n pc ls (.int j :: .ref (r + 1) :: rest) h d kc ks = (match zi_aald h j r with | some x => zi_go ms scr nL ret code mc mS call n (pc + ln) ls (x :: rest) h d kc ks | none => none) := by
  unfold zi_on
  dsimp only [zi_ask, zi_new, zi_step]
  cases zi_aald h j r <;> rfl
theorem zg_iastore {j : Int32} {r : Nat} {x : Value} : zi_on ms scr nL ret code mc mS call (some (p, .iastore, ln, a, b, t, v)) n pc ls (x :: .int j :: .ref (r + 1) :: rest) h d kc ks = (match zi_iast h j r x with | some h' => zi_go ms scr nL ret code mc mS call n (pc + ln) ls rest h' d kc ks | none => none) := by
  unfold zi_on
  dsimp only [zi_ask, zi_new, zi_step]
  cases zi_iast h j r x <;> rfl
theorem zg_bastore {x j : Int32} {r : Nat} : zi_on ms scr nL ret code mc mS call (some (p, .bastore, ln, a, b, t, v)) n pc ls (.int x :: .int j :: .ref (r + 1) :: rest) h d kc ks = (match zi_bast h j r x with | some h' => zi_go ms scr nL ret code mc mS call n (pc + ln) ls rest h' d kc ks | none => none) := by
  unfold zi_on
  dsimp only [zi_ask, zi_new, zi_step]
  cases zi_bast h j r x <;> rfl
theorem zg_arraylength {r : Nat} : zi_on ms scr nL ret code mc mS call (some (p, .arraylength, ln, a, b, t, v)) n pc ls (.ref r :: rest) h d kc ks = (match zi_alen scr h r with | some x => zi_go ms scr nL ret code mc mS call n (pc + ln) ls (x :: rest) h d kc ks | none => none) := by
  unfold zi_on
  dsimp only [zi_ask, zi_new, zi_step]
  cases zi_alen scr h r <;> rfl
theorem zg_lconst {x : Fin 2} : zi_on ms scr nL ret code mc mS call (some (p, .lconst x, ln, a, b, t, v)) n pc ls st h d kc ks = zi_go ms scr nL ret code mc mS call n (pc + ln) ls (.long (Int64.ofNat x.val) :: st) h d kc ks := rfl
theorem zg_ldc2_w {j : Nat} : zi_on ms scr nL ret code mc mS call (some (p, .ldc2_w j, ln, a, b, t, v)) n pc ls st h d kc ks = zi_go ms scr nL ret code mc mS call n (pc + ln) ls (.long (Int64.ofInt v) :: st) h d kc ks := rfl
theorem zg_i2l {x : Int32} : zi_on ms scr nL ret code mc mS call (some (p, .i2l, ln, a, b, t, v)) n pc ls (.int x :: rest) h d kc ks = zi_go ms scr nL ret code mc mS call n (pc + ln) ls (.long x.toInt64 :: rest) h d kc ks := rfl
theorem zg_l2i {x : Int64} : zi_on ms scr nL ret code mc mS call (some (p, .l2i, ln, a, b, t, v)) n pc ls (.long x :: rest) h d kc ks = zi_go ms scr nL ret code mc mS call n (pc + ln) ls (.int x.toInt32 :: rest) h d kc ks := rfl
theorem zg_lshl {y : Int32} {x : Int64} : zi_on ms scr nL ret code mc mS call (some (p, .lshl, ln, a, b, t, v)) n pc ls (.int y :: .long x :: rest) h d kc ks = zi_go ms scr nL ret code mc mS call n (pc + ln) ls (.long (x <<< (y.toInt64 &&& 63)) :: rest) h d kc ks := rfl
theorem zg_lshr {y : Int32} {x : Int64} : zi_on ms scr nL ret code mc mS call (some (p, .lshr, ln, a, b, t, v)) n pc ls (.int y :: .long x :: rest) h d kc ks = zi_go ms scr nL ret code mc mS call n (pc + ln) ls (.long (x >>> (y.toInt64 &&& 63)) :: rest) h d kc ks := rfl
theorem zg_lor {x y : Int64} : zi_on ms scr nL ret code mc mS call (some (p, .lor, ln, a, b, t, v)) n pc ls (.long y :: .long x :: rest) h d kc ks = zi_go ms scr nL ret code mc mS call n (pc + ln) ls (.long (x ||| y) :: rest) h d kc ks := rfl
theorem zg_land {x y : Int64} : zi_on ms scr nL ret code mc mS call (some (p, .land, ln, a, b, t, v)) n pc ls (.long y :: .long x :: rest) h d kc ks = zi_go ms scr nL ret code mc mS call n (pc + ln) ls (.long (x &&& y) :: rest) h d kc ks := rfl
theorem zg_lload_n {k : Fin 4} {y : Int64} (e : zi_get ls k.val = some (.long y)) : zi_on ms scr nL ret code mc mS call (some (p, .lload_n k, ln, a, b, t, v)) n pc ls st h d kc ks = zi_go ms scr nL ret code mc mS call n (pc + ln) ls (.long y :: st) h d kc ks := by
  unfold zi_on
  dsimp only [zi_ask, zi_new, zi_step]
  rw [e]
theorem zg_lstore_n {k : Fin 4} {x : Int64} : zi_on ms scr nL ret code mc mS call (some (p, .lstore_n k, ln, a, b, t, v)) n pc ls (.long x :: rest) h d kc ks = (if k.val + 1 < nL then zi_go ms scr nL ret code mc mS call n (pc + ln) (zi_set2 ls k.val (.long x)) rest h d kc ks else none) := by
  unfold zi_on
  dsimp only [zi_ask, zi_new, zi_step]
  by_cases c : k.val + 1 < nL
  · simp only [if_pos c]
  · simp only [if_neg c]
theorem zg_ireturn {x : Value} : zi_on ms scr nL ret code mc mS call (some (p, .ireturn, ln, a, b, t, v)) n pc ls [x] h d kc ks = (if zi_retOk ret x then some [(d, some x, h)] else none) := rfl
theorem zg_areturn {x : Nat} : zi_on ms scr nL ret code mc mS call (some (p, .areturn, ln, a, b, t, v)) n pc ls [.ref x] h d kc ks = (if zi_retA ret then some [(d, some (.ref x), h)] else none) := rfl
theorem zg_return : zi_on ms scr nL ret code mc mS call (some (p, .return_, ln, a, b, t, v)) n pc ls [] h d kc ks = (if ret = none then some [(d, none, h)] else none) := rfl
theorem zg_goto {x : Int} : zi_on ms scr nL ret code mc mS call (some (p, .goto x, ln, a, b, t, v)) n pc ls st h d kc ks = zi_go ms scr nL ret code mc mS call n a ls st h d kc ks := rfl
theorem zg_ifCond {c : _} {x : Int} {y : Int32} : zi_on ms scr nL ret code mc mS call (some (p, (.ifCond c x), ln, a, b, t, v)) n pc ls (.int y :: rest) h d kc ks = (if zi_cmp c y 0 then zi_go ms scr nL ret code mc mS call n a ls rest h d kc ks else zi_go ms scr nL ret code mc mS call n (pc + 3) ls rest h d kc ks) := rfl
theorem zg_if_icmp {c : _} {x : Int} {y z : Int32} : zi_on ms scr nL ret code mc mS call (some (p, (.if_icmp c x), ln, a, b, t, v)) n pc ls (.int y :: .int z :: rest) h d kc ks = (if zi_cmp c z y then zi_go ms scr nL ret code mc mS call n a ls rest h d kc ks else zi_go ms scr nL ret code mc mS call n (pc + 3) ls rest h d kc ks) := rfl
theorem zg_invokespecial {j : Nat} : zi_on ms scr nL ret code mc mS call (some (p, .invokespecial j, ln, a, b, t, v)) n pc ls st h d kc ks = (
          if a = 999 then (match st with | .ref (x + 1) :: rest => if rest.length ≤ 4 then zi_go ms scr nL ret code mc mS call n (pc + 3) ls rest h d kc ks else none | _ => none)
          else (match ms[a]? with
            | none => none
            | some mt => if (st.drop b).length ≤ 4 ∧ kc + mt.2.2.2.2.2.1 ≤ mc ∧ ks + mt.2.2.2.2.2.2 ≤ mS ∧ b ≤ st.length ∧ (mt.2.2.2.2.2.1 = 0 ∨ (zi_wfc h.length ls = true ∧ zi_wfl h.length (st.drop b) = true)) then
                (match (st.take b).reverse with
                | .ref (x + 1) :: tl => (match call a (.ref (x + 1) :: tl) h d with
                  | none => none
                  | some [o] => zi_go ms scr nL ret code mc mS call n (pc + 3) ls (o.2.1.toList ++ st.drop b) o.2.2 o.1 (kc + mt.2.2.2.2.2.1) (ks + mt.2.2.2.2.2.2)
                  | some os => zi_bind os (fun o => zi_go ms scr nL ret code mc mS call n (pc + 3) ls (o.2.1.toList ++ st.drop b) o.2.2 o.1 (kc + mt.2.2.2.2.2.1) (ks + mt.2.2.2.2.2.2)))
                | _ => none)
              else none)) := rfl
theorem zg_invokestatic {j : Nat} : zi_on ms scr nL ret code mc mS call (some (p, .invokestatic j, ln, a, b, t, v)) n pc ls st h d kc ks = ( if a = 997 then (match st with
            | .int n0 :: .int dp :: .ref (r1 + 1) :: .int sp :: .ref (r0 + 1) :: rest => if rest.length ≤ 4 then (match zi_cpy h r0 sp r1 dp n0 with
              | some h' => zi_go ms scr nL ret code mc mS call n (pc + 3) ls rest h' d kc ks
              | none => none) else none
            | _ => none)
          else (match ms[a]? with
            | none => none
            | some mt => if (st.drop b).length ≤ 4 ∧ kc + mt.2.2.2.2.2.1 ≤ mc ∧ ks + mt.2.2.2.2.2.2 ≤ mS ∧ b ≤ st.length ∧ (mt.2.2.2.2.2.1 = 0 ∨ (zi_wfc h.length ls = true ∧ zi_wfl h.length (st.drop b) = true)) then
                (match call a (st.take b).reverse h d with
                | none => none
                | some [o] => zi_go ms scr nL ret code mc mS call n (pc + 3) ls (o.2.1.toList ++ st.drop b) o.2.2 o.1 (kc + mt.2.2.2.2.2.1) (ks + mt.2.2.2.2.2.2)
                | some os => zi_bind os (fun o => zi_go ms scr nL ret code mc mS call n (pc + 3) ls (o.2.1.toList ++ st.drop b) o.2.2 o.1 (kc + mt.2.2.2.2.2.1) (ks + mt.2.2.2.2.2.2)))
              else none)) := rfl
theorem zg_invokevirtual {j : Nat} : zi_on ms scr nL ret code mc mS call (some (p, .invokevirtual j, ln, a, b, t, v)) n pc ls st h d kc ks = ( (match ms[a]? with
            | none => none
            | some mt => if (st.drop b).length ≤ 4 ∧ kc + mt.2.2.2.2.2.1 ≤ mc ∧ ks + mt.2.2.2.2.2.2 ≤ mS ∧ b ≤ st.length ∧ (mt.2.2.2.2.2.1 = 0 ∨ (zi_wfc h.length ls = true ∧ zi_wfl h.length (st.drop b) = true)) then
                (match (st.take b).reverse with
                | .ref (x + 1) :: tl => (match h[x]? with
                  | some (t, _) => if (t : Int) =  v ∧ t < 7 then
                    (match call a (.ref (x + 1) :: tl) h d with
                    | none => none
                    | some [o] => zi_go ms scr nL ret code mc mS call n (pc + 3) ls (o.2.1.toList ++ st.drop b) o.2.2 o.1 (kc + mt.2.2.2.2.2.1) (ks + mt.2.2.2.2.2.2)
                    | some os => zi_bind os (fun o => zi_go ms scr nL ret code mc mS call n (pc + 3) ls (o.2.1.toList ++ st.drop b) o.2.2 o.1 (kc + mt.2.2.2.2.2.1) (ks + mt.2.2.2.2.2.2))) else none
                  | none => none)
                | _ => none)
              else none)) := rfl
theorem zg_tableswitch {x lo hi : Int} {offs : Array Int} {y : Int32} : zi_on ms scr nL ret code mc mS call (some (p, (.tableswitch x lo hi offs), ln, a, b, t, v)) n pc ls (.int y :: rest) h d kc ks = (if y.toInt < lo ∨ hi < y.toInt then (if (pc : Int) + x = (((pc : Int) + x).toNat : Int) then zi_go ms scr nL ret code mc mS call n ((pc : Int) + x).toNat ls rest h d kc ks else none) else (match offs[(y.toInt - lo).toNat]? with | some off => if (pc : Int) + off = (((pc : Int) + off).toNat : Int) then zi_go ms scr nL ret code mc mS call n ((pc : Int) + off).toNat ls rest h d kc ks else none | none => none)) := rfl
end ZGL
end
section
/-! Row: window numbers in an order -/
/-- a Row at cell r: its ints at r + 1 -/
noncomputable def zr_at (r : Nat) : Prop := zh_2[r]? = some (1, [.ref (r + 2), .int 0]) ∧ zm_isA 7 (r + 1) 10
noncomputable def zr_cells : List Nat := [3, 5, 34, 8, 69, 94, 124, 149, 179, 204]
theorem zr_at_of : ∀ r ∈ zr_cells, zr_at r := by
  intro r hr
  simp only [zr_cells, List.mem_cons, List.not_mem_nil, or_false] at hr
  rcases hr with rfl | rfl | rfl | rfl | rfl | rfl | rfl | rfl | rfl | rfl <;> exact ⟨by decide +kernel, zm_isA_of (by decide +kernel)⟩
section ZR
variable {μ : zm_M} {r : Nat}
theorem zr_g0 (h : zr_at r) : zi_gf (zm_mk μ) 1 0 r = some (.ref (r + 1 + 1)) := zm_gfr h.1 (by decide) rfl
theorem zr_g1 (h : zr_at r) : zi_gf (zm_mk μ) 1 1 r = some (.int (μ r 1)) := zm_gfi h.1 (by decide) rfl
theorem zr_p1 (h : zr_at r) (x : Int32) : zi_pf (zm_mk μ) 1 1 r (.int x) = some (zm_mk (zm_up μ r 1 x)) := zm_pfi h.1 (by decide) rfl rfl
set_option maxRecDepth 100000 in
/-- size() -/
theorem ze_Row_size (D : Nat) (h : zr_at r) : ze_E (D + 1) A_Row_size [.ref (r + 1)] (zm_mk μ) (some (.int (μ r 1))) (zm_mk μ) := by
  refine ze_enter (nL := 1) (ret := some .int) (code0 := zc_X1_size) rfl (Nat.le_of_ble_eq_true rfl) ⟨0, 10, fun F n _ => ?_⟩
  simp [zg_0, zg_aload_n, zg_getfield, zg_ireturn, zf_X1_size, zi_lda, zi_get, lv_args, Value.category, zr_g1 h, zi_retOk, zi_isI]
set_option maxRecDepth 100000 in
/-- get(i) -/
theorem ze_Row_get (D : Nat) (i : Int32) (h : zr_at r) (hs : μ r 1 ≤ 10) : ze_E (D + 1) A_Row_get [.ref (r + 1), .int i] (zm_mk μ) (some (.int (if 0 ≤ i ∧ i < μ r 1 then μ (r + 1) i.toNatClampNeg else -1))) (zm_mk μ) := by
  refine ze_enter (nL := 2) (ret := some .int) (code0 := zc_X1_get) rfl (Nat.le_of_ble_eq_true rfl) ⟨0, 20, fun F n _ => ?_⟩
  by_cases h1 : i < 0
  · have h2 : ¬ (0 : Int32) ≤ i := Int32.not_le.mpr h1
    simp [zg_0, zg_aload_n, zg_getfield, zg_goto, zg_iaload, zg_iconst, zg_ifCond, zg_if_icmp, zg_iload_n, zg_ireturn, zf_X1_get, zi_ld, zi_lda, zi_get, lv_args, Value.category, zr_g0 h, zr_g1 h, zi_retOk, zi_isI, zi_cmp, h1, h2]
  · have h2 : (0 : Int32) ≤ i := Int32.not_lt.mp h1
    by_cases h3 : μ r 1 ≤ i
    · have h4 : ¬ i < μ r 1 := Int32.not_lt.mpr h3
      simp [zg_0, zg_aload_n, zg_getfield, zg_goto, zg_iaload, zg_iconst, zg_ifCond, zg_if_icmp, zg_iload_n, zg_ireturn, zf_X1_get, zi_ld, zi_lda, zi_get, lv_args, Value.category, zr_g0 h, zr_g1 h, zi_retOk, zi_isI, zi_cmp, h1, h2, h3, h4]
    · have h4 : i < μ r 1 := Int32.not_le.mp h3
      have h5 : zi_in i 10 = true := by
        unfold zi_in
        refine decide_eq_true ?_
        have := vp_in_iff (x := i) (n := 10)
        refine this.mpr ?_
        rw [Int32.le_iff_toInt_le] at h2 hs
        rw [Int32.lt_iff_toInt_lt] at h4
        have e0 : (0 : Int32).toInt = 0 := by decide
        have e10 : (10 : Int32).toInt = 10 := by decide
        omega
      simp [zg_0, zg_aload_n, zg_getfield, zg_goto, zg_iaload, zg_iconst, zg_ifCond, zg_if_icmp, zg_iload_n, zg_ireturn, zf_X1_get, zi_ld, zi_lda, zi_get, lv_args, Value.category, zr_g0 h, zr_g1 h, zi_retOk, zi_isI, zi_cmp, h1, h2, h3, h4, zm_iald (k := 0) h.2 h5]
end ZR
/-- a Row's list -/
noncomputable def zr_L (μ : zm_M) (r : Nat) (l : List Nat) : Prop := l.length ≤ 10 ∧ μ r 1 = nI l.length ∧ ∀ j, j < l.length → μ (r + 1) j = nI (l.getD j 0)
/-- all other cells stay -/
noncomputable def zr_fr (r : Nat) (μ μ' : zm_M) : Prop := ∀ a b, a ≠ r → a ≠ r + 1 → μ' a b = μ a b
theorem zr_fr.refl {r : Nat} {μ : zm_M} : zr_fr r μ μ := fun _ _ _ _ => rfl
theorem zr_fr.trans {r : Nat} {μ ν ξ : zm_M} (h : zr_fr r μ ν) (g : zr_fr r ν ξ) : zr_fr r μ ξ := fun a b h1 h2 => (g a b h1 h2).trans (h a b h1 h2)
/-- the place of k, from i on -/
noncomputable def zr_ix : List Nat → Nat → Nat → Int32
  | [], _, _ => -1
  | x :: xs, k, i => if x = k then nI i else zr_ix xs k (i + 1)
theorem zr_ix_in {k : Nat} : ∀ {l : List Nat} {i : Nat}, k ∈ l → zr_ix l k i = nI (i + l.idxOf k)
  | [], _, h => by cases h
  | x :: xs, i, h => by
    unfold zr_ix
    by_cases e : x = k
    · subst e
      simp
    · rw [if_neg e, zr_ix_in (by rcases List.mem_cons.mp h with h | h; exact absurd h.symm e; exact h), List.idxOf_cons, show (x == k) = false from by simpa using e]
      dsimp only [cond_false]
      congr 1
      omega
theorem zr_ix_out {k : Nat} : ∀ {l : List Nat} {i : Nat}, k ∉ l → zr_ix l k i = -1
  | [], _, _ => rfl
  | x :: xs, i, h => by
    unfold zr_ix
    rw [if_neg (fun e => h (by rw [e]; exact List.mem_cons_self)), zr_ix_out (fun g => h (List.mem_cons_of_mem _ g))]
section ZR2
variable {μ : zm_M} {r : Nat} {l : List Nat}
set_option maxRecDepth 100000 in
theorem zr_placeOf_loop (D : Nat) (h : zr_at r) (hl : zr_L μ r l) (hb : ∀ x ∈ l, x < 10) {k : Nat} (hk : k < 10) :
    ∀ (m i : Nat) (L : zi_Lc), i + m = l.length → zi_get L 0 = some (.ref (r + 1)) → zi_get L 1 = some (.int (nI k)) → zi_get L 2 = some (.int (nI i)) →
      ze_G D 3 (some .int) zc_X1_placeOf 2 L [] (zm_mk μ) (some (.int (zr_ix (l.drop i) k i))) (zm_mk μ) := by
  intro m
  induction m with
  | zero =>
    intro i L him g0 g1 g2
    have e : i = l.length := by omega
    subst e
    rw [List.drop_length]
    refine ⟨0, 10, fun F n _ => ?_⟩
    simp [zg_0, zg_aload_n, zg_getfield, zg_goto, zg_iaload, zg_iconst, zg_if_icmp, zg_iinc, zg_iload_n, zg_ireturn, zg_istore_n, zf_X1_placeOf, zi_ld, zi_lda, g0, g1, g2, zr_g1 h, hl.2.1, zi_cmp, zi_retOk, zi_isI, zr_ix]
  | succ m ih =>
    intro i L him g0 g1 g2
    have hi : i < l.length := by omega
    have hn : ¬ nI l.length ≤ nI i := nI_ge hi (by have := hl.1; omega)
    have hin : zi_in (nI i) 10 = true := zm_in (by have := hl.1; omega) (by decide)
    have hit : μ (r + 1) (nI i).toNatClampNeg = nI (l.getD i 0) := by rw [nI_clamp (by have := hl.1; omega)]; exact hl.2.2 i hi
    have hdr : l.drop i = l.getD i 0 :: l.drop (i + 1) := by
      rw [List.drop_eq_getElem_cons hi, List.getD_eq_getElem?_getD, List.getElem?_eq_getElem hi]
      rfl
    have hx : l.getD i 0 < 10 := hb _ (by rw [List.getD_eq_getElem?_getD, List.getElem?_eq_getElem hi]; exact List.getElem_mem hi)
    rw [hdr]
    generalize l.getD i 0 = x at hit hx ⊢
    unfold zr_ix
    by_cases e : x = k
    · rw [if_pos e]
      refine ⟨0, 20, fun F n _ => ?_⟩
      simp [zg_0, zg_aload_n, zg_getfield, zg_goto, zg_iaload, zg_iconst, zg_if_icmp, zg_iinc, zg_iload_n, zg_ireturn, zg_istore_n, zf_X1_placeOf, zi_ld, zi_lda, g0, g1, g2, zr_g0 h, zr_g1 h, hl.2.1, zi_cmp, zi_retOk, zi_isI, hn, zm_iald (k := 0) h.2 hin, hit, e]
    · rw [if_neg e]
      have ne : ¬ nI x = nI k := fun q => e ((nI_eq (by omega) (by omega)).mp q)
      have e1 : nI i + Int32.ofInt 1 = nI (i + 1) := nI_1 i
      refine ze_S.end (p2 := 2) (L2 := zi_set L 2 (.int (nI (i + 1)))) (s2 := []) (h2 := zm_mk μ) ⟨0, 12, fun F n _ => ?_⟩ (ih (i + 1) _ (by omega) (zi_get_set_ne (by decide) g0 rfl) (zi_get_set_ne (by decide) g1 rfl) zi_get_set_eq)
      simp [zg_0, zg_aload_n, zg_getfield, zg_goto, zg_iaload, zg_iconst, zg_if_icmp, zg_iinc, zg_iload_n, zg_ireturn, zg_istore_n, zf_X1_placeOf, zi_ld, zi_lda, g0, g1, g2, zr_g0 h, zr_g1 h, hl.2.1, zi_cmp, zi_retOk, zi_isI, hn, zm_iald (k := 0) h.2 hin, hit, ne, nI_1]
set_option maxRecDepth 100000 in
/-- placeOf(k) -/
theorem ze_Row_placeOf (D : Nat) (h : zr_at r) (hl : zr_L μ r l) (hb : ∀ x ∈ l, x < 10) {k : Nat} (hk : k < 10) : ze_E (D + 1) A_Row_placeOf [.ref (r + 1), .int (nI k)] (zm_mk μ) (some (.int (zr_ix l k 0))) (zm_mk μ) := by
  refine ze_enter (nL := 3) (ret := some .int) (code0 := zc_X1_placeOf) zq_Row_placeOf (Nat.le_of_ble_eq_true rfl) ?_
  refine ze_S.end (p2 := 2) (L2 := [(2, .int (nI 0)), (0, .ref (r + 1)), (1, .int (nI k))]) (s2 := []) (h2 := zm_mk μ) ⟨0, 2, fun F n _ => ?_⟩ (zr_placeOf_loop D h hl hb hk l.length 0 _ (by omega) rfl rfl rfl)
  simp [zg_0, zg_aload_n, zg_getfield, zg_goto, zg_iaload, zg_iconst, zg_if_icmp, zg_iinc, zg_iload_n, zg_ireturn, zg_istore_n, zf_X1_placeOf, lv_args, Value.category, zi_isI, zi_set, nI_0]
end ZR2
end
section
/-! Row: its changes -/
section ZR3
variable {μ : zm_M} {r : Nat} {l : List Nat}
theorem zr_c (h : zr_at r) : (zm_mk μ)[r]? = some (1, [.ref (r + 2), .int (μ r 1)]) := zm_get h.1
/-- the ints of the row from p to i moved down by one -/
noncomputable def zr_sh (μ : zm_M) (r p i : Nat) : zm_M := fun a b => if a = r + 1 ∧ p ≤ b ∧ b < i then μ a (b + 1) else μ a b
theorem zr_sh_0 {p : Nat} : zr_sh μ r p p = μ := by
  funext a b
  unfold zr_sh
  rw [if_neg (by omega)]
theorem zr_sh_s {p i : Nat} (hp : p ≤ i) : zm_up (zr_sh μ r p i) (r + 1) i (μ (r + 1) (i + 1)) = zr_sh μ r p (i + 1) := by
  funext a b
  unfold zm_up zr_sh
  by_cases e : a = r + 1 ∧ b = i
  · obtain ⟨rfl, rfl⟩ := e
    rw [if_pos ⟨rfl, rfl⟩, if_pos ⟨rfl, hp, by omega⟩]
  · rw [if_neg e]
    by_cases e2 : a = r + 1 ∧ p ≤ b ∧ b < i
    · rw [if_pos e2, if_pos ⟨e2.1, e2.2.1, by omega⟩]
    · rw [if_neg e2, if_neg (by omega)]
set_option maxRecDepth 100000 in
theorem zr_takeOut_loop (D : Nat) (h : zr_at r) {p n0 : Nat} (hn : n0 < 10) (hs : μ r 1 = nI n0) :
    ∀ (m i : Nat) (L : zi_Lc), i + m = n0 → p ≤ i → zi_get L 0 = some (.ref (r + 1)) → zi_get L 3 = some (.int (nI i)) →
      ze_G D 4 none zc_X1_takeOut 23 L [] (zm_mk (zr_sh μ r p i)) none (zm_mk (zr_sh μ r p n0)) := by
  intro m
  induction m with
  | zero =>
    intro i L him hp g0 g3
    have e : i = n0 := by omega
    subst e
    have hs' : zr_sh μ r p i r 1 = nI i := by
      unfold zr_sh
      rw [if_neg (by omega)]
      exact hs
    refine ⟨0, 10, fun F n _ => ?_⟩
    simp [zg_0, zg_aload_n, zg_dup, zg_getfield, zg_goto, zg_iadd, zg_iaload, zg_iastore, zg_iconst, zg_ifCond, zg_if_icmp, zg_iinc, zg_iload_n, zg_invokevirtual, zg_istore_n, zg_isub, zg_putfield, zg_return, zf_X1_takeOut, zi_ld, zi_lda, zi_cmp, zi_retOk, zi_isI, zi_f3, zi_cr, zi_ci, zi_cn, g0, g3, zr_g1 h, hs']
  | succ m ih =>
    intro i L him hp g0 g3
    have hs' : zr_sh μ r p i r 1 = nI n0 := by
      unfold zr_sh
      rw [if_neg (by omega)]
      exact hs
    have hc : ¬ nI n0 ≤ nI i := nI_ge (by omega) (by omega)
    have hin : zi_in (nI i) 10 = true := zm_in (by omega) (by decide)
    have hin1 : zi_in (nI (i + 1)) 10 = true := zm_in (by omega) (by decide)
    have ev : zr_sh μ r p i (r + 1) (nI (i + 1)).toNatClampNeg = μ (r + 1) (i + 1) := by
      rw [nI_clamp (by omega)]
      unfold zr_sh
      rw [if_neg (by omega)]
    have eu : zm_up (zr_sh μ r p i) (r + 1) (nI i).toNatClampNeg (μ (r + 1) (i + 1)) = zr_sh μ r p (i + 1) := by
      rw [nI_clamp (by omega)]
      exact zr_sh_s hp
    refine ze_S.end (p2 := 23) (L2 := zi_set L 3 (.int (nI (i + 1)))) (s2 := []) (h2 := zm_mk (zr_sh μ r p (i + 1))) ⟨0, 16, fun F n _ => ?_⟩ (ih (i + 1) _ (by omega) (by omega) (zi_get_set_ne (by decide) g0 rfl) zi_get_set_eq)
    simp [zg_0, zg_aload_n, zg_dup, zg_getfield, zg_goto, zg_iadd, zg_iaload, zg_iastore, zg_iconst, zg_ifCond, zg_if_icmp, zg_iinc, zg_iload_n, zg_invokevirtual, zg_istore_n, zg_isub, zg_putfield, zg_return, zf_X1_takeOut, zi_ld, zi_lda, zi_cmp, zi_retOk, zi_isI, zi_f3, zi_cr, zi_ci, zi_cn, g0, g3, zr_g0 h, zr_g1 h, hs', hc, nI_1, zm_iald (k := 0) h.2 hin1, ev, zm_iast h.2 hin, eu]
theorem zr_erase {k : Nat} (hl : zr_L μ r l) (hk : k ∈ l) : zr_L (zr_sh (zm_up μ r 1 (nI (l.length - 1))) r (l.idxOf k) (l.length - 1)) r (l.erase k) := by
  have hlen : (l.erase k).length = l.length - 1 := List.length_erase_of_mem hk
  have hp : l.idxOf k < l.length := List.idxOf_lt_length_of_mem hk
  refine ⟨by rw [hlen]; have := hl.1; omega, ?_, fun j hj => ?_⟩
  · unfold zr_sh
    rw [if_neg (by omega), zm_up_eq, hlen]
  · rw [hlen] at hj
    have he : l.erase k = l.eraseIdx (l.idxOf k) := List.erase_eq_eraseIdx_of_idxOf rfl
    rw [he, List.getD_eq_getElem?_getD, List.getElem?_eraseIdx]
    unfold zr_sh
    by_cases c : j < l.idxOf k
    · rw [if_neg (by omega), if_pos c, zm_up_ne (by omega), ← List.getD_eq_getElem?_getD]
      exact hl.2.2 j (by omega)
    · rw [if_pos ⟨rfl, by omega, hj⟩, if_neg c, zm_up_ne (by omega), ← List.getD_eq_getElem?_getD]
      exact hl.2.2 (j + 1) (by omega)
set_option maxRecDepth 100000 in
/-- takeOut(k) -/
theorem ze_Row_takeOut (D : Nat) (h : zr_at r) (hl : zr_L μ r l) (hb : ∀ x ∈ l, x < 10) {k : Nat} (hk : k < 10) :
    ∃ μ', ze_E (D + 2) A_Row_takeOut [.ref (r + 1), .int (nI k)] (zm_mk μ) none (zm_mk μ') ∧ zr_L μ' r (l.erase k) ∧ zr_fr r μ μ' := by
  obtain ⟨N, hc⟩ := ze_Row_placeOf D h hl hb hk
  by_cases hm : k ∈ l
  · have hp : l.idxOf k < l.length := List.idxOf_lt_length_of_mem hm
    have h10 := hl.1
    rw [zr_ix_in hm, Nat.zero_add] at hc
    have hpos : (0 : Int32) ≤ nI (l.idxOf k) := nI_pos' (by omega)
    have hsub : nI l.length - 1 = nI (l.length - 1) := by
      obtain ⟨q, hq⟩ : ∃ q, l.length = q + 1 := ⟨l.length - 1, by omega⟩
      rw [hq]
      exact nI_pred q
    refine ⟨_, ?_, zr_erase hl hm, fun a b h1 h2 => ?_⟩
    · refine ze_in [(0, .ref (r + 1)), (1, .int (nI k))] zq_Row_takeOut (Nat.le_of_ble_eq_true rfl) rfl ?_
      have hloop := zr_takeOut_loop (D + 1) (μ := zm_up μ r 1 (nI (l.length - 1))) h (p := l.idxOf k) (n0 := l.length - 1) (by omega) zm_up_eq (l.length - 1 - l.idxOf k) (l.idxOf k) [(3, .int (nI (l.idxOf k))), (2, .int (nI (l.idxOf k))), (0, .ref (r + 1)), (1, .int (nI k))] (by omega) (Nat.le_refl _) rfl rfl
      rw [zr_sh_0] at hloop
      refine ze_S.end (p2 := 23) (L2 := _) (s2 := []) (h2 := _) ⟨N, 14, fun F n hF => ?_⟩ hloop
      simp [zg_0, zg_aload_n, zg_dup, zg_getfield, zg_goto, zg_iadd, zg_iaload, zg_iastore, zg_iconst, zg_ifCond, zg_if_icmp, zg_iinc, zg_iload_n, zg_invokevirtual, zg_istore_n, zg_isub, zg_putfield, zg_return, zf_X1_takeOut, zi_ld, zi_lda, zi_cmp, zi_retOk, zi_isI, zi_f3, zi_cr, zi_ci, zi_cn, zi_get, zi_set, zq_Row_placeOf, zr_c h, hc F hF, hpos, zr_g1 h, hl.2.1, hsub, zr_p1 h]
    · unfold zr_sh
      rw [if_neg (by omega), zm_up_ne (by omega)]
  · rw [zr_ix_out hm] at hc
    refine ⟨μ, ?_, by rw [List.erase_of_not_mem hm]; exact hl, zr_fr.refl⟩
    refine ze_in [(0, .ref (r + 1)), (1, .int (nI k))] zq_Row_takeOut (Nat.le_of_ble_eq_true rfl) rfl ⟨N, 10, fun F n hF => ?_⟩
    have hneg : ¬ (0 : Int32) ≤ -1 := by decide
    simp [zg_0, zg_aload_n, zg_dup, zg_getfield, zg_goto, zg_iadd, zg_iaload, zg_iastore, zg_iconst, zg_ifCond, zg_if_icmp, zg_iinc, zg_iload_n, zg_invokevirtual, zg_istore_n, zg_isub, zg_putfield, zg_return, zf_X1_takeOut, zi_ld, zi_lda, zi_cmp, zi_retOk, zi_isI, zi_f3, zi_cr, zi_ci, zi_cn, zi_get, zi_set, zq_Row_placeOf, zr_c h, hc F hF, hneg]
set_option maxRecDepth 100000 in
/-- clear() -/
theorem ze_Row_clear (D : Nat) (h : zr_at r) : ze_E (D + 1) A_Row_clear [.ref (r + 1)] (zm_mk μ) none (zm_mk (zm_up μ r 1 0)) := by
  refine ze_in [(0, .ref (r + 1))] zq_Row_clear (Nat.le_of_ble_eq_true rfl) rfl ⟨0, 10, fun F n hF => ?_⟩
  simp [zg_0, zg_aload_n, zg_iconst, zg_putfield, zg_return, zf_X1_clear, zi_ld, zi_lda, zi_cmp, zi_retOk, zi_isI, zi_f3, zi_cr, zi_ci, zi_cn, zi_get, zr_p1 h]
theorem zr_clear (h : zr_at r) : zr_L (zm_up μ r 1 0) r [] ∧ zr_fr r μ (zm_up μ r 1 0) := ⟨⟨Nat.zero_le _, zm_up_eq, fun j hj => by cases hj⟩, fun a b h1 h2 => zm_up_ne (by omega)⟩
set_option maxRecDepth 100000 in
/-- append(k) -/
theorem ze_Row_append (D : Nat) (h : zr_at r) (hl : zr_L μ r l) (hn : l.length < 10) (k : Nat) :
    ∃ μ', ze_E (D + 1) A_Row_append [.ref (r + 1), .int (nI k)] (zm_mk μ) none (zm_mk μ') ∧ zr_L μ' r (l ++ [k]) ∧ zr_fr r μ μ' := by
  refine ⟨zm_up (zm_up μ (r + 1) l.length (nI k)) r 1 (nI (l.length + 1)), ?_, ⟨by simp; omega, by rw [zm_up_eq]; simp, fun j hj => ?_⟩, fun a b h1 h2 => ?_⟩
  · refine ze_in [(0, .ref (r + 1)), (1, .int (nI k))] zq_Row_append (Nat.le_of_ble_eq_true rfl) rfl ⟨0, 30, fun F n hF => ?_⟩
    have hc : ¬ (10 : Int32) ≤ nI l.length := nI_ge (b := 10) hn (by decide)
    have hin : zi_in (nI l.length) 10 = true := zm_in hn (by decide)
    have hcl : (nI l.length).toNatClampNeg = l.length := nI_clamp (by omega)
    have hs2 : zm_up μ (r + 1) l.length (nI k) r 1 = nI l.length := by rw [zm_up_ne (by omega)]; exact hl.2.1
    have h10 : (Int8.ofInt 10).toInt32 = (10 : Int32) := by decide
    simp [zg_0, zg_aload_n, zg_bipush, zg_dup, zg_getfield, zg_iadd, zg_iastore, zg_iconst, zg_if_icmp, zg_iload_n, zg_putfield, zg_return, zf_X1_append, zi_ld, zi_lda, zi_cmp, zi_retOk, zi_isI, zi_f3, zi_cr, zi_ci, zi_cn, zi_get, zr_g0 h, zr_g1 h, hl.2.1, hc, zm_iast h.2 hin, hcl, hs2, nI_1, zr_p1 h, h10]
  · simp only [List.length_append, List.length_singleton] at hj
    by_cases e : j < l.length
    · rw [zm_up_ne (by omega), zm_up_ne (by omega), hl.2.2 j e, List.getD_eq_getElem?_getD, List.getD_eq_getElem?_getD, List.getElem?_append_left e]
    · have e2 : j = l.length := by omega
      subst e2
      rw [zm_up_ne (by omega), zm_up_eq]
      simp
  · rw [zm_up_ne (by omega), zm_up_ne (by omega)]
set_option maxRecDepth 100000 in
/-- putLast(k) -/
theorem ze_Row_putLast (D : Nat) (h : zr_at r) (hl : zr_L μ r l) (hb : ∀ x ∈ l, x < 10) {k : Nat} (hk : k < 10) (hn : (l.erase k).length < 10) :
    ∃ μ', ze_E (D + 3) A_Row_putLast [.ref (r + 1), .int (nI k)] (zm_mk μ) none (zm_mk μ') ∧ zr_L μ' r (l.erase k ++ [k]) ∧ zr_fr r μ μ' := by
  obtain ⟨ν, ⟨N, h1⟩, h2, h3⟩ := ze_Row_takeOut D h hl hb hk
  obtain ⟨ξ, ⟨M, g1⟩, g2, g3⟩ := ze_Row_append (D + 1) h h2 hn k
  refine ⟨ξ, ?_, g2, h3.trans g3⟩
  refine ze_in [(0, .ref (r + 1)), (1, .int (nI k))] zq_Row_putLast (Nat.le_of_ble_eq_true rfl) rfl ⟨N + M, 10, fun F n hF => ?_⟩
  simp [zg_0, zg_aload_n, zg_iload_n, zg_invokevirtual, zg_return, zf_X1_putLast, zi_ld, zi_lda, zi_cmp, zi_retOk, zi_isI, zi_f3, zi_cr, zi_ci, zi_cn, zi_get, zq_Row_takeOut, zq_Row_append, zr_c h, h1 F (by omega), g1 F (by omega)]
end ZR3
end
section
/-! Row: putFirst, copyFrom; copies of whole arrays -/
noncomputable def zm_cp (μ : zm_M) (i0 i1 : Nat) : zm_M := fun a b => if a = i1 then μ i0 b else μ a b
theorem zm_cpy {μ : zm_M} {i0 i1 n : Nat} {x : Int32} (h0 : zm_isA 7 i0 n) (h1 : zm_isA 7 i1 n) (hx : x = nI n) (hn : n < 2 ^ 31) : zi_cpy (zm_mk μ) i0 0 i1 0 x = some (zm_mk (zm_cp μ i0 i1)) := by
  obtain ⟨l0, a0, a1, a2⟩ := h0
  obtain ⟨l1, c0, c1, c2⟩ := h1
  subst hx
  have hz : (0 : Int32).toNatClampNeg = 0 := by decide
  have hcl : (nI n).toNatClampNeg = n := nI_clamp hn
  have hneg : ¬ nI n < 0 := nI_pos hn
  have h00 : ¬ (0 : Int32) < 0 := by decide
  unfold zi_cpy
  simp only [zm_get a0, zm_get c0]
  rw [if_neg (by rw [hz, hcl, List.length_mapIdx, List.length_mapIdx, a1, c1]; simp [h00, hneg])]
  refine congrArg some ?_
  rw [hz, hcl]
  apply List.ext_getElem?
  intro a
  rw [List.getElem?_set]
  have hi : i1 < zh_2.length := (List.getElem?_eq_some_iff.mp c0).1
  by_cases e : i1 = a
  · subst e
    rw [if_pos rfl, if_pos (by unfold zm_mk; rw [List.length_mapIdx]; exact hi), zm_get c0]
    congr 2
    apply List.ext_getElem?
    intro b
    simp only [List.take_zero, List.nil_append, List.drop_zero, Nat.zero_add]
    by_cases hb : b < n
    · obtain ⟨y0, e0⟩ := a2 b hb
      obtain ⟨y1, e1⟩ := c2 b hb
      rw [List.getElem?_append_left (by rw [List.length_take, List.length_mapIdx]; omega), List.getElem?_take, if_pos hb, List.getElem?_mapIdx, List.getElem?_mapIdx, e0, e1]
      simp [zm_v, zm_cp]
    · rw [List.getElem?_eq_none (by simp only [List.length_append, List.length_take, List.length_drop, List.length_mapIdx]; omega), List.getElem?_eq_none (by rw [List.length_mapIdx]; omega)]
  · rw [if_neg e]
    unfold zm_mk
    rw [List.getElem?_mapIdx, List.getElem?_mapIdx]
    cases zh_2[a]? with
    | none => rfl
    | some c =>
      simp only [Option.map_some]
      congr 2
      apply List.ext_getElem?
      intro b
      rw [List.getElem?_mapIdx, List.getElem?_mapIdx]
      cases c.2[b]? with
      | none => rfl
      | some v =>
        simp only [Option.map_some]
        congr 1
        unfold zm_v
        cases v <;> first | rfl | (unfold zm_cp; rw [if_neg (fun q => e q.symm)])
section ZR4
variable {μ : zm_M} {r : Nat} {l : List Nat}
/-- the ints of the row above i moved up by one -/
noncomputable def zr_sr (μ : zm_M) (r i n : Nat) : zm_M := fun a b => if a = r + 1 ∧ i < b ∧ b < n then μ a (b - 1) else μ a b
theorem zr_sr_0 {n : Nat} : zr_sr μ r (n - 1) n = μ := by
  funext a b
  unfold zr_sr
  rw [if_neg (by omega)]
theorem zr_sr_s {i n : Nat} (hi : i + 1 < n) : zm_up (zr_sr μ r (i + 1) n) (r + 1) (i + 1) (μ (r + 1) i) = zr_sr μ r i n := by
  funext a b
  unfold zm_up zr_sr
  by_cases e : a = r + 1 ∧ b = i + 1
  · obtain ⟨rfl, rfl⟩ := e
    rw [if_pos ⟨rfl, rfl⟩, if_pos ⟨rfl, by omega, hi⟩]
    rfl
  · rw [if_neg e]
    by_cases e2 : a = r + 1 ∧ i + 1 < b ∧ b < n
    · rw [if_pos e2, if_pos ⟨e2.1, by omega, e2.2.2⟩]
    · rw [if_neg e2, if_neg (by omega)]
set_option maxRecDepth 100000 in
theorem zr_putFirst_loop (D : Nat) (h : zr_at r) {n0 : Nat} (hn : n0 ≤ 10) (h1 : 1 ≤ n0) (x : Int32) :
    ∀ (i : Nat) (L : zi_Lc), i < n0 → zi_get L 0 = some (.ref (r + 1)) → zi_get L 1 = some (.int x) → zi_get L 2 = some (.int (nI i)) →
      ze_G D 3 none zc_X1_putFirst 12 L [] (zm_mk (zr_sr μ r i n0)) none (zm_mk (zm_up (zr_sr μ r 0 n0) (r + 1) 0 x)) := by
  intro i
  induction i with
  | zero =>
    intro L hi g0 g1 g2
    have hin : zi_in 0 10 = true := zm_in (k := 0) (by decide) (by decide)
    have hz : (0 : Int32).toNatClampNeg = 0 := by decide
    rw [nI_0] at g2
    refine ⟨0, 10, fun F n _ => ?_⟩
    simp [zg_0, zg_aload_n, zg_getfield, zg_goto, zg_iaload, zg_iastore, zg_iconst, zg_ifCond, zg_iinc, zg_iload_n, zg_invokevirtual, zg_istore_n, zg_isub, zg_return, zf_X1_putFirst, zi_ld, zi_lda, zi_cmp, zi_retOk, zi_isI, zi_f3, zi_cr, zi_ci, zi_cn, g0, g1, g2, zr_g0 h, zm_iast h.2 hin, hz]
  | succ i ih =>
    intro L hi g0 g1 g2
    have hc : ¬ nI (i + 1) ≤ 0 := nI_nle (by omega) (by omega)
    have hin : zi_in (nI i) 10 = true := zm_in (by omega) (by decide)
    have hin1 : zi_in (nI (i + 1)) 10 = true := zm_in (by omega) (by decide)
    have ev : zr_sr μ r (i + 1) n0 (r + 1) (nI i).toNatClampNeg = μ (r + 1) i := by
      rw [nI_clamp (by omega)]
      unfold zr_sr
      rw [if_neg (by omega)]
    have eu : zm_up (zr_sr μ r (i + 1) n0) (r + 1) (nI (i + 1)).toNatClampNeg (μ (r + 1) i) = zr_sr μ r i n0 := by
      rw [nI_clamp (by omega)]
      exact zr_sr_s hi
    refine ze_S.end (p2 := 12) (L2 := zi_set L 2 (.int (nI i))) (s2 := []) (h2 := zm_mk (zr_sr μ r i n0)) ⟨0, 14, fun F n _ => ?_⟩ (ih _ (by omega) (zi_get_set_ne (by decide) g0 rfl) (zi_get_set_ne (by decide) g1 rfl) zi_get_set_eq)
    simp [zg_0, zg_aload_n, zg_getfield, zg_goto, zg_iaload, zg_iastore, zg_iconst, zg_ifCond, zg_iinc, zg_iload_n, zg_invokevirtual, zg_istore_n, zg_isub, zg_return, zf_X1_putFirst, zi_ld, zi_lda, zi_cmp, zi_retOk, zi_isI, zi_f3, zi_cr, zi_ci, zi_cn, g0, g1, g2, zr_g0 h, hc, nI_pred, pk_m1, zm_iald (k := 0) h.2 hin, ev, zm_iast h.2 hin1, eu]
set_option maxRecDepth 100000 in
/-- putFirst(k) -/
theorem ze_Row_putFirst (D : Nat) (h : zr_at r) (hl : zr_L μ r l) (hb : ∀ x ∈ l, x < 10) {k : Nat} (hk : k < 10) (hn : (l.erase k).length < 10) :
    ∃ μ', ze_E (D + 4) A_Row_putFirst [.ref (r + 1), .int (nI k)] (zm_mk μ) none (zm_mk μ') ∧ zr_L μ' r (k :: l.erase k) ∧ zr_fr r μ μ' := by
  obtain ⟨ν, ⟨N, h1⟩, h2, h3⟩ := ze_Row_putLast D h hl hb hk hn
  have hlen : (l.erase k ++ [k]).length = (l.erase k).length + 1 := by simp
  have hsz : ν r 1 = nI ((l.erase k).length + 1) := by rw [← hlen]; exact h2.2.1
  refine ⟨zm_up (zr_sr ν r 0 ((l.erase k).length + 1)) (r + 1) 0 (nI k), ?_, ⟨by simp; omega, ?_, fun j hj => ?_⟩, fun a b q1 q2 => ?_⟩
  · refine ze_in [(0, .ref (r + 1)), (1, .int (nI k))] zq_Row_putFirst (Nat.le_of_ble_eq_true rfl) rfl ?_
    have hloop := zr_putFirst_loop (μ := ν) (D + 3) h (n0 := (l.erase k).length + 1) (by omega) (by omega) (nI k) (l.erase k).length [(2, .int (nI (l.erase k).length)), (0, .ref (r + 1)), (1, .int (nI k))] (by omega) rfl rfl rfl
    rw [show zr_sr ν r (l.erase k).length ((l.erase k).length + 1) = ν from zr_sr_0 (n := (l.erase k).length + 1)] at hloop
    refine ze_S.end (p2 := 12) (L2 := _) (s2 := []) (h2 := _) ⟨N, 8, fun F n hF => ?_⟩ hloop
    simp [zg_0, zg_aload_n, zg_getfield, zg_goto, zg_iaload, zg_iastore, zg_iconst, zg_ifCond, zg_iinc, zg_iload_n, zg_invokevirtual, zg_istore_n, zg_isub, zg_return, zf_X1_putFirst, zi_ld, zi_lda, zi_cmp, zi_retOk, zi_isI, zi_f3, zi_cr, zi_ci, zi_cn, zi_get, zi_set, zq_Row_putLast, zr_c h, h1 F hF, zr_g1 h, hsz, nI_pred]
  · rw [zm_up_ne (by omega)]
    unfold zr_sr
    rw [if_neg (by omega), hsz]
    simp
  · have hj : j < (l.erase k).length + 1 := by simpa using hj
    cases j with
    | zero =>
      rw [zm_up_eq]
      rfl
    | succ j =>
      rw [zm_up_ne (by omega)]
      unfold zr_sr
      rw [if_pos ⟨rfl, by omega, hj⟩]
      have := h2.2.2 j (by rw [hlen]; omega)
      rw [show j + 1 - 1 = j from rfl, this, List.getD_eq_getElem?_getD, List.getElem?_append_left (by omega)]
      rfl
  · rw [zm_up_ne (by omega)]
    unfold zr_sr
    rw [if_neg (by omega)]
    exact h3 a b q1 q2
set_option maxRecDepth 100000 in
/-- copyFrom(other) -/
theorem ze_Row_copyFrom (D : Nat) {q : Nat} (h : zr_at r) (hq : zr_at q) (hd : q ≠ r + 1) (hd2 : q ≠ r) (hl : zr_L μ q l) :
    ∃ μ', ze_E (D + 1) A_Row_copyFrom [.ref (r + 1), .ref (q + 1)] (zm_mk μ) none (zm_mk μ') ∧ zr_L μ' r l ∧ zr_fr r μ μ' := by
  refine ⟨zm_up (zm_cp μ (q + 1) (r + 1)) r 1 (μ q 1), ?_, ⟨hl.1, by rw [zm_up_eq]; exact hl.2.1, fun j hj => ?_⟩, fun a b q1 q2 => ?_⟩
  · refine ze_in [(0, .ref (r + 1)), (1, .ref (q + 1))] zq_Row_copyFrom (Nat.le_of_ble_eq_true rfl) rfl ⟨0, 20, fun F n hF => ?_⟩
    have h10 : (Int8.ofInt 10).toInt32 = (10 : Int32) := by decide
    have hcp := zm_cpy (μ := μ) (x := 10) hq.2 h.2 (by decide) (by decide)
    have hs : zm_cp μ (q + 1) (r + 1) q 1 = μ q 1 := by unfold zm_cp; rw [if_neg hd]
    simp [zg_0, zg_aload_n, zg_bipush, zg_getfield, zg_iconst, zg_invokestatic, zg_putfield, zg_return, zf_X1_copyFrom, zi_ld, zi_lda, zi_cmp, zi_retOk, zi_isI, zi_f3, zi_cr, zi_ci, zi_cn, zi_get, zr_g0 h, zr_g0 hq, zr_g1 hq, h10, hcp, hs, zr_p1 h]
  · rw [zm_up_ne (by omega)]
    unfold zm_cp
    rw [if_pos rfl]
    exact hl.2.2 j hj
  · rw [zm_up_ne (by omega)]
    unfold zm_cp
    rw [if_neg q2]
end ZR4
end
section
/-! Math, between, Window -/
noncomputable def zb (p : Prop) [Decidable p] : Int32 := if p then 1 else 0
noncomputable def zi_mx (x y : Int32) : Int32 := if x < y then y else x
noncomputable def zi_mn (x y : Int32) : Int32 := if y < x then y else x
noncomputable def zi_bt (lo v hi : Int32) : Int32 := zi_mx lo (zi_mn v hi)
section ZW1
variable {μ : zm_M} {h : zi_Hp}
set_option maxRecDepth 100000 in
theorem ze_max (D : Nat) (x y : Int32) : ze_E (D + 1) A_Math_max [.int x, .int y] h (some (.int (zi_mx x y))) h := by
  refine ze_in [(0, .int x), (1, .int y)] zq_Math_max (Nat.le_of_ble_eq_true rfl) rfl ⟨0, 10, fun F n hF => ?_⟩
  by_cases c : x < y <;> simp [zg_0, zg_goto, zg_if_icmp, zg_iload_n, zg_ireturn, zf_J9_max_7cf53, zi_ld, zi_lda, zi_cmp, zi_retOk, zi_isI, zi_f3, zi_cr, zi_ci, zi_cn, zi_get, zi_mx, c]
set_option maxRecDepth 100000 in
theorem ze_min (D : Nat) (x y : Int32) : ze_E (D + 1) A_Math_min [.int x, .int y] h (some (.int (zi_mn x y))) h := by
  refine ze_in [(0, .int x), (1, .int y)] zq_Math_min (Nat.le_of_ble_eq_true rfl) rfl ⟨0, 10, fun F n hF => ?_⟩
  by_cases c : y < x <;> simp [zg_0, zg_goto, zg_if_icmp, zg_iload_n, zg_ireturn, zf_J9_min_7cf53, zi_ld, zi_lda, zi_cmp, zi_retOk, zi_isI, zi_f3, zi_cr, zi_ci, zi_cn, zi_get, zi_mn, c]
set_option maxRecDepth 100000 in
theorem ze_between (D : Nat) (x y z : Int32) : ze_E (D + 2) A_Desk_between [.int x, .int y, .int z] h (some (.int (zi_bt x y z))) h := by
  obtain ⟨N, h1⟩ := ze_min (h := h) D y z
  obtain ⟨M, h2⟩ := ze_max (h := h) D x (zi_mn y z)
  refine ze_in [(0, .int x), (1, .int y), (2, .int z)] zq_Desk_between (Nat.le_of_ble_eq_true rfl) rfl ⟨N + M, 10, fun F n hF => ?_⟩
  simp [zg_0, zg_iload_n, zg_invokestatic, zg_ireturn, zf_X5_between, zi_ld, zi_lda, zi_cmp, zi_retOk, zi_isI, zi_f3, zi_cr, zi_ci, zi_cn, zi_get, zi_bt, zq_Math_min, zq_Math_max, h1 F (by omega), h2 F (by omega)]
/-- a Window at cell w -/
noncomputable def zw_at (w : Nat) : Prop := zh_2[w]? = some (4, [.ref (w + 2), .ref (w + 3), .int 0, .int 0, .int (-1), .int (-1)]) ∧ zm_isA 7 (w + 1) 2 ∧ zm_isA 7 (w + 2) 2
theorem zw_at_of : ∀ k, k < 10 → zw_at (36 + 3 * k) := by
  intro k hk
  match k, hk with
  | 0, _ => exact ⟨by decide +kernel, zm_isA_of (by decide +kernel), zm_isA_of (by decide +kernel)⟩
  | 1, _ => exact ⟨by decide +kernel, zm_isA_of (by decide +kernel), zm_isA_of (by decide +kernel)⟩
  | 2, _ => exact ⟨by decide +kernel, zm_isA_of (by decide +kernel), zm_isA_of (by decide +kernel)⟩
  | 3, _ => exact ⟨by decide +kernel, zm_isA_of (by decide +kernel), zm_isA_of (by decide +kernel)⟩
  | 4, _ => exact ⟨by decide +kernel, zm_isA_of (by decide +kernel), zm_isA_of (by decide +kernel)⟩
  | 5, _ => exact ⟨by decide +kernel, zm_isA_of (by decide +kernel), zm_isA_of (by decide +kernel)⟩
  | 6, _ => exact ⟨by decide +kernel, zm_isA_of (by decide +kernel), zm_isA_of (by decide +kernel)⟩
  | 7, _ => exact ⟨by decide +kernel, zm_isA_of (by decide +kernel), zm_isA_of (by decide +kernel)⟩
  | 8, _ => exact ⟨by decide +kernel, zm_isA_of (by decide +kernel), zm_isA_of (by decide +kernel)⟩
  | 9, _ => exact ⟨by decide +kernel, zm_isA_of (by decide +kernel), zm_isA_of (by decide +kernel)⟩
variable {w : Nat}
theorem zw_c (h : zw_at w) : (zm_mk μ)[w]? = some (4, [.ref (w + 2), .ref (w + 3), .int (μ w 2), .int (μ w 3), .int (μ w 4), .int (μ w 5)]) := zm_get h.1
theorem zw_g (h : zw_at w) : zi_gf (zm_mk μ) 4 0 w = some (.ref (w + 1 + 1)) ∧ zi_gf (zm_mk μ) 4 1 w = some (.ref (w + 2 + 1)) ∧ zi_gf (zm_mk μ) 4 2 w = some (.int (μ w 2)) ∧ zi_gf (zm_mk μ) 4 3 w = some (.int (μ w 3)) ∧ zi_gf (zm_mk μ) 4 4 w = some (.int (μ w 4)) ∧ zi_gf (zm_mk μ) 4 5 w = some (.int (μ w 5)) :=
  ⟨zm_gfr h.1 (by decide) rfl, zm_gfr h.1 (by decide) rfl, zm_gfi h.1 (by decide) rfl, zm_gfi h.1 (by decide) rfl, zm_gfi h.1 (by decide) rfl, zm_gfi h.1 (by decide) rfl⟩
theorem zw_p3 (h : zw_at w) (x : Int32) : zi_pf (zm_mk μ) 4 3 w (.int x) = some (zm_mk (zm_up μ w 3 x)) := zm_pfi h.1 (by decide) rfl rfl
theorem zw_p4 (h : zw_at w) (x : Int32) : zi_pf (zm_mk μ) 4 4 w (.int x) = some (zm_mk (zm_up μ w 4 x)) := zm_pfi h.1 (by decide) rfl rfl
theorem zw_p5 (h : zw_at w) (x : Int32) : zi_pf (zm_mk μ) 4 5 w (.int x) = some (zm_mk (zm_up μ w 5 x)) := zm_pfi h.1 (by decide) rfl rfl
theorem zw_p2 (h : zw_at w) {x : Int32} (hx : x = 0 ∨ x = 1) : zi_pf (zm_mk μ) 4 2 w (.int x) = some (zm_mk (zm_up μ w 2 x)) := zm_pfi h.1 (by decide) rfl (by rcases hx with rfl | rfl <;> decide)
theorem zm_in0 : zi_in 0 2 = true := by decide
theorem zm_in1 : zi_in 1 2 = true := by decide
theorem zm_cl0 : (0 : Int32).toNatClampNeg = 0 := by decide
theorem zm_cl1 : (1 : Int32).toNatClampNeg = 1 := by decide
set_option maxRecDepth 100000 in
theorem ze_isTiled (D : Nat) (h : zw_at w) : ze_E (D + 1) A_Win_isTiled [.ref (w + 1)] (zm_mk μ) (some (.int (zb (¬ μ w 2 = 0 ∧ μ w 3 = 1)))) (zm_mk μ) := by
  refine ze_in [(0, .ref (w + 1))] zq_Win_isTiled (Nat.le_of_ble_eq_true rfl) rfl ⟨0, 12, fun F n hF => ?_⟩
  by_cases c : μ w 2 = 0 <;> by_cases c2 : μ w 3 = 1 <;> simp [zg_0, zg_aload_n, zg_getfield, zg_goto, zg_iconst, zg_ifCond, zg_if_icmp, zg_ireturn, zf_X4_isTiled, zi_ld, zi_lda, zi_cmp, zi_retOk, zi_isI, zi_f3, zi_cr, zi_ci, zi_cn, zi_get, zw_g h, c, c2, zb]
set_option maxRecDepth 100000 in
theorem ze_isFloating (D : Nat) (h : zw_at w) : ze_E (D + 1) A_Win_isFloating [.ref (w + 1)] (zm_mk μ) (some (.int (zb (¬ μ w 2 = 0 ∧ ¬ μ w 3 = 1)))) (zm_mk μ) := by
  refine ze_in [(0, .ref (w + 1))] zq_Win_isFloating (Nat.le_of_ble_eq_true rfl) rfl ⟨0, 12, fun F n hF => ?_⟩
  by_cases c : μ w 2 = 0 <;> by_cases c2 : μ w 3 = 1 <;> simp [zg_0, zg_aload_n, zg_getfield, zg_goto, zg_iconst, zg_ifCond, zg_if_icmp, zg_ireturn, zf_X4_isFloating, zi_ld, zi_lda, zi_cmp, zi_retOk, zi_isI, zi_f3, zi_cr, zi_ci, zi_cn, zi_get, zw_g h, c, c2, zb]
set_option maxRecDepth 100000 in
theorem ze_isSticky (D : Nat) (h : zw_at w) : ze_E (D + 1) A_Win_isSticky [.ref (w + 1)] (zm_mk μ) (some (.int (zb (¬ μ w 2 = 0 ∧ μ w 3 = 4)))) (zm_mk μ) := by
  refine ze_in [(0, .ref (w + 1))] zq_Win_isSticky (Nat.le_of_ble_eq_true rfl) rfl ⟨0, 12, fun F n hF => ?_⟩
  by_cases c : μ w 2 = 0 <;> by_cases c2 : μ w 3 = 4 <;> simp [zg_0, zg_aload_n, zg_getfield, zg_goto, zg_iconst, zg_ifCond, zg_if_icmp, zg_ireturn, zf_X4_isSticky, zi_ld, zi_lda, zi_cmp, zi_retOk, zi_isI, zi_f3, zi_cr, zi_ci, zi_cn, zi_get, zw_g h, c, c2, zb]
set_option maxRecDepth 100000 in
theorem ze_isOn (D : Nat) (h : zw_at w) (s : Int32) : ze_E (D + 1) A_Win_isOn [.ref (w + 1), .int s] (zm_mk μ) (some (.int (zb (¬ μ w 2 = 0 ∧ ¬ μ w 3 = 4 ∧ μ w 5 = s)))) (zm_mk μ) := by
  refine ze_in [(0, .ref (w + 1)), (1, .int s)] zq_Win_isOn (Nat.le_of_ble_eq_true rfl) rfl ⟨0, 16, fun F n hF => ?_⟩
  by_cases c : μ w 2 = 0 <;> by_cases c2 : μ w 3 = 4 <;> by_cases c3 : μ w 5 = s <;> simp [zg_0, zg_aload_n, zg_getfield, zg_goto, zg_iconst, zg_ifCond, zg_if_icmp, zg_iload_n, zg_ireturn, zf_X4_isOn, zi_ld, zi_lda, zi_cmp, zi_retOk, zi_isI, zi_f3, zi_cr, zi_ci, zi_cn, zi_get, zw_g h, c, c2, c3, zb]
set_option maxRecDepth 100000 in
theorem ze_isLooseOn (D : Nat) (h : zw_at w) (s : Int32) : ze_E (D + 2) A_Win_isLooseOn [.ref (w + 1), .int s] (zm_mk μ) (some (.int (zb (¬ μ w 2 = 0 ∧ ¬ μ w 3 = 4 ∧ μ w 5 = s ∧ ¬ μ w 3 = 1)))) (zm_mk μ) := by
  obtain ⟨N, h1⟩ := ze_isOn (μ := μ) D h s
  refine ze_in [(0, .ref (w + 1)), (1, .int s)] zq_Win_isLooseOn (Nat.le_of_ble_eq_true rfl) rfl ⟨N, 16, fun F n hF => ?_⟩
  by_cases c : (¬ μ w 2 = 0 ∧ ¬ μ w 3 = 4 ∧ μ w 5 = s)
  · have e1 : zb (¬ μ w 2 = 0 ∧ ¬ μ w 3 = 4 ∧ μ w 5 = s) = 1 := if_pos c
    rw [e1] at h1
    by_cases c2 : μ w 3 = 1 <;> simp [zg_0, zg_aload_n, zg_getfield, zg_goto, zg_iconst, zg_ifCond, zg_if_icmp, zg_iload_n, zg_invokevirtual, zg_ireturn, zf_X4_isLooseOn, zi_ld, zi_lda, zi_cmp, zi_retOk, zi_isI, zi_f3, zi_cr, zi_ci, zi_cn, zi_get, zq_Win_isOn, zw_c h, zw_g h, h1 F hF, c, c2, zb]
  · have e1 : zb (¬ μ w 2 = 0 ∧ ¬ μ w 3 = 4 ∧ μ w 5 = s) = 0 := if_neg c
    rw [e1] at h1
    have e2 : zb (¬ μ w 2 = 0 ∧ ¬ μ w 3 = 4 ∧ μ w 5 = s ∧ ¬ μ w 3 = 1) = 0 := if_neg (fun q => c ⟨q.1, q.2.1, q.2.2.1⟩)
    rw [e2]
    simp [zg_0, zg_aload_n, zg_getfield, zg_goto, zg_iconst, zg_ifCond, zg_if_icmp, zg_iload_n, zg_invokevirtual, zg_ireturn, zf_X4_isLooseOn, zi_ld, zi_lda, zi_cmp, zi_retOk, zi_isI, zi_f3, zi_cr, zi_ci, zi_cn, zi_get, zq_Win_isOn, zw_c h, zw_g h, h1 F hF]
set_option maxRecDepth 100000 in
theorem ze_fallsUnder (D : Nat) (h : zw_at w) (q : Int32) : ze_E (D + 1) A_Win_fallsUnder [.ref (w + 1), .int q] (zm_mk μ) (some (.int (zb (¬ μ w 2 = 0 ∧ (μ w 3 = q ∨ q = 0 ∨ (q = 2 ∧ ¬ μ w 3 = 1)))))) (zm_mk μ) := by
  refine ze_in [(0, .ref (w + 1)), (1, .int q)] zq_Win_fallsUnder (Nat.le_of_ble_eq_true rfl) rfl ⟨0, 30, fun F n hF => ?_⟩
  by_cases c0 : q = 0
  · subst c0
    by_cases c : μ w 2 = 0 <;> by_cases c2 : μ w 3 = 0 <;> simp [zg_0, zg_aload_n, zg_getfield, zg_goto, zg_iconst, zg_ifCond, zg_if_icmp, zg_iload_n, zg_ireturn, zg_istore_n, zf_X4_fallsUnder, zi_ld, zi_lda, zi_cmp, zi_retOk, zi_isI, zi_f3, zi_cr, zi_ci, zi_cn, zi_get, zi_set, zw_g h, c, c2, zb]
  · by_cases c1 : q = 2
    · subst c1
      by_cases c : μ w 2 = 0 <;> by_cases c2 : μ w 3 = 2 <;> by_cases c3 : μ w 3 = 1 <;> simp_all [zi_go, zf_X4_fallsUnder, zi_ask, zi_new, zi_step, zi_ld, zi_lda, zi_cmp, zi_retOk, zi_isI, zi_f3, zi_cr, zi_ci, zi_cn, zi_get, zi_set, zw_g h, zb]
    · by_cases c : μ w 2 = 0 <;> by_cases c2 : μ w 3 = q <;> simp [zg_0, zg_aload_n, zg_getfield, zg_goto, zg_iconst, zg_ifCond, zg_if_icmp, zg_iload_n, zg_ireturn, zg_istore_n, zf_X4_fallsUnder, zi_ld, zi_lda, zi_cmp, zi_retOk, zi_isI, zi_f3, zi_cr, zi_ci, zi_cn, zi_get, zi_set, zw_g h, c, c0, c1, c2, zb]
set_option maxRecDepth 100000 in
theorem ze_canBeWhole (D : Nat) (h : zw_at w) {z : Nat} (hz : zm_isA 7 z 2) : ze_E (D + 1) A_Win_canBeWhole [.ref (w + 1), .ref (z + 1)] (zm_mk μ) (some (.int (zb (μ (w + 1) 0 ≤ μ z 0 ∧ μ (w + 1) 1 ≤ μ z 1)))) (zm_mk μ) := by
  refine ze_in [(0, .ref (w + 1)), (1, .ref (z + 1))] zq_Win_canBeWhole (Nat.le_of_ble_eq_true rfl) rfl ⟨0, 24, fun F n hF => ?_⟩
  by_cases c : μ z 0 < μ (w + 1) 0
  · have c' : ¬ μ (w + 1) 0 ≤ μ z 0 := Int32.not_le.mpr c
    simp [zg_0, zg_aload_n, zg_getfield, zg_goto, zg_iaload, zg_iconst, zg_if_icmp, zg_ireturn, zf_X4_canBeWhole, zi_ld, zi_lda, zi_cmp, zi_retOk, zi_isI, zi_f3, zi_cr, zi_ci, zi_cn, zi_get, zw_g h, zm_iald (k := 0) h.2.1 zm_in0, zm_iald (k := 0) hz zm_in0, zm_cl0, c, c', zb]
  · have c' : μ (w + 1) 0 ≤ μ z 0 := Int32.not_lt.mp c
    by_cases c2 : μ z 1 < μ (w + 1) 1
    · have c2' : ¬ μ (w + 1) 1 ≤ μ z 1 := Int32.not_le.mpr c2
      simp [zg_0, zg_aload_n, zg_getfield, zg_goto, zg_iaload, zg_iconst, zg_if_icmp, zg_ireturn, zf_X4_canBeWhole, zi_ld, zi_lda, zi_cmp, zi_retOk, zi_isI, zi_f3, zi_cr, zi_ci, zi_cn, zi_get, zw_g h, zm_iald (k := 0) h.2.1 zm_in0, zm_iald (k := 0) hz zm_in0, zm_iald (k := 0) h.2.1 zm_in1, zm_iald (k := 0) hz zm_in1, zm_cl0, zm_cl1, c, c', c2, c2', zb]
    · have c2' : μ (w + 1) 1 ≤ μ z 1 := Int32.not_lt.mp c2
      simp [zg_0, zg_aload_n, zg_getfield, zg_goto, zg_iaload, zg_iconst, zg_if_icmp, zg_ireturn, zf_X4_canBeWhole, zi_ld, zi_lda, zi_cmp, zi_retOk, zi_isI, zi_f3, zi_cr, zi_ci, zi_cn, zi_get, zw_g h, zm_iald (k := 0) h.2.1 zm_in0, zm_iald (k := 0) hz zm_in0, zm_iald (k := 0) h.2.1 zm_in1, zm_iald (k := 0) hz zm_in1, zm_cl0, zm_cl1, c, c', c2, c2', zb]
set_option maxRecDepth 100000 in
theorem ze_nearest (D : Nat) (h : zw_at w) {z : Nat} (hz : zm_isA 7 z 2) (v a : Int32) (ha : zi_in a 2 = true) : ze_E (D + 3) A_Win_nearest [.ref (w + 1), .int v, .int a, .ref (z + 1)] (zm_mk μ) (some (.int (zi_bt 0 v (μ z a.toNatClampNeg - μ (w + 1) a.toNatClampNeg)))) (zm_mk μ) := by
  obtain ⟨N, h1⟩ := ze_between (h := zm_mk μ) D 0 v (μ z a.toNatClampNeg - μ (w + 1) a.toNatClampNeg)
  refine ze_in [(0, .ref (w + 1)), (1, .int v), (2, .int a), (3, .ref (z + 1))] zq_Win_nearest (Nat.le_of_ble_eq_true rfl) rfl ⟨N, 20, fun F n hF => ?_⟩
  simp [zg_0, zg_aload_n, zg_getfield, zg_iaload, zg_iconst, zg_iload_n, zg_invokestatic, zg_ireturn, zg_isub, zf_X4_nearest, zi_ld, zi_lda, zi_cmp, zi_retOk, zi_isI, zi_f3, zi_cr, zi_ci, zi_cn, zi_get, zw_g h, zm_iald (k := 0) h.2.1 ha, zm_iald (k := 0) hz ha, zq_Desk_between, h1 F hF]
/-- where a window is put -/
noncomputable def zw_put (μ : zm_M) (w z : Nat) (x y : Int32) : zm_M := zm_up (zm_up μ (w + 2) 0 (zi_bt 0 x (μ z 0 - μ (w + 1) 0))) (w + 2) 1 (zi_bt 0 y (μ z 1 - μ (w + 1) 1))
set_option maxRecDepth 100000 in
theorem ze_putAt (D : Nat) (h : zw_at w) {z : Nat} (hz : zm_isA 7 z 2) (hd : z ≠ w + 2) (x y : Int32) : ze_E (D + 4) A_Win_putAt [.ref (w + 1), .int x, .int y, .ref (z + 1)] (zm_mk μ) none (zm_mk (zw_put μ w z x y)) := by
  obtain ⟨N, h1⟩ := ze_nearest (μ := μ) D h hz x 0 zm_in0
  obtain ⟨M, h2⟩ := ze_nearest (μ := zm_up μ (w + 2) 0 (zi_bt 0 x (μ z 0 - μ (w + 1) 0))) D h hz y 1 zm_in1
  rw [zm_cl0] at h1
  rw [zm_cl1, zm_up_ne (by omega), zm_up_ne (by omega)] at h2
  refine ze_in [(0, .ref (w + 1)), (1, .int x), (2, .int y), (3, .ref (z + 1))] zq_Win_putAt (Nat.le_of_ble_eq_true rfl) rfl ⟨N + M, 30, fun F n hF => ?_⟩
  simp [zg_0, zg_aload_n, zg_getfield, zg_iastore, zg_iconst, zg_iload_n, zg_invokevirtual, zg_return, zf_X4_putAt, zi_ld, zi_lda, zi_cmp, zi_retOk, zi_isI, zi_f3, zi_cr, zi_ci, zi_cn, zi_get, zq_Win_nearest, zw_c h, zw_g h, h1 F (by omega), zm_iast h.2.2 zm_in0, zm_cl0, h2 F (by omega), zm_iast h.2.2 zm_in1, zm_cl1, zw_put]
set_option maxRecDepth 100000 in
theorem ze_prepare (D : Nat) (h : zw_at w) (k x y o : Int32) : ze_E (D + 1) A_Win_prepare [.ref (w + 1), .int k, .int x, .int y, .int o] (zm_mk μ) none (zm_mk (zm_up (zm_up (zm_up (zm_up (zm_up μ w 3 k) (w + 1) 0 x) (w + 1) 1 y) w 4 o) w 5 (-1))) := by
  refine ze_in [(0, .ref (w + 1)), (1, .int k), (2, .int x), (3, .int y), (4, .int o)] zq_Win_prepare (Nat.le_of_ble_eq_true rfl) rfl ⟨0, 24, fun F n hF => ?_⟩
  simp [zg_0, zg_aload_n, zg_getfield, zg_iastore, zg_iconst, zg_iload, zg_iload_n, zg_putfield, zg_return, zf_X4_prepare, zi_ld, zi_lda, zi_cmp, zi_retOk, zi_isI, zi_f3, zi_cr, zi_ci, zi_cn, zi_get, zw_g h, zw_p3 h, zw_p4 h, zw_p5 h, zm_iast h.2.1 zm_in0, zm_iast h.2.1 zm_in1, zm_cl0, zm_cl1]
end ZW1
end
section
/-! Window's rest; Arrays.fill; Tree: what goes straight -/
section ZT0
variable {μ : zm_M} {w : Nat}
/-- sent to a screen -/
noncomputable def zw_send (μ : zm_M) (w z : Nat) (s : Int32) : zm_M := if ¬ μ w 2 = 0 ∧ ¬ μ w 3 = 1 then zw_put (zm_up μ w 5 s) w z (μ (w + 2) 0) (μ (w + 2) 1) else zm_up μ w 5 s
set_option maxRecDepth 100000 in
theorem ze_sendTo (D : Nat) (h : zw_at w) {z : Nat} (hz : zm_isA 7 z 2) (hd : z ≠ w + 2) (s : Int32) : ze_E (D + 5) A_Win_sendTo [.ref (w + 1), .int s, .ref (z + 1)] (zm_mk μ) none (zm_mk (zw_send μ w z s)) := by
  obtain ⟨N, h1⟩ := ze_isFloating (μ := zm_up μ w 5 s) (D + 3) h
  obtain ⟨M, h2⟩ := ze_putAt (μ := zm_up μ w 5 s) D h hz hd (μ (w + 2) 0) (μ (w + 2) 1)
  rw [zm_up_ne (by omega), zm_up_ne (by omega)] at h1
  refine ze_in [(0, .ref (w + 1)), (1, .int s), (2, .ref (z + 1))] zq_Win_sendTo (Nat.le_of_ble_eq_true rfl) rfl ⟨N + M, 24, fun F n hF => ?_⟩
  have e0 : zm_up μ w 5 s (w + 2) 0 = μ (w + 2) 0 := zm_up_ne (by omega)
  have e1 : zm_up μ w 5 s (w + 2) 1 = μ (w + 2) 1 := zm_up_ne (by omega)
  by_cases c : ¬ μ w 2 = 0 ∧ ¬ μ w 3 = 1
  · have eb : zb (¬ μ w 2 = 0 ∧ ¬ μ w 3 = 1) = 1 := if_pos c
    rw [eb] at h1
    have es : zw_send μ w z s = zw_put (zm_up μ w 5 s) w z (μ (w + 2) 0) (μ (w + 2) 1) := if_pos c
    rw [es]
    simp [zg_0, zg_aload_n, zg_getfield, zg_iaload, zg_iconst, zg_ifCond, zg_iload_n, zg_invokevirtual, zg_putfield, zg_return, zf_X4_sendTo, zi_ld, zi_lda, zi_cmp, zi_retOk, zi_isI, zi_f3, zi_cr, zi_ci, zi_cn, zi_get, zq_Win_isFloating, zq_Win_putAt, zw_c h, zw_g h, zw_p5 h, h1 F (by omega), zm_iald (k := 0) h.2.2 zm_in0, zm_iald (k := 0) h.2.2 zm_in1, zm_cl0, zm_cl1, e0, e1, h2 F (by omega)]
  · have eb : zb (¬ μ w 2 = 0 ∧ ¬ μ w 3 = 1) = 0 := if_neg c
    rw [eb] at h1
    have es : zw_send μ w z s = zm_up μ w 5 s := if_neg c
    rw [es]
    simp [zg_0, zg_aload_n, zg_getfield, zg_iaload, zg_iconst, zg_ifCond, zg_iload_n, zg_invokevirtual, zg_putfield, zg_return, zf_X4_sendTo, zi_ld, zi_lda, zi_cmp, zi_retOk, zi_isI, zi_f3, zi_cr, zi_ci, zi_cn, zi_get, zq_Win_isFloating, zw_c h, zw_g h, zw_p5 h, h1 F (by omega)]
end ZT0
section ZT1
variable {μ : zm_M}
/-- an array with its places below i set to x -/
noncomputable def zm_fl (μ : zm_M) (c : Nat) (x : Int32) (i : Nat) : zm_M := fun a b => if a = c ∧ b < i then x else μ a b
theorem zm_fl_0 {c : Nat} {x : Int32} : zm_fl μ c x 0 = μ := by
  funext a b
  unfold zm_fl
  rw [if_neg (by omega)]
theorem zm_fl_s {c i : Nat} {x : Int32} : zm_up (zm_fl μ c x i) c i x = zm_fl μ c x (i + 1) := by
  funext a b
  unfold zm_up zm_fl
  by_cases e : a = c ∧ b = i
  · rw [if_pos e, if_pos ⟨e.1, by omega⟩]
  · rw [if_neg e]
    by_cases e2 : a = c ∧ b < i
    · rw [if_pos e2, if_pos ⟨e2.1, by omega⟩]
    · rw [if_neg e2, if_neg (by omega)]
set_option maxRecDepth 100000 in
theorem zm_fill_loop (D : Nat) {c n0 : Nat} (hc : zm_isA 7 c n0) (hn : n0 < 2 ^ 31) (x : Int32) :
    ∀ (m i : Nat) (L : zi_Lc), i + m = n0 → zi_get L 0 = some (.ref (c + 1)) → zi_get L 1 = some (.int x) → zi_get L 2 = some (.int (nI i)) → zi_get L 3 = some (.int (nI n0)) →
      ze_G D 4 none zc_J7_fill_53178 5 L [] (zm_mk (zm_fl μ c x i)) none (zm_mk (zm_fl μ c x n0)) := by
  intro m
  induction m with
  | zero =>
    intro i L him g0 g1 g2 g3
    have e : i = n0 := by omega
    subst e
    refine ⟨0, 6, fun F n _ => ?_⟩
    simp [zg_0, zg_aload_n, zg_arraylength, zg_goto, zg_iastore, zg_iconst, zg_if_icmp, zg_iinc, zg_iload_n, zg_istore_n, zg_return, zf_J7_fill_53178, zi_ld, zi_lda, zi_cmp, zi_retOk, zi_isI, zi_f3, zi_cr, zi_ci, zi_cn, g0, g1, g2, g3]
  | succ m ih =>
    intro i L him g0 g1 g2 g3
    have hc2 : ¬ nI n0 ≤ nI i := nI_ge (by omega) hn
    have hin : zi_in (nI i) n0 = true := zm_in (by omega) hn
    have eu : zm_up (zm_fl μ c x i) c (nI i).toNatClampNeg x = zm_fl μ c x (i + 1) := by
      rw [nI_clamp (by omega)]
      exact zm_fl_s
    refine ze_S.end (p2 := 5) (L2 := zi_set L 2 (.int (nI (i + 1)))) (s2 := []) (h2 := zm_mk (zm_fl μ c x (i + 1))) ⟨0, 9, fun F n _ => ?_⟩ (ih (i + 1) _ (by omega) (zi_get_set_ne (by decide) g0 rfl) (zi_get_set_ne (by decide) g1 rfl) zi_get_set_eq (zi_get_set_ne (by decide) g3 rfl))
    simp [zg_0, zg_aload_n, zg_arraylength, zg_goto, zg_iastore, zg_iconst, zg_if_icmp, zg_iinc, zg_iload_n, zg_istore_n, zg_return, zf_J7_fill_53178, zi_ld, zi_lda, zi_cmp, zi_retOk, zi_isI, zi_f3, zi_cr, zi_ci, zi_cn, g0, g1, g2, g3, hc2, zm_iast hc hin, eu, nI_1]
theorem zm_alen {c n0 : Nat} (hc : zm_isA 7 c n0) : zi_alen none (zm_mk μ) (c + 1) = some (.int (nI n0)) := by
  obtain ⟨l, h1, rfl, -⟩ := hc
  unfold zi_alen
  simp only [zm_get h1, List.length_mapIdx]
  rfl
set_option maxRecDepth 100000 in
theorem ze_fill (D : Nat) {c n0 : Nat} (hc : zm_isA 7 c n0) (hn : n0 < 2 ^ 31) (x : Int32) : ze_E (D + 1) A_Arr_fill [.ref (c + 1), .int x] (zm_mk μ) none (zm_mk (zm_fl μ c x n0)) := by
  refine ze_in [(0, .ref (c + 1)), (1, .int x)] zq_Arr_fill (Nat.le_of_ble_eq_true rfl) rfl ?_
  have hloop := zm_fill_loop (μ := μ) D hc hn x n0 0 [(3, .int (nI n0)), (2, .int (nI 0)), (0, .ref (c + 1)), (1, .int x)] (by omega) rfl rfl rfl rfl
  rw [zm_fl_0] at hloop
  refine ze_S.end (p2 := 5) (L2 := _) (s2 := []) (h2 := _) ⟨0, 5, fun F n hF => ?_⟩ hloop
  simp [zg_0, zg_aload_n, zg_arraylength, zg_goto, zg_iastore, zg_iconst, zg_if_icmp, zg_iinc, zg_iload_n, zg_istore_n, zg_return, zf_J7_fill_53178, zi_ld, zi_lda, zi_cmp, zi_retOk, zi_isI, zi_f3, zi_cr, zi_ci, zi_cn, zi_get, zi_set, zm_alen hc, nI_0]
/-- a Tree at cell T -/
noncomputable def zt_at (T : Nat) : Prop := zh_2[T]? = some (3, [.ref (T + 2), .ref (T + 4), .ref (T + 5), .ref (T + 8), .ref (T + 9), .ref (T + 10), .ref (T + 11), .ref (T + 12), .ref (T + 13), .int (-1), .ref (T + 14), .ref (T + 15), .int 0, .ref (T + 16), .ref (T + 19), .ref (T + 22)]) ∧ zr_at (T + 1) ∧ zm_isA 7 (T + 3) 10 ∧
  (zh_2[T + 4]? = some (11, [.ref (T + 6), .ref (T + 7)]) ∧ zm_isA 7 (T + 5) 10 ∧ zm_isA 7 (T + 6) 10) ∧ (zm_isA 7 (T + 7) 19 ∧ zm_isA 7 (T + 8) 19 ∧ zm_isA 7 (T + 9) 19 ∧ zm_isA 7 (T + 10) 19 ∧ zm_isA 7 (T + 11) 19 ∧ zm_isA 7 (T + 12) 19 ∧ zm_isA 7 (T + 13) 19 ∧ zm_isA 7 (T + 14) 19) ∧
  (zh_2[T + 15]? = some (11, [.ref (T + 17), .ref (T + 18)]) ∧ zm_isA 7 (T + 16) 19 ∧ zm_isA 7 (T + 17) 19) ∧ (zh_2[T + 18]? = some (11, [.ref (T + 20), .ref (T + 21)]) ∧ zm_isA 7 (T + 19) 19 ∧ zm_isA 7 (T + 20) 19) ∧ (zh_2[T + 21]? = some (11, [.ref (T + 23), .ref (T + 24)]) ∧ zm_isA 7 (T + 22) 19 ∧ zm_isA 7 (T + 23) 19)
noncomputable def zt_cells : List Nat := [7, 68, 93, 123, 148, 178, 203]
set_option maxRecDepth 100000 in
theorem zt_at_of : ∀ T ∈ zt_cells, zt_at T := by
  intro T hT
  simp only [zt_cells, List.mem_cons, List.not_mem_nil, or_false] at hT
  rcases hT with rfl | rfl | rfl | rfl | rfl | rfl | rfl <;> exact ⟨by decide +kernel, zr_at_of _ (by decide), zm_isA_of (by decide +kernel), ⟨by decide +kernel, zm_isA_of (by decide +kernel), zm_isA_of (by decide +kernel)⟩, ⟨zm_isA_of (by decide +kernel), zm_isA_of (by decide +kernel), zm_isA_of (by decide +kernel), zm_isA_of (by decide +kernel), zm_isA_of (by decide +kernel), zm_isA_of (by decide +kernel), zm_isA_of (by decide +kernel), zm_isA_of (by decide +kernel)⟩, ⟨by decide +kernel, zm_isA_of (by decide +kernel), zm_isA_of (by decide +kernel)⟩, ⟨by decide +kernel, zm_isA_of (by decide +kernel), zm_isA_of (by decide +kernel)⟩, ⟨by decide +kernel, zm_isA_of (by decide +kernel), zm_isA_of (by decide +kernel)⟩⟩
variable {T : Nat}
theorem zt_c (h : zt_at T) : ∃ l, (zm_mk μ)[T]? = some (3, l) := ⟨_, zm_get h.1⟩
theorem zt_g (h : zt_at T) : zi_gf (zm_mk μ) 3 0 T = some (.ref (T + 1 + 1)) ∧ zi_gf (zm_mk μ) 3 1 T = some (.ref (T + 3 + 1)) ∧ zi_gf (zm_mk μ) 3 2 T = some (.ref (T + 4 + 1)) ∧ zi_gf (zm_mk μ) 3 3 T = some (.ref (T + 7 + 1)) ∧ zi_gf (zm_mk μ) 3 4 T = some (.ref (T + 8 + 1)) ∧ zi_gf (zm_mk μ) 3 5 T = some (.ref (T + 9 + 1)) ∧ zi_gf (zm_mk μ) 3 6 T = some (.ref (T + 10 + 1)) ∧ zi_gf (zm_mk μ) 3 7 T = some (.ref (T + 11 + 1)) ∧ zi_gf (zm_mk μ) 3 8 T = some (.ref (T + 12 + 1)) ∧ zi_gf (zm_mk μ) 3 9 T = some (.int (μ T 9)) ∧ zi_gf (zm_mk μ) 3 10 T = some (.ref (T + 13 + 1)) ∧ zi_gf (zm_mk μ) 3 11 T = some (.ref (T + 14 + 1)) ∧ zi_gf (zm_mk μ) 3 12 T = some (.int (μ T 12)) ∧ zi_gf (zm_mk μ) 3 13 T = some (.ref (T + 15 + 1)) ∧ zi_gf (zm_mk μ) 3 14 T = some (.ref (T + 18 + 1)) ∧ zi_gf (zm_mk μ) 3 15 T = some (.ref (T + 21 + 1)) :=
  ⟨zm_gfr h.1 (by decide) rfl, zm_gfr h.1 (by decide) rfl, zm_gfr h.1 (by decide) rfl, zm_gfr h.1 (by decide) rfl, zm_gfr h.1 (by decide) rfl, zm_gfr h.1 (by decide) rfl, zm_gfr h.1 (by decide) rfl, zm_gfr h.1 (by decide) rfl, zm_gfr h.1 (by decide) rfl, zm_gfi h.1 (by decide) rfl, zm_gfr h.1 (by decide) rfl, zm_gfr h.1 (by decide) rfl, zm_gfi h.1 (by decide) rfl, zm_gfr h.1 (by decide) rfl, zm_gfr h.1 (by decide) rfl, zm_gfr h.1 (by decide) rfl⟩
theorem zt_p9 (h : zt_at T) (x : Int32) : zi_pf (zm_mk μ) 3 9 T (.int x) = some (zm_mk (zm_up μ T 9 x)) := zm_pfi h.1 (by decide) rfl rfl
theorem zt_p12 (h : zt_at T) (x : Int32) : zi_pf (zm_mk μ) 3 12 T (.int x) = some (zm_mk (zm_up μ T 12 x)) := zm_pfi h.1 (by decide) rfl rfl
/-- the two rows of an axis -/
theorem zm_ax0 {o : Nat} (h : zh_2[o]? = some (11, [.ref (o + 2), .ref (o + 3)])) : zi_aald (zm_mk μ) 0 o = some (.ref (o + 1 + 1)) := zm_aald h (by decide) zm_in0 rfl
theorem zm_ax1 {o : Nat} (h : zh_2[o]? = some (11, [.ref (o + 2), .ref (o + 3)])) : zi_aald (zm_mk μ) 1 o = some (.ref (o + 2 + 1)) := zm_aald h (by decide) zm_in1 rfl
set_option maxRecDepth 100000 in
theorem ze_Tree_leafOf (D : Nat) (h : zt_at T) {k : Nat} (hk : k < 10) : ze_E (D + 1) A_Tree_leafOf [.ref (T + 1), .int (nI k)] (zm_mk μ) (some (.int (μ (T + 3) k))) (zm_mk μ) := by
  refine ze_in [(0, .ref (T + 1)), (1, .int (nI k))] zq_Tree_leafOf (Nat.le_of_ble_eq_true rfl) rfl ⟨0, 16, fun F n hF => ?_⟩
  have h10 : (Int8.ofInt 10).toInt32 = (10 : Int32) := by decide
  have c1 : ¬ nI k < 0 := nI_pos (by omega)
  have c2 : ¬ (10 : Int32) ≤ nI k := nI_ge (b := 10) hk (by decide)
  have hin : zi_in (nI k) 10 = true := zm_in hk (by decide)
  have hcl : (nI k).toNatClampNeg = k := nI_clamp (by omega)
  simp [zg_0, zg_aload_n, zg_bipush, zg_getfield, zg_goto, zg_iaload, zg_iconst, zg_ifCond, zg_if_icmp, zg_iload_n, zg_ireturn, zf_X3_leafOf, zi_ld, zi_lda, zi_cmp, zi_retOk, zi_isI, zi_f3, zi_cr, zi_ci, zi_cn, zi_get, zt_g h, h10, c1, c2, zm_iald (k := 0) h.2.2.1 hin, hcl]
set_option maxRecDepth 100000 in
theorem ze_Tree_leafOf_out (D : Nat) (h : zt_at T) {x : Int32} (hx : x < 0) : ze_E (D + 1) A_Tree_leafOf [.ref (T + 1), .int x] (zm_mk μ) (some (.int (-1))) (zm_mk μ) := by
  refine ze_in [(0, .ref (T + 1)), (1, .int x)] zq_Tree_leafOf (Nat.le_of_ble_eq_true rfl) rfl ⟨0, 16, fun F n hF => ?_⟩
  simp [zg_0, zg_aload_n, zg_bipush, zg_getfield, zg_goto, zg_iaload, zg_iconst, zg_ifCond, zg_if_icmp, zg_iload_n, zg_ireturn, zf_X3_leafOf, zi_ld, zi_lda, zi_cmp, zi_retOk, zi_isI, zi_f3, zi_cr, zi_ci, zi_cn, zi_get, zt_g h, hx]
set_option maxRecDepth 100000 in
theorem ze_Tree_leaves (D : Nat) (h : zt_at T) : ze_E (D + 1) A_Tree_leaves [.ref (T + 1)] (zm_mk μ) (some (.int ((μ T 12 + 1) / 2))) (zm_mk μ) := by
  refine ze_in [(0, .ref (T + 1))] zq_Tree_leaves (Nat.le_of_ble_eq_true rfl) rfl ⟨0, 10, fun F n hF => ?_⟩
  simp [zg_0, zg_aload_n, zg_getfield, zg_iadd, zg_iconst, zg_idiv, zg_ireturn, zf_X3_leaves, zi_ld, zi_lda, zi_cmp, zi_retOk, zi_isI, zi_f3, zi_cr, zi_ci, zi_cn, zi_get, zt_g h]
set_option maxRecDepth 100000 in
theorem ze_Tree_cuts (D : Nat) (h : zt_at T) : ze_E (D + 1) A_Tree_cuts [.ref (T + 1)] (zm_mk μ) (some (.int (μ T 12 / 2))) (zm_mk μ) := by
  refine ze_in [(0, .ref (T + 1))] zq_Tree_cuts (Nat.le_of_ble_eq_true rfl) rfl ⟨0, 10, fun F n hF => ?_⟩
  simp [zg_0, zg_aload_n, zg_getfield, zg_iconst, zg_idiv, zg_ireturn, zf_X3_cuts, zi_ld, zi_lda, zi_cmp, zi_retOk, zi_isI, zi_f3, zi_cr, zi_ci, zi_cn, zi_get, zt_g h]
set_option maxRecDepth 100000 in
theorem ze_Tree_shownIn (D : Nat) (h : zt_at T) {x : Int32} (hx : zi_in x 19 = true) : ze_E (D + 1) A_Tree_shownIn [.ref (T + 1), .int x] (zm_mk μ) (some (.int (μ (T + 12) x.toNatClampNeg))) (zm_mk μ) := by
  refine ze_in [(0, .ref (T + 1)), (1, .int x)] zq_Tree_shownIn (Nat.le_of_ble_eq_true rfl) rfl ⟨0, 10, fun F n hF => ?_⟩
  simp [zg_0, zg_aload_n, zg_getfield, zg_iaload, zg_iload_n, zg_ireturn, zf_X3_shownIn, zi_ld, zi_lda, zi_cmp, zi_retOk, zi_isI, zi_f3, zi_cr, zi_ci, zi_cn, zi_get, zt_g h, zm_iald (k := 0) h.2.2.2.2.1.2.2.2.2.2.1 hx]
set_option maxRecDepth 100000 in
theorem ze_Tree_changeShare (D : Nat) (h : zt_at T) {x : Int32} (hx : zi_in x 19 = true) (v : Int32) : ze_E (D + 1) A_Tree_changeShare [.ref (T + 1), .int x, .int v] (zm_mk μ) (some (.int (μ (T + 8) x.toNatClampNeg))) (zm_mk (zm_up μ (T + 8) x.toNatClampNeg v)) := by
  refine ze_in [(0, .ref (T + 1)), (1, .int x), (2, .int v)] zq_Tree_changeShare (Nat.le_of_ble_eq_true rfl) rfl ⟨0, 14, fun F n hF => ?_⟩
  simp [zg_0, zg_aload_n, zg_getfield, zg_iaload, zg_iastore, zg_iload_n, zg_ireturn, zg_istore_n, zf_X3_changeShare, zi_ld, zi_lda, zi_cmp, zi_retOk, zi_isI, zi_f3, zi_cr, zi_ci, zi_cn, zi_get, zi_set, zt_g h, zm_iald (k := 0) h.2.2.2.2.1.2.1 hx, zm_iast h.2.2.2.2.1.2.1 hx]
set_option maxRecDepth 100000 in
theorem ze_Tree_leastOf (D : Nat) (h : zt_at T) {a : Nat} (ha : a < 2) (hr : μ T 9 < 0 ∨ zi_in (μ T 9) 19 = true) : ze_E (D + 1) A_Tree_leastOf [.ref (T + 1), .int (nI a)] (zm_mk μ) (some (.int (if μ T 9 < 0 then 0 else μ (T + 16 + a) (μ T 9).toNatClampNeg))) (zm_mk μ) := by
  refine ze_in [(0, .ref (T + 1)), (1, .int (nI a))] zq_Tree_leastOf (Nat.le_of_ble_eq_true rfl) rfl ⟨0, 16, fun F n hF => ?_⟩
  have n0 : nI 0 = 0 := nI_0
  have n1 : nI 1 = 1 := by decide
  by_cases c : μ T 9 < 0
  · have c' : ¬ (0 : Int32) ≤ μ T 9 := Int32.not_le.mpr c
    simp [zg_0, zg_aaload, zg_aload_n, zg_getfield, zg_goto, zg_iaload, zg_iconst, zg_ifCond, zg_iload_n, zg_ireturn, zf_X3_leastOf, zi_ld, zi_lda, zi_cmp, zi_retOk, zi_isI, zi_f3, zi_cr, zi_ci, zi_cn, zi_get, zt_g h, c, c']
  · have c' : (0 : Int32) ≤ μ T 9 := Int32.not_lt.mp c
    have hin : zi_in (μ T 9) 19 = true := hr.resolve_left c
    match a, ha with
    | 0, _ => simp [zg_0, zg_aaload, zg_aload_n, zg_getfield, zg_goto, zg_iaload, zg_iconst, zg_ifCond, zg_iload_n, zg_ireturn, zf_X3_leastOf, zi_ld, zi_lda, zi_cmp, zi_retOk, zi_isI, zi_f3, zi_cr, zi_ci, zi_cn, zi_get, zt_g h, c, c', n0, zm_ax0 h.2.2.2.2.2.1.1, zm_iald (k := 0) h.2.2.2.2.2.1.2.1 hin]
    | 1, _ => simp [zg_0, zg_aaload, zg_aload_n, zg_getfield, zg_goto, zg_iaload, zg_iconst, zg_ifCond, zg_iload_n, zg_ireturn, zf_X3_leastOf, zi_ld, zi_lda, zi_cmp, zi_retOk, zi_isI, zi_f3, zi_cr, zi_ci, zi_cn, zi_get, zt_g h, c, c', n1, zm_ax1 h.2.2.2.2.2.1.1, zm_iald (k := 0) h.2.2.2.2.2.1.2.2 hin]
end ZT1
end
