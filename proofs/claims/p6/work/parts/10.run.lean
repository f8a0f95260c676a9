/-- Met.ofW, for a method in whose place nothing else is run -/
theorem zi_ofW {l : Launch} {y : MethodName} {ws ws' : List Cond} {rm : Room} {Pc : Array Value → State → Prop} {Qc : Array Value → State → Outcome → State → Prop} {mc ms : Nat} {free : Addr → Prop} {cc : ByteArray} {maxL : Nat} {ret : Option FieldType}
    (hy : plainFor y = true) (hw : ws = Cond.code y cc maxL ret :: ws')
    (body : ∀ p e s m args below meth c s₁, BodyLoose p l y (headSpec ws rm) cc maxL ret e s m args below meth c s₁ → c.maxLocals = maxL → Pc args s →
      W p l e (headSpec ws rm).room s m args below meth c s.heap [] 0 0 (MQ below Qc args s mc ms free) (entryFrame m args maxL)) : Met l y ws rm Pc Qc mc ms free := by
  refine MetFree.of_bodySF (code := cc) (maxLocals := maxL) (ret := ret) hy ?_ ?_
  · intro args s m h hn
    obtain ⟨meth, c, h1, h2, h3, h4, h5, h6, -, -⟩ := Cond.code_spec hn (atoms_spec (ws := ws) h _ (by rw [hw]; exact List.mem_cons_self))
    exact ⟨meth, c, h1, h2, h3, h4, h5, h6⟩
  · intro p e s m args below meth c s₁ B hml hP _
    have hh0 : s₁.heap = s.heap := by rw [B.state]; rfl
    obtain ⟨t, a1, o, b1, b2, b3⟩ := body p e s m args below meth c s₁ B hml hP s₁ hh0 (Stand.of_body B)
    exact ⟨t, o, a1, b1, b2, ⟨b3.1, b3.2⟩⟩
theorem zi_args {ρ : Nat → Int32} {b0 : Nat} {as : List Nat} (vs : List Value) : ∀ i : Nat, lv_args i (vs.map (zi_cv ρ b0 as)) = zi_lc ρ b0 as (lv_args i vs) := by
  induction vs with
  | nil => intro i; rfl
  | cons v vs ih =>
    intro i
    show (i, zi_cv ρ b0 as v) :: lv_args (if (zi_cv ρ b0 as v).category = 2 then i + 2 else i + 1) (vs.map (zi_cv ρ b0 as)) = _
    rw [zi_cv_cat, ih]
    rfl
theorem zi_sl {ρ : Nat → Int32} {b0 : Nat} {as : List Nat} (vs : List Value) : (lg_sl (vs.map (zi_cv ρ b0 as))).length = (lg_sl vs).length := by
  induction vs with
  | nil => rfl
  | cons v vs ih =>
    simp only [lg_sl, List.map_cons, List.flatMap_cons, List.length_append, zi_cv_cat] at ih ⊢
    rw [ih]
    split <;> rfl
set_option maxHeartbeats 4000000 in
theorem zi_run_sound (l : Launch) {ms : List zi_Me} (F : Nat) (hms : zi_mOk ms) (hcl : ∀ a q, vwCl[a]? = some q → zi_cok a q) (hAI : Cond.arrayClass .int ∈ zi_Ts) (hAZ : Cond.arrayClass .boolean ∈ zi_Ts) (hoI : Cond.instanceMethod objectInit ∈ zi_Ts) (hoC : Cond.code objectInit ⟨#[0xb1]⟩ 1 none ∈ zi_Ts) (hcN : Cond.native arraycopyName ∈ zi_Ts) (hcS : Cond.static arraycopyName ∈ zi_Ts) (hcI : Cond.initialized "java/lang/System" ∈ zi_Ts) :
    ∀ dp : Nat, zi_callOk l ms (zi_run ms F dp) dp := by
  intro dp
  induction dp with
  | zero =>
    intro a mt hmt vs h d os hrun
    simp only [zi_run] at hrun
    cases hrun
  | succ dp ih =>
    intro a mt hmt vs h d os hrun ρ b0 as cy D sz hrho hln
    unfold zi_run at hrun
    rw [hmt] at hrun
    dsimp only at hrun
    split at hrun
    · rename_i hsl
      obtain ⟨m1, m2, m3, m4, m5, m6⟩ := hms a mt hmt
      refine zi_ofW (cc := mt.2.1) (maxL := mt.2.2.1) (ret := mt.2.2.2.1) m3 rfl ?_
      intro p e s m args below meth c s₁ B hml hv
      obtain ⟨rfl, hsz, hP, hK, hD0, hN⟩ := hv
      have hx := B.exec
      have hb := B.bytes
      have hr := B.returns
      have hts0 := atoms_spec (ws := zi_wsM mt) B.pre
      have hts : ∀ w ∈ zi_Ts, w.before (vs.map (zi_cv ρ b0 as)).toArray s = true := fun w hw => hts0 w (List.mem_cons_of_mem _ hw)
      have hown : s.vm.findClass mt.1.cls = some m.cls := findClass_of_methodNamed B.named
      have hlocks := B.notSynchronized
      have hnm : meth.name = mt.1.name := (name_of_methodNamed B.named B.method).1
      subst hsz
      have hD := hD0.self (sz := s.heap.size)
      have hl := lv_entry (vs.map (zi_cv ρ b0 as)) (n := mt.2.2.1) (by rw [zi_sl]; exact hsl)
      rw [zi_args] at hl
      rw [lg_entry_eq]
      generalize (lg_sl (vs.map (zi_cv ρ b0 as)) ++ List.replicate (mt.2.2.1 - (lg_sl (vs.map (zi_cv ρ b0 as))).length) Slot.unset).toArray = ls at hl ⊢
      refine zi_go_sound (as0 := as) (OUT := os) (A := va_A (zi_w ρ b0 as cy h) s.heap.size) (dp := dp) (own := mt.1.cls) (ini := decide (mt.1.name = "<init>")) (scr := none) (R := (headSpec (zi_wsM mt) (zi_rm mt (dp + 1))).room) hx hb hml hown hts hcl (fun hi => by rw [hnm]; exact of_decide_eq_true hi) (fun sl hs => by cases hs) hN hAI hAZ hoI hoC hcN hcS hcI hK (fun q hq => Or.inr hq) (Nat.le_refl _) (Nat.le_refl _) (Nat.le_refl _) (Nat.le_refl _) m6 hms ih ?_ F 0 (lv_args 0 vs) [] h d 0 0 os hrun (fun _ ho => ho) hrho (Nat.zero_le _) (Nat.zero_le _) as s.heap [] ls ⟨[], by simp, Nat.le_refl _⟩ hln hl hP hD va_S.rf
      intro pc ls st o H locs kc ks as' ho hro has hlen hkc hks hP1 hD1 hS1 hret
      obtain ⟨qs, rfl, hq⟩ := has
      have hQ : ∀ t : State, t.heap = H → s.WarmedH t.vm → zi_Qc ρ b0 as cy D s.heap.size h mt.2.2.2.2.2.1 os (vs.map (zi_cv ρ b0 as)).toArray s (.returned (o.2.1.map (zi_cv ρ b0 (as ++ qs)))) t := fun t ht hW => ⟨o, ho, hro, qs, Nat.le_trans hq hkc, hlen, rfl, by rw [ht]; exact hP1, hD1, hS1.F ht⟩
      refine W.widen hkc hks ?_
      rcases hret with ⟨hd, v, hv, hrk, rfl⟩ | ⟨hd, x, hv, hra, rfl⟩ | ⟨hd, hv, hrn, rfl⟩
      · rw [hv] at hQ
        unfold zi_retOk at hrk
        split at hrk
        · rename_i hre
          have e1 := zi_cv_iv (ρ := ρ) (b := b0) (as := as ++ qs) hrk
          show W _ _ _ _ _ _ _ _ _ _ _ _ _ _ _ (F0 m pc ls [zi_cv ρ b0 (as ++ qs) v])
          have hQ : ∀ t : State, t.heap = H → s.WarmedH t.vm → zi_Qc ρ b0 as cy D s.heap.size h mt.2.2.2.2.2.1 os (vs.map (zi_cv ρ b0 as)).toArray s (.returned (some (zi_cv ρ b0 (as ++ qs) v))) t := hQ
          rw [e1] at hQ ⊢
          exact W.zret (ty := .int) hx hb (hr.trans hre) rfl hQ hS1.2.2 hd
        · rename_i hre
          split at hrk
          · rename_i x
            simp only [Bool.or_eq_true, decide_eq_true_eq] at hrk
            refine W.zret (v := x) (ty := .boolean) hx hb (hr.trans hre) ?_ hQ hS1.2.2 hd
            rcases hrk with rfl | rfl
            · decide
            · decide
          · cases hrk
        · cases hrk
      · rw [hv] at hQ
        unfold zi_retA at hra
        split at hra
        · rename_i nm hre
          refine W.aret (v := zi_cv ρ b0 (as ++ qs) (.ref x)) (rt := .object nm) hx hb (hr.trans hre) (Or.inl ⟨_, rfl⟩) (Or.inr ?_) hQ hS1.2.2 hd
          cases x <;> exact ⟨_, rfl⟩
        · cases hra
      · rw [hv] at hQ
        exact W.vret hx hb (hr.trans hrn) hQ hS1.2.2 hd
    · cases hrun
