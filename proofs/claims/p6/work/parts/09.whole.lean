section ZA
variable {p : Program} {l : Launch} {e : Env} {R : Room} {s : State} {m : MethodId} {args : Array Value} {below : List Frame} {meth : Method} {c : Code} {Q : State → Prop}
variable {cc : ByteArray} {D : va_G} {A : Nat → Prop} {ρ : Nat → Int32} {b0 : Nat} {as0 : List Nat} {cy : Nat → ClassId} {own : String} {ini : Bool} {ms : List zi_Me} {scr : Option (List Value)} {nL mc mS dp : Nat} {ret : Option FieldType} {code0 : List zi_Row}
variable {call : Nat → List Value → zi_Hp → zi_Dm → Option (List zi_Out)} {OUT : List zi_Out}
set_option maxHeartbeats 8000000 in
theorem zi_go_sound
    (hx : p.tables.exec = Jvm.exec) (hb : c.code = cc) (hml : c.maxLocals = nL) (hown : s.vm.findClass own = some m.cls) (hts : ∀ w ∈ zi_Ts, w.before args s = true) (hcl : ∀ a q, vwCl[a]? = some q → zi_cok a q) (hini : ini = true → meth.name = "<init>")
    (hX : ∀ sl, scr = some sl → va_X b0 sl.length (fun j => zi_iv ρ (sl.getD j (.int 0))) s s.heap ∧ b0 < s.heap.size ∧ ¬ A b0)
    (hN : zi_Nst s) (hAI : Cond.arrayClass .int ∈ zi_Ts) (hAZ : Cond.arrayClass .boolean ∈ zi_Ts) (hoI : Cond.instanceMethod objectInit ∈ zi_Ts) (hoC : Cond.code objectInit ⟨#[0xb1]⟩ 1 none ∈ zi_Ts) (hcN : Cond.native arraycopyName ∈ zi_Ts) (hcS : Cond.static arraycopyName ∈ zi_Ts) (hcI : Cond.initialized "java/lang/System" ∈ zi_Ts)
    (hK : va_K D vwCl (zi_tys cy) s) (hA : ∀ q, s.heap.size ≤ q → A q)
    (hRf : dp + 1 ≤ R.frames) (hRl : 40 * (dp + 1) ≤ R.locals) (hRc : mc ≤ R.cells) (hRs : mS ≤ R.slots)
    (hcode : ∀ r ∈ code0, decode cc r.1 = .ok (r.2.1, r.2.2.1) ∧ zi_lok r = true ∧ zi_ok own ini ms r = true)
    (hms : zi_mOk ms) (hcall : zi_callOk l ms call dp)
    (hleaf : ∀ (pc : Nat) (ls : Array Slot) (st : List Value) (o : zi_Out) (H : Heap) (locs : List Loc) (kc ks : Nat) (as : List Nat), o ∈ OUT → zi_rho ρ o.1 → (∃ qs, as = as0 ++ qs ∧ qs.length ≤ kc) → as.length = o.2.2.length → kc ≤ mc → ks ≤ mS →
      va_P D vwCl (zi_w ρ b0 as cy o.2.2) H → va_D A (zi_w ρ b0 as cy o.2.2) → va_S A s.heap H locs →
      ((decode cc pc = .ok (.ireturn, 1) ∧ ∃ v, o.2.1 = some v ∧ zi_retOk ret v = true ∧ st = [v]) ∨ (decode cc pc = .ok (.areturn, 1) ∧ ∃ x, o.2.1 = some (.ref x) ∧ zi_retA ret = true ∧ st = [.ref x]) ∨ (decode cc pc = .ok (.return_, 1) ∧ o.2.1 = none ∧ ret = none ∧ st = [])) →
      W p l e R s m args below meth c H locs kc ks Q (F0 m pc ls (st.map (zi_cv ρ b0 as)))) :
    ∀ (n pc : Nat) (L : zi_Lc) (st : List Value) (h : zi_Hp) (d : zi_Dm) (kc ks : Nat) (os : List zi_Out), zi_go ms scr nL ret code0 mc mS call n pc L st h d kc ks = some os → (∀ o ∈ os, o ∈ OUT) → zi_rho ρ d → kc ≤ mc → ks ≤ mS →
      ∀ (as : List Nat) (H : Heap) (locs : List Loc) (ls : Array Slot), (∃ qs, as = as0 ++ qs ∧ qs.length ≤ kc) → as.length = h.length → lv_has ls nL (zi_lc ρ b0 as L) → va_P D vwCl (zi_w ρ b0 as cy h) H → va_D A (zi_w ρ b0 as cy h) → va_S A s.heap H locs →
      W p l e R s m args below meth c H locs kc ks Q (F0 m pc ls (st.map (zi_cv ρ b0 as))) := by
  intro n
  induction n with
  | zero =>
    intro pc L st h d kc ks os hgo
    simp only [zi_go] at hgo
    cases hgo
  | succ n ih =>
    intro pc L st h d kc ks os hgo hos hrho hkc hks as H locs ls has hln hl hP hD hS
    unfold zi_go at hgo
    split at hgo
    · cases hgo
    rename_i r hfind
    have hrm : r ∈ code0 := List.mem_of_find?_eq_some hfind
    have hpc : r.1 = pc := by simpa using List.find?_some hfind
    obtain ⟨hdg, hlen, hok⟩ := hcode r hrm
    subst hpc
    split at hgo
    · -- an unknown index
      rename_i k f hask
      split at hgo
      · cases hgo
      rename_i dl hdl
      split at hgo
      · have hm := hrho.1 _ _ hdl
        obtain ⟨o, h1, h2⟩ := zi_bind_some hgo _ (zi_vals_mem hm)
        have h3 := ih _ _ _ _ _ _ _ _ h1 (fun y hy => hos y (h2 y hy)) (zi_rho_set hrho ⟨_, List.mem_singleton.mpr rfl, Int.le_refl _, Int.le_refl _⟩) hkc hks as H locs ls has hln hl hP hD hS
        rw [Int32.ofInt_toInt, zi_ask_st hask] at h3
        exact h3
      · cases hgo
    rename_i hask
    split at hgo
    · -- ireturn
      rename_i hi
      have hdg' : decode cc r.1 = .ok (.ireturn, 1) := by
        have e1 : r.2.2.1 = 1 := by
          have h := hlen
          unfold zi_lok at h
          rw [hi] at h
          exact of_decide_eq_true h
        rw [hdg, hi, e1]
      split at hgo
      · rename_i v
        split at hgo
        · rename_i hr
          cases hgo
          exact hleaf _ ls [v] _ H locs kc ks as (hos _ (List.mem_singleton.mpr rfl)) hrho has hln hkc hks hP hD hS (Or.inl ⟨hdg', v, rfl, hr, rfl⟩)
        · cases hgo
      · cases hgo
    · -- areturn
      rename_i hi
      have hdg' : decode cc r.1 = .ok (.areturn, 1) := by
        have e1 : r.2.2.1 = 1 := by
          have h := hlen
          unfold zi_lok at h
          rw [hi] at h
          exact of_decide_eq_true h
        rw [hdg, hi, e1]
      split at hgo
      · rename_i x
        split at hgo
        · rename_i hr
          cases hgo
          exact hleaf _ ls [.ref x] _ H locs kc ks as (hos _ (List.mem_singleton.mpr rfl)) hrho has hln hkc hks hP hD hS (Or.inr (Or.inl ⟨hdg', x, rfl, hr, rfl⟩))
        · cases hgo
      · cases hgo
    · -- return
      rename_i hi
      have hdg' : decode cc r.1 = .ok (.return_, 1) := by
        have e1 : r.2.2.1 = 1 := by
          have h := hlen
          unfold zi_lok at h
          rw [hi] at h
          exact of_decide_eq_true h
        rw [hdg, hi, e1]
      split at hgo
      · split at hgo
        · rename_i hr
          cases hgo
          exact hleaf _ ls [] _ H locs kc ks as (hos _ (List.mem_singleton.mpr rfl)) hrho has hln hkc hks hP hD hS (Or.inr (Or.inr ⟨hdg', rfl, hr, rfl⟩))
        · cases hgo
      · cases hgo
    · -- goto
      rename_i off hi
      obtain ⟨pc, i, ln, a, b, t, v⟩ := r
      dsimp only at hi hgo hdg hlen hok hask hfind hrm ⊢
      subst hi
      have e1 : ln = 3 := of_decide_eq_true hlen
      subst e1
      have e2 : (pc : Int) + off = (a : Int) := of_decide_eq_true hok
      exact lv_goto hx hb hdg e2 (ih _ _ _ _ _ _ _ _ hgo hos hrho hkc hks as H locs ls has hln hl hP hD hS)
    · -- if
      rename_i cnd off hi
      obtain ⟨pc, i, ln, a, b, t, v⟩ := r
      dsimp only at hi hgo hdg hlen hok hask hfind hrm ⊢
      subst hi
      have e1 : ln = 3 := of_decide_eq_true hlen
      subst e1
      have e2 : (pc : Int) + off = (a : Int) := of_decide_eq_true hok
      split at hgo
      · rename_i x rest
        refine zi_Wif hx hb hdg e2 (fun hc => ?_) (fun hc => ?_)
        · rw [if_pos hc] at hgo
          exact ih _ _ _ _ _ _ _ _ hgo hos hrho hkc hks as H locs ls has hln hl hP hD hS
        · rw [if_neg hc] at hgo
          exact ih _ _ _ _ _ _ _ _ hgo hos hrho hkc hks as H locs ls has hln hl hP hD hS
      · rename_i k rest
        split at hgo
        · cases hgo
        rename_i dl hdl
        have hm := hrho.1 _ _ hdl
        have key : ∀ (q : zi_Iv × Nat), q ∈ [(zi_T cnd 0 dl, a), (zi_T (zi_neg cnd) 0 dl, pc + 3)] → zi_mem (ρ k.toNat).toInt q.1 → W p l e R s m args below meth c H locs kc ks Q (F0 m q.2 ls (rest.map (zi_cv ρ b0 as))) := by
          intro q hq hqm
          obtain ⟨o, h1, h2⟩ := zi_bind_some hgo q hq
          have hne : q.1.isEmpty = false := by
            obtain ⟨y, hy, -⟩ := hqm
            cases hq1 : q.1 with
            | nil => rw [hq1] at hy; cases hy
            | cons _ _ => rfl
          rw [hne] at h1
          exact ih _ _ _ _ _ _ _ _ h1 (fun y hy => hos y (h2 y hy)) (zi_rho_set hrho hqm) hkc hks as H locs ls has hln hl hP hD hS
        refine zi_Wif (x := ρ k.toNat) hx hb hdg e2 (fun hc => ?_) (fun hc => ?_)
        · exact key (_, _) List.mem_cons_self (zi_T_mem hm (zi_lo _) (zi_hi _) (zi_cmp_hold.mp hc))
        · refine key (_, _) (List.mem_cons_of_mem _ List.mem_cons_self) (zi_T_mem hm (zi_lo _) (zi_hi _) ?_)
          rcases zi_hold_neg cnd (ρ k.toNat).toInt 0 with h1 | h1
          · exact absurd (zi_cmp_hold.mpr h1) hc
          · exact h1
      · cases hgo
    · -- if_icmp
      rename_i cnd off hi
      obtain ⟨pc, i, ln, a, b, t, v⟩ := r
      dsimp only at hi hgo hdg hlen hok hask hfind hrm ⊢
      subst hi
      have e1 : ln = 3 := of_decide_eq_true hlen
      subst e1
      have e2 : (pc : Int) + off = (a : Int) := of_decide_eq_true hok
      split at hgo
      · rename_i y x rest
        refine zi_Wicmp hx hb hdg e2 (fun hc => ?_) (fun hc => ?_)
        · rw [if_pos hc] at hgo
          exact ih _ _ _ _ _ _ _ _ hgo hos hrho hkc hks as H locs ls has hln hl hP hD hS
        · rw [if_neg hc] at hgo
          exact ih _ _ _ _ _ _ _ _ hgo hos hrho hkc hks as H locs ls has hln hl hP hD hS
      · rename_i y k rest
        split at hgo
        · cases hgo
        rename_i dl hdl
        have hm := hrho.1 _ _ hdl
        have key : ∀ (q : zi_Iv × Nat), q ∈ [(zi_T cnd y.toInt dl, a), (zi_T (zi_neg cnd) y.toInt dl, pc + 3)] → zi_mem (ρ k.toNat).toInt q.1 → W p l e R s m args below meth c H locs kc ks Q (F0 m q.2 ls (rest.map (zi_cv ρ b0 as))) := by
          intro q hq hqm
          obtain ⟨o, h1, h2⟩ := zi_bind_some hgo q hq
          have hne : q.1.isEmpty = false := by
            obtain ⟨y, hy, -⟩ := hqm
            cases hq1 : q.1 with
            | nil => rw [hq1] at hy; cases hy
            | cons _ _ => rfl
          rw [hne] at h1
          exact ih _ _ _ _ _ _ _ _ h1 (fun y hy => hos y (h2 y hy)) (zi_rho_set hrho hqm) hkc hks as H locs ls has hln hl hP hD hS
        refine zi_Wicmp (x := ρ k.toNat) (y := y) hx hb hdg e2 (fun hc => ?_) (fun hc => ?_)
        · exact key (_, _) List.mem_cons_self (zi_T_mem hm (zi_lo _) (zi_hi _) (zi_cmp_hold.mp hc))
        · refine key (_, _) (List.mem_cons_of_mem _ List.mem_cons_self) (zi_T_mem hm (zi_lo _) (zi_hi _) ?_)
          rcases zi_hold_neg cnd (ρ k.toNat).toInt y.toInt with h1 | h1
          · exact absurd (zi_cmp_hold.mpr h1) hc
          · exact h1
      · rename_i k x rest
        split at hgo
        · cases hgo
        rename_i dl hdl
        have hm := hrho.1 _ _ hdl
        have key : ∀ (q : zi_Iv × Nat), q ∈ [(zi_T (zi_swap cnd) x.toInt dl, a), (zi_T (zi_neg (zi_swap cnd)) x.toInt dl, pc + 3)] → zi_mem (ρ k.toNat).toInt q.1 → W p l e R s m args below meth c H locs kc ks Q (F0 m q.2 ls (rest.map (zi_cv ρ b0 as))) := by
          intro q hq hqm
          obtain ⟨o, h1, h2⟩ := zi_bind_some hgo q hq
          have hne : q.1.isEmpty = false := by
            obtain ⟨y, hy, -⟩ := hqm
            cases hq1 : q.1 with
            | nil => rw [hq1] at hy; cases hy
            | cons _ _ => rfl
          rw [hne] at h1
          exact ih _ _ _ _ _ _ _ _ h1 (fun y hy => hos y (h2 y hy)) (zi_rho_set hrho hqm) hkc hks as H locs ls has hln hl hP hD hS
        refine zi_Wicmp (x := x) (y := ρ k.toNat) hx hb hdg e2 (fun hc => ?_) (fun hc => ?_)
        · exact key (_, _) List.mem_cons_self (zi_T_mem hm (zi_lo _) (zi_hi _) (zi_hold_swap.mpr (zi_cmp_hold.mp hc)))
        · refine key (_, _) (List.mem_cons_of_mem _ List.mem_cons_self) (zi_T_mem hm (zi_lo _) (zi_hi _) ?_)
          rcases zi_hold_neg (zi_swap cnd) (ρ k.toNat).toInt x.toInt with h1 | h1
          · exact absurd (zi_cmp_hold.mpr (zi_hold_swap.mp h1)) hc
          · exact h1
      · cases hgo
    · -- tableswitch
      rename_i dflt lo hi' offs hi
      obtain ⟨pc, i, ln, a, b, t, v⟩ := r
      dsimp only at hi hgo hdg hlen hok hask hfind hrm ⊢
      subst hi
      have e2 : offs.size = (hi' - lo + 1).toNat := of_decide_eq_true hok
      split at hgo
      · rename_i x rest
        split at hgo
        · rename_i hc
          split at hgo
          · rename_i ht
            exact lv_tableOut hx hb hdg hc ht (ih _ _ _ _ _ _ _ _ hgo hos hrho hkc hks as H locs ls has hln hl hP hD hS)
          · cases hgo
        · rename_i hc
          split at hgo
          · rename_i off hoff
            split at hgo
            · rename_i ht
              exact lv_tableIn hx hb hdg (fun q => hc (Or.inl q)) (fun q => hc (Or.inr q)) hoff ht (ih _ _ _ _ _ _ _ _ hgo hos hrho hkc hks as H locs ls has hln hl hP hD hS)
            · cases hgo
          · cases hgo
      · rename_i k rest
        split at hgo
        · cases hgo
        rename_i dl hdl
        have hm := hrho.1 _ _ hdl
        have key : ∀ (q : zi_Iv × Int), q ∈ ((zi_T .lt lo dl, dflt) :: (zi_T .gt hi' dl, dflt) :: (List.range (hi' - lo + 1).toNat).map (fun (j : Nat) => (zi_T .eq (lo + (j : Int)) dl, offs[j]?.getD 0))) → zi_mem (ρ k.toNat).toInt q.1 → ∃ tg : Nat, (pc : Int) + q.2 = (tg : Int) ∧ W p l e R s m args below meth c H locs kc ks Q (F0 m tg ls (rest.map (zi_cv ρ b0 as))) := by
          intro q hq hqm
          obtain ⟨o, h1, h2⟩ := zi_bind_some hgo q hq
          have hne : q.1.isEmpty = false := by
            obtain ⟨y, hy, -⟩ := hqm
            cases hq1 : q.1 with
            | nil => rw [hq1] at hy; cases hy
            | cons _ _ => rfl
          rw [hne] at h1
          simp only [Bool.false_eq_true, if_false] at h1
          split at h1
          · rename_i ht
            exact ⟨_, ht, ih _ _ _ _ _ _ _ _ h1 (fun y hy => hos y (h2 y hy)) (zi_rho_set hrho hqm) hkc hks as H locs ls has hln hl hP hD hS⟩
          · cases h1
        by_cases c1 : (ρ k.toNat).toInt < lo
        · obtain ⟨tg, g1, g2⟩ := key (_, _) List.mem_cons_self (zi_T_mem (c := .lt) hm (zi_lo _) (zi_hi _) c1)
          exact lv_tableOut (x := ρ k.toNat) hx hb hdg (Or.inl c1) g1 g2
        · by_cases c2 : hi' < (ρ k.toNat).toInt
          · obtain ⟨tg, g1, g2⟩ := key (_, _) (List.mem_cons_of_mem _ List.mem_cons_self) (zi_T_mem (c := .gt) hm (zi_lo _) (zi_hi _) c2)
            exact lv_tableOut (x := ρ k.toNat) hx hb hdg (Or.inr c2) g1 g2
          · have hj : ((ρ k.toNat).toInt - lo).toNat < (hi' - lo + 1).toNat := by omega
            obtain ⟨tg, g1, g2⟩ := key (_, _) (List.mem_cons_of_mem _ (List.mem_cons_of_mem _ (List.mem_map.mpr ⟨((ρ k.toNat).toInt - lo).toNat, List.mem_range.mpr hj, rfl⟩))) (zi_T_mem (c := .eq) hm (zi_lo _) (zi_hi _) (show (ρ k.toNat).toInt = lo + (((ρ k.toNat).toInt - lo).toNat : Int) by omega))
            have hs : offs[((ρ k.toNat).toInt - lo).toNat]? = some (offs[((ρ k.toNat).toInt - lo).toNat]?.getD 0) := by
              rw [← e2] at hj
              simp [hj]
            exact lv_tableIn (x := ρ k.toNat) hx hb hdg c1 c2 hs g1 g2
      · cases hgo
    · -- invokespecial
      rename_i j hi
      obtain ⟨pc, i, ln, a, b, t, v⟩ := r
      dsimp only at hi hgo hdg hlen hok hask hfind hrm ⊢
      subst hi
      have e1 : ln = 3 := of_decide_eq_true hlen
      subst e1
      split at hgo
      · rename_i ha
        subst ha
        split at hgo
        · rename_i x rest
          split at hgo
          · rename_i hr4
            have hok : zi_tb t (.methodLink own j objectInit) = true := hok
            have hcs := zi_catsum (rest.map (zi_cv ρ b0 as))
            rw [List.length_map] at hcs
            refine W.objInit (a := as.getD x 0) (rest := rest.map (zi_cv ρ b0 as)) hx hb hown (hts _ (zi_tb_in hok)) (hts _ hoI) (hts _ hoC) rfl (by rw [hml]; exact hl.1) rfl hdg (by omega) (by show 2 * 0 + _ + 12 ≤ _; omega) ?_
            exact ih _ _ _ _ _ _ _ _ hgo hos hrho hkc hks as H locs ls has hln hl hP hD hS
          · cases hgo
        · cases hgo
      · rename_i ha
        split at hgo
        · cases hgo
        rename_i mt hmt
        split at hgo
        · rename_i hc
          obtain ⟨c1, c2, c3, c4, c56⟩ := hc
          split at hgo
          · rename_i x tl hvs
            have key : ∀ os1, call a (.ref (x + 1) :: tl) h d = some os1 → zi_bind os1 (fun o => zi_go ms scr nL ret code0 mc mS call n (pc + 3) L (o.2.1.toList ++ st.drop b) o.2.2 o.1 (kc + mt.2.2.2.2.2.1) (ks + mt.2.2.2.2.2.2)) = some os → W p l e R s m args below meth c H locs kc ks Q (F0 m pc ls (st.map (zi_cv ρ b0 as))) := by
              intro os1 hcl1 hgo
              obtain ⟨m1, m2, m3, m4, m5, -⟩ := hms a mt hmt
              unfold zi_ok at hok
              dsimp only at hok
              rw [if_neg ha, hmt] at hok
              have hst : st = st.take b ++ st.drop b := (List.take_append_drop b st).symm
              have hcs := zi_catsum ((st.drop b).map (zi_cv ρ b0 as))
              rw [List.length_map] at hcs
              have hM := hcall a mt hmt (.ref (x + 1) :: tl) h d os1 hcl1 ρ b0 as cy D H.size hrho hln
              have hblind := zi_blind (ρ := ρ) (b0 := b0) (as := as) (cy := cy) (D := D) (sz := H.size) (h := h) (vs := .ref (x + 1) :: tl)
              have hpre := zi_pre (vs := .ref (x + 1) :: tl) hP hK hD hN
              have hgood := zi_goodM hms hmt
              have hR : (zi_rm mt dp).frames + 1 ≤ R.frames ∧ 8 + (mt.2.2.1 + 11) + (zi_rm mt dp).locals ≤ R.locals := ⟨hRf, by show 8 + (mt.2.2.1 + 11) + 40 * dp ≤ R.locals; omega⟩
              have hvl : (st.take b).reverse.length = b := by simp [c4]
              have htk : st.take b = tl.reverse ++ [.ref (x + 1)] := by
                have := congrArg List.reverse hvs
                simpa using this
              have hstk : (st.map (zi_cv ρ b0 as)) = (tl.map (zi_cv ρ b0 as)).reverse ++ .ref (as.getD x 0) :: (st.drop b).map (zi_cv ρ b0 as) := by
                conv => lhs; rw [hst, htk]
                simp [zi_cv]
              have hnl : (tl.map (zi_cv ρ b0 as)).length = b - 1 := by
                rw [hvs] at hvl
                simp only [List.length_cons] at hvl
                rw [List.length_map]
                omega
              cases hmt2 : zi_mt[a]? with
              | none => rw [hmt2] at hok; cases hok
              | some g =>
                rw [hmt2] at hok
                simp only [Bool.and_eq_true, decide_eq_true_eq] at hok
                obtain ⟨⟨⟨⟨⟨k1, k2⟩, k3⟩, k4⟩, k5⟩, k6⟩ := hok
                have kfin : ∀ (hr : va_Run p l e R s m args below meth c H locs kc ks mt.2.2.2.2.2.1 mt.2.2.2.2.2.2 (F0 m pc ls (st.map (zi_cv ρ b0 as))) ((st.drop b).map (zi_cv ρ b0 as)) (zi_Qc ρ b0 as cy D H.size h mt.2.2.2.2.2.1 os1 ((Value.ref (x + 1) :: tl).map (zi_cv ρ b0 as)).toArray) (va_A (zi_w ρ b0 as cy h) H.size)), W p l e R s m args below meth c H locs kc ks Q (F0 m pc ls (st.map (zi_cv ρ b0 as))) := by
                  intro hr
                  refine zi_Wcall hr hA hD hS (fun o ho ro qs H1 locs1 q1 q2 p1 p2 p3 => ?_)
                  obtain ⟨o1, g1, g2⟩ := zi_bind_some hgo o ho
                  obtain ⟨q0, e0, l0⟩ := has
                  have h3 := ih _ _ _ _ _ _ _ _ g1 (fun y hy => hos y (g2 y hy)) ro c2 c3 (as ++ qs) H1 locs1 ls ⟨q0 ++ qs, by rw [e0, List.append_assoc], by rw [List.length_append]; omega⟩ q2 (by rw [zi_lc_call c56 hln q1]; exact hl) p1 p2 p3
                  rw [List.map_append] at h3
                  rw [zi_cvl_call c56 hln q1] at h3
                  have e9 : (o.2.1.map (zi_cv ρ b0 (as ++ qs))).toList = o.2.1.toList.map (zi_cv ρ b0 (as ++ qs)) := by
                    cases o.2.1 <;> rfl
                  rw [e9]
                  exact h3
                apply kfin
                have hn : mt.2.2.2.1 = none := k5
                have hws : zi_wsM mt = Cond.code mt.1 mt.2.1 mt.2.2.1 none :: zi_Ts := by rw [← hn]
                unfold zi_lk at k1
                split at k1
                · exact va_runI (As := tl.map (zi_cv ρ b0 as)) (b := as.getD x 0) ⟨hx, hb, hml, hown, hts⟩ hM ⟨callB_of (b - 1) hts hgood hws rfl rfl (hts _ m2) (hts _ (zi_tb_in k1)) ⟨m4.1, m4.2, k3⟩ hR, k2, hts _ (zi_tb_in k6)⟩ ⟨hblind, hpre⟩ rfl hnl hl.1 hstk (lv_room (by omega)) hdg ⟨by omega, by omega⟩
                · have k1 := of_decide_eq_true k1
                  exact va_runIN (As := tl.map (zi_cv ρ b0 as)) (b := as.getD x 0) (host := RX5) ⟨hx, hb, hml, hown, hts⟩ hM ⟨va_cnB (b - 1) hts hgood hws rfl rfl (hN.1 _ (List.mem_of_getElem? k1)) (hts _ m2) ⟨m4.1, m4.2, k3⟩ hR, k2, hts _ (zi_tb_in k6)⟩ ⟨hblind, hpre⟩ rfl hnl hl.1 hstk (lv_room (by omega)) hdg ⟨by omega, by omega⟩
            split at hgo
            · cases hgo
            · rename_i o1 hcl1
              exact key [o1] hcl1 (by rw [zi_bind_one]; exact hgo)
            · rename_i os1 hnone hcl1
              exact key os1 (by assumption) hgo
          · cases hgo
        · cases hgo
    · -- lookupswitch
      rename_i dflt ps hi
      obtain ⟨pc, i, ln, a, b, t, v⟩ := r
      dsimp only at hi hgo hdg hlen hok hask hfind hrm ⊢
      subst hi
      split at hgo
      · rename_i x rest
        split at hgo
        · rename_i ht
          exact lv_lookup hx hb hdg hok rfl ht (ih _ _ _ _ _ _ _ _ hgo hos hrho hkc hks as H locs ls has hln hl hP hD hS)
        · cases hgo
      · cases hgo
    · -- invokestatic
      rename_i j hi
      obtain ⟨pc, i, ln, a, b, t, v⟩ := r
      dsimp only at hi hgo hdg hlen hok hask hfind hrm ⊢
      subst hi
      have e1 : ln = 3 := of_decide_eq_true hlen
      subst e1
      split at hgo
      · rename_i ha
        subst ha
        split at hgo
        · rename_i n0 dpp r1 sp r0 rest
          split at hgo
          · rename_i hr4
            split at hgo
            · rename_i h' hcp
              have hok : zi_tb t (.methodLink own j arraycopyName) = true := hok
              have hcs := zi_catsum (rest.map (zi_cv ρ b0 as))
              rw [List.length_map] at hcs
              unfold zi_cpy at hcp
              split at hcp
              · rename_i l0 l1 h0 h1
                split at hcp
                · cases hcp
                · rename_i hc
                  cases hcp
                  have he0 := zi_w_get (ρ := ρ) (b := b0) (as := as) (cy := cy) h0
                  have he1 := zi_w_get (ρ := ρ) (b := b0) (as := as) (cy := cy) h1
                  rw [zi_ce_int] at he0 he1
                  have hnf : nativeFrameWords "java/lang/System" "arraycopy" 5 ≤ 21 := by decide
                  refine va_copyi hx hb (by rw [hml]; exact hl.1.symm) hown (hts _ (zi_tb_in hok)) (hts _ hcN) (hts _ hcS) (hts _ hcI) hK hP hD hS r0 r1 0 0 he0 he1 rfl rfl rfl (fun q => hc (Or.inl q)) (fun q => hc (Or.inr (Or.inl q))) (fun q => hc (Or.inr (Or.inr (Or.inl q)))) (Nat.not_lt.mp fun q => hc (Or.inr (Or.inr (Or.inr (Or.inl q))))) (Nat.not_lt.mp fun q => hc (Or.inr (Or.inr (Or.inr (Or.inr q))))) (fun _ _ => rfl) (by omega) (by show ((rest.map (zi_cv ρ b0 as)).map fun v => v.category).sum + _ ≤ _; omega) hdg (fun H1 locs1 p1 p2 p3 => ?_)
                  have h4 : sp.toNatClampNeg + n0.toNatClampNeg ≤ l0.length := Nat.not_lt.mp fun q => hc (Or.inr (Or.inr (Or.inr (Or.inl q))))
                  have h5 : dpp.toNatClampNeg + n0.toNatClampNeg ≤ l1.length := Nat.not_lt.mp fun q => hc (Or.inr (Or.inr (Or.inr (Or.inr q))))
                  have ew : (zi_w ρ b0 as cy h).set r1 (as.getD r1 0, .inl (cy 7, l1.length, .inl (va_cpy (fun i => zi_iv ρ (l0.getD i (.int 0))) (fun i => zi_iv ρ (l1.getD i (.int 0))) sp.toNatClampNeg dpp.toNatClampNeg n0.toNatClampNeg))) = zi_w ρ b0 as cy (h.set r1 (7, l1.take dpp.toNatClampNeg ++ ((l0.drop sp.toNatClampNeg).take n0.toNatClampNeg ++ l1.drop (dpp.toNatClampNeg + n0.toNatClampNeg)))) := by
                    rw [zi_w_set, zi_ce_int, zi_cpyf h4 h5, zi_cpyl h4 h5]
                  rw [ew] at p1 p2
                  exact ih _ _ _ _ _ _ _ _ hgo hos hrho hkc hks as H1 locs1 ls has (by rw [List.length_set]; exact hln) hl p1 p2 p3
              · cases hcp
            · cases hgo
          · cases hgo
        · cases hgo
      · rename_i ha
        split at hgo
        · cases hgo
        rename_i mt hmt
        split at hgo
        · rename_i hc
          obtain ⟨c1, c2, c3, c4, c56⟩ := hc
          have key : ∀ os1, call a ((st.take b).reverse) h d = some os1 → zi_bind os1 (fun o => zi_go ms scr nL ret code0 mc mS call n (pc + 3) L (o.2.1.toList ++ st.drop b) o.2.2 o.1 (kc + mt.2.2.2.2.2.1) (ks + mt.2.2.2.2.2.2)) = some os → W p l e R s m args below meth c H locs kc ks Q (F0 m pc ls (st.map (zi_cv ρ b0 as))) := by
            intro os1 hcl1 hgo
            obtain ⟨m1, m2, m3, m4, m5, -⟩ := hms a mt hmt
            unfold zi_ok at hok
            dsimp only at hok
            rw [if_neg ha, hmt] at hok
            have hvl : (st.take b).reverse.length = b := by simp [c4]
            have hst : st = st.take b ++ st.drop b := (List.take_append_drop b st).symm
            have hcs := zi_catsum ((st.drop b).map (zi_cv ρ b0 as))
            rw [List.length_map] at hcs
            have hM := hcall a mt hmt ((st.take b).reverse) h d os1 hcl1 ρ b0 as cy D H.size hrho hln
            have hblind := zi_blind (ρ := ρ) (b0 := b0) (as := as) (cy := cy) (D := D) (sz := H.size) (h := h) (vs := (st.take b).reverse)
            have hpre := zi_pre (vs := (st.take b).reverse) hP hK hD hN
            have hgood := zi_goodM hms hmt
            have hR : (zi_rm mt dp).frames + 1 ≤ R.frames ∧ 8 + (mt.2.2.1 + 11) + (zi_rm mt dp).locals ≤ R.locals := ⟨hRf, by show 8 + (mt.2.2.1 + 11) + 40 * dp ≤ R.locals; omega⟩
            have hstk : (st.map (zi_cv ρ b0 as)) = ((st.take b).reverse.map (zi_cv ρ b0 as)).reverse ++ (st.drop b).map (zi_cv ρ b0 as) := by
              conv => lhs; rw [hst]
              rw [List.map_append]
              congr 1
              rw [← List.map_reverse, List.reverse_reverse]
            have hnl : ((st.take b).reverse.map (zi_cv ρ b0 as)).length = b := by rw [List.length_map]; exact hvl
            cases hmt2 : zi_mt[a]? with
            | none => rw [hmt2] at hok; cases hok
            | some g =>
              rw [hmt2] at hok
              simp only [Bool.and_eq_true, decide_eq_true_eq] at hok
              obtain ⟨⟨k1, k3⟩, k6⟩ := hok
              have kfin : ∀ (hr : va_Run p l e R s m args below meth c H locs kc ks mt.2.2.2.2.2.1 mt.2.2.2.2.2.2 (F0 m pc ls (st.map (zi_cv ρ b0 as))) ((st.drop b).map (zi_cv ρ b0 as)) (zi_Qc ρ b0 as cy D H.size h mt.2.2.2.2.2.1 os1 ((st.take b).reverse.map (zi_cv ρ b0 as)).toArray) (va_A (zi_w ρ b0 as cy h) H.size)), W p l e R s m args below meth c H locs kc ks Q (F0 m pc ls (st.map (zi_cv ρ b0 as))) := by
                intro hr
                refine zi_Wcall hr hA hD hS (fun o ho ro qs H1 locs1 q1 q2 p1 p2 p3 => ?_)
                obtain ⟨o1, g1, g2⟩ := zi_bind_some hgo o ho
                obtain ⟨q0, e0, l0⟩ := has
                have h3 := ih _ _ _ _ _ _ _ _ g1 (fun y hy => hos y (g2 y hy)) ro c2 c3 (as ++ qs) H1 locs1 ls ⟨q0 ++ qs, by rw [e0, List.append_assoc], by rw [List.length_append]; omega⟩ q2 (by rw [zi_lc_call c56 hln q1]; exact hl) p1 p2 p3
                rw [List.map_append] at h3
                rw [zi_cvl_call c56 hln q1] at h3
                have e9 : (o.2.1.map (zi_cv ρ b0 (as ++ qs))).toList = o.2.1.toList.map (zi_cv ρ b0 (as ++ qs)) := by
                  cases o.2.1 <;> rfl
                rw [e9]
                exact h3
              apply kfin
              unfold zi_lk at k1
              split at k1
              · exact va_runS (As := (st.take b).reverse.map (zi_cv ρ b0 as)) ⟨hx, hb, hml, hown, hts⟩ hM ⟨callB_of b hts hgood rfl rfl rfl (hts _ m2) (hts _ (zi_tb_in k1)) ⟨m4.1, m4.2, k3⟩ hR, hts _ (zi_tb_in k6)⟩ ⟨hblind, hpre⟩ rfl hnl hl.1 hstk (lv_room (by omega)) hdg ⟨by omega, by omega⟩
              · have k1 := of_decide_eq_true k1
                exact va_runSN (As := (st.take b).reverse.map (zi_cv ρ b0 as)) (host := RX5) ⟨hx, hb, hml, hown, hts⟩ hM ⟨va_cnB b hts hgood rfl rfl rfl (hN.1 _ (List.mem_of_getElem? k1)) (hts _ m2) ⟨m4.1, m4.2, k3⟩ hR, hts _ (zi_tb_in k6), trivial⟩ ⟨hblind, hpre⟩ rfl hnl hl.1 hstk (lv_room (by omega)) hdg ⟨by omega, by omega⟩
          split at hgo
          · cases hgo
          · rename_i o1 hcl1
            exact key [o1] hcl1 (by rw [zi_bind_one]; exact hgo)
          · rename_i os1 hnone hcl1
            exact key os1 (by assumption) hgo
        · cases hgo
    · -- invokevirtual
      rename_i j hi
      obtain ⟨pc, i, ln, a, b, t, v⟩ := r
      dsimp only at hi hgo hdg hlen hok hask hfind hrm ⊢
      subst hi
      have e1 : ln = 3 := of_decide_eq_true hlen
      subst e1
      split at hgo
      · cases hgo
      rename_i mt hmt
      split at hgo
      · rename_i hc
        obtain ⟨c1, c2, c3, c4, c56⟩ := hc
        split at hgo
        · rename_i x tl hvs
          split at hgo
          · rename_i t' fs hxc
            split at hgo
            · rename_i hcx
              have key : ∀ os1, call a (.ref (x + 1) :: tl) h d = some os1 → zi_bind os1 (fun o => zi_go ms scr nL ret code0 mc mS call n (pc + 3) L (o.2.1.toList ++ st.drop b) o.2.2 o.1 (kc + mt.2.2.2.2.2.1) (ks + mt.2.2.2.2.2.2)) = some os → W p l e R s m args below meth c H locs kc ks Q (F0 m pc ls (st.map (zi_cv ρ b0 as))) := by
                intro os1 hcl1 hgo
                obtain ⟨m1, m2, m3, m4, m5, -⟩ := hms a mt hmt
                unfold zi_ok at hok
                dsimp only at hok
                rw [hmt] at hok
                have hst : st = st.take b ++ st.drop b := (List.take_append_drop b st).symm
                have hcs := zi_catsum ((st.drop b).map (zi_cv ρ b0 as))
                rw [List.length_map] at hcs
                have hM := hcall a mt hmt (.ref (x + 1) :: tl) h d os1 hcl1 ρ b0 as cy D H.size hrho hln
                have hblind := zi_blind (ρ := ρ) (b0 := b0) (as := as) (cy := cy) (D := D) (sz := H.size) (h := h) (vs := .ref (x + 1) :: tl)
                have hpre := zi_pre (vs := .ref (x + 1) :: tl) hP hK hD hN
                have hgood := zi_goodM hms hmt
                have hR : (zi_rm mt dp).frames + 1 ≤ R.frames ∧ 8 + (mt.2.2.1 + 11) + (zi_rm mt dp).locals ≤ R.locals := ⟨hRf, by show 8 + (mt.2.2.1 + 11) + 40 * dp ≤ R.locals; omega⟩
                have hvl : (st.take b).reverse.length = b := by simp [c4]
                have htk : st.take b = tl.reverse ++ [.ref (x + 1)] := by
                  have := congrArg List.reverse hvs
                  simpa using this
                have hstk : (st.map (zi_cv ρ b0 as)) = (tl.map (zi_cv ρ b0 as)).reverse ++ .ref (as.getD x 0) :: (st.drop b).map (zi_cv ρ b0 as) := by
                  conv => lhs; rw [hst, htk]
                  simp [zi_cv]
                have hnl : (tl.map (zi_cv ρ b0 as)).length = b - 1 := by
                  rw [hvs] at hvl
                  simp only [List.length_cons] at hvl
                  rw [List.length_map]
                  omega
                cases hmt2 : zi_mt[a]? with
                | none => rw [hmt2] at hok; cases hok
                | some g =>
                  rw [hmt2] at hok
                  simp only [Bool.and_eq_true, decide_eq_true_eq] at hok
                  obtain ⟨⟨⟨⟨⟨⟨k1, k3⟩, k4⟩, k5⟩, k7⟩, k6⟩, k8⟩ := hok
                  split at k5
                  · rename_i q hq
                    have k5 : q.1 = mt.1.cls := of_decide_eq_true k5
                    have e7 : v.toNat = t' := by omega
                    rw [e7] at hq
                    have he := zi_w_get (ρ := ρ) (b := b0) (as := as) (cy := cy) hxc
                    rw [zi_ce_obj hcx.2] at he
                    have hrv := va_recv hK hP hq he
                    rw [k5] at hrv
                    have kfin : ∀ (hr : va_Run p l e R s m args below meth c H locs kc ks mt.2.2.2.2.2.1 mt.2.2.2.2.2.2 (F0 m pc ls (st.map (zi_cv ρ b0 as))) ((st.drop b).map (zi_cv ρ b0 as)) (zi_Qc ρ b0 as cy D H.size h mt.2.2.2.2.2.1 os1 ((Value.ref (x + 1) :: tl).map (zi_cv ρ b0 as)).toArray) (va_A (zi_w ρ b0 as cy h) H.size)), W p l e R s m args below meth c H locs kc ks Q (F0 m pc ls (st.map (zi_cv ρ b0 as))) := by
                      intro hr
                      refine zi_Wcall hr hA hD hS (fun o ho ro qs H1 locs1 q1 q2 p1 p2 p3 => ?_)
                      obtain ⟨o1, g1, g2⟩ := zi_bind_some hgo o ho
                      obtain ⟨q0, e0, l0⟩ := has
                      have h3 := ih _ _ _ _ _ _ _ _ g1 (fun y hy => hos y (g2 y hy)) ro c2 c3 (as ++ qs) H1 locs1 ls ⟨q0 ++ qs, by rw [e0, List.append_assoc], by rw [List.length_append]; omega⟩ q2 (by rw [zi_lc_call c56 hln q1]; exact hl) p1 p2 p3
                      rw [List.map_append] at h3
                      rw [zi_cvl_call c56 hln q1] at h3
                      have e9 : (o.2.1.map (zi_cv ρ b0 (as ++ qs))).toList = o.2.1.toList.map (zi_cv ρ b0 (as ++ qs)) := by
                        cases o.2.1 <;> rfl
                      rw [e9]
                      exact h3
                    apply kfin
                    exact va_runV (As := tl.map (zi_cv ρ b0 as)) (b := as.getD x 0) (C := mt.1.cls) ⟨hx, hb, hml, hown, hts⟩ hM ⟨callB_of (b - 1) hts hgood rfl rfl rfl (hts _ m2) (hts _ (zi_tb_in k1)) ⟨m4.1, m4.2, k3⟩ hR, hts _ (zi_tb_in k6), hts _ (zi_tb_in k8)⟩ ⟨hblind, hrv, hpre⟩ rfl hnl hl.1 hstk (lv_room (by omega)) hdg ⟨by omega, by omega⟩
                  · cases k5
              split at hgo
              · cases hgo
              · rename_i o1 hcl1
                exact key [o1] hcl1 (by rw [zi_bind_one]; exact hgo)
              · rename_i os1 hnone hcl1
                exact key os1 (by assumption) hgo
            · cases hgo
          · cases hgo
        · cases hgo
      · cases hgo
    · -- the rest
      split at hgo
      · rename_i st' h' k1 k2 hnew
        split at hgo
        · rename_i hc
          obtain ⟨c1, c2, c3, c4, c5⟩ := hc
          refine zi_new_sound hx hb hown hts hcl hAI hAZ hN.2.1 hN.2.2.1 hN.2.2.2 hK hA hdg hlen hok hnew (by omega) (by omega) c3 c4 c5 hln hl hP hD hS (fun qs H1 p1 p2 p3 p4 p5 p6 => ?_)
          obtain ⟨q0, e0, l0⟩ := has
          exact ih _ _ _ _ _ _ _ _ hgo hos hrho c1 c2 (as ++ qs) H1 locs ls ⟨q0 ++ qs, by rw [e0, List.append_assoc], by rw [List.length_append]; omega⟩ p5 p4 p1 p2 p3
        · cases hgo
      · split at hgo
        · rename_i L' st' h' hstep
          exact zi_step_sound hx hb hown hts hcl hini hX hK hrho hdg hlen hok hstep hl hP hD hS (fun H1 locs1 ls1 p1 p2 p3 p4 p5 => ih _ _ _ _ _ _ _ _ hgo hos hrho hkc hks as H1 locs1 ls1 has (by rw [p5]; exact hln) p4 p1 p2 p3)
        · cases hgo
end ZA
