section ZW
variable {p : Program} {l : Launch} {e : Env} {R : Room} {s : State} {m : MethodId} {args : Array Value} {below : List Frame} {meth : Method} {c : Code} {H : Heap} {locs : List Loc} {cells slots : Nat} {Q : State → Prop}
variable {cc : ByteArray} {ls : Array Slot} {D : va_G} {A : Nat → Prop} {tys : List (ClassId × FieldType)} {H0 : Heap}
variable {ρ : Nat → Int32} {b0 : Nat} {as : List Nat} {cy : Nat → ClassId} {own : String} {ini : Bool} {ms : List zi_Me} {scr : Option (List Value)} {nL : Nat} {d : zi_Dm}
theorem zi_Waald {pc : Nat} {rest : List Value} {cl : List vw_C} {ws : va_W} {a : Nat} (hexec : p.tables.exec = Jvm.exec) (hb : c.code = cc) (hK : va_K D cl tys s) (hP : va_P D cl ws H) (q0 t0 : Nat) {cA : ClassId} {ty : FieldType} (hty : ty.isReference = true) {n : Nat} {f : Nat → Option Nat} (ha : ws[q0]? = some (a, .inl (cA, n, .inr (.inr (.inr (.inr f)))))) (ht : tys[t0]? = some (cA, ty)) {i : Int32} (hin : vp_in i n) (hdg : decode cc pc = .ok (.aaload, 1))
    (kk : W p l e R s m args below meth c H locs cells slots Q (F0 m (pc + 1) ls (va_rf (f i.toNatClampNeg) :: rest))) : W p l e R s m args below meth c H locs cells slots Q (F0 m pc ls (.int i :: .ref a :: rest)) := by
  have hlt : i.toNatClampNeg < n := Nat.not_le.mp fun q => hin (Or.inr q)
  exact W.aald (v := va_rf (f i.toNatClampNeg)) (ty := ty) hexec hb (hP q0 _ ha) ((hK.2 t0 _ ht).1 n (fun j => va_rf (f j))) hty (fun q => by cases q) (by show ¬ (i < 0 ∨ (arrV _ _ _).slots.size ≤ _); rw [arrV_size]; exact hin) (by show (arrV _ _ _).slots[_]? = _; rw [arrV_read _ _ hlt]) rfl rfl hdg kk
def zi_tyOf (t : Nat) : FieldType := match t with
  | 7 => .int | 8 => .boolean | 9 => .object RX2 | 10 => .object RX4 | _ => .array .int
theorem zi_tys_at {t : Nat} (h1 : 7 ≤ t) (h2 : t ≤ 11) : (zi_tys cy)[t - 7]? = some (cy t, zi_tyOf t) := by
  match t, h1, h2 with
  | 7, _, _ => rfl
  | 8, _, _ => rfl
  | 9, _, _ => rfl
  | 10, _, _ => rfl
  | 11, _, _ => rfl
set_option maxHeartbeats 4000000 in
/-- an instruction that goes on behind itself -/
theorem zi_step_sound {r : zi_Row} {L L' : zi_Lc} {st st' : List Value} {h h' : zi_Hp}
    (hx : p.tables.exec = Jvm.exec) (hb : c.code = cc) (hown : s.vm.findClass own = some m.cls) (hts : ∀ w ∈ zi_Ts, w.before args s = true) (hcl : ∀ a q, vwCl[a]? = some q → zi_cok a q) (hini : ini = true → meth.name = "<init>")
    (hX : ∀ sl, scr = some sl → va_X b0 sl.length (fun j => zi_iv ρ (sl.getD j (.int 0))) s H0 ∧ b0 < H0.size ∧ ¬ A b0)
    (hK : va_K D vwCl (zi_tys cy) s) (hrho : zi_rho ρ d)
    (hdg : decode cc r.1 = .ok (r.2.1, r.2.2.1)) (hlen : zi_lok r = true) (hok : zi_ok own ini ms r = true) (hst : zi_step scr nL d r L st h = some (L', st', h'))
    (hl : lv_has ls nL (zi_lc ρ b0 as L)) (hP : va_P D vwCl (zi_w ρ b0 as cy h) H) (hD : va_D A (zi_w ρ b0 as cy h)) (hS : va_S A H0 H locs)
    (kk : ∀ (H1 : Heap) (locs1 : List Loc) (ls1 : Array Slot), va_P D vwCl (zi_w ρ b0 as cy h') H1 → va_D A (zi_w ρ b0 as cy h') → va_S A H0 H1 locs1 → lv_has ls1 nL (zi_lc ρ b0 as L') → h'.length = h.length → W p l e R s m args below meth c H1 locs1 cells slots Q (F0 m (r.1 + r.2.2.1) ls1 (st'.map (zi_cv ρ b0 as)))) :
    W p l e R s m args below meth c H locs cells slots Q (F0 m r.1 ls (st.map (zi_cv ρ b0 as))) := by
  obtain ⟨pc, i, ln, a, b, t, v⟩ := r
  dsimp only at hdg hlen hok hst kk ⊢
  unfold zi_step at hst
  dsimp only at hst
  split at hst
  · -- iconst
    simp only [Option.some.injEq, Prod.mk.injEq] at hst
    obtain ⟨rfl, rfl, rfl⟩ := hst
    have e : ln = 1 := of_decide_eq_true hlen
    subst e
    exact lv_iconst hx hb hdg rfl (kk H locs ls hP hD hS hl rfl)
  · -- bipush
    simp only [Option.some.injEq, Prod.mk.injEq] at hst
    obtain ⟨rfl, rfl, rfl⟩ := hst
    have e : ln = 2 := of_decide_eq_true hlen
    subst e
    exact lv_bipush hx hb hdg rfl (kk H locs ls hP hD hS hl rfl)
  · -- sipush
    simp only [Option.some.injEq, Prod.mk.injEq] at hst
    obtain ⟨rfl, rfl, rfl⟩ := hst
    have e : ln = 3 := of_decide_eq_true hlen
    subst e
    exact lv_sipush hx hb hdg rfl (kk H locs ls hP hD hS hl rfl)
  · -- ldc
    simp only [Option.some.injEq, Prod.mk.injEq] at hst
    obtain ⟨rfl, rfl, rfl⟩ := hst
    have e : ln = 2 := of_decide_eq_true hlen
    subst e
    exact lv_ldc hx hb hown (hts _ (zi_tb_in hok)) hdg (kk H locs ls hP hD hS hl rfl)
  · -- ldc_w
    simp only [Option.some.injEq, Prod.mk.injEq] at hst
    obtain ⟨rfl, rfl, rfl⟩ := hst
    have e : ln = 3 := of_decide_eq_true hlen
    subst e
    exact lv_ldcw hx hb hown (hts _ (zi_tb_in hok)) hdg (kk H locs ls hP hD hS hl rfl)
  · -- iload_n
    obtain ⟨x, h1, h2⟩ := Option.map_eq_some_iff.mp hst
    simp only [Prod.mk.injEq] at h2
    obtain ⟨rfl, rfl, rfl⟩ := h2
    have e : ln = 1 := of_decide_eq_true hlen
    subst e
    obtain ⟨h3, h4⟩ := zi_ld_at hrho hl h1
    have h5 := kk H locs ls hP hD hS hl rfl
    rw [List.map_cons, h4] at h5
    exact lv_iload_n hx hb hdg rfl h3 h5
  · -- iload
    obtain ⟨x, h1, h2⟩ := Option.map_eq_some_iff.mp hst
    simp only [Prod.mk.injEq] at h2
    obtain ⟨rfl, rfl, rfl⟩ := h2
    have e : ln = 2 := of_decide_eq_true hlen
    subst e
    obtain ⟨h3, h4⟩ := zi_ld_at hrho hl h1
    have h5 := kk H locs ls hP hD hS hl rfl
    rw [List.map_cons, h4] at h5
    exact lv_iload hx hb hdg h3 h5
  · -- aload_n
    obtain ⟨x, h1, h2⟩ := Option.map_eq_some_iff.mp hst
    simp only [Prod.mk.injEq] at h2
    obtain ⟨rfl, rfl, rfl⟩ := h2
    have e : ln = 1 := of_decide_eq_true hlen
    subst e
    obtain ⟨y, h3, h4⟩ := zi_lda_at hl h1
    have h5 := kk H locs ls hP hD hS hl rfl
    rw [List.map_cons, h4] at h5
    exact lv_aload_n hx hb hdg rfl h3 h5
  · -- aload
    obtain ⟨x, h1, h2⟩ := Option.map_eq_some_iff.mp hst
    simp only [Prod.mk.injEq] at h2
    obtain ⟨rfl, rfl, rfl⟩ := h2
    have e : ln = 2 := of_decide_eq_true hlen
    subst e
    obtain ⟨y, h3, h4⟩ := zi_lda_at hl h1
    have h5 := kk H locs ls hP hD hS hl rfl
    rw [List.map_cons, h4] at h5
    exact lv_aload hx hb hdg h3 h5
  · -- istore_n
    rename_i k
    split at hst
    · rename_i x rest
      split at hst
      · rename_i hc
        simp only [Option.some.injEq, Prod.mk.injEq] at hst
        obtain ⟨rfl, rfl, rfl⟩ := hst
        have e : ln = 1 := of_decide_eq_true hlen
        subst e
        rw [List.map_cons, zi_cv_iv hc.1]
        exact lv_istore_n hx hb hdg rfl hl hc.2 (by rw [← zi_set_lc, zi_cv_iv hc.1]) (fun ls1 hl1 => kk H locs ls1 hP hD hS hl1 rfl)
      · cases hst
    · cases hst
  · -- istore
    rename_i k
    split at hst
    · rename_i x rest
      split at hst
      · rename_i hc
        simp only [Option.some.injEq, Prod.mk.injEq] at hst
        obtain ⟨rfl, rfl, rfl⟩ := hst
        have e : ln = 2 := of_decide_eq_true hlen
        subst e
        rw [List.map_cons, zi_cv_iv hc.1]
        exact lv_istore hx hb hdg hl hc.2 (by rw [← zi_set_lc, zi_cv_iv hc.1]) (fun ls1 hl1 => kk H locs ls1 hP hD hS hl1 rfl)
      · cases hst
    · cases hst
  · -- astore_n
    rename_i k
    split at hst
    · rename_i x rest
      split at hst
      · rename_i hc
        simp only [Option.some.injEq, Prod.mk.injEq] at hst
        obtain ⟨rfl, rfl, rfl⟩ := hst
        have e : ln = 1 := of_decide_eq_true hlen
        subst e
        obtain ⟨y, hy⟩ : ∃ y, zi_cv ρ b0 as (.ref x) = .ref y := by cases x <;> exact ⟨_, rfl⟩
        rw [List.map_cons, hy]
        exact lv_astore_n hx hb hdg rfl hl hc (by rw [← zi_set_lc, hy]) (fun ls1 hl1 => kk H locs ls1 hP hD hS hl1 rfl)
      · cases hst
    · cases hst
  · -- astore
    rename_i k
    split at hst
    · rename_i x rest
      split at hst
      · rename_i hc
        simp only [Option.some.injEq, Prod.mk.injEq] at hst
        obtain ⟨rfl, rfl, rfl⟩ := hst
        have e : ln = 2 := of_decide_eq_true hlen
        subst e
        obtain ⟨y, hy⟩ : ∃ y, zi_cv ρ b0 as (.ref x) = .ref y := by cases x <;> exact ⟨_, rfl⟩
        rw [List.map_cons, hy]
        exact lv_astore hx hb hdg hl hc (by rw [← zi_set_lc, hy]) (fun ls1 hl1 => kk H locs ls1 hP hD hS hl1 rfl)
      · cases hst
    · cases hst
  · -- iinc
    rename_i k n
    split at hst
    · rename_i x hg
      split at hst
      · rename_i hc
        simp only [Option.some.injEq, Prod.mk.injEq] at hst
        obtain ⟨rfl, rfl, rfl⟩ := hst
        have e : ln = 3 := of_decide_eq_true hlen
        subst e
        obtain ⟨j, hj⟩ : ∃ j : Nat, (zi_lc ρ b0 as L)[j]? = some (k, .int x) := by
          unfold zi_get at hg
          obtain ⟨q, hq, e⟩ := Option.map_eq_some_iff.mp hg
          have hm := List.mem_of_find?_eq_some hq
          have hk : q.1 = k := by simpa using List.find?_some hq
          refine List.getElem?_of_mem (List.mem_map.mpr ⟨q, hm, ?_⟩)
          rw [hk, e]
          rfl
        exact lv_iinc hx hb hdg hl hj rfl hc (by rw [← zi_set_lc]; rfl) (fun ls1 hl1 => kk H locs ls1 hP hD hS hl1 rfl)
      · cases hst
    · cases hst
  · -- iadd
    split at hst
    · simp only [Option.some.injEq, Prod.mk.injEq] at hst
      obtain ⟨rfl, rfl, rfl⟩ := hst
      have e : ln = 1 := of_decide_eq_true hlen
      subst e
      exact lv_iadd hx hb hdg (kk H locs ls hP hD hS hl rfl)
    · cases hst
  · -- isub
    split at hst
    · simp only [Option.some.injEq, Prod.mk.injEq] at hst
      obtain ⟨rfl, rfl, rfl⟩ := hst
      have e : ln = 1 := of_decide_eq_true hlen
      subst e
      exact lv_isub hx hb hdg (kk H locs ls hP hD hS hl rfl)
    · cases hst
  · -- imul
    split at hst
    · simp only [Option.some.injEq, Prod.mk.injEq] at hst
      obtain ⟨rfl, rfl, rfl⟩ := hst
      have e : ln = 1 := of_decide_eq_true hlen
      subst e
      exact lv_imul hx hb hdg (kk H locs ls hP hD hS hl rfl)
    · cases hst
  · -- iand
    split at hst
    · simp only [Option.some.injEq, Prod.mk.injEq] at hst
      obtain ⟨rfl, rfl, rfl⟩ := hst
      have e : ln = 1 := of_decide_eq_true hlen
      subst e
      exact lv_iand hx hb hdg (kk H locs ls hP hD hS hl rfl)
    · rename_i y k rest
      split at hst
      · rename_i hc
        simp only [Option.some.injEq, Prod.mk.injEq] at hst
        obtain ⟨rfl, rfl, rfl⟩ := hst
        have e : ln = 1 := of_decide_eq_true hlen
        subst e
        have h5 := kk H locs ls hP hD hS hl rfl
        have e5 : zi_cv ρ b0 as (.float 5) = .int (ρ 0 &&& 31) := by
          rw [← hrho.2]
          rfl
        rw [List.map_cons, e5] at h5
        have e0 : zi_cv ρ b0 as (.float k) = .int (ρ 0) := by
          show Value.int (ρ k.toNat) = _
          rw [hc.2]
        rw [List.map_cons, List.map_cons, e0, hc.1]
        exact lv_iand hx hb hdg h5
      · cases hst
    · cases hst
  · -- idiv
    split at hst
    · split at hst
      · cases hst
      · rename_i hc
        simp only [Option.some.injEq, Prod.mk.injEq] at hst
        obtain ⟨rfl, rfl, rfl⟩ := hst
        have e : ln = 1 := of_decide_eq_true hlen
        subst e
        exact lv_idiv hx hb hdg hc (kk H locs ls hP hD hS hl rfl)
    · cases hst
  · -- irem
    split at hst
    · split at hst
      · cases hst
      · rename_i hc
        simp only [Option.some.injEq, Prod.mk.injEq] at hst
        obtain ⟨rfl, rfl, rfl⟩ := hst
        have e : ln = 1 := of_decide_eq_true hlen
        subst e
        exact lv_irem hx hb hdg hc (kk H locs ls hP hD hS hl rfl)
    · cases hst
  · -- dup
    split at hst
    · split at hst
      · rename_i hc
        simp only [Option.some.injEq, Prod.mk.injEq] at hst
        obtain ⟨rfl, rfl, rfl⟩ := hst
        have e : ln = 1 := of_decide_eq_true hlen
        subst e
        exact lv_dup hx hb hdg (by rw [zi_cv_cat]; exact hc) (kk H locs ls hP hD hS hl rfl)
      · cases hst
    · cases hst
  · -- dup2
    split at hst
    · split at hst
      · rename_i hc
        simp only [Option.some.injEq, Prod.mk.injEq] at hst
        obtain ⟨rfl, rfl, rfl⟩ := hst
        have e : ln = 1 := of_decide_eq_true hlen
        subst e
        exact lv_dup2_11 hx hb hdg (by rw [zi_cv_cat]; exact hc.1) (by rw [zi_cv_cat]; exact hc.2) (kk H locs ls hP hD hS hl rfl)
      · cases hst
    · cases hst
  · -- getfield
    rename_i j
    split at hst
    · rename_i r rest
      obtain ⟨x, h1, h2⟩ := Option.map_eq_some_iff.mp hst
      simp only [Prod.mk.injEq] at h2
      obtain ⟨rfl, rfl, rfl⟩ := h2
      have e : ln = 3 := of_decide_eq_true hlen
      subst e
      unfold zi_gf at h1
      split at h1
      · rename_i t' fs hr
        split at h1
        · rename_i hc
          obtain ⟨rfl, h7⟩ := hc
          unfold zi_ok at hok
          dsimp only at hok
          split at hok
          · rename_i q hq
            simp only [Bool.and_eq_true, decide_eq_true_eq] at hok
            obtain ⟨⟨k1, k2⟩, k3⟩ := hok
            have he := zi_w_get (ρ := ρ) (b := b0) (as := as) (cy := cy) hr
            rw [zi_ce_obj h7] at he
            exact va_get (D := D) (ci := t') (C := q.1) (T := q.2.1) (N := q.2.2) hx hb hts (hcl _ _ hq).1 hown hK hP r he hq b k1 (hts _ (zi_tb_in k3)) (fun y hy => by rw [← k2]; exact hy) (by rw [List.getElem?_map, h1]; rfl) hdg (kk H locs ls hP hD hS hl rfl)
          · cases hok
        · cases h1
      · cases h1
    · cases hst
  · -- putfield
    rename_i j
    split at hst
    · rename_i x r rest
      obtain ⟨hn, h1, h2⟩ := Option.map_eq_some_iff.mp hst
      simp only [Prod.mk.injEq] at h2
      obtain ⟨rfl, rfl, rfl⟩ := h2
      have e : ln = 3 := of_decide_eq_true hlen
      subst e
      unfold zi_pf at h1
      split at h1
      · rename_i t' fs hr
        split at h1
        · rename_i hc
          obtain ⟨rfl, h7, hbl, hfit⟩ := hc
          cases h1
          unfold zi_ok at hok
          dsimp only at hok
          split at hok
          · rename_i q hq
            simp only [Bool.and_eq_true, Bool.or_eq_true, decide_eq_true_eq] at hok
            obtain ⟨⟨⟨k1, k2⟩, k3⟩, k4⟩ := hok
            have he := zi_w_get (ρ := ρ) (b := b0) (as := as) (cy := cy) hr
            rw [zi_ce_obj h7] at he
            have hcq := hcl _ _ hq
            obtain ⟨n1, n2⟩ := zi_fit_ok (ρ := ρ) (b0 := b0) (as := as) hfit
            have ew : (zi_w ρ b0 as cy h).set r (as.getD r 0, .inr (t', (fs.map (zi_cv ρ b0 as)).set b (zi_cv ρ b0 as x))) = zi_w ρ b0 as cy (h.set r (t', fs.set b x)) := by
              rw [zi_w_set, zi_ce_obj h7, List.map_set]
            have k9 : ∀ (H1 : Heap) (locs1 : List Loc), va_P D vwCl ((zi_w ρ b0 as cy h).set r (as.getD r 0, .inr (t', (fs.map (zi_cv ρ b0 as)).set b (zi_cv ρ b0 as x)))) H1 → va_D A ((zi_w ρ b0 as cy h).set r (as.getD r 0, .inr (t', (fs.map (zi_cv ρ b0 as)).set b (zi_cv ρ b0 as x)))) → va_S A H0 H1 locs1 → W p l e R s m args below meth c H1 locs1 cells slots Q (F0 m (pc + 3) ls (rest.map (zi_cv ρ b0 as))) := by
              intro H1 locs1 p1 p2 p3
              rw [ew] at p1 p2
              exact kk H1 locs1 ls p1 p2 p3 hl (List.length_set ..)
            rcases k4 with k4 | ⟨k4, k5⟩
            · exact va_put (D := D) (ci := t') (ty := zi_ty t' b) (C := q.1) (T := q.2.1) (N := q.2.2) hx hb hts hcq.1 (zi_ty t') hcq.2.1 hcq.2.2.1 hown hK hP hD hS r he hq b k1 (hts _ (zi_tb_in k3)) (fun y hy => by rw [← k2]; exact hy) k4 (hcq.2.1 b k1) n1 n2 (by rw [List.length_map]; exact hbl) hdg k9
            · by_cases k6 : (q.2.1 b).2.2.2 = false
              · exact va_put (D := D) (ci := t') (ty := zi_ty t' b) (C := q.1) (T := q.2.1) (N := q.2.2) hx hb hts hcq.1 (zi_ty t') hcq.2.1 hcq.2.2.1 hown hK hP hD hS r he hq b k1 (hts _ (zi_tb_in k3)) (fun y hy => by rw [← k2]; exact hy) k6 (hcq.2.1 b k1) n1 n2 (by rw [List.length_map]; exact hbl) hdg k9
              · exact va_putF (D := D) (ci := t') (ty := zi_ty t' b) (C := q.1) (T := q.2.1) (N := q.2.2) hx hb hts hcq.1 (zi_ty t') hcq.2.1 hcq.2.2.1 hown hK hP hD hS r he hq b k1 (hts _ (zi_tb_in k3)) (fun y hy => by rw [← k2]; exact hy) (by simpa using k6) (hini k4) (k2.trans k5) (hcq.2.1 b k1) n1 n2 (by rw [List.length_map]; exact hbl) hdg k9
          · cases hok
        · cases h1
      · cases h1
    · cases hst
  · -- iaload
    split at hst
    · rename_i j r rest
      obtain ⟨x, h1, h2⟩ := Option.map_eq_some_iff.mp hst
      simp only [Prod.mk.injEq] at h2
      obtain ⟨rfl, rfl, rfl⟩ := h2
      have e : ln = 1 := of_decide_eq_true hlen
      subst e
      have h5 := kk H locs ls hP hD hS hl rfl
      have hval : ∀ (sl : List Value) (y : Value), sl[j.toNatClampNeg]? = some y → zi_isI y = true → zi_cv ρ b0 as (zi_nm d y) = .int (zi_iv ρ (sl.getD j.toNatClampNeg (.int 0))) := by
        intro sl y hy hi
        rw [zi_nm_cv hrho, zi_cv_iv hi, List.getD_eq_getElem?_getD, hy]
        rfl
      unfold zi_iald at h1
      split at h1
      · split at h1
        · rename_i _ sl
          obtain ⟨x1, x2, x3⟩ := hX _ rfl
          split at h1
          · rename_i hin
            have hv : zi_cv ρ b0 as x = .int (zi_iv ρ (sl.getD j.toNatClampNeg (.int 0))) := by
              split at h1
              · rename_i y hy
                cases h1
                exact hval sl _ hy rfl
              · rename_i q hy
                cases h1
                exact hval sl _ hy rfl
              · cases h1
            rw [List.map_cons, hv] at h5
            exact va_sld hx hb x1 x2 x3 hS (zi_in_lt hin).1 hdg h5
          · cases h1
        · cases h1
      · rename_i r
        split at h1
        · rename_i sl hr
          split at h1
          · rename_i hin
            have hv : zi_cv ρ b0 as x = .int (zi_iv ρ (sl.getD j.toNatClampNeg (.int 0))) := by
              split at h1
              · rename_i y hy
                cases h1
                exact hval sl _ hy rfl
              · rename_i q hy
                cases h1
                exact hval sl _ hy rfl
              · cases h1
            rw [List.map_cons, hv] at h5
            have he := zi_w_get (ρ := ρ) (b := b0) (as := as) (cy := cy) hr
            rw [zi_ce_int] at he
            exact va_iald hx hb hK hP r 0 he rfl (zi_in_lt hin).1 hdg h5
          · cases h1
        · cases h1
    · cases hst
  · -- baload
    split at hst
    · rename_i j r rest
      obtain ⟨x, h1, h2⟩ := Option.map_eq_some_iff.mp hst
      simp only [Prod.mk.injEq] at h2
      obtain ⟨rfl, rfl, rfl⟩ := h2
      have e : ln = 1 := of_decide_eq_true hlen
      subst e
      have h5 := kk H locs ls hP hD hS hl rfl
      unfold zi_bald at h1
      split at h1
      · rename_i sl hr
        split at h1
        · rename_i hin
          split at h1
          · rename_i y hy
            cases h1
            have hv : y = zi_iv ρ (sl.getD j.toNatClampNeg (.int 0)) := by
              rw [List.getD_eq_getElem?_getD, hy]
              rfl
            rw [List.map_cons, hv] at h5
            have he := zi_w_get (ρ := ρ) (b := b0) (as := as) (cy := cy) hr
            rw [zi_ce_boo] at he
            exact va_zald hx hb hK hP r 1 he rfl (zi_in_lt hin).1 hdg h5
          · cases h1
        · cases h1
      · cases h1
    · cases hst
  · -- aaload
    split at hst
    · rename_i j r rest
      obtain ⟨x, h1, h2⟩ := Option.map_eq_some_iff.mp hst
      simp only [Prod.mk.injEq] at h2
      obtain ⟨rfl, rfl, rfl⟩ := h2
      have e : ln = 1 := of_decide_eq_true hlen
      subst e
      have h5 := kk H locs ls hP hD hS hl rfl
      unfold zi_aald at h1
      split at h1
      · rename_i t' sl hr
        split at h1
        · rename_i hin
          simp only [Bool.and_eq_true, decide_eq_true_eq] at hin
          have hv : zi_cv ρ b0 as x = va_rf (zi_rv as (sl.getD j.toNatClampNeg .null)) := by
            split at h1
            · rename_i y hy
              cases h1
              rw [List.getD_eq_getElem?_getD, hy]
              rfl
            · rename_i hy
              cases h1
              rw [List.getD_eq_getElem?_getD, hy]
              rfl
            · cases h1
          rw [List.map_cons, hv] at h5
          have he := zi_w_get (ρ := ρ) (b := b0) (as := as) (cy := cy) hr
          rw [zi_ce_ref hin.1.1] at he
          have hty : (zi_tyOf t').isReference = true := by
            obtain ⟨⟨g1, g2⟩, -⟩ := hin
            match t', g1, g2 with
            | 9, _, _ => rfl
            | 10, _, _ => rfl
            | 11, _, _ => rfl
          exact zi_Waald hx hb hK hP r (t' - 7) hty he (zi_tys_at (by omega) hin.1.2) (zi_in_lt hin.2).1 hdg h5
        · cases h1
      · cases h1
    · cases hst
  · -- iastore
    split at hst
    · rename_i x j r rest
      obtain ⟨hn, h1, h2⟩ := Option.map_eq_some_iff.mp hst
      simp only [Prod.mk.injEq] at h2
      obtain ⟨rfl, rfl, rfl⟩ := h2
      have e : ln = 1 := of_decide_eq_true hlen
      subst e
      unfold zi_iast at h1
      split at h1
      · rename_i sl hr
        split at h1
        · rename_i hin
          simp only [Bool.and_eq_true] at hin
          cases h1
          have he := zi_w_get (ρ := ρ) (b := b0) (as := as) (cy := cy) hr
          rw [zi_ce_int] at he
          rw [List.map_cons, zi_cv_iv hin.2]
          refine va_iast hx hb hK hP hD hS r 0 he rfl (zi_in_lt hin.1).1 hdg (fun H1 locs1 p1 p2 p3 => ?_)
          have ew : (zi_w ρ b0 as cy h).set r (as.getD r 0, .inl (cy 7, sl.length, .inl (upd (fun i => zi_iv ρ (sl.getD i (.int 0))) j.toNatClampNeg (zi_iv ρ x)))) = zi_w ρ b0 as cy (h.set r (7, sl.set j.toNatClampNeg x)) := by
            rw [zi_w_set, zi_ce_int, zi_upd (zi_in_lt hin.1).2, List.length_set]
          rw [ew] at p1 p2
          exact kk H1 locs1 ls p1 p2 p3 hl (List.length_set ..)
        · cases h1
      · cases h1
    · cases hst
  · -- bastore
    split at hst
    · rename_i x j r rest
      obtain ⟨hn, h1, h2⟩ := Option.map_eq_some_iff.mp hst
      simp only [Prod.mk.injEq] at h2
      obtain ⟨rfl, rfl, rfl⟩ := h2
      have e : ln = 1 := of_decide_eq_true hlen
      subst e
      unfold zi_bast at h1
      split at h1
      · rename_i sl hr
        split at h1
        · rename_i hin
          simp only [Bool.and_eq_true, Bool.or_eq_true, decide_eq_true_eq] at hin
          cases h1
          have he := zi_w_get (ρ := ρ) (b := b0) (as := as) (cy := cy) hr
          rw [zi_ce_boo] at he
          have hx1 : vp_nar .boolean x = x := by
            rcases hin.2 with rfl | rfl
            · decide
            · decide
          refine va_zast (x := x) hx hb hK hP hD hS r 1 he rfl (zi_in_lt hin.1).1 hdg (fun H1 locs1 p1 p2 p3 => ?_)
          have ew : (zi_w ρ b0 as cy h).set r (as.getD r 0, .inl (cy 8, sl.length, .inl (upd (fun i => zi_iv ρ (sl.getD i (.int 0))) j.toNatClampNeg (vp_nar .boolean x)))) = zi_w ρ b0 as cy (h.set r (8, sl.set j.toNatClampNeg (.int x))) := by
            rw [zi_w_set, zi_ce_boo, zi_upd (zi_in_lt hin.1).2, List.length_set, hx1]
            rfl
          rw [ew] at p1 p2
          exact kk H1 locs1 ls p1 p2 p3 hl (List.length_set ..)
        · cases h1
      · cases h1
    · cases hst
  · -- aastore
    split at hst
    · rename_i q j r rest
      obtain ⟨hn, h1, h2⟩ := Option.map_eq_some_iff.mp hst
      simp only [Prod.mk.injEq] at h2
      obtain ⟨rfl, rfl, rfl⟩ := h2
      have e : ln = 1 := of_decide_eq_true hlen
      subst e
      unfold zi_aast at h1
      split at h1
      · rename_i t' sl hr
        split at h1
        · rename_i hin
          simp only [Bool.and_eq_true, decide_eq_true_eq] at hin
          split at h1
          · rename_i ci vs hq
            split at h1
            · rename_i hci
              cases h1
              have h9 : 9 ≤ t' := by omega
              have he := zi_w_get (ρ := ρ) (b := b0) (as := as) (cy := cy) hr
              rw [zi_ce_ref h9] at he
              have hv := zi_w_get (ρ := ρ) (b := b0) (as := as) (cy := cy) hq
              have ew : (zi_w ρ b0 as cy h).set r (as.getD r 0, .inl (cy t', sl.length, .inr (.inr (.inr (.inr (va_up (fun i => zi_rv as (sl.getD i .null)) j.toNatClampNeg (some (as.getD q 0)))))))) = zi_w ρ b0 as cy (h.set r (t', sl.set j.toNatClampNeg (.ref (q + 1)))) := by
                rw [zi_w_set, zi_ce_ref h9, zi_updr (zi_in_lt hin.2).2, List.length_set]
              rcases hin.1 with rfl | rfl
              · have hci : ci = 2 := hci
                subst hci
                rw [zi_ce_obj (by omega)] at hv
                refine va_astq hx hb hK hP hD hS r 2 q 2 (r := (RX2, TX2, 4)) he rfl hv rfl (zi_in_lt hin.2).1 hdg (fun H1 locs1 p1 p2 p3 => ?_)
                rw [ew] at p1 p2
                exact kk H1 locs1 ls p1 p2 p3 hl (List.length_set ..)
              · have hci : ci = 4 := hci
                subst hci
                rw [zi_ce_obj (by omega)] at hv
                refine va_astq hx hb hK hP hD hS r 3 q 4 (r := (RX4, TX4, 6)) he rfl hv rfl (zi_in_lt hin.2).1 hdg (fun H1 locs1 p1 p2 p3 => ?_)
                rw [ew] at p1 p2
                exact kk H1 locs1 ls p1 p2 p3 hl (List.length_set ..)
            · cases h1
          · cases h1
        · cases h1
      · cases h1
    · cases hst
  · -- arraylength
    split at hst
    · rename_i r rest
      obtain ⟨x, h1, h2⟩ := Option.map_eq_some_iff.mp hst
      simp only [Prod.mk.injEq] at h2
      obtain ⟨rfl, rfl, rfl⟩ := h2
      have e : ln = 1 := of_decide_eq_true hlen
      subst e
      unfold zi_alen at h1
      split at h1
      · split at h1
        · rename_i sl hsl
          cases h1
          obtain ⟨x1, x2, x3⟩ := hX _ rfl
          exact va_slen hx hb x1 x2 x3 hS hdg (kk H locs ls hP hD hS hl rfl)
        · cases h1
      · rename_i r
        split at h1
        · rename_i t' sl hr
          split at h1
          · rename_i hc
            cases h1
            have he := zi_w_get (ρ := ρ) (b := b0) (as := as) (cy := cy) hr
            have h5 := kk H locs ls hP hD hS hl rfl
            by_cases h9 : 9 ≤ t'
            · rw [zi_ce_ref h9] at he
              exact va_alen hx hb hK hP r (t' - 7) he (zi_tys_at hc.1 hc.2) rfl hdg h5
            · have h78 : t' = 7 ∨ t' = 8 := by omega
              rcases h78 with rfl | rfl
              · rw [zi_ce_int] at he
                exact va_alen hx hb hK hP r 0 he rfl rfl hdg h5
              · rw [zi_ce_boo] at he
                exact va_alen hx hb hK hP r 1 he rfl rfl hdg h5
          · cases h1
        · cases h1
    · cases hst
  · -- pop
    split at hst
    · split at hst
      · rename_i hc
        simp only [Option.some.injEq, Prod.mk.injEq] at hst
        obtain ⟨rfl, rfl, rfl⟩ := hst
        have e : ln = 1 := of_decide_eq_true hlen
        subst e
        exact lv_pop hx hb hdg (by rw [zi_cv_cat]; exact hc) (kk H locs ls hP hD hS hl rfl)
      · cases hst
    · cases hst
  · -- ixor
    split at hst
    · simp only [Option.some.injEq, Prod.mk.injEq] at hst
      obtain ⟨rfl, rfl, rfl⟩ := hst
      have e : ln = 1 := of_decide_eq_true hlen
      subst e
      exact lv_ixor hx hb hdg (kk H locs ls hP hD hS hl rfl)
    · cases hst
  · -- lconst
    simp only [Option.some.injEq, Prod.mk.injEq] at hst
    obtain ⟨rfl, rfl, rfl⟩ := hst
    have e : ln = 1 := of_decide_eq_true hlen
    subst e
    exact lv_lconst hx hb hdg rfl (kk H locs ls hP hD hS hl rfl)
  · -- ldc2_w
    simp only [Option.some.injEq, Prod.mk.injEq] at hst
    obtain ⟨rfl, rfl, rfl⟩ := hst
    have e : ln = 3 := of_decide_eq_true hlen
    subst e
    exact lv_ldc2 hx hb hown (hts _ (zi_tb_in hok)) hdg (kk H locs ls hP hD hS hl rfl)
  · -- lload_n
    split at hst
    · rename_i x hg
      simp only [Option.some.injEq, Prod.mk.injEq] at hst
      obtain ⟨rfl, rfl, rfl⟩ := hst
      have e : ln = 1 := of_decide_eq_true hlen
      subst e
      exact lv_lload_n hx hb hdg rfl (zi_get_at hl hg) (kk H locs ls hP hD hS hl rfl)
    · cases hst
  · -- lstore_n
    split at hst
    · rename_i x rest
      split at hst
      · rename_i hc
        simp only [Option.some.injEq, Prod.mk.injEq] at hst
        obtain ⟨rfl, rfl, rfl⟩ := hst
        have e : ln = 1 := of_decide_eq_true hlen
        subst e
        exact lv_lstore_n hx hb hdg rfl hl hc (by rw [← zi_set2_lc]; rfl) (fun ls1 hl1 => kk H locs ls1 hP hD hS hl1 rfl)
      · cases hst
    · cases hst
  · -- i2l
    split at hst
    · simp only [Option.some.injEq, Prod.mk.injEq] at hst
      obtain ⟨rfl, rfl, rfl⟩ := hst
      have e : ln = 1 := of_decide_eq_true hlen
      subst e
      exact lv_i2l hx hb hdg rfl (kk H locs ls hP hD hS hl rfl)
    · cases hst
  · -- l2i
    split at hst
    · simp only [Option.some.injEq, Prod.mk.injEq] at hst
      obtain ⟨rfl, rfl, rfl⟩ := hst
      have e : ln = 1 := of_decide_eq_true hlen
      subst e
      exact lv_l2i hx hb hdg rfl (kk H locs ls hP hD hS hl rfl)
    · cases hst
  · -- lshl
    split at hst
    · simp only [Option.some.injEq, Prod.mk.injEq] at hst
      obtain ⟨rfl, rfl, rfl⟩ := hst
      have e : ln = 1 := of_decide_eq_true hlen
      subst e
      exact lv_lshl hx hb hdg rfl (kk H locs ls hP hD hS hl rfl)
    · cases hst
  · -- lshr
    split at hst
    · simp only [Option.some.injEq, Prod.mk.injEq] at hst
      obtain ⟨rfl, rfl, rfl⟩ := hst
      have e : ln = 1 := of_decide_eq_true hlen
      subst e
      exact lv_lshr hx hb hdg rfl (kk H locs ls hP hD hS hl rfl)
    · cases hst
  · -- lor
    split at hst
    · simp only [Option.some.injEq, Prod.mk.injEq] at hst
      obtain ⟨rfl, rfl, rfl⟩ := hst
      have e : ln = 1 := of_decide_eq_true hlen
      subst e
      exact lv_lor hx hb hdg (kk H locs ls hP hD hS hl rfl)
    · cases hst
  · -- land
    split at hst
    · simp only [Option.some.injEq, Prod.mk.injEq] at hst
      obtain ⟨rfl, rfl, rfl⟩ := hst
      have e : ln = 1 := of_decide_eq_true hlen
      subst e
      exact lv_land hx hb hdg (kk H locs ls hP hD hS hl rfl)
    · cases hst
  · cases hst
end ZW
