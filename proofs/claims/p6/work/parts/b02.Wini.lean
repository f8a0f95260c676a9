/-! the law: behind the constructors -/
def zm_i : zm_M := fun i j => match zh_2[i]? with
  | some c => (match c.2[j]? with | some (.int x) => x | _ => 0)
  | none => 0
theorem zm_i_mk : zm_mk zm_i = zh_2 := by
  unfold zm_mk
  apply List.ext_getElem?
  intro a
  rw [List.getElem?_mapIdx]
  cases e : zh_2[a]? with
  | none => rfl
  | some c =>
    show some (c.1, c.2.mapIdx (zm_v zm_i a)) = some c
    have : c.2.mapIdx (zm_v zm_i a) = c.2 := by
      apply List.ext_getElem?
      intro b
      rw [List.getElem?_mapIdx]
      cases e2 : c.2[b]? with
      | none => rfl
      | some v =>
        show some (zm_v zm_i a b v) = some v
        congr 1
        unfold zm_v
        cases v <;> first | rfl | (unfold zm_i; rw [e]; dsimp only; rw [e2])
    rw [this]
set_option maxRecDepth 100000 in
theorem zm_i_w : ∀ k, k < 10 → zd_th zm_i k = false ∧ zm_i 234 k = 0 := by decide +kernel
set_option maxRecDepth 100000 in
theorem zm_i_s : ∀ s, s < 3 → zm_i (zdS s) 3 = 0 ∧ zm_i (zdK s) 3 = 0 ∧ zm_i 232 s = 0 ∧ zm_i 233 s = 0 ∧ zm_i 251 s = 0 := by decide +kernel
set_option maxRecDepth 100000 in
theorem zm_i_T : ∀ s, s < 3 → zm_i (zdT s) 9 = -1 ∧ zm_i (zdT s) 12 = 0 ∧ zm_i (zdT s + 1) 1 = 0 ∧ (∀ n, n < 19 → zm_i (zdT s + 7) n = 3) ∧ ∀ w, w < 10 → zm_i (zdT s + 3) w = -1 := by decide +kernel
set_option maxRecDepth 100000 in
theorem zm_i_V : ∀ s, s < 3 → zm_i (zdV s) 9 = -1 ∧ zm_i (zdV s) 12 = 0 ∧ zm_i (zdV s + 1) 1 = 0 ∧ (∀ n, n < 19 → zm_i (zdV s + 7) n = 3) ∧ ∀ w, w < 10 → zm_i (zdV s + 3) w = -1 := by decide +kernel
set_option maxRecDepth 100000 in
theorem zm_i_u : ∀ τ, τ < 7 → zm_i 243 τ = -1 ∧ ∀ n, n < 24 → zm_i 244 (24 * τ + n) = 0 := by decide +kernel
set_option maxRecDepth 100000 in
theorem zm_i_r : zm_i 231 12 = 0 ∧ zm_i 231 10 = 0 ∧ zm_i 3 1 = 0 ∧ zm_i 5 1 = 0 ∧ ∀ d, d < 30 → zm_i 252 d = 0 := by decide +kernel
theorem zt_C_0 {μ : zm_M} {T : Nat} (h : μ T 9 = -1 ∧ μ T 12 = 0 ∧ μ (T + 1) 1 = 0 ∧ (∀ n, n < 19 → μ (T + 7) n = 3) ∧ ∀ w, w < 10 → μ (T + 3) w = -1) : zt_C μ T [] .nil := by
  obtain ⟨h1, h2, h3, h4, h5⟩ := h
  refine ⟨⟨⟨⟨by decide, h3, fun j hj => absurd hj (Nat.not_lt_zero _)⟩, List.nodup_nil, fun w hw => by cases hw⟩, ⟨Or.inl ⟨rfl, h1⟩, List.nodup_nil, (fun n hn => by cases hn), Or.inl rfl⟩, fun n hn _ => h4 n hn, (fun w hw => by cases hw), fun w hw _ => h5 w hw, fun n hn => by cases hn⟩, ⟨h2, fun j hj => absurd hj (Nat.not_lt_zero _)⟩, fun a ha => ?_⟩
  trivial
theorem zW_ini : zW zm_i := by
  have th : ∀ k, k < 10 → ¬ zd_th zm_i k = true := fun k hk e => by rw [(zm_i_w k hk).1] at e; cases e
  have til : ∀ k, k < 10 → ¬ zd_til zm_i k = true := fun k hk e => th k hk (decide_eq_true (of_decide_eq_true e).1)
  have flo : ∀ k, k < 10 → ¬ zd_flo zm_i k = true := fun k hk e => th k hk (decide_eq_true (of_decide_eq_true e).1)
  obtain ⟨r1, r2, r3, r4, r5⟩ := zm_i_r
  have nl : ∀ {j : Nat}, ¬ j < ([] : List Nat).length := fun h => Nat.not_lt_zero _ h
  have hI : ∀ τ, τ < 7 → zu_I zm_i τ .nil (fun _ => -1) := fun τ hτ => ⟨Or.inl ⟨rfl, (zm_i_u τ hτ).1⟩, List.nodup_nil, (fun n hn => by cases hn), fun n hn _ => (zm_i_u τ hτ).2 n hn, fun n hn => by cases hn⟩
  have hJ : zJ zm_i [] [] (fun _ => []) (fun _ => .nil) := by
    refine ⟨⟨⟨by decide, r3, fun j hj => absurd hj nl⟩, List.nodup_nil, fun k => ⟨(fun z => by cases z), fun z => absurd z.2 (th k z.1)⟩⟩, ⟨⟨by decide, r4, fun j hj => absurd hj nl⟩, List.nodup_nil, fun k z => by cases z⟩, fun k hk z => absurd z (th k hk), fun s hs => ⟨zt_C_0 (zm_i_T s hs), fun k => ⟨(fun z => by cases z), fun z => absurd z.2.1 (til k z.1)⟩, fun k z => by cases z⟩, fun s hs => ⟨zt_C_0 (zm_i_V s hs), fun z => absurd (zm_i_s s hs).2.1 z⟩, fun s hs z => absurd (zm_i_s s hs).1 z⟩
  refine ⟨[], [], [], [], fun _ => [], fun _ => .nil, fun _ => .nil, hJ, ⟨⟨by decide, r1, fun j hj => absurd hj nl⟩, ⟨by decide, r2, fun j hj => absurd hj nl⟩, List.nodup_nil, fun k => ⟨(fun z => by cases z), fun z => absurd z.2 (flo k z.1)⟩⟩, ⟨fun k hk => ⟨fun _ => (zm_i_w k hk).2, fun z => absurd z (th k hk)⟩, fun s hs => ⟨fun _ => ⟨(zm_i_s s hs).2.2.1, (zm_i_s s hs).2.2.2.1⟩, fun z => absurd (zm_i_s s hs).1 z⟩⟩, fun k hk z => absurd z (th k hk), ⟨List.nodup_nil, fun x => ⟨(fun z => by cases z), fun z => absurd (zm_i_w x z.1).2 z.2⟩, fun x hx e => ?_⟩, fun s hs => zs_nil (hI s (by omega)), fun d hd => Or.inl (r5 d hd), fun s hs => ⟨⟨fun _ => (zm_i_s s hs).2.1, fun _ => (zm_i_s s hs).2.2.2.2⟩, fun z => absurd (zm_i_s s hs).2.1 z⟩⟩
  rw [(zm_i_w x hx).2] at e
  exact absurd e (by decide)
