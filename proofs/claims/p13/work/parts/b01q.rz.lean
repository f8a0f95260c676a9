/-! the stack, raised: what comes of it, window by window -/
def zl_rz (fl : Nat → Bool) (ow : Nat → Nat → Bool) : Nat → Nat → List Nat → List Nat
  | 0, _, S => S
  | n + 1, k, S => ((if fl k = true then S.erase k ++ [k] else S).filter (ow k)).foldl (fun S c => zl_rz fl ow n c S) (if fl k = true then S.erase k ++ [k] else S)
/-- x comes j steps below c -/
def zl_an (ow : Nat → Nat → Bool) : Nat → Nat → Nat → Prop
  | 0, c, x => x = c
  | j + 1, c, x => ∃ y, zl_an ow j c y ∧ ow y x = true
section ZRZ
variable {fl : Nat → Bool} {ow : Nat → Nat → Bool} {rk : Nat → Nat}
theorem zl_an_pre {c c' : Nat} (h : ow c c' = true) : ∀ j x, zl_an ow j c' x → zl_an ow (j + 1) c x := by
  intro j
  induction j with
  | zero =>
    intro x hx
    have hx : x = c' := hx
    exact ⟨c, rfl, by rw [hx]; exact h⟩
  | succ j ih =>
    rintro x ⟨y, hy, hyx⟩
    exact ⟨y, ih y hy, hyx⟩
theorem zl_an_rk (hr : ∀ a b, ow a b = true → rk a < rk b) : ∀ j c x, zl_an ow j c x → rk c ≤ rk x := by
  intro j
  induction j with
  | zero =>
    intro c x hx
    have hx : x = c := hx
    rw [hx]
    exact Nat.le_refl _
  | succ j ih =>
    rintro c x ⟨y, hy, hyx⟩
    exact Nat.le_trans (ih c y hy) (Nat.le_of_lt (hr y x hyx))
theorem zl_erf {q : Nat → Bool} {c : Nat} (h : q c = false) : ∀ S : List Nat, (S.erase c).filter q = S.filter q
  | [] => rfl
  | a :: S => by
    by_cases e : a = c
    · subst e
      rw [List.erase_cons_head, List.filter_cons_of_neg (by rw [h]; decide)]
    · rw [List.erase_cons_tail (by simpa using e), List.filter_cons, List.filter_cons, zl_erf h S]
theorem zl_foldl_congr {f g : List Nat → Nat → List Nat} : ∀ (D : List Nat) (S : List Nat), (∀ c ∈ D, ∀ S, f S c = g S c) → D.foldl f S = D.foldl g S
  | [], _, _ => rfl
  | a :: D, S, h => by
    rw [List.foldl_cons, List.foldl_cons, h a List.mem_cons_self]
    exact zl_foldl_congr D _ (fun c hc => h c (List.mem_cons_of_mem _ hc))
/-- windows that aren't below c keep their order -/
theorem zl_rz_keep (q : Nat → Bool) : ∀ n c S, (∀ j x, zl_an ow j c x → q x = false) → (zl_rz fl ow n c S).filter q = S.filter q := by
  intro n
  induction n with
  | zero => intro c S _; rfl
  | succ n ih =>
    intro c S h
    have hc : q c = false := h 0 c rfl
    show (((if fl c = true then S.erase c ++ [c] else S).filter (ow c)).foldl (fun S c => zl_rz fl ow n c S) (if fl c = true then S.erase c ++ [c] else S)).filter q = S.filter q
    have h1 : (if fl c = true then S.erase c ++ [c] else S).filter q = S.filter q := by
      by_cases f : fl c = true
      · rw [if_pos f, List.filter_append, zl_erf hc, List.filter_cons_of_neg (by rw [hc]; decide), List.filter_nil, List.append_nil]
      · rw [if_neg f]
    generalize (if fl c = true then S.erase c ++ [c] else S) = S1 at h1
    have key : ∀ (D : List Nat) (T : List Nat), (∀ x ∈ D, ow c x = true) → (D.foldl (fun S c => zl_rz fl ow n c S) T).filter q = T.filter q := by
      intro D
      induction D with
      | nil => intro T _; rfl
      | cons a D ihD =>
        intro T hD
        rw [List.foldl_cons, ihD _ (fun x hx => hD x (List.mem_cons_of_mem _ hx))]
        exact ih a T (fun j x hx => h (j + 1) x (zl_an_pre (hD a List.mem_cons_self) j x hx))
    rw [key _ _ (fun x hx => (List.mem_filter.mp hx).2)]
    exact h1
theorem zl_rz_ok : ∀ n k (S : List Nat), S.Nodup → (zl_rz fl ow n k S).Nodup ∧ (∀ x, x ∈ S → x ∈ zl_rz fl ow n k S) ∧ (∀ x, x ∈ zl_rz fl ow n k S → x ∈ S ∨ (fl k = true ∧ x = k)) ∧ (n ≠ 0 → fl k = true → k ∈ zl_rz fl ow n k S) := by
  intro n
  induction n with
  | zero => intro k S h; exact ⟨h, fun _ h => h, fun _ h => Or.inl h, fun z => absurd rfl z⟩
  | succ n ih =>
    intro k S hS
    obtain ⟨S1, e1, n1, m1, m2, m3⟩ : ∃ S1, (if fl k = true then S.erase k ++ [k] else S) = S1 ∧ S1.Nodup ∧ (∀ x, x ∈ S → x ∈ S1) ∧ (∀ x, x ∈ S1 → x ∈ S ∨ (fl k = true ∧ x = k)) ∧ (fl k = true → k ∈ S1) := by
      by_cases f : fl k = true
      · refine ⟨S.erase k ++ [k], if_pos f, ?_, fun x hx => ?_, fun x hx => ?_, fun _ => List.mem_append_right _ (List.mem_singleton.mpr rfl)⟩
        · refine List.nodup_append.mpr ⟨hS.erase k, List.nodup_cons.mpr ⟨List.not_mem_nil, List.nodup_nil⟩, fun u hu v hv e => ?_⟩
          rw [List.mem_singleton.mp hv] at e
          rw [e] at hu
          exact ((zl_er_mem hS).mp hu).1 rfl
        · by_cases e : x = k
          · rw [e]; exact List.mem_append_right _ (List.mem_singleton.mpr rfl)
          · exact List.mem_append_left _ ((zl_er_mem hS).mpr ⟨e, hx⟩)
        · rcases List.mem_append.mp hx with hx | hx
          · exact Or.inl (List.mem_of_mem_erase hx)
          · exact Or.inr ⟨f, List.mem_singleton.mp hx⟩
      · exact ⟨S, if_neg f, hS, fun _ h => h, fun _ h => Or.inl h, fun z => absurd z f⟩
    have key : ∀ (D : List Nat) (T : List Nat), T.Nodup → (∀ x ∈ D, x ∈ T) → (D.foldl (fun S c => zl_rz fl ow n c S) T).Nodup ∧ (∀ x, x ∈ D.foldl (fun S c => zl_rz fl ow n c S) T ↔ x ∈ T) := by
      intro D
      induction D with
      | nil => intro T hT _; exact ⟨hT, fun _ => Iff.rfl⟩
      | cons a D ihD =>
        intro T hT hD
        obtain ⟨i1, i2, i3, -⟩ := ih a T hT
        have im : ∀ x, x ∈ zl_rz fl ow n a T ↔ x ∈ T := fun x => ⟨fun hx => (i3 x hx).elim id (fun z => by rw [z.2]; exact hD a List.mem_cons_self), i2 x⟩
        rw [List.foldl_cons]
        obtain ⟨k1, k2⟩ := ihD (zl_rz fl ow n a T) i1 (fun x hx => (im x).mpr (hD x (List.mem_cons_of_mem _ hx)))
        exact ⟨k1, fun x => (k2 x).trans (im x)⟩
    obtain ⟨k1, k2⟩ := key (S1.filter (ow k)) S1 n1 (fun x hx => (List.mem_filter.mp hx).1)
    have e : zl_rz fl ow (n + 1) k S = (S1.filter (ow k)).foldl (fun S c => zl_rz fl ow n c S) S1 := by
      rw [← e1]
      rfl
    rw [e]
    exact ⟨k1, fun x hx => (k2 x).mpr (m1 x hx), fun x hx => m2 x ((k2 x).mp hx), fun _ f => (k2 k).mpr (m3 f)⟩
/-- a dialog of k that is raised goes behind the other dialogs of k -/
theorem zl_rz_turn (hr : ∀ a b, ow a b = true → rk a < rk b) (hu : ∀ a b x, ow a x = true → ow b x = true → a = b) {n k c : Nat} {S : List Nat} (hS : S.Nodup) (hkc : ow k c = true) (hf : fl c = true) : (zl_rz fl ow (n + 1) c S).filter (ow k) = (S.filter (ow k)).erase c ++ [c] := by
  show (((if fl c = true then S.erase c ++ [c] else S).filter (ow c)).foldl (fun S c => zl_rz fl ow n c S) (if fl c = true then S.erase c ++ [c] else S)).filter (ow k) = _
  rw [if_pos hf]
  have key : ∀ (D : List Nat) (T : List Nat), (∀ x ∈ D, ow c x = true) → (D.foldl (fun S c => zl_rz fl ow n c S) T).filter (ow k) = T.filter (ow k) := by
    intro D
    induction D with
    | nil => intro T _; rfl
    | cons a D ihD =>
      intro T hD
      rw [List.foldl_cons, ihD _ (fun x hx => hD x (List.mem_cons_of_mem _ hx))]
      have hca := hD a List.mem_cons_self
      refine zl_rz_keep (ow k) n a T (fun j x hx => ?_)
      cases e : ow k x with
      | false => rfl
      | true =>
        exfalso
        have r1 := hr k c hkc
        have r2 := hr c a hca
        cases j with
        | zero =>
          have hx : x = a := hx
          rw [hx] at e
          rw [hu k c a e hca] at r1
          exact Nat.lt_irrefl _ r1
        | succ j =>
          obtain ⟨y, hy, hyx⟩ := hx
          rw [← hu k y x e hyx] at hy
          have := zl_an_rk hr j a k hy
          omega
  rw [key _ _ (fun x hx => (List.mem_filter.mp hx).2), List.filter_append, List.filter_cons_of_pos hkc, List.filter_nil]
  congr 1
  have hF : (S.filter (ow k)).Nodup := hS.filter _
  rw [hS.erase_eq_filter, List.filter_filter, hF.erase_eq_filter, List.filter_filter]
  exact List.filter_congr (fun x _ => Bool.and_comm _ _)
theorem zl_rz_fuel (hr : ∀ a b, ow a b = true → rk a < rk b) (h9 : ∀ x, rk x ≤ 9) : ∀ n m k S, 9 - rk k < n → 9 - rk k < m → zl_rz fl ow n k S = zl_rz fl ow m k S := by
  intro n
  induction n with
  | zero => intro m k S h; exact absurd h (Nat.not_lt_zero _)
  | succ n ih =>
    intro m k S h1 h2
    cases m with
    | zero => exact absurd h2 (Nat.not_lt_zero _)
    | succ m =>
      show ((if fl k = true then S.erase k ++ [k] else S).filter (ow k)).foldl (fun S c => zl_rz fl ow n c S) (if fl k = true then S.erase k ++ [k] else S) = ((if fl k = true then S.erase k ++ [k] else S).filter (ow k)).foldl (fun S c => zl_rz fl ow m c S) (if fl k = true then S.erase k ++ [k] else S)
      refine zl_foldl_congr _ _ (fun c hc T => ?_)
      have := hr k c (List.mem_filter.mp hc).2
      have := h9 c
      exact ih m c T (by omega) (by omega)
/-- after i of its dialogs have been raised: the rest ahead, those behind -/
theorem zl_rz_iter (hr : ∀ a b, ow a b = true → rk a < rk b) (hu : ∀ a b x, ow a x = true → ow b x = true → a = b) (hof : ∀ a b, ow a b = true → fl b = true) {n k : Nat} {S : List Nat} (hS : S.Nodup) : ∀ i, i ≤ (S.filter (ow k)).length →
    (((S.filter (ow k)).take i).foldl (fun S c => zl_rz fl ow (n + 1) c S) S).Nodup ∧ (∀ x, x ∈ ((S.filter (ow k)).take i).foldl (fun S c => zl_rz fl ow (n + 1) c S) S ↔ x ∈ S) ∧ (((S.filter (ow k)).take i).foldl (fun S c => zl_rz fl ow (n + 1) c S) S).filter (ow k) = (S.filter (ow k)).drop i ++ (S.filter (ow k)).take i := by
  intro i
  induction i with
  | zero =>
    intro _
    rw [List.take_zero, List.foldl_nil, List.drop_zero, List.append_nil]
    exact ⟨hS, fun _ => Iff.rfl, rfl⟩
  | succ i ih =>
    intro hi
    obtain ⟨i1, i2, i3⟩ := ih (by omega)
    have hi' : i < (S.filter (ow k)).length := by omega
    have hm := zl_mem hi'
    have hc := (List.mem_filter.mp hm).2
    have hcS := (List.mem_filter.mp hm).1
    rw [zl_take hi', List.foldl_append, List.foldl_cons, List.foldl_nil]
    have hdr : (S.filter (ow k)).drop i = (S.filter (ow k)).getD i 0 :: (S.filter (ow k)).drop (i + 1) := by
      rw [List.drop_eq_getElem_cons hi', List.getD_eq_getElem?_getD, List.getElem?_eq_getElem hi']
      rfl
    generalize (S.filter (ow k)).getD i 0 = c at hm hc hcS hdr
    generalize ((S.filter (ow k)).take i).foldl (fun S c => zl_rz fl ow (n + 1) c S) S = T at i1 i2 i3
    obtain ⟨o1, o2, o3, -⟩ := zl_rz_ok (fl := fl) (ow := ow) (n + 1) c T i1
    refine ⟨o1, fun x => ⟨fun hx => ?_, fun hx => o2 x ((i2 x).mpr hx)⟩, ?_⟩
    · rcases o3 x hx with hx | hx
      · exact (i2 x).mp hx
      · rw [hx.2]; exact hcS
    · rw [zl_rz_turn hr hu i1 hc (hof k c hc), i3, hdr, List.cons_append, List.erase_cons_head, List.append_assoc]
end ZRZ
