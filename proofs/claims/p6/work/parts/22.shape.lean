/-! trees of node numbers: a leaf is .tag n .nil, a cut .append (.tag n a) b, no tree .nil -/
abbrev zy_F : Type := Std.Format
def zy_id : zy_F → Nat
  | .append (.tag n _) _ => n
  | .tag n _ => n
  | _ => 0
def zy_ids : zy_F → List Nat
  | .append (.tag n a) b => n :: (zy_ids a ++ zy_ids b)
  | .tag n _ => [n]
  | _ => []
def zy_lvs : zy_F → List Nat
  | .append (.tag _ a) b => zy_lvs a ++ zy_lvs b
  | .tag n _ => [n]
  | _ => []
def zy_wf : zy_F → Prop
  | .append (.tag _ a) b => zy_wf a ∧ zy_wf b
  | .tag _ .nil => True
  | _ => False
theorem zy_ind {P : zy_F → Prop} (hl : ∀ n, P (.tag n .nil)) (hc : ∀ n a b, zy_wf a → zy_wf b → P a → P b → P (.append (.tag n a) b)) : ∀ t, zy_wf t → P t
  | .append (.tag n a) b, h => hc n a b h.1 h.2 (zy_ind hl hc a h.1) (zy_ind hl hc b h.2)
  | .tag n .nil, _ => hl n
  | .nil, h => False.elim h
  | .line, h => False.elim h
  | .align _, h => False.elim h
  | .text _, h => False.elim h
  | .nest _ _, h => False.elim h
  | .group _ _, h => False.elim h
  | .append .nil _, h => False.elim h
  | .append .line _, h => False.elim h
  | .append (.align _) _, h => False.elim h
  | .append (.text _) _, h => False.elim h
  | .append (.nest _ _) _, h => False.elim h
  | .append (.group _ _) _, h => False.elim h
  | .append (.append _ _) _, h => False.elim h
  | .tag _ .line, h => False.elim h
  | .tag _ (.align _), h => False.elim h
  | .tag _ (.text _), h => False.elim h
  | .tag _ (.nest _ _), h => False.elim h
  | .tag _ (.group _ _), h => False.elim h
  | .tag _ (.append _ _), h => False.elim h
  | .tag _ (.tag _ _), h => False.elim h
theorem zy_id_ids : ∀ t, zy_wf t → ∃ r, zy_ids t = zy_id t :: r := by
  apply zy_ind
  · intro n
    exact ⟨[], rfl⟩
  · intro n a b _ _ _ _
    exact ⟨zy_ids a ++ zy_ids b, rfl⟩
theorem zy_id_mem {t : zy_F} (h : zy_wf t) : zy_id t ∈ zy_ids t := by
  obtain ⟨r, e⟩ := zy_id_ids t h
  rw [e]
  exact List.mem_cons_self
theorem zy_lvs_ids : ∀ t, zy_wf t → ∀ n ∈ zy_lvs t, n ∈ zy_ids t := by
  apply zy_ind
  · intro n m h
    exact h
  · intro n a b _ _ ha hb m h
    rcases List.mem_append.mp h with h | h
    · exact List.mem_cons_of_mem _ (List.mem_append_left _ (ha m h))
    · exact List.mem_cons_of_mem _ (List.mem_append_right _ (hb m h))
theorem zy_len : ∀ t, zy_wf t → (zy_ids t).length + 1 = 2 * (zy_lvs t).length := by
  apply zy_ind
  · intro n
    rfl
  · intro n a b _ _ ha hb
    show (n :: (zy_ids a ++ zy_ids b)).length + 1 = 2 * (zy_lvs a ++ zy_lvs b).length
    simp only [List.length_cons, List.length_append]
    omega
theorem zy_len_pos {t : zy_F} (h : zy_wf t) : 0 < (zy_ids t).length := by
  obtain ⟨r, e⟩ := zy_id_ids t h
  rw [e]
  exact Nat.succ_pos _
/-- a list of different numbers below n is no longer than n -/
theorem zy_nodup_le : ∀ (n : Nat) (l : List Nat), l.Nodup → (∀ x ∈ l, x < n) → l.length ≤ n := by
  intro n
  induction n with
  | zero =>
    intro l _ h
    cases l with
    | nil => exact Nat.le_refl _
    | cons x l => exact absurd (h x List.mem_cons_self) (Nat.not_lt_zero _)
  | succ n ih =>
    intro l hn h
    have h1 := ih (l.erase n) (hn.erase n) (fun x hx => by
      have h2 := (List.Nodup.mem_erase_iff hn).mp hx
      have := h x h2.2
      have := h2.1
      omega)
    have h3 := List.length_erase (l := l) (a := n)
    split at h3 <;> omega
/-- fields of nodes: forms, firsts, seconds, what is above -/
def zy_ok (fm fs sd ab : Nat → Int32) : zy_F → Prop
  | .append (.tag n a) b => ((fm n = 0 ∨ fm n = 1) ∧ fs n = nI (zy_id a) ∧ sd n = nI (zy_id b) ∧ ab (zy_id a) = nI n ∧ ab (zy_id b) = nI n) ∧ zy_ok fm fs sd ab a ∧ zy_ok fm fs sd ab b
  | .tag n .nil => fm n = 2
  | _ => False
theorem zy_ok_c {fm fs sd ab : Nat → Int32} {n : Nat} {a b : zy_F} : zy_ok fm fs sd ab (.append (.tag n a) b) = (((fm n = 0 ∨ fm n = 1) ∧ fs n = nI (zy_id a) ∧ sd n = nI (zy_id b) ∧ ab (zy_id a) = nI n ∧ ab (zy_id b) = nI n) ∧ zy_ok fm fs sd ab a ∧ zy_ok fm fs sd ab b) := rfl
theorem zm_up_row {μ : zm_M} {i j a : Nat} {x : Int32} (h : a ≠ i) : zm_up μ i j x a = μ a := by
  funext b
  exact zm_up_ne (fun e => h e.1)
/-- a loop: Q i holds at its head behind i rounds; it goes round, or to the method's end -/
theorem ze_loop {D nL pc : Nat} {ret : Option FieldType} {code0 : List zi_Row} {Q : Nat → zi_Lc → zi_Hp → Prop} {R : Option Value → zi_Hp → Prop} (n : Nat)
    (hs : ∀ i L h, i < n → Q i L h → (∃ L' h', ze_S D nL ret code0 pc L [] h pc L' [] h' ∧ Q (i + 1) L' h') ∨ ∃ r h', ze_G D nL ret code0 pc L [] h r h' ∧ R r h')
    (he : ∀ L h, Q n L h → ∃ r h', ze_G D nL ret code0 pc L [] h r h' ∧ R r h') : ∀ m i L h, i + m = n → Q i L h → ∃ r h', ze_G D nL ret code0 pc L [] h r h' ∧ R r h' := by
  intro m
  induction m with
  | zero =>
    intro i L h him q
    have : i = n := by omega
    subst this
    exact he L h q
  | succ m ih =>
    intro i L h him q
    rcases hs i L h (by omega) q with ⟨L', h', s, q'⟩ | g
    · obtain ⟨r, h2, g, hr⟩ := ih (i + 1) L' h' (by omega) q'
      exact ⟨r, h2, s.end g, hr⟩
    · exact g
/-- a loop that is left for another place of the code -/
theorem ze_loopS {D nL pc pc2 : Nat} {ret : Option FieldType} {code0 : List zi_Row} {Q : Nat → zi_Lc → zi_Hp → Prop} {R : zi_Lc → zi_Hp → Prop} (n : Nat)
    (hs : ∀ i L h, i < n → Q i L h → (∃ L' h', ze_S D nL ret code0 pc L [] h pc L' [] h' ∧ Q (i + 1) L' h'))
    (he : ∀ L h, Q n L h → ∃ L' h', ze_S D nL ret code0 pc L [] h pc2 L' [] h' ∧ R L' h') : ∀ m i L h, i + m = n → Q i L h → ∃ L' h', ze_S D nL ret code0 pc L [] h pc2 L' [] h' ∧ R L' h' := by
  intro m
  induction m with
  | zero =>
    intro i L h him q
    have : i = n := by omega
    subst this
    exact he L h q
  | succ m ih =>
    intro i L h him q
    obtain ⟨L', h', s, q'⟩ := hs i L h (by omega) q
    obtain ⟨L2, h2, g, hr⟩ := ih (i + 1) L' h' (by omega) q'
    exact ⟨L2, h2, s.trans g, hr⟩
