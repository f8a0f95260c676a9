/-! steps: how far, whatever the road that is taken -/
def zb_W (G : Nat → Nat → Nat → Prop) (a : Nat) : Nat → Nat → Prop
  | 0, x => x = a
  | n + 1, x => ∃ k sd, sd < 4 ∧ zb_W G a n k ∧ G k sd x
/-- x is n steps from a, and no fewer -/
def zb_d (G : Nat → Nat → Nat → Prop) (a n x : Nat) : Prop := zb_W G a n x ∧ ∀ m, m < n → ¬ zb_W G a m x
section ZBF
variable {G : Nat → Nat → Nat → Prop} {a : Nat}
theorem zb_d_uq {m n x : Nat} (h : zb_d G a m x) (g : zb_d G a n x) : m = n := by
  rcases Nat.lt_trichotomy m n with c | c | c
  · exact absurd h.1 (g.2 m c)
  · exact c
  · exact absurd g.1 (h.2 n c)
theorem zb_d_ex : ∀ (n x : Nat), zb_W G a n x → ∃ m, m ≤ n ∧ zb_d G a m x := by
  intro n
  induction n using Nat.strongRecOn with
  | ind n ih =>
    intro x h
    by_cases c : ∃ m, m < n ∧ zb_W G a m x
    · obtain ⟨m, hm, hw⟩ := c
      obtain ⟨k, hk, hd⟩ := ih m hm x hw
      exact ⟨k, by omega, hd⟩
    · exact ⟨n, Nat.le_refl _, h, fun m hm hw => c ⟨m, hm, hw⟩⟩
theorem zb_d_0 {x : Nat} (h : zb_d G a 0 x) : x = a := h.1
theorem zb_d_a : zb_d G a 0 a := ⟨rfl, fun m hm => absurd hm (Nat.not_lt_zero m)⟩
theorem zb_d_pred {n x : Nat} (h : zb_d G a (n + 1) x) : ∃ k sd, sd < 4 ∧ zb_d G a n k ∧ G k sd x := by
  obtain ⟨⟨k, sd, hsd, hw, hg⟩, hmin⟩ := h
  exact ⟨k, sd, hsd, ⟨hw, fun m hm hk => hmin (m + 1) (by omega) ⟨k, sd, hsd, hk, hg⟩⟩, hg⟩
theorem zb_d_succ {n k sd x : Nat} (h : zb_d G a n k) (hsd : sd < 4) (hg : G k sd x) : ∃ m, m ≤ n + 1 ∧ zb_d G a m x := zb_d_ex (n + 1) x ⟨k, sd, hsd, h.1, hg⟩
/-- the row of those reached, as the i-th of them is asked for its side sd -/
def zb_S (G : Nat → Nat → Nat → Prop) (a : Nat) (l : List Nat) (i sd : Nat) : Prop :=
  l.Nodup ∧ a ∈ l ∧ (∀ j ∈ l, ∃ d, zb_d G a d j) ∧
  (∀ p q m n, p < q → q < l.length → zb_d G a m (l.getD p 0) → zb_d G a n (l.getD q 0) → m ≤ n) ∧
  (∀ p t y, p < i → p < l.length → t < 4 → G (l.getD p 0) t y → y ∈ l) ∧
  (i < l.length → ∀ t y, t < sd → G (l.getD i 0) t y → y ∈ l) ∧
  (i < l.length → ∀ q m n, q < l.length → zb_d G a m (l.getD i 0) → zb_d G a n (l.getD q 0) → n ≤ m + 1)
theorem zl_idx {l : List Nat} {x : Nat} (h : x ∈ l) : ∃ p, p < l.length ∧ l.getD p 0 = x := by
  obtain ⟨p, hp, e⟩ := List.getElem_of_mem h
  exact ⟨p, hp, by rw [List.getD_eq_getElem?_getD, List.getElem?_eq_getElem hp]; exact e⟩
theorem zl_getD_a {l : List Nat} {x p : Nat} (h : p < l.length) : (l ++ [x]).getD p 0 = l.getD p 0 := by
  rw [List.getD_eq_getElem?_getD, List.getD_eq_getElem?_getD, List.getElem?_append_left h]
theorem zl_getD_z {l : List Nat} {x : Nat} : (l ++ [x]).getD l.length 0 = x := by
  rw [List.getD_eq_getElem?_getD, List.getElem?_append_right (Nat.le_refl _), Nat.sub_self]
  rfl
theorem zb_S_0 : zb_S G a [a] 0 0 := by
  refine ⟨List.nodup_cons.mpr ⟨List.not_mem_nil, List.nodup_nil⟩, List.mem_singleton.mpr rfl, fun j hj => ?_, fun p q m n h1 h2 => ?_, fun p t y h => absurd h (Nat.not_lt_zero p), fun _ t y h => absurd h (Nat.not_lt_zero t), fun _ q m n hq h1 h2 => ?_⟩
  · rw [List.mem_singleton.mp hj]
    exact ⟨0, zb_d_a⟩
  · have : q < 1 := h2
    omega
  · have : q < 1 := hq
    have e : q = 0 := by omega
    subst e
    have := zb_d_uq h1 h2
    omega
/-- whoever is no farther than the i-th has been reached -/
theorem zb_S_all {l : List Nat} {i sd d : Nat} (h : zb_S G a l i sd) (hi : i < l.length) (hd : zb_d G a d (l.getD i 0)) : ∀ n y, n ≤ d → zb_d G a n y → y ∈ l := by
  obtain ⟨h1, h2, h3, h4, h5, h6, h7⟩ := h
  intro n
  induction n with
  | zero =>
    intro y _ hy
    rw [zb_d_0 hy]
    exact h2
  | succ n ih =>
    intro y hn hy
    obtain ⟨z, t, ht, hz, hg⟩ := zb_d_pred hy
    obtain ⟨p, hp, e⟩ := zl_idx (ih z (by omega) hz)
    have hpi : p < i := by
      rcases Nat.lt_trichotomy p i with c | c | c
      · exact c
      · subst c
        rw [e] at hd
        have := zb_d_uq hz hd
        omega
      · have := h4 i p d n c hp hd (by rw [e]; exact hz)
        omega
    exact h5 p t y hpi hp ht (by rw [e]; exact hg)
theorem zb_S_no {l : List Nat} {i sd : Nat} (h : zb_S G a l i sd) (hn : ∀ y, G (l.getD i 0) sd y → y ∈ l) : zb_S G a l i (sd + 1) := by
  obtain ⟨h1, h2, h3, h4, h5, h6, h7⟩ := h
  refine ⟨h1, h2, h3, h4, h5, fun hi t y ht hg => ?_, h7⟩
  by_cases c : t = sd
  · rw [c] at hg
    exact hn y hg
  · exact h6 hi t y (by omega) hg
theorem zb_S_new {l : List Nat} {i sd d x : Nat} (h : zb_S G a l i sd) (hi : i < l.length) (hd : zb_d G a d (l.getD i 0)) (hsd : sd < 4) (hg : G (l.getD i 0) sd x) (hu : ∀ y, G (l.getD i 0) sd y → y = x) (hx : x ∉ l) : zb_d G a (d + 1) x ∧ zb_S G a (l ++ [x]) i (sd + 1) := by
  have hdx : zb_d G a (d + 1) x := by
    obtain ⟨m, hm, hmd⟩ := zb_d_succ hd hsd hg
    by_cases c : m ≤ d
    · exact absurd (zb_S_all h hi hd m x c hmd) hx
    · rw [show d + 1 = m by omega]
      exact hmd
  obtain ⟨h1, h2, h3, h4, h5, h6, h7⟩ := h
  have hlen : (l ++ [x]).length = l.length + 1 := by simp
  have near : ∀ q m, q < l.length → zb_d G a m (l.getD q 0) → m ≤ d + 1 := fun q m hq hm => h7 hi q d m hq hd hm
  refine ⟨hdx, ⟨?_, List.mem_append_left _ h2, fun j hj => ?_, fun p q m n hpq hq hm hn => ?_, fun p t y hp hpl ht hg' => ?_, fun _ t y ht hg' => ?_, fun _ q m n hq hm hn => ?_⟩⟩
  · exact List.nodup_append.mpr ⟨h1, List.nodup_cons.mpr ⟨List.not_mem_nil, List.nodup_nil⟩, fun u hu v hv e => hx (by rw [← List.mem_singleton.mp hv, ← e]; exact hu)⟩
  · rcases List.mem_append.mp hj with hj | hj
    · exact h3 j hj
    · rw [List.mem_singleton.mp hj]
      exact ⟨d + 1, hdx⟩
  · rw [hlen] at hq
    rw [zl_getD_a (by omega)] at hm
    by_cases c : q < l.length
    · rw [zl_getD_a c] at hn
      exact h4 p q m n hpq c hm hn
    · rw [show q = l.length by omega, zl_getD_z] at hn
      have := zb_d_uq hn hdx
      have := near p m (by omega) hm
      omega
  · have hpl' : p < l.length := by omega
    rw [zl_getD_a hpl'] at hg'
    exact List.mem_append_left _ (h5 p t y hp hpl' ht hg')
  · rw [zl_getD_a hi] at hg'
    by_cases c : t = sd
    · rw [c] at hg'
      rw [hu y hg']
      exact List.mem_append_right _ (List.mem_singleton.mpr rfl)
    · exact List.mem_append_left _ (h6 hi t y (by omega) hg')
  · rw [hlen] at hq
    rw [zl_getD_a hi] at hm
    have e := zb_d_uq hm hd
    subst e
    by_cases c : q < l.length
    · rw [zl_getD_a c] at hn
      exact near q n c hn
    · rw [show q = l.length by omega, zl_getD_z] at hn
      have := zb_d_uq hn hdx
      omega
theorem zb_S_next {l : List Nat} {i : Nat} (h : zb_S G a l i 4) (hi : i < l.length) : zb_S G a l (i + 1) 0 := by
  obtain ⟨h1, h2, h3, h4, h5, h6, h7⟩ := h
  refine ⟨h1, h2, h3, h4, fun p t y hp hpl ht hg => ?_, fun _ t y ht => absurd ht (Nat.not_lt_zero t), fun hi' q m n hq hm hn => ?_⟩
  · by_cases c : p = i
    · rw [c] at hg
      exact h6 hi t y ht hg
    · exact h5 p t y (by omega) hpl ht hg
  · obtain ⟨d, hd⟩ := h3 _ (zl_mem hi)
    have := h4 i (i + 1) d m (by omega) hi' hd hm
    have := h7 hi q d n hq hd hn
    omega
theorem zb_S_end {l : List Nat} {i sd : Nat} (h : zb_S G a l i sd) (hi : l.length ≤ i) : ∀ n x, zb_W G a n x → x ∈ l := by
  obtain ⟨h1, h2, h3, h4, h5, h6, h7⟩ := h
  intro n
  induction n with
  | zero =>
    intro x hx
    have hx : x = a := hx
    rw [hx]
    exact h2
  | succ n ih =>
    rintro x ⟨k, t, ht, hk, hg⟩
    obtain ⟨p, hp, e⟩ := zl_idx (ih k hk)
    exact h5 p t x (by omega) hp ht (by rw [e]; exact hg)
end ZBF
