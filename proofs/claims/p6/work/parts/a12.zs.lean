/-! the class's tree and the reference's: the same form, the same tabs in the same order, the same shares and shown ones -/
def zs_pl (ξ : zm_M) (T : Nat) (R : List Nat) (μ : zm_M) (τ n m : Nat) : Prop := zu_tb μ τ m = zt_tb ξ T R n ∧ μ 250 (24 * τ + m) = ξ (T + 12) n
def zs_pc (ξ : zm_M) (T : Nat) (μ : zm_M) (τ n m : Nat) : Prop := zu_fm μ τ m = ξ (T + 7) n ∧ μ 247 (24 * τ + m) = ξ (T + 8) n
def zs (ξ : zm_M) (T : Nat) (R : List Nat) (t : zy_F) (μ : zm_M) (τ : Nat) (u : zy_F) : Prop := zy_sim (zs_pl ξ T R μ τ) (zs_pc ξ T μ τ) t u ∧ ∃ ab, zu_I μ τ u ab
theorem zy_sim_wf {pl pc : Nat → Nat → Prop} {t u : zy_F} (hu : u = .nil ∨ zy_wf u) (wt : zy_wf t) (h : zy_sim pl pc t u) : zy_wf u := by
  rcases hu with rfl | w
  · exfalso
    revert h
    exact zy_ind (P := fun t => zy_sim pl pc t .nil → False) (fun n h => h) (fun n a b _ _ _ _ h => h) t wt
  · exact w
section ZSA
variable {ξ ξ' μ ν : zm_M} {T τ : Nat} {R : List Nat} {t u : zy_F}
theorem zs_wf (hI : zt_I ξ T R t) (h : zs ξ T R t μ τ u) : (t = .nil ∧ u = .nil) ∨ (zy_wf t ∧ zy_wf u) := by
  obtain ⟨h1, ab, h2⟩ := h
  have hu : u = .nil ∨ zy_wf u := h2.1.imp (·.1) (·.1)
  rcases hI.2.1.1 with ⟨rfl, -⟩ | ⟨w, -⟩
  · exact Or.inl ⟨rfl, zy_sim_nil hu h1⟩
  · exact Or.inr ⟨w, zy_sim_wf hu w h1⟩
theorem zs_nil {ab : Nat → Int32} (h : zu_I μ τ .nil ab) : zs ξ T R .nil μ τ .nil := ⟨trivial, ab, h⟩
theorem zs_nil_l (hI : zt_I ξ T R t) (h : zs ξ T R t μ τ u) : t = .nil ↔ u = .nil := by
  rcases zs_wf hI h with ⟨rfl, rfl⟩ | ⟨w1, w2⟩
  · exact ⟨fun _ => rfl, fun _ => rfl⟩
  · exact ⟨fun e => (by subst e; exact w1.elim), fun e => (by subst e; exact w2.elim)⟩
theorem zt_I_lvn (hI : zt_I ξ T R t) : (zy_lvs t).Nodup ∧ ∀ n ∈ zy_lvs t, n < 19 := by
  refine ⟨?_, zy_lvs_lt (hI.2.1.1.imp (·.1) (·.1)) hI.2.1.2.2.1⟩
  rcases hI.2.1.1 with ⟨rfl, -⟩ | ⟨w, -⟩
  · exact List.nodup_nil
  · exact zy_lvs_nodup t w hI.2.1.2.1
/-- the leaf of a tab -/
theorem zs_at (hI : zt_I ξ T R t) (h : zs ξ T R t μ τ u) {w n : Nat} (hw : w ∈ R) (hn : n ∈ zy_lvs t) (hwn : ξ (T + 3) w = nI n) : ∃ m, zu_at μ τ u w m ∧ zs_pl ξ T R μ τ n m := by
  rcases zs_wf hI h with ⟨rfl, rfl⟩ | ⟨wt, wu⟩
  · cases hn
  · obtain ⟨l1, l2⟩ := zt_I_lvn hI
    obtain ⟨m, hm, k1, k2, k3⟩ := zy_sim_uniq (n0 := n) (K := fun x => w ∈ zt_tb ξ T R x) (K' := fun y => w ∈ zu_tb μ τ y) (fun x y p => by show w ∈ zt_tb ξ T R x ↔ w ∈ zu_tb μ τ y; rw [p.1]) t wt u wu h.1 l1 (fun x hx q => by
      have := (zt_tb_mem.mp q).2
      have h1 := l2 x hx
      have h2 := l2 n hn
      exact (nI_eq (by omega) (by omega)).mp (this.symm.trans hwn)) hn (zt_tb_mem.mpr ⟨hw, hwn⟩)
    exact ⟨m, ⟨hm, k1, k3⟩, k2⟩
theorem zs_at' (hI : zt_I ξ T R t) (h : zs ξ T R t μ τ u) {w : Nat} (hw : w ∈ R) : ∃ n m, n ∈ zy_lvs t ∧ ξ (T + 3) w = nI n ∧ zu_at μ τ u w m ∧ zs_pl ξ T R μ τ n m := by
  obtain ⟨n, hn, e⟩ := hI.2.2.2.1 w hw
  obtain ⟨m, h1, h2⟩ := zs_at hI h hw hn e
  exact ⟨n, m, hn, e, h1, h2⟩
/-- what is no tab of the class's is none of the reference's -/
theorem zs_no (hI : zt_I ξ T R t) (h : zs ξ T R t μ τ u) {w : Nat} (hw : w ∉ R) : ∀ m ∈ zy_lvs u, w ∉ zu_tb μ τ m := by
  rcases zs_wf hI h with ⟨rfl, rfl⟩ | ⟨wt, wu⟩
  · intro m hm; cases hm
  · intro m hm q
    obtain ⟨n, -, p⟩ := zy_sim_r t wt u wu h.1 m hm
    rw [p.1] at q
    exact hw (zt_tb_mem.mp q).1
theorem zs_len (hI : zt_I ξ T R t) (h : zs ξ T R t μ τ u) : (zy_ids u).length = (zy_ids t).length ∧ (zy_lvs u).length = (zy_lvs t).length := by
  rcases zs_wf hI h with ⟨rfl, rfl⟩ | ⟨wt, wu⟩
  · exact ⟨rfl, rfl⟩
  · exact zy_sim_len t wt u wu h.1
/-- the pairs of leaves go together -/
theorem zs_iff (hI : zt_I ξ T R t) (h : zs ξ T R t μ τ u) {n m : Nat} (hn : n ∈ zy_lvs t) (hm : m ∈ zy_lvs u) (p : zs_pl ξ T R μ τ n m) : ∀ x ∈ zy_lvs t, ∀ y ∈ zy_lvs u, zs_pl ξ T R μ τ x y → (x = n ↔ y = m) := by
  intro x hx y hy q
  obtain ⟨w, hw, hwn, -⟩ := hI.2.2.2.2.2 n hn
  obtain ⟨m', hat, -⟩ := zs_at hI h hw hn hwn
  have hwb : w ∈ zt_tb ξ T R n := zt_tb_mem.mpr ⟨hw, hwn⟩
  have em : m = m' := hat.2.2 m hm (by rw [p.1]; exact hwb)
  have l2 := (zt_I_lvn hI).2
  have h1 := l2 x hx
  have h2 := l2 n hn
  constructor
  · intro e
    subst e
    rw [em]
    exact hat.2.2 y hy (by rw [q.1]; exact hwb)
  · intro e
    subst e
    rw [← p.1, q.1] at hwb
    exact (nI_eq (by omega) (by omega)).mp ((zt_tb_mem.mp hwb).2.symm.trans hwn)
theorem zu_eqT.tb {σ n : Nat} (a : zu_eqT μ τ ν σ) (hn : n < 24) (hl : (zu_tb μ τ n).length ≤ 10) : zu_tb ν σ n = zu_tb μ τ n := by
  unfold zu_tb at hl ⊢
  rw [List.length_map, List.length_range] at hl
  rw [a.2.1 249 n rfl hn]
  refine List.map_congr_left fun j hj => ?_
  have := List.mem_range.mp hj
  rw [a.2.2 n j hn (by omega)]
theorem zu_I_lt {ab : Nat → Int32} (hI : zu_I μ τ u ab) {n : Nat} (hn : n ∈ zy_lvs u) : n < 24 := hI.2.2.1 n (zu_I_lv hI hn).2
theorem zu_I_ct {ab : Nat → Int32} (hI : zu_I μ τ u ab) {n : Nat} (hn : n ∈ zy_cts u) : n < 24 := by
  rcases hI.1 with ⟨rfl, -⟩ | ⟨w, -⟩
  · cases hn
  · exact hI.2.2.1 n (zy_cts_ids u w n hn)
theorem zu_I_tbl {ab : Nat → Int32} (hI : zu_I μ τ u ab) {n : Nat} (hn : n ∈ zy_lvs u) : (zu_tb μ τ n).length ≤ 10 := (zu_I_tb hI hn).1.1
/-- another place, or another memory, of the reference -/
theorem zs_eqT {σ : Nat} (hI : zt_I ξ T R t) (h : zs ξ T R t μ τ u) (a : zu_eqT μ τ ν σ) : zs ξ T R t ν σ u := by
  obtain ⟨h1, ab, h2⟩ := id h
  refine ⟨?_, ab, a.I h2⟩
  rcases zs_wf hI h with ⟨rfl, rfl⟩ | ⟨wt, wu⟩
  · trivial
  · refine zy_sim_mono t wt u wu h1 (fun x hx y hy p => ⟨?_, ?_⟩) (fun x hx y hy p => ⟨?_, ?_⟩)
    · rw [a.tb (zu_I_lt h2 hy) (zu_I_tbl h2 hy)]; exact p.1
    · rw [a.2.1 250 y rfl (zu_I_lt h2 hy)]; exact p.2
    · rw [a.fm (zu_I_ct h2 hy)]; exact p.1
    · rw [a.2.1 247 y rfl (zu_I_ct h2 hy)]; exact p.2
/-- another place, or another memory, of the class -/
theorem zs_cl {Q : Nat} (hI : zt_I ξ T R t) (h : zs ξ T R t μ τ u) (e3 : ξ' (Q + 3) = ξ (T + 3)) (e7 : ξ' (Q + 7) = ξ (T + 7)) (e8 : ξ' (Q + 8) = ξ (T + 8)) (e12 : ξ' (Q + 12) = ξ (T + 12)) : zs ξ' Q R t μ τ u := by
  obtain ⟨h1, ab, h2⟩ := id h
  refine ⟨?_, ab, h2⟩
  rcases zs_wf hI h with ⟨rfl, rfl⟩ | ⟨wt, wu⟩
  · trivial
  · refine zy_sim_mono t wt u wu h1 (fun x hx y hy p => ⟨?_, ?_⟩) (fun x hx y hy p => ⟨?_, ?_⟩)
    · rw [zt_tb_congr (Q := T) (μ := ξ) e3]; exact p.1
    · rw [e12]; exact p.2
    · rw [e7]; exact p.1
    · rw [e8]; exact p.2
theorem zt_tb_add {w x y : Nat} (hx : x < 19) (hy : y < 19) (hwR : w ∉ R) (e3 : ∀ v, ξ' (T + 3) v = if v = w then nI y else ξ (T + 3) v) : zt_tb ξ' T (R ++ [w]) x = if x = y then zt_tb ξ T R x ++ [w] else zt_tb ξ T R x := by
  unfold zt_tb
  rw [List.filter_append]
  have a1 : R.filter (fun v => decide (ξ' (T + 3) v = nI x)) = R.filter (fun v => decide (ξ (T + 3) v = nI x)) := by
    refine List.filter_congr fun v hv => ?_
    have hne : v ≠ w := fun e => hwR (e ▸ hv)
    rw [e3, if_neg hne]
  have a2 : [w].filter (fun v => decide (ξ' (T + 3) v = nI x)) = if x = y then [w] else [] := by
    by_cases c : x = y
    · rw [if_pos c, List.filter_cons_of_pos (by rw [e3, if_pos rfl, c]; exact decide_eq_true rfl)]
      rfl
    · rw [if_neg c, List.filter_cons_of_neg (by rw [e3, if_pos rfl]; exact fun q => c ((nI_eq (by omega) (by omega)).mp (of_decide_eq_true q).symm))]
      rfl
  rw [a1, a2]
  by_cases c : x = y
  · rw [if_pos c, if_pos c]
  · rw [if_neg c, if_neg c, List.append_nil]
/-- a leaf is cut on both sides -/
theorem zs_cut (hI : zt_I ξ T R t) (h : zs ξ T R t μ τ u) {n m w a c f c' f' : Nat} {nf : Bool} {ab' : Nat → Int32} (hn : n ∈ zy_lvs t) (hm : m ∈ zy_lvs u) (p : zs_pl ξ T R μ τ n m) (hw : w < 10) (hwR : w ∉ R)
    (hc : c < 19 ∧ f < 19 ∧ c ∉ zy_ids t ∧ f ∉ zy_ids t ∧ c ≠ f) (e3 : ∀ v, ξ' (T + 3) v = if v = w then nI f else ξ (T + 3) v) (e7 : ∀ i, ξ' (T + 7) i = if i = f then 2 else if i = c then nI a else ξ (T + 7) i) (e8 : ∀ i, ξ' (T + 8) i = if i = c then 50 else ξ (T + 8) i) (e12 : ∀ i, ξ' (T + 12) i = if i = f then nI w else ξ (T + 12) i)
    (hu : zu_isCut μ τ u m w a nf ν ab' c' f') : zs ξ' T (R ++ [w]) (zy_sub n (.append (.tag c (.tag (if nf then f else n) .nil)) (.tag (if nf then n else f) .nil)) t) ν τ (zy_sub m (.append (.tag c' (.tag (if nf then f' else m) .nil)) (.tag (if nf then m else f') .nil)) u) := by
  obtain ⟨h1, ab, h2⟩ := id h
  obtain ⟨g1, ⟨g2, g3, g4, g5, g6⟩, g7, g8, g9, g10, g11, g12, -⟩ := hu
  refine ⟨?_, ab', g1⟩
  obtain ⟨c1, c2, c3, c4, c5⟩ := hc
  obtain ⟨wt, hnid⟩ := zt_I_lv hI hn
  obtain ⟨wu, hmid⟩ := zu_I_lv h2 hm
  have l2 := (zt_I_lvn hI).2
  have hh := zs_iff hI h hn hm p
  have key : ∀ x ∈ zy_lvs t, ∀ y ∈ zy_lvs u, zs_pl ξ T R μ τ x y → zs_pl ξ' T (R ++ [w]) ν τ x y := by
    intro x hx y hy q
    have hxf : x ≠ f := fun e => c4 (e ▸ (zt_I_lv hI hx).2)
    have hx19 := l2 x hx
    obtain ⟨b1, b2, b3⟩ := zu_I_tb h2 hy
    refine ⟨?_, ?_⟩
    · rw [zu_tb_eq (g11 y hy _ b1) b3, zt_tb_add hx19 c2 hwR e3, if_neg hxf]
      exact q.1
    · rw [(g12 y (zu_I_lv h2 hy).2).1, e12, if_neg hxf]
      exact q.2
  have kf : zs_pl ξ' T (R ++ [w]) ν τ f f' := by
    refine ⟨?_, ?_⟩
    · rw [zu_tb_eq g7 (fun x hx => by rw [List.mem_singleton.mp hx]; exact hw), zt_tb_add c2 c2 hwR e3, if_pos rfl]
      have : zt_tb ξ T R f = [] := by
        refine List.eq_nil_iff_forall_not_mem.mpr fun v hv => ?_
        obtain ⟨v1, v2⟩ := zt_tb_mem.mp hv
        obtain ⟨x, hx, e⟩ := hI.2.2.2.1 v v1
        have hx19 := l2 x hx
        have : f = x := (nI_eq (by omega) (by omega)).mp (v2.symm.trans e)
        exact c4 (this ▸ (zt_I_lv hI hx).2)
      rw [this]
      rfl
    · rw [g8, e12, if_pos rfl]
  have kn := key n hn m hm p
  have kc : zs_pc ξ' T ν τ c c' := ⟨by rw [g10, e7, if_neg c5, if_pos rfl], by rw [g9, e8, if_pos rfl]⟩
  refine zy_sim_sub ?_ t wt u wu (zy_sim_mono t wt u wu h1 (fun x hx y hy q => ⟨hh x hx y hy q, fun _ => key x hx y hy q⟩) (fun x hx y hy q => ?_))
  · cases nf
    · exact ⟨kc, kn, kf⟩
    · exact ⟨kc, kf, kn⟩
  · have hxi := zy_cts_ids t wt x hx
    have hyi := zy_cts_ids u wu y hy
    have x1 : x ≠ f := fun e => c4 (e ▸ hxi)
    have x2 : x ≠ c := fun e => c3 (e ▸ hxi)
    exact ⟨by rw [(g12 y hyi).2.2, e7, if_neg x1, if_neg x2]; exact q.1, by rw [(g12 y hyi).2.1, e8, if_neg x2]; exact q.2⟩
end ZSA
