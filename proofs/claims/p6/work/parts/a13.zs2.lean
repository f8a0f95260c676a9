/-! the two trees: a tab more, a first leaf, a tab less; sizes -/
section ZSB
variable {ξ ξ' μ ν : zm_M} {T τ : Nat} {R : List Nat} {t u : zy_F}
theorem zs_tab (hI : zt_I ξ T R t) (h : zs ξ T R t μ τ u) {n m w : Nat} {ab : Nat → Int32} (hn : n ∈ zy_lvs t) (hm : m ∈ zy_lvs u) (p : zs_pl ξ T R μ τ n m) (hw : w < 10) (hwR : w ∉ R)
    (e3 : ∀ v, ξ' (T + 3) v = if v = w then nI n else ξ (T + 3) v) (e7 : ξ' (T + 7) = ξ (T + 7)) (e8 : ξ' (T + 8) = ξ (T + 8)) (e12 : ξ' (T + 12) = ξ (T + 12)) (hu : zu_isTab μ τ u ab m w ν) : zs ξ' T (R ++ [w]) t ν τ u := by
  obtain ⟨h1, ab0, h2⟩ := id h
  obtain ⟨g1, g2, g3, g4, -⟩ := hu
  refine ⟨?_, ab, g1⟩
  obtain ⟨wt, hnid⟩ := zt_I_lv hI hn
  obtain ⟨wu, hmid⟩ := zu_I_lv h2 hm
  have l2 := (zt_I_lvn hI).2
  have hh := zs_iff hI h hn hm p
  have hn19 := l2 n hn
  refine zy_sim_mono t wt u wu h1 (fun x hx y hy q => ⟨?_, ?_⟩) (fun x hx y hy q => ⟨?_, ?_⟩)
  · have hx19 := l2 x hx
    rw [zt_tb_add hx19 hn19 hwR e3]
    obtain ⟨b1, b2, b3⟩ := zu_I_tb h2 hy
    by_cases c : x = n
    · have cy := (hh x hx y hy q).mp c
      rw [if_pos c, ← q.1, cy]
      refine zu_tb_eq g2 (fun v hv => ?_)
      rcases List.mem_append.mp hv with hv | hv
      · exact (zu_I_tb h2 hm).2.2 v hv
      · rw [List.mem_singleton.mp hv]; exact hw
    · have cy : y ≠ m := fun e => c ((hh x hx y hy q).mpr e)
      rw [if_neg c, ← q.1]
      exact zu_tb_eq (g3 y cy _ b1) b3
  · rw [(g4 y).1, e12]; exact q.2
  · rw [(g4 y).2.2, e7]; exact q.1
  · rw [(g4 y).2.1, e8]; exact q.2
theorem zs_new {n w f : Nat} (hn : n < 19) (hw : w < 10) (e3 : ∀ v, ξ' (T + 3) v = if v = w then nI n else ξ (T + 3) v) (e12 : ∀ i, ξ' (T + 12) i = if i = n then nI w else ξ (T + 12) i) (hu : zu_isNew μ τ w ν f) : zs ξ' T [w] (.tag n .nil) ν τ (.tag f .nil) := by
  obtain ⟨g1, g2, g3, g4, -⟩ := hu
  refine ⟨?_, _, g1⟩
  show zu_tb ν τ f = zt_tb ξ' T [w] n ∧ ν 250 (24 * τ + f) = ξ' (T + 12) n
  refine ⟨?_, ?_⟩
  · rw [zu_tb_eq g3 (fun x hx => by rw [List.mem_singleton.mp hx]; exact hw)]
    unfold zt_tb
    rw [List.filter_cons_of_pos (by rw [e3, if_pos rfl]; exact decide_eq_true rfl)]
    rfl
  · rw [g4, e12, if_pos rfl]
theorem zt_tb_out {w x : Nat} (hd : R.Nodup) (e3 : ∀ v, v ≠ w → ξ' (T + 3) v = ξ (T + 3) v) : zt_tb ξ' T (R.erase w) x = (zt_tb ξ T R x).erase w := by
  unfold zt_tb
  rw [List.Nodup.erase_eq_filter (hd.filter _) w, List.filter_filter, List.Nodup.erase_eq_filter hd w, List.filter_filter]
  refine List.filter_congr fun v _ => ?_
  by_cases c : v = w
  · subst c
    simp
  · have c' : (v != w) = true := by simp [c]
    rw [e3 v c, c', Bool.and_true, Bool.true_and]
theorem zs_out (hI : zt_I ξ T R t) (h : zs ξ T R t μ τ u) {n m w : Nat} {ab' : Nat → Int32} (hn : n ∈ zy_lvs t) (hat : zu_at μ τ u w m) (p : zs_pl ξ T R μ τ n m) (hI' : zt_I ξ' T (R.erase w) (if (zt_tb ξ T R n).erase w = [] then zy_out n t else t))
    (e3 : ∀ v, ξ' (T + 3) v = if v = w then -1 else ξ (T + 3) v) (e7 : ∀ i ∈ zy_ids (if (zt_tb ξ T R n).erase w = [] then zy_out n t else t), ξ' (T + 7) i = ξ (T + 7) i) (e8 : ξ' (T + 8) = ξ (T + 8)) (e12 : ∀ i, ξ' (T + 12) i = if i = n ∧ ξ (T + 12) n = nI w then zl_nx (zt_tb ξ T R n) w else ξ (T + 12) i)
    (hu : zu_isOut μ τ u m w ν ab') : zs ξ' T (R.erase w) (if (zt_tb ξ T R n).erase w = [] then zy_out n t else t) ν τ (if (zu_tb μ τ m).erase w = [] then zy_out m u else u) := by
  obtain ⟨h1, ab, h2⟩ := id h
  obtain ⟨g1, g2, g3, g4, -⟩ := hu
  have hm := hat.1
  refine ⟨?_, ab', g1⟩
  obtain ⟨wt, hnid⟩ := zt_I_lv hI hn
  obtain ⟨wu, hmid⟩ := zu_I_lv h2 hm
  obtain ⟨-, hok, -⟩ := zt_I_wf hI hnid
  have l2 := (zt_I_lvn hI).2
  have hh := zs_iff hI h hn hm p
  have hd : R.Nodup := hI.1.2.1
  have e3' : ∀ v, v ≠ w → ξ' (T + 3) v = ξ (T + 3) v := fun v hv => by rw [e3, if_neg hv]
  have tbx : ∀ x, zt_tb ξ' T (R.erase w) x = (zt_tb ξ T R x).erase w := fun x => zt_tb_out hd e3'
  have key : ∀ x ∈ zy_lvs t, ∀ y ∈ zy_lvs u, x ≠ n → zs_pl ξ T R μ τ x y → y ∈ zy_ids (if (zu_tb μ τ m).erase w = [] then zy_out m u else u) → zs_pl ξ' T (R.erase w) ν τ x y := by
    intro x hx y hy hxn q hyi
    have hym : y ≠ m := fun e => hxn ((hh x hx y hy q).mpr e)
    obtain ⟨b1, b2, b3⟩ := zu_I_tb h2 hy
    have hwy : w ∉ zu_tb μ τ y := fun e => hym (hat.2.2 y hy e)
    refine ⟨?_, ?_⟩
    · rw [zu_tb_eq (g2 y hy hym _ b1) b3, tbx, ← q.1, List.erase_of_not_mem hwy]
    · rw [(g4 y hyi).1, if_neg (fun e => hym e.1), e12, if_neg (fun e => hxn e.1)]
      exact q.2
  by_cases c : (zt_tb ξ T R n).erase w = []
  · have c' : (zu_tb μ τ m).erase w = [] := by rw [p.1]; exact c
    rw [if_pos c'] at g1 g4 key ⊢
    rw [if_pos c] at e7 hI' ⊢
    have s := zy_sim_out (pl' := fun x y => (x ∈ zy_lvs t ∧ y ∈ zy_lvs u ∧ x ≠ n) ∧ zs_pl ξ T R μ τ x y) (pc' := zs_pc ξ T μ τ) wt wu (zy_sim_mono t wt u wu h1 (fun x hx y hy q => ⟨hh x hx y hy q, fun hne => ⟨⟨hx, hy, hne⟩, q⟩⟩) (fun x hx y hy q => ⟨⟨fun e => ?_, fun e => ?_⟩, q⟩)) hI.2.1.2.1
    · have wu' : zy_out m u = .nil ∨ zy_wf (zy_out m u) := g1.1.imp (·.1) (·.1)
      rcases hI'.2.1.1 with ⟨e, -⟩ | ⟨wt', -⟩
      · rw [e] at s ⊢
        have := zy_sim_nil wu' s
        rw [this]
        trivial
      · have wu2 := zy_sim_wf wu' wt' s
        refine zy_sim_mono _ wt' _ wu2 s (fun x hx y hy q => key x q.1.1 y q.1.2.1 q.1.2.2 q.2 (zy_lvs_ids _ wu2 y hy)) (fun x hx y hy q => ⟨?_, ?_⟩)
        · rw [(g4 y (zy_cts_ids _ wu2 y hy)).2.2, e7 x (zy_cts_ids _ wt' x hx)]; exact q.1
        · rw [(g4 y (zy_cts_ids _ wu2 y hy)).2.1, e8]; exact q.2
    · subst e
      have a1 := zy_ok_lf t wt hok x hn
      rcases (zy_ok_ct t wt hok x hx).1 with a2 | a2 <;> rw [a1] at a2 <;> exact absurd a2 (by decide)
    · subst e
      have a1 := zu_I_leaf h2 hm
      rcases zu_I_cut h2 hy with a2 | a2 <;> rw [a1] at a2 <;> exact absurd a2 (by decide)
  · have c' : (zu_tb μ τ m).erase w ≠ [] := by rw [p.1]; exact c
    rw [if_neg c'] at g1 g4 key ⊢
    rw [if_neg c] at e7 hI' ⊢
    refine zy_sim_mono t wt u wu h1 (fun x hx y hy q => ?_) (fun x hx y hy q => ⟨?_, ?_⟩)
    · by_cases cx : x = n
      · have cy := (hh x hx y hy q).mp cx
        subst cx; subst cy
        refine ⟨?_, ?_⟩
        · rw [tbx, ← q.1]
          exact zu_tb_eq (g3 c') (fun v hv => (zu_I_tb h2 hm).2.2 v (List.mem_of_mem_erase hv))
        · rw [(g4 y hmid).1, e12, q.2, q.1]
          by_cases d : ξ (T + 12) x = nI w
          · rw [if_pos ⟨rfl, d⟩, if_pos ⟨rfl, d⟩]
          · rw [if_neg (fun e => d e.2), if_neg (fun e => d e.2)]
      · exact key x hx y hy cx q (zy_lvs_ids u wu y hy)
    · rw [(g4 y (zy_cts_ids u wu y hy)).2.2, e7 x (zy_cts_ids t wt x hx)]; exact q.1
    · rw [(g4 y (zy_cts_ids u wu y hy)).2.1, e8]; exact q.2
theorem zt_lf_tb {a n : Nat} : zt_lf (ξ (T + 5 + a)) (ξ (T + 3)) R n = (zt_tb ξ T R n).foldl (fun m w => zi_mx m (ξ (T + 5 + a) w)) 0 := by
  unfold zt_lf zt_tb
  rw [List.foldl_filter]
  congr 1
  funext m w
  by_cases c : ξ (T + 3) w = nI n
  · rw [if_pos c, if_pos (decide_eq_true c)]
  · rw [if_neg c, if_neg (fun e => c (of_decide_eq_true e))]
/-- the sizes of the tabs -/
def zs_sz (ξ : zm_M) (T : Nat) (R : List Nat) (μ : zm_M) : Prop := ∀ a, a < 2 → ∀ w ∈ R, μ (235 + a) w = ξ (T + 5 + a) w
theorem zl_fold_congr {F : Int32 → Int32 → Int32} {f g : Nat → Int32} (l : List Nat) : ∀ (m : Int32), (∀ w ∈ l, f w = g w) → l.foldl (fun m w => F m (f w)) m = l.foldl (fun m w => F m (g w)) m := by
  induction l with
  | nil => intro m _; rfl
  | cons w l ih =>
    intro m h
    rw [List.foldl_cons, List.foldl_cons, h w List.mem_cons_self]
    exact ih _ (fun v hv => h v (List.mem_cons_of_mem _ hv))
theorem zs_lf (hz : zs_sz ξ T R μ) {a n m : Nat} (ha : a < 2) (p : zs_pl ξ T R μ τ n m) : zt_lf (ξ (T + 5 + a)) (ξ (T + 3)) R n = zu_lf μ τ a m := by
  rw [zt_lf_tb]
  unfold zu_lf
  rw [p.1]
  exact zl_fold_congr (F := zi_mx) _ _ (fun w hw => (hz a ha w (zt_tb_mem.mp hw).1).symm)
theorem zs_lsz (hI : zt_I ξ T R t) (h : zs ξ T R t μ τ u) (hz : zs_sz ξ T R μ) {a : Nat} (ha : a < 2) : zt_lsz ξ T a R t = zu_lsz μ τ a u := by
  unfold zt_lsz zu_lsz
  rcases zs_wf hI h with ⟨rfl, rfl⟩ | ⟨wt, wu⟩
  · rfl
  · exact zy_sim_ls t wt u wu (zy_sim_mono t wt u wu h.1 (fun x _ y _ q => zs_lf hz ha q) (fun x _ y _ q => q.1.symm))
theorem zs_fit (hI : zt_I ξ T R t) (h : zs ξ T R t μ τ u) (hz : zs_sz ξ T R μ) {z : Nat} {w v : Int32} (e0 : ξ z 0 = w) (e1 : ξ z 1 = v) : zt_fit ξ T z R t = zu_fit μ τ u w v := by
  unfold zt_fit zu_fit
  rw [zs_lsz hI h hz (by decide), zs_lsz hI h hz (by decide), e0, e1]
end ZSB
