/-! the law: behind the constructors, nothing is anywhere -/
theorem zX_ini : zX zm_i := by
  refine ⟨zY_ini, fun k hk f => ?_, fun s hs q => ?_, fun k hk f => ?_⟩
  · have := zd_th_iff.mpr (zd_flo_iff.mp f).1
    rw [(zm_i_w k hk).1] at this
    cases this
  · exact absurd (zm_i_s s hs).2.1 q
  · have := zd_th_iff.mpr (zd_flo_iff.mp f).1
    rw [(zm_i_w k hk).1] at this
    cases this
