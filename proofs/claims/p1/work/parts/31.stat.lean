theorem xstat : xStat := by
  intro mi hmi
  rcases Nat.eq_zero_or_pos mi with e | e
  · subst e
    refine ⟨xlc_0, xlj_0, fun E C e => ?_, fun q => by omega, fun _ => rfl⟩
    cases (show xc_0_0 = E :: C from e)
    rfl
  · have h : xchm mi = true := by
      by_cases q0 : mi < 33
      · have := xall_range xsr_1 (show mi - 1 < 32 by omega)
        rwa [show 1 + (mi - 1) = mi by omega] at this
      by_cases q1 : mi < 72
      · have := xall_range xsr_33 (show mi - 33 < 39 by omega)
        rwa [show 33 + (mi - 33) = mi by omega] at this
      by_cases q2 : mi < 95
      · have := xall_range xsr_72 (show mi - 72 < 23 by omega)
        rwa [show 72 + (mi - 72) = mi by omega] at this
      by_cases q3 : mi < 112
      · have := xall_range xsr_95 (show mi - 95 < 17 by omega)
        rwa [show 95 + (mi - 95) = mi by omega] at this
      by_cases q4 : mi < 116
      · have := xall_range xsr_112 (show mi - 112 < 4 by omega)
        rwa [show 112 + (mi - 112) = mi by omega] at this
      by_cases q5 : mi < 125
      · have := xall_range xsr_116 (show mi - 116 < 9 by omega)
        rwa [show 116 + (mi - 116) = mi by omega] at this
      by_cases q6 : mi < 141
      · have := xall_range xsr_125 (show mi - 125 < 16 by omega)
        rwa [show 125 + (mi - 125) = mi by omega] at this
      by_cases q7 : mi < 174
      · have := xall_range xsr_141 (show mi - 141 < 33 by omega)
        rwa [show 141 + (mi - 141) = mi by omega] at this
      by_cases q8 : mi < 198
      · have := xall_range xsr_174 (show mi - 174 < 24 by omega)
        rwa [show 174 + (mi - 174) = mi by omega] at this
      by_cases q9 : mi < 212
      · have := xall_range xsr_198 (show mi - 198 < 14 by omega)
        rwa [show 198 + (mi - 198) = mi by omega] at this
      by_cases q10 : mi < 225
      · have := xall_range xsr_212 (show mi - 212 < 13 by omega)
        rwa [show 212 + (mi - 212) = mi by omega] at this
      by_cases q11 : mi < 241
      · have := xall_range xsr_225 (show mi - 225 < 16 by omega)
        rwa [show 225 + (mi - 225) = mi by omega] at this
      by_cases q12 : mi < 254
      · have := xall_range xsr_241 (show mi - 241 < 13 by omega)
        rwa [show 241 + (mi - 241) = mi by omega] at this
      by_cases q13 : mi < 291
      · have := xall_range xsr_254 (show mi - 254 < 37 by omega)
        rwa [show 254 + (mi - 254) = mi by omega] at this
      by_cases q14 : mi < 307
      · have := xall_range xsr_291 (show mi - 291 < 16 by omega)
        rwa [show 291 + (mi - 291) = mi by omega] at this
      by_cases q15 : mi < 334
      · have := xall_range xsr_307 (show mi - 307 < 27 by omega)
        rwa [show 307 + (mi - 307) = mi by omega] at this
      have := xall_range xsr_334 (show mi - 334 < 4 by omega)
      rwa [show 334 + (mi - 334) = mi by omega] at this
    obtain ⟨h1, h2, h3, h4⟩ := xchm_of h
    exact ⟨h1, h2, h3, fun _ => h4, fun q => by omega⟩
