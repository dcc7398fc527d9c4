theorem xstat : xStat := by
  intro mi hmi
  have fin : xchm mi = true → xcvb mi (xr_get xcode mi) = true ∧ xjvb mi (xr_get xjmp mi) = true ∧ (∀ E C, xr_get xcode mi = E :: C → E.2.2.2.2.1 = 0) ∧ (1 ≤ mi → xmok mi = true) ∧ (mi = 0 → (xr_get xmE mi).2.2 = []) := fun h => by
    obtain ⟨h1, h2, h3, h4⟩ := xchm_of h
    refine ⟨h1, h2, h3, fun _ => h4, fun q => ?_⟩
    rw [q]; rfl
  by_cases q0 : mi < 1
  · obtain rfl : mi = 0 := by omega
    refine ⟨xlc_0_0, xlj_0, fun E C e => ?_, fun q => by omega, fun _ => rfl⟩
    cases (show xc_0_0 = E :: C from e)
    rfl
  by_cases q1 : mi < 15
  · have := xall_range xsr_1 (show mi - 1 < 14 by omega)
    rw [show 1 + (mi - 1) = mi by omega] at this
    exact fin this
  by_cases q15 : mi < 54
  · have := xall_range xsr_15 (show mi - 15 < 39 by omega)
    rw [show 15 + (mi - 15) = mi by omega] at this
    exact fin this
  by_cases q54 : mi < 79
  · have := xall_range xsr_54 (show mi - 54 < 25 by omega)
    rw [show 54 + (mi - 54) = mi by omega] at this
    exact fin this
  by_cases q79 : mi < 85
  · have := xall_range xsr_79 (show mi - 79 < 6 by omega)
    rw [show 79 + (mi - 79) = mi by omega] at this
    exact fin this
  by_cases q85 : mi < 86
  · obtain rfl : mi = 85 := by omega
    refine ⟨xlc_85_0, xlj_85, fun E C e => ?_, fun _ => xmk_85, fun q => by omega⟩
    cases (show xc_85_0 = E :: C from e)
    rfl
  by_cases q86 : mi < 105
  · have := xall_range xsr_86 (show mi - 86 < 19 by omega)
    rw [show 86 + (mi - 86) = mi by omega] at this
    exact fin this
  by_cases q105 : mi < 112
  · have := xall_range xsr_105 (show mi - 105 < 7 by omega)
    rw [show 105 + (mi - 105) = mi by omega] at this
    exact fin this
  by_cases q112 : mi < 113
  · obtain rfl : mi = 112 := by omega
    refine ⟨xlc_112_0, xlj_112, fun E C e => ?_, fun _ => xmk_112, fun q => by omega⟩
    cases (show xc_112_0 = E :: C from e)
    rfl
  by_cases q113 : mi < 114
  · obtain rfl : mi = 113 := by omega
    refine ⟨xlc_113_0, xlj_113, fun E C e => ?_, fun _ => xmk_113, fun q => by omega⟩
    cases (show xc_113_0 = E :: C from e)
    rfl
  by_cases q114 : mi < 119
  · have := xall_range xsr_114 (show mi - 114 < 5 by omega)
    rw [show 114 + (mi - 114) = mi by omega] at this
    exact fin this
  by_cases q119 : mi < 120
  · obtain rfl : mi = 119 := by omega
    refine ⟨xlc_119_0, xlj_119, fun E C e => ?_, fun _ => xmk_119, fun q => by omega⟩
    cases (show xc_119_0 = E :: C from e)
    rfl
  by_cases q120 : mi < 135
  · have := xall_range xsr_120 (show mi - 120 < 15 by omega)
    rw [show 120 + (mi - 120) = mi by omega] at this
    exact fin this
  by_cases q135 : mi < 140
  · have := xall_range xsr_135 (show mi - 135 < 5 by omega)
    rw [show 135 + (mi - 135) = mi by omega] at this
    exact fin this
  by_cases q140 : mi < 141
  · obtain rfl : mi = 140 := by omega
    refine ⟨xlc_140_0, xlj_140, fun E C e => ?_, fun _ => xmk_140, fun q => by omega⟩
    cases (show xc_140_0 = E :: C from e)
    rfl
  by_cases q141 : mi < 142
  · obtain rfl : mi = 141 := by omega
    refine ⟨xlc_141_0, xlj_141, fun E C e => ?_, fun _ => xmk_141, fun q => by omega⟩
    cases (show xc_141_0 = E :: C from e)
    rfl
  by_cases q142 : mi < 170
  · have := xall_range xsr_142 (show mi - 142 < 28 by omega)
    rw [show 142 + (mi - 142) = mi by omega] at this
    exact fin this
  by_cases q170 : mi < 190
  · have := xall_range xsr_170 (show mi - 170 < 20 by omega)
    rw [show 170 + (mi - 170) = mi by omega] at this
    exact fin this
  by_cases q190 : mi < 204
  · have := xall_range xsr_190 (show mi - 190 < 14 by omega)
    rw [show 190 + (mi - 190) = mi by omega] at this
    exact fin this
  by_cases q204 : mi < 205
  · obtain rfl : mi = 204 := by omega
    refine ⟨xlc_204_0, xlj_204, fun E C e => ?_, fun _ => xmk_204, fun q => by omega⟩
    cases (show xc_204_0 = E :: C from e)
    rfl
  by_cases q205 : mi < 214
  · have := xall_range xsr_205 (show mi - 205 < 9 by omega)
    rw [show 205 + (mi - 205) = mi by omega] at this
    exact fin this
  by_cases q214 : mi < 222
  · have := xall_range xsr_214 (show mi - 214 < 8 by omega)
    rw [show 214 + (mi - 214) = mi by omega] at this
    exact fin this
  by_cases q222 : mi < 223
  · obtain rfl : mi = 222 := by omega
    refine ⟨xlc_222_0, xlj_222, fun E C e => ?_, fun _ => xmk_222, fun q => by omega⟩
    cases (show xc_222_0 = E :: C from e)
    rfl
  by_cases q223 : mi < 226
  · have := xall_range xsr_223 (show mi - 223 < 3 by omega)
    rw [show 223 + (mi - 223) = mi by omega] at this
    exact fin this
  by_cases q226 : mi < 227
  · obtain rfl : mi = 226 := by omega
    refine ⟨xlc_226_0, xlj_226, fun E C e => ?_, fun _ => xmk_226, fun q => by omega⟩
    cases (show xc_226_0 = E :: C from e)
    rfl
  by_cases q227 : mi < 237
  · have := xall_range xsr_227 (show mi - 227 < 10 by omega)
    rw [show 227 + (mi - 227) = mi by omega] at this
    exact fin this
  by_cases q237 : mi < 238
  · obtain rfl : mi = 237 := by omega
    refine ⟨xlc_237_0, xlj_237, fun E C e => ?_, fun _ => xmk_237, fun q => by omega⟩
    cases (show xc_237_0 = E :: C from e)
    rfl
  by_cases q238 : mi < 239
  · have := xall_range xsr_238 (show mi - 238 < 1 by omega)
    rw [show 238 + (mi - 238) = mi by omega] at this
    exact fin this
  by_cases q239 : mi < 240
  · obtain rfl : mi = 239 := by omega
    refine ⟨xlc_239_0, xlj_239, fun E C e => ?_, fun _ => xmk_239, fun q => by omega⟩
    cases (show xc_239_0 = E :: C from e)
    rfl
  by_cases q240 : mi < 243
  · have := xall_range xsr_240 (show mi - 240 < 3 by omega)
    rw [show 240 + (mi - 240) = mi by omega] at this
    exact fin this
  by_cases q243 : mi < 244
  · obtain rfl : mi = 243 := by omega
    refine ⟨xlc_243_0, xlj_243, fun E C e => ?_, fun _ => xmk_243, fun q => by omega⟩
    cases (show xc_243_0 = E :: C from e)
    rfl
  by_cases q244 : mi < 254
  · have := xall_range xsr_244 (show mi - 244 < 10 by omega)
    rw [show 244 + (mi - 244) = mi by omega] at this
    exact fin this
  by_cases q254 : mi < 255
  · obtain rfl : mi = 254 := by omega
    refine ⟨xlc_254_0, xlj_254, fun E C e => ?_, fun _ => xmk_254, fun q => by omega⟩
    cases (show xc_254_0 = E :: C from e)
    rfl
  by_cases q255 : mi < 291
  · have := xall_range xsr_255 (show mi - 255 < 36 by omega)
    rw [show 255 + (mi - 255) = mi by omega] at this
    exact fin this
  by_cases q291 : mi < 292
  · obtain rfl : mi = 291 := by omega
    refine ⟨xlc_291_0, xlj_291, fun E C e => ?_, fun _ => xmk_291, fun q => by omega⟩
    cases (show xc_291_0 = E :: C from e)
    rfl
  by_cases q292 : mi < 306
  · have := xall_range xsr_292 (show mi - 292 < 14 by omega)
    rw [show 292 + (mi - 292) = mi by omega] at this
    exact fin this
  by_cases q306 : mi < 320
  · have := xall_range xsr_306 (show mi - 306 < 14 by omega)
    rw [show 306 + (mi - 306) = mi by omega] at this
    exact fin this
  by_cases q320 : mi < 321
  · obtain rfl : mi = 320 := by omega
    refine ⟨xlc_320_0, xlj_320, fun E C e => ?_, fun _ => xmk_320, fun q => by omega⟩
    cases (show xc_320_0 = E :: C from e)
    rfl
  by_cases q321 : mi < 338
  · have := xall_range xsr_321 (show mi - 321 < 17 by omega)
    rw [show 321 + (mi - 321) = mi by omega] at this
    exact fin this
  omega
