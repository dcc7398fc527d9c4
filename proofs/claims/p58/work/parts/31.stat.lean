/-! ===== every method is looked through ===== -/
theorem xlc_0_8 : xse 0 570 = true := xse_step xl_0_8 xl_0_9 rfl
theorem xlc_0_7 : xse 0 532 = true := xse_step xl_0_7 xlc_0_8 rfl
theorem xlc_0_6 : xse 0 491 = true := xse_step xl_0_6 xlc_0_7 rfl
theorem xlc_0_5 : xse 0 447 = true := xse_step xl_0_5 xlc_0_6 rfl
theorem xlc_0_4 : xse 0 398 = true := xse_step xl_0_4 xlc_0_5 rfl
theorem xlc_0_3 : xse 0 343 = true := xse_step xl_0_3 xlc_0_4 rfl
theorem xlc_0_2 : xse 0 276 = true := xse_step xl_0_2 xlc_0_3 rfl
theorem xlc_0_1 : xse 0 188 = true := xse_step xl_0_1 xlc_0_2 rfl
theorem xlc_0_0 : xse 0 0 = true := xse_step xl_0_0 xlc_0_1 rfl
theorem xstat : xStat := by
  intro mi hmi
  have fin : ∀ lo n, xstR lo n = true → lo ≤ mi → mi < lo + n → xcvb mi (xr_get xcode mi) = true ∧ (1 ≤ mi → xmok mi = true) := by
    intro lo n h h1 h2
    have := xall_range h (show mi - lo < n by omega)
    rw [show lo + (mi - lo) = mi by omega, Bool.and_eq_true] at this
    exact ⟨this.1, fun _ => this.2⟩
  by_cases q0 : mi < 1
  · obtain rfl : mi = 0 := by omega
    exact ⟨xse_cvb xlc_0_0, fun q => by omega⟩
  by_cases q1 : mi < 16
  · exact fin 1 15 xsr_1 (by omega) (by omega)
  by_cases q16 : mi < 26
  · exact fin 16 10 xsr_16 (by omega) (by omega)
  by_cases q26 : mi < 39
  · exact fin 26 13 xsr_26 (by omega) (by omega)
  by_cases q39 : mi < 53
  · exact fin 39 14 xsr_39 (by omega) (by omega)
  by_cases q53 : mi < 70
  · exact fin 53 17 xsr_53 (by omega) (by omega)
  by_cases q70 : mi < 83
  · exact fin 70 13 xsr_70 (by omega) (by omega)
  by_cases q83 : mi < 93
  · exact fin 83 10 xsr_83 (by omega) (by omega)
  by_cases q93 : mi < 105
  · exact fin 93 12 xsr_93 (by omega) (by omega)
  by_cases q105 : mi < 124
  · exact fin 105 19 xsr_105 (by omega) (by omega)
  by_cases q124 : mi < 126
  · exact fin 124 2 xsr_124 (by omega) (by omega)
  by_cases q126 : mi < 143
  · exact fin 126 17 xsr_126 (by omega) (by omega)
  by_cases q143 : mi < 164
  · exact fin 143 21 xsr_143 (by omega) (by omega)
  by_cases q164 : mi < 176
  · exact fin 164 12 xsr_164 (by omega) (by omega)
  by_cases q176 : mi < 199
  · exact fin 176 23 xsr_176 (by omega) (by omega)
  by_cases q199 : mi < 225
  · exact fin 199 26 xsr_199 (by omega) (by omega)
  by_cases q225 : mi < 245
  · exact fin 225 20 xsr_225 (by omega) (by omega)
  by_cases q245 : mi < 262
  · exact fin 245 17 xsr_245 (by omega) (by omega)
  by_cases q262 : mi < 270
  · exact fin 262 8 xsr_262 (by omega) (by omega)
  by_cases q270 : mi < 275
  · exact fin 270 5 xsr_270 (by omega) (by omega)
  omega
