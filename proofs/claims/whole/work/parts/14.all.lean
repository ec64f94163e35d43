/-! throws, catches, and all runs -/
theorem xow9 : ∀ j, j < 199 → xow j = 9 → xhh j = [] := by decide +kernel
theorem xow9' {j : Nat} (h : xow j = 9) : xhh j = [] := by
  by_cases hj : j < 199
  · exact xow9 j hj h
  · unfold xow at h
    rw [List.getD_eq_getElem?_getD, List.getElem?_eq_none (by show 199 ≤ j; omega)] at h
    cases h
abbrev xb100 : ByteArray := prog_19_method_4_code
abbrev xb101 : ByteArray := prog_14_method_2_code
abbrev xa100 : List Cond := xatN RX9 134 xNS xRT xEx 13 xb100
abbrev xa101 : List Cond := xatN RX9 205 xIA xRT xEx 7 xb101
theorem xg100 : (Cond.classLink RX9 130 xNS :: Cond.initialized xNS :: xa100).all vx_ot = true := by decide +kernel
theorem xg101 : (Cond.classLink RX9 201 xIA :: Cond.initialized xIA :: xa101).all vx_ot = true := by decide +kernel
theorem xft : (xNS :: xIA :: xRT :: xEx).all Bundle.fit = true := by decide +kernel
theorem xbb100 : (xa100.filter (fun w => !goodWord w)).all (fun w => decide (w ∈ xbw)) = true := by decide +kernel
theorem xbb101 : (xa101.filter (fun w => !goodWord w)).all (fun w => decide (w ∈ xbw)) = true := by decide +kernel
theorem xbg100 : (xa100.filter goodWord).all (fun w => decide (w ∈ lw_tbl)) = true := by decide +kernel
theorem xbg101 : (xa101.filter goodWord).all (fun w => decide (w ∈ lw_tbl)) = true := by decide +kernel
