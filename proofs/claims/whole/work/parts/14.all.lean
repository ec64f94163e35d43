/-! throws, catches, and all runs -/
theorem xow9 : ∀ j, j < 199 → xow j = 9 → xhh j = [] := by decide +kernel
theorem xow9' {j : Nat} (h : xow j = 9) : xhh j = [] := by
  by_cases hj : j < 199
  · exact xow9 j hj h
  · unfold xow at h
    rw [List.getD_eq_getElem?_getD, List.getElem?_eq_none (by show 199 ≤ j; omega)] at h
    cases h
theorem xg1 : (vx_atS RX9 134 xNS xnm).all vx_ot = true := by decide +kernel
theorem xg2 : (vx_atS RX9 205 xIA xnm).all vx_ot = true := by decide +kernel
theorem xft : (xNS :: xIA :: xnm).all Bundle.fit = true := by decide +kernel
