/-! state, answer and depth are not asked for by the judgement -/
def resC (A : AF) : AF := fun k i => if k = 6 ∨ k = 11 ∨ k = 18 ∨ 24 ≤ k then 0 else A k i
theorem rs {A : AF} {k : Nat} (h : ¬ (k = 6 ∨ k = 11 ∨ k = 18 ∨ 24 ≤ k)) : resC A k = A k := by
  funext i
  exact if_neg h
theorem nW_res (A : AF) (p : Nat) : nW (resC A) p = nW A p := by unfold nW; rw [rs (by omega)]
theorem nF_res (A : AF) (p : Nat) : nF (resC A) p = nF A p := by unfold nF; rw [rs (by omega)]
theorem nL_res (A : AF) (p : Nat) : nL (resC A) p = nL A p := by unfold nL; rw [rs (by omega)]
theorem eN_res (A : AF) (p : Nat) : eN (resC A) p = eN A p := by unfold eN; rw [rs (by omega)]
theorem lP_res (A : AF) (p : Nat) : lP (resC A) p = lP A p := by unfold lP; rw [rs (by omega)]
theorem lF_res (A : AF) (p : Nat) : lF (resC A) p = lF A p := by unfold lF; rw [rs (by omega)]
theorem lRow_res (A : AF) (a : Nat) : lRow (resC A) a = lRow A a := by unfold lRow; rw [rs (by omega), rs (by omega), rs (by omega)]
theorem oRow_res (A : AF) (a : Nat) : oRow (resC A) a = oRow A a := by unfold oRow; rw [rs (by omega), rs (by omega), rs (by omega)]
theorem gF_res (A : AF) (p to : Nat) (R : Row) (st : Int32) : gF (resC A) p to R st = gF A p to R st := by unfold gF; simp only [nW_res, lRow_res, rs (A := A) (k := 13) (by omega)]
theorem nxF_res (A : AF) (p i : Nat) (R : Row) (st : Int32) : nxF (resC A) p i R st = nxF A p i R st := by unfold nxF; simp only [nW_res, gF_res, rs (A := A) (k := 13) (by omega)]
theorem cF_res (A : AF) (p i q f : Nat) (R : Row) (st : Int32) : cF (resC A) p i q f R st = cF A p i q f R st := by unfold cF; simp only [eN_res, gF_res, lRow_res, oRow_res, rs (A := A) (k := 13) (by omega)]
theorem wF_res (A : AF) (p i : Nat) (R : Row) (st w : Int32) (ok : wOp w ≤ 20) : wF (resC A) p i R st w = wF A p i R st w := by
  by_cases hw : 1 ≤ wOp w ∧ wOp w ≤ 14
  · rw [wF_wk hw.1 hw.2, wF_wk hw.1 hw.2]
    simp only [nxF_res, rs (A := A) (k := 7) (by omega)]
  · have hop : wOp w = 0 ∨ wOp w = 15 ∨ wOp w = 16 ∨ wOp w = 17 ∨ wOp w = 18 ∨ wOp w = 19 ∨ wOp w = 20 := by omega
    rcases hop with e | e | e | e | e | e | e
    · rw [wF_0 e, wF_0 e]
    · rw [wF_15 e, wF_15 e, gF_res]
    · rw [wF_16 e, wF_16 e]
      simp only [gF_res, nxF_res]
    · rw [wF_17 e, wF_17 e]
      simp only [gF_res, nxF_res]
    · rw [wF_18 e, wF_18 e]
      simp only [nF_res, cF_res]
    · rw [wF_19 e, wF_19 e]
      simp only [nL_res, lP_res, lF_res, cF_res]
    · rw [wF_20 e, wF_20 e]
      simp only [oRow_res]
theorem inR_res (A : AF) (p i : Nat) (R : Row) : inR (resC A) p i R = inR A p i R := by unfold inR; simp only [lRow_res, rs (A := A) (k := 13) (by omega)]
theorem inS_res (A : AF) (p i : Nat) (st : Int32) : inS (resC A) p i st = inS A p i st := by unfold inS; simp only [rs (A := A) (k := 13) (by omega)]
theorem vR_res {A : AF} {p : Nat} (W : WA A p) : ∀ k, k ≤ nW A p → vR (resC A) p k = vR A p k := by
  intro k
  induction k with
  | zero => intro _; rfl
  | succ k ih =>
    intro hk
    have e := ih (by omega)
    unfold vR
    rw [e, inR_res, inS_res, rs (A := A) (k := 12) (by omega), wF_res _ _ _ _ _ _ (W.2.2.2.2.1 k (by omega)).1]
theorem rwR_res {A : AF} {p k : Nat} (W : WA A p) (hk : k < nW A p) : rwR (resC A) p k = rwR A p k := by
  unfold rwR
  rw [vR_res W k (by omega), inR_res]
theorem rwS_res {A : AF} {p k : Nat} (W : WA A p) (hk : k < nW A p) : rwS (resC A) p k = rwS A p k := by
  unfold rwS
  rw [vR_res W k (by omega), inS_res]
theorem cmF_res (A : AF) (p k : Nat) (fl : Bool) : cmF (resC A) p k fl = cmF A p k fl := by
  have e : stF (resC A) p = stF A p := by unfold stF; rw [rs (by omega), lRow_res]
  unfold cmF
  rw [rs (by omega), e]
theorem rwF_res {A : AF} {p k : Nat} (W : WA A p) (hk : k < nW A p) : rwF (resC A) p k = rwF A p k := by
  unfold rwF
  rw [rwR_res W hk, rwS_res W hk, rs (A := A) (k := 12) (by omega), wF_res _ _ _ _ _ _ (W.2.2.2.2.1 k hk).1]
theorem ACC_res {A : AF} {p : Nat} (W : WA A p) : ACC (resC A) p ↔ ACC A p := by
  constructor
  · rintro ⟨h1, h2⟩
    rw [nW_res] at h1
    refine ⟨h1, fun k hk => ?_⟩
    have := h2 k (by rw [nW_res]; exact hk)
    rw [vR_res W k (by omega), cmF_res, rwF_res W hk] at this
    exact this
  · rintro ⟨h1, h2⟩
    refine ⟨by rw [nW_res]; exact h1, fun k hk => ?_⟩
    rw [nW_res] at hk
    rw [vR_res W k (by omega), cmF_res, rwF_res W hk]
    exact h2 k hk
/-- arrays that differ at most in state, answer, depth and beyond 24 -/
theorem res_eq {A A' : AF} (h : ∀ k i, k < 24 → k ≠ 6 → k ≠ 11 → k ≠ 18 → A' k i = A k i) : resC A' = resC A := by
  funext k i
  unfold resC
  by_cases z : k = 6 ∨ k = 11 ∨ k = 18 ∨ 24 ≤ k
  · rw [if_pos z, if_pos z]
  · rw [if_neg z, if_neg z, h k i (by omega) (by omega) (by omega) (by omega)]
/-! depths that deepen() leaves -/
theorem mxI_t (x y : Int32) : (mxI x y).toInt = max x.toInt y.toInt := by
  unfold mxI
  split
  next h => rw [i_lt] at h; omega
  next h => rw [i_lt] at h; omega
theorem add1 {x : Int32} (h0 : 0 ≤ x.toInt) (h : x.toInt ≤ 100) : (x + 1).toInt = x.toInt + 1 := by
  have e : (1 : Int32).toInt = 1 := rfl
  rw [i_add (by omega) (by omega), e]
/-- a call's callee's depth, where there is one -/
def cD (A : AF) (D : Nat → Int32) (p k : Nat) : Option Int32 := if wOp (A 12 (200 * p + k)) = 18 then some (D (8 * p + wN (A 12 (200 * p + k)))) else if wOp (A 12 (200 * p + k)) = 19 then some (D (8 * lP A (8 * p + wN (A 12 (200 * p + k))) + lF A (8 * p + wN (A 12 (200 * p + k))))) else none
theorem dpi_b {A : AF} {D : Nat → Int32} {p f : Nat} {b : Int} (hb : b ≤ 100) : ∀ (m k : Nat) (deep : Int32), k + m = nW A p → 0 ≤ deep.toInt → deep.toInt ≤ b → (∀ j, k ≤ j → j < nW A p → rwS A p j = n32 f → ∀ d, cD A D p j = some d → 0 ≤ d.toInt ∧ d.toInt + 1 ≤ b) → 0 ≤ (dpi A D p f m k deep (vR A p k).2.1).toInt ∧ (dpi A D p f m k deep (vR A p k).2.1).toInt ≤ b ∧ deep.toInt ≤ (dpi A D p f m k deep (vR A p k).2.1).toInt ∧ ∀ j, k ≤ j → j < nW A p → rwS A p j = n32 f → ∀ d, cD A D p j = some d → d.toInt + 1 ≤ (dpi A D p f m k deep (vR A p k).2.1).toInt := by
  intro m
  induction m with
  | zero =>
    intro k deep hk h0 h1 h
    exact ⟨h0, h1, Int.le_refl _, fun j h1 h2 => by omega⟩
  | succ m ih =>
    intro k deep hk h0 h1 h
    unfold dpi
    have es : inS A p k (vR A p k).2.1 = rwS A p k := rfl
    have ev : (vR A p (k + 1)).2.1 = rwS A p k := rfl
    rw [es]
    have step : ∃ deep', (if rwS A p k = n32 f then (if wOp (A 12 (200 * p + k)) = 18 then mxI deep (D (8 * p + wN (A 12 (200 * p + k))) + 1) else if wOp (A 12 (200 * p + k)) = 19 then mxI deep (D (8 * lP A (8 * p + wN (A 12 (200 * p + k))) + lF A (8 * p + wN (A 12 (200 * p + k)))) + 1) else deep) else deep) = deep' ∧ 0 ≤ deep'.toInt ∧ deep'.toInt ≤ b ∧ deep.toInt ≤ deep'.toInt ∧ (rwS A p k = n32 f → ∀ d, cD A D p k = some d → d.toInt + 1 ≤ deep'.toInt) := by
      by_cases c : rwS A p k = n32 f
      · rw [if_pos c]
        have hk2 := h k (by omega) (by omega) c
        unfold cD at hk2 ⊢
        by_cases c1 : wOp (A 12 (200 * p + k)) = 18
        · rw [if_pos c1] at hk2 ⊢
          have z := hk2 _ rfl
          refine ⟨_, rfl, ?_⟩
          have e := mxI_t deep (D (8 * p + wN (A 12 (200 * p + k))) + 1)
          rw [add1 z.1 (by omega)] at e
          refine ⟨by omega, by omega, by omega, fun _ d hd => ?_⟩
          rw [if_pos c1] at hd
          cases hd
          omega
        · rw [if_neg c1] at hk2 ⊢
          by_cases c2 : wOp (A 12 (200 * p + k)) = 19
          · rw [if_pos c2] at hk2 ⊢
            have z := hk2 _ rfl
            refine ⟨_, rfl, ?_⟩
            have e := mxI_t deep (D (8 * lP A (8 * p + wN (A 12 (200 * p + k))) + lF A (8 * p + wN (A 12 (200 * p + k)))) + 1)
            rw [add1 z.1 (by omega)] at e
            refine ⟨by omega, by omega, by omega, fun _ d hd => ?_⟩
            rw [if_neg c1, if_pos c2] at hd
            cases hd
            omega
          · rw [if_neg c2]
            refine ⟨_, rfl, h0, h1, Int.le_refl _, fun _ d hd => ?_⟩
            rw [if_neg c1, if_neg c2] at hd
            cases hd
      · rw [if_neg c]
        exact ⟨_, rfl, h0, h1, Int.le_refl _, fun z => absurd z c⟩
    obtain ⟨deep', e', q0, q1, q2, q3⟩ := step
    rw [e', ← ev]
    obtain ⟨r0, r1, r2, r3⟩ := ih (k + 1) deep' (by omega) q0 q1 (fun j h1 h2 => h j (by omega) h2)
    refine ⟨r0, r1, by omega, fun j h1 h2 h3 d hd => ?_⟩
    by_cases e : j = k
    · subst e
      have := q3 h3 d hd
      omega
    · exact r3 j (by omega) h2 h3 d hd
