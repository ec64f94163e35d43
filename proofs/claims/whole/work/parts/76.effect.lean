/-! what one step does, and that it keeps to what verify() has proved -/
theorem meets_fit {R L : Row} {F : Nat → Int32} (m : meetsR R L) (f : fitR R F) : fitR L F := by
  intro r hr nz
  obtain ⟨m1, m2, m3⟩ := m r hr nz
  have k := f r hr (by rw [m1]; exact nz)
  rw [i_le, i_le] at k
  rw [i_le] at m2 m3
  rw [i_le, i_le]
  exact ⟨Int.le_trans m2 k.1, Int.le_trans k.2 m3⟩
theorem fit_8c {R : Row} {F F' : Nat → Int32} (f : fitR R F) (e : ∀ r, r < 8 → F' r = F r) : fitR R F' := by
  intro r hr
  rw [e r hr]
  exact f r hr
theorem fit_keep {R : Row} {F : Nat → Int32} {d : Nat} {x : Int32 × Int32 × Int32} (h : fitR R F) (hv : fitT x (F d)) : fitR (setR R d x) F := by
  intro r hr
  show fitT (if r = d then x else R r) (F r)
  by_cases e : r = d
  · rw [if_pos e, e]; exact hv
  · rw [if_neg e]; exact h r hr
section GO
variable {A : AF} {p i to f : Nat} {R : Row} {st : Int32} {F : Nat → Int32}
theorem rw_lab (h : A 13 (200 * p + to) = n32 f) (hf : f < 2147483648) : rwS A p to = n32 f ∧ rwR A p to = lRow A (200 * p + to) := by
  have n : ¬ A 13 (200 * p + to) < 0 := by rw [h]; exact n_ge0 hf
  unfold rwS rwR inS inR
  rw [if_neg n, if_neg n]
  exact ⟨h, rfl⟩
theorem gF_ok (h : gF A p to R st = 0) : to < nW A p ∧ A 13 (200 * p + to) = st ∧ meetsR R (lRow A (200 * p + to)) := by
  unfold gF at h
  split at h
  · exact absurd h (by decide)
  next c =>
    split at h
    next m => exact ⟨Classical.byContradiction (fun z => c (.inl (by omega))), Classical.byContradiction (fun z => c (.inr z)), m⟩
    · exact absurd h (by decide)
theorem gF_go (hst : st = n32 f) (hf : f < 2147483648) (h : gF A p to R st = 0) (ft : fitR R F) : to < nW A p ∧ rwS A p to = st ∧ fitR (rwR A p to) F := by
  obtain ⟨h1, h2, h3⟩ := gF_ok h
  obtain ⟨e1, e2⟩ := rw_lab (h2.trans hst) hf
  rw [e2]
  exact ⟨h1, e1.trans hst.symm, meets_fit h3 ft⟩
theorem nx_go (hst : rwS A p i = n32 f) (hf : f < 2147483648) (h : nxF A p i (rwF A p i).2.1 (rwS A p i) = 0) (ft : fitR (rwF A p i).2.1 F) : i + 1 < nW A p ∧ rwS A p (i + 1) = rwS A p i ∧ fitR (rwR A p (i + 1)) F := by
  unfold nxF at h
  by_cases c : i + 1 < nW A p ∧ A 13 (200 * p + (i + 1)) < 0
  · have e1 : rwS A p (i + 1) = rwS A p i := by
      show inS A p (i + 1) (rwS A p i) = _
      unfold inS
      exact if_pos c.2
    have e2 : rwR A p (i + 1) = (rwF A p i).2.1 := by
      show inR A p (i + 1) (rwF A p i).2.1 = _
      unfold inR
      exact if_pos c.2
    rw [e2]
    exact ⟨c.1, e1, ft⟩
  · rw [if_neg c] at h
    exact gF_go hst hf h ft
theorem cF_ok {q g : Nat} (h : cF A p i q g R st = 0) : A 13 (200 * q + eN A (8 * q + g)) = n32 g ∧ meetsR R (lRow A (200 * q + eN A (8 * q + g))) ∧ gF A p (i + 1) (oRow A (8 * q + g)) st = 0 := by
  unfold cF at h
  split at h
  · exact absurd h (by decide)
  next c =>
    split at h
    next m => exact ⟨Classical.byContradiction c, m, h⟩
    · exact absurd h (by decide)
theorem lessW_fit {d a : Nat} (ft : fitR R F) (hd : d < 8) (ha : a < 8) (k1 : (R d).1 = 1) (k2 : (R a).1 = 1) (lt : F d < F a) : fitR (lessW R d a) F := by
  have g1 := fit_i ft hd (one_ne k1)
  have g2 := fit_i ft ha (one_ne k2)
  have o1 : (1 : Int64).toInt = 1 := rfl
  rw [i_lt] at lt
  refine fit_keep (fit_keep ft (tI_fit (b_self _) g1.1 ?_)) (tI_fit (b_self _) ?_ g2.2.1)
  · rw [mn_t, j_sub (by omega) (by omega)]; omega
  · rw [mx_t, j_add (by omega) (by omega)]; omega
theorem lessN_fit {d a : Nat} (ft : fitR R F) (hd : d < 8) (ha : a < 8) (k1 : (R d).1 = 1) (k2 : (R a).1 = 1) (lt : ¬ F d < F a) : fitR (lessN R d a) F := by
  have g1 := fit_i ft hd (one_ne k1)
  have g2 := fit_i ft ha (one_ne k2)
  rw [i_lt] at lt
  refine fit_keep (fit_keep ft (tI_fit (b_self _) ?_ g1.2.1)) (tI_fit (b_self _) g2.1 ?_)
  · rw [mx_t]; omega
  · rw [mn_t]; omega
theorem sameW_fit {d a : Nat} (ft : fitR R F) (hd : d < 8) (ha : a < 8) (k1 : (R d).1 = 1) (k2 : (R a).1 = 1) (eq : F d = F a) : fitR (sameW R d a) F := by
  have g1 := fit_i ft hd (one_ne k1)
  have g2 := fit_i ft ha (one_ne k2)
  rw [i_eq] at eq
  refine fit_keep (fit_keep ft (tI_fit (b_self _) ?_ ?_)) (tI_fit (b_self _) ?_ ?_)
  · rw [mx_t]; omega
  · rw [mn_t]; omega
  · rw [mx_t]; omega
  · rw [mn_t]; omega
end GO
def eW (A : AF) (q : Nat) : Int32 := A 12 (200 * pP A q + pI A q)
def eAd (A : AF) (q : Nat) : Nat := (A 42 q + (rg A q (wA (eW A q)) + wS (eW A q))).toNatClampNeg
def efP (A : AF) (q : Nat) : Nat := if wOp (eW A q) = 19 then lP A (8 * pP A q + wN (eW A q)) else if wOp (eW A q) = 20 then (A 47 (40 * q + (cN A q - 1))).toNatClampNeg else pP A q
def efI (A : AF) (q : Nat) : Nat :=
  if wOp (eW A q) = 15 then wN (eW A q)
  else if wOp (eW A q) = 16 then (if rg A q (wD (eW A q)) < rg A q (wA (eW A q)) then wN (eW A q) else pI A q + 1)
  else if wOp (eW A q) = 17 then (if rg A q (wD (eW A q)) = rg A q (wA (eW A q)) then wN (eW A q) else pI A q + 1)
  else if wOp (eW A q) = 18 then eN A (8 * pP A q + wN (eW A q))
  else if wOp (eW A q) = 19 then eN A (8 * lP A (8 * pP A q + wN (eW A q)) + lF A (8 * pP A q + wN (eW A q)))
  else if wOp (eW A q) = 20 then (A 48 (40 * q + (cN A q - 1))).toNatClampNeg
  else pI A q + 1
def efC (A : AF) (q : Nat) : Nat := if wOp (eW A q) = 18 ∨ wOp (eW A q) = 19 then cN A q + 1 else if wOp (eW A q) = 20 then cN A q - 1 else cN A q
def efF (A : AF) (q : Nat) : Nat → Int32 :=
  if wOp (eW A q) = 13 then upF (rg A q) (wD (eW A q)) (A 50 (eAd A q))
  else if 2 ≤ wOp (eW A q) ∧ wOp (eW A q) ≤ 12 then upF (rg A q) (wD (eW A q)) (rv (wOp (eW A q)) (rg A q (wA (eW A q))) (rg A q (wB (eW A q) % 8)) (n32 (wN (eW A q))) (wS (eW A q)))
  else rg A q
def efM (A : AF) (q : Nat) (k : Nat) : Int32 := if wOp (eW A q) = 14 ∧ k = eAd A q then rg A q (wD (eW A q)) else A 50 k
def SAFE (A : AF) (q : Nat) : Prop :=
  (wOp (eW A q) = 7 ∨ wOp (eW A q) = 8 → rg A q (wB (eW A q) % 8) ≠ 0) ∧ (wOp (eW A q) = 13 ∨ wOp (eW A q) = 14 → ∃ o, o < sz A q ∧ rg A q (wA (eW A q)) + wS (eW A q) = n32 o) ∧
  (wOp (eW A q) = 18 → wN (eW A q) < nF A (pP A q) ∧ cN A q < 40) ∧ (wOp (eW A q) = 19 → wN (eW A q) < nL A (pP A q) ∧ cN A q < 40) ∧ (wOp (eW A q) = 20 → 1 ≤ cN A q)
def MATCH (A A' : AF) (q : Nat) : Prop :=
  (∀ k i, k < 24 → A' k i = A k i) ∧ A' 38 q = n32 (efP A q) ∧ A' 39 q = n32 (efI A q) ∧ A' 41 q = n32 (efC A q) ∧ A' 43 q = A 43 q ∧ (∀ r, r < 8 → A' 45 (8 * q + r) = efF A q r) ∧
  (∀ j, j < efC A q → A' 47 (40 * q + j) = if j = cN A q then n32 (pP A q) else A 47 (40 * q + j)) ∧ (∀ j, j < efC A q → A' 48 (40 * q + j) = if j = cN A q then n32 (pI A q + 1) else A 48 (40 * q + j))
