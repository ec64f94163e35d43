/-! a process's places: what a step may do to them -/
def mixA (A X : AF) : AF := fun k i => if k < 24 then A k i else X k i
theorem mix_eq {A A' : AF} (h : ∀ k i, k < 24 → A' k i = A k i) : A' = mixA A A' := by
  funext k i
  show A' k i = if k < 24 then A k i else A' k i
  by_cases c : k < 24
  · rw [if_pos c, h k i c]
  · rw [if_neg c]
theorem vR_mix (A X : AF) (p : Nat) : ∀ i, vR (mixA A X) p i = vR A p i := by
  intro i
  induction i with
  | zero => rfl
  | succ i ih =>
    have e : vR (mixA A X) p (i + 1) = (fun t : Row × Int32 × Bool => ((wF A p i (inR A p i t.1) (inS A p i t.2.1) (A 12 (200 * p + i))).2.1, inS A p i t.2.1, (wF A p i (inR A p i t.1) (inS A p i t.2.1) (A 12 (200 * p + i))).2.2)) (vR (mixA A X) p i) := rfl
    rw [e, ih]
    rfl
theorem rwR_mix (A X : AF) (p k : Nat) : rwR (mixA A X) p k = rwR A p k := by
  show inR A p k (vR (mixA A X) p k).1 = inR A p k (vR A p k).1
  rw [vR_mix]
theorem rwS_mix (A X : AF) (p k : Nat) : rwS (mixA A X) p k = rwS A p k := by
  show inS A p k (vR (mixA A X) p k).2.1 = inS A p k (vR A p k).2.1
  rw [vR_mix]
theorem SND_gen {A A' : AF} {q c' s : Nat} {PP II : Nat → Nat} (low : ∀ k i, k < 24 → A' k i = A k i) (x41 : A' 41 q = n32 c') (c40 : c' ≤ 40) (x38 : A' 38 q = n32 (PP c')) (x39 : A' 39 q = n32 (II c')) (x47 : ∀ j, j < c' → A' 47 (40 * q + j) = n32 (PP j)) (x48 : ∀ j, j < c' → A' 48 (40 * q + j) = n32 (II j)) (x43 : A' 43 q = n32 s) (s4 : s ≤ 4096)
    (hp : ∀ j, j ≤ c' → PP j < 24 ∧ A 6 (PP j) = 1 ∧ II j < nW A (PP j) ∧ II j < 200 ∧ nN A (PP j) ≤ s ∧ (A 18 (8 * PP j + (rwS A (PP j) (II j)).toNatClampNeg)).toInt + j ≤ 40)
    (h0 : rwS A (PP 0) (II 0) = 0) (hj : ∀ j, j < c' → ¬ A 13 (200 * PP j + II j) < 0 ∧ ¬ rwS A (PP (j + 1)) (II (j + 1)) = 0 ∧ meetsR (oRow A (8 * PP (j + 1) + (rwS A (PP (j + 1)) (II (j + 1))).toNatClampNeg)) (lRow A (200 * PP j + II j)))
    (hf : fitR (rwR A (PP c') (II c')) (fun r => A' 45 (8 * q + r))) : SND A' q := by
  have main : SND (mixA A A') q := by
    have ec : cN (mixA A A') q = c' := by
      show (A' 41 q).toNatClampNeg = c'
      rw [x41, n_nat (by omega)]
    have eP : ∀ j, j ≤ c' → plP (mixA A A') q j = PP j := by
      intro j hj
      have b := hp j hj
      unfold plP
      rw [ec]
      by_cases e : j = c'
      · rw [if_pos e, e]
        show (A' 38 q).toNatClampNeg = _
        rw [e] at b
        rw [x38, n_nat (by omega)]
      · rw [if_neg e]
        show (A' 47 (40 * q + j)).toNatClampNeg = _
        rw [x47 j (by omega), n_nat (by omega)]
    have eI : ∀ j, j ≤ c' → plI (mixA A A') q j = II j := by
      intro j hj
      have b := hp j hj
      unfold plI
      rw [ec]
      by_cases e : j = c'
      · rw [if_pos e, e]
        show (A' 39 q).toNatClampNeg = _
        rw [e] at b
        rw [x39, n_nat (by omega)]
      · rw [if_neg e]
        show (A' 48 (40 * q + j)).toNatClampNeg = _
        rw [x48 j (by omega), n_nat (by omega)]
    have es : sz (mixA A A') q = s := by
      show (A' 43 q).toNatClampNeg = s
      rw [x43, n_nat (by omega)]
    have ef : ∀ j, j ≤ c' → fnA (mixA A A') q j = (rwS A (PP j) (II j)).toNatClampNeg := by
      intro j hj
      unfold fnA
      rw [eP j hj, eI j hj, rwS_mix]
    unfold SND
    rw [ec, es, eP c' (Nat.le_refl _), eI c' (Nat.le_refl _), eP 0 (by omega), eI 0 (by omega), rwS_mix, rwR_mix]
    refine ⟨⟨x38, x39, x41, c40, x43, s4⟩, fun j hj' => ?_, fun j hj' => ?_, h0, fun j hj' => ?_, hf⟩
    · rw [eP j (by omega), eI j (by omega)]
      exact ⟨x47 j hj', x48 j hj'⟩
    · rw [eP j hj', eI j hj', ef j hj']
      obtain ⟨b1, b2, b3, b4, b5, b6⟩ := hp j hj'
      exact ⟨b1, b2, b3, b5, b6⟩
    · rw [eP j (by omega), eI j (by omega), eP (j + 1) (by omega), eI (j + 1) (by omega), ef (j + 1) (by omega), rwS_mix]
      exact hj j hj'
  rw [mix_eq low]
  exact main
def pP (A : AF) (q : Nat) : Nat := (A 38 q).toNatClampNeg
def pI (A : AF) (q : Nat) : Nat := (A 39 q).toNatClampNeg
def rg (A : AF) (q : Nat) : Nat → Int32 := fun r => A 45 (8 * q + r)
theorem plP_c (A : AF) (q : Nat) : plP A q (cN A q) = pP A q := if_pos rfl
theorem plI_c (A : AF) (q : Nat) : plI A q (cN A q) = pI A q := if_pos rfl
section PL
variable {A A' : AF} {q : Nat}
/-- what SND says of the place that is to be done next -/
theorem SND_top (h : SND A q) : (pP A q < 24 ∧ A 6 (pP A q) = 1 ∧ pI A q < nW A (pP A q) ∧ nN A (pP A q) ≤ sz A q ∧ (A 18 (8 * pP A q + (rwS A (pP A q) (pI A q)).toNatClampNeg)).toInt + cN A q ≤ 40) ∧ A 38 q = n32 (pP A q) ∧ A 39 q = n32 (pI A q) ∧ A 41 q = n32 (cN A q) ∧ cN A q ≤ 40 ∧ A 43 q = n32 (sz A q) ∧ sz A q ≤ 4096 ∧ fitR (rwR A (pP A q) (pI A q)) (rg A q) := by
  obtain ⟨⟨a1, a2, a3, a4, a5, a6⟩, b, c, d, e, f⟩ := h
  have t := c (cN A q) (Nat.le_refl _)
  unfold fnA at t
  rw [plP_c] at a1 t f
  rw [plI_c] at a2 t f
  exact ⟨t, a1, a2, a3, a4, a5, a6, f⟩
/-- on in the same function -/
theorem SND_a {i' : Nat} (G : ∀ p, p < 24 → A 6 p = 1 → nW A p ≤ 200) (h : SND A q) (low : ∀ k i, k < 24 → A' k i = A k i) (x43 : A' 43 q = A 43 q) (x38 : A' 38 q = n32 (pP A q)) (x39 : A' 39 q = n32 i') (x41 : A' 41 q = n32 (cN A q)) (x47 : ∀ j, j < cN A q → A' 47 (40 * q + j) = A 47 (40 * q + j)) (x48 : ∀ j, j < cN A q → A' 48 (40 * q + j) = A 48 (40 * q + j)) (hi : i' < nW A (pP A q)) (hs : rwS A (pP A q) i' = rwS A (pP A q) (pI A q)) (hf : fitR (rwR A (pP A q) i') (rg A' q)) : SND A' q := by
  obtain ⟨⟨t1, t2, t3, t4, t5⟩, a1, a2, a3, a4, a5, a6, f⟩ := SND_top h
  obtain ⟨_, hb, hc, hd, he, _⟩ := h
  have g := G _ t1 t2
  have ji : ∀ j, rwS A (plP A q j) (if j = cN A q then i' else plI A q j) = rwS A (plP A q j) (plI A q j) := by
    intro j
    by_cases e : j = cN A q
    · rw [if_pos e, e, plP_c, plI_c]
      exact hs
    · rw [if_neg e]
  refine SND_gen (c' := cN A q) (s := sz A q) (PP := plP A q) (II := fun j => if j = cN A q then i' else plI A q j) low x41 a4 (by rw [plP_c]; exact x38) (by rw [if_pos rfl]; exact x39) (fun j hj => by rw [x47 j hj]; exact (hb j hj).1) (fun j hj => by rw [if_neg (by omega), x48 j hj]; exact (hb j hj).2) (x43.trans a5) a6 (fun j hj => ?_) ?_ (fun j hj => ?_) ?_
  · obtain ⟨b1, b2, b3, b4, b5⟩ := hc j hj
    have g2 := G _ b1 b2
    unfold fnA at b5
    rw [ji]
    by_cases e : j = cN A q
    · rw [if_pos e]
      rw [e, plP_c] at b1 b2 b4 b5 ⊢
      exact ⟨b1, b2, hi, by omega, b4, b5⟩
    · rw [if_neg e]
      exact ⟨b1, b2, b3, by omega, b4, b5⟩
  · rw [ji]
    exact hd
  · obtain ⟨e1, e2, e3⟩ := he j hj
    unfold fnA at e3
    rw [ji, if_neg (show ¬ j = cN A q by omega)]
    exact ⟨e1, e2, e3⟩
  · rw [if_pos rfl, plP_c]
    exact hf
/-- into a function -/
theorem SND_b {P2 e2 f2 : Nat} (G : ∀ p, p < 24 → A 6 p = 1 → nW A p ≤ 200) (h : SND A q) (low : ∀ k i, k < 24 → A' k i = A k i) (x43 : A' 43 q = A 43 q) (x38 : A' 38 q = n32 P2) (x39 : A' 39 q = n32 e2) (c39 : cN A q < 40) (x41 : A' 41 q = n32 (cN A q + 1)) (x47 : ∀ j, j < cN A q + 1 → A' 47 (40 * q + j) = if j = cN A q then n32 (pP A q) else A 47 (40 * q + j)) (x48 : ∀ j, j < cN A q + 1 → A' 48 (40 * q + j) = if j = cN A q then n32 (pI A q + 1) else A 48 (40 * q + j))
    (hP : P2 < 24) (h6 : A 6 P2 = 1) (he2 : e2 < nW A P2) (hN : nN A P2 ≤ nN A (pP A q)) (hs2 : rwS A P2 e2 = n32 f2) (f1 : 1 ≤ f2) (f8 : f2 < 8) (dep : (A 18 (8 * P2 + f2)).toInt + 1 ≤ (A 18 (8 * pP A q + (rwS A (pP A q) (pI A q)).toNatClampNeg)).toInt)
    (hi : pI A q + 1 < nW A (pP A q)) (hl : ¬ A 13 (200 * pP A q + (pI A q + 1)) < 0) (hs : rwS A (pP A q) (pI A q + 1) = rwS A (pP A q) (pI A q)) (hm : meetsR (oRow A (8 * P2 + f2)) (lRow A (200 * pP A q + (pI A q + 1)))) (hf : fitR (rwR A P2 e2) (rg A' q)) : SND A' q := by
  obtain ⟨⟨t1, t2, t3, t4, t5⟩, a1, a2, a3, a4, a5, a6, f⟩ := SND_top h
  obtain ⟨_, hb, hc, hd, he, _⟩ := h
  have g := G _ t1 t2
  have gP := G _ hP h6
  have vP : ∀ j, j ≤ cN A q → (if j = cN A q + 1 then P2 else plP A q j) = plP A q j := fun j hj => if_neg (by omega)
  have vI : ∀ j, j ≤ cN A q → (if j = cN A q + 1 then e2 else if j = cN A q then pI A q + 1 else plI A q j) = if j = cN A q then pI A q + 1 else plI A q j := fun j hj => if_neg (by omega)
  have ji : ∀ j, rwS A (plP A q j) (if j = cN A q then pI A q + 1 else plI A q j) = rwS A (plP A q j) (plI A q j) := by
    intro j
    by_cases e : j = cN A q
    · rw [if_pos e, e, plP_c, plI_c]
      exact hs
    · rw [if_neg e]
  refine SND_gen (c' := cN A q + 1) (s := sz A q) (PP := fun j => if j = cN A q + 1 then P2 else plP A q j) (II := fun j => if j = cN A q + 1 then e2 else if j = cN A q then pI A q + 1 else plI A q j) low x41 (by omega) (by rw [if_pos rfl]; exact x38) (by rw [if_pos rfl]; exact x39) (fun j hj => ?_) (fun j hj => ?_) (x43.trans a5) a6 (fun j hj => ?_) ?_ (fun j hj => ?_) ?_
  · rw [vP j (by omega), x47 j hj]
    by_cases e : j = cN A q
    · rw [if_pos e, e, plP_c]
    · rw [if_neg e]
      exact (hb j (by omega)).1
  · rw [vI j (by omega), x48 j hj]
    by_cases e : j = cN A q
    · rw [if_pos e, if_pos e]
    · rw [if_neg e, if_neg e]
      exact (hb j (by omega)).2
  · by_cases z : j = cN A q + 1
    · rw [if_pos z, if_pos z, hs2, n_nat (by omega)]
      exact ⟨hP, h6, he2, by omega, by omega, by omega⟩
    · rw [vP j (by omega), vI j (by omega), ji]
      obtain ⟨b1, b2, b3, b4, b5⟩ := hc j (by omega)
      have g2 := G _ b1 b2
      unfold fnA at b5
      by_cases e : j = cN A q
      · rw [if_pos e]
        rw [e, plP_c] at b1 b2 b4 b5 ⊢
        exact ⟨b1, b2, hi, by omega, b4, b5⟩
      · rw [if_neg e]
        exact ⟨b1, b2, b3, by omega, b4, b5⟩
  · rw [vP 0 (by omega), vI 0 (by omega), ji]
    exact hd
  · rw [vP j (by omega), vI j (by omega)]
    by_cases e : j = cN A q
    · rw [if_pos e, e, if_pos rfl, if_pos rfl, hs2, n_nat (by omega), plP_c]
      refine ⟨hl, fun z => ?_, hm⟩
      have := (n_eq0 (by omega)).mp z
      omega
    · obtain ⟨e1, e2, e3⟩ := he j (by omega)
      unfold fnA at e3
      rw [if_neg e, vP (j + 1) (by omega), vI (j + 1) (by omega), ji]
      exact ⟨e1, e2, e3⟩
  · rw [if_pos rfl, if_pos rfl]
    exact hf
/-- back to the caller -/
theorem SND_c (G : ∀ p, p < 24 → A 6 p = 1 → nW A p ≤ 200) (h : SND A q) (low : ∀ k i, k < 24 → A' k i = A k i) (x43 : A' 43 q = A 43 q) (c1 : 1 ≤ cN A q) (x38 : A' 38 q = A 47 (40 * q + (cN A q - 1))) (x39 : A' 39 q = A 48 (40 * q + (cN A q - 1))) (x41 : A' 41 q = n32 (cN A q - 1)) (x47 : ∀ j, j < cN A q - 1 → A' 47 (40 * q + j) = A 47 (40 * q + j)) (x48 : ∀ j, j < cN A q - 1 → A' 48 (40 * q + j) = A 48 (40 * q + j)) (hm : fitR (oRow A (8 * pP A q + (rwS A (pP A q) (pI A q)).toNatClampNeg)) (rg A' q)) : SND A' q := by
  obtain ⟨⟨t1, t2, t3, t4, t5⟩, a1, a2, a3, a4, a5, a6, f⟩ := SND_top h
  obtain ⟨_, hb, hc, hd, he, _⟩ := h
  refine SND_gen (c' := cN A q - 1) (s := sz A q) (PP := plP A q) (II := plI A q) low x41 (by omega) (by rw [x38]; exact (hb _ (by omega)).1) (by rw [x39]; exact (hb _ (by omega)).2) (fun j hj => by rw [x47 j hj]; exact (hb j (by omega)).1) (fun j hj => by rw [x48 j hj]; exact (hb j (by omega)).2) (x43.trans a5) a6 (fun j hj => ?_) hd (fun j hj => he j (by omega)) ?_
  · obtain ⟨b1, b2, b3, b4, b5⟩ := hc j (by omega)
    have g2 := G _ b1 b2
    exact ⟨b1, b2, b3, by omega, b4, b5⟩
  · obtain ⟨e1, e2, e3⟩ := he (cN A q - 1) (by omega)
    rw [show cN A q - 1 + 1 = cN A q from by omega] at e2 e3
    unfold fnA at e3
    rw [plP_c, plI_c] at e3
    have er : rwR A (plP A q (cN A q - 1)) (plI A q (cN A q - 1)) = lRow A (200 * plP A q (cN A q - 1) + plI A q (cN A q - 1)) := by
      unfold rwR inR
      exact if_neg e1
    rw [er]
    intro r hr nz
    obtain ⟨m1, m2, m3⟩ := e3 r hr nz
    have k := hm r hr (by rw [m1]; exact nz)
    rw [i_le, i_le] at k
    rw [i_le] at m2 m3
    rw [i_le, i_le]
    exact ⟨Int.le_trans m2 k.1, Int.le_trans k.2 m3⟩
end PL
