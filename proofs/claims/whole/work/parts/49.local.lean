/-! what is said of a program rests on its own numbers and those of the programs that it links -/
def EQP (A A' : AF) (p : Nat) : Prop := (∀ k, 6 ≤ k → k < 12 → A' k p = A k p) ∧ (∀ j, j < 200 → A' 12 (200 * p + j) = A 12 (200 * p + j) ∧ A' 13 (200 * p + j) = A 13 (200 * p + j)) ∧ (∀ j, j < 200 → ∀ r, r < 8 → lRow A' (200 * p + j) r = lRow A (200 * p + j) r) ∧ (∀ f, f < 8 → A' 17 (8 * p + f) = A 17 (8 * p + f) ∧ A' 18 (8 * p + f) = A 18 (8 * p + f) ∧ A' 22 (8 * p + f) = A 22 (8 * p + f) ∧ A' 23 (8 * p + f) = A 23 (8 * p + f)) ∧ (∀ f, f < 8 → ∀ r, r < 8 → oRow A' (8 * p + f) r = oRow A (8 * p + f) r)
section LO
variable {A A' : AF} {p : Nat}
theorem E_W (E : EQP A A' p) : nW A' p = nW A p := by unfold nW; rw [E.1 8 (by omega) (by omega)]
theorem E_F (E : EQP A A' p) : nF A' p = nF A p := by unfold nF; rw [E.1 9 (by omega) (by omega)]
theorem E_L (E : EQP A A' p) : nL A' p = nL A p := by unfold nL; rw [E.1 10 (by omega) (by omega)]
theorem E_N (E : EQP A A' p) : nN A' p = nN A p := by unfold nN; rw [E.1 7 (by omega) (by omega)]
theorem E_e (E : EQP A A' p) {f : Nat} (hf : f < 8) : eN A' (8 * p + f) = eN A (8 * p + f) := by unfold eN; rw [(E.2.2.2.1 f hf).1]
theorem E_lP (E : EQP A A' p) {k : Nat} (hk : k < 8) : lP A' (8 * p + k) = lP A (8 * p + k) := by unfold lP; rw [(E.2.2.2.1 k hk).2.2.1]
theorem E_lF (E : EQP A A' p) {k : Nat} (hk : k < 8) : lF A' (8 * p + k) = lF A (8 * p + k) := by unfold lF; rw [(E.2.2.2.1 k hk).2.2.2]
theorem okR_c {R R' : Row} (e : ∀ r, r < 8 → R' r = R r) (h : okR R) : okR R' := fun r hr => by rw [e r hr]; exact h r hr
theorem EQP_r (A : AF) (p : Nat) : EQP A A p := ⟨fun _ _ _ => rfl, fun _ _ => ⟨rfl, rfl⟩, fun _ _ _ _ => rfl, fun _ _ => ⟨rfl, rfl, rfl, rfl⟩, fun _ _ _ _ => rfl⟩
theorem WA_loc (W : WA A p) (E : EQP A A' p) (EL : ∀ k, k < nL A p → EQP A A' (lP A (8 * p + k))) (hf : ∀ k, k < nL A p → nF A (lP A (8 * p + k)) ≤ 8 ∧ ∀ f, f < nF A (lP A (8 * p + k)) → eN A (8 * lP A (8 * p + k) + f) < 200) : WA A' p := by
  obtain ⟨⟨a1, a2⟩, ⟨b1, b2, b3⟩, ⟨c1, c2⟩, ⟨d1, d2, d3⟩, e, f, gg, h, i, j⟩ := W
  unfold WA
  rw [E_W E, E_F E, E_L E, E_N E, E.1 8 (by omega) (by omega), E.1 9 (by omega) (by omega), E.1 10 (by omega) (by omega), E.1 7 (by omega) (by omega)]
  refine ⟨⟨a1, a2⟩, ⟨b1, b2, b3⟩, ⟨c1, c2⟩, ⟨d1, d2, d3⟩, fun k hk => ?_, fun k hk => ?_, fun k hk => ?_, fun x hx => ?_, fun x hx => ?_, fun k hk => ?_⟩
  · rw [(E.2.1 k (by omega)).1]
    exact e k hk
  · rw [(E.2.1 k hk).2]
    exact f k hk
  · exact okR_c (E.2.2.1 k hk) (gg k hk)
  · exact okR_c (E.2.2.2.2 x hx) (h x hx)
  · rw [E_e E (by omega), (E.2.2.2.1 x (by omega)).1]
    exact i x hx
  · have jj := j k hk
    have El := EL k hk
    have hl := hf k hk
    obtain ⟨j1, j2, j3, j4, j5, j6, j7, j8, j9⟩ := jj
    have l8 : lF A (8 * p + k) < 8 := by omega
    have e2 := hl.2 _ j6
    rw [E_lP E (by omega), E_lF E (by omega), (E.2.2.2.1 k (by omega)).2.2.1, (E.2.2.2.1 k (by omega)).2.2.2, El.1 6 (by omega) (by omega), E_F El, E_e El l8, (El.2.1 _ e2).2, E_N El, (El.2.2.2.1 _ l8).2.1]
    exact ⟨j1, j2, j3, j4, j5, j6, j7, j8, j9⟩
theorem gF_loc {to : Nat} {R : Row} {st : Int32} (w2 : nW A p ≤ 200) (E : EQP A A' p) : gF A' p to R st = gF A p to R st := by
  unfold gF
  rw [E_W E]
  by_cases h : nW A p ≤ to
  · rw [if_pos (.inl h), if_pos (.inl h)]
  · rw [(E.2.1 to (by omega)).2]
    have e : meetsR R (lRow A' (200 * p + to)) ↔ meetsR R (lRow A (200 * p + to)) := meets_c (fun _ _ => rfl) (E.2.2.1 to (by omega))
    by_cases m : meetsR R (lRow A (200 * p + to))
    · rw [if_pos m, if_pos (e.mpr m)]
    · rw [if_neg m, if_neg (fun z => m (e.mp z))]
theorem nxF_loc {i : Nat} {R : Row} {st : Int32} (w2 : nW A p ≤ 200) (E : EQP A A' p) : nxF A' p i R st = nxF A p i R st := by
  unfold nxF
  rw [E_W E, gF_loc w2 E]
  by_cases h : i + 1 < nW A p
  · rw [(E.2.1 (i + 1) (by omega)).2]
  · rw [if_neg (fun z => h z.1), if_neg (fun z => h z.1)]
theorem cF_loc {i q f : Nat} {R : Row} {st : Int32} (w2 : nW A p ≤ 200) (E : EQP A A' p) (Eq : EQP A A' q) (f8 : f < 8) (e2 : eN A (8 * q + f) < 200) : cF A' p i q f R st = cF A p i q f R st := by
  unfold cF
  rw [E_e Eq f8, (Eq.2.1 _ e2).2, gF_loc w2 E, gF_c (R := oRow A' (8 * q + f)) (R' := oRow A (8 * q + f)) (Eq.2.2.2.2 f f8)]
  have e : meetsR R (lRow A' (200 * q + eN A (8 * q + f))) ↔ meetsR R (lRow A (200 * q + eN A (8 * q + f))) := meets_c (fun _ _ => rfl) (Eq.2.2.1 _ e2)
  split
  · rfl
  · by_cases m : meetsR R (lRow A (200 * q + eN A (8 * q + f)))
    · rw [if_pos m, if_pos (e.mpr m)]
    · rw [if_neg m, if_neg (fun z => m (e.mp z))]
/-- a program and its links have kept their numbers -/
def LOC (A A' : AF) (p : Nat) : Prop := EQP A A' p ∧ (∀ k, k < nL A p → EQP A A' (lP A (8 * p + k)))  ∧ ∀ k, k < nL A p → nF A (lP A (8 * p + k)) ≤ 8 ∧ ∀ f, f < nF A (lP A (8 * p + k)) → eN A (8 * lP A (8 * p + k) + f) < 200
theorem wF_loc {i : Nat} {R : Row} {st w : Int32} (W : WA A p) (E : LOC A A' p) (ok : wOp w ≤ 20) (hs : ∃ f, f < nF A p ∧ st = n32 f) : wF A' p i R st w = wF A p i R st w := by
  have w2 := W.1.2
  have f8 := W.2.1.2.2
  by_cases hw : 1 ≤ wOp w ∧ wOp w ≤ 14
  · rw [wF_wk hw.1 hw.2, wF_wk hw.1 hw.2, E.1.1 7 (by omega) (by omega), nxF_loc w2 E.1]
  · have hop : wOp w = 0 ∨ wOp w = 15 ∨ wOp w = 16 ∨ wOp w = 17 ∨ wOp w = 18 ∨ wOp w = 19 ∨ wOp w = 20 := by omega
    rcases hop with e | e | e | e | e | e | e
    · rw [wF_0 e, wF_0 e]
    · rw [wF_15 e, wF_15 e, gF_loc w2 E.1]
    · rw [wF_16 e, wF_16 e, gF_loc w2 E.1, nxF_loc w2 E.1, nxF_loc w2 E.1]
    · rw [wF_17 e, wF_17 e, gF_loc w2 E.1, nxF_loc w2 E.1]
    · rw [wF_18 e, wF_18 e, E_F E.1]
      by_cases h : nF A p ≤ wN w
      · rw [if_pos (.inl h), if_pos (.inl h)]
      · rw [cF_loc w2 E.1 E.1 (by omega) (W.2.2.2.2.2.2.2.2.1 _ (by omega)).2.1]
    · rw [wF_19 e, wF_19 e, E_L E.1]
      by_cases h : nL A p ≤ wN w
      · rw [if_pos h, if_pos h]
      · have l8 := W.2.2.1.2
        obtain ⟨j1, j2, j3, j4, j5, j6, j7, j8⟩ := W.2.2.2.2.2.2.2.2.2 (wN w) (by omega)
        have hl := E.2.2 (wN w) (by omega)
        rw [E_lP E.1 (by omega), E_lF E.1 (by omega), cF_loc w2 E.1 (E.2.1 _ (by omega)) (by omega) (hl.2 _ j6)]
    · obtain ⟨f, hf, ef⟩ := hs
      rw [wF_20 e, wF_20 e, ef, n_nat (by omega)]
      have ee : meetsR R (oRow A' (8 * p + f)) ↔ meetsR R (oRow A (8 * p + f)) := meets_c (fun _ _ => rfl) (E.1.2.2.2.2 f (by omega))
      split
      · rfl
      · by_cases m : meetsR R (oRow A (8 * p + f))
        · rw [if_pos m, if_pos (ee.mpr m)]
        · rw [if_neg m, if_neg (fun z => m (ee.mp z))]
theorem inS_loc {k : Nat} {st : Int32} (hk : k < 200) (E : EQP A A' p) : inS A' p k st = inS A p k st := by
  unfold inS
  rw [(E.2.1 k hk).2]
theorem rq_s {a b : Row} (h : rq a b) : rq b a := fun r hr => ⟨(h r hr).1.symm, fun z => ((h r hr).2 (by rw [← (h r hr).1]; exact z)).symm⟩
theorem rq_t {a b c : Row} (h1 : rq a b) (h2 : rq b c) : rq a c := fun r hr => ⟨(h1 r hr).1.trans (h2 r hr).1, fun z => ((h1 r hr).2 (by rw [(h2 r hr).1]; exact z)).trans ((h2 r hr).2 z)⟩
theorem inR_loc {k : Nat} {R R' : Row} (hk : k < 200) (E : EQP A A' p) (h : rq R' R) : rq (inR A' p k R') (inR A p k R) := by
  unfold inR
  rw [(E.2.1 k hk).2]
  split
  · exact h
  · intro r hr
    rw [E.2.2.1 k hk r hr]
    exact ⟨rfl, fun _ => rfl⟩
theorem vS_ok (W : WA A p) : ∀ k, k ≤ nW A p → ∃ f, f < nF A p ∧ (vR A p k).2.1 = n32 f := by
  have w2 := W.1.2
  have f1 := W.2.1.2.1
  intro k
  induction k with
  | zero => intro _; exact ⟨0, by omega, rfl⟩
  | succ k ih =>
    intro hk
    exact inS_ok W (by omega) (fun _ => ih (by omega))
theorem rwS_ok (W : WA A p) {k : Nat} (hk : k < nW A p) : ∃ f, f < nF A p ∧ rwS A p k = n32 f := by
  have w2 := W.1.2
  exact inS_ok W (by omega) (fun _ => vS_ok W k (by omega))
theorem vR_loc (W : WA A p) (E : LOC A A' p) : ∀ k, k ≤ nW A p → rq (vR A' p k).1 (vR A p k).1 ∧ (vR A' p k).2.1 = (vR A p k).2.1 ∧ (vR A' p k).2.2 = (vR A p k).2.2 := by
  have w2 := W.1.2
  intro k
  induction k with
  | zero => intro _; exact ⟨rq_r _, rfl, rfl⟩
  | succ k ih =>
    intro hk
    obtain ⟨h1, h2, h3⟩ := ih (by omega)
    have okw := W.2.2.2.2.1 k (by omega)
    have hs := rwS_ok W (show k < nW A p by omega)
    have es : inS A' p k (vR A' p k).2.1 = inS A p k (vR A p k).2.1 := by rw [inS_loc (by omega) E.1, h2]
    have hr := inR_loc (show k < 200 by omega) E.1 h1
    have q := wF_rq (A := A) (p := p) (i := k) (st := inS A p k (vR A p k).2.1) okw hr
    have ew : ∀ R, wF A' p k R (inS A' p k (vR A' p k).2.1) (A' 12 (200 * p + k)) = wF A p k R (inS A p k (vR A p k).2.1) (A 12 (200 * p + k)) := by
      intro R
      rw [es, (E.1.2.1 k (by omega)).1]
      exact wF_loc W E okw.1 hs
    refine ⟨?_, es, ?_⟩
    · show rq (wF A' p k _ _ _).2.1 (wF A p k _ _ _).2.1
      rw [ew]
      exact q.2.2
    · show (wF A' p k _ _ _).2.2 = (wF A p k _ _ _).2.2
      rw [ew]
      exact q.2.1
theorem rwS_loc (W : WA A p) (E : LOC A A' p) {k : Nat} (hk : k < nW A p) : rwS A' p k = rwS A p k := by
  have w2 := W.1.2
  unfold rwS
  rw [inS_loc (by omega) E.1, (vR_loc W E k (by omega)).2.1]
theorem rwR_loc (W : WA A p) (E : LOC A A' p) {k : Nat} (hk : k < nW A p) : rq (rwR A' p k) (rwR A p k) := by
  have w2 := W.1.2
  exact inR_loc (by omega) E.1 (vR_loc W E k (by omega)).1
theorem stF_loc (E : EQP A A' p) : stF A' p ↔ stF A p := by
  unfold stF
  rw [(E.2.1 0 (by omega)).2]
  constructor
  · rintro ⟨h1, h2⟩
    exact ⟨h1, fun r hr => by rw [← E.2.2.1 0 (by omega) r hr]; exact h2 r hr⟩
  · rintro ⟨h1, h2⟩
    exact ⟨h1, fun r hr => by rw [E.2.2.1 0 (by omega) r hr]; exact h2 r hr⟩
theorem cmF_loc (E : EQP A A' p) {k : Nat} (hk : k < 200) {fl : Bool} : cmF A' p k fl = cmF A p k fl := by
  unfold cmF
  rw [(E.2.1 k hk).2]
  by_cases h : k = 0 ∧ ¬ stF A p
  · rw [if_pos h, if_pos ⟨h.1, fun z => h.2 ((stF_loc E).mp z)⟩]
  · rw [if_neg h, if_neg (fun z => h ⟨z.1, fun y => z.2 ((stF_loc E).mpr y)⟩)]
theorem ACC_loc (W : WA A p) (E : LOC A A' p) (h : ACC A p) : ACC A' p := by
  have w2 := W.1.2
  refine ⟨by rw [E_W E.1]; exact h.1, fun k hk => ?_⟩
  rw [E_W E.1] at hk
  obtain ⟨h1, h2, h3⟩ := vR_loc W E k (by omega)
  have okw := W.2.2.2.2.1 k hk
  refine ⟨by rw [h3, cmF_loc E.1 (by omega)]; exact (h.2 k hk).1, ?_⟩
  have e : (rwF A' p k).1 = (rwF A p k).1 := by
    unfold rwF
    rw [rwS_loc W E hk, (E.1.2.1 k (by omega)).1, wF_loc W E okw.1 (rwS_ok W hk)]
    exact (wF_rq okw (rwR_loc W E hk)).1
  rw [e]
  exact (h.2 k hk).2
/-- depths of an accepted program -/
def DEP (A : AF) (p : Nat) : Prop := (∀ f, f < nF A p → 0 ≤ (A 18 (8 * p + f)).toInt ∧ (A 18 (8 * p + f)).toInt + f ≤ 40) ∧ ∀ k, k < nW A p → (wOp (A 12 (200 * p + k)) = 18 → (A 18 (8 * p + wN (A 12 (200 * p + k)))).toInt + 1 ≤ (A 18 (8 * p + (rwS A p k).toNatClampNeg)).toInt) ∧ (wOp (A 12 (200 * p + k)) = 19 → (A 18 (8 * lP A (8 * p + wN (A 12 (200 * p + k))) + lF A (8 * p + wN (A 12 (200 * p + k))))).toInt + 1 ≤ (A 18 (8 * p + (rwS A p k).toNatClampNeg)).toInt)
theorem DEP_loc (W : WA A p) (E : LOC A A' p) (h : ACC A p) (hd : DEP A p) : DEP A' p := by
  have w2 := W.1.2
  have f8 := W.2.1.2.2
  have l8 := W.2.2.1.2
  refine ⟨fun f hf => ?_, fun k hk => ?_⟩
  · rw [E_F E.1] at hf
    rw [(E.1.2.2.2.1 f (by omega)).2.1]
    exact hd.1 f hf
  · rw [E_W E.1] at hk
    obtain ⟨f, hf, ef⟩ := rwS_ok W hk
    have hc := okC_of h k hk
    have d := hd.2 k hk
    rw [(E.1.2.1 k (by omega)).1, rwS_loc W E hk, ef, n_nat (by omega), (E.1.2.2.2.1 f (by omega)).2.1]
    rw [ef, n_nat (by omega)] at d
    refine ⟨fun e => ?_, fun e => ?_⟩
    · rw [(E.1.2.2.2.1 _ (by have := hc.1 e; omega)).2.1]
      exact d.1 e
    · have hc2 := hc.2 e
      obtain ⟨j1, j2, j3, j4, j5, j6, j7, j8⟩ := W.2.2.2.2.2.2.2.2.2 _ hc2
      have hl := E.2.2 _ hc2
      rw [E_lP E.1 (by omega), E_lF E.1 (by omega), ((E.2.1 _ hc2).2.2.2.1 _ (by omega)).2.1]
      exact d.2 e
theorem CP_loc {Y : xW} (W : WA A p) (E : LOC A A' p) (C : CP Y A p) : CP Y A' p := by
  have w2 := W.1.2
  have f8 := W.2.1.2.2
  have l8 := W.2.2.1.2
  obtain ⟨⟨a0, a1, a2, a3, a4, a5⟩, b, c, d, e⟩ := C
  have E1 := E.1
  unfold CP
  rw [E_W E1, E_F E1, E_L E1, E1.1 6 (by omega) (by omega), E1.1 7 (by omega) (by omega), E1.1 8 (by omega) (by omega), E1.1 9 (by omega) (by omega), E1.1 10 (by omega) (by omega), E1.1 11 (by omega) (by omega)]
  refine ⟨⟨a0, a1, a2, a3, a4, a5⟩, fun k hk => ?_, fun k hk => ?_, fun f hf => ?_, fun k hk => ?_⟩
  · rw [(E1.2.1 k (by omega)).1]
    exact b k hk
  · rw [(E1.2.1 k hk).2]
    refine ⟨(c k hk).1, fun z => ⟨((c k hk).2 z).1, ((c k hk).2 z).2.1, rq_t ((c k hk).2 z).2.2 (fun r hr => ?_)⟩⟩
    rw [E1.2.2.1 k hk r hr]
    exact ⟨rfl, fun _ => rfl⟩
  · rw [(E1.2.2.2.1 f (by omega)).1, (E1.2.2.2.1 f (by omega)).2.1]
    refine ⟨(d f hf).1, (d f hf).2.1, (d f hf).2.2.1, fun r hr => ?_⟩
    rw [E1.2.2.2.2 f (by omega) r hr]
    exact (d f hf).2.2.2 r hr
  · obtain ⟨j1, j2, j3, j4, j5, j6, j7, j8⟩ := W.2.2.2.2.2.2.2.2.2 k hk
    have hl := E.2.2 k hk
    rw [E_lP E1 (by omega), E_lF E1 (by omega), (E1.2.2.2.1 k (by omega)).2.2.1, E_e (E.2.1 k hk) (by omega)]
    exact e k hk
end LO
