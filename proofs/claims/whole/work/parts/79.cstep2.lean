/-! one step of a process: the class, jumps and calls, the trace -/
def trF (F : Nat → Int32) (t : Int64) : Nat → Int64
  | 0 => t
  | k + 1 => 31 * trF F t k + (F k).toInt64
theorem trF_c {F F' : Nat → Int32} {t : Int64} : ∀ {n : Nat}, (∀ r, r < n → F r = F' r) → trF F t n = trF F' t n := by
  intro n
  induction n with
  | zero => intro _; rfl
  | succ n ih =>
    intro h
    show 31 * trF F t n + (F n).toInt64 = 31 * trF F' t n + (F' n).toInt64
    rw [ih (fun r hr => h r (by omega)), h n (by omega)]
def CS2 (Y Y' : xW) (A : AF) (q : Nat) : Prop :=
  (∀ u k, ¬ (u = (4, q, 0) ∧ (k = 4 ∨ k = 5 ∨ k = 6 ∨ k = 9)) → fI Y' u k = fI Y u k) ∧ fI Y' (4, q, 0) 4 = n32 (efC A q) ∧ fI Y' (4, q, 0) 5 = n32 (efP A q) ∧ fI Y' (4, q, 0) 6 = n32 (efI A q) ∧ fI Y' (4, q, 0) 9 = fI Y (4, q, 0) 9 + 1 ∧
  (∀ u k j, ¬ (u = (4, q, 0) ∧ (k = 2 ∨ k = 3)) → ¬ (u = (7, 0, 0) ∧ k = 0) → fA Y' u k j = fA Y u k j) ∧ (∀ r, r < 8 → fA Y' (4, q, 0) 2 r = efF A q r) ∧
  (∀ j, j < efC A q → fA Y' (4, q, 0) 3 j = if j = cN A q then n32 (1000 * pP A q + (pI A q + 1)) else fA Y (4, q, 0) 3 j) ∧ (∀ k, k < 4096 → fA Y' (7, 0, 0) 0 k = efM A q k) ∧
  (∀ u k j, fL Y' u k j = if u = (4, q, 0) ∧ k = 11 ∧ j = 0 then trF (efF A q) (31 * fL Y (4, q, 0) 11 0 + (n32 (1000 * efP A q + efI A q)).toInt64) 8 else fL Y u k j) ∧ (∀ u k j, fR Y' u k j = fR Y u k j) ∧ fC Y' = fC Y
def CX (Y Y' : xW) (A : AF) (q : Nat) : Prop :=
  (∀ u k, ¬ (u = (4, q, 0) ∧ (k = 9 ∨ k = 10)) → fI Y' u k = fI Y u k) ∧ fI Y' (4, q, 0) 9 = fI Y (4, q, 0) 9 + 1 ∧ fI Y' (4, q, 0) 10 = rg A q (wA (eW A q)) ∧ (∀ u k j, fA Y' u k j = fA Y u k j) ∧
  (∀ u k j, fL Y' u k j = if u = (4, q, 0) ∧ k = 11 ∧ j = 0 then trF (rg A q) (31 * fL Y (4, q, 0) 11 0 + (n32 (1000 * pP A q + pI A q)).toInt64) 8 else fL Y u k j) ∧ (∀ u k j, fR Y' u k j = fR Y u k j) ∧ fC Y' = fC Y
section CJ
variable {V : xV} {g : xG} {Y : xW} {A : AF} {q b : Nat}
theorem s_33 {Q : xW → Prop} {t : xT} (H : ∀ Y', (∀ u k, fI Y' u k = fI Y u k) → (∀ u k j, fA Y' u k j = fA Y u k j) → (∀ u k j, fL Y' u k j = if u = t ∧ k = 11 ∧ j = 0 then trF (fA Y t 2) (31 * fL Y t 11 0 + (1000 * fI Y t 5 + fI Y t 6).toInt64) 8 else fL Y u k j) → (∀ u k j, fR Y' u k j = fR Y u k j) → fC Y' = fC Y → Q Y') : L_33_0 V g Y t Q := by
  have lp : ∀ m k (Y1 : xW), k + m = 8 → (∀ u k, fI Y1 u k = fI Y u k) → (∀ u k j, fA Y1 u k j = fA Y u k j) → (∀ u k' j, fL Y1 u k' j = if u = t ∧ k' = 11 ∧ j = 0 then trF (fA Y t 2) (31 * fL Y t 11 0 + (1000 * fI Y t 5 + fI Y t 6).toInt64) k else fL Y u k' j) → (∀ u k j, fR Y1 u k j = fR Y u k j) → fC Y1 = fC Y → L_33_20 V g Y1 t (n32 k) Q := by
    intro m
    induction m with
    | zero =>
      intro k Y1 e q1 q2 q3 q4 q5
      have e' : k = 8 := by omega
      subst e'
      exact l_33_20 ⟨fun _ => H Y1 q1 q2 q3 q4 q5, fun z => absurd (by decide) z⟩
    | succ m ih =>
      intro k Y1 e q1 q2 q3 q4 q5
      refine l_33_20 ⟨fun z => absurd ((n_le (a := 8) (by omega) (by omega)).mp z) (by omega), fun _ => ⟨n_in (by omega) (by omega), fun Y2 e2 => ?_⟩⟩
      rw [show n32 k + 1 = n32 (k + 1) from n_add k 1]
      rw [n_nat (by omega)] at e2
      refine ih (k + 1) Y2 (by omega) (fun u k => by rw [e2]; exact q1 u k) (fun u k j => by rw [e2]; exact q2 u k j) (fun u k' j => ?_) (fun u k j => by rw [e2]; exact q4 u k j) (by rw [e2]; exact q5)
      rw [e2, fL_uL]
      by_cases c : u = t ∧ k' = 11 ∧ j = 0
      · rw [if_pos c, if_pos c, q3, if_pos ⟨rfl, rfl, rfl⟩, q2]
        rfl
      · rw [if_neg c, if_neg c, q3, if_neg c]
  refine l_33_0 (l_30_0 (fun Y3 e3 => lp 8 0 Y3 rfl (fun u k => by rw [e3]; rfl) (fun u k j => by rw [e3]; rfl) (fun u k' j => ?_) (fun u k j => by rw [e3]; rfl) (by rw [e3]; rfl)))
  rw [e3, fL_uL]
  rfl
theorem s_39 {Q : xW → Prop} {P2 e2 : Nat} {l2 : xT} (C : CB Y A q b) (c40 : cN A q < 40) (hl : l2 ≠ (4, q, 0)) (h2 : fI Y l2 0 = n32 e2) (eP : efP A q = P2) (eI : efI A q = e2) (eC : efC A q = cN A q + 1) (eF : efF A q = rg A q) (n14 : ¬ wOp (eW A q) = 14) (H : ∀ Y', CS Y Y' A q → Q Y') : L_39_0 V g Y (4, q, 0) (n32 P2) l2 Q := by
  obtain ⟨⟨h4, h5, h6, h7, h8, h9⟩, hr, hm, hb, hz, hf⟩ := C
  refine l_39_0 ⟨fun _ => l_30_0 ?_, fun z => absurd (by rw [h4]; exact (n_lt (by omega) (by omega)).mpr c40) z⟩
  rw [h4, h5, h6, n_nat (by omega), show (1000 : Int32) = n32 1000 from rfl, n_mul, n_add, show n32 (1000 * pP A q + pI A q) + 1 = n32 (1000 * pP A q + pI A q + 1) from n_add _ 1]
  refine ⟨n_in c40 (by omega), fun Y3 e3 Y4 e4 Y5 e5 Y6 e6 => H Y6 ?_⟩
  have a4 : fI Y3 (4, q, 0) 4 + 1 = n32 (cN A q + 1) := by rw [e3, fI_uA, h4]; exact n_add _ 1
  have a6 : fI Y5 l2 0 = n32 e2 := by rw [e5, fI_uI, if_neg (by simp), e4, fI_uI, if_neg (by simp), e3, fI_uA]; exact h2
  rw [a4] at e4
  rw [a6] at e6
  subst e6 e5 e4 e3
  refine ⟨fun u k hu => ?_, ?_, ?_, ?_, fun u k j n1 n2 => ?_, fun r hr' => ?_, fun j hj => ?_, fun k hk => ?_, fun _ _ _ => rfl, fun _ _ _ => rfl, rfl⟩
  · rw [fI_uI, if_neg (fun z => hu ⟨z.1, .inr (.inr z.2)⟩), fI_uI, if_neg (fun z => hu ⟨z.1, .inr (.inl z.2)⟩), fI_uI, if_neg (fun z => hu ⟨z.1, .inl z.2⟩), fI_uA]
  · rw [fI_uI, if_neg (by simp), fI_uI, if_neg (by simp), fI_uI, if_pos ⟨rfl, rfl⟩, eC]
  · rw [fI_uI, if_neg (by simp), fI_uI, if_pos ⟨rfl, rfl⟩, eP]
  · rw [fI_uI, if_pos ⟨rfl, rfl⟩, eI]
  · rw [fA_uI, fA_uI, fA_uI, fA_uA, if_neg (fun z => n1 ⟨z.1, .inr z.2.1⟩)]
  · rw [fA_uI, fA_uI, fA_uI, fA_uA, if_neg (by simp), eF]
    exact hr r hr'
  · rw [fA_uI, fA_uI, fA_uI, fA_uA]
    by_cases c : j = cN A q
    · rw [if_pos ⟨rfl, rfl, c⟩, if_pos c]
      rfl
    · rw [if_neg (fun z => c z.2.2), if_neg c]
  · rw [fA_uI, fA_uI, fA_uI, fA_uA, if_neg (by simp), efM_no n14]
    exact hm k hk
theorem s_40 {Q : xW → Prop} (C : CB Y A q b) (c1 : 1 ≤ cN A q) (eP : efP A q = (A 47 (40 * q + (cN A q - 1))).toNatClampNeg) (eI : efI A q = (A 48 (40 * q + (cN A q - 1))).toNatClampNeg) (eC : efC A q = cN A q - 1) (eF : efF A q = rg A q) (n14 : ¬ wOp (eW A q) = 14) (H : ∀ Y', CS Y Y' A q → Q Y') : L_40_0 V g Y (4, q, 0) Q := by
  obtain ⟨⟨h4, h5, h6, h7, h8, h9⟩, hr, hm, hb, hz, hf⟩ := C
  obtain ⟨x, y, hx, hy, e47, e48, e3⟩ := hf (cN A q - 1) (by omega)
  refine l_40_0 ⟨fun _ Y1 e1 => ?_, fun z => absurd (by rw [h4]; exact (n_lt (a := 0) (by omega) (by omega)).mpr c1) z⟩
  rw [h4, show n32 (cN A q) - 1 = n32 (cN A q - 1) from n_sub (b := 1) c1] at e1
  have i1 : fI Y1 (4, q, 0) 4 = n32 (cN A q - 1) := by rw [e1, fI_uI, if_pos ⟨rfl, rfl⟩]
  have f1 : fA Y1 (4, q, 0) 3 (cN A q - 1) = n32 (1000 * x + y) := by rw [e1, fA_uI]; exact e3
  rw [i1, n_nat (by omega), f1, show (1000 : Int32) = n32 1000 from rfl, n_div (by omega) (by omega) (by omega), show (1000 * x + y) / 1000 = x by omega]
  refine ⟨n_in (by omega) (by omega), fun Y2 e2 => ?_⟩
  have i2 : fI Y2 (4, q, 0) 4 = n32 (cN A q - 1) := by rw [e2, fI_uI, if_neg (by simp)]; exact i1
  have f2 : fA Y2 (4, q, 0) 3 (cN A q - 1) = n32 (1000 * x + y) := by rw [e2, fA_uI]; exact f1
  rw [i2, n_nat (by omega), f2, n_mod (by omega) (by omega) (by omega), show (1000 * x + y) % 1000 = y by omega]
  refine ⟨n_in (by omega) (by omega), fun Y3 e3' => H Y3 ?_⟩
  subst e3' e2 e1
  rw [e47, n_nat (by omega)] at eP
  rw [e48, n_nat (by omega)] at eI
  refine ⟨fun u k hu => ?_, ?_, ?_, ?_, fun u k j n1 n2 => rfl, fun r hr' => ?_, fun j hj => ?_, fun k hk => ?_, fun _ _ _ => rfl, fun _ _ _ => rfl, rfl⟩
  · rw [fI_uI, if_neg (fun z => hu ⟨z.1, .inr (.inr z.2)⟩), fI_uI, if_neg (fun z => hu ⟨z.1, .inr (.inl z.2)⟩), fI_uI, if_neg (fun z => hu ⟨z.1, .inl z.2⟩)]
  · rw [fI_uI, if_neg (by simp), fI_uI, if_neg (by simp), fI_uI, if_pos ⟨rfl, rfl⟩, eC]
  · rw [fI_uI, if_neg (by simp), fI_uI, if_pos ⟨rfl, rfl⟩, eP]
  · rw [fI_uI, if_pos ⟨rfl, rfl⟩, eI]
  · rw [eF]
    exact hr r hr'
  · rw [eC] at hj
    rw [if_neg (by omega)]
    rfl
  · rw [efM_no n14]
    exact hm k hk
theorem s_38 {Q : xW → Prop} (C : CB Y A q b) (cp : CP Y A (pP A q)) (W : WA A (pP A q)) (hE : ∀ p f, p < 24 → A 6 p = 1 → f < nF A p → fI Y (0, p, f) 0 = n32 (eN A (8 * p + f))) (h6 : A 6 (pP A q) = 1) (ok : okW (eW A q)) (S : SAFE A q) (h15 : 15 ≤ wOp (eW A q)) (H : ∀ Y', CS Y Y' A q → Q Y') : L_38_0 V g Y (4, q, 0) (5, pP A q, 0) (n32 (wOp (eW A q))) (eW A q) Q := by
  obtain ⟨o20, d8, a8, b8, o11⟩ := ok
  have n6 := n_lt6 (eW A q)
  have hz := C.2.2.2.2.1
  have n14 : ¬ wOp (eW A q) = 14 := by omega
  have eF : efF A q = rg A q := by unfold efF; rw [if_neg (by omega), if_neg (by omega)]
  have eP : ¬ wOp (eW A q) = 19 → ¬ wOp (eW A q) = 20 → efP A q = pP A q := fun y1 y2 => by unfold efP; rw [if_neg y1, if_neg y2]
  have eC : ¬ wOp (eW A q) = 18 → ¬ wOp (eW A q) = 19 → ¬ wOp (eW A q) = 20 → efC A q = cN A q := fun y1 y2 y3 => by unfold efC; rw [if_neg (fun y => y.elim y1 y2), if_neg y3]
  have x6 : fI Y (4, q, 0) 6 + 1 = n32 (pI A q + 1) := by rw [C.1.2.2.1]; exact n_add _ 1
  have rD := C.2.1 _ d8
  have rA := C.2.1 _ a8
  have ho : ∀ {k : Nat}, k < 200 → n32 (wOp (eW A q)) = n32 k → wOp (eW A q) = k := fun hk z => (n_eq (by omega) (by omega)).mp z
  refine l_38_0 (s_121 (s_118 ⟨?_, s_119 ?_⟩))
  · rw [Nat.mod_eq_of_lt d8]; exact n_in d8 (by omega)
  rw [Nat.mod_eq_of_lt d8, Nat.mod_eq_of_lt a8, n_nat (show wD (eW A q) < 2147483648 by omega), n_nat (show wA (eW A q) < 2147483648 by omega), rA, rD]
  refine ⟨n_in a8 (by omega), ⟨fun z => ?_, fun z => ?_, fun z => ?_, fun z => ?_, fun z => ?_⟩, fun z => ?_⟩
  · have e := ho (k := 15) (by omega) z
    intro Y8 e8
    rw [e8]
    refine H _ (CS_on C eF n14 (eP (by omega) (by omega)) (eC (by omega) (by omega) (by omega)) ?_)
    unfold efI
    rw [if_pos e]
  · have e := ho (k := 16) (by omega) z
    have eI : efI A q = if rg A q (wD (eW A q)) < rg A q (wA (eW A q)) then wN (eW A q) else pI A q + 1 := by
      unfold efI
      rw [if_neg (by omega), if_pos e]
    refine ⟨fun c => l_38_90 (fun Y1 e1 => ?_), fun c => l_38_90 (fun Y1 e1 => ?_)⟩
    · rw [e1]
      refine H _ (CS_on C eF n14 (eP (by omega) (by omega)) (eC (by omega) (by omega) (by omega)) ?_)
      rw [i_le] at c
      rw [eI, if_neg (by rw [i_lt]; omega)]
      exact x6
    · rw [e1]
      refine H _ (CS_on C eF n14 (eP (by omega) (by omega)) (eC (by omega) (by omega) (by omega)) ?_)
      rw [i_le] at c
      rw [eI, if_pos (by rw [i_lt]; omega)]
  · have e := ho (k := 17) (by omega) z
    have eI : efI A q = if rg A q (wD (eW A q)) = rg A q (wA (eW A q)) then wN (eW A q) else pI A q + 1 := by
      unfold efI
      rw [if_neg (by omega), if_neg (by omega), if_pos e]
    refine ⟨fun c => l_38_113 (fun Y1 e1 => ?_), fun c => l_38_113 (fun Y1 e1 => ?_)⟩
    · rw [e1]
      refine H _ (CS_on C eF n14 (eP (by omega) (by omega)) (eC (by omega) (by omega) (by omega)) ?_)
      rw [eI, if_pos c]
    · rw [e1]
      refine H _ (CS_on C eF n14 (eP (by omega) (by omega)) (eC (by omega) (by omega) (by omega)) ?_)
      rw [eI, if_neg c]
      exact x6
  · have e := ho (k := 18) (by omega) z
    obtain ⟨hn, c40⟩ := S.2.2.1 e
    have f8 := W.2.1.2.2
    refine s_45 (cp.1.2.2.1.trans W.2.1.1) f8 (by omega) (fun _ => ?_) (fun z => absurd hn z)
    rw [(cp.2.2.2.1 _ hn).1]
    refine ⟨fun z => absurd z (by simp), fun u z => ?_⟩
    cases z
    rw [C.1.2.1]
    refine s_39 C c40 (by simp) (hE _ _ hz.2.1 h6 hn) (eP (by omega) (by omega)) ?_ ?_ eF n14 (fun Y' h => l_38_140 (H Y' h))
    · unfold efI
      rw [if_neg (by omega), if_neg (by omega), if_neg (by omega), if_pos e]
    · unfold efC
      rw [if_pos (.inl e)]
  · have e := ho (k := 19) (by omega) z
    obtain ⟨hn, c40⟩ := S.2.2.2.1 e
    have l8 := W.2.2.1.2
    obtain ⟨l1, l2, l3, l4, l5, l6, l7, _⟩ := W.2.2.2.2.2.2.2.2.2 _ hn
    obtain ⟨d1, d2, d3, d4⟩ := cp.2.2.2.2 _ hn
    refine s_46 (cp.1.2.2.2.1.trans W.2.2.1.1) l8 (by omega) (fun _ => ?_) (fun z => absurd hn z)
    rw [d1]
    refine ⟨fun z => absurd z (by simp), fun u z => ?_⟩
    cases z
    intro o16 e16
    rw [d3] at e16
    refine ⟨_, e16, ?_⟩
    rw [d2, l1]
    refine s_39 C c40 (by simp) (hE _ _ l3 l4 l6) ?_ ?_ ?_ eF n14 (fun Y' h => l_38_168 (H Y' h))
    · unfold efP
      rw [if_pos e]
    · unfold efI
      rw [if_neg (by omega), if_neg (by omega), if_neg (by omega), if_neg (by omega), if_pos e]
    · unfold efC
      rw [if_pos (.inr e)]
  · rw [n_toInt (by omega)] at z
    have e : wOp (eW A q) = 20 := by omega
    refine s_40 C (S.2.2.2.2 e) ?_ ?_ ?_ eF n14 H
    · unfold efP
      rw [if_neg (by omega), if_pos e]
    · unfold efI
      rw [if_neg (by omega), if_neg (by omega), if_neg (by omega), if_neg (by omega), if_neg (by omega), if_pos e]
    · unfold efC
      rw [if_neg (by omega), if_pos e]
/-- a step -/
theorem s_32 {Q : Int32 → xW → Prop} (C : CB Y A q b) (cp : CP Y A (pP A q)) (W : WA A (pP A q)) (hi : pI A q < nW A (pP A q)) (hE : ∀ p f, p < 24 → A 6 p = 1 → f < nF A p → fI Y (0, p, f) 0 = n32 (eN A (8 * p + f))) (h6 : A 6 (pP A q) = 1) (S : ¬ wOp (eW A q) = 0 → SAFE A q) (H0 : wOp (eW A q) = 0 → ∀ Y', CX Y Y' A q → Q 0 Y') (H1 : ¬ wOp (eW A q) = 0 → ∀ Y', CS2 Y Y' A q → Q (n32 (wOp (eW A q))) Y') : L_32_0 V g Y (4, q, 0) (5, pP A q, 0) Q := by
  have ok : okW (eW A q) := W.2.2.2.2.1 _ hi
  have w2 := W.1.2
  have hop := op_lt (eW A q)
  have tail : ∀ Y8, CS Y Y8 A q → ¬ wOp (eW A q) = 0 → L_32_72 V g Y8 (4, q, 0) (5, pP A q, 0) (eW A q) (n32 (wOp (eW A q))) Q := by
    intro Y8 c n0
    obtain ⟨s1, s2, s3, s4, s5, s6, s7, s8, s9, s10, s11⟩ := c
    refine l_32_72 (fun Y1 e1 => s_33 (fun Y' q1 q2 q3 q4 q5 => H1 n0 Y' ?_))
    have i1 : ∀ u k, fI Y1 u k = if u = (4, q, 0) ∧ k = 9 then fI Y (4, q, 0) 9 + 1 else fI Y8 u k := fun u k => by rw [e1, fI_uI, s1 (4, q, 0) 9 (by simp)]
    refine ⟨fun u k hu => ?_, ?_, ?_, ?_, ?_, fun u k j h1 h2 => ?_, fun r hr => ?_, fun j hj => ?_, fun k hk => ?_, fun u k j => ?_, fun u k j => ?_, ?_⟩
    · rw [q1, i1, if_neg (fun z => hu ⟨z.1, .inr (.inr (.inr z.2))⟩)]
      exact s1 u k (fun z => hu ⟨z.1, z.2.elim .inl (fun y => .inr (y.elim .inl (fun x => .inr (.inl x))))⟩)
    · rw [q1, i1, if_neg (by simp)]; exact s2
    · rw [q1, i1, if_neg (by simp)]; exact s3
    · rw [q1, i1, if_neg (by simp)]; exact s4
    · rw [q1, i1, if_pos ⟨rfl, rfl⟩]
    · rw [q2, e1]; exact s5 u k j h1 h2
    · rw [q2, e1]; exact s6 r hr
    · rw [q2, e1]; exact s7 j hj
    · rw [q2, e1]; exact s8 k hk
    · have j5 : fI Y1 (4, q, 0) 5 = n32 (efP A q) := by rw [i1, if_neg (by simp)]; exact s3
      have j6 : fI Y1 (4, q, 0) 6 = n32 (efI A q) := by rw [i1, if_neg (by simp)]; exact s4
      rw [q3, j5, j6, e1, fL_uI, fL_uI, s9, s9, show (1000 : Int32) = n32 1000 from rfl, n_mul, n_add]
      rw [trF_c (F := fA (uI Y8 (4, q, 0) 9 (fI Y8 (4, q, 0) 9 + 1)) (4, q, 0) 2) (F' := efF A q) (fun r hr => s6 r hr)]
    · rw [q4, e1]; exact s10 u k j
    · rw [q5, e1]; exact s11
  refine l_32_0 ?_
  rw [C.1.2.2.1]
  refine s_43 (cp.1.2.1.trans W.1.1) w2 hi ?_
  rw [show fA Y (5, pP A q, 0) 1 (pI A q) = eW A q from cp.2.1 _ hi]
  refine s_117 ⟨fun z => s_119 ?_, fun z => ⟨fun c => ?_, fun c => ?_⟩⟩
  · have e := (n_eq0 (by omega)).mp z
    have a8 := ok.2.2.1
    rw [Nat.mod_eq_of_lt a8, n_nat (by omega), C.2.1 _ a8]
    refine ⟨n_in a8 (by omega), fun Y7 e7 => l_32_72 (fun Y1 e1 => s_33 (fun Y' q1 q2 q3 q4 q5 => ?_))⟩
    rw [e]
    have i1 : ∀ u k, fI Y1 u k = if u = (4, q, 0) ∧ k = 9 then fI Y (4, q, 0) 9 + 1 else if u = (4, q, 0) ∧ k = 10 then rg A q (wA (eW A q)) else fI Y u k := fun u k => by rw [e1, fI_uI, e7, fI_uI, fI_uI, if_neg (c := (4, q, 0) = (4, q, 0) ∧ 9 = 10) (by simp)]
    have l1 : ∀ u k j, fL Y1 u k j = fL Y u k j := fun u k j => by rw [e1, e7]; rfl
    have a1 : ∀ u k j, fA Y1 u k j = fA Y u k j := fun u k j => by rw [e1, e7]; rfl
    refine H0 e Y' ⟨fun u k hu => ?_, ?_, ?_, fun u k j => by rw [q2]; exact a1 u k j, fun u k j => ?_, fun u k j => by rw [q4, e1, e7]; rfl, by rw [q5, e1, e7]; rfl⟩
    · rw [q1, i1, if_neg (fun z => hu ⟨z.1, .inl z.2⟩), if_neg (fun z => hu ⟨z.1, .inr z.2⟩)]
    · rw [q1, i1, if_pos ⟨rfl, rfl⟩]
    · rw [q1, i1, if_neg (by simp), if_pos ⟨rfl, rfl⟩]
    · have j5 : fI Y1 (4, q, 0) 5 = n32 (pP A q) := by rw [i1, if_neg (by simp), if_neg (by simp)]; exact C.1.2.1
      have j6 : fI Y1 (4, q, 0) 6 = n32 (pI A q) := by rw [i1, if_neg (by simp), if_neg (by simp)]; exact C.1.2.2.1
      rw [q3, j5, j6, l1, l1, show (1000 : Int32) = n32 1000 from rfl, n_mul, n_add]
      rw [trF_c (F := fA Y1 (4, q, 0) 2) (F' := rg A q) (fun r hr => by rw [a1]; exact C.2.1 r hr)]
  · have n0 : ¬ wOp (eW A q) = 0 := fun y => z ((n_eq0 (by omega)).mpr y)
    exact s_38 C cp W hE h6 ok (S n0) ((n_le (a := 15) (by omega) (by omega)).mp c) (fun Y8 h => tail Y8 h n0)
  · have n0 : ¬ wOp (eW A q) = 0 := fun y => z ((n_eq0 (by omega)).mpr y)
    have c' : wOp (eW A q) ≤ 14 := by
      apply Classical.byContradiction
      intro y
      exact c ((n_le (a := 15) (by omega) (by omega)).mpr (by omega))
    exact s_34 C ok (S n0) (by omega) c' (fun Y8 h => tail Y8 h n0)
end CJ
