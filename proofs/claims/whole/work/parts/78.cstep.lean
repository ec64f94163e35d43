/-! one step of a process: the class -/
def CS (Y Y' : xW) (A : AF) (q : Nat) : Prop :=
  (∀ u k, ¬ (u = (4, q, 0) ∧ (k = 4 ∨ k = 5 ∨ k = 6)) → fI Y' u k = fI Y u k) ∧ fI Y' (4, q, 0) 4 = n32 (efC A q) ∧ fI Y' (4, q, 0) 5 = n32 (efP A q) ∧ fI Y' (4, q, 0) 6 = n32 (efI A q) ∧
  (∀ u k j, ¬ (u = (4, q, 0) ∧ (k = 2 ∨ k = 3)) → ¬ (u = (7, 0, 0) ∧ k = 0) → fA Y' u k j = fA Y u k j) ∧ (∀ r, r < 8 → fA Y' (4, q, 0) 2 r = efF A q r) ∧
  (∀ j, j < efC A q → fA Y' (4, q, 0) 3 j = if j = cN A q then n32 (1000 * pP A q + (pI A q + 1)) else fA Y (4, q, 0) 3 j) ∧ (∀ k, k < 4096 → fA Y' (7, 0, 0) 0 k = efM A q k) ∧
  (∀ u k j, fL Y' u k j = fL Y u k j) ∧ (∀ u k j, fR Y' u k j = fR Y u k j) ∧ fC Y' = fC Y
def CB (Y : xW) (A : AF) (q b : Nat) : Prop :=
  (fI Y (4, q, 0) 4 = n32 (cN A q) ∧ fI Y (4, q, 0) 5 = n32 (pP A q) ∧ fI Y (4, q, 0) 6 = n32 (pI A q) ∧ fI Y (4, q, 0) 7 = n32 b ∧ fI Y (4, q, 0) 8 = 0 ∧ fI Y (4, q, 0) 1 = n32 (sz A q)) ∧
  (∀ r, r < 8 → fA Y (4, q, 0) 2 r = rg A q r) ∧ (∀ k, k < 4096 → fA Y (7, 0, 0) 0 k = A 50 k) ∧ (A 42 q = n32 b ∧ b + sz A q ≤ 4096) ∧ (cN A q ≤ 40 ∧ pP A q < 24 ∧ pI A q < 200) ∧
  ∀ j, j < cN A q → ∃ x y, x < 24 ∧ y < 200 ∧ A 47 (40 * q + j) = n32 x ∧ A 48 (40 * q + j) = n32 y ∧ fA Y (4, q, 0) 3 j = n32 (1000 * x + y)
section CO
variable {V : xV} {g : xG} {Y : xW} {A : AF} {q b : Nat}
theorem CS_stay {Yb : xW} {x : Int32} (C : CB Y A q b) (e1 : ∀ u k, fI Yb u k = fI Y u k) (e2 : ∀ u k j, ¬ (u = (4, q, 0) ∧ k = 2) → ¬ (u = (7, 0, 0) ∧ k = 0) → fA Yb u k j = fA Y u k j) (e3 : ∀ r, r < 8 → fA Yb (4, q, 0) 2 r = efF A q r) (e4 : ∀ k, k < 4096 → fA Yb (7, 0, 0) 0 k = efM A q k) (e5 : ∀ u k j, fL Yb u k j = fL Y u k j) (e6 : ∀ u k j, fR Yb u k j = fR Y u k j) (e7 : fC Yb = fC Y) (eP : efP A q = pP A q) (eC : efC A q = cN A q) (ex : x = n32 (efI A q)) : CS Y (uI Yb (4, q, 0) 6 x) A q := by
  refine ⟨fun u k hu => ?_, ?_, ?_, ?_, fun u k j h1 h2 => ?_, fun r hr => ?_, fun j hj => ?_, fun k hk => ?_, fun u k j => ?_, fun u k j => ?_, ?_⟩
  · rw [fI_uI, if_neg (fun z => hu ⟨z.1, .inr (.inr z.2)⟩), e1]
  · rw [fI_uI, if_neg (by simp), e1, eC]; exact C.1.1
  · rw [fI_uI, if_neg (by simp), e1, eP]; exact C.1.2.1
  · rw [fI_uI, if_pos ⟨rfl, rfl⟩]; exact ex
  · rw [fA_uI]; exact e2 u k j (fun z => h1 ⟨z.1, .inl z.2⟩) h2
  · rw [fA_uI]; exact e3 r hr
  · rw [eC] at hj
    rw [fA_uI, if_neg (by omega)]; exact e2 _ _ _ (by simp) (by simp)
  · rw [fA_uI]; exact e4 k hk
  · rw [fL_uI]; exact e5 u k j
  · rw [fR_uI]; exact e6 u k j
  · rw [fC_uI]; exact e7
theorem efM_no (h : ¬ wOp (eW A q) = 14) : efM A q = A 50 := by
  funext k
  unfold efM
  exact if_neg (fun z => h z.1)
/-- a register is set -/
theorem CS_set {v x : Int32} {d : Nat} (C : CB Y A q b) (e : efF A q = upF (rg A q) d v) (n14 : ¬ wOp (eW A q) = 14) (eP : efP A q = pP A q) (eC : efC A q = cN A q) (ex : x = n32 (efI A q)) : CS Y (uI (uA Y (4, q, 0) 2 d v) (4, q, 0) 6 x) A q := by
  refine CS_stay C (fun _ _ => rfl) (fun u k j h1 _ => ?_) (fun r hr => ?_) (fun k hk => ?_) (fun _ _ _ => rfl) (fun _ _ _ => rfl) rfl eP eC ex
  · rw [fA_uA, if_neg (fun z => h1 ⟨z.1, z.2.1⟩)]
  · rw [fA_uA, e]
    unfold upF
    by_cases c : r = d
    · rw [if_pos ⟨rfl, rfl, c⟩, if_pos c]
    · rw [if_neg (fun z => c z.2.2), if_neg c]
      exact C.2.1 r hr
  · rw [fA_uA, if_neg (by simp), efM_no n14]
    exact C.2.2.1 k hk
/-- nothing but the place changes -/
theorem CS_on {x : Int32} (C : CB Y A q b) (e : efF A q = rg A q) (n14 : ¬ wOp (eW A q) = 14) (eP : efP A q = pP A q) (eC : efC A q = cN A q) (ex : x = n32 (efI A q)) : CS Y (uI Y (4, q, 0) 6 x) A q :=
  CS_stay C (fun _ _ => rfl) (fun _ _ _ _ _ => rfl) (fun r hr => by rw [e]; exact C.2.1 r hr) (fun k hk => by rw [efM_no n14]; exact C.2.2.1 k hk) (fun _ _ _ => rfl) (fun _ _ _ => rfl) rfl eP eC ex
theorem s_31 {Q : Int32 → xW → Prop} {o : Nat} (C : CB Y A q b) (ho : o < sz A q) (H : Q 1 Y) : L_31_0 V g Y (4, q, 0) (n32 o) Q := by
  have b4 := C.2.2.2.1.2
  refine l_31_0 ⟨fun _ => ⟨fun z => absurd z (n_ge0 (by omega)), fun _ => ⟨fun z => ?_, fun _ => l_31_24 ⟨.inr rfl, H⟩⟩⟩, fun z => absurd C.1.2.2.2.2.1 z⟩
  rw [C.1.2.2.2.2.2, n_le (by omega) (by omega)] at z
  omega
theorem s_34 {Q : xW → Prop} (C : CB Y A q b) (ok : okW (eW A q)) (S : SAFE A q) (h1 : 1 ≤ wOp (eW A q)) (h14 : wOp (eW A q) ≤ 14) (H : ∀ Y', CS Y Y' A q → Q Y') : L_34_0 V g Y (4, q, 0) (n32 (wOp (eW A q))) (eW A q) (fun Y9 => ∀ Y10, Y10 = uI Y9 (4, q, 0) 6 ((fI Y9 (4, q, 0) 6) + 1) → Q Y10) := by
  obtain ⟨o20, d8, a8, b8, o11⟩ := ok
  have n6 := n_lt6 (eW A q)
  have bm : wB (eW A q) % 8 < 8 := Nat.mod_lt _ (by omega)
  have id := n_in d8 (show 8 ≤ 2147483648 by omega)
  have ia := n_in a8 (show 8 ≤ 2147483648 by omega)
  have eP : efP A q = pP A q := by unfold efP; rw [if_neg (by omega), if_neg (by omega)]
  have eC : efC A q = cN A q := by unfold efC; rw [if_neg (by omega), if_neg (by omega)]
  have eI : efI A q = pI A q + 1 := by
    unfold efI
    rw [if_neg (by omega), if_neg (by omega), if_neg (by omega), if_neg (by omega), if_neg (by omega), if_neg (by omega)]
  have ex : fI Y (4, q, 0) 6 + 1 = n32 (efI A q) := by rw [C.1.2.2.1, eI]; exact n_add _ 1
  have eR : 2 ≤ wOp (eW A q) → wOp (eW A q) ≤ 12 → efF A q = upF (rg A q) (wD (eW A q)) (rv (wOp (eW A q)) (rg A q (wA (eW A q))) (rg A q (wB (eW A q) % 8)) (n32 (wN (eW A q))) (wS (eW A q))) := by
    intro y1 y2
    unfold efF
    rw [if_neg (by omega), if_pos ⟨y1, y2⟩]
  have rD := C.2.1 _ d8
  have rA := C.2.1 _ a8
  have rB := C.2.1 _ bm
  have ho : ∀ {k : Nat}, k < 200 → n32 (wOp (eW A q)) = n32 k → wOp (eW A q) = k := fun hk z => (n_eq (by omega) (by omega)).mp z
  -- a register gets v
  have set : ∀ v, (2 ≤ wOp (eW A q) ∧ wOp (eW A q) ≤ 12 ∧ rv (wOp (eW A q)) (rg A q (wA (eW A q))) (rg A q (wB (eW A q) % 8)) (n32 (wN (eW A q))) (wS (eW A q)) = v) → ∀ Y7, Y7 = uA Y (4, q, 0) 2 (wD (eW A q)) v → ∀ Y10, Y10 = uI Y7 (4, q, 0) 6 ((fI Y7 (4, q, 0) 6) + 1) → Q Y10 := by
    intro v hv Y7 e7 Y10 e10
    rw [e10, e7]
    refine H _ (CS_set C ?_ (by omega) eP eC ex)
    rw [eR hv.1 hv.2.1, hv.2.2]
  have arith : 4 ≤ wOp (eW A q) → wOp (eW A q) ≤ 8 → L_34_208 V g Y (4, q, 0) (n32 (wOp (eW A q))) (eW A q) (n32 (wD (eW A q))) (rg A q (wA (eW A q))) (fun Y9 => ∀ Y10, Y10 = uI Y9 (4, q, 0) 6 ((fI Y9 (4, q, 0) 6) + 1) → Q Y10) := by
    intro y1 y2
    refine l_34_208 (s_120 ⟨n_in bm (by omega), ?_⟩)
    rw [n_nat (show wB (eW A q) % 8 < 2147483648 by omega), rB]
    have fin : ∀ v, rv (wOp (eW A q)) (rg A q (wA (eW A q))) (rg A q (wB (eW A q) % 8)) (n32 (wN (eW A q))) (wS (eW A q)) = v → vp_in (n32 (wD (eW A q))) 8 ∧ ∀ Y5, Y5 = uA Y (4, q, 0) 2 (Int32.toNatClampNeg (n32 (wD (eW A q)))) v → ∀ Y10, Y10 = uI Y5 (4, q, 0) 6 ((fI Y5 (4, q, 0) 6) + 1) → Q Y10 := by
      intro v hv
      rw [n_nat (show wD (eW A q) < 2147483648 by omega)]
      exact ⟨id, set v ⟨by omega, by omega, hv⟩⟩
    refine l_35_0 ⟨⟨fun z => ?_, fun z => ?_, fun z => ?_, fun z => ?_⟩, fun z => ?_⟩
    · exact fin _ (by rw [ho (k := 4) (by omega) z]; rfl)
    · exact fin _ (by rw [ho (k := 5) (by omega) z]; rfl)
    · exact fin _ (by rw [ho (k := 6) (by omega) z]; rfl)
    · have e := ho (k := 7) (by omega) z
      have nz := S.1 (.inl e)
      exact ⟨fun y => absurd y nz, fun y => ⟨nz, l_35_55 (fin _ (by rw [e]; rfl))⟩⟩
    · rw [n_toInt (by omega)] at z
      have e : wOp (eW A q) = 8 := by omega
      have nz := S.1 (.inr e)
      exact ⟨fun y => absurd y nz, fun y => ⟨nz, l_35_67 (fin _ (by rw [e]; rfl))⟩⟩
  refine l_34_0 (s_118 (s_119 ?_))
  rw [Nat.mod_eq_of_lt d8, Nat.mod_eq_of_lt a8, n_nat (show wD (eW A q) < 2147483648 by omega), n_nat (show wA (eW A q) < 2147483648 by omega), rA]
  refine ⟨ia, ⟨fun z => ?_, fun z => ?_, fun z => ?_, fun z => ?_, fun z => ?_, fun z => ?_, fun z => ?_, fun z => ?_, fun z => ?_, fun z => ?_, fun z => ?_, fun z => ?_, fun z => ?_, fun z => ?_⟩, fun z => ?_⟩
  · have e := ho (k := 1) (by omega) z
    intro Y10 e10
    rw [e10]
    refine H _ (CS_on C ?_ (by omega) eP eC ex)
    unfold efF
    rw [if_neg (by omega), if_neg (by omega)]
  · have e := ho (k := 2) (by omega) z
    exact s_122 ⟨id, set _ ⟨by omega, by omega, by rw [e]; rfl⟩⟩
  · have e := ho (k := 3) (by omega) z
    exact ⟨id, set _ ⟨by omega, by omega, by rw [e]; rfl⟩⟩
  · have e := ho (k := 4) (by omega) z
    exact arith (by omega) (by omega)
  · have e := ho (k := 5) (by omega) z
    exact arith (by omega) (by omega)
  · have e := ho (k := 6) (by omega) z
    exact arith (by omega) (by omega)
  · have e := ho (k := 7) (by omega) z
    exact arith (by omega) (by omega)
  · have e := ho (k := 8) (by omega) z
    exact arith (by omega) (by omega)
  · have e := ho (k := 9) (by omega) z
    exact s_122 ⟨id, set _ ⟨by omega, by omega, by rw [e]; rfl⟩⟩
  · have e := ho (k := 10) (by omega) z
    exact s_121 ⟨id, set _ ⟨by omega, by omega, by rw [e]; rfl⟩⟩
  · have e := ho (k := 11) (by omega) z
    exact s_121 ⟨id, set _ ⟨by omega, by omega, by rw [e]; rfl⟩⟩
  · have e := ho (k := 12) (by omega) z
    exact s_121 ⟨id, set _ ⟨by omega, by omega, by rw [e]; rfl⟩⟩
  · have e := ho (k := 13) (by omega) z
    obtain ⟨o, ho, eo⟩ := S.2.1 (.inl e)
    have b4 := C.2.2.2.1.2
    have ad : eAd A q = b + o := by unfold eAd; rw [C.2.2.2.1.1, eo, n_add, n_nat (by omega)]
    refine s_122 ?_
    rw [eo]
    refine l_36_0 (s_31 C ho ⟨fun y => absurd y (by decide), fun _ => ?_⟩)
    rw [C.1.2.2.2.1, n_add]
    refine s_65 (by omega) (l_36_22 ⟨id, fun Y7 e7 Y10 e10 => ?_⟩)
    rw [e10, e7]
    refine H _ (CS_set C ?_ (by omega) eP eC ex)
    unfold efF
    rw [if_pos e, ad, C.2.2.1 _ (by omega)]
  · have e := ho (k := 14) (by omega) z
    obtain ⟨o, ho, eo⟩ := S.2.1 (.inr e)
    have b4 := C.2.2.2.1.2
    have ad : eAd A q = b + o := by unfold eAd; rw [C.2.2.2.1.1, eo, n_add, n_nat (by omega)]
    refine s_122 ⟨id, ?_⟩
    rw [eo, rD]
    refine l_37_0 (s_31 C ho ⟨fun y => absurd y (by decide), fun _ => ?_⟩)
    rw [C.1.2.2.2.1, n_add]
    refine s_66 (by omega) (l_37_19 (fun Y10 e10 => ?_))
    rw [e10]
    refine H _ (CS_stay C (fun _ _ => rfl) (fun u k j _ h2 => ?_) (fun r hr => ?_) (fun k hk => ?_) (fun _ _ _ => rfl) (fun _ _ _ => rfl) rfl eP eC ex)
    · rw [fA_uA, if_neg (fun z => h2 ⟨z.1, z.2.1⟩)]
    · rw [fA_uA, if_neg (by simp)]
      unfold efF
      rw [if_neg (by omega), if_neg (by omega)]
      exact C.2.1 r hr
    · rw [fA_uA]
      unfold efM
      rw [ad]
      by_cases c : k = b + o
      · rw [if_pos ⟨rfl, rfl, c⟩, if_pos ⟨e, c⟩]
      · rw [if_neg (fun z => c z.2.2), if_neg (fun z => c z.2)]
        exact C.2.2.1 k hk
  · rw [n_toInt (by omega)] at z
    omega
end CO
