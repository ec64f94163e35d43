/-! steps at the open program -/
def own (o k i : Nat) : Prop := (6 ≤ k ∧ k < 12 ∧ i = o) ∨ ((k = 12 ∨ k = 13) ∧ 200 * o ≤ i ∧ i < 200 * o + 200) ∨ (14 ≤ k ∧ k ≤ 16 ∧ 1600 * o ≤ i ∧ i < 1600 * o + 1600) ∨ ((k = 17 ∨ k = 18 ∨ k = 22 ∨ k = 23) ∧ 8 * o ≤ i ∧ i < 8 * o + 8) ∨ (19 ≤ k ∧ k ≤ 21 ∧ 64 * o ≤ i ∧ i < 64 * o + 64)
theorem E_own {A A' : AF} {o q : Nat} (h : ∀ k i, k < 24 → ¬ own o k i → A' k i = A k i) (hq : q ≠ o) : EQP A A' q := by
  refine ⟨fun k h1 h2 => h k q (by omega) ?_, fun j hj => ⟨h 12 _ (by omega) ?_, h 13 _ (by omega) ?_⟩, fun j hj r hr => ?_, fun f hf => ⟨h 17 _ (by omega) ?_, h 18 _ (by omega) ?_, h 22 _ (by omega) ?_, h 23 _ (by omega) ?_⟩, fun f hf r hr => ?_⟩
  · unfold own; omega
  · unfold own; omega
  · unfold own; omega
  · unfold lRow
    rw [h 14 _ (by omega) (by unfold own; omega), h 15 _ (by omega) (by unfold own; omega), h 16 _ (by omega) (by unfold own; omega)]
  · unfold own; omega
  · unfold own; omega
  · unfold own; omega
  · unfold own; omega
  · unfold oRow
    rw [h 19 _ (by omega) (by unfold own; omega), h 20 _ (by omega) (by unfold own; omega), h 21 _ (by omega) (by unfold own; omega)]
theorem Inv_open {g g' : xG} {Y Y' : xW} {P N N' S K hd o : Nat} (I : IP g Y P N) (J : IQ g Y S K hd) (ho : o < P) (no : ¬ fA Y xM 6 o = 1)
    (hA : ∀ k i, k < 24 → ¬ own o k i → fA Y' xM k i = fA Y xM k i) (KK : ∀ p, p ≠ o → KP Y Y' p) (G : ∀ u p, p ≠ o → tP u p → g.1 u = false → g'.1 u = false) (G4 : ∀ q, g.1 (4, q, 0) = false → g'.1 (4, q, 0) = false)
    (PPo : PP g' Y' (fA Y' xM) o) (hN : N' ≤ 2000) (h3 : fI Y' xM 3 = n32 P) (h1 : fI Y' (9, 0, 0) 1 = n32 P) (h4 : fI Y' xM 4 = n32 N') (hy3 : fI Y' (9, 0, 0) 3 = n32 N')
    (HO : (fI Y' xM 5 = -1 ∧ fR Y' (9, 0, 0) 2 0 = none) ∨ ∃ o, o < P ∧ fI Y' xM 5 = n32 o ∧ fR Y' (9, 0, 0) 2 0 = some (5, o, 0) ∧ ¬ fA Y' xM 6 o = 1)
    (kq : KQ Y Y') (hq : QE (fA Y xM) (fA Y' xM)) : Inv g' Y' := by
  have P24 := I.1.1
  have E : ∀ q, q ≠ o → EQP (fA Y xM) (fA Y' xM) q := fun q h => E_own hA h
  have Ea : ∀ q, q < 24 → fA Y xM 6 q = 1 → EQP (fA Y xM) (fA Y' xM) q := fun q _ h => E q (fun z => no (by rw [← z]; exact h))
  refine ⟨⟨P, N', ⟨P24, hN⟩, ⟨h3, h1, h4, hy3⟩, HO, fun p hp => ?_, fun p h1 h2 => FP_keep (E p (by omega)) (fun u => G u p (by omega)) (I.2.2.2.2.1 p h1 h2), fun k hk => ?_⟩, S, K, hd, IQ_keep I J kq hq Ea G4⟩
  · by_cases e : p = o
    · rw [e]
      exact PPo
    · exact PP_keep (IP_LOC I hp (E p e) Ea) (KK p e) (fun u => G u p e) (I.2.2.2.1 p hp)
  · rw [hA 0 k (by omega) (by unfold own; omega), hA 1 k (by omega) (by unfold own; omega)]
    exact I.2.2.2.2.2 k hk
section OP
variable {V : xV} {g : xG} {Y : xW}
theorem Inv_c0 (hi : Inv g Y) : Inv g (uI Y xM 2 0) ∧ CT Y (uI Y xM 2 0) :=
  ⟨Inv_q hi ⟨fun u k hu => by rw [fI_uI, if_neg hu], fun _ _ _ => rfl, fun _ _ _ => .inl rfl, fun _ _ _ => rfl⟩, ⟨by show (fC Y).2.1 ≤ _; omega, by show (fC Y).2.2 ≤ _; omega⟩⟩
theorem tP_no {u : xT} {p : Nat} (h : tP u p) : u ≠ xM ∧ u ≠ (9, 0, 0) ∧ u ≠ (1, 0, 0) ∧ u ≠ (6, 0, 0) ∧ u ≠ (7, 0, 0) := by
  refine ⟨fun z => ?_, fun z => ?_, fun z => ?_, fun z => ?_, fun z => ?_⟩ <;> (rw [z] at h; have := h.2; simp at this)
/-- one word more -/
theorem PP_feed {g : xG} {Y Y' : xW} {o : Nat} {w : Int32} (h : PP g Y (fA Y xM) o) (no : ¬ fA Y xM 6 o = 1) (hw : nW (fA Y xM) o < 200) (okw : okW w)
    (a1 : ∀ k i, k < 24 → ¬ (k = 12 ∧ i = 200 * o + nW (fA Y xM) o) → ¬ (k = 8 ∧ i = o) → fA Y' xM k i = fA Y xM k i) (a2 : fA Y' xM 12 (200 * o + nW (fA Y xM) o) = w) (a3 : fA Y' xM 8 o = n32 (nW (fA Y xM) o + 1))
    (c1 : ∀ u k, tP u o → ¬ (u = (5, o, 0) ∧ k = 5) → fI Y' u k = fI Y u k) (c2 : fI Y' (5, o, 0) 5 = n32 (nW (fA Y xM) o + 1)) (c3 : ∀ u k i, tP u o → ¬ (u = (5, o, 0) ∧ k = 1 ∧ i = nW (fA Y xM) o) → fA Y' u k i = fA Y u k i) (c4 : fA Y' (5, o, 0) 1 (nW (fA Y xM) o) = w) (c5 : ∀ u k i, (tP u o ∨ u = (9, 0, 0)) → fR Y' u k i = fR Y u k i) : PP g Y' (fA Y' xM) o := by
  obtain ⟨h1, C, W, h4, h5, h6, h7, h8, h9⟩ := h
  have w2 := W.1.2
  have f8 := W.2.1.2.2
  have l8 := W.2.2.1.2
  have eW : nW (fA Y' xM) o = nW (fA Y xM) o + 1 := by unfold nW; rw [a3]; exact n_nat (by unfold nW at hw; omega)
  have b1 : ∀ k, k < 24 → k ≠ 12 → k ≠ 8 → ∀ i, fA Y' xM k i = fA Y xM k i := fun k h0 h1 h2 i => a1 k i h0 (fun z => h1 z.1) (fun z => h2 z.1)
  have eF : nF (fA Y' xM) o = nF (fA Y xM) o := by unfold nF; rw [b1 9 (by omega) (by omega) (by omega)]
  have eL : nL (fA Y' xM) o = nL (fA Y xM) o := by unfold nL; rw [b1 10 (by omega) (by omega) (by omega)]
  have eNn : nN (fA Y' xM) o = nN (fA Y xM) o := by unfold nN; rw [b1 7 (by omega) (by omega) (by omega)]
  have ee : ∀ f, eN (fA Y' xM) f = eN (fA Y xM) f := fun f => by unfold eN; rw [b1 17 (by omega) (by omega) (by omega)]
  have eP : ∀ k, lP (fA Y' xM) k = lP (fA Y xM) k := fun k => by unfold lP; rw [b1 22 (by omega) (by omega) (by omega)]
  have eFl : ∀ k, lF (fA Y' xM) k = lF (fA Y xM) k := fun k => by unfold lF; rw [b1 23 (by omega) (by omega) (by omega)]
  have nFo : ∀ q, nF (fA Y' xM) q = nF (fA Y xM) q := fun q => by unfold nF; rw [b1 9 (by omega) (by omega) (by omega)]
  have nNo : ∀ q, nN (fA Y' xM) q = nN (fA Y xM) q := fun q => by unfold nN; rw [b1 7 (by omega) (by omega) (by omega)]
  have lr : ∀ a, lRow (fA Y' xM) a = lRow (fA Y xM) a := fun a => by unfold lRow; rw [funext (b1 14 (by omega) (by omega) (by omega)), funext (b1 15 (by omega) (by omega) (by omega)), funext (b1 16 (by omega) (by omega) (by omega))]
  have or : ∀ a, oRow (fA Y' xM) a = oRow (fA Y xM) a := fun a => by unfold oRow; rw [funext (b1 19 (by omega) (by omega) (by omega)), funext (b1 20 (by omega) (by omega) (by omega)), funext (b1 21 (by omega) (by omega) (by omega))]
  have gr : ∀ u : xT, tP u o → u.1 ≠ 5 → gRow Y' u = gRow Y u := fun u hu h5 => gRow_c (fun k i => c3 u k i hu (fun z => h5 (by rw [z.1])))
  refine ⟨(c5 _ _ _ (.inr rfl)).trans h1, ?_, ?_, ?_, ?_, ?_, ?_, ?_, ?_⟩
  · obtain ⟨⟨q0, q1, q2, q3, q4, q5⟩, bb, cc, dd, ll⟩ := C
    have t5 : tP (5, o, 0) o := ⟨rfl, .inl rfl⟩
    unfold CP
    rw [eW, eF, eL]
    refine ⟨⟨?_, ?_, ?_, ?_, ?_, ?_⟩, fun k hk => ?_, fun k hk => ?_, fun f hf => ?_, fun k hk => ?_⟩
    · rw [c1 _ _ t5 (by simp), b1 7 (by omega) (by omega) (by omega)]; exact q0
    · rw [c2, a3]
    · rw [c1 _ _ t5 (by simp), b1 9 (by omega) (by omega) (by omega)]; exact q2
    · rw [c1 _ _ t5 (by simp), b1 10 (by omega) (by omega) (by omega)]; exact q3
    · rw [c1 _ _ t5 (by simp), b1 6 (by omega) (by omega) (by omega)]; exact q4
    · rw [c1 _ _ t5 (by simp), b1 11 (by omega) (by omega) (by omega)]; exact q5
    · by_cases e : k = nW (fA Y xM) o
      · rw [e, c4, a2]
      · rw [c3 _ _ _ t5 (fun z => e z.2.2), a1 12 _ (by omega) (fun z => e (by omega)) (by omega)]
        exact bb k (by omega)
    · rw [c5 _ _ _ (.inl t5), c1 (2, o, k) 1 ⟨rfl, by simp⟩ (by simp), b1 13 (by omega) (by omega) (by omega), lr, gr (22, o, k) ⟨rfl, by simp⟩ (by simp)]
      exact cc k hk
    · rw [c5 _ _ _ (.inl t5), c1 (0, o, f) 0 ⟨rfl, by simp⟩ (by simp), c1 (0, o, f) 2 ⟨rfl, by simp⟩ (by simp), b1 17 (by omega) (by omega) (by omega), b1 18 (by omega) (by omega) (by omega), or, gr (20, o, f) ⟨rfl, by simp⟩ (by simp)]
      exact dd f hf
    · rw [c5 _ _ _ (.inl t5), c1 (3, o, k) 0 ⟨rfl, by simp⟩ (by simp), c5 (3, o, k) _ _ (.inl ⟨rfl, by simp⟩), c5 (3, o, k) _ _ (.inl ⟨rfl, by simp⟩), b1 22 (by omega) (by omega) (by omega), eP, eFl, ee]
      exact ll k hk
  · obtain ⟨⟨q1, q2⟩, ⟨r1, r2, r3⟩, ⟨s1, s2⟩, ⟨t1, t2, t3⟩, u, v, x, y, z, l⟩ := W
    unfold WA
    rw [eW, eF, eL, eNn, a3, b1 9 (by omega) (by omega) (by omega), b1 10 (by omega) (by omega) (by omega), b1 7 (by omega) (by omega) (by omega)]
    refine ⟨⟨rfl, by omega⟩, ⟨r1, r2, r3⟩, ⟨s1, s2⟩, ⟨t1, t2, t3⟩, fun k hk => ?_, fun k hk => ?_, fun k hk => ?_, fun f hf => ?_, fun f hf => ?_, fun k hk => ?_⟩
    · by_cases e : k = nW (fA Y xM) o
      · rw [e, a2]; exact okw
      · rw [a1 12 _ (by omega) (fun z => e (by omega)) (by omega)]
        exact u k (by omega)
    · rw [b1 13 (by omega) (by omega) (by omega)]
      rcases v k hk with h | ⟨f, h1, h2, h3⟩
      · exact .inl h
      · exact .inr ⟨f, h1, h2, by omega⟩
    · rw [lr]; exact x k hk
    · rw [or]; exact y f hf
    · rw [ee, b1 17 (by omega) (by omega) (by omega)]
      exact ⟨(z f hf).1, (z f hf).2.1, fun h => by have := (z f hf).2.2 h; omega⟩
    · rw [eP, eFl, ee, nFo, nNo, b1 22 (by omega) (by omega) (by omega), b1 23 (by omega) (by omega) (by omega), b1 6 (by omega) (by omega) (by omega), b1 13 (by omega) (by omega) (by omega), b1 18 (by omega) (by omega) (by omega)]
      exact l k hk
  · intro k hk
    rw [eL] at hk
    rw [eP]
    exact h4 k hk
  · intro z
    rw [b1 6 (by omega) (by omega) (by omega)] at z
    exact absurd z no
  · intro _ f hf
    rw [b1 18 (by omega) (by omega) (by omega)]
    exact h6 no f hf
  · intro f hf hf8
    rw [eF] at hf
    rw [b1 18 (by omega) (by omega) (by omega), or]
    exact h7 f hf hf8
  · intro k hk hk8
    rw [eL] at hk
    exact h8 k hk hk8
  · intro k hk z
    rw [b1 13 (by omega) (by omega) (by omega)] at z
    exact h9 k hk z
/-- 1: feed -/
theorem case_1 {x1 : Int32} {Pr : Prop} {B F : xW → Prop} (hi : Inv g Y) (hp : Pr) (H : ∀ Y', Inv g Y' → CT Y Y' → B Y') : L_89_0 V g Y x1 (fun x8 Y7 => Pr ∧ L_133_0 V g Y7 x1 (fun x10 Y9 => ((x8 = x10) → B Y9) ∧ (¬ (x8 = x10) → F Y9))) := by
  have hi' := hi
  obtain ⟨⟨P, N, I⟩, S, K, hd, J⟩ := hi'
  obtain ⟨⟨P24, N2⟩, ⟨m3, y1, m4, y3⟩, hop, hPP, hFP, hC⟩ := id I
  have fin : ((-1 : Int32) = -1 → B (uI Y xM 2 0)) ∧ (¬ (-1 : Int32) = -1 → F (uI Y xM 2 0)) := ⟨fun _ => H _ (Inv_c0 hi).1 (Inv_c0 hi).2, fun z => absurd rfl z⟩
  rcases hop with ⟨o5, oR⟩ | ⟨o, oP, o5, oR, no⟩
  · refine l_89_0 (fun o1 e1 => ⟨fun _ => l_89_24 ⟨hp, l_133_0 (fun Y1 e2 => ?_)⟩, fun u z => absurd (z.symm.trans (e1.trans oR)) (by simp)⟩)
    subst e2
    refine ⟨fun _ => l_133_45 fin, fun z => absurd ?_ z⟩
    show fI Y xM 5 < 0
    rw [o5]
    decide
  · have PPo := hPP o oP
    have W := PPo.2.2.1
    have C := PPo.2.1
    have w2 := W.1.2
    have mf : ¬ (N < 2000 ∧ vW x1 ∧ nW (fA Y xM) o < 200) → L_133_0 V g Y x1 (fun x10 Y9 => (((-1 : Int32) = x10) → B Y9) ∧ (¬ ((-1 : Int32) = x10) → F Y9)) := by
      intro h
      refine l_133_0 (fun Y1 e2 => ?_)
      subst e2
      have e5 : fI (uI Y (10, 0, 0) 2 0) (10, 0, 0) 5 = n32 o := o5
      have e4 : fI (uI Y (10, 0, 0) 2 0) (10, 0, 0) 4 = n32 N := m4
      refine ⟨fun z => absurd z (by rw [e5]; exact n_ge0 (by omega)), fun _ => s_132 (fun k hk => (hC k hk).1) (fun v => ⟨fun z => absurd z (by decide), fun _ => ?_⟩) (fun v => ⟨fun _ => l_133_45 fin, fun z => absurd rfl z⟩)⟩
      rw [e5, e4, n_nat (by omega), show fA (uI Y (10, 0, 0) 2 0) (10, 0, 0) 8 o = n32 (nW (fA Y xM) o) from W.1.1]
      refine ⟨n_in (by omega) (by omega), fun _ => l_133_45 fin, fun z => ⟨fun _ => l_133_45 fin, fun z2 => ?_⟩⟩
      refine absurd ⟨?_, v, ?_⟩ h
      · have : N ≠ 2000 := fun y => z2 (by rw [y]; rfl)
        omega
      · have : nW (fA Y xM) o ≠ 200 := fun y => z (by rw [y]; rfl)
        omega
    refine l_89_0 (fun o1 e1 => ⟨fun z => absurd (z.symm.trans (e1.trans oR)) (by simp), fun u z => ?_⟩)
    rw [y3]
    refine ⟨fun c => l_89_24 ⟨hp, mf (fun z => ?_)⟩, fun c => s_114 (fun v => ⟨fun z => absurd z (by decide), fun _ o5' e5' => ⟨(5, o, 0), e5'.trans oR, l_48_0 ?_⟩⟩) (fun v => ⟨fun _ => l_89_24 ⟨hp, mf (fun z => v z.2.1)⟩, fun z => absurd rfl z⟩)⟩
    · have := (n_le (a := 2000) (by omega) (by omega)).mp c
      omega
    · have c' : N < 2000 := by
        have := mt (n_le (a := 2000) (by omega) (by omega)).mpr c
        omega
      have ew : fI Y (5, o, 0) 5 = n32 (nW (fA Y xM) o) := C.1.2.1.trans W.1.1
      rw [ew]
      refine ⟨fun k => ?_, fun k => ⟨fun _ => l_89_50 ⟨hp, mf (fun z => k ((n_lt (b := 200) (by omega) (by omega)).mpr z.2.2))⟩, fun z => absurd rfl z⟩⟩
      have k' : nW (fA Y xM) o < 200 := (n_lt (b := 200) (by omega) (by omega)).mp k
      refine ⟨n_in k' (by omega), fun Y1 eY1 Y2 eY2 => ?_⟩
      rw [n_nat (by omega)] at eY1
      have e1w : fI Y1 (5, o, 0) 5 = n32 (nW (fA Y xM) o) := by rw [eY1]; exact ew
      rw [e1w, show n32 (nW (fA Y xM) o) + 1 = n32 (nW (fA Y xM) o + 1) from n_add _ 1] at eY2
      have e2w : fI Y2 (5, o, 0) 5 = n32 (nW (fA Y xM) o + 1) := by rw [eY2, fI_uI, if_pos ⟨rfl, rfl⟩]
      rw [e2w, show n32 (nW (fA Y xM) o + 1) - 1 = n32 (nW (fA Y xM) o) from n_sub (b := 1) (by omega)]
      refine ⟨fun z => ?_, fun _ Y9 eY9 => l_89_50 ⟨hp, l_133_0 (fun Y3 e3 => ?_)⟩⟩
      · have := congrArg Int32.toInt z
        rw [n_toInt (by omega)] at this
        have e : (-1 : Int32).toInt = -1 := by decide
        omega
      have y3' : fI Y2 (9, 0, 0) 3 = n32 N := by rw [eY2, eY1]; exact y3
      rw [y3', show n32 N + 1 = n32 (N + 1) from n_add _ 1] at eY9
      have a3 : ∀ k i, fA Y3 xM k i = fA Y xM k i := fun k i => by rw [e3, eY9, eY2, eY1]; simp [fA_uI, fA_uA]
      have m5 : fI Y3 xM 5 = n32 o := by rw [e3, eY9, eY2, eY1]; exact o5
      have m4' : fI Y3 xM 4 = n32 N := by rw [e3, eY9, eY2, eY1]; exact m4
      refine ⟨fun z => absurd z (by rw [m5]; exact n_ge0 (by omega)), fun _ => s_132 (fun k hk => (a3 0 k).trans (hC k hk).1) (fun _ => ⟨fun z => absurd z (by decide), fun _ => ?_⟩) (fun z => absurd v z)⟩
      rw [m5, m4', n_nat (by omega), a3, W.1.1, ix200, n_nat (by omega)]
      refine ⟨n_in (by omega) (by omega), fun z => ?_, fun _ => ⟨fun z => ?_, fun _ => ⟨n_in (by omega) (by omega), n_in (by omega) (by omega), fun Y4 e4 => ?_⟩⟩⟩
      · have := (n_eq (b := 200) (by omega) (by omega)).mp z
        omega
      · have := (n_eq (b := 2000) (by omega) (by omega)).mp z
        omega
      · have m5b : fI Y4 xM 5 = n32 o := by rw [e4]; exact m5
        rw [m5b, n_nat (by omega)]
        have a8 : fA Y4 xM 8 o = n32 (nW (fA Y xM) o) := by rw [e4, fA_uA, if_neg (by simp), a3]; exact W.1.1
        rw [a8, show n32 (nW (fA Y xM) o) + 1 = n32 (nW (fA Y xM) o + 1) from n_add _ 1]
        refine ⟨n_in (by omega) (by omega), n_in (by omega) (by omega), fun Y5 e5 Y6 e6 => ?_⟩
        have m5c : fI Y6 xM 5 = n32 o := by rw [e6, fI_uI, if_neg (by simp), e5]; exact m5b
        have m4c : fI Y5 xM 4 = n32 N := by rw [e5, e4]; exact m4'
        rw [m4c, show n32 N + 1 = n32 (N + 1) from n_add _ 1] at e6
        have a8c : fA Y6 xM 8 o = n32 (nW (fA Y xM) o + 1) := by rw [e6, fA_uI, e5, fA_uA, if_pos ⟨rfl, rfl, rfl⟩]
        rw [m5c, n_nat (by omega), a8c, show n32 (nW (fA Y xM) o + 1) - 1 = n32 (nW (fA Y xM) o) from n_sub (b := 1) (by omega)]
        refine ⟨n_in (by omega) (by omega), fun _ => ?_, fun z => absurd rfl z⟩
        -- all reads of the last state
        have rI : ∀ u k, fI Y6 u k = if u = xM ∧ k = 4 then n32 (N + 1) else if u = xM ∧ k = 2 then 0 else if u = (9, 0, 0) ∧ k = 3 then n32 (N + 1) else if u = (5, o, 0) ∧ k = 5 then n32 (nW (fA Y xM) o + 1) else fI Y u k := by
          intro u k
          rw [e6, fI_uI, e5, fI_uA, e4, fI_uA, e3, fI_uI, eY9, fI_uI, eY2, fI_uI, eY1, fI_uA]
        have rA : ∀ u k i, fA Y6 u k i = if u = xM ∧ k = 8 ∧ i = o then n32 (nW (fA Y xM) o + 1) else if u = xM ∧ k = 12 ∧ i = 200 * o + nW (fA Y xM) o then x1 else if u = (5, o, 0) ∧ k = 1 ∧ i = nW (fA Y xM) o then x1 else fA Y u k i := by
          intro u k i
          rw [e6, fA_uI, e5, fA_uA, e4, fA_uA, e3, fA_uI, eY9, fA_uI, eY2, fA_uI, eY1, fA_uA]
        have rL : ∀ u k i, fL Y6 u k i = fL Y u k i := by intro u k i; rw [e6, e5, e4, e3, eY9, eY2, eY1]; rfl
        have rR : ∀ u k i, fR Y6 u k i = fR Y u k i := by intro u k i; rw [e6, e5, e4, e3, eY9, eY2, eY1]; rfl
        have rC : fC Y6 = fC Y := by rw [e6, e5, e4, e3, eY9, eY2, eY1]; rfl
        have amod : ∀ k i, ¬ (k = 12 ∧ i = 200 * o + nW (fA Y xM) o) → ¬ (k = 8 ∧ i = o) → fA Y6 xM k i = fA Y xM k i := by
          intro k i h1 h2
          rw [rA, if_neg (fun z => h2 z.2), if_neg (fun z => h1 z.2), if_neg (by simp)]
        refine H Y6 (Inv_open (g' := g) (N' := N + 1) (o := o) I J oP no (fun k i hk hw => amod k i (fun z => hw (by unfold own; omega)) (fun z => hw (by unfold own; omega))) (fun p hpo => ⟨fun u k hu => ?_, fun u k i hu => ?_, fun u k i _ => rR u k i, rR _ _ _⟩) (fun _ _ _ _ z => z) (fun _ z => z) ?_ (by omega) ?_ ?_ ?_ ?_ ?_ ⟨fun u k hu => ?_, fun k hk => ?_, fun k h1 h2 => ?_, fun u k i hu => ?_, fun u k i => .inl (rL u k i), fun i => rR _ _ _⟩ (fun k i hk => amod k i (by omega) (by omega))) ⟨by rw [rC]; omega, by rw [rC]; omega⟩
        · have t := tP_no hu
          rw [rI, if_neg (fun z => t.1 z.1), if_neg (fun z => t.1 z.1), if_neg (fun z => t.2.1 z.1), if_neg (fun z => hpo (by have := hu.1; rw [z.1] at this; exact this.symm))]
        · have t := tP_no hu
          rw [rA, if_neg (fun z => t.1 z.1), if_neg (fun z => t.1 z.1), if_neg (fun z => hpo (by have := hu.1; rw [z.1] at this; exact this.symm))]
        · refine PP_feed PPo no k' (okW_of v) (fun k i _ h1 h2 => amod k i h1 h2) ?_ ?_ (fun u k hu h => ?_) ?_ (fun u k i hu h => ?_) ?_ (fun u k i _ => rR u k i)
          · rw [rA, if_neg (by simp), if_pos ⟨rfl, rfl, rfl⟩]
          · rw [rA, if_pos ⟨rfl, rfl, rfl⟩]
          · have t := tP_no hu
            rw [rI, if_neg (fun z => t.1 z.1), if_neg (fun z => t.1 z.1), if_neg (fun z => t.2.1 z.1), if_neg h]
          · rw [rI, if_neg (by simp), if_neg (by simp), if_neg (by simp), if_pos ⟨rfl, rfl⟩]
          · have t := tP_no hu
            rw [rA, if_neg (fun z => t.1 z.1), if_neg (fun z => t.1 z.1), if_neg h]
          · rw [rA, if_neg (by simp), if_neg (by simp), if_pos ⟨rfl, rfl, rfl⟩]
        · rw [rI, if_neg (by simp), if_neg (by simp), if_neg (by simp), if_neg (by simp)]
          exact m3
        · rw [rI, if_neg (by simp), if_neg (by simp), if_neg (by simp), if_neg (by simp)]
          exact y1
        · rw [rI, if_pos ⟨rfl, rfl⟩]
        · rw [rI, if_neg (by simp), if_neg (by simp), if_pos ⟨rfl, rfl⟩]
        · refine .inr ⟨o, oP, ?_, (rR _ _ _).trans oR, ?_⟩
          · rw [rI, if_neg (by simp), if_neg (by simp), if_neg (by simp), if_neg (by simp)]
            exact o5
          · rw [amod 6 o (by omega) (by omega)]
            exact no
        · have n1 : u ≠ xM := fun z => by rw [z] at hu; simp at hu
          have n2 : u ≠ (9, 0, 0) := fun z => by rw [z] at hu; simp at hu
          have n3 : u ≠ (5, o, 0) := fun z => by rw [z] at hu; simp at hu
          rw [rI, if_neg (fun z => n1 z.1), if_neg (fun z => n1 z.1), if_neg (fun z => n2 z.1), if_neg (fun z => n3 z.1)]
        · rw [rI, if_neg (by simp), if_neg (by simp), if_neg (fun z => by have := z.2; omega), if_neg (by simp)]
        · rw [rI, if_neg (fun z => by have := z.2; omega), if_neg (fun z => by have := z.2; omega), if_neg (by simp), if_neg (by simp)]
        · have n1 : u ≠ xM := fun z => by rw [z] at hu; simp at hu
          have n3 : u ≠ (5, o, 0) := fun z => by rw [z] at hu; simp at hu
          rw [rA, if_neg (fun z => n1 z.1), if_neg (fun z => n1 z.1), if_neg (fun z => n3 z.1)]
end OP
