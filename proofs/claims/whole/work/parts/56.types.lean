/-! type and out -/
def vT (r k l h : Int32) : Prop := (∃ n, n < 8 ∧ r = n32 n) ∧ (k = 0 ∨ ((k = 1 ∨ k = 2) ∧ l ≤ h))
theorem vT_ok {r k l h : Int32} (v : vT r k l h) : okT (k, l, h) := by
  rcases v.2 with z | z
  · exact .inl z
  · exact .inr z
section TY
variable {V : xV} {g : xG} {Y : xW}
theorem k3 {k : Int32} (h1 : ¬ k < 0) (h2 : ¬ 2 < k) : k = 0 ∨ k = 1 ∨ k = 2 := by
  rw [i_lt, t0] at h1
  rw [i_lt] at h2
  have e2 : (2 : Int32).toInt = 2 := rfl
  have e1 : (1 : Int32).toInt = 1 := rfl
  rw [i_eq, i_eq, i_eq, t0, e1, e2]
  omega
theorem s_113 {Q : Int32 → xW → Prop} {r k l h : Int32} (H1 : vT r k l h → Q 1 Y) (H0 : ¬ vT r k l h → Q 0 Y) : L_113_0 V g Y r k l h Q := by
  have no : ¬ vT r k l h → L_113_29 V g Y r k l h Q := fun z => l_113_29 (l_113_30 ⟨.inl rfl, H0 z⟩)
  have yes : vT r k l h → L_113_25 V g Y r k l h Q := fun z => l_113_25 (l_113_30 ⟨.inr rfl, H1 z⟩)
  refine l_113_0 ?_
  by_cases hr : ∃ n, n < 8 ∧ r = n32 n
  · obtain ⟨n, hn, rfl⟩ := id hr
    refine l_112_0 ⟨fun z => absurd z (n_ge0 (by omega)), fun _ => ⟨fun z => absurd ((n_le (a := 8) (by omega) (by omega)).mp z) (by omega), fun _ => l_112_15 ⟨.inr rfl, ⟨fun z => absurd z (by decide), fun _ => ⟨fun z => no (fun y => ?_), fun z1 => ⟨fun z => no (fun y => ?_), fun z2 => ⟨fun z => yes ⟨hr, .inl z⟩, fun z3 => ⟨fun z => no (fun y => ?_), fun z => yes ⟨hr, .inr ⟨?_, ?_⟩⟩⟩⟩⟩⟩⟩⟩⟩⟩
    · rcases y.2 with y | ⟨y | y, _⟩ <;> (rw [y] at z; exact absurd z (by decide))
    · rcases y.2 with y | ⟨y | y, _⟩ <;> (rw [y] at z; exact absurd z (by decide))
    · rcases y.2 with y | y
      · exact z3 y
      · have := y.2
        rw [i_le] at this
        rw [i_lt] at z
        omega
    · exact (k3 z1 z2).resolve_left z3
    · rw [i_le]
      rw [i_lt] at z
      omega
  · have nn : L_112_14 V g Y r (fun x2 Y1 => ((x2 = 0) → L_113_29 V g Y1 r k l h Q) ∧ (¬ (x2 = 0) → ((k < 0) → L_113_29 V g Y1 r k l h Q) ∧ (¬ (k < 0) → ((2 < k) → L_113_29 V g Y1 r k l h Q) ∧ (¬ (2 < k) → ((k = 0) → L_113_25 V g Y1 r k l h Q) ∧ (¬ (k = 0) → ((h < l) → L_113_29 V g Y1 r k l h Q) ∧ (¬ (h < l) → L_113_25 V g Y1 r k l h Q)))))) := l_112_14 (l_112_15 ⟨.inl rfl, ⟨fun _ => no (fun y => hr y.1), fun z => absurd rfl z⟩⟩)
    rcases idx_not (n := 8) (by omega) hr with y | y
    · exact l_112_0 ⟨fun _ => nn, fun z => absurd y z⟩
    · exact l_112_0 ⟨fun _ => nn, fun _ => ⟨fun _ => nn, fun z => absurd y.2 z⟩⟩
theorem s_136 {Q : Int32 → xW → Prop} {r k l h : Int32} (H1 : vT r k l h → Q 1 Y) (H0 : ¬ vT r k l h → Q 0 Y) : L_136_0 V g Y r k l h Q := by
  have no : ¬ vT r k l h → L_136_32 V g Y r k l h Q := fun z => l_136_32 (l_136_33 ⟨.inl rfl, H0 z⟩)
  have yes : vT r k l h → L_136_28 V g Y r k l h Q := fun z => l_136_28 (l_136_33 ⟨.inr rfl, H1 z⟩)
  by_cases hr : ∃ n, n < 8 ∧ r = n32 n
  · obtain ⟨n, hn, rfl⟩ := id hr
    refine l_136_0 ⟨fun z => absurd z (n_ge0 (by omega)), fun _ => ⟨fun z => absurd ((n_le (a := 8) (by omega) (by omega)).mp z) (by omega), fun _ => ⟨fun z => no (fun y => ?_), fun z1 => ⟨fun z => no (fun y => ?_), fun z2 => ⟨fun z => yes ⟨hr, .inl z⟩, fun z3 => ⟨fun z => no (fun y => ?_), fun z => yes ⟨hr, .inr ⟨?_, ?_⟩⟩⟩⟩⟩⟩⟩⟩
    · rcases y.2 with y | ⟨y | y, _⟩ <;> (rw [y] at z; exact absurd z (by decide))
    · rcases y.2 with y | ⟨y | y, _⟩ <;> (rw [y] at z; exact absurd z (by decide))
    · rcases y.2 with y | y
      · exact z3 y
      · have := y.2
        rw [i_le] at this
        rw [i_lt] at z
        omega
    · refine (k3 z1 (fun w => z2 ?_)).resolve_left z3
      rw [i_lt] at w
      rw [i_le]
      have e2 : (2 : Int32).toInt = 2 := rfl
      have e3 : (3 : Int32).toInt = 3 := rfl
      omega
    · rw [i_le]
      rw [i_lt] at z
      omega
  · rcases idx_not (n := 8) (by omega) hr with y | y
    · exact l_136_0 ⟨fun _ => no (fun y => hr y.1), fun z => absurd y z⟩
    · exact l_136_0 ⟨fun _ => no (fun y => hr y.1), fun _ => ⟨fun _ => no (fun y => hr y.1), fun z => absurd y.2 z⟩⟩
/-- rows of program o have changed, in labels (m = 14) or in outs (m = 19), nothing else -/
theorem PP_row {Y' : xW} {o : Nat} (h : PP g Y (fA Y xM) o) (no : ¬ fA Y xM 6 o = 1)
    (a1 : ∀ k i, k < 24 → ¬ (14 ≤ k ∧ k ≤ 16) → ¬ (19 ≤ k ∧ k ≤ 21) → fA Y' xM k i = fA Y xM k i)
    (al : ∀ k, k < 200 → ¬ fA Y xM 13 (200 * o + k) < 0 → rq (gRow Y' (22, o, k)) (lRow (fA Y' xM) (200 * o + k))) (ak : ∀ k, k < 200 → okR (lRow (fA Y' xM) (200 * o + k)))
    (ao : ∀ f, f < nF (fA Y xM) o → ∀ r, r < 8 → gRow Y' (20, o, f) r = oRow (fA Y' xM) (8 * o + f) r) (aq : ∀ f, f < 8 → okR (oRow (fA Y' xM) (8 * o + f))) (az : ∀ f, nF (fA Y xM) o ≤ f → f < 8 → ∀ r, r < 8 → oRow (fA Y' xM) (8 * o + f) r = (0, 0, 0))
    (c1 : ∀ u k, tP u o → fI Y' u k = fI Y u k) (c3 : ∀ k i, fA Y' (5, o, 0) k i = fA Y (5, o, 0) k i) (c5 : ∀ u k i, (tP u o ∨ u = (9, 0, 0)) → fR Y' u k i = fR Y u k i) : PP g Y' (fA Y' xM) o := by
  obtain ⟨h1, C, W, h4, h5, h6, h7, h8, h9⟩ := h
  have w2 := W.1.2
  have b1 : ∀ k, k < 24 → ¬ (14 ≤ k ∧ k ≤ 16) → ¬ (19 ≤ k ∧ k ≤ 21) → ∀ i, fA Y' xM k i = fA Y xM k i := fun k h0 h1 h2 i => a1 k i h0 h1 h2
  have eW : ∀ q, nW (fA Y' xM) q = nW (fA Y xM) q := fun q => by unfold nW; rw [b1 8 (by omega) (by omega) (by omega)]
  have eF : ∀ q, nF (fA Y' xM) q = nF (fA Y xM) q := fun q => by unfold nF; rw [b1 9 (by omega) (by omega) (by omega)]
  have eL : ∀ q, nL (fA Y' xM) q = nL (fA Y xM) q := fun q => by unfold nL; rw [b1 10 (by omega) (by omega) (by omega)]
  have eNn : ∀ q, nN (fA Y' xM) q = nN (fA Y xM) q := fun q => by unfold nN; rw [b1 7 (by omega) (by omega) (by omega)]
  have ee : ∀ f, eN (fA Y' xM) f = eN (fA Y xM) f := fun f => by unfold eN; rw [b1 17 (by omega) (by omega) (by omega)]
  have eP : ∀ k, lP (fA Y' xM) k = lP (fA Y xM) k := fun k => by unfold lP; rw [b1 22 (by omega) (by omega) (by omega)]
  have eFl : ∀ k, lF (fA Y' xM) k = lF (fA Y xM) k := fun k => by unfold lF; rw [b1 23 (by omega) (by omega) (by omega)]
  have t5 : tP (5, o, 0) o := ⟨rfl, .inl rfl⟩
  refine ⟨(c5 _ _ _ (.inr rfl)).trans h1, ?_, ?_, ?_, ?_, ?_, ?_, ?_, ?_⟩
  · obtain ⟨⟨q0, q1, q2, q3, q4, q5⟩, bb, cc, dd, ll⟩ := C
    unfold CP
    rw [eW, eF, eL, c1 _ _ t5, c1 _ _ t5, c1 _ _ t5, c1 _ _ t5, c1 _ _ t5, c1 _ _ t5, b1 6 (by omega) (by omega) (by omega), b1 7 (by omega) (by omega) (by omega), b1 8 (by omega) (by omega) (by omega), b1 9 (by omega) (by omega) (by omega), b1 10 (by omega) (by omega) (by omega), b1 11 (by omega) (by omega) (by omega)]
    refine ⟨⟨q0, q1, q2, q3, q4, q5⟩, fun k hk => ?_, fun k hk => ?_, fun f hf => ?_, fun k hk => ?_⟩
    · rw [c3, b1 12 (by omega) (by omega) (by omega)]; exact bb k hk
    · rw [c5 _ _ _ (.inl t5), c1 (2, o, k) 1 ⟨rfl, by simp⟩, b1 13 (by omega) (by omega) (by omega)]
      exact ⟨(cc k hk).1, fun z => ⟨((cc k hk).2 z).1, ((cc k hk).2 z).2.1, al k hk z⟩⟩
    · rw [c5 _ _ _ (.inl t5), c1 (0, o, f) 0 ⟨rfl, by simp⟩, c1 (0, o, f) 2 ⟨rfl, by simp⟩, b1 17 (by omega) (by omega) (by omega), b1 18 (by omega) (by omega) (by omega)]
      exact ⟨(dd f hf).1, (dd f hf).2.1, (dd f hf).2.2.1, ao f hf⟩
    · rw [c5 _ _ _ (.inl t5), c1 (3, o, k) 0 ⟨rfl, by simp⟩, c5 (3, o, k) _ _ (.inl ⟨rfl, by simp⟩), c5 (3, o, k) _ _ (.inl ⟨rfl, by simp⟩), b1 22 (by omega) (by omega) (by omega), eP, eFl, ee]
      exact ll k hk
  · obtain ⟨q, r, s, t, u, v, x, y, z, l⟩ := W
    unfold WA
    rw [eW, eF, eL, eNn, b1 8 (by omega) (by omega) (by omega), b1 9 (by omega) (by omega) (by omega), b1 10 (by omega) (by omega) (by omega), b1 7 (by omega) (by omega) (by omega)]
    refine ⟨q, r, s, t, fun k hk => ?_, fun k hk => ?_, ak, aq, fun f hf => ?_, fun k hk => ?_⟩
    · rw [b1 12 (by omega) (by omega) (by omega)]; exact u k hk
    · rw [b1 13 (by omega) (by omega) (by omega)]; exact v k hk
    · rw [ee, b1 17 (by omega) (by omega) (by omega)]; exact z f hf
    · rw [eP, eFl, ee, eF, eNn, b1 22 (by omega) (by omega) (by omega), b1 23 (by omega) (by omega) (by omega), b1 6 (by omega) (by omega) (by omega), b1 13 (by omega) (by omega) (by omega), b1 18 (by omega) (by omega) (by omega)]
      exact l k hk
  · intro k hk
    rw [eL] at hk
    rw [eP]
    exact h4 k hk
  · intro z
    rw [b1 6 (by omega) (by omega) (by omega)] at z
    exact absurd z no
  · intro _ f hf
    rw [b1 18 (by omega) (by omega) (by omega)]
    exact h6 no f hf
  · intro f hf hf8
    rw [eF] at hf
    rw [b1 18 (by omega) (by omega) (by omega)]
    exact ⟨(h7 f hf hf8).1, (h7 f hf hf8).2.1, (h7 f hf hf8).2.2.1, az f hf hf8⟩
  · intro k hk hk8
    rw [eL] at hk
    exact h8 k hk hk8
  · intro k hk z
    rw [b1 13 (by omega) (by omega) (by omega)] at z
    exact h9 k hk z
/-- 3: type -/
theorem case_3 {x1 x2 x3 x4 x5 : Int32} {Pr : Prop} {B F : xW → Prop} (hi : Inv g Y) (hp : Pr) (H : ∀ Y', Inv g Y' → CT Y Y' → B Y') : L_91_0 V g Y x1 x2 x3 x4 x5 (fun x8 Y7 => Pr ∧ L_137_0 V g Y7 x1 x2 x3 x4 x5 (fun x10 Y9 => ((x8 = x10) → B Y9) ∧ (¬ (x8 = x10) → F Y9))) := by
  have hi' := hi
  obtain ⟨⟨P, N, I⟩, S, K, hd, J⟩ := hi'
  obtain ⟨⟨P24, N2⟩, ⟨m3, y1, m4, y3⟩, hop, hPP, hFP, hC⟩ := id I
  have fin : ((0 : Int32) = 0 → B (uI Y xM 2 0)) ∧ (¬ (0 : Int32) = 0 → F (uI Y xM 2 0)) := ⟨fun _ => H _ (Inv_c0 hi).1 (Inv_c0 hi).2, fun z => absurd rfl z⟩
  have f0 : L_137_59 V g (uI Y xM 2 0) x1 x2 x3 x4 x5 (fun x10 Y9 => (((0 : Int32) = x10) → B Y9) ∧ (¬ ((0 : Int32) = x10) → F Y9)) := l_137_59 ⟨.inl rfl, fin⟩
  rcases hop with ⟨o5, oR⟩ | ⟨o, oP, o5, oR, no⟩
  · refine l_91_0 (fun o1 e1 => ⟨fun _ => l_91_19 ⟨.inl rfl, hp, l_137_0 (fun Y1 e2 => ?_)⟩, fun u z => absurd (z.symm.trans (e1.trans oR)) (by simp)⟩)
    subst e2
    refine ⟨fun _ => f0, fun z => absurd ?_ z⟩
    show fI Y xM 5 < 0
    rw [o5]
    decide
  · have PPo := hPP o oP
    have W := PPo.2.2.1
    have C := PPo.2.1
    have w2 := W.1.2
    have mf : ¬ (vT x2 x3 x4 x5 ∧ ∃ i, i < nW (fA Y xM) o ∧ x1 = n32 i ∧ ¬ fA Y xM 13 (200 * o + i) < 0) → L_137_0 V g Y x1 x2 x3 x4 x5 (fun x10 Y9 => (((0 : Int32) = x10) → B Y9) ∧ (¬ ((0 : Int32) = x10) → F Y9)) := by
      intro h
      refine l_137_0 (fun Y1 e2 => ?_)
      subst e2
      have e5 : fI (uI Y (10, 0, 0) 2 0) (10, 0, 0) 5 = n32 o := o5
      refine ⟨fun _ => f0, fun _ => ⟨fun _ => f0, fun z1 => ?_⟩⟩
      rw [e5, n_nat (by omega), show fA (uI Y (10, 0, 0) 2 0) (10, 0, 0) 8 o = n32 (nW (fA Y xM) o) from W.1.1]
      refine ⟨n_in (by omega) (by omega), fun _ => f0, fun z2 => ?_⟩
      rcases n_cases x1 with y | ⟨i, hi1, rfl⟩
      · exact absurd (by rw [i_lt, t0]; exact y) z1
      · have hi2 : i < nW (fA Y xM) o := by
          have := mt (n_le (by omega) hi1).mpr z2
          omega
        rw [ix200, n_nat (by omega)]
        refine ⟨n_in (by omega) (by omega), fun _ => f0, fun z3 => s_136 (fun v => absurd ⟨v, i, hi2, rfl, z3⟩ h) (fun v => ⟨fun _ => f0, fun z => absurd rfl z⟩)⟩
    refine l_91_0 (fun o1 e1 => ⟨fun z => absurd (z.symm.trans (e1.trans oR)) (by simp), fun u z => s_113 (fun v => ⟨fun z => absurd z (by decide), fun _ o5' e5' => ⟨(5, o, 0), e5'.trans oR, ?_⟩⟩) (fun v => ⟨fun _ => l_91_19 ⟨.inl rfl, hp, mf (fun z => v z.1)⟩, fun z => absurd rfl z⟩)⟩)
    have hn : fI Y (5, o, 0) 5 = n32 (nW (fA Y xM) o) := C.1.2.1.trans W.1.1
    rcases n_cases x1 with y | ⟨i, hi1, rfl⟩
    · refine s_44n y ⟨fun _ => ⟨.inl rfl, hp, mf (fun z => ?_)⟩, fun u z => absurd z (by simp)⟩
      obtain ⟨_, i, h1, h2, _⟩ := z
      rw [h2, n_toInt (by omega)] at y
      omega
    · refine s_44 hn w2 hi1 (fun c => ?_) (fun c => ⟨fun _ => ⟨.inl rfl, hp, mf (fun z => ?_)⟩, fun u z => absurd z (by simp)⟩)
      · by_cases neg : fA Y xM 13 (200 * o + i) < 0
        · rw [(C.2.2.1 i (by omega)).1 neg]
          refine ⟨fun _ => ⟨.inl rfl, hp, mf (fun z => ?_)⟩, fun u z => absurd z (by simp)⟩
          obtain ⟨_, i', h1, h2, h3⟩ := z
          have : i' = i := (n_eq (by omega) (by omega)).mp h2.symm
          rw [this] at h3
          exact h3 neg
        · obtain ⟨c1, c2, c3⟩ := (C.2.2.1 i (by omega)).2 neg
          rw [c1]
          refine ⟨fun z => absurd z (by simp), fun u z => ?_⟩
          cases z
          obtain ⟨r, hr, er⟩ := v.1
          refine e_80 er hr (fun Y10 h10 => ⟨.inr rfl, hp, l_137_0 (fun Y1 e1 => ?_)⟩)
          have h10' : rTo Y Y10 (22, o, i) (setR (gRow Y (22, o, i)) r (x3, x4, x5)) := h10
          have i1I : ∀ u k, ¬ (u = xM ∧ k = 2) → fI Y1 u k = fI Y u k := fun u k hu => by rw [e1, fI_uI, if_neg hu]; exact h10'.1 u k
          have i1A : ∀ u k j, u ≠ (22, o, i) → fA Y1 u k j = fA Y u k j := fun u k j hu => by rw [e1, fA_uI]; exact h10'.2.1 u k j hu
          have m5 : fI Y1 (10, 0, 0) 5 = n32 o := (i1I _ _ (by simp)).trans o5
          rw [m5, n_nat (by omega), i1A _ 8 o (by simp), W.1.1, n_le (by omega) (by omega), ix200, n_nat (by omega), i1A _ 13 _ (by simp)]
          refine ⟨fun z => absurd z (n_ge0 (by omega)), fun _ => ⟨fun z => absurd z (n_ge0 (by omega)), fun _ => ⟨n_in (by omega) (by omega), fun z => absurd z (by omega), fun _ => ⟨n_in (by omega) (by omega), fun z => absurd z neg, fun _ => s_136 (fun _ => ⟨fun z => absurd z (by decide), fun _ => ?_⟩) (fun z => absurd v z)⟩⟩⟩⟩
          rw [m5, er, ix200, ix8, n_nat (by omega)]
          have i2 := n_in (show 8 * (200 * o + i) + r < 38400 by omega) (show 38400 ≤ 2147483648 by omega)
          refine ⟨i2, fun Y4 e4 => ⟨i2, fun Y5 e5 => ⟨i2, fun Y6 e6 => ⟨.inr rfl, fun _ => ?_, fun z => absurd rfl z⟩⟩⟩⟩
          have rI : ∀ u k, ¬ (u = xM ∧ k = 2) → fI Y6 u k = fI Y u k := fun u k hu => by rw [e6, fI_uA, e5, fI_uA, e4, fI_uA]; exact i1I u k hu
          have rA : ∀ u k j, fA Y6 u k j = if u = xM ∧ k = 16 ∧ j = 8 * (200 * o + i) + r then x5 else if u = xM ∧ k = 15 ∧ j = 8 * (200 * o + i) + r then x4 else if u = xM ∧ k = 14 ∧ j = 8 * (200 * o + i) + r then x3 else fA Y10 u k j := by
            intro u k j
            rw [e6, fA_uA, e5, fA_uA, e4, fA_uA, e1, fA_uI]
          have rO : ∀ u k j, u ≠ xM → u ≠ (22, o, i) → fA Y6 u k j = fA Y u k j := by
            intro u k j h1 h2
            rw [rA, if_neg (fun z => h1 z.1), if_neg (fun z => h1 z.1), if_neg (fun z => h1 z.1)]
            exact h10'.2.1 u k j h2
          have rM : ∀ k j, ¬ (14 ≤ k ∧ k ≤ 16 ∧ j = 8 * (200 * o + i) + r) → fA Y6 xM k j = fA Y xM k j := by
            intro k j h
            rw [rA, if_neg (fun z => h (by omega)), if_neg (fun z => h (by omega)), if_neg (fun z => h (by omega))]
            exact h10'.2.1 xM k j (by simp)
          have rL : ∀ u k j, fL Y6 u k j = fL Y u k j := by intro u k j; rw [e6, e5, e4, e1]; exact h10'.2.2.1 u k j
          have rR : ∀ u k j, fR Y6 u k j = fR Y u k j := by intro u k j; rw [e6, e5, e4, e1]; exact h10'.2.2.2.1 u k j
          have rC : fC Y6 = fC Y := by rw [e6, e5, e4, e1]; exact h10'.2.2.2.2.1
          have lr : ∀ k, k < 200 → ∀ q, q < 8 → lRow (fA Y6 xM) (200 * o + k) q = if k = i then setR (lRow (fA Y xM) (200 * o + i)) r (x3, x4, x5) q else lRow (fA Y xM) (200 * o + k) q := by
            intro k hk q hq
            by_cases e : k = i
            · subst e
              rw [if_pos rfl]
              unfold lRow setR
              by_cases e2 : q = r
              · subst e2
                rw [if_pos rfl, rA, rA, rA]
                simp
              · rw [if_neg e2, rM _ _ (by omega), rM _ _ (by omega), rM _ _ (by omega)]
            · rw [if_neg e]
              unfold lRow
              rw [rM _ _ (by omega), rM _ _ (by omega), rM _ _ (by omega)]
          have gr : gRow Y6 (22, o, i) = gRow Y10 (22, o, i) := gRow_c (fun k j => by rw [rA, if_neg (by simp), if_neg (by simp), if_neg (by simp)])
          have orr : ∀ a, oRow (fA Y6 xM) a = oRow (fA Y xM) a := fun a => by
            unfold oRow
            funext q
            rw [rM _ _ (by omega), rM _ _ (by omega), rM _ _ (by omega)]
          have PPn : PP g Y6 (fA Y6 xM) o := by
            refine PP_row PPo no (fun k j _ h1 _ => rM k j (fun z => h1 ⟨z.1, z.2.1⟩)) (fun k hk z => ?_) (fun k hk => ?_) (fun f hf q hq => ?_) (fun f hf => by rw [orr]; exact W.2.2.2.2.2.2.2.1 f hf) (fun f hf h8 q hq => by rw [orr]; exact (PPo.2.2.2.2.2.2.1 f hf h8).2.2.2 q hq) (fun u k hu => rI u k (fun z => (tP_no hu).1 z.1)) (fun k j => rO _ _ _ (by simp) (by simp)) (fun u k j _ => rR u k j)
            · by_cases e : k = i
              · subst e
                rw [gr]
                intro q hq
                rw [lr k hk q hq, if_pos rfl, h10'.2.2.2.2.2 q hq]
                exact rq_set c3 r (x3, x4, x5) q hq
              · have e' : gRow Y6 (22, o, k) = gRow Y (22, o, k) := gRow_c (fun k' j => rO _ _ _ (by simp) (by simp [e]))
                rw [e']
                intro q hq
                rw [lr k hk q hq, if_neg e]
                exact ((C.2.2.1 k hk).2 z).2.2 q hq
            · by_cases e : k = i
              · subst e
                exact okR_c (fun q hq => (lr k hk q hq).trans (if_pos rfl)) (okR_set (W.2.2.2.2.2.2.1 k hk) r (vT_ok v))
              · exact okR_c (fun q hq => (lr k hk q hq).trans (if_neg e)) (W.2.2.2.2.2.2.1 k hk)
            · have e' : gRow Y6 (20, o, f) = gRow Y (20, o, f) := gRow_c (fun k' j => rO _ _ _ (by simp) (by simp))
              rw [e', orr]
              exact (C.2.2.2.1 f hf).2.2.2 q hq
          refine H Y6 (Inv_open (g' := g) (N' := N) (o := o) I J oP no (fun k j hk hw => rM k j (fun z => hw (by unfold own; omega))) (fun p hpo => ⟨fun u k hu => rI u k (fun z => (tP_no hu).1 z.1), fun u k j hu => rO u k j (tP_no hu).1 (fun z => hpo (by have := hu.1; rw [z] at this; exact this.symm)), fun u k j _ => rR u k j, rR _ _ _⟩) (fun _ _ _ _ z => z) (fun _ z => z) PPn N2 ((rI _ _ (by simp)).trans m3) ((rI _ _ (by simp)).trans y1) ((rI _ _ (by simp)).trans m4) ((rI _ _ (by simp)).trans y3) (.inr ⟨o, oP, (rI _ _ (by simp)).trans o5, (rR _ _ _).trans oR, by rw [rM 6 o (by omega)]; exact no⟩) ⟨fun u k hu => rI u k (fun z => by rw [z.1] at hu; simp at hu), fun k hk => rI _ _ (by simp), fun k h1 h2 => rI _ _ (fun z => by have := z.2; omega), fun u k j hu => rO u k j (fun z => by rw [z] at hu; simp at hu) (fun z => by rw [z] at hu; simp at hu), fun u k j => .inl (rL u k j), fun j => rR _ _ _⟩ (fun k j hk => rM k j (by omega))) ⟨by rw [rC]; omega, by rw [rC]; omega⟩
      · obtain ⟨_, i', h1, h2, h3⟩ := z
        have : i' = i := (n_eq (by omega) (by omega)).mp h2.symm
        omega
end TY
