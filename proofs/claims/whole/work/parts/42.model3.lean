/-! the reference's judge: ways, callees, returns -/
def FR (Y Y' : xW) : Prop := (∀ u k, ¬ (u = xM ∧ (k = 27 ∨ k = 29)) → fI Y' u k = fI Y u k) ∧ (∀ u k i, (u ≠ xM ∨ (k ≠ 24 ∧ k ≠ 25 ∧ k ≠ 26)) → fA Y' u k i = fA Y u k i) ∧ (∀ u k i, fL Y' u k i = fL Y u k i) ∧ (∀ u k i, fR Y' u k i = fR Y u k i) ∧ fC Y' = fC Y
theorem FR_r (Y : xW) : FR Y Y := ⟨fun _ _ _ => rfl, fun _ _ _ _ => rfl, fun _ _ _ => rfl, fun _ _ _ => rfl, rfl⟩
theorem FR_t {Y Y1 Y2 : xW} (h1 : FR Y Y1) (h2 : FR Y1 Y2) : FR Y Y2 := ⟨fun u k hu => (h2.1 u k hu).trans (h1.1 u k hu), fun u k i hu => (h2.2.1 u k i hu).trans (h1.2.1 u k i hu), fun u k i => (h2.2.2.1 u k i).trans (h1.2.2.1 u k i), fun u k i => (h2.2.2.2.1 u k i).trans (h1.2.2.2.1 u k i), h2.2.2.2.2.trans h1.2.2.2.2⟩
theorem FR_K {Y Y' : xW} {x : Int32} {R : Row} (h : MK Y Y' x R) : FR Y Y' := ⟨fun u k hu => h.1 u k (fun z => hu ⟨z.1, .inr z.2⟩), h.2.1, h.2.2.1, h.2.2.2.1, h.2.2.2.2.1⟩
theorem FR_m {Y Y' : xW} {R : Row} (h : mTo Y Y' R) : FR Y Y' := ⟨fun u k _ => h.1 u k, h.2.1, h.2.2.1, h.2.2.2.1, h.2.2.2.2.1⟩
theorem FR_27 (Y : xW) (v : Int32) : FR Y (uI Y xM 27 v) := ⟨fun u k hu => by rw [fI_uI, if_neg (fun z => hu ⟨z.1, .inl z.2⟩)], fun _ _ _ _ => rfl, fun _ _ _ => rfl, fun _ _ _ => rfl, rfl⟩
theorem AM_F {Y Y' : xW} {A : AF} (h : FR Y Y') (a : AM Y A) : AM Y' A := fun k i h1 h2 h3 => (h.2.1 xM k i (.inr ⟨h1, h2, h3⟩)).trans (a k i h1 h2 h3)
theorem FR_i {Y Y' : xW} (h : FR Y Y') {k : Nat} (h1 : k ≠ 27) (h2 : k ≠ 29) : fI Y' xM k = fI Y xM k := h.1 xM k (fun z => z.2.elim h1 h2)
def PM (Y Y' : xW) (q : Int32 × Row × Bool) : Prop := FR Y Y' ∧ fI Y' xM 29 = q.1 ∧ (q.1 = 0 → fI Y' xM 27 = (if q.2.2 = true then 1 else 0) ∧ ∀ r, r < 8 → mRow Y' r = q.2.1 r)
theorem PM_K {Y Y1 Y' : xW} {x : Int32} {R : Row} {fl : Bool} (h1 : FR Y Y1) (hfl : fI Y1 xM 27 = (if fl = true then 1 else 0)) (h : MK Y1 Y' x R) : PM Y Y' (x, R, fl) :=
  ⟨FR_t h1 (FR_K h), h.2.2.2.2.2.1, fun z => ⟨(h.1 xM 27 (fun y => absurd y.2 (by decide))).trans hfl, h.2.2.2.2.2.2 z⟩⟩
theorem tI_in {l h : Int64} (h1 : -2147483648 ≤ l.toInt) (h2 : h.toInt ≤ 2147483647) : tI l h = (1, l.toInt32, h.toInt32) := by
  have e3 : (-2147483648 : Int64).toInt = -2147483648 := by decide
  have e4 : (2147483647 : Int64).toInt = 2147483647 := by decide
  unfold tI
  rw [if_neg]
  rw [j_lt, j_lt, e3, e4]
  omega
/-- four bounds written -/
def u4 (Y : xW) (d a : Nat) (x1 x2 x3 x4 : Int32) : xW := uA (uA (uA (uA Y xM 25 d x1) xM 26 d x2) xM 25 a x3) xM 26 a x4
theorem FR_u4 (Y : xW) (d a : Nat) (x1 x2 x3 x4 : Int32) : FR Y (u4 Y d a x1 x2 x3 x4) := by
  refine ⟨fun _ _ _ => rfl, ?_, fun _ _ _ => rfl, fun _ _ _ => rfl, rfl⟩
  intro u k i hu
  unfold u4
  simp only [fA_uA]
  rcases hu with hu | hu
  · simp [hu]
  · simp [hu.1, hu.2.1, hu.2.2]
theorem mRow_u4 (Y : xW) {d a : Nat} (x1 x2 x3 x4 : Int32) (hd : (mRow Y d).1 = 1) (ha : (mRow Y a).1 = 1) (r : Nat) : mRow (u4 Y d a x1 x2 x3 x4) r = setR (setR (mRow Y) d (1, x1, x2)) a (1, x3, x4) r := by
  unfold u4 mRow setR
  simp only [fA_uA, true_and]
  by_cases e : r = a
  · subst e
    have ha' : fA Y xM 24 r = 1 := ha
    simp [ha']
  · by_cases e2 : r = d
    · subst e2
      have hd' : fA Y xM 24 r = 1 := hd
      simp [e, hd']
    · simp [e, e2]
section MF
variable {V : xV} {g : xG} {Y : xW} {A : AF} {p i d a nn : Nat} {st : Int32} {x1 x2 x3 x4 : Int64}
theorem s_155e {Q : xW → Prop} {x : Int32} (hf : ¬ fI Y xM 29 = 0 ∨ x2 < x1 ∨ ¬ x3 ≤ x4) (H : Q (uI Y xM 27 0)) : L_155_0 V g Y (n32 d) (n32 a) x1 x2 x3 x4 x Q := by
  refine l_155_0 ⟨.inl rfl, fun Y1 e1 => ?_⟩
  subst e1
  have e : fI (uI Y (10, 0, 0) 27 0) (10, 0, 0) 29 = fI Y xM 29 := rfl
  rw [e]
  refine ⟨fun c => ⟨fun c2 => l_155_27 H, fun c2 => ⟨fun c3 => ?_, fun c3 => l_155_27 H⟩⟩, fun c => l_155_27 H⟩
  rcases hf with h | h | h
  · exact absurd c h
  · exact absurd h c2
  · exact absurd c3 h
theorem s_155g {Q : xW → Prop} (hA : AM Y A) (W : WA A p) (hp : p < 24) (ho : fI Y xM 5 = n32 p) (hst : fI Y xM 30 = st) (h0 : 0 ≤ st.toInt) (hn : nn < 2147483648) (d8 : d < 8) (a8 : a < 8) (hf : fI Y xM 29 = 0) (c1 : ¬ x2 < x1) (c2 : x3 ≤ x4) (H : ∀ Y', MK (u4 (uI Y xM 27 0) d a x1.toInt32 x2.toInt32 x3.toInt32 x4.toInt32) Y' (gF A p nn (mRow (u4 (uI Y xM 27 0) d a x1.toInt32 x2.toInt32 x3.toInt32 x4.toInt32)) st) (mRow (u4 (uI Y xM 27 0) d a x1.toInt32 x2.toInt32 x3.toInt32 x4.toInt32)) → Q Y') : L_155_0 V g Y (n32 d) (n32 a) x1 x2 x3 x4 (n32 nn) Q := by
  have id := n_in d8 (show 8 ≤ 2147483648 by omega)
  have ia := n_in a8 (show 8 ≤ 2147483648 by omega)
  refine l_155_0 ⟨.inl rfl, fun Y1 e1 => ⟨fun _ => ⟨fun z => absurd z c1, fun _ => ⟨fun _ => ⟨id, fun Y2 e2 => ⟨id, fun Y3 e3 => ⟨ia, fun Y4 e4 => ⟨ia, fun Y5 e5 => ?_⟩⟩⟩⟩, fun z => absurd c2 z⟩⟩, fun z => ?_⟩⟩
  · rw [n_nat (by omega)] at e2 e3 e4 e5
    have e : Y5 = u4 (uI Y xM 27 0) d a x1.toInt32 x2.toInt32 x3.toInt32 x4.toInt32 := by rw [e5, e4, e3, e2, e1]; rfl
    rw [e]
    have fr : FR Y (u4 (uI Y xM 27 0) d a x1.toInt32 x2.toInt32 x3.toInt32 x4.toInt32) := FR_t (FR_27 _ _) (FR_u4 _ _ _ _ _ _ _)
    exact ⟨fun z => absurd z (n_ge0 hn), fun z => s_145 (AM_F fr hA) W hp ho hst h0 hf hn (fun Y' h' => l_155_81 (H Y' h'))⟩
  · rw [e1] at z
    exact absurd hf z
theorem s_155n {Q : xW → Prop} (hA : AM Y A) (W : WA A p) (hp : p < 24) (ho : fI Y xM 5 = n32 p) (hst : fI Y xM 30 = st) (h0 : 0 ≤ st.toInt) (hh : fI Y xM 28 = n32 i) (hi : i < 2147483000) (d8 : d < 8) (a8 : a < 8) (hf : fI Y xM 29 = 0) (c1 : ¬ x2 < x1) (c2 : x3 ≤ x4) (H : ∀ Y', MK (uI (u4 (uI Y xM 27 0) d a x1.toInt32 x2.toInt32 x3.toInt32 x4.toInt32) xM 27 1) Y' (nxF A p i (mRow (u4 (uI Y xM 27 0) d a x1.toInt32 x2.toInt32 x3.toInt32 x4.toInt32)) st) (mRow (u4 (uI Y xM 27 0) d a x1.toInt32 x2.toInt32 x3.toInt32 x4.toInt32)) → Q Y') : L_155_0 V g Y (n32 d) (n32 a) x1 x2 x3 x4 (-1) Q := by
  have id := n_in d8 (show 8 ≤ 2147483648 by omega)
  have ia := n_in a8 (show 8 ≤ 2147483648 by omega)
  refine l_155_0 ⟨.inl rfl, fun Y1 e1 => ⟨fun _ => ⟨fun z => absurd z c1, fun _ => ⟨fun _ => ⟨id, fun Y2 e2 => ⟨id, fun Y3 e3 => ⟨ia, fun Y4 e4 => ⟨ia, fun Y5 e5 => ?_⟩⟩⟩⟩, fun z => absurd c2 z⟩⟩, fun z => ?_⟩⟩
  · rw [n_nat (by omega)] at e2 e3 e4 e5
    have e : Y5 = u4 (uI Y xM 27 0) d a x1.toInt32 x2.toInt32 x3.toInt32 x4.toInt32 := by rw [e5, e4, e3, e2, e1]; rfl
    rw [e]
    have fr : FR Y (u4 (uI Y xM 27 0) d a x1.toInt32 x2.toInt32 x3.toInt32 x4.toInt32) := FR_t (FR_27 _ _) (FR_u4 _ _ _ _ _ _ _)
    exact ⟨fun _ => s_146 (AM_F fr hA) W hp ho hst h0 hf hh hi (fun Y' h' => l_155_81 (H Y' h')), fun z => absurd (by decide) z⟩
  · rw [e1] at z
    exact absurd hf z
theorem s_141f {Q : xW → Prop} {x : Int32} (hf : ¬ fI Y xM 29 = 0) (H : Q Y) : L_141_0 V g Y x Q :=
  l_141_0 ⟨fun z => absurd z hf, fun _ => l_141_12 H⟩
theorem s_145f {Q : xW → Prop} {k : Nat} (hA : AM Y A) (W : WA A p) (hp : p < 24) (ho : fI Y xM 5 = n32 p) (hf : ¬ fI Y xM 29 = 0) (hk : k < nW A p) (H : Q Y) : L_145_0 V g Y (n32 k) Q := by
  have w2 := W.1.2
  refine l_145_0 (s_144 hA W hp ho (by omega) (fun c => absurd c (by omega)) (fun c => ⟨fun z => ?_, fun z => s_141f hf (l_145_42 H)⟩))
  rw [ho, ix200]
  exact s_143 hA (by omega) (fun m => ⟨fun y => absurd y (by decide), fun _ => l_145_42 H⟩) (fun m => ⟨fun _ => s_141f hf (l_145_42 H), fun y => absurd rfl y⟩)
theorem s_146f {Q : xW → Prop} (hA : AM Y A) (W : WA A p) (hp : p < 24) (ho : fI Y xM 5 = n32 p) (hh : fI Y xM 28 = n32 i) (hi : i < 2147483000) (hf : ¬ fI Y xM 29 = 0) (H : ∀ Y', (FR Y Y' ∧ fI Y' xM 29 = fI Y xM 29) → Q Y') : L_146_0 V g Y Q := by
  have w2 := W.1.2
  refine l_146_0 ⟨.inr rfl, fun Y1 e1 => ?_⟩
  have ho1 : fI Y1 xM 5 = n32 p := by rw [e1]; exact ho
  have hh1 : fI Y1 xM 28 = n32 i := by rw [e1]; exact hh
  have hf1 : ¬ fI Y1 xM 29 = 0 := by rw [e1]; exact hf
  have hA1 : AM Y1 A := by rw [e1]; exact hA
  have H1 : Q Y1 := H Y1 (by rw [e1]; exact ⟨FR_27 _ _, rfl⟩)
  rw [ho1, hh1, n_nat (by omega), hA1 8 _ (by decide) (by decide) (by decide), W.1.1, show n32 i + 1 = n32 (i + 1) from n_add i 1, n_lt (by omega) (by omega)]
  refine ⟨n_in hp (by omega), fun c => s_144 hA1 W hp ho1 (by omega) (fun z => absurd z (by omega)) (fun z => ⟨fun y => l_146_54 H1, fun y => ?_⟩), fun c => s_141f hf1 (l_146_54 H1)⟩
  rw [hh1, show n32 i + 1 = n32 (i + 1) from n_add i 1]
  exact s_145f hA1 W hp ho1 hf1 z (l_146_54 H1)
theorem mx_i (x y : Int32) : (if x < y then y else x).toInt64 = mx x.toInt64 y.toInt64 := by
  unfold mx
  by_cases h : x < y
  · rw [if_pos h, if_pos (Int32.toInt64_lt.mpr h)]
  · rw [if_neg h, if_neg (fun z => h (Int32.toInt64_lt.mp z))]
theorem mn_i (x y : Int32) : (if y < x then y else x).toInt64 = mn x.toInt64 y.toInt64 := by
  unfold mn
  by_cases h : y < x
  · rw [if_pos h, if_pos (Int32.toInt64_lt.mpr h)]
  · rw [if_neg h, if_neg (fun z => h (Int32.toInt64_lt.mp z))]
theorem setR_c {R R' : Row} {d : Nat} {x : Int32 × Int32 × Int32} {r : Nat} (h : R r = R' r) : setR R d x r = setR R' d x r := by
  unfold setR
  split
  · rfl
  · exact h
/-- the bounds written back -/
theorem back4 {Y0 Y1 : xW} {d a : Nat} {R : Row} (hr : ∀ r, r < 8 → mRow Y1 r = R r) (hR : ∀ r, r ≠ d → r ≠ a → R r = mRow Y0 r) (kd : (R d).1 = 1) (ka : (R a).1 = 1) (d8 : d < 8) (a8 : a < 8) (kd0 : (mRow Y0 d).1 = 1) (ka0 : (mRow Y0 a).1 = 1) : ∀ r, r < 8 → mRow (u4 Y1 d a (mRow Y0 d).2.1 (mRow Y0 d).2.2 (mRow Y0 a).2.1 (mRow Y0 a).2.2) r = mRow Y0 r := by
  intro r h8
  rw [mRow_u4 Y1 _ _ _ _ (by rw [hr d d8]; exact kd) (by rw [hr a a8]; exact ka)]
  unfold setR
  by_cases e : r = a
  · rw [if_pos e, e, ← ka0]
  · rw [if_neg e]
    by_cases e2 : r = d
    · rw [if_pos e2, e2, ← kd0]
    · rw [if_neg e2, hr r h8, hR r e2 e]
theorem s_154 {Q : xW → Prop} {op : Nat} (hA : AM Y A) (W : WA A p) (hp : p < 24) (ho : fI Y xM 5 = n32 p) (hst : fI Y xM 30 = st) (h0 : 0 ≤ st.toInt) (hh : fI Y xM 28 = n32 i) (hi' : i < 2147483000) (hn : nn < 2147483648) (d8 : d < 8) (a8 : a < 8) (hf : fI Y xM 29 = 0) (h27 : fI Y xM 27 = 0) (ok : okR (mRow Y)) (kd : (mRow Y d).1 = 1) (ka : (mRow Y a).1 = 1) (hop : op = 16 ∨ op = 17)
    (H16 : op = 16 → ∀ q, q = (if d = a then (nxF A p i (mRow Y) st, mRow Y, true)
      else if lo (mRow Y) d < hi (mRow Y) a ∧ ¬ gF A p nn (lessW (mRow Y) d a) st = 0 then (gF A p nn (lessW (mRow Y) d a) st, mRow Y, false)
      else if hi (mRow Y) d < lo (mRow Y) a then (0, mRow Y, false)
      else (nxF A p i (lessN (mRow Y) d a) st, lessN (mRow Y) d a, true)) → ∀ Y', PM Y Y' q → Q Y')
    (H17 : op = 17 → ∀ q, q = (if ¬ mn (hi (mRow Y) d) (hi (mRow Y) a) < mx (lo (mRow Y) d) (lo (mRow Y) a) ∧ ¬ gF A p nn (sameW (mRow Y) d a) st = 0 then (gF A p nn (sameW (mRow Y) d a) st, mRow Y, false)
      else if d = a then (0, mRow Y, false)
      else (nxF A p i (mRow Y) st, mRow Y, true)) → ∀ Y', PM Y Y' q → Q Y') : L_154_0 V g Y (n32 op) (n32 d) (n32 a) (n32 nn) Q := by
  have nz1 : (mRow Y d).1 ≠ 0 := by rw [kd]; decide
  have nz2 : (mRow Y a).1 ≠ 0 := by rw [ka]; decide
  have hld := ok_le ok d8 nz1
  have hla := ok_le ok a8 nz2
  have b1 := lo_b (mRow Y) d
  have b2 := hi_b (mRow Y) d
  have b3 := lo_b (mRow Y) a
  have b4 := hi_b (mRow Y) a
  have one : (1 : Int64).toInt = 1 := rfl
  have id := n_in d8 (show 8 ≤ 2147483648 by omega)
  have ia := n_in a8 (show 8 ≤ 2147483648 by omega)
  have lo32 : ∀ r, (lo (mRow Y) r).toInt32 = (mRow Y r).2.1 := fun r => Int32.toInt32_toInt64 _
  have hi32 : ∀ r, (hi (mRow Y) r).toInt32 = (mRow Y r).2.2 := fun r => Int32.toInt32_toInt64 _
  have o16 : ∀ {P : Prop}, op = 16 → n32 op = 17 → P := fun h1 h2 => by
    rw [h1] at h2
    exact absurd h2 (by decide)
  have n16 : ¬ n32 op = 16 → op = 17 := by
    intro h1
    rcases hop with h | h
    · exact absurd (by rw [h]; rfl) h1
    · exact h
  have n17 : ¬ n32 op = 17 → op = 16 := by
    intro h1
    rcases hop with h | h
    · exact h
    · exact absurd (by rw [h]; rfl) h1
  have y16 : n32 op = 16 → op = 16 := fun h1 => (n_eq (b := 16) (by omega) (by omega)).mp h1
  have y17 : n32 op = 17 → op = 17 := fun h1 => (n_eq (b := 17) (by omega) (by omega)).mp h1
  refine l_154_0 ⟨fun c => ?_, fun c => ⟨id, id, ia, ia, ?_⟩⟩
  · have c' : d = a := (n_eq (by omega) (by omega)).mp c
    refine ⟨fun e => ?_, fun e => ?_⟩
    · have e' := y17 e
      refine s_145 hA W hp ho hst h0 hf hn (fun Y' h' => l_154_24 ⟨fun z => absurd (z.symm.trans e) (by decide), fun _ => l_154_36 ⟨.inl rfl, fun Y2 e2 => ?_⟩⟩)
      have er : ∀ r, r < 8 → mRow Y r = sameW (mRow Y) d a r := by
        intro r h8
        have m1 : mx (lo (mRow Y) d) (lo (mRow Y) a) = lo (mRow Y) d := by
          rw [j_eq, mx_t, c']
          omega
        have m2 : mn (hi (mRow Y) d) (hi (mRow Y) a) = hi (mRow Y) d := by
          rw [j_eq, mn_t, c']
          omega
        unfold sameW
        rw [m1, m2, tI_in (by omega) (by omega), lo32, hi32, ← kd]
        unfold setR
        by_cases z : r = a
        · rw [if_pos z, z, c']
        · rw [if_neg z, if_neg (by rw [c']; exact z)]
      have ng : ¬ mn (hi (mRow Y) d) (hi (mRow Y) a) < mx (lo (mRow Y) d) (lo (mRow Y) a) := by
        rw [j_lt, mn_t, mx_t, c']
        omega
      have H := H17 e' _ rfl
      rw [← gF_c er] at H
      have fr : FR Y Y2 := by rw [e2]; exact FR_t (FR_K h') (FR_27 _ _)
      have h29 : fI Y2 xM 29 = gF A p nn (mRow Y) st := by rw [e2]; exact h'.2.2.2.2.2.1
      by_cases z : gF A p nn (mRow Y) st = 0
      · rw [if_neg (fun y => y.2 z), if_pos c'] at H
        refine H Y2 ⟨fr, h29.trans z, fun _ => ⟨by rw [e2]; rfl, fun r h8 => ?_⟩⟩
        rw [e2]
        exact h'.2.2.2.2.2.2 z r h8
      · rw [if_pos ⟨ng, z⟩] at H
        exact H Y2 ⟨fr, h29, fun y => absurd y z⟩
    · have e' := n17 e
      have H := H16 e' _ rfl
      rw [if_pos c'] at H
      refine s_146 hA W hp ho hst h0 hf hh hi' (fun Y' h' => l_154_24 ⟨fun _ => l_154_36 ⟨.inr rfl, fun Y2 e2 => ?_⟩, fun z => absurd (by rw [e']; rfl) z⟩)
      have fr : FR Y Y2 := by rw [e2]; exact FR_t (FR_27 _ _) (FR_t (FR_K h') (FR_27 _ _))
      refine H Y2 ⟨fr, by rw [e2]; exact h'.2.2.2.2.2.1, fun z => ⟨by rw [e2]; rfl, fun r h8 => ?_⟩⟩
      rw [e2]
      exact h'.2.2.2.2.2.2 z r h8
  · have c' : d ≠ a := fun z => c (by rw [z])
    rw [n_nat (show d < 2147483648 by omega), n_nat (show a < 2147483648 by omega)]
    refine ⟨fun e => s_188 (s_186 ?_), fun e => s_185 (s_187 (s_185 (s_187 ?_)))⟩
    · have e' := y16 e
      have H := H16 e' _ rfl
      rw [if_neg c'] at H
      have s1 : (hi (mRow Y) a - 1).toInt = (hi (mRow Y) a).toInt - 1 := by rw [j_sub (by rw [one]; omega) (by rw [one]; omega), one]
      have s2 : (lo (mRow Y) d + 1).toInt = (lo (mRow Y) d).toInt + 1 := by rw [j_add (by rw [one]; omega) (by rw [one]; omega), one]
      have t1 : (mn (hi (mRow Y) d) (hi (mRow Y) a - 1)).toInt = min (hi (mRow Y) d).toInt ((hi (mRow Y) a).toInt - 1) := by rw [mn_t, s1]
      have t2 : (mx (lo (mRow Y) a) (lo (mRow Y) d + 1)).toInt = max (lo (mRow Y) a).toInt ((lo (mRow Y) d).toInt + 1) := by rw [mx_t, s2]
      have fin : ∀ (Y7 : xW), FR Y Y7 → fI Y7 xM 29 = 0 → (∀ r, r < 8 → mRow (u4 Y7 d a (mRow Y d).2.1 (mRow Y d).2.2 (mRow Y a).2.1 (mRow Y a).2.2) r = mRow Y r) → ¬ (lo (mRow Y) d < hi (mRow Y) a ∧ ¬ gF A p nn (lessW (mRow Y) d a) st = 0) → L_155_0 V g (u4 Y7 d a (mRow Y d).2.1 (mRow Y d).2.2 (mRow Y a).2.1 (mRow Y a).2.2) (n32 d) (n32 a) (mx (lo (mRow Y) d) (lo (mRow Y) a)) (hi (mRow Y) d) (lo (mRow Y) a) (mn (hi (mRow Y) a) (hi (mRow Y) d)) (-1) (fun Y16 => L_154_254 V g Y16 (n32 op) (n32 d) (n32 a) (n32 nn) (mRow Y d).2.1 (mRow Y d).2.2 (mRow Y a).2.1 (mRow Y a).2.2 Q) := by
        intro Y7 fr h7 hr7 cw
        rw [if_neg cw] at H
        have fr7 : FR Y (u4 Y7 d a (mRow Y d).2.1 (mRow Y d).2.2 (mRow Y a).2.1 (mRow Y a).2.2) := FR_t fr (FR_u4 _ _ _ _ _ _ _)
        by_cases z : hi (mRow Y) d < lo (mRow Y) a
        · rw [if_pos z] at H
          rw [j_lt] at z
          refine s_155e (.inr (.inl (by rw [j_lt, mx_t]; omega))) (l_154_254 (H _ ⟨FR_t fr7 (FR_27 _ _), h7, fun _ => ⟨rfl, hr7⟩⟩))
        · rw [if_neg z] at H
          rw [j_lt] at z
          refine s_155n (AM_F fr7 hA) W hp ((FR_i fr7 (by decide) (by decide)).trans ho) ((FR_i fr7 (by decide) (by decide)).trans hst) h0 ((FR_i fr7 (by decide) (by decide)).trans hh) hi' d8 a8 h7 (by rw [j_lt, mx_t]; omega) (by rw [j_le, mn_t]; omega) (fun Y' h' => l_154_254 (H Y' ?_))
          have kd7 : (mRow (u4 Y7 d a (mRow Y d).2.1 (mRow Y d).2.2 (mRow Y a).2.1 (mRow Y a).2.2) d).1 = 1 := by rw [hr7 d d8]; exact kd
          have ka7 : (mRow (u4 Y7 d a (mRow Y d).2.1 (mRow Y d).2.2 (mRow Y a).2.1 (mRow Y a).2.2) a).1 = 1 := by rw [hr7 a a8]; exact ka
          have er : ∀ r, r < 8 → mRow (u4 (uI (u4 Y7 d a (mRow Y d).2.1 (mRow Y d).2.2 (mRow Y a).2.1 (mRow Y a).2.2) xM 27 0) d a (mx (lo (mRow Y) d) (lo (mRow Y) a)).toInt32 (hi (mRow Y) d).toInt32 (lo (mRow Y) a).toInt32 (mn (hi (mRow Y) a) (hi (mRow Y) d)).toInt32) r = lessN (mRow Y) d a r := by
            intro r h8
            rw [mRow_u4 _ _ _ _ _ (by exact kd7) (by exact ka7)]
            unfold lessN
            rw [tI_in (by rw [mx_t]; omega) (by omega), tI_in (by omega) (by rw [mn_t]; omega)]
            exact setR_c (setR_c (hr7 r h8))
          rw [nxF_c er] at h'
          exact PM_K (Y1 := uI (u4 (uI (u4 Y7 d a (mRow Y d).2.1 (mRow Y d).2.2 (mRow Y a).2.1 (mRow Y a).2.2) xM 27 0) d a (mx (lo (mRow Y) d) (lo (mRow Y) a)).toInt32 (hi (mRow Y) d).toInt32 (lo (mRow Y) a).toInt32 (mn (hi (mRow Y) a) (hi (mRow Y) d)).toInt32) xM 27 1) (FR_t fr7 (FR_t (FR_27 _ _) (FR_t (FR_u4 _ _ _ _ _ _ _) (FR_27 _ _)))) rfl (MK_c h' er)
      have cont : ∀ (Y7 : xW), FR Y Y7 → ((fI Y7 xM 29 = 0 ∧ (∀ r, r < 8 → mRow (u4 Y7 d a (mRow Y d).2.1 (mRow Y d).2.2 (mRow Y a).2.1 (mRow Y a).2.2) r = mRow Y r) ∧ ¬ (lo (mRow Y) d < hi (mRow Y) a ∧ ¬ gF A p nn (lessW (mRow Y) d a) st = 0)) ∨ (¬ fI Y7 xM 29 = 0 ∧ fI Y7 xM 29 = gF A p nn (lessW (mRow Y) d a) st ∧ lo (mRow Y) d < hi (mRow Y) a)) → vp_in (n32 d) 8 ∧ ∀ Y8, Y8 = uA Y7 (10, 0, 0) 25 d (mRow Y d).2.1 → vp_in (n32 d) 8 ∧ ∀ Y9, Y9 = uA Y8 (10, 0, 0) 26 d (mRow Y d).2.2 → vp_in (n32 a) 8 ∧ ∀ Y10, Y10 = uA Y9 (10, 0, 0) 25 a (mRow Y a).2.1 → vp_in (n32 a) 8 ∧ ∀ Y11, Y11 = uA Y10 (10, 0, 0) 26 a (mRow Y a).2.2 → L_185_0 V g Y11 (mRow Y d).2.1 (mRow Y a).2.1 (fun x13 Y12 => L_187_0 V g Y12 (mRow Y a).2.2 (mRow Y d).2.2 (fun x15 Y14 => L_155_0 V g Y14 (n32 d) (n32 a) (Int32.toInt64 x13) (Int32.toInt64 (mRow Y d).2.2) (Int32.toInt64 (mRow Y a).2.1) (Int32.toInt64 x15) (-1) (fun Y16 => L_154_254 V g Y16 (n32 op) (n32 d) (n32 a) (n32 nn) (mRow Y d).2.1 (mRow Y d).2.2 (mRow Y a).2.1 (mRow Y a).2.2 Q))) := by
        intro Y7 fr cs
        refine ⟨id, fun Y8 e8 => ⟨id, fun Y9 e9 => ⟨ia, fun Y10 e10 => ⟨ia, fun Y11 e11 => ?_⟩⟩⟩⟩
        have e : Y11 = u4 Y7 d a (mRow Y d).2.1 (mRow Y d).2.2 (mRow Y a).2.1 (mRow Y a).2.2 := by rw [e11, e10, e9, e8]; rfl
        rw [e]
        refine s_185 (s_187 ?_)
        rw [mx_i, mn_i]
        rcases cs with ⟨h1, h2, h3⟩ | ⟨h1, h2, h3⟩
        · exact fin Y7 fr h1 h2 h3
        · have ng : ¬ gF A p nn (lessW (mRow Y) d a) st = 0 := fun z => h1 (h2.trans z)
          rw [if_pos ⟨h3, ng⟩] at H
          exact s_155e (.inl h1) (l_154_254 (H _ ⟨FR_t fr (FR_t (FR_u4 _ _ _ _ _ _ _) (FR_27 _ _)), h2, fun y => absurd y ng⟩))
      by_cases z : lo (mRow Y) d < hi (mRow Y) a
      · have z' := z
        rw [j_lt] at z'
        have g1 : ¬ mn (hi (mRow Y) d) (hi (mRow Y) a - 1) < lo (mRow Y) d := by rw [j_lt, t1]; omega
        have g2 : mx (lo (mRow Y) a) (lo (mRow Y) d + 1) ≤ hi (mRow Y) a := by rw [j_le, t2]; omega
        refine s_155g hA W hp ho hst h0 hn d8 a8 hf g1 g2 (fun Y7 h7 => ?_)
        have er : ∀ r, r < 8 → mRow (u4 (uI Y xM 27 0) d a (lo (mRow Y) d).toInt32 (mn (hi (mRow Y) d) (hi (mRow Y) a - 1)).toInt32 (mx (lo (mRow Y) a) (lo (mRow Y) d + 1)).toInt32 (hi (mRow Y) a).toInt32) r = lessW (mRow Y) d a r := by
          intro r h8
          rw [mRow_u4 _ _ _ _ _ (by exact kd) (by exact ka)]
          unfold lessW
          rw [tI_in (by omega) (by rw [t1]; omega), tI_in (by rw [t2]; omega) (by omega)]
          rfl
        have h7' := MK_c h7 er
        rw [show gF A p nn (mRow (u4 (uI Y xM 27 0) d a (Int32.toInt64 (fA Y (10, 0, 0) 25 d)).toInt32 (mn (Int32.toInt64 (fA Y (10, 0, 0) 26 d)) (Int32.toInt64 (fA Y (10, 0, 0) 26 a) - 1)).toInt32 (mx (Int32.toInt64 (fA Y (10, 0, 0) 25 a)) (Int32.toInt64 (fA Y (10, 0, 0) 25 d) + 1)).toInt32 (Int32.toInt64 (fA Y (10, 0, 0) 26 a)).toInt32)) st = gF A p nn (lessW (mRow Y) d a) st from gF_c er] at h7'
        have fr7 : FR Y Y7 := FR_t (FR_27 _ _) (FR_t (FR_u4 _ _ _ _ _ _ _) (FR_K h7'))
        refine cont Y7 fr7 ?_
        by_cases y : gF A p nn (lessW (mRow Y) d a) st = 0
        · refine .inl ⟨h7'.2.2.2.2.2.1.trans y, ?_, fun x => x.2 y⟩
          have tk : ∀ l h, (tI l h).1 = 1 := fun l h => by unfold tI; split <;> rfl
          refine back4 (R := lessW (mRow Y) d a) (h7'.2.2.2.2.2.2 y) ?_ ?_ ?_ d8 a8 kd ka
          · intro r h1 h2
            unfold lessW setR
            rw [if_neg h2, if_neg h1]
          · unfold lessW setR
            rw [if_neg c', if_pos rfl]
            exact tk _ _
          · unfold lessW setR
            rw [if_pos rfl]
            exact tk _ _
        · exact .inr ⟨fun x => y (h7'.2.2.2.2.2.1.symm.trans x), h7'.2.2.2.2.2.1, z⟩
      · have z' := z
        rw [j_lt] at z'
        have g1 : mn (hi (mRow Y) d) (hi (mRow Y) a - 1) < lo (mRow Y) d := by rw [j_lt, t1]; omega
        refine s_155e (.inr (.inl g1)) (cont _ (FR_27 _ _) (.inl ⟨hf, ?_, fun x => z x.1⟩))
        exact back4 (Y1 := uI Y xM 27 0) (R := mRow Y) (fun _ _ => rfl) (fun _ _ _ => rfl) kd ka d8 a8 kd ka
    · have e' := n16 e
      have H := H17 e' _ rfl
      rw [mx_i, mn_i]
      have fin : ∀ (Y7 : xW), FR Y Y7 → ((fI Y7 xM 29 = 0 ∧ (∀ r, r < 8 → mRow (u4 Y7 d a (mRow Y d).2.1 (mRow Y d).2.2 (mRow Y a).2.1 (mRow Y a).2.2) r = mRow Y r) ∧ ¬ (¬ mn (hi (mRow Y) d) (hi (mRow Y) a) < mx (lo (mRow Y) d) (lo (mRow Y) a) ∧ ¬ gF A p nn (sameW (mRow Y) d a) st = 0)) ∨ (¬ fI Y7 xM 29 = 0 ∧ fI Y7 xM 29 = gF A p nn (sameW (mRow Y) d a) st ∧ ¬ mn (hi (mRow Y) d) (hi (mRow Y) a) < mx (lo (mRow Y) d) (lo (mRow Y) a))) → vp_in (n32 d) 8 ∧ ∀ Y8, Y8 = uA Y7 (10, 0, 0) 25 d (mRow Y d).2.1 → vp_in (n32 d) 8 ∧ ∀ Y9, Y9 = uA Y8 (10, 0, 0) 26 d (mRow Y d).2.2 → vp_in (n32 a) 8 ∧ ∀ Y10, Y10 = uA Y9 (10, 0, 0) 25 a (mRow Y a).2.1 → vp_in (n32 a) 8 ∧ ∀ Y11, Y11 = uA Y10 (10, 0, 0) 26 a (mRow Y a).2.2 → L_146_0 V g Y11 (fun Y30 => L_154_254 V g Y30 (n32 op) (n32 d) (n32 a) (n32 nn) (mRow Y d).2.1 (mRow Y d).2.2 (mRow Y a).2.1 (mRow Y a).2.2 Q) := by
        intro Y7 fr cs
        refine ⟨id, fun Y8 e8 => ⟨id, fun Y9 e9 => ⟨ia, fun Y10 e10 => ⟨ia, fun Y11 e11 => ?_⟩⟩⟩⟩
        have e : Y11 = u4 Y7 d a (mRow Y d).2.1 (mRow Y d).2.2 (mRow Y a).2.1 (mRow Y a).2.2 := by rw [e11, e10, e9, e8]; rfl
        rw [e]
        have fr7 : FR Y (u4 Y7 d a (mRow Y d).2.1 (mRow Y d).2.2 (mRow Y a).2.1 (mRow Y a).2.2) := FR_t fr (FR_u4 _ _ _ _ _ _ _)
        rcases cs with ⟨h1, h2, h3⟩ | ⟨h1, h2, h3⟩
        · rw [if_neg h3, if_neg c'] at H
          refine s_146 (AM_F fr7 hA) W hp ((FR_i fr7 (by decide) (by decide)).trans ho) ((FR_i fr7 (by decide) (by decide)).trans hst) h0 h1 ((FR_i fr7 (by decide) (by decide)).trans hh) hi' (fun Y' h' => l_154_254 (H Y' ?_))
          rw [nxF_c h2] at h'
          exact PM_K (FR_t fr7 (FR_27 _ _)) rfl (MK_c h' h2)
        · have ng : ¬ gF A p nn (sameW (mRow Y) d a) st = 0 := fun z => h1 (h2.trans z)
          rw [if_pos ⟨h3, ng⟩] at H
          have h1' : ¬ fI (u4 Y7 d a (mRow Y d).2.1 (mRow Y d).2.2 (mRow Y a).2.1 (mRow Y a).2.2) xM 29 = 0 := h1
          refine s_146f (AM_F fr7 hA) W hp ((FR_i fr7 (by decide) (by decide)).trans ho) ((FR_i fr7 (by decide) (by decide)).trans hh) hi' h1' (fun Y' h' => l_154_254 (H Y' ⟨FR_t fr7 h'.1, h'.2.trans h2, fun y => absurd y ng⟩))
      by_cases z : mn (hi (mRow Y) d) (hi (mRow Y) a) < mx (lo (mRow Y) d) (lo (mRow Y) a)
      · refine s_155e (.inr (.inl z)) (fin _ (FR_27 _ _) (.inl ⟨hf, ?_, fun x => x.1 z⟩))
        exact back4 (Y1 := uI Y xM 27 0) (R := mRow Y) (fun _ _ => rfl) (fun _ _ _ => rfl) kd ka d8 a8 kd ka
      · have z' := z
        rw [j_lt, mn_t, mx_t] at z'
        refine s_155g hA W hp ho hst h0 hn d8 a8 hf z (by rw [j_le]; show (mx (lo (mRow Y) d) (lo (mRow Y) a)).toInt ≤ (mn (hi (mRow Y) d) (hi (mRow Y) a)).toInt; rw [mn_t, mx_t]; omega) (fun Y7 h7 => ?_)
        have er : ∀ r, r < 8 → mRow (u4 (uI Y xM 27 0) d a (mx (lo (mRow Y) d) (lo (mRow Y) a)).toInt32 (mn (hi (mRow Y) d) (hi (mRow Y) a)).toInt32 (mx (lo (mRow Y) d) (lo (mRow Y) a)).toInt32 (mn (hi (mRow Y) d) (hi (mRow Y) a)).toInt32) r = sameW (mRow Y) d a r := by
          intro r h8
          rw [mRow_u4 _ _ _ _ _ (by exact kd) (by exact ka)]
          unfold sameW
          rw [tI_in (by rw [mx_t]; omega) (by rw [mn_t]; omega)]
          rfl
        have h7' := MK_c h7 er
        rw [show gF A p nn (mRow (u4 (uI Y xM 27 0) d a (mx (Int32.toInt64 (fA Y (10, 0, 0) 25 d)) (Int32.toInt64 (fA Y (10, 0, 0) 25 a))).toInt32 (mn (Int32.toInt64 (fA Y (10, 0, 0) 26 d)) (Int32.toInt64 (fA Y (10, 0, 0) 26 a))).toInt32 (mx (Int32.toInt64 (fA Y (10, 0, 0) 25 d)) (Int32.toInt64 (fA Y (10, 0, 0) 25 a))).toInt32 (mn (Int32.toInt64 (fA Y (10, 0, 0) 26 d)) (Int32.toInt64 (fA Y (10, 0, 0) 26 a))).toInt32)) st = gF A p nn (sameW (mRow Y) d a) st from gF_c er] at h7'
        have fr7 : FR Y Y7 := FR_t (FR_27 _ _) (FR_t (FR_u4 _ _ _ _ _ _ _) (FR_K h7'))
        refine fin Y7 fr7 ?_
        by_cases y : gF A p nn (sameW (mRow Y) d a) st = 0
        · refine .inl ⟨h7'.2.2.2.2.2.1.trans y, ?_, fun x => x.2 y⟩
          have tk : ∀ l h, (tI l h).1 = 1 := fun l h => by unfold tI; split <;> rfl
          refine back4 (R := sameW (mRow Y) d a) (h7'.2.2.2.2.2.2 y) ?_ ?_ ?_ d8 a8 kd ka
          · intro r h1 h2
            unfold sameW setR
            rw [if_neg h2, if_neg h1]
          · unfold sameW setR
            rw [if_neg c', if_pos rfl]
            exact tk _ _
          · unfold sameW setR
            rw [if_pos rfl]
            exact tk _ _
        · exact .inr ⟨fun x => y (h7'.2.2.2.2.2.1.symm.trans x), h7'.2.2.2.2.2.1, z⟩
end MF
