/-! numbers, indices, rows of types: tools of the pure proof -/
abbrev n32 (k : Nat) : Int32 := Int32.ofNat k
theorem n_toInt {k : Nat} (h : k < 2147483648) : (n32 k).toInt = (k : Int) := Int32.toInt_ofNat_of_lt h
theorem n_nat {k : Nat} (h : k < 2147483648) : (n32 k).toNatClampNeg = k := Int32.toNatClampNeg_ofNat_of_lt h
theorem t0 : (0 : Int32).toInt = 0 := rfl
theorem i_lt {a b : Int32} : a < b ↔ a.toInt < b.toInt := Int32.lt_iff_toInt_lt
theorem i_le {a b : Int32} : a ≤ b ↔ a.toInt ≤ b.toInt := Int32.le_iff_toInt_le
theorem i_eq {a b : Int32} : a = b ↔ a.toInt = b.toInt := Int32.toInt_inj.symm
theorem i_hi (a : Int32) : a.toInt < 2147483648 := a.toInt_lt
theorem i_lo (a : Int32) : -2147483648 ≤ a.toInt := a.le_toInt
theorem j_lt {a b : Int64} : a < b ↔ a.toInt < b.toInt := Int64.lt_iff_toInt_lt
theorem j_le {a b : Int64} : a ≤ b ↔ a.toInt ≤ b.toInt := Int64.le_iff_toInt_le
theorem j_eq {a b : Int64} : a = b ↔ a.toInt = b.toInt := Int64.toInt_inj.symm
theorem i_cl (a : Int32) : a.toNatClampNeg = a.toInt.toNat := rfl
theorem in_iff {x : Int32} {n : Nat} : vp_in x n ↔ 0 ≤ x.toInt ∧ x.toInt < n := by
  unfold vp_in
  rw [i_lt, i_cl, t0]
  omega
theorem n_in {k n : Nat} (h : k < n) (hn : n ≤ 2147483648) : vp_in (n32 k) n := by
  rw [in_iff, n_toInt (by omega)]
  omega
theorem n_lt {a b : Nat} (ha : a < 2147483648) (hb : b < 2147483648) : n32 a < n32 b ↔ a < b := by
  rw [i_lt, n_toInt ha, n_toInt hb]
  omega
theorem n_le {a b : Nat} (ha : a < 2147483648) (hb : b < 2147483648) : n32 a ≤ n32 b ↔ a ≤ b := by
  rw [i_le, n_toInt ha, n_toInt hb]
  omega
theorem n_eq {a b : Nat} (ha : a < 2147483648) (hb : b < 2147483648) : n32 a = n32 b ↔ a = b := by
  rw [i_eq, n_toInt ha, n_toInt hb]
  omega
theorem n_add (a b : Nat) : n32 a + n32 b = n32 (a + b) := (Int32.ofNat_add a b).symm
theorem n_mul (a b : Nat) : n32 a * n32 b = n32 (a * b) := (Int32.ofNat_mul a b).symm
theorem n_sub {a b : Nat} (h : b ≤ a) : n32 a - n32 b = n32 (a - b) := (Int32.ofNat_sub a b h).symm
theorem n_of {x : Int32} (h : 0 ≤ x.toInt) : x = n32 x.toNatClampNeg := (Int32.ofNat_toNatClampNeg x (i_le.mpr h)).symm
theorem n_cases (x : Int32) : x.toInt < 0 ∨ ∃ k, k < 2147483648 ∧ x = n32 k := by
  by_cases h : x.toInt < 0
  · exact .inl h
  · exact .inr ⟨x.toNatClampNeg, x.toNatClampNeg_lt, n_of (by omega)⟩
theorem n_of_in {x : Int32} {n : Nat} (h : vp_in x n) : ∃ k, k < n ∧ x = n32 k := by
  have h' := in_iff.mp h
  refine ⟨x.toNatClampNeg, ?_, n_of h'.1⟩
  rw [i_cl]
  omega
theorem bm32 {z : Int} (h1 : -2147483648 ≤ z) (h2 : z < 2147483648) : z.bmod (2 ^ 32) = z := Int.bmod_eq_of_le (by simpa using h1) (by simpa using h2)
theorem bm64 {z : Int} (h1 : -9223372036854775808 ≤ z) (h2 : z < 9223372036854775808) : z.bmod (2 ^ 64) = z := Int.bmod_eq_of_le (by simpa using h1) (by simpa using h2)
theorem i_add {a b : Int32} (h1 : -2147483648 ≤ a.toInt + b.toInt) (h2 : a.toInt + b.toInt < 2147483648) : (a + b).toInt = a.toInt + b.toInt := by
  rw [Int32.toInt_add, bm32 h1 h2]
theorem i_sub {a b : Int32} (h1 : -2147483648 ≤ a.toInt - b.toInt) (h2 : a.toInt - b.toInt < 2147483648) : (a - b).toInt = a.toInt - b.toInt := by
  rw [Int32.toInt_sub, bm32 h1 h2]
theorem i_mul {a b : Int32} (h1 : -2147483648 ≤ a.toInt * b.toInt) (h2 : a.toInt * b.toInt < 2147483648) : (a * b).toInt = a.toInt * b.toInt := by
  rw [Int32.toInt_mul, bm32 h1 h2]
theorem j_add {a b : Int64} (h1 : -9223372036854775808 ≤ a.toInt + b.toInt) (h2 : a.toInt + b.toInt < 9223372036854775808) : (a + b).toInt = a.toInt + b.toInt := by
  rw [Int64.toInt_add, bm64 h1 h2]
theorem j_sub {a b : Int64} (h1 : -9223372036854775808 ≤ a.toInt - b.toInt) (h2 : a.toInt - b.toInt < 9223372036854775808) : (a - b).toInt = a.toInt - b.toInt := by
  rw [Int64.toInt_sub, bm64 h1 h2]
theorem j_mul {a b : Int64} (h1 : -9223372036854775808 ≤ a.toInt * b.toInt) (h2 : a.toInt * b.toInt < 9223372036854775808) : (a * b).toInt = a.toInt * b.toInt := by
  rw [Int64.toInt_mul, bm64 h1 h2]
theorem j_of (a : Int32) : a.toInt64.toInt = a.toInt := a.toInt_toInt64
theorem j_to {a : Int64} (h1 : -2147483648 ≤ a.toInt) (h2 : a.toInt < 2147483648) : a.toInt32.toInt = a.toInt := by
  rw [Int64.toInt_toInt32, bm32 h1 h2]
/-- two states are equal when all reads are -/
theorem xw_ext {Y Y' : xW} (h1 : ∀ t k, fI Y t k = fI Y' t k) (h2 : ∀ t k i, fA Y t k i = fA Y' t k i) (h3 : ∀ t k i, fL Y t k i = fL Y' t k i) (h4 : ∀ t k i, fR Y t k i = fR Y' t k i) (h5 : fC Y = fC Y') : Y = Y' := by
  obtain ⟨a, b, c, d, e⟩ := Y
  obtain ⟨a', b', c', d', e'⟩ := Y'
  have e1 : a = a' := funext fun t => funext fun k => h1 t k
  have e2 : b = b' := funext fun t => funext fun k => funext fun i => h2 t k i
  have e3 : c = c' := funext fun t => funext fun k => funext fun i => h3 t k i
  have e4 : d = d' := funext fun t => funext fun k => funext fun i => h4 t k i
  have e5 : e = e' := h5
  rw [e1, e2, e3, e4, e5]
abbrev xM : xT := (10, 0, 0)
/-- a row of types: kind, low, high by register -/
abbrev Row : Type := Nat → Int32 × Int32 × Int32
def gRow (Y : xW) (t : xT) : Row := fun r => (fA Y t 0 r, fA Y t 1 r, fA Y t 2 r)
def setR (R : Row) (d : Nat) (x : Int32 × Int32 × Int32) : Row := fun r => if r = d then x else R r
/-- only the row t has changed, to R -/
def rTo (Y Y' : xW) (t : xT) (R : Row) : Prop := (∀ u k, fI Y' u k = fI Y u k) ∧ (∀ u k i, u ≠ t → fA Y' u k i = fA Y u k i) ∧ (∀ u k i, fL Y' u k i = fL Y u k i) ∧ (∀ u k i, fR Y' u k i = fR Y u k i) ∧ fC Y' = fC Y ∧ ∀ r, r < 8 → gRow Y' t r = R r
theorem rTo_r (Y : xW) (t : xT) : rTo Y Y t (gRow Y t) := ⟨fun _ _ => rfl, fun _ _ _ _ => rfl, fun _ _ _ => rfl, fun _ _ _ => rfl, rfl, fun _ _ => rfl⟩
theorem rTo_t {Y Y1 Y2 : xW} {t : xT} {R1 R2 : Row} (h1 : rTo Y Y1 t R1) (h2 : rTo Y1 Y2 t R2) : rTo Y Y2 t R2 :=
  ⟨fun u k => (h2.1 u k).trans (h1.1 u k), fun u k i hu => (h2.2.1 u k i hu).trans (h1.2.1 u k i hu), fun u k i => (h2.2.2.1 u k i).trans (h1.2.2.1 u k i), fun u k i => (h2.2.2.2.1 u k i).trans (h1.2.2.2.1 u k i), h2.2.2.2.2.1.trans h1.2.2.2.2.1, h2.2.2.2.2.2⟩
theorem rTo_c {Y Y1 : xW} {t : xT} {R R' : Row} (h : rTo Y Y1 t R) (e : ∀ r, r < 8 → R r = R' r) : rTo Y Y1 t R' :=
  ⟨h.1, h.2.1, h.2.2.1, h.2.2.2.1, h.2.2.2.2.1, fun r hr => (h.2.2.2.2.2 r hr).trans (e r hr)⟩
/-- an INT by exact bounds -/
def tI (l h : Int64) : Int32 × Int32 × Int32 := if l < -2147483648 ∨ 2147483647 < h then (1, -2147483648, 2147483647) else (1, l.toInt32, h.toInt32)
abbrev meetsR (a b : Row) : Prop := ∀ r, r < 8 → (b r).1 ≠ 0 → (a r).1 = (b r).1 ∧ (b r).2.1 ≤ (a r).2.1 ∧ (a r).2.2 ≤ (b r).2.2
abbrev zerosR (a : Row) : Prop := ∀ r, r < 8 → (a r).1 ≠ 0 → (a r).1 = 1 ∧ (a r).2.1 ≤ 0 ∧ 0 ≤ (a r).2.2
section TR
variable {V : xV} {g : xG} {Y : xW}
theorem s_184 {x : Int64} {Q : Int64 → xW → Prop} (H : Q (if 0 ≤ x then x else -x) Y) : L_184_0 V g Y x Q := by
  refine l_184_0 ⟨fun c => l_184_12 ?_, fun c => l_184_12 ?_⟩
  · rw [if_pos c] at H; exact H
  · rw [if_neg c] at H; exact H
theorem s_185 {x y : Int32} {Q : Int32 → xW → Prop} (H : Q (if x < y then y else x) Y) : L_185_0 V g Y x y Q := by
  refine l_185_0 ⟨fun c => l_185_10 ?_, fun c => l_185_10 ?_⟩
  · rw [if_pos c] at H; exact H
  · rw [if_neg c] at H; exact H
def mx (x y : Int64) : Int64 := if x < y then y else x
def mn (x y : Int64) : Int64 := if y < x then y else x
theorem s_186 {x y : Int64} {Q : Int64 → xW → Prop} (H : Q (mx x y) Y) : L_186_0 V g Y x y Q := by
  unfold mx at H
  refine l_186_0 ⟨fun c => l_186_11 ?_, fun c => l_186_11 ?_⟩
  · rw [if_pos c] at H; exact H
  · rw [if_neg c] at H; exact H
theorem s_187 {x y : Int32} {Q : Int32 → xW → Prop} (H : Q (if y < x then y else x) Y) : L_187_0 V g Y x y Q := by
  refine l_187_0 ⟨fun c => l_187_10 ?_, fun c => l_187_10 ?_⟩
  · rw [if_pos c] at H; exact H
  · rw [if_neg c] at H; exact H
theorem s_188 {x y : Int64} {Q : Int64 → xW → Prop} (H : Q (mn x y) Y) : L_188_0 V g Y x y Q := by
  unfold mn at H
  refine l_188_0 ⟨fun c => l_188_11 ?_, fun c => l_188_11 ?_⟩
  · rw [if_pos c] at H; exact H
  · rw [if_neg c] at H; exact H
theorem mx_t (x y : Int64) : (mx x y).toInt = max x.toInt y.toInt := by
  unfold mx
  split
  next h => rw [j_lt] at h; omega
  next h => rw [j_lt] at h; omega
theorem mn_t (x y : Int64) : (mn x y).toInt = min x.toInt y.toInt := by
  unfold mn
  split
  next h => rw [j_lt] at h; omega
  next h => rw [j_lt] at h; omega
variable {t : xT} {r : Nat}
theorem s_76 {Q : Int32 → xW → Prop} (hr : r < 8) (H : Q (gRow Y t r).1 Y) : L_76_0 V g Y t (n32 r) Q := by
  refine l_76_0 ⟨n_in hr (by omega), ?_⟩
  rw [n_nat (by omega)]
  exact H
theorem s_77 {Q : Int64 → xW → Prop} (hr : r < 8) (H : Q (gRow Y t r).2.1.toInt64 Y) : L_77_0 V g Y t (n32 r) Q := by
  refine l_77_0 ⟨n_in hr (by omega), ?_⟩
  rw [n_nat (by omega)]
  exact H
theorem s_78 {Q : Int64 → xW → Prop} (hr : r < 8) (H : Q (gRow Y t r).2.2.toInt64 Y) : L_78_0 V g Y t (n32 r) Q := by
  refine l_78_0 ⟨n_in hr (by omega), ?_⟩
  rw [n_nat (by omega)]
  exact H
theorem s_79 {Q : Int32 → xW → Prop} (hr : r < 8) (H1 : (gRow Y t r).1 = 1 → Q 1 Y) (H0 : ¬ (gRow Y t r).1 = 1 → Q 0 Y) : L_79_0 V g Y t (n32 r) Q := by
  refine l_79_0 ⟨n_in hr (by omega), ?_⟩
  rw [n_nat (by omega)]
  exact ⟨fun c => l_79_15 ⟨.inr rfl, H1 c⟩, fun c => l_79_15 ⟨.inl rfl, H0 c⟩⟩
theorem rTo_set (hr : r < 8) (a b c : Int32) : rTo Y (uA (uA (uA Y t 0 r a) t 1 r b) t 2 r c) t (setR (gRow Y t) r (a, b, c)) := by
  refine ⟨fun _ _ => rfl, ?_, fun _ _ _ => rfl, fun _ _ _ => rfl, rfl, ?_⟩
  · intro u k i hu
    simp only [fA_uA, hu, false_and, if_false]
  · intro q hq
    unfold gRow setR
    simp only [fA_uA, true_and]
    by_cases e : q = r
    · simp [e]
    · simp [e]
theorem s_80 {Q : xW → Prop} {a b c : Int32} (hr : r < 8) (H : ∀ Y', rTo Y Y' t (setR (gRow Y t) r (a, b, c)) → Q Y') : L_80_0 V g Y t (n32 r) a b c Q := by
  have hi := n_in hr (show 8 ≤ 2147483648 by omega)
  refine l_80_0 ⟨hi, fun Y1 e1 => ⟨hi, fun Y2 e2 => ⟨hi, fun Y3 e3 => ?_⟩⟩⟩
  rw [n_nat (by omega)] at e1 e2 e3
  subst e1 e2 e3
  exact H _ (rTo_set hr a b c)
theorem s_81 {Q : xW → Prop} {l h : Int64} (hr : r < 8) (H : ∀ Y', rTo Y Y' t (setR (gRow Y t) r (tI l h)) → Q Y') : L_81_0 V g Y t (n32 r) l h Q := by
  have hi := n_in hr (show 8 ≤ 2147483648 by omega)
  have A : (l < -2147483648 ∨ 2147483647 < h) → L_81_21 V g Y t (n32 r) l h Q := by
    intro c
    refine l_81_21 (l_81_22 ⟨hi, fun Y1 e1 => ⟨fun _ => l_81_48 ⟨hi, fun Y2 e2 => ⟨fun _ => l_81_67 ⟨hi, fun Y3 e3 => ?_⟩, fun z => absurd rfl z⟩⟩, fun z => absurd rfl z⟩⟩)
    rw [n_nat (by omega)] at e1 e2 e3
    subst e1 e2 e3
    refine H _ ?_
    unfold tI
    rw [if_pos c]
    exact rTo_set hr _ _ _
  refine l_81_0 ⟨fun c => A (.inl c), fun c1 => ⟨fun c => A (.inr c), fun c2 => ?_⟩⟩
  refine l_81_22 ⟨hi, fun Y1 e1 => ⟨fun z => absurd z (by decide), fun _ => l_81_48 ⟨hi, fun Y2 e2 => ⟨fun z => absurd z (by decide), fun _ => l_81_67 ⟨hi, fun Y3 e3 => ?_⟩⟩⟩⟩⟩
  rw [n_nat (by omega)] at e1 e2 e3
  subst e1 e2 e3
  refine H _ ?_
  unfold tI
  rw [if_neg (fun z => z.elim c1 c2)]
  exact rTo_set hr _ _ _
theorem s_82 {Q : xW → Prop} {r' : Nat} (hr : r < 8) (hr' : r' < 8) (H : ∀ Y', rTo Y Y' t (setR (gRow Y t) r (gRow Y t r')) → Q Y') : L_82_0 V g Y t (n32 r) (n32 r') Q := by
  have hi := n_in hr' (show 8 ≤ 2147483648 by omega)
  refine l_82_0 ⟨hi, hi, hi, s_80 hr (fun Y' h => H Y' ?_)⟩
  rw [n_nat (by omega)] at h
  exact h
/-- a loop over the eight registers that sets a row -/
theorem s_83_l {Q : xW → Prop} (H : ∀ Y', rTo Y Y' t (fun _ => (0, 0, 0)) → Q Y') : ∀ (m k : Nat) (Y1 : xW), k + m = 8 → rTo Y Y1 t (fun r => if r < k then (0, 0, 0) else gRow Y t r) → L_83_2 V g Y1 t (n32 k) Q := by
  intro m
  induction m with
  | zero =>
    intro k Y1 hk h
    refine l_83_2 ⟨fun _ => H Y1 (rTo_c h (fun r hr => if_pos (by omega))), fun z => absurd ((n_le (a := 8) (by omega) (by omega)).mpr (by omega)) z⟩
  | succ m ih =>
    intro k Y1 hk h
    refine l_83_2 ⟨fun z => absurd ((n_le (a := 8) (by omega) (by omega)).mp z) (by omega), fun _ => s_80 (by omega) (fun Y2 h2 => ?_)⟩
    rw [show (1 : Int32) = n32 1 from rfl, n_add]
    refine ih (k + 1) Y2 (by omega) (rTo_c (rTo_t h h2) (fun r hr => ?_))
    unfold setR
    by_cases e : r = k
    · rw [if_pos e, if_pos (by omega)]
    · rw [if_neg e, h.2.2.2.2.2 r hr]
      dsimp only
      by_cases e2 : r < k
      · rw [if_pos e2, if_pos (by omega)]
      · rw [if_neg e2, if_neg (by omega)]
theorem s_83 {Q : xW → Prop} (H : ∀ Y', rTo Y Y' t (fun _ => (0, 0, 0)) → Q Y') : L_83_0 V g Y t Q :=
  l_83_0 (s_83_l H 8 0 Y rfl (rTo_c (rTo_r Y t) (fun r hr => (if_neg (by omega)).symm)))
theorem s_84_l {Q : xW → Prop} {u : xT} (hu : u ≠ t) (H : ∀ Y', rTo Y Y' t (gRow Y u) → Q Y') : ∀ (m k : Nat) (Y1 : xW), k + m = 8 → rTo Y Y1 t (fun r => if r < k then gRow Y u r else gRow Y t r) → L_84_2 V g Y1 t u (n32 k) Q := by
  intro m
  induction m with
  | zero =>
    intro k Y1 hk h
    refine l_84_2 ⟨fun _ => H Y1 (rTo_c h (fun r hr => if_pos (by omega))), fun z => absurd ((n_le (a := 8) (by omega) (by omega)).mpr (by omega)) z⟩
  | succ m ih =>
    intro k Y1 hk h
    have hi := n_in (show k < 8 by omega) (show 8 ≤ 2147483648 by omega)
    refine l_84_2 ⟨fun z => absurd ((n_le (a := 8) (by omega) (by omega)).mp z) (by omega), fun _ => ⟨hi, hi, hi, s_80 (by omega) (fun Y2 h2 => ?_)⟩⟩
    rw [n_nat (show k < 2147483648 by omega), h.2.1 u _ _ hu, h.2.1 u _ _ hu, h.2.1 u _ _ hu] at h2
    rw [show (1 : Int32) = n32 1 from rfl, n_add]
    refine ih (k + 1) Y2 (by omega) (rTo_c (rTo_t h h2) (fun r hr => ?_))
    unfold setR
    by_cases e : r = k
    · rw [if_pos e, if_pos (by omega), e]
      rfl
    · rw [if_neg e, h.2.2.2.2.2 r hr]
      dsimp only
      by_cases e2 : r < k
      · rw [if_pos e2, if_pos (by omega)]
      · rw [if_neg e2, if_neg (by omega)]
theorem s_84 {Q : xW → Prop} {u : xT} (hu : u ≠ t) (H : ∀ Y', rTo Y Y' t (gRow Y u) → Q Y') : L_84_0 V g Y t u Q :=
  l_84_0 (s_84_l hu H 8 0 Y rfl (rTo_c (rTo_r Y t) (fun r hr => (if_neg (by omega)).symm)))
theorem s_85_l {Q : Int32 → xW → Prop} {u : xT} (H1 : meetsR (gRow Y t) (gRow Y u) → Q 1 Y) (H0 : ¬ meetsR (gRow Y t) (gRow Y u) → Q 0 Y) : ∀ (m k : Nat), k + m = 8 → (∀ r, r < k → (gRow Y u r).1 ≠ 0 → (gRow Y t r).1 = (gRow Y u r).1 ∧ (gRow Y u r).2.1 ≤ (gRow Y t r).2.1 ∧ (gRow Y t r).2.2 ≤ (gRow Y u r).2.2) → L_85_2 V g Y t u (n32 k) Q := by
  intro m
  induction m with
  | zero =>
    intro k hk h
    refine l_85_2 ⟨fun _ => ⟨.inr rfl, H1 (fun r hr => h r (by omega))⟩, fun z => absurd ((n_le (a := 8) (by omega) (by omega)).mpr (by omega)) z⟩
  | succ m ih =>
    intro k hk h
    have hi := n_in (show k < 8 by omega) (show 8 ≤ 2147483648 by omega)
    have hk8 : k < 8 := by omega
    have nx : ∀ s, ((gRow Y u k).1 ≠ 0 → (gRow Y t k).1 = (gRow Y u k).1 ∧ (gRow Y u k).2.1 ≤ (gRow Y t k).2.1 ∧ (gRow Y t k).2.2 ≤ (gRow Y u k).2.2) → L_85_74 V g Y t u (n32 k) s Q := by
      intro s hs
      refine l_85_74 ?_
      rw [show (1 : Int32) = n32 1 from rfl, n_add]
      refine ih (k + 1) (by omega) (fun r hr => ?_)
      by_cases e : r = k
      · rw [e]; exact hs
      · exact h r (by omega)
    have bad : ¬ ((gRow Y t k).1 = (gRow Y u k).1 ∧ (gRow Y u k).2.1 ≤ (gRow Y t k).2.1 ∧ (gRow Y t k).2.2 ≤ (gRow Y u k).2.2) → L_85_57 V g Y t u (n32 k) Q := by
      intro hb
      refine l_85_57 (l_85_58 ⟨hi, ?_⟩)
      rw [n_nat (by omega)]
      exact ⟨fun c => nx _ (fun z => absurd c z), fun c => ⟨fun _ => ⟨.inl rfl, H0 (fun z => hb (z k hk8 c))⟩, fun z => absurd rfl z⟩⟩
    refine l_85_2 ⟨fun z => absurd ((n_le (a := 8) (by omega) (by omega)).mp z) (by omega), fun _ => ⟨hi, hi, ?_⟩⟩
    rw [n_nat (by omega)]
    refine ⟨fun c1 => ⟨hi, hi, fun c2 => bad (fun z => ?_), fun c2 => ⟨hi, hi, fun c3 => bad (fun z => ?_), fun c3 => l_85_58 ⟨hi, ?_⟩⟩⟩, fun c1 => bad (fun z => c1 z.1.symm)⟩
    · have := z.2.1
      rw [i_le] at this
      rw [i_lt] at c2
      have e : (gRow Y u k).2.1 = fA Y u 1 k := rfl
      have e' : (gRow Y t k).2.1 = fA Y t 1 k := rfl
      rw [e, e'] at this
      omega
    · have := z.2.2
      rw [i_le] at this
      rw [i_lt] at c3
      have e : (gRow Y u k).2.2 = fA Y u 2 k := rfl
      have e' : (gRow Y t k).2.2 = fA Y t 2 k := rfl
      rw [e, e'] at this
      omega
    · rw [n_nat (by omega)]
      have G : (gRow Y t k).1 = (gRow Y u k).1 ∧ (gRow Y u k).2.1 ≤ (gRow Y t k).2.1 ∧ (gRow Y t k).2.2 ≤ (gRow Y u k).2.2 := by
        refine ⟨c1.symm, ?_, ?_⟩
        · show fA Y u 1 k ≤ fA Y t 1 k
          rw [i_le]; rw [i_lt] at c2; omega
        · show fA Y t 2 k ≤ fA Y u 2 k
          rw [i_le]; rw [i_lt] at c3; omega
      exact ⟨fun c => nx _ (fun _ => G), fun c => ⟨fun z => absurd z (by decide), fun _ => nx _ (fun _ => G)⟩⟩
theorem s_85 {Q : Int32 → xW → Prop} {u : xT} (H1 : meetsR (gRow Y t) (gRow Y u) → Q 1 Y) (H0 : ¬ meetsR (gRow Y t) (gRow Y u) → Q 0 Y) : L_85_0 V g Y t u Q :=
  l_85_0 (s_85_l H1 H0 8 0 rfl (fun r hr => absurd hr (by omega)))
theorem s_86_l {Q : Int32 → xW → Prop} (H1 : zerosR (gRow Y t) → Q 1 Y) (H0 : ¬ zerosR (gRow Y t) → Q 0 Y) : ∀ (m k : Nat), k + m = 8 → (∀ r, r < k → (gRow Y t r).1 ≠ 0 → (gRow Y t r).1 = 1 ∧ (gRow Y t r).2.1 ≤ 0 ∧ 0 ≤ (gRow Y t r).2.2) → L_86_2 V g Y t (n32 k) Q := by
  intro m
  induction m with
  | zero =>
    intro k hk h
    refine l_86_2 ⟨fun _ => ⟨.inr rfl, H1 (fun r hr => h r (by omega))⟩, fun z => absurd ((n_le (a := 8) (by omega) (by omega)).mpr (by omega)) z⟩
  | succ m ih =>
    intro k hk h
    have hi := n_in (show k < 8 by omega) (show 8 ≤ 2147483648 by omega)
    have hk8 : k < 8 := by omega
    have nx : ∀ s, ((gRow Y t k).1 ≠ 0 → (gRow Y t k).1 = 1 ∧ (gRow Y t k).2.1 ≤ 0 ∧ 0 ≤ (gRow Y t k).2.2) → L_86_57 V g Y t (n32 k) s Q := by
      intro s hs
      refine l_86_57 ?_
      rw [show (1 : Int32) = n32 1 from rfl, n_add]
      refine ih (k + 1) (by omega) (fun r hr => ?_)
      by_cases e : r = k
      · rw [e]; exact hs
      · exact h r (by omega)
    have bad : ¬ ((gRow Y t k).1 = 1 ∧ (gRow Y t k).2.1 ≤ 0 ∧ 0 ≤ (gRow Y t k).2.2) → L_86_40 V g Y t (n32 k) Q := by
      intro hb
      refine l_86_40 (l_86_41 ⟨hi, ?_⟩)
      rw [n_nat (by omega)]
      exact ⟨fun c => nx _ (fun z => absurd c z), fun c => ⟨fun _ => ⟨.inl rfl, H0 (fun z => hb (z k hk8 c))⟩, fun z => absurd rfl z⟩⟩
    refine l_86_2 ⟨fun z => absurd ((n_le (a := 8) (by omega) (by omega)).mp z) (by omega), fun _ => ⟨hi, ?_⟩⟩
    rw [n_nat (by omega)]
    refine ⟨fun c1 => ⟨hi, fun c2 => bad (fun z => ?_), fun c2 => ⟨hi, fun c3 => bad (fun z => ?_), fun c3 => l_86_41 ⟨hi, ?_⟩⟩⟩, fun c1 => bad (fun z => c1 z.1)⟩
    · have := z.2.1
      rw [i_le] at this
      rw [i_lt] at c2
      have e' : (gRow Y t k).2.1 = fA Y t 1 k := rfl
      rw [e'] at this
      omega
    · have := z.2.2
      rw [i_le] at this
      rw [i_lt] at c3
      have e' : (gRow Y t k).2.2 = fA Y t 2 k := rfl
      rw [e'] at this
      omega
    · rw [n_nat (by omega)]
      have G : (gRow Y t k).1 = 1 ∧ (gRow Y t k).2.1 ≤ 0 ∧ 0 ≤ (gRow Y t k).2.2 := by
        refine ⟨c1, ?_, ?_⟩
        · show fA Y t 1 k ≤ 0
          rw [i_le]; rw [i_lt] at c2; omega
        · show 0 ≤ fA Y t 2 k
          rw [i_le]; rw [i_lt] at c3; omega
      exact ⟨fun c => nx _ (fun _ => G), fun c => ⟨fun z => absurd z (by decide), fun _ => nx _ (fun _ => G)⟩⟩
theorem s_86 {Q : Int32 → xW → Prop} (H1 : zerosR (gRow Y t) → Q 1 Y) (H0 : ¬ zerosR (gRow Y t) → Q 0 Y) : L_86_0 V g Y t Q :=
  l_86_0 (s_86_l H1 H0 8 0 rfl (fun r hr => absurd hr (by omega)))
theorem e_76 {x : Int32} {Q : Int32 → xW → Prop} (hx : x = n32 r) (hr : r < 8) (H : Q (gRow Y t r).1 Y) : L_76_0 V g Y t x Q := by rw [hx]; exact s_76 hr H
theorem e_77 {x : Int32} {Q : Int64 → xW → Prop} (hx : x = n32 r) (hr : r < 8) (H : Q (gRow Y t r).2.1.toInt64 Y) : L_77_0 V g Y t x Q := by rw [hx]; exact s_77 hr H
theorem e_78 {x : Int32} {Q : Int64 → xW → Prop} (hx : x = n32 r) (hr : r < 8) (H : Q (gRow Y t r).2.2.toInt64 Y) : L_78_0 V g Y t x Q := by rw [hx]; exact s_78 hr H
theorem e_79 {x : Int32} {Q : Int32 → xW → Prop} (hx : x = n32 r) (hr : r < 8) (H1 : (gRow Y t r).1 = 1 → Q 1 Y) (H0 : ¬ (gRow Y t r).1 = 1 → Q 0 Y) : L_79_0 V g Y t x Q := by rw [hx]; exact s_79 hr H1 H0
theorem e_80 {x : Int32} {Q : xW → Prop} {a b c : Int32} (hx : x = n32 r) (hr : r < 8) (H : ∀ Y', rTo Y Y' t (setR (gRow Y t) r (a, b, c)) → Q Y') : L_80_0 V g Y t x a b c Q := by rw [hx]; exact s_80 hr H
theorem e_81 {x : Int32} {Q : xW → Prop} {l h : Int64} (hx : x = n32 r) (hr : r < 8) (H : ∀ Y', rTo Y Y' t (setR (gRow Y t) r (tI l h)) → Q Y') : L_81_0 V g Y t x l h Q := by rw [hx]; exact s_81 hr H
theorem e_82 {x x' : Int32} {Q : xW → Prop} {r' : Nat} (hx : x = n32 r) (hx' : x' = n32 r') (hr : r < 8) (hr' : r' < 8) (H : ∀ Y', rTo Y Y' t (setR (gRow Y t) r (gRow Y t r')) → Q Y') : L_82_0 V g Y t x x' Q := by rw [hx, hx']; exact s_82 hr hr' H
end TR
