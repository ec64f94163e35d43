/-! registers keep to the types that verify() has proved: the arithmetic -/
def upF (F : Nat → Int32) (d : Nat) (v : Int32) : Nat → Int32 := fun r => if r = d then v else F r
def rv (op : Nat) (x y n s : Int32) : Int32 :=
  match op with
  | 2 => s
  | 3 => x
  | 4 => x + y
  | 5 => x - y
  | 6 => x * y
  | 7 => x / y
  | 8 => x - x / y * y
  | 9 => x + s
  | 10 => x &&& n
  | 11 => x >>> (n &&& 31)
  | _ => n
theorem fit_set {R : Row} {F : Nat → Int32} {d : Nat} {x : Int32 × Int32 × Int32} {v : Int32} (h : fitR R F) (hv : fitT x v) : fitR (setR R d x) (upF F d v) := by
  intro r hr
  show fitT (if r = d then x else R r) (if r = d then v else F r)
  by_cases e : r = d
  · rw [if_pos e, if_pos e]; exact hv
  · rw [if_neg e, if_neg e]; exact h r hr
theorem tI_fit {l h : Int64} {v : Int32} {z : Int} (hz : v.toInt = z.bmod (2 ^ 32)) (h1 : l.toInt ≤ z) (h2 : z ≤ h.toInt) : fitT (tI l h) v := by
  have m1 : (-2147483648 : Int32).toInt = -2147483648 := by decide
  have m2 : (2147483647 : Int32).toInt = 2147483647 := by decide
  have e1 : (-2147483648 : Int64).toInt = -2147483648 := by decide
  have e2 : (2147483647 : Int64).toInt = 2147483647 := by decide
  have v1 := i_lo v
  have v2 := i_hi v
  unfold tI
  split
  · intro _
    show (-2147483648 : Int32) ≤ v ∧ v ≤ 2147483647
    rw [i_le, i_le, m1, m2]
    omega
  next c =>
    have c1 : ¬ l < -2147483648 := fun y => c (.inl y)
    have c2 : ¬ 2147483647 < h := fun y => c (.inr y)
    rw [j_lt, e1] at c1
    rw [j_lt, e2] at c2
    rw [bm32 (by omega) (by omega)] at hz
    intro _
    show l.toInt32 ≤ v ∧ v ≤ h.toInt32
    rw [i_le, i_le, j_to (by omega) (by omega), j_to (by omega) (by omega), hz]
    exact ⟨h1, h2⟩
theorem b_self (v : Int32) : v.toInt = v.toInt.bmod (2 ^ 32) := (bm32 (i_lo v) (i_hi v)).symm
theorem mul_btw {a b x y : Int} (h1 : a ≤ x) (h2 : x ≤ b) : min (a * y) (b * y) ≤ x * y ∧ x * y ≤ max (a * y) (b * y) := by
  by_cases hy : 0 ≤ y
  · have := Int.mul_le_mul_of_nonneg_right h1 hy
    have := Int.mul_le_mul_of_nonneg_right h2 hy
    omega
  · have := Int.mul_le_mul_of_nonpos_right h1 (show y ≤ 0 by omega)
    have := Int.mul_le_mul_of_nonpos_right h2 (show y ≤ 0 by omega)
    omega
theorem mul_bt4 {a b c d x y : Int} (h1 : a ≤ x) (h2 : x ≤ b) (h3 : c ≤ y) (h4 : y ≤ d) : min (min (a * c) (a * d)) (min (b * c) (b * d)) ≤ x * y ∧ x * y ≤ max (max (a * c) (a * d)) (max (b * c) (b * d)) := by
  have u := mul_btw (y := y) h1 h2
  have v := mul_btw (y := a) h3 h4
  have w := mul_btw (y := b) h3 h4
  rw [Int.mul_comm c, Int.mul_comm d, Int.mul_comm y] at v w
  omega
theorem td_p {x y c : Int} (hx : 0 ≤ x) (hc : 0 < c) (h : c ≤ y) : x.tdiv y ≤ x.tdiv c := by
  have t0 : 0 ≤ x.tdiv y := Int.tdiv_nonneg hx (by omega)
  have t1 : y * x.tdiv y ≤ x := Int.mul_tdiv_self_le hx
  have t2 := Int.mul_le_mul_of_nonneg_right h t0
  refine Int.le_tdiv_of_mul_le hc ?_
  rw [Int.mul_comm]
  omega
theorem td_pp {x y c d : Int} (hc : 0 < c) (h3 : c ≤ y) (h4 : y ≤ d) : min (x.tdiv c) (x.tdiv d) ≤ x.tdiv y ∧ x.tdiv y ≤ max (x.tdiv c) (x.tdiv d) := by
  by_cases hx : 0 ≤ x
  · have := td_p hx hc h3
    have := td_p hx (show 0 < y by omega) h4
    omega
  · have u := td_p (show 0 ≤ -x by omega) hc h3
    have w := td_p (show 0 ≤ -x by omega) (show 0 < y by omega) h4
    rw [Int.neg_tdiv, Int.neg_tdiv] at u w
    omega
theorem td_y {x y c d : Int} (hc : 0 < c ∨ d < 0) (h3 : c ≤ y) (h4 : y ≤ d) : min (x.tdiv c) (x.tdiv d) ≤ x.tdiv y ∧ x.tdiv y ≤ max (x.tdiv c) (x.tdiv d) := by
  rcases hc with hc | hc
  · exact td_pp hc h3 h4
  · have u := td_pp (x := x) (show 0 < -d by omega) (show -d ≤ -y by omega) (show -y ≤ -c by omega)
    rw [Int.tdiv_neg, Int.tdiv_neg, Int.tdiv_neg] at u
    omega
theorem td_x {a b x y : Int} (hy : y ≠ 0) (h1 : a ≤ x) (h2 : x ≤ b) : min (a.tdiv y) (b.tdiv y) ≤ x.tdiv y ∧ x.tdiv y ≤ max (a.tdiv y) (b.tdiv y) := by
  by_cases p : 0 < y
  · have := Int.tdiv_le_tdiv p h1
    have := Int.tdiv_le_tdiv p h2
    omega
  · have u := Int.tdiv_le_tdiv (show 0 < -y by omega) h1
    have w := Int.tdiv_le_tdiv (show 0 < -y by omega) h2
    rw [Int.tdiv_neg, Int.tdiv_neg] at u w
    omega
theorem td_4 {a b c d x y : Int} (h1 : a ≤ x) (h2 : x ≤ b) (hc : 0 < c ∨ d < 0) (h3 : c ≤ y) (h4 : y ≤ d) : min (min (a.tdiv c) (a.tdiv d)) (min (b.tdiv c) (b.tdiv d)) ≤ x.tdiv y ∧ x.tdiv y ≤ max (max (a.tdiv c) (a.tdiv d)) (max (b.tdiv c) (b.tdiv d)) := by
  have u := td_x (y := y) (by omega) h1 h2
  have v := td_y (x := a) hc h3 h4
  have w := td_y (x := b) hc h3 h4
  omega
theorem td_abs {x y : Int} (h1 : -2147483648 ≤ x) (h2 : x < 2147483648) : -2147483648 ≤ x.tdiv y ∧ x.tdiv y ≤ 2147483648 := by
  have := Int.natAbs_tdiv_le_natAbs x y
  omega
theorem i_rem (x y : Int32) : (x - x / y * y).toInt = x.toInt.tmod y.toInt := by
  have e : (x % y).toInt = x.toInt.tmod y.toInt := Int32.toInt_mod x y
  rw [Int32.toInt_sub, Int32.toInt_mul, Int32.toInt_div, Int.bmod_mul_bmod, Int.sub_bmod_bmod, Int.mul_comm, ← Int.tmod_def, ← e, ← b_self]
theorem i_divm (x : Int32) : x / (-1) = -x := by
  apply Int32.toInt_inj.mp
  rw [Int32.toInt_div, show (-1 : Int32).toInt = -1 from by decide, Int32.toInt_neg, Int.tdiv_neg, Int.tdiv_one]
theorem i_remm (x : Int32) : x - x / (-1) * (-1) = 0 := by
  apply Int32.toInt_inj.mp
  rw [i_rem, show (-1 : Int32).toInt = -1 from by decide, Int.tmod_neg, Int.tmod_one]
  rfl
theorem sh5 : ∀ m, m < 32 → ((n32 m &&& 31).toBitVec.smod 32).toNat = m := by decide +kernel
theorem sh6 : ∀ m, m < 32 → (((n32 m).toInt64 &&& 63).toBitVec.smod 64).toNat = m := by decide +kernel
theorem i_shr {x : Int32} {m : Nat} (h : m < 32) : (x >>> (n32 m &&& 31)).toInt = x.toInt / ((2 ^ m : Nat) : Int) := by
  have e : (x >>> (n32 m &&& 31)).toBitVec = x.toBitVec.sshiftRight ((n32 m &&& 31).toBitVec.smod 32).toNat := rfl
  rw [sh5 m h] at e
  show (x >>> (n32 m &&& 31)).toBitVec.toInt = _
  rw [e, BitVec.toInt_sshiftRight, Int.shiftRight_eq_div_pow]
  rfl
theorem j_shr {x : Int64} {m : Nat} (h : m < 32) : (x >>> ((n32 m).toInt64 &&& 63)).toInt = x.toInt / ((2 ^ m : Nat) : Int) := by
  have e : (x >>> ((n32 m).toInt64 &&& 63)).toBitVec = x.toBitVec.sshiftRight (((n32 m).toInt64 &&& 63).toBitVec.smod 64).toNat := rfl
  rw [sh6 m h] at e
  show (x >>> ((n32 m).toInt64 &&& 63)).toBitVec.toInt = _
  rw [e, BitVec.toInt_sshiftRight, Int.shiftRight_eq_div_pow]
  rfl
theorem i_and {x : Int32} {m : Nat} (h : m < 65536) : 0 ≤ (x &&& n32 m).toInt ∧ (x &&& n32 m).toInt ≤ m := by
  have e : x &&& n32 m = n32 (uN x &&& m) := by
    apply Int32.toBitVec.inj
    apply BitVec.eq_of_toNat_eq
    show (x.toBitVec &&& BitVec.ofNat 32 m).toNat = (BitVec.ofNat 32 (uN x &&& m)).toNat
    have l : uN x &&& m ≤ m := Nat.and_le_right
    rw [BitVec.toNat_and, BitVec.toNat_ofNat, BitVec.toNat_ofNat, Nat.mod_eq_of_lt (a := m) (by omega), Nat.mod_eq_of_lt (a := uN x &&& m) (by omega)]
    rfl
  have l : uN x &&& m ≤ m := Nat.and_le_right
  rw [e, n_toInt (by omega)]
  omega
theorem j_div {x y : Int32} : (x.toInt64 / y.toInt64).toInt = x.toInt.tdiv y.toInt := by
  have h := td_abs (y := y.toInt) (i_lo x) (i_hi x)
  rw [Int64.toInt_div, j_of, j_of, bm64 (by omega) (by omega)]
theorem m_abs {x y : Int} (h1 : -2147483648 ≤ x) (h2 : x < 2147483648) (h3 : -2147483648 ≤ y) (h4 : y < 2147483648) : -4611686018427387904 ≤ x * y ∧ x * y ≤ 4611686018427387904 := by
  have u := mul_bt4 h1 (show x ≤ 2147483648 by omega) h3 (show y ≤ 2147483648 by omega)
  omega
theorem j_mu {x y : Int32} : (x.toInt64 * y.toInt64).toInt = x.toInt * y.toInt := by
  have h := m_abs (i_lo x) (i_hi x) (i_lo y) (i_hi y)
  rw [Int64.toInt_mul, j_of, j_of, bm64 (by omega) (by omega)]
theorem ab_n {x : Int32} : (ab x.toInt64).toInt = x.toInt.natAbs := by
  have h1 := i_lo x
  have h2 := i_hi x
  unfold ab
  split
  next c =>
    rw [j_le, j_of, show (0 : Int64).toInt = 0 from rfl] at c
    rw [j_of]
    omega
  next c =>
    rw [j_le, j_of, show (0 : Int64).toInt = 0 from rfl] at c
    rw [Int64.toInt_neg, j_of, bm64 (by omega) (by omega)]
    omega
/-- bounds of a register -/
theorem fit_i {R : Row} {F : Nat → Int32} {a : Nat} (h : fitR R F) (ha : a < 8) (k : (R a).1 ≠ 0) : (lo R a).toInt ≤ (F a).toInt ∧ (F a).toInt ≤ (hi R a).toInt ∧ -2147483648 ≤ (lo R a).toInt ∧ (hi R a).toInt < 2147483648 := by
  have f := h a ha k
  unfold lo hi
  rw [j_of, j_of, ← i_le, ← i_le]
  exact ⟨f.1, f.2, i_lo _, i_hi _⟩
theorem fit_p {l h : Int64} {v : Int32} {k : Int32} {z : Int} (hz : v.toInt = z.bmod (2 ^ 32)) (h1 : l.toInt ≤ z) (h2 : z ≤ h.toInt) (c : ¬ (l < -1000000 ∨ ¬ h ≤ 1000000)) : fitT (k, l.toInt32, h.toInt32) v := by
  have c1 : ¬ l < -1000000 := fun y => c (.inl y)
  have c2 : h ≤ 1000000 := Classical.byContradiction (fun y => c (.inr y))
  rw [j_lt, show (-1000000 : Int64).toInt = -1000000 from by decide] at c1
  rw [j_le, show (1000000 : Int64).toInt = 1000000 from by decide] at c2
  rw [bm32 (by omega) (by omega)] at hz
  intro _
  show l.toInt32 ≤ v ∧ v ≤ h.toInt32
  rw [i_le, i_le, j_to (by omega) (by omega), j_to (by omega) (by omega), hz]
  exact ⟨h1, h2⟩
theorem sum_fit {R : Row} {F : Nat → Int32} {d a : Nat} {k : Int32} {l h : Int64} {v : Int32} {z : Int} (f : fitR R F) (hz : (R a).1 ≠ 0 → k ≠ 0 → v.toInt = z.bmod (2 ^ 32) ∧ l.toInt ≤ z ∧ z ≤ h.toInt) (e : (sumF d a k l h R).1 = 0) : fitR (sumF d a k l h R).2 (upF F d v) := by
  unfold sumF at e ⊢
  split at e
  · exact absurd (show (2 : Int32) = 0 from e) (by decide)
  next c =>
    have c1 : (R a).1 ≠ 0 := fun y => c (.inl y)
    have c2 : k ≠ 0 := fun y => c (.inr (.inl y))
    obtain ⟨z1, z2, z3⟩ := hz c1 c2
    rw [if_neg c]
    split at e
    next g =>
      rw [if_pos g]
      exact fit_set f (tI_fit z1 z2 z3)
    next g =>
      rw [if_neg g]
      split at e
      · exact absurd (show (6 : Int32) = 0 from e) (by decide)
      next g2 =>
        rw [if_neg g2]
        exact fit_set f (fit_p z1 z2 z3 g2)
theorem ite_0 {c : Prop} [Decidable c] {x : Int32 × Row} {k : Int32} {R : Row} (hk : k ≠ 0) (e : (if c then x else (k, R)).1 = 0) : c ∧ (if c then x else (k, R)) = x := by
  by_cases h : c
  · exact ⟨h, if_pos h⟩
  · rw [if_neg h] at e
    exact absurd e hk
theorem ite_1 {c : Prop} [Decidable c] {x : Int32 × Row} {k : Int32} {R : Row} (hk : k ≠ 0) (e : (if c then (k, R) else x).1 = 0) : ¬ c ∧ (if c then (k, R) else x) = x := by
  by_cases h : c
  · rw [if_pos h] at e
    exact absurd e hk
  · exact ⟨h, if_neg h⟩
theorem one_ne {x : Int32} (h : x = 1) : x ≠ 0 := by rw [h]; decide
/-- a divisor that verify() has let pass is not 0 -/
theorem dv_ne {R : Row} {F : Nat → Int32} {b : Nat} (f : fitR R F) (hb : b < 8) (k : (R b).1 = 1) (c : ¬ (lo R b ≤ 0 ∧ 0 ≤ hi R b)) : (F b).toInt ≠ 0 ∧ (0 < (lo R b).toInt ∨ (hi R b).toInt < 0) := by
  have g := fit_i f hb (one_ne k)
  have c' : 0 < (lo R b).toInt ∨ (hi R b).toInt < 0 := by
    rw [j_le, j_le, show (0 : Int64).toInt = 0 from rfl] at c
    omega
  exact ⟨by omega, c'⟩
