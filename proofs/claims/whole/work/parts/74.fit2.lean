/-! registers keep to their types: the words that set a register -/
section FT
variable {R : Row} {F : Nat → Int32} {d a b m : Nat} {s need : Int32}
theorem fit_3 (f : fitR R F) (ha : a < 8) : fitR (setR R d (R a)) (upF F d (F a)) := fit_set f (f a ha)
theorem fit_c (k n : Int32) (f : fitR R F) : fitR (setR R d (k, n, n)) (upF F d n) := fit_set f (fun _ => ⟨i_le.mpr (Int.le_refl _), i_le.mpr (Int.le_refl _)⟩)
theorem fit_4 (f : fitR R F) (ha : a < 8) (hb : b < 8) (e : (sumF d a (R b).1 (lo R a + lo R b) (hi R a + hi R b) R).1 = 0) : fitR (sumF d a (R b).1 (lo R a + lo R b) (hi R a + hi R b) R).2 (upF F d (F a + F b)) := by
  refine sum_fit (z := (F a).toInt + (F b).toInt) f (fun k1 k2 => ?_) e
  have g1 := fit_i f ha k1
  have g2 := fit_i f hb k2
  refine ⟨Int32.toInt_add _ _, ?_, ?_⟩
  · rw [j_add (by omega) (by omega)]; omega
  · rw [j_add (by omega) (by omega)]; omega
theorem fit_5 (f : fitR R F) (ha : a < 8) (hb : b < 8) (k2 : (R b).1 = 1) (e : (sumF d a 1 (lo R a - hi R b) (hi R a - lo R b) R).1 = 0) : fitR (sumF d a 1 (lo R a - hi R b) (hi R a - lo R b) R).2 (upF F d (F a - F b)) := by
  refine sum_fit (z := (F a).toInt - (F b).toInt) f (fun k1 _ => ?_) e
  have g1 := fit_i f ha k1
  have g2 := fit_i f hb (one_ne k2)
  refine ⟨Int32.toInt_sub _ _, ?_, ?_⟩
  · rw [j_sub (by omega) (by omega)]; omega
  · rw [j_sub (by omega) (by omega)]; omega
theorem fit_9 (f : fitR R F) (ha : a < 8) (e : (sumF d a 1 (lo R a + s.toInt64) (hi R a + s.toInt64) R).1 = 0) : fitR (sumF d a 1 (lo R a + s.toInt64) (hi R a + s.toInt64) R).2 (upF F d (F a + s)) := by
  refine sum_fit (z := (F a).toInt + s.toInt) f (fun k1 _ => ?_) e
  have g1 := fit_i f ha k1
  have s1 := i_lo s
  have s2 := i_hi s
  have es := j_of s
  refine ⟨Int32.toInt_add _ _, ?_, ?_⟩
  · rw [j_add (by omega) (by omega)]; omega
  · rw [j_add (by omega) (by omega)]; omega
theorem fit_6 (f : fitR R F) (ha : a < 8) (hb : b < 8) (k1 : (R a).1 = 1) (k2 : (R b).1 = 1) : fitR (setR R d (tI (mn4 (lo R a * lo R b) (lo R a * hi R b) (hi R a * lo R b) (hi R a * hi R b)) (mx4 (lo R a * lo R b) (lo R a * hi R b) (hi R a * lo R b) (hi R a * hi R b)))) (upF F d (F a * F b)) := by
  have g1 := fit_i f ha (one_ne k1)
  have g2 := fit_i f hb (one_ne k2)
  have u := mul_bt4 g1.1 g1.2.1 g2.1 g2.2.1
  unfold lo hi at u
  simp only [j_of] at u
  refine fit_set f (tI_fit (z := (F a).toInt * (F b).toInt) (Int32.toInt_mul _ _) ?_ ?_)
  · unfold mn4 lo hi
    rw [mn_t, mn_t, mn_t, j_mu, j_mu, j_mu, j_mu]
    exact u.1
  · unfold mx4 lo hi
    rw [mx_t, mx_t, mx_t, j_mu, j_mu, j_mu, j_mu]
    exact u.2
theorem fit_7 (f : fitR R F) (ha : a < 8) (hb : b < 8) (k1 : (R a).1 = 1) (k2 : (R b).1 = 1) (c : ¬ (lo R b ≤ 0 ∧ 0 ≤ hi R b)) : fitR (setR R d (tI (mn4 (lo R a / lo R b) (lo R a / hi R b) (hi R a / lo R b) (hi R a / hi R b)) (mx4 (lo R a / lo R b) (lo R a / hi R b) (hi R a / lo R b) (hi R a / hi R b)))) (upF F d (F a / F b)) := by
  have g1 := fit_i f ha (one_ne k1)
  have g2 := fit_i f hb (one_ne k2)
  have nz := dv_ne f hb k2 c
  have u := td_4 g1.1 g1.2.1 nz.2 g2.1 g2.2.1
  unfold lo hi at u
  simp only [j_of] at u
  refine fit_set f (tI_fit (z := (F a).toInt.tdiv (F b).toInt) (Int32.toInt_div _ _) ?_ ?_)
  · unfold mn4 lo hi
    rw [mn_t, mn_t, mn_t, j_div, j_div, j_div, j_div]
    exact u.1
  · unfold mx4 lo hi
    rw [mx_t, mx_t, mx_t, j_div, j_div, j_div, j_div]
    exact u.2
theorem tm_b {x y : Int} (hy : y ≠ 0) : (0 ≤ x → 0 ≤ x.tmod y) ∧ (x ≤ 0 → x.tmod y ≤ 0) ∧ x.tmod y < y.natAbs ∧ -(y.natAbs : Int) < x.tmod y := by
  refine ⟨fun h => Int.tmod_nonneg y h, fun h => ?_, ?_⟩
  · have := Int.tmod_nonneg y (show 0 ≤ -x by omega)
    rw [Int.neg_tmod] at this
    omega
  · by_cases p : 0 < y
    · have := Int.tmod_lt_of_pos x p
      have := Int.lt_tmod_of_pos x p
      omega
    · have u := Int.tmod_lt_of_pos x (show 0 < -y by omega)
      have w := Int.lt_tmod_of_pos x (show 0 < -y by omega)
      rw [Int.tmod_neg] at u w
      omega
theorem fit_8 (f : fitR R F) (ha : a < 8) (hb : b < 8) (k1 : (R a).1 = 1) (k2 : (R b).1 = 1) (c : ¬ (lo R b ≤ 0 ∧ 0 ≤ hi R b)) : fitR (setR R d (tI (if 0 ≤ lo R a then 0 else -(mx (ab (lo R b)) (ab (hi R b)) - 1)) (if hi R a ≤ 0 then 0 else mx (ab (lo R b)) (ab (hi R b)) - 1))) (upF F d (F a - F a / F b * F b)) := by
  have g1 := fit_i f ha (one_ne k1)
  have g2 := fit_i f hb (one_ne k2)
  have nz := dv_ne f hb k2 c
  have t := tm_b (x := (F a).toInt) nz.1
  have em : (mx (ab (lo R b)) (ab (hi R b))).toInt = max (lo R b).toInt.natAbs (hi R b).toInt.natAbs := by
    rw [mx_t]
    unfold lo hi
    rw [ab_n, ab_n, j_of, j_of]
    omega
  have o1 : (1 : Int64).toInt = 1 := rfl
  have z0 : (0 : Int64).toInt = 0 := rfl
  have e1 : (mx (ab (lo R b)) (ab (hi R b)) - 1).toInt = max (lo R b).toInt.natAbs (hi R b).toInt.natAbs - 1 := by
    rw [j_sub (by rw [em, o1]; omega) (by rw [em, o1]; omega), em, o1]
  have e2 : (-(mx (ab (lo R b)) (ab (hi R b)) - 1)).toInt = -((max (lo R b).toInt.natAbs (hi R b).toInt.natAbs : Int) - 1) := by
    rw [Int64.toInt_neg, e1, bm64 (by omega) (by omega)]
    omega
  refine fit_set f (tI_fit (z := (F a).toInt.tmod (F b).toInt) ?_ ?_ ?_)
  · rw [← i_rem]
    exact b_self _
  · split
    next p =>
      rw [j_le, z0] at p
      rw [z0]
      exact t.1 (by omega)
    next p =>
      rw [e2]
      omega
  · split
    next p =>
      rw [j_le, z0] at p
      rw [z0]
      exact t.2.1 (by omega)
    next p =>
      rw [e1]
      omega
theorem fit_10 (f : fitR R F) (hm : m < 65536) : fitR (setR R d (tI 0 (n32 m).toInt64)) (upF F d (F a &&& n32 m)) := by
  have h := i_and (x := F a) hm
  refine fit_set f (tI_fit (z := (F a &&& n32 m).toInt) (b_self _) h.1 ?_)
  rw [j_of, n_toInt (by omega)]
  exact h.2
theorem fit_11 (f : fitR R F) (ha : a < 8) (hm : m ≤ 31) (k1 : (R a).1 = 1) : fitR (setR R d (tI (lo R a >>> ((n32 m).toInt64 &&& 63)) (hi R a >>> ((n32 m).toInt64 &&& 63)))) (upF F d (F a >>> (n32 m &&& 31))) := by
  have g1 := fit_i f ha (one_ne k1)
  have hp : (0 : Int) < ((2 ^ m : Nat) : Int) := by
    have := Nat.two_pow_pos m
    omega
  refine fit_set f (tI_fit (z := (F a >>> (n32 m &&& 31)).toInt) (b_self _) ?_ ?_)
  · rw [i_shr (by omega), j_shr (by omega)]
    exact Int.ediv_le_ediv hp g1.1
  · rw [i_shr (by omega), j_shr (by omega)]
    exact Int.ediv_le_ediv hp g1.2.1
/-- a word that sets a register: what it leaves fits the row behind it -/
theorem wk_fit {op : Nat} (f : fitR R F) (ha : a < 8) (hb : b < 8) (hm : m < 65536) (h11 : op = 11 → m ≤ 31) (h1 : 2 ≤ op) (h2 : op ≤ 12) (e : (wk op d a b (n32 m) s need R).1 = 0) : fitR (wk op d a b (n32 m) s need R).2 (upF F d (rv op (F a) (F b) (n32 m) s)) ∧ (op = 7 ∨ op = 8 → F b ≠ 0) := by
  have ho : op = 2 ∨ op = 3 ∨ op = 4 ∨ op = 5 ∨ op = 6 ∨ op = 7 ∨ op = 8 ∨ op = 9 ∨ op = 10 ∨ op = 11 ∨ op = 12 := by omega
  have d2 : (2 : Int32) ≠ 0 := by decide
  have d5 : (5 : Int32) ≠ 0 := by decide
  rcases ho with rfl | rfl | rfl | rfl | rfl | rfl | rfl | rfl | rfl | rfl | rfl
  · exact ⟨fit_c 1 s f, by omega⟩
  · exact ⟨fit_3 f ha, by omega⟩
  · exact ⟨fit_4 f ha hb e, by omega⟩
  · rw [wk_5] at e ⊢
    obtain ⟨k, q⟩ := ite_0 d2 e
    rw [q] at e ⊢
    exact ⟨fit_5 f ha hb k e, by omega⟩
  · rw [wk_6] at e ⊢
    obtain ⟨k, q⟩ := ite_0 d2 e
    rw [q]
    exact ⟨fit_6 f ha hb k.1 k.2, by omega⟩
  · rw [wk_7] at e ⊢
    obtain ⟨k, q⟩ := ite_0 d2 e
    rw [q] at e ⊢
    obtain ⟨k3, q3⟩ := ite_1 d5 e
    rw [q3]
    exact ⟨fit_7 f ha hb k.1 k.2 k3, fun _ z => (dv_ne f hb k.2 k3).1 (by rw [z]; rfl)⟩
  · rw [wk_8] at e ⊢
    obtain ⟨k, q⟩ := ite_0 d2 e
    rw [q] at e ⊢
    obtain ⟨k3, q3⟩ := ite_1 d5 e
    rw [q3]
    exact ⟨fit_8 f ha hb k.1 k.2 k3, fun _ z => (dv_ne f hb k.2 k3).1 (by rw [z]; rfl)⟩
  · exact ⟨fit_9 f ha e, by omega⟩
  · rw [wk_10] at e ⊢
    obtain ⟨k, q⟩ := ite_0 d2 e
    rw [q]
    exact ⟨fit_10 f hm, by omega⟩
  · rw [wk_11] at e ⊢
    obtain ⟨k, q⟩ := ite_0 d2 e
    rw [q]
    exact ⟨fit_11 f ha (h11 rfl) k, by omega⟩
  · exact ⟨fit_c 2 _ f, by omega⟩
/-- a cell that is loaded or stored lies within the need -/
theorem off_ok {n : Nat} (f : fitR R F) (ha : a < 8) (k : (R a).1 = 2) (hn : need = n32 n) (n4 : n ≤ 4096) (c : ¬ (lo R a + s.toInt64 < 0 ∨ ¬ hi R a + s.toInt64 < need.toInt64)) : ∃ o, o < n ∧ F a + s = n32 o := by
  have g := fit_i f ha (by rw [k]; decide)
  have s1 := i_lo s
  have s2 := i_hi s
  have es := j_of s
  have c1 : ¬ lo R a + s.toInt64 < 0 := fun y => c (.inl y)
  have c2 : hi R a + s.toInt64 < need.toInt64 := Classical.byContradiction (fun y => c (.inr y))
  rw [j_lt, j_add (by omega) (by omega), show (0 : Int64).toInt = 0 from rfl] at c1
  rw [j_lt, j_add (by omega) (by omega), j_of, hn, j_of, n_toInt (by omega)] at c2
  have e : (F a + s).toInt = (F a).toInt + s.toInt := i_add (by omega) (by omega)
  exact ⟨(F a + s).toNatClampNeg, by rw [i_cl]; omega, n_of (by omega)⟩
end FT
