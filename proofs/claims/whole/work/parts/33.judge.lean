/-! the judgement of a word, on rows of types and the reference's arrays A (field, place) -/
abbrev AF : Type := Nat → Nat → Int32
def okT (x : Int32 × Int32 × Int32) : Prop := x.1 = 0 ∨ ((x.1 = 1 ∨ x.1 = 2) ∧ x.2.1 ≤ x.2.2)
def okR (R : Row) : Prop := ∀ r, r < 8 → okT (R r)
def rq (a b : Row) : Prop := ∀ r, r < 8 → (a r).1 = (b r).1 ∧ ((b r).1 ≠ 0 → a r = b r)
def lRow (A : AF) (a : Nat) : Row := fun r => (A 14 (8 * a + r), A 15 (8 * a + r), A 16 (8 * a + r))
def oRow (A : AF) (f : Nat) : Row := fun r => (A 19 (8 * f + r), A 20 (8 * f + r), A 21 (8 * f + r))
def nW (A : AF) (p : Nat) : Nat := (A 8 p).toNatClampNeg
def nF (A : AF) (p : Nat) : Nat := (A 9 p).toNatClampNeg
def nL (A : AF) (p : Nat) : Nat := (A 10 p).toNatClampNeg
def nN (A : AF) (p : Nat) : Nat := (A 7 p).toNatClampNeg
def eN (A : AF) (f : Nat) : Nat := (A 17 f).toNatClampNeg
def lP (A : AF) (k : Nat) : Nat := (A 22 k).toNatClampNeg
def lF (A : AF) (k : Nat) : Nat := (A 23 k).toNatClampNeg
def lo (R : Row) (a : Nat) : Int64 := (R a).2.1.toInt64
def hi (R : Row) (a : Nat) : Int64 := (R a).2.2.toInt64
def mn4 (a b c d : Int64) : Int64 := mn (mn a b) (mn c d)
def mx4 (a b c d : Int64) : Int64 := mx (mx a b) (mx c d)
def ab (x : Int64) : Int64 := if 0 ≤ x then x else -x
def sumF (d a : Nat) (k : Int32) (l h : Int64) (R : Row) : Int32 × Row :=
  if (R a).1 = 0 ∨ k = 0 ∨ ((R a).1 = 2 ∧ k = 2) then (2, R)
  else if (R a).1 = 1 ∧ k = 1 then (0, setR R d (tI l h))
  else if l < -1000000 ∨ ¬ h ≤ 1000000 then (6, R) else (0, setR R d (2, l.toInt32, h.toInt32))
def wk (op d a b : Nat) (n s need : Int32) (R : Row) : Int32 × Row :=
  match op with
  | 2 => (0, setR R d (1, s, s))
  | 3 => (0, setR R d (R a))
  | 4 => sumF d a (R b).1 (lo R a + lo R b) (hi R a + hi R b) R
  | 5 => if (R b).1 = 1 then sumF d a 1 (lo R a - hi R b) (hi R a - lo R b) R else (2, R)
  | 6 => if (R a).1 = 1 ∧ (R b).1 = 1 then (0, setR R d (tI (mn4 (lo R a * lo R b) (lo R a * hi R b) (hi R a * lo R b) (hi R a * hi R b)) (mx4 (lo R a * lo R b) (lo R a * hi R b) (hi R a * lo R b) (hi R a * hi R b)))) else (2, R)
  | 7 => if (R a).1 = 1 ∧ (R b).1 = 1 then (if lo R b ≤ 0 ∧ 0 ≤ hi R b then (5, R) else (0, setR R d (tI (mn4 (lo R a / lo R b) (lo R a / hi R b) (hi R a / lo R b) (hi R a / hi R b)) (mx4 (lo R a / lo R b) (lo R a / hi R b) (hi R a / lo R b) (hi R a / hi R b))))) else (2, R)
  | 8 => if (R a).1 = 1 ∧ (R b).1 = 1 then (if lo R b ≤ 0 ∧ 0 ≤ hi R b then (5, R) else (0, setR R d (tI (if 0 ≤ lo R a then 0 else -(mx (ab (lo R b)) (ab (hi R b)) - 1)) (if hi R a ≤ 0 then 0 else mx (ab (lo R b)) (ab (hi R b)) - 1)))) else (2, R)
  | 9 => sumF d a 1 (lo R a + s.toInt64) (hi R a + s.toInt64) R
  | 10 => if (R a).1 = 1 then (0, setR R d (tI 0 n.toInt64)) else (2, R)
  | 11 => if (R a).1 = 1 then (0, setR R d (tI (lo R a >>> (n.toInt64 &&& 63)) (hi R a >>> (n.toInt64 &&& 63)))) else (2, R)
  | 12 => (0, setR R d (2, n, n))
  | 13 => if (R a).1 = 2 then (if lo R a + s.toInt64 < 0 ∨ ¬ hi R a + s.toInt64 < need.toInt64 then (3, R) else (0, setR R d (1, -2147483648, 2147483647))) else (2, R)
  | 14 => if (R d).1 = 1 then (if (R a).1 = 2 then (if lo R a + s.toInt64 < 0 ∨ ¬ hi R a + s.toInt64 < need.toInt64 then (3, R) else (0, R)) else (2, R)) else (2, R)
  | _ => (0, R)
theorem wk_2 (d a b : Nat) (n s need : Int32) (R : Row) : wk 2 d a b n s need R = ((0, setR R d (1, s, s))) := rfl
theorem wk_3 (d a b : Nat) (n s need : Int32) (R : Row) : wk 3 d a b n s need R = ((0, setR R d (R a))) := rfl
theorem wk_4 (d a b : Nat) (n s need : Int32) (R : Row) : wk 4 d a b n s need R = (sumF d a (R b).1 (lo R a + lo R b) (hi R a + hi R b) R) := rfl
theorem wk_5 (d a b : Nat) (n s need : Int32) (R : Row) : wk 5 d a b n s need R = (if (R b).1 = 1 then sumF d a 1 (lo R a - hi R b) (hi R a - lo R b) R else (2, R)) := rfl
theorem wk_6 (d a b : Nat) (n s need : Int32) (R : Row) : wk 6 d a b n s need R = (if (R a).1 = 1 ∧ (R b).1 = 1 then (0, setR R d (tI (mn4 (lo R a * lo R b) (lo R a * hi R b) (hi R a * lo R b) (hi R a * hi R b)) (mx4 (lo R a * lo R b) (lo R a * hi R b) (hi R a * lo R b) (hi R a * hi R b)))) else (2, R)) := rfl
theorem wk_7 (d a b : Nat) (n s need : Int32) (R : Row) : wk 7 d a b n s need R = (if (R a).1 = 1 ∧ (R b).1 = 1 then (if lo R b ≤ 0 ∧ 0 ≤ hi R b then (5, R) else (0, setR R d (tI (mn4 (lo R a / lo R b) (lo R a / hi R b) (hi R a / lo R b) (hi R a / hi R b)) (mx4 (lo R a / lo R b) (lo R a / hi R b) (hi R a / lo R b) (hi R a / hi R b))))) else (2, R)) := rfl
theorem wk_8 (d a b : Nat) (n s need : Int32) (R : Row) : wk 8 d a b n s need R = (if (R a).1 = 1 ∧ (R b).1 = 1 then (if lo R b ≤ 0 ∧ 0 ≤ hi R b then (5, R) else (0, setR R d (tI (if 0 ≤ lo R a then 0 else -(mx (ab (lo R b)) (ab (hi R b)) - 1)) (if hi R a ≤ 0 then 0 else mx (ab (lo R b)) (ab (hi R b)) - 1)))) else (2, R)) := rfl
theorem wk_9 (d a b : Nat) (n s need : Int32) (R : Row) : wk 9 d a b n s need R = (sumF d a 1 (lo R a + s.toInt64) (hi R a + s.toInt64) R) := rfl
theorem wk_10 (d a b : Nat) (n s need : Int32) (R : Row) : wk 10 d a b n s need R = (if (R a).1 = 1 then (0, setR R d (tI 0 n.toInt64)) else (2, R)) := rfl
theorem wk_11 (d a b : Nat) (n s need : Int32) (R : Row) : wk 11 d a b n s need R = (if (R a).1 = 1 then (0, setR R d (tI (lo R a >>> (n.toInt64 &&& 63)) (hi R a >>> (n.toInt64 &&& 63)))) else (2, R)) := rfl
theorem wk_12 (d a b : Nat) (n s need : Int32) (R : Row) : wk 12 d a b n s need R = ((0, setR R d (2, n, n))) := rfl
theorem wk_13 (d a b : Nat) (n s need : Int32) (R : Row) : wk 13 d a b n s need R = (if (R a).1 = 2 then (if lo R a + s.toInt64 < 0 ∨ ¬ hi R a + s.toInt64 < need.toInt64 then (3, R) else (0, setR R d (1, -2147483648, 2147483647))) else (2, R)) := rfl
theorem wk_14 (d a b : Nat) (n s need : Int32) (R : Row) : wk 14 d a b n s need R = (if (R d).1 = 1 then (if (R a).1 = 2 then (if lo R a + s.toInt64 < 0 ∨ ¬ hi R a + s.toInt64 < need.toInt64 then (3, R) else (0, R)) else (2, R)) else (2, R)) := rfl
theorem wk_0 (d a b : Nat) (n s need : Int32) (R : Row) : wk 0 d a b n s need R = (0, R) := rfl
theorem wk_1 (d a b : Nat) (n s need : Int32) (R : Row) : wk 1 d a b n s need R = (0, R) := rfl
/-- going to a place with a row -/
def gF (A : AF) (p to : Nat) (R : Row) (st : Int32) : Int32 := if nW A p ≤ to ∨ ¬ A 13 (200 * p + to) = st then 1 else if meetsR R (lRow A (200 * p + to)) then 0 else 4
/-- going to the next word -/
def nxF (A : AF) (p i : Nat) (R : Row) (st : Int32) : Int32 := if i + 1 < nW A p ∧ A 13 (200 * p + (i + 1)) < 0 then 0 else gF A p (i + 1) R st
/-- a callee: function f of program q -/
def cF (A : AF) (p i q f : Nat) (R : Row) (st : Int32) : Int32 := if ¬ A 13 (200 * q + eN A (8 * q + f)) = n32 f then 1 else if meetsR R (lRow A (200 * q + eN A (8 * q + f))) then gF A p (i + 1) (oRow A (8 * q + f)) st else 9
def lessW (R : Row) (d a : Nat) : Row := setR (setR R d (tI (lo R d) (mn (hi R d) (hi R a - 1)))) a (tI (mx (lo R a) (lo R d + 1)) (hi R a))
def lessN (R : Row) (d a : Nat) : Row := setR (setR R d (tI (mx (lo R d) (lo R a)) (hi R d))) a (tI (lo R a) (mn (hi R a) (hi R d)))
def sameW (R : Row) (d a : Nat) : Row := setR (setR R d (tI (mx (lo R d) (lo R a)) (mn (hi R d) (hi R a)))) a (tI (mx (lo R d) (lo R a)) (mn (hi R d) (hi R a)))
/-- a word's judgement: reason, the row behind it, does it flow on -/
def wFo (op : Nat) (A : AF) (p i : Nat) (R : Row) (st : Int32) (w : Int32) : Int32 × Row × Bool :=
  match op with
  | 0 => if (R (wA w)).1 = 1 then (0, R, false) else (2, R, false)
  | 15 => (gF A p (wN w) R st, R, false)
  | 16 => if (R (wD w)).1 = 1 ∧ (R (wA w)).1 = 1 then
      (if wD w = wA w then (nxF A p i R st, R, true)
      else if lo R (wD w) < hi R (wA w) ∧ ¬ gF A p (wN w) (lessW R (wD w) (wA w)) st = 0 then (gF A p (wN w) (lessW R (wD w) (wA w)) st, R, false)
      else if hi R (wD w) < lo R (wA w) then (0, R, false)
      else (nxF A p i (lessN R (wD w) (wA w)) st, lessN R (wD w) (wA w), true)) else (2, R, false)
  | 17 => if (R (wD w)).1 = 1 ∧ (R (wA w)).1 = 1 then
      (if ¬ mn (hi R (wD w)) (hi R (wA w)) < mx (lo R (wD w)) (lo R (wA w)) ∧ ¬ gF A p (wN w) (sameW R (wD w) (wA w)) st = 0 then (gF A p (wN w) (sameW R (wD w) (wA w)) st, R, false)
      else if wD w = wA w then (0, R, false)
      else (nxF A p i R st, R, true)) else (2, R, false)
  | 18 => if nF A p ≤ wN w ∨ ¬ st < n32 (wN w) then (8, R, false) else (cF A p i p (wN w) R st, R, false)
  | 19 => if nL A p ≤ wN w then (8, R, false) else (cF A p i (lP A (8 * p + wN w)) (lF A (8 * p + wN w)) R st, R, false)
  | 20 => if st = 0 then (11, R, false) else if meetsR R (oRow A (8 * p + st.toNatClampNeg)) then (0, R, false) else (10, R, false)
  | op => let q := wk op (wD w) (wA w) (wB w % 8) (n32 (wN w)) (wS w) (A 7 p) R
      if q.1 = 0 then (nxF A p i q.2 st, q.2, true) else (q.1, q.2, false)
def wF (A : AF) (p i : Nat) (R : Row) (st : Int32) (w : Int32) : Int32 × Row × Bool := wFo (wOp w) A p i R st w
theorem wF_0 {A : AF} {p i : Nat} {R : Row} {st w : Int32} (h : wOp w = 0) : wF A p i R st w = (if (R (wA w)).1 = 1 then (0, R, false) else (2, R, false)) := by
  show wFo (wOp w) A p i R st w = _
  rw [h]
  rfl
theorem wF_15 {A : AF} {p i : Nat} {R : Row} {st w : Int32} (h : wOp w = 15) : wF A p i R st w = ((gF A p (wN w) R st, R, false)) := by
  show wFo (wOp w) A p i R st w = _
  rw [h]
  rfl
theorem wF_16 {A : AF} {p i : Nat} {R : Row} {st w : Int32} (h : wOp w = 16) : wF A p i R st w = (if (R (wD w)).1 = 1 ∧ (R (wA w)).1 = 1 then
      (if wD w = wA w then (nxF A p i R st, R, true)
      else if lo R (wD w) < hi R (wA w) ∧ ¬ gF A p (wN w) (lessW R (wD w) (wA w)) st = 0 then (gF A p (wN w) (lessW R (wD w) (wA w)) st, R, false)
      else if hi R (wD w) < lo R (wA w) then (0, R, false)
      else (nxF A p i (lessN R (wD w) (wA w)) st, lessN R (wD w) (wA w), true)) else (2, R, false)) := by
  show wFo (wOp w) A p i R st w = _
  rw [h]
  rfl
theorem wF_17 {A : AF} {p i : Nat} {R : Row} {st w : Int32} (h : wOp w = 17) : wF A p i R st w = (if (R (wD w)).1 = 1 ∧ (R (wA w)).1 = 1 then
      (if ¬ mn (hi R (wD w)) (hi R (wA w)) < mx (lo R (wD w)) (lo R (wA w)) ∧ ¬ gF A p (wN w) (sameW R (wD w) (wA w)) st = 0 then (gF A p (wN w) (sameW R (wD w) (wA w)) st, R, false)
      else if wD w = wA w then (0, R, false)
      else (nxF A p i R st, R, true)) else (2, R, false)) := by
  show wFo (wOp w) A p i R st w = _
  rw [h]
  rfl
theorem wF_18 {A : AF} {p i : Nat} {R : Row} {st w : Int32} (h : wOp w = 18) : wF A p i R st w = (if nF A p ≤ wN w ∨ ¬ st < n32 (wN w) then (8, R, false) else (cF A p i p (wN w) R st, R, false)) := by
  show wFo (wOp w) A p i R st w = _
  rw [h]
  rfl
theorem wF_19 {A : AF} {p i : Nat} {R : Row} {st w : Int32} (h : wOp w = 19) : wF A p i R st w = (if nL A p ≤ wN w then (8, R, false) else (cF A p i (lP A (8 * p + wN w)) (lF A (8 * p + wN w)) R st, R, false)) := by
  show wFo (wOp w) A p i R st w = _
  rw [h]
  rfl
theorem wF_20 {A : AF} {p i : Nat} {R : Row} {st w : Int32} (h : wOp w = 20) : wF A p i R st w = (if st = 0 then (11, R, false) else if meetsR R (oRow A (8 * p + st.toNatClampNeg)) then (0, R, false) else (10, R, false)) := by
  show wFo (wOp w) A p i R st w = _
  rw [h]
  rfl
/-- the reference's arrays are well formed at program p -/
def WA (A : AF) (p : Nat) : Prop :=
  (A 8 p = n32 (nW A p) ∧ nW A p ≤ 200) ∧ (A 9 p = n32 (nF A p) ∧ 1 ≤ nF A p ∧ nF A p ≤ 8) ∧ (A 10 p = n32 (nL A p) ∧ nL A p ≤ 8) ∧ (A 7 p = n32 (nN A p) ∧ 1 ≤ nN A p ∧ nN A p ≤ 1024) ∧
  (∀ k, k < nW A p → okW (A 12 (200 * p + k))) ∧
  (∀ k, k < 200 → A 13 (200 * p + k) = -1 ∨ ∃ f, f < nF A p ∧ A 13 (200 * p + k) = n32 f ∧ k < nW A p) ∧
  (∀ k, k < 200 → okR (lRow A (200 * p + k))) ∧ (∀ f, f < 8 → okR (oRow A (8 * p + f))) ∧
  (∀ f, f < nF A p → A 17 (8 * p + f) = n32 (eN A (8 * p + f)) ∧ eN A (8 * p + f) < 200 ∧ (1 ≤ f → eN A (8 * p + f) < nW A p)) ∧
  (∀ k, k < nL A p → A 22 (8 * p + k) = n32 (lP A (8 * p + k)) ∧ A 23 (8 * p + k) = n32 (lF A (8 * p + k)) ∧ lP A (8 * p + k) < 24 ∧ A 6 (lP A (8 * p + k)) = 1 ∧ 1 ≤ lF A (8 * p + k) ∧ lF A (8 * p + k) < nF A (lP A (8 * p + k)) ∧ A 13 (200 * lP A (8 * p + k) + eN A (8 * lP A (8 * p + k) + lF A (8 * p + k))) = n32 (lF A (8 * p + k)) ∧ nN A (lP A (8 * p + k)) ≤ nN A p ∧ (A 18 (8 * lP A (8 * p + k) + lF A (8 * p + k))).toInt ≤ 32)
/-- the class's objects of program p are as the reference's arrays -/
def CP (Y : xW) (A : AF) (p : Nat) : Prop :=
  (fI Y (5, p, 0) 0 = A 7 p ∧ fI Y (5, p, 0) 5 = A 8 p ∧ fI Y (5, p, 0) 6 = A 9 p ∧ fI Y (5, p, 0) 7 = A 10 p ∧ fI Y (5, p, 0) 8 = A 6 p ∧ fI Y (5, p, 0) 9 = A 11 p) ∧
  (∀ k, k < nW A p → fA Y (5, p, 0) 1 k = A 12 (200 * p + k)) ∧
  (∀ k, k < 200 → (A 13 (200 * p + k) < 0 → fR Y (5, p, 0) 2 k = none) ∧ (¬ A 13 (200 * p + k) < 0 → fR Y (5, p, 0) 2 k = some (2, p, k) ∧ fI Y (2, p, k) 1 = A 13 (200 * p + k) ∧ rq (gRow Y (22, p, k)) (lRow A (200 * p + k)))) ∧
  (∀ f, f < nF A p → fR Y (5, p, 0) 3 f = some (0, p, f) ∧ fI Y (0, p, f) 0 = A 17 (8 * p + f) ∧ fI Y (0, p, f) 2 = A 18 (8 * p + f) ∧ ∀ r, r < 8 → gRow Y (20, p, f) r = oRow A (8 * p + f) r) ∧
  (∀ k, k < nL A p → fR Y (5, p, 0) 4 k = some (3, p, k) ∧ fI Y (3, p, k) 0 = A 22 (8 * p + k) ∧ fR Y (3, p, k) 1 0 = some (0, lP A (8 * p + k), lF A (8 * p + k)) ∧ fR Y (3, p, k) 2 0 = some (2, lP A (8 * p + k), eN A (8 * lP A (8 * p + k) + lF A (8 * p + k))))
/-- nothing but the judge has changed -/
def JF (Y Y' : xW) : Prop := (∀ u k, u ≠ (1, 0, 0) → fI Y' u k = fI Y u k) ∧ (∀ u k i, u.1 ≠ 23 → fA Y' u k i = fA Y u k i) ∧ (∀ u k i, fL Y' u k i = fL Y u k i) ∧ (∀ u k i, fR Y' u k i = fR Y u k i) ∧ fC Y' = fC Y
theorem JF_r (Y : xW) : JF Y Y := ⟨fun _ _ _ => rfl, fun _ _ _ _ => rfl, fun _ _ _ => rfl, fun _ _ _ => rfl, rfl⟩
theorem JF_t {Y Y1 Y2 : xW} (h1 : JF Y Y1) (h2 : JF Y1 Y2) : JF Y Y2 :=
  ⟨fun u k hu => (h2.1 u k hu).trans (h1.1 u k hu), fun u k i hu => (h2.2.1 u k i hu).trans (h1.2.1 u k i hu), fun u k i => (h2.2.2.1 u k i).trans (h1.2.2.1 u k i), fun u k i => (h2.2.2.2.1 u k i).trans (h1.2.2.2.1 u k i), h2.2.2.2.2.trans h1.2.2.2.2⟩
theorem JF_row {Y Y1 : xW} {i : Nat} {R : Row} (h : rTo Y Y1 (23, 0, i) R) : JF Y Y1 := ⟨fun u k _ => h.1 u k, fun u k j hu => h.2.1 u k j (fun e => hu (by rw [e])), h.2.2.1, h.2.2.2.1, h.2.2.2.2.1⟩
theorem JF_uI (Y : xW) (k : Nat) (v : Int32) : JF Y (uI Y (1, 0, 0) k v) := ⟨fun u k' hu => by rw [fI_uI, if_neg (fun z => hu z.1)], fun _ _ _ _ => rfl, fun _ _ _ => rfl, fun _ _ _ => rfl, rfl⟩
theorem gRow_c {Y Y' : xW} {t : xT} (h : ∀ k i, fA Y' t k i = fA Y t k i) : gRow Y' t = gRow Y t := by
  funext r
  show (_, _, _) = (_, _, _)
  rw [h, h, h]
theorem CP_c {Y Y' : xW} {A : AF} {p : Nat} (hi : ∀ (u : xT) k, (u.1 = 5 ∨ u.1 = 2 ∨ u.1 = 0 ∨ u.1 = 3) → fI Y' u k = fI Y u k) (ha : ∀ (u : xT) k i, (u.1 = 5 ∨ u.1 = 22 ∨ u.1 = 20) → fA Y' u k i = fA Y u k i) (hr : ∀ (u : xT) k i, (u.1 = 5 ∨ u.1 = 3) → fR Y' u k i = fR Y u k i) (h : CP Y A p) : CP Y' A p := by
  obtain ⟨⟨a0, a1, a2, a3, a4, a5⟩, b, c, d, e⟩ := h
  refine ⟨⟨?_, ?_, ?_, ?_, ?_, ?_⟩, ?_, ?_, ?_, ?_⟩
  · rw [hi _ _ (.inl rfl)]; exact a0
  · rw [hi _ _ (.inl rfl)]; exact a1
  · rw [hi _ _ (.inl rfl)]; exact a2
  · rw [hi _ _ (.inl rfl)]; exact a3
  · rw [hi _ _ (.inl rfl)]; exact a4
  · rw [hi _ _ (.inl rfl)]; exact a5
  · intro k hk; rw [ha _ _ _ (.inl rfl)]; exact b k hk
  · intro k hk
    rw [hr _ _ _ (.inl rfl), hi _ _ (.inr (.inl rfl)), gRow_c (Y' := Y') (Y := Y) (fun k' i => ha _ k' i (.inr (.inl rfl)))]
    exact c k hk
  · intro f hf
    rw [hr _ _ _ (.inl rfl), hi _ _ (.inr (.inr (.inl rfl))), hi _ _ (.inr (.inr (.inl rfl))), gRow_c (Y' := Y') (Y := Y) (fun k' i => ha _ k' i (.inr (.inr rfl)))]
    exact d f hf
  · intro k hk
    rw [hr _ _ _ (.inl rfl), hr _ _ _ (.inr rfl), hr _ _ _ (.inr rfl), hi _ _ (.inr (.inr (.inr rfl)))]
    exact e k hk
theorem CP_J {Y Y' : xW} {A : AF} {p : Nat} (j : JF Y Y') (h : CP Y A p) : CP Y' A p :=
  CP_c (fun u k hu => j.1 u k (fun e => by rw [e] at hu; simp at hu)) (fun u k i hu => j.2.1 u k i (fun e => by rw [e] at hu; simp at hu)) (fun u k i _ => j.2.2.2.1 u k i) h
theorem meets_rq {a b b' : Row} (h : rq b b') : meetsR a b ↔ meetsR a b' := by
  constructor
  · intro m r hr hb
    have e := (h r hr).2 hb
    have := m r hr (by rw [e]; exact hb)
    rw [e] at this
    exact this
  · intro m r hr hb
    have e1 := (h r hr).1
    have hb' : (b' r).1 ≠ 0 := by rw [← e1]; exact hb
    rw [(h r hr).2 hb']
    exact m r hr hb'
theorem meets_c {a a' b b' : Row} (ha : ∀ r, r < 8 → a r = a' r) (hb : ∀ r, r < 8 → b r = b' r) : meetsR a b ↔ meetsR a' b' := by
  constructor
  · intro m r hr h
    rw [← ha r hr, ← hb r hr] at *
    exact m r hr h
  · intro m r hr h
    rw [ha r hr, hb r hr] at *
    exact m r hr h
