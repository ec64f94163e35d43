/-! one step of a process: the reference -/
def MS (Y Y' : xW) (A : AF) (q : Nat) : Prop :=
  (∀ u k, fI Y' u k = fI Y u k) ∧ (∀ u k j, ¬ (u = xM ∧ ((k = 38 ∨ k = 39 ∨ k = 41) ∧ j = q ∨ k = 45 ∧ 8 * q ≤ j ∧ j < 8 * q + 8 ∨ (k = 47 ∨ k = 48) ∧ j = 40 * q + cN A q ∧ efC A q = cN A q + 1 ∨ k = 50)) → fA Y' u k j = fA Y u k j) ∧
  (fA Y' xM 38 q = n32 (efP A q) ∧ fA Y' xM 39 q = n32 (efI A q) ∧ fA Y' xM 41 q = n32 (efC A q)) ∧ (∀ r, r < 8 → fA Y' xM 45 (8 * q + r) = efF A q r) ∧
  (∀ j, j < efC A q → fA Y' xM 47 (40 * q + j) = if j = cN A q then n32 (pP A q) else A 47 (40 * q + j)) ∧ (∀ j, j < efC A q → fA Y' xM 48 (40 * q + j) = if j = cN A q then n32 (pI A q + 1) else A 48 (40 * q + j)) ∧
  (∀ k, fA Y' xM 50 k = efM A q k) ∧ (∀ u k j, fL Y' u k j = fL Y u k j) ∧ (∀ u k j, fR Y' u k j = fR Y u k j) ∧ fC Y' = fC Y
def MB (Y : xW) (A : AF) (q b : Nat) : Prop :=
  q < 300 ∧ (∀ k j, k ≠ 40 → fA Y xM k j = A k j) ∧ (A 38 q = n32 (pP A q) ∧ A 39 q = n32 (pI A q) ∧ A 41 q = n32 (cN A q)) ∧ (A 42 q = n32 b ∧ b + sz A q ≤ 4096) ∧ (cN A q ≤ 40 ∧ pP A q < 24 ∧ pI A q < 200) ∧
  ∀ j, j < cN A q → ∃ x y, x < 24 ∧ y < 200 ∧ A 47 (40 * q + j) = n32 x ∧ A 48 (40 * q + j) = n32 y
section MO
variable {V : xV} {g : xG} {Y : xW} {A : AF} {q b : Nat}
theorem MS_stay {Yb : xW} (C : MB Y A q b) (e1 : ∀ u k, fI Yb u k = fI Y u k) (e2 : ∀ u k j, ¬ (u = xM ∧ (k = 39 ∧ j = q ∨ k = 45 ∧ 8 * q ≤ j ∧ j < 8 * q + 8 ∨ k = 50)) → fA Yb u k j = fA Y u k j) (e3 : ∀ r, r < 8 → fA Yb xM 45 (8 * q + r) = efF A q r) (e4 : ∀ k, fA Yb xM 50 k = efM A q k) (e39 : fA Yb xM 39 q = n32 (efI A q)) (e5 : ∀ u k j, fL Yb u k j = fL Y u k j) (e6 : ∀ u k j, fR Yb u k j = fR Y u k j) (e7 : fC Yb = fC Y) (eP : efP A q = pP A q) (eC : efC A q = cN A q) : MS Y Yb A q := by
  obtain ⟨hq, hA, ⟨c38, c39, c41⟩, hb, hz, hf⟩ := C
  refine ⟨e1, fun u k j hu => e2 u k j (fun z => hu ⟨z.1, ?_⟩), ⟨?_, e39, ?_⟩, e3, fun j hj => ?_, fun j hj => ?_, e4, e5, e6, e7⟩
  · rcases z.2 with y | y | y
    · exact .inl ⟨.inr (.inl y.1), y.2⟩
    · exact .inr (.inl y)
    · exact .inr (.inr (.inr y))
  · rw [e2 _ _ _ (by simp), hA 38 q (by omega), c38, eP]
  · rw [e2 _ _ _ (by simp), hA 41 q (by omega), c41, eC]
  · rw [eC] at hj
    rw [e2 _ _ _ (by simp), hA 47 _ (by omega), if_neg (by omega)]
  · rw [eC] at hj
    rw [e2 _ _ _ (by simp), hA 48 _ (by omega), if_neg (by omega)]
theorem MS_set {v : Int32} {d : Nat} {x : Int32} (C : MB Y A q b) (d8 : d < 8) (e : efF A q = upF (rg A q) d v) (n14 : ¬ wOp (eW A q) = 14) (eP : efP A q = pP A q) (eC : efC A q = cN A q) (ex : x = n32 (efI A q)) : MS Y (uA (uA Y xM 39 q x) xM 45 (8 * q + d) v) A q := by
  have hA := C.2.1
  refine MS_stay C (fun _ _ => rfl) (fun u k j hu => ?_) (fun r hr => ?_) (fun k => ?_) ?_ (fun _ _ _ => rfl) (fun _ _ _ => rfl) rfl eP eC
  · rw [fA_uA, if_neg (fun z => hu ⟨z.1, .inr (.inl ⟨z.2.1, by omega, by omega⟩)⟩), fA_uA, if_neg (fun z => hu ⟨z.1, .inl z.2⟩)]
  · rw [fA_uA, e]
    unfold upF
    by_cases c : r = d
    · rw [if_pos ⟨rfl, rfl, by omega⟩, if_pos c]
    · rw [if_neg (fun z => by omega), if_neg c, fA_uA, if_neg (by simp)]
      exact hA 45 _ (by omega)
  · rw [fA_uA, if_neg (by simp), fA_uA, if_neg (by simp), efM_no n14]
    exact hA 50 k (by omega)
  · rw [fA_uA, if_neg (by simp), fA_uA, if_pos ⟨rfl, rfl, rfl⟩]
    exact ex
theorem MS_on {x : Int32} (C : MB Y A q b) (e : efF A q = rg A q) (n14 : ¬ wOp (eW A q) = 14) (eP : efP A q = pP A q) (eC : efC A q = cN A q) (ex : x = n32 (efI A q)) : MS Y (uA Y xM 39 q x) A q := by
  have hA := C.2.1
  refine MS_stay C (fun _ _ => rfl) (fun u k j hu => ?_) (fun r hr => ?_) (fun k => ?_) ?_ (fun _ _ _ => rfl) (fun _ _ _ => rfl) rfl eP eC
  · rw [fA_uA, if_neg (fun z => hu ⟨z.1, .inl z.2⟩)]
  · rw [fA_uA, if_neg (by simp), e]
    exact hA 45 _ (by omega)
  · rw [fA_uA, if_neg (by simp), efM_no n14]
    exact hA 50 k (by omega)
  · rw [fA_uA, if_pos ⟨rfl, rfl, rfl⟩]
    exact ex
/-- the place is set twice -/
theorem MS_jp {x y : Int32} (C : MB Y A q b) (e : efF A q = rg A q) (n14 : ¬ wOp (eW A q) = 14) (eP : efP A q = pP A q) (eC : efC A q = cN A q) (ex : x = n32 (efI A q)) : MS Y (uA (uA Y xM 39 q y) xM 39 q x) A q := by
  have hA := C.2.1
  refine MS_stay C (fun _ _ => rfl) (fun u k j hu => ?_) (fun r hr => ?_) (fun k => ?_) ?_ (fun _ _ _ => rfl) (fun _ _ _ => rfl) rfl eP eC
  · rw [fA_uA, if_neg (fun z => hu ⟨z.1, .inl z.2⟩), fA_uA, if_neg (fun z => hu ⟨z.1, .inl z.2⟩)]
  · rw [fA_uA, if_neg (by simp), fA_uA, if_neg (by simp), e]
    exact hA 45 _ (by omega)
  · rw [fA_uA, if_neg (by simp), fA_uA, if_neg (by simp), efM_no n14]
    exact hA 50 k (by omega)
  · rw [fA_uA, if_pos ⟨rfl, rfl, rfl⟩]
    exact ex
theorem s_169 {Q : xW → Prop} {l2 l3 : Int32} (hq : q < 300) (H : Q (uA (uA Y xM 38 q l2) xM 39 q l3)) : L_169_0 V g Y (n32 q) l2 l3 Q := by
  have iq := n_in hq (show 300 ≤ 2147483648 by omega)
  refine l_169_0 ⟨iq, fun Y1 e1 => ⟨iq, fun Y2 e2 => ?_⟩⟩
  rw [n_nat (by omega)] at e1 e2
  rw [e2, e1]
  exact H
theorem MS_call {x y : Int32} (C : MB Y A q b) (c40 : cN A q < 40) (e : efF A q = rg A q) (n14 : ¬ wOp (eW A q) = 14) (eC : efC A q = cN A q + 1) (eP : x = n32 (efP A q)) (eI : y = n32 (efI A q)) (v : Int32) : MS Y (uA (uA (uA (uA (uA (uA Y xM 39 q v) xM 47 (40 * q + cN A q) (n32 (pP A q))) xM 48 (40 * q + cN A q) (n32 (pI A q + 1))) xM 41 q (n32 (cN A q + 1))) xM 38 q x) xM 39 q y) A q := by
  have hA := C.2.1
  refine ⟨fun _ _ => rfl, fun u k j hu => ?_, ⟨?_, ?_, ?_⟩, fun r hr => ?_, fun j hj => ?_, fun j hj => ?_, fun k => ?_, fun _ _ _ => rfl, fun _ _ _ => rfl, rfl⟩
  · rw [fA_uA, if_neg (fun z => hu ⟨z.1, .inl ⟨.inr (.inl z.2.1), z.2.2⟩⟩), fA_uA, if_neg (fun z => hu ⟨z.1, .inl ⟨.inl z.2.1, z.2.2⟩⟩), fA_uA, if_neg (fun z => hu ⟨z.1, .inl ⟨.inr (.inr z.2.1), z.2.2⟩⟩), fA_uA, if_neg (fun z => hu ⟨z.1, .inr (.inr (.inl ⟨.inr z.2.1, z.2.2, eC⟩))⟩), fA_uA, if_neg (fun z => hu ⟨z.1, .inr (.inr (.inl ⟨.inl z.2.1, z.2.2, eC⟩))⟩), fA_uA, if_neg (fun z => hu ⟨z.1, .inl ⟨.inr (.inl z.2.1), z.2.2⟩⟩)]
  · rw [fA_uA, if_neg (by simp), fA_uA, if_pos ⟨rfl, rfl, rfl⟩]; exact eP
  · rw [fA_uA, if_pos ⟨rfl, rfl, rfl⟩]; exact eI
  · rw [fA_uA, if_neg (by simp), fA_uA, if_neg (by simp), fA_uA, if_pos ⟨rfl, rfl, rfl⟩, eC]
  · rw [fA_uA, if_neg (by simp), fA_uA, if_neg (by simp), fA_uA, if_neg (by simp), fA_uA, if_neg (by simp), fA_uA, if_neg (by simp), fA_uA, if_neg (by simp), e]
    exact hA 45 _ (by omega)
  · rw [fA_uA, if_neg (by simp), fA_uA, if_neg (by simp), fA_uA, if_neg (by simp), fA_uA, if_neg (by simp), fA_uA]
    by_cases c : j = cN A q
    · rw [if_pos ⟨rfl, rfl, by omega⟩, if_pos c]
    · rw [if_neg (fun z => by omega), if_neg c, fA_uA, if_neg (by simp)]
      exact hA 47 _ (by omega)
  · rw [fA_uA, if_neg (by simp), fA_uA, if_neg (by simp), fA_uA, if_neg (by simp), fA_uA]
    by_cases c : j = cN A q
    · rw [if_pos ⟨rfl, rfl, by omega⟩, if_pos c]
    · rw [if_neg (fun z => by omega), if_neg c, fA_uA, if_neg (by simp), fA_uA, if_neg (by simp)]
      exact hA 48 _ (by omega)
  · rw [fA_uA, if_neg (by simp), fA_uA, if_neg (by simp), fA_uA, if_neg (by simp), fA_uA, if_neg (by simp), fA_uA, if_neg (by simp), fA_uA, if_neg (by simp), efM_no n14]
    exact hA 50 k (by omega)
theorem MS_ret {x y : Int32} (C : MB Y A q b) (e : efF A q = rg A q) (n14 : ¬ wOp (eW A q) = 14) (eC : efC A q = cN A q - 1) (eP : x = n32 (efP A q)) (eI : y = n32 (efI A q)) (v : Int32) : MS Y (uA (uA (uA (uA Y xM 39 q v) xM 41 q (n32 (cN A q - 1))) xM 38 q x) xM 39 q y) A q := by
  have hA := C.2.1
  refine ⟨fun _ _ => rfl, fun u k j hu => ?_, ⟨?_, ?_, ?_⟩, fun r hr => ?_, fun j hj => ?_, fun j hj => ?_, fun k => ?_, fun _ _ _ => rfl, fun _ _ _ => rfl, rfl⟩
  · rw [fA_uA, if_neg (fun z => hu ⟨z.1, .inl ⟨.inr (.inl z.2.1), z.2.2⟩⟩), fA_uA, if_neg (fun z => hu ⟨z.1, .inl ⟨.inl z.2.1, z.2.2⟩⟩), fA_uA, if_neg (fun z => hu ⟨z.1, .inl ⟨.inr (.inr z.2.1), z.2.2⟩⟩), fA_uA, if_neg (fun z => hu ⟨z.1, .inl ⟨.inr (.inl z.2.1), z.2.2⟩⟩)]
  · rw [fA_uA, if_neg (by simp), fA_uA, if_pos ⟨rfl, rfl, rfl⟩]; exact eP
  · rw [fA_uA, if_pos ⟨rfl, rfl, rfl⟩]; exact eI
  · rw [fA_uA, if_neg (by simp), fA_uA, if_neg (by simp), fA_uA, if_pos ⟨rfl, rfl, rfl⟩, eC]
  · rw [fA_uA, if_neg (by simp), fA_uA, if_neg (by simp), fA_uA, if_neg (by simp), fA_uA, if_neg (by simp), e]
    exact hA 45 _ (by omega)
  · rw [eC] at hj
    rw [fA_uA, if_neg (by simp), fA_uA, if_neg (by simp), fA_uA, if_neg (by simp), fA_uA, if_neg (by simp), if_neg (by omega)]
    exact hA 47 _ (by omega)
  · rw [eC] at hj
    rw [fA_uA, if_neg (by simp), fA_uA, if_neg (by simp), fA_uA, if_neg (by simp), fA_uA, if_neg (by simp), if_neg (by omega)]
    exact hA 48 _ (by omega)
  · rw [fA_uA, if_neg (by simp), fA_uA, if_neg (by simp), fA_uA, if_neg (by simp), fA_uA, if_neg (by simp), efM_no n14]
    exact hA 50 k (by omega)
end MO
/-- what a step leaves of the reference's array k at j, where v was -/
def mA (A : AF) (q k j : Nat) (v : Int32) : Int32 :=
  if k = 38 ∧ j = q then n32 (efP A q) else if k = 39 ∧ j = q then n32 (efI A q) else if k = 41 ∧ j = q then n32 (efC A q) else if k = 45 ∧ 8 * q ≤ j ∧ j < 8 * q + 8 then efF A q (j - 8 * q)
  else if k = 47 ∧ j = 40 * q + cN A q ∧ efC A q = cN A q + 1 then n32 (pP A q) else if k = 48 ∧ j = 40 * q + cN A q ∧ efC A q = cN A q + 1 then n32 (pI A q + 1) else if k = 50 then efM A q j else v
theorem MS_full {Y Y' : xW} {A : AF} {q : Nat} (h : MS Y Y' A q) (k j : Nat) : fA Y' xM k j = mA A q k j (fA Y xM k j) := by
  obtain ⟨m1, m2, ⟨m38, m39, m41⟩, m45, m47, m48, m50, _⟩ := h
  unfold mA
  by_cases c1 : k = 38 ∧ j = q
  · rw [if_pos c1, c1.1, c1.2]; exact m38
  rw [if_neg c1]
  by_cases c2 : k = 39 ∧ j = q
  · rw [if_pos c2, c2.1, c2.2]; exact m39
  rw [if_neg c2]
  by_cases c3 : k = 41 ∧ j = q
  · rw [if_pos c3, c3.1, c3.2]; exact m41
  rw [if_neg c3]
  by_cases c4 : k = 45 ∧ 8 * q ≤ j ∧ j < 8 * q + 8
  · rw [if_pos c4, c4.1, ← m45 (j - 8 * q) (by omega), show 8 * q + (j - 8 * q) = j from by omega]
  rw [if_neg c4]
  by_cases c5 : k = 47 ∧ j = 40 * q + cN A q ∧ efC A q = cN A q + 1
  · rw [if_pos c5, c5.1, c5.2.1, m47 _ (by omega), if_pos rfl]
  rw [if_neg c5]
  by_cases c6 : k = 48 ∧ j = 40 * q + cN A q ∧ efC A q = cN A q + 1
  · rw [if_pos c6, c6.1, c6.2.1, m48 _ (by omega), if_pos rfl]
  rw [if_neg c6]
  by_cases c7 : k = 50
  · rw [if_pos c7, c7]; exact m50 j
  rw [if_neg c7]
  exact m2 xM k j (fun z => by omega)
