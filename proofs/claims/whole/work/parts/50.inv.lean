/-! the invariant: the class's objects against the reference's numbers -/
def PP (g : xG) (Y : xW) (A : AF) (p : Nat) : Prop :=
  fR Y (9, 0, 0) 0 p = some (5, p, 0) ∧ CP Y A p ∧ WA A p ∧ (∀ k, k < nL A p → lP A (8 * p + k) ≠ p) ∧
  (A 6 p = 1 → ACC A p ∧ DEP A p) ∧ (¬ A 6 p = 1 → ∀ f, f < 8 → A 18 (8 * p + f) = 0) ∧
  (∀ f, nF A p ≤ f → f < 8 → A 18 (8 * p + f) = 0 ∧ g.1 (0, p, f) = false ∧ g.1 (20, p, f) = false ∧ ∀ r, r < 8 → oRow A (8 * p + f) r = (0, 0, 0)) ∧
  (∀ k, nL A p ≤ k → k < 8 → g.1 (3, p, k) = false) ∧ (∀ k, k < 200 → A 13 (200 * p + k) < 0 → g.1 (2, p, k) = false ∧ g.1 (22, p, k) = false)
def FP (g : xG) (A : AF) (p : Nat) : Prop :=
  g.1 (5, p, 0) = false ∧ (∀ f, f < 8 → g.1 (0, p, f) = false ∧ g.1 (20, p, f) = false) ∧ (∀ k, k < 8 → g.1 (3, p, k) = false) ∧ (∀ k, k < 200 → g.1 (2, p, k) = false ∧ g.1 (22, p, k) = false) ∧
  A 6 p = 0 ∧ A 8 p = 0 ∧ A 10 p = 0 ∧ (∀ f, f < 8 → A 17 (8 * p + f) = 0 ∧ A 18 (8 * p + f) = 0 ∧ ∀ r, r < 8 → oRow A (8 * p + f) r = (0, 0, 0)) ∧ (∀ k, k < 200 → ∀ r, r < 8 → lRow A (200 * p + k) r = (0, 0, 0))
def IP (g : xG) (Y : xW) (P N : Nat) : Prop :=
  (P ≤ 24 ∧ N ≤ 2000) ∧ (fI Y xM 3 = n32 P ∧ fI Y (9, 0, 0) 1 = n32 P ∧ fI Y xM 4 = n32 N ∧ fI Y (9, 0, 0) 3 = n32 N) ∧
  ((fI Y xM 5 = -1 ∧ fR Y (9, 0, 0) 2 0 = none) ∨ ∃ o, o < P ∧ fI Y xM 5 = n32 o ∧ fR Y (9, 0, 0) 2 0 = some (5, o, 0) ∧ ¬ fA Y xM 6 o = 1) ∧
  (∀ p, p < P → PP g Y (fA Y xM) p) ∧ (∀ p, P ≤ p → p < 24 → FP g (fA Y xM) p) ∧ (∀ k, k < 21 → fA Y xM 0 k = xparts k ∧ fA Y xM 1 k = rdL k)
def fitT (x : Int32 × Int32 × Int32) (v : Int32) : Prop := x.1 ≠ 0 → x.2.1 ≤ v ∧ v ≤ x.2.2
def fitR (R : Row) (F : Nat → Int32) : Prop := ∀ r, r < 8 → fitT (R r) (F r)
def cN (A : AF) (q : Nat) : Nat := (A 41 q).toNatClampNeg
def plP (A : AF) (q j : Nat) : Nat := if j = cN A q then (A 38 q).toNatClampNeg else (A 47 (40 * q + j)).toNatClampNeg
def plI (A : AF) (q j : Nat) : Nat := if j = cN A q then (A 39 q).toNatClampNeg else (A 48 (40 * q + j)).toNatClampNeg
def sz (A : AF) (q : Nat) : Nat := (A 43 q).toNatClampNeg
/-- function in which a place stands -/
def fnA (A : AF) (q j : Nat) : Nat := (rwS A (plP A q j) (plI A q j)).toNatClampNeg
/-- a process that is READY stays within what verify has proved -/
def SND (A : AF) (q : Nat) : Prop :=
  (A 38 q = n32 (plP A q (cN A q)) ∧ A 39 q = n32 (plI A q (cN A q)) ∧ A 41 q = n32 (cN A q) ∧ cN A q ≤ 40 ∧ A 43 q = n32 (sz A q) ∧ sz A q ≤ 4096) ∧
  (∀ j, j < cN A q → A 47 (40 * q + j) = n32 (plP A q j) ∧ A 48 (40 * q + j) = n32 (plI A q j)) ∧
  (∀ j, j ≤ cN A q → plP A q j < 24 ∧ A 6 (plP A q j) = 1 ∧ plI A q j < nW A (plP A q j) ∧ nN A (plP A q j) ≤ sz A q ∧ (A 18 (8 * plP A q j + fnA A q j)).toInt + j ≤ 40) ∧
  rwS A (plP A q 0) (plI A q 0) = 0 ∧
  (∀ j, j < cN A q → ¬ A 13 (200 * plP A q j + plI A q j) < 0 ∧ ¬ rwS A (plP A q (j + 1)) (plI A q (j + 1)) = 0 ∧ meetsR (oRow A (8 * plP A q (j + 1) + fnA A q (j + 1))) (lRow A (200 * plP A q j + plI A q j))) ∧
  fitR (rwR A (plP A q (cN A q)) (plI A q (cN A q))) (fun r => A 45 (8 * q + r))
def CQ (Y : xW) (A : AF) (q : Nat) : Prop :=
  fR Y (9, 0, 0) 5 q = some (4, q, 0) ∧ (fI Y (4, q, 0) 0 = A 37 q ∧ fI Y (4, q, 0) 1 = A 43 q ∧ fI Y (4, q, 0) 4 = A 41 q ∧ fI Y (4, q, 0) 5 = A 38 q ∧ fI Y (4, q, 0) 6 = A 39 q ∧ fI Y (4, q, 0) 7 = A 42 q ∧ fI Y (4, q, 0) 8 = A 36 q ∧ fI Y (4, q, 0) 9 = A 40 q ∧ fI Y (4, q, 0) 10 = A 44 q) ∧
  fL Y (4, q, 0) 11 0 = fL Y xM 46 q ∧ (∀ r, r < 8 → fA Y (4, q, 0) 2 r = A 45 (8 * q + r)) ∧ (∀ j, j < cN A q → j < 40 ∧ fA Y (4, q, 0) 3 j = 1000 * A 47 (40 * q + j) + A 48 (40 * q + j))
def rB (Y : xW) (i : Nat) : Nat := (fA Y (7, 0, 0) 1 i).toNatClampNeg
def rS (Y : xW) (i : Nat) : Nat := (fA Y (7, 0, 0) 2 i).toNatClampNeg
def ST (Y : xW) (A : AF) (K : Nat) : Prop :=
  fI Y (7, 0, 0) 3 = n32 K ∧ (∀ k, k < 4096 → fA Y (7, 0, 0) 0 k = A 50 k) ∧
  (∀ i, i < K → fA Y (7, 0, 0) 1 i = n32 (rB Y i) ∧ fA Y (7, 0, 0) 2 i = n32 (rS Y i) ∧ 1 ≤ rS Y i ∧ rB Y i + rS Y i ≤ 4096) ∧ (∀ i, i + 1 < K → rB Y i + rS Y i ≤ rB Y (i + 1)) ∧
  (∀ k, k < 4096 → A 51 k = 0 ∨ A 51 k = 1) ∧ (∀ k, k < 4096 → (A 51 k = 1 ↔ ∃ i, i < K ∧ rB Y i ≤ k ∧ k < rB Y i + rS Y i))
def IQ (g : xG) (Y : xW) (S K hd : Nat) : Prop :=
  (S ≤ 300 ∧ K ≤ 40 ∧ hd < 40) ∧
  (fI Y xM 31 = n32 S ∧ fI Y (9, 0, 0) 6 = n32 S ∧ fI Y xM 32 = n32 K ∧ fI Y (6, 0, 0) 2 = n32 K ∧ fI Y (6, 0, 0) 1 = n32 hd ∧ fI Y (9, 0, 0) 10 = fI Y xM 33 ∧ fI Y (9, 0, 0) 11 = fI Y xM 34 ∧ fI Y (9, 0, 0) 9 = fI Y xM 35) ∧
  (∀ i, i < K → fA Y (6, 0, 0) 0 ((hd + i) % 40) = fA Y xM 49 i) ∧
  ((∀ i, i < K → ∃ q, q < S ∧ fA Y xM 49 i = n32 q ∧ fA Y xM 36 q = 0) ∧ (∀ i j, i < K → j < K → fA Y xM 49 i = fA Y xM 49 j → i = j) ∧ (∀ q, q < S → fA Y xM 36 q = 0 → ∃ i, i < K ∧ fA Y xM 49 i = n32 q)) ∧
  (∀ q, q < S → CQ Y (fA Y xM) q) ∧
  (∀ q, S ≤ q → q < 300 → g.1 (4, q, 0) = false ∧ fA Y xM 36 q = 0 ∧ fA Y xM 39 q = 0 ∧ fA Y xM 40 q = 0 ∧ fA Y xM 41 q = 0 ∧ fA Y xM 44 q = 0 ∧ (∀ r, r < 8 → fA Y xM 45 (8 * q + r) = 0) ∧ fL Y xM 46 q = 0) ∧
  ST Y (fA Y xM) K ∧
  (∀ q, q < S → fA Y xM 36 q = 0 → SND (fA Y xM) q ∧ ∃ i, i < K ∧ fA Y xM 42 q = fA Y (7, 0, 0) 1 i ∧ fA Y xM 43 q = fA Y (7, 0, 0) 2 i) ∧
  (∀ q q', q < S → q' < S → fA Y xM 36 q = 0 → fA Y xM 36 q' = 0 → fA Y xM 42 q = fA Y xM 42 q' → q = q')
def Inv (g : xG) (Y : xW) : Prop := (∃ P N, IP g Y P N) ∧ ∃ S K hd, IQ g Y S K hd
/-! keeping -/
theorem CP_cp {Y Y' : xW} {A : AF} {p : Nat} (hi : ∀ (u : xT) k, u.2.1 = p → (u.1 = 5 ∨ u.1 = 2 ∨ u.1 = 0 ∨ u.1 = 3) → fI Y' u k = fI Y u k) (ha : ∀ (u : xT) k i, u.2.1 = p → (u.1 = 5 ∨ u.1 = 22 ∨ u.1 = 20) → fA Y' u k i = fA Y u k i) (hr : ∀ (u : xT) k i, u.2.1 = p → (u.1 = 5 ∨ u.1 = 3) → fR Y' u k i = fR Y u k i) (h : CP Y A p) : CP Y' A p := by
  obtain ⟨⟨a0, a1, a2, a3, a4, a5⟩, b, c, d, e⟩ := h
  refine ⟨⟨?_, ?_, ?_, ?_, ?_, ?_⟩, ?_, ?_, ?_, ?_⟩
  · rw [hi _ _ rfl (.inl rfl)]; exact a0
  · rw [hi _ _ rfl (.inl rfl)]; exact a1
  · rw [hi _ _ rfl (.inl rfl)]; exact a2
  · rw [hi _ _ rfl (.inl rfl)]; exact a3
  · rw [hi _ _ rfl (.inl rfl)]; exact a4
  · rw [hi _ _ rfl (.inl rfl)]; exact a5
  · intro k hk; rw [ha _ _ _ rfl (.inl rfl)]; exact b k hk
  · intro k hk
    rw [hr _ _ _ rfl (.inl rfl), hi _ _ rfl (.inr (.inl rfl)), gRow_c (Y' := Y') (Y := Y) (fun k' i => ha _ k' i rfl (.inr (.inl rfl)))]
    exact c k hk
  · intro f hf
    rw [hr _ _ _ rfl (.inl rfl), hi _ _ rfl (.inr (.inr (.inl rfl))), hi _ _ rfl (.inr (.inr (.inl rfl))), gRow_c (Y' := Y') (Y := Y) (fun k' i => ha _ k' i rfl (.inr (.inr rfl)))]
    exact d f hf
  · intro k hk
    rw [hr _ _ _ rfl (.inl rfl), hr _ _ _ rfl (.inr rfl), hr _ _ _ rfl (.inr rfl), hi _ _ rfl (.inr (.inr (.inr rfl)))]
    exact e k hk
/-- a tag of a program's objects -/
def tP (u : xT) (p : Nat) : Prop := u.2.1 = p ∧ (u.1 = 5 ∨ u.1 = 2 ∨ u.1 = 22 ∨ u.1 = 0 ∨ u.1 = 20 ∨ u.1 = 3)
/-- class side: nothing of program p has changed -/
def KP (Y Y' : xW) (p : Nat) : Prop := (∀ u k, tP u p → fI Y' u k = fI Y u k) ∧ (∀ u k i, tP u p → fA Y' u k i = fA Y u k i) ∧ (∀ u k i, tP u p → fR Y' u k i = fR Y u k i) ∧ fR Y' (9, 0, 0) 0 p = fR Y (9, 0, 0) 0 p
theorem CP_K {Y Y' : xW} {A : AF} {p : Nat} (K : KP Y Y' p) (h : CP Y A p) : CP Y' A p :=
  CP_cp (fun u k h1 h2 => K.1 u k ⟨h1, by rcases h2 with h | h | h | h <;> simp [h]⟩) (fun u k i h1 h2 => K.2.1 u k i ⟨h1, by rcases h2 with h | h | h <;> simp [h]⟩) (fun u k i h1 h2 => K.2.2.1 u k i ⟨h1, by rcases h2 with h | h <;> simp [h]⟩) h
theorem PP_keep {g g' : xG} {Y Y' : xW} {A A' : AF} {p : Nat} (L : LOC A A' p) (K : KP Y Y' p) (G : ∀ u, tP u p → g.1 u = false → g'.1 u = false) (h : PP g Y A p) : PP g' Y' A' p := by
  obtain ⟨h1, h2, h3, h4, h5, h6, h7, h8, h9⟩ := h
  have E := L.1
  have l8 := h3.2.2.1.2
  refine ⟨K.2.2.2.trans h1, CP_loc h3 L (CP_K K h2), WA_loc h3 E L.2.1 L.2.2, ?_, ?_, ?_, ?_, ?_, ?_⟩
  · intro k hk
    rw [E_L E] at hk
    rw [E_lP E (by omega)]
    exact h4 k hk
  · intro z
    rw [E.1 6 (by omega) (by omega)] at z
    exact ⟨ACC_loc h3 L (h5 z).1, DEP_loc h3 L (h5 z).1 (h5 z).2⟩
  · intro z f hf
    rw [E.1 6 (by omega) (by omega)] at z
    rw [(E.2.2.2.1 f hf).2.1]
    exact h6 z f hf
  · intro f hf hf8
    rw [E_F E] at hf
    obtain ⟨z1, z2, z3, z4⟩ := h7 f hf hf8
    refine ⟨by rw [(E.2.2.2.1 f hf8).2.1]; exact z1, G _ ⟨rfl, by simp⟩ z2, G _ ⟨rfl, by simp⟩ z3, fun r hr => ?_⟩
    rw [E.2.2.2.2 f hf8 r hr]
    exact z4 r hr
  · intro k hk hk8
    rw [E_L E] at hk
    exact G _ ⟨rfl, by simp⟩ (h8 k hk hk8)
  · intro k hk z
    rw [(E.2.1 k hk).2] at z
    exact ⟨G _ ⟨rfl, by simp⟩ (h9 k hk z).1, G _ ⟨rfl, by simp⟩ (h9 k hk z).2⟩
theorem FP_keep {g g' : xG} {A A' : AF} {p : Nat} (E : EQP A A' p) (G : ∀ u, tP u p → g.1 u = false → g'.1 u = false) (h : FP g A p) : FP g' A' p := by
  obtain ⟨h1, h2, h3, h4, h5, h6, h7, h8, h9⟩ := h
  refine ⟨G _ ⟨rfl, by simp⟩ h1, fun f hf => ⟨G _ ⟨rfl, by simp⟩ (h2 f hf).1, G _ ⟨rfl, by simp⟩ (h2 f hf).2⟩, fun k hk => G _ ⟨rfl, by simp⟩ (h3 k hk), fun k hk => ⟨G _ ⟨rfl, by simp⟩ (h4 k hk).1, G _ ⟨rfl, by simp⟩ (h4 k hk).2⟩, by rw [E.1 6 (by omega) (by omega)]; exact h5, by rw [E.1 8 (by omega) (by omega)]; exact h6, by rw [E.1 10 (by omega) (by omega)]; exact h7, fun f hf => ?_, fun k hk r hr => ?_⟩
  · rw [(E.2.2.2.1 f hf).1, (E.2.2.2.1 f hf).2.1]
    refine ⟨(h8 f hf).1, (h8 f hf).2.1, fun r hr => ?_⟩
    rw [E.2.2.2.2 f hf r hr]
    exact (h8 f hf).2.2 r hr
  · rw [E.2.2.1 k hk r hr]
    exact h9 k hk r hr
/-- accepted programs are among the P -/
theorem acc_lt {g : xG} {Y : xW} {P N q : Nat} (I : IP g Y P N) (hq : q < 24) (h : fA Y xM 6 q = 1) : q < P := by
  apply Classical.byContradiction
  intro z
  have f := (I.2.2.2.2.1 q (by omega) hq).2.2.2.2.1
  rw [f] at h
  exact absurd h (by decide)
theorem IP_LOC {g : xG} {Y : xW} {P N p : Nat} {A' : AF} (I : IP g Y P N) (hp : p < P) (E : EQP (fA Y xM) A' p) (Eq : ∀ q, q < 24 → fA Y xM 6 q = 1 → EQP (fA Y xM) A' q) : LOC (fA Y xM) A' p := by
  have W := (I.2.2.2.1 p hp).2.2.1
  refine ⟨E, fun k hk => ?_, fun k hk => ?_⟩
  · obtain ⟨j1, j2, j3, j4, j5⟩ := W.2.2.2.2.2.2.2.2.2 k hk
    exact Eq _ j3 j4
  · obtain ⟨j1, j2, j3, j4, j5⟩ := W.2.2.2.2.2.2.2.2.2 k hk
    have Wq := (I.2.2.2.1 _ (acc_lt I j3 j4)).2.2.1
    exact ⟨Wq.2.1.2.2, fun f hf => (Wq.2.2.2.2.2.2.2.2.1 f hf).2.1⟩
/-- arrays 36 .. 49 and 51 are the same -/
def QE (A A' : AF) : Prop := ∀ k i, 36 ≤ k → A' k i = A k i
/-- a process's own numbers are the same -/
def QEq (A A' : AF) (q : Nat) : Prop := (A' 38 q = A 38 q ∧ A' 39 q = A 39 q ∧ A' 41 q = A 41 q ∧ A' 43 q = A 43 q) ∧ (∀ r, r < 8 → A' 45 (8 * q + r) = A 45 (8 * q + r)) ∧ ∀ j, j < 40 → A' 47 (40 * q + j) = A 47 (40 * q + j) ∧ A' 48 (40 * q + j) = A 48 (40 * q + j)
theorem SND_loc {A A' : AF} {q : Nat} (hq : QEq A A' q) (HL : ∀ p, p < 24 → A 6 p = 1 → LOC A A' p ∧ WA A p) (h : SND A q) : SND A' q := by
  obtain ⟨⟨k38, k39, k41, k43⟩, k45, k47⟩ := hq
  obtain ⟨⟨a1, a2, a3, a4, a5, a6⟩, b, c, d, e, f⟩ := h
  have e1 : cN A' q = cN A q := by unfold cN; rw [k41]
  have e2 : ∀ j, j ≤ cN A q → plP A' q j = plP A q j := fun j hj => by
    unfold plP
    rw [e1, k38]
    by_cases z : j = cN A q
    · rw [if_pos z, if_pos z]
    · rw [if_neg z, if_neg z, (k47 j (by omega)).1]
  have e3 : ∀ j, j ≤ cN A q → plI A' q j = plI A q j := fun j hj => by
    unfold plI
    rw [e1, k39]
    by_cases z : j = cN A q
    · rw [if_pos z, if_pos z]
    · rw [if_neg z, if_neg z, (k47 j (by omega)).2]
  have e4 : sz A' q = sz A q := by unfold sz; rw [k43]
  have fn : ∀ j, j ≤ cN A q → rwS A' (plP A q j) (plI A q j) = rwS A (plP A q j) (plI A q j) ∧ fnA A' q j = fnA A q j ∧ ∃ x, x < nF A (plP A q j) ∧ x < 8 ∧ fnA A q j = x := by
    intro j hj
    obtain ⟨c1, c2, c3, c4, c5⟩ := c j hj
    have hl := HL _ c1 c2
    have es := rwS_loc hl.2 hl.1 c3
    obtain ⟨x, hx, ex⟩ := rwS_ok hl.2 c3
    have x8 := hl.2.2.1.2.2
    refine ⟨es, by unfold fnA; rw [e2 j hj, e3 j hj, es], x, hx, by omega, ?_⟩
    unfold fnA
    rw [ex, n_nat (by omega)]
  refine ⟨?_, fun j hj => ?_, fun j hj => ?_, ?_, fun j hj => ?_, ?_⟩
  · rw [e1, e2 _ (Nat.le_refl _), e3 _ (Nat.le_refl _), e4, k38, k39, k41, k43]
    exact ⟨a1, a2, a3, a4, a5, a6⟩
  · rw [e1] at hj
    rw [e2 j (by omega), e3 j (by omega), (k47 j (by omega)).1, (k47 j (by omega)).2]
    exact b j hj
  · rw [e1] at hj
    obtain ⟨c1, c2, c3, c4, c5⟩ := c j hj
    have hl := HL _ c1 c2
    obtain ⟨f1, f2, x, hx, x8, ex⟩ := fn j hj
    rw [e2 j hj, e3 j hj, e4, f2, ex, hl.1.1.1 6 (by omega) (by omega), E_W hl.1.1, E_N hl.1.1, (hl.1.1.2.2.2.1 x x8).2.1]
    rw [ex] at c5
    exact ⟨c1, c2, c3, c4, c5⟩
  · rw [e2 0 (by omega), e3 0 (by omega), (fn 0 (by omega)).1]
    exact d
  · rw [e1] at hj
    obtain ⟨g1, g2, g3⟩ := e j hj
    obtain ⟨c1, c2, c3, c4, c5⟩ := c j (by omega)
    have hl := HL _ c1 c2
    have w2 := hl.2.1.2
    obtain ⟨d1, d2, d3, d4, d5⟩ := c (j + 1) (by omega)
    have hl' := HL _ d1 d2
    obtain ⟨f1, f2, x, hx, x8, ex⟩ := fn (j + 1) (by omega)
    rw [e2 j (by omega), e3 j (by omega), e2 (j + 1) (by omega), e3 (j + 1) (by omega), f1, f2, ex, (hl.1.1.2.1 _ (by omega)).2]
    rw [ex] at g3
    exact ⟨g1, g2, (meets_c (hl'.1.1.2.2.2.2 x x8) (hl.1.1.2.2.1 _ (by omega))).mpr g3⟩
  · rw [e1, e2 _ (Nat.le_refl _), e3 _ (Nat.le_refl _)]
    obtain ⟨c1, c2, c3, c4, c5⟩ := c (cN A q) (by omega)
    have hl := HL _ c1 c2
    have hr := rwR_loc hl.2 hl.1 c3
    intro r h8 nz
    show _ ≤ A' 45 (8 * q + r) ∧ A' 45 (8 * q + r) ≤ _
    rw [k45 r h8]
    have nz' : (rwR A (plP A q (cN A q)) (plI A q (cN A q)) r).1 ≠ 0 := by rw [← (hr r h8).1]; exact nz
    rw [(hr r h8).2 nz']
    exact f r h8 nz'
theorem QE_q {A A' : AF} (h : QE A A') (q : Nat) : QEq A A' q := ⟨⟨h 38 _ (by omega), h 39 _ (by omega), h 41 _ (by omega), h 43 _ (by omega)⟩, fun r _ => h 45 _ (by omega), fun j _ => ⟨h 47 _ (by omega), h 48 _ (by omega)⟩⟩
/-- class side: nothing of the processes has changed -/
def KQ (Y Y' : xW) : Prop := (∀ u k, (u.1 = 4 ∨ u = (6, 0, 0) ∨ u = (7, 0, 0)) → fI Y' u k = fI Y u k) ∧ (∀ k, (k = 6 ∨ k = 9 ∨ k = 10 ∨ k = 11) → fI Y' (9, 0, 0) k = fI Y (9, 0, 0) k) ∧ (∀ k, 31 ≤ k → k ≤ 35 → fI Y' xM k = fI Y xM k) ∧ (∀ u k i, (u.1 = 4 ∨ u = (6, 0, 0) ∨ u = (7, 0, 0)) → fA Y' u k i = fA Y u k i) ∧ (∀ u k i, fL Y' u k i = fL Y u k i ∨ u = (12, 0, 0)) ∧ (∀ i, fR Y' (9, 0, 0) 5 i = fR Y (9, 0, 0) 5 i)
theorem IQ_keep {g g' : xG} {Y Y' : xW} {P N S K hd : Nat} (I : IP g Y P N) (J : IQ g Y S K hd) (k : KQ Y Y') (hq : QE (fA Y xM) (fA Y' xM)) (Eq : ∀ q, q < 24 → fA Y xM 6 q = 1 → EQP (fA Y xM) (fA Y' xM) q) (G : ∀ q, g.1 (4, q, 0) = false → g'.1 (4, q, 0) = false) : IQ g' Y' S K hd := by
  obtain ⟨k1, k2, k3, k4, k5, k6⟩ := k
  have kl : ∀ u k i, u ≠ (12, 0, 0) → fL Y' u k i = fL Y u k i := fun u k i hu => (k5 u k i).resolve_right hu
  obtain ⟨a, ⟨b1, b2, b3, b4, b5, b6, b7, b8⟩, c, ⟨d1, d2, d3⟩, e, f, s, t, w⟩ := J
  have HL : ∀ p, p < 24 → fA Y xM 6 p = 1 → LOC (fA Y xM) (fA Y' xM) p ∧ WA (fA Y xM) p := fun p hp h => ⟨IP_LOC I (acc_lt I hp h) (Eq p hp h) Eq, (I.2.2.2.1 p (acc_lt I hp h)).2.2.1⟩
  have rb : ∀ i, rB Y' i = rB Y i := fun i => by unfold rB; rw [k4 _ _ _ (.inr (.inr rfl))]
  have rs : ∀ i, rS Y' i = rS Y i := fun i => by unfold rS; rw [k4 _ _ _ (.inr (.inr rfl))]
  refine ⟨a, ?_, ?_, ⟨?_, ?_, ?_⟩, ?_, ?_, ?_, ?_, ?_⟩
  · rw [k3 31 (by omega) (by omega), k3 32 (by omega) (by omega), k3 33 (by omega) (by omega), k3 34 (by omega) (by omega), k3 35 (by omega) (by omega), k2 6 (by simp), k2 9 (by simp), k2 10 (by simp), k2 11 (by simp), k1 (6, 0, 0) 2 (by simp), k1 (6, 0, 0) 1 (by simp)]
    exact ⟨b1, b2, b3, b4, b5, b6, b7, b8⟩
  · intro i hi
    rw [k4 _ _ _ (by simp), hq 49 _ (by omega)]
    exact c i hi
  · intro i hi
    rw [hq 49 _ (by omega)]
    obtain ⟨q, h1, h2, h3⟩ := d1 i hi
    exact ⟨q, h1, h2, by rw [hq 36 _ (by omega)]; exact h3⟩
  · intro i j hi hj h
    rw [hq 49 _ (by omega), hq 49 _ (by omega)] at h
    exact d2 i j hi hj h
  · intro q h h2
    rw [hq 36 _ (by omega)] at h2
    obtain ⟨i, h3, h4⟩ := d3 q h h2
    exact ⟨i, h3, by rw [hq 49 _ (by omega)]; exact h4⟩
  · intro q h
    obtain ⟨c1, c2, c3, c4, c5⟩ := e q h
    refine ⟨(k6 q).trans c1, ?_, ?_, ?_, ?_⟩
    · rw [k1 _ _ (by simp), k1 _ _ (by simp), k1 _ _ (by simp), k1 _ _ (by simp), k1 _ _ (by simp), k1 _ _ (by simp), k1 _ _ (by simp), k1 _ _ (by simp), k1 _ _ (by simp), hq 37 _ (by omega), hq 43 _ (by omega), hq 41 _ (by omega), hq 38 _ (by omega), hq 39 _ (by omega), hq 42 _ (by omega), hq 36 _ (by omega), hq 40 _ (by omega), hq 44 _ (by omega)]
      exact c2
    · rw [kl _ _ _ (by simp), kl _ _ _ (by simp)]
      exact c3
    · intro r hr
      rw [k4 _ _ _ (by simp), hq 45 _ (by omega)]
      exact c4 r hr
    · intro j hj
      rw [show cN (fA Y' xM) q = cN (fA Y xM) q from by unfold cN; rw [hq 41 _ (by omega)]] at hj
      rw [k4 _ _ _ (by simp), hq 47 _ (by omega), hq 48 _ (by omega)]
      exact c5 j hj
  · intro q h h2
    obtain ⟨f0, f1, f2, f3, f4, f5, f6, f7⟩ := f q h h2
    rw [hq 36 _ (by omega), hq 39 _ (by omega), hq 40 _ (by omega), hq 41 _ (by omega), hq 44 _ (by omega), kl _ _ _ (by simp)]
    refine ⟨G q f0, f1, f2, f3, f4, f5, fun r hr => ?_, f7⟩
    rw [hq 45 _ (by omega)]
    exact f6 r hr
  · obtain ⟨s1, s2, s3, s4, s5, s6⟩ := s
    refine ⟨(k1 _ _ (by simp)).trans s1, fun k hk => ?_, fun i hi => ?_, fun i hi => ?_, fun k hk => ?_, fun k hk => ?_⟩
    · rw [k4 _ _ _ (by simp), hq 50 _ (by omega)]
      exact s2 k hk
    · rw [rb, rs, k4 _ _ _ (by simp), k4 _ _ _ (by simp)]
      exact s3 i hi
    · rw [rb, rs, rb]
      exact s4 i hi
    · rw [hq 51 _ (by omega)]
      exact s5 k hk
    · rw [hq 51 _ (by omega), s6 k hk]
      constructor
      · rintro ⟨i, h1, h2, h3⟩
        exact ⟨i, h1, by rw [rb]; exact h2, by rw [rb, rs]; exact h3⟩
      · rintro ⟨i, h1, h2, h3⟩
        exact ⟨i, h1, by rw [rb] at h2; exact h2, by rw [rb, rs] at h3; exact h3⟩
  · intro q h h2
    rw [hq 36 _ (by omega)] at h2
    obtain ⟨t1, i, t2, t3, t4⟩ := t q h h2
    refine ⟨SND_loc (QE_q hq q) HL t1, i, t2, ?_, ?_⟩
    · rw [hq 42 _ (by omega), k4 _ _ _ (by simp)]
      exact t3
    · rw [hq 43 _ (by omega), k4 _ _ _ (by simp)]
      exact t4
  · intro q q' h1 h2 h3 h4 h5
    rw [hq 36 _ (by omega)] at h3 h4
    rw [hq 42 _ (by omega), hq 42 _ (by omega)] at h5
    exact w q q' h1 h2 h3 h4 h5
