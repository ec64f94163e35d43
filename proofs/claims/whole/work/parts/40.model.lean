/-! the reference's judge: meeting, setting, going -/
def mRow (Y : xW) : Row := fun r => (fA Y xM 24 r, fA Y xM 25 r, fA Y xM 26 r)
def AM (Y : xW) (A : AF) : Prop := ∀ k i, k ≠ 24 → k ≠ 25 → k ≠ 26 → fA Y xM k i = A k i
/-- only the reference's row has changed -/
def mTo (Y Y' : xW) (R : Row) : Prop := (∀ u k, fI Y' u k = fI Y u k) ∧ (∀ u k i, (u ≠ xM ∨ (k ≠ 24 ∧ k ≠ 25 ∧ k ≠ 26)) → fA Y' u k i = fA Y u k i) ∧ (∀ u k i, fL Y' u k i = fL Y u k i) ∧ (∀ u k i, fR Y' u k i = fR Y u k i) ∧ fC Y' = fC Y ∧ ∀ r, r < 8 → mRow Y' r = R r
/-- only the reference's row and its fault have changed -/
def MK (Y Y' : xW) (x : Int32) (R : Row) : Prop := (∀ u k, ¬ (u = xM ∧ k = 29) → fI Y' u k = fI Y u k) ∧ (∀ u k i, (u ≠ xM ∨ (k ≠ 24 ∧ k ≠ 25 ∧ k ≠ 26)) → fA Y' u k i = fA Y u k i) ∧ (∀ u k i, fL Y' u k i = fL Y u k i) ∧ (∀ u k i, fR Y' u k i = fR Y u k i) ∧ fC Y' = fC Y ∧ fI Y' xM 29 = x ∧ (x = 0 → ∀ r, r < 8 → mRow Y' r = R r)
theorem mTo_r (Y : xW) : mTo Y Y (mRow Y) := ⟨fun _ _ => rfl, fun _ _ _ _ => rfl, fun _ _ _ => rfl, fun _ _ _ => rfl, rfl, fun _ _ => rfl⟩
theorem MK_r {Y : xW} (h : fI Y xM 29 = 0) : MK Y Y 0 (mRow Y) := ⟨fun _ _ _ => rfl, fun _ _ _ _ => rfl, fun _ _ _ => rfl, fun _ _ _ => rfl, rfl, h, fun _ _ _ => rfl⟩
theorem MK_w (Y : xW) {x : Int32} (R : Row) (hx : ¬ x = 0) : MK Y (uI Y xM 29 x) x R := ⟨fun u k hu => by rw [fI_uI, if_neg hu], fun _ _ _ _ => rfl, fun _ _ _ => rfl, fun _ _ _ => rfl, rfl, rfl, fun z => absurd z hx⟩
theorem MK_t {Y Y' : xW} {R : Row} (h : mTo Y Y' R) (hf : fI Y xM 29 = 0) : MK Y Y' 0 R := ⟨fun u k _ => h.1 u k, h.2.1, h.2.2.1, h.2.2.2.1, h.2.2.2.2.1, by rw [h.1]; exact hf, fun _ => h.2.2.2.2.2⟩
theorem MK_x {Y Y1 Y2 : xW} {R1 R2 : Row} {x1 x2 : Int32} (h1 : MK Y Y1 x1 R1) (h2 : MK Y1 Y2 x2 R2) : MK Y Y2 x2 R2 := ⟨fun u k hu => (h2.1 u k hu).trans (h1.1 u k hu), fun u k i hu => (h2.2.1 u k i hu).trans (h1.2.1 u k i hu), fun u k i => (h2.2.2.1 u k i).trans (h1.2.2.1 u k i), fun u k i => (h2.2.2.2.1 u k i).trans (h1.2.2.2.1 u k i), h2.2.2.2.2.1.trans h1.2.2.2.2.1, h2.2.2.2.2.2.1, h2.2.2.2.2.2.2⟩
theorem MK_c {Y Y1 : xW} {R R' : Row} {x : Int32} (h : MK Y Y1 x R) (e : ∀ r, r < 8 → R r = R' r) : MK Y Y1 x R' := ⟨h.1, h.2.1, h.2.2.1, h.2.2.2.1, h.2.2.2.2.1, h.2.2.2.2.2.1, fun z r hr => (h.2.2.2.2.2.2 z r hr).trans (e r hr)⟩
theorem AM_MK {Y Y' : xW} {A : AF} {x : Int32} {R : Row} (h : MK Y Y' x R) (a : AM Y A) : AM Y' A := fun k i h1 h2 h3 => (h.2.1 xM k i (.inr ⟨h1, h2, h3⟩)).trans (a k i h1 h2 h3)
theorem AM_uI {Y : xW} {A : AF} (a : AM Y A) (u : xT) (k : Nat) (v : Int32) : AM (uI Y u k v) A := a
theorem ix8 (a r : Nat) : (8 : Int32) * n32 a + n32 r = n32 (8 * a + r) := by rw [show (8 : Int32) = n32 8 from rfl, n_mul, n_add]
theorem ix200 (a r : Nat) : (200 : Int32) * n32 a + n32 r = n32 (200 * a + r) := by rw [show (200 : Int32) = n32 200 from rfl, n_mul, n_add]
def tS (k : Int32) (l h : Int64) : Int32 × Int32 × Int32 := if l < -2147483648 ∨ 2147483647 < h then (k, -2147483648, 2147483647) else (k, l.toInt32, h.toInt32)
theorem mT_set {Y : xW} {r : Nat} (a b c : Int32) : mTo Y (uA (uA (uA Y xM 24 r a) xM 25 r b) xM 26 r c) (setR (mRow Y) r (a, b, c)) := by
  refine ⟨fun _ _ => rfl, ?_, fun _ _ _ => rfl, fun _ _ _ => rfl, rfl, ?_⟩
  · intro u k i hu
    simp only [fA_uA]
    rcases hu with hu | hu
    · simp [hu]
    · simp [hu.1, hu.2.1, hu.2.2]
  · intro q hq
    unfold mRow setR
    simp only [fA_uA, true_and]
    by_cases e : q = r
    · simp [e]
    · simp [e]
section MD
variable {V : xV} {g : xG} {Y : xW} {A : AF}
theorem s_141 {Q : xW → Prop} {x : Int32} (hf : fI Y xM 29 = 0) (H : Q (uI Y xM 29 x)) : L_141_0 V g Y x Q :=
  l_141_0 ⟨fun _ Y1 e => l_141_12 (by rw [e]; exact H), fun z => absurd hf z⟩
theorem s_142 {Q : Int32 → xW → Prop} {x y : Int32 × Int32 × Int32} (H1 : (y.1 ≠ 0 → x.1 = y.1 ∧ y.2.1 ≤ x.2.1 ∧ x.2.2 ≤ y.2.2) → Q 1 Y) (H0 : ¬ (y.1 ≠ 0 → x.1 = y.1 ∧ y.2.1 ≤ x.2.1 ∧ x.2.2 ≤ y.2.2) → Q 0 Y) : L_142_0 V g Y x.1 x.2.1 x.2.2 y.1 y.2.1 y.2.2 Q := by
  have yes : (y.1 ≠ 0 → x.1 = y.1 ∧ y.2.1 ≤ x.2.1 ∧ x.2.2 ≤ y.2.2) → L_142_21 V g Y x.1 x.2.1 x.2.2 y.1 y.2.1 y.2.2 Q := fun h => l_142_21 (l_142_26 ⟨.inr rfl, H1 h⟩)
  have no : ¬ (y.1 ≠ 0 → x.1 = y.1 ∧ y.2.1 ≤ x.2.1 ∧ x.2.2 ≤ y.2.2) → L_142_25 V g Y x.1 x.2.1 x.2.2 y.1 y.2.1 y.2.2 Q := fun h => l_142_25 (l_142_26 ⟨.inl rfl, H0 h⟩)
  refine l_142_0 ⟨fun c => yes (fun z => absurd c z), fun c => ⟨fun c2 => ⟨fun c3 => no (fun z => ?_), fun c3 => ⟨fun c4 => no (fun z => ?_), fun c4 => yes (fun _ => ⟨c2, ?_, ?_⟩)⟩⟩, fun c2 => no (fun z => c2 (z c).1)⟩⟩
  · have := (z c).2.1
    rw [i_le] at this
    rw [i_lt] at c3
    omega
  · have := (z c).2.2
    rw [i_le] at this
    rw [i_lt] at c4
    omega
  · rw [i_le]; rw [i_lt] at c3; omega
  · rw [i_le]; rw [i_lt] at c4; omega
variable {a : Nat}
theorem s_143_l {Q : Int32 → xW → Prop} (hA : AM Y A) (ha : a < 4800) (H1 : meetsR (mRow Y) (lRow A a) → Q 1 Y) (H0 : ¬ meetsR (mRow Y) (lRow A a) → Q 0 Y) : ∀ (m k : Nat) (x : Int32), k + m = 8 → ((x = 1 ∧ ∀ r, r < k → (lRow A a r).1 ≠ 0 → (mRow Y r).1 = (lRow A a r).1 ∧ (lRow A a r).2.1 ≤ (mRow Y r).2.1 ∧ (mRow Y r).2.2 ≤ (lRow A a r).2.2) ∨ (x = 0 ∧ ¬ meetsR (mRow Y) (lRow A a))) → L_143_4 V g Y (n32 a) x (n32 k) Q := by
  intro m
  induction m with
  | zero =>
    intro k x hk h
    refine l_143_4 ⟨fun _ => ?_, fun z => absurd ((n_le (a := 8) (by omega) (by omega)).mpr (by omega)) z⟩
    rcases h with ⟨rfl, h⟩ | ⟨rfl, h⟩
    · exact ⟨.inr rfl, H1 (fun r hr => h r (by omega))⟩
    · exact ⟨.inl rfl, H0 h⟩
  | succ m ih =>
    intro k x hk h
    have i1 := n_in (show k < 8 by omega) (show 8 ≤ 2147483648 by omega)
    have i2 := n_in (show 8 * a + k < 38400 by omega) (show 38400 ≤ 2147483648 by omega)
    have nx : ∀ y s, ((s = 1 ∧ ∀ r, r < k + 1 → (lRow A a r).1 ≠ 0 → (mRow Y r).1 = (lRow A a r).1 ∧ (lRow A a r).2.1 ≤ (mRow Y r).2.1 ∧ (mRow Y r).2.2 ≤ (lRow A a r).2.2) ∨ (s = 0 ∧ ¬ meetsR (mRow Y) (lRow A a))) → L_143_76 V g Y (n32 a) y (n32 k) s Q := by
      intro y s hs
      refine l_143_76 ?_
      rw [show n32 k + 1 = n32 (k + 1) from n_add k 1]
      exact ih (k + 1) s (by omega) hs
    refine l_143_4 ⟨fun z => absurd ((n_le (a := 8) (by omega) (by omega)).mp z) (by omega), fun _ => ⟨fun c => l_143_75 (nx _ _ (.inr ⟨rfl, ?_⟩)), fun c => ?_⟩⟩
    · rcases h with ⟨rfl, h⟩ | ⟨rfl, h⟩
      · exact absurd c (by decide)
      · exact h
    · rcases h with ⟨rfl, h⟩ | ⟨rfl, h⟩
      · rw [ix8, n_nat (by omega), n_nat (by omega), hA 14 _ (by decide) (by decide) (by decide), hA 15 _ (by decide) (by decide) (by decide), hA 16 _ (by decide) (by decide) (by decide)]
        refine ⟨i1, i1, i1, i2, i2, i2, s_142 (x := mRow Y k) (y := lRow A a k) (fun z => ⟨fun y => absurd y (by decide), fun _ => nx _ _ (.inl ⟨rfl, fun r hr => ?_⟩)⟩) (fun z => ⟨fun _ => l_143_75 (nx _ _ (.inr ⟨rfl, fun y => z (y k (by omega))⟩)), fun y => absurd rfl y⟩)⟩
        by_cases e : r = k
        · rw [e]; exact z
        · exact h r (by omega)
      · exact absurd rfl c
theorem s_143 {Q : Int32 → xW → Prop} (hA : AM Y A) (ha : a < 4800) (H1 : meetsR (mRow Y) (lRow A a) → Q 1 Y) (H0 : ¬ meetsR (mRow Y) (lRow A a) → Q 0 Y) : L_143_0 V g Y (n32 a) Q :=
  l_143_0 (s_143_l hA ha H1 H0 8 0 1 rfl (.inl ⟨rfl, fun r hr => absurd hr (by omega)⟩))
theorem s_156_l {Q : Int32 → xW → Prop} {q f : Nat} (hA : AM Y A) (hq : q < 24) (hf : f < 8) (ha : a < 4800) (H1 : meetsR (oRow A (8 * q + f)) (lRow A a) → Q 1 Y) (H0 : ¬ meetsR (oRow A (8 * q + f)) (lRow A a) → Q 0 Y) : ∀ (m k : Nat) (x : Int32), k + m = 8 → ((x = 1 ∧ ∀ r, r < k → (lRow A a r).1 ≠ 0 → (oRow A (8 * q + f) r).1 = (lRow A a r).1 ∧ (lRow A a r).2.1 ≤ (oRow A (8 * q + f) r).2.1 ∧ (oRow A (8 * q + f) r).2.2 ≤ (lRow A a r).2.2) ∨ (x = 0 ∧ ¬ meetsR (oRow A (8 * q + f)) (lRow A a))) → L_156_6 V g Y (n32 q) (n32 f) (n32 a) x (n32 k) Q := by
  intro m
  induction m with
  | zero =>
    intro k x hk h
    refine l_156_6 ⟨fun _ => ?_, fun z => absurd ((n_le (a := 8) (by omega) (by omega)).mpr (by omega)) z⟩
    rcases h with ⟨rfl, h⟩ | ⟨rfl, h⟩
    · exact ⟨.inr rfl, H1 (fun r hr => h r (by omega))⟩
    · exact ⟨.inl rfl, H0 h⟩
  | succ m ih =>
    intro k x hk h
    have i1 := n_in (show 8 * (8 * q + f) + k < 1536 by omega) (show 1536 ≤ 2147483648 by omega)
    have i2 := n_in (show 8 * a + k < 38400 by omega) (show 38400 ≤ 2147483648 by omega)
    have nx : ∀ y z s, ((s = 1 ∧ ∀ r, r < k + 1 → (lRow A a r).1 ≠ 0 → (oRow A (8 * q + f) r).1 = (lRow A a r).1 ∧ (lRow A a r).2.1 ≤ (oRow A (8 * q + f) r).2.1 ∧ (oRow A (8 * q + f) r).2.2 ≤ (lRow A a r).2.2) ∨ (s = 0 ∧ ¬ meetsR (oRow A (8 * q + f)) (lRow A a))) → L_156_100 V g Y (n32 q) (n32 f) (n32 a) y (n32 k) z s Q := by
      intro y z s hs
      refine l_156_100 ?_
      rw [show n32 k + 1 = n32 (k + 1) from n_add k 1]
      exact ih (k + 1) s (by omega) hs
    refine l_156_6 ⟨fun z => absurd ((n_le (a := 8) (by omega) (by omega)).mp z) (by omega), fun _ => ⟨fun c => l_156_99 (nx _ _ _ (.inr ⟨rfl, ?_⟩)), fun c => ?_⟩⟩
    · rcases h with ⟨rfl, h⟩ | ⟨rfl, h⟩
      · exact absurd c (by decide)
      · exact h
    · rcases h with ⟨rfl, h⟩ | ⟨rfl, h⟩
      · rw [ix8, ix8, ix8, n_nat (by omega), n_nat (by omega), hA 14 _ (by decide) (by decide) (by decide), hA 15 _ (by decide) (by decide) (by decide), hA 16 _ (by decide) (by decide) (by decide), hA 19 _ (by decide) (by decide) (by decide), hA 20 _ (by decide) (by decide) (by decide), hA 21 _ (by decide) (by decide) (by decide)]
        refine ⟨i1, i1, i1, i2, i2, i2, s_142 (x := oRow A (8 * q + f) k) (y := lRow A a k) (fun z => ⟨fun y => absurd y (by decide), fun _ => nx _ _ _ (.inl ⟨rfl, fun r hr => ?_⟩)⟩) (fun z => ⟨fun _ => l_156_99 (nx _ _ _ (.inr ⟨rfl, fun y => z (y k (by omega))⟩)), fun y => absurd rfl y⟩)⟩
        by_cases e : r = k
        · rw [e]; exact z
        · exact h r (by omega)
      · exact absurd rfl c
theorem s_156 {Q : Int32 → xW → Prop} {q f : Nat} (hA : AM Y A) (hq : q < 24) (hf : f < 8) (ha : a < 4800) (H1 : meetsR (oRow A (8 * q + f)) (lRow A a) → Q 1 Y) (H0 : ¬ meetsR (oRow A (8 * q + f)) (lRow A a) → Q 0 Y) : L_156_0 V g Y (n32 q) (n32 f) (n32 a) Q :=
  l_156_0 (s_156_l hA hq hf ha H1 H0 8 0 1 rfl (.inl ⟨rfl, fun r hr => absurd hr (by omega)⟩))
variable {r : Nat}
theorem s_147 {Q : xW → Prop} {k : Int32} {l h : Int64} (hr : r < 8) (H : ∀ Y', mTo Y Y' (setR (mRow Y) r (tS k l h)) → Q Y') : L_147_0 V g Y (n32 r) k l h Q := by
  have hi := n_in hr (show 8 ≤ 2147483648 by omega)
  have X : (l < -2147483648 ∨ 2147483647 < h) → L_147_21 V g Y (n32 r) k l h Q := by
    intro c
    refine l_147_21 (l_147_22 ⟨hi, fun Y1 e1 => ⟨fun _ => l_147_48 ⟨hi, fun Y2 e2 => ⟨fun _ => l_147_67 ⟨hi, fun Y3 e3 => ?_⟩, fun z => absurd rfl z⟩⟩, fun z => absurd rfl z⟩⟩)
    rw [n_nat (by omega)] at e1 e2 e3
    subst e1 e2 e3
    refine H _ ?_
    unfold tS
    rw [if_pos c]
    exact mT_set _ _ _
  refine l_147_0 ⟨fun c => X (.inl c), fun c1 => ⟨fun c => X (.inr c), fun c2 => ?_⟩⟩
  refine l_147_22 ⟨hi, fun Y1 e1 => ⟨fun z => absurd z (by decide), fun _ => l_147_48 ⟨hi, fun Y2 e2 => ⟨fun z => absurd z (by decide), fun _ => l_147_67 ⟨hi, fun Y3 e3 => ?_⟩⟩⟩⟩⟩
  rw [n_nat (by omega)] at e1 e2 e3
  subst e1 e2 e3
  refine H _ ?_
  unfold tS
  rw [if_neg (fun z => z.elim c1 c2)]
  exact mT_set _ _ _
theorem tS_in {k : Int32} {l h : Int64} (h1 : ¬ l < -1000000) (h2 : h ≤ 1000000) : tS k l h = (k, l.toInt32, h.toInt32) := by
  have e1 : (-1000000 : Int64).toInt = -1000000 := by decide
  have e2 : (1000000 : Int64).toInt = 1000000 := by decide
  have e3 : (-2147483648 : Int64).toInt = -2147483648 := by decide
  have e4 : (2147483647 : Int64).toInt = 2147483647 := by decide
  unfold tS
  rw [j_lt, e1] at h1
  rw [j_le, e2] at h2
  rw [if_neg]
  rw [j_lt, j_lt, e3, e4]
  omega
theorem s_148 {Q : xW → Prop} {l h : Int64} (hf : fI Y xM 29 = 0) (hr : r < 8) (H6 : (l < -1000000 ∨ ¬ h ≤ 1000000) → Q (uI Y xM 29 6)) (H0 : ¬ (l < -1000000 ∨ ¬ h ≤ 1000000) → ∀ Y', mTo Y Y' (setR (mRow Y) r (2, l.toInt32, h.toInt32)) → Q Y') : L_148_0 V g Y (n32 r) l h Q := by
  refine l_148_0 ⟨fun c => l_148_17 (s_141 hf (l_148_35 (H6 (.inl c)))), fun c => ⟨fun c2 => s_147 hr (fun Y' h' => l_148_35 ?_), fun c2 => l_148_17 (s_141 hf (l_148_35 (H6 (.inr c2))))⟩⟩
  rw [tS_in c c2] at h'
  exact H0 (fun z => z.elim c (fun z => z c2)) Y' h'
theorem s_149 {Q : xW → Prop} {d : Nat} {l h : Int64} (hf : fI Y xM 29 = 0) (d8 : d < 8) (a8 : a < 8)
    (H6 : (mRow Y a).1 = 2 → (lo (mRow Y) a + l < -1000000 ∨ ¬ hi (mRow Y) a + h ≤ 1000000) → Q (uI Y xM 29 6))
    (H2 : (mRow Y a).1 = 2 → ¬ (lo (mRow Y) a + l < -1000000 ∨ ¬ hi (mRow Y) a + h ≤ 1000000) → ∀ Y', mTo Y Y' (setR (mRow Y) d (2, (lo (mRow Y) a + l).toInt32, (hi (mRow Y) a + h).toInt32)) → Q Y')
    (H1 : ¬ (mRow Y a).1 = 2 → ∀ Y', mTo Y Y' (setR (mRow Y) d (tS 1 (lo (mRow Y) a + l) (hi (mRow Y) a + h))) → Q Y') : L_149_0 V g Y (n32 d) (n32 a) l h Q := by
  have i1 := n_in a8 (show 8 ≤ 2147483648 by omega)
  refine l_149_0 ⟨i1, ?_⟩
  rw [n_nat (by omega)]
  exact ⟨fun c => ⟨i1, i1, s_148 hf d8 (fun z => l_149_62 (H6 c z)) (fun z Y' h' => l_149_62 (H2 c z Y' h'))⟩, fun c => ⟨i1, i1, s_147 d8 (fun Y' h' => l_149_62 (H1 c Y' h'))⟩⟩
variable {p i k : Nat} {st : Int32}
theorem s_144 {Q : Int32 → xW → Prop} (hA : AM Y A) (W : WA A p) (hp : p < 24) (ho : fI Y xM 5 = n32 p) (hk : k < 2147483648) (H1 : nW A p ≤ k → Q (-1) Y) (H0 : k < nW A p → Q (A 13 (200 * p + k)) Y) : L_144_0 V g Y (n32 k) Q := by
  have w2 := W.1.2
  refine l_144_0 ?_
  rw [ho, n_nat (by omega), hA 8 _ (by decide) (by decide) (by decide), W.1.1, n_le (by omega) hk]
  refine ⟨n_in hp (by omega), fun c => l_144_32 (H1 c), fun c => ?_⟩
  rw [ix200, n_nat (by omega), hA 13 _ (by decide) (by decide) (by decide)]
  exact ⟨n_in (by omega) (by omega), l_144_32 (H0 (by omega))⟩
theorem s_145 {Q : xW → Prop} (hA : AM Y A) (W : WA A p) (hp : p < 24) (ho : fI Y xM 5 = n32 p) (hst : fI Y xM 30 = st) (h0 : 0 ≤ st.toInt) (hf : fI Y xM 29 = 0) (hk : k < 2147483648) (H : ∀ Y', MK Y Y' (gF A p k (mRow Y) st) (mRow Y) → Q Y') : L_145_0 V g Y (n32 k) Q := by
  have w2 := W.1.2
  unfold gF at H
  refine l_145_0 (s_144 hA W hp ho hk (fun c => ⟨fun z => ?_, fun z => s_141 hf (l_145_42 ?_)⟩) (fun c => ⟨fun z => ?_, fun z => s_141 hf (l_145_42 ?_)⟩))
  · rw [hst] at z
    rw [← z] at h0
    exact absurd h0 (by decide)
  · rw [if_pos (.inl c)] at H
    exact H _ (MK_w _ _ (by decide))
  · rw [hst] at z
    rw [if_neg (fun y => y.elim (fun y => by omega) (fun y => y z))] at H
    rw [ho, ix200]
    refine s_143 hA (by omega) (fun m => ⟨fun y => absurd y (by decide), fun _ => l_145_42 ?_⟩) (fun m => ⟨fun _ => s_141 hf (l_145_42 ?_), fun y => absurd rfl y⟩)
    · rw [if_pos m] at H
      exact H _ (MK_r hf)
    · rw [if_neg m] at H
      exact H _ (MK_w _ _ (by decide))
  · rw [hst] at z
    rw [if_pos (.inr z)] at H
    exact H _ (MK_w _ _ (by decide))
theorem s_146 {Q : xW → Prop} (hA : AM Y A) (W : WA A p) (hp : p < 24) (ho : fI Y xM 5 = n32 p) (hst : fI Y xM 30 = st) (h0 : 0 ≤ st.toInt) (hf : fI Y xM 29 = 0) (hh : fI Y xM 28 = n32 i) (hi : i < 2147483000) (H : ∀ Y', MK (uI Y xM 27 1) Y' (nxF A p i (mRow Y) st) (mRow Y) → Q Y') : L_146_0 V g Y Q := by
  have w2 := W.1.2
  refine l_146_0 ⟨.inr rfl, fun Y1 e1 => ?_⟩
  have ho1 : fI Y1 xM 5 = n32 p := by rw [e1]; exact ho
  have hh1 : fI Y1 xM 28 = n32 i := by rw [e1]; exact hh
  have hst1 : fI Y1 xM 30 = st := by rw [e1]; exact hst
  have hf1 : fI Y1 xM 29 = 0 := by rw [e1]; exact hf
  have hA1 : AM Y1 A := by rw [e1]; exact hA
  have hr1 : mRow Y1 = mRow Y := by rw [e1]; rfl
  rw [← e1] at H
  unfold nxF at H
  rw [ho1, hh1, n_nat (by omega), hA1 8 _ (by decide) (by decide) (by decide), W.1.1, show n32 i + 1 = n32 (i + 1) from n_add i 1, n_lt (by omega) (by omega)]
  refine ⟨n_in hp (by omega), fun c => s_144 hA1 W hp ho1 (by omega) (fun z => absurd z (by omega)) (fun z => ⟨fun y => l_146_54 ?_, fun y => ?_⟩), fun c => s_141 hf1 (l_146_54 ?_)⟩
  · rw [if_pos ⟨c, y⟩] at H
    exact H Y1 (by rw [← hr1]; exact MK_r hf1)
  · rw [if_neg (fun z => y z.2)] at H
    rw [hh1, show n32 i + 1 = n32 (i + 1) from n_add i 1]
    refine s_145 hA1 W hp ho1 hst1 h0 hf1 (by omega) (fun Y' h' => l_146_54 (H Y' ?_))
    rw [hr1] at h'
    exact h'
  · have e : gF A p (i + 1) (mRow Y) st = 1 := by
      unfold gF
      exact if_pos (.inl (by omega))
    rw [if_neg (fun z => c z.1), e] at H
    exact H _ (MK_w _ _ (by decide))
end MD
