/-! the reference's verify: the loop over the words -/
def FV (Y Y' : xW) : Prop := (∀ u k, ¬ (u = xM ∧ (27 ≤ k ∧ k ≤ 30)) → fI Y' u k = fI Y u k) ∧ (∀ u k i, (u ≠ xM ∨ (k ≠ 24 ∧ k ≠ 25 ∧ k ≠ 26)) → fA Y' u k i = fA Y u k i) ∧ (∀ u k i, fL Y' u k i = fL Y u k i) ∧ (∀ u k i, fR Y' u k i = fR Y u k i) ∧ fC Y' = fC Y
theorem FV_r (Y : xW) : FV Y Y := ⟨fun _ _ _ => rfl, fun _ _ _ _ => rfl, fun _ _ _ => rfl, fun _ _ _ => rfl, rfl⟩
theorem FV_t {Y Y1 Y2 : xW} (h1 : FV Y Y1) (h2 : FV Y1 Y2) : FV Y Y2 := ⟨fun u k hu => (h2.1 u k hu).trans (h1.1 u k hu), fun u k i hu => (h2.2.1 u k i hu).trans (h1.2.1 u k i hu), fun u k i => (h2.2.2.1 u k i).trans (h1.2.2.1 u k i), fun u k i => (h2.2.2.2.1 u k i).trans (h1.2.2.2.1 u k i), h2.2.2.2.2.trans h1.2.2.2.2⟩
theorem FV_F {Y Y' : xW} (h : FR Y Y') : FV Y Y' := ⟨fun u k hu => h.1 u k (fun z => hu ⟨z.1, by omega⟩), h.2⟩
theorem FV_m {Y Y' : xW} {R : Row} (h : mTo Y Y' R) : FV Y Y' := ⟨fun u k _ => h.1 u k, h.2.1, h.2.2.1, h.2.2.2.1, h.2.2.2.2.1⟩
theorem FV_u (Y : xW) {k : Nat} (h1 : 27 ≤ k) (h2 : k ≤ 30) (v : Int32) : FV Y (uI Y xM k v) := ⟨fun u k' hu => by rw [fI_uI, if_neg (fun z => hu ⟨z.1, by omega⟩)], fun _ _ _ _ => rfl, fun _ _ _ => rfl, fun _ _ _ => rfl, rfl⟩
theorem AM_V {Y Y' : xW} {A : AF} (h : FV Y Y') (a : AM Y A) : AM Y' A := fun k i h1 h2 h3 => (h.2.1 xM k i (.inr ⟨h1, h2, h3⟩)).trans (a k i h1 h2 h3)
section MV
variable {V : xV} {g : xG} {A : AF} {p : Nat}
theorem s_160_l {Y : xW} {Q : xW → Prop} {a : Nat} (hA : AM Y A) (ha : a < 4800) (H : ∀ Y', mTo Y Y' (lRow A a) → Q Y') : ∀ (m k : Nat) (Y1 : xW), k + m = 8 → mTo Y Y1 (fun r => if r < k then lRow A a r else mRow Y r) → L_160_2 V g Y1 (n32 a) (n32 k) Q := by
  intro m
  induction m with
  | zero =>
    intro k Y1 hk h
    refine l_160_2 ⟨fun _ => H Y1 ⟨h.1, h.2.1, h.2.2.1, h.2.2.2.1, h.2.2.2.2.1, fun r hr => (h.2.2.2.2.2 r hr).trans (if_pos (by omega))⟩, fun z => absurd ((n_le (a := 8) (by omega) (by omega)).mpr (by omega)) z⟩
  | succ m ih =>
    intro k Y1 hk h
    have i1 := n_in (show k < 8 by omega) (show 8 ≤ 2147483648 by omega)
    have i2 := n_in (show 8 * a + k < 38400 by omega) (show 38400 ≤ 2147483648 by omega)
    have hA1 : AM Y1 A := AM_V (FV_m h) hA
    refine l_160_2 ⟨fun z => absurd ((n_le (a := 8) (by omega) (by omega)).mp z) (by omega), fun _ => ?_⟩
    rw [ix8, n_nat (show 8 * a + k < 2147483648 by omega), n_nat (show k < 2147483648 by omega), show n32 k + 1 = n32 (k + 1) from n_add k 1, hA1 14 _ (by decide) (by decide) (by decide)]
    refine ⟨i2, i1, fun Y2 e2 => ⟨i2, i1, fun Y3 e3 => ⟨i2, i1, fun Y4 e4 => ih (k + 1) Y4 (by omega) ?_⟩⟩⟩
    have e15 : fA Y2 xM 15 (8 * a + k) = A 15 (8 * a + k) := by
      rw [e2, fA_uA, if_neg (by simp)]
      exact hA1 15 _ (by decide) (by decide) (by decide)
    have e16 : fA Y3 xM 16 (8 * a + k) = A 16 (8 * a + k) := by
      rw [e3, fA_uA, if_neg (by simp), e2, fA_uA, if_neg (by simp)]
      exact hA1 16 _ (by decide) (by decide) (by decide)
    have h2 : mTo Y1 Y4 (setR (mRow Y1) k (lRow A a k)) := by
      rw [e4, e16, e3, e15, e2]
      exact mT_set _ _ _
    refine ⟨fun u k' => (h2.1 u k').trans (h.1 u k'), fun u k' i hu => (h2.2.1 u k' i hu).trans (h.2.1 u k' i hu), fun u k' i => (h2.2.2.1 u k' i).trans (h.2.2.1 u k' i), fun u k' i => (h2.2.2.2.1 u k' i).trans (h.2.2.2.1 u k' i), h2.2.2.2.2.1.trans h.2.2.2.2.1, fun r hr => ?_⟩
    rw [h2.2.2.2.2.2 r hr]
    unfold setR
    dsimp only
    by_cases e : r = k
    · rw [if_pos e, if_pos (by omega), e]
    · rw [if_neg e, h.2.2.2.2.2 r hr]
      dsimp only
      by_cases e2 : r < k
      · rw [if_pos e2, if_pos (by omega)]
      · rw [if_neg e2, if_neg (by omega)]
theorem s_160 {Y : xW} {Q : xW → Prop} {a : Nat} (hA : AM Y A) (ha : a < 4800) (H : ∀ Y', mTo Y Y' (lRow A a) → Q Y') : L_160_0 V g Y (n32 a) Q := by
  have h := mTo_r Y
  exact l_160_0 (s_160_l hA ha H 8 0 Y rfl ⟨h.1, h.2.1, h.2.2.1, h.2.2.2.1, h.2.2.2.2.1, fun r hr => (if_neg (by omega)).symm⟩)
theorem s_161_l {Y : xW} {Q : xW → Prop} (hA : AM Y A) (hp : p < 24) (ho : fI Y xM 5 = n32 p) (hf : fI Y xM 29 = 0) (H1 : stF A p → Q Y) (H0 : ¬ stF A p → Q (uI Y xM 29 12)) : ∀ (m k : Nat) (x : Int32), k + m = 8 → ((x = 1 ∧ A 13 (200 * p + 0) = 0 ∧ ∀ r, r < k → (lRow A (200 * p + 0) r).1 ≠ 0 → (lRow A (200 * p + 0) r).1 = 1 ∧ (lRow A (200 * p + 0) r).2.1 ≤ 0 ∧ 0 ≤ (lRow A (200 * p + 0) r).2.2) ∨ (x = 0 ∧ ¬ stF A p)) → L_161_24 V g Y x (n32 k) Q := by
  intro m
  induction m with
  | zero =>
    intro k x hk h
    refine l_161_24 ⟨fun _ => l_161_76 ?_, fun z => absurd ((n_le (a := 8) (by omega) (by omega)).mpr (by omega)) z⟩
    rcases h with ⟨rfl, h1, h⟩ | ⟨rfl, h⟩
    · exact ⟨fun z => absurd z (by decide), fun _ => l_161_86 (H1 ⟨h1, fun r hr => h r (by omega)⟩)⟩
    · exact ⟨fun _ => s_141 hf (l_161_86 (H0 h)), fun z => absurd rfl z⟩
  | succ m ih =>
    intro k x hk h
    have e8 : 1600 * p + k = 8 * (200 * p + 0) + k := by omega
    refine l_161_24 ⟨fun z => absurd ((n_le (a := 8) (by omega) (by omega)).mp z) (by omega), fun _ => ⟨fun c => l_161_76 ⟨fun _ => s_141 hf (l_161_86 (H0 ?_)), fun z => absurd c z⟩, fun c => ?_⟩⟩
    · rcases h with ⟨rfl, h⟩ | ⟨rfl, h⟩
      · exact absurd c (by decide)
      · exact h
    · rcases h with ⟨rfl, h1, h⟩ | ⟨rfl, h⟩
      · rw [ho, show (1600 : Int32) * n32 p + n32 k = n32 (1600 * p + k) from by rw [show (1600 : Int32) = n32 1600 from rfl, n_mul, n_add], e8, n_nat (by omega), hA 14 _ (by decide) (by decide) (by decide), hA 15 _ (by decide) (by decide) (by decide), hA 16 _ (by decide) (by decide) (by decide), show n32 k + 1 = n32 (k + 1) from n_add k 1]
        have i2 := n_in (show 8 * (200 * p + 0) + k < 38400 by omega) (show 38400 ≤ 2147483648 by omega)
        refine ⟨i2, i2, i2, s_142 (x := (1, 0, 0)) (y := lRow A (200 * p + 0) k) (fun z => ih (k + 1) 1 (by omega) (.inl ⟨rfl, h1, fun r hr => ?_⟩)) (fun z => ih (k + 1) 0 (by omega) (.inr ⟨rfl, fun y => z (fun n => ?_)⟩))⟩
        · by_cases e : r = k
          · rw [e]
            exact fun n => ⟨(z n).1.symm, (z n).2⟩
          · exact h r (by omega)
        · have := y.2 k (by omega) n
          exact ⟨this.1.symm, this.2⟩
      · exact absurd rfl c
theorem s_161 {Y : xW} {Q : xW → Prop} (hA : AM Y A) (hp : p < 24) (ho : fI Y xM 5 = n32 p) (hf : fI Y xM 29 = 0) (H1 : stF A p → Q Y) (H0 : ¬ stF A p → Q (uI Y xM 29 12)) : L_161_0 V g Y Q := by
  have e2 : (200 : Int32) * n32 p = n32 (200 * p + 0) := by rw [show (200 : Int32) = n32 200 from rfl, n_mul]; rfl
  refine l_161_0 ?_
  rw [ho, e2, n_nat (by omega), hA 13 _ (by decide) (by decide) (by decide)]
  refine ⟨n_in (by omega) (by omega), fun c => l_161_21 (s_161_l hA hp ho hf H1 H0 8 0 1 rfl (.inl ⟨rfl, c, fun r hr => absurd hr (by omega)⟩)), fun c => l_161_21 (s_161_l hA hp ho hf H1 H0 8 0 0 rfl (.inr ⟨rfl, fun z => c z.1⟩))⟩
/-- the loop -/
theorem s_162_l (hR : ∀ k, k < 21 → A 1 k = rdL k) (hL : ∀ q, q < 24 → A 6 q = 1 → WA A q) (W : WA A p) (hp : p < 24) : ∀ (m i : Nat) (Y : xW) (R : Row) (st : Int32) (fl : Bool) (Q : Int32 → xW → Prop), i + m = nW A p → AM Y A → fI Y xM 5 = n32 p → fI Y xM 28 = n32 i → fI Y xM 29 = 0 → fI Y xM 30 = st → (∃ f, f < nF A p ∧ st = n32 f) → fI Y xM 27 = (if fl = true then 1 else 0) → (fl = true → rq (mRow Y) R ∧ okR R) → (∀ Y', FV Y Y' → L_162_187 V g Y' (n32 p) (vfl A p m i R st fl) Q) → L_162_55 V g Y (n32 p) 0 Q := by
  intro m
  induction m with
  | zero =>
    intro i Y R st fl Q him hA ho hh hf hst hs hfl hRow H
    have w2 := W.1.2
    refine l_162_55 ?_
    rw [n_nat (by omega), hA 8 _ (by decide) (by decide) (by decide), W.1.1, hh, n_le (by omega) (by omega)]
    exact ⟨n_in hp (by omega), fun _ => H Y (FV_r Y), fun z => absurd (by omega) z⟩
  | succ m ih =>
    intro i Y R st fl Q him hA ho hh hf hst hs hfl hRow H
    have w2 := W.1.2
    have hi : i < nW A p := by omega
    have okw := W.2.2.2.2.1 i hi
    unfold vfl at H
    have out : ∀ (Y1 : xW) (x : Int32), FV Y Y1 → fI Y1 xM 28 = n32 i → fI Y1 xM 29 = x → ¬ x = 0 → (∀ Y', FV Y Y' → L_162_187 V g Y' (n32 p) (16 * n32 i + x) Q) → L_162_154 V g Y1 (n32 p) 0 (n32 (200 * p + i)) Q := by
      intro Y1 x f1 e28 e x0 H
      refine l_162_154 ⟨fun z => absurd (e.symm.trans z) x0, fun _ => l_162_174 (fun Y2 e2 => ?_)⟩
      have f2 : FV Y Y2 := by rw [e2]; exact FV_t f1 (FV_u _ (by omega) (by omega) _)
      have e29 : ¬ fI Y2 xM 29 = 0 := by
        rw [e2]
        exact fun z => x0 (e.symm.trans z)
      rw [e28, e]
      exact l_162_55 ⟨n_in hp (by omega), fun _ => H Y2 f2, fun _ => ⟨fun z => absurd z e29, fun _ => H Y2 f2⟩⟩
    have bad : ∀ (Y1 : xW) (x : Int32), FV Y Y1 → fI Y1 xM 28 = n32 i → fI Y1 xM 29 = x → ¬ x = 0 → (∀ Y', FV Y Y' → L_162_187 V g Y' (n32 p) (16 * n32 i + x) Q) → L_162_86 V g Y1 (n32 p) 0 Q := by
      intro Y1 x f1 e28 e x0 H
      have n0 : ¬ fI Y1 xM 29 = 0 := fun z => x0 (e.symm.trans z)
      have hA1 := AM_V f1 hA
      have i1 := n_in (show 200 * p + i < 4800 by omega) (show 4800 ≤ 2147483648 by omega)
      have at1 : L_162_137 V g Y1 (n32 p) 0 (n32 (200 * p + i)) Q := l_162_137 ⟨fun z => absurd z n0, fun _ => out Y1 x f1 e28 e x0 H⟩
      refine l_162_86 ?_
      rw [e28, ix200, n_nat (by omega), hA1 13 _ (by decide) (by decide) (by decide)]
      refine ⟨i1, fun c => ⟨fun _ => s_141f n0 at1, fun _ => at1⟩, fun c => ⟨i1, fun Y2 e2 => s_160 (A := A) (by rw [e2]; exact hA1) (by omega) (fun Y3 h3 => ?_)⟩⟩
      have f3 : FV Y Y3 := FV_t f1 (FV_t (by rw [e2]; exact FV_u _ (by omega) (by omega) _) (FV_m h3))
      have e29 : fI Y3 xM 29 = x := by rw [h3.1, e2]; exact e
      have e283 : fI Y3 xM 28 = n32 i := by rw [h3.1, e2]; exact e28
      exact l_162_137 ⟨fun z => absurd (e29.symm.trans z) x0, fun _ => out Y3 x f3 e283 e29 x0 H⟩
    have good : ∀ (Y3 : xW), FV Y Y3 → fI Y3 xM 28 = n32 i → fI Y3 xM 29 = 0 → fI Y3 xM 30 = inS A p i st → rq (mRow Y3) (inR A p i R) → okR (inR A p i R) → cmF A p i fl = 0 → L_162_137 V g Y3 (n32 p) 0 (n32 (200 * p + i)) Q := by
      intro Y3 f3 e28 e29 e30 r3 ok3 c
      rw [if_pos c] at H
      have hA3 := AM_V f3 hA
      have hs3 := inS_ok W (show i < 200 by omega) (fun _ => hs)
      have ho3 : fI Y3 xM 5 = n32 p := (f3.1 xM 5 (by simp)).trans ho
      have q3 := wF_rq (A := A) (p := p) (i := i) (st := inS A p i st) okw r3
      refine l_162_137 ⟨fun _ => ?_, fun z => absurd e29 z⟩
      rw [n_nat (by omega), hA3 12 _ (by decide) (by decide) (by decide)]
      refine ⟨n_in (by omega) (by omega), s_159 hR hL hA3 W hp ho3 e30 hs3 e28 hi e29 (rq_ok r3 ok3) okw (fun Y4 h4 => ?_)⟩
      obtain ⟨f4, e4, r4⟩ := h4
      have fv4 : FV Y Y4 := FV_t f3 (FV_F f4)
      have e284 : fI Y4 xM 28 = n32 i := (FR_i f4 (by decide) (by decide)).trans e28
      by_cases z : (wF A p i (inR A p i R) (inS A p i st) (A 12 (200 * p + i))).1 = 0
      · rw [if_pos z] at H
        have z' := q3.1.trans z
        have r4 := r4 z'
        refine l_162_154 ⟨fun _ => l_162_174 (fun Y5 e5 => ?_), fun y => absurd (e4.trans z') y⟩
        have fv5 : FV Y Y5 := by rw [e5]; exact FV_t fv4 (FV_u _ (by omega) (by omega) _)
        refine ih (i + 1) Y5 _ (inS A p i st) _ Q (by omega) (AM_V fv5 hA) ((fv5.1 xM 5 (by simp)).trans ho) ?_ ?_ ?_ hs3 ?_ (fun _ => ⟨?_, wF_ok okw ok3⟩) (fun Y' hV => H Y' (FV_t fv5 hV))
        · rw [e5, fI_uI, if_pos ⟨rfl, rfl⟩, e284]
          exact n_add i 1
        · rw [e5]
          exact e4.trans z'
        · rw [e5]
          exact (FR_i f4 (by decide) (by decide)).trans e30
        · rw [e5]
          exact r4.1.trans (by rw [q3.2.1])
        · have : mRow Y5 = mRow Y4 := by rw [e5]; rfl
          rw [this]
          exact rq_c r4.2 q3.2.2
      · rw [if_neg z] at H
        exact out Y4 _ fv4 e284 (e4.trans q3.1) z H
    have go : ¬ (i = 0 ∧ ¬ stF A p) → L_162_86 V g Y (n32 p) 0 Q := by
      intro ns
      have ec : cmF A p i fl = if A 13 (200 * p + i) < 0 ∧ fl = false then 7 else 0 := by unfold cmF; exact if_neg ns
      have i1 := n_in (show 200 * p + i < 4800 by omega) (show 4800 ≤ 2147483648 by omega)
      refine l_162_86 ?_
      rw [hh, ix200, n_nat (by omega), hA 13 _ (by decide) (by decide) (by decide)]
      refine ⟨i1, fun c => ⟨fun c2 => ?_, fun c2 => ?_⟩, fun c => ⟨i1, fun Y2 e2 => s_160 (A := A) (by rw [e2]; exact hA) (by omega) (fun Y3 h3 => ?_)⟩⟩
      · have f0 : fl = false := by
          rw [hfl] at c2
          cases fl with
          | false => rfl
          | true => exact absurd c2 (by decide)
        rw [if_pos ⟨c, f0⟩] at ec
        rw [ec, if_neg (by decide)] at H
        refine s_141 hf (l_162_137 ⟨fun z => absurd z (by rw [fI_uI, if_pos ⟨rfl, rfl⟩]; decide), fun _ => out _ 7 (FV_u _ (by omega) (by omega) _) hh rfl (by decide) H⟩)
      · have f1 : fl = true := by
          rw [hfl] at c2
          cases fl with
          | true => rfl
          | false => exact absurd rfl c2
        rw [if_neg (fun z => by rw [f1] at z; exact absurd z.2 (by decide))] at ec
        have eR : inR A p i R = R := by unfold inR; exact if_pos c
        have eS : inS A p i st = st := by unfold inS; exact if_pos c
        exact good Y (FV_r Y) hh hf (by rw [eS]; exact hst) (by rw [eR]; exact (hRow f1).1) (by rw [eR]; exact (hRow f1).2) ec
      · rw [if_neg (fun z => c z.1)] at ec
        have eR : inR A p i R = lRow A (200 * p + i) := by unfold inR; exact if_neg c
        have eS : inS A p i st = A 13 (200 * p + i) := by unfold inS; exact if_neg c
        have f3 : FV Y Y3 := FV_t (by rw [e2]; exact FV_u _ (by omega) (by omega) _) (FV_m h3)
        refine good Y3 f3 (by rw [h3.1, e2]; exact hh) (by rw [h3.1, e2]; exact hf) (by rw [h3.1, e2, eS]; rfl) ?_ ?_ ec
        · rw [eR]
          exact rq_c h3.2.2.2.2.2 (rq_r _)
        · rw [eR]
          exact W.2.2.2.2.2.2.1 i (by omega)
    refine l_162_55 ?_
    rw [n_nat (by omega), hA 8 _ (by decide) (by decide) (by decide), W.1.1, hh, n_le (by omega) (by omega)]
    refine ⟨n_in hp (by omega), fun z => absurd z (by omega), fun _ => ⟨fun _ => ⟨fun c => ?_, fun c => go (fun z => c (by rw [z.1]; rfl))⟩, fun z => absurd hf z⟩⟩
    have i0 : i = 0 := (n_eq (b := 0) (by omega) (by omega)).mp c
    refine s_161 hA hp ho hf (fun s => go (fun z => z.2 s)) (fun s => ?_)
    have ec : cmF A p i fl = 12 := by unfold cmF; exact if_pos ⟨i0, s⟩
    rw [ec, if_neg (by decide)] at H
    exact bad _ 12 (FV_u _ (by omega) (by omega) _) hh rfl (by decide) H
end MV
