/-! the class's judge over all words -/
def inR (A : AF) (p i : Nat) (R : Row) : Row := if A 13 (200 * p + i) < 0 then R else lRow A (200 * p + i)
def inS (A : AF) (p i : Nat) (st : Int32) : Int32 := if A 13 (200 * p + i) < 0 then st else A 13 (200 * p + i)
def stF (A : AF) (p : Nat) : Prop := A 13 (200 * p + 0) = 0 ∧ zerosR (lRow A (200 * p + 0))
/-- may word i not be come to: 12, 7, or 0 -/
noncomputable def cmF (A : AF) (p i : Nat) (fl : Bool) : Int32 := @ite _ (i = 0 ∧ ¬ stF A p) (Classical.propDecidable _) 12 (if A 13 (200 * p + i) < 0 ∧ fl = false then 7 else 0)
/-- the answer of the words from i on, m of them -/
noncomputable def vfl (A : AF) (p : Nat) : Nat → Nat → Row → Int32 → Bool → Int32
  | 0, _, _, _, _ => 0
  | m + 1, i, R, st, fl => if cmF A p i fl = 0 then (if (wF A p i (inR A p i R) (inS A p i st) (A 12 (200 * p + i))).1 = 0 then vfl A p m (i + 1) (wF A p i (inR A p i R) (inS A p i st) (A 12 (200 * p + i))).2.1 (inS A p i st) (wF A p i (inR A p i R) (inS A p i st) (A 12 (200 * p + i))).2.2 else 16 * n32 i + (wF A p i (inR A p i R) (inS A p i st) (A 12 (200 * p + i))).1) else 16 * n32 i + cmF A p i fl
theorem zeros_rq {a b : Row} (h : rq a b) : zerosR a ↔ zerosR b := by
  constructor
  · intro m r hr hb
    have e := (h r hr).2 hb
    rw [← e]
    exact m r hr (by rw [e]; exact hb)
  · intro m r hr hb
    have hb' : (b r).1 ≠ 0 := by rw [← (h r hr).1]; exact hb
    rw [(h r hr).2 hb']
    exact m r hr hb'
section FF
variable {V : xV} {g : xG} {Y : xW} {A : AF} {p i : Nat} {st : Int32}
theorem s_4 {Q : Int32 → xW → Prop} (C : CP Y A p) (W : WA A p) (hw : 0 < nW A p) (H1 : stF A p → Q 1 Y) (H0 : ¬ stF A p → Q 0 Y) : L_4_0 V g Y (fR Y (5, p, 0) 2 0) Q := by
  have w2 := W.1.2
  by_cases neg : A 13 (200 * p + 0) < 0
  · have e1 := (C.2.2.1 0 (by omega)).1 neg
    rw [e1]
    refine l_4_0 ⟨fun _ => l_4_25 (l_4_26 ⟨.inl rfl, H0 (fun z => ?_)⟩), fun u e => absurd e (by simp)⟩
    rw [z.1] at neg
    exact absurd neg (by decide)
  · obtain ⟨e1, e2, e3⟩ := (C.2.2.1 0 (by omega)).2 neg
    rw [e1]
    refine l_4_0 ⟨fun z => absurd z (by simp), fun u e => ?_⟩
    cases e
    rw [e2]
    refine ⟨fun c => s_86 (fun m => ⟨fun z => absurd z (by decide), fun _ => l_4_26 ⟨.inr rfl, H1 ⟨c, (zeros_rq e3).mp m⟩⟩⟩) (fun m => ⟨fun _ => l_4_25 (l_4_26 ⟨.inl rfl, H0 (fun z => m ((zeros_rq e3).mpr z.2))⟩), fun z => absurd rfl z⟩), fun c => l_4_25 (l_4_26 ⟨.inl rfl, H0 (fun z => c z.1)⟩)⟩
/-- coming to a word -/
theorem s_3 {Q : Int32 → xW → Prop} {fl : Bool} (C : CP Y A p) (W : WA A p) (hi : i < nW A p) (hfl : fI Y (1, 0, 0) 2 = (if fl = true then 1 else 0))
    (H1 : ¬ cmF A p i fl = 0 → Q (cmF A p i fl) Y)
    (H0 : cmF A p i fl = 0 → ∀ Y', JF Y Y' → fI Y' (1, 0, 0) 3 = inS A p i (fI Y (1, 0, 0) 3) → rq (gRow Y' (23, 0, 0)) (inR A p i (gRow Y (23, 0, 0))) → Q 0 Y') : L_3_0 V g Y (fR Y (5, p, 0) 2 i) (n32 i) Q := by
  have w2 := W.1.2
  have go : ¬ (i = 0 ∧ ¬ stF A p) → L_3_14 V g Y (fR Y (5, p, 0) 2 i) (n32 i) Q := by
    intro ns
    have ec : cmF A p i fl = if A 13 (200 * p + i) < 0 ∧ fl = false then 7 else 0 := by unfold cmF; exact if_neg ns
    rw [ec] at H1 H0
    unfold inS inR at H0
    by_cases neg : A 13 (200 * p + i) < 0
    · rw [(C.2.2.1 i (by omega)).1 neg]
      refine l_3_14 ⟨fun _ => ⟨fun c => l_3_31 ?_, fun c => l_3_31 ?_⟩, fun u e => absurd e (by simp)⟩
      · rw [hfl] at c
        have f0 : fl = false := by
          cases fl with
          | false => rfl
          | true => exact absurd c (by decide)
        rw [if_pos ⟨neg, f0⟩] at H1
        exact H1 (by decide)
      · rw [hfl] at c
        have f1 : fl = true := by
          cases fl with
          | true => rfl
          | false => exact absurd rfl c
        rw [if_neg (fun z => by rw [f1] at z; exact absurd z.2 (by decide)), if_pos neg, if_pos neg] at H0
        exact H0 rfl Y (JF_r Y) rfl (rq_r _)
    · obtain ⟨e1, e2, e3⟩ := (C.2.2.1 i (by omega)).2 neg
      rw [e1]
      refine l_3_14 ⟨fun z => absurd z (by simp), fun u e => ?_⟩
      cases e
      intro Y2 eY
      rw [e2] at eY
      refine s_84 (u := (22, p, i)) (by simp) (fun Y3 h3 => ?_)
      rw [if_neg (fun z => neg z.1), if_neg neg, if_neg neg] at H0
      refine H0 rfl Y3 (JF_t (by rw [eY]; exact JF_uI _ _ _) (JF_row h3)) (by rw [h3.1, eY]; rfl) (rq_c h3.2.2.2.2.2 ?_)
      have : gRow Y2 (22, p, i) = gRow Y (22, p, i) := by rw [eY]; rfl
      rw [this]
      exact e3
  refine l_3_0 ⟨fun c => ?_, fun c => go (fun z => c (by rw [z.1]; rfl))⟩
  have i0 : i = 0 := (n_eq (b := 0) (by omega) (by omega)).mp c
  subst i0
  refine s_4 C W hi (fun m => ⟨fun z => absurd z (by decide), fun _ => go (fun z => z.2 m)⟩) (fun m => ⟨fun _ => ?_, fun z => absurd rfl z⟩)
  have ec : cmF A p 0 fl = 12 := by unfold cmF; exact if_pos ⟨rfl, m⟩
  rw [ec] at H1
  exact H1 (by decide)
theorem inR_rq {c R : Row} (h : rq c R) : rq (inR A p i c) (inR A p i R) := by
  unfold inR
  split
  · exact h
  · exact rq_r _
theorem inR_ok {R : Row} (W : WA A p) (hi : i < 200) (h : A 13 (200 * p + i) < 0 → okR R) : okR (inR A p i R) := by
  unfold inR
  split
  next z => exact h z
  next z => exact W.2.2.2.2.2.2.1 i hi
theorem inS_ok (W : WA A p) (hi : i < 200) (h : A 13 (200 * p + i) < 0 → ∃ f, f < nF A p ∧ st = n32 f) : ∃ f, f < nF A p ∧ inS A p i st = n32 f := by
  unfold inS
  split
  next z => exact h z
  next z =>
    rcases W.2.2.2.2.2.1 i hi with e | ⟨f, h1, h2, h3⟩
    · rw [e] at z
      exact absurd (by decide) z
    · exact ⟨f, h1, h2⟩
end FF
