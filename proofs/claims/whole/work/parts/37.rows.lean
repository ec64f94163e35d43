/-! rows that differ where no type is told are judged alike; the rows stay in order -/
theorem rq_r (R : Row) : rq R R := fun _ _ => ⟨rfl, fun _ => rfl⟩
theorem rq_c {a a' b : Row} (e : ∀ r, r < 8 → a r = a' r) (h : rq a' b) : rq a b := fun r hr => by rw [e r hr]; exact h r hr
theorem rq_set {c R : Row} (h : rq c R) (d : Nat) (x : Int32 × Int32 × Int32) : rq (setR c d x) (setR R d x) := by
  intro r hr
  unfold setR
  split
  · exact ⟨rfl, fun _ => rfl⟩
  · exact h r hr
theorem rq_mv {c R : Row} (h : rq c R) (d : Nat) {a : Nat} (a8 : a < 8) : rq (setR c d (c a)) (setR R d (R a)) := by
  intro r hr
  unfold setR
  split
  · exact h a a8
  · exact h r hr
theorem rq_ok {c R : Row} (h : rq c R) (ok : okR R) : okR c := by
  intro r hr
  by_cases z : (R r).1 = 0
  · exact .inl ((h r hr).1.trans z)
  · rw [(h r hr).2 z]
    exact ok r hr
theorem meets_rqL {c R B : Row} (h : rq c R) : meetsR c B ↔ meetsR R B := by
  constructor
  · intro m r hr hb
    have e := m r hr hb
    have nz : (R r).1 ≠ 0 := by rw [← (h r hr).1, e.1]; exact hb
    rw [← (h r hr).2 nz]
    exact e
  · intro m r hr hb
    have e := m r hr hb
    have nz : (R r).1 ≠ 0 := by rw [e.1]; exact hb
    rw [(h r hr).2 nz]
    exact e
theorem gF_rq {A : AF} {p to : Nat} {c R : Row} {st : Int32} (h : rq c R) : gF A p to c st = gF A p to R st := by
  unfold gF
  split
  · rfl
  · by_cases m : meetsR c (lRow A (200 * p + to))
    · rw [if_pos m, if_pos ((meets_rqL h).mp m)]
    · rw [if_neg m, if_neg (fun z => m ((meets_rqL h).mpr z))]
theorem nxF_rq {A : AF} {p i : Nat} {c R : Row} {st : Int32} (h : rq c R) : nxF A p i c st = nxF A p i R st := by
  unfold nxF
  rw [gF_rq h]
theorem cF_rq {A : AF} {p i q f : Nat} {c R : Row} {st : Int32} (h : rq c R) : cF A p i q f c st = cF A p i q f R st := by
  unfold cF
  split
  · rfl
  · by_cases m : meetsR c (lRow A (200 * q + eN A (8 * q + f)))
    · rw [if_pos m, if_pos ((meets_rqL h).mp m)]
    · rw [if_neg m, if_neg (fun z => m ((meets_rqL h).mpr z))]
theorem sumF_rq {c R : Row} {d a : Nat} {k : Int32} {l h l' h' : Int64} (q : rq c R) (a8 : a < 8) (e : (R a).1 ≠ 0 → k ≠ 0 → l = l' ∧ h = h') : (sumF d a k l h c).1 = (sumF d a k l' h' R).1 ∧ rq (sumF d a k l h c).2 (sumF d a k l' h' R).2 := by
  have ka := (q a a8).1
  unfold sumF
  rw [ka]
  by_cases c1 : (R a).1 = 0 ∨ k = 0 ∨ ((R a).1 = 2 ∧ k = 2)
  · rw [if_pos c1, if_pos c1]
    exact ⟨rfl, q⟩
  · obtain ⟨e1, e2⟩ := e (fun z => c1 (.inl z)) (fun z => c1 (.inr (.inl z)))
    rw [if_neg c1, if_neg c1, e1, e2]
    split
    · exact ⟨rfl, rq_set q _ _⟩
    · split
      · exact ⟨rfl, q⟩
      · exact ⟨rfl, rq_set q _ _⟩
theorem rq_lo {c R : Row} {a : Nat} (q : rq c R) (a8 : a < 8) (h : (R a).1 ≠ 0) : lo c a = lo R a ∧ hi c a = hi R a := by
  unfold lo hi
  rw [(q a a8).2 h]
  exact ⟨rfl, rfl⟩
theorem i10 : ((1 : Int32) = 0) = False := by decide
theorem i20 : ((2 : Int32) = 0) = False := by decide
theorem wk_rq {op d a b : Nat} {n s need : Int32} {c R : Row} (hop : op ≤ 14) (q : rq c R) (d8 : d < 8) (a8 : a < 8) (b8 : b < 8) : (wk op d a b n s need c).1 = (wk op d a b n s need R).1 ∧ rq (wk op d a b n s need c).2 (wk op d a b n s need R).2 := by
  have ka := (q a a8).1
  have kb := (q b b8).1
  have kd := (q d d8).1
  have one : ∀ {x : Nat}, (R x).1 = 1 → (R x).1 ≠ 0 := fun h z => by rw [h] at z; exact absurd z (by decide)
  have two : ∀ {x : Nat}, (R x).1 = 2 → (R x).1 ≠ 0 := fun h z => by rw [h] at z; exact absurd z (by decide)
  have hop' : op = 0 ∨ op = 1 ∨ op = 2 ∨ op = 3 ∨ op = 4 ∨ op = 5 ∨ op = 6 ∨ op = 7 ∨ op = 8 ∨ op = 9 ∨ op = 10 ∨ op = 11 ∨ op = 12 ∨ op = 13 ∨ op = 14 := by omega
  rcases hop' with rfl | rfl | rfl | rfl | rfl | rfl | rfl | rfl | rfl | rfl | rfl | rfl | rfl | rfl | rfl
  · exact ⟨rfl, q⟩
  · exact ⟨rfl, q⟩
  · exact ⟨rfl, rq_set q _ _⟩
  · exact ⟨rfl, rq_mv q _ a8⟩
  · rw [wk_4, wk_4]
    rw [kb]
    exact sumF_rq q a8 (fun h1 h2 => by rw [(rq_lo q a8 h1).1, (rq_lo q a8 h1).2, (rq_lo q b8 h2).1, (rq_lo q b8 h2).2]; exact ⟨rfl, rfl⟩)
  · rw [wk_5, wk_5]
    rw [kb]
    by_cases h : (R b).1 = 1
    · rw [if_pos h, if_pos h]
      exact sumF_rq q a8 (fun h1 _ => by rw [(rq_lo q a8 h1).1, (rq_lo q a8 h1).2, (rq_lo q b8 (one h)).1, (rq_lo q b8 (one h)).2]; exact ⟨rfl, rfl⟩)
    · rw [if_neg h, if_neg h]
      exact ⟨rfl, q⟩
  · rw [wk_6, wk_6]
    rw [ka, kb]
    by_cases h : (R a).1 = 1 ∧ (R b).1 = 1
    · rw [if_pos h, if_pos h, (rq_lo q a8 (one h.1)).1, (rq_lo q a8 (one h.1)).2, (rq_lo q b8 (one h.2)).1, (rq_lo q b8 (one h.2)).2]
      exact ⟨rfl, rq_set q _ _⟩
    · rw [if_neg h, if_neg h]
      exact ⟨rfl, q⟩
  · rw [wk_7, wk_7]
    rw [ka, kb]
    by_cases h : (R a).1 = 1 ∧ (R b).1 = 1
    · rw [if_pos h, if_pos h, (rq_lo q a8 (one h.1)).1, (rq_lo q a8 (one h.1)).2, (rq_lo q b8 (one h.2)).1, (rq_lo q b8 (one h.2)).2]
      split
      · exact ⟨rfl, q⟩
      · exact ⟨rfl, rq_set q _ _⟩
    · rw [if_neg h, if_neg h]
      exact ⟨rfl, q⟩
  · rw [wk_8, wk_8]
    rw [ka, kb]
    by_cases h : (R a).1 = 1 ∧ (R b).1 = 1
    · rw [if_pos h, if_pos h, (rq_lo q a8 (one h.1)).1, (rq_lo q a8 (one h.1)).2, (rq_lo q b8 (one h.2)).1, (rq_lo q b8 (one h.2)).2]
      split
      · exact ⟨rfl, q⟩
      · exact ⟨rfl, rq_set q _ _⟩
    · rw [if_neg h, if_neg h]
      exact ⟨rfl, q⟩
  · rw [wk_9, wk_9]
    exact sumF_rq q a8 (fun h1 _ => by rw [(rq_lo q a8 h1).1, (rq_lo q a8 h1).2]; exact ⟨rfl, rfl⟩)
  · rw [wk_10, wk_10]
    rw [ka]
    split
    · exact ⟨rfl, rq_set q _ _⟩
    · exact ⟨rfl, q⟩
  · rw [wk_11, wk_11]
    rw [ka]
    by_cases h : (R a).1 = 1
    · rw [if_pos h, if_pos h, (rq_lo q a8 (one h)).1, (rq_lo q a8 (one h)).2]
      exact ⟨rfl, rq_set q _ _⟩
    · rw [if_neg h, if_neg h]
      exact ⟨rfl, q⟩
  · exact ⟨rfl, rq_set q _ _⟩
  · rw [wk_13, wk_13]
    rw [ka]
    by_cases h : (R a).1 = 2
    · rw [if_pos h, if_pos h, (rq_lo q a8 (two h)).1, (rq_lo q a8 (two h)).2]
      split
      · exact ⟨rfl, q⟩
      · exact ⟨rfl, rq_set q _ _⟩
    · rw [if_neg h, if_neg h]
      exact ⟨rfl, q⟩
  · rw [wk_14, wk_14]
    rw [ka, kd]
    split
    · by_cases h : (R a).1 = 2
      · rw [if_pos h, if_pos h, (rq_lo q a8 (two h)).1, (rq_lo q a8 (two h)).2]
        split
        · exact ⟨rfl, q⟩
        · exact ⟨rfl, q⟩
      · rw [if_neg h, if_neg h]
        exact ⟨rfl, q⟩
    · exact ⟨rfl, q⟩
theorem rq_2 {c R : Row} (q : rq c R) (d a : Nat) (x y x' y' : Int32 × Int32 × Int32) (e1 : x = x') (e2 : y = y') : rq (setR (setR c d x) a y) (setR (setR R d x') a y') := by
  rw [e1, e2]
  exact rq_set (rq_set q _ _) _ _
/-- a word is judged alike -/
theorem wF_rq {A : AF} {p i : Nat} {st w : Int32} {c R : Row} (ok : okW w) (q : rq c R) : (wF A p i c st w).1 = (wF A p i R st w).1 ∧ (wF A p i c st w).2.2 = (wF A p i R st w).2.2 ∧ rq (wF A p i c st w).2.1 (wF A p i R st w).2.1 := by
  obtain ⟨o1, d8, a8, o4, o5⟩ := ok
  have ka := (q _ a8).1
  have kd := (q _ d8).1
  have one : ∀ {x : Nat}, (R x).1 = 1 → (R x).1 ≠ 0 := fun h z => by rw [h] at z; exact absurd z (by decide)
  by_cases hw : 1 ≤ wOp w ∧ wOp w ≤ 14
  · have h := wk_rq (op := wOp w) (b := wB w % 8) (n := n32 (wN w)) (s := wS w) (need := A 7 p) hw.2 q d8 a8 (Nat.mod_lt _ (by omega))
    rw [wF_wk hw.1 hw.2, wF_wk hw.1 hw.2, h.1]
    split
    · exact ⟨nxF_rq h.2, rfl, h.2⟩
    · exact ⟨rfl, rfl, h.2⟩
  · have hop : wOp w = 0 ∨ wOp w = 15 ∨ wOp w = 16 ∨ wOp w = 17 ∨ wOp w = 18 ∨ wOp w = 19 ∨ wOp w = 20 := by omega
    rcases hop with e | e | e | e | e | e | e
    · rw [wF_0 e, wF_0 e]
      rw [ka]
      split
      · exact ⟨rfl, rfl, q⟩
      · exact ⟨rfl, rfl, q⟩
    · rw [wF_15 e, wF_15 e]
      exact ⟨gF_rq q, rfl, q⟩
    · rw [wF_16 e, wF_16 e]
      rw [ka, kd]
      by_cases h : (R (wD w)).1 = 1 ∧ (R (wA w)).1 = 1
      · have ea := rq_lo q a8 (one h.2)
        have ed := rq_lo q d8 (one h.1)
        have qw : rq (lessW c (wD w) (wA w)) (lessW R (wD w) (wA w)) := by
          unfold lessW
          rw [ea.1, ea.2, ed.1, ed.2]
          exact rq_set (rq_set q _ _) _ _
        have qn : rq (lessN c (wD w) (wA w)) (lessN R (wD w) (wA w)) := by
          unfold lessN
          rw [ea.1, ea.2, ed.1, ed.2]
          exact rq_set (rq_set q _ _) _ _
        rw [if_pos h, if_pos h, ea.1, ea.2, ed.1, ed.2, gF_rq qw]
        split
        · exact ⟨nxF_rq q, rfl, q⟩
        · split
          · exact ⟨rfl, rfl, q⟩
          · split
            · exact ⟨rfl, rfl, q⟩
            · exact ⟨nxF_rq qn, rfl, qn⟩
      · rw [if_neg h, if_neg h]
        exact ⟨rfl, rfl, q⟩
    · rw [wF_17 e, wF_17 e]
      rw [ka, kd]
      by_cases h : (R (wD w)).1 = 1 ∧ (R (wA w)).1 = 1
      · have ea := rq_lo q a8 (one h.2)
        have ed := rq_lo q d8 (one h.1)
        have qw : rq (sameW c (wD w) (wA w)) (sameW R (wD w) (wA w)) := by
          unfold sameW
          rw [ea.1, ea.2, ed.1, ed.2]
          exact rq_set (rq_set q _ _) _ _
        rw [if_pos h, if_pos h, ea.1, ea.2, ed.1, ed.2, gF_rq qw]
        split
        · exact ⟨rfl, rfl, q⟩
        · split
          · exact ⟨rfl, rfl, q⟩
          · exact ⟨nxF_rq q, rfl, q⟩
      · rw [if_neg h, if_neg h]
        exact ⟨rfl, rfl, q⟩
    · rw [wF_18 e, wF_18 e]
      split
      · exact ⟨rfl, rfl, q⟩
      · exact ⟨cF_rq q, rfl, q⟩
    · rw [wF_19 e, wF_19 e]
      split
      · exact ⟨rfl, rfl, q⟩
      · exact ⟨cF_rq q, rfl, q⟩
    · rw [wF_20 e, wF_20 e]
      split
      · exact ⟨rfl, rfl, q⟩
      · by_cases m : meetsR c (oRow A (8 * p + st.toNatClampNeg))
        · rw [if_pos m, if_pos ((meets_rqL q).mp m)]
          exact ⟨rfl, rfl, q⟩
        · rw [if_neg m, if_neg (fun z => m ((meets_rqL q).mpr z))]
          exact ⟨rfl, rfl, q⟩
