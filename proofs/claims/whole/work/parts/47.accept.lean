/-! accepted programs; the whole of verify on both sides -/
def R0 : Row := fun _ => (0, 0, 0)
def vR (A : AF) (p : Nat) : Nat → Row × Int32 × Bool
  | 0 => (R0, 0, false)
  | i + 1 => ((wF A p i (inR A p i (vR A p i).1) (inS A p i (vR A p i).2.1) (A 12 (200 * p + i))).2.1, inS A p i (vR A p i).2.1, (wF A p i (inR A p i (vR A p i).1) (inS A p i (vR A p i).2.1) (A 12 (200 * p + i))).2.2)
/-- the row and the function at word k -/
def rwR (A : AF) (p k : Nat) : Row := inR A p k (vR A p k).1
def rwS (A : AF) (p k : Nat) : Int32 := inS A p k (vR A p k).2.1
def rwF (A : AF) (p k : Nat) : Int32 × Row × Bool := wF A p k (rwR A p k) (rwS A p k) (A 12 (200 * p + k))
def ACC (A : AF) (p : Nat) : Prop := nW A p ≠ 0 ∧ ∀ k, k < nW A p → cmF A p k (vR A p k).2.2 = 0 ∧ (rwF A p k).1 = 0
def rng (x : Int32) : Prop := 0 ≤ x.toInt ∧ x.toInt ≤ 12
theorem sumF_g {d a : Nat} {k : Int32} {l h : Int64} {R : Row} : rng (sumF d a k l h R).1 := by
  have c0 : rng 0 := ⟨by decide, by decide⟩
  have c2 : rng 2 := ⟨by decide, by decide⟩
  have c6 : rng 6 := ⟨by decide, by decide⟩
  unfold sumF
  split
  · exact c2
  · split
    · exact c0
    · split
      · exact c6
      · exact c0
theorem wk_g {op d a b : Nat} {n s need : Int32} {R : Row} (hop : op ≤ 14) : rng (wk op d a b n s need R).1 := by
  have hop' : op = 0 ∨ op = 1 ∨ op = 2 ∨ op = 3 ∨ op = 4 ∨ op = 5 ∨ op = 6 ∨ op = 7 ∨ op = 8 ∨ op = 9 ∨ op = 10 ∨ op = 11 ∨ op = 12 ∨ op = 13 ∨ op = 14 := by omega
  have c0 : rng 0 := ⟨by decide, by decide⟩
  have c2 : rng 2 := ⟨by decide, by decide⟩
  have c3 : rng 3 := ⟨by decide, by decide⟩
  have c5 : rng 5 := ⟨by decide, by decide⟩
  rcases hop' with rfl | rfl | rfl | rfl | rfl | rfl | rfl | rfl | rfl | rfl | rfl | rfl | rfl | rfl | rfl
  · exact c0
  · exact c0
  · exact c0
  · exact c0
  · exact sumF_g
  · rw [wk_5]
    split
    · exact sumF_g
    · exact c2
  · rw [wk_6]
    split
    · exact c0
    · exact c2
  · rw [wk_7]
    split
    · split
      · exact c5
      · exact c0
    · exact c2
  · rw [wk_8]
    split
    · split
      · exact c5
      · exact c0
    · exact c2
  · exact sumF_g
  · rw [wk_10]
    split
    · exact c0
    · exact c2
  · rw [wk_11]
    split
    · exact c0
    · exact c2
  · exact c0
  · rw [wk_13]
    split
    · split
      · exact c3
      · exact c0
    · exact c2
  · rw [wk_14]
    split
    · split
      · split
        · exact c3
        · exact c0
      · exact c2
    · exact c2
theorem gF_g {A : AF} {p to : Nat} {R : Row} {st : Int32} : rng (gF A p to R st) := by
  unfold gF
  split
  · exact ⟨by decide, by decide⟩
  · split
    · exact ⟨by decide, by decide⟩
    · exact ⟨by decide, by decide⟩
theorem nxF_g {A : AF} {p i : Nat} {R : Row} {st : Int32} : rng (nxF A p i R st) := by
  unfold nxF
  split
  · exact ⟨by decide, by decide⟩
  · exact gF_g
theorem cF_g {A : AF} {p i q f : Nat} {R : Row} {st : Int32} : rng (cF A p i q f R st) := by
  unfold cF
  split
  · exact ⟨by decide, by decide⟩
  · split
    · exact gF_g
    · exact ⟨by decide, by decide⟩
theorem wF_g {A : AF} {p i : Nat} {R : Row} {st w : Int32} (h20 : wOp w ≤ 20) : rng (wF A p i R st w).1 := by
  have c0 : rng 0 := ⟨by decide, by decide⟩
  have c2 : rng 2 := ⟨by decide, by decide⟩
  have c8 : rng 8 := ⟨by decide, by decide⟩
  have c10 : rng 10 := ⟨by decide, by decide⟩
  have c11 : rng 11 := ⟨by decide, by decide⟩
  by_cases hw : 1 ≤ wOp w ∧ wOp w ≤ 14
  · rw [wF_wk hw.1 hw.2]
    split
    · exact nxF_g
    · exact wk_g hw.2
  · have hop : wOp w = 0 ∨ wOp w = 15 ∨ wOp w = 16 ∨ wOp w = 17 ∨ wOp w = 18 ∨ wOp w = 19 ∨ wOp w = 20 := by omega
    rcases hop with e | e | e | e | e | e | e
    · rw [wF_0 e]
      split
      · exact c0
      · exact c2
    · rw [wF_15 e]
      exact gF_g
    · rw [wF_16 e]
      split
      · split
        · exact nxF_g
        · split
          · exact gF_g
          · split
            · exact c0
            · exact nxF_g
      · exact c2
    · rw [wF_17 e]
      split
      · split
        · exact gF_g
        · split
          · exact c0
          · exact nxF_g
      · exact c2
    · rw [wF_18 e]
      split
      · exact c8
      · exact cF_g
    · rw [wF_19 e]
      split
      · exact c8
      · exact cF_g
    · rw [wF_20 e]
      split
      · exact c11
      · split
        · exact c0
        · exact c10
theorem n16 {i : Nat} {x : Int32} (hi : i < 200) (hx : rng x) (h0 : ¬ x = 0) : ¬ 16 * n32 i + x = 0 := by
  intro z
  have e : (16 : Int32) * n32 i = n32 (16 * i) := by rw [show (16 : Int32) = n32 16 from rfl, n_mul]
  rw [e] at z
  have h := congrArg Int32.toInt z
  rw [i_add (by rw [n_toInt (by omega)]; have := hx.1; omega) (by rw [n_toInt (by omega)]; have := hx.2; omega), n_toInt (by omega), t0] at h
  apply h0
  rw [i_eq, t0]
  have := hx.1
  omega
theorem cmF_g {A : AF} {p i : Nat} {fl : Bool} : rng (cmF A p i fl) := by
  unfold cmF
  split
  · exact ⟨by decide, by decide⟩
  · split
    · exact ⟨by decide, by decide⟩
    · exact ⟨by decide, by decide⟩
theorem vfl_acc {A : AF} {p : Nat} (W : WA A p) : ∀ (m i : Nat), i + m = nW A p → vfl A p m i (vR A p i).1 (vR A p i).2.1 (vR A p i).2.2 = 0 → ∀ k, i ≤ k → k < nW A p → cmF A p k (vR A p k).2.2 = 0 ∧ (rwF A p k).1 = 0 := by
  have w2 := W.1.2
  intro m
  induction m with
  | zero => intro i him _ k h1 h2; omega
  | succ m ih =>
    intro i him h k h1 h2
    unfold vfl at h
    by_cases c : cmF A p i (vR A p i).2.2 = 0
    · rw [if_pos c] at h
      by_cases z : (wF A p i (inR A p i (vR A p i).1) (inS A p i (vR A p i).2.1) (A 12 (200 * p + i))).1 = 0
      · rw [if_pos z] at h
        by_cases e : k = i
        · rw [e]
          exact ⟨c, z⟩
        · exact ih (i + 1) (by omega) h k (by omega) h2
      · rw [if_neg z] at h
        exact absurd h (n16 (by omega) (wF_g (W.2.2.2.2.1 i (by omega)).1) z)
    · rw [if_neg c] at h
      exact absurd h (n16 (by omega) cmF_g c)
theorem ACC_of {A : AF} {p : Nat} (W : WA A p) (h0 : nW A p ≠ 0) (h : vfl A p (nW A p) 0 R0 0 false = 0) : ACC A p :=
  ⟨h0, fun k hk => vfl_acc W (nW A p) 0 (by omega) h k (by omega) hk⟩
theorem okC_of {A : AF} {p : Nat} (h : ACC A p) : okC A p := by
  intro k hk
  have z := (h.2 k hk).2
  unfold rwF at z
  refine ⟨fun e => ?_, fun e => ?_⟩
  · rw [wF_18 e] at z
    split at z
    · exact absurd (show (8 : Int32) = 0 from z) (by decide)
    next c => exact Classical.byContradiction (fun y => c (.inl (by omega)))
  · rw [wF_19 e] at z
    split at z
    · exact absurd (show (8 : Int32) = 0 from z) (by decide)
    · omega
/-- the answer of verify -/
noncomputable def vAns (A : AF) (p : Nat) : Int32 := if nW A p = 0 then 1 else vfl A p (nW A p) 0 R0 0 false
theorem vAns_acc {A : AF} {p : Nat} (W : WA A p) (h : vAns A p = 0) : ACC A p := by
  unfold vAns at h
  by_cases z : nW A p = 0
  · rw [if_pos z] at h
    exact absurd h (by decide)
  · rw [if_neg z] at h
    exact ACC_of W z h
/-- what the reference's verify leaves -/
def VM (Y Y' : xW) (p : Nat) (v : Int32) : Prop :=
  (∀ u k, ¬ (u = xM ∧ (k = 2 ∨ k = 5 ∨ (27 ≤ k ∧ k ≤ 30))) → fI Y' u k = fI Y u k) ∧ fI Y' xM 2 = 0 ∧ fI Y' xM 5 = -1 ∧
  (∀ u k i, ¬ (u = xM ∧ (k = 6 ∨ k = 11 ∨ k = 18 ∨ k = 24 ∨ k = 25 ∨ k = 26)) → fA Y' u k i = fA Y u k i) ∧
  (∀ j, fA Y' xM 11 j = if j = p then v else fA Y xM 11 j) ∧ (∀ j, fA Y' xM 6 j = if j = p then (if v = 0 then 1 else 2) else fA Y xM 6 j) ∧
  (∀ j, fA Y' xM 18 j = if v = 0 then dpo (fA Y xM) p (nF (fA Y xM) p) (fA Y xM 18) j else fA Y xM 18 j) ∧
  (∀ u k i, fL Y' u k i = fL Y u k i) ∧ (∀ u k i, fR Y' u k i = fR Y u k i) ∧ fC Y' = fC Y
section VF
variable {V : xV} {g : xG} {Y : xW} {p : Nat}
theorem s_162 {Q : Int32 → xW → Prop} (hR : ∀ k, k < 21 → fA Y xM 1 k = rdL k) (hL : ∀ q, q < 24 → fA Y xM 6 q = 1 → WA (fA Y xM) q) (W : WA (fA Y xM) p) (hp : p < 24) (ho : fI Y xM 5 = n32 p) (hlf : ∀ k, k < nL (fA Y xM) p → lF (fA Y xM) (8 * p + k) < 8) (H : ∀ Y', VM Y Y' p (vAns (fA Y xM) p) → Q (vAns (fA Y xM) p) Y') : L_162_0 V g Y Q := by
  have w2 := W.1.2
  have f1 := W.2.1.2.1
  have tail : ∀ Y1, (∀ u k, ¬ (u = xM ∧ (k = 2 ∨ (27 ≤ k ∧ k ≤ 30))) → fI Y1 u k = fI Y u k) → fI Y1 xM 2 = 0 → (∀ u k i, (u ≠ xM ∨ (k ≠ 24 ∧ k ≠ 25 ∧ k ≠ 26)) → fA Y1 u k i = fA Y u k i) → (∀ u k i, fL Y1 u k i = fL Y u k i) → (∀ u k i, fR Y1 u k i = fR Y u k i) → fC Y1 = fC Y → L_162_187 V g Y1 (n32 p) (vAns (fA Y xM) p) Q := by
    intro Y1 g1 g2 g3 g4 g5 g6
    have ip := n_in hp (show 24 ≤ 2147483648 by omega)
    have last : ∀ Y2 s, Y2 = uA Y1 xM 11 p (vAns (fA Y xM) p) → s = (if vAns (fA Y xM) p = 0 then 1 else 2) → L_162_208 V g Y2 (n32 p) (vAns (fA Y xM) p) (n32 p) s Q := by
      intro Y2 s e2 es
      refine l_162_208 ⟨ip, fun Y3 e3 Y4 e4 => ?_⟩
      rw [n_nat (by omega)] at e3
      have h4i : ∀ u k, ¬ (u = xM ∧ (k = 2 ∨ k = 5 ∨ (27 ≤ k ∧ k ≤ 30))) → fI Y4 u k = fI Y u k := by
        intro u k hu
        rw [e4, fI_uI, if_neg (fun z => hu ⟨z.1, .inr (.inl z.2)⟩), e3, e2]
        exact g1 u k (fun z => hu ⟨z.1, z.2.elim .inl (fun y => .inr (.inr y))⟩)
      have h42 : fI Y4 xM 2 = 0 := by
        rw [e4, fI_uI, if_neg (by simp), e3, e2]
        exact g2
      have h45 : fI Y4 xM 5 = -1 := by rw [e4, fI_uI, if_pos ⟨rfl, rfl⟩]
      have h4a : ∀ u k i, fA Y4 u k i = if u = xM ∧ k = 6 ∧ i = p then s else if u = xM ∧ k = 11 ∧ i = p then vAns (fA Y xM) p else fA Y1 u k i := by
        intro u k i
        rw [e4, fA_uI, e3, fA_uA, e2, fA_uA]
      have h4o : ∀ u k i, ¬ (u = xM ∧ (k = 6 ∨ k = 11 ∨ k = 18 ∨ k = 24 ∨ k = 25 ∨ k = 26)) → fA Y4 u k i = fA Y u k i := by
        intro u k i hu
        rw [h4a, if_neg (fun z => hu ⟨z.1, .inl z.2.1⟩), if_neg (fun z => hu ⟨z.1, .inr (.inl z.2.1)⟩)]
        refine g3 u k i (Classical.byContradiction (fun z => hu ⟨Classical.byContradiction (fun y => z (.inl y)), ?_⟩))
        by_cases k24 : k = 24
        · exact .inr (.inr (.inr (.inl k24)))
        · by_cases k25 : k = 25
          · exact .inr (.inr (.inr (.inr (.inl k25))))
          · exact .inr (.inr (.inr (.inr (.inr (Classical.byContradiction (fun k26 => z (.inr ⟨k24, k25, k26⟩)))))))
      have h11 : ∀ j, fA Y4 xM 11 j = if j = p then vAns (fA Y xM) p else fA Y xM 11 j := by
        intro j
        rw [h4a, if_neg (by simp), g3 xM 11 j (.inr ⟨by decide, by decide, by decide⟩)]
        by_cases e : j = p
        · rw [if_pos ⟨rfl, rfl, e⟩, if_pos e]
        · rw [if_neg (fun z => e z.2.2), if_neg e]
      have h6 : ∀ j, fA Y4 xM 6 j = if j = p then (if vAns (fA Y xM) p = 0 then 1 else 2) else fA Y xM 6 j := by
        intro j
        rw [h4a]
        by_cases e : j = p
        · rw [if_pos ⟨rfl, rfl, e⟩, if_pos e, es]
        · rw [if_neg (fun z => e z.2.2), if_neg (by simp), if_neg e, g3 xM 6 j (.inr ⟨by decide, by decide, by decide⟩)]
      have h18 : ∀ j, fA Y4 xM 18 j = fA Y xM 18 j := by
        intro j
        rw [h4a, if_neg (by simp), if_neg (by simp), g3 xM 18 j (.inr ⟨by decide, by decide, by decide⟩)]
      have h4l : ∀ u k i, fL Y4 u k i = fL Y u k i := by intro u k i; rw [e4, e3, e2]; exact g4 u k i
      have h4r : ∀ u k i, fR Y4 u k i = fR Y u k i := by intro u k i; rw [e4, e3, e2]; exact g5 u k i
      have h4c : fC Y4 = fC Y := by rw [e4, e3, e2]; exact g6
      refine ⟨fun v0 => ?_, fun v0 => l_162_223 (H Y4 ⟨h4i, h42, h45, h4o, h11, h6, fun j => ?_, h4l, h4r, h4c⟩)⟩
      · have acc := vAns_acc W v0
        have hAD : AD Y4 (fA Y xM) := fun k i h0 h1 h2 h3 h4 h5 => h4o xM k i (fun z => by omega)
        refine s_163 W (okC_of acc) hp hlf hAD (fun Y5 h5 d5 => l_162_223 (H Y5 ⟨fun u k hu => (h5.1 u k).trans (h4i u k hu), (h5.1 _ _).trans h42, (h5.1 _ _).trans h45, fun u k i hu => (h5.2.1 u k i ?_).trans (h4o u k i hu), fun j => (h5.2.1 _ _ _ (.inr (by decide))).trans (h11 j), fun j => (h5.2.1 _ _ _ (.inr (by decide))).trans (h6 j), fun j => ?_, fun u k i => (h5.2.2.1 u k i).trans (h4l u k i), fun u k i => (h5.2.2.2.1 u k i).trans (h4r u k i), h5.2.2.2.2.trans h4c⟩))
        · by_cases e : u = xM
          · exact .inr (fun z => hu ⟨e, .inr (.inr (.inl z))⟩)
          · exact .inl e
        · rw [d5, if_pos v0, show fA Y4 xM 18 = fA Y xM 18 from funext h18]
      · rw [if_neg v0]
        exact h18 j
    refine l_162_187 ⟨ip, fun Y2 e2 => ?_⟩
    rw [n_nat (by omega)] at e2
    exact ⟨fun v0 => last Y2 1 e2 (by rw [if_pos v0]), fun v0 => last Y2 2 e2 (by rw [if_neg v0])⟩
  refine l_162_0 (fun Y1 e1 => ?_)
  have ho1 : fI Y1 (10, 0, 0) 5 = n32 p := by rw [e1]; exact ho
  rw [ho1]
  refine ⟨fun _ Y2 e2 => ⟨.inl rfl, fun Y3 e3 Y4 e4 => ?_⟩, fun z => absurd ((i_le).mpr (by rw [t0, n_toInt (by omega)]; omega)) z⟩
  have a4 : ∀ u k i, fA Y4 u k i = fA Y u k i := by intro u k i; rw [e4, e3, e2, e1]; rfl
  have i4 : ∀ u k, ¬ (u = xM ∧ (k = 2 ∨ (27 ≤ k ∧ k ≤ 30))) → fI Y4 u k = fI Y u k := by
    intro u k hu
    rw [e4, fI_uI, if_neg (fun z => hu ⟨z.1, .inr (by omega)⟩), e3, fI_uI, if_neg (fun z => hu ⟨z.1, .inr (by omega)⟩), e2, fI_uI, if_neg (fun z => hu ⟨z.1, .inr (by omega)⟩), e1, fI_uI, if_neg (fun z => hu ⟨z.1, .inl z.2⟩)]
  have c4 : fI Y4 xM 2 = 0 := by rw [e4, e3, e2, e1]; rfl
  have l4 : ∀ u k i, fL Y4 u k i = fL Y u k i := by intro u k i; rw [e4, e3, e2, e1]; rfl
  have r4 : ∀ u k i, fR Y4 u k i = fR Y u k i := by intro u k i; rw [e4, e3, e2, e1]; rfl
  have q4 : fC Y4 = fC Y := by rw [e4, e3, e2, e1]; rfl
  rw [n_nat (by omega), a4]
  refine ⟨n_in hp (by omega), fun c => ?_, fun c Y5 e5 => ?_⟩
  · have c' : nW (fA Y xM) p = 0 := by
      rw [W.1.1] at c
      exact (n_eq (b := 0) (by omega) (by omega)).mp c
    have ev : vAns (fA Y xM) p = 1 := by unfold vAns; exact if_pos c'
    rw [← ev]
    exact tail Y4 i4 c4 (fun u k i _ => a4 u k i) l4 r4 q4
  · have c' : ¬ nW (fA Y xM) p = 0 := by
      intro z
      rw [W.1.1, z] at c
      exact c rfl
    have ev : vAns (fA Y xM) p = vfl (fA Y xM) p (nW (fA Y xM) p) 0 R0 0 false := by unfold vAns; exact if_neg c'
    have i5 : ∀ u k, ¬ (u = xM ∧ (k = 2 ∨ (27 ≤ k ∧ k ≤ 30))) → fI Y5 u k = fI Y u k := by
      intro u k hu
      rw [e5, fI_uI, if_neg (fun z => hu ⟨z.1, .inr (by omega)⟩)]
      exact i4 u k hu
    refine s_162_l (A := fA Y xM) hR hL W hp (nW (fA Y xM) p) 0 Y5 R0 0 false Q (by omega) (fun k i _ _ _ => ?_) ((i5 xM 5 (by simp)).trans ho) ?_ ?_ ?_ ⟨0, by omega, rfl⟩ ?_ (fun z => absurd z (by decide)) (fun Y6 f6 => ?_)
    · rw [e5]
      exact a4 xM k i
    · rw [e5]
      rfl
    · rw [e5, e4, e3, e2]
      rfl
    · rw [e5, e4]
      rfl
    · rw [e5, e4, e3]
      rfl
    · rw [← ev]
      refine tail Y6 (fun u k hu => (f6.1 u k (fun z => hu ⟨z.1, .inr z.2⟩)).trans (i5 u k hu)) ((f6.1 xM 2 (by simp)).trans (by rw [e5]; exact c4)) (fun u k i hu => (f6.2.1 u k i hu).trans (by rw [e5]; exact a4 u k i)) (fun u k i => (f6.2.2.1 u k i).trans (by rw [e5]; exact l4 u k i)) (fun u k i => (f6.2.2.2.1 u k i).trans (by rw [e5]; exact r4 u k i)) (f6.2.2.2.2.trans (by rw [e5]; exact q4))
end VF
