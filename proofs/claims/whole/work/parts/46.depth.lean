/-! depths, on both sides -/
def mxI (x y : Int32) : Int32 := if x < y then y else x
def dpi (A : AF) (D : Nat → Int32) (p f : Nat) : Nat → Nat → Int32 → Int32 → Int32
  | 0, _, deep, _ => deep
  | m + 1, k, deep, ins => dpi A D p f m (k + 1) (if inS A p k ins = n32 f then (if wOp (A 12 (200 * p + k)) = 18 then mxI deep (D (8 * p + wN (A 12 (200 * p + k))) + 1) else if wOp (A 12 (200 * p + k)) = 19 then mxI deep (D (8 * lP A (8 * p + wN (A 12 (200 * p + k))) + lF A (8 * p + wN (A 12 (200 * p + k)))) + 1) else deep) else deep) (inS A p k ins)
def dpo (A : AF) (p : Nat) : Nat → (Nat → Int32) → (Nat → Int32)
  | 0, D => D
  | f + 1, D => dpo A p f (fun j => if j = 8 * p + f then dpi A D p f (nW A p) 0 0 0 else D j)
/-- every call of an accepted program has its callee -/
def okC (A : AF) (p : Nat) : Prop := ∀ k, k < nW A p → (wOp (A 12 (200 * p + k)) = 18 → wN (A 12 (200 * p + k)) < nF A p) ∧ (wOp (A 12 (200 * p + k)) = 19 → wN (A 12 (200 * p + k)) < nL A p)
theorem dpo_o {A : AF} {p : Nat} : ∀ (f : Nat) (D : Nat → Int32) (j : Nat), (∀ f', f' < f → j ≠ 8 * p + f') → dpo A p f D j = D j := by
  intro f
  induction f with
  | zero => intro D j _; rfl
  | succ f ih =>
    intro D j h
    unfold dpo
    rw [ih _ j (fun f' h' => h f' (by omega)), if_neg (h f (by omega))]
/-- only the depths of program p's functions have changed -/
def DF (p : Nat) (Y Y' : xW) : Prop := (∀ u k, ¬ (u.1 = 0 ∧ u.2.1 = p ∧ k = 2) → fI Y' u k = fI Y u k) ∧ (∀ u k i, fA Y' u k i = fA Y u k i) ∧ (∀ u k i, fL Y' u k i = fL Y u k i) ∧ (∀ u k i, fR Y' u k i = fR Y u k i) ∧ fC Y' = fC Y
theorem DF_r (p : Nat) (Y : xW) : DF p Y Y := ⟨fun _ _ _ => rfl, fun _ _ _ => rfl, fun _ _ _ => rfl, fun _ _ _ => rfl, rfl⟩
theorem DF_t {p : Nat} {Y Y1 Y2 : xW} (h1 : DF p Y Y1) (h2 : DF p Y1 Y2) : DF p Y Y2 := ⟨fun u k hu => (h2.1 u k hu).trans (h1.1 u k hu), fun u k i => (h2.2.1 u k i).trans (h1.2.1 u k i), fun u k i => (h2.2.2.1 u k i).trans (h1.2.2.1 u k i), fun u k i => (h2.2.2.2.1 u k i).trans (h1.2.2.2.1 u k i), h2.2.2.2.2.trans h1.2.2.2.2⟩
/-- the same, and the program's state and answer too -/
def DW (p : Nat) (Y Y' : xW) : Prop := (∀ u k, ¬ ((u.1 = 0 ∧ u.2.1 = p ∧ k = 2) ∨ (u = (5, p, 0) ∧ (k = 8 ∨ k = 9))) → fI Y' u k = fI Y u k) ∧ (∀ u k i, fA Y' u k i = fA Y u k i) ∧ (∀ u k i, fL Y' u k i = fL Y u k i) ∧ (∀ u k i, fR Y' u k i = fR Y u k i) ∧ fC Y' = fC Y
theorem DW_t {p : Nat} {Y Y1 Y2 : xW} (h1 : DW p Y Y1) (h2 : DF p Y1 Y2) : DW p Y Y2 := ⟨fun u k hu => (h2.1 u k (fun z => hu (.inl z))).trans (h1.1 u k hu), fun u k i => (h2.2.1 u k i).trans (h1.2.1 u k i), fun u k i => (h2.2.2.1 u k i).trans (h1.2.2.1 u k i), fun u k i => (h2.2.2.2.1 u k i).trans (h1.2.2.2.1 u k i), h2.2.2.2.2.trans h1.2.2.2.2⟩
section DC
variable {V : xV} {g : xG} {Y0 : xW} {A : AF} {p : Nat}
theorem s_56 {Y : xW} {Q : Option xT → xW → Prop} {w : Int32} (C : CP Y0 A p) (W : WA A p) (F : DW p Y0 Y) (c18 : wOp w = 18 → wN w < nF A p) (c19 : wOp w = 19 → wN w < nL A p) (H18 : wOp w = 18 → Q (some (0, p, wN w)) Y) (H19 : wOp w = 19 → Q (some (0, lP A (8 * p + wN w), lF A (8 * p + wN w))) Y) (H0 : ¬ wOp w = 18 → ¬ wOp w = 19 → Q none Y) : L_56_0 V g Y (5, p, 0) w Q := by
  have hop := op_lt w
  have n6 := n_lt6 w
  have hfn : fI Y (5, p, 0) 6 = n32 (nF A p) := (F.1 _ _ (by simp)).trans (C.1.2.2.1.trans W.2.1.1)
  have hln : fI Y (5, p, 0) 7 = n32 (nL A p) := (F.1 _ _ (by simp)).trans (C.1.2.2.2.1.trans W.2.2.1.1)
  refine l_56_0 (s_117 ⟨fun e => s_121 ?_, fun e => s_117 ⟨fun e2 => s_121 ?_, fun e2 => l_56_39 ⟨fun _ => l_56_52 ?_, fun u z => absurd z (by simp)⟩⟩⟩)
  · have e' : wOp w = 18 := (n_eq (b := 18) (by omega) (by omega)).mp e
    have c := c18 e'
    refine s_45 hfn W.2.1.2.2 (by omega) (fun _ => ?_) (fun z => absurd c z)
    rw [F.2.2.2.1, (C.2.2.2.1 _ c).1]
    exact H18 e'
  · have e' : wOp w = 19 := (n_eq (b := 19) (by omega) (by omega)).mp e2
    have c := c19 e'
    obtain ⟨d1, d2, d3, d4⟩ := C.2.2.2.2 _ c
    refine s_46 hln W.2.2.1.2 (by omega) (fun _ => l_56_39 ?_) (fun z => absurd c z)
    rw [F.2.2.2.1, d1]
    refine ⟨fun z => absurd z (by simp), fun u z => ?_⟩
    cases z
    intro o2 eo
    rw [F.2.2.2.1, d3] at eo
    rw [eo]
    exact l_56_52 (H19 e')
  · exact H0 (fun z => e (by rw [z]; rfl)) (fun z => e2 (by rw [z]; rfl))
theorem s_55_l {Y : xW} {Q : Int32 → xW → Prop} {f : Nat} {D : Nat → Int32} (C : CP Y0 A p) (W : WA A p) (oC : okC A p) (F : DW p Y0 Y) (hD : ∀ f', f' < nF A p → fI Y (0, p, f') 2 = D (8 * p + f')) (hDl : ∀ k, k < nL A p → fI Y (0, lP A (8 * p + k), lF A (8 * p + k)) 2 = D (8 * lP A (8 * p + k) + lF A (8 * p + k))) : ∀ (m k : Nat) (deep ins : Int32), k + m = nW A p → Q (dpi A D p f m k deep ins) Y → L_55_7 V g Y (5, p, 0) (n32 f) deep ins (n32 k) Q := by
  have w2 := W.1.2
  have hn : fI Y (5, p, 0) 5 = n32 (nW A p) := (F.1 _ _ (by simp)).trans (C.1.2.1.trans W.1.1)
  intro m
  induction m with
  | zero =>
    intro k deep ins hk H
    refine l_55_7 ⟨fun _ => H, fun z => absurd ?_ z⟩
    rw [hn, n_le (by omega) (by omega)]
    omega
  | succ m ih =>
    intro k deep ins hk H
    have hk' : k < nW A p := by omega
    have cw : fA Y (5, p, 0) 1 k = A 12 (200 * p + k) := by rw [F.2.1]; exact C.2.1 k hk'
    unfold dpi at H
    have nx : ∀ o, L_55_35 V g Y (5, p, 0) (n32 f) deep (inS A p k ins) (n32 k) o Q := by
      intro o
      refine l_55_35 ⟨fun c => ?_, fun c => l_55_55 ⟨fun _ => l_55_74 ?_, fun u e => absurd e (by simp)⟩⟩
      · rw [if_pos c] at H
        rw [n_nat (by omega), cw]
        have last : ∀ u, L_185_0 V g Y deep (fI Y u 2 + 1) (fun x3 Y2 => L_55_74 V g Y2 (5, p, 0) (n32 f) x3 (inS A p k ins) (n32 k) o (some u) Q) → L_55_55 V g Y (5, p, 0) (n32 f) deep (inS A p k ins) (n32 k) o (some u) Q := by
          intro u h
          refine l_55_55 ⟨fun z => absurd z (by simp), fun u' e => ?_⟩
          cases e
          exact h
        refine ⟨n_in (by omega) (by omega), s_56 C W F (oC k hk').1 (oC k hk').2 (fun e => last _ (s_185 (l_55_74 ?_))) (fun e => last _ (s_185 (l_55_74 ?_))) (fun e1 e2 => l_55_55 ⟨fun _ => l_55_74 ?_, fun u e => absurd e (by simp)⟩)⟩
        · rw [if_pos e] at H
          rw [show n32 k + 1 = n32 (k + 1) from n_add k 1, hD _ ((oC k hk').1 e)]
          exact ih (k + 1) _ _ (by omega) H
        · rw [if_neg (fun z => by rw [z] at e; exact absurd e (by decide)), if_pos e] at H
          rw [show n32 k + 1 = n32 (k + 1) from n_add k 1, hDl _ ((oC k hk').2 e)]
          exact ih (k + 1) _ _ (by omega) H
        · rw [if_neg e1, if_neg e2] at H
          rw [show n32 k + 1 = n32 (k + 1) from n_add k 1]
          exact ih (k + 1) _ _ (by omega) H
      · rw [if_neg c] at H
        rw [show n32 k + 1 = n32 (k + 1) from n_add k 1]
        exact ih (k + 1) _ _ (by omega) H
    refine l_55_7 ⟨fun z => ?_, fun _ => s_44 hn w2 (by omega) (fun _ => ?_) (fun z => absurd hk' z)⟩
    · rw [hn, n_le (by omega) (by omega)] at z
      omega
    · rw [F.2.2.2.1]
      by_cases neg : A 13 (200 * p + k) < 0
      · rw [(C.2.2.1 k (by omega)).1 neg]
        have eS : inS A p k ins = ins := by unfold inS; exact if_pos neg
        rw [eS] at nx
        exact ⟨fun _ => nx _, fun u e => absurd e (by simp)⟩
      · obtain ⟨e1, e2, e3⟩ := (C.2.2.1 k (by omega)).2 neg
        rw [e1]
        refine ⟨fun z => absurd z (by simp), fun u e => ?_⟩
        cases e
        have eS : inS A p k ins = A 13 (200 * p + k) := by unfold inS; exact if_neg neg
        rw [eS] at nx
        rw [F.1 _ _ (by simp), e2]
        exact nx _
theorem s_54_l {Y1 : xW} (C : CP Y0 A p) (W : WA A p) (oC : okC A p) (K : DW p Y0 Y1) (hpl : ∀ k, k < nL A p → lP A (8 * p + k) ≠ p ∧ lF A (8 * p + k) < 8) {Q : xW → Prop} : ∀ (f : Nat) (Y : xW) (D : Nat → Int32), f ≤ nF A p → DF p Y1 Y → (∀ f', f' < nF A p → fI Y (0, p, f') 2 = D (8 * p + f')) → (∀ k, k < nL A p → fI Y (0, lP A (8 * p + k), lF A (8 * p + k)) 2 = D (8 * lP A (8 * p + k) + lF A (8 * p + k))) → (∀ Y', DF p Y1 Y' → (∀ f', f' < nF A p → fI Y' (0, p, f') 2 = dpo A p f D (8 * p + f')) → Q Y') → L_54_7 V g Y (5, p, 0) (n32 f - 1) Q := by
  have f8 := W.2.1.2.2
  intro f
  induction f with
  | zero =>
    intro Y D hf F h1 h2 H
    exact l_54_7 ⟨fun _ => H Y F h1, fun z => absurd (by decide) z⟩
  | succ f ih =>
    intro Y D hf F h1 h2 H
    have F0 := DW_t K F
    have hfn : fI Y (5, p, 0) 6 = n32 (nF A p) := (F0.1 _ _ (by simp)).trans (C.1.2.2.1.trans W.2.1.1)
    rw [show n32 (f + 1) - 1 = n32 f from n_sub (b := 1) (by omega)]
    refine l_54_7 ⟨fun z => absurd z (n_ge0 (by omega)), fun _ => s_45 hfn f8 (by omega) (fun _ => ?_) (fun z => absurd (by omega) z)⟩
    rw [F0.2.2.2.1, (C.2.2.2.1 f (by omega)).1]
    refine ⟨fun z => absurd z (by simp), fun u e => ?_⟩
    cases e
    refine l_55_0 (s_55_l C W oC F0 h1 h2 (nW A p) 0 0 0 (by omega) (fun Y6 e6 => l_54_30 ?_))
    rw [show n32 f + (-1) = n32 f - 1 from (Int32.sub_eq_add_neg _ _).symm]
    have F6 : DF p Y Y6 := by
      rw [e6]
      exact ⟨fun u k hu => by rw [fI_uI, if_neg (fun z => hu (by rw [z.1, z.2]; exact ⟨rfl, rfl, rfl⟩))], fun _ _ _ => rfl, fun _ _ _ => rfl, fun _ _ _ => rfl, rfl⟩
    refine ih Y6 (fun j => if j = 8 * p + f then dpi A D p f (nW A p) 0 0 0 else D j) (by omega) (DF_t F F6) (fun f' hf' => ?_) (fun k hk => ?_) H
    · rw [e6, fI_uI]
      by_cases e : f' = f
      · rw [e, if_pos ⟨rfl, rfl⟩, if_pos rfl]
      · rw [if_neg (fun z => e (by simpa using z.1)), if_neg (by omega)]
        exact h1 f' hf'
    · have hk2 := hpl k hk
      rw [e6, fI_uI, if_neg (fun z => hk2.1 (by have := z.1; simp at this; exact this.1)), if_neg (by omega)]
      exact h2 k hk
theorem s_54 {Y1 : xW} {Q : xW → Prop} {D : Nat → Int32} (C : CP Y0 A p) (W : WA A p) (oC : okC A p) (K : DW p Y0 Y1) (hpl : ∀ k, k < nL A p → lP A (8 * p + k) ≠ p ∧ lF A (8 * p + k) < 8) (h1 : ∀ f', f' < nF A p → fI Y1 (0, p, f') 2 = D (8 * p + f')) (h2 : ∀ k, k < nL A p → fI Y1 (0, lP A (8 * p + k), lF A (8 * p + k)) 2 = D (8 * lP A (8 * p + k) + lF A (8 * p + k))) (H : ∀ Y', DF p Y1 Y' → (∀ f', f' < nF A p → fI Y' (0, p, f') 2 = dpo A p (nF A p) D (8 * p + f')) → Q Y') : L_54_0 V g Y1 (5, p, 0) Q := by
  refine l_54_0 ?_
  rw [K.1 _ _ (by simp), C.1.2.2.1, W.2.1.1]
  exact s_54_l C W oC K hpl (nF A p) Y1 D (Nat.le_refl _) (DF_r p Y1) h1 h2 H
end DC
/-- only the reference's depths have changed -/
def DM (Y Y' : xW) : Prop := (∀ u k, fI Y' u k = fI Y u k) ∧ (∀ u k i, (u ≠ xM ∨ k ≠ 18) → fA Y' u k i = fA Y u k i) ∧ (∀ u k i, fL Y' u k i = fL Y u k i) ∧ (∀ u k i, fR Y' u k i = fR Y u k i) ∧ fC Y' = fC Y
theorem DM_r (Y : xW) : DM Y Y := ⟨fun _ _ => rfl, fun _ _ _ _ => rfl, fun _ _ _ => rfl, fun _ _ _ => rfl, rfl⟩
theorem DM_t {Y Y1 Y2 : xW} (h1 : DM Y Y1) (h2 : DM Y1 Y2) : DM Y Y2 := ⟨fun u k => (h2.1 u k).trans (h1.1 u k), fun u k i hu => (h2.2.1 u k i hu).trans (h1.2.1 u k i hu), fun u k i => (h2.2.2.1 u k i).trans (h1.2.2.1 u k i), fun u k i => (h2.2.2.2.1 u k i).trans (h1.2.2.2.1 u k i), h2.2.2.2.2.trans h1.2.2.2.2⟩
/-- the arrays but for the row, the depths, and what verify() itself writes -/
def AD (Y : xW) (A : AF) : Prop := ∀ k i, k ≠ 6 → k ≠ 11 → k ≠ 18 → k ≠ 24 → k ≠ 25 → k ≠ 26 → fA Y xM k i = A k i
section DD
variable {V : xV} {g : xG} {Y0 : xW} {A : AF} {p : Nat}
theorem AD_DM {Y Y' : xW} (h : DM Y Y') (a : AD Y A) : AD Y' A := fun k i h0 h1 h2 h3 h4 h5 => (h.2.1 xM k i (.inr h2)).trans (a k i h0 h1 h2 h3 h4 h5)
theorem s_163_i {Y : xW} {Q : xW → Prop} {f : Nat} {D : Nat → Int32} (W : WA A p) (oC : okC A p) (hp : p < 24) (hf : f < 8) (hlf : ∀ k, k < nL A p → lF A (8 * p + k) < 8) (hA : AD Y A) (hD : ∀ j, fA Y xM 18 j = D j) : ∀ (m k : Nat) (deep ins : Int32), k + m = nW A p → (∀ Y', Y' = uA Y xM 18 (8 * p + f) (dpi A D p f m k deep ins) → L_163_9 V g Y' (n32 p) (n32 f + (-1)) Q) → L_163_21 V g Y (n32 p) (n32 f) deep ins (n32 k) Q := by
  have w2 := W.1.2
  have f8 := W.2.1.2.2
  have l8 := W.2.2.1.2
  intro m
  induction m with
  | zero =>
    intro k deep ins hk H
    refine l_163_21 ?_
    rw [n_nat (by omega), hA 8 _ (by decide) (by decide) (by decide) (by decide) (by decide) (by decide), W.1.1, n_le (by omega) (by omega), ix8, n_nat (by omega)]
    exact ⟨n_in hp (by omega), fun _ => ⟨n_in (by omega) (by omega), H⟩, fun z => absurd (by omega) z⟩
  | succ m ih =>
    intro k deep ins hk H
    have hk' : k < nW A p := by omega
    unfold dpi at H
    have n6 := n_lt6 (A 12 (200 * p + k))
    have hop := op_lt (A 12 (200 * p + k))
    have i1 := n_in (show 200 * p + k < 4800 by omega) (show 4800 ≤ 2147483648 by omega)
    have nx : L_163_85 V g Y (n32 p) (n32 f) deep (inS A p k ins) (n32 k) (A 12 (200 * p + k)) (n32 (wN (A 12 (200 * p + k)))) Q := by
      refine l_163_85 ⟨fun c => s_127 ⟨fun e => ?_, fun e => l_163_123 (s_127 ⟨fun e2 => ?_, fun e2 => l_163_173 ?_⟩)⟩, fun c => l_163_173 ?_⟩
      · have e' : wOp (A 12 (200 * p + k)) = 18 := (n_eq (b := 18) (by omega) (by omega)).mp e
        have c2 := (oC k hk').1 e'
        rw [if_pos c, if_pos e'] at H
        rw [ix8, n_nat (by omega), hD]
        refine ⟨n_in (by omega) (by omega), s_185 (l_163_123 (s_127 ⟨fun e2 => ?_, fun _ => l_163_173 ?_⟩))⟩
        · rw [e'] at e2
          exact absurd e2 (by decide)
        · rw [show n32 k + 1 = n32 (k + 1) from n_add k 1, Int32.add_comm 1]
          exact ih (k + 1) _ _ (by omega) H
      · have e' : wOp (A 12 (200 * p + k)) = 19 := (n_eq (b := 19) (by omega) (by omega)).mp e2
        have c2 := (oC k hk').2 e'
        obtain ⟨q1, q2, q3, q4, q5, q6, q7, q8⟩ := W.2.2.2.2.2.2.2.2.2 _ c2
        have q9 := hlf _ c2
        rw [if_pos c, if_neg (fun z => by rw [z] at e'; exact absurd e' (by decide)), if_pos e'] at H
        rw [ix8, n_nat (by omega), hA 22 _ (by decide) (by decide) (by decide) (by decide) (by decide) (by decide), hA 23 _ (by decide) (by decide) (by decide) (by decide) (by decide) (by decide), q1, q2, ix8, n_nat (by omega), hD]
        refine ⟨n_in (by omega) (by omega), n_in (by omega) (by omega), n_in (by omega) (by omega), s_185 (l_163_173 ?_)⟩
        rw [show n32 k + 1 = n32 (k + 1) from n_add k 1, Int32.add_comm 1]
        exact ih (k + 1) _ _ (by omega) H
      · rw [if_pos c, if_neg (fun z => e (by rw [z]; rfl)), if_neg (fun z => e2 (by rw [z]; rfl))] at H
        rw [show n32 k + 1 = n32 (k + 1) from n_add k 1]
        exact ih (k + 1) _ _ (by omega) H
      · rw [if_neg c] at H
        rw [show n32 k + 1 = n32 (k + 1) from n_add k 1]
        exact ih (k + 1) _ _ (by omega) H
    refine l_163_21 ?_
    rw [n_nat (show p < 2147483648 by omega), hA 8 _ (by decide) (by decide) (by decide) (by decide) (by decide) (by decide), W.1.1, n_le (by omega) (by omega)]
    refine ⟨n_in hp (by omega), fun z => absurd z (by omega), fun _ => ?_⟩
    rw [ix200, n_nat (show 200 * p + k < 2147483648 by omega), hA 12 _ (by decide) (by decide) (by decide) (by decide) (by decide) (by decide)]
    refine ⟨i1, s_130 ⟨i1, ?_⟩⟩
    rw [hA 13 _ (by decide) (by decide) (by decide) (by decide) (by decide) (by decide)]
    refine ⟨fun neg => ?_, fun neg => ⟨i1, ?_⟩⟩
    · have eS : inS A p k ins = ins := by unfold inS; exact if_pos neg
      rw [eS] at nx
      exact nx
    · have eS : inS A p k ins = A 13 (200 * p + k) := by unfold inS; exact if_neg neg
      rw [eS] at nx
      exact nx
theorem s_163_l (W : WA A p) (oC : okC A p) (hp : p < 24) (hlf : ∀ k, k < nL A p → lF A (8 * p + k) < 8) {Q : xW → Prop} : ∀ (f : Nat) (Y : xW) (D : Nat → Int32), f ≤ 8 → DM Y0 Y → AD Y A → (∀ j, fA Y xM 18 j = D j) → (∀ Y', DM Y0 Y' → (∀ j, fA Y' xM 18 j = dpo A p f D j) → Q Y') → L_163_9 V g Y (n32 p) (n32 f - 1) Q := by
  intro f
  induction f with
  | zero =>
    intro Y D hf F hA hD H
    exact l_163_9 ⟨fun _ => H Y F hD, fun z => absurd (by decide) z⟩
  | succ f ih =>
    intro Y D hf F hA hD H
    rw [show n32 (f + 1) - 1 = n32 f from n_sub (b := 1) (by omega)]
    refine l_163_9 ⟨fun z => absurd z (n_ge0 (by omega)), fun _ => s_163_i W oC hp (by omega) hlf hA hD (nW A p) 0 0 0 (by omega) (fun Y6 e6 => ?_)⟩
    rw [show n32 f + (-1) = n32 f - 1 from (Int32.sub_eq_add_neg _ _).symm]
    have F6 : DM Y Y6 := by
      rw [e6]
      refine ⟨fun _ _ => rfl, fun u k i hu => ?_, fun _ _ _ => rfl, fun _ _ _ => rfl, rfl⟩
      rw [fA_uA, if_neg (fun z => hu.elim (fun y => y z.1) (fun y => y z.2.1))]
    refine ih Y6 (fun j => if j = 8 * p + f then dpi A D p f (nW A p) 0 0 0 else D j) (by omega) (DM_t F F6) (AD_DM F6 hA) (fun j => ?_) H
    rw [e6, fA_uA]
    by_cases e : j = 8 * p + f
    · rw [if_pos ⟨rfl, rfl, e⟩, if_pos e]
    · rw [if_neg (fun z => e z.2.2), if_neg e]
      exact hD j
theorem s_163 {Y : xW} {Q : xW → Prop} (W : WA A p) (oC : okC A p) (hp : p < 24) (hlf : ∀ k, k < nL A p → lF A (8 * p + k) < 8) (hA : AD Y A) (H : ∀ Y', DM Y Y' → (∀ j, fA Y' xM 18 j = dpo A p (nF A p) (fA Y xM 18) j) → Q Y') : L_163_0 V g Y (n32 p) Q := by
  refine l_163_0 ?_
  rw [n_nat (by omega), hA 9 _ (by decide) (by decide) (by decide) (by decide) (by decide) (by decide), W.2.1.1]
  exact ⟨n_in hp (by omega), s_163_l W oC hp hlf (nF A p) Y _ W.2.1.2.2 (DM_r Y) hA (fun _ => rfl) H⟩
end DD
