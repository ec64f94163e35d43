/-! the law's loop over the script -/
theorem with_xz {V : xV} {g : xG} {Y : xW} {l : Int32} {Q : Int32 → xG → xW → Prop} (H : XZ g Y → L_198_23 V g Y l Q) : L_198_23 V g Y l Q := fun h lv R a b c d e => H R.2.2.2.2.2.1 h lv R a b c d e
theorem as2g {a b : Prop} {P : Int32 → xG → xW → Prop} : (fun x g Y => (a ∧ b) ∧ P x g Y) = (fun x g Y => a ∧ b ∧ P x g Y) := by
  funext x g Y
  exact propext and_assoc
theorem as2w {a b : Prop} {P : Int32 → xW → Prop} : (fun x Y => (a ∧ b) ∧ P x Y) = (fun x Y => a ∧ b ∧ P x Y) := by
  funext x Y
  exact propext and_assoc
theorem as5w {a b c d e : Prop} {P : Int32 → xW → Prop} : (fun x Y => (a ∧ b ∧ c ∧ d ∧ e) ∧ P x Y) = (fun x Y => a ∧ b ∧ c ∧ d ∧ e ∧ P x Y) := by
  funext x Y
  exact propext ⟨fun h => ⟨h.1.1, h.1.2.1, h.1.2.2.1, h.1.2.2.2.1, h.1.2.2.2.2, h.2⟩, fun h => ⟨⟨h.1, h.2.1, h.2.2.1, h.2.2.2.1, h.2.2.2.2.1⟩, h.2.2.2.2.2⟩⟩
theorem law_stop {V : xV} {k : Nat} (hL : V.2.2.1 ≤ 3072) (hk : 6 * k ≤ V.2.2.1) (h : V.2.2.1 < 6 * k + 6) : Int32.ofNat V.2.2.1 - 6 < n32 (6 * k) := by
  have e6 : (6 : Int32).toInt = 6 := rfl
  have eL : (Int32.ofNat V.2.2.1).toInt = V.2.2.1 := n_toInt (by omega)
  rw [i_lt, i_sub (by rw [eL, e6]; omega) (by rw [eL, e6]; omega), eL, e6, n_toInt (by omega)]
  omega
theorem law_loop {V : xV} {c0 s0 : Nat} {Q : Int32 → xG → xW → Prop} (hL : V.2.2.1 ≤ 3072) (HQ : ∀ g Y, (fC Y).2.1 ≤ c0 + 10 * 512 → (fC Y).2.2 ≤ s0 + 456 * 512 → Q 1 g Y) : ∀ (m k : Nat) (g : xG) (Y : xW), V.2.2.1 < 6 * (k + m) + 6 → 6 * k ≤ V.2.2.1 → Inv g Y → (fC Y).2.1 ≤ c0 + 10 * k → (fC Y).2.2 ≤ s0 + 456 * k → L_198_23 V g Y (n32 (6 * k)) Q := by
  intro m
  induction m with
  | zero =>
    intro k g Y h1 h2 hi hc hs
    have k5 : k ≤ 512 := by omega
    exact l_198_23 ⟨fun _ => ⟨.inr rfl, HQ g Y (by omega) (by omega)⟩, fun z => absurd (law_stop hL h2 h1) z⟩
  | succ m ih =>
    intro k g Y h1 h2 hi hc hs
    have k5 : k ≤ 512 := by omega
    by_cases c : V.2.2.1 < 6 * k + 6
    · exact l_198_23 ⟨fun _ => ⟨.inr rfl, HQ g Y (by omega) (by omega)⟩, fun z => absurd (law_stop hL h2 c) z⟩
    · refine with_xz (fun hz => l_198_23 ⟨fun _ => ⟨.inr rfl, HQ g Y (by omega) (by omega)⟩, fun _ => ?_⟩)
      have nx : ∀ g' Y', Inv g' Y' → CT Y Y' → L_198_1070 V g' Y' (n32 (6 * k)) Q := by
        intro g' Y' hi' ct
        obtain ⟨t1, t2⟩ := ct
        have u1 : (fC Y').2.1 ≤ c0 + 10 * (k + 1) := by omega
        have u2 : (fC Y').2.2 ≤ s0 + 456 * (k + 1) := by
          rw [Nat.mul_succ, ← Nat.add_assoc]
          exact Nat.le_trans t2 (Nat.add_le_add_right hs 456)
        have u3 : V.2.2.1 < 6 * (k + 1 + m) + 6 := by omega
        have u4 : 6 * (k + 1) ≤ V.2.2.1 := by omega
        have e : n32 (6 * k) + 6 = n32 (6 * (k + 1)) := by
          rw [show (6 : Int32) = n32 6 from rfl, n_add]
          rfl
        refine l_198_1070 ?_
        rw [e]
        exact ih (k + 1) g' Y' u3 u4 hi' u1 u2
      have v0 : vp_in (n32 (6 * k)) V.2.2.1 := n_in (by omega) (by omega)
      have vv : ∀ d, d < 6 → vp_in (n32 (6 * k) + n32 d) V.2.2.1 := fun d hd => by rw [n_add]; exact n_in (by omega) (by omega)
      have v1 : vp_in (n32 (6 * k) + 1) V.2.2.1 := vv 1 (by omega)
      have v2 : vp_in (n32 (6 * k) + 2) V.2.2.1 := vv 2 (by omega)
      have v3 : vp_in (n32 (6 * k) + 3) V.2.2.1 := vv 3 (by omega)
      have v4 : vp_in (n32 (6 * k) + 4) V.2.2.1 := vv 4 (by omega)
      have v5 : vp_in (n32 (6 * k) + 5) V.2.2.1 := vv 5 (by omega)
      refine ⟨v0, ⟨fun _ => ⟨v1, ?_⟩, fun _ => ⟨v1, ?_⟩, fun _ => ⟨v1, v2, ?_⟩, fun _ => ⟨v1, v2, v3, v4, v5, ?_⟩, fun _ => ⟨v1, ?_⟩, fun _ => ⟨v1, v2, v3, v4, v5, ?_⟩, fun _ => ⟨v1, v2, ?_⟩, fun _ => ?_, fun _ => ⟨v1, v2, ?_⟩, fun _ => ⟨v1, v2, ?_⟩, fun _ => ?_, fun _ => ⟨v1, ?_⟩, fun _ => ⟨v1, ?_⟩, fun _ => ⟨v1, ?_⟩, fun _ => ⟨v1, v2, ?_⟩, fun _ => ⟨v1, v2, ?_⟩, fun _ => ⟨v1, ?_⟩, fun _ => ⟨v1, v2, ?_⟩, fun _ => ⟨v1, ?_⟩, fun _ => ⟨v1, ?_⟩⟩, fun _ => nx g Y hi ⟨by omega, by omega⟩⟩
      · exact case_0 hi hz v1 nx
      · exact case_1 hi v1 (nx g)
      · exact Eq.mp (congrArg (L_90_0 V g Y _ _) as2g) (case_2 hi ⟨v1, v2⟩ nx)
      · exact Eq.mp (congrArg (L_91_0 V g Y _ _ _ _ _) as5w) (case_3 hi ⟨v1, v2, v3, v4, v5⟩ (nx g))
      · exact case_4 hi hz v1 nx
      · exact Eq.mp (congrArg (L_93_0 V g Y _ _ _ _ _) as5w) (case_5 hi ⟨v1, v2, v3, v4, v5⟩ (nx g))
      · exact Eq.mp (congrArg (L_94_0 V g Y _ _) as2g) (case_6 hi ⟨v1, v2⟩ nx)
      · exact case_7 hi (nx g)
      · exact Eq.mp (congrArg (L_189_0 V g Y _ _) as2w) (case_8 hi ⟨v1, v2⟩ (fun x y Y' h t => l_198_509 (nx g Y' h t)))
      · exact Eq.mp (congrArg (L_97_0 V g Y _ _) as2g) (case_9 hi hz ⟨v1, v2⟩ nx)
      · exact case_10 hi (nx g)
      · exact case_11 hi v1 (fun x y Y' h t => l_198_615 (nx g Y' h t))
      · exact case_12 hi v1 (fun x y Y' h t => l_198_671 (nx g Y' h t))
      · exact case_13 hi v1 (nx g)
      · exact Eq.mp (congrArg (L_192_0 V g Y _ _) as2w) (case_14 hi ⟨v1, v2⟩ (fun x y Y' h t => l_198_764 (nx g Y' h t)))
      · exact Eq.mp (congrArg (L_193_0 V g Y _ _) as2w) (case_15 hi ⟨v1, v2⟩ (fun x y Y' h t => l_198_832 (nx g Y' h t)))
      · exact case_16 hi v1 (fun x y Y' h t => l_198_887 (nx g Y' h t))
      · exact Eq.mp (congrArg (L_195_0 V g Y _ _) as2w) (case_17 hi ⟨v1, v2⟩ (fun x y Y' h t => l_198_955 (nx g Y' h t)))
      · exact case_18 hi v1 (fun x y Y' h t => l_198_1011 (nx g Y' h t))
      · exact case_19 hi v1 (fun x y Y' h t => l_198_1067 (nx g Y' h t))
