/-! link -/
section LK
variable {V : xV} {g : xG} {Y : xW}
theorem PP_link {g' : xG} {Y' : xW} {o q f : Nat} (h : PP g Y (fA Y xM) o) (no : ¬ fA Y xM 6 o = 1) (hn : nL (fA Y xM) o < 8) (q24 : q < 24) (q6 : fA Y xM 6 q = 1) (f1 : 1 ≤ f) (f2 : f < nF (fA Y xM) q) (f3 : fA Y xM 13 (200 * q + eN (fA Y xM) (8 * q + f)) = n32 f) (f4 : nN (fA Y xM) q ≤ nN (fA Y xM) o) (f5 : (fA Y xM 18 (8 * q + f)).toInt ≤ 32) (f88 : f < 8)
    (a1 : ∀ k j, k < 24 → ¬ (k = 22 ∧ j = 8 * o + nL (fA Y xM) o) → ¬ (k = 23 ∧ j = 8 * o + nL (fA Y xM) o) → ¬ (k = 10 ∧ j = o) → fA Y' xM k j = fA Y xM k j) (a2 : fA Y' xM 22 (8 * o + nL (fA Y xM) o) = n32 q) (a2' : fA Y' xM 23 (8 * o + nL (fA Y xM) o) = n32 f) (a3 : fA Y' xM 10 o = n32 (nL (fA Y xM) o + 1))
    (c1 : ∀ u k, tP u o → ¬ (u = (5, o, 0) ∧ k = 7) → ¬ (u = (3, o, nL (fA Y xM) o) ∧ k = 0) → fI Y' u k = fI Y u k) (c2 : fI Y' (5, o, 0) 7 = n32 (nL (fA Y xM) o + 1)) (c2' : fI Y' (3, o, nL (fA Y xM) o) 0 = n32 q) (c3 : ∀ u k j, tP u o → fA Y' u k j = fA Y u k j) (c5 : ∀ u k j, (tP u o ∨ u = (9, 0, 0)) → ¬ (u = (5, o, 0) ∧ k = 4 ∧ j = nL (fA Y xM) o) → u ≠ (3, o, nL (fA Y xM) o) → fR Y' u k j = fR Y u k j) (c6 : fR Y' (5, o, 0) 4 (nL (fA Y xM) o) = some (3, o, nL (fA Y xM) o)) (c7 : fR Y' (3, o, nL (fA Y xM) o) 1 0 = some (0, q, f)) (c8 : fR Y' (3, o, nL (fA Y xM) o) 2 0 = some (2, q, eN (fA Y xM) (8 * q + f)))
    (G : ∀ u, u ≠ (3, o, nL (fA Y xM) o) → g.1 u = false → g'.1 u = false) : PP g' Y' (fA Y' xM) o := by
  obtain ⟨h1, C, W, h4, h5, h6, h7, h8, h9⟩ := h
  have w2 := W.1.2
  have qo : q ≠ o := fun z => no (by rw [← z]; exact q6)
  have b1 : ∀ k, k < 24 → k ≠ 22 → k ≠ 23 → k ≠ 10 → ∀ j, fA Y' xM k j = fA Y xM k j := fun k h0 h1 h2 h3 j => a1 k j h0 (fun z => h1 z.1) (fun z => h2 z.1) (fun z => h3 z.1)
  have eW : ∀ q, nW (fA Y' xM) q = nW (fA Y xM) q := fun q => by unfold nW; rw [b1 8 (by omega) (by omega) (by omega) (by omega)]
  have eF : ∀ q, nF (fA Y' xM) q = nF (fA Y xM) q := fun q => by unfold nF; rw [b1 9 (by omega) (by omega) (by omega) (by omega)]
  have eL : nL (fA Y' xM) o = nL (fA Y xM) o + 1 := by
    have : nL (fA Y' xM) o = (fA Y' xM 10 o).toNatClampNeg := rfl
    rw [this, a3]
    exact n_nat (by omega)
  have eNn : ∀ q, nN (fA Y' xM) q = nN (fA Y xM) q := fun q => by unfold nN; rw [b1 7 (by omega) (by omega) (by omega) (by omega)]
  have ee : ∀ j, eN (fA Y' xM) j = eN (fA Y xM) j := fun j => by unfold eN; rw [b1 17 (by omega) (by omega) (by omega) (by omega)]
  have eP : ∀ j, j ≠ 8 * o + nL (fA Y xM) o → lP (fA Y' xM) j = lP (fA Y xM) j := fun j hj => by unfold lP; rw [a1 22 j (by omega) (by omega) (by omega) (by omega)]
  have eFl : ∀ j, j ≠ 8 * o + nL (fA Y xM) o → lF (fA Y' xM) j = lF (fA Y xM) j := fun j hj => by unfold lF; rw [a1 23 j (by omega) (by omega) (by omega) (by omega)]
  have eP2 : lP (fA Y' xM) (8 * o + nL (fA Y xM) o) = q := by
    have : lP (fA Y' xM) (8 * o + nL (fA Y xM) o) = (fA Y' xM 22 (8 * o + nL (fA Y xM) o)).toNatClampNeg := rfl
    rw [this, a2]
    exact n_nat (by omega)
  have eF2 : lF (fA Y' xM) (8 * o + nL (fA Y xM) o) = f := by
    have : lF (fA Y' xM) (8 * o + nL (fA Y xM) o) = (fA Y' xM 23 (8 * o + nL (fA Y xM) o)).toNatClampNeg := rfl
    rw [this, a2']
    exact n_nat (by omega)
  have lr : ∀ a, lRow (fA Y' xM) a = lRow (fA Y xM) a := fun a => by unfold lRow; rw [funext (b1 14 (by omega) (by omega) (by omega) (by omega)), funext (b1 15 (by omega) (by omega) (by omega) (by omega)), funext (b1 16 (by omega) (by omega) (by omega) (by omega))]
  have or : ∀ a, oRow (fA Y' xM) a = oRow (fA Y xM) a := fun a => by unfold oRow; rw [funext (b1 19 (by omega) (by omega) (by omega) (by omega)), funext (b1 20 (by omega) (by omega) (by omega) (by omega)), funext (b1 21 (by omega) (by omega) (by omega) (by omega))]
  have t5 : tP (5, o, 0) o := ⟨rfl, .inl rfl⟩
  have gr : ∀ u : xT, tP u o → gRow Y' u = gRow Y u := fun u hu => gRow_c (fun k j => c3 u k j hu)
  refine ⟨(c5 _ _ _ (.inr rfl) (by simp) (by simp)).trans h1, ?_, ?_, ?_, ?_, ?_, ?_, ?_, ?_⟩
  · obtain ⟨⟨q0, q1, q2, q3, q4, q5⟩, bb, cc, dd, ll⟩ := C
    unfold CP
    rw [eW, eF, eL, c1 _ _ t5 (by simp) (by simp), c1 _ _ t5 (by simp) (by simp), c1 _ _ t5 (by simp) (by simp), c2, c1 _ _ t5 (by simp) (by simp), c1 _ _ t5 (by simp) (by simp), a3, b1 6 (by omega) (by omega) (by omega) (by omega), b1 7 (by omega) (by omega) (by omega) (by omega), b1 8 (by omega) (by omega) (by omega) (by omega), b1 9 (by omega) (by omega) (by omega) (by omega), b1 11 (by omega) (by omega) (by omega) (by omega)]
    refine ⟨⟨q0, q1, q2, rfl, q4, q5⟩, fun k hk => ?_, fun k hk => ?_, fun x hx => ?_, fun k hk => ?_⟩
    · rw [c3 _ _ _ t5, b1 12 (by omega) (by omega) (by omega) (by omega)]; exact bb k hk
    · rw [c5 _ _ _ (.inl t5) (by simp) (by simp), c1 (2, o, k) 1 ⟨rfl, by simp⟩ (by simp) (by simp), b1 13 (by omega) (by omega) (by omega) (by omega), lr, gr (22, o, k) ⟨rfl, by simp⟩]
      exact cc k hk
    · rw [c5 _ _ _ (.inl t5) (by simp) (by simp), c1 (0, o, x) 0 ⟨rfl, by simp⟩ (by simp) (by simp), c1 (0, o, x) 2 ⟨rfl, by simp⟩ (by simp) (by simp), b1 17 (by omega) (by omega) (by omega) (by omega), b1 18 (by omega) (by omega) (by omega) (by omega), or, gr (20, o, x) ⟨rfl, by simp⟩]
      exact dd x hx
    · by_cases ex : k = nL (fA Y xM) o
      · subst ex
        rw [c6, c2', a2, c7, c8, eP2, eF2, ee]
        exact ⟨rfl, rfl, rfl, rfl⟩
      · rw [c5 _ _ _ (.inl t5) (by simp [ex]) (by simp), c1 (3, o, k) 0 ⟨rfl, by simp⟩ (by simp) (by simp [ex]), c5 (3, o, k) _ _ (.inl ⟨rfl, by simp⟩) (by simp) (by simp [ex]), c5 (3, o, k) _ _ (.inl ⟨rfl, by simp⟩) (by simp) (by simp [ex]), a1 22 _ (by omega) (by omega) (by omega) (by omega), eP _ (by omega), eFl _ (by omega), ee]
        exact ll k (by omega)
  · obtain ⟨qq, r, ⟨s1, s2⟩, t, u, v, x, y, z, l⟩ := W
    unfold WA
    rw [eW, eF, eL, eNn, a3, b1 8 (by omega) (by omega) (by omega) (by omega), b1 9 (by omega) (by omega) (by omega) (by omega), b1 7 (by omega) (by omega) (by omega) (by omega)]
    refine ⟨qq, r, ⟨rfl, by omega⟩, t, fun k hk => ?_, fun k hk => ?_, fun k hk => by rw [lr]; exact x k hk, fun f hf => by rw [or]; exact y f hf, fun f hf => ?_, fun k hk => ?_⟩
    · rw [b1 12 (by omega) (by omega) (by omega) (by omega)]; exact u k hk
    · rw [b1 13 (by omega) (by omega) (by omega) (by omega)]; exact v k hk
    · rw [ee, b1 17 (by omega) (by omega) (by omega) (by omega)]; exact z f hf
    · by_cases ex : k = nL (fA Y xM) o
      · subst ex
        rw [eP2, eF2, a2, a2', ee, eF, eNn, b1 6 (by omega) (by omega) (by omega) (by omega), b1 13 (by omega) (by omega) (by omega) (by omega), b1 18 (by omega) (by omega) (by omega) (by omega)]
        exact ⟨rfl, rfl, q24, q6, f1, f2, f3, f4, f5⟩
      · rw [eP _ (by omega), eFl _ (by omega), ee, eF, eNn, a1 22 _ (by omega) (by omega) (by omega) (by omega), a1 23 _ (by omega) (by omega) (by omega) (by omega), b1 6 (by omega) (by omega) (by omega) (by omega), b1 13 (by omega) (by omega) (by omega) (by omega), b1 18 (by omega) (by omega) (by omega) (by omega)]
        exact l k (by omega)
  · intro k hk
    rw [eL] at hk
    by_cases ex : k = nL (fA Y xM) o
    · subst ex
      rw [eP2]
      exact qo
    · rw [eP _ (by omega)]
      exact h4 k (by omega)
  · intro z
    rw [b1 6 (by omega) (by omega) (by omega) (by omega)] at z
    exact absurd z no
  · intro _ x hx
    rw [b1 18 (by omega) (by omega) (by omega) (by omega)]
    exact h6 no x hx
  · intro x hx hx8
    rw [eF] at hx
    rw [b1 18 (by omega) (by omega) (by omega) (by omega), or]
    obtain ⟨z1, z2, z3, z4⟩ := h7 x hx hx8
    exact ⟨z1, G _ (by simp) z2, G _ (by simp) z3, z4⟩
  · intro k hk hk8
    rw [eL] at hk
    exact G _ (by simp; omega) (h8 k (by omega) hk8)
  · intro k hk z
    rw [b1 13 (by omega) (by omega) (by omega) (by omega)] at z
    exact ⟨G _ (by simp) (h9 k hk z).1, G _ (by simp) (h9 k hk z).2⟩
/-- 6: link -/
theorem case_6 {x1 x2 : Int32} {Pr : Prop} {B F : xG → xW → Prop} (hi : Inv g Y) (hp : Pr) (H : ∀ g' Y', Inv g' Y' → CT Y Y' → B g' Y') : L_94_0 V g Y x1 x2 (fun x12 g13 Y11 => Pr ∧ L_140_0 V g13 Y11 x1 x2 (fun x16 Y15 => ((x12 = x16) → B g13 Y15) ∧ (¬ (x12 = x16) → F g13 Y15))) := by
  have hi' := hi
  obtain ⟨⟨P, N, I⟩, S, K, hd, J⟩ := hi'
  obtain ⟨⟨P24, N2⟩, ⟨m3, y1, m4, y3⟩, hop, hPP, hFP, hC⟩ := id I
  have fin : ((-1 : Int32) = -1 → B g (uI Y xM 2 0)) ∧ (¬ (-1 : Int32) = -1 → F g (uI Y xM 2 0)) := ⟨fun _ => H _ _ (Inv_c0 hi).1 (Inv_c0 hi).2, fun z => absurd rfl z⟩
  have f0 : L_140_63 V g (uI Y xM 2 0) x1 x2 (fun x10 Y9 => (((-1 : Int32) = x10) → B g Y9) ∧ (¬ ((-1 : Int32) = x10) → F g Y9)) := l_140_63 fin
  have f1 : ∀ x, L_140_127 V g (uI Y xM 2 0) x1 x2 x (fun x10 Y9 => (((-1 : Int32) = x10) → B g Y9) ∧ (¬ ((-1 : Int32) = x10) → F g Y9)) := fun x => l_140_127 fin
  have hrP : ∀ p, p < P → fR Y (9, 0, 0) 0 p = some (5, p, 0) := fun p h => (hPP p h).1
  rcases hop with ⟨o5, oR⟩ | ⟨o, oP, o5, oR, no⟩
  · have mf : Pr ∧ L_140_0 V g Y x1 x2 (fun x10 Y9 => (((-1 : Int32) = x10) → B g Y9) ∧ (¬ ((-1 : Int32) = x10) → F g Y9)) := by
      refine ⟨hp, l_140_0 (fun Y1 e2 => ?_)⟩
      subst e2
      refine ⟨fun _ => f0, fun z => absurd ?_ z⟩
      show fI Y xM 5 < 0
      rw [o5]
      decide
    exact l_94_0 (s_109 y1 P24 hrP (fun p hpP e c o3 e3 => ⟨fun _ => l_94_36 mf, fun u z => absurd (z.symm.trans (e3.trans oR)) (by simp)⟩) (fun h o3 e3 => ⟨fun _ => l_94_36 mf, fun u z => absurd (z.symm.trans (e3.trans oR)) (by simp)⟩))
  · have PPo := hPP o oP
    have W := PPo.2.2.1
    have C := PPo.2.1
    have l8 := W.2.2.1.2
    have mf : ¬ (∃ p f, p < P ∧ x1 = n32 p ∧ fA Y xM 6 p = 1 ∧ x2 = n32 f ∧ 1 ≤ f ∧ f < nF (fA Y xM) p ∧ nN (fA Y xM) p ≤ nN (fA Y xM) o ∧ fA Y xM 13 (200 * p + eN (fA Y xM) (8 * p + f)) = n32 f ∧ fA Y xM 18 (8 * p + f) ≤ 32 ∧ nL (fA Y xM) o < 8) → Pr ∧ L_140_0 V g Y x1 x2 (fun x10 Y9 => (((-1 : Int32) = x10) → B g Y9) ∧ (¬ ((-1 : Int32) = x10) → F g Y9)) := by
      intro h
      refine ⟨hp, l_140_0 (fun Y1 e2 => ?_)⟩
      subst e2
      have e5 : fI (uI Y (10, 0, 0) 2 0) (10, 0, 0) 5 = n32 o := o5
      have e3 : fI (uI Y (10, 0, 0) 2 0) (10, 0, 0) 3 = n32 P := m3
      have a0 : ∀ k j, fA (uI Y (10, 0, 0) 2 0) (10, 0, 0) k j = fA Y xM k j := fun _ _ => rfl
      refine ⟨fun _ => f0, fun _ => ?_⟩
      rw [e5, e3, n_nat (show o < 2147483648 by omega)]
      refine ⟨n_in (by omega) (by omega), fun _ => f0, fun z1 => ⟨fun _ => f0, fun z2 => ⟨fun _ => f0, fun z3 => ?_⟩⟩⟩
      rcases n_cases x1 with y | ⟨p, hp1, rfl⟩
      · exact absurd (by rw [i_lt, t0]; exact y) z2
      · have hpP : p < P := by
          have := mt (n_le (by omega) hp1).mpr z3
          omega
        have Wp := (hPP p hpP).2.2.1
        have p8 := Wp.2.1.2.2
        rw [n_nat hp1]
        refine ⟨n_in (by omega) (by omega), fun z4 => ⟨fun _ => f0, fun z5 => ⟨n_in (by omega) (by omega), fun z6 => ?_, fun _ => f0⟩⟩, fun _ => f0⟩
        rcases n_cases x2 with y | ⟨f, hf1, rfl⟩
        · exfalso
          apply z5
          rw [i_lt]
          have e1 : (1 : Int32).toInt = 1 := rfl
          omega
        · have fg1 : 1 ≤ f := by
            have := mt (n_lt (b := 1) hf1 (by omega)).mpr z5
            omega
          have fg2 : f < nF (fA Y xM) p := by
            rw [a0, Wp.2.1.1, n_lt hf1 (by omega)] at z6
            exact z6
          obtain ⟨w1, w3, w4⟩ := Wp.2.2.2.2.2.2.2.2.1 f fg2
          rw [ix8, n_nat (show 8 * p + f < 2147483648 by omega), a0, a0, a0, a0, w1, ix200, n_nat (by omega), a0, W.2.2.2.1.1, Wp.2.2.2.1.1]
          have nn1 := W.2.2.2.1.2.2
          have nn2 := Wp.2.2.2.1.2.2
          refine ⟨n_in (by omega) (by omega), n_in (by omega) (by omega), n_in (by omega) (by omega), fun _ => f1 _, fun z7 => ⟨n_in (by omega) (by omega), fun z8 => ⟨n_in (by omega) (by omega), fun z9 => ?_, fun _ => f1 _⟩, fun _ => f1 _⟩⟩
          have f7 : nN (fA Y xM) p ≤ nN (fA Y xM) o := by
            have := mt (n_lt (by omega) (by omega)).mpr z7
            omega
          have f10 : nL (fA Y xM) o < 8 := by
            have : nL (fA Y xM) o ≠ 8 := by
              intro y
              apply z1
              rw [a0, W.2.2.1.1, y]
              rfl
            omega
          exact absurd ⟨p, f, hpP, rfl, z4, rfl, fg1, fg2, f7, z8, z9, f10⟩ h
    refine l_94_0 (s_109 y1 P24 hrP (fun p hpP e c o3 e3 => ⟨fun z => absurd (z.symm.trans (e3.trans oR)) (by simp), fun u _ => ⟨fun z => absurd z (by simp), fun u5 z5 => ?_⟩⟩) (fun h o3 e3 => ⟨fun z => absurd (z.symm.trans (e3.trans oR)) (by simp), fun u _ => ⟨fun _ => l_94_36 (mf (fun z => ?_)), fun u z => absurd z (by simp)⟩⟩))
    · cases z5
      have PPp := hPP p hpP
      have Wp := PPp.2.2.1
      have Cp := PPp.2.1
      have p8 := Wp.2.1.2.2
      have p6 : fA Y xM 6 p = 1 := Cp.1.2.2.2.2.1.symm.trans c
      have uq : ∀ p', p' < P → x1 = n32 p' → p' = p := fun p' h1 h2 => (n_eq (by omega) (by omega)).mp (h2.symm.trans e)
      refine ⟨fun z1 => l_94_36 (mf (fun z => ?_)), fun z1 o6 e6 => ⟨(5, o, 0), e6.trans oR, fun z2 => ?_, fun z2 => l_94_36 (mf (fun z => ?_))⟩⟩
      · obtain ⟨p', f', h1, h2, h3, h4, h5, h6, h7, h8, h9, h10⟩ := z
        have f88 := (hPP p' h1).2.2.1.2.1.2.2
        rw [h4] at z1
        have := (n_lt (b := 1) (by omega) (by omega)).mp z1
        omega
      · rw [Cp.1.1, C.1.1, Wp.2.2.2.1.1, W.2.2.2.1.1, n_le (by have := Wp.2.2.2.1.2.2; omega) (by have := W.2.2.2.1.2.2; omega)] at z2
        have hfn : fI Y (5, p, 0) 6 = n32 (nF (fA Y xM) p) := Cp.1.2.2.1.trans Wp.2.1.1
        rcases n_cases x2 with y | ⟨f, hf1, rfl⟩
        · exfalso
          apply z1
          rw [i_lt]
          have e1 : (1 : Int32).toInt = 1 := rfl
          omega
        · have fg1 : 1 ≤ f := by
            have := mt (n_lt (b := 1) hf1 (by omega)).mpr z1
            omega
          refine s_45 hfn p8 hf1 (fun cf => ?_) (fun cf => ?_)
          · obtain ⟨d1, d2, d3, d4⟩ := Cp.2.2.2.1 f cf
            rw [d1]
            refine s_47 Cp Wp cf fg1 (fun cl => ?_) (fun cl => ⟨fun z => absurd z (by simp), fun u z => ⟨fun _ => l_94_72 (mf (fun z => ?_)), fun u z => absurd z (by simp)⟩⟩)
            · refine ⟨fun z => absurd z (by simp), fun u z => ?_⟩
              cases z
              refine ⟨fun z => absurd z (by simp), fun u z => ?_⟩
              cases z
              rw [d3]
              refine ⟨fun z9 o14 e14 => ⟨(5, o, 0), e14.trans oR, l_51_0 ?_⟩, fun z9 => l_94_72 (mf (fun z => ?_))⟩
              · have hln : fI Y (5, o, 0) 7 = n32 (nL (fA Y xM) o) := C.1.2.2.2.1.trans W.2.2.1.1
                rw [hln]
                refine ⟨fun c8 => ?_, fun c8 => mf (fun z => ?_)⟩
                · have n8 : nL (fA Y xM) o < 8 := (n_lt (b := 8) (by omega) (by omega)).mp c8
                  have z2g := PPo.2.2.2.2.2.2.2.1 _ (Nat.le_refl _) n8
                  refine ⟨o, nL (fA Y xM) o, z2g, fun g5 Y7 _ hiff e7 => ⟨n_in (by omega) (by omega), fun Y8 e8 Y9 e9 => ?_⟩⟩
                  rw [n_nat (by omega)] at e8
                  have w8 : fI Y8 (5, o, 0) 7 = n32 (nL (fA Y xM) o) := by rw [e8, e7, fI_uR, fI_uR, fI_uR, fI_uI, if_neg (by simp)]; exact hln
                  rw [w8, show n32 (nL (fA Y xM) o) + 1 = n32 (nL (fA Y xM) o + 1) from n_add _ 1] at e9
                  have w9 : fI Y9 (5, o, 0) 7 = n32 (nL (fA Y xM) o + 1) := by rw [e9, fI_uI, if_pos ⟨rfl, rfl⟩]
                  rw [w9, show n32 (nL (fA Y xM) o + 1) - 1 = n32 (nL (fA Y xM) o) from n_sub (b := 1) (by omega)]
                  refine ⟨hp, l_140_0 (fun Y3 e3 => ?_)⟩
                  have a3 : ∀ u k j, fA Y3 u k j = fA Y u k j := fun u k j => by rw [e3, e9, e8, e7]; rfl
                  have i3 : ∀ u k, ¬ (u = xM ∧ k = 2) → ¬ (u = (5, o, 0) ∧ k = 7) → ¬ (u = (3, o, nL (fA Y xM) o) ∧ k = 0) → fI Y3 u k = fI Y u k := fun u k h1 h2 h3 => by rw [e3, fI_uI, if_neg h1, e9, fI_uI, if_neg h2, e8, fI_uR, e7, fI_uR, fI_uR, fI_uI, if_neg h3]; rfl
                  have m5 : fI Y3 (10, 0, 0) 5 = n32 o := (i3 _ _ (by simp) (by simp) (by simp)).trans o5
                  have m3b : fI Y3 (10, 0, 0) 3 = n32 P := (i3 _ _ (by simp) (by simp) (by simp)).trans m3
                  obtain ⟨w1, w3, w4⟩ := Wp.2.2.2.2.2.2.2.2.1 f cf
                  have nn1 := W.2.2.2.1.2.2
                  have nn2 := Wp.2.2.2.1.2.2
                  have w4' := w4 fg1
                  have w2p := Wp.1.2
                  rw [m5, m3b, e, n_nat (show o < 2147483648 by omega), n_nat (show p < 2147483648 by omega), ix8, n_nat (show 8 * p + f < 2147483648 by omega), a3, a3, a3, a3, a3, a3, a3, w1, ix200, n_nat (show 200 * p + eN (fA Y xM) (8 * p + f) < 2147483648 by omega), a3, W.2.2.1.1, Wp.2.1.1, W.2.2.2.1.1, Wp.2.2.2.1.1, ix8, n_nat (show 8 * o + nL (fA Y xM) o < 2147483648 by omega), n_le (by omega) (by omega), n_lt (by omega) (by omega), n_lt (by omega) (by omega)]
                  refine ⟨fun z => absurd z (n_ge0 (by omega)), fun _ => ⟨n_in (by omega) (by omega), fun z => ?_, fun _ => ⟨fun z => absurd z (n_ge0 (by omega)), fun _ => ⟨fun z => absurd z (by omega), fun _ => ⟨n_in (by omega) (by omega), fun _ => ?_, fun z => absurd p6 z⟩⟩⟩⟩⟩
                  · have := (n_eq (b := 8) (by omega) (by omega)).mp z
                    omega
                  refine ⟨fun z => absurd z z1, fun _ => ⟨n_in (by omega) (by omega), fun _ => ?_, fun z => absurd cf z⟩⟩
                  refine ⟨n_in (by omega) (by omega), n_in (by omega) (by omega), n_in (by omega) (by omega), fun z => absurd z (by omega), fun _ => ⟨n_in (by omega) (by omega), fun _ => ?_, fun z => absurd cl z⟩⟩
                  refine ⟨n_in (by omega) (by omega), fun _ => ⟨n_in (by omega) (by omega), n_in (by omega) (by omega), fun Y4 e4 => ?_⟩, fun z => absurd z9 z⟩
                  · have m5b : fI Y4 (10, 0, 0) 5 = n32 o := by rw [e4]; exact m5
                    have a10 : fA Y4 (10, 0, 0) 10 o = n32 (nL (fA Y xM) o) := by rw [e4, fA_uA, if_neg (by simp), a3]; exact W.2.2.1.1
                    rw [m5b, n_nat (by omega), a10, ix8, n_nat (by omega)]
                    refine ⟨n_in (by omega) (by omega), n_in (by omega) (by omega), fun Y5 e5 => ?_⟩
                    have m5c : fI Y5 (10, 0, 0) 5 = n32 o := by rw [e5]; exact m5b
                    have a10c : fA Y5 (10, 0, 0) 10 o = n32 (nL (fA Y xM) o) := by rw [e5, fA_uA, if_neg (by simp)]; exact a10
                    rw [m5c, n_nat (by omega), a10c, show n32 (nL (fA Y xM) o) + 1 = n32 (nL (fA Y xM) o + 1) from n_add _ 1]
                    refine ⟨n_in (by omega) (by omega), n_in (by omega) (by omega), fun Y6 e6 => ?_⟩
                    have m5d : fI Y6 (10, 0, 0) 5 = n32 o := by rw [e6]; exact m5c
                    have a10d : fA Y6 (10, 0, 0) 10 o = n32 (nL (fA Y xM) o + 1) := by rw [e6, fA_uA, if_pos ⟨rfl, rfl, rfl⟩]
                    rw [m5d, n_nat (by omega), a10d, show n32 (nL (fA Y xM) o + 1) - 1 = n32 (nL (fA Y xM) o) from n_sub (b := 1) (by omega)]
                    refine ⟨n_in (by omega) (by omega), fun _ => ?_, fun z => absurd rfl z⟩
                    have rI : ∀ u k, ¬ (u = xM ∧ k = 2) → ¬ (u = (5, o, 0) ∧ k = 7) → ¬ (u = (3, o, nL (fA Y xM) o) ∧ k = 0) → fI Y6 u k = fI Y u k := fun u k h1 h2 h3 => by rw [e6, fI_uA, e5, fI_uA, e4, fI_uA]; exact i3 u k h1 h2 h3
                    have rA : ∀ u k j, fA Y6 u k j = if u = xM ∧ k = 10 ∧ j = o then n32 (nL (fA Y xM) o + 1) else if u = xM ∧ k = 23 ∧ j = 8 * o + nL (fA Y xM) o then n32 f else if u = xM ∧ k = 22 ∧ j = 8 * o + nL (fA Y xM) o then n32 p else fA Y u k j := by
                      intro u k j
                      rw [e6, fA_uA, e5, fA_uA, e4, fA_uA, a3]
                    have rM : ∀ k j, ¬ (k = 22 ∧ j = 8 * o + nL (fA Y xM) o) → ¬ (k = 23 ∧ j = 8 * o + nL (fA Y xM) o) → ¬ (k = 10 ∧ j = o) → fA Y6 xM k j = fA Y xM k j := fun k j h1 h2 h3 => by rw [rA, if_neg (fun z => h3 z.2), if_neg (fun z => h2 z.2), if_neg (fun z => h1 z.2)]
                    have rO : ∀ u k j, u ≠ xM → fA Y6 u k j = fA Y u k j := fun u k j h1 => by rw [rA, if_neg (fun z => h1 z.1), if_neg (fun z => h1 z.1), if_neg (fun z => h1 z.1)]
                    have rL : ∀ u k j, fL Y6 u k j = fL Y u k j := by intro u k j; rw [e6, e5, e4, e3, e9, e8, e7]; rfl
                    have rR : ∀ u k j, fR Y6 u k j = if u = (5, o, 0) ∧ k = 4 ∧ j = nL (fA Y xM) o then some (3, o, nL (fA Y xM) o) else if u = (3, o, nL (fA Y xM) o) ∧ k = 2 ∧ j = 0 then some (2, p, eN (fA Y xM) (8 * p + f)) else if u = (3, o, nL (fA Y xM) o) ∧ k = 1 ∧ j = 0 then some (0, p, f) else fR Y u k j := by
                      intro u k j
                      rw [e6, fR_uA, e5, fR_uA, e4, fR_uA, e3, fR_uI, e9, fR_uI, e8, fR_uR, e7, fR_uR, fR_uR]
                      rfl
                    have rN : ∀ u k j, ¬ (u = (5, o, 0) ∧ k = 4 ∧ j = nL (fA Y xM) o) → u ≠ (3, o, nL (fA Y xM) o) → fR Y6 u k j = fR Y u k j := fun u k j h1 h2 => by rw [rR, if_neg h1, if_neg (fun z => h2 z.1), if_neg (fun z => h2 z.1)]
                    have rC : CT Y Y6 := by
                      rw [e6, e5, e4, e3, e9, e8, e7]
                      exact ⟨by show (fC Y).2.1 + 1 ≤ _; omega, by show (fC Y).2.2 + 3 ≤ _; omega⟩
                    have hg : ∀ u, u ≠ (3, o, nL (fA Y xM) o) → g.1 u = false → g5.1 u = false := by
                      intro u h1 h3
                      refine iff_f (hiff u) (fun z => ?_)
                      rcases z with z | z
                      · rw [h3] at z
                        exact absurd z (by decide)
                      · exact h1 z
                    have z9' : (fA Y xM 18 (8 * p + f)).toInt ≤ 32 := by
                      rw [i_le] at z9
                      exact z9
                    have PPn : PP g5 Y6 (fA Y6 xM) o := by
                      refine PP_link PPo no n8 (show p < 24 by omega) p6 fg1 cf cl z2 z9' (by omega) (fun k j _ h1 h2 h3 => rM k j h1 h2 h3) ?_ ?_ a10d (fun u k hu h1 h2 => rI u k (fun z => (tP_no hu).1 z.1) h1 h2) ?_ ?_ (fun u k j hu => rO u k j (tP_no hu).1) (fun u k j _ h1 h2 => rN u k j h1 h2) ?_ ?_ ?_ hg
                      · rw [rA, if_neg (by simp), if_neg (by simp), if_pos ⟨rfl, rfl, rfl⟩]
                      · rw [rA, if_neg (by simp), if_pos ⟨rfl, rfl, rfl⟩]
                      · rw [e6, fI_uA, e5, fI_uA, e4, fI_uA, e3, fI_uI, if_neg (by simp)]
                        exact w9
                      · rw [e6, fI_uA, e5, fI_uA, e4, fI_uA, e3, fI_uI, if_neg (by simp), e9, fI_uI, if_neg (by simp), e8, fI_uR, e7, fI_uR, fI_uR, fI_uI, if_pos ⟨rfl, rfl⟩]
                        exact e
                      · rw [rR, if_pos ⟨rfl, rfl, rfl⟩]
                      · rw [rR, if_neg (by simp), if_neg (by simp), if_pos ⟨rfl, rfl, rfl⟩]
                      · rw [rR, if_neg (by simp), if_pos ⟨rfl, rfl, rfl⟩]
                    have ne : ∀ {u : xT} {p' : Nat}, p' ≠ o → tP u p' → u ≠ (3, o, nL (fA Y xM) o) := fun h1 h2 z => h1 (by have := h2.1; rw [z] at this; exact this.symm)
                    have ne5 : ∀ {u : xT} {p' : Nat}, p' ≠ o → tP u p' → u ≠ (5, o, 0) := fun h1 h2 z => h1 (by have := h2.1; rw [z] at this; exact this.symm)
                    refine H g5 Y6 (Inv_open (g' := g5) (N' := N) (o := o) I J oP no (fun k j hk hw => rM k j (fun z => hw (by unfold own; omega)) (fun z => hw (by unfold own; omega)) (fun z => hw (by unfold own; omega))) (fun p' hpo => ⟨fun u k hu => rI u k (fun z => (tP_no hu).1 z.1) (fun z => ne5 hpo hu z.1) (fun z => ne hpo hu z.1), fun u k j hu => rO u k j (tP_no hu).1, fun u k j hu => rN u k j (fun z => ne5 hpo hu z.1) (ne hpo hu), rN _ _ _ (by simp) (by simp)⟩) (fun u p' hpo hu => hg u (ne hpo hu)) (fun q => hg _ (by simp)) PPn N2 ((rI _ _ (by simp) (by simp) (by simp)).trans m3) ((rI _ _ (by simp) (by simp) (by simp)).trans y1) ((rI _ _ (by simp) (by simp) (by simp)).trans m4) ((rI _ _ (by simp) (by simp) (by simp)).trans y3) (.inr ⟨o, oP, (rI _ _ (by simp) (by simp) (by simp)).trans o5, (rN _ _ _ (by simp) (by simp)).trans oR, by rw [rM 6 o (by omega) (by omega) (by omega)]; exact no⟩) ⟨fun u k hu => rI u k (fun z => by rw [z.1] at hu; simp at hu) (fun z => by rw [z.1] at hu; simp at hu) (fun z => by rw [z.1] at hu; simp at hu), fun k hk => rI _ _ (by simp) (by simp) (by simp), fun k h1 h2 => rI _ _ (fun z => by have := z.2; omega) (by simp) (by simp), fun u k j hu => rO u k j (fun z => by rw [z] at hu; simp at hu), fun u k j => .inl (rL u k j), fun j => rN _ _ _ (by simp) (by simp)⟩ (fun k j hk => rM k j (by omega) (by omega) (by omega))) rC
                · obtain ⟨p', f', h1, h2, h3, h4, h5, h6, h7, h8, h9, h10⟩ := z
                  exact c8 ((n_lt (b := 8) (by omega) (by omega)).mpr h10)
              · obtain ⟨p', f', h1, h2, h3, h4, h5, h6, h7, h8, h9, h10⟩ := z
                have ep := uq p' h1 h2
                subst ep
                have ef : f' = f := (n_eq (by omega) hf1).mp h4.symm
                subst ef
                exact z9 h9
            · obtain ⟨p', f', h1, h2, h3, h4, h5, h6, h7, h8, h9, h10⟩ := z
              have ep := uq p' h1 h2
              subst ep
              have ef : f' = f := (n_eq (by omega) hf1).mp h4.symm
              subst ef
              exact cl h8
          · have bad : ∀ o11 Y10, Y10 = Y → ((none : Option xT) = none → L_94_72 V g Y10 x1 (n32 f) (some (5, p, 0)) none o11 (fun x12 g13 Y11 => Pr ∧ L_140_0 V g13 Y11 x1 (n32 f) (fun x16 Y15 => ((x12 = x16) → B g13 Y15) ∧ (¬ (x12 = x16) → F g13 Y15)))) := by
              intro o11 Y10 eY _
              rw [eY]
              refine l_94_72 (mf (fun z => ?_))
              obtain ⟨p', f', h1, h2, h3, h4, h5, h6, h7, h8, h9, h10⟩ := z
              have ep := uq p' h1 h2
              subst ep
              have ef : f' = f := (n_eq (by omega) hf1).mp h4.symm
              omega
            refine l_47_0 (s_45 hfn p8 hf1 (fun z => absurd z cf) (fun _ => ⟨fun _ => l_47_22 ⟨fun _ => l_47_39 (l_47_40 ⟨fun h => bad none Y rfl h, fun u z => absurd z (by simp)⟩), fun u z => absurd z (by simp)⟩, fun u z => absurd z (by simp)⟩))
      · obtain ⟨p', f', h1, h2, h3, h4, h5, h6, h7, h8, h9, h10⟩ := z
        have ep := uq p' h1 h2
        subst ep
        apply z2
        rw [Cp.1.1, C.1.1, Wp.2.2.2.1.1, W.2.2.2.1.1, n_le (by have := Wp.2.2.2.1.2.2; omega) (by have := W.2.2.2.1.2.2; omega)]
        exact h7
    · obtain ⟨p', f', h1, h2, h3, _⟩ := z
      exact h ⟨p', h1, h2, (hPP p' h1).2.1.1.2.2.2.2.1.trans h3⟩
end LK
