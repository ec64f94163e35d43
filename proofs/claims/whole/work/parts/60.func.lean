/-! function -/
def XZ (g : xG) (Y : xW) : Prop := ∀ t, g.1 t = false → xzr Y t
section FU
variable {V : xV} {g : xG} {Y : xW}
theorem PP_fn {g' : xG} {Y' : xW} {o e : Nat} (h : PP g Y (fA Y xM) o) (no : ¬ fA Y xM 6 o = 1) (hn : nF (fA Y xM) o < 8) (he : e < nW (fA Y xM) o)
    (a1 : ∀ k j, k < 24 → ¬ (k = 17 ∧ j = 8 * o + nF (fA Y xM) o) → ¬ (k = 9 ∧ j = o) → fA Y' xM k j = fA Y xM k j) (a2 : fA Y' xM 17 (8 * o + nF (fA Y xM) o) = n32 e) (a3 : fA Y' xM 9 o = n32 (nF (fA Y xM) o + 1))
    (c1 : ∀ u k, tP u o → ¬ (u = (5, o, 0) ∧ k = 6) → ¬ (u = (0, o, nF (fA Y xM) o) ∧ k = 0) → fI Y' u k = fI Y u k) (c2 : fI Y' (5, o, 0) 6 = n32 (nF (fA Y xM) o + 1)) (c2' : fI Y' (0, o, nF (fA Y xM) o) 0 = n32 e) (c2z : fI Y (0, o, nF (fA Y xM) o) 2 = 0) (c3 : ∀ u k j, tP u o → fA Y' u k j = fA Y u k j) (c3z : ∀ k j, fA Y (20, o, nF (fA Y xM) o) k j = 0) (c5 : ∀ u k j, (tP u o ∨ u = (9, 0, 0)) → ¬ (u = (5, o, 0) ∧ k = 3 ∧ j = nF (fA Y xM) o) → fR Y' u k j = fR Y u k j) (c6 : fR Y' (5, o, 0) 3 (nF (fA Y xM) o) = some (0, o, nF (fA Y xM) o))
    (G : ∀ u, u ≠ (0, o, nF (fA Y xM) o) → u ≠ (20, o, nF (fA Y xM) o) → g.1 u = false → g'.1 u = false) (hLk : ∀ k, k < nL (fA Y xM) o → eN (fA Y xM) (8 * lP (fA Y xM) (8 * o + k) + lF (fA Y xM) (8 * o + k)) < 200 ∧ lF (fA Y xM) (8 * o + k) < 8) : PP g' Y' (fA Y' xM) o := by
  obtain ⟨h1, C, W, h4, h5, h6, h7, h8, h9⟩ := h
  have w2 := W.1.2
  have b1 : ∀ k, k < 24 → k ≠ 17 → k ≠ 9 → ∀ j, fA Y' xM k j = fA Y xM k j := fun k h0 h1 h2 j => a1 k j h0 (fun z => h1 z.1) (fun z => h2 z.1)
  have eW : ∀ q, nW (fA Y' xM) q = nW (fA Y xM) q := fun q => by unfold nW; rw [b1 8 (by omega) (by omega) (by omega)]
  have eF : nF (fA Y' xM) o = nF (fA Y xM) o + 1 := by
    have : nF (fA Y' xM) o = (fA Y' xM 9 o).toNatClampNeg := rfl
    rw [this, a3]
    exact n_nat (by omega)
  have eFo : ∀ q, q ≠ o → nF (fA Y' xM) q = nF (fA Y xM) q := fun q hq => by unfold nF; rw [a1 9 q (by omega) (by omega) (by omega)]
  have eL : ∀ q, nL (fA Y' xM) q = nL (fA Y xM) q := fun q => by unfold nL; rw [b1 10 (by omega) (by omega) (by omega)]
  have eNn : ∀ q, nN (fA Y' xM) q = nN (fA Y xM) q := fun q => by unfold nN; rw [b1 7 (by omega) (by omega) (by omega)]
  have ee : ∀ j, j ≠ 8 * o + nF (fA Y xM) o → eN (fA Y' xM) j = eN (fA Y xM) j := fun j hj => by unfold eN; rw [a1 17 j (by omega) (by omega) (by omega)]
  have ee2 : eN (fA Y' xM) (8 * o + nF (fA Y xM) o) = e := by
    have : eN (fA Y' xM) (8 * o + nF (fA Y xM) o) = (fA Y' xM 17 (8 * o + nF (fA Y xM) o)).toNatClampNeg := rfl
    rw [this, a2]
    exact n_nat (by omega)
  have eP : ∀ k, lP (fA Y' xM) k = lP (fA Y xM) k := fun k => by unfold lP; rw [b1 22 (by omega) (by omega) (by omega)]
  have eFl : ∀ k, lF (fA Y' xM) k = lF (fA Y xM) k := fun k => by unfold lF; rw [b1 23 (by omega) (by omega) (by omega)]
  have lr : ∀ a, lRow (fA Y' xM) a = lRow (fA Y xM) a := fun a => by unfold lRow; rw [funext (b1 14 (by omega) (by omega) (by omega)), funext (b1 15 (by omega) (by omega) (by omega)), funext (b1 16 (by omega) (by omega) (by omega))]
  have or : ∀ a, oRow (fA Y' xM) a = oRow (fA Y xM) a := fun a => by unfold oRow; rw [funext (b1 19 (by omega) (by omega) (by omega)), funext (b1 20 (by omega) (by omega) (by omega)), funext (b1 21 (by omega) (by omega) (by omega))]
  have t5 : tP (5, o, 0) o := ⟨rfl, .inl rfl⟩
  have gr : ∀ u : xT, tP u o → gRow Y' u = gRow Y u := fun u hu => gRow_c (fun k j => c3 u k j hu)
  refine ⟨(c5 _ _ _ (.inr rfl) (by simp)).trans h1, ?_, ?_, ?_, ?_, ?_, ?_, ?_, ?_⟩
  · obtain ⟨⟨q0, q1, q2, q3, q4, q5⟩, bb, cc, dd, ll⟩ := C
    unfold CP
    rw [eW, eF, eL, c1 _ _ t5 (by simp) (by simp), c1 _ _ t5 (by simp) (by simp), c2, c1 _ _ t5 (by simp) (by simp), c1 _ _ t5 (by simp) (by simp), c1 _ _ t5 (by simp) (by simp), a3, b1 6 (by omega) (by omega) (by omega), b1 7 (by omega) (by omega) (by omega), b1 8 (by omega) (by omega) (by omega), b1 10 (by omega) (by omega) (by omega), b1 11 (by omega) (by omega) (by omega)]
    refine ⟨⟨q0, q1, rfl, q3, q4, q5⟩, fun k hk => ?_, fun k hk => ?_, fun x hx => ?_, fun k hk => ?_⟩
    · rw [c3 _ _ _ t5, b1 12 (by omega) (by omega) (by omega)]; exact bb k hk
    · rw [c5 _ _ _ (.inl t5) (by simp), c1 (2, o, k) 1 ⟨rfl, by simp⟩ (by simp) (by simp), b1 13 (by omega) (by omega) (by omega), lr, gr (22, o, k) ⟨rfl, by simp⟩]
      exact cc k hk
    · by_cases ex : x = nF (fA Y xM) o
      · subst ex
        obtain ⟨z1, z2, z3, z4⟩ := h7 _ (Nat.le_refl _) hn
        rw [c6, c2', a2, c1 (0, o, nF (fA Y xM) o) 2 ⟨rfl, by simp⟩ (by simp) (by simp), c2z, b1 18 (by omega) (by omega) (by omega), z1, or, gr (20, o, nF (fA Y xM) o) ⟨rfl, by simp⟩]
        refine ⟨rfl, rfl, rfl, fun r hr => ?_⟩
        rw [z4 r hr]
        unfold gRow
        rw [c3z, c3z, c3z]
      · rw [c5 _ _ _ (.inl t5) (by simp [ex]), c1 (0, o, x) 0 ⟨rfl, by simp⟩ (by simp) (by simp [ex]), c1 (0, o, x) 2 ⟨rfl, by simp⟩ (by simp) (by simp), a1 17 _ (by omega) (by omega) (by omega), b1 18 (by omega) (by omega) (by omega), or, gr (20, o, x) ⟨rfl, by simp⟩]
        exact dd x (by omega)
    · have hq := h4 k hk
      have hl := hLk k hk
      rw [c5 _ _ _ (.inl t5) (by simp), c1 (3, o, k) 0 ⟨rfl, by simp⟩ (by simp) (by simp), c5 (3, o, k) _ _ (.inl ⟨rfl, by simp⟩) (by simp), c5 (3, o, k) _ _ (.inl ⟨rfl, by simp⟩) (by simp), b1 22 (by omega) (by omega) (by omega), eP, eFl, ee _ (by omega)]
      exact ll k hk
  · obtain ⟨q, ⟨r1, r2, r3⟩, s, t, u, v, x, y, z, l⟩ := W
    unfold WA
    rw [eW, eF, eL, eNn, a3, b1 8 (by omega) (by omega) (by omega), b1 10 (by omega) (by omega) (by omega), b1 7 (by omega) (by omega) (by omega)]
    refine ⟨q, ⟨rfl, by omega, by omega⟩, s, t, fun k hk => ?_, fun k hk => ?_, fun k hk => by rw [lr]; exact x k hk, fun f hf => by rw [or]; exact y f hf, fun f hf => ?_, fun k hk => ?_⟩
    · rw [b1 12 (by omega) (by omega) (by omega)]; exact u k hk
    · rw [b1 13 (by omega) (by omega) (by omega)]
      rcases v k hk with h | ⟨f, h1, h2, h3⟩
      · exact .inl h
      · exact .inr ⟨f, by omega, h2, h3⟩
    · by_cases ex : f = nF (fA Y xM) o
      · subst ex
        rw [ee2, a2]
        exact ⟨rfl, by omega, fun _ => he⟩
      · rw [ee _ (by omega), a1 17 _ (by omega) (by omega) (by omega)]
        exact z f (by omega)
    · have hq := h4 k hk
      have hl := hLk k hk
      rw [eP, eFl, ee _ (by omega), eFo _ hq, eNn, b1 22 (by omega) (by omega) (by omega), b1 23 (by omega) (by omega) (by omega), b1 6 (by omega) (by omega) (by omega), b1 13 (by omega) (by omega) (by omega), b1 18 (by omega) (by omega) (by omega)]
      exact l k hk
  · intro k hk
    rw [eL] at hk
    rw [eP]
    exact h4 k hk
  · intro z
    rw [b1 6 (by omega) (by omega) (by omega)] at z
    exact absurd z no
  · intro _ x hx
    rw [b1 18 (by omega) (by omega) (by omega)]
    exact h6 no x hx
  · intro x hx hx8
    rw [eF] at hx
    rw [b1 18 (by omega) (by omega) (by omega), or]
    obtain ⟨z1, z2, z3, z4⟩ := h7 x (by omega) hx8
    exact ⟨z1, G _ (by simp; omega) (by simp) z2, G _ (by simp) (by simp; omega) z3, z4⟩
  · intro k hk hk8
    rw [eL] at hk
    exact G _ (by simp) (by simp) (h8 k hk hk8)
  · intro k hk z
    rw [b1 13 (by omega) (by omega) (by omega)] at z
    exact ⟨G _ (by simp) (by simp) (h9 k hk z).1, G _ (by simp) (by simp) (h9 k hk z).2⟩
/-- 4: function -/
theorem case_4 {x1 : Int32} {Pr : Prop} {B F : xG → xW → Prop} (hi : Inv g Y) (hz : XZ g Y) (hp : Pr) (H : ∀ g' Y', Inv g' Y' → CT Y Y' → B g' Y') : L_92_0 V g Y x1 (fun x12 g13 Y11 => Pr ∧ L_138_0 V g13 Y11 x1 (fun x16 Y15 => ((x12 = x16) → B g13 Y15) ∧ (¬ (x12 = x16) → F g13 Y15))) := by
  have hi' := hi
  obtain ⟨⟨P, N, I⟩, S, K, hd, J⟩ := hi'
  obtain ⟨⟨P24, N2⟩, ⟨m3, y1, m4, y3⟩, hop, hPP, hFP, hC⟩ := id I
  have fin : ((-1 : Int32) = -1 → B g (uI Y xM 2 0)) ∧ (¬ (-1 : Int32) = -1 → F g (uI Y xM 2 0)) := ⟨fun _ => H _ _ (Inv_c0 hi).1 (Inv_c0 hi).2, fun z => absurd rfl z⟩
  have f0 : L_138_43 V g (uI Y xM 2 0) x1 (fun x10 Y9 => (((-1 : Int32) = x10) → B g Y9) ∧ (¬ ((-1 : Int32) = x10) → F g Y9)) := l_138_43 fin
  rcases hop with ⟨o5, oR⟩ | ⟨o, oP, o5, oR, no⟩
  · refine l_92_0 (fun o1 e1 => ⟨fun _ => l_92_19 ⟨hp, l_138_0 (fun Y1 e2 => ?_)⟩, fun u z => absurd (z.symm.trans (e1.trans oR)) (by simp)⟩)
    subst e2
    refine ⟨fun _ => f0, fun z => absurd ?_ z⟩
    show fI Y xM 5 < 0
    rw [o5]
    decide
  · have PPo := hPP o oP
    have W := PPo.2.2.1
    have C := PPo.2.1
    have w2 := W.1.2
    have f8 := W.2.1.2.2
    have mf : ¬ (nF (fA Y xM) o < 8 ∧ ∃ i, i < nW (fA Y xM) o ∧ x1 = n32 i) → L_138_0 V g Y x1 (fun x10 Y9 => (((-1 : Int32) = x10) → B g Y9) ∧ (¬ ((-1 : Int32) = x10) → F g Y9)) := by
      intro h
      refine l_138_0 (fun Y1 e2 => ?_)
      subst e2
      have e5 : fI (uI Y (10, 0, 0) 2 0) (10, 0, 0) 5 = n32 o := o5
      refine ⟨fun _ => f0, fun _ => ?_⟩
      rw [e5, n_nat (by omega), show fA (uI Y (10, 0, 0) 2 0) (10, 0, 0) 8 o = n32 (nW (fA Y xM) o) from W.1.1, show fA (uI Y (10, 0, 0) 2 0) (10, 0, 0) 9 o = n32 (nF (fA Y xM) o) from W.2.1.1]
      refine ⟨n_in (by omega) (by omega), fun _ => f0, fun z1 => ⟨fun _ => f0, fun z2 => ⟨n_in (by omega) (by omega), fun z3 => ?_, fun _ => f0⟩⟩⟩
      rcases n_cases x1 with y | ⟨i, hi1, e1⟩
      · exact absurd (by rw [i_lt, t0]; exact y) z2
      · rw [e1] at z3
        have := (n_lt hi1 (by omega)).mp z3
        have n8 : nF (fA Y xM) o ≠ 8 := fun y => z1 (by rw [y]; rfl)
        exact absurd ⟨by omega, i, this, e1⟩ h
    have hn : fI Y (5, o, 0) 5 = n32 (nW (fA Y xM) o) := C.1.2.1.trans W.1.1
    have hfn : fI Y (5, o, 0) 6 = n32 (nF (fA Y xM) o) := C.1.2.2.1.trans W.2.1.1
    refine l_92_0 (fun o1 e1 => ⟨fun z => absurd (z.symm.trans (e1.trans oR)) (by simp), fun u z o3 e3 => ⟨(5, o, 0), e3.trans oR, l_50_0 ?_⟩⟩)
    rw [hfn]
    refine ⟨fun c8 => l_50_17 (l_92_19 ⟨hp, mf (fun z => ?_)⟩), fun c8 => ?_⟩
    · have := (n_le (a := 8) (by omega) (by omega)).mp c8
      omega
    have n8 : nF (fA Y xM) o < 8 := by
      have := mt (n_le (a := 8) (by omega) (by omega)).mpr c8
      omega
    rcases n_cases x1 with y | ⟨i, hi1, rfl⟩
    · refine s_42n y ⟨fun _ => l_50_17 (l_92_19 ⟨hp, mf (fun z => ?_)⟩), fun z => absurd rfl z⟩
      obtain ⟨_, i, h1, h2⟩ := z
      rw [h2, n_toInt (by omega)] at y
      omega
    · refine s_42 hn (by omega) hi1 (fun c => ⟨fun z => absurd z (by decide), fun _ => ?_⟩) (fun c => ⟨fun _ => l_50_17 (l_92_19 ⟨hp, mf (fun z => ?_)⟩), fun z => absurd rfl z⟩)
      · obtain ⟨z1, z2, z3, z4⟩ := PPo.2.2.2.2.2.2.1 _ (Nat.le_refl _) n8
        have zf := hz _ z2
        have zo := hz _ z3
        refine ⟨o, nF (fA Y xM) o, z2, z3, fun g5 Y7 _ hiff e7 => ?_⟩
        rw [hfn, n_nat (by omega)]
        refine ⟨n_in (by omega) (by omega), fun Y8 e8 Y9 e9 => l_92_19 ?_⟩
        have w8 : fI Y8 (5, o, 0) 6 = n32 (nF (fA Y xM) o) := by rw [e8, e7, fI_uR, fI_uI, if_neg (by simp)]; exact hfn
        rw [w8, show n32 (nF (fA Y xM) o) + 1 = n32 (nF (fA Y xM) o + 1) from n_add _ 1] at e9
        have w9 : fI Y9 (5, o, 0) 6 = n32 (nF (fA Y xM) o + 1) := by rw [e9, fI_uI, if_pos ⟨rfl, rfl⟩]
        rw [w9, show n32 (nF (fA Y xM) o + 1) - 1 = n32 (nF (fA Y xM) o) from n_sub (b := 1) (by omega)]
        refine ⟨hp, l_138_0 (fun Y3 e3 => ?_)⟩
        have a3 : ∀ u k j, fA Y3 u k j = fA Y u k j := fun u k j => by rw [e3, e9, e8, e7]; rfl
        have i3 : ∀ u k, ¬ (u = xM ∧ k = 2) → ¬ (u = (5, o, 0) ∧ k = 6) → ¬ (u = (0, o, nF (fA Y xM) o) ∧ k = 0) → fI Y3 u k = fI Y u k := fun u k h1 h2 h3 => by rw [e3, fI_uI, if_neg h1, e9, fI_uI, if_neg h2, e8, fI_uR, e7, fI_uI, if_neg h3]; rfl
        have m5 : fI Y3 (10, 0, 0) 5 = n32 o := (i3 _ _ (by simp) (by simp) (by simp)).trans o5
        rw [m5, n_nat (by omega), a3, a3, W.1.1, W.2.1.1, ix8, n_nat (by omega), n_lt (by omega) (by omega)]
        refine ⟨fun z => absurd z (n_ge0 (by omega)), fun _ => ⟨n_in (by omega) (by omega), fun z => ?_, fun _ => ⟨fun z => absurd z (n_ge0 (by omega)), fun _ => ⟨n_in (by omega) (by omega), fun _ => ⟨n_in (by omega) (by omega), n_in (by omega) (by omega), fun Y4 e4 => ?_⟩, fun z => absurd c z⟩⟩⟩⟩
        · have := (n_eq (b := 8) (by omega) (by omega)).mp z
          omega
        · have m5b : fI Y4 (10, 0, 0) 5 = n32 o := by rw [e4]; exact m5
          have a9 : fA Y4 (10, 0, 0) 9 o = n32 (nF (fA Y xM) o) := by rw [e4, fA_uA, if_neg (by simp), a3]; exact W.2.1.1
          rw [m5b, n_nat (by omega), a9, show n32 (nF (fA Y xM) o) + 1 = n32 (nF (fA Y xM) o + 1) from n_add _ 1]
          refine ⟨n_in (by omega) (by omega), n_in (by omega) (by omega), fun Y5 e5 => ?_⟩
          have m5c : fI Y5 (10, 0, 0) 5 = n32 o := by rw [e5]; exact m5b
          have a9c : fA Y5 (10, 0, 0) 9 o = n32 (nF (fA Y xM) o + 1) := by rw [e5, fA_uA, if_pos ⟨rfl, rfl, rfl⟩]
          rw [m5c, n_nat (by omega), a9c, show n32 (nF (fA Y xM) o + 1) - 1 = n32 (nF (fA Y xM) o) from n_sub (b := 1) (by omega)]
          refine ⟨n_in (by omega) (by omega), fun _ => ?_, fun z => absurd rfl z⟩
          have rI : ∀ u k, ¬ (u = xM ∧ k = 2) → ¬ (u = (5, o, 0) ∧ k = 6) → ¬ (u = (0, o, nF (fA Y xM) o) ∧ k = 0) → fI Y5 u k = fI Y u k := fun u k h1 h2 h3 => by rw [e5, fI_uA, e4, fI_uA]; exact i3 u k h1 h2 h3
          have rA : ∀ u k j, fA Y5 u k j = if u = xM ∧ k = 9 ∧ j = o then n32 (nF (fA Y xM) o + 1) else if u = xM ∧ k = 17 ∧ j = 8 * o + nF (fA Y xM) o then n32 i else fA Y u k j := by
            intro u k j
            rw [e5, fA_uA, e4, fA_uA, a3]
          have rM : ∀ k j, ¬ (k = 17 ∧ j = 8 * o + nF (fA Y xM) o) → ¬ (k = 9 ∧ j = o) → fA Y5 xM k j = fA Y xM k j := fun k j h1 h2 => by rw [rA, if_neg (fun z => h2 z.2), if_neg (fun z => h1 z.2)]
          have rO : ∀ u k j, u ≠ xM → fA Y5 u k j = fA Y u k j := fun u k j h1 => by rw [rA, if_neg (fun z => h1 z.1), if_neg (fun z => h1 z.1)]
          have rL : ∀ u k j, fL Y5 u k j = fL Y u k j := by intro u k j; rw [e5, e4, e3, e9, e8, e7]; rfl
          have rR : ∀ u k j, fR Y5 u k j = if u = (5, o, 0) ∧ k = 3 ∧ j = nF (fA Y xM) o then some (0, o, nF (fA Y xM) o) else fR Y u k j := by
            intro u k j
            rw [e5, fR_uA, e4, fR_uA, e3, fR_uI, e9, fR_uI, e8, fR_uR, e7]
            rfl
          have rC : CT Y Y5 := by
            rw [e5, e4, e3, e9, e8, e7]
            exact ⟨by show (fC Y).2.1 + 1 + 1 + 1 + 1 + 1 ≤ _; omega, by show (fC Y).2.2 + 3 + 3 + 8 + 8 + 8 ≤ _; omega⟩
          have hg : ∀ u, u ≠ (0, o, nF (fA Y xM) o) → u ≠ (20, o, nF (fA Y xM) o) → g.1 u = false → g5.1 u = false := by
            intro u h1 h2 h3
            refine iff_f (hiff u) (fun z => ?_)
            rcases z with z | z | z
            · rw [h3] at z
              exact absurd z (by decide)
            · exact h1 z
            · exact h2 z
          have PPn : PP g5 Y5 (fA Y5 xM) o := by
            refine PP_fn PPo no n8 c (fun k j _ h1 h2 => rM k j h1 h2) ?_ a9c (fun u k hu h1 h2 => rI u k (fun z => (tP_no hu).1 z.1) h1 h2) ?_ ?_ (zf.1 2) (fun u k j hu => rO u k j (tP_no hu).1) (fun k j => zo.2.1 k j) (fun u k j _ h1 => by rw [rR, if_neg h1]) (by rw [rR, if_pos ⟨rfl, rfl, rfl⟩]) hg (IP_lk I oP)
            · rw [rA, if_neg (by simp), if_pos ⟨rfl, rfl, rfl⟩]
            · rw [e5, fI_uA, e4, fI_uA, e3, fI_uI, if_neg (by simp)]
              exact w9
            · rw [e5, fI_uA, e4, fI_uA, e3, fI_uI, if_neg (by simp), e9, fI_uI, if_neg (by simp), e8, fI_uR, e7, fI_uI, if_pos ⟨rfl, rfl⟩]
          refine H g5 Y5 (Inv_open (g' := g5) (N' := N) (o := o) I J oP no (fun k j hk hw => rM k j (fun z => hw (by unfold own; omega)) (fun z => hw (by unfold own; omega))) (fun p hpo => ⟨fun u k hu => rI u k (fun z => (tP_no hu).1 z.1) (fun z => hpo (by have := hu.1; rw [z.1] at this; exact this.symm)) (fun z => hpo (by have := hu.1; rw [z.1] at this; exact this.symm)), fun u k j hu => rO u k j (tP_no hu).1, fun u k j hu => by rw [rR, if_neg (fun z => hpo (by have := hu.1; rw [z.1] at this; exact this.symm))], by rw [rR, if_neg (by simp)]⟩) (fun u p hpo hu => hg u (fun z => hpo (by have := hu.1; rw [z] at this; exact this.symm)) (fun z => hpo (by have := hu.1; rw [z] at this; exact this.symm))) (fun q => hg _ (by simp) (by simp)) PPn N2 ((rI _ _ (by simp) (by simp) (by simp)).trans m3) ((rI _ _ (by simp) (by simp) (by simp)).trans y1) ((rI _ _ (by simp) (by simp) (by simp)).trans m4) ((rI _ _ (by simp) (by simp) (by simp)).trans y3) (.inr ⟨o, oP, (rI _ _ (by simp) (by simp) (by simp)).trans o5, by rw [rR, if_neg (by simp)]; exact oR, by rw [rM 6 o (by omega) (by omega)]; exact no⟩) ⟨fun u k hu => rI u k (fun z => by rw [z.1] at hu; simp at hu) (fun z => by rw [z.1] at hu; simp at hu) (fun z => by rw [z.1] at hu; simp at hu), fun k hk => rI _ _ (by simp) (by simp) (by simp), fun k h1 h2 => rI _ _ (fun z => by have := z.2; omega) (by simp) (by simp), fun u k j hu => rO u k j (fun z => by rw [z] at hu; simp at hu), fun u k j => .inl (rL u k j), fun j => by rw [rR, if_neg (by simp)]⟩ (fun k j hk => rM k j (by omega) (by omega))) rC
      · obtain ⟨_, i', h1, h2⟩ := z
        have : i' = i := (n_eq (by omega) (by omega)).mp h2.symm
        omega
end FU
