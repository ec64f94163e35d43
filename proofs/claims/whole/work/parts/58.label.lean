/-! label -/
section LA
variable {V : xV} {g : xG} {Y : xW}
theorem s_135_l {Q : Int32 → xW → Prop} {x1 x2 : Int32} {a : Nat} (ha : a < 4800) (H : ∀ Y', (∀ u k, fI Y' u k = fI Y u k) → (∀ u k j, fA Y' u k j = if u = xM ∧ k = 14 ∧ 8 * a ≤ j ∧ j < 8 * a + 8 then 0 else fA Y u k j) → (∀ u k j, fL Y' u k j = fL Y u k j) → (∀ u k j, fR Y' u k j = fR Y u k j) → fC Y' = fC Y → Q 1 Y') : ∀ (m k : Nat) (Y1 : xW), k + m = 8 → (∀ u k, fI Y1 u k = fI Y u k) → (∀ u k' j, fA Y1 u k' j = if u = xM ∧ k' = 14 ∧ 8 * a ≤ j ∧ j < 8 * a + k then 0 else fA Y u k' j) → (∀ u k j, fL Y1 u k j = fL Y u k j) → (∀ u k j, fR Y1 u k j = fR Y u k j) → fC Y1 = fC Y → L_135_60 V g Y1 x1 x2 (n32 a) (n32 k) Q := by
  intro m
  induction m with
  | zero =>
    intro k Y1 hk h1 h2 h3 h4 h5
    have k8 : k = 8 := by omega
    subst k8
    exact l_135_60 ⟨fun _ => ⟨.inr rfl, H Y1 h1 h2 h3 h4 h5⟩, fun z => absurd ((n_le (a := 8) (by omega) (by omega)).mpr (by omega)) z⟩
  | succ m ih =>
    intro k Y1 hk h1 h2 h3 h4 h5
    refine l_135_60 ⟨fun z => absurd ((n_le (a := 8) (by omega) (by omega)).mp z) (by omega), fun _ => ?_⟩
    rw [ix8, n_nat (by omega), show n32 k + 1 = n32 (k + 1) from n_add k 1]
    refine ⟨n_in (by omega) (by omega), fun Y2 e2 => ih (k + 1) Y2 (by omega) (fun u k' => by rw [e2]; exact h1 u k') (fun u k' j => ?_) (fun u k' j => by rw [e2]; exact h3 u k' j) (fun u k' j => by rw [e2]; exact h4 u k' j) (by rw [e2]; exact h5)⟩
    rw [e2, fA_uA, h2]
    by_cases z : u = xM ∧ k' = 14 ∧ j = 8 * a + k
    · rw [if_pos z, if_pos ⟨z.1, z.2.1, by omega, by omega⟩]
    · rw [if_neg z]
      by_cases y : u = xM ∧ k' = 14 ∧ 8 * a ≤ j ∧ j < 8 * a + k
      · rw [if_pos y, if_pos ⟨y.1, y.2.1, y.2.2.1, by omega⟩]
      · rw [if_neg y, if_neg (fun x => ?_)]
        by_cases q : j = 8 * a + k
        · exact z ⟨x.1, x.2.1, q⟩
        · exact y ⟨x.1, x.2.1, x.2.2.1, by omega⟩
theorem PP_label {g' : xG} {Y' : xW} {o i f : Nat} (h : PP g Y (fA Y xM) o) (no : ¬ fA Y xM 6 o = 1) (hi : i < nW (fA Y xM) o) (hf : f < nF (fA Y xM) o)
    (a1 : ∀ k j, k < 24 → ¬ (k = 13 ∧ j = 200 * o + i) → ¬ (k = 14 ∧ 8 * (200 * o + i) ≤ j ∧ j < 8 * (200 * o + i) + 8) → fA Y' xM k j = fA Y xM k j) (a2 : fA Y' xM 13 (200 * o + i) = n32 f) (a3 : ∀ r, r < 8 → fA Y' xM 14 (8 * (200 * o + i) + r) = 0)
    (c1 : ∀ u k, tP u o → ¬ (u = (2, o, i) ∧ k = 1) → fI Y' u k = fI Y u k) (c2 : fI Y' (2, o, i) 1 = n32 f) (c3 : ∀ u k j, tP u o → u ≠ (22, o, i) → fA Y' u k j = fA Y u k j) (c4 : ∀ r, r < 8 → gRow Y' (22, o, i) r = (0, 0, 0)) (c5 : ∀ u k j, (tP u o ∨ u = (9, 0, 0)) → ¬ (u = (5, o, 0) ∧ k = 2 ∧ j = i) → fR Y' u k j = fR Y u k j) (c6 : fR Y' (5, o, 0) 2 i = some (2, o, i))
    (G : ∀ u, u ≠ (2, o, i) → u ≠ (22, o, i) → g.1 u = false → g'.1 u = false) (hLk : ∀ k, k < nL (fA Y xM) o → eN (fA Y xM) (8 * lP (fA Y xM) (8 * o + k) + lF (fA Y xM) (8 * o + k)) < 200) : PP g' Y' (fA Y' xM) o := by
  obtain ⟨h1, C, W, h4, h5, h6, h7, h8, h9⟩ := h
  have w2 := W.1.2
  have b1 : ∀ k, k < 24 → k ≠ 13 → k ≠ 14 → ∀ j, fA Y' xM k j = fA Y xM k j := fun k h0 h1 h2 j => a1 k j h0 (fun z => h1 z.1) (fun z => h2 z.1)
  have eW : ∀ q, nW (fA Y' xM) q = nW (fA Y xM) q := fun q => by unfold nW; rw [b1 8 (by omega) (by omega) (by omega)]
  have eF : ∀ q, nF (fA Y' xM) q = nF (fA Y xM) q := fun q => by unfold nF; rw [b1 9 (by omega) (by omega) (by omega)]
  have eL : ∀ q, nL (fA Y' xM) q = nL (fA Y xM) q := fun q => by unfold nL; rw [b1 10 (by omega) (by omega) (by omega)]
  have eNn : ∀ q, nN (fA Y' xM) q = nN (fA Y xM) q := fun q => by unfold nN; rw [b1 7 (by omega) (by omega) (by omega)]
  have ee : ∀ f, eN (fA Y' xM) f = eN (fA Y xM) f := fun f => by unfold eN; rw [b1 17 (by omega) (by omega) (by omega)]
  have eP : ∀ k, lP (fA Y' xM) k = lP (fA Y xM) k := fun k => by unfold lP; rw [b1 22 (by omega) (by omega) (by omega)]
  have eFl : ∀ k, lF (fA Y' xM) k = lF (fA Y xM) k := fun k => by unfold lF; rw [b1 23 (by omega) (by omega) (by omega)]
  have or : ∀ a, oRow (fA Y' xM) a = oRow (fA Y xM) a := fun a => by unfold oRow; rw [funext (b1 19 (by omega) (by omega) (by omega)), funext (b1 20 (by omega) (by omega) (by omega)), funext (b1 21 (by omega) (by omega) (by omega))]
  have lr : ∀ k, k ≠ i → k < 200 → ∀ r, r < 8 → lRow (fA Y' xM) (200 * o + k) r = lRow (fA Y xM) (200 * o + k) r := by
    intro k hk hk2 r hr
    unfold lRow
    rw [a1 14 _ (by omega) (by omega) (by omega), b1 15 (by omega) (by omega) (by omega), b1 16 (by omega) (by omega) (by omega)]
  have li : ∀ r, r < 8 → (lRow (fA Y' xM) (200 * o + i) r).1 = 0 := fun r hr => a3 r hr
  have t5 : tP (5, o, 0) o := ⟨rfl, .inl rfl⟩
  have ng : ¬ n32 f < 0 := n_ge0 (by have := W.2.1.2.2; omega)
  refine ⟨(c5 _ _ _ (.inr rfl) (by simp)).trans h1, ?_, ?_, ?_, ?_, ?_, ?_, ?_, ?_⟩
  · obtain ⟨⟨q0, q1, q2, q3, q4, q5⟩, bb, cc, dd, ll⟩ := C
    unfold CP
    rw [eW, eF, eL, c1 _ _ t5 (by simp), c1 _ _ t5 (by simp), c1 _ _ t5 (by simp), c1 _ _ t5 (by simp), c1 _ _ t5 (by simp), c1 _ _ t5 (by simp), b1 6 (by omega) (by omega) (by omega), b1 7 (by omega) (by omega) (by omega), b1 8 (by omega) (by omega) (by omega), b1 9 (by omega) (by omega) (by omega), b1 10 (by omega) (by omega) (by omega), b1 11 (by omega) (by omega) (by omega)]
    refine ⟨⟨q0, q1, q2, q3, q4, q5⟩, fun k hk => ?_, fun k hk => ?_, fun x hx => ?_, fun k hk => ?_⟩
    · rw [c3 _ _ _ t5 (by simp), b1 12 (by omega) (by omega) (by omega)]; exact bb k hk
    · by_cases e : k = i
      · subst e
        rw [a2, c6, c2]
        refine ⟨fun z => absurd z ng, fun _ => ⟨rfl, rfl, fun r hr => ?_⟩⟩
        rw [c4 r hr]
        exact ⟨(li r hr).symm, fun z => absurd (li r hr) z⟩
      · have e' : gRow Y' (22, o, k) = gRow Y (22, o, k) := gRow_c (fun k' j => c3 _ _ _ ⟨rfl, by simp⟩ (by simp [e]))
        rw [c5 _ _ _ (.inl t5) (by simp [e]), c1 (2, o, k) 1 ⟨rfl, by simp⟩ (by simp [e]), a1 13 _ (by omega) (by omega) (by omega), e']
        refine ⟨(cc k hk).1, fun z => ⟨((cc k hk).2 z).1, ((cc k hk).2 z).2.1, fun r hr => ?_⟩⟩
        rw [lr k e hk r hr]
        exact ((cc k hk).2 z).2.2 r hr
    · have e' : gRow Y' (20, o, x) = gRow Y (20, o, x) := gRow_c (fun k' j => c3 _ _ _ ⟨rfl, by simp⟩ (by simp))
      rw [c5 _ _ _ (.inl t5) (by simp), c1 (0, o, x) 0 ⟨rfl, by simp⟩ (by simp), c1 (0, o, x) 2 ⟨rfl, by simp⟩ (by simp), b1 17 (by omega) (by omega) (by omega), b1 18 (by omega) (by omega) (by omega), or, e']
      exact dd x hx
    · rw [c5 _ _ _ (.inl t5) (by simp), c1 (3, o, k) 0 ⟨rfl, by simp⟩ (by simp), c5 (3, o, k) _ _ (.inl ⟨rfl, by simp⟩) (by simp), c5 (3, o, k) _ _ (.inl ⟨rfl, by simp⟩) (by simp), b1 22 (by omega) (by omega) (by omega), eP, eFl, ee]
      exact ll k hk
  · obtain ⟨q, r, s, t, u, v, x, y, z, l⟩ := W
    unfold WA
    rw [eW, eF, eL, eNn, b1 8 (by omega) (by omega) (by omega), b1 9 (by omega) (by omega) (by omega), b1 10 (by omega) (by omega) (by omega), b1 7 (by omega) (by omega) (by omega)]
    refine ⟨q, r, s, t, fun k hk => ?_, fun k hk => ?_, fun k hk => ?_, fun x hx => by rw [or]; exact y x hx, fun x hx => ?_, fun k hk => ?_⟩
    · rw [b1 12 (by omega) (by omega) (by omega)]; exact u k hk
    · by_cases e : k = i
      · subst e
        exact .inr ⟨f, hf, a2, hi⟩
      · rw [a1 13 _ (by omega) (by omega) (by omega)]; exact v k hk
    · by_cases e : k = i
      · subst e
        exact fun r hr => .inl (li r hr)
      · exact okR_c (lr k e hk) (x k hk)
    · rw [ee, b1 17 (by omega) (by omega) (by omega)]; exact z x hx
    · have lk := l k hk
      have hh := hLk k hk
      have nq := h4 k hk
      rw [eP, eFl, ee, eF, eNn, b1 22 (by omega) (by omega) (by omega), b1 23 (by omega) (by omega) (by omega), b1 6 (by omega) (by omega) (by omega), b1 18 (by omega) (by omega) (by omega), a1 13 _ (by omega) (by omega) (by omega)]
      exact lk
  · intro k hk
    rw [eL] at hk
    rw [eP]
    exact h4 k hk
  · intro z
    rw [b1 6 (by omega) (by omega) (by omega)] at z
    exact absurd z no
  · intro _ x hx
    rw [b1 18 (by omega) (by omega) (by omega)]
    exact h6 no x hx
  · intro x hx hx8
    rw [eF] at hx
    rw [b1 18 (by omega) (by omega) (by omega), or]
    exact ⟨(h7 x hx hx8).1, G _ (by simp) (by simp) (h7 x hx hx8).2.1, G _ (by simp) (by simp) (h7 x hx hx8).2.2.1, (h7 x hx hx8).2.2.2⟩
  · intro k hk hk8
    rw [eL] at hk
    exact G _ (by simp) (by simp) (h8 k hk hk8)
  · intro k hk z
    have e : k ≠ i := by
      intro e
      rw [e, a2] at z
      exact ng z
    rw [a1 13 _ (by omega) (by omega) (by omega)] at z
    exact ⟨G _ (by simp [e]) (by simp) (h9 k hk z).1, G _ (by simp) (by simp [e]) (h9 k hk z).2⟩
end LA
