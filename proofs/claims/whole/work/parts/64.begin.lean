/-! begin -/
section BE
variable {V : xV} {g : xG} {Y : xW}
theorem s_126_l {Q : Int32 → xW → Prop} {x1 : Int32} {o : Nat} (ho : o < 24) (o5 : fI Y xM 5 = n32 o) (H : ∀ Y', (∀ u k, fI Y' u k = fI Y u k) → (∀ u k j, fA Y' u k j = if u = xM ∧ k = 13 ∧ 200 * o ≤ j ∧ j < 200 * o + 200 then -1 else fA Y u k j) → (∀ u k j, fL Y' u k j = fL Y u k j) → (∀ u k j, fR Y' u k j = fR Y u k j) → fC Y' = fC Y → Q (n32 o) Y') : ∀ (m k : Nat) (Y1 : xW), k + m = 200 → (∀ u k, fI Y1 u k = fI Y u k) → (∀ u k' j, fA Y1 u k' j = if u = xM ∧ k' = 13 ∧ 200 * o ≤ j ∧ j < 200 * o + k then -1 else fA Y u k' j) → (∀ u k j, fL Y1 u k j = fL Y u k j) → (∀ u k j, fR Y1 u k j = fR Y u k j) → fC Y1 = fC Y → L_126_85 V g Y1 x1 (n32 k) Q := by
  intro m
  induction m with
  | zero =>
    intro k Y1 hk h1 h2 h3 h4 h5
    have k8 : k = 200 := by omega
    subst k8
    refine l_126_85 ⟨fun _ => ?_, fun z => absurd ((n_le (a := 200) (by omega) (by omega)).mpr (by omega)) z⟩
    rw [h1, o5]
    exact H Y1 h1 h2 h3 h4 h5
  | succ m ih =>
    intro k Y1 hk h1 h2 h3 h4 h5
    refine l_126_85 ⟨fun z => absurd ((n_le (a := 200) (by omega) (by omega)).mp z) (by omega), fun _ => ?_⟩
    rw [h1, o5, ix200, n_nat (by omega), show n32 k + 1 = n32 (k + 1) from n_add k 1]
    refine ⟨n_in (by omega) (by omega), fun Y2 e2 => ih (k + 1) Y2 (by omega) (fun u k' => by rw [e2]; exact h1 u k') (fun u k' j => ?_) (fun u k' j => by rw [e2]; exact h3 u k' j) (fun u k' j => by rw [e2]; exact h4 u k' j) (by rw [e2]; exact h5)⟩
    rw [e2, fA_uA, h2]
    by_cases z : u = xM ∧ k' = 13 ∧ j = 200 * o + k
    · rw [if_pos z, if_pos ⟨z.1, z.2.1, by omega, by omega⟩]
    · rw [if_neg z]
      by_cases y : u = xM ∧ k' = 13 ∧ 200 * o ≤ j ∧ j < 200 * o + k
      · rw [if_pos y, if_pos ⟨y.1, y.2.1, y.2.2.1, by omega⟩]
      · rw [if_neg y, if_neg (fun x => ?_)]
        by_cases q : j = 200 * o + k
        · exact z ⟨x.1, x.2.1, q⟩
        · exact y ⟨x.1, x.2.1, x.2.2.1, by omega⟩
/-- 0: begin -/
theorem case_0 {x1 : Int32} {Pr : Prop} {B F : xG → xW → Prop} (hi : Inv g Y) (hz : XZ g Y) (hp : Pr) (H : ∀ g' Y', Inv g' Y' → CT Y Y' → B g' Y') : L_88_0 V g Y x1 (fun x12 g13 Y11 => Pr ∧ L_126_0 V g13 Y11 x1 (fun x16 Y15 => ((x12 = x16) → B g13 Y15) ∧ (¬ (x12 = x16) → F g13 Y15))) := by
  have hi' := hi
  obtain ⟨⟨P, N, I⟩, S, K, hd, J⟩ := hi'
  obtain ⟨⟨P24, N2⟩, ⟨m3, y1, m4, y3⟩, hop, hPP, hFP, hC⟩ := id I
  have fin : ((-1 : Int32) = -1 → B g (uI Y xM 2 0)) ∧ (¬ (-1 : Int32) = -1 → F g (uI Y xM 2 0)) := ⟨fun _ => H _ _ (Inv_c0 hi).1 (Inv_c0 hi).2, fun z => absurd rfl z⟩
  have f0 : L_126_33 V g (uI Y xM 2 0) x1 (fun x10 Y9 => (((-1 : Int32) = x10) → B g Y9) ∧ (¬ ((-1 : Int32) = x10) → F g Y9)) := l_126_33 fin
  have mf : ¬ (fI Y xM 5 = -1 ∧ P < 24 ∧ ¬ x1 < 1 ∧ x1 ≤ 1024) → Pr ∧ L_126_0 V g Y x1 (fun x10 Y9 => (((-1 : Int32) = x10) → B g Y9) ∧ (¬ ((-1 : Int32) = x10) → F g Y9)) := by
    intro h
    refine ⟨hp, l_126_0 (fun Y1 e2 => ?_)⟩
    subst e2
    have e3 : fI (uI Y (10, 0, 0) 2 0) (10, 0, 0) 3 = n32 P := m3
    rw [e3]
    refine ⟨fun _ => f0, fun z1 => ⟨fun _ => f0, fun z2 => ⟨fun _ => f0, fun z3 => ⟨fun z4 => ?_, fun _ => f0⟩⟩⟩⟩
    refine absurd ⟨?_, ?_, z3, z4⟩ h
    · rcases hop with h | ⟨o, h1, h2, _⟩
      · exact h.1
      · exfalso
        apply z1
        show 0 ≤ fI Y xM 5
        rw [h2, i_le, t0, n_toInt (by omega)]
        omega
    · have : P ≠ 24 := fun y => z2 (by rw [y]; rfl)
      omega
  refine l_88_0 (fun o1 e1 => ⟨fun z0 => ?_, fun u z => l_88_28 (mf (fun y => ?_))⟩)
  · have oR : fR Y (9, 0, 0) 2 0 = none := e1.symm.trans z0
    have o5 : fI Y xM 5 = -1 := by
      rcases hop with h | ⟨o, _, _, h3, _⟩
      · exact h.1
      · rw [oR] at h3
        cases h3
    rw [y1]
    refine ⟨fun c => l_88_28 (mf (fun y => ?_)), fun c => ⟨fun c1 => l_88_28 (mf (fun y => y.2.2.1 c1)), fun c1 => ⟨fun c2 => ?_, fun c2 => l_88_28 (mf (fun y => c2 y.2.2.2))⟩⟩⟩
    · have := (n_le (a := 24) (by omega) (by omega)).mp c
      omega
    have c' : P < 24 := by
      have := mt (n_le (a := 24) (by omega) (by omega)).mpr c
      omega
    obtain ⟨n, hn1, en⟩ : ∃ n, n < 2147483648 ∧ x1 = n32 n := by
      rcases n_cases x1 with y | y
      · exfalso
        apply c1
        rw [i_lt]
        have e1 : (1 : Int32).toInt = 1 := rfl
        omega
      · exact y
    subst en
    have nb1 : 1 ≤ n := by
      have := mt (n_lt (b := 1) hn1 (by omega)).mpr c1
      omega
    have nb2 : n ≤ 1024 := (n_le (b := 1024) hn1 (by omega)).mp c2
    obtain ⟨g1, g2, g3, g4, q6, q8, q10, qf, ql⟩ := hFP P (Nat.le_refl _) c'
    have z5 := hz _ g1
    have zf := hz _ (g2 0 (by omega)).1
    have zo := hz _ (g2 0 (by omega)).2
    refine ⟨P, g1, (g2 0 (by omega)).1, (g2 0 (by omega)).2, fun g5 Y7 _ hiff e7 Y8 e8 o9 e9 => ⟨(5, P, 0), by rw [e9, e8, fR_uR, if_pos ⟨rfl, rfl, rfl⟩], ?_⟩⟩
    have w8 : fI Y8 (9, 0, 0) 1 = n32 P := by rw [e8, e7, fI_uR, fI_uR, fI_uI, if_neg (by simp), fI_uI, if_neg (by simp), fI_uI, if_neg (by simp)]; exact y1
    rw [w8]
    refine ⟨n_in c' (by omega), fun Y11 e11 Y12 e12 => ?_⟩
    rw [n_nat (by omega)] at e11
    have w11 : fI Y11 (9, 0, 0) 1 = n32 P := by rw [e11]; exact w8
    rw [w11, show n32 P + 1 = n32 (P + 1) from n_add P 1] at e12
    have w12 : fI Y12 (9, 0, 0) 1 = n32 (P + 1) := by rw [e12, fI_uI, if_pos ⟨rfl, rfl⟩]
    rw [w12, show n32 (P + 1) - 1 = n32 P from n_sub (b := 1) (by omega)]
    -- reads of the class's state
    have cI : ∀ u k, fI Y12 u k = if u = (9, 0, 0) ∧ k = 1 then n32 (P + 1) else if u = (5, P, 0) ∧ k = 9 then -1 else if u = (5, P, 0) ∧ k = 6 then 1 else if u = (5, P, 0) ∧ k = 0 then n32 n else fI Y u k := by
      intro u k
      rw [e12, fI_uI, e11, fI_uR, e8, fI_uR, e7, fI_uR, fI_uI, fI_uI, fI_uI, fI_uC]
    have cA : ∀ u k j, fA Y12 u k j = fA Y u k j := fun u k j => by rw [e12, e11, e8, e7]; rfl
    have cL : ∀ u k j, fL Y12 u k j = fL Y u k j := fun u k j => by rw [e12, e11, e8, e7]; rfl
    have cR : ∀ u k j, fR Y12 u k j = if u = (9, 0, 0) ∧ k = 0 ∧ j = P then some (5, P, 0) else if u = (9, 0, 0) ∧ k = 2 ∧ j = 0 then some (5, P, 0) else if u = (5, P, 0) ∧ k = 3 ∧ j = 0 then some (0, P, 0) else fR Y u k j := by
      intro u k j
      rw [e12, fR_uI, e11, fR_uR, e8, fR_uR, e7, fR_uR, fR_uI, fR_uI, fR_uI, fR_uC]
    have cC : CT Y Y12 := by
      rw [e12, e11, e8, e7]
      exact ⟨by show (fC Y).2.1 + 1 + 1 + 1 + 1 + 1 + 1 + 1 + 1 + 1 + 1 ≤ _; omega, by show (fC Y).2.2 + 10 + 200 + 200 + 8 + 8 + 3 + 3 + 8 + 8 + 8 ≤ _; omega⟩
    refine ⟨hp, l_126_0 (fun Y1 f1 => ?_)⟩
    have m5 : fI Y1 (10, 0, 0) 5 = -1 := by rw [f1, fI_uI, if_neg (by simp), cI, if_neg (by simp), if_neg (by simp), if_neg (by simp), if_neg (by simp)]; exact o5
    have m3b : fI Y1 (10, 0, 0) 3 = n32 P := by rw [f1, fI_uI, if_neg (by simp), cI, if_neg (by simp), if_neg (by simp), if_neg (by simp), if_neg (by simp)]; exact m3
    rw [m5, m3b]
    refine ⟨fun z => absurd z (by decide), fun _ => ⟨fun z => ?_, fun _ => ⟨fun z => absurd z c1, fun _ => ⟨fun _ Y2 f2 Y3 f3 => ?_, fun z => absurd c2 z⟩⟩⟩⟩
    · have := (n_eq (b := 24) (by omega) (by omega)).mp z
      omega
    have m3c : fI Y2 (10, 0, 0) 3 = n32 P := by rw [f2, fI_uI, if_neg (by simp)]; exact m3b
    rw [m3c, show n32 P + 1 = n32 (P + 1) from n_add P 1] at f3
    have m5d : fI Y3 (10, 0, 0) 5 = n32 P := by rw [f3, fI_uI, if_neg (by simp), f2, fI_uI, if_pos ⟨rfl, rfl⟩]
    rw [m5d, n_nat (by omega)]
    have ip := n_in (show P < 24 from c') (show 24 ≤ 2147483648 by omega)
    refine ⟨ip, fun Y4 f4 => ?_⟩
    have m5e : fI Y4 (10, 0, 0) 5 = n32 P := by rw [f4]; exact m5d
    rw [m5e, n_nat (by omega)]
    refine ⟨ip, fun Y5 f5 => ?_⟩
    have m5f : fI Y5 (10, 0, 0) 5 = n32 P := by rw [f5]; exact m5e
    rw [m5f, n_nat (by omega)]
    refine ⟨ip, fun Y6 f6 => ?_⟩
    have m5g : fI Y6 xM 5 = n32 P := by rw [f6]; exact m5f
    refine s_126_l c' m5g (fun Y9 p1 p2 p3 p4 p5 => ⟨fun _ => ?_, fun z => absurd rfl z⟩) 200 0 Y6 rfl (fun _ _ => rfl) (fun u k j => (if_neg (fun z => by omega)).symm) (fun _ _ _ => rfl) (fun _ _ _ => rfl) rfl
    have rI : ∀ u k, fI Y9 u k = if u = xM ∧ k = 3 then n32 (P + 1) else if u = xM ∧ k = 5 then n32 P else if u = xM ∧ k = 2 then 0 else if u = (9, 0, 0) ∧ k = 1 then n32 (P + 1) else if u = (5, P, 0) ∧ k = 9 then -1 else if u = (5, P, 0) ∧ k = 6 then 1 else if u = (5, P, 0) ∧ k = 0 then n32 n else fI Y u k := by
      intro u k
      rw [p1, f6, fI_uA, f5, fI_uA, f4, fI_uA, f3, fI_uI, f2, fI_uI, f1, fI_uI, cI]
    have rA : ∀ u k j, fA Y9 u k j = if u = xM ∧ k = 13 ∧ 200 * P ≤ j ∧ j < 200 * P + 200 then -1 else if u = xM ∧ k = 11 ∧ j = P then -1 else if u = xM ∧ k = 9 ∧ j = P then 1 else if u = xM ∧ k = 7 ∧ j = P then n32 n else fA Y u k j := by
      intro u k j
      rw [p2, f6, fA_uA, f5, fA_uA, f4, fA_uA, f3, fA_uI, f2, fA_uI, f1, fA_uI, cA]
    have rO : ∀ u k j, u ≠ xM → fA Y9 u k j = fA Y u k j := fun u k j h => by rw [rA, if_neg (fun z => h z.1), if_neg (fun z => h z.1), if_neg (fun z => h z.1), if_neg (fun z => h z.1)]
    have rM : ∀ k j, k ≠ 13 → k ≠ 11 → k ≠ 9 → k ≠ 7 → fA Y9 xM k j = fA Y xM k j := fun k j h1 h2 h3 h4 => by rw [rA, if_neg (fun z => h1 z.2.1), if_neg (fun z => h2 z.2.1), if_neg (fun z => h3 z.2.1), if_neg (fun z => h4 z.2.1)]
    have rL : ∀ u k j, fL Y9 u k j = fL Y u k j := fun u k j => by rw [p3, f6, f5, f4, f3, f2, f1]; exact cL u k j
    have rR : ∀ u k j, fR Y9 u k j = if u = (9, 0, 0) ∧ k = 0 ∧ j = P then some (5, P, 0) else if u = (9, 0, 0) ∧ k = 2 ∧ j = 0 then some (5, P, 0) else if u = (5, P, 0) ∧ k = 3 ∧ j = 0 then some (0, P, 0) else fR Y u k j := by
      intro u k j
      rw [p4, f6, fR_uA, f5, fR_uA, f4, fR_uA, f3, fR_uI, f2, fR_uI, f1, fR_uI, cR]
    have rC : CT Y Y9 := by
      have e : fC Y9 = fC Y12 := by rw [p5, f6, f5, f4, f3, f2, f1]; rfl
      unfold CT
      rw [e]
      exact cC
    have hg : ∀ u, u ≠ (5, P, 0) → u ≠ (0, P, 0) → u ≠ (20, P, 0) → g.1 u = false → g5.1 u = false := by
      intro u h1 h2 h3 h4
      refine iff_f (hiff u) (fun z => ?_)
      rcases z with z | z | z | z
      · rw [h4] at z
        exact absurd z (by decide)
      · exact h1 z
      · exact h2 z
      · exact h3 z
    have own0 : ∀ k j, k < 24 → ¬ own P k j → fA Y9 xM k j = fA Y xM k j := by
      intro k j hk hw
      rw [rA, if_neg (fun z => hw (by unfold own; omega)), if_neg (fun z => hw (by unfold own; omega)), if_neg (fun z => hw (by unfold own; omega)), if_neg (fun z => hw (by unfold own; omega))]
    have E : ∀ q, q ≠ P → EQP (fA Y xM) (fA Y9 xM) q := fun q h => E_own own0 h
    have Ea : ∀ q, q < 24 → fA Y xM 6 q = 1 → EQP (fA Y xM) (fA Y9 xM) q := fun q h1 h2 => E q (by have := acc_lt I h1 h2; omega)
    have tno : ∀ {u : xT} {p : Nat}, p ≠ P → tP u p → u ≠ (5, P, 0) ∧ u ≠ (0, P, 0) ∧ u ≠ (20, P, 0) := fun h1 h2 => ⟨fun z => h1 (by have := h2.1; rw [z] at this; exact this.symm), fun z => h1 (by have := h2.1; rw [z] at this; exact this.symm), fun z => h1 (by have := h2.1; rw [z] at this; exact this.symm)⟩
    have rIo : ∀ u k, u ≠ xM → ¬ (u = (9, 0, 0) ∧ k = 1) → u ≠ (5, P, 0) → fI Y9 u k = fI Y u k := fun u k h1 h2 h3 => by rw [rI, if_neg (fun z => h1 z.1), if_neg (fun z => h1 z.1), if_neg (fun z => h1 z.1), if_neg h2, if_neg (fun z => h3 z.1), if_neg (fun z => h3 z.1), if_neg (fun z => h3 z.1)]
    have rXo : ∀ k, k ≠ 2 → k ≠ 3 → k ≠ 5 → fI Y9 xM k = fI Y xM k := fun k h1 h2 h3 => by rw [rI, if_neg (fun z => h2 z.2), if_neg (fun z => h3 z.2), if_neg (fun z => h1 z.2), if_neg (by simp), if_neg (by simp), if_neg (by simp), if_neg (by simp)]
    have r9 : fA Y9 xM 9 P = n32 1 := by rw [rA, if_neg (by simp), if_neg (by simp), if_pos ⟨rfl, rfl, rfl⟩]; rfl
    have r7 : fA Y9 xM 7 P = n32 n := by rw [rA, if_neg (by simp), if_neg (by simp), if_neg (by simp), if_pos ⟨rfl, rfl, rfl⟩]
    have r8 : fA Y9 xM 8 P = n32 0 := (rM 8 P (by omega) (by omega) (by omega) (by omega)).trans q8
    have r10 : fA Y9 xM 10 P = n32 0 := (rM 10 P (by omega) (by omega) (by omega) (by omega)).trans q10
    have eF : nF (fA Y9 xM) P = 1 := by
      have : nF (fA Y9 xM) P = (fA Y9 xM 9 P).toNatClampNeg := rfl
      rw [this, r9]
      exact n_nat (by omega)
    have eW : nW (fA Y9 xM) P = 0 := by
      have : nW (fA Y9 xM) P = (fA Y9 xM 8 P).toNatClampNeg := rfl
      rw [this, r8]
      exact n_nat (by omega)
    have eL : nL (fA Y9 xM) P = 0 := by
      have : nL (fA Y9 xM) P = (fA Y9 xM 10 P).toNatClampNeg := rfl
      rw [this, r10]
      exact n_nat (by omega)
    have eN' : nN (fA Y9 xM) P = n := by
      have : nN (fA Y9 xM) P = (fA Y9 xM 7 P).toNatClampNeg := rfl
      rw [this, r7]
      exact n_nat (by omega)
    have r13 : ∀ k, k < 200 → fA Y9 xM 13 (200 * P + k) = -1 := fun k hk => by rw [rA, if_pos ⟨rfl, rfl, by omega, by omega⟩]
    have lr : ∀ k, k < 200 → ∀ r, r < 8 → lRow (fA Y9 xM) (200 * P + k) r = (0, 0, 0) := by
      intro k hk r hr
      have := ql k hk r hr
      unfold lRow at this ⊢
      rw [rM 14 _ (by omega) (by omega) (by omega) (by omega), rM 15 _ (by omega) (by omega) (by omega) (by omega), rM 16 _ (by omega) (by omega) (by omega) (by omega)]
      exact this
    have or : ∀ f, f < 8 → ∀ r, r < 8 → oRow (fA Y9 xM) (8 * P + f) r = (0, 0, 0) := by
      intro f hf r hr
      have := (qf f hf).2.2 r hr
      unfold oRow at this ⊢
      rw [rM 19 _ (by omega) (by omega) (by omega) (by omega), rM 20 _ (by omega) (by omega) (by omega) (by omega), rM 21 _ (by omega) (by omega) (by omega) (by omega)]
      exact this
    have ok0 : okT (0, 0, 0) := .inl rfl
    have r6 : fA Y9 xM 6 P = 0 := (rM 6 P (by omega) (by omega) (by omega) (by omega)).trans q6
    have e17 : fA Y9 xM 17 (8 * P + 0) = 0 := (rM 17 _ (by omega) (by omega) (by omega) (by omega)).trans (qf 0 (by omega)).1
    have r18 : ∀ f, f < 8 → fA Y9 xM 18 (8 * P + f) = 0 := fun f hf => (rM 18 _ (by omega) (by omega) (by omega) (by omega)).trans (qf f hf).2.1
    have PPn : PP g5 Y9 (fA Y9 xM) P := by
      refine ⟨by rw [rR, if_pos ⟨rfl, rfl, rfl⟩], ?_, ?_, fun k hk => by omega, fun z => ?_, fun _ f hf => r18 f hf, fun f hf h8 => ?_, fun k hk h8 => hg _ (by simp) (by simp) (by simp) (g3 k h8), fun k hk _ => ⟨hg _ (by simp) (by simp) (by simp) (g4 k hk).1, hg _ (by simp) (by simp) (by simp) (g4 k hk).2⟩⟩
      · unfold CP
        rw [eW, eF, eL]
        refine ⟨⟨?_, ?_, ?_, ?_, ?_, ?_⟩, fun k hk => by omega, fun k hk => ⟨fun _ => ?_, fun z => ?_⟩, fun f hf => ?_, fun k hk => by omega⟩
        · rw [r7, rI, if_neg (by simp), if_neg (by simp), if_neg (by simp), if_neg (by simp), if_neg (by simp), if_neg (by simp), if_pos ⟨rfl, rfl⟩]
        · rw [r8, rI, if_neg (by simp), if_neg (by simp), if_neg (by simp), if_neg (by simp), if_neg (by simp), if_neg (by simp), if_neg (by simp)]
          exact z5.1 5
        · rw [r9, rI, if_neg (by simp), if_neg (by simp), if_neg (by simp), if_neg (by simp), if_neg (by simp), if_pos ⟨rfl, rfl⟩]
          rfl
        · rw [r10, rI, if_neg (by simp), if_neg (by simp), if_neg (by simp), if_neg (by simp), if_neg (by simp), if_neg (by simp), if_neg (by simp)]
          exact z5.1 7
        · rw [r6, rI, if_neg (by simp), if_neg (by simp), if_neg (by simp), if_neg (by simp), if_neg (by simp), if_neg (by simp), if_neg (by simp)]
          exact z5.1 8
        · rw [rA, if_neg (by simp), if_pos ⟨rfl, rfl, rfl⟩, rI, if_neg (by simp), if_neg (by simp), if_neg (by simp), if_neg (by simp), if_pos ⟨rfl, rfl⟩]
        · rw [rR, if_neg (by simp), if_neg (by simp), if_neg (by simp)]
          exact z5.2.2.2 2 k
        · rw [r13 k hk] at z
          exact absurd (by decide) z
        · have f0' : f = 0 := by omega
          subst f0'
          rw [rR, if_neg (by simp), if_neg (by simp), if_pos ⟨rfl, rfl, rfl⟩, rIo (0, P, 0) 0 (by simp) (by simp) (by simp), rIo (0, P, 0) 2 (by simp) (by simp) (by simp), e17, r18 0 (by omega)]
          refine ⟨rfl, zf.1 0, zf.1 2, fun r hr => ?_⟩
          rw [or 0 (by omega) r hr, gRow_c (Y' := Y9) (Y := Y) (fun k' j => rO (20, P, 0) k' j (by simp))]
          unfold gRow
          rw [zo.2.1, zo.2.1, zo.2.1]
      · unfold WA
        rw [eW, eF, eL, eN', r7, r8, r9, r10]
        refine ⟨⟨rfl, by omega⟩, ⟨rfl, by omega, by omega⟩, ⟨rfl, by omega⟩, ⟨rfl, nb1, nb2⟩, fun k hk => by omega, fun k hk => .inl (r13 k hk), fun k hk r hr => by rw [lr k hk r hr]; exact ok0, fun f hf r hr => by rw [or f hf r hr]; exact ok0, fun f hf => ?_, fun k hk => by omega⟩
        have f0' : f = 0 := by omega
        subst f0'
        have ee : eN (fA Y9 xM) (8 * P + 0) = 0 := by
          unfold eN
          rw [e17]
          rfl
        rw [ee, e17]
        exact ⟨rfl, by omega, fun z => by omega⟩
      · rw [r6] at z
        exact absurd z (by decide)
      · rw [eF] at hf
        exact ⟨r18 f h8, hg _ (by simp) (by simp; omega) (by simp) (g2 f h8).1, hg _ (by simp) (by simp) (by simp; omega) (g2 f h8).2, or f h8⟩
    refine H g5 Y9 ⟨⟨P + 1, N, ⟨by omega, N2⟩, ⟨?_, ?_, (rXo 4 (by omega) (by omega) (by omega)).trans m4, (rIo _ _ (by simp) (by simp) (by simp)).trans y3⟩, .inr ⟨P, by omega, ?_, ?_, by rw [r6]; decide⟩, fun p hpp => ?_, fun p h1 h2 => FP_keep (E p (by omega)) (fun u hu => hg u (tno (by omega) hu).1 (tno (by omega) hu).2.1 (tno (by omega) hu).2.2) (hFP p (by omega) h2), fun k hk => ?_⟩, S, K, hd, IQ_keep I J ⟨fun u k hu => rIo u k (fun z => by rw [z] at hu; simp at hu) (fun z => by rw [z.1] at hu; simp at hu) (fun z => by rw [z] at hu; simp at hu), fun k hk => rIo _ _ (by simp) (fun z => by have := z.2; omega) (by simp), fun k h1 h2 => rXo k (by omega) (by omega) (by omega), fun u k j hu => rO u k j (fun z => by rw [z] at hu; simp at hu), fun u k j => .inl (rL u k j), fun j => by rw [rR, if_neg (by simp), if_neg (by simp), if_neg (by simp)]⟩ (fun k j hk => rM k j (by omega) (by omega) (by omega) (by omega)) Ea (fun q => hg _ (by simp) (by simp) (by simp))⟩ rC
    · rw [rI, if_pos ⟨rfl, rfl⟩]
    · rw [rI, if_neg (by simp), if_neg (by simp), if_neg (by simp), if_pos ⟨rfl, rfl⟩]
    · rw [rI, if_neg (by simp), if_pos ⟨rfl, rfl⟩]
    · rw [rR, if_neg (by simp), if_pos ⟨rfl, rfl, rfl⟩]
    · by_cases e : p = P
      · rw [e]
        exact PPn
      · have hpP : p < P := by omega
        refine PP_keep (IP_LOC I hpP (E p e) Ea) ⟨fun u k hu => rIo u k (tP_no hu).1 (fun z => (tP_no hu).2.1 z.1) (tno e hu).1, fun u k j hu => rO u k j (tP_no hu).1, fun u k j hu => ?_, ?_⟩ (fun u hu => hg u (tno e hu).1 (tno e hu).2.1 (tno e hu).2.2) (hPP p hpP)
        · rw [rR, if_neg (fun z => (tP_no hu).2.1 z.1), if_neg (fun z => (tP_no hu).2.1 z.1), if_neg (fun z => (tno e hu).1 z.1)]
        · rw [rR, if_neg (fun z => e z.2.2), if_neg (by simp), if_neg (by simp)]
    · rw [own0 0 k (by omega) (by unfold own; omega), own0 1 k (by omega) (by unfold own; omega)]
      exact hC k hk
  · have := y.1
    rcases hop with h | ⟨o, h1, h2, _⟩
    · rw [h.2] at e1
      exact absurd (e1.symm.trans z) (by simp)
    · rw [h2] at this
      have h3 := congrArg Int32.toInt this
      rw [n_toInt (by omega)] at h3
      have e : (-1 : Int32).toInt = -1 := by decide
      omega
end BE
