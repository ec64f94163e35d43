/-! out -/
section OU
variable {V : xV} {g : xG} {Y : xW}
theorem s_134 {Q : Int32 → xW → Prop} {x : Int32} {o n : Nat} (ho : fI Y xM 5 = n32 o) (h24 : o < 24) (hn : fA Y xM 9 o = n32 n) (n8 : n ≤ 8) (H1 : (∃ f, f < n ∧ x = n32 f) → Q 1 Y) (H0 : ¬ (∃ f, f < n ∧ x = n32 f) → Q 0 Y) : L_134_0 V g Y x Q := by
  by_cases h : ∃ f, f < n ∧ x = n32 f
  · obtain ⟨f, hf, rfl⟩ := id h
    refine l_134_0 ⟨fun z => absurd z (n_ge0 (by omega)), fun _ => ?_⟩
    rw [ho, n_nat (by omega), hn, n_le (by omega) (by omega)]
    exact ⟨n_in h24 (by omega), fun z => absurd z (by omega), fun _ => l_134_22 ⟨.inr rfl, H1 h⟩⟩
  · refine l_134_0 ⟨fun _ => l_134_21 (l_134_22 ⟨.inl rfl, H0 h⟩), fun z => ?_⟩
    rw [ho, n_nat (by omega), hn]
    refine ⟨n_in h24 (by omega), fun _ => l_134_21 (l_134_22 ⟨.inl rfl, H0 h⟩), fun z2 => ?_⟩
    rcases idx_not (by omega) h with y | y
    · exact absurd y z
    · exact absurd y.2 z2
/-- 5: out -/
theorem case_5 {x1 x2 x3 x4 x5 : Int32} {Pr : Prop} {B F : xW → Prop} (hi : Inv g Y) (hp : Pr) (H : ∀ Y', Inv g Y' → CT Y Y' → B Y') : L_93_0 V g Y x1 x2 x3 x4 x5 (fun x8 Y7 => Pr ∧ L_139_0 V g Y7 x1 x2 x3 x4 x5 (fun x10 Y9 => ((x8 = x10) → B Y9) ∧ (¬ (x8 = x10) → F Y9))) := by
  have hi' := hi
  obtain ⟨⟨P, N, I⟩, S, K, hd, J⟩ := hi'
  obtain ⟨⟨P24, N2⟩, ⟨m3, y1, m4, y3⟩, hop, hPP, hFP, hC⟩ := id I
  have fin : ((0 : Int32) = 0 → B (uI Y xM 2 0)) ∧ (¬ (0 : Int32) = 0 → F (uI Y xM 2 0)) := ⟨fun _ => H _ (Inv_c0 hi).1 (Inv_c0 hi).2, fun z => absurd rfl z⟩
  have f0 : L_139_32 V g (uI Y xM 2 0) x1 x2 x3 x4 x5 (fun x10 Y9 => (((0 : Int32) = x10) → B Y9) ∧ (¬ ((0 : Int32) = x10) → F Y9)) := l_139_32 ⟨.inl rfl, fin⟩
  rcases hop with ⟨o5, oR⟩ | ⟨o, oP, o5, oR, no⟩
  · refine l_93_0 (fun o1 e1 => ⟨fun _ => l_93_19 ⟨.inl rfl, hp, l_139_0 (fun Y1 e2 => ?_)⟩, fun u z => absurd (z.symm.trans (e1.trans oR)) (by simp)⟩)
    subst e2
    refine ⟨fun _ => f0, fun z => absurd ?_ z⟩
    show fI Y xM 5 < 0
    rw [o5]
    decide
  · have PPo := hPP o oP
    have W := PPo.2.2.1
    have C := PPo.2.1
    have f8 := W.2.1.2.2
    have mf : ¬ (vT x2 x3 x4 x5 ∧ ∃ i, i < nF (fA Y xM) o ∧ x1 = n32 i) → L_139_0 V g Y x1 x2 x3 x4 x5 (fun x10 Y9 => (((0 : Int32) = x10) → B Y9) ∧ (¬ ((0 : Int32) = x10) → F Y9)) := by
      intro h
      refine l_139_0 (fun Y1 e2 => ?_)
      subst e2
      refine ⟨fun _ => f0, fun _ => s_134 (o := o) o5 (by omega) W.2.1.1 f8 (fun v => ⟨fun z => absurd z (by decide), fun _ => s_136 (fun v2 => absurd ⟨v2, v⟩ h) (fun _ => ⟨fun _ => f0, fun z => absurd rfl z⟩)⟩) (fun _ => ⟨fun _ => f0, fun z => absurd rfl z⟩)⟩
    refine l_93_0 (fun o1 e1 => ⟨fun z => absurd (z.symm.trans (e1.trans oR)) (by simp), fun u z => s_113 (fun v => ⟨fun z => absurd z (by decide), fun _ o5' e5' => ⟨(5, o, 0), e5'.trans oR, ?_⟩⟩) (fun v => ⟨fun _ => l_93_19 ⟨.inl rfl, hp, mf (fun z => v z.1)⟩, fun z => absurd rfl z⟩)⟩)
    have hn : fI Y (5, o, 0) 6 = n32 (nF (fA Y xM) o) := C.1.2.2.1.trans W.2.1.1
    rcases n_cases x1 with y | ⟨i, hi1, rfl⟩
    · refine s_45n y ⟨fun _ => ⟨.inl rfl, hp, mf (fun z => ?_)⟩, fun u z => absurd z (by simp)⟩
      obtain ⟨_, i, h1, h2⟩ := z
      rw [h2, n_toInt (by omega)] at y
      omega
    · refine s_45 hn f8 hi1 (fun c => ?_) (fun c => ⟨fun _ => ⟨.inl rfl, hp, mf (fun z => ?_)⟩, fun u z => absurd z (by simp)⟩)
      · obtain ⟨c1, c2, c3, c4⟩ := C.2.2.2.1 i c
        rw [c1]
        refine ⟨fun z => absurd z (by simp), fun u z => ?_⟩
        cases z
        obtain ⟨r, hr, er⟩ := v.1
        refine e_80 er hr (fun Y10 h10 => ⟨.inr rfl, hp, l_139_0 (fun Y1 e1 => ?_)⟩)
        have h10' : rTo Y Y10 (20, o, i) (setR (gRow Y (20, o, i)) r (x3, x4, x5)) := h10
        have i1I : ∀ u k, ¬ (u = xM ∧ k = 2) → fI Y1 u k = fI Y u k := fun u k hu => by rw [e1, fI_uI, if_neg hu]; exact h10'.1 u k
        have i1A : ∀ u k j, u ≠ (20, o, i) → fA Y1 u k j = fA Y u k j := fun u k j hu => by rw [e1, fA_uI]; exact h10'.2.1 u k j hu
        have m5 : fI Y1 xM 5 = n32 o := (i1I _ _ (by simp)).trans o5
        refine ⟨fun z => absurd z (by rw [show fI Y1 (10, 0, 0) 5 = n32 o from m5]; exact n_ge0 (by omega)), fun _ => s_134 m5 (by omega) ((i1A _ 9 o (by simp)).trans W.2.1.1) f8 (fun _ => ⟨fun z => absurd z (by decide), fun _ => s_136 (fun _ => ⟨fun z => absurd z (by decide), fun _ => ?_⟩) (fun z => absurd v z)⟩) (fun z => absurd ⟨i, c, rfl⟩ z)⟩
        rw [show fI Y1 (10, 0, 0) 5 = n32 o from m5, er, ix8, ix8, n_nat (by omega)]
        have i2 := n_in (show 8 * (8 * o + i) + r < 1536 by omega) (show 1536 ≤ 2147483648 by omega)
        refine ⟨i2, fun Y4 e4 => ⟨i2, fun Y5 e5 => ⟨i2, fun Y6 e6 => ⟨.inr rfl, fun _ => ?_, fun z => absurd rfl z⟩⟩⟩⟩
        have rI : ∀ u k, ¬ (u = xM ∧ k = 2) → fI Y6 u k = fI Y u k := fun u k hu => by rw [e6, fI_uA, e5, fI_uA, e4, fI_uA]; exact i1I u k hu
        have rA : ∀ u k j, fA Y6 u k j = if u = xM ∧ k = 21 ∧ j = 8 * (8 * o + i) + r then x5 else if u = xM ∧ k = 20 ∧ j = 8 * (8 * o + i) + r then x4 else if u = xM ∧ k = 19 ∧ j = 8 * (8 * o + i) + r then x3 else fA Y10 u k j := by
          intro u k j
          rw [e6, fA_uA, e5, fA_uA, e4, fA_uA, e1, fA_uI]
        have rO : ∀ u k j, u ≠ xM → u ≠ (20, o, i) → fA Y6 u k j = fA Y u k j := by
          intro u k j h1 h2
          rw [rA, if_neg (fun z => h1 z.1), if_neg (fun z => h1 z.1), if_neg (fun z => h1 z.1)]
          exact h10'.2.1 u k j h2
        have rM : ∀ k j, ¬ (19 ≤ k ∧ k ≤ 21 ∧ j = 8 * (8 * o + i) + r) → fA Y6 xM k j = fA Y xM k j := by
          intro k j h
          rw [rA, if_neg (fun z => h (by omega)), if_neg (fun z => h (by omega)), if_neg (fun z => h (by omega))]
          exact h10'.2.1 xM k j (by simp)
        have rL : ∀ u k j, fL Y6 u k j = fL Y u k j := by intro u k j; rw [e6, e5, e4, e1]; exact h10'.2.2.1 u k j
        have rR : ∀ u k j, fR Y6 u k j = fR Y u k j := by intro u k j; rw [e6, e5, e4, e1]; exact h10'.2.2.2.1 u k j
        have rC : fC Y6 = fC Y := by rw [e6, e5, e4, e1]; exact h10'.2.2.2.2.1
        have orr : ∀ k, k < 8 → ∀ q, q < 8 → oRow (fA Y6 xM) (8 * o + k) q = if k = i then setR (oRow (fA Y xM) (8 * o + i)) r (x3, x4, x5) q else oRow (fA Y xM) (8 * o + k) q := by
          intro k hk q hq
          by_cases e : k = i
          · subst e
            rw [if_pos rfl]
            unfold oRow setR
            by_cases e2 : q = r
            · subst e2
              rw [if_pos rfl, rA, rA, rA]
              simp
            · rw [if_neg e2, rM _ _ (by omega), rM _ _ (by omega), rM _ _ (by omega)]
          · rw [if_neg e]
            unfold oRow
            rw [rM _ _ (by omega), rM _ _ (by omega), rM _ _ (by omega)]
        have gr : gRow Y6 (20, o, i) = gRow Y10 (20, o, i) := gRow_c (fun k j => by rw [rA, if_neg (by simp), if_neg (by simp), if_neg (by simp)])
        have lr : ∀ a, lRow (fA Y6 xM) a = lRow (fA Y xM) a := fun a => by
          unfold lRow
          funext q
          rw [rM _ _ (by omega), rM _ _ (by omega), rM _ _ (by omega)]
        have PPn : PP g Y6 (fA Y6 xM) o := by
          refine PP_row PPo no (fun k j _ _ h1 => rM k j (fun z => h1 ⟨z.1, z.2.1⟩)) (fun k hk z => ?_) (fun k hk => by rw [lr]; exact W.2.2.2.2.2.2.1 k hk) (fun f hf q hq => ?_) (fun f hf => ?_) (fun f hf h8 q hq => ?_) (fun u k hu => rI u k (fun z => (tP_no hu).1 z.1)) (fun k j => rO _ _ _ (by simp) (by simp)) (fun u k j _ => rR u k j)
          · have e' : gRow Y6 (22, o, k) = gRow Y (22, o, k) := gRow_c (fun k' j => rO _ _ _ (by simp) (by simp))
            rw [e', lr]
            exact ((C.2.2.1 k hk).2 z).2.2
          · rw [orr f (by omega) q hq]
            by_cases e : f = i
            · subst e
              rw [if_pos rfl, gr, h10'.2.2.2.2.2 q hq]
              exact setR_c (c4 q hq)
            · have e' : gRow Y6 (20, o, f) = gRow Y (20, o, f) := gRow_c (fun k' j => rO _ _ _ (by simp) (by simp [e]))
              rw [if_neg e, e']
              exact (C.2.2.2.1 f hf).2.2.2 q hq
          · by_cases e : f = i
            · subst e
              exact okR_c (fun q hq => (orr f hf q hq).trans (if_pos rfl)) (okR_set (W.2.2.2.2.2.2.2.1 f hf) r (vT_ok v))
            · exact okR_c (fun q hq => (orr f hf q hq).trans (if_neg e)) (W.2.2.2.2.2.2.2.1 f hf)
          · rw [orr f h8 q hq, if_neg (by omega)]
            exact (PPo.2.2.2.2.2.2.1 f hf h8).2.2.2 q hq
        refine H Y6 (Inv_open (g' := g) (N' := N) (o := o) I J oP no (fun k j hk hw => rM k j (fun z => hw (by unfold own; omega))) (fun p hpo => ⟨fun u k hu => rI u k (fun z => (tP_no hu).1 z.1), fun u k j hu => rO u k j (tP_no hu).1 (fun z => hpo (by have := hu.1; rw [z] at this; exact this.symm)), fun u k j _ => rR u k j, rR _ _ _⟩) (fun _ _ _ _ z => z) (fun _ z => z) PPn N2 ((rI _ _ (by simp)).trans m3) ((rI _ _ (by simp)).trans y1) ((rI _ _ (by simp)).trans m4) ((rI _ _ (by simp)).trans y3) (.inr ⟨o, oP, (rI _ _ (by simp)).trans o5, (rR _ _ _).trans oR, by rw [rM 6 o (by omega)]; exact no⟩) ⟨fun u k hu => rI u k (fun z => by rw [z.1] at hu; simp at hu), fun k hk => rI _ _ (by simp), fun k h1 h2 => rI _ _ (fun z => by have := z.2; omega), fun u k j hu => rO u k j (fun z => by rw [z] at hu; simp at hu) (fun z => by rw [z] at hu; simp at hu), fun u k j => .inl (rL u k j), fun j => rR _ _ _⟩ (fun k j hk => rM k j (by omega))) ⟨by rw [rC]; omega, by rw [rC]; omega⟩
      · obtain ⟨_, i', h1, h2⟩ := z
        have : i' = i := (n_eq (by omega) (by omega)).mp h2.symm
        omega
end OU
