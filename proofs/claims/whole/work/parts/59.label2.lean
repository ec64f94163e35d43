/-! label: the case -/
section LB
variable {V : xV} {g : xG} {Y : xW}
theorem iff_f {a : Bool} {p : Prop} (h : a = true ↔ p) (n : ¬ p) : a = false := by
  cases a with
  | false => rfl
  | true => exact absurd (h.mp rfl) n
/-- links of the open program: entries -/
theorem IP_lk {P N o : Nat} (I : IP g Y P N) (oP : o < P) : ∀ k, k < nL (fA Y xM) o → eN (fA Y xM) (8 * lP (fA Y xM) (8 * o + k) + lF (fA Y xM) (8 * o + k)) < 200 ∧ lF (fA Y xM) (8 * o + k) < 8 := by
  intro k hk
  obtain ⟨j1, j2, j3, j4, j5, j6, j7⟩ := (I.2.2.2.1 o oP).2.2.1.2.2.2.2.2.2.2.2.2 k hk
  have Wq := (I.2.2.2.1 _ (acc_lt I j3 j4)).2.2.1
  have f8 := Wq.2.1.2.2
  exact ⟨(Wq.2.2.2.2.2.2.2.2.1 _ j6).2.1, by omega⟩
theorem case_2 {x1 x2 : Int32} {Pr : Prop} {B F : xG → xW → Prop} (hi : Inv g Y) (hp : Pr) (H : ∀ g' Y', Inv g' Y' → CT Y Y' → B g' Y') : L_90_0 V g Y x1 x2 (fun x12 g13 Y11 => Pr ∧ L_135_0 V g13 Y11 x1 x2 (fun x16 Y15 => ((x12 = x16) → B g13 Y15) ∧ (¬ (x12 = x16) → F g13 Y15))) := by
  have hi' := hi
  obtain ⟨⟨P, N, I⟩, S, K, hd, J⟩ := hi'
  obtain ⟨⟨P24, N2⟩, ⟨m3, y1, m4, y3⟩, hop, hPP, hFP, hC⟩ := id I
  have fin : ((0 : Int32) = 0 → B g (uI Y xM 2 0)) ∧ (¬ (0 : Int32) = 0 → F g (uI Y xM 2 0)) := ⟨fun _ => H _ _ (Inv_c0 hi).1 (Inv_c0 hi).2, fun z => absurd rfl z⟩
  have f0 : L_135_37 V g (uI Y xM 2 0) x1 x2 (fun x10 Y9 => (((0 : Int32) = x10) → B g Y9) ∧ (¬ ((0 : Int32) = x10) → F g Y9)) := l_135_37 ⟨.inl rfl, fin⟩
  rcases hop with ⟨o5, oR⟩ | ⟨o, oP, o5, oR, no⟩
  · refine l_90_0 (fun o1 e1 => ⟨fun _ => l_90_23 (l_90_24 ⟨.inl rfl, hp, l_135_0 (fun Y1 e2 => ?_)⟩), fun u z => absurd (z.symm.trans (e1.trans oR)) (by simp)⟩)
    subst e2
    refine ⟨fun _ => f0, fun z => absurd ?_ z⟩
    show fI Y xM 5 < 0
    rw [o5]
    decide
  · have PPo := hPP o oP
    have W := PPo.2.2.1
    have C := PPo.2.1
    have w2 := W.1.2
    have f8 := W.2.1.2.2
    have mf : ¬ ((∃ i, i < nW (fA Y xM) o ∧ x1 = n32 i) ∧ ∃ f, f < nF (fA Y xM) o ∧ x2 = n32 f) → L_135_0 V g Y x1 x2 (fun x10 Y9 => (((0 : Int32) = x10) → B g Y9) ∧ (¬ ((0 : Int32) = x10) → F g Y9)) := by
      intro h
      refine l_135_0 (fun Y1 e2 => ?_)
      subst e2
      have e5 : fI (uI Y (10, 0, 0) 2 0) (10, 0, 0) 5 = n32 o := o5
      refine ⟨fun _ => f0, fun _ => ⟨fun _ => f0, fun z1 => ?_⟩⟩
      rw [e5, n_nat (by omega), show fA (uI Y (10, 0, 0) 2 0) (10, 0, 0) 8 o = n32 (nW (fA Y xM) o) from W.1.1]
      refine ⟨n_in (by omega) (by omega), fun _ => f0, fun z2 => s_134 (o := o) o5 (by omega) W.2.1.1 f8 (fun v => ?_) (fun _ => ⟨fun _ => f0, fun z => absurd rfl z⟩)⟩
      rcases n_cases x1 with y | ⟨i, hi1, e1⟩
      · exact absurd (by rw [i_lt, t0]; exact y) z1
      · rw [e1] at z2
        have := mt (n_le (by omega) hi1).mpr z2
        exact absurd ⟨⟨i, by omega, e1⟩, v⟩ h
    have cf : ¬ ((∃ i, i < nW (fA Y xM) o ∧ x1 = n32 i) ∧ ∃ f, f < nF (fA Y xM) o ∧ x2 = n32 f) → L_49_16 V g Y (5, o, 0) x1 x2 (fun x6 g7 Y5 => ((x6 = 0) → L_90_23 V g7 Y5 x1 x2 (fun x12 g13 Y11 => Pr ∧ L_135_0 V g13 Y11 x1 x2 (fun x16 Y15 => ((x12 = x16) → B g13 Y15) ∧ (¬ (x12 = x16) → F g13 Y15)))) ∧ (¬ (x6 = 0) → L_90_24 V g7 Y5 x1 x2 1 (fun x12 g13 Y11 => Pr ∧ L_135_0 V g13 Y11 x1 x2 (fun x16 Y15 => ((x12 = x16) → B g13 Y15) ∧ (¬ (x12 = x16) → F g13 Y15))))) := fun h => l_49_16 ⟨.inl rfl, fun _ => l_90_23 (l_90_24 ⟨.inl rfl, hp, mf h⟩), fun z => absurd rfl z⟩
    have hn : fI Y (5, o, 0) 5 = n32 (nW (fA Y xM) o) := C.1.2.1.trans W.1.1
    have hfn : fI Y (5, o, 0) 6 = n32 (nF (fA Y xM) o) := C.1.2.2.1.trans W.2.1.1
    refine l_90_0 (fun o1 e1 => ⟨fun z => absurd (z.symm.trans (e1.trans oR)) (by simp), fun u z o3 e3 => ⟨(5, o, 0), e3.trans oR, l_49_0 ?_⟩⟩)
    rcases n_cases x1 with y | ⟨i, hi1, rfl⟩
    · refine s_42n y ⟨fun _ => cf (fun z => ?_), fun z => absurd rfl z⟩
      obtain ⟨⟨i, h1, h2⟩, _⟩ := z
      rw [h2, n_toInt (by omega)] at y
      omega
    · refine s_42 hn (by omega) hi1 (fun c => ⟨fun z => absurd z (by decide), fun _ => ?_⟩) (fun c => ⟨fun _ => cf (fun z => ?_), fun z => absurd rfl z⟩)
      · rcases n_cases x2 with y | ⟨f, hf1, rfl⟩
        · refine s_45n y ⟨fun _ => cf (fun z => ?_), fun u z => absurd z (by simp)⟩
          obtain ⟨_, f, h1, h2⟩ := z
          rw [h2, n_toInt (by omega)] at y
          omega
        · refine s_45 hfn f8 hf1 (fun cf2 => ?_) (fun c2 => ⟨fun _ => cf (fun z => ?_), fun u z => absurd z (by simp)⟩)
          · -- behind the making
            have go : ∀ (gn : xG) (Yn : xW), (∀ u, u ≠ (2, o, i) → u ≠ (22, o, i) → g.1 u = false → gn.1 u = false) → (∀ u k, fI Yn u k = fI Y u k) → (∀ u k j, fA Yn u k j = fA Y u k j) → (∀ u k j, fL Yn u k j = fL Y u k j) → (∀ u k j, fR Yn u k j = if u = (5, o, 0) ∧ k = 2 ∧ j = i then some (2, o, i) else fR Y u k j) → CT Y Yn → L_49_44 V gn Yn (5, o, 0) (n32 i) (n32 f) (some (2, o, i)) (fun x6 g7 Y5 => ((x6 = 0) → L_90_23 V g7 Y5 (n32 i) (n32 f) (fun x12 g13 Y11 => Pr ∧ L_135_0 V g13 Y11 (n32 i) (n32 f) (fun x16 Y15 => ((x12 = x16) → B g13 Y15) ∧ (¬ (x12 = x16) → F g13 Y15)))) ∧ (¬ (x6 = 0) → L_90_24 V g7 Y5 (n32 i) (n32 f) 1 (fun x12 g13 Y11 => Pr ∧ L_135_0 V g13 Y11 (n32 i) (n32 f) (fun x16 Y15 => ((x12 = x16) → B g13 Y15) ∧ (¬ (x12 = x16) → F g13 Y15))))) := by
              intro gn Yn hg nI nA nL' nR nC
              refine l_49_44 ⟨(2, o, i), rfl, s_83 (fun Y2 h2 Y3 e3 => ⟨.inr rfl, fun z => absurd z (by decide), fun _ => l_90_24 ⟨.inr rfl, hp, l_135_0 (fun Y4 e4 => ?_)⟩⟩)⟩
              have h2' : rTo Yn Y2 (22, o, i) (fun _ => (0, 0, 0)) := h2
              have i4I : ∀ u k, ¬ (u = xM ∧ k = 2) → ¬ (u = (2, o, i) ∧ k = 1) → fI Y4 u k = fI Y u k := fun u k h1 h3 => by rw [e4, fI_uI, if_neg h1, e3, fI_uI, if_neg h3, h2'.1]; exact nI u k
              have i4A : ∀ u k j, u ≠ (22, o, i) → fA Y4 u k j = fA Y u k j := fun u k j hu => by rw [e4, fA_uI, e3, fA_uI, h2'.2.1 u k j hu]; exact nA u k j
              have m5 : fI Y4 xM 5 = n32 o := (i4I _ _ (by simp) (by simp)).trans o5
              have a9 : fA Y4 xM 9 o = n32 (nF (fA Y xM) o) := (i4A _ _ _ (by simp)).trans W.2.1.1
              refine ⟨fun z => absurd z (by rw [show fI Y4 (10, 0, 0) 5 = n32 o from m5]; exact n_ge0 (by omega)), fun _ => ⟨fun z => absurd z (n_ge0 (by omega)), fun _ => ?_⟩⟩
              rw [show fI Y4 (10, 0, 0) 5 = n32 o from m5, n_nat (by omega), i4A _ 8 o (by simp), W.1.1, n_le (by omega) (by omega)]
              refine ⟨n_in (by omega) (by omega), fun z => absurd z (by omega), fun _ => s_134 m5 (by omega) a9 f8 (fun _ => ⟨fun z => absurd z (by decide), fun _ => ?_⟩) (fun z => absurd ⟨f, cf2, rfl⟩ z)⟩
              rw [show fI Y4 (10, 0, 0) 5 = n32 o from m5, ix200, n_nat (by omega)]
              refine ⟨n_in (by omega) (by omega), fun Y5 e5 => s_135_l (Y := Y5) (by omega) (fun Y6 p1 p2 p3 p4 p5 => ⟨fun _ => ?_, fun z => absurd rfl z⟩) 8 0 Y5 rfl (fun _ _ => rfl) (fun u k j => (if_neg (fun z => by omega)).symm) (fun _ _ _ => rfl) (fun _ _ _ => rfl) rfl⟩
              have rI : ∀ u k, ¬ (u = xM ∧ k = 2) → ¬ (u = (2, o, i) ∧ k = 1) → fI Y6 u k = fI Y u k := fun u k h1 h3 => by rw [p1, e5, fI_uA]; exact i4I u k h1 h3
              have rA : ∀ u k j, fA Y6 u k j = if u = xM ∧ k = 14 ∧ 8 * (200 * o + i) ≤ j ∧ j < 8 * (200 * o + i) + 8 then 0 else if u = xM ∧ k = 13 ∧ j = 200 * o + i then n32 f else fA Y4 u k j := by
                intro u k j
                rw [p2, e5, fA_uA]
              have rM : ∀ k j, ¬ (k = 13 ∧ j = 200 * o + i) → ¬ (k = 14 ∧ 8 * (200 * o + i) ≤ j ∧ j < 8 * (200 * o + i) + 8) → fA Y6 xM k j = fA Y xM k j := by
                intro k j h1 h3
                rw [rA, if_neg (fun z => h3 z.2), if_neg (fun z => h1 z.2)]
                exact i4A _ _ _ (by simp)
              have rO : ∀ u k j, u ≠ xM → u ≠ (22, o, i) → fA Y6 u k j = fA Y u k j := by
                intro u k j h1 h3
                rw [rA, if_neg (fun z => h1 z.1), if_neg (fun z => h1 z.1)]
                exact i4A u k j h3
              have rL : ∀ u k j, fL Y6 u k j = fL Y u k j := by
                intro u k j
                rw [p3, e5, fL_uA, e4, fL_uI, e3, fL_uI, h2'.2.2.1]
                exact nL' u k j
              have rR : ∀ u k j, fR Y6 u k j = if u = (5, o, 0) ∧ k = 2 ∧ j = i then some (2, o, i) else fR Y u k j := by
                intro u k j
                rw [p4, e5, fR_uA, e4, fR_uI, e3, fR_uI, h2'.2.2.2.1]
                exact nR u k j
              have rC : CT Y Y6 := by
                have e : fC Y6 = fC Yn := by rw [p5, e5, fC_uA, e4, fC_uI, e3, fC_uI]; exact h2'.2.2.2.2.1
                unfold CT
                rw [e]
                exact nC
              have gr : ∀ r, r < 8 → gRow Y6 (22, o, i) r = (0, 0, 0) := by
                intro r hr
                have e : gRow Y6 (22, o, i) = gRow Y2 (22, o, i) := gRow_c (fun k j => by rw [rA, if_neg (by simp), if_neg (by simp), e4, fA_uI, e3, fA_uI])
                rw [e]
                exact h2'.2.2.2.2.2 r hr
              have PPn : PP gn Y6 (fA Y6 xM) o := by
                refine PP_label PPo no c cf2 (fun k j _ h1 h3 => rM k j h1 h3) ?_ (fun r hr => ?_) (fun u k hu h1 => rI u k (fun z => (tP_no hu).1 z.1) h1) ?_ (fun u k j hu h1 => rO u k j (tP_no hu).1 h1) gr (fun u k j _ h1 => by rw [rR, if_neg h1]) (by rw [rR, if_pos ⟨rfl, rfl, rfl⟩]) hg (fun k hk => (IP_lk I oP k hk).1)
                · rw [rA, if_neg (by simp), if_pos ⟨rfl, rfl, rfl⟩]
                · rw [rA, if_pos ⟨rfl, rfl, by omega, by omega⟩]
                · rw [p1, e5, fI_uA, e4, fI_uI, if_neg (by simp), e3, fI_uI, if_pos ⟨rfl, rfl⟩]
              refine H gn Y6 (Inv_open (g' := gn) (N' := N) (o := o) I J oP no (fun k j hk hw => rM k j (fun z => hw (by unfold own; omega)) (fun z => hw (by unfold own; omega))) (fun p hpo => ⟨fun u k hu => rI u k (fun z => (tP_no hu).1 z.1) (fun z => hpo (by have := hu.1; rw [z.1] at this; exact this.symm)), fun u k j hu => rO u k j (tP_no hu).1 (fun z => hpo (by have := hu.1; rw [z] at this; exact this.symm)), fun u k j hu => by rw [rR, if_neg (fun z => hpo (by have := hu.1; rw [z.1] at this; exact this.symm))], by rw [rR, if_neg (by simp)]⟩) (fun u p hpo hu => hg u (fun z => hpo (by have := hu.1; rw [z] at this; exact this.symm)) (fun z => hpo (by have := hu.1; rw [z] at this; exact this.symm))) (fun q => hg _ (by simp) (by simp)) PPn N2 ((rI _ _ (by simp) (by simp)).trans m3) ((rI _ _ (by simp) (by simp)).trans y1) ((rI _ _ (by simp) (by simp)).trans m4) ((rI _ _ (by simp) (by simp)).trans y3) (.inr ⟨o, oP, (rI _ _ (by simp) (by simp)).trans o5, by rw [rR, if_neg (by simp)]; exact oR, by rw [rM 6 o (by omega) (by omega)]; exact no⟩) ⟨fun u k hu => rI u k (fun z => by rw [z.1] at hu; simp at hu) (fun z => by rw [z.1] at hu; simp at hu), fun k hk => rI _ _ (by simp) (by simp), fun k h1 h2 => rI _ _ (fun z => by have := z.2; omega) (by simp), fun u k j hu => rO u k j (fun z => by rw [z] at hu; simp at hu) (fun z => by rw [z] at hu; simp at hu), fun u k j => .inl (rL u k j), fun j => by rw [rR, if_neg (by simp)]⟩ (fun k j hk => rM k j (by omega) (by omega))) rC
            rw [(C.2.2.2.1 f cf2).1]
            refine ⟨fun z => absurd z (by simp), fun u z => ⟨n_in (by omega) (by omega), fun o6 e6 => ?_⟩⟩
            rw [n_nat (by omega)] at e6
            rw [n_nat (by omega)]
            by_cases neg : fA Y xM 13 (200 * o + i) < 0
            · rw [(C.2.2.1 i (by omega)).1 neg] at e6
              have hg := PPo.2.2.2.2.2.2.2.2 i (by omega) neg
              refine ⟨fun _ => ⟨o, i, hg.1, hg.2, fun g10 Y12 _ hiff e12 => ⟨n_in (by omega) (by omega), fun Y13 e13 => go g10 Y13 (fun u h1 h2 h3 => iff_f (hiff u) (fun z => ?_)) (fun u k => by rw [e13, e12]; rfl) (fun u k j => by rw [e13, e12]; rfl) (fun u k j => by rw [e13, e12]; rfl) (fun u k j => by rw [e13, fR_uR, e12]; rfl) ?_⟩⟩, fun u z => absurd (z.symm.trans e6) (by simp)⟩
              · rcases z with z | z | z
                · rw [h3] at z
                  exact absurd z (by decide)
                · exact h1 z
                · exact h2 z
              · rw [e13, e12]
                exact ⟨by show (fC Y).2.1 + 1 + 1 + 1 + 1 + 1 ≤ _; omega, by show (fC Y).2.2 + 2 + 3 + 8 + 8 + 8 ≤ _; omega⟩
            · obtain ⟨c1, c2, c3⟩ := (C.2.2.1 i (by omega)).2 neg
              rw [c1] at e6
              refine ⟨fun z => absurd (z.symm.trans e6) (by simp), fun u z => ?_⟩
              cases e6.symm.trans z
              refine go g Y (fun u _ _ h => h) (fun _ _ => rfl) (fun _ _ _ => rfl) (fun _ _ _ => rfl) (fun u k j => ?_) ⟨by omega, by omega⟩
              by_cases e : u = (5, o, 0) ∧ k = 2 ∧ j = i
              · rw [if_pos e, e.1, e.2.1, e.2.2]
                exact c1
              · rw [if_neg e]
          · obtain ⟨_, f', h1, h2⟩ := z
            have : f' = f := (n_eq (by omega) (by omega)).mp h2.symm
            omega
      · obtain ⟨⟨i', h1, h2⟩, _⟩ := z
        have : i' = i := (n_eq (by omega) (by omega)).mp h2.symm
        omega
end LB
