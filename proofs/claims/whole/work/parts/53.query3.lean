/-! quantum, process, cell -/
section RS
variable {V : xV} {g : xG} {Y : xW}
theorem Inv_qt (hi : Inv g Y) (n : Int32) : Inv g (uI (uI (uL (uI Y (9, 0, 0) 9 n) (12, 0, 0) 0 (Int32.toNatClampNeg 0) (Int32.toInt64 (fI Y (9, 0, 0) 9))) xM 2 0) xM 35 n) := by
  obtain ⟨⟨P, N, I⟩, S, K, hd, J⟩ := hi
  refine ⟨⟨P, N, IP_keep I (fun k i _ => rfl) (fun p => ⟨fun u k hu => ?_, fun _ _ _ _ => rfl, fun _ _ _ _ => rfl, rfl⟩) rfl rfl rfl rfl rfl rfl (fun _ _ _ z => z)⟩, S, K, hd, IQ_kee2 I J ⟨fun u k hu => ?_, rfl, fun k h1 h2 => ?_, fun _ _ _ _ => rfl, fun u k i => ?_, fun _ => rfl⟩ rfl J.2.1.2.2.2.2.2.1 J.2.1.2.2.2.2.2.2.1 (fun _ _ _ => rfl) (fun q _ _ => EQP_r _ _) (fun _ z => z)⟩
  · have n1 : u ≠ xM := fun z => by rw [z] at hu; have := hu.2; simp at this
    have n2 : u ≠ (9, 0, 0) := fun z => by rw [z] at hu; have := hu.2; simp at this
    rw [fI_uI, if_neg (fun z => n1 z.1), fI_uI, if_neg (fun z => n1 z.1), fI_uL, fI_uI, if_neg (fun z => n2 z.1)]
  · have n1 : u ≠ xM := fun z => by rw [z] at hu; simp at hu
    have n2 : u ≠ (9, 0, 0) := fun z => by rw [z] at hu; simp at hu
    rw [fI_uI, if_neg (fun z => n1 z.1), fI_uI, if_neg (fun z => n1 z.1), fI_uL, fI_uI, if_neg (fun z => n2 z.1)]
  · rw [fI_uI, if_neg (fun z => by have := z.2; omega), fI_uI, if_neg (fun z => by have := z.2; omega), fI_uL, fI_uI, if_neg (fun z => by simp at z)]
  · rw [fL_uI, fL_uI, fL_uL]
    by_cases y : u = (12, 0, 0)
    · exact .inr y
    · rw [if_neg (fun z => y z.1)]
      exact .inl rfl
/-- 12: quantum -/
theorem case_12 {x1 : Int32} {Pr : Prop} {B : Int32 → Int32 → xW → Prop} {F : xW → Prop} (hi : Inv g Y) (hp : Pr) (H : ∀ x y Y', Inv g Y' → CT Y Y' → B x y Y') : L_191_0 V g Y x1 (fun x42 Y41 => Pr ∧ L_174_0 V g Y41 x1 (fun x44 Y43 => tqK V g B F x42 x44 Y43)) := by
  have hi' := hi
  obtain ⟨_, S, K, hd, J⟩ := hi'
  have b8 := J.2.1.2.2.2.2.2.2.2
  have ip0 := n_in (k := 0) (n := 1) (by omega) (by omega)
  have thr : (x1 < 1 ∨ ¬ x1 ≤ 100) → Pr ∧ L_174_0 V g (uT Y) x1 (fun x44 Y43 => tqK V g B F 1 x44 Y43) := by
    intro h
    refine ⟨hp, l_174_0 (fun Y1 e1 => ?_)⟩
    subst e1
    have fin : L_174_16 V g (uI (uT Y) xM 2 0) x1 (fun x44 Y43 => tqK V g B F 1 x44 Y43) := l_174_16 (s_125 (k_thr hi H))
    refine ⟨fun _ => fin, fun z => ⟨fun z2 => absurd h (fun y => y.elim z (fun y => y z2)), fun _ => fin⟩⟩
  refine l_191_0 (l_100_0 ⟨fun c => l_100_11 ⟨by decide +kernel, thr (.inl c)⟩, fun c => ⟨fun c2 Y1 e1 => ⟨ip0, fun Y3 e3 => ⟨hp, l_174_0 (fun Y4 e4 => ⟨fun z => absurd z c, fun _ => ⟨fun _ Y5 e5 => ?_, fun z => absurd c2 z⟩⟩)⟩⟩, fun c2 => l_100_11 ⟨by decide +kernel, thr (.inr c2)⟩⟩⟩)
  have e35 : fI Y4 xM 35 = fI Y (9, 0, 0) 9 := by
    rw [e4, e3, e1]
    exact b8.symm
  rw [e35]
  have eY : Y5 = uI (uI (uL (uI Y (9, 0, 0) 9 x1) (12, 0, 0) 0 (Int32.toNatClampNeg 0) (Int32.toInt64 (fI Y (9, 0, 0) 9))) xM 2 0) xM 35 x1 := by rw [e5, e4, e3, e1]
  rw [eY]
  exact tq (.inl ⟨rfl, rfl, rfl, H _ _ _ (Inv_qt hi x1) ⟨by show (fC Y).2.1 ≤ _; omega, by show (fC Y).2.2 ≤ _; omega⟩⟩)
/-- 17: cell -/
theorem case_17 {x1 x2 : Int32} {Pr : Prop} {B : Int32 → Int32 → xW → Prop} {F : xW → Prop} (hi : Inv g Y) (hp : Pr) (H : ∀ x y Y', Inv g Y' → CT Y Y' → B x y Y') : L_195_0 V g Y x1 x2 (fun x42 Y41 => Pr ∧ L_181_0 V g Y41 x1 x2 (fun x44 Y43 => tqK V g B F x42 x44 Y43)) := by
  have hi' := hi
  obtain ⟨_, S, K, hd, J⟩ := hi'
  have S3 := J.1.1
  obtain ⟨b1, b2, b3, b4, b5, b6, b7, b8⟩ := J.2.1
  have ip0 := n_in (k := 0) (n := 1) (by omega) (by omega)
  have thr : ¬ (∃ q, q < S ∧ x1 = n32 q ∧ fA Y xM 36 q = 0 ∧ ¬ x2 < 0 ∧ x2 < fA Y xM 43 q) → Pr ∧ L_181_0 V g (uT Y) x1 x2 (fun x44 Y43 => tqK V g B F 1 x44 Y43) := by
    intro h
    refine ⟨hp, l_181_0 (fun Y1 e1 => ?_)⟩
    subst e1
    have fin : L_181_36 V g (uI (uT Y) xM 2 0) x1 x2 (fun x44 Y43 => tqK V g B F 1 x44 Y43) := l_181_36 (s_125 (k_thr hi H))
    refine s_176 (S := S) b1 S3 (fun q hq e => ⟨fun z => absurd z (by decide), fun _ => ?_⟩) (fun _ => ⟨fun _ => fin, fun z => absurd rfl z⟩)
    rw [e, n_nat (by omega)]
    rw [e] at fin
    have iq := n_in (show q < 300 by omega) (show 300 ≤ 2147483648 by omega)
    refine ⟨iq, fun c1 => ⟨fun _ => fin, fun c2 => ⟨iq, fun c3 => absurd ⟨q, hq, e, c1, c2, c3⟩ h, fun _ => fin⟩⟩, fun _ => fin⟩
  refine l_195_0 (l_105_0 (s_110 b2 S3 (fun q hq e => ?_) (fun h => ⟨fun _ => l_105_18 ⟨by decide +kernel, thr (fun z => ?_)⟩, fun u z => absurd z (by simp)⟩)))
  · obtain ⟨c1, ⟨p0, p1, p4, p5, p6, p7, p8, p9, p10⟩, c3, c4, c5⟩ := J.2.2.2.2.1 q hq
    rw [c1]
    refine ⟨fun z => absurd z (by simp), fun u z => ?_⟩
    cases z
    have uq : ∀ q', q' < S → x1 = n32 q' → q' = q := fun q' h1 h2 => (n_eq (by omega) (by omega)).mp (h2.symm.trans e)
    have no : ¬ (fA Y xM 36 q = 0 ∧ ¬ x2 < 0 ∧ x2 < fA Y xM 43 q) → L_31_23 V g Y (4, q, 0) x2 (fun x5 Y4 => ((x5 = 0) → L_105_18 V g Y4 x1 x2 (some (4, q, 0)) (fun x2_1 Y1 => vp_in 0 1 ∧ ∀ Y3, Y3 = uL Y1 (12, 0, 0) 0 (Int32.toNatClampNeg 0) (Int32.toInt64 x2_1) → Pr ∧ L_181_0 V g Y3 x1 x2 (fun x44 Y43 => tqK V g B F 0 x44 Y43)) (fun e Y1 => xhd 195 5 e = true ∧ Pr ∧ L_181_0 V g Y1 x1 x2 (fun x44 Y43 => tqK V g B F 1 x44 Y43))) ∧ (¬ (x5 = 0) → L_65_0 V g Y4 ((fI Y4 (4, q, 0) 7) + x2) (fun x7 Y6 => vp_in 0 1 ∧ ∀ Y3, Y3 = uL Y6 (12, 0, 0) 0 (Int32.toNatClampNeg 0) (Int32.toInt64 x7) → Pr ∧ L_181_0 V g Y3 x1 x2 (fun x44 Y43 => tqK V g B F 0 x44 Y43)))) := by
      intro h
      refine l_31_23 (l_31_24 ⟨.inl rfl, ⟨fun _ => l_105_18 ⟨by decide +kernel, thr (fun z => ?_)⟩, fun z => absurd rfl z⟩⟩)
      obtain ⟨q', h1, h2, h3, h4, h5⟩ := z
      have := uq q' h1 h2
      subst this
      exact h ⟨h3, h4, h5⟩
    refine l_31_0 ?_
    rw [p8, p1]
    refine ⟨fun k1 => ⟨fun k2 => no (fun z => z.2.1 k2), fun k2 => ⟨fun k3 => no (fun z => ?_), fun k3 => ?_⟩⟩, fun k1 => no (fun z => k1 z.1)⟩
    · have z3 := z.2.2
      rw [i_lt] at z3
      rw [i_le] at k3
      omega
    · obtain ⟨t1, i, t2, t3, t4⟩ := J.2.2.2.2.2.2.2.1 q hq k1
      obtain ⟨s1, s2, s3, s4, s5, s6⟩ := J.2.2.2.2.2.2.1
      obtain ⟨r1, r2, r3, r4⟩ := s3 i t2
      rcases n_cases x2 with y | ⟨o, ho, rfl⟩
      · exact absurd (by rw [i_lt, t0]; exact y) k2
      · have oz : o < rS Y i := by
          rw [t4, r2, i_le, n_toInt (by omega), n_toInt (by omega)] at k3
          omega
        have k4 : n32 o < fA Y xM 43 q := by
          rw [t4, r2, n_lt (by omega) (by omega)]
          exact oz
        refine l_31_24 ⟨.inr rfl, ⟨fun z => absurd z (by decide), fun _ => ?_⟩⟩
        rw [p7, t3, r1, n_add]
        refine s_65 (by omega) ⟨ip0, fun Y3 e3 => ⟨hp, l_181_0 (fun Y1 e1 => ?_)⟩⟩
        rw [s2 _ (by omega)] at e3
        subst e1
        refine s_176 (S := S) (by rw [e3]; exact b1) S3 (fun q' hq' e' => ⟨fun z => absurd z (by decide), fun _ => ?_⟩) (fun h => absurd ⟨q, hq, e⟩ h)
        have a3 : ∀ k j, fA (uI Y3 (10, 0, 0) 2 0) (10, 0, 0) k j = fA Y xM k j := fun k j => by rw [e3]; rfl
        have iq := n_in (show q < 300 by omega) (show 300 ≤ 2147483648 by omega)
        rw [e, n_nat (by omega), a3, a3, a3, a3, t3, r1, n_add, n_nat (by omega)]
        refine ⟨iq, fun _ => ⟨fun z => absurd z k2, fun _ => ⟨iq, fun _ => ⟨iq, n_in (by omega) (by omega), ?_⟩, fun z => absurd k4 z⟩⟩, fun z => absurd k1 z⟩
        rw [e3]
        exact k_val hi H _
  · obtain ⟨q, h1, h2, _⟩ := z
    exact h ⟨q, h1, h2⟩
/-- 14: process -/
theorem case_14 {x1 x2 : Int32} {Pr : Prop} {B : Int32 → Int32 → xW → Prop} {F : xW → Prop} (hi : Inv g Y) (hp : Pr) (H : ∀ x y Y', Inv g Y' → CT Y Y' → B x y Y') : L_192_0 V g Y x1 x2 (fun x42 Y41 => Pr ∧ L_178_0 V g Y41 x1 x2 (fun x44 Y43 => tqK V g B F x42 x44 Y43)) := by
  have hi' := hi
  obtain ⟨_, S, K, hd, J⟩ := hi'
  have S3 := J.1.1
  obtain ⟨b1, b2, b3, b4, b5, b6, b7, b8⟩ := J.2.1
  have ip0 := n_in (k := 0) (n := 1) (by omega) (by omega)
  have thr : ¬ (∃ q, q < S ∧ x1 = n32 q) ∨ (x2.toInt < 0 ∨ 8 < x2.toInt) → Pr ∧ L_178_0 V g (uT Y) x1 x2 (fun x44 Y43 => tqK V g B F 1 x44 Y43) := by
    intro h
    refine ⟨hp, l_178_0 (fun Y1 e1 => ?_)⟩
    subst e1
    have fin : L_125_0 V g (uI (uT Y) xM 2 0) (fun x44 Y43 => tqK V g B F 1 x44 Y43) := s_125 (k_thr hi H)
    refine s_176 (S := S) b1 S3 (fun q hq e => ⟨fun z => absurd z (by decide), fun _ => ?_⟩) (fun _ => ⟨fun _ => fin, fun z => absurd rfl z⟩)
    have h2 := h.resolve_left (fun z => z ⟨q, hq, e⟩)
    have no : ∀ {m : Int32} {R : Prop}, 0 ≤ m.toInt → m.toInt ≤ 8 → x2 = m → R := fun h1 h3 h4 => by rw [h4] at h2; omega
    exact ⟨⟨no (by decide) (by decide), no (by decide) (by decide), no (by decide) (by decide), no (by decide) (by decide), no (by decide) (by decide), no (by decide) (by decide), no (by decide) (by decide), no (by decide) (by decide), no (by decide) (by decide)⟩, fun _ => fin⟩
  refine l_192_0 (l_102_0 (s_110 b2 S3 (fun q hq e => ?_) (fun h => ⟨fun _ => ⟨by decide +kernel, thr (.inl h)⟩, fun u z => absurd z (by simp)⟩)))
  obtain ⟨c1, ⟨p0, p1, p4, p5, p6, p7, p8, p9, p10⟩, c3, c4, c5⟩ := J.2.2.2.2.1 q hq
  rw [c1]
  refine ⟨fun z => absurd z (by simp), fun u z => ?_⟩
  cases z
  -- the position in the queue
  have hpos : ∃ v, (∀ (Q : Int32 → xW → Prop), Q v Y → L_60_0 V g Y x1 Q) ∧ (∀ (Y2 : xW) (Q : Int32 → xW → Prop), (∀ k i, fA Y2 xM k i = fA Y xM k i) → fI Y2 xM 32 = n32 K → fA Y xM 36 q = 0 → Q v Y2 → L_175_0 V g Y2 x1 Q) ∧ (¬ fA Y xM 36 q = 0 → v = -1) := by
    obtain ⟨d1, d2, d3⟩ := J.2.2.2.1
    by_cases k1 : fA Y xM 36 q = 0
    · obtain ⟨i, hi1, hi2⟩ := d3 q hq k1
      refine ⟨n32 i, fun Q hQ => ?_, fun Y2 Q hA hk _ hQ => ?_, fun z => absurd k1 z⟩
      · refine s_60 b5 J.1.2.2 b4 J.1.2.1 J.2.2.1 (fun j hj ej => ?_) (fun z => absurd (hi2.trans e.symm) (z i hi1))
        have : j = i := d2 j i hj hi1 (ej.trans (e.trans hi2.symm))
        rw [this]
        exact hQ
      · refine s_175 hk J.1.2.1 (fun j hj ej => ?_) (fun z => absurd ((hA 49 i).trans (hi2.trans e.symm)) (z i hi1))
        have : j = i := d2 j i hj hi1 (((hA 49 j).symm.trans ej).trans (e.trans hi2.symm))
        rw [this]
        exact hQ
    · refine ⟨-1, fun Q hQ => ?_, fun Y2 Q hA hk z hQ => absurd z k1, fun _ => rfl⟩
      refine s_60 b5 J.1.2.2 b4 J.1.2.1 J.2.2.1 (fun j hj ej => ?_) (fun _ => hQ)
      obtain ⟨q', h1, h2, h3⟩ := d1 j hj
      have : q' = q := (n_eq (by omega) (by omega)).mp (h2.symm.trans (ej.trans e))
      rw [this] at h3
      exact absurd h3 k1
  obtain ⟨v7, hv1, hv2, hv3⟩ := hpos
  -- the reference's answer
  have mod : ∀ (v : Int32) (Y3 : xW), Y3 = uL Y (12, 0, 0) 0 (Int32.toNatClampNeg 0) (Int32.toInt64 v) → ((x2 = 0 ∧ v = fA Y xM 36 q) ∨ (x2 = 1 ∧ v = fA Y xM 37 q) ∨ (x2 = 2 ∧ v = 1000 * fA Y xM 38 q + fA Y xM 39 q) ∨ (x2 = 3 ∧ v = fA Y xM 40 q) ∨ (x2 = 4 ∧ v = fA Y xM 41 q) ∨ (x2 = 5 ∧ v = fA Y xM 42 q) ∨ (x2 = 6 ∧ v = fA Y xM 43 q) ∨ (x2 = 7 ∧ v = v7) ∨ (x2 = 8 ∧ v = fA Y xM 44 q)) → Pr ∧ L_178_0 V g Y3 x1 x2 (fun x44 Y43 => tqK V g B F 0 x44 Y43) := by
    intro v Y3 e3 hv
    refine ⟨hp, l_178_0 (fun Y1 e1 => ?_)⟩
    have eY : Y1 = uI (uL Y (12, 0, 0) 0 (Int32.toNatClampNeg 0) (Int32.toInt64 v)) xM 2 0 := by rw [e1, e3]
    have HQ : tqK V g B F 0 v Y1 := by rw [eY]; exact k_val hi H v
    have a1 : ∀ k i, fA Y1 (10, 0, 0) k i = fA Y xM k i := fun k i => by rw [eY]; rfl
    have iq := n_in (show q < 300 by omega) (show 300 ≤ 2147483648 by omega)
    refine s_176 (S := S) (by rw [eY]; exact b1) S3 (fun q' hq' e' => ⟨fun z => absurd z (by decide), fun _ => ?_⟩) (fun h => absurd ⟨q, hq, e⟩ h)
    rw [e, n_nat (by omega), a1, a1, a1, a1, a1, a1, a1, a1, a1]
    have pick : ∀ (m : Int32) (w : Int32), x2 = m → ((x2 = m → v = w) → tqK V g B F 0 w Y1) → (x2 = m → v = w) → tqK V g B F 0 w Y1 := fun m w _ h hw => h hw
    have sel : ∀ {m w : Int32}, x2 = m → (v = w) → tqK V g B F 0 w Y1 := fun _ h => by rw [← h]; exact HQ
    have g0 : x2 = 0 → v = fA Y xM 36 q := by
      intro z
      rcases hv with ⟨y, w⟩ | ⟨y, w⟩ | ⟨y, w⟩ | ⟨y, w⟩ | ⟨y, w⟩ | ⟨y, w⟩ | ⟨y, w⟩ | ⟨y, w⟩ | ⟨y, w⟩ <;> first | exact w | exact absurd (z.symm.trans y) (by decide)
    have g1 : x2 = 1 → v = fA Y xM 37 q := by
      intro z
      rcases hv with ⟨y, w⟩ | ⟨y, w⟩ | ⟨y, w⟩ | ⟨y, w⟩ | ⟨y, w⟩ | ⟨y, w⟩ | ⟨y, w⟩ | ⟨y, w⟩ | ⟨y, w⟩ <;> first | exact absurd (z.symm.trans y) (by decide) | exact w
    have g2 : x2 = 2 → v = 1000 * fA Y xM 38 q + fA Y xM 39 q := by
      intro z
      rcases hv with ⟨y, w⟩ | ⟨y, w⟩ | ⟨y, w⟩ | ⟨y, w⟩ | ⟨y, w⟩ | ⟨y, w⟩ | ⟨y, w⟩ | ⟨y, w⟩ | ⟨y, w⟩ <;> first | exact absurd (z.symm.trans y) (by decide) | exact w
    have g3 : x2 = 3 → v = fA Y xM 40 q := by
      intro z
      rcases hv with ⟨y, w⟩ | ⟨y, w⟩ | ⟨y, w⟩ | ⟨y, w⟩ | ⟨y, w⟩ | ⟨y, w⟩ | ⟨y, w⟩ | ⟨y, w⟩ | ⟨y, w⟩ <;> first | exact absurd (z.symm.trans y) (by decide) | exact w
    have g4 : x2 = 4 → v = fA Y xM 41 q := by
      intro z
      rcases hv with ⟨y, w⟩ | ⟨y, w⟩ | ⟨y, w⟩ | ⟨y, w⟩ | ⟨y, w⟩ | ⟨y, w⟩ | ⟨y, w⟩ | ⟨y, w⟩ | ⟨y, w⟩ <;> first | exact absurd (z.symm.trans y) (by decide) | exact w
    have g5 : x2 = 5 → v = fA Y xM 42 q := by
      intro z
      rcases hv with ⟨y, w⟩ | ⟨y, w⟩ | ⟨y, w⟩ | ⟨y, w⟩ | ⟨y, w⟩ | ⟨y, w⟩ | ⟨y, w⟩ | ⟨y, w⟩ | ⟨y, w⟩ <;> first | exact absurd (z.symm.trans y) (by decide) | exact w
    have g6 : x2 = 6 → v = fA Y xM 43 q := by
      intro z
      rcases hv with ⟨y, w⟩ | ⟨y, w⟩ | ⟨y, w⟩ | ⟨y, w⟩ | ⟨y, w⟩ | ⟨y, w⟩ | ⟨y, w⟩ | ⟨y, w⟩ | ⟨y, w⟩ <;> first | exact absurd (z.symm.trans y) (by decide) | exact w
    have g7 : x2 = 7 → v = v7 := by
      intro z
      rcases hv with ⟨y, w⟩ | ⟨y, w⟩ | ⟨y, w⟩ | ⟨y, w⟩ | ⟨y, w⟩ | ⟨y, w⟩ | ⟨y, w⟩ | ⟨y, w⟩ | ⟨y, w⟩ <;> first | exact absurd (z.symm.trans y) (by decide) | exact w
    have g8 : x2 = 8 → v = fA Y xM 44 q := by
      intro z
      rcases hv with ⟨y, w⟩ | ⟨y, w⟩ | ⟨y, w⟩ | ⟨y, w⟩ | ⟨y, w⟩ | ⟨y, w⟩ | ⟨y, w⟩ | ⟨y, w⟩ | ⟨y, w⟩ <;> first | exact absurd (z.symm.trans y) (by decide) | exact w
    refine ⟨⟨fun z => ⟨iq, sel z (g0 z)⟩, fun z => ⟨iq, sel z (g1 z)⟩, fun z => ⟨iq, iq, sel z (g2 z)⟩, fun z => ⟨iq, sel z (g3 z)⟩, fun z => ⟨iq, sel z (g4 z)⟩, fun z => ⟨iq, sel z (g5 z)⟩, fun z => ⟨iq, sel z (g6 z)⟩, fun z => ⟨iq, fun k1 => ?_, fun k1 => l_178_146 ?_⟩, fun z => ⟨iq, sel z (g8 z)⟩⟩, fun z => ?_⟩
    · rw [← e]
      exact hv2 Y1 _ a1 (by rw [eY]; exact b3) k1 (l_178_146 (sel z (g7 z)))
    · rw [← hv3 k1]
      exact sel z (g7 z)
    · rcases hv with ⟨y, _⟩ | ⟨y, _⟩ | ⟨y, _⟩ | ⟨y, _⟩ | ⟨y, _⟩ | ⟨y, _⟩ | ⟨y, _⟩ | ⟨y, _⟩ | ⟨y, _⟩ <;> (rw [y] at z; exact absurd z (by decide))
  refine ⟨⟨fun z => ⟨ip0, fun Y3 e3 => mod _ Y3 e3 (.inl ⟨z, p8⟩)⟩, fun z => ⟨ip0, fun Y3 e3 => mod _ Y3 e3 (.inr (.inl ⟨z, p0⟩))⟩, fun z => l_30_0 ⟨ip0, fun Y3 e3 => mod _ Y3 e3 (.inr (.inr (.inl ⟨z, by rw [p5, p6]⟩)))⟩, fun z => ⟨ip0, fun Y3 e3 => mod _ Y3 e3 (.inr (.inr (.inr (.inl ⟨z, p9⟩))))⟩, fun z => ⟨ip0, fun Y3 e3 => mod _ Y3 e3 (.inr (.inr (.inr (.inr (.inl ⟨z, p4⟩)))))⟩, fun z => ⟨ip0, fun Y3 e3 => mod _ Y3 e3 (.inr (.inr (.inr (.inr (.inr (.inl ⟨z, p7⟩))))))⟩, fun z => ⟨ip0, fun Y3 e3 => mod _ Y3 e3 (.inr (.inr (.inr (.inr (.inr (.inr (.inl ⟨z, p1⟩)))))))⟩, fun z => hv1 _ ⟨ip0, fun Y3 e3 => mod _ Y3 e3 (.inr (.inr (.inr (.inr (.inr (.inr (.inr (.inl ⟨z, rfl⟩))))))))⟩, fun z => ⟨ip0, fun Y3 e3 => mod _ Y3 e3 (.inr (.inr (.inr (.inr (.inr (.inr (.inr (.inr ⟨z, p10⟩))))))))⟩⟩, fun z => ⟨by decide +kernel, thr (.inr z)⟩⟩
end RS
