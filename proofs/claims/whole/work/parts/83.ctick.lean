/-! tick: the class -/
def CE (Y Z : xW) : Prop := (∀ u k, u ≠ xM → fI Y u k = fI Z u k) ∧ (∀ u k j, u ≠ xM → fA Y u k j = fA Z u k j) ∧ (∀ u k j, u ≠ xM → fL Y u k j = fL Z u k j) ∧ (∀ u k j, fR Y u k j = fR Z u k j)
/-- the process that is next -/
def HD (Z : xW) (S K q i0 : Nat) : Prop := (q < S ∧ fA Z xM 49 0 = n32 q ∧ fA Z xM 36 q = 0) ∧ i0 < K ∧ fA Z xM 42 q = fA Z (7, 0, 0) 1 i0 ∧ fA Z xM 43 q = fA Z (7, 0, 0) 2 i0
def rot (Z : xW) (q : Nat) : Prop := wOp (eW (fA Z xM) q) = 1 ∨ ¬ fI Z xM 33 + 1 < fI Z xM 35
/-- what a tick that ends no process leaves of the class -/
def TN (Z Y Y' : xW) (K hd hd' q : Nat) : Prop :=
  (∀ u k, ¬ (u = (4, q, 0) ∧ (k = 4 ∨ k = 5 ∨ k = 6 ∨ k = 9)) → ¬ (u = (9, 0, 0) ∧ (k = 10 ∨ k = 11)) → ¬ (u = (6, 0, 0) ∧ k = 1) → fI Y' u k = fI Y u k) ∧
  (fI Y' (4, q, 0) 4 = n32 (efC (fA Z xM) q) ∧ fI Y' (4, q, 0) 5 = n32 (efP (fA Z xM) q) ∧ fI Y' (4, q, 0) 6 = n32 (efI (fA Z xM) q) ∧ fI Y' (4, q, 0) 9 = fI Y (4, q, 0) 9 + 1 ∧ fI Y' (9, 0, 0) 11 = fI Y (9, 0, 0) 11 + 1) ∧
  (∀ u k j, ¬ (u = (4, q, 0) ∧ (k = 2 ∨ k = 3)) → ¬ (u = (7, 0, 0) ∧ k = 0) → ¬ (u = (6, 0, 0) ∧ k = 0) → fA Y' u k j = fA Y u k j) ∧ (∀ r, r < 8 → fA Y' (4, q, 0) 2 r = efF (fA Z xM) q r) ∧
  (∀ j, j < efC (fA Z xM) q → fA Y' (4, q, 0) 3 j = if j = cN (fA Z xM) q then n32 (1000 * pP (fA Z xM) q + (pI (fA Z xM) q + 1)) else fA Y (4, q, 0) 3 j) ∧ (∀ k, k < 4096 → fA Y' (7, 0, 0) 0 k = efM (fA Z xM) q k) ∧
  (∀ u k j, fL Y' u k j = if u = (4, q, 0) ∧ k = 11 ∧ j = 0 then trF (efF (fA Z xM) q) (31 * fL Y (4, q, 0) 11 0 + (n32 (1000 * efP (fA Z xM) q + efI (fA Z xM) q)).toInt64) 8 else fL Y u k j) ∧ (∀ u k j, fR Y' u k j = fR Y u k j) ∧ fC Y' = fC Y ∧
  fI Y' (6, 0, 0) 1 = n32 hd' ∧ hd' < 40 ∧ ((rot Z q ∧ fI Y' (9, 0, 0) 10 = 0 ∧ ∀ i, i < K → fA Y' (6, 0, 0) 0 ((hd' + i) % 40) = if i + 1 < K then fA Z xM 49 (i + 1) else n32 q) ∨ (¬ rot Z q ∧ fI Y' (9, 0, 0) 10 = fI Y (9, 0, 0) 10 + 1 ∧ ∀ i, i < K → fA Y' (6, 0, 0) 0 ((hd' + i) % 40) = fA Z xM 49 i))
/-- what a tick that ends the process leaves of the class -/
def TX (Z Y Y' : xW) (K hd q i0 : Nat) : Prop :=
  (∀ u k, ¬ (u = (6, 0, 0) ∧ k = 2) → ¬ (u = (7, 0, 0) ∧ k = 3) → ¬ (u = (9, 0, 0) ∧ (k = 10 ∨ k = 11)) → ¬ (u = (4, q, 0) ∧ (k = 7 ∨ k = 8 ∨ k = 9 ∨ k = 10)) → fI Y' u k = fI Y u k) ∧ (fI Y' (6, 0, 0) 2 = n32 (K - 1) ∧ fI Y' (7, 0, 0) 3 = n32 (K - 1) ∧ fI Y' (9, 0, 0) 10 = 0 ∧ fI Y' (9, 0, 0) 11 = fI Y (9, 0, 0) 11 + 1 ∧ fI Y' (4, q, 0) 7 = -1 ∧ fI Y' (4, q, 0) 8 = 1 ∧ fI Y' (4, q, 0) 9 = fI Y (4, q, 0) 9 + 1 ∧ fI Y' (4, q, 0) 10 = rg (fA Z xM) q (wA (eW (fA Z xM) q))) ∧
  (∀ u k j, ¬ (u = (6, 0, 0) ∧ k = 0) → ¬ (u = (7, 0, 0) ∧ (k = 1 ∨ k = 2)) → fA Y' u k j = fA Y u k j) ∧ (∀ i, i < K - 1 → fA Y' (6, 0, 0) 0 ((hd + i) % 40) = fA Y (6, 0, 0) 0 ((hd + (i + 1)) % 40)) ∧ (∀ k i, (k = 1 ∨ k = 2) → i < K - 1 → fA Y' (7, 0, 0) k i = fA Y (7, 0, 0) k (if i < i0 then i else i + 1)) ∧
  (∀ u k j, fL Y' u k j = if u = (4, q, 0) ∧ k = 11 ∧ j = 0 then trF (rg (fA Z xM) q) (31 * fL Y (4, q, 0) 11 0 + (n32 (1000 * pP (fA Z xM) q + pI (fA Z xM) q)).toInt64) 8 else fL Y u k j) ∧ (∀ u k j, fR Y' u k j = fR Y u k j) ∧ fC Y' = fC Y
section TC
variable {V : xV} {g : xG} {Y Z : xW} {P N S K hd q i0 : Nat}
theorem hd_ex (J : IQ g Z S K hd) (h : 0 < K) : ∃ q i0, HD Z S K q i0 := by
  obtain ⟨q, h1, h2, h3⟩ := J.2.2.2.1.1 0 h
  obtain ⟨_, i0, h4, h5, h6⟩ := J.2.2.2.2.2.2.2.1 q h1 h3
  exact ⟨q, i0, ⟨h1, h2, h3⟩, h4, h5, h6⟩
theorem G_of (I : IP g Z P N) : ∀ p, p < 24 → fA Z xM 6 p = 1 → WA (fA Z xM) p ∧ ACC (fA Z xM) p ∧ DEP (fA Z xM) p := by
  intro p hp h
  have pp := I.2.2.2.1 p (acc_lt I hp h)
  exact ⟨pp.2.2.1, (pp.2.2.2.2.1 h).1, (pp.2.2.2.2.1 h).2⟩
theorem HD_s (J : IQ g Z S K hd) (h : HD Z S K q i0) : SND (fA Z xM) q := (J.2.2.2.2.2.2.2.1 q h.1.1 h.1.2.2).1
theorem HD_b (J : IQ g Z S K hd) (h : HD Z S K q i0) : fA Z xM 42 q = n32 (rB Z i0) ∧ rB Z i0 + sz (fA Z xM) q ≤ 4096 ∧ sz (fA Z xM) q = rS Z i0 := by
  obtain ⟨_, h4, h5, h6⟩ := h
  obtain ⟨r1, r2, r3, r4⟩ := J.2.2.2.2.2.2.1.2.2.1 i0 h4
  have e : sz (fA Z xM) q = rS Z i0 := by
    unfold sz
    rw [h6, r2, n_nat (by omega)]
  exact ⟨h5.trans r1, by omega, e⟩
theorem CB_of (I : IP g Z P N) (J : IQ g Z S K hd) (ce : CE Y Z) (h : HD Z S K q i0) : CB Y (fA Z xM) q (rB Z i0) := by
  have sd := HD_s J h
  obtain ⟨⟨t1, t2, t3, t4, t5⟩, a1, a2, a3, a4, a5, a6, ft⟩ := SND_top sd
  obtain ⟨b1, b2, b3⟩ := HD_b J h
  obtain ⟨c1, ⟨p0, p1, p4, p5, p6, p7, p8, p9, p10⟩, c3, c4, c5⟩ := J.2.2.2.2.1 q h.1.1
  have w := (G_of I _ t1 t2).1.1.2
  refine ⟨⟨?_, ?_, ?_, ?_, ?_, ?_⟩, fun r hr => ?_, fun k hk => ?_, ⟨b1, b2⟩, ⟨a4, t1, by omega⟩, fun j hj => ?_⟩
  · rw [ce.1 _ _ (by simp), p4]; exact a3
  · rw [ce.1 _ _ (by simp), p5]; exact a1
  · rw [ce.1 _ _ (by simp), p6]; exact a2
  · rw [ce.1 _ _ (by simp), p7]; exact b1
  · rw [ce.1 _ _ (by simp), p8]; exact h.1.2.2
  · rw [ce.1 _ _ (by simp), p1]; exact a5
  · rw [ce.2.1 _ _ _ (by simp)]; exact c4 r hr
  · rw [ce.2.1 _ _ _ (by simp)]; exact J.2.2.2.2.2.2.1.2.1 k hk
  · have hc := sd.2.2.1 j (by omega)
    have hb := sd.2.1 j hj
    have w2 := (G_of I _ hc.1 hc.2.1).1.1.2
    refine ⟨plP (fA Z xM) q j, plI (fA Z xM) q j, hc.1, by omega, hb.1, hb.2, ?_⟩
    rw [ce.2.1 _ _ _ (by simp), (c5 j hj).2, hb.1, hb.2, show (1000 : Int32) = n32 1000 from rfl, n_mul, n_add]
theorem s_62 {Q : xW → Prop} (h1 : fI Y (6, 0, 0) 1 = n32 hd) (hh : hd < 40) (hk : fI Y (6, 0, 0) 2 = n32 K) (hK : K ≤ 40) (k0 : 0 < K) (H : ∀ Y', (∀ u k, ¬ (u = (6, 0, 0) ∧ k = 1) → fI Y' u k = fI Y u k) → fI Y' (6, 0, 0) 1 = n32 ((hd + 1) % 40) → (∀ u k j, ¬ (u = (6, 0, 0) ∧ k = 0) → fA Y' u k j = fA Y u k j) → (∀ i, i < K → fA Y' (6, 0, 0) 0 (((hd + 1) % 40 + i) % 40) = if i + 1 < K then fA Y (6, 0, 0) 0 ((hd + (i + 1)) % 40) else fA Y (6, 0, 0) 0 ((hd + 0) % 40)) → (∀ u k j, fL Y' u k j = fL Y u k j) → (∀ u k j, fR Y' u k j = fR Y u k j) → fC Y' = fC Y → Q Y') : L_62_0 V g Y Q := by
  refine l_62_0 ⟨fun z => ?_, fun _ => e_59 (i := 0) rfl h1 hh hk k0 hK ?_⟩
  · rw [hk] at z
    have := (n_le (b := 0) (by omega) (by omega)).mp z
    omega
  · refine s_58 (i := 1) h1 hh (by omega) (fun Y5 e5 => ?_)
    have m40 : (hd + 1) % 40 < 40 := Nat.mod_lt _ (by omega)
    rw [show fI Y5 (6, 0, 0) 2 - 1 = n32 (K - 1) from by rw [e5, fI_uI, if_neg (by simp), hk]; exact n_sub (b := 1) (by omega)]
    refine s_58 (hd := (hd + 1) % 40) (by rw [e5, fI_uI, if_pos ⟨rfl, rfl⟩]) m40 (by omega) ?_
    have m2 : ((hd + 1) % 40 + (K - 1)) % 40 < 40 := Nat.mod_lt _ (by omega)
    rw [n_nat (by omega)]
    refine ⟨n_in m2 (by omega), fun Y8 e8 => l_62_38 (H Y8 (fun u k hu => ?_) ?_ (fun u k j hu => ?_) (fun i hi => ?_) (fun u k j => by rw [e8, e5]; rfl) (fun u k j => by rw [e8, e5]; rfl) (by rw [e8, e5]; rfl))⟩
    · rw [e8, fI_uA, e5, fI_uI, if_neg hu]
    · rw [e8, fI_uA, e5, fI_uI, if_pos ⟨rfl, rfl⟩]
    · rw [e8, fA_uA, if_neg (fun z => hu ⟨z.1, z.2.1⟩), e5, fA_uI]
    · rw [e8, fA_uA, e5, fA_uI]
      by_cases c : i + 1 < K
      · rw [if_neg (fun z => by omega), if_pos c, show ((hd + 1) % 40 + i) % 40 = (hd + (i + 1)) % 40 from by omega]
      · rw [if_pos ⟨rfl, rfl, by omega⟩, if_neg c]
theorem t_98 {Q : Int32 → xW → Prop} (I : IP g Z P N) (J : IQ g Z S K hd) (ce : CE Y Z) (H0 : K = 0 → Q (-1) Y) (HX : ∀ q i0 Y', HD Z S K q i0 → wOp (eW (fA Z xM) q) = 0 → TX Z Y Y' K hd q i0 → Q (n32 q) Y') (HN : ∀ q i0 hd' Y', HD Z S K q i0 → ¬ wOp (eW (fA Z xM) q) = 0 → TN Z Y Y' K hd hd' q → Q (n32 q) Y') : L_98_0 V g Y Q := by
  obtain ⟨S3, K40, h40⟩ := J.1
  obtain ⟨b1, b2, b3, b4, b5, b6, b7, b8⟩ := J.2.1
  have y6 : fI Y (9, 0, 0) 6 = n32 S := (ce.1 _ _ (by simp)).trans b2
  have z2 : fI Y (6, 0, 0) 2 = n32 K := (ce.1 _ _ (by simp)).trans b4
  have z1 : fI Y (6, 0, 0) 1 = n32 hd := (ce.1 _ _ (by simp)).trans b5
  by_cases k0 : K = 0
  · refine l_98_0 (l_59_0 ⟨fun z => absurd z (by decide), fun _ => ⟨fun _ => l_59_25 (l_59_26 ?_), fun z => absurd (by rw [z2, k0]; decide) z⟩⟩)
    refine s_110 y6 S3 (fun p hp e => ?_) (fun _ => ⟨fun _ => H0 k0, fun u z => absurd z (by simp)⟩)
    have := congrArg Int32.toInt e
    rw [n_toInt (by omega), show (-1 : Int32).toInt = -1 from by decide] at this
    omega
  have kp : 0 < K := by omega
  obtain ⟨q, i0, hD⟩ := hd_ex J kp
  have cb := CB_of I J ce hD
  have sd := HD_s J hD
  have G := G_of I
  obtain ⟨⟨t1, t2, t3, t4, t5⟩, a1, a2, a3, a4, a5, a6, ft⟩ := SND_top sd
  have pl := acc_lt I t1 t2
  have pp := I.2.2.2.1 _ pl
  have cpk : ∀ p, CP Z (fA Z xM) p → CP Y (fA Z xM) p := fun p h => CP_c (fun u k hu => ce.1 u k (fun z => by rw [z] at hu; simp at hu)) (fun u k i hu => ce.2.1 u k i (fun z => by rw [z] at hu; simp at hu)) (fun u k i _ => ce.2.2.2 u k i) h
  have W := (G _ t1 t2).1
  have hE : ∀ p f, p < 24 → fA Z xM 6 p = 1 → f < nF (fA Z xM) p → fI Y (0, p, f) 0 = n32 (eN (fA Z xM) (8 * p + f)) := by
    intro p f hp h6 hf
    have pp2 := I.2.2.2.1 p (acc_lt I hp h6)
    have := ((cpk p pp2.2.1).2.2.2.1 f hf).2.1
    rw [this]
    exact ((G p hp h6).1.2.2.2.2.2.2.2.2.1 f hf).1
  obtain ⟨hq, h49, h36⟩ := hD.1
  have cq := J.2.2.2.2.1 q hq
  refine l_98_0 (e_59 (i := 0) rfl z1 h40 z2 kp K40 ?_)
  rw [ce.2.1 _ _ _ (by simp), J.2.2.1 0 kp, h49]
  refine s_110 y6 S3 (fun p hp e => ?_) (fun h => absurd ⟨q, hq, rfl⟩ h)
  have ep : p = q := (n_eq (by omega) (by omega)).mp e.symm
  subst ep
  rw [ce.2.2.2, cq.1]
  refine ⟨fun z => absurd z (by simp), fun u z => ?_⟩
  cases z
  refine s_108 (P := P) ((ce.1 _ _ (by simp)).trans I.2.1.2.1) I.1.1 (fun x hx e5 => ?_) (fun h => absurd ⟨pP (fA Z xM) p, pl, cb.1.2.1⟩ h)
  have ex : x = pP (fA Z xM) p := by
    have := I.1.1
    rw [cb.1.2.1] at e5
    exact ((n_eq (by omega) (by omega)).mp e5).symm
  subst ex
  rw [ce.2.2.2, pp.1]
  refine ⟨fun z => absurd z (by simp), fun u z => ?_⟩
  cases z
  refine s_32 cb (cpk _ pp.2.1) W t3 hE t2 (fun n0 => (eff_ok G sd n0).1) (fun e0 Y9 cx => ?_) (fun n0 Y9 c2 => ?_)
  · obtain ⟨x1, x2, x3, x4, x5, x6, x7⟩ := cx
    intro Y11 e11 Y12 e12
    have i12 : ∀ u k, ¬ (u = (9, 0, 0) ∧ (k = 10 ∨ k = 11)) → fI Y12 u k = fI Y9 u k := fun u k h => by rw [e12, fI_uI, if_neg (fun z => h ⟨z.1, .inl z.2⟩), e11, fI_uI, if_neg (fun z => h ⟨z.1, .inr z.2⟩)]
    have a12 : ∀ u k j, fA Y12 u k j = fA Y u k j := fun u k j => by rw [e12, e11]; exact x4 u k j
    refine ⟨fun _ => ?_, fun z => absurd rfl z⟩
    have st := J.2.2.2.2.2.2.1
    have e7 : ∀ k j, fA Y12 (7, 0, 0) k j = fA Z (7, 0, 0) k j := fun k j => (a12 _ _ _).trans (ce.2.1 _ _ _ (by simp))
    have st12 : ST Y12 (fA Z xM) K := by
      obtain ⟨s1, s2, s3, s4, s5, s6⟩ := st
      unfold ST
      rw [rB_c (Y := Z) e7, rS_c (Y := Z) e7]
      refine ⟨?_, fun k hk => by rw [e7]; exact s2 k hk, fun i hi => by rw [e7, e7]; exact s3 i hi, s4, s5, s6⟩
      rw [i12 _ _ (by simp), x1 _ _ (by simp), ce.1 _ _ (by simp)]
      exact s1
    obtain ⟨g1, g2, g3, g4⟩ := st.2.2.1 i0 hD.2.1
    refine s_111 (pos := 0) (i0 := i0) (hd := hd) (how := 1) st12 ?_ h40 ?_ K40 kp hD.2.1 ?_ (fun Y' k1 k2 k3 k4 k5 k6 k7 k8 k9 k10 k11 k12 => l_98_111 (HX p i0 Y' hD e0 ⟨fun u k n1 n2 n3 n4 => ?_, ⟨k2, k3, ?_, ?_, k5, k6, ?_, ?_⟩, fun u k j n1 n2 => ?_, fun i hi => ?_, fun k i hk hi => ?_, fun u k j => ?_, fun u k j => ?_, ?_⟩))
    · rw [i12 _ _ (by simp), x1 _ _ (by simp)]; exact z1
    · rw [i12 _ _ (by simp), x1 _ _ (by simp)]; exact z2
    · rw [i12 _ _ (by simp), x1 _ _ (by simp), cb.1.2.2.2.1, rB_c (Y := Z) e7]
    · rw [k1 u k n1 n2 (fun z => n3 ⟨z.1, .inl z.2⟩) (fun z => n4 ⟨z.1, z.2.elim .inl (fun y => .inr (.inl y))⟩), i12 u k n3]
      exact x1 u k (fun z => n4 ⟨z.1, z.2.elim (fun y => .inr (.inr (.inl y))) (fun y => .inr (.inr (.inr y)))⟩)
    · rw [k4, if_pos rfl]
    · rw [k1 _ _ (by simp) (by simp) (by simp) (by simp), e12, fI_uI, if_neg (by simp), e11, fI_uI, if_pos ⟨rfl, rfl⟩, x1 _ _ (by simp)]
    · rw [k1 _ _ (by simp) (by simp) (by simp) (by simp), i12 _ _ (by simp)]; exact x2
    · rw [k1 _ _ (by simp) (by simp) (by simp) (by simp), i12 _ _ (by simp)]; exact x3
    · rw [k7 u k j n1 n2]; exact a12 u k j
    · rw [k8 i hi, if_neg (by omega)]; exact a12 _ _ _
    · rw [k9 k i hk hi]; exact a12 _ _ _
    · rw [k10, e12, e11]; exact x5 u k j
    · rw [k11, e12, e11]; exact x6 u k j
    · rw [k12, e12, e11]; exact x7
  · obtain ⟨x1, x4, x5, x6, x9, xa, x2, x3, xm, xl, xr, xc⟩ := c2
    intro Y11 e11 Y12 e12
    have i12 : ∀ u k, ¬ (u = (9, 0, 0) ∧ (k = 10 ∨ k = 11)) → fI Y12 u k = fI Y9 u k := fun u k h => by rw [e12, fI_uI, if_neg (fun z => h ⟨z.1, .inl z.2⟩), e11, fI_uI, if_neg (fun z => h ⟨z.1, .inr z.2⟩)]
    have a12 : ∀ u k j, fA Y12 u k j = fA Y9 u k j := fun u k j => by rw [e12, e11]; rfl
    have j11 : fI Y12 (9, 0, 0) 11 = fI Y (9, 0, 0) 11 + 1 := by rw [e12, fI_uI, if_neg (by simp), e11, fI_uI, if_pos ⟨rfl, rfl⟩, x1 _ _ (by simp)]
    have j10 : fI Y12 (9, 0, 0) 10 = fI Y (9, 0, 0) 10 + 1 := by rw [e12, fI_uI, if_pos ⟨rfl, rfl⟩, e11, fI_uI, if_neg (by simp), x1 _ _ (by simp)]
    have j9 : fI Y12 (9, 0, 0) 9 = fI Z xM 35 := by rw [i12 _ _ (by simp), x1 _ _ (by simp), ce.1 _ _ (by simp)]; exact b8
    have j10' : fI Y12 (9, 0, 0) 10 = fI Z xM 33 + 1 := by rw [j10, ce.1 _ _ (by simp), b6]
    have q6 : ∀ i, i < K → fA Y12 (6, 0, 0) 0 ((hd + i) % 40) = fA Z xM 49 i := fun i hi => by rw [a12, xa _ _ _ (by simp) (by simp), ce.2.1 _ _ _ (by simp)]; exact J.2.2.1 i hi
    have turn : rot Z p → L_98_99 V g Y12 (n32 p) (some (4, p, 0)) (some (5, pP (fA Z xM) p, 0)) (n32 (wOp (eW (fA Z xM) p))) Q := by
      intro hr
      refine l_98_99 (s_62 (hd := hd) (K := K) (by rw [i12 _ _ (by simp), x1 _ _ (by simp)]; exact z1) h40 (by rw [i12 _ _ (by simp), x1 _ _ (by simp)]; exact z2) K40 kp (fun Y1 w1 w2 w3 w4 w5 w6 w7 Y2 e2 => l_98_111 (HN p i0 ((hd + 1) % 40) Y2 hD n0 ⟨fun u k n1 n2 n3 => ?_, ⟨?_, ?_, ?_, ?_, ?_⟩, fun u k j n1 n2 n3 => ?_, fun r hr => ?_, fun j hj => ?_, fun k hk => ?_, fun u k j => ?_, fun u k j => ?_, ?_, ?_, Nat.mod_lt _ (by omega), .inl ⟨hr, ?_, fun i hi => ?_⟩⟩)))
      · rw [e2, fI_uI, if_neg (fun z => n2 ⟨z.1, .inl z.2⟩), w1 u k n3, i12 u k n2]
        exact x1 u k n1
      · rw [e2, fI_uI, if_neg (by simp), w1 _ _ (by simp), i12 _ _ (by simp)]; exact x4
      · rw [e2, fI_uI, if_neg (by simp), w1 _ _ (by simp), i12 _ _ (by simp)]; exact x5
      · rw [e2, fI_uI, if_neg (by simp), w1 _ _ (by simp), i12 _ _ (by simp)]; exact x6
      · rw [e2, fI_uI, if_neg (by simp), w1 _ _ (by simp), i12 _ _ (by simp)]; exact x9
      · rw [e2, fI_uI, if_neg (by simp), w1 _ _ (by simp)]; exact j11
      · rw [e2, fA_uI, w3 u k j n3, a12]; exact xa u k j n1 n2
      · rw [e2, fA_uI, w3 _ _ _ (by simp), a12]; exact x2 r hr
      · rw [e2, fA_uI, w3 _ _ _ (by simp), a12]; exact x3 j hj
      · rw [e2, fA_uI, w3 _ _ _ (by simp), a12]; exact xm k hk
      · rw [e2, fL_uI, w5, e12, e11]; exact xl u k j
      · rw [e2, fR_uI, w6, e12, e11]; exact xr u k j
      · rw [e2, fC_uI, w7, e12, e11]; exact xc
      · rw [e2, fI_uI, if_neg (by simp)]; exact w2
      · rw [e2, fI_uI, if_pos ⟨rfl, rfl⟩]
      · rw [e2, fA_uI, w4 i hi]
        by_cases c : i + 1 < K
        · rw [if_pos c, if_pos c]; exact q6 _ c
        · rw [if_neg c, if_neg c, q6 0 kp]; exact h49
    have stay : ¬ rot Z p → L_98_111 V g Y12 (n32 p) (some (4, p, 0)) (some (5, pP (fA Z xM) p, 0)) (n32 (wOp (eW (fA Z xM) p))) Q := by
      intro hr
      refine l_98_111 (HN p i0 hd Y12 hD n0 ⟨fun u k n1 n2 n3 => ?_, ⟨?_, ?_, ?_, ?_, j11⟩, fun u k j n1 n2 n3 => ?_, fun r hr => ?_, fun j hj => ?_, fun k hk => ?_, fun u k j => ?_, fun u k j => ?_, ?_, ?_, h40, .inr ⟨hr, j10, q6⟩⟩)
      · rw [i12 u k n2]; exact x1 u k n1
      · rw [i12 _ _ (by simp)]; exact x4
      · rw [i12 _ _ (by simp)]; exact x5
      · rw [i12 _ _ (by simp)]; exact x6
      · rw [i12 _ _ (by simp)]; exact x9
      · rw [a12]; exact xa u k j n1 n2
      · rw [a12]; exact x2 r hr
      · rw [a12]; exact x3 j hj
      · rw [a12]; exact xm k hk
      · rw [e12, e11]; exact xl u k j
      · rw [e12, e11]; exact xr u k j
      · rw [e12, e11]; exact xc
      · rw [i12 _ _ (by simp), x1 _ _ (by simp)]; exact z1
    have hop := op_lt (eW (fA Z xM) p)
    refine ⟨fun z => absurd ((n_eq0 (by omega)).mp z) n0, fun _ => ⟨fun z => turn (.inl ((n_eq (b := 1) (by omega) (by omega)).mp z)), fun n1 => ⟨fun c => stay ?_, fun c => turn (.inr ?_)⟩⟩⟩
    · rw [j10', j9] at c
      rintro (y | y)
      · exact n1 (by rw [y]; rfl)
      · exact y c
    · rw [j10', j9] at c
      exact c
end TC
