/-! more questions -/
def KQ2 (Y Y' : xW) : Prop := (∀ u k, (u.1 = 4 ∨ u = (6, 0, 0) ∨ u = (7, 0, 0)) → fI Y' u k = fI Y u k) ∧ fI Y' (9, 0, 0) 6 = fI Y (9, 0, 0) 6 ∧ (∀ k, 31 ≤ k → k ≤ 32 → fI Y' xM k = fI Y xM k) ∧ (∀ u k i, (u.1 = 4 ∨ u = (6, 0, 0) ∨ u = (7, 0, 0)) → fA Y' u k i = fA Y u k i) ∧ (∀ u k i, fL Y' u k i = fL Y u k i ∨ u = (12, 0, 0)) ∧ (∀ i, fR Y' (9, 0, 0) 5 i = fR Y (9, 0, 0) 5 i)
theorem IQ_kee2 {g g' : xG} {Y Y' : xW} {P N S K hd : Nat} (I : IP g Y P N) (J : IQ g Y S K hd) (k : KQ2 Y Y') (n9 : fI Y' (9, 0, 0) 9 = fI Y' xM 35) (n10 : fI Y' (9, 0, 0) 10 = fI Y' xM 33) (n11 : fI Y' (9, 0, 0) 11 = fI Y' xM 34) (hq : QE (fA Y xM) (fA Y' xM)) (Eq : ∀ q, q < 24 → fA Y xM 6 q = 1 → EQP (fA Y xM) (fA Y' xM) q) (G : ∀ q, g.1 (4, q, 0) = false → g'.1 (4, q, 0) = false) : IQ g' Y' S K hd := by
  obtain ⟨k1, k2, k3, k4, k5, k6⟩ := k
  have kl : ∀ u k i, u ≠ (12, 0, 0) → fL Y' u k i = fL Y u k i := fun u k i hu => (k5 u k i).resolve_right hu
  obtain ⟨a, ⟨b1, b2, b3, b4, b5, b6, b7, b8⟩, c, ⟨d1, d2, d3⟩, e, f, s, t, w⟩ := J
  have HL : ∀ p, p < 24 → fA Y xM 6 p = 1 → LOC (fA Y xM) (fA Y' xM) p ∧ WA (fA Y xM) p := fun p hp h => ⟨IP_LOC I (acc_lt I hp h) (Eq p hp h) Eq, (I.2.2.2.1 p (acc_lt I hp h)).2.2.1⟩
  have rb : ∀ i, rB Y' i = rB Y i := fun i => by unfold rB; rw [k4 _ _ _ (.inr (.inr rfl))]
  have rs : ∀ i, rS Y' i = rS Y i := fun i => by unfold rS; rw [k4 _ _ _ (.inr (.inr rfl))]
  refine ⟨a, ?_, ?_, ⟨?_, ?_, ?_⟩, ?_, ?_, ?_, ?_, ?_⟩
  · rw [k3 31 (by omega) (by omega), k3 32 (by omega) (by omega), k2, k1 (6, 0, 0) 2 (by simp), k1 (6, 0, 0) 1 (by simp)]
    exact ⟨b1, b2, b3, b4, b5, n10, n11, n9⟩
  · intro i hi
    rw [k4 _ _ _ (by simp), hq 49 _ (by omega)]
    exact c i hi
  · intro i hi
    rw [hq 49 _ (by omega)]
    obtain ⟨q, h1, h2, h3⟩ := d1 i hi
    exact ⟨q, h1, h2, by rw [hq 36 _ (by omega)]; exact h3⟩
  · intro i j hi hj h
    rw [hq 49 _ (by omega), hq 49 _ (by omega)] at h
    exact d2 i j hi hj h
  · intro q h h2
    rw [hq 36 _ (by omega)] at h2
    obtain ⟨i, h3, h4⟩ := d3 q h h2
    exact ⟨i, h3, by rw [hq 49 _ (by omega)]; exact h4⟩
  · intro q h
    obtain ⟨c1, c2, c3, c4, c5⟩ := e q h
    refine ⟨(k6 q).trans c1, ?_, ?_, ?_, ?_⟩
    · rw [k1 _ _ (by simp), k1 _ _ (by simp), k1 _ _ (by simp), k1 _ _ (by simp), k1 _ _ (by simp), k1 _ _ (by simp), k1 _ _ (by simp), k1 _ _ (by simp), k1 _ _ (by simp), hq 37 _ (by omega), hq 43 _ (by omega), hq 41 _ (by omega), hq 38 _ (by omega), hq 39 _ (by omega), hq 42 _ (by omega), hq 36 _ (by omega), hq 40 _ (by omega), hq 44 _ (by omega)]
      exact c2
    · rw [kl _ _ _ (by simp), kl _ _ _ (by simp)]
      exact c3
    · intro r hr
      rw [k4 _ _ _ (by simp), hq 45 _ (by omega)]
      exact c4 r hr
    · intro j hj
      rw [show cN (fA Y' xM) q = cN (fA Y xM) q from by unfold cN; rw [hq 41 _ (by omega)]] at hj
      rw [k4 _ _ _ (by simp), hq 47 _ (by omega), hq 48 _ (by omega)]
      exact c5 j hj
  · intro q h h2
    obtain ⟨f0, f1, f2, f3, f4, f5, f6, f7⟩ := f q h h2
    rw [hq 36 _ (by omega), hq 39 _ (by omega), hq 40 _ (by omega), hq 41 _ (by omega), hq 44 _ (by omega), kl _ _ _ (by simp)]
    refine ⟨G q f0, f1, f2, f3, f4, f5, fun r hr => ?_, f7⟩
    rw [hq 45 _ (by omega)]
    exact f6 r hr
  · obtain ⟨s1, s2, s3, s4, s5, s6⟩ := s
    refine ⟨(k1 _ _ (by simp)).trans s1, fun k hk => ?_, fun i hi => ?_, fun i hi => ?_, fun k hk => ?_, fun k hk => ?_⟩
    · rw [k4 _ _ _ (by simp), hq 50 _ (by omega)]
      exact s2 k hk
    · rw [rb, rs, k4 _ _ _ (by simp), k4 _ _ _ (by simp)]
      exact s3 i hi
    · rw [rb, rs, rb]
      exact s4 i hi
    · rw [hq 51 _ (by omega)]
      exact s5 k hk
    · rw [hq 51 _ (by omega), s6 k hk]
      constructor
      · rintro ⟨i, h1, h2, h3⟩
        exact ⟨i, h1, by rw [rb]; exact h2, by rw [rb, rs]; exact h3⟩
      · rintro ⟨i, h1, h2, h3⟩
        exact ⟨i, h1, by rw [rb] at h2; exact h2, by rw [rb, rs] at h3; exact h3⟩
  · intro q h h2
    rw [hq 36 _ (by omega)] at h2
    obtain ⟨t1, i, t2, t3, t4⟩ := t q h h2
    refine ⟨SND_loc (QE_q hq q) HL t1, i, t2, ?_, ?_⟩
    · rw [hq 42 _ (by omega), k4 _ _ _ (by simp)]
      exact t3
    · rw [hq 43 _ (by omega), k4 _ _ _ (by simp)]
      exact t4
  · intro q q' h1 h2 h3 h4 h5
    rw [hq 36 _ (by omega)] at h3 h4
    rw [hq 42 _ (by omega), hq 42 _ (by omega)] at h5
    exact w q q' h1 h2 h3 h4 h5
abbrev tqK (V : xV) (g : xG) (B : Int32 → Int32 → xW → Prop) (F : xW → Prop) (x42 x44 : Int32) (Y43 : xW) : Prop := L_124_0 V g Y43 (fun x46 Y45 => ((x46 = x42) → ((x42 = 0) → vp_in 0 1 ∧ (((fL Y45 (12, 0, 0) 0 (Int32.toNatClampNeg 0)) = (Int32.toInt64 x44)) → B x42 x44 Y45) ∧ (¬ ((fL Y45 (12, 0, 0) 0 (Int32.toNatClampNeg 0)) = (Int32.toInt64 x44)) → F Y45)) ∧ (¬ (x42 = 0) → B x42 x44 Y45)) ∧ (¬ (x46 = x42) → F Y45))
abbrev tqL (V : xV) (g : xG) (B : Int32 → Int64 → xW → Prop) (F : xW → Prop) (x42 : Int32) (x44 : Int64) (Y43 : xW) : Prop := L_124_0 V g Y43 (fun x46 Y45 => ((x46 = x42) → ((x42 = 0) → vp_in 0 1 ∧ (((fL Y45 (12, 0, 0) 0 (Int32.toNatClampNeg 0)) = x44) → B x42 x44 Y45) ∧ (¬ ((fL Y45 (12, 0, 0) 0 (Int32.toNatClampNeg 0)) = x44) → F Y45)) ∧ (¬ (x42 = 0) → B x42 x44 Y45)) ∧ (¬ (x46 = x42) → F Y45))
section RQ
variable {V : xV} {g : xG} {Y : xW}
theorem Inv_thr (hi : Inv g Y) : Inv g (uI (uI (uT Y) xM 2 0) xM 2 1) ∧ CT Y (uI (uI (uT Y) xM 2 0) xM 2 1) := by
  refine ⟨Inv_q hi ⟨fun u k hu => ?_, fun _ _ _ => rfl, fun _ _ _ => .inl rfl, fun _ _ _ => rfl⟩, ⟨by show (fC Y).2.1 + 1 ≤ _; omega, by show (fC Y).2.2 + 6 ≤ _; omega⟩⟩
  rw [fI_uI, if_neg hu, fI_uI, if_neg hu]
  rfl
theorem Inv_val (hi : Inv g Y) (v : Int64) : Inv g (uI (uL Y (12, 0, 0) 0 (Int32.toNatClampNeg 0) v) xM 2 0) ∧ CT Y (uI (uL Y (12, 0, 0) 0 (Int32.toNatClampNeg 0) v) xM 2 0) := by
  refine ⟨Inv_q hi ⟨fun u k hu => ?_, fun _ _ _ => rfl, fun u k i => ?_, fun _ _ _ => rfl⟩, ⟨by show (fC Y).2.1 ≤ _; omega, by show (fC Y).2.2 ≤ _; omega⟩⟩
  · rw [fI_uI, if_neg hu]
    rfl
  · rw [fL_uI, fL_uL]
    by_cases y : u = (12, 0, 0)
    · exact .inr y
    · rw [if_neg (fun z => y z.1)]
      exact .inl rfl
theorem k_thr {B : Int32 → Int32 → xW → Prop} {F : xW → Prop} (hi : Inv g Y) (H : ∀ x y Y', Inv g Y' → CT Y Y' → B x y Y') : tqK V g B F 1 0 (uI (uI (uT Y) xM 2 0) xM 2 1) :=
  tq (.inr ⟨rfl, rfl, H _ _ _ (Inv_thr hi).1 (Inv_thr hi).2⟩)
theorem k_val {B : Int32 → Int32 → xW → Prop} {F : xW → Prop} (hi : Inv g Y) (H : ∀ x y Y', Inv g Y' → CT Y Y' → B x y Y') (v : Int32) : tqK V g B F 0 v (uI (uL Y (12, 0, 0) 0 (Int32.toNatClampNeg 0) (Int32.toInt64 v)) xM 2 0) :=
  tq (.inl ⟨rfl, rfl, rfl, H _ _ _ (Inv_val hi _).1 (Inv_val hi _).2⟩)
theorem k_thL {B : Int32 → Int64 → xW → Prop} {F : xW → Prop} (hi : Inv g Y) (H : ∀ x y Y', Inv g Y' → CT Y Y' → B x y Y') (v : Int64) : tqL V g B F 1 v (uI (uI (uT Y) xM 2 0) xM 2 1) :=
  tq (.inr ⟨rfl, rfl, H _ _ _ (Inv_thr hi).1 (Inv_thr hi).2⟩)
theorem k_vaL {B : Int32 → Int64 → xW → Prop} {F : xW → Prop} (hi : Inv g Y) (H : ∀ x y Y', Inv g Y' → CT Y Y' → B x y Y') (v : Int64) : tqL V g B F 0 v (uI (uL Y (12, 0, 0) 0 (Int32.toNatClampNeg 0) v) xM 2 0) :=
  tq (.inl ⟨rfl, rfl, rfl, H _ _ _ (Inv_val hi _).1 (Inv_val hi _).2⟩)
theorem s_58 {Q : Int32 → xW → Prop} {hd i : Nat} (h : fI Y (6, 0, 0) 1 = n32 hd) (hh : hd < 40) (hi : i < 1000) (H : Q (n32 ((hd + i) % 40)) Y) : L_58_0 V g Y (n32 i) Q := by
  refine l_58_0 ?_
  rw [h, n_add, show (40 : Int32) = n32 40 from rfl, n_mod (by omega) (by omega) (by omega)]
  exact H
theorem s_59 {Q : Int32 → xW → Prop} {hd i K : Nat} (h : fI Y (6, 0, 0) 1 = n32 hd) (hh : hd < 40) (hk : fI Y (6, 0, 0) 2 = n32 K) (hi : i < K) (hK : K ≤ 40) (H : Q (fA Y (6, 0, 0) 0 ((hd + i) % 40)) Y) : L_59_0 V g Y (n32 i) Q := by
  have m : (hd + i) % 40 < 40 := Nat.mod_lt _ (by omega)
  refine l_59_0 ⟨fun z => absurd z (n_ge0 (by omega)), fun _ => ⟨fun z => ?_, fun _ => s_58 h hh (by omega) ⟨n_in m (by omega), l_59_26 ?_⟩⟩⟩
  · rw [hk, n_le (by omega) (by omega)] at z
    omega
  · rw [n_nat (by omega)]
    exact H
theorem s_60 {Q : Int32 → xW → Prop} {hd K : Nat} {x : Int32} (h : fI Y (6, 0, 0) 1 = n32 hd) (hh : hd < 40) (hk : fI Y (6, 0, 0) 2 = n32 K) (hK : K ≤ 40) (hr : ∀ i, i < K → fA Y (6, 0, 0) 0 ((hd + i) % 40) = fA Y xM 49 i) (H1 : ∀ i, i < K → fA Y xM 49 i = x → Q (n32 i) Y) (H0 : (∀ i, i < K → ¬ fA Y xM 49 i = x) → Q (-1) Y) : L_60_0 V g Y x Q := by
  have lp : ∀ m i, i + m = K → (∀ j, j < i → ¬ fA Y xM 49 j = x) → L_60_2 V g Y x (n32 i) Q := by
    intro m
    induction m with
    | zero =>
      intro i e hj
      refine l_60_2 ⟨fun _ => H0 (fun j h => hj j (by omega)), fun z => absurd ?_ z⟩
      rw [hk, n_le (by omega) (by omega)]
      omega
    | succ m ih =>
      intro i e hj
      refine l_60_2 ⟨fun z => ?_, fun _ => s_59 h hh hk (by omega) hK ?_⟩
      · rw [hk, n_le (by omega) (by omega)] at z
        omega
      · rw [hr i (by omega)]
        refine ⟨fun c => H1 i (by omega) c, fun c => ?_⟩
        rw [show n32 i + 1 = n32 (i + 1) from n_add i 1]
        refine ih (i + 1) (by omega) (fun j hj2 => ?_)
        by_cases e2 : j = i
        · rw [e2]; exact c
        · exact hj j (by omega)
  exact l_60_0 (lp K 0 (by omega) (fun j hj => absurd hj (by omega)))
theorem s_175 {Q : Int32 → xW → Prop} {K : Nat} {x : Int32} (hk : fI Y xM 32 = n32 K) (hK : K ≤ 40) (H1 : ∀ i, i < K → fA Y xM 49 i = x → Q (n32 i) Y) (H0 : (∀ i, i < K → ¬ fA Y xM 49 i = x) → Q (-1) Y) : L_175_0 V g Y x Q := by
  have lp : ∀ m i a, i + m = K → ((a = -1 ∧ ∀ j, j < i → ¬ fA Y xM 49 j = x) ∨ ∃ j, j < K ∧ a = n32 j ∧ fA Y xM 49 j = x) → L_175_4 V g Y x a (n32 i) Q := by
    intro m
    induction m with
    | zero =>
      intro i a e hj
      refine l_175_4 ⟨fun _ => ?_, fun z => absurd ?_ z⟩
      · rcases hj with ⟨rfl, hj⟩ | ⟨j, h1, rfl, h3⟩
        · exact H0 (fun j h => hj j (by omega))
        · exact H1 j h1 h3
      · rw [hk, n_le (by omega) (by omega)]
        omega
    | succ m ih =>
      intro i a e hj
      refine l_175_4 ⟨fun z => ?_, fun _ => ⟨n_in (by omega) (by omega), ?_⟩⟩
      · rw [hk, n_le (by omega) (by omega)] at z
        omega
      · rw [n_nat (by omega)]
        refine ⟨fun c => l_175_24 ?_, fun c => l_175_24 ?_⟩
        · rw [show n32 i + 1 = n32 (i + 1) from n_add i 1]
          exact ih (i + 1) _ (by omega) (.inr ⟨i, by omega, rfl, c⟩)
        · rw [show n32 i + 1 = n32 (i + 1) from n_add i 1]
          refine ih (i + 1) _ (by omega) ?_
          rcases hj with ⟨h1, hj⟩ | h1
          · refine .inl ⟨h1, fun j hj2 => ?_⟩
            by_cases e2 : j = i
            · rw [e2]; exact c
            · exact hj j (by omega)
          · exact .inr h1
  exact l_175_0 (lp K 0 (-1) (by omega) (.inl ⟨rfl, fun j hj => absurd hj (by omega)⟩))
theorem s_65 {Q : Int32 → xW → Prop} {k : Nat} (hk : k < 4096) (H : Q (fA Y (7, 0, 0) 0 k) Y) : L_65_0 V g Y (n32 k) Q := by
  refine l_65_0 ⟨fun z => absurd z (n_ge0 (by omega)), fun _ => ⟨fun z => ?_, fun _ => ⟨n_in hk (by omega), l_65_21 ?_⟩⟩⟩
  · have z' := (n_le (a := 4096) (by omega) (by omega)).mp z
    omega
  · rw [n_nat (by omega)]
    exact H
/-- 15: register -/
theorem case_15 {x1 x2 : Int32} {Pr : Prop} {B : Int32 → Int32 → xW → Prop} {F : xW → Prop} (hi : Inv g Y) (hp : Pr) (H : ∀ x y Y', Inv g Y' → CT Y Y' → B x y Y') : L_193_0 V g Y x1 x2 (fun x42 Y41 => Pr ∧ L_179_0 V g Y41 x1 x2 (fun x44 Y43 => tqK V g B F x42 x44 Y43)) := by
  have hi' := hi
  obtain ⟨_, S, K, hd, J⟩ := hi'
  have S3 := J.1.1
  obtain ⟨b1, b2, b3, b4, b5, b6, b7, b8⟩ := J.2.1
  have ip0 := n_in (k := 0) (n := 1) (by omega) (by omega)
  have thr : ¬ (∃ q, q < S ∧ x1 = n32 q) ∨ ¬ (∃ r, r < 8 ∧ x2 = n32 r) → Pr ∧ L_179_0 V g (uT Y) x1 x2 (fun x44 Y43 => tqK V g B F 1 x44 Y43) := by
    intro h
    refine ⟨hp, l_179_0 (fun Y1 e1 => ?_)⟩
    subst e1
    have fin : L_179_23 V g (uI (uT Y) xM 2 0) x1 x2 (fun x44 Y43 => tqK V g B F 1 x44 Y43) := l_179_23 (s_125 (k_thr hi H))
    refine s_176 (S := S) b1 S3 (fun q hq e => ⟨fun z => absurd z (by decide), fun _ => ?_⟩) (fun _ => ⟨fun _ => fin, fun z => absurd rfl z⟩)
    have h2 : ¬ (∃ r, r < 8 ∧ x2 = n32 r) := h.resolve_left (fun z => z ⟨q, hq, e⟩)
    rcases idx_not (n := 8) (by omega) h2 with y | y
    · exact ⟨fun _ => fin, fun z => absurd y z⟩
    · refine ⟨fun _ => fin, fun _ => ⟨fun z => ?_, fun _ => fin⟩⟩
      have y2 := y.2
      rw [i_le, n_toInt (by omega)] at y2
      rw [i_le] at z
      have e7 : (7 : Int32).toInt = 7 := rfl
      omega
  refine l_193_0 (l_103_0 (s_110 b2 S3 (fun q hq e => ?_) (fun h => ⟨fun _ => l_103_17 ⟨by decide +kernel, thr (.inl h)⟩, fun u z => absurd z (by simp)⟩)))
  obtain ⟨c1, c2, c3, c4, c5⟩ := J.2.2.2.2.1 q hq
  rw [c1]
  refine ⟨fun z => absurd z (by simp), fun u z => ?_⟩
  cases z
  by_cases h : ∃ r, r < 8 ∧ x2 = n32 r
  · obtain ⟨r, hr, rfl⟩ := h
    refine l_112_0 ⟨fun z => absurd z (n_ge0 (by omega)), fun _ => ⟨fun z => absurd ((n_le (a := 8) (by omega) (by omega)).mp z) (by omega), fun _ => l_112_15 ⟨.inr rfl, ⟨fun z => absurd z (by decide), fun _ => ⟨n_in hr (by omega), ip0, fun Y3 e3 => ⟨hp, l_179_0 (fun Y1 e1 => ?_)⟩⟩⟩⟩⟩⟩
    rw [n_nat (by omega), c4 r hr] at e3
    subst e1
    refine s_176 (S := S) (by rw [e3]; exact b1) S3 (fun q' hq' e' => ⟨fun z => absurd z (by decide), fun _ => ⟨fun z => absurd z (n_ge0 (by omega)), fun _ => ⟨fun _ => ?_, fun z => absurd ((n_le (b := 7) (by omega) (by omega)).mpr (by omega)) z⟩⟩⟩) (fun h => absurd ⟨q, hq, e⟩ h)
    rw [e, ix8, n_nat (by omega), e3]
    exact ⟨n_in (by omega) (by omega), k_val hi H _⟩
  · have fin : L_103_17 V g Y x1 x2 (some (4, q, 0)) (fun x2 Y1 => vp_in 0 1 ∧ ∀ Y3, Y3 = uL Y1 (12, 0, 0) 0 (Int32.toNatClampNeg 0) (Int32.toInt64 x2) → (fun x42 Y41 => Pr ∧ L_179_0 V g Y41 x1 x2 (fun x44 Y43 => tqK V g B F x42 x44 Y43)) 0 Y3) (fun e Y1 => xhd 193 5 e = true ∧ (fun x42 Y41 => Pr ∧ L_179_0 V g Y41 x1 x2 (fun x44 Y43 => tqK V g B F x42 x44 Y43)) 1 Y1) → True := fun _ => trivial
    have no : L_112_14 V g Y x2 (fun x5 Y4 => ((x5 = 0) → L_103_17 V g Y4 x1 x2 (some (4, q, 0)) (fun x2_1 Y1 => vp_in 0 1 ∧ ∀ Y3, Y3 = uL Y1 (12, 0, 0) 0 (Int32.toNatClampNeg 0) (Int32.toInt64 x2_1) → Pr ∧ L_179_0 V g Y3 x1 x2 (fun x44 Y43 => tqK V g B F 0 x44 Y43)) (fun e Y1 => xhd 193 5 e = true ∧ Pr ∧ L_179_0 V g Y1 x1 x2 (fun x44 Y43 => tqK V g B F 1 x44 Y43))) ∧ (¬ (x5 = 0) → vp_in x2 8 ∧ vp_in 0 1 ∧ ∀ Y3, Y3 = uL Y4 (12, 0, 0) 0 (Int32.toNatClampNeg 0) (Int32.toInt64 (fA Y4 (4, q, 0) 2 (Int32.toNatClampNeg x2))) → Pr ∧ L_179_0 V g Y3 x1 x2 (fun x44 Y43 => tqK V g B F 0 x44 Y43))) :=
      l_112_14 (l_112_15 ⟨.inl rfl, ⟨fun _ => l_103_17 ⟨by decide +kernel, thr (.inr h)⟩, fun z => absurd rfl z⟩⟩)
    rcases idx_not (n := 8) (by omega) h with y | y
    · exact l_112_0 ⟨fun _ => no, fun z => absurd y z⟩
    · exact l_112_0 ⟨fun _ => no, fun _ => ⟨fun _ => no, fun z => absurd y.2 z⟩⟩
/-- 16: trace -/
theorem case_16 {x1 : Int32} {Pr : Prop} {B : Int32 → Int64 → xW → Prop} {F : xW → Prop} (hi : Inv g Y) (hp : Pr) (H : ∀ x y Y', Inv g Y' → CT Y Y' → B x y Y') : L_194_0 V g Y x1 (fun x42 Y41 => Pr ∧ L_180_0 V g Y41 x1 (fun x44 Y43 => tqL V g B F x42 x44 Y43)) := by
  have hi' := hi
  obtain ⟨_, S, K, hd, J⟩ := hi'
  have S3 := J.1.1
  obtain ⟨b1, b2, b3, b4, b5, b6, b7, b8⟩ := J.2.1
  have ip0 := n_in (k := 0) (n := 1) (by omega) (by omega)
  refine l_194_0 (l_104_0 (s_110 b2 S3 (fun q hq e => ?_) (fun h => ⟨fun _ => ⟨by decide +kernel, hp, l_180_0 (fun Y1 e1 => ?_)⟩, fun u z => absurd z (by simp)⟩)))
  · obtain ⟨c1, c2, c3, c4, c5⟩ := J.2.2.2.2.1 q hq
    rw [c1]
    refine ⟨fun z => absurd z (by simp), fun u z => ?_⟩
    cases z
    refine ⟨ip0, fun Y3 e3 => ⟨hp, l_180_0 (fun Y1 e1 => ?_)⟩⟩
    rw [c3] at e3
    subst e1
    refine s_176 (S := S) (by rw [e3]; exact b1) S3 (fun q' hq' e' => ⟨fun z => absurd z (by decide), fun _ => ?_⟩) (fun h => absurd ⟨q, hq, e⟩ h)
    rw [e, n_nat (by omega), e3]
    exact ⟨n_in (by omega) (by omega), k_vaL hi H _⟩
  · subst e1
    exact s_176 (S := S) b1 S3 (fun q' hq' e' => absurd ⟨q', hq', e'⟩ h) (fun _ => ⟨fun _ => s_125 (k_thL hi H _), fun z => absurd rfl z⟩)
/-- 18: peek -/
theorem case_18 {x1 : Int32} {Pr : Prop} {B : Int32 → Int32 → xW → Prop} {F : xW → Prop} (hi : Inv g Y) (hp : Pr) (H : ∀ x y Y', Inv g Y' → CT Y Y' → B x y Y') : L_196_0 V g Y x1 (fun x42 Y41 => Pr ∧ L_182_0 V g Y41 x1 (fun x44 Y43 => tqK V g B F x42 x44 Y43)) := by
  have hi' := hi
  obtain ⟨_, S, K, hd, J⟩ := hi'
  have ip0 := n_in (k := 0) (n := 1) (by omega) (by omega)
  have s2 := J.2.2.2.2.2.2.1.2.1
  by_cases h : ∃ k, k < 4096 ∧ x1 = n32 k
  · obtain ⟨k, hk, rfl⟩ := h
    refine l_196_0 (l_106_0 ⟨fun z => absurd z (n_ge0 (by omega)), fun _ => ⟨fun _ => s_65 hk ⟨ip0, fun Y3 e3 => ⟨hp, l_182_0 (fun Y1 e1 => ?_)⟩⟩, fun z => absurd ((n_lt (b := 4096) (by omega) (by omega)).mpr hk) z⟩⟩)
    rw [s2 k hk] at e3
    subst e1
    rw [n_nat (by omega)]
    refine ⟨fun z => absurd z (n_ge0 (by omega)), fun _ => ⟨fun _ => ⟨n_in hk (by omega), ?_⟩, fun z => absurd ((n_lt (b := 4096) (by omega) (by omega)).mpr hk) z⟩⟩
    rw [e3]
    exact k_val hi H _
  · have thr : Pr ∧ L_182_0 V g (uT Y) x1 (fun x44 Y43 => tqK V g B F 1 x44 Y43) := by
      refine ⟨hp, l_182_0 (fun Y1 e1 => ?_)⟩
      subst e1
      have fin : L_182_16 V g (uI (uT Y) xM 2 0) x1 (fun x44 Y43 => tqK V g B F 1 x44 Y43) := l_182_16 (s_125 (k_thr hi H))
      rcases idx_not (n := 4096) (by omega) h with y | y
      · exact ⟨fun _ => fin, fun z => absurd y z⟩
      · refine ⟨fun _ => fin, fun _ => ⟨fun z => ?_, fun _ => fin⟩⟩
        have y2 := y.2
        rw [i_le, n_toInt (by omega)] at y2
        rw [i_lt] at z
        have e7 : (4096 : Int32).toInt = 4096 := rfl
        omega
    refine l_196_0 (l_106_0 ⟨fun _ => l_106_11 ⟨by decide +kernel, thr⟩, fun z => ⟨fun z2 => ?_, fun _ => l_106_11 ⟨by decide +kernel, thr⟩⟩⟩)
    rcases idx_not (n := 4096) (by omega) h with y | y
    · exact absurd y z
    · have y2 := y.2
      rw [i_le, n_toInt (by omega)] at y2
      rw [i_lt] at z2
      have e7 : (4096 : Int32).toInt = 4096 := rfl
      omega
end RQ
