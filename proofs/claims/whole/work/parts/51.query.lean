/-! questions that change nothing -/
theorem n_div {a b : Nat} (ha : a < 2147483648) (hb : b < 2147483648) (h0 : 0 < b) : n32 a / n32 b = n32 (a / b) := by
  have hd : a / b < 2147483648 := Nat.lt_of_le_of_lt (Nat.div_le_self a b) ha
  have nb : n32 b ≠ -1 := by
    intro z
    have := congrArg Int32.toInt z
    rw [n_toInt hb] at this
    have e : (-1 : Int32).toInt = -1 := by decide
    omega
  rw [i_eq, Int32.toInt_div_of_ne_right _ _ nb, n_toInt ha, n_toInt hb, n_toInt hd]
  exact Int.ofNat_tdiv a b
theorem n_mod {a b : Nat} (ha : a < 2147483648) (hb : b < 2147483648) (h0 : 0 < b) : n32 a - n32 a / n32 b * n32 b = n32 (a % b) := by
  rw [n_div ha hb h0, n_mul, n_sub (Nat.div_mul_le_self a b)]
  congr 1
  have := Nat.div_add_mod a b
  have e : b * (a / b) = a / b * b := Nat.mul_comm _ _
  omega
theorem IP_keep {g g' : xG} {Y Y' : xW} {P N : Nat} (I : IP g Y P N) (hA : ∀ k i, k < 24 → fA Y' xM k i = fA Y xM k i) (hK : ∀ p, KP Y Y' p) (h3 : fI Y' xM 3 = fI Y xM 3) (h4 : fI Y' xM 4 = fI Y xM 4) (h5 : fI Y' xM 5 = fI Y xM 5) (y1 : fI Y' (9, 0, 0) 1 = fI Y (9, 0, 0) 1) (y3 : fI Y' (9, 0, 0) 3 = fI Y (9, 0, 0) 3) (yo : fR Y' (9, 0, 0) 2 0 = fR Y (9, 0, 0) 2 0) (G : ∀ u p, tP u p → g.1 u = false → g'.1 u = false) : IP g' Y' P N := by
  have E : ∀ p, EQP (fA Y xM) (fA Y' xM) p := by
    intro p
    refine ⟨fun k _ h2 => hA k p (by omega), fun j _ => ⟨hA 12 _ (by omega), hA 13 _ (by omega)⟩, fun j _ r _ => ?_, fun f _ => ⟨hA 17 _ (by omega), hA 18 _ (by omega), hA 22 _ (by omega), hA 23 _ (by omega)⟩, fun f _ r _ => ?_⟩
    · unfold lRow
      rw [hA 14 _ (by omega), hA 15 _ (by omega), hA 16 _ (by omega)]
    · unfold oRow
      rw [hA 19 _ (by omega), hA 20 _ (by omega), hA 21 _ (by omega)]
  refine ⟨I.1, ?_, ?_, fun p hp => PP_keep (IP_LOC I hp (E p) (fun q _ _ => E q)) (hK p) (fun u => G u p) (I.2.2.2.1 p hp), fun p h1 h2 => FP_keep (E p) (fun u => G u p) (I.2.2.2.2.1 p h1 h2), fun k hk => ?_⟩
  · rw [h3, h4, y1, y3]
    exact I.2.1
  · rw [h5, yo]
    rcases I.2.2.1 with h | ⟨o, h1, h2, h3, h4⟩
    · exact .inl h
    · exact .inr ⟨o, h1, h2, h3, by rw [hA 6 _ (by omega)]; exact h4⟩
  · rw [hA 0 _ (by omega), hA 1 _ (by omega)]
    exact I.2.2.2.2.2 k hk
/-- only the answer cell, the reference's mark and the counters have changed -/
def QF (Y Y' : xW) : Prop := (∀ u k, ¬ (u = xM ∧ k = 2) → fI Y' u k = fI Y u k) ∧ (∀ u k i, fA Y' u k i = fA Y u k i) ∧ (∀ u k i, fL Y' u k i = fL Y u k i ∨ u = (12, 0, 0)) ∧ (∀ u k i, fR Y' u k i = fR Y u k i)
theorem Inv_q {g : xG} {Y Y' : xW} (h : Inv g Y) (q : QF Y Y') : Inv g Y' := by
  obtain ⟨⟨P, N, I⟩, S, K, hd, J⟩ := h
  obtain ⟨q1, q2, q3, q4⟩ := q
  have E : fA Y' xM = fA Y xM := funext fun k => funext fun i => q2 xM k i
  refine ⟨⟨P, N, IP_keep I (fun k i _ => q2 _ _ _) (fun p => ⟨fun u k hu => q1 u k ?_, fun u k i _ => q2 _ _ _, fun u k i _ => q4 _ _ _, q4 _ _ _⟩) (q1 _ _ (by simp)) (q1 _ _ (by simp)) (q1 _ _ (by simp)) (q1 _ _ (by simp)) (q1 _ _ (by simp)) (q4 _ _ _) (fun _ _ _ z => z)⟩, S, K, hd, IQ_keep I J ⟨fun u k hu => q1 u k ?_, fun k _ => q1 _ _ (by simp), fun k h1 h2 => q1 _ _ (fun z => by have := z.2; omega), fun u k i _ => q2 _ _ _, q3, fun i => q4 _ _ _⟩ (fun k i _ => q2 _ _ _) (fun q _ _ => by rw [E]; exact EQP_r _ _) (fun _ z => z)⟩
  · intro z
    rw [z.1] at hu
    have := hu.2
    simp at this
  · intro z
    rw [z.1] at hu
    simp at hu
def CT (Y Y' : xW) : Prop := (fC Y').2.1 ≤ (fC Y).2.1 + 10 ∧ (fC Y').2.2 ≤ (fC Y).2.2 + 456
section QQ
variable {V : xV} {g : xG} {Y : xW}
theorem tq {B F : xW → Prop} {x44 : Int64} {x42 : Int32} (h : (x42 = 0 ∧ fI Y xM 2 = 0 ∧ fL Y (12, 0, 0) 0 0 = x44 ∧ B Y) ∨ (x42 = 1 ∧ fI Y xM 2 = 1 ∧ B Y)) : L_124_0 V g Y (fun x46 Y45 => ((x46 = x42) → ((x42 = 0) → vp_in 0 1 ∧ (((fL Y45 (12, 0, 0) 0 (Int32.toNatClampNeg 0)) = x44) → B Y45) ∧ (¬ ((fL Y45 (12, 0, 0) 0 (Int32.toNatClampNeg 0)) = x44) → F Y45)) ∧ (¬ (x42 = 0) → B Y45)) ∧ (¬ (x46 = x42) → F Y45)) := by
  refine l_124_0 ?_
  rcases h with ⟨rfl, h2, h3, h4⟩ | ⟨rfl, h2, h4⟩
  · exact ⟨fun _ => ⟨fun _ => ⟨n_in (k := 0) (by omega) (by omega), fun _ => h4, fun z => absurd h3 z⟩, fun z => absurd rfl z⟩, fun z => absurd h2 z⟩
  · exact ⟨fun _ => ⟨fun z => absurd z (by decide), fun _ => h4⟩, fun z => absurd h2 z⟩
theorem s_125 {Q : Int32 → xW → Prop} (H : Q 0 (uI Y xM 2 1)) : L_125_0 V g Y Q := l_125_0 (fun Y1 e => by rw [e]; exact H)
theorem idx_not {x : Int32} {n : Nat} (hn : n < 2147483648) (h : ¬ ∃ p, p < n ∧ x = n32 p) : x < 0 ∨ (¬ x < 0 ∧ n32 n ≤ x) := by
  rcases n_cases x with z | ⟨k, hk, e⟩
  · exact .inl (by rw [i_lt, t0]; exact z)
  · right
    rw [e]
    refine ⟨n_ge0 hk, (n_le hn hk).mpr ?_⟩
    apply Classical.byContradiction
    intro y
    exact h ⟨k, by omega, e⟩
theorem s_108 {Q : Option xT → xW → Prop} {x : Int32} {P : Nat} (hP : fI Y (9, 0, 0) 1 = n32 P) (P24 : P ≤ 24) (H1 : ∀ p, p < P → x = n32 p → Q (fR Y (9, 0, 0) 0 p) Y) (H0 : ¬ (∃ p, p < P ∧ x = n32 p) → Q none Y) : L_108_0 V g Y x Q := by
  by_cases h : ∃ p, p < P ∧ x = n32 p
  · obtain ⟨p, hp, rfl⟩ := h
    refine l_108_0 ⟨fun z => absurd z (n_ge0 (by omega)), fun _ => ⟨fun z => ?_, fun z => ⟨n_in (by omega) (by omega), fun o e => l_108_22 ?_⟩⟩⟩
    · rw [hP, n_le (by omega) (by omega)] at z
      omega
    · rw [n_nat (by omega)] at e
      rw [e]
      exact H1 p hp rfl
  · refine l_108_0 ⟨fun _ => l_108_21 (l_108_22 (H0 h)), fun z => ⟨fun _ => l_108_21 (l_108_22 (H0 h)), fun z2 => ?_⟩⟩
    rcases idx_not (by omega) h with y | y
    · exact absurd y z
    · rw [hP] at z2
      exact absurd y.2 z2
theorem s_110 {Q : Option xT → xW → Prop} {x : Int32} {S : Nat} (hS : fI Y (9, 0, 0) 6 = n32 S) (S3 : S ≤ 300) (H1 : ∀ p, p < S → x = n32 p → Q (fR Y (9, 0, 0) 5 p) Y) (H0 : ¬ (∃ p, p < S ∧ x = n32 p) → Q none Y) : L_110_0 V g Y x Q := by
  by_cases h : ∃ p, p < S ∧ x = n32 p
  · obtain ⟨p, hp, rfl⟩ := h
    refine l_110_0 ⟨fun z => absurd z (n_ge0 (by omega)), fun _ => ⟨fun z => ?_, fun z => ⟨n_in (by omega) (by omega), fun o e => l_110_22 ?_⟩⟩⟩
    · rw [hS, n_le (by omega) (by omega)] at z
      omega
    · rw [n_nat (by omega)] at e
      rw [e]
      exact H1 p hp rfl
  · refine l_110_0 ⟨fun _ => l_110_21 (l_110_22 (H0 h)), fun z => ⟨fun _ => l_110_21 (l_110_22 (H0 h)), fun z2 => ?_⟩⟩
    rcases idx_not (by omega) h with y | y
    · exact absurd y z
    · rw [hS] at z2
      exact absurd y.2 z2
theorem s_176 {Q : Int32 → xW → Prop} {x : Int32} {S : Nat} (hS : fI Y xM 31 = n32 S) (S3 : S ≤ 300) (H1 : ∀ p, p < S → x = n32 p → Q 1 Y) (H0 : ¬ (∃ p, p < S ∧ x = n32 p) → Q 0 Y) : L_176_0 V g Y x Q := by
  by_cases h : ∃ p, p < S ∧ x = n32 p
  · obtain ⟨p, hp, rfl⟩ := h
    refine l_176_0 ⟨fun z => absurd z (n_ge0 (by omega)), fun _ => ⟨fun z => ?_, fun z => l_176_17 ⟨.inr rfl, H1 p hp rfl⟩⟩⟩
    rw [hS, n_le (by omega) (by omega)] at z
    omega
  · refine l_176_0 ⟨fun _ => l_176_16 (l_176_17 ⟨.inl rfl, H0 h⟩), fun z => ⟨fun _ => l_176_16 (l_176_17 ⟨.inl rfl, H0 h⟩), fun z2 => ?_⟩⟩
    rcases idx_not (by omega) h with y | y
    · exact absurd y z
    · rw [hS] at z2
      exact absurd y.2 z2
theorem s_109 {Q : Option xT → xW → Prop} {x : Int32} {P : Nat} (hP : fI Y (9, 0, 0) 1 = n32 P) (P24 : P ≤ 24) (hr : ∀ p, p < P → fR Y (9, 0, 0) 0 p = some (5, p, 0)) (H1 : ∀ p, p < P → x = n32 p → fI Y (5, p, 0) 8 = 1 → Q (some (5, p, 0)) Y) (H0 : ¬ (∃ p, p < P ∧ x = n32 p ∧ fI Y (5, p, 0) 8 = 1) → Q none Y) : L_109_0 V g Y x Q := by
  refine l_109_0 (s_108 hP P24 (fun p hp e => ?_) (fun h => ⟨fun _ => l_109_22 (l_109_23 (H0 (fun z => ?_))), fun u z => absurd z (by simp)⟩))
  · rw [hr p hp]
    refine ⟨fun z => absurd z (by simp), fun u z => ?_⟩
    cases z
    refine ⟨fun c => l_109_23 (H1 p hp e c), fun c => l_109_22 (l_109_23 (H0 (fun z => ?_)))⟩
    obtain ⟨p', h1, h2, h3⟩ := z
    have : p' = p := (n_eq (by omega) (by omega)).mp (h2.symm.trans e)
    rw [this] at h3
    exact c h3
  · obtain ⟨p', h1, h2, h3⟩ := z
    exact h ⟨p', h1, h2⟩
/-- 8: program(p, what) -/
theorem case_8 {x1 x2 : Int32} {Pr : Prop} {B : Int32 → Int32 → xW → Prop} {F : xW → Prop} (hi : Inv g Y) (hp : Pr) (H : ∀ x y Y', Inv g Y' → CT Y Y' → B x y Y') : L_189_0 V g Y x1 x2 (fun x42 Y41 => Pr ∧ L_164_0 V g Y41 x1 x2 (fun x44 Y43 => L_124_0 V g Y43 (fun x46 Y45 => ((x46 = x42) → ((x42 = 0) → vp_in 0 1 ∧ (((fL Y45 (12, 0, 0) 0 (Int32.toNatClampNeg 0)) = (Int32.toInt64 x44)) → B x42 x44 Y45) ∧ (¬ ((fL Y45 (12, 0, 0) 0 (Int32.toNatClampNeg 0)) = (Int32.toInt64 x44)) → F Y45)) ∧ (¬ (x42 = 0) → B x42 x44 Y45)) ∧ (¬ (x46 = x42) → F Y45)))) := by
  have hi' := hi
  obtain ⟨⟨P, N, I⟩, _⟩ := hi'
  have P24 := I.1.1
  have hP := I.2.1.2.1
  have hPm := I.2.1.1
  have thr : ¬ (∃ p, p < P ∧ x1 = n32 p) ∨ (x2.toInt < 0 ∨ 6 < x2.toInt) → ∀ Y41, Y41 = uT Y → Pr ∧ L_164_0 V g Y41 x1 x2 (fun x44 Y43 => L_124_0 V g Y43 (fun x46 Y45 => ((x46 = 1) → (((1 : Int32) = 0) → vp_in 0 1 ∧ (((fL Y45 (12, 0, 0) 0 (Int32.toNatClampNeg 0)) = (Int32.toInt64 x44)) → B 1 x44 Y45) ∧ (¬ ((fL Y45 (12, 0, 0) 0 (Int32.toNatClampNeg 0)) = (Int32.toInt64 x44)) → F Y45)) ∧ (¬ ((1 : Int32) = 0) → B 1 x44 Y45)) ∧ (¬ (x46 = 1) → F Y45))) := by
    intro h Y41 e
    subst e
    refine ⟨hp, l_164_0 (fun Y1 e1 => ?_)⟩
    subst e1
    have fin : L_125_0 V g (uI (uT Y) xM 2 0) (fun x44 Y43 => L_124_0 V g Y43 (fun x46 Y45 => ((x46 = 1) → (((1 : Int32) = 0) → vp_in 0 1 ∧ (((fL Y45 (12, 0, 0) 0 (Int32.toNatClampNeg 0)) = (Int32.toInt64 x44)) → B 1 x44 Y45) ∧ (¬ ((fL Y45 (12, 0, 0) 0 (Int32.toNatClampNeg 0)) = (Int32.toInt64 x44)) → F Y45)) ∧ (¬ ((1 : Int32) = 0) → B 1 x44 Y45)) ∧ (¬ (x46 = 1) → F Y45))) := by
      refine s_125 (tq (.inr ⟨rfl, rfl, H _ _ _ (Inv_q hi ⟨fun u k hu => ?_, fun _ _ _ => rfl, fun _ _ _ => .inl rfl, fun _ _ _ => rfl⟩) ?_⟩))
      · rw [fI_uI, if_neg hu, fI_uI, if_neg hu]
        rfl
      · show _ ≤ _ ∧ _ ≤ _
        exact ⟨by show (fC Y).2.1 + 1 ≤ _; omega, by show (fC Y).2.2 + 6 ≤ _; omega⟩
    have e3 : fI (uI (uT Y) (10, 0, 0) 2 0) (10, 0, 0) 3 = n32 P := hPm
    rw [e3]
    rcases h with h | h
    · rcases idx_not (show P < 2147483648 by omega) h with y | y
      · exact ⟨fun _ => l_164_17 fin, fun z => absurd y z⟩
      · refine ⟨fun _ => l_164_17 fin, fun _ => ⟨fun z => ?_, fun _ => l_164_17 fin⟩⟩
        have := y.2
        rw [i_le] at this
        rw [i_lt] at z
        omega
    · have no : ∀ {m : Int32} {R : Prop}, 0 ≤ m.toInt → m.toInt ≤ 6 → x2 = m → R := fun h1 h2 h3 => by rw [h3] at h; omega
      refine ⟨fun _ => l_164_17 fin, fun _ => ⟨fun _ => ⟨⟨no (by decide) (by decide), no (by decide) (by decide), no (by decide) (by decide), no (by decide) (by decide), no (by decide) (by decide), no (by decide) (by decide), no (by decide) (by decide)⟩, fun _ => fin⟩, fun _ => l_164_17 fin⟩⟩
  refine l_189_0 (l_96_0 (s_108 hP P24 (fun p hpP e => ?_) (fun h => ⟨fun _ => ⟨by decide +kernel, thr (.inl h) _ rfl⟩, fun u z => absurd z (by simp)⟩)))
  obtain ⟨k1, C, W, k4, k5, k6, k7, k8, k9⟩ := I.2.2.2.1 p hpP
  have f1 := W.2.1.2.1
  have f8 := W.2.1.2.2
  rw [k1]
  refine ⟨fun z => absurd z (by simp), fun u z => ?_⟩
  cases z
  have val : ∀ (v : Int32) (Y3 : xW), Y3 = uL Y (12, 0, 0) 0 (Int32.toNatClampNeg 0) (Int32.toInt64 v) → (∀ (Q : Int32 → xW → Prop) (Y1 : xW), Y1 = uI Y3 xM 2 0 → Q v Y1 → L_164_0 V g Y3 x1 x2 Q) → Pr ∧ L_164_0 V g Y3 x1 x2 (fun x44 Y43 => L_124_0 V g Y43 (fun x46 Y45 => ((x46 = 0) → (((0 : Int32) = 0) → vp_in 0 1 ∧ (((fL Y45 (12, 0, 0) 0 (Int32.toNatClampNeg 0)) = (Int32.toInt64 x44)) → B 0 x44 Y45) ∧ (¬ ((fL Y45 (12, 0, 0) 0 (Int32.toNatClampNeg 0)) = (Int32.toInt64 x44)) → F Y45)) ∧ (¬ ((0 : Int32) = 0) → B 0 x44 Y45)) ∧ (¬ (x46 = 0) → F Y45))) := by
    intro v Y3 e3 h
    refine ⟨hp, h _ _ rfl (tq (.inl ⟨rfl, rfl, ?_, H _ _ _ (Inv_q hi ⟨fun u k hu => ?_, fun _ _ _ => ?_, fun u k i => ?_, fun _ _ _ => ?_⟩) ?_⟩))⟩
    · rw [fL_uI, e3, fL_uL, if_pos ⟨rfl, rfl, rfl⟩]
    · rw [fI_uI, if_neg hu, e3]
      rfl
    · rw [fA_uI, e3]
      rfl
    · rw [fL_uI, e3, fL_uL]
      by_cases y : u = (12, 0, 0)
      · exact .inr y
      · rw [if_neg (fun z => y z.1)]
        exact .inl rfl
    · rw [fR_uI, e3]
      rfl
    · rw [e3]
      exact ⟨by show (fC Y).2.1 ≤ _; omega, by show (fC Y).2.2 ≤ _; omega⟩
  have mod : ∀ (Y3 : xW) (Q : Int32 → xW → Prop) (v : Int32), (∀ u k i, fA Y3 u k i = fA Y u k i) → fI Y3 xM 3 = n32 P → ((x2 = 0 ∧ v = fA Y xM 6 p) ∨ (x2 = 1 ∧ v = fA Y xM 7 p) ∨ (x2 = 2 ∧ v = fA Y xM 8 p) ∨ (x2 = 3 ∧ v = fA Y xM 9 p) ∨ (x2 = 4 ∧ v = fA Y xM 10 p) ∨ (x2 = 5 ∧ v = fA Y xM 11 p) ∨ (x2 = 6 ∧ v = fA Y xM 18 (8 * p + 0))) → ∀ Y1, Y1 = uI Y3 xM 2 0 → Q v Y1 → L_164_0 V g Y3 x1 x2 Q := by
    intro Y3 Q v hA h3 hv Y1 e1 HQ
    subst e1
    refine l_164_0 (fun Y1 e1 => ?_)
    subst e1
    have ip := n_in (show p < 24 by omega) (show 24 ≤ 2147483648 by omega)
    have a1 : ∀ k i, fA (uI Y3 (10, 0, 0) 2 0) (10, 0, 0) k i = fA Y xM k i := fun k i => hA xM k i
    have e3 : fI (uI Y3 (10, 0, 0) 2 0) (10, 0, 0) 3 = n32 P := h3
    rw [e, e3, n_lt (by omega) (by omega), n_nat (by omega), a1, a1, a1, a1, a1, a1]
    refine ⟨fun z => absurd z (n_ge0 (by omega)), fun _ => ⟨fun _ => ⟨⟨fun z => ⟨ip, ?_⟩, fun z => ⟨ip, ?_⟩, fun z => ⟨ip, ?_⟩, fun z => ⟨ip, ?_⟩, fun z => ⟨ip, ?_⟩, fun z => ⟨ip, ?_⟩, fun z => ⟨ip, ?_⟩⟩, fun z => ?_⟩, fun z => absurd hpP z⟩⟩
    · rcases hv with ⟨y, rfl⟩ | ⟨y, rfl⟩ | ⟨y, rfl⟩ | ⟨y, rfl⟩ | ⟨y, rfl⟩ | ⟨y, rfl⟩ | ⟨y, rfl⟩ <;> first | exact HQ | exact absurd (z.symm.trans y) (by decide)
    · rcases hv with ⟨y, rfl⟩ | ⟨y, rfl⟩ | ⟨y, rfl⟩ | ⟨y, rfl⟩ | ⟨y, rfl⟩ | ⟨y, rfl⟩ | ⟨y, rfl⟩ <;> first | exact absurd (z.symm.trans y) (by decide) | exact HQ
    · rcases hv with ⟨y, rfl⟩ | ⟨y, rfl⟩ | ⟨y, rfl⟩ | ⟨y, rfl⟩ | ⟨y, rfl⟩ | ⟨y, rfl⟩ | ⟨y, rfl⟩ <;> first | exact absurd (z.symm.trans y) (by decide) | exact HQ
    · rcases hv with ⟨y, rfl⟩ | ⟨y, rfl⟩ | ⟨y, rfl⟩ | ⟨y, rfl⟩ | ⟨y, rfl⟩ | ⟨y, rfl⟩ | ⟨y, rfl⟩ <;> first | exact absurd (z.symm.trans y) (by decide) | exact HQ
    · rcases hv with ⟨y, rfl⟩ | ⟨y, rfl⟩ | ⟨y, rfl⟩ | ⟨y, rfl⟩ | ⟨y, rfl⟩ | ⟨y, rfl⟩ | ⟨y, rfl⟩ <;> first | exact absurd (z.symm.trans y) (by decide) | exact HQ
    · rcases hv with ⟨y, rfl⟩ | ⟨y, rfl⟩ | ⟨y, rfl⟩ | ⟨y, rfl⟩ | ⟨y, rfl⟩ | ⟨y, rfl⟩ | ⟨y, rfl⟩ <;> first | exact absurd (z.symm.trans y) (by decide) | exact HQ
    · have ev : v = fA Y xM 18 (8 * p + 0) := by
        rcases hv with ⟨y, _⟩ | ⟨y, _⟩ | ⟨y, _⟩ | ⟨y, _⟩ | ⟨y, _⟩ | ⟨y, _⟩ | ⟨y, w⟩
        · exact absurd (z.symm.trans y) (by decide)
        · exact absurd (z.symm.trans y) (by decide)
        · exact absurd (z.symm.trans y) (by decide)
        · exact absurd (z.symm.trans y) (by decide)
        · exact absurd (z.symm.trans y) (by decide)
        · exact absurd (z.symm.trans y) (by decide)
        · exact w
      rw [ev] at HQ
      refine ⟨fun c => ?_, fun c => l_164_129 ?_⟩
      · rw [show (8 : Int32) * n32 p = n32 (8 * p + 0) from by rw [show (8 : Int32) = n32 8 from rfl, n_mul]; rfl, n_nat (by omega), a1]
        exact ⟨n_in (by omega) (by omega), l_164_129 HQ⟩
      · rw [k6 c 0 (by omega)] at HQ
        exact HQ
    · rcases hv with ⟨y, _⟩ | ⟨y, _⟩ | ⟨y, _⟩ | ⟨y, _⟩ | ⟨y, _⟩ | ⟨y, _⟩ | ⟨y, _⟩ <;> (rw [y] at z; exact absurd z (by decide))
  have ip0 := n_in (k := 0) (n := 1) (by omega) (by omega)
  have go : ∀ v, ((x2 = 0 ∧ v = fA Y xM 6 p) ∨ (x2 = 1 ∧ v = fA Y xM 7 p) ∨ (x2 = 2 ∧ v = fA Y xM 8 p) ∨ (x2 = 3 ∧ v = fA Y xM 9 p) ∨ (x2 = 4 ∧ v = fA Y xM 10 p) ∨ (x2 = 5 ∧ v = fA Y xM 11 p) ∨ (x2 = 6 ∧ v = fA Y xM 18 (8 * p + 0))) → ∀ Y3, Y3 = uL Y (12, 0, 0) 0 (Int32.toNatClampNeg 0) (Int32.toInt64 v) → Pr ∧ L_164_0 V g Y3 x1 x2 (fun x44 Y43 => L_124_0 V g Y43 (fun x46 Y45 => ((x46 = 0) → (((0 : Int32) = 0) → vp_in 0 1 ∧ (((fL Y45 (12, 0, 0) 0 (Int32.toNatClampNeg 0)) = (Int32.toInt64 x44)) → B 0 x44 Y45) ∧ (¬ ((fL Y45 (12, 0, 0) 0 (Int32.toNatClampNeg 0)) = (Int32.toInt64 x44)) → F Y45)) ∧ (¬ ((0 : Int32) = 0) → B 0 x44 Y45)) ∧ (¬ (x46 = 0) → F Y45))) := by
    intro v hv Y3 e3
    exact val v Y3 e3 (fun Q Y1 e1 HQ => mod Y3 Q v (fun u k i => by rw [e3]; rfl) (by rw [e3]; exact hPm) hv Y1 e1 HQ)
  refine ⟨⟨fun z => ⟨ip0, go _ (.inl ⟨z, C.1.2.2.2.2.1⟩)⟩, fun z => ⟨ip0, go _ (.inr (.inl ⟨z, C.1.1⟩))⟩, fun z => ⟨ip0, go _ (.inr (.inr (.inl ⟨z, C.1.2.1⟩)))⟩, fun z => ⟨ip0, go _ (.inr (.inr (.inr (.inl ⟨z, C.1.2.2.1⟩))))⟩, fun z => ⟨ip0, go _ (.inr (.inr (.inr (.inr (.inl ⟨z, C.1.2.2.2.1⟩)))))⟩, fun z => ⟨ip0, go _ (.inr (.inr (.inr (.inr (.inr (.inl ⟨z, C.1.2.2.2.2.2⟩))))))⟩, fun z => ?_⟩, fun z => ⟨by decide +kernel, thr (.inr z) _ rfl⟩⟩
  refine l_53_0 (s_45 (k := 0) (C.1.2.2.1.trans W.2.1.1) f8 (by omega) (fun _ => ?_) (fun y => absurd (by omega) y))
  obtain ⟨c1, c2, c3, c4⟩ := C.2.2.2.1 0 (by omega)
  rw [c1]
  refine ⟨fun y => absurd y (by simp), fun u y => ?_⟩
  cases y
  rw [c3]
  exact l_53_18 ⟨ip0, go _ (.inr (.inr (.inr (.inr (.inr (.inr ⟨z, rfl⟩))))))⟩
end QQ
