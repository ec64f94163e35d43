/-! tick and run -/
/-- only the reference's part may have changed -/
def KC (W W' : xW) : Prop := (∀ u k, u ≠ xM → fI W' u k = fI W u k) ∧ fI W' xM 2 = fI W xM 2 ∧ (∀ u k j, u ≠ xM → fA W' u k j = fA W u k j) ∧ (∀ u k j, u ≠ xM → fL W' u k j = fL W u k j) ∧ (∀ u k j, fR W' u k j = fR W u k j) ∧ fC W' = fC W
/-- only the class's part may have changed -/
def KM (Y Y' : xW) : Prop := (∀ k, fI Y' xM k = fI Y xM k) ∧ (∀ k j, fA Y' xM k j = fA Y xM k j) ∧ (∀ k j, fL Y' xM k j = fL Y xM k j) ∧ fC Y' = fC Y
section RU
variable {V : xV} {g : xG}
theorem KC_r (W : xW) : KC W W := ⟨fun _ _ _ => rfl, rfl, fun _ _ _ _ => rfl, fun _ _ _ _ => rfl, fun _ _ _ => rfl, rfl⟩
theorem KC_t {W W1 W2 : xW} (h1 : KC W W1) (h2 : KC W1 W2) : KC W W2 := ⟨fun u k h => (h2.1 u k h).trans (h1.1 u k h), h2.2.1.trans h1.2.1, fun u k j h => (h2.2.2.1 u k j h).trans (h1.2.2.1 u k j h), fun u k j h => (h2.2.2.2.1 u k j h).trans (h1.2.2.2.1 u k j h), fun u k j => (h2.2.2.2.2.1 u k j).trans (h1.2.2.2.2.1 u k j), h2.2.2.2.2.2.trans h1.2.2.2.2.2⟩
theorem KM_r (Y : xW) : KM Y Y := ⟨fun _ => rfl, fun _ _ => rfl, fun _ _ => rfl, rfl⟩
theorem KM_t {Y Y1 Y2 : xW} (h1 : KM Y Y1) (h2 : KM Y1 Y2) : KM Y Y2 := ⟨fun k => (h2.1 k).trans (h1.1 k), fun k j => (h2.2.1 k j).trans (h1.2.1 k j), fun k j => (h2.2.2.1 k j).trans (h1.2.2.1 k j), h2.2.2.2.trans h1.2.2.2⟩
theorem CE_r (Y : xW) : CE Y Y := ⟨fun _ _ _ => rfl, fun _ _ _ _ => rfl, fun _ _ _ _ => rfl, fun _ _ _ => rfl⟩
theorem CE_syn {Y' : xW} {I' : Nat → Int32} {F' : Nat → Nat → Int32} {L' : Nat → Nat → Int64} : CE Y' (syn Y' I' F' L') := ⟨fun u k h => (sy_i h k).symm, fun u k j h => (sy_a h k j).symm, fun u k j h => (sy_l h k j).symm, fun _ _ _ => rfl⟩
theorem MT_kc {W W' : xW} {I' : Nat → Int32} {F' : Nat → Nat → Int32} {L' : Nat → Nat → Int64} (h : MT W W' I' F' L') : KC W W' := ⟨h.1, h.2.2.1, h.2.2.2.1, h.2.2.2.2.2.1, h.2.2.2.2.2.2.2.1, h.2.2.2.2.2.2.2.2⟩
theorem MT_me {W W' Y' : xW} {I' : Nat → Int32} {F' : Nat → Nat → Int32} {L' : Nat → Nat → Int64} (h : MT W W' I' F' L') : ME W' (syn Y' I' F' L') := ⟨fun k hk => h.2.1 k hk, fun k j => h.2.2.2.2.1 k j, fun k j => h.2.2.2.2.2.2.1 k j⟩
theorem TX_km {Z Y Y' : xW} {K hd q i0 : Nat} (h : TX Z Y Y' K hd q i0) : KM Y Y' := ⟨fun k => h.1 _ _ (by simp) (by simp) (by simp) (by simp), fun k j => h.2.2.1 _ _ _ (by simp) (by simp), fun k j => by rw [h.2.2.2.2.2.1, if_neg (by simp)], h.2.2.2.2.2.2.2⟩
theorem TN_km {Z Y Y' : xW} {K hd hd' q : Nat} (h : TN Z Y Y' K hd hd' q) : KM Y Y' := ⟨fun k => h.1 _ _ (by simp) (by simp) (by simp), fun k j => h.2.2.1 _ _ _ (by simp) (by simp) (by simp), fun k j => by rw [h.2.2.2.2.2.2.1, if_neg (by simp)], h.2.2.2.2.2.2.2.2.1⟩
theorem q_m1 {q S : Nat} (hq : q < S) (S3 : S ≤ 300) : ¬ n32 q = -1 := by
  intro e
  have := congrArg Int32.toInt e
  rw [n_toInt (by omega), show (-1 : Int32).toInt = -1 from by decide] at this
  omega
/-- one tick of the class, and that the reference can follow -/
theorem tick {Y Z : xW} {P N S K hd : Nat} {Q : Int32 → xW → Prop} (I : IP g Z P N) (J : IQ g Z S K hd) (ce : CE Y Z) (H0 : K = 0 → Q (-1) Y) (H1 : ∀ q Y' Z' S' K' hd', 0 < K → q < S → IP g Z' P N → IQ g Z' S' K' hd' → CE Y' Z' → KM Y Y' → (∀ W QM, ME W Z → (∀ W', ME W' Z' → KC W W' → QM (n32 q) W') → L_171_0 V g W QM) → Q (n32 q) Y') : L_98_0 V g Y Q := by
  refine t_98 I J ce H0 (fun q i0 Y' hD e0 tx => ?_) (fun q i0 hd' Y' hD n0 tn => ?_)
  · obtain ⟨I', J'⟩ := syn_X I J ce hD tx
    refine H1 q Y' _ _ _ _ (by have := hD.2.1; omega) hD.1.1 I' J' CE_syn (TX_km tx) (fun W QM me hW => t_171 I J me hD (fun _ W' mt => hW W' (MT_me mt) (MT_kc mt)) (fun n0 => absurd e0 n0))
  · have hr : (@decide (rot Z q) (Classical.propDecidable _)) = true ↔ rot Z q := @decide_eq_true_iff (rot Z q) (Classical.propDecidable _)
    obtain ⟨I', J'⟩ := syn_N I J ce hD n0 tn hr
    refine H1 q Y' _ _ _ _ (by have := hD.2.1; omega) hD.1.1 I' J' CE_syn (TN_km tn) (fun W QM me hW => t_171 I J me hD (fun e0 => absurd e0 n0) (fun _ W' rb hb mt => ?_))
    have e : rb = @decide (rot Z q) (Classical.propDecidable _) := by
      have hh := hb.trans hr.symm
      cases rb
      · cases hd2 : @decide (rot Z q) (Classical.propDecidable _)
        · rfl
        · rw [hd2] at hh
          exact absurd (hh.mpr rfl) (by decide)
      · exact (hh.mp rfl).symm
    rw [e] at mt
    exact hW W' (MT_me mt) (MT_kc mt)
/-- what the two leave, together -/
theorem Inv_join {Y1 Z1 W W' : xW} (hz : Inv g Z1) (ce : CE Y1 Z1) (me : ME W' Z1) (kc : KC W W') (w1 : ∀ u k, u ≠ xM → fI W u k = fI Y1 u k) (w2 : ∀ u k j, u ≠ xM → fA W u k j = fA Y1 u k j) (w3 : ∀ u k j, u ≠ xM → fL W u k j = fL Y1 u k j ∨ u = (12, 0, 0)) (w4 : ∀ u k j, fR W u k j = fR Y1 u k j) : Inv g W' := by
  refine Inv_q hz ⟨fun u k hu => ?_, fun u k j => ?_, fun u k j => ?_, fun u k j => ?_⟩
  · by_cases e : u = xM
    · rw [e] at hu ⊢
      exact me.1 k (fun z => hu ⟨rfl, z⟩)
    · exact (kc.1 u k e).trans ((w1 u k e).trans (ce.1 u k e))
  · by_cases e : u = xM
    · rw [e]
      exact me.2.1 k j
    · exact (kc.2.2.1 u k j e).trans ((w2 u k j e).trans (ce.2.1 u k j e))
  · by_cases e : u = xM
    · rw [e]
      exact .inl (me.2.2 k j)
    · rcases w3 u k j e with h | h
      · exact .inl ((kc.2.2.2.1 u k j e).trans (h.trans (ce.2.2.1 u k j e)))
      · exact .inr h
  · exact (kc.2.2.2.2.1 u k j).trans ((w4 u k j).trans (ce.2.2.2 u k j))
/-- 10: tick -/
theorem case_10 {Y : xW} {B F : xW → Prop} (hi : Inv g Y) (H : ∀ Y', Inv g Y' → CT Y Y' → B Y') : L_98_0 V g Y (fun x54 Y53 => L_172_0 V g Y53 (fun x56 Y55 => ((x54 = x56) → B Y55) ∧ (¬ (x54 = x56) → F Y55))) := by
  have hi' := hi
  obtain ⟨⟨P, N, I⟩, S, K, hd, J⟩ := hi'
  have S3 := J.1.1
  refine tick I J (CE_r Y) (fun k0 => l_172_0 (fun Y1 e1 => l_171_0 ⟨fun _ => ⟨fun _ => ?_, fun z => absurd rfl z⟩, fun z => absurd ?_ z⟩)) (fun q Y' Z' S' K' hd' kp hq I' J' ce km reach => l_172_0 (fun Y1 e1 => reach Y1 _ ⟨fun k hk => ?_, fun k j => ?_, fun k j => ?_⟩ (fun W' me kc => ⟨fun _ => H W' ?_ ?_, fun z => absurd rfl z⟩)))
  · rw [e1]
    exact H _ (Inv_c0 hi).1 (Inv_c0 hi).2
  · rw [e1, fI_uI, if_neg (by simp), J.2.1.2.2.1, k0]
    rfl
  · rw [e1, fI_uI, if_neg (fun z => hk z.2)]
    exact km.1 k
  · rw [e1, fA_uI]
    exact km.2.1 k j
  · rw [e1, fL_uI]
    exact km.2.2.1 k j
  · refine Inv_join (Y1 := Y') (W := Y1) ⟨⟨P, N, I'⟩, S', K', hd', J'⟩ ce me kc (fun u k h => ?_) (fun u k j h => ?_) (fun u k j h => .inl ?_) (fun u k j => ?_)
    · rw [e1, fI_uI, if_neg (fun z => h z.1)]
    · rw [e1]; rfl
    · rw [e1]; rfl
    · rw [e1]; rfl
  · have ec : fC W' = fC Y := by rw [kc.2.2.2.2.2, e1, fC_uI]; exact km.2.2.2
    exact ⟨by rw [ec]; omega, by rw [ec]; omega⟩
theorem runC {Y0 : xW} {n P N : Nat} {Q : Int32 → xW → Prop} {E : Nat → xW → Prop} (hn : n ≤ 5000)
    (FIN : ∀ j Y1 Z1 S K hd, IP g Z1 P N → IQ g Z1 S K hd → CE Y1 Z1 → KM Y0 Y1 → (∀ W QM, ME W Y0 → (∀ W', ME W' Z1 → KC W W' → QM (n32 j) W') → L_173_23 V g W (n32 n) 0 QM) → Q (n32 j) Y1) :
    ∀ m k Y Z S K hd, k + m = n → IP g Z P N → IQ g Z S K hd → CE Y Z → KM Y0 Y → (∀ W QM, ME W Y0 → (∀ W', ME W' Z → KC W W' → L_173_23 V g W' (n32 n) (n32 k) QM) → L_173_23 V g W (n32 n) 0 QM) → L_99_23 V g Y (n32 n) (n32 k) Q E := by
  intro m
  induction m with
  | zero =>
    intro k Y Z S K hd e I J ce km reach
    have e' : k = n := by omega
    subst e'
    refine l_99_23 ⟨fun _ => FIN k Y Z S K hd I J ce km (fun W QM me hW => reach W QM me (fun W' me' kc => l_173_23 ⟨fun _ => l_173_46 (hW W' me' kc), fun z => absurd ?_ z⟩)), fun z => absurd ?_ z⟩
    · exact (n_le (by omega) (by omega)).mpr (Nat.le_refl _)
    · exact (n_le (by omega) (by omega)).mpr (Nat.le_refl _)
  | succ m ih =>
    intro k Y Z S K hd e I J ce km reach
    have lt : ¬ n32 n ≤ n32 k := fun z => by
      have := (n_le (by omega) (by omega)).mp z
      omega
    have S3 := J.1.1
    have K40 := J.1.2.1
    refine l_99_23 ⟨fun z => absurd z lt, fun _ => tick I J ce (fun k0 => ⟨fun _ => ?_, fun z => absurd rfl z⟩) (fun q Y' Z' S' K' hd' kp hq I' J' ce' km' step => ⟨fun z => absurd z (q_m1 hq S3), fun _ => ?_⟩)⟩
    · refine FIN k Y Z S K hd I J ce km (fun W QM me hW => reach W QM me (fun W' me' kc => l_173_23 ⟨fun z => absurd z lt, fun _ => ⟨fun _ => l_173_46 (hW W' me' kc), fun z => absurd ?_ z⟩⟩))
      rw [me'.1 32 (by omega), J.2.1.2.2.1, k0]
      decide
    · rw [show n32 k + 1 = n32 (k + 1) from n_add k 1]
      refine ih (k + 1) Y' Z' S' K' hd' (by omega) I' J' ce' (KM_t km km') (fun W QM me hW => reach W QM me (fun W' me' kc => l_173_23 ⟨fun z => absurd z lt, fun _ => ⟨fun z => ?_, fun _ => step W' _ me' (fun W2 me2 kc2 => ?_)⟩⟩))
      · rw [me'.1 32 (by omega), J.2.1.2.2.1] at z
        have := (n_le (b := 0) (by omega) (by omega)).mp z
        omega
      · rw [show n32 k + 1 = n32 (k + 1) from n_add k 1]
        exact hW W2 me2 (KC_t kc kc2)
/-- 11: run -/
theorem case_11 {Y : xW} {x1 : Int32} {Pr : Prop} {B : Int32 → Int32 → xW → Prop} {F : xW → Prop} (hi : Inv g Y) (hp : Pr) (H : ∀ x y Y', Inv g Y' → CT Y Y' → B x y Y') : L_190_0 V g Y x1 (fun x42 Y41 => Pr ∧ L_173_0 V g Y41 x1 (fun x44 Y43 => tqK V g B F x42 x44 Y43)) := by
  have hi' := hi
  obtain ⟨⟨P, N, I⟩, S, K, hd, J⟩ := hi'
  have ip0 := n_in (k := 0) (n := 1) (by omega) (by omega)
  have t5 : (5000 : Int32).toInt = 5000 := rfl
  by_cases h : 0 ≤ x1.toInt ∧ x1.toInt ≤ 5000
  · have ex : x1 = n32 x1.toNatClampNeg := n_of h.1
    have en : x1.toNatClampNeg ≤ 5000 := by rw [i_cl]; omega
    generalize x1.toNatClampNeg = n at ex en
    subst ex
    have le5 : n32 n ≤ 5000 := (n_le (b := 5000) (by omega) (by omega)).mpr en
    refine l_190_0 (l_99_0 ⟨fun z => absurd z (n_ge0 (by omega)), fun _ => ⟨fun _ => ?_, fun z => absurd le5 z⟩⟩)
    refine runC (Y0 := Y) (P := P) (N := N) en (fun j Y1 Z1 S1 K1 hd1 I1 J1 ce km reach => ⟨ip0, fun Y3 e3 => ⟨hp, l_173_0 (fun Y4 e4 => ⟨fun z => absurd z (n_ge0 (by omega)), fun _ => ⟨fun _ => ?_, fun z => absurd le5 z⟩⟩)⟩⟩) n 0 Y Y S K hd (by omega) I J (CE_r Y) (KM_r Y) (fun W QM me hW => hW W me (KC_r W))
    have f4 : ∀ u k j, fA Y4 u k j = fA Y1 u k j := fun u k j => by rw [e4, e3]; rfl
    have i4 : ∀ u k, ¬ (u = xM ∧ k = 2) → fI Y4 u k = fI Y1 u k := fun u k h => by rw [e4, fI_uI, if_neg h, e3]; rfl
    have l4 : ∀ u k j, ¬ u = (12, 0, 0) → fL Y4 u k j = fL Y1 u k j := fun u k j h => by rw [e4, fL_uI, e3, fL_uL, if_neg (fun z => h z.1)]
    refine reach Y4 _ ⟨fun k hk => (i4 _ _ (fun z => hk z.2)).trans (km.1 k), fun k j => (f4 _ _ _).trans (km.2.1 k j), fun k j => (l4 _ _ _ (by simp)).trans (km.2.2.1 k j)⟩ (fun W' me kc => tq (.inl ⟨rfl, ?_, ?_, H _ _ W' ?_ ?_⟩))
    · rw [kc.2.1, e4, fI_uI, if_pos ⟨rfl, rfl⟩]
    · rw [kc.2.2.2.1 _ _ _ (by simp), e4, fL_uI, e3, fL_uL, if_pos ⟨rfl, rfl, rfl⟩]
    · refine Inv_join (Y1 := Y1) (W := Y4) ⟨⟨P, N, I1⟩, S1, K1, hd1, J1⟩ ce me kc (fun u k h => i4 u k (fun z => h z.1)) (fun u k j _ => f4 u k j) (fun u k j _ => ?_) (fun u k j => by rw [e4, e3]; rfl)
      by_cases y : u = (12, 0, 0)
      · exact .inr y
      · exact .inl (l4 u k j y)
    · have ec : fC W' = fC Y := by rw [kc.2.2.2.2.2, e4, fC_uI, e3, fC_uL]; exact km.2.2.2
      exact ⟨by rw [ec]; omega, by rw [ec]; omega⟩
  · have thr : Pr ∧ L_173_0 V g (uT Y) x1 (fun x44 Y43 => tqK V g B F 1 x44 Y43) := by
      refine ⟨hp, l_173_0 (fun Y1 e1 => ?_)⟩
      subst e1
      have fin : L_173_16 V g (uI (uT Y) xM 2 0) x1 (fun x44 Y43 => tqK V g B F 1 x44 Y43) := l_173_16 (s_125 (k_thr hi H))
      refine ⟨fun _ => fin, fun z => ⟨fun z2 => ?_, fun _ => fin⟩⟩
      rw [i_lt, t0] at z
      rw [i_le, t5] at z2
      omega
    refine l_190_0 (l_99_0 ⟨fun _ => l_99_11 ⟨by decide +kernel, thr⟩, fun z => ⟨fun z2 => ?_, fun _ => l_99_11 ⟨by decide +kernel, thr⟩⟩⟩)
    rw [i_lt, t0] at z
    rw [i_le, t5] at z2
    omega
end RU
