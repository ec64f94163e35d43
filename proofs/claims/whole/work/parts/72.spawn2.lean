/-! spawn: the case -/
section SQ
variable {V : xV} {g : xG} {Y : xW}
/-- the reference marks a stretch -/
theorem s_165_m {Q : Int32 → xW → Prop} {x1 l4 : Int32} {n b : Nat} (h4 : b + n ≤ 4096) (H : ∀ Y', (∀ u k, fI Y' u k = fI Y u k) → (∀ u k j, fA Y' u k j = if u = xM ∧ k = 51 ∧ b ≤ j ∧ j < b + n then 1 else if u = xM ∧ k = 50 ∧ b ≤ j ∧ j < b + n then 0 else fA Y u k j) → (∀ u k j, fL Y' u k j = fL Y u k j) → (∀ u k j, fR Y' u k j = fR Y u k j) → fC Y' = fC Y → L_165_133 V g Y' x1 (n32 n) (n32 b) l4 (n32 (b + n)) Q) : L_165_133 V g Y x1 (n32 n) (n32 b) l4 (n32 b) Q := by
  have lp : ∀ m t (Y1 : xW), t + m = n → (∀ u k, fI Y1 u k = fI Y u k) → (∀ u k j, fA Y1 u k j = if u = xM ∧ k = 51 ∧ b ≤ j ∧ j < b + t then 1 else if u = xM ∧ k = 50 ∧ b ≤ j ∧ j < b + t then 0 else fA Y u k j) → (∀ u k j, fL Y1 u k j = fL Y u k j) → (∀ u k j, fR Y1 u k j = fR Y u k j) → fC Y1 = fC Y → L_165_133 V g Y1 x1 (n32 n) (n32 b) l4 (n32 (b + t)) Q := by
    intro m
    induction m with
    | zero =>
      intro t Y1 e q1 q2 q3 q4 q5
      have e' : t = n := by omega
      subst e'
      exact H Y1 q1 q2 q3 q4 q5
    | succ m ih =>
      intro t Y1 e q1 q2 q3 q4 q5
      refine l_165_133 ⟨fun z => ?_, fun _ => ?_⟩
      · rw [n_add, n_le (by omega) (by omega)] at z
        omega
      · rw [n_nat (by omega), show n32 (b + t) + 1 = n32 (b + (t + 1)) from n_add _ 1]
        refine ⟨n_in (by omega) (by omega), fun Y8 e8 => ⟨n_in (by omega) (by omega), fun Y9 e9 => ih (t + 1) Y9 (by omega) (fun u k => by rw [e9, e8]; exact q1 u k) (fun u k j => ?_) (fun u k j => by rw [e9, e8]; exact q3 u k j) (fun u k j => by rw [e9, e8]; exact q4 u k j) (by rw [e9, e8]; exact q5)⟩⟩
        rw [e9, fA_uA, e8, fA_uA, q2]
        by_cases c : u = xM ∧ k = 50 ∧ j = b + t
        · rw [if_pos c, if_neg (c := u = xM ∧ k = 51 ∧ b ≤ j ∧ j < b + (t + 1)) (fun z => by omega), if_pos ⟨c.1, c.2.1, by omega, by omega⟩]
        · rw [if_neg c]
          by_cases c2 : u = xM ∧ k = 51 ∧ j = b + t
          · rw [if_pos c2, if_pos ⟨c2.1, c2.2.1, by omega, by omega⟩]
            rfl
          · rw [if_neg c2]
            by_cases c3 : u = xM ∧ k = 51 ∧ b ≤ j ∧ j < b + t
            · rw [if_pos c3, if_pos ⟨c3.1, c3.2.1, c3.2.2.1, by omega⟩]
            · rw [if_neg c3, if_neg (c := u = xM ∧ k = 51 ∧ b ≤ j ∧ j < b + (t + 1)) (fun z => by
                by_cases w : j = b + t
                · exact c2 ⟨z.1, z.2.1, w⟩
                · exact c3 ⟨z.1, z.2.1, z.2.2.1, by omega⟩)]
              by_cases c4 : u = xM ∧ k = 50 ∧ b ≤ j ∧ j < b + t
              · rw [if_pos c4, if_pos ⟨c4.1, c4.2.1, c4.2.2.1, by omega⟩]
              · rw [if_neg c4, if_neg (fun z => by
                  by_cases w : j = b + t
                  · exact c ⟨z.1, z.2.1, w⟩
                  · exact c4 ⟨z.1, z.2.1, z.2.2.1, by omega⟩)]
  exact lp n 0 Y (by omega) (fun _ _ => rfl) (fun u k j => by rw [if_neg (fun z => by omega), if_neg (fun z => by omega)]) (fun _ _ _ => rfl) (fun _ _ _ => rfl) rfl
/-- 9: spawn -/
theorem case_9 {x1 x2 : Int32} {Pr : Prop} {B F : xG → xW → Prop} (hi : Inv g Y) (hz : XZ g Y) (hp : Pr) (H : ∀ g' Y', Inv g' Y' → CT Y Y' → B g' Y') : L_97_0 V g Y x1 x2 (fun x48 g49 Y47 => Pr ∧ L_165_0 V g49 Y47 x1 x2 (fun x52 Y51 => ((x48 = x52) → B g49 Y51) ∧ (¬ (x48 = x52) → F g49 Y51))) := by
  have hi' := hi
  obtain ⟨⟨P, N, I⟩, S, K, hd, J⟩ := hi'
  obtain ⟨⟨P24, N2⟩, ⟨m3, y1, m4, y3⟩, hop, hPP, hFP, hC⟩ := id I
  obtain ⟨S3, K40, h40⟩ := J.1
  obtain ⟨b1, b2, b3, b4, b5, b6, b7, b8⟩ := J.2.1
  have st := J.2.2.2.2.2.2.1
  have i0 := Inv_c0 hi
  have fin : ∀ v : Int32, (v = v → B g (uI Y xM 2 0)) ∧ (¬ v = v → F g (uI Y xM 2 0)) := fun v => ⟨fun _ => H _ _ i0.1 i0.2, fun z => absurd rfl z⟩
  have hrP : ∀ p, p < P → fR Y (9, 0, 0) 0 p = some (5, p, 0) := fun p h => (hPP p h).1
  -- the reference, where nothing is made
  have m1 : ¬ (∃ p, p < P ∧ x1 = n32 p ∧ fA Y xM 6 p = 1) → Pr ∧ L_165_0 V g Y x1 x2 (fun x52 Y51 => (((-1 : Int32) = x52) → B g Y51) ∧ (¬ ((-1 : Int32) = x52) → F g Y51)) := by
    intro h
    refine ⟨hp, l_165_0 (fun Y1 e1 => ?_)⟩
    subst e1
    have f0 : L_165_27 V g (uI Y (10, 0, 0) 2 0) x1 x2 (fun x52 Y51 => (((-1 : Int32) = x52) → B g Y51) ∧ (¬ ((-1 : Int32) = x52) → F g Y51)) := l_165_27 (fin (-1))
    have e3 : fI (uI Y (10, 0, 0) 2 0) (10, 0, 0) 3 = n32 P := m3
    rw [e3]
    refine ⟨fun _ => f0, fun z1 => ⟨fun _ => f0, fun z2 => ?_⟩⟩
    rcases n_cases x1 with y | ⟨p, hp1, rfl⟩
    · exact absurd (by rw [i_lt, t0]; exact y) z1
    · have hpP : p < P := by
        have := mt (n_le (by omega) hp1).mpr z2
        omega
      rw [n_nat hp1]
      exact ⟨n_in (by omega) (by omega), fun c => absurd ⟨p, hpP, rfl, c⟩ h, fun _ => f0⟩
  refine l_97_0 (s_109 y1 P24 hrP (fun p hpP e c => ⟨fun z => absurd z (by simp), fun u z => ?_⟩) (fun h => ⟨fun _ => m1 (fun z => ?_), fun u z => absurd z (by simp)⟩))
  · cases z
    have PPp := hPP p hpP
    have W := PPp.2.2.1
    have C := PPp.2.1
    have nn1 := W.2.2.2.1.2.1
    have nn2 := W.2.2.2.1.2.2
    have p6 : fA Y xM 6 p = 1 := C.1.2.2.2.2.1.symm.trans c
    -- the reference up to its search
    have m2 : ∀ (gx : xG) (Yx : xW) (Q : Int32 → xW → Prop), fI Yx xM 3 = n32 P → (∀ k j, fA Yx xM k j = fA Y xM k j) → (n32 (nN (fA Y xM) p) ≤ x2 → L_165_50 V gx (uI Yx xM 2 0) x1 x2 (-1) 0 0 Q) → (¬ n32 (nN (fA Y xM) p) ≤ x2 → Q (-2) (uI Yx xM 2 0)) → L_165_0 V gx Yx x1 x2 Q := by
      intro gx Yx Q h3 hA h1 h2
      refine l_165_0 (fun Y1 e1 => ?_)
      subst e1
      have e3 : fI (uI Yx (10, 0, 0) 2 0) (10, 0, 0) 3 = n32 P := h3
      have ea : ∀ k j, fA (uI Yx (10, 0, 0) 2 0) (10, 0, 0) k j = fA Y xM k j := fun k j => hA k j
      rw [e3, e, n_nat (by omega), ea, ea, W.2.2.2.1.1, n_le (by omega) (by omega)]
      rw [e] at h1
      exact ⟨fun z => absurd z (n_ge0 (by omega)), fun _ => ⟨fun z => absurd z (by omega), fun _ => ⟨n_in (by omega) (by omega), fun _ => ⟨n_in (by omega) (by omega), h1, h2⟩, fun z => absurd p6 z⟩⟩⟩
    rw [C.1.1, W.2.2.2.1.1]
    refine ⟨fun c2 => ?_, fun c2 => ⟨hp, m2 g Y _ m3 (fun _ _ => rfl) (fun z => absurd z c2) (fun _ => fin (-2))⟩⟩
    rcases n_cases x2 with y | ⟨n, hn, rfl⟩
    · rw [i_le, n_toInt (by omega)] at c2
      omega
    have hnn : nN (fA Y xM) p ≤ n := (n_le (by omega) hn).mp c2
    have n1 : 1 ≤ n := by omega
    refine s_69 st K40 hn (fun i hiK hgap hmin => ?_) (fun h0 => ⟨fun _ => ⟨hp, m2 g Y _ m3 (fun _ _ => rfl) (fun _ => s_165_s (Y := Y) (Yx := uI Y xM 2 0) (fun _ => rfl) st K40 n1 hn (fun i hiK hg hm a b => absurd (h0 i hiK) (by omega)) (fun _ a b => l_165_101 ⟨fun z => absurd z (by decide), fun _ => fin (-3)⟩)) (fun z => absurd c2 z)⟩, fun z => absurd rfl z⟩)
    obtain ⟨gn1, gn2, gn3⟩ := gap_no st hiK n1 hgap
    have uq : ∀ i', i' ≤ K → n ≤ gE Y K i' - gB Y i' → (∀ j, j < i' → gE Y K j - gB Y j < n) → i' = i := by
      intro i' h1 h2 h3
      apply Classical.byContradiction
      intro z
      by_cases y : i' < i
      · have := hmin i' y
        omega
      · have := h3 i (by omega)
        omega
    have ge0 : 0 ≤ n32 (gB Y i) := by rw [i_le, t0, n_toInt (by omega)]; omega
    refine ⟨fun z => ?_, fun _ => ?_⟩
    · rw [z] at ge0
      exact absurd ge0 (by decide)
    rw [b4, b2]
    have m4' : ¬ (K < 40 ∧ S < 300) → Pr ∧ L_165_0 V g Y x1 (n32 n) (fun x52 Y51 => (((-4 : Int32) = x52) → B g Y51) ∧ (¬ ((-4 : Int32) = x52) → F g Y51)) := by
      intro h
      refine ⟨hp, m2 g Y _ m3 (fun _ _ => rfl) (fun _ => s_165_s (Y := Y) (Yx := uI Y xM 2 0) (fun _ => rfl) st K40 n1 hn (fun i' h1 h2 h3 a b => ?_) (fun h0 a b => absurd (h0 i hiK) (by omega))) (fun z => absurd c2 z)⟩
      have e32 : fI (uI Y xM 2 0) (10, 0, 0) 32 = n32 K := b3
      have e31 : fI (uI Y xM 2 0) (10, 0, 0) 31 = n32 S := b1
      have ei := uq i' h1 h2 h3
      subst ei
      refine l_165_101 ⟨fun _ => ?_, fun z => absurd ge0 z⟩
      rw [e32, e31]
      refine ⟨fun _ => l_165_127 (fin (-4)), fun z1 => ⟨fun _ => l_165_127 (fin (-4)), fun z2 => absurd ⟨?_, ?_⟩ h⟩⟩
      · have : K ≠ 40 := fun y => z1 (by rw [y]; rfl)
        omega
      · have : S ≠ 300 := fun y => z2 (by rw [y]; rfl)
        omega
    refine ⟨fun z => l_97_64 (m4' (fun y => ?_)), fun z => ⟨fun z2 => ?_, fun z2 => l_97_64 (m4' (fun y => z2 ((n_lt (b := 300) (by omega) (by omega)).mpr y.2)))⟩⟩
    · have := (n_le (a := 40) (by omega) (by omega)).mp z
      omega
    have K3 : K < 40 := by
      have := mt (n_le (a := 40) (by omega) (by omega)).mpr z
      omega
    have S3' : S < 300 := (n_lt (b := 300) (by omega) (by omega)).mp z2
    have f0 := (J.2.2.2.2.2.1 S (Nat.le_refl _) S3').1
    refine s_73 st K3 hiK n1 hgap (fun Y6 t1 t2 t3 t4 t5 t6 t7 t8 t9 => ⟨S, f0, fun g9 Y11 _ hiff e11 => ?_⟩)
    have i6 : fI Y6 (9, 0, 0) 6 = n32 S := (t1 _ _ (by simp)).trans b2
    rw [i6, n_nat (by omega)]
    refine ⟨n_in S3' (by omega), fun Y12 e12 => ?_⟩
    have rI12 : ∀ u k, fI Y12 u k = if u = (4, S, 0) ∧ k = 7 then n32 (gB Y i) else if u = (4, S, 0) ∧ k = 5 then x1 else if u = (4, S, 0) ∧ k = 1 then n32 n else if u = (4, S, 0) ∧ k = 0 then x1 else fI Y6 u k := fun u k => by rw [e12, fI_uR, e11, fI_uI, fI_uI, fI_uI, fI_uI, fI_uC]
    have i12 : fI Y12 (9, 0, 0) 6 = n32 S := by rw [rI12, if_neg (by simp), if_neg (by simp), if_neg (by simp), if_neg (by simp)]; exact i6
    have q12 : fI Y12 (6, 0, 0) 2 = n32 K := by rw [rI12, if_neg (by simp), if_neg (by simp), if_neg (by simp), if_neg (by simp), t1 _ _ (by simp)]; exact b4
    have h12 : fI Y12 (6, 0, 0) 1 = n32 hd := by rw [rI12, if_neg (by simp), if_neg (by simp), if_neg (by simp), if_neg (by simp), t1 _ _ (by simp)]; exact b5
    rw [i12]
    refine l_61_0 ?_
    rw [q12]
    have mm : (hd + K) % 40 < 40 := Nat.mod_lt _ (by omega)
    refine ⟨fun z3 => absurd z3 z, fun _ => s_58 h12 h40 (by omega) ⟨n_in mm (by omega), fun Y3 e3 Y4 e4 => l_61_33 (fun Y14 e14 => ?_)⟩⟩
    rw [n_nat (by omega)] at e3
    have q3 : fI Y3 (6, 0, 0) 2 = n32 K := by rw [e3]; exact q12
    rw [q3, show n32 K + 1 = n32 (K + 1) from n_add K 1] at e4
    have i4 : fI Y4 (9, 0, 0) 6 = n32 S := by rw [e4, fI_uI, if_neg (by simp), e3]; exact i12
    rw [i4, show n32 S + 1 = n32 (S + 1) from n_add S 1] at e14
    have i14 : fI Y14 (9, 0, 0) 6 = n32 (S + 1) := by rw [e14, fI_uI, if_pos ⟨rfl, rfl⟩]
    rw [i14, show n32 (S + 1) - 1 = n32 S from n_sub (b := 1) (by omega)]
    -- reads of the class's state
    have cI : ∀ u k, fI Y14 u k = if u = (9, 0, 0) ∧ k = 6 then n32 (S + 1) else if u = (6, 0, 0) ∧ k = 2 then n32 (K + 1) else if u = (4, S, 0) ∧ k = 7 then n32 (gB Y i) else if u = (4, S, 0) ∧ k = 5 then x1 else if u = (4, S, 0) ∧ k = 1 then n32 n else if u = (4, S, 0) ∧ k = 0 then x1 else fI Y6 u k := fun u k => by rw [e14, fI_uI, e4, fI_uI, e3, fI_uA, rI12]
    have cA : ∀ u k j, fA Y14 u k j = if u = (6, 0, 0) ∧ k = 0 ∧ j = (hd + K) % 40 then n32 S else fA Y6 u k j := fun u k j => by rw [e14, fA_uI, e4, fA_uI, e3, fA_uA, e12, fA_uR, e11]; rfl
    have cL : ∀ u k j, fL Y14 u k j = fL Y u k j := fun u k j => by rw [e14, e4, e3, e12, e11]; exact t7 u k j
    have cR : ∀ u k j, fR Y14 u k j = if u = (9, 0, 0) ∧ k = 5 ∧ j = S then some (4, S, 0) else fR Y u k j := fun u k j => by
      rw [e14, fR_uI, e4, fR_uI, e3, fR_uA, e12, fR_uR, e11]
      by_cases y : u = (9, 0, 0) ∧ k = 5 ∧ j = S
      · rw [if_pos y, if_pos y]
      · rw [if_neg y, if_neg y]
        exact t8 u k j
    have cC : CT Y Y14 := by
      have eC : fC Y14 = ((fC Y6).1 + 3, (fC Y6).2.1 + 1 + 1 + 1, (fC Y6).2.2 + 12 + 8 + 40) := by rw [e14, e4, e3, e12, e11]; rfl
      unfold CT
      rw [eC, t9]
      exact ⟨by show (fC Y).2.1 + 1 + 1 + 1 ≤ _; omega, by show (fC Y).2.2 + 12 + 8 + 40 ≤ _; omega⟩
    have cM : ∀ k j, fA Y14 xM k j = fA Y xM k j := fun k j => by rw [cA, if_neg (by simp)]; exact t3 _ _ _ (by simp)
    have cX : ∀ k, fI Y14 xM k = fI Y xM k := fun k => by rw [cI, if_neg (by simp), if_neg (by simp), if_neg (by simp), if_neg (by simp), if_neg (by simp), if_neg (by simp)]; exact t1 _ _ (by simp)
    refine ⟨hp, m2 g9 Y14 _ ((cX 3).trans m3) cM (fun _ => s_165_s (Y := Y) (Yx := uI Y14 xM 2 0) (fun k => cM 51 k) st K40 n1 hn (fun i' h1 h2 h3 a b => ?_) (fun h0 a b => absurd (h0 i hiK) (by omega))) (fun z => absurd c2 z)⟩
    have ei := uq i' h1 h2 h3
    subst ei
    have e32 : fI (uI Y14 xM 2 0) (10, 0, 0) 32 = n32 K := (cX 32).trans b3
    have e31 : fI (uI Y14 xM 2 0) (10, 0, 0) 31 = n32 S := (cX 31).trans b1
    refine l_165_101 ⟨fun _ => ?_, fun z => absurd ge0 z⟩
    rw [e32, e31]
    refine ⟨fun z => ?_, fun _ => ⟨fun z => ?_, fun _ => s_165_m gn3 (fun Ym v1 v2 v3 v4 v5 => ?_)⟩⟩
    · have := (n_eq (b := 40) (by omega) (by omega)).mp z
      omega
    · have := (n_eq (b := 300) (by omega) (by omega)).mp z
      omega
    have f31 : fI Ym (10, 0, 0) 31 = n32 S := (v1 _ _).trans e31
    have f32 : fI Ym (10, 0, 0) 32 = n32 K := (v1 _ _).trans e32
    refine l_165_133 ⟨fun _ => ?_, fun z => absurd ?_ z⟩
    · have iS := n_in S3' (show 300 ≤ 2147483648 by omega)
      rw [f31, n_nat (by omega)]
      refine ⟨iS, fun Z1 h1' => ?_⟩
      have w1 : fI Z1 (10, 0, 0) 31 = n32 S := by rw [h1']; exact f31
      rw [w1, n_nat (by omega)]
      refine ⟨iS, fun Z2 h2' => ?_⟩
      have w2 : fI Z2 (10, 0, 0) 31 = n32 S := by rw [h2']; exact w1
      rw [w2, n_nat (by omega)]
      refine ⟨iS, fun Z3 h3' => ?_⟩
      have w3 : fI Z3 (10, 0, 0) 31 = n32 S := by rw [h3']; exact w2
      rw [w3, n_nat (by omega)]
      refine ⟨iS, fun Z4 h4' => ?_⟩
      have w4 : fI Z4 (10, 0, 0) 31 = n32 S := by rw [h4']; exact w3
      have w4b : fI Z4 (10, 0, 0) 32 = n32 K := by rw [h4', h3', h2', h1']; exact f32
      rw [w4, w4b, n_nat (by omega)]
      refine ⟨n_in K3 (by omega), fun Z5 h5' Z6 h6' Z7 h7' => ?_⟩
      have w5b : fI Z5 (10, 0, 0) 32 = n32 K := by rw [h5']; exact w4b
      rw [w5b, show n32 K + 1 = n32 (K + 1) from n_add K 1] at h6'
      have w6 : fI Z6 (10, 0, 0) 31 = n32 S := by rw [h6', fI_uI, if_neg (by simp), h5']; exact w4
      rw [w6, show n32 S + 1 = n32 (S + 1) from n_add S 1] at h7'
      have w7 : fI Z7 (10, 0, 0) 31 = n32 (S + 1) := by rw [h7', fI_uI, if_pos ⟨rfl, rfl⟩]
      rw [w7, show n32 (S + 1) - 1 = n32 S from n_sub (b := 1) (by omega)]
      refine ⟨fun _ => ?_, fun z => absurd rfl z⟩
      have rI : ∀ u k, fI Z7 u k = if u = xM ∧ k = 31 then n32 (S + 1) else if u = xM ∧ k = 32 then n32 (K + 1) else if u = xM ∧ k = 2 then 0 else fI Y14 u k := fun u k => by rw [h7', fI_uI, h6', fI_uI, h5', fI_uA, h4', fI_uA, h3', fI_uA, h2', fI_uA, h1', fI_uA, v1, fI_uI]
      have rA : ∀ u k j, fA Z7 u k j = if u = xM ∧ k = 49 ∧ j = K then n32 S else if u = xM ∧ k = 43 ∧ j = S then n32 n else if u = xM ∧ k = 42 ∧ j = S then n32 (gB Y i') else if u = xM ∧ k = 38 ∧ j = S then x1 else if u = xM ∧ k = 37 ∧ j = S then x1 else if u = xM ∧ k = 51 ∧ gB Y i' ≤ j ∧ j < gB Y i' + n then 1 else if u = xM ∧ k = 50 ∧ gB Y i' ≤ j ∧ j < gB Y i' + n then 0 else fA Y14 u k j := fun u k j => by rw [h7', fA_uI, h6', fA_uI, h5', fA_uA, h4', fA_uA, h3', fA_uA, h2', fA_uA, h1', fA_uA, v2, fA_uI]
      have rO : ∀ u k j, u ≠ xM → fA Z7 u k j = fA Y14 u k j := fun u k j h => by rw [rA, if_neg (fun z => h z.1), if_neg (fun z => h z.1), if_neg (fun z => h z.1), if_neg (fun z => h z.1), if_neg (fun z => h z.1), if_neg (fun z => h z.1), if_neg (fun z => h z.1)]
      have rIo : ∀ u k, u ≠ xM → fI Z7 u k = fI Y14 u k := fun u k h => by rw [rI, if_neg (fun z => h z.1), if_neg (fun z => h z.1), if_neg (fun z => h z.1)]
      have rX : ∀ k, k ≠ 31 → k ≠ 32 → k ≠ 2 → fI Z7 xM k = fI Y xM k := fun k h1 h2 h3 => by rw [rI, if_neg (fun z => h1 z.2), if_neg (fun z => h2 z.2), if_neg (fun z => h3 z.2)]; exact cX k
      have rM : ∀ k j, fA Z7 xM k j = if k = 49 ∧ j = K then n32 S else if k = 43 ∧ j = S then n32 n else if k = 42 ∧ j = S then n32 (gB Y i') else if k = 38 ∧ j = S then n32 p else if k = 37 ∧ j = S then n32 p else if k = 51 ∧ gB Y i' ≤ j ∧ j < gB Y i' + n then 1 else if k = 50 ∧ gB Y i' ≤ j ∧ j < gB Y i' + n then 0 else fA Y xM k j := by
        intro k j
        rw [rA, cM, e]
        simp only [true_and]
      have rL : ∀ u k j, fL Z7 u k j = fL Y u k j := fun u k j => by rw [h7', fL_uI, h6', fL_uI, h5', fL_uA, h4', fL_uA, h3', fL_uA, h2', fL_uA, h1', fL_uA, v3, fL_uI]; exact cL u k j
      have rR : ∀ u k j, fR Z7 u k j = if u = (9, 0, 0) ∧ k = 5 ∧ j = S then some (4, S, 0) else fR Y u k j := fun u k j => by rw [h7', fR_uI, h6', fR_uI, h5', fR_uA, h4', fR_uA, h3', fR_uA, h2', fR_uA, h1', fR_uA, v4, fR_uI]; exact cR u k j
      have rC : CT Y Z7 := by
        have eC : fC Z7 = fC Y14 := by rw [h7', fC_uI, h6', fC_uI, h5', fC_uA, h4', fC_uA, h3', fC_uA, h2', fC_uA, h1', fC_uA, v5, fC_uI]
        unfold CT
        rw [eC]
        exact cC
      have hg : ∀ u, u ≠ (4, S, 0) → g.1 u = false → g9.1 u = false := by
        intro u h1 h2
        refine iff_f (hiff u) (fun z => ?_)
        rcases z with z | z
        · rw [h2] at z
          exact absurd z (by decide)
        · exact h1 z
      have co : ∀ u k, u ≠ (4, S, 0) → ¬ (u = (9, 0, 0) ∧ k = 6) → ¬ (u = (6, 0, 0) ∧ k = 2) → ¬ (u = (7, 0, 0) ∧ k = 3) → fI Y14 u k = fI Y u k := fun u k h1 h2 h3 h4 => by rw [cI, if_neg h2, if_neg h3, if_neg (fun z => h1 z.1), if_neg (fun z => h1 z.1), if_neg (fun z => h1 z.1), if_neg (fun z => h1 z.1)]; exact t1 u k h4
      refine H g9 Z7 ⟨⟨P, N, IP_keep I (fun k j hk => by rw [rM, if_neg (by omega), if_neg (by omega), if_neg (by omega), if_neg (by omega), if_neg (by omega), if_neg (by omega), if_neg (by omega)]) (fun p' => ⟨fun u k hu => ?_, fun u k j hu => ?_, fun u k j hu => by rw [rR, if_neg (fun z => (tP_no hu).2.1 z.1)], by rw [rR, if_neg (by simp)]⟩) (rX 3 (by omega) (by omega) (by omega)) (rX 4 (by omega) (by omega) (by omega)) (rX 5 (by omega) (by omega) (by omega)) ((rIo _ _ (by simp)).trans (co _ _ (by simp) (by simp) (by simp) (by simp))) ((rIo _ _ (by simp)).trans (co _ _ (by simp) (by simp) (by simp) (by simp))) (by rw [rR, if_neg (by simp)]) (fun u p' hu => hg u (fun z => by have := hu.2; rw [z] at this; simp at this))⟩, S + 1, K + 1, hd, IQ_spawn (p := p) (n := n) (i := i') I J hz S3' K3 hpP p6 hnn n1 hiK hgap ?_ ?_ ?_ ?_ ?_ rM rL ?_ ?_ ?_ (fun j => ?_) (fun q' k hq' => ?_) (fun k => ?_) (fun q' k j => ?_) ?_ (fun j => ?_) (fun j hj => ?_) (fun j hj => ?_) (fun j => ?_) hg⟩ rC
      · have t := tP_no hu
        rw [rIo u k t.1]
        exact co u k (fun z => by have := hu.2; rw [z] at this; simp at this) (fun z => t.2.1 z.1) (fun z => t.2.2.2.1 z.1) (fun z => t.2.2.2.2 z.1)
      · have t := tP_no hu
        rw [rO u k j t.1, cA, if_neg (fun z => t.2.2.2.1 z.1)]
        exact t3 u k j t.2.2.2.2
      · exact w7
      · rw [rI, if_neg (by simp), if_pos ⟨rfl, rfl⟩]
      · rw [rIo _ _ (by simp), co _ _ (by simp) (by simp) (by simp) (by simp), rX 35 (by omega) (by omega) (by omega)]
        exact b8
      · rw [rIo _ _ (by simp), co _ _ (by simp) (by simp) (by simp) (by simp), rX 33 (by omega) (by omega) (by omega)]
        exact b6
      · rw [rIo _ _ (by simp), co _ _ (by simp) (by simp) (by simp) (by simp), rX 34 (by omega) (by omega) (by omega)]
        exact b7
      · rw [rIo _ _ (by simp)]
        exact i14
      · rw [rIo _ _ (by simp), co _ _ (by simp) (by simp) (by simp) (by simp)]
        exact b5
      · rw [rIo _ _ (by simp), cI, if_neg (by simp), if_pos ⟨rfl, rfl⟩]
      · rw [rO _ _ _ (by simp), cA]
        by_cases y : j = (hd + K) % 40
        · rw [if_pos ⟨rfl, rfl, y⟩, if_pos y]
        · rw [if_neg (fun z => y z.2.2), if_neg y]
          exact t3 _ _ _ (by simp)
      · rw [rIo _ _ (by simp)]
        exact co _ _ (by simp; exact hq') (by simp) (by simp) (by simp)
      · rw [rIo _ _ (by simp), cI, if_neg (by simp), if_neg (by simp), e]
        simp only [true_and]
        rw [t1 _ _ (by simp)]
      · rw [rO _ _ _ (by simp), cA, if_neg (by simp)]
        exact t3 _ _ _ (by simp)
      · rw [rIo _ _ (by simp), cI, if_neg (by simp), if_neg (by simp), if_neg (by simp), if_neg (by simp), if_neg (by simp), if_neg (by simp)]
        exact t2
      · rw [rO _ _ _ (by simp), cA, if_neg (by simp)]
        exact t4 j
      · rw [rO _ _ _ (by simp), cA, if_neg (by simp)]
        exact t5 j hj
      · rw [rO _ _ _ (by simp), cA, if_neg (by simp)]
        exact t6 j hj
      · rw [rR]
        by_cases y : j = S
        · rw [if_pos ⟨rfl, rfl, y⟩, if_pos y]
        · rw [if_neg (fun z => y z.2.2), if_neg y]
    · rw [n_add, n_le (by omega) (by omega)]
      exact Nat.le_refl _
  · obtain ⟨p', h1, h2, h3⟩ := z
    exact h ⟨p', h1, h2, (hPP p' h1).2.1.1.2.2.2.2.1.trans h3⟩
end SQ
