/-! tick: the reference -/
def ME (W Z : xW) : Prop := (∀ k, k ≠ 2 → fI W xM k = fI Z xM k) ∧ (∀ k j, fA W xM k j = fA Z xM k j) ∧ (∀ k j, fL W xM k j = fL Z xM k j)
/-- only the reference has changed, to I, F, L -/
def MT (W W' : xW) (I : Nat → Int32) (F : Nat → Nat → Int32) (L : Nat → Nat → Int64) : Prop :=
  (∀ u k, u ≠ xM → fI W' u k = fI W u k) ∧ (∀ k, k ≠ 2 → fI W' xM k = I k) ∧ fI W' xM 2 = fI W xM 2 ∧ (∀ u k j, u ≠ xM → fA W' u k j = fA W u k j) ∧ (∀ k j, fA W' xM k j = F k j) ∧ (∀ u k j, u ≠ xM → fL W' u k j = fL W u k j) ∧ (∀ k j, fL W' xM k j = L k j) ∧ (∀ u k j, fR W' u k j = fR W u k j) ∧ fC W' = fC W
def mI (Z : xW) (rb : Bool) (k : Nat) : Int32 := if k = 34 then fI Z xM 34 + 1 else if k = 33 then (if rb = true then 0 else fI Z xM 33 + 1) else fI Z xM k
def mF (Z : xW) (K q : Nat) (rb : Bool) (k j : Nat) : Int32 := if k = 40 ∧ j = q then fA Z xM 40 q + 1 else if k = 49 ∧ rb = true ∧ j < K then (if j + 1 < K then fA Z xM 49 (j + 1) else n32 q) else mA (fA Z xM) q k j (fA Z xM k j)
def mL (Z : xW) (q : Nat) (F : Nat → Int32) (pl : Nat) (k j : Nat) : Int64 := if k = 46 ∧ j = q then trF F (31 * fL Z xM 46 q + (n32 pl).toInt64) 8 else fL Z xM k j
def eXI (Z : xW) (K k : Nat) : Int32 := if k = 34 then fI Z xM 34 + 1 else if k = 33 then 0 else if k = 32 then n32 (K - 1) else fI Z xM k
def eXF (Z : xW) (K q b s : Nat) (k j : Nat) : Int32 := if k = 40 ∧ j = q then fA Z xM 40 q + 1 else if k = 44 ∧ j = q then rg (fA Z xM) q (wA (eW (fA Z xM) q)) else if k = 42 ∧ j = q then -1 else if k = 51 ∧ b ≤ j ∧ j < b + s then 0 else if k = 36 ∧ j = q then 1 else if k = 49 ∧ j + 1 < K then fA Z xM 49 (j + 1) else fA Z xM k j
theorem j_pl {p i : Nat} (hp : p < 65536) (hi : i < 65536) : 1000 * (n32 p).toInt64 + (n32 i).toInt64 = (n32 (1000 * p + i)).toInt64 := by
  apply Int64.toInt_inj.mp
  have e1 := j_of (n32 p)
  have e2 := j_of (n32 i)
  rw [n_toInt (by omega)] at e1 e2
  have o : (1000 : Int64).toInt = 1000 := by decide
  have m : (1000 * (n32 p).toInt64).toInt = 1000 * p := by
    rw [j_mul (by rw [e1, o]; omega) (by rw [e1, o]; omega), e1, o]
  rw [j_add (by rw [m, e2]; omega) (by rw [m, e2]; omega), m, e2, j_of, n_toInt (by omega)]
  omega
section TM
variable {V : xV} {g : xG} {W Z : xW} {P N S K hd q i0 : Nat}
theorem s_171t {Y : xW} {Q : Int32 → xW → Prop} {l2 l3 : Int32} {p i : Nat} (hq : q < 300) (h38 : fA Y xM 38 q = n32 p) (h39 : fA Y xM 39 q = n32 i) (hp : p < 65536) (hi : i < 65536) (H : ∀ Y', (∀ u k, fI Y' u k = fI Y u k) → (∀ u k j, fA Y' u k j = fA Y u k j) → (∀ u k j, fL Y' u k j = if u = xM ∧ k = 46 ∧ j = q then trF (fun r => fA Y xM 45 (8 * q + r)) (31 * fL Y xM 46 q + (n32 (1000 * p + i)).toInt64) 8 else fL Y u k j) → (∀ u k j, fR Y' u k j = fR Y u k j) → fC Y' = fC Y → Q (n32 q) Y') : L_171_170 V g Y (n32 q) l2 l3 Q := by
  have iq := n_in hq (show 300 ≤ 2147483648 by omega)
  have lp : ∀ m k (Y1 : xW), k + m = 8 → (∀ u k, fI Y1 u k = fI Y u k) → (∀ u k j, fA Y1 u k j = fA Y u k j) → (∀ u k' j, fL Y1 u k' j = if u = xM ∧ k' = 46 ∧ j = q then trF (fun r => fA Y xM 45 (8 * q + r)) (31 * fL Y xM 46 q + (n32 (1000 * p + i)).toInt64) k else fL Y u k' j) → (∀ u k j, fR Y1 u k j = fR Y u k j) → fC Y1 = fC Y → L_171_209 V g Y1 (n32 q) l2 l3 (n32 k) Q := by
    intro m
    induction m with
    | zero =>
      intro k Y1 e q1 q2 q3 q4 q5
      have e' : k = 8 := by omega
      subst e'
      exact l_171_209 ⟨fun _ => H Y1 q1 q2 q3 q4 q5, fun z => absurd (by decide) z⟩
    | succ m ih =>
      intro k Y1 e q1 q2 q3 q4 q5
      refine l_171_209 ⟨fun z => absurd ((n_le (a := 8) (by omega) (by omega)).mp z) (by omega), fun _ => ?_⟩
      rw [ix8, n_nat (show q < 2147483648 by omega), n_nat (show 8 * q + k < 2147483648 by omega), show n32 k + 1 = n32 (k + 1) from n_add k 1]
      refine ⟨iq, n_in (by omega) (by omega), iq, fun Y2 e2 => ih (k + 1) Y2 (by omega) (fun u k => by rw [e2]; exact q1 u k) (fun u k j => by rw [e2]; exact q2 u k j) (fun u k' j => ?_) (fun u k j => by rw [e2]; exact q4 u k j) (by rw [e2]; exact q5)⟩
      rw [e2, fL_uL]
      by_cases c : u = xM ∧ k' = 46 ∧ j = q
      · rw [if_pos c, if_pos c, q3, if_pos ⟨rfl, rfl, rfl⟩, q2]
        rfl
      · rw [if_neg c, if_neg c, q3, if_neg c]
  refine l_171_170 ?_
  rw [n_nat (show q < 2147483648 by omega), h38, h39, Int64.add_assoc, j_pl hp hi]
  refine ⟨iq, iq, iq, iq, fun Y1 e1 => lp 8 0 Y1 rfl (fun u k => by rw [e1]; rfl) (fun u k j => by rw [e1]; rfl) (fun u k' j => ?_) (fun u k j => by rw [e1]; rfl) (by rw [e1]; rfl)⟩
  rw [e1, fL_uL]
  rfl
theorem MB_of (I : IP g Z P N) (J : IQ g Z S K hd) (h : HD Z S K q i0) {Y : xW} (hA : ∀ k j, k ≠ 40 → fA Y xM k j = fA Z xM k j) : MB Y (fA Z xM) q (rB Z i0) := by
  have sd := HD_s J h
  obtain ⟨⟨t1, t2, t3, t4, t5⟩, a1, a2, a3, a4, a5, a6, ft⟩ := SND_top sd
  obtain ⟨b1, b2, b3⟩ := HD_b J h
  have S3 := J.1.1
  have hq := h.1.1
  have w := (G_of I _ t1 t2).1.1.2
  refine ⟨by omega, hA, ⟨a1, a2, a3⟩, ⟨b1, b2⟩, ⟨a4, t1, by omega⟩, fun j hj => ?_⟩
  have hc := sd.2.2.1 j (by omega)
  have hb := sd.2.1 j hj
  have w2 := (G_of I _ hc.1 hc.2.1).1.1.2
  exact ⟨plP (fA Z xM) q j, plI (fA Z xM) q j, hc.1, by omega, hb.1, hb.2⟩
theorem efC_le (A : AF) (q : Nat) : efC A q ≤ cN A q + 1 := by
  unfold efC
  split
  · omega
  · split
    · omega
    · omega
theorem MATCH_of {A A' : AF} (h : ∀ k j, k ≠ 40 → k ≠ 49 → A' k j = mA A q k j (A k j)) : MATCH A A' q := by
  have c1 := efC_le A q
  have hv : ∀ k j, k ≠ 40 → k ≠ 49 → ¬ ((k = 38 ∨ k = 39 ∨ k = 41) ∧ j = q) → ¬ (k = 45 ∧ 8 * q ≤ j ∧ j < 8 * q + 8) → ¬ ((k = 47 ∨ k = 48) ∧ j = 40 * q + cN A q ∧ efC A q = cN A q + 1) → k ≠ 50 → A' k j = A k j := by
    intro k j n1 n2 h1 h2 h3 h4
    rw [h k j n1 n2]
    unfold mA
    rw [if_neg (by omega), if_neg (by omega), if_neg (by omega), if_neg h2, if_neg (by omega), if_neg (by omega), if_neg h4]
  refine ⟨fun k i hk => hv k i (by omega) (by omega) (by omega) (by omega) (by omega) (by omega), ?_, ?_, ?_, hv 43 q (by omega) (by omega) (by omega) (by omega) (by omega) (by omega), fun r hr => ?_, fun j hj => ?_, fun j hj => ?_⟩
  · rw [h 38 q (by omega) (by omega)]
    unfold mA
    rw [if_pos ⟨rfl, rfl⟩]
  · rw [h 39 q (by omega) (by omega)]
    unfold mA
    rw [if_neg (by omega), if_pos ⟨rfl, rfl⟩]
  · rw [h 41 q (by omega) (by omega)]
    unfold mA
    rw [if_neg (by omega), if_neg (by omega), if_pos ⟨rfl, rfl⟩]
  · rw [h 45 _ (by omega) (by omega)]
    unfold mA
    rw [if_neg (by omega), if_neg (by omega), if_neg (by omega), if_pos ⟨rfl, by omega, by omega⟩, show 8 * q + r - 8 * q = r from by omega]
  · by_cases c : j = cN A q
    · rw [if_pos c, h 47 _ (by omega) (by omega)]
      unfold mA
      rw [if_neg (by omega), if_neg (by omega), if_neg (by omega), if_neg (by omega), if_pos ⟨rfl, by omega, by omega⟩]
    · rw [if_neg c]
      exact hv 47 _ (by omega) (by omega) (by omega) (by omega) (by omega) (by omega)
  · by_cases c : j = cN A q
    · rw [if_pos c, h 48 _ (by omega) (by omega)]
      unfold mA
      rw [if_neg (by omega), if_neg (by omega), if_neg (by omega), if_neg (by omega), if_neg (by omega), if_pos ⟨rfl, by omega, by omega⟩]
    · rw [if_neg c]
      exact hv 48 _ (by omega) (by omega) (by omega) (by omega) (by omega) (by omega)
theorem cl_lt (x : Int32) : x.toNatClampNeg < 2147483648 := x.toNatClampNeg_lt
/-- bounds of the next place -/
theorem ef_b (I : IP g Z P N) (J : IQ g Z S K hd) (h : HD Z S K q i0) (n0 : ¬ wOp (eW (fA Z xM) q) = 0) : efP (fA Z xM) q < 24 ∧ efI (fA Z xM) q < 200 := by
  have sd := HD_s J h
  obtain ⟨⟨t1, t2, t3, t4, t5⟩, a1, a2, a3, a4, a5, a6, ft⟩ := SND_top sd
  have G := G_of I
  have w := (G _ t1 t2).1.1.2
  have n6 := n_lt6 (eW (fA Z xM) q)
  have m := MATCH_of (A := fA Z xM) (A' := fun k j => mA (fA Z xM) q k j (fA Z xM k j)) (q := q) (fun k j _ _ => rfl)
  obtain ⟨⟨u1, u2, u3, _⟩, _⟩ := SND_top ((eff_ok G sd n0).2 _ m)
  have w2 : nW (fA Z xM) (pP (fun k j => mA (fA Z xM) q k j (fA Z xM k j)) q) ≤ 200 := (G _ u1 u2).1.1.2
  have u4 : pI (fun k j => mA (fA Z xM) q k j (fA Z xM k j)) q < 200 := Nat.lt_of_lt_of_le u3 w2
  have eP : pP (fun k j => mA (fA Z xM) q k j (fA Z xM k j)) q = efP (fA Z xM) q := by
    show (mA (fA Z xM) q 38 q (fA Z xM 38 q)).toNatClampNeg = _
    rw [show mA (fA Z xM) q 38 q (fA Z xM 38 q) = n32 (efP (fA Z xM) q) from m.2.1]
    apply n_nat
    unfold efP
    split
    · exact cl_lt _
    · split
      · exact cl_lt _
      · exact cl_lt _
  have eI : pI (fun k j => mA (fA Z xM) q k j (fA Z xM k j)) q = efI (fA Z xM) q := by
    show (mA (fA Z xM) q 39 q (fA Z xM 39 q)).toNatClampNeg = _
    rw [show mA (fA Z xM) q 39 q (fA Z xM 39 q) = n32 (efI (fA Z xM) q) from m.2.2.1]
    apply n_nat
    unfold efI
    split
    · omega
    · split
      · split
        · omega
        · omega
      · split
        · split
          · omega
          · omega
        · split
          · exact cl_lt _
          · split
            · exact cl_lt _
            · split
              · exact cl_lt _
              · omega
  rw [eP] at u1
  rw [eI] at u4
  exact ⟨u1, u4⟩
theorem t_171 {Q : Int32 → xW → Prop} (I : IP g Z P N) (J : IQ g Z S K hd) (me : ME W Z) (hD : HD Z S K q i0) (HX : wOp (eW (fA Z xM) q) = 0 → ∀ W', MT W W' (eXI Z K) (eXF Z K q (rB Z i0) (sz (fA Z xM) q)) (mL Z q (rg (fA Z xM) q) (1000 * pP (fA Z xM) q + pI (fA Z xM) q)) → Q (n32 q) W') (HN : ¬ wOp (eW (fA Z xM) q) = 0 → ∀ W' rb, (rb = true ↔ rot Z q) → MT W W' (mI Z rb) (mF Z K q rb) (mL Z q (efF (fA Z xM) q) (1000 * efP (fA Z xM) q + efI (fA Z xM) q)) → Q (n32 q) W') : L_171_0 V g W Q := by
  obtain ⟨S3, K40, h40⟩ := J.1
  obtain ⟨b1, b2, b3, b4, b5, b6, b7, b8⟩ := J.2.1
  have sd := HD_s J hD
  have G := G_of I
  obtain ⟨⟨t1, t2, t3, t4, t5⟩, a1, a2, a3, a4, a5, a6, ft⟩ := SND_top sd
  have Wp := (G _ t1 t2).1
  have w200 := Wp.1.2
  obtain ⟨⟨hq, h49, h36⟩, hi0, r1, r2⟩ := hD
  have hD : HD Z S K q i0 := ⟨⟨hq, h49, h36⟩, hi0, r1, r2⟩
  have q3 : q < 300 := by omega
  have iq := n_in q3 (show 300 ≤ 2147483648 by omega)
  have kp : 0 < K := by omega
  have x32 : fI W xM 32 = n32 K := (me.1 32 (by omega)).trans b3
  have hop := op_lt (eW (fA Z xM) q)
  have ok : okW (eW (fA Z xM) q) := Wp.2.2.2.2.1 _ t3
  refine l_171_0 ⟨fun z => ?_, fun _ => ?_⟩
  · rw [x32] at z
    have := (n_eq0 (by omega)).mp z
    omega
  rw [show (Int32.toNatClampNeg 0) = 0 from rfl, show fA W (10, 0, 0) 49 0 = n32 q from (me.2.1 49 0).trans h49, n_nat (show q < 2147483648 by omega), show fA W (10, 0, 0) 38 q = n32 (pP (fA Z xM) q) from (me.2.1 38 q).trans a1, show fA W (10, 0, 0) 39 q = n32 (pI (fA Z xM) q) from (me.2.1 39 q).trans a2, ix200, n_nat (show 200 * pP (fA Z xM) q + pI (fA Z xM) q < 2147483648 by omega), show fA W (10, 0, 0) 12 (200 * pP (fA Z xM) q + pI (fA Z xM) q) = eW (fA Z xM) q from me.2.1 12 _]
  refine ⟨n_in (k := 0) (by omega) (by omega), iq, iq, n_in (by omega) (by omega), fun Y1 e1 => ⟨iq, iq, fun Y2 e2 Y3 e3 => s_127 ?_⟩⟩
  have i3 : ∀ u k, fI Y3 u k = if u = xM ∧ k = 33 then fI W xM 33 + 1 else if u = xM ∧ k = 34 then fI W xM 34 + 1 else fI W u k := by
    intro u k
    rw [e3, fI_uI, e2, fI_uA, e1, fI_uI, fI_uA, fI_uI, if_neg (c := (10, 0, 0) = xM ∧ 33 = 34) (by simp)]
  have a3' : ∀ u k j, fA Y3 u k j = if u = xM ∧ k = 40 ∧ j = q then fA Z xM 40 q + 1 else fA W u k j := by
    intro u k j
    rw [e3, fA_uI, e2, fA_uA, e1, fA_uI, fA_uI, show fA W (10, 0, 0) 40 q = fA Z xM 40 q from me.2.1 40 q]
  have l3 : ∀ u k j, fL Y3 u k j = fL W u k j := fun u k j => by rw [e3, e2, e1]; rfl
  have r3 : ∀ u k j, fR Y3 u k j = fR W u k j := fun u k j => by rw [e3, e2, e1]; rfl
  have c3 : fC Y3 = fC W := by rw [e3, e2, e1]; rfl
  have hA3 : ∀ k j, k ≠ 40 → fA Y3 xM k j = fA Z xM k j := fun k j hk => by rw [a3', if_neg (fun z => hk z.2.1)]; exact me.2.1 k j
  have a40 : fA Y3 xM 40 q = fA Z xM 40 q + 1 := by rw [a3', if_pos ⟨rfl, rfl, rfl⟩]
  have x33 : fI Y3 xM 33 = fI Z xM 33 + 1 := by rw [i3, if_pos ⟨rfl, rfl⟩, me.1 33 (by omega)]
  have x34 : fI Y3 xM 34 = fI Z xM 34 + 1 := by rw [i3, if_neg (by simp), if_pos ⟨rfl, rfl⟩, me.1 34 (by omega)]
  have x3k : ∀ k, k ≠ 33 → k ≠ 34 → fI Y3 xM k = fI W xM k := fun k h1 h2 => by rw [i3, if_neg (fun z => h1 z.2), if_neg (fun z => h2 z.2)]
  have x3u : ∀ u k, u ≠ xM → fI Y3 u k = fI W u k := fun u k h => by rw [i3, if_neg (fun z => h z.1), if_neg (fun z => h z.1)]
  have a3u : ∀ u k j, u ≠ xM → fA Y3 u k j = fA W u k j := fun u k j h => by rw [a3', if_neg (fun z => h z.1)]
  refine ⟨fun z => ?_, fun z => ?_⟩
  · have e0 := (n_eq0 (by omega)).mp z
    have a8 := ok.2.2.1
    obtain ⟨hb1, hb2, hb3⟩ := HD_b J hD
    refine l_171_81 ⟨fun z => absurd z (by decide), fun _ => s_129 ?_⟩
    rw [ix8, n_nat (by omega), n_nat (by omega), show fA Y3 (10, 0, 0) 45 (8 * q + wA (eW (fA Z xM) q)) = rg (fA Z xM) q (wA (eW (fA Z xM) q)) from hA3 45 _ (by omega)]
    refine ⟨n_in (by omega) (by omega), iq, fun Y6 e6 => ?_⟩
    have a6' : ∀ u k j, fA Y6 u k j = if u = xM ∧ k = 44 ∧ j = q then rg (fA Z xM) q (wA (eW (fA Z xM) q)) else fA Y3 u k j := fun u k j => by rw [e6, fA_uA]
    refine s_166 (b := rB Z i0) (s := sz (fA Z xM) q) q3 ?_ ?_ hb2 (fun Y7 v1 v2 v3 v4 v5 => ?_)
    · rw [a6', if_neg (by simp), hA3 42 _ (by omega)]; exact hb1
    · rw [a6', if_neg (by simp), hA3 43 _ (by omega)]; exact a5
    have x7 : ∀ u k, fI Y7 u k = fI Y3 u k := fun u k => by rw [v1, e6, fI_uA]
    refine s_167 (pos := 0) (K := K) (by rw [x7, x3k 32 (by omega) (by omega)]; exact x32) K40 kp (fun Y8 w1 w2 w3 w4 w5 w6 w7 => ?_)
    have f8 : ∀ k j, fA Y8 xM k j = eXF Z K q (rB Z i0) (sz (fA Z xM) q) k j := by
      intro k j
      unfold eXF
      rw [w4]
      by_cases c49 : k = 49 ∧ j + 1 < K
      · rw [if_pos ⟨rfl, c49.1, by omega, c49.2⟩, if_neg (by omega), if_neg (by omega), if_neg (by omega), if_neg (by omega), if_neg (by omega), if_pos c49, v2, if_neg (by simp), if_neg (by simp), if_neg (by simp), a6', if_neg (by simp)]
        exact hA3 49 _ (by omega)
      · rw [if_neg (fun z => c49 ⟨z.2.1, z.2.2.2⟩), v2]
        by_cases c42 : k = 42 ∧ j = q
        · rw [if_pos ⟨rfl, c42⟩, if_neg (by omega), if_neg (by omega), if_pos c42]
        · rw [if_neg (fun z => c42 z.2)]
          by_cases c51 : k = 51 ∧ rB Z i0 ≤ j ∧ j < rB Z i0 + sz (fA Z xM) q
          · rw [if_pos ⟨rfl, c51⟩, if_neg (by omega), if_neg (by omega), if_neg c42, if_pos c51]
          · rw [if_neg (fun z => c51 z.2)]
            by_cases c36 : k = 36 ∧ j = q
            · rw [if_pos ⟨rfl, c36⟩, if_neg (by omega), if_neg (by omega), if_neg c42, if_neg c51, if_pos c36]
            · rw [if_neg (fun z => c36 z.2), a6']
              by_cases c44 : k = 44 ∧ j = q
              · rw [if_pos ⟨rfl, c44⟩, if_neg (by omega), if_pos c44]
              · rw [if_neg (fun z => c44 z.2), a3']
                by_cases c40 : k = 40 ∧ j = q
                · rw [if_pos ⟨rfl, c40⟩, if_pos c40]
                · rw [if_neg (fun z => c40 z.2), if_neg c40, if_neg c44, if_neg c42, if_neg c51, if_neg c36, if_neg c49]
                  exact me.2.1 k j
    have f8' : ∀ k j, k ≠ 40 → k ≠ 44 → k ≠ 42 → k ≠ 51 → k ≠ 36 → k ≠ 49 → fA Y8 xM k j = fA Z xM k j := by
      intro k j h1 h2 h3 h4 h5 h6
      rw [f8]
      unfold eXF
      rw [if_neg (fun z => h1 z.1), if_neg (fun z => h2 z.1), if_neg (fun z => h3 z.1), if_neg (fun z => h4 z.1), if_neg (fun z => h5 z.1), if_neg (fun z => h6 z.1)]
    have l8 : ∀ u k j, fL Y8 u k j = fL W u k j := fun u k j => by rw [w5, v3, e6, fL_uA]; exact l3 u k j
    refine s_171t q3 ((f8' 38 q (by omega) (by omega) (by omega) (by omega) (by omega) (by omega)).trans a1) ((f8' 39 q (by omega) (by omega) (by omega) (by omega) (by omega) (by omega)).trans a2) (by omega) (by omega) (fun Y' y1 y2 y3 y4 y5 => HX e0 Y' ⟨fun u k h => ?_, fun k h => ?_, ?_, fun u k j h => ?_, fun k j => (y2 _ k j).trans (f8 k j), fun u k j h => ?_, fun k j => ?_, fun u k j => ?_, ?_⟩)
    · rw [y1, w1 u k (fun z => h z.1), x7]
      exact x3u u k h
    · unfold eXI
      rw [y1]
      by_cases k34 : k = 34
      · rw [if_pos k34, w1 _ _ (fun z => by omega), x7, k34]
        exact x34
      · rw [if_neg k34]
        by_cases k33 : k = 33
        · rw [if_pos k33, k33, w3, if_pos rfl]
        · rw [if_neg k33]
          by_cases k32 : k = 32
          · rw [if_pos k32, k32]
            exact w2
          · rw [if_neg k32, w1 _ _ (fun z => by omega), x7, x3k k k33 k34]
            exact me.1 k h
    · rw [y1, w1 _ _ (by simp), x7]
      exact x3k 2 (by omega) (by omega)
    · rw [y2, w4, if_neg (fun z => h z.1), v2, if_neg (fun z => h z.1), if_neg (fun z => h z.1), if_neg (fun z => h z.1), a6', if_neg (fun z => h z.1)]
      exact a3u u k j h
    · rw [y3, if_neg (fun z => h z.1)]
      exact l8 u k j
    · rw [y3, l8, l8, me.2.2, me.2.2, trF_c (F' := rg (fA Z xM) q) (fun r _ => f8' 45 _ (by omega) (by omega) (by omega) (by omega) (by omega) (by omega))]
      unfold mL
      by_cases c : k = 46 ∧ j = q
      · rw [if_pos ⟨rfl, c⟩, if_pos c]
      · rw [if_neg (fun z => c z.2), if_neg c]
    · rw [y4, w6, v4, e6, fR_uA]
      exact r3 u k j
    · rw [y5, w7, v5, e6, fC_uA]
      exact c3
  · have n0 : ¬ wOp (eW (fA Z xM) q) = 0 := fun y => z ((n_eq0 (by omega)).mpr y)
    have S := (eff_ok G sd n0).1
    have eb := ef_b I J hD n0
    refine l_171_81 ⟨fun _ => s_170 (MB_of I J hD hA3) (fun p h1 h2 => (G p h1 h2).1) t2 ok S (by omega) (fun Y4 ms => s_127 ?_), fun z => absurd rfl z⟩
    have full := MS_full ms
    obtain ⟨m1, m2, ⟨m38, m39, m41⟩, m45, m47, m48, m50, ml, mr, mc⟩ := ms
    have f4 : ∀ k j, fA Y4 xM k j = if k = 40 ∧ j = q then fA Z xM 40 q + 1 else mA (fA Z xM) q k j (fA Z xM k j) := by
      intro k j
      rw [full]
      by_cases c : k = 40 ∧ j = q
      · rw [if_pos c, c.1, c.2, a40]
        unfold mA
        rw [if_neg (by omega), if_neg (by omega), if_neg (by omega), if_neg (by omega), if_neg (by omega), if_neg (by omega), if_neg (by omega)]
      · rw [if_neg c, a3', if_neg (fun z => c z.2), me.2.1]
    have last : ∀ rb Y5 l3, (rb = true ↔ rot Z q) → (∀ u k, u ≠ xM → fI Y5 u k = fI W u k) → (∀ k, k ≠ 2 → fI Y5 xM k = mI Z rb k) → fI Y5 xM 2 = fI W xM 2 → (∀ u k j, u ≠ xM → fA Y5 u k j = fA W u k j) → (∀ k j, fA Y5 xM k j = mF Z K q rb k j) → (∀ u k j, fL Y5 u k j = fL W u k j) → (∀ u k j, fR Y5 u k j = fR W u k j) → fC Y5 = fC W → L_171_170 V g Y5 (n32 q) (eW (fA Z xM) q) l3 Q := by
      intro rb Y5 l3 hr y1 y2 y3 y4 y5 y6 y7 y8
      have mk : ∀ k j, k ≠ 40 → k ≠ 49 → fA Y5 xM k j = mA (fA Z xM) q k j (fA Z xM k j) := by
        intro k j h1 h2
        rw [y5]
        unfold mF
        rw [if_neg (fun z => h1 z.1), if_neg (fun z => h2 z.1)]
      obtain ⟨u1, u38, u39, u41, u43, u45, _⟩ := MATCH_of (A := fA Z xM) (A' := fA Y5 xM) (q := q) mk
      refine s_171t q3 u38 u39 (by omega) (by omega) (fun Y' v1 v2 v3 v4 v5 => HN n0 Y' rb hr ⟨fun u k h => (v1 u k).trans (y1 u k h), fun k h => (v1 _ k).trans (y2 k h), (v1 _ _).trans y3, fun u k j h => (v2 u k j).trans (y4 u k j h), fun k j => (v2 _ k j).trans (y5 k j), fun u k j h => ?_, fun k j => ?_, fun u k j => (v4 u k j).trans (y7 u k j), v5.trans y8⟩)
      · rw [v3, if_neg (fun z => h z.1)]
        exact y6 u k j
      · rw [v3, y6, y6, me.2.2, me.2.2, trF_c (F' := efF (fA Z xM) q) (fun r hr => u45 r hr)]
        unfold mL
        by_cases c : k = 46 ∧ j = q
        · rw [if_pos ⟨rfl, c⟩, if_pos c]
        · rw [if_neg (fun z => c z.2), if_neg c]
    have i4 : ∀ u k, u ≠ xM → fI Y4 u k = fI W u k := fun u k h => (m1 u k).trans (x3u u k h)
    have a4 : ∀ u k j, u ≠ xM → fA Y4 u k j = fA W u k j := fun u k j h => (m2 u k j (fun z => h z.1)).trans (a3u u k j h)
    have turn : ∀ l3, rot Z q → L_171_145 V g Y4 (n32 q) (eW (fA Z xM) q) l3 Q := by
      intro l3' hr
      refine l_171_145 (s_167 (pos := 0) (K := K) (by rw [m1, x3k 32 (by omega) (by omega)]; exact x32) K40 kp (fun Y5 w1 w2 w3 w4 w5 w6 w7 => ?_))
      rw [show fI Y5 (10, 0, 0) 32 = n32 (K - 1) from w2, n_nat (by omega)]
      refine ⟨n_in (by omega) (by omega), fun Y6 e6 Y7 e7 => ?_⟩
      rw [show fI Y6 (10, 0, 0) 32 = n32 (K - 1) from by rw [e6, fI_uA]; exact w2, show n32 (K - 1) + 1 = n32 K from by rw [show n32 (K - 1) + 1 = n32 (K - 1 + 1) from n_add _ 1, show K - 1 + 1 = K from by omega]] at e7
      refine last true Y7 l3' ⟨fun _ => hr, fun _ => rfl⟩ (fun u k h => ?_) (fun k h => ?_) ?_ (fun u k j h => ?_) (fun k j => ?_) (fun u k j => ?_) (fun u k j => ?_) ?_
      · rw [e7, fI_uI, if_neg (fun z => h z.1), e6, fI_uA, w1 u k (fun z => h z.1)]
        exact i4 u k h
      · unfold mI
        rw [e7, fI_uI, e6, fI_uA]
        by_cases k34 : k = 34
        · rw [if_pos k34, if_neg (fun z => by omega), w1 _ _ (fun z => by omega), m1, k34]
          exact x34
        · rw [if_neg k34]
          by_cases k33 : k = 33
          · rw [if_pos k33, if_neg (fun z => by omega), k33, w3, if_pos rfl, if_pos rfl]
          · rw [if_neg k33]
            by_cases k32 : k = 32
            · rw [if_pos ⟨rfl, k32⟩, k32]
              exact b3.symm
            · rw [if_neg (fun z => k32 z.2), w1 _ _ (fun z => by omega), m1, x3k k k33 k34]
              exact me.1 k h
      · rw [e7, fI_uI, if_neg (by simp), e6, fI_uA, w1 _ _ (by simp), m1]
        exact x3k 2 (by omega) (by omega)
      · rw [e7, fA_uI, e6, fA_uA, if_neg (fun z => h z.1), w4, if_neg (fun z => h z.1)]
        exact a4 u k j h
      · unfold mF
        rw [e7, fA_uI, e6, fA_uA]
        by_cases c1 : k = 40 ∧ j = q
        · rw [if_pos c1, if_neg (fun z => by omega), w4, if_neg (fun z => by omega), f4, if_pos c1]
        · rw [if_neg c1]
          by_cases c2 : k = 49 ∧ true = true ∧ j < K
          · rw [if_pos c2]
            by_cases c3 : j + 1 < K
            · rw [if_neg (fun z => by omega), if_pos c3, w4, if_pos ⟨rfl, c2.1, by omega, c3⟩, f4, if_neg (by omega)]
              unfold mA
              rw [if_neg (by omega), if_neg (by omega), if_neg (by omega), if_neg (by omega), if_neg (by omega), if_neg (by omega), if_neg (by omega)]
            · rw [if_pos ⟨rfl, c2.1, by omega⟩, if_neg c3]
          · rw [if_neg c2, if_neg (fun z => c2 ⟨z.2.1, rfl, by omega⟩), w4, if_neg (fun z => c2 ⟨z.2.1, rfl, by omega⟩), f4, if_neg c1]
      · rw [e7, e6]
        exact (w5 u k j).trans ((ml u k j).trans (l3 u k j))
      · rw [e7, e6]
        exact (w6 u k j).trans ((mr u k j).trans (r3 u k j))
      · rw [e7, e6]
        exact w7.trans (mc.trans c3)
    have y33 : fI Y4 xM 33 = fI Z xM 33 + 1 := (m1 _ _).trans x33
    have y35 : fI Y4 xM 35 = fI Z xM 35 := by rw [m1, x3k 35 (by omega) (by omega)]; exact me.1 35 (by omega)
    refine ⟨fun z => turn _ (.inl ((n_eq (b := 1) (by omega) (by omega)).mp z)), fun n1 => ⟨fun c => ?_, fun c => turn _ (.inr ?_)⟩⟩
    · rw [show fI Y4 (10, 0, 0) 33 = _ from y33, show fI Y4 (10, 0, 0) 35 = _ from y35] at c
      have nr : ¬ rot Z q := by
        rintro (y | y)
        · exact n1 (by rw [y]; rfl)
        · exact y c
      refine last false Y4 _ ⟨fun z => absurd z (by decide), fun z => absurd z nr⟩ i4 (fun k h => ?_) ?_ a4 (fun k j => ?_) (fun u k j => (ml u k j).trans (l3 u k j)) (fun u k j => (mr u k j).trans (r3 u k j)) (mc.trans c3)
      · unfold mI
        by_cases k34 : k = 34
        · rw [if_pos k34, m1, k34]
          exact x34
        · rw [if_neg k34]
          by_cases k33 : k = 33
          · rw [if_pos k33, if_neg (by decide), k33]
            exact y33
          · rw [if_neg k33, m1, x3k k k33 k34]
            exact me.1 k h
      · rw [m1]
        exact x3k 2 (by omega) (by omega)
      · unfold mF
        rw [f4]
        by_cases c1 : k = 40 ∧ j = q
        · rw [if_pos c1, if_pos c1]
        · rw [if_neg c1, if_neg c1, if_neg (fun z => absurd z.2.1 (by decide))]
    · rw [show fI Y4 (10, 0, 0) 33 = _ from y33, show fI Y4 (10, 0, 0) 35 = _ from y35] at c
      exact c
end TM
