/-! tick: class and reference stay together -/
def syn (Y : xW) (I : Nat → Int32) (F : Nat → Nat → Int32) (L : Nat → Nat → Int64) : xW := (fun t k => if t = xM then I k else Y.1 t k, fun t k j => if t = xM then F k j else Y.2.1 t k j, fun t k j => if t = xM then L k j else Y.2.2.1 t k j, Y.2.2.2.1, Y.2.2.2.2)
section SY
variable {Y' : xW} {I' : Nat → Int32} {F' : Nat → Nat → Int32} {L' : Nat → Nat → Int64}
theorem sy_I (k : Nat) : fI (syn Y' I' F' L') xM k = I' k := rfl
theorem sy_A (k j : Nat) : fA (syn Y' I' F' L') xM k j = F' k j := rfl
theorem sy_L (k j : Nat) : fL (syn Y' I' F' L') xM k j = L' k j := rfl
theorem sy_i {u : xT} (h : u ≠ xM) (k : Nat) : fI (syn Y' I' F' L') u k = fI Y' u k := if_neg h
theorem sy_a {u : xT} (h : u ≠ xM) (k j : Nat) : fA (syn Y' I' F' L') u k j = fA Y' u k j := if_neg h
theorem sy_l {u : xT} (h : u ≠ xM) (k j : Nat) : fL (syn Y' I' F' L') u k j = fL Y' u k j := if_neg h
theorem sy_r (u : xT) (k j : Nat) : fR (syn Y' I' F' L') u k j = fR Y' u k j := rfl
end SY
theorem mA_v {A : AF} {q k j : Nat} {v : Int32} (h1 : ¬ ((k = 38 ∨ k = 39 ∨ k = 41) ∧ j = q)) (h2 : ¬ (k = 45 ∧ 8 * q ≤ j ∧ j < 8 * q + 8)) (h3 : ¬ ((k = 47 ∨ k = 48) ∧ j = 40 * q + cN A q ∧ efC A q = cN A q + 1)) (h4 : k ≠ 50) : mA A q k j v = v := by
  unfold mA
  rw [if_neg (by omega), if_neg (by omega), if_neg (by omega), if_neg h2, if_neg (by omega), if_neg (by omega), if_neg h4]
section SN
variable {g : xG} {Y Y' Z : xW} {P N S K hd hd' q i0 : Nat} {rb : Bool}
theorem syn_N (I : IP g Z P N) (J : IQ g Z S K hd) (ce : CE Y Z) (hD : HD Z S K q i0) (n0 : ¬ wOp (eW (fA Z xM) q) = 0) (tn : TN Z Y Y' K hd hd' q) (hr : rb = true ↔ rot Z q) : IP g (syn Y' (mI Z rb) (mF Z K q rb) (mL Z q (efF (fA Z xM) q) (1000 * efP (fA Z xM) q + efI (fA Z xM) q))) P N ∧ IQ g (syn Y' (mI Z rb) (mF Z K q rb) (mL Z q (efF (fA Z xM) q) (1000 * efP (fA Z xM) q + efI (fA Z xM) q))) S K hd' := by
  have sd := HD_s J hD
  have G := G_of I
  obtain ⟨⟨t1, t2, t3, t4, t5⟩, a1, a2, a3, a4, a5, a6, ft⟩ := SND_top sd
  obtain ⟨S3, K40, h40⟩ := J.1
  obtain ⟨b1, b2, b3, b4, b5, b6, b7, b8⟩ := J.2.1
  obtain ⟨⟨hq, h49, h36⟩, hi0, r1, r2⟩ := hD
  have kp : 0 < K := by omega
  obtain ⟨c1, ⟨p0, p1, p4, p5, p6, p7, p8, p9, p10⟩, c3, c4, c5⟩ := J.2.2.2.2.1 q hq
  obtain ⟨x1, ⟨x4, x5, x6, x9, x11⟩, xa, xr2, xfr, xm, xl, xr, xc, xh, xh4, xq⟩ := tn
  have eM : ∀ k j, k ≠ 40 → k ≠ 49 → mF Z K q rb k j = mA (fA Z xM) q k j (fA Z xM k j) := by
    intro k j h1 h2
    unfold mF
    rw [if_neg (fun z => h1 z.1), if_neg (fun z => h2 z.1)]
  have mt := MATCH_of (A := fA Z xM) (A' := mF Z K q rb) (q := q) eM
  have sd' := (eff_ok G sd n0).2 _ mt
  have c40 : efC (fA Z xM) q ≤ 40 := by
    have y1 := (SND_top sd').2.2.2.2.1
    have y2 : cN (mF Z K q rb) q = efC (fA Z xM) q := by
      unfold cN
      rw [mt.2.2.2.1]
      have := efC_le (fA Z xM) q
      exact n_nat (by omega)
    omega
  have ec := efC_le (fA Z xM) q
  obtain ⟨low, m38, m39, m41, m43, m45, m47, m48⟩ := mt
  have keep : ∀ k j, k ≠ 40 → k ≠ 49 → ¬ ((k = 38 ∨ k = 39 ∨ k = 41) ∧ j = q) → ¬ (k = 45 ∧ 8 * q ≤ j ∧ j < 8 * q + 8) → ¬ ((k = 47 ∨ k = 48) ∧ 40 * q ≤ j ∧ j < 40 * q + 40) → k ≠ 50 → mF Z K q rb k j = fA Z xM k j := fun k j h1 h2 h3 h4 h5 h6 => (eM k j h1 h2).trans (mA_v h3 h4 (by omega) h6)
  have kI : ∀ k, k ≠ 33 → k ≠ 34 → mI Z rb k = fI Z xM k := fun k h1 h2 => by unfold mI; rw [if_neg h2, if_neg h1]
  have yI : ∀ u k, u ≠ xM → ¬ (u = (4, q, 0) ∧ (k = 4 ∨ k = 5 ∨ k = 6 ∨ k = 9)) → ¬ (u = (9, 0, 0) ∧ (k = 10 ∨ k = 11)) → ¬ (u = (6, 0, 0) ∧ k = 1) → fI Y' u k = fI Z u k := fun u k h h1 h2 h3 => (x1 u k h1 h2 h3).trans (ce.1 u k h)
  have yA : ∀ u k j, u ≠ xM → ¬ (u = (4, q, 0) ∧ (k = 2 ∨ k = 3)) → ¬ (u = (7, 0, 0) ∧ k = 0) → ¬ (u = (6, 0, 0) ∧ k = 0) → fA Y' u k j = fA Z u k j := fun u k j h h1 h2 h3 => (xa u k j h1 h2 h3).trans (ce.2.1 u k j h)
  have yR : ∀ u k j, fR Y' u k j = fR Z u k j := fun u k j => (xr u k j).trans (ce.2.2.2 u k j)
  constructor
  · refine IP_keep I (fun k i hk => (sy_A k i).trans (low k i hk)) (fun p => ⟨fun u k hu => ?_, fun u k j hu => ?_, fun u k j _ => yR u k j, yR _ _ _⟩) ((sy_I 3).trans (kI 3 (by omega) (by omega))) ((sy_I 4).trans (kI 4 (by omega) (by omega))) ((sy_I 5).trans (kI 5 (by omega) (by omega))) ((sy_i (by simp) 1).trans (yI _ _ (by simp) (by simp) (by simp) (by simp))) ((sy_i (by simp) 3).trans (yI _ _ (by simp) (by simp) (by simp) (by simp))) (yR _ _ _) (fun _ _ _ z => z)
    · have t := tP_no hu
      rw [sy_i t.1]
      exact yI u k t.1 (fun z => by have := hu.2; rw [z.1] at this; simp at this) (fun z => t.2.1 z.1) (fun z => t.2.2.2.1 z.1)
    · have t := tP_no hu
      rw [sy_a t.1]
      exact yA u k j t.1 (fun z => by have := hu.2; rw [z.1] at this; simp at this) (fun z => t.2.2.2.2 z.1) (fun z => t.2.2.2.1 z.1)
  · have cq : CQ (syn Y' (mI Z rb) (mF Z K q rb) (mL Z q (efF (fA Z xM) q) (1000 * efP (fA Z xM) q + efI (fA Z xM) q))) (mF Z K q rb) q := by
      refine ⟨(yR _ _ _).trans c1, ⟨?_, ?_, ?_, ?_, ?_, ?_, ?_, ?_, ?_⟩, ?_, fun r hr => ?_, fun j hj => ?_⟩
      · rw [sy_i (by simp), yI _ _ (by simp) (by simp) (by simp) (by simp), keep 37 q (by omega) (by omega) (by omega) (by omega) (by omega) (by omega)]; exact p0
      · rw [sy_i (by simp), yI _ _ (by simp) (by simp) (by simp) (by simp), keep 43 q (by omega) (by omega) (by omega) (by omega) (by omega) (by omega)]; exact p1
      · rw [sy_i (by simp), x4, m41]
      · rw [sy_i (by simp), x5, m38]
      · rw [sy_i (by simp), x6, m39]
      · rw [sy_i (by simp), yI _ _ (by simp) (by simp) (by simp) (by simp), keep 42 q (by omega) (by omega) (by omega) (by omega) (by omega) (by omega)]; exact p7
      · rw [sy_i (by simp), yI _ _ (by simp) (by simp) (by simp) (by simp), keep 36 q (by omega) (by omega) (by omega) (by omega) (by omega) (by omega)]; exact p8
      · rw [sy_i (by simp), x9, ce.1 _ _ (by simp), p9]
        unfold mF
        rw [if_pos ⟨rfl, rfl⟩]
      · rw [sy_i (by simp), yI _ _ (by simp) (by simp) (by simp) (by simp), keep 44 q (by omega) (by omega) (by omega) (by omega) (by omega) (by omega)]; exact p10
      · rw [sy_l (by simp), sy_L, xl, if_pos ⟨rfl, rfl, rfl⟩, ce.2.2.1 _ _ _ (by simp), c3]
        unfold mL
        rw [if_pos ⟨rfl, rfl⟩]
      · rw [sy_a (by simp), xr2 r hr, m45 r hr]
      · have y2 : cN (mF Z K q rb) q = efC (fA Z xM) q := by
          unfold cN
          rw [m41]
          exact n_nat (by omega)
        rw [y2] at hj
        rw [sy_a (by simp), xfr j hj, m47 j hj, m48 j hj]
        refine ⟨by omega, ?_⟩
        by_cases c : j = cN (fA Z xM) q
        · rw [if_pos c, if_pos c, if_pos c, show (1000 : Int32) = n32 1000 from rfl, n_mul, n_add]
        · rw [if_neg c, if_neg c, if_neg c, ce.2.1 _ _ _ (by simp)]
          exact (c5 j (by omega)).2
    have common : ∀ (σ τ : Nat → Nat), (∀ i, i < K → fA Y' (6, 0, 0) 0 ((hd' + i) % 40) = mF Z K q rb 49 i) → fI Y' (9, 0, 0) 10 = mI Z rb 33 → (∀ i, i < K → σ i < K ∧ τ i < K ∧ σ (τ i) = i ∧ τ (σ i) = i) → (∀ i, i < K → mF Z K q rb 49 i = fA Z xM 49 (σ i)) → IQ g (syn Y' (mI Z rb) (mF Z K q rb) (mL Z q (efF (fA Z xM) q) (1000 * efP (fA Z xM) q + efI (fA Z xM) q))) S K hd' := by
      intro σ τ zr n10 hσ z49
      refine IQ_step (σ := σ) (τ := τ) I J hq ?_ ?_ ?_ ?_ ?_ ?_ ?_ xh4 ?_ (fun i hi => ?_) hσ (fun i hi => ?_) (fun k j hk => (sy_A k j).trans (low k j hk)) (fun k j hk => ?_) (fun k j hk hj => ?_) (fun j hj => ?_) (fun k j hk hj => ?_) (fun j hj => ?_) (fun q' k ne => ?_) (fun q' k j ne => ?_) (fun q' ne => ?_) cq ?_ (fun k hk => ?_) (fun k i hk => ?_) (fun i => yR _ _ _) (fun _ => sd')
      · exact (sy_I 31).trans ((kI 31 (by omega) (by omega)).trans b1)
      · exact (sy_I 32).trans ((kI 32 (by omega) (by omega)).trans b3)
      · rw [sy_i (by simp), sy_I, kI 35 (by omega) (by omega), yI _ _ (by simp) (by simp) (by simp) (by simp)]; exact b8
      · rw [sy_i (by simp), sy_I]; exact n10
      · rw [sy_i (by simp), sy_I, x11, ce.1 _ _ (by simp), b7]
        unfold mI
        rw [if_pos rfl]
      · rw [sy_i (by simp), yI _ _ (by simp) (by simp) (by simp) (by simp)]; exact b2
      · rw [sy_i (by simp)]; exact xh
      · rw [sy_i (by simp), yI _ _ (by simp) (by simp) (by simp) (by simp)]; exact b4
      · rw [sy_a (by simp), sy_A]; exact zr i hi
      · rw [sy_A]; exact z49 i hi
      · rw [sy_A]; exact keep k j (by omega) (by omega) (by omega) (by omega) (by omega) (by omega)
      · rw [sy_A]
        by_cases k40 : k = 40
        · unfold mF
          rw [if_neg (by omega), if_neg (by omega)]
          exact mA_v (by omega) (by omega) (by omega) (by omega)
        · exact keep k j k40 (by omega) (by omega) (by omega) (by omega) (by omega)
      · rw [sy_A]; exact keep 45 j (by omega) (by omega) (by omega) (by omega) (by omega) (by omega)
      · rw [sy_A]; exact keep k j (by omega) (by omega) (by omega) (by omega) (by omega) (by omega)
      · rw [sy_L]
        unfold mL
        rw [if_neg (by omega)]
      · rw [sy_i (by simp)]; exact yI _ _ (by simp) (by simp [ne]) (by simp) (by simp)
      · rw [sy_a (by simp)]; exact yA _ _ _ (by simp) (by simp [ne]) (by simp) (by simp)
      · rw [sy_l (by simp), xl, if_neg (by simp [ne])]; exact ce.2.2.1 _ _ _ (by simp)
      · rw [sy_i (by simp)]; exact yI _ _ (by simp) (by simp) (by simp) (by simp)
      · rw [sy_a (by simp), sy_A, xm k hk, eM 50 k (by omega) (by omega)]
        unfold mA
        rw [if_neg (by omega), if_neg (by omega), if_neg (by omega), if_neg (by omega), if_neg (by omega), if_neg (by omega), if_pos rfl]
      · rw [sy_a (by simp)]; exact yA _ _ _ (by simp) (by simp) (fun z => by omega) (by simp)
    rcases xq with ⟨q1, q2, q3⟩ | ⟨q1, q2, q3⟩
    · have er : rb = true := hr.mpr q1
      have m49 : ∀ i, i < K → mF Z K q rb 49 i = if i + 1 < K then fA Z xM 49 (i + 1) else n32 q := by
        intro i hi
        unfold mF
        rw [if_neg (by omega), if_pos ⟨rfl, er, hi⟩]
      refine common (fun i => if i + 1 < K then i + 1 else 0) (fun i => if i = 0 then K - 1 else i - 1) (fun i hi => by rw [m49 i hi]; exact q3 i hi) ?_ (fun i hi => ?_) (fun i hi => ?_)
      · rw [q2]
        unfold mI
        rw [if_neg (by omega), if_pos rfl, if_pos er]
      · refine ⟨?_, ?_, ?_, ?_⟩
        · split <;> omega
        · split <;> omega
        · by_cases y : i = 0
          · rw [if_pos y, if_neg (by omega), y]
          · rw [if_neg y, if_pos (by omega)]; omega
        · by_cases y : i + 1 < K
          · rw [if_pos y, if_neg (by omega)]; omega
          · rw [if_neg y, if_pos rfl]; omega
      · rw [m49 i hi]
        by_cases y : i + 1 < K
        · rw [if_pos y, if_pos y]
        · rw [if_neg y, if_neg y]; exact h49.symm
    · have er : ¬ rb = true := fun y => q1 (hr.mp y)
      have m49 : ∀ i, mF Z K q rb 49 i = fA Z xM 49 i := by
        intro i
        unfold mF
        rw [if_neg (by omega), if_neg (fun z => er z.2.1)]
        exact mA_v (by omega) (by omega) (by omega) (by omega)
      refine common id id (fun i hi => by rw [m49 i]; exact q3 i hi) ?_ (fun i hi => ⟨hi, hi, rfl, rfl⟩) (fun i hi => m49 i)
      rw [q2, ce.1 _ _ (by simp), b6]
      unfold mI
      rw [if_neg (by omega), if_pos rfl, if_neg er]
end SN
