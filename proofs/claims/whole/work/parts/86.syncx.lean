/-! tick: class and reference stay together where the process ends -/
section SX
variable {g : xG} {Y Y' Z : xW} {P N S K hd q i0 : Nat}
/-- the process has done its EXIT, but is not ended yet -/
def preX (Z : xW) (q : Nat) (v : Int32) (t : Int64) : xW := uL (uL (uI (uI (uA (uA Z xM 40 q (fA Z xM 40 q + 1)) xM 44 q v) (4, q, 0) 9 (fI Z (4, q, 0) 9 + 1)) (4, q, 0) 10 v) (4, q, 0) 11 0 t) xM 46 q t
theorem preX_I {v : Int32} {t : Int64} (u : xT) (k : Nat) : fI (preX Z q v t) u k = if u = (4, q, 0) ∧ k = 10 then v else if u = (4, q, 0) ∧ k = 9 then fI Z (4, q, 0) 9 + 1 else fI Z u k := rfl
theorem preX_A {v : Int32} {t : Int64} (u : xT) (k j : Nat) : fA (preX Z q v t) u k j = if u = xM ∧ k = 44 ∧ j = q then v else if u = xM ∧ k = 40 ∧ j = q then fA Z xM 40 q + 1 else fA Z u k j := rfl
theorem preX_L {v : Int32} {t : Int64} (u : xT) (k j : Nat) : fL (preX Z q v t) u k j = if u = xM ∧ k = 46 ∧ j = q then t else if u = (4, q, 0) ∧ k = 11 ∧ j = 0 then t else fL Z u k j := rfl
theorem preX_ok {v : Int32} {t : Int64} (I : IP g Z P N) (J : IQ g Z S K hd) (hq : q < S) : IP g (preX Z q v t) P N ∧ IQ g (preX Z q v t) S K hd := by
  obtain ⟨S3, K40, h40⟩ := J.1
  obtain ⟨b1, b2, b3, b4, b5, b6, b7, b8⟩ := J.2.1
  obtain ⟨c1, ⟨p0, p1, p4, p5, p6, p7, p8, p9, p10⟩, c3, c4, c5⟩ := J.2.2.2.2.1 q hq
  have kI : ∀ u k, ¬ (u = (4, q, 0) ∧ (k = 9 ∨ k = 10)) → fI (preX Z q v t) u k = fI Z u k := fun u k h => by rw [preX_I, if_neg (fun z => h ⟨z.1, .inr z.2⟩), if_neg (fun z => h ⟨z.1, .inl z.2⟩)]
  have kA : ∀ u k j, ¬ (u = xM ∧ (k = 40 ∨ k = 44) ∧ j = q) → fA (preX Z q v t) u k j = fA Z u k j := fun u k j h => by rw [preX_A, if_neg (fun z => h ⟨z.1, .inr z.2.1, z.2.2⟩), if_neg (fun z => h ⟨z.1, .inl z.2.1, z.2.2⟩)]
  have low : ∀ k j, k < 24 → fA (preX Z q v t) xM k j = fA Z xM k j := fun k j hk => kA _ _ _ (fun z => by omega)
  have q36 : ∀ k j, k ≠ 40 → k ≠ 44 → fA (preX Z q v t) xM k j = fA Z xM k j := fun k j h1 h2 => kA _ _ _ (fun z => by omega)
  constructor
  · refine IP_keep I low (fun p => ⟨fun u k hu => ?_, fun u k j hu => ?_, fun u k j _ => rfl, rfl⟩) (kI _ _ (by simp)) (kI _ _ (by simp)) (kI _ _ (by simp)) (kI _ _ (by simp)) (kI _ _ (by simp)) rfl (fun _ _ _ z => z)
    · exact kI u k (fun z => by have := hu.2; rw [z.1] at this; simp at this)
    · exact kA u k j (fun z => (tP_no hu).1 z.1)
  · refine IQ_step (σ := id) (τ := id) I J hq ((kI _ _ (by simp)).trans b1) ((kI _ _ (by simp)).trans b3) ?_ ?_ ?_ ((kI _ _ (by simp)).trans b2) ((kI _ _ (by simp)).trans b5) h40 ((kI _ _ (by simp)).trans b4) (fun i hi => ?_) (fun i hi => ⟨hi, hi, rfl, rfl⟩) (fun i hi => q36 49 _ (by omega) (by omega)) low (fun k j hk => q36 k j (by omega) (by omega)) (fun k j hk hj => kA _ _ _ (fun z => hj z.2.2)) (fun j hj => q36 45 j (by omega) (by omega)) (fun k j hk hj => q36 k j (by omega) (by omega)) (fun j hj => ?_) (fun q' k ne => kI _ _ (by simp [ne])) (fun q' k j ne => kA _ _ _ (by simp)) (fun q' ne => ?_) ?_ (kI _ _ (by simp)) (fun k hk => ?_) (fun k i hk => kA _ _ _ (by simp)) (fun i => rfl) (fun life => ?_)
    · rw [kI _ _ (by simp), kI _ _ (by simp)]; exact b8
    · rw [kI _ _ (by simp), kI _ _ (by simp)]; exact b6
    · rw [kI _ _ (by simp), kI _ _ (by simp)]; exact b7
    · rw [kA _ _ _ (by simp), q36 49 _ (by omega) (by omega)]; exact J.2.2.1 i hi
    · rw [preX_L, if_neg (fun z => hj z.2.2), if_neg (by simp)]
    · rw [preX_L, if_neg (by simp), if_neg (by simp [ne])]
    · refine ⟨c1, ⟨?_, ?_, ?_, ?_, ?_, ?_, ?_, ?_, ?_⟩, ?_, fun r hr => ?_, fun j hj => ?_⟩
      · rw [kI _ _ (by simp), q36 37 _ (by omega) (by omega)]; exact p0
      · rw [kI _ _ (by simp), q36 43 _ (by omega) (by omega)]; exact p1
      · rw [kI _ _ (by simp), q36 41 _ (by omega) (by omega)]; exact p4
      · rw [kI _ _ (by simp), q36 38 _ (by omega) (by omega)]; exact p5
      · rw [kI _ _ (by simp), q36 39 _ (by omega) (by omega)]; exact p6
      · rw [kI _ _ (by simp), q36 42 _ (by omega) (by omega)]; exact p7
      · rw [kI _ _ (by simp), q36 36 _ (by omega) (by omega)]; exact p8
      · rw [preX_I, if_neg (by simp), if_pos ⟨rfl, rfl⟩, preX_A, if_neg (by simp), if_pos ⟨rfl, rfl, rfl⟩, p9]
      · rw [preX_I, if_pos ⟨rfl, rfl⟩, preX_A, if_pos ⟨rfl, rfl, rfl⟩]
      · rw [preX_L, if_neg (by simp), if_pos ⟨rfl, rfl, rfl⟩, preX_L, if_pos ⟨rfl, rfl, rfl⟩]
      · rw [kA _ _ _ (by simp), q36 45 _ (by omega) (by omega)]; exact c4 r hr
      · have ec : cN (fA (preX Z q v t) xM) q = cN (fA Z xM) q := by unfold cN; rw [q36 41 _ (by omega) (by omega)]
        rw [ec] at hj
        rw [kA _ _ _ (by simp), q36 47 _ (by omega) (by omega), q36 48 _ (by omega) (by omega)]
        exact c5 j hj
    · rw [kA _ _ _ (by simp), q36 50 _ (by omega) (by omega)]
      exact J.2.2.2.2.2.2.1.2.1 k hk
    · exact SND_loc ⟨⟨q36 38 _ (by omega) (by omega), q36 39 _ (by omega) (by omega), q36 41 _ (by omega) (by omega), q36 43 _ (by omega) (by omega)⟩, fun r _ => q36 45 _ (by omega) (by omega), fun j _ => ⟨q36 47 _ (by omega) (by omega), q36 48 _ (by omega) (by omega)⟩⟩ (HL24 I low) (J.2.2.2.2.2.2.2.1 q hq life).1
theorem syn_X (I : IP g Z P N) (J : IQ g Z S K hd) (ce : CE Y Z) (hD : HD Z S K q i0) (tx : TX Z Y Y' K hd q i0) : IP g (syn Y' (eXI Z K) (eXF Z K q (rB Z i0) (sz (fA Z xM) q)) (mL Z q (rg (fA Z xM) q) (1000 * pP (fA Z xM) q + pI (fA Z xM) q))) P N ∧ IQ g (syn Y' (eXI Z K) (eXF Z K q (rB Z i0) (sz (fA Z xM) q)) (mL Z q (rg (fA Z xM) q) (1000 * pP (fA Z xM) q + pI (fA Z xM) q))) S (K - 1) hd := by
  obtain ⟨hb1, hb2, hb3⟩ := HD_b J hD
  obtain ⟨S3, K40, h40⟩ := J.1
  obtain ⟨b1, b2, b3, b4, b5, b6, b7, b8⟩ := J.2.1
  obtain ⟨⟨hq, h49, h36⟩, hi0, r1, r2⟩ := hD
  have kp : 0 < K := by omega
  have c3 := (J.2.2.2.2.1 q hq).2.2.1
  obtain ⟨x1, ⟨x2, x3, x10, x11, x7, x8, x9, xv⟩, xa, xq, xs, xl, xr, xc⟩ := tx
  have yI : ∀ u k, u ≠ xM → ¬ (u = (6, 0, 0) ∧ k = 2) → ¬ (u = (7, 0, 0) ∧ k = 3) → ¬ (u = (9, 0, 0) ∧ (k = 10 ∨ k = 11)) → ¬ (u = (4, q, 0) ∧ (k = 7 ∨ k = 8 ∨ k = 9 ∨ k = 10)) → fI Y' u k = fI Z u k := fun u k h h1 h2 h3 h4 => (x1 u k h1 h2 h3 h4).trans (ce.1 u k h)
  have yA : ∀ u k j, u ≠ xM → ¬ (u = (6, 0, 0) ∧ k = 0) → ¬ (u = (7, 0, 0) ∧ (k = 1 ∨ k = 2)) → fA Y' u k j = fA Z u k j := fun u k j h h1 h2 => (xa u k j h1 h2).trans (ce.2.1 u k j h)
  have yR : ∀ u k j, fR Y' u k j = fR Z u k j := fun u k j => (xr u k j).trans (ce.2.2.2 u k j)
  have kI : ∀ k, k ≠ 32 → k ≠ 33 → k ≠ 34 → eXI Z K k = fI Z xM k := fun k h0 h1 h2 => by unfold eXI; rw [if_neg h2, if_neg h1, if_neg h0]
  have kF : ∀ k j, k ≠ 40 → k ≠ 44 → k ≠ 42 → k ≠ 51 → k ≠ 36 → k ≠ 49 → eXF Z K q (rB Z i0) (sz (fA Z xM) q) k j = fA Z xM k j := by
    intro k j h1 h2 h3 h4 h5 h6
    unfold eXF
    rw [if_neg (fun z => h1 z.1), if_neg (fun z => h2 z.1), if_neg (fun z => h3 z.1), if_neg (fun z => h4 z.1), if_neg (fun z => h5 z.1), if_neg (fun z => h6 z.1)]
  constructor
  · refine IP_keep I (fun k i hk => (sy_A k i).trans (kF k i (by omega) (by omega) (by omega) (by omega) (by omega) (by omega))) (fun p => ⟨fun u k hu => ?_, fun u k j hu => ?_, fun u k j _ => yR u k j, yR _ _ _⟩) ((sy_I 3).trans (kI 3 (by omega) (by omega) (by omega))) ((sy_I 4).trans (kI 4 (by omega) (by omega) (by omega))) ((sy_I 5).trans (kI 5 (by omega) (by omega) (by omega))) ((sy_i (by simp) 1).trans (yI _ _ (by simp) (by simp) (by simp) (by simp) (by simp))) ((sy_i (by simp) 3).trans (yI _ _ (by simp) (by simp) (by simp) (by simp) (by simp))) (yR _ _ _) (fun _ _ _ z => z)
    · have t := tP_no hu
      rw [sy_i t.1]
      exact yI u k t.1 (fun z => t.2.2.2.1 z.1) (fun z => t.2.2.2.2 z.1) (fun z => t.2.1 z.1) (fun z => by have := hu.2; rw [z.1] at this; simp at this)
    · have t := tP_no hu
      rw [sy_a t.1]
      exact yA u k j t.1 (fun z => t.2.2.2.1 z.1) (fun z => t.2.2.2.2 z.1)
  · obtain ⟨I1, J1⟩ := preX_ok (v := rg (fA Z xM) q (wA (eW (fA Z xM) q))) (t := trF (rg (fA Z xM) q) (31 * fL Z xM 46 q + (n32 (1000 * pP (fA Z xM) q + pI (fA Z xM) q)).toInt64) 8) I J hq
    have e7 : ∀ k j, fA (preX Z q (rg (fA Z xM) q (wA (eW (fA Z xM) q))) (trF (rg (fA Z xM) q) (31 * fL Z xM 46 q + (n32 (1000 * pP (fA Z xM) q + pI (fA Z xM) q)).toInt64) 8)) (7, 0, 0) k j = fA Z (7, 0, 0) k j := fun k j => by rw [preX_A, if_neg (by simp), if_neg (by simp)]
    refine IQ_fin (how := 1) (pos := 0) (i0 := i0) I1 J1 hq ?_ kp ?_ hi0 ?_ ?_ (by decide) ?_ ?_ ?_ ?_ ?_ (fun k j => ?_) (fun i => ?_) ?_ ?_ ?_ (fun i hi => ?_) (fun q' k hk => ?_) ?_ ?_ (fun q' k j => ?_) (fun q' => ?_) ?_ (fun j => ?_) (fun k i hk hi => ?_) (fun i => yR _ _ _)
    · rw [preX_A, if_neg (by simp), if_neg (by simp)]; exact h36
    · rw [preX_A, if_neg (by simp), if_neg (by simp)]; exact h49
    · rw [preX_A, if_neg (by simp), if_neg (by simp), e7]; exact r1
    · rw [preX_A, if_neg (by simp), if_neg (by simp), e7]; exact r2
    · exact (sy_I 31).trans ((kI 31 (by omega) (by omega) (by omega)).trans b1)
    · rw [sy_I]
      unfold eXI
      rw [if_neg (by omega), if_neg (by omega), if_pos rfl]
    · rw [sy_i (by simp), sy_I, kI 35 (by omega) (by omega) (by omega), yI _ _ (by simp) (by simp) (by simp) (by simp) (by simp)]; exact b8
    · rw [sy_i (by simp), sy_I, x10]
      unfold eXI
      rw [if_neg (by omega), if_pos rfl]
    · rw [sy_i (by simp), sy_I, x11, ce.1 _ _ (by simp), b7]
      unfold eXI
      rw [if_pos rfl]
    · rw [sy_A, rB_c (Y := Z) e7, rS_c (Y := Z) e7, ← hb3]
      unfold eXF
      by_cases c40 : k = 40 ∧ j = q
      · rw [if_pos c40, if_neg (by omega), if_neg (by omega), if_neg (by omega), if_neg (by omega), preX_A, if_neg (by omega), if_pos ⟨rfl, c40⟩]
      rw [if_neg c40]
      by_cases c44 : k = 44 ∧ j = q
      · rw [if_pos c44, if_neg (by omega), if_neg (by omega), if_neg (by omega), if_neg (by omega), preX_A, if_pos ⟨rfl, c44⟩]
      rw [if_neg c44]
      by_cases c42 : k = 42 ∧ j = q
      · rw [if_pos c42, if_pos c42]
      rw [if_neg c42, if_neg c42]
      by_cases c51 : k = 51 ∧ rB Z i0 ≤ j ∧ j < rB Z i0 + sz (fA Z xM) q
      · rw [if_pos c51, if_pos c51]
      rw [if_neg c51, if_neg c51]
      by_cases c36 : k = 36 ∧ j = q
      · rw [if_pos c36, if_pos c36]
      rw [if_neg c36, if_neg c36]
      by_cases c49 : k = 49 ∧ j + 1 < K
      · rw [if_pos c49, if_pos ⟨c49.1, by omega, c49.2⟩, preX_A, if_neg (by simp), if_neg (by simp)]
      · rw [if_neg c49, if_neg (fun z => c49 ⟨z.1, z.2.2⟩), preX_A, if_neg (fun z => c44 z.2), if_neg (fun z => c40 z.2)]
    · rw [sy_L, preX_L]
      unfold mL
      by_cases c : i = q
      · rw [if_pos ⟨rfl, c⟩, if_pos ⟨rfl, rfl, c⟩]
      · rw [if_neg (fun z => c z.2), if_neg (fun z => c z.2.2), if_neg (by simp)]
    · rw [sy_i (by simp), yI _ _ (by simp) (by simp) (by simp) (by simp) (by simp)]; exact b2
    · rw [sy_i (by simp), yI _ _ (by simp) (by simp) (by simp) (by simp) (by simp)]; exact b5
    · rw [sy_i (by simp)]; exact x2
    · rw [sy_a (by simp), xq i hi, if_neg (by omega), ce.2.1 _ _ _ (by simp), preX_A, if_neg (by simp), if_neg (by simp)]
    · rw [sy_i (by simp), preX_I]
      by_cases e : q' = q
      · rw [e]
        by_cases k10 : k = 10
        · rw [if_pos ⟨rfl, k10⟩, k10]; exact xv
        · rw [if_neg (fun z => k10 z.2)]
          by_cases k9 : k = 9
          · rw [if_pos ⟨rfl, k9⟩, k9, x9, ce.1 _ _ (by simp)]
          · rw [if_neg (fun z => k9 z.2)]
            exact yI _ _ (by simp) (by simp) (by simp) (by simp) (fun z => by have := z.2; exact hk ⟨e, by omega⟩)
      · rw [if_neg (by simp [e]), if_neg (by simp [e])]
        exact yI _ _ (by simp) (by simp) (by simp) (by simp) (by simp [e])
    · rw [sy_i (by simp)]; exact x7
    · rw [sy_i (by simp)]; exact x8
    · rw [sy_a (by simp), yA _ _ _ (by simp) (by simp) (by simp), preX_A, if_neg (by simp), if_neg (by simp)]
    · rw [sy_l (by simp), xl, preX_L, if_neg (c := (4, q', 0) = xM ∧ 11 = 46 ∧ 0 = q) (by simp)]
      by_cases e : q' = q
      · rw [e, if_pos ⟨rfl, rfl, rfl⟩, if_pos ⟨rfl, rfl, rfl⟩, ce.2.2.1 _ _ _ (by simp), c3]
      · rw [if_neg (by simp [e]), if_neg (by simp [e]), ce.2.2.1 _ _ _ (by simp)]
    · rw [sy_i (by simp)]; exact x3
    · rw [sy_a (by simp), yA _ _ _ (by simp) (by simp) (by simp), e7]
    · rw [sy_a (by simp), xs k i hk hi, ce.2.1 _ _ _ (by simp), e7]
end SX
