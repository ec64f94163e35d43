/-! a step of one process keeps the rest -/
theorem IQ_step {g : xG} {Y Y' : xW} {P N S K hd hd' q : Nat} {σ τ : Nat → Nat} (I : IP g Y P N) (J : IQ g Y S K hd) (hq : q < S)
    (x31 : fI Y' xM 31 = n32 S) (x32 : fI Y' xM 32 = n32 K) (n9 : fI Y' (9, 0, 0) 9 = fI Y' xM 35) (n10 : fI Y' (9, 0, 0) 10 = fI Y' xM 33) (n11 : fI Y' (9, 0, 0) 11 = fI Y' xM 34)
    (y6 : fI Y' (9, 0, 0) 6 = n32 S) (z1 : fI Y' (6, 0, 0) 1 = n32 hd') (h40' : hd' < 40) (z2 : fI Y' (6, 0, 0) 2 = n32 K) (zr : ∀ i, i < K → fA Y' (6, 0, 0) 0 ((hd' + i) % 40) = fA Y' xM 49 i)
    (hσ : ∀ i, i < K → σ i < K ∧ τ i < K ∧ σ (τ i) = i ∧ τ (σ i) = i) (z49 : ∀ i, i < K → fA Y' xM 49 i = fA Y xM 49 (σ i))
    (low : ∀ k j, k < 24 → fA Y' xM k j = fA Y xM k j) (a1 : ∀ k j, (k = 36 ∨ k = 37 ∨ k = 42 ∨ k = 43 ∨ k = 51) → fA Y' xM k j = fA Y xM k j) (a2 : ∀ k j, (k = 38 ∨ k = 39 ∨ k = 40 ∨ k = 41 ∨ k = 44) → j ≠ q → fA Y' xM k j = fA Y xM k j)
    (a3 : ∀ j, ¬ (8 * q ≤ j ∧ j < 8 * q + 8) → fA Y' xM 45 j = fA Y xM 45 j) (a4 : ∀ k j, (k = 47 ∨ k = 48) → ¬ (40 * q ≤ j ∧ j < 40 * q + 40) → fA Y' xM k j = fA Y xM k j) (aL : ∀ j, j ≠ q → fL Y' xM 46 j = fL Y xM 46 j)
    (p1 : ∀ q' k, q' ≠ q → fI Y' (4, q', 0) k = fI Y (4, q', 0) k) (pA : ∀ q' k j, q' ≠ q → fA Y' (4, q', 0) k j = fA Y (4, q', 0) k j) (pL : ∀ q', q' ≠ q → fL Y' (4, q', 0) 11 0 = fL Y (4, q', 0) 11 0) (cq : CQ Y' (fA Y' xM) q)
    (s3 : fI Y' (7, 0, 0) 3 = fI Y (7, 0, 0) 3) (s0 : ∀ k, k < 4096 → fA Y' (7, 0, 0) 0 k = fA Y' xM 50 k) (s12 : ∀ k i, (k = 1 ∨ k = 2) → fA Y' (7, 0, 0) k i = fA Y (7, 0, 0) k i) (rr : ∀ i, fR Y' (9, 0, 0) 5 i = fR Y (9, 0, 0) 5 i)
    (sd : fA Y xM 36 q = 0 → SND (fA Y' xM) q) : IQ g Y' S K hd' := by
  obtain ⟨⟨S3, K40, h40⟩, ⟨b1, b2, b3, b4, b5, b6, b7, b8⟩, c, ⟨d1, d2, d3⟩, e, f, ⟨t1, t2, t3, t4, t5, t6⟩, t, w⟩ := J
  have e36 : ∀ j, fA Y' xM 36 j = fA Y xM 36 j := fun j => a1 36 j (by simp)
  have rb : ∀ i, rB Y' i = rB Y i := fun i => by unfold rB; rw [s12 1 i (.inl rfl)]
  have rs : ∀ i, rS Y' i = rS Y i := fun i => by unfold rS; rw [s12 2 i (.inr rfl)]
  refine ⟨⟨S3, K40, h40'⟩, ⟨x31, y6, x32, z2, z1, n10, n11, n9⟩, zr, ⟨fun i hi => ?_, fun i j hi hj h => ?_, fun q' h h2 => ?_⟩, fun q' h => ?_, fun q' h h2 => ?_, ⟨s3.trans t1, s0, fun i hi => ?_, fun i hi => ?_, fun k hk => ?_, fun k hk => ?_⟩, fun q' h h2 => ?_, fun q1 q2 h1 h2 h3 h4 h5 => ?_⟩
  · rw [z49 i hi]
    obtain ⟨q', h1, h2, h3⟩ := d1 (σ i) (hσ i hi).1
    exact ⟨q', h1, h2, by rw [e36]; exact h3⟩
  · rw [z49 i hi, z49 j hj] at h
    have := d2 _ _ (hσ i hi).1 (hσ j hj).1 h
    rw [← (hσ i hi).2.2.2, this, (hσ j hj).2.2.2]
  · rw [e36] at h2
    obtain ⟨i, h3, h4⟩ := d3 q' h h2
    refine ⟨τ i, (hσ i h3).2.1, ?_⟩
    rw [z49 _ (hσ i h3).2.1, (hσ i h3).2.2.1]
    exact h4
  · by_cases ne : q' = q
    · rw [ne]; exact cq
    · obtain ⟨c1, c2, c3, c4, c5⟩ := e q' h
      refine ⟨(rr q').trans c1, ?_, ?_, fun r hr => ?_, fun j hj => ?_⟩
      · rw [p1 _ _ ne, p1 _ _ ne, p1 _ _ ne, p1 _ _ ne, p1 _ _ ne, p1 _ _ ne, p1 _ _ ne, p1 _ _ ne, p1 _ _ ne, a1 37 _ (by simp), a1 43 _ (by simp), a2 41 _ (by simp) ne, a2 38 _ (by simp) ne, a2 39 _ (by simp) ne, a1 42 _ (by simp), e36, a2 40 _ (by simp) ne, a2 44 _ (by simp) ne]
        exact c2
      · rw [pL _ ne, aL _ ne]
        exact c3
      · rw [pA _ _ _ ne, a3 _ (by omega)]
        exact c4 r hr
      · have ec : cN (fA Y' xM) q' = cN (fA Y xM) q' := by unfold cN; rw [a2 41 _ (by simp) ne]
        rw [ec] at hj
        have c40 := (c5 j hj).1
        rw [pA _ _ _ ne, a4 47 _ (.inl rfl) (by omega), a4 48 _ (.inr rfl) (by omega)]
        exact c5 j hj
  · have ne : q' ≠ q := by omega
    obtain ⟨f0, f1, f2, f3, f4, f5, f6, f7⟩ := f q' h h2
    rw [e36, a2 39 _ (by simp) ne, a2 40 _ (by simp) ne, a2 41 _ (by simp) ne, a2 44 _ (by simp) ne, aL _ ne]
    refine ⟨f0, f1, f2, f3, f4, f5, fun r hr => ?_, f7⟩
    rw [a3 _ (by omega)]
    exact f6 r hr
  · rw [rb, rs, s12 1 _ (.inl rfl), s12 2 _ (.inr rfl)]
    exact t3 i hi
  · rw [rb, rs, rb]
    exact t4 i hi
  · rw [a1 51 _ (by simp)]
    exact t5 k hk
  · rw [a1 51 _ (by simp), t6 k hk]
    constructor
    · rintro ⟨i, h1, h2, h3⟩
      exact ⟨i, h1, by rw [rb]; exact h2, by rw [rb, rs]; exact h3⟩
    · rintro ⟨i, h1, h2, h3⟩
      exact ⟨i, h1, by rw [rb] at h2; exact h2, by rw [rb, rs] at h3; exact h3⟩
  · rw [e36] at h2
    obtain ⟨u1, i, u2, u3, u4⟩ := t q' h h2
    refine ⟨?_, i, u2, ?_, ?_⟩
    · by_cases ne : q' = q
      · rw [ne] at h2 ⊢
        exact sd h2
      · exact SND_loc ⟨⟨a2 38 _ (by simp) ne, a2 39 _ (by simp) ne, a2 41 _ (by simp) ne, a1 43 _ (by simp)⟩, fun r hr => a3 _ (by omega), fun j hj => ⟨a4 47 _ (.inl rfl) (by omega), a4 48 _ (.inr rfl) (by omega)⟩⟩ (HL24 I low) u1
    · rw [a1 42 _ (by simp), s12 1 _ (.inl rfl)]
      exact u3
    · rw [a1 43 _ (by simp), s12 2 _ (.inr rfl)]
      exact u4
  · rw [e36] at h3 h4
    rw [a1 42 _ (by simp), a1 42 _ (by simp)] at h5
    exact w q1 q2 h1 h2 h3 h4 h5
