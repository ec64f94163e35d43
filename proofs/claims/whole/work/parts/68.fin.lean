/-! a process ends -/
theorem E24 {A A' : AF} (hA : ∀ k i, k < 24 → A' k i = A k i) (p : Nat) : EQP A A' p := by
  refine ⟨fun k _ h2 => hA k p (by omega), fun j _ => ⟨hA 12 _ (by omega), hA 13 _ (by omega)⟩, fun j _ r _ => ?_, fun f _ => ⟨hA 17 _ (by omega), hA 18 _ (by omega), hA 22 _ (by omega), hA 23 _ (by omega)⟩, fun f _ r _ => ?_⟩
  · unfold lRow
    rw [hA 14 _ (by omega), hA 15 _ (by omega), hA 16 _ (by omega)]
  · unfold oRow
    rw [hA 19 _ (by omega), hA 20 _ (by omega), hA 21 _ (by omega)]
theorem HL24 {g : xG} {Y : xW} {A' : AF} {P N : Nat} (I : IP g Y P N) (hA : ∀ k i, k < 24 → A' k i = fA Y xM k i) : ∀ p, p < 24 → fA Y xM 6 p = 1 → LOC (fA Y xM) A' p ∧ WA (fA Y xM) p := fun p hp h => ⟨IP_LOC I (acc_lt I hp h) (E24 hA p) (fun q _ _ => E24 hA q), (I.2.2.2.1 p (acc_lt I hp h)).2.2.1⟩
section FI
variable {g : xG} {Y Y' : xW} {P N S K hd q pos i0 : Nat} {how : Int32}
theorem IQ_fin (I : IP g Y P N) (J : IQ g Y S K hd) (hq : q < S) (life : fA Y xM 36 q = 0) (hpos : pos < K) (hp : fA Y xM 49 pos = n32 q) (hi0 : i0 < K) (r1 : fA Y xM 42 q = fA Y (7, 0, 0) 1 i0) (r2 : fA Y xM 43 q = fA Y (7, 0, 0) 2 i0) (hhow : ¬ how = 0)
    (x31 : fI Y' xM 31 = n32 S) (x32 : fI Y' xM 32 = n32 (K - 1)) (n9 : fI Y' (9, 0, 0) 9 = fI Y' xM 35) (n10 : fI Y' (9, 0, 0) 10 = fI Y' xM 33) (n11 : fI Y' (9, 0, 0) 11 = fI Y' xM 34)
    (aM : ∀ k j, fA Y' xM k j = if k = 42 ∧ j = q then -1 else if k = 51 ∧ rB Y i0 ≤ j ∧ j < rB Y i0 + rS Y i0 then 0 else if k = 36 ∧ j = q then how else if k = 49 ∧ pos ≤ j ∧ j + 1 < K then fA Y xM 49 (j + 1) else fA Y xM k j) (aL : ∀ i, fL Y' xM 46 i = fL Y xM 46 i)
    (y6 : fI Y' (9, 0, 0) 6 = n32 S) (z1 : fI Y' (6, 0, 0) 1 = n32 hd) (z2 : fI Y' (6, 0, 0) 2 = n32 (K - 1)) (zr : ∀ i, i < K - 1 → fA Y' (6, 0, 0) 0 ((hd + i) % 40) = fA Y (6, 0, 0) 0 ((hd + (if i < pos then i else i + 1)) % 40))
    (p1 : ∀ q' k, ¬ (q' = q ∧ (k = 7 ∨ k = 8)) → fI Y' (4, q', 0) k = fI Y (4, q', 0) k) (p7 : fI Y' (4, q, 0) 7 = -1) (p8 : fI Y' (4, q, 0) 8 = how) (pA : ∀ q' k j, fA Y' (4, q', 0) k j = fA Y (4, q', 0) k j) (pL : ∀ q', fL Y' (4, q', 0) 11 0 = fL Y (4, q', 0) 11 0)
    (s3 : fI Y' (7, 0, 0) 3 = n32 (K - 1)) (s0 : ∀ j, fA Y' (7, 0, 0) 0 j = fA Y (7, 0, 0) 0 j) (s12 : ∀ k i, (k = 1 ∨ k = 2) → i < K - 1 → fA Y' (7, 0, 0) k i = fA Y (7, 0, 0) k (if i < i0 then i else i + 1)) (rr : ∀ i, fR Y' (9, 0, 0) 5 i = fR Y (9, 0, 0) 5 i) : IQ g Y' S (K - 1) hd := by
  obtain ⟨⟨S3, K40, h40⟩, ⟨b1, b2, b3, b4, b5, b6, b7, b8⟩, c, ⟨d1, d2, d3⟩, e, f, st, t, w⟩ := J
  have b1' : ∀ k j, k ≠ 42 → k ≠ 51 → k ≠ 36 → k ≠ 49 → fA Y' xM k j = fA Y xM k j := fun k j h1 h2 h3 h4 => by rw [aM, if_neg (fun z => h1 z.1), if_neg (fun z => h2 z.1), if_neg (fun z => h3 z.1), if_neg (fun z => h4 z.1)]
  have a36 : ∀ j, fA Y' xM 36 j = if j = q then how else fA Y xM 36 j := by
    intro j
    rw [aM, if_neg (by omega), if_neg (by omega)]
    by_cases e : j = q
    · rw [if_pos ⟨rfl, e⟩, if_pos e]
    · rw [if_neg (fun z => e z.2), if_neg (by omega), if_neg e]
  have a42 : ∀ j, fA Y' xM 42 j = if j = q then -1 else fA Y xM 42 j := by
    intro j
    rw [aM]
    by_cases e : j = q
    · rw [if_pos ⟨rfl, e⟩, if_pos e]
    · rw [if_neg (fun z => e z.2), if_neg (by omega), if_neg (by omega), if_neg (by omega), if_neg e]
  have a49 : ∀ j, j < K - 1 → fA Y' xM 49 j = fA Y xM 49 (if j < pos then j else j + 1) := by
    intro j hj
    rw [aM, if_neg (by omega), if_neg (by omega), if_neg (by omega)]
    by_cases e : j < pos
    · rw [if_neg (by omega), if_pos e]
    · rw [if_pos ⟨rfl, by omega, by omega⟩, if_neg e]
  have a51 : ∀ j, fA Y' xM 51 j = if rB Y i0 ≤ j ∧ j < rB Y i0 + rS Y i0 then 0 else fA Y xM 51 j := by
    intro j
    rw [aM, if_neg (by omega)]
    by_cases e : rB Y i0 ≤ j ∧ j < rB Y i0 + rS Y i0
    · rw [if_pos ⟨rfl, e⟩, if_pos e]
    · rw [if_neg (fun z => e z.2), if_neg (by omega), if_neg (by omega), if_neg e]
  have hA : ∀ k i, k < 24 → fA Y' xM k i = fA Y xM k i := fun k i h => b1' k i (by omega) (by omega) (by omega) (by omega)
  have rb : ∀ i, i < K - 1 → rB Y' i = rB Y (if i < i0 then i else i + 1) := fun i hi => by unfold rB; rw [s12 1 i (.inl rfl) hi]
  have rs : ∀ i, i < K - 1 → rS Y' i = rS Y (if i < i0 then i else i + 1) := fun i hi => by unfold rS; rw [s12 2 i (.inr rfl) hi]
  have neq : ∀ i, i < K → i ≠ pos → fA Y xM 49 i ≠ n32 q := fun i hi hne z => hne (d2 i pos hi hpos (z.trans hp.symm))
  obtain ⟨st1, st2, st3, st4, st5, st6⟩ := id st
  refine ⟨⟨S3, by omega, h40⟩, ⟨x31, y6, x32, z2, z1, n10, n11, n9⟩, fun i hi => ?_, ⟨fun i hi => ?_, fun i j hi hj h => ?_, fun q' h1 h2 => ?_⟩, fun q' h1 => ?_, fun q' h1 h2 => ?_, ?_, fun q' h1 h2 => ?_, fun q1 q2 h1 h2 h3 h4 h5 => ?_⟩
  · rw [zr i hi, a49 i hi]
    exact c _ (by split <;> omega)
  · rw [a49 i hi]
    obtain ⟨q', e1, e2, e3⟩ := d1 (if i < pos then i else i + 1) (by split <;> omega)
    refine ⟨q', e1, e2, ?_⟩
    rw [a36, if_neg (fun z => neq (if i < pos then i else i + 1) (by split <;> omega) (by split <;> omega) (by rw [e2, z]))]
    exact e3
  · rw [a49 i hi, a49 j hj] at h
    have := d2 _ _ (by split <;> omega) (by split <;> omega) h
    split at this <;> split at this <;> omega
  · rw [a36] at h2
    have ne : q' ≠ q := by
      intro z
      rw [if_pos z] at h2
      exact hhow h2
    rw [if_neg ne] at h2
    obtain ⟨i, hi1, hi2⟩ := d3 q' h1 h2
    have ip : i ≠ pos := by
      intro z
      rw [z, hp] at hi2
      exact ne ((n_eq (by omega) (by omega)).mp hi2).symm
    by_cases c1 : i < pos
    · refine ⟨i, by omega, ?_⟩
      rw [a49 i (by omega), if_pos c1]
      exact hi2
    · refine ⟨i - 1, by omega, ?_⟩
      rw [a49 (i - 1) (by omega), if_neg (by omega), show i - 1 + 1 = i from by omega]
      exact hi2
  · obtain ⟨c1, ⟨p0', p1', p4', p5', p6', p7', p8', p9', p10'⟩, c3, c4, c5⟩ := e q' h1
    have o : ∀ k, k ≠ 7 → k ≠ 8 → fI Y' (4, q', 0) k = fI Y (4, q', 0) k := fun k h1 h2 => p1 q' k (fun z => z.2.elim h1 h2)
    refine ⟨(rr q').trans c1, ⟨?_, ?_, ?_, ?_, ?_, ?_, ?_, ?_, ?_⟩, ?_, fun r hr => ?_, fun j hj => ?_⟩
    · rw [o 0 (by omega) (by omega), b1' 37 _ (by omega) (by omega) (by omega) (by omega)]; exact p0'
    · rw [o 1 (by omega) (by omega), b1' 43 _ (by omega) (by omega) (by omega) (by omega)]; exact p1'
    · rw [o 4 (by omega) (by omega), b1' 41 _ (by omega) (by omega) (by omega) (by omega)]; exact p4'
    · rw [o 5 (by omega) (by omega), b1' 38 _ (by omega) (by omega) (by omega) (by omega)]; exact p5'
    · rw [o 6 (by omega) (by omega), b1' 39 _ (by omega) (by omega) (by omega) (by omega)]; exact p6'
    · rw [a42]
      by_cases z : q' = q
      · rw [if_pos z, z]; exact p7
      · rw [if_neg z, p1 q' 7 (fun y => z y.1)]; exact p7'
    · rw [a36]
      by_cases z : q' = q
      · rw [if_pos z, z]; exact p8
      · rw [if_neg z, p1 q' 8 (fun y => z y.1)]; exact p8'
    · rw [o 9 (by omega) (by omega), b1' 40 _ (by omega) (by omega) (by omega) (by omega)]; exact p9'
    · rw [o 10 (by omega) (by omega), b1' 44 _ (by omega) (by omega) (by omega) (by omega)]; exact p10'
    · rw [pL, aL]; exact c3
    · rw [pA, b1' 45 _ (by omega) (by omega) (by omega) (by omega)]; exact c4 r hr
    · rw [show cN (fA Y' xM) q' = cN (fA Y xM) q' from by unfold cN; rw [b1' 41 _ (by omega) (by omega) (by omega) (by omega)]] at hj
      rw [pA, b1' 47 _ (by omega) (by omega) (by omega) (by omega), b1' 48 _ (by omega) (by omega) (by omega) (by omega)]
      exact c5 j hj
  · obtain ⟨f0, f1, f2, f3, f4, f5, f6, f7⟩ := f q' h1 h2
    rw [a36, if_neg (by omega), b1' 39 _ (by omega) (by omega) (by omega) (by omega), b1' 40 _ (by omega) (by omega) (by omega) (by omega), b1' 41 _ (by omega) (by omega) (by omega) (by omega), b1' 44 _ (by omega) (by omega) (by omega) (by omega), aL]
    refine ⟨f0, f1, f2, f3, f4, f5, fun r hr => ?_, f7⟩
    rw [b1' 45 _ (by omega) (by omega) (by omega) (by omega)]
    exact f6 r hr
  · refine ⟨s3, fun k hk => ?_, fun i hi => ?_, fun i hi => ?_, fun k hk => ?_, fun k hk => ?_⟩
    · rw [s0, b1' 50 _ (by omega) (by omega) (by omega) (by omega)]; exact st2 k hk
    · rw [rb i hi, rs i hi, s12 1 i (.inl rfl) hi, s12 2 i (.inr rfl) hi]
      exact st3 _ (by split <;> omega)
    · rw [rb i (by omega), rs i (by omega), rb (i + 1) hi]
      by_cases c1 : i + 1 < i0
      · rw [if_pos (by omega), if_pos c1]
        exact st4 i (by omega)
      · rw [if_neg c1]
        by_cases c2 : i < i0
        · rw [if_pos c2]
          exact st_lt st (by omega) (by omega)
        · rw [if_neg c2]
          exact st4 (i + 1) (by omega)
    · rw [a51]
      split
      · exact .inl rfl
      · exact st5 k hk
    · rw [a51]
      constructor
      · intro h
        by_cases c1 : rB Y i0 ≤ k ∧ k < rB Y i0 + rS Y i0
        · rw [if_pos c1] at h
          exact absurd h (by decide)
        · rw [if_neg c1] at h
          obtain ⟨i, h1, h2, h3⟩ := (st6 k hk).mp h
          have ne : i ≠ i0 := fun z => c1 (by rw [← z]; exact ⟨h2, h3⟩)
          by_cases c2 : i < i0
          · refine ⟨i, by omega, ?_, ?_⟩
            · rw [rb i (by omega), if_pos c2]; exact h2
            · rw [rb i (by omega), rs i (by omega), if_pos c2]; exact h3
          · refine ⟨i - 1, by omega, ?_, ?_⟩
            · rw [rb (i - 1) (by omega), if_neg (by omega), show i - 1 + 1 = i from by omega]; exact h2
            · rw [rb (i - 1) (by omega), rs (i - 1) (by omega), if_neg (by omega), show i - 1 + 1 = i from by omega]; exact h3
      · rintro ⟨i, h1, h2, h3⟩
        rw [rb i h1] at h2 h3
        rw [rs i h1] at h3
        have hx : ∃ x, x < K ∧ x ≠ i0 ∧ (if i < i0 then i else i + 1) = x := ⟨_, by split <;> omega, by split <;> omega, rfl⟩
        obtain ⟨x, x1, x2, x3⟩ := hx
        rw [x3] at h2 h3
        rw [if_neg (fun z => ?_)]
        · exact (st6 k hk).mpr ⟨x, x1, h2, h3⟩
        · by_cases c2 : x < i0
          · have := st_lt st c2 hi0
            omega
          · have := st_lt st (show i0 < x by omega) x1
            omega
  · rw [a36] at h2
    have ne : q' ≠ q := by
      intro z
      rw [if_pos z] at h2
      exact hhow h2
    rw [if_neg ne] at h2
    obtain ⟨t1, i, t2, t3, t4⟩ := t q' h1 h2
    refine ⟨SND_loc ⟨⟨b1' 38 _ (by omega) (by omega) (by omega) (by omega), b1' 39 _ (by omega) (by omega) (by omega) (by omega), b1' 41 _ (by omega) (by omega) (by omega) (by omega), b1' 43 _ (by omega) (by omega) (by omega) (by omega)⟩, fun r _ => b1' 45 _ (by omega) (by omega) (by omega) (by omega), fun j _ => ⟨b1' 47 _ (by omega) (by omega) (by omega) (by omega), b1' 48 _ (by omega) (by omega) (by omega) (by omega)⟩⟩ (HL24 I hA) t1, ?_⟩
    have ni : i ≠ i0 := by
      intro z
      rw [z, ← r1] at t3
      exact ne (w q' q h1 hq h2 life t3)
    rw [a42, if_neg ne, b1' 43 _ (by omega) (by omega) (by omega) (by omega)]
    by_cases c2 : i < i0
    · refine ⟨i, by omega, ?_, ?_⟩
      · rw [s12 1 i (.inl rfl) (by omega), if_pos c2]; exact t3
      · rw [s12 2 i (.inr rfl) (by omega), if_pos c2]; exact t4
    · refine ⟨i - 1, by omega, ?_, ?_⟩
      · rw [s12 1 (i - 1) (.inl rfl) (by omega), if_neg (by omega), show i - 1 + 1 = i from by omega]; exact t3
      · rw [s12 2 (i - 1) (.inr rfl) (by omega), if_neg (by omega), show i - 1 + 1 = i from by omega]; exact t4
  · rw [a36] at h3 h4
    have ne1 : q1 ≠ q := by
      intro z
      rw [if_pos z] at h3
      exact hhow h3
    have ne2 : q2 ≠ q := by
      intro z
      rw [if_pos z] at h4
      exact hhow h4
    rw [if_neg ne1] at h3
    rw [if_neg ne2] at h4
    rw [a42, a42, if_neg ne1, if_neg ne2] at h5
    exact w q1 q2 h1 h2 h3 h4 h5
end FI
