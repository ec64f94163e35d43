/-! spawn -/
section SP
variable {V : xV} {g g' : xG} {Y Y' : xW} {P N S K hd p n i : Nat}
theorem SND_new (I : IP g Y P N) (hpP : p < P) (p6 : fA Y xM 6 p = 1) (hn : nN (fA Y xM) p ≤ n) (n4 : n ≤ 4096) (S3 : S < 300) {A' : AF} (hA : ∀ k j, k < 24 → A' k j = fA Y xM k j) (a38 : A' 38 S = n32 p) (a39 : A' 39 S = 0) (a41 : A' 41 S = 0) (a43 : A' 43 S = n32 n) (a45 : ∀ r, r < 8 → A' 45 (8 * S + r) = 0) : SND A' S := by
  have P24 := I.1.1
  have PPp := I.2.2.2.1 p hpP
  have W := PPp.2.2.1
  obtain ⟨acc, dep⟩ := PPp.2.2.2.2.1 p6
  have hl := HL24 I hA p (by omega) p6
  have w0 : 0 < nW (fA Y xM) p := by have := acc.1; omega
  have f1 := W.2.1.2.1
  have cN0 : cN A' S = 0 := by unfold cN; rw [a41]; rfl
  have e38 : plP A' S 0 = p := by unfold plP; rw [cN0, if_pos rfl, a38]; exact n_nat (by omega)
  have e39 : plI A' S 0 = 0 := by unfold plI; rw [cN0, if_pos rfl, a39]; rfl
  have esz : sz A' S = n := by unfold sz; rw [a43]; exact n_nat (by omega)
  have st0 : stF (fA Y xM) p := by
    have c := (acc.2 0 w0).1
    unfold cmF at c
    apply Classical.byContradiction
    intro z
    rw [if_pos ⟨rfl, z⟩] at c
    exact absurd c (by decide)
  have rs0 : rwS (fA Y xM) p 0 = 0 := by
    have e : rwS (fA Y xM) p 0 = fA Y xM 13 (200 * p + 0) := by
      unfold rwS inS
      rw [if_neg]
      rw [st0.1]
      decide
    rw [e]
    exact st0.1
  have rs0' : rwS A' p 0 = 0 := by rw [rwS_loc W hl.1 w0]; exact rs0
  have fn0 : fnA A' S 0 = 0 := by unfold fnA; rw [e38, e39, rs0']; rfl
  refine ⟨⟨?_, ?_, ?_, by omega, ?_, by omega⟩, fun j hj => by omega, fun j hj => ?_, ?_, fun j hj => by omega, ?_⟩
  · rw [cN0, e38]; exact a38
  · rw [cN0, e39]; exact a39
  · rw [cN0]; exact a41
  · rw [esz]; exact a43
  · have j0 : j = 0 := by omega
    subst j0
    rw [e38, e39, fn0, esz, E_W hl.1.1, E_N hl.1.1, hA 6 _ (by omega), hA 18 _ (by omega)]
    have d := (dep.1 0 (by omega)).2
    exact ⟨by omega, p6, w0, hn, by omega⟩
  · rw [e38, e39]
    exact rs0'
  · rw [cN0, e38, e39]
    intro r hr nz
    have hr2 := (rwR_loc W hl.1 w0) r hr
    have nz2 : (rwR (fA Y xM) p 0 r).1 ≠ 0 := by rw [← hr2.1]; exact nz
    show _ ≤ A' 45 (8 * S + r) ∧ A' 45 (8 * S + r) ≤ _
    rw [a45 r hr, hr2.2 nz2]
    have er : rwR (fA Y xM) p 0 = lRow (fA Y xM) (200 * p + 0) := by
      unfold rwR inR
      rw [if_neg]
      rw [st0.1]
      decide
    rw [er] at nz2 ⊢
    exact (st0.2 r hr nz2).2
theorem IQ_spawn (I : IP g Y P N) (J : IQ g Y S K hd) (hz : XZ g Y) (S3 : S < 300) (K3 : K < 40) (hpP : p < P) (p6 : fA Y xM 6 p = 1) (hn : nN (fA Y xM) p ≤ n) (n1 : 1 ≤ n) (hi : i ≤ K) (hg : n ≤ gE Y K i - gB Y i)
    (x31 : fI Y' xM 31 = n32 (S + 1)) (x32 : fI Y' xM 32 = n32 (K + 1)) (n9 : fI Y' (9, 0, 0) 9 = fI Y' xM 35) (n10 : fI Y' (9, 0, 0) 10 = fI Y' xM 33) (n11 : fI Y' (9, 0, 0) 11 = fI Y' xM 34)
    (aM : ∀ k j, fA Y' xM k j = if k = 49 ∧ j = K then n32 S else if k = 43 ∧ j = S then n32 n else if k = 42 ∧ j = S then n32 (gB Y i) else if k = 38 ∧ j = S then n32 p else if k = 37 ∧ j = S then n32 p else if k = 51 ∧ gB Y i ≤ j ∧ j < gB Y i + n then 1 else if k = 50 ∧ gB Y i ≤ j ∧ j < gB Y i + n then 0 else fA Y xM k j) (aL : ∀ u k j, fL Y' u k j = fL Y u k j)
    (y6 : fI Y' (9, 0, 0) 6 = n32 (S + 1)) (z1 : fI Y' (6, 0, 0) 1 = n32 hd) (z2 : fI Y' (6, 0, 0) 2 = n32 (K + 1)) (zr : ∀ j, fA Y' (6, 0, 0) 0 j = if j = (hd + K) % 40 then n32 S else fA Y (6, 0, 0) 0 j)
    (p1 : ∀ q' k, q' ≠ S → fI Y' (4, q', 0) k = fI Y (4, q', 0) k) (pS : ∀ k, fI Y' (4, S, 0) k = if k = 7 then n32 (gB Y i) else if k = 5 then n32 p else if k = 1 then n32 n else if k = 0 then n32 p else fI Y (4, S, 0) k) (pA : ∀ q' k j, fA Y' (4, q', 0) k j = fA Y (4, q', 0) k j)
    (s3 : fI Y' (7, 0, 0) 3 = n32 (K + 1)) (s0 : ∀ j, fA Y' (7, 0, 0) 0 j = if gB Y i ≤ j ∧ j < gB Y i + n then 0 else fA Y (7, 0, 0) 0 j) (s1 : ∀ j, j < K + 1 → fA Y' (7, 0, 0) 1 j = if j < i then fA Y (7, 0, 0) 1 j else if j = i then n32 (gB Y i) else fA Y (7, 0, 0) 1 (j - 1)) (s2 : ∀ j, j < K + 1 → fA Y' (7, 0, 0) 2 j = if j < i then fA Y (7, 0, 0) 2 j else if j = i then n32 n else fA Y (7, 0, 0) 2 (j - 1)) (rr : ∀ j, fR Y' (9, 0, 0) 5 j = if j = S then some (4, S, 0) else fR Y (9, 0, 0) 5 j)
    (G : ∀ u, u ≠ (4, S, 0) → g.1 u = false → g'.1 u = false) : IQ g' Y' (S + 1) (K + 1) hd := by
  obtain ⟨⟨S3', K40, h40⟩, ⟨b1, b2, b3, b4, b5, b6, b7, b8⟩, c, ⟨d1, d2, d3⟩, e, f, st, t, w⟩ := J
  obtain ⟨gn1, gn2, gn3⟩ := gap_no st hi n1 hg
  obtain ⟨st1, st2, st3, st4, st5, st6⟩ := id st
  obtain ⟨f0, f36, f39, f40, f41, f44, f45, f46⟩ := f S (Nat.le_refl _) S3
  have zz := hz _ f0
  have o : ∀ k j, ¬ (k = 49 ∧ j = K) → ¬ ((k = 43 ∨ k = 42 ∨ k = 38 ∨ k = 37) ∧ j = S) → ¬ ((k = 51 ∨ k = 50) ∧ gB Y i ≤ j ∧ j < gB Y i + n) → fA Y' xM k j = fA Y xM k j := by
    intro k j h1 h2 h3
    rw [aM, if_neg h1, if_neg (fun z => h2 ⟨.inl z.1, z.2⟩), if_neg (fun z => h2 ⟨.inr (.inl z.1), z.2⟩), if_neg (fun z => h2 ⟨.inr (.inr (.inl z.1)), z.2⟩), if_neg (fun z => h2 ⟨.inr (.inr (.inr z.1)), z.2⟩), if_neg (fun z => h3 ⟨.inl z.1, z.2⟩), if_neg (fun z => h3 ⟨.inr z.1, z.2⟩)]
  have hA : ∀ k j, k < 24 → fA Y' xM k j = fA Y xM k j := fun k j h => o k j (by omega) (by omega) (by omega)
  have a49 : fA Y' xM 49 K = n32 S := by rw [aM, if_pos ⟨rfl, rfl⟩]
  have a43 : fA Y' xM 43 S = n32 n := by rw [aM, if_neg (by omega), if_pos ⟨rfl, rfl⟩]
  have a42 : fA Y' xM 42 S = n32 (gB Y i) := by rw [aM, if_neg (by omega), if_neg (by omega), if_pos ⟨rfl, rfl⟩]
  have a38 : fA Y' xM 38 S = n32 p := by rw [aM, if_neg (by omega), if_neg (by omega), if_neg (by omega), if_pos ⟨rfl, rfl⟩]
  have a37 : fA Y' xM 37 S = n32 p := by rw [aM, if_neg (by omega), if_neg (by omega), if_neg (by omega), if_neg (by omega), if_pos ⟨rfl, rfl⟩]
  have a51 : ∀ j, fA Y' xM 51 j = if gB Y i ≤ j ∧ j < gB Y i + n then 1 else fA Y xM 51 j := by
    intro j
    by_cases z : gB Y i ≤ j ∧ j < gB Y i + n
    · rw [aM, if_neg (by omega), if_neg (by omega), if_neg (by omega), if_neg (by omega), if_neg (by omega), if_pos ⟨rfl, z⟩, if_pos z]
    · rw [o 51 j (by omega) (by omega) (fun y => z y.2), if_neg z]
  have a50 : ∀ j, fA Y' xM 50 j = if gB Y i ≤ j ∧ j < gB Y i + n then 0 else fA Y xM 50 j := by
    intro j
    by_cases z : gB Y i ≤ j ∧ j < gB Y i + n
    · rw [aM, if_neg (by omega), if_neg (by omega), if_neg (by omega), if_neg (by omega), if_neg (by omega), if_neg (by omega), if_pos ⟨rfl, z⟩, if_pos z]
    · rw [o 50 j (by omega) (by omega) (fun y => z y.2), if_neg z]
  have gl4 : gB Y i < 2147483648 := by omega
  have rb : ∀ j, j < K + 1 → rB Y' j = if j < i then rB Y j else if j = i then gB Y i else rB Y (j - 1) := by
    intro j hj
    unfold rB
    rw [s1 j hj]
    split
    · rfl
    · split
      · exact n_nat gl4
      · rfl
  have rs : ∀ j, j < K + 1 → rS Y' j = if j < i then rS Y j else if j = i then n else rS Y (j - 1) := by
    intro j hj
    unfold rS
    rw [s2 j hj]
    split
    · rfl
    · split
      · exact n_nat (by omega)
      · rfl
  have gbi : ∀ j, j < i → rB Y j + rS Y j ≤ gB Y i := by
    intro j hj
    obtain ⟨x, rfl⟩ : ∃ x, i = x + 1 := ⟨i - 1, by omega⟩
    rw [gB_s]
    by_cases z : j = x
    · rw [z]
      exact Nat.le_refl _
    · have := st_lt st (show j < x by omega) (by omega)
      omega
  refine ⟨⟨by omega, by omega, h40⟩, ⟨x31, y6, x32, z2, z1, n10, n11, n9⟩, fun j hj => ?_, ⟨fun j hj => ?_, fun j1 j2 h1 h2 h => ?_, fun q' h1 h2 => ?_⟩, fun q' h1 => ?_, fun q' h1 h2 => ?_, ?_, fun q' h1 h2 => ?_, fun q1 q2 h1 h2 h3 h4 h5 => ?_⟩
  · rw [zr]
    by_cases z : j = K
    · rw [z, if_pos rfl, a49]
    · rw [if_neg (by omega), o 49 j (by omega) (by omega) (by omega)]
      exact c j (by omega)
  · by_cases z : j = K
    · refine ⟨S, by omega, by rw [z]; exact a49, ?_⟩
      rw [o 36 S (by omega) (by omega) (by omega)]
      exact f36
    · rw [o 49 j (by omega) (by omega) (by omega)]
      obtain ⟨q', e1, e2, e3⟩ := d1 j (by omega)
      exact ⟨q', by omega, e2, by rw [o 36 q' (by omega) (by omega) (by omega)]; exact e3⟩
  · have old : ∀ j, j < K → fA Y xM 49 j ≠ n32 S := by
      intro j hj z
      obtain ⟨q', e1, e2, _⟩ := d1 j hj
      have := (n_eq (by omega) (by omega)).mp (e2.symm.trans z)
      omega
    by_cases y1 : j1 = K
    · by_cases y2 : j2 = K
      · omega
      · rw [y1, a49, o 49 j2 (by omega) (by omega) (by omega)] at h
        exact absurd h.symm (old j2 (by omega))
    · by_cases y2 : j2 = K
      · rw [y2, a49, o 49 j1 (by omega) (by omega) (by omega)] at h
        exact absurd h (old j1 (by omega))
      · rw [o 49 j1 (by omega) (by omega) (by omega), o 49 j2 (by omega) (by omega) (by omega)] at h
        exact d2 j1 j2 (by omega) (by omega) h
  · by_cases z : q' = S
    · exact ⟨K, by omega, by rw [z]; exact a49⟩
    · rw [o 36 q' (by omega) (by omega) (by omega)] at h2
      obtain ⟨j, hj, ej⟩ := d3 q' (by omega) h2
      exact ⟨j, by omega, by rw [o 49 j (by omega) (by omega) (by omega)]; exact ej⟩
  · by_cases z : q' = S
    · subst z
      refine ⟨by rw [rr, if_pos rfl], ⟨?_, ?_, ?_, ?_, ?_, ?_, ?_, ?_, ?_⟩, ?_, fun r hr => ?_, fun j hj => ?_⟩
      · rw [pS, a37]; simp
      · rw [pS, a43]; simp
      · rw [pS, o 41 _ (by omega) (by omega) (by omega), f41]; simp; exact zz.1 4
      · rw [pS, a38]; simp
      · rw [pS, o 39 _ (by omega) (by omega) (by omega), f39]; simp; exact zz.1 6
      · rw [pS, a42]; simp
      · rw [pS, o 36 _ (by omega) (by omega) (by omega), f36]; simp; exact zz.1 8
      · rw [pS, o 40 _ (by omega) (by omega) (by omega), f40]; simp; exact zz.1 9
      · rw [pS, o 44 _ (by omega) (by omega) (by omega), f44]; simp; exact zz.1 10
      · rw [aL, aL, f46]; exact zz.2.2.1 11 0
      · rw [pA, o 45 _ (by omega) (by omega) (by omega), f45 r hr]; exact zz.2.1 2 r
      · have : cN (fA Y' xM) q' = 0 := by unfold cN; rw [o 41 _ (by omega) (by omega) (by omega), f41]; rfl
        omega
    · obtain ⟨c1, ⟨k0, k1, k4, k5, k6, k7, k8, k9, k10⟩, c3, c4, c5⟩ := e q' (by omega)
      refine ⟨by rw [rr, if_neg z]; exact c1, ⟨?_, ?_, ?_, ?_, ?_, ?_, ?_, ?_, ?_⟩, ?_, fun r hr => ?_, fun j hj => ?_⟩
      · rw [p1 q' _ z, o 37 _ (by omega) (by omega) (by omega)]; exact k0
      · rw [p1 q' _ z, o 43 _ (by omega) (by omega) (by omega)]; exact k1
      · rw [p1 q' _ z, o 41 _ (by omega) (by omega) (by omega)]; exact k4
      · rw [p1 q' _ z, o 38 _ (by omega) (by omega) (by omega)]; exact k5
      · rw [p1 q' _ z, o 39 _ (by omega) (by omega) (by omega)]; exact k6
      · rw [p1 q' _ z, o 42 _ (by omega) (by omega) (by omega)]; exact k7
      · rw [p1 q' _ z, o 36 _ (by omega) (by omega) (by omega)]; exact k8
      · rw [p1 q' _ z, o 40 _ (by omega) (by omega) (by omega)]; exact k9
      · rw [p1 q' _ z, o 44 _ (by omega) (by omega) (by omega)]; exact k10
      · rw [aL, aL]; exact c3
      · rw [pA, o 45 _ (by omega) (by omega) (by omega)]; exact c4 r hr
      · rw [show cN (fA Y' xM) q' = cN (fA Y xM) q' from by unfold cN; rw [o 41 _ (by omega) (by omega) (by omega)]] at hj
        rw [pA, o 47 _ (by omega) (by omega) (by omega), o 48 _ (by omega) (by omega) (by omega)]
        exact c5 j hj
  · obtain ⟨v0, v1, v2, v3, v4, v5, v6, v7⟩ := f q' (by omega) h2
    rw [o 36 _ (by omega) (by omega) (by omega), o 39 _ (by omega) (by omega) (by omega), o 40 _ (by omega) (by omega) (by omega), o 41 _ (by omega) (by omega) (by omega), o 44 _ (by omega) (by omega) (by omega), aL]
    refine ⟨G _ (by simp; omega) v0, v1, v2, v3, v4, v5, fun r hr => ?_, v7⟩
    rw [o 45 _ (by omega) (by omega) (by omega)]
    exact v6 r hr
  · refine ⟨s3, fun k hk => ?_, fun j hj => ?_, fun j hj => ?_, fun k hk => ?_, fun k hk => ?_⟩
    · rw [s0, a50]
      split
      · rfl
      · exact st2 k hk
    · rw [rb j hj, rs j hj, s1 j hj, s2 j hj]
      by_cases z : j < i
      · rw [if_pos z, if_pos z, if_pos z, if_pos z]
        exact st3 j (by omega)
      · rw [if_neg z, if_neg z, if_neg z, if_neg z]
        by_cases y : j = i
        · rw [if_pos y, if_pos y, if_pos y, if_pos y]
          exact ⟨rfl, rfl, n1, gn3⟩
        · rw [if_neg y, if_neg y, if_neg y, if_neg y]
          exact st3 (j - 1) (by omega)
    · rw [rb j (by omega), rs j (by omega), rb (j + 1) hj]
      by_cases z : j + 1 < i
      · rw [if_pos (by omega), if_pos (by omega), if_pos z]
        exact st4 j (by omega)
      · rw [if_neg z]
        by_cases y : j + 1 = i
        · rw [if_pos y, if_pos (by omega), if_pos (by omega)]
          exact gbi j (by omega)
        · have nl : ¬ j < i := by omega
          rw [if_neg y, if_neg nl, if_neg nl, Nat.add_sub_cancel]
          by_cases x : j = i
          · rw [if_pos x, if_pos x]
            exact gn2 j (by omega) (by omega)
          · rw [if_neg x, if_neg x]
            have := st4 (j - 1) (by omega)
            rw [show j - 1 + 1 = j from by omega] at this
            exact this
    · rw [a51]
      split
      · exact .inr rfl
      · exact st5 k hk
    · rw [a51]
      constructor
      · intro h
        by_cases z : gB Y i ≤ k ∧ k < gB Y i + n
        · refine ⟨i, by omega, ?_, ?_⟩
          · rw [rb i (by omega), if_neg (by omega), if_pos rfl]; exact z.1
          · rw [rb i (by omega), rs i (by omega), if_neg (by omega), if_pos rfl, if_neg (by omega), if_pos rfl]; exact z.2
        · rw [if_neg z] at h
          obtain ⟨x, x1, x2, x3⟩ := (st6 k hk).mp h
          by_cases y : x < i
          · refine ⟨x, by omega, ?_, ?_⟩
            · rw [rb x (by omega), if_pos y]; exact x2
            · rw [rb x (by omega), rs x (by omega), if_pos y, if_pos y]; exact x3
          · refine ⟨x + 1, by omega, ?_, ?_⟩
            · rw [rb (x + 1) (by omega), if_neg (by omega), if_neg (by omega), Nat.add_sub_cancel]; exact x2
            · rw [rb (x + 1) (by omega), rs (x + 1) (by omega), if_neg (by omega), if_neg (by omega), if_neg (by omega), if_neg (by omega), Nat.add_sub_cancel]; exact x3
      · rintro ⟨x, x1, x2, x3⟩
        rw [rb x x1] at x2 x3
        rw [rs x x1] at x3
        by_cases z : gB Y i ≤ k ∧ k < gB Y i + n
        · rw [if_pos z]
        · rw [if_neg z]
          by_cases y : x < i
          · rw [if_pos y] at x2 x3
            rw [if_pos y] at x3
            exact (st6 k hk).mpr ⟨x, by omega, x2, x3⟩
          · rw [if_neg y] at x2 x3
            rw [if_neg y] at x3
            by_cases u : x = i
            · rw [if_pos u] at x2 x3
              rw [if_pos u] at x3
              exact absurd ⟨x2, x3⟩ z
            · rw [if_neg u] at x2 x3
              rw [if_neg u] at x3
              exact (st6 k hk).mpr ⟨x - 1, by omega, x2, x3⟩
  · by_cases z : q' = S
    · subst z
      refine ⟨SND_new I hpP p6 hn (by omega) S3 hA a38 ((o 39 _ (by omega) (by omega) (by omega)).trans f39) ((o 41 _ (by omega) (by omega) (by omega)).trans f41) a43 (fun r hr => (o 45 _ (by omega) (by omega) (by omega)).trans (f45 r hr)), i, by omega, ?_, ?_⟩
      · rw [a42, s1 i (by omega), if_neg (by omega), if_pos rfl]
      · rw [a43, s2 i (by omega), if_neg (by omega), if_pos rfl]
    · rw [o 36 _ (by omega) (by omega) (by omega)] at h2
      obtain ⟨t1, x, x1, x2, x3⟩ := t q' (by omega) h2
      refine ⟨SND_loc ⟨⟨o 38 _ (by omega) (by omega) (by omega), o 39 _ (by omega) (by omega) (by omega), o 41 _ (by omega) (by omega) (by omega), o 43 _ (by omega) (by omega) (by omega)⟩, fun r _ => o 45 _ (by omega) (by omega) (by omega), fun j _ => ⟨o 47 _ (by omega) (by omega) (by omega), o 48 _ (by omega) (by omega) (by omega)⟩⟩ (HL24 I hA) t1, ?_⟩
      rw [o 42 _ (by omega) (by omega) (by omega), o 43 _ (by omega) (by omega) (by omega)]
      by_cases y : x < i
      · exact ⟨x, by omega, by rw [s1 x (by omega), if_pos y]; exact x2, by rw [s2 x (by omega), if_pos y]; exact x3⟩
      · exact ⟨x + 1, by omega, by rw [s1 (x + 1) (by omega), if_neg (by omega), if_neg (by omega), Nat.add_sub_cancel]; exact x2, by rw [s2 (x + 1) (by omega), if_neg (by omega), if_neg (by omega), Nat.add_sub_cancel]; exact x3⟩
  · have new : ∀ q', q' < S → fA Y xM 36 q' = 0 → fA Y xM 42 q' ≠ n32 (gB Y i) := by
      intro q' hq' l z
      obtain ⟨_, x, x1, x2, _⟩ := t q' hq' l
      have g4 := (st3 x x1).2.2.2
      rw [x2, (st3 x x1).1] at z
      have z' := (n_eq (by omega) gl4).mp z
      by_cases y : x < i
      · have := gn1 x y
        omega
      · have := gn2 x (by omega) x1
        omega
    rw [o 36 _ (by omega) (by omega) (by omega)] at h3 h4
    by_cases z1' : q1 = S
    · by_cases z2' : q2 = S
      · omega
      · rw [z1', a42, o 42 _ (by omega) (by omega) (by omega)] at h5
        exact absurd h5.symm (new q2 (by omega) h4)
    · by_cases z2' : q2 = S
      · rw [z2', a42, o 42 _ (by omega) (by omega) (by omega)] at h5
        exact absurd h5 (new q1 (by omega) h3)
      · rw [o 42 _ (by omega) (by omega) (by omega), o 42 _ (by omega) (by omega) (by omega)] at h5
        exact w q1 q2 (by omega) (by omega) h3 h4 h5
end SP
