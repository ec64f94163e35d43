/-! kill -/
section KI
variable {V : xV} {g : xG} {Y : xW}
/-- the class's finish, down to what it leaves -/
theorem s_111 {Q : xW → Prop} {K hd q pos i0 : Nat} {how : Int32} {A : AF} (s : ST Y A K) (h1 : fI Y (6, 0, 0) 1 = n32 hd) (hh : hd < 40) (hk : fI Y (6, 0, 0) 2 = n32 K) (hK : K ≤ 40) (hp : pos < K) (h0 : i0 < K) (hb : fI Y (4, q, 0) 7 = n32 (rB Y i0))
    (H : ∀ Y', (∀ u k, ¬ (u = (6, 0, 0) ∧ k = 2) → ¬ (u = (7, 0, 0) ∧ k = 3) → ¬ (u = (9, 0, 0) ∧ k = 10) → ¬ (u = (4, q, 0) ∧ (k = 7 ∨ k = 8)) → fI Y' u k = fI Y u k) → fI Y' (6, 0, 0) 2 = n32 (K - 1) → fI Y' (7, 0, 0) 3 = n32 (K - 1) → fI Y' (9, 0, 0) 10 = (if pos = 0 then 0 else fI Y (9, 0, 0) 10) → fI Y' (4, q, 0) 7 = -1 → fI Y' (4, q, 0) 8 = how → (∀ u k j, ¬ (u = (6, 0, 0) ∧ k = 0) → ¬ (u = (7, 0, 0) ∧ (k = 1 ∨ k = 2)) → fA Y' u k j = fA Y u k j) → (∀ i, i < K - 1 → fA Y' (6, 0, 0) 0 ((hd + i) % 40) = fA Y (6, 0, 0) 0 ((hd + (if i < pos then i else i + 1)) % 40)) → (∀ k i, (k = 1 ∨ k = 2) → i < K - 1 → fA Y' (7, 0, 0) k i = fA Y (7, 0, 0) k (if i < i0 then i else i + 1)) → (∀ u k j, fL Y' u k j = fL Y u k j) → (∀ u k j, fR Y' u k j = fR Y u k j) → fC Y' = fC Y → Q Y') : L_111_0 V g Y (4, q, 0) (n32 pos) how Q := by
  refine l_111_0 (s_63 h1 hh hk hK hp (fun Y1 q1 q2 q3 q4 q5 q6 q7 => ?_))
  have last : ∀ Y2, (∀ u k, ¬ (u = (6, 0, 0) ∧ k = 2) → ¬ (u = (9, 0, 0) ∧ k = 10) → fI Y2 u k = fI Y u k) → fI Y2 (6, 0, 0) 2 = n32 (K - 1) → fI Y2 (9, 0, 0) 10 = (if pos = 0 then 0 else fI Y (9, 0, 0) 10) → (∀ u k j, fA Y2 u k j = fA Y1 u k j) → (∀ u k j, fL Y2 u k j = fL Y u k j) → (∀ u k j, fR Y2 u k j = fR Y u k j) → fC Y2 = fC Y → L_111_17 V g Y2 (4, q, 0) (n32 pos) how Q := by
    intro Y2 w1 w2 w3 w4 w5 w6 w7
    refine l_111_17 ?_
    have st2 : ST Y2 A K := by
      obtain ⟨s1, s2, s3, s4, s5, s6⟩ := s
      have e7 : ∀ k j, fA Y2 (7, 0, 0) k j = fA Y (7, 0, 0) k j := fun k j => (w4 _ _ _).trans (q3 _ _ _ (by simp))
      unfold ST
      rw [rB_c (Y := Y) e7, rS_c (Y := Y) e7]
      refine ⟨(w1 _ _ (by simp) (by simp)).trans s1, fun k hk => by rw [e7]; exact s2 k hk, fun i hi => by rw [e7, e7]; exact s3 i hi, s4, s5, s6⟩
    have rb2 : rB Y2 i0 = rB Y i0 := by rw [rB_c (Y := Y) (fun k j => (w4 _ _ _).trans (q3 _ _ _ (by simp)))]
    rw [w1 _ _ (by simp) (by simp), hb, ← rb2]
    refine s_74 st2 hK h0 (fun Y3 v1 v2 v3 v4 v5 v6 v7 Y4 e4 Y5 e5 => H Y5 (fun u k n1 n2 n3 n4 => ?_) ?_ ?_ ?_ ?_ ?_ (fun u k j n1 n2 => ?_) (fun i hi => ?_) (fun k i hk hi => ?_) (fun u k j => ?_) (fun u k j => ?_) ?_)
    · rw [e5, fI_uI, if_neg (fun z => n4 ⟨z.1, .inr z.2⟩), e4, fI_uI, if_neg (fun z => n4 ⟨z.1, .inl z.2⟩), v1 u k n2]
      exact w1 u k n1 n3
    · rw [e5, fI_uI, if_neg (by simp), e4, fI_uI, if_neg (by simp), v1 _ _ (by simp)]
      exact w2
    · rw [e5, fI_uI, if_neg (by simp), e4, fI_uI, if_neg (by simp)]
      exact v2
    · rw [e5, fI_uI, if_neg (by simp), e4, fI_uI, if_neg (by simp), v1 _ _ (by simp)]
      exact w3
    · rw [e5, fI_uI, if_neg (by simp), e4, fI_uI, if_pos ⟨rfl, rfl⟩]
    · rw [e5, fI_uI, if_pos ⟨rfl, rfl⟩]
    · rw [e5, fA_uI, e4, fA_uI, v3 u k j n2, w4]
      exact q3 u k j n1
    · rw [e5, fA_uI, e4, fA_uI, v3 _ _ _ (by simp), w4]
      exact q4 i hi
    · rw [e5, fA_uI, e4, fA_uI, v4 k i hk hi, w4]
      exact q3 _ _ _ (by simp)
    · rw [e5, fL_uI, e4, fL_uI, v5]
      exact w5 u k j
    · rw [e5, fR_uI, e4, fR_uI, v6]
      exact w6 u k j
    · rw [e5, fC_uI, e4, fC_uI, v7]
      exact w7
  refine ⟨fun c Y2 e2 => ?_, fun c => ?_⟩
  · have p0 := (n_eq0 (by omega)).mp c
    refine last Y2 (fun u k n1 n2 => ?_) ?_ ?_ (fun u k j => by rw [e2]; rfl) (fun u k j => by rw [e2]; exact q5 u k j) (fun u k j => by rw [e2]; exact q6 u k j) (by rw [e2]; exact q7)
    · rw [e2, fI_uI, if_neg n2]
      exact q1 u k n1
    · rw [e2, fI_uI, if_neg (by simp)]
      exact q2
    · rw [if_pos p0, e2, fI_uI, if_pos ⟨rfl, rfl⟩]
  · have p0 : ¬ pos = 0 := fun z => c ((n_eq0 (by omega)).mpr z)
    refine last Y1 (fun u k n1 _ => q1 u k n1) q2 ?_ (fun _ _ _ => rfl) q5 q6 q7
    rw [if_neg p0]
    exact q1 _ _ (by simp)
/-- 13: kill -/
theorem case_13 {x1 : Int32} {Pr : Prop} {B F : xW → Prop} (hi : Inv g Y) (hp : Pr) (H : ∀ Y', Inv g Y' → CT Y Y' → B Y') : L_101_0 V g Y x1 (fun x70 Y69 => Pr ∧ L_177_0 V g Y69 x1 (fun x72 Y71 => ((x70 = x72) → B Y71) ∧ (¬ (x70 = x72) → F Y71))) := by
  have hi' := hi
  obtain ⟨⟨P, N, I⟩, S, K, hd, J⟩ := hi'
  obtain ⟨S3, K40, h40⟩ := J.1
  obtain ⟨b1, b2, b3, b4, b5, b6, b7, b8⟩ := J.2.1
  have fin : ((0 : Int32) = 0 → B (uI Y xM 2 0)) ∧ (¬ (0 : Int32) = 0 → F (uI Y xM 2 0)) := ⟨fun _ => H _ (Inv_c0 hi).1 (Inv_c0 hi).2, fun z => absurd rfl z⟩
  have f0 : L_177_22 V g (uI Y xM 2 0) x1 (fun x72 Y71 => (((0 : Int32) = x72) → B Y71) ∧ (¬ ((0 : Int32) = x72) → F Y71)) := l_177_22 ⟨.inl rfl, fin⟩
  have mf : ¬ (∃ q, q < S ∧ x1 = n32 q ∧ fA Y xM 36 q = 0) → Pr ∧ L_177_0 V g Y x1 (fun x72 Y71 => (((0 : Int32) = x72) → B Y71) ∧ (¬ ((0 : Int32) = x72) → F Y71)) := by
    intro h
    refine ⟨hp, l_177_0 (fun Y1 e1 => ?_)⟩
    subst e1
    refine s_176 (S := S) b1 S3 (fun q hq e => ⟨fun z => absurd z (by decide), fun _ => ?_⟩) (fun _ => ⟨fun _ => f0, fun z => absurd rfl z⟩)
    rw [e, n_nat (by omega)]
    rw [e] at f0
    exact ⟨n_in (by omega) (by omega), fun c => absurd ⟨q, hq, e, c⟩ h, fun _ => f0⟩
  refine l_101_0 (s_110 b2 S3 (fun q hq e => ?_) (fun h => ⟨fun _ => l_101_17 ⟨.inl rfl, mf (fun z => ?_)⟩, fun u z => absurd z (by simp)⟩))
  · obtain ⟨c1, ⟨p0, p1, p4, p5, p6, p7, p8, p9, p10⟩, c3, c4, c5⟩ := J.2.2.2.2.1 q hq
    rw [c1]
    refine ⟨fun z => absurd z (by simp), fun u z => ?_⟩
    cases z
    rw [p8]
    refine ⟨fun life => ?_, fun c => l_101_17 ⟨.inl rfl, mf (fun z => ?_)⟩⟩
    · obtain ⟨d1, d2, d3⟩ := J.2.2.2.1
      obtain ⟨pos, hpos, epos⟩ := d3 q hq life
      obtain ⟨t1, i0, hi0, r1, r2⟩ := J.2.2.2.2.2.2.2.1 q hq life
      have st := J.2.2.2.2.2.2.1
      obtain ⟨g1, g2, g3, g4⟩ := st.2.2.1 i0 hi0
      have up : ∀ j, j < K → fA Y xM 49 j = n32 q → j = pos := fun j hj z => d2 j pos hj hpos (z.trans epos.symm)
      refine s_60 b5 h40 b4 K40 J.2.2.1 (fun j hj ej => ?_) (fun z => absurd (epos.trans e.symm) (z pos hpos))
      have ej' := up j hj (ej.trans e)
      subst ej'
      refine s_111 (i0 := i0) st b5 h40 b4 K40 hpos hi0 (by rw [p7, r1, g1]) (fun Y1 k1 k2 k3 k4 k5 k6 k7 k8 k9 k10 k11 k12 => ⟨.inr rfl, hp, l_177_0 (fun Y2 e2 => ?_)⟩)
      have a2 : ∀ k j, fA Y2 xM k j = fA Y xM k j := fun k j => by rw [e2, fA_uI]; exact k7 _ _ _ (by simp) (by simp)
      refine s_176 (S := S) (by rw [e2, fI_uI, if_neg (by simp), k1 _ _ (by simp) (by simp) (by simp) (by simp)]; exact b1) S3 (fun q' hq' e' => ⟨fun z => absurd z (by decide), fun _ => ?_⟩) (fun h => absurd ⟨q, hq, e⟩ h)
      rw [e, n_nat (by omega), show fA Y2 (10, 0, 0) 36 q = fA Y xM 36 q from a2 36 q]
      refine ⟨n_in (by omega) (by omega), fun _ => s_166 (b := rB Y i0) (s := rS Y i0) (by omega) ((a2 42 q).trans (r1.trans g1)) ((a2 43 q).trans (r2.trans g2)) g4 (fun Y4 v1 v2 v3 v4 v5 => ?_), fun z => absurd life z⟩
      have a49 : ∀ i, fA Y4 xM 49 i = fA Y xM 49 i := fun i => by rw [v2, if_neg (by simp), if_neg (by simp), if_neg (by simp)]; exact a2 49 i
      have i32 : fI Y4 xM 32 = n32 K := by rw [v1, e2, fI_uI, if_neg (by simp), k1 _ _ (by simp) (by simp) (by simp) (by simp)]; exact b3
      refine s_175 i32 K40 (fun i hi1 ei => ?_) (fun z => absurd ((a49 j).trans epos) (z j hpos))
      have ei' := up i hi1 ((a49 i).symm.trans ei)
      subst ei'
      refine s_167 i32 K40 hpos (fun Y7 w1 w2 w3 w4 w5 w6 w7 => ⟨.inr rfl, fun _ => ?_, fun z => absurd rfl z⟩)
      -- reads of the last state
      have rI : ∀ u k, ¬ (u = (6, 0, 0) ∧ k = 2) → ¬ (u = (7, 0, 0) ∧ k = 3) → ¬ (u = (9, 0, 0) ∧ k = 10) → ¬ (u = (4, q, 0) ∧ (k = 7 ∨ k = 8)) → ¬ (u = xM ∧ (k = 2 ∨ k = 32 ∨ k = 33)) → fI Y7 u k = fI Y u k := by
        intro u k n1 n2 n3 n4 n5
        rw [w1 u k (fun z => n5 ⟨z.1, .inr z.2⟩), v1, e2, fI_uI, if_neg (fun z => n5 ⟨z.1, .inl z.2⟩)]
        exact k1 u k n1 n2 n3 n4
      have rc : ∀ u k, u ≠ xM → fI Y7 u k = fI Y1 u k := fun u k h => by rw [w1 u k (fun z => h z.1), v1, e2, fI_uI, if_neg (fun z => h z.1)]
      have rA : ∀ u k j, u ≠ xM → fA Y7 u k j = fA Y1 u k j := fun u k j h => by rw [w4, if_neg (fun z => h z.1), v2, if_neg (fun z => h z.1), if_neg (fun z => h z.1), if_neg (fun z => h z.1), e2, fA_uI]
      have rL : ∀ u k j, fL Y7 u k j = fL Y u k j := fun u k j => by rw [w5, v3, e2, fL_uI]; exact k10 u k j
      have rR : ∀ u k j, fR Y7 u k j = fR Y u k j := fun u k j => by rw [w6, v4, e2, fR_uI]; exact k11 u k j
      have rC : fC Y7 = fC Y := by rw [w7, v5, e2, fC_uI]; exact k12
      have aM : ∀ k j, fA Y7 xM k j = if k = 42 ∧ j = q then -1 else if k = 51 ∧ rB Y i0 ≤ j ∧ j < rB Y i0 + rS Y i0 then 0 else if k = 36 ∧ j = q then 2 else if k = 49 ∧ i ≤ j ∧ j + 1 < K then fA Y xM 49 (j + 1) else fA Y xM k j := by
        intro k j
        rw [w4]
        by_cases c : k = 49 ∧ i ≤ j ∧ j + 1 < K
        · rw [if_pos ⟨rfl, c⟩, a49, if_neg (by omega), if_neg (by omega), if_neg (by omega), if_pos c]
        · rw [if_neg (fun z => c z.2), v2, a2]
          by_cases c1 : k = 42 ∧ j = q
          · rw [if_pos ⟨rfl, c1⟩, if_pos c1]
          · rw [if_neg (fun z => c1 z.2), if_neg c1]
            by_cases c2 : k = 51 ∧ rB Y i0 ≤ j ∧ j < rB Y i0 + rS Y i0
            · rw [if_pos ⟨rfl, c2⟩, if_pos c2]
            · rw [if_neg (fun z => c2 z.2), if_neg c2]
              by_cases c3 : k = 36 ∧ j = q
              · rw [if_pos ⟨rfl, c3⟩, if_pos c3]
              · rw [if_neg (fun z => c3 z.2), if_neg c3, if_neg c]
      have x33 : fI Y7 xM 33 = if i = 0 then 0 else fI Y xM 33 := by
        have e33 : fI Y4 xM 33 = fI Y xM 33 := by rw [v1, e2, fI_uI, if_neg (by simp), k1 _ _ (by simp) (by simp) (by simp) (by simp)]
        rw [w3, e33]
      refine H Y7 ⟨⟨P, N, IP_keep I (fun k j hk => by rw [aM, if_neg (by omega), if_neg (by omega), if_neg (by omega), if_neg (by omega)]) (fun p => ⟨fun u k hu => ?_, fun u k j hu => ?_, fun u k j _ => rR u k j, rR _ _ _⟩) (rI _ _ (by simp) (by simp) (by simp) (by simp) (by simp)) (rI _ _ (by simp) (by simp) (by simp) (by simp) (by simp)) (rI _ _ (by simp) (by simp) (by simp) (by simp) (by simp)) (rI _ _ (by simp) (by simp) (by simp) (by simp) (by simp)) (rI _ _ (by simp) (by simp) (by simp) (by simp) (by simp)) (rR _ _ _) (fun _ _ _ z => z)⟩, S, K - 1, hd, IQ_fin (how := 2) I J hq life hpos epos hi0 r1 r2 (by decide) ?_ w2 ?_ ?_ ?_ aM (fun i => rL _ _ _) ?_ ?_ ?_ (fun i' hi' => by rw [rA _ _ _ (by simp)]; exact k8 i' hi') (fun q' k hk => ?_) ?_ ?_ (fun q' k j' => by rw [rA _ _ _ (by simp)]; exact k7 _ _ _ (by simp) (by simp)) (fun q' => rL _ _ _) ?_ (fun j' => by rw [rA _ _ _ (by simp)]; exact k7 _ _ _ (by simp) (by simp)) (fun k i' hk hi' => by rw [rA _ _ _ (by simp)]; exact k9 k i' hk hi') (fun i' => rR _ _ _)⟩ ⟨by rw [rC]; omega, by rw [rC]; omega⟩
      · have t := tP_no hu
        exact rI u k (fun z => t.2.2.2.1 z.1) (fun z => t.2.2.2.2 z.1) (fun z => t.2.1 z.1) (fun z => by have := hu.2; rw [z.1] at this; simp at this) (fun z => t.1 z.1)
      · have t := tP_no hu
        rw [rA u k j t.1]
        exact k7 u k j (fun z => t.2.2.2.1 z.1) (fun z => t.2.2.2.2 z.1)
      · exact (rI _ _ (by simp) (by simp) (by simp) (by simp) (by simp)).trans b1
      · rw [rI _ _ (by simp) (by simp) (by simp) (by simp) (by simp), rI _ _ (by simp) (by simp) (by simp) (by simp) (by simp)]
        exact b8
      · rw [rc _ _ (by simp), k4, x33, b6]
      · rw [rI _ _ (by simp) (by simp) (by simp) (by simp) (by simp), rI _ _ (by simp) (by simp) (by simp) (by simp) (by simp)]
        exact b7
      · exact (rI _ _ (by simp) (by simp) (by simp) (by simp) (by simp)).trans b2
      · exact (rI _ _ (by simp) (by simp) (by simp) (by simp) (by simp)).trans b5
      · rw [rc _ _ (by simp)]
        exact k2
      · exact rI _ _ (by simp) (by simp) (by simp) (fun z => hk (by have := z.1; simp at this; exact ⟨this, z.2⟩)) (by simp)
      · rw [rc _ _ (by simp)]
        exact k5
      · rw [rc _ _ (by simp)]
        exact k6
      · rw [rc _ _ (by simp)]
        exact k3
    · obtain ⟨q', h1, h2, h3⟩ := z
      have : q' = q := (n_eq (by omega) (by omega)).mp (h2.symm.trans e)
      rw [this] at h3
      exact c h3
  · obtain ⟨q', h1, h2, _⟩ := z
    exact h ⟨q', h1, h2⟩
end KI
