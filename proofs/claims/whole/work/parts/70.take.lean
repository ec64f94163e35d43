/-! taking a stretch -/
section TK
variable {V : xV} {g : xG} {Y : xW} {K : Nat}
theorem s_66 {Q : xW → Prop} {k : Nat} {v : Int32} (hk : k < 4096) (H : Q (uA Y (7, 0, 0) 0 k v)) : L_66_0 V g Y (n32 k) v Q := by
  refine l_66_0 ⟨fun z => absurd z (n_ge0 (by omega)), fun _ => ⟨fun z => absurd ((n_le (a := 4096) (by omega) (by omega)).mp z) (by omega), fun _ => ⟨n_in hk (by omega), fun Y1 e1 => l_66_18 ?_⟩⟩⟩
  rw [n_nat (by omega)] at e1
  rw [e1]
  exact H
theorem gap_no (s : ST Y (fA Y xM) K) {i n : Nat} (hi : i ≤ K) (hn : 1 ≤ n) (hg : n ≤ gE Y K i - gB Y i) : (∀ j, j < i → rB Y j < gB Y i) ∧ (∀ j, i ≤ j → j < K → gB Y i + n ≤ rB Y j) ∧ gB Y i + n ≤ 4096 := by
  have gl := gap_le s hi
  have g4 := gE_le s (i := i)
  refine ⟨fun j hj => ?_, fun j hj hjK => ?_, by omega⟩
  · cases i with
    | zero => omega
    | succ i =>
      rw [gB_s]
      have r1 := (s.2.2.1 i (by omega)).2.2.1
      by_cases e : j = i
      · subst e; omega
      · have := st_lt s (show j < i by omega) (by omega)
        have := (s.2.2.1 j (by omega)).2.2.1
        omega
  · have e : gE Y K i = rB Y i := by unfold gE; exact if_pos (by omega)
    by_cases c : j = i
    · subst c; omega
    · have := st_lt s (show i < j by omega) hjK
      omega
theorem s_73 {Q : xW → Prop} {i n : Nat} (s : ST Y (fA Y xM) K) (hK : K < 40) (hi : i ≤ K) (hn : 1 ≤ n) (hg : n ≤ gE Y K i - gB Y i) (H : ∀ Y', (∀ u k, ¬ (u = (7, 0, 0) ∧ k = 3) → fI Y' u k = fI Y u k) → fI Y' (7, 0, 0) 3 = n32 (K + 1) → (∀ u k j, u ≠ (7, 0, 0) → fA Y' u k j = fA Y u k j) → (∀ j, fA Y' (7, 0, 0) 0 j = if gB Y i ≤ j ∧ j < gB Y i + n then 0 else fA Y (7, 0, 0) 0 j) → (∀ j, j < K + 1 → fA Y' (7, 0, 0) 1 j = if j < i then fA Y (7, 0, 0) 1 j else if j = i then n32 (gB Y i) else fA Y (7, 0, 0) 1 (j - 1)) → (∀ j, j < K + 1 → fA Y' (7, 0, 0) 2 j = if j < i then fA Y (7, 0, 0) 2 j else if j = i then n32 n else fA Y (7, 0, 0) 2 (j - 1)) → (∀ u k j, fL Y' u k j = fL Y u k j) → (∀ u k j, fR Y' u k j = fR Y u k j) → fC Y' = fC Y → Q Y') : L_73_0 V g Y (n32 (gB Y i)) (n32 n) Q := by
  obtain ⟨n1, n2, n3⟩ := gap_no s hi hn hg
  have zero : ∀ m t (Y1 Y3 : xW) l3, t + m = n → (∀ u k, fI Y1 u k = fI Y3 u k) → (∀ u k j, fA Y1 u k j = if u = (7, 0, 0) ∧ k = 0 ∧ gB Y i ≤ j ∧ j < gB Y i + t then 0 else fA Y3 u k j) → (∀ u k j, fL Y1 u k j = fL Y3 u k j) → (∀ u k j, fR Y1 u k j = fR Y3 u k j) → fC Y1 = fC Y3 → (∀ Y', (∀ u k, fI Y' u k = fI Y3 u k) → (∀ u k j, fA Y' u k j = if u = (7, 0, 0) ∧ k = 0 ∧ gB Y i ≤ j ∧ j < gB Y i + n then 0 else fA Y3 u k j) → (∀ u k j, fL Y' u k j = fL Y3 u k j) → (∀ u k j, fR Y' u k j = fR Y3 u k j) → fC Y' = fC Y3 → Q Y') → L_73_109 V g Y1 (n32 (gB Y i)) (n32 n) l3 (n32 t) Q := by
    intro m
    induction m with
    | zero =>
      intro t Y1 Y3 l3 e q1 q2 q3 q4 q5 HQ
      have e' : t = n := by omega
      subst e'
      exact l_73_109 ⟨fun _ => HQ Y1 q1 q2 q3 q4 q5, fun z => absurd ((n_le (by omega) (by omega)).mpr (Nat.le_refl _)) z⟩
    | succ m ih =>
      intro t Y1 Y3 l3 e q1 q2 q3 q4 q5 HQ
      refine l_73_109 ⟨fun z => absurd ((n_le (by omega) (by omega)).mp z) (by omega), fun _ => ?_⟩
      rw [n_add, show n32 t + 1 = n32 (t + 1) from n_add t 1]
      refine s_66 (by omega) (ih (t + 1) _ Y3 l3 (by omega) (fun u k => q1 u k) (fun u k j => ?_) (fun u k j => q3 u k j) (fun u k j => q4 u k j) q5 HQ)
      rw [fA_uA, q2]
      by_cases c : u = (7, 0, 0) ∧ k = 0 ∧ j = gB Y i + t
      · rw [if_pos c, if_pos ⟨c.1, c.2.1, by omega, by omega⟩]
      · rw [if_neg c]
        by_cases c2 : u = (7, 0, 0) ∧ k = 0 ∧ gB Y i ≤ j ∧ j < gB Y i + t
        · rw [if_pos c2, if_pos ⟨c2.1, c2.2.1, c2.2.2.1, by omega⟩]
        · rw [if_neg c2, if_neg (fun z => ?_)]
          by_cases c3 : j = gB Y i + t
          · exact c ⟨z.1, z.2.1, c3⟩
          · exact c2 ⟨z.1, z.2.1, z.2.2.1, by omega⟩
  have sh : ∀ m x (Y1 : xW), x = i + m → x ≤ K → (∀ u k, fI Y1 u k = fI Y u k) → (∀ u k j, ¬ (u = (7, 0, 0) ∧ (k = 1 ∨ k = 2)) → fA Y1 u k j = fA Y u k j) → (∀ k j, (k = 1 ∨ k = 2) → fA Y1 (7, 0, 0) k j = if x < j ∧ j < K + 1 then fA Y (7, 0, 0) k (j - 1) else fA Y (7, 0, 0) k j) → (∀ u k j, fL Y1 u k j = fL Y u k j) → (∀ u k j, fR Y1 u k j = fR Y u k j) → fC Y1 = fC Y → L_73_21 V g Y1 (n32 (gB Y i)) (n32 n) (n32 x) (n32 x) Q := by
    intro m
    induction m with
    | zero =>
      intro x Y1 ex hx q1 q2 q3 q4 q5 q6
      have ex' : x = i := by omega
      subst ex'
      have go : L_73_82 V g Y1 (n32 (gB Y x)) (n32 n) (n32 x) (n32 x) Q := by
        refine l_73_82 ⟨n_in (by omega) (by omega), fun Y2 e2 => ⟨n_in (by omega) (by omega), fun Y3 e3 Y4 e4 => ?_⟩⟩
        rw [n_nat (by omega)] at e2 e3
        have e3' : fI Y3 (7, 0, 0) 3 = n32 K := by rw [e3, e2]; exact (q1 _ _).trans s.1
        rw [e3', show n32 K + 1 = n32 (K + 1) from n_add K 1] at e4
        have rd : ∀ u k j, fA Y4 u k j = if u = (7, 0, 0) ∧ k = 2 ∧ j = x then n32 n else if u = (7, 0, 0) ∧ k = 1 ∧ j = x then n32 (gB Y x) else fA Y1 u k j := fun u k j => by rw [e4, fA_uI, e3, fA_uA, e2, fA_uA]
        refine zero n 0 Y4 Y4 _ (by omega) (fun _ _ => rfl) (fun u k j => by rw [if_neg (fun z => by omega)]) (fun _ _ _ => rfl) (fun _ _ _ => rfl) rfl (fun Y5 w1 w2 w3 w4 w5 => H Y5 (fun u k hu => ?_) ?_ (fun u k j hu => ?_) (fun j => ?_) (fun j hj => ?_) (fun j hj => ?_) (fun u k j => ?_) (fun u k j => ?_) ?_)
        · rw [w1, e4, fI_uI, if_neg hu, e3, e2]; exact q1 u k
        · rw [w1, e4, fI_uI, if_pos ⟨rfl, rfl⟩]
        · rw [w2, if_neg (fun z => hu z.1), rd, if_neg (fun z => hu z.1), if_neg (fun z => hu z.1)]; exact q2 u k j (fun z => hu z.1)
        · rw [w2, rd, if_neg (c := ((7, 0, 0) : xT) = (7, 0, 0) ∧ 0 = 2 ∧ j = x) (by simp), if_neg (c := ((7, 0, 0) : xT) = (7, 0, 0) ∧ 0 = 1 ∧ j = x) (by simp), q2 _ _ _ (by simp)]
          by_cases c : gB Y x ≤ j ∧ j < gB Y x + n
          · rw [if_pos ⟨rfl, rfl, c⟩, if_pos c]
          · rw [if_neg (fun z => c z.2.2), if_neg c]
        · rw [w2, if_neg (by simp), rd, if_neg (by simp)]
          by_cases c : j = x
          · rw [if_pos ⟨rfl, rfl, c⟩, if_neg (by omega), if_pos c]
          · rw [if_neg (fun z => c z.2.2), q3 1 j (.inl rfl)]
            by_cases c2 : j < x
            · rw [if_neg (by omega), if_pos c2]
            · rw [if_pos (by omega), if_neg c2, if_neg c]
        · rw [w2, if_neg (by simp), rd]
          by_cases c : j = x
          · rw [if_pos ⟨rfl, rfl, c⟩, if_neg (by omega), if_pos c]
          · rw [if_neg (fun z => c z.2.2), if_neg (by simp), q3 2 j (.inr rfl)]
            by_cases c2 : j < x
            · rw [if_neg (by omega), if_pos c2]
            · rw [if_pos (by omega), if_neg c2, if_neg c]
        · rw [w3, e4, e3, e2]; exact q4 u k j
        · rw [w4, e4, e3, e2]; exact q5 u k j
        · rw [w5, e4, e3, e2]; exact q6
      refine l_73_21 ⟨fun _ => go, fun z => ?_⟩
      have x0 : 0 < x := by
        have := mt (n_le (b := 0) (by omega) (by omega)).mpr z
        omega
      rw [show n32 x - 1 = n32 (x - 1) from n_sub (b := 1) (by omega), n_nat (by omega)]
      refine ⟨n_in (by omega) (by omega), fun _ => go, fun c => absurd ?_ c⟩
      have := n1 (x - 1) (by omega)
      have g4 := (s.2.2.1 (x - 1) (by omega)).2.2.2
      rw [q3 1 _ (.inl rfl), if_neg (by omega), (s.2.2.1 (x - 1) (by omega)).1, n_le (by omega) (by omega)]
      omega
    | succ m ih =>
      intro x Y1 ex hx q1 q2 q3 q4 q5 q6
      refine l_73_21 ⟨fun z => absurd ((n_le (b := 0) (by omega) (by omega)).mp z) (by omega), fun _ => ?_⟩
      have g4 := (s.2.2.1 (x - 1) (by omega)).2.2.2
      have gt := n2 (x - 1) (by omega) (by omega)
      rw [show n32 x - 1 = n32 (x - 1) from n_sub (b := 1) (by omega), n_nat (show x - 1 < 2147483648 by omega), n_nat (show x < 2147483648 by omega), show n32 x + (-1) = n32 (x - 1) from (Int32.sub_eq_add_neg _ _).symm.trans (n_sub (b := 1) (by omega))]
      refine ⟨n_in (by omega) (by omega), fun c => ?_, fun c => ⟨n_in (by omega) (by omega), n_in (by omega) (by omega), fun Y2 e2 => ⟨n_in (by omega) (by omega), n_in (by omega) (by omega), fun Y3 e3 => ?_⟩⟩⟩
      · rw [q3 1 _ (.inl rfl), if_neg (by omega), (s.2.2.1 (x - 1) (by omega)).1, n_le (by omega) (by omega)] at c
        omega
      · have ea1 : fA Y1 (7, 0, 0) 1 (x - 1) = fA Y (7, 0, 0) 1 (x - 1) := by rw [q3 1 _ (.inl rfl), if_neg (by omega)]
        have ea2 : fA Y2 (7, 0, 0) 2 (x - 1) = fA Y (7, 0, 0) 2 (x - 1) := by rw [e2, fA_uA, if_neg (by simp), q3 2 _ (.inr rfl), if_neg (by omega)]
        have rd : ∀ u k j, fA Y3 u k j = if u = (7, 0, 0) ∧ k = 2 ∧ j = x then fA Y (7, 0, 0) 2 (x - 1) else if u = (7, 0, 0) ∧ k = 1 ∧ j = x then fA Y (7, 0, 0) 1 (x - 1) else fA Y1 u k j := fun u k j => by rw [e3, fA_uA, ea2, e2, fA_uA, ea1]
        refine ih (x - 1) Y3 (by omega) (by omega) (fun u k => by rw [e3, e2]; exact q1 u k) (fun u k j hu => ?_) (fun k j hk => ?_) (fun u k j => by rw [e3, e2]; exact q4 u k j) (fun u k j => by rw [e3, e2]; exact q5 u k j) (by rw [e3, e2]; exact q6)
        · rw [rd, if_neg (fun z => hu ⟨z.1, .inr z.2.1⟩), if_neg (fun z => hu ⟨z.1, .inl z.2.1⟩)]
          exact q2 u k j hu
        · rw [rd]
          by_cases c3 : j = x
          · subst c3
            rw [if_pos (c := j - 1 < j ∧ j < K + 1) (by omega)]
            rcases hk with rfl | rfl
            · rw [if_neg (by simp), if_pos ⟨rfl, rfl, rfl⟩]
            · rw [if_pos ⟨rfl, rfl, rfl⟩]
          · rw [if_neg (fun z => c3 z.2.2), if_neg (fun z => c3 z.2.2), q3 k j hk]
            by_cases c4 : x < j ∧ j < K + 1
            · rw [if_pos c4, if_pos (by omega)]
            · rw [if_neg c4, if_neg (by omega)]
  refine l_73_0 ?_
  rw [s.1]
  exact ⟨fun _ => sh (K - i) K Y (by omega) (Nat.le_refl _) (fun _ _ => rfl) (fun _ _ _ _ => rfl) (fun k j _ => by rw [if_neg (by omega)]) (fun _ _ _ => rfl) (fun _ _ _ => rfl) rfl, fun z => absurd ((n_lt (b := 40) (by omega) (by omega)).mpr hK) z⟩
/-- the reference's search -/
theorem s_165_s {g1 : xG} {Yx : xW} {Q : Int32 → xW → Prop} {x1 : Int32} {n : Nat} (hx : ∀ k, fA Yx xM 51 k = fA Y xM 51 k) (s : ST Y (fA Y xM) K) (hK : K ≤ 40) (hn1 : 1 ≤ n) (hn : n < 2147483648) (H1 : ∀ i, i ≤ K → n ≤ gE Y K i - gB Y i → (∀ j, j < i → gE Y K j - gB Y j < n) → ∀ a b, L_165_101 V g1 Yx x1 (n32 n) (n32 (gB Y i)) a b Q) (H0 : (∀ i, i ≤ K → gE Y K i - gB Y i < n) → ∀ a b, L_165_101 V g1 Yx x1 (n32 n) (-1) a b Q) : L_165_50 V g1 Yx x1 (n32 n) (-1) 0 0 Q := by
  have reg : ∀ i, i < K → L_165_50 V g1 Yx x1 (n32 n) (-1) 0 (n32 (gB Y (i + 1))) Q → ∀ m t r, t + m = rS Y i → (m = 0 → r = 0) → L_165_50 V g1 Yx x1 (n32 n) (-1) r (n32 (rB Y i + t)) Q := by
    intro i hi nx m
    induction m with
    | zero =>
      intro t r e hr
      rw [gB_s] at nx
      rw [hr rfl, show t = rS Y i from by omega]
      exact nx
    | succ m ih =>
      intro t r e hr
      have b4 := (s.2.2.1 i hi).2.2.2
      refine l_165_50 ⟨fun z => absurd ((n_le (a := 4096) (by omega) (by omega)).mp z) (by omega), fun _ => ⟨fun z => absurd z (by decide), fun _ => ⟨n_in (by omega) (by omega), ?_⟩⟩⟩
      rw [n_nat (by omega), show fA Yx (10, 0, 0) 51 (rB Y i + t) = fA Y xM 51 (rB Y i + t) from hx _, reg_taken s hi (by omega) (by omega)]
      refine ⟨fun z => absurd z (by decide), fun _ => l_165_80 ⟨fun z => ?_, fun _ => l_165_95 ?_⟩⟩
      · have := (n_eq (a := 0) (by omega) hn).mp z
        omega
      · rw [show n32 (rB Y i + t) + 1 = n32 (rB Y i + (t + 1)) from n_add _ 1]
        exact ih (t + 1) 0 (by omega) (fun _ => rfl)
  have gap : ∀ i, i ≤ K → (∀ j, j < i → gE Y K j - gB Y j < n) → (gE Y K i - gB Y i < n → ∀ r, L_165_50 V g1 Yx x1 (n32 n) (-1) r (n32 (gE Y K i)) Q) → ∀ m t, t + m = gE Y K i - gB Y i → t < n → L_165_50 V g1 Yx x1 (n32 n) (-1) (n32 t) (n32 (gB Y i + t)) Q := by
    intro i hi hj nx m
    have gl := gap_le s hi
    have g4 := gE_le s (i := i)
    induction m with
    | zero =>
      intro t e ht
      have := nx (by omega) (n32 t)
      rw [show gE Y K i = gB Y i + t from by omega] at this
      exact this
    | succ m ih =>
      intro t e ht
      refine l_165_50 ⟨fun z => absurd ((n_le (a := 4096) (by omega) (by omega)).mp z) (by omega), fun _ => ⟨fun z => absurd z (by decide), fun _ => ⟨n_in (by omega) (by omega), ?_⟩⟩⟩
      rw [n_nat (by omega), show fA Yx (10, 0, 0) 51 (gB Y i + t) = fA Y xM 51 (gB Y i + t) from hx _, gap_free s hi (by omega) (by omega), show n32 t + 1 = n32 (t + 1) from n_add t 1]
      refine ⟨fun _ => l_165_80 ⟨fun z => l_165_95 ?_, fun z => l_165_95 ?_⟩, fun z => absurd rfl z⟩
      · have z' := (n_eq (by omega) hn).mp z
        have ea : n32 (gB Y i + t) - n32 n + 1 = n32 (gB Y i) := by
          rw [i_eq]
          have e1 : (1 : Int32).toInt = 1 := rfl
          rw [i_add, i_sub, n_toInt (by omega), n_toInt (by omega), n_toInt (by omega), e1]
          · omega
          · rw [n_toInt (by omega), n_toInt (by omega)]; omega
          · rw [n_toInt (by omega), n_toInt (by omega)]; omega
          · rw [i_sub, n_toInt (by omega), n_toInt (by omega), e1]
            · omega
            · rw [n_toInt (by omega), n_toInt (by omega)]; omega
            · rw [n_toInt (by omega), n_toInt (by omega)]; omega
          · rw [i_sub, n_toInt (by omega), n_toInt (by omega), e1]
            · omega
            · rw [n_toInt (by omega), n_toInt (by omega)]; omega
            · rw [n_toInt (by omega), n_toInt (by omega)]; omega
        rw [ea]
        have fin := H1 i hi (by omega) hj
        refine l_165_50 ⟨fun _ => fin _ _, fun _ => ⟨fun _ => fin _ _, fun z2 => absurd ?_ z2⟩⟩
        rw [i_le, t0, n_toInt (by omega)]
        omega
      · rw [show n32 (gB Y i + t) + 1 = n32 (gB Y i + (t + 1)) from n_add _ 1]
        have : t + 1 ≠ n := fun y => z (by rw [y])
        exact ih (t + 1) (by omega) (by omega)
  have main : ∀ m i, i + m = K → (∀ j, j < i → gE Y K j - gB Y j < n) → L_165_50 V g1 Yx x1 (n32 n) (-1) 0 (n32 (gB Y i)) Q := by
    intro m
    induction m with
    | zero =>
      intro i e hj
      have e' : i = K := by omega
      subst e'
      refine gap i (Nat.le_refl _) hj (fun hlt r => ?_) (gE Y i i - gB Y i) 0 (by omega) (by omega)
      rw [show gE Y i i = 4096 from by unfold gE; exact if_neg (by omega)]
      refine l_165_50 ⟨fun _ => H0 (fun j hj2 => ?_) _ _, fun z => absurd ((n_le (a := 4096) (by omega) (by omega)).mpr (by omega)) z⟩
      by_cases c : j = i
      · rw [c]; exact hlt
      · exact hj j (by omega)
    | succ m ih =>
      intro i e hj
      have s1 := (s.2.2.1 i (by omega)).2.2.1
      refine gap i (by omega) hj (fun hlt r => ?_) (gE Y K i - gB Y i) 0 (by omega) (by omega)
      rw [show gE Y K i = rB Y i from by unfold gE; exact if_pos (by omega)]
      refine reg i (by omega) (ih (i + 1) (by omega) (fun j hj2 => ?_)) (rS Y i) 0 r (by omega) (fun z => by omega)
      by_cases c : j = i
      · rw [c]; exact hlt
      · exact hj j (by omega)
  exact main K 0 (by omega) (fun j hj => by omega)
end TK
