/-! queue and store: the steps -/
section QS
variable {V : xV} {g : xG} {Y : xW} {K hd : Nat}
theorem e_59 {x : Int32} {Q : Int32 → xW → Prop} {i : Nat} (hx : x = n32 i) (h : fI Y (6, 0, 0) 1 = n32 hd) (hh : hd < 40) (hk : fI Y (6, 0, 0) 2 = n32 K) (hi : i < K) (hK : K ≤ 40) (H : Q (fA Y (6, 0, 0) 0 ((hd + i) % 40)) Y) : L_59_0 V g Y x Q := by
  rw [hx]
  exact s_59 h hh hk hi hK H
theorem s_63 {Q : xW → Prop} {pos : Nat} (h1 : fI Y (6, 0, 0) 1 = n32 hd) (hh : hd < 40) (hk : fI Y (6, 0, 0) 2 = n32 K) (hK : K ≤ 40) (hp : pos < K) (H : ∀ Y', (∀ u k, ¬ (u = (6, 0, 0) ∧ k = 2) → fI Y' u k = fI Y u k) → fI Y' (6, 0, 0) 2 = n32 (K - 1) → (∀ u k j, ¬ (u = (6, 0, 0) ∧ k = 0) → fA Y' u k j = fA Y u k j) → (∀ i, i < K - 1 → fA Y' (6, 0, 0) 0 ((hd + i) % 40) = fA Y (6, 0, 0) 0 ((hd + (if i < pos then i else i + 1)) % 40)) → (∀ u k j, fL Y' u k j = fL Y u k j) → (∀ u k j, fR Y' u k j = fR Y u k j) → fC Y' = fC Y → Q Y') : L_63_0 V g Y (n32 pos) Q := by
  have lp : ∀ m i (Y1 : xW), i + m = K - 1 → pos ≤ i → (∀ u k, fI Y1 u k = fI Y u k) → (∀ u k j, ¬ (u = (6, 0, 0) ∧ k = 0) → fA Y1 u k j = fA Y u k j) → (∀ j, j < K → fA Y1 (6, 0, 0) 0 ((hd + j) % 40) = fA Y (6, 0, 0) 0 ((hd + (if pos ≤ j ∧ j < i then j + 1 else j)) % 40)) → (∀ u k j, fL Y1 u k j = fL Y u k j) → (∀ u k j, fR Y1 u k j = fR Y u k j) → fC Y1 = fC Y → L_63_15 V g Y1 (n32 pos) (n32 i) Q := by
    intro m
    induction m with
    | zero =>
      intro i Y1 e hpi q1 q2 q3 q4 q5 q6
      refine l_63_15 ?_
      rw [q1, hk, show n32 K - 1 = n32 (K - 1) from n_sub (b := 1) (by omega), n_le (by omega) (by omega)]
      refine ⟨fun _ Y2 e2 => H Y2 (fun u k hu => by rw [e2, fI_uI, if_neg hu]; exact q1 u k) (by rw [e2, fI_uI, if_pos ⟨rfl, rfl⟩]) (fun u k j hu => by rw [e2]; exact q2 u k j hu) (fun j hj => ?_) (fun u k j => by rw [e2]; exact q4 u k j) (fun u k j => by rw [e2]; exact q5 u k j) (by rw [e2]; exact q6), fun z => absurd (by omega) z⟩
      rw [e2, fA_uI, q3 j (by omega)]
      by_cases c : j < pos
      · rw [if_neg (by omega), if_pos c]
      · rw [if_pos (by omega), if_neg c]
    | succ m ih =>
      intro i Y1 e hpi q1 q2 q3 q4 q5 q6
      have h1' : fI Y1 (6, 0, 0) 1 = n32 hd := (q1 _ _).trans h1
      have hk' : fI Y1 (6, 0, 0) 2 = n32 K := (q1 _ _).trans hk
      refine l_63_15 ?_
      rw [hk', show n32 K - 1 = n32 (K - 1) from n_sub (b := 1) (by omega), n_le (by omega) (by omega), show n32 i + 1 = n32 (i + 1) from n_add i 1]
      refine ⟨fun z => absurd z (by omega), fun _ => s_58 h1' hh (by omega) (s_59 h1' hh hk' (by omega) hK ?_)⟩
      have m40 : (hd + i) % 40 < 40 := Nat.mod_lt _ (by omega)
      rw [n_nat (by omega)]
      refine ⟨n_in m40 (by omega), fun Y6 e6 => ih (i + 1) Y6 (by omega) (by omega) (fun u k => by rw [e6]; exact q1 u k) (fun u k j hu => ?_) (fun j hj => ?_) (fun u k j => by rw [e6]; exact q4 u k j) (fun u k j => by rw [e6]; exact q5 u k j) (by rw [e6]; exact q6)⟩
      · rw [e6, fA_uA, if_neg (fun z => hu ⟨z.1, z.2.1⟩)]
        exact q2 u k j hu
      · rw [e6, fA_uA]
        by_cases c : j = i
        · subst c
          rw [if_pos ⟨rfl, rfl, rfl⟩, if_pos (by omega), q3 (j + 1) (by omega), if_neg (by omega)]
        · rw [if_neg (fun z => c (by have := z.2.2; omega)), q3 j hj]
          by_cases c2 : pos ≤ j ∧ j < i
          · rw [if_pos c2, if_pos (by omega)]
          · rw [if_neg c2, if_neg (by omega)]
  refine l_63_0 ⟨fun z => absurd z (n_ge0 (by omega)), fun _ => ⟨fun _ => lp (K - 1 - pos) pos Y (by omega) (Nat.le_refl _) (fun _ _ => rfl) (fun _ _ _ _ => rfl) (fun j hj => by rw [if_neg (by omega)]) (fun _ _ _ => rfl) (fun _ _ _ => rfl) rfl, fun z => absurd ?_ z⟩⟩
  rw [hk, n_lt (by omega) (by omega)]
  exact hp
theorem s_167 {Q : xW → Prop} {pos : Nat} (hk : fI Y xM 32 = n32 K) (hK : K ≤ 40) (hp : pos < K) (H : ∀ Y', (∀ u k, ¬ (u = xM ∧ (k = 32 ∨ k = 33)) → fI Y' u k = fI Y u k) → fI Y' xM 32 = n32 (K - 1) → fI Y' xM 33 = (if pos = 0 then 0 else fI Y xM 33) → (∀ u k j, fA Y' u k j = if u = xM ∧ k = 49 ∧ pos ≤ j ∧ j + 1 < K then fA Y xM 49 (j + 1) else fA Y u k j) → (∀ u k j, fL Y' u k j = fL Y u k j) → (∀ u k j, fR Y' u k j = fR Y u k j) → fC Y' = fC Y → Q Y') : L_167_0 V g Y (n32 pos) Q := by
  have lp : ∀ m i (Y1 : xW), i + m = K → pos < i → (∀ u k, fI Y1 u k = fI Y u k) → (∀ u k j, fA Y1 u k j = if u = xM ∧ k = 49 ∧ pos ≤ j ∧ j + 1 < i then fA Y xM 49 (j + 1) else fA Y u k j) → (∀ u k j, fL Y1 u k j = fL Y u k j) → (∀ u k j, fR Y1 u k j = fR Y u k j) → fC Y1 = fC Y → L_167_4 V g Y1 (n32 pos) (n32 i) Q := by
    intro m
    induction m with
    | zero =>
      intro i Y1 e hpi q1 q2 q4 q5 q6
      have e' : i = K := by omega
      subst e'
      refine l_167_4 ?_
      rw [show fI Y1 (10, 0, 0) 32 = n32 i from (q1 _ _).trans hk, n_le (by omega) (by omega)]
      refine ⟨fun _ Y2 e2 => ?_, fun z => absurd (Nat.le_refl _) z⟩
      rw [show n32 i - 1 = n32 (i - 1) from n_sub (b := 1) (by omega)] at e2
      refine ⟨fun c Y3 e3 => l_167_51 ?_, fun c => l_167_51 ?_⟩
      · have p0 := (n_eq0 (by omega)).mp c
        refine H Y3 (fun u k hu => ?_) ?_ ?_ (fun u k j => ?_) (fun u k j => by rw [e3, e2]; exact q4 u k j) (fun u k j => by rw [e3, e2]; exact q5 u k j) (by rw [e3, e2]; exact q6)
        · rw [e3, fI_uI, if_neg (fun z => hu ⟨z.1, .inr z.2⟩), e2, fI_uI, if_neg (fun z => hu ⟨z.1, .inl z.2⟩)]
          exact q1 u k
        · rw [e3, fI_uI, if_neg (by simp), e2, fI_uI, if_pos ⟨rfl, rfl⟩]
        · rw [if_pos p0, e3, fI_uI, if_pos ⟨rfl, rfl⟩]
        · rw [e3, fA_uI, e2, fA_uI]
          exact q2 u k j
      · have p0 : ¬ pos = 0 := fun z => c ((n_eq0 (by omega)).mpr z)
        refine H Y2 (fun u k hu => ?_) ?_ ?_ (fun u k j => ?_) (fun u k j => by rw [e2]; exact q4 u k j) (fun u k j => by rw [e2]; exact q5 u k j) (by rw [e2]; exact q6)
        · rw [e2, fI_uI, if_neg (fun z => hu ⟨z.1, .inl z.2⟩)]
          exact q1 u k
        · rw [e2, fI_uI, if_pos ⟨rfl, rfl⟩]
        · rw [if_neg p0, e2, fI_uI, if_neg (by simp)]
          exact q1 _ _
        · rw [e2, fA_uI]
          exact q2 u k j
    | succ m ih =>
      intro i Y1 e hpi q1 q2 q4 q5 q6
      refine l_167_4 ?_
      rw [show fI Y1 (10, 0, 0) 32 = n32 K from (q1 _ _).trans hk, n_le (by omega) (by omega), show n32 i - 1 = n32 (i - 1) from n_sub (b := 1) (by omega), n_nat (by omega), n_nat (by omega), show n32 i + 1 = n32 (i + 1) from n_add i 1]
      refine ⟨fun z => absurd z (by omega), fun _ => ⟨n_in (by omega) (by omega), n_in (by omega) (by omega), fun Y3 e3 => ih (i + 1) Y3 (by omega) (by omega) (fun u k => by rw [e3]; exact q1 u k) (fun u k j => ?_) (fun u k j => by rw [e3]; exact q4 u k j) (fun u k j => by rw [e3]; exact q5 u k j) (by rw [e3]; exact q6)⟩⟩
      rw [e3, fA_uA]
      by_cases c : u = xM ∧ k = 49 ∧ j = i - 1
      · rw [if_pos c, if_pos ⟨c.1, c.2.1, by omega, by omega⟩, q2, if_neg (fun z => by omega)]
        have : j + 1 = i := by omega
        rw [this]
      · rw [if_neg c, q2]
        by_cases c2 : u = xM ∧ k = 49 ∧ pos ≤ j ∧ j + 1 < i
        · rw [if_pos c2, if_pos ⟨c2.1, c2.2.1, c2.2.2.1, by omega⟩]
        · rw [if_neg c2, if_neg (fun z => ?_)]
          by_cases c3 : j = i - 1
          · exact c ⟨z.1, z.2.1, c3⟩
          · exact c2 ⟨z.1, z.2.1, z.2.2.1, by omega⟩
  refine l_167_0 ?_
  rw [show n32 pos + 1 = n32 (pos + 1) from n_add pos 1]
  exact lp (K - (pos + 1)) (pos + 1) Y (by omega) (by omega) (fun _ _ => rfl) (fun u k j => by rw [if_neg (fun z => by omega)]) (fun _ _ _ => rfl) (fun _ _ _ => rfl) rfl
theorem s_166 {Q : xW → Prop} {q b s : Nat} {how : Int32} (hq : q < 300) (hb : fA Y xM 42 q = n32 b) (hs : fA Y xM 43 q = n32 s) (h4 : b + s ≤ 4096) (H : ∀ Y', (∀ u k, fI Y' u k = fI Y u k) → (∀ u k j, fA Y' u k j = if u = xM ∧ k = 42 ∧ j = q then -1 else if u = xM ∧ k = 51 ∧ b ≤ j ∧ j < b + s then 0 else if u = xM ∧ k = 36 ∧ j = q then how else fA Y u k j) → (∀ u k j, fL Y' u k j = fL Y u k j) → (∀ u k j, fR Y' u k j = fR Y u k j) → fC Y' = fC Y → Q Y') : L_166_0 V g Y (n32 q) how Q := by
  have iq := n_in hq (show 300 ≤ 2147483648 by omega)
  have lp : ∀ m i (Y1 : xW), i + m = b + s → b ≤ i → (∀ u k, fI Y1 u k = fI Y u k) → (∀ u k j, fA Y1 u k j = if u = xM ∧ k = 51 ∧ b ≤ j ∧ j < i then 0 else if u = xM ∧ k = 36 ∧ j = q then how else fA Y u k j) → (∀ u k j, fL Y1 u k j = fL Y u k j) → (∀ u k j, fR Y1 u k j = fR Y u k j) → fC Y1 = fC Y → L_166_14 V g Y1 (n32 q) how (n32 i) Q := by
    intro m
    induction m with
    | zero =>
      intro i Y1 e hbi q1 q2 q4 q5 q6
      have e' : i = b + s := by omega
      subst e'
      refine l_166_14 ?_
      rw [n_nat (by omega), show fA Y1 (10, 0, 0) 42 q = n32 b from by rw [q2, if_neg (by simp), if_neg (by simp)]; exact hb, show fA Y1 (10, 0, 0) 43 q = n32 s from by rw [q2, if_neg (by simp), if_neg (by simp)]; exact hs, n_add, n_le (by omega) (by omega)]
      refine ⟨iq, iq, fun _ => ⟨iq, fun Y2 e2 => H Y2 (fun u k => by rw [e2]; exact q1 u k) (fun u k j => ?_) (fun u k j => by rw [e2]; exact q4 u k j) (fun u k j => by rw [e2]; exact q5 u k j) (by rw [e2]; exact q6)⟩, fun z => absurd (Nat.le_refl _) z⟩
      rw [e2, fA_uA, q2]
    | succ m ih =>
      intro i Y1 e hbi q1 q2 q4 q5 q6
      refine l_166_14 ?_
      rw [n_nat (show q < 2147483648 by omega), show fA Y1 (10, 0, 0) 42 q = n32 b from by rw [q2, if_neg (by simp), if_neg (by simp)]; exact hb, show fA Y1 (10, 0, 0) 43 q = n32 s from by rw [q2, if_neg (by simp), if_neg (by simp)]; exact hs, n_add, n_le (by omega) (by omega), n_nat (show i < 2147483648 by omega), show n32 i + 1 = n32 (i + 1) from n_add i 1]
      refine ⟨iq, iq, fun z => absurd z (by omega), fun _ => ⟨n_in (by omega) (by omega), fun Y3 e3 => ih (i + 1) Y3 (by omega) (by omega) (fun u k => by rw [e3]; exact q1 u k) (fun u k j => ?_) (fun u k j => by rw [e3]; exact q4 u k j) (fun u k j => by rw [e3]; exact q5 u k j) (by rw [e3]; exact q6)⟩⟩
      rw [e3, fA_uA, q2]
      by_cases c : u = xM ∧ k = 51 ∧ j = i
      · rw [if_pos c, if_pos ⟨c.1, c.2.1, by omega, by omega⟩]
        rfl
      · rw [if_neg c]
        by_cases c2 : u = xM ∧ k = 51 ∧ b ≤ j ∧ j < i
        · rw [if_pos c2, if_pos ⟨c2.1, c2.2.1, c2.2.2.1, by omega⟩]
        · rw [if_neg c2, if_neg (c := u = xM ∧ k = 51 ∧ b ≤ j ∧ j < i + 1) (fun z => ?_)]
          by_cases c3 : j = i
          · exact c ⟨z.1, z.2.1, c3⟩
          · exact c2 ⟨z.1, z.2.1, z.2.2.1, by omega⟩
  refine l_166_0 ⟨iq, fun Y1 e1 => ⟨iq, ?_⟩⟩
  rw [n_nat (by omega)] at e1
  have e42 : fA Y1 (10, 0, 0) 42 (Int32.toNatClampNeg (n32 q)) = n32 b := by rw [n_nat (by omega), e1, fA_uA, if_neg (by simp)]; exact hb
  rw [e42]
  exact lp s b Y1 rfl (Nat.le_refl _) (fun u k => by rw [e1]; rfl) (fun u k j => by rw [if_neg (fun z => by omega), e1, fA_uA]) (fun u k j => by rw [e1]; rfl) (fun u k j => by rw [e1]; rfl) (by rw [e1]; rfl)
theorem s_74 {Q : xW → Prop} {i0 : Nat} {A : AF} (s : ST Y A K) (hK : K ≤ 40) (h0 : i0 < K) (H : ∀ Y', (∀ u k, ¬ (u = (7, 0, 0) ∧ k = 3) → fI Y' u k = fI Y u k) → fI Y' (7, 0, 0) 3 = n32 (K - 1) → (∀ u k j, ¬ (u = (7, 0, 0) ∧ (k = 1 ∨ k = 2)) → fA Y' u k j = fA Y u k j) → (∀ k i, (k = 1 ∨ k = 2) → i < K - 1 → fA Y' (7, 0, 0) k i = fA Y (7, 0, 0) k (if i < i0 then i else i + 1)) → (∀ u k j, fL Y' u k j = fL Y u k j) → (∀ u k j, fR Y' u k j = fR Y u k j) → fC Y' = fC Y → Q Y') : L_74_0 V g Y (n32 (rB Y i0)) Q := by
  have uq : ∀ i, i < K → fA Y (7, 0, 0) 1 i = n32 (rB Y i0) → i = i0 := by
    intro i hi e
    have a1 := s.2.2.1 i hi
    have a2 := s.2.2.1 i0 h0
    rw [a1.1] at e
    have e' := (n_eq (by omega) (by omega)).mp e
    apply Classical.byContradiction
    intro z
    by_cases c : i < i0
    · have := st_lt s c h0
      omega
    · have := st_lt s (show i0 < i by omega) hi
      omega
  have lp : ∀ m i (Y1 : xW), i + m = K → (∀ u k, fI Y1 u k = fI Y u k) → (∀ u k j, ¬ (u = (7, 0, 0) ∧ (k = 1 ∨ k = 2)) → fA Y1 u k j = fA Y u k j) → (∀ k j, (k = 1 ∨ k = 2) → j < (if i ≤ i0 then i else i - 1) → fA Y1 (7, 0, 0) k j = fA Y (7, 0, 0) k (if j < i0 then j else j + 1)) → (∀ k j, (k = 1 ∨ k = 2) → i ≤ j → j < K → fA Y1 (7, 0, 0) k j = fA Y (7, 0, 0) k j) → (∀ u k j, fL Y1 u k j = fL Y u k j) → (∀ u k j, fR Y1 u k j = fR Y u k j) → fC Y1 = fC Y → L_74_4 V g Y1 (n32 (rB Y i0)) (n32 (if i ≤ i0 then i else i - 1)) (n32 i) Q := by
    intro m
    induction m with
    | zero =>
      intro i Y1 e q1 q2 q3 q3' q4 q5 q6
      have e' : i = K := by omega
      subst e'
      refine l_74_4 ?_
      rw [q1, s.1, n_le (by omega) (by omega), if_neg (by omega)]
      rw [if_neg (by omega)] at q3
      refine ⟨fun _ Y2 e2 => H Y2 (fun u k hu => by rw [e2, fI_uI, if_neg hu]; exact q1 u k) (by rw [e2, fI_uI, if_pos ⟨rfl, rfl⟩]) (fun u k j hu => by rw [e2]; exact q2 u k j hu) (fun k j hk hj => by rw [e2]; exact q3 k j hk hj) (fun u k j => by rw [e2]; exact q4 u k j) (fun u k j => by rw [e2]; exact q5 u k j) (by rw [e2]; exact q6), fun z => absurd (Nat.le_refl _) z⟩
    | succ m ih =>
      intro i Y1 e q1 q2 q3 q3' q4 q5 q6
      refine l_74_4 ?_
      rw [q1, s.1, n_le (by omega) (by omega), n_nat (show i < 2147483648 by omega)]
      refine ⟨fun z => absurd z (by omega), fun _ => ⟨n_in (by omega) (by omega), fun c => l_74_49 ?_, fun c => ?_⟩⟩
      · rw [q3' 1 i (.inl rfl) (Nat.le_refl _) (by omega)] at c
        have ei := uq i (by omega) c
        subst ei
        rw [show n32 i + 1 = n32 (i + 1) from n_add i 1]
        have := ih (i + 1) Y1 (by omega) q1 q2
        rw [if_neg (by omega), Nat.add_sub_cancel] at this
        rw [if_pos (Nat.le_refl _)] at q3 ⊢
        exact this q3 (fun k j hk h1 h2 => q3' k j hk (by omega) h2) q4 q5 q6
      · have ne : i ≠ i0 := by
          intro z
          apply c
          rw [q3' 1 i (.inl rfl) (Nat.le_refl _) (by omega), z]
          exact (s.2.2.1 i0 h0).1
        have kept : ∃ kp, (if i ≤ i0 then i else i - 1) = kp ∧ (if i + 1 ≤ i0 then i + 1 else i + 1 - 1) = kp + 1 ∧ kp ≤ i ∧ kp < 40 ∧ (if kp < i0 then kp else kp + 1) = i := by
          by_cases c2 : i ≤ i0
          · refine ⟨i, if_pos c2, if_pos (by omega), by omega, by omega, if_pos (by omega)⟩
          · refine ⟨i - 1, if_neg c2, ?_, by omega, by omega, ?_⟩
            · rw [if_neg (by omega)]; omega
            · rw [if_neg (by omega)]; omega
        obtain ⟨kp, k1, k2, k3, k4, k5⟩ := kept
        rw [k1] at q3 ⊢
        rw [n_nat (show kp < 2147483648 by omega)]
        refine ⟨n_in (by omega) (by omega), n_in (by omega) (by omega), fun Y2 e2 => ⟨n_in (by omega) (by omega), n_in (by omega) (by omega), fun Y3 e3 => l_74_49 ?_⟩⟩
        rw [show n32 i + 1 = n32 (i + 1) from n_add i 1, show n32 kp + 1 = n32 (kp + 1) from n_add kp 1]
        have := ih (i + 1) Y3 (by omega) (fun u k => by rw [e3, e2]; exact q1 u k)
        rw [k2] at this
        have ea2 : fA Y2 (7, 0, 0) 2 i = fA Y (7, 0, 0) 2 i := by rw [e2, fA_uA, if_neg (by simp)]; exact q3' 2 i (.inr rfl) (Nat.le_refl _) (by omega)
        have ea1 : fA Y1 (7, 0, 0) 1 i = fA Y (7, 0, 0) 1 i := q3' 1 i (.inl rfl) (Nat.le_refl _) (by omega)
        have rd : ∀ u k j, fA Y3 u k j = if u = (7, 0, 0) ∧ k = 2 ∧ j = kp then fA Y (7, 0, 0) 2 i else if u = (7, 0, 0) ∧ k = 1 ∧ j = kp then fA Y (7, 0, 0) 1 i else fA Y1 u k j := by
          intro u k j
          rw [e3, fA_uA, ea2, e2, fA_uA, ea1]
        refine this (fun u k j hu => ?_) (fun k j hk hj => ?_) (fun k j hk h1 h2 => ?_) (fun u k j => by rw [e3, e2]; exact q4 u k j) (fun u k j => by rw [e3, e2]; exact q5 u k j) (by rw [e3, e2]; exact q6)
        · rw [rd, if_neg (fun z => hu ⟨z.1, .inr z.2.1⟩), if_neg (fun z => hu ⟨z.1, .inl z.2.1⟩)]
          exact q2 u k j hu
        · rw [rd]
          by_cases c3 : j = kp
          · subst c3
            rw [k5]
            rcases hk with rfl | rfl
            · rw [if_neg (by simp), if_pos ⟨rfl, rfl, rfl⟩]
            · rw [if_pos ⟨rfl, rfl, rfl⟩]
          · rw [if_neg (fun z => c3 z.2.2), if_neg (fun z => c3 z.2.2)]
            exact q3 k j hk (by omega)
        · rw [rd, if_neg (fun z => by omega), if_neg (fun z => by omega)]
          exact q3' k j hk (by omega) h2
  have := lp K 0 Y (by omega) (fun _ _ => rfl) (fun _ _ _ _ => rfl) (fun k j _ h => by rw [if_pos (by omega)] at h; omega) (fun _ _ _ _ _ => rfl) (fun _ _ _ => rfl) (fun _ _ _ => rfl) rfl
  rw [if_pos (by omega)] at this
  exact l_74_0 this
end QS
