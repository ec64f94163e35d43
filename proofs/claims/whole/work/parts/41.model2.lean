/-! the reference's judge: the words that work on registers -/
section ME
variable {V : xV} {g : xG} {Y : xW} {A : AF} {d a b : Nat} {n s need : Int32}
theorem s_150 {Q : Int64 → xW → Prop} {x1 x2 x3 x4 : Int64} (H : Q (mn4 x1 x2 x3 x4) Y) : L_150_0 V g Y x1 x2 x3 x4 Q := l_150_0 (s_188 (s_188 (s_188 H)))
theorem s_151 {Q : Int64 → xW → Prop} {x1 x2 x3 x4 : Int64} (H : Q (mx4 x1 x2 x3 x4) Y) : L_151_0 V g Y x1 x2 x3 x4 Q := l_151_0 (s_186 (s_186 (s_186 H)))
theorem tS1 (l h : Int64) : tS 1 l h = tI l h := rfl
theorem k012 {R : Row} {a : Nat} (ok : okR R) (a8 : a < 8) : (R a).1 = 0 ∨ (R a).1 = 1 ∨ (R a).1 = 2 := by
  rcases ok a a8 with z | ⟨z | z, _⟩
  · exact .inl z
  · exact .inr (.inl z)
  · exact .inr (.inr z)
/-- a sum in the reference -/
theorem s_sum {Q : xW → Prop} {k : Int32} {l h l' h' : Int64} (hf : fI Y xM 29 = 0) (d8 : d < 8) (a8 : a < 8) (b8 : b < 8) (ok : okR (mRow Y)) (c : ¬ ((mRow Y a).1 = 0 ∨ k = 0 ∨ ((mRow Y a).1 = 2 ∧ k = 2)))
    (hb : (mRow Y b).1 = 2 ↔ ¬ ((mRow Y a).1 = 1 ∧ k = 1)) (e1 : lo (mRow Y) b + l = l') (e2 : hi (mRow Y) b + h = h')
    (H : ∀ Y', MK Y Y' (sumF d a k l' h' (mRow Y)).1 (sumF d a k l' h' (mRow Y)).2 → Q Y') : L_149_0 V g Y (n32 d) (n32 b) l h Q := by
  subst e1 e2
  unfold sumF at H
  rw [if_neg c] at H
  refine s_149 hf d8 b8 (fun h2 z => ?_) (fun h2 z Y' h' => ?_) (fun h2 Y' h' => ?_)
  · rw [if_neg (hb.mp h2), if_pos z] at H
    exact H _ (MK_w _ _ (by decide))
  · rw [if_neg (hb.mp h2), if_neg z] at H
    exact H _ (MK_t h' hf)
  · have h3 : (mRow Y a).1 = 1 ∧ k = 1 := Classical.byContradiction (fun z => h2 (hb.mpr z))
    rw [if_pos h3] at H
    exact H _ (MK_t h' hf)
theorem s_152 {Q : xW → Prop} {op : Nat} (h4 : 4 ≤ op) (h8 : op ≤ 8) (hf : fI Y xM 29 = 0) (d8 : d < 8) (a8 : a < 8) (b8 : b < 8) (ok : okR (mRow Y)) (hk : 6 ≤ op → (mRow Y a).1 = 1 ∧ (mRow Y b).1 = 1) (H : ∀ Y', MK Y Y' (wk op d a b n s need (mRow Y)).1 (wk op d a b n s need (mRow Y)).2 → Q Y') : L_152_0 V g Y (n32 op) (n32 d) (n32 a) (n32 b) Q := by
  have ia := n_in a8 (show 8 ≤ 2147483648 by omega)
  have ib := n_in b8 (show 8 ≤ 2147483648 by omega)
  have ka := k012 ok a8
  have kb := k012 ok b8
  have eqo : ∀ {m : Nat}, m ≤ 20 → n32 op = n32 m → op = m := fun h1 h2 => (n_eq (by omega) (by omega)).mp h2
  have neo : ∀ {m : Nat}, m ≤ 20 → ¬ n32 op = n32 m → op ≠ m := fun h1 h2 h3 => h2 (by rw [h3])
  have d12 : ¬ (1 : Int32) = 2 := by decide
  have d21 : ¬ (2 : Int32) = 1 := by decide
  have d10 : ¬ (1 : Int32) = 0 := by decide
  have d20 : ¬ (2 : Int32) = 0 := by decide
  have d01 : ¬ (0 : Int32) = 1 := by decide
  have d02 : ¬ (0 : Int32) = 2 := by decide
  have jle : ∀ x : Int64, ¬ 0 < x ↔ x ≤ 0 := fun x => by rw [j_lt, j_le]; omega
  have jge : ∀ x : Int64, ¬ x < 0 ↔ 0 ≤ x := fun x => by rw [j_lt, j_le]; omega
  refine l_152_0 ?_
  rw [n_nat (show a < 2147483648 by omega), n_nat (show b < 2147483648 by omega)]
  refine ⟨ia, ia, ib, ib, fun c => ?_, fun c4 => ⟨fun c => ?_, fun c5 => ⟨fun c => ?_, fun c6 => ?_⟩⟩⟩
  · have e := eqo (m := 4) (by omega) c
    subst e
    have bad : ∀ x1 x2 x3 x4, ((mRow Y a).1 = 0 ∨ (mRow Y b).1 = 0 ∨ ((mRow Y a).1 = 2 ∧ (mRow Y b).1 = 2)) → L_152_88 V g Y (n32 4) (n32 d) (n32 a) (n32 b) x1 x2 x3 x4 Q := by
      intro x1 x2 x3 x4 z
      refine l_152_88 (l_152_89 ⟨fun _ => s_141 hf (l_152_138 (l_152_383 ?_)), fun z => absurd rfl z⟩)
      rw [wk_4] at H
      unfold sumF at H
      rw [if_pos z] at H
      exact H _ (MK_w _ _ (by decide))
    have good : ¬ ((mRow Y a).1 = 0 ∨ (mRow Y b).1 = 0 ∨ ((mRow Y a).1 = 2 ∧ (mRow Y b).1 = 2)) → L_152_84 V g Y (n32 4) (n32 d) (n32 a) (n32 b) (lo (mRow Y) a) (hi (mRow Y) a) (lo (mRow Y) b) (hi (mRow Y) b) Q := by
      intro z
      refine l_152_84 (l_152_89 ⟨fun y => absurd y (by decide), fun _ => ⟨ia, ?_⟩⟩)
      rw [n_nat (show a < 2147483648 by omega)]
      refine ⟨fun y => ?_, fun y => ?_⟩
      · refine s_sum (b := a) (k := (mRow Y b).1) hf d8 a8 a8 ok z ⟨fun h1 h2 => ?_, fun _ => y⟩ rfl rfl (fun Y' h' => l_152_138 (l_152_383 (H Y' h')))
        rw [h2.1] at h1
        exact absurd h1 d12
      · refine s_sum (k := (mRow Y b).1) hf d8 a8 b8 ok z ⟨fun h1 h2 => ?_, fun h1 => ?_⟩ (Int64.add_comm _ _) (Int64.add_comm _ _) (fun Y' h' => l_152_138 (l_152_383 (H Y' h')))
        · rw [h2.2] at h1
          exact absurd h1 d12
        · have ka1 : (mRow Y a).1 = 1 := by
            rcases ka with k | k | k
            · exact absurd (.inl k) z
            · exact k
            · exact absurd k y
          rcases kb with k | k | k
          · exact absurd (.inr (.inl k)) z
          · exact absurd ⟨ka1, k⟩ h1
          · exact k
    refine ⟨ia, fun k1 => ⟨ib, fun k2 => l_152_63 ?_, fun k2 => good ?_⟩, fun k1 => l_152_63 ?_⟩
    · rw [n_nat (show a < 2147483648 by omega), n_nat (show b < 2147483648 by omega)]
      exact ⟨ia, fun k3 => absurd (k1.symm.trans k3) d12, fun _ => bad _ _ _ _ (.inr (.inl k2))⟩
    · rintro (z | z | z)
      · exact absurd (k1.symm.trans z) d10
      · exact k2 z
      · exact absurd (k1.symm.trans z.1) d12
    · rw [n_nat (show a < 2147483648 by omega), n_nat (show b < 2147483648 by omega)]
      refine ⟨ia, fun k3 => ⟨ib, fun k4 => good ?_, fun k4 => bad _ _ _ _ ?_⟩, fun k3 => bad _ _ _ _ ?_⟩
      · rintro (z | z | z)
        · exact absurd (k3.symm.trans z) d20
        · exact absurd (k4.symm.trans z) d10
        · exact absurd (k4.symm.trans z.2) d12
      · rcases kb with k | k | k
        · exact .inr (.inl k)
        · exact absurd k k4
        · exact .inr (.inr ⟨k3, k⟩)
      · rcases ka with k | k | k
        · exact .inl k
        · exact absurd k k1
        · exact absurd k k3
  · have e := eqo (m := 5) (by omega) c
    subst e
    rw [wk_5] at H
    refine ⟨ia, fun k1 => l_152_166 (s_141 hf (l_152_383 ?_)), fun k1 => ⟨ib, fun k2 => ?_, fun k2 => l_152_166 (s_141 hf (l_152_383 ?_))⟩⟩
    · by_cases k2 : (mRow Y b).1 = 1
      · rw [if_pos k2] at H
        unfold sumF at H
        rw [if_pos (.inl k1)] at H
        exact H _ (MK_w _ _ (by decide))
      · rw [if_neg k2] at H
        exact H _ (MK_w _ _ (by decide))
    · have k2' : (mRow Y b).1 = 1 := k2
      rw [if_pos k2'] at H
      refine s_sum (b := a) (k := 1) hf d8 a8 a8 ok ?_ ⟨fun h1 h2 => ?_, fun h1 => ?_⟩ (Int64.sub_eq_add_neg _ _).symm (Int64.sub_eq_add_neg _ _).symm (fun Y' h' => l_152_383 (H Y' h'))
      · rintro (z | z | z)
        · exact k1 z
        · exact d10 z
        · exact d12 z.2
      · rw [h2.1] at h1
        exact absurd h1 d12
      · rcases ka with k | k | k
        · exact absurd k k1
        · exact absurd ⟨k, rfl⟩ h1
        · exact k
    · rw [if_neg (show ¬ (mRow Y b).1 = 1 from k2)] at H
      exact H _ (MK_w _ _ (by decide))
  · have e := eqo (m := 6) (by omega) c
    subst e
    rw [wk_6] at H
    rw [if_pos (hk (by omega))] at H
    exact s_150 (s_151 (s_147 d8 (fun Y' h' => l_152_383 (H Y' (MK_t h' hf)))))
  · have hop : op = 7 ∨ op = 8 := by
      have := neo (m := 4) (by omega) c4
      have := neo (m := 5) (by omega) c5
      have := neo (m := 6) (by omega) c6
      omega
    have kk := hk (by omega)
    have go : ¬ (lo (mRow Y) b ≤ 0 ∧ 0 ≤ hi (mRow Y) b) → L_152_272 V g Y (n32 op) (n32 d) (n32 a) (n32 b) (lo (mRow Y) a) (hi (mRow Y) a) (lo (mRow Y) b) (hi (mRow Y) b) Q := by
      intro z
      have nz := nz_lo ok b8 kk.2 z
      refine l_152_272 ⟨fun c => ?_, fun c => ?_⟩
      · have e := eqo (m := 7) (by omega) c
        subst e
        rw [wk_7] at H
        rw [if_pos kk, if_neg z] at H
        exact ⟨nz.1, nz.2, nz.1, nz.2, s_150 ⟨nz.1, nz.2, nz.1, nz.2, s_151 (s_147 d8 (fun Y' h' => l_152_383 (H Y' (MK_t h' hf))))⟩⟩
      · have e : op = 8 := by
          have := neo (m := 7) (by omega) c
          omega
        subst e
        rw [wk_8] at H
        rw [if_pos kk, if_neg z] at H
        have fin : ∀ x, (∀ Y', MK Y Y' 0 (setR (mRow Y) d (tI x (if hi (mRow Y) a ≤ 0 then 0 else mx (ab (lo (mRow Y) b)) (ab (hi (mRow Y) b)) - 1))) → Q Y') → L_152_367 V g Y (n32 8) (n32 d) (n32 a) (n32 b) (lo (mRow Y) a) (hi (mRow Y) a) (lo (mRow Y) b) (hi (mRow Y) b) (mx (ab (lo (mRow Y) b)) (ab (hi (mRow Y) b)) - 1) (n32 d) 1 x Q := by
          intro x H
          refine l_152_367 ⟨fun c3 => l_152_380 (s_147 d8 (fun Y' h' => l_152_383 ?_)), fun c3 => l_152_380 (s_147 d8 (fun Y' h' => l_152_383 ?_))⟩
          · rw [if_pos c3] at H
            exact H Y' (MK_t h' hf)
          · rw [if_neg c3] at H
            exact H Y' (MK_t h' hf)
        refine s_184 (s_184 (s_186 ⟨fun c3 => fin _ ?_, fun c3 => fin _ ?_⟩))
        · rw [if_pos c3] at H
          exact H
        · rw [if_neg c3] at H
          exact H
    refine ⟨fun c => go (fun z => ?_), fun c => ⟨fun c2 => go (fun z => ?_), fun c2 => s_141 hf (l_152_383 ?_)⟩⟩
    · exact (jle _).mpr z.1 c
    · exact (jge _).mpr z.2 c2
    · have z : lo (mRow Y) b ≤ 0 ∧ 0 ≤ hi (mRow Y) b := ⟨(jle _).mp c, (jge _).mp c2⟩
      rcases hop with rfl | rfl
      · rw [wk_7] at H
        rw [if_pos kk, if_pos z] at H
        exact H _ (MK_w _ _ (by decide))
      · rw [wk_8] at H
        rw [if_pos kk, if_pos z] at H
        exact H _ (MK_w _ _ (by decide))
theorem s_153 {Q : xW → Prop} {p op : Nat} (hA : AM Y A) (hp : p < 24) (ho : fI Y xM 5 = n32 p) (hop : op = 13 ∨ op = 14) (hf : fI Y xM 29 = 0) (d8 : d < 8) (a8 : a < 8) (hk : op = 14 → (mRow Y d).1 = 1) (H : ∀ Y', MK Y Y' (wk op d a b n s (A 7 p) (mRow Y)).1 (wk op d a b n s (A 7 p) (mRow Y)).2 → Q Y') : L_153_0 V g Y (n32 op) (n32 d) (n32 a) s Q := by
  have ia := n_in a8 (show 8 ≤ 2147483648 by omega)
  have bad : ∀ x, ¬ x = 0 → (wk op d a b n s (A 7 p) (mRow Y)).1 = x → L_153_64 V g (uI Y xM 29 x) (n32 op) (n32 d) (n32 a) s Q := by
    intro x hx e
    refine l_153_64 ⟨fun z => absurd z (by rw [fI_uI, if_pos ⟨rfl, rfl⟩]; exact hx), fun _ => l_153_89 (H _ ?_)⟩
    rw [e]
    exact MK_w _ _ hx
  refine l_153_0 ?_
  rw [n_nat (show a < 2147483648 by omega), ho, n_nat (show p < 2147483648 by omega), hA 7 _ (by decide) (by decide) (by decide)]
  refine ⟨ia, fun c => ⟨ia, fun c2 => l_153_59 (s_141 hf (bad 3 (by decide) ?_)), fun c2 => ⟨ia, n_in hp (by omega), fun c3 => ?_, fun c3 => l_153_59 (s_141 hf (bad 3 (by decide) ?_))⟩⟩, fun c => s_141 hf (bad 2 (by decide) ?_)⟩
  · have c' : (mRow Y a).1 = 2 := c
    rcases hop with rfl | rfl
    · rw [wk_13]
      rw [if_pos c', if_pos (.inl c2)]
    · rw [wk_14]
      rw [if_pos (hk rfl), if_pos c', if_pos (.inl c2)]
  · have c' : (mRow Y a).1 = 2 := c
    have z : ¬ (lo (mRow Y) a + s.toInt64 < 0 ∨ ¬ hi (mRow Y) a + s.toInt64 < (A 7 p).toInt64) := fun y => y.elim c2 (fun y => y c3)
    refine l_153_64 ⟨fun _ => ⟨fun e => ?_, fun e => l_153_89 ?_⟩, fun y => absurd hf y⟩
    · have e' : op = 13 := (n_eq (b := 13) (by omega) (by omega)).mp e
      subst e'
      rw [wk_13] at H
      rw [if_pos c', if_neg z] at H
      exact s_147 d8 (fun Y' h' => l_153_89 (H Y' (MK_t h' hf)))
    · have e' : op = 14 := by
        rcases hop with rfl | rfl
        · exact absurd rfl e
        · rfl
      subst e'
      rw [wk_14] at H
      rw [if_pos (hk rfl), if_pos c', if_neg z] at H
      exact H Y (MK_r hf)
  · have c' : (mRow Y a).1 = 2 := c
    rcases hop with rfl | rfl
    · rw [wk_13]
      rw [if_pos c', if_pos (.inr c3)]
    · rw [wk_14]
      rw [if_pos (hk rfl), if_pos c', if_pos (.inr c3)]
  · have c' : ¬ (mRow Y a).1 = 2 := c
    rcases hop with rfl | rfl
    · rw [wk_13]
      rw [if_neg c']
    · rw [wk_14]
      rw [if_pos (hk rfl), if_neg c']
end ME
