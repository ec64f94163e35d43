/-! the class's judge answers as the judgement on rows says -/
section JC
variable {V : xV} {g : xG} {Y : xW} {d a b : Nat} {n s : Int32}
theorem s_11 {Q : Int32 → xW → Prop} {k : Int32} {l h : Int64} (hd : fI Y (1, 0, 0) 4 = n32 d) (d8 : d < 8) (ha : fI Y (1, 0, 0) 5 = n32 a) (a8 : a < 8) (H : ∀ Y', rTo Y Y' (23, 0, 0) (sumF d a k l h (gRow Y (23, 0, 0))).2 → Q (sumF d a k l h (gRow Y (23, 0, 0))).1 Y') : L_11_0 V g Y k l h Q := by
  have bad : ∀ x, ((gRow Y (23, 0, 0) a).1 = 0 ∨ k = 0 ∨ ((gRow Y (23, 0, 0) a).1 = 2 ∧ k = 2)) → L_11_33 V g Y k l h x Q := by
    intro x c
    unfold sumF at H
    rw [if_pos c] at H
    exact l_11_33 (H Y (rTo_r _ _))
  have good : ¬ ((gRow Y (23, 0, 0) a).1 = 0 ∨ k = 0 ∨ ((gRow Y (23, 0, 0) a).1 = 2 ∧ k = 2)) → L_11_35 V g Y k l h (gRow Y (23, 0, 0) a).1 Q := by
    intro c
    unfold sumF at H
    rw [if_neg c] at H
    have far : ¬ ((gRow Y (23, 0, 0) a).1 = 1 ∧ k = 1) → L_11_62 V g Y k l h (gRow Y (23, 0, 0) a).1 Q := by
      intro c2
      rw [if_neg c2] at H
      refine l_11_62 ⟨fun c3 => ?_, fun c3 => ⟨fun c4 => ?_, fun c4 => ?_⟩⟩
      · rw [if_pos (.inl c3)] at H
        exact l_11_79 (H Y (rTo_r _ _))
      · rw [if_neg (fun z => z.elim c3 (fun z => z c4))] at H
        exact e_80 hd d8 H
      · rw [if_pos (.inr c4)] at H
        exact l_11_79 (H Y (rTo_r _ _))
    refine l_11_35 ⟨fun c2 => ⟨fun c3 => ?_, fun c3 => far (fun z => c3 z.2)⟩, fun c2 => far (fun z => c2 z.1)⟩
    rw [if_pos ⟨c2, c3⟩] at H
    exact e_81 hd d8 H
  refine l_11_0 ?_
  refine e_76 ha a8 ⟨fun c => bad _ (.inl c), fun c => ⟨fun c2 => bad _ (.inr (.inl c2)), fun c2 => ⟨fun c3 => ⟨fun c4 => bad _ (.inr (.inr ⟨c3, c4⟩)), fun c4 => good ?_⟩, fun c3 => good ?_⟩⟩⟩
  · exact fun z => z.elim c (fun z => z.elim c2 (fun z => c4 z.2))
  · exact fun z => z.elim c (fun z => z.elim c2 (fun z => c3 z.1))
theorem s_8 {Q : Int32 → xW → Prop} {l h : Int64} (hd : fI Y (1, 0, 0) 4 = n32 d) (d8 : d < 8) (ha : fI Y (1, 0, 0) 5 = n32 a) (a8 : a < 8) (H1 : (gRow Y (23, 0, 0) a).1 = 1 → ∀ Y', rTo Y Y' (23, 0, 0) (setR (gRow Y (23, 0, 0)) d (tI l h)) → Q 0 Y') (H0 : ¬ (gRow Y (23, 0, 0) a).1 = 1 → Q 2 Y) : L_8_0 V g Y l h Q := by
  refine l_8_0 ?_
  refine e_79 ha a8 (fun c => ⟨fun z => absurd z (by decide), fun _ => ?_⟩) (fun c => ⟨fun _ => H0 c, fun z => absurd rfl z⟩)
  exact e_81 hd d8 (H1 c)
theorem s_9 {Q : Int32 → xW → Prop} (hd : fI Y (1, 0, 0) 4 = n32 d) (d8 : d < 8) (ha : fI Y (1, 0, 0) 5 = n32 a) (a8 : a < 8) (hb : fI Y (1, 0, 0) 6 = n32 b) (b8 : b < 8) (H : ∀ Y', rTo Y Y' (23, 0, 0) (wk 4 d a b n s 0 (gRow Y (23, 0, 0))).2 → Q (wk 4 d a b n s 0 (gRow Y (23, 0, 0))).1 Y') : L_9_0 V g Y Q := by
  refine l_9_0 ?_
  exact e_76 hb b8 (e_77 ha a8 (e_77 hb b8 (e_78 ha a8 (e_78 hb b8 (s_11 hd d8 ha a8 H)))))
theorem s_10 {Q : Int32 → xW → Prop} (hd : fI Y (1, 0, 0) 4 = n32 d) (d8 : d < 8) (ha : fI Y (1, 0, 0) 5 = n32 a) (a8 : a < 8) (hb : fI Y (1, 0, 0) 6 = n32 b) (b8 : b < 8) (H : ∀ Y', rTo Y Y' (23, 0, 0) (wk 5 d a b n s 0 (gRow Y (23, 0, 0))).2 → Q (wk 5 d a b n s 0 (gRow Y (23, 0, 0))).1 Y') : L_10_0 V g Y Q := by
  rw [wk_5] at H
  refine l_10_0 ?_
  refine e_79 hb b8 (fun c => ⟨fun z => absurd z (by decide), fun _ => ?_⟩) (fun c => ⟨fun _ => ?_, fun z => absurd rfl z⟩)
  · rw [if_pos c] at H
    exact e_77 ha a8 (e_78 hb b8 (e_78 ha a8 (e_77 hb b8 (s_11 hd d8 ha a8 H))))
  · rw [if_neg c] at H
    exact H Y (rTo_r _ _)
theorem s_16 {Q : xW → Prop} {x1 x2 x3 x4 : Int64} (hd : fI Y (1, 0, 0) 4 = n32 d) (d8 : d < 8) (H : ∀ Y', rTo Y Y' (23, 0, 0) (setR (gRow Y (23, 0, 0)) d (tI (mn4 x1 x2 x3 x4) (mx4 x1 x2 x3 x4))) → Q Y') : L_16_0 V g Y x1 x2 x3 x4 Q := by
  refine l_16_0 ?_
  exact s_188 (s_188 (s_188 (s_186 (s_186 (s_186 (e_81 hd d8 H))))))
theorem s_12 {Q : Int32 → xW → Prop} (hd : fI Y (1, 0, 0) 4 = n32 d) (d8 : d < 8) (ha : fI Y (1, 0, 0) 5 = n32 a) (a8 : a < 8) (hb : fI Y (1, 0, 0) 6 = n32 b) (b8 : b < 8) (H : ∀ Y', rTo Y Y' (23, 0, 0) (wk 6 d a b n s 0 (gRow Y (23, 0, 0))).2 → Q (wk 6 d a b n s 0 (gRow Y (23, 0, 0))).1 Y') : L_12_0 V g Y Q := by
  rw [wk_6] at H
  have bad : ¬ ((gRow Y (23, 0, 0) a).1 = 1 ∧ (gRow Y (23, 0, 0) b).1 = 1) → L_12_28 V g Y Q := by
    intro c
    rw [if_neg c] at H
    exact l_12_28 (H Y (rTo_r _ _))
  refine l_12_0 ?_
  refine e_79 ha a8 (fun c => ⟨fun z => absurd z (by decide), fun _ => ?_⟩) (fun c => ⟨fun _ => bad (fun z => c z.1), fun z => absurd rfl z⟩)
  refine e_79 hb b8 (fun c2 => ⟨fun z => absurd z (by decide), fun _ => ?_⟩) (fun c2 => ⟨fun _ => bad (fun z => c2 z.2), fun z => absurd rfl z⟩)
  rw [if_pos ⟨c, c2⟩] at H
  exact e_77 ha a8 (e_77 hb b8 (e_77 ha a8 (e_78 hb b8 (e_78 ha a8 (e_77 hb b8 (e_78 ha a8 (e_78 hb b8 (s_16 hd d8 H))))))))
theorem s_13 {Q : Int32 → xW → Prop} (ha : fI Y (1, 0, 0) 5 = n32 a) (a8 : a < 8) (hb : fI Y (1, 0, 0) 6 = n32 b) (b8 : b < 8) (H2 : ¬ ((gRow Y (23, 0, 0) a).1 = 1 ∧ (gRow Y (23, 0, 0) b).1 = 1) → Q 2 Y) (H5 : ((gRow Y (23, 0, 0) a).1 = 1 ∧ (gRow Y (23, 0, 0) b).1 = 1) → (lo (gRow Y (23, 0, 0)) b ≤ 0 ∧ 0 ≤ hi (gRow Y (23, 0, 0)) b) → Q 5 Y) (H0 : ((gRow Y (23, 0, 0) a).1 = 1 ∧ (gRow Y (23, 0, 0) b).1 = 1) → ¬ (lo (gRow Y (23, 0, 0)) b ≤ 0 ∧ 0 ≤ hi (gRow Y (23, 0, 0)) b) → Q 0 Y) : L_13_0 V g Y Q := by
  refine l_13_0 ?_
  refine e_79 ha a8 (fun c => ⟨fun z => absurd z (by decide), fun _ => ?_⟩) (fun c => ⟨fun _ => l_13_28 (H2 (fun z => c z.1)), fun z => absurd rfl z⟩)
  refine e_79 hb b8 (fun c2 => ⟨fun z => absurd z (by decide), fun _ => ?_⟩) (fun c2 => ⟨fun _ => l_13_28 (H2 (fun z => c2 z.2)), fun z => absurd rfl z⟩)
  refine e_77 hb b8 ⟨fun c3 => l_13_66 (l_13_67 (H0 ⟨c, c2⟩ (fun z => ?_))), fun c3 => e_78 hb b8 ⟨fun c4 => l_13_66 (l_13_67 (H0 ⟨c, c2⟩ (fun z => ?_))), fun c4 => l_13_67 (H5 ⟨c, c2⟩ ⟨?_, ?_⟩)⟩⟩
  · have h := z.1
    rw [j_le] at h
    rw [j_lt] at c3
    exact absurd c3 (by show ¬ _ < (lo (gRow Y (23, 0, 0)) b).toInt; omega)
  · have h := z.2
    rw [j_le] at h
    rw [j_lt] at c4
    exact absurd c4 (by show ¬ (hi (gRow Y (23, 0, 0)) b).toInt < _; omega)
  · rw [j_lt] at c3
    rw [j_le]
    exact Int.not_lt.mp c3
  · rw [j_lt] at c4
    rw [j_le]
    exact Int.not_lt.mp c4
theorem ok_b {R : Row} (ok : okR R) (b8 : b < 8) (k1 : (R b).1 = 1) : (lo R b).toInt ≤ (hi R b).toInt := by
  unfold lo hi
  rw [j_of, j_of]
  rcases ok b b8 with z | z
  · rw [k1] at z
    exact absurd z (by decide)
  · exact i_le.mp z.2
theorem nz_lo {R : Row} (ok : okR R) (b8 : b < 8) (k1 : (R b).1 = 1) (h : ¬ (lo R b ≤ 0 ∧ 0 ≤ hi R b)) : ¬ lo R b = 0 ∧ ¬ hi R b = 0 := by
  have h1 := ok_b ok b8 k1
  have e : (0 : Int64).toInt = 0 := rfl
  rw [j_le, j_le, e] at h
  rw [j_eq, j_eq, e]
  omega
theorem s_14 {Q : Int32 → xW → Prop} (ok : okR (gRow Y (23, 0, 0))) (hd : fI Y (1, 0, 0) 4 = n32 d) (d8 : d < 8) (ha : fI Y (1, 0, 0) 5 = n32 a) (a8 : a < 8) (hb : fI Y (1, 0, 0) 6 = n32 b) (b8 : b < 8) (H : ∀ Y', rTo Y Y' (23, 0, 0) (wk 7 d a b n s 0 (gRow Y (23, 0, 0))).2 → Q (wk 7 d a b n s 0 (gRow Y (23, 0, 0))).1 Y') : L_14_0 V g Y Q := by
  rw [wk_7] at H
  refine l_14_0 (s_13 ha a8 hb b8 (fun c => ?_) (fun c c2 => ?_) (fun c c2 => ?_))
  · rw [if_neg c] at H
    exact e_77 hb b8 (e_78 hb b8 ⟨fun z => absurd z (by decide), fun _ => l_14_47 (H Y (rTo_r _ _))⟩)
  · rw [if_pos c, if_pos c2] at H
    exact e_77 hb b8 (e_78 hb b8 ⟨fun z => absurd z (by decide), fun _ => l_14_47 (H Y (rTo_r _ _))⟩)
  · rw [if_pos c, if_neg c2] at H
    have z := nz_lo ok b8 c.2 c2
    exact e_77 hb b8 (e_78 hb b8 ⟨fun _ => ⟨fun z' => absurd z' z.1, fun _ => ⟨fun z' => absurd z' z.2, fun _ => e_77 ha a8 ⟨z.1, e_77 ha a8 ⟨z.2, e_78 ha a8 ⟨z.1, e_78 ha a8 ⟨z.2, s_16 hd d8 H⟩⟩⟩⟩⟩⟩, fun z => absurd rfl z⟩)
theorem s_15 {Q : Int32 → xW → Prop} (hd : fI Y (1, 0, 0) 4 = n32 d) (d8 : d < 8) (ha : fI Y (1, 0, 0) 5 = n32 a) (a8 : a < 8) (hb : fI Y (1, 0, 0) 6 = n32 b) (b8 : b < 8) (H : ∀ Y', rTo Y Y' (23, 0, 0) (wk 8 d a b n s 0 (gRow Y (23, 0, 0))).2 → Q (wk 8 d a b n s 0 (gRow Y (23, 0, 0))).1 Y') : L_15_0 V g Y Q := by
  rw [wk_8] at H
  refine l_15_0 (s_13 ha a8 hb b8 (fun c => ?_) (fun c c2 => ?_) (fun c c2 => ?_))
  · rw [if_neg c] at H
    exact ⟨fun z => absurd z (by decide), fun _ => l_15_97 (H Y (rTo_r _ _))⟩
  · rw [if_pos c, if_pos c2] at H
    exact ⟨fun z => absurd z (by decide), fun _ => l_15_97 (H Y (rTo_r _ _))⟩
  · rw [if_pos c, if_neg c2] at H
    refine ⟨fun _ => ?_, fun z => absurd rfl z⟩
    have fin : ∀ x, (∀ Y', rTo Y Y' (23, 0, 0) (setR (gRow Y (23, 0, 0)) d (tI x (if hi (gRow Y (23, 0, 0)) a ≤ 0 then 0 else mx (ab (lo (gRow Y (23, 0, 0)) b)) (ab (hi (gRow Y (23, 0, 0)) b)) - 1))) → Q 0 Y') → L_15_73 V g Y 0 (mx (ab (lo (gRow Y (23, 0, 0)) b)) (ab (hi (gRow Y (23, 0, 0)) b)) - 1) (23, 0, 0) (fI Y (1, 0, 0) 4) x Q := by
      intro x H
      refine l_15_73 ?_
      refine e_78 ha a8 ⟨fun c3 => l_15_94 (e_81 hd d8 (fun Y' h' => l_15_97 ?_)), fun c3 => l_15_94 (e_81 hd d8 (fun Y' h' => l_15_97 ?_))⟩
      · rw [if_pos (show hi (gRow Y (23, 0, 0)) a ≤ 0 from c3)] at H
        exact H Y' h'
      · rw [if_neg (show ¬ hi (gRow Y (23, 0, 0)) a ≤ 0 from c3)] at H
        exact H Y' h'
    refine e_77 hb b8 (s_184 (e_78 hb b8 (s_184 (s_186 (e_77 ha a8 ⟨fun c3 => fin _ ?_, fun c3 => fin _ ?_⟩)))))
    · rw [if_pos (show 0 ≤ lo (gRow Y (23, 0, 0)) a from c3)] at H
      exact H
    · rw [if_neg (show ¬ 0 ≤ lo (gRow Y (23, 0, 0)) a from c3)] at H
      exact H
theorem s_18 {Q : Int32 → xW → Prop} {need : Int32} (ha : fI Y (1, 0, 0) 5 = n32 a) (a8 : a < 8) (hs : fI Y (1, 0, 0) 8 = s) (H2 : ¬ (gRow Y (23, 0, 0) a).1 = 2 → Q 2 Y) (H3 : (gRow Y (23, 0, 0) a).1 = 2 → (lo (gRow Y (23, 0, 0)) a + s.toInt64 < 0 ∨ ¬ hi (gRow Y (23, 0, 0)) a + s.toInt64 < need.toInt64) → Q 3 Y) (H0 : (gRow Y (23, 0, 0) a).1 = 2 → ¬ (lo (gRow Y (23, 0, 0)) a + s.toInt64 < 0 ∨ ¬ hi (gRow Y (23, 0, 0)) a + s.toInt64 < need.toInt64) → Q 0 Y) : L_18_0 V g Y need Q := by
  subst hs
  refine l_18_0 ?_
  refine e_76 ha a8 ⟨fun c => e_77 ha a8 ⟨fun c2 => l_18_62 (l_18_67 (H3 c (.inl c2))), fun c2 => e_78 ha a8 ⟨fun c3 => l_18_67 (H0 c (fun z => z.elim c2 (fun z => z c3))), fun c3 => l_18_62 (l_18_67 (H3 c (.inr c3)))⟩⟩, fun c => H2 c⟩
theorem s_17 {Q : Int32 → xW → Prop} {need : Int32} (hd : fI Y (1, 0, 0) 4 = n32 d) (d8 : d < 8) (ha : fI Y (1, 0, 0) 5 = n32 a) (a8 : a < 8) (hs : fI Y (1, 0, 0) 8 = s) (H : ∀ Y', rTo Y Y' (23, 0, 0) (wk 13 d a b n s need (gRow Y (23, 0, 0))).2 → Q (wk 13 d a b n s need (gRow Y (23, 0, 0))).1 Y') : L_17_0 V g Y need Q := by
  rw [wk_13] at H
  refine l_17_0 (s_18 ha a8 hs (fun c => ?_) (fun c c2 => ?_) (fun c c2 => ?_))
  · rw [if_neg c] at H
    exact ⟨fun z => absurd z (by decide), fun _ => l_17_26 (H Y (rTo_r _ _))⟩
  · rw [if_pos c, if_pos c2] at H
    exact ⟨fun z => absurd z (by decide), fun _ => l_17_26 (H Y (rTo_r _ _))⟩
  · rw [if_pos c, if_neg c2] at H
    refine ⟨fun _ => ?_, fun z => absurd rfl z⟩
    exact e_80 hd d8 (fun Y' h' => l_17_26 (H Y' h'))
/-- the words that work on registers -/
theorem s_7 {Q : Int32 → xW → Prop} {need : Int32} {op : Nat} (hop : op ≤ 14) (ok : okR (gRow Y (23, 0, 0))) (hd : fI Y (1, 0, 0) 4 = n32 d) (d8 : d < 8) (ha : fI Y (1, 0, 0) 5 = n32 a) (a8 : a < 8) (hb : fI Y (1, 0, 0) 6 = n32 b) (b8 : b < 8) (hn : fI Y (1, 0, 0) 7 = n) (hs : fI Y (1, 0, 0) 8 = s) (H : ∀ Y', rTo Y Y' (23, 0, 0) (wk op d a b n s need (gRow Y (23, 0, 0))).2 → Q (wk op d a b n s need (gRow Y (23, 0, 0))).1 Y') : L_7_0 V g Y (n32 op) need Q := by
  have no : ∀ {m : Nat} {P : Prop}, m ≤ 14 → op ≠ m → n32 op = n32 m → P := fun h1 h2 h3 => absurd ((n_eq (by omega) (by omega)).mp h3) h2
  have hop' : op = 0 ∨ op = 1 ∨ op = 2 ∨ op = 3 ∨ op = 4 ∨ op = 5 ∨ op = 6 ∨ op = 7 ∨ op = 8 ∨ op = 9 ∨ op = 10 ∨ op = 11 ∨ op = 12 ∨ op = 13 ∨ op = 14 := by omega
  have ti : (n32 op).toInt = (op : Int) := n_toInt (by omega)
  refine l_7_0 ⟨⟨fun e => ?_, fun e => ?_, fun e => ?_, fun e => ?_, fun e => ?_, fun e => ?_, fun e => ?_, fun e => ?_, fun e => ?_, fun e => ?_, fun e => ?_, fun e => ?_, fun e => ?_⟩, fun e => ?_⟩
  · have e' : op = 2 := (n_eq (b := 2) (by omega) (by omega)).mp e
    subst e'
    rw [hs]
    exact e_80 hd d8 H
  · have e' : op = 3 := (n_eq (b := 3) (by omega) (by omega)).mp e
    subst e'
    exact e_82 hd ha d8 a8 H
  · have e' : op = 4 := (n_eq (b := 4) (by omega) (by omega)).mp e
    subst e'
    exact s_9 (n := n) (s := s) hd d8 ha a8 hb b8 H
  · have e' : op = 5 := (n_eq (b := 5) (by omega) (by omega)).mp e
    subst e'
    exact s_10 (n := n) (s := s) hd d8 ha a8 hb b8 H
  · have e' : op = 6 := (n_eq (b := 6) (by omega) (by omega)).mp e
    subst e'
    exact s_12 (n := n) (s := s) hd d8 ha a8 hb b8 H
  · have e' : op = 7 := (n_eq (b := 7) (by omega) (by omega)).mp e
    subst e'
    exact s_14 (n := n) (s := s) ok hd d8 ha a8 hb b8 H
  · have e' : op = 8 := (n_eq (b := 8) (by omega) (by omega)).mp e
    subst e'
    exact s_15 (n := n) (s := s) hd d8 ha a8 hb b8 H
  · have e' : op = 9 := (n_eq (b := 9) (by omega) (by omega)).mp e
    subst e'
    refine e_77 ha a8 (e_78 ha a8 ?_)
    rw [hs]
    exact s_11 hd d8 ha a8 H
  · have e' : op = 10 := (n_eq (b := 10) (by omega) (by omega)).mp e
    subst e'
    rw [wk_10] at H
    rw [hn]
    refine s_8 hd d8 ha a8 (fun c => ?_) (fun c => ?_)
    · rw [if_pos c] at H; exact H
    · rw [if_neg c] at H; exact H Y (rTo_r _ _)
  · have e' : op = 11 := (n_eq (b := 11) (by omega) (by omega)).mp e
    subst e'
    rw [wk_11] at H
    refine e_77 ha a8 (e_78 ha a8 ?_)
    rw [hn]
    refine s_8 hd d8 ha a8 (fun c => ?_) (fun c => ?_)
    · rw [if_pos c] at H; exact H
    · rw [if_neg c] at H; exact H Y (rTo_r _ _)
  · have e' : op = 12 := (n_eq (b := 12) (by omega) (by omega)).mp e
    subst e'
    rw [hn]
    exact e_80 hd d8 H
  · have e' : op = 13 := (n_eq (b := 13) (by omega) (by omega)).mp e
    subst e'
    exact s_17 (b := b) (n := n) hd d8 ha a8 hs H
  · have e' : op = 14 := (n_eq (b := 14) (by omega) (by omega)).mp e
    subst e'
    rw [wk_14] at H
    refine e_79 hd d8 (fun c => ⟨fun z => absurd z (by decide), fun _ => s_18 ha a8 hs (fun c2 => l_7_271 ?_) (fun c2 c3 => l_7_271 ?_) (fun c2 c3 => l_7_271 ?_)⟩) (fun c => ⟨fun _ => l_7_271 ?_, fun z => absurd rfl z⟩)
    · rw [if_pos c, if_neg c2] at H; exact H Y (rTo_r _ _)
    · rw [if_pos c, if_pos c2, if_pos c3] at H; exact H Y (rTo_r _ _)
    · rw [if_pos c, if_pos c2, if_neg c3] at H; exact H Y (rTo_r _ _)
    · rw [if_neg c] at H; exact H Y (rTo_r _ _)
  · rw [ti] at e
    have e' : op = 0 ∨ op = 1 := by omega
    rcases e' with rfl | rfl
    · exact H Y (rTo_r _ _)
    · exact H Y (rTo_r _ _)
end JC
