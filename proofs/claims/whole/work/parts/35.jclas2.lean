/-! going, coming, and a whole word: the class's judge -/
theorem gF_c {A : AF} {p to : Nat} {R R' : Row} {st : Int32} (h : ∀ r, r < 8 → R r = R' r) : gF A p to R st = gF A p to R' st := by
  unfold gF
  have e : meetsR R (lRow A (200 * p + to)) ↔ meetsR R' (lRow A (200 * p + to)) := meets_c h (fun _ _ => rfl)
  split
  · rfl
  · by_cases m : meetsR R (lRow A (200 * p + to))
    · rw [if_pos m, if_pos (e.mp m)]
    · rw [if_neg m, if_neg (fun z => m (e.mpr z))]
theorem nxF_c {A : AF} {p i : Nat} {R R' : Row} {st : Int32} (h : ∀ r, r < 8 → R r = R' r) : nxF A p i R st = nxF A p i R' st := by
  unfold nxF
  rw [gF_c h]
/-- what a word's judgement leaves -/
def JP (Y Y' : xW) (st : Int32) (q : Int32 × Row × Bool) : Prop := JF Y Y' ∧ fI Y' (1, 0, 0) 3 = st ∧ (q.1 = 0 → fI Y' (1, 0, 0) 2 = (if q.2.2 = true then 1 else 0) ∧ ∀ r, r < 8 → gRow Y' (23, 0, 0) r = q.2.1 r)
section JG
variable {V : xV} {g : xG} {Y : xW} {A : AF} {p i : Nat} {st : Int32}
theorem s_19 {Q : Int32 → xW → Prop} {to : Nat} {t : xT} (C : CP Y A p) (W : WA A p) (hst : fI Y (1, 0, 0) 3 = st) (h0 : 0 ≤ st.toInt) (hto : to < 2147483648) (H : Q (gF A p to (gRow Y t) st) Y) : L_19_0 V g Y (5, p, 0) (n32 to) t Q := by
  have hn : fI Y (5, p, 0) 5 = n32 (nW A p) := C.1.2.1.trans W.1.1
  have w2 := W.1.2
  unfold gF at H
  refine l_19_0 (s_44 hn w2 hto (fun c => ?_) (fun c => ?_))
  · by_cases neg : A 13 (200 * p + to) < 0
    · have e1 := (C.2.2.1 to (by omega)).1 neg
      refine ⟨fun _ => l_19_24 ?_, fun u e => absurd (e.symm.trans e1) (by simp)⟩
      have ne : ¬ A 13 (200 * p + to) = st := by
        intro e
        rw [e, i_lt, t0] at neg
        omega
      rw [if_pos (.inr ne)] at H
      exact H
    · obtain ⟨e1, e2, e3⟩ := (C.2.2.1 to (by omega)).2 neg
      refine ⟨fun z => absurd (z.symm.trans e1) (by simp), fun u e => ?_⟩
      cases e1.symm.trans e
      rw [e2, hst]
      refine ⟨fun c2 => s_85 (fun m => ⟨fun z => absurd z (by decide), fun _ => l_19_43 ?_⟩) (fun m => ⟨fun _ => l_19_43 ?_, fun z => absurd rfl z⟩), fun c2 => l_19_24 ?_⟩
      · rw [if_neg (fun z => z.elim (fun z => by omega) (fun z => z c2)), if_pos ((meets_rq e3).mp m)] at H
        exact H
      · rw [if_neg (fun z => z.elim (fun z => by omega) (fun z => z c2)), if_neg (fun z => m ((meets_rq e3).mpr z))] at H
        exact H
      · rw [if_pos (.inr c2)] at H
        exact H
  · rw [if_pos (.inl (by omega))] at H
    exact ⟨fun _ => l_19_24 H, fun u e => absurd e (by simp)⟩
theorem s_20 {Q : Int32 → xW → Prop} (C : CP Y A p) (W : WA A p) (hst : fI Y (1, 0, 0) 3 = st) (h0 : 0 ≤ st.toInt) (hi : i < 2147483000) (H : ∀ Y', Y' = uI Y (1, 0, 0) 2 1 → Q (nxF A p i (gRow Y (23, 0, 0)) st) Y') : L_20_0 V g Y (5, p, 0) (n32 i) Q := by
  refine l_20_0 ⟨.inr rfl, fun Y1 e1 => ?_⟩
  have C1 : CP Y1 A p := by rw [e1]; exact CP_J (JF_uI _ _ _) C
  have hst1 : fI Y1 (1, 0, 0) 3 = st := by rw [e1]; exact hst
  have hr : gRow Y1 (23, 0, 0) = gRow Y (23, 0, 0) := by rw [e1]; rfl
  have hn : fI Y1 (5, p, 0) 5 = n32 (nW A p) := C1.1.2.1.trans W.1.1
  have w2 := W.1.2
  replace H := H Y1 e1
  unfold nxF at H
  rw [show n32 i + 1 = n32 (i + 1) from n_add i 1]
  refine s_42 hn (by omega) (by omega) (fun c => ⟨fun z => absurd z (by decide), fun _ => s_44 hn w2 (by omega) (fun _ => ?_) (fun z => absurd c z)⟩) (fun c => ⟨fun _ => l_20_27 ?_, fun z => absurd rfl z⟩)
  · by_cases neg : A 13 (200 * p + (i + 1)) < 0
    · have e1 := (C1.2.2.1 (i + 1) (by omega)).1 neg
      refine ⟨fun _ => ?_, fun u e => absurd (e.symm.trans e1) (by simp)⟩
      rw [if_pos ⟨c, neg⟩] at H
      exact H
    · obtain ⟨e1, e2, e3⟩ := (C1.2.2.1 (i + 1) (by omega)).2 neg
      refine ⟨fun z => absurd (z.symm.trans e1) (by simp), fun u e => l_20_27 (s_19 C1 W hst1 h0 (by omega) ?_)⟩
      rw [if_neg (fun z => neg z.2)] at H
      rw [hr]
      exact H
  · rw [if_neg (fun z => c z.1)] at H
    refine s_19 C1 W hst1 h0 (by omega) ?_
    rw [hr]
    exact H
variable {d a nn : Nat}
theorem s_21 {Q : Int32 → xW → Prop} (C : CP Y A p) (W : WA A p) (hst : fI Y (1, 0, 0) 3 = st) (h0 : 0 ≤ st.toInt) (hi' : i < 2147483000) (hre : fI Y (1, 0, 0) 2 = 0) (hd : fI Y (1, 0, 0) 4 = n32 d) (d8 : d < 8) (ha : fI Y (1, 0, 0) 5 = n32 a) (a8 : a < 8) (hn : fI Y (1, 0, 0) 7 = n32 nn) (n8 : nn < 2147483648)
    (H : ∀ q, q = (if d = a then (nxF A p i (gRow Y (23, 0, 0)) st, gRow Y (23, 0, 0), true)
      else if lo (gRow Y (23, 0, 0)) d < hi (gRow Y (23, 0, 0)) a ∧ ¬ gF A p nn (lessW (gRow Y (23, 0, 0)) d a) st = 0 then (gF A p nn (lessW (gRow Y (23, 0, 0)) d a) st, gRow Y (23, 0, 0), false)
      else if hi (gRow Y (23, 0, 0)) d < lo (gRow Y (23, 0, 0)) a then (0, gRow Y (23, 0, 0), false)
      else (nxF A p i (lessN (gRow Y (23, 0, 0)) d a) st, lessN (gRow Y (23, 0, 0)) d a, true)) → ∀ Y', JP Y Y' st q → Q q.1 Y') : L_21_0 V g Y (5, p, 0) (n32 i) Q := by
  refine l_21_0 ⟨fun c => ?_, fun c => ?_⟩
  · rw [hd, ha, n_eq (by omega) (by omega)] at c
    rw [if_pos c] at H
    refine s_20 C W hst h0 hi' (fun Y' e => H _ rfl Y' ?_)
    rw [e]
    exact ⟨JF_uI _ _ _, hst, fun _ => ⟨rfl, fun _ _ => rfl⟩⟩
  · rw [hd, ha, n_eq (by omega) (by omega)] at c
    rw [if_neg c] at H
    have tail : ∀ (Y1 : xW) (R1 : Row), rTo Y Y1 (23, 0, 1) R1 → ¬ (lo (gRow Y (23, 0, 0)) d < hi (gRow Y (23, 0, 0)) a ∧ ¬ gF A p nn (lessW (gRow Y (23, 0, 0)) d a) st = 0) → L_21_152 V g Y1 (5, p, 0) (n32 i) (lo (gRow Y (23, 0, 0)) d) (hi (gRow Y (23, 0, 0)) d) (lo (gRow Y (23, 0, 0)) a) (hi (gRow Y (23, 0, 0)) a) Q := by
      intro Y1 R1 h1 cw
      rw [if_neg cw] at H
      have hr : gRow Y1 (23, 0, 0) = gRow Y (23, 0, 0) := gRow_c (fun k j => h1.2.1 _ k j (by decide))
      refine l_21_152 ⟨fun c2 => s_186 ?_, fun c2 => ?_⟩
      · have c2' : ¬ hi (gRow Y (23, 0, 0)) d < lo (gRow Y (23, 0, 0)) a := by
          rw [j_lt]; rw [j_le] at c2; omega
        rw [if_neg c2'] at H
        rw [h1.1, hd]
        refine s_81 d8 (fun Y3 h3 => s_188 ?_)
        rw [h3.1, h1.1, ha]
        refine s_81 a8 (fun Y6 h6 => ?_)
        have j6 : JF Y Y6 := JF_t (JF_row h1) (JF_t (JF_row h3) (JF_row h6))
        have st6 : fI Y6 (1, 0, 0) 3 = st := by rw [h6.1, h3.1, h1.1]; exact hst
        have r6 : ∀ r, r < 8 → gRow Y6 (23, 0, 0) r = lessN (gRow Y (23, 0, 0)) d a r := by
          intro r hr8
          rw [h6.2.2.2.2.2 r hr8]
          unfold lessN setR
          split
          · rfl
          · rw [h3.2.2.2.2.2 r hr8]
            unfold setR
            rw [hr]
        refine s_20 (CP_J j6 C) W st6 h0 hi' (fun Y' e => ?_)
        rw [nxF_c r6]
        refine H _ rfl Y' ?_
        rw [e]
        exact ⟨JF_t j6 (JF_uI _ _ _), st6, fun _ => ⟨rfl, r6⟩⟩
      · have c2' : hi (gRow Y (23, 0, 0)) d < lo (gRow Y (23, 0, 0)) a := by
          rw [j_lt]; rw [j_le] at c2; omega
        rw [if_pos c2'] at H
        refine H _ rfl Y1 ⟨JF_row h1, by rw [h1.1]; exact hst, fun _ => ⟨by rw [h1.1]; exact hre, fun r _ => by rw [hr]⟩⟩
    refine e_77 hd d8 (e_78 hd d8 (e_77 ha a8 (e_78 ha a8 ⟨fun c2 => ?_, fun c2 => ?_⟩)))
    · exact tail Y _ (rTo_r _ _) (fun z => by
        have z1 : lo (gRow Y (23, 0, 0)) d < hi (gRow Y (23, 0, 0)) a := z.1
        have c2' : hi (gRow Y (23, 0, 0)) a ≤ lo (gRow Y (23, 0, 0)) d := c2
        rw [j_lt] at z1; rw [j_le] at c2'; omega)
    · have cl : lo (gRow Y (23, 0, 0)) d < hi (gRow Y (23, 0, 0)) a := by
        have c2' : ¬ hi (gRow Y (23, 0, 0)) a ≤ lo (gRow Y (23, 0, 0)) d := c2
        rw [j_lt]; rw [j_le] at c2'; omega
      refine s_84 (by decide) (fun Y11 h11 => s_188 ?_)
      rw [h11.1, hd]
      refine s_81 d8 (fun Y14 h14 => s_186 ?_)
      rw [h14.1, h11.1, ha]
      refine s_81 a8 (fun Y17 h17 => ?_)
      have h' := rTo_t (rTo_t h11 h14) h17
      rw [h'.1, hn]
      refine s_19 (CP_J (JF_row h') C) W (by rw [h'.1]; exact hst) h0 n8 ?_
      have r17 : ∀ r, r < 8 → gRow Y17 (23, 0, 1) r = lessW (gRow Y (23, 0, 0)) d a r := by
        intro r hr8
        rw [h17.2.2.2.2.2 r hr8]
        unfold lessW setR
        split
        · rfl
        · rw [h14.2.2.2.2.2 r hr8]
          unfold setR
          split
          · rfl
          · rw [h11.2.2.2.2.2 r hr8]
      rw [gF_c r17]
      refine ⟨fun z => tail Y17 _ h' (fun y => y.2 z), fun z => ?_⟩
      rw [if_pos ⟨cl, z⟩] at H
      refine H _ rfl Y17 ⟨JF_row h', by rw [h'.1]; exact hst, fun y => absurd y z⟩
theorem s_22 {Q : Int32 → xW → Prop} (C : CP Y A p) (W : WA A p) (hst : fI Y (1, 0, 0) 3 = st) (h0 : 0 ≤ st.toInt) (hi' : i < 2147483000) (hre : fI Y (1, 0, 0) 2 = 0) (hd : fI Y (1, 0, 0) 4 = n32 d) (d8 : d < 8) (ha : fI Y (1, 0, 0) 5 = n32 a) (a8 : a < 8) (hn : fI Y (1, 0, 0) 7 = n32 nn) (n8 : nn < 2147483648)
    (H : ∀ q, q = (if ¬ mn (hi (gRow Y (23, 0, 0)) d) (hi (gRow Y (23, 0, 0)) a) < mx (lo (gRow Y (23, 0, 0)) d) (lo (gRow Y (23, 0, 0)) a) ∧ ¬ gF A p nn (sameW (gRow Y (23, 0, 0)) d a) st = 0 then (gF A p nn (sameW (gRow Y (23, 0, 0)) d a) st, gRow Y (23, 0, 0), false)
      else if d = a then (0, gRow Y (23, 0, 0), false)
      else (nxF A p i (gRow Y (23, 0, 0)) st, gRow Y (23, 0, 0), true)) → ∀ Y', JP Y Y' st q → Q q.1 Y') : L_22_0 V g Y (5, p, 0) (n32 i) Q := by
  have tail : ∀ (Y1 : xW) (R1 : Row) x y, rTo Y Y1 (23, 0, 1) R1 → ¬ (¬ mn (hi (gRow Y (23, 0, 0)) d) (hi (gRow Y (23, 0, 0)) a) < mx (lo (gRow Y (23, 0, 0)) d) (lo (gRow Y (23, 0, 0)) a) ∧ ¬ gF A p nn (sameW (gRow Y (23, 0, 0)) d a) st = 0) → L_22_122 V g Y1 (5, p, 0) (n32 i) x y Q := by
    intro Y1 R1 x y h1 cw
    rw [if_neg cw] at H
    have hr : gRow Y1 (23, 0, 0) = gRow Y (23, 0, 0) := gRow_c (fun k j => h1.2.1 _ k j (by decide))
    have st1 : fI Y1 (1, 0, 0) 3 = st := by rw [h1.1]; exact hst
    refine l_22_122 ⟨fun c => ?_, fun c => ?_⟩
    · rw [h1.1, h1.1, hd, ha, n_eq (by omega) (by omega)] at c
      rw [if_pos c] at H
      exact l_22_143 (H _ rfl Y1 ⟨JF_row h1, st1, fun _ => ⟨by rw [h1.1]; exact hre, fun r _ => by rw [hr]⟩⟩)
    · rw [h1.1, h1.1, hd, ha, n_eq (by omega) (by omega)] at c
      rw [if_neg c] at H
      refine s_20 (CP_J (JF_row h1) C) W st1 h0 hi' (fun Y' e => l_22_143 ?_)
      rw [hr]
      refine H _ rfl Y' ?_
      rw [e]
      exact ⟨JF_t (JF_row h1) (JF_uI _ _ _), st1, fun _ => ⟨rfl, fun r _ => congrFun hr r⟩⟩
  refine l_22_0 ?_
  refine e_77 hd d8 (e_77 ha a8 (s_186 (e_78 hd d8 (e_78 ha a8 (s_188 ⟨fun c => ?_, fun c => ?_⟩)))))
  · exact tail Y _ _ _ (rTo_r _ _) (fun z => z.1 c)
  · refine s_84 (by decide) (fun Y11 h11 => ?_)
    rw [h11.1, hd]
    refine s_81 d8 (fun Y14 h14 => ?_)
    rw [h14.1, h11.1, ha]
    refine s_81 a8 (fun Y17 h17 => ?_)
    have h' := rTo_t (rTo_t h11 h14) h17
    rw [h'.1, hn]
    refine s_19 (CP_J (JF_row h') C) W (by rw [h'.1]; exact hst) h0 n8 ?_
    have r17 : ∀ r, r < 8 → gRow Y17 (23, 0, 1) r = sameW (gRow Y (23, 0, 0)) d a r := by
      intro r hr8
      rw [h17.2.2.2.2.2 r hr8]
      unfold sameW setR
      split
      · rfl
      · rw [h14.2.2.2.2.2 r hr8]
        unfold setR
        split
        · rfl
        · rw [h11.2.2.2.2.2 r hr8]
    rw [gF_c r17]
    refine ⟨fun z => tail Y17 _ _ _ h' (fun y => y.2 z), fun z => ?_⟩
    rw [if_pos ⟨c, z⟩] at H
    refine H _ rfl Y17 ⟨JF_row h', by rw [h'.1]; exact hst, fun y => absurd y z⟩
end JG
