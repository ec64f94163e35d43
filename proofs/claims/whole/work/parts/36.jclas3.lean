/-! a whole word: the class's judge -/
theorem wF_wk {A : AF} {p i : Nat} {R : Row} {st w : Int32} (h1 : 1 ≤ wOp w) (h2 : wOp w ≤ 14) : wF A p i R st w = if (wk (wOp w) (wD w) (wA w) (wB w % 8) (n32 (wN w)) (wS w) (A 7 p) R).1 = 0 then (nxF A p i (wk (wOp w) (wD w) (wA w) (wB w % 8) (n32 (wN w)) (wS w) (A 7 p) R).2 st, (wk (wOp w) (wD w) (wA w) (wB w % 8) (n32 (wN w)) (wS w) (A 7 p) R).2, true) else ((wk (wOp w) (wD w) (wA w) (wB w % 8) (n32 (wN w)) (wS w) (A 7 p) R).1, (wk (wOp w) (wD w) (wA w) (wB w % 8) (n32 (wN w)) (wS w) (A 7 p) R).2, false) := by
  show wFo (wOp w) A p i R st w = _
  have h : wOp w = 1 ∨ wOp w = 2 ∨ wOp w = 3 ∨ wOp w = 4 ∨ wOp w = 5 ∨ wOp w = 6 ∨ wOp w = 7 ∨ wOp w = 8 ∨ wOp w = 9 ∨ wOp w = 10 ∨ wOp w = 11 ∨ wOp w = 12 ∨ wOp w = 13 ∨ wOp w = 14 := by omega
  rcases h with h | h | h | h | h | h | h | h | h | h | h | h | h | h <;> (rw [h]; rfl)
section JH
variable {V : xV} {g : xG} {Y : xW} {A : AF} {p i : Nat} {st : Int32}
theorem s_6 {Q : Int32 → xW → Prop} {w : Int32} (H : ∀ Y', JF Y Y' → fI Y' (1, 0, 0) 2 = fI Y (1, 0, 0) 2 → fI Y' (1, 0, 0) 3 = fI Y (1, 0, 0) 3 → fI Y' (1, 0, 0) 4 = n32 (wD w % 8) → fI Y' (1, 0, 0) 5 = n32 (wA w % 8) → fI Y' (1, 0, 0) 6 = n32 (wB w % 8) → fI Y' (1, 0, 0) 7 = n32 (wN w) → fI Y' (1, 0, 0) 8 = wS w → gRow Y' (23, 0, 0) = gRow Y (23, 0, 0) → Q (n32 (wOp w)) Y') : L_6_0 V g Y w Q := by
  refine l_6_0 (s_118 (fun Y3 e3 => s_119 (fun Y6 e6 => s_120 (fun Y9 e9 => s_121 (fun Y12 e12 => s_122 (fun Y15 e15 => s_117 (H Y15 ?_ ?_ ?_ ?_ ?_ ?_ ?_ ?_ ?_)))))))
  · subst e3 e6 e9 e12 e15
    exact JF_t (JF_uI _ _ _) (JF_t (JF_uI _ _ _) (JF_t (JF_uI _ _ _) (JF_t (JF_uI _ _ _) (JF_uI _ _ _))))
  · subst e3 e6 e9 e12 e15; rfl
  · subst e3 e6 e9 e12 e15; rfl
  · subst e3 e6 e9 e12 e15; rfl
  · subst e3 e6 e9 e12 e15; rfl
  · subst e3 e6 e9 e12 e15; rfl
  · subst e3 e6 e9 e12 e15; rfl
  · subst e3 e6 e9 e12 e15; rfl
  · subst e3 e6 e9 e12 e15; rfl
theorem s_25 {Q : Int32 → xW → Prop} {q f : Nat} (C : CP Y A p) (W : WA A p) (Cq : CP Y A q) (Wq : WA A q) (hf : f < nF A q) (hl : A 13 (200 * q + eN A (8 * q + f)) = n32 f) (hst : fI Y (1, 0, 0) 3 = st) (h0 : 0 ≤ st.toInt) (hi' : i < 2147483000) (H : Q (cF A p i q f (gRow Y (23, 0, 0)) st) Y) : L_25_0 V g Y (5, p, 0) (n32 i) (2, q, eN A (8 * q + f)) (0, q, f) Q := by
  have hf8 : f < 8 := by have := Wq.2.1.2.2; omega
  have he := (Wq.2.2.2.2.2.2.2.2.1 f hf).2.1
  have e3 := ((Cq.2.2.1 (eN A (8 * q + f)) he).2 (by rw [hl]; exact n_ge0 (by omega))).2.2
  have ho := (Cq.2.2.2.1 f hf).2.2.2
  unfold cF at H
  rw [if_neg (fun z => z hl)] at H
  refine l_25_0 (s_85 (fun m => ⟨fun z => absurd z (by decide), fun _ => ?_⟩) (fun m => ⟨fun _ => ?_, fun z => absurd rfl z⟩))
  · rw [if_pos ((meets_rq e3).mp m)] at H
    rw [show n32 i + 1 = n32 (i + 1) from n_add i 1]
    refine s_19 C W hst h0 (by omega) ?_
    have e : gF A p (i + 1) (gRow Y (xsub (0, q, f) 1)) st = gF A p (i + 1) (oRow A (8 * q + f)) st := gF_c ho
    rw [e]
    exact H
  · rw [if_neg (fun z => m ((meets_rq e3).mpr z))] at H
    exact H
theorem s_47 {Q : Option xT → xW → Prop} {f : Nat} (C : CP Y A p) (W : WA A p) (hf : f < nF A p) (hf1 : 1 ≤ f) (H1 : A 13 (200 * p + eN A (8 * p + f)) = n32 f → Q (some (2, p, eN A (8 * p + f))) Y) (H0 : ¬ A 13 (200 * p + eN A (8 * p + f)) = n32 f → Q none Y) : L_47_0 V g Y (5, p, 0) (n32 f) Q := by
  have f8 := W.2.1.2.2
  have hn : fI Y (5, p, 0) 5 = n32 (nW A p) := C.1.2.1.trans W.1.1
  have hfn : fI Y (5, p, 0) 6 = n32 (nF A p) := C.1.2.2.1.trans W.2.1.1
  obtain ⟨c1, c2, c3, c4⟩ := C.2.2.2.1 f hf
  obtain ⟨w1, w2, w3⟩ := W.2.2.2.2.2.2.2.2.1 f hf
  have w3 := w3 hf1
  refine l_47_0 (s_45 hfn f8 (by omega) (fun _ => ⟨fun z => absurd (z.symm.trans c1) (by simp), fun u e => ?_⟩) (fun z => absurd hf z))
  cases c1.symm.trans e
  rw [c2, w1]
  refine s_44 hn W.1.2 (by omega) (fun _ => l_47_22 ?_) (fun z => absurd w3 z)
  by_cases neg : A 13 (200 * p + eN A (8 * p + f)) < 0
  · have e1 := (C.2.2.1 _ w2).1 neg
    refine ⟨fun _ => l_47_39 (l_47_40 (H0 (fun z => ?_))), fun u e => absurd (e.symm.trans e1) (by simp)⟩
    rw [z] at neg
    exact n_ge0 (by omega) neg
  · obtain ⟨e1, e2, e3⟩ := (C.2.2.1 _ w2).2 neg
    refine ⟨fun z => absurd (z.symm.trans e1) (by simp), fun u e => ?_⟩
    cases e1.symm.trans e
    rw [e2]
    exact ⟨fun z => l_47_40 (H1 z), fun z => l_47_39 (l_47_40 (H0 z))⟩
/-- a whole word -/
theorem s_5 {Q : Int32 → xW → Prop} (hL : ∀ q, q < 24 → A 6 q = 1 → CP Y A q ∧ WA A q) (C : CP Y A p) (W : WA A p) (hi : i < nW A p) (ok : okR (gRow Y (23, 0, 0))) (hst : fI Y (1, 0, 0) 3 = st) (h0 : ∃ f, f < nF A p ∧ st = n32 f) (H : ∀ Y', JP Y Y' st (wF A p i (gRow Y (23, 0, 0)) st (A 12 (200 * p + i))) → Q (wF A p i (gRow Y (23, 0, 0)) st (A 12 (200 * p + i))).1 Y') : L_5_0 V g Y (5, p, 0) (n32 i) Q := by
  have w2 := W.1.2
  have f8 := W.2.1.2.2
  obtain ⟨sf, hsf, est⟩ := h0
  have h0 : 0 ≤ st.toInt := by rw [est, n_toInt (by omega)]; omega
  have okw := W.2.2.2.2.1 i hi
  have cw := C.2.1 i hi
  generalize A 12 (200 * p + i) = w at *
  obtain ⟨o1, o2, o3, o4, o5⟩ := okw
  have ti : (n32 (wOp w)).toInt = (wOp w : Int) := n_toInt (by omega)
  have n6 := n_lt6 w
  refine l_5_0 ⟨.inl rfl, fun Y1 e1 => ?_⟩
  have j1 : JF Y Y1 := by rw [e1]; exact JF_uI _ _ _
  have hn1 : fI Y1 (5, p, 0) 5 = n32 (nW A p) := (CP_J j1 C).1.2.1.trans W.1.1
  refine s_43 hn1 w2 hi ?_
  rw [j1.2.1 (5, p, 0) 1 i (by simp), cw]
  refine s_6 (fun Y4 j4 r2 r3 hd ha hb hn hs hr => ?_)
  rw [Nat.mod_eq_of_lt o2] at hd
  rw [Nat.mod_eq_of_lt o3] at ha
  have j : JF Y Y4 := JF_t j1 j4
  have C4 := CP_J j C
  have hst4 : fI Y4 (1, 0, 0) 3 = st := by rw [r3, e1]; exact hst
  have hre : fI Y4 (1, 0, 0) 2 = 0 := by rw [r2, e1]; rfl
  have hr4 : gRow Y4 (23, 0, 0) = gRow Y (23, 0, 0) := by rw [hr, e1]; rfl
  have keep : ∀ x, JP Y Y4 st (x, gRow Y (23, 0, 0), false) := fun x => ⟨j, hst4, fun _ => ⟨hre, fun r _ => by rw [hr4]⟩⟩
  have up : ∀ Y' q, JP Y4 Y' st q → JP Y Y' st q := fun Y' q h => ⟨JF_t j h.1, h.2⟩
  have work : 1 ≤ wOp w → wOp w ≤ 14 → L_5_248 V g Y4 (5, p, 0) (n32 i) (n32 (wOp w)) Q := by
    intro h1 h2
    rw [wF_wk h1 h2] at H
    refine l_5_248 ?_
    rw [show fI Y4 (5, p, 0) 0 = A 7 p from C4.1.1]
    refine s_7 (d := wD w) (a := wA w) (b := wB w % 8) (n := n32 (wN w)) (s := wS w) h2 (by rw [hr4]; exact ok) hd o2 ha o3 hb (Nat.mod_lt _ (by omega)) hn hs (fun Y' h' => ?_)
    rw [hr4] at h' ⊢
    have st' : fI Y' (1, 0, 0) 3 = st := by rw [h'.1]; exact hst4
    refine ⟨fun c => s_20 (CP_J (JF_row h') C4) W st' h0 (by omega) (fun Y6 e6 => l_5_275 ?_), fun c => l_5_275 ?_⟩
    · rw [if_pos c] at H
      rw [nxF_c h'.2.2.2.2.2]
      refine H Y6 ?_
      rw [e6]
      exact ⟨JF_t j (JF_t (JF_row h') (JF_uI _ _ _)), st', fun _ => ⟨rfl, h'.2.2.2.2.2⟩⟩
    · rw [if_neg c] at H
      exact H Y' ⟨JF_t j (JF_row h'), st', fun z => absurd z c⟩
  have eqo : ∀ {m : Nat}, m ≤ 20 → n32 (wOp w) = n32 m → wOp w = m := fun h1 h2 => (n_eq (by omega) (by omega)).mp h2
  refine ⟨⟨fun e => ?_, fun e => ?_, fun e => ?_, fun e => ?_, fun e => ?_, fun e => ?_, fun e => ?_, fun e => ?_, fun e => ?_, fun e => ?_, fun e => ?_, fun e => ?_, fun e => ?_, fun e => ?_, fun e => ?_, fun e => ?_, fun e => ?_, fun e => ?_, fun e => ?_, fun e => ?_, fun e => ?_⟩, fun e => ?_⟩
  · have e' := eqo (m := 0) (by omega) e
    rw [wF_0 e'] at H
    rw [ha]
    refine s_79 o3 (fun c => ⟨fun z => absurd z (by decide), fun _ => l_5_135 ?_⟩) (fun c => ⟨fun _ => l_5_135 ?_, fun z => absurd rfl z⟩)
    · rw [hr4] at c
      rw [if_pos c] at H
      exact H Y4 (keep _)
    · rw [hr4] at c
      rw [if_neg c] at H
      exact H Y4 (keep _)
  · have e' := eqo (m := 1) (by omega) e
    exact work (by omega) (by omega)
  · have e' := eqo (m := 2) (by omega) e
    exact work (by omega) (by omega)
  · have e' := eqo (m := 3) (by omega) e
    exact work (by omega) (by omega)
  · have e' := eqo (m := 4) (by omega) e
    exact work (by omega) (by omega)
  · have e' := eqo (m := 5) (by omega) e
    exact work (by omega) (by omega)
  · have e' := eqo (m := 6) (by omega) e
    exact work (by omega) (by omega)
  · have e' := eqo (m := 7) (by omega) e
    exact work (by omega) (by omega)
  · have e' := eqo (m := 8) (by omega) e
    exact work (by omega) (by omega)
  · have e' := eqo (m := 9) (by omega) e
    exact work (by omega) (by omega)
  · have e' := eqo (m := 10) (by omega) e
    exact work (by omega) (by omega)
  · have e' := eqo (m := 11) (by omega) e
    exact work (by omega) (by omega)
  · have e' := eqo (m := 12) (by omega) e
    exact work (by omega) (by omega)
  · have e' := eqo (m := 13) (by omega) e
    exact work (by omega) (by omega)
  · have e' := eqo (m := 14) (by omega) e
    exact work (by omega) (by omega)
  · have e' := eqo (m := 15) (by omega) e
    rw [wF_15 e'] at H
    rw [hn]
    refine s_19 C4 W hst4 h0 (by omega) ?_
    rw [hr4]
    exact H Y4 (keep _)
  · have e' := eqo (m := 16) (by omega) e
    rw [wF_16 e'] at H
    rw [hd]
    refine s_79 o2 (fun c => ⟨fun z => absurd z (by decide), fun _ => ?_⟩) (fun c => ⟨fun _ => l_5_187 (l_5_188 ?_), fun z => absurd rfl z⟩)
    · rw [hr4] at c
      rw [ha]
      refine s_79 o3 (fun c2 => ⟨fun z => absurd z (by decide), fun _ => ?_⟩) (fun c2 => ⟨fun _ => l_5_187 (l_5_188 ?_), fun z => absurd rfl z⟩)
      · rw [hr4] at c2
        rw [if_pos ⟨c, c2⟩] at H
        refine s_21 C4 W hst4 h0 (by omega) hre hd o2 ha o3 hn (by omega) (fun q eq Y' h' => l_5_188 ?_)
        rw [hr4] at eq
        subst eq
        exact H Y' (up _ _ h')
      · rw [hr4] at c2
        rw [if_neg (fun z => c2 z.2)] at H
        exact H Y4 (keep _)
    · rw [hr4] at c
      rw [if_neg (fun z => c z.1)] at H
      exact H Y4 (keep _)
  · have e' := eqo (m := 17) (by omega) e
    rw [wF_17 e'] at H
    rw [hd]
    refine s_79 o2 (fun c => ⟨fun z => absurd z (by decide), fun _ => ?_⟩) (fun c => ⟨fun _ => l_5_226 (l_5_227 ?_), fun z => absurd rfl z⟩)
    · rw [hr4] at c
      rw [ha]
      refine s_79 o3 (fun c2 => ⟨fun z => absurd z (by decide), fun _ => ?_⟩) (fun c2 => ⟨fun _ => l_5_226 (l_5_227 ?_), fun z => absurd rfl z⟩)
      · rw [hr4] at c2
        rw [if_pos ⟨c, c2⟩] at H
        refine s_22 C4 W hst4 h0 (by omega) hre hd o2 ha o3 hn (by omega) (fun q eq Y' h' => l_5_227 ?_)
        rw [hr4] at eq
        subst eq
        exact H Y' (up _ _ h')
      · rw [hr4] at c2
        rw [if_neg (fun z => c2 z.2)] at H
        exact H Y4 (keep _)
    · rw [hr4] at c
      rw [if_neg (fun z => c z.1)] at H
      exact H Y4 (keep _)
  · have e' := eqo (m := 18) (by omega) e
    rw [wF_18 e'] at H
    refine l_23_0 ?_
    have hfn : fI Y4 (5, p, 0) 6 = n32 (nF A p) := C4.1.2.2.1.trans W.2.1.1
    rw [hn]
    refine s_45 hfn f8 (by omega) (fun c => ?_) (fun c => ⟨fun _ => l_23_24 ?_, fun u e => absurd e (by simp)⟩)
    · have c1 := (C4.2.2.2.1 (wN w) c).1
      refine ⟨fun z => absurd (z.symm.trans c1) (by simp), fun u e => ?_⟩
      cases c1.symm.trans e
      rw [hst4, hn]
      refine ⟨fun c2 => ?_, fun c2 => l_23_24 ?_⟩
      · rw [if_neg (fun z => z.elim (fun z => by omega) (fun z => z c2))] at H
        have hf1 : 1 ≤ wN w := by
          rw [i_lt, n_toInt (show wN w < 2147483648 by omega)] at c2
          omega
        refine s_47 C4 W c hf1 (fun c3 => ⟨fun z => absurd z (by simp), fun u e => ?_⟩) (fun c3 => ⟨fun _ => l_23_55 ?_, fun u e => absurd e (by simp)⟩)
        · cases e
          refine s_25 C4 W C4 W c c3 hst4 h0 (by omega) (l_23_55 ?_)
          rw [hr4]
          exact H Y4 (keep _)
        · unfold cF at H
          rw [if_pos c3] at H
          exact H Y4 (keep _)
      · rw [if_pos (.inr c2)] at H
        exact H Y4 (keep _)
    · rw [if_pos (.inl (by omega))] at H
      exact H Y4 (keep _)
  · have e' := eqo (m := 19) (by omega) e
    rw [wF_19 e'] at H
    refine l_24_0 ?_
    have hln : fI Y4 (5, p, 0) 7 = n32 (nL A p) := C4.1.2.2.2.1.trans W.2.2.1.1
    rw [hn]
    refine s_46 hln W.2.2.1.2 (by omega) (fun c => ?_) (fun c => ⟨fun _ => l_24_32 ?_, fun u e => absurd e (by simp)⟩)
    · obtain ⟨c1, c2, c3, c4⟩ := C4.2.2.2.2 (wN w) c
      obtain ⟨q1, q2, q3, q4, q5, q6, q7, q8⟩ := W.2.2.2.2.2.2.2.2.2 (wN w) c
      refine ⟨fun z => absurd (z.symm.trans c1) (by simp), fun u e => ?_⟩
      cases c1.symm.trans e
      intro o4 e4 o5 e5
      refine ⟨_, e4.trans c4, _, e5.trans c3, ?_⟩
      have hq := hL _ q3 q4
      refine s_25 C4 W (CP_J j hq.1) hq.2 q6 q7 hst4 h0 (by omega) (l_24_32 ?_)
      rw [if_neg (by omega)] at H
      rw [hr4]
      exact H Y4 (keep _)
    · rw [if_pos (by omega)] at H
      exact H Y4 (keep _)
  · have e' := eqo (m := 20) (by omega) e
    rw [wF_20 e'] at H
    refine l_26_0 ?_
    have hfn : fI Y4 (5, p, 0) 6 = n32 (nF A p) := C4.1.2.2.1.trans W.2.1.1
    rw [hst4, est]
    rw [est] at H keep
    refine s_45 hfn f8 (by omega) (fun _ => ?_) (fun z => absurd hsf z)
    obtain ⟨c1, c2, c3, c4⟩ := C4.2.2.2.1 sf hsf
    rw [hst4, est]
    refine ⟨fun z => l_26_20 ?_, fun z => ⟨fun y => absurd (y.symm.trans c1) (by simp), fun u e => ?_⟩⟩
    · rw [if_pos z] at H
      exact H Y4 (keep _)
    · cases c1.symm.trans e
      rw [if_neg z, n_nat (by omega)] at H
      have ee : meetsR (gRow Y4 (23, 0, 0)) (gRow Y4 (xsub (0, p, sf) 1)) ↔ meetsR (gRow Y (23, 0, 0)) (oRow A (8 * p + sf)) := meets_c (fun r _ => by rw [hr4]) c4
      refine s_85 (fun m => ⟨fun z => absurd z (by decide), fun _ => l_26_43 ?_⟩) (fun m => ⟨fun _ => l_26_43 ?_, fun z => absurd rfl z⟩)
      · rw [if_pos (ee.mp m)] at H
        exact H Y4 (keep _)
      · rw [if_neg (fun z => m (ee.mpr z))] at H
        exact H Y4 (keep _)
  · rw [ti] at e
    omega
end JH
