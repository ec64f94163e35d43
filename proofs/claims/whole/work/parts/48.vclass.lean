/-! the whole of the class's verify -/
def VC (Y Y' : xW) (A : AF) (p : Nat) (v : Int32) : Prop :=
  (∀ u k, u ≠ (1, 0, 0) → ¬ (u = (5, p, 0) ∧ (k = 8 ∨ k = 9)) → ¬ (u.1 = 0 ∧ u.2.1 = p ∧ k = 2) → fI Y' u k = fI Y u k) ∧ fI Y' (5, p, 0) 8 = (if v = 0 then 1 else 2) ∧ fI Y' (5, p, 0) 9 = v ∧
  (∀ f, f < nF A p → fI Y' (0, p, f) 2 = if v = 0 then dpo A p (nF A p) (A 18) (8 * p + f) else A 18 (8 * p + f)) ∧
  (∀ u k i, u.1 ≠ 23 → fA Y' u k i = fA Y u k i) ∧ (∀ u k i, fL Y' u k i = fL Y u k i) ∧ (∀ u k i, ¬ (u = (9, 0, 0) ∧ k = 2 ∧ i = 0) → fR Y' u k i = fR Y u k i) ∧ fR Y' (9, 0, 0) 2 0 = none ∧ fC Y' = fC Y
section VG
variable {V : xV} {g : xG} {Y : xW} {A : AF} {p : Nat}
theorem s_52 {Y0 : xW} {Q : xW → Prop} {v : Int32} (C : CP Y0 A p) (W : WA A p) (oC : v = 0 → okC A p) (hpl : ∀ k, k < nL A p → lP A (8 * p + k) ≠ p ∧ lF A (8 * p + k) < 8) (hL : ∀ k, k < nL A p → fI Y0 (0, lP A (8 * p + k), lF A (8 * p + k)) 2 = A 18 (8 * lP A (8 * p + k) + lF A (8 * p + k)))
    (H : ∀ Y', DW p Y0 Y' → fI Y' (5, p, 0) 8 = (if v = 0 then 1 else 2) → fI Y' (5, p, 0) 9 = v → (∀ f, f < nF A p → fI Y' (0, p, f) 2 = if v = 0 then dpo A p (nF A p) (A 18) (8 * p + f) else A 18 (8 * p + f)) → Q Y') : L_52_0 V g Y0 (5, p, 0) v Q := by
  have last : ∀ Y1 s, Y1 = uI Y0 (5, p, 0) 9 v → s = (if v = 0 then 1 else 2) → L_52_15 V g Y1 (5, p, 0) v (5, p, 0) s Q := by
    intro Y1 s e1 es
    refine l_52_15 (fun Y2 e2 => ?_)
    have K : DW p Y0 Y2 := by
      rw [e2, e1]
      exact ⟨fun u k hu => by rw [fI_uI, if_neg (fun z => hu (.inr ⟨z.1, .inl z.2⟩)), fI_uI, if_neg (fun z => hu (.inr ⟨z.1, .inr z.2⟩))], fun _ _ _ => rfl, fun _ _ _ => rfl, fun _ _ _ => rfl, rfl⟩
    have e8 : fI Y2 (5, p, 0) 8 = s := by rw [e2, fI_uI, if_pos ⟨rfl, rfl⟩]
    have e9 : fI Y2 (5, p, 0) 9 = v := by rw [e2, fI_uI, if_neg (by simp), e1, fI_uI, if_pos ⟨rfl, rfl⟩]
    have d0 : ∀ u, u.1 = 0 → fI Y2 u 2 = fI Y0 u 2 := by
      intro u hu
      rw [e2, fI_uI, if_neg (by simp), e1, fI_uI, if_neg (by simp)]
    rw [e8]
    refine ⟨fun c => ?_, fun c => l_52_30 ?_⟩
    · have v0 : v = 0 := by
        rw [es] at c
        split at c
        · assumption
        · exact absurd c (by decide)
      refine s_54 (D := A 18) C W (oC v0) K hpl (fun f' hf' => ?_) (fun k hk => ?_) (fun Y3 F3 d3 => l_52_30 (H Y3 (DW_t K F3) ?_ ?_ (fun f hf => ?_)))
      · rw [d0 _ rfl]
        exact (C.2.2.2.1 f' hf').2.2.1
      · rw [d0 _ rfl]
        exact hL k hk
      · rw [F3.1 _ _ (by simp), e8, es]
      · rw [F3.1 _ _ (by simp), e9]
      · rw [d3 f hf, if_pos v0]
    · have v0 : ¬ v = 0 := by
        intro z
        rw [es, if_pos z] at c
        exact c rfl
      refine H Y2 K (by rw [e8, es]) e9 (fun f hf => ?_)
      rw [if_neg v0, d0 _ rfl]
      exact (C.2.2.2.1 f hf).2.2.1
  refine l_52_0 (fun Y1 e1 => ⟨fun c => last Y1 1 e1 (by rw [if_pos c]), fun c => last Y1 2 e1 (by rw [if_neg c])⟩)
theorem s_95 {Q : Int32 → xW → Prop} (hL : ∀ q, q < 24 → A 6 q = 1 → CP Y A q ∧ WA A q) (C : CP Y A p) (W : WA A p) (ho : fR Y (9, 0, 0) 2 0 = some (5, p, 0)) (hpl : ∀ k, k < nL A p → lP A (8 * p + k) ≠ p) (H : ∀ Y', VC Y Y' A p (vAns A p) → Q (vAns A p) Y') : L_95_0 V g Y Q := by
  have hpl8 : ∀ k, k < nL A p → lP A (8 * p + k) ≠ p ∧ lF A (8 * p + k) < 8 := by
    intro k hk
    obtain ⟨q1, q2, q3, q4, q5, q6, q7, q8⟩ := W.2.2.2.2.2.2.2.2.2 k hk
    have := (hL _ q3 q4).2.2.1.2.2
    exact ⟨hpl k hk, by omega⟩
  refine l_95_0 (fun o1 e1 => ⟨fun z => absurd (z.symm.trans (e1.trans ho)) (by simp), fun u2 e2 o3 e3 => ⟨(5, p, 0), e3.trans ho, ?_⟩⟩)
  refine s_2 W hL C (fun Y5 j5 o7 e7 => ⟨(5, p, 0), ?_, ?_⟩)
  · rw [e7, j5.2.2.2.1]
    exact ho
  · refine s_52 (CP_J j5 C) W (fun z => okC_of (vAns_acc W z)) hpl8 (fun k hk => ?_) (fun Y9 K9 s8 s9 sd Y10 e10 => ?_)
    · obtain ⟨q1, q2, q3, q4, q5, q6, q7, q8⟩ := W.2.2.2.2.2.2.2.2.2 k hk
      rw [j5.1 _ _ (by simp)]
      exact ((hL _ q3 q4).1.2.2.2.1 _ q6).2.2.1
    · refine H Y10 ⟨fun u k h1 h2 h3 => ?_, ?_, ?_, fun f hf => ?_, fun u k i hu => ?_, fun u k i => ?_, fun u k i hu => ?_, ?_, ?_⟩
      · rw [e10, fI_uR, K9.1 u k (fun z => z.elim h3 h2)]
        exact j5.1 u k h1
      · rw [e10, fI_uR]
        exact s8
      · rw [e10, fI_uR]
        exact s9
      · rw [e10, fI_uR]
        exact sd f hf
      · rw [e10, fA_uR, K9.2.1]
        exact j5.2.1 u k i hu
      · rw [e10, fL_uR, K9.2.2.1]
        exact j5.2.2.1 u k i
      · rw [e10, fR_uR, if_neg hu, K9.2.2.2.1]
        exact j5.2.2.2.1 u k i
      · rw [e10, fR_uR, if_pos ⟨rfl, rfl, rfl⟩]
      · rw [e10, fC_uR, K9.2.2.2.2]
        exact j5.2.2.2.2
end VG
