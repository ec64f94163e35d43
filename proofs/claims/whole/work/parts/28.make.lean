/-! reads behind writes -/
section UU
variable (Y : xW) (t t' : xT) (k k' i i' : Nat)
theorem fI_uI (v : Int32) : fI (uI Y t k v) t' k' = if t' = t ∧ k' = k then v else fI Y t' k' := rfl
theorem fI_uA (v : Int32) : fI (uA Y t k i v) t' k' = fI Y t' k' := rfl
theorem fI_uL (v : Int64) : fI (uL Y t k i v) t' k' = fI Y t' k' := rfl
theorem fI_uR (v : Option xT) : fI (uR Y t k i v) t' k' = fI Y t' k' := rfl
theorem fI_uC (c : Nat × Nat × Nat) : fI (uC Y c) t' k' = fI Y t' k' := rfl
theorem fA_uI (v : Int32) : fA (uI Y t k v) t' k' i' = fA Y t' k' i' := rfl
theorem fA_uA (v : Int32) : fA (uA Y t k i v) t' k' i' = if t' = t ∧ k' = k ∧ i' = i then v else fA Y t' k' i' := rfl
theorem fA_uL (v : Int64) : fA (uL Y t k i v) t' k' i' = fA Y t' k' i' := rfl
theorem fA_uR (v : Option xT) : fA (uR Y t k i v) t' k' i' = fA Y t' k' i' := rfl
theorem fA_uC (c : Nat × Nat × Nat) : fA (uC Y c) t' k' i' = fA Y t' k' i' := rfl
theorem fL_uI (v : Int32) : fL (uI Y t k v) t' k' i' = fL Y t' k' i' := rfl
theorem fL_uA (v : Int32) : fL (uA Y t k i v) t' k' i' = fL Y t' k' i' := rfl
theorem fL_uL (v : Int64) : fL (uL Y t k i v) t' k' i' = if t' = t ∧ k' = k ∧ i' = i then v else fL Y t' k' i' := rfl
theorem fL_uR (v : Option xT) : fL (uR Y t k i v) t' k' i' = fL Y t' k' i' := rfl
theorem fL_uC (c : Nat × Nat × Nat) : fL (uC Y c) t' k' i' = fL Y t' k' i' := rfl
theorem fR_uI (v : Int32) : fR (uI Y t k v) t' k' i' = fR Y t' k' i' := rfl
theorem fR_uA (v : Int32) : fR (uA Y t k i v) t' k' i' = fR Y t' k' i' := rfl
theorem fR_uL (v : Int64) : fR (uL Y t k i v) t' k' i' = fR Y t' k' i' := rfl
theorem fR_uR (v : Option xT) : fR (uR Y t k i v) t' k' i' = if t' = t ∧ k' = k ∧ i' = i then v else fR Y t' k' i' := rfl
theorem fR_uC (c : Nat × Nat × Nat) : fR (uC Y c) t' k' i' = fR Y t' k' i' := rfl
theorem fC_uI (v : Int32) : fC (uI Y t k v) = fC Y := rfl
theorem fC_uA (v : Int32) : fC (uA Y t k i v) = fC Y := rfl
theorem fC_uL (v : Int64) : fC (uL Y t k i v) = fC Y := rfl
theorem fC_uR (v : Option xT) : fC (uR Y t k i v) = fC Y := rfl
theorem fC_uC (c : Nat × Nat × Nat) : fC (uC Y c) = c := rfl
end UU
/-- which arrays an object has -/
theorem ad_no {c k : Nat} (hc : c = 0 ∨ c = 2 ∨ c = 3) : ¬ (xad c k).isSome = true := by
  rcases hc with rfl | rfl | rfl <;> (intro h; match k, h with
    | 0, h => cases h
    | 1, h => cases h
    | 2, h => cases h
    | _ + 3, h => cases h)
theorem ad_4 {k : Nat} (h : (xad 4 k).isSome = true) : k = 2 ∨ k = 3 := by
  match k, h with
  | 0, h => cases h
  | 1, h => cases h
  | 2, _ => exact Or.inl rfl
  | 3, _ => exact Or.inr rfl
  | 4, h => cases h
  | 5, h => cases h
  | 6, h => cases h
  | 7, h => cases h
  | 8, h => cases h
  | 9, h => cases h
  | 10, h => cases h
  | 11, h => cases h
  | _ + 12, h => cases h
theorem ad_5 {k : Nat} (h : (xad 5 k).isSome = true) : k = 1 ∨ k = 2 ∨ k = 3 ∨ k = 4 := by
  match k, h with
  | 0, h => cases h
  | 1, _ => exact Or.inl rfl
  | 2, _ => exact Or.inr (Or.inl rfl)
  | 3, _ => exact Or.inr (Or.inr (Or.inl rfl))
  | 4, _ => exact Or.inr (Or.inr (Or.inr rfl))
  | 5, h => cases h
  | 6, h => cases h
  | 7, h => cases h
  | 8, h => cases h
  | 9, h => cases h
  | _ + 10, h => cases h
theorem ad_8 {k : Nat} (h : (xad 8 k).isSome = true) : k = 0 ∨ k = 1 ∨ k = 2 := by
  match k, h with
  | 0, _ => exact Or.inl rfl
  | 1, _ => exact Or.inr (Or.inl rfl)
  | 2, _ => exact Or.inr (Or.inr rfl)
  | _ + 3, h => cases h
theorem dk_3 {c k : Nat} (hc : c = 3 ∨ c = 4 ∨ c = 5 ∨ c = 8) : ¬ xdk c k = 3 := by
  intro h
  match k, h with
  | 0, h => rcases hc with rfl | rfl | rfl | rfl <;> cases h
  | 1, h => rcases hc with rfl | rfl | rfl | rfl <;> cases h
  | 2, h => rcases hc with rfl | rfl | rfl | rfl <;> cases h
  | 3, h => rcases hc with rfl | rfl | rfl | rfl <;> cases h
  | 4, h => rcases hc with rfl | rfl | rfl | rfl <;> cases h
  | 5, h => rcases hc with rfl | rfl | rfl | rfl <;> cases h
  | 6, h => rcases hc with rfl | rfl | rfl | rfl <;> cases h
  | 7, h => rcases hc with rfl | rfl | rfl | rfl <;> cases h
  | 8, h => rcases hc with rfl | rfl | rfl | rfl <;> cases h
  | 9, h => rcases hc with rfl | rfl | rfl | rfl <;> cases h
  | 10, h => rcases hc with rfl | rfl | rfl | rfl <;> cases h
  | 11, h => rcases hc with rfl | rfl | rfl | rfl <;> cases h
  | _ + 12, h => rcases hc with rfl | rfl | rfl | rfl <;> cases h
theorem dk_0 {k : Nat} (h : xdk 0 k = 3) : k = 1 := by
  match k, h with
  | 0, h => cases h
  | 1, _ => rfl
  | 2, h => cases h
  | _ + 3, h => cases h
theorem dk_2 {k : Nat} (h : xdk 2 k = 3) : k = 0 := by
  match k, h with
  | 0, _ => rfl
  | 1, h => cases h
  | _ + 2, h => cases h

theorem mk_2 {V : xV} {g : xG} {h h' : xH} {Y : xW} {c s : Nat} {i k : Nat} (R : RC V g h Y) (S : xcs h h' h.2.1 [.inr (2, [.ref (h.2.1 + 1), .int 0]), .inr (8, [.ref (h.2.1 + 2), .ref (h.2.1 + 3), .ref (h.2.1 + 4)]), .inl (0, 8, .inl (fun _ => 0)), .inl (0, 8, .inl (fun _ => 0)), .inl (0, 8, .inl (fun _ => 0))] c s) (ht0 : g.1 (2, i, k) = false) (ht1 : g.1 (22, i, k) = false)  : ∃ g' : xG, RC V g' h' (uC Y (h.2.1 + 5, c, s)) ∧ xle g g' ∧ (∀ t, g'.1 t = true ↔ g.1 t = true ∨ t = (2, i, k) ∨ t = (22, i, k)) ∧ g'.2 (2, i, k) 0 = h.2.1 := by
  generalize hnw : (fun t => decide (t = (2, i, k) ∨ t = (22, i, k)) : xT → Bool) = nw
  generalize hix : (fun (t : xT) (o : Nat) => if t.1 = 2 then [0, 0, 0, 0, 0, 0].getD o 0 else if t.1 = 22 then [1, 2, 3, 4, 0, 0].getD o 0 else 0 : xT → Nat → Nat) = ix
  have hw : ∀ t, nw t = true ↔ t = (2, i, k) ∨ t = (22, i, k) := fun t => by subst hnw; simp only [decide_eq_true_eq]
  have w0 : nw (2, i, k) = true := (hw _).mpr (by simp)
  have z0 := R.2.2.2.2.2.1 (2, i, k) ht0
  obtain ⟨al0, ad0⟩ := xgn_n (g := g) (q := h.2.1) (ix := ix) w0
  have w1 : nw (22, i, k) = true := (hw _).mpr (by simp)
  have z1 := R.2.2.2.2.2.1 (22, i, k) ht1
  obtain ⟨al1, ad1⟩ := xgn_n (g := g) (q := h.2.1) (ix := ix) w1
  have i0_0 : ix (2, i, k) 0 = 0 := by subst hix; rfl
  have i1_0 : ix (22, i, k) 0 = 1 := by subst hix; rfl
  have i1_1 : ix (22, i, k) 1 = 2 := by subst hix; rfl
  have i1_2 : ix (22, i, k) 2 = 3 := by subst hix; rfl
  have i1_3 : ix (22, i, k) 3 = 4 := by subst hix; rfl
  generalize hY : (uC Y (h.2.1 + 5, c, s)) = Y'
  have hn : ∀ t, nw t = true → g.1 t = false := by
    intro t ht
    rcases (hw t).mp ht with rfl | rfl
    · exact ht0
    · exact ht1
  have hky : ∀ t o, nw t = true → xky (xgn g nw h.2.1 ix) t o → (t = (2, i, k) ∧ o = 0) ∨ (t = (22, i, k) ∧ o = 0) ∨ (t = (22, i, k) ∧ o = 1) ∨ (t = (22, i, k) ∧ o = 2) ∨ (t = (22, i, k) ∧ o = 3) := by
    intro t o ht hk
    rcases (hw t).mp ht with rfl | rfl
    · cases o with
      | zero => simp
      | succ k =>
        exact absurd hk.2 (ad_no (c := 2) (by decide))
    · cases o with
      | zero => simp
      | succ k =>
        have := ad_8 hk.2
        simp; omega
  have q : RC V (xgn g nw h.2.1 ix) h' Y' ∧ xle g (xgn g nw h.2.1 ix) := by
    refine rc_new R S nw ix hn ?_ ?_ ?_ ?_ ?_ ?_ ?_
    · intro t o t' o' ht ht' hk hk' he
      rcases hky t o ht hk with ⟨rfl, rfl⟩ | ⟨rfl, rfl⟩ | ⟨rfl, rfl⟩ | ⟨rfl, rfl⟩ | ⟨rfl, rfl⟩
      all_goals (rcases hky t' o' ht' hk' with ⟨rfl, rfl⟩ | ⟨rfl, rfl⟩ | ⟨rfl, rfl⟩ | ⟨rfl, rfl⟩ | ⟨rfl, rfl⟩)
      all_goals first | exact ⟨rfl, rfl⟩ | (simp only [i0_0, i1_0, i1_1, i1_2, i1_3] at he; exact absurd he (by decide))
    · intro t o ht hk
      rcases hky t o ht hk with ⟨rfl, rfl⟩ | ⟨rfl, rfl⟩ | ⟨rfl, rfl⟩ | ⟨rfl, rfl⟩ | ⟨rfl, rfl⟩
      · rw [i0_0]
        show _ = (some (Sum.inr (2, [.ref ((xgn g nw h.2.1 ix).2 (22, i, k) 0), .int (fI Y' (2, i, k) 1)])) : Option xE)
        rw [ad1 0, i1_0, show fI Y' (2, i, k) 1 = 0 from by subst hY; simp [fI_uI, fI_uR, fI_uC, fA_uI, fA_uR, fA_uC, fL_uI, fL_uR, fL_uC, fR_uI, fR_uR, fR_uC, z0.1]]
        rfl
      · rw [i1_0]
        show _ = (some (Sum.inr (8, [.ref ((xgn g nw h.2.1 ix).2 (22, i, k) 1), .ref ((xgn g nw h.2.1 ix).2 (22, i, k) 2), .ref ((xgn g nw h.2.1 ix).2 (22, i, k) 3)])) : Option xE)
        rw [ad1 1, i1_1, ad1 2, i1_2, ad1 3, i1_3]
        rfl
      · rw [i1_1]
        show _ = (some (Sum.inl (0, 8, .inl (fA Y' (22, i, k) 0))) : Option xE)
        rw [show fA Y' (22, i, k) 0 = (fun _ => 0) from funext fun i => by subst hY; simp [fI_uI, fI_uR, fI_uC, fA_uI, fA_uR, fA_uC, fL_uI, fL_uR, fL_uC, fR_uI, fR_uR, fR_uC, z1.2.1]]
        rfl
      · rw [i1_2]
        show _ = (some (Sum.inl (0, 8, .inl (fA Y' (22, i, k) 1))) : Option xE)
        rw [show fA Y' (22, i, k) 1 = (fun _ => 0) from funext fun i => by subst hY; simp [fI_uI, fI_uR, fI_uC, fA_uI, fA_uR, fA_uC, fL_uI, fL_uR, fL_uC, fR_uI, fR_uR, fR_uC, z1.2.1]]
        rfl
      · rw [i1_3]
        show _ = (some (Sum.inl (0, 8, .inl (fA Y' (22, i, k) 2))) : Option xE)
        rw [show fA Y' (22, i, k) 2 = (fun _ => 0) from funext fun i => by subst hY; simp [fI_uI, fI_uR, fI_uC, fA_uI, fA_uR, fA_uC, fL_uI, fL_uR, fL_uC, fR_uI, fR_uR, fR_uC, z1.2.1]]
        rfl
    · intro t ht
      have n0 : t ≠ (2, i, k) := fun e => by rw [e, ht0] at ht; cases ht
      have n1 : t ≠ (22, i, k) := fun e => by rw [e, ht1] at ht; cases ht
      subst hY
      refine ⟨fun k => ?_, fun k i => ?_, fun k i => ?_, fun k i => ?_⟩ <;> simp [fI_uI, fI_uR, fI_uC, fA_uI, fA_uR, fA_uC, fL_uI, fL_uR, fL_uC, fR_uI, fR_uR, fR_uC, n0, n1]
    · intro t k0 i0 u0 ht hu
      rcases (hw t).mp ht with rfl | rfl
      · subst hY; simp [fI_uI, fI_uR, fI_uC, fA_uI, fA_uR, fA_uC, fL_uI, fL_uR, fL_uC, fR_uI, fR_uR, fR_uC, z0.2.2.2] at hu
      · subst hY; simp [fI_uI, fI_uR, fI_uC, fA_uI, fA_uR, fA_uC, fL_uI, fL_uR, fL_uC, fR_uI, fR_uR, fR_uC, z1.2.2.2] at hu
    · intro t k ht hk
      rcases (hw t).mp ht with rfl | rfl
      · cases dk_2 hk; exact ⟨al1, rfl⟩
      · exact absurd hk (dk_3 (c := 8) (by decide))
    · intro t hg hnt
      have n0 : t ≠ (2, i, k) := fun e => by rw [e, w0] at hnt; cases hnt
      have n1 : t ≠ (22, i, k) := fun e => by rw [e, w1] at hnt; cases hnt
      obtain ⟨y1, y2, y3, y4⟩ := R.2.2.2.2.2.1 t hg
      subst hY
      refine ⟨fun k => ?_, fun k i => ?_, fun k i => ?_, fun k i => ?_⟩ <;> simp [fI_uI, fI_uR, fI_uC, fA_uI, fA_uR, fA_uC, fL_uI, fL_uR, fL_uC, fR_uI, fR_uR, fR_uC, n0, n1, y1, y2, y3, y4]
    · subst hY; rfl
  refine ⟨_, q.1, q.2, fun t => ?_, ?_⟩
  · show (g.1 t || nw t) = true ↔ _
    rw [Bool.or_eq_true, hw]
  · rw [ad0 0, i0_0]; rfl
theorem mk_0 {V : xV} {g : xG} {h h' : xH} {Y : xW} {c s : Nat} {i k : Nat} {l1 : Int32} (R : RC V g h Y) (S : xcs h h' h.2.1 [.inr (0, [.int l1, .ref (h.2.1 + 1), .int 0]), .inr (8, [.ref (h.2.1 + 2), .ref (h.2.1 + 3), .ref (h.2.1 + 4)]), .inl (0, 8, .inl (fun _ => 0)), .inl (0, 8, .inl (fun _ => 0)), .inl (0, 8, .inl (fun _ => 0))] c s) (ht0 : g.1 (0, i, k) = false) (ht1 : g.1 (20, i, k) = false)  : ∃ g' : xG, RC V g' h' (uI (uC Y (h.2.1 + 5, c, s)) (0, i, k) 0 l1) ∧ xle g g' ∧ (∀ t, g'.1 t = true ↔ g.1 t = true ∨ t = (0, i, k) ∨ t = (20, i, k)) ∧ g'.2 (0, i, k) 0 = h.2.1 := by
  generalize hnw : (fun t => decide (t = (0, i, k) ∨ t = (20, i, k)) : xT → Bool) = nw
  generalize hix : (fun (t : xT) (o : Nat) => if t.1 = 0 then [0, 0, 0, 0, 0, 0].getD o 0 else if t.1 = 20 then [1, 2, 3, 4, 0, 0].getD o 0 else 0 : xT → Nat → Nat) = ix
  have hw : ∀ t, nw t = true ↔ t = (0, i, k) ∨ t = (20, i, k) := fun t => by subst hnw; simp only [decide_eq_true_eq]
  have w0 : nw (0, i, k) = true := (hw _).mpr (by simp)
  have z0 := R.2.2.2.2.2.1 (0, i, k) ht0
  obtain ⟨al0, ad0⟩ := xgn_n (g := g) (q := h.2.1) (ix := ix) w0
  have w1 : nw (20, i, k) = true := (hw _).mpr (by simp)
  have z1 := R.2.2.2.2.2.1 (20, i, k) ht1
  obtain ⟨al1, ad1⟩ := xgn_n (g := g) (q := h.2.1) (ix := ix) w1
  have i0_0 : ix (0, i, k) 0 = 0 := by subst hix; rfl
  have i1_0 : ix (20, i, k) 0 = 1 := by subst hix; rfl
  have i1_1 : ix (20, i, k) 1 = 2 := by subst hix; rfl
  have i1_2 : ix (20, i, k) 2 = 3 := by subst hix; rfl
  have i1_3 : ix (20, i, k) 3 = 4 := by subst hix; rfl
  generalize hY : (uI (uC Y (h.2.1 + 5, c, s)) (0, i, k) 0 l1) = Y'
  have hn : ∀ t, nw t = true → g.1 t = false := by
    intro t ht
    rcases (hw t).mp ht with rfl | rfl
    · exact ht0
    · exact ht1
  have hky : ∀ t o, nw t = true → xky (xgn g nw h.2.1 ix) t o → (t = (0, i, k) ∧ o = 0) ∨ (t = (20, i, k) ∧ o = 0) ∨ (t = (20, i, k) ∧ o = 1) ∨ (t = (20, i, k) ∧ o = 2) ∨ (t = (20, i, k) ∧ o = 3) := by
    intro t o ht hk
    rcases (hw t).mp ht with rfl | rfl
    · cases o with
      | zero => simp
      | succ k =>
        exact absurd hk.2 (ad_no (c := 0) (by decide))
    · cases o with
      | zero => simp
      | succ k =>
        have := ad_8 hk.2
        simp; omega
  have q : RC V (xgn g nw h.2.1 ix) h' Y' ∧ xle g (xgn g nw h.2.1 ix) := by
    refine rc_new R S nw ix hn ?_ ?_ ?_ ?_ ?_ ?_ ?_
    · intro t o t' o' ht ht' hk hk' he
      rcases hky t o ht hk with ⟨rfl, rfl⟩ | ⟨rfl, rfl⟩ | ⟨rfl, rfl⟩ | ⟨rfl, rfl⟩ | ⟨rfl, rfl⟩
      all_goals (rcases hky t' o' ht' hk' with ⟨rfl, rfl⟩ | ⟨rfl, rfl⟩ | ⟨rfl, rfl⟩ | ⟨rfl, rfl⟩ | ⟨rfl, rfl⟩)
      all_goals first | exact ⟨rfl, rfl⟩ | (simp only [i0_0, i1_0, i1_1, i1_2, i1_3] at he; exact absurd he (by decide))
    · intro t o ht hk
      rcases hky t o ht hk with ⟨rfl, rfl⟩ | ⟨rfl, rfl⟩ | ⟨rfl, rfl⟩ | ⟨rfl, rfl⟩ | ⟨rfl, rfl⟩
      · rw [i0_0]
        show _ = (some (Sum.inr (0, [.int (fI Y' (0, i, k) 0), .ref ((xgn g nw h.2.1 ix).2 (20, i, k) 0), .int (fI Y' (0, i, k) 2)])) : Option xE)
        rw [show fI Y' (0, i, k) 0 = l1 from by subst hY; simp [fI_uI, fI_uR, fI_uC, fA_uI, fA_uR, fA_uC, fL_uI, fL_uR, fL_uC, fR_uI, fR_uR, fR_uC, z0.1], ad1 0, i1_0, show fI Y' (0, i, k) 2 = 0 from by subst hY; simp [fI_uI, fI_uR, fI_uC, fA_uI, fA_uR, fA_uC, fL_uI, fL_uR, fL_uC, fR_uI, fR_uR, fR_uC, z0.1]]
        rfl
      · rw [i1_0]
        show _ = (some (Sum.inr (8, [.ref ((xgn g nw h.2.1 ix).2 (20, i, k) 1), .ref ((xgn g nw h.2.1 ix).2 (20, i, k) 2), .ref ((xgn g nw h.2.1 ix).2 (20, i, k) 3)])) : Option xE)
        rw [ad1 1, i1_1, ad1 2, i1_2, ad1 3, i1_3]
        rfl
      · rw [i1_1]
        show _ = (some (Sum.inl (0, 8, .inl (fA Y' (20, i, k) 0))) : Option xE)
        rw [show fA Y' (20, i, k) 0 = (fun _ => 0) from funext fun i => by subst hY; simp [fI_uI, fI_uR, fI_uC, fA_uI, fA_uR, fA_uC, fL_uI, fL_uR, fL_uC, fR_uI, fR_uR, fR_uC, z1.2.1]]
        rfl
      · rw [i1_2]
        show _ = (some (Sum.inl (0, 8, .inl (fA Y' (20, i, k) 1))) : Option xE)
        rw [show fA Y' (20, i, k) 1 = (fun _ => 0) from funext fun i => by subst hY; simp [fI_uI, fI_uR, fI_uC, fA_uI, fA_uR, fA_uC, fL_uI, fL_uR, fL_uC, fR_uI, fR_uR, fR_uC, z1.2.1]]
        rfl
      · rw [i1_3]
        show _ = (some (Sum.inl (0, 8, .inl (fA Y' (20, i, k) 2))) : Option xE)
        rw [show fA Y' (20, i, k) 2 = (fun _ => 0) from funext fun i => by subst hY; simp [fI_uI, fI_uR, fI_uC, fA_uI, fA_uR, fA_uC, fL_uI, fL_uR, fL_uC, fR_uI, fR_uR, fR_uC, z1.2.1]]
        rfl
    · intro t ht
      have n0 : t ≠ (0, i, k) := fun e => by rw [e, ht0] at ht; cases ht
      have n1 : t ≠ (20, i, k) := fun e => by rw [e, ht1] at ht; cases ht
      subst hY
      refine ⟨fun k => ?_, fun k i => ?_, fun k i => ?_, fun k i => ?_⟩ <;> simp [fI_uI, fI_uR, fI_uC, fA_uI, fA_uR, fA_uC, fL_uI, fL_uR, fL_uC, fR_uI, fR_uR, fR_uC, n0, n1]
    · intro t k0 i0 u0 ht hu
      rcases (hw t).mp ht with rfl | rfl
      · subst hY; simp [fI_uI, fI_uR, fI_uC, fA_uI, fA_uR, fA_uC, fL_uI, fL_uR, fL_uC, fR_uI, fR_uR, fR_uC, z0.2.2.2] at hu
      · subst hY; simp [fI_uI, fI_uR, fI_uC, fA_uI, fA_uR, fA_uC, fL_uI, fL_uR, fL_uC, fR_uI, fR_uR, fR_uC, z1.2.2.2] at hu
    · intro t k ht hk
      rcases (hw t).mp ht with rfl | rfl
      · cases dk_0 hk; exact ⟨al1, rfl⟩
      · exact absurd hk (dk_3 (c := 8) (by decide))
    · intro t hg hnt
      have n0 : t ≠ (0, i, k) := fun e => by rw [e, w0] at hnt; cases hnt
      have n1 : t ≠ (20, i, k) := fun e => by rw [e, w1] at hnt; cases hnt
      obtain ⟨y1, y2, y3, y4⟩ := R.2.2.2.2.2.1 t hg
      subst hY
      refine ⟨fun k => ?_, fun k i => ?_, fun k i => ?_, fun k i => ?_⟩ <;> simp [fI_uI, fI_uR, fI_uC, fA_uI, fA_uR, fA_uC, fL_uI, fL_uR, fL_uC, fR_uI, fR_uR, fR_uC, n0, n1, y1, y2, y3, y4]
    · subst hY; rfl
  refine ⟨_, q.1, q.2, fun t => ?_, ?_⟩
  · show (g.1 t || nw t) = true ↔ _
    rw [Bool.or_eq_true, hw]
  · rw [ad0 0, i0_0]; rfl
theorem mk_4 {V : xV} {g : xG} {h h' : xH} {Y : xW} {c s : Nat} {i : Nat} {l1 l2 l3 : Int32} (R : RC V g h Y) (S : xcs h h' h.2.1 [.inr (4, [.int l1, .int l3, .ref (h.2.1 + 1), .ref (h.2.1 + 2), .int 0, .int l1, .int 0, .int l2, .int 0, .int 0, .int 0, .long 0]), .inl (0, 8, .inl (fun _ => 0)), .inl (0, 40, .inl (fun _ => 0))] c s) (ht0 : g.1 (4, i, 0) = false)  : ∃ g' : xG, RC V g' h' (uI (uI (uI (uI (uC Y (h.2.1 + 3, c, s)) (4, i, 0) 0 l1) (4, i, 0) 1 l3) (4, i, 0) 5 l1) (4, i, 0) 7 l2) ∧ xle g g' ∧ (∀ t, g'.1 t = true ↔ g.1 t = true ∨ t = (4, i, 0)) ∧ g'.2 (4, i, 0) 0 = h.2.1 := by
  generalize hnw : (fun t => decide (t = (4, i, 0)) : xT → Bool) = nw
  generalize hix : (fun (t : xT) (o : Nat) => if t.1 = 4 then [0, 0, 0, 1, 2, 0].getD o 0 else 0 : xT → Nat → Nat) = ix
  have hw : ∀ t, nw t = true ↔ t = (4, i, 0) := fun t => by subst hnw; simp only [decide_eq_true_eq]
  have w0 : nw (4, i, 0) = true := (hw _).mpr (by simp)
  have z0 := R.2.2.2.2.2.1 (4, i, 0) ht0
  obtain ⟨al0, ad0⟩ := xgn_n (g := g) (q := h.2.1) (ix := ix) w0
  have i0_0 : ix (4, i, 0) 0 = 0 := by subst hix; rfl
  have i0_3 : ix (4, i, 0) 3 = 1 := by subst hix; rfl
  have i0_4 : ix (4, i, 0) 4 = 2 := by subst hix; rfl
  generalize hY : (uI (uI (uI (uI (uC Y (h.2.1 + 3, c, s)) (4, i, 0) 0 l1) (4, i, 0) 1 l3) (4, i, 0) 5 l1) (4, i, 0) 7 l2) = Y'
  have hn : ∀ t, nw t = true → g.1 t = false := by
    intro t ht
    rcases (hw t).mp ht with rfl
    · exact ht0
  have hky : ∀ t o, nw t = true → xky (xgn g nw h.2.1 ix) t o → (t = (4, i, 0) ∧ o = 0) ∨ (t = (4, i, 0) ∧ o = 3) ∨ (t = (4, i, 0) ∧ o = 4) := by
    intro t o ht hk
    rcases (hw t).mp ht with rfl
    · cases o with
      | zero => simp
      | succ k =>
        have := ad_4 hk.2
        simp; omega
  have q : RC V (xgn g nw h.2.1 ix) h' Y' ∧ xle g (xgn g nw h.2.1 ix) := by
    refine rc_new R S nw ix hn ?_ ?_ ?_ ?_ ?_ ?_ ?_
    · intro t o t' o' ht ht' hk hk' he
      rcases hky t o ht hk with ⟨rfl, rfl⟩ | ⟨rfl, rfl⟩ | ⟨rfl, rfl⟩
      all_goals (rcases hky t' o' ht' hk' with ⟨rfl, rfl⟩ | ⟨rfl, rfl⟩ | ⟨rfl, rfl⟩)
      all_goals first | exact ⟨rfl, rfl⟩ | (simp only [i0_0, i0_3, i0_4] at he; exact absurd he (by decide))
    · intro t o ht hk
      rcases hky t o ht hk with ⟨rfl, rfl⟩ | ⟨rfl, rfl⟩ | ⟨rfl, rfl⟩
      · rw [i0_0]
        show _ = (some (Sum.inr (4, [.int (fI Y' (4, i, 0) 0), .int (fI Y' (4, i, 0) 1), .ref ((xgn g nw h.2.1 ix).2 (4, i, 0) 3), .ref ((xgn g nw h.2.1 ix).2 (4, i, 0) 4), .int (fI Y' (4, i, 0) 4), .int (fI Y' (4, i, 0) 5), .int (fI Y' (4, i, 0) 6), .int (fI Y' (4, i, 0) 7), .int (fI Y' (4, i, 0) 8), .int (fI Y' (4, i, 0) 9), .int (fI Y' (4, i, 0) 10), .long (fL Y' (4, i, 0) 11 0)])) : Option xE)
        rw [show fI Y' (4, i, 0) 0 = l1 from by subst hY; simp [fI_uI, fI_uR, fI_uC, fA_uI, fA_uR, fA_uC, fL_uI, fL_uR, fL_uC, fR_uI, fR_uR, fR_uC, z0.1], show fI Y' (4, i, 0) 1 = l3 from by subst hY; simp [fI_uI, fI_uR, fI_uC, fA_uI, fA_uR, fA_uC, fL_uI, fL_uR, fL_uC, fR_uI, fR_uR, fR_uC, z0.1], ad0 3, i0_3, ad0 4, i0_4, show fI Y' (4, i, 0) 4 = 0 from by subst hY; simp [fI_uI, fI_uR, fI_uC, fA_uI, fA_uR, fA_uC, fL_uI, fL_uR, fL_uC, fR_uI, fR_uR, fR_uC, z0.1], show fI Y' (4, i, 0) 5 = l1 from by subst hY; simp [fI_uI, fI_uR, fI_uC, fA_uI, fA_uR, fA_uC, fL_uI, fL_uR, fL_uC, fR_uI, fR_uR, fR_uC, z0.1], show fI Y' (4, i, 0) 6 = 0 from by subst hY; simp [fI_uI, fI_uR, fI_uC, fA_uI, fA_uR, fA_uC, fL_uI, fL_uR, fL_uC, fR_uI, fR_uR, fR_uC, z0.1], show fI Y' (4, i, 0) 7 = l2 from by subst hY; simp [fI_uI, fI_uR, fI_uC, fA_uI, fA_uR, fA_uC, fL_uI, fL_uR, fL_uC, fR_uI, fR_uR, fR_uC, z0.1], show fI Y' (4, i, 0) 8 = 0 from by subst hY; simp [fI_uI, fI_uR, fI_uC, fA_uI, fA_uR, fA_uC, fL_uI, fL_uR, fL_uC, fR_uI, fR_uR, fR_uC, z0.1], show fI Y' (4, i, 0) 9 = 0 from by subst hY; simp [fI_uI, fI_uR, fI_uC, fA_uI, fA_uR, fA_uC, fL_uI, fL_uR, fL_uC, fR_uI, fR_uR, fR_uC, z0.1], show fI Y' (4, i, 0) 10 = 0 from by subst hY; simp [fI_uI, fI_uR, fI_uC, fA_uI, fA_uR, fA_uC, fL_uI, fL_uR, fL_uC, fR_uI, fR_uR, fR_uC, z0.1], show fL Y' (4, i, 0) 11 0 = 0 from by subst hY; simp [fI_uI, fI_uR, fI_uC, fA_uI, fA_uR, fA_uC, fL_uI, fL_uR, fL_uC, fR_uI, fR_uR, fR_uC, z0.2.2.1]]
        rfl
      · rw [i0_3]
        show _ = (some (Sum.inl (0, 8, .inl (fA Y' (4, i, 0) 2))) : Option xE)
        rw [show fA Y' (4, i, 0) 2 = (fun _ => 0) from funext fun i => by subst hY; simp [fI_uI, fI_uR, fI_uC, fA_uI, fA_uR, fA_uC, fL_uI, fL_uR, fL_uC, fR_uI, fR_uR, fR_uC, z0.2.1]]
        rfl
      · rw [i0_4]
        show _ = (some (Sum.inl (0, 40, .inl (fA Y' (4, i, 0) 3))) : Option xE)
        rw [show fA Y' (4, i, 0) 3 = (fun _ => 0) from funext fun i => by subst hY; simp [fI_uI, fI_uR, fI_uC, fA_uI, fA_uR, fA_uC, fL_uI, fL_uR, fL_uC, fR_uI, fR_uR, fR_uC, z0.2.1]]
        rfl
    · intro t ht
      have n0 : t ≠ (4, i, 0) := fun e => by rw [e, ht0] at ht; cases ht
      subst hY
      refine ⟨fun k => ?_, fun k i => ?_, fun k i => ?_, fun k i => ?_⟩ <;> simp [fI_uI, fI_uR, fI_uC, fA_uI, fA_uR, fA_uC, fL_uI, fL_uR, fL_uC, fR_uI, fR_uR, fR_uC, n0]
    · intro t k0 i0 u0 ht hu
      rcases (hw t).mp ht with rfl
      · subst hY; simp [fI_uI, fI_uR, fI_uC, fA_uI, fA_uR, fA_uC, fL_uI, fL_uR, fL_uC, fR_uI, fR_uR, fR_uC, z0.2.2.2] at hu
    · intro t k ht hk
      rcases (hw t).mp ht with rfl
      · exact absurd hk (dk_3 (c := 4) (by decide))
    · intro t hg hnt
      have n0 : t ≠ (4, i, 0) := fun e => by rw [e, w0] at hnt; cases hnt
      obtain ⟨y1, y2, y3, y4⟩ := R.2.2.2.2.2.1 t hg
      subst hY
      refine ⟨fun k => ?_, fun k i => ?_, fun k i => ?_, fun k i => ?_⟩ <;> simp [fI_uI, fI_uR, fI_uC, fA_uI, fA_uR, fA_uC, fL_uI, fL_uR, fL_uC, fR_uI, fR_uR, fR_uC, n0, y1, y2, y3, y4]
    · subst hY; rfl
  refine ⟨_, q.1, q.2, fun t => ?_, ?_⟩
  · show (g.1 t || nw t) = true ↔ _
    rw [Bool.or_eq_true, hw]
  · rw [ad0 0, i0_0]; rfl
theorem mk_3 {V : xV} {g : xG} {h h' : xH} {Y : xW} {c s : Nat} {i k : Nat} {l1 : Int32} {u v : xT} {l2 l3 : Nat} (R : RC V g h Y) (S : xcs h h' h.2.1 [.inr (3, [.int l1, .ref l2, .ref l3])] c s) (ht0 : g.1 (3, i, k) = false) (hU : xok g u 0) (hv : xok g v 2) (eu : l2 = g.2 u 0) (ev : l3 = g.2 v 0) : ∃ g' : xG, RC V g' h' (uR (uR (uI (uC Y (h.2.1 + 1, c, s)) (3, i, k) 0 l1) (3, i, k) 1 0 (some u)) (3, i, k) 2 0 (some v)) ∧ xle g g' ∧ (∀ t, g'.1 t = true ↔ g.1 t = true ∨ t = (3, i, k)) ∧ g'.2 (3, i, k) 0 = h.2.1 := by
  generalize hnw : (fun t => decide (t = (3, i, k)) : xT → Bool) = nw
  generalize hix : (fun (t : xT) (o : Nat) => if t.1 = 3 then [0, 0, 0, 0, 0, 0].getD o 0 else 0 : xT → Nat → Nat) = ix
  have hw : ∀ t, nw t = true ↔ t = (3, i, k) := fun t => by subst hnw; simp only [decide_eq_true_eq]
  have w0 : nw (3, i, k) = true := (hw _).mpr (by simp)
  have z0 := R.2.2.2.2.2.1 (3, i, k) ht0
  obtain ⟨al0, ad0⟩ := xgn_n (g := g) (q := h.2.1) (ix := ix) w0
  have i0_0 : ix (3, i, k) 0 = 0 := by subst hix; rfl
  generalize hY : (uR (uR (uI (uC Y (h.2.1 + 1, c, s)) (3, i, k) 0 l1) (3, i, k) 1 0 (some u)) (3, i, k) 2 0 (some v)) = Y'
  have hn : ∀ t, nw t = true → g.1 t = false := by
    intro t ht
    rcases (hw t).mp ht with rfl
    · exact ht0
  have hky : ∀ t o, nw t = true → xky (xgn g nw h.2.1 ix) t o → (t = (3, i, k) ∧ o = 0) := by
    intro t o ht hk
    rcases (hw t).mp ht with rfl
    · cases o with
      | zero => simp
      | succ k =>
        exact absurd hk.2 (ad_no (c := 3) (by decide))
  have q : RC V (xgn g nw h.2.1 ix) h' Y' ∧ xle g (xgn g nw h.2.1 ix) := by
    refine rc_new R S nw ix hn ?_ ?_ ?_ ?_ ?_ ?_ ?_
    · intro t o t' o' ht ht' hk hk' he
      rcases hky t o ht hk with ⟨rfl, rfl⟩
      all_goals (rcases hky t' o' ht' hk' with ⟨rfl, rfl⟩)
      all_goals first | exact ⟨rfl, rfl⟩ | (simp only [i0_0] at he; exact absurd he (by decide))
    · intro t o ht hk
      rcases hky t o ht hk with ⟨rfl, rfl⟩
      · rw [i0_0]
        show _ = (some (Sum.inr (3, [.int (fI Y' (3, i, k) 0), xrv (xgn g nw h.2.1 ix) (fR Y' (3, i, k) 1 0), xrv (xgn g nw h.2.1 ix) (fR Y' (3, i, k) 2 0)])) : Option xE)
        rw [show fI Y' (3, i, k) 0 = l1 from by subst hY; simp [fI_uI, fI_uR, fI_uC, fA_uI, fA_uR, fA_uC, fL_uI, fL_uR, fL_uC, fR_uI, fR_uR, fR_uC, z0.1], show xrv (xgn g nw h.2.1 ix) (fR Y' (3, i, k) 1 0) = .ref l2 from by rw [show fR Y' (3, i, k) 1 0 = some u from (by subst hY; simp [fR_uR])]; subst eu; exact congrArg Value.ref (by show (xgn g nw h.2.1 ix).2 u 0 = _; show (if nw u = true then _ else _) = _; rw [if_neg (fun z => by have q := hU.1; rw [hn u z] at q; cases q)]), show xrv (xgn g nw h.2.1 ix) (fR Y' (3, i, k) 2 0) = .ref l3 from by rw [show fR Y' (3, i, k) 2 0 = some v from (by subst hY; simp [fR_uR])]; subst ev; exact congrArg Value.ref (by show (xgn g nw h.2.1 ix).2 v 0 = _; show (if nw v = true then _ else _) = _; rw [if_neg (fun z => by have q := hv.1; rw [hn v z] at q; cases q)])]
        rfl
    · intro t ht
      have n0 : t ≠ (3, i, k) := fun e => by rw [e, ht0] at ht; cases ht
      subst hY
      refine ⟨fun k => ?_, fun k i => ?_, fun k i => ?_, fun k i => ?_⟩ <;> simp [fI_uI, fI_uR, fI_uC, fA_uI, fA_uR, fA_uC, fL_uI, fL_uR, fL_uC, fR_uI, fR_uR, fR_uC, n0]
    · intro t k0 i0 u0 ht hu
      rcases (hw t).mp ht with rfl
      subst hY
      rw [fR_uR] at hu
      split at hu
      · next hq => cases hu; obtain ⟨-, rfl, rfl⟩ := hq; exact ⟨by show (g.1 v || nw v) = true; rw [hv.1]; rfl, hv.2⟩
      · rw [fR_uR] at hu
        split at hu
        · next hq => cases hu; obtain ⟨-, rfl, rfl⟩ := hq; exact ⟨by show (g.1 u || nw u) = true; rw [show g.1 u = true from hU.1]; rfl, hU.2⟩
        · rw [fR_uI, fR_uC, z0.2.2.2] at hu; cases hu
    · intro t k ht hk
      rcases (hw t).mp ht with rfl
      · exact absurd hk (dk_3 (c := 3) (by decide))
    · intro t hg hnt
      have n0 : t ≠ (3, i, k) := fun e => by rw [e, w0] at hnt; cases hnt
      obtain ⟨y1, y2, y3, y4⟩ := R.2.2.2.2.2.1 t hg
      subst hY
      refine ⟨fun k => ?_, fun k i => ?_, fun k i => ?_, fun k i => ?_⟩ <;> simp [fI_uI, fI_uR, fI_uC, fA_uI, fA_uR, fA_uC, fL_uI, fL_uR, fL_uC, fR_uI, fR_uR, fR_uC, n0, y1, y2, y3, y4]
    · subst hY; rfl
  refine ⟨_, q.1, q.2, fun t => ?_, ?_⟩
  · show (g.1 t || nw t) = true ↔ _
    rw [Bool.or_eq_true, hw]
  · rw [ad0 0, i0_0]; rfl
theorem mk_5 {V : xV} {g : xG} {h h' : xH} {Y : xW} {c s : Nat} {i : Nat} {l1 : Int32} (R : RC V g h Y) (S : xcs h h' h.2.1 [.inr (5, [.int l1, .ref (h.2.1 + 1), .ref (h.2.1 + 2), .ref (h.2.1 + 3), .ref (h.2.1 + 4), .int 0, .int 1, .int 0, .int 0, .int (-1)]), .inl (0, 200, .inl (fun _ => 0)), .inl (4, 200, .inr (.inr (.inr (.inr (fun _ => none))))), .inl (3, 8, .inr (.inr (.inr (.inr (va_up (fun _ => none) 0 (some (h.2.1 + 5))))))), .inl (5, 8, .inr (.inr (.inr (.inr (fun _ => none))))), .inr (0, [.int 0, .ref (h.2.1 + 6), .int 0]), .inr (8, [.ref (h.2.1 + 7), .ref (h.2.1 + 8), .ref (h.2.1 + 9)]), .inl (0, 8, .inl (fun _ => 0)), .inl (0, 8, .inl (fun _ => 0)), .inl (0, 8, .inl (fun _ => 0))] c s) (ht0 : g.1 (5, i, 0) = false) (ht1 : g.1 (0, i, 0) = false) (ht2 : g.1 (20, i, 0) = false)  : ∃ g' : xG, RC V g' h' (uR (uI (uI (uI (uC Y (h.2.1 + 10, c, s)) (5, i, 0) 0 l1) (5, i, 0) 6 1) (5, i, 0) 9 (-1)) (5, i, 0) 3 0 (some (0, i, 0))) ∧ xle g g' ∧ (∀ t, g'.1 t = true ↔ g.1 t = true ∨ t = (5, i, 0) ∨ t = (0, i, 0) ∨ t = (20, i, 0)) ∧ g'.2 (5, i, 0) 0 = h.2.1 := by
  generalize hnw : (fun t => decide (t = (5, i, 0) ∨ t = (0, i, 0) ∨ t = (20, i, 0)) : xT → Bool) = nw
  generalize hix : (fun (t : xT) (o : Nat) => if t.1 = 5 then [0, 0, 1, 2, 3, 4].getD o 0 else if t.1 = 0 then [5, 0, 0, 0, 0, 0].getD o 0 else if t.1 = 20 then [6, 7, 8, 9, 0, 0].getD o 0 else 0 : xT → Nat → Nat) = ix
  have hw : ∀ t, nw t = true ↔ t = (5, i, 0) ∨ t = (0, i, 0) ∨ t = (20, i, 0) := fun t => by subst hnw; simp only [decide_eq_true_eq]
  have w0 : nw (5, i, 0) = true := (hw _).mpr (by simp)
  have z0 := R.2.2.2.2.2.1 (5, i, 0) ht0
  obtain ⟨al0, ad0⟩ := xgn_n (g := g) (q := h.2.1) (ix := ix) w0
  have w1 : nw (0, i, 0) = true := (hw _).mpr (by simp)
  have z1 := R.2.2.2.2.2.1 (0, i, 0) ht1
  obtain ⟨al1, ad1⟩ := xgn_n (g := g) (q := h.2.1) (ix := ix) w1
  have w2 : nw (20, i, 0) = true := (hw _).mpr (by simp)
  have z2 := R.2.2.2.2.2.1 (20, i, 0) ht2
  obtain ⟨al2, ad2⟩ := xgn_n (g := g) (q := h.2.1) (ix := ix) w2
  have i0_0 : ix (5, i, 0) 0 = 0 := by subst hix; rfl
  have i0_2 : ix (5, i, 0) 2 = 1 := by subst hix; rfl
  have i0_3 : ix (5, i, 0) 3 = 2 := by subst hix; rfl
  have i0_4 : ix (5, i, 0) 4 = 3 := by subst hix; rfl
  have i0_5 : ix (5, i, 0) 5 = 4 := by subst hix; rfl
  have i1_0 : ix (0, i, 0) 0 = 5 := by subst hix; rfl
  have i2_0 : ix (20, i, 0) 0 = 6 := by subst hix; rfl
  have i2_1 : ix (20, i, 0) 1 = 7 := by subst hix; rfl
  have i2_2 : ix (20, i, 0) 2 = 8 := by subst hix; rfl
  have i2_3 : ix (20, i, 0) 3 = 9 := by subst hix; rfl
  generalize hY : (uR (uI (uI (uI (uC Y (h.2.1 + 10, c, s)) (5, i, 0) 0 l1) (5, i, 0) 6 1) (5, i, 0) 9 (-1)) (5, i, 0) 3 0 (some (0, i, 0))) = Y'
  have hn : ∀ t, nw t = true → g.1 t = false := by
    intro t ht
    rcases (hw t).mp ht with rfl | rfl | rfl
    · exact ht0
    · exact ht1
    · exact ht2
  have hky : ∀ t o, nw t = true → xky (xgn g nw h.2.1 ix) t o → (t = (5, i, 0) ∧ o = 0) ∨ (t = (5, i, 0) ∧ o = 2) ∨ (t = (5, i, 0) ∧ o = 3) ∨ (t = (5, i, 0) ∧ o = 4) ∨ (t = (5, i, 0) ∧ o = 5) ∨ (t = (0, i, 0) ∧ o = 0) ∨ (t = (20, i, 0) ∧ o = 0) ∨ (t = (20, i, 0) ∧ o = 1) ∨ (t = (20, i, 0) ∧ o = 2) ∨ (t = (20, i, 0) ∧ o = 3) := by
    intro t o ht hk
    rcases (hw t).mp ht with rfl | rfl | rfl
    · cases o with
      | zero => simp
      | succ k =>
        have := ad_5 hk.2
        simp; omega
    · cases o with
      | zero => simp
      | succ k =>
        exact absurd hk.2 (ad_no (c := 0) (by decide))
    · cases o with
      | zero => simp
      | succ k =>
        have := ad_8 hk.2
        simp; omega
  have q : RC V (xgn g nw h.2.1 ix) h' Y' ∧ xle g (xgn g nw h.2.1 ix) := by
    refine rc_new R S nw ix hn ?_ ?_ ?_ ?_ ?_ ?_ ?_
    · intro t o t' o' ht ht' hk hk' he
      rcases hky t o ht hk with ⟨rfl, rfl⟩ | ⟨rfl, rfl⟩ | ⟨rfl, rfl⟩ | ⟨rfl, rfl⟩ | ⟨rfl, rfl⟩ | ⟨rfl, rfl⟩ | ⟨rfl, rfl⟩ | ⟨rfl, rfl⟩ | ⟨rfl, rfl⟩ | ⟨rfl, rfl⟩
      all_goals (rcases hky t' o' ht' hk' with ⟨rfl, rfl⟩ | ⟨rfl, rfl⟩ | ⟨rfl, rfl⟩ | ⟨rfl, rfl⟩ | ⟨rfl, rfl⟩ | ⟨rfl, rfl⟩ | ⟨rfl, rfl⟩ | ⟨rfl, rfl⟩ | ⟨rfl, rfl⟩ | ⟨rfl, rfl⟩)
      all_goals first | exact ⟨rfl, rfl⟩ | (simp only [i0_0, i0_2, i0_3, i0_4, i0_5, i1_0, i2_0, i2_1, i2_2, i2_3] at he; exact absurd he (by decide))
    · intro t o ht hk
      rcases hky t o ht hk with ⟨rfl, rfl⟩ | ⟨rfl, rfl⟩ | ⟨rfl, rfl⟩ | ⟨rfl, rfl⟩ | ⟨rfl, rfl⟩ | ⟨rfl, rfl⟩ | ⟨rfl, rfl⟩ | ⟨rfl, rfl⟩ | ⟨rfl, rfl⟩ | ⟨rfl, rfl⟩
      · rw [i0_0]
        show _ = (some (Sum.inr (5, [.int (fI Y' (5, i, 0) 0), .ref ((xgn g nw h.2.1 ix).2 (5, i, 0) 2), .ref ((xgn g nw h.2.1 ix).2 (5, i, 0) 3), .ref ((xgn g nw h.2.1 ix).2 (5, i, 0) 4), .ref ((xgn g nw h.2.1 ix).2 (5, i, 0) 5), .int (fI Y' (5, i, 0) 5), .int (fI Y' (5, i, 0) 6), .int (fI Y' (5, i, 0) 7), .int (fI Y' (5, i, 0) 8), .int (fI Y' (5, i, 0) 9)])) : Option xE)
        rw [show fI Y' (5, i, 0) 0 = l1 from by subst hY; simp [fI_uI, fI_uR, fI_uC, fA_uI, fA_uR, fA_uC, fL_uI, fL_uR, fL_uC, fR_uI, fR_uR, fR_uC, z0.1], ad0 2, i0_2, ad0 3, i0_3, ad0 4, i0_4, ad0 5, i0_5, show fI Y' (5, i, 0) 5 = 0 from by subst hY; simp [fI_uI, fI_uR, fI_uC, fA_uI, fA_uR, fA_uC, fL_uI, fL_uR, fL_uC, fR_uI, fR_uR, fR_uC, z0.1], show fI Y' (5, i, 0) 6 = 1 from by subst hY; simp [fI_uI, fI_uR, fI_uC, fA_uI, fA_uR, fA_uC, fL_uI, fL_uR, fL_uC, fR_uI, fR_uR, fR_uC, z0.1], show fI Y' (5, i, 0) 7 = 0 from by subst hY; simp [fI_uI, fI_uR, fI_uC, fA_uI, fA_uR, fA_uC, fL_uI, fL_uR, fL_uC, fR_uI, fR_uR, fR_uC, z0.1], show fI Y' (5, i, 0) 8 = 0 from by subst hY; simp [fI_uI, fI_uR, fI_uC, fA_uI, fA_uR, fA_uC, fL_uI, fL_uR, fL_uC, fR_uI, fR_uR, fR_uC, z0.1], show fI Y' (5, i, 0) 9 = (-1) from by subst hY; simp [fI_uI, fI_uR, fI_uC, fA_uI, fA_uR, fA_uC, fL_uI, fL_uR, fL_uC, fR_uI, fR_uR, fR_uC, z0.1]]
        rfl
      · rw [i0_2]
        show _ = (some (Sum.inl (0, 200, .inl (fA Y' (5, i, 0) 1))) : Option xE)
        rw [show fA Y' (5, i, 0) 1 = (fun _ => 0) from funext fun i => by subst hY; simp [fI_uI, fI_uR, fI_uC, fA_uI, fA_uR, fA_uC, fL_uI, fL_uR, fL_uC, fR_uI, fR_uR, fR_uC, z0.2.1]]
        rfl
      · rw [i0_3]
        show _ = (some (Sum.inl (4, 200, .inr (.inr (.inr (.inr (fun n => (fR Y' (5, i, 0) 2 n).map (fun u => (xgn g nw h.2.1 ix).2 u 0))))))) : Option xE)
        rw [show (fun n => (fR Y' (5, i, 0) 2 n).map (fun u => (xgn g nw h.2.1 ix).2 u 0)) = (fun _ => none) from funext fun n => by subst hY; simp [fI_uI, fI_uR, fI_uC, fA_uI, fA_uR, fA_uC, fL_uI, fL_uR, fL_uC, fR_uI, fR_uR, fR_uC, z0.2.2.2]]
        rfl
      · rw [i0_4]
        show _ = (some (Sum.inl (3, 8, .inr (.inr (.inr (.inr (fun n => (fR Y' (5, i, 0) 3 n).map (fun u => (xgn g nw h.2.1 ix).2 u 0))))))) : Option xE)
        rw [show (fun n => (fR Y' (5, i, 0) 3 n).map (fun u => (xgn g nw h.2.1 ix).2 u 0)) = va_up (fun _ => none) 0 (some (h.2.1 + 5)) from funext fun n => by subst hY; unfold va_up; by_cases hi : n = 0; (· simp [fI_uI, fI_uR, fI_uC, fA_uI, fA_uR, fA_uC, fL_uI, fL_uR, fL_uC, fR_uI, fR_uR, fR_uC, hi, ad1, i1_0]); (· simp [fI_uI, fI_uR, fI_uC, fA_uI, fA_uR, fA_uC, fL_uI, fL_uR, fL_uC, fR_uI, fR_uR, fR_uC, hi, z0.2.2.2])]
        rfl
      · rw [i0_5]
        show _ = (some (Sum.inl (5, 8, .inr (.inr (.inr (.inr (fun n => (fR Y' (5, i, 0) 4 n).map (fun u => (xgn g nw h.2.1 ix).2 u 0))))))) : Option xE)
        rw [show (fun n => (fR Y' (5, i, 0) 4 n).map (fun u => (xgn g nw h.2.1 ix).2 u 0)) = (fun _ => none) from funext fun n => by subst hY; simp [fI_uI, fI_uR, fI_uC, fA_uI, fA_uR, fA_uC, fL_uI, fL_uR, fL_uC, fR_uI, fR_uR, fR_uC, z0.2.2.2]]
        rfl
      · rw [i1_0]
        show _ = (some (Sum.inr (0, [.int (fI Y' (0, i, 0) 0), .ref ((xgn g nw h.2.1 ix).2 (20, i, 0) 0), .int (fI Y' (0, i, 0) 2)])) : Option xE)
        rw [show fI Y' (0, i, 0) 0 = 0 from by subst hY; simp [fI_uI, fI_uR, fI_uC, fA_uI, fA_uR, fA_uC, fL_uI, fL_uR, fL_uC, fR_uI, fR_uR, fR_uC, z1.1], ad2 0, i2_0, show fI Y' (0, i, 0) 2 = 0 from by subst hY; simp [fI_uI, fI_uR, fI_uC, fA_uI, fA_uR, fA_uC, fL_uI, fL_uR, fL_uC, fR_uI, fR_uR, fR_uC, z1.1]]
        rfl
      · rw [i2_0]
        show _ = (some (Sum.inr (8, [.ref ((xgn g nw h.2.1 ix).2 (20, i, 0) 1), .ref ((xgn g nw h.2.1 ix).2 (20, i, 0) 2), .ref ((xgn g nw h.2.1 ix).2 (20, i, 0) 3)])) : Option xE)
        rw [ad2 1, i2_1, ad2 2, i2_2, ad2 3, i2_3]
        rfl
      · rw [i2_1]
        show _ = (some (Sum.inl (0, 8, .inl (fA Y' (20, i, 0) 0))) : Option xE)
        rw [show fA Y' (20, i, 0) 0 = (fun _ => 0) from funext fun i => by subst hY; simp [fI_uI, fI_uR, fI_uC, fA_uI, fA_uR, fA_uC, fL_uI, fL_uR, fL_uC, fR_uI, fR_uR, fR_uC, z2.2.1]]
        rfl
      · rw [i2_2]
        show _ = (some (Sum.inl (0, 8, .inl (fA Y' (20, i, 0) 1))) : Option xE)
        rw [show fA Y' (20, i, 0) 1 = (fun _ => 0) from funext fun i => by subst hY; simp [fI_uI, fI_uR, fI_uC, fA_uI, fA_uR, fA_uC, fL_uI, fL_uR, fL_uC, fR_uI, fR_uR, fR_uC, z2.2.1]]
        rfl
      · rw [i2_3]
        show _ = (some (Sum.inl (0, 8, .inl (fA Y' (20, i, 0) 2))) : Option xE)
        rw [show fA Y' (20, i, 0) 2 = (fun _ => 0) from funext fun i => by subst hY; simp [fI_uI, fI_uR, fI_uC, fA_uI, fA_uR, fA_uC, fL_uI, fL_uR, fL_uC, fR_uI, fR_uR, fR_uC, z2.2.1]]
        rfl
    · intro t ht
      have n0 : t ≠ (5, i, 0) := fun e => by rw [e, ht0] at ht; cases ht
      have n1 : t ≠ (0, i, 0) := fun e => by rw [e, ht1] at ht; cases ht
      have n2 : t ≠ (20, i, 0) := fun e => by rw [e, ht2] at ht; cases ht
      subst hY
      refine ⟨fun k => ?_, fun k i => ?_, fun k i => ?_, fun k i => ?_⟩ <;> simp [fI_uI, fI_uR, fI_uC, fA_uI, fA_uR, fA_uC, fL_uI, fL_uR, fL_uC, fR_uI, fR_uR, fR_uC, n0, n1, n2]
    · intro t k0 i0 u0 ht hu
      rcases (hw t).mp ht with rfl | rfl | rfl
      · subst hY
        rw [fR_uR] at hu
        split at hu
        · next hq => cases hu; obtain ⟨-, rfl, rfl⟩ := hq; exact ⟨al1, rfl⟩
        · rw [fR_uI, fR_uI, fR_uI, fR_uC, z0.2.2.2] at hu; cases hu
      · subst hY; simp [fI_uI, fI_uR, fI_uC, fA_uI, fA_uR, fA_uC, fL_uI, fL_uR, fL_uC, fR_uI, fR_uR, fR_uC, z1.2.2.2] at hu
      · subst hY; simp [fI_uI, fI_uR, fI_uC, fA_uI, fA_uR, fA_uC, fL_uI, fL_uR, fL_uC, fR_uI, fR_uR, fR_uC, z2.2.2.2] at hu
    · intro t k ht hk
      rcases (hw t).mp ht with rfl | rfl | rfl
      · exact absurd hk (dk_3 (c := 5) (by decide))
      · cases dk_0 hk; exact ⟨al2, rfl⟩
      · exact absurd hk (dk_3 (c := 8) (by decide))
    · intro t hg hnt
      have n0 : t ≠ (5, i, 0) := fun e => by rw [e, w0] at hnt; cases hnt
      have n1 : t ≠ (0, i, 0) := fun e => by rw [e, w1] at hnt; cases hnt
      have n2 : t ≠ (20, i, 0) := fun e => by rw [e, w2] at hnt; cases hnt
      obtain ⟨y1, y2, y3, y4⟩ := R.2.2.2.2.2.1 t hg
      subst hY
      refine ⟨fun k => ?_, fun k i => ?_, fun k i => ?_, fun k i => ?_⟩ <;> simp [fI_uI, fI_uR, fI_uC, fA_uI, fA_uR, fA_uC, fL_uI, fL_uR, fL_uC, fR_uI, fR_uR, fR_uC, n0, n1, n2, y1, y2, y3, y4]
    · subst hY; rfl
  refine ⟨_, q.1, q.2, fun t => ?_, ?_⟩
  · show (g.1 t || nw t) = true ↔ _
    rw [Bool.or_eq_true, hw]
  · rw [ad0 0, i0_0]; rfl
