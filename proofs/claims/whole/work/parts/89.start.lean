/-! the first state -/
def pr0 : Nat → Int32 := upd (upd (upd (upd (upd (upd (upd (upd (upd (upd (upd (upd (upd (upd (upd (upd (upd (upd (upd (upd (upd (fun _ => 0) 0 2) 1 0) 2 9) 3 3) 4 7) 5 7) 6 7) 7 7) 8 7) 9 11) 10 11) 11 11) 12 9) 13 11) 14 11) 15 8) 16 11) 17 11) 18 8) 19 8) 20 0
def pr1 : Nat → Int32 := upd (upd (upd (upd (upd (upd (upd (upd (upd (upd (upd (upd (upd (upd (upd (upd (upd (upd (upd (upd (upd (fun _ => 0) 0 2) 1 0) 2 0) 3 0) 4 0) 5 0) 6 6) 7 6) 8 6) 9 0) 10 2) 11 2) 12 0) 13 0) 14 1) 15 0) 16 3) 17 3) 18 0) 19 0) 20 0
def L59 (q : Nat) : List xE := [.inr (9, [.ref (q + 1), .int 0, .null, .int 0, .ref (q + 2), .ref (q + 11), .int 0, .ref (q + 12), .ref (q + 16), .int 4, .int 0, .int 0]), .inl (7, 24, .inr (.inr (.inr (.inr (fun _ => none))))), .inr (1, [.ref (q + 3), .ref (q + 7), .int 0, .int 0, .int 0, .int 0, .int 0, .int 0, .int 0]), .inr (8, [.ref (q + 4), .ref (q + 5), .ref (q + 6)]), .inl (0, 8, .inl (fun _ => 0)), .inl (0, 8, .inl (fun _ => 0)), .inl (0, 8, .inl (fun _ => 0)), .inr (8, [.ref (q + 8), .ref (q + 9), .ref (q + 10)]), .inl (0, 8, .inl (fun _ => 0)), .inl (0, 8, .inl (fun _ => 0)), .inl (0, 8, .inl (fun _ => 0)), .inl (6, 300, .inr (.inr (.inr (.inr (fun _ => none))))), .inr (7, [.ref (q + 13), .ref (q + 14), .ref (q + 15), .int 0]), .inl (0, 4096, .inl (fun _ => 0)), .inl (0, 40, .inl (fun _ => 0)), .inl (0, 40, .inl (fun _ => 0)), .inr (6, [.ref (q + 17), .int 0, .int 0]), .inl (0, 40, .inl (fun _ => 0)), .inr (10, [.ref (q + 19), .ref (q + 20), .int 0, .int 0, .int 0, .int (-1), .ref (q + 21), .ref (q + 22), .ref (q + 23), .ref (q + 24), .ref (q + 25), .ref (q + 26), .ref (q + 27), .ref (q + 28), .ref (q + 29), .ref (q + 30), .ref (q + 31), .ref (q + 32), .ref (q + 33), .ref (q + 34), .ref (q + 35), .ref (q + 36), .ref (q + 37), .ref (q + 38), .ref (q + 39), .ref (q + 40), .ref (q + 41), .int 0, .int 0, .int 0, .int 0, .int 0, .int 0, .int 0, .int 0, .int 4, .ref (q + 42), .ref (q + 43), .ref (q + 44), .ref (q + 45), .ref (q + 46), .ref (q + 47), .ref (q + 48), .ref (q + 49), .ref (q + 50), .ref (q + 51), .ref (q + 52), .ref (q + 53), .ref (q + 54), .ref (q + 55), .ref (q + 56), .ref (q + 57)]), .inl (0, 21, .inl pr0), .inl (0, 21, .inl pr1), .inl (0, 24, .inl (fun _ => 0)), .inl (0, 24, .inl (fun _ => 0)), .inl (0, 24, .inl (fun _ => 0)), .inl (0, 24, .inl (fun _ => 0)), .inl (0, 24, .inl (fun _ => 0)), .inl (0, 24, .inl (fun _ => 0)), .inl (0, 4800, .inl (fun _ => 0)), .inl (0, 4800, .inl (fun _ => 0)), .inl (0, 38400, .inl (fun _ => 0)), .inl (0, 38400, .inl (fun _ => 0)), .inl (0, 38400, .inl (fun _ => 0)), .inl (0, 192, .inl (fun _ => 0)), .inl (0, 192, .inl (fun _ => 0)), .inl (0, 1536, .inl (fun _ => 0)), .inl (0, 1536, .inl (fun _ => 0)), .inl (0, 1536, .inl (fun _ => 0)), .inl (0, 192, .inl (fun _ => 0)), .inl (0, 192, .inl (fun _ => 0)), .inl (0, 8, .inl (fun _ => 0)), .inl (0, 8, .inl (fun _ => 0)), .inl (0, 8, .inl (fun _ => 0)), .inl (0, 300, .inl (fun _ => 0)), .inl (0, 300, .inl (fun _ => 0)), .inl (0, 300, .inl (fun _ => 0)), .inl (0, 300, .inl (fun _ => 0)), .inl (0, 300, .inl (fun _ => 0)), .inl (0, 300, .inl (fun _ => 0)), .inl (0, 300, .inl (fun _ => 0)), .inl (0, 300, .inl (fun _ => 0)), .inl (0, 300, .inl (fun _ => 0)), .inl (0, 2400, .inl (fun _ => 0)), .inl (1, 300, .inr (.inl (fun _ => 0))), .inl (0, 12000, .inl (fun _ => 0)), .inl (0, 12000, .inl (fun _ => 0)), .inl (0, 40, .inl (fun _ => 0)), .inl (0, 4096, .inl (fun _ => 0)), .inl (2, 4096, .inl (fun _ => 0)), .inl (1, 1, .inr (.inl (fun _ => 0)))]
def liv (t : xT) : Bool := decide (t = (9, 0, 0) ∨ t = (1, 0, 0) ∨ t = (23, 0, 0) ∨ t = (23, 0, 1) ∨ t = (7, 0, 0) ∨ t = (6, 0, 0) ∨ t = (10, 0, 0) ∨ t = (12, 0, 0))
def ix0 (t : xT) (o : Nat) : Nat := if t.1 = 9 then (if o = 6 then 11 else o) else if t.1 = 1 then 2 else if t.1 = 23 then (if t.2.2 = 0 then 3 + o else 7 + o) else if t.1 = 7 then 12 + o else if t.1 = 6 then 16 + o else if t.1 = 10 then (if o < 3 then 18 + o else if o < 28 then 14 + o else 5 + o) else 57 + o
def g0 (q : Nat) : xG := (liv, fun t o => q + ix0 t o)
def Y0 (c : Nat × Nat × Nat) : xW := (fun t k => if t = (9, 0, 0) ∧ k = 9 then 4 else if t = (10, 0, 0) ∧ k = 5 then -1 else if t = (10, 0, 0) ∧ k = 35 then 4 else 0, fun t k => if t = (10, 0, 0) ∧ k = 0 then pr0 else if t = (10, 0, 0) ∧ k = 1 then pr1 else fun _ => 0, fun _ _ _ => 0, fun _ _ _ => none, c)
def keyl : List (xT × Nat) := [((9, 0, 0), 0), ((9, 0, 0), 1), ((1, 0, 0), 0), ((23, 0, 0), 0), ((23, 0, 0), 1), ((23, 0, 0), 2), ((23, 0, 0), 3), ((23, 0, 1), 0), ((23, 0, 1), 1), ((23, 0, 1), 2), ((23, 0, 1), 3), ((9, 0, 0), 6), ((7, 0, 0), 0), ((7, 0, 0), 1), ((7, 0, 0), 2), ((7, 0, 0), 3), ((6, 0, 0), 0), ((6, 0, 0), 1), ((10, 0, 0), 0), ((10, 0, 0), 1), ((10, 0, 0), 2), ((10, 0, 0), 7), ((10, 0, 0), 8), ((10, 0, 0), 9), ((10, 0, 0), 10), ((10, 0, 0), 11), ((10, 0, 0), 12), ((10, 0, 0), 13), ((10, 0, 0), 14), ((10, 0, 0), 15), ((10, 0, 0), 16), ((10, 0, 0), 17), ((10, 0, 0), 18), ((10, 0, 0), 19), ((10, 0, 0), 20), ((10, 0, 0), 21), ((10, 0, 0), 22), ((10, 0, 0), 23), ((10, 0, 0), 24), ((10, 0, 0), 25), ((10, 0, 0), 26), ((10, 0, 0), 27), ((10, 0, 0), 37), ((10, 0, 0), 38), ((10, 0, 0), 39), ((10, 0, 0), 40), ((10, 0, 0), 41), ((10, 0, 0), 42), ((10, 0, 0), 43), ((10, 0, 0), 44), ((10, 0, 0), 45), ((10, 0, 0), 46), ((10, 0, 0), 47), ((10, 0, 0), 48), ((10, 0, 0), 49), ((10, 0, 0), 50), ((10, 0, 0), 51), ((10, 0, 0), 52), ((12, 0, 0), 1)]
theorem liv_c {t : xT} (h : liv t = true) : t = (9, 0, 0) ∨ t = (1, 0, 0) ∨ t = (23, 0, 0) ∨ t = (23, 0, 1) ∨ t = (7, 0, 0) ∨ t = (6, 0, 0) ∨ t = (10, 0, 0) ∨ t = (12, 0, 0) := of_decide_eq_true h
theorem gd_s {l : List (Option (Nat × Nat))} {k : Nat} (h : (l.getD k none).isSome = true) : k < l.length := by
  apply Classical.byContradiction
  intro z
  rw [List.getD_eq_getElem?_getD, List.getElem?_eq_none (by omega)] at h
  cases h
theorem gd_3 {l : List Nat} {k : Nat} (h : l.getD k 9 = 3) : k < l.length := by
  apply Classical.byContradiction
  intro z
  rw [List.getD_eq_getElem?_getD, List.getElem?_eq_none (by omega)] at h
  exact absurd h (by decide)
theorem kn_9 : ∀ k, k < 12 → (xad 9 k).isSome = false ∨ keyl[ix0 (9, 0, 0) (k + 1)]? = some ((9, 0, 0), k + 1) := by decide +kernel
theorem km_9 : ∀ k, k < 12 → (xad 9 k).isSome = true → keyl[ix0 (9, 0, 0) (k + 1)]? = some ((9, 0, 0), k + 1) := by
  intro k h1 h2
  have h : (xad 9 k).isSome = false ∨ keyl[ix0 (9, 0, 0) (k + 1)]? = some ((9, 0, 0), k + 1) := kn_9 k h1
  rcases h with h | h
  · rw [h] at h2; cases h2
  · exact h
theorem ks_9 : ∀ k, k < 12 → xdk 9 k = 3 → liv (xsub (9, 0, 0) k) = true ∧ xsc (xsub (9, 0, 0) k).1 = xrc 9 k := by decide +kernel
theorem kn_1 : ∀ k, k < 9 → (xad 1 k).isSome = false ∨ keyl[ix0 (1, 0, 0) (k + 1)]? = some ((1, 0, 0), k + 1) := by decide +kernel
theorem km_1 : ∀ k, k < 9 → (xad 1 k).isSome = true → keyl[ix0 (1, 0, 0) (k + 1)]? = some ((1, 0, 0), k + 1) := by
  intro k h1 h2
  have h : (xad 1 k).isSome = false ∨ keyl[ix0 (1, 0, 0) (k + 1)]? = some ((1, 0, 0), k + 1) := kn_1 k h1
  rcases h with h | h
  · rw [h] at h2; cases h2
  · exact h
theorem ks_1 : ∀ k, k < 9 → xdk 1 k = 3 → liv (xsub (1, 0, 0) k) = true ∧ xsc (xsub (1, 0, 0) k).1 = xrc 1 k := by decide +kernel
theorem kn_8 : ∀ k, k < 3 → (xad 8 k).isSome = false ∨ keyl[ix0 (23, 0, 0) (k + 1)]? = some ((23, 0, 0), k + 1) := by decide +kernel
theorem km_8 : ∀ k, k < 3 → (xad 8 k).isSome = true → keyl[ix0 (23, 0, 0) (k + 1)]? = some ((23, 0, 0), k + 1) := by
  intro k h1 h2
  have h : (xad 8 k).isSome = false ∨ keyl[ix0 (23, 0, 0) (k + 1)]? = some ((23, 0, 0), k + 1) := kn_8 k h1
  rcases h with h | h
  · rw [h] at h2; cases h2
  · exact h
theorem ks_8 : ∀ k, k < 3 → xdk 8 k = 3 → liv (xsub (23, 0, 0) k) = true ∧ xsc (xsub (23, 0, 0) k).1 = xrc 8 k := by decide +kernel
theorem kn_8b : ∀ k, k < 3 → (xad 8 k).isSome = false ∨ keyl[ix0 (23, 0, 1) (k + 1)]? = some ((23, 0, 1), k + 1) := by decide +kernel
theorem km_8b : ∀ k, k < 3 → (xad 8 k).isSome = true → keyl[ix0 (23, 0, 1) (k + 1)]? = some ((23, 0, 1), k + 1) := by
  intro k h1 h2
  have h : (xad 8 k).isSome = false ∨ keyl[ix0 (23, 0, 1) (k + 1)]? = some ((23, 0, 1), k + 1) := kn_8b k h1
  rcases h with h | h
  · rw [h] at h2; cases h2
  · exact h
theorem ks_8b : ∀ k, k < 3 → xdk 8 k = 3 → liv (xsub (23, 0, 1) k) = true ∧ xsc (xsub (23, 0, 1) k).1 = xrc 8 k := by decide +kernel
theorem kn_7 : ∀ k, k < 4 → (xad 7 k).isSome = false ∨ keyl[ix0 (7, 0, 0) (k + 1)]? = some ((7, 0, 0), k + 1) := by decide +kernel
theorem km_7 : ∀ k, k < 4 → (xad 7 k).isSome = true → keyl[ix0 (7, 0, 0) (k + 1)]? = some ((7, 0, 0), k + 1) := by
  intro k h1 h2
  have h : (xad 7 k).isSome = false ∨ keyl[ix0 (7, 0, 0) (k + 1)]? = some ((7, 0, 0), k + 1) := kn_7 k h1
  rcases h with h | h
  · rw [h] at h2; cases h2
  · exact h
theorem ks_7 : ∀ k, k < 4 → xdk 7 k = 3 → liv (xsub (7, 0, 0) k) = true ∧ xsc (xsub (7, 0, 0) k).1 = xrc 7 k := by decide +kernel
theorem kn_6 : ∀ k, k < 3 → (xad 6 k).isSome = false ∨ keyl[ix0 (6, 0, 0) (k + 1)]? = some ((6, 0, 0), k + 1) := by decide +kernel
theorem km_6 : ∀ k, k < 3 → (xad 6 k).isSome = true → keyl[ix0 (6, 0, 0) (k + 1)]? = some ((6, 0, 0), k + 1) := by
  intro k h1 h2
  have h : (xad 6 k).isSome = false ∨ keyl[ix0 (6, 0, 0) (k + 1)]? = some ((6, 0, 0), k + 1) := kn_6 k h1
  rcases h with h | h
  · rw [h] at h2; cases h2
  · exact h
theorem ks_6 : ∀ k, k < 3 → xdk 6 k = 3 → liv (xsub (6, 0, 0) k) = true ∧ xsc (xsub (6, 0, 0) k).1 = xrc 6 k := by decide +kernel
theorem kn_10 : ∀ k, k < 52 → (xad 10 k).isSome = false ∨ keyl[ix0 (10, 0, 0) (k + 1)]? = some ((10, 0, 0), k + 1) := by decide +kernel
theorem km_10 : ∀ k, k < 52 → (xad 10 k).isSome = true → keyl[ix0 (10, 0, 0) (k + 1)]? = some ((10, 0, 0), k + 1) := by
  intro k h1 h2
  have h : (xad 10 k).isSome = false ∨ keyl[ix0 (10, 0, 0) (k + 1)]? = some ((10, 0, 0), k + 1) := kn_10 k h1
  rcases h with h | h
  · rw [h] at h2; cases h2
  · exact h
theorem ks_10 : ∀ k, k < 52 → xdk 10 k = 3 → liv (xsub (10, 0, 0) k) = true ∧ xsc (xsub (10, 0, 0) k).1 = xrc 10 k := by decide +kernel
theorem key_m {q : Nat} {t : xT} {o : Nat} (h : xky (g0 q) t o) : keyl[ix0 t o]? = some (t, o) := by
  obtain ⟨h1, h2⟩ := h
  cases o with
  | zero =>
    rcases liv_c h1 with rfl | rfl | rfl | rfl | rfl | rfl | rfl | rfl
    · rfl
    · rfl
    · rfl
    · rfl
    · rfl
    · rfl
    · rfl
    · exact absurd (show (12 : Nat) < 11 from h2) (by decide)
  | succ k =>
    have h3 : (xad (xsc t.1) k).isSome = true := h2
    rcases liv_c h1 with rfl | rfl | rfl | rfl | rfl | rfl | rfl | rfl
    · exact km_9 k (gd_s (l := xadl.getD 9 []) h3) h3
    · exact km_1 k (gd_s (l := xadl.getD 1 []) h3) h3
    · exact km_8 k (gd_s (l := xadl.getD 8 []) h3) h3
    · exact km_8b k (gd_s (l := xadl.getD 8 []) h3) h3
    · exact km_7 k (gd_s (l := xadl.getD 7 []) h3) h3
    · exact km_6 k (gd_s (l := xadl.getD 6 []) h3) h3
    · exact km_10 k (gd_s (l := xadl.getD 10 []) h3) h3
    · cases k with
      | zero => rfl
      | succ k => cases h3
theorem ct_k (q : Nat) (c : Nat × Nat × Nat) : ∀ (i : Nat) (t : xT) (o : Nat), keyl[i]? = some (t, o) → (L59 q)[i]? = some (xct (g0 q) (Y0 c) t o)
  | 0, _, _, h => by cases h; rfl
  | 1, _, _, h => by cases h; rfl
  | 2, _, _, h => by cases h; rfl
  | 3, _, _, h => by cases h; rfl
  | 4, _, _, h => by cases h; rfl
  | 5, _, _, h => by cases h; rfl
  | 6, _, _, h => by cases h; rfl
  | 7, _, _, h => by cases h; rfl
  | 8, _, _, h => by cases h; rfl
  | 9, _, _, h => by cases h; rfl
  | 10, _, _, h => by cases h; rfl
  | 11, _, _, h => by cases h; rfl
  | 12, _, _, h => by cases h; rfl
  | 13, _, _, h => by cases h; rfl
  | 14, _, _, h => by cases h; rfl
  | 15, _, _, h => by cases h; rfl
  | 16, _, _, h => by cases h; rfl
  | 17, _, _, h => by cases h; rfl
  | 18, _, _, h => by cases h; rfl
  | 19, _, _, h => by cases h; rfl
  | 20, _, _, h => by cases h; rfl
  | 21, _, _, h => by cases h; rfl
  | 22, _, _, h => by cases h; rfl
  | 23, _, _, h => by cases h; rfl
  | 24, _, _, h => by cases h; rfl
  | 25, _, _, h => by cases h; rfl
  | 26, _, _, h => by cases h; rfl
  | 27, _, _, h => by cases h; rfl
  | 28, _, _, h => by cases h; rfl
  | 29, _, _, h => by cases h; rfl
  | 30, _, _, h => by cases h; rfl
  | 31, _, _, h => by cases h; rfl
  | 32, _, _, h => by cases h; rfl
  | 33, _, _, h => by cases h; rfl
  | 34, _, _, h => by cases h; rfl
  | 35, _, _, h => by cases h; rfl
  | 36, _, _, h => by cases h; rfl
  | 37, _, _, h => by cases h; rfl
  | 38, _, _, h => by cases h; rfl
  | 39, _, _, h => by cases h; rfl
  | 40, _, _, h => by cases h; rfl
  | 41, _, _, h => by cases h; rfl
  | 42, _, _, h => by cases h; rfl
  | 43, _, _, h => by cases h; rfl
  | 44, _, _, h => by cases h; rfl
  | 45, _, _, h => by cases h; rfl
  | 46, _, _, h => by cases h; rfl
  | 47, _, _, h => by cases h; rfl
  | 48, _, _, h => by cases h; rfl
  | 49, _, _, h => by cases h; rfl
  | 50, _, _, h => by cases h; rfl
  | 51, _, _, h => by cases h; rfl
  | 52, _, _, h => by cases h; rfl
  | 53, _, _, h => by cases h; rfl
  | 54, _, _, h => by cases h; rfl
  | 55, _, _, h => by cases h; rfl
  | 56, _, _, h => by cases h; rfl
  | 57, _, _, h => by cases h; rfl
  | 58, _, _, h => by cases h; rfl
  | _ + 59, _, _, h => by cases h
/-- the first heap is the first state's image -/
theorem rc_0 {V : xV} {h' : xH} {q c s : Nat} (h1 : V.2.1 < q) (h2 : V.1 < q) (hv : xVok V) (S : xcs ((fun _ => none), q, 0, 0) h' q (L59 q) c s) : RC V (g0 q) h' (Y0 (q + 59, c, s)) := by
  obtain ⟨s1, s2, s3, s4⟩ := S
  have hL : (L59 q).length = 59 := rfl
  rw [hL] at s1
  have ky : ∀ t o, xky (g0 q) t o → keyl[ix0 t o]? = some (t, o) := fun t o hk => key_m hk
  refine ⟨fun t o hk => s2 _ _ (ct_k q _ _ t o (ky t o hk)), fun t o t' o' hk hk' e => ?_, fun t o hk => ?_, fun t k i u hu => ?_, fun t k ht hk => ?_, fun t ht => ?_, ⟨?_, ?_, ?_, ?_, ?_, hv⟩, rfl, rfl, rfl⟩
  · have e' : ix0 t o = ix0 t' o' := Nat.add_left_cancel e
    have a := ky t o hk
    rw [e', ky t' o' hk'] at a
    have b := Option.some.inj a
    exact ⟨(congrArg Prod.fst b).symm, (congrArg Prod.snd b).symm⟩
  · have a := (List.getElem?_eq_some_iff.mp (ky t o hk)).1
    have b : keyl.length = 59 := rfl
    rw [b] at a
    rw [s1]
    exact Nat.add_lt_add_left a q
  · cases (show none = some u from hu)
  · rcases liv_c ht with rfl | rfl | rfl | rfl | rfl | rfl | rfl | rfl
    · exact ks_9 k (gd_3 (l := xdkl.getD 9 []) hk) hk
    · exact ks_1 k (gd_3 (l := xdkl.getD 1 []) hk) hk
    · exact ks_8 k (gd_3 (l := xdkl.getD 8 []) hk) hk
    · exact ks_8b k (gd_3 (l := xdkl.getD 8 []) hk) hk
    · exact ks_7 k (gd_3 (l := xdkl.getD 7 []) hk) hk
    · exact ks_6 k (gd_3 (l := xdkl.getD 6 []) hk) hk
    · exact ks_10 k (gd_3 (l := xdkl.getD 10 []) hk) hk
    · have := gd_3 (l := xdkl.getD 12 []) hk
      exact absurd this (Nat.not_lt_zero k)
  · have n9 : t ≠ (9, 0, 0) := fun z => by rw [z] at ht; cases ht
    have n10 : t ≠ (10, 0, 0) := fun z => by rw [z] at ht; cases ht
    refine ⟨fun k => ?_, fun k i => ?_, fun _ _ => rfl, fun _ _ => rfl⟩
    · show (if t = (9, 0, 0) ∧ k = 9 then (4 : Int32) else if t = (10, 0, 0) ∧ k = 5 then -1 else if t = (10, 0, 0) ∧ k = 35 then 4 else 0) = 0
      rw [if_neg (fun z => n9 z.1), if_neg (fun z => n10 z.1), if_neg (fun z => n10 z.1)]
    · show (if t = (10, 0, 0) ∧ k = 0 then pr0 else if t = (10, 0, 0) ∧ k = 1 then pr1 else fun _ => 0) i = 0
      rw [if_neg (fun z => n10 z.1), if_neg (fun z => n10 z.1)]
  · have e1 : h'.2 = (h'.2.1, h'.2.2) := rfl
    rw [e1, s1, s4]
    rfl
  · rw [s3 _ h2]
  · rw [s3 _ h1]
  · rw [s1]; omega
  · rw [s1]; omega
