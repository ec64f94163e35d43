/-! THE LOGICAL HEAP: objects by tags; a state is functions of tags and fields; the machine's heap is its image -/
abbrev xT : Type := Nat × Nat × Nat
abbrev xW : Type := (xT → Nat → Int32) × (xT → Nat → Nat → Int32) × (xT → Nat → Nat → Int64) × (xT → Nat → Nat → Option xT) × (Nat × Nat × Nat)
abbrev xG : Type := (xT → Bool) × (xT → Nat → Nat)
def fI (Y : xW) (t : xT) (k : Nat) : Int32 := Y.1 t k
def fA (Y : xW) (t : xT) (k i : Nat) : Int32 := Y.2.1 t k i
def fL (Y : xW) (t : xT) (k i : Nat) : Int64 := Y.2.2.1 t k i
def fR (Y : xW) (t : xT) (k i : Nat) : Option xT := Y.2.2.2.1 t k i
def fC (Y : xW) : Nat × Nat × Nat := Y.2.2.2.2
def uI (Y : xW) (t : xT) (k : Nat) (v : Int32) : xW := (fun t' k' => if t' = t ∧ k' = k then v else Y.1 t' k', Y.2)
def uA (Y : xW) (t : xT) (k i : Nat) (v : Int32) : xW := (Y.1, fun t' k' i' => if t' = t ∧ k' = k ∧ i' = i then v else Y.2.1 t' k' i', Y.2.2)
def uL (Y : xW) (t : xT) (k i : Nat) (v : Int64) : xW := (Y.1, Y.2.1, fun t' k' i' => if t' = t ∧ k' = k ∧ i' = i then v else Y.2.2.1 t' k' i', Y.2.2.2)
def uR (Y : xW) (t : xT) (k i : Nat) (v : Option xT) : xW := (Y.1, Y.2.1, Y.2.2.1, fun t' k' i' => if t' = t ∧ k' = k ∧ i' = i then v else Y.2.2.2.1 t' k' i', Y.2.2.2.2)
def uC (Y : xW) (c : Nat × Nat × Nat) : xW := (Y.1, Y.2.1, Y.2.2.1, Y.2.2.2.1, c)
def xsc (s : Nat) : Nat := match s with
  | 20 => 8
  | 22 => 8
  | 23 => 8
  | s => s
def xdkl : List (List Nat) := [[0, 3, 0], [3, 3, 0, 0, 0, 0, 0, 0, 0], [3, 0], [0, 4, 4], [0, 0, 2, 2, 0, 0, 0, 0, 0, 0, 0, 1], [0, 2, 2, 2, 2, 0, 0, 0, 0, 0], [2, 0, 0], [2, 2, 2, 0], [2, 2, 2], [2, 0, 4, 0, 3, 2, 0, 3, 3, 0, 0, 0], [2, 2, 0, 0, 0, 0, 2, 2, 2, 2, 2, 2, 2, 2, 2, 2, 2, 2, 2, 2, 2, 2, 2, 2, 2, 2, 2, 0, 0, 0, 0, 0, 0, 0, 0, 0, 2, 2, 2, 2, 2, 2, 2, 2, 2, 2, 2, 2, 2, 2, 2, 2]]
def xadl : List (List (Option (Nat × Nat))) := [[none, none, none], [none, none, none, none, none, none, none, none, none], [none, none], [none, none, none], [none, none, some (0, 8), some (0, 40), none, none, none, none, none, none, none, none], [none, some (0, 200), some (4, 200), some (3, 8), some (5, 8), none, none, none, none, none], [some (0, 40), none, none], [some (0, 4096), some (0, 40), some (0, 40), none], [some (0, 8), some (0, 8), some (0, 8)], [some (7, 24), none, none, none, none, some (6, 300), none, none, none, none, none, none], [some (0, 21), some (0, 21), none, none, none, none, some (0, 24), some (0, 24), some (0, 24), some (0, 24), some (0, 24), some (0, 24), some (0, 4800), some (0, 4800), some (0, 38400), some (0, 38400), some (0, 38400), some (0, 192), some (0, 192), some (0, 1536), some (0, 1536), some (0, 1536), some (0, 192), some (0, 192), some (0, 8), some (0, 8), some (0, 8), none, none, none, none, none, none, none, none, none, some (0, 300), some (0, 300), some (0, 300), some (0, 300), some (0, 300), some (0, 300), some (0, 300), some (0, 300), some (0, 300), some (0, 2400), some (1, 300), some (0, 12000), some (0, 12000), some (0, 40), some (0, 4096), some (2, 4096)]]
def xrcl : List (List Nat) := [[99, 8, 99], [8, 8, 99, 99, 99, 99, 99, 99, 99], [8, 99], [99, 0, 2], [99, 99, 99, 99, 99, 99, 99, 99, 99, 99, 99, 99], [99, 99, 2, 0, 3, 99, 99, 99, 99, 99], [99, 99, 99], [99, 99, 99, 99], [99, 99, 99], [5, 99, 5, 99, 1, 4, 99, 7, 6, 99, 99, 99], [99, 99, 99, 99, 99, 99, 99, 99, 99, 99, 99, 99, 99, 99, 99, 99, 99, 99, 99, 99, 99, 99, 99, 99, 99, 99, 99, 99, 99, 99, 99, 99, 99, 99, 99, 99, 99, 99, 99, 99, 99, 99, 99, 99, 99, 99, 99, 99, 99, 99, 99, 99]]
def xdk (c k : Nat) : Nat := (xdkl.getD c []).getD k 9
def xad (c k : Nat) : Option (Nat × Nat) := match c with
  | 12 => (match k with
    | 0 => some (1, 1)
    | _ => none)
  | c => (xadl.getD c []).getD k none
def xrc (c k : Nat) : Nat := (xrcl.getD c []).getD k 99
def xnf (c : Nat) : Nat := (xdkl.getD c []).length
def xsub (t : xT) (k : Nat) : xT := match xsc t.1, k with
  | 0, _ => (20, t.2)
  | 1, k => (23, 0, k)
  | 2, _ => (22, t.2)
  | 9, 4 => (1, 0, 0)
  | 9, 7 => (7, 0, 0)
  | 9, 8 => (6, 0, 0)
  | _, _ => (99, 0, 0)
def xrv (g : xG) (o : Option xT) : Value := va_rf (o.map (fun u => g.2 u 0))
def xok (g : xG) (t : xT) (c : Nat) : Prop := g.1 t = true ∧ xsc t.1 = c
def xfld (g : xG) (Y : xW) (t : xT) (k : Nat) : Value := match xdk (xsc t.1) k with
  | 0 => .int (fI Y t k)
  | 1 => .long (fL Y t k 0)
  | 2 => .ref (g.2 t (k + 1))
  | 3 => .ref (g.2 (xsub t k) 0)
  | _ => xrv g (fR Y t k 0)
def xarr (g : xG) (Y : xW) (t : xT) (k : Nat) : xE := match xad (xsc t.1) k with
  | some (0, n) => .inl (0, n, .inl (fA Y t k))
  | some (1, n) => .inl (1, n, .inr (.inl (fL Y t k)))
  | some (2, n) => .inl (2, n, .inl (fA Y t k))
  | some (m, n) => .inl (m, n, .inr (.inr (.inr (.inr (fun i => (fR Y t k i).map (fun u => g.2 u 0))))))
  | none => .inl (99, 0, .inl (fun _ => 0))
def xct (g : xG) (Y : xW) (t : xT) (o : Nat) : xE := match o with
  | 0 => .inr (xsc t.1, (List.range (xnf (xsc t.1))).map (xfld g Y t))
  | k + 1 => xarr g Y t k
def xky (g : xG) (t : xT) (o : Nat) : Prop := g.1 t = true ∧ match o with
  | 0 => xsc t.1 < 11
  | k + 1 => (xad (xsc t.1) k).isSome = true
def xzr (Y : xW) (t : xT) : Prop := (∀ k, fI Y t k = 0) ∧ (∀ k i, fA Y t k i = 0) ∧ (∀ k i, fL Y t k i = 0) ∧ ∀ k i, fR Y t k i = none
def xVok (V : xV) : Prop := V.1 = V.2.1 → V.2.2.1 = 21 ∧ ∀ i, i < 21 → V.2.2.2 i = xparts i
/-- the heap is the state's image -/
def RC (V : xV) (g : xG) (h : xH) (Y : xW) : Prop :=
  (∀ t o, xky g t o → h.1 (g.2 t o) = some (xct g Y t o)) ∧
  (∀ t o t' o', xky g t o → xky g t' o' → g.2 t o = g.2 t' o' → t = t' ∧ o = o') ∧
  (∀ t o, xky g t o → g.2 t o < h.2.1) ∧
  (∀ t k i u, fR Y t k i = some u → xok g u (xrc (xsc t.1) k)) ∧
  (∀ t k, g.1 t = true → xdk (xsc t.1) k = 3 → xok g (xsub t k) (xrc (xsc t.1) k)) ∧
  (∀ t, g.1 t = false → xzr Y t) ∧
  (h.2 = fC Y ∧ h.1 V.1 = none ∧ h.1 V.2.1 = none ∧ V.1 < h.2.1 ∧ V.2.1 < h.2.1 ∧ xVok V) ∧
  (g.1 (9, 0, 0) = true ∧ g.1 (10, 0, 0) = true ∧ g.1 (12, 0, 0) = true)
section LG
variable {V : xV} {g : xG} {h : xH} {Y : xW} {t : xT} {c k : Nat}
theorem rc_ct {o : Nat} (R : RC V g h Y) (hk : xky g t o) : h.1 (g.2 t o) = some (xct g Y t o) := R.1 t o hk
theorem rc_ob (R : RC V g h Y) (ht : xok g t c) (hc : Nat.blt c 11 = true) : h.1 (g.2 t 0) = some (.inr (c, (List.range (xnf c)).map (xfld g Y t))) := by
  have h1 := R.1 t 0 ⟨ht.1, by rw [ht.2]; exact Nat.blt_eq.mp hc⟩
  unfold xct at h1
  rw [ht.2] at h1
  exact h1
theorem rc_fl (hk : Nat.blt k (xnf c) = true) : ((List.range (xnf c)).map (xfld g Y t))[k]? = some (xfld g Y t k) := by
  rw [List.getElem?_map, List.getElem?_range (Nat.blt_eq.mp hk)]
  rfl
def xck (c k m : Nat) : Bool := Nat.beq (xdk c k) m && Nat.blt k (xnf c) && Nat.blt c 11
theorem xck_1 {m : Nat} (h : xck c k m = true) : xdk c k = m ∧ Nat.blt k (xnf c) = true ∧ Nat.blt c 11 = true := by
  unfold xck at h
  rw [Bool.and_eq_true, Bool.and_eq_true] at h
  exact ⟨Nat.eq_of_beq_eq_true h.1.1, h.1.2, h.2⟩
theorem rc_ar (R : RC V g h Y) (ht : xok g t c) {m n : Nat} (hx : xad c k = some (m, n)) : h.1 (g.2 t (k + 1)) = some (xarr g Y t k) := by
  have h1 := R.1 t (k + 1) ⟨ht.1, by dsimp only; rw [ht.2, hx]; rfl⟩
  exact h1
theorem rc_rf (R : RC V g h Y) (ht : xok g t c) {i c' : Nat} (hc : xrc c k = c') : ∀ u, fR Y t k i = some u → xok g u c' := by
  intro u hu
  have h1 := R.2.2.2.1 t k i u hu
  rw [ht.2, hc] at h1
  exact h1
theorem rc_sb (R : RC V g h Y) (ht : xok g t c) {c' : Nat} (hk : xck c k 3 = true) (hc : xrc c k = c') : xok g (xsub t k) c' := by
  have h1 := R.2.2.2.2.1 t k ht.1 (by rw [ht.2]; exact (xck_1 hk).1)
  rw [ht.2, hc] at h1
  exact h1
theorem rc_9 (R : RC V g h Y) : xok g (9, 0, 0) 9 := ⟨R.2.2.2.2.2.2.2.1, rfl⟩
theorem rc_10 (R : RC V g h Y) : xok g (10, 0, 0) 10 := ⟨R.2.2.2.2.2.2.2.2.1, rfl⟩
theorem rc_12 (R : RC V g h Y) : xok g (12, 0, 0) 12 := ⟨R.2.2.2.2.2.2.2.2.2, rfl⟩
theorem rc_1 (R : RC V g h Y) : xok g (1, 0, 0) 1 := rc_sb R (rc_9 R) (k := 4) rfl rfl
theorem rc_7 (R : RC V g h Y) : xok g (7, 0, 0) 7 := rc_sb R (rc_9 R) (k := 7) rfl rfl
theorem rc_6 (R : RC V g h Y) : xok g (6, 0, 0) 6 := rc_sb R (rc_9 R) (k := 8) rfl rfl
theorem rc_P (R : RC V g h Y) : xrI V h V.1 = some (21, xparts) := by
  unfold xrI
  rw [R.2.2.2.2.2.2.1.2.1]
  exact if_pos rfl
theorem rc_Pn (R : RC V g h Y) : xlen V h V.1 = some 21 := by
  unfold xlen
  rw [R.2.2.2.2.2.2.1.2.1]
  exact if_pos rfl
theorem rc_Sn (R : RC V g h Y) : xlen V h V.2.1 = some V.2.2.1 := by
  unfold xlen
  rw [R.2.2.2.2.2.2.1.2.2.1]
  dsimp only
  split
  next e => rw [(R.2.2.2.2.2.2.1.2.2.2.2.2 e.symm).1]
  next e => exact if_pos rfl
theorem rc_S (R : RC V g h Y) : ∃ f, xrI V h V.2.1 = some (V.2.2.1, f) ∧ ∀ i, i < V.2.2.1 → f i = V.2.2.2 i := by
  unfold xrI
  rw [R.2.2.2.2.2.2.1.2.2.1]
  dsimp only
  split
  next e =>
    obtain ⟨h1, h2⟩ := R.2.2.2.2.2.2.1.2.2.2.2.2 e.symm
    rw [h1]
    exact ⟨_, rfl, fun i hi => (h2 i hi).symm⟩
  next e => rw [if_pos rfl]; exact ⟨_, rfl, fun _ _ => rfl⟩
/-- a write at a key -/
theorem rc_wr (R : RC V g h Y) {o : Nat} (hk : xky g t o) {Y' : xW} (hoth : ∀ t' o', xky g t' o' → ¬ (t' = t ∧ o' = o) → xct g Y' t' o' = xct g Y t' o') (hr : ∀ t k i u, fR Y' t k i = some u → xok g u (xrc (xsc t.1) k)) (hz : ∀ t', t' ≠ t → xzr Y t' → xzr Y' t') (hC : fC Y' = fC Y) : RC V g (xwr h (g.2 t o) (xct g Y' t o)) Y' := by
  obtain ⟨h1, h2, h3, h4, h5, h6, ⟨h7, h8, h9, h10, h11, h12⟩, h13⟩ := R
  have hne : ∀ a, h.1 a = none → a ≠ g.2 t o := by
    intro a ha e
    rw [e, h1 t o hk] at ha
    cases ha
  refine ⟨?_, h2, h3, hr, h5, ?_, ⟨by rw [hC]; exact h7, ?_, ?_, h10, h11, h12⟩, h13⟩
  · intro t' o' hk'
    show (if g.2 t' o' = g.2 t o then some (xct g Y' t o) else h.1 (g.2 t' o')) = _
    split
    next e =>
      obtain ⟨e1, e2⟩ := h2 _ _ _ _ hk' hk e
      rw [e1, e2]
    next e => rw [h1 t' o' hk', hoth t' o' hk' (fun z => e (by rw [z.1, z.2]))]
  · intro t' ht'
    exact hz t' (fun e => by rw [e, hk.1] at ht'; cases ht') (h6 t' ht')
  · show (if V.1 = g.2 t o then some (xct g Y' t o) else h.1 V.1) = none
    rw [if_neg (hne _ h8)]
    exact h8
  · show (if V.2.1 = g.2 t o then some (xct g Y' t o) else h.1 V.2.1) = none
    rw [if_neg (hne _ h9)]
    exact h9
theorem xct_0 {Y' : xW} (t : xT) (hf : ∀ k, xfld g Y' t k = xfld g Y t k) : xct g Y' t 0 = xct g Y t 0 := by
  show (Sum.inr (xsc t.1, (List.range (xnf (xsc t.1))).map (xfld g Y' t)) : xE) = Sum.inr (xsc t.1, (List.range (xnf (xsc t.1))).map (xfld g Y t))
  rw [show xfld g Y' t = xfld g Y t from funext hf]
theorem xct_set {Y' : xW} {v : Value} (hc : xsc t.1 = c) (hv : xfld g Y' t k = v) (ho : ∀ q, q ≠ k → xfld g Y' t q = xfld g Y t q) : (Sum.inr (c, ((List.range (xnf c)).map (xfld g Y t)).set k v) : xE) = xct g Y' t 0 := by
  subst hc
  show _ = (Sum.inr (xsc t.1, (List.range (xnf (xsc t.1))).map (xfld g Y' t)) : xE)
  congr 2
  apply List.ext_getElem?
  intro q
  rw [List.getElem?_set]
  by_cases hq : q < xnf (xsc t.1)
  · by_cases e : k = q
    · subst e
      rw [if_pos rfl, if_pos (by simpa using hq), List.getElem?_map, List.getElem?_range hq]
      exact congrArg some hv.symm
    · rw [if_neg e, List.getElem?_map, List.getElem?_map, List.getElem?_range hq]
      exact congrArg some (ho q (fun z => e z.symm)).symm
  · have e1 : ((List.range (xnf (xsc t.1))).map (xfld g Y t))[q]? = none := by simp; omega
    have e2 : ((List.range (xnf (xsc t.1))).map (xfld g Y' t))[q]? = none := by simp; omega
    rw [e1, e2]
    split
    · split
      · rename_i z1 z2; simp at z2; omega
      · rfl
    · rfl
end LG
section LH
variable {V : xV} {g : xG} {h : xH} {Y : xW} {t : xT} {c k : Nat}
theorem rc_uI (R : RC V g h Y) (ht : xok g t c) (hk : xck c k 0 = true) (x : Int32) : RC V g (xwr h (g.2 t 0) (.inr (c, ((List.range (xnf c)).map (xfld g Y t)).set k (.int x)))) (uI Y t k x) := by
  obtain ⟨k1, k2, k3⟩ := xck_1 hk
  have hy : xky g t 0 := ⟨ht.1, by rw [ht.2]; exact Nat.blt_eq.mp k3⟩
  have ho : ∀ t' q, ¬ (t' = t ∧ q = k) → xfld g (uI Y t k x) t' q = xfld g Y t' q := by
    intro t' q hn
    unfold xfld
    have e : fI (uI Y t k x) t' q = fI Y t' q := if_neg hn
    rw [e]
    rfl
  rw [xct_set (Y' := uI Y t k x) ht.2 (by unfold xfld; rw [ht.2, k1]; exact congrArg Value.int (if_pos ⟨rfl, rfl⟩)) (fun q hq => ho t q (fun z => hq z.2))]
  refine rc_wr R hy ?_ R.2.2.2.1 ?_ rfl
  · intro t' o' hk' hn
    cases o' with
    | zero => exact xct_0 t' (fun q => ho t' q (fun z => hn ⟨z.1, rfl⟩))
    | succ q => rfl
  · intro t' hne hz
    exact ⟨fun q => (if_neg (fun z => hne z.1)).trans (hz.1 q), hz.2⟩
theorem rc_uJ (R : RC V g h Y) (ht : xok g t c) (hk : xck c k 1 = true) (hx : xad c k = none) (x : Int64) : RC V g (xwr h (g.2 t 0) (.inr (c, ((List.range (xnf c)).map (xfld g Y t)).set k (.long x)))) (uL Y t k 0 x) := by
  obtain ⟨k1, k2, k3⟩ := xck_1 hk
  have hy : xky g t 0 := ⟨ht.1, by rw [ht.2]; exact Nat.blt_eq.mp k3⟩
  have ho : ∀ t' q, ¬ (t' = t ∧ q = k) → xfld g (uL Y t k 0 x) t' q = xfld g Y t' q := by
    intro t' q hn
    unfold xfld
    have e : fL (uL Y t k 0 x) t' q 0 = fL Y t' q 0 := if_neg (fun z => hn ⟨z.1, z.2.1⟩)
    rw [e]
    rfl
  rw [xct_set (Y' := uL Y t k 0 x) ht.2 (by unfold xfld; rw [ht.2, k1]; exact congrArg Value.long (if_pos ⟨rfl, rfl, rfl⟩)) (fun q hq => ho t q (fun z => hq z.2))]
  refine rc_wr R hy ?_ R.2.2.2.1 ?_ rfl
  · intro t' o' hk' hn
    cases o' with
    | zero => exact xct_0 t' (fun q => ho t' q (fun z => hn ⟨z.1, rfl⟩))
    | succ q =>
      show xarr g _ t' q = xarr g Y t' q
      by_cases e : t' = t ∧ q = k
      · obtain ⟨rfl, rfl⟩ := e
        have := hk'.2
        rw [ht.2] at this
        dsimp only at this
        rw [hx] at this
        cases this
      · unfold xarr
        have e : fL (uL Y t k 0 x) t' q = fL Y t' q := funext fun i => if_neg (fun z => e ⟨z.1, z.2.1⟩)
        rw [e]
        rfl
  · intro t' hne hz
    exact ⟨hz.1, hz.2.1, fun q i => (if_neg (fun z => hne z.1)).trans (hz.2.2.1 q i), hz.2.2.2⟩
theorem rc_uR (R : RC V g h Y) (ht : xok g t c) (hk : xck c k 4 = true) (hx : xad c k = none) {o : Option xT} {c' : Nat} (hc : xrc c k = c') (hu : ∀ u, o = some u → xok g u c') : RC V g (xwr h (g.2 t 0) (.inr (c, ((List.range (xnf c)).map (xfld g Y t)).set k (xrv g o)))) (uR Y t k 0 o) := by
  obtain ⟨k1, k2, k3⟩ := xck_1 hk
  have hy : xky g t 0 := ⟨ht.1, by rw [ht.2]; exact Nat.blt_eq.mp k3⟩
  have ho : ∀ t' q, ¬ (t' = t ∧ q = k) → xfld g (uR Y t k 0 o) t' q = xfld g Y t' q := by
    intro t' q hn
    unfold xfld
    have e : fR (uR Y t k 0 o) t' q 0 = fR Y t' q 0 := if_neg (fun z => hn ⟨z.1, z.2.1⟩)
    rw [e]
    rfl
  rw [xct_set (Y' := uR Y t k 0 o) ht.2 (by unfold xfld; rw [ht.2, k1]; exact congrArg (xrv g) (if_pos ⟨rfl, rfl, rfl⟩)) (fun q hq => ho t q (fun z => hq z.2))]
  refine rc_wr R hy ?_ ?_ ?_ rfl
  · intro t' o' hk' hn
    cases o' with
    | zero => exact xct_0 t' (fun q => ho t' q (fun z => hn ⟨z.1, rfl⟩))
    | succ q =>
      show xarr g _ t' q = xarr g Y t' q
      by_cases e : t' = t ∧ q = k
      · obtain ⟨rfl, rfl⟩ := e
        have := hk'.2
        rw [ht.2] at this
        dsimp only at this
        rw [hx] at this
        cases this
      · unfold xarr
        have e : fR (uR Y t k 0 o) t' q = fR Y t' q := funext fun i => if_neg (fun z => e ⟨z.1, z.2.1⟩)
        rw [e]
        rfl
  · intro t' q i u hq
    by_cases e : t' = t ∧ q = k ∧ i = 0
    · have h1 : fR (uR Y t k 0 o) t' q i = o := if_pos e
      rw [e.1, e.2.1, ht.2, hc]
      exact hu u (h1.symm.trans hq)
    · have h1 : fR (uR Y t k 0 o) t' q i = fR Y t' q i := if_neg e
      exact R.2.2.2.1 t' q i u (h1.symm.trans hq)
  · intro t' hne hz
    exact ⟨hz.1, hz.2.1, hz.2.2.1, fun q i => (if_neg (fun z => hne z.1)).trans (hz.2.2.2 q i)⟩
theorem rc_sA (R : RC V g h Y) (ht : xok g t c) {m n : Nat} (hx : xad c k = some (m, n)) (hm : m = 0 ∨ m = 2) (i : Nat) (x : Int32) : RC V g (xwr h (g.2 t (k + 1)) (.inl (m, n, .inl (upd (fA Y t k) i x)))) (uA Y t k i x) := by
  have hy : xky g t (k + 1) := ⟨ht.1, by dsimp only; rw [ht.2, hx]; rfl⟩
  have e0 : (Sum.inl (m, n, .inl (upd (fA Y t k) i x)) : xE) = xct g (uA Y t k i x) t (k + 1) := by
    have e1 : fA (uA Y t k i x) t k = upd (fA Y t k) i x := by
      funext q
      show (if t = t ∧ k = k ∧ q = i then x else fA Y t k q) = if q = i then x else fA Y t k q
      by_cases e : q = i
      · rw [if_pos ⟨rfl, rfl, e⟩, if_pos e]
      · rw [if_neg (fun z => e z.2.2), if_neg e]
    show _ = xarr g (uA Y t k i x) t k
    unfold xarr
    rw [ht.2, hx, e1]
    rcases hm with rfl | rfl <;> rfl
  rw [e0]
  refine rc_wr R hy ?_ R.2.2.2.1 ?_ rfl
  · intro t' o' hk' hn
    cases o' with
    | zero => rfl
    | succ q =>
      show xarr g _ t' q = xarr g Y t' q
      unfold xarr
      have e : fA (uA Y t k i x) t' q = fA Y t' q := funext fun i => if_neg (fun z => hn ⟨z.1, by rw [z.2.1]⟩)
      rw [e]
      rfl
  · intro t' hne hz
    exact ⟨hz.1, fun q i => (if_neg (fun z => hne z.1)).trans (hz.2.1 q i), hz.2.2⟩
theorem rc_sL (R : RC V g h Y) (ht : xok g t c) {n : Nat} (hx : xad c k = some (1, n)) (hd : xdk c k ≠ 1) (i : Nat) (x : Int64) : RC V g (xwr h (g.2 t (k + 1)) (.inl (1, n, .inr (.inl (vp_updL (fL Y t k) i x))))) (uL Y t k i x) := by
  have hy : xky g t (k + 1) := ⟨ht.1, by dsimp only; rw [ht.2, hx]; rfl⟩
  have e0 : (Sum.inl (1, n, .inr (.inl (vp_updL (fL Y t k) i x))) : xE) = xct g (uL Y t k i x) t (k + 1) := by
    have e1 : fL (uL Y t k i x) t k = vp_updL (fL Y t k) i x := by
      funext q
      show (if t = t ∧ k = k ∧ q = i then x else fL Y t k q) = if q = i then x else fL Y t k q
      by_cases e : q = i
      · rw [if_pos ⟨rfl, rfl, e⟩, if_pos e]
      · rw [if_neg (fun z => e z.2.2), if_neg e]
    show _ = xarr g (uL Y t k i x) t k
    unfold xarr
    rw [ht.2, hx, e1]
    rfl
  rw [e0]
  refine rc_wr R hy ?_ R.2.2.2.1 ?_ rfl
  · intro t' o' hk' hn
    cases o' with
    | zero =>
      refine xct_0 t' (fun q => ?_)
      unfold xfld
      by_cases e : t' = t ∧ q = k
      · obtain ⟨rfl, rfl⟩ := e
        rw [ht.2]
        split
        · rfl
        · rename_i z; exact absurd z hd
        · rfl
        · rfl
        · rfl
      · have e : fL (uL Y t k i x) t' q 0 = fL Y t' q 0 := if_neg (fun z => e ⟨z.1, z.2.1⟩)
        rw [e]
        rfl
    | succ q =>
      show xarr g _ t' q = xarr g Y t' q
      unfold xarr
      have e : fL (uL Y t k i x) t' q = fL Y t' q := funext fun i => if_neg (fun z => hn ⟨z.1, by rw [z.2.1]⟩)
      rw [e]
      rfl
  · intro t' hne hz
    exact ⟨hz.1, hz.2.1, fun q i => (if_neg (fun z => hne z.1)).trans (hz.2.2.1 q i), hz.2.2.2⟩
theorem rc_sR (R : RC V g h Y) (ht : xok g t c) {m n : Nat} (hx : xad c k = some (m + 3, n)) (hd : xdk c k = 2) (i : Nat) {u : xT} {c' : Nat} (hc : xrc c k = c') (hu : xok g u c') : RC V g (xwr h (g.2 t (k + 1)) (.inl (m + 3, n, .inr (.inr (.inr (.inr (va_up (fun i => (fR Y t k i).map (fun u => g.2 u 0)) i (some (g.2 u 0)))))))))  (uR Y t k i (some u)) := by
  have hy : xky g t (k + 1) := ⟨ht.1, by dsimp only; rw [ht.2, hx]; rfl⟩
  have e0 : (Sum.inl (m + 3, n, .inr (.inr (.inr (.inr (va_up (fun i => (fR Y t k i).map (fun u => g.2 u 0)) i (some (g.2 u 0))))))) : xE) = xct g (uR Y t k i (some u)) t (k + 1) := by
    have e1 : (fun q => (fR (uR Y t k i (some u)) t k q).map (fun u => g.2 u 0)) = va_up (fun i => (fR Y t k i).map (fun u => g.2 u 0)) i (some (g.2 u 0)) := by
      funext q
      show (if t = t ∧ k = k ∧ q = i then some u else fR Y t k q).map (fun u => g.2 u 0) = if q = i then some (g.2 u 0) else (fR Y t k q).map (fun u => g.2 u 0)
      by_cases e : q = i
      · rw [if_pos ⟨rfl, rfl, e⟩, if_pos e]
        rfl
      · rw [if_neg (fun z => e z.2.2), if_neg e]
    show _ = xarr g (uR Y t k i (some u)) t k
    unfold xarr
    rw [ht.2, hx, e1]
    rfl
  rw [e0]
  refine rc_wr R hy ?_ ?_ ?_ rfl
  · intro t' o' hk' hn
    cases o' with
    | zero =>
      refine xct_0 t' (fun q => ?_)
      unfold xfld
      by_cases e : t' = t ∧ q = k
      · obtain ⟨rfl, rfl⟩ := e
        rw [ht.2, hd]
        rfl
      · have e : fR (uR Y t k i (some u)) t' q 0 = fR Y t' q 0 := if_neg (fun z => e ⟨z.1, z.2.1⟩)
        rw [e]
        rfl
    | succ q =>
      show xarr g _ t' q = xarr g Y t' q
      unfold xarr
      have e : fR (uR Y t k i (some u)) t' q = fR Y t' q := funext fun i => if_neg (fun z => hn ⟨z.1, by rw [z.2.1]⟩)
      rw [e]
      rfl
  · intro t' q j u' hq
    by_cases e : t' = t ∧ q = k ∧ j = i
    · have h1 : fR (uR Y t k i (some u)) t' q j = some u := if_pos e
      rw [e.1, e.2.1, ht.2, hc]
      cases h1.symm.trans hq
      exact hu
    · have h1 : fR (uR Y t k i (some u)) t' q j = fR Y t' q j := if_neg e
      exact R.2.2.2.1 t' q j u' (h1.symm.trans hq)
  · intro t' hne hz
    exact ⟨hz.1, hz.2.1, hz.2.2.1, fun q i => (if_neg (fun z => hne z.1)).trans (hz.2.2.2 q i)⟩
def uT (Y : xW) : xW := uC Y ((fC Y).1 + 1, (fC Y).2.1 + 1, (fC Y).2.2 + 6)
theorem rc_t6 (R : RC V g h Y) : RC V g (xt6 h) (uT Y) := by
  obtain ⟨h1, h2, h3, h4, h5, h6, ⟨h7, h8, h9, h10, h11, h12⟩, h13⟩ := R
  refine ⟨h1, h2, fun t o hk => Nat.lt_succ_of_lt (h3 t o hk), h4, h5, h6, ⟨?_, h8, h9, Nat.lt_succ_of_lt h10, Nat.lt_succ_of_lt h11, h12⟩, h13⟩
  show (h.2.1 + 1, h.2.2.1 + 1, h.2.2.2 + 6) = ((fC Y).1 + 1, (fC Y).2.1 + 1, (fC Y).2.2 + 6)
  rw [h7]
end LH
