/-! the small machine's heap, held by the real one; its rows for fields and arrays -/
def xAd (n0 : Nat) : Nat → Prop := fun q => n0 ≤ q
def xto (cy : Nat → ClassId) : xE → va_E
  | .inl q => .inl (cy q.1, q.2)
  | .inr o => .inr o
def xI (D : va_G) (cy : Nat → ClassId) (f : xF) (H : Heap) : Prop := ∀ (a : Nat) (e : xE), f a = some e → va_at D vwCl (a, xto cy e) H
def xtk (k : Nat) : FieldType := match k with
  | 0 => .int
  | 1 => .long
  | 2 => .boolean
  | 3 => .object RX0
  | 4 => .object RX2
  | 5 => .object RX3
  | 6 => .object RX4
  | _ => .object RX5
def xtys (cy : Nat → ClassId) : List (ClassId × FieldType) := (List.range 8).map (fun k => (cy k, xtk k))
theorem xtys_at {cy : Nat → ClassId} {k : Nat} (hk : k < 8) : (xtys cy)[k]? = some (cy k, xtk k) := by
  simp [xtys, hk]
theorem xone {D : va_G} {cl : List vw_C} {q : Nat × va_E} {H : Heap} (h : va_at D cl q H) : va_P D cl [q] H := by
  intro k x hx
  cases k with
  | zero => cases hx; exact h
  | succ k => simp at hx
theorem xI.set {D : va_G} {cy : Nat → ClassId} {f : xF} {H H1 : Heap} {a : Nat} {e : xE} (hI : xI D cy f H) (hn : va_at D vwCl (a, xto cy e) H1) (ho : ∀ q : Nat, q ≠ a → H1[q]? = H[q]?) : xI D cy (xup f a e) H1 := by
  intro b e' hb
  unfold xup at hb
  split at hb
  next h => subst h; cases hb; exact hn
  next h => exact (hI b e' hb).kept (ho b h)
theorem xI.new {D : va_G} {cy : Nat → ClassId} {f : xF} {H H1 : Heap} {e : xE} (hI : xI D cy f H) (hn : va_at D vwCl (H.size, xto cy e) H1) (ho : ∀ q : Nat, q < H.size → H1[q]? = H[q]?) : xI D cy (xup f H.size e) H1 := by
  intro b e' hb
  unfold xup at hb
  split at hb
  next h => subst h; cases hb; exact hn
  next h => exact (hI b e' hb).kept (ho b (hI b e' hb).lt)
/-- a point of a walk: the heap H holds h; since H0 nothing below n0 has changed -/
def xpt (D : va_G) (cy : Nat → ClassId) (n0 : Nat) (H0 : Heap) (h : xH) (H : Heap) (locs : List Loc) : Prop := xI D cy h.1 H ∧ H.size = h.2.1 ∧ va_S (xAd n0) H0 H locs ∧ (∀ a e, h.1 a = some e → n0 ≤ a) ∧ n0 ≤ H0.size
theorem xpt.put {D : va_G} {cy : Nat → ClassId} {n0 : Nat} {H0 H H1 : Heap} {h : xH} {locs : List Loc} {a k : Nat} {e0 e : xE} (P : xpt D cy n0 H0 h H locs) (ha : h.1 a = some e0) (hn : va_at D vwCl (a, xto cy e) H1) (z : H1.size = H.size) (ho : ∀ q : Nat, q ≠ a → H1[q]? = H[q]?) : xpt D cy n0 H0 (xwr h a e) H1 (locs ++ [⟨a, k⟩]) := by
  obtain ⟨p1, p2, p3, p4, p5⟩ := P
  refine ⟨p1.set hn ho, z.trans p2, p3.put z ho (p4 a e0 ha), fun b e' hb => ?_, p5⟩
  have hb : xup h.1 a e b = some e' := hb
  unfold xup at hb
  split at hb
  next q => subst q; exact p4 _ e0 ha
  next q => exact p4 b e' hb
theorem xpt.new {D : va_G} {cy : Nat → ClassId} {n0 : Nat} {H0 H H1 : Heap} {h : xH} {locs : List Loc} {e : xE} {n : Nat} (P : xpt D cy n0 H0 h H locs) (hn : va_at D vwCl (H.size, xto cy e) H1) (z : H1.size = H.size + 1) (ho : ∀ q : Nat, q < H.size → H1[q]? = H[q]?) : xpt D cy n0 H0 (xalc h e n) H1 locs := by
  obtain ⟨p1, p2, p3, p4, p5⟩ := P
  refine ⟨?_, ?_, ⟨Nat.le_trans p3.1 (by omega), fun x h1 h2 => (ho x (Nat.lt_of_lt_of_le h1 p3.1)).trans (p3.2.1 x h1 h2), p3.2.2⟩, fun b e' hb => ?_, p5⟩
  · show xI D cy (xup h.1 h.2.1 e) H1
    rw [← p2]
    exact p1.new hn ho
  · show H1.size = h.2.1 + 1
    rw [z, p2]
  · have hb : xup h.1 h.2.1 e b = some e' := hb
    unfold xup at hb
    split at hb
    next q => rw [q, ← p2]; exact Nat.le_trans p5 p3.1
    next q => exact p4 b e' hb
theorem xdecl : ∀ ci, ci < 11 → ∀ k, k < (xcl ci).2.2 → ((xcl ci).2.1 k).1 = (xcl ci).1 := by decide +kernel
theorem xcl_own : ∀ ci, ci < 11 → xown ci = (xcl ci).1 := by decide +kernel
theorem xpk_f {o i p ci k : Nat} {n : Bool} (h : xpk o (i, .inl (p, n, ci, k))) (hci : ci ≠ 99) : lw_tbl[p]? = some (xfw o i ci k n) ∧ ci < 11 ∧ k < (xcl ci).2.2 := by
  have h2 : lw_tbl[p]? = some (xfw o i ci k n) ∧ Nat.blt ci 11 = true ∧ Nat.blt k (xcl ci).2.2 = true := by
    unfold xpk at h
    split at h <;> simp_all
  exact ⟨h2.1, by simpa [Nat.blt_eq] using h2.2.1, by simpa [Nat.blt_eq] using h2.2.2⟩
theorem xpk_s {o i p k : Nat} {n : Bool} (h : xpk o (i, .inl (p, n, 99, k))) : lw_tbl[p]? = some (.fieldLink (xown o) i "RegionYard" "PARTS" "[I") := h
abbrev xNS : String := "java/util/NoSuchElementException"
abbrev xIA : String := "java/lang/IllegalArgumentException"
abbrev xRT : String := "java/lang/RuntimeException"
abbrev xEx : List String := ["java/lang/Exception"]
def xbw : List Cond := [.castable xNS xNS, .castable xIA xIA, .declares ⟨"java/lang/RuntimeException", "<init>", "(Ljava/lang/String;)V"⟩, .declares ⟨"java/lang/Exception", "<init>", "(Ljava/lang/String;)V"⟩, .declares ⟨"java/lang/Throwable", "<init>", "(Ljava/lang/String;)V"⟩]
def xisCa : Cond → Bool
  | .castable .. => true
  | .declares _ => true
  | _ => false
theorem xbw_ca : xbw.all xisCa = true := rfl
def xstr : List Nat := [132, 153, 215, 236, 241, 254, 259, 270, 203, 209]
/-- what a throw needs of the state -/
def xthe (n0 : Nat) (U : State) : Prop := (∀ w ∈ xbw, va_Nw w U) ∧ (∀ q ∈ xstr, ∃ tx sa, vk_R RX9 q tx sa U) ∧ vx_Zq Bundle.tN "UNASSIGNED_STACK" Bundle.steD (xAd n0) U U.heap ∧ vx_Zq Bundle.tN "SUPPRESSED_SENTINEL" Bundle.listD (xAd n0) U U.heap
/-- what the walk's state says of the world outside the small machine's heap -/
def xenv (V : xV) (D : va_G) (cy : Nat → ClassId) (n0 : Nat) (U : State) : Prop :=
  va_K D vwCl (xtys cy) U ∧ (∀ w ∈ lw_tbl.filter xnw, va_Nw w U) ∧ va_Z "RegionYard" "PARTS" "[I" (.ref V.1) (xAd n0) U U.heap ∧ va_T .int V.1 21 (fun i => .int (xparts i)) (xAd n0) U U.heap ∧ va_X V.2.1 V.2.2.1 V.2.2.2 U U.heap ∧ V.2.1 < n0 ∧ (∀ k, 3 ≤ k → k < 8 → va_AO (xcl (xkc k)).1 U) ∧ xthe n0 U
/-- what is fixed in a method's body -/
def xc (p : Program) (R : Room) (s : State) (m : MethodId) (args : Array Value) (meth : Method) (c : Code) (V : xV) (D : va_G) (cy : Nat → ClassId) (n0 j : Nat) : Prop :=
  p.tables.exec = Jvm.exec ∧ c.code = xcd j ∧ c.maxLocals = xmL j ∧ meth.sig.returnType = xrt j ∧ meth.locks = false ∧ s.vm.findClass (xown (xow j)) = some m.cls ∧ (∀ w ∈ xws, w.before args s = true) ∧ (xisI j = true → meth.name = "<init>") ∧ xenv V D cy n0 s ∧ xfr j ≤ R.frames ∧ xlo j ≤ R.locals
section XR
variable {p : Program} {l : Launch} {e : Env} {R : Room} {s : State} {m : MethodId} {args : Array Value} {below : List Frame} {meth : Method} {c : Code} {H : Heap} {locs : List Loc} {cells slots : Nat} {Q : State → Prop}
variable {pc j n0 a : Nat} {ls : Array Slot} {rest : List Value} {D : va_G} {cy : Nat → ClassId} {V : xV} {h : xH}
theorem xr_get (C : xc p R s m args meth c V D cy n0 j) (P : xpt D cy n0 s.heap h H locs) {idx p0 ci k : Nat} {nest : Bool} {fs : List Value} {v : Value} (hp : xpo (xow j) idx = some (.inl (p0, nest, ci, k))) (hci : ci ≠ 99) (ha : h.1 a = some (.inr (ci, fs))) (hv : fs[k]? = some v) (hd : decode (xcd j) pc = .ok (.getfield idx, 3))
    (kk : W p l e R s m args below meth c H locs cells slots Q (F0 m (pc + 3) ls (v :: rest))) : W p l e R s m args below meth c H locs cells slots Q (F0 m pc ls (.ref a :: rest)) := by
  obtain ⟨hx, hb, -, -, -, hown, hts, -, hE, -, -⟩ := C
  obtain ⟨g1, g2, g3⟩ := xpk_f (xpk_ok _ _ _ hp) hci
  have hq := xcq_ok ci g2
  have hP := xone (P.1 a _ ha)
  cases nest with
  | false => exact va_get (C := (xcl ci).1) (T := (xcl ci).2.1) (N := (xcl ci).2.2) hx hb hts hq.1 hown hE.1 hP 0 rfl hq.2.2.2.2.2.1 k g3 (hts _ (xwd_in g1 rfl)) (fun _ q => by rw [xdecl ci g2 k g3] at q; exact q) hv hd kk
  | true => exact va_getN (C := (xcl ci).1) (T := (xcl ci).2.1) (N := (xcl ci).2.2) hx hb hts hq.1 hown hE.1 hP 0 rfl hq.2.2.2.2.2.1 k g3 (va_Nw.use rfl (hE.2.1 _ (xnd_in g1 rfl))) (fun _ q => by rw [xdecl ci g2 k g3] at q; exact q) hv hd kk
theorem xr_put (C : xc p R s m args meth c V D cy n0 j) (P : xpt D cy n0 s.heap h H locs) {idx p0 ci k : Nat} {nest : Bool} {fs : List Value} {v : Value} (hp : xpo (xow j) idx = some (.inl (p0, nest, ci, k))) (hci : ci ≠ 99) (ha : h.1 a = some (.inr (ci, fs))) (hl : k < fs.length) (hn : narrow (xty ci k) v = v) (hfit : fits (xty ci k) v = true) (hfin : ((xcl ci).2.1 k).2.2.2 = false ∨ (xisI j = true ∧ xow j = ci)) (hd : decode (xcd j) pc = .ok (.putfield idx, 3))
    (kk : ∀ (H1 : Heap) (locs1 : List Loc), xpt D cy n0 s.heap (xwr h a (.inr (ci, fs.set k v))) H1 locs1 → W p l e R s m args below meth c H1 locs1 cells slots Q (F0 m (pc + 3) ls rest)) : W p l e R s m args below meth c H locs cells slots Q (F0 m pc ls (v :: .ref a :: rest)) := by
  obtain ⟨hx, hb, -, -, -, hown, hts, hini, hE, -, -⟩ := C
  obtain ⟨g1, g2, g3⟩ := xpk_f (xpk_ok _ _ _ hp) hci
  obtain ⟨hin, -, hty, hnm, -, hc, -⟩ := xcq_ok ci g2
  have hK := hE.1
  have hap := va_apart (C := (xcl ci).1) (T := (xcl ci).2.1) (N := (xcl ci).2.2) (own := "") hts hin (xty ci) hty hnm hK hc
  obtain ⟨r, h1, cell, q1, q2, q3, q4⟩ := P.1 a _ ha
  have hr : r = xcl ci := Option.some.inj (h1.symm.trans hc)
  subst hr
  obtain ⟨hS, hfc, kC, hkC, hkind⟩ := hK.1 ci _ hc
  obtain ⟨cf, kf, fi, f, hi, hsl⟩ := hS k g3
  have hlay := hts _ (hin _ (u_in_lay g3))
  unfold u_lay at hlay
  have hst := (u_facts hfc hkC (u_lays hts hin g3) hi).1
  have hsame : ∀ x, s.fieldFound? ((xcl ci).2.1 k).1 ((xcl ci).2.1 k).2.1 ((xcl ci).2.1 k).2.2.1 = some x → s.fieldFound? (xcl ci).1 ((xcl ci).2.1 k).2.1 ((xcl ci).2.1 k).2.2.1 = some x := fun _ q => by rw [xdecl ci g2 k g3] at q; exact q
  have fin : ∀ H' : Heap, H'[a]? = some (cell.setSlot f.slot v) → H'.size = H.size → (∀ q : Nat, q ≠ a → H'[q]? = H[q]?) → W p l e R s m args below meth c H' (locs ++ [⟨a, f.slot⟩]) cells slots Q (F0 m (pc + 3) ls rest) := by
    intro H' e1 e2 e3
    rw [hsl] at e1 ⊢
    exact kk H' _ (P.put ha (show va_at D vwCl (a, .inr (ci, fs.set k v)) H' from ⟨_, hc, t_OB.to (V := updV (vp_V fs) k v) ⟨_, e1, q2, q3, t_set q4 hap g3 v⟩ (fun j _ => vp_updV_set hl v j)⟩) e2 e3)
  by_cases hf : ((xcl ci).2.1 k).2.2.2 = false
  · rw [if_neg (by rw [hf]; decide)] at hlay
    have h6 := u_store hfc hkC hkind hlay hi (hty k g3) hn hfit
    cases nest with
    | false => exact W.putK hx hb (f := f) ⟨hown, hts _ (xwd_in g1 rfl), ⟨_, _, _, hsame _ hi⟩, hst⟩ (by rw [q2]; exact h6) q1 q3 (by rw [hsl]; exact k2_hasslot (q4 k g3)) rfl rfl hd fin
    | true => exact va_WputK hx hb (f := f) hown (va_Nw.use rfl (hE.2.1 _ (xnd_in g1 rfl))) (hsame _ hi) hst (by rw [q2]; exact h6) q1 q3 (by rw [hsl]; exact k2_hasslot (q4 k g3)) rfl rfl hd fin
  · have hf : ((xcl ci).2.1 k).2.2.2 = true := by simpa using hf
    rcases hfin with q | ⟨q5, q6⟩
    · rw [hf] at q; cases q
    rw [if_pos hf] at hlay
    have hcf : m.cls = cf := by
      obtain ⟨_, _, c', _, _, _, -, -, hf', -, -, -, hown2, -⟩ := Cond.laysFinal_spec hlay
      have e1 : c' = cf := by have := hi.symm.trans hf'; simp at this; exact this.1.symm
      rw [xdecl ci g2 k g3] at hown2
      rw [← e1]
      have hw : xown (xow j) = (xcl ci).1 := by rw [q6]; exact xcl_own ci g2
      rw [hw] at hown
      exact Option.some.inj (hown.symm.trans hown2)
    have h6 := u_fits hfc hkC hkind (Or.inr hlay) hi (hty k g3) hn hfit
    cases nest with
    | false => exact W.putFinK hx hb hown (hts _ (xwd_in g1 rfl)) (hsame _ hi) hst hcf (hini q5) (by rw [q2]; exact h6) q1 q3 (by rw [hsl]; exact k2_hasslot (q4 k g3)) rfl rfl hd fin
    | true =>
      have ha2 : a < H.size := (Array.getElem?_eq_some_iff.mp q1).1
      rw [← q2] at h6
      exact va_Wputf hx hb hown (va_Nw.use rfl (hE.2.1 _ (xnd_in g1 rfl))) (hsame _ hi) hst (Or.inr ⟨hcf, hini q5⟩) q1 (by rw [q3]; exact fun h => by cases h) (by rw [hsl]; exact k2_hasslot (q4 k g3)) h6.1 (by rw [q3]; exact h6.2) rfl rfl hd (fin _ (by simp [Array.getElem?_setIfInBounds, ha2]) (by simp) (fun q hq => by simp [Array.getElem?_setIfInBounds, Ne.symm hq]))
end XR
