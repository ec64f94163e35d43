/-! each step of the small machine that goes on is a step of the real one -/
/-- from here on, whatever the real heap and locals, the walk comes to Q -/
def xgo (p : Program) (l : Launch) (e : Env) (R : Room) (s : State) (m : MethodId) (args : Array Value) (below : List Frame) (meth : Method) (c : Code) (Q : State → Prop) (D : va_G) (cy : Nat → ClassId) (n0 c0 k0 j pc : Nat) (lv : xL) (st : List Value) (h : xH) : Prop :=
  ∀ (ls : Array Slot) (H : Heap) (locs : List Loc), xpt D cy n0 s.heap h H locs → lv_has ls (xmL j) lv → c0 ≤ h.2.2.1 → k0 ≤ h.2.2.2 → W p l e R s m args below meth c H locs (h.2.2.1 - c0) (h.2.2.2 - k0) Q (F0 m pc ls st)
theorem xlk_at {ls : Array Slot} {n : Nat} {lv : xL} (hl : lv_has ls n lv) {i : Nat} {v : Value} (h : xlk lv i = some v) : ls[i]? = some (.val v) := hl.2.2 (i, v) (xlk_mem h)
theorem xlk_ix {lv : xL} {i : Nat} {v : Value} (h : xlk lv i = some v) : ∃ k : Nat, lv[k]? = some (i, v) := List.getElem?_of_mem (xlk_mem h)
theorem xtg_ok {pc t : Nat} {off : Int} (h : xtg pc off = some t) : (pc : Int) + off = (t : Int) := by
  unfold xtg at h
  split at h
  next q => cases h; exact q
  next => cases h
theorem xfit_ok {ty : FieldType} {v : Value} (h : xfit ty v = true) : narrow ty v = v ∧ fits ty v = true := by
  unfold xfit at h
  split at h
  all_goals first | exact ⟨rfl, rfl⟩ | (cases h; done) | skip
  simp only [Bool.or_eq_true, decide_eq_true_eq] at h
  rcases h with rfl | rfl <;> exact ⟨rfl, rfl⟩
theorem xw_r0 {s : State} {c : ClassId} (h : va_RA s c (xtk 0)) : s.vm.findClass ("[" ++ (newarray.typeOf .int).toString) = some c := h
theorem xw_r1 {s : State} {c : ClassId} (h : va_RA s c (xtk 1)) : s.vm.findClass ("[" ++ (newarray.typeOf .long).toString) = some c := h
theorem xw_r2 {s : State} {c : ClassId} (h : va_RA s c (xtk 2)) : s.vm.findClass ("[" ++ (newarray.typeOf .boolean).toString) = some c := h
theorem xw_t0 : newarray.typeOf .int = xtk 0 := rfl
theorem xw_t1 : newarray.typeOf .long = xtk 1 := rfl
theorem xw_t2 : newarray.typeOf .boolean = xtk 2 := rfl
theorem xw_d4 (N : Nat) (cA : ClassId) : vp_cell cA (N, .inl (fun _ => 0)) = arrV cA N (fun _ => defaultValue (newarray.typeOf .int)) := rfl
theorem xw_d8 (N : Nat) (cA : ClassId) : vp_cell cA (N, .inr (.inl (fun _ => 0))) = arrV cA N (fun _ => defaultValue (newarray.typeOf .long)) := rfl
theorem xw_d1 (N : Nat) (cA : ClassId) : vp_cell cA (N, .inl (fun _ => 0)) = arrV cA N (fun _ => defaultValue (newarray.typeOf .boolean)) := rfl
theorem xw_b4 {N : Nat} (h : N ≤ 65536) : N * componentBytes (newarray.typeOf .int) ≤ 536870912 := by
  have h2 : componentBytes (newarray.typeOf .int) = 4 := rfl
  rw [h2]; omega
theorem xw_b8 {N : Nat} (h : N ≤ 65536) : N * componentBytes (newarray.typeOf .long) ≤ 536870912 := by
  have h2 : componentBytes (newarray.typeOf .long) = 8 := rfl
  rw [h2]; omega
theorem xw_b1 {N : Nat} (h : N ≤ 65536) : N * componentBytes (newarray.typeOf .boolean) ≤ 536870912 := by
  have h2 : componentBytes (newarray.typeOf .boolean) = 1 := rfl
  rw [h2]; omega
set_option maxRecDepth 100000 in
theorem xw_oi : Cond.instanceMethod Lib.objectInit ∈ xws := xwd_in (p := 94) rfl rfl
set_option maxRecDepth 100000 in
theorem xw_oc : Cond.code Lib.objectInit ⟨#[0xb1]⟩ 1 none ∈ xws := xwd_in (p := 95) rfl rfl
/-- an object of the heap is of one of the eleven classes; an array of one of the eight kinds -/
theorem xno99 {p : Program} {R : Room} {s : State} {m : MethodId} {args : Array Value} {meth : Method} {c : Code} {V : xV} {D : va_G} {cy : Nat → ClassId} {n0 j a : Nat} {h : xH} {H : Heap} {locs : List Loc} {fs : List Value} (P : xpt D cy n0 s.heap h H locs) (_ : xc p R s m args meth c V D cy n0 j) (ha : h.1 a = some (.inr (99, fs))) : False := by
  obtain ⟨r, h1, -⟩ := P.1 a _ ha
  have h1 : vwCl[99]? = some r := h1
  cases h1
section XN
variable {p : Program} {l : Launch} {e : Env} {R : Room} {s : State} {m : MethodId} {args : Array Value} {below : List Frame} {meth : Method} {c : Code} {Q : State → Prop}
variable {pc j n0 c0 k0 pc' : Nat} {st st' : List Value} {D : va_G} {cy : Nat → ClassId} {V : xV} {h h' : xH} {lv lv' : xL}
theorem xn_aconst_null (C : xc p R s m args meth c V D cy n0 j) (hd : decode (xcd j) pc = .ok (.aconst_null, 1)) (hs : xin V j pc lv st h (.aconst_null) = some (.inl (pc', lv', st', h'))) (K : xgo p l e R s m args below meth c Q D cy n0 c0 k0 j pc' lv' st' h') : xgo p l e R s m args below meth c Q D cy n0 c0 k0 j pc lv st h := by
  dsimp only [xin, xnx] at hs
  cases hs; intro ls H locs P hl hc hk
  exact lv_null C.1 C.2.1 hd (K ls H locs P hl hc hk)
theorem xn_iconst (C : xc p R s m args meth c V D cy n0 j) {n : Int} (hd : decode (xcd j) pc = .ok (.iconst n, 1)) (hs : xin V j pc lv st h (.iconst n) = some (.inl (pc', lv', st', h'))) (K : xgo p l e R s m args below meth c Q D cy n0 c0 k0 j pc' lv' st' h') : xgo p l e R s m args below meth c Q D cy n0 c0 k0 j pc lv st h := by
  dsimp only [xin, xnx] at hs
  cases hs; intro ls H locs P hl hc hk
  exact lv_iconst C.1 C.2.1 hd rfl (K ls H locs P hl hc hk)
theorem xn_bipush (C : xc p R s m args meth c V D cy n0 j) {n : Int} (hd : decode (xcd j) pc = .ok (.bipush n, 2)) (hs : xin V j pc lv st h (.bipush n) = some (.inl (pc', lv', st', h'))) (K : xgo p l e R s m args below meth c Q D cy n0 c0 k0 j pc' lv' st' h') : xgo p l e R s m args below meth c Q D cy n0 c0 k0 j pc lv st h := by
  dsimp only [xin, xnx] at hs
  cases hs; intro ls H locs P hl hc hk
  exact lv_bipush C.1 C.2.1 hd rfl (K ls H locs P hl hc hk)
theorem xn_sipush (C : xc p R s m args meth c V D cy n0 j) {n : Int} (hd : decode (xcd j) pc = .ok (.sipush n, 3)) (hs : xin V j pc lv st h (.sipush n) = some (.inl (pc', lv', st', h'))) (K : xgo p l e R s m args below meth c Q D cy n0 c0 k0 j pc' lv' st' h') : xgo p l e R s m args below meth c Q D cy n0 c0 k0 j pc lv st h := by
  dsimp only [xin, xnx] at hs
  cases hs; intro ls H locs P hl hc hk
  exact lv_sipush C.1 C.2.1 hd rfl (K ls H locs P hl hc hk)
theorem xn_lconst (C : xc p R s m args meth c V D cy n0 j) {n : Fin 2} (hd : decode (xcd j) pc = .ok (.lconst n, 1)) (hs : xin V j pc lv st h (.lconst n) = some (.inl (pc', lv', st', h'))) (K : xgo p l e R s m args below meth c Q D cy n0 c0 k0 j pc' lv' st' h') : xgo p l e R s m args below meth c Q D cy n0 c0 k0 j pc lv st h := by
  dsimp only [xin, xnx] at hs
  cases hs; intro ls H locs P hl hc hk
  exact lv_lconst C.1 C.2.1 hd rfl (K ls H locs P hl hc hk)
theorem xn_iload_n (C : xc p R s m args meth c V D cy n0 j) {k : Fin 4} (hd : decode (xcd j) pc = .ok (.iload_n k, 1)) (hs : xin V j pc lv st h (.iload_n k) = some (.inl (pc', lv', st', h'))) (K : xgo p l e R s m args below meth c Q D cy n0 c0 k0 j pc' lv' st' h') : xgo p l e R s m args below meth c Q D cy n0 c0 k0 j pc lv st h := by
  dsimp only [xin] at hs
  unfold xil at hs
  split at hs
  next x q => unfold xnx at hs; cases hs; intro ls H locs P hl hc hk; exact lv_iload_n C.1 C.2.1 hd rfl (xlk_at hl q) (K ls H locs P hl hc hk)
  next => cases hs
theorem xn_iload (C : xc p R s m args meth c V D cy n0 j) {k : Nat} (hd : decode (xcd j) pc = .ok (.iload k, 2)) (hs : xin V j pc lv st h (.iload k) = some (.inl (pc', lv', st', h'))) (K : xgo p l e R s m args below meth c Q D cy n0 c0 k0 j pc' lv' st' h') : xgo p l e R s m args below meth c Q D cy n0 c0 k0 j pc lv st h := by
  dsimp only [xin] at hs
  unfold xil at hs
  split at hs
  next x q => unfold xnx at hs; cases hs; intro ls H locs P hl hc hk; exact lv_iload C.1 C.2.1 hd (xlk_at hl q) (K ls H locs P hl hc hk)
  next => cases hs
theorem xn_lload_n (C : xc p R s m args meth c V D cy n0 j) {k : Fin 4} (hd : decode (xcd j) pc = .ok (.lload_n k, 1)) (hs : xin V j pc lv st h (.lload_n k) = some (.inl (pc', lv', st', h'))) (K : xgo p l e R s m args below meth c Q D cy n0 c0 k0 j pc' lv' st' h') : xgo p l e R s m args below meth c Q D cy n0 c0 k0 j pc lv st h := by
  dsimp only [xin] at hs
  unfold xll at hs
  split at hs
  next x q => unfold xnx at hs; cases hs; intro ls H locs P hl hc hk; exact lv_lload_n C.1 C.2.1 hd rfl (xlk_at hl q) (K ls H locs P hl hc hk)
  next => cases hs
theorem xn_lload (C : xc p R s m args meth c V D cy n0 j) {k : Nat} (hd : decode (xcd j) pc = .ok (.lload k, 2)) (hs : xin V j pc lv st h (.lload k) = some (.inl (pc', lv', st', h'))) (K : xgo p l e R s m args below meth c Q D cy n0 c0 k0 j pc' lv' st' h') : xgo p l e R s m args below meth c Q D cy n0 c0 k0 j pc lv st h := by
  dsimp only [xin] at hs
  unfold xll at hs
  split at hs
  next x q => unfold xnx at hs; cases hs; intro ls H locs P hl hc hk; exact lv_lload C.1 C.2.1 hd (xlk_at hl q) (K ls H locs P hl hc hk)
  next => cases hs
theorem xn_aload_n (C : xc p R s m args meth c V D cy n0 j) {k : Fin 4} (hd : decode (xcd j) pc = .ok (.aload_n k, 1)) (hs : xin V j pc lv st h (.aload_n k) = some (.inl (pc', lv', st', h'))) (K : xgo p l e R s m args below meth c Q D cy n0 c0 k0 j pc' lv' st' h') : xgo p l e R s m args below meth c Q D cy n0 c0 k0 j pc lv st h := by
  dsimp only [xin] at hs
  unfold xal at hs
  split at hs
  next x q => unfold xnx at hs; cases hs; intro ls H locs P hl hc hk; exact lv_aload_n C.1 C.2.1 hd rfl (xlk_at hl q) (K ls H locs P hl hc hk)
  next q => unfold xnx at hs; cases hs; intro ls H locs P hl hc hk; exact lv_aload_nN C.1 C.2.1 hd rfl (xlk_at hl q) (K ls H locs P hl hc hk)
  next => cases hs
theorem xn_aload (C : xc p R s m args meth c V D cy n0 j) {k : Nat} (hd : decode (xcd j) pc = .ok (.aload k, 2)) (hs : xin V j pc lv st h (.aload k) = some (.inl (pc', lv', st', h'))) (K : xgo p l e R s m args below meth c Q D cy n0 c0 k0 j pc' lv' st' h') : xgo p l e R s m args below meth c Q D cy n0 c0 k0 j pc lv st h := by
  dsimp only [xin] at hs
  unfold xal at hs
  split at hs
  next x q => unfold xnx at hs; cases hs; intro ls H locs P hl hc hk; exact lv_aload C.1 C.2.1 hd (xlk_at hl q) (K ls H locs P hl hc hk)
  next q => unfold xnx at hs; cases hs; intro ls H locs P hl hc hk; exact lv_aloadN C.1 C.2.1 hd (xlk_at hl q) (K ls H locs P hl hc hk)
  next => cases hs
theorem xn_istore_n (C : xc p R s m args meth c V D cy n0 j) {k : Fin 4} (hd : decode (xcd j) pc = .ok (.istore_n k, 1)) (hs : xin V j pc lv st h (.istore_n k) = some (.inl (pc', lv', st', h'))) (K : xgo p l e R s m args below meth c Q D cy n0 c0 k0 j pc' lv' st' h') : xgo p l e R s m args below meth c Q D cy n0 c0 k0 j pc lv st h := by
  dsimp only [xin] at hs
  unfold xis at hs
  split at hs
  next x r => (split at hs
               · next hi => unfold xnx at hs; cases hs; intro ls H locs P hl hc hk; exact lv_istore_n C.1 C.2.1 hd rfl hl hi rfl (fun ls hl => K ls H locs P hl hc hk)
               · cases hs)
  next => cases hs
theorem xn_istore (C : xc p R s m args meth c V D cy n0 j) {k : Nat} (hd : decode (xcd j) pc = .ok (.istore k, 2)) (hs : xin V j pc lv st h (.istore k) = some (.inl (pc', lv', st', h'))) (K : xgo p l e R s m args below meth c Q D cy n0 c0 k0 j pc' lv' st' h') : xgo p l e R s m args below meth c Q D cy n0 c0 k0 j pc lv st h := by
  dsimp only [xin] at hs
  unfold xis at hs
  split at hs
  next x r => (split at hs
               · next hi => unfold xnx at hs; cases hs; intro ls H locs P hl hc hk; exact lv_istore C.1 C.2.1 hd hl hi rfl (fun ls hl => K ls H locs P hl hc hk)
               · cases hs)
  next => cases hs
theorem xn_lstore_n (C : xc p R s m args meth c V D cy n0 j) {k : Fin 4} (hd : decode (xcd j) pc = .ok (.lstore_n k, 1)) (hs : xin V j pc lv st h (.lstore_n k) = some (.inl (pc', lv', st', h'))) (K : xgo p l e R s m args below meth c Q D cy n0 c0 k0 j pc' lv' st' h') : xgo p l e R s m args below meth c Q D cy n0 c0 k0 j pc lv st h := by
  dsimp only [xin] at hs
  unfold xls at hs
  split at hs
  next x r => (split at hs
               · next hi => unfold xnx at hs; cases hs; intro ls H locs P hl hc hk; exact lv_lstore_n C.1 C.2.1 hd rfl hl hi rfl (fun ls hl => K ls H locs P hl hc hk)
               · cases hs)
  next => cases hs
theorem xn_lstore (C : xc p R s m args meth c V D cy n0 j) {k : Nat} (hd : decode (xcd j) pc = .ok (.lstore k, 2)) (hs : xin V j pc lv st h (.lstore k) = some (.inl (pc', lv', st', h'))) (K : xgo p l e R s m args below meth c Q D cy n0 c0 k0 j pc' lv' st' h') : xgo p l e R s m args below meth c Q D cy n0 c0 k0 j pc lv st h := by
  dsimp only [xin] at hs
  unfold xls at hs
  split at hs
  next x r => (split at hs
               · next hi => unfold xnx at hs; cases hs; intro ls H locs P hl hc hk; exact lv_lstore C.1 C.2.1 hd hl hi rfl (fun ls hl => K ls H locs P hl hc hk)
               · cases hs)
  next => cases hs
theorem xn_astore_n (C : xc p R s m args meth c V D cy n0 j) {k : Fin 4} (hd : decode (xcd j) pc = .ok (.astore_n k, 1)) (hs : xin V j pc lv st h (.astore_n k) = some (.inl (pc', lv', st', h'))) (K : xgo p l e R s m args below meth c Q D cy n0 c0 k0 j pc' lv' st' h') : xgo p l e R s m args below meth c Q D cy n0 c0 k0 j pc lv st h := by
  dsimp only [xin] at hs
  unfold xas at hs
  split at hs
  next => (split at hs
           · next hi => unfold xnx at hs; cases hs; intro ls H locs P hl hc hk; exact lv_astore_n C.1 C.2.1 hd rfl hl hi rfl (fun ls hl => K ls H locs P hl hc hk)
           · cases hs)
  next => (split at hs
           · next hi => unfold xnx at hs; cases hs; intro ls H locs P hl hc hk; exact lv_astore_nN C.1 C.2.1 hd rfl hl hi rfl (fun ls hl => K ls H locs P hl hc hk)
           · cases hs)
  next => cases hs
theorem xn_astore (C : xc p R s m args meth c V D cy n0 j) {k : Nat} (hd : decode (xcd j) pc = .ok (.astore k, 2)) (hs : xin V j pc lv st h (.astore k) = some (.inl (pc', lv', st', h'))) (K : xgo p l e R s m args below meth c Q D cy n0 c0 k0 j pc' lv' st' h') : xgo p l e R s m args below meth c Q D cy n0 c0 k0 j pc lv st h := by
  dsimp only [xin] at hs
  unfold xas at hs
  split at hs
  next => (split at hs
           · next hi => unfold xnx at hs; cases hs; intro ls H locs P hl hc hk; exact lv_astore C.1 C.2.1 hd hl hi rfl (fun ls hl => K ls H locs P hl hc hk)
           · cases hs)
  next => (split at hs
           · next hi => unfold xnx at hs; cases hs; intro ls H locs P hl hc hk; exact lv_astoreN C.1 C.2.1 hd hl hi rfl (fun ls hl => K ls H locs P hl hc hk)
           · cases hs)
  next => cases hs
theorem xn_ldc (C : xc p R s m args meth c V D cy n0 j) {i : Nat} (hd : decode (xcd j) pc = .ok (.ldc i, 2)) (hs : xin V j pc lv st h (.ldc i) = some (.inl (pc', lv', st', h'))) (K : xgo p l e R s m args below meth c Q D cy n0 c0 k0 j pc' lv' st' h') : xgo p l e R s m args below meth c Q D cy n0 c0 k0 j pc lv st h := by
  dsimp only [xin] at hs
  split at hs
  next p0 v q => unfold xnx at hs; cases hs; intro ls H locs P hl hc hk; exact lv_ldc C.1 C.2.1 C.2.2.2.2.2.1 (C.2.2.2.2.2.2.1 _ (xwd_in (p := p0) (xpk_ok _ _ _ q) rfl)) hd (K ls H locs P hl hc hk)
  next => cases hs
theorem xn_ldc_w (C : xc p R s m args meth c V D cy n0 j) {i : Nat} (hd : decode (xcd j) pc = .ok (.ldc_w i, 3)) (hs : xin V j pc lv st h (.ldc_w i) = some (.inl (pc', lv', st', h'))) (K : xgo p l e R s m args below meth c Q D cy n0 c0 k0 j pc' lv' st' h') : xgo p l e R s m args below meth c Q D cy n0 c0 k0 j pc lv st h := by
  dsimp only [xin] at hs
  split at hs
  next p0 v q => unfold xnx at hs; cases hs; intro ls H locs P hl hc hk; exact lv_ldcw C.1 C.2.1 C.2.2.2.2.2.1 (C.2.2.2.2.2.2.1 _ (xwd_in (p := p0) (xpk_ok _ _ _ q) rfl)) hd (K ls H locs P hl hc hk)
  next => cases hs
theorem xn_ldc2_w (C : xc p R s m args meth c V D cy n0 j) {i : Nat} (hd : decode (xcd j) pc = .ok (.ldc2_w i, 3)) (hs : xin V j pc lv st h (.ldc2_w i) = some (.inl (pc', lv', st', h'))) (K : xgo p l e R s m args below meth c Q D cy n0 c0 k0 j pc' lv' st' h') : xgo p l e R s m args below meth c Q D cy n0 c0 k0 j pc lv st h := by
  dsimp only [xin] at hs
  split at hs
  next p0 v q => unfold xnx at hs; cases hs; intro ls H locs P hl hc hk; exact lv_ldc2 C.1 C.2.1 C.2.2.2.2.2.1 (C.2.2.2.2.2.2.1 _ (xwd_in (p := p0) (xpk_ok _ _ _ q) rfl)) hd (K ls H locs P hl hc hk)
  next => cases hs
theorem xn_iinc (C : xc p R s m args meth c V D cy n0 j) {i : Nat} {n : Int} (hd : decode (xcd j) pc = .ok (.iinc i n, 3)) (hs : xin V j pc lv st h (.iinc i n) = some (.inl (pc', lv', st', h'))) (K : xgo p l e R s m args below meth c Q D cy n0 c0 k0 j pc' lv' st' h') : xgo p l e R s m args below meth c Q D cy n0 c0 k0 j pc lv st h := by
  dsimp only [xin] at hs
  split at hs
  next x q => (split at hs
               · next hi => obtain ⟨k, hk9⟩ := xlk_ix q; unfold xnx at hs; cases hs; intro ls H locs P hl hc hk; exact lv_iinc C.1 C.2.1 hd hl hk9 rfl hi rfl (fun ls hl => K ls H locs P hl hc hk)
               · cases hs)
  next => cases hs
theorem xn_iadd (C : xc p R s m args meth c V D cy n0 j) (hd : decode (xcd j) pc = .ok (.iadd, 1)) (hs : xin V j pc lv st h (.iadd) = some (.inl (pc', lv', st', h'))) (K : xgo p l e R s m args below meth c Q D cy n0 c0 k0 j pc' lv' st' h') : xgo p l e R s m args below meth c Q D cy n0 c0 k0 j pc lv st h := by
  dsimp only [xin] at hs
  split at hs
  · unfold xnx at hs; cases hs; intro ls H locs P hl hc hk
    exact lv_iadd C.1 C.2.1 hd (K ls H locs P hl hc hk)
  · cases hs
theorem xn_isub (C : xc p R s m args meth c V D cy n0 j) (hd : decode (xcd j) pc = .ok (.isub, 1)) (hs : xin V j pc lv st h (.isub) = some (.inl (pc', lv', st', h'))) (K : xgo p l e R s m args below meth c Q D cy n0 c0 k0 j pc' lv' st' h') : xgo p l e R s m args below meth c Q D cy n0 c0 k0 j pc lv st h := by
  dsimp only [xin] at hs
  split at hs
  · unfold xnx at hs; cases hs; intro ls H locs P hl hc hk
    exact lv_isub C.1 C.2.1 hd (K ls H locs P hl hc hk)
  · cases hs
theorem xn_imul (C : xc p R s m args meth c V D cy n0 j) (hd : decode (xcd j) pc = .ok (.imul, 1)) (hs : xin V j pc lv st h (.imul) = some (.inl (pc', lv', st', h'))) (K : xgo p l e R s m args below meth c Q D cy n0 c0 k0 j pc' lv' st' h') : xgo p l e R s m args below meth c Q D cy n0 c0 k0 j pc lv st h := by
  dsimp only [xin] at hs
  split at hs
  · unfold xnx at hs; cases hs; intro ls H locs P hl hc hk
    exact lv_imul C.1 C.2.1 hd (K ls H locs P hl hc hk)
  · cases hs
theorem xn_iand (C : xc p R s m args meth c V D cy n0 j) (hd : decode (xcd j) pc = .ok (.iand, 1)) (hs : xin V j pc lv st h (.iand) = some (.inl (pc', lv', st', h'))) (K : xgo p l e R s m args below meth c Q D cy n0 c0 k0 j pc' lv' st' h') : xgo p l e R s m args below meth c Q D cy n0 c0 k0 j pc lv st h := by
  dsimp only [xin] at hs
  split at hs
  · unfold xnx at hs; cases hs; intro ls H locs P hl hc hk
    exact lv_iand C.1 C.2.1 hd (K ls H locs P hl hc hk)
  · cases hs
theorem xn_ineg (C : xc p R s m args meth c V D cy n0 j) (hd : decode (xcd j) pc = .ok (.ineg, 1)) (hs : xin V j pc lv st h (.ineg) = some (.inl (pc', lv', st', h'))) (K : xgo p l e R s m args below meth c Q D cy n0 c0 k0 j pc' lv' st' h') : xgo p l e R s m args below meth c Q D cy n0 c0 k0 j pc lv st h := by
  dsimp only [xin] at hs
  split at hs
  · unfold xnx at hs; cases hs; intro ls H locs P hl hc hk
    exact lv_ineg C.1 C.2.1 hd (K ls H locs P hl hc hk)
  · cases hs
theorem xn_ladd (C : xc p R s m args meth c V D cy n0 j) (hd : decode (xcd j) pc = .ok (.ladd, 1)) (hs : xin V j pc lv st h (.ladd) = some (.inl (pc', lv', st', h'))) (K : xgo p l e R s m args below meth c Q D cy n0 c0 k0 j pc' lv' st' h') : xgo p l e R s m args below meth c Q D cy n0 c0 k0 j pc lv st h := by
  dsimp only [xin] at hs
  split at hs
  · unfold xnx at hs; cases hs; intro ls H locs P hl hc hk
    exact lv_ladd C.1 C.2.1 hd (K ls H locs P hl hc hk)
  · cases hs
theorem xn_lsub (C : xc p R s m args meth c V D cy n0 j) (hd : decode (xcd j) pc = .ok (.lsub, 1)) (hs : xin V j pc lv st h (.lsub) = some (.inl (pc', lv', st', h'))) (K : xgo p l e R s m args below meth c Q D cy n0 c0 k0 j pc' lv' st' h') : xgo p l e R s m args below meth c Q D cy n0 c0 k0 j pc lv st h := by
  dsimp only [xin] at hs
  split at hs
  · unfold xnx at hs; cases hs; intro ls H locs P hl hc hk
    exact lv_lsub C.1 C.2.1 hd (K ls H locs P hl hc hk)
  · cases hs
theorem xn_lmul (C : xc p R s m args meth c V D cy n0 j) (hd : decode (xcd j) pc = .ok (.lmul, 1)) (hs : xin V j pc lv st h (.lmul) = some (.inl (pc', lv', st', h'))) (K : xgo p l e R s m args below meth c Q D cy n0 c0 k0 j pc' lv' st' h') : xgo p l e R s m args below meth c Q D cy n0 c0 k0 j pc lv st h := by
  dsimp only [xin] at hs
  split at hs
  · unfold xnx at hs; cases hs; intro ls H locs P hl hc hk
    exact lv_lmul C.1 C.2.1 hd (K ls H locs P hl hc hk)
  · cases hs
theorem xn_lneg (C : xc p R s m args meth c V D cy n0 j) (hd : decode (xcd j) pc = .ok (.lneg, 1)) (hs : xin V j pc lv st h (.lneg) = some (.inl (pc', lv', st', h'))) (K : xgo p l e R s m args below meth c Q D cy n0 c0 k0 j pc' lv' st' h') : xgo p l e R s m args below meth c Q D cy n0 c0 k0 j pc lv st h := by
  dsimp only [xin] at hs
  split at hs
  · unfold xnx at hs; cases hs; intro ls H locs P hl hc hk
    exact lv_lneg C.1 C.2.1 hd (K ls H locs P hl hc hk)
  · cases hs
theorem xn_ishr (C : xc p R s m args meth c V D cy n0 j) (hd : decode (xcd j) pc = .ok (.ishr, 1)) (hs : xin V j pc lv st h (.ishr) = some (.inl (pc', lv', st', h'))) (K : xgo p l e R s m args below meth c Q D cy n0 c0 k0 j pc' lv' st' h') : xgo p l e R s m args below meth c Q D cy n0 c0 k0 j pc lv st h := by
  dsimp only [xin] at hs
  split at hs
  · unfold xnx at hs; cases hs; intro ls H locs P hl hc hk
    exact lv_ishr C.1 C.2.1 hd (K ls H locs P hl hc hk)
  · cases hs
theorem xn_lcmp (C : xc p R s m args meth c V D cy n0 j) (hd : decode (xcd j) pc = .ok (.lcmp, 1)) (hs : xin V j pc lv st h (.lcmp) = some (.inl (pc', lv', st', h'))) (K : xgo p l e R s m args below meth c Q D cy n0 c0 k0 j pc' lv' st' h') : xgo p l e R s m args below meth c Q D cy n0 c0 k0 j pc lv st h := by
  dsimp only [xin] at hs
  split at hs
  · unfold xnx at hs; cases hs; intro ls H locs P hl hc hk
    exact W.lcmp C.1 C.2.1 hd (K ls H locs P hl hc hk)
  · cases hs
theorem xn_iushr (C : xc p R s m args meth c V D cy n0 j) (hd : decode (xcd j) pc = .ok (.iushr, 1)) (hs : xin V j pc lv st h (.iushr) = some (.inl (pc', lv', st', h'))) (K : xgo p l e R s m args below meth c Q D cy n0 c0 k0 j pc' lv' st' h') : xgo p l e R s m args below meth c Q D cy n0 c0 k0 j pc lv st h := by
  dsimp only [xin] at hs
  split at hs
  · unfold xnx at hs; cases hs; intro ls H locs P hl hc hk
    exact lv_iushr C.1 C.2.1 hd rfl (K ls H locs P hl hc hk)
  · cases hs
theorem xn_lshr (C : xc p R s m args meth c V D cy n0 j) (hd : decode (xcd j) pc = .ok (.lshr, 1)) (hs : xin V j pc lv st h (.lshr) = some (.inl (pc', lv', st', h'))) (K : xgo p l e R s m args below meth c Q D cy n0 c0 k0 j pc' lv' st' h') : xgo p l e R s m args below meth c Q D cy n0 c0 k0 j pc lv st h := by
  dsimp only [xin] at hs
  split at hs
  · unfold xnx at hs; cases hs; intro ls H locs P hl hc hk
    exact lv_lshr C.1 C.2.1 hd rfl (K ls H locs P hl hc hk)
  · cases hs
theorem xn_i2l (C : xc p R s m args meth c V D cy n0 j) (hd : decode (xcd j) pc = .ok (.i2l, 1)) (hs : xin V j pc lv st h (.i2l) = some (.inl (pc', lv', st', h'))) (K : xgo p l e R s m args below meth c Q D cy n0 c0 k0 j pc' lv' st' h') : xgo p l e R s m args below meth c Q D cy n0 c0 k0 j pc lv st h := by
  dsimp only [xin] at hs
  split at hs
  · unfold xnx at hs; cases hs; intro ls H locs P hl hc hk
    exact lv_i2l C.1 C.2.1 hd rfl (K ls H locs P hl hc hk)
  · cases hs
theorem xn_l2i (C : xc p R s m args meth c V D cy n0 j) (hd : decode (xcd j) pc = .ok (.l2i, 1)) (hs : xin V j pc lv st h (.l2i) = some (.inl (pc', lv', st', h'))) (K : xgo p l e R s m args below meth c Q D cy n0 c0 k0 j pc' lv' st' h') : xgo p l e R s m args below meth c Q D cy n0 c0 k0 j pc lv st h := by
  dsimp only [xin] at hs
  split at hs
  · unfold xnx at hs; cases hs; intro ls H locs P hl hc hk
    exact lv_l2i C.1 C.2.1 hd rfl (K ls H locs P hl hc hk)
  · cases hs
theorem xn_i2s (C : xc p R s m args meth c V D cy n0 j) (hd : decode (xcd j) pc = .ok (.i2s, 1)) (hs : xin V j pc lv st h (.i2s) = some (.inl (pc', lv', st', h'))) (K : xgo p l e R s m args below meth c Q D cy n0 c0 k0 j pc' lv' st' h') : xgo p l e R s m args below meth c Q D cy n0 c0 k0 j pc lv st h := by
  dsimp only [xin] at hs
  split at hs
  · unfold xnx at hs; cases hs; intro ls H locs P hl hc hk
    exact lv_i2s C.1 C.2.1 hd rfl (K ls H locs P hl hc hk)
  · cases hs
theorem xn_idiv (C : xc p R s m args meth c V D cy n0 j) (hd : decode (xcd j) pc = .ok (.idiv, 1)) (hs : xin V j pc lv st h (.idiv) = some (.inl (pc', lv', st', h'))) (K : xgo p l e R s m args below meth c Q D cy n0 c0 k0 j pc' lv' st' h') : xgo p l e R s m args below meth c Q D cy n0 c0 k0 j pc lv st h := by
  dsimp only [xin] at hs
  split at hs
  · split at hs
    · cases hs
    · next q => unfold xnx at hs; cases hs; intro ls H locs P hl hc hk; exact lv_idiv C.1 C.2.1 hd q (K ls H locs P hl hc hk)
  · cases hs
theorem xn_irem (C : xc p R s m args meth c V D cy n0 j) (hd : decode (xcd j) pc = .ok (.irem, 1)) (hs : xin V j pc lv st h (.irem) = some (.inl (pc', lv', st', h'))) (K : xgo p l e R s m args below meth c Q D cy n0 c0 k0 j pc' lv' st' h') : xgo p l e R s m args below meth c Q D cy n0 c0 k0 j pc lv st h := by
  dsimp only [xin] at hs
  split at hs
  · split at hs
    · cases hs
    · next q => unfold xnx at hs; cases hs; intro ls H locs P hl hc hk; exact lv_irem C.1 C.2.1 hd q (K ls H locs P hl hc hk)
  · cases hs
theorem xn_ldiv (C : xc p R s m args meth c V D cy n0 j) (hd : decode (xcd j) pc = .ok (.ldiv, 1)) (hs : xin V j pc lv st h (.ldiv) = some (.inl (pc', lv', st', h'))) (K : xgo p l e R s m args below meth c Q D cy n0 c0 k0 j pc' lv' st' h') : xgo p l e R s m args below meth c Q D cy n0 c0 k0 j pc lv st h := by
  dsimp only [xin] at hs
  split at hs
  · split at hs
    · cases hs
    · next q => unfold xnx at hs; cases hs; intro ls H locs P hl hc hk; exact lv_ldiv C.1 C.2.1 hd q (K ls H locs P hl hc hk)
  · cases hs
theorem xn_dup (C : xc p R s m args meth c V D cy n0 j) (hd : decode (xcd j) pc = .ok (.dup, 1)) (hs : xin V j pc lv st h (.dup) = some (.inl (pc', lv', st', h'))) (K : xgo p l e R s m args below meth c Q D cy n0 c0 k0 j pc' lv' st' h') : xgo p l e R s m args below meth c Q D cy n0 c0 k0 j pc lv st h := by
  dsimp only [xin] at hs
  split at hs
  · split at hs
    · next q => unfold xnx at hs; cases hs; intro ls H locs P hl hc hk; exact lv_dup C.1 C.2.1 hd q (K ls H locs P hl hc hk)
    · cases hs
  · cases hs
theorem xn_pop (C : xc p R s m args meth c V D cy n0 j) (hd : decode (xcd j) pc = .ok (.pop, 1)) (hs : xin V j pc lv st h (.pop) = some (.inl (pc', lv', st', h'))) (K : xgo p l e R s m args below meth c Q D cy n0 c0 k0 j pc' lv' st' h') : xgo p l e R s m args below meth c Q D cy n0 c0 k0 j pc lv st h := by
  dsimp only [xin] at hs
  split at hs
  · split at hs
    · next q => unfold xnx at hs; cases hs; intro ls H locs P hl hc hk; exact lv_pop C.1 C.2.1 hd q (K ls H locs P hl hc hk)
    · cases hs
  · cases hs
theorem xn_dup2 (C : xc p R s m args meth c V D cy n0 j) (hd : decode (xcd j) pc = .ok (.dup2, 1)) (hs : xin V j pc lv st h (.dup2) = some (.inl (pc', lv', st', h'))) (K : xgo p l e R s m args below meth c Q D cy n0 c0 k0 j pc' lv' st' h') : xgo p l e R s m args below meth c Q D cy n0 c0 k0 j pc lv st h := by
  dsimp only [xin] at hs
  split at hs
  · split at hs
    · next q => unfold xnx at hs; cases hs; intro ls H locs P hl hc hk; exact lv_dup2_11 C.1 C.2.1 hd q.1 q.2 (K ls H locs P hl hc hk)
    · cases hs
  · cases hs
theorem xn_goto (C : xc p R s m args meth c V D cy n0 j) {off : Int} (hd : decode (xcd j) pc = .ok (.goto off, 3)) (hs : xin V j pc lv st h (.goto off) = some (.inl (pc', lv', st', h'))) (K : xgo p l e R s m args below meth c Q D cy n0 c0 k0 j pc' lv' st' h') : xgo p l e R s m args below meth c Q D cy n0 c0 k0 j pc lv st h := by
  dsimp only [xin] at hs
  split at hs
  next t q => unfold xnx at hs; cases hs; intro ls H locs P hl hc hk; exact lv_goto C.1 C.2.1 hd (xtg_ok q) (K ls H locs P hl hc hk)
  next => cases hs
theorem xn_if_eq (C : xc p R s m args meth c V D cy n0 j) {off : Int} (hd : decode (xcd j) pc = .ok (.ifCond .eq off, 3)) (hs : xin V j pc lv st h (.ifCond .eq off) = some (.inl (pc', lv', st', h'))) (K : xgo p l e R s m args below meth c Q D cy n0 c0 k0 j pc' lv' st' h') : xgo p l e R s m args below meth c Q D cy n0 c0 k0 j pc lv st h := by
  dsimp only [xin] at hs
  split at hs
  · unfold xbr at hs
    split at hs
    next t qt => (split at hs
                  · next q => unfold xnx at hs; cases hs; intro ls H locs P hl hc hk; exact lv_if_eq C.1 C.2.1 hd (xtg_ok qt) (fun _ => K ls H locs P hl hc hk) (fun q2 => absurd q q2)
                  · next q => unfold xnx at hs; cases hs; intro ls H locs P hl hc hk; exact lv_if_eq C.1 C.2.1 hd (xtg_ok qt) (fun q2 => absurd q2 q) (fun _ => K ls H locs P hl hc hk))
    next => cases hs
  · cases hs
theorem xn_icmp_eq (C : xc p R s m args meth c V D cy n0 j) {off : Int} (hd : decode (xcd j) pc = .ok (.if_icmp .eq off, 3)) (hs : xin V j pc lv st h (.if_icmp .eq off) = some (.inl (pc', lv', st', h'))) (K : xgo p l e R s m args below meth c Q D cy n0 c0 k0 j pc' lv' st' h') : xgo p l e R s m args below meth c Q D cy n0 c0 k0 j pc lv st h := by
  dsimp only [xin] at hs
  split at hs
  · unfold xbr at hs
    split at hs
    next t qt => (split at hs
                  · next q => unfold xnx at hs; cases hs; intro ls H locs P hl hc hk; exact lv_icmp_eq C.1 C.2.1 hd (xtg_ok qt) (fun _ => K ls H locs P hl hc hk) (fun q2 => absurd q q2)
                  · next q => unfold xnx at hs; cases hs; intro ls H locs P hl hc hk; exact lv_icmp_eq C.1 C.2.1 hd (xtg_ok qt) (fun q2 => absurd q2 q) (fun _ => K ls H locs P hl hc hk))
    next => cases hs
  · cases hs
theorem xn_if_ne (C : xc p R s m args meth c V D cy n0 j) {off : Int} (hd : decode (xcd j) pc = .ok (.ifCond .ne off, 3)) (hs : xin V j pc lv st h (.ifCond .ne off) = some (.inl (pc', lv', st', h'))) (K : xgo p l e R s m args below meth c Q D cy n0 c0 k0 j pc' lv' st' h') : xgo p l e R s m args below meth c Q D cy n0 c0 k0 j pc lv st h := by
  dsimp only [xin] at hs
  split at hs
  · unfold xbr at hs
    split at hs
    next t qt => (split at hs
                  · next q => unfold xnx at hs; cases hs; intro ls H locs P hl hc hk; exact lv_if_ne C.1 C.2.1 hd (xtg_ok qt) (fun _ => K ls H locs P hl hc hk) (fun q2 => absurd q2 q)
                  · next q => unfold xnx at hs; cases hs; intro ls H locs P hl hc hk; exact lv_if_ne C.1 C.2.1 hd (xtg_ok qt) (fun q2 => absurd (Classical.not_not.mp q) q2) (fun _ => K ls H locs P hl hc hk))
    next => cases hs
  · cases hs
theorem xn_icmp_ne (C : xc p R s m args meth c V D cy n0 j) {off : Int} (hd : decode (xcd j) pc = .ok (.if_icmp .ne off, 3)) (hs : xin V j pc lv st h (.if_icmp .ne off) = some (.inl (pc', lv', st', h'))) (K : xgo p l e R s m args below meth c Q D cy n0 c0 k0 j pc' lv' st' h') : xgo p l e R s m args below meth c Q D cy n0 c0 k0 j pc lv st h := by
  dsimp only [xin] at hs
  split at hs
  · unfold xbr at hs
    split at hs
    next t qt => (split at hs
                  · next q => unfold xnx at hs; cases hs; intro ls H locs P hl hc hk; exact lv_icmp_ne C.1 C.2.1 hd (xtg_ok qt) (fun _ => K ls H locs P hl hc hk) (fun q2 => absurd q2 q)
                  · next q => unfold xnx at hs; cases hs; intro ls H locs P hl hc hk; exact lv_icmp_ne C.1 C.2.1 hd (xtg_ok qt) (fun q2 => absurd (Classical.not_not.mp q) q2) (fun _ => K ls H locs P hl hc hk))
    next => cases hs
  · cases hs
theorem xn_if_lt (C : xc p R s m args meth c V D cy n0 j) {off : Int} (hd : decode (xcd j) pc = .ok (.ifCond .lt off, 3)) (hs : xin V j pc lv st h (.ifCond .lt off) = some (.inl (pc', lv', st', h'))) (K : xgo p l e R s m args below meth c Q D cy n0 c0 k0 j pc' lv' st' h') : xgo p l e R s m args below meth c Q D cy n0 c0 k0 j pc lv st h := by
  dsimp only [xin] at hs
  split at hs
  · unfold xbr at hs
    split at hs
    next t qt => (split at hs
                  · next q => unfold xnx at hs; cases hs; intro ls H locs P hl hc hk; exact lv_if_lt C.1 C.2.1 hd (xtg_ok qt) (fun _ => K ls H locs P hl hc hk) (fun q2 => absurd q q2)
                  · next q => unfold xnx at hs; cases hs; intro ls H locs P hl hc hk; exact lv_if_lt C.1 C.2.1 hd (xtg_ok qt) (fun q2 => absurd q2 q) (fun _ => K ls H locs P hl hc hk))
    next => cases hs
  · cases hs
theorem xn_icmp_lt (C : xc p R s m args meth c V D cy n0 j) {off : Int} (hd : decode (xcd j) pc = .ok (.if_icmp .lt off, 3)) (hs : xin V j pc lv st h (.if_icmp .lt off) = some (.inl (pc', lv', st', h'))) (K : xgo p l e R s m args below meth c Q D cy n0 c0 k0 j pc' lv' st' h') : xgo p l e R s m args below meth c Q D cy n0 c0 k0 j pc lv st h := by
  dsimp only [xin] at hs
  split at hs
  · unfold xbr at hs
    split at hs
    next t qt => (split at hs
                  · next q => unfold xnx at hs; cases hs; intro ls H locs P hl hc hk; exact lv_icmp_lt C.1 C.2.1 hd (xtg_ok qt) (fun _ => K ls H locs P hl hc hk) (fun q2 => absurd q q2)
                  · next q => unfold xnx at hs; cases hs; intro ls H locs P hl hc hk; exact lv_icmp_lt C.1 C.2.1 hd (xtg_ok qt) (fun q2 => absurd q2 q) (fun _ => K ls H locs P hl hc hk))
    next => cases hs
  · cases hs
theorem xn_if_ge (C : xc p R s m args meth c V D cy n0 j) {off : Int} (hd : decode (xcd j) pc = .ok (.ifCond .ge off, 3)) (hs : xin V j pc lv st h (.ifCond .ge off) = some (.inl (pc', lv', st', h'))) (K : xgo p l e R s m args below meth c Q D cy n0 c0 k0 j pc' lv' st' h') : xgo p l e R s m args below meth c Q D cy n0 c0 k0 j pc lv st h := by
  dsimp only [xin] at hs
  split at hs
  · unfold xbr at hs
    split at hs
    next t qt => (split at hs
                  · next q => unfold xnx at hs; cases hs; intro ls H locs P hl hc hk; exact lv_if_ge C.1 C.2.1 hd (xtg_ok qt) (fun _ => K ls H locs P hl hc hk) (fun q2 => absurd q q2)
                  · next q => unfold xnx at hs; cases hs; intro ls H locs P hl hc hk; exact lv_if_ge C.1 C.2.1 hd (xtg_ok qt) (fun q2 => absurd q2 q) (fun _ => K ls H locs P hl hc hk))
    next => cases hs
  · cases hs
theorem xn_icmp_ge (C : xc p R s m args meth c V D cy n0 j) {off : Int} (hd : decode (xcd j) pc = .ok (.if_icmp .ge off, 3)) (hs : xin V j pc lv st h (.if_icmp .ge off) = some (.inl (pc', lv', st', h'))) (K : xgo p l e R s m args below meth c Q D cy n0 c0 k0 j pc' lv' st' h') : xgo p l e R s m args below meth c Q D cy n0 c0 k0 j pc lv st h := by
  dsimp only [xin] at hs
  split at hs
  · unfold xbr at hs
    split at hs
    next t qt => (split at hs
                  · next q => unfold xnx at hs; cases hs; intro ls H locs P hl hc hk; exact lv_icmp_ge C.1 C.2.1 hd (xtg_ok qt) (fun _ => K ls H locs P hl hc hk) (fun q2 => absurd q q2)
                  · next q => unfold xnx at hs; cases hs; intro ls H locs P hl hc hk; exact lv_icmp_ge C.1 C.2.1 hd (xtg_ok qt) (fun q2 => absurd q2 q) (fun _ => K ls H locs P hl hc hk))
    next => cases hs
  · cases hs
theorem xn_if_gt (C : xc p R s m args meth c V D cy n0 j) {off : Int} (hd : decode (xcd j) pc = .ok (.ifCond .gt off, 3)) (hs : xin V j pc lv st h (.ifCond .gt off) = some (.inl (pc', lv', st', h'))) (K : xgo p l e R s m args below meth c Q D cy n0 c0 k0 j pc' lv' st' h') : xgo p l e R s m args below meth c Q D cy n0 c0 k0 j pc lv st h := by
  dsimp only [xin] at hs
  split at hs
  · unfold xbr at hs
    split at hs
    next t qt => (split at hs
                  · next q => unfold xnx at hs; cases hs; intro ls H locs P hl hc hk; exact lv_if_gt C.1 C.2.1 hd (xtg_ok qt) (fun _ => K ls H locs P hl hc hk) (fun q2 => absurd q q2)
                  · next q => unfold xnx at hs; cases hs; intro ls H locs P hl hc hk; exact lv_if_gt C.1 C.2.1 hd (xtg_ok qt) (fun q2 => absurd q2 q) (fun _ => K ls H locs P hl hc hk))
    next => cases hs
  · cases hs
theorem xn_icmp_gt (C : xc p R s m args meth c V D cy n0 j) {off : Int} (hd : decode (xcd j) pc = .ok (.if_icmp .gt off, 3)) (hs : xin V j pc lv st h (.if_icmp .gt off) = some (.inl (pc', lv', st', h'))) (K : xgo p l e R s m args below meth c Q D cy n0 c0 k0 j pc' lv' st' h') : xgo p l e R s m args below meth c Q D cy n0 c0 k0 j pc lv st h := by
  dsimp only [xin] at hs
  split at hs
  · unfold xbr at hs
    split at hs
    next t qt => (split at hs
                  · next q => unfold xnx at hs; cases hs; intro ls H locs P hl hc hk; exact lv_icmp_gt C.1 C.2.1 hd (xtg_ok qt) (fun _ => K ls H locs P hl hc hk) (fun q2 => absurd q q2)
                  · next q => unfold xnx at hs; cases hs; intro ls H locs P hl hc hk; exact lv_icmp_gt C.1 C.2.1 hd (xtg_ok qt) (fun q2 => absurd q2 q) (fun _ => K ls H locs P hl hc hk))
    next => cases hs
  · cases hs
theorem xn_if_le (C : xc p R s m args meth c V D cy n0 j) {off : Int} (hd : decode (xcd j) pc = .ok (.ifCond .le off, 3)) (hs : xin V j pc lv st h (.ifCond .le off) = some (.inl (pc', lv', st', h'))) (K : xgo p l e R s m args below meth c Q D cy n0 c0 k0 j pc' lv' st' h') : xgo p l e R s m args below meth c Q D cy n0 c0 k0 j pc lv st h := by
  dsimp only [xin] at hs
  split at hs
  · unfold xbr at hs
    split at hs
    next t qt => (split at hs
                  · next q => unfold xnx at hs; cases hs; intro ls H locs P hl hc hk; exact lv_if_le C.1 C.2.1 hd (xtg_ok qt) (fun _ => K ls H locs P hl hc hk) (fun q2 => absurd q q2)
                  · next q => unfold xnx at hs; cases hs; intro ls H locs P hl hc hk; exact lv_if_le C.1 C.2.1 hd (xtg_ok qt) (fun q2 => absurd q2 q) (fun _ => K ls H locs P hl hc hk))
    next => cases hs
  · cases hs
theorem xn_icmp_le (C : xc p R s m args meth c V D cy n0 j) {off : Int} (hd : decode (xcd j) pc = .ok (.if_icmp .le off, 3)) (hs : xin V j pc lv st h (.if_icmp .le off) = some (.inl (pc', lv', st', h'))) (K : xgo p l e R s m args below meth c Q D cy n0 c0 k0 j pc' lv' st' h') : xgo p l e R s m args below meth c Q D cy n0 c0 k0 j pc lv st h := by
  dsimp only [xin] at hs
  split at hs
  · unfold xbr at hs
    split at hs
    next t qt => (split at hs
                  · next q => unfold xnx at hs; cases hs; intro ls H locs P hl hc hk; exact lv_icmp_le C.1 C.2.1 hd (xtg_ok qt) (fun _ => K ls H locs P hl hc hk) (fun q2 => absurd q q2)
                  · next q => unfold xnx at hs; cases hs; intro ls H locs P hl hc hk; exact lv_icmp_le C.1 C.2.1 hd (xtg_ok qt) (fun q2 => absurd q2 q) (fun _ => K ls H locs P hl hc hk))
    next => cases hs
  · cases hs
theorem xn_ifnull (C : xc p R s m args meth c V D cy n0 j) {off : Int} (hd : decode (xcd j) pc = .ok (.ifnull off, 3)) (hs : xin V j pc lv st h (.ifnull off) = some (.inl (pc', lv', st', h'))) (K : xgo p l e R s m args below meth c Q D cy n0 c0 k0 j pc' lv' st' h') : xgo p l e R s m args below meth c Q D cy n0 c0 k0 j pc lv st h := by
  dsimp only [xin] at hs
  split at hs
  · unfold xnx at hs; cases hs; intro ls H locs P hl hc hk; exact lv_ifnull C.1 C.2.1 hd (K ls H locs P hl hc hk)
  · split at hs
    next t qt => unfold xnx at hs; cases hs; intro ls H locs P hl hc hk; exact lv_ifnullN C.1 C.2.1 hd (xtg_ok qt) (K ls H locs P hl hc hk)
    next => cases hs
  · cases hs
theorem xn_ifnonnull (C : xc p R s m args meth c V D cy n0 j) {off : Int} (hd : decode (xcd j) pc = .ok (.ifnonnull off, 3)) (hs : xin V j pc lv st h (.ifnonnull off) = some (.inl (pc', lv', st', h'))) (K : xgo p l e R s m args below meth c Q D cy n0 c0 k0 j pc' lv' st' h') : xgo p l e R s m args below meth c Q D cy n0 c0 k0 j pc lv st h := by
  dsimp only [xin] at hs
  split at hs
  · unfold xnx at hs; cases hs; intro ls H locs P hl hc hk; exact lv_ifnonnullN C.1 C.2.1 hd (K ls H locs P hl hc hk)
  · split at hs
    next t qt => unfold xnx at hs; cases hs; intro ls H locs P hl hc hk; exact lv_ifnonnull C.1 C.2.1 hd (xtg_ok qt) (K ls H locs P hl hc hk)
    next => cases hs
  · cases hs
theorem xn_tableswitch (C : xc p R s m args meth c V D cy n0 j) {d lo hi : Int} {offs : Array Int} {len : Nat} (hd : decode (xcd j) pc = .ok (.tableswitch d lo hi offs, len)) (hs : xin V j pc lv st h (.tableswitch d lo hi offs) = some (.inl (pc', lv', st', h'))) (K : xgo p l e R s m args below meth c Q D cy n0 c0 k0 j pc' lv' st' h') : xgo p l e R s m args below meth c Q D cy n0 c0 k0 j pc lv st h := by
  dsimp only [xin] at hs
  split at hs
  · split at hs
    · next q => (split at hs
                 next t qt => unfold xnx at hs; cases hs; intro ls H locs P hl hc hk; exact lv_tableOut C.1 C.2.1 hd q (xtg_ok qt) (K ls H locs P hl hc hk)
                 next => cases hs)
    · next q =>
        split at hs
        next o qo => (split at hs
                      next t qt => unfold xnx at hs; cases hs; intro ls H locs P hl hc hk; exact lv_tableIn C.1 C.2.1 hd (fun z => q (Or.inl z)) (fun z => q (Or.inr z)) qo (xtg_ok qt) (K ls H locs P hl hc hk)
                      next => cases hs)
        next => cases hs
  · cases hs
theorem xn_getfield (C : xc p R s m args meth c V D cy n0 j) {i : Nat} (hd : decode (xcd j) pc = .ok (.getfield i, 3)) (hs : xin V j pc lv st h (.getfield i) = some (.inl (pc', lv', st', h'))) (K : xgo p l e R s m args below meth c Q D cy n0 c0 k0 j pc' lv' st' h') : xgo p l e R s m args below meth c Q D cy n0 c0 k0 j pc lv st h := by
  dsimp only [xin] at hs
  unfold xgetf at hs
  split at hs
  · split at hs
    next p0 n0' ci k qp =>
      split at hs
      next c' fs qa =>
        split at hs
        next qb =>
          split at hs
          next v qv =>
            unfold xnx at hs; cases hs; intro ls H locs P hl hc hk
            have hcc := Nat.eq_of_beq_eq_true qb
            subst hcc
            exact xr_get C P qp (fun z => xno99 P C (z ▸ qa)) qa qv hd (K ls H locs P hl hc hk)
          next => cases hs
        next => cases hs
      next => cases hs
    next => cases hs
  · cases hs
theorem xn_putfield (C : xc p R s m args meth c V D cy n0 j) {i : Nat} (hd : decode (xcd j) pc = .ok (.putfield i, 3)) (hs : xin V j pc lv st h (.putfield i) = some (.inl (pc', lv', st', h'))) (K : xgo p l e R s m args below meth c Q D cy n0 c0 k0 j pc' lv' st' h') : xgo p l e R s m args below meth c Q D cy n0 c0 k0 j pc lv st h := by
  dsimp only [xin] at hs
  unfold xputf at hs
  split at hs
  · split at hs
    next p0 n0' ci k qp =>
      split at hs
      next c' fs qa =>
        split at hs
        next qb =>
          unfold xnx at hs; cases hs; intro ls H locs P hl hc hk
          simp only [Bool.and_eq_true, Bool.or_eq_true, Bool.not_eq_true'] at qb
          obtain ⟨⟨⟨q1, q2⟩, q3⟩, q4⟩ := qb
          have hcc := Nat.eq_of_beq_eq_true q1
          subst hcc
          exact xr_put C P qp (fun z => xno99 P C (z ▸ qa)) qa (by simpa [Nat.blt_eq] using q2) (xfit_ok q3).1 (xfit_ok q3).2 (q4.imp id (fun z => ⟨z.1, Nat.eq_of_beq_eq_true z.2⟩)) hd (fun H1 locs1 P1 => K ls H1 locs1 P1 hl hc hk)
        next => cases hs
      next => cases hs
    next => cases hs
  · cases hs
theorem xn_getstatic (C : xc p R s m args meth c V D cy n0 j) {i : Nat} (hd : decode (xcd j) pc = .ok (.getstatic i, 3)) (hs : xin V j pc lv st h (.getstatic i) = some (.inl (pc', lv', st', h'))) (K : xgo p l e R s m args below meth c Q D cy n0 c0 k0 j pc' lv' st' h') : xgo p l e R s m args below meth c Q D cy n0 c0 k0 j pc lv st h := by
  dsimp only [xin] at hs
  split at hs
  next p0 n0' k' qp =>
    unfold xnx at hs; cases hs; intro ls H locs P hl hc hk
    exact va_gets C.1 C.2.1 C.2.2.2.2.2.2.2.2.1.2.2.1 P.2.2.1 C.2.2.2.2.2.1 (C.2.2.2.2.2.2.1 _ (xwd_in (p := p0) (xpk_s (xpk_ok _ _ _ qp)) rfl)) (fun _ q => q) hd (K ls H locs P hl hc hk)
  next => cases hs
theorem xn_arraylength (C : xc p R s m args meth c V D cy n0 j) (hd : decode (xcd j) pc = .ok (.arraylength, 1)) (hs : xin V j pc lv st h (.arraylength) = some (.inl (pc', lv', st', h'))) (K : xgo p l e R s m args below meth c Q D cy n0 c0 k0 j pc' lv' st' h') : xgo p l e R s m args below meth c Q D cy n0 c0 k0 j pc lv st h := by
  dsimp only [xin] at hs
  split at hs
  next a r =>
    split at hs
    next n qn =>
      unfold xnx at hs; cases hs; intro ls H locs P hl hc hk
      unfold xlen at qn
      split at qn
      next k n2 x qa =>
        split at qn
        next q8 => cases qn; exact xr_alen C P qa q8 hd (K ls H locs P hl hc hk)
        next => cases qn
      next => cases qn
      next qa =>
        split at qn
        next q1 => cases qn; subst q1; exact va_tlen C.1 C.2.1 C.2.2.2.2.2.2.2.2.1.2.2.2.1 P.2.2.1 rfl hd (K ls H locs P hl hc hk)
        next q1 =>
          split at qn
          next q2 => cases qn; subst q2; exact va_slen C.1 C.2.1 C.2.2.2.2.2.2.2.2.1.2.2.2.2.1 (Nat.lt_of_lt_of_le C.2.2.2.2.2.2.2.2.1.2.2.2.2.2.1 P.2.2.2.2) (fun z => absurd z (Nat.not_le.mpr C.2.2.2.2.2.2.2.2.1.2.2.2.2.2.1)) P.2.2.1 hd (K ls H locs P hl hc hk)
          next => cases qn
    next => cases hs
  next => cases hs
theorem xn_iaload (C : xc p R s m args meth c V D cy n0 j) (hd : decode (xcd j) pc = .ok (.iaload, 1)) (hs : xin V j pc lv st h (.iaload) = some (.inl (pc', lv', st', h'))) (K : xgo p l e R s m args below meth c Q D cy n0 c0 k0 j pc' lv' st' h') : xgo p l e R s m args below meth c Q D cy n0 c0 k0 j pc lv st h := by
  dsimp only [xin] at hs
  split at hs
  next i a r =>
    split at hs
    next n f qn =>
      split at hs
      next => cases hs
      next qi =>
        unfold xnx at hs; cases hs; intro ls H locs P hl hc hk
        unfold xrI at qn
        split at qn
        next n2 f2 qa => cases qn; exact xr_iald C P qa qi hd (K ls H locs P hl hc hk)
        next => cases qn
        next qa =>
          split at qn
          next q1 => cases qn; subst q1; exact va_ti C.1 C.2.1 C.2.2.2.2.2.2.2.2.1.2.2.2.1 P.2.2.1 qi rfl hd (K ls H locs P hl hc hk)
          next q1 =>
            split at qn
            next q2 => cases qn; subst q2; exact va_sld C.1 C.2.1 C.2.2.2.2.2.2.2.2.1.2.2.2.2.1 (Nat.lt_of_lt_of_le C.2.2.2.2.2.2.2.2.1.2.2.2.2.2.1 P.2.2.2.2) (fun z => absurd z (Nat.not_le.mpr C.2.2.2.2.2.2.2.2.1.2.2.2.2.2.1)) P.2.2.1 qi hd (K ls H locs P hl hc hk)
            next => cases qn
    next => cases hs
  next => cases hs
theorem xn_laload (C : xc p R s m args meth c V D cy n0 j) (hd : decode (xcd j) pc = .ok (.laload, 1)) (hs : xin V j pc lv st h (.laload) = some (.inl (pc', lv', st', h'))) (K : xgo p l e R s m args below meth c Q D cy n0 c0 k0 j pc' lv' st' h') : xgo p l e R s m args below meth c Q D cy n0 c0 k0 j pc lv st h := by
  dsimp only [xin] at hs
  split at hs
  next i a r =>
    split at hs
    next n f qa =>
      split at hs
      next => cases hs
      next qi => unfold xnx at hs; cases hs; intro ls H locs P hl hc hk; exact xr_lald C P qa qi hd (K ls H locs P hl hc hk)
    next => cases hs
  next => cases hs
theorem xn_baload (C : xc p R s m args meth c V D cy n0 j) (hd : decode (xcd j) pc = .ok (.baload, 1)) (hs : xin V j pc lv st h (.baload) = some (.inl (pc', lv', st', h'))) (K : xgo p l e R s m args below meth c Q D cy n0 c0 k0 j pc' lv' st' h') : xgo p l e R s m args below meth c Q D cy n0 c0 k0 j pc lv st h := by
  dsimp only [xin] at hs
  split at hs
  next i a r =>
    split at hs
    next n f qa =>
      split at hs
      next => cases hs
      next qi => unfold xnx at hs; cases hs; intro ls H locs P hl hc hk; exact xr_zald C P qa qi hd (K ls H locs P hl hc hk)
    next => cases hs
  next => cases hs
theorem xn_aaload (C : xc p R s m args meth c V D cy n0 j) (hd : decode (xcd j) pc = .ok (.aaload, 1)) (hs : xin V j pc lv st h (.aaload) = some (.inl (pc', lv', st', h'))) (K : xgo p l e R s m args below meth c Q D cy n0 c0 k0 j pc' lv' st' h') : xgo p l e R s m args below meth c Q D cy n0 c0 k0 j pc lv st h := by
  dsimp only [xin] at hs
  split at hs
  next i a r =>
    split at hs
    next k n f qa =>
      split at hs
      next => cases hs
      next qi => unfold xnx at hs; cases hs; intro ls H locs P hl hc hk; exact xr_aald C P qa (fun z => qi (Or.inr (Or.inr z))) (fun z => qi (z.elim Or.inl (fun y => Or.inr (Or.inl y)))) hd (K ls H locs P hl hc hk)
    next => cases hs
  next => cases hs
theorem xn_iastore (C : xc p R s m args meth c V D cy n0 j) (hd : decode (xcd j) pc = .ok (.iastore, 1)) (hs : xin V j pc lv st h (.iastore) = some (.inl (pc', lv', st', h'))) (K : xgo p l e R s m args below meth c Q D cy n0 c0 k0 j pc' lv' st' h') : xgo p l e R s m args below meth c Q D cy n0 c0 k0 j pc lv st h := by
  dsimp only [xin] at hs
  split at hs
  next x i a r =>
    split at hs
    next n f qa =>
      split at hs
      next => cases hs
      next qi => unfold xnx at hs; cases hs; intro ls H locs P hl hc hk; exact xr_iast C P qa qi hd (fun H1 locs1 P1 => K ls H1 locs1 P1 hl hc hk)
    next => cases hs
  next => cases hs
theorem xn_lastore (C : xc p R s m args meth c V D cy n0 j) (hd : decode (xcd j) pc = .ok (.lastore, 1)) (hs : xin V j pc lv st h (.lastore) = some (.inl (pc', lv', st', h'))) (K : xgo p l e R s m args below meth c Q D cy n0 c0 k0 j pc' lv' st' h') : xgo p l e R s m args below meth c Q D cy n0 c0 k0 j pc lv st h := by
  dsimp only [xin] at hs
  split at hs
  next x i a r =>
    split at hs
    next n f qa =>
      split at hs
      next => cases hs
      next qi => unfold xnx at hs; cases hs; intro ls H locs P hl hc hk; exact xr_last C P qa qi hd (fun H1 locs1 P1 => K ls H1 locs1 P1 hl hc hk)
    next => cases hs
  next => cases hs
theorem xn_bastore (C : xc p R s m args meth c V D cy n0 j) (hd : decode (xcd j) pc = .ok (.bastore, 1)) (hs : xin V j pc lv st h (.bastore) = some (.inl (pc', lv', st', h'))) (K : xgo p l e R s m args below meth c Q D cy n0 c0 k0 j pc' lv' st' h') : xgo p l e R s m args below meth c Q D cy n0 c0 k0 j pc lv st h := by
  dsimp only [xin] at hs
  split at hs
  next x i a r =>
    split at hs
    next n f qa =>
      split at hs
      next => cases hs
      next qi => unfold xnx at hs; cases hs; intro ls H locs P hl hc hk; exact xr_zast C P qa qi hd (fun H1 locs1 P1 => K ls H1 locs1 P1 hl hc hk)
    next => cases hs
  next => cases hs
theorem xn_aastore (C : xc p R s m args meth c V D cy n0 j) (hd : decode (xcd j) pc = .ok (.aastore, 1)) (hs : xin V j pc lv st h (.aastore) = some (.inl (pc', lv', st', h'))) (K : xgo p l e R s m args below meth c Q D cy n0 c0 k0 j pc' lv' st' h') : xgo p l e R s m args below meth c Q D cy n0 c0 k0 j pc lv st h := by
  dsimp only [xin] at hs
  split at hs
  next x i a r =>
    split at hs
    next k n f ci vs qa qx =>
      split at hs
      next => cases hs
      next qi =>
        unfold xnx at hs; cases hs; intro ls H locs P hl hc hk
        have hci : ci = xkc k := Classical.not_not.mp (fun z => qi (Or.inr (Or.inr z)))
        subst hci
        exact xr_aast C P qa (fun z => xno99 P C (z ▸ qx)) qx (fun z => qi (z.elim Or.inl (fun y => Or.inr (Or.inl y)))) hd (fun H1 locs1 P1 => K ls H1 locs1 P1 hl hc hk)
    next => cases hs
  next => cases hs
theorem xn_new (C : xc p R s m args meth c V D cy n0 j) {i : Nat} (hd : decode (xcd j) pc = .ok (.new i, 3)) (hs : xin V j pc lv st h (.new i) = some (.inl (pc', lv', st', h'))) (hR : h'.2.2.1 - c0 ≤ R.cells ∧ h'.2.2.2 - k0 ≤ R.slots) (K : xgo p l e R s m args below meth c Q D cy n0 c0 k0 j pc' lv' st' h') : xgo p l e R s m args below meth c Q D cy n0 c0 k0 j pc lv st h := by
  dsimp only [xin] at hs
  split at hs
  next p0 ci qp =>
    unfold xnew at hs
    split at hs
    next qb =>
      unfold xnx at hs; cases hs; intro ls H locs P hl hc hk
      have hci : ci < 11 := by simpa [Nat.blt_eq] using qb
      have e1 : (xalc h (.inr (ci, xdf.getD ci [])) (xcl ci).2.2).2.2.1 - c0 = h.2.2.1 - c0 + 1 := by show h.2.2.1 + 1 - c0 = _; omega
      have e2 : (xalc h (.inr (ci, xdf.getD ci [])) (xcl ci).2.2).2.2.2 - k0 = h.2.2.2 - k0 + (xcl ci).2.2 := by show h.2.2.2 + (xcl ci).2.2 - k0 = _; omega
      rw [e1, e2] at hR
      refine xr_new C P qp hci hR.1 hR.2 hd (fun H1 P1 => ?_)
      have K1 := K ls H1 locs P1 hl (by show c0 ≤ h.2.2.1 + 1; omega) (by show k0 ≤ h.2.2.2 + (xcl ci).2.2; omega)
      rw [e1, e2] at K1
      exact K1
    next =>
      split at hs
      · unfold xthr at hs
        split at hs
        all_goals (try split at hs)
        all_goals (try split at hs)
        all_goals (try split at hs)
        all_goals (cases hs)
      · cases hs
  next => cases hs
theorem xn_newarray (C : xc p R s m args meth c V D cy n0 j) {t : ArrayType} (hd : decode (xcd j) pc = .ok (.newarray t, 2)) (hs : xin V j pc lv st h (.newarray t) = some (.inl (pc', lv', st', h'))) (hR : h'.2.2.1 - c0 ≤ R.cells ∧ h'.2.2.2 - k0 ≤ R.slots) (K : xgo p l e R s m args below meth c Q D cy n0 c0 k0 j pc' lv' st' h') : xgo p l e R s m args below meth c Q D cy n0 c0 k0 j pc lv st h := by
  dsimp only [xin] at hs
  unfold xnwa at hs
  split at hs
  next n r =>
    split at hs
    next => cases hs
    next qn =>
      have hn2 : n.toNatClampNeg ≤ 65536 := Nat.not_lt.mp (fun z => qn (Or.inr z))
      split at hs
      next =>
        unfold xnx at hs; cases hs; intro ls H locs P hl hc hk
        have e1 : (xalc h (.inl (0, n.toNatClampNeg, .inl (fun _ => 0))) n.toNatClampNeg).2.2.1 - c0 = h.2.2.1 - c0 + 1 := by show h.2.2.1 + 1 - c0 = _; omega
        have e2 : (xalc h (.inl (0, n.toNatClampNeg, .inl (fun _ => 0))) n.toNatClampNeg).2.2.2 - k0 = h.2.2.2 - k0 + n.toNatClampNeg := by show h.2.2.2 + n.toNatClampNeg - k0 = _; omega
        rw [e1, e2] at hR
        refine xr_newa (at_ := .int) (k := 0) C P (by decide) xw_t0 xw_ai xw_r0 (x := (n.toNatClampNeg, .inl (fun _ => 0))) (xw_d4 _) (fun z => qn (Or.inl z)) (xw_b4 hn2) hR.1 hR.2 hd (fun H1 P1 => ?_)
        have K1 := K ls H1 locs P1 hl (by show c0 ≤ h.2.2.1 + 1; omega) (by show k0 ≤ h.2.2.2 + n.toNatClampNeg; omega)
        rw [e1, e2] at K1
        exact K1
      next =>
        unfold xnx at hs; cases hs; intro ls H locs P hl hc hk
        have e1 : (xalc h (.inl (1, n.toNatClampNeg, .inr (.inl (fun _ => 0)))) n.toNatClampNeg).2.2.1 - c0 = h.2.2.1 - c0 + 1 := by show h.2.2.1 + 1 - c0 = _; omega
        have e2 : (xalc h (.inl (1, n.toNatClampNeg, .inr (.inl (fun _ => 0)))) n.toNatClampNeg).2.2.2 - k0 = h.2.2.2 - k0 + n.toNatClampNeg := by show h.2.2.2 + n.toNatClampNeg - k0 = _; omega
        rw [e1, e2] at hR
        refine xr_newa (at_ := .long) (k := 1) C P (by decide) xw_t1 xw_al xw_r1 (x := (n.toNatClampNeg, .inr (.inl (fun _ => 0)))) (xw_d8 _) (fun z => qn (Or.inl z)) (xw_b8 hn2) hR.1 hR.2 hd (fun H1 P1 => ?_)
        have K1 := K ls H1 locs P1 hl (by show c0 ≤ h.2.2.1 + 1; omega) (by show k0 ≤ h.2.2.2 + n.toNatClampNeg; omega)
        rw [e1, e2] at K1
        exact K1
      next =>
        unfold xnx at hs; cases hs; intro ls H locs P hl hc hk
        have e1 : (xalc h (.inl (2, n.toNatClampNeg, .inl (fun _ => 0))) n.toNatClampNeg).2.2.1 - c0 = h.2.2.1 - c0 + 1 := by show h.2.2.1 + 1 - c0 = _; omega
        have e2 : (xalc h (.inl (2, n.toNatClampNeg, .inl (fun _ => 0))) n.toNatClampNeg).2.2.2 - k0 = h.2.2.2 - k0 + n.toNatClampNeg := by show h.2.2.2 + n.toNatClampNeg - k0 = _; omega
        rw [e1, e2] at hR
        refine xr_newa (at_ := .boolean) (k := 2) C P (by decide) xw_t2 xw_az xw_r2 (x := (n.toNatClampNeg, .inl (fun _ => 0))) (xw_d1 _) (fun z => qn (Or.inl z)) (xw_b1 hn2) hR.1 hR.2 hd (fun H1 P1 => ?_)
        have K1 := K ls H1 locs P1 hl (by show c0 ≤ h.2.2.1 + 1; omega) (by show k0 ≤ h.2.2.2 + n.toNatClampNeg; omega)
        rw [e1, e2] at K1
        exact K1
      next => cases hs
  next => cases hs
theorem xn_anewarray (C : xc p R s m args meth c V D cy n0 j) {i : Nat} (hd : decode (xcd j) pc = .ok (.anewarray i, 3)) (hs : xin V j pc lv st h (.anewarray i) = some (.inl (pc', lv', st', h'))) (hR : h'.2.2.1 - c0 ≤ R.cells ∧ h'.2.2.2 - k0 ≤ R.slots) (K : xgo p l e R s m args below meth c Q D cy n0 c0 k0 j pc' lv' st' h') : xgo p l e R s m args below meth c Q D cy n0 c0 k0 j pc lv st h := by
  dsimp only [xin] at hs
  unfold xanw at hs
  split at hs
  next n r =>
    split at hs
    next => cases hs
    next qn =>
      have hn2 : n.toNatClampNeg ≤ 65536 := Nat.not_lt.mp (fun z => qn (Or.inr z))
      split at hs
      next p0 ci qp =>
        split at hs
        next k qk =>
          unfold xnx at hs; cases hs; intro ls H locs P hl hc hk
          have e1 : (xalc h (.inl (k, n.toNatClampNeg, .inr (.inr (.inr (.inr (fun _ => none)))))) n.toNatClampNeg).2.2.1 - c0 = h.2.2.1 - c0 + 1 := by show h.2.2.1 + 1 - c0 = _; omega
          have e2 : (xalc h (.inl (k, n.toNatClampNeg, .inr (.inr (.inr (.inr (fun _ => none)))))) n.toNatClampNeg).2.2.2 - k0 = h.2.2.2 - k0 + n.toNatClampNeg := by show h.2.2.2 + n.toNatClampNeg - k0 = _; omega
          rw [e1, e2] at hR
          refine xr_newq C P qp qk (fun z => qn (Or.inl z)) (by omega) hR.1 hR.2 hd (fun H1 P1 => ?_)
          have K1 := K ls H1 locs P1 hl (by show c0 ≤ h.2.2.1 + 1; omega) (by show k0 ≤ h.2.2.2 + n.toNatClampNeg; omega)
          rw [e1, e2] at K1
          exact K1
        next => cases hs
      next => cases hs
  next => cases hs
theorem xn_invokespecial (C : xc p R s m args meth c V D cy n0 j) {i : Nat} (hd : decode (xcd j) pc = .ok (.invokespecial i, 3)) (hs : xin V j pc lv st h (.invokespecial i) = some (.inl (pc', lv', st', h'))) (K : xgo p l e R s m args below meth c Q D cy n0 c0 k0 j pc' lv' st' h') : xgo p l e R s m args below meth c Q D cy n0 c0 k0 j pc lv st h := by
  dsimp only [xin] at hs
  split at hs
  next p0 k' qp =>
    split at hs
    next a r =>
      split at hs
      next q =>
        unfold xnx at hs; cases hs; intro ls H locs P hl hc hk
        have h9 : lw_tbl[p0]? = some (.methodLink (xown (xow j)) i Lib.objectInit) := xpk_ok _ _ _ qp
        refine W.objInit C.1 C.2.1 C.2.2.2.2.2.1 (C.2.2.2.2.2.2.1 _ (xwd_in h9 rfl)) (C.2.2.2.2.2.2.1 _ xw_oi) (C.2.2.2.2.2.2.1 _ xw_oc) rfl (hl.1.trans C.2.2.1.symm) rfl hd (Nat.le_trans q.1 C.2.2.2.2.2.2.2.2.2.1) ?_ (K ls H locs P hl hc hk)
        have h8 : ∀ z : List Value, 2 * (F0 m pc ls z).monitorRoom = 0 := fun _ => rfl
        rw [h8]
        exact Nat.le_trans (by rw [Nat.zero_add]; exact q.2) C.2.2.2.2.2.2.2.2.2.2
      next => cases hs
    next => cases hs
  next => unfold xcI at hs; split at hs <;> first | (cases hs; done) | (unfold xcal at hs; split at hs <;> cases hs)
  next => unfold xcI at hs; split at hs <;> first | (cases hs; done) | (unfold xcal at hs; split at hs <;> cases hs)
  next => cases hs
end XN
