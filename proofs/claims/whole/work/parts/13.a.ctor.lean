/-! An exception whose own constructor hands its text up by any pool number (the library's row for 'throw new' knows number 7 alone). The chain above it, Throwable's constructor and the leaving are the library's, by name. -/
/-- what the library asks of the thrown class itself: its list for 'throw new', behind the words of the chain -/
def xoT (own : String) (ic : Nat) (X : String) : List Cond :=
  (Bundle.ownAtoms own ic X []).drop (Bundle.throwableAtoms ++ Bundle.throwableSAtoms ++ Bundle.chainSAtoms X []).length
def xoA (own : String) (ic : Nat) (X Yn : String) (names : List String) (ix : Nat) (by1 : ByteArray) : List Cond :=
  (Bundle.passSAtoms X Yn ix by1 ++ Bundle.chainSAtoms Yn names) ++ ((Bundle.throwableAtoms ++ Bundle.throwableSAtoms) ++ xoT own ic X)
theorem xoT_ins {own : String} {ic : Nat} {X : String} : Cond.instantiable X 6 ∈ xoT own ic X := by
  simp only [xoT, Bundle.ownAtoms, List.drop_left]
  simp
section XOA
variable {own X Yn : String} {names : List String} {ic ix : Nat} {by1 : ByteArray} {w : Cond}
theorem xoA_pass (h : w ∈ Bundle.passSAtoms X Yn ix by1) : w ∈ xoA own ic X Yn names ix by1 := List.mem_append_left _ (List.mem_append_left _ h)
theorem xoA_chain (h : w ∈ Bundle.chainSAtoms Yn names) : w ∈ xoA own ic X Yn names ix by1 := List.mem_append_left _ (List.mem_append_right _ h)
theorem xoA_thr (h : w ∈ Bundle.throwableAtoms) : w ∈ xoA own ic X Yn names ix by1 := List.mem_append_right _ (List.mem_append_left _ (List.mem_append_left _ h))
theorem xoA_thrS (h : w ∈ Bundle.throwableSAtoms) : w ∈ xoA own ic X Yn names ix by1 := List.mem_append_right _ (List.mem_append_left _ (List.mem_append_right _ h))
theorem xoA_own (h : w ∈ xoT own ic X) : w ∈ xoA own ic X Yn names ix by1 := List.mem_append_right _ (List.mem_append_right _ h)
theorem xoA_ins : Cond.instantiable X 6 ∈ xoA own ic X Yn names ix by1 := xoA_own xoT_ins
end XOA
section XCT
variable {p : Program} {l : Launch} {e : Env} {R : Room} {s : State} {m₀ : MethodId} {args : Array Value} {below : List Frame} {meth : Method} {c : Code} {W : State} {cells slots : Nat}
variable {X : String} {cX : ClassId} {kX : Class}
/-- a method that the class doesn't override -/
theorem xk_sel {t : MethodName} {mt : MethodId} (ha : l.admits e) (hX : s.vm.findClass X = some cX) (hn : s.methodNamed? t = some mt) (ht : t.cls ≠ "java/lang/invoke/MethodHandle" ∧ t.cls ≠ "java/lang/invoke/VarHandle") (h : (Cond.selects X t t).before args s = true) : selectMethod e.platform s.vm cX mt = .method mt := by
  obtain ⟨c', r, m', k1, k2, k3, k4, -⟩ := Cond.selects_spec h
  rw [hX] at k1
  rw [State.methodFound?_of_named hn ht] at k2
  rw [hn] at k3
  rw [Option.some.inj k1, Launch.admits_selectMethod ha]
  have e2 : mt = r := Option.some.inj k2
  have e3 : mt = m' := Option.some.inj k3
  rw [← e2, ← e3] at k4
  exact k4
section FLD
variable {nf df ng dg : String} {c1 c2 i1 i2 : Nat} {k1 k2 : Class} {f g : Field}
/-- a fresh object takes a value of the field's type -/
theorem xk_tk (hX : s.vm.findClass X = some cX) (hk : s.vm.classes[cX]? = some kX) (ho : kX.kind = .ordinary) (hf : s.fieldFound? Bundle.tN nf df = some (c1, k1, i1, f)) (h : (Cond.lays X Bundle.tN nf df).before args s = true) {v : Value} (hv : fits f.type v = true) : Takes s (freshCell cX kX) f v :=
  Takes.of_laid hk ho (Cond.laysAt hX hk hf h).1 hv
/-- fields of other names lie in other slots -/
theorem xk_ap (hX : s.vm.findClass X = some cX) (hk : s.vm.classes[cX]? = some kX) (hf : s.fieldFound? Bundle.tN nf df = some (c1, k1, i1, f)) (h : (Cond.lays X Bundle.tN nf df).before args s = true) (hg : s.fieldFound? Bundle.tN ng dg = some (c2, k2, i2, g)) (h' : (Cond.lays X Bundle.tN ng dg).before args s = true) (hn : f.name ≠ g.name) : f.slot ≠ g.slot := by
  obtain ⟨-, d, d1, d2⟩ := Cond.laysAt hX hk hf h
  obtain ⟨-, d', d3, d4⟩ := Cond.laysAt hX hk hg h'
  exact Cond.laysApart d1 d3 d2 d4 hn
end FLD
theorem xk_set {x : Cell} {i j : Nat} {v : Value} (h : i ≠ j) : (x.setSlot i v).slots[j]? = x.slots[j]? := by
  show (x.slots.setIfInBounds i v)[j]? = x.slots[j]?
  rw [Array.getElem?_setIfInBounds, if_neg h]
/-- Throwable's own statics, in the heap as it now is: nothing old was written -/
theorem xk_stat {T : ThrowableC} {Z0 : Init0T} (S : Stand p l e R s m₀ args below meth c W [] cells slots) (L : T.Links e.platform s) (Y : Bundle.Ties T Z0 s) {a : Addr} (hnew : s.heap.size ≤ a) (h1 : (Cond.isRef (.static Bundle.tN "UNASSIGNED_STACK" Bundle.steD)).before args s = true) (h2 : (Cond.isRef (.static Bundle.tN "SUPPRESSED_SENTINEL" Bundle.listD)).before args s = true) :
    ∃ (x : Cell) (u v : RefV), W.heap[T.aS]? = some x ∧ T.aS ≠ a ∧ x.vm ≠ .unknown ∧ x.slots[T.fUnassigned.slot]? = some u.v ∧ x.slots[T.fSentinel.slot]? = some v.v := by
  obtain ⟨x0, q1, q2⟩ := Y.statics
  obtain ⟨u, hu⟩ := Cond.staticRefV Y.unassigned L.unassignedStatic L.statics q1 q2 h1
  obtain ⟨v, hv⟩ := Cond.staticRefV Y.sentinel L.sentinelStatic L.statics q1 q2 h2
  obtain ⟨x, q3, q4, -, q5⟩ := S.same.2.2.2.2.2 _ _ q1
  have lt : T.aS < s.heap.size := (Array.getElem?_eq_some_iff.mp q1).1
  have ev : x.vm = x0.vm := by rw [q4]
  refine ⟨x, u, v, q3, Nat.ne_of_lt (Nat.lt_of_lt_of_le lt hnew), fun z => ?_, (q5 _ List.not_mem_nil).trans hu, (q5 _ List.not_mem_nil).trans hv⟩
  rw [← ev, z] at q2
  cases q2
set_option maxHeartbeats 4000000 in
/-- the new object, its reference twice on the stack and the text above: constructed, thrown, out of the method -/
theorem xv_ctorS (S : Stand p l e R s m₀ args below meth c W [] cells slots) (hx : p.tables.exec = Jvm.exec) (ho : e.platform.stackTraces = false) (own Yn : String) (names : List String) (ic ix : Nat) (by1 : ByteArray)
    (z : decode by1 0 = .ok (.aload_n 0, 1) ∧ decode by1 1 = .ok (.aload_n 1, 1) ∧ decode by1 2 = .ok (.invokespecial ix, 3) ∧ decode by1 5 = .ok (.return_, 1))
    (hm : s.vm.findClass own = some m₀.cls) (hn : ∀ n ∈ X :: Yn :: names, Bundle.fit n = true) (h : ∀ w ∈ xoA own ic X Yn names ix by1, w.before args s = true)
    (hX : s.vm.findClass X = some cX) (hk : s.vm.classes[cX]? = some kX) {a : Addr} (ha : W.heap[a]? = some (freshCell cX kX)) (hnew : s.heap.size ≤ a) {msg : Value} (hmsg : msg.isRef = true)
    {pc : Nat} {ls : Array Slot} {rest : List Value} (hls : ls.size = c.maxLocals) (d0 : decode c.code pc = .ok (.invokespecial ic, 3)) (d3 : decode c.code (pc + 3) = .ok (.athrow, 1)) (hc : ∀ x ∈ c.exceptionTable.toList, covers x (pc + 3) = false)
    (hF : (Yn :: names).length + 3 < R.frames) (hR : ((Value.ref a :: rest).map fun v => v.category).sum + (13 * ((Yn :: names).length + 1) + 42) ≤ R.locals) (hlocks : meth.locks = false) :
    ∃ U : State, Steps p.tables e below (W.setTop { method := m₀, pc := pc, locals := ls, stack := msg :: .ref a :: .ref a :: rest, locked := none }) U ∧ U.status = .running ∧ Ended U below (.threw a) ∧ s.WarmedH U.vm ∧
      s.sameButNew ({ U with vm := s.vm } : State) [] cells slots ∧ ∃ x, U.heap[a]? = some x ∧ s.vm.findClass X = some x.cls ∧ x.vm = .none := by
  have pm : e.platform.magicAccessors = ({} : Platform).magicAccessors := by rw [S.admits.platform]
  have hy : Bundle.fit Yn = true := hn Yn (by simp)
  have hw : ∀ w ∈ xoT own ic X, w.before args s = true := fun w k => h w (xoA_own k)
  simp only [xoT, Bundle.ownAtoms, List.drop_left, List.forall_mem_cons] at hw
  obtain ⟨wl, wi, -, w0, wf, wc, ws, wp, wm, wu, wn, wb, wt, wx, -⟩ := hw
  -- the chain of constructors
  obtain ⟨T, Z0, L, -, Y⟩ := ThrowableC.of_atoms (args := args) (by rw [S.admits.platform]) (by rw [S.admits.platform]) pm fun w k => h w (xoA_thr k)
  obtain ⟨Z, M, LZ, LM, nZ⟩ := Init0T.ofS_atoms (args := args) pm L Y fun w k => h w (xoA_thrS k)
  obtain ⟨P, LP, nP, nQ⟩ := PassC.ofS_atoms (args := args) pm (Bundle.fit_spec (hn X (by simp))).1 (Bundle.fit_spec hy).2 z.1 z.2.1 z.2.2.1 z.2.2.2 fun w k => h w (xoA_pass (names := names) k)
  obtain ⟨Q, Qs, en, LQ, LQs, nQ', kQ⟩ := Bundle.chainS (args := args) pm nZ names Yn hy (fun n k => hn n (by simp [k])) fun w k => h w (xoA_chain k)
  have kP : PassesOn (Z.m T.toThrowableT) ((P :: Q :: Qs).map (·.toPassT)) := ⟨Option.some.inj (nQ.symm.trans nQ'), kQ⟩
  have aP : ∀ B, B ∈ P :: Q :: Qs → B.LinksS e.platform s := by
    intro B k
    rw [List.mem_cons, List.mem_cons] at k
    rcases k with k | k | k
    · rw [k]; exact LP
    · rw [k]; exact LQ
    · exact LQs B k
  have ln : (P :: Q :: Qs).length = (Yn :: names).length + 1 := by rw [List.length_cons, List.length_cons, en, List.length_cons]
  have eC : P.m.cls = cX := Option.some.inj ((findClass_of_methodNamed nP).symm.trans hX)
  -- the object's fields
  obtain ⟨c', k', i1, i2, od, -⟩ := Cond.instantiable_spec wi
  have ec : cX = c' := Option.some.inj (hX.symm.trans i1)
  rw [← ec, hk] at i2
  have ek : kX = k' := Option.some.inj i2
  rw [← ek] at od
  obtain ⟨im, ym⟩ := Y.msg
  obtain ⟨n1, n2, fB, b1, b2, b3, b4, -, b5, b6, yb⟩ := Cond.ownField (t := .object "java/lang/Object") Y.found L.cls (by decide +kernel) wb wt e.platform pm
  obtain ⟨xs, u, v, s1, s2, s3, s4, s5⟩ := xk_stat S L Y hnew wu wn
  have skip : SkipFacts T e.platform s (fun t => t) u ((preparedCellV T.toThrowableT (freshCell cX kX) a u v).withEntry W.cur) := by
    have t1 := xk_ap hX hk Y.cause wc yb wx (by rw [Y.causeName, b5]; decide)
    have t2 := xk_ap hX hk Y.stack ws yb wx (by rw [Y.stackName, b5]; decide)
    have t3 := xk_ap hX hk Y.supp wp yb wx (by rw [Y.suppName, b5]; decide)
    have t4 := fresh_default (c := cX) (Cond.laysAt hX hk yb wx).1
    rw [b6] at t4
    refine ⟨⟨n1, n2, fB⟩, ⟨b1, b2, b3, b4⟩, ?_, fun _ _ => rfl⟩
    show (preparedCellV T.toThrowableT (freshCell cX kX) a u v).slots[fB.slot]? = some .null
    rw [xk_set t3, xk_set t2, xk_set t1]
    exact t4
  -- the walk: the constructor's entry, the chain, the throw
  obtain ⟨mt, -, -, -, vm1, nm, -, -, -, -, -, -, -, hv1, go⟩ := Steps.initColdS S.here hx S.warmed pm hm (t := Bundle.initS X) rfl rfl (Bundle.fit_spec (hn X (by simp))).2 wl
    (h _ (xoA_pass (by simp [Bundle.passSAtoms]))) (bytes := by1) (maxL := 2) (h _ (xoA_pass (by simp [Bundle.passSAtoms]))) (f := { method := m₀, pc := pc, locals := ls, stack := msg :: .ref a :: .ref a :: rest, locked := none }) rfl rfl d0
  have em : mt = P.m := Option.some.inj (nm.symm.trans nP)
  obtain ⟨vm2, S2, go2⟩ := (S.noted hv1).ctorMessageOffV hx (g := { method := m₀, pc := pc, locals := ls, stack := .ref a :: rest, locked := none }) rfl hls T L Z LZ M LM (P :: Q :: Qs) aP kP (u0 := u) (sen := v) hmsg ha (fun _ => nofun) nofun rfl rfl
    (xk_sel S.admits hX Y.fill0 (by decide) w0) (xk_sel S.admits hX Y.fill (by decide) wf) s1 s2 s3 s4 s5
    (xk_tk hX hk od Y.cause wc (by rw [Y.causeType]; rfl)) (xk_tk hX hk od Y.stack ws (by rw [Y.stackType]; exact fits_refV_array _ u)) (xk_tk hX hk od Y.supp wp (by rw [Y.suppType]; exact fits_refV_object _ v))
    (xk_tk hX hk od ym wm (by rw [Y.msgType]; exact fits_refV_object _ ⟨msg, hmsg⟩)) Y.objLocals skip ho [] d0 (by rw [ln]; omega) (by rw [ln]; exact Nat.le_trans (by simp) hR)
  obtain ⟨g1, g2, g3, g4, g5⟩ := S2.athrowLeaves hx (g := { method := m₀, pc := pc + 3, locals := ls, stack := .ref a :: rest, locked := none }) rfl rfl rfl hc rfl d3 hlocks
  refine ⟨_, go _ fun acts => ?_, g2, g3, g4, g5.weaken (fun y hy hl => ?_) (Nat.le_refl _) (Nat.le_refl _), _, heapAt_setCell_self _ (Array.getElem?_eq_some_iff.mp ha).1, hX, rfl⟩
  · rw [doInvoke_state, em]
    exact go2 _ g1
  · have yb : y.base = a := by
      rw [List.nil_append] at hy
      simp only [List.mem_cons, List.not_mem_nil, or_false] at hy
      rcases hy with hy | hy | hy | hy | hy <;> rw [hy]
    rw [yb] at hl
    exact absurd hl (Nat.not_lt.mpr hnew)
end XCT
