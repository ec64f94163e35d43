/-! the small machine's run is the real one's -/
theorem xv_ofW {l : Launch} {y : MethodName} {ws ws' : List Cond} {rm : Room} {Pc : Array Value → State → Prop} {Qc : Array Value → State → Outcome → State → Prop} {XC : String → State → State → Prop} {mc ms : Nat} {free : Addr → Prop} {cc : ByteArray} {maxL : Nat} {ret : Option FieldType}
    (hy : plainFor y = true) (hw : ws = Cond.code y cc maxL ret :: ws')
    (body : ∀ p e s m args below meth c s₁, BodyLoose p l y (headSpec ws rm) cc maxL ret e s m args below meth c s₁ → c.maxLocals = maxL → (∀ x ∈ c.exceptionTable.toList, False) → Pc args s →
      W p l e (headSpec ws rm).room s m args below meth c s.heap [] 0 0 (vx_MQ below Qc XC args s mc ms free) (entryFrame m args maxL)) : vx_Met l y ws rm Pc Qc XC mc ms free := by
  refine MetFree.of_bodySF (code := cc) (maxLocals := maxL) (ret := ret) hy ?_ ?_
  · intro args s m h hn
    obtain ⟨meth, c, h1, h2, h3, h4, h5, h6, -, -⟩ := Cond.code_spec hn (atoms_spec (ws := ws) h _ (by rw [hw]; exact List.mem_cons_self))
    exact ⟨meth, c, h1, h2, h3, h4, h5, h6⟩
  · intro p e s m args below meth c s₁ B hml hP _
    have hh0 : s₁.heap = s.heap := by rw [B.state]; rfl
    have ht : ∀ x ∈ c.exceptionTable.toList, False := by
      obtain ⟨meth9, c9, h1, h2, -, -, -, -, h7, -⟩ := Cond.code_spec B.named (atoms_spec (ws := ws) B.pre _ (by rw [hw]; exact List.mem_cons_self))
      cases Option.some.inj (h1.symm.trans B.method)
      cases Option.some.inj (h2.symm.trans (Stand.of_body B).code)
      intro x hx
      rw [Array.isEmpty_iff.mp h7] at hx
      cases hx
    obtain ⟨t, a1, o, b1, b2, b3⟩ := body p e s m args below meth c s₁ B hml ht hP s₁ hh0 (Stand.of_body B)
    exact ⟨t, o, a1, b1, b2, b3⟩
theorem xins_ok : ∀ k ∈ xins, (xy k).name = "<init>" := List.forall_mem_cons.mpr ⟨rfl, List.forall_mem_cons.mpr ⟨rfl, List.forall_mem_cons.mpr ⟨rfl, List.forall_mem_cons.mpr ⟨rfl, List.forall_mem_cons.mpr ⟨rfl, List.forall_mem_cons.mpr ⟨rfl, List.forall_mem_cons.mpr ⟨rfl, List.forall_mem_cons.mpr ⟨rfl, List.forall_mem_cons.mpr ⟨rfl, List.forall_mem_cons.mpr ⟨rfl, List.forall_mem_cons.mpr ⟨rfl, fun _ h => absurd h List.not_mem_nil⟩⟩⟩⟩⟩⟩⟩⟩⟩⟩⟩
theorem xisI_ok {k : Nat} (h : xisI k = true) : (xy k).name = "<init>" := by
  obtain ⟨q, h1, h2⟩ := List.any_eq_true.mp h
  rw [Nat.eq_of_beq_eq_true h2]
  exact xins_ok q h1
/-- where a call leads -/
theorem xst_k {V : xV} {j pc k : Nat} {lv : xL} {st as rest : List Value} {h : xH} (hs : xst V j pc lv st h = some (.inr (.inl (k, as, rest)))) : k < 198 ∧ (lg_sl as).length ≤ xmL k := by
  obtain ⟨i, len, -, -, -, hs⟩ := xst_in hs
  rcases xin_call hs with ⟨idx, rfl⟩ | ⟨idx, rfl⟩ | ⟨idx, rfl⟩
  all_goals (dsimp only [xin] at hs)
  · split at hs
    next p0 k' qp =>
      unfold xcv at hs
      split at hs
      next =>
        split at hs
        next =>
          split at hs
          next =>
            obtain ⟨z1, z2, z3, z4, z5, z6⟩ := xcaV_ok hs
            cases z1
            obtain ⟨-, -, -, w4⟩ := xpk_ok _ _ _ qp
            exact ⟨by simpa [Nat.blt_eq] using w4, z5⟩
          next => cases hs
        next => cases hs
      next => cases hs
    next => cases hs
  · split at hs
    next p0 k' qp =>
      obtain ⟨z1, z2, z3, z4, z5, z6⟩ := xcaV_ok hs
      cases z1
      obtain ⟨-, -, w4⟩ := xpk_ok _ _ _ qp
      exact ⟨by simpa [Nat.blt_eq] using w4, z5⟩
    next p0 k' qp =>
      obtain ⟨z1, z2, z3, z4, z5, z6⟩ := xcal_ok hs
      cases z1
      obtain ⟨-, -, w4⟩ := xpk_ok _ _ _ qp
      exact ⟨by simpa [Nat.blt_eq] using w4, z5⟩
    next p0 k' qp =>
      obtain ⟨z1, z2, z3, z4, z5, z6⟩ := xcal_ok hs
      cases z1
      obtain ⟨-, -, w4⟩ := xpk_ok _ _ _ qp
      exact ⟨by simpa [Nat.blt_eq] using w4, z5⟩
    next => cases hs
  · split at hs
    next => (split at hs
             next => (split at hs
                      next => unfold xnx at hs; cases hs
                      next => cases hs)
             next => cases hs)
    next p0 k' qp =>
      unfold xcI at hs
      split at hs
      next =>
        obtain ⟨z1, z2, z3, z4, z5, z6⟩ := xcal_ok hs
        cases z1
        obtain ⟨-, -, -, -, w4⟩ := xpk_ok _ _ _ qp
        exact ⟨by simpa [Nat.blt_eq] using w4, z5⟩
      next => cases hs
    next p0 k' qp =>
      unfold xcI at hs
      split at hs
      next =>
        obtain ⟨z1, z2, z3, z4, z5, z6⟩ := xcal_ok hs
        cases z1
        obtain ⟨-, -, -, -, w4⟩ := xpk_ok _ _ _ qp
        exact ⟨by simpa [Nat.blt_eq] using w4, z5⟩
      next => cases hs
    next => cases hs
/-- runs of n steps are the real machine's -/
def xS (l : Launch) (V : xV) (D : va_G) (cy : Nat → ClassId) (n0 n : Nat) : Prop := ∀ (j pc : Nat) (lv : xL) (st : List Value) (h : xH) (r : xQ) (h1 : xH), xev V n j pc lv st h = some (r, h1) → (h.2.2.1 ≤ h1.2.2.1 ∧ h.2.2.2 ≤ h1.2.2.2) ∧
  ∀ (p : Program) (e : Env) (R : Room) (s : State) (m : MethodId) (args : Array Value) (below : List Frame) (meth : Method) (c : Code) (c0 k0 : Nat), xc p R s m args meth c V D cy n0 j → c.exceptionTable.toList = tableOf (xhh j) → (h1.2.2.1 - c0 ≤ R.cells ∧ h1.2.2.2 - k0 ≤ R.slots) →
    xgo p l e R s m args below meth c (vx_MQ below (xQc D cy n0 r h1) (xXC D cy n0 r h1) args s (h1.2.2.1 - c0) (h1.2.2.2 - k0) (xAd n0)) D cy n0 c0 k0 j pc lv st h
theorem xpl_all : ∀ k, k < 198 → Nat.ble 189 k = true → plainName (xy k).cls = true := by decide +kernel
theorem xhl_all : ∀ k, k < 198 → Nat.ble 189 k = false → xhh k = [] := by decide +kernel
theorem xplain {k : Nat} (hk : k < 198) (h : xhh k ≠ []) : plainName (xy k).cls = true := by
  cases hb : Nat.ble 189 k with
  | true => exact xpl_all k hk hb
  | false => exact absurd (xhl_all k hk hb) h
theorem xmet_of {l : Launch} {V : xV} {D : va_G} {cy : Nat → ClassId} {n0 n : Nat} (S : xS l V D cy n0 n) {k : Nat} {as : List Value} {h h1 : xH} {r : xQ} (hk : k < 198) (hev : xev V n k 0 (lv_args 0 as) [] h = some (r, h1)) (hfit : (lg_sl as).length ≤ xmL k) : xMet l V D cy n0 k as h r h1 := by
  obtain ⟨hm, S⟩ := S k 0 (lv_args 0 as) [] h r h1 hev
  have body : ∀ (p : Program) (e : Env) (s : State) (m : MethodId) (args : Array Value) (below : List Frame) (meth : Method) (c : Code) (s₁ : State), BodyLoose p l (xy k) (headSpec (xcw k :: xws) (xrm k h h1)) (xcd k) (xmL k) (xrt k) e s m args below meth c s₁ → c.maxLocals = xmL k → c.exceptionTable.toList = tableOf (xhh k) → xPc V D cy n0 as h args s →
      W p l e (headSpec (xcw k :: xws) (xrm k h h1)).room s m args below meth c s.heap [] 0 0 (vx_MQ below (xQc D cy n0 r h1) (xXC D cy n0 r h1) args s (h1.2.2.1 - h.2.2.1) (h1.2.2.2 - h.2.2.2) (xAd n0)) (entryFrame m args (xmL k)) := by
    intro p e s m args below meth c s₁ B hml ht hP
    obtain ⟨rfl, hE, hI, hz, hdom, h0⟩ := hP
    have hts0 := atoms_spec (ws := xcw k :: xws) B.pre
    have hown := findClass_of_methodNamed B.named
    rw [xcls hk] at hown
    have C : xc p (xrm k h h1) s m as.toArray meth c V D cy n0 k := ⟨B.exec, B.bytes, hml, B.returns, B.notSynchronized, hown, fun w hw => hts0 w (List.mem_cons_of_mem _ hw), fun q => by rw [(name_of_methodNamed B.named B.method).1]; exact xisI_ok q, hE, Nat.le_refl _, Nat.le_refl _⟩
    have G := S p e (xrm k h h1) s m as.toArray below meth c h.2.2.1 h.2.2.2 C ht ⟨Nat.le_refl _, Nat.le_refl _⟩
    have hl := lv_entry as hfit
    rw [lg_entry_eq]
    have G2 := G _ s.heap [] ⟨hI, hz, va_S.rf, hdom, h0⟩ hl (Nat.le_refl _) (Nat.le_refl _)
    rw [Nat.sub_self, Nat.sub_self] at G2
    exact G2
  cases hh : xhh k with
  | nil =>
    have hcw : xcw k = Cond.code (xy k) (xcd k) (xmL k) (xrt k) := by unfold xcw; rw [hh]
    refine xv_ofW (cc := xcd k) (maxL := xmL k) (ret := xrt k) (ws' := xws) (xdesc hk).2.2.2 (by rw [hcw]) ?_
    intro p e s m args below meth c s₁ B hml ht hP
    refine body p e s m args below meth c s₁ B hml ?_ hP
    rw [hh]
    cases ht9 : c.exceptionTable.toList with
    | nil => rfl
    | cons x t => exact (ht x (by rw [ht9]; exact List.mem_cons_self)).elim
  | cons a t =>
    have hcw : xcw k = Cond.codeWith (xy k) (xcd k) (xmL k) (xrt k) (a :: t) := by unfold xcw; rw [hh]
    refine vx_ofWH (cc := xcd k) (maxL := xmL k) (ret := xrt k) (hh := a :: t) (ws' := xws) (xplain hk (by rw [hh]; exact fun z => by cases z)) (by rw [hcw]) ?_
    intro p e s m args below meth c s₁ B hml hP
    refine body p e s m args below meth c s₁ B hml ?_ hP
    rw [hh]
    exact vx_table (x := xy k) B (atoms_spec (ws := xcw k :: xws) B.pre _ (by rw [← hcw]; exact List.mem_cons_self))
