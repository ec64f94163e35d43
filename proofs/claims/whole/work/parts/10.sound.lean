/-! a call, an answer: the small machine's are the real one's -/
def xQc (D : va_G) (cy : Nat → ClassId) (n0 : Nat) (r : xQ) (h1 : xH) : Array Value → State → Outcome → State → Prop := fun _ st oc t =>
  (∃ v, r = .inl v ∧ oc = .returned v ∧ xI D cy h1.1 t.heap ∧ t.heap.size = h1.2.1 ∧ (∀ a e, h1.1 a = some e → n0 ≤ a)) ∧ va_F (xAd n0) st t
def xXC (D : va_G) (cy : Nat → ClassId) (n0 : Nat) (r : xQ) (h1 : xH) : String → State → State → Prop := fun E st t =>
  (∃ n, r = .inr n ∧ E = xexc n ∧ xI D cy h1.1 t.heap ∧ t.heap.size = h1.2.1 ∧ (∀ a e, h1.1 a = some e → n0 ≤ a)) ∧ va_F (xAd n0) st t
def xPc (V : xV) (D : va_G) (cy : Nat → ClassId) (n0 : Nat) (as : List Value) (h : xH) : Array Value → State → Prop := va_Pc as (fun U => xenv V D cy n0 U ∧ xI D cy h.1 U.heap ∧ U.heap.size = h.2.1 ∧ (∀ a e, h.1 a = some e → n0 ≤ a) ∧ n0 ≤ U.heap.size)
def xrm (k : Nat) (h h1 : xH) : Room := { frames := xfr k, cells := h1.2.2.1 - h.2.2.1, slots := h1.2.2.2 - h.2.2.2, locals := xlo k }
/-- what a run of the small machine says of the real one -/
def xMet (l : Launch) (V : xV) (D : va_G) (cy : Nat → ClassId) (n0 k : Nat) (as : List Value) (h : xH) (r : xQ) (h1 : xH) : Prop :=
  vx_Met l (xy k) (xcw k :: xws) (xrm k h h1) (xPc V D cy n0 as h) (xQc D cy n0 r h1) (xXC D cy n0 r h1) (h1.2.2.1 - h.2.2.1) (h1.2.2.2 - h.2.2.2) (xAd n0)
theorem xMet.ret {l : Launch} {V : xV} {D : va_G} {cy : Nat → ClassId} {n0 k : Nat} {as : List Value} {h h1 : xH} {v : Option Value} (hM : xMet l V D cy n0 k as h (.inl v) h1) :
    Met l (xy k) (xcw k :: xws) (xrm k h h1) (xPc V D cy n0 as h) (xQc D cy n0 (.inl v) h1) (h1.2.2.1 - h.2.2.1) (h1.2.2.2 - h.2.2.2) (xAd n0) := by
  intro p e ha hc hk s m args below hf happ hP hK
  obtain ⟨n, o, a1, a2, a3, hq⟩ := hM p e ha hc hk s m args below hf happ hP hK
  refine ⟨n, o, a1, a2, a3, ?_⟩
  rcases hq with q | ⟨q, -, E, ce, L, ⟨⟨z, hz, -⟩, -⟩, -⟩
  · exact q
  · cases hz
theorem xgi {L : List Cond} (h : ∀ w ∈ L, w ∈ xws) : GoodIn xws L := fun w hw => ⟨h w hw, good_of_word (List.mem_filter.mp (h w hw)).2⟩
theorem xcw_in {j : Nat} (hj : j < 198) : xcw j ∈ xws := by
  have h1 := (xmq_ok j hj).1.1
  refine xwd_in h1 ?_
  unfold xcw
  split <;> rfl
theorem xsw_in {j : Nat} (hj : j < 198) : xsw j ∈ xws := by
  have h1 := (xmq_ok j hj).1.2.1
  refine xwd_in h1 ?_
  unfold xsw
  split <;> rfl
theorem xni_in {j : Nat} (hj : j < 198) : Cond.initialized (xy j).cls ∈ xws := xwd_in (xmq_ok j hj).1.2.2.1 rfl
theorem xcls {j : Nat} (hj : j < 198) : (xy j).cls = xown (xow j) := (xmq_ok j hj).1.2.2.2
theorem xdesc {j : Nat} (hj : j < 198) : (xy j).cls ≠ "java/lang/invoke/MethodHandle" ∧ (xy j).cls ≠ "java/lang/invoke/VarHandle" ∧ (parseMethodDescriptor (xy j).desc).map (fun d => d.parameters.length) = some (xpn j) ∧ plainFor (xy j) = true := by
  have h := (xmq_ok j hj).2
  simp only [xmd, Bool.and_eq_true, decide_eq_true_eq] at h
  exact ⟨h.1.1.1, h.1.1.2, h.1.2, h.2⟩
theorem xnest_all : (xpl.all fun l => l.all fun e => match e.2 with | .inr (.inl (_, kd, j)) => Nat.beq kd 7 || (xhh j).isEmpty | _ => true) = true := by decide +kernel
theorem xhh_0 {o i p kd j : Nat} (h : xpo o i = some (.inr (.inl (p, kd, j)))) (hk : kd ≠ 7) : xhh j = [] := by
  unfold xpo at h
  by_cases ho : o < xpl.length
  · have hm : xpl.getD o [] ∈ xpl := by
      rw [List.getD_eq_getElem?_getD, List.getElem?_eq_getElem ho]
      exact List.getElem_mem ho
    have h2 := List.all_eq_true.mp (List.all_eq_true.mp xnest_all _ hm) _ (xlk_mem h)
    simp only [Bool.or_eq_true] at h2
    rcases h2 with q | q
    · exact absurd (Nat.eq_of_beq_eq_true q) hk
    · exact List.isEmpty_iff.mp q
  · rw [List.getD_eq_getElem?_getD, List.getElem?_eq_none (by omega)] at h
    cases h
theorem xenv_to {V : xV} {D : va_G} {cy : Nat → ClassId} {n0 : Nat} {s U : State} {locs : List Loc} (hE : xenv V D cy n0 s) (h0 : n0 ≤ s.heap.size) (hW : s.WarmedH U.vm) (hS : va_S (xAd n0) s.heap U.heap locs) : xenv V D cy n0 U := by
  obtain ⟨e1, e2, e3, e4, e5, e6, e7, e8⟩ := hE
  refine ⟨va_K.moved hW.alike e1, fun w hw => ?_, va_Z.moved hW.alike (va_Z.kept e3 hS.2.1), va_T.moved hW.alike (va_T.kept e4 hS.2.1), va_X.moved hW.alike (va_X.kept e5 (hS.2.1 _ (Nat.lt_of_lt_of_le e6 h0) (Nat.not_le.mpr e6))), e6, fun k h1 h2 => va_AO.moved hW.alike (e7 k h1 h2), fun w hw => ?_, fun q hq => ?_, vx_Zq.moved hW.alike (vx_Zq.kept e8.2.2.1 hS.2.1), vx_Zq.moved hW.alike (vx_Zq.kept e8.2.2.2 hS.2.1)⟩
  · have h9 := e2 w hw
    have h8 := (List.mem_filter.mp hw).2
    unfold xnw at h8
    split at h8
    · exact va_Nw.warmF hW h9
    · exact va_Nw.warmM hW h9
    · cases h8
  · have h9 := e8.1 w hw
    have h8 := List.all_eq_true.mp xbw_ca w hw
    unfold xisCa at h8
    split at h8
    · exact va_Nw.warmC hW h9
    · exact va_Nw.warmD hW h9
    · cases h8
  · obtain ⟨tx, sa, h9⟩ := e8.2.1 q hq
    exact ⟨tx, sa, vk_R.warm hW h9⟩
theorem xPc_blind {V : xV} {D : va_G} {cy : Nat → ClassId} {n0 : Nat} {as : List Value} {h : xH} : FrameBlind (xPc V D cy n0 as h) := by
  intro a U g mk q
  obtain ⟨q0, q1, q2, q3, q4, q5⟩ := q
  exact ⟨q0, xenv_to (U := U.calling g mk a) (locs := []) q1 q5 (State.WarmedH.refl U) va_S.rf, q2, q3, q4, q5⟩
/-- what a step can be: one that goes on only adds to what was made; an end is an answer or a throw; a call is a call -/
theorem xin_mono {V : xV} {j pc pc' : Nat} {lv lv' : xL} {st st' : List Value} {h h' : xH} {i : Instr} (hs : xin V j pc lv st h i = some (.inl (pc', lv', st', h'))) : h.2.2.1 ≤ h'.2.2.1 ∧ h.2.2.2 ≤ h'.2.2.2 := by
  cases i
  all_goals (dsimp only [xin] at hs)
  all_goals (try unfold xal at hs)
  all_goals (try unfold xil at hs)
  all_goals (try unfold xll at hs)
  all_goals (try unfold xas at hs)
  all_goals (try unfold xis at hs)
  all_goals (try unfold xls at hs)
  all_goals (try unfold xbr at hs)
  all_goals (try unfold xgetf at hs)
  all_goals (try unfold xputf at hs)
  all_goals (try unfold xnew at hs)
  all_goals (try unfold xnwa at hs)
  all_goals (try unfold xanw at hs)
  all_goals (try unfold xcv at hs)
  all_goals (try unfold xcI at hs)
  all_goals (try unfold xcaV at hs)
  all_goals (try unfold xcal at hs)
  all_goals (try unfold xthr at hs)
  all_goals (repeat' split at hs)
  all_goals first | (cases hs; done) | (unfold xnx at hs; cases hs; exact ⟨Nat.le_refl _, Nat.le_refl _⟩) | (unfold xnx at hs; cases hs; exact ⟨Nat.le_succ _, Nat.le_add_right _ _⟩)
def xisE : Instr → Bool
  | .ireturn | .lreturn | .areturn | .return_ => true
  | _ => false
theorem xin_ret {V : xV} {j pc : Nat} {lv : xL} {st : List Value} {h : xH} {i : Instr} {v : Option Value} (hs : xin V j pc lv st h i = some (.inr (.inr (.inl v)))) : xisE i = true := by
  cases i
  all_goals first | rfl | skip
  all_goals (exfalso; dsimp only [xin] at hs)
  all_goals (try unfold xal at hs)
  all_goals (try unfold xil at hs)
  all_goals (try unfold xll at hs)
  all_goals (try unfold xas at hs)
  all_goals (try unfold xis at hs)
  all_goals (try unfold xls at hs)
  all_goals (try unfold xbr at hs)
  all_goals (try unfold xgetf at hs)
  all_goals (try unfold xputf at hs)
  all_goals (try unfold xnew at hs)
  all_goals (try unfold xnwa at hs)
  all_goals (try unfold xanw at hs)
  all_goals (try unfold xcv at hs)
  all_goals (try unfold xcI at hs)
  all_goals (try unfold xcaV at hs)
  all_goals (try unfold xcal at hs)
  all_goals (try unfold xthr at hs)
  all_goals (repeat' split at hs)
  all_goals first | (cases hs; done) | (unfold xnx at hs; cases hs; done)
theorem xin_thr {V : xV} {j pc E : Nat} {lv : xL} {st : List Value} {h : xH} {i : Instr} (hs : xin V j pc lv st h i = some (.inr (.inr (.inr E)))) : ∃ k, i = .new k := by
  cases i
  all_goals first | exact ⟨_, rfl⟩ | skip
  all_goals (exfalso; dsimp only [xin] at hs)
  all_goals (try unfold xal at hs)
  all_goals (try unfold xil at hs)
  all_goals (try unfold xll at hs)
  all_goals (try unfold xas at hs)
  all_goals (try unfold xis at hs)
  all_goals (try unfold xls at hs)
  all_goals (try unfold xbr at hs)
  all_goals (try unfold xgetf at hs)
  all_goals (try unfold xputf at hs)
  all_goals (try unfold xnew at hs)
  all_goals (try unfold xnwa at hs)
  all_goals (try unfold xanw at hs)
  all_goals (try unfold xcv at hs)
  all_goals (try unfold xcI at hs)
  all_goals (try unfold xcaV at hs)
  all_goals (try unfold xcal at hs)
  all_goals (try unfold xthr at hs)
  all_goals (repeat' split at hs)
  all_goals first | (cases hs; done) | (unfold xnx at hs; cases hs; done)
theorem xin_call {V : xV} {j pc : Nat} {lv : xL} {st : List Value} {h : xH} {i : Instr} {q : Nat × List Value × List Value} (hs : xin V j pc lv st h i = some (.inr (.inl q))) : (∃ k, i = .invokevirtual k) ∨ (∃ k, i = .invokestatic k) ∨ ∃ k, i = .invokespecial k := by
  cases i
  all_goals first | exact Or.inl ⟨_, rfl⟩ | exact Or.inr (Or.inl ⟨_, rfl⟩) | exact Or.inr (Or.inr ⟨_, rfl⟩) | skip
  all_goals (exfalso; dsimp only [xin] at hs)
  all_goals (try unfold xal at hs)
  all_goals (try unfold xil at hs)
  all_goals (try unfold xll at hs)
  all_goals (try unfold xas at hs)
  all_goals (try unfold xis at hs)
  all_goals (try unfold xls at hs)
  all_goals (try unfold xbr at hs)
  all_goals (try unfold xgetf at hs)
  all_goals (try unfold xputf at hs)
  all_goals (try unfold xnew at hs)
  all_goals (try unfold xnwa at hs)
  all_goals (try unfold xanw at hs)
  all_goals (try unfold xcv at hs)
  all_goals (try unfold xcI at hs)
  all_goals (try unfold xcaV at hs)
  all_goals (try unfold xcal at hs)
  all_goals (try unfold xthr at hs)
  all_goals (repeat' split at hs)
  all_goals first | (cases hs; done) | (unfold xnx at hs; cases hs; done)
section XC
variable {p : Program} {l : Launch} {e : Env} {R : Room} {s : State} {m : MethodId} {args : Array Value} {below : List Frame} {meth : Method} {c : Code} {Q : State → Prop}
variable {pc j n0 c0 k0 pc' : Nat} {st st' : List Value} {D : va_G} {cy : Nat → ClassId} {V : xV} {h h' : xH} {lv lv' : xL}
/-- the answer -/
theorem xend (C : xc p R s m args meth c V D cy n0 j) {v : Option Value} (hs : xst V j pc lv st h = some (.inr (.inr (.inl v)))) : xgo p l e R s m args below meth c (vx_MQ below (xQc D cy n0 (.inl v) h) (xXC D cy n0 (.inl v) h) args s (h.2.2.1 - c0) (h.2.2.2 - k0) (xAd n0)) D cy n0 c0 k0 j pc lv st h := by
  obtain ⟨i, len, hd, -, hln, hs⟩ := xst_in hs
  intro ls H locs P hl hc hk
  have hq : ∀ t : State, t.heap = H → s.WarmedH t.vm → xQc D cy n0 (.inl v) h args s (.returned v) t := fun t ht hW => ⟨⟨v, rfl, rfl, by rw [ht]; exact P.1, by rw [ht]; exact P.2.1, P.2.2.2.1⟩, P.2.2.1.F ht⟩
  have hf : ∀ q ∈ locs, xAd n0 q.base := P.2.2.1.2.2
  have hr := C.2.2.2.1
  have hlk := C.2.2.2.2.1
  cases i
  case ireturn =>
    rcases hln with q | q; (· cases q)
    subst q
    dsimp only [xin] at hs
    split at hs
    · split at hs
      next q => cases hs; rw [q] at hr; exact vx_ret (W.iret C.1 C.2.1 hr hq hf hd hlk)
      next q => (split at hs
                 next z => cases hs; rw [q] at hr; exact vx_ret (W.zret C.1 C.2.1 hr (by rcases z with rfl | rfl <;> rfl) hq hf hd hlk)
                 next => cases hs)
      next => cases hs
    · cases hs
  case lreturn =>
    rcases hln with q | q; (· cases q)
    subst q
    dsimp only [xin] at hs
    split at hs
    · split at hs
      next q => cases hs; rw [q] at hr; exact vx_ret (W.lret C.1 C.2.1 hr hq hf hd hlk)
      next => cases hs
    · cases hs
  case areturn =>
    rcases hln with q | q; (· cases q)
    subst q
    dsimp only [xin] at hs
    split at hs
    · split at hs
      next q => cases hs; rw [q] at hr; exact vx_ret (W.aret C.1 C.2.1 hr (Or.inl ⟨_, rfl⟩) (Or.inr ⟨_, rfl⟩) hq hf hd hlk)
      next => cases hs
    · split at hs
      next q => cases hs; rw [q] at hr; exact vx_ret (W.aret C.1 C.2.1 hr (Or.inl ⟨_, rfl⟩) (Or.inl rfl) hq hf hd hlk)
      next => cases hs
    · cases hs
  case return_ =>
    rcases hln with q | q; (· cases q)
    subst q
    dsimp only [xin] at hs
    split at hs
    · split at hs
      next q => cases hs; rw [q] at hr; exact vx_ret (W.vret C.1 C.2.1 hr hq hf hd hlk)
      next => cases hs
    · cases hs
  all_goals (exact absurd (xin_ret hs) Bool.false_ne_true)
end XC
