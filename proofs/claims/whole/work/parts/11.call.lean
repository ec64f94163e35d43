/-! calls -/
theorem xcal_ok {j k : Nat} {st : List Value} {q : Nat × List Value × List Value} (h : xcal j k st = some (.inr (.inl q))) : q = (k, (st.take (xna k)).reverse, st.drop (xna k)) ∧ xna k ≤ st.length ∧ xfr k + 1 ≤ xfr j ∧ 8 + (xmL k + 11) + xlo k ≤ xlo j ∧ (lg_sl (st.take (xna k)).reverse).length ≤ xmL k ∧ ((st.drop (xna k)).map fun v => v.category).sum ≤ 8 := by
  unfold xcal at h
  split at h
  next hc => cases h; exact ⟨rfl, hc⟩
  next => cases h
theorem xcaV_ok {j k : Nat} {st : List Value} {q : Nat × List Value × List Value} (h : xcaV j k st = some (.inr (.inl q))) : q = (k, (st.take (xna k)).reverse, st.drop (xna k)) ∧ xna k ≤ st.length ∧ xfr k + 1 ≤ xfr j ∧ 8 + (xmL k + 11) + xlo k ≤ xlo j ∧ (lg_sl (st.take (xna k)).reverse).length ≤ xmL k ∧ (((st.drop (xna k)).map fun v => v.category).sum ≤ 8 ∨ ((xhh j).isEmpty = true ∧ ((st.drop (xna k)).map fun v => v.category).sum + (xmL k + 11) + xlo k ≤ xlo j)) := by
  unfold xcaV at h
  split at h
  next hc => cases h; exact ⟨rfl, hc⟩
  next => cases h
/-- a call of a receiver's own method, with more of the stack left -/
theorem xrunV {p : Program} {l : Launch} {e : Env} {R : Room} {s : State} {m : MethodId} {args : Array Value} {below : List Frame} {meth : Method} {c : Code} {cc : ByteArray} {nL : Nat} {Ts : List Cond} {own C : String} {index : Nat} {y : MethodName} {bytes : ByteArray} {maxL : Nat} {ret : Option FieldType} {ws : List Cond} {rm : Room} {mc ms n : Nat} {Pc : Array Value → State → Prop} {Qc : Array Value → State → Outcome → State → Prop} {free : Addr → Prop} {H : Heap} {b : Addr} {As rest : List Value} {g : JFrame} {locs : List Loc} {cells slots : Nat} {W : Nat} (S : CallFix p m c cc nL s args Ts own) (hM : Met l y ws rm Pc Qc mc ms free) (cw : CallW R s args own C index y bytes maxL ret ws rm mc ms n) (hlo : W + (maxL + 11) + rm.locals ≤ R.locals) (hp : PreV s H C b Pc As)
    (hg : g.method = m) (hn : As.length = n) (hsize : g.locals.size = nL) (hstack : g.stack = As.reverse ++ .ref b :: rest) (hW : 2 * g.monitorRoom + (rest.map fun v => v.category).sum ≤ W) (hdg : decode cc g.pc = .ok (.invokevirtual index, 3)) (hf : cells + mc ≤ R.cells ∧ slots + ms ≤ R.slots) :
    va_Run p l e R s m args below meth c H locs cells slots mc ms g rest (Qc (Value.ref b :: As).toArray) (free) := by
  obtain ⟨⟨hrc, hrs, hfr, -, hws, hcw, hcode, hini, hy, hlen, hl⟩, hin, hse⟩ := cw
  have hK : Back l R p e below s args y 3 W (PreOf R mc ms Pc) (PostOf Qc mc ms free) := back_of (bytes := bytes) (maxL := maxL) (ret := ret) hM hp.1 hrc hrs hfr hlo hws hcw (fun a' U hW => word_at hW (Or.inl (by first | rfl | simp [Cond.onTables, Cond.keeps, Cond.steady])) hini)
  obtain ⟨hx, hb, hml, ho, -⟩ := S
  obtain ⟨-, ⟨cellB, hcB, hoB, hclB⟩, hPc⟩ := hp
  intro T hT X
  obtain ⟨v, vm₁, ⟨U', l2, c2, s2⟩, hW₁, X', ⟨g', mk, t, L, e1, e2, hq, h1, hL, h2, h3⟩, st⟩ := callV X hx (C := C) (bytes := bytes) (maxL := maxL) (ret := ret) ho hl hin hse hcode hy hK (by rw [hT]; exact hcB) hoB hclB hg (hsize.trans hml.symm) (argsL := As) (rest := rest) (fun sig h => hn.trans (hlen sig h)) hstack hW (by rw [hb]; exact hdg)
    (fun vm₁ hW₁ => ⟨hf.1, hf.2, hPc (T.setVm vm₁) hT hW₁⟩)
  dsimp only [Pt.U, Pt.locs, Pt.cells, Pt.slots] at X' e1 e2 h1 h2 h3 st
  subst h1; subst h2; subst h3
  exact ⟨v, (T.setVm vm₁).calling g' mk (Value.ref b :: As).toArray, t, U', L, hT, X', hL, e1, e2, hq, st⟩
theorem xrunS {p : Program} {l : Launch} {e : Env} {R : Room} {s : State} {m : MethodId} {args : Array Value} {below : List Frame} {meth : Method} {c : Code} {cc : ByteArray} {nL : Nat} {Ts : List Cond} {own : String} {index : Nat} {y : MethodName} {bytes : ByteArray} {maxL : Nat} {ret : Option FieldType} {ws : List Cond} {rm : Room} {mc ms n : Nat} {Pc : Array Value → State → Prop} {Qc : Array Value → State → Outcome → State → Prop} {free : Addr → Prop} {H : Heap} {As rest : List Value} {g : JFrame} {locs : List Loc} {cells slots : Nat} {W : Nat} (S : CallFix p m c cc nL s args Ts own) (hM : Met l y ws rm Pc Qc mc ms free) (cw : CallB R s args own index y bytes maxL ret ws rm mc ms n ∧ (Cond.static y).before args s = true) (hlo : W + (maxL + 11) + rm.locals ≤ R.locals) (hp : PreS s H Pc As)
    (hg : g.method = m) (hn : As.length = n) (hsize : g.locals.size = nL) (hstack : g.stack = As.reverse ++ rest) (hW : 2 * g.monitorRoom + (rest.map fun v => v.category).sum ≤ W) (hdg : decode cc g.pc = .ok (.invokestatic index, 3)) (hf : cells + mc ≤ R.cells ∧ slots + ms ≤ R.slots) :
    va_Run p l e R s m args below meth c H locs cells slots mc ms g rest (Qc As.toArray) (free) := by
  obtain ⟨⟨hrc, hrs, hfr, -, hws, hcw, hcode, hini, hy, hlen, hl⟩, hstt⟩ := cw
  have hK : Back l R p e below s args y 3 W (PreOf R mc ms Pc) (PostOf Qc mc ms free) := back_of (bytes := bytes) (maxL := maxL) (ret := ret) hM hp.1 hrc hrs hfr hlo hws hcw (fun a' U hW => word_at hW (Or.inl (by first | rfl | simp [Cond.onTables, Cond.keeps, Cond.steady])) hini)
  obtain ⟨hx, hb, hml, ho, -⟩ := S
  intro T hT X
  obtain ⟨v, vm₁, ⟨U', l2, c2, s2⟩, hW₁, X', ⟨g', mk, t, L, e1, e2, hq, h1, hL, h2, h3⟩, st⟩ := callS X hx (bytes := bytes) (maxL := maxL) (ret := ret) ho hl hstt hini hcode hy hK hg (hsize.trans hml.symm) (argsL := As) (rest := rest) (fun sig h => hn.trans (hlen sig h)) hstack hW (by rw [hb]; exact hdg)
    (fun vm₁ hW₁ => ⟨hf.1, hf.2, hp.2 (T.setVm vm₁) hT hW₁⟩)
  dsimp only [Pt.U, Pt.locs, Pt.cells, Pt.slots] at X' e1 e2 h1 h2 h3 st
  subst h1; subst h2; subst h3
  exact ⟨v, (T.setVm vm₁).calling g' mk As.toArray, t, U', L, hT, X', hL, e1, e2, hq, st⟩
theorem xstk {st : List Value} {n : Nat} : st = (st.take n).reverse.reverse ++ st.drop n := by rw [List.reverse_reverse, List.take_append_drop]
theorem xstk_v {st As : List Value} {n b : Nat} (h : (st.take n).reverse = .ref b :: As) : st = As.reverse ++ .ref b :: st.drop n := by
  have h1 : st.take n = As.reverse ++ [.ref b] := by
    have h2 := congrArg List.reverse h
    rw [List.reverse_reverse, List.reverse_cons] at h2
    exact h2
  calc st = st.take n ++ st.drop n := (List.take_append_drop n st).symm
    _ = As.reverse ++ .ref b :: st.drop n := by rw [h1, List.append_assoc]; rfl
theorem xci_lt {D : va_G} {cy : Nat → ClassId} {n0 : Nat} {H0 : Heap} {h : xH} {H : Heap} {locs : List Loc} {b ci : Nat} {fs : List Value} (P : xpt D cy n0 H0 h H locs) (hb : h.1 b = some (.inr (ci, fs))) : ci < 11 := by
  obtain ⟨r, h1, -⟩ := P.1 b _ hb
  exact (List.getElem?_eq_some_iff.mp h1).1
theorem xnest_7 : (xpl.all fun l => l.all fun e => match e.2 with | .inr (.inl (_, kd, j)) => !Nat.beq kd 7 || !(xhh j).isEmpty | _ => true) = true := by decide +kernel
theorem xhh_7 {o i p j : Nat} (h : xpo o i = some (.inr (.inl (p, 7, j)))) : ∃ a t, xhh j = a :: t := by
  unfold xpo at h
  by_cases ho : o < xpl.length
  · have hm : xpl.getD o [] ∈ xpl := by
      rw [List.getD_eq_getElem?_getD, List.getElem?_eq_getElem ho]
      exact List.getElem_mem ho
    have h2 := List.all_eq_true.mp (List.all_eq_true.mp xnest_7 _ hm) _ (xlk_mem h)
    simp only [Bool.or_eq_true, Bool.not_eq_true'] at h2
    rcases h2 with q | q
    · cases q
    · cases hq : xhh j with
      | nil => rw [hq] at q; cases q
      | cons a t => exact ⟨a, t, rfl⟩
  · rw [List.getD_eq_getElem?_getD, List.getElem?_eq_none (by omega)] at h
    cases h
section XK
variable {p : Program} {l : Launch} {e : Env} {R : Room} {s : State} {m : MethodId} {args : Array Value} {below : List Frame} {meth : Method} {c : Code} {Q : State → Prop}
variable {pc j n0 c0 k0 pc' : Nat} {st st' : List Value} {D : va_G} {cy : Nat → ClassId} {V : xV} {h h1 : xH} {lv lv' : xL}
/-- behind a call that answered -/
theorem xback {H : Heap} {locs : List Loc} {ls : Array Slot} {rest : List Value} {v : Option Value} {a : Array Value} (P : xpt D cy n0 s.heap h H locs) (hl : lv_has ls (xmL j) lv) (hc : c0 ≤ h.2.2.1) (hk : k0 ≤ h.2.2.2) (hm : h.2.2.1 ≤ h1.2.2.1 ∧ h.2.2.2 ≤ h1.2.2.2)
    (hr : va_Run p l e R s m args below meth c H locs (h.2.2.1 - c0) (h.2.2.2 - k0) (h1.2.2.1 - h.2.2.1) (h1.2.2.2 - h.2.2.2) (F0 m pc ls st) rest (xQc D cy n0 (.inl v) h1 a) (xAd n0))
    (K : xgo p l e R s m args below meth c Q D cy n0 c0 k0 j (pc + 3) lv (v.toList ++ rest) h1) : W p l e R s m args below meth c H locs (h.2.2.1 - c0) (h.2.2.2 - k0) Q (F0 m pc ls st) := by
  intro T hT X
  obtain ⟨v', st₀, t, T', L, h0, X', hL, e1, e2, ⟨⟨v2, hv2, hv3, g1, g2, g3⟩, hz, hkk⟩, hst⟩ := hr T hT X
  cases hv2
  cases hv3
  rw [h0] at hz hkk
  have P' : xpt D cy n0 s.heap h1 T'.heap (locs ++ L) := by
    refine ⟨by rw [e1]; exact g1, by rw [e1]; exact g2, ⟨Nat.le_trans P.2.2.1.1 (by rw [e1]; exact hz), fun q q1 q2 => by rw [e1, hkk q (Nat.lt_of_lt_of_le q1 P.2.2.1.1) q2]; exact P.2.2.1.2.1 q q1 q2, fun q hq => ?_⟩, g3, P.2.2.2.2⟩
    rcases List.mem_append.mp hq with z | z
    · exact P.2.2.1.2.2 q z
    · exact hL q z
  have K1 := K ls T'.heap (locs ++ L) P' hl (Nat.le_trans hc hm.1) (Nat.le_trans hk hm.2)
  rw [show h.2.2.1 - c0 + (h1.2.2.1 - h.2.2.1) = h1.2.2.1 - c0 by omega, show h.2.2.2 - k0 + (h1.2.2.2 - h.2.2.2) = h1.2.2.2 - k0 by omega] at X'
  obtain ⟨t2, a1, b1⟩ := K1 T' rfl X'
  exact ⟨t2, hst t2 a1, b1⟩
theorem xcall (C : xc p R s m args meth c V D cy n0 j) {k : Nat} {as rest : List Value} {v : Option Value} (hs : xst V j pc lv st h = some (.inr (.inl (k, as, rest)))) (hM : xMet l V D cy n0 k as h (.inl v) h1) (hm : h.2.2.1 ≤ h1.2.2.1 ∧ h.2.2.2 ≤ h1.2.2.2) (hR : h1.2.2.1 - c0 ≤ R.cells ∧ h1.2.2.2 - k0 ≤ R.slots)
    (K : xgo p l e R s m args below meth c Q D cy n0 c0 k0 j (pc + 3) lv (v.toList ++ rest) h1) : xgo p l e R s m args below meth c Q D cy n0 c0 k0 j pc lv st h := by
  obtain ⟨i, len, hd, -, hln, hs⟩ := xst_in hs
  have hM := hM.ret
  intro ls H locs P hl hc hk
  have hfit : h.2.2.1 - c0 + (h1.2.2.1 - h.2.2.1) ≤ R.cells ∧ h.2.2.2 - k0 + (h1.2.2.2 - h.2.2.2) ≤ R.slots := ⟨by have := hR.1; omega, by have := hR.2; omega⟩
  obtain ⟨hx, hb, hml, -, -, hown, hts, -, hE, hfr, hlo⟩ := id C
  have S : CallFix p m c (xcd j) (xmL j) s args xws (xown (xow j)) := ⟨hx, hb, hml, hown, hts⟩
  have hpre : ∀ U : State, U.heap = H → s.WarmedH U.vm → xPc V D cy n0 as h as.toArray U := fun U hU hW => ⟨rfl, xenv_to (locs := locs) hE P.2.2.2.2 hW (by rw [hU]; exact P.2.2.1), by rw [hU]; exact P.1, by rw [hU]; exact P.2.1, P.2.2.2.1, by rw [hU]; exact Nat.le_trans P.2.2.2.2 P.2.2.1.1⟩
  rcases xin_call hs with ⟨idx, rfl⟩ | ⟨idx, rfl⟩ | ⟨idx, rfl⟩
  all_goals (rcases hln with q | q; (· cases q); subst q; dsimp only [xin] at hs)
  · split at hs
    next p0 k' qp =>
      unfold xcv at hs
      split at hs
      next b As qa =>
        split at hs
        next ci fs qb =>
          split at hs
          next qc =>
            obtain ⟨z1, z2, z3, z4, z5, z6⟩ := xcaV_ok hs
            cases z1
            have hci := Nat.eq_of_beq_eq_true qc
            obtain ⟨w1, w2, w3, w4⟩ := xpk_ok _ _ _ qp
            have hk8 : k < 198 := by simpa [Nat.blt_eq] using w4
            have hh0 := xhh_0 qp (by decide)
            have hcode : xcw k = Cond.code (xy k) (xcd k) (xmL k) (xrt k) := by unfold xcw; rw [hh0]
            have hcl : (xy k).cls = (xcl ci).1 := by
              have hb11 : ci < 11 := xci_lt P qb
              rw [xcls hk8, ← hci, xcl_own ci hb11]
            have hn : As.length = xpn k := by
              have h1 : ((st.take (xna k)).reverse).length = xna k := by rw [List.length_reverse, List.length_take, Nat.min_eq_left z2]
              rw [qa] at h1
              have h2 : xpn k = xna k - 1 := by unfold xpn; rw [w3]
              simp only [List.length_cons] at h1
              rw [h2]; omega
            rw [qa] at hM hpre
            have hw : ∀ w ∈ wsV (xown (xow j)) idx (xy k).cls (xy k) (xcw k :: xws), w ∈ xws := by
              intro w hw
              unfold wsV at hw
              simp only [List.cons_append, List.nil_append, List.mem_cons] at hw
              rcases hw with rfl | rfl | rfl | rfl | rfl | hw
              · exact xwd_in w1 rfl
              · have := xsw_in hk8; unfold xsw at this; rw [w3] at this; exact this
              · exact xwd_in w2 rfl
              · exact xni_in hk8
              · exact xcw_in hk8
              · exact hw
            refine xback P hl hc hk hm (xrunV (W := max 8 ((st.drop (xna k)).map fun v => v.category).sum) S hM (cwV (bytes := xcd k) (maxL := xmL k) (ret := xrt k) (C := (xy k).cls) (xpn k) hts (xgi hw) (by rw [hcode]) rfl rfl ⟨rfl, (xdesc hk8).1, (xdesc hk8).2.1, (xdesc hk8).2.2.1⟩ ⟨Nat.le_trans z3 hfr, Nat.le_trans z4 hlo⟩) (by show max 8 _ + (xmL k + 11) + xlo k ≤ R.locals; omega) ⟨xPc_blind, ?_, hpre⟩ rfl hn hl.1 (by show st = As.reverse ++ .ref b :: st.drop (xna k); exact xstk_v qa) (by show 2 * 0 + _ ≤ _; omega) hd hfit) K
            rw [hcl]
            exact va_recv (q0 := 0) (fs := fs) hE.1 (xone (P.1 b _ qb)) (xcq_ok ci (xci_lt P qb)).2.2.2.2.2.1 rfl
          next => cases hs
        next => cases hs
      next => cases hs
    next => cases hs
  · split at hs
    next p0 k' qp =>
      obtain ⟨z1, z2, z3, z4, z5, z6⟩ := xcaV_ok hs
      cases z1
      obtain ⟨w1, w3, w4⟩ := xpk_ok _ _ _ qp
      have hk8 : k < 198 := by simpa [Nat.blt_eq] using w4
      have hn : ((st.take (xna k)).reverse).length = xpn k := by
        have h2 : xpn k = xna k := by unfold xpn; rw [w3]
        rw [h2, List.length_reverse, List.length_take, Nat.min_eq_left z2]
      have hst : Cond.static (xy k) ∈ xws := by have := xsw_in hk8; unfold xsw at this; rw [w3] at this; exact this
      have hh0 := xhh_0 qp (by decide)
      have hcode : xcw k = Cond.code (xy k) (xcd k) (xmL k) (xrt k) := by unfold xcw; rw [hh0]
      have hw : ∀ w ∈ va_wsS (xown (xow j)) idx (xy k) (xcw k :: xws), w ∈ xws := by
        intro w hw
        unfold va_wsS at hw
        simp only [List.cons_append, List.nil_append, List.mem_cons] at hw
        rcases hw with rfl | rfl | rfl | rfl | hw
        · exact xwd_in w1 rfl
        · exact hst
        · exact xni_in hk8
        · exact xcw_in hk8
        · exact hw
      exact xback P hl hc hk hm (xrunS (W := max 8 ((st.drop (xna k)).map fun v => v.category).sum) S hM (va_cwS (bytes := xcd k) (maxL := xmL k) (ret := xrt k) (xpn k) hts (xgi hw) (by rw [hcode]) rfl rfl ⟨(xdesc hk8).1, (xdesc hk8).2.1, (xdesc hk8).2.2.1⟩ ⟨Nat.le_trans z3 hfr, Nat.le_trans z4 hlo⟩) (by show max 8 _ + (xmL k + 11) + xlo k ≤ R.locals; omega) ⟨xPc_blind, hpre⟩ rfl hn hl.1 xstk (by show 2 * 0 + _ ≤ _; exact Nat.le_trans (Nat.le_of_eq (Nat.zero_add _)) (Nat.le_max_right _ _)) hd hfit) K
    next p0 k' qp =>
      obtain ⟨z1, z2, z3, z4, z5, z6⟩ := xcal_ok hs
      cases z1
      obtain ⟨w1, w3, w4⟩ := xpk_ok _ _ _ qp
      have hk8 : k < 198 := by simpa [Nat.blt_eq] using w4
      have hn : ((st.take (xna k)).reverse).length = xpn k := by
        have h2 : xpn k = xna k := by unfold xpn; rw [w3]
        rw [h2, List.length_reverse, List.length_take, Nat.min_eq_left z2]
      have hst : Cond.static (xy k) ∈ xws := by have := xsw_in hk8; unfold xsw at this; rw [w3] at this; exact this
      have hh0 := xhh_0 qp (by decide)
      have hcode : xcw k = Cond.code (xy k) (xcd k) (xmL k) (xrt k) := by unfold xcw; rw [hh0]
      have hw : ∀ w ∈ xcw k :: xws, w ∈ xws := fun w hw => (List.mem_cons.mp hw).elim (fun z => z ▸ xcw_in hk8) id
      exact xback P hl hc hk hm (va_runSN S hM ⟨va_cnB (bytes := xcd k) (maxL := xmL k) (ret := xrt k) (xpn k) hts (xgi hw) (by rw [hcode]) rfl rfl (hE.2.1 _ (xnd_in w1 rfl)) (hts _ (xni_in hk8)) ⟨(xdesc hk8).1, (xdesc hk8).2.1, (xdesc hk8).2.2.1⟩ ⟨Nat.le_trans z3 hfr, Nat.le_trans z4 hlo⟩, hts _ hst, trivial⟩ ⟨xPc_blind, hpre⟩ rfl hn hl.1 xstk (lv_room z6) hd hfit) K
    next p0 k' qp =>
      obtain ⟨z1, z2, z3, z4, z5, z6⟩ := xcal_ok hs
      cases z1
      obtain ⟨w1, w3, w4⟩ := xpk_ok _ _ _ qp
      have hk8 : k < 198 := by simpa [Nat.blt_eq] using w4
      have hn : ((st.take (xna k)).reverse).length = xpn k := by
        have h2 : xpn k = xna k := by unfold xpn; rw [w3]
        rw [h2, List.length_reverse, List.length_take, Nat.min_eq_left z2]
      have hst : Cond.static (xy k) ∈ xws := by have := xsw_in hk8; unfold xsw at this; rw [w3] at this; exact this
      obtain ⟨hz, tz, hh0⟩ := xhh_7 qp
      have hcode : xcw k = Cond.codeWith (xy k) (xcd k) (xmL k) (xrt k) (hz :: tz) := by unfold xcw; rw [hh0]
      have hw : ∀ w ∈ va_wsS (xown (xow j)) idx (xy k) (xcw k :: xws), w ∈ xws := by
        intro w hw
        unfold va_wsS at hw
        simp only [List.cons_append, List.nil_append, List.mem_cons] at hw
        rcases hw with rfl | rfl | rfl | rfl | hw
        · exact xwd_in w1 rfl
        · exact hst
        · exact xni_in hk8
        · exact xcw_in hk8
        · exact hw
      exact xback P hl hc hk hm (vx_runSW S hM (vx_cwSW (hh := hz :: tz) (bytes := xcd k) (maxL := xmL k) (ret := xrt k) (xpn k) hts (xgi hw) (by rw [hcode]) rfl rfl ⟨(xdesc hk8).1, (xdesc hk8).2.1, (xdesc hk8).2.2.1⟩ ⟨Nat.le_trans z3 hfr, Nat.le_trans z4 hlo⟩) ⟨xPc_blind, hpre⟩ rfl hn hl.1 xstk (lv_room z6) hd hfit) K
    next => cases hs
  · split at hs
    next => (split at hs
             next => (split at hs
                      next => unfold xnx at hs; cases hs
                      next => cases hs)
             next => cases hs)
    next p0 k' qp =>
      unfold xcI at hs
      split at hs
      next b As qa =>
        obtain ⟨z1, z2, z3, z4, z5, z6⟩ := xcal_ok hs
        cases z1
        obtain ⟨w1, w3, w5, w6, w4⟩ := xpk_ok _ _ _ qp
        have hk8 : k < 198 := by simpa [Nat.blt_eq] using w4
        have hh0 := xhh_0 qp (by decide)
        have hcode : xcw k = Cond.code (xy k) (xcd k) (xmL k) none := by unfold xcw; rw [hh0, w6]
        have hn : As.length = xpn k := by
          have h1 : ((st.take (xna k)).reverse).length = xna k := by rw [List.length_reverse, List.length_take, Nat.min_eq_left z2]
          rw [qa] at h1
          have h2 : xpn k = xna k - 1 := by unfold xpn; rw [w3]
          simp only [List.length_cons] at h1
          rw [h2]; omega
        rw [qa] at hM hpre
        have hin : Cond.instanceMethod (xy k) ∈ xws := by have := xsw_in hk8; unfold xsw at this; rw [w3] at this; exact this
        have hw : ∀ w ∈ xcw k :: xws, w ∈ xws := fun w hw => (List.mem_cons.mp hw).elim (fun z => z ▸ xcw_in hk8) id
        exact xback P hl hc hk hm (va_runI S hM (cwI (bytes := xcd k) (maxL := xmL k) (xpn k) hts (xgi hw) (by rw [hcode]) rfl rfl (hts _ (xni_in hk8)) (hts _ (xwd_in w1 rfl)) (hts _ hin) w5 ⟨(xdesc hk8).1, (xdesc hk8).2.1, (xdesc hk8).2.2.1⟩ ⟨Nat.le_trans z3 hfr, Nat.le_trans z4 hlo⟩) ⟨xPc_blind, hpre⟩ rfl hn hl.1 (by show st = As.reverse ++ .ref b :: st.drop (xna k); exact xstk_v qa) (lv_room z6) hd hfit) K
      next => cases hs
    next p0 k' qp =>
      unfold xcI at hs
      split at hs
      next b As qa =>
        obtain ⟨z1, z2, z3, z4, z5, z6⟩ := xcal_ok hs
        cases z1
        obtain ⟨w1, w3, w5, w6, w4⟩ := xpk_ok _ _ _ qp
        have hk8 : k < 198 := by simpa [Nat.blt_eq] using w4
        have hh0 := xhh_0 qp (by decide)
        have hcode : xcw k = Cond.code (xy k) (xcd k) (xmL k) none := by unfold xcw; rw [hh0, w6]
        have hn : As.length = xpn k := by
          have h1 : ((st.take (xna k)).reverse).length = xna k := by rw [List.length_reverse, List.length_take, Nat.min_eq_left z2]
          rw [qa] at h1
          have h2 : xpn k = xna k - 1 := by unfold xpn; rw [w3]
          simp only [List.length_cons] at h1
          rw [h2]; omega
        rw [qa] at hM hpre
        have hin : Cond.instanceMethod (xy k) ∈ xws := by have := xsw_in hk8; unfold xsw at this; rw [w3] at this; exact this
        have hw : ∀ w ∈ xcw k :: xws, w ∈ xws := fun w hw => (List.mem_cons.mp hw).elim (fun z => z ▸ xcw_in hk8) id
        exact xback P hl hc hk hm (va_runIN S hM ⟨va_cnB (bytes := xcd k) (maxL := xmL k) (ret := none) (xpn k) hts (xgi hw) (by rw [hcode]) rfl rfl (hE.2.1 _ (xnd_in w1 rfl)) (hts _ (xni_in hk8)) ⟨(xdesc hk8).1, (xdesc hk8).2.1, (xdesc hk8).2.2.1⟩ ⟨Nat.le_trans z3 hfr, Nat.le_trans z4 hlo⟩, w5, hts _ hin⟩ ⟨xPc_blind, hpre⟩ rfl hn hl.1 (by show st = As.reverse ++ .ref b :: st.drop (xna k); exact xstk_v qa) (lv_room z6) hd hfit) K
      next => cases hs
    next => cases hs
end XK
