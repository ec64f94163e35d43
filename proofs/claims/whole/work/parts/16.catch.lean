/-! a throw that is caught; all runs -/
theorem xlaw11 : ∀ j, j < 199 → xhh j ≠ [] → xow j = 11 := by decide +kernel
theorem xlaw11' {j : Nat} (h : xhh j ≠ []) : xow j = 11 := by
  by_cases hj : j < 199
  · exact xlaw11 j hj h
  · refine absurd ?_ h
    unfold xhh
    rw [List.getD_eq_getElem?_getD, List.getElem?_eq_none (by show 199 ≤ j; omega)]
    rfl
theorem xret_int : ∀ j, j < 199 → xhh j ≠ [] → xrt j = some .int := by decide +kernel
theorem xret_int' {j : Nat} (h : xhh j ≠ []) : xrt j = some .int := by
  by_cases hj : j < 199
  · exact xret_int j hj h
  · refine absurd ?_ h
    unfold xhh
    rw [List.getD_eq_getElem?_getD, List.getElem?_eq_none (by show 199 ≤ j; omega)]
    rfl
set_option maxRecDepth 100000 in
theorem xwl13 : Cond.classLink (xown 11) 13 xNS ∈ xws := xwd_in (p := 824) rfl rfl
set_option maxRecDepth 100000 in
theorem xwl19 : Cond.classLink (xown 11) 19 xIA ∈ xws := xwd_in (p := 904) rfl rfl
section XU
variable {p : Program} {l : Launch} {e : Env} {R : Room} {s : State} {m : MethodId} {args : Array Value} {below : List Frame} {meth : Method} {c : Code} {Q : State → Prop}
variable {pc j n0 c0 k0 pc' : Nat} {st st' : List Value} {D : va_G} {cy : Nat → ClassId} {V : xV} {h h1 : xH} {lv lv' : xL}
/-- behind a call that threw -/
theorem xbackX {H : Heap} {locs : List Loc} {ls : Array Slot} {rest : List Value} {E : Nat} {a : Array Value} (P : xpt D cy n0 s.heap h H locs) (hl : lv_has ls (xmL j) lv) (hc : c0 ≤ h.2.2.1) (hk : k0 ≤ h.2.2.2) (hm : h.2.2.1 ≤ h1.2.2.1 ∧ h.2.2.2 ≤ h1.2.2.2)
    (hr : vx_Run p l e R s m args below meth c H locs (h.2.2.1 - c0) (h.2.2.2 - k0) (h1.2.2.1 - h.2.2.1) (h1.2.2.2 - h.2.2.2) (F0 m pc ls st) rest (xQc D cy n0 (.inr E) h1 a) (xXC D cy n0 (.inr E) h1) (xAd n0))
    (K : ∀ (H1 : Heap) (locs1 : List Loc) (q : Addr) (ce : Cell), xpt D cy n0 s.heap h1 H1 locs1 → H1[q]? = some ce → ce.vm = .none → s.vm.findClass (xexc E) = some ce.cls → vx_W p l e R s m args below meth c H1 locs1 (h1.2.2.1 - c0) (h1.2.2.2 - k0) Q (F0 m pc ls rest) q) : W p l e R s m args below meth c H locs (h.2.2.1 - c0) (h.2.2.2 - k0) Q (F0 m pc ls st) := by
  intro T hT X
  rcases hr T hT X with ⟨v', st₀, t, T', L, h0, X', hL, e1, e2, ⟨⟨v2, hv2, -⟩, -⟩, -⟩ | ⟨q, st₀, t, T', L, E', ce, h0, X', hL, e1, e2, ⟨⟨n, hn, hE', g1, g2, g3⟩, hz, hkk⟩, hce, hcv, hcl, hst⟩
  · cases hv2
  cases hn
  rw [h0] at hz hkk
  have P' : xpt D cy n0 s.heap h1 T'.heap (locs ++ L) := by
    refine ⟨by rw [e1]; exact g1, by rw [e1]; exact g2, ⟨Nat.le_trans P.2.2.1.1 (by rw [e1]; exact hz), fun q q1 q2 => by rw [e1, hkk q (Nat.lt_of_lt_of_le q1 P.2.2.1.1) q2]; exact P.2.2.1.2.1 q q1 q2, fun q hq => ?_⟩, g3, P.2.2.2.2⟩
    rcases List.mem_append.mp hq with z | z
    · exact P.2.2.1.2.2 q z
    · exact hL q z
  have K1 := K T'.heap (locs ++ L) q ce P' (by rw [e1]; exact hce) hcv (by rw [← hE']; exact hcl)
  rw [show h.2.2.1 - c0 + (h1.2.2.1 - h.2.2.1) = h1.2.2.1 - c0 by omega, show h.2.2.2 - k0 + (h1.2.2.2 - h.2.2.2) = h1.2.2.2 - k0 by omega] at X'
  obtain ⟨t2, a1, b1⟩ := K1 T' rfl X'
  exact ⟨t2, hst.trans a1, b1⟩
theorem xcatch (C : xc p R s m args meth c V D cy n0 j) (ht : c.exceptionTable.toList = tableOf (xhh j)) {k E : Nat} {as rest : List Value} (hs : xst V j pc lv st h = some (.inr (.inl (k, as, rest)))) (hM : xMet l V D cy n0 k as h (.inr E) h1) (hm : h.2.2.1 ≤ h1.2.2.1 ∧ h.2.2.2 ≤ h1.2.2.2) (hR : h1.2.2.1 - c0 ≤ R.cells ∧ h1.2.2.2 - k0 ≤ R.slots) (hh : xhd j pc E = true) :
    xgo p l e R s m args below meth c (vx_MQ below (xQc D cy n0 (.inl (some (.int 1))) h1) (xXC D cy n0 (.inl (some (.int 1))) h1) args s (h1.2.2.1 - c0) (h1.2.2.2 - k0) (xAd n0)) D cy n0 c0 k0 j pc lv st h := by
  obtain ⟨i, len, hd, hdx, hln, hs⟩ := xst_in hs
  unfold xhd at hh
  split at hh
  next ha hb9 ht9 hc9 qh =>
    have hne : xhh j ≠ [] := by rw [qh]; exact fun z => by cases z
    have h11 := xlaw11' hne
    simp only [Bool.and_eq_true, Bool.or_eq_true] at hh
    obtain ⟨⟨⟨⟨hv, q1⟩, q2⟩, q3⟩, q4⟩ := hh
    intro ls H locs P hl hc hk
    have hfit : h.2.2.1 - c0 + (h1.2.2.1 - h.2.2.1) ≤ R.cells ∧ h.2.2.2 - k0 + (h1.2.2.2 - h.2.2.2) ≤ R.slots := ⟨by have := hR.1; omega, by have := hR.2; omega⟩
    obtain ⟨hx, hb, hml, hr, hlk, hown, hts, -, hE, hfr, hlo⟩ := id C
    have S : CallFix p m c (xcd j) (xmL j) s args xws (xown (xow j)) := ⟨hx, hb, hml, hown, hts⟩
    have hpre : ∀ U : State, U.heap = H → s.WarmedH U.vm → xPc V D cy n0 as h as.toArray U := fun U hU hW => ⟨rfl, xenv_to (locs := locs) hE P.2.2.2.2 hW (by rw [hU]; exact P.2.2.1), by rw [hU]; exact P.1, by rw [hU]; exact P.2.1, P.2.2.2.1, by rw [hU]; exact Nat.le_trans P.2.2.2.2 P.2.2.1.1⟩
    rw [hdx] at hv
    rcases xin_call hs with ⟨idx, rfl⟩ | ⟨idx, rfl⟩ | ⟨idx, rfl⟩
    · rcases hln with q | q; (· cases q)
      subst q
      dsimp only [xin] at hs
      split at hs
      next p0 k' qp =>
        unfold xcv at hs
        split at hs
        next b As qa =>
          split at hs
          next ci fs qb =>
            split at hs
            next qc =>
              obtain ⟨z1, z2, z3, z4, z5, z6⟩ := xcaV_ok hs
              replace z6 := z6.resolve_right (fun z => hne (List.isEmpty_iff.mp z.1))
              cases z1
              have hci := Nat.eq_of_beq_eq_true qc
              obtain ⟨w1, w2, w3, w4⟩ := xpk_ok _ _ _ qp
              have hk8 : k < 198 := by simpa [Nat.blt_eq] using w4
              have hh0 := xhh_0 qp (by decide)
              have hcode : xcw k = Cond.code (xy k) (xcd k) (xmL k) (xrt k) := by unfold xcw; rw [hh0]
              have hcl : (xy k).cls = (xcl ci).1 := by
                have hb11 : ci < 11 := xci_lt P qb
                rw [xcls hk8, ← hci, xcl_own ci hb11]
              have hn : As.length = xpn k := by
                have h1 : ((st.take (xna k)).reverse).length = xna k := by rw [List.length_reverse, List.length_take, Nat.min_eq_left z2]
                rw [qa] at h1
                have h2 : xpn k = xna k - 1 := by unfold xpn; rw [w3]
                simp only [List.length_cons] at h1
                rw [h2]; omega
              rw [qa] at hM hpre
              have hw : ∀ w ∈ wsV (xown (xow j)) idx (xy k).cls (xy k) (xcw k :: xws), w ∈ xws := by
                intro w hw
                unfold wsV at hw
                simp only [List.cons_append, List.nil_append, List.mem_cons] at hw
                rcases hw with rfl | rfl | rfl | rfl | rfl | hw
                · exact xwd_in w1 rfl
                · have := xsw_in hk8; unfold xsw at this; rw [w3] at this; exact this
                · exact xwd_in w2 rfl
                · exact xni_in hk8
                · exact xcw_in hk8
                · exact hw
              refine xbackX P hl hc hk hm (vx_runV S hM (cwV (bytes := xcd k) (maxL := xmL k) (ret := xrt k) (C := (xy k).cls) (xpn k) hts (xgi hw) (by rw [hcode]) rfl rfl ⟨rfl, (xdesc hk8).1, (xdesc hk8).2.1, (xdesc hk8).2.2.1⟩ ⟨Nat.le_trans z3 hfr, Nat.le_trans z4 hlo⟩) ⟨xPc_blind, by rw [hcl]; exact va_recv (q0 := 0) (fs := fs) hE.1 (xone (P.1 b _ qb)) (xcq_ok ci (xci_lt P qb)).2.2.2.2.2.1 rfl, hpre⟩ rfl hn hl.1 (by show st = As.reverse ++ .ref b :: st.drop (xna k); exact xstk_v qa) (lv_room z6) hd hfit) (fun H1 locs1 q ce P1 hce hcv hcls => ?_)
              have hcat : ∃ name, (Cond.classLink (xown (xow j)) hc9 name).before args s = true ∧ (Cond.castable (xexc E) name).before args s = true ∧ hc9 ≠ 0 := by
                rw [h11]
                rcases q3 with q3 | q3
                · have e1 := Nat.eq_of_beq_eq_true q3.1
                  have e2 := Nat.eq_of_beq_eq_true q3.2
                  subst e1; subst e2
                  exact ⟨xNS, hts _ xwl13, xbw_at C (.castable xNS xNS) List.mem_cons_self, by decide⟩
                · have e1 := Nat.eq_of_beq_eq_true q3.1
                  have e2 := Nat.eq_of_beq_eq_true q3.2
                  subst e1; subst e2
                  exact ⟨xIA, hts _ xwl19, xbw_at C (.castable xIA xIA) (List.mem_cons_of_mem _ List.mem_cons_self), by decide⟩
              obtain ⟨name, g1, g2, g3⟩ := hcat
              have hr2 : meth.sig.returnType = some .int := hr.trans (xret_int' hne)
              have hq : ∀ t : State, t.heap = H1 → s.WarmedH t.vm → xQc D cy n0 (.inl (some (.int 1))) h1 args s (.returned (some (.int 1))) t := fun t ht hW => ⟨⟨_, rfl, rfl, by rw [ht]; exact P1.1, by rw [ht]; exact P1.2.1, P1.2.2.2.1⟩, P1.2.2.1.F ht⟩
              have hf : ∀ q ∈ locs1, xAd n0 q.base := P1.2.2.1.2.2
              refine vx_catch hown [] ⟨ha, hb9, ht9, hc9⟩ [] (by rw [ht, qh]; rfl) (fun z hz => by cases hz) ?_ g3 g1 g2 hce hcv hcls ?_
              · have e1 := Nat.le_of_ble_eq_true q1
                have e2 : pc < hb9 := by simpa [Nat.blt_eq] using q2
                simp [covers, e1, e2]
              · split at q4
                next kk qk =>
                  split at q4
                  next q5 q6 =>
                    refine lv_astore hx hb (xdec_ok qk) hl (by simpa [Nat.blt_eq] using q4) rfl (fun ls' hl' => ?_)
                    refine lv_iconst (v := 1) hx hb (xdec_ok q5) (by decide) ?_
                    exact vx_ret (W.iret hx hb hr2 hq hf (xdec_ok q6) hlk)
                  next => cases q4
                next kk qk =>
                  split at q4
                  next q5 q6 =>
                    refine lv_astore_n hx hb (xdec_ok qk) rfl hl (by simpa [Nat.blt_eq] using q4) rfl (fun ls' hl' => ?_)
                    refine lv_iconst (v := 1) hx hb (xdec_ok q5) (by decide) ?_
                    exact vx_ret (W.iret hx hb hr2 hq hf (xdec_ok q6) hlk)
                  next => cases q4
                next => cases q4
            next => cases hs
          next => cases hs
        next => cases hs
      next => cases hs
    · cases hv
    · cases hv
  next => cases hh
/-- ALL RUNS -/
theorem xS_all (hl0 : l.stackTraces = false) : ∀ n, xS l V D cy n0 n := by
  intro n
  induction n with
  | zero => intro j pc lv st h r h1 hev; cases hev
  | succ n ih =>
    intro j pc lv st h r h1 hev
    unfold xev at hev
    split at hev
    next => cases hev
    next pc' lv' st' h' qs =>
      obtain ⟨m1, S1⟩ := ih j pc' lv' st' h' r h1 hev
      obtain ⟨i, len, -, -, -, qi⟩ := xst_in qs
      have m0 := xin_mono qi
      refine ⟨⟨Nat.le_trans m0.1 m1.1, Nat.le_trans m0.2 m1.2⟩, fun p e R s m args below meth c c0 k0 C ht hR => ?_⟩
      exact xnext C qs ⟨by have := hR.1; have := m1.1; omega, by have := hR.2; have := m1.2; omega⟩ (S1 p e R s m args below meth c c0 k0 C ht hR)
    next k as rest qs =>
      obtain ⟨hk8, hfit⟩ := xst_k qs
      split at hev
      next v h2 qc =>
        obtain ⟨m1, -⟩ := ih _ _ _ _ _ _ _ qc
        obtain ⟨m2, S2⟩ := ih _ _ _ _ _ _ _ hev
        refine ⟨⟨Nat.le_trans m1.1 m2.1, Nat.le_trans m1.2 m2.2⟩, fun p e R s m args below meth c c0 k0 C ht hR => ?_⟩
        exact xcall C qs (xmet_of ih hk8 qc hfit) m1 ⟨by have := hR.1; have := m2.1; omega, by have := hR.2; have := m2.2; omega⟩ (S2 p e R s m args below meth c c0 k0 C ht hR)
      next E h2 qc =>
        split at hev
        next qh =>
          cases hev
          obtain ⟨m1, -⟩ := ih _ _ _ _ _ _ _ qc
          exact ⟨m1, fun p e R s m args below meth c c0 k0 C ht hR => xcatch C ht qs (xmet_of ih hk8 qc hfit) m1 hR qh⟩
        next => cases hev
      next => cases hev
    next v qs =>
      cases hev
      exact ⟨⟨Nat.le_refl _, Nat.le_refl _⟩, fun p e R s m args below meth c c0 k0 C ht hR => xend C qs⟩
    next E qs =>
      cases hev
      exact ⟨⟨Nat.le_succ _, Nat.le_add_right _ _⟩, fun p e R s m args below meth c c0 k0 C ht hR => xthrow C hl0 ht qs hR⟩
end XU
