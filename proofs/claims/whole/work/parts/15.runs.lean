/-! throws, catches, and all runs -/
def xt6 (h : xH) : xH := (h.1, h.2.1 + 1, h.2.2.1 + 1, h.2.2.2 + 6)
set_option maxRecDepth 100000 in
theorem xwi100 : Cond.initialized xNS ∈ xws := xwd_in (p := 85) rfl rfl
set_option maxRecDepth 100000 in
theorem xwi101 : Cond.initialized xIA ∈ xws := xwd_in (p := 87) rfl rfl
theorem xthw_ok {E o q c : Nat} (h : xthw E o q c = true) : o = 9 ∧ q ∈ xstr ∧ ((E = 100 ∧ c = 134) ∨ (E = 101 ∧ c = 205)) := by
  unfold xthw at h
  split at h
  · simp only [Bool.and_eq_true] at h
    obtain ⟨⟨h1, h2⟩, h3⟩ := h
    obtain ⟨z, h4, h5⟩ := List.any_eq_true.mp h3
    refine ⟨Nat.eq_of_beq_eq_true h1, ?_, Or.inl ⟨rfl, Nat.eq_of_beq_eq_true h2⟩⟩
    rw [Nat.eq_of_beq_eq_true h5]
    exact (List.mem_append.mpr (Or.inl h4) : z ∈ ([132, 153, 215, 236, 241, 254, 259, 270] : List Nat) ++ [203, 209])
  · simp only [Bool.and_eq_true] at h
    obtain ⟨⟨h1, h2⟩, h3⟩ := h
    obtain ⟨z, h4, h5⟩ := List.any_eq_true.mp h3
    refine ⟨Nat.eq_of_beq_eq_true h1, ?_, Or.inr ⟨rfl, Nat.eq_of_beq_eq_true h2⟩⟩
    rw [Nat.eq_of_beq_eq_true h5]
    exact (List.mem_append.mpr (Or.inr h4) : z ∈ ([132, 153, 215, 236, 241, 254, 259, 270] : List Nat) ++ [203, 209])
  · cases h
section XT
variable {p : Program} {l : Launch} {e : Env} {R : Room} {s : State} {m : MethodId} {args : Array Value} {below : List Frame} {meth : Method} {c : Code} {Q : State → Prop}
variable {pc j n0 c0 k0 pc' : Nat} {st st' : List Value} {D : va_G} {cy : Nat → ClassId} {V : xV} {h h1 : xH} {lv lv' : xL}
theorem xbw_at (C : xc p R s m args meth c V D cy n0 j) : ∀ w ∈ xbw, w.before args s = true := fun w hw => by
  have h8 := List.all_eq_true.mp xbw_ca w hw
  have h9 := C.2.2.2.2.2.2.2.2.1.2.2.2.2.2.2.2.1 w hw
  unfold xisCa at h8
  split at h8
  · exact va_Nw.use rfl h9
  · exact va_Nw.use rfl h9
  · cases h8
theorem xat_of (C : xc p R s m args meth c V D cy n0 j) {L : List Cond} (hb : (L.filter (fun w => !goodWord w)).all (fun w => decide (w ∈ xbw)) = true) (hg : (L.filter goodWord).all (fun w => decide (w ∈ lw_tbl)) = true) : ∀ w ∈ L, w.before args s = true :=
  vx_hat (B := xbw) (fun w hw => C.2.2.2.2.2.2.1 w (List.mem_filter.mpr ⟨of_decide_eq_true (List.all_eq_true.mp hg w hw), (List.mem_filter.mp hw).2⟩)) (fun w hw => of_decide_eq_true (List.all_eq_true.mp hb w hw)) (xbw_at C)
/-- the world behind a throw -/
theorem xthrown {H : Heap} {locs : List Loc} {E : Nat} (P : xpt D cy n0 s.heap h H locs) (t : State) (hz : t.heap.size = H.size + 1) (hq : ∀ q : Nat, q < H.size → t.heap[q]? = H[q]?) : xXC D cy n0 (.inr E) (xt6 h) (xexc E) s t := by
  refine ⟨⟨E, rfl, rfl, fun a e ha => (P.1 a e ha).kept (hq a (P.1 a e ha).lt), by rw [hz, P.2.1]; rfl, P.2.2.2.1⟩, ?_, fun q h1 h2 => ?_⟩
  · rw [hz]; exact Nat.le_succ_of_le P.2.2.1.1
  · rw [hq q (Nat.lt_of_lt_of_le h1 P.2.2.1.1)]; exact P.2.2.1.2.1 q h1 h2
theorem xthrow (C : xc p R s m args meth c V D cy n0 j) (hl0 : l.stackTraces = false) (ht : c.exceptionTable.toList = tableOf (xhh j)) {E : Nat} (hs : xst V j pc lv st h = some (.inr (.inr (.inr E)))) (hR : h.2.2.1 + 1 - c0 ≤ R.cells ∧ h.2.2.2 + 6 - k0 ≤ R.slots) :
    xgo p l e R s m args below meth c (vx_MQ below (xQc D cy n0 (.inr E) (xt6 h)) (xXC D cy n0 (.inr E) (xt6 h)) args s (h.2.2.1 + 1 - c0) (h.2.2.2 + 6 - k0) (xAd n0)) D cy n0 c0 k0 j pc lv st h := by
  obtain ⟨i, len, hd, -, hln, hs⟩ := xst_in hs
  obtain ⟨idx, rfl⟩ := xin_thr hs
  rcases hln with q | q; (· cases q)
  subst q
  dsimp only [xin] at hs
  split at hs
  next p0 ci qp =>
    unfold xnew at hs
    split at hs
    next => unfold xnx at hs; cases hs
    next qb =>
      split at hs
      next =>
        have hw8 : lw_tbl[p0]? = some (.classLink (xown (xow j)) idx (xexc ci)) := xpk_ok _ _ _ qp
        intro ls H locs P hl hc hk
        have hlk := C.2.2.2.2.1
        have hfr := C.2.2.2.2.2.2.2.2.2.1
        have hlo := C.2.2.2.2.2.2.2.2.2.2
        have hv := C.2.2.2.2.2.2.2.2.1.2.2.2.2.2.2.2
        have hsz : ls.size = c.maxLocals := hl.1.trans C.2.2.1.symm
        unfold xthr at hs
        split at hs
        next =>
          split at hs
          next s2 q3 q4 =>
            split at hs
            next c2 q6 q9 =>
              split at hs
              next q =>
                cases hs
                obtain ⟨w1, w2, w3⟩ := xthw_ok q.1
                rcases w3 with ⟨-, rfl⟩ | ⟨z, -⟩; rotate_left
                · cases z
                obtain ⟨tx, sa, hstr⟩ := hv.2.1 _ w2
                have hown := C.2.2.2.2.2.1
                rw [w1] at hown hw8
                exact xv_throwS C.1 C.2.1 hl0 (own := RX9) (cls := xNS) (Yn := xRT) (names := xEx) (ix := 13) (by1 := xb100) (by decide +kernel) (by decide +kernel) (by decide +kernel) (by decide +kernel) (A := xAd n0) hown (List.all_eq_true.mp xft _ (by simp)) (fun n hn => List.all_eq_true.mp xft _ (List.mem_cons_of_mem _ (List.mem_cons_of_mem _ hn))) (C.2.2.2.2.2.2.1 _ (xwd_in hw8 rfl)) (C.2.2.2.2.2.2.1 _ xwi100) hstr (xat_of C xbb100 xbg100)
                  (fun w hw => (List.mem_cons.mp hw).elim (fun z => by rw [z]; rfl) (fun z => List.all_eq_true.mp xg100 w (List.mem_cons_of_mem _ z))) hv.2.2.1 hv.2.2.2 P.2.2.1 hsz hd (xdec_ok q3) (xdec_ok q4) (xdec_ok q6) (xdec_ok q9) (fun x hx => by rw [ht, xow9' w1] at hx; cases hx) (Nat.lt_of_lt_of_le (by decide) (Nat.le_trans q.2.1 hfr)) (Nat.le_trans (by decide) (Nat.le_trans q.2.2 hlo)) (by have := hR.1; omega) (by have := hR.2; omega) hlk (fun t _ hz hq => xthrown P t hz hq) P.2.2.1.2.2 (by omega) (by omega)
              next => cases hs
            next => cases hs
          next s2 q3 q4 =>
            split at hs
            next c2 q6 q9 =>
              split at hs
              next q =>
                cases hs
                obtain ⟨w1, w2, w3⟩ := xthw_ok q.1
                rcases w3 with ⟨-, rfl⟩ | ⟨z, -⟩; rotate_left
                · cases z
                obtain ⟨tx, sa, hstr⟩ := hv.2.1 _ w2
                have hown := C.2.2.2.2.2.1
                rw [w1] at hown hw8
                exact xv_throwSW C.1 C.2.1 hl0 (own := RX9) (cls := xNS) (Yn := xRT) (names := xEx) (ix := 13) (by1 := xb100) (by decide +kernel) (by decide +kernel) (by decide +kernel) (by decide +kernel) (A := xAd n0) hown (List.all_eq_true.mp xft _ (by simp)) (fun n hn => List.all_eq_true.mp xft _ (List.mem_cons_of_mem _ (List.mem_cons_of_mem _ hn))) (C.2.2.2.2.2.2.1 _ (xwd_in hw8 rfl)) (C.2.2.2.2.2.2.1 _ xwi100) hstr (xat_of C xbb100 xbg100)
                  (fun w hw => (List.mem_cons.mp hw).elim (fun z => by rw [z]; rfl) (fun z => List.all_eq_true.mp xg100 w (List.mem_cons_of_mem _ z))) hv.2.2.1 hv.2.2.2 P.2.2.1 hsz hd (xdec_ok q3) (xdec_ok q4) (xdec_ok q6) (xdec_ok q9) (fun x hx => by rw [ht, xow9' w1] at hx; cases hx) (Nat.lt_of_lt_of_le (by decide) (Nat.le_trans q.2.1 hfr)) (Nat.le_trans (by decide) (Nat.le_trans q.2.2 hlo)) (by have := hR.1; omega) (by have := hR.2; omega) hlk (fun t _ hz hq => xthrown P t hz hq) P.2.2.1.2.2 (by omega) (by omega)
              next => cases hs
            next => cases hs
          next => cases hs
        next =>
          split at hs
          next s2 q3 q4 =>
            split at hs
            next c2 q6 q9 =>
              split at hs
              next q =>
                cases hs
                obtain ⟨w1, w2, w3⟩ := xthw_ok q.1
                rcases w3 with ⟨z, -⟩ | ⟨-, rfl⟩
                · cases z
                obtain ⟨tx, sa, hstr⟩ := hv.2.1 _ w2
                have hown := C.2.2.2.2.2.1
                rw [w1] at hown hw8
                exact xv_throwS C.1 C.2.1 hl0 (own := RX9) (cls := xIA) (Yn := xRT) (names := xEx) (ix := 7) (by1 := xb101) (by decide +kernel) (by decide +kernel) (by decide +kernel) (by decide +kernel) (A := xAd n0) hown (List.all_eq_true.mp xft _ (by simp)) (fun n hn => List.all_eq_true.mp xft _ (List.mem_cons_of_mem _ (List.mem_cons_of_mem _ hn))) (C.2.2.2.2.2.2.1 _ (xwd_in hw8 rfl)) (C.2.2.2.2.2.2.1 _ xwi101) hstr (xat_of C xbb101 xbg101)
                  (fun w hw => (List.mem_cons.mp hw).elim (fun z => by rw [z]; rfl) (fun z => List.all_eq_true.mp xg101 w (List.mem_cons_of_mem _ z))) hv.2.2.1 hv.2.2.2 P.2.2.1 hsz hd (xdec_ok q3) (xdec_ok q4) (xdec_ok q6) (xdec_ok q9) (fun x hx => by rw [ht, xow9' w1] at hx; cases hx) (Nat.lt_of_lt_of_le (by decide) (Nat.le_trans q.2.1 hfr)) (Nat.le_trans (by decide) (Nat.le_trans q.2.2 hlo)) (by have := hR.1; omega) (by have := hR.2; omega) hlk (fun t _ hz hq => xthrown P t hz hq) P.2.2.1.2.2 (by omega) (by omega)
              next => cases hs
            next => cases hs
          next => cases hs
        next => cases hs
      next => cases hs
  next => cases hs
end XT
