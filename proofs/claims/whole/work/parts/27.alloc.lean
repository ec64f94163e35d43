/-! new objects in the logical heap -/
def xle (g g' : xG) : Prop := ∀ t, g.1 t = true → g'.1 t = true ∧ ∀ o, g'.2 t o = g.2 t o
theorem xle_r {g : xG} : xle g g := fun t h => ⟨h, fun _ => rfl⟩
theorem xle_t {g1 g2 g3 : xG} (h1 : xle g1 g2) (h2 : xle g2 g3) : xle g1 g3 := fun t h => ⟨(h2 t (h1 t h).1).1, fun o => ((h2 t (h1 t h).1).2 o).trans ((h1 t h).2 o)⟩
theorem xle_ok {g g' : xG} {t : xT} {c : Nat} (h : xle g g') (ht : xok g t c) : xok g' t c := ⟨(h t ht.1).1, ht.2⟩
theorem xle_ad {g g' : xG} {t : xT} {c : Nat} (h : xle g g') (ht : xok g t c) (o : Nat) : g.2 t o = g'.2 t o := ((h t ht.1).2 o).symm
theorem xle_rv {g g' : xG} {o : Option xT} {c : Nat} (h : xle g g') (ho : ∀ u, o = some u → xok g u c) : xrv g o = xrv g' o := by
  cases o with
  | none => rfl
  | some u => show Value.ref (g.2 u 0) = Value.ref (g'.2 u 0); rw [xle_ad h (ho u rfl)]
theorem xle_on {g g' : xG} {o : Option xT} {c : Nat} (h : xle g g') (ho : ∀ u, o = some u → xok g u c) : ∀ u, o = some u → xok g' u c := fun u hu => xle_ok h (ho u hu)
/-- how a run of a maker ends -/
def lGI (V : xV) (g : xG) (Q : Int32 → xG → xW → Prop) : xQ → xH → Prop := fun r h => ∃ x g' Y, r = .inl (some (.int x)) ∧ RC V g' h Y ∧ xle g g' ∧ Q x g' Y
theorem z_cG {V : xV} {g : xG} {j pc : Nat} {lv : xL} {st : List Value} {h : xH} {P : xQ → xH → Prop} {k : Nat} {i : Instr} {as rest : List Value} {Q : Int32 → xG → xW → Prop} (hd : xdec j pc = some (i, 3)) (hl : (Nat.beq (xln i) 0 || Nat.beq 3 (xln i)) = true) (hs : xin V j pc lv st h i = some (.inr (.inl (k, as, rest)))) (H : xY V k 0 (lv_args 0 as) [] h (lGI V g Q)) (K : ∀ x h' g' Y', RC V g' h' Y' → xle g g' → Q x g' Y' → xY V j (pc + 3) lv (.int x :: rest) h' P) : xY V j pc lv st h P := by
  refine y_call (xst_of hd hl hs) (H.imp ?_)
  rintro r h' ⟨x, g', Y', rfl, hR, hle, hQ⟩
  exact K x h' g' Y' hR hle hQ
def xgn (g : xG) (nw : xT → Bool) (q : Nat) (ix : xT → Nat → Nat) : xG := (fun t => g.1 t || nw t, fun t o => if nw t = true then q + ix t o else g.2 t o)
theorem xgn_n {g : xG} {nw : xT → Bool} {q : Nat} {ix : xT → Nat → Nat} {t : xT} (h : nw t = true) : (xgn g nw q ix).1 t = true ∧ ∀ o, (xgn g nw q ix).2 t o = q + ix t o := ⟨by show (g.1 t || nw t) = true; rw [h, Bool.or_true], fun o => if_pos h⟩
theorem rc_new {V : xV} {g : xG} {h h' : xH} {Y Y' : xW} {L : List xE} {c s : Nat} (R : RC V g h Y) (S : xcs h h' h.2.1 L c s) (nw : xT → Bool) (ix : xT → Nat → Nat) (hn : ∀ t, nw t = true → g.1 t = false)
    (hinj : ∀ t o t' o', nw t = true → nw t' = true → xky (xgn g nw h.2.1 ix) t o → xky (xgn g nw h.2.1 ix) t' o' → ix t o = ix t' o' → t = t' ∧ o = o')
    (hct : ∀ t o, nw t = true → xky (xgn g nw h.2.1 ix) t o → L[ix t o]? = some (xct (xgn g nw h.2.1 ix) Y' t o))
    (hY : ∀ t, g.1 t = true → (∀ k, fI Y' t k = fI Y t k) ∧ (∀ k i, fA Y' t k i = fA Y t k i) ∧ (∀ k i, fL Y' t k i = fL Y t k i) ∧ ∀ k i, fR Y' t k i = fR Y t k i)
    (hr : ∀ t k i u, nw t = true → fR Y' t k i = some u → xok (xgn g nw h.2.1 ix) u (xrc (xsc t.1) k))
    (hs : ∀ t k, nw t = true → xdk (xsc t.1) k = 3 → xok (xgn g nw h.2.1 ix) (xsub t k) (xrc (xsc t.1) k))
    (hz : ∀ t, g.1 t = false → nw t = false → xzr Y' t) (hC : fC Y' = (h.2.1 + L.length, c, s)) :
    RC V (xgn g nw h.2.1 ix) h' Y' ∧ xle g (xgn g nw h.2.1 ix) := by
  obtain ⟨h1, h2, h3, h4, h5, h6, ⟨h7, h8, h9, h10, h11, h12⟩, h13⟩ := R
  obtain ⟨s1, s2, s3, s4⟩ := S
  have hno : ∀ t, g.1 t = true → nw t = false := by
    intro t ht
    cases hw : nw t with
    | true => rw [hn t hw] at ht; cases ht
    | false => rfl
  have hle : xle g (xgn g nw h.2.1 ix) := by
    intro t ht
    refine ⟨by show (g.1 t || nw t) = true; rw [ht, Bool.true_or], fun o => ?_⟩
    show (if nw t = true then _ else g.2 t o) = _
    rw [hno t ht]
    rfl
  have hkold : ∀ t o, g.1 t = true → xky (xgn g nw h.2.1 ix) t o → xky g t o := fun t o ht hk => ⟨ht, hk.2⟩
  have hct0 : ∀ t, g.1 t = true → ∀ o, xky g t o → xct (xgn g nw h.2.1 ix) Y' t o = xct g Y t o := by
    intro t ht o ho
    obtain ⟨y1, y2, y3, y4⟩ := hY t ht
    have hrv : ∀ k i, (fR Y t k i).map (fun u => (xgn g nw h.2.1 ix).2 u 0) = (fR Y t k i).map (fun u => g.2 u 0) := by
      intro k i
      cases hu : fR Y t k i with
      | none => rfl
      | some u => exact congrArg some ((hle u (h4 t k i u hu).1).2 0)
    cases o with
    | zero =>
      show (Sum.inr (xsc t.1, (List.range (xnf (xsc t.1))).map (xfld (xgn g nw h.2.1 ix) Y' t)) : xE) = Sum.inr (xsc t.1, (List.range (xnf (xsc t.1))).map (xfld g Y t))
      rw [show xfld (xgn g nw h.2.1 ix) Y' t = xfld g Y t from ?_]
      funext k
      unfold xfld
      split
      · rw [y1]
      · rw [y3]
      · rw [(hle t ht).2]
      · next hk => rw [(hle _ (h5 t k ht hk).1).2]
      · unfold xrv; rw [y4, hrv]
    | succ k =>
      show xarr _ _ t k = xarr _ _ t k
      unfold xarr
      rw [show fA Y' t k = fA Y t k from funext (y2 k), show fL Y' t k = fL Y t k from funext (y3 k), show (fun i => (fR Y' t k i).map (fun u => (xgn g nw h.2.1 ix).2 u 0)) = (fun i => (fR Y t k i).map (fun u => g.2 u 0)) from funext fun i => by rw [y4, hrv]]
  have hcase : ∀ t, (xgn g nw h.2.1 ix).1 t = true → g.1 t = true ∨ nw t = true := by
    intro t ht
    have : (g.1 t || nw t) = true := ht
    rw [Bool.or_eq_true] at this
    exact this
  have had : ∀ t o, nw t = true → (xgn g nw h.2.1 ix).2 t o = h.2.1 + ix t o := fun t o ht => if_pos ht
  refine ⟨⟨?_, ?_, ?_, ?_, ?_, ?_, ⟨?_, ?_, ?_, ?_, ?_, h12⟩, (hle _ h13.1).1, (hle _ h13.2.1).1, (hle _ h13.2.2).1⟩, hle⟩
  · intro t o hk
    rcases hcase t hk.1 with ht | ht
    · have hk' := hkold t o ht hk
      rw [(hle t ht).2, s3 _ (h3 t o hk'), h1 t o hk', hct0 t ht o hk']
    · rw [had t o ht]
      exact s2 _ _ (hct t o ht hk)
  · intro t o t' o' hk hk' he
    rcases hcase t hk.1 with ht | ht
    · rcases hcase t' hk'.1 with ht' | ht'
      · rw [(hle t ht).2, (hle t' ht').2] at he
        exact h2 _ _ _ _ (hkold t o ht hk) (hkold t' o' ht' hk') he
      · rw [(hle t ht).2, had t' o' ht'] at he
        have := h3 t o (hkold t o ht hk)
        omega
    · rcases hcase t' hk'.1 with ht' | ht'
      · rw [(hle t' ht').2, had t o ht] at he
        have := h3 t' o' (hkold t' o' ht' hk')
        omega
      · rw [had t o ht, had t' o' ht'] at he
        exact hinj t o t' o' ht ht' hk hk' (by omega)
  · intro t o hk
    rw [s1]
    rcases hcase t hk.1 with ht | ht
    · rw [(hle t ht).2]
      have := h3 t o (hkold t o ht hk)
      omega
    · rw [had t o ht]
      have := (List.getElem?_eq_some_iff.mp (hct t o ht hk)).1
      omega
  · intro t k i u hu
    by_cases hg : g.1 t = true
    · rw [(hY t hg).2.2.2] at hu
      exact xle_ok hle (h4 t k i u hu)
    · by_cases hw : nw t = true
      · exact hr t k i u hw hu
      · have := (hz t (by simpa using hg) (by simpa using hw)).2.2.2 k i
        rw [this] at hu
        cases hu
  · intro t k ht hk
    rcases hcase t ht with hg | hw
    · exact xle_ok hle (h5 t k hg hk)
    · exact hs t k hw hk
  · intro t ht
    have : (g.1 t || nw t) = false := ht
    rw [Bool.or_eq_false_iff] at this
    exact hz t this.1 this.2
  · have e1 : h'.2 = (h'.2.1, h'.2.2) := rfl
    rw [e1, s1, s4, hC]
  · rw [s3 _ h10]; exact h8
  · rw [s3 _ h11]; exact h9
  · rw [s1]; omega
  · rw [s1]; omega
