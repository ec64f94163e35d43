/-! runs of the small machine, as goals: rows that go from an instruction to the next -/
theorem xev_mono (V : xV) : ∀ (n : Nat) (j pc : Nat) (lv : xL) (st : List Value) (h : xH) (x : xQ × xH), xev V n j pc lv st h = some x → xev V (n + 1) j pc lv st h = some x := by
  intro n
  induction n with
  | zero => intro j pc lv st h x hx; cases hx
  | succ n ih =>
    intro j pc lv st h x hx
    unfold xev at hx ⊢
    split at hx
    next => cases hx
    next pc' lv' st' h' qs => exact ih _ _ _ _ _ _ hx
    next k as rest qs =>
      split at hx
      next v h2 qc => rw [ih _ _ _ _ _ _ qc]; exact ih _ _ _ _ _ _ hx
      next E h2 qc => rw [ih _ _ _ _ _ _ qc]; exact hx
      next => cases hx
    next v qs => exact hx
    next E qs => exact hx
theorem xev_le (V : xV) {n k : Nat} (hk : n ≤ k) {j pc : Nat} {lv : xL} {st : List Value} {h : xH} {x : xQ × xH} (hx : xev V n j pc lv st h = some x) : xev V k j pc lv st h = some x := by
  induction hk with
  | refl => exact hx
  | step _ ih => exact xev_mono V _ _ _ _ _ _ _ ih
/-- from here the run ends with Q -/
def xY (V : xV) (j pc : Nat) (lv : xL) (st : List Value) (h : xH) (Q : xQ → xH → Prop) : Prop := ∃ (n : Nat) (r : xQ) (h1 : xH), xev V n j pc lv st h = some (r, h1) ∧ Q r h1
section YR
variable {V : xV} {j pc pc' : Nat} {lv lv' : xL} {st st' : List Value} {h h' : xH} {Q : xQ → xH → Prop}
theorem xY.imp {Q' : xQ → xH → Prop} (hy : xY V j pc lv st h Q) (hq : ∀ r h1, Q r h1 → Q' r h1) : xY V j pc lv st h Q' := by
  obtain ⟨n, r, h1, a, b⟩ := hy
  exact ⟨n, r, h1, a, hq r h1 b⟩
theorem y_next (hs : xst V j pc lv st h = some (.inl (pc', lv', st', h'))) (K : xY V j pc' lv' st' h' Q) : xY V j pc lv st h Q := by
  obtain ⟨n, r, h1, a, b⟩ := K
  exact ⟨n + 1, r, h1, by unfold xev; rw [hs]; exact a, b⟩
theorem y_ret {v : Option Value} (hs : xst V j pc lv st h = some (.inr (.inr (.inl v)))) (K : Q (.inl v) h) : xY V j pc lv st h Q := ⟨1, _, _, by unfold xev; rw [hs], K⟩
theorem y_thr {E : Nat} (hs : xst V j pc lv st h = some (.inr (.inr (.inr E)))) (K : Q (.inr E) (xt6 h)) : xY V j pc lv st h Q := ⟨1, _, _, by unfold xev; rw [hs]; rfl, K⟩
theorem y_call {k : Nat} {as rest : List Value} (hs : xst V j pc lv st h = some (.inr (.inl (k, as, rest)))) (K : xY V k 0 (lv_args 0 as) [] h (fun r h1 => match r with
    | .inl v => xY V j (pc + 3) lv (v.toList ++ rest) h1 Q
    | .inr E => xhd j pc E = true ∧ Q (.inl (some (.int 1))) h1)) : xY V j pc lv st h Q := by
  obtain ⟨n, r, h1, a, b⟩ := K
  cases r with
  | inl v =>
    obtain ⟨n2, r2, h2, a2, b2⟩ := b
    refine ⟨max n n2 + 1, r2, h2, ?_, b2⟩
    unfold xev
    rw [hs]
    dsimp only
    rw [xev_le V (Nat.le_max_left n n2) a]
    exact xev_le V (Nat.le_max_right n n2) a2
  | inr E =>
    refine ⟨n + 1, _, h1, ?_, b.2⟩
    unfold xev
    rw [hs]
    dsimp only
    rw [a]
    dsimp only
    rw [b.1]
/-- a step by its instruction -/
theorem xst_of {i : Instr} {len : Nat} {r : Option xA} (hd : xdec j pc = some (i, len)) (hl : (Nat.beq (xln i) 0 || Nat.beq len (xln i)) = true) (hs : xin V j pc lv st h i = r) : xst V j pc lv st h = r := by
  unfold xst
  rw [hd]
  dsimp only
  rw [hl]
  exact hs
end YR
