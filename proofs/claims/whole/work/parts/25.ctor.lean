/-! constructors: the heap above q is a list -/
def xcs (h0 h : xH) (q : Nat) (L : List xE) (c s : Nat) : Prop := h.2.1 = q + L.length ∧ (∀ i e, L[i]? = some e → h.1 (q + i) = some e) ∧ (∀ a, a < q → h.1 a = h0.1 a) ∧ h.2.2 = (c, s)
theorem cs_new {h0 h : xH} {q c s : Nat} {L : List xE} (S : xcs h0 h q L c s) (e : xE) (n : Nat) : xcs h0 (xalc h e n) q (L ++ [e]) (c + 1) (s + n) := by
  obtain ⟨h1, h2, h3, h4⟩ := S
  refine ⟨?_, ?_, ?_, ?_⟩
  · show h.2.1 + 1 = _
    rw [h1, List.length_append]; rfl
  · intro i e' hi
    show (if q + i = h.2.1 then some e else h.1 (q + i)) = some e'
    by_cases hl : i < L.length
    · rw [List.getElem?_append_left hl] at hi
      rw [if_neg (by omega)]
      exact h2 i e' hi
    · have hi2 : i < (L ++ [e]).length := (List.getElem?_eq_some_iff.mp hi).1
      rw [List.length_append] at hi2
      have he : i = L.length := by simp at hi2; omega
      subst he
      rw [if_pos (by omega)]
      simp at hi
      rw [hi]
  · intro a ha
    show (if a = h.2.1 then some e else h.1 a) = _
    rw [if_neg (by omega)]
    exact h3 a ha
  · show (h.2.2.1 + 1, h.2.2.2 + n) = _
    rw [h4]
theorem cs_wr {h0 h : xH} {q c s : Nat} {L : List xE} (S : xcs h0 h q L c s) (i : Nat) (e : xE) : xcs h0 (xwr h (q + i) e) q (L.set i e) c s := by
  obtain ⟨h1, h2, h3, h4⟩ := S
  refine ⟨?_, ?_, ?_, h4⟩
  · rw [List.length_set]; exact h1
  · intro k e' hk
    show (if q + k = q + i then some e else h.1 (q + k)) = some e'
    rw [List.getElem?_set] at hk
    by_cases hik : i = k
    · subst hik
      rw [if_pos rfl] at hk
      rw [if_pos rfl]
      split at hk
      · exact hk
      · cases hk
    · rw [if_neg hik] at hk
      rw [if_neg (by omega)]
      exact h2 k e' hk
  · intro a ha
    show (if a = q + i then some e else h.1 a) = _
    rw [if_neg (by omega)]
    exact h3 a ha
theorem cs_in {h0 h : xH} {q c s : Nat} {A B : List xE} (S : xcs h0 h q (A ++ B) c s) : xcs h h (q + A.length) B c s := by
  obtain ⟨h1, h2, h3, h4⟩ := S
  refine ⟨?_, ?_, fun _ _ => rfl, h4⟩
  · rw [h1, List.length_append]; omega
  · intro i e hi
    rw [Nat.add_assoc]
    exact h2 _ e (by rw [List.getElem?_append_right (by omega), show A.length + i - A.length = i by omega]; exact hi)
theorem cs_out {h0 h h' : xH} {q c s c' s' : Nat} {A B B' : List xE} (S : xcs h0 h q (A ++ B) c s) (S' : xcs h h' (q + A.length) B' c' s') : xcs h0 h' q (A ++ B') c' s' := by
  obtain ⟨h1, h2, h3, h4⟩ := S
  obtain ⟨k1, k2, k3, k4⟩ := S'
  refine ⟨?_, ?_, ?_, k4⟩
  · rw [k1, List.length_append]; omega
  · intro i e hi
    by_cases hl : i < A.length
    · rw [k3 _ (by omega)]
      rw [List.getElem?_append_left hl] at hi
      exact h2 i e (by rw [List.getElem?_append_left hl]; exact hi)
    · rw [List.getElem?_append_right (by omega)] at hi
      have := k2 _ e hi
      rw [show q + A.length + (i - A.length) = q + i by omega] at this
      exact this
  · intro a ha
    rw [k3 a (by omega)]
    exact h3 a ha
section CT
variable {V : xV} {j pc : Nat} {lv : xL} {st : List Value} {h0 h : xH} {P : xQ → xH → Prop} {q c s idx : Nat} {L L' : List xE}
theorem c_new {ci p0 n : Nat} {e : xE} {r : Nat} (hd : xdec j pc = some (.new idx, 3)) (hp : xpo (xow j) idx = some (.inr (.inr (.inl (p0, ci))))) (hc : Nat.blt ci 11 = true) (S : xcs h0 h q L c s) (he : (Sum.inr (ci, xdf.getD ci []) : xE) = e) (hn : (xcl ci).2.2 = n) (hr : L.length = r) (hL : L ++ [e] = L') (K : ∀ h', xcs h0 h' q L' (c + 1) (s + n) → xY V j (pc + 3) lv (.ref (q + r) :: st) h' P) : xY V j pc lv st h P := by
  subst he hn hr hL
  refine y_next (h' := xalc h (.inr (ci, xdf.getD ci [])) (xcl ci).2.2) (st' := .ref h.2.1 :: st) (pc' := pc + 3) (lv' := lv) (xst_of hd rfl ?_) ?_
  · dsimp only [xin]
    rw [hp]
    show xnew j pc ci lv st h = _
    unfold xnew
    rw [hc]
    rfl
  · rw [S.1]
    exact K _ (cs_new S _ _)
theorem c_arr {at_ : ArrayType} {x : Int32} {N k r : Nat} {e : vp_A} (hd : xdec j pc = some (.newarray at_, 2)) (hn : ¬ (x < 0 ∨ 65536 < x.toNatClampNeg)) (hN : x.toNatClampNeg = N) (hk : (at_ = .int ∧ k = 0 ∧ e = (N, .inl (fun _ => 0))) ∨ (at_ = .long ∧ k = 1 ∧ e = (N, .inr (.inl (fun _ => 0)))) ∨ (at_ = .boolean ∧ k = 2 ∧ e = (N, .inl (fun _ => 0)))) (S : xcs h0 h q L c s) (hr : L.length = r) (hL : L ++ [.inl (k, e)] = L') (K : ∀ h', xcs h0 h' q L' (c + 1) (s + N) → xY V j (pc + 2) lv (.ref (q + r) :: st) h' P) : xY V j pc lv (.int x :: st) h P := by
  subst hr hL
  refine y_next (xst_of hd rfl (x_newa hn hN hk)) ?_
  rw [S.1]
  exact K _ (cs_new S _ _)
theorem c_arq {x : Int32} {N p0 ci k r : Nat} (hd : xdec j pc = some (.anewarray idx, 3)) (hn : ¬ (x < 0 ∨ 65536 < x.toNatClampNeg)) (hN : x.toNatClampNeg = N) (hp : xpo (xow j) idx = some (.inr (.inr (.inl (p0, ci))))) (hk : xak ci = some k) (S : xcs h0 h q L c s) (hr : L.length = r) (hL : L ++ [.inl (k, N, .inr (.inr (.inr (.inr (fun _ => none)))))] = L') (K : ∀ h', xcs h0 h' q L' (c + 1) (s + N) → xY V j (pc + 3) lv (.ref (q + r) :: st) h' P) : xY V j pc lv (.int x :: st) h P := by
  subst hr hL
  refine y_next (xst_of hd rfl (x_newq hn hN hp hk)) ?_
  rw [S.1]
  exact K _ (cs_new S _ _)
theorem c_put {p0 ci k i : Nat} {n : Bool} {fs : List Value} {v : Value} (hd : xdec j pc = some (.putfield idx, 3)) (hp : xpo (xow j) idx = some (.inl (p0, n, ci, k))) (S : xcs h0 h q L c s) (hi : L[i]? = some (.inr (ci, fs))) (hk : Nat.blt k fs.length = true) (hf : xfit (xty ci k) v = true) (hfin : (!((xcl ci).2.1 k).2.2.2 || (xisI j && Nat.beq (xow j) ci)) = true) (hL : L.set i (.inr (ci, fs.set k v)) = L') (K : ∀ h', xcs h0 h' q L' c s → xY V j (pc + 3) lv st h' P) : xY V j pc lv (v :: .ref (q + i) :: st) h P := by
  subst hL
  exact y_next (xst_of hd rfl (x_putf hp (S.2.1 i _ hi) (Nat.blt_eq.mp hk) hf hfin)) (K _ (cs_wr S i _))
theorem c_get {p0 ci k i : Nat} {n : Bool} {fs : List Value} {v : Value} (hd : xdec j pc = some (.getfield idx, 3)) (hp : xpo (xow j) idx = some (.inl (p0, n, ci, k))) (S : xcs h0 h q L c s) (hi : L[i]? = some (.inr (ci, fs))) (hv : fs[k]? = some v) (K : xY V j (pc + 3) lv (v :: st) h P) : xY V j pc lv (.ref (q + i) :: st) h P := y_next (xst_of hd rfl (x_getf hp (S.2.1 i _ hi) hv)) K
theorem c_ist {i n : Nat} {f : Nat → Int32} {k x : Int32} {N : Nat} (hd : xdec j pc = some (.iastore, 1)) (S : xcs h0 h q L c s) (hi : L[i]? = some (.inl (0, n, .inl f))) (hb : ¬ (k < 0 ∨ n ≤ k.toNatClampNeg)) (hN : k.toNatClampNeg = N) (hL : L.set i (.inl (0, n, .inl (upd f N x))) = L') (K : ∀ h', xcs h0 h' q L' c s → xY V j (pc + 1) lv st h' P) : xY V j pc lv (.int x :: .int k :: .ref (q + i) :: st) h P := by
  subst hL hN
  exact y_next (xst_of hd rfl (x_iast (S.2.1 i _ hi) hb)) (K _ (cs_wr S i _))
theorem c_ast {i m n : Nat} {f : Nat → Option Nat} {k : Int32} {N u : Nat} {vs : List Value} (hd : xdec j pc = some (.aastore, 1)) (S : xcs h0 h q L c s) (hi : L[i]? = some (.inl (m, n, .inr (.inr (.inr (.inr f)))))) (hu : L[u]? = some (.inr (xkc m, vs))) (hb : ¬ (k < 0 ∨ n ≤ k.toNatClampNeg)) (hN : k.toNatClampNeg = N) (hL : L.set i (.inl (m, n, .inr (.inr (.inr (.inr (va_up f N (some (q + u)))))))) = L') (K : ∀ h', xcs h0 h' q L' c s → xY V j (pc + 1) lv st h' P) : xY V j pc lv (.ref (q + u) :: .int k :: .ref (q + i) :: st) h P := by
  subst hL hN
  exact y_next (xst_of hd rfl (x_aast (S.2.1 i _ hi) (S.2.1 u _ hu) hb)) (K _ (cs_wr S i _))
theorem c_call {k : Nat} {i : Instr} {as rest : List Value} {A B B' : List xE} {a c' s' : Nat} (hd : xdec j pc = some (i, 3)) (hl : (Nat.beq (xln i) 0 || Nat.beq 3 (xln i)) = true) (hs : xin V j pc lv st h i = some (.inr (.inl (k, as, rest)))) (S : xcs h0 h q L c s) (hA : L = A ++ B) (ha : A.length = a) (H : ∀ Q : xQ → xH → Prop, xcs h h (q + a) B c s → (∀ h', xcs h h' (q + a) B' c' s' → Q (.inl none) h') → xY V k 0 (lv_args 0 as) [] h Q) (hL : A ++ B' = L') (K : ∀ h', xcs h0 h' q L' c' s' → xY V j (pc + 3) lv rest h' P) : xY V j pc lv st h P := by
  subst hA ha hL
  refine y_call (xst_of hd hl hs) (H _ (cs_in S) ?_)
  intro h' S'
  exact K h' (cs_out S S')
end CT
