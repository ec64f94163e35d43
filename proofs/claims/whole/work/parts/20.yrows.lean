/-! rows for the instructions that read or write the heap, in the small machine -/
/-- null or a reference -/
def xisV (v : Value) : Prop := v = .null ∨ ∃ b, v = .ref b
theorem xisV_n : xisV .null := Or.inl rfl
theorem xisV_r (b : Nat) : xisV (.ref b) := Or.inr ⟨b, rfl⟩
theorem xisV_rf (r : Option Nat) : xisV (va_rf r) := by
  cases r with
  | none => exact Or.inl rfl
  | some b => exact Or.inr ⟨b, rfl⟩
/-- a field that is an int, a long, a reference; a field's change; the kind of an object -/
def gI (h : xH) (a c k : Nat) (K : Int32 → Prop) : Prop := ∃ fs x, h.1 a = some (.inr (c, fs)) ∧ fs[k]? = some (.int x) ∧ K x
def gL (h : xH) (a c k : Nat) (K : Int64 → Prop) : Prop := ∃ fs x, h.1 a = some (.inr (c, fs)) ∧ fs[k]? = some (.long x) ∧ K x
def gV (h : xH) (a c k : Nat) (K : Value → Prop) : Prop := ∃ fs v, h.1 a = some (.inr (c, fs)) ∧ fs[k]? = some v ∧ xisV v ∧ K v
def pF (h : xH) (a c k : Nat) (v : Value) (K : xH → Prop) : Prop := ∃ fs, h.1 a = some (.inr (c, fs)) ∧ k < fs.length ∧ K (xwr h a (.inr (c, fs.set k v)))
def isR (v : Value) (K : Nat → Prop) : Prop := ∃ b, v = .ref b ∧ K b
def isO (h : xH) (b c : Nat) (K : Prop) : Prop := (∃ fs, h.1 b = some (.inr (c, fs))) ∧ K
def aI (V : xV) (h : xH) (a : Nat) (i : Int32) (K : Int32 → Prop) : Prop := ∃ n f, xrI V h a = some (n, f) ∧ vp_in i n ∧ K (f i.toNatClampNeg)
def aL (h : xH) (a : Nat) (i : Int32) (K : Int64 → Prop) : Prop := ∃ n f, h.1 a = some (.inl (1, n, .inr (.inl f))) ∧ vp_in i n ∧ K (f i.toNatClampNeg)
def aZ (h : xH) (a : Nat) (i : Int32) (K : Int32 → Prop) : Prop := ∃ n f, h.1 a = some (.inl (2, n, .inl f)) ∧ vp_in i n ∧ K (f i.toNatClampNeg)
def aR (h : xH) (a : Nat) (i : Int32) (K : Value → Prop) : Prop := ∃ k n f, h.1 a = some (.inl (k, n, .inr (.inr (.inr (.inr f))))) ∧ xkc k ≠ 99 ∧ vp_in i n ∧ K (va_rf (f i.toNatClampNeg))
def sI (h : xH) (a : Nat) (i x : Int32) (K : xH → Prop) : Prop := ∃ n f, h.1 a = some (.inl (0, n, .inl f)) ∧ vp_in i n ∧ K (xwr h a (.inl (0, n, .inl (upd f i.toNatClampNeg x))))
def sL (h : xH) (a : Nat) (i : Int32) (x : Int64) (K : xH → Prop) : Prop := ∃ n f, h.1 a = some (.inl (1, n, .inr (.inl f))) ∧ vp_in i n ∧ K (xwr h a (.inl (1, n, .inr (.inl (vp_updL f i.toNatClampNeg x)))))
def sZ (h : xH) (a : Nat) (i x : Int32) (K : xH → Prop) : Prop := ∃ n f, h.1 a = some (.inl (2, n, .inl f)) ∧ vp_in i n ∧ K (xwr h a (.inl (2, n, .inl (upd f i.toNatClampNeg (vp_nar .boolean x)))))
def sR (h : xH) (a : Nat) (i : Int32) (x : Nat) (K : xH → Prop) : Prop := ∃ k n f vs, h.1 a = some (.inl (k, n, .inr (.inr (.inr (.inr f))))) ∧ h.1 x = some (.inr (xkc k, vs)) ∧ xkc k ≠ 99 ∧ vp_in i n ∧ K (xwr h a (.inl (k, n, .inr (.inr (.inr (.inr (va_up f i.toNatClampNeg (some x))))))))
def aN (V : xV) (h : xH) (a : Nat) (K : Int32 → Prop) : Prop := ∃ n, xlen V h a = some n ∧ K (Int32.ofNat n)
/-- null or not -/
def isN (v : Value) (A : Prop) (B : Nat → Prop) : Prop := (v = .null → A) ∧ (∀ b, v = .ref b → B b)
section ZR
variable {V : xV} {j pc idx : Nat} {lv : xL} {st : List Value} {h : xH}
theorem x_getf {a p0 ci k : Nat} {n : Bool} {fs : List Value} {v : Value} (hp : xpo (xow j) idx = some (.inl (p0, n, ci, k))) (ha : h.1 a = some (.inr (ci, fs))) (hv : fs[k]? = some v) : xin V j pc lv (.ref a :: st) h (.getfield idx) = some (.inl (pc + 3, lv, v :: st, h)) := by
  show xgetf j pc idx lv h (.ref a :: st) = _
  unfold xgetf
  dsimp only
  rw [hp]
  dsimp only
  rw [ha]
  dsimp only
  rw [Nat.beq_refl]
  dsimp only
  rw [hv]
  rfl
theorem x_putf {a p0 ci k : Nat} {n : Bool} {fs : List Value} {v : Value} (hp : xpo (xow j) idx = some (.inl (p0, n, ci, k))) (ha : h.1 a = some (.inr (ci, fs))) (hk : k < fs.length) (hf : xfit (xty ci k) v = true) (hfin : (!((xcl ci).2.1 k).2.2.2 || (xisI j && Nat.beq (xow j) ci)) = true) : xin V j pc lv (v :: .ref a :: st) h (.putfield idx) = some (.inl (pc + 3, lv, st, xwr h a (.inr (ci, fs.set k v)))) := by
  show xputf j pc idx lv h (v :: .ref a :: st) = _
  unfold xputf
  dsimp only
  rw [hp]
  dsimp only
  rw [ha]
  dsimp only
  rw [Nat.beq_refl, hf, hfin, show Nat.blt k fs.length = true by simpa [Nat.blt_eq] using hk]
  rfl
theorem x_iald {a n : Nat} {f : Nat → Int32} {i : Int32} (ha : xrI V h a = some (n, f)) (hi : vp_in i n) : xin V j pc lv (.int i :: .ref a :: st) h .iaload = some (.inl (pc + 1, lv, .int (f i.toNatClampNeg) :: st, h)) := by
  show (match xrI V h a with | some (n, f) => if i < 0 ∨ n ≤ i.toNatClampNeg then none else xnx (pc + 1) lv (.int (f i.toNatClampNeg) :: st) h | none => none) = _
  rw [ha]
  exact if_neg hi
theorem x_lald {a n : Nat} {f : Nat → Int64} {i : Int32} (ha : h.1 a = some (.inl (1, n, .inr (.inl f)))) (hi : vp_in i n) : xin V j pc lv (.int i :: .ref a :: st) h .laload = some (.inl (pc + 1, lv, .long (f i.toNatClampNeg) :: st, h)) := by
  dsimp only [xin]
  rw [ha]
  exact if_neg hi
theorem x_bald {a n : Nat} {f : Nat → Int32} {i : Int32} (ha : h.1 a = some (.inl (2, n, .inl f))) (hi : vp_in i n) : xin V j pc lv (.int i :: .ref a :: st) h .baload = some (.inl (pc + 1, lv, .int (f i.toNatClampNeg) :: st, h)) := by
  dsimp only [xin]
  rw [ha]
  exact if_neg hi
theorem x_aald {a k n : Nat} {f : Nat → Option Nat} {i : Int32} (ha : h.1 a = some (.inl (k, n, .inr (.inr (.inr (.inr f)))))) (hk : xkc k ≠ 99) (hi : vp_in i n) : xin V j pc lv (.int i :: .ref a :: st) h .aaload = some (.inl (pc + 1, lv, va_rf (f i.toNatClampNeg) :: st, h)) := by
  dsimp only [xin]
  rw [ha]
  exact if_neg (fun z => z.elim (fun q => hi (Or.inl q)) (fun q => q.elim (fun y => hi (Or.inr y)) hk))
theorem x_iast {a n : Nat} {f : Nat → Int32} {i x : Int32} (ha : h.1 a = some (.inl (0, n, .inl f))) (hi : vp_in i n) : xin V j pc lv (.int x :: .int i :: .ref a :: st) h .iastore = some (.inl (pc + 1, lv, st, xwr h a (.inl (0, n, .inl (upd f i.toNatClampNeg x))))) := by
  dsimp only [xin]
  rw [ha]
  exact if_neg hi
theorem x_last {a n : Nat} {f : Nat → Int64} {i : Int32} {x : Int64} (ha : h.1 a = some (.inl (1, n, .inr (.inl f)))) (hi : vp_in i n) : xin V j pc lv (.long x :: .int i :: .ref a :: st) h .lastore = some (.inl (pc + 1, lv, st, xwr h a (.inl (1, n, .inr (.inl (vp_updL f i.toNatClampNeg x)))))) := by
  dsimp only [xin]
  rw [ha]
  exact if_neg hi
theorem x_bast {a n : Nat} {f : Nat → Int32} {i x : Int32} (ha : h.1 a = some (.inl (2, n, .inl f))) (hi : vp_in i n) : xin V j pc lv (.int x :: .int i :: .ref a :: st) h .bastore = some (.inl (pc + 1, lv, st, xwr h a (.inl (2, n, .inl (upd f i.toNatClampNeg (vp_nar .boolean x)))))) := by
  dsimp only [xin]
  rw [ha]
  exact if_neg hi
theorem x_aast {a k n x : Nat} {f : Nat → Option Nat} {vs : List Value} {i : Int32} (ha : h.1 a = some (.inl (k, n, .inr (.inr (.inr (.inr f)))))) (hx : h.1 x = some (.inr (xkc k, vs))) (hi : vp_in i n) : xin V j pc lv (.ref x :: .int i :: .ref a :: st) h .aastore = some (.inl (pc + 1, lv, st, xwr h a (.inl (k, n, .inr (.inr (.inr (.inr (va_up f i.toNatClampNeg (some x))))))))) := by
  dsimp only [xin]
  rw [ha, hx]
  exact if_neg (fun z => z.elim (fun q => hi (Or.inl q)) (fun q => q.elim (fun y => hi (Or.inr y)) (fun y => y rfl)))
theorem x_alen {a n : Nat} (ha : xlen V h a = some n) : xin V j pc lv (.ref a :: st) h .arraylength = some (.inl (pc + 1, lv, .int (Int32.ofNat n) :: st, h)) := by
  dsimp only [xin]
  rw [ha]
  rfl
theorem x_newa {at_ : ArrayType} {n : Int32} {N k : Nat} {e : vp_A} (hn : ¬ (n < 0 ∨ 65536 < n.toNatClampNeg)) (hN : n.toNatClampNeg = N) (hk : (at_ = .int ∧ k = 0 ∧ e = (N, .inl (fun _ => 0))) ∨ (at_ = .long ∧ k = 1 ∧ e = (N, .inr (.inl (fun _ => 0)))) ∨ (at_ = .boolean ∧ k = 2 ∧ e = (N, .inl (fun _ => 0)))) : xin V j pc lv (.int n :: st) h (.newarray at_) = some (.inl (pc + 2, lv, .ref h.2.1 :: st, xalc h (.inl (k, e)) N)) := by
  show xnwa pc lv h at_ (.int n :: st) = _
  unfold xnwa
  dsimp only
  rw [if_neg hn]
  rcases hk with ⟨rfl, rfl, rfl⟩ | ⟨rfl, rfl, rfl⟩ | ⟨rfl, rfl, rfl⟩ <;> subst hN <;> rfl
theorem x_newq {n : Int32} {N p0 ci k : Nat} (hn : ¬ (n < 0 ∨ 65536 < n.toNatClampNeg)) (hN : n.toNatClampNeg = N) (hp : xpo (xow j) idx = some (.inr (.inr (.inl (p0, ci))))) (hk : xak ci = some k) : xin V j pc lv (.int n :: st) h (.anewarray idx) = some (.inl (pc + 3, lv, .ref h.2.1 :: st, xalc h (.inl (k, N, .inr (.inr (.inr (.inr (fun _ => none)))))) N)) := by
  show xanw j pc idx lv h (.int n :: st) = _
  unfold xanw
  dsimp only
  rw [if_neg hn, hp]
  dsimp only
  rw [hk]
  subst hN
  rfl
theorem x_callv {p0 k b : Nat} {As : List Value} {ci : Nat} {fs : List Value} {r : Option xA} (hp : xpo (xow j) idx = some (.inr (.inl (p0, 0, k)))) (hs : (st.take (xna k)).reverse = .ref b :: As) (hb : h.1 b = some (.inr (ci, fs))) (hc : Nat.beq ci (xow k) = true) (hr : xcal j k st = r) : xin V j pc lv st h (.invokevirtual idx) = r := by
  dsimp only [xin]
  rw [hp]
  show xcv j k st h = r
  unfold xcv
  rw [hs]
  dsimp only
  rw [hb]
  dsimp only
  rw [hc]
  exact hr
theorem x_bt {c : Prop} [Decidable c] {t : Nat} {off : Int} (ht : xtg pc off = some t) (hc : c) : xbr c pc off lv st h = some (.inl (t, lv, st, h)) := by
  unfold xbr
  rw [ht]
  exact if_pos hc
theorem x_bf {c : Prop} [Decidable c] {t : Nat} {off : Int} (ht : xtg pc off = some t) (hc : ¬ c) : xbr c pc off lv st h = some (.inl (pc + 3, lv, st, h)) := by
  unfold xbr
  rw [ht]
  exact if_neg hc
theorem x_idiv {x y : Int32} (hy : ¬ y = 0) : xin V j pc lv (.int y :: .int x :: st) h .idiv = some (.inl (pc + 1, lv, .int (x / y) :: st, h)) := if_neg hy
theorem x_irem {x y : Int32} (hy : ¬ y = 0) : xin V j pc lv (.int y :: .int x :: st) h .irem = some (.inl (pc + 1, lv, .int (x - x / y * y) :: st, h)) := if_neg hy
theorem x_ldiv {x y : Int64} (hy : ¬ y = 0) : xin V j pc lv (.long y :: .long x :: st) h .ldiv = some (.inl (pc + 1, lv, .long (x / y) :: st, h)) := if_neg hy
theorem x_zret {x : Int32} (hr : xrt j = some .boolean) (hx : x = 0 ∨ x = 1) : xin V j pc lv [.int x] h .ireturn = some (.inr (.inr (.inl (some (.int x))))) := by
  dsimp only [xin]
  rw [hr]
  exact if_pos hx
theorem x_aloadV {k : Nat} {v : Value} {pc' : Nat} (hv : xisV v) (hk : xlk lv k = some v) : xal pc' lv st h (xlk lv k) = some (.inl (pc', lv, v :: st, h)) := by
  rw [hk]
  rcases hv with rfl | ⟨b, rfl⟩ <;> rfl
theorem x_astoreV {k pc' : Nat} {v : Value} (hv : xisV v) (hk : k < xmL j) : xas j pc' k lv h (v :: st) = some (.inl (pc', xs1 lv k v, st, h)) := by
  rcases hv with rfl | ⟨b, rfl⟩ <;> exact if_pos hk
theorem x_aretV {v : Value} {C : String} (hr : xrt j = some (.object C)) (hv : xisV v) : xin V j pc lv [v] h .areturn = some (.inr (.inr (.inl (some v)))) := by
  rcases hv with rfl | ⟨b, rfl⟩ <;> (dsimp only [xin]; rw [hr])
theorem x_sw_in {d lo hi : Int} {offs : Array Int} {x : Int32} {o : Int} {t : Nat} (h1 : ¬ (x.toInt < lo ∨ hi < x.toInt)) (h2 : offs[(x.toInt - lo).toNat]? = some o) (h3 : xtg pc o = some t) : xin V j pc lv (.int x :: st) h (.tableswitch d lo hi offs) = some (.inl (t, lv, st, h)) := by
  dsimp only [xin]
  rw [if_neg h1, h2]
  dsimp only
  rw [h3]
  rfl
theorem x_sw_out {d lo hi : Int} {offs : Array Int} {x : Int32} {t : Nat} (h1 : x.toInt < lo ∨ hi < x.toInt) (h3 : xtg pc d = some t) : xin V j pc lv (.int x :: st) h (.tableswitch d lo hi offs) = some (.inl (t, lv, st, h)) := by
  dsimp only [xin]
  rw [if_pos h1, h3]
  rfl
end ZR
