/-! rows for the instructions that read or write the heap, in the small machine -/
/-- null or a reference -/
def xisV (v : Value) : Prop := v = .null ∨ ∃ b, v = .ref b
theorem xisV_n : xisV .null := Or.inl rfl
theorem xisV_r (b : Nat) : xisV (.ref b) := Or.inr ⟨b, rfl⟩
theorem xisV_rf (r : Option Nat) : xisV (va_rf r) := by
  cases r with
  | none => exact Or.inl rfl
  | some b => exact Or.inr ⟨b, rfl⟩
/-- a field that is an int, a long, a reference; a field's change; the kind of an object -/
def gI (h : xH) (a c k : Nat) (K : Int32 → Prop) : Prop := ∃ fs x, h.1 a = some (.inr (c, fs)) ∧ fs[k]? = some (.int x) ∧ K x
def gL (h : xH) (a c k : Nat) (K : Int64 → Prop) : Prop := ∃ fs x, h.1 a = some (.inr (c, fs)) ∧ fs[k]? = some (.long x) ∧ K x
def gV (h : xH) (a c k : Nat) (K : Value → Prop) : Prop := ∃ fs v, h.1 a = some (.inr (c, fs)) ∧ fs[k]? = some v ∧ xisV v ∧ K v
def pF (h : xH) (a c k : Nat) (v : Value) (K : xH → Prop) : Prop := ∃ fs, h.1 a = some (.inr (c, fs)) ∧ k < fs.length ∧ K (xwr h a (.inr (c, fs.set k v)))
def isR (v : Value) (K : Nat → Prop) : Prop := ∃ b, v = .ref b ∧ K b
def isO (h : xH) (b c : Nat) (K : Prop) : Prop := (∃ fs, h.1 b = some (.inr (c, fs))) ∧ K
def aI (V : xV) (h : xH) (a : Nat) (i : Int32) (K : Int32 → Prop) : Prop := ∃ n f, xrI V h a = some (n, f) ∧ vp_in i n ∧ K (f i.toNatClampNeg)
def aL (h : xH) (a : Nat) (i : Int32) (K : Int64 → Prop) : Prop := ∃ n f, h.1 a = some (.inl (1, n, .inr (.inl f))) ∧ vp_in i n ∧ K (f i.toNatClampNeg)
def aZ (h : xH) (a : Nat) (i : Int32) (K : Int32 → Prop) : Prop := ∃ n f, h.1 a = some (.inl (2, n, .inl f)) ∧ vp_in i n ∧ K (f i.toNatClampNeg)
def aR (h : xH) (a : Nat) (i : Int32) (K : Value → Prop) : Prop := ∃ k n f, h.1 a = some (.inl (k, n, .inr (.inr (.inr (.inr f))))) ∧ xkc k ≠ 99 ∧ vp_in i n ∧ K (va_rf (f i.toNatClampNeg))
def sI (h : xH) (a : Nat) (i x : Int32) (K : xH → Prop) : Prop := ∃ n f, h.1 a = some (.inl (0, n, .inl f)) ∧ vp_in i n ∧ K (xwr h a (.inl (0, n, .inl (upd f i.toNatClampNeg x))))
def sL (h : xH) (a : Nat) (i : Int32) (x : Int64) (K : xH → Prop) : Prop := ∃ n f, h.1 a = some (.inl (1, n, .inr (.inl f))) ∧ vp_in i n ∧ K (xwr h a (.inl (1, n, .inr (.inl (vp_updL f i.toNatClampNeg x)))))
def sZ (h : xH) (a : Nat) (i x : Int32) (K : xH → Prop) : Prop := ∃ n f, h.1 a = some (.inl (2, n, .inl f)) ∧ vp_in i n ∧ K (xwr h a (.inl (2, n, .inl (upd f i.toNatClampNeg (vp_nar .boolean x)))))
def sR (h : xH) (a : Nat) (i : Int32) (x : Nat) (K : xH → Prop) : Prop := ∃ k n f vs, h.1 a = some (.inl (k, n, .inr (.inr (.inr (.inr f))))) ∧ h.1 x = some (.inr (xkc k, vs)) ∧ xkc k ≠ 99 ∧ vp_in i n ∧ K (xwr h a (.inl (k, n, .inr (.inr (.inr (.inr (va_up f i.toNatClampNeg (some x))))))))
def aN (V : xV) (h : xH) (a : Nat) (K : Int32 → Prop) : Prop := ∃ n, xlen V h a = some n ∧ K (Int32.ofNat n)
/-- null or not -/
def isN (v : Value) (A : Prop) (B : Nat → Prop) : Prop := (v = .null → A) ∧ (∀ b, v = .ref b → B b)
section ZR
variable {V : xV} {j pc idx : Nat} {lv : xL} {st : List Value} {h : xH}
theorem x_getf {a p0 ci k : Nat} {n : Bool} {fs : List Value} {v : Value} (hp : xpo (xow j) idx = some (.inl (p0, n, ci, k))) (ha : h.1 a = some (.inr (ci, fs))) (hv : fs[k]? = some v) : xin V j pc lv (.ref a :: st) h (.getfield idx) = some (.inl (pc + 3, lv, v :: st, h)) := by
  show xgetf j pc idx lv h (.ref a :: st) = _
  unfold xgetf
  dsimp only
  rw [hp]
  dsimp only
  rw [ha]
  dsimp only
  rw [Nat.beq_refl]
  dsimp only
  rw [hv]
  rfl
theorem x_putf {a p0 ci k : Nat} {n : Bool} {fs : List Value} {v : Value} (hp : xpo (xow j) idx = some (.inl (p0, n, ci, k))) (ha : h.1 a = some (.inr (ci, fs))) (hk : k < fs.length) (hf : xfit (xty ci k) v = true) (hfin : (!((xcl ci).2.1 k).2.2.2 || (xisI j && Nat.beq (xow j) ci)) = true) : xin V j pc lv (v :: .ref a :: st) h (.putfield idx) = some (.inl (pc + 3, lv, st, xwr h a (.inr (ci, fs.set k v)))) := by
  show xputf j pc idx lv h (v :: .ref a :: st) = _
  unfold xputf
  dsimp only
  rw [hp]
  dsimp only
  rw [ha]
  dsimp only
  rw [Nat.beq_refl, hf, hfin, show Nat.blt k fs.length = true by simpa [Nat.blt_eq] using hk]
  rfl
theorem x_iald {a n : Nat} {f : Nat → Int32} {i : Int32} (ha : xrI V h a = some (n, f)) (hi : vp_in i n) : xin V j pc lv (.int i :: .ref a :: st) h .iaload = some (.inl (pc + 1, lv, .int (f i.toNatClampNeg) :: st, h)) := by
  show (match xrI V h a with | some (n, f) => if i < 0 ∨ n ≤ i.toNatClampNeg then none else xnx (pc + 1) lv (.int (f i.toNatClampNeg) :: st) h | none => none) = _
  rw [ha]
  exact if_neg hi
theorem x_lald {a n : Nat} {f : Nat → Int64} {i : Int32} (ha : h.1 a = some (.inl (1, n, .inr (.inl f)))) (hi : vp_in i n) : xin V j pc lv (.int i :: .ref a :: st) h .laload = some (.inl (pc + 1, lv, .long (f i.toNatClampNeg) :: st, h)) := by
  dsimp only [xin]
  rw [ha]
  exact if_neg hi
theorem x_bald {a n : Nat} {f : Nat → Int32} {i : Int32} (ha : h.1 a = some (.inl (2, n, .inl f))) (hi : vp_in i n) : xin V j pc lv (.int i :: .ref a :: st) h .baload = some (.inl (pc + 1, lv, .int (f i.toNatClampNeg) :: st, h)) := by
  dsimp only [xin]
  rw [ha]
  exact if_neg hi
theorem x_aald {a k n : Nat} {f : Nat → Option Nat} {i : Int32} (ha : h.1 a = some (.inl (k, n, .inr (.inr (.inr (.inr f)))))) (hk : xkc k ≠ 99) (hi : vp_in i n) : xin V j pc lv (.int i :: .ref a :: st) h .aaload = some (.inl (pc + 1, lv, va_rf (f i.toNatClampNeg) :: st, h)) := by
  dsimp only [xin]
  rw [ha]
  exact if_neg (fun z => z.elim (fun q => hi (Or.inl q)) (fun q => q.elim (fun y => hi (Or.inr y)) hk))
theorem x_iast {a n : Nat} {f : Nat → Int32} {i x : Int32} (ha : h.1 a = some (.inl (0, n, .inl f))) (hi : vp_in i n) : xin V j pc lv (.int x :: .int i :: .ref a :: st) h .iastore = some (.inl (pc + 1, lv, st, xwr h a (.inl (0, n, .inl (upd f i.toNatClampNeg x))))) := by
  dsimp only [xin]
  rw [ha]
  exact if_neg hi
theorem x_last {a n : Nat} {f : Nat → Int64} {i : Int32} {x : Int64} (ha : h.1 a = some (.inl (1, n, .inr (.inl f)))) (hi : vp_in i n) : xin V j pc lv (.long x :: .int i :: .ref a :: st) h .lastore = some (.inl (pc + 1, lv, st, xwr h a (.inl (1, n, .inr (.inl (vp_updL f i.toNatClampNeg x)))))) := by
  dsimp only [xin]
  rw [ha]
  exact if_neg hi
theorem x_bast {a n : Nat} {f : Nat → Int32} {i x : Int32} (ha : h.1 a = some (.inl (2, n, .inl f))) (hi : vp_in i n) : xin V j pc lv (.int x :: .int i :: .ref a :: st) h .bastore = some (.inl (pc + 1, lv, st, xwr h a (.inl (2, n, .inl (upd f i.toNatClampNeg (vp_nar .boolean x)))))) := by
  dsimp only [xin]
  rw [ha]
  exact if_neg hi
theorem x_aast {a k n x : Nat} {f : Nat → Option Nat} {vs : List Value} {i : Int32} (ha : h.1 a = some (.inl (k, n, .inr (.inr (.inr (.inr f)))))) (hx : h.1 x = some (.inr (xkc k, vs))) (hi : vp_in i n) : xin V j pc lv (.ref x :: .int i :: .ref a :: st) h .aastore = some (.inl (pc + 1, lv, st, xwr h a (.inl (k, n, .inr (.inr (.inr (.inr (va_up f i.toNatClampNeg (some x))))))))) := by
  dsimp only [xin]
  rw [ha, hx]
  exact if_neg (fun z => z.elim (fun q => hi (Or.inl q)) (fun q => q.elim (fun y => hi (Or.inr y)) (fun y => y rfl)))
theorem x_alen {a n : Nat} (ha : xlen V h a = some n) : xin V j pc lv (.ref a :: st) h .arraylength = some (.inl (pc + 1, lv, .int (Int32.ofNat n) :: st, h)) := by
  dsimp only [xin]
  rw [ha]
  rfl
theorem x_newa {at_ : ArrayType} {n : Int32} {N k : Nat} {e : vp_A} (hn : ¬ (n < 0 ∨ 65536 < n.toNatClampNeg)) (hN : n.toNatClampNeg = N) (hk : (at_ = .int ∧ k = 0 ∧ e = (N, .inl (fun _ => 0))) ∨ (at_ = .long ∧ k = 1 ∧ e = (N, .inr (.inl (fun _ => 0)))) ∨ (at_ = .boolean ∧ k = 2 ∧ e = (N, .inl (fun _ => 0)))) : xin V j pc lv (.int n :: st) h (.newarray at_) = some (.inl (pc + 2, lv, .ref h.2.1 :: st, xalc h (.inl (k, e)) N)) := by
  show xnwa pc lv h at_ (.int n :: st) = _
  unfold xnwa
  dsimp only
  rw [if_neg hn]
  rcases hk with ⟨rfl, rfl, rfl⟩ | ⟨rfl, rfl, rfl⟩ | ⟨rfl, rfl, rfl⟩ <;> subst hN <;> rfl
theorem x_newq {n : Int32} {N p0 ci k : Nat} (hn : ¬ (n < 0 ∨ 65536 < n.toNatClampNeg)) (hN : n.toNatClampNeg = N) (hp : xpo (xow j) idx = some (.inr (.inr (.inl (p0, ci))))) (hk : xak ci = some k) : xin V j pc lv (.int n :: st) h (.anewarray idx) = some (.inl (pc + 3, lv, .ref h.2.1 :: st, xalc h (.inl (k, N, .inr (.inr (.inr (.inr (fun _ => none)))))) N)) := by
  show xanw j pc idx lv h (.int n :: st) = _
  unfold xanw
  dsimp only
  rw [if_neg hn, hp]
  dsimp only
  rw [hk]
  subst hN
  rfl
theorem x_callv {p0 k b : Nat} {As : List Value} {ci : Nat} {fs : List Value} {r : Option xA} (hp : xpo (xow j) idx = some (.inr (.inl (p0, 0, k)))) (hs : (st.take (xna k)).reverse = .ref b :: As) (hb : h.1 b = some (.inr (ci, fs))) (hc : Nat.beq ci (xow k) = true) (hr : xcaV j k st = r) : xin V j pc lv st h (.invokevirtual idx) = r := by
  dsimp only [xin]
  rw [hp]
  show xcv j k st h = r
  unfold xcv
  rw [hs]
  dsimp only
  rw [hb]
  dsimp only
  rw [hc]
  exact hr
theorem x_bt {c : Prop} [Decidable c] {t : Nat} {off : Int} (ht : xtg pc off = some t) (hc : c) : xbr c pc off lv st h = some (.inl (t, lv, st, h)) := by
  unfold xbr
  rw [ht]
  exact if_pos hc
theorem x_bf {c : Prop} [Decidable c] {t : Nat} {off : Int} (ht : xtg pc off = some t) (hc : ¬ c) : xbr c pc off lv st h = some (.inl (pc + 3, lv, st, h)) := by
  unfold xbr
  rw [ht]
  exact if_neg hc
theorem x_idiv {x y : Int32} (hy : ¬ y = 0) : xin V j pc lv (.int y :: .int x :: st) h .idiv = some (.inl (pc + 1, lv, .int (x / y) :: st, h)) := if_neg hy
theorem x_irem {x y : Int32} (hy : ¬ y = 0) : xin V j pc lv (.int y :: .int x :: st) h .irem = some (.inl (pc + 1, lv, .int (x - x / y * y) :: st, h)) := if_neg hy
theorem x_ldiv {x y : Int64} (hy : ¬ y = 0) : xin V j pc lv (.long y :: .long x :: st) h .ldiv = some (.inl (pc + 1, lv, .long (x / y) :: st, h)) := if_neg hy
theorem x_zret {x : Int32} (hr : xrt j = some .boolean) (hx : x = 0 ∨ x = 1) : xin V j pc lv [.int x] h .ireturn = some (.inr (.inr (.inl (some (.int x))))) := by
  dsimp only [xin]
  rw [hr]
  exact if_pos hx
theorem x_aloadV {k : Nat} {v : Value} {pc' : Nat} (hv : xisV v) (hk : xlk lv k = some v) : xal pc' lv st h (xlk lv k) = some (.inl (pc', lv, v :: st, h)) := by
  rw [hk]
  rcases hv with rfl | ⟨b, rfl⟩ <;> rfl
theorem x_astoreV {k pc' : Nat} {v : Value} (hv : xisV v) (hk : k < xmL j) : xas j pc' k lv h (v :: st) = some (.inl (pc', xs1 lv k v, st, h)) := by
  rcases hv with rfl | ⟨b, rfl⟩ <;> exact if_pos hk
theorem x_aretV {v : Value} {C : String} (hr : xrt j = some (.object C)) (hv : xisV v) : xin V j pc lv [v] h .areturn = some (.inr (.inr (.inl (some v)))) := by
  rcases hv with rfl | ⟨b, rfl⟩ <;> (dsimp only [xin]; rw [hr])
theorem x_sw_in {d lo hi : Int} {offs : Array Int} {x : Int32} {o : Int} {t : Nat} (h1 : ¬ (x.toInt < lo ∨ hi < x.toInt)) (h2 : offs[(x.toInt - lo).toNat]? = some o) (h3 : xtg pc o = some t) : xin V j pc lv (.int x :: st) h (.tableswitch d lo hi offs) = some (.inl (t, lv, st, h)) := by
  dsimp only [xin]
  rw [if_neg h1, h2]
  dsimp only
  rw [h3]
  rfl
theorem x_sw_out {d lo hi : Int} {offs : Array Int} {x : Int32} {t : Nat} (h1 : x.toInt < lo ∨ hi < x.toInt) (h3 : xtg pc d = some t) : xin V j pc lv (.int x :: st) h (.tableswitch d lo hi offs) = some (.inl (t, lv, st, h)) := by
  dsimp only [xin]
  rw [if_pos h1, h3]
  rfl
end ZR
section ZS
variable {V : xV} {j pc idx : Nat} {lv : xL} {st : List Value} {h : xH}
theorem x_ilo {k pc' : Nat} {x : Int32} (hk : xlk lv k = some (.int x)) : xil pc' lv st h (xlk lv k) = some (.inl (pc', lv, .int x :: st, h)) := by rw [hk]; rfl
theorem x_llo {k pc' : Nat} {x : Int64} (hk : xlk lv k = some (.long x)) : xll pc' lv st h (xlk lv k) = some (.inl (pc', lv, .long x :: st, h)) := by rw [hk]; rfl
theorem x_ist {k pc' : Nat} {x : Int32} (hk : k < xmL j) : xis j pc' k lv h (.int x :: st) = some (.inl (pc', xs1 lv k (.int x), st, h)) := if_pos hk
theorem x_lst {k pc' : Nat} {x : Int64} (hk : k + 1 < xmL j) : xls j pc' k lv h (.long x :: st) = some (.inl (pc', xs2 lv k (.long x), st, h)) := if_pos hk
theorem x_ico {n : Int} {v : Int32} (hv : Int32.ofInt n = v) : xin V j pc lv st h (.iconst n) = some (.inl (pc + 1, lv, .int v :: st, h)) := by subst hv; rfl
theorem x_bip {n : Int} {v : Int32} (hv : (Int8.ofInt n).toInt32 = v) : xin V j pc lv st h (.bipush n) = some (.inl (pc + 2, lv, .int v :: st, h)) := by subst hv; rfl
theorem x_sip {n : Int} {v : Int32} (hv : (Int16.ofInt n).toInt32 = v) : xin V j pc lv st h (.sipush n) = some (.inl (pc + 3, lv, .int v :: st, h)) := by subst hv; rfl
theorem x_lco {n : Fin 2} {v : Int64} (hv : Int64.ofNat n = v) : xin V j pc lv st h (.lconst n) = some (.inl (pc + 1, lv, .long v :: st, h)) := by subst hv; rfl
theorem x_inc {k : Nat} {n : Int} {x v : Int32} (hk : xlk lv k = some (.int x)) (hv : Int32.ofInt n = v) (hm : k < xmL j) : xin V j pc lv st h (.iinc k n) = some (.inl (pc + 3, xs1 lv k (.int (x + v)), st, h)) := by
  subst hv
  dsimp only [xin]
  rw [hk]
  exact if_pos hm
theorem xlk_filter {p : Nat × Value → Bool} : ∀ {l : xL} {k : Nat} {w : Value}, xlk l k = some w → p (k, w) = true → xlk (l.filter p) k = some w
  | [], k, w, e, hp => by cases e
  | (q, u) :: r, k, w, e, hp => by
    unfold xlk at e
    split at e
    next hb =>
      cases e
      have hq := Nat.eq_of_beq_eq_true hb
      subst hq
      rw [List.filter_cons, if_pos hp]
      unfold xlk
      rw [hb]
    next hb =>
      rw [List.filter_cons]
      split
      · unfold xlk
        rw [hb]
        exact xlk_filter e hp
      · exact xlk_filter e hp
theorem xs1_n {i : Nat} {v : Value} : xlk (xs1 lv i v) i = some v := by
  unfold xs1 xlk
  rw [Nat.beq_refl]
theorem xs2_n {i : Nat} {v : Value} : xlk (xs2 lv i v) i = some v := by
  unfold xs2 xlk
  rw [Nat.beq_refl]
theorem xlk_cons {k i : Nat} {v w : Value} {l : xL} (h : k ≠ i) (e : xlk l k = some w) : xlk ((i, v) :: l) k = some w := by
  unfold xlk
  have hb : Nat.beq i k = false := by
    cases hb : Nat.beq i k with
    | true => exact absurd (Nat.eq_of_beq_eq_true hb).symm h
    | false => rfl
  rw [hb]
  exact e
theorem xs1_a {k i : Nat} {v w : Value} (e : xlk lv k = some w) (h1 : k ≠ i) (h2 : k + 1 ≠ i) : xlk (xs1 lv i v) k = some w := xlk_cons h1 (xlk_filter e (by simp [h1, h2]))
theorem xs1_b {k i : Nat} {v w : Value} (e : xlk lv k = some w) (h1 : k ≠ i) (h2 : w.category = 1) : xlk (xs1 lv i v) k = some w := xlk_cons h1 (xlk_filter e (by simp [h1, h2]))
theorem xs2_a {k i : Nat} {v w : Value} (e : xlk lv k = some w) (h1 : k ≠ i ∧ k ≠ i + 1) (h2 : k + 1 ≠ i) : xlk (xs2 lv i v) k = some w := xlk_cons h1.1 (xlk_filter e (by simp [h1.1, h1.2, h2]))
theorem xs2_b {k i : Nat} {v w : Value} (e : xlk lv k = some w) (h1 : k ≠ i ∧ k ≠ i + 1) (h2 : w.category = 1) : xlk (xs2 lv i v) k = some w := xlk_cons h1.1 (xlk_filter e (by simp [h1.1, h1.2, h2]))
theorem xisV_c {v : Value} (h : xisV v) : v.category = 1 := by rcases h with rfl | ⟨b, rfl⟩ <;> rfl
theorem xfit_z {x : Int32} (h : x = 0 ∨ x = 1) : xfit .boolean (.int x) = true := by rcases h with rfl | rfl <;> rfl
theorem xfit_v {v : Value} {C : String} (h : xisV v) : xfit (.object C) v = true := by rcases h with rfl | ⟨b, rfl⟩ <;> rfl
theorem xfit_w {v : Value} {t : FieldType} (h : xisV v) : xfit (.array t) v = true := by rcases h with rfl | ⟨b, rfl⟩ <;> rfl
theorem lg_cmp_ne (x y : Int64) : (¬ lg_cmp x y = 0) ↔ ¬ x = y := not_congr (lg_cmp_eq x y)
end ZS
section ZT
variable {V : xV} {j pc idx : Nat} {lv : xL} {st : List Value} {h : xH}
theorem xt_if_eq {x : Int32} {t : Nat} {off : Int} (ht : xtg pc off = some t) (hc : x = 0) : xin V j pc lv (.int x :: st) h (.ifCond .eq off) = some (.inl (t, lv, st, h)) := x_bt ht hc
theorem xf_if_eq {x : Int32} {t : Nat} {off : Int} (ht : xtg pc off = some t) (hc : ¬ (x = 0)) : xin V j pc lv (.int x :: st) h (.ifCond .eq off) = some (.inl (pc + 3, lv, st, h)) := x_bf ht hc
theorem xt_icmp_eq {x y : Int32} {t : Nat} {off : Int} (ht : xtg pc off = some t) (hc : x = y) : xin V j pc lv (.int y :: .int x :: st) h (.if_icmp .eq off) = some (.inl (t, lv, st, h)) := x_bt ht hc
theorem xf_icmp_eq {x y : Int32} {t : Nat} {off : Int} (ht : xtg pc off = some t) (hc : ¬ (x = y)) : xin V j pc lv (.int y :: .int x :: st) h (.if_icmp .eq off) = some (.inl (pc + 3, lv, st, h)) := x_bf ht hc
theorem xt_if_ne {x : Int32} {t : Nat} {off : Int} (ht : xtg pc off = some t) (hc : ¬ x = 0) : xin V j pc lv (.int x :: st) h (.ifCond .ne off) = some (.inl (t, lv, st, h)) := x_bt ht hc
theorem xf_if_ne {x : Int32} {t : Nat} {off : Int} (ht : xtg pc off = some t) (hc : ¬ (¬ x = 0)) : xin V j pc lv (.int x :: st) h (.ifCond .ne off) = some (.inl (pc + 3, lv, st, h)) := x_bf ht hc
theorem xt_icmp_ne {x y : Int32} {t : Nat} {off : Int} (ht : xtg pc off = some t) (hc : ¬ x = y) : xin V j pc lv (.int y :: .int x :: st) h (.if_icmp .ne off) = some (.inl (t, lv, st, h)) := x_bt ht hc
theorem xf_icmp_ne {x y : Int32} {t : Nat} {off : Int} (ht : xtg pc off = some t) (hc : ¬ (¬ x = y)) : xin V j pc lv (.int y :: .int x :: st) h (.if_icmp .ne off) = some (.inl (pc + 3, lv, st, h)) := x_bf ht hc
theorem xt_if_lt {x : Int32} {t : Nat} {off : Int} (ht : xtg pc off = some t) (hc : x < 0) : xin V j pc lv (.int x :: st) h (.ifCond .lt off) = some (.inl (t, lv, st, h)) := x_bt ht hc
theorem xf_if_lt {x : Int32} {t : Nat} {off : Int} (ht : xtg pc off = some t) (hc : ¬ (x < 0)) : xin V j pc lv (.int x :: st) h (.ifCond .lt off) = some (.inl (pc + 3, lv, st, h)) := x_bf ht hc
theorem xt_icmp_lt {x y : Int32} {t : Nat} {off : Int} (ht : xtg pc off = some t) (hc : x < y) : xin V j pc lv (.int y :: .int x :: st) h (.if_icmp .lt off) = some (.inl (t, lv, st, h)) := x_bt ht hc
theorem xf_icmp_lt {x y : Int32} {t : Nat} {off : Int} (ht : xtg pc off = some t) (hc : ¬ (x < y)) : xin V j pc lv (.int y :: .int x :: st) h (.if_icmp .lt off) = some (.inl (pc + 3, lv, st, h)) := x_bf ht hc
theorem xt_if_ge {x : Int32} {t : Nat} {off : Int} (ht : xtg pc off = some t) (hc : 0 ≤ x) : xin V j pc lv (.int x :: st) h (.ifCond .ge off) = some (.inl (t, lv, st, h)) := x_bt ht hc
theorem xf_if_ge {x : Int32} {t : Nat} {off : Int} (ht : xtg pc off = some t) (hc : ¬ (0 ≤ x)) : xin V j pc lv (.int x :: st) h (.ifCond .ge off) = some (.inl (pc + 3, lv, st, h)) := x_bf ht hc
theorem xt_icmp_ge {x y : Int32} {t : Nat} {off : Int} (ht : xtg pc off = some t) (hc : y ≤ x) : xin V j pc lv (.int y :: .int x :: st) h (.if_icmp .ge off) = some (.inl (t, lv, st, h)) := x_bt ht hc
theorem xf_icmp_ge {x y : Int32} {t : Nat} {off : Int} (ht : xtg pc off = some t) (hc : ¬ (y ≤ x)) : xin V j pc lv (.int y :: .int x :: st) h (.if_icmp .ge off) = some (.inl (pc + 3, lv, st, h)) := x_bf ht hc
theorem xt_if_gt {x : Int32} {t : Nat} {off : Int} (ht : xtg pc off = some t) (hc : 0 < x) : xin V j pc lv (.int x :: st) h (.ifCond .gt off) = some (.inl (t, lv, st, h)) := x_bt ht hc
theorem xf_if_gt {x : Int32} {t : Nat} {off : Int} (ht : xtg pc off = some t) (hc : ¬ (0 < x)) : xin V j pc lv (.int x :: st) h (.ifCond .gt off) = some (.inl (pc + 3, lv, st, h)) := x_bf ht hc
theorem xt_icmp_gt {x y : Int32} {t : Nat} {off : Int} (ht : xtg pc off = some t) (hc : y < x) : xin V j pc lv (.int y :: .int x :: st) h (.if_icmp .gt off) = some (.inl (t, lv, st, h)) := x_bt ht hc
theorem xf_icmp_gt {x y : Int32} {t : Nat} {off : Int} (ht : xtg pc off = some t) (hc : ¬ (y < x)) : xin V j pc lv (.int y :: .int x :: st) h (.if_icmp .gt off) = some (.inl (pc + 3, lv, st, h)) := x_bf ht hc
theorem xt_if_le {x : Int32} {t : Nat} {off : Int} (ht : xtg pc off = some t) (hc : x ≤ 0) : xin V j pc lv (.int x :: st) h (.ifCond .le off) = some (.inl (t, lv, st, h)) := x_bt ht hc
theorem xf_if_le {x : Int32} {t : Nat} {off : Int} (ht : xtg pc off = some t) (hc : ¬ (x ≤ 0)) : xin V j pc lv (.int x :: st) h (.ifCond .le off) = some (.inl (pc + 3, lv, st, h)) := x_bf ht hc
theorem xt_icmp_le {x y : Int32} {t : Nat} {off : Int} (ht : xtg pc off = some t) (hc : x ≤ y) : xin V j pc lv (.int y :: .int x :: st) h (.if_icmp .le off) = some (.inl (t, lv, st, h)) := x_bt ht hc
theorem xf_icmp_le {x y : Int32} {t : Nat} {off : Int} (ht : xtg pc off = some t) (hc : ¬ (x ≤ y)) : xin V j pc lv (.int y :: .int x :: st) h (.if_icmp .le off) = some (.inl (pc + 3, lv, st, h)) := x_bf ht hc
theorem x_dup {v : Value} (hv : v.category = 1) : xin V j pc lv (v :: st) h .dup = some (.inl (pc + 1, lv, v :: v :: st, h)) := if_pos hv
theorem x_dup2 {v w : Value} (hv : v.category = 1) (hw : w.category = 1) : xin V j pc lv (v :: w :: st) h .dup2 = some (.inl (pc + 1, lv, v :: w :: v :: w :: st, h)) := if_pos ⟨hv, hw⟩
theorem x_pop {v : Value} (hv : v.category = 1) : xin V j pc lv (v :: st) h .pop = some (.inl (pc + 1, lv, st, h)) := if_pos hv
end ZT
