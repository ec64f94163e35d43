/-! steps of the small machine over the logical heap -/
theorem rv_V (g : xG) (o : Option xT) : xisV (xrv g o) := xisV_rf _
theorem rv_c (g : xG) (o : Option xT) : (xrv g o).category = 1 := xisV_c (rv_V g o)
theorem ok_s {g : xG} {u : xT} {c : Nat} (h : xok g u c) : ∀ v, some u = some v → xok g v c := fun v e => Option.some.inj e ▸ h
theorem ok_n {g : xG} {c : Nat} : ∀ v : xT, none = some v → xok g v c := fun v e => by cases e
/-- how a run ends, in the logical heap: an int, a long, nothing, a reference; or thrown -/
def lI (V : xV) (g : xG) (Q : Int32 → xW → Prop) : xQ → xH → Prop := fun r h => ∃ x Y, r = .inl (some (.int x)) ∧ RC V g h Y ∧ Q x Y
def lL (V : xV) (g : xG) (Q : Int64 → xW → Prop) : xQ → xH → Prop := fun r h => ∃ x Y, r = .inl (some (.long x)) ∧ RC V g h Y ∧ Q x Y
def lZ (V : xV) (g : xG) (Q : xW → Prop) : xQ → xH → Prop := fun r h => ∃ Y, r = .inl none ∧ RC V g h Y ∧ Q Y
def lR (V : xV) (g : xG) (c : Nat) (Q : Option xT → xW → Prop) : xQ → xH → Prop := fun r h => ∃ o Y, r = .inl (some (xrv g o)) ∧ RC V g h Y ∧ (∀ u, o = some u → xok g u c) ∧ Q o Y
def lTI (V : xV) (g : xG) (Q : Int32 → xW → Prop) (E : Nat → xW → Prop) : xQ → xH → Prop := fun r h => lI V g Q r h ∨ ∃ e Y, r = .inr e ∧ RC V g h Y ∧ E e Y
def lTL (V : xV) (g : xG) (Q : Int64 → xW → Prop) (E : Nat → xW → Prop) : xQ → xH → Prop := fun r h => lL V g Q r h ∨ ∃ e Y, r = .inr e ∧ RC V g h Y ∧ E e Y
section ZL
variable {V : xV} {g : xG} {j pc : Nat} {lv : xL} {st : List Value} {h : xH} {Y : xW} {P : xQ → xH → Prop} {t : xT} {c k idx : Nat}
theorem z_gI {p0 : Nat} {n : Bool} (hd : xdec j pc = some (.getfield idx, 3)) (hp : xpo (xow j) idx = some (.inl (p0, n, c, k))) (hk : xck c k 0 = true) (R : RC V g h Y) (ht : xok g t c) (K : xY V j (pc + 3) lv (.int (fI Y t k) :: st) h P) : xY V j pc lv (.ref (g.2 t 0) :: st) h P := by
  obtain ⟨k1, k2, k3⟩ := xck_1 hk
  refine y_next (xst_of hd rfl (x_getf hp (rc_ob R ht k3) (rc_fl k2))) ?_
  unfold xfld
  rw [ht.2, k1]
  exact K
theorem z_gJ {p0 : Nat} {n : Bool} (hd : xdec j pc = some (.getfield idx, 3)) (hp : xpo (xow j) idx = some (.inl (p0, n, c, k))) (hk : xck c k 1 = true) (R : RC V g h Y) (ht : xok g t c) (K : xY V j (pc + 3) lv (.long (fL Y t k 0) :: st) h P) : xY V j pc lv (.ref (g.2 t 0) :: st) h P := by
  obtain ⟨k1, k2, k3⟩ := xck_1 hk
  refine y_next (xst_of hd rfl (x_getf hp (rc_ob R ht k3) (rc_fl k2))) ?_
  unfold xfld
  rw [ht.2, k1]
  exact K
theorem z_gA {p0 : Nat} {n : Bool} (hd : xdec j pc = some (.getfield idx, 3)) (hp : xpo (xow j) idx = some (.inl (p0, n, c, k))) (hk : xck c k 2 = true) (R : RC V g h Y) (ht : xok g t c) (K : xY V j (pc + 3) lv (.ref (g.2 t (k + 1)) :: st) h P) : xY V j pc lv (.ref (g.2 t 0) :: st) h P := by
  obtain ⟨k1, k2, k3⟩ := xck_1 hk
  refine y_next (xst_of hd rfl (x_getf hp (rc_ob R ht k3) (rc_fl k2))) ?_
  unfold xfld
  rw [ht.2, k1]
  exact K
theorem z_gO {p0 : Nat} {n : Bool} (hd : xdec j pc = some (.getfield idx, 3)) (hp : xpo (xow j) idx = some (.inl (p0, n, c, k))) (hk : xck c k 3 = true) (R : RC V g h Y) (ht : xok g t c) (K : xY V j (pc + 3) lv (.ref (g.2 (xsub t k) 0) :: st) h P) : xY V j pc lv (.ref (g.2 t 0) :: st) h P := by
  obtain ⟨k1, k2, k3⟩ := xck_1 hk
  refine y_next (xst_of hd rfl (x_getf hp (rc_ob R ht k3) (rc_fl k2))) ?_
  unfold xfld
  rw [ht.2, k1]
  exact K
theorem z_gR {p0 : Nat} {n : Bool} (hd : xdec j pc = some (.getfield idx, 3)) (hp : xpo (xow j) idx = some (.inl (p0, n, c, k))) (hk : xck c k 4 = true) (R : RC V g h Y) (ht : xok g t c) {c' : Nat} (hc : xrc c k = c') (K : ∀ o, o = fR Y t k 0 → (∀ u, o = some u → xok g u c') → xY V j (pc + 3) lv (xrv g o :: st) h P) : xY V j pc lv (.ref (g.2 t 0) :: st) h P := by
  obtain ⟨k1, k2, k3⟩ := xck_1 hk
  refine y_next (xst_of hd rfl (x_getf hp (rc_ob R ht k3) (rc_fl k2))) ?_
  unfold xfld
  rw [ht.2, k1]
  exact K _ rfl (rc_rf R ht hc)
theorem fl_len {c : Nat} (hk : Nat.blt k (xnf c) = true) : k < ((List.range (xnf c)).map (xfld g Y t)).length := by
  rw [List.length_map, List.length_range]
  exact Nat.blt_eq.mp hk
theorem z_pI {p0 : Nat} {n : Bool} {x : Int32} (hd : xdec j pc = some (.putfield idx, 3)) (hp : xpo (xow j) idx = some (.inl (p0, n, c, k))) (hk : xck c k 0 = true) (hf : xfit (xty c k) (.int x) = true) (hfin : (!((xcl c).2.1 k).2.2.2 || (xisI j && Nat.beq (xow j) c)) = true) (R : RC V g h Y) (ht : xok g t c) (K : ∀ h' Y', Y' = uI Y t k x → RC V g h' Y' → xY V j (pc + 3) lv st h' P) : xY V j pc lv (.int x :: .ref (g.2 t 0) :: st) h P := by
  obtain ⟨k1, k2, k3⟩ := xck_1 hk
  exact y_next (xst_of hd rfl (x_putf hp (rc_ob R ht k3) (fl_len k2) hf hfin)) (K _ _ rfl (rc_uI R ht hk x))
theorem z_pJ {p0 : Nat} {n : Bool} {x : Int64} (hd : xdec j pc = some (.putfield idx, 3)) (hp : xpo (xow j) idx = some (.inl (p0, n, c, k))) (hk : xck c k 1 = true) (hx : xad c k = none) (hf : xfit (xty c k) (.long x) = true) (hfin : (!((xcl c).2.1 k).2.2.2 || (xisI j && Nat.beq (xow j) c)) = true) (R : RC V g h Y) (ht : xok g t c) (K : ∀ h' Y', Y' = uL Y t k 0 x → RC V g h' Y' → xY V j (pc + 3) lv st h' P) : xY V j pc lv (.long x :: .ref (g.2 t 0) :: st) h P := by
  obtain ⟨k1, k2, k3⟩ := xck_1 hk
  exact y_next (xst_of hd rfl (x_putf hp (rc_ob R ht k3) (fl_len k2) hf hfin)) (K _ _ rfl (rc_uJ R ht hk hx x))
theorem z_pR {p0 c' : Nat} {n : Bool} {o : Option xT} (hd : xdec j pc = some (.putfield idx, 3)) (hp : xpo (xow j) idx = some (.inl (p0, n, c, k))) (hk : xck c k 4 = true) (hx : xad c k = none) (hc : xrc c k = c') (hf : xfit (xty c k) (xrv g o) = true) (hfin : (!((xcl c).2.1 k).2.2.2 || (xisI j && Nat.beq (xow j) c)) = true) (R : RC V g h Y) (ht : xok g t c) (hu : ∀ u, o = some u → xok g u c') (K : ∀ h' Y', Y' = uR Y t k 0 o → RC V g h' Y' → xY V j (pc + 3) lv st h' P) : xY V j pc lv (xrv g o :: .ref (g.2 t 0) :: st) h P := by
  obtain ⟨k1, k2, k3⟩ := xck_1 hk
  exact y_next (xst_of hd rfl (x_putf hp (rc_ob R ht k3) (fl_len k2) hf hfin)) (K _ _ rfl (rc_uR R ht hk hx hc hu))
theorem z_aI {n : Nat} {i : Int32} (hd : xdec j pc = some (.iaload, 1)) (hx : xad c k = some (0, n)) (R : RC V g h Y) (ht : xok g t c) (hi : vp_in i n) (K : xY V j (pc + 1) lv (.int (fA Y t k i.toNatClampNeg) :: st) h P) : xY V j pc lv (.int i :: .ref (g.2 t (k + 1)) :: st) h P := by
  have h1 := rc_ar R ht hx
  unfold xarr at h1
  rw [ht.2, hx] at h1
  refine y_next (xst_of hd rfl (x_iald (n := n) (f := fA Y t k) ?_ hi)) K
  unfold xrI
  rw [h1]
  rfl
theorem z_aZ {n : Nat} {i : Int32} (hd : xdec j pc = some (.baload, 1)) (hx : xad c k = some (2, n)) (R : RC V g h Y) (ht : xok g t c) (hi : vp_in i n) (K : xY V j (pc + 1) lv (.int (fA Y t k i.toNatClampNeg) :: st) h P) : xY V j pc lv (.int i :: .ref (g.2 t (k + 1)) :: st) h P := by
  have h1 := rc_ar R ht hx
  unfold xarr at h1
  rw [ht.2, hx] at h1
  exact y_next (xst_of hd rfl (x_bald h1 hi)) K
theorem z_aL {n : Nat} {i : Int32} (hd : xdec j pc = some (.laload, 1)) (hx : xad c k = some (1, n)) (R : RC V g h Y) (ht : xok g t c) (hi : vp_in i n) (K : xY V j (pc + 1) lv (.long (fL Y t k i.toNatClampNeg) :: st) h P) : xY V j pc lv (.int i :: .ref (g.2 t (k + 1)) :: st) h P := by
  have h1 := rc_ar R ht hx
  unfold xarr at h1
  rw [ht.2, hx] at h1
  exact y_next (xst_of hd rfl (x_lald h1 hi)) K
theorem z_aR {m n : Nat} {i : Int32} (hd : xdec j pc = some (.aaload, 1)) (hx : xad c k = some (m + 3, n)) (hm : xkc (m + 3) ≠ 99) (R : RC V g h Y) (ht : xok g t c) (hi : vp_in i n) {c' : Nat} (hc : xrc c k = c') (K : ∀ o, o = fR Y t k i.toNatClampNeg → (∀ u, o = some u → xok g u c') → xY V j (pc + 1) lv (xrv g o :: st) h P) : xY V j pc lv (.int i :: .ref (g.2 t (k + 1)) :: st) h P := by
  have h1 := rc_ar R ht hx
  unfold xarr at h1
  rw [ht.2, hx] at h1
  exact y_next (xst_of hd rfl (x_aald h1 hm hi)) (K _ rfl (rc_rf R ht hc))
theorem z_sI {n : Nat} {i x : Int32} (hd : xdec j pc = some (.iastore, 1)) (hx : xad c k = some (0, n)) (R : RC V g h Y) (ht : xok g t c) (hi : vp_in i n) (K : ∀ h' Y', Y' = uA Y t k i.toNatClampNeg x → RC V g h' Y' → xY V j (pc + 1) lv st h' P) : xY V j pc lv (.int x :: .int i :: .ref (g.2 t (k + 1)) :: st) h P := by
  have h1 := rc_ar R ht hx
  unfold xarr at h1
  rw [ht.2, hx] at h1
  exact y_next (xst_of hd rfl (x_iast h1 hi)) (K _ _ rfl (rc_sA R ht hx (Or.inl rfl) _ _))
theorem z_sZ {n : Nat} {i x : Int32} (hd : xdec j pc = some (.bastore, 1)) (hx : xad c k = some (2, n)) (R : RC V g h Y) (ht : xok g t c) (hi : vp_in i n) (K : ∀ h' Y', Y' = uA Y t k i.toNatClampNeg (vp_nar .boolean x) → RC V g h' Y' → xY V j (pc + 1) lv st h' P) : xY V j pc lv (.int x :: .int i :: .ref (g.2 t (k + 1)) :: st) h P := by
  have h1 := rc_ar R ht hx
  unfold xarr at h1
  rw [ht.2, hx] at h1
  exact y_next (xst_of hd rfl (x_bast h1 hi)) (K _ _ rfl (rc_sA R ht hx (Or.inr rfl) _ _))
theorem z_sL {n : Nat} {i : Int32} {x : Int64} (hd : xdec j pc = some (.lastore, 1)) (hx : xad c k = some (1, n)) (hk : xdk c k ≠ 1) (R : RC V g h Y) (ht : xok g t c) (hi : vp_in i n) (K : ∀ h' Y', Y' = uL Y t k i.toNatClampNeg x → RC V g h' Y' → xY V j (pc + 1) lv st h' P) : xY V j pc lv (.long x :: .int i :: .ref (g.2 t (k + 1)) :: st) h P := by
  have h1 := rc_ar R ht hx
  unfold xarr at h1
  rw [ht.2, hx] at h1
  exact y_next (xst_of hd rfl (x_last h1 hi)) (K _ _ rfl (rc_sL R ht hx hk _ _))
theorem z_sR {m n c' : Nat} {i : Int32} {u : xT} (hd : xdec j pc = some (.aastore, 1)) (hx : xad c k = some (m + 3, n)) (hk : xdk c k = 2) (hc : xrc c k = c') (hm : xkc (m + 3) = c') (hc2 : Nat.blt c' 11 = true) (R : RC V g h Y) (ht : xok g t c) (hu : xok g u c') (hi : vp_in i n) (K : ∀ h' Y', Y' = uR Y t k i.toNatClampNeg (some u) → RC V g h' Y' → xY V j (pc + 1) lv st h' P) : xY V j pc lv (.ref (g.2 u 0) :: .int i :: .ref (g.2 t (k + 1)) :: st) h P := by
  have h1 := rc_ar R ht hx
  unfold xarr at h1
  rw [ht.2, hx] at h1
  have h2 := rc_ob R hu hc2
  rw [← hm] at h2
  exact y_next (xst_of hd rfl (x_aast h1 h2 hi)) (K _ _ rfl (rc_sR R ht hx hk _ hc hu))
theorem z_ln {m n : Nat} (hd : xdec j pc = some (.arraylength, 1)) (hx : xad c k = some (m, n)) (hm : m < 8) (R : RC V g h Y) (ht : xok g t c) (K : xY V j (pc + 1) lv (.int (Int32.ofNat n) :: st) h P) : xY V j pc lv (.ref (g.2 t (k + 1)) :: st) h P := by
  have h1 := rc_ar R ht hx
  unfold xarr at h1
  rw [ht.2, hx] at h1
  refine y_next (xst_of hd rfl (x_alen (n := n) ?_)) K
  unfold xlen
  match m, hm with
  | 0, _ => rw [h1]; rfl
  | 1, _ => rw [h1]; rfl
  | 2, _ => rw [h1]; rfl
  | m + 3, hm => rw [h1]; exact if_pos hm
theorem z_Pn (hd : xdec j pc = some (.arraylength, 1)) (R : RC V g h Y) (K : xY V j (pc + 1) lv (.int 21 :: st) h P) : xY V j pc lv (.ref V.1 :: st) h P := y_next (xst_of hd rfl (x_alen (rc_Pn R))) K
theorem z_P {i : Int32} (hd : xdec j pc = some (.iaload, 1)) (R : RC V g h Y) (hi : vp_in i 21) (K : xY V j (pc + 1) lv (.int (xparts i.toNatClampNeg) :: st) h P) : xY V j pc lv (.int i :: .ref V.1 :: st) h P := y_next (xst_of hd rfl (x_iald (rc_P R) hi)) K
theorem z_Sn (hd : xdec j pc = some (.arraylength, 1)) (R : RC V g h Y) (K : xY V j (pc + 1) lv (.int (Int32.ofNat V.2.2.1) :: st) h P) : xY V j pc lv (.ref V.2.1 :: st) h P := y_next (xst_of hd rfl (x_alen (rc_Sn R))) K
theorem z_S {i : Int32} (hd : xdec j pc = some (.iaload, 1)) (R : RC V g h Y) (hi : vp_in i V.2.2.1) (K : xY V j (pc + 1) lv (.int (V.2.2.2 i.toNatClampNeg) :: st) h P) : xY V j pc lv (.int i :: .ref V.2.1 :: st) h P := by
  obtain ⟨f, h1, h2⟩ := rc_S R
  refine y_next (xst_of hd rfl (x_iald h1 hi)) ?_
  rw [h2 _ (Nat.lt_of_not_le (fun z => hi (Or.inr z)))]
  exact K
/-- a local is stored -/
theorem z_is {i : Instr} {len pc' q : Nat} {x : Int32} (hd : xdec j pc = some (i, len)) (hl : (Nat.beq (xln i) 0 || Nat.beq len (xln i)) = true) (hs : xin V j pc lv (.int x :: st) h i = xis j pc' q lv h (.int x :: st)) (hq : q < xmL j) (K : ∀ lv', lv' = xs1 lv q (.int x) → xY V j pc' lv' st h P) : xY V j pc lv (.int x :: st) h P := y_next (xst_of hd hl (hs.trans (x_ist hq))) (K _ rfl)
theorem z_ls {i : Instr} {len pc' q : Nat} {x : Int64} (hd : xdec j pc = some (i, len)) (hl : (Nat.beq (xln i) 0 || Nat.beq len (xln i)) = true) (hs : xin V j pc lv (.long x :: st) h i = xls j pc' q lv h (.long x :: st)) (hq : q + 1 < xmL j) (K : ∀ lv', lv' = xs2 lv q (.long x) → xY V j pc' lv' st h P) : xY V j pc lv (.long x :: st) h P := y_next (xst_of hd hl (hs.trans (x_lst hq))) (K _ rfl)
theorem z_as {i : Instr} {len pc' q : Nat} {v : Value} (hd : xdec j pc = some (i, len)) (hl : (Nat.beq (xln i) 0 || Nat.beq len (xln i)) = true) (hs : xin V j pc lv (v :: st) h i = xas j pc' q lv h (v :: st)) (hq : q < xmL j) (hv : xisV v) (K : ∀ lv', lv' = xs1 lv q v → xY V j pc' lv' st h P) : xY V j pc lv (v :: st) h P := y_next (xst_of hd hl (hs.trans (x_astoreV hv hq))) (K _ rfl)
theorem z_in {q : Nat} {n : Int} {x v : Int32} (hd : xdec j pc = some (.iinc q n, 3)) (e : xlk lv q = some (.int x)) (hv : Int32.ofInt n = v) (hq : q < xmL j) (K : ∀ lv', lv' = xs1 lv q (.int (x + v)) → xY V j (pc + 3) lv' st h P) : xY V j pc lv st h P := y_next (xst_of hd rfl (x_inc e hv hq)) (K _ rfl)
/-- a call -/
theorem z_cI {k : Nat} {i : Instr} {as rest : List Value} {Q : Int32 → xW → Prop} (hd : xdec j pc = some (i, 3)) (hl : (Nat.beq (xln i) 0 || Nat.beq 3 (xln i)) = true) (hs : xin V j pc lv st h i = some (.inr (.inl (k, as, rest)))) (H : xY V k 0 (lv_args 0 as) [] h (lI V g Q)) (K : ∀ x h' Y', RC V g h' Y' → Q x Y' → xY V j (pc + 3) lv (.int x :: rest) h' P) : xY V j pc lv st h P := by
  refine y_call (xst_of hd hl hs) (H.imp ?_)
  rintro r h' ⟨x, Y', rfl, hR, hQ⟩
  exact K x h' Y' hR hQ
theorem z_cL {k : Nat} {i : Instr} {as rest : List Value} {Q : Int64 → xW → Prop} (hd : xdec j pc = some (i, 3)) (hl : (Nat.beq (xln i) 0 || Nat.beq 3 (xln i)) = true) (hs : xin V j pc lv st h i = some (.inr (.inl (k, as, rest)))) (H : xY V k 0 (lv_args 0 as) [] h (lL V g Q)) (K : ∀ x h' Y', RC V g h' Y' → Q x Y' → xY V j (pc + 3) lv (.long x :: rest) h' P) : xY V j pc lv st h P := by
  refine y_call (xst_of hd hl hs) (H.imp ?_)
  rintro r h' ⟨x, Y', rfl, hR, hQ⟩
  exact K x h' Y' hR hQ
theorem z_cN {k : Nat} {i : Instr} {as rest : List Value} {Q : xW → Prop} (hd : xdec j pc = some (i, 3)) (hl : (Nat.beq (xln i) 0 || Nat.beq 3 (xln i)) = true) (hs : xin V j pc lv st h i = some (.inr (.inl (k, as, rest)))) (H : xY V k 0 (lv_args 0 as) [] h (lZ V g Q)) (K : ∀ h' Y', RC V g h' Y' → Q Y' → xY V j (pc + 3) lv rest h' P) : xY V j pc lv st h P := by
  refine y_call (xst_of hd hl hs) (H.imp ?_)
  rintro r h' ⟨Y', rfl, hR, hQ⟩
  exact K h' Y' hR hQ
theorem z_cR {k c : Nat} {i : Instr} {as rest : List Value} {Q : Option xT → xW → Prop} (hd : xdec j pc = some (i, 3)) (hl : (Nat.beq (xln i) 0 || Nat.beq 3 (xln i)) = true) (hs : xin V j pc lv st h i = some (.inr (.inl (k, as, rest)))) (H : xY V k 0 (lv_args 0 as) [] h (lR V g c Q)) (K : ∀ o h' Y', RC V g h' Y' → (∀ u, o = some u → xok g u c) → Q o Y' → xY V j (pc + 3) lv (xrv g o :: rest) h' P) : xY V j pc lv st h P := by
  refine y_call (xst_of hd hl hs) (H.imp ?_)
  rintro r h' ⟨o, Y', rfl, hR, ho, hQ⟩
  exact K o h' Y' hR ho hQ
theorem z_cTI {k : Nat} {i : Instr} {as rest : List Value} {Q : Int32 → xW → Prop} {E : Nat → xW → Prop} (hd : xdec j pc = some (i, 3)) (hl : (Nat.beq (xln i) 0 || Nat.beq 3 (xln i)) = true) (hs : xin V j pc lv st h i = some (.inr (.inl (k, as, rest)))) (H : xY V k 0 (lv_args 0 as) [] h (lTI V g Q E)) (K : ∀ x h' Y', RC V g h' Y' → Q x Y' → xY V j (pc + 3) lv (.int x :: rest) h' P) (KE : ∀ e h' Y', RC V g h' Y' → E e Y' → xhd j pc e = true ∧ P (.inl (some (.int 1))) h') : xY V j pc lv st h P := by
  refine y_call (xst_of hd hl hs) (H.imp ?_)
  rintro r h' (⟨x, Y', rfl, hR, hQ⟩ | ⟨e, Y', rfl, hR, hQ⟩)
  · exact K x h' Y' hR hQ
  · exact KE e h' Y' hR hQ
theorem z_cTL {k : Nat} {i : Instr} {as rest : List Value} {Q : Int64 → xW → Prop} {E : Nat → xW → Prop} (hd : xdec j pc = some (i, 3)) (hl : (Nat.beq (xln i) 0 || Nat.beq 3 (xln i)) = true) (hs : xin V j pc lv st h i = some (.inr (.inl (k, as, rest)))) (H : xY V k 0 (lv_args 0 as) [] h (lTL V g Q E)) (K : ∀ x h' Y', RC V g h' Y' → Q x Y' → xY V j (pc + 3) lv (.long x :: rest) h' P) (KE : ∀ e h' Y', RC V g h' Y' → E e Y' → xhd j pc e = true ∧ P (.inl (some (.int 1))) h') : xY V j pc lv st h P := by
  refine y_call (xst_of hd hl hs) (H.imp ?_)
  rintro r h' (⟨x, Y', rfl, hR, hQ⟩ | ⟨e, Y', rfl, hR, hQ⟩)
  · exact K x h' Y' hR hQ
  · exact KE e h' Y' hR hQ
end ZL
section ZM
variable {lv lv' : xL}
theorem xs1_N {i : Nat} {v : Value} (e : lv' = xs1 lv i v) : xlk lv' i = some v := by subst e; exact xs1_n
theorem xs2_N {i : Nat} {v : Value} (e : lv' = xs2 lv i v) : xlk lv' i = some v := by subst e; exact xs2_n
theorem ne_b {k i : Nat} (h : Nat.beq k i = false) : k ≠ i := fun e => by subst e; rw [Nat.beq_refl] at h; cases h
theorem xs1_A {k i : Nat} {v w : Value} (e : lv' = xs1 lv i v) (ek : xlk lv k = some w) (h1 : Nat.beq k i = false) (h2 : Nat.beq (k + 1) i = false) : xlk lv' k = some w := by subst e; exact xs1_a ek (ne_b h1) (ne_b h2)
theorem xs1_B {k i : Nat} {v w : Value} (e : lv' = xs1 lv i v) (ek : xlk lv k = some w) (h1 : Nat.beq k i = false) (h2 : w.category = 1) : xlk lv' k = some w := by subst e; exact xs1_b ek (ne_b h1) h2
theorem xs2_A {k i : Nat} {v w : Value} (e : lv' = xs2 lv i v) (ek : xlk lv k = some w) (h1 : (Nat.beq k i || Nat.beq k (i + 1)) = false) (h2 : Nat.beq (k + 1) i = false) : xlk lv' k = some w := by
  subst e
  rw [Bool.or_eq_false_iff] at h1
  exact xs2_a ek ⟨ne_b h1.1, ne_b h1.2⟩ (ne_b h2)
theorem xs2_B {k i : Nat} {v w : Value} (e : lv' = xs2 lv i v) (ek : xlk lv k = some w) (h1 : (Nat.beq k i || Nat.beq k (i + 1)) = false) (h2 : w.category = 1) : xlk lv' k = some w := by
  subst e
  rw [Bool.or_eq_false_iff] at h1
  exact xs2_b ek ⟨ne_b h1.1, ne_b h1.2⟩ h2
end ZM
