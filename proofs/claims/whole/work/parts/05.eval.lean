/-! THE SMALL MACHINE: the methods of the tables over a heap that is a function; every step a computation -/
abbrev xQ : Type := Option Value ⊕ Nat
abbrev xN : Type := Nat × xL × List Value × xH
abbrev xA : Type := xN ⊕ (Nat × List Value × List Value) ⊕ xQ
def xs1 (lv : xL) (i : Nat) (v : Value) : xL := (i, v) :: lv.filter (fun q => !(q.1 == i) && !(q.1 + 1 == i && q.2.category == 2))
def xs2 (lv : xL) (i : Nat) (v : Value) : xL := (i, v) :: lv.filter (fun q => !(q.1 == i) && (!(q.1 == i + 1) && !(q.1 + 1 == i && q.2.category == 2)))
def xup (f : xF) (a : Nat) (e : xE) : xF := fun q => if q = a then some e else f q
def xnx (pc : Nat) (lv : xL) (st : List Value) (h : xH) : Option xA := some (.inl (pc, lv, st, h))
def xfit : FieldType → Value → Bool
  | .int, .int _ => true
  | .long, .long _ => true
  | .boolean, .int x => decide (x = 0) || decide (x = 1)
  | .object _, .ref _ => true
  | .object _, .null => true
  | .array _, .ref _ => true
  | .array _, .null => true
  | _, _ => false
def xparts : Nat → Int32 := fun i => ([2, 0, 9, 3, 7, 7, 7, 7, 7, 11, 11, 11, 9, 11, 11, 8, 11, 11, 8, 8, 0] : List Int32).getD i 0
def xal (pc : Nat) (lv : xL) (st : List Value) (h : xH) : Option Value → Option xA
  | some (.ref x) => xnx pc lv (.ref x :: st) h
  | some .null => xnx pc lv (.null :: st) h
  | _ => none
def xil (pc : Nat) (lv : xL) (st : List Value) (h : xH) : Option Value → Option xA
  | some (.int x) => xnx pc lv (.int x :: st) h
  | _ => none
def xll (pc : Nat) (lv : xL) (st : List Value) (h : xH) : Option Value → Option xA
  | some (.long x) => xnx pc lv (.long x :: st) h
  | _ => none
def xas (j pc i : Nat) (lv : xL) (h : xH) : List Value → Option xA
  | .ref x :: r => if i < xmL j then xnx pc (xs1 lv i (.ref x)) r h else none
  | .null :: r => if i < xmL j then xnx pc (xs1 lv i .null) r h else none
  | _ => none
def xis (j pc i : Nat) (lv : xL) (h : xH) : List Value → Option xA
  | .int x :: r => if i < xmL j then xnx pc (xs1 lv i (.int x)) r h else none
  | _ => none
def xls (j pc i : Nat) (lv : xL) (h : xH) : List Value → Option xA
  | .long x :: r => if i + 1 < xmL j then xnx pc (xs2 lv i (.long x)) r h else none
  | _ => none
def xtg (pc : Nat) (off : Int) : Option Nat := match (pc : Int) + off with
  | .ofNat t => some t
  | .negSucc _ => none
def xbr (c : Prop) [Decidable c] (pc : Nat) (off : Int) (lv : xL) (st : List Value) (h : xH) : Option xA := match xtg pc off with
  | some t => if c then xnx t lv st h else xnx (pc + 3) lv st h
  | none => none
def xrI (V : xV) (h : xH) (a : Nat) : Option (Nat × (Nat → Int32)) := match h.1 a with
  | some (.inl (0, n, .inl f)) => some (n, f)
  | some _ => none
  | none => if a = V.1 then some (21, xparts) else if a = V.2.1 then some (V.2.2.1, V.2.2.2) else none
def xlen (V : xV) (h : xH) (a : Nat) : Option Nat := match h.1 a with
  | some (.inl (k, n, _)) => if k < 8 then some n else none
  | some _ => none
  | none => if a = V.1 then some 21 else if a = V.2.1 then some V.2.2.1 else none
def xak (ci : Nat) : Option Nat := match ci with
  | 0 => some 3
  | 2 => some 4
  | 3 => some 5
  | 4 => some 6
  | 5 => some 7
  | _ => none
def xkc (k : Nat) : Nat := match k with
  | 3 => 0
  | 4 => 2
  | 5 => 3
  | 6 => 4
  | 7 => 5
  | _ => 99
def xalc (h : xH) (e : xE) (n : Nat) : xH := (xup h.1 h.2.1 e, h.2.1 + 1, h.2.2.1 + 1, h.2.2.2 + n)
def xwr (h : xH) (a : Nat) (e : xE) : xH := (xup h.1 a e, h.2)
def xins : List Nat := [0, 1, 27, 28, 29, 41, 57, 64, 75, 87, 123]
def xthw (E o s c : Nat) : Bool := match E with
  | 100 => Nat.beq o 9 && Nat.beq c 134 && ([132, 153, 215, 236, 241, 254, 259, 270] : List Nat).any (Nat.beq s)
  | 101 => Nat.beq o 9 && Nat.beq c 205 && ([203, 209] : List Nat).any (Nat.beq s)
  | _ => false
def xisI (j : Nat) : Bool := xins.any (Nat.beq j)
/-- the arguments of a call leave the stack; the room of the callee is within the caller's -/
def xcal (j k : Nat) (st : List Value) : Option xA :=
  if xna k ≤ st.length ∧ xfr k + 1 ≤ xfr j ∧ 8 + (xmL k + 11) + xlo k ≤ xlo j ∧ (lg_sl (st.take (xna k)).reverse).length ≤ xmL k ∧ ((st.drop (xna k)).map fun v => v.category).sum ≤ 8 then some (.inr (.inl (k, (st.take (xna k)).reverse, st.drop (xna k)))) else none
/-- the same for a receiver's own method: more of the caller's stack may stay, where nothing is caught -/
def xcaV (j k : Nat) (st : List Value) : Option xA :=
  if xna k ≤ st.length ∧ xfr k + 1 ≤ xfr j ∧ 8 + (xmL k + 11) + xlo k ≤ xlo j ∧ (lg_sl (st.take (xna k)).reverse).length ≤ xmL k ∧ (((st.drop (xna k)).map fun v => v.category).sum ≤ 8 ∨ ((xhh j).isEmpty = true ∧ ((st.drop (xna k)).map fun v => v.category).sum + (xmL k + 11) + xlo k ≤ xlo j)) then some (.inr (.inl (k, (st.take (xna k)).reverse, st.drop (xna k)))) else none
def xcv (j k : Nat) (st : List Value) (h : xH) : Option xA := match (st.take (xna k)).reverse with
  | .ref b :: _ => match h.1 b with
    | some (.inr (ci, _)) => match Nat.beq ci (xow k) with
      | true => xcaV j k st
      | false => none
    | _ => none
  | _ => none
def xcI (j k : Nat) (st : List Value) : Option xA := match (st.take (xna k)).reverse with
  | .ref _ :: _ => xcal j k st
  | _ => none
def xln : Instr → Nat
  | .tableswitch .. => 0
  | .aload _ | .astore _ | .iload _ | .istore _ | .lload _ | .lstore _ | .bipush _ | .ldc _ | .newarray _ => 2
  | .sipush _ | .ldc_w _ | .ldc2_w _ | .iinc _ _ | .ifCond .. | .if_icmp .. | .ifnull _ | .ifnonnull _ | .goto _ | .getfield _ | .putfield _ | .getstatic _ | .new _ | .anewarray _ | .invokevirtual _ | .invokespecial _ | .invokestatic _ => 3
  | _ => 1
def xgetf (j pc idx : Nat) (lv : xL) (h : xH) : List Value → Option xA
  | .ref a :: r => match xpo (xow j) idx with
    | some (.inl (_, _, ci, k)) => match h.1 a with
      | some (.inr (c, fs)) => match Nat.beq c ci with
        | true => match fs[k]? with
          | some v => xnx (pc + 3) lv (v :: r) h
          | none => none
        | false => none
      | _ => none
    | _ => none
  | _ => none
def xputf (j pc idx : Nat) (lv : xL) (h : xH) : List Value → Option xA
  | v :: .ref a :: r => match xpo (xow j) idx with
    | some (.inl (_, _, ci, k)) => match h.1 a with
      | some (.inr (c, fs)) => match Nat.beq c ci && Nat.blt k fs.length && xfit (xty ci k) v && (!((xcl ci).2.1 k).2.2.2 || (xisI j && Nat.beq (xow j) ci)) with
        | true => xnx (pc + 3) lv r (xwr h a (.inr (ci, fs.set k v)))
        | false => none
      | _ => none
    | _ => none
  | _ => none
/-- 'throw new E("..")' from its first instruction on -/
def xthr (j pc ci : Nat) : Option xA := match ci with
  | 100 => match xdec j (pc + 3), xdec j (pc + 4) with
    | some (.dup, 1), some (.ldc s, 2) => match xdec j (pc + 6), xdec j (pc + 9) with
      | some (.invokespecial c, 3), some (.athrow, 1) => if xthw 100 (xow j) s c = true ∧ 6 ≤ xfr j ∧ 90 ≤ xlo j then some (.inr (.inr (.inr 100))) else none
      | _, _ => none
    | some (.dup, 1), some (.ldc_w s, 3) => match xdec j (pc + 7), xdec j (pc + 10) with
      | some (.invokespecial c, 3), some (.athrow, 1) => if xthw 100 (xow j) s c = true ∧ 6 ≤ xfr j ∧ 90 ≤ xlo j then some (.inr (.inr (.inr 100))) else none
      | _, _ => none
    | _, _ => none
  | 101 => match xdec j (pc + 3), xdec j (pc + 4) with
    | some (.dup, 1), some (.ldc s, 2) => match xdec j (pc + 6), xdec j (pc + 9) with
      | some (.invokespecial c, 3), some (.athrow, 1) => if xthw 101 (xow j) s c = true ∧ 6 ≤ xfr j ∧ 90 ≤ xlo j then some (.inr (.inr (.inr 101))) else none
      | _, _ => none
    | _, _ => none
  | _ => none
def xnew (j pc ci : Nat) (lv : xL) (st : List Value) (h : xH) : Option xA := match Nat.blt ci 11 with
  | true => xnx (pc + 3) lv (.ref h.2.1 :: st) (xalc h (.inr (ci, xdf.getD ci [])) (xcl ci).2.2)
  | false => match st with
    | [] => xthr j pc ci
    | _ => none
def xnwa (pc : Nat) (lv : xL) (h : xH) (at_ : ArrayType) : List Value → Option xA
  | .int n :: r => if n < 0 ∨ 65536 < n.toNatClampNeg then none else match at_ with
    | .int => xnx (pc + 2) lv (.ref h.2.1 :: r) (xalc h (.inl (0, n.toNatClampNeg, .inl (fun _ => 0))) n.toNatClampNeg)
    | .long => xnx (pc + 2) lv (.ref h.2.1 :: r) (xalc h (.inl (1, n.toNatClampNeg, .inr (.inl (fun _ => 0)))) n.toNatClampNeg)
    | .boolean => xnx (pc + 2) lv (.ref h.2.1 :: r) (xalc h (.inl (2, n.toNatClampNeg, .inl (fun _ => 0))) n.toNatClampNeg)
    | _ => none
  | _ => none
def xanw (j pc idx : Nat) (lv : xL) (h : xH) : List Value → Option xA
  | .int n :: r => if n < 0 ∨ 65536 < n.toNatClampNeg then none else match xpo (xow j) idx with
    | some (.inr (.inr (.inl (_, ci)))) => match xak ci with
      | some k => xnx (pc + 3) lv (.ref h.2.1 :: r) (xalc h (.inl (k, n.toNatClampNeg, .inr (.inr (.inr (.inr (fun _ => none)))))) n.toNatClampNeg)
      | none => none
    | _ => none
  | _ => none
def xin (V : xV) (j pc : Nat) (lv : xL) (st : List Value) (h : xH) : Instr → Option xA
  | .aconst_null => xnx (pc + 1) lv (.null :: st) h
  | .aload_n k => xal (pc + 1) lv st h (xlk lv k)
  | .aload k => xal (pc + 2) lv st h (xlk lv k)
  | .iload_n k => xil (pc + 1) lv st h (xlk lv k)
  | .iload k => xil (pc + 2) lv st h (xlk lv k)
  | .lload_n k => xll (pc + 1) lv st h (xlk lv k)
  | .lload k => xll (pc + 2) lv st h (xlk lv k)
  | .astore_n k => xas j (pc + 1) k lv h st
  | .astore k => xas j (pc + 2) k lv h st
  | .istore_n k => xis j (pc + 1) k lv h st
  | .istore k => xis j (pc + 2) k lv h st
  | .lstore_n k => xls j (pc + 1) k lv h st
  | .lstore k => xls j (pc + 2) k lv h st
  | .iconst n => xnx (pc + 1) lv (.int (Int32.ofInt n) :: st) h
  | .bipush n => xnx (pc + 2) lv (.int (Int8.ofInt n).toInt32 :: st) h
  | .sipush n => xnx (pc + 3) lv (.int (Int16.ofInt n).toInt32 :: st) h
  | .lconst n => xnx (pc + 1) lv (.long (Int64.ofNat n) :: st) h
  | .ldc i => match xpo (xow j) i with
    | some (.inr (.inr (.inr (.inl (_, v))))) => xnx (pc + 2) lv (.int v :: st) h
    | _ => none
  | .ldc_w i => match xpo (xow j) i with
    | some (.inr (.inr (.inr (.inl (_, v))))) => xnx (pc + 3) lv (.int v :: st) h
    | _ => none
  | .ldc2_w i => match xpo (xow j) i with
    | some (.inr (.inr (.inr (.inr (_, v))))) => xnx (pc + 3) lv (.long v :: st) h
    | _ => none
  | .iinc i n => match xlk lv i with
    | some (.int x) => if i < xmL j then xnx (pc + 3) (xs1 lv i (.int (x + Int32.ofInt n))) st h else none
    | _ => none
  | .iadd => match st with
    | .int y :: .int x :: r => xnx (pc + 1) lv (.int (x + y) :: r) h
    | _ => none
  | .isub => match st with
    | .int y :: .int x :: r => xnx (pc + 1) lv (.int (x - y) :: r) h
    | _ => none
  | .imul => match st with
    | .int y :: .int x :: r => xnx (pc + 1) lv (.int (x * y) :: r) h
    | _ => none
  | .iand => match st with
    | .int y :: .int x :: r => xnx (pc + 1) lv (.int (x &&& y) :: r) h
    | _ => none
  | .idiv => match st with
    | .int y :: .int x :: r => if y = 0 then none else xnx (pc + 1) lv (.int (x / y) :: r) h
    | _ => none
  | .irem => match st with
    | .int y :: .int x :: r => if y = 0 then none else xnx (pc + 1) lv (.int (x - x / y * y) :: r) h
    | _ => none
  | .ineg => match st with
    | .int x :: r => xnx (pc + 1) lv (.int (-x) :: r) h
    | _ => none
  | .ishr => match st with
    | .int y :: .int x :: r => xnx (pc + 1) lv (.int (x >>> (y &&& 31)) :: r) h
    | _ => none
  | .iushr => match st with
    | .int y :: .int x :: r => xnx (pc + 1) lv (.int (x.toUInt32 >>> (y.toUInt32 &&& Int32.toUInt32 31)).toInt32 :: r) h
    | _ => none
  | .ladd => match st with
    | .long y :: .long x :: r => xnx (pc + 1) lv (.long (x + y) :: r) h
    | _ => none
  | .lsub => match st with
    | .long y :: .long x :: r => xnx (pc + 1) lv (.long (x - y) :: r) h
    | _ => none
  | .lmul => match st with
    | .long y :: .long x :: r => xnx (pc + 1) lv (.long (x * y) :: r) h
    | _ => none
  | .ldiv => match st with
    | .long y :: .long x :: r => if y = 0 then none else xnx (pc + 1) lv (.long (x / y) :: r) h
    | _ => none
  | .lneg => match st with
    | .long x :: r => xnx (pc + 1) lv (.long (-x) :: r) h
    | _ => none
  | .lshr => match st with
    | .int y :: .long x :: r => xnx (pc + 1) lv (.long (x >>> (y.toInt64 &&& 63)) :: r) h
    | _ => none
  | .lcmp => match st with
    | .long y :: .long x :: r => xnx (pc + 1) lv (.int (lg_cmp x y) :: r) h
    | _ => none
  | .i2l => match st with
    | .int x :: r => xnx (pc + 1) lv (.long x.toInt64 :: r) h
    | _ => none
  | .l2i => match st with
    | .long x :: r => xnx (pc + 1) lv (.int x.toInt32 :: r) h
    | _ => none
  | .i2s => match st with
    | .int x :: r => xnx (pc + 1) lv (.int x.toInt16.toInt32 :: r) h
    | _ => none
  | .dup => match st with
    | v :: r => if v.category = 1 then xnx (pc + 1) lv (v :: v :: r) h else none
    | _ => none
  | .dup2 => match st with
    | v :: w :: r => if v.category = 1 ∧ w.category = 1 then xnx (pc + 1) lv (v :: w :: v :: w :: r) h else none
    | _ => none
  | .pop => match st with
    | v :: r => if v.category = 1 then xnx (pc + 1) lv r h else none
    | _ => none
  | .goto off => match xtg pc off with
    | some t => xnx t lv st h
    | none => none
  | .ifCond c off => match st with
    | .int x :: r => match c with
      | .eq => xbr (x = 0) pc off lv r h
      | .ne => xbr (¬ x = 0) pc off lv r h
      | .lt => xbr (x < 0) pc off lv r h
      | .ge => xbr (0 ≤ x) pc off lv r h
      | .gt => xbr (0 < x) pc off lv r h
      | .le => xbr (x ≤ 0) pc off lv r h
    | _ => none
  | .if_icmp c off => match st with
    | .int y :: .int x :: r => match c with
      | .eq => xbr (x = y) pc off lv r h
      | .ne => xbr (¬ x = y) pc off lv r h
      | .lt => xbr (x < y) pc off lv r h
      | .ge => xbr (y ≤ x) pc off lv r h
      | .gt => xbr (y < x) pc off lv r h
      | .le => xbr (x ≤ y) pc off lv r h
    | _ => none
  | .ifnull off => match st with
    | .ref _ :: r => xnx (pc + 3) lv r h
    | .null :: r => match xtg pc off with
      | some t => xnx t lv r h
      | none => none
    | _ => none
  | .ifnonnull off => match st with
    | .null :: r => xnx (pc + 3) lv r h
    | .ref _ :: r => match xtg pc off with
      | some t => xnx t lv r h
      | none => none
    | _ => none
  | .tableswitch d lo hi offs => match st with
    | .int x :: r => if x.toInt < lo ∨ hi < x.toInt then (match xtg pc d with
        | some t => xnx t lv r h
        | none => none) else match offs[(x.toInt - lo).toNat]? with
        | some o => (match xtg pc o with
          | some t => xnx t lv r h
          | none => none)
        | none => none
    | _ => none
  | .getfield i => xgetf j pc i lv h st
  | .putfield i => xputf j pc i lv h st
  | .getstatic i => match xpo (xow j) i with
    | some (.inl (_, _, 99, _)) => xnx (pc + 3) lv (.ref V.1 :: st) h
    | _ => none
  | .new i => match xpo (xow j) i with
    | some (.inr (.inr (.inl (_, ci)))) => xnew j pc ci lv st h
    | _ => none
  | .newarray t => xnwa pc lv h t st
  | .anewarray i => xanw j pc i lv h st
  | .arraylength => match st with
    | .ref a :: r => match xlen V h a with
      | some n => xnx (pc + 1) lv (.int (Int32.ofNat n) :: r) h
      | none => none
    | _ => none
  | .iaload => match st with
    | .int i :: .ref a :: r => match xrI V h a with
      | some (n, f) => if i < 0 ∨ n ≤ i.toNatClampNeg then none else xnx (pc + 1) lv (.int (f i.toNatClampNeg) :: r) h
      | none => none
    | _ => none
  | .laload => match st with
    | .int i :: .ref a :: r => match h.1 a with
      | some (.inl (1, n, .inr (.inl f))) => if i < 0 ∨ n ≤ i.toNatClampNeg then none else xnx (pc + 1) lv (.long (f i.toNatClampNeg) :: r) h
      | _ => none
    | _ => none
  | .baload => match st with
    | .int i :: .ref a :: r => match h.1 a with
      | some (.inl (2, n, .inl f)) => if i < 0 ∨ n ≤ i.toNatClampNeg then none else xnx (pc + 1) lv (.int (f i.toNatClampNeg) :: r) h
      | _ => none
    | _ => none
  | .aaload => match st with
    | .int i :: .ref a :: r => match h.1 a with
      | some (.inl (k, n, .inr (.inr (.inr (.inr f))))) => if i < 0 ∨ n ≤ i.toNatClampNeg ∨ xkc k = 99 then none else xnx (pc + 1) lv (va_rf (f i.toNatClampNeg) :: r) h
      | _ => none
    | _ => none
  | .iastore => match st with
    | .int x :: .int i :: .ref a :: r => match h.1 a with
      | some (.inl (0, n, .inl f)) => if i < 0 ∨ n ≤ i.toNatClampNeg then none else xnx (pc + 1) lv r (xwr h a (.inl (0, n, .inl (upd f i.toNatClampNeg x))))
      | _ => none
    | _ => none
  | .lastore => match st with
    | .long x :: .int i :: .ref a :: r => match h.1 a with
      | some (.inl (1, n, .inr (.inl f))) => if i < 0 ∨ n ≤ i.toNatClampNeg then none else xnx (pc + 1) lv r (xwr h a (.inl (1, n, .inr (.inl (vp_updL f i.toNatClampNeg x)))))
      | _ => none
    | _ => none
  | .bastore => match st with
    | .int x :: .int i :: .ref a :: r => match h.1 a with
      | some (.inl (2, n, .inl f)) => if i < 0 ∨ n ≤ i.toNatClampNeg then none else xnx (pc + 1) lv r (xwr h a (.inl (2, n, .inl (upd f i.toNatClampNeg (vp_nar .boolean x)))))
      | _ => none
    | _ => none
  | .aastore => match st with
    | .ref x :: .int i :: .ref a :: r => match h.1 a, h.1 x with
      | some (.inl (k, n, .inr (.inr (.inr (.inr f))))), some (.inr (ci, _)) => if i < 0 ∨ n ≤ i.toNatClampNeg ∨ ¬ ci = xkc k then none else xnx (pc + 1) lv r (xwr h a (.inl (k, n, .inr (.inr (.inr (.inr (va_up f i.toNatClampNeg (some x))))))))
      | _, _ => none
    | _ => none
  | .invokevirtual i => match xpo (xow j) i with
    | some (.inr (.inl (_, 0, k))) => xcv j k st h
    | _ => none
  | .invokestatic i => match xpo (xow j) i with
    | some (.inr (.inl (_, 2, k))) => xcaV j k st
    | some (.inr (.inl (_, 3, k))) => xcal j k st
    | some (.inr (.inl (_, 7, k))) => xcal j k st
    | _ => none
  | .invokespecial i => match xpo (xow j) i with
    | some (.inr (.inl (_, 6, _))) => match st with
      | .ref _ :: r => if 1 ≤ xfr j ∧ (r.map fun v => v.category).sum + 12 ≤ xlo j then xnx (pc + 3) lv r h else none
      | _ => none
    | some (.inr (.inl (_, 4, k))) => xcI j k st
    | some (.inr (.inl (_, 5, k))) => xcI j k st
    | _ => none
  | .ireturn => match st with
    | [.int x] => match xrt j with
      | some .int => some (.inr (.inr (.inl (some (.int x)))))
      | some .boolean => if x = 0 ∨ x = 1 then some (.inr (.inr (.inl (some (.int x))))) else none
      | _ => none
    | _ => none
  | .lreturn => match st with
    | [.long x] => match xrt j with
      | some .long => some (.inr (.inr (.inl (some (.long x)))))
      | _ => none
    | _ => none
  | .areturn => match st with
    | [.ref x] => match xrt j with
      | some (.object _) => some (.inr (.inr (.inl (some (.ref x)))))
      | _ => none
    | [.null] => match xrt j with
      | some (.object _) => some (.inr (.inr (.inl (some .null))))
      | _ => none
    | _ => none
  | .return_ => match st with
    | [] => match xrt j with
      | none => some (.inr (.inr (.inl none)))
      | _ => none
    | _ => none
  | _ => none
def xst (V : xV) (j pc : Nat) (lv : xL) (st : List Value) (h : xH) : Option xA := match xdec j pc with
  | some (i, len) => match Nat.beq (xln i) 0 || Nat.beq len (xln i) with
    | true => xin V j pc lv st h i
    | false => none
  | none => none
/-- thrown behind this call and caught here, in a method whose handler answers 1 -/
def xhd (j pc E : Nat) : Bool := match xhh j with
  | [(a, b, t, c)] => (match xdec j pc with
    | some (.invokevirtual _, _) => true
    | _ => false) && Nat.ble a pc && Nat.blt pc b && ((Nat.beq c 13 && Nat.beq E 100) || (Nat.beq c 19 && Nat.beq E 101)) && (match xdec j t with
    | some (.astore k, 2) => (match xdec j (t + 2), xdec j (t + 3) with
      | some (.iconst 1, 1), some (.ireturn, 1) => Nat.blt k (xmL j)
      | _, _ => false)
    | some (.astore_n k, 1) => (match xdec j (t + 1), xdec j (t + 2) with
      | some (.iconst 1, 1), some (.ireturn, 1) => Nat.blt k (xmL j)
      | _, _ => false)
    | _ => false)
  | _ => false
def xev (V : xV) : Nat → Nat → Nat → xL → List Value → xH → Option (xQ × xH)
  | 0, _, _, _, _, _ => none
  | n + 1, j, pc, lv, st, h => match xst V j pc lv st h with
    | none => none
    | some (.inl (pc', lv', st', h')) => xev V n j pc' lv' st' h'
    | some (.inr (.inl (k, as, rest))) => match xev V n k 0 (lv_args 0 as) [] h with
      | some (.inl v, h1) => xev V n j (pc + 3) lv (v.toList ++ rest) h1
      | some (.inr E, h1) => match xhd j pc E with
        | true => some (.inl (some (.int 1)), h1)
        | false => none
      | none => none
    | some (.inr (.inr (.inl v))) => some (.inl v, h)
    | some (.inr (.inr (.inr E))) => some (.inr E, (h.1, h.2.1 + 1, h.2.2.1 + 1, h.2.2.2 + 6))
