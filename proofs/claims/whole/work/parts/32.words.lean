/-! the parts of a word; what a program's getters answer -/
def uN (w : Int32) : Nat := w.toUInt32.toNat
def wOp (w : Int32) : Nat := uN w / 16777216
def wD (w : Int32) : Nat := uN w / 1048576 % 16
def wA (w : Int32) : Nat := uN w / 65536 % 16
def wB (w : Int32) : Nat := uN w / 4096 % 16
def wN (w : Int32) : Nat := uN w % 65536
def wS (w : Int32) : Int32 := (Int32.toInt16 w).toInt32
theorem u_lt (w : Int32) : uN w < 4294967296 := w.toUInt32.toNat_lt
theorem i_ofU (u : UInt32) : u.toInt32 = n32 u.toNat := by
  apply Int32.toBitVec.inj
  show u.toBitVec = BitVec.ofNat 32 u.toNat
  apply BitVec.eq_of_toNat_eq
  rw [BitVec.toNat_ofNat]
  exact (Nat.mod_eq_of_lt u.toNat_lt).symm
theorem i_u (w : Int32) : w = n32 (uN w) := by
  have h := i_ofU w.toUInt32
  rw [Int32.toInt32_toUInt32] at h
  exact h
theorem i_andm {k m : Nat} (h : k < 4294967296) (hm : m ≤ 31) : n32 k &&& n32 (2 ^ m - 1) = n32 (k % 2 ^ m) := by
  have h2 : 2 ^ m ≤ 2 ^ 31 := Nat.pow_le_pow_right (by omega) hm
  have h3 : 0 < 2 ^ m := Nat.two_pow_pos m
  have h4 : k % 2 ^ m < 2 ^ m := Nat.mod_lt _ h3
  apply Int32.toBitVec.inj
  show BitVec.ofNat 32 k &&& BitVec.ofNat 32 (2 ^ m - 1) = BitVec.ofNat 32 (k % 2 ^ m)
  apply BitVec.eq_of_toNat_eq
  rw [BitVec.toNat_and, BitVec.toNat_ofNat, BitVec.toNat_ofNat, BitVec.toNat_ofNat, Nat.mod_eq_of_lt (a := k) (by simpa using h), Nat.mod_eq_of_lt (a := 2 ^ m - 1) (by omega), Nat.and_two_pow_sub_one_eq_mod, Nat.mod_eq_of_lt (a := k % 2 ^ m) (by omega)]
theorem w_24 (w : Int32) : (Int32.toUInt32 w >>> (Int32.toUInt32 24 &&& Int32.toUInt32 31)).toInt32 = n32 (wOp w) := by
  rw [show (Int32.toUInt32 24 &&& Int32.toUInt32 31) = 24 from by decide, i_ofU, UInt32.toNat_shiftRight, Nat.shiftRight_eq_div_pow]
  rfl
theorem w_20 (w : Int32) : (Int32.toUInt32 w >>> (Int32.toUInt32 20 &&& Int32.toUInt32 31)).toInt32 = n32 (uN w / 1048576) := by
  rw [show (Int32.toUInt32 20 &&& Int32.toUInt32 31) = 20 from by decide, i_ofU, UInt32.toNat_shiftRight, Nat.shiftRight_eq_div_pow]
  rfl
theorem w_16 (w : Int32) : (Int32.toUInt32 w >>> (Int32.toUInt32 16 &&& Int32.toUInt32 31)).toInt32 = n32 (uN w / 65536) := by
  rw [show (Int32.toUInt32 16 &&& Int32.toUInt32 31) = 16 from by decide, i_ofU, UInt32.toNat_shiftRight, Nat.shiftRight_eq_div_pow]
  rfl
theorem w_12 (w : Int32) : (Int32.toUInt32 w >>> (Int32.toUInt32 12 &&& Int32.toUInt32 31)).toInt32 = n32 (uN w / 4096) := by
  rw [show (Int32.toUInt32 12 &&& Int32.toUInt32 31) = 12 from by decide, i_ofU, UInt32.toNat_shiftRight, Nat.shiftRight_eq_div_pow]
  rfl
theorem w_and7 {k : Nat} (h : k < 4294967296) : n32 k &&& 7 = n32 (k % 8) := i_andm (m := 3) h (by omega)
theorem w_and15 {k : Nat} (h : k < 4294967296) : n32 k &&& 15 = n32 (k % 16) := i_andm (m := 4) h (by omega)
theorem w_n (w : Int32) : w &&& 65535 = n32 (wN w) := by
  have h := i_andm (k := uN w) (m := 16) (u_lt w) (by omega)
  rw [← i_u w] at h
  exact h
theorem w_s (w : Int32) : (Int32.toInt16 (w &&& 65535)).toInt32 = wS w := by
  unfold wS
  congr 1
  apply Int16.toBitVec.inj
  rw [Int32.toBitVec_toInt16, Int32.toBitVec_toInt16, BitVec.signExtend_eq_setWidth_of_le _ (by omega), BitVec.signExtend_eq_setWidth_of_le _ (by omega)]
  apply BitVec.eq_of_toNat_eq
  rw [BitVec.toNat_setWidth, BitVec.toNat_setWidth]
  show (w.toBitVec &&& BitVec.ofNat 32 65535).toNat % 2 ^ 16 = _
  rw [BitVec.toNat_and, BitVec.toNat_ofNat, show (65535 % 2 ^ 32) = 2 ^ 16 - 1 from rfl, Nat.and_two_pow_sub_one_eq_mod, Nat.mod_mod]
theorem op_lt (w : Int32) : wOp w < 256 := by have := u_lt w; unfold wOp; omega
theorem n_lt6 (w : Int32) : wN w < 65536 := Nat.mod_lt _ (by omega)
/-- what feed() has seen to -/
def okW (w : Int32) : Prop := wOp w ≤ 20 ∧ wD w < 8 ∧ wA w < 8 ∧ (4 ≤ wOp w → wOp w ≤ 8 → wB w < 8) ∧ (wOp w = 11 → wN w ≤ 31)
section WG
variable {V : xV} {g : xG} {Y : xW} {w : Int32}
theorem s_117 {Q : Int32 → xW → Prop} (H : Q (n32 (wOp w)) Y) : L_117_0 V g Y w Q := l_117_0 (by rw [w_24]; exact H)
theorem s_127 {Q : Int32 → xW → Prop} (H : Q (n32 (wOp w)) Y) : L_127_0 V g Y w Q := l_127_0 (by rw [w_24]; exact H)
theorem s_118 {Q : Int32 → xW → Prop} (H : Q (n32 (wD w % 8)) Y) : L_118_0 V g Y w Q := by
  have h := u_lt w
  refine l_118_0 ?_
  rw [w_20, w_and7 (by omega), show uN w / 1048576 % 8 = wD w % 8 from by unfold wD; omega]
  exact H
theorem s_119 {Q : Int32 → xW → Prop} (H : Q (n32 (wA w % 8)) Y) : L_119_0 V g Y w Q := by
  have h := u_lt w
  refine l_119_0 ?_
  rw [w_16, w_and7 (by omega), show uN w / 65536 % 8 = wA w % 8 from by unfold wA; omega]
  exact H
theorem s_120 {Q : Int32 → xW → Prop} (H : Q (n32 (wB w % 8)) Y) : L_120_0 V g Y w Q := by
  have h := u_lt w
  refine l_120_0 ?_
  rw [w_12, w_and7 (by omega), show uN w / 4096 % 8 = wB w % 8 from by unfold wB; omega]
  exact H
theorem s_121 {Q : Int32 → xW → Prop} (H : Q (n32 (wN w)) Y) : L_121_0 V g Y w Q := l_121_0 (by rw [w_n]; exact H)
theorem s_122 {Q : Int32 → xW → Prop} (H : Q (wS w) Y) : L_122_0 V g Y w Q := l_122_0 H
theorem s_128 {Q : Int32 → xW → Prop} (H : Q (n32 (wD w)) Y) : L_128_0 V g Y w Q := by
  have h := u_lt w
  refine l_128_0 ?_
  rw [w_20, w_and15 (by omega)]
  exact H
theorem s_129 {Q : Int32 → xW → Prop} (H : Q (n32 (wA w)) Y) : L_129_0 V g Y w Q := by
  have h := u_lt w
  refine l_129_0 ?_
  rw [w_16, w_and15 (by omega)]
  exact H
theorem s_131 {Q : Int32 → xW → Prop} (H : Q (n32 (wB w)) Y) : L_131_0 V g Y w Q := by
  have h := u_lt w
  refine l_131_0 ?_
  rw [w_12, w_and15 (by omega)]
  exact H
theorem s_130 {Q : Int32 → xW → Prop} (H : Q (n32 (wN w)) Y) : L_130_0 V g Y w Q := l_130_0 (by rw [w_n]; exact H)
variable {t : xT} {k n : Nat}
theorem n_ge0 {k : Nat} (h : k < 2147483648) : ¬ n32 k < 0 := by
  rw [i_lt, n_toInt h, t0]
  omega
theorem s_42 {Q : Int32 → xW → Prop} (hn : fI Y t 5 = n32 n) (hn2 : n < 2147483648) (hk : k < 2147483648) (H1 : k < n → Q 1 Y) (H0 : ¬ k < n → Q 0 Y) : L_42_0 V g Y t (n32 k) Q := by
  refine l_42_0 ⟨fun z => absurd z (n_ge0 hk), fun _ => ⟨fun c => ?_, fun c => ?_⟩⟩
  · rw [hn, n_le hn2 hk] at c
    exact l_42_16 (l_42_17 ⟨.inl rfl, H0 (by omega)⟩)
  · rw [hn, n_le hn2 hk] at c
    exact l_42_17 ⟨.inr rfl, H1 (by omega)⟩
theorem s_42n {Q : Int32 → xW → Prop} {x : Int32} (hx : x.toInt < 0) (H0 : Q 0 Y) : L_42_0 V g Y t x Q := by
  have c : x < 0 := by rw [i_lt, t0]; exact hx
  exact l_42_0 ⟨fun _ => l_42_16 (l_42_17 ⟨.inl rfl, H0⟩), fun z => absurd c z⟩
theorem s_43 {Q : Int32 → xW → Prop} (hn : fI Y t 5 = n32 n) (hn2 : n ≤ 200) (hk : k < n) (H1 : Q (fA Y t 1 k) Y) : L_43_0 V g Y t (n32 k) Q := by
  refine l_43_0 ⟨fun z => absurd z (n_ge0 (by omega)), fun _ => ⟨fun c => ?_, fun c => ⟨n_in (by omega) (by omega), l_43_22 ?_⟩⟩⟩
  · rw [hn, n_le (by omega) (by omega)] at c
    omega
  · rw [n_nat (by omega)]
    exact H1
theorem s_44 {Q : Option xT → xW → Prop} (hn : fI Y t 5 = n32 n) (hn2 : n ≤ 200) (hk : k < 2147483648) (H1 : k < n → Q (fR Y t 2 k) Y) (H0 : ¬ k < n → Q none Y) : L_44_0 V g Y t (n32 k) Q := by
  refine l_44_0 ⟨fun z => absurd z (n_ge0 hk), fun _ => ⟨fun c => ?_, fun c => ?_⟩⟩
  · rw [hn, n_le (by omega) hk] at c
    exact l_44_21 (l_44_22 (H0 (by omega)))
  · rw [hn, n_le (by omega) hk] at c
    refine ⟨n_in (by omega) (by omega), fun o e => l_44_22 ?_⟩
    rw [n_nat hk] at e
    rw [e]
    exact H1 (by omega)
theorem s_44n {Q : Option xT → xW → Prop} {x : Int32} (hx : x.toInt < 0) (H0 : Q none Y) : L_44_0 V g Y t x Q := by
  have c : x < 0 := by rw [i_lt, t0]; exact hx
  exact l_44_0 ⟨fun _ => l_44_21 (l_44_22 H0), fun z => absurd c z⟩
theorem s_45 {Q : Option xT → xW → Prop} (hn : fI Y t 6 = n32 n) (hn2 : n ≤ 8) (hk : k < 2147483648) (H1 : k < n → Q (fR Y t 3 k) Y) (H0 : ¬ k < n → Q none Y) : L_45_0 V g Y t (n32 k) Q := by
  refine l_45_0 ⟨fun z => absurd z (n_ge0 hk), fun _ => ⟨fun c => ?_, fun c => ?_⟩⟩
  · rw [hn, n_le (by omega) hk] at c
    exact l_45_21 (l_45_22 (H0 (by omega)))
  · rw [hn, n_le (by omega) hk] at c
    refine ⟨n_in (by omega) (by omega), fun o e => l_45_22 ?_⟩
    rw [n_nat hk] at e
    rw [e]
    exact H1 (by omega)
theorem s_45n {Q : Option xT → xW → Prop} {x : Int32} (hx : x.toInt < 0) (H0 : Q none Y) : L_45_0 V g Y t x Q := by
  have c : x < 0 := by rw [i_lt, t0]; exact hx
  exact l_45_0 ⟨fun _ => l_45_21 (l_45_22 H0), fun z => absurd c z⟩
theorem s_46 {Q : Option xT → xW → Prop} (hn : fI Y t 7 = n32 n) (hn2 : n ≤ 8) (hk : k < 2147483648) (H1 : k < n → Q (fR Y t 4 k) Y) (H0 : ¬ k < n → Q none Y) : L_46_0 V g Y t (n32 k) Q := by
  refine l_46_0 ⟨fun z => absurd z (n_ge0 hk), fun _ => ⟨fun c => ?_, fun c => ?_⟩⟩
  · rw [hn, n_le (by omega) hk] at c
    exact l_46_21 (l_46_22 (H0 (by omega)))
  · rw [hn, n_le (by omega) hk] at c
    refine ⟨n_in (by omega) (by omega), fun o e => l_46_22 ?_⟩
    rw [n_nat hk] at e
    rw [e]
    exact H1 (by omega)
end WG
