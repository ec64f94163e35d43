/-! words that may be fed; feed -/
def ptO (k : Nat) (b : Int32) : Prop := (b = 0 → k = 0) ∧ (¬ b = 0 → k < 8)
def vW (w : Int32) : Prop := wOp w ≤ 20 ∧ ptO (wD w) (xparts (wOp w) &&& 1) ∧ ptO (wA w) (xparts (wOp w) &&& 2) ∧ (xparts (wOp w) &&& 8 = 0 → wN w % 4096 = 0 ∧ ptO (wB w) (xparts (wOp w) &&& 4)) ∧ (¬ xparts (wOp w) &&& 8 = 0 → wOp w = 11 → wN w ≤ 31)
theorem xp48 : ∀ op, op < 21 → 4 ≤ op → op ≤ 8 → xparts op &&& 8 = 0 ∧ ¬ xparts op &&& 4 = 0 := by decide +kernel
theorem xp11 : ¬ xparts 11 &&& 8 = 0 := by decide +kernel
theorem okW_of {w : Int32} (h : vW w) : okW w := by
  obtain ⟨h1, h2, h3, h4, h5⟩ := h
  refine ⟨h1, ?_, ?_, fun a b => ?_, fun e => ?_⟩
  · by_cases z : xparts (wOp w) &&& 1 = 0
    · rw [h2.1 z]; omega
    · exact h2.2 z
  · by_cases z : xparts (wOp w) &&& 2 = 0
    · rw [h3.1 z]; omega
    · exact h3.2 z
  · have := xp48 (wOp w) (by omega) a b
    exact (h4 this.1).2.2 this.2
  · exact h5 (by rw [e]; exact xp11) e
theorem n_eq0 {k : Nat} (h : k < 2147483648) : n32 k = 0 ↔ k = 0 := n_eq (b := 0) h (by omega)
section FD
variable {V : xV} {g : xG} {Y : xW} {w : Int32}
theorem s_115 {Q : Int32 → xW → Prop} {k : Nat} {b : Int32} (hk : k < 2147483648) (H1 : ptO k b → Q 1 Y) (H0 : ¬ ptO k b → Q 0 Y) : (b = 0 → L_115_0 V g Y (n32 k) 0 Q) ∧ (¬ b = 0 → L_115_0 V g Y (n32 k) 1 Q) := by
  refine ⟨fun c => l_115_0 ⟨fun _ => ⟨fun z => l_115_27 ⟨.inr rfl, H1 ⟨fun _ => (n_eq0 hk).mp z, fun y => absurd c y⟩⟩, fun z => l_115_27 ⟨.inl rfl, H0 (fun y => z ((n_eq0 hk).mpr (y.1 c)))⟩⟩, fun z => absurd rfl z⟩, fun c => l_115_0 ⟨fun z => absurd z (by decide), fun _ => ⟨fun z => l_115_27 ⟨.inl rfl, H0 (fun y => ?_)⟩, fun z => l_115_27 ⟨.inr rfl, H1 ⟨fun y => absurd y c, fun _ => ?_⟩⟩⟩⟩⟩
  · have := (n_le (a := 8) (by omega) hk).mp z
    have := y.2 c
    omega
  · have := mt (n_le (a := 8) (by omega) hk).mpr z
    omega
theorem w_and4095 {k : Nat} (h : k < 4294967296) : n32 k &&& 4095 = n32 (k % 4096) := i_andm (m := 12) h (by omega)
theorem s_114 {Q : Int32 → xW → Prop} (H1 : vW w → Q 1 Y) (H0 : ¬ vW w → Q 0 Y) : L_114_0 V g Y w Q := by
  have u := u_lt w
  have n6 := n_lt6 w
  have b16 : wB w < 16 := Nat.mod_lt _ (by omega)
  have d16 : wD w < 16 := Nat.mod_lt _ (by omega)
  have a16 : wA w < 16 := Nat.mod_lt _ (by omega)
  refine l_114_0 (s_117 ⟨fun c => ?_, fun c => ⟨.inl rfl, H0 (fun z => c ((n_lt (b := 21) (by have := op_lt w; omega) (by omega)).mpr (by have := z.1; omega)))⟩⟩)
  have c' : wOp w < 21 := (n_lt (b := 21) (by have := op_lt w; omega) (by omega)).mp c
  rw [n_nat (by omega), w_20, w_and15 (by omega), show n32 (uN w / 1048576 % 16) = n32 (wD w) from rfl]
  have no : ∀ x y, ¬ vW w → L_114_85 V g Y w x y Q := fun x y h => l_114_85 (l_114_86 ⟨.inl rfl, H0 h⟩)
  have st2 : ptO (wD w) (xparts (wOp w) &&& 1) → ptO (wA w) (xparts (wOp w) &&& 2) → L_121_0 V g Y w (fun x4 Y3 => L_116_0 V g Y3 (n32 (wOp w)) (xparts (wOp w)) x4 (fun x6 Y5 => ((x6 = 0) → L_114_85 V g Y5 w (n32 (wOp w)) (xparts (wOp w)) Q) ∧ (¬ (x6 = 0) → L_114_86 V g Y5 w (n32 (wOp w)) (xparts (wOp w)) 1 Q))) := by
    intro hd ha
    refine s_121 ?_
    have yes : ((xparts (wOp w) &&& 8 = 0 → wN w % 4096 = 0 ∧ ptO (wB w) (xparts (wOp w) &&& 4)) ∧ (¬ xparts (wOp w) &&& 8 = 0 → wOp w = 11 → wN w ≤ 31)) → L_114_86 V g Y w (n32 (wOp w)) (xparts (wOp w)) 1 Q := fun h => l_114_86 ⟨.inr rfl, H1 ⟨by omega, hd, ha, h.1, h.2⟩⟩
    refine l_116_0 ⟨fun p8 => ⟨fun z => ?_, fun z => ?_⟩, fun p8 => ⟨fun z => ⟨fun z2 => ?_, fun z2 => ?_⟩, fun z => ?_⟩⟩
    · rw [w_and4095 (by omega)] at z
      have z' := (n_eq0 (by omega)).mp z
      rw [w_12, show uN (n32 (wN w)) / 4096 = wB w from ?_]
      · exact s_115 (Q := fun x2 Y1 => ((x2 = 0) → L_116_58 V g Y1 (n32 (wOp w)) (xparts (wOp w)) (n32 (wN w)) _) ∧ (¬ (x2 = 0) → L_116_59 V g Y1 (n32 (wOp w)) (xparts (wOp w)) (n32 (wN w)) 1 _)) (by omega) (fun h => ⟨fun y => absurd y (by decide), fun _ => l_116_59 ⟨.inr rfl, ⟨fun y => absurd y (by decide), fun _ => yes ⟨fun _ => ⟨z', h⟩, fun y => absurd p8 y⟩⟩⟩⟩) (fun h => ⟨fun _ => l_116_58 (l_116_59 ⟨.inl rfl, ⟨fun _ => no _ _ (fun y => h (y.2.2.2.1 p8).2), fun y => absurd rfl y⟩⟩), fun y => absurd rfl y⟩) |> fun h => ⟨fun c => l_116_48 (h.1 c), fun c => l_116_48 (h.2 c)⟩
      · have e : uN (n32 (wN w)) = wN w := by
          unfold uN
          show (BitVec.ofNat 32 (wN w)).toNat = wN w
          rw [BitVec.toNat_ofNat]
          exact Nat.mod_eq_of_lt (by omega)
        rw [e]
        unfold wN wB
        omega
    · rw [w_and4095 (by omega)] at z
      refine l_116_58 (l_116_59 ⟨.inl rfl, ⟨fun _ => no _ _ (fun y => z ?_), fun y => absurd rfl y⟩⟩)
      rw [(y.2.2.2.1 p8).1]
      rfl
    · refine l_116_24 ⟨.inl rfl, ⟨fun _ => no _ _ (fun y => ?_), fun y => absurd rfl y⟩⟩
      have e11 := (n_eq (b := 11) (by omega) (by omega)).mp z
      have := y.2.2.2.2 p8 e11
      have := (n_lt (a := 31) (by omega) (by omega)).mp z2
      omega
    · refine l_116_19 (l_116_24 ⟨.inr rfl, ⟨fun y => absurd y (by decide), fun _ => yes ⟨fun y => absurd y p8, fun _ _ => ?_⟩⟩⟩)
      have := mt (n_lt (a := 31) (by omega) (by omega)).mpr z2
      omega
    · refine l_116_19 (l_116_24 ⟨.inr rfl, ⟨fun y => absurd y (by decide), fun _ => yes ⟨fun y => absurd y p8, fun _ e => absurd (by rw [e]; rfl) z⟩⟩⟩)
  have st1 : ptO (wD w) (xparts (wOp w) &&& 1) → ((xparts (wOp w) &&& 2 = 0) → L_114_63 V g Y w (n32 (wOp w)) (xparts (wOp w)) (n32 (wA w)) 0 Q) ∧ (¬ (xparts (wOp w) &&& 2 = 0) → L_114_63 V g Y w (n32 (wOp w)) (xparts (wOp w)) (n32 (wA w)) 1 Q) := by
    intro hd
    have h := s_115 (V := V) (g := g) (Y := Y) (k := wA w) (b := xparts (wOp w) &&& 2) (Q := fun x2 Y1 => ((x2 = 0) → L_114_85 V g Y1 w (n32 (wOp w)) (xparts (wOp w)) Q) ∧ (¬ (x2 = 0) → L_121_0 V g Y1 w (fun x4 Y3 => L_116_0 V g Y3 (n32 (wOp w)) (xparts (wOp w)) x4 (fun x6 Y5 => ((x6 = 0) → L_114_85 V g Y5 w (n32 (wOp w)) (xparts (wOp w)) Q) ∧ (¬ (x6 = 0) → L_114_86 V g Y5 w (n32 (wOp w)) (xparts (wOp w)) 1 Q))))) (by omega) (fun h => ⟨fun y => absurd y (by decide), fun _ => st2 hd h⟩) (fun h => ⟨fun _ => no _ _ (fun y => h y.2.2.1), fun y => absurd rfl y⟩)
    exact ⟨fun c => l_114_63 (h.1 c), fun c => l_114_63 (h.2 c)⟩
  have h := s_115 (V := V) (g := g) (Y := Y) (k := wD w) (b := xparts (wOp w) &&& 1) (Q := fun x2 Y1 => ((x2 = 0) → L_114_85 V g Y1 w (n32 (wOp w)) (xparts (wOp w)) Q) ∧ (¬ (x2 = 0) → ((xparts (wOp w) &&& 2 = 0) → L_114_63 V g Y1 w (n32 (wOp w)) (xparts (wOp w)) ((Int32.toUInt32 w >>> (Int32.toUInt32 16 &&& Int32.toUInt32 31)).toInt32 &&& 15) 0 Q) ∧ (¬ (xparts (wOp w) &&& 2 = 0) → L_114_63 V g Y1 w (n32 (wOp w)) (xparts (wOp w)) ((Int32.toUInt32 w >>> (Int32.toUInt32 16 &&& Int32.toUInt32 31)).toInt32 &&& 15) 1 Q))) (by omega) (fun h => ⟨fun y => absurd y (by decide), fun _ => by rw [w_16, w_and15 (by omega)]; exact st1 h⟩) (fun h => ⟨fun _ => no _ _ (fun y => h y.2.1), fun y => absurd rfl y⟩)
  exact ⟨n_in c' (by omega), fun c => l_114_39 (h.1 c), fun c => l_114_39 (h.2 c)⟩
theorem s_132 {Q : Int32 → xW → Prop} (hA : ∀ k, k < 21 → fA Y xM 0 k = xparts k) (H1 : vW w → Q 1 Y) (H0 : ¬ vW w → Q 0 Y) : L_132_0 V g Y w Q := by
  have u := u_lt w
  have n6 := n_lt6 w
  have ol := op_lt w
  have b16 : wB w < 16 := Nat.mod_lt _ (by omega)
  have d16 : wD w < 16 := Nat.mod_lt _ (by omega)
  have a16 : wA w < 16 := Nat.mod_lt _ (by omega)
  refine l_132_0 (s_127 ⟨fun c => ?_, fun c => ⟨.inl rfl, H0 (fun z => c ((n_le (b := 20) (by omega) (by omega)).mpr z.1))⟩⟩)
  have c' : wOp w ≤ 20 := (n_le (b := 20) (by omega) (by omega)).mp c
  rw [n_nat (by omega), hA _ (by omega)]
  refine ⟨n_in (by omega) (by omega), s_128 ?_⟩
  have z0 : ∀ {k : Nat}, k < 16 → ((0 : Int32) < n32 k ↔ ¬ k = 0) := fun h => by rw [show (0 : Int32) = n32 0 from rfl, n_lt (by omega) (by omega)]; omega
  have z7 : ∀ {k : Nat}, k < 16 → ((7 : Int32) < n32 k ↔ ¬ k < 8) := fun h => by rw [show (7 : Int32) = n32 7 from rfl, n_lt (by omega) (by omega)]; omega
  have pt0 : ∀ {k : Nat} {b : Int32}, b = 0 → ¬ ¬ k = 0 → ptO k b := fun h1 h2 => ⟨fun _ => Classical.not_not.mp h2, fun y => absurd h1 y⟩
  have pt7 : ∀ {k : Nat} {b : Int32}, ¬ b = 0 → ¬ ¬ k < 8 → ptO k b := fun h1 h2 => ⟨fun y => absurd y h1, fun _ => Classical.not_not.mp h2⟩
  -- behind the first two parts
  have bad : ¬ vW w → ∀ x, x = 0 → L_132_63 V g Y w (n32 (wOp w)) (xparts (wOp w)) x Q := by
    intro h x hx
    subst hx
    exact l_132_63 ⟨fun _ => ⟨fun _ => l_132_134 (l_132_135 ⟨.inl rfl, H0 h⟩), fun y => absurd rfl y⟩, fun _ => ⟨fun _ => l_132_96 (l_132_97 ⟨.inl rfl, H0 h⟩), fun y => absurd rfl y⟩⟩
  have good : ptO (wD w) (xparts (wOp w) &&& 1) → ptO (wA w) (xparts (wOp w) &&& 2) → L_132_63 V g Y w (n32 (wOp w)) (xparts (wOp w)) 1 Q := by
    intro hd ha
    refine l_132_63 ⟨fun p8 => ⟨fun y => absurd y (by decide), fun _ => ⟨fun z => s_131 ?_, fun z => l_132_134 (l_132_135 ⟨.inl rfl, H0 (fun y => z ?_)⟩)⟩⟩, fun p8 => ⟨fun y => absurd y (by decide), fun _ => ⟨fun z => s_130 ⟨fun z2 => l_132_96 (l_132_97 ⟨.inl rfl, H0 (fun y => ?_)⟩), fun z2 => l_132_92 (l_132_97 ⟨.inr rfl, H1 ⟨c', hd, ha, fun y => absurd y p8, fun _ _ => ?_⟩⟩)⟩, fun z => l_132_92 (l_132_97 ⟨.inr rfl, H1 ⟨c', hd, ha, fun y => absurd y p8, fun _ e => absurd (by rw [e]; rfl) z⟩⟩)⟩⟩⟩
    · have z' : wN w % 4096 = 0 := by
        have h := w_and4095 (k := uN w) u
        rw [← i_u w] at h
        rw [h] at z
        have := (n_eq0 (by omega)).mp z
        unfold wN
        omega
      have fin : ptO (wB w) (xparts (wOp w) &&& 4) → vW w := fun hb => ⟨c', hd, ha, fun _ => ⟨z', hb⟩, fun y => absurd p8 y⟩
      refine ⟨fun p4 => l_132_127 ⟨fun y => l_132_134 (l_132_135 ⟨.inl rfl, H0 (fun x => (z0 b16).mp y ((x.2.2.2.1 p8).2.1 p4))⟩), fun y => l_132_135 ⟨.inr rfl, H1 (fin (pt0 p4 (fun x => y ((z0 b16).mpr x))))⟩⟩, fun p4 => l_132_127 ⟨fun y => l_132_134 (l_132_135 ⟨.inl rfl, H0 (fun x => (z7 b16).mp y ((x.2.2.2.1 p8).2.2 p4))⟩), fun y => l_132_135 ⟨.inr rfl, H1 (fin (pt7 p4 (fun x => y ((z7 b16).mpr x))))⟩⟩⟩
    · have h := w_and4095 (k := uN w) u
      rw [← i_u w] at h
      rw [h]
      have := (y.2.2.2.1 p8).1
      unfold wN at this
      rw [show uN w % 4096 = 0 from by omega]
      rfl
    · have e11 := (n_eq (b := 11) (by omega) (by omega)).mp z
      have := y.2.2.2.2 p8 e11
      have := (n_lt (a := 31) (by omega) (by omega)).mp z2
      omega
    · have := mt (n_lt (a := 31) (by omega) (by omega)).mpr z2
      omega
  have st1 : ptO (wD w) (xparts (wOp w) &&& 1) → L_129_0 V g Y w (fun x2 Y1 => ((xparts (wOp w) &&& 2 = 0) → L_132_55 V g Y1 w (n32 (wOp w)) (xparts (wOp w)) x2 0 Q) ∧ (¬ (xparts (wOp w) &&& 2 = 0) → L_132_55 V g Y1 w (n32 (wOp w)) (xparts (wOp w)) x2 7 Q)) := by
    intro hd
    refine s_129 ⟨fun p => l_132_55 ⟨fun y => l_132_62 (bad (fun x => (z0 a16).mp y (x.2.2.1.1 p)) _ rfl), fun y => good hd (pt0 p (fun x => y ((z0 a16).mpr x)))⟩, fun p => l_132_55 ⟨fun y => l_132_62 (bad (fun x => (z7 a16).mp y (x.2.2.1.2 p)) _ rfl), fun y => good hd (pt7 p (fun x => y ((z7 a16).mpr x)))⟩⟩
  exact ⟨fun p => l_132_36 ⟨fun y => l_132_62 (bad (fun x => (z0 d16).mp y (x.2.1.1 p)) _ rfl), fun y => st1 (pt0 p (fun x => y ((z0 d16).mpr x)))⟩, fun p => l_132_36 ⟨fun y => l_132_62 (bad (fun x => (z7 d16).mp y (x.2.1.2 p)) _ rfl), fun y => st1 (pt7 p (fun x => y ((z7 d16).mpr x)))⟩⟩
end FD
