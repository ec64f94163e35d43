/-! one step of a process: the reference's act -/
section MA
variable {V : xV} {g : xG} {Y : xW} {A : AF} {q b : Nat}
theorem s_168 {Q : Int32 → xW → Prop} {x y : Int32} (h : y ≠ 0) (H : Q (x / y) Y) : L_168_0 V g Y x y Q := by
  refine l_168_0 ⟨fun c => l_168_13 ?_, fun _ => ⟨h, l_168_13 H⟩⟩
  rw [c, i_divm] at H
  exact H
theorem s_170 {Q : xW → Prop} (C : MB Y A q b) (hW : ∀ p, p < 24 → A 6 p = 1 → WA A p) (h6 : A 6 (pP A q) = 1) (ok : okW (eW A q)) (S : SAFE A q) (h1 : 1 ≤ wOp (eW A q)) (H : ∀ Y', MS Y Y' A q → Q Y') : L_170_0 V g Y (n32 q) (eW A q) Q := by
  obtain ⟨o20, d8, a8, b8, o11⟩ := ok
  have C' := C
  obtain ⟨hq, hA, ⟨c38, c39, c41⟩, ⟨c42, hb⟩, ⟨z40, zP, zI⟩, hf⟩ := C'
  have W := hW _ zP h6
  have n6 := n_lt6 (eW A q)
  have bm : wB (eW A q) % 8 < 8 := Nat.mod_lt _ (by omega)
  have bL : wB (eW A q) < 16 := Nat.mod_lt _ (by omega)
  have iq := n_in hq (show 300 ≤ 2147483648 by omega)
  have iD := n_in (show 8 * q + wD (eW A q) < 2400 by omega) (show 2400 ≤ 2147483648 by omega)
  have ws : (Int32.toInt16 (n32 (wN (eW A q)))).toInt32 = wS (eW A q) := by rw [← w_n]; exact w_s _
  have rA : fA Y (10, 0, 0) 45 (8 * q + wA (eW A q)) = rg A q (wA (eW A q)) := hA 45 _ (by decide)
  have rB : fA Y (10, 0, 0) 45 (8 * q + wB (eW A q) % 8) = rg A q (wB (eW A q) % 8) := hA 45 _ (by decide)
  have eP : ¬ wOp (eW A q) = 19 → ¬ wOp (eW A q) = 20 → efP A q = pP A q := fun y1 y2 => by unfold efP; rw [if_neg y1, if_neg y2]
  have eC : ¬ wOp (eW A q) = 18 → ¬ wOp (eW A q) = 19 → ¬ wOp (eW A q) = 20 → efC A q = cN A q := fun y1 y2 y3 => by unfold efC; rw [if_neg (fun y => y.elim y1 y2), if_neg y3]
  have eI : wOp (eW A q) ≤ 14 → efI A q = pI A q + 1 := by
    intro y
    unfold efI
    rw [if_neg (by omega), if_neg (by omega), if_neg (by omega), if_neg (by omega), if_neg (by omega), if_neg (by omega)]
  have eR : 2 ≤ wOp (eW A q) → wOp (eW A q) ≤ 12 → efF A q = upF (rg A q) (wD (eW A q)) (rv (wOp (eW A q)) (rg A q (wA (eW A q))) (rg A q (wB (eW A q) % 8)) (n32 (wN (eW A q))) (wS (eW A q))) := by
    intro y1 y2
    unfold efF
    rw [if_neg (by omega), if_pos ⟨y1, y2⟩]
  have eF : ¬ wOp (eW A q) = 13 → ¬ (2 ≤ wOp (eW A q) ∧ wOp (eW A q) ≤ 12) → efF A q = rg A q := fun y1 y2 => by unfold efF; rw [if_neg y1, if_neg y2]
  have ho : ∀ {k : Nat}, k < 200 → n32 (wOp (eW A q)) = n32 k → wOp (eW A q) = k := fun hk z => (n_eq (by omega) (by omega)).mp z
  refine l_170_0 ⟨iq, iq, s_128 (s_129 ⟨?_, s_131 ⟨?_, s_130 ⟨iq, fun Y9 e9 => s_127 ?_⟩⟩⟩)⟩
  · rw [ix8]; exact n_in (by omega) (by omega)
  · rw [w_and7 (by omega), ix8]; exact n_in (by omega) (by omega)
  rw [n_nat (by omega), show fA Y (10, 0, 0) 39 q = n32 (pI A q) from (hA 39 q (by decide)).trans c39, show n32 (pI A q) + 1 = n32 (pI A q + 1) from n_add _ 1] at e9
  have r9 : ∀ k j, ¬ (k = 39 ∧ j = q) → k ≠ 40 → fA Y9 (10, 0, 0) k j = A k j := fun k j h1 h2 => by rw [e9, fA_uA, if_neg (fun z => h1 z.2)]; exact hA k j h2
  have rD : fA Y9 (10, 0, 0) 45 (8 * q + wD (eW A q)) = rg A q (wD (eW A q)) := r9 45 _ (by omega) (by decide)
  rw [ix8 q (wD (eW A q)), ix8 q (wA (eW A q)), w_and7 (by omega), ix8 q (wB (eW A q) % 8), n_nat (show 8 * q + wD (eW A q) < 2147483648 by omega), n_nat (show 8 * q + wA (eW A q) < 2147483648 by omega), n_nat (show 8 * q + wB (eW A q) % 8 < 2147483648 by omega), n_nat (show q < 2147483648 by omega), rA, rB, rD, ws, show fA Y9 (10, 0, 0) 42 q = n32 b from (r9 42 q (by omega) (by decide)).trans c42, show fA Y9 (10, 0, 0) 41 q = n32 (cN A q) from (r9 41 q (by omega) (by decide)).trans c41, show fA Y (10, 0, 0) 39 q = n32 (pI A q) from (hA 39 q (by decide)).trans c39, show fA Y (10, 0, 0) 38 q = n32 (pP A q) from (hA 38 q (by decide)).trans c38, show n32 (pI A q) + 1 = n32 (pI A q + 1) from n_add _ 1]
  have set : ∀ v, (2 ≤ wOp (eW A q) ∧ wOp (eW A q) ≤ 12 ∧ rv (wOp (eW A q)) (rg A q (wA (eW A q))) (rg A q (wB (eW A q) % 8)) (n32 (wN (eW A q))) (wS (eW A q)) = v) → ∀ Y7, Y7 = uA Y9 (10, 0, 0) 45 (8 * q + wD (eW A q)) v → L_170_633 V g Y7 (n32 q) (eW A q) (n32 (pP A q)) (n32 (pI A q + 1)) (n32 (8 * q + wD (eW A q))) (rg A q (wA (eW A q))) (rg A q (wB (eW A q) % 8)) (n32 (wN (eW A q))) (wS (eW A q)) Q := by
    intro v hv Y7 e7
    refine l_170_633 (H Y7 ?_)
    rw [e7, e9]
    refine MS_set C d8 ?_ (by omega) (eP (by omega) (by omega)) (eC (by omega) (by omega) (by omega)) (by rw [eI (by omega)])
    rw [eR hv.1 hv.2.1, hv.2.2]
  have on : wOp (eW A q) ≠ 13 → wOp (eW A q) ≠ 14 → ¬ (2 ≤ wOp (eW A q) ∧ wOp (eW A q) ≤ 12) → wOp (eW A q) < 18 → efI A q = pI A q + 1 → Q Y9 := by
    intro y1 y2 y3 y4 y5
    rw [e9] at *
    exact H _ (MS_on C (eF y1 y3) y2 (eP (by omega) (by omega)) (eC (by omega) (by omega) (by omega)) (by rw [y5]))
  have jp : 15 ≤ wOp (eW A q) → wOp (eW A q) < 18 → efI A q = wN (eW A q) → vp_in (n32 q) 300 ∧ ∀ Y26, Y26 = uA Y9 (10, 0, 0) 39 q (n32 (wN (eW A q))) → L_170_633 V g Y26 (n32 q) (eW A q) (n32 (pP A q)) (n32 (pI A q + 1)) (n32 (8 * q + wD (eW A q))) (rg A q (wA (eW A q))) (rg A q (wB (eW A q) % 8)) (n32 (wN (eW A q))) (wS (eW A q)) Q := by
    intro y1 y2 y3
    refine ⟨iq, fun Y26 e26 => l_170_633 (H Y26 ?_)⟩
    rw [e26, e9]
    exact MS_jp C (eF (by omega) (by omega)) (by omega) (eP (by omega) (by omega)) (eC (by omega) (by omega) (by omega)) (by rw [y3])
  have call : (wOp (eW A q) = 18 ∨ wOp (eW A q) = 19) → L_170_455 V g Y9 (n32 q) (eW A q) (n32 (pP A q)) (n32 (pI A q + 1)) (n32 (8 * q + wD (eW A q))) (rg A q (wA (eW A q))) (rg A q (wB (eW A q) % 8)) (n32 (wN (eW A q))) (wS (eW A q)) Q := by
    intro y
    have c40 : cN A q < 40 := y.elim (fun y => (S.2.2.1 y).2) (fun y => (S.2.2.2.1 y).2)
    have eC1 : efC A q = cN A q + 1 := by unfold efC; rw [if_pos y]
    have ic := n_in (show 40 * q + cN A q < 12000 by omega) (show 12000 ≤ 2147483648 by omega)
    have i40 : (40 : Int32) * n32 q + n32 (cN A q) = n32 (40 * q + cN A q) := by rw [show (40 : Int32) = n32 40 from rfl, n_mul, n_add]
    refine l_170_455 ?_
    rw [n_nat (show q < 2147483648 by omega), show fA Y9 (10, 0, 0) 41 q = n32 (cN A q) from (r9 41 q (by omega) (by decide)).trans c41, i40, n_nat (show 40 * q + cN A q < 2147483648 by omega)]
    refine ⟨iq, ic, fun Y1 e1 => ?_⟩
    rw [show fA Y1 (10, 0, 0) 41 q = n32 (cN A q) from by rw [e1, fA_uA, if_neg (by simp)]; exact (r9 41 q (by omega) (by decide)).trans c41, i40, n_nat (show 40 * q + cN A q < 2147483648 by omega)]
    refine ⟨iq, ic, fun Y2 e2 => ?_⟩
    rw [show fA Y2 (10, 0, 0) 41 q = n32 (cN A q) from by rw [e2, fA_uA, if_neg (by simp), e1, fA_uA, if_neg (by simp)]; exact (r9 41 q (by omega) (by decide)).trans c41, show n32 (cN A q) + 1 = n32 (cN A q + 1) from n_add _ 1]
    refine ⟨iq, iq, fun Y3 e3 => s_127 ⟨fun z => ?_, fun z => ?_⟩⟩
    · have e := ho (k := 18) (by omega) z
      obtain ⟨hn, _⟩ := S.2.2.1 e
      have f8 := W.2.1.2.2
      have r17 : fA Y3 (10, 0, 0) 17 (8 * pP A q + wN (eW A q)) = n32 (eN A (8 * pP A q + wN (eW A q))) := by
        rw [e3, fA_uA, if_neg (by simp), e2, fA_uA, if_neg (by simp), e1, fA_uA, if_neg (by simp), r9 17 _ (by omega) (by decide)]
        exact (W.2.2.2.2.2.2.2.2.1 _ hn).1
      rw [ix8, n_nat (by omega), r17]
      refine ⟨n_in (by omega) (by omega), s_169 hq (l_170_633 (H _ ?_))⟩
      rw [e3, e2, e1, e9]
      refine MS_call C c40 (eF (by omega) (by omega)) (by omega) eC1 (by rw [eP (by omega) (by omega)]) ?_ _
      unfold efI
      rw [if_neg (by omega), if_neg (by omega), if_neg (by omega), if_pos e]
    · have e : wOp (eW A q) = 19 := y.resolve_left (fun x => z (by rw [x]; rfl))
      obtain ⟨hn, _⟩ := S.2.2.2.1 e
      have l8 := W.2.2.1.2
      obtain ⟨l1, l2, l3, l4, l5, l6, l7, _⟩ := W.2.2.2.2.2.2.2.2.2 _ hn
      have W2 := hW _ l3 l4
      have f82 := W2.2.1.2.2
      have r3 : ∀ k j, k < 24 → fA Y3 (10, 0, 0) k j = A k j := by
        intro k j hk
        rw [e3, fA_uA, if_neg (fun z => by omega), e2, fA_uA, if_neg (fun z => by omega), e1, fA_uA, if_neg (fun z => by omega), r9 k _ (by omega) (by omega)]
      rw [ix8, n_nat (by omega), r3 22 _ (by omega), r3 23 _ (by omega), l1, l2, ix8, n_nat (by omega), r3 17 _ (by omega), (W2.2.2.2.2.2.2.2.2.1 _ l6).1]
      refine ⟨n_in (by omega) (by omega), n_in (by omega) (by omega), n_in (by omega) (by omega), n_in (by omega) (by omega), s_169 hq (l_170_633 (H _ ?_))⟩
      rw [e3, e2, e1, e9]
      refine MS_call C c40 (eF (by omega) (by omega)) (by omega) eC1 ?_ ?_ _
      · unfold efP
        rw [if_pos e]
      · unfold efI
        rw [if_neg (by omega), if_neg (by omega), if_neg (by omega), if_neg (by omega), if_pos e]
  refine ⟨⟨fun z => ?_, fun z => ?_, fun z => ?_, fun z => ?_, fun z => ?_, fun z => ?_, fun z => ?_, fun z => ?_, fun z => ?_, fun z => ?_, fun z => ?_, fun z => ?_, fun z => ?_, fun z => ?_, fun z => ?_, fun z => ?_, fun z => ?_, fun z => ?_, fun z => ?_⟩, fun z => ?_⟩
  · have e := ho (k := 2) (by omega) z
    exact ⟨iD, set _ ⟨by omega, by omega, by rw [e]; rfl⟩⟩
  · have e := ho (k := 3) (by omega) z
    exact ⟨iD, set _ ⟨by omega, by omega, by rw [e]; rfl⟩⟩
  · have e := ho (k := 4) (by omega) z
    exact ⟨iD, set _ ⟨by omega, by omega, by rw [e]; rfl⟩⟩
  · have e := ho (k := 5) (by omega) z
    exact ⟨iD, set _ ⟨by omega, by omega, by rw [e]; rfl⟩⟩
  · have e := ho (k := 6) (by omega) z
    exact ⟨iD, set _ ⟨by omega, by omega, by rw [e]; rfl⟩⟩
  · have e := ho (k := 7) (by omega) z
    exact s_168 (S.1 (.inl e)) ⟨iD, set _ ⟨by omega, by omega, by rw [e]; rfl⟩⟩
  · have e := ho (k := 8) (by omega) z
    refine ⟨fun c => l_170_283 ⟨iD, ?_⟩, fun c => ⟨S.1 (.inr e), l_170_283 ⟨iD, ?_⟩⟩⟩
    · rw [n_nat (by omega)]
      refine set _ ⟨by omega, by omega, ?_⟩
      rw [e, c]
      exact i_remm _
    · rw [n_nat (by omega)]
      exact set _ ⟨by omega, by omega, by rw [e]; rfl⟩
  · have e := ho (k := 9) (by omega) z
    exact ⟨iD, set _ ⟨by omega, by omega, by rw [e]; rfl⟩⟩
  · have e := ho (k := 10) (by omega) z
    exact ⟨iD, set _ ⟨by omega, by omega, by rw [e]; rfl⟩⟩
  · have e := ho (k := 11) (by omega) z
    exact ⟨iD, set _ ⟨by omega, by omega, by rw [e]; rfl⟩⟩
  · have e := ho (k := 12) (by omega) z
    exact ⟨iD, set _ ⟨by omega, by omega, by rw [e]; rfl⟩⟩
  · have e := ho (k := 13) (by omega) z
    obtain ⟨o, ho, eo⟩ := S.2.1 (.inl e)
    have ad : eAd A q = b + o := by unfold eAd; rw [c42, eo, n_add, n_nat (by omega)]
    rw [Int32.add_assoc, eo, n_add, n_nat (by omega), r9 50 _ (by omega) (by decide)]
    refine ⟨iq, n_in (by omega) (by omega), iD, fun Y24 e24 => l_170_633 (H _ ?_)⟩
    rw [e24, e9]
    refine MS_set C d8 ?_ (by omega) (eP (by omega) (by omega)) (eC (by omega) (by omega) (by omega)) (by rw [eI (by omega)])
    unfold efF
    rw [if_pos e, ad]
  · have e := ho (k := 14) (by omega) z
    obtain ⟨o, ho, eo⟩ := S.2.1 (.inr e)
    have ad : eAd A q = b + o := by unfold eAd; rw [c42, eo, n_add, n_nat (by omega)]
    rw [Int32.add_assoc, eo, n_add, n_nat (by omega)]
    refine ⟨iq, iD, n_in (by omega) (by omega), fun Y25 e25 => l_170_633 (H _ ?_)⟩
    rw [e25, e9]
    refine MS_stay C (fun _ _ => rfl) (fun u k j hu => ?_) (fun r hr => ?_) (fun k => ?_) ?_ (fun _ _ _ => rfl) (fun _ _ _ => rfl) rfl (eP (by omega) (by omega)) (eC (by omega) (by omega) (by omega))
    · rw [fA_uA, if_neg (fun z => hu ⟨z.1, .inr (.inr z.2.1)⟩), fA_uA, if_neg (fun z => hu ⟨z.1, .inl z.2⟩)]
    · rw [fA_uA, if_neg (by simp), fA_uA, if_neg (by simp), eF (by omega) (by omega)]
      exact hA 45 _ (by omega)
    · rw [fA_uA]
      unfold efM
      rw [ad]
      by_cases c : k = b + o
      · rw [if_pos ⟨rfl, rfl, c⟩, if_pos ⟨e, c⟩]
      · rw [if_neg (fun z => c z.2.2), if_neg (fun z => c z.2), fA_uA, if_neg (by simp)]
        exact hA 50 _ (by omega)
    · rw [fA_uA, if_neg (by simp), fA_uA, if_pos ⟨rfl, rfl, rfl⟩, eI (by omega)]
  · have e := ho (k := 15) (by omega) z
    refine jp (by omega) (by omega) ?_
    unfold efI
    rw [if_pos e]
  · have e := ho (k := 16) (by omega) z
    have eI : efI A q = if rg A q (wD (eW A q)) < rg A q (wA (eW A q)) then wN (eW A q) else pI A q + 1 := by
      unfold efI
      rw [if_neg (by omega), if_pos e]
    refine ⟨iD, fun c => l_170_633 (on (by omega) (by omega) (by omega) (by omega) ?_), fun c => jp (by omega) (by omega) ?_⟩
    · rw [i_le] at c
      rw [eI, if_neg (by rw [i_lt]; omega)]
    · rw [i_le] at c
      rw [eI, if_pos (by rw [i_lt]; omega)]
  · have e := ho (k := 17) (by omega) z
    have eI : efI A q = if rg A q (wD (eW A q)) = rg A q (wA (eW A q)) then wN (eW A q) else pI A q + 1 := by
      unfold efI
      rw [if_neg (by omega), if_neg (by omega), if_pos e]
    refine ⟨iD, fun c => jp (by omega) (by omega) ?_, fun c => l_170_633 (on (by omega) (by omega) (by omega) (by omega) ?_)⟩
    · rw [eI, if_pos c]
    · rw [eI, if_neg c]
  · exact call (.inl (ho (k := 18) (by omega) z))
  · exact call (.inr (ho (k := 19) (by omega) z))
  · have e := ho (k := 20) (by omega) z
    have k1 := S.2.2.2.2 e
    obtain ⟨x, y, hx, hy, e47, e48⟩ := hf (cN A q - 1) (by omega)
    have i40 : (40 : Int32) * n32 q + n32 (cN A q - 1) = n32 (40 * q + (cN A q - 1)) := by rw [show (40 : Int32) = n32 40 from rfl, n_mul, n_add]
    rw [show n32 (cN A q) - 1 = n32 (cN A q - 1) from n_sub (b := 1) k1]
    refine ⟨iq, iq, fun Y29 e29 => ?_⟩
    rw [show fA Y29 (10, 0, 0) 41 q = n32 (cN A q - 1) from by rw [e29, fA_uA, if_pos ⟨rfl, rfl, rfl⟩], i40, n_nat (by omega)]
    have r29 : ∀ k j, 47 ≤ k → fA Y29 (10, 0, 0) k j = A k j := fun k j hk => by rw [e29, fA_uA, if_neg (fun z => by omega)]; exact r9 k j (by omega) (by omega)
    rw [r29 47 _ (by omega), r29 48 _ (by omega)]
    have ic := n_in (show 40 * q + (cN A q - 1) < 12000 by omega) (show 12000 ≤ 2147483648 by omega)
    refine ⟨iq, ic, iq, ic, s_169 hq (l_170_633 (H _ ?_))⟩
    rw [e29, e9]
    refine MS_ret C (eF (by omega) (by omega)) (by omega) ?_ ?_ ?_ _
    · unfold efC
      rw [if_neg (by omega), if_pos e]
    · unfold efP
      rw [if_neg (by omega), if_pos e, e47, n_nat (by omega)]
    · unfold efI
      rw [if_neg (by omega), if_neg (by omega), if_neg (by omega), if_neg (by omega), if_neg (by omega), if_pos e, e48, n_nat (by omega)]
  · rw [n_toInt (by omega)] at z
    have e : wOp (eW A q) = 1 := by omega
    exact l_170_633 (on (by omega) (by omega) (by omega) (by omega) (eI (by omega)))
end MA
