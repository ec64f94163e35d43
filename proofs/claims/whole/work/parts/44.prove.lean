/-! the reference's judge: a whole word -/
theorem sh32 (x b : Int32) : (x >>> b).toInt = x.toInt / 2 ^ (b.toBitVec.smod 32).toNat := by
  have h : (x >>> b).toBitVec = x.toBitVec.sshiftRight' (b.toBitVec.smod 32) := rfl
  show (x >>> b).toBitVec.toInt = _
  rw [h]
  show (x.toBitVec.sshiftRight (b.toBitVec.smod 32).toNat).toInt = _
  rw [BitVec.toInt_sshiftRight, Int.shiftRight_eq_div_pow]
  rfl
theorem k31 : ∀ k, k < 32 → ((n32 k &&& 31).toBitVec.smod 32).toNat = k := by decide +kernel
theorem k63 : ∀ k, k < 32 → (((n32 k).toInt64 &&& 63).toBitVec.smod 64).toNat = k := by decide +kernel
theorem sh_eq (x : Int32) {k : Nat} (hk : k < 32) : (x >>> (n32 k &&& 31)).toInt64 = x.toInt64 >>> ((n32 k).toInt64 &&& 63) := by
  rw [j_eq, j_of, sh32, sh64, j_of, k31 k hk, k63 k hk]
theorem tS_of (k x y : Int32) : tS k x.toInt64 y.toInt64 = (k, x, y) := by
  have e3 : (-2147483648 : Int64).toInt = -2147483648 := by decide
  have e4 : (2147483647 : Int64).toInt = 2147483647 := by decide
  have h1 := i_lo x
  have h2 := i_hi y
  unfold tS
  rw [if_neg, Int32.toInt32_toInt64, Int32.toInt32_toInt64]
  rw [j_lt, j_lt, e3, e4, j_of, j_of]
  omega
theorem rd1 : ∀ op, op < 21 → ¬ rdL op &&& 1 = 0 → op = 14 ∨ op = 16 ∨ op = 17 := by decide +kernel
theorem rd2 : ∀ op, op < 21 → ¬ rdL op &&& 2 = 0 → op = 0 ∨ op = 6 ∨ op = 7 ∨ op = 8 ∨ op = 10 ∨ op = 11 ∨ op = 16 ∨ op = 17 := by decide +kernel
theorem rd4 : ∀ op, op < 21 → ¬ rdL op &&& 4 = 0 → op = 6 ∨ op = 7 ∨ op = 8 := by decide +kernel
theorem rdA : ¬ rdL 0 &&& 2 = 0 ∧ ¬ rdL 6 &&& 2 = 0 ∧ ¬ rdL 6 &&& 4 = 0 ∧ ¬ rdL 7 &&& 2 = 0 ∧ ¬ rdL 7 &&& 4 = 0 ∧ ¬ rdL 8 &&& 2 = 0 ∧ ¬ rdL 8 &&& 4 = 0 ∧ ¬ rdL 10 &&& 2 = 0 ∧ ¬ rdL 11 &&& 2 = 0 ∧ ¬ rdL 14 &&& 1 = 0 ∧ ¬ rdL 16 &&& 1 = 0 ∧ ¬ rdL 16 &&& 2 = 0 ∧ ¬ rdL 17 &&& 1 = 0 ∧ ¬ rdL 17 &&& 2 = 0 := by decide +kernel
/-- a register that must be INT and isn't -/
theorem rd_bad {A : AF} {p i : Nat} {R : Row} {st w : Int32} (ok : okW w) (z : ¬ ((rdL (wOp w) &&& 1 = 0 ∨ (R (wD w)).1 = 1) ∧ (rdL (wOp w) &&& 2 = 0 ∨ (R (wA w)).1 = 1) ∧ (rdL (wOp w) &&& 4 = 0 ∨ (R (wB w)).1 = 1))) : (wF A p i R st w).1 = 2 := by
  obtain ⟨o1, o2, o3, o4, o5⟩ := ok
  have cases : (¬ rdL (wOp w) &&& 1 = 0 ∧ ¬ (R (wD w)).1 = 1) ∨ (¬ rdL (wOp w) &&& 2 = 0 ∧ ¬ (R (wA w)).1 = 1) ∨ (¬ rdL (wOp w) &&& 4 = 0 ∧ ¬ (R (wB w)).1 = 1) := by
    apply Classical.byContradiction
    intro y
    apply z
    refine ⟨Classical.byContradiction (fun x => y (.inl ⟨fun h => x (.inl h), fun h => x (.inr h)⟩)), Classical.byContradiction (fun x => y (.inr (.inl ⟨fun h => x (.inl h), fun h => x (.inr h)⟩))), Classical.byContradiction (fun x => y (.inr (.inr ⟨fun h => x (.inl h), fun h => x (.inr h)⟩)))⟩
  have wkc : 1 ≤ wOp w → wOp w ≤ 14 → (wk (wOp w) (wD w) (wA w) (wB w % 8) (n32 (wN w)) (wS w) (A 7 p) R).1 = 2 → (wF A p i R st w).1 = 2 := by
    intro h1 h2 h3
    rw [wF_wk h1 h2, if_neg (by rw [h3]; decide)]
    exact h3
  rcases cases with ⟨h1, h2⟩ | ⟨h1, h2⟩ | ⟨h1, h2⟩
  · rcases rd1 _ (by omega) h1 with e | e | e
    · refine wkc (by omega) (by omega) ?_
      rw [e, wk_14, if_neg h2]
    · rw [wF_16 e, if_neg (fun y => h2 y.1)]
    · rw [wF_17 e, if_neg (fun y => h2 y.1)]
  · rcases rd2 _ (by omega) h1 with e | e | e | e | e | e | e | e
    · rw [wF_0 e, if_neg h2]
    · refine wkc (by omega) (by omega) ?_
      rw [e, wk_6, if_neg (fun y => h2 y.1)]
    · refine wkc (by omega) (by omega) ?_
      rw [e, wk_7, if_neg (fun y => h2 y.1)]
    · refine wkc (by omega) (by omega) ?_
      rw [e, wk_8, if_neg (fun y => h2 y.1)]
    · refine wkc (by omega) (by omega) ?_
      rw [e, wk_10, if_neg h2]
    · refine wkc (by omega) (by omega) ?_
      rw [e, wk_11, if_neg h2]
    · rw [wF_16 e, if_neg (fun y => h2 y.2)]
    · rw [wF_17 e, if_neg (fun y => h2 y.2)]
  · have e := rd4 _ (by omega) h1
    have b8 := o4 (by omega) (by omega)
    refine wkc (by omega) (by omega) ?_
    rw [Nat.mod_eq_of_lt b8]
    rcases e with e | e | e
    · rw [e, wk_6, if_neg (fun y => h2 y.2)]
    · rw [e, wk_7, if_neg (fun y => h2 y.2)]
    · rw [e, wk_8, if_neg (fun y => h2 y.2)]
section MH
variable {V : xV} {g : xG} {Y : xW} {A : AF} {p i : Nat} {st w : Int32}
theorem s_159 {Q : xW → Prop} (hR : ∀ k, k < 21 → A 1 k = rdL k) (hL : ∀ q, q < 24 → A 6 q = 1 → WA A q) (hA : AM Y A) (W : WA A p) (hp : p < 24) (ho : fI Y xM 5 = n32 p) (hst : fI Y xM 30 = st) (hs : ∃ f, f < nF A p ∧ st = n32 f) (hh : fI Y xM 28 = n32 i) (hi : i < nW A p) (hf : fI Y xM 29 = 0) (ok : okR (mRow Y)) (okw : okW w) (H : ∀ Y', PM Y Y' (wF A p i (mRow Y) st w) → Q Y') : L_159_0 V g Y w Q := by
  obtain ⟨sf, hsf, est⟩ := hs
  have w2 := W.1.2
  have f8 := W.2.1.2.2
  have h0 : 0 ≤ st.toInt := by rw [est, n_toInt (by omega)]; omega
  have okw' := okw
  obtain ⟨o1, o2, o3, o4, o5⟩ := okw
  have n6 := n_lt6 w
  have b16 : wB w < 16 := Nat.mod_lt _ (by omega)
  have ti : (n32 (wOp w)).toInt = (wOp w : Int) := n_toInt (by omega)
  have e7 : (Int32.toInt16 (n32 (wN w))).toInt32 = wS w := by rw [← w_n]; exact w_s w
  refine l_159_0 (s_127 (s_128 (s_129 (s_131 (s_130 ⟨n_in (by omega) (by omega), ?_⟩)))))
  rw [n_nat (by omega), hA 1 _ (by decide) (by decide) (by decide), hR _ (by omega), e7]
  refine s_159p hf o2 o3 (fun z => ?_) b16 (fun hz => ?_) (fun hz => ?_)
  · have := rd4 _ (by omega) z
    exact o4 (by omega) (by omega)
  · refine l_159_99 ⟨fun _ => ⟨.inl rfl, fun Y1 e1 => ?_⟩, fun z => absurd hf z⟩
    have f1 : FR Y Y1 := by rw [e1]; exact FR_27 _ _
    have hA1 := AM_F f1 hA
    have ho1 : fI Y1 xM 5 = n32 p := by rw [e1]; exact ho
    have hst1 : fI Y1 xM 30 = st := by rw [e1]; exact hst
    have hh1 : fI Y1 xM 28 = n32 i := by rw [e1]; exact hh
    have hf1 : fI Y1 xM 29 = 0 := by rw [e1]; exact hf
    have h27 : fI Y1 xM 27 = 0 := by rw [e1]; rfl
    have hr1 : mRow Y1 = mRow Y := by rw [e1]; rfl
    have fin : ∀ Y' x, MK Y1 Y' x (mRow Y) → wF A p i (mRow Y) st w = (x, mRow Y, false) → Q Y' := by
      intro Y' x h e
      refine H Y' ?_
      rw [e]
      exact PM_K f1 (by rw [h27]; rfl) h
    have fin2 : 1 ≤ wOp w → wOp w ≤ 14 → ∀ Y2, MK Y1 Y2 (wk (wOp w) (wD w) (wA w) (wB w % 8) (n32 (wN w)) (wS w) (A 7 p) (mRow Y)).1 (wk (wOp w) (wD w) (wA w) (wB w % 8) (n32 (wN w)) (wS w) (A 7 p) (mRow Y)).2 → L_159_513 V g Y2 w (n32 (wOp w)) (n32 (wD w)) (n32 (wA w)) (n32 (wB w)) (n32 (wN w)) (wS w) (rdL (wOp w)) Q := by
      intro h1 h2 Y2 h
      rw [wF_wk h1 h2] at H
      have f2 := FR_t f1 (FR_K h)
      have e29 := h.2.2.2.2.2.1
      refine l_159_513 ⟨fun c => ?_, fun c => l_159_524 ?_⟩
      · have c' := e29.symm.trans c
        rw [if_pos c'] at H
        have hr := h.2.2.2.2.2.2 c'
        refine s_146 (AM_F f2 hA) W hp ((FR_i f2 (by decide) (by decide)).trans ho) ((FR_i f2 (by decide) (by decide)).trans hst) h0 c ((FR_i f2 (by decide) (by decide)).trans hh) (by omega) (fun Y' h' => l_159_524 (H Y' ?_))
        rw [nxF_c hr] at h'
        exact PM_K (FR_t f2 (FR_27 _ _)) rfl (MK_c h' hr)
      · have c' : ¬ (wk (wOp w) (wD w) (wA w) (wB w % 8) (n32 (wN w)) (wS w) (A 7 p) (mRow Y)).1 = 0 := fun z => c (e29.trans z)
        rw [if_neg c'] at H
        exact H Y2 ⟨f2, e29, fun z => absurd z c'⟩
    have eqo : ∀ {m : Nat}, m ≤ 20 → n32 (wOp w) = n32 m → wOp w = m := fun h1 h2 => (n_eq (by omega) (by omega)).mp h2
    have ia := n_in o3 (show 8 ≤ 2147483648 by omega)
    have id := n_in o2 (show 8 ≤ 2147483648 by omega)
    rw [← hr1] at ok
    have bmod : 4 ≤ wOp w → wOp w ≤ 8 → wB w % 8 = wB w := fun h1 h2 => Nat.mod_eq_of_lt (o4 h1 h2)
    have reck : 4 ≤ wOp w → wOp w ≤ 8 → (6 ≤ wOp w → (mRow Y (wA w)).1 = 1 ∧ (mRow Y (wB w)).1 = 1) → L_159_270 V g Y1 w (n32 (wOp w)) (n32 (wD w)) (n32 (wA w)) (n32 (wB w)) (n32 (wN w)) (wS w) (rdL (wOp w)) Q := by
      intro h1 h2 h3
      refine l_159_270 (s_152 (n := n32 (wN w)) (s := wS w) (need := A 7 p) h1 h2 hf1 o2 o3 (o4 h1 h2) ok (by rw [hr1]; exact h3) (fun Y2 h' => ?_))
      have f := fin2 (by omega) (by omega) Y2
      rw [bmod h1 h2] at f
      rw [hr1] at h'
      exact f h'
    have ops : ∀ m, wOp w = m → (rdL m &&& 1 = 0 ∨ (mRow Y (wD w)).1 = 1) ∧ (rdL m &&& 2 = 0 ∨ (mRow Y (wA w)).1 = 1) ∧ (rdL m &&& 4 = 0 ∨ (mRow Y (wB w)).1 = 1) := fun m e => by rw [← e]; exact hz
    refine ⟨⟨fun e => ?_, fun e => ?_, fun e => ?_, fun e => ?_, fun e => ?_, fun e => ?_, fun e => ?_, fun e => ?_, fun e => ?_, fun e => ?_, fun e => ?_, fun e => ?_, fun e => ?_, fun e => ?_, fun e => ?_, fun e => ?_, fun e => ?_, fun e => ?_, fun e => ?_, fun e => ?_, fun e => ?_⟩, fun e => ?_⟩
    · have e' := eqo (m := 0) (by omega) e
      refine fin Y1 0 (by rw [← hr1]; exact MK_r hf1) ?_
      rw [wF_0 e']
      rw [if_pos ((ops 0 e').2.1.resolve_left rdA.1)]
    · have e' := eqo (m := 1) (by omega) e
      refine fin2 (by omega) (by omega) Y1 ?_
      rw [e']
      show MK Y1 Y1 0 (mRow Y)
      rw [← hr1]
      exact MK_r hf1
    · have e' := eqo (m := 2) (by omega) e
      refine s_147 o2 (fun Y2 h' => fin2 (by omega) (by omega) Y2 ?_)
      rw [tS_of, hr1] at h'
      rw [e']
      exact MK_t h' hf1
    · have e' := eqo (m := 3) (by omega) e
      rw [n_nat (show wA w < 2147483648 by omega), n_nat (show wD w < 2147483648 by omega)]
      refine ⟨ia, id, fun Y3 e3 => ⟨ia, id, fun Y4 e4 => ⟨ia, id, fun Y5 e5 => fin2 (by omega) (by omega) Y5 ?_⟩⟩⟩
      have h' : mTo Y1 Y5 (setR (mRow Y1) (wD w) (mRow Y1 (wA w))) := by
        rw [e5, e4, e3]
        exact mT_set _ _ _
      rw [hr1] at h'
      rw [e']
      exact MK_t h' hf1
    · have e' := eqo (m := 4) (by omega) e
      exact reck (by omega) (by omega) (fun z => by omega)
    · have e' := eqo (m := 5) (by omega) e
      exact reck (by omega) (by omega) (fun z => by omega)
    · have e' := eqo (m := 6) (by omega) e
      exact reck (by omega) (by omega) (fun z => ⟨(ops 6 e').2.1.resolve_left rdA.2.1, (ops 6 e').2.2.resolve_left rdA.2.2.1⟩)
    · have e' := eqo (m := 7) (by omega) e
      exact reck (by omega) (by omega) (fun z => ⟨(ops 7 e').2.1.resolve_left rdA.2.2.2.1, (ops 7 e').2.2.resolve_left rdA.2.2.2.2.1⟩)
    · have e' := eqo (m := 8) (by omega) e
      exact reck (by omega) (by omega) (fun z => ⟨(ops 8 e').2.1.resolve_left rdA.2.2.2.2.2.1, (ops 8 e').2.2.resolve_left rdA.2.2.2.2.2.2.1⟩)
    · have e' := eqo (m := 9) (by omega) e
      have f := fin2 (by omega) (by omega)
      rw [e'] at f ⊢
      rw [wk_9] at f
      rw [n_nat (show wA w < 2147483648 by omega)]
      refine ⟨ia, fun k0 => s_141 hf1 (f _ ?_), fun k0 => ?_⟩
      · unfold sumF
        rw [← hr1, if_pos (.inl k0)]
        exact MK_w _ _ (by decide)
      · have ka := k012 ok o3
        refine s_sum (a := wA w) (b := wA w) (k := 1) hf1 o2 o3 o3 ok ?_ ⟨fun h1 h2 => ?_, fun h1 => ?_⟩ rfl rfl (fun Y' h' => f Y' (by rw [hr1] at h'; exact h'))
        · rintro (z | z | z)
          · exact k0 z
          · exact absurd z (by decide)
          · exact absurd z.2 (by decide)
        · rw [h2.1] at h1
          exact absurd h1 (by decide)
        · rcases ka with k | k | k
          · exact absurd k k0
          · exact absurd ⟨k, rfl⟩ h1
          · exact k
    · have e' := eqo (m := 10) (by omega) e
      have f := fin2 (by omega) (by omega)
      rw [e'] at f ⊢
      rw [wk_10] at f
      rw [if_pos ((ops 10 e').2.1.resolve_left rdA.2.2.2.2.2.2.2.1)] at f
      refine s_147 o2 (fun Y2 h' => f Y2 ?_)
      rw [hr1] at h'
      exact MK_t h' hf1
    · have e' := eqo (m := 11) (by omega) e
      have f := fin2 (by omega) (by omega)
      rw [e'] at f ⊢
      rw [wk_11] at f
      rw [if_pos ((ops 11 e').2.1.resolve_left rdA.2.2.2.2.2.2.2.2.1)] at f
      rw [n_nat (show wA w < 2147483648 by omega), sh_eq _ (by have := o5 e'; omega), sh_eq _ (by have := o5 e'; omega)]
      refine ⟨ia, ia, s_147 o2 (fun Y2 h' => f Y2 ?_)⟩
      rw [hr1] at h'
      rw [← hr1] at h' ⊢
      exact MK_t h' hf1
    · have e' := eqo (m := 12) (by omega) e
      refine s_147 o2 (fun Y2 h' => fin2 (by omega) (by omega) Y2 ?_)
      rw [tS_of, hr1] at h'
      rw [e']
      exact MK_t h' hf1
    · have e' := eqo (m := 13) (by omega) e
      refine l_159_376 (s_153 (b := wB w % 8) (n := n32 (wN w)) hA1 hp ho1 (.inl e') hf1 o2 o3 (fun z => by omega) (fun Y2 h' => fin2 (by omega) (by omega) Y2 ?_))
      rw [hr1] at h'
      exact h'
    · have e' := eqo (m := 14) (by omega) e
      refine l_159_376 (s_153 (b := wB w % 8) (n := n32 (wN w)) hA1 hp ho1 (.inr e') hf1 o2 o3 (fun _ => ?_) (fun Y2 h' => fin2 (by omega) (by omega) Y2 ?_))
      · rw [hr1]
        exact (ops 14 e').1.resolve_left rdA.2.2.2.2.2.2.2.2.2.1
      · rw [hr1] at h'
        exact h'
    · have e' := eqo (m := 15) (by omega) e
      refine s_145 hA1 W hp ho1 hst1 h0 hf1 (by omega) (fun Y' h' => ?_)
      rw [hr1] at h'
      refine fin Y' _ h' ?_
      rw [wF_15 e']
    · have e' := eqo (m := 16) (by omega) e
      have kd := (ops 16 e').1.resolve_left rdA.2.2.2.2.2.2.2.2.2.2.1
      have ka := (ops 16 e').2.1.resolve_left rdA.2.2.2.2.2.2.2.2.2.2.2.1
      rw [wF_16 e', if_pos ⟨kd, ka⟩] at H
      refine l_159_396 (s_154 hA1 W hp ho1 hst1 h0 hh1 (by omega) (by omega) o2 o3 hf1 h27 ok (by rw [hr1]; exact kd) (by rw [hr1]; exact ka) (.inl e') (fun _ q eq Y' h' => H Y' ?_) (fun z => by omega))
      rw [hr1] at eq
      rw [← eq]
      exact ⟨FR_t f1 h'.1, h'.2⟩
    · have e' := eqo (m := 17) (by omega) e
      have kd := (ops 17 e').1.resolve_left rdA.2.2.2.2.2.2.2.2.2.2.2.2.1
      have ka := (ops 17 e').2.1.resolve_left rdA.2.2.2.2.2.2.2.2.2.2.2.2.2
      rw [wF_17 e', if_pos ⟨kd, ka⟩] at H
      refine l_159_396 (s_154 hA1 W hp ho1 hst1 h0 hh1 (by omega) (by omega) o2 o3 hf1 h27 ok (by rw [hr1]; exact kd) (by rw [hr1]; exact ka) (.inr e') (fun z => by omega) (fun _ q eq Y' h' => H Y' ?_))
      rw [hr1] at eq
      rw [← eq]
      exact ⟨FR_t f1 h'.1, h'.2⟩
    · have e' := eqo (m := 18) (by omega) e
      have ewF : wF A p i (mRow Y) st w = if nF A p ≤ wN w ∨ ¬ st < n32 (wN w) then (8, mRow Y, false) else (cF A p i p (wN w) (mRow Y) st, mRow Y, false) := wF_18 e'
      rw [ho1, n_nat (show p < 2147483648 by omega), hA1 9 _ (by decide) (by decide) (by decide), W.2.1.1, n_le (by omega) (by omega), hst1]
      refine ⟨n_in hp (by omega), fun c => l_159_430 (s_141 hf1 (l_159_449 (fin _ 8 (MK_w _ _ (by decide)) ?_))), fun c => ⟨fun c2 => ?_, fun c2 => l_159_430 (s_141 hf1 (l_159_449 (fin _ 8 (MK_w _ _ (by decide)) ?_)))⟩⟩
      · rw [ewF, if_pos (.inl c)]
      · refine s_157 hA1 W hp ho1 hst1 h0 hh1 hi hf1 W hp (by omega) (fun Y' h' => l_159_449 ?_)
        rw [hr1] at h'
        refine fin Y' _ h' ?_
        rw [ewF, if_neg (fun z => z.elim c (fun z => z c2))]
      · rw [ewF, if_pos (.inr c2)]
    · have e' := eqo (m := 19) (by omega) e
      have l8 := W.2.2.1.2
      have ewF : wF A p i (mRow Y) st w = if nL A p ≤ wN w then (8, mRow Y, false) else (cF A p i (lP A (8 * p + wN w)) (lF A (8 * p + wN w)) (mRow Y) st, mRow Y, false) := wF_19 e'
      rw [ho1, n_nat (show p < 2147483648 by omega), hA1 10 _ (by decide) (by decide) (by decide), W.2.2.1.1, n_lt (by omega) (by omega)]
      refine ⟨n_in hp (by omega), fun c => ?_, fun c => s_141 hf1 (l_159_507 (fin _ 8 (MK_w _ _ (by decide)) ?_))⟩
      · obtain ⟨q1, q2, q3, q4, q5, q6, q7, q8⟩ := W.2.2.2.2.2.2.2.2.2 (wN w) c
        rw [ix8, n_nat (by omega), hA1 22 _ (by decide) (by decide) (by decide), hA1 23 _ (by decide) (by decide) (by decide), q1, q2]
        refine ⟨n_in (by omega) (by omega), n_in (by omega) (by omega), s_157 hA1 W hp ho1 hst1 h0 hh1 hi hf1 (hL _ q3 q4) q3 q6 (fun Y' h' => l_159_507 ?_)⟩
        rw [hr1] at h'
        refine fin Y' _ h' ?_
        rw [ewF, if_neg (by omega)]
      · rw [ewF, if_pos (by omega)]
    · have e' := eqo (m := 20) (by omega) e
      have ewF : wF A p i (mRow Y) st w = if st = 0 then (11, mRow Y, false) else if meetsR (mRow Y) (oRow A (8 * p + st.toNatClampNeg)) then (0, mRow Y, false) else (10, mRow Y, false) := wF_20 e'
      rw [est, n_nat (by omega)] at ewF
      rw [est] at fin hst1
      refine s_158 hA1 hp ho1 hst1 (by omega) hf1 (fun c => fin _ 11 (MK_w _ _ (by decide)) ?_) (fun c m => fin _ 0 (by rw [← hr1]; exact MK_r hf1) ?_) (fun c m => fin _ 10 (MK_w _ _ (by decide)) ?_)
      · rw [ewF, if_pos c]
      · rw [hr1] at m
        rw [ewF, if_neg c, if_pos m]
      · rw [hr1] at m
        rw [ewF, if_neg c, if_neg m]
    · rw [ti] at e
      omega
  · have e2 := rd_bad (A := A) (p := p) (i := i) (R := mRow Y) (st := st) okw' hz
    refine H _ ⟨?_, ?_, fun z => ?_⟩
    · refine ⟨fun u k hu => ?_, fun _ _ _ _ => rfl, fun _ _ _ => rfl, fun _ _ _ => rfl, rfl⟩
      rw [fI_uI, if_neg (fun z => hu ⟨z.1, .inr z.2⟩)]
    · rw [e2]
      rfl
    · rw [e2] at z
      exact absurd z (by decide)
end MH
