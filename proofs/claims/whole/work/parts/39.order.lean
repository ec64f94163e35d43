/-! a judged row has its bounds in order -/
theorem okT_tI {l h : Int64} (hl : l.toInt ≤ h.toInt) : okT (tI l h) := by
  unfold tI
  split
  · exact .inr ⟨.inl rfl, by decide⟩
  next z =>
    have e1 : (-2147483648 : Int64).toInt = -2147483648 := by decide
    have e2 : (2147483647 : Int64).toInt = 2147483647 := by decide
    rw [j_lt, j_lt, e1, e2] at z
    refine .inr ⟨.inl rfl, ?_⟩
    show l.toInt32 ≤ h.toInt32
    rw [i_le, j_to (by omega) (by omega), j_to (by omega) (by omega)]
    exact hl
theorem okR_set {R : Row} (h : okR R) (d : Nat) {x : Int32 × Int32 × Int32} (hx : okT x) : okR (setR R d x) := by
  intro r hr
  unfold setR
  split
  · exact hx
  · exact h r hr
theorem lo_b (R : Row) (a : Nat) : -2147483648 ≤ (lo R a).toInt ∧ (lo R a).toInt < 2147483648 := by
  unfold lo
  rw [j_of]
  exact ⟨i_lo _, i_hi _⟩
theorem hi_b (R : Row) (a : Nat) : -2147483648 ≤ (hi R a).toInt ∧ (hi R a).toInt < 2147483648 := by
  unfold hi
  rw [j_of]
  exact ⟨i_lo _, i_hi _⟩
theorem ok_le {R : Row} {a : Nat} (ok : okR R) (a8 : a < 8) (k : (R a).1 ≠ 0) : (lo R a).toInt ≤ (hi R a).toInt := by
  unfold lo hi
  rw [j_of, j_of]
  rcases ok a a8 with z | z
  · exact absurd z k
  · exact i_le.mp z.2
theorem sumF_ok {R : Row} {d a : Nat} {k : Int32} {l h : Int64} (ok : okR R) (e : (R a).1 ≠ 0 → k ≠ 0 → l.toInt ≤ h.toInt) : okR (sumF d a k l h R).2 := by
  unfold sumF
  split
  · exact ok
  next c =>
    have hl := e (fun z => c (.inl z)) (fun z => c (.inr (.inl z)))
    split
    · exact okR_set ok _ (okT_tI hl)
    · split
      · exact ok
      next c3 =>
        refine okR_set ok _ (.inr ⟨.inr rfl, ?_⟩)
        have e1 : (-1000000 : Int64).toInt = -1000000 := by decide
        have e2 : (1000000 : Int64).toInt = 1000000 := by decide
        rw [j_lt, j_le, e1, e2] at c3
        show l.toInt32 ≤ h.toInt32
        rw [i_le, j_to (by omega) (by omega), j_to (by omega) (by omega)]
        exact hl
theorem mn4_le (a b c d : Int64) : (mn4 a b c d).toInt ≤ (mx4 a b c d).toInt := by
  unfold mn4 mx4
  rw [mn_t, mn_t, mn_t, mx_t, mx_t, mx_t]
  omega
theorem sh64 (x b : Int64) : (x >>> b).toInt = x.toInt / 2 ^ (b.toBitVec.smod 64).toNat := by
  have h : (x >>> b).toBitVec = x.toBitVec.sshiftRight' (b.toBitVec.smod 64) := rfl
  show (x >>> b).toBitVec.toInt = _
  rw [h]
  show (x.toBitVec.sshiftRight (b.toBitVec.smod 64).toNat).toInt = _
  rw [BitVec.toInt_sshiftRight, Int.shiftRight_eq_div_pow]
  rfl
theorem div_mono {a b : Int} {k : Nat} (h : a ≤ b) : a / 2 ^ k ≤ b / 2 ^ k := Int.ediv_le_ediv (Int.pow_pos (by decide)) h
theorem ab_t {x : Int64} (h : -9223372036854775808 < x.toInt) : (ab x).toInt = if 0 ≤ x.toInt then x.toInt else -x.toInt := by
  have h2 := x.toInt_lt
  have e : (0 : Int64).toInt = 0 := rfl
  unfold ab
  by_cases c : 0 ≤ x
  · rw [if_pos c]
    rw [j_le, e] at c
    rw [if_pos c]
  · rw [if_neg c]
    rw [j_le, e] at c
    rw [if_neg c, Int64.toInt_neg, bm64 (by omega) (by omega)]
theorem rem_m {R : Row} {b : Nat} (z : ¬ (lo R b ≤ 0 ∧ 0 ≤ hi R b)) (hl : (lo R b).toInt ≤ (hi R b).toInt) : 0 ≤ (mx (ab (lo R b)) (ab (hi R b)) - 1).toInt ∧ (mx (ab (lo R b)) (ab (hi R b)) - 1).toInt = max (if 0 ≤ (lo R b).toInt then (lo R b).toInt else -(lo R b).toInt) (if 0 ≤ (hi R b).toInt then (hi R b).toInt else -(hi R b).toInt) - 1 := by
  have h1 := lo_b R b
  have h2 := hi_b R b
  have e : (0 : Int64).toInt = 0 := rfl
  have e1 : (1 : Int64).toInt = 1 := rfl
  rw [j_le, j_le, e] at z
  have m : (mx (ab (lo R b)) (ab (hi R b))).toInt = max (if 0 ≤ (lo R b).toInt then (lo R b).toInt else -(lo R b).toInt) (if 0 ≤ (hi R b).toInt then (hi R b).toInt else -(hi R b).toInt) := by
    rw [mx_t, ab_t (by omega), ab_t (by omega)]
  have hs : (mx (ab (lo R b)) (ab (hi R b)) - 1).toInt = (mx (ab (lo R b)) (ab (hi R b))).toInt - 1 := by
    rw [j_sub]
    · rw [e1]
    · rw [m, e1]; split <;> split <;> omega
    · rw [m, e1]; split <;> split <;> omega
  rw [hs, m]
  refine ⟨?_, rfl⟩
  split <;> split <;> omega
theorem wk_ok {op d a b : Nat} {n s need : Int32} {R : Row} (hop : op ≤ 14) (hn : 0 ≤ n.toInt) (ok : okR R) (d8 : d < 8) (a8 : a < 8) (b8 : b < 8) : okR (wk op d a b n s need R).2 := by
  have one : ∀ {x : Nat}, (R x).1 = 1 → (R x).1 ≠ 0 := fun h z => by rw [h] at z; exact absurd z (by decide)
  have e0 : (0 : Int64).toInt = 0 := rfl
  have la := lo_b R a
  have ha := hi_b R a
  have lb := lo_b R b
  have hb := hi_b R b
  have ls := i_lo s
  have hs := i_hi s
  have hop' : op = 0 ∨ op = 1 ∨ op = 2 ∨ op = 3 ∨ op = 4 ∨ op = 5 ∨ op = 6 ∨ op = 7 ∨ op = 8 ∨ op = 9 ∨ op = 10 ∨ op = 11 ∨ op = 12 ∨ op = 13 ∨ op = 14 := by omega
  rcases hop' with rfl | rfl | rfl | rfl | rfl | rfl | rfl | rfl | rfl | rfl | rfl | rfl | rfl | rfl | rfl
  · exact ok
  · exact ok
  · exact okR_set ok _ (.inr ⟨.inl rfl, by show s ≤ s; rw [i_le]; omega⟩)
  · exact okR_set ok _ (ok a a8)
  · refine sumF_ok ok (fun h1 h2 => ?_)
    have := ok_le ok a8 h1
    have := ok_le ok b8 h2
    rw [j_add (by omega) (by omega), j_add (by omega) (by omega)]
    omega
  · rw [wk_5]
    split
    next h =>
      refine sumF_ok ok (fun h1 h2 => ?_)
      have := ok_le ok a8 h1
      have := ok_le ok b8 (one h)
      rw [j_sub (by omega) (by omega), j_sub (by omega) (by omega)]
      omega
    next h => exact ok
  · rw [wk_6]
    split
    · exact okR_set ok _ (okT_tI (mn4_le _ _ _ _))
    · exact ok
  · rw [wk_7]
    split
    · split
      · exact ok
      · exact okR_set ok _ (okT_tI (mn4_le _ _ _ _))
    · exact ok
  · rw [wk_8]
    split
    next h =>
      split
      · exact ok
      next z =>
        refine okR_set ok _ (okT_tI ?_)
        have hm := (rem_m z (ok_le ok b8 (one h.2))).1
        have hm2 := (mx (ab (lo R b)) (ab (hi R b)) - 1).toInt_lt
        have hneg : (-(mx (ab (lo R b)) (ab (hi R b)) - 1)).toInt = -(mx (ab (lo R b)) (ab (hi R b)) - 1).toInt := by
          rw [Int64.toInt_neg, bm64 (by omega) (by omega)]
        split <;> split
        · omega
        · rw [e0]; exact hm
        · rw [hneg, e0]; omega
        · rw [hneg]; omega
    · exact ok
  · refine sumF_ok ok (fun h1 h2 => ?_)
    have := ok_le ok a8 h1
    rw [j_add (by rw [j_of]; omega) (by rw [j_of]; omega), j_add (by rw [j_of]; omega) (by rw [j_of]; omega)]
    omega
  · rw [wk_10]
    split
    · exact okR_set ok _ (okT_tI (by rw [e0, j_of]; exact hn))
    · exact ok
  · rw [wk_11]
    split
    next h =>
      refine okR_set ok _ (okT_tI ?_)
      rw [sh64, sh64]
      exact div_mono (ok_le ok a8 (one h))
    · exact ok
  · exact okR_set ok _ (.inr ⟨.inr rfl, by show n ≤ n; rw [i_le]; omega⟩)
  · rw [wk_13]
    split
    · split
      · exact ok
      · exact okR_set ok _ (.inr ⟨.inl rfl, by decide⟩)
    · exact ok
  · rw [wk_14]
    split
    · split
      · split
        · exact ok
        · exact ok
      · exact ok
    · exact ok
theorem wF_ok {A : AF} {p i : Nat} {st w : Int32} {R : Row} (okw : okW w) (ok : okR R) : okR (wF A p i R st w).2.1 := by
  obtain ⟨o1, d8, a8, o4, o5⟩ := okw
  have n6 := n_lt6 w
  have one : ∀ {x : Nat}, (R x).1 = 1 → (R x).1 ≠ 0 := fun h z => by rw [h] at z; exact absurd z (by decide)
  by_cases hw : 1 ≤ wOp w ∧ wOp w ≤ 14
  · have h := wk_ok (op := wOp w) (b := wB w % 8) (n := n32 (wN w)) (s := wS w) (need := A 7 p) hw.2 (by rw [n_toInt (by omega)]; omega) ok d8 a8 (Nat.mod_lt _ (by omega))
    rw [wF_wk hw.1 hw.2]
    split
    · exact h
    · exact h
  · have hop : wOp w = 0 ∨ wOp w = 15 ∨ wOp w = 16 ∨ wOp w = 17 ∨ wOp w = 18 ∨ wOp w = 19 ∨ wOp w = 20 := by omega
    rcases hop with e | e | e | e | e | e | e
    · rw [wF_0 e]
      split <;> exact ok
    · rw [wF_15 e]
      exact ok
    · rw [wF_16 e]
      split
      next h =>
        split
        · exact ok
        · split
          · exact ok
          · split
            · exact ok
            next c =>
              have h1 := ok_le ok a8 (one h.2)
              have h2 := ok_le ok d8 (one h.1)
              rw [j_lt] at c
              unfold lessN
              refine okR_set (okR_set ok _ (okT_tI ?_)) _ (okT_tI ?_)
              · rw [mx_t]; omega
              · rw [mn_t]; omega
      next h => exact ok
    · rw [wF_17 e]
      split
      · split
        · exact ok
        · split <;> exact ok
      · exact ok
    · rw [wF_18 e]
      split <;> exact ok
    · rw [wF_19 e]
      split <;> exact ok
    · rw [wF_20 e]
      split
      · exact ok
      · split <;> exact ok
section FL
variable {V : xV} {g : xG} {A : AF} {p : Nat}
/-- the class's loop over the words -/
theorem s_2_l (W : WA A p) : ∀ (m i : Nat) (Y : xW) (R : Row) (st : Int32) (fl : Bool) (Q : Int32 → xW → Prop), i + m = nW A p → (∀ q, q < 24 → A 6 q = 1 → CP Y A q ∧ WA A q) → CP Y A p → fI Y (1, 0, 0) 3 = st → (∃ f, f < nF A p ∧ st = n32 f) → fI Y (1, 0, 0) 2 = (if fl = true then 1 else 0) → (fl = true → rq (gRow Y (23, 0, 0)) R ∧ okR R) → (∀ Y', JF Y Y' → Q (vfl A p m i R st fl) Y') → L_2_21 V g Y (5, p, 0) (n32 i) Q := by
  intro m
  induction m with
  | zero =>
    intro i Y R st fl Q him hL C hst h0 hfl hR H
    have hn : fI Y (5, p, 0) 5 = n32 (nW A p) := C.1.2.1.trans W.1.1
    have w2 := W.1.2
    refine l_2_21 ⟨fun _ => H Y (JF_r Y), fun c => absurd ?_ c⟩
    rw [hn, n_le (by omega) (by omega)]
    omega
  | succ m ih =>
    intro i Y R st fl Q him hL C hst h0 hfl hR H
    have hn : fI Y (5, p, 0) 5 = n32 (nW A p) := C.1.2.1.trans W.1.1
    have w2 := W.1.2
    have hi : i < nW A p := by omega
    have okw := W.2.2.2.2.1 i hi
    unfold vfl at H
    refine l_2_21 ⟨fun c => ?_, fun _ => s_44 hn w2 (by omega) (fun _ => s_3 C W hi hfl (fun c => ⟨fun z => absurd z c, fun _ => l_2_51 ⟨fun z => absurd z c, fun _ => ?_⟩⟩) (fun c Y3 j3 st3 r3 => ⟨fun _ => ?_, fun z => absurd rfl z⟩)) (fun z => absurd hi z)⟩
    · rw [hn, n_le (by omega) (by omega)] at c
      omega
    · rw [if_neg c] at H
      exact H Y (JF_r Y)
    · rw [if_pos c] at H
      rw [hst] at st3
      have flneg : A 13 (200 * p + i) < 0 → fl = true := by
        intro neg
        unfold cmF at c
        by_cases z : i = 0 ∧ ¬ stF A p
        · rw [if_pos z] at c
          exact absurd c (by decide)
        · rw [if_neg z] at c
          cases fl with
          | true => rfl
          | false =>
            rw [if_pos ⟨neg, rfl⟩] at c
            exact absurd c (by decide)
      have r3' : rq (gRow Y3 (23, 0, 0)) (inR A p i R) := by
        by_cases neg : A 13 (200 * p + i) < 0
        · have q := (hR (flneg neg)).1
          unfold inR at r3 ⊢
          rw [if_pos neg] at r3 ⊢
          intro r hr
          refine ⟨(r3 r hr).1.trans (q r hr).1, fun z => ?_⟩
          have z2 : (gRow Y (23, 0, 0) r).1 ≠ 0 := by rw [(q r hr).1]; exact z
          exact ((r3 r hr).2 z2).trans ((q r hr).2 z)
        · unfold inR at r3 ⊢
          rw [if_neg neg] at r3 ⊢
          exact r3
      have ok3 : okR (inR A p i R) := inR_ok W (by omega) (fun neg => (hR (flneg neg)).2)
      have hs3 := inS_ok W (show i < 200 by omega) (fun _ => h0)
      have q3 := wF_rq (A := A) (p := p) (i := i) (st := inS A p i st) okw r3'
      refine s_5 (fun q h1 h2 => ⟨CP_J j3 (hL q h1 h2).1, (hL q h1 h2).2⟩) (CP_J j3 C) W hi (rq_ok r3' ok3) st3 hs3 (fun Y5 j5 => l_2_51 ⟨fun z => ?_, fun z => ?_⟩)
      · obtain ⟨j5, st5, r5⟩ := j5
        have r5 := r5 z
        rw [q3.1] at z
        rw [if_pos z] at H
        rw [show n32 i + 1 = n32 (i + 1) from n_add i 1]
        have j' := JF_t j3 j5
        refine ih (i + 1) Y5 (wF A p i (inR A p i R) (inS A p i st) (A 12 (200 * p + i))).2.1 (inS A p i st) (wF A p i (inR A p i R) (inS A p i st) (A 12 (200 * p + i))).2.2 Q (by omega) (fun q h1 h2 => ⟨CP_J j' (hL q h1 h2).1, (hL q h1 h2).2⟩) (CP_J j' C) st5 hs3 ?_ (fun _ => ⟨rq_c r5.2 q3.2.2, wF_ok okw ok3⟩) (fun Y' hJ => H Y' (JF_t j' hJ))
        rw [r5.1, q3.2.1]
      · rw [q3.1] at z ⊢
        rw [if_neg z] at H
        exact H Y5 (JF_t j3 j5.1)
theorem vfl_R {m : Nat} {R R' : Row} {st : Int32} : vfl A p (m + 1) 0 R st false = vfl A p (m + 1) 0 R' st false := by
  unfold vfl
  by_cases neg : A 13 (200 * p + 0) < 0
  · have c : ¬ cmF A p 0 false = 0 := by
      unfold cmF
      split
      · decide
      · rw [if_pos ⟨neg, rfl⟩]
        decide
    rw [if_neg c, if_neg c]
  · have e : inR A p 0 R = inR A p 0 R' := by
      unfold inR
      rw [if_neg neg, if_neg neg]
    rw [e]
theorem s_2 {Y : xW} {Q : Int32 → xW → Prop} (W : WA A p) (hL : ∀ q, q < 24 → A 6 q = 1 → CP Y A q ∧ WA A q) (C : CP Y A p) (H : ∀ Y', JF Y Y' → Q (if nW A p = 0 then 1 else vfl A p (nW A p) 0 (fun _ => (0, 0, 0)) 0 false) Y') : L_2_0 V g Y (5, p, 0) Q := by
  have hn : fI Y (5, p, 0) 5 = n32 (nW A p) := C.1.2.1.trans W.1.1
  have w2 := W.1.2
  have f1 := W.2.1.2.1
  refine l_2_0 ⟨fun c => ?_, fun c => ⟨.inl rfl, fun Y1 e1 Y2 e2 => ?_⟩⟩
  · rw [hn] at c
    have c' : nW A p = 0 := (n_eq (b := 0) (by omega) (by omega)).mp c
    rw [if_pos c'] at H
    exact H Y (JF_r Y)
  · rw [hn] at c
    have c' : ¬ nW A p = 0 := fun z => c (by rw [z]; rfl)
    rw [if_neg c'] at H
    have j : JF Y Y2 := by rw [e2, e1]; exact JF_t (JF_uI _ _ _) (JF_uI _ _ _)
    refine s_2_l W (nW A p) 0 Y2 (fun _ => (0, 0, 0)) 0 false Q (by omega) (fun q h1 h2 => ⟨CP_J j (hL q h1 h2).1, (hL q h1 h2).2⟩) (CP_J j C) (by rw [e2]; rfl) ⟨0, by omega, rfl⟩ (by rw [e2, e1]; rfl) (fun z => absurd z (by decide)) (fun Y' hJ => H Y' (JF_t j hJ))
end FL
