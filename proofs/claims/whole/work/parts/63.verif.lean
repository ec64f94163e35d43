/-! verify: the case -/
theorem dpo_dep {A : AF} {p : Nat} (W : WA A p) (acc : ACC A p) (hlp : ∀ k, k < nL A p → lP A (8 * p + k) ≠ p ∧ lF A (8 * p + k) < 8) : ∀ (f : Nat) (D : Nat → Int32), f ≤ nF A p → (∀ f', f ≤ f' → f' < nF A p → 0 ≤ (D (8 * p + f')).toInt ∧ (D (8 * p + f')).toInt + f' ≤ 40 ∧ ∀ k, k < nW A p → rwS A p k = n32 f' → ∀ d, cD A D p k = some d → d.toInt + 1 ≤ (D (8 * p + f')).toInt) → (∀ k, k < nL A p → 0 ≤ (D (8 * lP A (8 * p + k) + lF A (8 * p + k))).toInt ∧ (D (8 * lP A (8 * p + k) + lF A (8 * p + k))).toInt ≤ 32) → ∀ f', f' < nF A p → 0 ≤ (dpo A p f D (8 * p + f')).toInt ∧ (dpo A p f D (8 * p + f')).toInt + f' ≤ 40 ∧ ∀ k, k < nW A p → rwS A p k = n32 f' → ∀ d, cD A (dpo A p f D) p k = some d → d.toInt + 1 ≤ (dpo A p f D (8 * p + f')).toInt := by
  have f8 := W.2.1.2.2
  have hcall : ∀ k f', k < nW A p → f' < nF A p → rwS A p k = n32 f' → wOp (A 12 (200 * p + k)) = 18 → f' < wN (A 12 (200 * p + k)) ∧ wN (A 12 (200 * p + k)) < nF A p := by
    intro k f' hk hf hs e
    have z := (acc.2 k hk).2
    have n6 := n_lt6 (A 12 (200 * p + k))
    unfold rwF at z
    rw [wF_18 e] at z
    split at z
    · exact absurd (show (8 : Int32) = 0 from z) (by decide)
    next c =>
      rw [hs] at c
      have c1 : ¬ nF A p ≤ wN (A 12 (200 * p + k)) := fun y => c (.inl y)
      have c2 : n32 f' < n32 (wN (A 12 (200 * p + k))) := Classical.byContradiction (fun y => c (.inr y))
      rw [n_lt (by omega) (by omega)] at c2
      exact ⟨c2, by omega⟩
  intro f
  induction f with
  | zero =>
    intro D _ hd hl f' hf'
    exact hd f' (by omega) hf'
  | succ f ih =>
    intro D hf hd hl
    have ov : (vR A p 0).2.1 = 0 := rfl
    have bb := dpi_b (A := A) (D := D) (p := p) (f := f) (b := 40 - f) (by omega) (nW A p) 0 0 (by omega) (by decide) (by show (0 : Int) ≤ _; omega) (by
      intro j _ hj hs d hd2
      unfold cD at hd2
      by_cases c1 : wOp (A 12 (200 * p + j)) = 18
      · rw [if_pos c1] at hd2
        cases hd2
        obtain ⟨n1, n2⟩ := hcall j f hj (by omega) hs c1
        obtain ⟨z1, z2, _⟩ := hd _ (by omega) n2
        exact ⟨z1, by omega⟩
      · rw [if_neg c1] at hd2
        by_cases c2 : wOp (A 12 (200 * p + j)) = 19
        · rw [if_pos c2] at hd2
          cases hd2
          have n2 := (okC_of acc j hj).2 c2
          obtain ⟨z1, z2⟩ := hl _ n2
          exact ⟨z1, by omega⟩
        · rw [if_neg c2] at hd2
          cases hd2)
    rw [ov] at bb
    obtain ⟨b0, b1, _, b3⟩ := bb
    have cs : ∀ k f', k < nW A p → f ≤ f' → f' < nF A p → rwS A p k = n32 f' → cD A (fun j => if j = 8 * p + f then dpi A D p f (nW A p) 0 0 0 else D j) p k = cD A D p k := by
      intro k f' hk h1 h2 hs
      unfold cD
      by_cases c1 : wOp (A 12 (200 * p + k)) = 18
      · obtain ⟨n1, n2⟩ := hcall k f' hk h2 hs c1
        rw [if_pos c1, if_pos c1]
        exact congrArg some (if_neg (by omega))
      · rw [if_neg c1, if_neg c1]
        by_cases c2 : wOp (A 12 (200 * p + k)) = 19
        · have n2 := (okC_of acc k hk).2 c2
          have := hlp _ n2
          rw [if_pos c2, if_pos c2]
          exact congrArg some (if_neg (by omega))
        · rw [if_neg c2, if_neg c2]
    refine ih (fun j => if j = 8 * p + f then dpi A D p f (nW A p) 0 0 0 else D j) (by omega) (fun f' h1 h2 => ?_) (fun k hk => ?_)
    · by_cases e : f' = f
      · subst e
        rw [if_pos rfl]
        refine ⟨b0, by omega, fun k hk hs d hd2 => ?_⟩
        rw [cs k f' hk h1 h2 hs] at hd2
        exact b3 k (by omega) hk hs d hd2
      · rw [if_neg (by omega)]
        obtain ⟨z1, z2, z3⟩ := hd f' (by omega) h2
        refine ⟨z1, z2, fun k hk hs d hd2 => ?_⟩
        rw [cs k f' hk h1 h2 hs] at hd2
        exact z3 k hk hs d hd2
    · have := hlp k hk
      rw [if_neg (by omega)]
      exact hl k hk
section VE
variable {V : xV} {g : xG} {Y : xW}
theorem case_7 {B F : xW → Prop} (hi : Inv g Y) (H : ∀ Y', Inv g Y' → CT Y Y' → B Y') : L_95_0 V g Y (fun x38 Y37 => L_162_0 V g Y37 (fun x40 Y39 => ((x38 = x40) → B Y39) ∧ (¬ (x38 = x40) → F Y39))) := by
  have hi' := hi
  obtain ⟨⟨P, N, I⟩, S, K, hd, J⟩ := hi'
  obtain ⟨⟨P24, N2⟩, ⟨m3, y1, m4, y3⟩, hop, hPP, hFP, hC⟩ := id I
  rcases hop with ⟨o5, oR⟩ | ⟨o, oP, o5, oR, no⟩
  · refine l_95_0 (fun o1 e1 => ⟨fun _ => l_162_0 (fun Y1 e2 => ?_), fun u z => absurd (z.symm.trans (e1.trans oR)) (by simp)⟩)
    subst e2
    have e5 : fI (uI Y (10, 0, 0) 2 0) (10, 0, 0) 5 = -1 := o5
    rw [e5]
    exact ⟨fun z => absurd z (by decide), fun _ => ⟨fun _ => H _ (Inv_c0 hi).1 (Inv_c0 hi).2, fun z => absurd rfl z⟩⟩
  · have PPo := hPP o oP
    have W := PPo.2.2.1
    have C := PPo.2.1
    have f8 := W.2.1.2.2
    have l8 := W.2.2.1.2
    have hL : ∀ q, q < 24 → fA Y xM 6 q = 1 → CP Y (fA Y xM) q ∧ WA (fA Y xM) q := fun q h1 h2 => ⟨(hPP q (acc_lt I h1 h2)).2.1, (hPP q (acc_lt I h1 h2)).2.2.1⟩
    have hlk := IP_lk I oP
    have hlp : ∀ k, k < nL (fA Y xM) o → lP (fA Y xM) (8 * o + k) ≠ o ∧ lF (fA Y xM) (8 * o + k) < 8 := fun k hk => ⟨PPo.2.2.2.1 k hk, (hlk k hk).2⟩
    refine s_95 hL C W oR PPo.2.2.2.1 (fun Y1 vc => ?_)
    obtain ⟨v1, v2, v3, v4, v5, v6, v7, v8, v9⟩ := vc
    have eA : fA Y1 xM = fA Y xM := funext fun k => funext fun j => v5 xM k j (by simp)
    have o51 : fI Y1 xM 5 = n32 o := (v1 xM 5 (by simp) (by simp) (by simp)).trans o5
    refine s_162 (p := o) (by rw [eA]; exact fun k hk => (hC k hk).2) (by rw [eA]; exact fun q h1 h2 => (hL q h1 h2).2) (by rw [eA]; exact W) (by omega) o51 (by rw [eA]; exact fun k hk => (hlp k hk).2) (fun Y2 vm => ?_)
    rw [eA] at vm ⊢
    refine ⟨fun _ => ?_, fun z => absurd rfl z⟩
    obtain ⟨w1, w2, w3, w4, w5, w6, w7, w8, w9, w10⟩ := vm
    rw [eA] at w5 w6 w7
    -- reads of the last state
    have rM : ∀ k j, k ≠ 6 → k ≠ 11 → k ≠ 18 → k ≠ 24 → k ≠ 25 → k ≠ 26 → fA Y2 xM k j = fA Y xM k j := by
      intro k j h1 h2 h3 h4 h5 h6
      rw [w4 xM k j (fun z => by omega), eA]
    have rO : ∀ u k j, u ≠ xM → u.1 ≠ 23 → fA Y2 u k j = fA Y u k j := fun u k j h1 h2 => (w4 u k j (fun z => h1 z.1)).trans (v5 u k j h2)
    have rI : ∀ u k, u ≠ xM → u ≠ (1, 0, 0) → ¬ (u = (5, o, 0) ∧ (k = 8 ∨ k = 9)) → ¬ (u.1 = 0 ∧ u.2.1 = o ∧ k = 2) → fI Y2 u k = fI Y u k := fun u k h1 h2 h3 h4 => (w1 u k (fun z => h1 z.1)).trans (v1 u k h2 h3 h4)
    have rX : ∀ k, k ≠ 2 → k ≠ 5 → ¬ (27 ≤ k ∧ k ≤ 30) → fI Y2 xM k = fI Y xM k := fun k h1 h2 h3 => (w1 xM k (fun z => by omega)).trans (v1 xM k (by simp) (by simp) (by simp))
    have rR : ∀ u k j, ¬ (u = (9, 0, 0) ∧ k = 2 ∧ j = 0) → fR Y2 u k j = fR Y u k j := fun u k j h => (w9 u k j).trans (v7 u k j h)
    have rL : ∀ u k j, fL Y2 u k j = fL Y u k j := fun u k j => (w8 u k j).trans (v6 u k j)
    have rC : fC Y2 = fC Y := w10.trans v9
    have a18 : ∀ j, (∀ f', f' < 8 → j ≠ 8 * o + f') → fA Y2 xM 18 j = fA Y xM 18 j := by
      intro j hj
      rw [w7]
      split
      · exact dpo_o _ _ _ (fun f' h => hj f' (by omega))
      · rfl
    have own0 : ∀ k j, k < 24 → ¬ own o k j → fA Y2 xM k j = fA Y xM k j := by
      intro k j hk hw
      by_cases k6 : k = 6
      · subst k6
        rw [w6, if_neg (fun z => hw (by unfold own; omega))]
      · by_cases k11 : k = 11
        · subst k11
          rw [w5, if_neg (fun z => hw (by unfold own; omega))]
        · by_cases k18 : k = 18
          · subst k18
            exact a18 j (fun f' h z => hw (by unfold own; omega))
          · exact rM k j k6 k11 k18 (by omega) (by omega) (by omega)
    have eW : ∀ q, nW (fA Y2 xM) q = nW (fA Y xM) q := fun q => by unfold nW; rw [rM 8 _ (by omega) (by omega) (by omega) (by omega) (by omega) (by omega)]
    have eF : ∀ q, nF (fA Y2 xM) q = nF (fA Y xM) q := fun q => by unfold nF; rw [rM 9 _ (by omega) (by omega) (by omega) (by omega) (by omega) (by omega)]
    have eL : ∀ q, nL (fA Y2 xM) q = nL (fA Y xM) q := fun q => by unfold nL; rw [rM 10 _ (by omega) (by omega) (by omega) (by omega) (by omega) (by omega)]
    have eNn : ∀ q, nN (fA Y2 xM) q = nN (fA Y xM) q := fun q => by unfold nN; rw [rM 7 _ (by omega) (by omega) (by omega) (by omega) (by omega) (by omega)]
    have ee : ∀ j, eN (fA Y2 xM) j = eN (fA Y xM) j := fun j => by unfold eN; rw [rM 17 _ (by omega) (by omega) (by omega) (by omega) (by omega) (by omega)]
    have eP : ∀ j, lP (fA Y2 xM) j = lP (fA Y xM) j := fun j => by unfold lP; rw [rM 22 _ (by omega) (by omega) (by omega) (by omega) (by omega) (by omega)]
    have eFl : ∀ j, lF (fA Y2 xM) j = lF (fA Y xM) j := fun j => by unfold lF; rw [rM 23 _ (by omega) (by omega) (by omega) (by omega) (by omega) (by omega)]
    have lr : ∀ a, lRow (fA Y2 xM) a = lRow (fA Y xM) a := fun a => by
      unfold lRow
      funext q
      rw [rM 14 _ (by omega) (by omega) (by omega) (by omega) (by omega) (by omega), rM 15 _ (by omega) (by omega) (by omega) (by omega) (by omega) (by omega), rM 16 _ (by omega) (by omega) (by omega) (by omega) (by omega) (by omega)]
    have or : ∀ a, oRow (fA Y2 xM) a = oRow (fA Y xM) a := fun a => by
      unfold oRow
      funext q
      rw [rM 19 _ (by omega) (by omega) (by omega) (by omega) (by omega) (by omega), rM 20 _ (by omega) (by omega) (by omega) (by omega) (by omega) (by omega), rM 21 _ (by omega) (by omega) (by omega) (by omega) (by omega) (by omega)]
    have a13 : ∀ j, fA Y2 xM 13 j = fA Y xM 13 j := fun j => rM 13 j (by omega) (by omega) (by omega) (by omega) (by omega) (by omega)
    have WA2 : WA (fA Y2 xM) o := by
      obtain ⟨q, r, s, t, u, v, x, y, z, l⟩ := id W
      unfold WA
      rw [eW, eF, eL, eNn, rM 8 _ (by omega) (by omega) (by omega) (by omega) (by omega) (by omega), rM 9 _ (by omega) (by omega) (by omega) (by omega) (by omega) (by omega), rM 10 _ (by omega) (by omega) (by omega) (by omega) (by omega) (by omega), rM 7 _ (by omega) (by omega) (by omega) (by omega) (by omega) (by omega)]
      refine ⟨q, r, s, t, fun k hk => ?_, fun k hk => by rw [a13]; exact v k hk, fun k hk => by rw [lr]; exact x k hk, fun f hf => by rw [or]; exact y f hf, fun f hf => ?_, fun k hk => ?_⟩
      · rw [rM 12 _ (by omega) (by omega) (by omega) (by omega) (by omega) (by omega)]; exact u k hk
      · rw [ee, rM 17 _ (by omega) (by omega) (by omega) (by omega) (by omega) (by omega)]; exact z f hf
      · have hq := hlp k hk
        rw [eP, eFl, ee, eF, eNn, rM 22 _ (by omega) (by omega) (by omega) (by omega) (by omega) (by omega), rM 23 _ (by omega) (by omega) (by omega) (by omega) (by omega) (by omega), a13, w6, if_neg hq.1, a18 _ (fun f' h => by omega)]
        exact l k hk
    have res : resC (fA Y2 xM) = resC (fA Y xM) := res_eq (fun k j h1 h2 h3 h4 => rM k j h2 h3 h4 (by omega) (by omega) (by omega))
    have v4' : ∀ f, f < nF (fA Y xM) o → fI Y2 (0, o, f) 2 = fA Y2 xM 18 (8 * o + f) := by
      intro f hf
      rw [w7, w1 _ _ (by simp), v4 f hf]
    have PPn : PP g Y2 (fA Y2 xM) o := by
      have t5 : tP (5, o, 0) o := ⟨rfl, .inl rfl⟩
      refine ⟨(rR _ _ _ (by simp)).trans PPo.1, ?_, WA2, fun k hk => ?_, fun z => ?_, fun z f hf => ?_, fun f hf h88 => ?_, fun k hk h88 => ?_, fun k hk z => ?_⟩
      · obtain ⟨⟨q0, q1, q2, q3, q4, q5⟩, bb, cc, dd, ll⟩ := C
        unfold CP
        rw [eW, eF, eL, rI _ 0 (by simp) (by simp) (by simp) (by simp), rI _ 5 (by simp) (by simp) (by simp) (by simp), rI _ 6 (by simp) (by simp) (by simp) (by simp), rI _ 7 (by simp) (by simp) (by simp) (by simp), w1 (5, o, 0) 8 (by simp), v2, w1 (5, o, 0) 9 (by simp), v3, w6, if_pos rfl, w5, if_pos rfl, rM 8 _ (by omega) (by omega) (by omega) (by omega) (by omega) (by omega), rM 9 _ (by omega) (by omega) (by omega) (by omega) (by omega) (by omega), rM 10 _ (by omega) (by omega) (by omega) (by omega) (by omega) (by omega), rM 7 _ (by omega) (by omega) (by omega) (by omega) (by omega) (by omega)]
        refine ⟨⟨q0, q1, q2, q3, rfl, rfl⟩, fun k hk => ?_, fun k hk => ?_, fun x hx => ?_, fun k hk => ?_⟩
        · rw [rO _ _ _ (by simp) (by simp), rM 12 _ (by omega) (by omega) (by omega) (by omega) (by omega) (by omega)]; exact bb k hk
        · rw [rR _ _ _ (by simp), rI (2, o, k) 1 (by simp) (by simp) (by simp) (by simp), a13, lr, gRow_c (Y' := Y2) (Y := Y) (fun k' j => rO _ _ _ (by simp) (by simp))]
          exact cc k hk
        · rw [rR _ _ _ (by simp), rI (0, o, x) 0 (by simp) (by simp) (by simp) (by simp), v4' x hx, rM 17 _ (by omega) (by omega) (by omega) (by omega) (by omega) (by omega), or, gRow_c (Y' := Y2) (Y := Y) (fun k' j => rO _ _ _ (by simp) (by simp))]
          exact ⟨(dd x hx).1, (dd x hx).2.1, rfl, (dd x hx).2.2.2⟩
        · rw [rR _ _ _ (by simp), rI (3, o, k) 0 (by simp) (by simp) (by simp) (by simp), rR (3, o, k) _ _ (by simp), rR (3, o, k) _ _ (by simp), rM 22 _ (by omega) (by omega) (by omega) (by omega) (by omega) (by omega), eP, eFl, ee]
          exact ll k hk
      · rw [eL] at hk
        rw [eP]
        exact PPo.2.2.2.1 k hk
      · have v0 : vAns (fA Y xM) o = 0 := by
          rw [w6, if_pos rfl] at z
          split at z
          · assumption
          · exact absurd z (by decide)
        have acc := vAns_acc W v0
        have acc2 : ACC (fA Y2 xM) o := (ACC_res WA2).mp (by rw [res]; exact (ACC_res W).mpr acc)
        refine ⟨acc2, ?_⟩
        have dd := dpo_dep W acc hlp (nF (fA Y xM) o) (fA Y xM 18) (Nat.le_refl _) (fun f' h1 h2 => by omega) (fun k hk => by
          obtain ⟨j1, j2, j3, j4, j5, j6, j7, j8, j9⟩ := W.2.2.2.2.2.2.2.2.2 k hk
          have := (((hPP _ (acc_lt I j3 j4)).2.2.2.2.1 j4).2.1 _ j6).1
          exact ⟨this, j9⟩)
        have e18 : ∀ j, fA Y2 xM 18 j = dpo (fA Y xM) o (nF (fA Y xM) o) (fA Y xM 18) j := fun j => by rw [w7, if_pos v0]
        refine ⟨fun f hf => ?_, fun k hk => ?_⟩
        · rw [eF] at hf
          rw [e18]
          exact ⟨(dd f hf).1, (dd f hf).2.1⟩
        · rw [eW] at hk
          have es : rwS (fA Y2 xM) o k = rwS (fA Y xM) o k := by rw [← rwS_res WA2 (by rw [eW]; exact hk), res, rwS_res W hk]
          obtain ⟨f, hf, ef⟩ := rwS_ok W hk
          have d3 := (dd f hf).2.2 k hk ef
          unfold cD at d3
          rw [es, ef, n_nat (by omega), rM 12 _ (by omega) (by omega) (by omega) (by omega) (by omega) (by omega), e18, e18, e18, eP, eFl]
          refine ⟨fun e => ?_, fun e => ?_⟩
          · rw [if_pos e] at d3
            exact d3 _ rfl
          · rw [if_neg (fun y => by rw [e] at y; exact absurd y (by decide)), if_pos e] at d3
            exact d3 _ rfl
      · have v0 : ¬ vAns (fA Y xM) o = 0 := by
          intro y
          rw [w6, if_pos rfl, if_pos y] at z
          exact z rfl
        rw [w7, if_neg v0]
        exact PPo.2.2.2.2.2.1 no f hf
      · rw [eF] at hf
        obtain ⟨z1, z2, z3, z4⟩ := PPo.2.2.2.2.2.2.1 f hf h88
        refine ⟨?_, z2, z3, fun r hr => by rw [or]; exact z4 r hr⟩
        rw [w7]
        split
        · rw [dpo_o _ _ _ (fun f' h => by omega)]
          exact z1
        · exact z1
      · rw [eL] at hk
        exact PPo.2.2.2.2.2.2.2.1 k hk h88
      · rw [a13] at z
        exact PPo.2.2.2.2.2.2.2.2 k hk z
    refine H Y2 (Inv_open (g' := g) (N' := N) (o := o) I J oP no own0 (fun p hpo => ⟨fun u k hu => rI u k (tP_no hu).1 (tP_no hu).2.2.1 (fun z => hpo (by have := hu.1; rw [z.1] at this; exact this.symm)) (fun z => hpo (hu.1.symm.trans z.2.1)), fun u k j hu => rO u k j (tP_no hu).1 (fun z => by have := hu.2; omega), fun u k j hu => rR u k j (fun z => (tP_no hu).2.1 z.1), rR _ _ _ (by simp)⟩) (fun _ _ _ _ z => z) (fun _ z => z) PPn N2 ((rX 3 (by omega) (by omega) (by omega)).trans m3) ((rI _ _ (by simp) (by simp) (by simp) (by simp)).trans y1) ((rX 4 (by omega) (by omega) (by omega)).trans m4) ((rI _ _ (by simp) (by simp) (by simp) (by simp)).trans y3) (.inl ⟨w3, (w9 _ _ _).trans v8⟩) ⟨fun u k hu => rI u k (fun z => by rw [z] at hu; simp at hu) (fun z => by rw [z] at hu; simp at hu) (fun z => by rw [z.1] at hu; simp at hu) (fun z => by rcases hu with h | h | h <;> (have := z.1; simp [h] at this)), fun k hk => rI _ _ (by simp) (by simp) (by simp) (by simp), fun k h1 h2 => rX k (by omega) (by omega) (by omega), fun u k j hu => rO u k j (fun z => by rw [z] at hu; simp at hu) (fun z => by rcases hu with h | h | h <;> simp [h] at z), fun u k j => .inl (rL u k j), fun j => rR _ _ _ (by simp)⟩ (fun k j hk => rM k j (by omega) (by omega) (by omega) (by omega) (by omega) (by omega))) ⟨by rw [rC]; omega, by rw [rC]; omega⟩
end VE
