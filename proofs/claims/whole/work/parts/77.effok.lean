/-! a step of a READY process is safe, and leaves it within what verify() has proved -/
section EO
variable {A : AF} {q : Nat}
theorem stay (G : ∀ p, p < 24 → A 6 p = 1 → nW A p ≤ 200) (h : SND A q) (eP : efP A q = pP A q) (eC : efC A q = cN A q) (H : efI A q < nW A (pP A q) ∧ rwS A (pP A q) (efI A q) = rwS A (pP A q) (pI A q) ∧ fitR (rwR A (pP A q) (efI A q)) (efF A q)) : ∀ A', MATCH A A' q → SND A' q := by
  rintro A' ⟨m1, m2, m3, m4, m5, m6, m7, m8⟩
  rw [eC] at m4 m7 m8
  rw [eP] at m2
  exact SND_a G h m1 m5 m2 m3 m4 (fun j hj => by rw [m7 j hj, if_neg (by omega)]) (fun j hj => by rw [m8 j hj, if_neg (by omega)]) H.1 H.2.1 (fit_8c H.2.2 (fun r hr => m6 r hr))
theorem SAFE_no (h1 : ¬ (wOp (eW A q) = 7 ∨ wOp (eW A q) = 8)) (h2 : ¬ (wOp (eW A q) = 13 ∨ wOp (eW A q) = 14)) (h3 : ¬ wOp (eW A q) = 18) (h4 : ¬ wOp (eW A q) = 19) (h5 : ¬ wOp (eW A q) = 20) : SAFE A q := ⟨fun z => absurd z h1, fun z => absurd z h2, fun z => absurd z h3, fun z => absurd z h4, fun z => absurd z h5⟩
theorem eff_ok (G : ∀ p, p < 24 → A 6 p = 1 → WA A p ∧ ACC A p ∧ DEP A p) (h : SND A q) (h0 : wOp (eW A q) ≠ 0) : SAFE A q ∧ ∀ A', MATCH A A' q → SND A' q := by
  have G' : ∀ p, p < 24 → A 6 p = 1 → nW A p ≤ 200 := fun p h1 h2 => (G p h1 h2).1.1.2
  obtain ⟨⟨t1, t2, t3, t4, t5⟩, a1, a2, a3, a4, a5, a6, ft⟩ := SND_top h
  obtain ⟨W, AC, D⟩ := G _ t1 t2
  obtain ⟨f, hf, ef⟩ := rwS_ok W t3
  have f8 := W.2.1.2.2
  have z : (wF A (pP A q) (pI A q) (rwR A (pP A q) (pI A q)) (rwS A (pP A q) (pI A q)) (eW A q)).1 = 0 := (AC.2 _ t3).2
  have eF : rwF A (pP A q) (pI A q) = wF A (pP A q) (pI A q) (rwR A (pP A q) (pI A q)) (rwS A (pP A q) (pI A q)) (eW A q) := rfl
  have ok : okW (eW A q) := W.2.2.2.2.1 _ t3
  obtain ⟨o20, d8, aa8, b8, o11⟩ := ok
  have n6 := n_lt6 (eW A q)
  have bm : wB (eW A q) % 8 < 8 := Nat.mod_lt _ (by omega)
  have eP : ¬ wOp (eW A q) = 19 → ¬ wOp (eW A q) = 20 → efP A q = pP A q := fun y1 y2 => by unfold efP; rw [if_neg y1, if_neg y2]
  have eC : ¬ wOp (eW A q) = 18 → ¬ wOp (eW A q) = 19 → ¬ wOp (eW A q) = 20 → efC A q = cN A q := fun y1 y2 y3 => by unfold efC; rw [if_neg (fun y => y.elim y1 y2), if_neg y3]
  have eK : ¬ wOp (eW A q) = 13 → ¬ (2 ≤ wOp (eW A q) ∧ wOp (eW A q) ≤ 12) → efF A q = rg A q := fun y1 y2 => by unfold efF; rw [if_neg y1, if_neg y2]
  have hN : nN A (pP A q) ≤ 4096 := by omega
  by_cases hw : 1 ≤ wOp (eW A q) ∧ wOp (eW A q) ≤ 14
  · have eI : efI A q = pI A q + 1 := by
      unfold efI
      rw [if_neg (by omega), if_neg (by omega), if_neg (by omega), if_neg (by omega), if_neg (by omega), if_neg (by omega)]
    rw [wF_wk hw.1 hw.2] at z eF
    by_cases k : (wk (wOp (eW A q)) (wD (eW A q)) (wA (eW A q)) (wB (eW A q) % 8) (n32 (wN (eW A q))) (wS (eW A q)) (A 7 (pP A q)) (rwR A (pP A q) (pI A q))).1 = 0
    · rw [if_pos k] at z eF
      have nx : nxF A (pP A q) (pI A q) (rwF A (pP A q) (pI A q)).2.1 (rwS A (pP A q) (pI A q)) = 0 := by rw [eF]; exact z
      have go : fitR (wk (wOp (eW A q)) (wD (eW A q)) (wA (eW A q)) (wB (eW A q) % 8) (n32 (wN (eW A q))) (wS (eW A q)) (A 7 (pP A q)) (rwR A (pP A q) (pI A q))).2 (efF A q) → ∀ A', MATCH A A' q → SND A' q := by
        intro hF
        refine stay G' h (eP (by omega) (by omega)) (eC (by omega) (by omega) (by omega)) ?_
        rw [eI]
        exact nx_go ef (by omega) nx (by rw [eF]; exact hF)
      by_cases o2 : 2 ≤ wOp (eW A q) ∧ wOp (eW A q) ≤ 12
      · have wf := wk_fit (F := rg A q) ft aa8 bm n6 o11 o2.1 o2.2 k
        refine ⟨⟨wf.2, fun y => absurd y (by omega), fun y => absurd y (by omega), fun y => absurd y (by omega), fun y => absurd y (by omega)⟩, go ?_⟩
        have e : efF A q = upF (rg A q) (wD (eW A q)) (rv (wOp (eW A q)) (rg A q (wA (eW A q))) (rg A q (wB (eW A q) % 8)) (n32 (wN (eW A q))) (wS (eW A q))) := by
          unfold efF
          rw [if_neg (by omega), if_pos o2]
        rw [e]
        exact wf.1
      · by_cases e1 : wOp (eW A q) = 1
        · refine ⟨SAFE_no (by omega) (by omega) (by omega) (by omega) (by omega), go ?_⟩
          rw [eK (by omega) o2, e1, wk_1]
          exact ft
        · by_cases e3 : wOp (eW A q) = 13
          · rw [e3, wk_13] at k
            obtain ⟨k1, q1⟩ := ite_0 (by decide) k
            rw [q1] at k
            obtain ⟨k2, q2⟩ := ite_1 (by decide) k
            obtain ⟨o, ho, eo⟩ := off_ok ft aa8 k1 W.2.2.2.1.1 hN k2
            refine ⟨⟨fun y => absurd y (by omega), fun _ => ⟨o, by omega, eo⟩, fun y => absurd y (by omega), fun y => absurd y (by omega), fun y => absurd y (by omega)⟩, go ?_⟩
            have e : efF A q = upF (rg A q) (wD (eW A q)) (A 50 (eAd A q)) := by
              unfold efF
              rw [if_pos e3]
            rw [e, e3, wk_13, q1, q2]
            refine fit_set ft (fun _ => ?_)
            show (-2147483648 : Int32) ≤ _ ∧ _ ≤ (2147483647 : Int32)
            have v1 := i_lo (A 50 (eAd A q))
            have v2 := i_hi (A 50 (eAd A q))
            rw [i_le, i_le, show (-2147483648 : Int32).toInt = -2147483648 from by decide, show (2147483647 : Int32).toInt = 2147483647 from by decide]
            omega
          · have e4 : wOp (eW A q) = 14 := by omega
            rw [e4, wk_14] at k
            obtain ⟨k0, q0⟩ := ite_0 (by decide) k
            rw [q0] at k
            obtain ⟨k1, q1⟩ := ite_0 (by decide) k
            rw [q1] at k
            obtain ⟨k2, q2⟩ := ite_1 (by decide) k
            obtain ⟨o, ho, eo⟩ := off_ok ft aa8 k1 W.2.2.2.1.1 hN k2
            refine ⟨⟨fun y => absurd y (by omega), fun _ => ⟨o, by omega, eo⟩, fun y => absurd y (by omega), fun y => absurd y (by omega), fun y => absurd y (by omega)⟩, go ?_⟩
            rw [eK e3 o2, e4, wk_14, q0, q1, q2]
            exact ft
    · rw [if_neg k] at z
      exact absurd z k
  · have hop : wOp (eW A q) = 15 ∨ wOp (eW A q) = 16 ∨ wOp (eW A q) = 17 ∨ wOp (eW A q) = 18 ∨ wOp (eW A q) = 19 ∨ wOp (eW A q) = 20 := by omega
    have eK' := eK (by omega) (by omega)
    rcases hop with e | e | e | e | e | e
    · rw [wF_15 e] at z
      refine ⟨SAFE_no (by omega) (by omega) (by omega) (by omega) (by omega), stay G' h (eP (by omega) (by omega)) (eC (by omega) (by omega) (by omega)) ?_⟩
      have eI : efI A q = wN (eW A q) := by
        unfold efI
        rw [if_pos e]
      rw [eI, eK']
      exact gF_go ef (by omega) z ft
    · rw [wF_16 e] at z eF
      refine ⟨SAFE_no (by omega) (by omega) (by omega) (by omega) (by omega), stay G' h (eP (by omega) (by omega)) (eC (by omega) (by omega) (by omega)) ?_⟩
      rw [eK']
      have eI : efI A q = if rg A q (wD (eW A q)) < rg A q (wA (eW A q)) then wN (eW A q) else pI A q + 1 := by
        unfold efI
        rw [if_neg (by omega), if_pos e]
      rw [eI]
      by_cases c1 : (rwR A (pP A q) (pI A q) (wD (eW A q))).1 = 1 ∧ (rwR A (pP A q) (pI A q) (wA (eW A q))).1 = 1
      · rw [if_pos c1] at z eF
        have g1 := fit_i ft d8 (one_ne c1.1)
        have g2 := fit_i ft aa8 (one_ne c1.2)
        by_cases c2 : wD (eW A q) = wA (eW A q)
        · rw [if_pos c2] at z eF
          rw [if_neg (fun y => by rw [c2, i_lt] at y; omega)]
          exact nx_go ef (by omega) (by rw [eF]; exact z) (by rw [eF]; exact ft)
        · rw [if_neg c2] at z eF
          by_cases c3 : lo (rwR A (pP A q) (pI A q)) (wD (eW A q)) < hi (rwR A (pP A q) (pI A q)) (wA (eW A q)) ∧ ¬ gF A (pP A q) (wN (eW A q)) (lessW (rwR A (pP A q) (pI A q)) (wD (eW A q)) (wA (eW A q))) (rwS A (pP A q) (pI A q)) = 0
          · rw [if_pos c3] at z
            exact absurd z c3.2
          · rw [if_neg c3] at z eF
            by_cases lt : rg A q (wD (eW A q)) < rg A q (wA (eW A q))
            · rw [if_pos lt]
              have lt' := lt
              rw [i_lt] at lt'
              have gz := Classical.byContradiction (fun y => c3 ⟨by rw [j_lt]; omega, y⟩)
              exact gF_go ef (by omega) gz (lessW_fit ft d8 aa8 c1.1 c1.2 lt)
            · rw [if_neg lt]
              have lt' := lt
              rw [i_lt] at lt'
              have c4 : ¬ hi (rwR A (pP A q) (pI A q)) (wD (eW A q)) < lo (rwR A (pP A q) (pI A q)) (wA (eW A q)) := by rw [j_lt]; omega
              rw [if_neg c4] at z eF
              exact nx_go ef (by omega) (by rw [eF]; exact z) (by rw [eF]; exact lessN_fit ft d8 aa8 c1.1 c1.2 lt)
      · rw [if_neg c1] at z
        exact absurd z (show ¬ (2 : Int32) = 0 by decide)
    · rw [wF_17 e] at z eF
      refine ⟨SAFE_no (by omega) (by omega) (by omega) (by omega) (by omega), stay G' h (eP (by omega) (by omega)) (eC (by omega) (by omega) (by omega)) ?_⟩
      rw [eK']
      have eI : efI A q = if rg A q (wD (eW A q)) = rg A q (wA (eW A q)) then wN (eW A q) else pI A q + 1 := by
        unfold efI
        rw [if_neg (by omega), if_neg (by omega), if_pos e]
      rw [eI]
      by_cases c1 : (rwR A (pP A q) (pI A q) (wD (eW A q))).1 = 1 ∧ (rwR A (pP A q) (pI A q) (wA (eW A q))).1 = 1
      · rw [if_pos c1] at z eF
        have g1 := fit_i ft d8 (one_ne c1.1)
        have g2 := fit_i ft aa8 (one_ne c1.2)
        by_cases c3 : ¬ mn (hi (rwR A (pP A q) (pI A q)) (wD (eW A q))) (hi (rwR A (pP A q) (pI A q)) (wA (eW A q))) < mx (lo (rwR A (pP A q) (pI A q)) (wD (eW A q))) (lo (rwR A (pP A q) (pI A q)) (wA (eW A q))) ∧ ¬ gF A (pP A q) (wN (eW A q)) (sameW (rwR A (pP A q) (pI A q)) (wD (eW A q)) (wA (eW A q))) (rwS A (pP A q) (pI A q)) = 0
        · rw [if_pos c3] at z
          exact absurd z c3.2
        · rw [if_neg c3] at z eF
          by_cases eq : rg A q (wD (eW A q)) = rg A q (wA (eW A q))
          · rw [if_pos eq]
            have eq' := eq
            rw [i_eq] at eq'
            have gz := Classical.byContradiction (fun y => c3 ⟨by rw [j_lt, mn_t, mx_t]; omega, y⟩)
            exact gF_go ef (by omega) gz (sameW_fit ft d8 aa8 c1.1 c1.2 eq)
          · rw [if_neg eq]
            have c2 : ¬ wD (eW A q) = wA (eW A q) := fun y => eq (by rw [y])
            rw [if_neg c2] at z eF
            exact nx_go ef (by omega) (by rw [eF]; exact z) (by rw [eF]; exact ft)
      · rw [if_neg c1] at z
        exact absurd z (show ¬ (2 : Int32) = 0 by decide)
    · rw [wF_18 e] at z
      by_cases c1 : nF A (pP A q) ≤ wN (eW A q) ∨ ¬ rwS A (pP A q) (pI A q) < n32 (wN (eW A q))
      · rw [if_pos c1] at z
        exact absurd z (show ¬ (8 : Int32) = 0 by decide)
      · rw [if_neg c1] at z
        have hn : wN (eW A q) < nF A (pP A q) := by
          apply Classical.byContradiction
          intro y
          exact c1 (.inl (by omega))
        have lt : f < wN (eW A q) := by
          have y := Classical.byContradiction (fun y => c1 (.inr y))
          rw [ef, n_lt (by omega) (by omega)] at y
          exact y
        obtain ⟨u1, u2, u3⟩ := cF_ok z
        obtain ⟨v1, v2, v3⟩ := gF_ok u3
        have dp := (D.2 _ t3).1 e
        have d0 := D.1 _ hn
        have e2 := (W.2.2.2.2.2.2.2.2.1 _ hn).2.2 (by omega)
        obtain ⟨s1, s2⟩ := rw_lab u1 (by omega)
        have c40 : cN A q < 40 := by
          have : eW A q = A 12 (200 * pP A q + pI A q) := rfl
          rw [← this] at dp
          omega
        refine ⟨⟨fun y => absurd y (by omega), fun y => absurd y (by omega), fun _ => ⟨hn, c40⟩, fun y => absurd y (by omega), fun y => absurd y (by omega)⟩, ?_⟩
        rintro A' ⟨m1, m2, m3, m4, m5, m6, m7, m8⟩
        have eC : efC A q = cN A q + 1 := by unfold efC; rw [if_pos (.inl e)]
        have eI : efI A q = eN A (8 * pP A q + wN (eW A q)) := by
          unfold efI
          rw [if_neg (by omega), if_neg (by omega), if_neg (by omega), if_pos e]
        rw [eC] at m4 m7 m8
        rw [eP (by omega) (by omega)] at m2
        rw [eI] at m3
        rw [eK'] at m6
        refine SND_b (f2 := wN (eW A q)) G' h m1 m5 m2 m3 c40 m4 m7 m8 t1 t2 e2 (Nat.le_refl _) s1 (by omega) (by omega) dp v1 ?_ ?_ v3 (by rw [s2]; exact fit_8c (meets_fit u2 ft) (fun r hr => m6 r hr))
        · rw [v2, ef]
          exact n_ge0 (by omega)
        · rw [(rw_lab (v2.trans ef) (by omega)).1, ef]
    · rw [wF_19 e] at z
      by_cases c1 : nL A (pP A q) ≤ wN (eW A q)
      · rw [if_pos c1] at z
        exact absurd z (show ¬ (8 : Int32) = 0 by decide)
      · rw [if_neg c1] at z
        have hn : wN (eW A q) < nL A (pP A q) := by omega
        obtain ⟨u1, u2, u3⟩ := cF_ok z
        obtain ⟨v1, v2, v3⟩ := gF_ok u3
        have dp := (D.2 _ t3).2 e
        obtain ⟨l1, l2, l3, l4, l5, l6, l7, l8, l9⟩ := W.2.2.2.2.2.2.2.2.2 _ hn
        obtain ⟨W2, AC2, D2⟩ := G _ l3 l4
        have d0 := D2.1 _ l6
        have f82 := W2.2.1.2.2
        have e2 := (W2.2.2.2.2.2.2.2.2.1 _ l6).2.2 (by omega)
        obtain ⟨s1, s2⟩ := rw_lab u1 (by omega)
        have c40 : cN A q < 40 := by
          have : eW A q = A 12 (200 * pP A q + pI A q) := rfl
          rw [← this] at dp
          omega
        refine ⟨⟨fun y => absurd y (by omega), fun y => absurd y (by omega), fun y => absurd y (by omega), fun _ => ⟨hn, c40⟩, fun y => absurd y (by omega)⟩, ?_⟩
        rintro A' ⟨m1, m2, m3, m4, m5, m6, m7, m8⟩
        have eC : efC A q = cN A q + 1 := by unfold efC; rw [if_pos (.inr e)]
        have eI : efI A q = eN A (8 * lP A (8 * pP A q + wN (eW A q)) + lF A (8 * pP A q + wN (eW A q))) := by
          unfold efI
          rw [if_neg (by omega), if_neg (by omega), if_neg (by omega), if_neg (by omega), if_pos e]
        have eP2 : efP A q = lP A (8 * pP A q + wN (eW A q)) := by unfold efP; rw [if_pos e]
        rw [eC] at m4 m7 m8
        rw [eP2] at m2
        rw [eI] at m3
        rw [eK'] at m6
        refine SND_b (f2 := lF A (8 * pP A q + wN (eW A q))) G' h m1 m5 m2 m3 c40 m4 m7 m8 l3 l4 e2 l8 s1 l5 (by omega) dp v1 ?_ ?_ v3 (by rw [s2]; exact fit_8c (meets_fit u2 ft) (fun r hr => m6 r hr))
        · rw [v2, ef]
          exact n_ge0 (by omega)
        · rw [(rw_lab (v2.trans ef) (by omega)).1, ef]
    · rw [wF_20 e] at z
      by_cases c1 : rwS A (pP A q) (pI A q) = 0
      · rw [if_pos c1] at z
        exact absurd z (show ¬ (11 : Int32) = 0 by decide)
      · rw [if_neg c1] at z
        by_cases c2 : meetsR (rwR A (pP A q) (pI A q)) (oRow A (8 * pP A q + (rwS A (pP A q) (pI A q)).toNatClampNeg))
        · have k1 : 1 ≤ cN A q := by
            apply Classical.byContradiction
            intro y
            have y0 : cN A q = 0 := by omega
            have y1 := h.2.2.2.1
            rw [← y0, plP_c, plI_c] at y1
            exact c1 y1
          have hb := h.2.1 (cN A q - 1) (by omega)
          have hc := h.2.2.1 (cN A q - 1) (by omega)
          have g2 := G' _ hc.1 hc.2.1
          refine ⟨⟨fun y => absurd y (by omega), fun y => absurd y (by omega), fun y => absurd y (by omega), fun y => absurd y (by omega), fun _ => k1⟩, ?_⟩
          rintro A' ⟨m1, m2, m3, m4, m5, m6, m7, m8⟩
          have eC : efC A q = cN A q - 1 := by unfold efC; rw [if_neg (by omega), if_pos e]
          have eI : efI A q = (A 48 (40 * q + (cN A q - 1))).toNatClampNeg := by
            unfold efI
            rw [if_neg (by omega), if_neg (by omega), if_neg (by omega), if_neg (by omega), if_neg (by omega), if_pos e]
          have eP2 : efP A q = (A 47 (40 * q + (cN A q - 1))).toNatClampNeg := by unfold efP; rw [if_neg (by omega), if_pos e]
          rw [eC] at m4 m7 m8
          rw [eP2, hb.1, n_nat (by omega), ← hb.1] at m2
          rw [eI, hb.2, n_nat (by omega), ← hb.2] at m3
          rw [eK'] at m6
          exact SND_c G' h m1 m5 k1 m2 m3 m4 (fun j hj => by rw [m7 j hj, if_neg (by omega)]) (fun j hj => by rw [m8 j hj, if_neg (by omega)]) (fit_8c (meets_fit c2 ft) (fun r hr => m6 r hr))
        · rw [if_neg c2] at z
          exact absurd z (show ¬ (10 : Int32) = 0 by decide)
end EO
