theorem l_164_0 {V : xV} {g : xG} {Y : xW} {l1 : Int32} {l2 : Int32} {Q : Int32 → xW → Prop} (H : ∀ Y1, Y1 = uI Y (10, 0, 0) 2 0 → ((l1 < 0) → L_164_17 V g Y1 l1 l2 Q) ∧ (¬ (l1 < 0) → ((l1 < (fI Y1 (10, 0, 0) 3)) → ((l2 = 0 → vp_in l1 24 ∧ Q (fA Y1 (10, 0, 0) 6 (Int32.toNatClampNeg l1)) Y1) ∧ (l2 = 1 → vp_in l1 24 ∧ Q (fA Y1 (10, 0, 0) 7 (Int32.toNatClampNeg l1)) Y1) ∧ (l2 = 2 → vp_in l1 24 ∧ Q (fA Y1 (10, 0, 0) 8 (Int32.toNatClampNeg l1)) Y1) ∧ (l2 = 3 → vp_in l1 24 ∧ Q (fA Y1 (10, 0, 0) 9 (Int32.toNatClampNeg l1)) Y1) ∧ (l2 = 4 → vp_in l1 24 ∧ Q (fA Y1 (10, 0, 0) 10 (Int32.toNatClampNeg l1)) Y1) ∧ (l2 = 5 → vp_in l1 24 ∧ Q (fA Y1 (10, 0, 0) 11 (Int32.toNatClampNeg l1)) Y1) ∧ (l2 = 6 → vp_in l1 24 ∧ (((fA Y1 (10, 0, 0) 6 (Int32.toNatClampNeg l1)) = 1) → vp_in (8 * l1) 192 ∧ L_164_129 V g Y1 l1 l2 (fA Y1 (10, 0, 0) 18 (Int32.toNatClampNeg (8 * l1))) Q) ∧ (¬ ((fA Y1 (10, 0, 0) 6 (Int32.toNatClampNeg l1)) = 1) → L_164_129 V g Y1 l1 l2 0 Q))) ∧ ((Int32.toInt l2 < 0 ∨ 6 < Int32.toInt l2) → L_125_0 V g Y1  (fun x3 Y2 => Q x3 Y2))) ∧ (¬ (l1 < (fI Y1 (10, 0, 0) 3)) → L_164_17 V g Y1 l1 l2 Q))) : L_164_0 V g Y l1 l2 Q := by
  intro h lv R e0 e1 e2
  refine y_next (pc' := 1) (xst_of (i := (.aload_n 0)) (len := 1) rfl rfl (x_aloadV (xisV_r _) e0)) ?_
  refine y_next (pc' := 2) (xst_of (i := (.iconst 0)) (len := 1) rfl rfl (x_ico (v := 0) (by decide))) ?_
  refine z_pI (t := (10, 0, 0)) (k := 2) rfl rfl rfl rfl rfl R (rc_10 R) (fun h Y1 hY R => ?_)
  replace H := H Y1 hY
  clear hY
  refine y_next (pc' := 6) (xst_of (i := (.iload_n 1)) (len := 1) rfl rfl (x_ilo e1)) ?_
  by_cases hc : l1 < 0
  · replace H := H.1 hc
    refine y_next (xst_of (i := (.ifCond .lt 11)) (len := 3) rfl rfl (xt_if_lt (t := 17) rfl hc)) ?_
    exact H _ _ R e0 e1 e2
  · replace H := H.2 hc
    refine y_next (pc' := 9) (xst_of (i := (.ifCond .lt 11)) (len := 3) rfl rfl (xf_if_lt (t := 17) rfl hc)) ?_
    refine y_next (pc' := 10) (xst_of (i := (.iload_n 1)) (len := 1) rfl rfl (x_ilo e1)) ?_
    refine y_next (pc' := 11) (xst_of (i := (.aload_n 0)) (len := 1) rfl rfl (x_aloadV (xisV_r _) e0)) ?_
    refine z_gI (t := (10, 0, 0)) (k := 3) rfl rfl rfl R (rc_10 R) ?_
    by_cases hc : l1 < (fI Y1 (10, 0, 0) 3)
    · replace H := H.1 hc
      refine y_next (xst_of (i := (.if_icmp .lt 8)) (len := 3) rfl rfl (xt_icmp_lt (t := 22) rfl hc)) ?_
      refine y_next (pc' := 23) (xst_of (i := (.iload_n 2)) (len := 1) rfl rfl (x_ilo e2)) ?_
      by_cases hx : Int32.toInt l2 < 0 ∨ 6 < Int32.toInt l2
      · replace H := H.2 hx
        refine y_next (xst_of (i := (.tableswitch 107 0 6 #[41, 48, 55, 62, 69, 76, 83])) (len := 41) rfl rfl (x_sw_out (t := 130) hx rfl)) ?_
        refine y_next (pc' := 131) (xst_of (i := (.aload_n 0)) (len := 1) rfl rfl (x_aloadV (xisV_r _) e0)) ?_
        refine z_cI (k := 125) (i := (.invokevirtual 292)) (as := [.ref (g.2 (10, 0, 0) 0)]) (rest := []) rfl rfl (x_callv rfl rfl (rc_ob R (rc_10 R) rfl) rfl rfl) (H _ _ R rfl) (fun x3 h Y2 R H => ?_)
        exact y_ret (xst_of (i := .ireturn) (len := 1) rfl rfl rfl) ⟨_, _, rfl, R, H⟩
      · replace H := H.1
        have hy : Int32.toInt l2 = 0 ∨ Int32.toInt l2 = 1 ∨ Int32.toInt l2 = 2 ∨ Int32.toInt l2 = 3 ∨ Int32.toInt l2 = 4 ∨ Int32.toInt l2 = 5 ∨ Int32.toInt l2 = 6 := by omega
        rcases hy with hy | hy | hy | hy | hy | hy | hy
        · replace H := H.1
          have hz : l2 = 0 := Int32.toInt_inj.mp (hy.trans rfl)
          replace H := H hz
          refine y_next (xst_of (i := (.tableswitch 107 0 6 #[41, 48, 55, 62, 69, 76, 83])) (len := 41) rfl rfl (x_sw_in (t := 64) hx (by rw [hy]; rfl) rfl)) ?_
          refine y_next (pc' := 65) (xst_of (i := (.aload_n 0)) (len := 1) rfl rfl (x_aloadV (xisV_r _) e0)) ?_
          refine z_gA (t := (10, 0, 0)) (k := 6) rfl rfl rfl R (rc_10 R) ?_
          refine y_next (pc' := 69) (xst_of (i := (.iload_n 1)) (len := 1) rfl rfl (x_ilo e1)) ?_
          refine z_aI (t := (10, 0, 0)) (k := 6) (n := 24) (i := l1) rfl rfl R (rc_10 R) H.1 ?_
          replace H := H.2
          exact y_ret (xst_of (i := .ireturn) (len := 1) rfl rfl rfl) ⟨_, _, rfl, R, H⟩
        · replace H := H.2.1
          have hz : l2 = 1 := Int32.toInt_inj.mp (hy.trans rfl)
          replace H := H hz
          refine y_next (xst_of (i := (.tableswitch 107 0 6 #[41, 48, 55, 62, 69, 76, 83])) (len := 41) rfl rfl (x_sw_in (t := 71) hx (by rw [hy]; rfl) rfl)) ?_
          refine y_next (pc' := 72) (xst_of (i := (.aload_n 0)) (len := 1) rfl rfl (x_aloadV (xisV_r _) e0)) ?_
          refine z_gA (t := (10, 0, 0)) (k := 7) rfl rfl rfl R (rc_10 R) ?_
          refine y_next (pc' := 76) (xst_of (i := (.iload_n 1)) (len := 1) rfl rfl (x_ilo e1)) ?_
          refine z_aI (t := (10, 0, 0)) (k := 7) (n := 24) (i := l1) rfl rfl R (rc_10 R) H.1 ?_
          replace H := H.2
          exact y_ret (xst_of (i := .ireturn) (len := 1) rfl rfl rfl) ⟨_, _, rfl, R, H⟩
        · replace H := H.2.2.1
          have hz : l2 = 2 := Int32.toInt_inj.mp (hy.trans rfl)
          replace H := H hz
          refine y_next (xst_of (i := (.tableswitch 107 0 6 #[41, 48, 55, 62, 69, 76, 83])) (len := 41) rfl rfl (x_sw_in (t := 78) hx (by rw [hy]; rfl) rfl)) ?_
          refine y_next (pc' := 79) (xst_of (i := (.aload_n 0)) (len := 1) rfl rfl (x_aloadV (xisV_r _) e0)) ?_
          refine z_gA (t := (10, 0, 0)) (k := 8) rfl rfl rfl R (rc_10 R) ?_
          refine y_next (pc' := 83) (xst_of (i := (.iload_n 1)) (len := 1) rfl rfl (x_ilo e1)) ?_
          refine z_aI (t := (10, 0, 0)) (k := 8) (n := 24) (i := l1) rfl rfl R (rc_10 R) H.1 ?_
          replace H := H.2
          exact y_ret (xst_of (i := .ireturn) (len := 1) rfl rfl rfl) ⟨_, _, rfl, R, H⟩
        · replace H := H.2.2.2.1
          have hz : l2 = 3 := Int32.toInt_inj.mp (hy.trans rfl)
          replace H := H hz
          refine y_next (xst_of (i := (.tableswitch 107 0 6 #[41, 48, 55, 62, 69, 76, 83])) (len := 41) rfl rfl (x_sw_in (t := 85) hx (by rw [hy]; rfl) rfl)) ?_
          refine y_next (pc' := 86) (xst_of (i := (.aload_n 0)) (len := 1) rfl rfl (x_aloadV (xisV_r _) e0)) ?_
          refine z_gA (t := (10, 0, 0)) (k := 9) rfl rfl rfl R (rc_10 R) ?_
          refine y_next (pc' := 90) (xst_of (i := (.iload_n 1)) (len := 1) rfl rfl (x_ilo e1)) ?_
          refine z_aI (t := (10, 0, 0)) (k := 9) (n := 24) (i := l1) rfl rfl R (rc_10 R) H.1 ?_
          replace H := H.2
          exact y_ret (xst_of (i := .ireturn) (len := 1) rfl rfl rfl) ⟨_, _, rfl, R, H⟩
        · replace H := H.2.2.2.2.1
          have hz : l2 = 4 := Int32.toInt_inj.mp (hy.trans rfl)
          replace H := H hz
          refine y_next (xst_of (i := (.tableswitch 107 0 6 #[41, 48, 55, 62, 69, 76, 83])) (len := 41) rfl rfl (x_sw_in (t := 92) hx (by rw [hy]; rfl) rfl)) ?_
          refine y_next (pc' := 93) (xst_of (i := (.aload_n 0)) (len := 1) rfl rfl (x_aloadV (xisV_r _) e0)) ?_
          refine z_gA (t := (10, 0, 0)) (k := 10) rfl rfl rfl R (rc_10 R) ?_
          refine y_next (pc' := 97) (xst_of (i := (.iload_n 1)) (len := 1) rfl rfl (x_ilo e1)) ?_
          refine z_aI (t := (10, 0, 0)) (k := 10) (n := 24) (i := l1) rfl rfl R (rc_10 R) H.1 ?_
          replace H := H.2
          exact y_ret (xst_of (i := .ireturn) (len := 1) rfl rfl rfl) ⟨_, _, rfl, R, H⟩
        · replace H := H.2.2.2.2.2.1
          have hz : l2 = 5 := Int32.toInt_inj.mp (hy.trans rfl)
          replace H := H hz
          refine y_next (xst_of (i := (.tableswitch 107 0 6 #[41, 48, 55, 62, 69, 76, 83])) (len := 41) rfl rfl (x_sw_in (t := 99) hx (by rw [hy]; rfl) rfl)) ?_
          refine y_next (pc' := 100) (xst_of (i := (.aload_n 0)) (len := 1) rfl rfl (x_aloadV (xisV_r _) e0)) ?_
          refine z_gA (t := (10, 0, 0)) (k := 11) rfl rfl rfl R (rc_10 R) ?_
          refine y_next (pc' := 104) (xst_of (i := (.iload_n 1)) (len := 1) rfl rfl (x_ilo e1)) ?_
          refine z_aI (t := (10, 0, 0)) (k := 11) (n := 24) (i := l1) rfl rfl R (rc_10 R) H.1 ?_
          replace H := H.2
          exact y_ret (xst_of (i := .ireturn) (len := 1) rfl rfl rfl) ⟨_, _, rfl, R, H⟩
        · replace H := H.2.2.2.2.2.2
          have hz : l2 = 6 := Int32.toInt_inj.mp (hy.trans rfl)
          replace H := H hz
          refine y_next (xst_of (i := (.tableswitch 107 0 6 #[41, 48, 55, 62, 69, 76, 83])) (len := 41) rfl rfl (x_sw_in (t := 106) hx (by rw [hy]; rfl) rfl)) ?_
          refine y_next (pc' := 107) (xst_of (i := (.aload_n 0)) (len := 1) rfl rfl (x_aloadV (xisV_r _) e0)) ?_
          refine z_gA (t := (10, 0, 0)) (k := 6) rfl rfl rfl R (rc_10 R) ?_
          refine y_next (pc' := 111) (xst_of (i := (.iload_n 1)) (len := 1) rfl rfl (x_ilo e1)) ?_
          refine z_aI (t := (10, 0, 0)) (k := 6) (n := 24) (i := l1) rfl rfl R (rc_10 R) H.1 ?_
          replace H := H.2
          refine y_next (pc' := 113) (xst_of (i := (.iconst 1)) (len := 1) rfl rfl (x_ico (v := 1) (by decide))) ?_
          by_cases hc : (fA Y1 (10, 0, 0) 6 (Int32.toNatClampNeg l1)) = 1
          · replace H := H.1 hc
            refine y_next (pc' := 116) (xst_of (i := (.if_icmp .ne 15)) (len := 3) rfl rfl (xf_icmp_ne (t := 128) rfl (fun z => z hc))) ?_
            refine y_next (pc' := 117) (xst_of (i := (.aload_n 0)) (len := 1) rfl rfl (x_aloadV (xisV_r _) e0)) ?_
            refine z_gA (t := (10, 0, 0)) (k := 18) rfl rfl rfl R (rc_10 R) ?_
            refine y_next (pc' := 122) (xst_of (i := (.bipush 8)) (len := 2) rfl rfl (x_bip (v := 8) (by decide))) ?_
            refine y_next (pc' := 123) (xst_of (i := (.iload_n 1)) (len := 1) rfl rfl (x_ilo e1)) ?_
            refine y_next (pc' := 124) (xst_of (i := .imul) (len := 1) rfl rfl rfl) ?_
            refine z_aI (t := (10, 0, 0)) (k := 18) (n := 192) (i := (8 * l1)) rfl rfl R (rc_10 R) H.1 ?_
            replace H := H.2
            refine y_next (pc' := 129) (xst_of (i := (.goto 4)) (len := 3) rfl rfl rfl) ?_
            exact H _ _ R e0 e1 e2
          · replace H := H.2 hc
            refine y_next (xst_of (i := (.if_icmp .ne 15)) (len := 3) rfl rfl (xt_icmp_ne (t := 128) rfl hc)) ?_
            refine y_next (pc' := 129) (xst_of (i := (.iconst 0)) (len := 1) rfl rfl (x_ico (v := 0) (by decide))) ?_
            exact H _ _ R e0 e1 e2
    · replace H := H.2 hc
      refine y_next (pc' := 17) (xst_of (i := (.if_icmp .lt 8)) (len := 3) rfl rfl (xf_icmp_lt (t := 22) rfl hc)) ?_
      exact H _ _ R e0 e1 e2
theorem l_164_17 {V : xV} {g : xG} {Y : xW} {l1 : Int32} {l2 : Int32} {Q : Int32 → xW → Prop} (H : L_125_0 V g Y  (fun x2 Y1 => Q x2 Y1)) : L_164_17 V g Y l1 l2 Q := by
  intro h lv R e0 e1 e2
  refine y_next (pc' := 18) (xst_of (i := (.aload_n 0)) (len := 1) rfl rfl (x_aloadV (xisV_r _) e0)) ?_
  refine z_cI (k := 125) (i := (.invokevirtual 292)) (as := [.ref (g.2 (10, 0, 0) 0)]) (rest := []) rfl rfl (x_callv rfl rfl (rc_ob R (rc_10 R) rfl) rfl rfl) (H _ _ R rfl) (fun x2 h Y1 R H => ?_)
  exact y_ret (xst_of (i := .ireturn) (len := 1) rfl rfl rfl) ⟨_, _, rfl, R, H⟩
theorem l_164_129 {V : xV} {g : xG} {Y : xW} {l1 : Int32} {l2 : Int32} {s0 : Int32} {Q : Int32 → xW → Prop} (H : Q s0 Y) : L_164_129 V g Y l1 l2 s0 Q := by
  intro h lv R e0 e1 e2
  exact y_ret (xst_of (i := .ireturn) (len := 1) rfl rfl rfl) ⟨_, _, rfl, R, H⟩
theorem l_165_0 {V : xV} {g : xG} {Y : xW} {l1 : Int32} {l2 : Int32} {Q : Int32 → xW → Prop} (H : ∀ Y1, Y1 = uI Y (10, 0, 0) 2 0 → ((l1 < 0) → L_165_27 V g Y1 l1 l2 Q) ∧ (¬ (l1 < 0) → (((fI Y1 (10, 0, 0) 3) ≤ l1) → L_165_27 V g Y1 l1 l2 Q) ∧ (¬ ((fI Y1 (10, 0, 0) 3) ≤ l1) → vp_in l1 24 ∧ (((fA Y1 (10, 0, 0) 6 (Int32.toNatClampNeg l1)) = 1) → vp_in l1 24 ∧ (((fA Y1 (10, 0, 0) 7 (Int32.toNatClampNeg l1)) ≤ l2) → L_165_50 V g Y1 l1 l2 (-1) 0 0 Q) ∧ (¬ ((fA Y1 (10, 0, 0) 7 (Int32.toNatClampNeg l1)) ≤ l2) → Q (-2) Y1)) ∧ (¬ ((fA Y1 (10, 0, 0) 6 (Int32.toNatClampNeg l1)) = 1) → L_165_27 V g Y1 l1 l2 Q)))) : L_165_0 V g Y l1 l2 Q := by
  intro h lv R e0 e1 e2
  refine y_next (pc' := 1) (xst_of (i := (.aload_n 0)) (len := 1) rfl rfl (x_aloadV (xisV_r _) e0)) ?_
  refine y_next (pc' := 2) (xst_of (i := (.iconst 0)) (len := 1) rfl rfl (x_ico (v := 0) (by decide))) ?_
  refine z_pI (t := (10, 0, 0)) (k := 2) rfl rfl rfl rfl rfl R (rc_10 R) (fun h Y1 hY R => ?_)
  replace H := H Y1 hY
  clear hY
  refine y_next (pc' := 6) (xst_of (i := (.iload_n 1)) (len := 1) rfl rfl (x_ilo e1)) ?_
  by_cases hc : l1 < 0
  · replace H := H.1 hc
    refine y_next (xst_of (i := (.ifCond .lt 21)) (len := 3) rfl rfl (xt_if_lt (t := 27) rfl hc)) ?_
    exact H _ _ R e0 e1 e2
  · replace H := H.2 hc
    refine y_next (pc' := 9) (xst_of (i := (.ifCond .lt 21)) (len := 3) rfl rfl (xf_if_lt (t := 27) rfl hc)) ?_
    refine y_next (pc' := 10) (xst_of (i := (.iload_n 1)) (len := 1) rfl rfl (x_ilo e1)) ?_
    refine y_next (pc' := 11) (xst_of (i := (.aload_n 0)) (len := 1) rfl rfl (x_aloadV (xisV_r _) e0)) ?_
    refine z_gI (t := (10, 0, 0)) (k := 3) rfl rfl rfl R (rc_10 R) ?_
    by_cases hc : (fI Y1 (10, 0, 0) 3) ≤ l1
    · replace H := H.1 hc
      refine y_next (xst_of (i := (.if_icmp .ge 13)) (len := 3) rfl rfl (xt_icmp_ge (t := 27) rfl hc)) ?_
      exact H _ _ R e0 e1 e2
    · replace H := H.2 hc
      refine y_next (pc' := 17) (xst_of (i := (.if_icmp .ge 13)) (len := 3) rfl rfl (xf_icmp_ge (t := 27) rfl hc)) ?_
      refine y_next (pc' := 18) (xst_of (i := (.aload_n 0)) (len := 1) rfl rfl (x_aloadV (xisV_r _) e0)) ?_
      refine z_gA (t := (10, 0, 0)) (k := 6) rfl rfl rfl R (rc_10 R) ?_
      refine y_next (pc' := 22) (xst_of (i := (.iload_n 1)) (len := 1) rfl rfl (x_ilo e1)) ?_
      refine z_aI (t := (10, 0, 0)) (k := 6) (n := 24) (i := l1) rfl rfl R (rc_10 R) H.1 ?_
      replace H := H.2
      refine y_next (pc' := 24) (xst_of (i := (.iconst 1)) (len := 1) rfl rfl (x_ico (v := 1) (by decide))) ?_
      by_cases hc : (fA Y1 (10, 0, 0) 6 (Int32.toNatClampNeg l1)) = 1
      · replace H := H.1 hc
        refine y_next (xst_of (i := (.if_icmp .eq 5)) (len := 3) rfl rfl (xt_icmp_eq (t := 29) rfl hc)) ?_
        refine y_next (pc' := 30) (xst_of (i := (.iload_n 2)) (len := 1) rfl rfl (x_ilo e2)) ?_
        refine y_next (pc' := 31) (xst_of (i := (.aload_n 0)) (len := 1) rfl rfl (x_aloadV (xisV_r _) e0)) ?_
        refine z_gA (t := (10, 0, 0)) (k := 7) rfl rfl rfl R (rc_10 R) ?_
        refine y_next (pc' := 35) (xst_of (i := (.iload_n 1)) (len := 1) rfl rfl (x_ilo e1)) ?_
        refine z_aI (t := (10, 0, 0)) (k := 7) (n := 24) (i := l1) rfl rfl R (rc_10 R) H.1 ?_
        replace H := H.2
        by_cases hc : (fA Y1 (10, 0, 0) 7 (Int32.toNatClampNeg l1)) ≤ l2
        · replace H := H.1 hc
          refine y_next (xst_of (i := (.if_icmp .ge 6)) (len := 3) rfl rfl (xt_icmp_ge (t := 42) rfl hc)) ?_
          refine y_next (pc' := 43) (xst_of (i := (.iconst (-1))) (len := 1) rfl rfl (x_ico (v := (-1)) (by decide))) ?_
          refine z_is (i := (.istore_n 3)) (len := 1) (pc' := 44) (q := 3) rfl rfl rfl (by decide) (fun lv1 hlv => ?_)
          have e0 := xs1_A hlv e0 rfl rfl
          have e1 := xs1_A hlv e1 rfl rfl
          have e2 := xs1_B hlv e2 rfl rfl
          have e3 := xs1_N hlv
          clear hlv
          refine y_next (pc' := 45) (xst_of (i := (.iconst 0)) (len := 1) rfl rfl (x_ico (v := 0) (by decide))) ?_
          refine z_is (i := (.istore 4)) (len := 2) (pc' := 47) (q := 4) rfl rfl rfl (by decide) (fun lv2 hlv => ?_)
          have e0 := xs1_A hlv e0 rfl rfl
          have e1 := xs1_A hlv e1 rfl rfl
          have e2 := xs1_A hlv e2 rfl rfl
          have e3 := xs1_B hlv e3 rfl rfl
          have e4 := xs1_N hlv
          clear hlv
          refine y_next (pc' := 48) (xst_of (i := (.iconst 0)) (len := 1) rfl rfl (x_ico (v := 0) (by decide))) ?_
          refine z_is (i := (.istore 5)) (len := 2) (pc' := 50) (q := 5) rfl rfl rfl (by decide) (fun lv3 hlv => ?_)
          have e0 := xs1_A hlv e0 rfl rfl
          have e1 := xs1_A hlv e1 rfl rfl
          have e2 := xs1_A hlv e2 rfl rfl
          have e3 := xs1_A hlv e3 rfl rfl
          have e4 := xs1_B hlv e4 rfl rfl
          have e5 := xs1_N hlv
          clear hlv
          exact H _ _ R e0 e1 e2 e3 e4 e5
        · replace H := H.2 hc
          refine y_next (pc' := 39) (xst_of (i := (.if_icmp .ge 6)) (len := 3) rfl rfl (xf_icmp_ge (t := 42) rfl hc)) ?_
          refine y_next (pc' := 41) (xst_of (i := (.bipush (-2))) (len := 2) rfl rfl (x_bip (v := (-2)) (by decide))) ?_
          exact y_ret (xst_of (i := .ireturn) (len := 1) rfl rfl rfl) ⟨_, _, rfl, R, H⟩
      · replace H := H.2 hc
        refine y_next (pc' := 27) (xst_of (i := (.if_icmp .eq 5)) (len := 3) rfl rfl (xf_icmp_eq (t := 29) rfl hc)) ?_
        exact H _ _ R e0 e1 e2
theorem l_165_27 {V : xV} {g : xG} {Y : xW} {l1 : Int32} {l2 : Int32} {Q : Int32 → xW → Prop} (H : Q (-1) Y) : L_165_27 V g Y l1 l2 Q := by
  intro h lv R e0 e1 e2
  refine y_next (pc' := 28) (xst_of (i := (.iconst (-1))) (len := 1) rfl rfl (x_ico (v := (-1)) (by decide))) ?_
  exact y_ret (xst_of (i := .ireturn) (len := 1) rfl rfl rfl) ⟨_, _, rfl, R, H⟩
theorem l_165_50 {V : xV} {g : xG} {Y : xW} {l1 : Int32} {l2 : Int32} {l3 : Int32} {l4 : Int32} {l5 : Int32} {Q : Int32 → xW → Prop} (H : ((4096 ≤ l5) → L_165_101 V g Y l1 l2 l3 l4 l5 Q) ∧ (¬ (4096 ≤ l5) → ((0 ≤ l3) → L_165_101 V g Y l1 l2 l3 l4 l5 Q) ∧ (¬ (0 ≤ l3) → vp_in l5 4096 ∧ (((fA Y (10, 0, 0) 51 (Int32.toNatClampNeg l5)) = 0) → L_165_80 V g Y l1 l2 l3 l4 l5 (l4 + 1) Q) ∧ (¬ ((fA Y (10, 0, 0) 51 (Int32.toNatClampNeg l5)) = 0) → L_165_80 V g Y l1 l2 l3 l4 l5 0 Q)))) : L_165_50 V g Y l1 l2 l3 l4 l5 Q := by
  intro h lv R e0 e1 e2 e3 e4 e5
  refine y_next (pc' := 52) (xst_of (i := (.iload 5)) (len := 2) rfl rfl (x_ilo e5)) ?_
  refine y_next (pc' := 55) (xst_of (i := (.sipush 4096)) (len := 3) rfl rfl (x_sip (v := 4096) (by decide))) ?_
  by_cases hc : 4096 ≤ l5
  · replace H := H.1 hc
    refine y_next (xst_of (i := (.if_icmp .ge 46)) (len := 3) rfl rfl (xt_icmp_ge (t := 101) rfl hc)) ?_
    exact H _ _ R e0 e1 e2 e3 e4 e5
  · replace H := H.2 hc
    refine y_next (pc' := 58) (xst_of (i := (.if_icmp .ge 46)) (len := 3) rfl rfl (xf_icmp_ge (t := 101) rfl hc)) ?_
    refine y_next (pc' := 59) (xst_of (i := (.iload_n 3)) (len := 1) rfl rfl (x_ilo e3)) ?_
    by_cases hc : 0 ≤ l3
    · replace H := H.1 hc
      refine y_next (xst_of (i := (.ifCond .ge 42)) (len := 3) rfl rfl (xt_if_ge (t := 101) rfl hc)) ?_
      exact H _ _ R e0 e1 e2 e3 e4 e5
    · replace H := H.2 hc
      refine y_next (pc' := 62) (xst_of (i := (.ifCond .ge 42)) (len := 3) rfl rfl (xf_if_ge (t := 101) rfl hc)) ?_
      refine y_next (pc' := 63) (xst_of (i := (.aload_n 0)) (len := 1) rfl rfl (x_aloadV (xisV_r _) e0)) ?_
      refine z_gA (t := (10, 0, 0)) (k := 51) rfl rfl rfl R (rc_10 R) ?_
      refine y_next (pc' := 68) (xst_of (i := (.iload 5)) (len := 2) rfl rfl (x_ilo e5)) ?_
      refine z_aZ (t := (10, 0, 0)) (k := 51) (n := 4096) (i := l5) rfl rfl R (rc_10 R) H.1 ?_
      replace H := H.2
      by_cases hc : (fA Y (10, 0, 0) 51 (Int32.toNatClampNeg l5)) = 0
      · replace H := H.1 hc
        refine y_next (xst_of (i := (.ifCond .eq 7)) (len := 3) rfl rfl (xt_if_eq (t := 76) rfl hc)) ?_
        refine y_next (pc' := 78) (xst_of (i := (.iload 4)) (len := 2) rfl rfl (x_ilo e4)) ?_
        refine y_next (pc' := 79) (xst_of (i := (.iconst 1)) (len := 1) rfl rfl (x_ico (v := 1) (by decide))) ?_
        refine y_next (pc' := 80) (xst_of (i := .iadd) (len := 1) rfl rfl rfl) ?_
        exact H _ _ R e0 e1 e2 e3 e4 e5
      · replace H := H.2 hc
        refine y_next (pc' := 72) (xst_of (i := (.ifCond .eq 7)) (len := 3) rfl rfl (xf_if_eq (t := 76) rfl hc)) ?_
        refine y_next (pc' := 73) (xst_of (i := (.iconst 0)) (len := 1) rfl rfl (x_ico (v := 0) (by decide))) ?_
        refine y_next (pc' := 80) (xst_of (i := (.goto 7)) (len := 3) rfl rfl rfl) ?_
        exact H _ _ R e0 e1 e2 e3 e4 e5
theorem l_165_80 {V : xV} {g : xG} {Y : xW} {l1 : Int32} {l2 : Int32} {l3 : Int32} {l4 : Int32} {l5 : Int32} {s0 : Int32} {Q : Int32 → xW → Prop} (H : ((s0 = l2) → L_165_95 V g Y l1 l2 ((l5 - l2) + 1) s0 l5 Q) ∧ (¬ (s0 = l2) → L_165_95 V g Y l1 l2 l3 s0 l5 Q)) : L_165_80 V g Y l1 l2 l3 l4 l5 s0 Q := by
  intro h lv R e0 e1 e2 e3 e4 e5
  refine z_is (i := (.istore 4)) (len := 2) (pc' := 82) (q := 4) rfl rfl rfl (by decide) (fun lv1 hlv => ?_)
  have e0 := xs1_A hlv e0 rfl rfl
  have e1 := xs1_A hlv e1 rfl rfl
  have e2 := xs1_A hlv e2 rfl rfl
  have e3 := xs1_B hlv e3 rfl rfl
  have e5 := xs1_A hlv e5 rfl rfl
  have e4 := xs1_N hlv
  clear hlv
  refine y_next (pc' := 84) (xst_of (i := (.iload 4)) (len := 2) rfl rfl (x_ilo e4)) ?_
  refine y_next (pc' := 85) (xst_of (i := (.iload_n 2)) (len := 1) rfl rfl (x_ilo e2)) ?_
  by_cases hc : s0 = l2
  · replace H := H.1 hc
    refine y_next (pc' := 88) (xst_of (i := (.if_icmp .ne 10)) (len := 3) rfl rfl (xf_icmp_ne (t := 95) rfl (fun z => z hc))) ?_
    refine y_next (pc' := 90) (xst_of (i := (.iload 5)) (len := 2) rfl rfl (x_ilo e5)) ?_
    refine y_next (pc' := 91) (xst_of (i := (.iload_n 2)) (len := 1) rfl rfl (x_ilo e2)) ?_
    refine y_next (pc' := 92) (xst_of (i := .isub) (len := 1) rfl rfl rfl) ?_
    refine y_next (pc' := 93) (xst_of (i := (.iconst 1)) (len := 1) rfl rfl (x_ico (v := 1) (by decide))) ?_
    refine y_next (pc' := 94) (xst_of (i := .iadd) (len := 1) rfl rfl rfl) ?_
    refine z_is (i := (.istore_n 3)) (len := 1) (pc' := 95) (q := 3) rfl rfl rfl (by decide) (fun lv2 hlv => ?_)
    have e0 := xs1_A hlv e0 rfl rfl
    have e1 := xs1_A hlv e1 rfl rfl
    have e2 := xs1_B hlv e2 rfl rfl
    have e4 := xs1_A hlv e4 rfl rfl
    have e5 := xs1_A hlv e5 rfl rfl
    have e3 := xs1_N hlv
    clear hlv
    exact H _ _ R e0 e1 e2 e3 e4 e5
  · replace H := H.2 hc
    refine y_next (xst_of (i := (.if_icmp .ne 10)) (len := 3) rfl rfl (xt_icmp_ne (t := 95) rfl hc)) ?_
    exact H _ _ R e0 e1 e2 e3 e4 e5
theorem l_165_95 {V : xV} {g : xG} {Y : xW} {l1 : Int32} {l2 : Int32} {l3 : Int32} {l4 : Int32} {l5 : Int32} {Q : Int32 → xW → Prop} (H : L_165_50 V g Y l1 l2 l3 l4 (l5 + 1) Q) : L_165_95 V g Y l1 l2 l3 l4 l5 Q := by
  intro h lv R e0 e1 e2 e3 e4 e5
  refine z_in (q := 5) (n := 1) (v := 1) rfl e5 (by decide) (by decide) (fun lv1 hlv => ?_)
  have e0 := xs1_A hlv e0 rfl rfl
  have e1 := xs1_A hlv e1 rfl rfl
  have e2 := xs1_A hlv e2 rfl rfl
  have e3 := xs1_A hlv e3 rfl rfl
  have e4 := xs1_B hlv e4 rfl rfl
  have e5 := xs1_N hlv
  clear hlv
  refine y_next (pc' := 50) (xst_of (i := (.goto (-48))) (len := 3) rfl rfl rfl) ?_
  exact H _ _ R e0 e1 e2 e3 e4 e5
theorem l_165_101 {V : xV} {g : xG} {Y : xW} {l1 : Int32} {l2 : Int32} {l3 : Int32} {l4 : Int32} {l5 : Int32} {Q : Int32 → xW → Prop} (H : ((0 ≤ l3) → (((fI Y (10, 0, 0) 32) = 40) → L_165_127 V g Y l1 l2 l3 l4 l5 Q) ∧ (¬ ((fI Y (10, 0, 0) 32) = 40) → (((fI Y (10, 0, 0) 31) = 300) → L_165_127 V g Y l1 l2 l3 l4 l5 Q) ∧ (¬ ((fI Y (10, 0, 0) 31) = 300) → L_165_133 V g Y l1 l2 l3 l4 l3 Q))) ∧ (¬ (0 ≤ l3) → Q (-3) Y)) : L_165_101 V g Y l1 l2 l3 l4 l5 Q := by
  intro h lv R e0 e1 e2 e3 e4 e5
  refine y_next (pc' := 102) (xst_of (i := (.iload_n 3)) (len := 1) rfl rfl (x_ilo e3)) ?_
  by_cases hc : 0 ≤ l3
  · replace H := H.1 hc
    refine y_next (xst_of (i := (.ifCond .ge 6)) (len := 3) rfl rfl (xt_if_ge (t := 108) rfl hc)) ?_
    refine y_next (pc' := 109) (xst_of (i := (.aload_n 0)) (len := 1) rfl rfl (x_aloadV (xisV_r _) e0)) ?_
    refine z_gI (t := (10, 0, 0)) (k := 32) rfl rfl rfl R (rc_10 R) ?_
    refine y_next (pc' := 114) (xst_of (i := (.bipush 40)) (len := 2) rfl rfl (x_bip (v := 40) (by decide))) ?_
    by_cases hc : (fI Y (10, 0, 0) 32) = 40
    · replace H := H.1 hc
      refine y_next (xst_of (i := (.if_icmp .eq 13)) (len := 3) rfl rfl (xt_icmp_eq (t := 127) rfl hc)) ?_
      exact H _ _ R e0 e1 e2 e3 e4 e5
    · replace H := H.2 hc
      refine y_next (pc' := 117) (xst_of (i := (.if_icmp .eq 13)) (len := 3) rfl rfl (xf_icmp_eq (t := 127) rfl hc)) ?_
      refine y_next (pc' := 118) (xst_of (i := (.aload_n 0)) (len := 1) rfl rfl (x_aloadV (xisV_r _) e0)) ?_
      refine z_gI (t := (10, 0, 0)) (k := 31) rfl rfl rfl R (rc_10 R) ?_
      refine y_next (pc' := 124) (xst_of (i := (.sipush 300)) (len := 3) rfl rfl (x_sip (v := 300) (by decide))) ?_
      by_cases hc : (fI Y (10, 0, 0) 31) = 300
      · replace H := H.1 hc
        refine y_next (pc' := 127) (xst_of (i := (.if_icmp .ne 6)) (len := 3) rfl rfl (xf_icmp_ne (t := 130) rfl (fun z => z hc))) ?_
        exact H _ _ R e0 e1 e2 e3 e4 e5
      · replace H := H.2 hc
        refine y_next (xst_of (i := (.if_icmp .ne 6)) (len := 3) rfl rfl (xt_icmp_ne (t := 130) rfl hc)) ?_
        refine y_next (pc' := 131) (xst_of (i := (.iload_n 3)) (len := 1) rfl rfl (x_ilo e3)) ?_
        refine z_is (i := (.istore 5)) (len := 2) (pc' := 133) (q := 5) rfl rfl rfl (by decide) (fun lv1 hlv => ?_)
        have e0 := xs1_A hlv e0 rfl rfl
        have e1 := xs1_A hlv e1 rfl rfl
        have e2 := xs1_A hlv e2 rfl rfl
        have e3 := xs1_A hlv e3 rfl rfl
        have e4 := xs1_B hlv e4 rfl rfl
        have e5 := xs1_N hlv
        clear hlv
        exact H _ _ R e0 e1 e2 e3 e4 e5
  · replace H := H.2 hc
    refine y_next (pc' := 105) (xst_of (i := (.ifCond .ge 6)) (len := 3) rfl rfl (xf_if_ge (t := 108) rfl hc)) ?_
    refine y_next (pc' := 107) (xst_of (i := (.bipush (-3))) (len := 2) rfl rfl (x_bip (v := (-3)) (by decide))) ?_
    exact y_ret (xst_of (i := .ireturn) (len := 1) rfl rfl rfl) ⟨_, _, rfl, R, H⟩
theorem l_165_127 {V : xV} {g : xG} {Y : xW} {l1 : Int32} {l2 : Int32} {l3 : Int32} {l4 : Int32} {l5 : Int32} {Q : Int32 → xW → Prop} (H : Q (-4) Y) : L_165_127 V g Y l1 l2 l3 l4 l5 Q := by
  intro h lv R e0 e1 e2 e3 e4 e5
  refine y_next (pc' := 129) (xst_of (i := (.bipush (-4))) (len := 2) rfl rfl (x_bip (v := (-4)) (by decide))) ?_
  exact y_ret (xst_of (i := .ireturn) (len := 1) rfl rfl rfl) ⟨_, _, rfl, R, H⟩
theorem l_165_133 {V : xV} {g : xG} {Y : xW} {l1 : Int32} {l2 : Int32} {l3 : Int32} {l4 : Int32} {l5 : Int32} {Q : Int32 → xW → Prop} (H : (((l3 + l2) ≤ l5) → vp_in (fI Y (10, 0, 0) 31) 300 ∧ ∀ Y1, Y1 = uA Y (10, 0, 0) 37 (Int32.toNatClampNeg (fI Y (10, 0, 0) 31)) l1 → vp_in (fI Y1 (10, 0, 0) 31) 300 ∧ ∀ Y2, Y2 = uA Y1 (10, 0, 0) 38 (Int32.toNatClampNeg (fI Y1 (10, 0, 0) 31)) l1 → vp_in (fI Y2 (10, 0, 0) 31) 300 ∧ ∀ Y3, Y3 = uA Y2 (10, 0, 0) 42 (Int32.toNatClampNeg (fI Y2 (10, 0, 0) 31)) l3 → vp_in (fI Y3 (10, 0, 0) 31) 300 ∧ ∀ Y4, Y4 = uA Y3 (10, 0, 0) 43 (Int32.toNatClampNeg (fI Y3 (10, 0, 0) 31)) l2 → vp_in (fI Y4 (10, 0, 0) 32) 40 ∧ ∀ Y5, Y5 = uA Y4 (10, 0, 0) 49 (Int32.toNatClampNeg (fI Y4 (10, 0, 0) 32)) (fI Y4 (10, 0, 0) 31) → ∀ Y6, Y6 = uI Y5 (10, 0, 0) 32 ((fI Y5 (10, 0, 0) 32) + 1) → ∀ Y7, Y7 = uI Y6 (10, 0, 0) 31 ((fI Y6 (10, 0, 0) 31) + 1) → Q ((fI Y7 (10, 0, 0) 31) - 1) Y7) ∧ (¬ ((l3 + l2) ≤ l5) → vp_in l5 4096 ∧ ∀ Y8, Y8 = uA Y (10, 0, 0) 51 (Int32.toNatClampNeg l5) (vp_nar .boolean 1) → vp_in l5 4096 ∧ ∀ Y9, Y9 = uA Y8 (10, 0, 0) 50 (Int32.toNatClampNeg l5) 0 → L_165_133 V g Y9 l1 l2 l3 l4 (l5 + 1) Q)) : L_165_133 V g Y l1 l2 l3 l4 l5 Q := by
  intro h lv R e0 e1 e2 e3 e4 e5
  refine y_next (pc' := 135) (xst_of (i := (.iload 5)) (len := 2) rfl rfl (x_ilo e5)) ?_
  refine y_next (pc' := 136) (xst_of (i := (.iload_n 3)) (len := 1) rfl rfl (x_ilo e3)) ?_
  refine y_next (pc' := 137) (xst_of (i := (.iload_n 2)) (len := 1) rfl rfl (x_ilo e2)) ?_
  refine y_next (pc' := 138) (xst_of (i := .iadd) (len := 1) rfl rfl rfl) ?_
  by_cases hc : (l3 + l2) ≤ l5
  · replace H := H.1 hc
    refine y_next (xst_of (i := (.if_icmp .ge 25)) (len := 3) rfl rfl (xt_icmp_ge (t := 163) rfl hc)) ?_
    refine y_next (pc' := 164) (xst_of (i := (.aload_n 0)) (len := 1) rfl rfl (x_aloadV (xisV_r _) e0)) ?_
    refine z_gA (t := (10, 0, 0)) (k := 37) rfl rfl rfl R (rc_10 R) ?_
    refine y_next (pc' := 168) (xst_of (i := (.aload_n 0)) (len := 1) rfl rfl (x_aloadV (xisV_r _) e0)) ?_
    refine z_gI (t := (10, 0, 0)) (k := 31) rfl rfl rfl R (rc_10 R) ?_
    refine y_next (pc' := 172) (xst_of (i := (.iload_n 1)) (len := 1) rfl rfl (x_ilo e1)) ?_
    refine z_sI (t := (10, 0, 0)) (k := 37) (n := 300) (i := (fI Y (10, 0, 0) 31)) rfl rfl R (rc_10 R) H.1 (fun h Y1 hY R => ?_)
    replace H := H.2 Y1 hY
    clear hY
    refine y_next (pc' := 174) (xst_of (i := (.aload_n 0)) (len := 1) rfl rfl (x_aloadV (xisV_r _) e0)) ?_
    refine z_gA (t := (10, 0, 0)) (k := 38) rfl rfl rfl R (rc_10 R) ?_
    refine y_next (pc' := 178) (xst_of (i := (.aload_n 0)) (len := 1) rfl rfl (x_aloadV (xisV_r _) e0)) ?_
    refine z_gI (t := (10, 0, 0)) (k := 31) rfl rfl rfl R (rc_10 R) ?_
    refine y_next (pc' := 182) (xst_of (i := (.iload_n 1)) (len := 1) rfl rfl (x_ilo e1)) ?_
    refine z_sI (t := (10, 0, 0)) (k := 38) (n := 300) (i := (fI Y1 (10, 0, 0) 31)) rfl rfl R (rc_10 R) H.1 (fun h Y2 hY R => ?_)
    replace H := H.2 Y2 hY
    clear hY
    refine y_next (pc' := 184) (xst_of (i := (.aload_n 0)) (len := 1) rfl rfl (x_aloadV (xisV_r _) e0)) ?_
    refine z_gA (t := (10, 0, 0)) (k := 42) rfl rfl rfl R (rc_10 R) ?_
    refine y_next (pc' := 188) (xst_of (i := (.aload_n 0)) (len := 1) rfl rfl (x_aloadV (xisV_r _) e0)) ?_
    refine z_gI (t := (10, 0, 0)) (k := 31) rfl rfl rfl R (rc_10 R) ?_
    refine y_next (pc' := 192) (xst_of (i := (.iload_n 3)) (len := 1) rfl rfl (x_ilo e3)) ?_
    refine z_sI (t := (10, 0, 0)) (k := 42) (n := 300) (i := (fI Y2 (10, 0, 0) 31)) rfl rfl R (rc_10 R) H.1 (fun h Y3 hY R => ?_)
    replace H := H.2 Y3 hY
    clear hY
    refine y_next (pc' := 194) (xst_of (i := (.aload_n 0)) (len := 1) rfl rfl (x_aloadV (xisV_r _) e0)) ?_
    refine z_gA (t := (10, 0, 0)) (k := 43) rfl rfl rfl R (rc_10 R) ?_
    refine y_next (pc' := 198) (xst_of (i := (.aload_n 0)) (len := 1) rfl rfl (x_aloadV (xisV_r _) e0)) ?_
    refine z_gI (t := (10, 0, 0)) (k := 31) rfl rfl rfl R (rc_10 R) ?_
    refine y_next (pc' := 202) (xst_of (i := (.iload_n 2)) (len := 1) rfl rfl (x_ilo e2)) ?_
    refine z_sI (t := (10, 0, 0)) (k := 43) (n := 300) (i := (fI Y3 (10, 0, 0) 31)) rfl rfl R (rc_10 R) H.1 (fun h Y4 hY R => ?_)
    replace H := H.2 Y4 hY
    clear hY
    refine y_next (pc' := 204) (xst_of (i := (.aload_n 0)) (len := 1) rfl rfl (x_aloadV (xisV_r _) e0)) ?_
    refine z_gA (t := (10, 0, 0)) (k := 49) rfl rfl rfl R (rc_10 R) ?_
    refine y_next (pc' := 208) (xst_of (i := (.aload_n 0)) (len := 1) rfl rfl (x_aloadV (xisV_r _) e0)) ?_
    refine z_gI (t := (10, 0, 0)) (k := 32) rfl rfl rfl R (rc_10 R) ?_
    refine y_next (pc' := 212) (xst_of (i := (.aload_n 0)) (len := 1) rfl rfl (x_aloadV (xisV_r _) e0)) ?_
    refine z_gI (t := (10, 0, 0)) (k := 31) rfl rfl rfl R (rc_10 R) ?_
    refine z_sI (t := (10, 0, 0)) (k := 49) (n := 40) (i := (fI Y4 (10, 0, 0) 32)) rfl rfl R (rc_10 R) H.1 (fun h Y5 hY R => ?_)
    replace H := H.2 Y5 hY
    clear hY
    refine y_next (pc' := 217) (xst_of (i := (.aload_n 0)) (len := 1) rfl rfl (x_aloadV (xisV_r _) e0)) ?_
    refine y_next (pc' := 218) (xst_of (i := .dup) (len := 1) rfl rfl (x_dup rfl)) ?_
    refine z_gI (t := (10, 0, 0)) (k := 32) rfl rfl rfl R (rc_10 R) ?_
    refine y_next (pc' := 222) (xst_of (i := (.iconst 1)) (len := 1) rfl rfl (x_ico (v := 1) (by decide))) ?_
    refine y_next (pc' := 223) (xst_of (i := .iadd) (len := 1) rfl rfl rfl) ?_
    refine z_pI (t := (10, 0, 0)) (k := 32) rfl rfl rfl rfl rfl R (rc_10 R) (fun h Y6 hY R => ?_)
    replace H := H Y6 hY
    clear hY
    refine y_next (pc' := 227) (xst_of (i := (.aload_n 0)) (len := 1) rfl rfl (x_aloadV (xisV_r _) e0)) ?_
    refine y_next (pc' := 228) (xst_of (i := .dup) (len := 1) rfl rfl (x_dup rfl)) ?_
    refine z_gI (t := (10, 0, 0)) (k := 31) rfl rfl rfl R (rc_10 R) ?_
    refine y_next (pc' := 232) (xst_of (i := (.iconst 1)) (len := 1) rfl rfl (x_ico (v := 1) (by decide))) ?_
    refine y_next (pc' := 233) (xst_of (i := .iadd) (len := 1) rfl rfl rfl) ?_
    refine z_pI (t := (10, 0, 0)) (k := 31) rfl rfl rfl rfl rfl R (rc_10 R) (fun h Y7 hY R => ?_)
    replace H := H Y7 hY
    clear hY
    refine y_next (pc' := 237) (xst_of (i := (.aload_n 0)) (len := 1) rfl rfl (x_aloadV (xisV_r _) e0)) ?_
    refine z_gI (t := (10, 0, 0)) (k := 31) rfl rfl rfl R (rc_10 R) ?_
    refine y_next (pc' := 241) (xst_of (i := (.iconst 1)) (len := 1) rfl rfl (x_ico (v := 1) (by decide))) ?_
    refine y_next (pc' := 242) (xst_of (i := .isub) (len := 1) rfl rfl rfl) ?_
    exact y_ret (xst_of (i := .ireturn) (len := 1) rfl rfl rfl) ⟨_, _, rfl, R, H⟩
  · replace H := H.2 hc
    refine y_next (pc' := 141) (xst_of (i := (.if_icmp .ge 25)) (len := 3) rfl rfl (xf_icmp_ge (t := 163) rfl hc)) ?_
    refine y_next (pc' := 142) (xst_of (i := (.aload_n 0)) (len := 1) rfl rfl (x_aloadV (xisV_r _) e0)) ?_
    refine z_gA (t := (10, 0, 0)) (k := 51) rfl rfl rfl R (rc_10 R) ?_
    refine y_next (pc' := 147) (xst_of (i := (.iload 5)) (len := 2) rfl rfl (x_ilo e5)) ?_
    refine y_next (pc' := 148) (xst_of (i := (.iconst 1)) (len := 1) rfl rfl (x_ico (v := 1) (by decide))) ?_
    refine z_sZ (t := (10, 0, 0)) (k := 51) (n := 4096) (i := l5) rfl rfl R (rc_10 R) H.1 (fun h Y8 hY R => ?_)
    replace H := H.2 Y8 hY
    clear hY
    refine y_next (pc' := 150) (xst_of (i := (.aload_n 0)) (len := 1) rfl rfl (x_aloadV (xisV_r _) e0)) ?_
    refine z_gA (t := (10, 0, 0)) (k := 50) rfl rfl rfl R (rc_10 R) ?_
    refine y_next (pc' := 155) (xst_of (i := (.iload 5)) (len := 2) rfl rfl (x_ilo e5)) ?_
    refine y_next (pc' := 156) (xst_of (i := (.iconst 0)) (len := 1) rfl rfl (x_ico (v := 0) (by decide))) ?_
    refine z_sI (t := (10, 0, 0)) (k := 50) (n := 4096) (i := l5) rfl rfl R (rc_10 R) H.1 (fun h Y9 hY R => ?_)
    replace H := H.2 Y9 hY
    clear hY
    refine z_in (q := 5) (n := 1) (v := 1) rfl e5 (by decide) (by decide) (fun lv1 hlv => ?_)
    have e0 := xs1_A hlv e0 rfl rfl
    have e1 := xs1_A hlv e1 rfl rfl
    have e2 := xs1_A hlv e2 rfl rfl
    have e3 := xs1_A hlv e3 rfl rfl
    have e4 := xs1_B hlv e4 rfl rfl
    have e5 := xs1_N hlv
    clear hlv
    refine y_next (pc' := 133) (xst_of (i := (.goto (-27))) (len := 3) rfl rfl rfl) ?_
    exact H _ _ R e0 e1 e2 e3 e4 e5
theorem l_166_0 {V : xV} {g : xG} {Y : xW} {l1 : Int32} {l2 : Int32} {Q : xW → Prop} (H : vp_in l1 300 ∧ ∀ Y1, Y1 = uA Y (10, 0, 0) 36 (Int32.toNatClampNeg l1) l2 → vp_in l1 300 ∧ L_166_14 V g Y1 l1 l2 (fA Y1 (10, 0, 0) 42 (Int32.toNatClampNeg l1)) Q) : L_166_0 V g Y l1 l2 Q := by
  intro h lv R e0 e1 e2
  refine y_next (pc' := 1) (xst_of (i := (.aload_n 0)) (len := 1) rfl rfl (x_aloadV (xisV_r _) e0)) ?_
  refine z_gA (t := (10, 0, 0)) (k := 36) rfl rfl rfl R (rc_10 R) ?_
  refine y_next (pc' := 5) (xst_of (i := (.iload_n 1)) (len := 1) rfl rfl (x_ilo e1)) ?_
  refine y_next (pc' := 6) (xst_of (i := (.iload_n 2)) (len := 1) rfl rfl (x_ilo e2)) ?_
  refine z_sI (t := (10, 0, 0)) (k := 36) (n := 300) (i := l1) rfl rfl R (rc_10 R) H.1 (fun h Y1 hY R => ?_)
  replace H := H.2 Y1 hY
  clear hY
  refine y_next (pc' := 8) (xst_of (i := (.aload_n 0)) (len := 1) rfl rfl (x_aloadV (xisV_r _) e0)) ?_
  refine z_gA (t := (10, 0, 0)) (k := 42) rfl rfl rfl R (rc_10 R) ?_
  refine y_next (pc' := 12) (xst_of (i := (.iload_n 1)) (len := 1) rfl rfl (x_ilo e1)) ?_
  refine z_aI (t := (10, 0, 0)) (k := 42) (n := 300) (i := l1) rfl rfl R (rc_10 R) H.1 ?_
  replace H := H.2
  refine z_is (i := (.istore_n 3)) (len := 1) (pc' := 14) (q := 3) rfl rfl rfl (by decide) (fun lv1 hlv => ?_)
  have e0 := xs1_A hlv e0 rfl rfl
  have e1 := xs1_A hlv e1 rfl rfl
  have e2 := xs1_B hlv e2 rfl rfl
  have e3 := xs1_N hlv
  clear hlv
  exact H _ _ R e0 e1 e2 e3
theorem l_166_14 {V : xV} {g : xG} {Y : xW} {l1 : Int32} {l2 : Int32} {l3 : Int32} {Q : xW → Prop} (H : vp_in l1 300 ∧ vp_in l1 300 ∧ ((((fA Y (10, 0, 0) 42 (Int32.toNatClampNeg l1)) + (fA Y (10, 0, 0) 43 (Int32.toNatClampNeg l1))) ≤ l3) → vp_in l1 300 ∧ ∀ Y1, Y1 = uA Y (10, 0, 0) 42 (Int32.toNatClampNeg l1) (-1) → Q Y1) ∧ (¬ (((fA Y (10, 0, 0) 42 (Int32.toNatClampNeg l1)) + (fA Y (10, 0, 0) 43 (Int32.toNatClampNeg l1))) ≤ l3) → vp_in l3 4096 ∧ ∀ Y2, Y2 = uA Y (10, 0, 0) 51 (Int32.toNatClampNeg l3) (vp_nar .boolean 0) → L_166_14 V g Y2 l1 l2 (l3 + 1) Q)) : L_166_14 V g Y l1 l2 l3 Q := by
  intro h lv R e0 e1 e2 e3
  refine y_next (pc' := 15) (xst_of (i := (.iload_n 3)) (len := 1) rfl rfl (x_ilo e3)) ?_
  refine y_next (pc' := 16) (xst_of (i := (.aload_n 0)) (len := 1) rfl rfl (x_aloadV (xisV_r _) e0)) ?_
  refine z_gA (t := (10, 0, 0)) (k := 42) rfl rfl rfl R (rc_10 R) ?_
  refine y_next (pc' := 20) (xst_of (i := (.iload_n 1)) (len := 1) rfl rfl (x_ilo e1)) ?_
  refine z_aI (t := (10, 0, 0)) (k := 42) (n := 300) (i := l1) rfl rfl R (rc_10 R) H.1 ?_
  replace H := H.2
  refine y_next (pc' := 22) (xst_of (i := (.aload_n 0)) (len := 1) rfl rfl (x_aloadV (xisV_r _) e0)) ?_
  refine z_gA (t := (10, 0, 0)) (k := 43) rfl rfl rfl R (rc_10 R) ?_
  refine y_next (pc' := 26) (xst_of (i := (.iload_n 1)) (len := 1) rfl rfl (x_ilo e1)) ?_
  refine z_aI (t := (10, 0, 0)) (k := 43) (n := 300) (i := l1) rfl rfl R (rc_10 R) H.1 ?_
  replace H := H.2
  refine y_next (pc' := 28) (xst_of (i := .iadd) (len := 1) rfl rfl rfl) ?_
  by_cases hc : ((fA Y (10, 0, 0) 42 (Int32.toNatClampNeg l1)) + (fA Y (10, 0, 0) 43 (Int32.toNatClampNeg l1))) ≤ l3
  · replace H := H.1 hc
    refine y_next (xst_of (i := (.if_icmp .ge 16)) (len := 3) rfl rfl (xt_icmp_ge (t := 44) rfl hc)) ?_
    refine y_next (pc' := 45) (xst_of (i := (.aload_n 0)) (len := 1) rfl rfl (x_aloadV (xisV_r _) e0)) ?_
    refine z_gA (t := (10, 0, 0)) (k := 42) rfl rfl rfl R (rc_10 R) ?_
    refine y_next (pc' := 49) (xst_of (i := (.iload_n 1)) (len := 1) rfl rfl (x_ilo e1)) ?_
    refine y_next (pc' := 50) (xst_of (i := (.iconst (-1))) (len := 1) rfl rfl (x_ico (v := (-1)) (by decide))) ?_
    refine z_sI (t := (10, 0, 0)) (k := 42) (n := 300) (i := l1) rfl rfl R (rc_10 R) H.1 (fun h Y1 hY R => ?_)
    replace H := H.2 Y1 hY
    clear hY
    exact y_ret (xst_of (i := .return_) (len := 1) rfl rfl rfl) ⟨_, rfl, R, H⟩
  · replace H := H.2 hc
    refine y_next (pc' := 31) (xst_of (i := (.if_icmp .ge 16)) (len := 3) rfl rfl (xf_icmp_ge (t := 44) rfl hc)) ?_
    refine y_next (pc' := 32) (xst_of (i := (.aload_n 0)) (len := 1) rfl rfl (x_aloadV (xisV_r _) e0)) ?_
    refine z_gA (t := (10, 0, 0)) (k := 51) rfl rfl rfl R (rc_10 R) ?_
    refine y_next (pc' := 36) (xst_of (i := (.iload_n 3)) (len := 1) rfl rfl (x_ilo e3)) ?_
    refine y_next (pc' := 37) (xst_of (i := (.iconst 0)) (len := 1) rfl rfl (x_ico (v := 0) (by decide))) ?_
    refine z_sZ (t := (10, 0, 0)) (k := 51) (n := 4096) (i := l3) rfl rfl R (rc_10 R) H.1 (fun h Y2 hY R => ?_)
    replace H := H.2 Y2 hY
    clear hY
    refine z_in (q := 3) (n := 1) (v := 1) rfl e3 (by decide) (by decide) (fun lv1 hlv => ?_)
    have e0 := xs1_A hlv e0 rfl rfl
    have e1 := xs1_A hlv e1 rfl rfl
    have e2 := xs1_B hlv e2 rfl rfl
    have e3 := xs1_N hlv
    clear hlv
    refine y_next (pc' := 14) (xst_of (i := (.goto (-27))) (len := 3) rfl rfl rfl) ?_
    exact H _ _ R e0 e1 e2 e3
theorem l_167_0 {V : xV} {g : xG} {Y : xW} {l1 : Int32} {Q : xW → Prop} (H : L_167_4 V g Y l1 (l1 + 1) Q) : L_167_0 V g Y l1 Q := by
  intro h lv R e0 e1
  refine y_next (pc' := 1) (xst_of (i := (.iload_n 1)) (len := 1) rfl rfl (x_ilo e1)) ?_
  refine y_next (pc' := 2) (xst_of (i := (.iconst 1)) (len := 1) rfl rfl (x_ico (v := 1) (by decide))) ?_
  refine y_next (pc' := 3) (xst_of (i := .iadd) (len := 1) rfl rfl rfl) ?_
  refine z_is (i := (.istore_n 2)) (len := 1) (pc' := 4) (q := 2) rfl rfl rfl (by decide) (fun lv1 hlv => ?_)
  have e0 := xs1_A hlv e0 rfl rfl
  have e1 := xs1_B hlv e1 rfl rfl
  have e2 := xs1_N hlv
  clear hlv
  exact H _ _ R e0 e1 e2
theorem l_167_4 {V : xV} {g : xG} {Y : xW} {l1 : Int32} {l2 : Int32} {Q : xW → Prop} (H : (((fI Y (10, 0, 0) 32) ≤ l2) → ∀ Y1, Y1 = uI Y (10, 0, 0) 32 ((fI Y (10, 0, 0) 32) - 1) → ((l1 = 0) → ∀ Y2, Y2 = uI Y1 (10, 0, 0) 33 0 → L_167_51 V g Y2 l1 l2 Q) ∧ (¬ (l1 = 0) → L_167_51 V g Y1 l1 l2 Q)) ∧ (¬ ((fI Y (10, 0, 0) 32) ≤ l2) → vp_in l2 40 ∧ vp_in (l2 - 1) 40 ∧ ∀ Y3, Y3 = uA Y (10, 0, 0) 49 (Int32.toNatClampNeg (l2 - 1)) (fA Y (10, 0, 0) 49 (Int32.toNatClampNeg l2)) → L_167_4 V g Y3 l1 (l2 + 1) Q)) : L_167_4 V g Y l1 l2 Q := by
  intro h lv R e0 e1 e2
  refine y_next (pc' := 5) (xst_of (i := (.iload_n 2)) (len := 1) rfl rfl (x_ilo e2)) ?_
  refine y_next (pc' := 6) (xst_of (i := (.aload_n 0)) (len := 1) rfl rfl (x_aloadV (xisV_r _) e0)) ?_
  refine z_gI (t := (10, 0, 0)) (k := 32) rfl rfl rfl R (rc_10 R) ?_
  by_cases hc : (fI Y (10, 0, 0) 32) ≤ l2
  · replace H := H.1 hc
    refine y_next (xst_of (i := (.if_icmp .ge 23)) (len := 3) rfl rfl (xt_icmp_ge (t := 32) rfl hc)) ?_
    refine y_next (pc' := 33) (xst_of (i := (.aload_n 0)) (len := 1) rfl rfl (x_aloadV (xisV_r _) e0)) ?_
    refine y_next (pc' := 34) (xst_of (i := .dup) (len := 1) rfl rfl (x_dup rfl)) ?_
    refine z_gI (t := (10, 0, 0)) (k := 32) rfl rfl rfl R (rc_10 R) ?_
    refine y_next (pc' := 38) (xst_of (i := (.iconst 1)) (len := 1) rfl rfl (x_ico (v := 1) (by decide))) ?_
    refine y_next (pc' := 39) (xst_of (i := .isub) (len := 1) rfl rfl rfl) ?_
    refine z_pI (t := (10, 0, 0)) (k := 32) rfl rfl rfl rfl rfl R (rc_10 R) (fun h Y1 hY R => ?_)
    replace H := H Y1 hY
    clear hY
    refine y_next (pc' := 43) (xst_of (i := (.iload_n 1)) (len := 1) rfl rfl (x_ilo e1)) ?_
    by_cases hc : l1 = 0
    · replace H := H.1 hc
      refine y_next (pc' := 46) (xst_of (i := (.ifCond .ne 8)) (len := 3) rfl rfl (xf_if_ne (t := 51) rfl (fun z => z hc))) ?_
      refine y_next (pc' := 47) (xst_of (i := (.aload_n 0)) (len := 1) rfl rfl (x_aloadV (xisV_r _) e0)) ?_
      refine y_next (pc' := 48) (xst_of (i := (.iconst 0)) (len := 1) rfl rfl (x_ico (v := 0) (by decide))) ?_
      refine z_pI (t := (10, 0, 0)) (k := 33) rfl rfl rfl rfl rfl R (rc_10 R) (fun h Y2 hY R => ?_)
      replace H := H Y2 hY
      clear hY
      exact H _ _ R e0 e1 e2
    · replace H := H.2 hc
      refine y_next (xst_of (i := (.ifCond .ne 8)) (len := 3) rfl rfl (xt_if_ne (t := 51) rfl hc)) ?_
      exact H _ _ R e0 e1 e2
  · replace H := H.2 hc
    refine y_next (pc' := 12) (xst_of (i := (.if_icmp .ge 23)) (len := 3) rfl rfl (xf_icmp_ge (t := 32) rfl hc)) ?_
    refine y_next (pc' := 13) (xst_of (i := (.aload_n 0)) (len := 1) rfl rfl (x_aloadV (xisV_r _) e0)) ?_
    refine z_gA (t := (10, 0, 0)) (k := 49) rfl rfl rfl R (rc_10 R) ?_
    refine y_next (pc' := 17) (xst_of (i := (.iload_n 2)) (len := 1) rfl rfl (x_ilo e2)) ?_
    refine y_next (pc' := 18) (xst_of (i := (.iconst 1)) (len := 1) rfl rfl (x_ico (v := 1) (by decide))) ?_
    refine y_next (pc' := 19) (xst_of (i := .isub) (len := 1) rfl rfl rfl) ?_
    refine y_next (pc' := 20) (xst_of (i := (.aload_n 0)) (len := 1) rfl rfl (x_aloadV (xisV_r _) e0)) ?_
    refine z_gA (t := (10, 0, 0)) (k := 49) rfl rfl rfl R (rc_10 R) ?_
    refine y_next (pc' := 24) (xst_of (i := (.iload_n 2)) (len := 1) rfl rfl (x_ilo e2)) ?_
    refine z_aI (t := (10, 0, 0)) (k := 49) (n := 40) (i := l2) rfl rfl R (rc_10 R) H.1 ?_
    replace H := H.2
    refine z_sI (t := (10, 0, 0)) (k := 49) (n := 40) (i := (l2 - 1)) rfl rfl R (rc_10 R) H.1 (fun h Y3 hY R => ?_)
    replace H := H.2 Y3 hY
    clear hY
    refine z_in (q := 2) (n := 1) (v := 1) rfl e2 (by decide) (by decide) (fun lv1 hlv => ?_)
    have e0 := xs1_A hlv e0 rfl rfl
    have e1 := xs1_B hlv e1 rfl rfl
    have e2 := xs1_N hlv
    clear hlv
    refine y_next (pc' := 4) (xst_of (i := (.goto (-25))) (len := 3) rfl rfl rfl) ?_
    exact H _ _ R e0 e1 e2
theorem l_167_51 {V : xV} {g : xG} {Y : xW} {l1 : Int32} {l2 : Int32} {Q : xW → Prop} (H : Q Y) : L_167_51 V g Y l1 l2 Q := by
  intro h lv R e0 e1 e2
  exact y_ret (xst_of (i := .return_) (len := 1) rfl rfl rfl) ⟨_, rfl, R, H⟩
theorem l_168_0 {V : xV} {g : xG} {Y : xW} {l0 : Int32} {l1 : Int32} {Q : Int32 → xW → Prop} (H : ((l1 = (-1)) → L_168_13 V g Y l0 l1 (-l0) Q) ∧ (¬ (l1 = (-1)) → (¬ l1 = 0) ∧ L_168_13 V g Y l0 l1 (l0 / l1) Q)) : L_168_0 V g Y l0 l1 Q := by
  intro h lv R e0 e1
  refine y_next (pc' := 1) (xst_of (i := (.iload_n 1)) (len := 1) rfl rfl (x_ilo e1)) ?_
  refine y_next (pc' := 2) (xst_of (i := (.iconst (-1))) (len := 1) rfl rfl (x_ico (v := (-1)) (by decide))) ?_
  by_cases hc : l1 = (-1)
  · replace H := H.1 hc
    refine y_next (pc' := 5) (xst_of (i := (.if_icmp .ne 8)) (len := 3) rfl rfl (xf_icmp_ne (t := 10) rfl (fun z => z hc))) ?_
    refine y_next (pc' := 6) (xst_of (i := (.iload_n 0)) (len := 1) rfl rfl (x_ilo e0)) ?_
    refine y_next (pc' := 7) (xst_of (i := .ineg) (len := 1) rfl rfl rfl) ?_
    refine y_next (pc' := 13) (xst_of (i := (.goto 6)) (len := 3) rfl rfl rfl) ?_
    exact H _ _ R e0 e1
  · replace H := H.2 hc
    refine y_next (xst_of (i := (.if_icmp .ne 8)) (len := 3) rfl rfl (xt_icmp_ne (t := 10) rfl hc)) ?_
    refine y_next (pc' := 11) (xst_of (i := (.iload_n 0)) (len := 1) rfl rfl (x_ilo e0)) ?_
    refine y_next (pc' := 12) (xst_of (i := (.iload_n 1)) (len := 1) rfl rfl (x_ilo e1)) ?_
    refine y_next (pc' := 13) (xst_of (i := .idiv) (len := 1) rfl rfl (x_idiv H.1)) ?_
    replace H := H.2
    exact H _ _ R e0 e1
theorem l_168_13 {V : xV} {g : xG} {Y : xW} {l0 : Int32} {l1 : Int32} {s0 : Int32} {Q : Int32 → xW → Prop} (H : Q s0 Y) : L_168_13 V g Y l0 l1 s0 Q := by
  intro h lv R e0 e1
  exact y_ret (xst_of (i := .ireturn) (len := 1) rfl rfl rfl) ⟨_, _, rfl, R, H⟩
theorem l_169_0 {V : xV} {g : xG} {Y : xW} {l1 : Int32} {l2 : Int32} {l3 : Int32} {Q : xW → Prop} (H : vp_in l1 300 ∧ ∀ Y1, Y1 = uA Y (10, 0, 0) 38 (Int32.toNatClampNeg l1) l2 → vp_in l1 300 ∧ ∀ Y2, Y2 = uA Y1 (10, 0, 0) 39 (Int32.toNatClampNeg l1) l3 → Q Y2) : L_169_0 V g Y l1 l2 l3 Q := by
  intro h lv R e0 e1 e2 e3
  refine y_next (pc' := 1) (xst_of (i := (.aload_n 0)) (len := 1) rfl rfl (x_aloadV (xisV_r _) e0)) ?_
  refine z_gA (t := (10, 0, 0)) (k := 38) rfl rfl rfl R (rc_10 R) ?_
  refine y_next (pc' := 5) (xst_of (i := (.iload_n 1)) (len := 1) rfl rfl (x_ilo e1)) ?_
  refine y_next (pc' := 6) (xst_of (i := (.iload_n 2)) (len := 1) rfl rfl (x_ilo e2)) ?_
  refine z_sI (t := (10, 0, 0)) (k := 38) (n := 300) (i := l1) rfl rfl R (rc_10 R) H.1 (fun h Y1 hY R => ?_)
  replace H := H.2 Y1 hY
  clear hY
  refine y_next (pc' := 8) (xst_of (i := (.aload_n 0)) (len := 1) rfl rfl (x_aloadV (xisV_r _) e0)) ?_
  refine z_gA (t := (10, 0, 0)) (k := 39) rfl rfl rfl R (rc_10 R) ?_
  refine y_next (pc' := 12) (xst_of (i := (.iload_n 1)) (len := 1) rfl rfl (x_ilo e1)) ?_
  refine y_next (pc' := 13) (xst_of (i := (.iload_n 3)) (len := 1) rfl rfl (x_ilo e3)) ?_
  refine z_sI (t := (10, 0, 0)) (k := 39) (n := 300) (i := l1) rfl rfl R (rc_10 R) H.1 (fun h Y2 hY R => ?_)
  replace H := H.2 Y2 hY
  clear hY
  exact y_ret (xst_of (i := .return_) (len := 1) rfl rfl rfl) ⟨_, rfl, R, H⟩
